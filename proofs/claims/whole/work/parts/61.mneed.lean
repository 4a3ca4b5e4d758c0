theorem u207_0 {d : Nat} {l1 : Int} {M : Mem} {K : KK} {Q : RR → Mem → KK → Prop} (hK : K.1 = 923) (hX : FX M)  (h : Q (.inl (some (vI (bI ((0 : Int) ≤ l1 ∧ l1 ≤ (w32 ((M 444 0) - (1 : Int)))))))) M K) : Wp (d + 1) 207 0 [vR 440, vI l1] [] M K Q := by
  refine r_iload_n c207_0 rfl ?_
  refine r_iconst c207_1 ?_
  refine r_aload_n c207_2 rfl ?_
  refine r_getR c207_3 (oK hK o440) (FX.get (b := 444) hX (by decide) (by decide +kernel) (by decide)) (by decide) ?_
  refine r_iconst c207_6 ?_
  refine r_iae c207_7 (oK hK o444) (bd l444 (by decide)) rfl ?_
  refine r_iconst c207_8 ?_
  refine r_isub c207_9 ?_
  refine r_call c207_10 rfl rfl (Nat.le_of_ble_eq_true rfl) (okc_s rfl rfl rfl) (g153 hK hX  (Bk_v ?_))
  exact r_iret c207_13 (Or.inr bI_01) h
theorem u208_0 {d : Nat} {l1 : Int} {M : Mem} {K : KK} {Q : RR → Mem → KK → Prop} (hK : K.1 = 923) (hX : FX M)  (h : Q (.inl (some (vI (bI ((0 : Int) ≤ l1 ∧ l1 ≤ (w32 ((M 444 1) - (1 : Int)))))))) M K) : Wp (d + 1) 208 0 [vR 440, vI l1] [] M K Q := by
  refine r_iload_n c208_0 rfl ?_
  refine r_iconst c208_1 ?_
  refine r_aload_n c208_2 rfl ?_
  refine r_getR c208_3 (oK hK o440) (FX.get (b := 444) hX (by decide) (by decide +kernel) (by decide)) (by decide) ?_
  refine r_iconst c208_6 ?_
  refine r_iae c208_7 (oK hK o444) (bd l444 (by decide)) rfl ?_
  refine r_iconst c208_8 ?_
  refine r_isub c208_9 ?_
  refine r_call c208_10 rfl rfl (Nat.le_of_ble_eq_true rfl) (okc_s rfl rfl rfl) (g153 hK hX  (Bk_v ?_))
  exact r_iret c208_13 (Or.inr bI_01) h
theorem u209_0 {d : Nat} {l1 : Int} {M : Mem} {K : KK} {Q : RR → Mem → KK → Prop} (hK : K.1 = 923) (hX : FX M)  (h : Q (.inl (some (vI (bI ((0 : Int) ≤ l1 ∧ l1 ≤ (w32 ((jshl (1 : Int) (M 444 1)) - (1 : Int)))))))) M K) : Wp (d + 1) 209 0 [vR 440, vI l1] [] M K Q := by
  refine r_iload_n c209_0 rfl ?_
  refine r_iconst c209_1 ?_
  refine r_iconst c209_2 ?_
  refine r_aload_n c209_3 rfl ?_
  refine r_getR c209_4 (oK hK o440) (FX.get (b := 444) hX (by decide) (by decide +kernel) (by decide)) (by decide) ?_
  refine r_iconst c209_7 ?_
  refine r_iae c209_8 (oK hK o444) (bd l444 (by decide)) rfl ?_
  refine r_ishl c209_9 ?_
  refine r_iconst c209_10 ?_
  refine r_isub c209_11 ?_
  refine r_call c209_12 rfl rfl (Nat.le_of_ble_eq_true rfl) (okc_s rfl rfl rfl) (g153 hK hX  (Bk_v ?_))
  exact r_iret c209_15 (Or.inr bI_01) h
section NM
variable {d : Nat} {M M' : Mem} {K : KK} {Q : RR → Mem → KK → Prop} {c s : Mem} {L : LC}
def StM (M : Mem) (n : Nat) : Prop := M 444 1 = (n : Int) ∧ n ≤ 6
def CeM (M : Mem) (n : Nat) : Prop := M 444 0 = (n : Int) ∧ n ≤ 12
theorem GM.stn (h : GM M c L s) : StM M (nSt c) := by
  have := h.1.2.1.2.1
  exact ⟨h.n, by unfold nSt; omega⟩
theorem GM.cen (h : GM M c L s) : CeM M (nCe c) := by
  have := h.1.2.1.1
  have e := h.1.1.1 0 (by decide)
  exact ⟨by rw [e]; unfold nCe; omega, by unfold nCe; omega⟩
theorem StM.t0 {n : Nat} {v : Int} (h : StM M n) : StM (mset M 440 0 v) n := ⟨(ms_na (by decide)).trans h.1, h.2⟩
theorem CeM.t0 {n : Nat} {v : Int} (h : CeM M n) : CeM (mset M 440 0 v) n := ⟨(ms_na (by decide)).trans h.1, h.2⟩
theorem g208 {v : Int} {n : Nat} (hK : K.1 = 923) (hX : FX M) (h : StM M n) (k : Q (.inl (some (vI (bI (0 ≤ v ∧ v < (n : Int)))))) M K) : Wm (d + 1) 208 [vR 440, vI v] M K Q := by
  obtain ⟨a, b⟩ := h
  refine u208_0 hK hX ?_
  rw [bI_c (R := 0 ≤ v ∧ v < (n : Int)) (by rw [a, w32_id (by omega)]; omega)]; exact k
theorem g207 {v : Int} {n : Nat} (hK : K.1 = 923) (hX : FX M) (h : CeM M n) (k : Q (.inl (some (vI (bI (0 ≤ v ∧ v < (n : Int)))))) M K) : Wm (d + 1) 207 [vR 440, vI v] M K Q := by
  obtain ⟨a, b⟩ := h
  refine u207_0 hK hX ?_
  rw [bI_c (R := 0 ≤ v ∧ v < (n : Int)) (by rw [a, w32_id (by omega)]; omega)]; exact k
theorem g209 {v : Int} {n : Nat} (hK : K.1 = 923) (hX : FX M) (h : StM M n) (k : Q (.inl (some (vI (bI (0 ≤ v ∧ v < ((2 ^ n : Nat) : Int)))))) M K) : Wm (d + 1) 209 [vR 440, vI v] M K Q := by
  obtain ⟨a, b⟩ := h
  refine u209_0 hK hX ?_
  have p6 : 2 ^ n ≤ 2 ^ 6 := Nat.pow_le_pow_right (by decide) b
  have p0 : 0 < 2 ^ n := Nat.pow_pos (by decide)
  rw [bI_c (R := 0 ≤ v ∧ v < ((2 ^ n : Nat) : Int)) (by rw [a, jshl_1 (by omega), w32_id (by omega)]; omega)]; exact k
end NM
