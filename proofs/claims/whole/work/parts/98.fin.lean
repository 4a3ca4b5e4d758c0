/-! the start: what holds at the loop's head; the pure claim -/
theorem fx_b : ∀ a k, a < 922 → 0 < fxT a k → k < 90 := by
  have hl : ∀ a, a < 922 → (tg a = 33 ∨ tg a = 36 ∨ tg a = 40) → ln a ≤ 90 := by decide +kernel
  intro a k ha hk
  have hla := hl a ha
  unfold fxT at hk
  split at hk
  · omega
  · unfold fxU at hk
    split at hk <;> (try omega)
    · by_cases h9 : k < 90
      · exact h9
      · rw [List.getD_eq_default _ _ (by simp; omega)] at hk; omega
    · by_cases h9 : k < 90
      · exact h9
      · rw [List.getD_eq_default _ _ (by simp; omega)] at hk; omega
    all_goals (rename_i ht; split at hk <;> first | omega | (have := hla (by omega); omega))
theorem chk_fx {M X : Mem} (h : chk M = true) : FX (bl X M) := by
  intro a k ha hk
  by_cases h32 : a < 32
  · unfold fxT at hk; rw [if_pos h32] at hk; omega
  · have hb := fx_b a k ha hk
    simp only [chk, Bool.and_eq_true, List.all_eq_true, List.mem_range, Bool.or_eq_true, decide_eq_true_eq] at h
    rw [bl_r (by omega)]
    rcases h.1 a ha with h9 | h9
    · exact absurd (Nat.le_of_ble_eq_true h9) (by omega)
    · rcases h9 k hb with h8 | h8
      · have := Nat.eq_of_beq_eq_true h8; omega
      · exact h8
theorem chk_f {M X : Mem} (h : chk M = true) {a k : Nat} {v : Int} (hm : (a, k, v) ∈ fcts) : bl X M a k = v := by
  have h32 : ∀ e ∈ fcts, 32 ≤ e.1 := by decide
  rw [bl_r (h32 _ hm)]
  simp only [chk, Bool.and_eq_true, List.all_eq_true, decide_eq_true_eq] at h
  exact h.2 _ hm
theorem chk_rz {M X : Mem} (h : chk M = true) : RZ (bl X M) := by
  have f : ∀ {a k : Nat} {v : Int}, (a, k, v) ∈ fcts → bl X M a k = v := fun hm => chk_f h hm
  have n0 : nSt c00 = 0 := by decide
  have hlw : LW c00 (begS c00) := begS_w CW00
  have e0 : begS c00 4 0 = 0 := by decide
  have e1 : begS c00 4 1 = 5 := by decide
  have hI : IV 0 (fun _ => 0) c00 (begS c00) [] [] [] := IV.com CW00
  have c6 : ∀ k, k < 6 → c00 0 k = if k = 4 then 5 else if k = 5 then 1 else 0 := fun k _ => by simp [c00]
  have cz : ∀ a, a < 6 → ∀ i : Nat, ¬ (i : Int) < c00 0 a ∨ a = 4 ∨ a = 5 := fun a ha i => by
    rcases (show a = 0 ∨ a = 1 ∨ a = 2 ∨ a = 3 ∨ a = 4 ∨ a = 5 by omega) with rfl | rfl | rfl | rfl | rfl | rfl <;> simp [c00] <;> omega
  refine ⟨0, fun _ => 0, -1, c00, [], begS c00, [], [], [], 0, 0, 0, hI, ⟨⟨f (by decide), fun i hi => absurd hi (by omega), f (by decide)⟩, ⟨152, 158, 162, 168, 172, ⟨f (by decide), by decide +kernel, ⟨⟨fun k hk => ?_, fun a h1 h2 i hi => ?_⟩, CW00, ⟨fun p hp => absurd hp (by rw [n0]; omega), ?_, ?_⟩, hlw⟩, ⟨f (by decide), by decide +kernel, ⟨f (by decide), by decide, fun i hi => ?_⟩, Vd_PL⟩⟩, ⟨f (by decide), by decide +kernel, by decide, f (by decide), by decide +kernel⟩, ⟨f (by decide), by decide +kernel⟩, by decide, by decide, by decide⟩, ⟨176, 177, ⟨f (by decide), by decide +kernel, f (by decide), f (by decide), f (by decide)⟩, f (by decide), by decide +kernel, by decide⟩, ⟨f (by decide), by simp, fun i hi => absurd hi (by simp)⟩, ⟨f (by decide), fun i hi => absurd hi (by simp)⟩, ⟨f (by decide), f (by decide), f (by decide)⟩, ⟨144, 145, Or.inl ⟨rfl, rfl⟩, f (by decide), f (by decide)⟩⟩, ⟨f (by decide), fun i hi => absurd hi (by omega), f (by decide)⟩, ⟨⟨⟨fun k hk => ?_, fun i hi => ?_, fun i hi => ?_, fun i hi => ?_, fun i hi => ?_⟩, CW00, ⟨fun p hp => absurd hp (by rw [n0]; omega), ?_, ?_⟩, hlw, f (by decide)⟩, f (by decide), by simp, fun i hi => absurd hi (by simp), Or.inl rfl⟩, ⟨f (by decide), by simp, fun k hk => absurd hk (by simp)⟩, ⟨f (by decide), fun i hi => absurd hi (by simp)⟩, ⟨f (by decide), fun i hi => absurd hi (by simp)⟩, f (by decide), f (by decide), f (by decide)⟩
  · rcases (show k = 0 ∨ k = 1 ∨ k = 2 ∨ k = 3 ∨ k = 4 ∨ k = 5 by omega) with rfl | rfl | rfl | rfl | rfl | rfl <;> exact f (by decide)
  · rcases (show a = 1 ∨ a = 2 ∨ a = 3 ∨ a = 4 ∨ a = 5 by omega) with rfl | rfl | rfl | rfl | rfl <;> (simp [cntOf, c00] at hi; try omega)
  · rw [e0]; exact f (by decide)
  · rw [e1]; exact f (by decide)
  · have hi9 : i < 9 := hi
    rcases (show i = 0 ∨ i = 1 ∨ i = 2 ∨ i = 3 ∨ i = 4 ∨ i = 5 ∨ i = 6 ∨ i = 7 ∨ i = 8 by omega) with rfl | rfl | rfl | rfl | rfl | rfl | rfl | rfl | rfl <;> exact f (by decide)
  · rcases (show k = 0 ∨ k = 1 ∨ k = 2 ∨ k = 3 ∨ k = 4 ∨ k = 5 by omega) with rfl | rfl | rfl | rfl | rfl | rfl <;> exact f (by decide)
  · simp [c00] at hi; omega
  · simp [c00] at hi; omega
  · simp [c00] at hi; omega
  · simp [c00] at hi; omega
  · rw [e0]; exact f (by decide)
  · rw [e1]; exact f (by decide)
theorem pure_ok : PureClaim := by
  intro L xs hL _
  obtain ⟨N1, e1⟩ := okR_eq ok97
  have h2 := ok149
  rw [Bool.and_eq_true] at h2
  obtain ⟨N2, e2⟩ := okR_eq h2.1
  have m1 : M97 = N1 := by unfold M97; rw [e1]
  have m2 : M149 = N2 := by unfold M149; rw [e2]
  have hc := h2.2
  rw [m2] at hc
  unfold R97 at e1
  unfold R149 at e2
  rw [m1] at e2
  have b0 : bl (M0 L xs) Z0 = M0 L xs := by
    funext a k
    unfold bl M0
    split
    · rfl
    · rw [if_neg (by omega), if_neg (by omega)]
  have r1 := (run2_run (X := M0 L xs) 3000 e1 (by decide)).2
  rw [b0] at r1
  have r2 := (run2_run (X := M0 L xs) 3000 e2 (by decide)).2
  refine r_new c288_0 ⟨by decide +kernel, by decide⟩ (r_dupr c288_3 (r_call c288_4 rfl rfl (by decide) (by decide +kernel) ⟨3000, .inl none, bl (M0 L xs) N1, (439, 407, 33712), r1, Bk_n ?_⟩))
  refine r_astore_n c288_7 (by decide) (r_new c288_8 ⟨by decide +kernel, by decide⟩ (r_dupr c288_11 (r_call c288_12 rfl rfl (by decide) (by decide +kernel) ⟨3000, .inl none, bl (M0 L xs) N2, (921, 889, 38100), r2, Bk_n ?_⟩)))
  refine r_astore_n c288_15 (by decide) (r_iconst c288_16 (r_newarray c288_17 ⟨by decide +kernel, by decide +kernel⟩ (r_astore_n c288_19 (by decide) (r_iconst c288_20 (r_istore c288_21 (by decide) ?_)))))
  have e30 : bl (M0 L xs) N2 30 0 = (L : Int) := rfl
  exact fin_loop (d := 1939) 512 0 (bl (M0 L xs) N2) (922, 890, 38101) vU vU rfl (chk_fx hc) (chk_rz hc) (by rw [e30]; omega) (by rw [e30]; omega) (by rw [e30]; omega) (by decide) (by decide) (by decide)
