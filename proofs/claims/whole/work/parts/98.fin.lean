/-! the start: what holds at the loop's head; the pure claim -/
theorem gd0 : ∀ (l : List Nat) (k : Nat), l.length ≤ k → l.getD k 0 = 0 := by
  intro l k h
  simp [List.getD, List.getElem?_eq_none h]
theorem fx_b : ∀ a k, a < 923 → 0 < fxT a k → k < fxN a := by
  intro a k ha hk
  unfold fxT at hk
  split at hk
  · omega
  · unfold fxU at hk
    unfold fxN
    split at hk
    all_goals (rename_i ht; try rw [ht])
    all_goals first
      | (split at hk <;> first | omega | (simp; omega) | (simp; done))
      | omega
      | (simp only [reduceCtorEq]
         by_cases h9 : k < 11
         · simp; omega
         · exfalso
           refine absurd hk (Nat.not_lt.mpr (Nat.le_of_eq (gd0 _ k ?_)))
           show 11 ≤ k; omega)
      | (by_cases h9 : k < 47
         · simp; omega
         · exfalso
           refine absurd hk (Nat.not_lt.mpr (Nat.le_of_eq (gd0 _ k ?_)))
           show 47 ≤ k; omega)
theorem chk_fx {M X : Mem} (h : chkX M = true) : FX (bl X M) := by
  intro a k ha hk
  by_cases h32 : a < 32
  · unfold fxT at hk; rw [if_pos h32] at hk; omega
  · have hb := fx_b a k ha hk
    simp only [chkX, List.all_eq_true, List.mem_range, Bool.or_eq_true, decide_eq_true_eq] at h
    rw [bl_r (by omega)]
    rcases h a ha with h9 | h9
    · exact absurd (Nat.le_of_ble_eq_true h9) (by omega)
    · rcases h9 k hb with h8 | h8
      · have := Nat.eq_of_beq_eq_true h8; omega
      · exact h8
theorem chk_f {M X : Mem} (h : chkV M = true) {a k : Nat} {v : Int} (hm : (a, k, v) ∈ fctL) : bl X M a k = v := by
  have h32 : ∀ e ∈ fctL, 32 ≤ e.1 := by decide
  rw [bl_r (h32 _ hm)]
  simp only [chkV, List.all_eq_true, decide_eq_true_eq] at h
  exact h _ hm
theorem chk_rz {M X : Mem} (h : chkV M = true) : RZ (bl X M) := by
  have f : ∀ {a k : Nat} {v : Int}, (a, k, v) ∈ fctL → bl X M a k = v := fun hm => chk_f h hm
  have n0 : nSt c00 = 0 := by first | decide | simp [nSt, c00]
  have hlw : LW c00 (begS c00) := begS_w CW00
  have e0 : begS c00 4 0 = 0 := by simp [begS]
  have e1 : begS c00 4 1 = 5 := by simp [begS, c00]
  have hI : IV 0 (fun _ => 0) c00 (begS c00) [] [] [] := IV.com CW00
  have z : ∀ j, j < 4 → c00 0 j = 0 := fun j hj => by
    rcases (show j = 0 ∨ j = 1 ∨ j = 2 ∨ j = 3 by omega) with rfl | rfl | rfl | rfl <;> rfl
  have zc : ∀ a, 1 ≤ a → a ≤ 5 → c00 0 (cntOf a) = 0 := fun a h1 h2 => by
    rcases (show a = 1 ∨ a = 2 ∨ a = 3 ∨ a = 4 ∨ a = 5 by omega) with rfl | rfl | rfl | rfl | rfl <;> rfl
  refine ⟨0, fun _ => 0, -1, c00, [], begS c00, [], [], [], 0, 0, 0, hI, ⟨⟨f (by decide), fun i hi => absurd hi (by omega), f (by decide)⟩, ⟨153, 159, 163, 169, 173, ⟨f (by decide), by decide +kernel, ⟨⟨fun k hk => ?_, fun a h1 h2 i hi => ?_⟩, CW00, ⟨fun p hp => absurd hp (by rw [n0]; omega), ?_, ?_⟩, hlw⟩, ⟨f (by decide), by decide +kernel, ⟨f (by decide), by decide, fun i hi => ?_⟩, Vd_PL⟩⟩, ⟨f (by decide), by decide +kernel, by decide, f (by decide), by decide +kernel⟩, ⟨f (by decide), by decide +kernel⟩, by decide, by decide, by decide⟩, ⟨177, 178, ⟨f (by decide), by decide +kernel, f (by decide), f (by decide), f (by decide)⟩, f (by decide), by decide +kernel, by decide⟩, ⟨f (by decide), by simp, fun i hi => absurd hi (by simp)⟩, ⟨f (by decide), fun i hi => absurd hi (by simp)⟩, ⟨f (by decide), f (by decide), f (by decide)⟩, ⟨145, 146, Or.inl ⟨rfl, rfl⟩, f (by decide), f (by decide)⟩⟩, ⟨f (by decide), fun i hi => absurd hi (by omega), f (by decide)⟩, ⟨⟨⟨fun k hk => ?_, fun i hi => ?_, fun i hi => ?_, fun i hi => ?_, fun i hi => ?_⟩, CW00, ⟨fun p hp => absurd hp (by rw [n0]; omega), ?_, ?_⟩, hlw, f (by decide)⟩, f (by decide), by simp, fun i hi => absurd hi (by simp), Or.inl rfl⟩, ⟨f (by decide), by simp, fun k hk => absurd hk (by simp)⟩, ⟨f (by decide), fun i hi => absurd hi (by simp)⟩, ⟨f (by decide), fun i hi => absurd hi (by simp)⟩, f (by decide), f (by decide), f (by decide)⟩
  · rcases (show k = 0 ∨ k = 1 ∨ k = 2 ∨ k = 3 ∨ k = 4 ∨ k = 5 by omega) with rfl | rfl | rfl | rfl | rfl | rfl <;> exact f (by decide)
  · rw [zc a h1 h2] at hi; omega
  · rw [e0]; exact f (by decide)
  · rw [e1]; exact f (by decide)
  · have hi9 : i < 9 := hi
    rcases (show i = 0 ∨ i = 1 ∨ i = 2 ∨ i = 3 ∨ i = 4 ∨ i = 5 ∨ i = 6 ∨ i = 7 ∨ i = 8 by omega) with rfl | rfl | rfl | rfl | rfl | rfl | rfl | rfl | rfl <;> exact f (by decide)
  · rcases (show k = 0 ∨ k = 1 ∨ k = 2 ∨ k = 3 ∨ k = 4 ∨ k = 5 by omega) with rfl | rfl | rfl | rfl | rfl | rfl <;> exact f (by decide)
  · rw [z 0 (by decide)] at hi; omega
  · rw [z 1 (by decide)] at hi; omega
  · rw [z 2 (by decide)] at hi; omega
  · rw [z 3 (by decide)] at hi; omega
  · rw [e0]; exact f (by decide)
  · rw [e1]; exact f (by decide)
theorem Wm_of {f d x : Nat} {ar : List PV} {M M' : Mem} {K K' : KK} {Q : RR → Mem → KK → Prop} {r : RR} (h : run f d x 0 (mkL x ar) [] M K = some (r, M', K')) (q : Q r M' K') : Wm d x ar M K Q := by
  unfold Wm Wp; exact ⟨f, r, M', K', h, q⟩
theorem pure_ok : PureClaim := by
  intro L xs hL _
  obtain ⟨N1, e1⟩ := okR_eq ok97
  obtain ⟨N2, e2⟩ := okR_eq ok149
  have m1 : M97 = N1 := by unfold M97; rw [e1]
  have m2 : M149 = N2 := by unfold M149; rw [e2]
  have hx := okX
  have hc := okV
  rw [m2] at hx hc
  unfold R97 at e1
  unfold R149 at e2
  rw [m1] at e2
  have b0 : bl (M0 L xs) Z0 = M0 L xs := by
    funext a k
    unfold bl M0
    split
    · rfl
    · rw [if_neg (by omega), if_neg (by omega)]
  have r1 := (run2_run (X := M0 L xs) 3000 e1 (by decide)).2
  rw [b0] at r1
  have r2 := (run2_run (X := M0 L xs) 3000 e2 (by decide)).2
  refine r_new c288_0 ⟨by decide +kernel, by decide⟩ (r_dupr c288_3 (r_call c288_4 rfl rfl (by decide) (by decide +kernel) (Wm_of r1 (Bk_n ?_))))
  refine r_astore_n c288_7 (by decide) (r_new c288_8 ⟨by decide +kernel, by decide⟩ (r_dupr c288_11 (r_call c288_12 rfl rfl (by decide) (by decide +kernel) (Wm_of r2 (Bk_n ?_)))))
  refine r_astore_n c288_15 (by decide) (r_iconst c288_16 (r_newarray c288_17 ⟨by decide +kernel, by decide +kernel⟩ (r_astore_n c288_19 (by decide) (r_iconst c288_20 (r_istore c288_21 (by decide) ?_)))))
  have e30 : bl (M0 L xs) N2 30 0 = (L : Int) := rfl
  exact fin_loop (d := 1939) 512 0 (bl (M0 L xs) N2) (923, 891, 17562) vU vU rfl (chk_fx hx) (chk_rz hc) (by rw [e30]; omega) (by rw [e30]; omega) (by rw [e30]; omega) (by decide) (by decide) (by decide)
