/-! the code table's entries -/
theorem mx_ok (m : Nat) (h : m < 290) : mxT.getD m 0 ≤ 20 ∧ npT.getD m 0 + (if Nat.beq (rcT.getD m 0) 99 then 0 else 1) ≤ mxT.getD m 0 := by
  have h1 : (List.range 290).all (fun m => Nat.ble (mxT.getD m 0) 20 && Nat.ble (npT.getD m 0 + (if Nat.beq (rcT.getD m 0) 99 then 0 else 1)) (mxT.getD m 0)) = true := by decide +kernel
  have h2 := List.all_eq_true.mp h1 m (List.mem_range.mpr h)
  simp only [Bool.and_eq_true] at h2
  exact ⟨Nat.le_of_ble_eq_true h2.1, Nat.le_of_ble_eq_true h2.2⟩
theorem hh_eq (m : Nat) (h : m < 290) : (hT.getD m []).isEmpty = (hhM m).isEmpty := by
  have h1 : (List.range 290).all (fun m => decide ((hT.getD m []).isEmpty = (hhT.getD m []).isEmpty)) = true := by decide +kernel
  exact of_decide_eq_true (List.all_eq_true.mp h1 m (List.mem_range.mpr h))
theorem cd_at {m pc : Nat} {c : CI} (h : cd m pc = c) (hn : c.1 ≠ .nop) : m < 290 ∧ (pc, c) ∈ mtab.getD m [] := by
  unfold cd at h
  split at h
  · rename_i e he
    have h1 := List.mem_of_find?_eq_some he
    have h0 := List.find?_some (p := fun e : Nat × CI => Nat.beq e.1 pc) he
    have h2 : e.1 = pc := Nat.eq_of_beq_eq_true h0
    subst h
    refine ⟨?_, by rw [← h2]; exact h1⟩
    by_cases hm : m < 290
    · exact hm
    · exfalso
      have hl : mtab.length = 290 := by decide +kernel
      rw [List.getD_eq_getElem?_getD, List.getElem?_eq_none (by omega)] at h1
      exact nomatch h1
  · subst h
    exact absurd rfl hn
theorem cd_ck {m pc : Nat} {ins : Instr} {n x y : Nat} {z : Int} (h : cd m pc = (ins, n, x, y, z)) (hn : ins ≠ .nop) : m < 290 ∧ decode (byt m) pc = .ok (ins, n) ∧ chkI m pc ins n x y z = true ∧ (lkk m (ins, n, x, y, z) = 1 → lkW m (ins, n, x, y, z) ∈ bw) ∧ (lkk m (ins, n, x, y, z) = 2 → lkW m (ins, n, x, y, z) ∈ nw) ∧
    (x ≠ 0 → ∀ i, ins = .ldc i → (ssT.getD (y - 2) ("", 0, "")).1 = own m ∧ (ssT.getD (y - 2) ("", 0, "")).2.1 = i) := by
  obtain ⟨h1, h2⟩ := cd_at h hn
  obtain ⟨f1, f2, f3, -, -, -, -, f8⟩ := fl_290 m h1
  have h3 := List.all_eq_true.mp f1 _ h2
  unfold chkE at h3
  simp only [Bool.and_eq_true] at h3
  refine ⟨h1, of_decide_eq_true h3.1, h3.2, fun hk => f2 _ (List.mem_map.mpr ⟨_, List.mem_filter.mpr ⟨h2, by show Nat.beq (lkk m (ins, n, x, y, z)) 1 = true; rw [hk]; rfl⟩, rfl⟩), fun hk => f3 _ (List.mem_map.mpr ⟨_, List.mem_filter.mpr ⟨h2, by show Nat.beq (lkk m (ins, n, x, y, z)) 2 = true; rw [hk]; rfl⟩, rfl⟩), fun hx i hi => ?_⟩
  subst hi
  have hm : (pc, ((.ldc i, n, x, y, z) : CI)) ∈ (mtab.getD m []).filter (fun e => isSL e.2) := by
    refine List.mem_filter.mpr ⟨h2, ?_⟩
    show (!(Nat.beq x 0)) = true
    cases hb : Nat.beq x 0
    · rfl
    · exact absurd (Nat.eq_of_beq_eq_true hb) hx
  obtain ⟨j, hj⟩ := List.getElem?_of_mem hm
  have e1 : (((mtab.getD m []).filter (fun e => isSL e.2)).map (fun e => (own m, ldI e.2)))[j]? = some (own m, i) := by rw [List.getElem?_map, hj]; rfl
  rw [f8, List.getElem?_map, hj] at e1
  have e2 := Option.some.inj e1
  exact ⟨congrArg Prod.fst e2, congrArg Prod.snd e2⟩
theorem str_ck {m pc i n x y : Nat} {z : Int} (h : cd m pc = (.invokevirtual i, n, x, y, z)) : (x = 1004 → m = 94 ∧ i = 62) ∧ (x = 1005 → m = 94 ∧ i = 67) := by
  have h1 : (List.range 290).all (fun m => (mtab.getD m []).all (fun e => match e.2.1 with
    | .invokevirtual i => (!(Nat.beq e.2.2.2.1 1004) || (Nat.beq m 94 && Nat.beq i 62)) && (!(Nat.beq e.2.2.2.1 1005) || (Nat.beq m 94 && Nat.beq i 67))
    | _ => true)) = true := by decide +kernel
  obtain ⟨h2, h3⟩ := cd_at h (fun h => by cases h)
  have h4 := List.all_eq_true.mp (List.all_eq_true.mp h1 m (List.mem_range.mpr h2)) _ h3
  simp only [Bool.and_eq_true, Bool.or_eq_true] at h4
  refine ⟨fun hx => ?_, fun hx => ?_⟩
  · subst hx
    rcases h4.1 with h5 | h5
    · exact absurd h5 (by decide)
    · exact ⟨Nat.eq_of_beq_eq_true h5.1, Nat.eq_of_beq_eq_true h5.2⟩
  · subst hx
    rcases h4.2 with h5 | h5
    · exact absurd h5 (by decide)
    · exact ⟨Nat.eq_of_beq_eq_true h5.1, Nat.eq_of_beq_eq_true h5.2⟩
