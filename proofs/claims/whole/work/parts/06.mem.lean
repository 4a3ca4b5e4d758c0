/-! one instruction: objects and arrays -/
section SM
variable {p : Program} {l : Launch} {e : Env} {R : Room} {s : State} {m : MethodId} {args : Array Value} {below : List Frame} {meth : Method} {c : Code} {H : Heap} {locs : List Loc} {cells slots : Nat} {Q : State → Prop}
variable {cc : ByteArray} {pc n x y : Nat} {z : Int} {ls : Array Slot} {rest : List Value} {ρ : Nat → Nat} {nL : Nat} {pls st : List PV} {M : Mem} {K : KK} {q : PS}
variable {D : va_G} {tys : List (ClassId × FieldType)} {ws : va_W} {A : Nat → Prop} {H0 : Heap} {own : String} {Ts : List Cond}
/-- a reading row's premises -/
theorem so_getI {index : Nat} (hexec : p.tables.exec = Jvm.exec) (hb : c.code = cc) (hts : ∀ w ∈ Ts, w.before args s = true) (hown : s.vm.findClass own = some m.cls) {r : vw_C} (hc : vwCl[x]? = some r) (hx : x < 13) (hin : ∀ w ∈ u_ws r.1 r.2.1 r.2.2, w ∈ Ts) (hy : y < r.2.2) (hlink : (Cond.fieldLink own index (r.2.1 y).1 (r.2.1 y).2.1 (r.2.1 y).2.2.1).before args s = true ∨ ∃ host, (Cond.fieldLinkNest own index (r.2.1 y).1 (r.2.1 y).2.1 (r.2.1 y).2.2.1 host).before args s = true)
    (hz : (z = 0 ∧ tyO x y = .int) ∨ (z = 1 ∧ tyO x y = .long) ∨ (z = 2 ∧ tyO x y ≠ .int ∧ tyO x y ≠ .long)) (hdg : decode cc pc = .ok (.getfield index, 3)) (hR : RW ρ tys M K.1 ws) (hK : va_K D vwCl tys s) (hP : va_P D vwCl ws H)
    (h : pA st (fun a r => if isO K.1 a x = true then (if z = 0 then some (pc + 3, pls, vI (M a y) :: r, M, K) else if z = 1 then some (pc + 3, pls, vL (M a y) :: r, M, K) else if 0 < M a y then some (pc + 3, pls, vR (M a y).toNat :: r, M, K) else none) else none) = some q)
    (hs : SR ρ K.1 st rest) (hk : ∀ rest', SR ρ K.1 q.2.2.1 rest' → W p l e R s m args below meth c H locs cells slots Q (F0 m q.1 ls rest')) : W p l e R s m args below meth c H locs cells slots Q (F0 m pc ls rest) := by
  unfold pA at h
  split at h
  case h_2 => cases h
  rename_i a r9
  dsimp only at h
  split at h
  case isFalse => cases h
  rename_i hO
  obtain ⟨r2, rfl, ha, hs2⟩ := hs.a
  obtain ⟨e0, e1, e2, e3, e4⟩ := hR.at hO
  obtain ⟨r', fs, f1, rfl, f3, f4⟩ := e2.o hx
  cases Option.some.inj (hc.symm.trans f1)
  obtain ⟨v, g1, g2⟩ := f4 y hy
  have row : W p l e R s m args below meth c H locs cells slots Q (F0 m (pc + 3) ls (v :: r2)) → W p l e R s m args below meth c H locs cells slots Q (F0 m pc ls (.ref (ρ a) :: r2)) :=
    fun k => by
      rcases hlink with hlink | ⟨host, hlink⟩
      · exact va_get (D := D) (cl := vwCl) (C := r.1) (T := r.2.1) (N := r.2.2) (ci := x) hexec hb hts hin hown hK hP (a - 32) e1 hc y hy hlink (fun _ h9 => h9) g1 hdg k
      · exact va_getN (D := D) (cl := vwCl) (C := r.1) (T := r.2.1) (N := r.2.2) (ci := x) hexec hb hts hin hown hK hP (a - 32) e1 hc y hy hlink (fun _ h9 => h9) g1 hdg k
  rcases hz with ⟨hz, ht⟩ | ⟨hz, ht⟩ | ⟨hz, ht, ht2⟩
  · rw [if_pos hz] at h
    cases h
    rw [ht] at g2
    obtain ⟨xv, rfl, g3⟩ := g2
    exact row (hk _ (SR.pi xv g3 hs2))
  · rw [if_neg (by omega), if_pos hz] at h
    cases h
    rw [ht] at g2
    obtain ⟨xv, rfl, g3⟩ := g2
    exact row (hk _ (SR.pl xv g3 hs2))
  · rw [if_neg (by omega), if_neg (by omega)] at h
    split at h
    case isFalse => cases h
    rename_i hp
    cases h
    have g4 : (M a y = 0 ∧ v = .null) ∨ (0 < M a y ∧ (M a y).toNat < K.1 ∧ v = .ref (ρ (M a y).toNat)) := by
      unfold FR at g2
      split at g2
      · exact absurd ‹_› ht
      · exact absurd ‹_› ht2
      · exact g2
    rcases g4 with g4 | ⟨-, g5, rfl⟩
    · omega
    · exact row (hk _ (SR.pa g5 hs2))
theorem FR.narrow {nm : Nat} {ty : FieldType} {v : PV} {w : Value} {z : Int} (hz : (z = 0 ∧ ty = .int) ∨ (z = 1 ∧ ty = .long) ∨ (z = 2 ∧ ((∃ C, ty = .object C) ∨ ∃ t, ty = .array t))) (hv : VR ρ nm v w)
    (h : (z = 0 ∧ ∃ i, v = vI i) ∨ (z = 1 ∧ ∃ i, v = vL i) ∨ (z = 2 ∧ ∃ a, v = vR a)) : Jvm.narrow ty w = w ∧ Jvm.fits ty w = true := by
  rcases h with ⟨h, i, rfl⟩ | ⟨h, i, rfl⟩ | ⟨h, i, rfl⟩
  · obtain ⟨xv, rfl, -⟩ := hv
    rcases hz with ⟨_, rfl⟩ | ⟨_, rfl⟩ | ⟨_, ⟨C, rfl⟩ | ⟨t, rfl⟩⟩ <;> first | exact ⟨rfl, rfl⟩ | omega
  · obtain ⟨xv, rfl, -⟩ := hv
    rcases hz with ⟨_, rfl⟩ | ⟨_, rfl⟩ | ⟨_, ⟨C, rfl⟩ | ⟨t, rfl⟩⟩ <;> first | exact ⟨rfl, rfl⟩ | omega
  · obtain ⟨rfl, -⟩ := hv
    rcases hz with ⟨_, rfl⟩ | ⟨_, rfl⟩ | ⟨_, ⟨C, rfl⟩ | ⟨t, rfl⟩⟩ <;> first | exact ⟨rfl, rfl⟩ | omega
theorem so_put1 {index a : Nat} {w : Value} {v : PV} {zz : Int} {r2 : List Value} (hexec : p.tables.exec = Jvm.exec) (hb : c.code = cc) (hts : ∀ w ∈ Ts, w.before args s = true) (hown : s.vm.findClass own = some m.cls) {r : vw_C} (hc : vwCl[x]? = some r) (hx : x < 13) (hin : ∀ w ∈ u_ws r.1 r.2.1 r.2.2, w ∈ Ts) (hy : y < r.2.2) (hlink : (Cond.fieldLink own index (r.2.1 y).1 (r.2.1 y).2.1 (r.2.1 y).2.2.1).before args s = true ∨ ((r.2.1 y).2.2.2 = false ∧ ∃ host, (Cond.fieldLinkNest own index (r.2.1 y).1 (r.2.1 y).2.1 (r.2.1 y).2.2.1 host).before args s = true))
    (hty : ∀ k, k < r.2.2 → parseFieldDescriptor (r.2.1 k).2.2.1 = some (tyO x k)) (hnm : ∀ a, a < r.2.2 → ∀ b, b < r.2.2 → a ≠ b → (r.2.1 a).2.1 ≠ (r.2.1 b).2.1) (hfin : (r.2.1 y).2.2.2 = true → meth.name = "<init>" ∧ (r.2.1 y).1 = own)
    (hz : (z = 0 ∧ tyO x y = .int) ∨ (z = 1 ∧ tyO x y = .long) ∨ (z = 2 ∧ ((∃ C, tyO x y = .object C) ∨ ∃ t, tyO x y = .array t))) (hdg : decode cc pc = .ok (.putfield index, 3)) (hR : RW ρ tys M K.1 ws) (hK : va_K D vwCl tys s) (hP : va_P D vwCl ws H) (hD : va_D A ws) (hS : va_S A H0 H locs)
    (hO : isO K.1 a x = true) (hv : VR ρ K.1 v w) (hvz : (z = 0 ∧ ∃ i, v = vI i ∧ zz = i) ∨ (z = 1 ∧ ∃ i, v = vL i ∧ zz = i) ∨ (z = 2 ∧ ∃ b, v = vR b ∧ zz = (b : Int) ∧ 0 < b))
    (hk : ∀ (ws' : va_W) (H' : Heap) (locs' : List Loc), RW ρ tys (mset M a y zz) K.1 ws' → va_P D vwCl ws' H' → va_D A ws' → va_S A H0 H' locs' → W p l e R s m args below meth c H' locs' cells slots Q (F0 m (pc + 3) ls r2)) : W p l e R s m args below meth c H locs cells slots Q (F0 m pc ls (w :: .ref (ρ a) :: r2)) := by
  obtain ⟨e0, e1, e2, e3, e4⟩ := hR.at hO
  have htg : tg a = x := by
    unfold isO at hO
    simp only [Bool.and_eq_true, Nat.beq_eq_true_eq] at hO
    exact Nat.eq_of_beq_eq_true hO.2.2
  obtain ⟨r', fs, f1, rfl, f3, f4⟩ := e2.o hx
  cases Option.some.inj (hc.symm.trans f1)
  obtain ⟨hn, hfit⟩ := FR.narrow (ρ := ρ) (nm := K.1) (ty := tyO x y) (v := v) (w := w) (z := z) hz hv (by
    rcases hvz with ⟨h, i, h2, -⟩ | ⟨h, i, h2, -⟩ | ⟨h, i, h2, -⟩
    · exact Or.inl ⟨h, i, h2⟩
    · exact Or.inr (Or.inl ⟨h, i, h2⟩)
    · exact Or.inr (Or.inr ⟨h, i, h2⟩))
  have hFR : FR ρ K.1 (tyO x y) zz w := by
    rcases hz with ⟨z1, ht⟩ | ⟨z1, ht⟩ | ⟨z1, ht⟩
    · rcases hvz with ⟨h, i, rfl, rfl⟩ | ⟨h, i, h2, -⟩ | ⟨h, i, h2, -⟩
      · rw [ht]; exact hv
      · omega
      · omega
    · rcases hvz with ⟨h, i, h2, -⟩ | ⟨h, i, rfl, rfl⟩ | ⟨h, i, h2, -⟩
      · omega
      · rw [ht]; exact hv
      · omega
    · rcases hvz with ⟨h, i, h2, -⟩ | ⟨h, i, h2, -⟩ | ⟨h, b, rfl, rfl, h4⟩
      · omega
      · omega
      · have h5 : ((b : Nat) : Int).toNat = b := rfl
        rcases ht with ⟨C, ht⟩ | ⟨t, ht⟩
        · rw [ht]; exact Or.inr ⟨by omega, hv.2, hv.1⟩
        · rw [ht]; exact Or.inr ⟨by omega, hv.2, hv.1⟩
  have hEO : EO ρ K.1 tys (tg a) (ln a) (mset M a y zz a) (.inr (x, fs.set y w)) := by
    rw [htg]
    refine Or.inl ⟨hx, r, _, hc, rfl, by rw [List.length_set]; exact f3, fun k hk9 => ?_⟩
    rw [mset_at]
    by_cases hky : k = y
    · subst hky
      exact ⟨w, by rw [List.getElem?_set_self (by omega)], by rw [if_pos rfl]; exact hFR⟩
    · obtain ⟨v9, g1, g2⟩ := f4 k hk9
      exact ⟨v9, by rw [List.getElem?_set_ne (by omega)]; exact g1, by rw [if_neg hky]; exact g2⟩
  have hR' := hR.put e3 e4 hEO (fun b hb => mset_ne hb)
  rcases hlink with hlink | ⟨hf, host, hlink⟩
  · by_cases hf : (r.2.1 y).2.2.2 = true
    · obtain ⟨i1, i2⟩ := hfin hf
      exact va_putF (D := D) (cl := vwCl) (C := r.1) (T := r.2.1) (N := r.2.2) (ci := x) hexec hb hts hin (tyO x) hty hnm hown hK hP hD hS (a - 32) e1 hc y hy hlink (fun _ h9 => h9) hf i1 i2 (hty y hy) hn hfit (by omega) hdg (fun H' locs' hP' hD' hS' => hk _ _ _ hR' hP' hD' hS')
    · have hf : (r.2.1 y).2.2.2 = false := by cases h9 : (r.2.1 y).2.2.2 <;> simp_all
      exact va_put (D := D) (cl := vwCl) (C := r.1) (T := r.2.1) (N := r.2.2) (ci := x) hexec hb hts hin (tyO x) hty hnm hown hK hP hD hS (a - 32) e1 hc y hy hlink (fun _ h9 => h9) hf (hty y hy) hn hfit (by omega) hdg (fun H' locs' hP' hD' hS' => hk _ _ _ hR' hP' hD' hS')
  · exact va_putN (D := D) (cl := vwCl) (C := r.1) (T := r.2.1) (N := r.2.2) (ci := x) hexec hb hts hin (tyO x) hty hnm hown hK hP hD hS (a - 32) e1 hc y hy hlink (fun _ h9 => h9) hf (hty y hy) hn hfit (by omega) hdg (fun H' locs' hP' hD' hS' => hk _ _ _ hR' hP' hD' hS')
theorem so_put {index : Nat} (hexec : p.tables.exec = Jvm.exec) (hb : c.code = cc) (hts : ∀ w ∈ Ts, w.before args s = true) (hown : s.vm.findClass own = some m.cls) {r : vw_C} (hc : vwCl[x]? = some r) (hx : x < 13) (hin : ∀ w ∈ u_ws r.1 r.2.1 r.2.2, w ∈ Ts) (hy : y < r.2.2) (hlink : (Cond.fieldLink own index (r.2.1 y).1 (r.2.1 y).2.1 (r.2.1 y).2.2.1).before args s = true ∨ ((r.2.1 y).2.2.2 = false ∧ ∃ host, (Cond.fieldLinkNest own index (r.2.1 y).1 (r.2.1 y).2.1 (r.2.1 y).2.2.1 host).before args s = true))
    (hty : ∀ k, k < r.2.2 → parseFieldDescriptor (r.2.1 k).2.2.1 = some (tyO x k)) (hnm : ∀ a, a < r.2.2 → ∀ b, b < r.2.2 → a ≠ b → (r.2.1 a).2.1 ≠ (r.2.1 b).2.1) (hfin : (r.2.1 y).2.2.2 = true → meth.name = "<init>" ∧ (r.2.1 y).1 = own)
    (hz : (z = 0 ∧ tyO x y = .int) ∨ (z = 1 ∧ tyO x y = .long) ∨ (z = 2 ∧ ((∃ C, tyO x y = .object C) ∨ ∃ t, tyO x y = .array t))) (hdg : decode cc pc = .ok (.putfield index, 3)) (hR : RW ρ tys M K.1 ws) (hK : va_K D vwCl tys s) (hP : va_P D vwCl ws H) (hD : va_D A ws) (hS : va_S A H0 H locs)
    (h : (match st with
    | .inl v :: .inr (.inr (.inl a)) :: r => if isO K.1 a x = true ∧ z = 0 then some (pc + 3, pls, r, mset M a y v, K) else none
    | .inr (.inl v) :: .inr (.inr (.inl a)) :: r => if isO K.1 a x = true ∧ z = 1 then some (pc + 3, pls, r, mset M a y v, K) else none
    | .inr (.inr (.inl v)) :: .inr (.inr (.inl a)) :: r => if isO K.1 a x = true ∧ z = 2 ∧ 0 < v then some (pc + 3, pls, r, mset M a y v, K) else none
    | _ => none) = some q)
    (hs : SR ρ K.1 st rest) (hk : ∀ (ws' : va_W) (H' : Heap) (locs' : List Loc) (rest' : List Value), RW ρ tys q.2.2.2.1 K.1 ws' → va_P D vwCl ws' H' → va_D A ws' → va_S A H0 H' locs' → SR ρ K.1 q.2.2.1 rest' → W p l e R s m args below meth c H' locs' cells slots Q (F0 m q.1 ls rest')) : W p l e R s m args below meth c H locs cells slots Q (F0 m pc ls rest) := by
  split at h
  · obtain ⟨xv, r1, rfl, hx9, hs1⟩ := hs.i
    obtain ⟨r2, rfl, ha, hs2⟩ := hs1.a
    split at h
    case isFalse => cases h
    rename_i hO
    cases h
    exact so_put1 (v := vI _) hexec hb hts hown hc hx hin hy hlink hty hnm hfin hz hdg hR hK hP hD hS hO.1 ⟨xv, rfl, hx9⟩ (Or.inl ⟨hO.2, _, rfl, rfl⟩) (fun ws' H' locs' a1 a2 a3 a4 => hk ws' H' locs' _ a1 a2 a3 a4 hs2)
  · obtain ⟨xv, r1, rfl, hx9, hs1⟩ := hs.l
    obtain ⟨r2, rfl, ha, hs2⟩ := hs1.a
    split at h
    case isFalse => cases h
    rename_i hO
    cases h
    exact so_put1 (v := vL _) hexec hb hts hown hc hx hin hy hlink hty hnm hfin hz hdg hR hK hP hD hS hO.1 ⟨xv, rfl, hx9⟩ (Or.inr (Or.inl ⟨hO.2, _, rfl, rfl⟩)) (fun ws' H' locs' a1 a2 a3 a4 => hk ws' H' locs' _ a1 a2 a3 a4 hs2)
  · obtain ⟨r1, rfl, hx9, hs1⟩ := hs.a
    obtain ⟨r2, rfl, ha, hs2⟩ := hs1.a
    split at h
    case isFalse => cases h
    rename_i hO
    cases h
    exact so_put1 (v := vR _) hexec hb hts hown hc hx hin hy hlink hty hnm hfin hz hdg hR hK hP hD hS hO.1 ⟨rfl, hx9⟩ (Or.inr (Or.inr ⟨hO.2.1, _, rfl, rfl, hO.2.2⟩)) (fun ws' H' locs' a1 a2 a3 a4 => hk ws' H' locs' _ a1 a2 a3 a4 hs2)
  · cases h
theorem so_iald (hexec : p.tables.exec = Jvm.exec) (hb : c.code = cc) (hdg : decode cc pc = .ok (.iaload, 1)) (hR : RW ρ tys M K.1 ws) (hK : va_K D vwCl tys s) (hP : va_P D vwCl ws H)
    (h : pAI st (fun a i r => if isO K.1 a 20 = true ∧ 0 ≤ i ∧ i < (ln a : Int) then some (pc + 1, pls, vI (M a i.toNat) :: r, M, K) else none) = some q)
    (hs : SR ρ K.1 st rest) (hk : ∀ rest', SR ρ K.1 q.2.2.1 rest' → W p l e R s m args below meth c H locs cells slots Q (F0 m q.1 ls rest')) : W p l e R s m args below meth c H locs cells slots Q (F0 m pc ls rest) := by
  unfold pAI at h
  split at h
  case h_2 => cases h
  rename_i i a r9
  dsimp only at h
  split at h
  case isFalse => cases h
  rename_i hO
  obtain ⟨xv, r1, rfl, hx, hs1⟩ := hs.i
  obtain ⟨r2, rfl, ha, hs2⟩ := hs1.a
  obtain ⟨e0, e1, e2, e3, e4⟩ := hR.at hO.1
  obtain ⟨cA, f, t0, rfl, f2, f3⟩ := e2.i
  cases h
  have hin : vp_in xv (ln a) := i32_in.mpr (by rw [hx]; exact hO.2)
  have hi : xv.toNatClampNeg = i.toNat := by rw [← hx]; rfl
  exact va_iald hexec hb hK hP (a - 32) t0 e1 f2 hin hdg (hk _ (SR.pi _ (by rw [hi]; exact f3 _ (by omega)) hs2))
theorem so_cald (hexec : p.tables.exec = Jvm.exec) (hb : c.code = cc) (hdg : decode cc pc = .ok (.caload, 1)) (hR : RW ρ tys M K.1 ws) (hK : va_K D vwCl tys s) (hP : va_P D vwCl ws H)
    (h : pAI st (fun a i r => if isO K.1 a 21 = true ∧ 0 ≤ i ∧ i < (ln a : Int) then some (pc + 1, pls, vI (M a i.toNat) :: r, M, K) else none) = some q)
    (hs : SR ρ K.1 st rest) (hk : ∀ rest', SR ρ K.1 q.2.2.1 rest' → W p l e R s m args below meth c H locs cells slots Q (F0 m q.1 ls rest')) : W p l e R s m args below meth c H locs cells slots Q (F0 m pc ls rest) := by
  unfold pAI at h
  split at h
  case h_2 => cases h
  rename_i i a r9
  dsimp only at h
  split at h
  case isFalse => cases h
  rename_i hO
  obtain ⟨xv, r1, rfl, hx, hs1⟩ := hs.i
  obtain ⟨r2, rfl, ha, hs2⟩ := hs1.a
  obtain ⟨e0, e1, e2, e3, e4⟩ := hR.at hO.1
  obtain ⟨cA, f, t0, rfl, f2, f3⟩ := e2.c
  cases h
  have hin : vp_in xv (ln a) := i32_in.mpr (by rw [hx]; exact hO.2)
  have hi : xv.toNatClampNeg = i.toNat := by rw [← hx]; rfl
  exact va_cald hexec hb hK hP (a - 32) t0 e1 f2 hin hdg (hk _ (SR.pi _ (by rw [hi]; exact f3 _ (by omega)) hs2))
theorem so_lald (hexec : p.tables.exec = Jvm.exec) (hb : c.code = cc) (hdg : decode cc pc = .ok (.laload, 1)) (hR : RW ρ tys M K.1 ws) (hK : va_K D vwCl tys s) (hP : va_P D vwCl ws H)
    (h : pAI st (fun a i r => if isO K.1 a 22 = true ∧ 0 ≤ i ∧ i < (ln a : Int) then some (pc + 1, pls, vL (M a i.toNat) :: r, M, K) else none) = some q)
    (hs : SR ρ K.1 st rest) (hk : ∀ rest', SR ρ K.1 q.2.2.1 rest' → W p l e R s m args below meth c H locs cells slots Q (F0 m q.1 ls rest')) : W p l e R s m args below meth c H locs cells slots Q (F0 m pc ls rest) := by
  unfold pAI at h
  split at h
  case h_2 => cases h
  rename_i i a r9
  dsimp only at h
  split at h
  case isFalse => cases h
  rename_i hO
  obtain ⟨xv, r1, rfl, hx, hs1⟩ := hs.i
  obtain ⟨r2, rfl, ha, hs2⟩ := hs1.a
  obtain ⟨e0, e1, e2, e3, e4⟩ := hR.at hO.1
  obtain ⟨cA, f, t0, rfl, f2, f3⟩ := e2.l
  cases h
  have hin : vp_in xv (ln a) := i32_in.mpr (by rw [hx]; exact hO.2)
  have hi : xv.toNatClampNeg = i.toNat := by rw [← hx]; rfl
  exact va_lald hexec hb hK hP (a - 32) t0 e1 f2 hin hdg (hk _ (SR.pl _ (by rw [hi]; exact f3 _ (by omega)) hs2))
theorem so_aald (hexec : p.tables.exec = Jvm.exec) (hb : c.code = cc) (hdg : decode cc pc = .ok (.aaload, 1)) (hR : RW ρ tys M K.1 ws) (hK : va_K D vwCl tys s) (hP : va_P D vwCl ws H)
    (h : pAI st (fun a i r => if (Nat.ble 30 (tg a) = true ∧ isO K.1 a (tg a) = true) ∧ (0 ≤ i ∧ i < (ln a : Int)) ∧ 0 < M a i.toNat then some (pc + 1, pls, vR (M a i.toNat).toNat :: r, M, K) else none) = some q)
    (hs : SR ρ K.1 st rest) (hk : ∀ rest', SR ρ K.1 q.2.2.1 rest' → W p l e R s m args below meth c H locs cells slots Q (F0 m q.1 ls rest')) : W p l e R s m args below meth c H locs cells slots Q (F0 m pc ls rest) := by
  unfold pAI at h
  split at h
  case h_2 => cases h
  rename_i i a r9
  dsimp only at h
  split at h
  case isFalse => cases h
  rename_i hO
  obtain ⟨⟨hO1, hO2⟩, hO3, hO4⟩ := hO
  obtain ⟨xv, r1, rfl, hx, hs1⟩ := hs.i
  obtain ⟨r2, rfl, ha, hs2⟩ := hs1.a
  obtain ⟨e0, e1, e2, e3, e4⟩ := hR.at hO2
  obtain ⟨cA, f, t0, rfl, f2, f3⟩ := e2.q (Nat.le_of_ble_eq_true hO1)
  cases h
  have hin : vp_in xv (ln a) := i32_in.mpr (by rw [hx]; exact hO3)
  have hi : xv.toNatClampNeg = i.toNat := by rw [← hx]; rfl
  have hlt : xv.toNatClampNeg < ln a := by omega
  have hq := f3 i.toNat (by omega)
  rcases hq with ⟨hq, -⟩ | ⟨-, hq1, hq2⟩
  · omega
  · refine W.aald (v := va_rf (f xv.toNatClampNeg)) (ty := rty (tg a)) hexec hb (hP (a - 32) _ e1) ((hK.2 t0 _ f2).1 (ln a) (fun j => va_rf (f j))) ?_ (fun q => by cases q) (by show ¬ (xv < 0 ∨ (arrV _ _ _).slots.size ≤ _); rw [arrV_size]; exact hin) (by show (arrV _ _ _).slots[_]? = _; rw [arrV_read _ _ hlt]) rfl rfl hdg ?_
    · unfold rty; split <;> rfl
    · rw [hi, hq2]
      exact hk _ (SR.pa hq1 hs2)
theorem so_iast (hexec : p.tables.exec = Jvm.exec) (hb : c.code = cc) (hdg : decode cc pc = .ok (.iastore, 1)) (hR : RW ρ tys M K.1 ws) (hK : va_K D vwCl tys s) (hP : va_P D vwCl ws H) (hD : va_D A ws) (hS : va_S A H0 H locs)
    (h : (match st with
    | .inl v :: .inl i :: .inr (.inr (.inl a)) :: r => if isO K.1 a 20 = true ∧ 0 ≤ i ∧ i < (ln a : Int) then some (pc + 1, pls, r, mset M a i.toNat v, K) else none
    | _ => none) = some q)
    (hs : SR ρ K.1 st rest) (hk : ∀ (ws' : va_W) (H' : Heap) (locs' : List Loc) (rest' : List Value), RW ρ tys q.2.2.2.1 K.1 ws' → va_P D vwCl ws' H' → va_D A ws' → va_S A H0 H' locs' → SR ρ K.1 q.2.2.1 rest' → W p l e R s m args below meth c H' locs' cells slots Q (F0 m q.1 ls rest')) : W p l e R s m args below meth c H locs cells slots Q (F0 m pc ls rest) := by
  split at h
  case h_2 => cases h
  rename_i v i a r9
  split at h
  case isFalse => cases h
  rename_i hO
  obtain ⟨vv, r0, rfl, hv, hs0⟩ := hs.i
  obtain ⟨xv, r1, rfl, hx, hs1⟩ := hs0.i
  obtain ⟨r2, rfl, ha, hs2⟩ := hs1.a
  obtain ⟨e0, e1, e2, e3, e4⟩ := hR.at hO.1
  obtain ⟨cA, f, t0, rfl, f2, f3⟩ := e2.i
  cases h
  have hin : vp_in xv (ln a) := i32_in.mpr (by rw [hx]; exact hO.2)
  have hi : xv.toNatClampNeg = i.toNat := by rw [← hx]; rfl
  have htg : tg a = 20 := by
    have h9 := hO.1
    unfold isO at h9
    simp only [Bool.and_eq_true] at h9
    exact Nat.eq_of_beq_eq_true h9.2.2
  refine va_iast hexec hb hK hP hD hS (a - 32) t0 e1 f2 hin hdg (fun H' locs' hP' hD' hS' => hk _ _ _ _ (hR.put e3 e4 ?_ (fun b hb => mset_ne hb)) hP' hD' hS' hs2)
  rw [htg]
  refine Or.inr (Or.inl ⟨rfl, cA, _, t0, rfl, f2, fun j hj => ?_⟩)
  show Int32.toInt _ = mset M a _ _ a j
  rw [mset_at, hi]
  unfold upd
  split
  · exact hv
  · exact f3 j hj
theorem so_last (hexec : p.tables.exec = Jvm.exec) (hb : c.code = cc) (hdg : decode cc pc = .ok (.lastore, 1)) (hR : RW ρ tys M K.1 ws) (hK : va_K D vwCl tys s) (hP : va_P D vwCl ws H) (hD : va_D A ws) (hS : va_S A H0 H locs)
    (h : (match st with
    | .inr (.inl v) :: .inl i :: .inr (.inr (.inl a)) :: r => if isO K.1 a 22 = true ∧ 0 ≤ i ∧ i < (ln a : Int) then some (pc + 1, pls, r, mset M a i.toNat v, K) else none
    | _ => none) = some q)
    (hs : SR ρ K.1 st rest) (hk : ∀ (ws' : va_W) (H' : Heap) (locs' : List Loc) (rest' : List Value), RW ρ tys q.2.2.2.1 K.1 ws' → va_P D vwCl ws' H' → va_D A ws' → va_S A H0 H' locs' → SR ρ K.1 q.2.2.1 rest' → W p l e R s m args below meth c H' locs' cells slots Q (F0 m q.1 ls rest')) : W p l e R s m args below meth c H locs cells slots Q (F0 m pc ls rest) := by
  split at h
  case h_2 => cases h
  rename_i v i a r9
  split at h
  case isFalse => cases h
  rename_i hO
  obtain ⟨vv, r0, rfl, hv, hs0⟩ := hs.l
  obtain ⟨xv, r1, rfl, hx, hs1⟩ := hs0.i
  obtain ⟨r2, rfl, ha, hs2⟩ := hs1.a
  obtain ⟨e0, e1, e2, e3, e4⟩ := hR.at hO.1
  obtain ⟨cA, f, t0, rfl, f2, f3⟩ := e2.l
  cases h
  have hin : vp_in xv (ln a) := i32_in.mpr (by rw [hx]; exact hO.2)
  have hi : xv.toNatClampNeg = i.toNat := by rw [← hx]; rfl
  have htg : tg a = 22 := by
    have h9 := hO.1
    unfold isO at h9
    simp only [Bool.and_eq_true] at h9
    exact Nat.eq_of_beq_eq_true h9.2.2
  refine va_last hexec hb hK hP hD hS (a - 32) t0 e1 f2 hin hdg (fun H' locs' hP' hD' hS' => hk _ _ _ _ (hR.put e3 e4 ?_ (fun b hb => mset_ne hb)) hP' hD' hS' hs2)
  rw [htg]
  refine Or.inr (Or.inr (Or.inr (Or.inl ⟨rfl, cA, _, t0, rfl, f2, fun j hj => ?_⟩)))
  show Int64.toInt _ = mset M a _ _ a j
  rw [mset_at, hi]
  unfold vp_updL
  split
  · exact hv
  · exact f3 j hj
theorem so_cast (hexec : p.tables.exec = Jvm.exec) (hb : c.code = cc) (hdg : decode cc pc = .ok (.castore, 1)) (hR : RW ρ tys M K.1 ws) (hK : va_K D vwCl tys s) (hP : va_P D vwCl ws H) (hD : va_D A ws) (hS : va_S A H0 H locs)
    (h : (match st with
    | .inl v :: .inl i :: .inr (.inr (.inl a)) :: r => if isO K.1 a 21 = true ∧ 0 ≤ i ∧ i < (ln a : Int) then some (pc + 1, pls, r, mset M a i.toNat (ji2c v), K) else none
    | _ => none) = some q)
    (hs : SR ρ K.1 st rest) (hk : ∀ (ws' : va_W) (H' : Heap) (locs' : List Loc) (rest' : List Value), RW ρ tys q.2.2.2.1 K.1 ws' → va_P D vwCl ws' H' → va_D A ws' → va_S A H0 H' locs' → SR ρ K.1 q.2.2.1 rest' → W p l e R s m args below meth c H' locs' cells slots Q (F0 m q.1 ls rest')) : W p l e R s m args below meth c H locs cells slots Q (F0 m pc ls rest) := by
  split at h
  case h_2 => cases h
  rename_i v i a r9
  split at h
  case isFalse => cases h
  rename_i hO
  obtain ⟨vv, r0, rfl, hv, hs0⟩ := hs.i
  obtain ⟨xv, r1, rfl, hx, hs1⟩ := hs0.i
  obtain ⟨r2, rfl, ha, hs2⟩ := hs1.a
  obtain ⟨e0, e1, e2, e3, e4⟩ := hR.at hO.1
  obtain ⟨cA, f, t0, rfl, f2, f3⟩ := e2.c
  cases h
  have hin : vp_in xv (ln a) := i32_in.mpr (by rw [hx]; exact hO.2)
  have hi : xv.toNatClampNeg = i.toNat := by rw [← hx]; rfl
  have htg : tg a = 21 := by
    have h9 := hO.1
    unfold isO at h9
    simp only [Bool.and_eq_true] at h9
    exact Nat.eq_of_beq_eq_true h9.2.2
  refine va_cast hexec hb hK hP hD hS (a - 32) t0 e1 f2 hin hdg (fun H' locs' hP' hD' hS' => hk _ _ _ _ (hR.put e3 e4 ?_ (fun b hb => mset_ne hb)) hP' hD' hS' hs2)
  rw [htg]
  refine Or.inr (Or.inr (Or.inl ⟨rfl, cA, _, t0, rfl, f2, fun j hj => ?_⟩))
  show Int32.toInt _ = mset M a _ _ a j
  rw [mset_at, hi]
  unfold upd
  split
  · rw [vp_nar_char]
    unfold ji2c
    rw [← hv, Int32.ofInt_toInt]
    first | rfl | simp
  · exact f3 j hj
theorem so_aast (hexec : p.tables.exec = Jvm.exec) (hb : c.code = cc) (hdg : decode cc pc = .ok (.aastore, 1)) (hR : RW ρ tys M K.1 ws) (hK : va_K D vwCl tys s) (hP : va_P D vwCl ws H) (hD : va_D A ws) (hS : va_S A H0 H locs)
    (h : (match st with
    | .inr (.inr (.inl v)) :: .inl i :: .inr (.inr (.inl a)) :: r => if (Nat.ble 30 (tg a) = true ∧ Nat.blt (tg a) 40 = true ∧ isO K.1 a (tg a) = true) ∧ (0 ≤ i ∧ i < (ln a : Int)) ∧ 0 < v ∧ isO K.1 v (tg a - 30) = true then some (pc + 1, pls, r, mset M a i.toNat v, K) else none
    | _ => none) = some q)
    (hs : SR ρ K.1 st rest) (hk : ∀ (ws' : va_W) (H' : Heap) (locs' : List Loc) (rest' : List Value), RW ρ tys q.2.2.2.1 K.1 ws' → va_P D vwCl ws' H' → va_D A ws' → va_S A H0 H' locs' → SR ρ K.1 q.2.2.1 rest' → W p l e R s m args below meth c H' locs' cells slots Q (F0 m q.1 ls rest')) : W p l e R s m args below meth c H locs cells slots Q (F0 m pc ls rest) := by
  split at h
  case h_2 => cases h
  rename_i v i a r9
  split at h
  case isFalse => cases h
  rename_i hO
  obtain ⟨⟨hO1, hO0, hO2⟩, hO3, hO4, hO5⟩ := hO
  obtain ⟨r0, rfl, hv, hs0⟩ := hs.a
  obtain ⟨xv, r1, rfl, hx, hs1⟩ := hs0.i
  obtain ⟨r2, rfl, ha, hs2⟩ := hs1.a
  obtain ⟨e0, e1, e2, e3, e4⟩ := hR.at hO2
  have h30 : 30 ≤ tg a := Nat.le_of_ble_eq_true hO1
  have h40 : tg a < 40 := Nat.le_of_ble_eq_true hO0
  obtain ⟨cA, f, t0, rfl, f2, f3⟩ := e2.q h30
  obtain ⟨ev, g1, g2, g3, g4⟩ := hR.at hO5
  obtain ⟨rc, fs, k1, rfl, k3, k4⟩ := g2.o (by omega)
  cases h
  have hin : vp_in xv (ln a) := i32_in.mpr (by rw [hx]; exact hO3)
  have hi : xv.toNatClampNeg = i.toNat := by rw [← hx]; rfl
  have hrty : rty (tg a) = .object rc.1 := by
    unfold rty
    rw [if_neg (by omega), List.getD_eq_getElem?_getD, k1]
    rfl
  refine va_astq (r := rc) hexec hb hK hP hD hS (a - 32) t0 (v - 32) (tg a - 30) e1 (by rw [← hrty]; exact f2) g1 k1 hin hdg (fun H' locs' hP' hD' hS' => hk _ _ _ _ (hR.put e3 e4 ?_ (fun b hb => mset_ne hb)) hP' hD' hS' hs2)
  refine Or.inr (Or.inr (Or.inr (Or.inr ⟨h30, cA, _, t0, rfl, f2, fun j hj => ?_⟩)))
  show QR ρ K.1 (mset M a _ _ a j) _
  rw [mset_at, hi]
  unfold va_up
  split
  · exact Or.inr ⟨by omega, by simpa using hv, by simp⟩
  · exact f3 j hj
theorem so_alen (hexec : p.tables.exec = Jvm.exec) (hb : c.code = cc) (hdg : decode cc pc = .ok (.arraylength, 1)) (hR : RW ρ tys M K.1 ws) (hK : va_K D vwCl tys s) (hP : va_P D vwCl ws H) (hln : ∀ a, ln a < 2 ^ 31)
    (h : pA st (fun a r => if Nat.ble 20 (tg a) = true ∧ isO K.1 a (tg a) = true then some (pc + 1, pls, vI (ln a) :: r, M, K) else none) = some q)
    (hs : SR ρ K.1 st rest) (hk : ∀ rest', SR ρ K.1 q.2.2.1 rest' → W p l e R s m args below meth c H locs cells slots Q (F0 m q.1 ls rest')) : W p l e R s m args below meth c H locs cells slots Q (F0 m pc ls rest) := by
  unfold pA at h
  split at h
  case h_2 => cases h
  rename_i a r9
  dsimp only at h
  split at h
  case isFalse => cases h
  rename_i hO
  obtain ⟨hO1, hO2⟩ := hO
  obtain ⟨r2, rfl, ha, hs2⟩ := hs.a
  obtain ⟨e0, e1, e2, e3, e4⟩ := hR.at hO2
  have h20 : 20 ≤ tg a := Nat.le_of_ble_eq_true hO1
  cases h
  have hsz : (Int32.ofNat (ln a)).toInt = (ln a : Int) := nI_toInt (hln a)
  rcases e2 with ⟨h0, -⟩ | ⟨h0, cA, f, t0, rfl, h2, h3⟩ | ⟨h0, cA, f, t0, rfl, h2, h3⟩ | ⟨h0, cA, f, t0, rfl, h2, h3⟩ | ⟨h0, cA, f, t0, rfl, h2, h3⟩
  · omega
  · exact va_alen hexec hb hK hP (a - 32) t0 e1 h2 rfl hdg (hk _ (SR.pi _ hsz hs2))
  · exact va_alen hexec hb hK hP (a - 32) t0 e1 h2 rfl hdg (hk _ (SR.pi _ hsz hs2))
  · exact va_alen hexec hb hK hP (a - 32) t0 e1 h2 rfl hdg (hk _ (SR.pi _ hsz hs2))
  · exact va_alen hexec hb hK hP (a - 32) t0 e1 h2 rfl hdg (hk _ (SR.pi _ hsz hs2))
end SM
