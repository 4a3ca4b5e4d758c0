/-! one instruction: what is made; constants; the library's own small methods -/
theorem ln_le (a : Nat) : ln a ≤ 28672 := by
  have h : tgT.all (fun e => Nat.ble e.2.2 28672) = true := by decide +kernel
  unfold ln tl
  split
  · rename_i e he
    have h2 := List.all_eq_true.mp h e (List.mem_of_find?_eq_some he)
    exact Nat.le_of_ble_eq_true h2
  · exact Nat.zero_le _
theorem fn_eq {x : Nat} {r : vw_C} (hx : x < 13) (h : vwCl[x]? = some r) : fnT.getD x 0 = r.2.2 := by
  rcases (show x = 0 ∨ x = 1 ∨ x = 2 ∨ x = 3 ∨ x = 4 ∨ x = 5 ∨ x = 6 ∨ x = 7 ∨ x = 8 ∨ x = 9 ∨ x = 10 ∨ x = 11 ∨ x = 12 by omega) with rfl | rfl | rfl | rfl | rfl | rfl | rfl | rfl | rfl | rfl | rfl | rfl | rfl <;> cases h <;> rfl
section SN
variable {p : Program} {l : Launch} {e : Env} {R : Room} {s : State} {m : MethodId} {args : Array Value} {below : List Frame} {meth : Method} {c : Code} {H : Heap} {locs : List Loc} {cells slots : Nat} {Q : State → Prop}
variable {cc : ByteArray} {pc n x y : Nat} {z : Int} {ls : Array Slot} {rest : List Value} {ρ : Nat → Nat} {nL : Nat} {pls st : List PV} {M : Mem} {K : KK} {q : PS}
variable {D : va_G} {tys : List (ClassId × FieldType)} {ws : va_W} {A : Nat → Prop} {H0 : Heap} {own : String} {Ts : List Cond}
theorem so_new {index : Nat} (hexec : p.tables.exec = Jvm.exec) (hb : c.code = cc) (hts : ∀ w ∈ Ts, w.before args s = true) (hown : s.vm.findClass own = some m.cls) {r : vw_C} (hc : vwCl[x]? = some r) (hin : ∀ w ∈ u_ws r.1 r.2.1 r.2.2, w ∈ Ts)
    (hty : ∀ k, k < r.2.2 → parseFieldDescriptor (r.2.1 k).2.2.1 = some (tyO x k)) (hcl : (Cond.classLink own index r.1).before args s = true) (hinst : (Cond.instantiable r.1 r.2.2).before args s = true) (hini : (Cond.initialized r.1).before args s = true)
    (hdg : decode cc pc = .ok (.new index, 3)) (hR : RW ρ tys M K.1 ws) (hK : va_K D vwCl tys s) (hP : va_P D vwCl ws H) (hD : va_D A ws) (hS : va_S A H0 H locs) (hA : ∀ q, H0.size ≤ q → A q) (hcells : cells + 1 ≤ R.cells) (hslots : slots + r.2.2 ≤ R.slots)
    (hdf : ∀ k, k < r.2.2 → tyO x k = .int ∨ tyO x k = .long ∨ (∃ C, tyO x k = .object C) ∨ ∃ t, tyO x k = .array t)
    (h : (if tg K.1 = x ∧ x < 13 then some (pc + 3, pls, vR K.1 :: st, M, ((K.1 + 1, K.2.1 + 1, K.2.2 + fnT.getD x 0) : KK)) else none) = some q)
    (hs : SR ρ K.1 st rest) (hk : ∀ (ρ' : Nat → Nat) (ws' : va_W) (H' : Heap) (rest' : List Value), Ext ρ K.1 ρ' q.2.2.2.2.1 → RW ρ' tys q.2.2.2.1 q.2.2.2.2.1 ws' → va_P D vwCl ws' H' → va_D A ws' → va_S A H0 H' locs → SR ρ' q.2.2.2.2.1 q.2.2.1 rest' → W p l e R s m args below meth c H' locs (cells + 1) (slots + r.2.2) Q (F0 m q.1 ls rest')) : W p l e R s m args below meth c H locs cells slots Q (F0 m pc ls rest) := by
  split at h
  case isFalse => cases h
  rename_i hO
  obtain ⟨htg, hx⟩ := hO
  cases h
  refine va_new (D := D) (cl := vwCl) (C := r.1) (T := r.2.1) (N := r.2.2) (ci := x) (fs := (List.range r.2.2).map (fun j => defaultValue (tyO x j))) hexec hb hts hin (tyO x) hty hown hcl hinst hini hK hP hD hS hA hc (fun j hj => by unfold vp_V; rw [List.getD_eq_getElem?_getD, List.getElem?_map, List.getElem?_range hj]; rfl) hcells hslots hdg (fun q0 H1 hP' hD' hS' => ?_)
  have hE := Ext.push (ρ := ρ) (nm := K.1) (q := q0)
  refine hk (fun b => if b = K.1 then q0 else ρ b) (ws ++ [(q0, .inr (x, (List.range r.2.2).map (fun j => defaultValue (tyO x j))))]) H1 _ hE ?_ hP' hD' hS' ⟨⟨by simp, by show K.1 < K.1 + 1; omega⟩, hs.ext hE⟩
  have h9 := RW.push (tys2 := []) (q := q0) hR (e := .inr (x, (List.range r.2.2).map (fun j => defaultValue (tyO x j)))) ?_
  · rw [List.append_nil] at h9
    exact h9
  · rw [htg, List.append_nil]
    refine Or.inl ⟨hx, r, _, hc, rfl, by simp, fun k hk9 => ⟨defaultValue (tyO x k), by rw [List.getElem?_map, List.getElem?_range hk9]; rfl, ?_⟩⟩
    rw [hR.2.2 K.1 (Nat.le_refl _) k]
    rcases hdf k hk9 with h | h | ⟨C, h⟩ | ⟨t, h⟩ <;> rw [h]
    · exact ⟨0, rfl, rfl⟩
    · exact ⟨0, rfl, rfl⟩
    · exact Or.inl ⟨rfl, rfl⟩
    · exact Or.inl ⟨rfl, rfl⟩
theorem so_newa {at9 : ArrayType} (hexec : p.tables.exec = Jvm.exec) (hb : c.code = cc) (harr : (Cond.arrayClass (newarray.typeOf at9)).before args s = true) (hx : (x = 20 ∧ at9 = .int) ∨ (x = 21 ∧ at9 = .char) ∨ (x = 22 ∧ at9 = .long))
    (hdg : decode cc pc = .ok (.newarray at9, 2)) (hR : RW ρ tys M K.1 ws) (hK : va_K D vwCl tys s) (hP : va_P D vwCl ws H) (hD : va_D A ws) (hS : va_S A H0 H locs) (hA : ∀ q, H0.size ≤ q → A q) (hcells : cells + 1 ≤ R.cells) (hslots : slots + ln K.1 ≤ R.slots)
    (h : p1 st (fun c r => if tg K.1 = x ∧ c = (ln K.1 : Int) then some (pc + 2, pls, vR K.1 :: r, M, ((K.1 + 1, K.2.1 + 1, K.2.2 + ln K.1) : KK)) else none) = some q)
    (hs : SR ρ K.1 st rest) (hk : ∀ (ρ' : Nat → Nat) (tys' : List (ClassId × FieldType)) (ws' : va_W) (H' : Heap) (rest' : List Value), Ext ρ K.1 ρ' q.2.2.2.2.1 → RW ρ' tys' q.2.2.2.1 q.2.2.2.2.1 ws' → va_K D vwCl tys' s → va_P D vwCl ws' H' → va_D A ws' → va_S A H0 H' locs → SR ρ' q.2.2.2.2.1 q.2.2.1 rest' → W p l e R s m args below meth c H' locs (cells + 1) (slots + ln K.1) Q (F0 m q.1 ls rest')) : W p l e R s m args below meth c H locs cells slots Q (F0 m pc ls rest) := by
  unfold p1 at h
  split at h
  case h_2 => cases h
  rename_i c9 r9
  dsimp only at h
  split at h
  case isFalse => cases h
  rename_i hO
  obtain ⟨htg, hc⟩ := hO
  obtain ⟨xv, r1, rfl, hxv, hs1⟩ := hs.i
  cases h
  have hn : ¬ xv < 0 := by rw [Int32.lt_iff_toInt_lt, Int32.toInt_zero]; omega
  have hN : xv.toNatClampNeg = ln K.1 := by show xv.toInt.toNat = _; omega
  have hle := ln_le K.1
  have hz := hR.2.2 K.1 (Nat.le_refl _)
  rcases hx with ⟨hx, ha⟩ | ⟨hx, ha⟩ | ⟨hx, ha⟩
  · refine va_newa (ty := .int) (atype := at9) (a0 := (ln K.1, .inl (fun _ => 0))) hexec hb harr (by rw [ha]; rfl) hK hP hD hS hA (fun cA => rfl) hn hN (by show _ * 4 ≤ _; omega) hcells hslots hdg (fun q0 cA H1 hK' hP' hD' hS' => ?_)
    have hE := Ext.push (ρ := ρ) (nm := K.1) (q := q0)
    refine hk (fun b => if b = K.1 then q0 else ρ b) _ _ H1 _ hE (RW.push hR ?_) hK' hP' hD' hS' ⟨⟨by simp, by show K.1 < K.1 + 1; omega⟩, hs1.ext hE⟩
    rw [htg, hx]
    exact Or.inr (Or.inl ⟨rfl, cA, _, tys.length, rfl, by simp, fun j hj => by rw [hz]; rfl⟩)
  · refine va_newa (ty := .char) (atype := at9) (a0 := (ln K.1, .inl (fun _ => 0))) hexec hb harr (by rw [ha]; rfl) hK hP hD hS hA (fun cA => rfl) hn hN (by show _ * 2 ≤ _; omega) hcells hslots hdg (fun q0 cA H1 hK' hP' hD' hS' => ?_)
    have hE := Ext.push (ρ := ρ) (nm := K.1) (q := q0)
    refine hk (fun b => if b = K.1 then q0 else ρ b) _ _ H1 _ hE (RW.push hR ?_) hK' hP' hD' hS' ⟨⟨by simp, by show K.1 < K.1 + 1; omega⟩, hs1.ext hE⟩
    rw [htg, hx]
    exact Or.inr (Or.inr (Or.inl ⟨rfl, cA, _, tys.length, rfl, by simp, fun j hj => by rw [hz]; rfl⟩))
  · refine va_newa (ty := .long) (atype := at9) (a0 := (ln K.1, .inr (.inl (fun _ => 0)))) hexec hb harr (by rw [ha]; rfl) hK hP hD hS hA (fun cA => rfl) hn hN (by show _ * 8 ≤ _; omega) hcells hslots hdg (fun q0 cA H1 hK' hP' hD' hS' => ?_)
    have hE := Ext.push (ρ := ρ) (nm := K.1) (q := q0)
    refine hk (fun b => if b = K.1 then q0 else ρ b) _ _ H1 _ hE (RW.push hR ?_) hK' hP' hD' hS' ⟨⟨by simp, by show K.1 < K.1 + 1; omega⟩, hs1.ext hE⟩
    rw [htg, hx]
    exact Or.inr (Or.inr (Or.inr (Or.inl ⟨rfl, cA, _, tys.length, rfl, by simp, fun j hj => by rw [hz]; rfl⟩)))
theorem so_newq {index : Nat} (hexec : p.tables.exec = Jvm.exec) (hb : c.code = cc) (hown : s.vm.findClass own = some m.cls) (hx : 30 ≤ x ∧ x < 40) {C : String} (hC : rty x = .object C) (hcl : (Cond.classLink own index C).before args s = true) (hover : va_AO C s)
    (hdg : decode cc pc = .ok (.anewarray index, 3)) (hR : RW ρ tys M K.1 ws) (hK : va_K D vwCl tys s) (hP : va_P D vwCl ws H) (hD : va_D A ws) (hS : va_S A H0 H locs) (hA : ∀ q, H0.size ≤ q → A q) (hcells : cells + 1 ≤ R.cells) (hslots : slots + ln K.1 ≤ R.slots)
    (h : p1 st (fun c r => if tg K.1 = x ∧ c = (ln K.1 : Int) then some (pc + 3, pls, vR K.1 :: r, M, ((K.1 + 1, K.2.1 + 1, K.2.2 + ln K.1) : KK)) else none) = some q)
    (hs : SR ρ K.1 st rest) (hk : ∀ (ρ' : Nat → Nat) (tys' : List (ClassId × FieldType)) (ws' : va_W) (H' : Heap) (rest' : List Value), Ext ρ K.1 ρ' q.2.2.2.2.1 → RW ρ' tys' q.2.2.2.1 q.2.2.2.2.1 ws' → va_K D vwCl tys' s → va_P D vwCl ws' H' → va_D A ws' → va_S A H0 H' locs → SR ρ' q.2.2.2.2.1 q.2.2.1 rest' → W p l e R s m args below meth c H' locs (cells + 1) (slots + ln K.1) Q (F0 m q.1 ls rest')) : W p l e R s m args below meth c H locs cells slots Q (F0 m pc ls rest) := by
  unfold p1 at h
  split at h
  case h_2 => cases h
  rename_i c9 r9
  dsimp only at h
  split at h
  case isFalse => cases h
  rename_i hO
  obtain ⟨htg, hc⟩ := hO
  obtain ⟨xv, r1, rfl, hxv, hs1⟩ := hs.i
  cases h
  have hn : ¬ xv < 0 := by rw [Int32.lt_iff_toInt_lt, Int32.toInt_zero]; omega
  have hN : xv.toNatClampNeg = ln K.1 := by show xv.toInt.toNat = _; omega
  have hle := ln_le K.1
  have hz := hR.2.2 K.1 (Nat.le_refl _)
  refine va_newq (C := C) hexec hb hown hcl hover hK hP hD hS hA hn hN (by omega) hcells hslots hdg (fun q0 cA H1 hK' hP' hD' hS' => ?_)
  have hE := Ext.push (ρ := ρ) (nm := K.1) (q := q0)
  refine hk (fun b => if b = K.1 then q0 else ρ b) _ _ H1 _ hE (RW.push hR ?_) hK' hP' hD' hS' ⟨⟨by simp, by show K.1 < K.1 + 1; omega⟩, hs1.ext hE⟩
  rw [htg]
  exact Or.inr (Or.inr (Or.inr (Or.inr ⟨hx.1, cA, _, tys.length, rfl, by rw [hC]; simp, fun j hj => by rw [hz]; exact Or.inl ⟨rfl, rfl⟩⟩)))
theorem so_mna {index : Nat} (hexec : p.tables.exec = Jvm.exec) (hb : c.code = cc) (hown : s.vm.findClass own = some m.cls) (hx : x = 40) (hcl : (Cond.classLink own index "[[I").before args s = true) (hover : va_AOA .int s) (harr : (Cond.arrayClass .int).before args s = true)
    (hdg : decode cc pc = .ok (.multianewarray index 2, 4)) (hR : RW ρ tys M K.1 ws) (hK : va_K D vwCl tys s) (hP : va_P D vwCl ws H) (hD : va_D A ws) (hS : va_S A H0 H locs) (hA : ∀ q, H0.size ≤ q → A q) (hcells : cells + (1 + ln K.1) ≤ R.cells) (hslots : slots + (ln K.1 + ln K.1 * ln (K.1 + 1)) ≤ R.slots)
    (h : p2 st (fun c e r => if tg K.1 = x ∧ c = (ln K.1 : Int) ∧ e = (ln (K.1 + 1) : Int) ∧ (List.range (ln K.1)).all (fun j => Nat.beq (tg (K.1 + 1 + j)) 20 && Nat.beq (ln (K.1 + 1 + j)) (ln (K.1 + 1))) = true then some (pc + 4, pls, vR K.1 :: r, mrow M K.1 (ln K.1), ((K.1 + 1 + ln K.1, K.2.1 + (1 + ln K.1), K.2.2 + (ln K.1 + ln K.1 * ln (K.1 + 1))) : KK)) else none) = some q)
    (hs : SR ρ K.1 st rest) (hk : ∀ (ρ' : Nat → Nat) (tys' : List (ClassId × FieldType)) (ws' : va_W) (H' : Heap) (rest' : List Value), Ext ρ K.1 ρ' q.2.2.2.2.1 → RW ρ' tys' q.2.2.2.1 q.2.2.2.2.1 ws' → va_K D vwCl tys' s → va_P D vwCl ws' H' → va_D A ws' → va_S A H0 H' locs → SR ρ' q.2.2.2.2.1 q.2.2.1 rest' → W p l e R s m args below meth c H' locs (cells + (1 + ln K.1)) (slots + (ln K.1 + ln K.1 * ln (K.1 + 1))) Q (F0 m q.1 ls rest')) : W p l e R s m args below meth c H locs cells slots Q (F0 m pc ls rest) := by
  unfold p2 at h
  split at h
  case h_2 => cases h
  rename_i c8 c9 r9
  dsimp only at h
  split at h
  case isFalse => cases h
  rename_i hO
  obtain ⟨htg, hc, he, hall⟩ := hO
  obtain ⟨yv, r0, rfl, hyv, hs0⟩ := hs.i
  obtain ⟨xv, r1, rfl, hxv, hs1⟩ := hs0.i
  cases h
  have hn : ¬ xv < 0 := by rw [Int32.lt_iff_toInt_lt, Int32.toInt_zero]; omega
  have hN : xv.toNatClampNeg = ln K.1 := by show xv.toInt.toNat = _; omega
  have hn2 : ¬ yv < 0 := by rw [Int32.lt_iff_toInt_lt, Int32.toInt_zero]; omega
  have hN2 : yv.toNatClampNeg = ln (K.1 + 1) := by show yv.toInt.toNat = _; omega
  have hle := ln_le K.1
  have hle2 := ln_le (K.1 + 1)
  obtain ⟨cy, ky, comp, g1, g2, g3⟩ := Cond.arrayClass_spec harr
  have hP0 : va_P D vwCl (ws ++ va_pl [] (fun _ => .inr (0, []))) H := by simpa [va_pl] using hP
  have hD0 : va_D A (ws ++ va_pl [] (fun _ => .inr (0, []))) := by simpa [va_pl] using hD
  refine va_mna (X := ws) (L := []) (f := fun _ => .inr (0, [])) (ty := .int) (cy := cy) (z := (ln (K.1 + 1), .inl (fun _ => 0))) hexec hb hown hcl hover harr g1 hK hP0 hD0 hS hA hn hn2 hN hN2 (by omega) (by show _ * 4 ≤ _; omega) (by omega) rfl rfl hcells hslots (fun c => by rw [vp_cell_i, ← arrV_new]; rfl) hdg (fun q0 r cA H1 hinj hnin hK' hP' hD' hS' => ?_)
  have hK2 : va_K D vwCl ((tys ++ [(cA, .array .int)]) ++ [(cy, .int)]) s := by
    refine va_K.app hK' ⟨hK.1, fun k x9 hx9 => ?_⟩
    have hk0 : k = 0 := by
      have := (List.getElem?_eq_some_iff.mp hx9).1
      simp at this
      omega
    subst hk0
    cases hx9
    exact ⟨fun n z => ⟨fun k h => (by cases h), ky, g2, comp, g3⟩, g1⟩
  generalize hN9 : ln K.1 = N at *
  generalize hM9 : ln (K.1 + 1) = M9 at *
  have hws : (ws ++ [(q0, .inl (cA, N, .inr (.inr (.inr (.inr (fun i => if i < N then some (r i) else none))))))]) ++ va_pl ([] ++ (List.range N).map r) (vr_up (fun _ => .inr (0, [])) ((List.range N).map r) (.inl (cy, (M9, .inl (fun _ => 0))))) = (ws ++ [(q0, .inl (cA, N, .inr (.inr (.inr (.inr (fun i => if i < N then some (r i) else none))))))]) ++ (List.range N).map (fun i => (r i, (.inl (cy, (M9, .inl (fun _ => 0))) : va_E))) := by
    congr 1
    unfold va_pl
    rw [List.nil_append, List.map_map]
    apply List.map_congr_left
    intro i hi
    show (r i, vr_up _ _ _ (r i)) = _
    rw [vr_up_in (List.mem_map.mpr ⟨i, hi, rfl⟩)]
  rw [hws] at hP' hD'
  have hE : Ext ρ K.1 (fun b => if b < K.1 then ρ b else if b = K.1 then q0 else r (b - K.1 - 1)) (K.1 + 1 + N) := ⟨by omega, fun b hb => if_pos hb⟩
  have hl := hR.1
  have hR' : RW (fun b => if b < K.1 then ρ b else if b = K.1 then q0 else r (b - K.1 - 1)) ((tys ++ [(cA, .array .int)]) ++ [(cy, .int)]) (mrow M K.1 N) (K.1 + 1 + N) ((ws ++ [(q0, .inl (cA, N, .inr (.inr (.inr (.inr (fun i => if i < N then some (r i) else none))))))]) ++ (List.range N).map (fun i => (r i, (.inl (cy, (M9, .inl (fun _ => 0))) : va_E)))) := by
    refine ⟨by simp; omega, fun b hb1 hb2 => ?_, fun b hb k => ?_⟩
    · by_cases h1 : b < K.1
      · obtain ⟨e', e1, e2⟩ := hR.2.1 b hb1 h1
        refine ⟨e', ?_, ?_⟩
        · rw [List.append_assoc, List.getElem?_append_left (by omega)]
          show _ = some ((if b < K.1 then ρ b else _), e')
          rw [if_pos h1]
          exact e1
        · have h9 : mrow M K.1 N b = M b := by
            funext k'
            unfold mrow
            rw [if_neg (by omega)]
          rw [h9, List.append_assoc]
          exact e2.ext hE
      · by_cases h2 : b = K.1
        · subst h2
          refine ⟨.inl (cA, N, .inr (.inr (.inr (.inr (fun i => if i < N then some (r i) else none))))), ?_, ?_⟩
          · rw [List.append_assoc, List.getElem?_append_right (by omega), show K.1 - 32 - ws.length = 0 by omega]
            show _ = some ((if K.1 < K.1 then _ else if K.1 = K.1 then q0 else _), _)
            rw [if_neg (by omega), if_pos rfl]
            rfl
          · rw [htg, hx, hN9]
            refine Or.inr (Or.inr (Or.inr (Or.inr ⟨by omega, cA, _, tys.length, rfl, by simp [rty], fun j hj => ?_⟩)))
            refine Or.inr ⟨by unfold mrow; rw [if_pos ⟨rfl, hj⟩]; omega, by unfold mrow; rw [if_pos ⟨rfl, hj⟩]; omega, ?_⟩
            have h9 : (mrow M K.1 N K.1 j).toNat = K.1 + 1 + j := by unfold mrow; rw [if_pos ⟨rfl, hj⟩]; omega
            rw [h9]
            show (if j < N then some (r j) else none) = some (if K.1 + 1 + j < K.1 then ρ (K.1 + 1 + j) else if K.1 + 1 + j = K.1 then q0 else r (K.1 + 1 + j - K.1 - 1))
            rw [if_pos hj, if_neg (by omega), if_neg (by omega), show K.1 + 1 + j - K.1 - 1 = j by omega]
        · have h3 := List.all_eq_true.mp hall (b - K.1 - 1) (List.mem_range.mpr (by omega))
          simp only [Bool.and_eq_true] at h3
          have t1 : tg b = 20 := by
            have := Nat.eq_of_beq_eq_true h3.1
            rwa [show K.1 + 1 + (b - K.1 - 1) = b by omega] at this
          have t2 : ln b = M9 := by
            have := Nat.eq_of_beq_eq_true h3.2
            rwa [show K.1 + 1 + (b - K.1 - 1) = b by omega] at this
          refine ⟨.inl (cy, (M9, .inl (fun _ => 0))), ?_, ?_⟩
          · rw [List.getElem?_append_right (by simp; omega)]
            simp only [List.length_append, List.length_singleton]
            rw [List.getElem?_map, show b - 32 - (ws.length + 1) = b - K.1 - 1 by omega, List.getElem?_range (by omega)]
            show _ = some ((if b < K.1 then _ else if b = K.1 then q0 else _), _)
            rw [if_neg h1, if_neg h2]
            rfl
          · rw [t1, t2]
            refine Or.inr (Or.inl ⟨rfl, cy, _, tys.length + 1, rfl, by simp, fun j hj => ?_⟩)
            unfold mrow
            rw [if_neg (by omega), hR.2.2 b (by omega) j]
            rfl
    · unfold mrow
      rw [if_neg (by omega)]
      exact hR.2.2 b (by omega) k
  have hk2 := hk _ _ _ H1 (.ref q0 :: r1) hE hR' hK2 hP' hD' hS' ⟨⟨by show _ = Value.ref (if K.1 < K.1 then _ else if K.1 = K.1 then q0 else _); rw [if_neg (by omega), if_pos rfl], by show K.1 < K.1 + 1 + N; omega⟩, hs1.ext hE⟩
  rw [show cells + 1 + N = cells + (1 + N) by omega, show slots + N + N * M9 = slots + (N + N * M9) by omega]
  exact hk2
theorem so_ldc {index : Nat} (hexec : p.tables.exec = Jvm.exec) (hb : c.code = cc) (hown : s.vm.findClass own = some m.cls) (hdg : decode cc pc = .ok (.ldc index, 2))
    (hc : (x = 0 ∧ (-2147483648 ≤ z ∧ z < 2147483648) ∧ (Cond.constant own index (Int32.ofInt z)).before args s = true) ∨ (x ≠ 0 ∧ y < K.1 ∧ ∃ tx, vk_R own index tx (ρ y) s))
    (h : some (pc + 2, pls, (if x = 0 then vI z else vR y) :: st, M, K) = some q)
    (hs : SR ρ K.1 st rest) (hk : ∀ rest', SR ρ K.1 q.2.2.1 rest' → W p l e R s m args below meth c H locs cells slots Q (F0 m q.1 ls rest')) : W p l e R s m args below meth c H locs cells slots Q (F0 m pc ls rest) := by
  cases h
  rcases hc with ⟨h1, h2, h3⟩ | ⟨h1, h2, tx, h3⟩
  · exact lv_ldc hexec hb hown h3 hdg (hk _ ⟨by rw [if_pos h1]; exact ⟨_, rfl, Int32.toInt_ofInt_of_le (by omega) (by omega)⟩, hs⟩)
  · exact va_ldcS hexec hb hown h3 hdg (hk _ ⟨by rw [if_neg h1]; exact ⟨rfl, h2⟩, hs⟩)
theorem so_ldcw {index : Nat} (hexec : p.tables.exec = Jvm.exec) (hb : c.code = cc) (hown : s.vm.findClass own = some m.cls) (hdg : decode cc pc = .ok (.ldc_w index, 3))
    (hc : (x = 0 ∧ (-2147483648 ≤ z ∧ z < 2147483648) ∧ (Cond.constant own index (Int32.ofInt z)).before args s = true))
    (h : some (pc + 3, pls, (if x = 0 then vI z else vR y) :: st, M, K) = some q)
    (hs : SR ρ K.1 st rest) (hk : ∀ rest', SR ρ K.1 q.2.2.1 rest' → W p l e R s m args below meth c H locs cells slots Q (F0 m q.1 ls rest')) : W p l e R s m args below meth c H locs cells slots Q (F0 m pc ls rest) := by
  cases h
  obtain ⟨h1, h2, h3⟩ := hc
  exact lv_ldcw hexec hb hown h3 hdg (hk _ ⟨by rw [if_pos h1]; exact ⟨_, rfl, Int32.toInt_ofInt_of_le (by omega) (by omega)⟩, hs⟩)
theorem so_ldc2 {index : Nat} (hexec : p.tables.exec = Jvm.exec) (hb : c.code = cc) (hown : s.vm.findClass own = some m.cls) (hdg : decode cc pc = .ok (.ldc2_w index, 3))
    (hc : (-2147483648 ≤ z ∧ z < 2147483648) ∧ (Cond.constantLong own index (Int64.ofInt z)).before args s = true)
    (h : some (pc + 3, pls, vL z :: st, M, K) = some q)
    (hs : SR ρ K.1 st rest) (hk : ∀ rest', SR ρ K.1 q.2.2.1 rest' → W p l e R s m args below meth c H locs cells slots Q (F0 m q.1 ls rest')) : W p l e R s m args below meth c H locs cells slots Q (F0 m pc ls rest) := by
  cases h
  exact lv_ldc2 hexec hb hown hc.2 hdg (hk _ (SR.pl _ (Int64.toInt_ofInt_of_le (by omega) (by omega)) hs))
theorem so_scr {b L : Nat} {xs : Nat → Int32} (hexec : p.tables.exec = Jvm.exec) (hb : c.code = cc) (hdg : decode cc pc = .ok (.iaload, 1)) (hρ : ρ 31 = b) (hX : va_X b L xs s H0) (hbl : b < H0.size) (hbA : ¬ A b) (hS : va_S A H0 H locs) (hL : M 30 0 = (L : Int)) (hM : ∀ j, j < L → M 31 j = (xs j).toInt)
    (h : pAI st (fun a i r => if a = 31 ∧ 0 ≤ i ∧ i < M 30 0 then some (pc + 1, pls, vI (M 31 i.toNat) :: r, M, K) else none) = some q)
    (hs : SR ρ K.1 st rest) (hk : ∀ rest', SR ρ K.1 q.2.2.1 rest' → W p l e R s m args below meth c H locs cells slots Q (F0 m q.1 ls rest')) : W p l e R s m args below meth c H locs cells slots Q (F0 m pc ls rest) := by
  unfold pAI at h
  split at h
  case h_2 => cases h
  rename_i i a r9
  dsimp only at h
  split at h
  case isFalse => cases h
  rename_i hO
  obtain ⟨rfl, hO1, hO2⟩ := hO
  obtain ⟨xv, r1, rfl, hx, hs1⟩ := hs.i
  obtain ⟨r2, rfl, ha, hs2⟩ := hs1.a
  cases h
  rw [hρ]
  have hin : vp_in xv L := i32_in.mpr (by rw [hx, ← hL]; exact ⟨hO1, hO2⟩)
  have hi : xv.toNatClampNeg = i.toNat := by rw [← hx]; rfl
  exact va_sld hexec hb hX hbl hbA hS hin hdg (hk _ (SR.pi _ (by rw [hi, hM _ (by omega)]) hs2))
theorem so_sln {b L : Nat} {xs : Nat → Int32} (hexec : p.tables.exec = Jvm.exec) (hb : c.code = cc) (hdg : decode cc pc = .ok (.arraylength, 1)) (hρ : ρ 31 = b) (hX : va_X b L xs s H0) (hbl : b < H0.size) (hbA : ¬ A b) (hS : va_S A H0 H locs) (hL : M 30 0 = (L : Int)) (hL2 : L < 2 ^ 31)
    (h : pA st (fun a r => if a = 31 then some (pc + 1, pls, vI (M 30 0) :: r, M, K) else none) = some q)
    (hs : SR ρ K.1 st rest) (hk : ∀ rest', SR ρ K.1 q.2.2.1 rest' → W p l e R s m args below meth c H locs cells slots Q (F0 m q.1 ls rest')) : W p l e R s m args below meth c H locs cells slots Q (F0 m pc ls rest) := by
  unfold pA at h
  split at h
  case h_2 => cases h
  rename_i a r9
  dsimp only at h
  split at h
  case isFalse => cases h
  rename_i hO
  subst hO
  obtain ⟨r2, rfl, ha, hs2⟩ := hs.a
  cases h
  rw [hρ]
  exact va_slen hexec hb hX hbl hbA hS hdg (hk _ (SR.pi _ (by rw [hL]; exact nI_toInt hL2) hs2))
end SN
