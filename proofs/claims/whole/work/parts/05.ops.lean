/-! one instruction: the pure step against the machine's row; stack, locals, jumps -/
theorem i32_add (x y : Int32) : (x + y).toInt = w32 (x.toInt + y.toInt) := by rw [Int32.toInt_add]; rfl
theorem i32_sub (x y : Int32) : (x - y).toInt = w32 (x.toInt - y.toInt) := by rw [Int32.toInt_sub]; rfl
theorem i32_mul (x y : Int32) : (x * y).toInt = w32 (x.toInt * y.toInt) := by rw [Int32.toInt_mul]; rfl
theorem i32_neg (x : Int32) : (-x).toInt = w32 (-x.toInt) := by rw [Int32.toInt_neg]; rfl
theorem i32_div (x y : Int32) : (x / y).toInt = w32 (x.toInt.tdiv y.toInt) := by rw [Int32.toInt_div]; rfl
theorem i64_add (x y : Int64) : (x + y).toInt = w64 (x.toInt + y.toInt) := by rw [Int64.toInt_add]; rfl
theorem i64_mul (x y : Int64) : (x * y).toInt = w64 (x.toInt * y.toInt) := by rw [Int64.toInt_mul]; rfl
theorem i64_div (x y : Int64) : (x / y).toInt = w64 (x.toInt.tdiv y.toInt) := by rw [Int64.toInt_div]; rfl
theorem i64_rem (x y : Int64) : (x - x / y * y).toInt = x.toInt.tmod y.toInt := Jvm.Kit.i64_rem x y
theorem i32_b (f : Int32 → Int32 → Int32) (x y : Int32) : (f x y).toInt = (f (Int32.ofInt x.toInt) (Int32.ofInt y.toInt)).toInt := by rw [Int32.ofInt_toInt, Int32.ofInt_toInt]
theorem i32_0 (x : Int32) : x = 0 ↔ x.toInt = 0 := by rw [← Int32.toInt_inj, Int32.toInt_zero]
theorem i64_0 (x : Int64) : x = 0 ↔ x.toInt = 0 := by rw [← Int64.toInt_inj, Int64.toInt_zero]
section SO
variable {p : Program} {l : Launch} {e : Env} {R : Room} {s : State} {m : MethodId} {args : Array Value} {below : List Frame} {meth : Method} {c : Code} {H : Heap} {locs : List Loc} {cells slots : Nat} {Q : State → Prop}
variable {cc : ByteArray} {pc n x y : Nat} {z : Int} {ls : Array Slot} {rest : List Value} {ρ : Nat → Nat} {nL : Nat} {pls st : List PV} {M : Mem} {K : KK} {q : PS}
theorem so_push {v : PV} {w : Value} (row : W p l e R s m args below meth c H locs cells slots Q (F0 m (pc + n) ls (w :: rest)) → W p l e R s m args below meth c H locs cells slots Q (F0 m pc ls rest))
    (hv : VR ρ K.1 v w) (h : some (pc + n, pls, v :: st, M, K) = some q) (hs : SR ρ K.1 st rest) (hk : ∀ rest', SR ρ K.1 q.2.2.1 rest' → W p l e R s m args below meth c H locs cells slots Q (F0 m q.1 ls rest')) : W p l e R s m args below meth c H locs cells slots Q (F0 m pc ls rest) := by
  cases h
  exact row (hk _ ⟨hv, hs⟩)
theorem so_bin {g : Int32 → Int32 → Int32} {gi : Int → Int → Int} (hg : ∀ x y : Int32, (g x y).toInt = gi x.toInt y.toInt)
    (row : ∀ (x y : Int32) (rest : List Value), W p l e R s m args below meth c H locs cells slots Q (F0 m (pc + 1) ls (.int (g x y) :: rest)) → W p l e R s m args below meth c H locs cells slots Q (F0 m pc ls (.int y :: .int x :: rest)))
    (h : p2 st (fun a b r => some (pc + 1, pls, vI (gi a b) :: r, M, K)) = some q) (hs : SR ρ K.1 st rest) (hk : ∀ rest', SR ρ K.1 q.2.2.1 rest' → W p l e R s m args below meth c H locs cells slots Q (F0 m q.1 ls rest')) : W p l e R s m args below meth c H locs cells slots Q (F0 m pc ls rest) := by
  unfold p2 at h
  split at h
  · obtain ⟨yv, r1, rfl, hy, hs⟩ := hs.i
    obtain ⟨xv, r2, rfl, hx, hs⟩ := hs.i
    cases h
    exact row _ _ _ (hk _ (SR.pi _ (by rw [hg, hx, hy]) hs))
  · cases h
theorem so_binz {g : Int32 → Int32 → Int32} {gi : Int → Int → Int} (hg : ∀ x y : Int32, (g x y).toInt = gi x.toInt y.toInt)
    (row : ∀ (x y : Int32) (rest : List Value), ¬ y = 0 → W p l e R s m args below meth c H locs cells slots Q (F0 m (pc + 1) ls (.int (g x y) :: rest)) → W p l e R s m args below meth c H locs cells slots Q (F0 m pc ls (.int y :: .int x :: rest)))
    (h : p2 st (fun a b r => if b = 0 then none else some (pc + 1, pls, vI (gi a b) :: r, M, K)) = some q) (hs : SR ρ K.1 st rest) (hk : ∀ rest', SR ρ K.1 q.2.2.1 rest' → W p l e R s m args below meth c H locs cells slots Q (F0 m q.1 ls rest')) : W p l e R s m args below meth c H locs cells slots Q (F0 m pc ls rest) := by
  unfold p2 at h
  split at h
  · obtain ⟨yv, r1, rfl, hy, hs⟩ := hs.i
    obtain ⟨xv, r2, rfl, hx, hs⟩ := hs.i
    dsimp only at h
    split at h
    · cases h
    · rename_i hb
      cases h
      exact row _ _ _ (fun h9 => hb (by rw [← hy]; exact (i32_0 _).mp h9)) (hk _ (SR.pi _ (by rw [hg, hx, hy]) hs))
  · cases h
theorem so_binl {g : Int64 → Int64 → Int64} {gi : Int → Int → Int} (hg : ∀ x y : Int64, (g x y).toInt = gi x.toInt y.toInt)
    (row : ∀ (x y : Int64) (rest : List Value), W p l e R s m args below meth c H locs cells slots Q (F0 m (pc + 1) ls (.long (g x y) :: rest)) → W p l e R s m args below meth c H locs cells slots Q (F0 m pc ls (.long y :: .long x :: rest)))
    (h : q2 st (fun a b r => some (pc + 1, pls, vL (gi a b) :: r, M, K)) = some q) (hs : SR ρ K.1 st rest) (hk : ∀ rest', SR ρ K.1 q.2.2.1 rest' → W p l e R s m args below meth c H locs cells slots Q (F0 m q.1 ls rest')) : W p l e R s m args below meth c H locs cells slots Q (F0 m pc ls rest) := by
  unfold q2 at h
  split at h
  · obtain ⟨yv, r1, rfl, hy, hs⟩ := hs.l
    obtain ⟨xv, r2, rfl, hx, hs⟩ := hs.l
    cases h
    exact row _ _ _ (hk _ (SR.pl _ (by rw [hg, hx, hy]) hs))
  · cases h
theorem so_binlz {g : Int64 → Int64 → Int64} {gi : Int → Int → Int} (hg : ∀ x y : Int64, (g x y).toInt = gi x.toInt y.toInt)
    (row : ∀ (x y : Int64) (rest : List Value), ¬ y = 0 → W p l e R s m args below meth c H locs cells slots Q (F0 m (pc + 1) ls (.long (g x y) :: rest)) → W p l e R s m args below meth c H locs cells slots Q (F0 m pc ls (.long y :: .long x :: rest)))
    (h : q2 st (fun a b r => if b = 0 then none else some (pc + 1, pls, vL (gi a b) :: r, M, K)) = some q) (hs : SR ρ K.1 st rest) (hk : ∀ rest', SR ρ K.1 q.2.2.1 rest' → W p l e R s m args below meth c H locs cells slots Q (F0 m q.1 ls rest')) : W p l e R s m args below meth c H locs cells slots Q (F0 m pc ls rest) := by
  unfold q2 at h
  split at h
  · obtain ⟨yv, r1, rfl, hy, hs⟩ := hs.l
    obtain ⟨xv, r2, rfl, hx, hs⟩ := hs.l
    dsimp only at h
    split at h
    · cases h
    · rename_i hb
      cases h
      exact row _ _ _ (fun h9 => hb (by rw [← hy]; exact (i64_0 _).mp h9)) (hk _ (SR.pl _ (by rw [hg, hx, hy]) hs))
  · cases h
theorem so_cmp (row : ∀ (x y : Int64) (rest : List Value), W p l e R s m args below meth c H locs cells slots Q (F0 m (pc + 1) ls (.int (lg_cmp x y) :: rest)) → W p l e R s m args below meth c H locs cells slots Q (F0 m pc ls (.long y :: .long x :: rest)))
    (h : q2 st (fun a b r => some (pc + 1, pls, vI (jcmp a b) :: r, M, K)) = some q) (hs : SR ρ K.1 st rest) (hk : ∀ rest', SR ρ K.1 q.2.2.1 rest' → W p l e R s m args below meth c H locs cells slots Q (F0 m q.1 ls rest')) : W p l e R s m args below meth c H locs cells slots Q (F0 m pc ls rest) := by
  unfold q2 at h
  split at h
  · obtain ⟨yv, r1, rfl, hy, hs⟩ := hs.l
    obtain ⟨xv, r2, rfl, hx, hs⟩ := hs.l
    cases h
    refine row _ _ _ (hk _ (SR.pi _ ?_ hs))
    unfold lg_cmp jcmp
    rw [← hx, ← hy]
    simp only [gt_iff_lt, Int64.lt_iff_toInt_lt, ← Int64.toInt_inj]
    split
    · rfl
    · split <;> rfl
  · cases h
theorem so_un {g : Int32 → Int32} {gi : Int → Int} (hg : ∀ x : Int32, (g x).toInt = gi x.toInt)
    (row : ∀ (x : Int32) (rest : List Value), W p l e R s m args below meth c H locs cells slots Q (F0 m (pc + 1) ls (.int (g x) :: rest)) → W p l e R s m args below meth c H locs cells slots Q (F0 m pc ls (.int x :: rest)))
    (h : p1 st (fun a r => some (pc + 1, pls, vI (gi a) :: r, M, K)) = some q) (hs : SR ρ K.1 st rest) (hk : ∀ rest', SR ρ K.1 q.2.2.1 rest' → W p l e R s m args below meth c H locs cells slots Q (F0 m q.1 ls rest')) : W p l e R s m args below meth c H locs cells slots Q (F0 m pc ls rest) := by
  unfold p1 at h
  split at h
  · obtain ⟨xv, r2, rfl, hx, hs⟩ := hs.i
    cases h
    exact row _ _ (hk _ (SR.pi _ (by rw [hg, hx]) hs))
  · cases h
theorem so_i2l (row : ∀ (x : Int32) (rest : List Value), W p l e R s m args below meth c H locs cells slots Q (F0 m (pc + 1) ls (.long x.toInt64 :: rest)) → W p l e R s m args below meth c H locs cells slots Q (F0 m pc ls (.int x :: rest)))
    (h : p1 st (fun a r => some (pc + 1, pls, vL a :: r, M, K)) = some q) (hs : SR ρ K.1 st rest) (hk : ∀ rest', SR ρ K.1 q.2.2.1 rest' → W p l e R s m args below meth c H locs cells slots Q (F0 m q.1 ls rest')) : W p l e R s m args below meth c H locs cells slots Q (F0 m pc ls rest) := by
  unfold p1 at h
  split at h
  · obtain ⟨xv, r2, rfl, hx, hs⟩ := hs.i
    cases h
    exact row _ _ (hk _ (SR.pl _ (by rw [Int32.toInt_toInt64, hx]) hs))
  · cases h
theorem so_lshl (row : ∀ (x : Int64) (y : Int32) (rest : List Value), W p l e R s m args below meth c H locs cells slots Q (F0 m (pc + 1) ls (.long (x <<< (y.toInt64 &&& 63)) :: rest)) → W p l e R s m args below meth c H locs cells slots Q (F0 m pc ls (.int y :: .long x :: rest)))
    (h : (match st with
    | .inl b :: .inr (.inl a) :: r => some (pc + 1, pls, vL (jlshl a b) :: r, M, K)
    | _ => none) = some q) (hs : SR ρ K.1 st rest) (hk : ∀ rest', SR ρ K.1 q.2.2.1 rest' → W p l e R s m args below meth c H locs cells slots Q (F0 m q.1 ls rest')) : W p l e R s m args below meth c H locs cells slots Q (F0 m pc ls rest) := by
  split at h
  · obtain ⟨yv, r1, rfl, hy, hs⟩ := hs.i
    obtain ⟨xv, r2, rfl, hx, hs⟩ := hs.l
    cases h
    refine row _ _ _ (hk _ (SR.pl _ ?_ hs))
    unfold jlshl
    rw [← hx, ← hy, Int64.ofInt_toInt, Int32.ofInt_toInt]
  · cases h
theorem so_ldI {i : Nat} (row : ∀ (x : Int32), ls[i]? = some (.val (.int x)) → W p l e R s m args below meth c H locs cells slots Q (F0 m (pc + n) ls (.int x :: rest)) → W p l e R s m args below meth c H locs cells slots Q (F0 m pc ls rest))
    (h : ld pls i 0 (fun v => some (pc + n, pls, v :: st, M, K)) = some q) (hl : LR ρ K.1 nL pls ls) (hs : SR ρ K.1 st rest) (hk : ∀ rest', SR ρ K.1 q.2.2.1 rest' → W p l e R s m args below meth c H locs cells slots Q (F0 m q.1 ls rest')) : W p l e R s m args below meth c H locs cells slots Q (F0 m pc ls rest) := by
  unfold ld at h
  split at h
  · rename_i a h1 h2
    cases h
    obtain ⟨w, g1, ⟨x, rfl, g2⟩⟩ := hl.get h1 (by intro h; cases h)
    exact row x g1 (hk _ (SR.pi _ g2 hs))
  · exfalso; omega
  · exfalso; omega
  · cases h
theorem so_ldL {i : Nat} (row : ∀ (x : Int64), ls[i]? = some (.val (.long x)) → W p l e R s m args below meth c H locs cells slots Q (F0 m (pc + n) ls (.long x :: rest)) → W p l e R s m args below meth c H locs cells slots Q (F0 m pc ls rest))
    (h : ld pls i 1 (fun v => some (pc + n, pls, v :: st, M, K)) = some q) (hl : LR ρ K.1 nL pls ls) (hs : SR ρ K.1 st rest) (hk : ∀ rest', SR ρ K.1 q.2.2.1 rest' → W p l e R s m args below meth c H locs cells slots Q (F0 m q.1 ls rest')) : W p l e R s m args below meth c H locs cells slots Q (F0 m pc ls rest) := by
  unfold ld at h
  split at h
  · exfalso; omega
  · rename_i a h1 h2
    cases h
    obtain ⟨w, g1, ⟨x, rfl, g2⟩⟩ := hl.get h1 (by intro h; cases h)
    exact row x g1 (hk _ (SR.pl _ g2 hs))
  · exfalso; omega
  · cases h
theorem so_ldA {i : Nat} (row : ∀ (x : Nat), ls[i]? = some (.val (.ref x)) → W p l e R s m args below meth c H locs cells slots Q (F0 m (pc + n) ls (.ref x :: rest)) → W p l e R s m args below meth c H locs cells slots Q (F0 m pc ls rest))
    (h : ld pls i 2 (fun v => some (pc + n, pls, v :: st, M, K)) = some q) (hl : LR ρ K.1 nL pls ls) (hs : SR ρ K.1 st rest) (hk : ∀ rest', SR ρ K.1 q.2.2.1 rest' → W p l e R s m args below meth c H locs cells slots Q (F0 m q.1 ls rest')) : W p l e R s m args below meth c H locs cells slots Q (F0 m pc ls rest) := by
  unfold ld at h
  split at h
  · exfalso; omega
  · exfalso; omega
  · rename_i a h1 h2
    cases h
    obtain ⟨w, g1, ⟨rfl, g2⟩⟩ := hl.get h1 (by intro h; cases h)
    exact row _ g1 (hk _ (SR.pa g2 hs))
  · cases h
theorem so_stI {i : Nat} (row : ∀ (x : Int32) (rest : List Value) (lv lv' : List (Nat × Value)), lv_has ls nL lv → i < nL → (i, Value.int x) :: lv.filter (fun q => !(q.1 == i) && !(q.1 + 1 == i && q.2.category == 2)) = lv' → (∀ ls' : Array Slot, lv_has ls' nL lv' → W p l e R s m args below meth c H locs cells slots Q (F0 m (pc + n) ls' rest)) → W p l e R s m args below meth c H locs cells slots Q (F0 m pc ls (.int x :: rest)))
    (h : sv pls st i 0 (fun l r => some (pc + n, l, r, M, K)) = some q) (hl : LR ρ K.1 nL pls ls) (hs : SR ρ K.1 st rest) (hk : ∀ ls' rest', LR ρ K.1 nL q.2.1 ls' → SR ρ K.1 q.2.2.1 rest' → W p l e R s m args below meth c H locs cells slots Q (F0 m q.1 ls' rest')) : W p l e R s m args below meth c H locs cells slots Q (F0 m pc ls rest) := by
  unfold sv at h
  split at h
  case isFalse => cases h
  rename_i hi
  split at h
  · obtain ⟨xv, r2, rfl, hx, hs⟩ := hs.i
    cases h
    obtain ⟨h1, lv, h2, h3⟩ := hl
    exact row _ _ _ _ h2 (by omega) rfl (fun ls' h' => hk _ _ (LR.st1 h1 h3 rfl (Or.inr ⟨xv, rfl, hx⟩) h') hs)
  · exfalso; omega
  · exfalso; omega
  · exfalso; omega
  · cases h
theorem so_stA {i : Nat} (row : ∀ (x : Nat) (rest : List Value) (lv lv' : List (Nat × Value)), lv_has ls nL lv → i < nL → (i, Value.ref x) :: lv.filter (fun q => !(q.1 == i) && !(q.1 + 1 == i && q.2.category == 2)) = lv' → (∀ ls' : Array Slot, lv_has ls' nL lv' → W p l e R s m args below meth c H locs cells slots Q (F0 m (pc + n) ls' rest)) → W p l e R s m args below meth c H locs cells slots Q (F0 m pc ls (.ref x :: rest)))
    (h : sv pls st i 2 (fun l r => some (pc + n, l, r, M, K)) = some q) (hl : LR ρ K.1 nL pls ls) (hs : SR ρ K.1 st rest) (hk : ∀ ls' rest', LR ρ K.1 nL q.2.1 ls' → SR ρ K.1 q.2.2.1 rest' → W p l e R s m args below meth c H locs cells slots Q (F0 m q.1 ls' rest')) : W p l e R s m args below meth c H locs cells slots Q (F0 m pc ls rest) := by
  unfold sv at h
  split at h
  case isFalse => cases h
  rename_i hi
  split at h
  · exfalso; omega
  · exfalso; omega
  · obtain ⟨r2, rfl, hx, hs⟩ := hs.a
    cases h
    obtain ⟨h1, lv, h2, h3⟩ := hl
    exact row _ _ _ _ h2 (by omega) rfl (fun ls' h' => hk _ _ (LR.st1 h1 h3 rfl (Or.inr ⟨rfl, hx⟩) h') hs)
  · obtain ⟨q9, r2, rfl, hs2⟩ := hs.u
    cases h
    obtain ⟨h1, lv, h2, h3⟩ := hl
    exact row _ _ _ _ h2 (by omega) rfl (fun ls' h' => hk _ _ (LR.st1 (v := vU) h1 h3 rfl (Or.inl rfl) h') hs2)
  · cases h
theorem so_stL {i : Nat} (row : ∀ (x : Int64) (rest : List Value) (lv lv' : List (Nat × Value)), lv_has ls nL lv → i + 1 < nL → (i, Value.long x) :: lv.filter (fun q => !(q.1 == i) && (!(q.1 == i + 1) && !(q.1 + 1 == i && q.2.category == 2))) = lv' → (∀ ls' : Array Slot, lv_has ls' nL lv' → W p l e R s m args below meth c H locs cells slots Q (F0 m (pc + n) ls' rest)) → W p l e R s m args below meth c H locs cells slots Q (F0 m pc ls (.long x :: rest)))
    (h : sv pls st i 1 (fun l r => some (pc + n, l, r, M, K)) = some q) (hl : LR ρ K.1 nL pls ls) (hs : SR ρ K.1 st rest) (hk : ∀ ls' rest', LR ρ K.1 nL q.2.1 ls' → SR ρ K.1 q.2.2.1 rest' → W p l e R s m args below meth c H locs cells slots Q (F0 m q.1 ls' rest')) : W p l e R s m args below meth c H locs cells slots Q (F0 m pc ls rest) := by
  unfold sv at h
  split at h
  case isFalse => cases h
  rename_i hi
  split at h
  · exfalso; omega
  · obtain ⟨xv, r2, rfl, hx, hs2⟩ := hs.l
    split at h
    case isFalse => cases h
    rename_i a9 r9 _ hi2
    cases h
    obtain ⟨h1, lv, h2, h3⟩ := hl
    refine row _ _ _ _ h2 (by omega) rfl (fun ls' h' => hk _ _ ⟨by simp [stL_len, h1], _, h', fun k u hk9 hu => ?_⟩ hs2)
    by_cases hki : k = i
    · subst hki
      have hlt : k < (stL (stL pls k (Sum.inr (Sum.inl a9))) (k + 1) vU).length := by simp only [stL_len]; omega
      have e9 : ((stL (stL pls k (Sum.inr (Sum.inl a9))) (k + 1) vU).set k (Sum.inr (Sum.inl a9)))[k]? = some (Sum.inr (Sum.inl a9)) := List.getElem?_set_self hlt
      have e8 : u = Sum.inr (Sum.inl a9) := Option.some.inj (hk9.symm.trans e9)
      subst e8
      exact ⟨_, List.mem_cons_self, xv, rfl, hx⟩
    · have e9 : (stL (stL pls i (Sum.inr (Sum.inl a9))) (i + 1) vU)[k]? = some u := by
        have : ((stL (stL pls i (Sum.inr (Sum.inl a9))) (i + 1) vU).set i (Sum.inr (Sum.inl a9)))[k]? = some u := hk9
        rwa [List.getElem?_set_ne (fun h => hki h.symm)] at this
      rcases stL_get _ _ _ _ _ e9 with ⟨g1, g2⟩ | ⟨g1, -⟩ | ⟨g1, g2, g3⟩
      · exact absurd g2 hu
      · omega
      · rcases stL_get _ _ _ _ _ g3 with ⟨k1, -⟩ | ⟨k1, u0, k2, k3⟩ | ⟨k1, k2, k3⟩
        · omega
        · subst k3
          have hu0 : u0 ≠ vU := fun e => hu (by rw [e]; rfl)
          obtain ⟨w0, a, b⟩ := h3 k u0 k2 hu0
          obtain ⟨c1, c2⟩ := clr_ne hu b
          refine ⟨w0, List.mem_cons_of_mem _ (List.mem_filter.mpr ⟨a, ?_⟩), by rw [c1]; exact b⟩
          simp [hki, g1, c2]
        · obtain ⟨w0, a, b⟩ := h3 k u k3 hu
          refine ⟨w0, List.mem_cons_of_mem _ (List.mem_filter.mpr ⟨a, ?_⟩), b⟩
          simp [hki, g1, k2]
  · exfalso; omega
  · exfalso; omega
  · cases h
theorem so_iinc {i : Nat} {k : Int} (row : ∀ (a : Nat) (x v : Int32) (lv lv' : List (Nat × Value)), lv_has ls nL lv → lv[a]? = some (i, .int x) → x + Int32.ofInt k = v → i < nL → (i, Value.int v) :: lv.filter (fun q => !(q.1 == i) && !(q.1 + 1 == i && q.2.category == 2)) = lv' → (∀ ls' : Array Slot, lv_has ls' nL lv' → W p l e R s m args below meth c H locs cells slots Q (F0 m (pc + n) ls' rest)) → W p l e R s m args below meth c H locs cells slots Q (F0 m pc ls rest))
    (hkr : -32768 ≤ k ∧ k < 32768)
    (h : (match pls[i]? with
    | some (.inl a) => some (pc + n, stL pls i (vI (w32 (a + k))), st, M, K)
    | _ => none) = some q) (hl : LR ρ K.1 nL pls ls) (hs : SR ρ K.1 st rest) (hk : ∀ ls' rest', LR ρ K.1 nL q.2.1 ls' → SR ρ K.1 q.2.2.1 rest' → W p l e R s m args below meth c H locs cells slots Q (F0 m q.1 ls' rest')) : W p l e R s m args below meth c H locs cells slots Q (F0 m pc ls rest) := by
  split at h
  · rename_i a ha
    cases h
    obtain ⟨h1, lv, h2, h3⟩ := hl
    obtain ⟨w, g1, ⟨x, rfl, g2⟩⟩ := h3 i _ ha (by intro h; cases h)
    obtain ⟨b, hb⟩ := List.getElem?_of_mem g1
    have hi : i < nL := by rw [← h1]; exact (List.getElem?_eq_some_iff.mp ha).1
    refine row b x _ lv _ h2 hb rfl hi rfl (fun ls' h' => hk _ _ (LR.st1 h1 h3 rfl (Or.inr ⟨_, rfl, ?_⟩) h') hs)
    rw [i32_add, g2, Int32.toInt_ofInt_of_le (by omega) (by omega)]
  · cases h
theorem so_dup (row : ∀ (va : Value) (rest : List Value), va.category = 1 → W p l e R s m args below meth c H locs cells slots Q (F0 m (pc + 1) ls (va :: va :: rest)) → W p l e R s m args below meth c H locs cells slots Q (F0 m pc ls (va :: rest)))
    (h : (match st with
    | .inl a :: r => some (pc + 1, pls, .inl a :: .inl a :: r, M, K)
    | .inr (.inr (.inl a)) :: r => some (pc + 1, pls, vR a :: vR a :: r, M, K)
    | _ => none) = some q) (hs : SR ρ K.1 st rest) (hk : ∀ rest', SR ρ K.1 q.2.2.1 rest' → W p l e R s m args below meth c H locs cells slots Q (F0 m q.1 ls rest')) : W p l e R s m args below meth c H locs cells slots Q (F0 m pc ls rest) := by
  split at h
  · obtain ⟨xv, r2, rfl, hx, hs⟩ := hs.i
    cases h
    exact row _ _ rfl (hk _ (SR.pi _ hx (SR.pi _ hx hs)))
  · obtain ⟨r2, rfl, hx, hs⟩ := hs.a
    cases h
    exact row _ _ rfl (hk _ (SR.pa hx (SR.pa hx hs)))
  · cases h
theorem so_dup2 (row : ∀ (va vb : Value) (rest : List Value), va.category = 1 → vb.category = 1 → W p l e R s m args below meth c H locs cells slots Q (F0 m (pc + 1) ls (va :: vb :: va :: vb :: rest)) → W p l e R s m args below meth c H locs cells slots Q (F0 m pc ls (va :: vb :: rest)))
    (h : (match st with
    | .inl b :: .inr (.inr (.inl a)) :: r => some (pc + 1, pls, vI b :: vR a :: vI b :: vR a :: r, M, K)
    | _ => none) = some q) (hs : SR ρ K.1 st rest) (hk : ∀ rest', SR ρ K.1 q.2.2.1 rest' → W p l e R s m args below meth c H locs cells slots Q (F0 m q.1 ls rest')) : W p l e R s m args below meth c H locs cells slots Q (F0 m pc ls rest) := by
  split at h
  · obtain ⟨xv, r2, rfl, hx, hs⟩ := hs.i
    obtain ⟨r3, rfl, ha, hs⟩ := hs.a
    cases h
    exact row _ _ _ rfl rfl (hk _ (SR.pi _ hx (SR.pa ha (SR.pi _ hx (SR.pa ha hs)))))
  · cases h
theorem so_pop (row : ∀ (va : Value) (rest : List Value), va.category = 1 → W p l e R s m args below meth c H locs cells slots Q (F0 m (pc + 1) ls rest) → W p l e R s m args below meth c H locs cells slots Q (F0 m pc ls (va :: rest)))
    (h : (match st with
    | .inl _ :: r => some (pc + 1, pls, r, M, K)
    | .inr (.inr (.inl _)) :: r => some (pc + 1, pls, r, M, K)
    | _ => none) = some q) (hs : SR ρ K.1 st rest) (hk : ∀ rest', SR ρ K.1 q.2.2.1 rest' → W p l e R s m args below meth c H locs cells slots Q (F0 m q.1 ls rest')) : W p l e R s m args below meth c H locs cells slots Q (F0 m pc ls rest) := by
  split at h
  · obtain ⟨xv, r2, rfl, hx, hs⟩ := hs.i
    cases h
    exact row _ _ rfl (hk _ hs)
  · obtain ⟨r2, rfl, hx, hs⟩ := hs.a
    cases h
    exact row _ _ rfl (hk _ hs)
  · cases h
theorem so_if {cnd : ClassFile.Cond} {off : Int} (hexec : p.tables.exec = Jvm.exec) (hb : c.code = cc) (hdg : decode cc pc = .ok (.ifCond cnd off, 3)) (ht : (pc : Int) + off = (x : Int))
    (h : p1 st (fun a r => some (if pcd cnd a 0 = true then x else pc + 3, pls, r, M, K)) = some q) (hs : SR ρ K.1 st rest) (hk : ∀ rest', SR ρ K.1 q.2.2.1 rest' → W p l e R s m args below meth c H locs cells slots Q (F0 m q.1 ls rest')) : W p l e R s m args below meth c H locs cells slots Q (F0 m pc ls rest) := by
  unfold p1 at h
  split at h
  · obtain ⟨xv, r2, rfl, hx, hs⟩ := hs.i
    cases h
    have hk := hk _ hs
    rw [← hx] at hk
    cases cnd
    · refine lv_if_eq hexec hb hdg ht (fun h9 => ?_) (fun h9 => ?_)
      · rw [i32_0] at h9; simpa [pcd, h9] using hk
      · rw [i32_0] at h9; simpa [pcd, h9] using hk
    · refine lv_if_ne hexec hb hdg ht (fun h9 => ?_) (fun h9 => ?_)
      · have h9 : ¬ xv.toInt = 0 := fun h8 => h9 ((i32_0 _).mpr h8)
        simpa [pcd, h9] using hk
      · have h9 : xv.toInt = 0 := by first | exact (i32_0 _).mp h9 | exact (i32_0 _).mp (Classical.byContradiction fun h8 => h9 h8)
        simpa [pcd, h9] using hk
    · refine lv_if_lt hexec hb hdg ht (fun h9 => ?_) (fun h9 => ?_)
      · rw [Int32.lt_iff_toInt_lt, Int32.toInt_zero] at h9; simpa [pcd, h9] using hk
      · rw [Int32.lt_iff_toInt_lt, Int32.toInt_zero] at h9; simpa [pcd, h9] using hk
    · refine lv_if_ge hexec hb hdg ht (fun h9 => ?_) (fun h9 => ?_)
      · first | rw [Int32.le_iff_toInt_le, Int32.toInt_zero] at h9 | rw [ge_iff_le, Int32.le_iff_toInt_le, Int32.toInt_zero] at h9
        simpa [pcd, h9] using hk
      · first | rw [Int32.le_iff_toInt_le, Int32.toInt_zero] at h9 | rw [ge_iff_le, Int32.le_iff_toInt_le, Int32.toInt_zero] at h9
        simpa [pcd, h9] using hk
    · refine lv_if_gt hexec hb hdg ht (fun h9 => ?_) (fun h9 => ?_)
      · first | rw [Int32.lt_iff_toInt_lt, Int32.toInt_zero] at h9 | rw [gt_iff_lt, Int32.lt_iff_toInt_lt, Int32.toInt_zero] at h9
        simpa [pcd, h9] using hk
      · first | rw [Int32.lt_iff_toInt_lt, Int32.toInt_zero] at h9 | rw [gt_iff_lt, Int32.lt_iff_toInt_lt, Int32.toInt_zero] at h9
        simpa [pcd, h9] using hk
    · refine lv_if_le hexec hb hdg ht (fun h9 => ?_) (fun h9 => ?_)
      · rw [Int32.le_iff_toInt_le, Int32.toInt_zero] at h9; simpa [pcd, h9] using hk
      · rw [Int32.le_iff_toInt_le, Int32.toInt_zero] at h9; simpa [pcd, h9] using hk
  · cases h
theorem so_icmp {cnd : ClassFile.Cond} {off : Int} (hexec : p.tables.exec = Jvm.exec) (hb : c.code = cc) (hdg : decode cc pc = .ok (.if_icmp cnd off, 3)) (ht : (pc : Int) + off = (x : Int))
    (h : p2 st (fun a b r => some (if pcd cnd a b = true then x else pc + 3, pls, r, M, K)) = some q) (hs : SR ρ K.1 st rest) (hk : ∀ rest', SR ρ K.1 q.2.2.1 rest' → W p l e R s m args below meth c H locs cells slots Q (F0 m q.1 ls rest')) : W p l e R s m args below meth c H locs cells slots Q (F0 m pc ls rest) := by
  unfold p2 at h
  split at h
  · obtain ⟨yv, r1, rfl, hy, hs⟩ := hs.i
    obtain ⟨xv, r2, rfl, hx, hs⟩ := hs.i
    cases h
    have hk := hk _ hs
    rw [← hx, ← hy] at hk
    cases cnd
    · refine lv_icmp_eq hexec hb hdg ht (fun h9 => ?_) (fun h9 => ?_)
      · rw [← Int32.toInt_inj] at h9; simpa [pcd, h9] using hk
      · rw [← Int32.toInt_inj] at h9; simpa [pcd, h9] using hk
    · refine lv_icmp_ne hexec hb hdg ht (fun h9 => ?_) (fun h9 => ?_)
      · have h9 : ¬ xv.toInt = yv.toInt := fun h8 => h9 (Int32.toInt_inj.mp h8)
        simpa [pcd, h9] using hk
      · have h9 : xv.toInt = yv.toInt := by first | exact Int32.toInt_inj.mpr h9 | exact Int32.toInt_inj.mpr (Classical.byContradiction fun h8 => h9 h8)
        simpa [pcd, h9] using hk
    · refine lv_icmp_lt hexec hb hdg ht (fun h9 => ?_) (fun h9 => ?_)
      · rw [Int32.lt_iff_toInt_lt] at h9; simpa [pcd, h9] using hk
      · rw [Int32.lt_iff_toInt_lt] at h9; simpa [pcd, h9] using hk
    · refine lv_icmp_ge hexec hb hdg ht (fun h9 => ?_) (fun h9 => ?_)
      · first | rw [Int32.le_iff_toInt_le] at h9 | rw [ge_iff_le, Int32.le_iff_toInt_le] at h9
        simpa [pcd, h9] using hk
      · first | rw [Int32.le_iff_toInt_le] at h9 | rw [ge_iff_le, Int32.le_iff_toInt_le] at h9
        simpa [pcd, h9] using hk
    · refine lv_icmp_gt hexec hb hdg ht (fun h9 => ?_) (fun h9 => ?_)
      · first | rw [Int32.lt_iff_toInt_lt] at h9 | rw [gt_iff_lt, Int32.lt_iff_toInt_lt] at h9
        simpa [pcd, h9] using hk
      · first | rw [Int32.lt_iff_toInt_lt] at h9 | rw [gt_iff_lt, Int32.lt_iff_toInt_lt] at h9
        simpa [pcd, h9] using hk
    · refine lv_icmp_le hexec hb hdg ht (fun h9 => ?_) (fun h9 => ?_)
      · rw [Int32.le_iff_toInt_le] at h9; simpa [pcd, h9] using hk
      · rw [Int32.le_iff_toInt_le] at h9; simpa [pcd, h9] using hk
  · cases h
theorem so_tsw {d lo hi : Int} {os : Array Int} (hexec : p.tables.exec = Jvm.exec) (hb : c.code = cc) (hdg : decode cc pc = .ok (.tableswitch d lo hi os, n)) (hd : 0 ≤ (pc : Int) + d) (hz : (os.size : Int) = hi - lo + 1) (ho : ∀ (i : Nat) (o : Int), os[i]? = some o → 0 ≤ (pc : Int) + o)
    (h : p1 st (fun a r => some (tsw pc d lo hi os a, pls, r, M, K)) = some q) (hs : SR ρ K.1 st rest) (hk : ∀ rest', SR ρ K.1 q.2.2.1 rest' → W p l e R s m args below meth c H locs cells slots Q (F0 m q.1 ls rest')) : W p l e R s m args below meth c H locs cells slots Q (F0 m pc ls rest) := by
  unfold p1 at h
  split at h
  · obtain ⟨xv, r2, rfl, hx, hs⟩ := hs.i
    cases h
    have hk := hk _ hs
    rw [← hx] at hk
    by_cases hc : xv.toInt < lo ∨ hi < xv.toInt
    · refine lv_tableOut hexec hb hdg hc (tgt := ((pc : Int) + d).toNat) (by omega) ?_
      simpa [tsw, hc] using hk
    · have h1 : ¬ xv.toInt < lo := fun h => hc (Or.inl h)
      have h2 : ¬ hi < xv.toInt := fun h => hc (Or.inr h)
      have hlt : (xv.toInt - lo).toNat < os.size := by omega
      have hg : os[(xv.toInt - lo).toNat]? = some os[(xv.toInt - lo).toNat] := Array.getElem?_eq_getElem hlt
      have h0 := ho _ _ hg
      refine lv_tableIn hexec hb hdg h1 h2 hg (tgt := ((pc : Int) + os[(xv.toInt - lo).toNat]).toNat) (by omega) ?_
      simpa [tsw, hc, hg] using hk
  · cases h
end SO
