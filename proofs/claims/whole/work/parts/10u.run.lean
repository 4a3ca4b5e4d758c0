/-! whole runs: frames, contracts, calls -/
def rmx (d mc ms : Nat) : Room := { frames := d + 8, cells := mc, slots := ms, locals := 40 * d + 400 }
def jx : List Cond := jw ++ tw
def bx : List Cond := bw ++ jx
theorem bx_gd : ∀ w ∈ bx, ((w.onTables && w.keeps) = true ∨ ∃ ty, w = .arrayClass ty) := fun w h => (List.mem_append.mp h).elim (fun h => (bw_ok w h).2) (fun h => (List.mem_append.mp h).elim (fun h => (jw_ok w h).2) (fun h => (tw_ok w h).2))
/-- what no step changes, and what only grows -/
theorem stp_mono {ins : Instr} {n x y pc : Nat} {z : Int} {ls st : List PV} {M : Mem} {K : KK} {q : PS} (h : stp ins n x y z pc ls st M K = some q) (h32 : 32 ≤ K.1) : K.1 ≤ q.2.2.2.2.1 ∧ K.2.1 ≤ q.2.2.2.2.2.1 ∧ K.2.2 ≤ q.2.2.2.2.2.2 ∧ ∀ a, a < 32 → q.2.2.2.1 a = M a := by
  have hO : ∀ {a t : Nat}, isO K.1 a t = true → 32 ≤ a := fun {a t} h9 => by
    unfold isO at h9
    simp only [Bool.and_eq_true] at h9
    exact Nat.le_of_ble_eq_true h9.1
  have hms : ∀ {a k : Nat} {v : Int}, 32 ≤ a → ∀ b, b < 32 → mset M a k v b = M b := fun {a k v} h9 b hb => mset_ne (by omega)
  cases ins
  all_goals (simp only [stp, p1, p2, q2, pA, pAI, ld, sv, xcall] at h)
  all_goals (try (cases h; done))
  all_goals ((repeat' split at h) <;> first | (cases h; done) | skip)
  all_goals (cases h)
  all_goals first | exact ⟨Nat.le_refl _, Nat.le_refl _, Nat.le_refl _, fun _ _ => rfl⟩ | skip
  all_goals first | exact ⟨Nat.le_refl _, Nat.le_refl _, Nat.le_refl _, hms (hO (by first | assumption | exact And.left ‹_› | exact (And.left ‹_›).2.2))⟩ | skip
  all_goals first | exact ⟨Nat.le_succ _, Nat.le_succ _, Nat.le_add_right _ _, fun _ _ => rfl⟩ | skip
  all_goals first
    | (refine ⟨by show K.1 ≤ K.1 + 1 + _; omega, by show K.2.1 ≤ K.2.1 + _; omega, by show K.2.2 ≤ K.2.2 + _; omega, fun b hb => ?_⟩
       funext k'
       simp only [mrow]
       rw [if_neg (by omega)])
    | (rename_i h9; exact ⟨Nat.le_refl _, Nat.le_refl _, Nat.le_refl _, hms (hO h9.1.2.2)⟩)
    | (rename_i h9
       refine ⟨Nat.le_refl _, Nat.le_refl _, Nat.le_refl _, fun b hb => ?_⟩
       have := hO h9.2.1
       funext k'
       simp only [mcpy]
       rw [if_neg (by omega)])
theorem run_mono : ∀ (f : Nat) {d m pc : Nat} {ls st : List PV} {M : Mem} {K : KK} {r : RR} {M' : Mem} {K' : KK}, run f d m pc ls st M K = some (r, M', K') → 32 ≤ K.1 → K.1 ≤ K'.1 ∧ K.2.1 ≤ K'.2.1 ∧ K.2.2 ≤ K'.2.2 ∧ ∀ a, a < 32 → M' a = M a := by
  intro f
  induction f with
  | zero => intro d m pc ls st M K r M' K' h _; simp [run] at h
  | succ f ih =>
    intro d m pc ls st M K r M' K' h h32
    unfold run at h
    split at h
    rename_i ins n x y z hcd
    split at h
    · split at h
      · cases h
      · rename_i pc' ls' st' M1 K1 hs
        obtain ⟨a1, a2, a3, a4⟩ := stp_mono hs h32
        obtain ⟨b1, b2, b3, b4⟩ := ih h (Nat.le_trans h32 a1)
        exact ⟨Nat.le_trans a1 b1, Nat.le_trans a2 b2, Nat.le_trans a3 b3, fun a ha => (b4 a ha).trans (a4 a ha)⟩
    · split at h
      · cases h
      · split at h
        · cases h
        · split at h
          · cases h
          · rename_i v M1 K1 hr
            obtain ⟨a1, a2, a3, a4⟩ := ih hr h32
            obtain ⟨b1, b2, b3, b4⟩ := ih h (Nat.le_trans h32 a1)
            exact ⟨Nat.le_trans a1 b1, Nat.le_trans a2 b2, Nat.le_trans a3 b3, fun a ha => (b4 a ha).trans (a4 a ha)⟩
          · rename_i e M1 K1 hr
            obtain ⟨a1, a2, a3, a4⟩ := ih hr h32
            split at h
            · cases h
            · split at h
              · obtain ⟨b1, b2, b3, b4⟩ := ih h (Nat.le_trans h32 a1)
                exact ⟨Nat.le_trans a1 b1, Nat.le_trans a2 b2, Nat.le_trans a3 b3, fun a ha => (b4 a ha).trans (a4 a ha)⟩
              · split at h
                · cases h
                  exact ⟨a1, a2, a3, a4⟩
                · cases h
    · split at h
      · cases h
      · cases h
        exact ⟨Nat.le_refl _, Nat.le_refl _, Nat.le_refl _, fun _ _ => rfl⟩
    · split at h
      · cases h
        exact ⟨Nat.le_refl _, Nat.le_succ _, Nat.le_add_right _ _, fun _ _ => rfl⟩
      · cases h
abbrev UU : Type := (Nat → Nat) × List (ClassId × FieldType) × va_W
def BW (ρ : Nat → Nat) (nm : Nat) (D : va_G) (A : Nat → Prop) (M' : Mem) (nm' : Nat) : UU → State → Prop := fun u t => Ext ρ nm u.1 nm' ∧ RW u.1 u.2.1 M' nm' u.2.2 ∧ va_P D vwCl u.2.2 t.heap ∧ va_K D vwCl u.2.1 t ∧ va_D A u.2.2
def QcM (v : Option PV) (ρ : Nat → Nat) (nm : Nat) (D : va_G) (A : Nat → Prop) (M' : Mem) (nm' : Nat) : Array Value → State → Outcome → State → Prop := match v with
  | none => va_Qv (fun _ => True) (BW ρ nm D A M' nm') A
  | some (.inl i) => va_Qi (fun r _ => r.toInt = i) (BW ρ nm D A M' nm') A
  | some (.inr (.inl i)) => va_Ql (fun r _ => r.toInt = i) (BW ρ nm D A M' nm') A
  | some (.inr (.inr (.inl a))) => va_Qr (fun _ => True) (fun u q t => BW ρ nm D A M' nm' u t ∧ q = u.1 a ∧ a < nm') A
  | some (.inr (.inr (.inr _))) => fun _ _ _ _ => False
def QcR (r : RR) (ρ : Nat → Nat) (nm : Nat) (D : va_G) (A : Nat → Prop) (M' : Mem) (nm' : Nat) : Array Value → State → Outcome → State → Prop := match r with
  | .inl v => QcM v ρ nm D A M' nm'
  | .inr _ => va_Qi (fun _ _ => False) (BW ρ nm D A M' nm') A
def XcR (r : RR) (ρ : Nat → Nat) (nm : Nat) (D : va_G) (A : Nat → Prop) (M' : Mem) (nm' : Nat) : String → State → State → Prop := match r with
  | .inl _ => fun _ _ _ => False
  | .inr e9 => vx_X (fun _ => True) (fun E u t => E = excN e9 ∧ BW ρ nm D A M' nm' u t) A
def PcM (ρ : Nat → Nat) (D : va_G) (tys : List (ClassId × FieldType)) (ws : va_W) (sz : Nat) (avs : List Value) : Array Value → State → Prop := va_Pc avs (fun U => U.heap.size = sz ∧ va_P D vwCl ws U.heap ∧ va_K D vwCl tys U ∧ va_D (fun _ => True) ws ∧ GX ρ (va_A ws sz) U U.heap)
theorem PcM.blind {ρ : Nat → Nat} {D : va_G} {tys : List (ClassId × FieldType)} {ws : va_W} {sz : Nat} {avs : List Value} : FrameBlind (PcM ρ D tys ws sz avs) := by
  intro a U g mk q
  obtain ⟨q0, q1, qP, qK, qD, qG⟩ := q
  exact ⟨q0, q1, qP, va_K.moved (u := U) (U := U.calling g mk a) (Vm.Alike.refl U.vm) qK, qD, GX.blind qG⟩
/-- a frame's table of handlers -/
def EXx (c : Code) (x : Nat) : Prop := (hhM x).isEmpty = true → ∀ z ∈ c.exceptionTable.toList, False
def EXy (c : Code) (x : Nat) : Prop := (hhM x).isEmpty = false → c.exceptionTable.toList = tableOf (hhM x)
def PF (f : Nat) : Prop := ∀ {d x0 pc : Nat} {pls pst : List PV} {M : Mem} {K : KK} {r : RR} {M' : Mem} {K' : KK}, run f d x0 pc pls pst M K = some (r, M', K') →
  ∀ {p : Program} {l : Launch} {e : Env} {R : Room} {s : State} {mI : MethodId} {args : Array Value} {below : List Frame} {meth : Method} {c : Code} {H : Heap} {locs : List Loc} {cells slots : Nat} {Q : State → Prop} {ls : Array Slot} {rest : List Value} {ρ : Nat → Nat} {D : va_G} {tys : List (ClassId × FieldType)} {ws : va_W} {A : Nat → Prop} {mc ms : Nat},
  FCx p mI c s args meth x0 → (∀ w ∈ jx, w.before args s = true) → EXy c x0 → GX ρ A s s.heap → (x0 = 288 → SCx ρ A s M) → 32 ≤ K.1 → l.stackTraces = false →
  RW ρ tys M K.1 ws → va_K D vwCl tys s → va_P D vwCl ws H → va_D A ws → va_S A s.heap H locs → (∀ q, s.heap.size ≤ q → A q) → LR ρ K.1 (mxT.getD x0 0) pls ls → SR ρ K.1 pst rest →
  d + 8 ≤ R.frames → 40 * d + 400 ≤ R.locals → cells + K'.2.1 = mc + K.2.1 → slots + K'.2.2 = ms + K.2.2 → mc ≤ R.cells → ms ≤ R.slots →
  (∀ v, r = .inl v → ∀ (ins : Instr) (n x y : Nat) (z : Int) (pc' : Nat) (pst' : List PV) (u : UU) (H' : Heap) (locs' : List Loc) (ls' : Array Slot) (rest' : List Value), knd ins x = 2 → rtv ins x pst' = some v → decode (byt x0) pc' = .ok (ins, n) → chkI x0 pc' ins n x y z = true → Ext ρ K.1 u.1 K'.1 → RW u.1 u.2.1 M' K'.1 u.2.2 → va_K D vwCl u.2.1 s → va_P D vwCl u.2.2 H' → va_D A u.2.2 → va_S A s.heap H' locs' → SR u.1 K'.1 pst' rest' → W p l e R s mI args below meth c H' locs' mc ms Q (F0 mI pc' ls' rest')) →
  (∀ e9, r = .inr e9 → ∀ (i n y : Nat) (z : Int) (pc' : Nat) (u : UU) (H' : Heap) (locs' : List Loc) (ls' : Array Slot) (rest' : List Value) (cells' slots' x9 : Nat), 900 ≤ x9 → e9 = x9 - 900 → cd x0 pc' = (.new i, n, x9, y, z) → cells' + 1 = mc → slots' + 6 = ms → Ext ρ K.1 u.1 K'.1 → RW u.1 u.2.1 M' K'.1 u.2.2 → va_K D vwCl u.2.1 s → va_P D vwCl u.2.2 H' → va_D A u.2.2 → va_S A s.heap H' locs' → ls'.size = mxT.getD x0 0 → (rest'.map fun v => v.category).sum ≤ 8 → W p l e R s mI args below meth c H' locs' cells' slots' Q (F0 mI pc' ls' rest')) →
  (∀ e9, r = .inr e9 → (hhM x0).isEmpty = true → ∀ (pc' : Nat) (u : UU) (H' : Heap) (locs' : List Loc) (ls' : Array Slot) (rest' : List Value) (q : Nat) (ce : Cell), Ext ρ K.1 u.1 K'.1 → RW u.1 u.2.1 M' K'.1 u.2.2 → va_K D vwCl u.2.1 s → va_P D vwCl u.2.2 H' → va_D A u.2.2 → va_S A s.heap H' locs' → H'[q]? = some ce → ce.vm = .none → s.vm.findClass (excN e9) = some ce.cls → vx_W p l e R s mI args below meth c H' locs' mc ms Q (F0 mI pc' ls' rest') q) →
  W p l e R s mI args below meth c H locs cells slots Q (F0 mI pc ls rest)
