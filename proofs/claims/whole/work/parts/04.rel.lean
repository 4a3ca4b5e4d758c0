/-! the pure machine's state against the machine's: values, locals, objects, the world -/
def excN (e : Nat) : String := if e = 0 then "java/lang/IllegalArgumentException" else "java/util/NoSuchElementException"
def VR (ρ : Nat → Nat) (nm : Nat) (v : PV) (w : Value) : Prop := match v with
  | .inl i => ∃ x : Int32, w = .int x ∧ x.toInt = i
  | .inr (.inl i) => ∃ x : Int64, w = .long x ∧ x.toInt = i
  | .inr (.inr (.inl a)) => w = .ref (ρ a) ∧ a < nm
  | .inr (.inr (.inr _)) => ∃ q : Nat, w = .ref q
def SR (ρ : Nat → Nat) (nm : Nat) : List PV → List Value → Prop
  | [], [] => True
  | v :: vs, w :: ws => VR ρ nm v w ∧ SR ρ nm vs ws
  | _, _ => False
def LR (ρ : Nat → Nat) (nm nL : Nat) (pls : List PV) (ls : Array Slot) : Prop := pls.length = nL ∧ ∃ lv : List (Nat × Value), lv_has ls nL lv ∧ ∀ (k : Nat) (v : PV), pls[k]? = some v → v ≠ vU → ∃ w, (k, w) ∈ lv ∧ VR ρ nm v w
def FR (ρ : Nat → Nat) (nm : Nat) (ty : FieldType) (z : Int) (v : Value) : Prop := match ty with
  | .int => ∃ x : Int32, v = .int x ∧ x.toInt = z
  | .long => ∃ x : Int64, v = .long x ∧ x.toInt = z
  | _ => (z = 0 ∧ v = .null) ∨ (0 < z ∧ z.toNat < nm ∧ v = .ref (ρ z.toNat))
def QR (ρ : Nat → Nat) (nm : Nat) (z : Int) (r : Option Nat) : Prop := (z = 0 ∧ r = none) ∨ (0 < z ∧ z.toNat < nm ∧ r = some (ρ z.toNat))
def rty (t : Nat) : FieldType := if t = 40 then .array .int else .object ((vwCl.getD (t - 30) ("", TX0, 0)).1)
def EO (ρ : Nat → Nat) (nm : Nat) (tys : List (ClassId × FieldType)) (t n : Nat) (F : Nat → Int) (e : va_E) : Prop :=
  (t < 13 ∧ ∃ (r : vw_C) (fs : List Value), vwCl[t]? = some r ∧ e = .inr (t, fs) ∧ fs.length = r.2.2 ∧ ∀ k, k < r.2.2 → ∃ v, fs[k]? = some v ∧ FR ρ nm (tyO t k) (F k) v) ∨
  (t = 20 ∧ ∃ (cA : ClassId) (f : Nat → Int32) (t0 : Nat), e = .inl (cA, n, .inl f) ∧ tys[t0]? = some (cA, .int) ∧ ∀ j, j < n → (f j).toInt = F j) ∨
  (t = 21 ∧ ∃ (cA : ClassId) (f : Nat → Int32) (t0 : Nat), e = .inl (cA, n, .inl f) ∧ tys[t0]? = some (cA, .char) ∧ ∀ j, j < n → (f j).toInt = F j) ∨
  (t = 22 ∧ ∃ (cA : ClassId) (f : Nat → Int64) (t0 : Nat), e = .inl (cA, n, .inr (.inl f)) ∧ tys[t0]? = some (cA, .long) ∧ ∀ j, j < n → (f j).toInt = F j) ∨
  (30 ≤ t ∧ ∃ (cA : ClassId) (f : Nat → Option Nat) (t0 : Nat), e = .inl (cA, n, .inr (.inr (.inr (.inr f)))) ∧ tys[t0]? = some (cA, rty t) ∧ ∀ j, j < n → QR ρ nm (F j) (f j))
def RW (ρ : Nat → Nat) (tys : List (ClassId × FieldType)) (M : Mem) (nm : Nat) (ws : va_W) : Prop :=
  ws.length + 32 = nm ∧ (∀ a, 32 ≤ a → a < nm → (∃ e, ws[a - 32]? = some (ρ a, e) ∧ EO ρ nm tys (tg a) (ln a) (M a) e)) ∧ ∀ a, nm ≤ a → ∀ k, M a k = 0
def Ext (ρ : Nat → Nat) (nm : Nat) (ρ' : Nat → Nat) (nm' : Nat) : Prop := nm ≤ nm' ∧ ∀ a, a < nm → ρ' a = ρ a
theorem Ext.rf {ρ : Nat → Nat} {nm : Nat} : Ext ρ nm ρ nm := ⟨Nat.le_refl _, fun _ _ => rfl⟩
theorem Ext.tr {ρ ρ' ρ'' : Nat → Nat} {nm nm' nm'' : Nat} (h : Ext ρ nm ρ' nm') (h' : Ext ρ' nm' ρ'' nm'') : Ext ρ nm ρ'' nm'' :=
  ⟨Nat.le_trans h.1 h'.1, fun a ha => (h'.2 a (Nat.lt_of_lt_of_le ha h.1)).trans (h.2 a ha)⟩
theorem VR.ext {ρ ρ' : Nat → Nat} {nm nm' : Nat} (h : Ext ρ nm ρ' nm') {v : PV} {w : Value} (hv : VR ρ nm v w) : VR ρ' nm' v w := by
  match v with
  | .inl i => exact hv
  | .inr (.inl i) => exact hv
  | .inr (.inr (.inl a)) => exact ⟨by rw [h.2 a hv.2]; exact hv.1, Nat.lt_of_lt_of_le hv.2 h.1⟩
  | .inr (.inr (.inr u)) => exact hv
theorem SR.ext {ρ ρ' : Nat → Nat} {nm nm' : Nat} (h : Ext ρ nm ρ' nm') : ∀ {st : List PV} {rs : List Value}, SR ρ nm st rs → SR ρ' nm' st rs
  | [], [], _ => trivial
  | _ :: _, _ :: _, hs => ⟨hs.1.ext h, SR.ext h hs.2⟩
  | [], _ :: _, hs => hs.elim
  | _ :: _, [], hs => hs.elim
theorem LR.ext {ρ ρ' : Nat → Nat} {nm nm' nL : Nat} (h : Ext ρ nm ρ' nm') {pls : List PV} {ls : Array Slot} (hl : LR ρ nm nL pls ls) : LR ρ' nm' nL pls ls := by
  obtain ⟨h1, lv, h2, h3⟩ := hl
  refine ⟨h1, lv, h2, fun k v hk hv => ?_⟩
  obtain ⟨w, a, b⟩ := h3 k v hk hv
  exact ⟨w, a, b.ext h⟩
theorem FR.ext {ρ ρ' : Nat → Nat} {nm nm' : Nat} (h : Ext ρ nm ρ' nm') {ty : FieldType} {z : Int} {v : Value} (hv : FR ρ nm ty z v) : FR ρ' nm' ty z v := by
  unfold FR at hv ⊢
  split at hv
  · exact hv
  · exact hv
  · rcases hv with hv | ⟨a, b, c⟩
    · exact Or.inl hv
    · exact Or.inr ⟨a, Nat.lt_of_lt_of_le b h.1, by rw [h.2 _ b]; exact c⟩
theorem QR.ext {ρ ρ' : Nat → Nat} {nm nm' : Nat} (h : Ext ρ nm ρ' nm') {z : Int} {v : Option Nat} (hv : QR ρ nm z v) : QR ρ' nm' z v := by
  rcases hv with hv | ⟨a, b, c⟩
  · exact Or.inl hv
  · exact Or.inr ⟨a, Nat.lt_of_lt_of_le b h.1, by rw [h.2 _ b]; exact c⟩
theorem EO.ext {ρ ρ' : Nat → Nat} {nm nm' : Nat} (h : Ext ρ nm ρ' nm') {tys tys2 : List (ClassId × FieldType)} {t n : Nat} {F : Nat → Int} {e : va_E} (hv : EO ρ nm tys t n F e) : EO ρ' nm' (tys ++ tys2) t n F e := by
  have ap : ∀ {t0 : Nat} {x : ClassId × FieldType}, tys[t0]? = some x → (tys ++ tys2)[t0]? = some x := fun {t0 x} h9 => by
    have : t0 < tys.length := (List.getElem?_eq_some_iff.mp h9).1
    rw [List.getElem?_append_left this]; exact h9
  rcases hv with ⟨h0, r, fs, h1, h2, h3, h4⟩ | ⟨h0, cA, f, t0, h1, h2, h3⟩ | ⟨h0, cA, f, t0, h1, h2, h3⟩ | ⟨h0, cA, f, t0, h1, h2, h3⟩ | ⟨h0, cA, f, t0, h1, h2, h3⟩
  · refine Or.inl ⟨h0, r, fs, h1, h2, h3, fun k hk => ?_⟩
    obtain ⟨v, a, b⟩ := h4 k hk
    exact ⟨v, a, b.ext h⟩
  · exact Or.inr (Or.inl ⟨h0, cA, f, t0, h1, ap h2, h3⟩)
  · exact Or.inr (Or.inr (Or.inl ⟨h0, cA, f, t0, h1, ap h2, h3⟩))
  · exact Or.inr (Or.inr (Or.inr (Or.inl ⟨h0, cA, f, t0, h1, ap h2, h3⟩)))
  · exact Or.inr (Or.inr (Or.inr (Or.inr ⟨h0, cA, f, t0, h1, ap h2, fun j hj => (h3 j hj).ext h⟩)))
theorem SR.i {ρ : Nat → Nat} {nm : Nat} {i : Int} {st : List PV} {rs : List Value} (h : SR ρ nm (.inl i :: st) rs) : ∃ (x : Int32) (r : List Value), rs = .int x :: r ∧ x.toInt = i ∧ SR ρ nm st r := by
  match rs, h with
  | w :: r, ⟨⟨x, e1, e2⟩, h2⟩ => exact ⟨x, r, by rw [e1], e2, h2⟩
theorem SR.l {ρ : Nat → Nat} {nm : Nat} {i : Int} {st : List PV} {rs : List Value} (h : SR ρ nm (.inr (.inl i) :: st) rs) : ∃ (x : Int64) (r : List Value), rs = .long x :: r ∧ x.toInt = i ∧ SR ρ nm st r := by
  match rs, h with
  | w :: r, ⟨⟨x, e1, e2⟩, h2⟩ => exact ⟨x, r, by rw [e1], e2, h2⟩
theorem SR.a {ρ : Nat → Nat} {nm : Nat} {i : Nat} {st : List PV} {rs : List Value} (h : SR ρ nm (.inr (.inr (.inl i)) :: st) rs) : ∃ (r : List Value), rs = .ref (ρ i) :: r ∧ i < nm ∧ SR ρ nm st r := by
  match rs, h with
  | w :: r, ⟨⟨e1, e2⟩, h2⟩ => exact ⟨r, by rw [e1], e2, h2⟩
theorem SR.u {ρ : Nat → Nat} {nm : Nat} {st : List PV} {rs : List Value} (h : SR ρ nm (.inr (.inr (.inr ())) :: st) rs) : ∃ (q : Nat) (r : List Value), rs = .ref q :: r ∧ SR ρ nm st r := by
  match rs, h with
  | w :: r, ⟨⟨q, e1⟩, h2⟩ => exact ⟨q, r, by rw [e1], h2⟩
theorem SR.pi {ρ : Nat → Nat} {nm : Nat} {i : Int} {st : List PV} {r : List Value} (x : Int32) (hx : x.toInt = i) (h : SR ρ nm st r) : SR ρ nm (.inl i :: st) (.int x :: r) := ⟨⟨x, rfl, hx⟩, h⟩
theorem SR.pl {ρ : Nat → Nat} {nm : Nat} {i : Int} {st : List PV} {r : List Value} (x : Int64) (hx : x.toInt = i) (h : SR ρ nm st r) : SR ρ nm (.inr (.inl i) :: st) (.long x :: r) := ⟨⟨x, rfl, hx⟩, h⟩
theorem SR.pa {ρ : Nat → Nat} {nm : Nat} {i : Nat} {st : List PV} {r : List Value} (hx : i < nm) (h : SR ρ nm st r) : SR ρ nm (.inr (.inr (.inl i)) :: st) (.ref (ρ i) :: r) := ⟨⟨rfl, hx⟩, h⟩
theorem SR.app {ρ : Nat → Nat} {nm : Nat} : ∀ {s1 s2 : List PV} {r1 r2 : List Value}, SR ρ nm s1 r1 → SR ρ nm s2 r2 → SR ρ nm (s1 ++ s2) (r1 ++ r2)
  | [], _, [], _, _, h2 => h2
  | _ :: _, _, _ :: _, _, h1, h2 => ⟨h1.1, SR.app h1.2 h2⟩
  | [], _, _ :: _, _, h1, _ => h1.elim
  | _ :: _, _, [], _, h1, _ => h1.elim
theorem SR.len {ρ : Nat → Nat} {nm : Nat} : ∀ {s1 : List PV} {r1 : List Value}, SR ρ nm s1 r1 → r1.length = s1.length
  | [], [], _ => rfl
  | _ :: _, _ :: _, h => by simp [SR.len h.2]
  | [], _ :: _, h => h.elim
  | _ :: _, [], h => h.elim
theorem SR.spl {ρ : Nat → Nat} {nm : Nat} : ∀ (n : Nat) {s1 : List PV} {r1 : List Value}, SR ρ nm s1 r1 → SR ρ nm (s1.take n) (r1.take n) ∧ SR ρ nm (s1.drop n) (r1.drop n)
  | 0, s1, r1, h => ⟨trivial, h⟩
  | n + 1, [], [], _ => ⟨trivial, trivial⟩
  | n + 1, _ :: _, _ :: _, h => ⟨⟨h.1, (SR.spl n h.2).1⟩, (SR.spl n h.2).2⟩
  | _ + 1, [], _ :: _, h => h.elim
  | _ + 1, _ :: _, [], h => h.elim
theorem SR.rev {ρ : Nat → Nat} {nm : Nat} : ∀ {s1 : List PV} {r1 : List Value}, SR ρ nm s1 r1 → SR ρ nm s1.reverse r1.reverse
  | [], [], _ => trivial
  | v :: s, w :: r, h => by
    rw [List.reverse_cons, List.reverse_cons]
    exact SR.app (SR.rev h.2) ⟨h.1, trivial⟩
  | [], _ :: _, h => h.elim
  | _ :: _, [], h => h.elim
theorem SR.cat {ρ : Nat → Nat} {nm : Nat} : ∀ {s1 : List PV} {r1 : List Value}, SR ρ nm s1 r1 → (r1.map fun v => v.category).sum ≤ 2 * s1.length
  | [], [], _ => Nat.le_refl _
  | v :: s, w :: r, h => by
    have h1 := SR.cat h.2
    have h2 : w.category ≤ 2 := by rcases lv_cat w with h | h <;> omega
    simp only [List.map_cons, List.sum_cons, List.length_cons]
    omega
  | [], _ :: _, h => h.elim
  | _ :: _, [], h => h.elim
theorem LR.get {ρ : Nat → Nat} {nm nL : Nat} {pls : List PV} {ls : Array Slot} (h : LR ρ nm nL pls ls) {k : Nat} {v : PV} (hk : pls[k]? = some v) (hv : v ≠ vU) : ∃ w, ls[k]? = some (.val w) ∧ VR ρ nm v w := by
  obtain ⟨-, lv, h2, h3⟩ := h
  obtain ⟨w, a, b⟩ := h3 k v hk hv
  exact ⟨w, h2.2.2 (k, w) a, b⟩
theorem LR.sz {ρ : Nat → Nat} {nm nL : Nat} {pls : List PV} {ls : Array Slot} (h : LR ρ nm nL pls ls) : ls.size = nL := by
  obtain ⟨-, lv, h2, -⟩ := h
  exact h2.1
theorem stL_len : ∀ (ls : List PV) (i : Nat) (v : PV), (stL ls i v).length = ls.length
  | [], _, _ => by simp [stL]
  | _ :: t, 0, v => by simp [stL]
  | h :: [], 1, v => by simp [stL]
  | h :: a :: t, 1, v => by simp [stL]
  | h :: t, n + 2, v => by simp [stL, stL_len t (n + 1) v]
theorem stL_get : ∀ (ls : List PV) (i : Nat) (v : PV) (k : Nat) (w : PV), (stL ls i v)[k]? = some w → (k = i ∧ w = v) ∨ (k + 1 = i ∧ ∃ w0, ls[k]? = some w0 ∧ w = clr w0) ∨ (k ≠ i ∧ k + 1 ≠ i ∧ ls[k]? = some w)
  | [], _, _, _, _, h => by simp [stL] at h
  | a :: t, 0, v, k, w, h => by
    cases k with
    | zero => simp [stL] at h; exact Or.inl ⟨rfl, h.symm⟩
    | succ k => exact Or.inr (Or.inr ⟨by omega, by omega, by simpa [stL] using h⟩)
  | a :: t, 1, v, k, w, h => by
    cases k with
    | zero => simp [stL] at h; exact Or.inr (Or.inl ⟨rfl, a, by simp, h.symm⟩)
    | succ k =>
      have h' : (stL t 0 v)[k]? = some w := by simpa [stL] using h
      rcases stL_get t 0 v k w h' with ⟨h1, h2⟩ | ⟨h1, -⟩ | ⟨h1, h2, h3⟩
      · exact Or.inl ⟨by omega, h2⟩
      · omega
      · exact Or.inr (Or.inr ⟨by omega, by omega, by simpa using h3⟩)
  | a :: t, n + 2, v, k, w, h => by
    cases k with
    | zero => simp [stL] at h; exact Or.inr (Or.inr ⟨by omega, by omega, by simp [h]⟩)
    | succ k =>
      have h' : (stL t (n + 1) v)[k]? = some w := by simpa [stL] using h
      rcases stL_get t (n + 1) v k w h' with ⟨h1, h2⟩ | ⟨h1, w0, h2, h3⟩ | ⟨h1, h2, h3⟩
      · exact Or.inl ⟨by omega, h2⟩
      · exact Or.inr (Or.inl ⟨by omega, w0, by simpa using h2, h3⟩)
      · exact Or.inr (Or.inr ⟨by omega, by omega, by simpa using h3⟩)
theorem clr_ne {ρ : Nat → Nat} {nm : Nat} {v : PV} {w : Value} (h : clr v ≠ vU) (hv : VR ρ nm v w) : clr v = v ∧ w.category = 1 := by
  match v, hv with
  | .inl i, ⟨x, e, _⟩ => exact ⟨rfl, by rw [e]; rfl⟩
  | .inr (.inl i), _ => exact absurd rfl h
  | .inr (.inr (.inl a)), ⟨e, _⟩ => exact ⟨rfl, by rw [e]; rfl⟩
  | .inr (.inr (.inr ())), _ => exact absurd rfl h
/-- behind a store of one slot -/
theorem LR.st1 {ρ : Nat → Nat} {nm nL i : Nat} {pls : List PV} {ls' : Array Slot} {lv lv' : List (Nat × Value)} {v : PV} {w : Value} (h1 : pls.length = nL) (h3 : ∀ (k : Nat) (v : PV), pls[k]? = some v → v ≠ vU → ∃ w, (k, w) ∈ lv ∧ VR ρ nm v w)
    (hl : (i, w) :: lv.filter (fun q => !(q.1 == i) && !(q.1 + 1 == i && q.2.category == 2)) = lv') (hv : v = vU ∨ VR ρ nm v w) (h' : lv_has ls' nL lv') : LR ρ nm nL (stL pls i v) ls' := by
  refine ⟨(stL_len _ _ _).trans h1, lv', h', fun k u hk hu => ?_⟩
  subst hl
  rcases stL_get pls i v k u hk with ⟨rfl, rfl⟩ | ⟨e1, u0, e2, e3⟩ | ⟨e1, e2, e3⟩
  · rcases hv with hv | hv
    · exact absurd hv hu
    · exact ⟨w, List.mem_cons_self, hv⟩
  · subst e3
    have hu0 : u0 ≠ vU := fun e => hu (by rw [e]; rfl)
    obtain ⟨w0, a, b⟩ := h3 k u0 e2 hu0
    obtain ⟨c1, c2⟩ := clr_ne hu b
    refine ⟨w0, List.mem_cons_of_mem _ (List.mem_filter.mpr ⟨a, ?_⟩), by rw [c1]; exact b⟩
    have : ¬ k = i := by omega
    simp [this, c2]
  · obtain ⟨w0, a, b⟩ := h3 k u e3 hu
    refine ⟨w0, List.mem_cons_of_mem _ (List.mem_filter.mpr ⟨a, ?_⟩), b⟩
    simp [e1, e2]
/-- the places of a world -/
theorem RW.at {ρ : Nat → Nat} {tys : List (ClassId × FieldType)} {M : Mem} {nm : Nat} {ws : va_W} (h : RW ρ tys M nm ws) {a t : Nat} (ha : isO nm a t = true) : ∃ e, ws[a - 32]? = some (ρ a, e) ∧ EO ρ nm tys t (ln a) (M a) e ∧ 32 ≤ a ∧ a < nm := by
  unfold isO at ha
  simp only [Bool.and_eq_true, Nat.beq_eq_true_eq] at ha
  obtain ⟨h1, h2, h3⟩ := ha
  have h1 : 32 ≤ a := Nat.le_of_ble_eq_true h1
  have h2 : a < nm := Nat.le_of_ble_eq_true h2
  obtain ⟨e, e1, e2⟩ := h.2.1 a h1 h2
  have h3 : tg a = t := Nat.eq_of_beq_eq_true h3
  exact ⟨e, e1, by rw [← h3]; exact e2, h1, h2⟩
theorem EO.o {ρ : Nat → Nat} {nm : Nat} {tys : List (ClassId × FieldType)} {t n : Nat} {F : Nat → Int} {e : va_E} (h : EO ρ nm tys t n F e) (ht : t < 13) : ∃ (r : vw_C) (fs : List Value), vwCl[t]? = some r ∧ e = .inr (t, fs) ∧ fs.length = r.2.2 ∧ ∀ k, k < r.2.2 → ∃ v, fs[k]? = some v ∧ FR ρ nm (tyO t k) (F k) v := by
  rcases h with ⟨h0, h⟩ | ⟨h0, h⟩ | ⟨h0, h⟩ | ⟨h0, h⟩ | ⟨h0, h⟩
  · exact h
  all_goals omega
theorem EO.i {ρ : Nat → Nat} {nm : Nat} {tys : List (ClassId × FieldType)} {n : Nat} {F : Nat → Int} {e : va_E} (h : EO ρ nm tys 20 n F e) : ∃ (cA : ClassId) (f : Nat → Int32) (t0 : Nat), e = .inl (cA, n, .inl f) ∧ tys[t0]? = some (cA, .int) ∧ ∀ j, j < n → (f j).toInt = F j := by
  rcases h with ⟨h0, h⟩ | ⟨h0, h⟩ | ⟨h0, h⟩ | ⟨h0, h⟩ | ⟨h0, h⟩
  · omega
  · exact h
  all_goals omega
theorem EO.c {ρ : Nat → Nat} {nm : Nat} {tys : List (ClassId × FieldType)} {n : Nat} {F : Nat → Int} {e : va_E} (h : EO ρ nm tys 21 n F e) : ∃ (cA : ClassId) (f : Nat → Int32) (t0 : Nat), e = .inl (cA, n, .inl f) ∧ tys[t0]? = some (cA, .char) ∧ ∀ j, j < n → (f j).toInt = F j := by
  rcases h with ⟨h0, h⟩ | ⟨h0, h⟩ | ⟨h0, h⟩ | ⟨h0, h⟩ | ⟨h0, h⟩
  · omega
  · omega
  · exact h
  all_goals omega
theorem EO.l {ρ : Nat → Nat} {nm : Nat} {tys : List (ClassId × FieldType)} {n : Nat} {F : Nat → Int} {e : va_E} (h : EO ρ nm tys 22 n F e) : ∃ (cA : ClassId) (f : Nat → Int64) (t0 : Nat), e = .inl (cA, n, .inr (.inl f)) ∧ tys[t0]? = some (cA, .long) ∧ ∀ j, j < n → (f j).toInt = F j := by
  rcases h with ⟨h0, h⟩ | ⟨h0, h⟩ | ⟨h0, h⟩ | ⟨h0, h⟩ | ⟨h0, h⟩
  · omega
  · omega
  · omega
  · exact h
  · omega
theorem EO.q {ρ : Nat → Nat} {nm : Nat} {tys : List (ClassId × FieldType)} {t n : Nat} {F : Nat → Int} {e : va_E} (h : EO ρ nm tys t n F e) (ht : 30 ≤ t) : ∃ (cA : ClassId) (f : Nat → Option Nat) (t0 : Nat), e = .inl (cA, n, .inr (.inr (.inr (.inr f)))) ∧ tys[t0]? = some (cA, rty t) ∧ ∀ j, j < n → QR ρ nm (F j) (f j) := by
  rcases h with ⟨h0, h⟩ | ⟨h0, h⟩ | ⟨h0, h⟩ | ⟨h0, h⟩ | ⟨h0, h⟩
  · omega
  · omega
  · omega
  · omega
  · exact h
/-- one object written -/
theorem RW.put {ρ : Nat → Nat} {tys : List (ClassId × FieldType)} {M M' : Mem} {nm : Nat} {ws : va_W} (h : RW ρ tys M nm ws) {a : Nat} (h1 : 32 ≤ a) (h2 : a < nm) {e : va_E} (he : EO ρ nm tys (tg a) (ln a) (M' a) e) (hM : ∀ b, b ≠ a → M' b = M b) : RW ρ tys M' nm (ws.set (a - 32) (ρ a, e)) := by
  refine ⟨by rw [List.length_set]; exact h.1, fun b hb1 hb2 => ?_, fun b hb k => by rw [hM b (by omega)]; exact h.2.2 b hb k⟩
  by_cases hab : b = a
  · subst hab
    refine ⟨e, ?_, he⟩
    rw [List.getElem?_set_self]
    have := h.1
    omega
  · obtain ⟨e', e1, e2⟩ := h.2.1 b hb1 hb2
    refine ⟨e', ?_, by rw [hM b hab]; exact e2⟩
    rw [List.getElem?_set_ne (by omega)]
    exact e1
theorem mset_ne {M : Mem} {a k : Nat} {v : Int} {b : Nat} (h : b ≠ a) : mset M a k v b = M b := by
  funext k'
  simp [mset, h]
theorem mset_at (M : Mem) (a k : Nat) (v : Int) (k' : Nat) : mset M a k v a k' = if k' = k then v else M a k' := by
  simp [mset]
/-- one object more -/
theorem RW.push {ρ : Nat → Nat} {tys tys2 : List (ClassId × FieldType)} {M : Mem} {nm q : Nat} {ws : va_W} (h : RW ρ tys M nm ws) {e : va_E} (he : EO (fun b => if b = nm then q else ρ b) (nm + 1) (tys ++ tys2) (tg nm) (ln nm) (M nm) e) : RW (fun b => if b = nm then q else ρ b) (tys ++ tys2) M (nm + 1) (ws ++ [(q, e)]) := by
  have hl := h.1
  have hx : Ext ρ nm (fun b => if b = nm then q else ρ b) (nm + 1) := ⟨by omega, fun b hb => if_neg (by omega)⟩
  refine ⟨by rw [List.length_append]; simp; omega, fun b hb1 hb2 => ?_, fun b hb k => h.2.2 b (by omega) k⟩
  by_cases hab : b = nm
  · subst hab
    refine ⟨e, ?_, he⟩
    rw [List.getElem?_append_right (by omega)]
    rw [show b - 32 - ws.length = 0 by omega]
    simp
  · obtain ⟨e', e1, e2⟩ := h.2.1 b hb1 (by omega)
    refine ⟨e', ?_, e2.ext hx⟩
    rw [List.getElem?_append_left (by omega)]
    show ws[b - 32]? = some ((if b = nm then q else ρ b), e')
    rw [if_neg hab]
    exact e1
theorem Ext.push {ρ : Nat → Nat} {nm q : Nat} : Ext ρ nm (fun b => if b = nm then q else ρ b) (nm + 1) := ⟨by omega, fun b hb => if_neg (by omega)⟩
theorem i32_in {x : Int32} {n : Nat} : vp_in x n ↔ 0 ≤ x.toInt ∧ x.toInt < (n : Int) := by
  unfold vp_in
  rw [Int32.lt_iff_toInt_lt, Int32.toInt_zero]
  have : x.toNatClampNeg = x.toInt.toNat := rfl
  rw [this]
  omega
