/-! the state of both -/
abbrev IMG : Type := Mem × List Mem
def LWd (c h : Mem) : Prop := LW c h ∧ h 4 0 ≤ 500
def LWs (c : Mem) (H : List Mem) : Prop := H.length ≤ 16 ∧ ∀ i, i < H.length → LWd c (H.getD i c00)
abbrev im0 : IMG := (c00, [])
/-- what holds of a state whatever happens -/
def IV (nB : Nat) (B : BY) (c s : Mem) (H : List Mem) (I : List IMG) (Y : LC) : Prop := nB ≤ 600 ∧ (∀ i, i < nB → 0 ≤ B i ∧ B i ≤ 255) ∧ LWd c s ∧ LWs c H ∧ (I.length ≤ 3 ∧ ∀ i, i < I.length → LWd c (I.getD i im0).1 ∧ LWs c (I.getD i im0).2) ∧ SW Y ∧ Y.length ≤ 8
def TpC (M : Mem) (nB : Nat) (B : BY) (fp : Int) : Prop := M 33 1 = (nB : Int) ∧ (∀ i, i < nB → M 34 i = B i) ∧ M 33 7 = fp
def GmC (M : Mem) (c : Mem) (L : LC) (s : Mem) : Prop := ∃ cm l cm2 l2 l3 : Nat, (M 32 11 = (cm : Int) ∧ isO 923 cm 0 = true ∧ SKc M cm 40 c s ∧ LWC M cm L l) ∧ (M 32 12 = (cm2 : Int) ∧ isO 923 cm2 0 = true ∧ cm2 ≠ cm ∧ M cm2 11 = (l2 : Int) ∧ isO 923 l2 2 = true) ∧ (M 32 13 = (l3 : Int) ∧ isO 923 l3 2 = true) ∧ l2 ≠ l ∧ l3 ≠ l ∧ l3 ≠ l2
def SyC (M : Mem) (Y : LC) : Prop := ∃ y y2 : Nat, (M 32 14 = (y : Int) ∧ isO 923 y 8 = true ∧ SY M y Y) ∧ M 32 15 = (y2 : Int) ∧ isO 923 y2 8 = true ∧ y2 ≠ y
def ImC (M c : Mem) (I : List IMG) : Prop := M 32 16 = (I.length : Int) ∧ ∀ i, i < I.length → LK M (179 + 87 * i) c (I.getD i im0).1 ∧ PH M (184 + 87 * i) c (I.getD i im0).2
/-- the class's state -/
def CS (M : Mem) (nB : Nat) (B : BY) (fp : Int) (c : Mem) (L : LC) (s : Mem) (H : List Mem) (I : List IMG) (Y : LC) (rf ms wr : Int) : Prop := TpC M nB B fp ∧ GmC M c L s ∧ SyC M Y ∧ PH M 50 c H ∧ ImC M c I ∧ (M 32 17 = rf ∧ M 32 18 = ms ∧ M 32 19 = wr) ∧ OWx M
def TpM (M : Mem) (nB : Nat) (B : BY) (fp : Int) : Prop := M 440 1 = (nB : Int) ∧ (∀ i, i < nB → M 441 i = B i) ∧ M 440 3 = fp
def BfM (M c : Mem) (H : List Mem) : Prop := M 440 36 = (H.length : Int) ∧ ∀ i, i < H.length → LMr M (891 + i) c (H.getD i c00) ∧ M (891 + i) 26 = -1
/-- a row of 27 in row a from j on -/
def LMo (M : Mem) (a j : Nat) (c s : Mem) : Prop := LMr (fun _ k => M a (j + k)) 0 c s ∧ M a (j + 26) = -1
def ImM (M c : Mem) (I : List IMG) : Prop := M 440 38 = (I.length : Int) ∧ ∀ i, i < I.length → M (908 + i) 0 = ((I.getD i im0).2.length : Int) ∧ LMo M (908 + i) 1 c (I.getD i im0).1 ∧ ∀ j, j < (I.getD i im0).2.length → LMo M (908 + i) (28 + 27 * j) c ((I.getD i im0).2.getD j c00)
/-- the model's state -/
def MS (M : Mem) (nB : Nat) (B : BY) (fp : Int) (c : Mem) (L : LC) (s : Mem) (H : List Mem) (I : List IMG) (Y : LC) (rf ms wr : Int) : Prop := TpM M nB B fp ∧ GM M c L s ∧ SYM M Y ∧ BfM M c H ∧ ImM M c I ∧ (M 440 37 = rf ∧ M 442 0 = ms ∧ M 442 1 = wr)
/-- the script and the model are as before -/
def HiC (M M' : Mem) : Prop := ∀ a k, (a < 32 ∨ 440 ≤ a) → M' a k = M a k
/-- the script and the class are as before -/
def LoM (M M' : Mem) : Prop := ∀ a k, (a < 440 ∨ 922 ≤ a) → M' a k = M a k
section ST
variable {M M' : Mem} {nB : Nat} {B : BY} {fp : Int} {c : Mem} {L : LC} {s : Mem} {H : List Mem} {I : List IMG} {Y : LC} {rf ms wr : Int}
theorem HiC.tr {M1 M2 : Mem} (h1 : HiC M M1) (h2 : HiC M1 M2) : HiC M M2 := fun a k h => (h2 a k h).trans (h1 a k h)
theorem LoM.tr {M1 M2 : Mem} (h1 : LoM M M1) (h2 : LoM M1 M2) : LoM M M2 := fun a k h => (h2 a k h).trans (h1 a k h)
theorem FrQc.hi (h : FrQc M M') : HiC M M' := fun a k h9 => h.1 a k (by unfold scC scL; omega)
theorem FrQm.lo (h : FrQm M M') : LoM M M' := fun a k h9 => h a k (by unfold scM; omega)
theorem BadM.lo {cd ix : Nat} (h : BadM cd ix M M') : LoM M M' := fun a k h9 => h.1 a k (by unfold scM; omega) (by omega)
theorem inc_hi {j : Nat} : HiC M (inc M j) := fun a k h9 => ms_na (by omega)
theorem CC.eq {cm : Nat} (hf : ∀ b k, cm ≤ b → b ≤ cm + 5 → M' b k = M b k) (h : CC M cm c) : CC M' cm c :=
  ⟨fun k hk => (hf _ _ (by omega) (by omega)).trans (h.1 k hk), fun b h1 h2 i hi => (hf _ _ (by omega) (by omega)).trans (h.2 b h1 h2 i hi)⟩
theorem LWC.eq {cm l : Nat} (h1 : ∀ k, M' cm k = M cm k) (h2 : ∀ k, M' l k = M l k) (h3 : ∀ k, M' (l + 2) k = M (l + 2) k) (h : LWC M cm L l) : LWC M' cm L l :=
  ⟨(h1 _).trans h.1, h.2.1, ⟨(h2 _).trans h.2.2.1.1, h.2.2.1.2.1, fun i hi => (h3 _).trans (h.2.2.1.2.2 i hi)⟩, h.2.2.2⟩
theorem SY.eq {y : Nat} (hf : ∀ k, M' y k = M y k) (h : SY M y Y) : SY M' y Y := by
  unfold SY; rw [hf, hf, hf]; exact h
/-- unchanged is all of the class that is no scratch -/
def KpC (M M' : Mem) : Prop := ∀ b k, 32 ≤ b → b < 440 → ¬ scC b → M' b k = M b k
theorem TpC.kp (hf : KpC M M') (h : TpC M nB B fp) : TpC M' nB B fp :=
  ⟨(hf _ _ (by omega) (by omega) (by unfold scC scL; omega)).trans h.1, fun i hi => (hf _ _ (by omega) (by omega) (by unfold scC scL; omega)).trans (h.2.1 i hi), (hf _ _ (by omega) (by omega) (by unfold scC scL; omega)).trans h.2.2⟩
theorem GmC.kp (hf : KpC M M') (h : GmC M c L s) : GmC M' c L s := by
  obtain ⟨cm, l, cm2, l2, l3, ⟨a, b, e, f⟩, ⟨a2, b2, n2, e2, o2⟩, ⟨a3, o3⟩, d1, d2, d3⟩ := h
  have g := rg0 b
  have g2 := rg0 b2
  have gl := rg2 f.2.1
  have k32 : ∀ k, M' 32 k = M 32 k := fun k => hf _ _ (by omega) (by omega) (by unfold scC scL; omega)
  refine ⟨cm, l, cm2, l2, l3, ⟨(k32 _).trans a, b, ⟨e.1.eq (fun b k h1 h2 => hf _ _ (by omega) (by omega) (by unfold scC scL; omega)), e.2.1, e.2.2.1.fr (fun b j h1 h2 => hf _ _ (by omega) (by omega) (by unfold scC scL; omega)), e.2.2.2⟩, ?_⟩, ⟨(k32 _).trans a2, b2, n2, (hf _ _ (by omega) (by omega) (by unfold scC scL; omega)).trans e2, o2⟩, ⟨(k32 _).trans a3, o3⟩, d1, d2, d3⟩
  exact f.eq (fun k => hf _ _ (by omega) (by omega) (by unfold scC scL; omega)) (fun k => hf _ _ (by omega) (by omega) (by unfold scC scL; omega)) (fun k => hf _ _ (by omega) (by omega) (by unfold scC scL; omega))
theorem SyC.kp (hf : KpC M M') (h : SyC M Y) : SyC M' Y := by
  obtain ⟨y, y2, ⟨a, b, e⟩, a2, b2, n2⟩ := h
  have g := rg8 b
  have k32 : ∀ k, M' 32 k = M 32 k := fun k => hf _ _ (by omega) (by omega) (by unfold scC scL; omega)
  exact ⟨y, y2, ⟨(k32 _).trans a, b, e.eq (fun k => hf _ _ (by omega) (by omega) (by unfold scC scL; omega))⟩, (k32 _).trans a2, b2, n2⟩
theorem ImC.kp (hf : KpC M M') (h3 : I.length ≤ 3) (h : ImC M c I) : ImC M' c I :=
  ⟨(hf _ _ (by omega) (by omega) (by unfold scC scL; omega)).trans h.1, fun i hi => ⟨(h.2 i hi).1.fr (fun b j h1 h2 => hf _ _ (by omega) (by omega) (by unfold scC scL; omega)), (h.2 i hi).2.fr (fun b j h1 h2 => hf _ _ (by omega) (by omega) (by unfold scC scL; omega))⟩⟩
theorem PH.kp (hf : KpC M M') (h : PH M 50 c H) : PH M' 50 c H := h.fr (fun b j h1 h2 => hf _ _ (by omega) (by omega) (by unfold scC scL; omega))
theorem CS.kp (hf : KpC M M') (ho : OWx M → OWx M') (h3 : I.length ≤ 3) (h : CS M nB B fp c L s H I Y rf ms wr) : CS M' nB B fp c L s H I Y rf ms wr := by
  obtain ⟨a, b, e, f, g, ⟨r1, r2, r3⟩, o⟩ := h
  have k32 : ∀ k, M' 32 k = M 32 k := fun k => hf _ _ (by omega) (by omega) (by unfold scC scL; omega)
  exact ⟨a.kp hf, b.kp hf, e.kp hf, f.kp hf, g.kp hf h3, ⟨(k32 _).trans r1, (k32 _).trans r2, (k32 _).trans r3⟩, ho o⟩
theorem CS.qc (hf : FrQc M M') (h3 : I.length ≤ 3) (h : CS M nB B fp c L s H I Y rf ms wr) : CS M' nB B fp c L s H I Y rf ms wr :=
  h.kp (fun b k _ _ h9 => hf.1 b k h9) hf.2 h3
/-- the class's state is not touched by the model -/
theorem CS.lo (hf : LoM M M') (h3 : I.length ≤ 3) (h : CS M nB B fp c L s H I Y rf ms wr) : CS M' nB B fp c L s H I Y rf ms wr :=
  h.kp (fun b k _ h2 _ => hf b k (Or.inl h2)) (fun h9 => h9.of (hf _ _ (by omega)) (hf _ _ (by omega))) h3
theorem CS.gc (h : CS M nB B fp c L s H I Y rf ms wr) : GC M c L s := by
  obtain ⟨cm, l, cm2, l2, l3, ⟨a, b, e, f⟩, -⟩ := h.2.1
  exact ⟨cm, l, a, b, e, f⟩
theorem CS.sy (h : CS M nB B fp c L s H I Y rf ms wr) : SYC M Y := by
  obtain ⟨y, y2, ⟨a, b, e⟩, -⟩ := h.2.2.1
  exact ⟨y, a, b, e⟩
/-- the model's state is not touched where nothing of 440 on changes but scratch -/
theorem LMr.er {r : Nat} (hf : ∀ k, M' r k = M r k) (h : LMr M r c s) : LMr M' r c s := by
  unfold LMr; simp only [hf]; exact h
theorem LMo.eq {a j : Nat} (hf : ∀ k, M' a k = M a k) (h : LMo M a j c s) : LMo M' a j c s := by
  have e : (fun (_ : Nat) k => M' a (j + k)) = (fun _ k => M a (j + k)) := funext fun _ => funext fun k => hf _
  unfold LMo; rw [e, hf]; exact h
/-- unchanged is all of the model that is no scratch -/
def KpM (M M' : Mem) : Prop := ∀ a k, 440 ≤ a → a < 922 → ¬ scM a k → M' a k = M a k
theorem MS.kp (hf : KpM M M') (hI : IV nB B c s H I Y) (h : MS M nB B fp c L s H I Y rf ms wr) : MS M' nB B fp c L s H I Y rf ms wr := by
  obtain ⟨⟨a1, a2, a3⟩, b, ⟨e1, e2, e3⟩, ⟨f1, f2⟩, ⟨g1, g2⟩, r1, r2, r3⟩ := h
  obtain ⟨-, -, -, hH, hI3, -, -⟩ := hI
  have u : ∀ a k, 440 ≤ a → a < 922 → ¬ scM a k → M' a k = M a k := hf
  have hw := b.1.2.1
  have hn := hw.n
  refine ⟨⟨(u _ _ (by omega) (by omega) (by unfold scM; omega)).trans a1, fun i hi => (u _ _ (by omega) (by omega) (by unfold scM; omega)).trans (a2 i hi), (u _ _ (by omega) (by omega) (by unfold scM; omega)).trans a3⟩, ?_, ⟨(u _ _ (by omega) (by omega) (by unfold scM; omega)).trans e1, e2, fun k hk => ⟨(u _ _ (by omega) (by omega) (by unfold scM; omega)).trans (e3 k hk).1, (u _ _ (by omega) (by omega) (by unfold scM; omega)).trans (e3 k hk).2⟩⟩, ⟨(u _ _ (by omega) (by omega) (by unfold scM; omega)).trans f1, fun i hi => ?_⟩, ⟨(u _ _ (by omega) (by omega) (by unfold scM; omega)).trans g1, fun i hi => ?_⟩, (u _ _ (by omega) (by omega) (by unfold scM; omega)).trans r1, (u _ _ (by omega) (by omega) (by unfold scM; omega)).trans r2, (u _ _ (by omega) (by omega) (by unfold scM; omega)).trans r3⟩
  · obtain ⟨⟨x1, x2, x3, x4, x5⟩, x6, x7, x8, x9⟩ := b
    refine ⟨⟨⟨fun k hk => (u _ _ (by omega) (by omega) (by unfold scM; omega)).trans (x1.1 k hk), fun i hi => (u _ _ (by omega) (by omega) (by unfold scM; omega)).trans (x1.2.1 i hi), fun i hi => ?_, fun i hi => (u _ _ (by omega) (by omega) (by unfold scM; omega)).trans (x1.2.2.2.1 i hi), fun i hi => (u _ _ (by omega) (by omega) (by unfold scM; omega)).trans (x1.2.2.2.2 i hi)⟩, x2, x3.er (fun k => u _ _ (by omega) (by omega) (by unfold scM; omega)), x4, (u _ _ (by omega) (by omega) (by unfold scM; omega)).trans x5⟩, (u _ _ (by omega) (by omega) (by unfold scM; omega)).trans x6, x7, fun i hi => ?_, x9⟩
    · exact ⟨(u _ _ (by omega) (by omega) (by unfold scM; omega)).trans (x1.2.2.1 i hi).1, (u _ _ (by omega) (by omega) (by unfold scM; omega)).trans (x1.2.2.1 i hi).2⟩
    · exact ⟨(u _ _ (by omega) (by omega) (by unfold scM; omega)).trans (x8 i hi).1, (u _ _ (by omega) (by omega) (by unfold scM; omega)).trans (x8 i hi).2⟩
  · have := hH.1
    exact ⟨(f2 i hi).1.er (fun k => u _ _ (by omega) (by omega) (by unfold scM; omega)), (u _ _ (by omega) (by omega) (by unfold scM; omega)).trans (f2 i hi).2⟩
  · have := hI3.1
    obtain ⟨q1, q2, q3⟩ := g2 i hi
    exact ⟨(u _ _ (by omega) (by omega) (by unfold scM; omega)).trans q1, q2.eq (fun k => u _ _ (by omega) (by omega) (by unfold scM; omega)), fun j hj => (q3 j hj).eq (fun k => u _ _ (by omega) (by omega) (by unfold scM; omega))⟩
theorem MS.q (hf : FrQm M M') (hI : IV nB B c s H I Y) (h : MS M nB B fp c L s H I Y rf ms wr) : MS M' nB B fp c L s H I Y rf ms wr := h.kp (fun a k _ _ h9 => hf a k h9) hI
theorem MS.hi (hf : HiC M M') (hI : IV nB B c s H I Y) (h : MS M nB B fp c L s H I Y rf ms wr) : MS M' nB B fp c L s H I Y rf ms wr := h.kp (fun a k h1 _ _ => hf a k (Or.inr h1)) hI
theorem MS.gm (h : MS M nB B fp c L s H I Y rf ms wr) : GM M c L s := h.2.1
theorem MS.sy (h : MS M nB B fp c L s H I Y rf ms wr) : SYM M Y := h.2.2.1
/-- a call refused, on both sides -/
theorem CS.incM (h3 : I.length ≤ 3) (h : CS M nB B fp c L s H I Y rf ms wr) : CS (inc M 18) nB B fp c L s H I Y rf (w32 (ms + 1)) wr := by
  obtain ⟨a, b, e, f, g, ⟨r1, r2, r3⟩, o⟩ := h
  have na : ∀ b k, ¬ (b = 32 ∧ k = 18) → inc M 18 b k = M b k := fun b k h9 => by show mset M 32 18 _ b k = M b k; unfold mset; rw [if_neg h9]
  refine ⟨⟨(na _ _ (by omega)).trans a.1, fun i hi => (na _ _ (by omega)).trans (a.2.1 i hi), (na _ _ (by omega)).trans a.2.2⟩, ?_, ?_, f.fr (fun b j h1 h2 => na _ _ (by omega)), ⟨(na _ _ (by omega)).trans g.1, fun i hi => ⟨(g.2 i hi).1.fr (fun b j h1 h2 => na _ _ (by omega)), (g.2 i hi).2.fr (fun b j h1 h2 => na _ _ (by omega))⟩⟩, ⟨(na _ _ (by omega)).trans r1, ?_, (na _ _ (by omega)).trans r3⟩, o.of (na _ _ (by omega)) (na _ _ (by omega))⟩
  · obtain ⟨cm, l, cm2, l2, l3, ⟨a, b, e, f⟩, ⟨a2, b2, n2, e2, o2⟩, ⟨a3, o3⟩, d1, d2, d3⟩ := b
    have g := rg0 b
    have g2 := rg0 b2
    have gl := rg2 f.2.1
    exact ⟨cm, l, cm2, l2, l3, ⟨(na _ _ (by omega)).trans a, b, ⟨e.1.eq (fun b k h1 h2 => na _ _ (by omega)), e.2.1, e.2.2.1.fr (fun b j h1 h2 => na _ _ (by omega)), e.2.2.2⟩, f.eq (fun k => na _ _ (by omega)) (fun k => na _ _ (by omega)) (fun k => na _ _ (by omega))⟩, ⟨(na _ _ (by omega)).trans a2, b2, n2, (na _ _ (by omega)).trans e2, o2⟩, ⟨(na _ _ (by omega)).trans a3, o3⟩, d1, d2, d3⟩
  · obtain ⟨y, y2, ⟨a, b, e⟩, a2, b2, n2⟩ := e
    have g := rg8 b
    exact ⟨y, y2, ⟨(na _ _ (by omega)).trans a, b, e.eq (fun k => na _ _ (by omega))⟩, (na _ _ (by omega)).trans a2, b2, n2⟩
  · show mset M 32 18 _ 32 18 = _
    rw [ms_eq, r2]
theorem CS.incW (h3 : I.length ≤ 3) (h : CS M nB B fp c L s H I Y rf ms wr) : CS (inc M 19) nB B fp c L s H I Y rf ms (w32 (wr + 1)) := by
  obtain ⟨a, b, e, f, g, ⟨r1, r2, r3⟩, o⟩ := h
  have na : ∀ b k, ¬ (b = 32 ∧ k = 19) → inc M 19 b k = M b k := fun b k h9 => by show mset M 32 19 _ b k = M b k; unfold mset; rw [if_neg h9]
  refine ⟨⟨(na _ _ (by omega)).trans a.1, fun i hi => (na _ _ (by omega)).trans (a.2.1 i hi), (na _ _ (by omega)).trans a.2.2⟩, ?_, ?_, f.fr (fun b j h1 h2 => na _ _ (by omega)), ⟨(na _ _ (by omega)).trans g.1, fun i hi => ⟨(g.2 i hi).1.fr (fun b j h1 h2 => na _ _ (by omega)), (g.2 i hi).2.fr (fun b j h1 h2 => na _ _ (by omega))⟩⟩, ⟨(na _ _ (by omega)).trans r1, (na _ _ (by omega)).trans r2, ?_⟩, o.of (na _ _ (by omega)) (na _ _ (by omega))⟩
  · obtain ⟨cm, l, cm2, l2, l3, ⟨a, b, e, f⟩, ⟨a2, b2, n2, e2, o2⟩, ⟨a3, o3⟩, d1, d2, d3⟩ := b
    have g := rg0 b
    have g2 := rg0 b2
    have gl := rg2 f.2.1
    exact ⟨cm, l, cm2, l2, l3, ⟨(na _ _ (by omega)).trans a, b, ⟨e.1.eq (fun b k h1 h2 => na _ _ (by omega)), e.2.1, e.2.2.1.fr (fun b j h1 h2 => na _ _ (by omega)), e.2.2.2⟩, f.eq (fun k => na _ _ (by omega)) (fun k => na _ _ (by omega)) (fun k => na _ _ (by omega))⟩, ⟨(na _ _ (by omega)).trans a2, b2, n2, (na _ _ (by omega)).trans e2, o2⟩, ⟨(na _ _ (by omega)).trans a3, o3⟩, d1, d2, d3⟩
  · obtain ⟨y, y2, ⟨a, b, e⟩, a2, b2, n2⟩ := e
    have g := rg8 b
    exact ⟨y, y2, ⟨(na _ _ (by omega)).trans a, b, e.eq (fun k => na _ _ (by omega))⟩, (na _ _ (by omega)).trans a2, b2, n2⟩
  · show mset M 32 19 _ 32 19 = _
    rw [ms_eq, r3]
/-- the model behind a call refused -/
theorem MS.bad {cd : Nat} (hI : IV nB B c s H I Y) (h : MS M nB B fp c L s H I Y rf ms wr) (hb : BadM cd 1 M M') : MS M' nB B fp c L s H I Y rf ms (w32 (wr + 1)) := by
  have hf : FrQm M (mset M' 442 1 (M 442 1)) := fun a k h9 => by
    by_cases h8 : a = 442 ∧ k = 1
    · obtain ⟨rfl, rfl⟩ := h8; rw [ms_eq]
    · unfold mset; rw [if_neg h8]; exact hb.1 a k h9 h8
  have h1 := h.q hf hI
  obtain ⟨a, b, e, f, g, r1, r2, r3⟩ := h1
  have na : ∀ b k, ¬ (b = 442 ∧ k = 1) → M' b k = mset M' 442 1 (M 442 1) b k := fun b k h9 => by unfold mset; rw [if_neg h9]
  have h2 : MS M' nB B fp c L s H I Y rf ms (M' 442 1) := by
    obtain ⟨a1, a2, a3⟩ := a
    obtain ⟨e1, e2, e3⟩ := e
    obtain ⟨f1, f2⟩ := f
    obtain ⟨g1, g2⟩ := g
    have hH := hI.2.2.2.1.1
    have hI3 := hI.2.2.2.2.1.1
    obtain ⟨⟨x1, x2, x3, x4, x5⟩, x6, x7, x8, x9⟩ := b
    have hn := x2.n
    refine ⟨⟨(na _ _ (by omega)).trans a1, fun i hi => (na _ _ (by omega)).trans (a2 i hi), (na _ _ (by omega)).trans a3⟩, ⟨⟨⟨fun k hk => (na _ _ (by omega)).trans (x1.1 k hk), fun i hi => (na _ _ (by omega)).trans (x1.2.1 i hi), fun i hi => ⟨(na _ _ (by omega)).trans (x1.2.2.1 i hi).1, (na _ _ (by omega)).trans (x1.2.2.1 i hi).2⟩, fun i hi => (na _ _ (by omega)).trans (x1.2.2.2.1 i hi), fun i hi => (na _ _ (by omega)).trans (x1.2.2.2.2 i hi)⟩, x2, x3.er (fun k => na _ _ (by omega)), x4, (na _ _ (by omega)).trans x5⟩, (na _ _ (by omega)).trans x6, x7, fun i hi => ⟨(na _ _ (by omega)).trans (x8 i hi).1, (na _ _ (by omega)).trans (x8 i hi).2⟩, x9⟩, ⟨(na _ _ (by omega)).trans e1, e2, fun k hk => ⟨(na _ _ (by omega)).trans (e3 k hk).1, (na _ _ (by omega)).trans (e3 k hk).2⟩⟩, ⟨(na _ _ (by omega)).trans f1, fun i hi => ⟨(f2 i hi).1.er (fun k => na _ _ (by omega)), (na _ _ (by omega)).trans (f2 i hi).2⟩⟩, ⟨(na _ _ (by omega)).trans g1, fun i hi => ⟨(na _ _ (by omega)).trans (g2 i hi).1, (g2 i hi).2.1.eq (fun k => na _ _ (by omega)), fun j hj => ((g2 i hi).2.2 j hj).eq (fun k => na _ _ (by omega))⟩⟩, (na _ _ (by omega)).trans r1, (na _ _ (by omega)).trans r2, rfl⟩
  rw [hb.2.2, h.2.2.2.2.2.2.2] at h2; exact h2
theorem MS.mis {cd : Nat} (hI : IV nB B c s H I Y) (h : MS M nB B fp c L s H I Y rf ms wr) (hb : BadM cd 0 M M') : MS M' nB B fp c L s H I Y rf (w32 (ms + 1)) wr := by
  have hf : FrQm M (mset M' 442 0 (M 442 0)) := fun a k h9 => by
    by_cases h8 : a = 442 ∧ k = 0
    · obtain ⟨rfl, rfl⟩ := h8; rw [ms_eq]
    · unfold mset; rw [if_neg h8]; exact hb.1 a k h9 h8
  have h1 := h.q hf hI
  obtain ⟨a, b, e, f, g, r1, r2, r3⟩ := h1
  have na : ∀ b k, ¬ (b = 442 ∧ k = 0) → M' b k = mset M' 442 0 (M 442 0) b k := fun b k h9 => by unfold mset; rw [if_neg h9]
  have h2 : MS M' nB B fp c L s H I Y rf (M' 442 0) wr := by
    obtain ⟨a1, a2, a3⟩ := a
    obtain ⟨e1, e2, e3⟩ := e
    obtain ⟨f1, f2⟩ := f
    obtain ⟨g1, g2⟩ := g
    have hH := hI.2.2.2.1.1
    have hI3 := hI.2.2.2.2.1.1
    obtain ⟨⟨x1, x2, x3, x4, x5⟩, x6, x7, x8, x9⟩ := b
    have hn := x2.n
    refine ⟨⟨(na _ _ (by omega)).trans a1, fun i hi => (na _ _ (by omega)).trans (a2 i hi), (na _ _ (by omega)).trans a3⟩, ⟨⟨⟨fun k hk => (na _ _ (by omega)).trans (x1.1 k hk), fun i hi => (na _ _ (by omega)).trans (x1.2.1 i hi), fun i hi => ⟨(na _ _ (by omega)).trans (x1.2.2.1 i hi).1, (na _ _ (by omega)).trans (x1.2.2.1 i hi).2⟩, fun i hi => (na _ _ (by omega)).trans (x1.2.2.2.1 i hi), fun i hi => (na _ _ (by omega)).trans (x1.2.2.2.2 i hi)⟩, x2, x3.er (fun k => na _ _ (by omega)), x4, (na _ _ (by omega)).trans x5⟩, (na _ _ (by omega)).trans x6, x7, fun i hi => ⟨(na _ _ (by omega)).trans (x8 i hi).1, (na _ _ (by omega)).trans (x8 i hi).2⟩, x9⟩, ⟨(na _ _ (by omega)).trans e1, e2, fun k hk => ⟨(na _ _ (by omega)).trans (e3 k hk).1, (na _ _ (by omega)).trans (e3 k hk).2⟩⟩, ⟨(na _ _ (by omega)).trans f1, fun i hi => ⟨(f2 i hi).1.er (fun k => na _ _ (by omega)), (na _ _ (by omega)).trans (f2 i hi).2⟩⟩, ⟨(na _ _ (by omega)).trans g1, fun i hi => ⟨(na _ _ (by omega)).trans (g2 i hi).1, (g2 i hi).2.1.eq (fun k => na _ _ (by omega)), fun j hj => ((g2 i hi).2.2 j hj).eq (fun k => na _ _ (by omega))⟩⟩, (na _ _ (by omega)).trans r1, rfl, (na _ _ (by omega)).trans r3⟩
  rw [hb.2.2, h.2.2.2.2.2.2.1] at h2; exact h2
end ST
