/-! the start: the class and the model made -/
def okR (q : Option (RR × Mem × KK)) (K : KK) : Bool := match q with
  | some (.inl none, _, K1) => Nat.beq K1.1 K.1 && Nat.beq K1.2.1 K.2.1 && Nat.beq K1.2.2 K.2.2
  | _ => false
theorem okR_eq {q : Option (RR × Mem × KK)} {K : KK} (h : okR q K = true) : ∃ M, q = some (.inl none, M, K) := by
  unfold okR at h
  split at h
  · rename_i M1 K1
    simp only [Bool.and_eq_true] at h
    refine ⟨M1, ?_⟩
    obtain ⟨k1, k2, k3⟩ := K1
    obtain ⟨j1, j2, j3⟩ := K
    obtain ⟨⟨h1, h2⟩, h3⟩ := h
    have e1 : k1 = j1 := Nat.eq_of_beq_eq_true h1
    have e2 : k2 = j2 := Nat.eq_of_beq_eq_true h2
    have e3 : k3 = j3 := Nat.eq_of_beq_eq_true h3
    rw [e1, e2, e3]
  · cases h
abbrev Z0 : Mem := fun _ _ => 0
noncomputable def R97 : Option (RR × Mem × KK) := run2 3000 2039 97 0 (mkL 97 [vR 32]) [] Z0 (33, 1, 20)
noncomputable def M97 : Mem := match R97 with
  | some (_, M, _) => M
  | none => Z0
noncomputable def R149 : Option (RR × Mem × KK) := run2 3000 2039 149 0 (mkL 149 [vR 440]) [] M97 (441, 409, 13223)
noncomputable def M149 : Mem := match R149 with
  | some (_, M, _) => M
  | none => Z0
def fctL : List (Nat × Nat × Int) := [(33, 1, 0), (33, 7, -1), (32, 11, 153), (153, 5, 0), (153, 6, 0), (153, 7, 0), (153, 8, 0), (153, 9, 5), (153, 10, 1), (153, 11, 159), (159, 3, 9), (40, 4, 0), (40, 5, 5), (32, 12, 163), (163, 11, 169), (32, 13, 173), (32, 14, 177), (177, 0, 0), (177, 1, 0), (177, 2, 0), (32, 15, 178), (50, 1, 0), (32, 16, 0), (32, 17, 0), (32, 18, 0), (32, 19, 0), (144, 0, 145), (144, 1, 146),
  (440, 1, 0), (440, 3, -1), (444, 0, 0), (444, 1, 0), (444, 2, 0), (444, 3, 0), (444, 4, 5), (444, 5, 1), (888, 24, 0), (888, 25, 5), (888, 26, -1), (440, 21, 0), (440, 35, 0), (440, 36, 0), (440, 38, 0), (440, 37, 0), (442, 0, 0), (442, 1, 0),
  (161, 0, 1000), (161, 1, 1001), (161, 2, 2003), (161, 3, 1003), (161, 4, 2000), (161, 5, 1004), (161, 6, 2), (161, 7, 2002), (161, 8, 2000)]
def fxN (a : Nat) : Nat := if tg a = 33 ∨ tg a = 36 ∨ tg a = 40 then ln a else if tg a = 11 then 11 else if tg a = 12 then 47 else if tg a < 11 then 5 else 0
def chkX (M : Mem) : Bool := (List.range 923).all (fun a => Nat.blt a 32 || (List.range (fxN a)).all (fun k => Nat.beq (fxT a k) 0 || decide (M a k = ((fxT a k : Nat) : Int))))
def chkV (M : Mem) : Bool := fctL.all (fun e => decide (M e.1 e.2.1 = e.2.2))
theorem ok97 : okR R97 (440, 408, 13173) = true := by decide +kernel
theorem ok149 : okR R149 (922, 890, 17561) = true := by decide +kernel
theorem okV : chkV M149 = true := by decide +kernel
