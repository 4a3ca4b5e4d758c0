/-! the start: the class and the model made -/
def okR (q : Option (RR × Mem × KK)) (K : KK) : Bool := match q with
  | some (.inl none, _, K1) => Nat.beq K1.1 K.1 && Nat.beq K1.2.1 K.2.1 && Nat.beq K1.2.2 K.2.2
  | _ => false
theorem okR_eq {q : Option (RR × Mem × KK)} {K : KK} (h : okR q K = true) : ∃ M, q = some (.inl none, M, K) := by
  unfold okR at h
  split at h
  · rename_i M1 K1
    simp only [Bool.and_eq_true] at h
    refine ⟨M1, ?_⟩
    obtain ⟨k1, k2, k3⟩ := K1
    obtain ⟨j1, j2, j3⟩ := K
    obtain ⟨⟨h1, h2⟩, h3⟩ := h
    have e1 : k1 = j1 := Nat.eq_of_beq_eq_true h1
    have e2 : k2 = j2 := Nat.eq_of_beq_eq_true h2
    have e3 : k3 = j3 := Nat.eq_of_beq_eq_true h3
    rw [e1, e2, e3]
  · cases h
abbrev Z0 : Mem := fun _ _ => 0
noncomputable def R97 : Option (RR × Mem × KK) := run2 3000 2039 97 0 (mkL 97 [vR 32]) [] Z0 (33, 1, 20)
noncomputable def M97 : Mem := match R97 with
  | some (_, M, _) => M
  | none => Z0
noncomputable def R149 : Option (RR × Mem × KK) := run2 3000 2039 149 0 (mkL 149 [vR 439]) [] M97 (440, 408, 33762)
noncomputable def M149 : Mem := match R149 with
  | some (_, M, _) => M
  | none => Z0
def fctL : List (Nat × Nat × Int) := [(33, 1, 0), (33, 7, -1), (32, 11, 152), (152, 5, 0), (152, 6, 0), (152, 7, 0), (152, 8, 0), (152, 9, 5), (152, 10, 1), (152, 11, 158), (158, 3, 9), (40, 4, 0), (40, 5, 5), (32, 12, 162), (162, 11, 168), (32, 13, 172), (32, 14, 176), (176, 0, 0), (176, 1, 0), (176, 2, 0), (32, 15, 177), (50, 1, 0), (32, 16, 0), (32, 17, 0), (32, 18, 0), (32, 19, 0), (143, 0, 144), (143, 1, 145),
  (439, 1, 0), (439, 3, -1), (443, 0, 0), (443, 1, 0), (443, 2, 0), (443, 3, 0), (443, 4, 5), (443, 5, 1), (887, 24, 0), (887, 25, 5), (887, 26, -1), (439, 21, 0), (439, 35, 0), (439, 36, 0), (439, 38, 0), (439, 37, 0), (441, 0, 0), (441, 1, 0),
  (160, 0, 1000), (160, 1, 1001), (160, 2, 2003), (160, 3, 1003), (160, 4, 2000), (160, 5, 1004), (160, 6, 2), (160, 7, 2002), (160, 8, 2000)]
def fxN (a : Nat) : Nat := if tg a = 33 ∨ tg a = 36 ∨ tg a = 40 then ln a else if tg a = 11 then 11 else if tg a = 12 then 47 else if tg a < 11 then 5 else 0
def chkX (M : Mem) : Bool := (List.range 922).all (fun a => Nat.blt a 32 || (List.range (fxN a)).all (fun k => Nat.beq (fxT a k) 0 || decide (M a k = ((fxT a k : Nat) : Int))))
def chkV (M : Mem) : Bool := fctL.all (fun e => decide (M e.1 e.2.1 = e.2.2))
theorem ok97 : okR R97 (439, 407, 33712) = true := by decide +kernel
theorem ok149 : okR R149 (921, 889, 38100) = true := by decide +kernel
theorem okV : chkV M149 = true := by decide +kernel
