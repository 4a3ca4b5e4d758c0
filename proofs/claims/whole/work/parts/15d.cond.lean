/-! conditions in plain words; receivers -/
section PC
variable {d m pc pc' : Nat} {x y : Nat} {z : Int} {ls st : List PV} {M : Mem} {K : KK} {Q : RR → Mem → KK → Prop}
theorem r_ifP {cc : ClassFile.Cond} {o a : Int} (P : Prop) [Decidable P] (c : Ta m pc pc' (.ifCond cc o) x y z) (hp : pcd cc a 0 = decide P) (k1 : P → Wp d m x ls st M K Q) (k2 : ¬ P → Wp d m pc' ls st M K Q) : Wp d m pc ls (vI a :: st) M K Q := r_if c (fun h => k1 (by rw [hp] at h; exact of_decide_eq_true h)) (fun h => k2 (fun hP => h (by rw [hp]; exact decide_eq_true hP)))
theorem r_icmpP {cc : ClassFile.Cond} {o a b : Int} (P : Prop) [Decidable P] (c : Ta m pc pc' (.if_icmp cc o) x y z) (hp : pcd cc a b = decide P) (k1 : P → Wp d m x ls st M K Q) (k2 : ¬ P → Wp d m pc' ls st M K Q) : Wp d m pc ls (vI b :: vI a :: st) M K Q := r_icmp c (fun h => k1 (by rw [hp] at h; exact of_decide_eq_true h)) (fun h => k2 (fun hP => h (by rw [hp]; exact decide_eq_true hP)))
theorem okc_r {a : Nat} {ar rest : List PV} {nm : Nat} (h1 : Nat.ble (psum rest) 8 = true) (h2 : noL (.inr (.inr (.inl a)) :: ar) = true) (h3 : isO nm a (rcT.getD x 0) = true) : okc x (.inr (.inr (.inl a)) :: ar) rest nm = true := by
  show (Nat.ble (psum rest) 8 && noL (.inr (.inr (.inl a)) :: ar) && (Nat.beq (rcT.getD x 0) 99 || isO nm a (rcT.getD x 0))) = true
  rw [h1, h2, h3]
  simp
theorem okc_s {ar rest : List PV} {nm : Nat} (h1 : Nat.ble (psum rest) 8 = true) (h2 : noL ar = true) (h3 : Nat.beq (rcT.getD x 0) 99 = true) : okc x ar rest nm = true := by
  unfold okc
  rw [h1, h2, h3]
  split <;> simp
end PC
