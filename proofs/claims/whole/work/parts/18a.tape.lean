/-! the tape: failed, faultAnswer, fail -/
section TAPE
variable {d a : Nat} {M : Mem} {K : KK} {Q : RR → Mem → KK → Prop} {u v : Int}
theorem g85 (h0 : isO K.1 a 10 = true) (h : Q (.inl (some (vI (if M a 6 = 0 then 0 else 1)))) M K) : Wm d 85 [vR a] M K Q :=
  t85_0 ⟨h0, fun e => t85_12 ⟨Or.inl rfl, by rw [if_pos e] at h; exact h⟩, fun e => t85_12 ⟨Or.inr rfl, by rw [if_neg e] at h; exact h⟩⟩
theorem g86 (h0 : isO K.1 a 10 = true) (h : Q (.inl (some (vI (w32 (M a 6 - 10))))) M K) : Wm d 86 [vR a] M K Q := t86_0 ⟨h0, h⟩
theorem g87 (h0 : isO K.1 a 10 = true) (h : Q (.inl none) (if M a 6 = 0 then mset (mset M a 6 u) a 7 v else M) K) : Wm d 87 [vR a, vI u, vI v] M K Q :=
  t87_0 ⟨h0, fun e => t87_17 (by rw [if_neg e] at h; exact h), fun e => ⟨h0, h0, t87_17 (by rw [if_pos (Classical.not_not.mp e)] at h; exact h)⟩⟩
end TAPE
