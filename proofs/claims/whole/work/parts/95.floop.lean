/-! the loop of the law -/
section LOOP
theorem fin_loop {d : Nat} : ∀ (f i : Nat) (M : Mem) (K : KK) (l5 l6 : PV), K.1 = 923 → FX M → RZ M → 0 ≤ M 30 0 → M 30 0 ≤ 4608 → M 30 0 ≤ (i : Int) + 9 * (f : Int) → i ≤ 5000 → K.2.1 + f ≤ 601024 → K.2.2 + 6 * f ≤ 7293034 → Wp (d + 101) 288 23 [vR 31, vR 32, vR 440, vR 922, vI (i : Int), l5, l6, vU] [] M K (fun r _ K => r = .inl (some (vI 1)) ∧ K.2.1 ≤ 601024 ∧ K.2.2 ≤ 7293034) := by
  intro f
  induction f with
  | zero =>
    intro i M K l5 l6 hK hX hR h0 h1 h2 h3 hk1 hk2
    have e9 : w32 (M 30 0 - 9) = M 30 0 - 9 := w32_id (by omega)
    refine u288_23 (l0 := 31) hK hX ⟨fun _ => ⟨rfl, by omega, by omega⟩, fun h9 => absurd (by rw [e9]; omega) h9⟩
  | succ f ih =>
    intro i M K l5 l6 hK hX hR h0 h1 h2 h3 hk1 hk2
    have e9 : w32 (M 30 0 - 9) = M 30 0 - 9 := w32_id (by omega)
    refine u288_23 (l0 := 31) hK hX ⟨fun _ => ⟨rfl, by omega, by omega⟩, fun h9 => ?_⟩
    rw [e9] at h9
    have hi : InR M i := ⟨by omega, h1⟩
    have hi9 : (i : Int) + 9 ≤ M 30 0 := hi.1
    have nx : Nx d (fun r _ K => r = .inl (some (vI 1)) ∧ K.2.1 ≤ 601024 ∧ K.2.2 ≤ 7293034) M K i := by
      intro M' K' l5 l6 x' r' sc' hK' c1 c2
      refine u288_2445 (l0 := 31) hK' x' ?_
      rw [show w32 ((i : Int) + 9) = ((i + 9 : Nat) : Int) from by rw [w32_id (by omega)]; rfl]
      have e30 := sc' 30 0 (by decide)
      exact ih (i + 9) M' K' l5 l6 hK' x' r' (by rw [e30]; exact h0) (by rw [e30]; exact h1) (by rw [e30]; omega) (by omega) (by omega) (by omega)
    exact ⟨⟨by omega, by omega⟩, fun _ => op_208 hK hX hR hi nx, fun _ => op_281 hK hX hR hi nx, fun _ => op_337 hK hX hR hi nx, fun _ => op_393 hK hX hR hi nx, fun _ => op_449 hK hX hR hi nx, fun _ => op_505 hK hX hR nx, fun _ => op_518 hK hX hR nx, fun _ => op_531 hK hX hR hi nx, fun _ => op_587 hK hX hR hi nx, fun _ => op_655 hK hX hR hi nx, fun _ => op_723 hK hX hR hi nx, fun _ => op_779 hK hX hR hi nx, fun _ => op_925 hK hX hR hi nx, fun _ => op_1000 hK hX hR hi nx, fun _ => op_1068 hK hX hR hi nx, fun _ => op_1124 hK hX hR hi nx, fun _ => op_1180 hK hX hR hi nx, fun _ => op_1248 hK hX hR hi nx, fun _ => op_1304 hK hX hR hi nx, fun _ => op_1372 hK hX hR hi nx, fun _ => op_1475 hK hX hR hi nx, fun _ => op_1543 hK hX hR hi nx, fun _ => op_1611 hK hX hR nx, fun _ => op_1624 hK hX hR hi nx, fun _ => op_1680 hK hX hR hi nx, fun _ => op_1736 hK hX hR hi nx, fun _ => op_1816 hK hX hR hi nx, fun _ => op_1872 hK hX hR hi nx, fun _ => op_1928 hK hX hR hi nx, fun _ => op_1996 hK hX hR hi nx, fun _ => op_2064 hK hX hR hi nx, fun _ => op_2120 hK hX hR nx, fun _ => op_2133 hK hX hR hi nx, fun _ => op_2237 hK hX hR hi nx, fun _ => op_2369 hK hX hR nx, fun _ => op_2382 hK hX hR nx, fun _ => op_2395 hK hX hR hi nx, fun _ => op_2420 hK hX hR hi nx, fun _ => nx.k hK hX ⟨hR, fun _ _ _ => rfl⟩ _ _⟩
end LOOP
