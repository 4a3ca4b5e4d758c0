/-! the claim, out of a run of the pure machine -/
def M0 (L : Nat) (xs : Nat → Int) : Mem := fun a k => if a = 30 then (if k = 0 then (L : Int) else 0) else if a = 31 then xs k else 0
def K0 : KK := (32, 0, 0)
/-- the pure claim: for every script of at most 4608 ints, the pure machine comes to 1 from the law's start -/
def PureClaim : Prop := ∀ (L : Nat) (xs : Nat → Int), L ≤ 4608 → (∀ j, -2147483648 ≤ xs j ∧ xs j < 2147483648) → Wp 2040 288 0 ([vR 31] ++ List.replicate 7 vU) [] (M0 L xs) K0 (fun r _ K => r = .inl (some (vI 1)) ∧ K.2.1 ≤ 601024 ∧ K.2.2 ≤ 7293034)
theorem GoodIn_jx : ∀ w ∈ jx, w ∈ lw_tbl := fun w hw => (List.mem_append.mp hw).elim (fun h => (jw_ok w h).1) (fun h => (tw_ok w h).1)
theorem nw_on : nw.all (fun w => w.onTables) = true := by decide +kernel
section TOP
variable {p : Program} {l : Launch} {e : Env} {R : Room} {s : State} {m : MethodId} {args : Array Value} {below : List Frame} {meth : Method} {c : Code} {H : Heap} {locs : List Loc} {cells slots : Nat} {Q : State → Prop} {g : JFrame}
theorem W.up {mc ms : Nat} (hl : ∀ q ∈ locs, s.heap.size ≤ q.base) (hc : cells ≤ mc) (hs : slots ≤ ms) (k : W p l e R s m args below meth c H [] mc ms Q g) : W p l e R s m args below meth c H locs cells slots Q g := by
  intro T hT X
  have X1 := Stand.forget (locs := []) (extra := locs) X hl
  exact k T hT { X1 with same := X1.same.mono hc hs }
end TOP
theorem ent_str {args : Array Value} {s : State} {A : Nat → Prop} (hN : ∀ w ∈ nrw, w.before args s = true) (hA : ∀ a : Nat, a < s.heap.size → ¬ A a) : ∃ adK adV : Nat → Nat, vz_S adK adV A s s.heap ∧ ∀ i, i < 25 → (swo i).eval args s none [] s = some (.ref (adK i)) := by
  have h0 : ∀ i : Nat, ∃ q : Nat × Nat, i < 25 → vk_S 1 [slT.getD i 0] [sbT.getD i []] (fun _ => q.1) (fun _ => q.2) A s s.heap ∧ (swo i).eval args s none [] s = some (.ref q.1) := by
    intro i
    by_cases hi : i < 25
    · have hw := fun w h => hN w (sws_in i hi w h)
      have hlen := (sl_ok i hi).2.2
      obtain ⟨adK, adV, h1, h2⟩ := vk_Sof (args := args) (s := s) (N := 1) (tm := fun _ => swo i) (len := [slT.getD i 0]) (byt := [sbT.getD i []]) (A := A)
        (fun j hj => by
          have : j = 0 := by omega
          subst this
          show slT.getD i 0 < 2 ^ 31
          omega)
        (fun j hj => hw _ (by simp [sws])) (fun j hj => hw _ (by simp [sws])) (fun j hj => hw _ (by simp [sws, swv]))
        (fun j hj => by
          have : j = 0 := by omega
          subst this
          exact hw _ (by simp [sws, swv]))
        (fun j hj k hk => by
          have : j = 0 := by omega
          subst this
          have hk : k < slT.getD i 0 := hk
          refine hw _ (List.mem_append_right _ (List.mem_map.mpr ⟨k, List.mem_range.mpr hk, rfl⟩)))
        (fun a b ha hb hab => absurd (by omega) hab) hA
      refine ⟨(adK 0, adV 0), fun _ => ⟨⟨fun j hj => ?_, fun a b ha hb _ => by omega⟩, h2 0 (by omega)⟩⟩
      have : j = 0 := by omega
      subst this
      exact h1.1 0 (by omega)
    · exact ⟨(0, 0), fun h => absurd h hi⟩
  obtain ⟨ad, had⟩ := Classical.axiomOfChoice h0
  exact ⟨fun i => (ad i).1, fun i => (ad i).2, fun i hi => (had i hi).1, fun i hi => (had i hi).2⟩
theorem ew_st (i : Nat) (hi : i < 25) : Cond.stringRef (ssT.getD i ("", 0, "")).1 (ssT.getD i ("", 0, "")).2.1 (ssT.getD i ("", 0, "")).2.2 ∈ lw_tbl := by
  rcases (show i = 0 ∨ i = 1 ∨ i = 2 ∨ i = 3 ∨ i = 4 ∨ i = 5 ∨ i = 6 ∨ i = 7 ∨ i = 8 ∨ i = 9 ∨ i = 10 ∨ i = 11 ∨ i = 12 ∨ i = 13 ∨ i = 14 ∨ i = 15 ∨ i = 16 ∨ i = 17 ∨ i = 18 ∨ i = 19 ∨ i = 20 ∨ i = 21 ∨ i = 22 ∨ i = 23 ∨ i = 24 by omega) with rfl | rfl | rfl | rfl | rfl | rfl | rfl | rfl | rfl | rfl | rfl | rfl | rfl | rfl | rfl | rfl | rfl | rfl | rfl | rfl | rfl | rfl | rfl | rfl | rfl
  · exact ew_15
  · exact ew_16
  · exact ew_17
  · exact ew_18
  · exact ew_19
  · exact ew_20
  · exact ew_21
  · exact ew_22
  · exact ew_23
  · exact ew_24
  · exact ew_25
  · exact ew_26
  · exact ew_27
  · exact ew_28
  · exact ew_29
  · exact ew_30
  · exact ew_31
  · exact ew_32
  · exact ew_33
  · exact ew_34
  · exact ew_35
  · exact ew_36
  · exact ew_37
  · exact ew_38
  · exact ew_39
set_option maxHeartbeats 4000000 in
theorem whole_of_pure (hpure : PureClaim) {p : Program} {e : Env} {s : State} {m : MethodId} {below : List Frame} {meth : Method} {c : Code} (l : Launch) (hflags : l.flags = flags0) {b L : Nat} {xs : Nat → Int32} (hL : L ≤ 4608) (C0 : lw_At p s m meth c b L xs) : W p l e room_1 s m #[Value.ref b] below meth c s.heap [] 0 0 (lw_Z below #[Value.ref b] s) (entryFrame m ([Value.ref b] : List Value).toArray 8) := by
  obtain ⟨hx, hb, hr, hml, hown, hts, hX, hbl, hlocks, hgv⟩ := C0
  have hN : ∀ w ∈ nrw, w.before #[Value.ref b] s = true := flat_of_before _ hgv
  have hlf : l.stackTraces = false := by
    unfold Launch.stackTraces
    rw [hflags]
    simp [flags0]
  have hA : ∀ a : Nat, a < s.heap.size → ¬ s.heap.size ≤ a := fun a h => by omega
  obtain ⟨adK, adV, hZ, hev⟩ := ent_str (A := fun q => s.heap.size ≤ q) hN hA
  obtain ⟨f, r, M', K', hrun, rfl, hK1, hK2⟩ := hpure L (fun j => (xs j).toInt) hL (fun j => ⟨by have := Int32.le_toInt (xs j); omega, by have := Int32.toInt_lt (xs j); omega⟩)
  have hD : ∃ D : va_G, va_K D vwCl [] s := by
    have h0 : ∀ x : Nat, ∃ q : ClassId × (Nat → Nat), x < 13 → u_Kn s (clM x).1 (clM x).2.1 (clM x).2.2 q.1 q.2 := by
      intro x
      by_cases hx : x < 13
      · obtain ⟨cC, iS, h⟩ := u_known (ws := bw) (s := s) (args := #[Value.ref b]) (fun w hw => hts w (bw_ok w hw).1) (u_all x hx) (hts _ (bw_ok _ (ins_in x hx)).1)
        exact ⟨(cC, iS), fun _ => h⟩
      · exact ⟨(0, fun _ => 0), fun h => absurd h hx⟩
    obtain ⟨ad, had⟩ := Classical.axiomOfChoice h0
    refine ⟨(fun x => (ad x).1, fun x => (ad x).2), fun c q hq => ?_, fun k q hq => by simp at hq⟩
    have hc : c < 13 := (List.getElem?_eq_some_iff.mp hq).1
    have h9 := clM_at hc
    rw [hq] at h9
    rw [Option.some.inj h9]
    exact had c hc
  obtain ⟨D, hK⟩ := hD
  have hG : GX (fun a => if a = 31 then b else adK (a - 2)) (fun q => s.heap.size ≤ q) s s.heap := by
    refine ⟨fun w hw => va_Nw.of (List.all_eq_true.mp nw_on w hw) (hts w (nw_in w hw)), ⟨va_AO.of (hts _ ew_7), va_AO.of (hts _ ew_8), ?_⟩, fun i hi => ?_, ⟨⟨adV, fun i hi => ?_⟩, ?_, ?_⟩, ?_, ?_, ?_⟩
    · exact hts _ ew_9
    · dsimp only
      rw [if_neg (by omega)]
      exact vk_R.of (hts _ (ew_st i hi)) (hev i hi)
    · dsimp only
      rw [if_neg (by omega)]
      exact hZ i hi
    · exact va_Zof (hts _ ew_2) (hts _ ew_5) (va_eqt (hN _ (nr_h _ (by simp)))) hA
    · exact va_Zqof (hts _ ew_3) (hts _ ew_6) (hN _ (nr_h _ (by simp))) hA
    · exact vx_Zqof (hts _ ew_0) (hts _ ew_4) (hN _ (nr_h _ (by simp))) hA
    · exact vx_Zqof (hts _ ew_1) (hts _ ew_4) (hN _ (nr_h _ (by simp))) hA
    · exact ⟨va_Nw.of rfl (hts _ ew_10), va_Nw.of rfl (hts _ ew_11), va_Nw.of rfl (hts _ ew_12), va_Nw.of rfl (hts _ ew_13), va_Nw.of rfl (hts _ ew_14), va_Nc.of (hN _ nr_c)⟩
  have hF : FCx p m c s #[Value.ref b] meth 288 := ⟨hx, hb, hml, hown, fun w hw => hts w (bw_ok w hw).1, hG.1, fun h => by cases h⟩
  have hlr := LR.entry (ρ := fun a => if a = 31 then b else adK (a - 2)) (nm := 32) (nL := 8) (ar := [vR 31]) (vs := [.ref b]) ⟨⟨by simp, by omega⟩, trivial⟩ rfl (by decide)
  rw [lg_entry_eq]
  refine sn_run f hrun (mc := K'.2.1) (ms := K'.2.2) (D := D) (tys := []) (ws := []) (A := fun q => s.heap.size ≤ q) (ρ := fun a => if a = 31 then b else adK (a - 2)) hF (fun w hw => hts w (GoodIn_jx w hw)) (fun h => by cases h) hG (fun _ => ⟨b, L, xs, by simp, hX, hbl, by omega, by omega, by simp [M0], fun j hj => by simp [M0]⟩) (by decide) hlf ⟨rfl, fun a h1 h2 => by simp [K0] at h2; omega, fun a ha k => by simp [K0] at ha; simp only [M0]; rw [if_neg (by omega), if_neg (by omega)]⟩ hK (fun k q hq => by simp at hq) ⟨fun i j p q h => by simp at h, fun k q h => by simp at h⟩ va_S.rf (fun q h => h) hlr trivial (by decide) (by decide) (by simp [K0]) (by simp [K0]) hK1 hK2 ?_ ?_ ?_
  · intro v hv ins n x y z pc' pst' u H' locs' ls' rest' g1 g2 g3 g4 g5 g6 g7 g8 g9 g10 g11
    have hv' : v = some (vI 1) := (Sum.inl.inj hv).symm
    subst hv'
    unfold rtv at g2
    split at g2
    · split at g2
      case isFalse => cases g2
      cases g2
      obtain ⟨xv, r1, rfl, hxv, hs1⟩ := g11.i
      have hr1 : r1 = [] := by cases r1 with
        | nil => rfl
        | cons _ _ => exact hs1.elim
      subst hr1
      have hx1 : xv = 1 := Int32.toInt_inj.mp hxv
      subst hx1
      simp only [chkI, Bool.and_eq_true] at g4
      have hn := Nat.eq_of_beq_eq_true g4.1
      subst hn
      exact W.up (fun q hq => g10.2.2 q hq) hK1 hK2 (lw_ret hx hb hr hlocks g3)
    · cases g2
    · cases g2
    · cases g2
    · cases g2
  · intro e9 he
    cases he
  · intro e9 he
    cases he
