/-! what holds of a frame's start for good, and how it goes over to a callee -/
def isNs (w : Cond) : Bool := match w with
  | .fieldLinkNest _ _ _ _ _ _ => true
  | .methodLinkNest _ _ _ _ => true
  | _ => false
theorem nw_ns : nw.all isNs = true := by decide +kernel
theorem nw_warm {s U : State} (hW : s.WarmedH U.vm) {w : Cond} (hn : isNs w = true) (h : va_Nw w s) : va_Nw w U := by
  unfold isNs at hn
  split at hn
  · exact va_Nw.warmF hW h
  · exact va_Nw.warmM hW h
  · cases hn
theorem nw_same {u U : State} (hv : u.vm = U.vm) {w : Cond} (hn : isNs w = true) (h : va_Nw w u) : va_Nw w U := by
  unfold isNs at hn
  split at hn
  · exact va_Nw.same rfl hv h
  · exact va_Nw.same rfl hv h
  · cases hn
def slT : List Nat := stT.map (fun t => t.length)
def sbT : List (List Int32) := stT.map (fun t => t.map (fun k => Int32.ofNat k))
/-- the string constants, each by itself (two constants may be one string) -/
def vz_S (adK adV : Nat → Nat) (A : Nat → Prop) (U : State) (H : Heap) : Prop := ∀ i : Nat, i < 25 → vk_S 1 [slT.getD i 0] [sbT.getD i []] (fun _ => adK i) (fun _ => adV i) A U H
theorem vz_S.moved {adK adV : Nat → Nat} {A : Nat → Prop} {u U : State} {H : Heap} (hvm : u.vm.Alike U.vm) (h : vz_S adK adV A u H) : vz_S adK adV A U H := fun i hi => vk_S.moved hvm (h i hi)
theorem vz_S.kept {adK adV : Nat → Nat} {A : Nat → Prop} {U : State} {H H1 : Heap} (h : vz_S adK adV A U H) (hq : ∀ a : Nat, a < H.size → ¬ A a → H1[a]? = H[a]?) : vz_S adK adV A U H1 := fun i hi => (h i hi).kept hq
theorem vz_S.narrow {adK adV : Nat → Nat} {A B : Nat → Prop} {U : State} {H : Heap} (h : vz_S adK adV A U H) (hAB : ∀ q, B q → A q) : vz_S adK adV B U H := fun i hi => (h i hi).narrow hAB
theorem vz_get {adK adV : Nat → Nat} {A : Nat → Prop} {U : State} {H : Heap} {i : Nat} (h : vz_S adK adV A U H) (hi : i < 25) : va_O "java/lang/String" (adK i) A U H ∧ va_OF "java/lang/String" "coder" "B" (.int 0) (adK i) A U H ∧ va_OF "java/lang/String" "value" "[B" (.ref (adV i)) (adK i) A U H ∧ va_T .byte (adV i) (slT.getD i 0) (fun j => .int ((sbT.getD i []).getD j 0)) A U H := (h i hi).1 0 (by omega)
theorem vz_recv {adK adV : Nat → Nat} {A : Nat → Prop} {s : State} {H : Heap} {locs : List Loc} {i : Nat} (h : vz_S adK adV A s s.heap) (hi : i < 25) (hS : va_S A s.heap H locs) : ∃ cell : Cell, H[adK i]? = some cell ∧ cell.vm.isStatics = false ∧ s.vm.findClass "java/lang/String" = some cell.cls := vk_recv (i := 0) (h i hi) (by omega) hS
def STx (ρ : Nat → Nat) (A : Nat → Prop) (U : State) (H : Heap) : Prop := (∃ adV, vz_S (fun i => ρ (i + 2)) adV A U H) ∧ va_Z "java/lang/String" "COMPACT_STRINGS" "Z" (.int 1) A U H ∧ va_Zq "jdk/internal/util/Preconditions" "SIOOBE_FORMATTER" "Ljava/util/function/BiFunction;" A U H
def CSx (U : State) : Prop := va_Nw (.castable (excN 0) (excN 0)) U ∧ va_Nw (.castable (excN 1) (excN 1)) U ∧ va_Nw (.declares (Bundle.initS "java/lang/RuntimeException")) U ∧ va_Nw (.declares (Bundle.initS "java/lang/Exception")) U ∧ va_Nw (.declares (Bundle.initS Bundle.tN)) U ∧ va_Nc (excN 0) (excN 1) U
def GX (ρ : Nat → Nat) (A : Nat → Prop) (U : State) (H : Heap) : Prop := (∀ w ∈ nw, va_Nw w U) ∧ AOx U ∧ VKx ρ U ∧ STx ρ A U H ∧ vx_Zq Bundle.tN "UNASSIGNED_STACK" Bundle.steD A U H ∧ vx_Zq Bundle.tN "SUPPRESSED_SENTINEL" Bundle.listD A U H ∧ CSx U
theorem va_AOA.moved {u U : State} (hvm : u.vm.Alike U.vm) (h : va_AOA .int u) : va_AOA .int U := by
  obtain ⟨comp, c0, k0, h1, -⟩ := Cond.arrayOver_specA h
  have h' := h
  unfold va_AOA Cond.before at h'
  simp only [Cond.holds, Cond.value, beq_iff_eq] at h'
  rw [h1] at h'
  simp only [Option.bind_some, Option.bind_eq_some_iff, Option.map_eq_some_iff] at h'
  obtain ⟨c, hi, k, hk, hb⟩ := h'
  have hi2 := (va_idx_bare u.vm comp).trans hi
  have hbare : u.vm.bare = U.vm.bare := by first | exact hvm.bare_eq | exact hvm.bare_eq.symm
  rw [hbare] at hi2
  have hi3 := (va_idx_bare U.vm comp).symm.trans hi2
  obtain ⟨k', hk', he⟩ := hvm.2.2 _ _ hk
  have f1 : U.vm.findClass (FieldType.array .int).toString = some comp := by rw [hvm.findClass]; exact h1
  unfold va_AOA Cond.before
  simp only [Cond.holds, Cond.value, beq_iff_eq]
  rw [f1, Option.bind_some]
  refine Option.bind_eq_some_iff.mpr ⟨c, hi3, Option.map_eq_some_iff.mpr ⟨k', hk', ?_⟩⟩
  rw [he, hvm.findClass]
  exact hb
theorem AOx.moved {u U : State} (hvm : u.vm.Alike U.vm) (h : AOx u) : AOx U := ⟨va_AO.moved hvm h.1, va_AO.moved hvm h.2.1, va_AOA.moved hvm h.2.2⟩
theorem GX.blind {ρ : Nat → Nat} {A : Nat → Prop} {U : State} {g : JFrame} {mk : MethodId} {a : Array Value} (h : GX ρ A U U.heap) : GX ρ A (U.calling g mk a) (U.calling g mk a).heap := by
  obtain ⟨h1, h2, h3, ⟨⟨adV, h4⟩, h5, h6⟩, h7, h8, h9⟩ := h
  have hv : U.vm.Alike (U.calling g mk a).vm := Vm.Alike.refl U.vm
  exact ⟨fun w hw => nw_same (u := U) (U := U.calling g mk a) rfl (List.all_eq_true.mp nw_ns w hw) (h1 w hw), AOx.moved (u := U) (U := U.calling g mk a) hv h2, fun i hi => vk_R.same (u := U) (U := U.calling g mk a) rfl (h3 i hi), ⟨⟨adV, vz_S.moved (u := U) (U := U.calling g mk a) hv h4⟩, va_Z.moved (u := U) (U := U.calling g mk a) hv h5, va_Zq.moved (u := U) (U := U.calling g mk a) hv h6⟩, vx_Zq.moved (u := U) (U := U.calling g mk a) hv h7, vx_Zq.moved (u := U) (U := U.calling g mk a) hv h8,
    va_Nw.same (u := U) (U := U.calling g mk a) rfl rfl h9.1, va_Nw.same (u := U) (U := U.calling g mk a) rfl rfl h9.2.1, va_Nw.same (u := U) (U := U.calling g mk a) rfl rfl h9.2.2.1, va_Nw.same (u := U) (U := U.calling g mk a) rfl rfl h9.2.2.2.1, va_Nw.same (u := U) (U := U.calling g mk a) rfl rfl h9.2.2.2.2.1, va_Nc.moved (u := U) (U := U.calling g mk a) hv h9.2.2.2.2.2⟩
theorem GX.call {ρ : Nat → Nat} {A B : Nat → Prop} {s U : State} {H : Heap} {locs : List Loc} (h : GX ρ A s s.heap) (hS : va_S A s.heap H locs) (hAB : ∀ q, B q → A q) (hW : s.WarmedH U.vm) (hU : U.heap = H) : GX ρ B U U.heap := by
  obtain ⟨h1, h2, h3, ⟨⟨adV, h4⟩, h5, h6⟩, h7, h8, h9⟩ := h
  rw [hU]
  have hv := hW.alike
  have hq := hS.2.1
  exact ⟨fun w hw => nw_warm hW (List.all_eq_true.mp nw_ns w hw) (h1 w hw), h2.moved hv, fun i hi => vk_R.warm hW (h3 i hi), ⟨⟨adV, ((vz_S.moved hv h4).kept hq).narrow hAB⟩, ((va_Z.moved hv h5).kept hq).narrow hAB, ((va_Zq.moved hv h6).kept hq).narrow hAB⟩, ((vx_Zq.moved hv h7).kept hq).narrow hAB, ((vx_Zq.moved hv h8).kept hq).narrow hAB,
    va_Nw.warmC hW h9.1, va_Nw.warmC hW h9.2.1, va_Nw.warmD hW h9.2.2.1, va_Nw.warmD hW h9.2.2.2.1, va_Nw.warmD hW h9.2.2.2.2.1, h9.2.2.2.2.2.moved hv⟩
theorem GX.ext {ρ ρ' : Nat → Nat} {A : Nat → Prop} {s : State} {H : Heap} (h : GX ρ A s H) (he : ∀ a, a < 32 → ρ' a = ρ a) : GX ρ' A s H := by
  obtain ⟨h1, h2, h3, ⟨⟨adV, h4⟩, h5, h6⟩, h7, h8, h9⟩ := h
  refine ⟨h1, h2, fun i hi => by rw [he _ (by omega)]; exact h3 i hi, ⟨⟨adV, fun i hi => ?_⟩, h5, h6⟩, h7, h8, h9⟩
  have h8 := h4 i hi
  dsimp only at h8 ⊢
  rw [he (i + 2) (by omega)]
  exact h8
/-- the world of a callee is the caller's -/
theorem va_in {A : Nat → Prop} {ws : va_W} {H0 H : Heap} {locs : List Loc} (hD : va_D A ws) (hS : va_S A H0 H locs) (hA : ∀ q, H0.size ≤ q → A q) : ∀ q, va_A ws H.size q → A q := by
  intro q h
  rcases h with ⟨k, e, h⟩ | h
  · exact hD.2 k _ h
  · exact hA q (Nat.le_trans hS.1 h)
theorem args_at : ∀ (vs : List Value) (i k : Nat) (w : Value), (∀ v ∈ vs, v.category = 1) → vs[k]? = some w → (i + k, w) ∈ lv_args i vs
  | [], _, _, _, _, h => by simp at h
  | v :: vs, i, 0, w, _, h => by
    simp at h
    subst h
    simp [lv_args]
  | v :: vs, i, k + 1, w, hc, h => by
    have h1 := args_at vs (i + 1) k w (fun x hx => hc x (List.mem_cons_of_mem _ hx)) (by simpa using h)
    have h2 : v.category = 1 := hc v List.mem_cons_self
    simp only [lv_args, h2]
    refine List.mem_cons_of_mem _ ?_
    rw [show i + (k + 1) = i + 1 + k by omega]
    simpa using h1
theorem lg_len {vs : List Value} (h : ∀ v ∈ vs, v.category = 1) : (lg_sl vs).length = vs.length := by
  induction vs with
  | nil => rfl
  | cons v t ih =>
    have h1 : v.category = 1 := h v List.mem_cons_self
    have h2 := ih (fun x hx => h x (List.mem_cons_of_mem _ hx))
    simp only [lg_sl, List.flatMap_cons, h1] at h2 ⊢
    simp at h2 ⊢
    omega
theorem SR.cat1 {ρ : Nat → Nat} {nm : Nat} : ∀ {ar : List PV} {vs : List Value}, SR ρ nm ar vs → noL ar = true → ∀ v ∈ vs, v.category = 1
  | [], [], _, _, _, hv => nomatch hv
  | a :: ar, w :: vs, h, hn, v, hv => by
    simp only [noL, List.all_cons, Bool.and_eq_true] at hn
    rcases List.mem_cons.mp hv with rfl | hv
    · match a, h.1, hn.1 with
      | .inl i, ⟨x, e, _⟩, _ => rw [e]; rfl
      | .inr (.inr (.inl i)), ⟨e, _⟩, _ => rw [e]; rfl
    · exact SR.cat1 h.2 hn.2 v hv
  | [], _ :: _, h, _, _, _ => h.elim
  | _ :: _, [], h, _, _, _ => h.elim
theorem SR.get {ρ : Nat → Nat} {nm : Nat} : ∀ {ar : List PV} {vs : List Value} {k : Nat} {v : PV}, SR ρ nm ar vs → ar[k]? = some v → ∃ w, vs[k]? = some w ∧ VR ρ nm v w
  | a :: ar, w :: vs, 0, v, h, hk => by
    simp at hk
    subst hk
    exact ⟨w, by simp, h.1⟩
  | a :: ar, w :: vs, k + 1, v, h, hk => by
    obtain ⟨w9, h1, h2⟩ := SR.get h.2 (by simpa using hk)
    exact ⟨w9, by simpa using h1, h2⟩
  | [], _, _, _, _, hk => by simp at hk
  | _ :: _, [], _, _, h, _ => h.elim
/-- the locals at a method's entry -/
theorem LR.entry {ρ : Nat → Nat} {nm nL : Nat} {ar : List PV} {vs : List Value} (h : SR ρ nm ar vs) (hn : noL ar = true) (hl : ar.length ≤ nL) : LR ρ nm nL (ar ++ List.replicate (nL - ar.length) vU) ((lg_sl vs ++ List.replicate (nL - (lg_sl vs).length) Slot.unset).toArray) := by
  have hc := SR.cat1 h hn
  have hlen : (lg_sl vs).length = ar.length := (lg_len hc).trans h.len
  refine ⟨by simp; omega, lv_args 0 vs, lv_entry vs (by omega), fun k v hk hv => ?_⟩
  by_cases h1 : k < ar.length
  · rw [List.getElem?_append_left h1] at hk
    obtain ⟨w, h2, h3⟩ := SR.get h hk
    have h4 := args_at vs 0 k w hc h2
    rw [Nat.zero_add] at h4
    exact ⟨w, h4, h3⟩
  · rw [List.getElem?_append_right (by omega)] at hk
    have := List.mem_of_getElem? hk
    exact absurd (List.eq_of_mem_replicate this) hv
/-- a contract that returns -/
theorem met_vx {l : Launch} {y : MethodName} {ws : List Cond} {rm : Room} {Pc : Array Value → State → Prop} {Qc : Array Value → State → Outcome → State → Prop} {mc ms : Nat} {free : Addr → Prop} (h : vx_Met l y ws rm Pc Qc (fun _ _ _ => False) mc ms free) : Met l y ws rm Pc Qc mc ms free := by
  intro p e ha hc hk s m args below hf h1 h2 h3
  obtain ⟨n, o, a1, a2, a3, hQ⟩ := h p e ha hc hk s m args below hf h1 h2 h3
  refine ⟨n, o, a1, a2, a3, ?_⟩
  rcases hQ with hQ | ⟨q, -, E, ce, L, hx, -⟩
  · exact hQ
  · exact hx.elim
