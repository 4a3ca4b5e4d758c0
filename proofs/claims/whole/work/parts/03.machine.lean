/-! the pure machine -/
abbrev PS : Type := Nat × List PV × List PV × Mem × KK
abbrev RR : Type := Option PV ⊕ Nat
def w32 (z : Int) : Int := Int.bmod z 4294967296
def w64 (z : Int) : Int := Int.bmod z 18446744073709551616
def jand (a b : Int) : Int := (Int32.ofInt a &&& Int32.ofInt b).toInt
def jor (a b : Int) : Int := (Int32.ofInt a ||| Int32.ofInt b).toInt
def jxor (a b : Int) : Int := (Int32.ofInt a ^^^ Int32.ofInt b).toInt
def jshl (a b : Int) : Int := (Int32.ofInt a <<< (Int32.ofInt b &&& 31)).toInt
def jshr (a b : Int) : Int := (Int32.ofInt a >>> (Int32.ofInt b &&& 31)).toInt
def jushr (a b : Int) : Int := (((Int32.ofInt a).toUInt32 >>> ((Int32.ofInt b).toUInt32 &&& Int32.toUInt32 31)).toInt32).toInt
def jlshl (a b : Int) : Int := (Int64.ofInt a <<< ((Int32.ofInt b).toInt64 &&& 63)).toInt
def ji2c (a : Int) : Int := (((Int32.ofInt a).toUInt32 % 65536).toInt32).toInt
def jcmp (a b : Int) : Int := if b < a then 1 else if a = b then 0 else -1
def mset (M : Mem) (a k : Nat) (v : Int) : Mem := fun a' k' => if a' = a ∧ k' = k then v else M a' k'
def mcpy (M : Mem) (s : Nat) (sp : Int) (d : Nat) (dp n : Int) : Mem := fun a' k' => if a' = d ∧ dp ≤ (k' : Int) ∧ (k' : Int) < dp + n then M s ((k' : Int) - dp + sp).toNat else M a' k'
def mrow (M : Mem) (a n : Nat) : Mem := fun a' k' => if a' = a ∧ k' < n then ((a + 1 + k' : Nat) : Int) else M a' k'
def clr (v : PV) : PV := match v with
  | .inr (.inl _) => vU
  | v => v
/-- a store into local i; a long just ahead of it is gone -/
def stL : List PV → Nat → PV → List PV
  | [], _, _ => []
  | _ :: t, 0, v => v :: t
  | h :: t, 1, v => clr h :: stL t 0 v
  | h :: t, n + 2, v => h :: stL t (n + 1) v
def pcd : ClassFile.Cond → Int → Int → Bool
  | .eq, a, b => decide (a = b)
  | .ne, a, b => decide (¬ a = b)
  | .lt, a, b => decide (a < b)
  | .ge, a, b => decide (b ≤ a)
  | .gt, a, b => decide (b < a)
  | .le, a, b => decide (a ≤ b)
/-- pop ints -/
def p1 (st : List PV) (f : Int → List PV → Option PS) : Option PS := match st with
  | .inl a :: r => f a r
  | _ => none
def p2 (st : List PV) (f : Int → Int → List PV → Option PS) : Option PS := match st with
  | .inl b :: .inl a :: r => f a b r
  | _ => none
def q2 (st : List PV) (f : Int → Int → List PV → Option PS) : Option PS := match st with
  | .inr (.inl b) :: .inr (.inl a) :: r => f a b r
  | _ => none
def pA (st : List PV) (f : Nat → List PV → Option PS) : Option PS := match st with
  | .inr (.inr (.inl a)) :: r => f a r
  | _ => none
def pAI (st : List PV) (f : Nat → Int → List PV → Option PS) : Option PS := match st with
  | .inl i :: .inr (.inr (.inl a)) :: r => f a i r
  | _ => none
def ld (ls : List PV) (i t : Nat) (f : PV → Option PS) : Option PS := match ls[i]?, t with
  | some (.inl a), 0 => f (.inl a)
  | some (.inr (.inl a)), 1 => f (.inr (.inl a))
  | some (.inr (.inr (.inl a))), 2 => f (.inr (.inr (.inl a)))
  | _, _ => none
def sv (ls st : List PV) (i t : Nat) (f : List PV → List PV → Option PS) : Option PS := if i < ls.length then (match st, t with
  | .inl a :: r, 0 => f (stL ls i (.inl a)) r
  | .inr (.inl a) :: r, 1 => if i + 1 < ls.length then f (stL (stL ls i (.inr (.inl a))) (i + 1) vU |>.set i (.inr (.inl a))) r else none
  | .inr (.inr (.inl a)) :: r, 2 => f (stL ls i (.inr (.inr (.inl a)))) r
  | .inr (.inr (.inr ())) :: r, 2 => f (stL ls i vU) r
  | _, _ => none) else none
def tsw (pc : Nat) (d lo hi : Int) (os : Array Int) (i : Int) : Nat := if i < lo ∨ hi < i then ((pc : Int) + d).toNat else ((pc : Int) + (os[(i - lo).toNat]?).getD 0).toNat
def xcall (n x pc : Nat) (ls st : List PV) (M : Mem) (K : KK) : Option PS := match x, st with
  | 1000, .inr (.inr (.inl _)) :: r => if r.length ≤ 4 then some (pc + n, ls, r, M, K) else none
  | 1001, .inl b :: .inl a :: r => if r.length ≤ 4 then some (pc + n, ls, vI (if b < a then b else a) :: r, M, K) else none
  | 1002, .inl b :: .inl a :: r => if r.length ≤ 4 then some (pc + n, ls, vI (if a < b then b else a) :: r, M, K) else none
  | 1003, .inl a :: r => if r.length ≤ 4 then some (pc + n, ls, vI (if 0 ≤ a then a else w32 (-a)) :: r, M, K) else none
  | 1004, .inr (.inr (.inl a)) :: r => if (2 ≤ a ∧ a < 27) ∧ r.length ≤ 4 then some (pc + n, ls, vI ((stT.getD (a - 2) []).length) :: r, M, K) else none
  | 1005, .inl i :: .inr (.inr (.inl a)) :: r => if (2 ≤ a ∧ a < 27) ∧ (0 ≤ i ∧ i < ((stT.getD (a - 2) []).length : Int)) ∧ r.length ≤ 4 then some (pc + n, ls, vI ((stT.getD (a - 2) []).getD i.toNat 0) :: r, M, K) else none
  | 1006, .inl c :: .inl dp :: .inr (.inr (.inl d)) :: .inl sp :: .inr (.inr (.inl s)) :: r => if isO K.1 s 20 = true ∧ isO K.1 d 20 = true ∧ 0 ≤ sp ∧ 0 ≤ dp ∧ 0 ≤ c ∧ sp + c ≤ (ln s : Int) ∧ dp + c ≤ (ln d : Int) ∧ r.length ≤ 4 then some (pc + n, ls, r, mcpy M s sp d dp c, K) else none
  | _, _ => none
def stp (ins : Instr) (n x y : Nat) (z : Int) (pc : Nat) (ls st : List PV) (M : Mem) (K : KK) : Option PS := match ins with
  | .iconst i => some (pc + n, ls, vI i :: st, M, K)
  | .bipush i => some (pc + n, ls, vI i :: st, M, K)
  | .sipush i => some (pc + n, ls, vI i :: st, M, K)
  | .lconst i => some (pc + n, ls, vL ((i : Nat) : Int) :: st, M, K)
  | .ldc _ => some (pc + n, ls, (if x = 0 then vI z else vR y) :: st, M, K)
  | .ldc_w _ => some (pc + n, ls, (if x = 0 then vI z else vR y) :: st, M, K)
  | .ldc2_w _ => some (pc + n, ls, vL z :: st, M, K)
  | .iload_n i => ld ls i 0 fun v => some (pc + n, ls, v :: st, M, K)
  | .iload i => ld ls i 0 fun v => some (pc + n, ls, v :: st, M, K)
  | .lload_n i => ld ls i 1 fun v => some (pc + n, ls, v :: st, M, K)
  | .lload i => ld ls i 1 fun v => some (pc + n, ls, v :: st, M, K)
  | .aload_n i => ld ls i 2 fun v => some (pc + n, ls, v :: st, M, K)
  | .aload i => ld ls i 2 fun v => some (pc + n, ls, v :: st, M, K)
  | .istore_n i => sv ls st i 0 fun l r => some (pc + n, l, r, M, K)
  | .istore i => sv ls st i 0 fun l r => some (pc + n, l, r, M, K)
  | .lstore_n i => sv ls st i 1 fun l r => some (pc + n, l, r, M, K)
  | .lstore i => sv ls st i 1 fun l r => some (pc + n, l, r, M, K)
  | .astore_n i => sv ls st i 2 fun l r => some (pc + n, l, r, M, K)
  | .astore i => sv ls st i 2 fun l r => some (pc + n, l, r, M, K)
  | .iinc i c => match ls[i]? with
    | some (.inl a) => some (pc + n, stL ls i (vI (w32 (a + c))), st, M, K)
    | _ => none
  | .iadd => p2 st fun a b r => some (pc + n, ls, vI (w32 (a + b)) :: r, M, K)
  | .isub => p2 st fun a b r => some (pc + n, ls, vI (w32 (a - b)) :: r, M, K)
  | .imul => p2 st fun a b r => some (pc + n, ls, vI (w32 (a * b)) :: r, M, K)
  | .idiv => p2 st fun a b r => if b = 0 then none else some (pc + n, ls, vI (w32 (a.tdiv b)) :: r, M, K)
  | .irem => p2 st fun a b r => if b = 0 then none else some (pc + n, ls, vI (a.tmod b) :: r, M, K)
  | .ineg => p1 st fun a r => some (pc + n, ls, vI (w32 (-a)) :: r, M, K)
  | .iand => p2 st fun a b r => some (pc + n, ls, vI (jand a b) :: r, M, K)
  | .ior => p2 st fun a b r => some (pc + n, ls, vI (jor a b) :: r, M, K)
  | .ixor => p2 st fun a b r => some (pc + n, ls, vI (jxor a b) :: r, M, K)
  | .ishl => p2 st fun a b r => some (pc + n, ls, vI (jshl a b) :: r, M, K)
  | .ishr => p2 st fun a b r => some (pc + n, ls, vI (jshr a b) :: r, M, K)
  | .iushr => p2 st fun a b r => some (pc + n, ls, vI (jushr a b) :: r, M, K)
  | .i2c => p1 st fun a r => some (pc + n, ls, vI (ji2c a) :: r, M, K)
  | .i2l => p1 st fun a r => some (pc + n, ls, vL a :: r, M, K)
  | .ladd => q2 st fun a b r => some (pc + n, ls, vL (w64 (a + b)) :: r, M, K)
  | .lmul => q2 st fun a b r => some (pc + n, ls, vL (w64 (a * b)) :: r, M, K)
  | .ldiv => q2 st fun a b r => if b = 0 then none else some (pc + n, ls, vL (w64 (a.tdiv b)) :: r, M, K)
  | .lrem => q2 st fun a b r => if b = 0 then none else some (pc + n, ls, vL (a.tmod b) :: r, M, K)
  | .lcmp => q2 st fun a b r => some (pc + n, ls, vI (jcmp a b) :: r, M, K)
  | .lshl => match st with
    | .inl b :: .inr (.inl a) :: r => some (pc + n, ls, vL (jlshl a b) :: r, M, K)
    | _ => none
  | .dup => match st with
    | .inl a :: r => some (pc + n, ls, .inl a :: .inl a :: r, M, K)
    | .inr (.inr (.inl a)) :: r => some (pc + n, ls, vR a :: vR a :: r, M, K)
    | _ => none
  | .dup2 => match st with
    | .inl b :: .inr (.inr (.inl a)) :: r => some (pc + n, ls, vI b :: vR a :: vI b :: vR a :: r, M, K)
    | _ => none
  | .pop => match st with
    | .inl _ :: r => some (pc + n, ls, r, M, K)
    | .inr (.inr (.inl _)) :: r => some (pc + n, ls, r, M, K)
    | _ => none
  | .ifCond c _ => p1 st fun a r => some (if pcd c a 0 = true then x else pc + n, ls, r, M, K)
  | .if_icmp c _ => p2 st fun a b r => some (if pcd c a b = true then x else pc + n, ls, r, M, K)
  | .goto _ => some (x, ls, st, M, K)
  | .tableswitch d lo hi os => p1 st fun a r => some (tsw pc d lo hi os a, ls, r, M, K)
  | .getfield _ => pA st fun a r => if isO K.1 a x = true then (if z = 0 then some (pc + n, ls, vI (M a y) :: r, M, K) else if z = 1 then some (pc + n, ls, vL (M a y) :: r, M, K) else if 0 < M a y then some (pc + n, ls, vR (M a y).toNat :: r, M, K) else none) else none
  | .putfield _ => match st with
    | .inl v :: .inr (.inr (.inl a)) :: r => if isO K.1 a x = true ∧ z = 0 then some (pc + n, ls, r, mset M a y v, K) else none
    | .inr (.inl v) :: .inr (.inr (.inl a)) :: r => if isO K.1 a x = true ∧ z = 1 then some (pc + n, ls, r, mset M a y v, K) else none
    | .inr (.inr (.inl v)) :: .inr (.inr (.inl a)) :: r => if isO K.1 a x = true ∧ z = 2 ∧ 0 < v then some (pc + n, ls, r, mset M a y v, K) else none
    | _ => none
  | .iaload => pAI st fun a i r => if x = 1 then (if a = 31 ∧ 0 ≤ i ∧ i < M 30 0 then some (pc + n, ls, vI (M 31 i.toNat) :: r, M, K) else none) else if isO K.1 a 20 = true ∧ 0 ≤ i ∧ i < (ln a : Int) then some (pc + n, ls, vI (M a i.toNat) :: r, M, K) else none
  | .caload => pAI st fun a i r => if isO K.1 a 21 = true ∧ 0 ≤ i ∧ i < (ln a : Int) then some (pc + n, ls, vI (M a i.toNat) :: r, M, K) else none
  | .laload => pAI st fun a i r => if isO K.1 a 22 = true ∧ 0 ≤ i ∧ i < (ln a : Int) then some (pc + n, ls, vL (M a i.toNat) :: r, M, K) else none
  | .aaload => pAI st fun a i r => if (Nat.ble 30 (tg a) = true ∧ isO K.1 a (tg a) = true) ∧ (0 ≤ i ∧ i < (ln a : Int)) ∧ 0 < M a i.toNat then some (pc + n, ls, vR (M a i.toNat).toNat :: r, M, K) else none
  | .iastore => match st with
    | .inl v :: .inl i :: .inr (.inr (.inl a)) :: r => if isO K.1 a 20 = true ∧ 0 ≤ i ∧ i < (ln a : Int) then some (pc + n, ls, r, mset M a i.toNat v, K) else none
    | _ => none
  | .castore => match st with
    | .inl v :: .inl i :: .inr (.inr (.inl a)) :: r => if isO K.1 a 21 = true ∧ 0 ≤ i ∧ i < (ln a : Int) then some (pc + n, ls, r, mset M a i.toNat (ji2c v), K) else none
    | _ => none
  | .lastore => match st with
    | .inr (.inl v) :: .inl i :: .inr (.inr (.inl a)) :: r => if isO K.1 a 22 = true ∧ 0 ≤ i ∧ i < (ln a : Int) then some (pc + n, ls, r, mset M a i.toNat v, K) else none
    | _ => none
  | .aastore => match st with
    | .inr (.inr (.inl v)) :: .inl i :: .inr (.inr (.inl a)) :: r => if (Nat.ble 30 (tg a) = true ∧ Nat.blt (tg a) 40 = true ∧ isO K.1 a (tg a) = true) ∧ (0 ≤ i ∧ i < (ln a : Int)) ∧ 0 < v ∧ isO K.1 v (tg a - 30) = true then some (pc + n, ls, r, mset M a i.toNat v, K) else none
    | _ => none
  | .arraylength => pA st fun a r => if x = 1 then (if a = 31 then some (pc + n, ls, vI (M 30 0) :: r, M, K) else none) else if Nat.ble 20 (tg a) = true ∧ isO K.1 a (tg a) = true then some (pc + n, ls, vI (ln a) :: r, M, K) else none
  | .new _ => if tg K.1 = x ∧ x < 13 then some (pc + n, ls, vR K.1 :: st, M, (K.1 + 1, K.2.1 + 1, K.2.2 + fnT.getD x 0)) else none
  | .newarray _ => p1 st fun c r => if tg K.1 = x ∧ c = (ln K.1 : Int) then some (pc + n, ls, vR K.1 :: r, M, (K.1 + 1, K.2.1 + 1, K.2.2 + ln K.1)) else none
  | .anewarray _ => p1 st fun c r => if tg K.1 = x ∧ c = (ln K.1 : Int) then some (pc + n, ls, vR K.1 :: r, M, (K.1 + 1, K.2.1 + 1, K.2.2 + ln K.1)) else none
  | .multianewarray _ _ => p2 st fun c e r => if tg K.1 = x ∧ c = (ln K.1 : Int) ∧ e = (ln (K.1 + 1) : Int) ∧ (List.range (ln K.1)).all (fun j => Nat.beq (tg (K.1 + 1 + j)) 20 && Nat.beq (ln (K.1 + 1 + j)) (ln (K.1 + 1))) = true then some (pc + n, ls, vR K.1 :: r, mrow M K.1 (ln K.1), (K.1 + 1 + ln K.1, K.2.1 + (1 + ln K.1), K.2.2 + (ln K.1 + ln K.1 * ln (K.1 + 1)))) else none
  | .invokestatic _ => xcall n x pc ls st M K
  | .invokevirtual _ => xcall n x pc ls st M K
  | .invokespecial _ => xcall n x pc ls st M K
  | _ => none
/-- 0 a step, 1 a call of a method, 2 a return, 3 a throw -/
def knd (ins : Instr) (x : Nat) : Nat := match ins with
  | .invokestatic _ => if x < 1000 then 1 else 0
  | .invokevirtual _ => if x < 1000 then 1 else 0
  | .invokespecial _ => if x < 1000 then 1 else 0
  | .new _ => if x < 900 then 0 else 3
  | .ireturn => 2
  | .lreturn => 2
  | .areturn => 2
  | .return_ => 2
  | _ => 0
def rtv (ins : Instr) (x : Nat) (st : List PV) : Option (Option PV) := match ins, st with
  | .ireturn, [.inl a] => if x = 0 ∨ a = 0 ∨ a = 1 then some (some (.inl a)) else none
  | .lreturn, [.inr (.inl a)] => some (some (.inr (.inl a)))
  | .areturn, [.inr (.inr (.inl a))] => some (some (.inr (.inr (.inl a))))
  | .return_, [] => some none
  | _, _ => none
def noL (ar : List PV) : Bool := ar.all (fun v => match v with
  | .inl _ => true
  | .inr (.inr (.inl _)) => true
  | _ => false)
def psum : List PV → Nat
  | [] => 0
  | .inr (.inl _) :: r => 2 + psum r
  | _ :: r => 1 + psum r
def okc (x : Nat) (ar rest : List PV) (nm : Nat) : Bool := Nat.ble (psum rest) 8 && noL ar && (match ar with
  | .inr (.inr (.inl a)) :: _ => Nat.beq (rcT.getD x 0) 99 || isO nm a (rcT.getD x 0)
  | _ => Nat.beq (rcT.getD x 0) 99)
def mkL (x : Nat) (ar : List PV) : List PV := ar ++ List.replicate (mxT.getD x 0 - ar.length) vU
noncomputable def run : Nat → Nat → Nat → Nat → List PV → List PV → Mem → KK → Option (RR × Mem × KK)
  | 0, _, _, _, _, _, _, _ => none
  | f + 1, d, m, pc, ls, st, M, K => match cd m pc with
    | (ins, n, x, y, z) => match knd ins x with
      | 0 => match stp ins n x y z pc ls st M K with
        | none => none
        | some (pc', ls', st', M', K') => run f d m pc' ls' st' M' K'
      | 1 => match d with
        | 0 => none
        | d' + 1 => if st.length < y ∨ okc x (st.take y).reverse (st.drop y) K.1 = false then none else
          match run f d' x 0 (mkL x (st.take y).reverse) [] M K with
          | none => none
          | some (.inl v, M1, K1) => run f (d' + 1) m (pc + 3) ls (v.toList ++ st.drop y) M1 K1
          | some (.inr e, M1, K1) => if thT.getD x false = false then none else match hnd m pc e with
            | some h => run f (d' + 1) m h ls [vU] M1 K1
            | none => if (hT.getD m []).isEmpty then some (.inr e, M1, K1) else none
      | 2 => match rtv ins x st with
        | none => none
        | some v => some (.inl v, M, K)
      | _ => if st.length ≤ 4 then some (.inr (x - 900), M, (K.1, K.2.1 + 1, K.2.2 + 6)) else none
/-- from here the machine comes to an end with Q -/
def Wp (d m pc : Nat) (ls st : List PV) (M : Mem) (K : KK) (Q : RR → Mem → KK → Prop) : Prop := ∃ f r M' K', run f d m pc ls st M K = some (r, M', K') ∧ Q r M' K'
/-- a method, called -/
def Wm (d x : Nat) (ar : List PV) (M : Mem) (K : KK) (Q : RR → Mem → KK → Prop) : Prop := Wp d x 0 (mkL x ar) [] M K Q
