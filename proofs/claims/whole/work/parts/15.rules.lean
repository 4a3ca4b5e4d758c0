/-! rules of the pure machine, one for each instruction -/
def Ta (m pc pc' : Nat) (ins : Instr) (x y : Nat) (z : Int) : Prop := ∃ n, cd m pc = (ins, n, x, y, z) ∧ pc + n = pc'
section RU
variable {d m pc pc' : Nat} {x y : Nat} {z : Int} {ls st : List PV} {M : Mem} {K : KK} {Q : RR → Mem → KK → Prop}
theorem Wp.s {ins : Instr} {n : Nat} {q : PS} (hc : cd m pc = (ins, n, x, y, z)) (hk : knd ins x = 0) (hs : stp ins n x y z pc ls st M K = some q) (k : Wp d m q.1 q.2.1 q.2.2.1 q.2.2.2.1 q.2.2.2.2 Q) : Wp d m pc ls st M K Q := by
  obtain ⟨f, r, M', K', h, hq⟩ := k
  refine ⟨f + 1, r, M', K', ?_, hq⟩
  unfold run
  rw [hc]
  simp only [hk, hs]
  exact h
theorem r_iconst {v : Int} (c : Ta m pc pc' (.iconst v) x y z) (k : Wp d m pc' ls (vI v :: st) M K Q) : Wp d m pc ls st M K Q := by
  obtain ⟨n, hc, rfl⟩ := c; exact Wp.s hc rfl rfl k
theorem r_bipush {v : Int} (c : Ta m pc pc' (.bipush v) x y z) (k : Wp d m pc' ls (vI v :: st) M K Q) : Wp d m pc ls st M K Q := by
  obtain ⟨n, hc, rfl⟩ := c; exact Wp.s hc rfl rfl k
theorem r_sipush {v : Int} (c : Ta m pc pc' (.sipush v) x y z) (k : Wp d m pc' ls (vI v :: st) M K Q) : Wp d m pc ls st M K Q := by
  obtain ⟨n, hc, rfl⟩ := c; exact Wp.s hc rfl rfl k
theorem r_lconst {v : Fin 2} (c : Ta m pc pc' (.lconst v) x y z) (k : Wp d m pc' ls (vL ((v : Nat) : Int) :: st) M K Q) : Wp d m pc ls st M K Q := by
  obtain ⟨n, hc, rfl⟩ := c; exact Wp.s hc rfl rfl k
theorem r_ldci {i : Nat} (c : Ta m pc pc' (.ldc i) 0 y z) (k : Wp d m pc' ls (vI z :: st) M K Q) : Wp d m pc ls st M K Q := by
  obtain ⟨n, hc, rfl⟩ := c; exact Wp.s hc rfl rfl k
theorem r_ldcs {i : Nat} (c : Ta m pc pc' (.ldc i) (x + 1) y z) (k : Wp d m pc' ls (vR y :: st) M K Q) : Wp d m pc ls st M K Q := by
  obtain ⟨n, hc, rfl⟩ := c; exact Wp.s hc rfl rfl k
theorem r_ldcw {i : Nat} (c : Ta m pc pc' (.ldc_w i) 0 y z) (k : Wp d m pc' ls (vI z :: st) M K Q) : Wp d m pc ls st M K Q := by
  obtain ⟨n, hc, rfl⟩ := c; exact Wp.s hc rfl rfl k
theorem r_ldc2 {i : Nat} (c : Ta m pc pc' (.ldc2_w i) x y z) (k : Wp d m pc' ls (vL z :: st) M K Q) : Wp d m pc ls st M K Q := by
  obtain ⟨n, hc, rfl⟩ := c; exact Wp.s hc rfl rfl k
theorem ld_i {i : Nat} {a : Int} {f : PV → Option PS} (h : ls[i]? = some (vI a)) : ld ls i 0 f = f (vI a) := by unfold ld; rw [h]; rfl
theorem ld_l {i : Nat} {a : Int} {f : PV → Option PS} (h : ls[i]? = some (vL a)) : ld ls i 1 f = f (vL a) := by unfold ld; rw [h]; rfl
theorem ld_a {i a : Nat} {f : PV → Option PS} (h : ls[i]? = some (vR a)) : ld ls i 2 f = f (vR a) := by unfold ld; rw [h]; rfl
theorem r_iload {i : Nat} {a : Int} (c : Ta m pc pc' (.iload i) x y z) (h : ls[i]? = some (vI a)) (k : Wp d m pc' ls (vI a :: st) M K Q) : Wp d m pc ls st M K Q := by
  obtain ⟨n, hc, rfl⟩ := c; exact Wp.s hc rfl (by simp only [stp]; exact ld_i h) k
theorem r_iload_n {i : Fin 4} {a : Int} (c : Ta m pc pc' (.iload_n i) x y z) (h : ls[(i : Nat)]? = some (vI a)) (k : Wp d m pc' ls (vI a :: st) M K Q) : Wp d m pc ls st M K Q := by
  obtain ⟨n, hc, rfl⟩ := c; exact Wp.s hc rfl (by simp only [stp]; exact ld_i h) k
theorem r_lload {i : Nat} {a : Int} (c : Ta m pc pc' (.lload i) x y z) (h : ls[i]? = some (vL a)) (k : Wp d m pc' ls (vL a :: st) M K Q) : Wp d m pc ls st M K Q := by
  obtain ⟨n, hc, rfl⟩ := c; exact Wp.s hc rfl (by simp only [stp]; exact ld_l h) k
theorem r_lload_n {i : Fin 4} {a : Int} (c : Ta m pc pc' (.lload_n i) x y z) (h : ls[(i : Nat)]? = some (vL a)) (k : Wp d m pc' ls (vL a :: st) M K Q) : Wp d m pc ls st M K Q := by
  obtain ⟨n, hc, rfl⟩ := c; exact Wp.s hc rfl (by simp only [stp]; exact ld_l h) k
theorem r_aload {i a : Nat} (c : Ta m pc pc' (.aload i) x y z) (h : ls[i]? = some (vR a)) (k : Wp d m pc' ls (vR a :: st) M K Q) : Wp d m pc ls st M K Q := by
  obtain ⟨n, hc, rfl⟩ := c; exact Wp.s hc rfl (by simp only [stp]; exact ld_a h) k
theorem r_aload_n {i : Fin 4} {a : Nat} (c : Ta m pc pc' (.aload_n i) x y z) (h : ls[(i : Nat)]? = some (vR a)) (k : Wp d m pc' ls (vR a :: st) M K Q) : Wp d m pc ls st M K Q := by
  obtain ⟨n, hc, rfl⟩ := c; exact Wp.s hc rfl (by simp only [stp]; exact ld_a h) k
theorem r_istore {i : Nat} {a : Int} (c : Ta m pc pc' (.istore i) x y z) (h : i < ls.length) (k : Wp d m pc' (stL ls i (vI a)) st M K Q) : Wp d m pc ls (vI a :: st) M K Q := by
  obtain ⟨n, hc, rfl⟩ := c; exact Wp.s hc rfl (by simp only [stp, sv]; rw [if_pos h]) k
theorem r_istore_n {i : Fin 4} {a : Int} (c : Ta m pc pc' (.istore_n i) x y z) (h : (i : Nat) < ls.length) (k : Wp d m pc' (stL ls i (vI a)) st M K Q) : Wp d m pc ls (vI a :: st) M K Q := by
  obtain ⟨n, hc, rfl⟩ := c; exact Wp.s hc rfl (by simp only [stp, sv]; rw [if_pos h]) k
theorem r_astore {i a : Nat} (c : Ta m pc pc' (.astore i) x y z) (h : i < ls.length) (k : Wp d m pc' (stL ls i (vR a)) st M K Q) : Wp d m pc ls (vR a :: st) M K Q := by
  obtain ⟨n, hc, rfl⟩ := c; exact Wp.s hc rfl (by simp only [stp, sv]; rw [if_pos h]) k
theorem r_astore_n {i : Fin 4} {a : Nat} (c : Ta m pc pc' (.astore_n i) x y z) (h : (i : Nat) < ls.length) (k : Wp d m pc' (stL ls i (vR a)) st M K Q) : Wp d m pc ls (vR a :: st) M K Q := by
  obtain ⟨n, hc, rfl⟩ := c; exact Wp.s hc rfl (by simp only [stp, sv]; rw [if_pos h]) k
theorem r_ustore {i : Nat} (c : Ta m pc pc' (.astore i) x y z) (h : i < ls.length) (k : Wp d m pc' (stL ls i vU) st M K Q) : Wp d m pc ls (vU :: st) M K Q := by
  obtain ⟨n, hc, rfl⟩ := c; exact Wp.s hc rfl (by simp only [stp, sv]; rw [if_pos h]) k
theorem r_ustore_n {i : Fin 4} (c : Ta m pc pc' (.astore_n i) x y z) (h : (i : Nat) < ls.length) (k : Wp d m pc' (stL ls i vU) st M K Q) : Wp d m pc ls (vU :: st) M K Q := by
  obtain ⟨n, hc, rfl⟩ := c; exact Wp.s hc rfl (by simp only [stp, sv]; rw [if_pos h]) k
theorem r_lstore {i : Nat} {a : Int} (c : Ta m pc pc' (.lstore i) x y z) (h : i + 1 < ls.length) (k : Wp d m pc' (stL (stL ls i (vL a)) (i + 1) vU |>.set i (vL a)) st M K Q) : Wp d m pc ls (vL a :: st) M K Q := by
  obtain ⟨n, hc, rfl⟩ := c; exact Wp.s hc rfl (by simp only [stp, sv]; rw [if_pos (by omega), if_pos h]) k
theorem r_lstore_n {i : Fin 4} {a : Int} (c : Ta m pc pc' (.lstore_n i) x y z) (h : (i : Nat) + 1 < ls.length) (k : Wp d m pc' (stL (stL ls i (vL a)) (i + 1) vU |>.set i (vL a)) st M K Q) : Wp d m pc ls (vL a :: st) M K Q := by
  obtain ⟨n, hc, rfl⟩ := c; exact Wp.s hc rfl (by simp only [stp, sv]; rw [if_pos (by omega), if_pos h]) k
theorem r_iinc {i : Nat} {v a : Int} (c : Ta m pc pc' (.iinc i v) x y z) (h : ls[i]? = some (vI a)) (k : Wp d m pc' (stL ls i (vI (w32 (a + v)))) st M K Q) : Wp d m pc ls st M K Q := by
  obtain ⟨n, hc, rfl⟩ := c; exact Wp.s hc rfl (by simp only [stp]; rw [h]) k
theorem r_iadd {a b : Int} (c : Ta m pc pc' .iadd x y z) (k : Wp d m pc' ls (vI (w32 (a + b)) :: st) M K Q) : Wp d m pc ls (vI b :: vI a :: st) M K Q := by
  obtain ⟨n, hc, rfl⟩ := c; exact Wp.s hc rfl rfl k
theorem r_isub {a b : Int} (c : Ta m pc pc' .isub x y z) (k : Wp d m pc' ls (vI (w32 (a - b)) :: st) M K Q) : Wp d m pc ls (vI b :: vI a :: st) M K Q := by
  obtain ⟨n, hc, rfl⟩ := c; exact Wp.s hc rfl rfl k
theorem r_imul {a b : Int} (c : Ta m pc pc' .imul x y z) (k : Wp d m pc' ls (vI (w32 (a * b)) :: st) M K Q) : Wp d m pc ls (vI b :: vI a :: st) M K Q := by
  obtain ⟨n, hc, rfl⟩ := c; exact Wp.s hc rfl rfl k
theorem r_idiv {a b : Int} (c : Ta m pc pc' .idiv x y z) (h : b ≠ 0) (k : Wp d m pc' ls (vI (w32 (a.tdiv b)) :: st) M K Q) : Wp d m pc ls (vI b :: vI a :: st) M K Q := by
  obtain ⟨n, hc, rfl⟩ := c; exact Wp.s hc rfl (by simp only [stp, p2]; rw [if_neg h]) k
theorem r_irem {a b : Int} (c : Ta m pc pc' .irem x y z) (h : b ≠ 0) (k : Wp d m pc' ls (vI (a.tmod b) :: st) M K Q) : Wp d m pc ls (vI b :: vI a :: st) M K Q := by
  obtain ⟨n, hc, rfl⟩ := c; exact Wp.s hc rfl (by simp only [stp, p2]; rw [if_neg h]) k
theorem r_ineg {a : Int} (c : Ta m pc pc' .ineg x y z) (k : Wp d m pc' ls (vI (w32 (-a)) :: st) M K Q) : Wp d m pc ls (vI a :: st) M K Q := by
  obtain ⟨n, hc, rfl⟩ := c; exact Wp.s hc rfl rfl k
theorem r_iand {a b : Int} (c : Ta m pc pc' .iand x y z) (k : Wp d m pc' ls (vI (jand a b) :: st) M K Q) : Wp d m pc ls (vI b :: vI a :: st) M K Q := by
  obtain ⟨n, hc, rfl⟩ := c; exact Wp.s hc rfl rfl k
theorem r_ior {a b : Int} (c : Ta m pc pc' .ior x y z) (k : Wp d m pc' ls (vI (jor a b) :: st) M K Q) : Wp d m pc ls (vI b :: vI a :: st) M K Q := by
  obtain ⟨n, hc, rfl⟩ := c; exact Wp.s hc rfl rfl k
theorem r_ixor {a b : Int} (c : Ta m pc pc' .ixor x y z) (k : Wp d m pc' ls (vI (jxor a b) :: st) M K Q) : Wp d m pc ls (vI b :: vI a :: st) M K Q := by
  obtain ⟨n, hc, rfl⟩ := c; exact Wp.s hc rfl rfl k
theorem r_ishl {a b : Int} (c : Ta m pc pc' .ishl x y z) (k : Wp d m pc' ls (vI (jshl a b) :: st) M K Q) : Wp d m pc ls (vI b :: vI a :: st) M K Q := by
  obtain ⟨n, hc, rfl⟩ := c; exact Wp.s hc rfl rfl k
theorem r_ishr {a b : Int} (c : Ta m pc pc' .ishr x y z) (k : Wp d m pc' ls (vI (jshr a b) :: st) M K Q) : Wp d m pc ls (vI b :: vI a :: st) M K Q := by
  obtain ⟨n, hc, rfl⟩ := c; exact Wp.s hc rfl rfl k
theorem r_iushr {a b : Int} (c : Ta m pc pc' .iushr x y z) (k : Wp d m pc' ls (vI (jushr a b) :: st) M K Q) : Wp d m pc ls (vI b :: vI a :: st) M K Q := by
  obtain ⟨n, hc, rfl⟩ := c; exact Wp.s hc rfl rfl k
theorem r_i2c {a : Int} (c : Ta m pc pc' .i2c x y z) (k : Wp d m pc' ls (vI (ji2c a) :: st) M K Q) : Wp d m pc ls (vI a :: st) M K Q := by
  obtain ⟨n, hc, rfl⟩ := c; exact Wp.s hc rfl rfl k
theorem r_i2l {a : Int} (c : Ta m pc pc' .i2l x y z) (k : Wp d m pc' ls (vL a :: st) M K Q) : Wp d m pc ls (vI a :: st) M K Q := by
  obtain ⟨n, hc, rfl⟩ := c; exact Wp.s hc rfl rfl k
theorem r_ladd {a b : Int} (c : Ta m pc pc' .ladd x y z) (k : Wp d m pc' ls (vL (w64 (a + b)) :: st) M K Q) : Wp d m pc ls (vL b :: vL a :: st) M K Q := by
  obtain ⟨n, hc, rfl⟩ := c; exact Wp.s hc rfl rfl k
theorem r_lmul {a b : Int} (c : Ta m pc pc' .lmul x y z) (k : Wp d m pc' ls (vL (w64 (a * b)) :: st) M K Q) : Wp d m pc ls (vL b :: vL a :: st) M K Q := by
  obtain ⟨n, hc, rfl⟩ := c; exact Wp.s hc rfl rfl k
theorem r_ldiv {a b : Int} (c : Ta m pc pc' .ldiv x y z) (h : b ≠ 0) (k : Wp d m pc' ls (vL (w64 (a.tdiv b)) :: st) M K Q) : Wp d m pc ls (vL b :: vL a :: st) M K Q := by
  obtain ⟨n, hc, rfl⟩ := c; exact Wp.s hc rfl (by simp only [stp, q2]; rw [if_neg h]) k
theorem r_lrem {a b : Int} (c : Ta m pc pc' .lrem x y z) (h : b ≠ 0) (k : Wp d m pc' ls (vL (a.tmod b) :: st) M K Q) : Wp d m pc ls (vL b :: vL a :: st) M K Q := by
  obtain ⟨n, hc, rfl⟩ := c; exact Wp.s hc rfl (by simp only [stp, q2]; rw [if_neg h]) k
theorem r_lcmp {a b : Int} (c : Ta m pc pc' .lcmp x y z) (k : Wp d m pc' ls (vI (jcmp a b) :: st) M K Q) : Wp d m pc ls (vL b :: vL a :: st) M K Q := by
  obtain ⟨n, hc, rfl⟩ := c; exact Wp.s hc rfl rfl k
theorem r_lshl {a b : Int} (c : Ta m pc pc' .lshl x y z) (k : Wp d m pc' ls (vL (jlshl a b) :: st) M K Q) : Wp d m pc ls (vI b :: vL a :: st) M K Q := by
  obtain ⟨n, hc, rfl⟩ := c; exact Wp.s hc rfl rfl k
theorem r_dupi {a : Int} (c : Ta m pc pc' .dup x y z) (k : Wp d m pc' ls (vI a :: vI a :: st) M K Q) : Wp d m pc ls (vI a :: st) M K Q := by
  obtain ⟨n, hc, rfl⟩ := c; exact Wp.s hc rfl rfl k
theorem r_dupr {a : Nat} (c : Ta m pc pc' .dup x y z) (k : Wp d m pc' ls (vR a :: vR a :: st) M K Q) : Wp d m pc ls (vR a :: st) M K Q := by
  obtain ⟨n, hc, rfl⟩ := c; exact Wp.s hc rfl rfl k
theorem r_dup2 {a : Nat} {b : Int} (c : Ta m pc pc' .dup2 x y z) (k : Wp d m pc' ls (vI b :: vR a :: vI b :: vR a :: st) M K Q) : Wp d m pc ls (vI b :: vR a :: st) M K Q := by
  obtain ⟨n, hc, rfl⟩ := c; exact Wp.s hc rfl rfl k
theorem r_popi {a : Int} (c : Ta m pc pc' .pop x y z) (k : Wp d m pc' ls st M K Q) : Wp d m pc ls (vI a :: st) M K Q := by
  obtain ⟨n, hc, rfl⟩ := c; exact Wp.s hc rfl rfl k
theorem r_popr {a : Nat} (c : Ta m pc pc' .pop x y z) (k : Wp d m pc' ls st M K Q) : Wp d m pc ls (vR a :: st) M K Q := by
  obtain ⟨n, hc, rfl⟩ := c; exact Wp.s hc rfl rfl k
theorem r_goto {o : Int} (c : Ta m pc pc' (.goto o) x y z) (k : Wp d m x ls st M K Q) : Wp d m pc ls st M K Q := by
  obtain ⟨n, hc, rfl⟩ := c; exact Wp.s hc rfl rfl k
theorem r_if {cc : ClassFile.Cond} {o a : Int} (c : Ta m pc pc' (.ifCond cc o) x y z) (k1 : pcd cc a 0 = true → Wp d m x ls st M K Q) (k2 : ¬ pcd cc a 0 = true → Wp d m pc' ls st M K Q) : Wp d m pc ls (vI a :: st) M K Q := by
  obtain ⟨n, hc, rfl⟩ := c
  by_cases h : pcd cc a 0 = true
  · exact Wp.s hc rfl (by simp only [stp, p1]; rw [if_pos h]) (k1 h)
  · exact Wp.s hc rfl (by simp only [stp, p1]; rw [if_neg h]) (k2 h)
theorem r_icmp {cc : ClassFile.Cond} {o a b : Int} (c : Ta m pc pc' (.if_icmp cc o) x y z) (k1 : pcd cc a b = true → Wp d m x ls st M K Q) (k2 : ¬ pcd cc a b = true → Wp d m pc' ls st M K Q) : Wp d m pc ls (vI b :: vI a :: st) M K Q := by
  obtain ⟨n, hc, rfl⟩ := c
  by_cases h : pcd cc a b = true
  · exact Wp.s hc rfl (by simp only [stp, p2]; rw [if_pos h]) (k1 h)
  · exact Wp.s hc rfl (by simp only [stp, p2]; rw [if_neg h]) (k2 h)
theorem r_tsw {dd lo hi a : Int} {os : Array Int} (c : Ta m pc pc' (.tableswitch dd lo hi os) x y z) (k : Wp d m (tsw pc dd lo hi os a) ls st M K Q) : Wp d m pc ls (vI a :: st) M K Q := by
  obtain ⟨n, hc, rfl⟩ := c; exact Wp.s hc rfl rfl k
theorem r_getI {a i : Nat} (c : Ta m pc pc' (.getfield i) x y 0) (h : isO K.1 a x = true) (k : Wp d m pc' ls (vI (M a y) :: st) M K Q) : Wp d m pc ls (vR a :: st) M K Q := by
  obtain ⟨n, hc, rfl⟩ := c; exact Wp.s hc rfl (by simp only [stp, pA]; rw [if_pos h]; rfl) k
theorem r_getL {a i : Nat} (c : Ta m pc pc' (.getfield i) x y 1) (h : isO K.1 a x = true) (k : Wp d m pc' ls (vL (M a y) :: st) M K Q) : Wp d m pc ls (vR a :: st) M K Q := by
  obtain ⟨n, hc, rfl⟩ := c; exact Wp.s hc rfl (by simp only [stp, pA]; rw [if_pos h]; rfl) k
theorem r_getR {a i b : Nat} (c : Ta m pc pc' (.getfield i) x y 2) (h : isO K.1 a x = true) (hb : M a y = (b : Int)) (h0 : 0 < b) (k : Wp d m pc' ls (vR b :: st) M K Q) : Wp d m pc ls (vR a :: st) M K Q := by
  obtain ⟨n, hc, rfl⟩ := c
  refine Wp.s hc rfl (q := (pc + n, ls, vR b :: st, M, K)) ?_ k
  simp only [stp, pA]
  rw [if_pos h, if_neg (by decide), if_neg (by decide), hb, if_pos (by omega)]
  rfl
theorem r_putI {a i : Nat} {v : Int} (c : Ta m pc pc' (.putfield i) x y 0) (h : isO K.1 a x = true) (k : Wp d m pc' ls st (mset M a y v) K Q) : Wp d m pc ls (vI v :: vR a :: st) M K Q := by
  obtain ⟨n, hc, rfl⟩ := c; exact Wp.s hc rfl (by simp only [stp]; rw [if_pos ⟨h, trivial⟩]) k
theorem r_putL {a i : Nat} {v : Int} (c : Ta m pc pc' (.putfield i) x y 1) (h : isO K.1 a x = true) (k : Wp d m pc' ls st (mset M a y v) K Q) : Wp d m pc ls (vL v :: vR a :: st) M K Q := by
  obtain ⟨n, hc, rfl⟩ := c; exact Wp.s hc rfl (by simp only [stp]; rw [if_pos ⟨h, trivial⟩]) k
theorem r_putR {a i v : Nat} (c : Ta m pc pc' (.putfield i) x y 2) (h : isO K.1 a x = true) (h0 : 0 < v) (k : Wp d m pc' ls st (mset M a y v) K Q) : Wp d m pc ls (vR v :: vR a :: st) M K Q := by
  obtain ⟨n, hc, rfl⟩ := c; exact Wp.s hc rfl (by simp only [stp]; rw [if_pos ⟨h, trivial, h0⟩]) k
theorem r_ia {a : Nat} {i : Int} (c : Ta m pc pc' .iaload 0 y z) (h : isO K.1 a 20 = true) (hi : 0 ≤ i ∧ i < (ln a : Int)) (k : Wp d m pc' ls (vI (M a i.toNat) :: st) M K Q) : Wp d m pc ls (vI i :: vR a :: st) M K Q := by
  obtain ⟨n, hc, rfl⟩ := c
  refine Wp.s hc rfl (q := (pc + n, ls, vI (M a i.toNat) :: st, M, K)) ?_ k
  simp only [stp, pAI]
  rw [if_neg (by decide), if_pos ⟨h, hi⟩]
theorem r_iax {i : Int} (c : Ta m pc pc' .iaload 1 y z) (hi : 0 ≤ i ∧ i < M 30 0) (k : Wp d m pc' ls (vI (M 31 i.toNat) :: st) M K Q) : Wp d m pc ls (vI i :: vR 31 :: st) M K Q := by
  obtain ⟨n, hc, rfl⟩ := c
  refine Wp.s hc rfl (q := (pc + n, ls, vI (M 31 i.toNat) :: st, M, K)) ?_ k
  simp only [stp, pAI]
  rw [if_pos trivial, if_pos ⟨trivial, hi⟩]
theorem r_ca {a : Nat} {i : Int} (c : Ta m pc pc' .caload x y z) (h : isO K.1 a 21 = true) (hi : 0 ≤ i ∧ i < (ln a : Int)) (k : Wp d m pc' ls (vI (M a i.toNat) :: st) M K Q) : Wp d m pc ls (vI i :: vR a :: st) M K Q := by
  obtain ⟨n, hc, rfl⟩ := c; exact Wp.s hc rfl (by simp only [stp, pAI]; rw [if_pos ⟨h, hi⟩]) k
theorem r_la {a : Nat} {i : Int} (c : Ta m pc pc' .laload x y z) (h : isO K.1 a 22 = true) (hi : 0 ≤ i ∧ i < (ln a : Int)) (k : Wp d m pc' ls (vL (M a i.toNat) :: st) M K Q) : Wp d m pc ls (vI i :: vR a :: st) M K Q := by
  obtain ⟨n, hc, rfl⟩ := c; exact Wp.s hc rfl (by simp only [stp, pAI]; rw [if_pos ⟨h, hi⟩]) k
theorem r_aa {a b : Nat} {i : Int} (c : Ta m pc pc' .aaload x y z) (h : Nat.ble 30 (tg a) = true ∧ isO K.1 a (tg a) = true) (hi : 0 ≤ i ∧ i < (ln a : Int)) (hb : M a i.toNat = (b : Int)) (h0 : 0 < b) (k : Wp d m pc' ls (vR b :: st) M K Q) : Wp d m pc ls (vI i :: vR a :: st) M K Q := by
  obtain ⟨n, hc, rfl⟩ := c
  refine Wp.s hc rfl (q := (pc + n, ls, vR b :: st, M, K)) ?_ k
  simp only [stp, pAI]
  rw [hb, if_pos ⟨h, hi, by omega⟩]
  rfl
theorem r_ias {a : Nat} {i v : Int} (c : Ta m pc pc' .iastore x y z) (h : isO K.1 a 20 = true) (hi : 0 ≤ i ∧ i < (ln a : Int)) (k : Wp d m pc' ls st (mset M a i.toNat v) K Q) : Wp d m pc ls (vI v :: vI i :: vR a :: st) M K Q := by
  obtain ⟨n, hc, rfl⟩ := c; exact Wp.s hc rfl (by simp only [stp]; rw [if_pos ⟨h, hi⟩]) k
theorem r_cas {a : Nat} {i v : Int} (c : Ta m pc pc' .castore x y z) (h : isO K.1 a 21 = true) (hi : 0 ≤ i ∧ i < (ln a : Int)) (k : Wp d m pc' ls st (mset M a i.toNat (ji2c v)) K Q) : Wp d m pc ls (vI v :: vI i :: vR a :: st) M K Q := by
  obtain ⟨n, hc, rfl⟩ := c; exact Wp.s hc rfl (by simp only [stp]; rw [if_pos ⟨h, hi⟩]) k
theorem r_las {a : Nat} {i v : Int} (c : Ta m pc pc' .lastore x y z) (h : isO K.1 a 22 = true) (hi : 0 ≤ i ∧ i < (ln a : Int)) (k : Wp d m pc' ls st (mset M a i.toNat v) K Q) : Wp d m pc ls (vL v :: vI i :: vR a :: st) M K Q := by
  obtain ⟨n, hc, rfl⟩ := c; exact Wp.s hc rfl (by simp only [stp]; rw [if_pos ⟨h, hi⟩]) k
theorem r_aas {a v : Nat} {i : Int} (c : Ta m pc pc' .aastore x y z) (h : Nat.ble 30 (tg a) = true ∧ Nat.blt (tg a) 40 = true ∧ isO K.1 a (tg a) = true) (hi : 0 ≤ i ∧ i < (ln a : Int)) (h0 : 0 < v) (hv : isO K.1 v (tg a - 30) = true) (k : Wp d m pc' ls st (mset M a i.toNat v) K Q) : Wp d m pc ls (vR v :: vI i :: vR a :: st) M K Q := by
  obtain ⟨n, hc, rfl⟩ := c; exact Wp.s hc rfl (by simp only [stp]; rw [if_pos ⟨h, hi, h0, hv⟩]) k
theorem r_alen {a : Nat} (c : Ta m pc pc' .arraylength 0 y z) (h : Nat.ble 20 (tg a) = true ∧ isO K.1 a (tg a) = true) (k : Wp d m pc' ls (vI (ln a) :: st) M K Q) : Wp d m pc ls (vR a :: st) M K Q := by
  obtain ⟨n, hc, rfl⟩ := c
  refine Wp.s hc rfl (q := (pc + n, ls, vI (ln a) :: st, M, K)) ?_ k
  simp only [stp, pA]
  rw [if_neg (by decide), if_pos h]
theorem r_alenx (c : Ta m pc pc' .arraylength 1 y z) (k : Wp d m pc' ls (vI (M 30 0) :: st) M K Q) : Wp d m pc ls (vR 31 :: st) M K Q := by
  obtain ⟨n, hc, rfl⟩ := c
  refine Wp.s hc rfl (q := (pc + n, ls, vI (M 30 0) :: st, M, K)) ?_ k
  simp only [stp, pA]
  rw [if_pos trivial, if_pos trivial]
theorem r_new {i : Nat} (c : Ta m pc pc' (.new i) x y z) (h : tg K.1 = x ∧ x < 13) (k : Wp d m pc' ls (vR K.1 :: st) M (K.1 + 1, K.2.1 + 1, K.2.2 + fnT.getD x 0) Q) : Wp d m pc ls st M K Q := by
  obtain ⟨n, hc, rfl⟩ := c
  exact Wp.s hc (by simp only [knd]; rw [if_pos (by omega)]) (by simp only [stp]; rw [if_pos h]) k
theorem r_newarray {t} {v : Int} (c : Ta m pc pc' (.newarray t) x y z) (h : tg K.1 = x ∧ v = (ln K.1 : Int)) (k : Wp d m pc' ls (vR K.1 :: st) M (K.1 + 1, K.2.1 + 1, K.2.2 + ln K.1) Q) : Wp d m pc ls (vI v :: st) M K Q := by
  obtain ⟨n, hc, rfl⟩ := c; exact Wp.s hc rfl (by simp only [stp, p1]; rw [if_pos h]) k
theorem r_anewarray {i : Nat} {v : Int} (c : Ta m pc pc' (.anewarray i) x y z) (h : tg K.1 = x ∧ v = (ln K.1 : Int)) (k : Wp d m pc' ls (vR K.1 :: st) M (K.1 + 1, K.2.1 + 1, K.2.2 + ln K.1) Q) : Wp d m pc ls (vI v :: st) M K Q := by
  obtain ⟨n, hc, rfl⟩ := c; exact Wp.s hc rfl (by simp only [stp, p1]; rw [if_pos h]) k
theorem r_iret {a : Int} {ls : List PV} (c : Ta m pc pc' .ireturn x y z) (h : x = 0 ∨ a = 0 ∨ a = 1) (k : Q (.inl (some (vI a))) M K) : Wp d m pc ls [vI a] M K Q := by
  obtain ⟨n, hc, rfl⟩ := c
  refine ⟨1, _, _, _, ?_, k⟩
  unfold run
  rw [hc]
  simp only [knd, rtv]
  rw [if_pos h]
theorem r_lret {a : Int} (c : Ta m pc pc' .lreturn x y z) (k : Q (.inl (some (vL a))) M K) : Wp d m pc ls [vL a] M K Q := by
  obtain ⟨n, hc, rfl⟩ := c
  exact ⟨1, _, _, _, by unfold run; rw [hc]; rfl, k⟩
theorem r_aret {a : Nat} (c : Ta m pc pc' .areturn x y z) (k : Q (.inl (some (vR a))) M K) : Wp d m pc ls [vR a] M K Q := by
  obtain ⟨n, hc, rfl⟩ := c
  exact ⟨1, _, _, _, by unfold run; rw [hc]; rfl, k⟩
theorem r_ret (c : Ta m pc pc' .return_ x y z) (k : Q (.inl none) M K) : Wp d m pc ls [] M K Q := by
  obtain ⟨n, hc, rfl⟩ := c
  exact ⟨1, _, _, _, by unfold run; rw [hc]; rfl, k⟩
theorem r_throw {i e : Nat} (c : Ta m pc pc' (.new i) (e + 900) y z) (h : st.length ≤ 4) (k : Q (.inr e) M (K.1, K.2.1 + 1, K.2.2 + 6)) : Wp d m pc ls st M K Q := by
  obtain ⟨n, hc, rfl⟩ := c
  refine ⟨1, _, _, _, ?_, k⟩
  unfold run
  rw [hc]
  simp only [knd]
  rw [if_neg (by omega)]
  simp only []
  rw [if_pos h]
  simp
end RU
