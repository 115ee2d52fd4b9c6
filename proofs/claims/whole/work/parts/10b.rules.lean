/-! ===== rows to rewrite by ===== -/
section RW
variable (sh : mm_S) (call : mm_C) (tb : List mm_E) (Q : mm_Q) (K : mm_K) (n : Nat) (es : List mm_E) (k i : Nat) (lo st : List Value) (I : mm_I) (L : mm_L) (e : mm_E) (b l x y u w : Nat) (ins : Instr) (z : Int) (ts : List Nat) (hd : Bool) (a : Int32) (c : Int32) (r : Nat) (al bl : Int64) (t : List Value) (vv : Value) (j : Nat) (off : Int)
theorem mr_v1 : mm_vn sh call tb Q n (e :: es) (k + 1) i lo st I L = mm_vn sh call tb Q n es k i lo st I L := rfl
theorem mr_v2 : mm_vn sh call tb Q n ((b, ins, l, true, x, y, u, w, z, ts) :: es) 0 i lo st I L = mm_W sh call tb Q i lo st I L := rfl
theorem mr_v3 : mm_vn sh call tb Q n ((b, ins, l, false, x, y, u, w, z, ts) :: es) 0 i lo st I L = mm_st sh call Q (mm_v sh call tb Q n) ins x y u w z ts i lo st I L := rfl
theorem mr_h1 : mm_hn sh call tb Q n (e :: es) (k + 1) i lo st I L = mm_hn sh call tb Q n es k i lo st I L := rfl
theorem mr_h2 : mm_hn sh call tb Q n ((b, ins, l, hd, x, y, u, w, z, ts) :: es) 0 i lo st I L = mm_st sh call Q (mm_v sh call tb Q n) ins x y u w z ts i lo st I L := rfl
theorem mr_aload : mm_st sh call Q K (.aload j) x y u w z ts i lo st I L = mm_lda lo j (fun a => K (i + 1) lo (.ref a :: st) I L) := rfl
theorem mr_aload_0 : mm_st sh call Q K (.aload_n 0) x y u w z ts i lo st I L = mm_lda lo 0 (fun a => K (i + 1) lo (.ref a :: st) I L) := rfl
theorem mr_aload_1 : mm_st sh call Q K (.aload_n 1) x y u w z ts i lo st I L = mm_lda lo 1 (fun a => K (i + 1) lo (.ref a :: st) I L) := rfl
theorem mr_aload_2 : mm_st sh call Q K (.aload_n 2) x y u w z ts i lo st I L = mm_lda lo 2 (fun a => K (i + 1) lo (.ref a :: st) I L) := rfl
theorem mr_aload_3 : mm_st sh call Q K (.aload_n 3) x y u w z ts i lo st I L = mm_lda lo 3 (fun a => K (i + 1) lo (.ref a :: st) I L) := rfl
theorem mr_iload : mm_st sh call Q K (.iload j) x y u w z ts i lo st I L = mm_ldi lo j (fun a => K (i + 1) lo (.int a :: st) I L) := rfl
theorem mr_iload_0 : mm_st sh call Q K (.iload_n 0) x y u w z ts i lo st I L = mm_ldi lo 0 (fun a => K (i + 1) lo (.int a :: st) I L) := rfl
theorem mr_iload_1 : mm_st sh call Q K (.iload_n 1) x y u w z ts i lo st I L = mm_ldi lo 1 (fun a => K (i + 1) lo (.int a :: st) I L) := rfl
theorem mr_iload_2 : mm_st sh call Q K (.iload_n 2) x y u w z ts i lo st I L = mm_ldi lo 2 (fun a => K (i + 1) lo (.int a :: st) I L) := rfl
theorem mr_iload_3 : mm_st sh call Q K (.iload_n 3) x y u w z ts i lo st I L = mm_ldi lo 3 (fun a => K (i + 1) lo (.int a :: st) I L) := rfl
theorem mr_lload : mm_st sh call Q K (.lload j) x y u w z ts i lo st I L = mm_ldl lo j (fun a => K (i + 1) lo (.long a :: st) I L) := rfl
theorem mr_lload_0 : mm_st sh call Q K (.lload_n 0) x y u w z ts i lo st I L = mm_ldl lo 0 (fun a => K (i + 1) lo (.long a :: st) I L) := rfl
theorem mr_lload_1 : mm_st sh call Q K (.lload_n 1) x y u w z ts i lo st I L = mm_ldl lo 1 (fun a => K (i + 1) lo (.long a :: st) I L) := rfl
theorem mr_lload_2 : mm_st sh call Q K (.lload_n 2) x y u w z ts i lo st I L = mm_ldl lo 2 (fun a => K (i + 1) lo (.long a :: st) I L) := rfl
theorem mr_lload_3 : mm_st sh call Q K (.lload_n 3) x y u w z ts i lo st I L = mm_ldl lo 3 (fun a => K (i + 1) lo (.long a :: st) I L) := rfl
theorem mr_lda0 (k : Nat → Prop) (a : Nat) : mm_lda (.ref a :: lo) 0 k = k a := rfl
theorem mr_lda1 (k : Nat → Prop) : mm_lda (vv :: lo) (n + 1) k = mm_lda lo n k := rfl
theorem mr_ldi0 (k : Int32 → Prop) (a : Int32) : mm_ldi (.int a :: lo) 0 k = k a := rfl
theorem mr_ldi1 (k : Int32 → Prop) : mm_ldi (vv :: lo) (n + 1) k = mm_ldi lo n k := rfl
theorem mr_ldl0 (k : Int64 → Prop) (a : Int64) : mm_ldl (.long a :: lo) 0 k = k a := rfl
theorem mr_ldl1 (k : Int64 → Prop) : mm_ldl (vv :: lo) (n + 1) k = mm_ldl lo n k := rfl
theorem mr_istore : mm_st sh call Q K (.istore j) x y u w z ts i lo (.int a :: t) I L = (j < lo.length ∧ K (i + 1) (mm_set1 lo j (.int a)) t I L) := rfl
theorem mr_istore_0 : mm_st sh call Q K (.istore_n 0) x y u w z ts i lo (.int a :: t) I L = (0 < lo.length ∧ K (i + 1) (mm_set1 lo 0 (.int a)) t I L) := rfl
theorem mr_istore_1 : mm_st sh call Q K (.istore_n 1) x y u w z ts i lo (.int a :: t) I L = (1 < lo.length ∧ K (i + 1) (mm_set1 lo 1 (.int a)) t I L) := rfl
theorem mr_istore_2 : mm_st sh call Q K (.istore_n 2) x y u w z ts i lo (.int a :: t) I L = (2 < lo.length ∧ K (i + 1) (mm_set1 lo 2 (.int a)) t I L) := rfl
theorem mr_istore_3 : mm_st sh call Q K (.istore_n 3) x y u w z ts i lo (.int a :: t) I L = (3 < lo.length ∧ K (i + 1) (mm_set1 lo 3 (.int a)) t I L) := rfl
theorem mr_astore : mm_st sh call Q K (.astore j) x y u w z ts i lo (.ref r :: t) I L = (j < lo.length ∧ K (i + 1) (mm_set1 lo j (.ref r)) t I L) := rfl
theorem mr_astore_0 : mm_st sh call Q K (.astore_n 0) x y u w z ts i lo (.ref r :: t) I L = (0 < lo.length ∧ K (i + 1) (mm_set1 lo 0 (.ref r)) t I L) := rfl
theorem mr_astore_1 : mm_st sh call Q K (.astore_n 1) x y u w z ts i lo (.ref r :: t) I L = (1 < lo.length ∧ K (i + 1) (mm_set1 lo 1 (.ref r)) t I L) := rfl
theorem mr_astore_2 : mm_st sh call Q K (.astore_n 2) x y u w z ts i lo (.ref r :: t) I L = (2 < lo.length ∧ K (i + 1) (mm_set1 lo 2 (.ref r)) t I L) := rfl
theorem mr_astore_3 : mm_st sh call Q K (.astore_n 3) x y u w z ts i lo (.ref r :: t) I L = (3 < lo.length ∧ K (i + 1) (mm_set1 lo 3 (.ref r)) t I L) := rfl
theorem mr_lstore : mm_st sh call Q K (.lstore j) x y u w z ts i lo (.long al :: t) I L = (j + 1 < lo.length ∧ K (i + 1) (mm_set2 lo j (.long al)) t I L) := rfl
theorem mr_lstore_0 : mm_st sh call Q K (.lstore_n 0) x y u w z ts i lo (.long al :: t) I L = (1 < lo.length ∧ K (i + 1) (mm_set2 lo 0 (.long al)) t I L) := rfl
theorem mr_lstore_1 : mm_st sh call Q K (.lstore_n 1) x y u w z ts i lo (.long al :: t) I L = (2 < lo.length ∧ K (i + 1) (mm_set2 lo 1 (.long al)) t I L) := rfl
theorem mr_lstore_2 : mm_st sh call Q K (.lstore_n 2) x y u w z ts i lo (.long al :: t) I L = (3 < lo.length ∧ K (i + 1) (mm_set2 lo 2 (.long al)) t I L) := rfl
theorem mr_lstore_3 : mm_st sh call Q K (.lstore_n 3) x y u w z ts i lo (.long al :: t) I L = (4 < lo.length ∧ K (i + 1) (mm_set2 lo 3 (.long al)) t I L) := rfl
theorem mr_iinc : mm_st sh call Q K (.iinc j off) x y u w z ts i lo st I L = mm_ldi lo j (fun a => K (i + 1) (mm_set1 lo j (.int (a + Int32.ofInt off))) st I L) := rfl
theorem mr_iconst : mm_st sh call Q K (.iconst off) x y u w z ts i lo st I L = K (i + 1) lo (.int (Int32.ofInt off) :: st) I L := rfl
theorem mr_bipush : mm_st sh call Q K (.bipush off) x y u w z ts i lo st I L = K (i + 1) lo (.int (Int8.ofInt off).toInt32 :: st) I L := rfl
theorem mr_sipush : mm_st sh call Q K (.sipush off) x y u w z ts i lo st I L = K (i + 1) lo (.int (Int16.ofInt off).toInt32 :: st) I L := rfl
theorem mr_lconst0 : mm_st sh call Q K (.lconst 0) x y u w z ts i lo st I L = K (i + 1) lo (.long 0 :: st) I L := rfl
theorem mr_lconst1 : mm_st sh call Q K (.lconst 1) x y u w z ts i lo st I L = K (i + 1) lo (.long 1 :: st) I L := rfl
theorem mr_ldc : mm_st sh call Q K (.ldc j) x y u w z ts i lo st I L = K (i + 1) lo (.int (Int32.ofInt z) :: st) I L := rfl
theorem mr_ldcw : mm_st sh call Q K (.ldc_w j) x y u w z ts i lo st I L = K (i + 1) lo (.int (Int32.ofInt z) :: st) I L := rfl
theorem mr_ldc2 : mm_st sh call Q K (.ldc2_w j) x y u w z ts i lo st I L = K (i + 1) lo (.long (Int64.ofInt z) :: st) I L := rfl
theorem mr_iadd : mm_st sh call Q K (.iadd) x y u w z ts i lo (.int c :: .int a :: t) I L = K (i + 1) lo (.int (a + c) :: t) I L := rfl
theorem mr_isub : mm_st sh call Q K (.isub) x y u w z ts i lo (.int c :: .int a :: t) I L = K (i + 1) lo (.int (a - c) :: t) I L := rfl
theorem mr_imul : mm_st sh call Q K (.imul) x y u w z ts i lo (.int c :: .int a :: t) I L = K (i + 1) lo (.int (a * c) :: t) I L := rfl
theorem mr_iand : mm_st sh call Q K (.iand) x y u w z ts i lo (.int c :: .int a :: t) I L = K (i + 1) lo (.int (a &&& c) :: t) I L := rfl
theorem mr_ior : mm_st sh call Q K (.ior) x y u w z ts i lo (.int c :: .int a :: t) I L = K (i + 1) lo (.int (a ||| c) :: t) I L := rfl
theorem mr_ixor : mm_st sh call Q K (.ixor) x y u w z ts i lo (.int c :: .int a :: t) I L = K (i + 1) lo (.int (a ^^^ c) :: t) I L := rfl
theorem mr_ishl : mm_st sh call Q K (.ishl) x y u w z ts i lo (.int c :: .int a :: t) I L = K (i + 1) lo (.int (a <<< (c &&& 31)) :: t) I L := rfl
theorem mr_ishr : mm_st sh call Q K (.ishr) x y u w z ts i lo (.int c :: .int a :: t) I L = K (i + 1) lo (.int (a >>> (c &&& 31)) :: t) I L := rfl
theorem mr_iushr : mm_st sh call Q K (.iushr) x y u w z ts i lo (.int c :: .int a :: t) I L = K (i + 1) lo (.int ((a.toUInt32 >>> (c.toUInt32 &&& Int32.toUInt32 31)).toInt32) :: t) I L := rfl
theorem mr_idiv : mm_st sh call Q K (.idiv) x y u w z ts i lo (.int c :: .int a :: t) I L = (¬ c = 0 ∧ K (i + 1) lo (.int (a / c) :: t) I L) := rfl
theorem mr_irem : mm_st sh call Q K (.irem) x y u w z ts i lo (.int c :: .int a :: t) I L = (¬ c = 0 ∧ K (i + 1) lo (.int (a - a / c * c) :: t) I L) := rfl
theorem mr_ladd : mm_st sh call Q K (.ladd) x y u w z ts i lo (.long bl :: .long al :: t) I L = K (i + 1) lo (.long (al + bl) :: t) I L := rfl
theorem mr_lsub : mm_st sh call Q K (.lsub) x y u w z ts i lo (.long bl :: .long al :: t) I L = K (i + 1) lo (.long (al - bl) :: t) I L := rfl
theorem mr_lmul : mm_st sh call Q K (.lmul) x y u w z ts i lo (.long bl :: .long al :: t) I L = K (i + 1) lo (.long (al * bl) :: t) I L := rfl
theorem mr_lneg : mm_st sh call Q K (.lneg) x y u w z ts i lo (.long al :: t) I L = K (i + 1) lo (.long (-al) :: t) I L := rfl
theorem mr_lcmp : mm_st sh call Q K (.lcmp) x y u w z ts i lo (.long bl :: .long al :: t) I L = K (i + 1) lo (.int (lg_cmp al bl) :: t) I L := rfl
theorem mr_i2l : mm_st sh call Q K (.i2l) x y u w z ts i lo (.int a :: t) I L = K (i + 1) lo (.long a.toInt64 :: t) I L := rfl
theorem mr_l2i : mm_st sh call Q K (.l2i) x y u w z ts i lo (.long al :: t) I L = K (i + 1) lo (.int al.toInt32 :: t) I L := rfl
theorem mr_dupi : mm_st sh call Q K (.dup) x y u w z ts i lo (.int a :: t) I L = K (i + 1) lo (.int a :: .int a :: t) I L := rfl
theorem mr_dupa : mm_st sh call Q K (.dup) x y u w z ts i lo (.ref r :: t) I L = K (i + 1) lo (.ref r :: .ref r :: t) I L := rfl
theorem mr_dup2 : mm_st sh call Q K (.dup2) x y u w z ts i lo (.int a :: .ref r :: t) I L = K (i + 1) lo (.int a :: .ref r :: .int a :: .ref r :: t) I L := rfl
theorem mr_goto : mm_st sh call Q K (.goto off) x y u w z ts i lo st I L = K x lo st I L := rfl
theorem mr_icmp_eq : mm_st sh call Q K (.if_icmp .eq off) x y u w z ts i lo (.int c :: .int a :: t) I L = ((a = c → K x lo t I L) ∧ (¬ (a = c) → K (i + 1) lo t I L)) := rfl
theorem mr_if_eq : mm_st sh call Q K (.ifCond .eq off) x y u w z ts i lo (.int a :: t) I L = ((a = 0 → K x lo t I L) ∧ (¬ (a = 0) → K (i + 1) lo t I L)) := rfl
theorem mr_icmp_ne : mm_st sh call Q K (.if_icmp .ne off) x y u w z ts i lo (.int c :: .int a :: t) I L = ((¬ a = c → K x lo t I L) ∧ (¬ (¬ a = c) → K (i + 1) lo t I L)) := rfl
theorem mr_if_ne : mm_st sh call Q K (.ifCond .ne off) x y u w z ts i lo (.int a :: t) I L = ((¬ a = 0 → K x lo t I L) ∧ (¬ (¬ a = 0) → K (i + 1) lo t I L)) := rfl
theorem mr_icmp_lt : mm_st sh call Q K (.if_icmp .lt off) x y u w z ts i lo (.int c :: .int a :: t) I L = ((a < c → K x lo t I L) ∧ (¬ (a < c) → K (i + 1) lo t I L)) := rfl
theorem mr_if_lt : mm_st sh call Q K (.ifCond .lt off) x y u w z ts i lo (.int a :: t) I L = ((a < 0 → K x lo t I L) ∧ (¬ (a < 0) → K (i + 1) lo t I L)) := rfl
theorem mr_icmp_ge : mm_st sh call Q K (.if_icmp .ge off) x y u w z ts i lo (.int c :: .int a :: t) I L = ((c ≤ a → K x lo t I L) ∧ (¬ (c ≤ a) → K (i + 1) lo t I L)) := rfl
theorem mr_if_ge : mm_st sh call Q K (.ifCond .ge off) x y u w z ts i lo (.int a :: t) I L = ((0 ≤ a → K x lo t I L) ∧ (¬ (0 ≤ a) → K (i + 1) lo t I L)) := rfl
theorem mr_icmp_gt : mm_st sh call Q K (.if_icmp .gt off) x y u w z ts i lo (.int c :: .int a :: t) I L = ((c < a → K x lo t I L) ∧ (¬ (c < a) → K (i + 1) lo t I L)) := rfl
theorem mr_if_gt : mm_st sh call Q K (.ifCond .gt off) x y u w z ts i lo (.int a :: t) I L = ((0 < a → K x lo t I L) ∧ (¬ (0 < a) → K (i + 1) lo t I L)) := rfl
theorem mr_icmp_le : mm_st sh call Q K (.if_icmp .le off) x y u w z ts i lo (.int c :: .int a :: t) I L = ((a ≤ c → K x lo t I L) ∧ (¬ (a ≤ c) → K (i + 1) lo t I L)) := rfl
theorem mr_if_le : mm_st sh call Q K (.ifCond .le off) x y u w z ts i lo (.int a :: t) I L = ((a ≤ 0 → K x lo t I L) ∧ (¬ (a ≤ 0) → K (i + 1) lo t I L)) := rfl
theorem mr_tsw (d1 d2 d3 : Int) (d4 : Array Int) : mm_st sh call Q K (.tableswitch d1 d2 d3 d4) x y u w z ts i lo (.int a :: t) I L = (mm_sw a (fun j => K j lo t I L) d2 ts ∧ ((a.toInt < d2 ∨ d3 < a.toInt) → K x lo t I L)) := rfl
theorem mr_sw0 (F : Nat → Prop) : mm_sw a F off [] = True := rfl
theorem mr_sw1 (F : Nat → Prop) : mm_sw a F off (j :: ts) = ((a = Int32.ofInt off → F j) ∧ mm_sw a F (off + 1) ts) := rfl
theorem mr_get0 : mm_st sh call Q K (.getfield j) x y 0 w z ts i lo (.ref r :: t) I L = (r = x ∧ K (i + 1) lo (.int (I x y) :: t) I L) := rfl
theorem mr_get1 : mm_st sh call Q K (.getfield j) x y 1 w z ts i lo (.ref r :: t) I L = (r = x ∧ K (i + 1) lo (.long (L x y) :: t) I L) := rfl
theorem mr_get2 : mm_st sh call Q K (.getfield j) x y 2 w z ts i lo (.ref r :: t) I L = (r = x ∧ K (i + 1) lo (.int (I x y) :: t) I L) := rfl
theorem mr_get3 : mm_st sh call Q K (.getfield j) x y (u + 3) w z ts i lo (.ref r :: t) I L = (r = x ∧ K (i + 1) lo (.ref u :: t) I L) := rfl
theorem mr_put0 : mm_st sh call Q K (.putfield j) x y 0 w z ts i lo (.int a :: .ref r :: t) I L = (r = x ∧ K (i + 1) lo t (mm_ui I x y a) L) := rfl
theorem mr_put1 : mm_st sh call Q K (.putfield j) x y 1 w z ts i lo (.long al :: .ref r :: t) I L = (r = x ∧ K (i + 1) lo t I (mm_ul L x y al)) := rfl
theorem mr_put2 : mm_st sh call Q K (.putfield j) x y 2 w z ts i lo (.int a :: .ref r :: t) I L = (r = x ∧ (a = 0 ∨ a = 1) ∧ K (i + 1) lo t (mm_ui I x y a) L) := rfl
theorem mr_iaload : mm_st sh call Q K (.iaload) x y u w z ts i lo (.int a :: .ref r :: t) I L = (vp_in a (mm_ia sh r) ∧ K (i + 1) lo (.int (I r a.toNatClampNeg) :: t) I L) := rfl
theorem mr_laload : mm_st sh call Q K (.laload) x y u w z ts i lo (.int a :: .ref r :: t) I L = (vp_in a (mm_la sh r) ∧ K (i + 1) lo (.long (L r a.toNatClampNeg) :: t) I L) := rfl
theorem mr_iastore : mm_st sh call Q K (.iastore) x y u w z ts i lo (.int c :: .int a :: .ref r :: t) I L = (vp_in a (mm_ia sh r) ∧ K (i + 1) lo t (mm_ui I r a.toNatClampNeg c) L) := rfl
theorem mr_lastore : mm_st sh call Q K (.lastore) x y u w z ts i lo (.long al :: .int a :: .ref r :: t) I L = (vp_in a (mm_la sh r) ∧ K (i + 1) lo t I (mm_ul L r a.toNatClampNeg al)) := rfl
theorem mr_alen : mm_st sh call Q K (.arraylength) x y u w z ts i lo (.ref r :: t) I L = (¬ mm_ia sh r + mm_la sh r = 0 ∧ K (i + 1) lo (.int (Int32.ofNat (mm_ia sh r + mm_la sh r)) :: t) I L) := rfl
theorem mr_iv : mm_st sh call Q K (.invokevirtual j) x y u w z ts i lo st I L = (mm_rc2 w (mm_pop y [] st) ∧ mm_in2 call K x u (mm_pop y [] st) i lo I L) := rfl
theorem mr_is0 : mm_st sh call Q K (.invokestatic j) x y 0 w z ts i lo st I L = mm_in2 call K x 0 (mm_pop y [] st) i lo I L := rfl
theorem mr_is1 : mm_st sh call Q K (.invokestatic j) x y 1 w z ts i lo st I L = mm_in2 call K x 1 (mm_pop y [] st) i lo I L := rfl
theorem mr_is2 : mm_st sh call Q K (.invokestatic j) x y 2 w z ts i lo st I L = mm_in2 call K x 2 (mm_pop y [] st) i lo I L := rfl
theorem mr_abs : mm_st sh call Q K (.invokestatic j) x y 10 w z ts i lo (.long al :: t) I L = (mm_ct t ≤ 8 ∧ K (i + 1) lo (.long (if 0 < al then al else -al) :: t) I L) := rfl
theorem mr_maxi : mm_st sh call Q K (.invokestatic j) x y 11 w z ts i lo (.int c :: .int a :: t) I L = (mm_ct t ≤ 8 ∧ K (i + 1) lo (.int (if a < c then c else a) :: t) I L) := rfl
theorem mr_maxl : mm_st sh call Q K (.invokestatic j) x y 12 w z ts i lo (.long bl :: .long al :: t) I L = (mm_ct t ≤ 8 ∧ K (i + 1) lo (.long (if bl < al then al else bl) :: t) I L) := rfl
theorem mr_minl : mm_st sh call Q K (.invokestatic j) x y 13 w z ts i lo (.long bl :: .long al :: t) I L = (mm_ct t ≤ 8 ∧ K (i + 1) lo (.long (if bl < al then bl else al) :: t) I L) := rfl
theorem mr_cpy : mm_st sh call Q K (.invokestatic j) x y 14 w z ts i lo st I L = mm_cpy sh st I (fun t I' => K (i + 1) lo t I' L) := rfl
theorem mr_pop0 : mm_pop 0 lo st = some (lo, st) := rfl
theorem mr_pop1 : mm_pop (n + 1) lo (vv :: st) = mm_pop n (vv :: lo) st := rfl
theorem mr_in2 : mm_in2 call K x u (some (lo, t)) i st I L = (mm_ct t ≤ 8 ∧ call x lo I L (fun I' L' ri rl => K (i + 1) st (mm_push u ri rl t) I' L')) := rfl
theorem mr_rc2 : mm_rc2 w (some (.ref r :: lo, t)) = (r = w) := rfl
theorem mr_push0 : mm_push 0 a al st = st := rfl
theorem mr_push1 : mm_push 1 a al st = .int a :: st := rfl
theorem mr_push2 : mm_push 2 a al st = .long al :: st := rfl
theorem mr_ct0 : mm_ct [] = 0 := rfl
theorem mr_ct1 : mm_ct (.int a :: st) = 1 + mm_ct st := rfl
theorem mr_ct2 : mm_ct (.ref r :: st) = 1 + mm_ct st := rfl
theorem mr_ct3 : mm_ct (.long al :: st) = 2 + mm_ct st := rfl
theorem mr_iret0 : mm_st sh call Q K .ireturn x y 0 w z ts i lo [.int a] I L = Q I L a 0 := propext ⟨fun h => h.2, fun h => ⟨fun q => absurd q (by decide), h⟩⟩
theorem mr_iret1 : mm_st sh call Q K .ireturn x y 1 w z ts i lo [.int a] I L = ((a = 0 ∨ a = 1) ∧ Q I L a 0) := propext ⟨fun h => ⟨h.1 rfl, h.2⟩, fun h => ⟨fun _ => h.1, h.2⟩⟩
theorem mr_lret : mm_st sh call Q K (.lreturn) x y u w z ts i lo [.long al] I L = Q I L 0 al := rfl
theorem mr_ret : mm_st sh call Q K (.return_) x y u w z ts i lo [] I L = Q I L 0 0 := rfl
theorem mr_s10 : mm_set1 (vv :: lo) 0 (.int a) = .int a :: lo := rfl
theorem mr_s10r : mm_set1 (vv :: lo) 0 (.ref r) = .ref r :: lo := rfl
theorem mr_s1 : mm_set1 lo (k + 1) vv = (mm_cut lo k).set (k + 1) vv := rfl
theorem mr_s2 : mm_set2 lo k vv = (mm_set1 lo k vv).set (k + 1) .null := rfl
theorem mr_set0 (e0 : Value) : (e0 :: lo).set 0 vv = vv :: lo := rfl
theorem mr_set1 (e0 : Value) : (e0 :: lo).set (n + 1) vv = e0 :: lo.set n vv := rfl
theorem mr_c1 : mm_cut (vv :: lo) (k + 1) = vv :: mm_cut lo k := by
  unfold mm_cut
  simp only [List.getD_cons_succ, List.set_cons_succ]
  split <;> rfl
theorem mr_c0i : mm_cut (.int a :: lo) 0 = .int a :: lo := rfl
theorem mr_c0r : mm_cut (.ref r :: lo) 0 = .ref r :: lo := rfl
theorem mr_c0n : mm_cut (.null :: lo) 0 = .null :: lo := rfl
theorem mr_c0l : mm_cut (.long al :: lo) 0 = .null :: lo := rfl
theorem mr_ui : mm_ui I x y a k j = if k = x then (if j = y then a else I k j) else I k j := rfl
theorem mr_ul : mm_ul L x y al k j = if k = x then (if j = y then al else L k j) else L k j := rfl
theorem mr_ur (ff : Nat → Int32) : mm_ur I x ff k j = if k = x then ff j else I k j := rfl
theorem mr_sl0 : mm_sl [] = [] := rfl
theorem mr_sl1 : mm_sl (.int a :: st) = .int a :: mm_sl st := rfl
theorem mr_sl2 : mm_sl (.ref r :: st) = .ref r :: mm_sl st := rfl
theorem mr_sl3 : mm_sl (.long al :: st) = .long al :: .null :: mm_sl st := rfl
end RW
theorem mm_r : type_of% (And.intro @mr_v1 (And.intro @mr_v2 (And.intro @mr_v3 (And.intro @mr_h1 (And.intro @mr_h2 (And.intro @mr_aload (And.intro @mr_aload_0 (And.intro @mr_aload_1 (And.intro @mr_aload_2 (And.intro @mr_aload_3 (And.intro @mr_iload (And.intro @mr_iload_0 (And.intro @mr_iload_1 (And.intro @mr_iload_2 (And.intro @mr_iload_3 (And.intro @mr_lload (And.intro @mr_lload_0 (And.intro @mr_lload_1 (And.intro @mr_lload_2 (And.intro @mr_lload_3 (And.intro @mr_lda0 (And.intro @mr_lda1 (And.intro @mr_ldi0 (And.intro @mr_ldi1 (And.intro @mr_ldl0 (And.intro @mr_ldl1 (And.intro @mr_istore (And.intro @mr_istore_0 (And.intro @mr_istore_1 (And.intro @mr_istore_2 (And.intro @mr_istore_3 (And.intro @mr_astore (And.intro @mr_astore_0 (And.intro @mr_astore_1 (And.intro @mr_astore_2 (And.intro @mr_astore_3 (And.intro @mr_lstore (And.intro @mr_lstore_0 (And.intro @mr_lstore_1 (And.intro @mr_lstore_2 (And.intro @mr_lstore_3 (And.intro @mr_iinc (And.intro @mr_iconst (And.intro @mr_bipush (And.intro @mr_sipush (And.intro @mr_lconst0 (And.intro @mr_lconst1 (And.intro @mr_ldc (And.intro @mr_ldcw (And.intro @mr_ldc2 (And.intro @mr_iadd (And.intro @mr_isub (And.intro @mr_imul (And.intro @mr_iand (And.intro @mr_ior (And.intro @mr_ixor (And.intro @mr_ishl (And.intro @mr_ishr (And.intro @mr_iushr (And.intro @mr_idiv (And.intro @mr_irem (And.intro @mr_ladd (And.intro @mr_lsub (And.intro @mr_lmul (And.intro @mr_lneg (And.intro @mr_lcmp (And.intro @mr_i2l (And.intro @mr_l2i (And.intro @mr_dupi (And.intro @mr_dupa (And.intro @mr_dup2 (And.intro @mr_goto (And.intro @mr_icmp_eq (And.intro @mr_if_eq (And.intro @mr_icmp_ne (And.intro @mr_if_ne (And.intro @mr_icmp_lt (And.intro @mr_if_lt (And.intro @mr_icmp_ge (And.intro @mr_if_ge (And.intro @mr_icmp_gt (And.intro @mr_if_gt (And.intro @mr_icmp_le (And.intro @mr_if_le (And.intro @mr_tsw (And.intro @mr_sw0 (And.intro @mr_sw1 (And.intro @mr_get0 (And.intro @mr_get1 (And.intro @mr_get2 (And.intro @mr_get3 (And.intro @mr_put0 (And.intro @mr_put1 (And.intro @mr_put2 (And.intro @mr_iaload (And.intro @mr_laload (And.intro @mr_iastore (And.intro @mr_lastore (And.intro @mr_alen (And.intro @mr_iv (And.intro @mr_is0 (And.intro @mr_is1 (And.intro @mr_is2 (And.intro @mr_abs (And.intro @mr_maxi (And.intro @mr_maxl (And.intro @mr_minl (And.intro @mr_cpy (And.intro @mr_pop0 (And.intro @mr_pop1 (And.intro @mr_in2 (And.intro @mr_rc2 (And.intro @mr_push0 (And.intro @mr_push1 (And.intro @mr_push2 (And.intro @mr_ct0 (And.intro @mr_ct1 (And.intro @mr_ct2 (And.intro @mr_ct3 (And.intro @mr_iret0 (And.intro @mr_iret1 (And.intro @mr_lret (And.intro @mr_ret (And.intro @mr_s10 (And.intro @mr_s10r (And.intro @mr_s1 (And.intro @mr_s2 (And.intro @mr_set0 (And.intro @mr_set1 (And.intro @mr_c1 (And.intro @mr_c0i (And.intro @mr_c0r (And.intro @mr_c0n (And.intro @mr_c0l (And.intro @mr_ui (And.intro @mr_ul (And.intro @mr_ur (And.intro @mr_sl0 (And.intro @mr_sl1 (And.intro @mr_sl2 (@mr_sl3))))))))))))))))))))))))))))))))))))))))))))))))))))))))))))))))))))))))))))))))))))))))))))))))))))))))))))))))))))))))))))))))))))))))))))) := And.intro @mr_v1 (And.intro @mr_v2 (And.intro @mr_v3 (And.intro @mr_h1 (And.intro @mr_h2 (And.intro @mr_aload (And.intro @mr_aload_0 (And.intro @mr_aload_1 (And.intro @mr_aload_2 (And.intro @mr_aload_3 (And.intro @mr_iload (And.intro @mr_iload_0 (And.intro @mr_iload_1 (And.intro @mr_iload_2 (And.intro @mr_iload_3 (And.intro @mr_lload (And.intro @mr_lload_0 (And.intro @mr_lload_1 (And.intro @mr_lload_2 (And.intro @mr_lload_3 (And.intro @mr_lda0 (And.intro @mr_lda1 (And.intro @mr_ldi0 (And.intro @mr_ldi1 (And.intro @mr_ldl0 (And.intro @mr_ldl1 (And.intro @mr_istore (And.intro @mr_istore_0 (And.intro @mr_istore_1 (And.intro @mr_istore_2 (And.intro @mr_istore_3 (And.intro @mr_astore (And.intro @mr_astore_0 (And.intro @mr_astore_1 (And.intro @mr_astore_2 (And.intro @mr_astore_3 (And.intro @mr_lstore (And.intro @mr_lstore_0 (And.intro @mr_lstore_1 (And.intro @mr_lstore_2 (And.intro @mr_lstore_3 (And.intro @mr_iinc (And.intro @mr_iconst (And.intro @mr_bipush (And.intro @mr_sipush (And.intro @mr_lconst0 (And.intro @mr_lconst1 (And.intro @mr_ldc (And.intro @mr_ldcw (And.intro @mr_ldc2 (And.intro @mr_iadd (And.intro @mr_isub (And.intro @mr_imul (And.intro @mr_iand (And.intro @mr_ior (And.intro @mr_ixor (And.intro @mr_ishl (And.intro @mr_ishr (And.intro @mr_iushr (And.intro @mr_idiv (And.intro @mr_irem (And.intro @mr_ladd (And.intro @mr_lsub (And.intro @mr_lmul (And.intro @mr_lneg (And.intro @mr_lcmp (And.intro @mr_i2l (And.intro @mr_l2i (And.intro @mr_dupi (And.intro @mr_dupa (And.intro @mr_dup2 (And.intro @mr_goto (And.intro @mr_icmp_eq (And.intro @mr_if_eq (And.intro @mr_icmp_ne (And.intro @mr_if_ne (And.intro @mr_icmp_lt (And.intro @mr_if_lt (And.intro @mr_icmp_ge (And.intro @mr_if_ge (And.intro @mr_icmp_gt (And.intro @mr_if_gt (And.intro @mr_icmp_le (And.intro @mr_if_le (And.intro @mr_tsw (And.intro @mr_sw0 (And.intro @mr_sw1 (And.intro @mr_get0 (And.intro @mr_get1 (And.intro @mr_get2 (And.intro @mr_get3 (And.intro @mr_put0 (And.intro @mr_put1 (And.intro @mr_put2 (And.intro @mr_iaload (And.intro @mr_laload (And.intro @mr_iastore (And.intro @mr_lastore (And.intro @mr_alen (And.intro @mr_iv (And.intro @mr_is0 (And.intro @mr_is1 (And.intro @mr_is2 (And.intro @mr_abs (And.intro @mr_maxi (And.intro @mr_maxl (And.intro @mr_minl (And.intro @mr_cpy (And.intro @mr_pop0 (And.intro @mr_pop1 (And.intro @mr_in2 (And.intro @mr_rc2 (And.intro @mr_push0 (And.intro @mr_push1 (And.intro @mr_push2 (And.intro @mr_ct0 (And.intro @mr_ct1 (And.intro @mr_ct2 (And.intro @mr_ct3 (And.intro @mr_iret0 (And.intro @mr_iret1 (And.intro @mr_lret (And.intro @mr_ret (And.intro @mr_s10 (And.intro @mr_s10r (And.intro @mr_s1 (And.intro @mr_s2 (And.intro @mr_set0 (And.intro @mr_set1 (And.intro @mr_c1 (And.intro @mr_c0i (And.intro @mr_c0r (And.intro @mr_c0n (And.intro @mr_c0l (And.intro @mr_ui (And.intro @mr_ul (And.intro @mr_ur (And.intro @mr_sl0 (And.intro @mr_sl1 (And.intro @mr_sl2 (@mr_sl3))))))))))))))))))))))))))))))))))))))))))))))))))))))))))))))))))))))))))))))))))))))))))))))))))))))))))))))))))))))))))))))))))))))))))))
theorem mm_b : type_of% (And.intro @true_and (And.intro @and_true (And.intro @true_or (And.intro @or_true (And.intro @true_implies (And.intro @Classical.not_not (And.intro @List.length_cons (And.intro @List.length_nil (And.intro @if_true (@if_false)))))))))) := And.intro @true_and (And.intro @and_true (And.intro @true_or (And.intro @or_true (And.intro @true_implies (And.intro @Classical.not_not (And.intro @List.length_cons (And.intro @List.length_nil (And.intro @if_true (@if_false)))))))))
theorem mm_hk {sh : mm_S} {ms : List mm_M} {d : Nat} {tb : List mm_E} {Q : mm_Q} {i : Nat} {lo st : List Value} {I : mm_I} {L : mm_L} (n : Nat) (h : mm_h sh (mm_P sh ms d) tb Q n i lo st I L) : mm_W sh (mm_P sh ms d) tb Q i lo st I L := mm_h_ok (mm_P_le sh ms d).1 n h
theorem mm_n : (Int8.ofInt (-9)).toInt32 = (-9) ∧ (Int8.ofInt (-5)).toInt32 = (-5) ∧ (Int8.ofInt (-4)).toInt32 = (-4) ∧ (Int8.ofInt (-3)).toInt32 = (-3) ∧ (Int8.ofInt (-2)).toInt32 = (-2) ∧ (Int8.ofInt 6).toInt32 = 6 ∧ (Int8.ofInt 7).toInt32 = 7 ∧ (Int8.ofInt 8).toInt32 = 8 ∧ (Int8.ofInt 16).toInt32 = 16 ∧ (Int8.ofInt 20).toInt32 = 20 ∧ (Int8.ofInt 21).toInt32 = 21 ∧ (Int8.ofInt 39).toInt32 = 39 ∧ (Int8.ofInt 40).toInt32 = 40 ∧ (Int8.ofInt 63).toInt32 = 63 ∧ Int32.ofInt 1000000 = 1000000 ∧ Int32.ofInt 252645135 = 252645135 ∧ Int32.ofInt 858993459 = 858993459 ∧ Int32.ofInt 1431655765 = 1431655765 ∧ Int32.ofInt (-1) = (-1) ∧ Int32.ofInt 0 = 0 ∧ Int32.ofInt 1 = 1 ∧ Int32.ofInt 2 = 2 ∧ Int32.ofInt 3 = 3 ∧ Int32.ofInt 4 = 4 ∧ Int32.ofInt 5 = 5 ∧ Int64.ofInt (-9223372036854775808) = (-9223372036854775808) ∧ Int64.ofInt (-2147483648) = (-2147483648) ∧ Int64.ofInt (-1) = (-1) ∧ Int64.ofInt 2147483647 = 2147483647 ∧ Int64.ofInt 1000000000000 = 1000000000000 ∧ Int64.ofInt 9223372036854775807 = 9223372036854775807 ∧ (Int16.ofInt 255).toInt32 = 255 ∧ (Int16.ofInt 256).toInt32 = 256 := by decide +kernel
