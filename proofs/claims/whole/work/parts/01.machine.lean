/-! ===== A small machine over fixed cells: ints and longs by (cell, place); its one-instruction transformer, its least fixed point, its calls by depth ===== -/
abbrev mm_I : Type := Nat → Nat → Int32
abbrev mm_L : Type := Nat → Nat → Int64
abbrev mm_Q : Type := mm_I → mm_L → Int32 → Int64 → Prop
abbrev mm_K : Type := Nat → List Value → List Value → mm_I → mm_L → Prop
abbrev mm_C : Type := Nat → List Value → mm_I → mm_L → mm_Q → Prop
/-- a cell: (0, number of its kind, its fields' kinds), (1, length of a row of ints), (2, length of a row of longs); a field: 0 int, 1 long, 2 boolean, r + 3 the cell r -/
abbrev mm_S : Type := List (Nat × Nat × List Nat)
/-- an entry: place of the byte, instruction, length, a loop's head or not, and what its links say -/
abbrev mm_E : Type := Nat × Instr × Nat × Bool × Nat × Nat × Nat × Nat × Int × List Nat
/-- a method: name, bytes, locals, answer, number of its owner, kind of answer (0 none, 1 int, 2 long), its entries -/
abbrev mm_M : Type := MethodName × ByteArray × Nat × Option FieldType × Nat × Nat × List mm_E
def mm_ui (I : mm_I) (a k : Nat) (v : Int32) : mm_I := fun b j => if b = a then (if j = k then v else I b j) else I b j
def mm_ul (L : mm_L) (a k : Nat) (v : Int64) : mm_L := fun b j => if b = a then (if j = k then v else L b j) else L b j
/-- a row of ints written over -/
def mm_ur (I : mm_I) (a : Nat) (f : Nat → Int32) : mm_I := fun b j => if b = a then f j else I b j
def mm_ia (sh : mm_S) (a : Nat) : Nat := match sh[a]? with
  | some (1, n, _) => n
  | _ => 0
def mm_la (sh : mm_S) (a : Nat) : Nat := match sh[a]? with
  | some (2, n, _) => n
  | _ => 0
def mm_ldi (lo : List Value) (n : Nat) (k : Int32 → Prop) : Prop := match lo[n]? with
  | some (.int a) => k a
  | _ => False
def mm_ldl (lo : List Value) (n : Nat) (k : Int64 → Prop) : Prop := match lo[n]? with
  | some (.long a) => k a
  | _ => False
def mm_lda (lo : List Value) (n : Nat) (k : Nat → Prop) : Prop := match lo[n]? with
  | some (.ref a) => k a
  | _ => False
def mm_cut (lo : List Value) (n : Nat) : List Value := if (lo.getD n .null).category = 2 then lo.set n .null else lo
def mm_set1 (lo : List Value) (n : Nat) (v : Value) : List Value := match n with
  | 0 => lo.set 0 v
  | k + 1 => (mm_cut lo k).set (k + 1) v
def mm_set2 (lo : List Value) (n : Nat) (v : Value) : List Value := (mm_set1 lo n v).set (n + 1) .null
def mm_ct : List Value → Nat
  | [] => 0
  | v :: t => v.category + mm_ct t
def mm_pop : Nat → List Value → List Value → Option (List Value × List Value)
  | 0, acc, st => some (acc, st)
  | _ + 1, _, [] => none
  | n + 1, acc, v :: st => mm_pop n (v :: acc) st
def mm_push (rk : Nat) (ri : Int32) (rl : Int64) (st : List Value) : List Value := match rk with
  | 0 => st
  | 1 => .int ri :: st
  | _ => .long rl :: st
/-- a switch: the value against lo, lo + 1 .. -/
def mm_sw (z : Int32) (K : Nat → Prop) : Int → List Nat → Prop
  | _, [] => True
  | n, t :: ts => (z = Int32.ofInt n → K t) ∧ mm_sw z K (n + 1) ts
def mm_cmp (c : Jvm.ClassFile.Cond) (a b : Int32) : Prop := match c with
  | .eq => a = b
  | .ne => ¬ a = b
  | .lt => a < b
  | .ge => b ≤ a
  | .gt => b < a
  | .le => a ≤ b
def mm_ii (st : List Value) (k : Int32 → Int32 → List Value → Prop) : Prop := match st with
  | .int b :: .int a :: r => k a b r
  | _ => False
def mm_i (st : List Value) (k : Int32 → List Value → Prop) : Prop := match st with
  | .int a :: r => k a r
  | _ => False
def mm_ll (st : List Value) (k : Int64 → Int64 → List Value → Prop) : Prop := match st with
  | .long b :: .long a :: r => k a b r
  | _ => False
def mm_l (st : List Value) (k : Int64 → List Value → Prop) : Prop := match st with
  | .long a :: r => k a r
  | _ => False
def mm_a (st : List Value) (k : Nat → List Value → Prop) : Prop := match st with
  | .ref a :: r => k a r
  | _ => False
def mm_ia2 (st : List Value) (k : Nat → Int32 → List Value → Prop) : Prop := match st with
  | .int j :: .ref a :: r => k a j r
  | _ => False
def mm_get (x y u r : Nat) (I : mm_I) (L : mm_L) (k : Value → Prop) : Prop := r = x ∧ (match u with
  | 0 => k (.int (I x y))
  | 1 => k (.long (L x y))
  | 2 => k (.int (I x y))
  | n + 3 => k (.ref n))
def mm_put (x y u : Nat) (st : List Value) (I : mm_I) (L : mm_L) (k : List Value → mm_I → mm_L → Prop) : Prop := match u with
  | 0 => (match st with
    | .int v :: .ref r :: t => r = x ∧ k t (mm_ui I x y v) L
    | _ => False)
  | 1 => (match st with
    | .long v :: .ref r :: t => r = x ∧ k t I (mm_ul L x y v)
    | _ => False)
  | 2 => (match st with
    | .int v :: .ref r :: t => r = x ∧ (v = 0 ∨ v = 1) ∧ k t (mm_ui I x y v) L
    | _ => False)
  | _ => False
/-- a call of a method of ours -/
def mm_inv (call : mm_C) (K : mm_K) (m n rk : Nat) (i : Nat) (lo st : List Value) (I : mm_I) (L : mm_L) : Prop := match mm_pop n [] st with
  | some (as, t) => mm_ct t ≤ 8 ∧ call m as I L (fun I' L' ri rl => K (i + 1) lo (mm_push rk ri rl t) I' L')
  | none => False
def mm_rcv (n w : Nat) (st : List Value) : Prop := match mm_pop n [] st with
  | some (.ref r :: _, _) => r = w
  | _ => False
/-- System.arraycopy of rows of ints -/
def mm_cpy (sh : mm_S) (st : List Value) (I : mm_I) (k : List Value → mm_I → Prop) : Prop := match st with
  | .int n :: .int dp :: .ref b :: .int sp :: .ref a :: t => mm_ct t ≤ 8 ∧ (a < sh.length ∧ b < sh.length ∧ 0 < mm_ia sh a ∧ 0 < mm_ia sh b ∧ ¬ sp < 0 ∧ ¬ dp < 0 ∧ ¬ n < 0 ∧ sp.toNatClampNeg + n.toNatClampNeg ≤ mm_ia sh a ∧ dp.toNatClampNeg + n.toNatClampNeg ≤ mm_ia sh b) ∧ k t (mm_ur I b (va_cpy (I a) (I b) sp.toNatClampNeg dp.toNatClampNeg n.toNatClampNeg))
  | _ => False
/-- one instruction -/
def mm_st (sh : mm_S) (call : mm_C) (Q : mm_Q) (K : mm_K) (ins : Instr) (x y u w : Nat) (z : Int) (ts : List Nat) (i : Nat) (lo st : List Value) (I : mm_I) (L : mm_L) : Prop := match ins with
  | .aload n => mm_lda lo n (fun a => K (i + 1) lo (.ref a :: st) I L)
  | .aload_n n => mm_lda lo n.val (fun a => K (i + 1) lo (.ref a :: st) I L)
  | .iload n => mm_ldi lo n (fun a => K (i + 1) lo (.int a :: st) I L)
  | .iload_n n => mm_ldi lo n.val (fun a => K (i + 1) lo (.int a :: st) I L)
  | .lload n => mm_ldl lo n (fun a => K (i + 1) lo (.long a :: st) I L)
  | .lload_n n => mm_ldl lo n.val (fun a => K (i + 1) lo (.long a :: st) I L)
  | .istore n => mm_i st (fun a t => n < lo.length ∧ K (i + 1) (mm_set1 lo n (.int a)) t I L)
  | .istore_n n => mm_i st (fun a t => n.val < lo.length ∧ K (i + 1) (mm_set1 lo n.val (.int a)) t I L)
  | .astore n => mm_a st (fun a t => n < lo.length ∧ K (i + 1) (mm_set1 lo n (.ref a)) t I L)
  | .astore_n n => mm_a st (fun a t => n.val < lo.length ∧ K (i + 1) (mm_set1 lo n.val (.ref a)) t I L)
  | .lstore n => mm_l st (fun a t => n + 1 < lo.length ∧ K (i + 1) (mm_set2 lo n (.long a)) t I L)
  | .lstore_n n => mm_l st (fun a t => n.val + 1 < lo.length ∧ K (i + 1) (mm_set2 lo n.val (.long a)) t I L)
  | .iinc n c => mm_ldi lo n (fun a => K (i + 1) (mm_set1 lo n (.int (a + Int32.ofInt c))) st I L)
  | .iconst c => K (i + 1) lo (.int (Int32.ofInt c) :: st) I L
  | .bipush c => K (i + 1) lo (.int (Int8.ofInt c).toInt32 :: st) I L
  | .sipush c => K (i + 1) lo (.int (Int16.ofInt c).toInt32 :: st) I L
  | .lconst c => K (i + 1) lo (.long (Int64.ofNat c.val) :: st) I L
  | .ldc _ => K (i + 1) lo (.int (Int32.ofInt z) :: st) I L
  | .ldc_w _ => K (i + 1) lo (.int (Int32.ofInt z) :: st) I L
  | .ldc2_w _ => K (i + 1) lo (.long (Int64.ofInt z) :: st) I L
  | .iadd => mm_ii st (fun a b t => K (i + 1) lo (.int (a + b) :: t) I L)
  | .isub => mm_ii st (fun a b t => K (i + 1) lo (.int (a - b) :: t) I L)
  | .imul => mm_ii st (fun a b t => K (i + 1) lo (.int (a * b) :: t) I L)
  | .iand => mm_ii st (fun a b t => K (i + 1) lo (.int (a &&& b) :: t) I L)
  | .ior => mm_ii st (fun a b t => K (i + 1) lo (.int (a ||| b) :: t) I L)
  | .ixor => mm_ii st (fun a b t => K (i + 1) lo (.int (a ^^^ b) :: t) I L)
  | .ishl => mm_ii st (fun a b t => K (i + 1) lo (.int (a <<< (b &&& 31)) :: t) I L)
  | .ishr => mm_ii st (fun a b t => K (i + 1) lo (.int (a >>> (b &&& 31)) :: t) I L)
  | .iushr => mm_ii st (fun a b t => K (i + 1) lo (.int (a.toUInt32 >>> (b.toUInt32 &&& Int32.toUInt32 31)).toInt32 :: t) I L)
  | .idiv => mm_ii st (fun a b t => ¬ b = 0 ∧ K (i + 1) lo (.int (a / b) :: t) I L)
  | .irem => mm_ii st (fun a b t => ¬ b = 0 ∧ K (i + 1) lo (.int (a - a / b * b) :: t) I L)
  | .ladd => mm_ll st (fun a b t => K (i + 1) lo (.long (a + b) :: t) I L)
  | .lsub => mm_ll st (fun a b t => K (i + 1) lo (.long (a - b) :: t) I L)
  | .lmul => mm_ll st (fun a b t => K (i + 1) lo (.long (a * b) :: t) I L)
  | .lneg => mm_l st (fun a t => K (i + 1) lo (.long (-a) :: t) I L)
  | .lcmp => mm_ll st (fun a b t => K (i + 1) lo (.int (lg_cmp a b) :: t) I L)
  | .i2l => mm_i st (fun a t => K (i + 1) lo (.long a.toInt64 :: t) I L)
  | .l2i => mm_l st (fun a t => K (i + 1) lo (.int a.toInt32 :: t) I L)
  | .dup => (match st with
    | .int a :: t => K (i + 1) lo (.int a :: .int a :: t) I L
    | .ref a :: t => K (i + 1) lo (.ref a :: .ref a :: t) I L
    | _ => False)
  | .dup2 => mm_ia2 st (fun a j t => K (i + 1) lo (.int j :: .ref a :: .int j :: .ref a :: t) I L)
  | .goto _ => K x lo st I L
  | .if_icmp c _ => mm_ii st (fun a b t => (mm_cmp c a b → K x lo t I L) ∧ (¬ mm_cmp c a b → K (i + 1) lo t I L))
  | .ifCond c _ => mm_i st (fun a t => (mm_cmp c a 0 → K x lo t I L) ∧ (¬ mm_cmp c a 0 → K (i + 1) lo t I L))
  | .tableswitch _ n h _ => mm_i st (fun a t => mm_sw a (fun j => K j lo t I L) n ts ∧ ((a.toInt < n ∨ h < a.toInt) → K x lo t I L))
  | .getfield _ => mm_a st (fun r t => mm_get x y u r I L (fun v => K (i + 1) lo (v :: t) I L))
  | .putfield _ => mm_put x y u st I L (fun t I' L' => K (i + 1) lo t I' L')
  | .iaload => mm_ia2 st (fun a j t => vp_in j (mm_ia sh a) ∧ K (i + 1) lo (.int (I a j.toNatClampNeg) :: t) I L)
  | .laload => mm_ia2 st (fun a j t => vp_in j (mm_la sh a) ∧ K (i + 1) lo (.long (L a j.toNatClampNeg) :: t) I L)
  | .iastore => (match st with
    | .int v :: .int j :: .ref a :: t => vp_in j (mm_ia sh a) ∧ K (i + 1) lo t (mm_ui I a j.toNatClampNeg v) L
    | _ => False)
  | .lastore => (match st with
    | .long v :: .int j :: .ref a :: t => vp_in j (mm_la sh a) ∧ K (i + 1) lo t I (mm_ul L a j.toNatClampNeg v)
    | _ => False)
  | .arraylength => mm_a st (fun a t => ¬ mm_ia sh a + mm_la sh a = 0 ∧ K (i + 1) lo (.int (Int32.ofNat (mm_ia sh a + mm_la sh a)) :: t) I L)
  | .invokevirtual _ => mm_rcv y w st ∧ mm_inv call K x y u i lo st I L
  | .invokestatic _ => (match u with
    | 10 => mm_l st (fun a t => mm_ct t ≤ 8 ∧ K (i + 1) lo (.long (if 0 < a then a else -a) :: t) I L)
    | 11 => mm_ii st (fun a b t => mm_ct t ≤ 8 ∧ K (i + 1) lo (.int (if a < b then b else a) :: t) I L)
    | 12 => mm_ll st (fun a b t => mm_ct t ≤ 8 ∧ K (i + 1) lo (.long (if b < a then a else b) :: t) I L)
    | 13 => mm_ll st (fun a b t => mm_ct t ≤ 8 ∧ K (i + 1) lo (.long (if b < a then b else a) :: t) I L)
    | 14 => mm_cpy sh st I (fun t I' => K (i + 1) lo t I' L)
    | _ => mm_inv call K x y u i lo st I L)
  | .ireturn => (match st with
    | [.int a] => (u = 1 → a = 0 ∨ a = 1) ∧ Q I L a 0
    | _ => False)
  | .lreturn => (match st with
    | [.long a] => Q I L 0 a
    | _ => False)
  | .return_ => (match st with
    | [] => Q I L 0 0
    | _ => False)
  | _ => False
def mm_one (sh : mm_S) (call : mm_C) (tb : List mm_E) (Q : mm_Q) (K : mm_K) : mm_K := fun i lo st I L => match tb[i]? with
  | some (_, ins, _, _, x, y, u, w, z, ts) => mm_st sh call Q K ins x y u w z ts i lo st I L
  | none => False
/-- from this frame on the method returns, and Q holds then: the least fixed point of one instruction -/
def mm_W (sh : mm_S) (call : mm_C) (tb : List mm_E) (Q : mm_Q) : mm_K := fun i lo st I L => ∀ X : mm_K, (∀ i lo st I L, mm_one sh call tb Q X i lo st I L → X i lo st I L) → X i lo st I L
def mm_sl : List Value → List Value
  | [] => []
  | v :: t => if v.category = 2 then v :: .null :: mm_sl t else v :: mm_sl t
def mm_en (n : Nat) (as : List Value) : List Value := mm_sl as ++ List.replicate (n - (mm_sl as).length) .null
/-- a method, called with at most d methods open at once -/
def mm_P (sh : mm_S) (ms : List mm_M) : Nat → mm_C
  | 0 => fun _ _ _ _ _ => False
  | d + 1 => fun m as I L Q => match ms[m]? with
    | some (_, _, n, _, _, _, tb) => (mm_sl as).length ≤ n ∧ mm_W sh (mm_P sh ms d) tb Q 0 (mm_en n as) [] I L
    | none => False
/-- instructions one behind another, up to a loop's head -/
def mm_v (sh : mm_S) (call : mm_C) (tb : List mm_E) (Q : mm_Q) : Nat → mm_K
  | 0 => mm_W sh call tb Q
  | n + 1 => fun i lo st I L => match tb[i]? with
    | some (_, ins, _, hd, x, y, u, w, z, ts) => (match hd with
      | true => mm_W sh call tb Q i lo st I L
      | false => mm_st sh call Q (mm_v sh call tb Q n) ins x y u w z ts i lo st I L)
    | none => False
/-- the same, from a head on -/
def mm_h (sh : mm_S) (call : mm_C) (tb : List mm_E) (Q : mm_Q) (n : Nat) : mm_K := fun i lo st I L => match tb[i]? with
  | some (_, ins, _, _, x, y, u, w, z, ts) => mm_st sh call Q (mm_v sh call tb Q n) ins x y u w z ts i lo st I L
  | none => False
/-! what is monotone -/
def mm_leC (c1 c2 : mm_C) : Prop := ∀ m as I L Q, c1 m as I L Q → c2 m as I L Q
def mm_moC (c : mm_C) : Prop := ∀ m as I L (Q Q' : mm_Q), (∀ I L a b, Q I L a b → Q' I L a b) → c m as I L Q → c m as I L Q'
theorem mm_sw_mono {z : Int32} {K K' : Nat → Prop} (h : ∀ j, K j → K' j) : ∀ (n : Int) (ts : List Nat), mm_sw z K n ts → mm_sw z K' n ts := by
  intro n ts
  induction ts generalizing n with
  | nil => intro _; trivial
  | cons t ts ih => intro q; exact ⟨fun e => h _ (q.1 e), ih _ q.2⟩
theorem mm_ldi_mono {lo : List Value} {n : Nat} {k k' : Int32 → Prop} (h : ∀ a, k a → k' a) (q : mm_ldi lo n k) : mm_ldi lo n k' := by
  unfold mm_ldi at q ⊢
  split at q
  · exact h _ q
  · exact q.elim
theorem mm_ldl_mono {lo : List Value} {n : Nat} {k k' : Int64 → Prop} (h : ∀ a, k a → k' a) (q : mm_ldl lo n k) : mm_ldl lo n k' := by
  unfold mm_ldl at q ⊢
  split at q
  · exact h _ q
  · exact q.elim
theorem mm_lda_mono {lo : List Value} {n : Nat} {k k' : Nat → Prop} (h : ∀ a, k a → k' a) (q : mm_lda lo n k) : mm_lda lo n k' := by
  unfold mm_lda at q ⊢
  split at q
  · exact h _ q
  · exact q.elim
theorem mm_ii_mono {st : List Value} {k k' : Int32 → Int32 → List Value → Prop} (h : ∀ a b t, k a b t → k' a b t) (q : mm_ii st k) : mm_ii st k' := by
  unfold mm_ii at q ⊢
  split at q
  · exact h _ _ _ q
  · exact q.elim
theorem mm_i_mono {st : List Value} {k k' : Int32 → List Value → Prop} (h : ∀ a t, k a t → k' a t) (q : mm_i st k) : mm_i st k' := by
  unfold mm_i at q ⊢
  split at q
  · exact h _ _ q
  · exact q.elim
theorem mm_ll_mono {st : List Value} {k k' : Int64 → Int64 → List Value → Prop} (h : ∀ a b t, k a b t → k' a b t) (q : mm_ll st k) : mm_ll st k' := by
  unfold mm_ll at q ⊢
  split at q
  · exact h _ _ _ q
  · exact q.elim
theorem mm_l_mono {st : List Value} {k k' : Int64 → List Value → Prop} (h : ∀ a t, k a t → k' a t) (q : mm_l st k) : mm_l st k' := by
  unfold mm_l at q ⊢
  split at q
  · exact h _ _ q
  · exact q.elim
theorem mm_a_mono {st : List Value} {k k' : Nat → List Value → Prop} (h : ∀ a t, k a t → k' a t) (q : mm_a st k) : mm_a st k' := by
  unfold mm_a at q ⊢
  split at q
  · exact h _ _ q
  · exact q.elim
theorem mm_ia2_mono {st : List Value} {k k' : Nat → Int32 → List Value → Prop} (h : ∀ a j t, k a j t → k' a j t) (q : mm_ia2 st k) : mm_ia2 st k' := by
  unfold mm_ia2 at q ⊢
  split at q
  · exact h _ _ _ q
  · exact q.elim
theorem mm_get_mono {x y u r : Nat} {I : mm_I} {L : mm_L} {k k' : Value → Prop} (h : ∀ v, k v → k' v) (q : mm_get x y u r I L k) : mm_get x y u r I L k' := by
  unfold mm_get at q ⊢
  refine ⟨q.1, ?_⟩
  have q2 := q.2
  split at q2 <;> exact h _ q2
theorem mm_put_mono {x y u : Nat} {st : List Value} {I : mm_I} {L : mm_L} {k k' : List Value → mm_I → mm_L → Prop} (h : ∀ t I L, k t I L → k' t I L) (q : mm_put x y u st I L k) : mm_put x y u st I L k' := by
  unfold mm_put at q ⊢
  split at q
  · split at q
    · exact ⟨q.1, h _ _ _ q.2⟩
    · exact q.elim
  · split at q
    · exact ⟨q.1, h _ _ _ q.2⟩
    · exact q.elim
  · split at q
    · exact ⟨q.1, q.2.1, h _ _ _ q.2.2⟩
    · exact q.elim
  · exact q.elim
theorem mm_cpy_mono {sh : mm_S} {st : List Value} {I : mm_I} {k k' : List Value → mm_I → Prop} (h : ∀ t I, k t I → k' t I) (q : mm_cpy sh st I k) : mm_cpy sh st I k' := by
  unfold mm_cpy at q ⊢
  split at q
  · exact ⟨q.1, q.2.1, h _ _ q.2.2⟩
  · exact q.elim
def mm_le (c1 c2 : mm_C) : Prop := ∀ m as I L (Q Q' : mm_Q), (∀ I L a b, Q I L a b → Q' I L a b) → c1 m as I L Q → c2 m as I L Q'
theorem mm_inv_mono {c1 c2 : mm_C} (hc : mm_le c1 c2) {K K' : mm_K} (hK : ∀ i lo st I L, K i lo st I L → K' i lo st I L) {m n rk i : Nat} {lo st : List Value} {I : mm_I} {L : mm_L} (q : mm_inv c1 K m n rk i lo st I L) : mm_inv c2 K' m n rk i lo st I L := by
  unfold mm_inv at q ⊢
  split at q
  · exact ⟨q.1, hc _ _ _ _ _ _ (fun _ _ _ _ z => hK _ _ _ _ _ z) q.2⟩
  · exact q.elim
set_option maxHeartbeats 4000000 in
theorem mm_st_mono {sh : mm_S} {c1 c2 : mm_C} (hc : mm_le c1 c2) {Q Q' : mm_Q} (hQ : ∀ I L a b, Q I L a b → Q' I L a b) {K K' : mm_K} (hK : ∀ i lo st I L, K i lo st I L → K' i lo st I L) {ins : Instr} {x y u w : Nat} {z : Int} {ts : List Nat} {i : Nat} {lo st : List Value} {I : mm_I} {L : mm_L}
    (h : mm_st sh c1 Q K ins x y u w z ts i lo st I L) : mm_st sh c2 Q' K' ins x y u w z ts i lo st I L := by
  unfold mm_st at h ⊢
  split at h
  all_goals first
    | exact h.elim
    | exact hK _ _ _ _ _ h
    | exact hQ _ _ _ _ h
    | exact mm_ldi_mono (fun _ => hK _ _ _ _ _) h
    | exact mm_ldl_mono (fun _ => hK _ _ _ _ _) h
    | exact mm_lda_mono (fun _ => hK _ _ _ _ _) h
    | exact mm_i_mono (fun _ _ => hK _ _ _ _ _) h
    | exact mm_ii_mono (fun _ _ _ => hK _ _ _ _ _) h
    | exact mm_l_mono (fun _ _ => hK _ _ _ _ _) h
    | exact mm_ll_mono (fun _ _ _ => hK _ _ _ _ _) h
    | exact mm_i_mono (fun _ _ q => ⟨q.1, hK _ _ _ _ _ q.2⟩) h
    | exact mm_ii_mono (fun _ _ _ q => ⟨q.1, hK _ _ _ _ _ q.2⟩) h
    | exact mm_l_mono (fun _ _ q => ⟨q.1, hK _ _ _ _ _ q.2⟩) h
    | exact mm_a_mono (fun _ _ q => ⟨q.1, hK _ _ _ _ _ q.2⟩) h
    | exact mm_ia2_mono (fun _ _ _ => hK _ _ _ _ _) h
    | exact mm_ia2_mono (fun _ _ _ q => ⟨q.1, hK _ _ _ _ _ q.2⟩) h
    | exact mm_ii_mono (fun _ _ _ q => ⟨fun e => hK _ _ _ _ _ (q.1 e), fun e => hK _ _ _ _ _ (q.2 e)⟩) h
    | exact mm_i_mono (fun _ _ q => ⟨fun e => hK _ _ _ _ _ (q.1 e), fun e => hK _ _ _ _ _ (q.2 e)⟩) h
    | exact mm_i_mono (fun _ _ q => ⟨mm_sw_mono (fun _ => hK _ _ _ _ _) _ _ q.1, fun e => hK _ _ _ _ _ (q.2 e)⟩) h
    | exact mm_a_mono (fun _ _ => mm_get_mono (fun _ => hK _ _ _ _ _)) h
    | exact mm_put_mono (fun _ _ _ => hK _ _ _ _ _) h
    | exact ⟨h.1, mm_inv_mono hc hK h.2⟩
    | (split at h
       all_goals first
         | exact h.elim
         | exact hK _ _ _ _ _ h
         | exact ⟨h.1, hK _ _ _ _ _ h.2⟩
         | exact ⟨h.1, hQ _ _ _ _ h.2⟩
         | exact hQ _ _ _ _ h
         | exact mm_l_mono (fun _ _ q => ⟨q.1, hK _ _ _ _ _ q.2⟩) h
         | exact mm_ii_mono (fun _ _ _ q => ⟨q.1, hK _ _ _ _ _ q.2⟩) h
         | exact mm_ll_mono (fun _ _ _ q => ⟨q.1, hK _ _ _ _ _ q.2⟩) h
         | exact mm_cpy_mono (fun _ _ => hK _ _ _ _ _) h
         | exact mm_inv_mono hc hK h)
theorem mm_one_mono {sh : mm_S} {c1 c2 : mm_C} (hc : mm_le c1 c2) {tb : List mm_E} {Q Q' : mm_Q} (hQ : ∀ I L a b, Q I L a b → Q' I L a b) {K K' : mm_K} (hK : ∀ i lo st I L, K i lo st I L → K' i lo st I L) {i : Nat} {lo st : List Value} {I : mm_I} {L : mm_L}
    (h : mm_one sh c1 tb Q K i lo st I L) : mm_one sh c2 tb Q' K' i lo st I L := by
  unfold mm_one at h ⊢
  split at h
  · exact mm_st_mono hc hQ hK h
  · exact h.elim
theorem mm_W_mono {sh : mm_S} {c1 c2 : mm_C} (hc : mm_le c1 c2) {tb : List mm_E} {Q Q' : mm_Q} (hQ : ∀ I L a b, Q I L a b → Q' I L a b) {i : Nat} {lo st : List Value} {I : mm_I} {L : mm_L}
    (h : mm_W sh c1 tb Q i lo st I L) : mm_W sh c2 tb Q' i lo st I L :=
  fun X hX => h X (fun i lo st I L q => hX i lo st I L (mm_one_mono hc hQ (fun _ _ _ _ _ z => z) q))
theorem mm_P_le (sh : mm_S) (ms : List mm_M) : ∀ d, mm_le (mm_P sh ms d) (mm_P sh ms d) ∧ mm_le (mm_P sh ms d) (mm_P sh ms (d + 1)) := by
  intro d
  induction d with
  | zero => exact ⟨fun _ _ _ _ _ _ _ h => h.elim, fun _ _ _ _ _ _ _ h => h.elim⟩
  | succ d ih =>
    refine ⟨fun m as I L Q Q' hQ h => ?_, fun m as I L Q Q' hQ h => ?_⟩
    · unfold mm_P at h ⊢
      split at h
      · exact ⟨h.1, mm_W_mono ih.1 hQ h.2⟩
      · exact h.elim
    · unfold mm_P at h ⊢
      split at h
      · exact ⟨h.1, mm_W_mono ih.2 hQ h.2⟩
      · exact h.elim
theorem mm_W_fold {sh : mm_S} {call : mm_C} (hc : mm_le call call) {tb : List mm_E} {Q : mm_Q} {i : Nat} {lo st : List Value} {I : mm_I} {L : mm_L}
    (h : mm_one sh call tb Q (mm_W sh call tb Q) i lo st I L) : mm_W sh call tb Q i lo st I L :=
  fun X hX => hX _ _ _ _ _ (mm_one_mono hc (fun _ _ _ _ z => z) (fun _ _ _ _ _ z => z X hX) h)
theorem mm_v_ok {sh : mm_S} {call : mm_C} (hc : mm_le call call) {tb : List mm_E} {Q : mm_Q} : ∀ (n : Nat) {i : Nat} {lo st : List Value} {I : mm_I} {L : mm_L}, mm_v sh call tb Q n i lo st I L → mm_W sh call tb Q i lo st I L := by
  intro n
  induction n with
  | zero => intro i lo st I L h; exact h
  | succ n ih =>
    intro i lo st I L h
    unfold mm_v at h
    split at h
    · rename_i he
      split at h
      · exact h
      · refine mm_W_fold hc ?_
        unfold mm_one
        rw [he]
        exact mm_st_mono hc (fun _ _ _ _ z => z) (fun _ _ _ _ _ => ih) h
    · exact h.elim
theorem mm_h_ok {sh : mm_S} {call : mm_C} (hc : mm_le call call) {tb : List mm_E} {Q : mm_Q} (n : Nat) {i : Nat} {lo st : List Value} {I : mm_I} {L : mm_L} (h : mm_h sh call tb Q n i lo st I L) : mm_W sh call tb Q i lo st I L := by
  unfold mm_h at h
  split at h
  · rename_i he
    refine mm_W_fold hc ?_
    unfold mm_one
    rw [he]
    exact mm_st_mono hc (fun _ _ _ _ z => z) (fun _ _ _ _ _ => mm_v_ok hc n) h
  · exact h.elim
