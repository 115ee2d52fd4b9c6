section
/-! ===== A small machine over fixed cells: ints and longs by (cell, place); its one-instruction transformer, its least fixed point, its calls by depth ===== -/
abbrev mm_I : Type := Nat → Nat → Int32
abbrev mm_L : Type := Nat → Nat → Int64
abbrev mm_Q : Type := mm_I → mm_L → Int32 → Int64 → Prop
abbrev mm_K : Type := Nat → List Value → List Value → mm_I → mm_L → Prop
abbrev mm_C : Type := Nat → List Value → mm_I → mm_L → mm_Q → Prop
/-- a cell: (0, number of its kind, its fields' kinds), (1, length of a row of ints), (2, length of a row of longs); a field: 0 int, 1 long, 2 boolean, r + 3 the cell r -/
abbrev mm_S : Type := List (Nat × Nat × List Nat)
/-- an entry: place of the byte, instruction, length, a loop's head or not, and what its links say -/
abbrev mm_E : Type := Nat × Instr × Nat × Bool × Nat × Nat × Nat × Nat × Int × List Nat
/-- a method: name, bytes, locals, answer, number of its owner, kind of answer (0 none, 1 int, 2 long), its entries -/
abbrev mm_M : Type := MethodName × ByteArray × Nat × Option FieldType × Nat × Nat × List mm_E
def mm_ui (I : mm_I) (a k : Nat) (v : Int32) : mm_I := fun b j => if b = a then (if j = k then v else I b j) else I b j
def mm_ul (L : mm_L) (a k : Nat) (v : Int64) : mm_L := fun b j => if b = a then (if j = k then v else L b j) else L b j
/-- a row of ints written over -/
def mm_ur (I : mm_I) (a : Nat) (f : Nat → Int32) : mm_I := fun b j => if b = a then f j else I b j
def mm_ia (sh : mm_S) (a : Nat) : Nat := match sh[a]? with
  | some (1, n, _) => n
  | _ => 0
def mm_la (sh : mm_S) (a : Nat) : Nat := match sh[a]? with
  | some (2, n, _) => n
  | _ => 0
def mm_ldi (lo : List Value) (n : Nat) (k : Int32 → Prop) : Prop := match lo[n]? with
  | some (.int a) => k a
  | _ => False
def mm_ldl (lo : List Value) (n : Nat) (k : Int64 → Prop) : Prop := match lo[n]? with
  | some (.long a) => k a
  | _ => False
def mm_lda (lo : List Value) (n : Nat) (k : Nat → Prop) : Prop := match lo[n]? with
  | some (.ref a) => k a
  | _ => False
def mm_cut (lo : List Value) (n : Nat) : List Value := if (lo.getD n .null).category = 2 then lo.set n .null else lo
def mm_set1 (lo : List Value) (n : Nat) (v : Value) : List Value := match n with
  | 0 => lo.set 0 v
  | k + 1 => (mm_cut lo k).set (k + 1) v
def mm_set2 (lo : List Value) (n : Nat) (v : Value) : List Value := (mm_set1 lo n v).set (n + 1) .null
def mm_ct : List Value → Nat
  | [] => 0
  | v :: t => v.category + mm_ct t
def mm_pop : Nat → List Value → List Value → Option (List Value × List Value)
  | 0, acc, st => some (acc, st)
  | _ + 1, _, [] => none
  | n + 1, acc, v :: st => mm_pop n (v :: acc) st
def mm_push (rk : Nat) (ri : Int32) (rl : Int64) (st : List Value) : List Value := match rk with
  | 0 => st
  | 1 => .int ri :: st
  | _ => .long rl :: st
/-- a switch: the value against lo, lo + 1 .. -/
def mm_sw (z : Int32) (K : Nat → Prop) : Int → List Nat → Prop
  | _, [] => True
  | n, t :: ts => (z = Int32.ofInt n → K t) ∧ mm_sw z K (n + 1) ts
def mm_cmp (c : Jvm.ClassFile.Cond) (a b : Int32) : Prop := match c with
  | .eq => a = b
  | .ne => ¬ a = b
  | .lt => a < b
  | .ge => b ≤ a
  | .gt => b < a
  | .le => a ≤ b
def mm_ii (st : List Value) (k : Int32 → Int32 → List Value → Prop) : Prop := match st with
  | .int b :: .int a :: r => k a b r
  | _ => False
def mm_i (st : List Value) (k : Int32 → List Value → Prop) : Prop := match st with
  | .int a :: r => k a r
  | _ => False
def mm_ll (st : List Value) (k : Int64 → Int64 → List Value → Prop) : Prop := match st with
  | .long b :: .long a :: r => k a b r
  | _ => False
def mm_l (st : List Value) (k : Int64 → List Value → Prop) : Prop := match st with
  | .long a :: r => k a r
  | _ => False
def mm_a (st : List Value) (k : Nat → List Value → Prop) : Prop := match st with
  | .ref a :: r => k a r
  | _ => False
def mm_ia2 (st : List Value) (k : Nat → Int32 → List Value → Prop) : Prop := match st with
  | .int j :: .ref a :: r => k a j r
  | _ => False
def mm_get (x y u r : Nat) (I : mm_I) (L : mm_L) (k : Value → Prop) : Prop := r = x ∧ (match u with
  | 0 => k (.int (I x y))
  | 1 => k (.long (L x y))
  | 2 => k (.int (I x y))
  | n + 3 => k (.ref n))
def mm_put (x y u : Nat) (st : List Value) (I : mm_I) (L : mm_L) (k : List Value → mm_I → mm_L → Prop) : Prop := match u with
  | 0 => (match st with
    | .int v :: .ref r :: t => r = x ∧ k t (mm_ui I x y v) L
    | _ => False)
  | 1 => (match st with
    | .long v :: .ref r :: t => r = x ∧ k t I (mm_ul L x y v)
    | _ => False)
  | 2 => (match st with
    | .int v :: .ref r :: t => r = x ∧ (v = 0 ∨ v = 1) ∧ k t (mm_ui I x y v) L
    | _ => False)
  | _ => False
/-- a call of a method of ours -/
def mm_inv (call : mm_C) (K : mm_K) (m n rk : Nat) (i : Nat) (lo st : List Value) (I : mm_I) (L : mm_L) : Prop := match mm_pop n [] st with
  | some (as, t) => mm_ct t ≤ 8 ∧ call m as I L (fun I' L' ri rl => K (i + 1) lo (mm_push rk ri rl t) I' L')
  | none => False
def mm_rcv (n w : Nat) (st : List Value) : Prop := match mm_pop n [] st with
  | some (.ref r :: _, _) => r = w
  | _ => False
/-- System.arraycopy of rows of ints -/
def mm_cpy (sh : mm_S) (st : List Value) (I : mm_I) (k : List Value → mm_I → Prop) : Prop := match st with
  | .int n :: .int dp :: .ref b :: .int sp :: .ref a :: t => mm_ct t ≤ 8 ∧ (a < sh.length ∧ b < sh.length ∧ 0 < mm_ia sh a ∧ 0 < mm_ia sh b ∧ ¬ sp < 0 ∧ ¬ dp < 0 ∧ ¬ n < 0 ∧ sp.toNatClampNeg + n.toNatClampNeg ≤ mm_ia sh a ∧ dp.toNatClampNeg + n.toNatClampNeg ≤ mm_ia sh b) ∧ k t (mm_ur I b (va_cpy (I a) (I b) sp.toNatClampNeg dp.toNatClampNeg n.toNatClampNeg))
  | _ => False
/-- one instruction -/
def mm_st (sh : mm_S) (call : mm_C) (Q : mm_Q) (K : mm_K) (ins : Instr) (x y u w : Nat) (z : Int) (ts : List Nat) (i : Nat) (lo st : List Value) (I : mm_I) (L : mm_L) : Prop := match ins with
  | .aload n => mm_lda lo n (fun a => K (i + 1) lo (.ref a :: st) I L)
  | .aload_n n => mm_lda lo n.val (fun a => K (i + 1) lo (.ref a :: st) I L)
  | .iload n => mm_ldi lo n (fun a => K (i + 1) lo (.int a :: st) I L)
  | .iload_n n => mm_ldi lo n.val (fun a => K (i + 1) lo (.int a :: st) I L)
  | .lload n => mm_ldl lo n (fun a => K (i + 1) lo (.long a :: st) I L)
  | .lload_n n => mm_ldl lo n.val (fun a => K (i + 1) lo (.long a :: st) I L)
  | .istore n => mm_i st (fun a t => n < lo.length ∧ K (i + 1) (mm_set1 lo n (.int a)) t I L)
  | .istore_n n => mm_i st (fun a t => n.val < lo.length ∧ K (i + 1) (mm_set1 lo n.val (.int a)) t I L)
  | .astore n => mm_a st (fun a t => n < lo.length ∧ K (i + 1) (mm_set1 lo n (.ref a)) t I L)
  | .astore_n n => mm_a st (fun a t => n.val < lo.length ∧ K (i + 1) (mm_set1 lo n.val (.ref a)) t I L)
  | .lstore n => mm_l st (fun a t => n + 1 < lo.length ∧ K (i + 1) (mm_set2 lo n (.long a)) t I L)
  | .lstore_n n => mm_l st (fun a t => n.val + 1 < lo.length ∧ K (i + 1) (mm_set2 lo n.val (.long a)) t I L)
  | .iinc n c => mm_ldi lo n (fun a => K (i + 1) (mm_set1 lo n (.int (a + Int32.ofInt c))) st I L)
  | .iconst c => K (i + 1) lo (.int (Int32.ofInt c) :: st) I L
  | .bipush c => K (i + 1) lo (.int (Int8.ofInt c).toInt32 :: st) I L
  | .sipush c => K (i + 1) lo (.int (Int16.ofInt c).toInt32 :: st) I L
  | .lconst c => K (i + 1) lo (.long (Int64.ofNat c.val) :: st) I L
  | .ldc _ => K (i + 1) lo (.int (Int32.ofInt z) :: st) I L
  | .ldc_w _ => K (i + 1) lo (.int (Int32.ofInt z) :: st) I L
  | .ldc2_w _ => K (i + 1) lo (.long (Int64.ofInt z) :: st) I L
  | .iadd => mm_ii st (fun a b t => K (i + 1) lo (.int (a + b) :: t) I L)
  | .isub => mm_ii st (fun a b t => K (i + 1) lo (.int (a - b) :: t) I L)
  | .imul => mm_ii st (fun a b t => K (i + 1) lo (.int (a * b) :: t) I L)
  | .iand => mm_ii st (fun a b t => K (i + 1) lo (.int (a &&& b) :: t) I L)
  | .ior => mm_ii st (fun a b t => K (i + 1) lo (.int (a ||| b) :: t) I L)
  | .ixor => mm_ii st (fun a b t => K (i + 1) lo (.int (a ^^^ b) :: t) I L)
  | .ishl => mm_ii st (fun a b t => K (i + 1) lo (.int (a <<< (b &&& 31)) :: t) I L)
  | .ishr => mm_ii st (fun a b t => K (i + 1) lo (.int (a >>> (b &&& 31)) :: t) I L)
  | .iushr => mm_ii st (fun a b t => K (i + 1) lo (.int (a.toUInt32 >>> (b.toUInt32 &&& Int32.toUInt32 31)).toInt32 :: t) I L)
  | .idiv => mm_ii st (fun a b t => ¬ b = 0 ∧ K (i + 1) lo (.int (a / b) :: t) I L)
  | .irem => mm_ii st (fun a b t => ¬ b = 0 ∧ K (i + 1) lo (.int (a - a / b * b) :: t) I L)
  | .ladd => mm_ll st (fun a b t => K (i + 1) lo (.long (a + b) :: t) I L)
  | .lsub => mm_ll st (fun a b t => K (i + 1) lo (.long (a - b) :: t) I L)
  | .lmul => mm_ll st (fun a b t => K (i + 1) lo (.long (a * b) :: t) I L)
  | .lneg => mm_l st (fun a t => K (i + 1) lo (.long (-a) :: t) I L)
  | .lcmp => mm_ll st (fun a b t => K (i + 1) lo (.int (lg_cmp a b) :: t) I L)
  | .i2l => mm_i st (fun a t => K (i + 1) lo (.long a.toInt64 :: t) I L)
  | .l2i => mm_l st (fun a t => K (i + 1) lo (.int a.toInt32 :: t) I L)
  | .dup => (match st with
    | .int a :: t => K (i + 1) lo (.int a :: .int a :: t) I L
    | .ref a :: t => K (i + 1) lo (.ref a :: .ref a :: t) I L
    | _ => False)
  | .dup2 => mm_ia2 st (fun a j t => K (i + 1) lo (.int j :: .ref a :: .int j :: .ref a :: t) I L)
  | .goto _ => K x lo st I L
  | .if_icmp c _ => mm_ii st (fun a b t => (mm_cmp c a b → K x lo t I L) ∧ (¬ mm_cmp c a b → K (i + 1) lo t I L))
  | .ifCond c _ => mm_i st (fun a t => (mm_cmp c a 0 → K x lo t I L) ∧ (¬ mm_cmp c a 0 → K (i + 1) lo t I L))
  | .tableswitch _ n h _ => mm_i st (fun a t => mm_sw a (fun j => K j lo t I L) n ts ∧ ((a.toInt < n ∨ h < a.toInt) → K x lo t I L))
  | .getfield _ => mm_a st (fun r t => mm_get x y u r I L (fun v => K (i + 1) lo (v :: t) I L))
  | .putfield _ => mm_put x y u st I L (fun t I' L' => K (i + 1) lo t I' L')
  | .iaload => mm_ia2 st (fun a j t => vp_in j (mm_ia sh a) ∧ K (i + 1) lo (.int (I a j.toNatClampNeg) :: t) I L)
  | .laload => mm_ia2 st (fun a j t => vp_in j (mm_la sh a) ∧ K (i + 1) lo (.long (L a j.toNatClampNeg) :: t) I L)
  | .iastore => (match st with
    | .int v :: .int j :: .ref a :: t => vp_in j (mm_ia sh a) ∧ K (i + 1) lo t (mm_ui I a j.toNatClampNeg v) L
    | _ => False)
  | .lastore => (match st with
    | .long v :: .int j :: .ref a :: t => vp_in j (mm_la sh a) ∧ K (i + 1) lo t I (mm_ul L a j.toNatClampNeg v)
    | _ => False)
  | .arraylength => mm_a st (fun a t => ¬ mm_ia sh a + mm_la sh a = 0 ∧ K (i + 1) lo (.int (Int32.ofNat (mm_ia sh a + mm_la sh a)) :: t) I L)
  | .invokevirtual _ => mm_rcv y w st ∧ mm_inv call K x y u i lo st I L
  | .invokestatic _ => (match u with
    | 10 => mm_l st (fun a t => mm_ct t ≤ 8 ∧ K (i + 1) lo (.long (if 0 < a then a else -a) :: t) I L)
    | 11 => mm_ii st (fun a b t => mm_ct t ≤ 8 ∧ K (i + 1) lo (.int (if a < b then b else a) :: t) I L)
    | 12 => mm_ll st (fun a b t => mm_ct t ≤ 8 ∧ K (i + 1) lo (.long (if b < a then a else b) :: t) I L)
    | 13 => mm_ll st (fun a b t => mm_ct t ≤ 8 ∧ K (i + 1) lo (.long (if b < a then b else a) :: t) I L)
    | 14 => mm_cpy sh st I (fun t I' => K (i + 1) lo t I' L)
    | _ => mm_inv call K x y u i lo st I L)
  | .ireturn => (match st with
    | [.int a] => (u = 1 → a = 0 ∨ a = 1) ∧ Q I L a 0
    | _ => False)
  | .lreturn => (match st with
    | [.long a] => Q I L 0 a
    | _ => False)
  | .return_ => (match st with
    | [] => Q I L 0 0
    | _ => False)
  | _ => False
def mm_one (sh : mm_S) (call : mm_C) (tb : List mm_E) (Q : mm_Q) (K : mm_K) : mm_K := fun i lo st I L => match tb[i]? with
  | some (_, ins, _, _, x, y, u, w, z, ts) => mm_st sh call Q K ins x y u w z ts i lo st I L
  | none => False
/-- from this frame on the method returns, and Q holds then: the least fixed point of one instruction -/
def mm_W (sh : mm_S) (call : mm_C) (tb : List mm_E) (Q : mm_Q) : mm_K := fun i lo st I L => ∀ X : mm_K, (∀ i lo st I L, mm_one sh call tb Q X i lo st I L → X i lo st I L) → X i lo st I L
def mm_sl : List Value → List Value
  | [] => []
  | v :: t => if v.category = 2 then v :: .null :: mm_sl t else v :: mm_sl t
def mm_en (n : Nat) (as : List Value) : List Value := mm_sl as ++ List.replicate (n - (mm_sl as).length) .null
/-- a method, called with at most d methods open at once -/
def mm_P (sh : mm_S) (ms : List mm_M) : Nat → mm_C
  | 0 => fun _ _ _ _ _ => False
  | d + 1 => fun m as I L Q => match ms[m]? with
    | some (_, _, n, _, _, _, tb) => (mm_sl as).length ≤ n ∧ mm_W sh (mm_P sh ms d) tb Q 0 (mm_en n as) [] I L
    | none => False
/-- instructions one behind another, up to a loop's head -/
def mm_v (sh : mm_S) (call : mm_C) (tb : List mm_E) (Q : mm_Q) : Nat → mm_K
  | 0 => mm_W sh call tb Q
  | n + 1 => fun i lo st I L => match tb[i]? with
    | some (_, ins, _, hd, x, y, u, w, z, ts) => (match hd with
      | true => mm_W sh call tb Q i lo st I L
      | false => mm_st sh call Q (mm_v sh call tb Q n) ins x y u w z ts i lo st I L)
    | none => False
/-- the same, from a head on -/
def mm_h (sh : mm_S) (call : mm_C) (tb : List mm_E) (Q : mm_Q) (n : Nat) : mm_K := fun i lo st I L => match tb[i]? with
  | some (_, ins, _, _, x, y, u, w, z, ts) => mm_st sh call Q (mm_v sh call tb Q n) ins x y u w z ts i lo st I L
  | none => False
/-! what is monotone -/
def mm_leC (c1 c2 : mm_C) : Prop := ∀ m as I L Q, c1 m as I L Q → c2 m as I L Q
def mm_moC (c : mm_C) : Prop := ∀ m as I L (Q Q' : mm_Q), (∀ I L a b, Q I L a b → Q' I L a b) → c m as I L Q → c m as I L Q'
theorem mm_sw_mono {z : Int32} {K K' : Nat → Prop} (h : ∀ j, K j → K' j) : ∀ (n : Int) (ts : List Nat), mm_sw z K n ts → mm_sw z K' n ts := by
  intro n ts
  induction ts generalizing n with
  | nil => intro _; trivial
  | cons t ts ih => intro q; exact ⟨fun e => h _ (q.1 e), ih _ q.2⟩
theorem mm_ldi_mono {lo : List Value} {n : Nat} {k k' : Int32 → Prop} (h : ∀ a, k a → k' a) (q : mm_ldi lo n k) : mm_ldi lo n k' := by
  unfold mm_ldi at q ⊢
  split at q
  · exact h _ q
  · exact q.elim
theorem mm_ldl_mono {lo : List Value} {n : Nat} {k k' : Int64 → Prop} (h : ∀ a, k a → k' a) (q : mm_ldl lo n k) : mm_ldl lo n k' := by
  unfold mm_ldl at q ⊢
  split at q
  · exact h _ q
  · exact q.elim
theorem mm_lda_mono {lo : List Value} {n : Nat} {k k' : Nat → Prop} (h : ∀ a, k a → k' a) (q : mm_lda lo n k) : mm_lda lo n k' := by
  unfold mm_lda at q ⊢
  split at q
  · exact h _ q
  · exact q.elim
theorem mm_ii_mono {st : List Value} {k k' : Int32 → Int32 → List Value → Prop} (h : ∀ a b t, k a b t → k' a b t) (q : mm_ii st k) : mm_ii st k' := by
  unfold mm_ii at q ⊢
  split at q
  · exact h _ _ _ q
  · exact q.elim
theorem mm_i_mono {st : List Value} {k k' : Int32 → List Value → Prop} (h : ∀ a t, k a t → k' a t) (q : mm_i st k) : mm_i st k' := by
  unfold mm_i at q ⊢
  split at q
  · exact h _ _ q
  · exact q.elim
theorem mm_ll_mono {st : List Value} {k k' : Int64 → Int64 → List Value → Prop} (h : ∀ a b t, k a b t → k' a b t) (q : mm_ll st k) : mm_ll st k' := by
  unfold mm_ll at q ⊢
  split at q
  · exact h _ _ _ q
  · exact q.elim
theorem mm_l_mono {st : List Value} {k k' : Int64 → List Value → Prop} (h : ∀ a t, k a t → k' a t) (q : mm_l st k) : mm_l st k' := by
  unfold mm_l at q ⊢
  split at q
  · exact h _ _ q
  · exact q.elim
theorem mm_a_mono {st : List Value} {k k' : Nat → List Value → Prop} (h : ∀ a t, k a t → k' a t) (q : mm_a st k) : mm_a st k' := by
  unfold mm_a at q ⊢
  split at q
  · exact h _ _ q
  · exact q.elim
theorem mm_ia2_mono {st : List Value} {k k' : Nat → Int32 → List Value → Prop} (h : ∀ a j t, k a j t → k' a j t) (q : mm_ia2 st k) : mm_ia2 st k' := by
  unfold mm_ia2 at q ⊢
  split at q
  · exact h _ _ _ q
  · exact q.elim
theorem mm_get_mono {x y u r : Nat} {I : mm_I} {L : mm_L} {k k' : Value → Prop} (h : ∀ v, k v → k' v) (q : mm_get x y u r I L k) : mm_get x y u r I L k' := by
  unfold mm_get at q ⊢
  refine ⟨q.1, ?_⟩
  have q2 := q.2
  split at q2 <;> exact h _ q2
theorem mm_put_mono {x y u : Nat} {st : List Value} {I : mm_I} {L : mm_L} {k k' : List Value → mm_I → mm_L → Prop} (h : ∀ t I L, k t I L → k' t I L) (q : mm_put x y u st I L k) : mm_put x y u st I L k' := by
  unfold mm_put at q ⊢
  split at q
  · split at q
    · exact ⟨q.1, h _ _ _ q.2⟩
    · exact q.elim
  · split at q
    · exact ⟨q.1, h _ _ _ q.2⟩
    · exact q.elim
  · split at q
    · exact ⟨q.1, q.2.1, h _ _ _ q.2.2⟩
    · exact q.elim
  · exact q.elim
theorem mm_cpy_mono {sh : mm_S} {st : List Value} {I : mm_I} {k k' : List Value → mm_I → Prop} (h : ∀ t I, k t I → k' t I) (q : mm_cpy sh st I k) : mm_cpy sh st I k' := by
  unfold mm_cpy at q ⊢
  split at q
  · exact ⟨q.1, q.2.1, h _ _ q.2.2⟩
  · exact q.elim
def mm_le (c1 c2 : mm_C) : Prop := ∀ m as I L (Q Q' : mm_Q), (∀ I L a b, Q I L a b → Q' I L a b) → c1 m as I L Q → c2 m as I L Q'
theorem mm_inv_mono {c1 c2 : mm_C} (hc : mm_le c1 c2) {K K' : mm_K} (hK : ∀ i lo st I L, K i lo st I L → K' i lo st I L) {m n rk i : Nat} {lo st : List Value} {I : mm_I} {L : mm_L} (q : mm_inv c1 K m n rk i lo st I L) : mm_inv c2 K' m n rk i lo st I L := by
  unfold mm_inv at q ⊢
  split at q
  · exact ⟨q.1, hc _ _ _ _ _ _ (fun _ _ _ _ z => hK _ _ _ _ _ z) q.2⟩
  · exact q.elim
set_option maxHeartbeats 4000000 in
theorem mm_st_mono {sh : mm_S} {c1 c2 : mm_C} (hc : mm_le c1 c2) {Q Q' : mm_Q} (hQ : ∀ I L a b, Q I L a b → Q' I L a b) {K K' : mm_K} (hK : ∀ i lo st I L, K i lo st I L → K' i lo st I L) {ins : Instr} {x y u w : Nat} {z : Int} {ts : List Nat} {i : Nat} {lo st : List Value} {I : mm_I} {L : mm_L}
    (h : mm_st sh c1 Q K ins x y u w z ts i lo st I L) : mm_st sh c2 Q' K' ins x y u w z ts i lo st I L := by
  unfold mm_st at h ⊢
  split at h
  all_goals first
    | exact h.elim
    | exact hK _ _ _ _ _ h
    | exact hQ _ _ _ _ h
    | exact mm_ldi_mono (fun _ => hK _ _ _ _ _) h
    | exact mm_ldl_mono (fun _ => hK _ _ _ _ _) h
    | exact mm_lda_mono (fun _ => hK _ _ _ _ _) h
    | exact mm_i_mono (fun _ _ => hK _ _ _ _ _) h
    | exact mm_ii_mono (fun _ _ _ => hK _ _ _ _ _) h
    | exact mm_l_mono (fun _ _ => hK _ _ _ _ _) h
    | exact mm_ll_mono (fun _ _ _ => hK _ _ _ _ _) h
    | exact mm_i_mono (fun _ _ q => ⟨q.1, hK _ _ _ _ _ q.2⟩) h
    | exact mm_ii_mono (fun _ _ _ q => ⟨q.1, hK _ _ _ _ _ q.2⟩) h
    | exact mm_l_mono (fun _ _ q => ⟨q.1, hK _ _ _ _ _ q.2⟩) h
    | exact mm_a_mono (fun _ _ q => ⟨q.1, hK _ _ _ _ _ q.2⟩) h
    | exact mm_ia2_mono (fun _ _ _ => hK _ _ _ _ _) h
    | exact mm_ia2_mono (fun _ _ _ q => ⟨q.1, hK _ _ _ _ _ q.2⟩) h
    | exact mm_ii_mono (fun _ _ _ q => ⟨fun e => hK _ _ _ _ _ (q.1 e), fun e => hK _ _ _ _ _ (q.2 e)⟩) h
    | exact mm_i_mono (fun _ _ q => ⟨fun e => hK _ _ _ _ _ (q.1 e), fun e => hK _ _ _ _ _ (q.2 e)⟩) h
    | exact mm_i_mono (fun _ _ q => ⟨mm_sw_mono (fun _ => hK _ _ _ _ _) _ _ q.1, fun e => hK _ _ _ _ _ (q.2 e)⟩) h
    | exact mm_a_mono (fun _ _ => mm_get_mono (fun _ => hK _ _ _ _ _)) h
    | exact mm_put_mono (fun _ _ _ => hK _ _ _ _ _) h
    | exact ⟨h.1, mm_inv_mono hc hK h.2⟩
    | (split at h
       all_goals first
         | exact h.elim
         | exact hK _ _ _ _ _ h
         | exact ⟨h.1, hK _ _ _ _ _ h.2⟩
         | exact ⟨h.1, hQ _ _ _ _ h.2⟩
         | exact hQ _ _ _ _ h
         | exact mm_l_mono (fun _ _ q => ⟨q.1, hK _ _ _ _ _ q.2⟩) h
         | exact mm_ii_mono (fun _ _ _ q => ⟨q.1, hK _ _ _ _ _ q.2⟩) h
         | exact mm_ll_mono (fun _ _ _ q => ⟨q.1, hK _ _ _ _ _ q.2⟩) h
         | exact mm_cpy_mono (fun _ _ => hK _ _ _ _ _) h
         | exact mm_inv_mono hc hK h)
theorem mm_one_mono {sh : mm_S} {c1 c2 : mm_C} (hc : mm_le c1 c2) {tb : List mm_E} {Q Q' : mm_Q} (hQ : ∀ I L a b, Q I L a b → Q' I L a b) {K K' : mm_K} (hK : ∀ i lo st I L, K i lo st I L → K' i lo st I L) {i : Nat} {lo st : List Value} {I : mm_I} {L : mm_L}
    (h : mm_one sh c1 tb Q K i lo st I L) : mm_one sh c2 tb Q' K' i lo st I L := by
  unfold mm_one at h ⊢
  split at h
  · exact mm_st_mono hc hQ hK h
  · exact h.elim
theorem mm_W_mono {sh : mm_S} {c1 c2 : mm_C} (hc : mm_le c1 c2) {tb : List mm_E} {Q Q' : mm_Q} (hQ : ∀ I L a b, Q I L a b → Q' I L a b) {i : Nat} {lo st : List Value} {I : mm_I} {L : mm_L}
    (h : mm_W sh c1 tb Q i lo st I L) : mm_W sh c2 tb Q' i lo st I L :=
  fun X hX => h X (fun i lo st I L q => hX i lo st I L (mm_one_mono hc hQ (fun _ _ _ _ _ z => z) q))
theorem mm_P_le (sh : mm_S) (ms : List mm_M) : ∀ d, mm_le (mm_P sh ms d) (mm_P sh ms d) ∧ mm_le (mm_P sh ms d) (mm_P sh ms (d + 1)) := by
  intro d
  induction d with
  | zero => exact ⟨fun _ _ _ _ _ _ _ h => h.elim, fun _ _ _ _ _ _ _ h => h.elim⟩
  | succ d ih =>
    refine ⟨fun m as I L Q Q' hQ h => ?_, fun m as I L Q Q' hQ h => ?_⟩
    · unfold mm_P at h ⊢
      split at h
      · exact ⟨h.1, mm_W_mono ih.1 hQ h.2⟩
      · exact h.elim
    · unfold mm_P at h ⊢
      split at h
      · exact ⟨h.1, mm_W_mono ih.2 hQ h.2⟩
      · exact h.elim
theorem mm_W_fold {sh : mm_S} {call : mm_C} (hc : mm_le call call) {tb : List mm_E} {Q : mm_Q} {i : Nat} {lo st : List Value} {I : mm_I} {L : mm_L}
    (h : mm_one sh call tb Q (mm_W sh call tb Q) i lo st I L) : mm_W sh call tb Q i lo st I L :=
  fun X hX => hX _ _ _ _ _ (mm_one_mono hc (fun _ _ _ _ z => z) (fun _ _ _ _ _ z => z X hX) h)
theorem mm_v_ok {sh : mm_S} {call : mm_C} (hc : mm_le call call) {tb : List mm_E} {Q : mm_Q} : ∀ (n : Nat) {i : Nat} {lo st : List Value} {I : mm_I} {L : mm_L}, mm_v sh call tb Q n i lo st I L → mm_W sh call tb Q i lo st I L := by
  intro n
  induction n with
  | zero => intro i lo st I L h; exact h
  | succ n ih =>
    intro i lo st I L h
    unfold mm_v at h
    split at h
    · rename_i he
      split at h
      · exact h
      · refine mm_W_fold hc ?_
        unfold mm_one
        rw [he]
        exact mm_st_mono hc (fun _ _ _ _ z => z) (fun _ _ _ _ _ => ih) h
    · exact h.elim
theorem mm_h_ok {sh : mm_S} {call : mm_C} (hc : mm_le call call) {tb : List mm_E} {Q : mm_Q} (n : Nat) {i : Nat} {lo st : List Value} {I : mm_I} {L : mm_L} (h : mm_h sh call tb Q n i lo st I L) : mm_W sh call tb Q i lo st I L := by
  unfold mm_h at h
  split at h
  · rename_i he
    refine mm_W_fold hc ?_
    unfold mm_one
    rw [he]
    exact mm_st_mono hc (fun _ _ _ _ z => z) (fun _ _ _ _ _ => mm_v_ok hc n) h
  · exact h.elim
end
section
/-! ===== The small machine is the machine: from mm_P to Met ===== -/
def mm_tv (ad : Nat → Nat) (v : Value) : Value := match v with
  | .ref r => .ref (ad r)
  | v => v
def mm_fv (ad : Nat → Nat) (I : mm_I) (L : mm_L) (r k kd : Nat) : Value := match kd with
  | 0 => .int (I r k)
  | 1 => .long (L r k)
  | 2 => .int (I r k)
  | n + 3 => .ref (ad n)
def mm_ce (ad : Nat → Nat) (cI cJ : ClassId) (I : mm_I) (L : mm_L) (r : Nat) (e : Nat × Nat × List Nat) : va_E := match e with
  | (1, n, _) => .inl (cI, n, .inl (I r))
  | (2, n, _) => .inl (cJ, n, .inr (.inl (L r)))
  | (_, ci, ks) => .inr (ci, ks.mapIdx (fun k kd => mm_fv ad I L r k kd))
def mm_ws (sh : mm_S) (ad : Nat → Nat) (cI cJ : ClassId) (I : mm_I) (L : mm_L) : va_W := sh.mapIdx (fun r e => (ad r, mm_ce ad cI cJ I L r e))
theorem mm_ws_at {sh : mm_S} {ad : Nat → Nat} {cI cJ : ClassId} {I : mm_I} {L : mm_L} {r : Nat} {e : Nat × Nat × List Nat} (h : sh[r]? = some e) : (mm_ws sh ad cI cJ I L)[r]? = some (ad r, mm_ce ad cI cJ I L r e) := by
  unfold mm_ws
  rw [List.getElem?_mapIdx, h]
  rfl
theorem mm_ia_at {sh : mm_S} {a : Nat} (h : 0 < mm_ia sh a) : ∃ ks, sh[a]? = some (1, mm_ia sh a, ks) := by
  unfold mm_ia at h ⊢
  split at h
  · rename_i n ks hq
    exact ⟨ks, by rw [hq]⟩
  · exact absurd h (Nat.lt_irrefl 0)
theorem mm_la_at {sh : mm_S} {a : Nat} (h : 0 < mm_la sh a) : ∃ ks, sh[a]? = some (2, mm_la sh a, ks) := by
  unfold mm_la at h ⊢
  split at h
  · rename_i n ks hq
    exact ⟨ks, by rw [hq]⟩
  · exact absurd h (Nat.lt_irrefl 0)
theorem mm_vp_pos {j : Int32} {n : Nat} (h : vp_in j n) : 0 < n := by
  rcases Nat.eq_zero_or_pos n with q | q
  · exact absurd (Or.inr (by rw [q]; exact Nat.zero_le _)) h
  · exact q
theorem mm_ui_row (I : mm_I) (a k : Nat) (v : Int32) : mm_ui I a k v a = upd (I a) k v := by
  funext j
  simp [mm_ui, upd]
theorem mm_ui_off (I : mm_I) {a b : Nat} (k : Nat) (v : Int32) (h : b ≠ a) : mm_ui I a k v b = I b := by
  funext j
  simp [mm_ui, h]
theorem mm_ul_row (L : mm_L) (a k : Nat) (v : Int64) : mm_ul L a k v a = vp_updL (L a) k v := by
  funext j
  simp [mm_ul, vp_updL]
theorem mm_ul_off (L : mm_L) {a b : Nat} (k : Nat) (v : Int64) (h : b ≠ a) : mm_ul L a k v b = L b := by
  funext j
  simp [mm_ul, h]
theorem mm_ur_row (I : mm_I) (a : Nat) (f : Nat → Int32) : mm_ur I a f a = f := by
  funext j
  simp [mm_ur]
theorem mm_ur_off (I : mm_I) {a b : Nat} (f : Nat → Int32) (h : b ≠ a) : mm_ur I a f b = I b := by
  funext j
  simp [mm_ur, h]
/-- worlds that differ at one cell -/
theorem mm_ws_set {sh : mm_S} {ad : Nat → Nat} {cI cJ : ClassId} {I I' : mm_I} {L L' : mm_L} {r : Nat} {e : Nat × Nat × List Nat} {x : va_E} (h : sh[r]? = some e) (hx : mm_ce ad cI cJ I' L' r e = x) (hi : ∀ b, b ≠ r → I' b = I b) (hl : ∀ b, b ≠ r → L' b = L b) :
    (mm_ws sh ad cI cJ I L).set r (ad r, x) = mm_ws sh ad cI cJ I' L' := by
  apply List.ext_getElem?
  intro j
  have hr : r < sh.length := (List.getElem?_eq_some_iff.mp h).1
  by_cases hj : j = r
  · subst hj
    rw [mm_ws_at h, List.getElem?_set_self (by unfold mm_ws; rw [List.length_mapIdx]; exact hr), hx]
  · rw [List.getElem?_set_ne (fun q => hj q.symm)]
    unfold mm_ws
    rw [List.getElem?_mapIdx, List.getElem?_mapIdx]
    cases hs : sh[j]? with
    | none => rfl
    | some e' =>
      have : mm_ce ad cI cJ I L j e' = mm_ce ad cI cJ I' L' j e' := by
        obtain ⟨t, n, ks⟩ := e'
        unfold mm_ce mm_fv
        rw [hi j hj, hl j hj]
      simp [this]
theorem mm_fs_set (ad : Nat → Nat) (I I' : mm_I) (L L' : mm_L) (r k : Nat) (v : Value) (ks : List Nat) (hk : ∀ kd, ks[k]? = some kd → mm_fv ad I' L' r k kd = v) (ho : ∀ j kd, j ≠ k → mm_fv ad I' L' r j kd = mm_fv ad I L r j kd) :
    ks.mapIdx (fun k kd => mm_fv ad I' L' r k kd) = (ks.mapIdx (fun k kd => mm_fv ad I L r k kd)).set k v := by
  apply List.ext_getElem?
  intro j
  by_cases hj : j = k
  · subst hj
    cases hs : ks[j]? with
    | none =>
      have : ks.length ≤ j := List.getElem?_eq_none_iff.mp hs
      rw [List.getElem?_mapIdx, hs, List.getElem?_eq_none (by simp; exact this)]
      rfl
    | some kd =>
      rw [List.getElem?_mapIdx, hs, List.getElem?_set_self (by rw [List.length_mapIdx]; exact (List.getElem?_eq_some_iff.mp hs).1)]
      simp [hk kd hs]
  · rw [List.getElem?_set_ne (fun q => hj q.symm), List.getElem?_mapIdx, List.getElem?_mapIdx]
    cases ks[j]? with
    | none => rfl
    | some kd => simp [ho j kd hj]
/-! locals -/
def mm_lr (ad : Nat → Nat) (ls : Array Slot) (nL : Nat) (lo : List Value) : Prop := ls.size = nL ∧ lo.length = nL ∧ lv_wf ls ∧ ∀ (i : Nat) (v : Value), lo[i]? = some v → v ≠ .null → ls[i]? = some (.val (mm_tv ad v))
theorem mm_tv_cat (ad : Nat → Nat) (v : Value) : (mm_tv ad v).category = v.category := by cases v <;> rfl
theorem mm_tv_ct (ad : Nat → Nat) (st : List Value) : ((st.map (mm_tv ad)).map fun v => v.category).sum = mm_ct st := by
  induction st with
  | nil => rfl
  | cons v t ih => simp only [List.map_cons, List.sum_cons, mm_ct, mm_tv_cat, ih]
def mm_one1 (ad : Nat → Nat) (lo : List Value) (j : Nat) : Option (Nat × Value) := match lo[j]? with
  | some .null => none
  | some u => some (j, mm_tv ad u)
  | none => none
def mm_as (ad : Nat → Nat) (lo : List Value) : List (Nat × Value) := (List.range lo.length).filterMap (mm_one1 ad lo)
theorem mm_as_in {ad : Nat → Nat} {lo : List Value} {i : Nat} {v : Value} (h : lo[i]? = some v) (hv : v ≠ .null) : (i, mm_tv ad v) ∈ mm_as ad lo := by
  refine List.mem_filterMap.mpr ⟨i, List.mem_range.mpr (List.getElem?_eq_some_iff.mp h).1, ?_⟩
  unfold mm_one1
  rw [h]
  cases v <;> first | rfl | exact absurd rfl hv
theorem mm_as_of {ad : Nat → Nat} {lo : List Value} {q : Nat × Value} (h : q ∈ mm_as ad lo) : ∃ v, lo[q.1]? = some v ∧ v ≠ .null ∧ q.2 = mm_tv ad v := by
  obtain ⟨j, -, hj⟩ := List.mem_filterMap.mp h
  unfold mm_one1 at hj
  split at hj
  · cases hj
  · rename_i u h1 h2
    cases hj
    exact ⟨u, h2, fun e => h1 (by rw [e]), rfl⟩
  · cases hj
theorem mm_lr_has {ad : Nat → Nat} {ls : Array Slot} {nL : Nat} {lo : List Value} (h : mm_lr ad ls nL lo) : lv_has ls nL (mm_as ad lo) := by
  refine ⟨h.1, h.2.2.1, fun q hq => ?_⟩
  obtain ⟨v, h1, h2, h3⟩ := mm_as_of hq
  rw [h3]
  exact h.2.2.2 _ _ h1 h2
theorem mm_set1_len (lo : List Value) (i : Nat) (v : Value) : (mm_set1 lo i v).length = lo.length := by
  unfold mm_set1 mm_cut
  split
  · simp
  · split <;> simp
theorem mm_set1_at {lo : List Value} {i : Nat} {v : Value} {j : Nat} {u : Value} (h : (mm_set1 lo i v)[j]? = some u) (hu : u ≠ .null) : (j = i ∧ u = v) ∨ (j ≠ i ∧ lo[j]? = some u ∧ ¬ (j + 1 = i ∧ u.category = 2)) := by
  unfold mm_set1 at h
  split at h
  · by_cases hj : j = 0
    · subst hj
      rw [List.getElem?_set_self' ] at h
      cases hl : lo[0]? with
      | none => rw [hl] at h; cases h
      | some w => rw [hl] at h; cases h; exact Or.inl ⟨rfl, rfl⟩
    · rw [List.getElem?_set_ne (fun q => hj q.symm)] at h
      exact Or.inr ⟨hj, h, fun q => by omega⟩
  · rename_i k
    by_cases hj : j = k + 1
    · subst hj
      rw [List.getElem?_set_self'] at h
      cases hl : (mm_cut lo k)[k + 1]? with
      | none => rw [hl] at h; cases h
      | some w => rw [hl] at h; cases h; exact Or.inl ⟨rfl, rfl⟩
    · rw [List.getElem?_set_ne (fun q => hj q.symm)] at h
      unfold mm_cut at h
      split at h
      · rename_i hc
        by_cases hk : j = k
        · subst hk
          rw [List.getElem?_set_self'] at h
          cases hl : lo[j]? with
          | none => rw [hl] at h; cases h
          | some w => rw [hl] at h; cases h; exact absurd rfl hu
        · rw [List.getElem?_set_ne (fun q => hk q.symm)] at h
          exact Or.inr ⟨hj, h, fun q => hk (by omega)⟩
      · rename_i hc
        refine Or.inr ⟨hj, h, fun q => hc ?_⟩
        have : j = k := by omega
        subst this
        rw [List.getD_eq_getElem?_getD, h]
        exact q.2
theorem mm_lr_1 {ad : Nat → Nat} {ls ls' : Array Slot} {nL i : Nat} {lo : List Value} {v : Value} (h : mm_lr ad ls nL lo) (q : lv_has ls' nL ((i, mm_tv ad v) :: (mm_as ad lo).filter (fun q => !(q.1 == i) && !(q.1 + 1 == i && q.2.category == 2)))) : mm_lr ad ls' nL (mm_set1 lo i v) := by
  refine ⟨q.1, by rw [mm_set1_len]; exact h.2.1, q.2.1, fun j u hj hu => ?_⟩
  rcases mm_set1_at hj hu with ⟨rfl, rfl⟩ | ⟨h1, h2, h3⟩
  · exact q.2.2 (j, mm_tv ad u) List.mem_cons_self
  · refine q.2.2 (j, mm_tv ad u) (List.mem_cons_of_mem _ (List.mem_filter.mpr ⟨mm_as_in h2 hu, ?_⟩))
    simp only [Bool.and_eq_true, Bool.not_eq_true', beq_eq_false_iff_ne, ne_eq, Bool.and_eq_false_iff, mm_tv_cat]
    refine ⟨h1, ?_⟩
    by_cases hz : j + 1 = i
    · exact Or.inr (fun e => h3 ⟨hz, e⟩)
    · exact Or.inl hz
theorem mm_lr_2 {ad : Nat → Nat} {ls ls' : Array Slot} {nL i : Nat} {lo : List Value} {v : Value} (h : mm_lr ad ls nL lo) (q : lv_has ls' nL ((i, mm_tv ad v) :: (mm_as ad lo).filter (fun q => !(q.1 == i) && (!(q.1 == i + 1) && !(q.1 + 1 == i && q.2.category == 2))))) : mm_lr ad ls' nL (mm_set2 lo i v) := by
  refine ⟨q.1, by unfold mm_set2; rw [List.length_set, mm_set1_len]; exact h.2.1, q.2.1, fun j u hj hu => ?_⟩
  unfold mm_set2 at hj
  by_cases hji : j = i + 1
  · subst hji
    rw [List.getElem?_set_self'] at hj
    cases hl : (mm_set1 lo i v)[i + 1]? with
    | none => rw [hl] at hj; cases hj
    | some w => rw [hl] at hj; cases hj; exact absurd rfl hu
  · rw [List.getElem?_set_ne (fun q => hji q.symm)] at hj
    rcases mm_set1_at hj hu with ⟨rfl, rfl⟩ | ⟨h1, h2, h3⟩
    · exact q.2.2 (j, mm_tv ad u) List.mem_cons_self
    · refine q.2.2 (j, mm_tv ad u) (List.mem_cons_of_mem _ (List.mem_filter.mpr ⟨mm_as_in h2 hu, ?_⟩))
      simp only [Bool.and_eq_true, Bool.not_eq_true', beq_eq_false_iff_ne, ne_eq, Bool.and_eq_false_iff, mm_tv_cat]
      refine ⟨h1, hji, ?_⟩
      by_cases hz : j + 1 = i
      · exact Or.inr (fun e => h3 ⟨hz, e⟩)
      · exact Or.inl hz
/-! the entry -/
theorem mm_sl_len (ad : Nat → Nat) (as : List Value) : (lg_sl (as.map (mm_tv ad))).length = (mm_sl as).length := by
  induction as with
  | nil => rfl
  | cons v t ih =>
    simp only [lg_sl, List.map_cons, List.flatMap_cons, List.length_append, mm_sl, mm_tv_cat] at ih ⊢
    rw [ih]
    split <;> simp <;> omega
theorem mm_sl_at (ad : Nat → Nat) : ∀ (as : List Value) (i : Nat) (v : Value), (mm_sl as)[i]? = some v → v ≠ .null → (lg_sl (as.map (mm_tv ad)))[i]? = some (.val (mm_tv ad v)) := by
  intro as
  induction as with
  | nil => intro i v h; simp [mm_sl] at h
  | cons w t ih =>
    intro i v h hv
    simp only [lg_sl, List.map_cons, List.flatMap_cons, mm_tv_cat] at ih ⊢
    simp only [mm_sl] at h
    split at h
    · rename_i hc
      rw [if_pos hc]
      match i, h with
      | 0, h => simp at h; rw [h]; rfl
      | 1, h => simp at h; exact absurd h.symm hv
      | k + 2, h => exact ih k v h hv
    · rename_i hc
      rw [if_neg hc]
      match i, h with
      | 0, h => simp at h; rw [h]; rfl
      | k + 1, h => exact ih k v h hv
theorem mm_lr_en (ad : Nat → Nat) (n : Nat) (as : List Value) (h : (mm_sl as).length ≤ n) : mm_lr ad ((lg_sl (as.map (mm_tv ad)) ++ List.replicate (n - (lg_sl (as.map (mm_tv ad))).length) Slot.unset).toArray) n (mm_en n as) := by
  have h1 := lv_entry (as.map (mm_tv ad)) (n := n) (by rw [mm_sl_len]; exact h)
  refine ⟨h1.1, ?_, h1.2.1, fun i v hi hv => ?_⟩
  · unfold mm_en
    rw [List.length_append, List.length_replicate]
    omega
  · unfold mm_en at hi
    by_cases hl : i < (mm_sl as).length
    · rw [List.getElem?_append_left hl] at hi
      rw [List.getElem?_toArray, List.getElem?_append_left (by rw [mm_sl_len]; exact hl)]
      exact mm_sl_at ad as i v hi hv
    · rw [List.getElem?_append_right (by omega)] at hi
      have := List.mem_replicate.mp (List.mem_of_getElem? hi)
      exact absurd this.2 hv
theorem mm_pop_of : ∀ (n : Nat) (acc st as t : List Value), mm_pop n acc st = some (as, t) → ∃ pre, st = pre ++ t ∧ as = pre.reverse ++ acc ∧ pre.length = n := by
  intro n
  induction n with
  | zero => intro acc st as t h; simp only [mm_pop, Option.some.injEq, Prod.mk.injEq] at h; exact ⟨[], by simp [h.2], by simp [h.1], rfl⟩
  | succ n ih =>
    intro acc st as t h
    cases st with
    | nil => simp [mm_pop] at h
    | cons v st =>
      simp only [mm_pop] at h
      obtain ⟨pre, h1, h2, h3⟩ := ih _ _ _ _ h
      exact ⟨v :: pre, by rw [h1]; rfl, by rw [h2]; simp, by simp [h3]⟩
end
section
/-! ===== tables, their words, their check; a frame of the small machine is a frame of the machine ===== -/
/-- a side: its cells, methods, kinds, their types, owners' names; links: fields (owner, place, cell, field), calls (owner, place, way, method, receiver), longs, ints, calls of the JDK's own rows, hosts of nest calls -/
abbrev mm_T : Type := mm_S × List mm_M × List vw_C × (Nat → Nat → FieldType) × (Nat → String) × List (Nat × Nat × Nat × Nat) × List (Nat × Nat × Nat × Nat × Nat) × List (Nat × Nat × Int) × List (Nat × Nat × Int) × List (Nat × Nat × Nat) × String
def mm_sh (T : mm_T) : mm_S := T.1
def mm_ms (T : mm_T) : List mm_M := T.2.1
def mm_cl (T : mm_T) : List vw_C := T.2.2.1
def mm_ty (T : mm_T) : Nat → Nat → FieldType := T.2.2.2.1
def mm_cn (T : mm_T) : Nat → String := T.2.2.2.2.1
def mm_FT (T : mm_T) : List (Nat × Nat × Nat × Nat) := T.2.2.2.2.2.1
def mm_CT (T : mm_T) : List (Nat × Nat × Nat × Nat × Nat) := T.2.2.2.2.2.2.1
def mm_LT (T : mm_T) : List (Nat × Nat × Int) := T.2.2.2.2.2.2.2.1
def mm_DT (T : mm_T) : List (Nat × Nat × Int) := T.2.2.2.2.2.2.2.2.1
def mm_JT (T : mm_T) : List (Nat × Nat × Nat) := T.2.2.2.2.2.2.2.2.2.1
def mm_HO (T : mm_T) : String := T.2.2.2.2.2.2.2.2.2.2
def mm_mw (md : mm_M) : Cond := .code md.1 md.2.1 md.2.2.1 md.2.2.2.1
def mm_fw (T : mm_T) (q : Nat × Nat × Nat × Nat) : Cond := match (mm_sh T)[q.2.2.1]? with
  | some (_, ci, _) => (match (mm_cl T)[ci]? with
    | some r => .fieldLink (mm_cn T q.1) q.2.1 (r.2.1 q.2.2.2).1 (r.2.1 q.2.2.2).2.1 (r.2.1 q.2.2.2).2.2.1
    | none => .arrayClass .int)
  | none => .arrayClass .int
def mm_cw (T : mm_T) (q : Nat × Nat × Nat × Nat × Nat) : List Cond := match (mm_ms T)[q.2.2.2.1]? with
  | some md => (match q.2.2.1 with
    | 0 => [.methodLink (mm_cn T q.1) q.2.1 md.1, .instanceMethod md.1, .selects md.1.cls md.1 md.1, .initialized md.1.cls]
    | 1 => [.methodLink (mm_cn T q.1) q.2.1 md.1, .static md.1, .initialized md.1.cls]
    | _ => [.static md.1, .initialized md.1.cls])
  | none => []
def mm_jw (T : mm_T) (q : Nat × Nat × Nat) : List Cond := match q.2.2 with
  | 10 => [.methodLink (mm_cn T q.1) q.2.1 Lib.MathLoose.abs_long.x, .static Lib.MathLoose.abs_long.x, .initialized "java/lang/Math", .code Lib.MathLoose.abs_long.x Lib.MathLoose.abs_long.code 2 (some .long)]
  | 11 => [.methodLink (mm_cn T q.1) q.2.1 Lib.Math.max.name, .static Lib.Math.max.name, .initialized "java/lang/Math", .code Lib.Math.max.name Lib.Math.max.code 2 (some .int)]
  | 12 => [.methodLink (mm_cn T q.1) q.2.1 Lib.MathLoose.max_long.x, .static Lib.MathLoose.max_long.x, .initialized "java/lang/Math", .code Lib.MathLoose.max_long.x Lib.MathLoose.max_long.code 4 (some .long)]
  | 13 => [.methodLink (mm_cn T q.1) q.2.1 Lib.MathLoose.min_long.x, .static Lib.MathLoose.min_long.x, .initialized "java/lang/Math", .code Lib.MathLoose.min_long.x Lib.MathLoose.min_long.code 4 (some .long)]
  | 14 => [.methodLink (mm_cn T q.1) q.2.1 arraycopyName, .native arraycopyName, .static arraycopyName, .initialized "java/lang/System"]
  | _ => []
/-- the words of a side -/
def mm_tb (T : mm_T) : List Cond := (mm_ms T).map mm_mw ++ ((mm_FT T).map (mm_fw T) ++ ((mm_CT T).flatMap (mm_cw T) ++ ((mm_LT T).map (fun q => Cond.constantLong (mm_cn T q.1) q.2.1 (Int64.ofInt q.2.2)) ++ ((mm_DT T).map (fun q => Cond.constant (mm_cn T q.1) q.2.1 (Int32.ofInt q.2.2)) ++ ((mm_JT T).flatMap (mm_jw T) ++ (mm_cl T).flatMap (fun q => u_ws q.1 q.2.1 q.2.2))))))
/-- the links between nest mates -/
def mm_nw (T : mm_T) (U : State) : Prop := ∀ q ∈ mm_CT T, q.2.2.1 = 2 → ∀ md, (mm_ms T)[q.2.2.2.1]? = some md → va_Nw (.methodLinkNest (mm_cn T q.1) q.2.1 md.1 (mm_HO T)) U
def mm_bp (tb : List mm_E) (i : Nat) : Option Nat := (tb[i]?).map (fun e => e.1)
def mm_nx (tb : List mm_E) (i pc n : Nat) : Bool := mm_bp tb (i + 1) == some (pc + n)
def mm_tg (tb : List mm_E) (x pc : Nat) (off : Int) : Bool := match mm_bp tb x with
  | some t => decide ((pc : Int) + off = (t : Int))
  | none => false
def mm_tgs (tb : List mm_E) (pc : Nat) : List Nat → List Int → Bool
  | [], [] => true
  | t :: ts, o :: os => mm_tg tb t pc o && mm_tgs tb pc ts os
  | _, _ => false
def mm_kd (sh : mm_S) (r k : Nat) : Option Nat := match sh[r]? with
  | some (0, _, ks) => ks[k]?
  | _ => none
def mm_np (md : mm_M) : Option Nat := (parseMethodDescriptor md.1.desc).map (fun d => d.parameters.length)
def mm_ln (ins : Instr) (len : Nat) : Nat := match ins with
  | .aload _ | .iload _ | .lload _ | .istore _ | .astore _ | .lstore _ | .bipush _ | .ldc _ => 2
  | .sipush _ | .ldc_w _ | .ldc2_w _ | .iinc _ _ | .goto _ | .if_icmp _ _ | .ifCond _ _ | .getfield _ | .putfield _ | .invokevirtual _ | .invokestatic _ => 3
  | .tableswitch _ _ _ _ => len
  | _ => 1
def mm_lk (T : mm_T) (md : mm_M) (tb : List mm_E) (i pc : Nat) (ins : Instr) (x y u w : Nat) (z : Int) (ts : List Nat) : Bool := match ins with
  | .goto off => mm_tg tb x pc off
  | .if_icmp _ off => mm_tg tb x pc off && mm_nx tb i pc 3
  | .ifCond _ off => mm_tg tb x pc off && mm_nx tb i pc 3
  | .tableswitch d n h offs => mm_tg tb x pc d && mm_tgs tb pc ts offs.toList && decide ((ts.length : Int) = h - n + 1) && decide (-100000 < n) && decide (h < 100000)
  | .ireturn => decide (md.2.2.2.2.2.1 = 1) && decide ((u = 0 ∧ md.2.2.2.1 = some .int) ∨ (u = 1 ∧ md.2.2.2.1 = some .boolean))
  | .lreturn => decide (md.2.2.2.2.2.1 = 2) && decide (md.2.2.2.1 = some .long)
  | .return_ => decide (md.2.2.2.2.2.1 = 0) && decide (md.2.2.2.1 = none)
  | .getfield idx => mm_nx tb i pc 3 && (decide ((md.2.2.2.2.1, idx, x, y) ∈ mm_FT T) && decide (mm_kd (mm_sh T) x y = some u))
  | .putfield idx => mm_nx tb i pc 3 && (decide ((md.2.2.2.2.1, idx, x, y) ∈ mm_FT T) && decide (mm_kd (mm_sh T) x y = some u))
  | .invokevirtual idx => mm_nx tb i pc 3 && (decide ((md.2.2.2.2.1, idx, 0, x, w) ∈ mm_CT T) && decide (((mm_ms T)[x]?).map (fun q => (q.2.2.2.2.2.1, (mm_np q).map (· + 1))) = some (u, some y)))
  | .invokestatic idx => mm_nx tb i pc 3 && (if 10 ≤ u then decide (u ≤ 14) && decide ((md.2.2.2.2.1, idx, u) ∈ mm_JT T) else (decide ((md.2.2.2.2.1, idx, 1, x, 0) ∈ mm_CT T) || decide ((md.2.2.2.2.1, idx, 2, x, 0) ∈ mm_CT T)) && decide (((mm_ms T)[x]?).map (fun q => (q.2.2.2.2.2.1, mm_np q)) = some (u, some y)))
  | .ldc idx => mm_nx tb i pc 2 && decide ((md.2.2.2.2.1, idx, z) ∈ mm_DT T)
  | .ldc_w idx => mm_nx tb i pc 3 && decide ((md.2.2.2.2.1, idx, z) ∈ mm_DT T)
  | .ldc2_w idx => mm_nx tb i pc 3 && decide ((md.2.2.2.2.1, idx, z) ∈ mm_LT T)
  | ins => mm_nx tb i pc (mm_ln ins 0)
def mm_ck (T : mm_T) (md : mm_M) (i : Nat) (e : mm_E) : Prop := decode md.2.1 e.1 = .ok (e.2.1, e.2.2.1) ∧ e.2.2.1 = mm_ln e.2.1 e.2.2.1 ∧ mm_lk T md md.2.2.2.2.2.2 i e.1 e.2.1 e.2.2.2.2.1 e.2.2.2.2.2.1 e.2.2.2.2.2.2.1 e.2.2.2.2.2.2.2.1 e.2.2.2.2.2.2.2.2.1 e.2.2.2.2.2.2.2.2.2 = true
/-- a method's own check -/
def mm_mo (T : mm_T) (md : mm_M) : Prop := plainName md.1.cls = true ∧ md.1.cls = mm_cn T md.2.2.2.2.1 ∧ md.2.2.1 ≤ 40 ∧ (md.1.cls ≠ "java/lang/invoke/MethodHandle" ∧ md.1.cls ≠ "java/lang/invoke/VarHandle") ∧ mm_bp md.2.2.2.2.2.2 0 = some 0 ∧ ∀ (i : Nat) (e : mm_E), md.2.2.2.2.2.2[i]? = some e → mm_ck T md i e
/-- a field link's check -/
def mm_fo (T : mm_T) (q : Nat × Nat × Nat × Nat) : Prop := ∃ ci ks r, (mm_sh T)[q.2.2.1]? = some (0, ci, ks) ∧ (mm_cl T)[ci]? = some r ∧ q.2.2.2 < r.2.2 ∧ ks.length = r.2.2 ∧ (match ks[q.2.2.2]? with
  | some 0 => mm_ty T ci q.2.2.2 = .int ∧ (r.2.1 q.2.2.2).2.2.2 = false
  | some 1 => mm_ty T ci q.2.2.2 = .long ∧ (r.2.1 q.2.2.2).2.2.2 = false
  | some 2 => mm_ty T ci q.2.2.2 = .boolean ∧ (r.2.1 q.2.2.2).2.2.2 = false
  | _ => True)
/-- a virtual call's receiver -/
def mm_vo (T : mm_T) (q : Nat × Nat × Nat × Nat × Nat) : Prop := q.2.2.1 = 0 → ∃ ci ks r md, (mm_sh T)[q.2.2.2.2]? = some (0, ci, ks) ∧ (mm_cl T)[ci]? = some r ∧ (mm_ms T)[q.2.2.2.1]? = some md ∧ r.1 = md.1.cls
def mm_ok (T : mm_T) : Prop := (∀ (m : Nat) (md : mm_M), (mm_ms T)[m]? = some md → mm_mo T md) ∧ (∀ q ∈ mm_FT T, mm_fo T q) ∧ (∀ q ∈ mm_CT T, mm_vo T q) ∧ (∀ (ci : Nat) (q : vw_C), (mm_cl T)[ci]? = some q → (∀ k, k < q.2.2 → parseFieldDescriptor (q.2.1 k).2.2.1 = some (mm_ty T ci k)) ∧ ∀ a, a < q.2.2 → ∀ b, b < q.2.2 → a ≠ b → (q.2.1 a).2.1 ≠ (q.2.1 b).2.1) ∧ ∀ w ∈ mm_tb T, goodWord w = true
/-! the words, by where they come from -/
theorem mm_in_m {T : mm_T} {m : Nat} {md : mm_M} (h : (mm_ms T)[m]? = some md) : mm_mw md ∈ mm_tb T := List.mem_append_left _ (List.mem_map.mpr ⟨md, List.mem_of_getElem? h, rfl⟩)
theorem mm_in_f {T : mm_T} {q : Nat × Nat × Nat × Nat} (h : q ∈ mm_FT T) : mm_fw T q ∈ mm_tb T := List.mem_append_right _ (List.mem_append_left _ (List.mem_map.mpr ⟨q, h, rfl⟩))
theorem mm_in_c {T : mm_T} {q : Nat × Nat × Nat × Nat × Nat} (h : q ∈ mm_CT T) {w : Cond} (hw : w ∈ mm_cw T q) : w ∈ mm_tb T := List.mem_append_right _ (List.mem_append_right _ (List.mem_append_left _ (List.mem_flatMap.mpr ⟨q, h, hw⟩)))
theorem mm_in_l {T : mm_T} {q : Nat × Nat × Int} (h : q ∈ mm_LT T) : Cond.constantLong (mm_cn T q.1) q.2.1 (Int64.ofInt q.2.2) ∈ mm_tb T := List.mem_append_right _ (List.mem_append_right _ (List.mem_append_right _ (List.mem_append_left _ (List.mem_map.mpr ⟨q, h, rfl⟩))))
theorem mm_in_d {T : mm_T} {q : Nat × Nat × Int} (h : q ∈ mm_DT T) : Cond.constant (mm_cn T q.1) q.2.1 (Int32.ofInt q.2.2) ∈ mm_tb T := List.mem_append_right _ (List.mem_append_right _ (List.mem_append_right _ (List.mem_append_right _ (List.mem_append_left _ (List.mem_map.mpr ⟨q, h, rfl⟩)))))
theorem mm_in_j {T : mm_T} {q : Nat × Nat × Nat} (h : q ∈ mm_JT T) {w : Cond} (hw : w ∈ mm_jw T q) : w ∈ mm_tb T := List.mem_append_right _ (List.mem_append_right _ (List.mem_append_right _ (List.mem_append_right _ (List.mem_append_right _ (List.mem_append_left _ (List.mem_flatMap.mpr ⟨q, h, hw⟩))))))
theorem mm_in_u {T : mm_T} {ci : Nat} {q : vw_C} (h : (mm_cl T)[ci]? = some q) {w : Cond} (hw : w ∈ u_ws q.1 q.2.1 q.2.2) : w ∈ mm_tb T := List.mem_append_right _ (List.mem_append_right _ (List.mem_append_right _ (List.mem_append_right _ (List.mem_append_right _ (List.mem_append_right _ (List.mem_flatMap.mpr ⟨q, List.mem_of_getElem? h, hw⟩))))))
/-- a method's words are good words among any other's -/
theorem mm_good {T : mm_T} (ok : mm_ok T) {m : Nat} {md md0 : mm_M} (h : (mm_ms T)[m]? = some md) : GoodIn (mm_mw md0 :: mm_tb T) (mm_mw md :: mm_tb T) := by
  intro w hw
  have hw' : w ∈ mm_tb T := by
    rcases List.mem_cons.mp hw with rfl | hw
    · exact mm_in_m h
    · exact hw
  exact ⟨List.mem_cons_of_mem _ hw', good_of_word (ok.2.2.2.2 w hw')⟩
/-! contracts -/
def mm_tys (cI cJ : ClassId) : List (ClassId × FieldType) := [(cI, .int), (cJ, .long)]
def mm_B (T : mm_T) (D : va_G) (cI cJ : ClassId) (ad : Nat → Nat) (A : Nat → Prop) (I : mm_I) (L : mm_L) (t : State) : Prop := va_P D (mm_cl T) (mm_ws (mm_sh T) ad cI cJ I L) t.heap ∧ va_K D (mm_cl T) (mm_tys cI cJ) t ∧ va_D A (mm_ws (mm_sh T) ad cI cJ I L)
def mm_Pc (T : mm_T) (D : va_G) (cI cJ : ClassId) (ad : Nat → Nat) (sz : Nat) (as : List Value) (I : mm_I) (L : mm_L) : Array Value → State → Prop := va_Pc (as.map (mm_tv ad)) (fun U => U.heap.size = sz ∧ mm_B T D cI cJ ad (fun _ => True) I L U ∧ mm_nw T U)
def mm_Qc (T : mm_T) (D : va_G) (cI cJ : ClassId) (ad : Nat → Nat) (A : Nat → Prop) (rk : Nat) (Q : mm_Q) : Array Value → State → Outcome → State → Prop := match rk with
  | 0 => va_Qv (S := mm_I × mm_L × Int32 × Int64) (fun u => Q u.1 u.2.1 u.2.2.1 u.2.2.2) (fun u t => mm_B T D cI cJ ad A u.1 u.2.1 t) A
  | 1 => va_Qi (S := mm_I × mm_L × Int64) (fun r u => Q u.1 u.2.1 r u.2.2) (fun u t => mm_B T D cI cJ ad A u.1 u.2.1 t) A
  | _ => va_Ql (S := mm_I × mm_L × Int32) (fun r u => Q u.1 u.2.1 u.2.2 r) (fun u t => mm_B T D cI cJ ad A u.1 u.2.1 t) A
def mm_rm (d : Nat) : Room := { frames := d, cells := 0, slots := 0, locals := 64 * d }
theorem mm_nw_moved {T : mm_T} {s U : State} (hW : s.WarmedH U.vm) (h : mm_nw T s) : mm_nw T U := fun q hq h2 md hm => va_Nw.warmM hW (h q hq h2 md hm)
theorem mm_blind {T : mm_T} {D : va_G} {cI cJ : ClassId} {ad : Nat → Nat} {sz : Nat} {as : List Value} {I : mm_I} {L : mm_L} : FrameBlind (mm_Pc T D cI cJ ad sz as I L) := by
  intro a U g mk q
  obtain ⟨q0, q1, ⟨qP, qK, qD⟩, qN⟩ := q
  exact ⟨q0, q1, ⟨qP, va_K.moved (u := U) (U := U.calling g mk a) (Vm.Alike.refl U.vm) qK, qD⟩, fun r hr h2 md hm => va_Nw.same (w := .methodLinkNest (mm_cn T r.1) r.2.1 md.1 (mm_HO T)) rfl rfl (qN r hr h2 md hm)⟩
theorem mm_pre {T : mm_T} {D : va_G} {cI cJ : ClassId} {ad : Nat → Nat} {as : List Value} {I : mm_I} {L : mm_L} {s : State} {H : Heap} {A : Nat → Prop} (hP : va_P D (mm_cl T) (mm_ws (mm_sh T) ad cI cJ I L) H) (hK : va_K D (mm_cl T) (mm_tys cI cJ) s) (hD : va_D A (mm_ws (mm_sh T) ad cI cJ I L)) (hN : mm_nw T s) :
    ∀ U : State, U.heap = H → s.WarmedH U.vm → mm_Pc T D cI cJ ad H.size as I L (as.map (mm_tv ad)).toArray U :=
  fun U hU hW => ⟨rfl, by rw [hU], ⟨by rw [hU]; exact hP, va_K.moved hW.alike hK, hD.weaken (fun _ _ _ _ => trivial)⟩, mm_nw_moved hW hN⟩
theorem mm_free {A : Nat → Prop} {ws : va_W} {H0 H : Heap} {locs : List Loc} (hD : va_D A ws) (hS : va_S A H0 H locs) (hA : ∀ q, H0.size ≤ q → A q) : ∀ q, va_A ws H.size q → A q := by
  intro q h
  rcases h with ⟨k, e, h⟩ | h
  · exact hD.2 k (q, e) h
  · exact hA q (Nat.le_trans hS.1 h)
end
section
/-! ===== a frame of the small machine, walked ===== -/
theorem mm_tg_of {tb : List mm_E} {x pc : Nat} {off : Int} (h : mm_tg tb x pc off = true) : ∃ t, mm_bp tb x = some t ∧ (pc : Int) + off = (t : Int) := by
  unfold mm_tg at h
  split at h
  · rename_i t ht
    exact ⟨t, ht, of_decide_eq_true h⟩
  · cases h
theorem mm_nx_of {tb : List mm_E} {i pc n : Nat} (h : mm_nx tb i pc n = true) : mm_bp tb (i + 1) = some (pc + n) := by
  unfold mm_nx at h
  exact eq_of_beq h
theorem mm_tgs_of {tb : List mm_E} {pc : Nat} : ∀ (ts : List Nat) (os : List Int), mm_tgs tb pc ts os = true → ∀ (j t : Nat), ts[j]? = some t → ∃ off pc', os[j]? = some off ∧ mm_bp tb t = some pc' ∧ (pc : Int) + off = (pc' : Int) := by
  intro ts
  induction ts with
  | nil => intro os h j t hj; simp at hj
  | cons a ts ih =>
    intro os h j t hj
    cases os with
    | nil => simp [mm_tgs] at h
    | cons o os =>
      simp only [mm_tgs, Bool.and_eq_true] at h
      match j, hj with
      | 0, hj =>
        simp at hj
        subst hj
        obtain ⟨t, h1, h2⟩ := mm_tg_of h.1
        exact ⟨o, t, rfl, h1, h2⟩
      | j + 1, hj => exact ih os h.2 j t hj
theorem mm_sw_at {z : Int32} {K : Nat → Prop} : ∀ (ts : List Nat) (n : Int), mm_sw z K n ts → ∀ (j t : Nat), ts[j]? = some t → z.toInt = n + j → K t := by
  intro ts
  induction ts with
  | nil => intro n h j t hj; simp at hj
  | cons a ts ih =>
    intro n h j t hj hz
    match j, hj with
    | 0, hj =>
      simp at hj
      subst hj
      refine h.1 ?_
      have : n = z.toInt := by omega
      rw [this, Int32.ofInt_toInt]
    | j + 1, hj => exact ih (n + 1) h.2 j t hj (by push_cast at hz; omega)
section MF
variable {T : mm_T} {D : va_G} {cI cJ : ClassId} {ad : Nat → Nat} {l : Launch} {p : Program} {e : Env} {s : State} {m : MethodId} {args : Array Value} {below : List Frame} {meth : Method} {c : Code} {A : Nat → Prop} {md : mm_M} {d : Nat} {Q : mm_Q}
def mm_X (T : mm_T) (D : va_G) (cI cJ : ClassId) (ad : Nat → Nat) (l : Launch) (p : Program) (e : Env) (s : State) (m : MethodId) (args : Array Value) (below : List Frame) (meth : Method) (c : Code) (A : Nat → Prop) (md : mm_M) (d : Nat) (Q : mm_Q) : mm_K := fun i lo st I L =>
  ∀ pc : Nat, mm_bp md.2.2.2.2.2.2 i = some pc → ∀ (ls : Array Slot) (H : Heap) (locs : List Loc), mm_lr ad ls md.2.2.1 lo → va_P D (mm_cl T) (mm_ws (mm_sh T) ad cI cJ I L) H → va_D A (mm_ws (mm_sh T) ad cI cJ I L) → va_S A s.heap H locs →
    W p l e (mm_rm (d + 1)) s m args below meth c H locs 0 0 (MQ below (mm_Qc T D cI cJ ad A md.2.2.2.2.2.1 Q) args s 0 0 A) (F0 m pc ls (st.map (mm_tv ad)))
theorem mm_after {i pc rk : Nat} {lo st0 t : List Value} {I : mm_I} {L : mm_L} {ls : Array Slot} {H : Heap} {locs : List Loc} {a : Array Value} (hn : mm_bp md.2.2.2.2.2.2 (i + 1) = some (pc + 3)) (hl : mm_lr ad ls md.2.2.1 lo) (hD : va_D A (mm_ws (mm_sh T) ad cI cJ I L)) (hS : va_S A s.heap H locs) (hA : ∀ q, s.heap.size ≤ q → A q)
    (hrun : va_Run p l e (mm_rm (d + 1)) s m args below meth c H locs 0 0 0 0 (F0 m pc ls st0) (t.map (mm_tv ad)) (mm_Qc T D cI cJ ad (va_A (mm_ws (mm_sh T) ad cI cJ I L) H.size) rk (fun I' L' ri rl => mm_X T D cI cJ ad l p e s m args below meth c A md d Q (i + 1) lo (mm_push rk ri rl t) I' L') a) (va_A (mm_ws (mm_sh T) ad cI cJ I L) H.size)) :
    W p l e (mm_rm (d + 1)) s m args below meth c H locs 0 0 (MQ below (mm_Qc T D cI cJ ad A md.2.2.2.2.2.1 Q) args s 0 0 A) (F0 m pc ls st0) := by
  have hF := mm_free hD hS hA
  match rk, hrun with
  | 0, hrun => exact va_callv (a := a) hrun hS (fun q _ h => hF q h) hF (fun u tt H1 locs1 ht hvm hw hB hz hk hS1 => hw _ hn ls H1 locs1 hl (by rw [← ht]; exact hB.1) (hB.2.2.weaken (fun _ q _ h => hF q.1 h)) hS1)
  | 1, hrun => exact va_calli (a := a) hrun hS (fun q _ h => hF q h) hF (fun r u tt H1 locs1 ht hvm hw hB hz hk hS1 => hw _ hn ls H1 locs1 hl (by rw [← ht]; exact hB.1) (hB.2.2.weaken (fun _ q _ h => hF q.1 h)) hS1)
  | _ + 2, hrun => exact va_calll (a := a) hrun hS (fun q _ h => hF q h) hF (fun r u tt H1 locs1 ht hvm hw hB hz hk hS1 => hw _ hn ls H1 locs1 hl (by rw [← ht]; exact hB.1) (hB.2.2.weaken (fun _ q _ h => hF q.1 h)) hS1)
/-- what a body knows -/
def mm_At (T : mm_T) (D : va_G) (cI cJ : ClassId) (p : Program) (s : State) (m : MethodId) (args : Array Value) (meth : Method) (c : Code) (A : Nat → Prop) (md : mm_M) : Prop :=
  p.tables.exec = Jvm.exec ∧ c.code = md.2.1 ∧ meth.sig.returnType = md.2.2.2.1 ∧ meth.locks = false ∧ c.maxLocals = md.2.2.1 ∧ s.vm.findClass (mm_cn T md.2.2.2.2.1) = some m.cls ∧ (∀ w ∈ mm_mw md :: mm_tb T, w.before args s = true) ∧ va_K D (mm_cl T) (mm_tys cI cJ) s ∧ mm_nw T s ∧ ∀ q, s.heap.size ≤ q → A q
def mm_hc (T : mm_T) (D : va_G) (cI cJ : ClassId) (ad : Nat → Nat) (l : Launch) (d : Nat) : Prop := ∀ (x : Nat) (mx : mm_M), (mm_ms T)[x]? = some mx → ∀ (as : List Value) (I : mm_I) (L : mm_L) (Q : mm_Q) (sz : Nat), mm_P (mm_sh T) (mm_ms T) d x as I L Q →
  Met l mx.1 (mm_mw mx :: mm_tb T) (mm_rm d) (mm_Pc T D cI cJ ad sz as I L) (mm_Qc T D cI cJ ad (va_A (mm_ws (mm_sh T) ad cI cJ I L) sz) mx.2.2.2.2.2.1 Q) 0 0 (va_A (mm_ws (mm_sh T) ad cI cJ I L) sz)
set_option maxHeartbeats 4000000 in
theorem mm_getf (ok : mm_ok T) (C0 : mm_At T D cI cJ p s m args meth c A md) {i pc idx x y u : Nat} {lo t : List Value} {I : mm_I} {L : mm_L} {ls : Array Slot} {H : Heap} {locs : List Loc} (hd : decode md.2.1 pc = .ok (.getfield idx, 3)) (hq : (md.2.2.2.2.1, idx, x, y) ∈ mm_FT T) (hk : mm_kd (mm_sh T) x y = some u)
    (hP : va_P D (mm_cl T) (mm_ws (mm_sh T) ad cI cJ I L) H) {QQ : State → Prop} (kk : W p l e (mm_rm (d + 1)) s m args below meth c H locs 0 0 QQ (F0 m (pc + 3) ls (mm_fv ad I L x y u :: t))) : W p l e (mm_rm (d + 1)) s m args below meth c H locs 0 0 QQ (F0 m pc ls (.ref (ad x) :: t)) := by
  obtain ⟨hx, hb, hr, hlk, hml, hown, hts, hK, hN, hA⟩ := C0
  obtain ⟨ci, ks, r, h1, h2, h3, h4, -⟩ := ok.2.1 _ hq
  dsimp only at h1 h3 h4
  have hks : ks[y]? = some u := by
    unfold mm_kd at hk
    rw [h1] at hk
    exact hk
  have hw := hts _ (List.mem_cons_of_mem _ (mm_in_f hq))
  unfold mm_fw at hw
  dsimp only at hw
  rw [h1] at hw
  dsimp only at hw
  rw [h2] at hw
  dsimp only at hw
  exact va_get (D := D) (ci := ci) (v := mm_fv ad I L x y u) (C := r.1) (T := r.2.1) (N := r.2.2) hx hb hts (fun w hw => List.mem_cons_of_mem _ (mm_in_u h2 hw)) hown hK hP x (mm_ws_at h1) h2 y h3 hw (fun _ h9 => h9) (by rw [List.getElem?_mapIdx, hks]; rfl) hd kk
set_option maxHeartbeats 4000000 in
theorem mm_putf (ok : mm_ok T) (C0 : mm_At T D cI cJ p s m args meth c A md) {pc idx x y u : Nat} {t : List Value} {I I' : mm_I} {L L' : mm_L} {v : Value} {ls : Array Slot} {H : Heap} {locs : List Loc} (hd : decode md.2.1 pc = .ok (.putfield idx, 3)) (hq : (md.2.2.2.2.1, idx, x, y) ∈ mm_FT T) (hk : mm_kd (mm_sh T) x y = some u) (hu : u < 3)
    (hP : va_P D (mm_cl T) (mm_ws (mm_sh T) ad cI cJ I L) H) (hD : va_D A (mm_ws (mm_sh T) ad cI cJ I L)) (hS : va_S A s.heap H locs) {QQ : State → Prop}
    (hv : mm_fv ad I' L' x y u = v) (hn : ∀ ty : FieldType, (u = 0 → ty = .int) → (u = 1 → ty = .long) → (u = 2 → ty = .boolean) → narrow ty v = v ∧ fits ty v = true) (hi : ∀ b, b ≠ x → I' b = I b) (hl : ∀ b, b ≠ x → L' b = L b) (ho : ∀ j kd, j ≠ y → mm_fv ad I' L' x j kd = mm_fv ad I L x j kd)
    (kk : ∀ (H1 : Heap) (locs1 : List Loc), va_P D (mm_cl T) (mm_ws (mm_sh T) ad cI cJ I' L') H1 → va_D A (mm_ws (mm_sh T) ad cI cJ I' L') → va_S A s.heap H1 locs1 → W p l e (mm_rm (d + 1)) s m args below meth c H1 locs1 0 0 QQ (F0 m (pc + 3) ls t)) : W p l e (mm_rm (d + 1)) s m args below meth c H locs 0 0 QQ (F0 m pc ls (v :: .ref (ad x) :: t)) := by
  obtain ⟨hx, hb, hr, hlk, hml, hown, hts, hK, hN, hA⟩ := C0
  obtain ⟨ci, ks, r, h1, h2, h3, h4, h5⟩ := ok.2.1 _ hq
  dsimp only at h1 h3 h4 h5
  have hks : ks[y]? = some u := by
    unfold mm_kd at hk
    rw [h1] at hk
    exact hk
  rw [hks] at h5
  have hw := hts _ (List.mem_cons_of_mem _ (mm_in_f hq))
  unfold mm_fw at hw
  dsimp only at hw
  rw [h1] at hw
  dsimp only at hw
  rw [h2] at hw
  dsimp only at hw
  obtain ⟨hty, hnm⟩ := ok.2.2.2.1 _ _ h2
  have h6 : (r.2.1 y).2.2.2 = false ∧ narrow (mm_ty T ci y) v = v ∧ fits (mm_ty T ci y) v = true := by
    match u, hu, h5, hn with
    | 0, _, h5, hn => exact ⟨h5.2, hn _ (fun _ => h5.1) (fun h => by cases h) (fun h => by cases h)⟩
    | 1, _, h5, hn => exact ⟨h5.2, hn _ (fun h => by cases h) (fun _ => h5.1) (fun h => by cases h)⟩
    | 2, _, h5, hn => exact ⟨h5.2, hn _ (fun h => by cases h) (fun h => by cases h) (fun _ => h5.1)⟩
  have he : (mm_ws (mm_sh T) ad cI cJ I L).set x (ad x, .inr (ci, (ks.mapIdx (fun k kd => mm_fv ad I L x k kd)).set y v)) = mm_ws (mm_sh T) ad cI cJ I' L' := by
    refine mm_ws_set h1 ?_ hi hl
    show Sum.inr (ci, ks.mapIdx (fun k kd => mm_fv ad I' L' x k kd)) = _
    rw [mm_fs_set ad I I' L L' x y v ks (fun kd hkd => by rw [hks] at hkd; cases hkd; exact hv) ho]
  refine va_put (D := D) (ci := ci) (v := v) (ty := mm_ty T ci y) (C := r.1) (T := r.2.1) (N := r.2.2) hx hb hts (fun w hw => List.mem_cons_of_mem _ (mm_in_u h2 hw)) (mm_ty T ci) hty hnm hown hK hP hD hS x (mm_ws_at h1) h2 y h3 hw (fun _ h9 => h9) h6.1 (hty y h3) h6.2.1 h6.2.2 (by rw [List.length_mapIdx, h4]; exact h3) hd (fun H1 locs1 hP1 hD1 hS1 => ?_)
  rw [he] at hP1 hD1
  exact kk H1 locs1 hP1 hD1 hS1
set_option maxHeartbeats 8000000 in
theorem mm_step (ok : mm_ok T) (hm : mm_mo T md) (C0 : mm_At T D cI cJ p s m args meth c A md) (hcall : mm_hc T D cI cJ ad l d) :
    ∀ (i : Nat) (lo st : List Value) (I : mm_I) (L : mm_L), mm_one (mm_sh T) (mm_P (mm_sh T) (mm_ms T) d) md.2.2.2.2.2.2 Q (mm_X T D cI cJ ad l p e s m args below meth c A md d Q) i lo st I L → mm_X T D cI cJ ad l p e s m args below meth c A md d Q i lo st I L := by
  intro i lo st I L h pc hpc ls H locs hl hP hD hS
  obtain ⟨hx, hb, hr, hlocks, hml, hown, hts, hK, hN, hA⟩ := id C0
  have hFr := mm_free hD hS hA
  unfold mm_one at h
  split at h
  case h_2 => exact h.elim
  rename_i bp ins len hdd x y u w z ts he
  obtain ⟨hd, hlen, hk⟩ := hm.2.2.2.2.2 i _ he
  have hpb : pc = bp := by
    unfold mm_bp at hpc
    rw [he] at hpc
    exact (Option.some.inj hpc).symm
  subst hpb
  dsimp only at hd hlen hk
  unfold mm_st at h
  split at h
  · simp only [mm_ln] at hlen
    subst hlen
    simp only [mm_lk, mm_ln] at hk
    have hn := mm_nx_of hk
    unfold mm_lda at h
    split at h
    · rename_i v hv
      exact lv_aload hx hb hd (hl.2.2.2 _ _ hv (by simp)) (h _ hn ls H locs hl hP hD hS)
    · exact h.elim
  · simp only [mm_ln] at hlen
    subst hlen
    simp only [mm_lk, mm_ln] at hk
    have hn := mm_nx_of hk
    unfold mm_lda at h
    split at h
    · rename_i v hv
      exact lv_aload_n hx hb hd rfl (hl.2.2.2 _ _ hv (by simp)) (h _ hn ls H locs hl hP hD hS)
    · exact h.elim
  · simp only [mm_ln] at hlen
    subst hlen
    simp only [mm_lk, mm_ln] at hk
    have hn := mm_nx_of hk
    unfold mm_ldi at h
    split at h
    · rename_i v hv
      exact lv_iload hx hb hd (hl.2.2.2 _ _ hv (by simp)) (h _ hn ls H locs hl hP hD hS)
    · exact h.elim
  · simp only [mm_ln] at hlen
    subst hlen
    simp only [mm_lk, mm_ln] at hk
    have hn := mm_nx_of hk
    unfold mm_ldi at h
    split at h
    · rename_i v hv
      exact lv_iload_n hx hb hd rfl (hl.2.2.2 _ _ hv (by simp)) (h _ hn ls H locs hl hP hD hS)
    · exact h.elim
  · simp only [mm_ln] at hlen
    subst hlen
    simp only [mm_lk, mm_ln] at hk
    have hn := mm_nx_of hk
    unfold mm_ldl at h
    split at h
    · rename_i v hv
      exact lv_lload hx hb hd (hl.2.2.2 _ _ hv (by simp)) (h _ hn ls H locs hl hP hD hS)
    · exact h.elim
  · simp only [mm_ln] at hlen
    subst hlen
    simp only [mm_lk, mm_ln] at hk
    have hn := mm_nx_of hk
    unfold mm_ldl at h
    split at h
    · rename_i v hv
      exact lv_lload_n hx hb hd rfl (hl.2.2.2 _ _ hv (by simp)) (h _ hn ls H locs hl hP hD hS)
    · exact h.elim
  · simp only [mm_ln] at hlen
    subst hlen
    simp only [mm_lk, mm_ln] at hk
    have hn := mm_nx_of hk
    unfold mm_i at h
    split at h
    · rename_i a t
      exact lv_istore hx hb hd (mm_lr_has hl) (by have := h.1; rw [hl.2.1] at this; exact this) rfl (fun ls1 h1 => h.2 _ hn ls1 H locs (mm_lr_1 hl h1) hP hD hS)
    · exact h.elim
  · simp only [mm_ln] at hlen
    subst hlen
    simp only [mm_lk, mm_ln] at hk
    have hn := mm_nx_of hk
    unfold mm_i at h
    split at h
    · rename_i a t
      exact lv_istore_n hx hb hd rfl (mm_lr_has hl) (by have := h.1; rw [hl.2.1] at this; exact this) rfl (fun ls1 h1 => h.2 _ hn ls1 H locs (mm_lr_1 hl h1) hP hD hS)
    · exact h.elim
  · simp only [mm_ln] at hlen
    subst hlen
    simp only [mm_lk, mm_ln] at hk
    have hn := mm_nx_of hk
    unfold mm_a at h
    split at h
    · rename_i a t
      exact lv_astore hx hb hd (mm_lr_has hl) (by have := h.1; rw [hl.2.1] at this; exact this) rfl (fun ls1 h1 => h.2 _ hn ls1 H locs (mm_lr_1 hl h1) hP hD hS)
    · exact h.elim
  · simp only [mm_ln] at hlen
    subst hlen
    simp only [mm_lk, mm_ln] at hk
    have hn := mm_nx_of hk
    unfold mm_a at h
    split at h
    · rename_i a t
      exact lv_astore_n hx hb hd rfl (mm_lr_has hl) (by have := h.1; rw [hl.2.1] at this; exact this) rfl (fun ls1 h1 => h.2 _ hn ls1 H locs (mm_lr_1 hl h1) hP hD hS)
    · exact h.elim
  · simp only [mm_ln] at hlen
    subst hlen
    simp only [mm_lk, mm_ln] at hk
    have hn := mm_nx_of hk
    unfold mm_l at h
    split at h
    · rename_i a t
      exact lv_lstore hx hb hd (mm_lr_has hl) (by have := h.1; rw [hl.2.1] at this; exact this) rfl (fun ls1 h1 => h.2 _ hn ls1 H locs (mm_lr_2 hl h1) hP hD hS)
    · exact h.elim
  · simp only [mm_ln] at hlen
    subst hlen
    simp only [mm_lk, mm_ln] at hk
    have hn := mm_nx_of hk
    unfold mm_l at h
    split at h
    · rename_i a t
      exact lv_lstore_n hx hb hd rfl (mm_lr_has hl) (by have := h.1; rw [hl.2.1] at this; exact this) rfl (fun ls1 h1 => h.2 _ hn ls1 H locs (mm_lr_2 hl h1) hP hD hS)
    · exact h.elim
  · simp only [mm_ln] at hlen
    subst hlen
    simp only [mm_lk, mm_ln] at hk
    have hn := mm_nx_of hk
    unfold mm_ldi at h
    split at h
    · rename_i n0 cst v hv
      have hin := mm_as_in (ad := ad) hv (by simp)
      obtain ⟨k, hk2⟩ := List.getElem?_of_mem hin
      exact lv_iinc (k := k) hx hb hd (mm_lr_has hl) hk2 rfl (by rw [← hl.2.1]; exact (List.getElem?_eq_some_iff.mp hv).1) rfl (fun ls1 h1 => h _ hn ls1 H locs (mm_lr_1 hl h1) hP hD hS)
    · exact h.elim
  · simp only [mm_ln] at hlen
    subst hlen
    simp only [mm_lk, mm_ln] at hk
    have hn := mm_nx_of hk
    exact lv_iconst hx hb hd rfl (h _ hn ls H locs hl hP hD hS)
  · simp only [mm_ln] at hlen
    subst hlen
    simp only [mm_lk, mm_ln] at hk
    have hn := mm_nx_of hk
    exact lv_bipush hx hb hd rfl (h _ hn ls H locs hl hP hD hS)
  · simp only [mm_ln] at hlen
    subst hlen
    simp only [mm_lk, mm_ln] at hk
    have hn := mm_nx_of hk
    exact lv_sipush hx hb hd rfl (h _ hn ls H locs hl hP hD hS)
  · simp only [mm_ln] at hlen
    subst hlen
    simp only [mm_lk, mm_ln] at hk
    have hn := mm_nx_of hk
    exact lv_lconst hx hb hd rfl (h _ hn ls H locs hl hP hD hS)
  · simp only [mm_ln] at hlen
    subst hlen
    simp only [mm_lk, mm_ln] at hk
    simp only [Bool.and_eq_true] at hk
    have hn := mm_nx_of hk.1
    have hq := of_decide_eq_true hk.2
    exact lv_ldc hx hb hown (hts _ (List.mem_cons_of_mem _ (mm_in_d hq))) hd (h _ hn ls H locs hl hP hD hS)
  · simp only [mm_ln] at hlen
    subst hlen
    simp only [mm_lk, mm_ln] at hk
    simp only [Bool.and_eq_true] at hk
    have hn := mm_nx_of hk.1
    have hq := of_decide_eq_true hk.2
    exact lv_ldcw hx hb hown (hts _ (List.mem_cons_of_mem _ (mm_in_d hq))) hd (h _ hn ls H locs hl hP hD hS)
  · simp only [mm_ln] at hlen
    subst hlen
    simp only [mm_lk, mm_ln] at hk
    simp only [Bool.and_eq_true] at hk
    have hn := mm_nx_of hk.1
    have hq := of_decide_eq_true hk.2
    exact lv_ldc2 hx hb hown (hts _ (List.mem_cons_of_mem _ (mm_in_l hq))) hd (h _ hn ls H locs hl hP hD hS)
  · simp only [mm_ln] at hlen
    subst hlen
    simp only [mm_lk, mm_ln] at hk
    have hn := mm_nx_of hk
    unfold mm_ii at h
    split at h
    · exact lv_iadd hx hb hd (h _ hn ls H locs hl hP hD hS)
    · exact h.elim
  · simp only [mm_ln] at hlen
    subst hlen
    simp only [mm_lk, mm_ln] at hk
    have hn := mm_nx_of hk
    unfold mm_ii at h
    split at h
    · exact lv_isub hx hb hd (h _ hn ls H locs hl hP hD hS)
    · exact h.elim
  · simp only [mm_ln] at hlen
    subst hlen
    simp only [mm_lk, mm_ln] at hk
    have hn := mm_nx_of hk
    unfold mm_ii at h
    split at h
    · exact lv_imul hx hb hd (h _ hn ls H locs hl hP hD hS)
    · exact h.elim
  · simp only [mm_ln] at hlen
    subst hlen
    simp only [mm_lk, mm_ln] at hk
    have hn := mm_nx_of hk
    unfold mm_ii at h
    split at h
    · exact lv_iand hx hb hd (h _ hn ls H locs hl hP hD hS)
    · exact h.elim
  · simp only [mm_ln] at hlen
    subst hlen
    simp only [mm_lk, mm_ln] at hk
    have hn := mm_nx_of hk
    unfold mm_ii at h
    split at h
    · exact lv_ior hx hb hd (h _ hn ls H locs hl hP hD hS)
    · exact h.elim
  · simp only [mm_ln] at hlen
    subst hlen
    simp only [mm_lk, mm_ln] at hk
    have hn := mm_nx_of hk
    unfold mm_ii at h
    split at h
    · exact lv_ixor hx hb hd (h _ hn ls H locs hl hP hD hS)
    · exact h.elim
  · simp only [mm_ln] at hlen
    subst hlen
    simp only [mm_lk, mm_ln] at hk
    have hn := mm_nx_of hk
    unfold mm_ii at h
    split at h
    · exact lv_ishl hx hb hd (h _ hn ls H locs hl hP hD hS)
    · exact h.elim
  · simp only [mm_ln] at hlen
    subst hlen
    simp only [mm_lk, mm_ln] at hk
    have hn := mm_nx_of hk
    unfold mm_ii at h
    split at h
    · exact lv_ishr hx hb hd (h _ hn ls H locs hl hP hD hS)
    · exact h.elim
  · simp only [mm_ln] at hlen
    subst hlen
    simp only [mm_lk, mm_ln] at hk
    have hn := mm_nx_of hk
    unfold mm_ii at h
    split at h
    · exact lv_iushr hx hb hd rfl (h _ hn ls H locs hl hP hD hS)
    · exact h.elim
  · simp only [mm_ln] at hlen
    subst hlen
    simp only [mm_lk, mm_ln] at hk
    have hn := mm_nx_of hk
    unfold mm_ii at h
    split at h
    · exact lv_idiv hx hb hd h.1 (h.2 _ hn ls H locs hl hP hD hS)
    · exact h.elim
  · simp only [mm_ln] at hlen
    subst hlen
    simp only [mm_lk, mm_ln] at hk
    have hn := mm_nx_of hk
    unfold mm_ii at h
    split at h
    · exact lv_irem hx hb hd h.1 (h.2 _ hn ls H locs hl hP hD hS)
    · exact h.elim
  · simp only [mm_ln] at hlen
    subst hlen
    simp only [mm_lk, mm_ln] at hk
    have hn := mm_nx_of hk
    unfold mm_ll at h
    split at h
    · exact lv_ladd hx hb hd (h _ hn ls H locs hl hP hD hS)
    · exact h.elim
  · simp only [mm_ln] at hlen
    subst hlen
    simp only [mm_lk, mm_ln] at hk
    have hn := mm_nx_of hk
    unfold mm_ll at h
    split at h
    · exact lv_lsub hx hb hd (h _ hn ls H locs hl hP hD hS)
    · exact h.elim
  · simp only [mm_ln] at hlen
    subst hlen
    simp only [mm_lk, mm_ln] at hk
    have hn := mm_nx_of hk
    unfold mm_ll at h
    split at h
    · exact lv_lmul hx hb hd (h _ hn ls H locs hl hP hD hS)
    · exact h.elim
  · simp only [mm_ln] at hlen
    subst hlen
    simp only [mm_lk, mm_ln] at hk
    have hn := mm_nx_of hk
    unfold mm_l at h
    split at h
    · exact lv_lneg hx hb hd (h _ hn ls H locs hl hP hD hS)
    · exact h.elim
  · simp only [mm_ln] at hlen
    subst hlen
    simp only [mm_lk, mm_ln] at hk
    have hn := mm_nx_of hk
    unfold mm_ll at h
    split at h
    · exact W.lcmp hx hb hd (h _ hn ls H locs hl hP hD hS)
    · exact h.elim
  · simp only [mm_ln] at hlen
    subst hlen
    simp only [mm_lk, mm_ln] at hk
    have hn := mm_nx_of hk
    unfold mm_i at h
    split at h
    · exact lv_i2l hx hb hd rfl (h _ hn ls H locs hl hP hD hS)
    · exact h.elim
  · simp only [mm_ln] at hlen
    subst hlen
    simp only [mm_lk, mm_ln] at hk
    have hn := mm_nx_of hk
    unfold mm_l at h
    split at h
    · exact lv_l2i hx hb hd rfl (h _ hn ls H locs hl hP hD hS)
    · exact h.elim
  · simp only [mm_ln] at hlen
    subst hlen
    simp only [mm_lk, mm_ln] at hk
    have hn := mm_nx_of hk
    split at h
    · exact lv_dup hx hb hd rfl (h _ hn ls H locs hl hP hD hS)
    · exact lv_dup hx hb hd rfl (h _ hn ls H locs hl hP hD hS)
    · exact h.elim
  · simp only [mm_ln] at hlen
    subst hlen
    simp only [mm_lk, mm_ln] at hk
    have hn := mm_nx_of hk
    unfold mm_ia2 at h
    split at h
    · exact lv_dup2_11 hx hb hd rfl rfl (h _ hn ls H locs hl hP hD hS)
    · exact h.elim
  · simp only [mm_ln] at hlen
    subst hlen
    simp only [mm_lk, mm_ln] at hk
    obtain ⟨t, h1, h2⟩ := mm_tg_of hk
    exact lv_goto (tgt := t) hx hb hd h2 (h _ h1 ls H locs hl hP hD hS)
  · simp only [mm_ln] at hlen
    subst hlen
    simp only [mm_lk, mm_ln] at hk
    simp only [Bool.and_eq_true] at hk
    obtain ⟨t, h1, h2⟩ := mm_tg_of hk.1
    have hn := mm_nx_of hk.2
    unfold mm_ii at h
    split at h
    · rename_i cnd off q0 a1 a2 a3
      cases cnd
      · exact lv_icmp_eq (tgt := t) hx hb hd h2 (fun q => h.1 q _ h1 ls H locs hl hP hD hS) (fun q => h.2 q _ hn ls H locs hl hP hD hS)
      · exact lv_icmp_ne (tgt := t) hx hb hd h2 (fun q => h.1 q _ h1 ls H locs hl hP hD hS) (fun q => h.2 (fun z => z q) _ hn ls H locs hl hP hD hS)
      · exact lv_icmp_lt (tgt := t) hx hb hd h2 (fun q => h.1 q _ h1 ls H locs hl hP hD hS) (fun q => h.2 q _ hn ls H locs hl hP hD hS)
      · exact lv_icmp_ge (tgt := t) hx hb hd h2 (fun q => h.1 q _ h1 ls H locs hl hP hD hS) (fun q => h.2 q _ hn ls H locs hl hP hD hS)
      · exact lv_icmp_gt (tgt := t) hx hb hd h2 (fun q => h.1 q _ h1 ls H locs hl hP hD hS) (fun q => h.2 q _ hn ls H locs hl hP hD hS)
      · exact lv_icmp_le (tgt := t) hx hb hd h2 (fun q => h.1 q _ h1 ls H locs hl hP hD hS) (fun q => h.2 q _ hn ls H locs hl hP hD hS)
    · exact h.elim
  · simp only [mm_ln] at hlen
    subst hlen
    simp only [mm_lk, mm_ln] at hk
    simp only [Bool.and_eq_true] at hk
    obtain ⟨t, h1, h2⟩ := mm_tg_of hk.1
    have hn := mm_nx_of hk.2
    unfold mm_i at h
    split at h
    · rename_i cnd off q0 a1 a2
      cases cnd
      · exact lv_if_eq (tgt := t) hx hb hd h2 (fun q => h.1 q _ h1 ls H locs hl hP hD hS) (fun q => h.2 q _ hn ls H locs hl hP hD hS)
      · exact lv_if_ne (tgt := t) hx hb hd h2 (fun q => h.1 q _ h1 ls H locs hl hP hD hS) (fun q => h.2 (fun z => z q) _ hn ls H locs hl hP hD hS)
      · exact lv_if_lt (tgt := t) hx hb hd h2 (fun q => h.1 q _ h1 ls H locs hl hP hD hS) (fun q => h.2 q _ hn ls H locs hl hP hD hS)
      · exact lv_if_ge (tgt := t) hx hb hd h2 (fun q => h.1 q _ h1 ls H locs hl hP hD hS) (fun q => h.2 q _ hn ls H locs hl hP hD hS)
      · exact lv_if_gt (tgt := t) hx hb hd h2 (fun q => h.1 q _ h1 ls H locs hl hP hD hS) (fun q => h.2 q _ hn ls H locs hl hP hD hS)
      · exact lv_if_le (tgt := t) hx hb hd h2 (fun q => h.1 q _ h1 ls H locs hl hP hD hS) (fun q => h.2 q _ hn ls H locs hl hP hD hS)
    · exact h.elim
  · clear hlen
    simp only [mm_lk] at hk
    simp only [Bool.and_eq_true] at hk
    obtain ⟨⟨⟨⟨k1, k2⟩, k3⟩, k4⟩, k5⟩ := hk
    have k3 := of_decide_eq_true k3
    unfold mm_i at h
    split at h
    · rename_i df n0 n1 offs q0 q1 a1 a2
      by_cases hz : a1.toInt < n0 ∨ n1 < a1.toInt
      · obtain ⟨t, h1, h2⟩ := mm_tg_of k1
        exact lv_tableOut (tgt := t) hx hb hd hz h2 (h.2 hz _ h1 ls H locs hl hP hD hS)
      · have hj : (a1.toInt - n0).toNat < ts.length := by omega
        obtain ⟨off, pc2, h1, h2, h3⟩ := mm_tgs_of ts _ k2 (a1.toInt - n0).toNat _ (List.getElem?_eq_getElem hj)
        exact lv_tableIn (off := off) (tgt := pc2) hx hb hd (fun q => hz (Or.inl q)) (fun q => hz (Or.inr q)) (by rw [← Array.getElem?_toList]; exact h1) h3 (mm_sw_at ts _ h.1 (a1.toInt - n0).toNat _ (List.getElem?_eq_getElem hj) (by omega) _ h2 ls H locs hl hP hD hS)
    · exact h.elim
  · simp only [mm_ln] at hlen
    subst hlen
    simp only [mm_lk, mm_ln] at hk
    simp only [Bool.and_eq_true] at hk
    have hn := mm_nx_of hk.1
    have hq := of_decide_eq_true hk.2.1
    have hu := of_decide_eq_true hk.2.2
    unfold mm_a at h
    split at h
    · unfold mm_get at h
      obtain ⟨rfl, h⟩ := h
      refine mm_getf (t := _) (i := i) (lo := lo) ok C0 hd hq hu hP ?_
      match u, h with
      | 0, h => exact h _ hn ls H locs hl hP hD hS
      | 1, h => exact h _ hn ls H locs hl hP hD hS
      | 2, h => exact h _ hn ls H locs hl hP hD hS
      | n + 3, h => exact h _ hn ls H locs hl hP hD hS
    · exact h.elim
  · simp only [mm_ln] at hlen
    subst hlen
    simp only [mm_lk, mm_ln] at hk
    simp only [Bool.and_eq_true] at hk
    have hn := mm_nx_of hk.1
    have hq := of_decide_eq_true hk.2.1
    have hu := of_decide_eq_true hk.2.2
    unfold mm_put at h
    split at h
    · split at h
      · obtain ⟨rfl, h⟩ := h
        rename_i v r t
        refine mm_putf (I' := mm_ui I r y v) (L' := L) ok C0 hd hq hu (by decide) hP hD hS (by simp [mm_fv, mm_ui]; rfl) (fun ty e _ _ => by rw [e rfl]; exact ⟨rfl, rfl⟩) (fun b hb => mm_ui_off I y v hb) (fun _ _ => rfl) (fun j kd hj => by unfold mm_fv mm_ui; simp [hj]) (fun H1 locs1 hP1 hD1 hS1 => h _ hn ls H1 locs1 hl hP1 hD1 hS1)
      · exact h.elim
    · split at h
      · obtain ⟨rfl, h⟩ := h
        rename_i v r t
        refine mm_putf (I' := I) (L' := mm_ul L r y v) ok C0 hd hq hu (by decide) hP hD hS (by simp [mm_fv, mm_ul]; rfl) (fun ty _ e _ => by rw [e rfl]; exact ⟨rfl, rfl⟩) (fun _ _ => rfl) (fun b hb => mm_ul_off L y v hb) (fun j kd hj => by unfold mm_fv mm_ul; simp [hj]) (fun H1 locs1 hP1 hD1 hS1 => h _ hn ls H1 locs1 hl hP1 hD1 hS1)
      · exact h.elim
    · split at h
      · obtain ⟨rfl, h0, h⟩ := h
        rename_i v r t
        refine mm_putf (I' := mm_ui I r y v) (L' := L) ok C0 hd hq hu (by decide) hP hD hS (by simp [mm_fv, mm_ui]; rfl) (fun ty _ _ e => by rw [e rfl]; rcases h0 with rfl | rfl <;> exact ⟨rfl, rfl⟩) (fun b hb => mm_ui_off I y v hb) (fun _ _ => rfl) (fun j kd hj => by unfold mm_fv mm_ui; simp [hj]) (fun H1 locs1 hP1 hD1 hS1 => h _ hn ls H1 locs1 hl hP1 hD1 hS1)
      · exact h.elim
    · exact h.elim
  · simp only [mm_ln] at hlen
    subst hlen
    simp only [mm_lk, mm_ln] at hk
    have hn := mm_nx_of hk
    unfold mm_ia2 at h
    split at h
    · rename_i j a t
      obtain ⟨ks, hs⟩ := mm_ia_at (mm_vp_pos h.1)
      exact va_iald hx hb hK hP a 0 (mm_ws_at hs) rfl h.1 hd (h.2 _ hn ls H locs hl hP hD hS)
    · exact h.elim
  · simp only [mm_ln] at hlen
    subst hlen
    simp only [mm_lk, mm_ln] at hk
    have hn := mm_nx_of hk
    unfold mm_ia2 at h
    split at h
    · rename_i j a t
      obtain ⟨ks, hs⟩ := mm_la_at (mm_vp_pos h.1)
      exact va_lald hx hb hK hP a 1 (mm_ws_at hs) rfl h.1 hd (h.2 _ hn ls H locs hl hP hD hS)
    · exact h.elim
  · simp only [mm_ln] at hlen
    subst hlen
    simp only [mm_lk, mm_ln] at hk
    have hn := mm_nx_of hk
    split at h
    · rename_i v j a t
      obtain ⟨ks, hs⟩ := mm_ia_at (mm_vp_pos h.1)
      refine va_iast hx hb hK hP hD hS a 0 (mm_ws_at hs) rfl h.1 hd (fun H1 locs1 hP1 hD1 hS1 => ?_)
      have he2 : (mm_ws (mm_sh T) ad cI cJ I L).set a (ad a, .inl (cI, mm_ia (mm_sh T) a, .inl (upd (I a) j.toNatClampNeg v))) = mm_ws (mm_sh T) ad cI cJ (mm_ui I a j.toNatClampNeg v) L := mm_ws_set hs (by
        show Sum.inl (cI, mm_ia (mm_sh T) a, Sum.inl (mm_ui I a j.toNatClampNeg v a)) = _
        rw [mm_ui_row]) (fun b hb => mm_ui_off I _ v hb) (fun _ _ => rfl)
      rw [he2] at hP1 hD1
      exact h.2 _ hn ls H1 locs1 hl hP1 hD1 hS1
    · exact h.elim
  · simp only [mm_ln] at hlen
    subst hlen
    simp only [mm_lk, mm_ln] at hk
    have hn := mm_nx_of hk
    split at h
    · rename_i v j a t
      obtain ⟨ks, hs⟩ := mm_la_at (mm_vp_pos h.1)
      refine va_last hx hb hK hP hD hS a 1 (mm_ws_at hs) rfl h.1 hd (fun H1 locs1 hP1 hD1 hS1 => ?_)
      have he2 : (mm_ws (mm_sh T) ad cI cJ I L).set a (ad a, .inl (cJ, mm_la (mm_sh T) a, .inr (.inl (vp_updL (L a) j.toNatClampNeg v)))) = mm_ws (mm_sh T) ad cI cJ I (mm_ul L a j.toNatClampNeg v) := mm_ws_set hs (by
        show Sum.inl (cJ, mm_la (mm_sh T) a, Sum.inr (Sum.inl (mm_ul L a j.toNatClampNeg v a))) = _
        rw [mm_ul_row]) (fun _ _ => rfl) (fun b hb => mm_ul_off L _ v hb)
      rw [he2] at hP1 hD1
      exact h.2 _ hn ls H1 locs1 hl hP1 hD1 hS1
    · exact h.elim
  · simp only [mm_ln] at hlen
    subst hlen
    simp only [mm_lk, mm_ln] at hk
    have hn := mm_nx_of hk
    unfold mm_a at h
    split at h
    · rename_i a t
      by_cases ha : 0 < mm_ia (mm_sh T) a
      · obtain ⟨ks, hs⟩ := mm_ia_at ha
        have h0 : mm_la (mm_sh T) a = 0 := by simp [mm_la, hs]
        refine va_alen hx hb hK hP a 0 (mm_ws_at hs) rfl (v := Int32.ofNat (mm_ia (mm_sh T) a)) rfl hd ?_
        have h2 := h.2
        rw [h0, Nat.add_zero] at h2
        exact h2 _ hn ls H locs hl hP hD hS
      · have ha0 : mm_ia (mm_sh T) a = 0 := by omega
        have h1 := h.1
        have h2 := h.2
        rw [ha0, Nat.zero_add] at h1 h2
        obtain ⟨ks, hs⟩ := mm_la_at (Nat.pos_of_ne_zero h1)
        exact va_alen hx hb hK hP a 1 (mm_ws_at hs) rfl (v := Int32.ofNat (mm_la (mm_sh T) a)) rfl hd (h2 _ hn ls H locs hl hP hD hS)
    · exact h.elim
  · simp only [mm_ln] at hlen
    subst hlen
    simp only [mm_lk, mm_ln] at hk
    simp only [Bool.and_eq_true] at hk
    have hn := mm_nx_of hk.1
    have hq := of_decide_eq_true hk.2.1
    have hu := of_decide_eq_true hk.2.2
    obtain ⟨hrc, h⟩ := h
    unfold mm_rcv at hrc
    unfold mm_inv at h
    split at h
    · rename_i as t hp
      rw [hp] at hrc
      obtain ⟨ci, ks, r, mx, q1, q2, q3, q4⟩ := ok.2.2.1 _ hq rfl
      dsimp only at q1 q3
      rw [q3] at hu
      simp only [Option.map_some, Option.some.injEq, Prod.mk.injEq] at hu
      obtain ⟨rfl, hu2⟩ := hu
      obtain ⟨pr, p1, p2, p3⟩ := mm_pop_of _ _ _ _ _ hp
      rw [List.append_nil] at p2
      cases has : as with
      | nil => rw [has] at hrc; exact hrc.elim
      | cons v as1 =>
        rw [has] at hrc
        cases v with
        | ref r0 =>
          dsimp only at hrc
          subst hrc
          have hM := hcall x mx q3 as I L _ H.size h.2
          have hst : st.map (mm_tv ad) = (as1.map (mm_tv ad)).reverse ++ .ref (ad r0) :: t.map (mm_tv ad) := by
            have : pr = as1.reverse ++ [.ref r0] := by
              have h9 := congrArg List.reverse p2
              rw [List.reverse_reverse, has, List.reverse_cons] at h9
              exact h9.symm
            rw [p1, this]
            simp [mm_tv]
          have hw0 : ∀ w ∈ mm_cw T (md.2.2.2.2.1, _, 0, x, r0), w ∈ mm_tb T := fun w hw => mm_in_c hq hw
          simp only [mm_cw, q3] at hw0
          have hnp : mm_np mx = some as1.length := by
            have h9 : pr.length = as1.length + 1 := by
              have := congrArg List.length p2
              rw [List.length_reverse, has, List.length_cons] at this
              exact this.symm
            cases hnp : mm_np mx with
            | none => rw [hnp] at hu2; cases hu2
            | some k =>
              rw [hnp] at hu2
              simp only [Option.map_some, Option.some.injEq] at hu2
              rw [show k = as1.length by omega]
          have hmx := ok.1 x mx q3
          rw [has] at hM
          have hcw := cwV (R := mm_rm (d + 1)) (s := s) (args := args) (own := mm_cn T md.2.2.2.2.1) (index := _) (C := mx.1.cls) (y := mx.1) (bytes := mx.2.1) (maxL := mx.2.2.1) (ret := mx.2.2.2.1) (ws := mm_mw mx :: mm_tb T) (ws' := mm_tb T) (rm := mm_rm d) (mc := 0) (ms := 0) as1.length hts
            (fun w hw => by
              rcases List.mem_append.mp hw with hw | hw
              · exact ⟨List.mem_cons_of_mem _ (hw0 w hw), good_of_word (ok.2.2.2.2 w (hw0 w hw))⟩
              · exact mm_good ok q3 w hw) rfl rfl rfl ⟨rfl, hmx.2.2.2.1.1, hmx.2.2.2.1.2, hnp⟩ ⟨Nat.le_refl _, by show 8 + (mx.2.2.1 + 11) + 64 * d ≤ 64 * (d + 1); have := hmx.2.2.1; omega⟩
          have hrv := va_recv hK hP q2 (mm_ws_at q1)
          rw [q4] at hrv
          have hrun := va_runV (e := e) (below := below) (meth := meth) (locs := locs) (n := as1.length) (As := as1.map (mm_tv ad)) (rest := t.map (mm_tv ad)) (g := F0 m pc ls (st.map (mm_tv ad))) ⟨hx, hb, hml, hown, hts⟩ hM hcw ⟨mm_blind, hrv, mm_pre (as := .ref r0 :: as1) hP hK hD hN⟩ rfl (by simp) hl.1 hst (lv_room (by rw [mm_tv_ct]; exact h.1)) hd ⟨Nat.zero_le _, Nat.zero_le _⟩
          exact mm_after (t := t) hn hl hD hS hA hrun
        | _ => exact hrc.elim
    · exact h.elim
  · simp only [mm_ln] at hlen
    subst hlen
    simp only [mm_lk, mm_ln, Bool.and_eq_true] at hk
    have hn := mm_nx_of hk.1
    have hk := hk.2
    have hlo : ∀ (t : List Value) (k : Nat), mm_ct t ≤ 8 → k ≤ 56 → ((t.map (mm_tv ad)).map fun v => v.category).sum + k ≤ (mm_rm (d + 1)).locals := fun t k h1 h2 => by
      rw [mm_tv_ct]
      show _ ≤ 64 * (d + 1)
      omega
    split at h
    · rw [if_pos (by decide), Bool.and_eq_true] at hk
      have hj : ∀ w ∈ mm_jw T _, w.before args s = true := fun w hw => hts _ (List.mem_cons_of_mem _ (mm_in_j (of_decide_eq_true hk.2) hw))
      simp only [mm_jw, List.forall_mem_cons] at hj
      unfold mm_l at h
      split at h
      · exact va_mabs_long hx hb (by rw [hml]; exact hl.1.symm) hown hj.1 hj.2.1 hj.2.2.1 hj.2.2.2.1 (Nat.succ_le_succ (Nat.zero_le _)) (hlo _ _ h.1 (by decide)) (Nat.zero_le _) (Nat.zero_le _) hd (h.2 _ hn ls H locs hl hP hD hS)
      · exact h.elim
    · rw [if_pos (by decide), Bool.and_eq_true] at hk
      have hj : ∀ w ∈ mm_jw T _, w.before args s = true := fun w hw => hts _ (List.mem_cons_of_mem _ (mm_in_j (of_decide_eq_true hk.2) hw))
      simp only [mm_jw, List.forall_mem_cons] at hj
      unfold mm_ii at h
      split at h
      · exact va_mmax hx hb (by rw [hml]; exact hl.1.symm) hown hj.1 hj.2.1 hj.2.2.1 hj.2.2.2.1 (Nat.succ_le_succ (Nat.zero_le _)) (hlo _ _ h.1 (by decide)) (Nat.zero_le _) (Nat.zero_le _) hd (h.2 _ hn ls H locs hl hP hD hS)
      · exact h.elim
    · rw [if_pos (by decide), Bool.and_eq_true] at hk
      have hj : ∀ w ∈ mm_jw T _, w.before args s = true := fun w hw => hts _ (List.mem_cons_of_mem _ (mm_in_j (of_decide_eq_true hk.2) hw))
      simp only [mm_jw, List.forall_mem_cons] at hj
      unfold mm_ll at h
      split at h
      · exact va_mmax_long hx hb (by rw [hml]; exact hl.1.symm) hown hj.1 hj.2.1 hj.2.2.1 hj.2.2.2.1 (Nat.succ_le_succ (Nat.zero_le _)) (hlo _ _ h.1 (by decide)) (Nat.zero_le _) (Nat.zero_le _) hd (h.2 _ hn ls H locs hl hP hD hS)
      · exact h.elim
    · rw [if_pos (by decide), Bool.and_eq_true] at hk
      have hj : ∀ w ∈ mm_jw T _, w.before args s = true := fun w hw => hts _ (List.mem_cons_of_mem _ (mm_in_j (of_decide_eq_true hk.2) hw))
      simp only [mm_jw, List.forall_mem_cons] at hj
      unfold mm_ll at h
      split at h
      · exact va_mmin_long hx hb (by rw [hml]; exact hl.1.symm) hown hj.1 hj.2.1 hj.2.2.1 hj.2.2.2.1 (Nat.succ_le_succ (Nat.zero_le _)) (hlo _ _ h.1 (by decide)) (Nat.zero_le _) (Nat.zero_le _) hd (h.2 _ hn ls H locs hl hP hD hS)
      · exact h.elim
    · rw [if_pos (by decide), Bool.and_eq_true] at hk
      have hj : ∀ w ∈ mm_jw T _, w.before args s = true := fun w hw => hts _ (List.mem_cons_of_mem _ (mm_in_j (of_decide_eq_true hk.2) hw))
      simp only [mm_jw, List.forall_mem_cons] at hj
      unfold mm_cpy at h
      split at h
      · rename_i n dp b sp a t
        obtain ⟨h0, ⟨-, -, h3, h4, h5, h6, h7, h8, h9⟩, h⟩ := h
        obtain ⟨ka, ha⟩ := mm_ia_at h3
        obtain ⟨kb, hb2⟩ := mm_ia_at h4
        refine va_copyi hx hb (by rw [hml]; exact hl.1.symm) hown hj.1 hj.2.1 hj.2.2.1 hj.2.2.2.1 hK hP hD hS a b 0 0 (mm_ws_at ha) (mm_ws_at hb2) rfl rfl rfl h5 h6 h7 h8 h9 (fun _ _ => rfl) (Nat.succ_le_succ (Nat.zero_le _)) (hlo _ _ h0 (by decide +kernel)) hd (fun H1 locs1 hP1 hD1 hS1 => ?_)
        have he2 : (mm_ws (mm_sh T) ad cI cJ I L).set b (ad b, .inl (cI, mm_ia (mm_sh T) b, .inl (va_cpy (I a) (I b) sp.toNatClampNeg dp.toNatClampNeg n.toNatClampNeg))) = mm_ws (mm_sh T) ad cI cJ (mm_ur I b (va_cpy (I a) (I b) sp.toNatClampNeg dp.toNatClampNeg n.toNatClampNeg)) L := mm_ws_set hb2 (by
          show Sum.inl (cI, mm_ia (mm_sh T) b, Sum.inl (mm_ur I b _ b)) = _
          rw [mm_ur_row]) (fun q hq => mm_ur_off I _ hq) (fun _ _ => rfl)
        rw [he2] at hP1 hD1
        exact h _ hn ls H1 locs1 hl hP1 hD1 hS1
      · exact h.elim
    · by_cases hu10 : 10 ≤ u
      · rw [if_pos hu10, Bool.and_eq_true] at hk
        have h14 := of_decide_eq_true hk.1
        rename_i n10 n11 n12 n13 n14
        exact (show False by
          rcases (show u = 10 ∨ u = 11 ∨ u = 12 ∨ u = 13 ∨ u = 14 by omega) with q | q | q | q | q
          · exact n10 q
          · exact n11 q
          · exact n12 q
          · exact n13 q
          · exact n14 q).elim
      · rw [if_neg hu10, Bool.and_eq_true] at hk
        have hu := of_decide_eq_true hk.2
        unfold mm_inv at h
        split at h
        · rename_i as t hp
          cases q3 : (mm_ms T)[x]? with
          | none => rw [q3] at hu; cases hu
          | some mx =>
            rw [q3] at hu
            simp only [Option.map_some, Option.some.injEq, Prod.mk.injEq] at hu
            obtain ⟨rfl, hu2⟩ := hu
            obtain ⟨pr, p1, p2, p3⟩ := mm_pop_of _ _ _ _ _ hp
            rw [List.append_nil] at p2
            have hM := hcall x mx q3 as I L _ H.size h.2
            have hst : st.map (mm_tv ad) = (as.map (mm_tv ad)).reverse ++ t.map (mm_tv ad) := by
              rw [p1, p2]
              simp
            have hnp : mm_np mx = some as.length := by
              rw [hu2, p2, List.length_reverse, p3]
            have hmx := ok.1 x mx q3
            have hroom : (mm_rm d).frames + 1 ≤ (mm_rm (d + 1)).frames ∧ 8 + (mx.2.2.1 + 11) + (mm_rm d).locals ≤ (mm_rm (d + 1)).locals := ⟨Nat.le_refl _, by show 8 + (mx.2.2.1 + 11) + 64 * d ≤ 64 * (d + 1); have := hmx.2.2.1; omega⟩
            rcases Bool.or_eq_true _ _ ▸ hk.1 with hq | hq
            · have hq := of_decide_eq_true hq
              have hw0 : ∀ w ∈ mm_cw T (md.2.2.2.2.1, _, 1, x, 0), w ∈ mm_tb T := fun w hw => mm_in_c hq hw
              simp only [mm_cw, q3] at hw0
              have hcw := va_cwS (R := mm_rm (d + 1)) (s := s) (args := args) (own := mm_cn T md.2.2.2.2.1) (index := _) (y := mx.1) (bytes := mx.2.1) (maxL := mx.2.2.1) (ret := mx.2.2.2.1) (ws := mm_mw mx :: mm_tb T) (ws' := mm_tb T) (rm := mm_rm d) (mc := 0) (ms := 0) as.length hts
                (fun w hw => by
                  rcases List.mem_append.mp hw with hw | hw
                  · exact ⟨List.mem_cons_of_mem _ (hw0 w hw), good_of_word (ok.2.2.2.2 w (hw0 w hw))⟩
                  · exact mm_good ok q3 w hw) rfl rfl rfl ⟨hmx.2.2.2.1.1, hmx.2.2.2.1.2, hnp⟩ hroom
              have hrun := va_runS (e := e) (below := below) (meth := meth) (locs := locs) (n := as.length) (As := as.map (mm_tv ad)) (rest := t.map (mm_tv ad)) (g := F0 m pc ls (st.map (mm_tv ad))) ⟨hx, hb, hml, hown, hts⟩ hM hcw ⟨mm_blind, mm_pre (as := as) hP hK hD hN⟩ rfl (by simp) hl.1 hst (lv_room (by rw [mm_tv_ct]; exact h.1)) hd ⟨Nat.zero_le _, Nat.zero_le _⟩
              exact mm_after (t := t) hn hl hD hS hA hrun
            · have hq := of_decide_eq_true hq
              have hw0 : ∀ w ∈ mm_cw T (md.2.2.2.2.1, _, 2, x, 0), w.before args s = true := fun w hw => hts _ (List.mem_cons_of_mem _ (mm_in_c hq hw))
              simp only [mm_cw, q3, List.forall_mem_cons] at hw0
              have hcw := va_cnB (R := mm_rm (d + 1)) (s := s) (args := args) (bytes := mx.2.1) (maxL := mx.2.2.1) (ret := mx.2.2.2.1) (ws := mm_mw mx :: mm_tb T) (ws' := mm_tb T) (rm := mm_rm d) (mc := 0) (ms := 0) as.length hts (mm_good ok q3) rfl rfl rfl (hN _ hq rfl mx q3) hw0.2.1 ⟨hmx.2.2.2.1.1, hmx.2.2.2.1.2, hnp⟩ hroom
              have hrun := va_runSN (e := e) (below := below) (meth := meth) (locs := locs) (n := as.length) (As := as.map (mm_tv ad)) (rest := t.map (mm_tv ad)) (g := F0 m pc ls (st.map (mm_tv ad))) ⟨hx, hb, hml, hown, hts⟩ hM ⟨hcw, hw0.1, trivial⟩ ⟨mm_blind, mm_pre (as := as) hP hK hD hN⟩ rfl (by simp) hl.1 hst (lv_room (by rw [mm_tv_ct]; exact h.1)) hd ⟨Nat.zero_le _, Nat.zero_le _⟩
              exact mm_after (t := t) hn hl hD hS hA hrun
        · exact h.elim
  · simp only [mm_ln] at hlen
    subst hlen
    simp only [mm_lk, mm_ln, Bool.and_eq_true] at hk
    have h1 := of_decide_eq_true hk.1
    have h2 := of_decide_eq_true hk.2
    rw [h1]
    split at h
    · rename_i a
      have hq : ∀ t : State, t.heap = H → s.WarmedH t.vm → mm_Qc T D cI cJ ad A 1 Q args s (.returned (some (.int a))) t := fun t ht hW => ⟨⟨a, (I, L, 0), rfl, h.2, by rw [ht]; exact hP, va_K.moved hW.alike hK, hD⟩, hS.F ht⟩
      rcases h2 with ⟨-, h2⟩ | ⟨hu, h2⟩
      · exact W.iret hx hb (hr.trans h2) hq hS.2.2 hd hlocks
      · exact W.zret hx hb (hr.trans h2) (by rcases h.1 hu with rfl | rfl <;> rfl) hq hS.2.2 hd hlocks
    · exact h.elim
  · simp only [mm_ln] at hlen
    subst hlen
    simp only [mm_lk, mm_ln, Bool.and_eq_true] at hk
    have h1 := of_decide_eq_true hk.1
    have h2 := of_decide_eq_true hk.2
    rw [h1]
    split at h
    · rename_i a
      exact W.lret hx hb (hr.trans h2) (fun t ht hW => ⟨⟨a, (I, L, 0), rfl, h, by rw [ht]; exact hP, va_K.moved hW.alike hK, hD⟩, hS.F ht⟩) hS.2.2 hd hlocks
    · exact h.elim
  · simp only [mm_ln] at hlen
    subst hlen
    simp only [mm_lk, mm_ln, Bool.and_eq_true] at hk
    have h1 := of_decide_eq_true hk.1
    have h2 := of_decide_eq_true hk.2
    rw [h1]
    split at h
    · exact W.vret hx hb (hr.trans h2) (fun t ht hW => ⟨⟨(I, L, 0, 0), rfl, h, by rw [ht]; exact hP, va_K.moved hW.alike hK, hD⟩, hS.F ht⟩) hS.2.2 hd hlocks
    · exact h.elim
  · exact h.elim
/-- a method of the small machine is the machine's -/
theorem mm_sound (ok : mm_ok T) : ∀ d : Nat, mm_hc T D cI cJ ad l d := by
  intro d
  induction d with
  | zero => intro x mx _ as I L Q sz h; exact h.elim
  | succ d ih =>
    intro x mx hx as I L Q sz h
    have hm := ok.1 x mx hx
    unfold mm_P at h
    rw [hx] at h
    obtain ⟨h0, h⟩ := h
    refine Met.ofW (cc := mx.2.1) (maxL := mx.2.2.1) (ret := mx.2.2.2.1) hm.1 rfl ?_
    intro p e s m args below meth c s₁ B hml hv
    obtain ⟨rfl, hsz, ⟨hP, hK, hD0⟩, hN⟩ := hv
    have hts := atoms_spec (ws := mm_mw mx :: mm_tb T) B.pre
    have hown : s.vm.findClass mx.1.cls = some m.cls := findClass_of_methodNamed B.named
    rw [hm.2.1] at hown
    subst hsz
    have hD := hD0.self (sz := s.heap.size)
    have hA : ∀ q : Nat, s.heap.size ≤ q → va_A (mm_ws (mm_sh T) ad cI cJ I L) s.heap.size q := fun q h => Or.inr h
    have hS : va_S (va_A (mm_ws (mm_sh T) ad cI cJ I L) s.heap.size) s.heap s.heap [] := va_S.rf
    have C0 : mm_At T D cI cJ p s m _ meth c (va_A (mm_ws (mm_sh T) ad cI cJ I L) s.heap.size) mx := ⟨B.exec, B.bytes, B.returns, B.notSynchronized, hml, hown, hts, hK, hN, hA⟩
    rw [lg_entry_eq]
    exact h _ (mm_step (d := d) (l := l) (ad := ad) (e := e) (below := below) (Q := Q) ok hm C0 ih) 0 hm.2.2.2.2.1 _ s.heap [] (mm_lr_en ad mx.2.2.1 as h0) hP hD hS
end MF
end
