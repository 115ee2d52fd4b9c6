section
/-! ===== A small machine over fixed cells: ints and longs by (cell, place); its one-instruction transformer, its least fixed point, its calls by depth ===== -/
abbrev mm_I : Type := Nat → Nat → Int32
abbrev mm_L : Type := Nat → Nat → Int64
abbrev mm_Q : Type := mm_I → mm_L → Int32 → Int64 → Prop
abbrev mm_K : Type := Nat → List Value → List Value → mm_I → mm_L → Prop
abbrev mm_C : Type := Nat → List Value → mm_I → mm_L → mm_Q → Prop
/-- a cell: (0, number of its kind, its fields' kinds), (1, length of a row of ints), (2, length of a row of longs); a field: 0 int, 1 long, 2 boolean, r + 3 the cell r -/
abbrev mm_S : Type := List (Nat × Nat × List Nat)
/-- an entry: place of the byte, instruction, length, a loop's head or not, and what its links say -/
abbrev mm_E : Type := Nat × Instr × Nat × Bool × Nat × Nat × Nat × Nat × Int × List Nat
/-- a method: name, bytes, locals, answer, number of its owner, kind of answer (0 none, 1 int, 2 long), its entries -/
abbrev mm_M : Type := MethodName × ByteArray × Nat × Option FieldType × Nat × Nat × List mm_E
def mm_ui (I : mm_I) (a k : Nat) (v : Int32) : mm_I := fun b j => if b = a then (if j = k then v else I b j) else I b j
def mm_ul (L : mm_L) (a k : Nat) (v : Int64) : mm_L := fun b j => if b = a then (if j = k then v else L b j) else L b j
/-- a row of ints written over -/
def mm_ur (I : mm_I) (a : Nat) (f : Nat → Int32) : mm_I := fun b j => if b = a then f j else I b j
def mm_ia (sh : mm_S) (a : Nat) : Nat := match sh[a]? with
  | some (1, n, _) => n
  | _ => 0
def mm_la (sh : mm_S) (a : Nat) : Nat := match sh[a]? with
  | some (2, n, _) => n
  | _ => 0
def mm_ldi (lo : List Value) (n : Nat) (k : Int32 → Prop) : Prop := match lo[n]? with
  | some (.int a) => k a
  | _ => False
def mm_ldl (lo : List Value) (n : Nat) (k : Int64 → Prop) : Prop := match lo[n]? with
  | some (.long a) => k a
  | _ => False
def mm_lda (lo : List Value) (n : Nat) (k : Nat → Prop) : Prop := match lo[n]? with
  | some (.ref a) => k a
  | _ => False
def mm_cut (lo : List Value) (n : Nat) : List Value := if (lo.getD n .null).category = 2 then lo.set n .null else lo
def mm_set1 (lo : List Value) (n : Nat) (v : Value) : List Value := match n with
  | 0 => lo.set 0 v
  | k + 1 => (mm_cut lo k).set (k + 1) v
def mm_set2 (lo : List Value) (n : Nat) (v : Value) : List Value := (mm_set1 lo n v).set (n + 1) .null
def mm_ct : List Value → Nat
  | [] => 0
  | v :: t => v.category + mm_ct t
def mm_pop : Nat → List Value → List Value → Option (List Value × List Value)
  | 0, acc, st => some (acc, st)
  | _ + 1, _, [] => none
  | n + 1, acc, v :: st => mm_pop n (v :: acc) st
def mm_push (rk : Nat) (ri : Int32) (rl : Int64) (st : List Value) : List Value := match rk with
  | 0 => st
  | 1 => .int ri :: st
  | _ => .long rl :: st
/-- a switch: the value against lo, lo + 1 .. -/
def mm_sw (z : Int32) (K : Nat → Prop) : Int → List Nat → Prop
  | _, [] => True
  | n, t :: ts => (z = Int32.ofInt n → K t) ∧ mm_sw z K (n + 1) ts
def mm_cmp (c : Jvm.ClassFile.Cond) (a b : Int32) : Prop := match c with
  | .eq => a = b
  | .ne => ¬ a = b
  | .lt => a < b
  | .ge => b ≤ a
  | .gt => b < a
  | .le => a ≤ b
def mm_ii (st : List Value) (k : Int32 → Int32 → List Value → Prop) : Prop := match st with
  | .int b :: .int a :: r => k a b r
  | _ => False
def mm_i (st : List Value) (k : Int32 → List Value → Prop) : Prop := match st with
  | .int a :: r => k a r
  | _ => False
def mm_ll (st : List Value) (k : Int64 → Int64 → List Value → Prop) : Prop := match st with
  | .long b :: .long a :: r => k a b r
  | _ => False
def mm_l (st : List Value) (k : Int64 → List Value → Prop) : Prop := match st with
  | .long a :: r => k a r
  | _ => False
def mm_a (st : List Value) (k : Nat → List Value → Prop) : Prop := match st with
  | .ref a :: r => k a r
  | _ => False
def mm_ia2 (st : List Value) (k : Nat → Int32 → List Value → Prop) : Prop := match st with
  | .int j :: .ref a :: r => k a j r
  | _ => False
def mm_get (x y u r : Nat) (I : mm_I) (L : mm_L) (k : Value → Prop) : Prop := r = x ∧ (match u with
  | 0 => k (.int (I x y))
  | 1 => k (.long (L x y))
  | 2 => k (.int (I x y))
  | n + 3 => k (.ref n))
def mm_put (x y u : Nat) (st : List Value) (I : mm_I) (L : mm_L) (k : List Value → mm_I → mm_L → Prop) : Prop := match u with
  | 0 => (match st with
    | .int v :: .ref r :: t => r = x ∧ k t (mm_ui I x y v) L
    | _ => False)
  | 1 => (match st with
    | .long v :: .ref r :: t => r = x ∧ k t I (mm_ul L x y v)
    | _ => False)
  | 2 => (match st with
    | .int v :: .ref r :: t => r = x ∧ (v = 0 ∨ v = 1) ∧ k t (mm_ui I x y v) L
    | _ => False)
  | _ => False
/-- a call of a method of ours -/
def mm_inv (call : mm_C) (K : mm_K) (m n rk : Nat) (i : Nat) (lo st : List Value) (I : mm_I) (L : mm_L) : Prop := match mm_pop n [] st with
  | some (as, t) => mm_ct t ≤ 8 ∧ call m as I L (fun I' L' ri rl => K (i + 1) lo (mm_push rk ri rl t) I' L')
  | none => False
def mm_rcv (n w : Nat) (st : List Value) : Prop := match mm_pop n [] st with
  | some (.ref r :: _, _) => r = w
  | _ => False
/-- System.arraycopy of rows of ints -/
def mm_cpy (sh : mm_S) (st : List Value) (I : mm_I) (k : List Value → mm_I → Prop) : Prop := match st with
  | .int n :: .int dp :: .ref b :: .int sp :: .ref a :: t => mm_ct t ≤ 8 ∧ (a < sh.length ∧ b < sh.length ∧ 0 < mm_ia sh a ∧ 0 < mm_ia sh b ∧ ¬ sp < 0 ∧ ¬ dp < 0 ∧ ¬ n < 0 ∧ sp.toNatClampNeg + n.toNatClampNeg ≤ mm_ia sh a ∧ dp.toNatClampNeg + n.toNatClampNeg ≤ mm_ia sh b) ∧ k t (mm_ur I b (va_cpy (I a) (I b) sp.toNatClampNeg dp.toNatClampNeg n.toNatClampNeg))
  | _ => False
/-- one instruction -/
def mm_st (sh : mm_S) (call : mm_C) (Q : mm_Q) (K : mm_K) (ins : Instr) (x y u w : Nat) (z : Int) (ts : List Nat) (i : Nat) (lo st : List Value) (I : mm_I) (L : mm_L) : Prop := match ins with
  | .aload n => mm_lda lo n (fun a => K (i + 1) lo (.ref a :: st) I L)
  | .aload_n n => mm_lda lo n.val (fun a => K (i + 1) lo (.ref a :: st) I L)
  | .iload n => mm_ldi lo n (fun a => K (i + 1) lo (.int a :: st) I L)
  | .iload_n n => mm_ldi lo n.val (fun a => K (i + 1) lo (.int a :: st) I L)
  | .lload n => mm_ldl lo n (fun a => K (i + 1) lo (.long a :: st) I L)
  | .lload_n n => mm_ldl lo n.val (fun a => K (i + 1) lo (.long a :: st) I L)
  | .istore n => mm_i st (fun a t => n < lo.length ∧ K (i + 1) (mm_set1 lo n (.int a)) t I L)
  | .istore_n n => mm_i st (fun a t => n.val < lo.length ∧ K (i + 1) (mm_set1 lo n.val (.int a)) t I L)
  | .astore n => mm_a st (fun a t => n < lo.length ∧ K (i + 1) (mm_set1 lo n (.ref a)) t I L)
  | .astore_n n => mm_a st (fun a t => n.val < lo.length ∧ K (i + 1) (mm_set1 lo n.val (.ref a)) t I L)
  | .lstore n => mm_l st (fun a t => n + 1 < lo.length ∧ K (i + 1) (mm_set2 lo n (.long a)) t I L)
  | .lstore_n n => mm_l st (fun a t => n.val + 1 < lo.length ∧ K (i + 1) (mm_set2 lo n.val (.long a)) t I L)
  | .iinc n c => mm_ldi lo n (fun a => K (i + 1) (mm_set1 lo n (.int (a + Int32.ofInt c))) st I L)
  | .iconst c => K (i + 1) lo (.int (Int32.ofInt c) :: st) I L
  | .bipush c => K (i + 1) lo (.int (Int8.ofInt c).toInt32 :: st) I L
  | .sipush c => K (i + 1) lo (.int (Int16.ofInt c).toInt32 :: st) I L
  | .lconst c => K (i + 1) lo (.long (Int64.ofNat c.val) :: st) I L
  | .ldc _ => K (i + 1) lo (.int (Int32.ofInt z) :: st) I L
  | .ldc_w _ => K (i + 1) lo (.int (Int32.ofInt z) :: st) I L
  | .ldc2_w _ => K (i + 1) lo (.long (Int64.ofInt z) :: st) I L
  | .iadd => mm_ii st (fun a b t => K (i + 1) lo (.int (a + b) :: t) I L)
  | .isub => mm_ii st (fun a b t => K (i + 1) lo (.int (a - b) :: t) I L)
  | .imul => mm_ii st (fun a b t => K (i + 1) lo (.int (a * b) :: t) I L)
  | .iand => mm_ii st (fun a b t => K (i + 1) lo (.int (a &&& b) :: t) I L)
  | .ior => mm_ii st (fun a b t => K (i + 1) lo (.int (a ||| b) :: t) I L)
  | .ixor => mm_ii st (fun a b t => K (i + 1) lo (.int (a ^^^ b) :: t) I L)
  | .ishl => mm_ii st (fun a b t => K (i + 1) lo (.int (a <<< (b &&& 31)) :: t) I L)
  | .ishr => mm_ii st (fun a b t => K (i + 1) lo (.int (a >>> (b &&& 31)) :: t) I L)
  | .iushr => mm_ii st (fun a b t => K (i + 1) lo (.int (a.toUInt32 >>> (b.toUInt32 &&& Int32.toUInt32 31)).toInt32 :: t) I L)
  | .idiv => mm_ii st (fun a b t => ¬ b = 0 ∧ K (i + 1) lo (.int (a / b) :: t) I L)
  | .irem => mm_ii st (fun a b t => ¬ b = 0 ∧ K (i + 1) lo (.int (a - a / b * b) :: t) I L)
  | .ladd => mm_ll st (fun a b t => K (i + 1) lo (.long (a + b) :: t) I L)
  | .lsub => mm_ll st (fun a b t => K (i + 1) lo (.long (a - b) :: t) I L)
  | .lmul => mm_ll st (fun a b t => K (i + 1) lo (.long (a * b) :: t) I L)
  | .lneg => mm_l st (fun a t => K (i + 1) lo (.long (-a) :: t) I L)
  | .lcmp => mm_ll st (fun a b t => K (i + 1) lo (.int (lg_cmp a b) :: t) I L)
  | .i2l => mm_i st (fun a t => K (i + 1) lo (.long a.toInt64 :: t) I L)
  | .l2i => mm_l st (fun a t => K (i + 1) lo (.int a.toInt32 :: t) I L)
  | .dup => (match st with
    | .int a :: t => K (i + 1) lo (.int a :: .int a :: t) I L
    | .ref a :: t => K (i + 1) lo (.ref a :: .ref a :: t) I L
    | _ => False)
  | .dup2 => mm_ia2 st (fun a j t => K (i + 1) lo (.int j :: .ref a :: .int j :: .ref a :: t) I L)
  | .goto _ => K x lo st I L
  | .if_icmp c _ => mm_ii st (fun a b t => (mm_cmp c a b → K x lo t I L) ∧ (¬ mm_cmp c a b → K (i + 1) lo t I L))
  | .ifCond c _ => mm_i st (fun a t => (mm_cmp c a 0 → K x lo t I L) ∧ (¬ mm_cmp c a 0 → K (i + 1) lo t I L))
  | .tableswitch _ n h _ => mm_i st (fun a t => mm_sw a (fun j => K j lo t I L) n ts ∧ ((a.toInt < n ∨ h < a.toInt) → K x lo t I L))
  | .getfield _ => mm_a st (fun r t => mm_get x y u r I L (fun v => K (i + 1) lo (v :: t) I L))
  | .putfield _ => mm_put x y u st I L (fun t I' L' => K (i + 1) lo t I' L')
  | .iaload => mm_ia2 st (fun a j t => vp_in j (mm_ia sh a) ∧ K (i + 1) lo (.int (I a j.toNatClampNeg) :: t) I L)
  | .laload => mm_ia2 st (fun a j t => vp_in j (mm_la sh a) ∧ K (i + 1) lo (.long (L a j.toNatClampNeg) :: t) I L)
  | .iastore => (match st with
    | .int v :: .int j :: .ref a :: t => vp_in j (mm_ia sh a) ∧ K (i + 1) lo t (mm_ui I a j.toNatClampNeg v) L
    | _ => False)
  | .lastore => (match st with
    | .long v :: .int j :: .ref a :: t => vp_in j (mm_la sh a) ∧ K (i + 1) lo t I (mm_ul L a j.toNatClampNeg v)
    | _ => False)
  | .arraylength => mm_a st (fun a t => ¬ mm_ia sh a + mm_la sh a = 0 ∧ K (i + 1) lo (.int (Int32.ofNat (mm_ia sh a + mm_la sh a)) :: t) I L)
  | .invokevirtual _ => mm_rcv y w st ∧ mm_inv call K x y u i lo st I L
  | .invokestatic _ => (match u with
    | 10 => mm_l st (fun a t => mm_ct t ≤ 8 ∧ K (i + 1) lo (.long (if 0 < a then a else -a) :: t) I L)
    | 11 => mm_ii st (fun a b t => mm_ct t ≤ 8 ∧ K (i + 1) lo (.int (if a < b then b else a) :: t) I L)
    | 12 => mm_ll st (fun a b t => mm_ct t ≤ 8 ∧ K (i + 1) lo (.long (if b < a then a else b) :: t) I L)
    | 13 => mm_ll st (fun a b t => mm_ct t ≤ 8 ∧ K (i + 1) lo (.long (if b < a then b else a) :: t) I L)
    | 14 => mm_cpy sh st I (fun t I' => K (i + 1) lo t I' L)
    | _ => mm_inv call K x y u i lo st I L)
  | .ireturn => (match st with
    | [.int a] => (u = 1 → a = 0 ∨ a = 1) ∧ Q I L a 0
    | _ => False)
  | .lreturn => (match st with
    | [.long a] => Q I L 0 a
    | _ => False)
  | .return_ => (match st with
    | [] => Q I L 0 0
    | _ => False)
  | _ => False
def mm_one (sh : mm_S) (call : mm_C) (tb : List mm_E) (Q : mm_Q) (K : mm_K) : mm_K := fun i lo st I L => match tb[i]? with
  | some (_, ins, _, _, x, y, u, w, z, ts) => mm_st sh call Q K ins x y u w z ts i lo st I L
  | none => False
/-- from this frame on the method returns, and Q holds then: the least fixed point of one instruction -/
def mm_W (sh : mm_S) (call : mm_C) (tb : List mm_E) (Q : mm_Q) : mm_K := fun i lo st I L => ∀ X : mm_K, (∀ i lo st I L, mm_one sh call tb Q X i lo st I L → X i lo st I L) → X i lo st I L
def mm_sl : List Value → List Value
  | [] => []
  | v :: t => if v.category = 2 then v :: .null :: mm_sl t else v :: mm_sl t
def mm_en (n : Nat) (as : List Value) : List Value := mm_sl as ++ List.replicate (n - (mm_sl as).length) .null
/-- a method, called with at most d methods open at once -/
def mm_P (sh : mm_S) (ms : List mm_M) : Nat → mm_C
  | 0 => fun _ _ _ _ _ => False
  | d + 1 => fun m as I L Q => match ms[m]? with
    | some (_, _, n, _, _, _, tb) => (mm_sl as).length ≤ n ∧ mm_W sh (mm_P sh ms d) tb Q 0 (mm_en n as) [] I L
    | none => False
/-- instructions one behind another, up to a loop's head -/
def mm_v (sh : mm_S) (call : mm_C) (tb : List mm_E) (Q : mm_Q) : Nat → mm_K
  | 0 => mm_W sh call tb Q
  | n + 1 => fun i lo st I L => match tb[i]? with
    | some (_, ins, _, hd, x, y, u, w, z, ts) => (match hd with
      | true => mm_W sh call tb Q i lo st I L
      | false => mm_st sh call Q (mm_v sh call tb Q n) ins x y u w z ts i lo st I L)
    | none => False
/-- the same, from a head on -/
def mm_h (sh : mm_S) (call : mm_C) (tb : List mm_E) (Q : mm_Q) (n : Nat) : mm_K := fun i lo st I L => match tb[i]? with
  | some (_, ins, _, _, x, y, u, w, z, ts) => mm_st sh call Q (mm_v sh call tb Q n) ins x y u w z ts i lo st I L
  | none => False
/-! what is monotone -/
def mm_leC (c1 c2 : mm_C) : Prop := ∀ m as I L Q, c1 m as I L Q → c2 m as I L Q
def mm_moC (c : mm_C) : Prop := ∀ m as I L (Q Q' : mm_Q), (∀ I L a b, Q I L a b → Q' I L a b) → c m as I L Q → c m as I L Q'
theorem mm_sw_mono {z : Int32} {K K' : Nat → Prop} (h : ∀ j, K j → K' j) : ∀ (n : Int) (ts : List Nat), mm_sw z K n ts → mm_sw z K' n ts := by
  intro n ts
  induction ts generalizing n with
  | nil => intro _; trivial
  | cons t ts ih => intro q; exact ⟨fun e => h _ (q.1 e), ih _ q.2⟩
theorem mm_ldi_mono {lo : List Value} {n : Nat} {k k' : Int32 → Prop} (h : ∀ a, k a → k' a) (q : mm_ldi lo n k) : mm_ldi lo n k' := by
  unfold mm_ldi at q ⊢
  split at q
  · exact h _ q
  · exact q.elim
theorem mm_ldl_mono {lo : List Value} {n : Nat} {k k' : Int64 → Prop} (h : ∀ a, k a → k' a) (q : mm_ldl lo n k) : mm_ldl lo n k' := by
  unfold mm_ldl at q ⊢
  split at q
  · exact h _ q
  · exact q.elim
theorem mm_lda_mono {lo : List Value} {n : Nat} {k k' : Nat → Prop} (h : ∀ a, k a → k' a) (q : mm_lda lo n k) : mm_lda lo n k' := by
  unfold mm_lda at q ⊢
  split at q
  · exact h _ q
  · exact q.elim
theorem mm_ii_mono {st : List Value} {k k' : Int32 → Int32 → List Value → Prop} (h : ∀ a b t, k a b t → k' a b t) (q : mm_ii st k) : mm_ii st k' := by
  unfold mm_ii at q ⊢
  split at q
  · exact h _ _ _ q
  · exact q.elim
theorem mm_i_mono {st : List Value} {k k' : Int32 → List Value → Prop} (h : ∀ a t, k a t → k' a t) (q : mm_i st k) : mm_i st k' := by
  unfold mm_i at q ⊢
  split at q
  · exact h _ _ q
  · exact q.elim
theorem mm_ll_mono {st : List Value} {k k' : Int64 → Int64 → List Value → Prop} (h : ∀ a b t, k a b t → k' a b t) (q : mm_ll st k) : mm_ll st k' := by
  unfold mm_ll at q ⊢
  split at q
  · exact h _ _ _ q
  · exact q.elim
theorem mm_l_mono {st : List Value} {k k' : Int64 → List Value → Prop} (h : ∀ a t, k a t → k' a t) (q : mm_l st k) : mm_l st k' := by
  unfold mm_l at q ⊢
  split at q
  · exact h _ _ q
  · exact q.elim
theorem mm_a_mono {st : List Value} {k k' : Nat → List Value → Prop} (h : ∀ a t, k a t → k' a t) (q : mm_a st k) : mm_a st k' := by
  unfold mm_a at q ⊢
  split at q
  · exact h _ _ q
  · exact q.elim
theorem mm_ia2_mono {st : List Value} {k k' : Nat → Int32 → List Value → Prop} (h : ∀ a j t, k a j t → k' a j t) (q : mm_ia2 st k) : mm_ia2 st k' := by
  unfold mm_ia2 at q ⊢
  split at q
  · exact h _ _ _ q
  · exact q.elim
theorem mm_get_mono {x y u r : Nat} {I : mm_I} {L : mm_L} {k k' : Value → Prop} (h : ∀ v, k v → k' v) (q : mm_get x y u r I L k) : mm_get x y u r I L k' := by
  unfold mm_get at q ⊢
  refine ⟨q.1, ?_⟩
  have q2 := q.2
  split at q2 <;> exact h _ q2
theorem mm_put_mono {x y u : Nat} {st : List Value} {I : mm_I} {L : mm_L} {k k' : List Value → mm_I → mm_L → Prop} (h : ∀ t I L, k t I L → k' t I L) (q : mm_put x y u st I L k) : mm_put x y u st I L k' := by
  unfold mm_put at q ⊢
  split at q
  · split at q
    · exact ⟨q.1, h _ _ _ q.2⟩
    · exact q.elim
  · split at q
    · exact ⟨q.1, h _ _ _ q.2⟩
    · exact q.elim
  · split at q
    · exact ⟨q.1, q.2.1, h _ _ _ q.2.2⟩
    · exact q.elim
  · exact q.elim
theorem mm_cpy_mono {sh : mm_S} {st : List Value} {I : mm_I} {k k' : List Value → mm_I → Prop} (h : ∀ t I, k t I → k' t I) (q : mm_cpy sh st I k) : mm_cpy sh st I k' := by
  unfold mm_cpy at q ⊢
  split at q
  · exact ⟨q.1, q.2.1, h _ _ q.2.2⟩
  · exact q.elim
def mm_le (c1 c2 : mm_C) : Prop := ∀ m as I L (Q Q' : mm_Q), (∀ I L a b, Q I L a b → Q' I L a b) → c1 m as I L Q → c2 m as I L Q'
theorem mm_inv_mono {c1 c2 : mm_C} (hc : mm_le c1 c2) {K K' : mm_K} (hK : ∀ i lo st I L, K i lo st I L → K' i lo st I L) {m n rk i : Nat} {lo st : List Value} {I : mm_I} {L : mm_L} (q : mm_inv c1 K m n rk i lo st I L) : mm_inv c2 K' m n rk i lo st I L := by
  unfold mm_inv at q ⊢
  split at q
  · exact ⟨q.1, hc _ _ _ _ _ _ (fun _ _ _ _ z => hK _ _ _ _ _ z) q.2⟩
  · exact q.elim
set_option maxHeartbeats 4000000 in
theorem mm_st_mono {sh : mm_S} {c1 c2 : mm_C} (hc : mm_le c1 c2) {Q Q' : mm_Q} (hQ : ∀ I L a b, Q I L a b → Q' I L a b) {K K' : mm_K} (hK : ∀ i lo st I L, K i lo st I L → K' i lo st I L) {ins : Instr} {x y u w : Nat} {z : Int} {ts : List Nat} {i : Nat} {lo st : List Value} {I : mm_I} {L : mm_L}
    (h : mm_st sh c1 Q K ins x y u w z ts i lo st I L) : mm_st sh c2 Q' K' ins x y u w z ts i lo st I L := by
  unfold mm_st at h ⊢
  split at h
  all_goals first
    | exact h.elim
    | exact hK _ _ _ _ _ h
    | exact hQ _ _ _ _ h
    | exact mm_ldi_mono (fun _ => hK _ _ _ _ _) h
    | exact mm_ldl_mono (fun _ => hK _ _ _ _ _) h
    | exact mm_lda_mono (fun _ => hK _ _ _ _ _) h
    | exact mm_i_mono (fun _ _ => hK _ _ _ _ _) h
    | exact mm_ii_mono (fun _ _ _ => hK _ _ _ _ _) h
    | exact mm_l_mono (fun _ _ => hK _ _ _ _ _) h
    | exact mm_ll_mono (fun _ _ _ => hK _ _ _ _ _) h
    | exact mm_i_mono (fun _ _ q => ⟨q.1, hK _ _ _ _ _ q.2⟩) h
    | exact mm_ii_mono (fun _ _ _ q => ⟨q.1, hK _ _ _ _ _ q.2⟩) h
    | exact mm_l_mono (fun _ _ q => ⟨q.1, hK _ _ _ _ _ q.2⟩) h
    | exact mm_a_mono (fun _ _ q => ⟨q.1, hK _ _ _ _ _ q.2⟩) h
    | exact mm_ia2_mono (fun _ _ _ => hK _ _ _ _ _) h
    | exact mm_ia2_mono (fun _ _ _ q => ⟨q.1, hK _ _ _ _ _ q.2⟩) h
    | exact mm_ii_mono (fun _ _ _ q => ⟨fun e => hK _ _ _ _ _ (q.1 e), fun e => hK _ _ _ _ _ (q.2 e)⟩) h
    | exact mm_i_mono (fun _ _ q => ⟨fun e => hK _ _ _ _ _ (q.1 e), fun e => hK _ _ _ _ _ (q.2 e)⟩) h
    | exact mm_i_mono (fun _ _ q => ⟨mm_sw_mono (fun _ => hK _ _ _ _ _) _ _ q.1, fun e => hK _ _ _ _ _ (q.2 e)⟩) h
    | exact mm_a_mono (fun _ _ => mm_get_mono (fun _ => hK _ _ _ _ _)) h
    | exact mm_put_mono (fun _ _ _ => hK _ _ _ _ _) h
    | exact ⟨h.1, mm_inv_mono hc hK h.2⟩
    | (split at h
       all_goals first
         | exact h.elim
         | exact hK _ _ _ _ _ h
         | exact ⟨h.1, hK _ _ _ _ _ h.2⟩
         | exact ⟨h.1, hQ _ _ _ _ h.2⟩
         | exact hQ _ _ _ _ h
         | exact mm_l_mono (fun _ _ q => ⟨q.1, hK _ _ _ _ _ q.2⟩) h
         | exact mm_ii_mono (fun _ _ _ q => ⟨q.1, hK _ _ _ _ _ q.2⟩) h
         | exact mm_ll_mono (fun _ _ _ q => ⟨q.1, hK _ _ _ _ _ q.2⟩) h
         | exact mm_cpy_mono (fun _ _ => hK _ _ _ _ _) h
         | exact mm_inv_mono hc hK h)
theorem mm_one_mono {sh : mm_S} {c1 c2 : mm_C} (hc : mm_le c1 c2) {tb : List mm_E} {Q Q' : mm_Q} (hQ : ∀ I L a b, Q I L a b → Q' I L a b) {K K' : mm_K} (hK : ∀ i lo st I L, K i lo st I L → K' i lo st I L) {i : Nat} {lo st : List Value} {I : mm_I} {L : mm_L}
    (h : mm_one sh c1 tb Q K i lo st I L) : mm_one sh c2 tb Q' K' i lo st I L := by
  unfold mm_one at h ⊢
  split at h
  · exact mm_st_mono hc hQ hK h
  · exact h.elim
theorem mm_W_mono {sh : mm_S} {c1 c2 : mm_C} (hc : mm_le c1 c2) {tb : List mm_E} {Q Q' : mm_Q} (hQ : ∀ I L a b, Q I L a b → Q' I L a b) {i : Nat} {lo st : List Value} {I : mm_I} {L : mm_L}
    (h : mm_W sh c1 tb Q i lo st I L) : mm_W sh c2 tb Q' i lo st I L :=
  fun X hX => h X (fun i lo st I L q => hX i lo st I L (mm_one_mono hc hQ (fun _ _ _ _ _ z => z) q))
theorem mm_P_le (sh : mm_S) (ms : List mm_M) : ∀ d, mm_le (mm_P sh ms d) (mm_P sh ms d) ∧ mm_le (mm_P sh ms d) (mm_P sh ms (d + 1)) := by
  intro d
  induction d with
  | zero => exact ⟨fun _ _ _ _ _ _ _ h => h.elim, fun _ _ _ _ _ _ _ h => h.elim⟩
  | succ d ih =>
    refine ⟨fun m as I L Q Q' hQ h => ?_, fun m as I L Q Q' hQ h => ?_⟩
    · unfold mm_P at h ⊢
      split at h
      · exact ⟨h.1, mm_W_mono ih.1 hQ h.2⟩
      · exact h.elim
    · unfold mm_P at h ⊢
      split at h
      · exact ⟨h.1, mm_W_mono ih.2 hQ h.2⟩
      · exact h.elim
theorem mm_W_fold {sh : mm_S} {call : mm_C} (hc : mm_le call call) {tb : List mm_E} {Q : mm_Q} {i : Nat} {lo st : List Value} {I : mm_I} {L : mm_L}
    (h : mm_one sh call tb Q (mm_W sh call tb Q) i lo st I L) : mm_W sh call tb Q i lo st I L :=
  fun X hX => hX _ _ _ _ _ (mm_one_mono hc (fun _ _ _ _ z => z) (fun _ _ _ _ _ z => z X hX) h)
theorem mm_v_ok {sh : mm_S} {call : mm_C} (hc : mm_le call call) {tb : List mm_E} {Q : mm_Q} : ∀ (n : Nat) {i : Nat} {lo st : List Value} {I : mm_I} {L : mm_L}, mm_v sh call tb Q n i lo st I L → mm_W sh call tb Q i lo st I L := by
  intro n
  induction n with
  | zero => intro i lo st I L h; exact h
  | succ n ih =>
    intro i lo st I L h
    unfold mm_v at h
    split at h
    · rename_i he
      split at h
      · exact h
      · refine mm_W_fold hc ?_
        unfold mm_one
        rw [he]
        exact mm_st_mono hc (fun _ _ _ _ z => z) (fun _ _ _ _ _ => ih) h
    · exact h.elim
theorem mm_h_ok {sh : mm_S} {call : mm_C} (hc : mm_le call call) {tb : List mm_E} {Q : mm_Q} (n : Nat) {i : Nat} {lo st : List Value} {I : mm_I} {L : mm_L} (h : mm_h sh call tb Q n i lo st I L) : mm_W sh call tb Q i lo st I L := by
  unfold mm_h at h
  split at h
  · rename_i he
    refine mm_W_fold hc ?_
    unfold mm_one
    rw [he]
    exact mm_st_mono hc (fun _ _ _ _ z => z) (fun _ _ _ _ _ => mm_v_ok hc n) h
  · exact h.elim
end
section
/-! ===== The small machine is the machine: from mm_P to Met ===== -/
def mm_tv (ad : Nat → Nat) (v : Value) : Value := match v with
  | .ref r => .ref (ad r)
  | v => v
def mm_fv (ad : Nat → Nat) (I : mm_I) (L : mm_L) (r k kd : Nat) : Value := match kd with
  | 0 => .int (I r k)
  | 1 => .long (L r k)
  | 2 => .int (I r k)
  | n + 3 => .ref (ad n)
def mm_ce (ad : Nat → Nat) (cI cJ : ClassId) (I : mm_I) (L : mm_L) (r : Nat) (e : Nat × Nat × List Nat) : va_E := match e with
  | (1, n, _) => .inl (cI, n, .inl (I r))
  | (2, n, _) => .inl (cJ, n, .inr (.inl (L r)))
  | (_, ci, ks) => .inr (ci, ks.mapIdx (fun k kd => mm_fv ad I L r k kd))
def mm_ws (sh : mm_S) (ad : Nat → Nat) (cI cJ : ClassId) (I : mm_I) (L : mm_L) : va_W := sh.mapIdx (fun r e => (ad r, mm_ce ad cI cJ I L r e))
theorem mm_ws_at {sh : mm_S} {ad : Nat → Nat} {cI cJ : ClassId} {I : mm_I} {L : mm_L} {r : Nat} {e : Nat × Nat × List Nat} (h : sh[r]? = some e) : (mm_ws sh ad cI cJ I L)[r]? = some (ad r, mm_ce ad cI cJ I L r e) := by
  unfold mm_ws
  rw [List.getElem?_mapIdx, h]
  rfl
theorem mm_ia_at {sh : mm_S} {a : Nat} (h : 0 < mm_ia sh a) : ∃ ks, sh[a]? = some (1, mm_ia sh a, ks) := by
  unfold mm_ia at h ⊢
  split at h
  · rename_i n ks hq
    exact ⟨ks, by rw [hq]⟩
  · exact absurd h (Nat.lt_irrefl 0)
theorem mm_la_at {sh : mm_S} {a : Nat} (h : 0 < mm_la sh a) : ∃ ks, sh[a]? = some (2, mm_la sh a, ks) := by
  unfold mm_la at h ⊢
  split at h
  · rename_i n ks hq
    exact ⟨ks, by rw [hq]⟩
  · exact absurd h (Nat.lt_irrefl 0)
theorem mm_vp_pos {j : Int32} {n : Nat} (h : vp_in j n) : 0 < n := by
  rcases Nat.eq_zero_or_pos n with q | q
  · exact absurd (Or.inr (by rw [q]; exact Nat.zero_le _)) h
  · exact q
theorem mm_ui_row (I : mm_I) (a k : Nat) (v : Int32) : mm_ui I a k v a = upd (I a) k v := by
  funext j
  simp [mm_ui, upd]
theorem mm_ui_off (I : mm_I) {a b : Nat} (k : Nat) (v : Int32) (h : b ≠ a) : mm_ui I a k v b = I b := by
  funext j
  simp [mm_ui, h]
theorem mm_ul_row (L : mm_L) (a k : Nat) (v : Int64) : mm_ul L a k v a = vp_updL (L a) k v := by
  funext j
  simp [mm_ul, vp_updL]
theorem mm_ul_off (L : mm_L) {a b : Nat} (k : Nat) (v : Int64) (h : b ≠ a) : mm_ul L a k v b = L b := by
  funext j
  simp [mm_ul, h]
theorem mm_ur_row (I : mm_I) (a : Nat) (f : Nat → Int32) : mm_ur I a f a = f := by
  funext j
  simp [mm_ur]
theorem mm_ur_off (I : mm_I) {a b : Nat} (f : Nat → Int32) (h : b ≠ a) : mm_ur I a f b = I b := by
  funext j
  simp [mm_ur, h]
/-- worlds that differ at one cell -/
theorem mm_ws_set {sh : mm_S} {ad : Nat → Nat} {cI cJ : ClassId} {I I' : mm_I} {L L' : mm_L} {r : Nat} {e : Nat × Nat × List Nat} {x : va_E} (h : sh[r]? = some e) (hx : mm_ce ad cI cJ I' L' r e = x) (hi : ∀ b, b ≠ r → I' b = I b) (hl : ∀ b, b ≠ r → L' b = L b) :
    (mm_ws sh ad cI cJ I L).set r (ad r, x) = mm_ws sh ad cI cJ I' L' := by
  apply List.ext_getElem?
  intro j
  have hr : r < sh.length := (List.getElem?_eq_some_iff.mp h).1
  by_cases hj : j = r
  · subst hj
    rw [mm_ws_at h, List.getElem?_set_self (by unfold mm_ws; rw [List.length_mapIdx]; exact hr), hx]
  · rw [List.getElem?_set_ne (fun q => hj q.symm)]
    unfold mm_ws
    rw [List.getElem?_mapIdx, List.getElem?_mapIdx]
    cases hs : sh[j]? with
    | none => rfl
    | some e' =>
      have : mm_ce ad cI cJ I L j e' = mm_ce ad cI cJ I' L' j e' := by
        obtain ⟨t, n, ks⟩ := e'
        unfold mm_ce mm_fv
        rw [hi j hj, hl j hj]
      simp [this]
theorem mm_fs_set (ad : Nat → Nat) (I I' : mm_I) (L L' : mm_L) (r k : Nat) (v : Value) (ks : List Nat) (hk : ∀ kd, ks[k]? = some kd → mm_fv ad I' L' r k kd = v) (ho : ∀ j kd, j ≠ k → mm_fv ad I' L' r j kd = mm_fv ad I L r j kd) :
    ks.mapIdx (fun k kd => mm_fv ad I' L' r k kd) = (ks.mapIdx (fun k kd => mm_fv ad I L r k kd)).set k v := by
  apply List.ext_getElem?
  intro j
  by_cases hj : j = k
  · subst hj
    cases hs : ks[j]? with
    | none =>
      have : ks.length ≤ j := List.getElem?_eq_none_iff.mp hs
      rw [List.getElem?_mapIdx, hs, List.getElem?_eq_none (by simp; exact this)]
      rfl
    | some kd =>
      rw [List.getElem?_mapIdx, hs, List.getElem?_set_self (by rw [List.length_mapIdx]; exact (List.getElem?_eq_some_iff.mp hs).1)]
      simp [hk kd hs]
  · rw [List.getElem?_set_ne (fun q => hj q.symm), List.getElem?_mapIdx, List.getElem?_mapIdx]
    cases ks[j]? with
    | none => rfl
    | some kd => simp [ho j kd hj]
/-! locals -/
def mm_lr (ad : Nat → Nat) (ls : Array Slot) (nL : Nat) (lo : List Value) : Prop := ls.size = nL ∧ lo.length = nL ∧ lv_wf ls ∧ ∀ (i : Nat) (v : Value), lo[i]? = some v → v ≠ .null → ls[i]? = some (.val (mm_tv ad v))
theorem mm_tv_cat (ad : Nat → Nat) (v : Value) : (mm_tv ad v).category = v.category := by cases v <;> rfl
theorem mm_tv_ct (ad : Nat → Nat) (st : List Value) : ((st.map (mm_tv ad)).map fun v => v.category).sum = mm_ct st := by
  induction st with
  | nil => rfl
  | cons v t ih => simp only [List.map_cons, List.sum_cons, mm_ct, mm_tv_cat, ih]
def mm_one1 (ad : Nat → Nat) (lo : List Value) (j : Nat) : Option (Nat × Value) := match lo[j]? with
  | some .null => none
  | some u => some (j, mm_tv ad u)
  | none => none
def mm_as (ad : Nat → Nat) (lo : List Value) : List (Nat × Value) := (List.range lo.length).filterMap (mm_one1 ad lo)
theorem mm_as_in {ad : Nat → Nat} {lo : List Value} {i : Nat} {v : Value} (h : lo[i]? = some v) (hv : v ≠ .null) : (i, mm_tv ad v) ∈ mm_as ad lo := by
  refine List.mem_filterMap.mpr ⟨i, List.mem_range.mpr (List.getElem?_eq_some_iff.mp h).1, ?_⟩
  unfold mm_one1
  rw [h]
  cases v <;> first | rfl | exact absurd rfl hv
theorem mm_as_of {ad : Nat → Nat} {lo : List Value} {q : Nat × Value} (h : q ∈ mm_as ad lo) : ∃ v, lo[q.1]? = some v ∧ v ≠ .null ∧ q.2 = mm_tv ad v := by
  obtain ⟨j, -, hj⟩ := List.mem_filterMap.mp h
  unfold mm_one1 at hj
  split at hj
  · cases hj
  · rename_i u h1 h2
    cases hj
    exact ⟨u, h2, fun e => h1 (by rw [e]), rfl⟩
  · cases hj
theorem mm_lr_has {ad : Nat → Nat} {ls : Array Slot} {nL : Nat} {lo : List Value} (h : mm_lr ad ls nL lo) : lv_has ls nL (mm_as ad lo) := by
  refine ⟨h.1, h.2.2.1, fun q hq => ?_⟩
  obtain ⟨v, h1, h2, h3⟩ := mm_as_of hq
  rw [h3]
  exact h.2.2.2 _ _ h1 h2
theorem mm_set1_len (lo : List Value) (i : Nat) (v : Value) : (mm_set1 lo i v).length = lo.length := by
  unfold mm_set1 mm_cut
  split
  · simp
  · split <;> simp
theorem mm_set1_at {lo : List Value} {i : Nat} {v : Value} {j : Nat} {u : Value} (h : (mm_set1 lo i v)[j]? = some u) (hu : u ≠ .null) : (j = i ∧ u = v) ∨ (j ≠ i ∧ lo[j]? = some u ∧ ¬ (j + 1 = i ∧ u.category = 2)) := by
  unfold mm_set1 at h
  split at h
  · by_cases hj : j = 0
    · subst hj
      rw [List.getElem?_set_self' ] at h
      cases hl : lo[0]? with
      | none => rw [hl] at h; cases h
      | some w => rw [hl] at h; cases h; exact Or.inl ⟨rfl, rfl⟩
    · rw [List.getElem?_set_ne (fun q => hj q.symm)] at h
      exact Or.inr ⟨hj, h, fun q => by omega⟩
  · rename_i k
    by_cases hj : j = k + 1
    · subst hj
      rw [List.getElem?_set_self'] at h
      cases hl : (mm_cut lo k)[k + 1]? with
      | none => rw [hl] at h; cases h
      | some w => rw [hl] at h; cases h; exact Or.inl ⟨rfl, rfl⟩
    · rw [List.getElem?_set_ne (fun q => hj q.symm)] at h
      unfold mm_cut at h
      split at h
      · rename_i hc
        by_cases hk : j = k
        · subst hk
          rw [List.getElem?_set_self'] at h
          cases hl : lo[j]? with
          | none => rw [hl] at h; cases h
          | some w => rw [hl] at h; cases h; exact absurd rfl hu
        · rw [List.getElem?_set_ne (fun q => hk q.symm)] at h
          exact Or.inr ⟨hj, h, fun q => hk (by omega)⟩
      · rename_i hc
        refine Or.inr ⟨hj, h, fun q => hc ?_⟩
        have : j = k := by omega
        subst this
        rw [List.getD_eq_getElem?_getD, h]
        exact q.2
theorem mm_lr_1 {ad : Nat → Nat} {ls ls' : Array Slot} {nL i : Nat} {lo : List Value} {v : Value} (h : mm_lr ad ls nL lo) (q : lv_has ls' nL ((i, mm_tv ad v) :: (mm_as ad lo).filter (fun q => !(q.1 == i) && !(q.1 + 1 == i && q.2.category == 2)))) : mm_lr ad ls' nL (mm_set1 lo i v) := by
  refine ⟨q.1, by rw [mm_set1_len]; exact h.2.1, q.2.1, fun j u hj hu => ?_⟩
  rcases mm_set1_at hj hu with ⟨rfl, rfl⟩ | ⟨h1, h2, h3⟩
  · exact q.2.2 (j, mm_tv ad u) List.mem_cons_self
  · refine q.2.2 (j, mm_tv ad u) (List.mem_cons_of_mem _ (List.mem_filter.mpr ⟨mm_as_in h2 hu, ?_⟩))
    simp only [Bool.and_eq_true, Bool.not_eq_true', beq_eq_false_iff_ne, ne_eq, Bool.and_eq_false_iff, mm_tv_cat]
    refine ⟨h1, ?_⟩
    by_cases hz : j + 1 = i
    · exact Or.inr (fun e => h3 ⟨hz, e⟩)
    · exact Or.inl hz
theorem mm_lr_2 {ad : Nat → Nat} {ls ls' : Array Slot} {nL i : Nat} {lo : List Value} {v : Value} (h : mm_lr ad ls nL lo) (q : lv_has ls' nL ((i, mm_tv ad v) :: (mm_as ad lo).filter (fun q => !(q.1 == i) && (!(q.1 == i + 1) && !(q.1 + 1 == i && q.2.category == 2))))) : mm_lr ad ls' nL (mm_set2 lo i v) := by
  refine ⟨q.1, by unfold mm_set2; rw [List.length_set, mm_set1_len]; exact h.2.1, q.2.1, fun j u hj hu => ?_⟩
  unfold mm_set2 at hj
  by_cases hji : j = i + 1
  · subst hji
    rw [List.getElem?_set_self'] at hj
    cases hl : (mm_set1 lo i v)[i + 1]? with
    | none => rw [hl] at hj; cases hj
    | some w => rw [hl] at hj; cases hj; exact absurd rfl hu
  · rw [List.getElem?_set_ne (fun q => hji q.symm)] at hj
    rcases mm_set1_at hj hu with ⟨rfl, rfl⟩ | ⟨h1, h2, h3⟩
    · exact q.2.2 (j, mm_tv ad u) List.mem_cons_self
    · refine q.2.2 (j, mm_tv ad u) (List.mem_cons_of_mem _ (List.mem_filter.mpr ⟨mm_as_in h2 hu, ?_⟩))
      simp only [Bool.and_eq_true, Bool.not_eq_true', beq_eq_false_iff_ne, ne_eq, Bool.and_eq_false_iff, mm_tv_cat]
      refine ⟨h1, hji, ?_⟩
      by_cases hz : j + 1 = i
      · exact Or.inr (fun e => h3 ⟨hz, e⟩)
      · exact Or.inl hz
/-! the entry -/
theorem mm_sl_len (ad : Nat → Nat) (as : List Value) : (lg_sl (as.map (mm_tv ad))).length = (mm_sl as).length := by
  induction as with
  | nil => rfl
  | cons v t ih =>
    simp only [lg_sl, List.map_cons, List.flatMap_cons, List.length_append, mm_sl, mm_tv_cat] at ih ⊢
    rw [ih]
    split <;> simp <;> omega
theorem mm_sl_at (ad : Nat → Nat) : ∀ (as : List Value) (i : Nat) (v : Value), (mm_sl as)[i]? = some v → v ≠ .null → (lg_sl (as.map (mm_tv ad)))[i]? = some (.val (mm_tv ad v)) := by
  intro as
  induction as with
  | nil => intro i v h; simp [mm_sl] at h
  | cons w t ih =>
    intro i v h hv
    simp only [lg_sl, List.map_cons, List.flatMap_cons, mm_tv_cat] at ih ⊢
    simp only [mm_sl] at h
    split at h
    · rename_i hc
      rw [if_pos hc]
      match i, h with
      | 0, h => simp at h; rw [h]; rfl
      | 1, h => simp at h; exact absurd h.symm hv
      | k + 2, h => exact ih k v h hv
    · rename_i hc
      rw [if_neg hc]
      match i, h with
      | 0, h => simp at h; rw [h]; rfl
      | k + 1, h => exact ih k v h hv
theorem mm_lr_en (ad : Nat → Nat) (n : Nat) (as : List Value) (h : (mm_sl as).length ≤ n) : mm_lr ad ((lg_sl (as.map (mm_tv ad)) ++ List.replicate (n - (lg_sl (as.map (mm_tv ad))).length) Slot.unset).toArray) n (mm_en n as) := by
  have h1 := lv_entry (as.map (mm_tv ad)) (n := n) (by rw [mm_sl_len]; exact h)
  refine ⟨h1.1, ?_, h1.2.1, fun i v hi hv => ?_⟩
  · unfold mm_en
    rw [List.length_append, List.length_replicate]
    omega
  · unfold mm_en at hi
    by_cases hl : i < (mm_sl as).length
    · rw [List.getElem?_append_left hl] at hi
      rw [List.getElem?_toArray, List.getElem?_append_left (by rw [mm_sl_len]; exact hl)]
      exact mm_sl_at ad as i v hi hv
    · rw [List.getElem?_append_right (by omega)] at hi
      have := List.mem_replicate.mp (List.mem_of_getElem? hi)
      exact absurd this.2 hv
theorem mm_pop_of : ∀ (n : Nat) (acc st as t : List Value), mm_pop n acc st = some (as, t) → ∃ pre, st = pre ++ t ∧ as = pre.reverse ++ acc ∧ pre.length = n := by
  intro n
  induction n with
  | zero => intro acc st as t h; simp only [mm_pop, Option.some.injEq, Prod.mk.injEq] at h; exact ⟨[], by simp [h.2], by simp [h.1], rfl⟩
  | succ n ih =>
    intro acc st as t h
    cases st with
    | nil => simp [mm_pop] at h
    | cons v st =>
      simp only [mm_pop] at h
      obtain ⟨pre, h1, h2, h3⟩ := ih _ _ _ _ h
      exact ⟨v :: pre, by rw [h1]; rfl, by rw [h2]; simp, by simp [h3]⟩
end
section
/-! ===== tables, their words, their check; a frame of the small machine is a frame of the machine ===== -/
/-- a side: its cells, methods, kinds, their types, owners' names; links: fields (owner, place, cell, field), calls (owner, place, way, method, receiver), longs, ints, calls of the JDK's own rows, hosts of nest calls -/
abbrev mm_T : Type := mm_S × List mm_M × List vw_C × (Nat → Nat → FieldType) × (Nat → String) × List (Nat × Nat × Nat × Nat) × List (Nat × Nat × Nat × Nat × Nat) × List (Nat × Nat × Int) × List (Nat × Nat × Int) × List (Nat × Nat × Nat) × String
def mm_sh (T : mm_T) : mm_S := T.1
def mm_ms (T : mm_T) : List mm_M := T.2.1
def mm_cl (T : mm_T) : List vw_C := T.2.2.1
def mm_ty (T : mm_T) : Nat → Nat → FieldType := T.2.2.2.1
def mm_cn (T : mm_T) : Nat → String := T.2.2.2.2.1
def mm_FT (T : mm_T) : List (Nat × Nat × Nat × Nat) := T.2.2.2.2.2.1
def mm_CT (T : mm_T) : List (Nat × Nat × Nat × Nat × Nat) := T.2.2.2.2.2.2.1
def mm_LT (T : mm_T) : List (Nat × Nat × Int) := T.2.2.2.2.2.2.2.1
def mm_DT (T : mm_T) : List (Nat × Nat × Int) := T.2.2.2.2.2.2.2.2.1
def mm_JT (T : mm_T) : List (Nat × Nat × Nat) := T.2.2.2.2.2.2.2.2.2.1
def mm_HO (T : mm_T) : String := T.2.2.2.2.2.2.2.2.2.2
def mm_mw (md : mm_M) : Cond := .code md.1 md.2.1 md.2.2.1 md.2.2.2.1
def mm_fw (T : mm_T) (q : Nat × Nat × Nat × Nat) : Cond := match (mm_sh T)[q.2.2.1]? with
  | some (_, ci, _) => (match (mm_cl T)[ci]? with
    | some r => .fieldLink (mm_cn T q.1) q.2.1 (r.2.1 q.2.2.2).1 (r.2.1 q.2.2.2).2.1 (r.2.1 q.2.2.2).2.2.1
    | none => .arrayClass .int)
  | none => .arrayClass .int
def mm_cw (T : mm_T) (q : Nat × Nat × Nat × Nat × Nat) : List Cond := match (mm_ms T)[q.2.2.2.1]? with
  | some md => (match q.2.2.1 with
    | 0 => [.methodLink (mm_cn T q.1) q.2.1 md.1, .instanceMethod md.1, .selects md.1.cls md.1 md.1, .initialized md.1.cls]
    | 1 => [.methodLink (mm_cn T q.1) q.2.1 md.1, .static md.1, .initialized md.1.cls]
    | _ => [.static md.1, .initialized md.1.cls])
  | none => []
def mm_jw (T : mm_T) (q : Nat × Nat × Nat) : List Cond := match q.2.2 with
  | 10 => [.methodLink (mm_cn T q.1) q.2.1 Lib.MathLoose.abs_long.x, .static Lib.MathLoose.abs_long.x, .initialized "java/lang/Math", .code Lib.MathLoose.abs_long.x Lib.MathLoose.abs_long.code 2 (some .long)]
  | 11 => [.methodLink (mm_cn T q.1) q.2.1 Lib.Math.max.name, .static Lib.Math.max.name, .initialized "java/lang/Math", .code Lib.Math.max.name Lib.Math.max.code 2 (some .int)]
  | 12 => [.methodLink (mm_cn T q.1) q.2.1 Lib.MathLoose.max_long.x, .static Lib.MathLoose.max_long.x, .initialized "java/lang/Math", .code Lib.MathLoose.max_long.x Lib.MathLoose.max_long.code 4 (some .long)]
  | 13 => [.methodLink (mm_cn T q.1) q.2.1 Lib.MathLoose.min_long.x, .static Lib.MathLoose.min_long.x, .initialized "java/lang/Math", .code Lib.MathLoose.min_long.x Lib.MathLoose.min_long.code 4 (some .long)]
  | 14 => [.methodLink (mm_cn T q.1) q.2.1 arraycopyName, .native arraycopyName, .static arraycopyName, .initialized "java/lang/System"]
  | _ => []
/-- the words of a side -/
def mm_tb (T : mm_T) : List Cond := (mm_ms T).map mm_mw ++ ((mm_FT T).map (mm_fw T) ++ ((mm_CT T).flatMap (mm_cw T) ++ ((mm_LT T).map (fun q => Cond.constantLong (mm_cn T q.1) q.2.1 (Int64.ofInt q.2.2)) ++ ((mm_DT T).map (fun q => Cond.constant (mm_cn T q.1) q.2.1 (Int32.ofInt q.2.2)) ++ ((mm_JT T).flatMap (mm_jw T) ++ (mm_cl T).flatMap (fun q => u_ws q.1 q.2.1 q.2.2))))))
/-- the links between nest mates -/
def mm_nw (T : mm_T) (U : State) : Prop := ∀ q ∈ mm_CT T, q.2.2.1 = 2 → ∀ md, (mm_ms T)[q.2.2.2.1]? = some md → va_Nw (.methodLinkNest (mm_cn T q.1) q.2.1 md.1 (mm_HO T)) U
def mm_bp (tb : List mm_E) (i : Nat) : Option Nat := (tb[i]?).map (fun e => e.1)
def mm_nx (tb : List mm_E) (i pc n : Nat) : Bool := mm_bp tb (i + 1) == some (pc + n)
def mm_tg (tb : List mm_E) (x pc : Nat) (off : Int) : Bool := match mm_bp tb x with
  | some t => decide ((pc : Int) + off = (t : Int))
  | none => false
def mm_tgs (tb : List mm_E) (pc : Nat) : List Nat → List Int → Bool
  | [], [] => true
  | t :: ts, o :: os => mm_tg tb t pc o && mm_tgs tb pc ts os
  | _, _ => false
def mm_kd (sh : mm_S) (r k : Nat) : Option Nat := match sh[r]? with
  | some (0, _, ks) => ks[k]?
  | _ => none
def mm_np (md : mm_M) : Option Nat := (parseMethodDescriptor md.1.desc).map (fun d => d.parameters.length)
def mm_ln (ins : Instr) (len : Nat) : Nat := match ins with
  | .aload _ | .iload _ | .lload _ | .istore _ | .astore _ | .lstore _ | .bipush _ | .ldc _ => 2
  | .sipush _ | .ldc_w _ | .ldc2_w _ | .iinc _ _ | .goto _ | .if_icmp _ _ | .ifCond _ _ | .getfield _ | .putfield _ | .invokevirtual _ | .invokestatic _ => 3
  | .tableswitch _ _ _ _ => len
  | _ => 1
def mm_lk (T : mm_T) (md : mm_M) (tb : List mm_E) (i pc : Nat) (ins : Instr) (x y u w : Nat) (z : Int) (ts : List Nat) : Bool := match ins with
  | .goto off => mm_tg tb x pc off
  | .if_icmp _ off => mm_tg tb x pc off && mm_nx tb i pc 3
  | .ifCond _ off => mm_tg tb x pc off && mm_nx tb i pc 3
  | .tableswitch d n h offs => mm_tg tb x pc d && mm_tgs tb pc ts offs.toList && decide ((ts.length : Int) = h - n + 1) && decide (-100000 < n) && decide (h < 100000)
  | .ireturn => decide (md.2.2.2.2.2.1 = 1) && decide ((u = 0 ∧ md.2.2.2.1 = some .int) ∨ (u = 1 ∧ md.2.2.2.1 = some .boolean))
  | .lreturn => decide (md.2.2.2.2.2.1 = 2) && decide (md.2.2.2.1 = some .long)
  | .return_ => decide (md.2.2.2.2.2.1 = 0) && decide (md.2.2.2.1 = none)
  | .getfield idx => mm_nx tb i pc 3 && (decide ((md.2.2.2.2.1, idx, x, y) ∈ mm_FT T) && decide (mm_kd (mm_sh T) x y = some u))
  | .putfield idx => mm_nx tb i pc 3 && (decide ((md.2.2.2.2.1, idx, x, y) ∈ mm_FT T) && decide (mm_kd (mm_sh T) x y = some u))
  | .invokevirtual idx => mm_nx tb i pc 3 && (decide ((md.2.2.2.2.1, idx, 0, x, w) ∈ mm_CT T) && decide (((mm_ms T)[x]?).map (fun q => (q.2.2.2.2.2.1, (mm_np q).map (· + 1))) = some (u, some y)))
  | .invokestatic idx => mm_nx tb i pc 3 && (if 10 ≤ u then decide (u ≤ 14) && decide ((md.2.2.2.2.1, idx, u) ∈ mm_JT T) else (decide ((md.2.2.2.2.1, idx, 1, x, 0) ∈ mm_CT T) || decide ((md.2.2.2.2.1, idx, 2, x, 0) ∈ mm_CT T)) && decide (((mm_ms T)[x]?).map (fun q => (q.2.2.2.2.2.1, mm_np q)) = some (u, some y)))
  | .ldc idx => mm_nx tb i pc 2 && decide ((md.2.2.2.2.1, idx, z) ∈ mm_DT T)
  | .ldc_w idx => mm_nx tb i pc 3 && decide ((md.2.2.2.2.1, idx, z) ∈ mm_DT T)
  | .ldc2_w idx => mm_nx tb i pc 3 && decide ((md.2.2.2.2.1, idx, z) ∈ mm_LT T)
  | ins => mm_nx tb i pc (mm_ln ins 0)
def mm_ck (T : mm_T) (md : mm_M) (i : Nat) (e : mm_E) : Prop := decode md.2.1 e.1 = .ok (e.2.1, e.2.2.1) ∧ e.2.2.1 = mm_ln e.2.1 e.2.2.1 ∧ mm_lk T md md.2.2.2.2.2.2 i e.1 e.2.1 e.2.2.2.2.1 e.2.2.2.2.2.1 e.2.2.2.2.2.2.1 e.2.2.2.2.2.2.2.1 e.2.2.2.2.2.2.2.2.1 e.2.2.2.2.2.2.2.2.2 = true
/-- a method's own check -/
def mm_mo (T : mm_T) (md : mm_M) : Prop := plainName md.1.cls = true ∧ md.1.cls = mm_cn T md.2.2.2.2.1 ∧ md.2.2.1 ≤ 40 ∧ (md.1.cls ≠ "java/lang/invoke/MethodHandle" ∧ md.1.cls ≠ "java/lang/invoke/VarHandle") ∧ mm_bp md.2.2.2.2.2.2 0 = some 0 ∧ ∀ (i : Nat) (e : mm_E), md.2.2.2.2.2.2[i]? = some e → mm_ck T md i e
/-- a field link's check -/
def mm_fo (T : mm_T) (q : Nat × Nat × Nat × Nat) : Prop := ∃ ci ks r, (mm_sh T)[q.2.2.1]? = some (0, ci, ks) ∧ (mm_cl T)[ci]? = some r ∧ q.2.2.2 < r.2.2 ∧ ks.length = r.2.2 ∧ (match ks[q.2.2.2]? with
  | some 0 => mm_ty T ci q.2.2.2 = .int ∧ (r.2.1 q.2.2.2).2.2.2 = false
  | some 1 => mm_ty T ci q.2.2.2 = .long ∧ (r.2.1 q.2.2.2).2.2.2 = false
  | some 2 => mm_ty T ci q.2.2.2 = .boolean ∧ (r.2.1 q.2.2.2).2.2.2 = false
  | _ => True)
/-- a virtual call's receiver -/
def mm_vo (T : mm_T) (q : Nat × Nat × Nat × Nat × Nat) : Prop := q.2.2.1 = 0 → ∃ ci ks r md, (mm_sh T)[q.2.2.2.2]? = some (0, ci, ks) ∧ (mm_cl T)[ci]? = some r ∧ (mm_ms T)[q.2.2.2.1]? = some md ∧ r.1 = md.1.cls
def mm_ok (T : mm_T) : Prop := (∀ (m : Nat) (md : mm_M), (mm_ms T)[m]? = some md → mm_mo T md) ∧ (∀ q ∈ mm_FT T, mm_fo T q) ∧ (∀ q ∈ mm_CT T, mm_vo T q) ∧ (∀ (ci : Nat) (q : vw_C), (mm_cl T)[ci]? = some q → (∀ k, k < q.2.2 → parseFieldDescriptor (q.2.1 k).2.2.1 = some (mm_ty T ci k)) ∧ ∀ a, a < q.2.2 → ∀ b, b < q.2.2 → a ≠ b → (q.2.1 a).2.1 ≠ (q.2.1 b).2.1) ∧ ∀ w ∈ mm_tb T, goodWord w = true
/-! the words, by where they come from -/
theorem mm_in_m {T : mm_T} {m : Nat} {md : mm_M} (h : (mm_ms T)[m]? = some md) : mm_mw md ∈ mm_tb T := List.mem_append_left _ (List.mem_map.mpr ⟨md, List.mem_of_getElem? h, rfl⟩)
theorem mm_in_f {T : mm_T} {q : Nat × Nat × Nat × Nat} (h : q ∈ mm_FT T) : mm_fw T q ∈ mm_tb T := List.mem_append_right _ (List.mem_append_left _ (List.mem_map.mpr ⟨q, h, rfl⟩))
theorem mm_in_c {T : mm_T} {q : Nat × Nat × Nat × Nat × Nat} (h : q ∈ mm_CT T) {w : Cond} (hw : w ∈ mm_cw T q) : w ∈ mm_tb T := List.mem_append_right _ (List.mem_append_right _ (List.mem_append_left _ (List.mem_flatMap.mpr ⟨q, h, hw⟩)))
theorem mm_in_l {T : mm_T} {q : Nat × Nat × Int} (h : q ∈ mm_LT T) : Cond.constantLong (mm_cn T q.1) q.2.1 (Int64.ofInt q.2.2) ∈ mm_tb T := List.mem_append_right _ (List.mem_append_right _ (List.mem_append_right _ (List.mem_append_left _ (List.mem_map.mpr ⟨q, h, rfl⟩))))
theorem mm_in_d {T : mm_T} {q : Nat × Nat × Int} (h : q ∈ mm_DT T) : Cond.constant (mm_cn T q.1) q.2.1 (Int32.ofInt q.2.2) ∈ mm_tb T := List.mem_append_right _ (List.mem_append_right _ (List.mem_append_right _ (List.mem_append_right _ (List.mem_append_left _ (List.mem_map.mpr ⟨q, h, rfl⟩)))))
theorem mm_in_j {T : mm_T} {q : Nat × Nat × Nat} (h : q ∈ mm_JT T) {w : Cond} (hw : w ∈ mm_jw T q) : w ∈ mm_tb T := List.mem_append_right _ (List.mem_append_right _ (List.mem_append_right _ (List.mem_append_right _ (List.mem_append_right _ (List.mem_append_left _ (List.mem_flatMap.mpr ⟨q, h, hw⟩))))))
theorem mm_in_u {T : mm_T} {ci : Nat} {q : vw_C} (h : (mm_cl T)[ci]? = some q) {w : Cond} (hw : w ∈ u_ws q.1 q.2.1 q.2.2) : w ∈ mm_tb T := List.mem_append_right _ (List.mem_append_right _ (List.mem_append_right _ (List.mem_append_right _ (List.mem_append_right _ (List.mem_append_right _ (List.mem_flatMap.mpr ⟨q, List.mem_of_getElem? h, hw⟩))))))
/-- a method's words are good words among any other's -/
theorem mm_good {T : mm_T} (ok : mm_ok T) {m : Nat} {md md0 : mm_M} (h : (mm_ms T)[m]? = some md) : GoodIn (mm_mw md0 :: mm_tb T) (mm_mw md :: mm_tb T) := by
  intro w hw
  have hw' : w ∈ mm_tb T := by
    rcases List.mem_cons.mp hw with rfl | hw
    · exact mm_in_m h
    · exact hw
  exact ⟨List.mem_cons_of_mem _ hw', good_of_word (ok.2.2.2.2 w hw')⟩
/-! contracts -/
def mm_tys (cI cJ : ClassId) : List (ClassId × FieldType) := [(cI, .int), (cJ, .long)]
def mm_B (T : mm_T) (D : va_G) (cI cJ : ClassId) (ad : Nat → Nat) (A : Nat → Prop) (I : mm_I) (L : mm_L) (t : State) : Prop := va_P D (mm_cl T) (mm_ws (mm_sh T) ad cI cJ I L) t.heap ∧ va_K D (mm_cl T) (mm_tys cI cJ) t ∧ va_D A (mm_ws (mm_sh T) ad cI cJ I L)
def mm_Pc (T : mm_T) (D : va_G) (cI cJ : ClassId) (ad : Nat → Nat) (sz : Nat) (as : List Value) (I : mm_I) (L : mm_L) : Array Value → State → Prop := va_Pc (as.map (mm_tv ad)) (fun U => U.heap.size = sz ∧ mm_B T D cI cJ ad (fun _ => True) I L U ∧ mm_nw T U)
def mm_Qc (T : mm_T) (D : va_G) (cI cJ : ClassId) (ad : Nat → Nat) (A : Nat → Prop) (rk : Nat) (Q : mm_Q) : Array Value → State → Outcome → State → Prop := match rk with
  | 0 => va_Qv (S := mm_I × mm_L × Int32 × Int64) (fun u => Q u.1 u.2.1 u.2.2.1 u.2.2.2) (fun u t => mm_B T D cI cJ ad A u.1 u.2.1 t) A
  | 1 => va_Qi (S := mm_I × mm_L × Int64) (fun r u => Q u.1 u.2.1 r u.2.2) (fun u t => mm_B T D cI cJ ad A u.1 u.2.1 t) A
  | _ => va_Ql (S := mm_I × mm_L × Int32) (fun r u => Q u.1 u.2.1 u.2.2 r) (fun u t => mm_B T D cI cJ ad A u.1 u.2.1 t) A
def mm_rm (d : Nat) : Room := { frames := d, cells := 0, slots := 0, locals := 64 * d }
theorem mm_nw_moved {T : mm_T} {s U : State} (hW : s.WarmedH U.vm) (h : mm_nw T s) : mm_nw T U := fun q hq h2 md hm => va_Nw.warmM hW (h q hq h2 md hm)
theorem mm_blind {T : mm_T} {D : va_G} {cI cJ : ClassId} {ad : Nat → Nat} {sz : Nat} {as : List Value} {I : mm_I} {L : mm_L} : FrameBlind (mm_Pc T D cI cJ ad sz as I L) := by
  intro a U g mk q
  obtain ⟨q0, q1, ⟨qP, qK, qD⟩, qN⟩ := q
  exact ⟨q0, q1, ⟨qP, va_K.moved (u := U) (U := U.calling g mk a) (Vm.Alike.refl U.vm) qK, qD⟩, fun r hr h2 md hm => va_Nw.same (w := .methodLinkNest (mm_cn T r.1) r.2.1 md.1 (mm_HO T)) rfl rfl (qN r hr h2 md hm)⟩
theorem mm_pre {T : mm_T} {D : va_G} {cI cJ : ClassId} {ad : Nat → Nat} {as : List Value} {I : mm_I} {L : mm_L} {s : State} {H : Heap} {A : Nat → Prop} (hP : va_P D (mm_cl T) (mm_ws (mm_sh T) ad cI cJ I L) H) (hK : va_K D (mm_cl T) (mm_tys cI cJ) s) (hD : va_D A (mm_ws (mm_sh T) ad cI cJ I L)) (hN : mm_nw T s) :
    ∀ U : State, U.heap = H → s.WarmedH U.vm → mm_Pc T D cI cJ ad H.size as I L (as.map (mm_tv ad)).toArray U :=
  fun U hU hW => ⟨rfl, by rw [hU], ⟨by rw [hU]; exact hP, va_K.moved hW.alike hK, hD.weaken (fun _ _ _ _ => trivial)⟩, mm_nw_moved hW hN⟩
theorem mm_free {A : Nat → Prop} {ws : va_W} {H0 H : Heap} {locs : List Loc} (hD : va_D A ws) (hS : va_S A H0 H locs) (hA : ∀ q, H0.size ≤ q → A q) : ∀ q, va_A ws H.size q → A q := by
  intro q h
  rcases h with ⟨k, e, h⟩ | h
  · exact hD.2 k (q, e) h
  · exact hA q (Nat.le_trans hS.1 h)
end
section
/-! ===== a frame of the small machine, walked ===== -/
theorem mm_tg_of {tb : List mm_E} {x pc : Nat} {off : Int} (h : mm_tg tb x pc off = true) : ∃ t, mm_bp tb x = some t ∧ (pc : Int) + off = (t : Int) := by
  unfold mm_tg at h
  split at h
  · rename_i t ht
    exact ⟨t, ht, of_decide_eq_true h⟩
  · cases h
theorem mm_nx_of {tb : List mm_E} {i pc n : Nat} (h : mm_nx tb i pc n = true) : mm_bp tb (i + 1) = some (pc + n) := by
  unfold mm_nx at h
  exact eq_of_beq h
theorem mm_tgs_of {tb : List mm_E} {pc : Nat} : ∀ (ts : List Nat) (os : List Int), mm_tgs tb pc ts os = true → ∀ (j t : Nat), ts[j]? = some t → ∃ off pc', os[j]? = some off ∧ mm_bp tb t = some pc' ∧ (pc : Int) + off = (pc' : Int) := by
  intro ts
  induction ts with
  | nil => intro os h j t hj; simp at hj
  | cons a ts ih =>
    intro os h j t hj
    cases os with
    | nil => simp [mm_tgs] at h
    | cons o os =>
      simp only [mm_tgs, Bool.and_eq_true] at h
      match j, hj with
      | 0, hj =>
        simp at hj
        subst hj
        obtain ⟨t, h1, h2⟩ := mm_tg_of h.1
        exact ⟨o, t, rfl, h1, h2⟩
      | j + 1, hj => exact ih os h.2 j t hj
theorem mm_sw_at {z : Int32} {K : Nat → Prop} : ∀ (ts : List Nat) (n : Int), mm_sw z K n ts → ∀ (j t : Nat), ts[j]? = some t → z.toInt = n + j → K t := by
  intro ts
  induction ts with
  | nil => intro n h j t hj; simp at hj
  | cons a ts ih =>
    intro n h j t hj hz
    match j, hj with
    | 0, hj =>
      simp at hj
      subst hj
      refine h.1 ?_
      have : n = z.toInt := by omega
      rw [this, Int32.ofInt_toInt]
    | j + 1, hj => exact ih (n + 1) h.2 j t hj (by push_cast at hz; omega)
section MF
variable {T : mm_T} {D : va_G} {cI cJ : ClassId} {ad : Nat → Nat} {l : Launch} {p : Program} {e : Env} {s : State} {m : MethodId} {args : Array Value} {below : List Frame} {meth : Method} {c : Code} {A : Nat → Prop} {md : mm_M} {d : Nat} {Q : mm_Q}
def mm_X (T : mm_T) (D : va_G) (cI cJ : ClassId) (ad : Nat → Nat) (l : Launch) (p : Program) (e : Env) (s : State) (m : MethodId) (args : Array Value) (below : List Frame) (meth : Method) (c : Code) (A : Nat → Prop) (md : mm_M) (d : Nat) (Q : mm_Q) : mm_K := fun i lo st I L =>
  ∀ pc : Nat, mm_bp md.2.2.2.2.2.2 i = some pc → ∀ (ls : Array Slot) (H : Heap) (locs : List Loc), mm_lr ad ls md.2.2.1 lo → va_P D (mm_cl T) (mm_ws (mm_sh T) ad cI cJ I L) H → va_D A (mm_ws (mm_sh T) ad cI cJ I L) → va_S A s.heap H locs →
    W p l e (mm_rm (d + 1)) s m args below meth c H locs 0 0 (MQ below (mm_Qc T D cI cJ ad A md.2.2.2.2.2.1 Q) args s 0 0 A) (F0 m pc ls (st.map (mm_tv ad)))
theorem mm_after {i pc rk : Nat} {lo st0 t : List Value} {I : mm_I} {L : mm_L} {ls : Array Slot} {H : Heap} {locs : List Loc} {a : Array Value} (hn : mm_bp md.2.2.2.2.2.2 (i + 1) = some (pc + 3)) (hl : mm_lr ad ls md.2.2.1 lo) (hD : va_D A (mm_ws (mm_sh T) ad cI cJ I L)) (hS : va_S A s.heap H locs) (hA : ∀ q, s.heap.size ≤ q → A q)
    (hrun : va_Run p l e (mm_rm (d + 1)) s m args below meth c H locs 0 0 0 0 (F0 m pc ls st0) (t.map (mm_tv ad)) (mm_Qc T D cI cJ ad (va_A (mm_ws (mm_sh T) ad cI cJ I L) H.size) rk (fun I' L' ri rl => mm_X T D cI cJ ad l p e s m args below meth c A md d Q (i + 1) lo (mm_push rk ri rl t) I' L') a) (va_A (mm_ws (mm_sh T) ad cI cJ I L) H.size)) :
    W p l e (mm_rm (d + 1)) s m args below meth c H locs 0 0 (MQ below (mm_Qc T D cI cJ ad A md.2.2.2.2.2.1 Q) args s 0 0 A) (F0 m pc ls st0) := by
  have hF := mm_free hD hS hA
  match rk, hrun with
  | 0, hrun => exact va_callv (a := a) hrun hS (fun q _ h => hF q h) hF (fun u tt H1 locs1 ht hvm hw hB hz hk hS1 => hw _ hn ls H1 locs1 hl (by rw [← ht]; exact hB.1) (hB.2.2.weaken (fun _ q _ h => hF q.1 h)) hS1)
  | 1, hrun => exact va_calli (a := a) hrun hS (fun q _ h => hF q h) hF (fun r u tt H1 locs1 ht hvm hw hB hz hk hS1 => hw _ hn ls H1 locs1 hl (by rw [← ht]; exact hB.1) (hB.2.2.weaken (fun _ q _ h => hF q.1 h)) hS1)
  | _ + 2, hrun => exact va_calll (a := a) hrun hS (fun q _ h => hF q h) hF (fun r u tt H1 locs1 ht hvm hw hB hz hk hS1 => hw _ hn ls H1 locs1 hl (by rw [← ht]; exact hB.1) (hB.2.2.weaken (fun _ q _ h => hF q.1 h)) hS1)
/-- what a body knows -/
def mm_At (T : mm_T) (D : va_G) (cI cJ : ClassId) (p : Program) (s : State) (m : MethodId) (args : Array Value) (meth : Method) (c : Code) (A : Nat → Prop) (md : mm_M) : Prop :=
  p.tables.exec = Jvm.exec ∧ c.code = md.2.1 ∧ meth.sig.returnType = md.2.2.2.1 ∧ meth.locks = false ∧ c.maxLocals = md.2.2.1 ∧ s.vm.findClass (mm_cn T md.2.2.2.2.1) = some m.cls ∧ (∀ w ∈ mm_mw md :: mm_tb T, w.before args s = true) ∧ va_K D (mm_cl T) (mm_tys cI cJ) s ∧ mm_nw T s ∧ ∀ q, s.heap.size ≤ q → A q
def mm_hc (T : mm_T) (D : va_G) (cI cJ : ClassId) (ad : Nat → Nat) (l : Launch) (d : Nat) : Prop := ∀ (x : Nat) (mx : mm_M), (mm_ms T)[x]? = some mx → ∀ (as : List Value) (I : mm_I) (L : mm_L) (Q : mm_Q) (sz : Nat), mm_P (mm_sh T) (mm_ms T) d x as I L Q →
  Met l mx.1 (mm_mw mx :: mm_tb T) (mm_rm d) (mm_Pc T D cI cJ ad sz as I L) (mm_Qc T D cI cJ ad (va_A (mm_ws (mm_sh T) ad cI cJ I L) sz) mx.2.2.2.2.2.1 Q) 0 0 (va_A (mm_ws (mm_sh T) ad cI cJ I L) sz)
set_option maxHeartbeats 4000000 in
theorem mm_getf (ok : mm_ok T) (C0 : mm_At T D cI cJ p s m args meth c A md) {i pc idx x y u : Nat} {lo t : List Value} {I : mm_I} {L : mm_L} {ls : Array Slot} {H : Heap} {locs : List Loc} (hd : decode md.2.1 pc = .ok (.getfield idx, 3)) (hq : (md.2.2.2.2.1, idx, x, y) ∈ mm_FT T) (hk : mm_kd (mm_sh T) x y = some u)
    (hP : va_P D (mm_cl T) (mm_ws (mm_sh T) ad cI cJ I L) H) {QQ : State → Prop} (kk : W p l e (mm_rm (d + 1)) s m args below meth c H locs 0 0 QQ (F0 m (pc + 3) ls (mm_fv ad I L x y u :: t))) : W p l e (mm_rm (d + 1)) s m args below meth c H locs 0 0 QQ (F0 m pc ls (.ref (ad x) :: t)) := by
  obtain ⟨hx, hb, hr, hlk, hml, hown, hts, hK, hN, hA⟩ := C0
  obtain ⟨ci, ks, r, h1, h2, h3, h4, -⟩ := ok.2.1 _ hq
  dsimp only at h1 h3 h4
  have hks : ks[y]? = some u := by
    unfold mm_kd at hk
    rw [h1] at hk
    exact hk
  have hw := hts _ (List.mem_cons_of_mem _ (mm_in_f hq))
  unfold mm_fw at hw
  dsimp only at hw
  rw [h1] at hw
  dsimp only at hw
  rw [h2] at hw
  dsimp only at hw
  exact va_get (D := D) (ci := ci) (v := mm_fv ad I L x y u) (C := r.1) (T := r.2.1) (N := r.2.2) hx hb hts (fun w hw => List.mem_cons_of_mem _ (mm_in_u h2 hw)) hown hK hP x (mm_ws_at h1) h2 y h3 hw (fun _ h9 => h9) (by rw [List.getElem?_mapIdx, hks]; rfl) hd kk
set_option maxHeartbeats 4000000 in
theorem mm_putf (ok : mm_ok T) (C0 : mm_At T D cI cJ p s m args meth c A md) {pc idx x y u : Nat} {t : List Value} {I I' : mm_I} {L L' : mm_L} {v : Value} {ls : Array Slot} {H : Heap} {locs : List Loc} (hd : decode md.2.1 pc = .ok (.putfield idx, 3)) (hq : (md.2.2.2.2.1, idx, x, y) ∈ mm_FT T) (hk : mm_kd (mm_sh T) x y = some u) (hu : u < 3)
    (hP : va_P D (mm_cl T) (mm_ws (mm_sh T) ad cI cJ I L) H) (hD : va_D A (mm_ws (mm_sh T) ad cI cJ I L)) (hS : va_S A s.heap H locs) {QQ : State → Prop}
    (hv : mm_fv ad I' L' x y u = v) (hn : ∀ ty : FieldType, (u = 0 → ty = .int) → (u = 1 → ty = .long) → (u = 2 → ty = .boolean) → narrow ty v = v ∧ fits ty v = true) (hi : ∀ b, b ≠ x → I' b = I b) (hl : ∀ b, b ≠ x → L' b = L b) (ho : ∀ j kd, j ≠ y → mm_fv ad I' L' x j kd = mm_fv ad I L x j kd)
    (kk : ∀ (H1 : Heap) (locs1 : List Loc), va_P D (mm_cl T) (mm_ws (mm_sh T) ad cI cJ I' L') H1 → va_D A (mm_ws (mm_sh T) ad cI cJ I' L') → va_S A s.heap H1 locs1 → W p l e (mm_rm (d + 1)) s m args below meth c H1 locs1 0 0 QQ (F0 m (pc + 3) ls t)) : W p l e (mm_rm (d + 1)) s m args below meth c H locs 0 0 QQ (F0 m pc ls (v :: .ref (ad x) :: t)) := by
  obtain ⟨hx, hb, hr, hlk, hml, hown, hts, hK, hN, hA⟩ := C0
  obtain ⟨ci, ks, r, h1, h2, h3, h4, h5⟩ := ok.2.1 _ hq
  dsimp only at h1 h3 h4 h5
  have hks : ks[y]? = some u := by
    unfold mm_kd at hk
    rw [h1] at hk
    exact hk
  rw [hks] at h5
  have hw := hts _ (List.mem_cons_of_mem _ (mm_in_f hq))
  unfold mm_fw at hw
  dsimp only at hw
  rw [h1] at hw
  dsimp only at hw
  rw [h2] at hw
  dsimp only at hw
  obtain ⟨hty, hnm⟩ := ok.2.2.2.1 _ _ h2
  have h6 : (r.2.1 y).2.2.2 = false ∧ narrow (mm_ty T ci y) v = v ∧ fits (mm_ty T ci y) v = true := by
    match u, hu, h5, hn with
    | 0, _, h5, hn => exact ⟨h5.2, hn _ (fun _ => h5.1) (fun h => by cases h) (fun h => by cases h)⟩
    | 1, _, h5, hn => exact ⟨h5.2, hn _ (fun h => by cases h) (fun _ => h5.1) (fun h => by cases h)⟩
    | 2, _, h5, hn => exact ⟨h5.2, hn _ (fun h => by cases h) (fun h => by cases h) (fun _ => h5.1)⟩
  have he : (mm_ws (mm_sh T) ad cI cJ I L).set x (ad x, .inr (ci, (ks.mapIdx (fun k kd => mm_fv ad I L x k kd)).set y v)) = mm_ws (mm_sh T) ad cI cJ I' L' := by
    refine mm_ws_set h1 ?_ hi hl
    show Sum.inr (ci, ks.mapIdx (fun k kd => mm_fv ad I' L' x k kd)) = _
    rw [mm_fs_set ad I I' L L' x y v ks (fun kd hkd => by rw [hks] at hkd; cases hkd; exact hv) ho]
  refine va_put (D := D) (ci := ci) (v := v) (ty := mm_ty T ci y) (C := r.1) (T := r.2.1) (N := r.2.2) hx hb hts (fun w hw => List.mem_cons_of_mem _ (mm_in_u h2 hw)) (mm_ty T ci) hty hnm hown hK hP hD hS x (mm_ws_at h1) h2 y h3 hw (fun _ h9 => h9) h6.1 (hty y h3) h6.2.1 h6.2.2 (by rw [List.length_mapIdx, h4]; exact h3) hd (fun H1 locs1 hP1 hD1 hS1 => ?_)
  rw [he] at hP1 hD1
  exact kk H1 locs1 hP1 hD1 hS1
set_option maxHeartbeats 8000000 in
theorem mm_step (ok : mm_ok T) (hm : mm_mo T md) (C0 : mm_At T D cI cJ p s m args meth c A md) (hcall : mm_hc T D cI cJ ad l d) :
    ∀ (i : Nat) (lo st : List Value) (I : mm_I) (L : mm_L), mm_one (mm_sh T) (mm_P (mm_sh T) (mm_ms T) d) md.2.2.2.2.2.2 Q (mm_X T D cI cJ ad l p e s m args below meth c A md d Q) i lo st I L → mm_X T D cI cJ ad l p e s m args below meth c A md d Q i lo st I L := by
  intro i lo st I L h pc hpc ls H locs hl hP hD hS
  obtain ⟨hx, hb, hr, hlocks, hml, hown, hts, hK, hN, hA⟩ := id C0
  have hFr := mm_free hD hS hA
  unfold mm_one at h
  split at h
  case h_2 => exact h.elim
  rename_i bp ins len hdd x y u w z ts he
  obtain ⟨hd, hlen, hk⟩ := hm.2.2.2.2.2 i _ he
  have hpb : pc = bp := by
    unfold mm_bp at hpc
    rw [he] at hpc
    exact (Option.some.inj hpc).symm
  subst hpb
  dsimp only at hd hlen hk
  unfold mm_st at h
  split at h
  · simp only [mm_ln] at hlen
    subst hlen
    simp only [mm_lk, mm_ln] at hk
    have hn := mm_nx_of hk
    unfold mm_lda at h
    split at h
    · rename_i v hv
      exact lv_aload hx hb hd (hl.2.2.2 _ _ hv (by simp)) (h _ hn ls H locs hl hP hD hS)
    · exact h.elim
  · simp only [mm_ln] at hlen
    subst hlen
    simp only [mm_lk, mm_ln] at hk
    have hn := mm_nx_of hk
    unfold mm_lda at h
    split at h
    · rename_i v hv
      exact lv_aload_n hx hb hd rfl (hl.2.2.2 _ _ hv (by simp)) (h _ hn ls H locs hl hP hD hS)
    · exact h.elim
  · simp only [mm_ln] at hlen
    subst hlen
    simp only [mm_lk, mm_ln] at hk
    have hn := mm_nx_of hk
    unfold mm_ldi at h
    split at h
    · rename_i v hv
      exact lv_iload hx hb hd (hl.2.2.2 _ _ hv (by simp)) (h _ hn ls H locs hl hP hD hS)
    · exact h.elim
  · simp only [mm_ln] at hlen
    subst hlen
    simp only [mm_lk, mm_ln] at hk
    have hn := mm_nx_of hk
    unfold mm_ldi at h
    split at h
    · rename_i v hv
      exact lv_iload_n hx hb hd rfl (hl.2.2.2 _ _ hv (by simp)) (h _ hn ls H locs hl hP hD hS)
    · exact h.elim
  · simp only [mm_ln] at hlen
    subst hlen
    simp only [mm_lk, mm_ln] at hk
    have hn := mm_nx_of hk
    unfold mm_ldl at h
    split at h
    · rename_i v hv
      exact lv_lload hx hb hd (hl.2.2.2 _ _ hv (by simp)) (h _ hn ls H locs hl hP hD hS)
    · exact h.elim
  · simp only [mm_ln] at hlen
    subst hlen
    simp only [mm_lk, mm_ln] at hk
    have hn := mm_nx_of hk
    unfold mm_ldl at h
    split at h
    · rename_i v hv
      exact lv_lload_n hx hb hd rfl (hl.2.2.2 _ _ hv (by simp)) (h _ hn ls H locs hl hP hD hS)
    · exact h.elim
  · simp only [mm_ln] at hlen
    subst hlen
    simp only [mm_lk, mm_ln] at hk
    have hn := mm_nx_of hk
    unfold mm_i at h
    split at h
    · rename_i a t
      exact lv_istore hx hb hd (mm_lr_has hl) (by have := h.1; rw [hl.2.1] at this; exact this) rfl (fun ls1 h1 => h.2 _ hn ls1 H locs (mm_lr_1 hl h1) hP hD hS)
    · exact h.elim
  · simp only [mm_ln] at hlen
    subst hlen
    simp only [mm_lk, mm_ln] at hk
    have hn := mm_nx_of hk
    unfold mm_i at h
    split at h
    · rename_i a t
      exact lv_istore_n hx hb hd rfl (mm_lr_has hl) (by have := h.1; rw [hl.2.1] at this; exact this) rfl (fun ls1 h1 => h.2 _ hn ls1 H locs (mm_lr_1 hl h1) hP hD hS)
    · exact h.elim
  · simp only [mm_ln] at hlen
    subst hlen
    simp only [mm_lk, mm_ln] at hk
    have hn := mm_nx_of hk
    unfold mm_a at h
    split at h
    · rename_i a t
      exact lv_astore hx hb hd (mm_lr_has hl) (by have := h.1; rw [hl.2.1] at this; exact this) rfl (fun ls1 h1 => h.2 _ hn ls1 H locs (mm_lr_1 hl h1) hP hD hS)
    · exact h.elim
  · simp only [mm_ln] at hlen
    subst hlen
    simp only [mm_lk, mm_ln] at hk
    have hn := mm_nx_of hk
    unfold mm_a at h
    split at h
    · rename_i a t
      exact lv_astore_n hx hb hd rfl (mm_lr_has hl) (by have := h.1; rw [hl.2.1] at this; exact this) rfl (fun ls1 h1 => h.2 _ hn ls1 H locs (mm_lr_1 hl h1) hP hD hS)
    · exact h.elim
  · simp only [mm_ln] at hlen
    subst hlen
    simp only [mm_lk, mm_ln] at hk
    have hn := mm_nx_of hk
    unfold mm_l at h
    split at h
    · rename_i a t
      exact lv_lstore hx hb hd (mm_lr_has hl) (by have := h.1; rw [hl.2.1] at this; exact this) rfl (fun ls1 h1 => h.2 _ hn ls1 H locs (mm_lr_2 hl h1) hP hD hS)
    · exact h.elim
  · simp only [mm_ln] at hlen
    subst hlen
    simp only [mm_lk, mm_ln] at hk
    have hn := mm_nx_of hk
    unfold mm_l at h
    split at h
    · rename_i a t
      exact lv_lstore_n hx hb hd rfl (mm_lr_has hl) (by have := h.1; rw [hl.2.1] at this; exact this) rfl (fun ls1 h1 => h.2 _ hn ls1 H locs (mm_lr_2 hl h1) hP hD hS)
    · exact h.elim
  · simp only [mm_ln] at hlen
    subst hlen
    simp only [mm_lk, mm_ln] at hk
    have hn := mm_nx_of hk
    unfold mm_ldi at h
    split at h
    · rename_i n0 cst v hv
      have hin := mm_as_in (ad := ad) hv (by simp)
      obtain ⟨k, hk2⟩ := List.getElem?_of_mem hin
      exact lv_iinc (k := k) hx hb hd (mm_lr_has hl) hk2 rfl (by rw [← hl.2.1]; exact (List.getElem?_eq_some_iff.mp hv).1) rfl (fun ls1 h1 => h _ hn ls1 H locs (mm_lr_1 hl h1) hP hD hS)
    · exact h.elim
  · simp only [mm_ln] at hlen
    subst hlen
    simp only [mm_lk, mm_ln] at hk
    have hn := mm_nx_of hk
    exact lv_iconst hx hb hd rfl (h _ hn ls H locs hl hP hD hS)
  · simp only [mm_ln] at hlen
    subst hlen
    simp only [mm_lk, mm_ln] at hk
    have hn := mm_nx_of hk
    exact lv_bipush hx hb hd rfl (h _ hn ls H locs hl hP hD hS)
  · simp only [mm_ln] at hlen
    subst hlen
    simp only [mm_lk, mm_ln] at hk
    have hn := mm_nx_of hk
    exact lv_sipush hx hb hd rfl (h _ hn ls H locs hl hP hD hS)
  · simp only [mm_ln] at hlen
    subst hlen
    simp only [mm_lk, mm_ln] at hk
    have hn := mm_nx_of hk
    exact lv_lconst hx hb hd rfl (h _ hn ls H locs hl hP hD hS)
  · simp only [mm_ln] at hlen
    subst hlen
    simp only [mm_lk, mm_ln] at hk
    simp only [Bool.and_eq_true] at hk
    have hn := mm_nx_of hk.1
    have hq := of_decide_eq_true hk.2
    exact lv_ldc hx hb hown (hts _ (List.mem_cons_of_mem _ (mm_in_d hq))) hd (h _ hn ls H locs hl hP hD hS)
  · simp only [mm_ln] at hlen
    subst hlen
    simp only [mm_lk, mm_ln] at hk
    simp only [Bool.and_eq_true] at hk
    have hn := mm_nx_of hk.1
    have hq := of_decide_eq_true hk.2
    exact lv_ldcw hx hb hown (hts _ (List.mem_cons_of_mem _ (mm_in_d hq))) hd (h _ hn ls H locs hl hP hD hS)
  · simp only [mm_ln] at hlen
    subst hlen
    simp only [mm_lk, mm_ln] at hk
    simp only [Bool.and_eq_true] at hk
    have hn := mm_nx_of hk.1
    have hq := of_decide_eq_true hk.2
    exact lv_ldc2 hx hb hown (hts _ (List.mem_cons_of_mem _ (mm_in_l hq))) hd (h _ hn ls H locs hl hP hD hS)
  · simp only [mm_ln] at hlen
    subst hlen
    simp only [mm_lk, mm_ln] at hk
    have hn := mm_nx_of hk
    unfold mm_ii at h
    split at h
    · exact lv_iadd hx hb hd (h _ hn ls H locs hl hP hD hS)
    · exact h.elim
  · simp only [mm_ln] at hlen
    subst hlen
    simp only [mm_lk, mm_ln] at hk
    have hn := mm_nx_of hk
    unfold mm_ii at h
    split at h
    · exact lv_isub hx hb hd (h _ hn ls H locs hl hP hD hS)
    · exact h.elim
  · simp only [mm_ln] at hlen
    subst hlen
    simp only [mm_lk, mm_ln] at hk
    have hn := mm_nx_of hk
    unfold mm_ii at h
    split at h
    · exact lv_imul hx hb hd (h _ hn ls H locs hl hP hD hS)
    · exact h.elim
  · simp only [mm_ln] at hlen
    subst hlen
    simp only [mm_lk, mm_ln] at hk
    have hn := mm_nx_of hk
    unfold mm_ii at h
    split at h
    · exact lv_iand hx hb hd (h _ hn ls H locs hl hP hD hS)
    · exact h.elim
  · simp only [mm_ln] at hlen
    subst hlen
    simp only [mm_lk, mm_ln] at hk
    have hn := mm_nx_of hk
    unfold mm_ii at h
    split at h
    · exact lv_ior hx hb hd (h _ hn ls H locs hl hP hD hS)
    · exact h.elim
  · simp only [mm_ln] at hlen
    subst hlen
    simp only [mm_lk, mm_ln] at hk
    have hn := mm_nx_of hk
    unfold mm_ii at h
    split at h
    · exact lv_ixor hx hb hd (h _ hn ls H locs hl hP hD hS)
    · exact h.elim
  · simp only [mm_ln] at hlen
    subst hlen
    simp only [mm_lk, mm_ln] at hk
    have hn := mm_nx_of hk
    unfold mm_ii at h
    split at h
    · exact lv_ishl hx hb hd (h _ hn ls H locs hl hP hD hS)
    · exact h.elim
  · simp only [mm_ln] at hlen
    subst hlen
    simp only [mm_lk, mm_ln] at hk
    have hn := mm_nx_of hk
    unfold mm_ii at h
    split at h
    · exact lv_ishr hx hb hd (h _ hn ls H locs hl hP hD hS)
    · exact h.elim
  · simp only [mm_ln] at hlen
    subst hlen
    simp only [mm_lk, mm_ln] at hk
    have hn := mm_nx_of hk
    unfold mm_ii at h
    split at h
    · exact lv_iushr hx hb hd rfl (h _ hn ls H locs hl hP hD hS)
    · exact h.elim
  · simp only [mm_ln] at hlen
    subst hlen
    simp only [mm_lk, mm_ln] at hk
    have hn := mm_nx_of hk
    unfold mm_ii at h
    split at h
    · exact lv_idiv hx hb hd h.1 (h.2 _ hn ls H locs hl hP hD hS)
    · exact h.elim
  · simp only [mm_ln] at hlen
    subst hlen
    simp only [mm_lk, mm_ln] at hk
    have hn := mm_nx_of hk
    unfold mm_ii at h
    split at h
    · exact lv_irem hx hb hd h.1 (h.2 _ hn ls H locs hl hP hD hS)
    · exact h.elim
  · simp only [mm_ln] at hlen
    subst hlen
    simp only [mm_lk, mm_ln] at hk
    have hn := mm_nx_of hk
    unfold mm_ll at h
    split at h
    · exact lv_ladd hx hb hd (h _ hn ls H locs hl hP hD hS)
    · exact h.elim
  · simp only [mm_ln] at hlen
    subst hlen
    simp only [mm_lk, mm_ln] at hk
    have hn := mm_nx_of hk
    unfold mm_ll at h
    split at h
    · exact lv_lsub hx hb hd (h _ hn ls H locs hl hP hD hS)
    · exact h.elim
  · simp only [mm_ln] at hlen
    subst hlen
    simp only [mm_lk, mm_ln] at hk
    have hn := mm_nx_of hk
    unfold mm_ll at h
    split at h
    · exact lv_lmul hx hb hd (h _ hn ls H locs hl hP hD hS)
    · exact h.elim
  · simp only [mm_ln] at hlen
    subst hlen
    simp only [mm_lk, mm_ln] at hk
    have hn := mm_nx_of hk
    unfold mm_l at h
    split at h
    · exact lv_lneg hx hb hd (h _ hn ls H locs hl hP hD hS)
    · exact h.elim
  · simp only [mm_ln] at hlen
    subst hlen
    simp only [mm_lk, mm_ln] at hk
    have hn := mm_nx_of hk
    unfold mm_ll at h
    split at h
    · exact W.lcmp hx hb hd (h _ hn ls H locs hl hP hD hS)
    · exact h.elim
  · simp only [mm_ln] at hlen
    subst hlen
    simp only [mm_lk, mm_ln] at hk
    have hn := mm_nx_of hk
    unfold mm_i at h
    split at h
    · exact lv_i2l hx hb hd rfl (h _ hn ls H locs hl hP hD hS)
    · exact h.elim
  · simp only [mm_ln] at hlen
    subst hlen
    simp only [mm_lk, mm_ln] at hk
    have hn := mm_nx_of hk
    unfold mm_l at h
    split at h
    · exact lv_l2i hx hb hd rfl (h _ hn ls H locs hl hP hD hS)
    · exact h.elim
  · simp only [mm_ln] at hlen
    subst hlen
    simp only [mm_lk, mm_ln] at hk
    have hn := mm_nx_of hk
    split at h
    · exact lv_dup hx hb hd rfl (h _ hn ls H locs hl hP hD hS)
    · exact lv_dup hx hb hd rfl (h _ hn ls H locs hl hP hD hS)
    · exact h.elim
  · simp only [mm_ln] at hlen
    subst hlen
    simp only [mm_lk, mm_ln] at hk
    have hn := mm_nx_of hk
    unfold mm_ia2 at h
    split at h
    · exact lv_dup2_11 hx hb hd rfl rfl (h _ hn ls H locs hl hP hD hS)
    · exact h.elim
  · simp only [mm_ln] at hlen
    subst hlen
    simp only [mm_lk, mm_ln] at hk
    obtain ⟨t, h1, h2⟩ := mm_tg_of hk
    exact lv_goto (tgt := t) hx hb hd h2 (h _ h1 ls H locs hl hP hD hS)
  · simp only [mm_ln] at hlen
    subst hlen
    simp only [mm_lk, mm_ln] at hk
    simp only [Bool.and_eq_true] at hk
    obtain ⟨t, h1, h2⟩ := mm_tg_of hk.1
    have hn := mm_nx_of hk.2
    unfold mm_ii at h
    split at h
    · rename_i cnd off q0 a1 a2 a3
      cases cnd
      · exact lv_icmp_eq (tgt := t) hx hb hd h2 (fun q => h.1 q _ h1 ls H locs hl hP hD hS) (fun q => h.2 q _ hn ls H locs hl hP hD hS)
      · exact lv_icmp_ne (tgt := t) hx hb hd h2 (fun q => h.1 q _ h1 ls H locs hl hP hD hS) (fun q => h.2 (fun z => z q) _ hn ls H locs hl hP hD hS)
      · exact lv_icmp_lt (tgt := t) hx hb hd h2 (fun q => h.1 q _ h1 ls H locs hl hP hD hS) (fun q => h.2 q _ hn ls H locs hl hP hD hS)
      · exact lv_icmp_ge (tgt := t) hx hb hd h2 (fun q => h.1 q _ h1 ls H locs hl hP hD hS) (fun q => h.2 q _ hn ls H locs hl hP hD hS)
      · exact lv_icmp_gt (tgt := t) hx hb hd h2 (fun q => h.1 q _ h1 ls H locs hl hP hD hS) (fun q => h.2 q _ hn ls H locs hl hP hD hS)
      · exact lv_icmp_le (tgt := t) hx hb hd h2 (fun q => h.1 q _ h1 ls H locs hl hP hD hS) (fun q => h.2 q _ hn ls H locs hl hP hD hS)
    · exact h.elim
  · simp only [mm_ln] at hlen
    subst hlen
    simp only [mm_lk, mm_ln] at hk
    simp only [Bool.and_eq_true] at hk
    obtain ⟨t, h1, h2⟩ := mm_tg_of hk.1
    have hn := mm_nx_of hk.2
    unfold mm_i at h
    split at h
    · rename_i cnd off q0 a1 a2
      cases cnd
      · exact lv_if_eq (tgt := t) hx hb hd h2 (fun q => h.1 q _ h1 ls H locs hl hP hD hS) (fun q => h.2 q _ hn ls H locs hl hP hD hS)
      · exact lv_if_ne (tgt := t) hx hb hd h2 (fun q => h.1 q _ h1 ls H locs hl hP hD hS) (fun q => h.2 (fun z => z q) _ hn ls H locs hl hP hD hS)
      · exact lv_if_lt (tgt := t) hx hb hd h2 (fun q => h.1 q _ h1 ls H locs hl hP hD hS) (fun q => h.2 q _ hn ls H locs hl hP hD hS)
      · exact lv_if_ge (tgt := t) hx hb hd h2 (fun q => h.1 q _ h1 ls H locs hl hP hD hS) (fun q => h.2 q _ hn ls H locs hl hP hD hS)
      · exact lv_if_gt (tgt := t) hx hb hd h2 (fun q => h.1 q _ h1 ls H locs hl hP hD hS) (fun q => h.2 q _ hn ls H locs hl hP hD hS)
      · exact lv_if_le (tgt := t) hx hb hd h2 (fun q => h.1 q _ h1 ls H locs hl hP hD hS) (fun q => h.2 q _ hn ls H locs hl hP hD hS)
    · exact h.elim
  · clear hlen
    simp only [mm_lk] at hk
    simp only [Bool.and_eq_true] at hk
    obtain ⟨⟨⟨⟨k1, k2⟩, k3⟩, k4⟩, k5⟩ := hk
    have k3 := of_decide_eq_true k3
    unfold mm_i at h
    split at h
    · rename_i df n0 n1 offs q0 q1 a1 a2
      by_cases hz : a1.toInt < n0 ∨ n1 < a1.toInt
      · obtain ⟨t, h1, h2⟩ := mm_tg_of k1
        exact lv_tableOut (tgt := t) hx hb hd hz h2 (h.2 hz _ h1 ls H locs hl hP hD hS)
      · have hj : (a1.toInt - n0).toNat < ts.length := by omega
        obtain ⟨off, pc2, h1, h2, h3⟩ := mm_tgs_of ts _ k2 (a1.toInt - n0).toNat _ (List.getElem?_eq_getElem hj)
        exact lv_tableIn (off := off) (tgt := pc2) hx hb hd (fun q => hz (Or.inl q)) (fun q => hz (Or.inr q)) (by rw [← Array.getElem?_toList]; exact h1) h3 (mm_sw_at ts _ h.1 (a1.toInt - n0).toNat _ (List.getElem?_eq_getElem hj) (by omega) _ h2 ls H locs hl hP hD hS)
    · exact h.elim
  · simp only [mm_ln] at hlen
    subst hlen
    simp only [mm_lk, mm_ln] at hk
    simp only [Bool.and_eq_true] at hk
    have hn := mm_nx_of hk.1
    have hq := of_decide_eq_true hk.2.1
    have hu := of_decide_eq_true hk.2.2
    unfold mm_a at h
    split at h
    · unfold mm_get at h
      obtain ⟨rfl, h⟩ := h
      refine mm_getf (t := _) (i := i) (lo := lo) ok C0 hd hq hu hP ?_
      match u, h with
      | 0, h => exact h _ hn ls H locs hl hP hD hS
      | 1, h => exact h _ hn ls H locs hl hP hD hS
      | 2, h => exact h _ hn ls H locs hl hP hD hS
      | n + 3, h => exact h _ hn ls H locs hl hP hD hS
    · exact h.elim
  · simp only [mm_ln] at hlen
    subst hlen
    simp only [mm_lk, mm_ln] at hk
    simp only [Bool.and_eq_true] at hk
    have hn := mm_nx_of hk.1
    have hq := of_decide_eq_true hk.2.1
    have hu := of_decide_eq_true hk.2.2
    unfold mm_put at h
    split at h
    · split at h
      · obtain ⟨rfl, h⟩ := h
        rename_i v r t
        refine mm_putf (I' := mm_ui I r y v) (L' := L) ok C0 hd hq hu (by decide) hP hD hS (by simp [mm_fv, mm_ui]; rfl) (fun ty e _ _ => by rw [e rfl]; exact ⟨rfl, rfl⟩) (fun b hb => mm_ui_off I y v hb) (fun _ _ => rfl) (fun j kd hj => by unfold mm_fv mm_ui; simp [hj]) (fun H1 locs1 hP1 hD1 hS1 => h _ hn ls H1 locs1 hl hP1 hD1 hS1)
      · exact h.elim
    · split at h
      · obtain ⟨rfl, h⟩ := h
        rename_i v r t
        refine mm_putf (I' := I) (L' := mm_ul L r y v) ok C0 hd hq hu (by decide) hP hD hS (by simp [mm_fv, mm_ul]; rfl) (fun ty _ e _ => by rw [e rfl]; exact ⟨rfl, rfl⟩) (fun _ _ => rfl) (fun b hb => mm_ul_off L y v hb) (fun j kd hj => by unfold mm_fv mm_ul; simp [hj]) (fun H1 locs1 hP1 hD1 hS1 => h _ hn ls H1 locs1 hl hP1 hD1 hS1)
      · exact h.elim
    · split at h
      · obtain ⟨rfl, h0, h⟩ := h
        rename_i v r t
        refine mm_putf (I' := mm_ui I r y v) (L' := L) ok C0 hd hq hu (by decide) hP hD hS (by simp [mm_fv, mm_ui]; rfl) (fun ty _ _ e => by rw [e rfl]; rcases h0 with rfl | rfl <;> exact ⟨rfl, rfl⟩) (fun b hb => mm_ui_off I y v hb) (fun _ _ => rfl) (fun j kd hj => by unfold mm_fv mm_ui; simp [hj]) (fun H1 locs1 hP1 hD1 hS1 => h _ hn ls H1 locs1 hl hP1 hD1 hS1)
      · exact h.elim
    · exact h.elim
  · simp only [mm_ln] at hlen
    subst hlen
    simp only [mm_lk, mm_ln] at hk
    have hn := mm_nx_of hk
    unfold mm_ia2 at h
    split at h
    · rename_i j a t
      obtain ⟨ks, hs⟩ := mm_ia_at (mm_vp_pos h.1)
      exact va_iald hx hb hK hP a 0 (mm_ws_at hs) rfl h.1 hd (h.2 _ hn ls H locs hl hP hD hS)
    · exact h.elim
  · simp only [mm_ln] at hlen
    subst hlen
    simp only [mm_lk, mm_ln] at hk
    have hn := mm_nx_of hk
    unfold mm_ia2 at h
    split at h
    · rename_i j a t
      obtain ⟨ks, hs⟩ := mm_la_at (mm_vp_pos h.1)
      exact va_lald hx hb hK hP a 1 (mm_ws_at hs) rfl h.1 hd (h.2 _ hn ls H locs hl hP hD hS)
    · exact h.elim
  · simp only [mm_ln] at hlen
    subst hlen
    simp only [mm_lk, mm_ln] at hk
    have hn := mm_nx_of hk
    split at h
    · rename_i v j a t
      obtain ⟨ks, hs⟩ := mm_ia_at (mm_vp_pos h.1)
      refine va_iast hx hb hK hP hD hS a 0 (mm_ws_at hs) rfl h.1 hd (fun H1 locs1 hP1 hD1 hS1 => ?_)
      have he2 : (mm_ws (mm_sh T) ad cI cJ I L).set a (ad a, .inl (cI, mm_ia (mm_sh T) a, .inl (upd (I a) j.toNatClampNeg v))) = mm_ws (mm_sh T) ad cI cJ (mm_ui I a j.toNatClampNeg v) L := mm_ws_set hs (by
        show Sum.inl (cI, mm_ia (mm_sh T) a, Sum.inl (mm_ui I a j.toNatClampNeg v a)) = _
        rw [mm_ui_row]) (fun b hb => mm_ui_off I _ v hb) (fun _ _ => rfl)
      rw [he2] at hP1 hD1
      exact h.2 _ hn ls H1 locs1 hl hP1 hD1 hS1
    · exact h.elim
  · simp only [mm_ln] at hlen
    subst hlen
    simp only [mm_lk, mm_ln] at hk
    have hn := mm_nx_of hk
    split at h
    · rename_i v j a t
      obtain ⟨ks, hs⟩ := mm_la_at (mm_vp_pos h.1)
      refine va_last hx hb hK hP hD hS a 1 (mm_ws_at hs) rfl h.1 hd (fun H1 locs1 hP1 hD1 hS1 => ?_)
      have he2 : (mm_ws (mm_sh T) ad cI cJ I L).set a (ad a, .inl (cJ, mm_la (mm_sh T) a, .inr (.inl (vp_updL (L a) j.toNatClampNeg v)))) = mm_ws (mm_sh T) ad cI cJ I (mm_ul L a j.toNatClampNeg v) := mm_ws_set hs (by
        show Sum.inl (cJ, mm_la (mm_sh T) a, Sum.inr (Sum.inl (mm_ul L a j.toNatClampNeg v a))) = _
        rw [mm_ul_row]) (fun _ _ => rfl) (fun b hb => mm_ul_off L _ v hb)
      rw [he2] at hP1 hD1
      exact h.2 _ hn ls H1 locs1 hl hP1 hD1 hS1
    · exact h.elim
  · simp only [mm_ln] at hlen
    subst hlen
    simp only [mm_lk, mm_ln] at hk
    have hn := mm_nx_of hk
    unfold mm_a at h
    split at h
    · rename_i a t
      by_cases ha : 0 < mm_ia (mm_sh T) a
      · obtain ⟨ks, hs⟩ := mm_ia_at ha
        have h0 : mm_la (mm_sh T) a = 0 := by simp [mm_la, hs]
        refine va_alen hx hb hK hP a 0 (mm_ws_at hs) rfl (v := Int32.ofNat (mm_ia (mm_sh T) a)) rfl hd ?_
        have h2 := h.2
        rw [h0, Nat.add_zero] at h2
        exact h2 _ hn ls H locs hl hP hD hS
      · have ha0 : mm_ia (mm_sh T) a = 0 := by omega
        have h1 := h.1
        have h2 := h.2
        rw [ha0, Nat.zero_add] at h1 h2
        obtain ⟨ks, hs⟩ := mm_la_at (Nat.pos_of_ne_zero h1)
        exact va_alen hx hb hK hP a 1 (mm_ws_at hs) rfl (v := Int32.ofNat (mm_la (mm_sh T) a)) rfl hd (h2 _ hn ls H locs hl hP hD hS)
    · exact h.elim
  · simp only [mm_ln] at hlen
    subst hlen
    simp only [mm_lk, mm_ln] at hk
    simp only [Bool.and_eq_true] at hk
    have hn := mm_nx_of hk.1
    have hq := of_decide_eq_true hk.2.1
    have hu := of_decide_eq_true hk.2.2
    obtain ⟨hrc, h⟩ := h
    unfold mm_rcv at hrc
    unfold mm_inv at h
    split at h
    · rename_i as t hp
      rw [hp] at hrc
      obtain ⟨ci, ks, r, mx, q1, q2, q3, q4⟩ := ok.2.2.1 _ hq rfl
      dsimp only at q1 q3
      rw [q3] at hu
      simp only [Option.map_some, Option.some.injEq, Prod.mk.injEq] at hu
      obtain ⟨rfl, hu2⟩ := hu
      obtain ⟨pr, p1, p2, p3⟩ := mm_pop_of _ _ _ _ _ hp
      rw [List.append_nil] at p2
      cases has : as with
      | nil => rw [has] at hrc; exact hrc.elim
      | cons v as1 =>
        rw [has] at hrc
        cases v with
        | ref r0 =>
          dsimp only at hrc
          subst hrc
          have hM := hcall x mx q3 as I L _ H.size h.2
          have hst : st.map (mm_tv ad) = (as1.map (mm_tv ad)).reverse ++ .ref (ad r0) :: t.map (mm_tv ad) := by
            have : pr = as1.reverse ++ [.ref r0] := by
              have h9 := congrArg List.reverse p2
              rw [List.reverse_reverse, has, List.reverse_cons] at h9
              exact h9.symm
            rw [p1, this]
            simp [mm_tv]
          have hw0 : ∀ w ∈ mm_cw T (md.2.2.2.2.1, _, 0, x, r0), w ∈ mm_tb T := fun w hw => mm_in_c hq hw
          simp only [mm_cw, q3] at hw0
          have hnp : mm_np mx = some as1.length := by
            have h9 : pr.length = as1.length + 1 := by
              have := congrArg List.length p2
              rw [List.length_reverse, has, List.length_cons] at this
              exact this.symm
            cases hnp : mm_np mx with
            | none => rw [hnp] at hu2; cases hu2
            | some k =>
              rw [hnp] at hu2
              simp only [Option.map_some, Option.some.injEq] at hu2
              rw [show k = as1.length by omega]
          have hmx := ok.1 x mx q3
          rw [has] at hM
          have hcw := cwV (R := mm_rm (d + 1)) (s := s) (args := args) (own := mm_cn T md.2.2.2.2.1) (index := _) (C := mx.1.cls) (y := mx.1) (bytes := mx.2.1) (maxL := mx.2.2.1) (ret := mx.2.2.2.1) (ws := mm_mw mx :: mm_tb T) (ws' := mm_tb T) (rm := mm_rm d) (mc := 0) (ms := 0) as1.length hts
            (fun w hw => by
              rcases List.mem_append.mp hw with hw | hw
              · exact ⟨List.mem_cons_of_mem _ (hw0 w hw), good_of_word (ok.2.2.2.2 w (hw0 w hw))⟩
              · exact mm_good ok q3 w hw) rfl rfl rfl ⟨rfl, hmx.2.2.2.1.1, hmx.2.2.2.1.2, hnp⟩ ⟨Nat.le_refl _, by show 8 + (mx.2.2.1 + 11) + 64 * d ≤ 64 * (d + 1); have := hmx.2.2.1; omega⟩
          have hrv := va_recv hK hP q2 (mm_ws_at q1)
          rw [q4] at hrv
          have hrun := va_runV (e := e) (below := below) (meth := meth) (locs := locs) (n := as1.length) (As := as1.map (mm_tv ad)) (rest := t.map (mm_tv ad)) (g := F0 m pc ls (st.map (mm_tv ad))) ⟨hx, hb, hml, hown, hts⟩ hM hcw ⟨mm_blind, hrv, mm_pre (as := .ref r0 :: as1) hP hK hD hN⟩ rfl (by simp) hl.1 hst (lv_room (by rw [mm_tv_ct]; exact h.1)) hd ⟨Nat.zero_le _, Nat.zero_le _⟩
          exact mm_after (t := t) hn hl hD hS hA hrun
        | _ => exact hrc.elim
    · exact h.elim
  · simp only [mm_ln] at hlen
    subst hlen
    simp only [mm_lk, mm_ln, Bool.and_eq_true] at hk
    have hn := mm_nx_of hk.1
    have hk := hk.2
    have hlo : ∀ (t : List Value) (k : Nat), mm_ct t ≤ 8 → k ≤ 56 → ((t.map (mm_tv ad)).map fun v => v.category).sum + k ≤ (mm_rm (d + 1)).locals := fun t k h1 h2 => by
      rw [mm_tv_ct]
      show _ ≤ 64 * (d + 1)
      omega
    split at h
    · rw [if_pos (by decide), Bool.and_eq_true] at hk
      have hj : ∀ w ∈ mm_jw T _, w.before args s = true := fun w hw => hts _ (List.mem_cons_of_mem _ (mm_in_j (of_decide_eq_true hk.2) hw))
      simp only [mm_jw, List.forall_mem_cons] at hj
      unfold mm_l at h
      split at h
      · exact va_mabs_long hx hb (by rw [hml]; exact hl.1.symm) hown hj.1 hj.2.1 hj.2.2.1 hj.2.2.2.1 (Nat.succ_le_succ (Nat.zero_le _)) (hlo _ _ h.1 (by decide)) (Nat.zero_le _) (Nat.zero_le _) hd (h.2 _ hn ls H locs hl hP hD hS)
      · exact h.elim
    · rw [if_pos (by decide), Bool.and_eq_true] at hk
      have hj : ∀ w ∈ mm_jw T _, w.before args s = true := fun w hw => hts _ (List.mem_cons_of_mem _ (mm_in_j (of_decide_eq_true hk.2) hw))
      simp only [mm_jw, List.forall_mem_cons] at hj
      unfold mm_ii at h
      split at h
      · exact va_mmax hx hb (by rw [hml]; exact hl.1.symm) hown hj.1 hj.2.1 hj.2.2.1 hj.2.2.2.1 (Nat.succ_le_succ (Nat.zero_le _)) (hlo _ _ h.1 (by decide)) (Nat.zero_le _) (Nat.zero_le _) hd (h.2 _ hn ls H locs hl hP hD hS)
      · exact h.elim
    · rw [if_pos (by decide), Bool.and_eq_true] at hk
      have hj : ∀ w ∈ mm_jw T _, w.before args s = true := fun w hw => hts _ (List.mem_cons_of_mem _ (mm_in_j (of_decide_eq_true hk.2) hw))
      simp only [mm_jw, List.forall_mem_cons] at hj
      unfold mm_ll at h
      split at h
      · exact va_mmax_long hx hb (by rw [hml]; exact hl.1.symm) hown hj.1 hj.2.1 hj.2.2.1 hj.2.2.2.1 (Nat.succ_le_succ (Nat.zero_le _)) (hlo _ _ h.1 (by decide)) (Nat.zero_le _) (Nat.zero_le _) hd (h.2 _ hn ls H locs hl hP hD hS)
      · exact h.elim
    · rw [if_pos (by decide), Bool.and_eq_true] at hk
      have hj : ∀ w ∈ mm_jw T _, w.before args s = true := fun w hw => hts _ (List.mem_cons_of_mem _ (mm_in_j (of_decide_eq_true hk.2) hw))
      simp only [mm_jw, List.forall_mem_cons] at hj
      unfold mm_ll at h
      split at h
      · exact va_mmin_long hx hb (by rw [hml]; exact hl.1.symm) hown hj.1 hj.2.1 hj.2.2.1 hj.2.2.2.1 (Nat.succ_le_succ (Nat.zero_le _)) (hlo _ _ h.1 (by decide)) (Nat.zero_le _) (Nat.zero_le _) hd (h.2 _ hn ls H locs hl hP hD hS)
      · exact h.elim
    · rw [if_pos (by decide), Bool.and_eq_true] at hk
      have hj : ∀ w ∈ mm_jw T _, w.before args s = true := fun w hw => hts _ (List.mem_cons_of_mem _ (mm_in_j (of_decide_eq_true hk.2) hw))
      simp only [mm_jw, List.forall_mem_cons] at hj
      unfold mm_cpy at h
      split at h
      · rename_i n dp b sp a t
        obtain ⟨h0, ⟨-, -, h3, h4, h5, h6, h7, h8, h9⟩, h⟩ := h
        obtain ⟨ka, ha⟩ := mm_ia_at h3
        obtain ⟨kb, hb2⟩ := mm_ia_at h4
        refine va_copyi hx hb (by rw [hml]; exact hl.1.symm) hown hj.1 hj.2.1 hj.2.2.1 hj.2.2.2.1 hK hP hD hS a b 0 0 (mm_ws_at ha) (mm_ws_at hb2) rfl rfl rfl h5 h6 h7 h8 h9 (fun _ _ => rfl) (Nat.succ_le_succ (Nat.zero_le _)) (hlo _ _ h0 (by decide +kernel)) hd (fun H1 locs1 hP1 hD1 hS1 => ?_)
        have he2 : (mm_ws (mm_sh T) ad cI cJ I L).set b (ad b, .inl (cI, mm_ia (mm_sh T) b, .inl (va_cpy (I a) (I b) sp.toNatClampNeg dp.toNatClampNeg n.toNatClampNeg))) = mm_ws (mm_sh T) ad cI cJ (mm_ur I b (va_cpy (I a) (I b) sp.toNatClampNeg dp.toNatClampNeg n.toNatClampNeg)) L := mm_ws_set hb2 (by
          show Sum.inl (cI, mm_ia (mm_sh T) b, Sum.inl (mm_ur I b _ b)) = _
          rw [mm_ur_row]) (fun q hq => mm_ur_off I _ hq) (fun _ _ => rfl)
        rw [he2] at hP1 hD1
        exact h _ hn ls H1 locs1 hl hP1 hD1 hS1
      · exact h.elim
    · by_cases hu10 : 10 ≤ u
      · rw [if_pos hu10, Bool.and_eq_true] at hk
        have h14 := of_decide_eq_true hk.1
        rename_i n10 n11 n12 n13 n14
        exact (show False by
          rcases (show u = 10 ∨ u = 11 ∨ u = 12 ∨ u = 13 ∨ u = 14 by omega) with q | q | q | q | q
          · exact n10 q
          · exact n11 q
          · exact n12 q
          · exact n13 q
          · exact n14 q).elim
      · rw [if_neg hu10, Bool.and_eq_true] at hk
        have hu := of_decide_eq_true hk.2
        unfold mm_inv at h
        split at h
        · rename_i as t hp
          cases q3 : (mm_ms T)[x]? with
          | none => rw [q3] at hu; cases hu
          | some mx =>
            rw [q3] at hu
            simp only [Option.map_some, Option.some.injEq, Prod.mk.injEq] at hu
            obtain ⟨rfl, hu2⟩ := hu
            obtain ⟨pr, p1, p2, p3⟩ := mm_pop_of _ _ _ _ _ hp
            rw [List.append_nil] at p2
            have hM := hcall x mx q3 as I L _ H.size h.2
            have hst : st.map (mm_tv ad) = (as.map (mm_tv ad)).reverse ++ t.map (mm_tv ad) := by
              rw [p1, p2]
              simp
            have hnp : mm_np mx = some as.length := by
              rw [hu2, p2, List.length_reverse, p3]
            have hmx := ok.1 x mx q3
            have hroom : (mm_rm d).frames + 1 ≤ (mm_rm (d + 1)).frames ∧ 8 + (mx.2.2.1 + 11) + (mm_rm d).locals ≤ (mm_rm (d + 1)).locals := ⟨Nat.le_refl _, by show 8 + (mx.2.2.1 + 11) + 64 * d ≤ 64 * (d + 1); have := hmx.2.2.1; omega⟩
            rcases Bool.or_eq_true _ _ ▸ hk.1 with hq | hq
            · have hq := of_decide_eq_true hq
              have hw0 : ∀ w ∈ mm_cw T (md.2.2.2.2.1, _, 1, x, 0), w ∈ mm_tb T := fun w hw => mm_in_c hq hw
              simp only [mm_cw, q3] at hw0
              have hcw := va_cwS (R := mm_rm (d + 1)) (s := s) (args := args) (own := mm_cn T md.2.2.2.2.1) (index := _) (y := mx.1) (bytes := mx.2.1) (maxL := mx.2.2.1) (ret := mx.2.2.2.1) (ws := mm_mw mx :: mm_tb T) (ws' := mm_tb T) (rm := mm_rm d) (mc := 0) (ms := 0) as.length hts
                (fun w hw => by
                  rcases List.mem_append.mp hw with hw | hw
                  · exact ⟨List.mem_cons_of_mem _ (hw0 w hw), good_of_word (ok.2.2.2.2 w (hw0 w hw))⟩
                  · exact mm_good ok q3 w hw) rfl rfl rfl ⟨hmx.2.2.2.1.1, hmx.2.2.2.1.2, hnp⟩ hroom
              have hrun := va_runS (e := e) (below := below) (meth := meth) (locs := locs) (n := as.length) (As := as.map (mm_tv ad)) (rest := t.map (mm_tv ad)) (g := F0 m pc ls (st.map (mm_tv ad))) ⟨hx, hb, hml, hown, hts⟩ hM hcw ⟨mm_blind, mm_pre (as := as) hP hK hD hN⟩ rfl (by simp) hl.1 hst (lv_room (by rw [mm_tv_ct]; exact h.1)) hd ⟨Nat.zero_le _, Nat.zero_le _⟩
              exact mm_after (t := t) hn hl hD hS hA hrun
            · have hq := of_decide_eq_true hq
              have hw0 : ∀ w ∈ mm_cw T (md.2.2.2.2.1, _, 2, x, 0), w.before args s = true := fun w hw => hts _ (List.mem_cons_of_mem _ (mm_in_c hq hw))
              simp only [mm_cw, q3, List.forall_mem_cons] at hw0
              have hcw := va_cnB (R := mm_rm (d + 1)) (s := s) (args := args) (bytes := mx.2.1) (maxL := mx.2.2.1) (ret := mx.2.2.2.1) (ws := mm_mw mx :: mm_tb T) (ws' := mm_tb T) (rm := mm_rm d) (mc := 0) (ms := 0) as.length hts (mm_good ok q3) rfl rfl rfl (hN _ hq rfl mx q3) hw0.2.1 ⟨hmx.2.2.2.1.1, hmx.2.2.2.1.2, hnp⟩ hroom
              have hrun := va_runSN (e := e) (below := below) (meth := meth) (locs := locs) (n := as.length) (As := as.map (mm_tv ad)) (rest := t.map (mm_tv ad)) (g := F0 m pc ls (st.map (mm_tv ad))) ⟨hx, hb, hml, hown, hts⟩ hM ⟨hcw, hw0.1, trivial⟩ ⟨mm_blind, mm_pre (as := as) hP hK hD hN⟩ rfl (by simp) hl.1 hst (lv_room (by rw [mm_tv_ct]; exact h.1)) hd ⟨Nat.zero_le _, Nat.zero_le _⟩
              exact mm_after (t := t) hn hl hD hS hA hrun
        · exact h.elim
  · simp only [mm_ln] at hlen
    subst hlen
    simp only [mm_lk, mm_ln, Bool.and_eq_true] at hk
    have h1 := of_decide_eq_true hk.1
    have h2 := of_decide_eq_true hk.2
    rw [h1]
    split at h
    · rename_i a
      have hq : ∀ t : State, t.heap = H → s.WarmedH t.vm → mm_Qc T D cI cJ ad A 1 Q args s (.returned (some (.int a))) t := fun t ht hW => ⟨⟨a, (I, L, 0), rfl, h.2, by rw [ht]; exact hP, va_K.moved hW.alike hK, hD⟩, hS.F ht⟩
      rcases h2 with ⟨-, h2⟩ | ⟨hu, h2⟩
      · exact W.iret hx hb (hr.trans h2) hq hS.2.2 hd hlocks
      · exact W.zret hx hb (hr.trans h2) (by rcases h.1 hu with rfl | rfl <;> rfl) hq hS.2.2 hd hlocks
    · exact h.elim
  · simp only [mm_ln] at hlen
    subst hlen
    simp only [mm_lk, mm_ln, Bool.and_eq_true] at hk
    have h1 := of_decide_eq_true hk.1
    have h2 := of_decide_eq_true hk.2
    rw [h1]
    split at h
    · rename_i a
      exact W.lret hx hb (hr.trans h2) (fun t ht hW => ⟨⟨a, (I, L, 0), rfl, h, by rw [ht]; exact hP, va_K.moved hW.alike hK, hD⟩, hS.F ht⟩) hS.2.2 hd hlocks
    · exact h.elim
  · simp only [mm_ln] at hlen
    subst hlen
    simp only [mm_lk, mm_ln, Bool.and_eq_true] at hk
    have h1 := of_decide_eq_true hk.1
    have h2 := of_decide_eq_true hk.2
    rw [h1]
    split at h
    · exact W.vret hx hb (hr.trans h2) (fun t ht hW => ⟨⟨(I, L, 0, 0), rfl, h, by rw [ht]; exact hP, va_K.moved hW.alike hK, hD⟩, hS.F ht⟩) hS.2.2 hd hlocks
    · exact h.elim
  · exact h.elim
/-- a method of the small machine is the machine's -/
theorem mm_sound (ok : mm_ok T) : ∀ d : Nat, mm_hc T D cI cJ ad l d := by
  intro d
  induction d with
  | zero => intro x mx _ as I L Q sz h; exact h.elim
  | succ d ih =>
    intro x mx hx as I L Q sz h
    have hm := ok.1 x mx hx
    unfold mm_P at h
    rw [hx] at h
    obtain ⟨h0, h⟩ := h
    refine Met.ofW (cc := mx.2.1) (maxL := mx.2.2.1) (ret := mx.2.2.2.1) hm.1 rfl ?_
    intro p e s m args below meth c s₁ B hml hv
    obtain ⟨rfl, hsz, ⟨hP, hK, hD0⟩, hN⟩ := hv
    have hts := atoms_spec (ws := mm_mw mx :: mm_tb T) B.pre
    have hown : s.vm.findClass mx.1.cls = some m.cls := findClass_of_methodNamed B.named
    rw [hm.2.1] at hown
    subst hsz
    have hD := hD0.self (sz := s.heap.size)
    have hA : ∀ q : Nat, s.heap.size ≤ q → va_A (mm_ws (mm_sh T) ad cI cJ I L) s.heap.size q := fun q h => Or.inr h
    have hS : va_S (va_A (mm_ws (mm_sh T) ad cI cJ I L) s.heap.size) s.heap s.heap [] := va_S.rf
    have C0 : mm_At T D cI cJ p s m _ meth c (va_A (mm_ws (mm_sh T) ad cI cJ I L) s.heap.size) mx := ⟨B.exec, B.bytes, B.returns, B.notSynchronized, hml, hown, hts, hK, hN, hA⟩
    rw [lg_entry_eq]
    exact h _ (mm_step (d := d) (l := l) (ad := ad) (e := e) (below := below) (Q := Q) ok hm C0 ih) 0 hm.2.2.2.2.1 _ s.heap [] (mm_lr_en ad mx.2.2.1 as h0) hP hD hS
end MF
end
section
/-! ===== the checks, as programs that the kernel runs ===== -/
def mm_cb (T : mm_T) (md : mm_M) (i : Nat) (e : mm_E) : Bool := decide (decode md.2.1 e.1 = .ok (e.2.1, e.2.2.1)) && (decide (e.2.2.1 = mm_ln e.2.1 e.2.2.1) && mm_lk T md md.2.2.2.2.2.2 i e.1 e.2.1 e.2.2.2.2.1 e.2.2.2.2.2.1 e.2.2.2.2.2.2.1 e.2.2.2.2.2.2.2.1 e.2.2.2.2.2.2.2.2.1 e.2.2.2.2.2.2.2.2.2)
def mm_cbs (T : mm_T) (md : mm_M) : Nat → List mm_E → Bool
  | _, [] => true
  | i, e :: es => mm_cb T md i e && mm_cbs T md (i + 1) es
theorem mm_cbs_at {T : mm_T} {md : mm_M} : ∀ (es : List mm_E) (i : Nat), mm_cbs T md i es = true → ∀ (j : Nat) (e : mm_E), es[j]? = some e → mm_cb T md (i + j) e = true := by
  intro es
  induction es with
  | nil => intro i h j e hj; simp at hj
  | cons a es ih =>
    intro i h j e hj
    simp only [mm_cbs, Bool.and_eq_true] at h
    match j, hj with
    | 0, hj => simp at hj; subst hj; exact h.1
    | j + 1, hj =>
      have := ih (i + 1) h.2 j e hj
      rw [show i + (j + 1) = i + 1 + j by omega]
      exact this
def mm_mb (T : mm_T) (md : mm_M) : Bool := plainName md.1.cls && (decide (md.1.cls = mm_cn T md.2.2.2.2.1) && (decide (md.2.2.1 ≤ 40) && ((decide (md.1.cls ≠ "java/lang/invoke/MethodHandle") && decide (md.1.cls ≠ "java/lang/invoke/VarHandle")) && (decide (mm_bp md.2.2.2.2.2.2 0 = some 0) && mm_cbs T md 0 md.2.2.2.2.2.2))))
theorem mm_mo_ok {T : mm_T} {md : mm_M} (h : mm_mb T md = true) : mm_mo T md := by
  simp only [mm_mb, Bool.and_eq_true, decide_eq_true_eq] at h
  obtain ⟨h1, h2, h3, h4, h5, h6⟩ := h
  refine ⟨h1, h2, h3, h4, h5, fun i e he => ?_⟩
  have := mm_cbs_at _ _ h6 i e he
  rw [Nat.zero_add] at this
  simp only [mm_cb, Bool.and_eq_true, decide_eq_true_eq] at this
  exact this
def mm_fb (T : mm_T) (q : Nat × Nat × Nat × Nat) : Bool := match (mm_sh T)[q.2.2.1]? with
  | some (0, ci, ks) => (match (mm_cl T)[ci]? with
    | some r => decide (q.2.2.2 < r.2.2) && (decide (ks.length = r.2.2) && (match ks[q.2.2.2]? with
      | some 0 => decide (mm_ty T ci q.2.2.2 = .int) && decide ((r.2.1 q.2.2.2).2.2.2 = false)
      | some 1 => decide (mm_ty T ci q.2.2.2 = .long) && decide ((r.2.1 q.2.2.2).2.2.2 = false)
      | some 2 => decide (mm_ty T ci q.2.2.2 = .boolean) && decide ((r.2.1 q.2.2.2).2.2.2 = false)
      | _ => true))
    | none => false)
  | _ => false
theorem mm_fo_ok {T : mm_T} {q : Nat × Nat × Nat × Nat} (h : mm_fb T q = true) : mm_fo T q := by
  unfold mm_fb at h
  split at h
  · rename_i ci ks h1
    split at h
    · rename_i r h2
      simp only [Bool.and_eq_true, decide_eq_true_eq] at h
      refine ⟨ci, ks, r, h1, h2, h.1, h.2.1, ?_⟩
      have h3 := h.2.2
      split at h3 <;> rename_i hk <;> (try rw [hk]) <;> first | exact ⟨of_decide_eq_true (Bool.and_eq_true _ _ ▸ h3).1, of_decide_eq_true (Bool.and_eq_true _ _ ▸ h3).2⟩ | (split <;> first | trivial | (rename_i h9; exact (hk h9).elim) | simp_all)
    · cases h
  · cases h
def mm_vb (T : mm_T) (q : Nat × Nat × Nat × Nat × Nat) : Bool := match q.2.2.1 with
  | 0 => (match (mm_sh T)[q.2.2.2.2]? with
    | some (0, ci, _) => (match (mm_cl T)[ci]?, (mm_ms T)[q.2.2.2.1]? with
      | some r, some md => decide (r.1 = md.1.cls)
      | _, _ => false)
    | _ => false)
  | _ => true
theorem mm_vo_ok {T : mm_T} {q : Nat × Nat × Nat × Nat × Nat} (h : mm_vb T q = true) : mm_vo T q := by
  intro h0
  unfold mm_vb at h
  split at h
  · split at h
    · rename_i ci ks h1
      split at h
      · rename_i r md h2 h3
        exact ⟨ci, ks, r, md, h1, h2, h3, of_decide_eq_true h⟩
      · cases h
    · cases h
  · rename_i hne
    exact (hne h0).elim
theorem mm_ok_of {T : mm_T} (h1 : ∀ md ∈ mm_ms T, mm_mo T md) (h2 : (mm_FT T).all (mm_fb T) = true) (h3 : (mm_CT T).all (mm_vb T) = true)
    (h4 : ∀ (ci : Nat) (q : vw_C), (mm_cl T)[ci]? = some q → (∀ k, k < q.2.2 → parseFieldDescriptor (q.2.1 k).2.2.1 = some (mm_ty T ci k)) ∧ ∀ a, a < q.2.2 → ∀ b, b < q.2.2 → a ≠ b → (q.2.1 a).2.1 ≠ (q.2.1 b).2.1) (h5 : (mm_tb T).all goodWord = true) : mm_ok T :=
  ⟨fun _ md h => h1 md (List.mem_of_getElem? h), fun q hq => mm_fo_ok (List.all_eq_true.mp h2 q hq), fun q hq => mm_vo_ok (List.all_eq_true.mp h3 q hq), h4, fun w hw => List.all_eq_true.mp h5 w hw⟩
/-- a method begun: its first entry -/
theorem mm_P_in {sh : mm_S} {ms : List mm_M} {m d : Nat} {md : mm_M} (n : Nat) {as : List Value} {I : mm_I} {L : mm_L} {Q : mm_Q} (hm : ms[m]? = some md) (h0 : (mm_sl as).length ≤ md.2.2.1) (h : mm_v sh (mm_P sh ms d) md.2.2.2.2.2.2 Q n 0 (mm_en md.2.2.1 as) [] I L) : mm_P sh ms (d + 1) m as I L Q := by
  unfold mm_P
  rw [hm]
  exact ⟨h0, mm_v_ok (mm_P_le sh ms d).1 n h⟩
/-- words by their places -/
theorem mm_mem {big ws : List Cond} (ps : List Nat) (hp : ws.map some = ps.map (fun i => big[i]?)) : ∀ w ∈ ws, w ∈ big := by
  intro w hw
  have h1 : some w ∈ ws.map some := List.mem_map.mpr ⟨w, hw, rfl⟩
  rw [hp] at h1
  obtain ⟨i, -, hi⟩ := List.mem_map.mp h1
  exact List.mem_of_getElem? hi
theorem mm_tb_in {T : mm_T} {big : List Cond} (hm : ∀ q ∈ mm_ms T, mm_mw q ∈ big) (hf : ∀ q ∈ mm_FT T, mm_fw T q ∈ big) (hc : ∀ q ∈ mm_CT T, ∀ w ∈ mm_cw T q, w ∈ big) (hl : ∀ q ∈ mm_LT T, Cond.constantLong (mm_cn T q.1) q.2.1 (Int64.ofInt q.2.2) ∈ big) (hd : ∀ q ∈ mm_DT T, Cond.constant (mm_cn T q.1) q.2.1 (Int32.ofInt q.2.2) ∈ big)
    (hj : ∀ q ∈ mm_JT T, ∀ w ∈ mm_jw T q, w ∈ big) (hu : ∀ q ∈ mm_cl T, ∀ w ∈ u_ws q.1 q.2.1 q.2.2, w ∈ big) (hg : (mm_tb T).all goodWord = true) : GoodIn big (mm_tb T) := by
  intro w hw
  refine ⟨?_, good_of_word (List.all_eq_true.mp hg w hw)⟩
  unfold mm_tb at hw
  rcases List.mem_append.mp hw with h | hw
  · obtain ⟨q, hq, rfl⟩ := List.mem_map.mp h
    exact hm q hq
  rcases List.mem_append.mp hw with h | hw
  · obtain ⟨q, hq, rfl⟩ := List.mem_map.mp h
    exact hf q hq
  rcases List.mem_append.mp hw with h | hw
  · obtain ⟨q, hq, h⟩ := List.mem_flatMap.mp h
    exact hc q hq w h
  rcases List.mem_append.mp hw with h | hw
  · obtain ⟨q, hq, rfl⟩ := List.mem_map.mp h
    exact hl q hq
  rcases List.mem_append.mp hw with h | hw
  · obtain ⟨q, hq, rfl⟩ := List.mem_map.mp h
    exact hd q hq
  rcases List.mem_append.mp hw with h | h
  · obtain ⟨q, hq, h⟩ := List.mem_flatMap.mp h
    exact hj q hq w h
  · obtain ⟨q, hq, h⟩ := List.mem_flatMap.mp h
    exact hu q hq w h
end
section
/-! ===== rows to rewrite by: the small machine, evaluated ===== -/
/-- the k-th entry of a list, taken -/
def mm_vn (sh : mm_S) (call : mm_C) (tb : List mm_E) (Q : mm_Q) (n : Nat) (es : List mm_E) (k i : Nat) (lo st : List Value) (I : mm_I) (L : mm_L) : Prop := match es[k]? with
  | some (_, ins, _, hd, x, y, u, w, z, ts) => (match hd with
    | true => mm_W sh call tb Q i lo st I L
    | false => mm_st sh call Q (mm_v sh call tb Q n) ins x y u w z ts i lo st I L)
  | none => False
def mm_hn (sh : mm_S) (call : mm_C) (tb : List mm_E) (Q : mm_Q) (n : Nat) (es : List mm_E) (k i : Nat) (lo st : List Value) (I : mm_I) (L : mm_L) : Prop := match es[k]? with
  | some (_, ins, _, _, x, y, u, w, z, ts) => mm_st sh call Q (mm_v sh call tb Q n) ins x y u w z ts i lo st I L
  | none => False
def mm_in2 (call : mm_C) (K : mm_K) (m rk : Nat) (o : Option (List Value × List Value)) (i : Nat) (lo : List Value) (I : mm_I) (L : mm_L) : Prop := match o with
  | some (as, t) => mm_ct t ≤ 8 ∧ call m as I L (fun I' L' ri rl => K (i + 1) lo (mm_push rk ri rl t) I' L')
  | none => False
def mm_rc2 (w : Nat) (o : Option (List Value × List Value)) : Prop := match o with
  | some (.ref r :: _, _) => r = w
  | _ => False
end
section
/-! ===== names: the skeleton's PART A, then what the TURN printed of the program (classes, fields, methods) ===== -/
-- ===== PART A: goes FIRST, ahead of the names: the tables' words, and 'selects' of the private methods out of them =====
/-- a private method of a class that the tables say can be made, by its rows of tables_1 -/
def lw_okq (q : MethodName × Nat) : Prop := (q.1.cls ≠ "java/lang/invoke/MethodHandle" ∧ q.1.cls ≠ "java/lang/invoke/VarHandle") ∧ Cond.instantiable q.1.cls q.2 ∈ tables_1 ∧ Cond.privateMethod q.1 ∈ tables_1 ∧ Cond.instanceMethod q.1 ∈ tables_1
theorem lw_p0 : lw_okq (⟨"ToldScenes", "forgetBest", "()V"⟩, 9) := ⟨⟨by decide +kernel, by decide +kernel⟩, List.mem_of_getElem? (i := 12) (by decide +kernel), List.mem_of_getElem? (i := 225) (by decide +kernel), List.mem_of_getElem? (i := 226) (by decide +kernel)⟩
theorem lw_p1 : lw_okq (⟨"ToldScenes$Cast", "isFirstToEnd", "(I)Z"⟩, 5) := ⟨⟨by decide +kernel, by decide +kernel⟩, List.mem_of_getElem? (i := 20) (by decide +kernel), List.mem_of_getElem? (i := 319) (by decide +kernel), List.mem_of_getElem? (i := 320) (by decide +kernel)⟩
theorem lw_p2 : lw_okq (⟨"ToldScenes$Cast", "gapBehind", "(J)J"⟩, 5) := ⟨⟨by decide +kernel, by decide +kernel⟩, List.mem_of_getElem? (i := 20) (by decide +kernel), List.mem_of_getElem? (i := 323) (by decide +kernel), List.mem_of_getElem? (i := 324) (by decide +kernel)⟩
theorem lw_p3 : lw_okq (⟨"ToldScenes$Look", "begin", "()V"⟩, 15) := ⟨⟨by decide +kernel, by decide +kernel⟩, List.mem_of_getElem? (i := 51) (by decide +kernel), List.mem_of_getElem? (i := 343) (by decide +kernel), List.mem_of_getElem? (i := 344) (by decide +kernel)⟩
theorem lw_p4 : lw_okq (⟨"ToldScenes$Look", "whyWrong", "(LToldScenes$Cast;I)I"⟩, 15) := ⟨⟨by decide +kernel, by decide +kernel⟩, List.mem_of_getElem? (i := 51) (by decide +kernel), List.mem_of_getElem? (i := 350) (by decide +kernel), List.mem_of_getElem? (i := 351) (by decide +kernel)⟩
theorem lw_p5 : lw_okq (⟨"ToldScenes$Look", "isOnSide", "(LToldScenes$Cast;I)Z"⟩, 15) := ⟨⟨by decide +kernel, by decide +kernel⟩, List.mem_of_getElem? (i := 51) (by decide +kernel), List.mem_of_getElem? (i := 359) (by decide +kernel), List.mem_of_getElem? (i := 360) (by decide +kernel)⟩
theorem lw_p6 : lw_okq (⟨"ToldScenes$Look", "take", "(LToldScenes$Cast;I)V"⟩, 15) := ⟨⟨by decide +kernel, by decide +kernel⟩, List.mem_of_getElem? (i := 51) (by decide +kernel), List.mem_of_getElem? (i := 367) (by decide +kernel), List.mem_of_getElem? (i := 368) (by decide +kernel)⟩
theorem lw_p7 : lw_okq (⟨"ToldScenes$Look", "openFrame", "()V"⟩, 15) := ⟨⟨by decide +kernel, by decide +kernel⟩, List.mem_of_getElem? (i := 51) (by decide +kernel), List.mem_of_getElem? (i := 371) (by decide +kernel), List.mem_of_getElem? (i := 372) (by decide +kernel)⟩
theorem lw_p8 : lw_okq (⟨"ToldScenes$Look", "closeFrame", "()V"⟩, 15) := ⟨⟨by decide +kernel, by decide +kernel⟩, List.mem_of_getElem? (i := 51) (by decide +kernel), List.mem_of_getElem? (i := 378) (by decide +kernel), List.mem_of_getElem? (i := 379) (by decide +kernel)⟩
theorem lw_p9 : lw_okq (⟨"ToldScenes$Look", "tell", "(LToldScenes$Cast;I)V"⟩, 15) := ⟨⟨by decide +kernel, by decide +kernel⟩, List.mem_of_getElem? (i := 51) (by decide +kernel), List.mem_of_getElem? (i := 382) (by decide +kernel), List.mem_of_getElem? (i := 383) (by decide +kernel)⟩
theorem lw_p10 : lw_okq (⟨"ToldScenes$LeastOrder", "fillRest", "(LToldScenes$Cast;II)V"⟩, 5) := ⟨⟨by decide +kernel, by decide +kernel⟩, List.mem_of_getElem? (i := 114) (by decide +kernel), List.mem_of_getElem? (i := 415) (by decide +kernel), List.mem_of_getElem? (i := 416) (by decide +kernel)⟩
theorem lw_p11 : lw_okq (⟨"ToldScenes$LeastOrder", "nextBehind", "(LToldScenes$Cast;III)I"⟩, 5) := ⟨⟨by decide +kernel, by decide +kernel⟩, List.mem_of_getElem? (i := 114) (by decide +kernel), List.mem_of_getElem? (i := 429) (by decide +kernel), List.mem_of_getElem? (i := 430) (by decide +kernel)⟩
theorem lw_p12 : lw_okq (⟨"ToldScenes$LeastOrder", "restBy", "(LToldScenes$Cast;III)J"⟩, 5) := ⟨⟨by decide +kernel, by decide +kernel⟩, List.mem_of_getElem? (i := 114) (by decide +kernel), List.mem_of_getElem? (i := 434) (by decide +kernel), List.mem_of_getElem? (i := 435) (by decide +kernel)⟩
theorem lw_p13 : lw_okq (⟨"ToldScenes$LeastOrder", "follow", "(LToldScenes$Cast;)V"⟩, 5) := ⟨⟨by decide +kernel, by decide +kernel⟩, List.mem_of_getElem? (i := 114) (by decide +kernel), List.mem_of_getElem? (i := 439) (by decide +kernel), List.mem_of_getElem? (i := 440) (by decide +kernel)⟩
theorem lw_p14 : lw_okq (⟨"ToldScenes", "findFrames", "()V"⟩, 9) := ⟨⟨by decide +kernel, by decide +kernel⟩, List.mem_of_getElem? (i := 12) (by decide +kernel), List.mem_of_getElem? (i := 447) (by decide +kernel), List.mem_of_getElem? (i := 448) (by decide +kernel)⟩
theorem lw_p15 : lw_okq (⟨"ToldScenes", "writeRow", "()I"⟩, 9) := ⟨⟨by decide +kernel, by decide +kernel⟩, List.mem_of_getElem? (i := 12) (by decide +kernel), List.mem_of_getElem? (i := 451) (by decide +kernel), List.mem_of_getElem? (i := 452) (by decide +kernel)⟩
def lw_privs_1 : List (MethodName × Nat) := [(⟨"ToldScenes", "forgetBest", "()V"⟩, 9), (⟨"ToldScenes$Cast", "isFirstToEnd", "(I)Z"⟩, 5), (⟨"ToldScenes$Cast", "gapBehind", "(J)J"⟩, 5), (⟨"ToldScenes$Look", "begin", "()V"⟩, 15), (⟨"ToldScenes$Look", "whyWrong", "(LToldScenes$Cast;I)I"⟩, 15), (⟨"ToldScenes$Look", "isOnSide", "(LToldScenes$Cast;I)Z"⟩, 15), (⟨"ToldScenes$Look", "take", "(LToldScenes$Cast;I)V"⟩, 15), (⟨"ToldScenes$Look", "openFrame", "()V"⟩, 15), (⟨"ToldScenes$Look", "closeFrame", "()V"⟩, 15), (⟨"ToldScenes$Look", "tell", "(LToldScenes$Cast;I)V"⟩, 15), (⟨"ToldScenes$LeastOrder", "fillRest", "(LToldScenes$Cast;II)V"⟩, 5), (⟨"ToldScenes$LeastOrder", "nextBehind", "(LToldScenes$Cast;III)I"⟩, 5), (⟨"ToldScenes$LeastOrder", "restBy", "(LToldScenes$Cast;III)J"⟩, 5), (⟨"ToldScenes$LeastOrder", "follow", "(LToldScenes$Cast;)V"⟩, 5), (⟨"ToldScenes", "findFrames", "()V"⟩, 9), (⟨"ToldScenes", "writeRow", "()I"⟩, 9)]
theorem lw_r1 : ∀ q ∈ lw_privs_1, lw_okq q := List.forall_mem_cons.mpr ⟨lw_p0, List.forall_mem_cons.mpr ⟨lw_p1, List.forall_mem_cons.mpr ⟨lw_p2, List.forall_mem_cons.mpr ⟨lw_p3, List.forall_mem_cons.mpr ⟨lw_p4, List.forall_mem_cons.mpr ⟨lw_p5, List.forall_mem_cons.mpr ⟨lw_p6, List.forall_mem_cons.mpr ⟨lw_p7, List.forall_mem_cons.mpr ⟨lw_p8, List.forall_mem_cons.mpr ⟨lw_p9, List.forall_mem_cons.mpr ⟨lw_p10, List.forall_mem_cons.mpr ⟨lw_p11, List.forall_mem_cons.mpr ⟨lw_p12, List.forall_mem_cons.mpr ⟨lw_p13, List.forall_mem_cons.mpr ⟨lw_p14, List.forall_mem_cons.mpr ⟨lw_p15, fun _ h => absurd h List.not_mem_nil⟩⟩⟩⟩⟩⟩⟩⟩⟩⟩⟩⟩⟩⟩⟩⟩
theorem lw_p16 : lw_okq (⟨"ToldScenes$LeastFrames", "takeRow", "(LToldScenes$Cast;[II)V"⟩, 11) := ⟨⟨by decide +kernel, by decide +kernel⟩, List.mem_of_getElem? (i := 141) (by decide +kernel), List.mem_of_getElem? (i := 460) (by decide +kernel), List.mem_of_getElem? (i := 461) (by decide +kernel)⟩
theorem lw_p17 : lw_okq (⟨"ToldScenes$LeastFrames", "setFrom", "(LToldScenes$Cast;IIJI)V"⟩, 11) := ⟨⟨by decide +kernel, by decide +kernel⟩, List.mem_of_getElem? (i := 141) (by decide +kernel), List.mem_of_getElem? (i := 465) (by decide +kernel), List.mem_of_getElem? (i := 466) (by decide +kernel)⟩
theorem lw_p18 : lw_okq (⟨"ToldScenes$LeastFrames", "keep", "(IJI)V"⟩, 11) := ⟨⟨by decide +kernel, by decide +kernel⟩, List.mem_of_getElem? (i := 141) (by decide +kernel), List.mem_of_getElem? (i := 469) (by decide +kernel), List.mem_of_getElem? (i := 470) (by decide +kernel)⟩
theorem lw_p19 : lw_okq (⟨"ToldScenes$LeastFrames", "closeAll", "()V"⟩, 11) := ⟨⟨by decide +kernel, by decide +kernel⟩, List.mem_of_getElem? (i := 141) (by decide +kernel), List.mem_of_getElem? (i := 476) (by decide +kernel), List.mem_of_getElem? (i := 477) (by decide +kernel)⟩
theorem lw_p20 : lw_okq (⟨"ToldScenes$LeastFrames", "setBeside", "(LToldScenes$Cast;IIIJI)V"⟩, 11) := ⟨⟨by decide +kernel, by decide +kernel⟩, List.mem_of_getElem? (i := 141) (by decide +kernel), List.mem_of_getElem? (i := 480) (by decide +kernel), List.mem_of_getElem? (i := 481) (by decide +kernel)⟩
theorem lw_p21 : lw_okq (⟨"ToldScenes$LeastFrames", "setWithin", "(LToldScenes$Cast;IIIJI)V"⟩, 11) := ⟨⟨by decide +kernel, by decide +kernel⟩, List.mem_of_getElem? (i := 141) (by decide +kernel), List.mem_of_getElem? (i := 486) (by decide +kernel), List.mem_of_getElem? (i := 487) (by decide +kernel)⟩
theorem lw_p22 : lw_okq (⟨"ToldScenes", "changePlaces", "(I)V"⟩, 9) := ⟨⟨by decide +kernel, by decide +kernel⟩, List.mem_of_getElem? (i := 12) (by decide +kernel), List.mem_of_getElem? (i := 494) (by decide +kernel), List.mem_of_getElem? (i := 495) (by decide +kernel)⟩
theorem lw_p23 : lw_okq (⟨"ToldScenesModel", "isScene", "(I)Z"⟩, 34) := ⟨⟨by decide +kernel, by decide +kernel⟩, List.mem_of_getElem? (i := 514) (by decide +kernel), List.mem_of_getElem? (i := 639) (by decide +kernel), List.mem_of_getElem? (i := 640) (by decide +kernel)⟩
theorem lw_p24 : lw_okq (⟨"ToldScenesModel", "endOf", "(I)J"⟩, 34) := ⟨⟨by decide +kernel, by decide +kernel⟩, List.mem_of_getElem? (i := 514) (by decide +kernel), List.mem_of_getElem? (i := 644) (by decide +kernel), List.mem_of_getElem? (i := 645) (by decide +kernel)⟩
theorem lw_p25 : lw_okq (⟨"ToldScenesModel", "mayMove", "(II)Z"⟩, 34) := ⟨⟨by decide +kernel, by decide +kernel⟩, List.mem_of_getElem? (i := 514) (by decide +kernel), List.mem_of_getElem? (i := 652) (by decide +kernel), List.mem_of_getElem? (i := 653) (by decide +kernel)⟩
theorem lw_p26 : lw_okq (⟨"ToldScenesModel", "setOf", "(II)I"⟩, 34) := ⟨⟨by decide +kernel, by decide +kernel⟩, List.mem_of_getElem? (i := 514) (by decide +kernel), List.mem_of_getElem? (i := 675) (by decide +kernel), List.mem_of_getElem? (i := 676) (by decide +kernel)⟩
theorem lw_p27 : lw_okq (⟨"ToldScenesModel", "jumpOf", "(II)J"⟩, 34) := ⟨⟨by decide +kernel, by decide +kernel⟩, List.mem_of_getElem? (i := 514) (by decide +kernel), List.mem_of_getElem? (i := 692) (by decide +kernel), List.mem_of_getElem? (i := 693) (by decide +kernel)⟩
theorem lw_p28 : lw_okq (⟨"ToldScenesModel", "lastEnd", "()J"⟩, 34) := ⟨⟨by decide +kernel, by decide +kernel⟩, List.mem_of_getElem? (i := 514) (by decide +kernel), List.mem_of_getElem? (i := 700) (by decide +kernel), List.mem_of_getElem? (i := 701) (by decide +kernel)⟩
theorem lw_p29 : lw_okq (⟨"ToldScenesModel", "firstFrom", "()J"⟩, 34) := ⟨⟨by decide +kernel, by decide +kernel⟩, List.mem_of_getElem? (i := 514) (by decide +kernel), List.mem_of_getElem? (i := 704) (by decide +kernel), List.mem_of_getElem? (i := 705) (by decide +kernel)⟩
theorem lw_p30 : lw_okq (⟨"ToldScenesModel", "gaps", "()J"⟩, 34) := ⟨⟨by decide +kernel, by decide +kernel⟩, List.mem_of_getElem? (i := 514) (by decide +kernel), List.mem_of_getElem? (i := 708) (by decide +kernel), List.mem_of_getElem? (i := 709) (by decide +kernel)⟩
theorem lw_p31 : lw_okq (⟨"ToldScenesModel", "toldTo", "(J)J"⟩, 34) := ⟨⟨by decide +kernel, by decide +kernel⟩, List.mem_of_getElem? (i := 514) (by decide +kernel), List.mem_of_getElem? (i := 712) (by decide +kernel), List.mem_of_getElem? (i := 713) (by decide +kernel)⟩
def lw_privs_2 : List (MethodName × Nat) := [(⟨"ToldScenes$LeastFrames", "takeRow", "(LToldScenes$Cast;[II)V"⟩, 11), (⟨"ToldScenes$LeastFrames", "setFrom", "(LToldScenes$Cast;IIJI)V"⟩, 11), (⟨"ToldScenes$LeastFrames", "keep", "(IJI)V"⟩, 11), (⟨"ToldScenes$LeastFrames", "closeAll", "()V"⟩, 11), (⟨"ToldScenes$LeastFrames", "setBeside", "(LToldScenes$Cast;IIIJI)V"⟩, 11), (⟨"ToldScenes$LeastFrames", "setWithin", "(LToldScenes$Cast;IIIJI)V"⟩, 11), (⟨"ToldScenes", "changePlaces", "(I)V"⟩, 9), (⟨"ToldScenesModel", "isScene", "(I)Z"⟩, 34), (⟨"ToldScenesModel", "endOf", "(I)J"⟩, 34), (⟨"ToldScenesModel", "mayMove", "(II)Z"⟩, 34), (⟨"ToldScenesModel", "setOf", "(II)I"⟩, 34), (⟨"ToldScenesModel", "jumpOf", "(II)J"⟩, 34), (⟨"ToldScenesModel", "lastEnd", "()J"⟩, 34), (⟨"ToldScenesModel", "firstFrom", "()J"⟩, 34), (⟨"ToldScenesModel", "gaps", "()J"⟩, 34), (⟨"ToldScenesModel", "toldTo", "(J)J"⟩, 34)]
theorem lw_r2 : ∀ q ∈ lw_privs_2, lw_okq q := List.forall_mem_cons.mpr ⟨lw_p16, List.forall_mem_cons.mpr ⟨lw_p17, List.forall_mem_cons.mpr ⟨lw_p18, List.forall_mem_cons.mpr ⟨lw_p19, List.forall_mem_cons.mpr ⟨lw_p20, List.forall_mem_cons.mpr ⟨lw_p21, List.forall_mem_cons.mpr ⟨lw_p22, List.forall_mem_cons.mpr ⟨lw_p23, List.forall_mem_cons.mpr ⟨lw_p24, List.forall_mem_cons.mpr ⟨lw_p25, List.forall_mem_cons.mpr ⟨lw_p26, List.forall_mem_cons.mpr ⟨lw_p27, List.forall_mem_cons.mpr ⟨lw_p28, List.forall_mem_cons.mpr ⟨lw_p29, List.forall_mem_cons.mpr ⟨lw_p30, List.forall_mem_cons.mpr ⟨lw_p31, fun _ h => absurd h List.not_mem_nil⟩⟩⟩⟩⟩⟩⟩⟩⟩⟩⟩⟩⟩⟩⟩⟩
theorem lw_p32 : lw_okq (⟨"ToldScenesModel", "nextFrom", "(J)J"⟩, 34) := ⟨⟨by decide +kernel, by decide +kernel⟩, List.mem_of_getElem? (i := 514) (by decide +kernel), List.mem_of_getElem? (i := 716) (by decide +kernel), List.mem_of_getElem? (i := 717) (by decide +kernel)⟩
theorem lw_p33 : lw_okq (⟨"ToldScenesModel", "looksNow", "()V"⟩, 34) := ⟨⟨by decide +kernel, by decide +kernel⟩, List.mem_of_getElem? (i := 514) (by decide +kernel), List.mem_of_getElem? (i := 732) (by decide +kernel), List.mem_of_getElem? (i := 733) (by decide +kernel)⟩
theorem lw_p34 : lw_okq (⟨"ToldScenesModel", "looks", "([II)V"⟩, 34) := ⟨⟨by decide +kernel, by decide +kernel⟩, List.mem_of_getElem? (i := 514) (by decide +kernel), List.mem_of_getElem? (i := 736) (by decide +kernel), List.mem_of_getElem? (i := 737) (by decide +kernel)⟩
theorem lw_p35 : lw_okq (⟨"ToldScenesModel", "reasonOf", "(I)I"⟩, 34) := ⟨⟨by decide +kernel, by decide +kernel⟩, List.mem_of_getElem? (i := 514) (by decide +kernel), List.mem_of_getElem? (i := 740) (by decide +kernel), List.mem_of_getElem? (i := 741) (by decide +kernel)⟩
theorem lw_p36 : lw_okq (⟨"ToldScenesModel", "reasonOfScene", "(I)I"⟩, 34) := ⟨⟨by decide +kernel, by decide +kernel⟩, List.mem_of_getElem? (i := 514) (by decide +kernel), List.mem_of_getElem? (i := 744) (by decide +kernel), List.mem_of_getElem? (i := 745) (by decide +kernel)⟩
theorem lw_p37 : lw_okq (⟨"ToldScenesModel", "isOnSide", "(I)Z"⟩, 34) := ⟨⟨by decide +kernel, by decide +kernel⟩, List.mem_of_getElem? (i := 514) (by decide +kernel), List.mem_of_getElem? (i := 748) (by decide +kernel), List.mem_of_getElem? (i := 749) (by decide +kernel)⟩
theorem lw_p38 : lw_okq (⟨"ToldScenesModel", "sideBy", "(II)I"⟩, 34) := ⟨⟨by decide +kernel, by decide +kernel⟩, List.mem_of_getElem? (i := 514) (by decide +kernel), List.mem_of_getElem? (i := 752) (by decide +kernel), List.mem_of_getElem? (i := 753) (by decide +kernel)⟩
theorem lw_p39 : lw_okq (⟨"ToldScenesModel", "goesOn", "(I)V"⟩, 34) := ⟨⟨by decide +kernel, by decide +kernel⟩, List.mem_of_getElem? (i := 514) (by decide +kernel), List.mem_of_getElem? (i := 756) (by decide +kernel), List.mem_of_getElem? (i := 757) (by decide +kernel)⟩
theorem lw_p40 : lw_okq (⟨"ToldScenesModel", "opens", "()V"⟩, 34) := ⟨⟨by decide +kernel, by decide +kernel⟩, List.mem_of_getElem? (i := 514) (by decide +kernel), List.mem_of_getElem? (i := 760) (by decide +kernel), List.mem_of_getElem? (i := 761) (by decide +kernel)⟩
theorem lw_p41 : lw_okq (⟨"ToldScenesModel", "tells", "(I)V"⟩, 34) := ⟨⟨by decide +kernel, by decide +kernel⟩, List.mem_of_getElem? (i := 514) (by decide +kernel), List.mem_of_getElem? (i := 764) (by decide +kernel), List.mem_of_getElem? (i := 765) (by decide +kernel)⟩
theorem lw_p42 : lw_okq (⟨"ToldScenesModel", "findOrder", "()J"⟩, 34) := ⟨⟨by decide +kernel, by decide +kernel⟩, List.mem_of_getElem? (i := 514) (by decide +kernel), List.mem_of_getElem? (i := 783) (by decide +kernel), List.mem_of_getElem? (i := 784) (by decide +kernel)⟩
theorem lw_p43 : lw_okq (⟨"ToldScenesModel", "findRest", "()V"⟩, 34) := ⟨⟨by decide +kernel, by decide +kernel⟩, List.mem_of_getElem? (i := 514) (by decide +kernel), List.mem_of_getElem? (i := 787) (by decide +kernel), List.mem_of_getElem? (i := 788) (by decide +kernel)⟩
theorem lw_p44 : lw_okq (⟨"ToldScenesModel", "mayCome", "(II)Z"⟩, 34) := ⟨⟨by decide +kernel, by decide +kernel⟩, List.mem_of_getElem? (i := 514) (by decide +kernel), List.mem_of_getElem? (i := 792) (by decide +kernel), List.mem_of_getElem? (i := 793) (by decide +kernel)⟩
theorem lw_p45 : lw_okq (⟨"ToldScenesModel", "byNext", "(III)J"⟩, 34) := ⟨⟨by decide +kernel, by decide +kernel⟩, List.mem_of_getElem? (i := 514) (by decide +kernel), List.mem_of_getElem? (i := 796) (by decide +kernel), List.mem_of_getElem? (i := 797) (by decide +kernel)⟩
theorem lw_p46 : lw_okq (⟨"ToldScenesModel", "findRow", "()V"⟩, 34) := ⟨⟨by decide +kernel, by decide +kernel⟩, List.mem_of_getElem? (i := 514) (by decide +kernel), List.mem_of_getElem? (i := 804) (by decide +kernel), List.mem_of_getElem? (i := 805) (by decide +kernel)⟩
theorem lw_p47 : lw_okq (⟨"ToldScenesModel", "findFramed", "()J"⟩, 34) := ⟨⟨by decide +kernel, by decide +kernel⟩, List.mem_of_getElem? (i := 514) (by decide +kernel), List.mem_of_getElem? (i := 808) (by decide +kernel), List.mem_of_getElem? (i := 809) (by decide +kernel)⟩
def lw_privs_3 : List (MethodName × Nat) := [(⟨"ToldScenesModel", "nextFrom", "(J)J"⟩, 34), (⟨"ToldScenesModel", "looksNow", "()V"⟩, 34), (⟨"ToldScenesModel", "looks", "([II)V"⟩, 34), (⟨"ToldScenesModel", "reasonOf", "(I)I"⟩, 34), (⟨"ToldScenesModel", "reasonOfScene", "(I)I"⟩, 34), (⟨"ToldScenesModel", "isOnSide", "(I)Z"⟩, 34), (⟨"ToldScenesModel", "sideBy", "(II)I"⟩, 34), (⟨"ToldScenesModel", "goesOn", "(I)V"⟩, 34), (⟨"ToldScenesModel", "opens", "()V"⟩, 34), (⟨"ToldScenesModel", "tells", "(I)V"⟩, 34), (⟨"ToldScenesModel", "findOrder", "()J"⟩, 34), (⟨"ToldScenesModel", "findRest", "()V"⟩, 34), (⟨"ToldScenesModel", "mayCome", "(II)Z"⟩, 34), (⟨"ToldScenesModel", "byNext", "(III)J"⟩, 34), (⟨"ToldScenesModel", "findRow", "()V"⟩, 34), (⟨"ToldScenesModel", "findFramed", "()J"⟩, 34)]
theorem lw_r3 : ∀ q ∈ lw_privs_3, lw_okq q := List.forall_mem_cons.mpr ⟨lw_p32, List.forall_mem_cons.mpr ⟨lw_p33, List.forall_mem_cons.mpr ⟨lw_p34, List.forall_mem_cons.mpr ⟨lw_p35, List.forall_mem_cons.mpr ⟨lw_p36, List.forall_mem_cons.mpr ⟨lw_p37, List.forall_mem_cons.mpr ⟨lw_p38, List.forall_mem_cons.mpr ⟨lw_p39, List.forall_mem_cons.mpr ⟨lw_p40, List.forall_mem_cons.mpr ⟨lw_p41, List.forall_mem_cons.mpr ⟨lw_p42, List.forall_mem_cons.mpr ⟨lw_p43, List.forall_mem_cons.mpr ⟨lw_p44, List.forall_mem_cons.mpr ⟨lw_p45, List.forall_mem_cons.mpr ⟨lw_p46, List.forall_mem_cons.mpr ⟨lw_p47, fun _ h => absurd h List.not_mem_nil⟩⟩⟩⟩⟩⟩⟩⟩⟩⟩⟩⟩⟩⟩⟩⟩
theorem lw_p48 : lw_okq (⟨"ToldScenesModel", "makes", "()V"⟩, 34) := ⟨⟨by decide +kernel, by decide +kernel⟩, List.mem_of_getElem? (i := 514) (by decide +kernel), List.mem_of_getElem? (i := 812) (by decide +kernel), List.mem_of_getElem? (i := 813) (by decide +kernel)⟩
theorem lw_p49 : lw_okq (⟨"ToldScenesModel", "puts", "(I)V"⟩, 34) := ⟨⟨by decide +kernel, by decide +kernel⟩, List.mem_of_getElem? (i := 514) (by decide +kernel), List.mem_of_getElem? (i := 816) (by decide +kernel), List.mem_of_getElem? (i := 817) (by decide +kernel)⟩
theorem lw_p50 : lw_okq (⟨"ToldScenesModel", "keeps", "()V"⟩, 34) := ⟨⟨by decide +kernel, by decide +kernel⟩, List.mem_of_getElem? (i := 514) (by decide +kernel), List.mem_of_getElem? (i := 820) (by decide +kernel), List.mem_of_getElem? (i := 821) (by decide +kernel)⟩
theorem lw_p51 : lw_okq (⟨"ToldScenesModel", "goesNext", "()Z"⟩, 34) := ⟨⟨by decide +kernel, by decide +kernel⟩, List.mem_of_getElem? (i := 514) (by decide +kernel), List.mem_of_getElem? (i := 824) (by decide +kernel), List.mem_of_getElem? (i := 825) (by decide +kernel)⟩
theorem lw_p52 : lw_okq (⟨"ToldScenesModel", "depthAt", "(I)I"⟩, 34) := ⟨⟨by decide +kernel, by decide +kernel⟩, List.mem_of_getElem? (i := 514) (by decide +kernel), List.mem_of_getElem? (i := 828) (by decide +kernel), List.mem_of_getElem? (i := 829) (by decide +kernel)⟩
theorem lw_p53 : lw_okq (⟨"ToldScenesModel", "changes", "(I)V"⟩, 34) := ⟨⟨by decide +kernel, by decide +kernel⟩, List.mem_of_getElem? (i := 514) (by decide +kernel), List.mem_of_getElem? (i := 836) (by decide +kernel), List.mem_of_getElem? (i := 837) (by decide +kernel)⟩
theorem lw_p54 : lw_okq (⟨"ToldScenesModel", "manyOpen", "()I"⟩, 34) := ⟨⟨by decide +kernel, by decide +kernel⟩, List.mem_of_getElem? (i := 514) (by decide +kernel), List.mem_of_getElem? (i := 844) (by decide +kernel), List.mem_of_getElem? (i := 845) (by decide +kernel)⟩
def lw_privs_4 : List (MethodName × Nat) := [(⟨"ToldScenesModel", "makes", "()V"⟩, 34), (⟨"ToldScenesModel", "puts", "(I)V"⟩, 34), (⟨"ToldScenesModel", "keeps", "()V"⟩, 34), (⟨"ToldScenesModel", "goesNext", "()Z"⟩, 34), (⟨"ToldScenesModel", "depthAt", "(I)I"⟩, 34), (⟨"ToldScenesModel", "changes", "(I)V"⟩, 34), (⟨"ToldScenesModel", "manyOpen", "()I"⟩, 34)]
theorem lw_r4 : ∀ q ∈ lw_privs_4, lw_okq q := List.forall_mem_cons.mpr ⟨lw_p48, List.forall_mem_cons.mpr ⟨lw_p49, List.forall_mem_cons.mpr ⟨lw_p50, List.forall_mem_cons.mpr ⟨lw_p51, List.forall_mem_cons.mpr ⟨lw_p52, List.forall_mem_cons.mpr ⟨lw_p53, List.forall_mem_cons.mpr ⟨lw_p54, fun _ h => absurd h List.not_mem_nil⟩⟩⟩⟩⟩⟩⟩
def lw_privs : List (MethodName × Nat) := lw_privs_1 ++ (lw_privs_2 ++ (lw_privs_3 ++ (lw_privs_4)))
def lw_tbl : List Cond := k2_sels lw_privs ++ tables_1
theorem lw_privs_ok : ∀ q ∈ lw_privs, lw_okq q := by
  show ∀ q ∈ lw_privs_1 ++ (lw_privs_2 ++ (lw_privs_3 ++ (lw_privs_4))), lw_okq q
  exact List.forall_mem_append.mpr ⟨lw_r1, List.forall_mem_append.mpr ⟨lw_r2, List.forall_mem_append.mpr ⟨lw_r3, lw_r4⟩⟩⟩
def RX0 : String := "ToldScenes$Cast"
def TX0 : u_T := fun k => match k with
  | 0 => ("ToldScenes$Cast", "from", "[I", true)
  | 1 => ("ToldScenes$Cast", "length", "[I", true)
  | 2 => ("ToldScenes$Cast", "gives", "[I", true)
  | 3 => ("ToldScenes$Cast", "needs", "[I", true)
  | _ => ("ToldScenes$Cast", "count", "I", false)
def tyX0 : Nat → FieldType := fun k => match k with
  | 0 => .array .int
  | 1 => .array .int
  | 2 => .array .int
  | 3 => .array .int
  | _ => .int
abbrev wsX00 : List Cond := u_ws RX0 TX0 5
theorem nmX0 : ∀ a, a < 5 → ∀ b, b < 5 → a ≠ b → (TX0 a).2.1 ≠ (TX0 b).2.1 := by decide +kernel
theorem tyX0_ok : ∀ k, k < 5 → parseFieldDescriptor (TX0 k).2.2.1 = some (tyX0 k) := by decide +kernel
abbrev cX0_init : ByteArray := prog_2_method_1_code
def yX0_init : MethodName := ⟨RX0, "<init>", "()V"⟩
abbrev cX0_has : ByteArray := prog_2_method_2_code
def yX0_has : MethodName := ⟨RX0, "has", "(I)Z"⟩
abbrev cX0_append : ByteArray := prog_2_method_3_code
def yX0_append : MethodName := ⟨RX0, "append", "(IIII)I"⟩
abbrev cX0_endOf : ByteArray := prog_2_method_4_code
def yX0_endOf : MethodName := ⟨RX0, "endOf", "(I)J"⟩
abbrev cX0_canMove : ByteArray := prog_2_method_5_code
def yX0_canMove : MethodName := ⟨RX0, "canMove", "(II)Z"⟩
abbrev cX0_jumpBetween : ByteArray := prog_2_method_6_code
def yX0_jumpBetween : MethodName := ⟨RX0, "jumpBetween", "(II)J"⟩
abbrev cX0_sideBy : ByteArray := prog_2_method_7_code
def yX0_sideBy : MethodName := ⟨RX0, "sideBy", "(II)I"⟩
abbrev cX0_everyone : ByteArray := prog_2_method_8_code
def yX0_everyone : MethodName := ⟨RX0, "everyone", "()I"⟩
abbrev cX0_givenBy : ByteArray := prog_2_method_9_code
def yX0_givenBy : MethodName := ⟨RX0, "givenBy", "(I)I"⟩
abbrev cX0_allNeeds : ByteArray := prog_2_method_10_code
def yX0_allNeeds : MethodName := ⟨RX0, "allNeeds", "()I"⟩
abbrev cX0_readyAfter : ByteArray := prog_2_method_11_code
def yX0_readyAfter : MethodName := ⟨RX0, "readyAfter", "(I)I"⟩
abbrev cX0_extent : ByteArray := prog_2_method_12_code
def yX0_extent : MethodName := ⟨RX0, "extent", "()J"⟩
abbrev cX0_untold : ByteArray := prog_2_method_13_code
def yX0_untold : MethodName := ⟨RX0, "untold", "()J"⟩
abbrev cX0_isFirstToEnd : ByteArray := prog_2_method_14_code
def yX0_isFirstToEnd : MethodName := ⟨RX0, "isFirstToEnd", "(I)Z"⟩
abbrev cX0_gapBehind : ByteArray := prog_2_method_15_code
def yX0_gapBehind : MethodName := ⟨RX0, "gapBehind", "(J)J"⟩
def RX1 : String := "ToldScenes$LeastFrames"
def TX1 : u_T := fun k => match k with
  | 0 => ("ToldScenes$LeastFrames", "row", "[I", true)
  | 1 => ("ToldScenes$LeastFrames", "rowCount", "I", false)
  | 2 => ("ToldScenes$LeastFrames", "tellerOf", "[I", true)
  | 3 => ("ToldScenes$LeastFrames", "sideOf", "[I", true)
  | 4 => ("ToldScenes$LeastFrames", "trial", "[I", true)
  | 5 => ("ToldScenes$LeastFrames", "feeOfOne", "I", false)
  | 6 => ("ToldScenes$LeastFrames", "frameCount", "I", false)
  | 7 => ("ToldScenes$LeastFrames", "signs", "[I", true)
  | 8 => ("ToldScenes$LeastFrames", "count", "I", false)
  | 9 => ("ToldScenes$LeastFrames", "jumpSum", "J", false)
  | _ => ("ToldScenes$LeastFrames", "stands", "Z", false)
def tyX1 : Nat → FieldType := fun k => match k with
  | 0 => .array .int
  | 1 => .int
  | 2 => .array .int
  | 3 => .array .int
  | 4 => .array .int
  | 5 => .int
  | 6 => .int
  | 7 => .array .int
  | 8 => .int
  | 9 => .long
  | _ => .boolean
abbrev wsX10 : List Cond := u_ws RX1 TX1 11
theorem nmX1 : ∀ a, a < 11 → ∀ b, b < 11 → a ≠ b → (TX1 a).2.1 ≠ (TX1 b).2.1 := by decide +kernel
theorem tyX1_ok : ∀ k, k < 11 → parseFieldDescriptor (TX1 k).2.2.1 = some (tyX1 k) := by decide +kernel
abbrev cX1_init : ByteArray := prog_3_method_1_code
def yX1_init : MethodName := ⟨RX1, "<init>", "()V"⟩
abbrev cX1_find : ByteArray := prog_3_method_2_code
def yX1_find : MethodName := ⟨RX1, "find", "(LToldScenes$Cast;[III)V"⟩
abbrev cX1_takeRow : ByteArray := prog_3_method_3_code
def yX1_takeRow : MethodName := ⟨RX1, "takeRow", "(LToldScenes$Cast;[II)V"⟩
abbrev cX1_setFrom : ByteArray := prog_3_method_4_code
def yX1_setFrom : MethodName := ⟨RX1, "setFrom", "(LToldScenes$Cast;IIJI)V"⟩
abbrev cX1_setBeside : ByteArray := prog_3_method_5_code
def yX1_setBeside : MethodName := ⟨RX1, "setBeside", "(LToldScenes$Cast;IIIJI)V"⟩
abbrev cX1_setWithin : ByteArray := prog_3_method_6_code
def yX1_setWithin : MethodName := ⟨RX1, "setWithin", "(LToldScenes$Cast;IIIJI)V"⟩
abbrev cX1_keep : ByteArray := prog_3_method_7_code
def yX1_keep : MethodName := ⟨RX1, "keep", "(IJI)V"⟩
abbrev cX1_closeAll : ByteArray := prog_3_method_8_code
def yX1_closeAll : MethodName := ⟨RX1, "closeAll", "()V"⟩
def RX2 : String := "ToldScenes$LeastOrder"
def TX2 : u_T := fun k => match k with
  | 0 => ("ToldScenes$LeastOrder", "rest", "[J", true)
  | 1 => ("ToldScenes$LeastOrder", "scenes", "[I", true)
  | 2 => ("ToldScenes$LeastOrder", "count", "I", false)
  | 3 => ("ToldScenes$LeastOrder", "jumpSum", "J", false)
  | _ => ("ToldScenes$LeastOrder", "stands", "Z", false)
def tyX2 : Nat → FieldType := fun k => match k with
  | 0 => .array .long
  | 1 => .array .int
  | 2 => .int
  | 3 => .long
  | _ => .boolean
abbrev wsX20 : List Cond := u_ws RX2 TX2 5
theorem nmX2 : ∀ a, a < 5 → ∀ b, b < 5 → a ≠ b → (TX2 a).2.1 ≠ (TX2 b).2.1 := by decide +kernel
theorem tyX2_ok : ∀ k, k < 5 → parseFieldDescriptor (TX2 k).2.2.1 = some (tyX2 k) := by decide +kernel
abbrev cX2_init : ByteArray := prog_4_method_1_code
def yX2_init : MethodName := ⟨RX2, "<init>", "()V"⟩
abbrev cX2_find : ByteArray := prog_4_method_2_code
def yX2_find : MethodName := ⟨RX2, "find", "(LToldScenes$Cast;)V"⟩
abbrev cX2_fillRest : ByteArray := prog_4_method_3_code
def yX2_fillRest : MethodName := ⟨RX2, "fillRest", "(LToldScenes$Cast;II)V"⟩
abbrev cX2_nextBehind : ByteArray := prog_4_method_4_code
def yX2_nextBehind : MethodName := ⟨RX2, "nextBehind", "(LToldScenes$Cast;III)I"⟩
abbrev cX2_restBy : ByteArray := prog_4_method_5_code
def yX2_restBy : MethodName := ⟨RX2, "restBy", "(LToldScenes$Cast;III)J"⟩
abbrev cX2_follow : ByteArray := prog_4_method_6_code
def yX2_follow : MethodName := ⟨RX2, "follow", "(LToldScenes$Cast;)V"⟩
def RX3 : String := "ToldScenes$Look"
def TX3 : u_T := fun k => match k with
  | 0 => ("ToldScenes$Look", "turnOf", "[I", true)
  | 1 => ("ToldScenes$Look", "depthOf", "[I", true)
  | 2 => ("ToldScenes$Look", "tellerOf", "[I", true)
  | 3 => ("ToldScenes$Look", "sideOf", "[I", true)
  | 4 => ("ToldScenes$Look", "firstWrong", "I", false)
  | 5 => ("ToldScenes$Look", "reason", "I", false)
  | 6 => ("ToldScenes$Look", "opened", "I", false)
  | 7 => ("ToldScenes$Look", "mostOpen", "I", false)
  | 8 => ("ToldScenes$Look", "toldCount", "I", false)
  | 9 => ("ToldScenes$Look", "given", "I", false)
  | 10 => ("ToldScenes$Look", "jumpSum", "J", false)
  | 11 => ("ToldScenes$Look", "openNow", "I", false)
  | 12 => ("ToldScenes$Look", "lastNow", "I", false)
  | 13 => ("ToldScenes$Look", "tellerNow", "I", false)
  | _ => ("ToldScenes$Look", "sideNow", "I", false)
def tyX3 : Nat → FieldType := fun k => match k with
  | 0 => .array .int
  | 1 => .array .int
  | 2 => .array .int
  | 3 => .array .int
  | 4 => .int
  | 5 => .int
  | 6 => .int
  | 7 => .int
  | 8 => .int
  | 9 => .int
  | 10 => .long
  | 11 => .int
  | 12 => .int
  | 13 => .int
  | _ => .int
abbrev wsX30 : List Cond := u_ws RX3 TX3 15
theorem nmX3 : ∀ a, a < 15 → ∀ b, b < 15 → a ≠ b → (TX3 a).2.1 ≠ (TX3 b).2.1 := by decide +kernel
theorem tyX3_ok : ∀ k, k < 15 → parseFieldDescriptor (TX3 k).2.2.1 = some (tyX3 k) := by decide +kernel
abbrev cX3_init : ByteArray := prog_5_method_1_code
def yX3_init : MethodName := ⟨RX3, "<init>", "()V"⟩
abbrev cX3_isWrong : ByteArray := prog_5_method_2_code
def yX3_isWrong : MethodName := ⟨RX3, "isWrong", "()Z"⟩
abbrev cX3_hasTold : ByteArray := prog_5_method_3_code
def yX3_hasTold : MethodName := ⟨RX3, "hasTold", "(I)Z"⟩
abbrev cX3_goThrough : ByteArray := prog_5_method_4_code
def yX3_goThrough : MethodName := ⟨RX3, "goThrough", "(LToldScenes$Cast;[II)V"⟩
abbrev cX3_begin : ByteArray := prog_5_method_5_code
def yX3_begin : MethodName := ⟨RX3, "begin", "()V"⟩
abbrev cX3_whyWrong : ByteArray := prog_5_method_6_code
def yX3_whyWrong : MethodName := ⟨RX3, "whyWrong", "(LToldScenes$Cast;I)I"⟩
abbrev cX3_isOnSide : ByteArray := prog_5_method_7_code
def yX3_isOnSide : MethodName := ⟨RX3, "isOnSide", "(LToldScenes$Cast;I)Z"⟩
abbrev cX3_take : ByteArray := prog_5_method_8_code
def yX3_take : MethodName := ⟨RX3, "take", "(LToldScenes$Cast;I)V"⟩
abbrev cX3_openFrame : ByteArray := prog_5_method_9_code
def yX3_openFrame : MethodName := ⟨RX3, "openFrame", "()V"⟩
abbrev cX3_closeFrame : ByteArray := prog_5_method_10_code
def yX3_closeFrame : MethodName := ⟨RX3, "closeFrame", "()V"⟩
abbrev cX3_tell : ByteArray := prog_5_method_11_code
def yX3_tell : MethodName := ⟨RX3, "tell", "(LToldScenes$Cast;I)V"⟩
def RX4 : String := "ToldScenes"
def TX4 : u_T := fun k => match k with
  | 0 => ("ToldScenes", "cast", "LToldScenes$Cast;", true)
  | 1 => ("ToldScenes", "signs", "[I", true)
  | 2 => ("ToldScenes", "signCount", "I", false)
  | 3 => ("ToldScenes", "feeNow", "I", false)
  | 4 => ("ToldScenes", "lookCount", "I", false)
  | 5 => ("ToldScenes", "look", "LToldScenes$Look;", true)
  | 6 => ("ToldScenes", "row", "[I", true)
  | 7 => ("ToldScenes", "leastOrder", "LToldScenes$LeastOrder;", true)
  | _ => ("ToldScenes", "leastFrames", "LToldScenes$LeastFrames;", true)
def tyX4 : Nat → FieldType := fun k => match k with
  | 0 => .object "ToldScenes$Cast"
  | 1 => .array .int
  | 2 => .int
  | 3 => .int
  | 4 => .int
  | 5 => .object "ToldScenes$Look"
  | 6 => .array .int
  | 7 => .object "ToldScenes$LeastOrder"
  | _ => .object "ToldScenes$LeastFrames"
abbrev wsX40 : List Cond := u_ws RX4 TX4 9
theorem nmX4 : ∀ a, a < 9 → ∀ b, b < 9 → a ≠ b → (TX4 a).2.1 ≠ (TX4 b).2.1 := by decide +kernel
theorem tyX4_ok : ∀ k, k < 9 → parseFieldDescriptor (TX4 k).2.2.1 = some (tyX4 k) := by decide +kernel
abbrev cX4_init : ByteArray := prog_1_method_1_code
def yX4_init : MethodName := ⟨RX4, "<init>", "()V"⟩
abbrev cX4_scene : ByteArray := prog_1_method_2_code
def yX4_scene : MethodName := ⟨RX4, "scene", "(IIII)I"⟩
abbrev cX4_ofScene : ByteArray := prog_1_method_3_code
def yX4_ofScene : MethodName := ⟨RX4, "ofScene", "(II)J"⟩
abbrev cX4_move : ByteArray := prog_1_method_4_code
def yX4_move : MethodName := ⟨RX4, "move", "(II)I"⟩
abbrev cX4_shift : ByteArray := prog_1_method_5_code
def yX4_shift : MethodName := ⟨RX4, "shift", "(I)I"⟩
abbrev cX4_stretch : ByteArray := prog_1_method_6_code
def yX4_stretch : MethodName := ⟨RX4, "stretch", "(II)I"⟩
abbrev cX4_clue : ByteArray := prog_1_method_7_code
def yX4_clue : MethodName := ⟨RX4, "clue", "(IIIZ)I"⟩
abbrev cX4_ofClue : ByteArray := prog_1_method_8_code
def yX4_ofClue : MethodName := ⟨RX4, "ofClue", "(II)I"⟩
abbrev cX4_drop : ByteArray := prog_1_method_9_code
def yX4_drop : MethodName := ⟨RX4, "drop", "()I"⟩
abbrev cX4_fee : ByteArray := prog_1_method_10_code
def yX4_fee : MethodName := ⟨RX4, "fee", "(I)I"⟩
abbrev cX4_jump : ByteArray := prog_1_method_11_code
def yX4_jump : MethodName := ⟨RX4, "jump", "(II)J"⟩
abbrev cX4_span : ByteArray := prog_1_method_12_code
def yX4_span : MethodName := ⟨RX4, "span", "(I)J"⟩
abbrev cX4_add : ByteArray := prog_1_method_13_code
def yX4_add : MethodName := ⟨RX4, "add", "(I)I"⟩
abbrev cX4_cut : ByteArray := prog_1_method_14_code
def yX4_cut : MethodName := ⟨RX4, "cut", "(I)I"⟩
abbrev cX4_judge : ByteArray := prog_1_method_15_code
def yX4_judge : MethodName := ⟨RX4, "judge", "(I)I"⟩
abbrev cX4_jumps : ByteArray := prog_1_method_16_code
def yX4_jumps : MethodName := ⟨RX4, "jumps", "()I"⟩
abbrev cX4_told : ByteArray := prog_1_method_17_code
def yX4_told : MethodName := ⟨RX4, "told", "(II)I"⟩
abbrev cX4_order : ByteArray := prog_1_method_18_code
def yX4_order : MethodName := ⟨RX4, "order", "(I)I"⟩
abbrev cX4_framed : ByteArray := prog_1_method_19_code
def yX4_framed : MethodName := ⟨RX4, "framed", "(I)I"⟩
abbrev cX4_untangled : ByteArray := prog_1_method_20_code
def yX4_untangled : MethodName := ⟨RX4, "untangled", "()I"⟩
abbrev cX4_many : ByteArray := prog_1_method_21_code
def yX4_many : MethodName := ⟨RX4, "many", "(I)I"⟩
abbrev cX4_forgetBest : ByteArray := prog_1_method_22_code
def yX4_forgetBest : MethodName := ⟨RX4, "forgetBest", "()V"⟩
abbrev cX4_findFrames : ByteArray := prog_1_method_23_code
def yX4_findFrames : MethodName := ⟨RX4, "findFrames", "()V"⟩
abbrev cX4_writeRow : ByteArray := prog_1_method_24_code
def yX4_writeRow : MethodName := ⟨RX4, "writeRow", "()I"⟩
abbrev cX4_changePlaces : ByteArray := prog_1_method_25_code
def yX4_changePlaces : MethodName := ⟨RX4, "changePlaces", "(I)V"⟩
abbrev cX4_isClue : ByteArray := prog_1_method_26_code
def yX4_isClue : MethodName := ⟨RX4, "isClue", "(I)Z"⟩
abbrev cX4_isClueSet : ByteArray := prog_1_method_27_code
def yX4_isClueSet : MethodName := ⟨RX4, "isClueSet", "(I)Z"⟩
abbrev cX4_isIn : ByteArray := prog_1_method_28_code
def yX4_isIn : MethodName := ⟨RX4, "isIn", "(II)Z"⟩
abbrev cX4_fitsInt : ByteArray := prog_1_method_29_code
def yX4_fitsInt : MethodName := ⟨RX4, "fitsInt", "(J)Z"⟩
abbrev cX4_intOrOver : ByteArray := prog_1_method_30_code
def yX4_intOrOver : MethodName := ⟨RX4, "intOrOver", "(J)I"⟩
def RX5 : String := "ToldScenesModel"
def TX5 : u_T := fun k => match k with
  | 0 => ("ToldScenesModel", "scenes", "I", false)
  | 1 => ("ToldScenesModel", "fromOf", "[I", true)
  | 2 => ("ToldScenesModel", "longOf", "[I", true)
  | 3 => ("ToldScenesModel", "givesOf", "[I", true)
  | 4 => ("ToldScenesModel", "needsOf", "[I", true)
  | 5 => ("ToldScenesModel", "feeNow", "I", false)
  | 6 => ("ToldScenesModel", "signs", "I", false)
  | 7 => ("ToldScenesModel", "signOf", "[I", true)
  | 8 => ("ToldScenesModel", "looked", "I", false)
  | 9 => ("ToldScenesModel", "open", "I", false)
  | 10 => ("ToldScenesModel", "lastIn", "[I", true)
  | 11 => ("ToldScenesModel", "tellerOf", "[I", true)
  | 12 => ("ToldScenesModel", "sideOf", "[I", true)
  | 13 => ("ToldScenesModel", "wrongAt", "I", false)
  | 14 => ("ToldScenesModel", "wrongBy", "I", false)
  | 15 => ("ToldScenesModel", "frames", "I", false)
  | 16 => ("ToldScenesModel", "deepest", "I", false)
  | 17 => ("ToldScenesModel", "toldMany", "I", false)
  | 18 => ("ToldScenesModel", "toldSet", "I", false)
  | 19 => ("ToldScenesModel", "given", "I", false)
  | 20 => ("ToldScenesModel", "sum", "J", false)
  | 21 => ("ToldScenesModel", "placeOf", "[I", true)
  | 22 => ("ToldScenesModel", "depthOf", "[I", true)
  | 23 => ("ToldScenesModel", "underOf", "[I", true)
  | 24 => ("ToldScenesModel", "onSide", "[I", true)
  | 25 => ("ToldScenesModel", "restOf", "[J", true)
  | 26 => ("ToldScenesModel", "best", "[I", true)
  | 27 => ("ToldScenesModel", "rowMany", "I", false)
  | 28 => ("ToldScenesModel", "row", "[I", true)
  | 29 => ("ToldScenesModel", "choice", "[I", true)
  | 30 => ("ToldScenesModel", "made", "[I", true)
  | 31 => ("ToldScenesModel", "madeMany", "I", false)
  | 32 => ("ToldScenesModel", "framed", "[I", true)
  | _ => ("ToldScenesModel", "framedMany", "I", false)
def tyX5 : Nat → FieldType := fun k => match k with
  | 0 => .int
  | 1 => .array .int
  | 2 => .array .int
  | 3 => .array .int
  | 4 => .array .int
  | 5 => .int
  | 6 => .int
  | 7 => .array .int
  | 8 => .int
  | 9 => .int
  | 10 => .array .int
  | 11 => .array .int
  | 12 => .array .int
  | 13 => .int
  | 14 => .int
  | 15 => .int
  | 16 => .int
  | 17 => .int
  | 18 => .int
  | 19 => .int
  | 20 => .long
  | 21 => .array .int
  | 22 => .array .int
  | 23 => .array .int
  | 24 => .array .int
  | 25 => .array .long
  | 26 => .array .int
  | 27 => .int
  | 28 => .array .int
  | 29 => .array .int
  | 30 => .array .int
  | 31 => .int
  | 32 => .array .int
  | _ => .int
abbrev wsX50 : List Cond := u_ws RX5 TX5 34
theorem nmX5 : ∀ a, a < 34 → ∀ b, b < 34 → a ≠ b → (TX5 a).2.1 ≠ (TX5 b).2.1 := by decide +kernel
theorem tyX5_ok : ∀ k, k < 34 → parseFieldDescriptor (TX5 k).2.2.1 = some (tyX5 k) := by decide +kernel
abbrev cX5_init : ByteArray := prog_7_method_1_code
def yX5_init : MethodName := ⟨RX5, "<init>", "()V"⟩
abbrev cX5_within : ByteArray := prog_7_method_2_code
def yX5_within : MethodName := ⟨RX5, "within", "(III)Z"⟩
abbrev cX5_isInt : ByteArray := prog_7_method_3_code
def yX5_isInt : MethodName := ⟨RX5, "isInt", "(J)Z"⟩
abbrev cX5_isScene : ByteArray := prog_7_method_4_code
def yX5_isScene : MethodName := ⟨RX5, "isScene", "(I)Z"⟩
abbrev cX5_isClue : ByteArray := prog_7_method_5_code
def yX5_isClue : MethodName := ⟨RX5, "isClue", "(I)Z"⟩
abbrev cX5_endOf : ByteArray := prog_7_method_6_code
def yX5_endOf : MethodName := ⟨RX5, "endOf", "(I)J"⟩
abbrev cX5_scene : ByteArray := prog_7_method_7_code
def yX5_scene : MethodName := ⟨RX5, "scene", "(IIII)I"⟩
abbrev cX5_ofScene : ByteArray := prog_7_method_8_code
def yX5_ofScene : MethodName := ⟨RX5, "ofScene", "(II)J"⟩
abbrev cX5_mayMove : ByteArray := prog_7_method_9_code
def yX5_mayMove : MethodName := ⟨RX5, "mayMove", "(II)Z"⟩
abbrev cX5_move : ByteArray := prog_7_method_10_code
def yX5_move : MethodName := ⟨RX5, "move", "(II)I"⟩
abbrev cX5_shift : ByteArray := prog_7_method_11_code
def yX5_shift : MethodName := ⟨RX5, "shift", "(I)I"⟩
abbrev cX5_stretch : ByteArray := prog_7_method_12_code
def yX5_stretch : MethodName := ⟨RX5, "stretch", "(II)I"⟩
abbrev cX5_clue : ByteArray := prog_7_method_13_code
def yX5_clue : MethodName := ⟨RX5, "clue", "(IIIZ)I"⟩
abbrev cX5_setOf : ByteArray := prog_7_method_14_code
def yX5_setOf : MethodName := ⟨RX5, "setOf", "(II)I"⟩
abbrev cX5_ofClue : ByteArray := prog_7_method_15_code
def yX5_ofClue : MethodName := ⟨RX5, "ofClue", "(II)I"⟩
abbrev cX5_drop : ByteArray := prog_7_method_16_code
def yX5_drop : MethodName := ⟨RX5, "drop", "()I"⟩
abbrev cX5_fee : ByteArray := prog_7_method_17_code
def yX5_fee : MethodName := ⟨RX5, "fee", "(I)I"⟩
abbrev cX5_jumpOf : ByteArray := prog_7_method_18_code
def yX5_jumpOf : MethodName := ⟨RX5, "jumpOf", "(II)J"⟩
abbrev cX5_jump : ByteArray := prog_7_method_19_code
def yX5_jump : MethodName := ⟨RX5, "jump", "(II)J"⟩
abbrev cX5_firstFrom : ByteArray := prog_7_method_20_code
def yX5_firstFrom : MethodName := ⟨RX5, "firstFrom", "()J"⟩
abbrev cX5_lastEnd : ByteArray := prog_7_method_21_code
def yX5_lastEnd : MethodName := ⟨RX5, "lastEnd", "()J"⟩
abbrev cX5_nextFrom : ByteArray := prog_7_method_22_code
def yX5_nextFrom : MethodName := ⟨RX5, "nextFrom", "(J)J"⟩
abbrev cX5_toldTo : ByteArray := prog_7_method_23_code
def yX5_toldTo : MethodName := ⟨RX5, "toldTo", "(J)J"⟩
abbrev cX5_gaps : ByteArray := prog_7_method_24_code
def yX5_gaps : MethodName := ⟨RX5, "gaps", "()J"⟩
abbrev cX5_span : ByteArray := prog_7_method_25_code
def yX5_span : MethodName := ⟨RX5, "span", "(I)J"⟩
abbrev cX5_add : ByteArray := prog_7_method_26_code
def yX5_add : MethodName := ⟨RX5, "add", "(I)I"⟩
abbrev cX5_cut : ByteArray := prog_7_method_27_code
def yX5_cut : MethodName := ⟨RX5, "cut", "(I)I"⟩
abbrev cX5_sideBy : ByteArray := prog_7_method_28_code
def yX5_sideBy : MethodName := ⟨RX5, "sideBy", "(II)I"⟩
abbrev cX5_isOnSide : ByteArray := prog_7_method_29_code
def yX5_isOnSide : MethodName := ⟨RX5, "isOnSide", "(I)Z"⟩
abbrev cX5_reasonOfScene : ByteArray := prog_7_method_30_code
def yX5_reasonOfScene : MethodName := ⟨RX5, "reasonOfScene", "(I)I"⟩
abbrev cX5_reasonOf : ByteArray := prog_7_method_31_code
def yX5_reasonOf : MethodName := ⟨RX5, "reasonOf", "(I)I"⟩
abbrev cX5_tells : ByteArray := prog_7_method_32_code
def yX5_tells : MethodName := ⟨RX5, "tells", "(I)V"⟩
abbrev cX5_opens : ByteArray := prog_7_method_33_code
def yX5_opens : MethodName := ⟨RX5, "opens", "()V"⟩
abbrev cX5_goesOn : ByteArray := prog_7_method_34_code
def yX5_goesOn : MethodName := ⟨RX5, "goesOn", "(I)V"⟩
abbrev cX5_looks : ByteArray := prog_7_method_35_code
def yX5_looks : MethodName := ⟨RX5, "looks", "([II)V"⟩
abbrev cX5_looksNow : ByteArray := prog_7_method_36_code
def yX5_looksNow : MethodName := ⟨RX5, "looksNow", "()V"⟩
abbrev cX5_judge : ByteArray := prog_7_method_37_code
def yX5_judge : MethodName := ⟨RX5, "judge", "(I)I"⟩
abbrev cX5_jumpsOf : ByteArray := prog_7_method_38_code
def yX5_jumpsOf : MethodName := ⟨RX5, "jumpsOf", "(J)I"⟩
abbrev cX5_jumps : ByteArray := prog_7_method_39_code
def yX5_jumps : MethodName := ⟨RX5, "jumps", "()I"⟩
abbrev cX5_told : ByteArray := prog_7_method_40_code
def yX5_told : MethodName := ⟨RX5, "told", "(II)I"⟩
abbrev cX5_mayCome : ByteArray := prog_7_method_41_code
def yX5_mayCome : MethodName := ⟨RX5, "mayCome", "(II)Z"⟩
abbrev cX5_byNext : ByteArray := prog_7_method_42_code
def yX5_byNext : MethodName := ⟨RX5, "byNext", "(III)J"⟩
abbrev cX5_findRest : ByteArray := prog_7_method_43_code
def yX5_findRest : MethodName := ⟨RX5, "findRest", "()V"⟩
abbrev cX5_findOrder : ByteArray := prog_7_method_44_code
def yX5_findOrder : MethodName := ⟨RX5, "findOrder", "()J"⟩
abbrev cX5_order : ByteArray := prog_7_method_45_code
def yX5_order : MethodName := ⟨RX5, "order", "(I)I"⟩
abbrev cX5_findRow : ByteArray := prog_7_method_46_code
def yX5_findRow : MethodName := ⟨RX5, "findRow", "()V"⟩
abbrev cX5_puts : ByteArray := prog_7_method_47_code
def yX5_puts : MethodName := ⟨RX5, "puts", "(I)V"⟩
abbrev cX5_makes : ByteArray := prog_7_method_48_code
def yX5_makes : MethodName := ⟨RX5, "makes", "()V"⟩
abbrev cX5_depthAt : ByteArray := prog_7_method_49_code
def yX5_depthAt : MethodName := ⟨RX5, "depthAt", "(I)I"⟩
abbrev cX5_goesNext : ByteArray := prog_7_method_50_code
def yX5_goesNext : MethodName := ⟨RX5, "goesNext", "()Z"⟩
abbrev cX5_keeps : ByteArray := prog_7_method_51_code
def yX5_keeps : MethodName := ⟨RX5, "keeps", "()V"⟩
abbrev cX5_findFramed : ByteArray := prog_7_method_52_code
def yX5_findFramed : MethodName := ⟨RX5, "findFramed", "()J"⟩
abbrev cX5_framed : ByteArray := prog_7_method_53_code
def yX5_framed : MethodName := ⟨RX5, "framed", "(I)I"⟩
abbrev cX5_changes : ByteArray := prog_7_method_54_code
def yX5_changes : MethodName := ⟨RX5, "changes", "(I)V"⟩
abbrev cX5_untangled : ByteArray := prog_7_method_55_code
def yX5_untangled : MethodName := ⟨RX5, "untangled", "()I"⟩
abbrev cX5_manyOpen : ByteArray := prog_7_method_56_code
def yX5_manyOpen : MethodName := ⟨RX5, "manyOpen", "()I"⟩
abbrev cX5_many : ByteArray := prog_7_method_57_code
def yX5_many : MethodName := ⟨RX5, "many", "(I)I"⟩
def RJ6 : String := "java/lang/Integer"
def TJ6 : u_T := fun k => match k with
  | _ => ("", "", "", false)
def tyJ6 : Nat → FieldType := fun k => match k with
  | _ => .int
abbrev wsJ60 : List Cond := u_ws RJ6 TJ6 0
theorem nmJ6 : ∀ a, a < 0 → ∀ b, b < 0 → a ≠ b → (TJ6 a).2.1 ≠ (TJ6 b).2.1 := by decide +kernel
theorem tyJ6_ok : ∀ k, k < 0 → parseFieldDescriptor (TJ6 k).2.2.1 = some (tyJ6 k) := by decide +kernel
abbrev cJ6_bitCount_0f7a4 : ByteArray := prog_8_method_49_code
def yJ6_bitCount_0f7a4 : MethodName := ⟨RJ6, "bitCount", "(I)I"⟩
def RJ9 : String := "java/lang/Math"
def TJ9 : u_T := fun k => match k with
  | _ => ("", "", "", false)
def tyJ9 : Nat → FieldType := fun k => match k with
  | _ => .int
abbrev wsJ90 : List Cond := u_ws RJ9 TJ9 0
theorem nmJ9 : ∀ a, a < 0 → ∀ b, b < 0 → a ≠ b → (TJ9 a).2.1 ≠ (TJ9 b).2.1 := by decide +kernel
theorem tyJ9_ok : ∀ k, k < 0 → parseFieldDescriptor (TJ9 k).2.2.1 = some (tyJ9 k) := by decide +kernel
abbrev cJ9_abs_067f4 : ByteArray := prog_9_method_61_code
def yJ9_abs_067f4 : MethodName := ⟨RJ9, "abs", "(J)J"⟩
abbrev cJ9_max_7cf53 : ByteArray := prog_9_method_65_code
def yJ9_max_7cf53 : MethodName := ⟨RJ9, "max", "(II)I"⟩
abbrev cJ9_max_f86c9 : ByteArray := prog_9_method_66_code
def yJ9_max_f86c9 : MethodName := ⟨RJ9, "max", "(JJ)J"⟩
abbrev cJ9_min_f86c9 : ByteArray := prog_9_method_70_code
def yJ9_min_f86c9 : MethodName := ⟨RJ9, "min", "(JJ)J"⟩
def RJ10 : String := "java/lang/System"
def TJ10 : u_T := fun k => match k with
  | _ => ("", "", "", false)
def tyJ10 : Nat → FieldType := fun k => match k with
  | _ => .int
abbrev wsJ100 : List Cond := u_ws RJ10 TJ10 0
theorem nmJ10 : ∀ a, a < 0 → ∀ b, b < 0 → a ≠ b → (TJ10 a).2.1 ≠ (TJ10 b).2.1 := by decide +kernel
theorem tyJ10_ok : ∀ k, k < 0 → parseFieldDescriptor (TJ10 k).2.2.1 = some (tyJ10 k) := by decide +kernel
def RJ7 : String := "java/util/Arrays"
def TJ7 : u_T := fun k => match k with
  | _ => ("", "", "", false)
def tyJ7 : Nat → FieldType := fun k => match k with
  | _ => .int
abbrev wsJ70 : List Cond := u_ws RJ7 TJ7 0
theorem nmJ7 : ∀ a, a < 0 → ∀ b, b < 0 → a ≠ b → (TJ7 a).2.1 ≠ (TJ7 b).2.1 := by decide +kernel
theorem tyJ7_ok : ∀ k, k < 0 → parseFieldDescriptor (TJ7 k).2.2.1 = some (tyJ7 k) := by decide +kernel
abbrev cJ7_fill_53178 : ByteArray := prog_11_method_103_code
def yJ7_fill_53178 : MethodName := ⟨RJ7, "fill", "([II)V"⟩
def RL : String := "ToldScenesLaw"
abbrev cL_law : ByteArray := code
def yL_law : MethodName := ⟨RL, "law", "([I)Z"⟩
abbrev vwCl : List vw_C := [(RX0, TX0, 5), (RX1, TX1, 11), (RX2, TX2, 5), (RX3, TX3, 15), (RX4, TX4, 9), (RX5, TX5, 34)]
end
section
/-! ===== tables of the small machine (C), by program ===== -/
set_option maxRecDepth 20000 in
noncomputable def tbX0_has : List mm_E := [(0, .iload_n 1, 1, false, 0, 0, 0, 0, 0, []), (1, .ifCond .lt 21, 3, false, 11, 0, 0, 0, 0, []), (4, .iload_n 1, 1, false, 0, 0, 0, 0, 0, []), (5, .aload_n 0, 1, false, 0, 0, 0, 0, 0, []), (6, .getfield 24, 3, false, 1, 4, 0, 0, 0, []), (9, .if_icmp .ge 13, 3, false, 11, 0, 0, 0, 0, []), (12, .iload_n 1, 1, false, 0, 0, 0, 0, 0, []), (13, .bipush 8, 2, false, 0, 0, 0, 0, 0, []), (15, .if_icmp .ge 7, 3, false, 11, 0, 0, 0, 0, []), (18, .iconst 1, 1, false, 0, 0, 0, 0, 0, []), (19, .goto 4, 3, false, 12, 0, 0, 0, 0, []), (22, .iconst 0, 1, false, 0, 0, 0, 0, 0, []), (23, .ireturn, 1, false, 0, 0, 1, 0, 0, [])]
noncomputable def mdX0_has : mm_M := (yX0_has, cX0_has, 2, (some .boolean), 0, 1, tbX0_has)
set_option maxRecDepth 20000 in
noncomputable def tbX0_append : List mm_E := [(0, .aload_n 0, 1, false, 0, 0, 0, 0, 0, []), (1, .getfield 24, 3, false, 1, 4, 0, 0, 0, []), (4, .istore 5, 2, false, 0, 0, 0, 0, 0, []), (6, .iload 5, 2, false, 0, 0, 0, 0, 0, []), (8, .ifCond .lt 10, 3, false, 8, 0, 0, 0, 0, []), (11, .iload 5, 2, false, 0, 0, 0, 0, 0, []), (13, .bipush 8, 2, false, 0, 0, 0, 0, 0, []), (15, .if_icmp .lt 6, 3, false, 10, 0, 0, 0, 0, []), (18, .bipush (-4), 2, false, 0, 0, 0, 0, 0, []), (20, .ireturn, 1, false, 0, 0, 0, 0, 0, []), (21, .aload_n 0, 1, false, 0, 0, 0, 0, 0, []), (22, .getfield 9, 3, false, 1, 0, 5, 0, 0, []), (25, .iload 5, 2, false, 0, 0, 0, 0, 0, []), (27, .iload_n 1, 1, false, 0, 0, 0, 0, 0, []), (28, .iastore, 1, false, 0, 0, 0, 0, 0, []), (29, .aload_n 0, 1, false, 0, 0, 0, 0, 0, []), (30, .getfield 15, 3, false, 1, 1, 6, 0, 0, []), (33, .iload 5, 2, false, 0, 0, 0, 0, 0, []), (35, .iload_n 2, 1, false, 0, 0, 0, 0, 0, []), (36, .iastore, 1, false, 0, 0, 0, 0, 0, []), (37, .aload_n 0, 1, false, 0, 0, 0, 0, 0, []), (38, .getfield 18, 3, false, 1, 2, 7, 0, 0, []), (41, .iload 5, 2, false, 0, 0, 0, 0, 0, []), (43, .iload_n 3, 1, false, 0, 0, 0, 0, 0, []), (44, .iastore, 1, false, 0, 0, 0, 0, 0, []), (45, .aload_n 0, 1, false, 0, 0, 0, 0, 0, []), (46, .getfield 21, 3, false, 1, 3, 8, 0, 0, []), (49, .iload 5, 2, false, 0, 0, 0, 0, 0, []), (51, .iload 4, 2, false, 0, 0, 0, 0, 0, []), (53, .iastore, 1, false, 0, 0, 0, 0, 0, []), (54, .aload_n 0, 1, false, 0, 0, 0, 0, 0, []), (55, .dup, 1, false, 0, 0, 0, 0, 0, []), (56, .getfield 24, 3, false, 1, 4, 0, 0, 0, []), (59, .iconst 1, 1, false, 0, 0, 0, 0, 0, []), (60, .iadd, 1, false, 0, 0, 0, 0, 0, []), (61, .putfield 24, 3, false, 1, 4, 0, 0, 0, []), (64, .iload 5, 2, false, 0, 0, 0, 0, 0, []), (66, .ireturn, 1, false, 0, 0, 0, 0, 0, [])]
noncomputable def mdX0_append : mm_M := (yX0_append, cX0_append, 6, (some .int), 0, 1, tbX0_append)
set_option maxRecDepth 20000 in
noncomputable def tbX0_endOf : List mm_E := [(0, .iload_n 1, 1, false, 0, 0, 0, 0, 0, []), (1, .ifCond .lt 27, 3, false, 17, 0, 0, 0, 0, []), (4, .iload_n 1, 1, false, 0, 0, 0, 0, 0, []), (5, .bipush 8, 2, false, 0, 0, 0, 0, 0, []), (7, .if_icmp .ge 21, 3, false, 17, 0, 0, 0, 0, []), (10, .aload_n 0, 1, false, 0, 0, 0, 0, 0, []), (11, .getfield 9, 3, false, 1, 0, 5, 0, 0, []), (14, .iload_n 1, 1, false, 0, 0, 0, 0, 0, []), (15, .iaload, 1, false, 0, 0, 0, 0, 0, []), (16, .i2l, 1, false, 0, 0, 0, 0, 0, []), (17, .aload_n 0, 1, false, 0, 0, 0, 0, 0, []), (18, .getfield 15, 3, false, 1, 1, 6, 0, 0, []), (21, .iload_n 1, 1, false, 0, 0, 0, 0, 0, []), (22, .iaload, 1, false, 0, 0, 0, 0, 0, []), (23, .i2l, 1, false, 0, 0, 0, 0, 0, []), (24, .ladd, 1, false, 0, 0, 0, 0, 0, []), (25, .goto 4, 3, false, 18, 0, 0, 0, 0, []), (28, .lconst 0, 1, false, 0, 0, 0, 0, 0, []), (29, .lreturn, 1, false, 0, 0, 0, 0, 0, [])]
noncomputable def mdX0_endOf : mm_M := (yX0_endOf, cX0_endOf, 2, (some .long), 0, 2, tbX0_endOf)
set_option maxRecDepth 20000 in
noncomputable def tbX0_canMove : List mm_E := [(0, .aload_n 0, 1, false, 0, 0, 0, 0, 0, []), (1, .iload_n 1, 1, false, 0, 0, 0, 0, 0, []), (2, .invokevirtual 28, 3, false, 0, 2, 1, 1, 0, []), (5, .ifCond .eq 37, 3, false, 24, 0, 0, 0, 0, []), (8, .aload_n 0, 1, false, 0, 0, 0, 0, 0, []), (9, .getfield 9, 3, false, 1, 0, 5, 0, 0, []), (12, .iload_n 1, 1, false, 0, 0, 0, 0, 0, []), (13, .iaload, 1, false, 0, 0, 0, 0, 0, []), (14, .i2l, 1, false, 0, 0, 0, 0, 0, []), (15, .iload_n 2, 1, false, 0, 0, 0, 0, 0, []), (16, .i2l, 1, false, 0, 0, 0, 0, 0, []), (17, .ladd, 1, false, 0, 0, 0, 0, 0, []), (18, .invokestatic 32, 3, false, 63, 1, 1, 0, 0, []), (21, .ifCond .eq 21, 3, false, 24, 0, 0, 0, 0, []), (24, .aload_n 0, 1, false, 0, 0, 0, 0, 0, []), (25, .iload_n 1, 1, false, 0, 0, 0, 0, 0, []), (26, .invokevirtual 36, 3, false, 2, 2, 2, 1, 0, []), (29, .iload_n 2, 1, false, 0, 0, 0, 0, 0, []), (30, .i2l, 1, false, 0, 0, 0, 0, 0, []), (31, .ladd, 1, false, 0, 0, 0, 0, 0, []), (32, .invokestatic 32, 3, false, 63, 1, 1, 0, 0, []), (35, .ifCond .eq 7, 3, false, 24, 0, 0, 0, 0, []), (38, .iconst 1, 1, false, 0, 0, 0, 0, 0, []), (39, .goto 4, 3, false, 25, 0, 0, 0, 0, []), (42, .iconst 0, 1, false, 0, 0, 0, 0, 0, []), (43, .ireturn, 1, false, 0, 0, 1, 0, 0, [])]
noncomputable def mdX0_canMove : mm_M := (yX0_canMove, cX0_canMove, 3, (some .boolean), 0, 1, tbX0_canMove)
set_option maxRecDepth 20000 in
noncomputable def tbX0_jumpBetween : List mm_E := [(0, .aload_n 0, 1, false, 0, 0, 0, 0, 0, []), (1, .iload_n 1, 1, false, 0, 0, 0, 0, 0, []), (2, .invokevirtual 28, 3, false, 0, 2, 1, 1, 0, []), (5, .ifCond .eq 30, 3, false, 19, 0, 0, 0, 0, []), (8, .aload_n 0, 1, false, 0, 0, 0, 0, 0, []), (9, .iload_n 2, 1, false, 0, 0, 0, 0, 0, []), (10, .invokevirtual 28, 3, false, 0, 2, 1, 1, 0, []), (13, .ifCond .eq 22, 3, false, 19, 0, 0, 0, 0, []), (16, .aload_n 0, 1, false, 0, 0, 0, 0, 0, []), (17, .getfield 9, 3, false, 1, 0, 5, 0, 0, []), (20, .iload_n 2, 1, false, 0, 0, 0, 0, 0, []), (21, .iaload, 1, false, 0, 0, 0, 0, 0, []), (22, .i2l, 1, false, 0, 0, 0, 0, 0, []), (23, .aload_n 0, 1, false, 0, 0, 0, 0, 0, []), (24, .iload_n 1, 1, false, 0, 0, 0, 0, 0, []), (25, .invokevirtual 36, 3, false, 2, 2, 2, 1, 0, []), (28, .lsub, 1, false, 0, 0, 0, 0, 0, []), (29, .invokestatic 40, 3, false, 0, 0, 10, 0, 0, []), (32, .goto 4, 3, false, 20, 0, 0, 0, 0, []), (35, .lconst 0, 1, false, 0, 0, 0, 0, 0, []), (36, .lreturn, 1, false, 0, 0, 0, 0, 0, [])]
noncomputable def mdX0_jumpBetween : mm_M := (yX0_jumpBetween, cX0_jumpBetween, 3, (some .long), 0, 2, tbX0_jumpBetween)
set_option maxRecDepth 20000 in
noncomputable def tbX0_sideBy : List mm_E := [(0, .aload_n 0, 1, false, 0, 0, 0, 0, 0, []), (1, .iload_n 1, 1, false, 0, 0, 0, 0, 0, []), (2, .invokevirtual 28, 3, false, 0, 2, 1, 1, 0, []), (5, .ifCond .eq 11, 3, false, 8, 0, 0, 0, 0, []), (8, .aload_n 0, 1, false, 0, 0, 0, 0, 0, []), (9, .iload_n 2, 1, false, 0, 0, 0, 0, 0, []), (10, .invokevirtual 28, 3, false, 0, 2, 1, 1, 0, []), (13, .ifCond .ne 6, 3, false, 10, 0, 0, 0, 0, []), (16, .bipush (-9), 2, false, 0, 0, 0, 0, 0, []), (18, .ireturn, 1, false, 0, 0, 0, 0, 0, []), (19, .aload_n 0, 1, false, 0, 0, 0, 0, 0, []), (20, .iload_n 1, 1, false, 0, 0, 0, 0, 0, []), (21, .invokevirtual 36, 3, false, 2, 2, 2, 1, 0, []), (24, .aload_n 0, 1, false, 0, 0, 0, 0, 0, []), (25, .getfield 9, 3, false, 1, 0, 5, 0, 0, []), (28, .iload_n 2, 1, false, 0, 0, 0, 0, 0, []), (29, .iaload, 1, false, 0, 0, 0, 0, 0, []), (30, .i2l, 1, false, 0, 0, 0, 0, 0, []), (31, .lcmp, 1, false, 0, 0, 0, 0, 0, []), (32, .ifCond .gt 5, 3, false, 22, 0, 0, 0, 0, []), (35, .iconst 0, 1, false, 0, 0, 0, 0, 0, []), (36, .ireturn, 1, false, 0, 0, 0, 0, 0, []), (37, .aload_n 0, 1, false, 0, 0, 0, 0, 0, []), (38, .getfield 9, 3, false, 1, 0, 5, 0, 0, []), (41, .iload_n 1, 1, false, 0, 0, 0, 0, 0, []), (42, .iaload, 1, false, 0, 0, 0, 0, 0, []), (43, .i2l, 1, false, 0, 0, 0, 0, 0, []), (44, .aload_n 0, 1, false, 0, 0, 0, 0, 0, []), (45, .iload_n 2, 1, false, 0, 0, 0, 0, 0, []), (46, .invokevirtual 36, 3, false, 2, 2, 2, 1, 0, []), (49, .lcmp, 1, false, 0, 0, 0, 0, 0, []), (50, .ifCond .lt 7, 3, false, 34, 0, 0, 0, 0, []), (53, .iconst 1, 1, false, 0, 0, 0, 0, 0, []), (54, .goto 5, 3, false, 35, 0, 0, 0, 0, []), (57, .bipush (-9), 2, false, 0, 0, 0, 0, 0, []), (59, .ireturn, 1, false, 0, 0, 0, 0, 0, [])]
noncomputable def mdX0_sideBy : mm_M := (yX0_sideBy, cX0_sideBy, 3, (some .int), 0, 1, tbX0_sideBy)
set_option maxRecDepth 20000 in
noncomputable def tbX0_everyone : List mm_E := [(0, .iconst 1, 1, false, 0, 0, 0, 0, 0, []), (1, .aload_n 0, 1, false, 0, 0, 0, 0, 0, []), (2, .getfield 24, 3, false, 1, 4, 0, 0, 0, []), (5, .ishl, 1, false, 0, 0, 0, 0, 0, []), (6, .iconst 1, 1, false, 0, 0, 0, 0, 0, []), (7, .isub, 1, false, 0, 0, 0, 0, 0, []), (8, .ireturn, 1, false, 0, 0, 0, 0, 0, [])]
noncomputable def mdX0_everyone : mm_M := (yX0_everyone, cX0_everyone, 1, (some .int), 0, 1, tbX0_everyone)
set_option maxRecDepth 20000 in
noncomputable def tbX0_givenBy : List mm_E := [(0, .iconst 0, 1, false, 0, 0, 0, 0, 0, []), (1, .istore_n 2, 1, false, 0, 0, 0, 0, 0, []), (2, .iconst 0, 1, false, 0, 0, 0, 0, 0, []), (3, .istore_n 3, 1, false, 0, 0, 0, 0, 0, []), (4, .iload_n 3, 1, true, 0, 0, 0, 0, 0, []), (5, .aload_n 0, 1, false, 0, 0, 0, 0, 0, []), (6, .getfield 24, 3, false, 1, 4, 0, 0, 0, []), (9, .if_icmp .ge 32, 3, false, 24, 0, 0, 0, 0, []), (12, .iload_n 3, 1, false, 0, 0, 0, 0, 0, []), (13, .bipush 8, 2, false, 0, 0, 0, 0, 0, []), (15, .if_icmp .ge 26, 3, false, 24, 0, 0, 0, 0, []), (18, .iload_n 1, 1, false, 0, 0, 0, 0, 0, []), (19, .iload_n 3, 1, false, 0, 0, 0, 0, 0, []), (20, .invokestatic 46, 3, false, 62, 2, 1, 0, 0, []), (23, .ifCond .eq 12, 3, false, 22, 0, 0, 0, 0, []), (26, .iload_n 2, 1, false, 0, 0, 0, 0, 0, []), (27, .aload_n 0, 1, false, 0, 0, 0, 0, 0, []), (28, .getfield 18, 3, false, 1, 2, 7, 0, 0, []), (31, .iload_n 3, 1, false, 0, 0, 0, 0, 0, []), (32, .iaload, 1, false, 0, 0, 0, 0, 0, []), (33, .ior, 1, false, 0, 0, 0, 0, 0, []), (34, .istore_n 2, 1, false, 0, 0, 0, 0, 0, []), (35, .iinc 3 1, 3, false, 0, 0, 0, 0, 0, []), (38, .goto (-34), 3, false, 4, 0, 0, 0, 0, []), (41, .iload_n 2, 1, false, 0, 0, 0, 0, 0, []), (42, .ireturn, 1, false, 0, 0, 0, 0, 0, [])]
noncomputable def mdX0_givenBy : mm_M := (yX0_givenBy, cX0_givenBy, 4, (some .int), 0, 1, tbX0_givenBy)
set_option maxRecDepth 20000 in
noncomputable def tbX0_allNeeds : List mm_E := [(0, .iconst 0, 1, false, 0, 0, 0, 0, 0, []), (1, .istore_n 1, 1, false, 0, 0, 0, 0, 0, []), (2, .iconst 0, 1, false, 0, 0, 0, 0, 0, []), (3, .istore_n 2, 1, false, 0, 0, 0, 0, 0, []), (4, .iload_n 2, 1, true, 0, 0, 0, 0, 0, []), (5, .aload_n 0, 1, false, 0, 0, 0, 0, 0, []), (6, .getfield 24, 3, false, 1, 4, 0, 0, 0, []), (9, .if_icmp .ge 24, 3, false, 20, 0, 0, 0, 0, []), (12, .iload_n 2, 1, false, 0, 0, 0, 0, 0, []), (13, .bipush 8, 2, false, 0, 0, 0, 0, 0, []), (15, .if_icmp .ge 18, 3, false, 20, 0, 0, 0, 0, []), (18, .iload_n 1, 1, false, 0, 0, 0, 0, 0, []), (19, .aload_n 0, 1, false, 0, 0, 0, 0, 0, []), (20, .getfield 21, 3, false, 1, 3, 8, 0, 0, []), (23, .iload_n 2, 1, false, 0, 0, 0, 0, 0, []), (24, .iaload, 1, false, 0, 0, 0, 0, 0, []), (25, .ior, 1, false, 0, 0, 0, 0, 0, []), (26, .istore_n 1, 1, false, 0, 0, 0, 0, 0, []), (27, .iinc 2 1, 3, false, 0, 0, 0, 0, 0, []), (30, .goto (-26), 3, false, 4, 0, 0, 0, 0, []), (33, .iload_n 1, 1, false, 0, 0, 0, 0, 0, []), (34, .ireturn, 1, false, 0, 0, 0, 0, 0, [])]
noncomputable def mdX0_allNeeds : mm_M := (yX0_allNeeds, cX0_allNeeds, 3, (some .int), 0, 1, tbX0_allNeeds)
set_option maxRecDepth 20000 in
noncomputable def tbX0_readyAfter : List mm_E := [(0, .aload_n 0, 1, false, 0, 0, 0, 0, 0, []), (1, .iload_n 1, 1, false, 0, 0, 0, 0, 0, []), (2, .invokevirtual 50, 3, false, 7, 2, 1, 1, 0, []), (5, .istore_n 2, 1, false, 0, 0, 0, 0, 0, []), (6, .iconst 0, 1, false, 0, 0, 0, 0, 0, []), (7, .istore_n 3, 1, false, 0, 0, 0, 0, 0, []), (8, .iconst 0, 1, false, 0, 0, 0, 0, 0, []), (9, .istore 4, 2, false, 0, 0, 0, 0, 0, []), (11, .iload 4, 2, true, 0, 0, 0, 0, 0, []), (13, .aload_n 0, 1, false, 0, 0, 0, 0, 0, []), (14, .getfield 24, 3, false, 1, 4, 0, 0, 0, []), (17, .if_icmp .ge 46, 3, false, 36, 0, 0, 0, 0, []), (20, .iload 4, 2, false, 0, 0, 0, 0, 0, []), (22, .bipush 8, 2, false, 0, 0, 0, 0, 0, []), (24, .if_icmp .ge 39, 3, false, 36, 0, 0, 0, 0, []), (27, .iload_n 1, 1, false, 0, 0, 0, 0, 0, []), (28, .iload 4, 2, false, 0, 0, 0, 0, 0, []), (30, .invokestatic 46, 3, false, 62, 2, 1, 0, 0, []), (33, .ifCond .ne 24, 3, false, 34, 0, 0, 0, 0, []), (36, .aload_n 0, 1, false, 0, 0, 0, 0, 0, []), (37, .getfield 21, 3, false, 1, 3, 8, 0, 0, []), (40, .iload 4, 2, false, 0, 0, 0, 0, 0, []), (42, .iaload, 1, false, 0, 0, 0, 0, 0, []), (43, .iload_n 2, 1, false, 0, 0, 0, 0, 0, []), (44, .iconst (-1), 1, false, 0, 0, 0, 0, 0, []), (45, .ixor, 1, false, 0, 0, 0, 0, 0, []), (46, .iand, 1, false, 0, 0, 0, 0, 0, []), (47, .ifCond .ne 10, 3, false, 34, 0, 0, 0, 0, []), (50, .iload_n 3, 1, false, 0, 0, 0, 0, 0, []), (51, .iconst 1, 1, false, 0, 0, 0, 0, 0, []), (52, .iload 4, 2, false, 0, 0, 0, 0, 0, []), (54, .ishl, 1, false, 0, 0, 0, 0, 0, []), (55, .ior, 1, false, 0, 0, 0, 0, 0, []), (56, .istore_n 3, 1, false, 0, 0, 0, 0, 0, []), (57, .iinc 4 1, 3, false, 0, 0, 0, 0, 0, []), (60, .goto (-49), 3, false, 8, 0, 0, 0, 0, []), (63, .iload_n 3, 1, false, 0, 0, 0, 0, 0, []), (64, .ireturn, 1, false, 0, 0, 0, 0, 0, [])]
noncomputable def mdX0_readyAfter : mm_M := (yX0_readyAfter, cX0_readyAfter, 5, (some .int), 0, 1, tbX0_readyAfter)
set_option maxRecDepth 20000 in
noncomputable def tbX0_extent : List mm_E := [(0, .ldc2_w 56, 3, false, 0, 0, 0, 0, 9223372036854775807, []), (3, .lstore_n 1, 1, false, 0, 0, 0, 0, 0, []), (4, .ldc2_w 58, 3, false, 0, 0, 0, 0, (-9223372036854775808), []), (7, .lstore_n 3, 1, false, 0, 0, 0, 0, 0, []), (8, .iconst 0, 1, false, 0, 0, 0, 0, 0, []), (9, .istore 5, 2, false, 0, 0, 0, 0, 0, []), (11, .iload 5, 2, true, 0, 0, 0, 0, 0, []), (13, .aload_n 0, 1, false, 0, 0, 0, 0, 0, []), (14, .getfield 24, 3, false, 1, 4, 0, 0, 0, []), (17, .if_icmp .ge 40, 3, false, 29, 0, 0, 0, 0, []), (20, .iload 5, 2, false, 0, 0, 0, 0, 0, []), (22, .bipush 8, 2, false, 0, 0, 0, 0, 0, []), (24, .if_icmp .ge 33, 3, false, 29, 0, 0, 0, 0, []), (27, .lload_n 1, 1, false, 0, 0, 0, 0, 0, []), (28, .aload_n 0, 1, false, 0, 0, 0, 0, 0, []), (29, .getfield 9, 3, false, 1, 0, 5, 0, 0, []), (32, .iload 5, 2, false, 0, 0, 0, 0, 0, []), (34, .iaload, 1, false, 0, 0, 0, 0, 0, []), (35, .i2l, 1, false, 0, 0, 0, 0, 0, []), (36, .invokestatic 60, 3, false, 0, 0, 13, 0, 0, []), (39, .lstore_n 1, 1, false, 0, 0, 0, 0, 0, []), (40, .lload_n 3, 1, false, 0, 0, 0, 0, 0, []), (41, .aload_n 0, 1, false, 0, 0, 0, 0, 0, []), (42, .iload 5, 2, false, 0, 0, 0, 0, 0, []), (44, .invokevirtual 36, 3, false, 2, 2, 2, 1, 0, []), (47, .invokestatic 64, 3, false, 0, 0, 12, 0, 0, []), (50, .lstore_n 3, 1, false, 0, 0, 0, 0, 0, []), (51, .iinc 5 1, 3, false, 0, 0, 0, 0, 0, []), (54, .goto (-43), 3, false, 6, 0, 0, 0, 0, []), (57, .aload_n 0, 1, false, 0, 0, 0, 0, 0, []), (58, .getfield 24, 3, false, 1, 4, 0, 0, 0, []), (61, .ifCond .le 9, 3, false, 36, 0, 0, 0, 0, []), (64, .lload_n 3, 1, false, 0, 0, 0, 0, 0, []), (65, .lload_n 1, 1, false, 0, 0, 0, 0, 0, []), (66, .lsub, 1, false, 0, 0, 0, 0, 0, []), (67, .goto 4, 3, false, 37, 0, 0, 0, 0, []), (70, .lconst 0, 1, false, 0, 0, 0, 0, 0, []), (71, .lreturn, 1, false, 0, 0, 0, 0, 0, [])]
noncomputable def mdX0_extent : mm_M := (yX0_extent, cX0_extent, 6, (some .long), 0, 2, tbX0_extent)
set_option maxRecDepth 20000 in
noncomputable def tbX0_untold : List mm_E := [(0, .lconst 0, 1, false, 0, 0, 0, 0, 0, []), (1, .lstore_n 1, 1, false, 0, 0, 0, 0, 0, []), (2, .iconst 0, 1, false, 0, 0, 0, 0, 0, []), (3, .istore_n 3, 1, false, 0, 0, 0, 0, 0, []), (4, .iload_n 3, 1, true, 0, 0, 0, 0, 0, []), (5, .aload_n 0, 1, false, 0, 0, 0, 0, 0, []), (6, .getfield 24, 3, false, 1, 4, 0, 0, 0, []), (9, .if_icmp .ge 29, 3, false, 22, 0, 0, 0, 0, []), (12, .aload_n 0, 1, false, 0, 0, 0, 0, 0, []), (13, .iload_n 3, 1, false, 0, 0, 0, 0, 0, []), (14, .invokevirtual 67, 3, false, 12, 2, 1, 1, 0, []), (17, .ifCond .eq 15, 3, false, 20, 0, 0, 0, 0, []), (20, .lload_n 1, 1, false, 0, 0, 0, 0, 0, []), (21, .aload_n 0, 1, false, 0, 0, 0, 0, 0, []), (22, .aload_n 0, 1, false, 0, 0, 0, 0, 0, []), (23, .iload_n 3, 1, false, 0, 0, 0, 0, 0, []), (24, .invokevirtual 36, 3, false, 2, 2, 2, 1, 0, []), (27, .invokevirtual 70, 3, false, 13, 2, 2, 1, 0, []), (30, .ladd, 1, false, 0, 0, 0, 0, 0, []), (31, .lstore_n 1, 1, false, 0, 0, 0, 0, 0, []), (32, .iinc 3 1, 3, false, 0, 0, 0, 0, 0, []), (35, .goto (-31), 3, false, 4, 0, 0, 0, 0, []), (38, .lload_n 1, 1, false, 0, 0, 0, 0, 0, []), (39, .lreturn, 1, false, 0, 0, 0, 0, 0, [])]
noncomputable def mdX0_untold : mm_M := (yX0_untold, cX0_untold, 4, (some .long), 0, 2, tbX0_untold)
set_option maxRecDepth 20000 in
noncomputable def tbX0_isFirstToEnd : List mm_E := [(0, .iconst 0, 1, false, 0, 0, 0, 0, 0, []), (1, .istore_n 2, 1, false, 0, 0, 0, 0, 0, []), (2, .iload_n 2, 1, true, 0, 0, 0, 0, 0, []), (3, .iload_n 1, 1, false, 0, 0, 0, 0, 0, []), (4, .if_icmp .ge 25, 3, false, 17, 0, 0, 0, 0, []), (7, .aload_n 0, 1, false, 0, 0, 0, 0, 0, []), (8, .iload_n 2, 1, false, 0, 0, 0, 0, 0, []), (9, .invokevirtual 36, 3, false, 2, 2, 2, 1, 0, []), (12, .aload_n 0, 1, false, 0, 0, 0, 0, 0, []), (13, .iload_n 1, 1, false, 0, 0, 0, 0, 0, []), (14, .invokevirtual 36, 3, false, 2, 2, 2, 1, 0, []), (17, .lcmp, 1, false, 0, 0, 0, 0, 0, []), (18, .ifCond .ne 5, 3, false, 15, 0, 0, 0, 0, []), (21, .iconst 0, 1, false, 0, 0, 0, 0, 0, []), (22, .ireturn, 1, false, 0, 0, 1, 0, 0, []), (23, .iinc 2 1, 3, false, 0, 0, 0, 0, 0, []), (26, .goto (-24), 3, false, 2, 0, 0, 0, 0, []), (29, .iconst 1, 1, false, 0, 0, 0, 0, 0, []), (30, .ireturn, 1, false, 0, 0, 1, 0, 0, [])]
noncomputable def mdX0_isFirstToEnd : mm_M := (yX0_isFirstToEnd, cX0_isFirstToEnd, 3, (some .boolean), 0, 1, tbX0_isFirstToEnd)
set_option maxRecDepth 20000 in
noncomputable def tbX0_gapBehind : List mm_E := [(0, .ldc2_w 56, 3, false, 0, 0, 0, 0, 9223372036854775807, []), (3, .lstore_n 3, 1, false, 0, 0, 0, 0, 0, []), (4, .iconst 0, 1, false, 0, 0, 0, 0, 0, []), (5, .istore 5, 2, false, 0, 0, 0, 0, 0, []), (7, .iload 5, 2, true, 0, 0, 0, 0, 0, []), (9, .aload_n 0, 1, false, 0, 0, 0, 0, 0, []), (10, .getfield 24, 3, false, 1, 4, 0, 0, 0, []), (13, .if_icmp .ge 58, 3, false, 38, 0, 0, 0, 0, []), (16, .iload 5, 2, false, 0, 0, 0, 0, 0, []), (18, .bipush 8, 2, false, 0, 0, 0, 0, 0, []), (20, .if_icmp .ge 51, 3, false, 38, 0, 0, 0, 0, []), (23, .aload_n 0, 1, false, 0, 0, 0, 0, 0, []), (24, .getfield 9, 3, false, 1, 0, 5, 0, 0, []), (27, .iload 5, 2, false, 0, 0, 0, 0, 0, []), (29, .iaload, 1, false, 0, 0, 0, 0, 0, []), (30, .i2l, 1, false, 0, 0, 0, 0, 0, []), (31, .lload_n 1, 1, false, 0, 0, 0, 0, 0, []), (32, .lcmp, 1, false, 0, 0, 0, 0, 0, []), (33, .ifCond .le 19, 3, false, 28, 0, 0, 0, 0, []), (36, .lload_n 3, 1, false, 0, 0, 0, 0, 0, []), (37, .aload_n 0, 1, false, 0, 0, 0, 0, 0, []), (38, .getfield 9, 3, false, 1, 0, 5, 0, 0, []), (41, .iload 5, 2, false, 0, 0, 0, 0, 0, []), (43, .iaload, 1, false, 0, 0, 0, 0, 0, []), (44, .i2l, 1, false, 0, 0, 0, 0, 0, []), (45, .invokestatic 60, 3, false, 0, 0, 13, 0, 0, []), (48, .lstore_n 3, 1, false, 0, 0, 0, 0, 0, []), (49, .goto 16, 3, false, 36, 0, 0, 0, 0, []), (52, .aload_n 0, 1, false, 0, 0, 0, 0, 0, []), (53, .iload 5, 2, false, 0, 0, 0, 0, 0, []), (55, .invokevirtual 36, 3, false, 2, 2, 2, 1, 0, []), (58, .lload_n 1, 1, false, 0, 0, 0, 0, 0, []), (59, .lcmp, 1, false, 0, 0, 0, 0, 0, []), (60, .ifCond .le 5, 3, false, 36, 0, 0, 0, 0, []), (63, .lconst 0, 1, false, 0, 0, 0, 0, 0, []), (64, .lreturn, 1, false, 0, 0, 0, 0, 0, []), (65, .iinc 5 1, 3, false, 0, 0, 0, 0, 0, []), (68, .goto (-61), 3, false, 4, 0, 0, 0, 0, []), (71, .lload_n 3, 1, false, 0, 0, 0, 0, 0, []), (72, .ldc2_w 56, 3, false, 0, 0, 0, 0, 9223372036854775807, []), (75, .lcmp, 1, false, 0, 0, 0, 0, 0, []), (76, .ifCond .ne 7, 3, false, 44, 0, 0, 0, 0, []), (79, .lconst 0, 1, false, 0, 0, 0, 0, 0, []), (80, .goto 6, 3, false, 47, 0, 0, 0, 0, []), (83, .lload_n 3, 1, false, 0, 0, 0, 0, 0, []), (84, .lload_n 1, 1, false, 0, 0, 0, 0, 0, []), (85, .lsub, 1, false, 0, 0, 0, 0, 0, []), (86, .lreturn, 1, false, 0, 0, 0, 0, 0, [])]
noncomputable def mdX0_gapBehind : mm_M := (yX0_gapBehind, cX0_gapBehind, 6, (some .long), 0, 2, tbX0_gapBehind)
set_option maxRecDepth 20000 in
noncomputable def tbX1_find : List mm_E := [(0, .aload_n 0, 1, false, 0, 0, 0, 0, 0, []), (1, .iconst 1, 1, false, 0, 0, 0, 0, 0, []), (2, .putfield 44, 3, false, 16, 10, 2, 0, 0, []), (5, .aload_n 0, 1, false, 0, 0, 0, 0, 0, []), (6, .iconst 0, 1, false, 0, 0, 0, 0, 0, []), (7, .putfield 37, 3, false, 16, 8, 0, 0, 0, []), (10, .aload_n 0, 1, false, 0, 0, 0, 0, 0, []), (11, .ldc2_w 50, 3, false, 0, 0, 0, 0, 9223372036854775807, []), (14, .putfield 40, 3, false, 16, 9, 1, 0, 0, []), (17, .aload_n 0, 1, false, 0, 0, 0, 0, 0, []), (18, .iconst 0, 1, false, 0, 0, 0, 0, 0, []), (19, .putfield 31, 3, false, 16, 6, 0, 0, 0, []), (22, .aload_n 0, 1, false, 0, 0, 0, 0, 0, []), (23, .iload 4, 2, false, 0, 0, 0, 0, 0, []), (25, .putfield 28, 3, false, 16, 5, 0, 0, 0, []), (28, .aload_n 0, 1, false, 0, 0, 0, 0, 0, []), (29, .aload_n 1, 1, false, 0, 0, 0, 0, 0, []), (30, .aload_n 2, 1, false, 0, 0, 0, 0, 0, []), (31, .iload_n 3, 1, false, 0, 0, 0, 0, 0, []), (32, .invokevirtual 52, 3, false, 15, 4, 0, 16, 0, []), (35, .aload_n 0, 1, false, 0, 0, 0, 0, 0, []), (36, .getfield 15, 3, false, 16, 1, 0, 0, 0, []), (39, .ifCond .le 45, 3, false, 50, 0, 0, 0, 0, []), (42, .aload_n 0, 1, false, 0, 0, 0, 0, 0, []), (43, .getfield 9, 3, false, 16, 0, 20, 0, 0, []), (46, .iconst 0, 1, false, 0, 0, 0, 0, 0, []), (47, .iaload, 1, false, 0, 0, 0, 0, 0, []), (48, .istore 5, 2, false, 0, 0, 0, 0, 0, []), (50, .aload_n 0, 1, false, 0, 0, 0, 0, 0, []), (51, .getfield 19, 3, false, 16, 2, 21, 0, 0, []), (54, .iload 5, 2, false, 0, 0, 0, 0, 0, []), (56, .iconst (-1), 1, false, 0, 0, 0, 0, 0, []), (57, .iastore, 1, false, 0, 0, 0, 0, 0, []), (58, .aload_n 0, 1, false, 0, 0, 0, 0, 0, []), (59, .getfield 22, 3, false, 16, 3, 22, 0, 0, []), (62, .iload 5, 2, false, 0, 0, 0, 0, 0, []), (64, .bipush (-9), 2, false, 0, 0, 0, 0, 0, []), (66, .iastore, 1, false, 0, 0, 0, 0, 0, []), (67, .aload_n 0, 1, false, 0, 0, 0, 0, 0, []), (68, .getfield 25, 3, false, 16, 4, 23, 0, 0, []), (71, .iconst 0, 1, false, 0, 0, 0, 0, 0, []), (72, .iload 5, 2, false, 0, 0, 0, 0, 0, []), (74, .iastore, 1, false, 0, 0, 0, 0, 0, []), (75, .aload_n 0, 1, false, 0, 0, 0, 0, 0, []), (76, .aload_n 1, 1, false, 0, 0, 0, 0, 0, []), (77, .iconst 1, 1, false, 0, 0, 0, 0, 0, []), (78, .iconst 1, 1, false, 0, 0, 0, 0, 0, []), (79, .lconst 0, 1, false, 0, 0, 0, 0, 0, []), (80, .iconst 0, 1, false, 0, 0, 0, 0, 0, []), (81, .invokevirtual 56, 3, false, 16, 6, 0, 16, 0, []), (84, .return_, 1, false, 0, 0, 0, 0, 0, [])]
noncomputable def mdX1_find : mm_M := (yX1_find, cX1_find, 6, none, 1, 0, tbX1_find)
set_option maxRecDepth 20000 in
noncomputable def tbX1_takeRow : List mm_E := [(0, .aload_n 0, 1, false, 0, 0, 0, 0, 0, []), (1, .iconst 0, 1, false, 0, 0, 0, 0, 0, []), (2, .putfield 15, 3, false, 16, 1, 0, 0, 0, []), (5, .iconst 0, 1, false, 0, 0, 0, 0, 0, []), (6, .istore 4, 2, false, 0, 0, 0, 0, 0, []), (8, .iload 4, 2, true, 0, 0, 0, 0, 0, []), (10, .iload_n 3, 1, false, 0, 0, 0, 0, 0, []), (11, .if_icmp .ge 57, 3, false, 37, 0, 0, 0, 0, []), (14, .iload 4, 2, false, 0, 0, 0, 0, 0, []), (16, .aload_n 2, 1, false, 0, 0, 0, 0, 0, []), (17, .arraylength, 1, false, 0, 0, 0, 0, 0, []), (18, .if_icmp .ge 50, 3, false, 37, 0, 0, 0, 0, []), (21, .iload 4, 2, false, 0, 0, 0, 0, 0, []), (23, .bipush 8, 2, false, 0, 0, 0, 0, 0, []), (25, .if_icmp .ge 43, 3, false, 37, 0, 0, 0, 0, []), (28, .aload_n 1, 1, false, 0, 0, 0, 0, 0, []), (29, .aload_n 2, 1, false, 0, 0, 0, 0, 0, []), (30, .iload 4, 2, false, 0, 0, 0, 0, 0, []), (32, .iaload, 1, false, 0, 0, 0, 0, 0, []), (33, .invokevirtual 60, 3, false, 0, 2, 1, 1, 0, []), (36, .ifCond .eq 26, 3, false, 35, 0, 0, 0, 0, []), (39, .aload_n 0, 1, false, 0, 0, 0, 0, 0, []), (40, .getfield 9, 3, false, 16, 0, 20, 0, 0, []), (43, .aload_n 0, 1, false, 0, 0, 0, 0, 0, []), (44, .getfield 15, 3, false, 16, 1, 0, 0, 0, []), (47, .aload_n 2, 1, false, 0, 0, 0, 0, 0, []), (48, .iload 4, 2, false, 0, 0, 0, 0, 0, []), (50, .iaload, 1, false, 0, 0, 0, 0, 0, []), (51, .iastore, 1, false, 0, 0, 0, 0, 0, []), (52, .aload_n 0, 1, false, 0, 0, 0, 0, 0, []), (53, .dup, 1, false, 0, 0, 0, 0, 0, []), (54, .getfield 15, 3, false, 16, 1, 0, 0, 0, []), (57, .iconst 1, 1, false, 0, 0, 0, 0, 0, []), (58, .iadd, 1, false, 0, 0, 0, 0, 0, []), (59, .putfield 15, 3, false, 16, 1, 0, 0, 0, []), (62, .iinc 4 1, 3, false, 0, 0, 0, 0, 0, []), (65, .goto (-57), 3, false, 5, 0, 0, 0, 0, []), (68, .return_, 1, false, 0, 0, 0, 0, 0, [])]
noncomputable def mdX1_takeRow : mm_M := (yX1_takeRow, cX1_takeRow, 5, none, 1, 0, tbX1_takeRow)
set_option maxRecDepth 20000 in
noncomputable def tbX1_setFrom : List mm_E := [(0, .lload 4, 2, false, 0, 0, 0, 0, 0, []), (2, .aload_n 0, 1, false, 0, 0, 0, 0, 0, []), (3, .getfield 40, 3, false, 16, 9, 1, 0, 0, []), (6, .lcmp, 1, false, 0, 0, 0, 0, 0, []), (7, .ifCond .gt 22, 3, false, 14, 0, 0, 0, 0, []), (10, .lload 4, 2, false, 0, 0, 0, 0, 0, []), (12, .aload_n 0, 1, false, 0, 0, 0, 0, 0, []), (13, .getfield 40, 3, false, 16, 9, 1, 0, 0, []), (16, .lcmp, 1, false, 0, 0, 0, 0, 0, []), (17, .ifCond .ne 13, 3, false, 15, 0, 0, 0, 0, []), (20, .iload 6, 2, false, 0, 0, 0, 0, 0, []), (22, .aload_n 0, 1, false, 0, 0, 0, 0, 0, []), (23, .getfield 31, 3, false, 16, 6, 0, 0, 0, []), (26, .if_icmp .lt 4, 3, false, 15, 0, 0, 0, 0, []), (29, .return_, 1, false, 0, 0, 0, 0, 0, []), (30, .iload_n 2, 1, false, 0, 0, 0, 0, 0, []), (31, .iconst 1, 1, false, 0, 0, 0, 0, 0, []), (32, .if_icmp .lt 17, 3, false, 25, 0, 0, 0, 0, []), (35, .iload_n 2, 1, false, 0, 0, 0, 0, 0, []), (36, .aload_n 0, 1, false, 0, 0, 0, 0, 0, []), (37, .getfield 15, 3, false, 16, 1, 0, 0, 0, []), (40, .if_icmp .ge 9, 3, false, 25, 0, 0, 0, 0, []), (43, .iload_n 2, 1, false, 0, 0, 0, 0, 0, []), (44, .bipush 8, 2, false, 0, 0, 0, 0, 0, []), (46, .if_icmp .lt 13, 3, false, 31, 0, 0, 0, 0, []), (49, .aload_n 0, 1, false, 0, 0, 0, 0, 0, []), (50, .iload_n 3, 1, false, 0, 0, 0, 0, 0, []), (51, .lload 4, 2, false, 0, 0, 0, 0, 0, []), (53, .iload 6, 2, false, 0, 0, 0, 0, 0, []), (55, .invokevirtual 66, 3, false, 19, 4, 0, 16, 0, []), (58, .return_, 1, false, 0, 0, 0, 0, 0, []), (59, .aload_n 0, 1, false, 0, 0, 0, 0, 0, []), (60, .getfield 9, 3, false, 16, 0, 20, 0, 0, []), (63, .iload_n 2, 1, false, 0, 0, 0, 0, 0, []), (64, .iconst 1, 1, false, 0, 0, 0, 0, 0, []), (65, .isub, 1, false, 0, 0, 0, 0, 0, []), (66, .iaload, 1, false, 0, 0, 0, 0, 0, []), (67, .istore 7, 2, false, 0, 0, 0, 0, 0, []), (69, .iload_n 3, 1, false, 0, 0, 0, 0, 0, []), (70, .istore 8, 2, false, 0, 0, 0, 0, 0, []), (72, .iconst 0, 1, false, 0, 0, 0, 0, 0, []), (73, .istore 9, 2, false, 0, 0, 0, 0, 0, []), (75, .iload 9, 2, true, 0, 0, 0, 0, 0, []), (77, .bipush 8, 2, false, 0, 0, 0, 0, 0, []), (79, .if_icmp .ge 76, 3, false, 83, 0, 0, 0, 0, []), (82, .aload_n 1, 1, false, 0, 0, 0, 0, 0, []), (83, .iload 7, 2, false, 0, 0, 0, 0, 0, []), (85, .invokevirtual 60, 3, false, 0, 2, 1, 1, 0, []), (88, .ifCond .eq 67, 3, false, 83, 0, 0, 0, 0, []), (91, .iload 8, 2, false, 0, 0, 0, 0, 0, []), (93, .iconst 1, 1, false, 0, 0, 0, 0, 0, []), (94, .iadd, 1, false, 0, 0, 0, 0, 0, []), (95, .bipush 40, 2, false, 0, 0, 0, 0, 0, []), (97, .if_icmp .ge 58, 3, false, 83, 0, 0, 0, 0, []), (100, .aload_n 0, 1, false, 0, 0, 0, 0, 0, []), (101, .aload_n 1, 1, false, 0, 0, 0, 0, 0, []), (102, .iload_n 2, 1, false, 0, 0, 0, 0, 0, []), (103, .iload 8, 2, false, 0, 0, 0, 0, 0, []), (105, .iload 7, 2, false, 0, 0, 0, 0, 0, []), (107, .lload 4, 2, false, 0, 0, 0, 0, 0, []), (109, .iload 6, 2, false, 0, 0, 0, 0, 0, []), (111, .invokevirtual 70, 3, false, 17, 7, 0, 16, 0, []), (114, .aload_n 0, 1, false, 0, 0, 0, 0, 0, []), (115, .aload_n 1, 1, false, 0, 0, 0, 0, 0, []), (116, .iload_n 2, 1, false, 0, 0, 0, 0, 0, []), (117, .iload 8, 2, false, 0, 0, 0, 0, 0, []), (119, .iload 7, 2, false, 0, 0, 0, 0, 0, []), (121, .lload 4, 2, false, 0, 0, 0, 0, 0, []), (123, .iload 6, 2, false, 0, 0, 0, 0, 0, []), (125, .invokevirtual 74, 3, false, 18, 7, 0, 16, 0, []), (128, .aload_n 0, 1, false, 0, 0, 0, 0, 0, []), (129, .getfield 25, 3, false, 16, 4, 23, 0, 0, []), (132, .iload 8, 2, false, 0, 0, 0, 0, 0, []), (134, .bipush 21, 2, false, 0, 0, 0, 0, 0, []), (136, .iastore, 1, false, 0, 0, 0, 0, 0, []), (137, .iinc 8 1, 3, false, 0, 0, 0, 0, 0, []), (140, .aload_n 0, 1, false, 0, 0, 0, 0, 0, []), (141, .getfield 19, 3, false, 16, 2, 21, 0, 0, []), (144, .iload 7, 2, false, 0, 0, 0, 0, 0, []), (146, .iaload, 1, false, 0, 0, 0, 0, 0, []), (147, .istore 7, 2, false, 0, 0, 0, 0, 0, []), (149, .iinc 9 1, 3, false, 0, 0, 0, 0, 0, []), (152, .goto (-77), 3, false, 42, 0, 0, 0, 0, []), (155, .return_, 1, false, 0, 0, 0, 0, 0, [])]
noncomputable def mdX1_setFrom : mm_M := (yX1_setFrom, cX1_setFrom, 10, none, 1, 0, tbX1_setFrom)
set_option maxRecDepth 20000 in
noncomputable def tbX1_setBeside : List mm_E := [(0, .aload_n 0, 1, false, 0, 0, 0, 0, 0, []), (1, .getfield 9, 3, false, 16, 0, 20, 0, 0, []), (4, .iload_n 2, 1, false, 0, 0, 0, 0, 0, []), (5, .iaload, 1, false, 0, 0, 0, 0, 0, []), (6, .istore 8, 2, false, 0, 0, 0, 0, 0, []), (8, .aload_n 0, 1, false, 0, 0, 0, 0, 0, []), (9, .getfield 19, 3, false, 16, 2, 21, 0, 0, []), (12, .iload 4, 2, false, 0, 0, 0, 0, 0, []), (14, .iaload, 1, false, 0, 0, 0, 0, 0, []), (15, .istore 9, 2, false, 0, 0, 0, 0, 0, []), (17, .iload 9, 2, false, 0, 0, 0, 0, 0, []), (19, .iconst (-1), 1, false, 0, 0, 0, 0, 0, []), (20, .if_icmp .eq 22, 3, false, 23, 0, 0, 0, 0, []), (23, .aload_n 1, 1, false, 0, 0, 0, 0, 0, []), (24, .iload 8, 2, false, 0, 0, 0, 0, 0, []), (26, .iload 9, 2, false, 0, 0, 0, 0, 0, []), (28, .invokevirtual 77, 3, false, 5, 3, 1, 1, 0, []), (31, .aload_n 0, 1, false, 0, 0, 0, 0, 0, []), (32, .getfield 22, 3, false, 16, 3, 22, 0, 0, []), (35, .iload 4, 2, false, 0, 0, 0, 0, 0, []), (37, .iaload, 1, false, 0, 0, 0, 0, 0, []), (38, .if_icmp .eq 4, 3, false, 23, 0, 0, 0, 0, []), (41, .return_, 1, false, 0, 0, 0, 0, 0, []), (42, .aload_n 0, 1, false, 0, 0, 0, 0, 0, []), (43, .getfield 19, 3, false, 16, 2, 21, 0, 0, []), (46, .iload 8, 2, false, 0, 0, 0, 0, 0, []), (48, .iload 9, 2, false, 0, 0, 0, 0, 0, []), (50, .iastore, 1, false, 0, 0, 0, 0, 0, []), (51, .aload_n 0, 1, false, 0, 0, 0, 0, 0, []), (52, .getfield 22, 3, false, 16, 3, 22, 0, 0, []), (55, .iload 8, 2, false, 0, 0, 0, 0, 0, []), (57, .aload_n 0, 1, false, 0, 0, 0, 0, 0, []), (58, .getfield 22, 3, false, 16, 3, 22, 0, 0, []), (61, .iload 4, 2, false, 0, 0, 0, 0, 0, []), (63, .iaload, 1, false, 0, 0, 0, 0, 0, []), (64, .iastore, 1, false, 0, 0, 0, 0, 0, []), (65, .aload_n 0, 1, false, 0, 0, 0, 0, 0, []), (66, .getfield 25, 3, false, 16, 4, 23, 0, 0, []), (69, .iload_n 3, 1, false, 0, 0, 0, 0, 0, []), (70, .iload 8, 2, false, 0, 0, 0, 0, 0, []), (72, .iastore, 1, false, 0, 0, 0, 0, 0, []), (73, .aload_n 0, 1, false, 0, 0, 0, 0, 0, []), (74, .aload_n 1, 1, false, 0, 0, 0, 0, 0, []), (75, .iload_n 2, 1, false, 0, 0, 0, 0, 0, []), (76, .iconst 1, 1, false, 0, 0, 0, 0, 0, []), (77, .iadd, 1, false, 0, 0, 0, 0, 0, []), (78, .iload_n 3, 1, false, 0, 0, 0, 0, 0, []), (79, .iconst 1, 1, false, 0, 0, 0, 0, 0, []), (80, .iadd, 1, false, 0, 0, 0, 0, 0, []), (81, .lload 5, 2, false, 0, 0, 0, 0, 0, []), (83, .aload_n 1, 1, false, 0, 0, 0, 0, 0, []), (84, .iload 4, 2, false, 0, 0, 0, 0, 0, []), (86, .iload 8, 2, false, 0, 0, 0, 0, 0, []), (88, .invokevirtual 81, 3, false, 4, 3, 2, 1, 0, []), (91, .ladd, 1, false, 0, 0, 0, 0, 0, []), (92, .iload 7, 2, false, 0, 0, 0, 0, 0, []), (94, .invokevirtual 56, 3, false, 16, 6, 0, 16, 0, []), (97, .return_, 1, false, 0, 0, 0, 0, 0, [])]
noncomputable def mdX1_setBeside : mm_M := (yX1_setBeside, cX1_setBeside, 10, none, 1, 0, tbX1_setBeside)
set_option maxRecDepth 20000 in
noncomputable def tbX1_setWithin : List mm_E := [(0, .aload_n 0, 1, false, 0, 0, 0, 0, 0, []), (1, .getfield 9, 3, false, 16, 0, 20, 0, 0, []), (4, .iload_n 2, 1, false, 0, 0, 0, 0, 0, []), (5, .iaload, 1, false, 0, 0, 0, 0, 0, []), (6, .istore 8, 2, false, 0, 0, 0, 0, 0, []), (8, .aload_n 1, 1, false, 0, 0, 0, 0, 0, []), (9, .iload 8, 2, false, 0, 0, 0, 0, 0, []), (11, .iload 4, 2, false, 0, 0, 0, 0, 0, []), (13, .invokevirtual 77, 3, false, 5, 3, 1, 1, 0, []), (16, .istore 9, 2, false, 0, 0, 0, 0, 0, []), (18, .iload 9, 2, false, 0, 0, 0, 0, 0, []), (20, .bipush (-9), 2, false, 0, 0, 0, 0, 0, []), (22, .if_icmp .ne 4, 3, false, 14, 0, 0, 0, 0, []), (25, .return_, 1, false, 0, 0, 0, 0, 0, []), (26, .aload_n 0, 1, false, 0, 0, 0, 0, 0, []), (27, .getfield 19, 3, false, 16, 2, 21, 0, 0, []), (30, .iload 8, 2, false, 0, 0, 0, 0, 0, []), (32, .iload 4, 2, false, 0, 0, 0, 0, 0, []), (34, .iastore, 1, false, 0, 0, 0, 0, 0, []), (35, .aload_n 0, 1, false, 0, 0, 0, 0, 0, []), (36, .getfield 22, 3, false, 16, 3, 22, 0, 0, []), (39, .iload 8, 2, false, 0, 0, 0, 0, 0, []), (41, .iload 9, 2, false, 0, 0, 0, 0, 0, []), (43, .iastore, 1, false, 0, 0, 0, 0, 0, []), (44, .aload_n 0, 1, false, 0, 0, 0, 0, 0, []), (45, .getfield 25, 3, false, 16, 4, 23, 0, 0, []), (48, .iload_n 3, 1, false, 0, 0, 0, 0, 0, []), (49, .bipush 20, 2, false, 0, 0, 0, 0, 0, []), (51, .iastore, 1, false, 0, 0, 0, 0, 0, []), (52, .aload_n 0, 1, false, 0, 0, 0, 0, 0, []), (53, .getfield 25, 3, false, 16, 4, 23, 0, 0, []), (56, .iload_n 3, 1, false, 0, 0, 0, 0, 0, []), (57, .iconst 1, 1, false, 0, 0, 0, 0, 0, []), (58, .iadd, 1, false, 0, 0, 0, 0, 0, []), (59, .iload 8, 2, false, 0, 0, 0, 0, 0, []), (61, .iastore, 1, false, 0, 0, 0, 0, 0, []), (62, .aload_n 0, 1, false, 0, 0, 0, 0, 0, []), (63, .aload_n 1, 1, false, 0, 0, 0, 0, 0, []), (64, .iload_n 2, 1, false, 0, 0, 0, 0, 0, []), (65, .iconst 1, 1, false, 0, 0, 0, 0, 0, []), (66, .iadd, 1, false, 0, 0, 0, 0, 0, []), (67, .iload_n 3, 1, false, 0, 0, 0, 0, 0, []), (68, .iconst 2, 1, false, 0, 0, 0, 0, 0, []), (69, .iadd, 1, false, 0, 0, 0, 0, 0, []), (70, .lload 5, 2, false, 0, 0, 0, 0, 0, []), (72, .aload_n 0, 1, false, 0, 0, 0, 0, 0, []), (73, .getfield 28, 3, false, 16, 5, 0, 0, 0, []), (76, .i2l, 1, false, 0, 0, 0, 0, 0, []), (77, .ladd, 1, false, 0, 0, 0, 0, 0, []), (78, .iload 7, 2, false, 0, 0, 0, 0, 0, []), (80, .iconst 1, 1, false, 0, 0, 0, 0, 0, []), (81, .iadd, 1, false, 0, 0, 0, 0, 0, []), (82, .invokevirtual 56, 3, false, 16, 6, 0, 16, 0, []), (85, .return_, 1, false, 0, 0, 0, 0, 0, [])]
noncomputable def mdX1_setWithin : mm_M := (yX1_setWithin, cX1_setWithin, 10, none, 1, 0, tbX1_setWithin)
set_option maxRecDepth 20000 in
noncomputable def tbX1_keep : List mm_E := [(0, .aload_n 0, 1, false, 0, 0, 0, 0, 0, []), (1, .lload_n 2, 1, false, 0, 0, 0, 0, 0, []), (2, .putfield 40, 3, false, 16, 9, 1, 0, 0, []), (5, .aload_n 0, 1, false, 0, 0, 0, 0, 0, []), (6, .iload 4, 2, false, 0, 0, 0, 0, 0, []), (8, .putfield 31, 3, false, 16, 6, 0, 0, 0, []), (11, .aload_n 0, 1, false, 0, 0, 0, 0, 0, []), (12, .iload_n 1, 1, false, 0, 0, 0, 0, 0, []), (13, .putfield 37, 3, false, 16, 8, 0, 0, 0, []), (16, .aload_n 0, 1, false, 0, 0, 0, 0, 0, []), (17, .getfield 25, 3, false, 16, 4, 23, 0, 0, []), (20, .iconst 0, 1, false, 0, 0, 0, 0, 0, []), (21, .aload_n 0, 1, false, 0, 0, 0, 0, 0, []), (22, .getfield 34, 3, false, 16, 7, 24, 0, 0, []), (25, .iconst 0, 1, false, 0, 0, 0, 0, 0, []), (26, .iload_n 1, 1, false, 0, 0, 0, 0, 0, []), (27, .invokestatic 85, 3, false, 0, 0, 14, 0, 0, []), (30, .aload_n 0, 1, false, 0, 0, 0, 0, 0, []), (31, .invokevirtual 91, 3, false, 20, 1, 0, 16, 0, []), (34, .return_, 1, false, 0, 0, 0, 0, 0, [])]
noncomputable def mdX1_keep : mm_M := (yX1_keep, cX1_keep, 5, none, 1, 0, tbX1_keep)
set_option maxRecDepth 20000 in
noncomputable def tbX1_closeAll : List mm_E := [(0, .aload_n 0, 1, false, 0, 0, 0, 0, 0, []), (1, .getfield 9, 3, false, 16, 0, 20, 0, 0, []), (4, .aload_n 0, 1, false, 0, 0, 0, 0, 0, []), (5, .getfield 15, 3, false, 16, 1, 0, 0, 0, []), (8, .iconst 1, 1, false, 0, 0, 0, 0, 0, []), (9, .isub, 1, false, 0, 0, 0, 0, 0, []), (10, .iaload, 1, false, 0, 0, 0, 0, 0, []), (11, .istore_n 1, 1, false, 0, 0, 0, 0, 0, []), (12, .iconst 0, 1, false, 0, 0, 0, 0, 0, []), (13, .istore_n 2, 1, false, 0, 0, 0, 0, 0, []), (14, .iload_n 2, 1, true, 0, 0, 0, 0, 0, []), (15, .bipush 8, 2, false, 0, 0, 0, 0, 0, []), (17, .if_icmp .ge 56, 3, false, 42, 0, 0, 0, 0, []), (20, .aload_n 0, 1, false, 0, 0, 0, 0, 0, []), (21, .getfield 19, 3, false, 16, 2, 21, 0, 0, []), (24, .iload_n 1, 1, false, 0, 0, 0, 0, 0, []), (25, .iaload, 1, false, 0, 0, 0, 0, 0, []), (26, .iconst (-1), 1, false, 0, 0, 0, 0, 0, []), (27, .if_icmp .eq 46, 3, false, 42, 0, 0, 0, 0, []), (30, .aload_n 0, 1, false, 0, 0, 0, 0, 0, []), (31, .getfield 37, 3, false, 16, 8, 0, 0, 0, []), (34, .bipush 40, 2, false, 0, 0, 0, 0, 0, []), (36, .if_icmp .ge 37, 3, false, 42, 0, 0, 0, 0, []), (39, .aload_n 0, 1, false, 0, 0, 0, 0, 0, []), (40, .getfield 34, 3, false, 16, 7, 24, 0, 0, []), (43, .aload_n 0, 1, false, 0, 0, 0, 0, 0, []), (44, .getfield 37, 3, false, 16, 8, 0, 0, 0, []), (47, .bipush 21, 2, false, 0, 0, 0, 0, 0, []), (49, .iastore, 1, false, 0, 0, 0, 0, 0, []), (50, .aload_n 0, 1, false, 0, 0, 0, 0, 0, []), (51, .dup, 1, false, 0, 0, 0, 0, 0, []), (52, .getfield 37, 3, false, 16, 8, 0, 0, 0, []), (55, .iconst 1, 1, false, 0, 0, 0, 0, 0, []), (56, .iadd, 1, false, 0, 0, 0, 0, 0, []), (57, .putfield 37, 3, false, 16, 8, 0, 0, 0, []), (60, .aload_n 0, 1, false, 0, 0, 0, 0, 0, []), (61, .getfield 19, 3, false, 16, 2, 21, 0, 0, []), (64, .iload_n 1, 1, false, 0, 0, 0, 0, 0, []), (65, .iaload, 1, false, 0, 0, 0, 0, 0, []), (66, .istore_n 1, 1, false, 0, 0, 0, 0, 0, []), (67, .iinc 2 1, 3, false, 0, 0, 0, 0, 0, []), (70, .goto (-56), 3, false, 10, 0, 0, 0, 0, []), (73, .return_, 1, false, 0, 0, 0, 0, 0, [])]
noncomputable def mdX1_closeAll : mm_M := (yX1_closeAll, cX1_closeAll, 3, none, 1, 0, tbX1_closeAll)
set_option maxRecDepth 20000 in
noncomputable def tbX2_find : List mm_E := [(0, .aload_n 0, 1, false, 0, 0, 0, 0, 0, []), (1, .iconst 1, 1, false, 0, 0, 0, 0, 0, []), (2, .putfield 27, 3, false, 13, 4, 2, 0, 0, []), (5, .aload_n 0, 1, false, 0, 0, 0, 0, 0, []), (6, .iconst 0, 1, false, 0, 0, 0, 0, 0, []), (7, .putfield 19, 3, false, 13, 2, 0, 0, 0, []), (10, .aload_n 0, 1, false, 0, 0, 0, 0, 0, []), (11, .lconst 0, 1, false, 0, 0, 0, 0, 0, []), (12, .putfield 23, 3, false, 13, 3, 1, 0, 0, []), (15, .aload_n 1, 1, false, 0, 0, 0, 0, 0, []), (16, .invokevirtual 31, 3, false, 6, 1, 1, 1, 0, []), (19, .istore_n 2, 1, false, 0, 0, 0, 0, 0, []), (20, .iload_n 2, 1, false, 0, 0, 0, 0, 0, []), (21, .istore_n 3, 1, false, 0, 0, 0, 0, 0, []), (22, .iload_n 3, 1, true, 0, 0, 0, 0, 0, []), (23, .ifCond .lt 23, 3, false, 26, 0, 0, 0, 0, []), (26, .iload_n 3, 1, false, 0, 0, 0, 0, 0, []), (27, .sipush 256, 3, false, 0, 0, 0, 0, 0, []), (30, .if_icmp .ge 16, 3, false, 26, 0, 0, 0, 0, []), (33, .aload_n 0, 1, false, 0, 0, 0, 0, 0, []), (34, .aload_n 1, 1, false, 0, 0, 0, 0, 0, []), (35, .iload_n 3, 1, false, 0, 0, 0, 0, 0, []), (36, .iload_n 2, 1, false, 0, 0, 0, 0, 0, []), (37, .invokevirtual 37, 3, false, 22, 4, 0, 13, 0, []), (40, .iinc 3 (-1), 3, false, 0, 0, 0, 0, 0, []), (43, .goto (-21), 3, false, 14, 0, 0, 0, 0, []), (46, .aload_n 1, 1, false, 0, 0, 0, 0, 0, []), (47, .getfield 41, 3, false, 1, 4, 0, 0, 0, []), (50, .ifCond .le 31, 3, false, 45, 0, 0, 0, 0, []), (53, .aload_n 0, 1, false, 0, 0, 0, 0, 0, []), (54, .getfield 11, 3, false, 13, 0, 17, 0, 0, []), (57, .iconst 0, 1, false, 0, 0, 0, 0, 0, []), (58, .laload, 1, false, 0, 0, 0, 0, 0, []), (59, .ldc2_w 42, 3, false, 0, 0, 0, 0, (-1), []), (62, .lcmp, 1, false, 0, 0, 0, 0, 0, []), (63, .ifCond .eq 18, 3, false, 45, 0, 0, 0, 0, []), (66, .aload_n 0, 1, false, 0, 0, 0, 0, 0, []), (67, .aload_n 0, 1, false, 0, 0, 0, 0, 0, []), (68, .getfield 11, 3, false, 13, 0, 17, 0, 0, []), (71, .iconst 0, 1, false, 0, 0, 0, 0, 0, []), (72, .laload, 1, false, 0, 0, 0, 0, 0, []), (73, .putfield 23, 3, false, 13, 3, 1, 0, 0, []), (76, .aload_n 0, 1, false, 0, 0, 0, 0, 0, []), (77, .aload_n 1, 1, false, 0, 0, 0, 0, 0, []), (78, .invokevirtual 44, 3, false, 25, 2, 0, 13, 0, []), (81, .return_, 1, false, 0, 0, 0, 0, 0, [])]
noncomputable def mdX2_find : mm_M := (yX2_find, cX2_find, 4, none, 2, 0, tbX2_find)
set_option maxRecDepth 20000 in
noncomputable def tbX2_fillRest : List mm_E := [(0, .aload_n 1, 1, false, 0, 0, 0, 0, 0, []), (1, .iload_n 2, 1, false, 0, 0, 0, 0, 0, []), (2, .invokevirtual 48, 3, false, 9, 2, 1, 1, 0, []), (5, .istore 4, 2, false, 0, 0, 0, 0, 0, []), (7, .iconst 0, 1, false, 0, 0, 0, 0, 0, []), (8, .istore 5, 2, false, 0, 0, 0, 0, 0, []), (10, .iload 5, 2, true, 0, 0, 0, 0, 0, []), (12, .aload_n 1, 1, false, 0, 0, 0, 0, 0, []), (13, .getfield 41, 3, false, 1, 4, 0, 0, 0, []), (16, .if_icmp .ge 84, 3, false, 55, 0, 0, 0, 0, []), (19, .iload 5, 2, false, 0, 0, 0, 0, 0, []), (21, .bipush 8, 2, false, 0, 0, 0, 0, 0, []), (23, .if_icmp .ge 77, 3, false, 55, 0, 0, 0, 0, []), (26, .iload_n 2, 1, false, 0, 0, 0, 0, 0, []), (27, .iload_n 3, 1, false, 0, 0, 0, 0, 0, []), (28, .if_icmp .ne 19, 3, false, 26, 0, 0, 0, 0, []), (31, .aload_n 0, 1, false, 0, 0, 0, 0, 0, []), (32, .getfield 11, 3, false, 13, 0, 17, 0, 0, []), (35, .iload_n 2, 1, false, 0, 0, 0, 0, 0, []), (36, .bipush 8, 2, false, 0, 0, 0, 0, 0, []), (38, .imul, 1, false, 0, 0, 0, 0, 0, []), (39, .iload 5, 2, false, 0, 0, 0, 0, 0, []), (41, .iadd, 1, false, 0, 0, 0, 0, 0, []), (42, .lconst 0, 1, false, 0, 0, 0, 0, 0, []), (43, .lastore, 1, false, 0, 0, 0, 0, 0, []), (44, .goto 50, 3, false, 53, 0, 0, 0, 0, []), (47, .iload_n 2, 1, false, 0, 0, 0, 0, 0, []), (48, .ifCond .eq 12, 3, false, 32, 0, 0, 0, 0, []), (51, .iload_n 2, 1, false, 0, 0, 0, 0, 0, []), (52, .iload 5, 2, false, 0, 0, 0, 0, 0, []), (54, .invokestatic 52, 3, false, 62, 2, 1, 0, 0, []), (57, .ifCond .eq 37, 3, false, 53, 0, 0, 0, 0, []), (60, .aload_n 0, 1, false, 0, 0, 0, 0, 0, []), (61, .aload_n 1, 1, false, 0, 0, 0, 0, 0, []), (62, .iload_n 2, 1, false, 0, 0, 0, 0, 0, []), (63, .iload 5, 2, false, 0, 0, 0, 0, 0, []), (65, .iload 4, 2, false, 0, 0, 0, 0, 0, []), (67, .invokevirtual 56, 3, false, 23, 5, 1, 13, 0, []), (70, .istore 6, 2, false, 0, 0, 0, 0, 0, []), (72, .aload_n 0, 1, false, 0, 0, 0, 0, 0, []), (73, .getfield 11, 3, false, 13, 0, 17, 0, 0, []), (76, .iload_n 2, 1, false, 0, 0, 0, 0, 0, []), (77, .bipush 8, 2, false, 0, 0, 0, 0, 0, []), (79, .imul, 1, false, 0, 0, 0, 0, 0, []), (80, .iload 5, 2, false, 0, 0, 0, 0, 0, []), (82, .iadd, 1, false, 0, 0, 0, 0, 0, []), (83, .aload_n 0, 1, false, 0, 0, 0, 0, 0, []), (84, .aload_n 1, 1, false, 0, 0, 0, 0, 0, []), (85, .iload_n 2, 1, false, 0, 0, 0, 0, 0, []), (86, .iload 5, 2, false, 0, 0, 0, 0, 0, []), (88, .iload 6, 2, false, 0, 0, 0, 0, 0, []), (90, .invokevirtual 60, 3, false, 24, 5, 2, 13, 0, []), (93, .lastore, 1, false, 0, 0, 0, 0, 0, []), (94, .iinc 5 1, 3, false, 0, 0, 0, 0, 0, []), (97, .goto (-87), 3, false, 6, 0, 0, 0, 0, []), (100, .return_, 1, false, 0, 0, 0, 0, 0, [])]
noncomputable def mdX2_fillRest : mm_M := (yX2_fillRest, cX2_fillRest, 7, none, 2, 0, tbX2_fillRest)
set_option maxRecDepth 20000 in
noncomputable def tbX2_nextBehind : List mm_E := [(0, .ldc2_w 42, 3, false, 0, 0, 0, 0, (-1), []), (3, .lstore 5, 2, false, 0, 0, 0, 0, 0, []), (5, .iconst (-1), 1, false, 0, 0, 0, 0, 0, []), (6, .istore 7, 2, false, 0, 0, 0, 0, 0, []), (8, .iconst 0, 1, false, 0, 0, 0, 0, 0, []), (9, .istore 8, 2, false, 0, 0, 0, 0, 0, []), (11, .iload 8, 2, true, 0, 0, 0, 0, 0, []), (13, .aload_n 1, 1, false, 0, 0, 0, 0, 0, []), (14, .getfield 41, 3, false, 1, 4, 0, 0, 0, []), (17, .if_icmp .ge 61, 3, false, 38, 0, 0, 0, 0, []), (20, .iload 4, 2, false, 0, 0, 0, 0, 0, []), (22, .iload 8, 2, false, 0, 0, 0, 0, 0, []), (24, .invokestatic 52, 3, false, 62, 2, 1, 0, 0, []), (27, .ifCond .eq 45, 3, false, 36, 0, 0, 0, 0, []), (30, .aload_n 0, 1, false, 0, 0, 0, 0, 0, []), (31, .aload_n 1, 1, false, 0, 0, 0, 0, 0, []), (32, .iload_n 2, 1, false, 0, 0, 0, 0, 0, []), (33, .iload_n 3, 1, false, 0, 0, 0, 0, 0, []), (34, .iload 8, 2, false, 0, 0, 0, 0, 0, []), (36, .invokevirtual 60, 3, false, 24, 5, 2, 13, 0, []), (39, .lstore 9, 2, false, 0, 0, 0, 0, 0, []), (41, .lload 9, 2, false, 0, 0, 0, 0, 0, []), (43, .ldc2_w 42, 3, false, 0, 0, 0, 0, (-1), []), (46, .lcmp, 1, false, 0, 0, 0, 0, 0, []), (47, .ifCond .eq 25, 3, false, 36, 0, 0, 0, 0, []), (50, .iload 7, 2, false, 0, 0, 0, 0, 0, []), (52, .iconst (-1), 1, false, 0, 0, 0, 0, 0, []), (53, .if_icmp .eq 11, 3, false, 32, 0, 0, 0, 0, []), (56, .lload 9, 2, false, 0, 0, 0, 0, 0, []), (58, .lload 5, 2, false, 0, 0, 0, 0, 0, []), (60, .lcmp, 1, false, 0, 0, 0, 0, 0, []), (61, .ifCond .ge 11, 3, false, 36, 0, 0, 0, 0, []), (64, .lload 9, 2, false, 0, 0, 0, 0, 0, []), (66, .lstore 5, 2, false, 0, 0, 0, 0, 0, []), (68, .iload 8, 2, false, 0, 0, 0, 0, 0, []), (70, .istore 7, 2, false, 0, 0, 0, 0, 0, []), (72, .iinc 8 1, 3, false, 0, 0, 0, 0, 0, []), (75, .goto (-64), 3, false, 6, 0, 0, 0, 0, []), (78, .iload 7, 2, false, 0, 0, 0, 0, 0, []), (80, .ireturn, 1, false, 0, 0, 0, 0, 0, [])]
noncomputable def mdX2_nextBehind : mm_M := (yX2_nextBehind, cX2_nextBehind, 11, (some .int), 2, 1, tbX2_nextBehind)
set_option maxRecDepth 20000 in
noncomputable def tbX2_restBy : List mm_E := [(0, .iload 4, 2, false, 0, 0, 0, 0, 0, []), (2, .ifCond .lt 10, 3, false, 5, 0, 0, 0, 0, []), (5, .iload 4, 2, false, 0, 0, 0, 0, 0, []), (7, .bipush 8, 2, false, 0, 0, 0, 0, 0, []), (9, .if_icmp .lt 7, 3, false, 7, 0, 0, 0, 0, []), (12, .ldc2_w 42, 3, false, 0, 0, 0, 0, (-1), []), (15, .lreturn, 1, false, 0, 0, 0, 0, 0, []), (16, .iload_n 2, 1, false, 0, 0, 0, 0, 0, []), (17, .iconst 1, 1, false, 0, 0, 0, 0, 0, []), (18, .iload 4, 2, false, 0, 0, 0, 0, 0, []), (20, .ishl, 1, false, 0, 0, 0, 0, 0, []), (21, .ior, 1, false, 0, 0, 0, 0, 0, []), (22, .bipush 8, 2, false, 0, 0, 0, 0, 0, []), (24, .imul, 1, false, 0, 0, 0, 0, 0, []), (25, .iload 4, 2, false, 0, 0, 0, 0, 0, []), (27, .iadd, 1, false, 0, 0, 0, 0, 0, []), (28, .istore 5, 2, false, 0, 0, 0, 0, 0, []), (30, .iload 5, 2, false, 0, 0, 0, 0, 0, []), (32, .ifCond .lt 27, 3, false, 31, 0, 0, 0, 0, []), (35, .iload 5, 2, false, 0, 0, 0, 0, 0, []), (37, .aload_n 0, 1, false, 0, 0, 0, 0, 0, []), (38, .getfield 11, 3, false, 13, 0, 17, 0, 0, []), (41, .arraylength, 1, false, 0, 0, 0, 0, 0, []), (42, .if_icmp .ge 17, 3, false, 31, 0, 0, 0, 0, []), (45, .aload_n 0, 1, false, 0, 0, 0, 0, 0, []), (46, .getfield 11, 3, false, 13, 0, 17, 0, 0, []), (49, .iload 5, 2, false, 0, 0, 0, 0, 0, []), (51, .laload, 1, false, 0, 0, 0, 0, 0, []), (52, .ldc2_w 42, 3, false, 0, 0, 0, 0, (-1), []), (55, .lcmp, 1, false, 0, 0, 0, 0, 0, []), (56, .ifCond .ne 7, 3, false, 33, 0, 0, 0, 0, []), (59, .ldc2_w 42, 3, false, 0, 0, 0, 0, (-1), []), (62, .lreturn, 1, false, 0, 0, 0, 0, 0, []), (63, .aload_n 0, 1, false, 0, 0, 0, 0, 0, []), (64, .getfield 11, 3, false, 13, 0, 17, 0, 0, []), (67, .iload 5, 2, false, 0, 0, 0, 0, 0, []), (69, .laload, 1, false, 0, 0, 0, 0, 0, []), (70, .iload_n 2, 1, false, 0, 0, 0, 0, 0, []), (71, .ifCond .ne 7, 3, false, 41, 0, 0, 0, 0, []), (74, .lconst 0, 1, false, 0, 0, 0, 0, 0, []), (75, .goto 10, 3, false, 45, 0, 0, 0, 0, []), (78, .aload_n 1, 1, false, 0, 0, 0, 0, 0, []), (79, .iload_n 3, 1, false, 0, 0, 0, 0, 0, []), (80, .iload 4, 2, false, 0, 0, 0, 0, 0, []), (82, .invokevirtual 64, 3, false, 4, 3, 2, 1, 0, []), (85, .ladd, 1, false, 0, 0, 0, 0, 0, []), (86, .lreturn, 1, false, 0, 0, 0, 0, 0, [])]
noncomputable def mdX2_restBy : mm_M := (yX2_restBy, cX2_restBy, 6, (some .long), 2, 2, tbX2_restBy)
set_option maxRecDepth 20000 in
noncomputable def tbX2_follow : List mm_E := [(0, .iconst 0, 1, false, 0, 0, 0, 0, 0, []), (1, .istore_n 2, 1, false, 0, 0, 0, 0, 0, []), (2, .iconst 0, 1, false, 0, 0, 0, 0, 0, []), (3, .istore_n 3, 1, false, 0, 0, 0, 0, 0, []), (4, .iconst 0, 1, false, 0, 0, 0, 0, 0, []), (5, .istore 4, 2, false, 0, 0, 0, 0, 0, []), (7, .iload 4, 2, true, 0, 0, 0, 0, 0, []), (9, .aload_n 1, 1, false, 0, 0, 0, 0, 0, []), (10, .getfield 41, 3, false, 1, 4, 0, 0, 0, []), (13, .if_icmp .ge 64, 3, false, 46, 0, 0, 0, 0, []), (16, .iload 4, 2, false, 0, 0, 0, 0, 0, []), (18, .bipush 8, 2, false, 0, 0, 0, 0, 0, []), (20, .if_icmp .ge 57, 3, false, 46, 0, 0, 0, 0, []), (23, .aload_n 0, 1, false, 0, 0, 0, 0, 0, []), (24, .aload_n 1, 1, false, 0, 0, 0, 0, 0, []), (25, .iload_n 2, 1, false, 0, 0, 0, 0, 0, []), (26, .iload_n 3, 1, false, 0, 0, 0, 0, 0, []), (27, .aload_n 1, 1, false, 0, 0, 0, 0, 0, []), (28, .iload_n 2, 1, false, 0, 0, 0, 0, 0, []), (29, .invokevirtual 48, 3, false, 9, 2, 1, 1, 0, []), (32, .invokevirtual 56, 3, false, 23, 5, 1, 13, 0, []), (35, .istore 5, 2, false, 0, 0, 0, 0, 0, []), (37, .iload 5, 2, false, 0, 0, 0, 0, 0, []), (39, .iconst (-1), 1, false, 0, 0, 0, 0, 0, []), (40, .if_icmp .ne 4, 3, false, 26, 0, 0, 0, 0, []), (43, .return_, 1, false, 0, 0, 0, 0, 0, []), (44, .aload_n 0, 1, false, 0, 0, 0, 0, 0, []), (45, .getfield 15, 3, false, 13, 1, 18, 0, 0, []), (48, .iload 4, 2, false, 0, 0, 0, 0, 0, []), (50, .iload 5, 2, false, 0, 0, 0, 0, 0, []), (52, .iastore, 1, false, 0, 0, 0, 0, 0, []), (53, .aload_n 0, 1, false, 0, 0, 0, 0, 0, []), (54, .iload 4, 2, false, 0, 0, 0, 0, 0, []), (56, .iconst 1, 1, false, 0, 0, 0, 0, 0, []), (57, .iadd, 1, false, 0, 0, 0, 0, 0, []), (58, .putfield 19, 3, false, 13, 2, 0, 0, 0, []), (61, .iload_n 2, 1, false, 0, 0, 0, 0, 0, []), (62, .iconst 1, 1, false, 0, 0, 0, 0, 0, []), (63, .iload 5, 2, false, 0, 0, 0, 0, 0, []), (65, .ishl, 1, false, 0, 0, 0, 0, 0, []), (66, .ior, 1, false, 0, 0, 0, 0, 0, []), (67, .istore_n 2, 1, false, 0, 0, 0, 0, 0, []), (68, .iload 5, 2, false, 0, 0, 0, 0, 0, []), (70, .istore_n 3, 1, false, 0, 0, 0, 0, 0, []), (71, .iinc 4 1, 3, false, 0, 0, 0, 0, 0, []), (74, .goto (-67), 3, false, 6, 0, 0, 0, 0, []), (77, .return_, 1, false, 0, 0, 0, 0, 0, [])]
noncomputable def mdX2_follow : mm_M := (yX2_follow, cX2_follow, 6, none, 2, 0, tbX2_follow)
set_option maxRecDepth 20000 in
noncomputable def tbX3_isWrong : List mm_E := [(0, .aload_n 0, 1, false, 0, 0, 0, 0, 0, []), (1, .getfield 24, 3, false, 7, 5, 0, 0, 0, []), (4, .ifCond .eq 7, 3, false, 5, 0, 0, 0, 0, []), (7, .iconst 1, 1, false, 0, 0, 0, 0, 0, []), (8, .goto 4, 3, false, 6, 0, 0, 0, 0, []), (11, .iconst 0, 1, false, 0, 0, 0, 0, 0, []), (12, .ireturn, 1, false, 0, 0, 1, 0, 0, [])]
noncomputable def mdX3_isWrong : mm_M := (yX3_isWrong, cX3_isWrong, 1, (some .boolean), 3, 1, tbX3_isWrong)
set_option maxRecDepth 20000 in
noncomputable def tbX3_hasTold : List mm_E := [(0, .iload_n 1, 1, false, 0, 0, 0, 0, 0, []), (1, .ifCond .lt 22, 3, false, 12, 0, 0, 0, 0, []), (4, .iload_n 1, 1, false, 0, 0, 0, 0, 0, []), (5, .bipush 8, 2, false, 0, 0, 0, 0, 0, []), (7, .if_icmp .ge 16, 3, false, 12, 0, 0, 0, 0, []), (10, .aload_n 0, 1, false, 0, 0, 0, 0, 0, []), (11, .getfield 9, 3, false, 7, 0, 11, 0, 0, []), (14, .iload_n 1, 1, false, 0, 0, 0, 0, 0, []), (15, .iaload, 1, false, 0, 0, 0, 0, 0, []), (16, .ifCond .lt 7, 3, false, 12, 0, 0, 0, 0, []), (19, .iconst 1, 1, false, 0, 0, 0, 0, 0, []), (20, .goto 4, 3, false, 13, 0, 0, 0, 0, []), (23, .iconst 0, 1, false, 0, 0, 0, 0, 0, []), (24, .ireturn, 1, false, 0, 0, 1, 0, 0, [])]
noncomputable def mdX3_hasTold : mm_M := (yX3_hasTold, cX3_hasTold, 2, (some .boolean), 3, 1, tbX3_hasTold)
set_option maxRecDepth 20000 in
noncomputable def tbX3_goThrough : List mm_E := [(0, .aload_n 0, 1, false, 0, 0, 0, 0, 0, []), (1, .invokevirtual 28, 3, false, 29, 1, 0, 7, 0, []), (4, .iconst 0, 1, false, 0, 0, 0, 0, 0, []), (5, .istore 4, 2, false, 0, 0, 0, 0, 0, []), (7, .iload 4, 2, true, 0, 0, 0, 0, 0, []), (9, .iload_n 3, 1, false, 0, 0, 0, 0, 0, []), (10, .if_icmp .ge 61, 3, false, 37, 0, 0, 0, 0, []), (13, .iload 4, 2, false, 0, 0, 0, 0, 0, []), (15, .aload_n 2, 1, false, 0, 0, 0, 0, 0, []), (16, .arraylength, 1, false, 0, 0, 0, 0, 0, []), (17, .if_icmp .ge 54, 3, false, 37, 0, 0, 0, 0, []), (20, .aload_n 0, 1, false, 0, 0, 0, 0, 0, []), (21, .getfield 24, 3, false, 7, 5, 0, 0, 0, []), (24, .ifCond .ne 47, 3, false, 37, 0, 0, 0, 0, []), (27, .aload_n 0, 1, false, 0, 0, 0, 0, 0, []), (28, .aload_n 0, 1, false, 0, 0, 0, 0, 0, []), (29, .aload_n 1, 1, false, 0, 0, 0, 0, 0, []), (30, .aload_n 2, 1, false, 0, 0, 0, 0, 0, []), (31, .iload 4, 2, false, 0, 0, 0, 0, 0, []), (33, .iaload, 1, false, 0, 0, 0, 0, 0, []), (34, .invokevirtual 31, 3, false, 30, 3, 1, 7, 0, []), (37, .putfield 24, 3, false, 7, 5, 0, 0, 0, []), (40, .aload_n 0, 1, false, 0, 0, 0, 0, 0, []), (41, .getfield 24, 3, false, 7, 5, 0, 0, 0, []), (44, .ifCond .ne 15, 3, false, 32, 0, 0, 0, 0, []), (47, .aload_n 0, 1, false, 0, 0, 0, 0, 0, []), (48, .aload_n 1, 1, false, 0, 0, 0, 0, 0, []), (49, .aload_n 2, 1, false, 0, 0, 0, 0, 0, []), (50, .iload 4, 2, false, 0, 0, 0, 0, 0, []), (52, .iaload, 1, false, 0, 0, 0, 0, 0, []), (53, .invokevirtual 35, 3, false, 32, 3, 0, 7, 0, []), (56, .goto 9, 3, false, 35, 0, 0, 0, 0, []), (59, .aload_n 0, 1, false, 0, 0, 0, 0, 0, []), (60, .iload 4, 2, false, 0, 0, 0, 0, 0, []), (62, .putfield 39, 3, false, 7, 4, 0, 0, 0, []), (65, .iinc 4 1, 3, false, 0, 0, 0, 0, 0, []), (68, .goto (-61), 3, false, 4, 0, 0, 0, 0, []), (71, .aload_n 0, 1, false, 0, 0, 0, 0, 0, []), (72, .getfield 24, 3, false, 7, 5, 0, 0, 0, []), (75, .ifCond .ne 21, 3, false, 49, 0, 0, 0, 0, []), (78, .aload_n 0, 1, false, 0, 0, 0, 0, 0, []), (79, .getfield 42, 3, false, 7, 11, 0, 0, 0, []), (82, .ifCond .le 14, 3, false, 49, 0, 0, 0, 0, []), (85, .aload_n 0, 1, false, 0, 0, 0, 0, 0, []), (86, .bipush 7, 2, false, 0, 0, 0, 0, 0, []), (88, .putfield 24, 3, false, 7, 5, 0, 0, 0, []), (91, .aload_n 0, 1, false, 0, 0, 0, 0, 0, []), (92, .iload_n 3, 1, false, 0, 0, 0, 0, 0, []), (93, .putfield 39, 3, false, 7, 4, 0, 0, 0, []), (96, .return_, 1, false, 0, 0, 0, 0, 0, [])]
noncomputable def mdX3_goThrough : mm_M := (yX3_goThrough, cX3_goThrough, 5, none, 3, 0, tbX3_goThrough)
set_option maxRecDepth 20000 in
noncomputable def tbX3_begin : List mm_E := [(0, .aload_n 0, 1, false, 0, 0, 0, 0, 0, []), (1, .getfield 9, 3, false, 7, 0, 11, 0, 0, []), (4, .iconst (-1), 1, false, 0, 0, 0, 0, 0, []), (5, .invokestatic 45, 3, false, 66, 2, 0, 0, 0, []), (8, .aload_n 0, 1, false, 0, 0, 0, 0, 0, []), (9, .iconst 0, 1, false, 0, 0, 0, 0, 0, []), (10, .putfield 39, 3, false, 7, 4, 0, 0, 0, []), (13, .aload_n 0, 1, false, 0, 0, 0, 0, 0, []), (14, .iconst 0, 1, false, 0, 0, 0, 0, 0, []), (15, .putfield 24, 3, false, 7, 5, 0, 0, 0, []), (18, .aload_n 0, 1, false, 0, 0, 0, 0, 0, []), (19, .iconst 0, 1, false, 0, 0, 0, 0, 0, []), (20, .putfield 51, 3, false, 7, 6, 0, 0, 0, []), (23, .aload_n 0, 1, false, 0, 0, 0, 0, 0, []), (24, .iconst 0, 1, false, 0, 0, 0, 0, 0, []), (25, .putfield 54, 3, false, 7, 7, 0, 0, 0, []), (28, .aload_n 0, 1, false, 0, 0, 0, 0, 0, []), (29, .iconst 0, 1, false, 0, 0, 0, 0, 0, []), (30, .putfield 57, 3, false, 7, 8, 0, 0, 0, []), (33, .aload_n 0, 1, false, 0, 0, 0, 0, 0, []), (34, .iconst 0, 1, false, 0, 0, 0, 0, 0, []), (35, .putfield 60, 3, false, 7, 9, 0, 0, 0, []), (38, .aload_n 0, 1, false, 0, 0, 0, 0, 0, []), (39, .lconst 0, 1, false, 0, 0, 0, 0, 0, []), (40, .putfield 63, 3, false, 7, 10, 1, 0, 0, []), (43, .aload_n 0, 1, false, 0, 0, 0, 0, 0, []), (44, .iconst 0, 1, false, 0, 0, 0, 0, 0, []), (45, .putfield 42, 3, false, 7, 11, 0, 0, 0, []), (48, .aload_n 0, 1, false, 0, 0, 0, 0, 0, []), (49, .iconst (-1), 1, false, 0, 0, 0, 0, 0, []), (50, .putfield 67, 3, false, 7, 12, 0, 0, 0, []), (53, .aload_n 0, 1, false, 0, 0, 0, 0, 0, []), (54, .iconst (-1), 1, false, 0, 0, 0, 0, 0, []), (55, .putfield 70, 3, false, 7, 13, 0, 0, 0, []), (58, .aload_n 0, 1, false, 0, 0, 0, 0, 0, []), (59, .bipush (-9), 2, false, 0, 0, 0, 0, 0, []), (61, .putfield 73, 3, false, 7, 14, 0, 0, 0, []), (64, .return_, 1, false, 0, 0, 0, 0, 0, [])]
noncomputable def mdX3_begin : mm_M := (yX3_begin, cX3_begin, 1, none, 3, 0, tbX3_begin)
set_option maxRecDepth 20000 in
noncomputable def tbX3_whyWrong : List mm_E := [(0, .iload_n 2, 1, false, 0, 0, 0, 0, 0, []), (1, .bipush 20, 2, false, 0, 0, 0, 0, 0, []), (3, .if_icmp .ne 17, 3, false, 11, 0, 0, 0, 0, []), (6, .aload_n 0, 1, false, 0, 0, 0, 0, 0, []), (7, .getfield 67, 3, false, 7, 12, 0, 0, 0, []), (10, .iconst (-1), 1, false, 0, 0, 0, 0, 0, []), (11, .if_icmp .ne 7, 3, false, 9, 0, 0, 0, 0, []), (14, .iconst 5, 1, false, 0, 0, 0, 0, 0, []), (15, .goto 4, 3, false, 10, 0, 0, 0, 0, []), (18, .iconst 0, 1, false, 0, 0, 0, 0, 0, []), (19, .ireturn, 1, false, 0, 0, 0, 0, 0, []), (20, .iload_n 2, 1, false, 0, 0, 0, 0, 0, []), (21, .bipush 21, 2, false, 0, 0, 0, 0, 0, []), (23, .if_icmp .ne 26, 3, false, 26, 0, 0, 0, 0, []), (26, .aload_n 0, 1, false, 0, 0, 0, 0, 0, []), (27, .getfield 70, 3, false, 7, 13, 0, 0, 0, []), (30, .iconst (-1), 1, false, 0, 0, 0, 0, 0, []), (31, .if_icmp .eq 11, 3, false, 22, 0, 0, 0, 0, []), (34, .aload_n 0, 1, false, 0, 0, 0, 0, 0, []), (35, .getfield 67, 3, false, 7, 12, 0, 0, 0, []), (38, .iconst (-1), 1, false, 0, 0, 0, 0, 0, []), (39, .if_icmp .ne 8, 3, false, 24, 0, 0, 0, 0, []), (42, .bipush 6, 2, false, 0, 0, 0, 0, 0, []), (44, .goto 4, 3, false, 25, 0, 0, 0, 0, []), (47, .iconst 0, 1, false, 0, 0, 0, 0, 0, []), (48, .ireturn, 1, false, 0, 0, 0, 0, 0, []), (49, .aload_n 1, 1, false, 0, 0, 0, 0, 0, []), (50, .iload_n 2, 1, false, 0, 0, 0, 0, 0, []), (51, .invokevirtual 76, 3, false, 0, 2, 1, 1, 0, []), (54, .ifCond .ne 5, 3, false, 32, 0, 0, 0, 0, []), (57, .iconst 1, 1, false, 0, 0, 0, 0, 0, []), (58, .ireturn, 1, false, 0, 0, 0, 0, 0, []), (59, .aload_n 0, 1, false, 0, 0, 0, 0, 0, []), (60, .iload_n 2, 1, false, 0, 0, 0, 0, 0, []), (61, .invokevirtual 82, 3, false, 27, 2, 1, 7, 0, []), (64, .ifCond .eq 5, 3, false, 38, 0, 0, 0, 0, []), (67, .iconst 2, 1, false, 0, 0, 0, 0, 0, []), (68, .ireturn, 1, false, 0, 0, 0, 0, 0, []), (69, .aload_n 1, 1, false, 0, 0, 0, 0, 0, []), (70, .getfield 85, 3, false, 1, 3, 8, 0, 0, []), (73, .iload_n 2, 1, false, 0, 0, 0, 0, 0, []), (74, .iaload, 1, false, 0, 0, 0, 0, 0, []), (75, .aload_n 0, 1, false, 0, 0, 0, 0, 0, []), (76, .getfield 60, 3, false, 7, 9, 0, 0, 0, []), (79, .iconst (-1), 1, false, 0, 0, 0, 0, 0, []), (80, .ixor, 1, false, 0, 0, 0, 0, 0, []), (81, .iand, 1, false, 0, 0, 0, 0, 0, []), (82, .ifCond .eq 5, 3, false, 50, 0, 0, 0, 0, []), (85, .iconst 3, 1, false, 0, 0, 0, 0, 0, []), (86, .ireturn, 1, false, 0, 0, 0, 0, 0, []), (87, .aload_n 0, 1, false, 0, 0, 0, 0, 0, []), (88, .getfield 70, 3, false, 7, 13, 0, 0, 0, []), (91, .iconst (-1), 1, false, 0, 0, 0, 0, 0, []), (92, .if_icmp .eq 12, 3, false, 59, 0, 0, 0, 0, []), (95, .aload_n 0, 1, false, 0, 0, 0, 0, 0, []), (96, .aload_n 1, 1, false, 0, 0, 0, 0, 0, []), (97, .iload_n 2, 1, false, 0, 0, 0, 0, 0, []), (98, .invokevirtual 88, 3, false, 31, 3, 1, 7, 0, []), (101, .ifCond .eq 7, 3, false, 61, 0, 0, 0, 0, []), (104, .iconst 0, 1, false, 0, 0, 0, 0, 0, []), (105, .goto 4, 3, false, 62, 0, 0, 0, 0, []), (108, .iconst 4, 1, false, 0, 0, 0, 0, 0, []), (109, .ireturn, 1, false, 0, 0, 0, 0, 0, [])]
noncomputable def mdX3_whyWrong : mm_M := (yX3_whyWrong, cX3_whyWrong, 3, (some .int), 3, 1, tbX3_whyWrong)
set_option maxRecDepth 20000 in
noncomputable def tbX3_isOnSide : List mm_E := [(0, .aload_n 1, 1, false, 0, 0, 0, 0, 0, []), (1, .iload_n 2, 1, false, 0, 0, 0, 0, 0, []), (2, .aload_n 0, 1, false, 0, 0, 0, 0, 0, []), (3, .getfield 70, 3, false, 7, 13, 0, 0, 0, []), (6, .invokevirtual 92, 3, false, 5, 3, 1, 1, 0, []), (9, .istore_n 3, 1, false, 0, 0, 0, 0, 0, []), (10, .iload_n 3, 1, false, 0, 0, 0, 0, 0, []), (11, .bipush (-9), 2, false, 0, 0, 0, 0, 0, []), (13, .if_icmp .eq 24, 3, false, 19, 0, 0, 0, 0, []), (16, .aload_n 0, 1, false, 0, 0, 0, 0, 0, []), (17, .getfield 73, 3, false, 7, 14, 0, 0, 0, []), (20, .bipush (-9), 2, false, 0, 0, 0, 0, 0, []), (22, .if_icmp .eq 11, 3, false, 17, 0, 0, 0, 0, []), (25, .aload_n 0, 1, false, 0, 0, 0, 0, 0, []), (26, .getfield 73, 3, false, 7, 14, 0, 0, 0, []), (29, .iload_n 3, 1, false, 0, 0, 0, 0, 0, []), (30, .if_icmp .ne 7, 3, false, 19, 0, 0, 0, 0, []), (33, .iconst 1, 1, false, 0, 0, 0, 0, 0, []), (34, .goto 4, 3, false, 20, 0, 0, 0, 0, []), (37, .iconst 0, 1, false, 0, 0, 0, 0, 0, []), (38, .ireturn, 1, false, 0, 0, 1, 0, 0, [])]
noncomputable def mdX3_isOnSide : mm_M := (yX3_isOnSide, cX3_isOnSide, 4, (some .boolean), 3, 1, tbX3_isOnSide)
set_option maxRecDepth 20000 in
noncomputable def tbX3_take : List mm_E := [(0, .iload_n 2, 1, false, 0, 0, 0, 0, 0, []), (1, .bipush 20, 2, false, 0, 0, 0, 0, 0, []), (3, .if_icmp .ne 10, 3, false, 6, 0, 0, 0, 0, []), (6, .aload_n 0, 1, false, 0, 0, 0, 0, 0, []), (7, .invokevirtual 96, 3, false, 33, 1, 0, 7, 0, []), (10, .goto 22, 3, false, 16, 0, 0, 0, 0, []), (13, .iload_n 2, 1, false, 0, 0, 0, 0, 0, []), (14, .bipush 21, 2, false, 0, 0, 0, 0, 0, []), (16, .if_icmp .ne 10, 3, false, 12, 0, 0, 0, 0, []), (19, .aload_n 0, 1, false, 0, 0, 0, 0, 0, []), (20, .invokevirtual 99, 3, false, 34, 1, 0, 7, 0, []), (23, .goto 9, 3, false, 16, 0, 0, 0, 0, []), (26, .aload_n 0, 1, false, 0, 0, 0, 0, 0, []), (27, .aload_n 1, 1, false, 0, 0, 0, 0, 0, []), (28, .iload_n 2, 1, false, 0, 0, 0, 0, 0, []), (29, .invokevirtual 102, 3, false, 35, 3, 0, 7, 0, []), (32, .return_, 1, false, 0, 0, 0, 0, 0, [])]
noncomputable def mdX3_take : mm_M := (yX3_take, cX3_take, 3, none, 3, 0, tbX3_take)
set_option maxRecDepth 20000 in
noncomputable def tbX3_openFrame : List mm_E := [(0, .aload_n 0, 1, false, 0, 0, 0, 0, 0, []), (1, .aload_n 0, 1, false, 0, 0, 0, 0, 0, []), (2, .getfield 67, 3, false, 7, 12, 0, 0, 0, []), (5, .putfield 70, 3, false, 7, 13, 0, 0, 0, []), (8, .aload_n 0, 1, false, 0, 0, 0, 0, 0, []), (9, .iconst (-1), 1, false, 0, 0, 0, 0, 0, []), (10, .putfield 67, 3, false, 7, 12, 0, 0, 0, []), (13, .aload_n 0, 1, false, 0, 0, 0, 0, 0, []), (14, .bipush (-9), 2, false, 0, 0, 0, 0, 0, []), (16, .putfield 73, 3, false, 7, 14, 0, 0, 0, []), (19, .aload_n 0, 1, false, 0, 0, 0, 0, 0, []), (20, .dup, 1, false, 0, 0, 0, 0, 0, []), (21, .getfield 51, 3, false, 7, 6, 0, 0, 0, []), (24, .iconst 1, 1, false, 0, 0, 0, 0, 0, []), (25, .iadd, 1, false, 0, 0, 0, 0, 0, []), (26, .putfield 51, 3, false, 7, 6, 0, 0, 0, []), (29, .aload_n 0, 1, false, 0, 0, 0, 0, 0, []), (30, .dup, 1, false, 0, 0, 0, 0, 0, []), (31, .getfield 42, 3, false, 7, 11, 0, 0, 0, []), (34, .iconst 1, 1, false, 0, 0, 0, 0, 0, []), (35, .iadd, 1, false, 0, 0, 0, 0, 0, []), (36, .putfield 42, 3, false, 7, 11, 0, 0, 0, []), (39, .aload_n 0, 1, false, 0, 0, 0, 0, 0, []), (40, .aload_n 0, 1, false, 0, 0, 0, 0, 0, []), (41, .getfield 54, 3, false, 7, 7, 0, 0, 0, []), (44, .aload_n 0, 1, false, 0, 0, 0, 0, 0, []), (45, .getfield 42, 3, false, 7, 11, 0, 0, 0, []), (48, .invokestatic 105, 3, false, 0, 0, 11, 0, 0, []), (51, .putfield 54, 3, false, 7, 7, 0, 0, 0, []), (54, .return_, 1, false, 0, 0, 0, 0, 0, [])]
noncomputable def mdX3_openFrame : mm_M := (yX3_openFrame, cX3_openFrame, 1, none, 3, 0, tbX3_openFrame)
set_option maxRecDepth 20000 in
noncomputable def tbX3_closeFrame : List mm_E := [(0, .aload_n 0, 1, false, 0, 0, 0, 0, 0, []), (1, .getfield 70, 3, false, 7, 13, 0, 0, 0, []), (4, .istore_n 1, 1, false, 0, 0, 0, 0, 0, []), (5, .aload_n 0, 1, false, 0, 0, 0, 0, 0, []), (6, .iload_n 1, 1, false, 0, 0, 0, 0, 0, []), (7, .invokevirtual 82, 3, false, 27, 2, 1, 7, 0, []), (10, .ifCond .ne 4, 3, false, 8, 0, 0, 0, 0, []), (13, .return_, 1, false, 0, 0, 0, 0, 0, []), (14, .aload_n 0, 1, false, 0, 0, 0, 0, 0, []), (15, .iload_n 1, 1, false, 0, 0, 0, 0, 0, []), (16, .putfield 67, 3, false, 7, 12, 0, 0, 0, []), (19, .aload_n 0, 1, false, 0, 0, 0, 0, 0, []), (20, .aload_n 0, 1, false, 0, 0, 0, 0, 0, []), (21, .getfield 18, 3, false, 7, 2, 13, 0, 0, []), (24, .iload_n 1, 1, false, 0, 0, 0, 0, 0, []), (25, .iaload, 1, false, 0, 0, 0, 0, 0, []), (26, .putfield 70, 3, false, 7, 13, 0, 0, 0, []), (29, .aload_n 0, 1, false, 0, 0, 0, 0, 0, []), (30, .aload_n 0, 1, false, 0, 0, 0, 0, 0, []), (31, .getfield 21, 3, false, 7, 3, 14, 0, 0, []), (34, .iload_n 1, 1, false, 0, 0, 0, 0, 0, []), (35, .iaload, 1, false, 0, 0, 0, 0, 0, []), (36, .putfield 73, 3, false, 7, 14, 0, 0, 0, []), (39, .aload_n 0, 1, false, 0, 0, 0, 0, 0, []), (40, .dup, 1, false, 0, 0, 0, 0, 0, []), (41, .getfield 42, 3, false, 7, 11, 0, 0, 0, []), (44, .iconst 1, 1, false, 0, 0, 0, 0, 0, []), (45, .isub, 1, false, 0, 0, 0, 0, 0, []), (46, .putfield 42, 3, false, 7, 11, 0, 0, 0, []), (49, .return_, 1, false, 0, 0, 0, 0, 0, [])]
noncomputable def mdX3_closeFrame : mm_M := (yX3_closeFrame, cX3_closeFrame, 2, none, 3, 0, tbX3_closeFrame)
set_option maxRecDepth 20000 in
noncomputable def tbX3_tell : List mm_E := [(0, .aload_n 1, 1, false, 0, 0, 0, 0, 0, []), (1, .iload_n 2, 1, false, 0, 0, 0, 0, 0, []), (2, .invokevirtual 76, 3, false, 0, 2, 1, 1, 0, []), (5, .ifCond .ne 4, 3, false, 5, 0, 0, 0, 0, []), (8, .return_, 1, false, 0, 0, 0, 0, 0, []), (9, .aload_n 0, 1, false, 0, 0, 0, 0, 0, []), (10, .getfield 70, 3, false, 7, 13, 0, 0, 0, []), (13, .iconst (-1), 1, false, 0, 0, 0, 0, 0, []), (14, .if_icmp .eq 16, 3, false, 16, 0, 0, 0, 0, []), (17, .aload_n 0, 1, false, 0, 0, 0, 0, 0, []), (18, .aload_n 1, 1, false, 0, 0, 0, 0, 0, []), (19, .iload_n 2, 1, false, 0, 0, 0, 0, 0, []), (20, .aload_n 0, 1, false, 0, 0, 0, 0, 0, []), (21, .getfield 70, 3, false, 7, 13, 0, 0, 0, []), (24, .invokevirtual 92, 3, false, 5, 3, 1, 1, 0, []), (27, .putfield 73, 3, false, 7, 14, 0, 0, 0, []), (30, .aload_n 0, 1, false, 0, 0, 0, 0, 0, []), (31, .getfield 67, 3, false, 7, 12, 0, 0, 0, []), (34, .iconst (-1), 1, false, 0, 0, 0, 0, 0, []), (35, .if_icmp .eq 21, 3, false, 30, 0, 0, 0, 0, []), (38, .aload_n 0, 1, false, 0, 0, 0, 0, 0, []), (39, .dup, 1, false, 0, 0, 0, 0, 0, []), (40, .getfield 63, 3, false, 7, 10, 1, 0, 0, []), (43, .aload_n 1, 1, false, 0, 0, 0, 0, 0, []), (44, .aload_n 0, 1, false, 0, 0, 0, 0, 0, []), (45, .getfield 67, 3, false, 7, 12, 0, 0, 0, []), (48, .iload_n 2, 1, false, 0, 0, 0, 0, 0, []), (49, .invokevirtual 110, 3, false, 4, 3, 2, 1, 0, []), (52, .ladd, 1, false, 0, 0, 0, 0, 0, []), (53, .putfield 63, 3, false, 7, 10, 1, 0, 0, []), (56, .aload_n 0, 1, false, 0, 0, 0, 0, 0, []), (57, .getfield 9, 3, false, 7, 0, 11, 0, 0, []), (60, .iload_n 2, 1, false, 0, 0, 0, 0, 0, []), (61, .aload_n 0, 1, false, 0, 0, 0, 0, 0, []), (62, .getfield 57, 3, false, 7, 8, 0, 0, 0, []), (65, .iastore, 1, false, 0, 0, 0, 0, 0, []), (66, .aload_n 0, 1, false, 0, 0, 0, 0, 0, []), (67, .getfield 15, 3, false, 7, 1, 12, 0, 0, []), (70, .iload_n 2, 1, false, 0, 0, 0, 0, 0, []), (71, .aload_n 0, 1, false, 0, 0, 0, 0, 0, []), (72, .getfield 42, 3, false, 7, 11, 0, 0, 0, []), (75, .iastore, 1, false, 0, 0, 0, 0, 0, []), (76, .aload_n 0, 1, false, 0, 0, 0, 0, 0, []), (77, .getfield 18, 3, false, 7, 2, 13, 0, 0, []), (80, .iload_n 2, 1, false, 0, 0, 0, 0, 0, []), (81, .aload_n 0, 1, false, 0, 0, 0, 0, 0, []), (82, .getfield 70, 3, false, 7, 13, 0, 0, 0, []), (85, .iastore, 1, false, 0, 0, 0, 0, 0, []), (86, .aload_n 0, 1, false, 0, 0, 0, 0, 0, []), (87, .getfield 21, 3, false, 7, 3, 14, 0, 0, []), (90, .iload_n 2, 1, false, 0, 0, 0, 0, 0, []), (91, .aload_n 0, 1, false, 0, 0, 0, 0, 0, []), (92, .getfield 73, 3, false, 7, 14, 0, 0, 0, []), (95, .iastore, 1, false, 0, 0, 0, 0, 0, []), (96, .aload_n 0, 1, false, 0, 0, 0, 0, 0, []), (97, .iload_n 2, 1, false, 0, 0, 0, 0, 0, []), (98, .putfield 67, 3, false, 7, 12, 0, 0, 0, []), (101, .aload_n 0, 1, false, 0, 0, 0, 0, 0, []), (102, .dup, 1, false, 0, 0, 0, 0, 0, []), (103, .getfield 57, 3, false, 7, 8, 0, 0, 0, []), (106, .iconst 1, 1, false, 0, 0, 0, 0, 0, []), (107, .iadd, 1, false, 0, 0, 0, 0, 0, []), (108, .putfield 57, 3, false, 7, 8, 0, 0, 0, []), (111, .aload_n 0, 1, false, 0, 0, 0, 0, 0, []), (112, .dup, 1, false, 0, 0, 0, 0, 0, []), (113, .getfield 60, 3, false, 7, 9, 0, 0, 0, []), (116, .aload_n 1, 1, false, 0, 0, 0, 0, 0, []), (117, .getfield 114, 3, false, 1, 2, 7, 0, 0, []), (120, .iload_n 2, 1, false, 0, 0, 0, 0, 0, []), (121, .iaload, 1, false, 0, 0, 0, 0, 0, []), (122, .ior, 1, false, 0, 0, 0, 0, 0, []), (123, .putfield 60, 3, false, 7, 9, 0, 0, 0, []), (126, .return_, 1, false, 0, 0, 0, 0, 0, [])]
noncomputable def mdX3_tell : mm_M := (yX3_tell, cX3_tell, 3, none, 3, 0, tbX3_tell)
set_option maxRecDepth 20000 in
noncomputable def tbX4_scene : List mm_E := [(0, .iload_n 2, 1, false, 0, 0, 0, 0, 0, []), (1, .iconst 1, 1, false, 0, 0, 0, 0, 0, []), (2, .if_icmp .lt 18, 3, false, 9, 0, 0, 0, 0, []), (5, .iload_n 3, 1, false, 0, 0, 0, 0, 0, []), (6, .invokestatic 56, 3, false, 61, 1, 1, 0, 0, []), (9, .ifCond .eq 11, 3, false, 9, 0, 0, 0, 0, []), (12, .iload 4, 2, false, 0, 0, 0, 0, 0, []), (14, .invokestatic 56, 3, false, 61, 1, 1, 0, 0, []), (17, .ifCond .ne 6, 3, false, 11, 0, 0, 0, 0, []), (20, .bipush (-2), 2, false, 0, 0, 0, 0, 0, []), (22, .ireturn, 1, false, 0, 0, 0, 0, 0, []), (23, .aload_n 0, 1, false, 0, 0, 0, 0, 0, []), (24, .getfield 12, 3, false, 0, 0, 4, 0, 0, []), (27, .getfield 60, 3, false, 1, 4, 0, 0, 0, []), (30, .bipush 8, 2, false, 0, 0, 0, 0, 0, []), (32, .if_icmp .lt 6, 3, false, 18, 0, 0, 0, 0, []), (35, .bipush (-4), 2, false, 0, 0, 0, 0, 0, []), (37, .ireturn, 1, false, 0, 0, 0, 0, 0, []), (38, .iload_n 1, 1, false, 0, 0, 0, 0, 0, []), (39, .i2l, 1, false, 0, 0, 0, 0, 0, []), (40, .iload_n 2, 1, false, 0, 0, 0, 0, 0, []), (41, .i2l, 1, false, 0, 0, 0, 0, 0, []), (42, .ladd, 1, false, 0, 0, 0, 0, 0, []), (43, .invokestatic 63, 3, false, 63, 1, 1, 0, 0, []), (46, .ifCond .ne 6, 3, false, 27, 0, 0, 0, 0, []), (49, .bipush (-5), 2, false, 0, 0, 0, 0, 0, []), (51, .ireturn, 1, false, 0, 0, 0, 0, 0, []), (52, .aload_n 0, 1, false, 0, 0, 0, 0, 0, []), (53, .invokevirtual 67, 3, false, 56, 1, 0, 0, 0, []), (56, .aload_n 0, 1, false, 0, 0, 0, 0, 0, []), (57, .getfield 12, 3, false, 0, 0, 4, 0, 0, []), (60, .iload_n 1, 1, false, 0, 0, 0, 0, 0, []), (61, .iload_n 2, 1, false, 0, 0, 0, 0, 0, []), (62, .iload_n 3, 1, false, 0, 0, 0, 0, 0, []), (63, .iload 4, 2, false, 0, 0, 0, 0, 0, []), (65, .invokevirtual 70, 3, false, 1, 5, 1, 1, 0, []), (68, .ireturn, 1, false, 0, 0, 0, 0, 0, [])]
noncomputable def mdX4_scene : mm_M := (yX4_scene, cX4_scene, 5, (some .int), 4, 1, tbX4_scene)
set_option maxRecDepth 20000 in
noncomputable def tbX4_ofScene : List mm_E := [(0, .aload_n 0, 1, false, 0, 0, 0, 0, 0, []), (1, .getfield 12, 3, false, 0, 0, 4, 0, 0, []), (4, .iload_n 1, 1, false, 0, 0, 0, 0, 0, []), (5, .invokevirtual 74, 3, false, 0, 2, 1, 1, 0, []), (8, .ifCond .ne 7, 3, false, 7, 0, 0, 0, 0, []), (11, .ldc2_w 77, 3, false, 0, 0, 0, 0, (-9223372036854775808), []), (14, .lreturn, 1, false, 0, 0, 0, 0, 0, []), (15, .iload_n 2, 1, false, 0, 0, 0, 0, 0, []), (16, .tableswitch 89 0 4 #[36, 47, 58, 67, 78], 36, false, 42, 0, 0, 0, 0, [9, 16, 23, 28, 35]), (52, .aload_n 0, 1, false, 0, 0, 0, 0, 0, []), (53, .getfield 12, 3, false, 0, 0, 4, 0, 0, []), (56, .getfield 79, 3, false, 1, 0, 5, 0, 0, []), (59, .iload_n 1, 1, false, 0, 0, 0, 0, 0, []), (60, .iaload, 1, false, 0, 0, 0, 0, 0, []), (61, .i2l, 1, false, 0, 0, 0, 0, 0, []), (62, .lreturn, 1, false, 0, 0, 0, 0, 0, []), (63, .aload_n 0, 1, false, 0, 0, 0, 0, 0, []), (64, .getfield 12, 3, false, 0, 0, 4, 0, 0, []), (67, .getfield 82, 3, false, 1, 1, 6, 0, 0, []), (70, .iload_n 1, 1, false, 0, 0, 0, 0, 0, []), (71, .iaload, 1, false, 0, 0, 0, 0, 0, []), (72, .i2l, 1, false, 0, 0, 0, 0, 0, []), (73, .lreturn, 1, false, 0, 0, 0, 0, 0, []), (74, .aload_n 0, 1, false, 0, 0, 0, 0, 0, []), (75, .getfield 12, 3, false, 0, 0, 4, 0, 0, []), (78, .iload_n 1, 1, false, 0, 0, 0, 0, 0, []), (79, .invokevirtual 85, 3, false, 2, 2, 2, 1, 0, []), (82, .lreturn, 1, false, 0, 0, 0, 0, 0, []), (83, .aload_n 0, 1, false, 0, 0, 0, 0, 0, []), (84, .getfield 12, 3, false, 0, 0, 4, 0, 0, []), (87, .getfield 89, 3, false, 1, 2, 7, 0, 0, []), (90, .iload_n 1, 1, false, 0, 0, 0, 0, 0, []), (91, .iaload, 1, false, 0, 0, 0, 0, 0, []), (92, .i2l, 1, false, 0, 0, 0, 0, 0, []), (93, .lreturn, 1, false, 0, 0, 0, 0, 0, []), (94, .aload_n 0, 1, false, 0, 0, 0, 0, 0, []), (95, .getfield 12, 3, false, 0, 0, 4, 0, 0, []), (98, .getfield 92, 3, false, 1, 3, 8, 0, 0, []), (101, .iload_n 1, 1, false, 0, 0, 0, 0, 0, []), (102, .iaload, 1, false, 0, 0, 0, 0, 0, []), (103, .i2l, 1, false, 0, 0, 0, 0, 0, []), (104, .lreturn, 1, false, 0, 0, 0, 0, 0, []), (105, .ldc2_w 77, 3, false, 0, 0, 0, 0, (-9223372036854775808), []), (108, .lreturn, 1, false, 0, 0, 0, 0, 0, [])]
noncomputable def mdX4_ofScene : mm_M := (yX4_ofScene, cX4_ofScene, 3, (some .long), 4, 2, tbX4_ofScene)
set_option maxRecDepth 20000 in
noncomputable def tbX4_move : List mm_E := [(0, .aload_n 0, 1, false, 0, 0, 0, 0, 0, []), (1, .getfield 12, 3, false, 0, 0, 4, 0, 0, []), (4, .iload_n 1, 1, false, 0, 0, 0, 0, 0, []), (5, .invokevirtual 74, 3, false, 0, 2, 1, 1, 0, []), (8, .ifCond .ne 5, 3, false, 7, 0, 0, 0, 0, []), (11, .iconst (-1), 1, false, 0, 0, 0, 0, 0, []), (12, .ireturn, 1, false, 0, 0, 0, 0, 0, []), (13, .aload_n 0, 1, false, 0, 0, 0, 0, 0, []), (14, .getfield 12, 3, false, 0, 0, 4, 0, 0, []), (17, .iload_n 1, 1, false, 0, 0, 0, 0, 0, []), (18, .iload_n 2, 1, false, 0, 0, 0, 0, 0, []), (19, .invokevirtual 95, 3, false, 3, 3, 1, 1, 0, []), (22, .ifCond .ne 6, 3, false, 15, 0, 0, 0, 0, []), (25, .bipush (-5), 2, false, 0, 0, 0, 0, 0, []), (27, .ireturn, 1, false, 0, 0, 0, 0, 0, []), (28, .aload_n 0, 1, false, 0, 0, 0, 0, 0, []), (29, .getfield 12, 3, false, 0, 0, 4, 0, 0, []), (32, .getfield 79, 3, false, 1, 0, 5, 0, 0, []), (35, .iload_n 1, 1, false, 0, 0, 0, 0, 0, []), (36, .dup2, 1, false, 0, 0, 0, 0, 0, []), (37, .iaload, 1, false, 0, 0, 0, 0, 0, []), (38, .iload_n 2, 1, false, 0, 0, 0, 0, 0, []), (39, .iadd, 1, false, 0, 0, 0, 0, 0, []), (40, .iastore, 1, false, 0, 0, 0, 0, 0, []), (41, .aload_n 0, 1, false, 0, 0, 0, 0, 0, []), (42, .invokevirtual 67, 3, false, 56, 1, 0, 0, 0, []), (45, .iconst 1, 1, false, 0, 0, 0, 0, 0, []), (46, .ireturn, 1, false, 0, 0, 0, 0, 0, [])]
noncomputable def mdX4_move : mm_M := (yX4_move, cX4_move, 3, (some .int), 4, 1, tbX4_move)
set_option maxRecDepth 20000 in
noncomputable def tbX4_shift : List mm_E := [(0, .iconst 0, 1, false, 0, 0, 0, 0, 0, []), (1, .istore_n 2, 1, false, 0, 0, 0, 0, 0, []), (2, .iload_n 2, 1, true, 0, 0, 0, 0, 0, []), (3, .aload_n 0, 1, false, 0, 0, 0, 0, 0, []), (4, .getfield 12, 3, false, 0, 0, 4, 0, 0, []), (7, .getfield 60, 3, false, 1, 4, 0, 0, 0, []), (10, .if_icmp .ge 24, 3, false, 17, 0, 0, 0, 0, []), (13, .aload_n 0, 1, false, 0, 0, 0, 0, 0, []), (14, .getfield 12, 3, false, 0, 0, 4, 0, 0, []), (17, .iload_n 2, 1, false, 0, 0, 0, 0, 0, []), (18, .iload_n 1, 1, false, 0, 0, 0, 0, 0, []), (19, .invokevirtual 95, 3, false, 3, 3, 1, 1, 0, []), (22, .ifCond .ne 6, 3, false, 15, 0, 0, 0, 0, []), (25, .bipush (-5), 2, false, 0, 0, 0, 0, 0, []), (27, .ireturn, 1, false, 0, 0, 0, 0, 0, []), (28, .iinc 2 1, 3, false, 0, 0, 0, 0, 0, []), (31, .goto (-29), 3, false, 2, 0, 0, 0, 0, []), (34, .iconst 0, 1, false, 0, 0, 0, 0, 0, []), (35, .istore_n 2, 1, false, 0, 0, 0, 0, 0, []), (36, .iload_n 2, 1, true, 0, 0, 0, 0, 0, []), (37, .aload_n 0, 1, false, 0, 0, 0, 0, 0, []), (38, .getfield 12, 3, false, 0, 0, 4, 0, 0, []), (41, .getfield 60, 3, false, 1, 4, 0, 0, 0, []), (44, .if_icmp .ge 28, 3, false, 38, 0, 0, 0, 0, []), (47, .iload_n 2, 1, false, 0, 0, 0, 0, 0, []), (48, .bipush 8, 2, false, 0, 0, 0, 0, 0, []), (50, .if_icmp .ge 22, 3, false, 38, 0, 0, 0, 0, []), (53, .aload_n 0, 1, false, 0, 0, 0, 0, 0, []), (54, .getfield 12, 3, false, 0, 0, 4, 0, 0, []), (57, .getfield 79, 3, false, 1, 0, 5, 0, 0, []), (60, .iload_n 2, 1, false, 0, 0, 0, 0, 0, []), (61, .dup2, 1, false, 0, 0, 0, 0, 0, []), (62, .iaload, 1, false, 0, 0, 0, 0, 0, []), (63, .iload_n 1, 1, false, 0, 0, 0, 0, 0, []), (64, .iadd, 1, false, 0, 0, 0, 0, 0, []), (65, .iastore, 1, false, 0, 0, 0, 0, 0, []), (66, .iinc 2 1, 3, false, 0, 0, 0, 0, 0, []), (69, .goto (-33), 3, false, 19, 0, 0, 0, 0, []), (72, .aload_n 0, 1, false, 0, 0, 0, 0, 0, []), (73, .invokevirtual 67, 3, false, 56, 1, 0, 0, 0, []), (76, .aload_n 0, 1, false, 0, 0, 0, 0, 0, []), (77, .getfield 12, 3, false, 0, 0, 4, 0, 0, []), (80, .getfield 60, 3, false, 1, 4, 0, 0, 0, []), (83, .ireturn, 1, false, 0, 0, 0, 0, 0, [])]
noncomputable def mdX4_shift : mm_M := (yX4_shift, cX4_shift, 3, (some .int), 4, 1, tbX4_shift)
set_option maxRecDepth 20000 in
noncomputable def tbX4_stretch : List mm_E := [(0, .aload_n 0, 1, false, 0, 0, 0, 0, 0, []), (1, .getfield 12, 3, false, 0, 0, 4, 0, 0, []), (4, .iload_n 1, 1, false, 0, 0, 0, 0, 0, []), (5, .invokevirtual 74, 3, false, 0, 2, 1, 1, 0, []), (8, .ifCond .ne 5, 3, false, 7, 0, 0, 0, 0, []), (11, .iconst (-1), 1, false, 0, 0, 0, 0, 0, []), (12, .ireturn, 1, false, 0, 0, 0, 0, 0, []), (13, .iload_n 2, 1, false, 0, 0, 0, 0, 0, []), (14, .iconst 1, 1, false, 0, 0, 0, 0, 0, []), (15, .if_icmp .ge 6, 3, false, 12, 0, 0, 0, 0, []), (18, .bipush (-2), 2, false, 0, 0, 0, 0, 0, []), (20, .ireturn, 1, false, 0, 0, 0, 0, 0, []), (21, .aload_n 0, 1, false, 0, 0, 0, 0, 0, []), (22, .getfield 12, 3, false, 0, 0, 4, 0, 0, []), (25, .getfield 82, 3, false, 1, 1, 6, 0, 0, []), (28, .iload_n 1, 1, false, 0, 0, 0, 0, 0, []), (29, .iaload, 1, false, 0, 0, 0, 0, 0, []), (30, .i2l, 1, false, 0, 0, 0, 0, 0, []), (31, .iload_n 2, 1, false, 0, 0, 0, 0, 0, []), (32, .i2l, 1, false, 0, 0, 0, 0, 0, []), (33, .lmul, 1, false, 0, 0, 0, 0, 0, []), (34, .lstore_n 3, 1, false, 0, 0, 0, 0, 0, []), (35, .lload_n 3, 1, false, 0, 0, 0, 0, 0, []), (36, .invokestatic 63, 3, false, 63, 1, 1, 0, 0, []), (39, .ifCond .eq 21, 3, false, 35, 0, 0, 0, 0, []), (42, .aload_n 0, 1, false, 0, 0, 0, 0, 0, []), (43, .getfield 12, 3, false, 0, 0, 4, 0, 0, []), (46, .getfield 79, 3, false, 1, 0, 5, 0, 0, []), (49, .iload_n 1, 1, false, 0, 0, 0, 0, 0, []), (50, .iaload, 1, false, 0, 0, 0, 0, 0, []), (51, .i2l, 1, false, 0, 0, 0, 0, 0, []), (52, .lload_n 3, 1, false, 0, 0, 0, 0, 0, []), (53, .ladd, 1, false, 0, 0, 0, 0, 0, []), (54, .invokestatic 63, 3, false, 63, 1, 1, 0, 0, []), (57, .ifCond .ne 6, 3, false, 37, 0, 0, 0, 0, []), (60, .bipush (-5), 2, false, 0, 0, 0, 0, 0, []), (62, .ireturn, 1, false, 0, 0, 0, 0, 0, []), (63, .aload_n 0, 1, false, 0, 0, 0, 0, 0, []), (64, .getfield 12, 3, false, 0, 0, 4, 0, 0, []), (67, .getfield 82, 3, false, 1, 1, 6, 0, 0, []), (70, .iload_n 1, 1, false, 0, 0, 0, 0, 0, []), (71, .lload_n 3, 1, false, 0, 0, 0, 0, 0, []), (72, .l2i, 1, false, 0, 0, 0, 0, 0, []), (73, .iastore, 1, false, 0, 0, 0, 0, 0, []), (74, .aload_n 0, 1, false, 0, 0, 0, 0, 0, []), (75, .invokevirtual 67, 3, false, 56, 1, 0, 0, 0, []), (78, .iconst 1, 1, false, 0, 0, 0, 0, 0, []), (79, .ireturn, 1, false, 0, 0, 0, 0, 0, [])]
noncomputable def mdX4_stretch : mm_M := (yX4_stretch, cX4_stretch, 5, (some .int), 4, 1, tbX4_stretch)
set_option maxRecDepth 20000 in
noncomputable def tbX4_clue : List mm_E := [(0, .aload_n 0, 1, false, 0, 0, 0, 0, 0, []), (1, .getfield 12, 3, false, 0, 0, 4, 0, 0, []), (4, .iload_n 1, 1, false, 0, 0, 0, 0, 0, []), (5, .invokevirtual 74, 3, false, 0, 2, 1, 1, 0, []), (8, .ifCond .eq 10, 3, false, 8, 0, 0, 0, 0, []), (11, .iload_n 2, 1, false, 0, 0, 0, 0, 0, []), (12, .invokestatic 99, 3, false, 60, 1, 1, 0, 0, []), (15, .ifCond .ne 5, 3, false, 10, 0, 0, 0, 0, []), (18, .iconst (-1), 1, false, 0, 0, 0, 0, 0, []), (19, .ireturn, 1, false, 0, 0, 0, 0, 0, []), (20, .iload_n 3, 1, false, 0, 0, 0, 0, 0, []), (21, .ifCond .eq 11, 3, false, 17, 0, 0, 0, 0, []), (24, .iload_n 3, 1, false, 0, 0, 0, 0, 0, []), (25, .iconst 1, 1, false, 0, 0, 0, 0, 0, []), (26, .if_icmp .eq 6, 3, false, 17, 0, 0, 0, 0, []), (29, .bipush (-2), 2, false, 0, 0, 0, 0, 0, []), (31, .ireturn, 1, false, 0, 0, 0, 0, 0, []), (32, .iload_n 3, 1, false, 0, 0, 0, 0, 0, []), (33, .ifCond .ne 13, 3, false, 23, 0, 0, 0, 0, []), (36, .aload_n 0, 1, false, 0, 0, 0, 0, 0, []), (37, .getfield 12, 3, false, 0, 0, 4, 0, 0, []), (40, .getfield 89, 3, false, 1, 2, 7, 0, 0, []), (43, .goto 10, 3, false, 26, 0, 0, 0, 0, []), (46, .aload_n 0, 1, false, 0, 0, 0, 0, 0, []), (47, .getfield 12, 3, false, 0, 0, 4, 0, 0, []), (50, .getfield 92, 3, false, 1, 3, 8, 0, 0, []), (53, .astore 5, 2, false, 0, 0, 0, 0, 0, []), (55, .iconst 1, 1, false, 0, 0, 0, 0, 0, []), (56, .iload_n 2, 1, false, 0, 0, 0, 0, 0, []), (57, .ishl, 1, false, 0, 0, 0, 0, 0, []), (58, .istore 6, 2, false, 0, 0, 0, 0, 0, []), (60, .iload 4, 2, false, 0, 0, 0, 0, 0, []), (62, .ifCond .eq 13, 3, false, 39, 0, 0, 0, 0, []), (65, .aload 5, 2, false, 0, 0, 0, 0, 0, []), (67, .iload_n 1, 1, false, 0, 0, 0, 0, 0, []), (68, .iaload, 1, false, 0, 0, 0, 0, 0, []), (69, .iload 6, 2, false, 0, 0, 0, 0, 0, []), (71, .ior, 1, false, 0, 0, 0, 0, 0, []), (72, .goto 12, 3, false, 46, 0, 0, 0, 0, []), (75, .aload 5, 2, false, 0, 0, 0, 0, 0, []), (77, .iload_n 1, 1, false, 0, 0, 0, 0, 0, []), (78, .iaload, 1, false, 0, 0, 0, 0, 0, []), (79, .iload 6, 2, false, 0, 0, 0, 0, 0, []), (81, .iconst (-1), 1, false, 0, 0, 0, 0, 0, []), (82, .ixor, 1, false, 0, 0, 0, 0, 0, []), (83, .iand, 1, false, 0, 0, 0, 0, 0, []), (84, .istore 7, 2, false, 0, 0, 0, 0, 0, []), (86, .iload 7, 2, false, 0, 0, 0, 0, 0, []), (88, .aload 5, 2, false, 0, 0, 0, 0, 0, []), (90, .iload_n 1, 1, false, 0, 0, 0, 0, 0, []), (91, .iaload, 1, false, 0, 0, 0, 0, 0, []), (92, .if_icmp .ne 5, 3, false, 54, 0, 0, 0, 0, []), (95, .iconst 0, 1, false, 0, 0, 0, 0, 0, []), (96, .ireturn, 1, false, 0, 0, 0, 0, 0, []), (97, .aload 5, 2, false, 0, 0, 0, 0, 0, []), (99, .iload_n 1, 1, false, 0, 0, 0, 0, 0, []), (100, .iload 7, 2, false, 0, 0, 0, 0, 0, []), (102, .iastore, 1, false, 0, 0, 0, 0, 0, []), (103, .aload_n 0, 1, false, 0, 0, 0, 0, 0, []), (104, .invokevirtual 67, 3, false, 56, 1, 0, 0, 0, []), (107, .iconst 1, 1, false, 0, 0, 0, 0, 0, []), (108, .ireturn, 1, false, 0, 0, 0, 0, 0, [])]
noncomputable def mdX4_clue : mm_M := (yX4_clue, cX4_clue, 8, (some .int), 4, 1, tbX4_clue)
set_option maxRecDepth 20000 in
noncomputable def tbX4_ofClue : List mm_E := [(0, .iload_n 1, 1, false, 0, 0, 0, 0, 0, []), (1, .invokestatic 99, 3, false, 60, 1, 1, 0, 0, []), (4, .ifCond .ne 5, 3, false, 5, 0, 0, 0, 0, []), (7, .iconst (-1), 1, false, 0, 0, 0, 0, 0, []), (8, .ireturn, 1, false, 0, 0, 0, 0, 0, []), (9, .iload_n 2, 1, false, 0, 0, 0, 0, 0, []), (10, .ifCond .eq 11, 3, false, 12, 0, 0, 0, 0, []), (13, .iload_n 2, 1, false, 0, 0, 0, 0, 0, []), (14, .iconst 1, 1, false, 0, 0, 0, 0, 0, []), (15, .if_icmp .eq 6, 3, false, 12, 0, 0, 0, 0, []), (18, .bipush (-2), 2, false, 0, 0, 0, 0, 0, []), (20, .ireturn, 1, false, 0, 0, 0, 0, 0, []), (21, .iload_n 2, 1, false, 0, 0, 0, 0, 0, []), (22, .ifCond .ne 13, 3, false, 18, 0, 0, 0, 0, []), (25, .aload_n 0, 1, false, 0, 0, 0, 0, 0, []), (26, .getfield 12, 3, false, 0, 0, 4, 0, 0, []), (29, .getfield 89, 3, false, 1, 2, 7, 0, 0, []), (32, .goto 10, 3, false, 21, 0, 0, 0, 0, []), (35, .aload_n 0, 1, false, 0, 0, 0, 0, 0, []), (36, .getfield 12, 3, false, 0, 0, 4, 0, 0, []), (39, .getfield 92, 3, false, 1, 3, 8, 0, 0, []), (42, .astore_n 3, 1, false, 0, 0, 0, 0, 0, []), (43, .iconst 0, 1, false, 0, 0, 0, 0, 0, []), (44, .istore 4, 2, false, 0, 0, 0, 0, 0, []), (46, .iconst 0, 1, false, 0, 0, 0, 0, 0, []), (47, .istore 5, 2, false, 0, 0, 0, 0, 0, []), (49, .iload 5, 2, true, 0, 0, 0, 0, 0, []), (51, .aload_n 0, 1, false, 0, 0, 0, 0, 0, []), (52, .getfield 12, 3, false, 0, 0, 4, 0, 0, []), (55, .getfield 60, 3, false, 1, 4, 0, 0, 0, []), (58, .if_icmp .ge 36, 3, false, 48, 0, 0, 0, 0, []), (61, .iload 5, 2, false, 0, 0, 0, 0, 0, []), (63, .bipush 8, 2, false, 0, 0, 0, 0, 0, []), (65, .if_icmp .ge 29, 3, false, 48, 0, 0, 0, 0, []), (68, .aload_n 3, 1, false, 0, 0, 0, 0, 0, []), (69, .iload 5, 2, false, 0, 0, 0, 0, 0, []), (71, .iaload, 1, false, 0, 0, 0, 0, 0, []), (72, .iload_n 1, 1, false, 0, 0, 0, 0, 0, []), (73, .invokestatic 102, 3, false, 62, 2, 1, 0, 0, []), (76, .ifCond .eq 12, 3, false, 46, 0, 0, 0, 0, []), (79, .iload 4, 2, false, 0, 0, 0, 0, 0, []), (81, .iconst 1, 1, false, 0, 0, 0, 0, 0, []), (82, .iload 5, 2, false, 0, 0, 0, 0, 0, []), (84, .ishl, 1, false, 0, 0, 0, 0, 0, []), (85, .ior, 1, false, 0, 0, 0, 0, 0, []), (86, .istore 4, 2, false, 0, 0, 0, 0, 0, []), (88, .iinc 5 1, 3, false, 0, 0, 0, 0, 0, []), (91, .goto (-42), 3, false, 26, 0, 0, 0, 0, []), (94, .iload 4, 2, false, 0, 0, 0, 0, 0, []), (96, .ireturn, 1, false, 0, 0, 0, 0, 0, [])]
noncomputable def mdX4_ofClue : mm_M := (yX4_ofClue, cX4_ofClue, 6, (some .int), 4, 1, tbX4_ofClue)
set_option maxRecDepth 20000 in
noncomputable def tbX4_drop : List mm_E := [(0, .aload_n 0, 1, false, 0, 0, 0, 0, 0, []), (1, .getfield 12, 3, false, 0, 0, 4, 0, 0, []), (4, .getfield 60, 3, false, 1, 4, 0, 0, 0, []), (7, .ifCond .gt 6, 3, false, 6, 0, 0, 0, 0, []), (10, .bipush (-3), 2, false, 0, 0, 0, 0, 0, []), (12, .ireturn, 1, false, 0, 0, 0, 0, 0, []), (13, .aload_n 0, 1, false, 0, 0, 0, 0, 0, []), (14, .getfield 12, 3, false, 0, 0, 4, 0, 0, []), (17, .dup, 1, false, 0, 0, 0, 0, 0, []), (18, .getfield 60, 3, false, 1, 4, 0, 0, 0, []), (21, .iconst 1, 1, false, 0, 0, 0, 0, 0, []), (22, .isub, 1, false, 0, 0, 0, 0, 0, []), (23, .putfield 60, 3, false, 1, 4, 0, 0, 0, []), (26, .aload_n 0, 1, false, 0, 0, 0, 0, 0, []), (27, .invokevirtual 67, 3, false, 56, 1, 0, 0, 0, []), (30, .aload_n 0, 1, false, 0, 0, 0, 0, 0, []), (31, .getfield 12, 3, false, 0, 0, 4, 0, 0, []), (34, .getfield 60, 3, false, 1, 4, 0, 0, 0, []), (37, .ireturn, 1, false, 0, 0, 0, 0, 0, [])]
noncomputable def mdX4_drop : mm_M := (yX4_drop, cX4_drop, 1, (some .int), 4, 1, tbX4_drop)
set_option maxRecDepth 20000 in
noncomputable def tbX4_fee : List mm_E := [(0, .iload_n 1, 1, false, 0, 0, 0, 0, 0, []), (1, .ifCond .lt 9, 3, false, 5, 0, 0, 0, 0, []), (4, .iload_n 1, 1, false, 0, 0, 0, 0, 0, []), (5, .ldc 105, 2, false, 0, 0, 0, 0, 1000000, []), (7, .if_icmp .le 6, 3, false, 7, 0, 0, 0, 0, []), (10, .bipush (-2), 2, false, 0, 0, 0, 0, 0, []), (12, .ireturn, 1, false, 0, 0, 0, 0, 0, []), (13, .aload_n 0, 1, false, 0, 0, 0, 0, 0, []), (14, .getfield 26, 3, false, 0, 3, 0, 0, 0, []), (17, .istore_n 2, 1, false, 0, 0, 0, 0, 0, []), (18, .aload_n 0, 1, false, 0, 0, 0, 0, 0, []), (19, .iload_n 1, 1, false, 0, 0, 0, 0, 0, []), (20, .putfield 26, 3, false, 0, 3, 0, 0, 0, []), (23, .aload_n 0, 1, false, 0, 0, 0, 0, 0, []), (24, .invokevirtual 67, 3, false, 56, 1, 0, 0, 0, []), (27, .iload_n 2, 1, false, 0, 0, 0, 0, 0, []), (28, .ireturn, 1, false, 0, 0, 0, 0, 0, [])]
noncomputable def mdX4_fee : mm_M := (yX4_fee, cX4_fee, 3, (some .int), 4, 1, tbX4_fee)
set_option maxRecDepth 20000 in
noncomputable def tbX4_jump : List mm_E := [(0, .aload_n 0, 1, false, 0, 0, 0, 0, 0, []), (1, .getfield 12, 3, false, 0, 0, 4, 0, 0, []), (4, .iload_n 1, 1, false, 0, 0, 0, 0, 0, []), (5, .invokevirtual 74, 3, false, 0, 2, 1, 1, 0, []), (8, .ifCond .eq 19, 3, false, 13, 0, 0, 0, 0, []), (11, .aload_n 0, 1, false, 0, 0, 0, 0, 0, []), (12, .getfield 12, 3, false, 0, 0, 4, 0, 0, []), (15, .iload_n 2, 1, false, 0, 0, 0, 0, 0, []), (16, .invokevirtual 74, 3, false, 0, 2, 1, 1, 0, []), (19, .ifCond .eq 8, 3, false, 13, 0, 0, 0, 0, []), (22, .iload_n 1, 1, false, 0, 0, 0, 0, 0, []), (23, .iload_n 2, 1, false, 0, 0, 0, 0, 0, []), (24, .if_icmp .ne 7, 3, false, 15, 0, 0, 0, 0, []), (27, .ldc2_w 77, 3, false, 0, 0, 0, 0, (-9223372036854775808), []), (30, .lreturn, 1, false, 0, 0, 0, 0, 0, []), (31, .aload_n 0, 1, false, 0, 0, 0, 0, 0, []), (32, .getfield 12, 3, false, 0, 0, 4, 0, 0, []), (35, .iload_n 1, 1, false, 0, 0, 0, 0, 0, []), (36, .iload_n 2, 1, false, 0, 0, 0, 0, 0, []), (37, .invokevirtual 106, 3, false, 4, 3, 2, 1, 0, []), (40, .lreturn, 1, false, 0, 0, 0, 0, 0, [])]
noncomputable def mdX4_jump : mm_M := (yX4_jump, cX4_jump, 3, (some .long), 4, 2, tbX4_jump)
set_option maxRecDepth 20000 in
noncomputable def tbX4_span : List mm_E := [(0, .iload_n 1, 1, false, 0, 0, 0, 0, 0, []), (1, .ifCond .lt 18, 3, false, 9, 0, 0, 0, 0, []), (4, .iload_n 1, 1, false, 0, 0, 0, 0, 0, []), (5, .iconst 1, 1, false, 0, 0, 0, 0, 0, []), (6, .if_icmp .gt 13, 3, false, 9, 0, 0, 0, 0, []), (9, .aload_n 0, 1, false, 0, 0, 0, 0, 0, []), (10, .getfield 12, 3, false, 0, 0, 4, 0, 0, []), (13, .getfield 60, 3, false, 1, 4, 0, 0, 0, []), (16, .ifCond .gt 7, 3, false, 11, 0, 0, 0, 0, []), (19, .ldc2_w 77, 3, false, 0, 0, 0, 0, (-9223372036854775808), []), (22, .lreturn, 1, false, 0, 0, 0, 0, 0, []), (23, .iload_n 1, 1, false, 0, 0, 0, 0, 0, []), (24, .ifCond .ne 13, 3, false, 17, 0, 0, 0, 0, []), (27, .aload_n 0, 1, false, 0, 0, 0, 0, 0, []), (28, .getfield 12, 3, false, 0, 0, 4, 0, 0, []), (31, .invokevirtual 110, 3, false, 10, 1, 2, 1, 0, []), (34, .goto 10, 3, false, 20, 0, 0, 0, 0, []), (37, .aload_n 0, 1, false, 0, 0, 0, 0, 0, []), (38, .getfield 12, 3, false, 0, 0, 4, 0, 0, []), (41, .invokevirtual 114, 3, false, 11, 1, 2, 1, 0, []), (44, .lreturn, 1, false, 0, 0, 0, 0, 0, [])]
noncomputable def mdX4_span : mm_M := (yX4_span, cX4_span, 2, (some .long), 4, 2, tbX4_span)
set_option maxRecDepth 20000 in
noncomputable def tbX4_add : List mm_E := [(0, .iload_n 1, 1, false, 0, 0, 0, 0, 0, []), (1, .ifCond .lt 13, 3, false, 7, 0, 0, 0, 0, []), (4, .iload_n 1, 1, false, 0, 0, 0, 0, 0, []), (5, .bipush 8, 2, false, 0, 0, 0, 0, 0, []), (7, .if_icmp .ge 7, 3, false, 7, 0, 0, 0, 0, []), (10, .iconst 1, 1, false, 0, 0, 0, 0, 0, []), (11, .goto 4, 3, false, 8, 0, 0, 0, 0, []), (14, .iconst 0, 1, false, 0, 0, 0, 0, 0, []), (15, .istore_n 2, 1, false, 0, 0, 0, 0, 0, []), (16, .iload_n 2, 1, false, 0, 0, 0, 0, 0, []), (17, .ifCond .ne 18, 3, false, 19, 0, 0, 0, 0, []), (20, .iload_n 1, 1, false, 0, 0, 0, 0, 0, []), (21, .bipush 20, 2, false, 0, 0, 0, 0, 0, []), (23, .if_icmp .eq 12, 3, false, 19, 0, 0, 0, 0, []), (26, .iload_n 1, 1, false, 0, 0, 0, 0, 0, []), (27, .bipush 21, 2, false, 0, 0, 0, 0, 0, []), (29, .if_icmp .eq 6, 3, false, 19, 0, 0, 0, 0, []), (32, .bipush (-2), 2, false, 0, 0, 0, 0, 0, []), (34, .ireturn, 1, false, 0, 0, 0, 0, 0, []), (35, .aload_n 0, 1, false, 0, 0, 0, 0, 0, []), (36, .getfield 22, 3, false, 0, 2, 0, 0, 0, []), (39, .bipush 40, 2, false, 0, 0, 0, 0, 0, []), (41, .if_icmp .lt 6, 3, false, 25, 0, 0, 0, 0, []), (44, .bipush (-4), 2, false, 0, 0, 0, 0, 0, []), (46, .ireturn, 1, false, 0, 0, 0, 0, 0, []), (47, .aload_n 0, 1, false, 0, 0, 0, 0, 0, []), (48, .getfield 18, 3, false, 0, 1, 9, 0, 0, []), (51, .aload_n 0, 1, false, 0, 0, 0, 0, 0, []), (52, .getfield 22, 3, false, 0, 2, 0, 0, 0, []), (55, .iload_n 1, 1, false, 0, 0, 0, 0, 0, []), (56, .iastore, 1, false, 0, 0, 0, 0, 0, []), (57, .aload_n 0, 1, false, 0, 0, 0, 0, 0, []), (58, .dup, 1, false, 0, 0, 0, 0, 0, []), (59, .getfield 22, 3, false, 0, 2, 0, 0, 0, []), (62, .iconst 1, 1, false, 0, 0, 0, 0, 0, []), (63, .iadd, 1, false, 0, 0, 0, 0, 0, []), (64, .putfield 22, 3, false, 0, 2, 0, 0, 0, []), (67, .aload_n 0, 1, false, 0, 0, 0, 0, 0, []), (68, .invokevirtual 67, 3, false, 56, 1, 0, 0, 0, []), (71, .aload_n 0, 1, false, 0, 0, 0, 0, 0, []), (72, .getfield 22, 3, false, 0, 2, 0, 0, 0, []), (75, .ireturn, 1, false, 0, 0, 0, 0, 0, [])]
noncomputable def mdX4_add : mm_M := (yX4_add, cX4_add, 3, (some .int), 4, 1, tbX4_add)
set_option maxRecDepth 20000 in
noncomputable def tbX4_cut : List mm_E := [(0, .iload_n 1, 1, false, 0, 0, 0, 0, 0, []), (1, .ifCond .lt 11, 3, false, 6, 0, 0, 0, 0, []), (4, .iload_n 1, 1, false, 0, 0, 0, 0, 0, []), (5, .aload_n 0, 1, false, 0, 0, 0, 0, 0, []), (6, .getfield 22, 3, false, 0, 2, 0, 0, 0, []), (9, .if_icmp .le 6, 3, false, 8, 0, 0, 0, 0, []), (12, .bipush (-2), 2, false, 0, 0, 0, 0, 0, []), (14, .ireturn, 1, false, 0, 0, 0, 0, 0, []), (15, .aload_n 0, 1, false, 0, 0, 0, 0, 0, []), (16, .dup, 1, false, 0, 0, 0, 0, 0, []), (17, .getfield 22, 3, false, 0, 2, 0, 0, 0, []), (20, .iload_n 1, 1, false, 0, 0, 0, 0, 0, []), (21, .isub, 1, false, 0, 0, 0, 0, 0, []), (22, .putfield 22, 3, false, 0, 2, 0, 0, 0, []), (25, .aload_n 0, 1, false, 0, 0, 0, 0, 0, []), (26, .invokevirtual 67, 3, false, 56, 1, 0, 0, 0, []), (29, .aload_n 0, 1, false, 0, 0, 0, 0, 0, []), (30, .getfield 22, 3, false, 0, 2, 0, 0, 0, []), (33, .ireturn, 1, false, 0, 0, 0, 0, 0, [])]
noncomputable def mdX4_cut : mm_M := (yX4_cut, cX4_cut, 2, (some .int), 4, 1, tbX4_cut)
set_option maxRecDepth 20000 in
noncomputable def tbX4_judge : List mm_E := [(0, .aload_n 0, 1, false, 0, 0, 0, 0, 0, []), (1, .dup, 1, false, 0, 0, 0, 0, 0, []), (2, .getfield 29, 3, false, 0, 4, 0, 0, 0, []), (5, .iconst 1, 1, false, 0, 0, 0, 0, 0, []), (6, .iadd, 1, false, 0, 0, 0, 0, 0, []), (7, .putfield 29, 3, false, 0, 4, 0, 0, 0, []), (10, .iload_n 1, 1, false, 0, 0, 0, 0, 0, []), (11, .ifCond .lt 8, 3, false, 11, 0, 0, 0, 0, []), (14, .iload_n 1, 1, false, 0, 0, 0, 0, 0, []), (15, .iconst 5, 1, false, 0, 0, 0, 0, 0, []), (16, .if_icmp .le 6, 3, false, 13, 0, 0, 0, 0, []), (19, .bipush (-2), 2, false, 0, 0, 0, 0, 0, []), (21, .ireturn, 1, false, 0, 0, 0, 0, 0, []), (22, .aload_n 0, 1, false, 0, 0, 0, 0, 0, []), (23, .getfield 35, 3, false, 0, 5, 10, 0, 0, []), (26, .aload_n 0, 1, false, 0, 0, 0, 0, 0, []), (27, .getfield 12, 3, false, 0, 0, 4, 0, 0, []), (30, .aload_n 0, 1, false, 0, 0, 0, 0, 0, []), (31, .getfield 18, 3, false, 0, 1, 9, 0, 0, []), (34, .aload_n 0, 1, false, 0, 0, 0, 0, 0, []), (35, .getfield 22, 3, false, 0, 2, 0, 0, 0, []), (38, .invokevirtual 117, 3, false, 28, 4, 0, 7, 0, []), (41, .iload_n 1, 1, false, 0, 0, 0, 0, 0, []), (42, .tableswitch 104 0 4 #[34, 57, 80, 88, 96], 34, false, 56, 0, 0, 0, 0, [24, 34, 44, 48, 52]), (76, .aload_n 0, 1, false, 0, 0, 0, 0, 0, []), (77, .getfield 35, 3, false, 0, 5, 10, 0, 0, []), (80, .invokevirtual 121, 3, false, 26, 1, 1, 7, 0, []), (83, .ifCond .eq 13, 3, false, 32, 0, 0, 0, 0, []), (86, .aload_n 0, 1, false, 0, 0, 0, 0, 0, []), (87, .getfield 35, 3, false, 0, 5, 10, 0, 0, []), (90, .getfield 125, 3, false, 7, 4, 0, 0, 0, []), (93, .goto 5, 3, false, 33, 0, 0, 0, 0, []), (96, .bipush (-9), 2, false, 0, 0, 0, 0, 0, []), (98, .ireturn, 1, false, 0, 0, 0, 0, 0, []), (99, .aload_n 0, 1, false, 0, 0, 0, 0, 0, []), (100, .getfield 35, 3, false, 0, 5, 10, 0, 0, []), (103, .invokevirtual 121, 3, false, 26, 1, 1, 7, 0, []), (106, .ifCond .eq 13, 3, false, 42, 0, 0, 0, 0, []), (109, .aload_n 0, 1, false, 0, 0, 0, 0, 0, []), (110, .getfield 35, 3, false, 0, 5, 10, 0, 0, []), (113, .getfield 128, 3, false, 7, 5, 0, 0, 0, []), (116, .goto 5, 3, false, 43, 0, 0, 0, 0, []), (119, .bipush (-9), 2, false, 0, 0, 0, 0, 0, []), (121, .ireturn, 1, false, 0, 0, 0, 0, 0, []), (122, .aload_n 0, 1, false, 0, 0, 0, 0, 0, []), (123, .getfield 35, 3, false, 0, 5, 10, 0, 0, []), (126, .getfield 131, 3, false, 7, 6, 0, 0, 0, []), (129, .ireturn, 1, false, 0, 0, 0, 0, 0, []), (130, .aload_n 0, 1, false, 0, 0, 0, 0, 0, []), (131, .getfield 35, 3, false, 0, 5, 10, 0, 0, []), (134, .getfield 134, 3, false, 7, 7, 0, 0, 0, []), (137, .ireturn, 1, false, 0, 0, 0, 0, 0, []), (138, .aload_n 0, 1, false, 0, 0, 0, 0, 0, []), (139, .getfield 35, 3, false, 0, 5, 10, 0, 0, []), (142, .getfield 137, 3, false, 7, 8, 0, 0, 0, []), (145, .ireturn, 1, false, 0, 0, 0, 0, 0, []), (146, .aload_n 0, 1, false, 0, 0, 0, 0, 0, []), (147, .getfield 35, 3, false, 0, 5, 10, 0, 0, []), (150, .getfield 140, 3, false, 7, 9, 0, 0, 0, []), (153, .ireturn, 1, false, 0, 0, 0, 0, 0, [])]
noncomputable def mdX4_judge : mm_M := (yX4_judge, cX4_judge, 2, (some .int), 4, 1, tbX4_judge)
set_option maxRecDepth 20000 in
noncomputable def tbX4_jumps : List mm_E := [(0, .aload_n 0, 1, false, 0, 0, 0, 0, 0, []), (1, .dup, 1, false, 0, 0, 0, 0, 0, []), (2, .getfield 29, 3, false, 0, 4, 0, 0, 0, []), (5, .iconst 1, 1, false, 0, 0, 0, 0, 0, []), (6, .iadd, 1, false, 0, 0, 0, 0, 0, []), (7, .putfield 29, 3, false, 0, 4, 0, 0, 0, []), (10, .aload_n 0, 1, false, 0, 0, 0, 0, 0, []), (11, .getfield 35, 3, false, 0, 5, 10, 0, 0, []), (14, .aload_n 0, 1, false, 0, 0, 0, 0, 0, []), (15, .getfield 12, 3, false, 0, 0, 4, 0, 0, []), (18, .aload_n 0, 1, false, 0, 0, 0, 0, 0, []), (19, .getfield 18, 3, false, 0, 1, 9, 0, 0, []), (22, .aload_n 0, 1, false, 0, 0, 0, 0, 0, []), (23, .getfield 22, 3, false, 0, 2, 0, 0, 0, []), (26, .invokevirtual 117, 3, false, 28, 4, 0, 7, 0, []), (29, .aload_n 0, 1, false, 0, 0, 0, 0, 0, []), (30, .getfield 35, 3, false, 0, 5, 10, 0, 0, []), (33, .invokevirtual 121, 3, false, 26, 1, 1, 7, 0, []), (36, .ifCond .eq 6, 3, false, 21, 0, 0, 0, 0, []), (39, .bipush (-3), 2, false, 0, 0, 0, 0, 0, []), (41, .ireturn, 1, false, 0, 0, 0, 0, 0, []), (42, .aload_n 0, 1, false, 0, 0, 0, 0, 0, []), (43, .getfield 35, 3, false, 0, 5, 10, 0, 0, []), (46, .getfield 143, 3, false, 7, 10, 1, 0, 0, []), (49, .aload_n 0, 1, false, 0, 0, 0, 0, 0, []), (50, .getfield 26, 3, false, 0, 3, 0, 0, 0, []), (53, .i2l, 1, false, 0, 0, 0, 0, 0, []), (54, .aload_n 0, 1, false, 0, 0, 0, 0, 0, []), (55, .getfield 35, 3, false, 0, 5, 10, 0, 0, []), (58, .getfield 131, 3, false, 7, 6, 0, 0, 0, []), (61, .i2l, 1, false, 0, 0, 0, 0, 0, []), (62, .lmul, 1, false, 0, 0, 0, 0, 0, []), (63, .ladd, 1, false, 0, 0, 0, 0, 0, []), (64, .invokestatic 147, 3, false, 64, 1, 1, 0, 0, []), (67, .ireturn, 1, false, 0, 0, 0, 0, 0, [])]
noncomputable def mdX4_jumps : mm_M := (yX4_jumps, cX4_jumps, 1, (some .int), 4, 1, tbX4_jumps)
set_option maxRecDepth 20000 in
noncomputable def tbX4_told : List mm_E := [(0, .aload_n 0, 1, false, 0, 0, 0, 0, 0, []), (1, .dup, 1, false, 0, 0, 0, 0, 0, []), (2, .getfield 29, 3, false, 0, 4, 0, 0, 0, []), (5, .iconst 1, 1, false, 0, 0, 0, 0, 0, []), (6, .iadd, 1, false, 0, 0, 0, 0, 0, []), (7, .putfield 29, 3, false, 0, 4, 0, 0, 0, []), (10, .aload_n 0, 1, false, 0, 0, 0, 0, 0, []), (11, .getfield 12, 3, false, 0, 0, 4, 0, 0, []), (14, .iload_n 1, 1, false, 0, 0, 0, 0, 0, []), (15, .invokevirtual 74, 3, false, 0, 2, 1, 1, 0, []), (18, .ifCond .ne 5, 3, false, 13, 0, 0, 0, 0, []), (21, .iconst (-1), 1, false, 0, 0, 0, 0, 0, []), (22, .ireturn, 1, false, 0, 0, 0, 0, 0, []), (23, .iload_n 2, 1, false, 0, 0, 0, 0, 0, []), (24, .ifCond .lt 8, 3, false, 18, 0, 0, 0, 0, []), (27, .iload_n 2, 1, false, 0, 0, 0, 0, 0, []), (28, .iconst 3, 1, false, 0, 0, 0, 0, 0, []), (29, .if_icmp .le 6, 3, false, 20, 0, 0, 0, 0, []), (32, .bipush (-2), 2, false, 0, 0, 0, 0, 0, []), (34, .ireturn, 1, false, 0, 0, 0, 0, 0, []), (35, .aload_n 0, 1, false, 0, 0, 0, 0, 0, []), (36, .getfield 35, 3, false, 0, 5, 10, 0, 0, []), (39, .aload_n 0, 1, false, 0, 0, 0, 0, 0, []), (40, .getfield 12, 3, false, 0, 0, 4, 0, 0, []), (43, .aload_n 0, 1, false, 0, 0, 0, 0, 0, []), (44, .getfield 18, 3, false, 0, 1, 9, 0, 0, []), (47, .aload_n 0, 1, false, 0, 0, 0, 0, 0, []), (48, .getfield 22, 3, false, 0, 2, 0, 0, 0, []), (51, .invokevirtual 117, 3, false, 28, 4, 0, 7, 0, []), (54, .aload_n 0, 1, false, 0, 0, 0, 0, 0, []), (55, .getfield 35, 3, false, 0, 5, 10, 0, 0, []), (58, .invokevirtual 121, 3, false, 26, 1, 1, 7, 0, []), (61, .ifCond .eq 6, 3, false, 35, 0, 0, 0, 0, []), (64, .bipush (-3), 2, false, 0, 0, 0, 0, 0, []), (66, .ireturn, 1, false, 0, 0, 0, 0, 0, []), (67, .aload_n 0, 1, false, 0, 0, 0, 0, 0, []), (68, .getfield 35, 3, false, 0, 5, 10, 0, 0, []), (71, .iload_n 1, 1, false, 0, 0, 0, 0, 0, []), (72, .invokevirtual 151, 3, false, 27, 2, 1, 7, 0, []), (75, .ifCond .ne 6, 3, false, 42, 0, 0, 0, 0, []), (78, .bipush (-9), 2, false, 0, 0, 0, 0, 0, []), (80, .ireturn, 1, false, 0, 0, 0, 0, 0, []), (81, .iload_n 2, 1, false, 0, 0, 0, 0, 0, []), (82, .tableswitch 74 0 2 #[26, 36, 46], 26, false, 71, 0, 0, 0, 0, [44, 50, 56]), (108, .aload_n 0, 1, false, 0, 0, 0, 0, 0, []), (109, .getfield 35, 3, false, 0, 5, 10, 0, 0, []), (112, .getfield 154, 3, false, 7, 0, 11, 0, 0, []), (115, .iload_n 1, 1, false, 0, 0, 0, 0, 0, []), (116, .iaload, 1, false, 0, 0, 0, 0, 0, []), (117, .ireturn, 1, false, 0, 0, 0, 0, 0, []), (118, .aload_n 0, 1, false, 0, 0, 0, 0, 0, []), (119, .getfield 35, 3, false, 0, 5, 10, 0, 0, []), (122, .getfield 157, 3, false, 7, 1, 12, 0, 0, []), (125, .iload_n 1, 1, false, 0, 0, 0, 0, 0, []), (126, .iaload, 1, false, 0, 0, 0, 0, 0, []), (127, .ireturn, 1, false, 0, 0, 0, 0, 0, []), (128, .aload_n 0, 1, false, 0, 0, 0, 0, 0, []), (129, .getfield 35, 3, false, 0, 5, 10, 0, 0, []), (132, .getfield 160, 3, false, 7, 2, 13, 0, 0, []), (135, .iload_n 1, 1, false, 0, 0, 0, 0, 0, []), (136, .iaload, 1, false, 0, 0, 0, 0, 0, []), (137, .iconst (-1), 1, false, 0, 0, 0, 0, 0, []), (138, .if_icmp .ne 8, 3, false, 65, 0, 0, 0, 0, []), (141, .bipush (-9), 2, false, 0, 0, 0, 0, 0, []), (143, .goto 12, 3, false, 70, 0, 0, 0, 0, []), (146, .aload_n 0, 1, false, 0, 0, 0, 0, 0, []), (147, .getfield 35, 3, false, 0, 5, 10, 0, 0, []), (150, .getfield 160, 3, false, 7, 2, 13, 0, 0, []), (153, .iload_n 1, 1, false, 0, 0, 0, 0, 0, []), (154, .iaload, 1, false, 0, 0, 0, 0, 0, []), (155, .ireturn, 1, false, 0, 0, 0, 0, 0, []), (156, .aload_n 0, 1, false, 0, 0, 0, 0, 0, []), (157, .getfield 35, 3, false, 0, 5, 10, 0, 0, []), (160, .getfield 163, 3, false, 7, 3, 14, 0, 0, []), (163, .iload_n 1, 1, false, 0, 0, 0, 0, 0, []), (164, .iaload, 1, false, 0, 0, 0, 0, 0, []), (165, .ireturn, 1, false, 0, 0, 0, 0, 0, [])]
noncomputable def mdX4_told : mm_M := (yX4_told, cX4_told, 3, (some .int), 4, 1, tbX4_told)
set_option maxRecDepth 20000 in
noncomputable def tbX4_order : List mm_E := [(0, .iload_n 1, 1, false, 0, 0, 0, 0, 0, []), (1, .iconst (-1), 1, false, 0, 0, 0, 0, 0, []), (2, .if_icmp .lt 9, 3, false, 6, 0, 0, 0, 0, []), (5, .iload_n 1, 1, false, 0, 0, 0, 0, 0, []), (6, .bipush 8, 2, false, 0, 0, 0, 0, 0, []), (8, .if_icmp .lt 6, 3, false, 8, 0, 0, 0, 0, []), (11, .bipush (-2), 2, false, 0, 0, 0, 0, 0, []), (13, .ireturn, 1, false, 0, 0, 0, 0, 0, []), (14, .aload_n 0, 1, false, 0, 0, 0, 0, 0, []), (15, .getfield 45, 3, false, 0, 7, 16, 0, 0, []), (18, .getfield 166, 3, false, 13, 4, 2, 0, 0, []), (21, .ifCond .ne 14, 3, false, 17, 0, 0, 0, 0, []), (24, .aload_n 0, 1, false, 0, 0, 0, 0, 0, []), (25, .getfield 45, 3, false, 0, 7, 16, 0, 0, []), (28, .aload_n 0, 1, false, 0, 0, 0, 0, 0, []), (29, .getfield 12, 3, false, 0, 0, 4, 0, 0, []), (32, .invokevirtual 170, 3, false, 21, 2, 0, 13, 0, []), (35, .aload_n 0, 1, false, 0, 0, 0, 0, 0, []), (36, .getfield 45, 3, false, 0, 7, 16, 0, 0, []), (39, .getfield 174, 3, false, 13, 2, 0, 0, 0, []), (42, .ifCond .eq 14, 3, false, 26, 0, 0, 0, 0, []), (45, .iload_n 1, 1, false, 0, 0, 0, 0, 0, []), (46, .aload_n 0, 1, false, 0, 0, 0, 0, 0, []), (47, .getfield 45, 3, false, 0, 7, 16, 0, 0, []), (50, .getfield 174, 3, false, 13, 2, 0, 0, 0, []), (53, .if_icmp .lt 6, 3, false, 28, 0, 0, 0, 0, []), (56, .bipush (-9), 2, false, 0, 0, 0, 0, 0, []), (58, .ireturn, 1, false, 0, 0, 0, 0, 0, []), (59, .iload_n 1, 1, false, 0, 0, 0, 0, 0, []), (60, .ifCond .ge 16, 3, false, 35, 0, 0, 0, 0, []), (63, .aload_n 0, 1, false, 0, 0, 0, 0, 0, []), (64, .getfield 45, 3, false, 0, 7, 16, 0, 0, []), (67, .getfield 175, 3, false, 13, 3, 1, 0, 0, []), (70, .invokestatic 147, 3, false, 64, 1, 1, 0, 0, []), (73, .goto 12, 3, false, 40, 0, 0, 0, 0, []), (76, .aload_n 0, 1, false, 0, 0, 0, 0, 0, []), (77, .getfield 45, 3, false, 0, 7, 16, 0, 0, []), (80, .getfield 176, 3, false, 13, 1, 18, 0, 0, []), (83, .iload_n 1, 1, false, 0, 0, 0, 0, 0, []), (84, .iaload, 1, false, 0, 0, 0, 0, 0, []), (85, .ireturn, 1, false, 0, 0, 0, 0, 0, [])]
noncomputable def mdX4_order : mm_M := (yX4_order, cX4_order, 2, (some .int), 4, 1, tbX4_order)
set_option maxRecDepth 20000 in
noncomputable def tbX4_framed : List mm_E := [(0, .iload_n 1, 1, false, 0, 0, 0, 0, 0, []), (1, .bipush (-2), 2, false, 0, 0, 0, 0, 0, []), (3, .if_icmp .lt 9, 3, false, 6, 0, 0, 0, 0, []), (6, .iload_n 1, 1, false, 0, 0, 0, 0, 0, []), (7, .bipush 40, 2, false, 0, 0, 0, 0, 0, []), (9, .if_icmp .lt 6, 3, false, 8, 0, 0, 0, 0, []), (12, .bipush (-2), 2, false, 0, 0, 0, 0, 0, []), (14, .ireturn, 1, false, 0, 0, 0, 0, 0, []), (15, .aload_n 0, 1, false, 0, 0, 0, 0, 0, []), (16, .getfield 52, 3, false, 0, 8, 19, 0, 0, []), (19, .getfield 179, 3, false, 16, 10, 2, 0, 0, []), (22, .ifCond .ne 7, 3, false, 14, 0, 0, 0, 0, []), (25, .aload_n 0, 1, false, 0, 0, 0, 0, 0, []), (26, .invokevirtual 180, 3, false, 57, 1, 0, 0, 0, []), (29, .aload_n 0, 1, false, 0, 0, 0, 0, 0, []), (30, .getfield 52, 3, false, 0, 8, 19, 0, 0, []), (33, .getfield 183, 3, false, 16, 8, 0, 0, 0, []), (36, .ifCond .ne 6, 3, false, 20, 0, 0, 0, 0, []), (39, .bipush (-3), 2, false, 0, 0, 0, 0, 0, []), (41, .ireturn, 1, false, 0, 0, 0, 0, 0, []), (42, .iload_n 1, 1, false, 0, 0, 0, 0, 0, []), (43, .bipush (-2), 2, false, 0, 0, 0, 0, 0, []), (45, .if_icmp .ne 11, 3, false, 27, 0, 0, 0, 0, []), (48, .aload_n 0, 1, false, 0, 0, 0, 0, 0, []), (49, .getfield 52, 3, false, 0, 8, 19, 0, 0, []), (52, .getfield 183, 3, false, 16, 8, 0, 0, 0, []), (55, .ireturn, 1, false, 0, 0, 0, 0, 0, []), (56, .iload_n 1, 1, false, 0, 0, 0, 0, 0, []), (57, .iconst (-1), 1, false, 0, 0, 0, 0, 0, []), (58, .if_icmp .ne 14, 3, false, 35, 0, 0, 0, 0, []), (61, .aload_n 0, 1, false, 0, 0, 0, 0, 0, []), (62, .getfield 52, 3, false, 0, 8, 19, 0, 0, []), (65, .getfield 184, 3, false, 16, 9, 1, 0, 0, []), (68, .invokestatic 147, 3, false, 64, 1, 1, 0, 0, []), (71, .ireturn, 1, false, 0, 0, 0, 0, 0, []), (72, .iload_n 1, 1, false, 0, 0, 0, 0, 0, []), (73, .aload_n 0, 1, false, 0, 0, 0, 0, 0, []), (74, .getfield 52, 3, false, 0, 8, 19, 0, 0, []), (77, .getfield 183, 3, false, 16, 8, 0, 0, 0, []), (80, .if_icmp .ge 15, 3, false, 46, 0, 0, 0, 0, []), (83, .aload_n 0, 1, false, 0, 0, 0, 0, 0, []), (84, .getfield 52, 3, false, 0, 8, 19, 0, 0, []), (87, .getfield 185, 3, false, 16, 7, 24, 0, 0, []), (90, .iload_n 1, 1, false, 0, 0, 0, 0, 0, []), (91, .iaload, 1, false, 0, 0, 0, 0, 0, []), (92, .goto 5, 3, false, 47, 0, 0, 0, 0, []), (95, .bipush (-9), 2, false, 0, 0, 0, 0, 0, []), (97, .ireturn, 1, false, 0, 0, 0, 0, 0, [])]
noncomputable def mdX4_framed : mm_M := (yX4_framed, cX4_framed, 2, (some .int), 4, 1, tbX4_framed)
set_option maxRecDepth 20000 in
noncomputable def tbX4_untangled : List mm_E := [(0, .aload_n 0, 1, false, 0, 0, 0, 0, 0, []), (1, .invokevirtual 186, 3, false, 58, 1, 1, 0, 0, []), (4, .istore_n 1, 1, false, 0, 0, 0, 0, 0, []), (5, .aload_n 0, 1, false, 0, 0, 0, 0, 0, []), (6, .getfield 35, 3, false, 0, 5, 10, 0, 0, []), (9, .aload_n 0, 1, false, 0, 0, 0, 0, 0, []), (10, .getfield 12, 3, false, 0, 0, 4, 0, 0, []), (13, .aload_n 0, 1, false, 0, 0, 0, 0, 0, []), (14, .getfield 39, 3, false, 0, 6, 15, 0, 0, []), (17, .iload_n 1, 1, false, 0, 0, 0, 0, 0, []), (18, .invokevirtual 117, 3, false, 28, 4, 0, 7, 0, []), (21, .aload_n 0, 1, false, 0, 0, 0, 0, 0, []), (22, .getfield 35, 3, false, 0, 5, 10, 0, 0, []), (25, .invokevirtual 121, 3, false, 26, 1, 1, 7, 0, []), (28, .ifCond .eq 6, 3, false, 17, 0, 0, 0, 0, []), (31, .bipush (-3), 2, false, 0, 0, 0, 0, 0, []), (33, .ireturn, 1, false, 0, 0, 0, 0, 0, []), (34, .aload_n 0, 1, false, 0, 0, 0, 0, 0, []), (35, .getfield 35, 3, false, 0, 5, 10, 0, 0, []), (38, .getfield 143, 3, false, 7, 10, 1, 0, 0, []), (41, .lstore_n 2, 1, false, 0, 0, 0, 0, 0, []), (42, .bipush (-9), 2, false, 0, 0, 0, 0, 0, []), (44, .istore 4, 2, false, 0, 0, 0, 0, 0, []), (46, .iconst 0, 1, false, 0, 0, 0, 0, 0, []), (47, .istore 5, 2, false, 0, 0, 0, 0, 0, []), (49, .iload 5, 2, true, 0, 0, 0, 0, 0, []), (51, .iconst 1, 1, false, 0, 0, 0, 0, 0, []), (52, .iadd, 1, false, 0, 0, 0, 0, 0, []), (53, .iload_n 1, 1, false, 0, 0, 0, 0, 0, []), (54, .if_icmp .ge 80, 3, false, 67, 0, 0, 0, 0, []), (57, .iload 5, 2, false, 0, 0, 0, 0, 0, []), (59, .iconst 1, 1, false, 0, 0, 0, 0, 0, []), (60, .iadd, 1, false, 0, 0, 0, 0, 0, []), (61, .bipush 40, 2, false, 0, 0, 0, 0, 0, []), (63, .if_icmp .ge 71, 3, false, 67, 0, 0, 0, 0, []), (66, .aload_n 0, 1, false, 0, 0, 0, 0, 0, []), (67, .iload 5, 2, false, 0, 0, 0, 0, 0, []), (69, .invokevirtual 190, 3, false, 59, 2, 0, 0, 0, []), (72, .aload_n 0, 1, false, 0, 0, 0, 0, 0, []), (73, .getfield 35, 3, false, 0, 5, 10, 0, 0, []), (76, .aload_n 0, 1, false, 0, 0, 0, 0, 0, []), (77, .getfield 12, 3, false, 0, 0, 4, 0, 0, []), (80, .aload_n 0, 1, false, 0, 0, 0, 0, 0, []), (81, .getfield 39, 3, false, 0, 6, 15, 0, 0, []), (84, .iload_n 1, 1, false, 0, 0, 0, 0, 0, []), (85, .invokevirtual 117, 3, false, 28, 4, 0, 7, 0, []), (88, .aload_n 0, 1, false, 0, 0, 0, 0, 0, []), (89, .iload 5, 2, false, 0, 0, 0, 0, 0, []), (91, .invokevirtual 190, 3, false, 59, 2, 0, 0, 0, []), (94, .aload_n 0, 1, false, 0, 0, 0, 0, 0, []), (95, .getfield 35, 3, false, 0, 5, 10, 0, 0, []), (98, .invokevirtual 121, 3, false, 26, 1, 1, 7, 0, []), (101, .ifCond .ne 27, 3, false, 65, 0, 0, 0, 0, []), (104, .aload_n 0, 1, false, 0, 0, 0, 0, 0, []), (105, .getfield 35, 3, false, 0, 5, 10, 0, 0, []), (108, .getfield 143, 3, false, 7, 10, 1, 0, 0, []), (111, .lload_n 2, 1, false, 0, 0, 0, 0, 0, []), (112, .lcmp, 1, false, 0, 0, 0, 0, 0, []), (113, .ifCond .ge 15, 3, false, 65, 0, 0, 0, 0, []), (116, .aload_n 0, 1, false, 0, 0, 0, 0, 0, []), (117, .getfield 35, 3, false, 0, 5, 10, 0, 0, []), (120, .getfield 143, 3, false, 7, 10, 1, 0, 0, []), (123, .lstore_n 2, 1, false, 0, 0, 0, 0, 0, []), (124, .iload 5, 2, false, 0, 0, 0, 0, 0, []), (126, .istore 4, 2, false, 0, 0, 0, 0, 0, []), (128, .iinc 5 1, 3, false, 0, 0, 0, 0, 0, []), (131, .goto (-82), 3, false, 25, 0, 0, 0, 0, []), (134, .iload 4, 2, false, 0, 0, 0, 0, 0, []), (136, .ireturn, 1, false, 0, 0, 0, 0, 0, [])]
noncomputable def mdX4_untangled : mm_M := (yX4_untangled, cX4_untangled, 6, (some .int), 4, 1, tbX4_untangled)
set_option maxRecDepth 20000 in
noncomputable def tbX4_many : List mm_E := [(0, .iload_n 1, 1, false, 0, 0, 0, 0, 0, []), (1, .tableswitch 86 0 4 #[35, 43, 48, 53, 58], 35, false, 29, 0, 0, 0, 0, [2, 6, 9, 12, 15]), (36, .aload_n 0, 1, false, 0, 0, 0, 0, 0, []), (37, .getfield 12, 3, false, 0, 0, 4, 0, 0, []), (40, .getfield 60, 3, false, 1, 4, 0, 0, 0, []), (43, .ireturn, 1, false, 0, 0, 0, 0, 0, []), (44, .aload_n 0, 1, false, 0, 0, 0, 0, 0, []), (45, .getfield 22, 3, false, 0, 2, 0, 0, 0, []), (48, .ireturn, 1, false, 0, 0, 0, 0, 0, []), (49, .aload_n 0, 1, false, 0, 0, 0, 0, 0, []), (50, .getfield 26, 3, false, 0, 3, 0, 0, 0, []), (53, .ireturn, 1, false, 0, 0, 0, 0, 0, []), (54, .aload_n 0, 1, false, 0, 0, 0, 0, 0, []), (55, .getfield 29, 3, false, 0, 4, 0, 0, 0, []), (58, .ireturn, 1, false, 0, 0, 0, 0, 0, []), (59, .aload_n 0, 1, false, 0, 0, 0, 0, 0, []), (60, .getfield 12, 3, false, 0, 0, 4, 0, 0, []), (63, .invokevirtual 194, 3, false, 8, 1, 1, 1, 0, []), (66, .aload_n 0, 1, false, 0, 0, 0, 0, 0, []), (67, .getfield 12, 3, false, 0, 0, 4, 0, 0, []), (70, .aload_n 0, 1, false, 0, 0, 0, 0, 0, []), (71, .getfield 12, 3, false, 0, 0, 4, 0, 0, []), (74, .invokevirtual 197, 3, false, 6, 1, 1, 1, 0, []), (77, .invokevirtual 200, 3, false, 7, 2, 1, 1, 0, []), (80, .iconst (-1), 1, false, 0, 0, 0, 0, 0, []), (81, .ixor, 1, false, 0, 0, 0, 0, 0, []), (82, .iand, 1, false, 0, 0, 0, 0, 0, []), (83, .invokestatic 204, 3, false, 65, 1, 1, 0, 0, []), (86, .ireturn, 1, false, 0, 0, 0, 0, 0, []), (87, .bipush (-2), 2, false, 0, 0, 0, 0, 0, []), (89, .ireturn, 1, false, 0, 0, 0, 0, 0, [])]
noncomputable def mdX4_many : mm_M := (yX4_many, cX4_many, 2, (some .int), 4, 1, tbX4_many)
set_option maxRecDepth 20000 in
noncomputable def tbX4_forgetBest : List mm_E := [(0, .aload_n 0, 1, false, 0, 0, 0, 0, 0, []), (1, .getfield 45, 3, false, 0, 7, 16, 0, 0, []), (4, .iconst 0, 1, false, 0, 0, 0, 0, 0, []), (5, .putfield 166, 3, false, 13, 4, 2, 0, 0, []), (8, .aload_n 0, 1, false, 0, 0, 0, 0, 0, []), (9, .getfield 52, 3, false, 0, 8, 19, 0, 0, []), (12, .iconst 0, 1, false, 0, 0, 0, 0, 0, []), (13, .putfield 179, 3, false, 16, 10, 2, 0, 0, []), (16, .return_, 1, false, 0, 0, 0, 0, 0, [])]
noncomputable def mdX4_forgetBest : mm_M := (yX4_forgetBest, cX4_forgetBest, 1, none, 4, 0, tbX4_forgetBest)
set_option maxRecDepth 20000 in
noncomputable def tbX4_findFrames : List mm_E := [(0, .aload_n 0, 1, false, 0, 0, 0, 0, 0, []), (1, .invokevirtual 186, 3, false, 58, 1, 1, 0, 0, []), (4, .istore_n 1, 1, false, 0, 0, 0, 0, 0, []), (5, .aload_n 0, 1, false, 0, 0, 0, 0, 0, []), (6, .getfield 35, 3, false, 0, 5, 10, 0, 0, []), (9, .aload_n 0, 1, false, 0, 0, 0, 0, 0, []), (10, .getfield 12, 3, false, 0, 0, 4, 0, 0, []), (13, .aload_n 0, 1, false, 0, 0, 0, 0, 0, []), (14, .getfield 39, 3, false, 0, 6, 15, 0, 0, []), (17, .iload_n 1, 1, false, 0, 0, 0, 0, 0, []), (18, .invokevirtual 117, 3, false, 28, 4, 0, 7, 0, []), (21, .aload_n 0, 1, false, 0, 0, 0, 0, 0, []), (22, .getfield 35, 3, false, 0, 5, 10, 0, 0, []), (25, .invokevirtual 121, 3, false, 26, 1, 1, 7, 0, []), (28, .ifCond .eq 5, 3, false, 17, 0, 0, 0, 0, []), (31, .iconst 0, 1, false, 0, 0, 0, 0, 0, []), (32, .istore_n 1, 1, false, 0, 0, 0, 0, 0, []), (33, .aload_n 0, 1, false, 0, 0, 0, 0, 0, []), (34, .getfield 52, 3, false, 0, 8, 19, 0, 0, []), (37, .aload_n 0, 1, false, 0, 0, 0, 0, 0, []), (38, .getfield 12, 3, false, 0, 0, 4, 0, 0, []), (41, .aload_n 0, 1, false, 0, 0, 0, 0, 0, []), (42, .getfield 39, 3, false, 0, 6, 15, 0, 0, []), (45, .iload_n 1, 1, false, 0, 0, 0, 0, 0, []), (46, .aload_n 0, 1, false, 0, 0, 0, 0, 0, []), (47, .getfield 26, 3, false, 0, 3, 0, 0, 0, []), (50, .invokevirtual 209, 3, false, 14, 5, 0, 16, 0, []), (53, .return_, 1, false, 0, 0, 0, 0, 0, [])]
noncomputable def mdX4_findFrames : mm_M := (yX4_findFrames, cX4_findFrames, 2, none, 4, 0, tbX4_findFrames)
set_option maxRecDepth 20000 in
noncomputable def tbX4_writeRow : List mm_E := [(0, .iconst 0, 1, false, 0, 0, 0, 0, 0, []), (1, .istore_n 1, 1, false, 0, 0, 0, 0, 0, []), (2, .iconst 0, 1, false, 0, 0, 0, 0, 0, []), (3, .istore_n 2, 1, false, 0, 0, 0, 0, 0, []), (4, .iload_n 2, 1, true, 0, 0, 0, 0, 0, []), (5, .aload_n 0, 1, false, 0, 0, 0, 0, 0, []), (6, .getfield 22, 3, false, 0, 2, 0, 0, 0, []), (9, .if_icmp .ge 41, 3, false, 28, 0, 0, 0, 0, []), (12, .iload_n 2, 1, false, 0, 0, 0, 0, 0, []), (13, .bipush 40, 2, false, 0, 0, 0, 0, 0, []), (15, .if_icmp .ge 35, 3, false, 28, 0, 0, 0, 0, []), (18, .aload_n 0, 1, false, 0, 0, 0, 0, 0, []), (19, .getfield 18, 3, false, 0, 1, 9, 0, 0, []), (22, .iload_n 2, 1, false, 0, 0, 0, 0, 0, []), (23, .iaload, 1, false, 0, 0, 0, 0, 0, []), (24, .bipush 8, 2, false, 0, 0, 0, 0, 0, []), (26, .if_icmp .ge 18, 3, false, 26, 0, 0, 0, 0, []), (29, .aload_n 0, 1, false, 0, 0, 0, 0, 0, []), (30, .getfield 39, 3, false, 0, 6, 15, 0, 0, []), (33, .iload_n 1, 1, false, 0, 0, 0, 0, 0, []), (34, .aload_n 0, 1, false, 0, 0, 0, 0, 0, []), (35, .getfield 18, 3, false, 0, 1, 9, 0, 0, []), (38, .iload_n 2, 1, false, 0, 0, 0, 0, 0, []), (39, .iaload, 1, false, 0, 0, 0, 0, 0, []), (40, .iastore, 1, false, 0, 0, 0, 0, 0, []), (41, .iinc 1 1, 3, false, 0, 0, 0, 0, 0, []), (44, .iinc 2 1, 3, false, 0, 0, 0, 0, 0, []), (47, .goto (-43), 3, false, 4, 0, 0, 0, 0, []), (50, .iload_n 1, 1, false, 0, 0, 0, 0, 0, []), (51, .ireturn, 1, false, 0, 0, 0, 0, 0, [])]
noncomputable def mdX4_writeRow : mm_M := (yX4_writeRow, cX4_writeRow, 3, (some .int), 4, 1, tbX4_writeRow)
set_option maxRecDepth 20000 in
noncomputable def tbX4_changePlaces : List mm_E := [(0, .aload_n 0, 1, false, 0, 0, 0, 0, 0, []), (1, .getfield 39, 3, false, 0, 6, 15, 0, 0, []), (4, .iload_n 1, 1, false, 0, 0, 0, 0, 0, []), (5, .iaload, 1, false, 0, 0, 0, 0, 0, []), (6, .istore_n 2, 1, false, 0, 0, 0, 0, 0, []), (7, .aload_n 0, 1, false, 0, 0, 0, 0, 0, []), (8, .getfield 39, 3, false, 0, 6, 15, 0, 0, []), (11, .iload_n 1, 1, false, 0, 0, 0, 0, 0, []), (12, .aload_n 0, 1, false, 0, 0, 0, 0, 0, []), (13, .getfield 39, 3, false, 0, 6, 15, 0, 0, []), (16, .iload_n 1, 1, false, 0, 0, 0, 0, 0, []), (17, .iconst 1, 1, false, 0, 0, 0, 0, 0, []), (18, .iadd, 1, false, 0, 0, 0, 0, 0, []), (19, .iaload, 1, false, 0, 0, 0, 0, 0, []), (20, .iastore, 1, false, 0, 0, 0, 0, 0, []), (21, .aload_n 0, 1, false, 0, 0, 0, 0, 0, []), (22, .getfield 39, 3, false, 0, 6, 15, 0, 0, []), (25, .iload_n 1, 1, false, 0, 0, 0, 0, 0, []), (26, .iconst 1, 1, false, 0, 0, 0, 0, 0, []), (27, .iadd, 1, false, 0, 0, 0, 0, 0, []), (28, .iload_n 2, 1, false, 0, 0, 0, 0, 0, []), (29, .iastore, 1, false, 0, 0, 0, 0, 0, []), (30, .return_, 1, false, 0, 0, 0, 0, 0, [])]
noncomputable def mdX4_changePlaces : mm_M := (yX4_changePlaces, cX4_changePlaces, 3, none, 4, 0, tbX4_changePlaces)
set_option maxRecDepth 20000 in
noncomputable def tbX4_isClue : List mm_E := [(0, .iload_n 0, 1, false, 0, 0, 0, 0, 0, []), (1, .ifCond .lt 13, 3, false, 7, 0, 0, 0, 0, []), (4, .iload_n 0, 1, false, 0, 0, 0, 0, 0, []), (5, .bipush 8, 2, false, 0, 0, 0, 0, 0, []), (7, .if_icmp .ge 7, 3, false, 7, 0, 0, 0, 0, []), (10, .iconst 1, 1, false, 0, 0, 0, 0, 0, []), (11, .goto 4, 3, false, 8, 0, 0, 0, 0, []), (14, .iconst 0, 1, false, 0, 0, 0, 0, 0, []), (15, .ireturn, 1, false, 0, 0, 1, 0, 0, [])]
noncomputable def mdX4_isClue : mm_M := (yX4_isClue, cX4_isClue, 1, (some .boolean), 4, 1, tbX4_isClue)
set_option maxRecDepth 20000 in
noncomputable def tbX4_isClueSet : List mm_E := [(0, .iload_n 0, 1, false, 0, 0, 0, 0, 0, []), (1, .ifCond .lt 14, 3, false, 7, 0, 0, 0, 0, []), (4, .iload_n 0, 1, false, 0, 0, 0, 0, 0, []), (5, .sipush 255, 3, false, 0, 0, 0, 0, 0, []), (8, .if_icmp .gt 7, 3, false, 7, 0, 0, 0, 0, []), (11, .iconst 1, 1, false, 0, 0, 0, 0, 0, []), (12, .goto 4, 3, false, 8, 0, 0, 0, 0, []), (15, .iconst 0, 1, false, 0, 0, 0, 0, 0, []), (16, .ireturn, 1, false, 0, 0, 1, 0, 0, [])]
noncomputable def mdX4_isClueSet : mm_M := (yX4_isClueSet, cX4_isClueSet, 1, (some .boolean), 4, 1, tbX4_isClueSet)
set_option maxRecDepth 20000 in
noncomputable def tbX4_isIn : List mm_E := [(0, .iload_n 0, 1, false, 0, 0, 0, 0, 0, []), (1, .iload_n 1, 1, false, 0, 0, 0, 0, 0, []), (2, .ishr, 1, false, 0, 0, 0, 0, 0, []), (3, .iconst 1, 1, false, 0, 0, 0, 0, 0, []), (4, .iand, 1, false, 0, 0, 0, 0, 0, []), (5, .iconst 1, 1, false, 0, 0, 0, 0, 0, []), (6, .if_icmp .ne 7, 3, false, 9, 0, 0, 0, 0, []), (9, .iconst 1, 1, false, 0, 0, 0, 0, 0, []), (10, .goto 4, 3, false, 10, 0, 0, 0, 0, []), (13, .iconst 0, 1, false, 0, 0, 0, 0, 0, []), (14, .ireturn, 1, false, 0, 0, 1, 0, 0, [])]
noncomputable def mdX4_isIn : mm_M := (yX4_isIn, cX4_isIn, 2, (some .boolean), 4, 1, tbX4_isIn)
set_option maxRecDepth 20000 in
noncomputable def tbX4_fitsInt : List mm_E := [(0, .lload_n 0, 1, false, 0, 0, 0, 0, 0, []), (1, .ldc2_w 212, 3, false, 0, 0, 0, 0, (-2147483648), []), (4, .lcmp, 1, false, 0, 0, 0, 0, 0, []), (5, .ifCond .lt 15, 3, false, 10, 0, 0, 0, 0, []), (8, .lload_n 0, 1, false, 0, 0, 0, 0, 0, []), (9, .ldc2_w 214, 3, false, 0, 0, 0, 0, 2147483647, []), (12, .lcmp, 1, false, 0, 0, 0, 0, 0, []), (13, .ifCond .gt 7, 3, false, 10, 0, 0, 0, 0, []), (16, .iconst 1, 1, false, 0, 0, 0, 0, 0, []), (17, .goto 4, 3, false, 11, 0, 0, 0, 0, []), (20, .iconst 0, 1, false, 0, 0, 0, 0, 0, []), (21, .ireturn, 1, false, 0, 0, 1, 0, 0, [])]
noncomputable def mdX4_fitsInt : mm_M := (yX4_fitsInt, cX4_fitsInt, 2, (some .boolean), 4, 1, tbX4_fitsInt)
set_option maxRecDepth 20000 in
noncomputable def tbX4_intOrOver : List mm_E := [(0, .lload_n 0, 1, false, 0, 0, 0, 0, 0, []), (1, .invokestatic 63, 3, false, 63, 1, 1, 0, 0, []), (4, .ifCond .eq 8, 3, false, 6, 0, 0, 0, 0, []), (7, .lload_n 0, 1, false, 0, 0, 0, 0, 0, []), (8, .l2i, 1, false, 0, 0, 0, 0, 0, []), (9, .goto 5, 3, false, 7, 0, 0, 0, 0, []), (12, .bipush (-5), 2, false, 0, 0, 0, 0, 0, []), (14, .ireturn, 1, false, 0, 0, 0, 0, 0, [])]
noncomputable def mdX4_intOrOver : mm_M := (yX4_intOrOver, cX4_intOrOver, 2, (some .int), 4, 1, tbX4_intOrOver)
set_option maxRecDepth 20000 in
noncomputable def tbJ6_bitCount_0f7a4 : List mm_E := [(0, .iload_n 0, 1, false, 0, 0, 0, 0, 0, []), (1, .iload_n 0, 1, false, 0, 0, 0, 0, 0, []), (2, .iconst 1, 1, false, 0, 0, 0, 0, 0, []), (3, .iushr, 1, false, 0, 0, 0, 0, 0, []), (4, .ldc_w 265, 3, false, 0, 0, 0, 0, 1431655765, []), (7, .iand, 1, false, 0, 0, 0, 0, 0, []), (8, .isub, 1, false, 0, 0, 0, 0, 0, []), (9, .istore_n 0, 1, false, 0, 0, 0, 0, 0, []), (10, .iload_n 0, 1, false, 0, 0, 0, 0, 0, []), (11, .ldc_w 266, 3, false, 0, 0, 0, 0, 858993459, []), (14, .iand, 1, false, 0, 0, 0, 0, 0, []), (15, .iload_n 0, 1, false, 0, 0, 0, 0, 0, []), (16, .iconst 2, 1, false, 0, 0, 0, 0, 0, []), (17, .iushr, 1, false, 0, 0, 0, 0, 0, []), (18, .ldc_w 266, 3, false, 0, 0, 0, 0, 858993459, []), (21, .iand, 1, false, 0, 0, 0, 0, 0, []), (22, .iadd, 1, false, 0, 0, 0, 0, 0, []), (23, .istore_n 0, 1, false, 0, 0, 0, 0, 0, []), (24, .iload_n 0, 1, false, 0, 0, 0, 0, 0, []), (25, .iload_n 0, 1, false, 0, 0, 0, 0, 0, []), (26, .iconst 4, 1, false, 0, 0, 0, 0, 0, []), (27, .iushr, 1, false, 0, 0, 0, 0, 0, []), (28, .iadd, 1, false, 0, 0, 0, 0, 0, []), (29, .ldc_w 267, 3, false, 0, 0, 0, 0, 252645135, []), (32, .iand, 1, false, 0, 0, 0, 0, 0, []), (33, .istore_n 0, 1, false, 0, 0, 0, 0, 0, []), (34, .iload_n 0, 1, false, 0, 0, 0, 0, 0, []), (35, .iload_n 0, 1, false, 0, 0, 0, 0, 0, []), (36, .bipush 8, 2, false, 0, 0, 0, 0, 0, []), (38, .iushr, 1, false, 0, 0, 0, 0, 0, []), (39, .iadd, 1, false, 0, 0, 0, 0, 0, []), (40, .istore_n 0, 1, false, 0, 0, 0, 0, 0, []), (41, .iload_n 0, 1, false, 0, 0, 0, 0, 0, []), (42, .iload_n 0, 1, false, 0, 0, 0, 0, 0, []), (43, .bipush 16, 2, false, 0, 0, 0, 0, 0, []), (45, .iushr, 1, false, 0, 0, 0, 0, 0, []), (46, .iadd, 1, false, 0, 0, 0, 0, 0, []), (47, .istore_n 0, 1, false, 0, 0, 0, 0, 0, []), (48, .iload_n 0, 1, false, 0, 0, 0, 0, 0, []), (49, .bipush 63, 2, false, 0, 0, 0, 0, 0, []), (51, .iand, 1, false, 0, 0, 0, 0, 0, []), (52, .ireturn, 1, false, 0, 0, 0, 0, 0, [])]
noncomputable def mdJ6_bitCount_0f7a4 : mm_M := (yJ6_bitCount_0f7a4, cJ6_bitCount_0f7a4, 1, (some .int), 6, 1, tbJ6_bitCount_0f7a4)
set_option maxRecDepth 20000 in
noncomputable def tbJ7_fill_53178 : List mm_E := [(0, .iconst 0, 1, false, 0, 0, 0, 0, 0, []), (1, .istore_n 2, 1, false, 0, 0, 0, 0, 0, []), (2, .aload_n 0, 1, false, 0, 0, 0, 0, 0, []), (3, .arraylength, 1, false, 0, 0, 0, 0, 0, []), (4, .istore_n 3, 1, false, 0, 0, 0, 0, 0, []), (5, .iload_n 2, 1, true, 0, 0, 0, 0, 0, []), (6, .iload_n 3, 1, false, 0, 0, 0, 0, 0, []), (7, .if_icmp .ge 13, 3, false, 14, 0, 0, 0, 0, []), (10, .aload_n 0, 1, false, 0, 0, 0, 0, 0, []), (11, .iload_n 2, 1, false, 0, 0, 0, 0, 0, []), (12, .iload_n 1, 1, false, 0, 0, 0, 0, 0, []), (13, .iastore, 1, false, 0, 0, 0, 0, 0, []), (14, .iinc 2 1, 3, false, 0, 0, 0, 0, 0, []), (17, .goto (-12), 3, false, 5, 0, 0, 0, 0, []), (20, .return_, 1, false, 0, 0, 0, 0, 0, [])]
noncomputable def mdJ7_fill_53178 : mm_M := (yJ7_fill_53178, cJ7_fill_53178, 4, none, 9, 0, tbJ7_fill_53178)
def shC : mm_S := [(0, 4, [4, 9, 0, 0, 0, 10, 15, 16, 19]), (0, 0, [5, 6, 7, 8, 0]), (1, 8, []), (1, 8, []), (1, 8, []), (1, 8, []), (1, 40, []), (0, 3, [11, 12, 13, 14, 0, 0, 0, 0, 0, 0, 1, 0, 0, 0, 0]), (1, 8, []), (1, 8, []), (1, 8, []), (1, 8, []), (1, 40, []), (0, 2, [17, 18, 0, 1, 2]), (2, 2048, []), (1, 8, []), (0, 1, [20, 0, 21, 22, 23, 0, 0, 24, 0, 1, 2]), (1, 8, []), (1, 8, []), (1, 8, []), (1, 40, []), (1, 40, [])]
noncomputable def msC : List mm_M := [mdX0_has, mdX0_append, mdX0_endOf, mdX0_canMove, mdX0_jumpBetween, mdX0_sideBy, mdX0_everyone, mdX0_givenBy, mdX0_allNeeds, mdX0_readyAfter, mdX0_extent, mdX0_untold, mdX0_isFirstToEnd, mdX0_gapBehind, mdX1_find, mdX1_takeRow, mdX1_setFrom, mdX1_setBeside, mdX1_setWithin, mdX1_keep, mdX1_closeAll, mdX2_find, mdX2_fillRest, mdX2_nextBehind, mdX2_restBy, mdX2_follow, mdX3_isWrong, mdX3_hasTold, mdX3_goThrough, mdX3_begin, mdX3_whyWrong, mdX3_isOnSide, mdX3_take, mdX3_openFrame, mdX3_closeFrame, mdX3_tell, mdX4_scene, mdX4_ofScene, mdX4_move, mdX4_shift, mdX4_stretch, mdX4_clue, mdX4_ofClue, mdX4_drop, mdX4_fee, mdX4_jump, mdX4_span, mdX4_add, mdX4_cut, mdX4_judge, mdX4_jumps, mdX4_told, mdX4_order, mdX4_framed, mdX4_untangled, mdX4_many, mdX4_forgetBest, mdX4_findFrames, mdX4_writeRow, mdX4_changePlaces, mdX4_isClue, mdX4_isClueSet, mdX4_isIn, mdX4_fitsInt, mdX4_intOrOver, mdJ6_bitCount_0f7a4, mdJ7_fill_53178]
def cnC : Nat → String := fun k => match k with
  | 0 => RX0
  | 1 => RX1
  | 2 => RX2
  | 3 => RX3
  | 4 => RX4
  | 5 => RX5
  | 6 => RJ6
  | 7 => RJ9
  | 8 => RJ10
  | _ => RJ7
def tyC : Nat → Nat → FieldType := fun c => match c with
  | 0 => tyX0
  | 1 => tyX1
  | 2 => tyX2
  | 3 => tyX3
  | 4 => tyX4
  | _ => tyX5
noncomputable def TC : mm_T := (shC, msC, vwCl, tyC, cnC, [(0, 24, 1, 4), (0, 9, 1, 0), (0, 15, 1, 1), (0, 18, 1, 2), (0, 21, 1, 3), (1, 44, 16, 10), (1, 37, 16, 8), (1, 40, 16, 9), (1, 31, 16, 6), (1, 28, 16, 5), (1, 15, 16, 1), (1, 9, 16, 0), (1, 19, 16, 2), (1, 22, 16, 3), (1, 25, 16, 4), (1, 34, 16, 7), (2, 27, 13, 4), (2, 19, 13, 2), (2, 23, 13, 3), (2, 41, 1, 4), (2, 11, 13, 0), (2, 15, 13, 1), (3, 24, 7, 5), (3, 9, 7, 0), (3, 39, 7, 4), (3, 42, 7, 11), (3, 51, 7, 6), (3, 54, 7, 7), (3, 57, 7, 8), (3, 60, 7, 9), (3, 63, 7, 10), (3, 67, 7, 12), (3, 70, 7, 13), (3, 73, 7, 14), (3, 85, 1, 3), (3, 18, 7, 2), (3, 21, 7, 3), (3, 15, 7, 1), (3, 114, 1, 2), (4, 12, 0, 0), (4, 60, 1, 4), (4, 79, 1, 0), (4, 82, 1, 1), (4, 89, 1, 2), (4, 92, 1, 3), (4, 26, 0, 3), (4, 22, 0, 2), (4, 18, 0, 1), (4, 29, 0, 4), (4, 35, 0, 5), (4, 125, 7, 4), (4, 128, 7, 5), (4, 131, 7, 6), (4, 134, 7, 7), (4, 137, 7, 8), (4, 140, 7, 9), (4, 143, 7, 10), (4, 154, 7, 0), (4, 157, 7, 1), (4, 160, 7, 2), (4, 163, 7, 3), (4, 45, 0, 7), (4, 166, 13, 4), (4, 174, 13, 2), (4, 175, 13, 3), (4, 176, 13, 1), (4, 52, 0, 8), (4, 179, 16, 10), (4, 183, 16, 8), (4, 184, 16, 9), (4, 185, 16, 7), (4, 39, 0, 6)], [(0, 28, 0, 0, 1), (0, 32, 2, 63, 0), (0, 36, 0, 2, 1), (0, 46, 2, 62, 0), (0, 50, 0, 7, 1), (0, 67, 0, 12, 1), (0, 70, 0, 13, 1), (1, 52, 0, 15, 16), (1, 56, 0, 16, 16), (1, 60, 0, 0, 1), (1, 66, 0, 19, 16), (1, 70, 0, 17, 16), (1, 74, 0, 18, 16), (1, 77, 0, 5, 1), (1, 81, 0, 4, 1), (1, 91, 0, 20, 16), (2, 31, 0, 6, 1), (2, 37, 0, 22, 13), (2, 44, 0, 25, 13), (2, 48, 0, 9, 1), (2, 52, 2, 62, 0), (2, 56, 0, 23, 13), (2, 60, 0, 24, 13), (2, 64, 0, 4, 1), (3, 28, 0, 29, 7), (3, 31, 0, 30, 7), (3, 35, 0, 32, 7), (3, 45, 1, 66, 0), (3, 76, 0, 0, 1), (3, 82, 0, 27, 7), (3, 88, 0, 31, 7), (3, 92, 0, 5, 1), (3, 96, 0, 33, 7), (3, 99, 0, 34, 7), (3, 102, 0, 35, 7), (3, 110, 0, 4, 1), (4, 56, 1, 61, 0), (4, 63, 1, 63, 0), (4, 67, 0, 56, 0), (4, 70, 0, 1, 1), (4, 74, 0, 0, 1), (4, 85, 0, 2, 1), (4, 95, 0, 3, 1), (4, 99, 1, 60, 0), (4, 102, 1, 62, 0), (4, 106, 0, 4, 1), (4, 110, 0, 10, 1), (4, 114, 0, 11, 1), (4, 117, 0, 28, 7), (4, 121, 0, 26, 7), (4, 147, 1, 64, 0), (4, 151, 0, 27, 7), (4, 170, 0, 21, 13), (4, 180, 0, 57, 0), (4, 186, 0, 58, 0), (4, 190, 0, 59, 0), (4, 194, 0, 8, 1), (4, 197, 0, 6, 1), (4, 200, 0, 7, 1), (4, 204, 1, 65, 0), (4, 209, 0, 14, 16)], [(0, 56, 9223372036854775807), (0, 58, (-9223372036854775808)), (1, 50, 9223372036854775807), (2, 42, (-1)), (4, 77, (-9223372036854775808)), (4, 212, (-2147483648)), (4, 214, 2147483647)], [(4, 105, 1000000), (6, 265, 1431655765), (6, 266, 858993459), (6, 267, 252645135)], [(0, 40, 10), (0, 60, 13), (0, 64, 12), (1, 85, 14), (3, 105, 11)], "ToldScenes")
/-! ===== entries, as rows to rewrite by (C) ===== -/
set_option maxRecDepth 20000 in
theorem uX0_has (sh : mm_S) (call : mm_C) (Q : mm_Q) (n i : Nat) (lo st : List Value) (I : mm_I) (L : mm_L) : mm_v sh call tbX0_has Q (n + 1) i lo st I L = mm_vn sh call tbX0_has Q n [(0, .iload_n 1, 1, false, 0, 0, 0, 0, 0, []), (1, .ifCond .lt 21, 3, false, 11, 0, 0, 0, 0, []), (4, .iload_n 1, 1, false, 0, 0, 0, 0, 0, []), (5, .aload_n 0, 1, false, 0, 0, 0, 0, 0, []), (6, .getfield 24, 3, false, 1, 4, 0, 0, 0, []), (9, .if_icmp .ge 13, 3, false, 11, 0, 0, 0, 0, []), (12, .iload_n 1, 1, false, 0, 0, 0, 0, 0, []), (13, .bipush 8, 2, false, 0, 0, 0, 0, 0, []), (15, .if_icmp .ge 7, 3, false, 11, 0, 0, 0, 0, []), (18, .iconst 1, 1, false, 0, 0, 0, 0, 0, []), (19, .goto 4, 3, false, 12, 0, 0, 0, 0, []), (22, .iconst 0, 1, false, 0, 0, 0, 0, 0, []), (23, .ireturn, 1, false, 0, 0, 1, 0, 0, [])] i i lo st I L := rfl
set_option maxRecDepth 20000 in
theorem uX0_append (sh : mm_S) (call : mm_C) (Q : mm_Q) (n i : Nat) (lo st : List Value) (I : mm_I) (L : mm_L) : mm_v sh call tbX0_append Q (n + 1) i lo st I L = mm_vn sh call tbX0_append Q n [(0, .aload_n 0, 1, false, 0, 0, 0, 0, 0, []), (1, .getfield 24, 3, false, 1, 4, 0, 0, 0, []), (4, .istore 5, 2, false, 0, 0, 0, 0, 0, []), (6, .iload 5, 2, false, 0, 0, 0, 0, 0, []), (8, .ifCond .lt 10, 3, false, 8, 0, 0, 0, 0, []), (11, .iload 5, 2, false, 0, 0, 0, 0, 0, []), (13, .bipush 8, 2, false, 0, 0, 0, 0, 0, []), (15, .if_icmp .lt 6, 3, false, 10, 0, 0, 0, 0, []), (18, .bipush (-4), 2, false, 0, 0, 0, 0, 0, []), (20, .ireturn, 1, false, 0, 0, 0, 0, 0, []), (21, .aload_n 0, 1, false, 0, 0, 0, 0, 0, []), (22, .getfield 9, 3, false, 1, 0, 5, 0, 0, []), (25, .iload 5, 2, false, 0, 0, 0, 0, 0, []), (27, .iload_n 1, 1, false, 0, 0, 0, 0, 0, []), (28, .iastore, 1, false, 0, 0, 0, 0, 0, []), (29, .aload_n 0, 1, false, 0, 0, 0, 0, 0, []), (30, .getfield 15, 3, false, 1, 1, 6, 0, 0, []), (33, .iload 5, 2, false, 0, 0, 0, 0, 0, []), (35, .iload_n 2, 1, false, 0, 0, 0, 0, 0, []), (36, .iastore, 1, false, 0, 0, 0, 0, 0, []), (37, .aload_n 0, 1, false, 0, 0, 0, 0, 0, []), (38, .getfield 18, 3, false, 1, 2, 7, 0, 0, []), (41, .iload 5, 2, false, 0, 0, 0, 0, 0, []), (43, .iload_n 3, 1, false, 0, 0, 0, 0, 0, []), (44, .iastore, 1, false, 0, 0, 0, 0, 0, []), (45, .aload_n 0, 1, false, 0, 0, 0, 0, 0, []), (46, .getfield 21, 3, false, 1, 3, 8, 0, 0, []), (49, .iload 5, 2, false, 0, 0, 0, 0, 0, []), (51, .iload 4, 2, false, 0, 0, 0, 0, 0, []), (53, .iastore, 1, false, 0, 0, 0, 0, 0, []), (54, .aload_n 0, 1, false, 0, 0, 0, 0, 0, []), (55, .dup, 1, false, 0, 0, 0, 0, 0, []), (56, .getfield 24, 3, false, 1, 4, 0, 0, 0, []), (59, .iconst 1, 1, false, 0, 0, 0, 0, 0, []), (60, .iadd, 1, false, 0, 0, 0, 0, 0, []), (61, .putfield 24, 3, false, 1, 4, 0, 0, 0, []), (64, .iload 5, 2, false, 0, 0, 0, 0, 0, []), (66, .ireturn, 1, false, 0, 0, 0, 0, 0, [])] i i lo st I L := rfl
set_option maxRecDepth 20000 in
theorem uX0_endOf (sh : mm_S) (call : mm_C) (Q : mm_Q) (n i : Nat) (lo st : List Value) (I : mm_I) (L : mm_L) : mm_v sh call tbX0_endOf Q (n + 1) i lo st I L = mm_vn sh call tbX0_endOf Q n [(0, .iload_n 1, 1, false, 0, 0, 0, 0, 0, []), (1, .ifCond .lt 27, 3, false, 17, 0, 0, 0, 0, []), (4, .iload_n 1, 1, false, 0, 0, 0, 0, 0, []), (5, .bipush 8, 2, false, 0, 0, 0, 0, 0, []), (7, .if_icmp .ge 21, 3, false, 17, 0, 0, 0, 0, []), (10, .aload_n 0, 1, false, 0, 0, 0, 0, 0, []), (11, .getfield 9, 3, false, 1, 0, 5, 0, 0, []), (14, .iload_n 1, 1, false, 0, 0, 0, 0, 0, []), (15, .iaload, 1, false, 0, 0, 0, 0, 0, []), (16, .i2l, 1, false, 0, 0, 0, 0, 0, []), (17, .aload_n 0, 1, false, 0, 0, 0, 0, 0, []), (18, .getfield 15, 3, false, 1, 1, 6, 0, 0, []), (21, .iload_n 1, 1, false, 0, 0, 0, 0, 0, []), (22, .iaload, 1, false, 0, 0, 0, 0, 0, []), (23, .i2l, 1, false, 0, 0, 0, 0, 0, []), (24, .ladd, 1, false, 0, 0, 0, 0, 0, []), (25, .goto 4, 3, false, 18, 0, 0, 0, 0, []), (28, .lconst 0, 1, false, 0, 0, 0, 0, 0, []), (29, .lreturn, 1, false, 0, 0, 0, 0, 0, [])] i i lo st I L := rfl
set_option maxRecDepth 20000 in
theorem uX0_canMove (sh : mm_S) (call : mm_C) (Q : mm_Q) (n i : Nat) (lo st : List Value) (I : mm_I) (L : mm_L) : mm_v sh call tbX0_canMove Q (n + 1) i lo st I L = mm_vn sh call tbX0_canMove Q n [(0, .aload_n 0, 1, false, 0, 0, 0, 0, 0, []), (1, .iload_n 1, 1, false, 0, 0, 0, 0, 0, []), (2, .invokevirtual 28, 3, false, 0, 2, 1, 1, 0, []), (5, .ifCond .eq 37, 3, false, 24, 0, 0, 0, 0, []), (8, .aload_n 0, 1, false, 0, 0, 0, 0, 0, []), (9, .getfield 9, 3, false, 1, 0, 5, 0, 0, []), (12, .iload_n 1, 1, false, 0, 0, 0, 0, 0, []), (13, .iaload, 1, false, 0, 0, 0, 0, 0, []), (14, .i2l, 1, false, 0, 0, 0, 0, 0, []), (15, .iload_n 2, 1, false, 0, 0, 0, 0, 0, []), (16, .i2l, 1, false, 0, 0, 0, 0, 0, []), (17, .ladd, 1, false, 0, 0, 0, 0, 0, []), (18, .invokestatic 32, 3, false, 63, 1, 1, 0, 0, []), (21, .ifCond .eq 21, 3, false, 24, 0, 0, 0, 0, []), (24, .aload_n 0, 1, false, 0, 0, 0, 0, 0, []), (25, .iload_n 1, 1, false, 0, 0, 0, 0, 0, []), (26, .invokevirtual 36, 3, false, 2, 2, 2, 1, 0, []), (29, .iload_n 2, 1, false, 0, 0, 0, 0, 0, []), (30, .i2l, 1, false, 0, 0, 0, 0, 0, []), (31, .ladd, 1, false, 0, 0, 0, 0, 0, []), (32, .invokestatic 32, 3, false, 63, 1, 1, 0, 0, []), (35, .ifCond .eq 7, 3, false, 24, 0, 0, 0, 0, []), (38, .iconst 1, 1, false, 0, 0, 0, 0, 0, []), (39, .goto 4, 3, false, 25, 0, 0, 0, 0, []), (42, .iconst 0, 1, false, 0, 0, 0, 0, 0, []), (43, .ireturn, 1, false, 0, 0, 1, 0, 0, [])] i i lo st I L := rfl
set_option maxRecDepth 20000 in
theorem uX0_jumpBetween (sh : mm_S) (call : mm_C) (Q : mm_Q) (n i : Nat) (lo st : List Value) (I : mm_I) (L : mm_L) : mm_v sh call tbX0_jumpBetween Q (n + 1) i lo st I L = mm_vn sh call tbX0_jumpBetween Q n [(0, .aload_n 0, 1, false, 0, 0, 0, 0, 0, []), (1, .iload_n 1, 1, false, 0, 0, 0, 0, 0, []), (2, .invokevirtual 28, 3, false, 0, 2, 1, 1, 0, []), (5, .ifCond .eq 30, 3, false, 19, 0, 0, 0, 0, []), (8, .aload_n 0, 1, false, 0, 0, 0, 0, 0, []), (9, .iload_n 2, 1, false, 0, 0, 0, 0, 0, []), (10, .invokevirtual 28, 3, false, 0, 2, 1, 1, 0, []), (13, .ifCond .eq 22, 3, false, 19, 0, 0, 0, 0, []), (16, .aload_n 0, 1, false, 0, 0, 0, 0, 0, []), (17, .getfield 9, 3, false, 1, 0, 5, 0, 0, []), (20, .iload_n 2, 1, false, 0, 0, 0, 0, 0, []), (21, .iaload, 1, false, 0, 0, 0, 0, 0, []), (22, .i2l, 1, false, 0, 0, 0, 0, 0, []), (23, .aload_n 0, 1, false, 0, 0, 0, 0, 0, []), (24, .iload_n 1, 1, false, 0, 0, 0, 0, 0, []), (25, .invokevirtual 36, 3, false, 2, 2, 2, 1, 0, []), (28, .lsub, 1, false, 0, 0, 0, 0, 0, []), (29, .invokestatic 40, 3, false, 0, 0, 10, 0, 0, []), (32, .goto 4, 3, false, 20, 0, 0, 0, 0, []), (35, .lconst 0, 1, false, 0, 0, 0, 0, 0, []), (36, .lreturn, 1, false, 0, 0, 0, 0, 0, [])] i i lo st I L := rfl
set_option maxRecDepth 20000 in
theorem uX0_sideBy (sh : mm_S) (call : mm_C) (Q : mm_Q) (n i : Nat) (lo st : List Value) (I : mm_I) (L : mm_L) : mm_v sh call tbX0_sideBy Q (n + 1) i lo st I L = mm_vn sh call tbX0_sideBy Q n [(0, .aload_n 0, 1, false, 0, 0, 0, 0, 0, []), (1, .iload_n 1, 1, false, 0, 0, 0, 0, 0, []), (2, .invokevirtual 28, 3, false, 0, 2, 1, 1, 0, []), (5, .ifCond .eq 11, 3, false, 8, 0, 0, 0, 0, []), (8, .aload_n 0, 1, false, 0, 0, 0, 0, 0, []), (9, .iload_n 2, 1, false, 0, 0, 0, 0, 0, []), (10, .invokevirtual 28, 3, false, 0, 2, 1, 1, 0, []), (13, .ifCond .ne 6, 3, false, 10, 0, 0, 0, 0, []), (16, .bipush (-9), 2, false, 0, 0, 0, 0, 0, []), (18, .ireturn, 1, false, 0, 0, 0, 0, 0, []), (19, .aload_n 0, 1, false, 0, 0, 0, 0, 0, []), (20, .iload_n 1, 1, false, 0, 0, 0, 0, 0, []), (21, .invokevirtual 36, 3, false, 2, 2, 2, 1, 0, []), (24, .aload_n 0, 1, false, 0, 0, 0, 0, 0, []), (25, .getfield 9, 3, false, 1, 0, 5, 0, 0, []), (28, .iload_n 2, 1, false, 0, 0, 0, 0, 0, []), (29, .iaload, 1, false, 0, 0, 0, 0, 0, []), (30, .i2l, 1, false, 0, 0, 0, 0, 0, []), (31, .lcmp, 1, false, 0, 0, 0, 0, 0, []), (32, .ifCond .gt 5, 3, false, 22, 0, 0, 0, 0, []), (35, .iconst 0, 1, false, 0, 0, 0, 0, 0, []), (36, .ireturn, 1, false, 0, 0, 0, 0, 0, []), (37, .aload_n 0, 1, false, 0, 0, 0, 0, 0, []), (38, .getfield 9, 3, false, 1, 0, 5, 0, 0, []), (41, .iload_n 1, 1, false, 0, 0, 0, 0, 0, []), (42, .iaload, 1, false, 0, 0, 0, 0, 0, []), (43, .i2l, 1, false, 0, 0, 0, 0, 0, []), (44, .aload_n 0, 1, false, 0, 0, 0, 0, 0, []), (45, .iload_n 2, 1, false, 0, 0, 0, 0, 0, []), (46, .invokevirtual 36, 3, false, 2, 2, 2, 1, 0, []), (49, .lcmp, 1, false, 0, 0, 0, 0, 0, []), (50, .ifCond .lt 7, 3, false, 34, 0, 0, 0, 0, []), (53, .iconst 1, 1, false, 0, 0, 0, 0, 0, []), (54, .goto 5, 3, false, 35, 0, 0, 0, 0, []), (57, .bipush (-9), 2, false, 0, 0, 0, 0, 0, []), (59, .ireturn, 1, false, 0, 0, 0, 0, 0, [])] i i lo st I L := rfl
set_option maxRecDepth 20000 in
theorem uX0_everyone (sh : mm_S) (call : mm_C) (Q : mm_Q) (n i : Nat) (lo st : List Value) (I : mm_I) (L : mm_L) : mm_v sh call tbX0_everyone Q (n + 1) i lo st I L = mm_vn sh call tbX0_everyone Q n [(0, .iconst 1, 1, false, 0, 0, 0, 0, 0, []), (1, .aload_n 0, 1, false, 0, 0, 0, 0, 0, []), (2, .getfield 24, 3, false, 1, 4, 0, 0, 0, []), (5, .ishl, 1, false, 0, 0, 0, 0, 0, []), (6, .iconst 1, 1, false, 0, 0, 0, 0, 0, []), (7, .isub, 1, false, 0, 0, 0, 0, 0, []), (8, .ireturn, 1, false, 0, 0, 0, 0, 0, [])] i i lo st I L := rfl
set_option maxRecDepth 20000 in
theorem uX0_givenBy (sh : mm_S) (call : mm_C) (Q : mm_Q) (n i : Nat) (lo st : List Value) (I : mm_I) (L : mm_L) : mm_v sh call tbX0_givenBy Q (n + 1) i lo st I L = mm_vn sh call tbX0_givenBy Q n [(0, .iconst 0, 1, false, 0, 0, 0, 0, 0, []), (1, .istore_n 2, 1, false, 0, 0, 0, 0, 0, []), (2, .iconst 0, 1, false, 0, 0, 0, 0, 0, []), (3, .istore_n 3, 1, false, 0, 0, 0, 0, 0, []), (4, .iload_n 3, 1, true, 0, 0, 0, 0, 0, []), (5, .aload_n 0, 1, false, 0, 0, 0, 0, 0, []), (6, .getfield 24, 3, false, 1, 4, 0, 0, 0, []), (9, .if_icmp .ge 32, 3, false, 24, 0, 0, 0, 0, []), (12, .iload_n 3, 1, false, 0, 0, 0, 0, 0, []), (13, .bipush 8, 2, false, 0, 0, 0, 0, 0, []), (15, .if_icmp .ge 26, 3, false, 24, 0, 0, 0, 0, []), (18, .iload_n 1, 1, false, 0, 0, 0, 0, 0, []), (19, .iload_n 3, 1, false, 0, 0, 0, 0, 0, []), (20, .invokestatic 46, 3, false, 62, 2, 1, 0, 0, []), (23, .ifCond .eq 12, 3, false, 22, 0, 0, 0, 0, []), (26, .iload_n 2, 1, false, 0, 0, 0, 0, 0, []), (27, .aload_n 0, 1, false, 0, 0, 0, 0, 0, []), (28, .getfield 18, 3, false, 1, 2, 7, 0, 0, []), (31, .iload_n 3, 1, false, 0, 0, 0, 0, 0, []), (32, .iaload, 1, false, 0, 0, 0, 0, 0, []), (33, .ior, 1, false, 0, 0, 0, 0, 0, []), (34, .istore_n 2, 1, false, 0, 0, 0, 0, 0, []), (35, .iinc 3 1, 3, false, 0, 0, 0, 0, 0, []), (38, .goto (-34), 3, false, 4, 0, 0, 0, 0, []), (41, .iload_n 2, 1, false, 0, 0, 0, 0, 0, []), (42, .ireturn, 1, false, 0, 0, 0, 0, 0, [])] i i lo st I L := rfl
set_option maxRecDepth 20000 in
theorem hX0_givenBy (sh : mm_S) (call : mm_C) (Q : mm_Q) (n i : Nat) (lo st : List Value) (I : mm_I) (L : mm_L) : mm_h sh call tbX0_givenBy Q n i lo st I L = mm_hn sh call tbX0_givenBy Q n [(0, .iconst 0, 1, false, 0, 0, 0, 0, 0, []), (1, .istore_n 2, 1, false, 0, 0, 0, 0, 0, []), (2, .iconst 0, 1, false, 0, 0, 0, 0, 0, []), (3, .istore_n 3, 1, false, 0, 0, 0, 0, 0, []), (4, .iload_n 3, 1, true, 0, 0, 0, 0, 0, []), (5, .aload_n 0, 1, false, 0, 0, 0, 0, 0, []), (6, .getfield 24, 3, false, 1, 4, 0, 0, 0, []), (9, .if_icmp .ge 32, 3, false, 24, 0, 0, 0, 0, []), (12, .iload_n 3, 1, false, 0, 0, 0, 0, 0, []), (13, .bipush 8, 2, false, 0, 0, 0, 0, 0, []), (15, .if_icmp .ge 26, 3, false, 24, 0, 0, 0, 0, []), (18, .iload_n 1, 1, false, 0, 0, 0, 0, 0, []), (19, .iload_n 3, 1, false, 0, 0, 0, 0, 0, []), (20, .invokestatic 46, 3, false, 62, 2, 1, 0, 0, []), (23, .ifCond .eq 12, 3, false, 22, 0, 0, 0, 0, []), (26, .iload_n 2, 1, false, 0, 0, 0, 0, 0, []), (27, .aload_n 0, 1, false, 0, 0, 0, 0, 0, []), (28, .getfield 18, 3, false, 1, 2, 7, 0, 0, []), (31, .iload_n 3, 1, false, 0, 0, 0, 0, 0, []), (32, .iaload, 1, false, 0, 0, 0, 0, 0, []), (33, .ior, 1, false, 0, 0, 0, 0, 0, []), (34, .istore_n 2, 1, false, 0, 0, 0, 0, 0, []), (35, .iinc 3 1, 3, false, 0, 0, 0, 0, 0, []), (38, .goto (-34), 3, false, 4, 0, 0, 0, 0, []), (41, .iload_n 2, 1, false, 0, 0, 0, 0, 0, []), (42, .ireturn, 1, false, 0, 0, 0, 0, 0, [])] i i lo st I L := rfl
set_option maxRecDepth 20000 in
theorem uX0_allNeeds (sh : mm_S) (call : mm_C) (Q : mm_Q) (n i : Nat) (lo st : List Value) (I : mm_I) (L : mm_L) : mm_v sh call tbX0_allNeeds Q (n + 1) i lo st I L = mm_vn sh call tbX0_allNeeds Q n [(0, .iconst 0, 1, false, 0, 0, 0, 0, 0, []), (1, .istore_n 1, 1, false, 0, 0, 0, 0, 0, []), (2, .iconst 0, 1, false, 0, 0, 0, 0, 0, []), (3, .istore_n 2, 1, false, 0, 0, 0, 0, 0, []), (4, .iload_n 2, 1, true, 0, 0, 0, 0, 0, []), (5, .aload_n 0, 1, false, 0, 0, 0, 0, 0, []), (6, .getfield 24, 3, false, 1, 4, 0, 0, 0, []), (9, .if_icmp .ge 24, 3, false, 20, 0, 0, 0, 0, []), (12, .iload_n 2, 1, false, 0, 0, 0, 0, 0, []), (13, .bipush 8, 2, false, 0, 0, 0, 0, 0, []), (15, .if_icmp .ge 18, 3, false, 20, 0, 0, 0, 0, []), (18, .iload_n 1, 1, false, 0, 0, 0, 0, 0, []), (19, .aload_n 0, 1, false, 0, 0, 0, 0, 0, []), (20, .getfield 21, 3, false, 1, 3, 8, 0, 0, []), (23, .iload_n 2, 1, false, 0, 0, 0, 0, 0, []), (24, .iaload, 1, false, 0, 0, 0, 0, 0, []), (25, .ior, 1, false, 0, 0, 0, 0, 0, []), (26, .istore_n 1, 1, false, 0, 0, 0, 0, 0, []), (27, .iinc 2 1, 3, false, 0, 0, 0, 0, 0, []), (30, .goto (-26), 3, false, 4, 0, 0, 0, 0, []), (33, .iload_n 1, 1, false, 0, 0, 0, 0, 0, []), (34, .ireturn, 1, false, 0, 0, 0, 0, 0, [])] i i lo st I L := rfl
set_option maxRecDepth 20000 in
theorem hX0_allNeeds (sh : mm_S) (call : mm_C) (Q : mm_Q) (n i : Nat) (lo st : List Value) (I : mm_I) (L : mm_L) : mm_h sh call tbX0_allNeeds Q n i lo st I L = mm_hn sh call tbX0_allNeeds Q n [(0, .iconst 0, 1, false, 0, 0, 0, 0, 0, []), (1, .istore_n 1, 1, false, 0, 0, 0, 0, 0, []), (2, .iconst 0, 1, false, 0, 0, 0, 0, 0, []), (3, .istore_n 2, 1, false, 0, 0, 0, 0, 0, []), (4, .iload_n 2, 1, true, 0, 0, 0, 0, 0, []), (5, .aload_n 0, 1, false, 0, 0, 0, 0, 0, []), (6, .getfield 24, 3, false, 1, 4, 0, 0, 0, []), (9, .if_icmp .ge 24, 3, false, 20, 0, 0, 0, 0, []), (12, .iload_n 2, 1, false, 0, 0, 0, 0, 0, []), (13, .bipush 8, 2, false, 0, 0, 0, 0, 0, []), (15, .if_icmp .ge 18, 3, false, 20, 0, 0, 0, 0, []), (18, .iload_n 1, 1, false, 0, 0, 0, 0, 0, []), (19, .aload_n 0, 1, false, 0, 0, 0, 0, 0, []), (20, .getfield 21, 3, false, 1, 3, 8, 0, 0, []), (23, .iload_n 2, 1, false, 0, 0, 0, 0, 0, []), (24, .iaload, 1, false, 0, 0, 0, 0, 0, []), (25, .ior, 1, false, 0, 0, 0, 0, 0, []), (26, .istore_n 1, 1, false, 0, 0, 0, 0, 0, []), (27, .iinc 2 1, 3, false, 0, 0, 0, 0, 0, []), (30, .goto (-26), 3, false, 4, 0, 0, 0, 0, []), (33, .iload_n 1, 1, false, 0, 0, 0, 0, 0, []), (34, .ireturn, 1, false, 0, 0, 0, 0, 0, [])] i i lo st I L := rfl
set_option maxRecDepth 20000 in
theorem uX0_readyAfter (sh : mm_S) (call : mm_C) (Q : mm_Q) (n i : Nat) (lo st : List Value) (I : mm_I) (L : mm_L) : mm_v sh call tbX0_readyAfter Q (n + 1) i lo st I L = mm_vn sh call tbX0_readyAfter Q n [(0, .aload_n 0, 1, false, 0, 0, 0, 0, 0, []), (1, .iload_n 1, 1, false, 0, 0, 0, 0, 0, []), (2, .invokevirtual 50, 3, false, 7, 2, 1, 1, 0, []), (5, .istore_n 2, 1, false, 0, 0, 0, 0, 0, []), (6, .iconst 0, 1, false, 0, 0, 0, 0, 0, []), (7, .istore_n 3, 1, false, 0, 0, 0, 0, 0, []), (8, .iconst 0, 1, false, 0, 0, 0, 0, 0, []), (9, .istore 4, 2, false, 0, 0, 0, 0, 0, []), (11, .iload 4, 2, true, 0, 0, 0, 0, 0, []), (13, .aload_n 0, 1, false, 0, 0, 0, 0, 0, []), (14, .getfield 24, 3, false, 1, 4, 0, 0, 0, []), (17, .if_icmp .ge 46, 3, false, 36, 0, 0, 0, 0, []), (20, .iload 4, 2, false, 0, 0, 0, 0, 0, []), (22, .bipush 8, 2, false, 0, 0, 0, 0, 0, []), (24, .if_icmp .ge 39, 3, false, 36, 0, 0, 0, 0, []), (27, .iload_n 1, 1, false, 0, 0, 0, 0, 0, []), (28, .iload 4, 2, false, 0, 0, 0, 0, 0, []), (30, .invokestatic 46, 3, false, 62, 2, 1, 0, 0, []), (33, .ifCond .ne 24, 3, false, 34, 0, 0, 0, 0, []), (36, .aload_n 0, 1, false, 0, 0, 0, 0, 0, []), (37, .getfield 21, 3, false, 1, 3, 8, 0, 0, []), (40, .iload 4, 2, false, 0, 0, 0, 0, 0, []), (42, .iaload, 1, false, 0, 0, 0, 0, 0, []), (43, .iload_n 2, 1, false, 0, 0, 0, 0, 0, []), (44, .iconst (-1), 1, false, 0, 0, 0, 0, 0, []), (45, .ixor, 1, false, 0, 0, 0, 0, 0, []), (46, .iand, 1, false, 0, 0, 0, 0, 0, []), (47, .ifCond .ne 10, 3, false, 34, 0, 0, 0, 0, []), (50, .iload_n 3, 1, false, 0, 0, 0, 0, 0, []), (51, .iconst 1, 1, false, 0, 0, 0, 0, 0, []), (52, .iload 4, 2, false, 0, 0, 0, 0, 0, []), (54, .ishl, 1, false, 0, 0, 0, 0, 0, []), (55, .ior, 1, false, 0, 0, 0, 0, 0, []), (56, .istore_n 3, 1, false, 0, 0, 0, 0, 0, []), (57, .iinc 4 1, 3, false, 0, 0, 0, 0, 0, []), (60, .goto (-49), 3, false, 8, 0, 0, 0, 0, []), (63, .iload_n 3, 1, false, 0, 0, 0, 0, 0, []), (64, .ireturn, 1, false, 0, 0, 0, 0, 0, [])] i i lo st I L := rfl
set_option maxRecDepth 20000 in
theorem hX0_readyAfter (sh : mm_S) (call : mm_C) (Q : mm_Q) (n i : Nat) (lo st : List Value) (I : mm_I) (L : mm_L) : mm_h sh call tbX0_readyAfter Q n i lo st I L = mm_hn sh call tbX0_readyAfter Q n [(0, .aload_n 0, 1, false, 0, 0, 0, 0, 0, []), (1, .iload_n 1, 1, false, 0, 0, 0, 0, 0, []), (2, .invokevirtual 50, 3, false, 7, 2, 1, 1, 0, []), (5, .istore_n 2, 1, false, 0, 0, 0, 0, 0, []), (6, .iconst 0, 1, false, 0, 0, 0, 0, 0, []), (7, .istore_n 3, 1, false, 0, 0, 0, 0, 0, []), (8, .iconst 0, 1, false, 0, 0, 0, 0, 0, []), (9, .istore 4, 2, false, 0, 0, 0, 0, 0, []), (11, .iload 4, 2, true, 0, 0, 0, 0, 0, []), (13, .aload_n 0, 1, false, 0, 0, 0, 0, 0, []), (14, .getfield 24, 3, false, 1, 4, 0, 0, 0, []), (17, .if_icmp .ge 46, 3, false, 36, 0, 0, 0, 0, []), (20, .iload 4, 2, false, 0, 0, 0, 0, 0, []), (22, .bipush 8, 2, false, 0, 0, 0, 0, 0, []), (24, .if_icmp .ge 39, 3, false, 36, 0, 0, 0, 0, []), (27, .iload_n 1, 1, false, 0, 0, 0, 0, 0, []), (28, .iload 4, 2, false, 0, 0, 0, 0, 0, []), (30, .invokestatic 46, 3, false, 62, 2, 1, 0, 0, []), (33, .ifCond .ne 24, 3, false, 34, 0, 0, 0, 0, []), (36, .aload_n 0, 1, false, 0, 0, 0, 0, 0, []), (37, .getfield 21, 3, false, 1, 3, 8, 0, 0, []), (40, .iload 4, 2, false, 0, 0, 0, 0, 0, []), (42, .iaload, 1, false, 0, 0, 0, 0, 0, []), (43, .iload_n 2, 1, false, 0, 0, 0, 0, 0, []), (44, .iconst (-1), 1, false, 0, 0, 0, 0, 0, []), (45, .ixor, 1, false, 0, 0, 0, 0, 0, []), (46, .iand, 1, false, 0, 0, 0, 0, 0, []), (47, .ifCond .ne 10, 3, false, 34, 0, 0, 0, 0, []), (50, .iload_n 3, 1, false, 0, 0, 0, 0, 0, []), (51, .iconst 1, 1, false, 0, 0, 0, 0, 0, []), (52, .iload 4, 2, false, 0, 0, 0, 0, 0, []), (54, .ishl, 1, false, 0, 0, 0, 0, 0, []), (55, .ior, 1, false, 0, 0, 0, 0, 0, []), (56, .istore_n 3, 1, false, 0, 0, 0, 0, 0, []), (57, .iinc 4 1, 3, false, 0, 0, 0, 0, 0, []), (60, .goto (-49), 3, false, 8, 0, 0, 0, 0, []), (63, .iload_n 3, 1, false, 0, 0, 0, 0, 0, []), (64, .ireturn, 1, false, 0, 0, 0, 0, 0, [])] i i lo st I L := rfl
set_option maxRecDepth 20000 in
theorem uX0_extent (sh : mm_S) (call : mm_C) (Q : mm_Q) (n i : Nat) (lo st : List Value) (I : mm_I) (L : mm_L) : mm_v sh call tbX0_extent Q (n + 1) i lo st I L = mm_vn sh call tbX0_extent Q n [(0, .ldc2_w 56, 3, false, 0, 0, 0, 0, 9223372036854775807, []), (3, .lstore_n 1, 1, false, 0, 0, 0, 0, 0, []), (4, .ldc2_w 58, 3, false, 0, 0, 0, 0, (-9223372036854775808), []), (7, .lstore_n 3, 1, false, 0, 0, 0, 0, 0, []), (8, .iconst 0, 1, false, 0, 0, 0, 0, 0, []), (9, .istore 5, 2, false, 0, 0, 0, 0, 0, []), (11, .iload 5, 2, true, 0, 0, 0, 0, 0, []), (13, .aload_n 0, 1, false, 0, 0, 0, 0, 0, []), (14, .getfield 24, 3, false, 1, 4, 0, 0, 0, []), (17, .if_icmp .ge 40, 3, false, 29, 0, 0, 0, 0, []), (20, .iload 5, 2, false, 0, 0, 0, 0, 0, []), (22, .bipush 8, 2, false, 0, 0, 0, 0, 0, []), (24, .if_icmp .ge 33, 3, false, 29, 0, 0, 0, 0, []), (27, .lload_n 1, 1, false, 0, 0, 0, 0, 0, []), (28, .aload_n 0, 1, false, 0, 0, 0, 0, 0, []), (29, .getfield 9, 3, false, 1, 0, 5, 0, 0, []), (32, .iload 5, 2, false, 0, 0, 0, 0, 0, []), (34, .iaload, 1, false, 0, 0, 0, 0, 0, []), (35, .i2l, 1, false, 0, 0, 0, 0, 0, []), (36, .invokestatic 60, 3, false, 0, 0, 13, 0, 0, []), (39, .lstore_n 1, 1, false, 0, 0, 0, 0, 0, []), (40, .lload_n 3, 1, false, 0, 0, 0, 0, 0, []), (41, .aload_n 0, 1, false, 0, 0, 0, 0, 0, []), (42, .iload 5, 2, false, 0, 0, 0, 0, 0, []), (44, .invokevirtual 36, 3, false, 2, 2, 2, 1, 0, []), (47, .invokestatic 64, 3, false, 0, 0, 12, 0, 0, []), (50, .lstore_n 3, 1, false, 0, 0, 0, 0, 0, []), (51, .iinc 5 1, 3, false, 0, 0, 0, 0, 0, []), (54, .goto (-43), 3, false, 6, 0, 0, 0, 0, []), (57, .aload_n 0, 1, false, 0, 0, 0, 0, 0, []), (58, .getfield 24, 3, false, 1, 4, 0, 0, 0, []), (61, .ifCond .le 9, 3, false, 36, 0, 0, 0, 0, []), (64, .lload_n 3, 1, false, 0, 0, 0, 0, 0, []), (65, .lload_n 1, 1, false, 0, 0, 0, 0, 0, []), (66, .lsub, 1, false, 0, 0, 0, 0, 0, []), (67, .goto 4, 3, false, 37, 0, 0, 0, 0, []), (70, .lconst 0, 1, false, 0, 0, 0, 0, 0, []), (71, .lreturn, 1, false, 0, 0, 0, 0, 0, [])] i i lo st I L := rfl
set_option maxRecDepth 20000 in
theorem hX0_extent (sh : mm_S) (call : mm_C) (Q : mm_Q) (n i : Nat) (lo st : List Value) (I : mm_I) (L : mm_L) : mm_h sh call tbX0_extent Q n i lo st I L = mm_hn sh call tbX0_extent Q n [(0, .ldc2_w 56, 3, false, 0, 0, 0, 0, 9223372036854775807, []), (3, .lstore_n 1, 1, false, 0, 0, 0, 0, 0, []), (4, .ldc2_w 58, 3, false, 0, 0, 0, 0, (-9223372036854775808), []), (7, .lstore_n 3, 1, false, 0, 0, 0, 0, 0, []), (8, .iconst 0, 1, false, 0, 0, 0, 0, 0, []), (9, .istore 5, 2, false, 0, 0, 0, 0, 0, []), (11, .iload 5, 2, true, 0, 0, 0, 0, 0, []), (13, .aload_n 0, 1, false, 0, 0, 0, 0, 0, []), (14, .getfield 24, 3, false, 1, 4, 0, 0, 0, []), (17, .if_icmp .ge 40, 3, false, 29, 0, 0, 0, 0, []), (20, .iload 5, 2, false, 0, 0, 0, 0, 0, []), (22, .bipush 8, 2, false, 0, 0, 0, 0, 0, []), (24, .if_icmp .ge 33, 3, false, 29, 0, 0, 0, 0, []), (27, .lload_n 1, 1, false, 0, 0, 0, 0, 0, []), (28, .aload_n 0, 1, false, 0, 0, 0, 0, 0, []), (29, .getfield 9, 3, false, 1, 0, 5, 0, 0, []), (32, .iload 5, 2, false, 0, 0, 0, 0, 0, []), (34, .iaload, 1, false, 0, 0, 0, 0, 0, []), (35, .i2l, 1, false, 0, 0, 0, 0, 0, []), (36, .invokestatic 60, 3, false, 0, 0, 13, 0, 0, []), (39, .lstore_n 1, 1, false, 0, 0, 0, 0, 0, []), (40, .lload_n 3, 1, false, 0, 0, 0, 0, 0, []), (41, .aload_n 0, 1, false, 0, 0, 0, 0, 0, []), (42, .iload 5, 2, false, 0, 0, 0, 0, 0, []), (44, .invokevirtual 36, 3, false, 2, 2, 2, 1, 0, []), (47, .invokestatic 64, 3, false, 0, 0, 12, 0, 0, []), (50, .lstore_n 3, 1, false, 0, 0, 0, 0, 0, []), (51, .iinc 5 1, 3, false, 0, 0, 0, 0, 0, []), (54, .goto (-43), 3, false, 6, 0, 0, 0, 0, []), (57, .aload_n 0, 1, false, 0, 0, 0, 0, 0, []), (58, .getfield 24, 3, false, 1, 4, 0, 0, 0, []), (61, .ifCond .le 9, 3, false, 36, 0, 0, 0, 0, []), (64, .lload_n 3, 1, false, 0, 0, 0, 0, 0, []), (65, .lload_n 1, 1, false, 0, 0, 0, 0, 0, []), (66, .lsub, 1, false, 0, 0, 0, 0, 0, []), (67, .goto 4, 3, false, 37, 0, 0, 0, 0, []), (70, .lconst 0, 1, false, 0, 0, 0, 0, 0, []), (71, .lreturn, 1, false, 0, 0, 0, 0, 0, [])] i i lo st I L := rfl
set_option maxRecDepth 20000 in
theorem uX0_untold (sh : mm_S) (call : mm_C) (Q : mm_Q) (n i : Nat) (lo st : List Value) (I : mm_I) (L : mm_L) : mm_v sh call tbX0_untold Q (n + 1) i lo st I L = mm_vn sh call tbX0_untold Q n [(0, .lconst 0, 1, false, 0, 0, 0, 0, 0, []), (1, .lstore_n 1, 1, false, 0, 0, 0, 0, 0, []), (2, .iconst 0, 1, false, 0, 0, 0, 0, 0, []), (3, .istore_n 3, 1, false, 0, 0, 0, 0, 0, []), (4, .iload_n 3, 1, true, 0, 0, 0, 0, 0, []), (5, .aload_n 0, 1, false, 0, 0, 0, 0, 0, []), (6, .getfield 24, 3, false, 1, 4, 0, 0, 0, []), (9, .if_icmp .ge 29, 3, false, 22, 0, 0, 0, 0, []), (12, .aload_n 0, 1, false, 0, 0, 0, 0, 0, []), (13, .iload_n 3, 1, false, 0, 0, 0, 0, 0, []), (14, .invokevirtual 67, 3, false, 12, 2, 1, 1, 0, []), (17, .ifCond .eq 15, 3, false, 20, 0, 0, 0, 0, []), (20, .lload_n 1, 1, false, 0, 0, 0, 0, 0, []), (21, .aload_n 0, 1, false, 0, 0, 0, 0, 0, []), (22, .aload_n 0, 1, false, 0, 0, 0, 0, 0, []), (23, .iload_n 3, 1, false, 0, 0, 0, 0, 0, []), (24, .invokevirtual 36, 3, false, 2, 2, 2, 1, 0, []), (27, .invokevirtual 70, 3, false, 13, 2, 2, 1, 0, []), (30, .ladd, 1, false, 0, 0, 0, 0, 0, []), (31, .lstore_n 1, 1, false, 0, 0, 0, 0, 0, []), (32, .iinc 3 1, 3, false, 0, 0, 0, 0, 0, []), (35, .goto (-31), 3, false, 4, 0, 0, 0, 0, []), (38, .lload_n 1, 1, false, 0, 0, 0, 0, 0, []), (39, .lreturn, 1, false, 0, 0, 0, 0, 0, [])] i i lo st I L := rfl
set_option maxRecDepth 20000 in
theorem hX0_untold (sh : mm_S) (call : mm_C) (Q : mm_Q) (n i : Nat) (lo st : List Value) (I : mm_I) (L : mm_L) : mm_h sh call tbX0_untold Q n i lo st I L = mm_hn sh call tbX0_untold Q n [(0, .lconst 0, 1, false, 0, 0, 0, 0, 0, []), (1, .lstore_n 1, 1, false, 0, 0, 0, 0, 0, []), (2, .iconst 0, 1, false, 0, 0, 0, 0, 0, []), (3, .istore_n 3, 1, false, 0, 0, 0, 0, 0, []), (4, .iload_n 3, 1, true, 0, 0, 0, 0, 0, []), (5, .aload_n 0, 1, false, 0, 0, 0, 0, 0, []), (6, .getfield 24, 3, false, 1, 4, 0, 0, 0, []), (9, .if_icmp .ge 29, 3, false, 22, 0, 0, 0, 0, []), (12, .aload_n 0, 1, false, 0, 0, 0, 0, 0, []), (13, .iload_n 3, 1, false, 0, 0, 0, 0, 0, []), (14, .invokevirtual 67, 3, false, 12, 2, 1, 1, 0, []), (17, .ifCond .eq 15, 3, false, 20, 0, 0, 0, 0, []), (20, .lload_n 1, 1, false, 0, 0, 0, 0, 0, []), (21, .aload_n 0, 1, false, 0, 0, 0, 0, 0, []), (22, .aload_n 0, 1, false, 0, 0, 0, 0, 0, []), (23, .iload_n 3, 1, false, 0, 0, 0, 0, 0, []), (24, .invokevirtual 36, 3, false, 2, 2, 2, 1, 0, []), (27, .invokevirtual 70, 3, false, 13, 2, 2, 1, 0, []), (30, .ladd, 1, false, 0, 0, 0, 0, 0, []), (31, .lstore_n 1, 1, false, 0, 0, 0, 0, 0, []), (32, .iinc 3 1, 3, false, 0, 0, 0, 0, 0, []), (35, .goto (-31), 3, false, 4, 0, 0, 0, 0, []), (38, .lload_n 1, 1, false, 0, 0, 0, 0, 0, []), (39, .lreturn, 1, false, 0, 0, 0, 0, 0, [])] i i lo st I L := rfl
set_option maxRecDepth 20000 in
theorem uX0_isFirstToEnd (sh : mm_S) (call : mm_C) (Q : mm_Q) (n i : Nat) (lo st : List Value) (I : mm_I) (L : mm_L) : mm_v sh call tbX0_isFirstToEnd Q (n + 1) i lo st I L = mm_vn sh call tbX0_isFirstToEnd Q n [(0, .iconst 0, 1, false, 0, 0, 0, 0, 0, []), (1, .istore_n 2, 1, false, 0, 0, 0, 0, 0, []), (2, .iload_n 2, 1, true, 0, 0, 0, 0, 0, []), (3, .iload_n 1, 1, false, 0, 0, 0, 0, 0, []), (4, .if_icmp .ge 25, 3, false, 17, 0, 0, 0, 0, []), (7, .aload_n 0, 1, false, 0, 0, 0, 0, 0, []), (8, .iload_n 2, 1, false, 0, 0, 0, 0, 0, []), (9, .invokevirtual 36, 3, false, 2, 2, 2, 1, 0, []), (12, .aload_n 0, 1, false, 0, 0, 0, 0, 0, []), (13, .iload_n 1, 1, false, 0, 0, 0, 0, 0, []), (14, .invokevirtual 36, 3, false, 2, 2, 2, 1, 0, []), (17, .lcmp, 1, false, 0, 0, 0, 0, 0, []), (18, .ifCond .ne 5, 3, false, 15, 0, 0, 0, 0, []), (21, .iconst 0, 1, false, 0, 0, 0, 0, 0, []), (22, .ireturn, 1, false, 0, 0, 1, 0, 0, []), (23, .iinc 2 1, 3, false, 0, 0, 0, 0, 0, []), (26, .goto (-24), 3, false, 2, 0, 0, 0, 0, []), (29, .iconst 1, 1, false, 0, 0, 0, 0, 0, []), (30, .ireturn, 1, false, 0, 0, 1, 0, 0, [])] i i lo st I L := rfl
set_option maxRecDepth 20000 in
theorem hX0_isFirstToEnd (sh : mm_S) (call : mm_C) (Q : mm_Q) (n i : Nat) (lo st : List Value) (I : mm_I) (L : mm_L) : mm_h sh call tbX0_isFirstToEnd Q n i lo st I L = mm_hn sh call tbX0_isFirstToEnd Q n [(0, .iconst 0, 1, false, 0, 0, 0, 0, 0, []), (1, .istore_n 2, 1, false, 0, 0, 0, 0, 0, []), (2, .iload_n 2, 1, true, 0, 0, 0, 0, 0, []), (3, .iload_n 1, 1, false, 0, 0, 0, 0, 0, []), (4, .if_icmp .ge 25, 3, false, 17, 0, 0, 0, 0, []), (7, .aload_n 0, 1, false, 0, 0, 0, 0, 0, []), (8, .iload_n 2, 1, false, 0, 0, 0, 0, 0, []), (9, .invokevirtual 36, 3, false, 2, 2, 2, 1, 0, []), (12, .aload_n 0, 1, false, 0, 0, 0, 0, 0, []), (13, .iload_n 1, 1, false, 0, 0, 0, 0, 0, []), (14, .invokevirtual 36, 3, false, 2, 2, 2, 1, 0, []), (17, .lcmp, 1, false, 0, 0, 0, 0, 0, []), (18, .ifCond .ne 5, 3, false, 15, 0, 0, 0, 0, []), (21, .iconst 0, 1, false, 0, 0, 0, 0, 0, []), (22, .ireturn, 1, false, 0, 0, 1, 0, 0, []), (23, .iinc 2 1, 3, false, 0, 0, 0, 0, 0, []), (26, .goto (-24), 3, false, 2, 0, 0, 0, 0, []), (29, .iconst 1, 1, false, 0, 0, 0, 0, 0, []), (30, .ireturn, 1, false, 0, 0, 1, 0, 0, [])] i i lo st I L := rfl
set_option maxRecDepth 20000 in
theorem uX0_gapBehind (sh : mm_S) (call : mm_C) (Q : mm_Q) (n i : Nat) (lo st : List Value) (I : mm_I) (L : mm_L) : mm_v sh call tbX0_gapBehind Q (n + 1) i lo st I L = mm_vn sh call tbX0_gapBehind Q n [(0, .ldc2_w 56, 3, false, 0, 0, 0, 0, 9223372036854775807, []), (3, .lstore_n 3, 1, false, 0, 0, 0, 0, 0, []), (4, .iconst 0, 1, false, 0, 0, 0, 0, 0, []), (5, .istore 5, 2, false, 0, 0, 0, 0, 0, []), (7, .iload 5, 2, true, 0, 0, 0, 0, 0, []), (9, .aload_n 0, 1, false, 0, 0, 0, 0, 0, []), (10, .getfield 24, 3, false, 1, 4, 0, 0, 0, []), (13, .if_icmp .ge 58, 3, false, 38, 0, 0, 0, 0, []), (16, .iload 5, 2, false, 0, 0, 0, 0, 0, []), (18, .bipush 8, 2, false, 0, 0, 0, 0, 0, []), (20, .if_icmp .ge 51, 3, false, 38, 0, 0, 0, 0, []), (23, .aload_n 0, 1, false, 0, 0, 0, 0, 0, []), (24, .getfield 9, 3, false, 1, 0, 5, 0, 0, []), (27, .iload 5, 2, false, 0, 0, 0, 0, 0, []), (29, .iaload, 1, false, 0, 0, 0, 0, 0, []), (30, .i2l, 1, false, 0, 0, 0, 0, 0, []), (31, .lload_n 1, 1, false, 0, 0, 0, 0, 0, []), (32, .lcmp, 1, false, 0, 0, 0, 0, 0, []), (33, .ifCond .le 19, 3, false, 28, 0, 0, 0, 0, []), (36, .lload_n 3, 1, false, 0, 0, 0, 0, 0, []), (37, .aload_n 0, 1, false, 0, 0, 0, 0, 0, []), (38, .getfield 9, 3, false, 1, 0, 5, 0, 0, []), (41, .iload 5, 2, false, 0, 0, 0, 0, 0, []), (43, .iaload, 1, false, 0, 0, 0, 0, 0, []), (44, .i2l, 1, false, 0, 0, 0, 0, 0, []), (45, .invokestatic 60, 3, false, 0, 0, 13, 0, 0, []), (48, .lstore_n 3, 1, false, 0, 0, 0, 0, 0, []), (49, .goto 16, 3, false, 36, 0, 0, 0, 0, []), (52, .aload_n 0, 1, false, 0, 0, 0, 0, 0, []), (53, .iload 5, 2, false, 0, 0, 0, 0, 0, []), (55, .invokevirtual 36, 3, false, 2, 2, 2, 1, 0, []), (58, .lload_n 1, 1, false, 0, 0, 0, 0, 0, []), (59, .lcmp, 1, false, 0, 0, 0, 0, 0, []), (60, .ifCond .le 5, 3, false, 36, 0, 0, 0, 0, []), (63, .lconst 0, 1, false, 0, 0, 0, 0, 0, []), (64, .lreturn, 1, false, 0, 0, 0, 0, 0, []), (65, .iinc 5 1, 3, false, 0, 0, 0, 0, 0, []), (68, .goto (-61), 3, false, 4, 0, 0, 0, 0, []), (71, .lload_n 3, 1, false, 0, 0, 0, 0, 0, []), (72, .ldc2_w 56, 3, false, 0, 0, 0, 0, 9223372036854775807, []), (75, .lcmp, 1, false, 0, 0, 0, 0, 0, []), (76, .ifCond .ne 7, 3, false, 44, 0, 0, 0, 0, []), (79, .lconst 0, 1, false, 0, 0, 0, 0, 0, []), (80, .goto 6, 3, false, 47, 0, 0, 0, 0, []), (83, .lload_n 3, 1, false, 0, 0, 0, 0, 0, []), (84, .lload_n 1, 1, false, 0, 0, 0, 0, 0, []), (85, .lsub, 1, false, 0, 0, 0, 0, 0, []), (86, .lreturn, 1, false, 0, 0, 0, 0, 0, [])] i i lo st I L := rfl
set_option maxRecDepth 20000 in
theorem hX0_gapBehind (sh : mm_S) (call : mm_C) (Q : mm_Q) (n i : Nat) (lo st : List Value) (I : mm_I) (L : mm_L) : mm_h sh call tbX0_gapBehind Q n i lo st I L = mm_hn sh call tbX0_gapBehind Q n [(0, .ldc2_w 56, 3, false, 0, 0, 0, 0, 9223372036854775807, []), (3, .lstore_n 3, 1, false, 0, 0, 0, 0, 0, []), (4, .iconst 0, 1, false, 0, 0, 0, 0, 0, []), (5, .istore 5, 2, false, 0, 0, 0, 0, 0, []), (7, .iload 5, 2, true, 0, 0, 0, 0, 0, []), (9, .aload_n 0, 1, false, 0, 0, 0, 0, 0, []), (10, .getfield 24, 3, false, 1, 4, 0, 0, 0, []), (13, .if_icmp .ge 58, 3, false, 38, 0, 0, 0, 0, []), (16, .iload 5, 2, false, 0, 0, 0, 0, 0, []), (18, .bipush 8, 2, false, 0, 0, 0, 0, 0, []), (20, .if_icmp .ge 51, 3, false, 38, 0, 0, 0, 0, []), (23, .aload_n 0, 1, false, 0, 0, 0, 0, 0, []), (24, .getfield 9, 3, false, 1, 0, 5, 0, 0, []), (27, .iload 5, 2, false, 0, 0, 0, 0, 0, []), (29, .iaload, 1, false, 0, 0, 0, 0, 0, []), (30, .i2l, 1, false, 0, 0, 0, 0, 0, []), (31, .lload_n 1, 1, false, 0, 0, 0, 0, 0, []), (32, .lcmp, 1, false, 0, 0, 0, 0, 0, []), (33, .ifCond .le 19, 3, false, 28, 0, 0, 0, 0, []), (36, .lload_n 3, 1, false, 0, 0, 0, 0, 0, []), (37, .aload_n 0, 1, false, 0, 0, 0, 0, 0, []), (38, .getfield 9, 3, false, 1, 0, 5, 0, 0, []), (41, .iload 5, 2, false, 0, 0, 0, 0, 0, []), (43, .iaload, 1, false, 0, 0, 0, 0, 0, []), (44, .i2l, 1, false, 0, 0, 0, 0, 0, []), (45, .invokestatic 60, 3, false, 0, 0, 13, 0, 0, []), (48, .lstore_n 3, 1, false, 0, 0, 0, 0, 0, []), (49, .goto 16, 3, false, 36, 0, 0, 0, 0, []), (52, .aload_n 0, 1, false, 0, 0, 0, 0, 0, []), (53, .iload 5, 2, false, 0, 0, 0, 0, 0, []), (55, .invokevirtual 36, 3, false, 2, 2, 2, 1, 0, []), (58, .lload_n 1, 1, false, 0, 0, 0, 0, 0, []), (59, .lcmp, 1, false, 0, 0, 0, 0, 0, []), (60, .ifCond .le 5, 3, false, 36, 0, 0, 0, 0, []), (63, .lconst 0, 1, false, 0, 0, 0, 0, 0, []), (64, .lreturn, 1, false, 0, 0, 0, 0, 0, []), (65, .iinc 5 1, 3, false, 0, 0, 0, 0, 0, []), (68, .goto (-61), 3, false, 4, 0, 0, 0, 0, []), (71, .lload_n 3, 1, false, 0, 0, 0, 0, 0, []), (72, .ldc2_w 56, 3, false, 0, 0, 0, 0, 9223372036854775807, []), (75, .lcmp, 1, false, 0, 0, 0, 0, 0, []), (76, .ifCond .ne 7, 3, false, 44, 0, 0, 0, 0, []), (79, .lconst 0, 1, false, 0, 0, 0, 0, 0, []), (80, .goto 6, 3, false, 47, 0, 0, 0, 0, []), (83, .lload_n 3, 1, false, 0, 0, 0, 0, 0, []), (84, .lload_n 1, 1, false, 0, 0, 0, 0, 0, []), (85, .lsub, 1, false, 0, 0, 0, 0, 0, []), (86, .lreturn, 1, false, 0, 0, 0, 0, 0, [])] i i lo st I L := rfl
set_option maxRecDepth 20000 in
theorem uX1_find (sh : mm_S) (call : mm_C) (Q : mm_Q) (n i : Nat) (lo st : List Value) (I : mm_I) (L : mm_L) : mm_v sh call tbX1_find Q (n + 1) i lo st I L = mm_vn sh call tbX1_find Q n [(0, .aload_n 0, 1, false, 0, 0, 0, 0, 0, []), (1, .iconst 1, 1, false, 0, 0, 0, 0, 0, []), (2, .putfield 44, 3, false, 16, 10, 2, 0, 0, []), (5, .aload_n 0, 1, false, 0, 0, 0, 0, 0, []), (6, .iconst 0, 1, false, 0, 0, 0, 0, 0, []), (7, .putfield 37, 3, false, 16, 8, 0, 0, 0, []), (10, .aload_n 0, 1, false, 0, 0, 0, 0, 0, []), (11, .ldc2_w 50, 3, false, 0, 0, 0, 0, 9223372036854775807, []), (14, .putfield 40, 3, false, 16, 9, 1, 0, 0, []), (17, .aload_n 0, 1, false, 0, 0, 0, 0, 0, []), (18, .iconst 0, 1, false, 0, 0, 0, 0, 0, []), (19, .putfield 31, 3, false, 16, 6, 0, 0, 0, []), (22, .aload_n 0, 1, false, 0, 0, 0, 0, 0, []), (23, .iload 4, 2, false, 0, 0, 0, 0, 0, []), (25, .putfield 28, 3, false, 16, 5, 0, 0, 0, []), (28, .aload_n 0, 1, false, 0, 0, 0, 0, 0, []), (29, .aload_n 1, 1, false, 0, 0, 0, 0, 0, []), (30, .aload_n 2, 1, false, 0, 0, 0, 0, 0, []), (31, .iload_n 3, 1, false, 0, 0, 0, 0, 0, []), (32, .invokevirtual 52, 3, false, 15, 4, 0, 16, 0, []), (35, .aload_n 0, 1, false, 0, 0, 0, 0, 0, []), (36, .getfield 15, 3, false, 16, 1, 0, 0, 0, []), (39, .ifCond .le 45, 3, false, 50, 0, 0, 0, 0, []), (42, .aload_n 0, 1, false, 0, 0, 0, 0, 0, []), (43, .getfield 9, 3, false, 16, 0, 20, 0, 0, []), (46, .iconst 0, 1, false, 0, 0, 0, 0, 0, []), (47, .iaload, 1, false, 0, 0, 0, 0, 0, []), (48, .istore 5, 2, false, 0, 0, 0, 0, 0, []), (50, .aload_n 0, 1, false, 0, 0, 0, 0, 0, []), (51, .getfield 19, 3, false, 16, 2, 21, 0, 0, []), (54, .iload 5, 2, false, 0, 0, 0, 0, 0, []), (56, .iconst (-1), 1, false, 0, 0, 0, 0, 0, []), (57, .iastore, 1, false, 0, 0, 0, 0, 0, []), (58, .aload_n 0, 1, false, 0, 0, 0, 0, 0, []), (59, .getfield 22, 3, false, 16, 3, 22, 0, 0, []), (62, .iload 5, 2, false, 0, 0, 0, 0, 0, []), (64, .bipush (-9), 2, false, 0, 0, 0, 0, 0, []), (66, .iastore, 1, false, 0, 0, 0, 0, 0, []), (67, .aload_n 0, 1, false, 0, 0, 0, 0, 0, []), (68, .getfield 25, 3, false, 16, 4, 23, 0, 0, []), (71, .iconst 0, 1, false, 0, 0, 0, 0, 0, []), (72, .iload 5, 2, false, 0, 0, 0, 0, 0, []), (74, .iastore, 1, false, 0, 0, 0, 0, 0, []), (75, .aload_n 0, 1, false, 0, 0, 0, 0, 0, []), (76, .aload_n 1, 1, false, 0, 0, 0, 0, 0, []), (77, .iconst 1, 1, false, 0, 0, 0, 0, 0, []), (78, .iconst 1, 1, false, 0, 0, 0, 0, 0, []), (79, .lconst 0, 1, false, 0, 0, 0, 0, 0, []), (80, .iconst 0, 1, false, 0, 0, 0, 0, 0, []), (81, .invokevirtual 56, 3, false, 16, 6, 0, 16, 0, []), (84, .return_, 1, false, 0, 0, 0, 0, 0, [])] i i lo st I L := rfl
set_option maxRecDepth 20000 in
theorem uX1_takeRow (sh : mm_S) (call : mm_C) (Q : mm_Q) (n i : Nat) (lo st : List Value) (I : mm_I) (L : mm_L) : mm_v sh call tbX1_takeRow Q (n + 1) i lo st I L = mm_vn sh call tbX1_takeRow Q n [(0, .aload_n 0, 1, false, 0, 0, 0, 0, 0, []), (1, .iconst 0, 1, false, 0, 0, 0, 0, 0, []), (2, .putfield 15, 3, false, 16, 1, 0, 0, 0, []), (5, .iconst 0, 1, false, 0, 0, 0, 0, 0, []), (6, .istore 4, 2, false, 0, 0, 0, 0, 0, []), (8, .iload 4, 2, true, 0, 0, 0, 0, 0, []), (10, .iload_n 3, 1, false, 0, 0, 0, 0, 0, []), (11, .if_icmp .ge 57, 3, false, 37, 0, 0, 0, 0, []), (14, .iload 4, 2, false, 0, 0, 0, 0, 0, []), (16, .aload_n 2, 1, false, 0, 0, 0, 0, 0, []), (17, .arraylength, 1, false, 0, 0, 0, 0, 0, []), (18, .if_icmp .ge 50, 3, false, 37, 0, 0, 0, 0, []), (21, .iload 4, 2, false, 0, 0, 0, 0, 0, []), (23, .bipush 8, 2, false, 0, 0, 0, 0, 0, []), (25, .if_icmp .ge 43, 3, false, 37, 0, 0, 0, 0, []), (28, .aload_n 1, 1, false, 0, 0, 0, 0, 0, []), (29, .aload_n 2, 1, false, 0, 0, 0, 0, 0, []), (30, .iload 4, 2, false, 0, 0, 0, 0, 0, []), (32, .iaload, 1, false, 0, 0, 0, 0, 0, []), (33, .invokevirtual 60, 3, false, 0, 2, 1, 1, 0, []), (36, .ifCond .eq 26, 3, false, 35, 0, 0, 0, 0, []), (39, .aload_n 0, 1, false, 0, 0, 0, 0, 0, []), (40, .getfield 9, 3, false, 16, 0, 20, 0, 0, []), (43, .aload_n 0, 1, false, 0, 0, 0, 0, 0, []), (44, .getfield 15, 3, false, 16, 1, 0, 0, 0, []), (47, .aload_n 2, 1, false, 0, 0, 0, 0, 0, []), (48, .iload 4, 2, false, 0, 0, 0, 0, 0, []), (50, .iaload, 1, false, 0, 0, 0, 0, 0, []), (51, .iastore, 1, false, 0, 0, 0, 0, 0, []), (52, .aload_n 0, 1, false, 0, 0, 0, 0, 0, []), (53, .dup, 1, false, 0, 0, 0, 0, 0, []), (54, .getfield 15, 3, false, 16, 1, 0, 0, 0, []), (57, .iconst 1, 1, false, 0, 0, 0, 0, 0, []), (58, .iadd, 1, false, 0, 0, 0, 0, 0, []), (59, .putfield 15, 3, false, 16, 1, 0, 0, 0, []), (62, .iinc 4 1, 3, false, 0, 0, 0, 0, 0, []), (65, .goto (-57), 3, false, 5, 0, 0, 0, 0, []), (68, .return_, 1, false, 0, 0, 0, 0, 0, [])] i i lo st I L := rfl
set_option maxRecDepth 20000 in
theorem hX1_takeRow (sh : mm_S) (call : mm_C) (Q : mm_Q) (n i : Nat) (lo st : List Value) (I : mm_I) (L : mm_L) : mm_h sh call tbX1_takeRow Q n i lo st I L = mm_hn sh call tbX1_takeRow Q n [(0, .aload_n 0, 1, false, 0, 0, 0, 0, 0, []), (1, .iconst 0, 1, false, 0, 0, 0, 0, 0, []), (2, .putfield 15, 3, false, 16, 1, 0, 0, 0, []), (5, .iconst 0, 1, false, 0, 0, 0, 0, 0, []), (6, .istore 4, 2, false, 0, 0, 0, 0, 0, []), (8, .iload 4, 2, true, 0, 0, 0, 0, 0, []), (10, .iload_n 3, 1, false, 0, 0, 0, 0, 0, []), (11, .if_icmp .ge 57, 3, false, 37, 0, 0, 0, 0, []), (14, .iload 4, 2, false, 0, 0, 0, 0, 0, []), (16, .aload_n 2, 1, false, 0, 0, 0, 0, 0, []), (17, .arraylength, 1, false, 0, 0, 0, 0, 0, []), (18, .if_icmp .ge 50, 3, false, 37, 0, 0, 0, 0, []), (21, .iload 4, 2, false, 0, 0, 0, 0, 0, []), (23, .bipush 8, 2, false, 0, 0, 0, 0, 0, []), (25, .if_icmp .ge 43, 3, false, 37, 0, 0, 0, 0, []), (28, .aload_n 1, 1, false, 0, 0, 0, 0, 0, []), (29, .aload_n 2, 1, false, 0, 0, 0, 0, 0, []), (30, .iload 4, 2, false, 0, 0, 0, 0, 0, []), (32, .iaload, 1, false, 0, 0, 0, 0, 0, []), (33, .invokevirtual 60, 3, false, 0, 2, 1, 1, 0, []), (36, .ifCond .eq 26, 3, false, 35, 0, 0, 0, 0, []), (39, .aload_n 0, 1, false, 0, 0, 0, 0, 0, []), (40, .getfield 9, 3, false, 16, 0, 20, 0, 0, []), (43, .aload_n 0, 1, false, 0, 0, 0, 0, 0, []), (44, .getfield 15, 3, false, 16, 1, 0, 0, 0, []), (47, .aload_n 2, 1, false, 0, 0, 0, 0, 0, []), (48, .iload 4, 2, false, 0, 0, 0, 0, 0, []), (50, .iaload, 1, false, 0, 0, 0, 0, 0, []), (51, .iastore, 1, false, 0, 0, 0, 0, 0, []), (52, .aload_n 0, 1, false, 0, 0, 0, 0, 0, []), (53, .dup, 1, false, 0, 0, 0, 0, 0, []), (54, .getfield 15, 3, false, 16, 1, 0, 0, 0, []), (57, .iconst 1, 1, false, 0, 0, 0, 0, 0, []), (58, .iadd, 1, false, 0, 0, 0, 0, 0, []), (59, .putfield 15, 3, false, 16, 1, 0, 0, 0, []), (62, .iinc 4 1, 3, false, 0, 0, 0, 0, 0, []), (65, .goto (-57), 3, false, 5, 0, 0, 0, 0, []), (68, .return_, 1, false, 0, 0, 0, 0, 0, [])] i i lo st I L := rfl
set_option maxRecDepth 20000 in
theorem uX1_setFrom (sh : mm_S) (call : mm_C) (Q : mm_Q) (n i : Nat) (lo st : List Value) (I : mm_I) (L : mm_L) : mm_v sh call tbX1_setFrom Q (n + 1) i lo st I L = mm_vn sh call tbX1_setFrom Q n [(0, .lload 4, 2, false, 0, 0, 0, 0, 0, []), (2, .aload_n 0, 1, false, 0, 0, 0, 0, 0, []), (3, .getfield 40, 3, false, 16, 9, 1, 0, 0, []), (6, .lcmp, 1, false, 0, 0, 0, 0, 0, []), (7, .ifCond .gt 22, 3, false, 14, 0, 0, 0, 0, []), (10, .lload 4, 2, false, 0, 0, 0, 0, 0, []), (12, .aload_n 0, 1, false, 0, 0, 0, 0, 0, []), (13, .getfield 40, 3, false, 16, 9, 1, 0, 0, []), (16, .lcmp, 1, false, 0, 0, 0, 0, 0, []), (17, .ifCond .ne 13, 3, false, 15, 0, 0, 0, 0, []), (20, .iload 6, 2, false, 0, 0, 0, 0, 0, []), (22, .aload_n 0, 1, false, 0, 0, 0, 0, 0, []), (23, .getfield 31, 3, false, 16, 6, 0, 0, 0, []), (26, .if_icmp .lt 4, 3, false, 15, 0, 0, 0, 0, []), (29, .return_, 1, false, 0, 0, 0, 0, 0, []), (30, .iload_n 2, 1, false, 0, 0, 0, 0, 0, []), (31, .iconst 1, 1, false, 0, 0, 0, 0, 0, []), (32, .if_icmp .lt 17, 3, false, 25, 0, 0, 0, 0, []), (35, .iload_n 2, 1, false, 0, 0, 0, 0, 0, []), (36, .aload_n 0, 1, false, 0, 0, 0, 0, 0, []), (37, .getfield 15, 3, false, 16, 1, 0, 0, 0, []), (40, .if_icmp .ge 9, 3, false, 25, 0, 0, 0, 0, []), (43, .iload_n 2, 1, false, 0, 0, 0, 0, 0, []), (44, .bipush 8, 2, false, 0, 0, 0, 0, 0, []), (46, .if_icmp .lt 13, 3, false, 31, 0, 0, 0, 0, []), (49, .aload_n 0, 1, false, 0, 0, 0, 0, 0, []), (50, .iload_n 3, 1, false, 0, 0, 0, 0, 0, []), (51, .lload 4, 2, false, 0, 0, 0, 0, 0, []), (53, .iload 6, 2, false, 0, 0, 0, 0, 0, []), (55, .invokevirtual 66, 3, false, 19, 4, 0, 16, 0, []), (58, .return_, 1, false, 0, 0, 0, 0, 0, []), (59, .aload_n 0, 1, false, 0, 0, 0, 0, 0, []), (60, .getfield 9, 3, false, 16, 0, 20, 0, 0, []), (63, .iload_n 2, 1, false, 0, 0, 0, 0, 0, []), (64, .iconst 1, 1, false, 0, 0, 0, 0, 0, []), (65, .isub, 1, false, 0, 0, 0, 0, 0, []), (66, .iaload, 1, false, 0, 0, 0, 0, 0, []), (67, .istore 7, 2, false, 0, 0, 0, 0, 0, []), (69, .iload_n 3, 1, false, 0, 0, 0, 0, 0, []), (70, .istore 8, 2, false, 0, 0, 0, 0, 0, []), (72, .iconst 0, 1, false, 0, 0, 0, 0, 0, []), (73, .istore 9, 2, false, 0, 0, 0, 0, 0, []), (75, .iload 9, 2, true, 0, 0, 0, 0, 0, []), (77, .bipush 8, 2, false, 0, 0, 0, 0, 0, []), (79, .if_icmp .ge 76, 3, false, 83, 0, 0, 0, 0, []), (82, .aload_n 1, 1, false, 0, 0, 0, 0, 0, []), (83, .iload 7, 2, false, 0, 0, 0, 0, 0, []), (85, .invokevirtual 60, 3, false, 0, 2, 1, 1, 0, []), (88, .ifCond .eq 67, 3, false, 83, 0, 0, 0, 0, []), (91, .iload 8, 2, false, 0, 0, 0, 0, 0, []), (93, .iconst 1, 1, false, 0, 0, 0, 0, 0, []), (94, .iadd, 1, false, 0, 0, 0, 0, 0, []), (95, .bipush 40, 2, false, 0, 0, 0, 0, 0, []), (97, .if_icmp .ge 58, 3, false, 83, 0, 0, 0, 0, []), (100, .aload_n 0, 1, false, 0, 0, 0, 0, 0, []), (101, .aload_n 1, 1, false, 0, 0, 0, 0, 0, []), (102, .iload_n 2, 1, false, 0, 0, 0, 0, 0, []), (103, .iload 8, 2, false, 0, 0, 0, 0, 0, []), (105, .iload 7, 2, false, 0, 0, 0, 0, 0, []), (107, .lload 4, 2, false, 0, 0, 0, 0, 0, []), (109, .iload 6, 2, false, 0, 0, 0, 0, 0, []), (111, .invokevirtual 70, 3, false, 17, 7, 0, 16, 0, []), (114, .aload_n 0, 1, false, 0, 0, 0, 0, 0, []), (115, .aload_n 1, 1, false, 0, 0, 0, 0, 0, []), (116, .iload_n 2, 1, false, 0, 0, 0, 0, 0, []), (117, .iload 8, 2, false, 0, 0, 0, 0, 0, []), (119, .iload 7, 2, false, 0, 0, 0, 0, 0, []), (121, .lload 4, 2, false, 0, 0, 0, 0, 0, []), (123, .iload 6, 2, false, 0, 0, 0, 0, 0, []), (125, .invokevirtual 74, 3, false, 18, 7, 0, 16, 0, []), (128, .aload_n 0, 1, false, 0, 0, 0, 0, 0, []), (129, .getfield 25, 3, false, 16, 4, 23, 0, 0, []), (132, .iload 8, 2, false, 0, 0, 0, 0, 0, []), (134, .bipush 21, 2, false, 0, 0, 0, 0, 0, []), (136, .iastore, 1, false, 0, 0, 0, 0, 0, []), (137, .iinc 8 1, 3, false, 0, 0, 0, 0, 0, []), (140, .aload_n 0, 1, false, 0, 0, 0, 0, 0, []), (141, .getfield 19, 3, false, 16, 2, 21, 0, 0, []), (144, .iload 7, 2, false, 0, 0, 0, 0, 0, []), (146, .iaload, 1, false, 0, 0, 0, 0, 0, []), (147, .istore 7, 2, false, 0, 0, 0, 0, 0, []), (149, .iinc 9 1, 3, false, 0, 0, 0, 0, 0, []), (152, .goto (-77), 3, false, 42, 0, 0, 0, 0, []), (155, .return_, 1, false, 0, 0, 0, 0, 0, [])] i i lo st I L := rfl
set_option maxRecDepth 20000 in
theorem hX1_setFrom (sh : mm_S) (call : mm_C) (Q : mm_Q) (n i : Nat) (lo st : List Value) (I : mm_I) (L : mm_L) : mm_h sh call tbX1_setFrom Q n i lo st I L = mm_hn sh call tbX1_setFrom Q n [(0, .lload 4, 2, false, 0, 0, 0, 0, 0, []), (2, .aload_n 0, 1, false, 0, 0, 0, 0, 0, []), (3, .getfield 40, 3, false, 16, 9, 1, 0, 0, []), (6, .lcmp, 1, false, 0, 0, 0, 0, 0, []), (7, .ifCond .gt 22, 3, false, 14, 0, 0, 0, 0, []), (10, .lload 4, 2, false, 0, 0, 0, 0, 0, []), (12, .aload_n 0, 1, false, 0, 0, 0, 0, 0, []), (13, .getfield 40, 3, false, 16, 9, 1, 0, 0, []), (16, .lcmp, 1, false, 0, 0, 0, 0, 0, []), (17, .ifCond .ne 13, 3, false, 15, 0, 0, 0, 0, []), (20, .iload 6, 2, false, 0, 0, 0, 0, 0, []), (22, .aload_n 0, 1, false, 0, 0, 0, 0, 0, []), (23, .getfield 31, 3, false, 16, 6, 0, 0, 0, []), (26, .if_icmp .lt 4, 3, false, 15, 0, 0, 0, 0, []), (29, .return_, 1, false, 0, 0, 0, 0, 0, []), (30, .iload_n 2, 1, false, 0, 0, 0, 0, 0, []), (31, .iconst 1, 1, false, 0, 0, 0, 0, 0, []), (32, .if_icmp .lt 17, 3, false, 25, 0, 0, 0, 0, []), (35, .iload_n 2, 1, false, 0, 0, 0, 0, 0, []), (36, .aload_n 0, 1, false, 0, 0, 0, 0, 0, []), (37, .getfield 15, 3, false, 16, 1, 0, 0, 0, []), (40, .if_icmp .ge 9, 3, false, 25, 0, 0, 0, 0, []), (43, .iload_n 2, 1, false, 0, 0, 0, 0, 0, []), (44, .bipush 8, 2, false, 0, 0, 0, 0, 0, []), (46, .if_icmp .lt 13, 3, false, 31, 0, 0, 0, 0, []), (49, .aload_n 0, 1, false, 0, 0, 0, 0, 0, []), (50, .iload_n 3, 1, false, 0, 0, 0, 0, 0, []), (51, .lload 4, 2, false, 0, 0, 0, 0, 0, []), (53, .iload 6, 2, false, 0, 0, 0, 0, 0, []), (55, .invokevirtual 66, 3, false, 19, 4, 0, 16, 0, []), (58, .return_, 1, false, 0, 0, 0, 0, 0, []), (59, .aload_n 0, 1, false, 0, 0, 0, 0, 0, []), (60, .getfield 9, 3, false, 16, 0, 20, 0, 0, []), (63, .iload_n 2, 1, false, 0, 0, 0, 0, 0, []), (64, .iconst 1, 1, false, 0, 0, 0, 0, 0, []), (65, .isub, 1, false, 0, 0, 0, 0, 0, []), (66, .iaload, 1, false, 0, 0, 0, 0, 0, []), (67, .istore 7, 2, false, 0, 0, 0, 0, 0, []), (69, .iload_n 3, 1, false, 0, 0, 0, 0, 0, []), (70, .istore 8, 2, false, 0, 0, 0, 0, 0, []), (72, .iconst 0, 1, false, 0, 0, 0, 0, 0, []), (73, .istore 9, 2, false, 0, 0, 0, 0, 0, []), (75, .iload 9, 2, true, 0, 0, 0, 0, 0, []), (77, .bipush 8, 2, false, 0, 0, 0, 0, 0, []), (79, .if_icmp .ge 76, 3, false, 83, 0, 0, 0, 0, []), (82, .aload_n 1, 1, false, 0, 0, 0, 0, 0, []), (83, .iload 7, 2, false, 0, 0, 0, 0, 0, []), (85, .invokevirtual 60, 3, false, 0, 2, 1, 1, 0, []), (88, .ifCond .eq 67, 3, false, 83, 0, 0, 0, 0, []), (91, .iload 8, 2, false, 0, 0, 0, 0, 0, []), (93, .iconst 1, 1, false, 0, 0, 0, 0, 0, []), (94, .iadd, 1, false, 0, 0, 0, 0, 0, []), (95, .bipush 40, 2, false, 0, 0, 0, 0, 0, []), (97, .if_icmp .ge 58, 3, false, 83, 0, 0, 0, 0, []), (100, .aload_n 0, 1, false, 0, 0, 0, 0, 0, []), (101, .aload_n 1, 1, false, 0, 0, 0, 0, 0, []), (102, .iload_n 2, 1, false, 0, 0, 0, 0, 0, []), (103, .iload 8, 2, false, 0, 0, 0, 0, 0, []), (105, .iload 7, 2, false, 0, 0, 0, 0, 0, []), (107, .lload 4, 2, false, 0, 0, 0, 0, 0, []), (109, .iload 6, 2, false, 0, 0, 0, 0, 0, []), (111, .invokevirtual 70, 3, false, 17, 7, 0, 16, 0, []), (114, .aload_n 0, 1, false, 0, 0, 0, 0, 0, []), (115, .aload_n 1, 1, false, 0, 0, 0, 0, 0, []), (116, .iload_n 2, 1, false, 0, 0, 0, 0, 0, []), (117, .iload 8, 2, false, 0, 0, 0, 0, 0, []), (119, .iload 7, 2, false, 0, 0, 0, 0, 0, []), (121, .lload 4, 2, false, 0, 0, 0, 0, 0, []), (123, .iload 6, 2, false, 0, 0, 0, 0, 0, []), (125, .invokevirtual 74, 3, false, 18, 7, 0, 16, 0, []), (128, .aload_n 0, 1, false, 0, 0, 0, 0, 0, []), (129, .getfield 25, 3, false, 16, 4, 23, 0, 0, []), (132, .iload 8, 2, false, 0, 0, 0, 0, 0, []), (134, .bipush 21, 2, false, 0, 0, 0, 0, 0, []), (136, .iastore, 1, false, 0, 0, 0, 0, 0, []), (137, .iinc 8 1, 3, false, 0, 0, 0, 0, 0, []), (140, .aload_n 0, 1, false, 0, 0, 0, 0, 0, []), (141, .getfield 19, 3, false, 16, 2, 21, 0, 0, []), (144, .iload 7, 2, false, 0, 0, 0, 0, 0, []), (146, .iaload, 1, false, 0, 0, 0, 0, 0, []), (147, .istore 7, 2, false, 0, 0, 0, 0, 0, []), (149, .iinc 9 1, 3, false, 0, 0, 0, 0, 0, []), (152, .goto (-77), 3, false, 42, 0, 0, 0, 0, []), (155, .return_, 1, false, 0, 0, 0, 0, 0, [])] i i lo st I L := rfl
set_option maxRecDepth 20000 in
theorem uX1_setBeside (sh : mm_S) (call : mm_C) (Q : mm_Q) (n i : Nat) (lo st : List Value) (I : mm_I) (L : mm_L) : mm_v sh call tbX1_setBeside Q (n + 1) i lo st I L = mm_vn sh call tbX1_setBeside Q n [(0, .aload_n 0, 1, false, 0, 0, 0, 0, 0, []), (1, .getfield 9, 3, false, 16, 0, 20, 0, 0, []), (4, .iload_n 2, 1, false, 0, 0, 0, 0, 0, []), (5, .iaload, 1, false, 0, 0, 0, 0, 0, []), (6, .istore 8, 2, false, 0, 0, 0, 0, 0, []), (8, .aload_n 0, 1, false, 0, 0, 0, 0, 0, []), (9, .getfield 19, 3, false, 16, 2, 21, 0, 0, []), (12, .iload 4, 2, false, 0, 0, 0, 0, 0, []), (14, .iaload, 1, false, 0, 0, 0, 0, 0, []), (15, .istore 9, 2, false, 0, 0, 0, 0, 0, []), (17, .iload 9, 2, false, 0, 0, 0, 0, 0, []), (19, .iconst (-1), 1, false, 0, 0, 0, 0, 0, []), (20, .if_icmp .eq 22, 3, false, 23, 0, 0, 0, 0, []), (23, .aload_n 1, 1, false, 0, 0, 0, 0, 0, []), (24, .iload 8, 2, false, 0, 0, 0, 0, 0, []), (26, .iload 9, 2, false, 0, 0, 0, 0, 0, []), (28, .invokevirtual 77, 3, false, 5, 3, 1, 1, 0, []), (31, .aload_n 0, 1, false, 0, 0, 0, 0, 0, []), (32, .getfield 22, 3, false, 16, 3, 22, 0, 0, []), (35, .iload 4, 2, false, 0, 0, 0, 0, 0, []), (37, .iaload, 1, false, 0, 0, 0, 0, 0, []), (38, .if_icmp .eq 4, 3, false, 23, 0, 0, 0, 0, []), (41, .return_, 1, false, 0, 0, 0, 0, 0, []), (42, .aload_n 0, 1, false, 0, 0, 0, 0, 0, []), (43, .getfield 19, 3, false, 16, 2, 21, 0, 0, []), (46, .iload 8, 2, false, 0, 0, 0, 0, 0, []), (48, .iload 9, 2, false, 0, 0, 0, 0, 0, []), (50, .iastore, 1, false, 0, 0, 0, 0, 0, []), (51, .aload_n 0, 1, false, 0, 0, 0, 0, 0, []), (52, .getfield 22, 3, false, 16, 3, 22, 0, 0, []), (55, .iload 8, 2, false, 0, 0, 0, 0, 0, []), (57, .aload_n 0, 1, false, 0, 0, 0, 0, 0, []), (58, .getfield 22, 3, false, 16, 3, 22, 0, 0, []), (61, .iload 4, 2, false, 0, 0, 0, 0, 0, []), (63, .iaload, 1, false, 0, 0, 0, 0, 0, []), (64, .iastore, 1, false, 0, 0, 0, 0, 0, []), (65, .aload_n 0, 1, false, 0, 0, 0, 0, 0, []), (66, .getfield 25, 3, false, 16, 4, 23, 0, 0, []), (69, .iload_n 3, 1, false, 0, 0, 0, 0, 0, []), (70, .iload 8, 2, false, 0, 0, 0, 0, 0, []), (72, .iastore, 1, false, 0, 0, 0, 0, 0, []), (73, .aload_n 0, 1, false, 0, 0, 0, 0, 0, []), (74, .aload_n 1, 1, false, 0, 0, 0, 0, 0, []), (75, .iload_n 2, 1, false, 0, 0, 0, 0, 0, []), (76, .iconst 1, 1, false, 0, 0, 0, 0, 0, []), (77, .iadd, 1, false, 0, 0, 0, 0, 0, []), (78, .iload_n 3, 1, false, 0, 0, 0, 0, 0, []), (79, .iconst 1, 1, false, 0, 0, 0, 0, 0, []), (80, .iadd, 1, false, 0, 0, 0, 0, 0, []), (81, .lload 5, 2, false, 0, 0, 0, 0, 0, []), (83, .aload_n 1, 1, false, 0, 0, 0, 0, 0, []), (84, .iload 4, 2, false, 0, 0, 0, 0, 0, []), (86, .iload 8, 2, false, 0, 0, 0, 0, 0, []), (88, .invokevirtual 81, 3, false, 4, 3, 2, 1, 0, []), (91, .ladd, 1, false, 0, 0, 0, 0, 0, []), (92, .iload 7, 2, false, 0, 0, 0, 0, 0, []), (94, .invokevirtual 56, 3, false, 16, 6, 0, 16, 0, []), (97, .return_, 1, false, 0, 0, 0, 0, 0, [])] i i lo st I L := rfl
set_option maxRecDepth 20000 in
theorem uX1_setWithin (sh : mm_S) (call : mm_C) (Q : mm_Q) (n i : Nat) (lo st : List Value) (I : mm_I) (L : mm_L) : mm_v sh call tbX1_setWithin Q (n + 1) i lo st I L = mm_vn sh call tbX1_setWithin Q n [(0, .aload_n 0, 1, false, 0, 0, 0, 0, 0, []), (1, .getfield 9, 3, false, 16, 0, 20, 0, 0, []), (4, .iload_n 2, 1, false, 0, 0, 0, 0, 0, []), (5, .iaload, 1, false, 0, 0, 0, 0, 0, []), (6, .istore 8, 2, false, 0, 0, 0, 0, 0, []), (8, .aload_n 1, 1, false, 0, 0, 0, 0, 0, []), (9, .iload 8, 2, false, 0, 0, 0, 0, 0, []), (11, .iload 4, 2, false, 0, 0, 0, 0, 0, []), (13, .invokevirtual 77, 3, false, 5, 3, 1, 1, 0, []), (16, .istore 9, 2, false, 0, 0, 0, 0, 0, []), (18, .iload 9, 2, false, 0, 0, 0, 0, 0, []), (20, .bipush (-9), 2, false, 0, 0, 0, 0, 0, []), (22, .if_icmp .ne 4, 3, false, 14, 0, 0, 0, 0, []), (25, .return_, 1, false, 0, 0, 0, 0, 0, []), (26, .aload_n 0, 1, false, 0, 0, 0, 0, 0, []), (27, .getfield 19, 3, false, 16, 2, 21, 0, 0, []), (30, .iload 8, 2, false, 0, 0, 0, 0, 0, []), (32, .iload 4, 2, false, 0, 0, 0, 0, 0, []), (34, .iastore, 1, false, 0, 0, 0, 0, 0, []), (35, .aload_n 0, 1, false, 0, 0, 0, 0, 0, []), (36, .getfield 22, 3, false, 16, 3, 22, 0, 0, []), (39, .iload 8, 2, false, 0, 0, 0, 0, 0, []), (41, .iload 9, 2, false, 0, 0, 0, 0, 0, []), (43, .iastore, 1, false, 0, 0, 0, 0, 0, []), (44, .aload_n 0, 1, false, 0, 0, 0, 0, 0, []), (45, .getfield 25, 3, false, 16, 4, 23, 0, 0, []), (48, .iload_n 3, 1, false, 0, 0, 0, 0, 0, []), (49, .bipush 20, 2, false, 0, 0, 0, 0, 0, []), (51, .iastore, 1, false, 0, 0, 0, 0, 0, []), (52, .aload_n 0, 1, false, 0, 0, 0, 0, 0, []), (53, .getfield 25, 3, false, 16, 4, 23, 0, 0, []), (56, .iload_n 3, 1, false, 0, 0, 0, 0, 0, []), (57, .iconst 1, 1, false, 0, 0, 0, 0, 0, []), (58, .iadd, 1, false, 0, 0, 0, 0, 0, []), (59, .iload 8, 2, false, 0, 0, 0, 0, 0, []), (61, .iastore, 1, false, 0, 0, 0, 0, 0, []), (62, .aload_n 0, 1, false, 0, 0, 0, 0, 0, []), (63, .aload_n 1, 1, false, 0, 0, 0, 0, 0, []), (64, .iload_n 2, 1, false, 0, 0, 0, 0, 0, []), (65, .iconst 1, 1, false, 0, 0, 0, 0, 0, []), (66, .iadd, 1, false, 0, 0, 0, 0, 0, []), (67, .iload_n 3, 1, false, 0, 0, 0, 0, 0, []), (68, .iconst 2, 1, false, 0, 0, 0, 0, 0, []), (69, .iadd, 1, false, 0, 0, 0, 0, 0, []), (70, .lload 5, 2, false, 0, 0, 0, 0, 0, []), (72, .aload_n 0, 1, false, 0, 0, 0, 0, 0, []), (73, .getfield 28, 3, false, 16, 5, 0, 0, 0, []), (76, .i2l, 1, false, 0, 0, 0, 0, 0, []), (77, .ladd, 1, false, 0, 0, 0, 0, 0, []), (78, .iload 7, 2, false, 0, 0, 0, 0, 0, []), (80, .iconst 1, 1, false, 0, 0, 0, 0, 0, []), (81, .iadd, 1, false, 0, 0, 0, 0, 0, []), (82, .invokevirtual 56, 3, false, 16, 6, 0, 16, 0, []), (85, .return_, 1, false, 0, 0, 0, 0, 0, [])] i i lo st I L := rfl
set_option maxRecDepth 20000 in
theorem uX1_keep (sh : mm_S) (call : mm_C) (Q : mm_Q) (n i : Nat) (lo st : List Value) (I : mm_I) (L : mm_L) : mm_v sh call tbX1_keep Q (n + 1) i lo st I L = mm_vn sh call tbX1_keep Q n [(0, .aload_n 0, 1, false, 0, 0, 0, 0, 0, []), (1, .lload_n 2, 1, false, 0, 0, 0, 0, 0, []), (2, .putfield 40, 3, false, 16, 9, 1, 0, 0, []), (5, .aload_n 0, 1, false, 0, 0, 0, 0, 0, []), (6, .iload 4, 2, false, 0, 0, 0, 0, 0, []), (8, .putfield 31, 3, false, 16, 6, 0, 0, 0, []), (11, .aload_n 0, 1, false, 0, 0, 0, 0, 0, []), (12, .iload_n 1, 1, false, 0, 0, 0, 0, 0, []), (13, .putfield 37, 3, false, 16, 8, 0, 0, 0, []), (16, .aload_n 0, 1, false, 0, 0, 0, 0, 0, []), (17, .getfield 25, 3, false, 16, 4, 23, 0, 0, []), (20, .iconst 0, 1, false, 0, 0, 0, 0, 0, []), (21, .aload_n 0, 1, false, 0, 0, 0, 0, 0, []), (22, .getfield 34, 3, false, 16, 7, 24, 0, 0, []), (25, .iconst 0, 1, false, 0, 0, 0, 0, 0, []), (26, .iload_n 1, 1, false, 0, 0, 0, 0, 0, []), (27, .invokestatic 85, 3, false, 0, 0, 14, 0, 0, []), (30, .aload_n 0, 1, false, 0, 0, 0, 0, 0, []), (31, .invokevirtual 91, 3, false, 20, 1, 0, 16, 0, []), (34, .return_, 1, false, 0, 0, 0, 0, 0, [])] i i lo st I L := rfl
set_option maxRecDepth 20000 in
theorem uX1_closeAll (sh : mm_S) (call : mm_C) (Q : mm_Q) (n i : Nat) (lo st : List Value) (I : mm_I) (L : mm_L) : mm_v sh call tbX1_closeAll Q (n + 1) i lo st I L = mm_vn sh call tbX1_closeAll Q n [(0, .aload_n 0, 1, false, 0, 0, 0, 0, 0, []), (1, .getfield 9, 3, false, 16, 0, 20, 0, 0, []), (4, .aload_n 0, 1, false, 0, 0, 0, 0, 0, []), (5, .getfield 15, 3, false, 16, 1, 0, 0, 0, []), (8, .iconst 1, 1, false, 0, 0, 0, 0, 0, []), (9, .isub, 1, false, 0, 0, 0, 0, 0, []), (10, .iaload, 1, false, 0, 0, 0, 0, 0, []), (11, .istore_n 1, 1, false, 0, 0, 0, 0, 0, []), (12, .iconst 0, 1, false, 0, 0, 0, 0, 0, []), (13, .istore_n 2, 1, false, 0, 0, 0, 0, 0, []), (14, .iload_n 2, 1, true, 0, 0, 0, 0, 0, []), (15, .bipush 8, 2, false, 0, 0, 0, 0, 0, []), (17, .if_icmp .ge 56, 3, false, 42, 0, 0, 0, 0, []), (20, .aload_n 0, 1, false, 0, 0, 0, 0, 0, []), (21, .getfield 19, 3, false, 16, 2, 21, 0, 0, []), (24, .iload_n 1, 1, false, 0, 0, 0, 0, 0, []), (25, .iaload, 1, false, 0, 0, 0, 0, 0, []), (26, .iconst (-1), 1, false, 0, 0, 0, 0, 0, []), (27, .if_icmp .eq 46, 3, false, 42, 0, 0, 0, 0, []), (30, .aload_n 0, 1, false, 0, 0, 0, 0, 0, []), (31, .getfield 37, 3, false, 16, 8, 0, 0, 0, []), (34, .bipush 40, 2, false, 0, 0, 0, 0, 0, []), (36, .if_icmp .ge 37, 3, false, 42, 0, 0, 0, 0, []), (39, .aload_n 0, 1, false, 0, 0, 0, 0, 0, []), (40, .getfield 34, 3, false, 16, 7, 24, 0, 0, []), (43, .aload_n 0, 1, false, 0, 0, 0, 0, 0, []), (44, .getfield 37, 3, false, 16, 8, 0, 0, 0, []), (47, .bipush 21, 2, false, 0, 0, 0, 0, 0, []), (49, .iastore, 1, false, 0, 0, 0, 0, 0, []), (50, .aload_n 0, 1, false, 0, 0, 0, 0, 0, []), (51, .dup, 1, false, 0, 0, 0, 0, 0, []), (52, .getfield 37, 3, false, 16, 8, 0, 0, 0, []), (55, .iconst 1, 1, false, 0, 0, 0, 0, 0, []), (56, .iadd, 1, false, 0, 0, 0, 0, 0, []), (57, .putfield 37, 3, false, 16, 8, 0, 0, 0, []), (60, .aload_n 0, 1, false, 0, 0, 0, 0, 0, []), (61, .getfield 19, 3, false, 16, 2, 21, 0, 0, []), (64, .iload_n 1, 1, false, 0, 0, 0, 0, 0, []), (65, .iaload, 1, false, 0, 0, 0, 0, 0, []), (66, .istore_n 1, 1, false, 0, 0, 0, 0, 0, []), (67, .iinc 2 1, 3, false, 0, 0, 0, 0, 0, []), (70, .goto (-56), 3, false, 10, 0, 0, 0, 0, []), (73, .return_, 1, false, 0, 0, 0, 0, 0, [])] i i lo st I L := rfl
set_option maxRecDepth 20000 in
theorem hX1_closeAll (sh : mm_S) (call : mm_C) (Q : mm_Q) (n i : Nat) (lo st : List Value) (I : mm_I) (L : mm_L) : mm_h sh call tbX1_closeAll Q n i lo st I L = mm_hn sh call tbX1_closeAll Q n [(0, .aload_n 0, 1, false, 0, 0, 0, 0, 0, []), (1, .getfield 9, 3, false, 16, 0, 20, 0, 0, []), (4, .aload_n 0, 1, false, 0, 0, 0, 0, 0, []), (5, .getfield 15, 3, false, 16, 1, 0, 0, 0, []), (8, .iconst 1, 1, false, 0, 0, 0, 0, 0, []), (9, .isub, 1, false, 0, 0, 0, 0, 0, []), (10, .iaload, 1, false, 0, 0, 0, 0, 0, []), (11, .istore_n 1, 1, false, 0, 0, 0, 0, 0, []), (12, .iconst 0, 1, false, 0, 0, 0, 0, 0, []), (13, .istore_n 2, 1, false, 0, 0, 0, 0, 0, []), (14, .iload_n 2, 1, true, 0, 0, 0, 0, 0, []), (15, .bipush 8, 2, false, 0, 0, 0, 0, 0, []), (17, .if_icmp .ge 56, 3, false, 42, 0, 0, 0, 0, []), (20, .aload_n 0, 1, false, 0, 0, 0, 0, 0, []), (21, .getfield 19, 3, false, 16, 2, 21, 0, 0, []), (24, .iload_n 1, 1, false, 0, 0, 0, 0, 0, []), (25, .iaload, 1, false, 0, 0, 0, 0, 0, []), (26, .iconst (-1), 1, false, 0, 0, 0, 0, 0, []), (27, .if_icmp .eq 46, 3, false, 42, 0, 0, 0, 0, []), (30, .aload_n 0, 1, false, 0, 0, 0, 0, 0, []), (31, .getfield 37, 3, false, 16, 8, 0, 0, 0, []), (34, .bipush 40, 2, false, 0, 0, 0, 0, 0, []), (36, .if_icmp .ge 37, 3, false, 42, 0, 0, 0, 0, []), (39, .aload_n 0, 1, false, 0, 0, 0, 0, 0, []), (40, .getfield 34, 3, false, 16, 7, 24, 0, 0, []), (43, .aload_n 0, 1, false, 0, 0, 0, 0, 0, []), (44, .getfield 37, 3, false, 16, 8, 0, 0, 0, []), (47, .bipush 21, 2, false, 0, 0, 0, 0, 0, []), (49, .iastore, 1, false, 0, 0, 0, 0, 0, []), (50, .aload_n 0, 1, false, 0, 0, 0, 0, 0, []), (51, .dup, 1, false, 0, 0, 0, 0, 0, []), (52, .getfield 37, 3, false, 16, 8, 0, 0, 0, []), (55, .iconst 1, 1, false, 0, 0, 0, 0, 0, []), (56, .iadd, 1, false, 0, 0, 0, 0, 0, []), (57, .putfield 37, 3, false, 16, 8, 0, 0, 0, []), (60, .aload_n 0, 1, false, 0, 0, 0, 0, 0, []), (61, .getfield 19, 3, false, 16, 2, 21, 0, 0, []), (64, .iload_n 1, 1, false, 0, 0, 0, 0, 0, []), (65, .iaload, 1, false, 0, 0, 0, 0, 0, []), (66, .istore_n 1, 1, false, 0, 0, 0, 0, 0, []), (67, .iinc 2 1, 3, false, 0, 0, 0, 0, 0, []), (70, .goto (-56), 3, false, 10, 0, 0, 0, 0, []), (73, .return_, 1, false, 0, 0, 0, 0, 0, [])] i i lo st I L := rfl
set_option maxRecDepth 20000 in
theorem uX2_find (sh : mm_S) (call : mm_C) (Q : mm_Q) (n i : Nat) (lo st : List Value) (I : mm_I) (L : mm_L) : mm_v sh call tbX2_find Q (n + 1) i lo st I L = mm_vn sh call tbX2_find Q n [(0, .aload_n 0, 1, false, 0, 0, 0, 0, 0, []), (1, .iconst 1, 1, false, 0, 0, 0, 0, 0, []), (2, .putfield 27, 3, false, 13, 4, 2, 0, 0, []), (5, .aload_n 0, 1, false, 0, 0, 0, 0, 0, []), (6, .iconst 0, 1, false, 0, 0, 0, 0, 0, []), (7, .putfield 19, 3, false, 13, 2, 0, 0, 0, []), (10, .aload_n 0, 1, false, 0, 0, 0, 0, 0, []), (11, .lconst 0, 1, false, 0, 0, 0, 0, 0, []), (12, .putfield 23, 3, false, 13, 3, 1, 0, 0, []), (15, .aload_n 1, 1, false, 0, 0, 0, 0, 0, []), (16, .invokevirtual 31, 3, false, 6, 1, 1, 1, 0, []), (19, .istore_n 2, 1, false, 0, 0, 0, 0, 0, []), (20, .iload_n 2, 1, false, 0, 0, 0, 0, 0, []), (21, .istore_n 3, 1, false, 0, 0, 0, 0, 0, []), (22, .iload_n 3, 1, true, 0, 0, 0, 0, 0, []), (23, .ifCond .lt 23, 3, false, 26, 0, 0, 0, 0, []), (26, .iload_n 3, 1, false, 0, 0, 0, 0, 0, []), (27, .sipush 256, 3, false, 0, 0, 0, 0, 0, []), (30, .if_icmp .ge 16, 3, false, 26, 0, 0, 0, 0, []), (33, .aload_n 0, 1, false, 0, 0, 0, 0, 0, []), (34, .aload_n 1, 1, false, 0, 0, 0, 0, 0, []), (35, .iload_n 3, 1, false, 0, 0, 0, 0, 0, []), (36, .iload_n 2, 1, false, 0, 0, 0, 0, 0, []), (37, .invokevirtual 37, 3, false, 22, 4, 0, 13, 0, []), (40, .iinc 3 (-1), 3, false, 0, 0, 0, 0, 0, []), (43, .goto (-21), 3, false, 14, 0, 0, 0, 0, []), (46, .aload_n 1, 1, false, 0, 0, 0, 0, 0, []), (47, .getfield 41, 3, false, 1, 4, 0, 0, 0, []), (50, .ifCond .le 31, 3, false, 45, 0, 0, 0, 0, []), (53, .aload_n 0, 1, false, 0, 0, 0, 0, 0, []), (54, .getfield 11, 3, false, 13, 0, 17, 0, 0, []), (57, .iconst 0, 1, false, 0, 0, 0, 0, 0, []), (58, .laload, 1, false, 0, 0, 0, 0, 0, []), (59, .ldc2_w 42, 3, false, 0, 0, 0, 0, (-1), []), (62, .lcmp, 1, false, 0, 0, 0, 0, 0, []), (63, .ifCond .eq 18, 3, false, 45, 0, 0, 0, 0, []), (66, .aload_n 0, 1, false, 0, 0, 0, 0, 0, []), (67, .aload_n 0, 1, false, 0, 0, 0, 0, 0, []), (68, .getfield 11, 3, false, 13, 0, 17, 0, 0, []), (71, .iconst 0, 1, false, 0, 0, 0, 0, 0, []), (72, .laload, 1, false, 0, 0, 0, 0, 0, []), (73, .putfield 23, 3, false, 13, 3, 1, 0, 0, []), (76, .aload_n 0, 1, false, 0, 0, 0, 0, 0, []), (77, .aload_n 1, 1, false, 0, 0, 0, 0, 0, []), (78, .invokevirtual 44, 3, false, 25, 2, 0, 13, 0, []), (81, .return_, 1, false, 0, 0, 0, 0, 0, [])] i i lo st I L := rfl
set_option maxRecDepth 20000 in
theorem hX2_find (sh : mm_S) (call : mm_C) (Q : mm_Q) (n i : Nat) (lo st : List Value) (I : mm_I) (L : mm_L) : mm_h sh call tbX2_find Q n i lo st I L = mm_hn sh call tbX2_find Q n [(0, .aload_n 0, 1, false, 0, 0, 0, 0, 0, []), (1, .iconst 1, 1, false, 0, 0, 0, 0, 0, []), (2, .putfield 27, 3, false, 13, 4, 2, 0, 0, []), (5, .aload_n 0, 1, false, 0, 0, 0, 0, 0, []), (6, .iconst 0, 1, false, 0, 0, 0, 0, 0, []), (7, .putfield 19, 3, false, 13, 2, 0, 0, 0, []), (10, .aload_n 0, 1, false, 0, 0, 0, 0, 0, []), (11, .lconst 0, 1, false, 0, 0, 0, 0, 0, []), (12, .putfield 23, 3, false, 13, 3, 1, 0, 0, []), (15, .aload_n 1, 1, false, 0, 0, 0, 0, 0, []), (16, .invokevirtual 31, 3, false, 6, 1, 1, 1, 0, []), (19, .istore_n 2, 1, false, 0, 0, 0, 0, 0, []), (20, .iload_n 2, 1, false, 0, 0, 0, 0, 0, []), (21, .istore_n 3, 1, false, 0, 0, 0, 0, 0, []), (22, .iload_n 3, 1, true, 0, 0, 0, 0, 0, []), (23, .ifCond .lt 23, 3, false, 26, 0, 0, 0, 0, []), (26, .iload_n 3, 1, false, 0, 0, 0, 0, 0, []), (27, .sipush 256, 3, false, 0, 0, 0, 0, 0, []), (30, .if_icmp .ge 16, 3, false, 26, 0, 0, 0, 0, []), (33, .aload_n 0, 1, false, 0, 0, 0, 0, 0, []), (34, .aload_n 1, 1, false, 0, 0, 0, 0, 0, []), (35, .iload_n 3, 1, false, 0, 0, 0, 0, 0, []), (36, .iload_n 2, 1, false, 0, 0, 0, 0, 0, []), (37, .invokevirtual 37, 3, false, 22, 4, 0, 13, 0, []), (40, .iinc 3 (-1), 3, false, 0, 0, 0, 0, 0, []), (43, .goto (-21), 3, false, 14, 0, 0, 0, 0, []), (46, .aload_n 1, 1, false, 0, 0, 0, 0, 0, []), (47, .getfield 41, 3, false, 1, 4, 0, 0, 0, []), (50, .ifCond .le 31, 3, false, 45, 0, 0, 0, 0, []), (53, .aload_n 0, 1, false, 0, 0, 0, 0, 0, []), (54, .getfield 11, 3, false, 13, 0, 17, 0, 0, []), (57, .iconst 0, 1, false, 0, 0, 0, 0, 0, []), (58, .laload, 1, false, 0, 0, 0, 0, 0, []), (59, .ldc2_w 42, 3, false, 0, 0, 0, 0, (-1), []), (62, .lcmp, 1, false, 0, 0, 0, 0, 0, []), (63, .ifCond .eq 18, 3, false, 45, 0, 0, 0, 0, []), (66, .aload_n 0, 1, false, 0, 0, 0, 0, 0, []), (67, .aload_n 0, 1, false, 0, 0, 0, 0, 0, []), (68, .getfield 11, 3, false, 13, 0, 17, 0, 0, []), (71, .iconst 0, 1, false, 0, 0, 0, 0, 0, []), (72, .laload, 1, false, 0, 0, 0, 0, 0, []), (73, .putfield 23, 3, false, 13, 3, 1, 0, 0, []), (76, .aload_n 0, 1, false, 0, 0, 0, 0, 0, []), (77, .aload_n 1, 1, false, 0, 0, 0, 0, 0, []), (78, .invokevirtual 44, 3, false, 25, 2, 0, 13, 0, []), (81, .return_, 1, false, 0, 0, 0, 0, 0, [])] i i lo st I L := rfl
set_option maxRecDepth 20000 in
theorem uX2_fillRest (sh : mm_S) (call : mm_C) (Q : mm_Q) (n i : Nat) (lo st : List Value) (I : mm_I) (L : mm_L) : mm_v sh call tbX2_fillRest Q (n + 1) i lo st I L = mm_vn sh call tbX2_fillRest Q n [(0, .aload_n 1, 1, false, 0, 0, 0, 0, 0, []), (1, .iload_n 2, 1, false, 0, 0, 0, 0, 0, []), (2, .invokevirtual 48, 3, false, 9, 2, 1, 1, 0, []), (5, .istore 4, 2, false, 0, 0, 0, 0, 0, []), (7, .iconst 0, 1, false, 0, 0, 0, 0, 0, []), (8, .istore 5, 2, false, 0, 0, 0, 0, 0, []), (10, .iload 5, 2, true, 0, 0, 0, 0, 0, []), (12, .aload_n 1, 1, false, 0, 0, 0, 0, 0, []), (13, .getfield 41, 3, false, 1, 4, 0, 0, 0, []), (16, .if_icmp .ge 84, 3, false, 55, 0, 0, 0, 0, []), (19, .iload 5, 2, false, 0, 0, 0, 0, 0, []), (21, .bipush 8, 2, false, 0, 0, 0, 0, 0, []), (23, .if_icmp .ge 77, 3, false, 55, 0, 0, 0, 0, []), (26, .iload_n 2, 1, false, 0, 0, 0, 0, 0, []), (27, .iload_n 3, 1, false, 0, 0, 0, 0, 0, []), (28, .if_icmp .ne 19, 3, false, 26, 0, 0, 0, 0, []), (31, .aload_n 0, 1, false, 0, 0, 0, 0, 0, []), (32, .getfield 11, 3, false, 13, 0, 17, 0, 0, []), (35, .iload_n 2, 1, false, 0, 0, 0, 0, 0, []), (36, .bipush 8, 2, false, 0, 0, 0, 0, 0, []), (38, .imul, 1, false, 0, 0, 0, 0, 0, []), (39, .iload 5, 2, false, 0, 0, 0, 0, 0, []), (41, .iadd, 1, false, 0, 0, 0, 0, 0, []), (42, .lconst 0, 1, false, 0, 0, 0, 0, 0, []), (43, .lastore, 1, false, 0, 0, 0, 0, 0, []), (44, .goto 50, 3, false, 53, 0, 0, 0, 0, []), (47, .iload_n 2, 1, false, 0, 0, 0, 0, 0, []), (48, .ifCond .eq 12, 3, false, 32, 0, 0, 0, 0, []), (51, .iload_n 2, 1, false, 0, 0, 0, 0, 0, []), (52, .iload 5, 2, false, 0, 0, 0, 0, 0, []), (54, .invokestatic 52, 3, false, 62, 2, 1, 0, 0, []), (57, .ifCond .eq 37, 3, false, 53, 0, 0, 0, 0, []), (60, .aload_n 0, 1, false, 0, 0, 0, 0, 0, []), (61, .aload_n 1, 1, false, 0, 0, 0, 0, 0, []), (62, .iload_n 2, 1, false, 0, 0, 0, 0, 0, []), (63, .iload 5, 2, false, 0, 0, 0, 0, 0, []), (65, .iload 4, 2, false, 0, 0, 0, 0, 0, []), (67, .invokevirtual 56, 3, false, 23, 5, 1, 13, 0, []), (70, .istore 6, 2, false, 0, 0, 0, 0, 0, []), (72, .aload_n 0, 1, false, 0, 0, 0, 0, 0, []), (73, .getfield 11, 3, false, 13, 0, 17, 0, 0, []), (76, .iload_n 2, 1, false, 0, 0, 0, 0, 0, []), (77, .bipush 8, 2, false, 0, 0, 0, 0, 0, []), (79, .imul, 1, false, 0, 0, 0, 0, 0, []), (80, .iload 5, 2, false, 0, 0, 0, 0, 0, []), (82, .iadd, 1, false, 0, 0, 0, 0, 0, []), (83, .aload_n 0, 1, false, 0, 0, 0, 0, 0, []), (84, .aload_n 1, 1, false, 0, 0, 0, 0, 0, []), (85, .iload_n 2, 1, false, 0, 0, 0, 0, 0, []), (86, .iload 5, 2, false, 0, 0, 0, 0, 0, []), (88, .iload 6, 2, false, 0, 0, 0, 0, 0, []), (90, .invokevirtual 60, 3, false, 24, 5, 2, 13, 0, []), (93, .lastore, 1, false, 0, 0, 0, 0, 0, []), (94, .iinc 5 1, 3, false, 0, 0, 0, 0, 0, []), (97, .goto (-87), 3, false, 6, 0, 0, 0, 0, []), (100, .return_, 1, false, 0, 0, 0, 0, 0, [])] i i lo st I L := rfl
set_option maxRecDepth 20000 in
theorem hX2_fillRest (sh : mm_S) (call : mm_C) (Q : mm_Q) (n i : Nat) (lo st : List Value) (I : mm_I) (L : mm_L) : mm_h sh call tbX2_fillRest Q n i lo st I L = mm_hn sh call tbX2_fillRest Q n [(0, .aload_n 1, 1, false, 0, 0, 0, 0, 0, []), (1, .iload_n 2, 1, false, 0, 0, 0, 0, 0, []), (2, .invokevirtual 48, 3, false, 9, 2, 1, 1, 0, []), (5, .istore 4, 2, false, 0, 0, 0, 0, 0, []), (7, .iconst 0, 1, false, 0, 0, 0, 0, 0, []), (8, .istore 5, 2, false, 0, 0, 0, 0, 0, []), (10, .iload 5, 2, true, 0, 0, 0, 0, 0, []), (12, .aload_n 1, 1, false, 0, 0, 0, 0, 0, []), (13, .getfield 41, 3, false, 1, 4, 0, 0, 0, []), (16, .if_icmp .ge 84, 3, false, 55, 0, 0, 0, 0, []), (19, .iload 5, 2, false, 0, 0, 0, 0, 0, []), (21, .bipush 8, 2, false, 0, 0, 0, 0, 0, []), (23, .if_icmp .ge 77, 3, false, 55, 0, 0, 0, 0, []), (26, .iload_n 2, 1, false, 0, 0, 0, 0, 0, []), (27, .iload_n 3, 1, false, 0, 0, 0, 0, 0, []), (28, .if_icmp .ne 19, 3, false, 26, 0, 0, 0, 0, []), (31, .aload_n 0, 1, false, 0, 0, 0, 0, 0, []), (32, .getfield 11, 3, false, 13, 0, 17, 0, 0, []), (35, .iload_n 2, 1, false, 0, 0, 0, 0, 0, []), (36, .bipush 8, 2, false, 0, 0, 0, 0, 0, []), (38, .imul, 1, false, 0, 0, 0, 0, 0, []), (39, .iload 5, 2, false, 0, 0, 0, 0, 0, []), (41, .iadd, 1, false, 0, 0, 0, 0, 0, []), (42, .lconst 0, 1, false, 0, 0, 0, 0, 0, []), (43, .lastore, 1, false, 0, 0, 0, 0, 0, []), (44, .goto 50, 3, false, 53, 0, 0, 0, 0, []), (47, .iload_n 2, 1, false, 0, 0, 0, 0, 0, []), (48, .ifCond .eq 12, 3, false, 32, 0, 0, 0, 0, []), (51, .iload_n 2, 1, false, 0, 0, 0, 0, 0, []), (52, .iload 5, 2, false, 0, 0, 0, 0, 0, []), (54, .invokestatic 52, 3, false, 62, 2, 1, 0, 0, []), (57, .ifCond .eq 37, 3, false, 53, 0, 0, 0, 0, []), (60, .aload_n 0, 1, false, 0, 0, 0, 0, 0, []), (61, .aload_n 1, 1, false, 0, 0, 0, 0, 0, []), (62, .iload_n 2, 1, false, 0, 0, 0, 0, 0, []), (63, .iload 5, 2, false, 0, 0, 0, 0, 0, []), (65, .iload 4, 2, false, 0, 0, 0, 0, 0, []), (67, .invokevirtual 56, 3, false, 23, 5, 1, 13, 0, []), (70, .istore 6, 2, false, 0, 0, 0, 0, 0, []), (72, .aload_n 0, 1, false, 0, 0, 0, 0, 0, []), (73, .getfield 11, 3, false, 13, 0, 17, 0, 0, []), (76, .iload_n 2, 1, false, 0, 0, 0, 0, 0, []), (77, .bipush 8, 2, false, 0, 0, 0, 0, 0, []), (79, .imul, 1, false, 0, 0, 0, 0, 0, []), (80, .iload 5, 2, false, 0, 0, 0, 0, 0, []), (82, .iadd, 1, false, 0, 0, 0, 0, 0, []), (83, .aload_n 0, 1, false, 0, 0, 0, 0, 0, []), (84, .aload_n 1, 1, false, 0, 0, 0, 0, 0, []), (85, .iload_n 2, 1, false, 0, 0, 0, 0, 0, []), (86, .iload 5, 2, false, 0, 0, 0, 0, 0, []), (88, .iload 6, 2, false, 0, 0, 0, 0, 0, []), (90, .invokevirtual 60, 3, false, 24, 5, 2, 13, 0, []), (93, .lastore, 1, false, 0, 0, 0, 0, 0, []), (94, .iinc 5 1, 3, false, 0, 0, 0, 0, 0, []), (97, .goto (-87), 3, false, 6, 0, 0, 0, 0, []), (100, .return_, 1, false, 0, 0, 0, 0, 0, [])] i i lo st I L := rfl
set_option maxRecDepth 20000 in
theorem uX2_nextBehind (sh : mm_S) (call : mm_C) (Q : mm_Q) (n i : Nat) (lo st : List Value) (I : mm_I) (L : mm_L) : mm_v sh call tbX2_nextBehind Q (n + 1) i lo st I L = mm_vn sh call tbX2_nextBehind Q n [(0, .ldc2_w 42, 3, false, 0, 0, 0, 0, (-1), []), (3, .lstore 5, 2, false, 0, 0, 0, 0, 0, []), (5, .iconst (-1), 1, false, 0, 0, 0, 0, 0, []), (6, .istore 7, 2, false, 0, 0, 0, 0, 0, []), (8, .iconst 0, 1, false, 0, 0, 0, 0, 0, []), (9, .istore 8, 2, false, 0, 0, 0, 0, 0, []), (11, .iload 8, 2, true, 0, 0, 0, 0, 0, []), (13, .aload_n 1, 1, false, 0, 0, 0, 0, 0, []), (14, .getfield 41, 3, false, 1, 4, 0, 0, 0, []), (17, .if_icmp .ge 61, 3, false, 38, 0, 0, 0, 0, []), (20, .iload 4, 2, false, 0, 0, 0, 0, 0, []), (22, .iload 8, 2, false, 0, 0, 0, 0, 0, []), (24, .invokestatic 52, 3, false, 62, 2, 1, 0, 0, []), (27, .ifCond .eq 45, 3, false, 36, 0, 0, 0, 0, []), (30, .aload_n 0, 1, false, 0, 0, 0, 0, 0, []), (31, .aload_n 1, 1, false, 0, 0, 0, 0, 0, []), (32, .iload_n 2, 1, false, 0, 0, 0, 0, 0, []), (33, .iload_n 3, 1, false, 0, 0, 0, 0, 0, []), (34, .iload 8, 2, false, 0, 0, 0, 0, 0, []), (36, .invokevirtual 60, 3, false, 24, 5, 2, 13, 0, []), (39, .lstore 9, 2, false, 0, 0, 0, 0, 0, []), (41, .lload 9, 2, false, 0, 0, 0, 0, 0, []), (43, .ldc2_w 42, 3, false, 0, 0, 0, 0, (-1), []), (46, .lcmp, 1, false, 0, 0, 0, 0, 0, []), (47, .ifCond .eq 25, 3, false, 36, 0, 0, 0, 0, []), (50, .iload 7, 2, false, 0, 0, 0, 0, 0, []), (52, .iconst (-1), 1, false, 0, 0, 0, 0, 0, []), (53, .if_icmp .eq 11, 3, false, 32, 0, 0, 0, 0, []), (56, .lload 9, 2, false, 0, 0, 0, 0, 0, []), (58, .lload 5, 2, false, 0, 0, 0, 0, 0, []), (60, .lcmp, 1, false, 0, 0, 0, 0, 0, []), (61, .ifCond .ge 11, 3, false, 36, 0, 0, 0, 0, []), (64, .lload 9, 2, false, 0, 0, 0, 0, 0, []), (66, .lstore 5, 2, false, 0, 0, 0, 0, 0, []), (68, .iload 8, 2, false, 0, 0, 0, 0, 0, []), (70, .istore 7, 2, false, 0, 0, 0, 0, 0, []), (72, .iinc 8 1, 3, false, 0, 0, 0, 0, 0, []), (75, .goto (-64), 3, false, 6, 0, 0, 0, 0, []), (78, .iload 7, 2, false, 0, 0, 0, 0, 0, []), (80, .ireturn, 1, false, 0, 0, 0, 0, 0, [])] i i lo st I L := rfl
set_option maxRecDepth 20000 in
theorem hX2_nextBehind (sh : mm_S) (call : mm_C) (Q : mm_Q) (n i : Nat) (lo st : List Value) (I : mm_I) (L : mm_L) : mm_h sh call tbX2_nextBehind Q n i lo st I L = mm_hn sh call tbX2_nextBehind Q n [(0, .ldc2_w 42, 3, false, 0, 0, 0, 0, (-1), []), (3, .lstore 5, 2, false, 0, 0, 0, 0, 0, []), (5, .iconst (-1), 1, false, 0, 0, 0, 0, 0, []), (6, .istore 7, 2, false, 0, 0, 0, 0, 0, []), (8, .iconst 0, 1, false, 0, 0, 0, 0, 0, []), (9, .istore 8, 2, false, 0, 0, 0, 0, 0, []), (11, .iload 8, 2, true, 0, 0, 0, 0, 0, []), (13, .aload_n 1, 1, false, 0, 0, 0, 0, 0, []), (14, .getfield 41, 3, false, 1, 4, 0, 0, 0, []), (17, .if_icmp .ge 61, 3, false, 38, 0, 0, 0, 0, []), (20, .iload 4, 2, false, 0, 0, 0, 0, 0, []), (22, .iload 8, 2, false, 0, 0, 0, 0, 0, []), (24, .invokestatic 52, 3, false, 62, 2, 1, 0, 0, []), (27, .ifCond .eq 45, 3, false, 36, 0, 0, 0, 0, []), (30, .aload_n 0, 1, false, 0, 0, 0, 0, 0, []), (31, .aload_n 1, 1, false, 0, 0, 0, 0, 0, []), (32, .iload_n 2, 1, false, 0, 0, 0, 0, 0, []), (33, .iload_n 3, 1, false, 0, 0, 0, 0, 0, []), (34, .iload 8, 2, false, 0, 0, 0, 0, 0, []), (36, .invokevirtual 60, 3, false, 24, 5, 2, 13, 0, []), (39, .lstore 9, 2, false, 0, 0, 0, 0, 0, []), (41, .lload 9, 2, false, 0, 0, 0, 0, 0, []), (43, .ldc2_w 42, 3, false, 0, 0, 0, 0, (-1), []), (46, .lcmp, 1, false, 0, 0, 0, 0, 0, []), (47, .ifCond .eq 25, 3, false, 36, 0, 0, 0, 0, []), (50, .iload 7, 2, false, 0, 0, 0, 0, 0, []), (52, .iconst (-1), 1, false, 0, 0, 0, 0, 0, []), (53, .if_icmp .eq 11, 3, false, 32, 0, 0, 0, 0, []), (56, .lload 9, 2, false, 0, 0, 0, 0, 0, []), (58, .lload 5, 2, false, 0, 0, 0, 0, 0, []), (60, .lcmp, 1, false, 0, 0, 0, 0, 0, []), (61, .ifCond .ge 11, 3, false, 36, 0, 0, 0, 0, []), (64, .lload 9, 2, false, 0, 0, 0, 0, 0, []), (66, .lstore 5, 2, false, 0, 0, 0, 0, 0, []), (68, .iload 8, 2, false, 0, 0, 0, 0, 0, []), (70, .istore 7, 2, false, 0, 0, 0, 0, 0, []), (72, .iinc 8 1, 3, false, 0, 0, 0, 0, 0, []), (75, .goto (-64), 3, false, 6, 0, 0, 0, 0, []), (78, .iload 7, 2, false, 0, 0, 0, 0, 0, []), (80, .ireturn, 1, false, 0, 0, 0, 0, 0, [])] i i lo st I L := rfl
set_option maxRecDepth 20000 in
theorem uX2_restBy (sh : mm_S) (call : mm_C) (Q : mm_Q) (n i : Nat) (lo st : List Value) (I : mm_I) (L : mm_L) : mm_v sh call tbX2_restBy Q (n + 1) i lo st I L = mm_vn sh call tbX2_restBy Q n [(0, .iload 4, 2, false, 0, 0, 0, 0, 0, []), (2, .ifCond .lt 10, 3, false, 5, 0, 0, 0, 0, []), (5, .iload 4, 2, false, 0, 0, 0, 0, 0, []), (7, .bipush 8, 2, false, 0, 0, 0, 0, 0, []), (9, .if_icmp .lt 7, 3, false, 7, 0, 0, 0, 0, []), (12, .ldc2_w 42, 3, false, 0, 0, 0, 0, (-1), []), (15, .lreturn, 1, false, 0, 0, 0, 0, 0, []), (16, .iload_n 2, 1, false, 0, 0, 0, 0, 0, []), (17, .iconst 1, 1, false, 0, 0, 0, 0, 0, []), (18, .iload 4, 2, false, 0, 0, 0, 0, 0, []), (20, .ishl, 1, false, 0, 0, 0, 0, 0, []), (21, .ior, 1, false, 0, 0, 0, 0, 0, []), (22, .bipush 8, 2, false, 0, 0, 0, 0, 0, []), (24, .imul, 1, false, 0, 0, 0, 0, 0, []), (25, .iload 4, 2, false, 0, 0, 0, 0, 0, []), (27, .iadd, 1, false, 0, 0, 0, 0, 0, []), (28, .istore 5, 2, false, 0, 0, 0, 0, 0, []), (30, .iload 5, 2, false, 0, 0, 0, 0, 0, []), (32, .ifCond .lt 27, 3, false, 31, 0, 0, 0, 0, []), (35, .iload 5, 2, false, 0, 0, 0, 0, 0, []), (37, .aload_n 0, 1, false, 0, 0, 0, 0, 0, []), (38, .getfield 11, 3, false, 13, 0, 17, 0, 0, []), (41, .arraylength, 1, false, 0, 0, 0, 0, 0, []), (42, .if_icmp .ge 17, 3, false, 31, 0, 0, 0, 0, []), (45, .aload_n 0, 1, false, 0, 0, 0, 0, 0, []), (46, .getfield 11, 3, false, 13, 0, 17, 0, 0, []), (49, .iload 5, 2, false, 0, 0, 0, 0, 0, []), (51, .laload, 1, false, 0, 0, 0, 0, 0, []), (52, .ldc2_w 42, 3, false, 0, 0, 0, 0, (-1), []), (55, .lcmp, 1, false, 0, 0, 0, 0, 0, []), (56, .ifCond .ne 7, 3, false, 33, 0, 0, 0, 0, []), (59, .ldc2_w 42, 3, false, 0, 0, 0, 0, (-1), []), (62, .lreturn, 1, false, 0, 0, 0, 0, 0, []), (63, .aload_n 0, 1, false, 0, 0, 0, 0, 0, []), (64, .getfield 11, 3, false, 13, 0, 17, 0, 0, []), (67, .iload 5, 2, false, 0, 0, 0, 0, 0, []), (69, .laload, 1, false, 0, 0, 0, 0, 0, []), (70, .iload_n 2, 1, false, 0, 0, 0, 0, 0, []), (71, .ifCond .ne 7, 3, false, 41, 0, 0, 0, 0, []), (74, .lconst 0, 1, false, 0, 0, 0, 0, 0, []), (75, .goto 10, 3, false, 45, 0, 0, 0, 0, []), (78, .aload_n 1, 1, false, 0, 0, 0, 0, 0, []), (79, .iload_n 3, 1, false, 0, 0, 0, 0, 0, []), (80, .iload 4, 2, false, 0, 0, 0, 0, 0, []), (82, .invokevirtual 64, 3, false, 4, 3, 2, 1, 0, []), (85, .ladd, 1, false, 0, 0, 0, 0, 0, []), (86, .lreturn, 1, false, 0, 0, 0, 0, 0, [])] i i lo st I L := rfl
set_option maxRecDepth 20000 in
theorem uX2_follow (sh : mm_S) (call : mm_C) (Q : mm_Q) (n i : Nat) (lo st : List Value) (I : mm_I) (L : mm_L) : mm_v sh call tbX2_follow Q (n + 1) i lo st I L = mm_vn sh call tbX2_follow Q n [(0, .iconst 0, 1, false, 0, 0, 0, 0, 0, []), (1, .istore_n 2, 1, false, 0, 0, 0, 0, 0, []), (2, .iconst 0, 1, false, 0, 0, 0, 0, 0, []), (3, .istore_n 3, 1, false, 0, 0, 0, 0, 0, []), (4, .iconst 0, 1, false, 0, 0, 0, 0, 0, []), (5, .istore 4, 2, false, 0, 0, 0, 0, 0, []), (7, .iload 4, 2, true, 0, 0, 0, 0, 0, []), (9, .aload_n 1, 1, false, 0, 0, 0, 0, 0, []), (10, .getfield 41, 3, false, 1, 4, 0, 0, 0, []), (13, .if_icmp .ge 64, 3, false, 46, 0, 0, 0, 0, []), (16, .iload 4, 2, false, 0, 0, 0, 0, 0, []), (18, .bipush 8, 2, false, 0, 0, 0, 0, 0, []), (20, .if_icmp .ge 57, 3, false, 46, 0, 0, 0, 0, []), (23, .aload_n 0, 1, false, 0, 0, 0, 0, 0, []), (24, .aload_n 1, 1, false, 0, 0, 0, 0, 0, []), (25, .iload_n 2, 1, false, 0, 0, 0, 0, 0, []), (26, .iload_n 3, 1, false, 0, 0, 0, 0, 0, []), (27, .aload_n 1, 1, false, 0, 0, 0, 0, 0, []), (28, .iload_n 2, 1, false, 0, 0, 0, 0, 0, []), (29, .invokevirtual 48, 3, false, 9, 2, 1, 1, 0, []), (32, .invokevirtual 56, 3, false, 23, 5, 1, 13, 0, []), (35, .istore 5, 2, false, 0, 0, 0, 0, 0, []), (37, .iload 5, 2, false, 0, 0, 0, 0, 0, []), (39, .iconst (-1), 1, false, 0, 0, 0, 0, 0, []), (40, .if_icmp .ne 4, 3, false, 26, 0, 0, 0, 0, []), (43, .return_, 1, false, 0, 0, 0, 0, 0, []), (44, .aload_n 0, 1, false, 0, 0, 0, 0, 0, []), (45, .getfield 15, 3, false, 13, 1, 18, 0, 0, []), (48, .iload 4, 2, false, 0, 0, 0, 0, 0, []), (50, .iload 5, 2, false, 0, 0, 0, 0, 0, []), (52, .iastore, 1, false, 0, 0, 0, 0, 0, []), (53, .aload_n 0, 1, false, 0, 0, 0, 0, 0, []), (54, .iload 4, 2, false, 0, 0, 0, 0, 0, []), (56, .iconst 1, 1, false, 0, 0, 0, 0, 0, []), (57, .iadd, 1, false, 0, 0, 0, 0, 0, []), (58, .putfield 19, 3, false, 13, 2, 0, 0, 0, []), (61, .iload_n 2, 1, false, 0, 0, 0, 0, 0, []), (62, .iconst 1, 1, false, 0, 0, 0, 0, 0, []), (63, .iload 5, 2, false, 0, 0, 0, 0, 0, []), (65, .ishl, 1, false, 0, 0, 0, 0, 0, []), (66, .ior, 1, false, 0, 0, 0, 0, 0, []), (67, .istore_n 2, 1, false, 0, 0, 0, 0, 0, []), (68, .iload 5, 2, false, 0, 0, 0, 0, 0, []), (70, .istore_n 3, 1, false, 0, 0, 0, 0, 0, []), (71, .iinc 4 1, 3, false, 0, 0, 0, 0, 0, []), (74, .goto (-67), 3, false, 6, 0, 0, 0, 0, []), (77, .return_, 1, false, 0, 0, 0, 0, 0, [])] i i lo st I L := rfl
set_option maxRecDepth 20000 in
theorem hX2_follow (sh : mm_S) (call : mm_C) (Q : mm_Q) (n i : Nat) (lo st : List Value) (I : mm_I) (L : mm_L) : mm_h sh call tbX2_follow Q n i lo st I L = mm_hn sh call tbX2_follow Q n [(0, .iconst 0, 1, false, 0, 0, 0, 0, 0, []), (1, .istore_n 2, 1, false, 0, 0, 0, 0, 0, []), (2, .iconst 0, 1, false, 0, 0, 0, 0, 0, []), (3, .istore_n 3, 1, false, 0, 0, 0, 0, 0, []), (4, .iconst 0, 1, false, 0, 0, 0, 0, 0, []), (5, .istore 4, 2, false, 0, 0, 0, 0, 0, []), (7, .iload 4, 2, true, 0, 0, 0, 0, 0, []), (9, .aload_n 1, 1, false, 0, 0, 0, 0, 0, []), (10, .getfield 41, 3, false, 1, 4, 0, 0, 0, []), (13, .if_icmp .ge 64, 3, false, 46, 0, 0, 0, 0, []), (16, .iload 4, 2, false, 0, 0, 0, 0, 0, []), (18, .bipush 8, 2, false, 0, 0, 0, 0, 0, []), (20, .if_icmp .ge 57, 3, false, 46, 0, 0, 0, 0, []), (23, .aload_n 0, 1, false, 0, 0, 0, 0, 0, []), (24, .aload_n 1, 1, false, 0, 0, 0, 0, 0, []), (25, .iload_n 2, 1, false, 0, 0, 0, 0, 0, []), (26, .iload_n 3, 1, false, 0, 0, 0, 0, 0, []), (27, .aload_n 1, 1, false, 0, 0, 0, 0, 0, []), (28, .iload_n 2, 1, false, 0, 0, 0, 0, 0, []), (29, .invokevirtual 48, 3, false, 9, 2, 1, 1, 0, []), (32, .invokevirtual 56, 3, false, 23, 5, 1, 13, 0, []), (35, .istore 5, 2, false, 0, 0, 0, 0, 0, []), (37, .iload 5, 2, false, 0, 0, 0, 0, 0, []), (39, .iconst (-1), 1, false, 0, 0, 0, 0, 0, []), (40, .if_icmp .ne 4, 3, false, 26, 0, 0, 0, 0, []), (43, .return_, 1, false, 0, 0, 0, 0, 0, []), (44, .aload_n 0, 1, false, 0, 0, 0, 0, 0, []), (45, .getfield 15, 3, false, 13, 1, 18, 0, 0, []), (48, .iload 4, 2, false, 0, 0, 0, 0, 0, []), (50, .iload 5, 2, false, 0, 0, 0, 0, 0, []), (52, .iastore, 1, false, 0, 0, 0, 0, 0, []), (53, .aload_n 0, 1, false, 0, 0, 0, 0, 0, []), (54, .iload 4, 2, false, 0, 0, 0, 0, 0, []), (56, .iconst 1, 1, false, 0, 0, 0, 0, 0, []), (57, .iadd, 1, false, 0, 0, 0, 0, 0, []), (58, .putfield 19, 3, false, 13, 2, 0, 0, 0, []), (61, .iload_n 2, 1, false, 0, 0, 0, 0, 0, []), (62, .iconst 1, 1, false, 0, 0, 0, 0, 0, []), (63, .iload 5, 2, false, 0, 0, 0, 0, 0, []), (65, .ishl, 1, false, 0, 0, 0, 0, 0, []), (66, .ior, 1, false, 0, 0, 0, 0, 0, []), (67, .istore_n 2, 1, false, 0, 0, 0, 0, 0, []), (68, .iload 5, 2, false, 0, 0, 0, 0, 0, []), (70, .istore_n 3, 1, false, 0, 0, 0, 0, 0, []), (71, .iinc 4 1, 3, false, 0, 0, 0, 0, 0, []), (74, .goto (-67), 3, false, 6, 0, 0, 0, 0, []), (77, .return_, 1, false, 0, 0, 0, 0, 0, [])] i i lo st I L := rfl
set_option maxRecDepth 20000 in
theorem uX3_isWrong (sh : mm_S) (call : mm_C) (Q : mm_Q) (n i : Nat) (lo st : List Value) (I : mm_I) (L : mm_L) : mm_v sh call tbX3_isWrong Q (n + 1) i lo st I L = mm_vn sh call tbX3_isWrong Q n [(0, .aload_n 0, 1, false, 0, 0, 0, 0, 0, []), (1, .getfield 24, 3, false, 7, 5, 0, 0, 0, []), (4, .ifCond .eq 7, 3, false, 5, 0, 0, 0, 0, []), (7, .iconst 1, 1, false, 0, 0, 0, 0, 0, []), (8, .goto 4, 3, false, 6, 0, 0, 0, 0, []), (11, .iconst 0, 1, false, 0, 0, 0, 0, 0, []), (12, .ireturn, 1, false, 0, 0, 1, 0, 0, [])] i i lo st I L := rfl
set_option maxRecDepth 20000 in
theorem uX3_hasTold (sh : mm_S) (call : mm_C) (Q : mm_Q) (n i : Nat) (lo st : List Value) (I : mm_I) (L : mm_L) : mm_v sh call tbX3_hasTold Q (n + 1) i lo st I L = mm_vn sh call tbX3_hasTold Q n [(0, .iload_n 1, 1, false, 0, 0, 0, 0, 0, []), (1, .ifCond .lt 22, 3, false, 12, 0, 0, 0, 0, []), (4, .iload_n 1, 1, false, 0, 0, 0, 0, 0, []), (5, .bipush 8, 2, false, 0, 0, 0, 0, 0, []), (7, .if_icmp .ge 16, 3, false, 12, 0, 0, 0, 0, []), (10, .aload_n 0, 1, false, 0, 0, 0, 0, 0, []), (11, .getfield 9, 3, false, 7, 0, 11, 0, 0, []), (14, .iload_n 1, 1, false, 0, 0, 0, 0, 0, []), (15, .iaload, 1, false, 0, 0, 0, 0, 0, []), (16, .ifCond .lt 7, 3, false, 12, 0, 0, 0, 0, []), (19, .iconst 1, 1, false, 0, 0, 0, 0, 0, []), (20, .goto 4, 3, false, 13, 0, 0, 0, 0, []), (23, .iconst 0, 1, false, 0, 0, 0, 0, 0, []), (24, .ireturn, 1, false, 0, 0, 1, 0, 0, [])] i i lo st I L := rfl
set_option maxRecDepth 20000 in
theorem uX3_goThrough (sh : mm_S) (call : mm_C) (Q : mm_Q) (n i : Nat) (lo st : List Value) (I : mm_I) (L : mm_L) : mm_v sh call tbX3_goThrough Q (n + 1) i lo st I L = mm_vn sh call tbX3_goThrough Q n [(0, .aload_n 0, 1, false, 0, 0, 0, 0, 0, []), (1, .invokevirtual 28, 3, false, 29, 1, 0, 7, 0, []), (4, .iconst 0, 1, false, 0, 0, 0, 0, 0, []), (5, .istore 4, 2, false, 0, 0, 0, 0, 0, []), (7, .iload 4, 2, true, 0, 0, 0, 0, 0, []), (9, .iload_n 3, 1, false, 0, 0, 0, 0, 0, []), (10, .if_icmp .ge 61, 3, false, 37, 0, 0, 0, 0, []), (13, .iload 4, 2, false, 0, 0, 0, 0, 0, []), (15, .aload_n 2, 1, false, 0, 0, 0, 0, 0, []), (16, .arraylength, 1, false, 0, 0, 0, 0, 0, []), (17, .if_icmp .ge 54, 3, false, 37, 0, 0, 0, 0, []), (20, .aload_n 0, 1, false, 0, 0, 0, 0, 0, []), (21, .getfield 24, 3, false, 7, 5, 0, 0, 0, []), (24, .ifCond .ne 47, 3, false, 37, 0, 0, 0, 0, []), (27, .aload_n 0, 1, false, 0, 0, 0, 0, 0, []), (28, .aload_n 0, 1, false, 0, 0, 0, 0, 0, []), (29, .aload_n 1, 1, false, 0, 0, 0, 0, 0, []), (30, .aload_n 2, 1, false, 0, 0, 0, 0, 0, []), (31, .iload 4, 2, false, 0, 0, 0, 0, 0, []), (33, .iaload, 1, false, 0, 0, 0, 0, 0, []), (34, .invokevirtual 31, 3, false, 30, 3, 1, 7, 0, []), (37, .putfield 24, 3, false, 7, 5, 0, 0, 0, []), (40, .aload_n 0, 1, false, 0, 0, 0, 0, 0, []), (41, .getfield 24, 3, false, 7, 5, 0, 0, 0, []), (44, .ifCond .ne 15, 3, false, 32, 0, 0, 0, 0, []), (47, .aload_n 0, 1, false, 0, 0, 0, 0, 0, []), (48, .aload_n 1, 1, false, 0, 0, 0, 0, 0, []), (49, .aload_n 2, 1, false, 0, 0, 0, 0, 0, []), (50, .iload 4, 2, false, 0, 0, 0, 0, 0, []), (52, .iaload, 1, false, 0, 0, 0, 0, 0, []), (53, .invokevirtual 35, 3, false, 32, 3, 0, 7, 0, []), (56, .goto 9, 3, false, 35, 0, 0, 0, 0, []), (59, .aload_n 0, 1, false, 0, 0, 0, 0, 0, []), (60, .iload 4, 2, false, 0, 0, 0, 0, 0, []), (62, .putfield 39, 3, false, 7, 4, 0, 0, 0, []), (65, .iinc 4 1, 3, false, 0, 0, 0, 0, 0, []), (68, .goto (-61), 3, false, 4, 0, 0, 0, 0, []), (71, .aload_n 0, 1, false, 0, 0, 0, 0, 0, []), (72, .getfield 24, 3, false, 7, 5, 0, 0, 0, []), (75, .ifCond .ne 21, 3, false, 49, 0, 0, 0, 0, []), (78, .aload_n 0, 1, false, 0, 0, 0, 0, 0, []), (79, .getfield 42, 3, false, 7, 11, 0, 0, 0, []), (82, .ifCond .le 14, 3, false, 49, 0, 0, 0, 0, []), (85, .aload_n 0, 1, false, 0, 0, 0, 0, 0, []), (86, .bipush 7, 2, false, 0, 0, 0, 0, 0, []), (88, .putfield 24, 3, false, 7, 5, 0, 0, 0, []), (91, .aload_n 0, 1, false, 0, 0, 0, 0, 0, []), (92, .iload_n 3, 1, false, 0, 0, 0, 0, 0, []), (93, .putfield 39, 3, false, 7, 4, 0, 0, 0, []), (96, .return_, 1, false, 0, 0, 0, 0, 0, [])] i i lo st I L := rfl
set_option maxRecDepth 20000 in
theorem hX3_goThrough (sh : mm_S) (call : mm_C) (Q : mm_Q) (n i : Nat) (lo st : List Value) (I : mm_I) (L : mm_L) : mm_h sh call tbX3_goThrough Q n i lo st I L = mm_hn sh call tbX3_goThrough Q n [(0, .aload_n 0, 1, false, 0, 0, 0, 0, 0, []), (1, .invokevirtual 28, 3, false, 29, 1, 0, 7, 0, []), (4, .iconst 0, 1, false, 0, 0, 0, 0, 0, []), (5, .istore 4, 2, false, 0, 0, 0, 0, 0, []), (7, .iload 4, 2, true, 0, 0, 0, 0, 0, []), (9, .iload_n 3, 1, false, 0, 0, 0, 0, 0, []), (10, .if_icmp .ge 61, 3, false, 37, 0, 0, 0, 0, []), (13, .iload 4, 2, false, 0, 0, 0, 0, 0, []), (15, .aload_n 2, 1, false, 0, 0, 0, 0, 0, []), (16, .arraylength, 1, false, 0, 0, 0, 0, 0, []), (17, .if_icmp .ge 54, 3, false, 37, 0, 0, 0, 0, []), (20, .aload_n 0, 1, false, 0, 0, 0, 0, 0, []), (21, .getfield 24, 3, false, 7, 5, 0, 0, 0, []), (24, .ifCond .ne 47, 3, false, 37, 0, 0, 0, 0, []), (27, .aload_n 0, 1, false, 0, 0, 0, 0, 0, []), (28, .aload_n 0, 1, false, 0, 0, 0, 0, 0, []), (29, .aload_n 1, 1, false, 0, 0, 0, 0, 0, []), (30, .aload_n 2, 1, false, 0, 0, 0, 0, 0, []), (31, .iload 4, 2, false, 0, 0, 0, 0, 0, []), (33, .iaload, 1, false, 0, 0, 0, 0, 0, []), (34, .invokevirtual 31, 3, false, 30, 3, 1, 7, 0, []), (37, .putfield 24, 3, false, 7, 5, 0, 0, 0, []), (40, .aload_n 0, 1, false, 0, 0, 0, 0, 0, []), (41, .getfield 24, 3, false, 7, 5, 0, 0, 0, []), (44, .ifCond .ne 15, 3, false, 32, 0, 0, 0, 0, []), (47, .aload_n 0, 1, false, 0, 0, 0, 0, 0, []), (48, .aload_n 1, 1, false, 0, 0, 0, 0, 0, []), (49, .aload_n 2, 1, false, 0, 0, 0, 0, 0, []), (50, .iload 4, 2, false, 0, 0, 0, 0, 0, []), (52, .iaload, 1, false, 0, 0, 0, 0, 0, []), (53, .invokevirtual 35, 3, false, 32, 3, 0, 7, 0, []), (56, .goto 9, 3, false, 35, 0, 0, 0, 0, []), (59, .aload_n 0, 1, false, 0, 0, 0, 0, 0, []), (60, .iload 4, 2, false, 0, 0, 0, 0, 0, []), (62, .putfield 39, 3, false, 7, 4, 0, 0, 0, []), (65, .iinc 4 1, 3, false, 0, 0, 0, 0, 0, []), (68, .goto (-61), 3, false, 4, 0, 0, 0, 0, []), (71, .aload_n 0, 1, false, 0, 0, 0, 0, 0, []), (72, .getfield 24, 3, false, 7, 5, 0, 0, 0, []), (75, .ifCond .ne 21, 3, false, 49, 0, 0, 0, 0, []), (78, .aload_n 0, 1, false, 0, 0, 0, 0, 0, []), (79, .getfield 42, 3, false, 7, 11, 0, 0, 0, []), (82, .ifCond .le 14, 3, false, 49, 0, 0, 0, 0, []), (85, .aload_n 0, 1, false, 0, 0, 0, 0, 0, []), (86, .bipush 7, 2, false, 0, 0, 0, 0, 0, []), (88, .putfield 24, 3, false, 7, 5, 0, 0, 0, []), (91, .aload_n 0, 1, false, 0, 0, 0, 0, 0, []), (92, .iload_n 3, 1, false, 0, 0, 0, 0, 0, []), (93, .putfield 39, 3, false, 7, 4, 0, 0, 0, []), (96, .return_, 1, false, 0, 0, 0, 0, 0, [])] i i lo st I L := rfl
set_option maxRecDepth 20000 in
theorem uX3_begin (sh : mm_S) (call : mm_C) (Q : mm_Q) (n i : Nat) (lo st : List Value) (I : mm_I) (L : mm_L) : mm_v sh call tbX3_begin Q (n + 1) i lo st I L = mm_vn sh call tbX3_begin Q n [(0, .aload_n 0, 1, false, 0, 0, 0, 0, 0, []), (1, .getfield 9, 3, false, 7, 0, 11, 0, 0, []), (4, .iconst (-1), 1, false, 0, 0, 0, 0, 0, []), (5, .invokestatic 45, 3, false, 66, 2, 0, 0, 0, []), (8, .aload_n 0, 1, false, 0, 0, 0, 0, 0, []), (9, .iconst 0, 1, false, 0, 0, 0, 0, 0, []), (10, .putfield 39, 3, false, 7, 4, 0, 0, 0, []), (13, .aload_n 0, 1, false, 0, 0, 0, 0, 0, []), (14, .iconst 0, 1, false, 0, 0, 0, 0, 0, []), (15, .putfield 24, 3, false, 7, 5, 0, 0, 0, []), (18, .aload_n 0, 1, false, 0, 0, 0, 0, 0, []), (19, .iconst 0, 1, false, 0, 0, 0, 0, 0, []), (20, .putfield 51, 3, false, 7, 6, 0, 0, 0, []), (23, .aload_n 0, 1, false, 0, 0, 0, 0, 0, []), (24, .iconst 0, 1, false, 0, 0, 0, 0, 0, []), (25, .putfield 54, 3, false, 7, 7, 0, 0, 0, []), (28, .aload_n 0, 1, false, 0, 0, 0, 0, 0, []), (29, .iconst 0, 1, false, 0, 0, 0, 0, 0, []), (30, .putfield 57, 3, false, 7, 8, 0, 0, 0, []), (33, .aload_n 0, 1, false, 0, 0, 0, 0, 0, []), (34, .iconst 0, 1, false, 0, 0, 0, 0, 0, []), (35, .putfield 60, 3, false, 7, 9, 0, 0, 0, []), (38, .aload_n 0, 1, false, 0, 0, 0, 0, 0, []), (39, .lconst 0, 1, false, 0, 0, 0, 0, 0, []), (40, .putfield 63, 3, false, 7, 10, 1, 0, 0, []), (43, .aload_n 0, 1, false, 0, 0, 0, 0, 0, []), (44, .iconst 0, 1, false, 0, 0, 0, 0, 0, []), (45, .putfield 42, 3, false, 7, 11, 0, 0, 0, []), (48, .aload_n 0, 1, false, 0, 0, 0, 0, 0, []), (49, .iconst (-1), 1, false, 0, 0, 0, 0, 0, []), (50, .putfield 67, 3, false, 7, 12, 0, 0, 0, []), (53, .aload_n 0, 1, false, 0, 0, 0, 0, 0, []), (54, .iconst (-1), 1, false, 0, 0, 0, 0, 0, []), (55, .putfield 70, 3, false, 7, 13, 0, 0, 0, []), (58, .aload_n 0, 1, false, 0, 0, 0, 0, 0, []), (59, .bipush (-9), 2, false, 0, 0, 0, 0, 0, []), (61, .putfield 73, 3, false, 7, 14, 0, 0, 0, []), (64, .return_, 1, false, 0, 0, 0, 0, 0, [])] i i lo st I L := rfl
set_option maxRecDepth 20000 in
theorem uX3_whyWrong (sh : mm_S) (call : mm_C) (Q : mm_Q) (n i : Nat) (lo st : List Value) (I : mm_I) (L : mm_L) : mm_v sh call tbX3_whyWrong Q (n + 1) i lo st I L = mm_vn sh call tbX3_whyWrong Q n [(0, .iload_n 2, 1, false, 0, 0, 0, 0, 0, []), (1, .bipush 20, 2, false, 0, 0, 0, 0, 0, []), (3, .if_icmp .ne 17, 3, false, 11, 0, 0, 0, 0, []), (6, .aload_n 0, 1, false, 0, 0, 0, 0, 0, []), (7, .getfield 67, 3, false, 7, 12, 0, 0, 0, []), (10, .iconst (-1), 1, false, 0, 0, 0, 0, 0, []), (11, .if_icmp .ne 7, 3, false, 9, 0, 0, 0, 0, []), (14, .iconst 5, 1, false, 0, 0, 0, 0, 0, []), (15, .goto 4, 3, false, 10, 0, 0, 0, 0, []), (18, .iconst 0, 1, false, 0, 0, 0, 0, 0, []), (19, .ireturn, 1, false, 0, 0, 0, 0, 0, []), (20, .iload_n 2, 1, false, 0, 0, 0, 0, 0, []), (21, .bipush 21, 2, false, 0, 0, 0, 0, 0, []), (23, .if_icmp .ne 26, 3, false, 26, 0, 0, 0, 0, []), (26, .aload_n 0, 1, false, 0, 0, 0, 0, 0, []), (27, .getfield 70, 3, false, 7, 13, 0, 0, 0, []), (30, .iconst (-1), 1, false, 0, 0, 0, 0, 0, []), (31, .if_icmp .eq 11, 3, false, 22, 0, 0, 0, 0, []), (34, .aload_n 0, 1, false, 0, 0, 0, 0, 0, []), (35, .getfield 67, 3, false, 7, 12, 0, 0, 0, []), (38, .iconst (-1), 1, false, 0, 0, 0, 0, 0, []), (39, .if_icmp .ne 8, 3, false, 24, 0, 0, 0, 0, []), (42, .bipush 6, 2, false, 0, 0, 0, 0, 0, []), (44, .goto 4, 3, false, 25, 0, 0, 0, 0, []), (47, .iconst 0, 1, false, 0, 0, 0, 0, 0, []), (48, .ireturn, 1, false, 0, 0, 0, 0, 0, []), (49, .aload_n 1, 1, false, 0, 0, 0, 0, 0, []), (50, .iload_n 2, 1, false, 0, 0, 0, 0, 0, []), (51, .invokevirtual 76, 3, false, 0, 2, 1, 1, 0, []), (54, .ifCond .ne 5, 3, false, 32, 0, 0, 0, 0, []), (57, .iconst 1, 1, false, 0, 0, 0, 0, 0, []), (58, .ireturn, 1, false, 0, 0, 0, 0, 0, []), (59, .aload_n 0, 1, false, 0, 0, 0, 0, 0, []), (60, .iload_n 2, 1, false, 0, 0, 0, 0, 0, []), (61, .invokevirtual 82, 3, false, 27, 2, 1, 7, 0, []), (64, .ifCond .eq 5, 3, false, 38, 0, 0, 0, 0, []), (67, .iconst 2, 1, false, 0, 0, 0, 0, 0, []), (68, .ireturn, 1, false, 0, 0, 0, 0, 0, []), (69, .aload_n 1, 1, false, 0, 0, 0, 0, 0, []), (70, .getfield 85, 3, false, 1, 3, 8, 0, 0, []), (73, .iload_n 2, 1, false, 0, 0, 0, 0, 0, []), (74, .iaload, 1, false, 0, 0, 0, 0, 0, []), (75, .aload_n 0, 1, false, 0, 0, 0, 0, 0, []), (76, .getfield 60, 3, false, 7, 9, 0, 0, 0, []), (79, .iconst (-1), 1, false, 0, 0, 0, 0, 0, []), (80, .ixor, 1, false, 0, 0, 0, 0, 0, []), (81, .iand, 1, false, 0, 0, 0, 0, 0, []), (82, .ifCond .eq 5, 3, false, 50, 0, 0, 0, 0, []), (85, .iconst 3, 1, false, 0, 0, 0, 0, 0, []), (86, .ireturn, 1, false, 0, 0, 0, 0, 0, []), (87, .aload_n 0, 1, false, 0, 0, 0, 0, 0, []), (88, .getfield 70, 3, false, 7, 13, 0, 0, 0, []), (91, .iconst (-1), 1, false, 0, 0, 0, 0, 0, []), (92, .if_icmp .eq 12, 3, false, 59, 0, 0, 0, 0, []), (95, .aload_n 0, 1, false, 0, 0, 0, 0, 0, []), (96, .aload_n 1, 1, false, 0, 0, 0, 0, 0, []), (97, .iload_n 2, 1, false, 0, 0, 0, 0, 0, []), (98, .invokevirtual 88, 3, false, 31, 3, 1, 7, 0, []), (101, .ifCond .eq 7, 3, false, 61, 0, 0, 0, 0, []), (104, .iconst 0, 1, false, 0, 0, 0, 0, 0, []), (105, .goto 4, 3, false, 62, 0, 0, 0, 0, []), (108, .iconst 4, 1, false, 0, 0, 0, 0, 0, []), (109, .ireturn, 1, false, 0, 0, 0, 0, 0, [])] i i lo st I L := rfl
set_option maxRecDepth 20000 in
theorem uX3_isOnSide (sh : mm_S) (call : mm_C) (Q : mm_Q) (n i : Nat) (lo st : List Value) (I : mm_I) (L : mm_L) : mm_v sh call tbX3_isOnSide Q (n + 1) i lo st I L = mm_vn sh call tbX3_isOnSide Q n [(0, .aload_n 1, 1, false, 0, 0, 0, 0, 0, []), (1, .iload_n 2, 1, false, 0, 0, 0, 0, 0, []), (2, .aload_n 0, 1, false, 0, 0, 0, 0, 0, []), (3, .getfield 70, 3, false, 7, 13, 0, 0, 0, []), (6, .invokevirtual 92, 3, false, 5, 3, 1, 1, 0, []), (9, .istore_n 3, 1, false, 0, 0, 0, 0, 0, []), (10, .iload_n 3, 1, false, 0, 0, 0, 0, 0, []), (11, .bipush (-9), 2, false, 0, 0, 0, 0, 0, []), (13, .if_icmp .eq 24, 3, false, 19, 0, 0, 0, 0, []), (16, .aload_n 0, 1, false, 0, 0, 0, 0, 0, []), (17, .getfield 73, 3, false, 7, 14, 0, 0, 0, []), (20, .bipush (-9), 2, false, 0, 0, 0, 0, 0, []), (22, .if_icmp .eq 11, 3, false, 17, 0, 0, 0, 0, []), (25, .aload_n 0, 1, false, 0, 0, 0, 0, 0, []), (26, .getfield 73, 3, false, 7, 14, 0, 0, 0, []), (29, .iload_n 3, 1, false, 0, 0, 0, 0, 0, []), (30, .if_icmp .ne 7, 3, false, 19, 0, 0, 0, 0, []), (33, .iconst 1, 1, false, 0, 0, 0, 0, 0, []), (34, .goto 4, 3, false, 20, 0, 0, 0, 0, []), (37, .iconst 0, 1, false, 0, 0, 0, 0, 0, []), (38, .ireturn, 1, false, 0, 0, 1, 0, 0, [])] i i lo st I L := rfl
set_option maxRecDepth 20000 in
theorem uX3_take (sh : mm_S) (call : mm_C) (Q : mm_Q) (n i : Nat) (lo st : List Value) (I : mm_I) (L : mm_L) : mm_v sh call tbX3_take Q (n + 1) i lo st I L = mm_vn sh call tbX3_take Q n [(0, .iload_n 2, 1, false, 0, 0, 0, 0, 0, []), (1, .bipush 20, 2, false, 0, 0, 0, 0, 0, []), (3, .if_icmp .ne 10, 3, false, 6, 0, 0, 0, 0, []), (6, .aload_n 0, 1, false, 0, 0, 0, 0, 0, []), (7, .invokevirtual 96, 3, false, 33, 1, 0, 7, 0, []), (10, .goto 22, 3, false, 16, 0, 0, 0, 0, []), (13, .iload_n 2, 1, false, 0, 0, 0, 0, 0, []), (14, .bipush 21, 2, false, 0, 0, 0, 0, 0, []), (16, .if_icmp .ne 10, 3, false, 12, 0, 0, 0, 0, []), (19, .aload_n 0, 1, false, 0, 0, 0, 0, 0, []), (20, .invokevirtual 99, 3, false, 34, 1, 0, 7, 0, []), (23, .goto 9, 3, false, 16, 0, 0, 0, 0, []), (26, .aload_n 0, 1, false, 0, 0, 0, 0, 0, []), (27, .aload_n 1, 1, false, 0, 0, 0, 0, 0, []), (28, .iload_n 2, 1, false, 0, 0, 0, 0, 0, []), (29, .invokevirtual 102, 3, false, 35, 3, 0, 7, 0, []), (32, .return_, 1, false, 0, 0, 0, 0, 0, [])] i i lo st I L := rfl
set_option maxRecDepth 20000 in
theorem uX3_openFrame (sh : mm_S) (call : mm_C) (Q : mm_Q) (n i : Nat) (lo st : List Value) (I : mm_I) (L : mm_L) : mm_v sh call tbX3_openFrame Q (n + 1) i lo st I L = mm_vn sh call tbX3_openFrame Q n [(0, .aload_n 0, 1, false, 0, 0, 0, 0, 0, []), (1, .aload_n 0, 1, false, 0, 0, 0, 0, 0, []), (2, .getfield 67, 3, false, 7, 12, 0, 0, 0, []), (5, .putfield 70, 3, false, 7, 13, 0, 0, 0, []), (8, .aload_n 0, 1, false, 0, 0, 0, 0, 0, []), (9, .iconst (-1), 1, false, 0, 0, 0, 0, 0, []), (10, .putfield 67, 3, false, 7, 12, 0, 0, 0, []), (13, .aload_n 0, 1, false, 0, 0, 0, 0, 0, []), (14, .bipush (-9), 2, false, 0, 0, 0, 0, 0, []), (16, .putfield 73, 3, false, 7, 14, 0, 0, 0, []), (19, .aload_n 0, 1, false, 0, 0, 0, 0, 0, []), (20, .dup, 1, false, 0, 0, 0, 0, 0, []), (21, .getfield 51, 3, false, 7, 6, 0, 0, 0, []), (24, .iconst 1, 1, false, 0, 0, 0, 0, 0, []), (25, .iadd, 1, false, 0, 0, 0, 0, 0, []), (26, .putfield 51, 3, false, 7, 6, 0, 0, 0, []), (29, .aload_n 0, 1, false, 0, 0, 0, 0, 0, []), (30, .dup, 1, false, 0, 0, 0, 0, 0, []), (31, .getfield 42, 3, false, 7, 11, 0, 0, 0, []), (34, .iconst 1, 1, false, 0, 0, 0, 0, 0, []), (35, .iadd, 1, false, 0, 0, 0, 0, 0, []), (36, .putfield 42, 3, false, 7, 11, 0, 0, 0, []), (39, .aload_n 0, 1, false, 0, 0, 0, 0, 0, []), (40, .aload_n 0, 1, false, 0, 0, 0, 0, 0, []), (41, .getfield 54, 3, false, 7, 7, 0, 0, 0, []), (44, .aload_n 0, 1, false, 0, 0, 0, 0, 0, []), (45, .getfield 42, 3, false, 7, 11, 0, 0, 0, []), (48, .invokestatic 105, 3, false, 0, 0, 11, 0, 0, []), (51, .putfield 54, 3, false, 7, 7, 0, 0, 0, []), (54, .return_, 1, false, 0, 0, 0, 0, 0, [])] i i lo st I L := rfl
set_option maxRecDepth 20000 in
theorem uX3_closeFrame (sh : mm_S) (call : mm_C) (Q : mm_Q) (n i : Nat) (lo st : List Value) (I : mm_I) (L : mm_L) : mm_v sh call tbX3_closeFrame Q (n + 1) i lo st I L = mm_vn sh call tbX3_closeFrame Q n [(0, .aload_n 0, 1, false, 0, 0, 0, 0, 0, []), (1, .getfield 70, 3, false, 7, 13, 0, 0, 0, []), (4, .istore_n 1, 1, false, 0, 0, 0, 0, 0, []), (5, .aload_n 0, 1, false, 0, 0, 0, 0, 0, []), (6, .iload_n 1, 1, false, 0, 0, 0, 0, 0, []), (7, .invokevirtual 82, 3, false, 27, 2, 1, 7, 0, []), (10, .ifCond .ne 4, 3, false, 8, 0, 0, 0, 0, []), (13, .return_, 1, false, 0, 0, 0, 0, 0, []), (14, .aload_n 0, 1, false, 0, 0, 0, 0, 0, []), (15, .iload_n 1, 1, false, 0, 0, 0, 0, 0, []), (16, .putfield 67, 3, false, 7, 12, 0, 0, 0, []), (19, .aload_n 0, 1, false, 0, 0, 0, 0, 0, []), (20, .aload_n 0, 1, false, 0, 0, 0, 0, 0, []), (21, .getfield 18, 3, false, 7, 2, 13, 0, 0, []), (24, .iload_n 1, 1, false, 0, 0, 0, 0, 0, []), (25, .iaload, 1, false, 0, 0, 0, 0, 0, []), (26, .putfield 70, 3, false, 7, 13, 0, 0, 0, []), (29, .aload_n 0, 1, false, 0, 0, 0, 0, 0, []), (30, .aload_n 0, 1, false, 0, 0, 0, 0, 0, []), (31, .getfield 21, 3, false, 7, 3, 14, 0, 0, []), (34, .iload_n 1, 1, false, 0, 0, 0, 0, 0, []), (35, .iaload, 1, false, 0, 0, 0, 0, 0, []), (36, .putfield 73, 3, false, 7, 14, 0, 0, 0, []), (39, .aload_n 0, 1, false, 0, 0, 0, 0, 0, []), (40, .dup, 1, false, 0, 0, 0, 0, 0, []), (41, .getfield 42, 3, false, 7, 11, 0, 0, 0, []), (44, .iconst 1, 1, false, 0, 0, 0, 0, 0, []), (45, .isub, 1, false, 0, 0, 0, 0, 0, []), (46, .putfield 42, 3, false, 7, 11, 0, 0, 0, []), (49, .return_, 1, false, 0, 0, 0, 0, 0, [])] i i lo st I L := rfl
set_option maxRecDepth 20000 in
theorem uX3_tell (sh : mm_S) (call : mm_C) (Q : mm_Q) (n i : Nat) (lo st : List Value) (I : mm_I) (L : mm_L) : mm_v sh call tbX3_tell Q (n + 1) i lo st I L = mm_vn sh call tbX3_tell Q n [(0, .aload_n 1, 1, false, 0, 0, 0, 0, 0, []), (1, .iload_n 2, 1, false, 0, 0, 0, 0, 0, []), (2, .invokevirtual 76, 3, false, 0, 2, 1, 1, 0, []), (5, .ifCond .ne 4, 3, false, 5, 0, 0, 0, 0, []), (8, .return_, 1, false, 0, 0, 0, 0, 0, []), (9, .aload_n 0, 1, false, 0, 0, 0, 0, 0, []), (10, .getfield 70, 3, false, 7, 13, 0, 0, 0, []), (13, .iconst (-1), 1, false, 0, 0, 0, 0, 0, []), (14, .if_icmp .eq 16, 3, false, 16, 0, 0, 0, 0, []), (17, .aload_n 0, 1, false, 0, 0, 0, 0, 0, []), (18, .aload_n 1, 1, false, 0, 0, 0, 0, 0, []), (19, .iload_n 2, 1, false, 0, 0, 0, 0, 0, []), (20, .aload_n 0, 1, false, 0, 0, 0, 0, 0, []), (21, .getfield 70, 3, false, 7, 13, 0, 0, 0, []), (24, .invokevirtual 92, 3, false, 5, 3, 1, 1, 0, []), (27, .putfield 73, 3, false, 7, 14, 0, 0, 0, []), (30, .aload_n 0, 1, false, 0, 0, 0, 0, 0, []), (31, .getfield 67, 3, false, 7, 12, 0, 0, 0, []), (34, .iconst (-1), 1, false, 0, 0, 0, 0, 0, []), (35, .if_icmp .eq 21, 3, false, 30, 0, 0, 0, 0, []), (38, .aload_n 0, 1, false, 0, 0, 0, 0, 0, []), (39, .dup, 1, false, 0, 0, 0, 0, 0, []), (40, .getfield 63, 3, false, 7, 10, 1, 0, 0, []), (43, .aload_n 1, 1, false, 0, 0, 0, 0, 0, []), (44, .aload_n 0, 1, false, 0, 0, 0, 0, 0, []), (45, .getfield 67, 3, false, 7, 12, 0, 0, 0, []), (48, .iload_n 2, 1, false, 0, 0, 0, 0, 0, []), (49, .invokevirtual 110, 3, false, 4, 3, 2, 1, 0, []), (52, .ladd, 1, false, 0, 0, 0, 0, 0, []), (53, .putfield 63, 3, false, 7, 10, 1, 0, 0, []), (56, .aload_n 0, 1, false, 0, 0, 0, 0, 0, []), (57, .getfield 9, 3, false, 7, 0, 11, 0, 0, []), (60, .iload_n 2, 1, false, 0, 0, 0, 0, 0, []), (61, .aload_n 0, 1, false, 0, 0, 0, 0, 0, []), (62, .getfield 57, 3, false, 7, 8, 0, 0, 0, []), (65, .iastore, 1, false, 0, 0, 0, 0, 0, []), (66, .aload_n 0, 1, false, 0, 0, 0, 0, 0, []), (67, .getfield 15, 3, false, 7, 1, 12, 0, 0, []), (70, .iload_n 2, 1, false, 0, 0, 0, 0, 0, []), (71, .aload_n 0, 1, false, 0, 0, 0, 0, 0, []), (72, .getfield 42, 3, false, 7, 11, 0, 0, 0, []), (75, .iastore, 1, false, 0, 0, 0, 0, 0, []), (76, .aload_n 0, 1, false, 0, 0, 0, 0, 0, []), (77, .getfield 18, 3, false, 7, 2, 13, 0, 0, []), (80, .iload_n 2, 1, false, 0, 0, 0, 0, 0, []), (81, .aload_n 0, 1, false, 0, 0, 0, 0, 0, []), (82, .getfield 70, 3, false, 7, 13, 0, 0, 0, []), (85, .iastore, 1, false, 0, 0, 0, 0, 0, []), (86, .aload_n 0, 1, false, 0, 0, 0, 0, 0, []), (87, .getfield 21, 3, false, 7, 3, 14, 0, 0, []), (90, .iload_n 2, 1, false, 0, 0, 0, 0, 0, []), (91, .aload_n 0, 1, false, 0, 0, 0, 0, 0, []), (92, .getfield 73, 3, false, 7, 14, 0, 0, 0, []), (95, .iastore, 1, false, 0, 0, 0, 0, 0, []), (96, .aload_n 0, 1, false, 0, 0, 0, 0, 0, []), (97, .iload_n 2, 1, false, 0, 0, 0, 0, 0, []), (98, .putfield 67, 3, false, 7, 12, 0, 0, 0, []), (101, .aload_n 0, 1, false, 0, 0, 0, 0, 0, []), (102, .dup, 1, false, 0, 0, 0, 0, 0, []), (103, .getfield 57, 3, false, 7, 8, 0, 0, 0, []), (106, .iconst 1, 1, false, 0, 0, 0, 0, 0, []), (107, .iadd, 1, false, 0, 0, 0, 0, 0, []), (108, .putfield 57, 3, false, 7, 8, 0, 0, 0, []), (111, .aload_n 0, 1, false, 0, 0, 0, 0, 0, []), (112, .dup, 1, false, 0, 0, 0, 0, 0, []), (113, .getfield 60, 3, false, 7, 9, 0, 0, 0, []), (116, .aload_n 1, 1, false, 0, 0, 0, 0, 0, []), (117, .getfield 114, 3, false, 1, 2, 7, 0, 0, []), (120, .iload_n 2, 1, false, 0, 0, 0, 0, 0, []), (121, .iaload, 1, false, 0, 0, 0, 0, 0, []), (122, .ior, 1, false, 0, 0, 0, 0, 0, []), (123, .putfield 60, 3, false, 7, 9, 0, 0, 0, []), (126, .return_, 1, false, 0, 0, 0, 0, 0, [])] i i lo st I L := rfl
set_option maxRecDepth 20000 in
theorem uX4_scene (sh : mm_S) (call : mm_C) (Q : mm_Q) (n i : Nat) (lo st : List Value) (I : mm_I) (L : mm_L) : mm_v sh call tbX4_scene Q (n + 1) i lo st I L = mm_vn sh call tbX4_scene Q n [(0, .iload_n 2, 1, false, 0, 0, 0, 0, 0, []), (1, .iconst 1, 1, false, 0, 0, 0, 0, 0, []), (2, .if_icmp .lt 18, 3, false, 9, 0, 0, 0, 0, []), (5, .iload_n 3, 1, false, 0, 0, 0, 0, 0, []), (6, .invokestatic 56, 3, false, 61, 1, 1, 0, 0, []), (9, .ifCond .eq 11, 3, false, 9, 0, 0, 0, 0, []), (12, .iload 4, 2, false, 0, 0, 0, 0, 0, []), (14, .invokestatic 56, 3, false, 61, 1, 1, 0, 0, []), (17, .ifCond .ne 6, 3, false, 11, 0, 0, 0, 0, []), (20, .bipush (-2), 2, false, 0, 0, 0, 0, 0, []), (22, .ireturn, 1, false, 0, 0, 0, 0, 0, []), (23, .aload_n 0, 1, false, 0, 0, 0, 0, 0, []), (24, .getfield 12, 3, false, 0, 0, 4, 0, 0, []), (27, .getfield 60, 3, false, 1, 4, 0, 0, 0, []), (30, .bipush 8, 2, false, 0, 0, 0, 0, 0, []), (32, .if_icmp .lt 6, 3, false, 18, 0, 0, 0, 0, []), (35, .bipush (-4), 2, false, 0, 0, 0, 0, 0, []), (37, .ireturn, 1, false, 0, 0, 0, 0, 0, []), (38, .iload_n 1, 1, false, 0, 0, 0, 0, 0, []), (39, .i2l, 1, false, 0, 0, 0, 0, 0, []), (40, .iload_n 2, 1, false, 0, 0, 0, 0, 0, []), (41, .i2l, 1, false, 0, 0, 0, 0, 0, []), (42, .ladd, 1, false, 0, 0, 0, 0, 0, []), (43, .invokestatic 63, 3, false, 63, 1, 1, 0, 0, []), (46, .ifCond .ne 6, 3, false, 27, 0, 0, 0, 0, []), (49, .bipush (-5), 2, false, 0, 0, 0, 0, 0, []), (51, .ireturn, 1, false, 0, 0, 0, 0, 0, []), (52, .aload_n 0, 1, false, 0, 0, 0, 0, 0, []), (53, .invokevirtual 67, 3, false, 56, 1, 0, 0, 0, []), (56, .aload_n 0, 1, false, 0, 0, 0, 0, 0, []), (57, .getfield 12, 3, false, 0, 0, 4, 0, 0, []), (60, .iload_n 1, 1, false, 0, 0, 0, 0, 0, []), (61, .iload_n 2, 1, false, 0, 0, 0, 0, 0, []), (62, .iload_n 3, 1, false, 0, 0, 0, 0, 0, []), (63, .iload 4, 2, false, 0, 0, 0, 0, 0, []), (65, .invokevirtual 70, 3, false, 1, 5, 1, 1, 0, []), (68, .ireturn, 1, false, 0, 0, 0, 0, 0, [])] i i lo st I L := rfl
set_option maxRecDepth 20000 in
theorem uX4_ofScene (sh : mm_S) (call : mm_C) (Q : mm_Q) (n i : Nat) (lo st : List Value) (I : mm_I) (L : mm_L) : mm_v sh call tbX4_ofScene Q (n + 1) i lo st I L = mm_vn sh call tbX4_ofScene Q n [(0, .aload_n 0, 1, false, 0, 0, 0, 0, 0, []), (1, .getfield 12, 3, false, 0, 0, 4, 0, 0, []), (4, .iload_n 1, 1, false, 0, 0, 0, 0, 0, []), (5, .invokevirtual 74, 3, false, 0, 2, 1, 1, 0, []), (8, .ifCond .ne 7, 3, false, 7, 0, 0, 0, 0, []), (11, .ldc2_w 77, 3, false, 0, 0, 0, 0, (-9223372036854775808), []), (14, .lreturn, 1, false, 0, 0, 0, 0, 0, []), (15, .iload_n 2, 1, false, 0, 0, 0, 0, 0, []), (16, .tableswitch 89 0 4 #[36, 47, 58, 67, 78], 36, false, 42, 0, 0, 0, 0, [9, 16, 23, 28, 35]), (52, .aload_n 0, 1, false, 0, 0, 0, 0, 0, []), (53, .getfield 12, 3, false, 0, 0, 4, 0, 0, []), (56, .getfield 79, 3, false, 1, 0, 5, 0, 0, []), (59, .iload_n 1, 1, false, 0, 0, 0, 0, 0, []), (60, .iaload, 1, false, 0, 0, 0, 0, 0, []), (61, .i2l, 1, false, 0, 0, 0, 0, 0, []), (62, .lreturn, 1, false, 0, 0, 0, 0, 0, []), (63, .aload_n 0, 1, false, 0, 0, 0, 0, 0, []), (64, .getfield 12, 3, false, 0, 0, 4, 0, 0, []), (67, .getfield 82, 3, false, 1, 1, 6, 0, 0, []), (70, .iload_n 1, 1, false, 0, 0, 0, 0, 0, []), (71, .iaload, 1, false, 0, 0, 0, 0, 0, []), (72, .i2l, 1, false, 0, 0, 0, 0, 0, []), (73, .lreturn, 1, false, 0, 0, 0, 0, 0, []), (74, .aload_n 0, 1, false, 0, 0, 0, 0, 0, []), (75, .getfield 12, 3, false, 0, 0, 4, 0, 0, []), (78, .iload_n 1, 1, false, 0, 0, 0, 0, 0, []), (79, .invokevirtual 85, 3, false, 2, 2, 2, 1, 0, []), (82, .lreturn, 1, false, 0, 0, 0, 0, 0, []), (83, .aload_n 0, 1, false, 0, 0, 0, 0, 0, []), (84, .getfield 12, 3, false, 0, 0, 4, 0, 0, []), (87, .getfield 89, 3, false, 1, 2, 7, 0, 0, []), (90, .iload_n 1, 1, false, 0, 0, 0, 0, 0, []), (91, .iaload, 1, false, 0, 0, 0, 0, 0, []), (92, .i2l, 1, false, 0, 0, 0, 0, 0, []), (93, .lreturn, 1, false, 0, 0, 0, 0, 0, []), (94, .aload_n 0, 1, false, 0, 0, 0, 0, 0, []), (95, .getfield 12, 3, false, 0, 0, 4, 0, 0, []), (98, .getfield 92, 3, false, 1, 3, 8, 0, 0, []), (101, .iload_n 1, 1, false, 0, 0, 0, 0, 0, []), (102, .iaload, 1, false, 0, 0, 0, 0, 0, []), (103, .i2l, 1, false, 0, 0, 0, 0, 0, []), (104, .lreturn, 1, false, 0, 0, 0, 0, 0, []), (105, .ldc2_w 77, 3, false, 0, 0, 0, 0, (-9223372036854775808), []), (108, .lreturn, 1, false, 0, 0, 0, 0, 0, [])] i i lo st I L := rfl
set_option maxRecDepth 20000 in
theorem uX4_move (sh : mm_S) (call : mm_C) (Q : mm_Q) (n i : Nat) (lo st : List Value) (I : mm_I) (L : mm_L) : mm_v sh call tbX4_move Q (n + 1) i lo st I L = mm_vn sh call tbX4_move Q n [(0, .aload_n 0, 1, false, 0, 0, 0, 0, 0, []), (1, .getfield 12, 3, false, 0, 0, 4, 0, 0, []), (4, .iload_n 1, 1, false, 0, 0, 0, 0, 0, []), (5, .invokevirtual 74, 3, false, 0, 2, 1, 1, 0, []), (8, .ifCond .ne 5, 3, false, 7, 0, 0, 0, 0, []), (11, .iconst (-1), 1, false, 0, 0, 0, 0, 0, []), (12, .ireturn, 1, false, 0, 0, 0, 0, 0, []), (13, .aload_n 0, 1, false, 0, 0, 0, 0, 0, []), (14, .getfield 12, 3, false, 0, 0, 4, 0, 0, []), (17, .iload_n 1, 1, false, 0, 0, 0, 0, 0, []), (18, .iload_n 2, 1, false, 0, 0, 0, 0, 0, []), (19, .invokevirtual 95, 3, false, 3, 3, 1, 1, 0, []), (22, .ifCond .ne 6, 3, false, 15, 0, 0, 0, 0, []), (25, .bipush (-5), 2, false, 0, 0, 0, 0, 0, []), (27, .ireturn, 1, false, 0, 0, 0, 0, 0, []), (28, .aload_n 0, 1, false, 0, 0, 0, 0, 0, []), (29, .getfield 12, 3, false, 0, 0, 4, 0, 0, []), (32, .getfield 79, 3, false, 1, 0, 5, 0, 0, []), (35, .iload_n 1, 1, false, 0, 0, 0, 0, 0, []), (36, .dup2, 1, false, 0, 0, 0, 0, 0, []), (37, .iaload, 1, false, 0, 0, 0, 0, 0, []), (38, .iload_n 2, 1, false, 0, 0, 0, 0, 0, []), (39, .iadd, 1, false, 0, 0, 0, 0, 0, []), (40, .iastore, 1, false, 0, 0, 0, 0, 0, []), (41, .aload_n 0, 1, false, 0, 0, 0, 0, 0, []), (42, .invokevirtual 67, 3, false, 56, 1, 0, 0, 0, []), (45, .iconst 1, 1, false, 0, 0, 0, 0, 0, []), (46, .ireturn, 1, false, 0, 0, 0, 0, 0, [])] i i lo st I L := rfl
set_option maxRecDepth 20000 in
theorem uX4_shift (sh : mm_S) (call : mm_C) (Q : mm_Q) (n i : Nat) (lo st : List Value) (I : mm_I) (L : mm_L) : mm_v sh call tbX4_shift Q (n + 1) i lo st I L = mm_vn sh call tbX4_shift Q n [(0, .iconst 0, 1, false, 0, 0, 0, 0, 0, []), (1, .istore_n 2, 1, false, 0, 0, 0, 0, 0, []), (2, .iload_n 2, 1, true, 0, 0, 0, 0, 0, []), (3, .aload_n 0, 1, false, 0, 0, 0, 0, 0, []), (4, .getfield 12, 3, false, 0, 0, 4, 0, 0, []), (7, .getfield 60, 3, false, 1, 4, 0, 0, 0, []), (10, .if_icmp .ge 24, 3, false, 17, 0, 0, 0, 0, []), (13, .aload_n 0, 1, false, 0, 0, 0, 0, 0, []), (14, .getfield 12, 3, false, 0, 0, 4, 0, 0, []), (17, .iload_n 2, 1, false, 0, 0, 0, 0, 0, []), (18, .iload_n 1, 1, false, 0, 0, 0, 0, 0, []), (19, .invokevirtual 95, 3, false, 3, 3, 1, 1, 0, []), (22, .ifCond .ne 6, 3, false, 15, 0, 0, 0, 0, []), (25, .bipush (-5), 2, false, 0, 0, 0, 0, 0, []), (27, .ireturn, 1, false, 0, 0, 0, 0, 0, []), (28, .iinc 2 1, 3, false, 0, 0, 0, 0, 0, []), (31, .goto (-29), 3, false, 2, 0, 0, 0, 0, []), (34, .iconst 0, 1, false, 0, 0, 0, 0, 0, []), (35, .istore_n 2, 1, false, 0, 0, 0, 0, 0, []), (36, .iload_n 2, 1, true, 0, 0, 0, 0, 0, []), (37, .aload_n 0, 1, false, 0, 0, 0, 0, 0, []), (38, .getfield 12, 3, false, 0, 0, 4, 0, 0, []), (41, .getfield 60, 3, false, 1, 4, 0, 0, 0, []), (44, .if_icmp .ge 28, 3, false, 38, 0, 0, 0, 0, []), (47, .iload_n 2, 1, false, 0, 0, 0, 0, 0, []), (48, .bipush 8, 2, false, 0, 0, 0, 0, 0, []), (50, .if_icmp .ge 22, 3, false, 38, 0, 0, 0, 0, []), (53, .aload_n 0, 1, false, 0, 0, 0, 0, 0, []), (54, .getfield 12, 3, false, 0, 0, 4, 0, 0, []), (57, .getfield 79, 3, false, 1, 0, 5, 0, 0, []), (60, .iload_n 2, 1, false, 0, 0, 0, 0, 0, []), (61, .dup2, 1, false, 0, 0, 0, 0, 0, []), (62, .iaload, 1, false, 0, 0, 0, 0, 0, []), (63, .iload_n 1, 1, false, 0, 0, 0, 0, 0, []), (64, .iadd, 1, false, 0, 0, 0, 0, 0, []), (65, .iastore, 1, false, 0, 0, 0, 0, 0, []), (66, .iinc 2 1, 3, false, 0, 0, 0, 0, 0, []), (69, .goto (-33), 3, false, 19, 0, 0, 0, 0, []), (72, .aload_n 0, 1, false, 0, 0, 0, 0, 0, []), (73, .invokevirtual 67, 3, false, 56, 1, 0, 0, 0, []), (76, .aload_n 0, 1, false, 0, 0, 0, 0, 0, []), (77, .getfield 12, 3, false, 0, 0, 4, 0, 0, []), (80, .getfield 60, 3, false, 1, 4, 0, 0, 0, []), (83, .ireturn, 1, false, 0, 0, 0, 0, 0, [])] i i lo st I L := rfl
set_option maxRecDepth 20000 in
theorem hX4_shift (sh : mm_S) (call : mm_C) (Q : mm_Q) (n i : Nat) (lo st : List Value) (I : mm_I) (L : mm_L) : mm_h sh call tbX4_shift Q n i lo st I L = mm_hn sh call tbX4_shift Q n [(0, .iconst 0, 1, false, 0, 0, 0, 0, 0, []), (1, .istore_n 2, 1, false, 0, 0, 0, 0, 0, []), (2, .iload_n 2, 1, true, 0, 0, 0, 0, 0, []), (3, .aload_n 0, 1, false, 0, 0, 0, 0, 0, []), (4, .getfield 12, 3, false, 0, 0, 4, 0, 0, []), (7, .getfield 60, 3, false, 1, 4, 0, 0, 0, []), (10, .if_icmp .ge 24, 3, false, 17, 0, 0, 0, 0, []), (13, .aload_n 0, 1, false, 0, 0, 0, 0, 0, []), (14, .getfield 12, 3, false, 0, 0, 4, 0, 0, []), (17, .iload_n 2, 1, false, 0, 0, 0, 0, 0, []), (18, .iload_n 1, 1, false, 0, 0, 0, 0, 0, []), (19, .invokevirtual 95, 3, false, 3, 3, 1, 1, 0, []), (22, .ifCond .ne 6, 3, false, 15, 0, 0, 0, 0, []), (25, .bipush (-5), 2, false, 0, 0, 0, 0, 0, []), (27, .ireturn, 1, false, 0, 0, 0, 0, 0, []), (28, .iinc 2 1, 3, false, 0, 0, 0, 0, 0, []), (31, .goto (-29), 3, false, 2, 0, 0, 0, 0, []), (34, .iconst 0, 1, false, 0, 0, 0, 0, 0, []), (35, .istore_n 2, 1, false, 0, 0, 0, 0, 0, []), (36, .iload_n 2, 1, true, 0, 0, 0, 0, 0, []), (37, .aload_n 0, 1, false, 0, 0, 0, 0, 0, []), (38, .getfield 12, 3, false, 0, 0, 4, 0, 0, []), (41, .getfield 60, 3, false, 1, 4, 0, 0, 0, []), (44, .if_icmp .ge 28, 3, false, 38, 0, 0, 0, 0, []), (47, .iload_n 2, 1, false, 0, 0, 0, 0, 0, []), (48, .bipush 8, 2, false, 0, 0, 0, 0, 0, []), (50, .if_icmp .ge 22, 3, false, 38, 0, 0, 0, 0, []), (53, .aload_n 0, 1, false, 0, 0, 0, 0, 0, []), (54, .getfield 12, 3, false, 0, 0, 4, 0, 0, []), (57, .getfield 79, 3, false, 1, 0, 5, 0, 0, []), (60, .iload_n 2, 1, false, 0, 0, 0, 0, 0, []), (61, .dup2, 1, false, 0, 0, 0, 0, 0, []), (62, .iaload, 1, false, 0, 0, 0, 0, 0, []), (63, .iload_n 1, 1, false, 0, 0, 0, 0, 0, []), (64, .iadd, 1, false, 0, 0, 0, 0, 0, []), (65, .iastore, 1, false, 0, 0, 0, 0, 0, []), (66, .iinc 2 1, 3, false, 0, 0, 0, 0, 0, []), (69, .goto (-33), 3, false, 19, 0, 0, 0, 0, []), (72, .aload_n 0, 1, false, 0, 0, 0, 0, 0, []), (73, .invokevirtual 67, 3, false, 56, 1, 0, 0, 0, []), (76, .aload_n 0, 1, false, 0, 0, 0, 0, 0, []), (77, .getfield 12, 3, false, 0, 0, 4, 0, 0, []), (80, .getfield 60, 3, false, 1, 4, 0, 0, 0, []), (83, .ireturn, 1, false, 0, 0, 0, 0, 0, [])] i i lo st I L := rfl
set_option maxRecDepth 20000 in
theorem uX4_stretch (sh : mm_S) (call : mm_C) (Q : mm_Q) (n i : Nat) (lo st : List Value) (I : mm_I) (L : mm_L) : mm_v sh call tbX4_stretch Q (n + 1) i lo st I L = mm_vn sh call tbX4_stretch Q n [(0, .aload_n 0, 1, false, 0, 0, 0, 0, 0, []), (1, .getfield 12, 3, false, 0, 0, 4, 0, 0, []), (4, .iload_n 1, 1, false, 0, 0, 0, 0, 0, []), (5, .invokevirtual 74, 3, false, 0, 2, 1, 1, 0, []), (8, .ifCond .ne 5, 3, false, 7, 0, 0, 0, 0, []), (11, .iconst (-1), 1, false, 0, 0, 0, 0, 0, []), (12, .ireturn, 1, false, 0, 0, 0, 0, 0, []), (13, .iload_n 2, 1, false, 0, 0, 0, 0, 0, []), (14, .iconst 1, 1, false, 0, 0, 0, 0, 0, []), (15, .if_icmp .ge 6, 3, false, 12, 0, 0, 0, 0, []), (18, .bipush (-2), 2, false, 0, 0, 0, 0, 0, []), (20, .ireturn, 1, false, 0, 0, 0, 0, 0, []), (21, .aload_n 0, 1, false, 0, 0, 0, 0, 0, []), (22, .getfield 12, 3, false, 0, 0, 4, 0, 0, []), (25, .getfield 82, 3, false, 1, 1, 6, 0, 0, []), (28, .iload_n 1, 1, false, 0, 0, 0, 0, 0, []), (29, .iaload, 1, false, 0, 0, 0, 0, 0, []), (30, .i2l, 1, false, 0, 0, 0, 0, 0, []), (31, .iload_n 2, 1, false, 0, 0, 0, 0, 0, []), (32, .i2l, 1, false, 0, 0, 0, 0, 0, []), (33, .lmul, 1, false, 0, 0, 0, 0, 0, []), (34, .lstore_n 3, 1, false, 0, 0, 0, 0, 0, []), (35, .lload_n 3, 1, false, 0, 0, 0, 0, 0, []), (36, .invokestatic 63, 3, false, 63, 1, 1, 0, 0, []), (39, .ifCond .eq 21, 3, false, 35, 0, 0, 0, 0, []), (42, .aload_n 0, 1, false, 0, 0, 0, 0, 0, []), (43, .getfield 12, 3, false, 0, 0, 4, 0, 0, []), (46, .getfield 79, 3, false, 1, 0, 5, 0, 0, []), (49, .iload_n 1, 1, false, 0, 0, 0, 0, 0, []), (50, .iaload, 1, false, 0, 0, 0, 0, 0, []), (51, .i2l, 1, false, 0, 0, 0, 0, 0, []), (52, .lload_n 3, 1, false, 0, 0, 0, 0, 0, []), (53, .ladd, 1, false, 0, 0, 0, 0, 0, []), (54, .invokestatic 63, 3, false, 63, 1, 1, 0, 0, []), (57, .ifCond .ne 6, 3, false, 37, 0, 0, 0, 0, []), (60, .bipush (-5), 2, false, 0, 0, 0, 0, 0, []), (62, .ireturn, 1, false, 0, 0, 0, 0, 0, []), (63, .aload_n 0, 1, false, 0, 0, 0, 0, 0, []), (64, .getfield 12, 3, false, 0, 0, 4, 0, 0, []), (67, .getfield 82, 3, false, 1, 1, 6, 0, 0, []), (70, .iload_n 1, 1, false, 0, 0, 0, 0, 0, []), (71, .lload_n 3, 1, false, 0, 0, 0, 0, 0, []), (72, .l2i, 1, false, 0, 0, 0, 0, 0, []), (73, .iastore, 1, false, 0, 0, 0, 0, 0, []), (74, .aload_n 0, 1, false, 0, 0, 0, 0, 0, []), (75, .invokevirtual 67, 3, false, 56, 1, 0, 0, 0, []), (78, .iconst 1, 1, false, 0, 0, 0, 0, 0, []), (79, .ireturn, 1, false, 0, 0, 0, 0, 0, [])] i i lo st I L := rfl
set_option maxRecDepth 20000 in
theorem uX4_clue (sh : mm_S) (call : mm_C) (Q : mm_Q) (n i : Nat) (lo st : List Value) (I : mm_I) (L : mm_L) : mm_v sh call tbX4_clue Q (n + 1) i lo st I L = mm_vn sh call tbX4_clue Q n [(0, .aload_n 0, 1, false, 0, 0, 0, 0, 0, []), (1, .getfield 12, 3, false, 0, 0, 4, 0, 0, []), (4, .iload_n 1, 1, false, 0, 0, 0, 0, 0, []), (5, .invokevirtual 74, 3, false, 0, 2, 1, 1, 0, []), (8, .ifCond .eq 10, 3, false, 8, 0, 0, 0, 0, []), (11, .iload_n 2, 1, false, 0, 0, 0, 0, 0, []), (12, .invokestatic 99, 3, false, 60, 1, 1, 0, 0, []), (15, .ifCond .ne 5, 3, false, 10, 0, 0, 0, 0, []), (18, .iconst (-1), 1, false, 0, 0, 0, 0, 0, []), (19, .ireturn, 1, false, 0, 0, 0, 0, 0, []), (20, .iload_n 3, 1, false, 0, 0, 0, 0, 0, []), (21, .ifCond .eq 11, 3, false, 17, 0, 0, 0, 0, []), (24, .iload_n 3, 1, false, 0, 0, 0, 0, 0, []), (25, .iconst 1, 1, false, 0, 0, 0, 0, 0, []), (26, .if_icmp .eq 6, 3, false, 17, 0, 0, 0, 0, []), (29, .bipush (-2), 2, false, 0, 0, 0, 0, 0, []), (31, .ireturn, 1, false, 0, 0, 0, 0, 0, []), (32, .iload_n 3, 1, false, 0, 0, 0, 0, 0, []), (33, .ifCond .ne 13, 3, false, 23, 0, 0, 0, 0, []), (36, .aload_n 0, 1, false, 0, 0, 0, 0, 0, []), (37, .getfield 12, 3, false, 0, 0, 4, 0, 0, []), (40, .getfield 89, 3, false, 1, 2, 7, 0, 0, []), (43, .goto 10, 3, false, 26, 0, 0, 0, 0, []), (46, .aload_n 0, 1, false, 0, 0, 0, 0, 0, []), (47, .getfield 12, 3, false, 0, 0, 4, 0, 0, []), (50, .getfield 92, 3, false, 1, 3, 8, 0, 0, []), (53, .astore 5, 2, false, 0, 0, 0, 0, 0, []), (55, .iconst 1, 1, false, 0, 0, 0, 0, 0, []), (56, .iload_n 2, 1, false, 0, 0, 0, 0, 0, []), (57, .ishl, 1, false, 0, 0, 0, 0, 0, []), (58, .istore 6, 2, false, 0, 0, 0, 0, 0, []), (60, .iload 4, 2, false, 0, 0, 0, 0, 0, []), (62, .ifCond .eq 13, 3, false, 39, 0, 0, 0, 0, []), (65, .aload 5, 2, false, 0, 0, 0, 0, 0, []), (67, .iload_n 1, 1, false, 0, 0, 0, 0, 0, []), (68, .iaload, 1, false, 0, 0, 0, 0, 0, []), (69, .iload 6, 2, false, 0, 0, 0, 0, 0, []), (71, .ior, 1, false, 0, 0, 0, 0, 0, []), (72, .goto 12, 3, false, 46, 0, 0, 0, 0, []), (75, .aload 5, 2, false, 0, 0, 0, 0, 0, []), (77, .iload_n 1, 1, false, 0, 0, 0, 0, 0, []), (78, .iaload, 1, false, 0, 0, 0, 0, 0, []), (79, .iload 6, 2, false, 0, 0, 0, 0, 0, []), (81, .iconst (-1), 1, false, 0, 0, 0, 0, 0, []), (82, .ixor, 1, false, 0, 0, 0, 0, 0, []), (83, .iand, 1, false, 0, 0, 0, 0, 0, []), (84, .istore 7, 2, false, 0, 0, 0, 0, 0, []), (86, .iload 7, 2, false, 0, 0, 0, 0, 0, []), (88, .aload 5, 2, false, 0, 0, 0, 0, 0, []), (90, .iload_n 1, 1, false, 0, 0, 0, 0, 0, []), (91, .iaload, 1, false, 0, 0, 0, 0, 0, []), (92, .if_icmp .ne 5, 3, false, 54, 0, 0, 0, 0, []), (95, .iconst 0, 1, false, 0, 0, 0, 0, 0, []), (96, .ireturn, 1, false, 0, 0, 0, 0, 0, []), (97, .aload 5, 2, false, 0, 0, 0, 0, 0, []), (99, .iload_n 1, 1, false, 0, 0, 0, 0, 0, []), (100, .iload 7, 2, false, 0, 0, 0, 0, 0, []), (102, .iastore, 1, false, 0, 0, 0, 0, 0, []), (103, .aload_n 0, 1, false, 0, 0, 0, 0, 0, []), (104, .invokevirtual 67, 3, false, 56, 1, 0, 0, 0, []), (107, .iconst 1, 1, false, 0, 0, 0, 0, 0, []), (108, .ireturn, 1, false, 0, 0, 0, 0, 0, [])] i i lo st I L := rfl
set_option maxRecDepth 20000 in
theorem uX4_ofClue (sh : mm_S) (call : mm_C) (Q : mm_Q) (n i : Nat) (lo st : List Value) (I : mm_I) (L : mm_L) : mm_v sh call tbX4_ofClue Q (n + 1) i lo st I L = mm_vn sh call tbX4_ofClue Q n [(0, .iload_n 1, 1, false, 0, 0, 0, 0, 0, []), (1, .invokestatic 99, 3, false, 60, 1, 1, 0, 0, []), (4, .ifCond .ne 5, 3, false, 5, 0, 0, 0, 0, []), (7, .iconst (-1), 1, false, 0, 0, 0, 0, 0, []), (8, .ireturn, 1, false, 0, 0, 0, 0, 0, []), (9, .iload_n 2, 1, false, 0, 0, 0, 0, 0, []), (10, .ifCond .eq 11, 3, false, 12, 0, 0, 0, 0, []), (13, .iload_n 2, 1, false, 0, 0, 0, 0, 0, []), (14, .iconst 1, 1, false, 0, 0, 0, 0, 0, []), (15, .if_icmp .eq 6, 3, false, 12, 0, 0, 0, 0, []), (18, .bipush (-2), 2, false, 0, 0, 0, 0, 0, []), (20, .ireturn, 1, false, 0, 0, 0, 0, 0, []), (21, .iload_n 2, 1, false, 0, 0, 0, 0, 0, []), (22, .ifCond .ne 13, 3, false, 18, 0, 0, 0, 0, []), (25, .aload_n 0, 1, false, 0, 0, 0, 0, 0, []), (26, .getfield 12, 3, false, 0, 0, 4, 0, 0, []), (29, .getfield 89, 3, false, 1, 2, 7, 0, 0, []), (32, .goto 10, 3, false, 21, 0, 0, 0, 0, []), (35, .aload_n 0, 1, false, 0, 0, 0, 0, 0, []), (36, .getfield 12, 3, false, 0, 0, 4, 0, 0, []), (39, .getfield 92, 3, false, 1, 3, 8, 0, 0, []), (42, .astore_n 3, 1, false, 0, 0, 0, 0, 0, []), (43, .iconst 0, 1, false, 0, 0, 0, 0, 0, []), (44, .istore 4, 2, false, 0, 0, 0, 0, 0, []), (46, .iconst 0, 1, false, 0, 0, 0, 0, 0, []), (47, .istore 5, 2, false, 0, 0, 0, 0, 0, []), (49, .iload 5, 2, true, 0, 0, 0, 0, 0, []), (51, .aload_n 0, 1, false, 0, 0, 0, 0, 0, []), (52, .getfield 12, 3, false, 0, 0, 4, 0, 0, []), (55, .getfield 60, 3, false, 1, 4, 0, 0, 0, []), (58, .if_icmp .ge 36, 3, false, 48, 0, 0, 0, 0, []), (61, .iload 5, 2, false, 0, 0, 0, 0, 0, []), (63, .bipush 8, 2, false, 0, 0, 0, 0, 0, []), (65, .if_icmp .ge 29, 3, false, 48, 0, 0, 0, 0, []), (68, .aload_n 3, 1, false, 0, 0, 0, 0, 0, []), (69, .iload 5, 2, false, 0, 0, 0, 0, 0, []), (71, .iaload, 1, false, 0, 0, 0, 0, 0, []), (72, .iload_n 1, 1, false, 0, 0, 0, 0, 0, []), (73, .invokestatic 102, 3, false, 62, 2, 1, 0, 0, []), (76, .ifCond .eq 12, 3, false, 46, 0, 0, 0, 0, []), (79, .iload 4, 2, false, 0, 0, 0, 0, 0, []), (81, .iconst 1, 1, false, 0, 0, 0, 0, 0, []), (82, .iload 5, 2, false, 0, 0, 0, 0, 0, []), (84, .ishl, 1, false, 0, 0, 0, 0, 0, []), (85, .ior, 1, false, 0, 0, 0, 0, 0, []), (86, .istore 4, 2, false, 0, 0, 0, 0, 0, []), (88, .iinc 5 1, 3, false, 0, 0, 0, 0, 0, []), (91, .goto (-42), 3, false, 26, 0, 0, 0, 0, []), (94, .iload 4, 2, false, 0, 0, 0, 0, 0, []), (96, .ireturn, 1, false, 0, 0, 0, 0, 0, [])] i i lo st I L := rfl
set_option maxRecDepth 20000 in
theorem hX4_ofClue (sh : mm_S) (call : mm_C) (Q : mm_Q) (n i : Nat) (lo st : List Value) (I : mm_I) (L : mm_L) : mm_h sh call tbX4_ofClue Q n i lo st I L = mm_hn sh call tbX4_ofClue Q n [(0, .iload_n 1, 1, false, 0, 0, 0, 0, 0, []), (1, .invokestatic 99, 3, false, 60, 1, 1, 0, 0, []), (4, .ifCond .ne 5, 3, false, 5, 0, 0, 0, 0, []), (7, .iconst (-1), 1, false, 0, 0, 0, 0, 0, []), (8, .ireturn, 1, false, 0, 0, 0, 0, 0, []), (9, .iload_n 2, 1, false, 0, 0, 0, 0, 0, []), (10, .ifCond .eq 11, 3, false, 12, 0, 0, 0, 0, []), (13, .iload_n 2, 1, false, 0, 0, 0, 0, 0, []), (14, .iconst 1, 1, false, 0, 0, 0, 0, 0, []), (15, .if_icmp .eq 6, 3, false, 12, 0, 0, 0, 0, []), (18, .bipush (-2), 2, false, 0, 0, 0, 0, 0, []), (20, .ireturn, 1, false, 0, 0, 0, 0, 0, []), (21, .iload_n 2, 1, false, 0, 0, 0, 0, 0, []), (22, .ifCond .ne 13, 3, false, 18, 0, 0, 0, 0, []), (25, .aload_n 0, 1, false, 0, 0, 0, 0, 0, []), (26, .getfield 12, 3, false, 0, 0, 4, 0, 0, []), (29, .getfield 89, 3, false, 1, 2, 7, 0, 0, []), (32, .goto 10, 3, false, 21, 0, 0, 0, 0, []), (35, .aload_n 0, 1, false, 0, 0, 0, 0, 0, []), (36, .getfield 12, 3, false, 0, 0, 4, 0, 0, []), (39, .getfield 92, 3, false, 1, 3, 8, 0, 0, []), (42, .astore_n 3, 1, false, 0, 0, 0, 0, 0, []), (43, .iconst 0, 1, false, 0, 0, 0, 0, 0, []), (44, .istore 4, 2, false, 0, 0, 0, 0, 0, []), (46, .iconst 0, 1, false, 0, 0, 0, 0, 0, []), (47, .istore 5, 2, false, 0, 0, 0, 0, 0, []), (49, .iload 5, 2, true, 0, 0, 0, 0, 0, []), (51, .aload_n 0, 1, false, 0, 0, 0, 0, 0, []), (52, .getfield 12, 3, false, 0, 0, 4, 0, 0, []), (55, .getfield 60, 3, false, 1, 4, 0, 0, 0, []), (58, .if_icmp .ge 36, 3, false, 48, 0, 0, 0, 0, []), (61, .iload 5, 2, false, 0, 0, 0, 0, 0, []), (63, .bipush 8, 2, false, 0, 0, 0, 0, 0, []), (65, .if_icmp .ge 29, 3, false, 48, 0, 0, 0, 0, []), (68, .aload_n 3, 1, false, 0, 0, 0, 0, 0, []), (69, .iload 5, 2, false, 0, 0, 0, 0, 0, []), (71, .iaload, 1, false, 0, 0, 0, 0, 0, []), (72, .iload_n 1, 1, false, 0, 0, 0, 0, 0, []), (73, .invokestatic 102, 3, false, 62, 2, 1, 0, 0, []), (76, .ifCond .eq 12, 3, false, 46, 0, 0, 0, 0, []), (79, .iload 4, 2, false, 0, 0, 0, 0, 0, []), (81, .iconst 1, 1, false, 0, 0, 0, 0, 0, []), (82, .iload 5, 2, false, 0, 0, 0, 0, 0, []), (84, .ishl, 1, false, 0, 0, 0, 0, 0, []), (85, .ior, 1, false, 0, 0, 0, 0, 0, []), (86, .istore 4, 2, false, 0, 0, 0, 0, 0, []), (88, .iinc 5 1, 3, false, 0, 0, 0, 0, 0, []), (91, .goto (-42), 3, false, 26, 0, 0, 0, 0, []), (94, .iload 4, 2, false, 0, 0, 0, 0, 0, []), (96, .ireturn, 1, false, 0, 0, 0, 0, 0, [])] i i lo st I L := rfl
set_option maxRecDepth 20000 in
theorem uX4_drop (sh : mm_S) (call : mm_C) (Q : mm_Q) (n i : Nat) (lo st : List Value) (I : mm_I) (L : mm_L) : mm_v sh call tbX4_drop Q (n + 1) i lo st I L = mm_vn sh call tbX4_drop Q n [(0, .aload_n 0, 1, false, 0, 0, 0, 0, 0, []), (1, .getfield 12, 3, false, 0, 0, 4, 0, 0, []), (4, .getfield 60, 3, false, 1, 4, 0, 0, 0, []), (7, .ifCond .gt 6, 3, false, 6, 0, 0, 0, 0, []), (10, .bipush (-3), 2, false, 0, 0, 0, 0, 0, []), (12, .ireturn, 1, false, 0, 0, 0, 0, 0, []), (13, .aload_n 0, 1, false, 0, 0, 0, 0, 0, []), (14, .getfield 12, 3, false, 0, 0, 4, 0, 0, []), (17, .dup, 1, false, 0, 0, 0, 0, 0, []), (18, .getfield 60, 3, false, 1, 4, 0, 0, 0, []), (21, .iconst 1, 1, false, 0, 0, 0, 0, 0, []), (22, .isub, 1, false, 0, 0, 0, 0, 0, []), (23, .putfield 60, 3, false, 1, 4, 0, 0, 0, []), (26, .aload_n 0, 1, false, 0, 0, 0, 0, 0, []), (27, .invokevirtual 67, 3, false, 56, 1, 0, 0, 0, []), (30, .aload_n 0, 1, false, 0, 0, 0, 0, 0, []), (31, .getfield 12, 3, false, 0, 0, 4, 0, 0, []), (34, .getfield 60, 3, false, 1, 4, 0, 0, 0, []), (37, .ireturn, 1, false, 0, 0, 0, 0, 0, [])] i i lo st I L := rfl
set_option maxRecDepth 20000 in
theorem uX4_fee (sh : mm_S) (call : mm_C) (Q : mm_Q) (n i : Nat) (lo st : List Value) (I : mm_I) (L : mm_L) : mm_v sh call tbX4_fee Q (n + 1) i lo st I L = mm_vn sh call tbX4_fee Q n [(0, .iload_n 1, 1, false, 0, 0, 0, 0, 0, []), (1, .ifCond .lt 9, 3, false, 5, 0, 0, 0, 0, []), (4, .iload_n 1, 1, false, 0, 0, 0, 0, 0, []), (5, .ldc 105, 2, false, 0, 0, 0, 0, 1000000, []), (7, .if_icmp .le 6, 3, false, 7, 0, 0, 0, 0, []), (10, .bipush (-2), 2, false, 0, 0, 0, 0, 0, []), (12, .ireturn, 1, false, 0, 0, 0, 0, 0, []), (13, .aload_n 0, 1, false, 0, 0, 0, 0, 0, []), (14, .getfield 26, 3, false, 0, 3, 0, 0, 0, []), (17, .istore_n 2, 1, false, 0, 0, 0, 0, 0, []), (18, .aload_n 0, 1, false, 0, 0, 0, 0, 0, []), (19, .iload_n 1, 1, false, 0, 0, 0, 0, 0, []), (20, .putfield 26, 3, false, 0, 3, 0, 0, 0, []), (23, .aload_n 0, 1, false, 0, 0, 0, 0, 0, []), (24, .invokevirtual 67, 3, false, 56, 1, 0, 0, 0, []), (27, .iload_n 2, 1, false, 0, 0, 0, 0, 0, []), (28, .ireturn, 1, false, 0, 0, 0, 0, 0, [])] i i lo st I L := rfl
set_option maxRecDepth 20000 in
theorem uX4_jump (sh : mm_S) (call : mm_C) (Q : mm_Q) (n i : Nat) (lo st : List Value) (I : mm_I) (L : mm_L) : mm_v sh call tbX4_jump Q (n + 1) i lo st I L = mm_vn sh call tbX4_jump Q n [(0, .aload_n 0, 1, false, 0, 0, 0, 0, 0, []), (1, .getfield 12, 3, false, 0, 0, 4, 0, 0, []), (4, .iload_n 1, 1, false, 0, 0, 0, 0, 0, []), (5, .invokevirtual 74, 3, false, 0, 2, 1, 1, 0, []), (8, .ifCond .eq 19, 3, false, 13, 0, 0, 0, 0, []), (11, .aload_n 0, 1, false, 0, 0, 0, 0, 0, []), (12, .getfield 12, 3, false, 0, 0, 4, 0, 0, []), (15, .iload_n 2, 1, false, 0, 0, 0, 0, 0, []), (16, .invokevirtual 74, 3, false, 0, 2, 1, 1, 0, []), (19, .ifCond .eq 8, 3, false, 13, 0, 0, 0, 0, []), (22, .iload_n 1, 1, false, 0, 0, 0, 0, 0, []), (23, .iload_n 2, 1, false, 0, 0, 0, 0, 0, []), (24, .if_icmp .ne 7, 3, false, 15, 0, 0, 0, 0, []), (27, .ldc2_w 77, 3, false, 0, 0, 0, 0, (-9223372036854775808), []), (30, .lreturn, 1, false, 0, 0, 0, 0, 0, []), (31, .aload_n 0, 1, false, 0, 0, 0, 0, 0, []), (32, .getfield 12, 3, false, 0, 0, 4, 0, 0, []), (35, .iload_n 1, 1, false, 0, 0, 0, 0, 0, []), (36, .iload_n 2, 1, false, 0, 0, 0, 0, 0, []), (37, .invokevirtual 106, 3, false, 4, 3, 2, 1, 0, []), (40, .lreturn, 1, false, 0, 0, 0, 0, 0, [])] i i lo st I L := rfl
set_option maxRecDepth 20000 in
theorem uX4_span (sh : mm_S) (call : mm_C) (Q : mm_Q) (n i : Nat) (lo st : List Value) (I : mm_I) (L : mm_L) : mm_v sh call tbX4_span Q (n + 1) i lo st I L = mm_vn sh call tbX4_span Q n [(0, .iload_n 1, 1, false, 0, 0, 0, 0, 0, []), (1, .ifCond .lt 18, 3, false, 9, 0, 0, 0, 0, []), (4, .iload_n 1, 1, false, 0, 0, 0, 0, 0, []), (5, .iconst 1, 1, false, 0, 0, 0, 0, 0, []), (6, .if_icmp .gt 13, 3, false, 9, 0, 0, 0, 0, []), (9, .aload_n 0, 1, false, 0, 0, 0, 0, 0, []), (10, .getfield 12, 3, false, 0, 0, 4, 0, 0, []), (13, .getfield 60, 3, false, 1, 4, 0, 0, 0, []), (16, .ifCond .gt 7, 3, false, 11, 0, 0, 0, 0, []), (19, .ldc2_w 77, 3, false, 0, 0, 0, 0, (-9223372036854775808), []), (22, .lreturn, 1, false, 0, 0, 0, 0, 0, []), (23, .iload_n 1, 1, false, 0, 0, 0, 0, 0, []), (24, .ifCond .ne 13, 3, false, 17, 0, 0, 0, 0, []), (27, .aload_n 0, 1, false, 0, 0, 0, 0, 0, []), (28, .getfield 12, 3, false, 0, 0, 4, 0, 0, []), (31, .invokevirtual 110, 3, false, 10, 1, 2, 1, 0, []), (34, .goto 10, 3, false, 20, 0, 0, 0, 0, []), (37, .aload_n 0, 1, false, 0, 0, 0, 0, 0, []), (38, .getfield 12, 3, false, 0, 0, 4, 0, 0, []), (41, .invokevirtual 114, 3, false, 11, 1, 2, 1, 0, []), (44, .lreturn, 1, false, 0, 0, 0, 0, 0, [])] i i lo st I L := rfl
set_option maxRecDepth 20000 in
theorem uX4_add (sh : mm_S) (call : mm_C) (Q : mm_Q) (n i : Nat) (lo st : List Value) (I : mm_I) (L : mm_L) : mm_v sh call tbX4_add Q (n + 1) i lo st I L = mm_vn sh call tbX4_add Q n [(0, .iload_n 1, 1, false, 0, 0, 0, 0, 0, []), (1, .ifCond .lt 13, 3, false, 7, 0, 0, 0, 0, []), (4, .iload_n 1, 1, false, 0, 0, 0, 0, 0, []), (5, .bipush 8, 2, false, 0, 0, 0, 0, 0, []), (7, .if_icmp .ge 7, 3, false, 7, 0, 0, 0, 0, []), (10, .iconst 1, 1, false, 0, 0, 0, 0, 0, []), (11, .goto 4, 3, false, 8, 0, 0, 0, 0, []), (14, .iconst 0, 1, false, 0, 0, 0, 0, 0, []), (15, .istore_n 2, 1, false, 0, 0, 0, 0, 0, []), (16, .iload_n 2, 1, false, 0, 0, 0, 0, 0, []), (17, .ifCond .ne 18, 3, false, 19, 0, 0, 0, 0, []), (20, .iload_n 1, 1, false, 0, 0, 0, 0, 0, []), (21, .bipush 20, 2, false, 0, 0, 0, 0, 0, []), (23, .if_icmp .eq 12, 3, false, 19, 0, 0, 0, 0, []), (26, .iload_n 1, 1, false, 0, 0, 0, 0, 0, []), (27, .bipush 21, 2, false, 0, 0, 0, 0, 0, []), (29, .if_icmp .eq 6, 3, false, 19, 0, 0, 0, 0, []), (32, .bipush (-2), 2, false, 0, 0, 0, 0, 0, []), (34, .ireturn, 1, false, 0, 0, 0, 0, 0, []), (35, .aload_n 0, 1, false, 0, 0, 0, 0, 0, []), (36, .getfield 22, 3, false, 0, 2, 0, 0, 0, []), (39, .bipush 40, 2, false, 0, 0, 0, 0, 0, []), (41, .if_icmp .lt 6, 3, false, 25, 0, 0, 0, 0, []), (44, .bipush (-4), 2, false, 0, 0, 0, 0, 0, []), (46, .ireturn, 1, false, 0, 0, 0, 0, 0, []), (47, .aload_n 0, 1, false, 0, 0, 0, 0, 0, []), (48, .getfield 18, 3, false, 0, 1, 9, 0, 0, []), (51, .aload_n 0, 1, false, 0, 0, 0, 0, 0, []), (52, .getfield 22, 3, false, 0, 2, 0, 0, 0, []), (55, .iload_n 1, 1, false, 0, 0, 0, 0, 0, []), (56, .iastore, 1, false, 0, 0, 0, 0, 0, []), (57, .aload_n 0, 1, false, 0, 0, 0, 0, 0, []), (58, .dup, 1, false, 0, 0, 0, 0, 0, []), (59, .getfield 22, 3, false, 0, 2, 0, 0, 0, []), (62, .iconst 1, 1, false, 0, 0, 0, 0, 0, []), (63, .iadd, 1, false, 0, 0, 0, 0, 0, []), (64, .putfield 22, 3, false, 0, 2, 0, 0, 0, []), (67, .aload_n 0, 1, false, 0, 0, 0, 0, 0, []), (68, .invokevirtual 67, 3, false, 56, 1, 0, 0, 0, []), (71, .aload_n 0, 1, false, 0, 0, 0, 0, 0, []), (72, .getfield 22, 3, false, 0, 2, 0, 0, 0, []), (75, .ireturn, 1, false, 0, 0, 0, 0, 0, [])] i i lo st I L := rfl
set_option maxRecDepth 20000 in
theorem uX4_cut (sh : mm_S) (call : mm_C) (Q : mm_Q) (n i : Nat) (lo st : List Value) (I : mm_I) (L : mm_L) : mm_v sh call tbX4_cut Q (n + 1) i lo st I L = mm_vn sh call tbX4_cut Q n [(0, .iload_n 1, 1, false, 0, 0, 0, 0, 0, []), (1, .ifCond .lt 11, 3, false, 6, 0, 0, 0, 0, []), (4, .iload_n 1, 1, false, 0, 0, 0, 0, 0, []), (5, .aload_n 0, 1, false, 0, 0, 0, 0, 0, []), (6, .getfield 22, 3, false, 0, 2, 0, 0, 0, []), (9, .if_icmp .le 6, 3, false, 8, 0, 0, 0, 0, []), (12, .bipush (-2), 2, false, 0, 0, 0, 0, 0, []), (14, .ireturn, 1, false, 0, 0, 0, 0, 0, []), (15, .aload_n 0, 1, false, 0, 0, 0, 0, 0, []), (16, .dup, 1, false, 0, 0, 0, 0, 0, []), (17, .getfield 22, 3, false, 0, 2, 0, 0, 0, []), (20, .iload_n 1, 1, false, 0, 0, 0, 0, 0, []), (21, .isub, 1, false, 0, 0, 0, 0, 0, []), (22, .putfield 22, 3, false, 0, 2, 0, 0, 0, []), (25, .aload_n 0, 1, false, 0, 0, 0, 0, 0, []), (26, .invokevirtual 67, 3, false, 56, 1, 0, 0, 0, []), (29, .aload_n 0, 1, false, 0, 0, 0, 0, 0, []), (30, .getfield 22, 3, false, 0, 2, 0, 0, 0, []), (33, .ireturn, 1, false, 0, 0, 0, 0, 0, [])] i i lo st I L := rfl
set_option maxRecDepth 20000 in
theorem uX4_judge (sh : mm_S) (call : mm_C) (Q : mm_Q) (n i : Nat) (lo st : List Value) (I : mm_I) (L : mm_L) : mm_v sh call tbX4_judge Q (n + 1) i lo st I L = mm_vn sh call tbX4_judge Q n [(0, .aload_n 0, 1, false, 0, 0, 0, 0, 0, []), (1, .dup, 1, false, 0, 0, 0, 0, 0, []), (2, .getfield 29, 3, false, 0, 4, 0, 0, 0, []), (5, .iconst 1, 1, false, 0, 0, 0, 0, 0, []), (6, .iadd, 1, false, 0, 0, 0, 0, 0, []), (7, .putfield 29, 3, false, 0, 4, 0, 0, 0, []), (10, .iload_n 1, 1, false, 0, 0, 0, 0, 0, []), (11, .ifCond .lt 8, 3, false, 11, 0, 0, 0, 0, []), (14, .iload_n 1, 1, false, 0, 0, 0, 0, 0, []), (15, .iconst 5, 1, false, 0, 0, 0, 0, 0, []), (16, .if_icmp .le 6, 3, false, 13, 0, 0, 0, 0, []), (19, .bipush (-2), 2, false, 0, 0, 0, 0, 0, []), (21, .ireturn, 1, false, 0, 0, 0, 0, 0, []), (22, .aload_n 0, 1, false, 0, 0, 0, 0, 0, []), (23, .getfield 35, 3, false, 0, 5, 10, 0, 0, []), (26, .aload_n 0, 1, false, 0, 0, 0, 0, 0, []), (27, .getfield 12, 3, false, 0, 0, 4, 0, 0, []), (30, .aload_n 0, 1, false, 0, 0, 0, 0, 0, []), (31, .getfield 18, 3, false, 0, 1, 9, 0, 0, []), (34, .aload_n 0, 1, false, 0, 0, 0, 0, 0, []), (35, .getfield 22, 3, false, 0, 2, 0, 0, 0, []), (38, .invokevirtual 117, 3, false, 28, 4, 0, 7, 0, []), (41, .iload_n 1, 1, false, 0, 0, 0, 0, 0, []), (42, .tableswitch 104 0 4 #[34, 57, 80, 88, 96], 34, false, 56, 0, 0, 0, 0, [24, 34, 44, 48, 52]), (76, .aload_n 0, 1, false, 0, 0, 0, 0, 0, []), (77, .getfield 35, 3, false, 0, 5, 10, 0, 0, []), (80, .invokevirtual 121, 3, false, 26, 1, 1, 7, 0, []), (83, .ifCond .eq 13, 3, false, 32, 0, 0, 0, 0, []), (86, .aload_n 0, 1, false, 0, 0, 0, 0, 0, []), (87, .getfield 35, 3, false, 0, 5, 10, 0, 0, []), (90, .getfield 125, 3, false, 7, 4, 0, 0, 0, []), (93, .goto 5, 3, false, 33, 0, 0, 0, 0, []), (96, .bipush (-9), 2, false, 0, 0, 0, 0, 0, []), (98, .ireturn, 1, false, 0, 0, 0, 0, 0, []), (99, .aload_n 0, 1, false, 0, 0, 0, 0, 0, []), (100, .getfield 35, 3, false, 0, 5, 10, 0, 0, []), (103, .invokevirtual 121, 3, false, 26, 1, 1, 7, 0, []), (106, .ifCond .eq 13, 3, false, 42, 0, 0, 0, 0, []), (109, .aload_n 0, 1, false, 0, 0, 0, 0, 0, []), (110, .getfield 35, 3, false, 0, 5, 10, 0, 0, []), (113, .getfield 128, 3, false, 7, 5, 0, 0, 0, []), (116, .goto 5, 3, false, 43, 0, 0, 0, 0, []), (119, .bipush (-9), 2, false, 0, 0, 0, 0, 0, []), (121, .ireturn, 1, false, 0, 0, 0, 0, 0, []), (122, .aload_n 0, 1, false, 0, 0, 0, 0, 0, []), (123, .getfield 35, 3, false, 0, 5, 10, 0, 0, []), (126, .getfield 131, 3, false, 7, 6, 0, 0, 0, []), (129, .ireturn, 1, false, 0, 0, 0, 0, 0, []), (130, .aload_n 0, 1, false, 0, 0, 0, 0, 0, []), (131, .getfield 35, 3, false, 0, 5, 10, 0, 0, []), (134, .getfield 134, 3, false, 7, 7, 0, 0, 0, []), (137, .ireturn, 1, false, 0, 0, 0, 0, 0, []), (138, .aload_n 0, 1, false, 0, 0, 0, 0, 0, []), (139, .getfield 35, 3, false, 0, 5, 10, 0, 0, []), (142, .getfield 137, 3, false, 7, 8, 0, 0, 0, []), (145, .ireturn, 1, false, 0, 0, 0, 0, 0, []), (146, .aload_n 0, 1, false, 0, 0, 0, 0, 0, []), (147, .getfield 35, 3, false, 0, 5, 10, 0, 0, []), (150, .getfield 140, 3, false, 7, 9, 0, 0, 0, []), (153, .ireturn, 1, false, 0, 0, 0, 0, 0, [])] i i lo st I L := rfl
set_option maxRecDepth 20000 in
theorem uX4_jumps (sh : mm_S) (call : mm_C) (Q : mm_Q) (n i : Nat) (lo st : List Value) (I : mm_I) (L : mm_L) : mm_v sh call tbX4_jumps Q (n + 1) i lo st I L = mm_vn sh call tbX4_jumps Q n [(0, .aload_n 0, 1, false, 0, 0, 0, 0, 0, []), (1, .dup, 1, false, 0, 0, 0, 0, 0, []), (2, .getfield 29, 3, false, 0, 4, 0, 0, 0, []), (5, .iconst 1, 1, false, 0, 0, 0, 0, 0, []), (6, .iadd, 1, false, 0, 0, 0, 0, 0, []), (7, .putfield 29, 3, false, 0, 4, 0, 0, 0, []), (10, .aload_n 0, 1, false, 0, 0, 0, 0, 0, []), (11, .getfield 35, 3, false, 0, 5, 10, 0, 0, []), (14, .aload_n 0, 1, false, 0, 0, 0, 0, 0, []), (15, .getfield 12, 3, false, 0, 0, 4, 0, 0, []), (18, .aload_n 0, 1, false, 0, 0, 0, 0, 0, []), (19, .getfield 18, 3, false, 0, 1, 9, 0, 0, []), (22, .aload_n 0, 1, false, 0, 0, 0, 0, 0, []), (23, .getfield 22, 3, false, 0, 2, 0, 0, 0, []), (26, .invokevirtual 117, 3, false, 28, 4, 0, 7, 0, []), (29, .aload_n 0, 1, false, 0, 0, 0, 0, 0, []), (30, .getfield 35, 3, false, 0, 5, 10, 0, 0, []), (33, .invokevirtual 121, 3, false, 26, 1, 1, 7, 0, []), (36, .ifCond .eq 6, 3, false, 21, 0, 0, 0, 0, []), (39, .bipush (-3), 2, false, 0, 0, 0, 0, 0, []), (41, .ireturn, 1, false, 0, 0, 0, 0, 0, []), (42, .aload_n 0, 1, false, 0, 0, 0, 0, 0, []), (43, .getfield 35, 3, false, 0, 5, 10, 0, 0, []), (46, .getfield 143, 3, false, 7, 10, 1, 0, 0, []), (49, .aload_n 0, 1, false, 0, 0, 0, 0, 0, []), (50, .getfield 26, 3, false, 0, 3, 0, 0, 0, []), (53, .i2l, 1, false, 0, 0, 0, 0, 0, []), (54, .aload_n 0, 1, false, 0, 0, 0, 0, 0, []), (55, .getfield 35, 3, false, 0, 5, 10, 0, 0, []), (58, .getfield 131, 3, false, 7, 6, 0, 0, 0, []), (61, .i2l, 1, false, 0, 0, 0, 0, 0, []), (62, .lmul, 1, false, 0, 0, 0, 0, 0, []), (63, .ladd, 1, false, 0, 0, 0, 0, 0, []), (64, .invokestatic 147, 3, false, 64, 1, 1, 0, 0, []), (67, .ireturn, 1, false, 0, 0, 0, 0, 0, [])] i i lo st I L := rfl
set_option maxRecDepth 20000 in
theorem uX4_told (sh : mm_S) (call : mm_C) (Q : mm_Q) (n i : Nat) (lo st : List Value) (I : mm_I) (L : mm_L) : mm_v sh call tbX4_told Q (n + 1) i lo st I L = mm_vn sh call tbX4_told Q n [(0, .aload_n 0, 1, false, 0, 0, 0, 0, 0, []), (1, .dup, 1, false, 0, 0, 0, 0, 0, []), (2, .getfield 29, 3, false, 0, 4, 0, 0, 0, []), (5, .iconst 1, 1, false, 0, 0, 0, 0, 0, []), (6, .iadd, 1, false, 0, 0, 0, 0, 0, []), (7, .putfield 29, 3, false, 0, 4, 0, 0, 0, []), (10, .aload_n 0, 1, false, 0, 0, 0, 0, 0, []), (11, .getfield 12, 3, false, 0, 0, 4, 0, 0, []), (14, .iload_n 1, 1, false, 0, 0, 0, 0, 0, []), (15, .invokevirtual 74, 3, false, 0, 2, 1, 1, 0, []), (18, .ifCond .ne 5, 3, false, 13, 0, 0, 0, 0, []), (21, .iconst (-1), 1, false, 0, 0, 0, 0, 0, []), (22, .ireturn, 1, false, 0, 0, 0, 0, 0, []), (23, .iload_n 2, 1, false, 0, 0, 0, 0, 0, []), (24, .ifCond .lt 8, 3, false, 18, 0, 0, 0, 0, []), (27, .iload_n 2, 1, false, 0, 0, 0, 0, 0, []), (28, .iconst 3, 1, false, 0, 0, 0, 0, 0, []), (29, .if_icmp .le 6, 3, false, 20, 0, 0, 0, 0, []), (32, .bipush (-2), 2, false, 0, 0, 0, 0, 0, []), (34, .ireturn, 1, false, 0, 0, 0, 0, 0, []), (35, .aload_n 0, 1, false, 0, 0, 0, 0, 0, []), (36, .getfield 35, 3, false, 0, 5, 10, 0, 0, []), (39, .aload_n 0, 1, false, 0, 0, 0, 0, 0, []), (40, .getfield 12, 3, false, 0, 0, 4, 0, 0, []), (43, .aload_n 0, 1, false, 0, 0, 0, 0, 0, []), (44, .getfield 18, 3, false, 0, 1, 9, 0, 0, []), (47, .aload_n 0, 1, false, 0, 0, 0, 0, 0, []), (48, .getfield 22, 3, false, 0, 2, 0, 0, 0, []), (51, .invokevirtual 117, 3, false, 28, 4, 0, 7, 0, []), (54, .aload_n 0, 1, false, 0, 0, 0, 0, 0, []), (55, .getfield 35, 3, false, 0, 5, 10, 0, 0, []), (58, .invokevirtual 121, 3, false, 26, 1, 1, 7, 0, []), (61, .ifCond .eq 6, 3, false, 35, 0, 0, 0, 0, []), (64, .bipush (-3), 2, false, 0, 0, 0, 0, 0, []), (66, .ireturn, 1, false, 0, 0, 0, 0, 0, []), (67, .aload_n 0, 1, false, 0, 0, 0, 0, 0, []), (68, .getfield 35, 3, false, 0, 5, 10, 0, 0, []), (71, .iload_n 1, 1, false, 0, 0, 0, 0, 0, []), (72, .invokevirtual 151, 3, false, 27, 2, 1, 7, 0, []), (75, .ifCond .ne 6, 3, false, 42, 0, 0, 0, 0, []), (78, .bipush (-9), 2, false, 0, 0, 0, 0, 0, []), (80, .ireturn, 1, false, 0, 0, 0, 0, 0, []), (81, .iload_n 2, 1, false, 0, 0, 0, 0, 0, []), (82, .tableswitch 74 0 2 #[26, 36, 46], 26, false, 71, 0, 0, 0, 0, [44, 50, 56]), (108, .aload_n 0, 1, false, 0, 0, 0, 0, 0, []), (109, .getfield 35, 3, false, 0, 5, 10, 0, 0, []), (112, .getfield 154, 3, false, 7, 0, 11, 0, 0, []), (115, .iload_n 1, 1, false, 0, 0, 0, 0, 0, []), (116, .iaload, 1, false, 0, 0, 0, 0, 0, []), (117, .ireturn, 1, false, 0, 0, 0, 0, 0, []), (118, .aload_n 0, 1, false, 0, 0, 0, 0, 0, []), (119, .getfield 35, 3, false, 0, 5, 10, 0, 0, []), (122, .getfield 157, 3, false, 7, 1, 12, 0, 0, []), (125, .iload_n 1, 1, false, 0, 0, 0, 0, 0, []), (126, .iaload, 1, false, 0, 0, 0, 0, 0, []), (127, .ireturn, 1, false, 0, 0, 0, 0, 0, []), (128, .aload_n 0, 1, false, 0, 0, 0, 0, 0, []), (129, .getfield 35, 3, false, 0, 5, 10, 0, 0, []), (132, .getfield 160, 3, false, 7, 2, 13, 0, 0, []), (135, .iload_n 1, 1, false, 0, 0, 0, 0, 0, []), (136, .iaload, 1, false, 0, 0, 0, 0, 0, []), (137, .iconst (-1), 1, false, 0, 0, 0, 0, 0, []), (138, .if_icmp .ne 8, 3, false, 65, 0, 0, 0, 0, []), (141, .bipush (-9), 2, false, 0, 0, 0, 0, 0, []), (143, .goto 12, 3, false, 70, 0, 0, 0, 0, []), (146, .aload_n 0, 1, false, 0, 0, 0, 0, 0, []), (147, .getfield 35, 3, false, 0, 5, 10, 0, 0, []), (150, .getfield 160, 3, false, 7, 2, 13, 0, 0, []), (153, .iload_n 1, 1, false, 0, 0, 0, 0, 0, []), (154, .iaload, 1, false, 0, 0, 0, 0, 0, []), (155, .ireturn, 1, false, 0, 0, 0, 0, 0, []), (156, .aload_n 0, 1, false, 0, 0, 0, 0, 0, []), (157, .getfield 35, 3, false, 0, 5, 10, 0, 0, []), (160, .getfield 163, 3, false, 7, 3, 14, 0, 0, []), (163, .iload_n 1, 1, false, 0, 0, 0, 0, 0, []), (164, .iaload, 1, false, 0, 0, 0, 0, 0, []), (165, .ireturn, 1, false, 0, 0, 0, 0, 0, [])] i i lo st I L := rfl
set_option maxRecDepth 20000 in
theorem uX4_order (sh : mm_S) (call : mm_C) (Q : mm_Q) (n i : Nat) (lo st : List Value) (I : mm_I) (L : mm_L) : mm_v sh call tbX4_order Q (n + 1) i lo st I L = mm_vn sh call tbX4_order Q n [(0, .iload_n 1, 1, false, 0, 0, 0, 0, 0, []), (1, .iconst (-1), 1, false, 0, 0, 0, 0, 0, []), (2, .if_icmp .lt 9, 3, false, 6, 0, 0, 0, 0, []), (5, .iload_n 1, 1, false, 0, 0, 0, 0, 0, []), (6, .bipush 8, 2, false, 0, 0, 0, 0, 0, []), (8, .if_icmp .lt 6, 3, false, 8, 0, 0, 0, 0, []), (11, .bipush (-2), 2, false, 0, 0, 0, 0, 0, []), (13, .ireturn, 1, false, 0, 0, 0, 0, 0, []), (14, .aload_n 0, 1, false, 0, 0, 0, 0, 0, []), (15, .getfield 45, 3, false, 0, 7, 16, 0, 0, []), (18, .getfield 166, 3, false, 13, 4, 2, 0, 0, []), (21, .ifCond .ne 14, 3, false, 17, 0, 0, 0, 0, []), (24, .aload_n 0, 1, false, 0, 0, 0, 0, 0, []), (25, .getfield 45, 3, false, 0, 7, 16, 0, 0, []), (28, .aload_n 0, 1, false, 0, 0, 0, 0, 0, []), (29, .getfield 12, 3, false, 0, 0, 4, 0, 0, []), (32, .invokevirtual 170, 3, false, 21, 2, 0, 13, 0, []), (35, .aload_n 0, 1, false, 0, 0, 0, 0, 0, []), (36, .getfield 45, 3, false, 0, 7, 16, 0, 0, []), (39, .getfield 174, 3, false, 13, 2, 0, 0, 0, []), (42, .ifCond .eq 14, 3, false, 26, 0, 0, 0, 0, []), (45, .iload_n 1, 1, false, 0, 0, 0, 0, 0, []), (46, .aload_n 0, 1, false, 0, 0, 0, 0, 0, []), (47, .getfield 45, 3, false, 0, 7, 16, 0, 0, []), (50, .getfield 174, 3, false, 13, 2, 0, 0, 0, []), (53, .if_icmp .lt 6, 3, false, 28, 0, 0, 0, 0, []), (56, .bipush (-9), 2, false, 0, 0, 0, 0, 0, []), (58, .ireturn, 1, false, 0, 0, 0, 0, 0, []), (59, .iload_n 1, 1, false, 0, 0, 0, 0, 0, []), (60, .ifCond .ge 16, 3, false, 35, 0, 0, 0, 0, []), (63, .aload_n 0, 1, false, 0, 0, 0, 0, 0, []), (64, .getfield 45, 3, false, 0, 7, 16, 0, 0, []), (67, .getfield 175, 3, false, 13, 3, 1, 0, 0, []), (70, .invokestatic 147, 3, false, 64, 1, 1, 0, 0, []), (73, .goto 12, 3, false, 40, 0, 0, 0, 0, []), (76, .aload_n 0, 1, false, 0, 0, 0, 0, 0, []), (77, .getfield 45, 3, false, 0, 7, 16, 0, 0, []), (80, .getfield 176, 3, false, 13, 1, 18, 0, 0, []), (83, .iload_n 1, 1, false, 0, 0, 0, 0, 0, []), (84, .iaload, 1, false, 0, 0, 0, 0, 0, []), (85, .ireturn, 1, false, 0, 0, 0, 0, 0, [])] i i lo st I L := rfl
set_option maxRecDepth 20000 in
theorem uX4_framed (sh : mm_S) (call : mm_C) (Q : mm_Q) (n i : Nat) (lo st : List Value) (I : mm_I) (L : mm_L) : mm_v sh call tbX4_framed Q (n + 1) i lo st I L = mm_vn sh call tbX4_framed Q n [(0, .iload_n 1, 1, false, 0, 0, 0, 0, 0, []), (1, .bipush (-2), 2, false, 0, 0, 0, 0, 0, []), (3, .if_icmp .lt 9, 3, false, 6, 0, 0, 0, 0, []), (6, .iload_n 1, 1, false, 0, 0, 0, 0, 0, []), (7, .bipush 40, 2, false, 0, 0, 0, 0, 0, []), (9, .if_icmp .lt 6, 3, false, 8, 0, 0, 0, 0, []), (12, .bipush (-2), 2, false, 0, 0, 0, 0, 0, []), (14, .ireturn, 1, false, 0, 0, 0, 0, 0, []), (15, .aload_n 0, 1, false, 0, 0, 0, 0, 0, []), (16, .getfield 52, 3, false, 0, 8, 19, 0, 0, []), (19, .getfield 179, 3, false, 16, 10, 2, 0, 0, []), (22, .ifCond .ne 7, 3, false, 14, 0, 0, 0, 0, []), (25, .aload_n 0, 1, false, 0, 0, 0, 0, 0, []), (26, .invokevirtual 180, 3, false, 57, 1, 0, 0, 0, []), (29, .aload_n 0, 1, false, 0, 0, 0, 0, 0, []), (30, .getfield 52, 3, false, 0, 8, 19, 0, 0, []), (33, .getfield 183, 3, false, 16, 8, 0, 0, 0, []), (36, .ifCond .ne 6, 3, false, 20, 0, 0, 0, 0, []), (39, .bipush (-3), 2, false, 0, 0, 0, 0, 0, []), (41, .ireturn, 1, false, 0, 0, 0, 0, 0, []), (42, .iload_n 1, 1, false, 0, 0, 0, 0, 0, []), (43, .bipush (-2), 2, false, 0, 0, 0, 0, 0, []), (45, .if_icmp .ne 11, 3, false, 27, 0, 0, 0, 0, []), (48, .aload_n 0, 1, false, 0, 0, 0, 0, 0, []), (49, .getfield 52, 3, false, 0, 8, 19, 0, 0, []), (52, .getfield 183, 3, false, 16, 8, 0, 0, 0, []), (55, .ireturn, 1, false, 0, 0, 0, 0, 0, []), (56, .iload_n 1, 1, false, 0, 0, 0, 0, 0, []), (57, .iconst (-1), 1, false, 0, 0, 0, 0, 0, []), (58, .if_icmp .ne 14, 3, false, 35, 0, 0, 0, 0, []), (61, .aload_n 0, 1, false, 0, 0, 0, 0, 0, []), (62, .getfield 52, 3, false, 0, 8, 19, 0, 0, []), (65, .getfield 184, 3, false, 16, 9, 1, 0, 0, []), (68, .invokestatic 147, 3, false, 64, 1, 1, 0, 0, []), (71, .ireturn, 1, false, 0, 0, 0, 0, 0, []), (72, .iload_n 1, 1, false, 0, 0, 0, 0, 0, []), (73, .aload_n 0, 1, false, 0, 0, 0, 0, 0, []), (74, .getfield 52, 3, false, 0, 8, 19, 0, 0, []), (77, .getfield 183, 3, false, 16, 8, 0, 0, 0, []), (80, .if_icmp .ge 15, 3, false, 46, 0, 0, 0, 0, []), (83, .aload_n 0, 1, false, 0, 0, 0, 0, 0, []), (84, .getfield 52, 3, false, 0, 8, 19, 0, 0, []), (87, .getfield 185, 3, false, 16, 7, 24, 0, 0, []), (90, .iload_n 1, 1, false, 0, 0, 0, 0, 0, []), (91, .iaload, 1, false, 0, 0, 0, 0, 0, []), (92, .goto 5, 3, false, 47, 0, 0, 0, 0, []), (95, .bipush (-9), 2, false, 0, 0, 0, 0, 0, []), (97, .ireturn, 1, false, 0, 0, 0, 0, 0, [])] i i lo st I L := rfl
set_option maxRecDepth 20000 in
theorem uX4_untangled (sh : mm_S) (call : mm_C) (Q : mm_Q) (n i : Nat) (lo st : List Value) (I : mm_I) (L : mm_L) : mm_v sh call tbX4_untangled Q (n + 1) i lo st I L = mm_vn sh call tbX4_untangled Q n [(0, .aload_n 0, 1, false, 0, 0, 0, 0, 0, []), (1, .invokevirtual 186, 3, false, 58, 1, 1, 0, 0, []), (4, .istore_n 1, 1, false, 0, 0, 0, 0, 0, []), (5, .aload_n 0, 1, false, 0, 0, 0, 0, 0, []), (6, .getfield 35, 3, false, 0, 5, 10, 0, 0, []), (9, .aload_n 0, 1, false, 0, 0, 0, 0, 0, []), (10, .getfield 12, 3, false, 0, 0, 4, 0, 0, []), (13, .aload_n 0, 1, false, 0, 0, 0, 0, 0, []), (14, .getfield 39, 3, false, 0, 6, 15, 0, 0, []), (17, .iload_n 1, 1, false, 0, 0, 0, 0, 0, []), (18, .invokevirtual 117, 3, false, 28, 4, 0, 7, 0, []), (21, .aload_n 0, 1, false, 0, 0, 0, 0, 0, []), (22, .getfield 35, 3, false, 0, 5, 10, 0, 0, []), (25, .invokevirtual 121, 3, false, 26, 1, 1, 7, 0, []), (28, .ifCond .eq 6, 3, false, 17, 0, 0, 0, 0, []), (31, .bipush (-3), 2, false, 0, 0, 0, 0, 0, []), (33, .ireturn, 1, false, 0, 0, 0, 0, 0, []), (34, .aload_n 0, 1, false, 0, 0, 0, 0, 0, []), (35, .getfield 35, 3, false, 0, 5, 10, 0, 0, []), (38, .getfield 143, 3, false, 7, 10, 1, 0, 0, []), (41, .lstore_n 2, 1, false, 0, 0, 0, 0, 0, []), (42, .bipush (-9), 2, false, 0, 0, 0, 0, 0, []), (44, .istore 4, 2, false, 0, 0, 0, 0, 0, []), (46, .iconst 0, 1, false, 0, 0, 0, 0, 0, []), (47, .istore 5, 2, false, 0, 0, 0, 0, 0, []), (49, .iload 5, 2, true, 0, 0, 0, 0, 0, []), (51, .iconst 1, 1, false, 0, 0, 0, 0, 0, []), (52, .iadd, 1, false, 0, 0, 0, 0, 0, []), (53, .iload_n 1, 1, false, 0, 0, 0, 0, 0, []), (54, .if_icmp .ge 80, 3, false, 67, 0, 0, 0, 0, []), (57, .iload 5, 2, false, 0, 0, 0, 0, 0, []), (59, .iconst 1, 1, false, 0, 0, 0, 0, 0, []), (60, .iadd, 1, false, 0, 0, 0, 0, 0, []), (61, .bipush 40, 2, false, 0, 0, 0, 0, 0, []), (63, .if_icmp .ge 71, 3, false, 67, 0, 0, 0, 0, []), (66, .aload_n 0, 1, false, 0, 0, 0, 0, 0, []), (67, .iload 5, 2, false, 0, 0, 0, 0, 0, []), (69, .invokevirtual 190, 3, false, 59, 2, 0, 0, 0, []), (72, .aload_n 0, 1, false, 0, 0, 0, 0, 0, []), (73, .getfield 35, 3, false, 0, 5, 10, 0, 0, []), (76, .aload_n 0, 1, false, 0, 0, 0, 0, 0, []), (77, .getfield 12, 3, false, 0, 0, 4, 0, 0, []), (80, .aload_n 0, 1, false, 0, 0, 0, 0, 0, []), (81, .getfield 39, 3, false, 0, 6, 15, 0, 0, []), (84, .iload_n 1, 1, false, 0, 0, 0, 0, 0, []), (85, .invokevirtual 117, 3, false, 28, 4, 0, 7, 0, []), (88, .aload_n 0, 1, false, 0, 0, 0, 0, 0, []), (89, .iload 5, 2, false, 0, 0, 0, 0, 0, []), (91, .invokevirtual 190, 3, false, 59, 2, 0, 0, 0, []), (94, .aload_n 0, 1, false, 0, 0, 0, 0, 0, []), (95, .getfield 35, 3, false, 0, 5, 10, 0, 0, []), (98, .invokevirtual 121, 3, false, 26, 1, 1, 7, 0, []), (101, .ifCond .ne 27, 3, false, 65, 0, 0, 0, 0, []), (104, .aload_n 0, 1, false, 0, 0, 0, 0, 0, []), (105, .getfield 35, 3, false, 0, 5, 10, 0, 0, []), (108, .getfield 143, 3, false, 7, 10, 1, 0, 0, []), (111, .lload_n 2, 1, false, 0, 0, 0, 0, 0, []), (112, .lcmp, 1, false, 0, 0, 0, 0, 0, []), (113, .ifCond .ge 15, 3, false, 65, 0, 0, 0, 0, []), (116, .aload_n 0, 1, false, 0, 0, 0, 0, 0, []), (117, .getfield 35, 3, false, 0, 5, 10, 0, 0, []), (120, .getfield 143, 3, false, 7, 10, 1, 0, 0, []), (123, .lstore_n 2, 1, false, 0, 0, 0, 0, 0, []), (124, .iload 5, 2, false, 0, 0, 0, 0, 0, []), (126, .istore 4, 2, false, 0, 0, 0, 0, 0, []), (128, .iinc 5 1, 3, false, 0, 0, 0, 0, 0, []), (131, .goto (-82), 3, false, 25, 0, 0, 0, 0, []), (134, .iload 4, 2, false, 0, 0, 0, 0, 0, []), (136, .ireturn, 1, false, 0, 0, 0, 0, 0, [])] i i lo st I L := rfl
set_option maxRecDepth 20000 in
theorem hX4_untangled (sh : mm_S) (call : mm_C) (Q : mm_Q) (n i : Nat) (lo st : List Value) (I : mm_I) (L : mm_L) : mm_h sh call tbX4_untangled Q n i lo st I L = mm_hn sh call tbX4_untangled Q n [(0, .aload_n 0, 1, false, 0, 0, 0, 0, 0, []), (1, .invokevirtual 186, 3, false, 58, 1, 1, 0, 0, []), (4, .istore_n 1, 1, false, 0, 0, 0, 0, 0, []), (5, .aload_n 0, 1, false, 0, 0, 0, 0, 0, []), (6, .getfield 35, 3, false, 0, 5, 10, 0, 0, []), (9, .aload_n 0, 1, false, 0, 0, 0, 0, 0, []), (10, .getfield 12, 3, false, 0, 0, 4, 0, 0, []), (13, .aload_n 0, 1, false, 0, 0, 0, 0, 0, []), (14, .getfield 39, 3, false, 0, 6, 15, 0, 0, []), (17, .iload_n 1, 1, false, 0, 0, 0, 0, 0, []), (18, .invokevirtual 117, 3, false, 28, 4, 0, 7, 0, []), (21, .aload_n 0, 1, false, 0, 0, 0, 0, 0, []), (22, .getfield 35, 3, false, 0, 5, 10, 0, 0, []), (25, .invokevirtual 121, 3, false, 26, 1, 1, 7, 0, []), (28, .ifCond .eq 6, 3, false, 17, 0, 0, 0, 0, []), (31, .bipush (-3), 2, false, 0, 0, 0, 0, 0, []), (33, .ireturn, 1, false, 0, 0, 0, 0, 0, []), (34, .aload_n 0, 1, false, 0, 0, 0, 0, 0, []), (35, .getfield 35, 3, false, 0, 5, 10, 0, 0, []), (38, .getfield 143, 3, false, 7, 10, 1, 0, 0, []), (41, .lstore_n 2, 1, false, 0, 0, 0, 0, 0, []), (42, .bipush (-9), 2, false, 0, 0, 0, 0, 0, []), (44, .istore 4, 2, false, 0, 0, 0, 0, 0, []), (46, .iconst 0, 1, false, 0, 0, 0, 0, 0, []), (47, .istore 5, 2, false, 0, 0, 0, 0, 0, []), (49, .iload 5, 2, true, 0, 0, 0, 0, 0, []), (51, .iconst 1, 1, false, 0, 0, 0, 0, 0, []), (52, .iadd, 1, false, 0, 0, 0, 0, 0, []), (53, .iload_n 1, 1, false, 0, 0, 0, 0, 0, []), (54, .if_icmp .ge 80, 3, false, 67, 0, 0, 0, 0, []), (57, .iload 5, 2, false, 0, 0, 0, 0, 0, []), (59, .iconst 1, 1, false, 0, 0, 0, 0, 0, []), (60, .iadd, 1, false, 0, 0, 0, 0, 0, []), (61, .bipush 40, 2, false, 0, 0, 0, 0, 0, []), (63, .if_icmp .ge 71, 3, false, 67, 0, 0, 0, 0, []), (66, .aload_n 0, 1, false, 0, 0, 0, 0, 0, []), (67, .iload 5, 2, false, 0, 0, 0, 0, 0, []), (69, .invokevirtual 190, 3, false, 59, 2, 0, 0, 0, []), (72, .aload_n 0, 1, false, 0, 0, 0, 0, 0, []), (73, .getfield 35, 3, false, 0, 5, 10, 0, 0, []), (76, .aload_n 0, 1, false, 0, 0, 0, 0, 0, []), (77, .getfield 12, 3, false, 0, 0, 4, 0, 0, []), (80, .aload_n 0, 1, false, 0, 0, 0, 0, 0, []), (81, .getfield 39, 3, false, 0, 6, 15, 0, 0, []), (84, .iload_n 1, 1, false, 0, 0, 0, 0, 0, []), (85, .invokevirtual 117, 3, false, 28, 4, 0, 7, 0, []), (88, .aload_n 0, 1, false, 0, 0, 0, 0, 0, []), (89, .iload 5, 2, false, 0, 0, 0, 0, 0, []), (91, .invokevirtual 190, 3, false, 59, 2, 0, 0, 0, []), (94, .aload_n 0, 1, false, 0, 0, 0, 0, 0, []), (95, .getfield 35, 3, false, 0, 5, 10, 0, 0, []), (98, .invokevirtual 121, 3, false, 26, 1, 1, 7, 0, []), (101, .ifCond .ne 27, 3, false, 65, 0, 0, 0, 0, []), (104, .aload_n 0, 1, false, 0, 0, 0, 0, 0, []), (105, .getfield 35, 3, false, 0, 5, 10, 0, 0, []), (108, .getfield 143, 3, false, 7, 10, 1, 0, 0, []), (111, .lload_n 2, 1, false, 0, 0, 0, 0, 0, []), (112, .lcmp, 1, false, 0, 0, 0, 0, 0, []), (113, .ifCond .ge 15, 3, false, 65, 0, 0, 0, 0, []), (116, .aload_n 0, 1, false, 0, 0, 0, 0, 0, []), (117, .getfield 35, 3, false, 0, 5, 10, 0, 0, []), (120, .getfield 143, 3, false, 7, 10, 1, 0, 0, []), (123, .lstore_n 2, 1, false, 0, 0, 0, 0, 0, []), (124, .iload 5, 2, false, 0, 0, 0, 0, 0, []), (126, .istore 4, 2, false, 0, 0, 0, 0, 0, []), (128, .iinc 5 1, 3, false, 0, 0, 0, 0, 0, []), (131, .goto (-82), 3, false, 25, 0, 0, 0, 0, []), (134, .iload 4, 2, false, 0, 0, 0, 0, 0, []), (136, .ireturn, 1, false, 0, 0, 0, 0, 0, [])] i i lo st I L := rfl
set_option maxRecDepth 20000 in
theorem uX4_many (sh : mm_S) (call : mm_C) (Q : mm_Q) (n i : Nat) (lo st : List Value) (I : mm_I) (L : mm_L) : mm_v sh call tbX4_many Q (n + 1) i lo st I L = mm_vn sh call tbX4_many Q n [(0, .iload_n 1, 1, false, 0, 0, 0, 0, 0, []), (1, .tableswitch 86 0 4 #[35, 43, 48, 53, 58], 35, false, 29, 0, 0, 0, 0, [2, 6, 9, 12, 15]), (36, .aload_n 0, 1, false, 0, 0, 0, 0, 0, []), (37, .getfield 12, 3, false, 0, 0, 4, 0, 0, []), (40, .getfield 60, 3, false, 1, 4, 0, 0, 0, []), (43, .ireturn, 1, false, 0, 0, 0, 0, 0, []), (44, .aload_n 0, 1, false, 0, 0, 0, 0, 0, []), (45, .getfield 22, 3, false, 0, 2, 0, 0, 0, []), (48, .ireturn, 1, false, 0, 0, 0, 0, 0, []), (49, .aload_n 0, 1, false, 0, 0, 0, 0, 0, []), (50, .getfield 26, 3, false, 0, 3, 0, 0, 0, []), (53, .ireturn, 1, false, 0, 0, 0, 0, 0, []), (54, .aload_n 0, 1, false, 0, 0, 0, 0, 0, []), (55, .getfield 29, 3, false, 0, 4, 0, 0, 0, []), (58, .ireturn, 1, false, 0, 0, 0, 0, 0, []), (59, .aload_n 0, 1, false, 0, 0, 0, 0, 0, []), (60, .getfield 12, 3, false, 0, 0, 4, 0, 0, []), (63, .invokevirtual 194, 3, false, 8, 1, 1, 1, 0, []), (66, .aload_n 0, 1, false, 0, 0, 0, 0, 0, []), (67, .getfield 12, 3, false, 0, 0, 4, 0, 0, []), (70, .aload_n 0, 1, false, 0, 0, 0, 0, 0, []), (71, .getfield 12, 3, false, 0, 0, 4, 0, 0, []), (74, .invokevirtual 197, 3, false, 6, 1, 1, 1, 0, []), (77, .invokevirtual 200, 3, false, 7, 2, 1, 1, 0, []), (80, .iconst (-1), 1, false, 0, 0, 0, 0, 0, []), (81, .ixor, 1, false, 0, 0, 0, 0, 0, []), (82, .iand, 1, false, 0, 0, 0, 0, 0, []), (83, .invokestatic 204, 3, false, 65, 1, 1, 0, 0, []), (86, .ireturn, 1, false, 0, 0, 0, 0, 0, []), (87, .bipush (-2), 2, false, 0, 0, 0, 0, 0, []), (89, .ireturn, 1, false, 0, 0, 0, 0, 0, [])] i i lo st I L := rfl
set_option maxRecDepth 20000 in
theorem uX4_forgetBest (sh : mm_S) (call : mm_C) (Q : mm_Q) (n i : Nat) (lo st : List Value) (I : mm_I) (L : mm_L) : mm_v sh call tbX4_forgetBest Q (n + 1) i lo st I L = mm_vn sh call tbX4_forgetBest Q n [(0, .aload_n 0, 1, false, 0, 0, 0, 0, 0, []), (1, .getfield 45, 3, false, 0, 7, 16, 0, 0, []), (4, .iconst 0, 1, false, 0, 0, 0, 0, 0, []), (5, .putfield 166, 3, false, 13, 4, 2, 0, 0, []), (8, .aload_n 0, 1, false, 0, 0, 0, 0, 0, []), (9, .getfield 52, 3, false, 0, 8, 19, 0, 0, []), (12, .iconst 0, 1, false, 0, 0, 0, 0, 0, []), (13, .putfield 179, 3, false, 16, 10, 2, 0, 0, []), (16, .return_, 1, false, 0, 0, 0, 0, 0, [])] i i lo st I L := rfl
set_option maxRecDepth 20000 in
theorem uX4_findFrames (sh : mm_S) (call : mm_C) (Q : mm_Q) (n i : Nat) (lo st : List Value) (I : mm_I) (L : mm_L) : mm_v sh call tbX4_findFrames Q (n + 1) i lo st I L = mm_vn sh call tbX4_findFrames Q n [(0, .aload_n 0, 1, false, 0, 0, 0, 0, 0, []), (1, .invokevirtual 186, 3, false, 58, 1, 1, 0, 0, []), (4, .istore_n 1, 1, false, 0, 0, 0, 0, 0, []), (5, .aload_n 0, 1, false, 0, 0, 0, 0, 0, []), (6, .getfield 35, 3, false, 0, 5, 10, 0, 0, []), (9, .aload_n 0, 1, false, 0, 0, 0, 0, 0, []), (10, .getfield 12, 3, false, 0, 0, 4, 0, 0, []), (13, .aload_n 0, 1, false, 0, 0, 0, 0, 0, []), (14, .getfield 39, 3, false, 0, 6, 15, 0, 0, []), (17, .iload_n 1, 1, false, 0, 0, 0, 0, 0, []), (18, .invokevirtual 117, 3, false, 28, 4, 0, 7, 0, []), (21, .aload_n 0, 1, false, 0, 0, 0, 0, 0, []), (22, .getfield 35, 3, false, 0, 5, 10, 0, 0, []), (25, .invokevirtual 121, 3, false, 26, 1, 1, 7, 0, []), (28, .ifCond .eq 5, 3, false, 17, 0, 0, 0, 0, []), (31, .iconst 0, 1, false, 0, 0, 0, 0, 0, []), (32, .istore_n 1, 1, false, 0, 0, 0, 0, 0, []), (33, .aload_n 0, 1, false, 0, 0, 0, 0, 0, []), (34, .getfield 52, 3, false, 0, 8, 19, 0, 0, []), (37, .aload_n 0, 1, false, 0, 0, 0, 0, 0, []), (38, .getfield 12, 3, false, 0, 0, 4, 0, 0, []), (41, .aload_n 0, 1, false, 0, 0, 0, 0, 0, []), (42, .getfield 39, 3, false, 0, 6, 15, 0, 0, []), (45, .iload_n 1, 1, false, 0, 0, 0, 0, 0, []), (46, .aload_n 0, 1, false, 0, 0, 0, 0, 0, []), (47, .getfield 26, 3, false, 0, 3, 0, 0, 0, []), (50, .invokevirtual 209, 3, false, 14, 5, 0, 16, 0, []), (53, .return_, 1, false, 0, 0, 0, 0, 0, [])] i i lo st I L := rfl
set_option maxRecDepth 20000 in
theorem uX4_writeRow (sh : mm_S) (call : mm_C) (Q : mm_Q) (n i : Nat) (lo st : List Value) (I : mm_I) (L : mm_L) : mm_v sh call tbX4_writeRow Q (n + 1) i lo st I L = mm_vn sh call tbX4_writeRow Q n [(0, .iconst 0, 1, false, 0, 0, 0, 0, 0, []), (1, .istore_n 1, 1, false, 0, 0, 0, 0, 0, []), (2, .iconst 0, 1, false, 0, 0, 0, 0, 0, []), (3, .istore_n 2, 1, false, 0, 0, 0, 0, 0, []), (4, .iload_n 2, 1, true, 0, 0, 0, 0, 0, []), (5, .aload_n 0, 1, false, 0, 0, 0, 0, 0, []), (6, .getfield 22, 3, false, 0, 2, 0, 0, 0, []), (9, .if_icmp .ge 41, 3, false, 28, 0, 0, 0, 0, []), (12, .iload_n 2, 1, false, 0, 0, 0, 0, 0, []), (13, .bipush 40, 2, false, 0, 0, 0, 0, 0, []), (15, .if_icmp .ge 35, 3, false, 28, 0, 0, 0, 0, []), (18, .aload_n 0, 1, false, 0, 0, 0, 0, 0, []), (19, .getfield 18, 3, false, 0, 1, 9, 0, 0, []), (22, .iload_n 2, 1, false, 0, 0, 0, 0, 0, []), (23, .iaload, 1, false, 0, 0, 0, 0, 0, []), (24, .bipush 8, 2, false, 0, 0, 0, 0, 0, []), (26, .if_icmp .ge 18, 3, false, 26, 0, 0, 0, 0, []), (29, .aload_n 0, 1, false, 0, 0, 0, 0, 0, []), (30, .getfield 39, 3, false, 0, 6, 15, 0, 0, []), (33, .iload_n 1, 1, false, 0, 0, 0, 0, 0, []), (34, .aload_n 0, 1, false, 0, 0, 0, 0, 0, []), (35, .getfield 18, 3, false, 0, 1, 9, 0, 0, []), (38, .iload_n 2, 1, false, 0, 0, 0, 0, 0, []), (39, .iaload, 1, false, 0, 0, 0, 0, 0, []), (40, .iastore, 1, false, 0, 0, 0, 0, 0, []), (41, .iinc 1 1, 3, false, 0, 0, 0, 0, 0, []), (44, .iinc 2 1, 3, false, 0, 0, 0, 0, 0, []), (47, .goto (-43), 3, false, 4, 0, 0, 0, 0, []), (50, .iload_n 1, 1, false, 0, 0, 0, 0, 0, []), (51, .ireturn, 1, false, 0, 0, 0, 0, 0, [])] i i lo st I L := rfl
set_option maxRecDepth 20000 in
theorem hX4_writeRow (sh : mm_S) (call : mm_C) (Q : mm_Q) (n i : Nat) (lo st : List Value) (I : mm_I) (L : mm_L) : mm_h sh call tbX4_writeRow Q n i lo st I L = mm_hn sh call tbX4_writeRow Q n [(0, .iconst 0, 1, false, 0, 0, 0, 0, 0, []), (1, .istore_n 1, 1, false, 0, 0, 0, 0, 0, []), (2, .iconst 0, 1, false, 0, 0, 0, 0, 0, []), (3, .istore_n 2, 1, false, 0, 0, 0, 0, 0, []), (4, .iload_n 2, 1, true, 0, 0, 0, 0, 0, []), (5, .aload_n 0, 1, false, 0, 0, 0, 0, 0, []), (6, .getfield 22, 3, false, 0, 2, 0, 0, 0, []), (9, .if_icmp .ge 41, 3, false, 28, 0, 0, 0, 0, []), (12, .iload_n 2, 1, false, 0, 0, 0, 0, 0, []), (13, .bipush 40, 2, false, 0, 0, 0, 0, 0, []), (15, .if_icmp .ge 35, 3, false, 28, 0, 0, 0, 0, []), (18, .aload_n 0, 1, false, 0, 0, 0, 0, 0, []), (19, .getfield 18, 3, false, 0, 1, 9, 0, 0, []), (22, .iload_n 2, 1, false, 0, 0, 0, 0, 0, []), (23, .iaload, 1, false, 0, 0, 0, 0, 0, []), (24, .bipush 8, 2, false, 0, 0, 0, 0, 0, []), (26, .if_icmp .ge 18, 3, false, 26, 0, 0, 0, 0, []), (29, .aload_n 0, 1, false, 0, 0, 0, 0, 0, []), (30, .getfield 39, 3, false, 0, 6, 15, 0, 0, []), (33, .iload_n 1, 1, false, 0, 0, 0, 0, 0, []), (34, .aload_n 0, 1, false, 0, 0, 0, 0, 0, []), (35, .getfield 18, 3, false, 0, 1, 9, 0, 0, []), (38, .iload_n 2, 1, false, 0, 0, 0, 0, 0, []), (39, .iaload, 1, false, 0, 0, 0, 0, 0, []), (40, .iastore, 1, false, 0, 0, 0, 0, 0, []), (41, .iinc 1 1, 3, false, 0, 0, 0, 0, 0, []), (44, .iinc 2 1, 3, false, 0, 0, 0, 0, 0, []), (47, .goto (-43), 3, false, 4, 0, 0, 0, 0, []), (50, .iload_n 1, 1, false, 0, 0, 0, 0, 0, []), (51, .ireturn, 1, false, 0, 0, 0, 0, 0, [])] i i lo st I L := rfl
set_option maxRecDepth 20000 in
theorem uX4_changePlaces (sh : mm_S) (call : mm_C) (Q : mm_Q) (n i : Nat) (lo st : List Value) (I : mm_I) (L : mm_L) : mm_v sh call tbX4_changePlaces Q (n + 1) i lo st I L = mm_vn sh call tbX4_changePlaces Q n [(0, .aload_n 0, 1, false, 0, 0, 0, 0, 0, []), (1, .getfield 39, 3, false, 0, 6, 15, 0, 0, []), (4, .iload_n 1, 1, false, 0, 0, 0, 0, 0, []), (5, .iaload, 1, false, 0, 0, 0, 0, 0, []), (6, .istore_n 2, 1, false, 0, 0, 0, 0, 0, []), (7, .aload_n 0, 1, false, 0, 0, 0, 0, 0, []), (8, .getfield 39, 3, false, 0, 6, 15, 0, 0, []), (11, .iload_n 1, 1, false, 0, 0, 0, 0, 0, []), (12, .aload_n 0, 1, false, 0, 0, 0, 0, 0, []), (13, .getfield 39, 3, false, 0, 6, 15, 0, 0, []), (16, .iload_n 1, 1, false, 0, 0, 0, 0, 0, []), (17, .iconst 1, 1, false, 0, 0, 0, 0, 0, []), (18, .iadd, 1, false, 0, 0, 0, 0, 0, []), (19, .iaload, 1, false, 0, 0, 0, 0, 0, []), (20, .iastore, 1, false, 0, 0, 0, 0, 0, []), (21, .aload_n 0, 1, false, 0, 0, 0, 0, 0, []), (22, .getfield 39, 3, false, 0, 6, 15, 0, 0, []), (25, .iload_n 1, 1, false, 0, 0, 0, 0, 0, []), (26, .iconst 1, 1, false, 0, 0, 0, 0, 0, []), (27, .iadd, 1, false, 0, 0, 0, 0, 0, []), (28, .iload_n 2, 1, false, 0, 0, 0, 0, 0, []), (29, .iastore, 1, false, 0, 0, 0, 0, 0, []), (30, .return_, 1, false, 0, 0, 0, 0, 0, [])] i i lo st I L := rfl
set_option maxRecDepth 20000 in
theorem uX4_isClue (sh : mm_S) (call : mm_C) (Q : mm_Q) (n i : Nat) (lo st : List Value) (I : mm_I) (L : mm_L) : mm_v sh call tbX4_isClue Q (n + 1) i lo st I L = mm_vn sh call tbX4_isClue Q n [(0, .iload_n 0, 1, false, 0, 0, 0, 0, 0, []), (1, .ifCond .lt 13, 3, false, 7, 0, 0, 0, 0, []), (4, .iload_n 0, 1, false, 0, 0, 0, 0, 0, []), (5, .bipush 8, 2, false, 0, 0, 0, 0, 0, []), (7, .if_icmp .ge 7, 3, false, 7, 0, 0, 0, 0, []), (10, .iconst 1, 1, false, 0, 0, 0, 0, 0, []), (11, .goto 4, 3, false, 8, 0, 0, 0, 0, []), (14, .iconst 0, 1, false, 0, 0, 0, 0, 0, []), (15, .ireturn, 1, false, 0, 0, 1, 0, 0, [])] i i lo st I L := rfl
set_option maxRecDepth 20000 in
theorem uX4_isClueSet (sh : mm_S) (call : mm_C) (Q : mm_Q) (n i : Nat) (lo st : List Value) (I : mm_I) (L : mm_L) : mm_v sh call tbX4_isClueSet Q (n + 1) i lo st I L = mm_vn sh call tbX4_isClueSet Q n [(0, .iload_n 0, 1, false, 0, 0, 0, 0, 0, []), (1, .ifCond .lt 14, 3, false, 7, 0, 0, 0, 0, []), (4, .iload_n 0, 1, false, 0, 0, 0, 0, 0, []), (5, .sipush 255, 3, false, 0, 0, 0, 0, 0, []), (8, .if_icmp .gt 7, 3, false, 7, 0, 0, 0, 0, []), (11, .iconst 1, 1, false, 0, 0, 0, 0, 0, []), (12, .goto 4, 3, false, 8, 0, 0, 0, 0, []), (15, .iconst 0, 1, false, 0, 0, 0, 0, 0, []), (16, .ireturn, 1, false, 0, 0, 1, 0, 0, [])] i i lo st I L := rfl
set_option maxRecDepth 20000 in
theorem uX4_isIn (sh : mm_S) (call : mm_C) (Q : mm_Q) (n i : Nat) (lo st : List Value) (I : mm_I) (L : mm_L) : mm_v sh call tbX4_isIn Q (n + 1) i lo st I L = mm_vn sh call tbX4_isIn Q n [(0, .iload_n 0, 1, false, 0, 0, 0, 0, 0, []), (1, .iload_n 1, 1, false, 0, 0, 0, 0, 0, []), (2, .ishr, 1, false, 0, 0, 0, 0, 0, []), (3, .iconst 1, 1, false, 0, 0, 0, 0, 0, []), (4, .iand, 1, false, 0, 0, 0, 0, 0, []), (5, .iconst 1, 1, false, 0, 0, 0, 0, 0, []), (6, .if_icmp .ne 7, 3, false, 9, 0, 0, 0, 0, []), (9, .iconst 1, 1, false, 0, 0, 0, 0, 0, []), (10, .goto 4, 3, false, 10, 0, 0, 0, 0, []), (13, .iconst 0, 1, false, 0, 0, 0, 0, 0, []), (14, .ireturn, 1, false, 0, 0, 1, 0, 0, [])] i i lo st I L := rfl
set_option maxRecDepth 20000 in
theorem uX4_fitsInt (sh : mm_S) (call : mm_C) (Q : mm_Q) (n i : Nat) (lo st : List Value) (I : mm_I) (L : mm_L) : mm_v sh call tbX4_fitsInt Q (n + 1) i lo st I L = mm_vn sh call tbX4_fitsInt Q n [(0, .lload_n 0, 1, false, 0, 0, 0, 0, 0, []), (1, .ldc2_w 212, 3, false, 0, 0, 0, 0, (-2147483648), []), (4, .lcmp, 1, false, 0, 0, 0, 0, 0, []), (5, .ifCond .lt 15, 3, false, 10, 0, 0, 0, 0, []), (8, .lload_n 0, 1, false, 0, 0, 0, 0, 0, []), (9, .ldc2_w 214, 3, false, 0, 0, 0, 0, 2147483647, []), (12, .lcmp, 1, false, 0, 0, 0, 0, 0, []), (13, .ifCond .gt 7, 3, false, 10, 0, 0, 0, 0, []), (16, .iconst 1, 1, false, 0, 0, 0, 0, 0, []), (17, .goto 4, 3, false, 11, 0, 0, 0, 0, []), (20, .iconst 0, 1, false, 0, 0, 0, 0, 0, []), (21, .ireturn, 1, false, 0, 0, 1, 0, 0, [])] i i lo st I L := rfl
set_option maxRecDepth 20000 in
theorem uX4_intOrOver (sh : mm_S) (call : mm_C) (Q : mm_Q) (n i : Nat) (lo st : List Value) (I : mm_I) (L : mm_L) : mm_v sh call tbX4_intOrOver Q (n + 1) i lo st I L = mm_vn sh call tbX4_intOrOver Q n [(0, .lload_n 0, 1, false, 0, 0, 0, 0, 0, []), (1, .invokestatic 63, 3, false, 63, 1, 1, 0, 0, []), (4, .ifCond .eq 8, 3, false, 6, 0, 0, 0, 0, []), (7, .lload_n 0, 1, false, 0, 0, 0, 0, 0, []), (8, .l2i, 1, false, 0, 0, 0, 0, 0, []), (9, .goto 5, 3, false, 7, 0, 0, 0, 0, []), (12, .bipush (-5), 2, false, 0, 0, 0, 0, 0, []), (14, .ireturn, 1, false, 0, 0, 0, 0, 0, [])] i i lo st I L := rfl
set_option maxRecDepth 20000 in
theorem uJ6_bitCount_0f7a4 (sh : mm_S) (call : mm_C) (Q : mm_Q) (n i : Nat) (lo st : List Value) (I : mm_I) (L : mm_L) : mm_v sh call tbJ6_bitCount_0f7a4 Q (n + 1) i lo st I L = mm_vn sh call tbJ6_bitCount_0f7a4 Q n [(0, .iload_n 0, 1, false, 0, 0, 0, 0, 0, []), (1, .iload_n 0, 1, false, 0, 0, 0, 0, 0, []), (2, .iconst 1, 1, false, 0, 0, 0, 0, 0, []), (3, .iushr, 1, false, 0, 0, 0, 0, 0, []), (4, .ldc_w 265, 3, false, 0, 0, 0, 0, 1431655765, []), (7, .iand, 1, false, 0, 0, 0, 0, 0, []), (8, .isub, 1, false, 0, 0, 0, 0, 0, []), (9, .istore_n 0, 1, false, 0, 0, 0, 0, 0, []), (10, .iload_n 0, 1, false, 0, 0, 0, 0, 0, []), (11, .ldc_w 266, 3, false, 0, 0, 0, 0, 858993459, []), (14, .iand, 1, false, 0, 0, 0, 0, 0, []), (15, .iload_n 0, 1, false, 0, 0, 0, 0, 0, []), (16, .iconst 2, 1, false, 0, 0, 0, 0, 0, []), (17, .iushr, 1, false, 0, 0, 0, 0, 0, []), (18, .ldc_w 266, 3, false, 0, 0, 0, 0, 858993459, []), (21, .iand, 1, false, 0, 0, 0, 0, 0, []), (22, .iadd, 1, false, 0, 0, 0, 0, 0, []), (23, .istore_n 0, 1, false, 0, 0, 0, 0, 0, []), (24, .iload_n 0, 1, false, 0, 0, 0, 0, 0, []), (25, .iload_n 0, 1, false, 0, 0, 0, 0, 0, []), (26, .iconst 4, 1, false, 0, 0, 0, 0, 0, []), (27, .iushr, 1, false, 0, 0, 0, 0, 0, []), (28, .iadd, 1, false, 0, 0, 0, 0, 0, []), (29, .ldc_w 267, 3, false, 0, 0, 0, 0, 252645135, []), (32, .iand, 1, false, 0, 0, 0, 0, 0, []), (33, .istore_n 0, 1, false, 0, 0, 0, 0, 0, []), (34, .iload_n 0, 1, false, 0, 0, 0, 0, 0, []), (35, .iload_n 0, 1, false, 0, 0, 0, 0, 0, []), (36, .bipush 8, 2, false, 0, 0, 0, 0, 0, []), (38, .iushr, 1, false, 0, 0, 0, 0, 0, []), (39, .iadd, 1, false, 0, 0, 0, 0, 0, []), (40, .istore_n 0, 1, false, 0, 0, 0, 0, 0, []), (41, .iload_n 0, 1, false, 0, 0, 0, 0, 0, []), (42, .iload_n 0, 1, false, 0, 0, 0, 0, 0, []), (43, .bipush 16, 2, false, 0, 0, 0, 0, 0, []), (45, .iushr, 1, false, 0, 0, 0, 0, 0, []), (46, .iadd, 1, false, 0, 0, 0, 0, 0, []), (47, .istore_n 0, 1, false, 0, 0, 0, 0, 0, []), (48, .iload_n 0, 1, false, 0, 0, 0, 0, 0, []), (49, .bipush 63, 2, false, 0, 0, 0, 0, 0, []), (51, .iand, 1, false, 0, 0, 0, 0, 0, []), (52, .ireturn, 1, false, 0, 0, 0, 0, 0, [])] i i lo st I L := rfl
set_option maxRecDepth 20000 in
theorem uJ7_fill_53178 (sh : mm_S) (call : mm_C) (Q : mm_Q) (n i : Nat) (lo st : List Value) (I : mm_I) (L : mm_L) : mm_v sh call tbJ7_fill_53178 Q (n + 1) i lo st I L = mm_vn sh call tbJ7_fill_53178 Q n [(0, .iconst 0, 1, false, 0, 0, 0, 0, 0, []), (1, .istore_n 2, 1, false, 0, 0, 0, 0, 0, []), (2, .aload_n 0, 1, false, 0, 0, 0, 0, 0, []), (3, .arraylength, 1, false, 0, 0, 0, 0, 0, []), (4, .istore_n 3, 1, false, 0, 0, 0, 0, 0, []), (5, .iload_n 2, 1, true, 0, 0, 0, 0, 0, []), (6, .iload_n 3, 1, false, 0, 0, 0, 0, 0, []), (7, .if_icmp .ge 13, 3, false, 14, 0, 0, 0, 0, []), (10, .aload_n 0, 1, false, 0, 0, 0, 0, 0, []), (11, .iload_n 2, 1, false, 0, 0, 0, 0, 0, []), (12, .iload_n 1, 1, false, 0, 0, 0, 0, 0, []), (13, .iastore, 1, false, 0, 0, 0, 0, 0, []), (14, .iinc 2 1, 3, false, 0, 0, 0, 0, 0, []), (17, .goto (-12), 3, false, 5, 0, 0, 0, 0, []), (20, .return_, 1, false, 0, 0, 0, 0, 0, [])] i i lo st I L := rfl
set_option maxRecDepth 20000 in
theorem hJ7_fill_53178 (sh : mm_S) (call : mm_C) (Q : mm_Q) (n i : Nat) (lo st : List Value) (I : mm_I) (L : mm_L) : mm_h sh call tbJ7_fill_53178 Q n i lo st I L = mm_hn sh call tbJ7_fill_53178 Q n [(0, .iconst 0, 1, false, 0, 0, 0, 0, 0, []), (1, .istore_n 2, 1, false, 0, 0, 0, 0, 0, []), (2, .aload_n 0, 1, false, 0, 0, 0, 0, 0, []), (3, .arraylength, 1, false, 0, 0, 0, 0, 0, []), (4, .istore_n 3, 1, false, 0, 0, 0, 0, 0, []), (5, .iload_n 2, 1, true, 0, 0, 0, 0, 0, []), (6, .iload_n 3, 1, false, 0, 0, 0, 0, 0, []), (7, .if_icmp .ge 13, 3, false, 14, 0, 0, 0, 0, []), (10, .aload_n 0, 1, false, 0, 0, 0, 0, 0, []), (11, .iload_n 2, 1, false, 0, 0, 0, 0, 0, []), (12, .iload_n 1, 1, false, 0, 0, 0, 0, 0, []), (13, .iastore, 1, false, 0, 0, 0, 0, 0, []), (14, .iinc 2 1, 3, false, 0, 0, 0, 0, 0, []), (17, .goto (-12), 3, false, 5, 0, 0, 0, 0, []), (20, .return_, 1, false, 0, 0, 0, 0, 0, [])] i i lo st I L := rfl
theorem pX0_has {d : Nat} {I : mm_I} {L : mm_L} {Q : mm_Q} {a1 : Int32} (h : mm_v shC (mm_P shC msC d) tbX0_has Q 15 0 [.ref 1, .int a1] [] I L) : mm_P shC msC (d + 1) 0 [.ref 1, .int a1] I L Q := mm_P_in (md := mdX0_has) 15 rfl (Nat.le_of_ble_eq_true rfl) h
theorem pX0_append {d : Nat} {I : mm_I} {L : mm_L} {Q : mm_Q} {a1 : Int32} {a2 : Int32} {a3 : Int32} {a4 : Int32} (h : mm_v shC (mm_P shC msC d) tbX0_append Q 40 0 [.ref 1, .int a1, .int a2, .int a3, .int a4, .null] [] I L) : mm_P shC msC (d + 1) 1 [.ref 1, .int a1, .int a2, .int a3, .int a4] I L Q := mm_P_in (md := mdX0_append) 40 rfl (Nat.le_of_ble_eq_true rfl) h
theorem pX0_endOf {d : Nat} {I : mm_I} {L : mm_L} {Q : mm_Q} {a1 : Int32} (h : mm_v shC (mm_P shC msC d) tbX0_endOf Q 21 0 [.ref 1, .int a1] [] I L) : mm_P shC msC (d + 1) 2 [.ref 1, .int a1] I L Q := mm_P_in (md := mdX0_endOf) 21 rfl (Nat.le_of_ble_eq_true rfl) h
theorem pX0_canMove {d : Nat} {I : mm_I} {L : mm_L} {Q : mm_Q} {a1 : Int32} {a2 : Int32} (h : mm_v shC (mm_P shC msC d) tbX0_canMove Q 28 0 [.ref 1, .int a1, .int a2] [] I L) : mm_P shC msC (d + 1) 3 [.ref 1, .int a1, .int a2] I L Q := mm_P_in (md := mdX0_canMove) 28 rfl (Nat.le_of_ble_eq_true rfl) h
theorem pX0_jumpBetween {d : Nat} {I : mm_I} {L : mm_L} {Q : mm_Q} {a1 : Int32} {a2 : Int32} (h : mm_v shC (mm_P shC msC d) tbX0_jumpBetween Q 23 0 [.ref 1, .int a1, .int a2] [] I L) : mm_P shC msC (d + 1) 4 [.ref 1, .int a1, .int a2] I L Q := mm_P_in (md := mdX0_jumpBetween) 23 rfl (Nat.le_of_ble_eq_true rfl) h
theorem pX0_sideBy {d : Nat} {I : mm_I} {L : mm_L} {Q : mm_Q} {a1 : Int32} {a2 : Int32} (h : mm_v shC (mm_P shC msC d) tbX0_sideBy Q 38 0 [.ref 1, .int a1, .int a2] [] I L) : mm_P shC msC (d + 1) 5 [.ref 1, .int a1, .int a2] I L Q := mm_P_in (md := mdX0_sideBy) 38 rfl (Nat.le_of_ble_eq_true rfl) h
theorem pX0_everyone {d : Nat} {I : mm_I} {L : mm_L} {Q : mm_Q}  (h : mm_v shC (mm_P shC msC d) tbX0_everyone Q 9 0 [.ref 1] [] I L) : mm_P shC msC (d + 1) 6 [.ref 1] I L Q := mm_P_in (md := mdX0_everyone) 9 rfl (Nat.le_of_ble_eq_true rfl) h
theorem pX0_givenBy {d : Nat} {I : mm_I} {L : mm_L} {Q : mm_Q} {a1 : Int32} (h : mm_v shC (mm_P shC msC d) tbX0_givenBy Q 28 0 [.ref 1, .int a1, .null, .null] [] I L) : mm_P shC msC (d + 1) 7 [.ref 1, .int a1] I L Q := mm_P_in (md := mdX0_givenBy) 28 rfl (Nat.le_of_ble_eq_true rfl) h
theorem pX0_allNeeds {d : Nat} {I : mm_I} {L : mm_L} {Q : mm_Q}  (h : mm_v shC (mm_P shC msC d) tbX0_allNeeds Q 24 0 [.ref 1, .null, .null] [] I L) : mm_P shC msC (d + 1) 8 [.ref 1] I L Q := mm_P_in (md := mdX0_allNeeds) 24 rfl (Nat.le_of_ble_eq_true rfl) h
theorem pX0_readyAfter {d : Nat} {I : mm_I} {L : mm_L} {Q : mm_Q} {a1 : Int32} (h : mm_v shC (mm_P shC msC d) tbX0_readyAfter Q 40 0 [.ref 1, .int a1, .null, .null, .null] [] I L) : mm_P shC msC (d + 1) 9 [.ref 1, .int a1] I L Q := mm_P_in (md := mdX0_readyAfter) 40 rfl (Nat.le_of_ble_eq_true rfl) h
theorem pX0_extent {d : Nat} {I : mm_I} {L : mm_L} {Q : mm_Q}  (h : mm_v shC (mm_P shC msC d) tbX0_extent Q 40 0 [.ref 1, .null, .null, .null, .null, .null] [] I L) : mm_P shC msC (d + 1) 10 [.ref 1] I L Q := mm_P_in (md := mdX0_extent) 40 rfl (Nat.le_of_ble_eq_true rfl) h
theorem pX0_untold {d : Nat} {I : mm_I} {L : mm_L} {Q : mm_Q}  (h : mm_v shC (mm_P shC msC d) tbX0_untold Q 26 0 [.ref 1, .null, .null, .null] [] I L) : mm_P shC msC (d + 1) 11 [.ref 1] I L Q := mm_P_in (md := mdX0_untold) 26 rfl (Nat.le_of_ble_eq_true rfl) h
theorem pX0_isFirstToEnd {d : Nat} {I : mm_I} {L : mm_L} {Q : mm_Q} {a1 : Int32} (h : mm_v shC (mm_P shC msC d) tbX0_isFirstToEnd Q 21 0 [.ref 1, .int a1, .null] [] I L) : mm_P shC msC (d + 1) 12 [.ref 1, .int a1] I L Q := mm_P_in (md := mdX0_isFirstToEnd) 21 rfl (Nat.le_of_ble_eq_true rfl) h
theorem pX0_gapBehind {d : Nat} {I : mm_I} {L : mm_L} {Q : mm_Q} {a1 : Int64} (h : mm_v shC (mm_P shC msC d) tbX0_gapBehind Q 50 0 [.ref 1, .long a1, .null, .null, .null, .null] [] I L) : mm_P shC msC (d + 1) 13 [.ref 1, .long a1] I L Q := mm_P_in (md := mdX0_gapBehind) 50 rfl (Nat.le_of_ble_eq_true rfl) h
theorem pX1_find {d : Nat} {I : mm_I} {L : mm_L} {Q : mm_Q} {a2 : Nat} {a3 : Int32} {a4 : Int32} (h : mm_v shC (mm_P shC msC d) tbX1_find Q 53 0 [.ref 16, .ref 1, .ref a2, .int a3, .int a4, .null] [] I L) : mm_P shC msC (d + 1) 14 [.ref 16, .ref 1, .ref a2, .int a3, .int a4] I L Q := mm_P_in (md := mdX1_find) 53 rfl (Nat.le_of_ble_eq_true rfl) h
theorem pX1_takeRow {d : Nat} {I : mm_I} {L : mm_L} {Q : mm_Q} {a2 : Nat} {a3 : Int32} (h : mm_v shC (mm_P shC msC d) tbX1_takeRow Q 40 0 [.ref 16, .ref 1, .ref a2, .int a3, .null] [] I L) : mm_P shC msC (d + 1) 15 [.ref 16, .ref 1, .ref a2, .int a3] I L Q := mm_P_in (md := mdX1_takeRow) 40 rfl (Nat.le_of_ble_eq_true rfl) h
theorem pX1_setFrom {d : Nat} {I : mm_I} {L : mm_L} {Q : mm_Q} {a2 : Int32} {a3 : Int32} {a4 : Int64} {a5 : Int32} (h : mm_v shC (mm_P shC msC d) tbX1_setFrom Q 86 0 [.ref 16, .ref 1, .int a2, .int a3, .long a4, .null, .int a5, .null, .null, .null] [] I L) : mm_P shC msC (d + 1) 16 [.ref 16, .ref 1, .int a2, .int a3, .long a4, .int a5] I L Q := mm_P_in (md := mdX1_setFrom) 86 rfl (Nat.le_of_ble_eq_true rfl) h
theorem pX1_setBeside {d : Nat} {I : mm_I} {L : mm_L} {Q : mm_Q} {a2 : Int32} {a3 : Int32} {a4 : Int32} {a5 : Int64} {a6 : Int32} (h : mm_v shC (mm_P shC msC d) tbX1_setBeside Q 60 0 [.ref 16, .ref 1, .int a2, .int a3, .int a4, .long a5, .null, .int a6, .null, .null] [] I L) : mm_P shC msC (d + 1) 17 [.ref 16, .ref 1, .int a2, .int a3, .int a4, .long a5, .int a6] I L Q := mm_P_in (md := mdX1_setBeside) 60 rfl (Nat.le_of_ble_eq_true rfl) h
theorem pX1_setWithin {d : Nat} {I : mm_I} {L : mm_L} {Q : mm_Q} {a2 : Int32} {a3 : Int32} {a4 : Int32} {a5 : Int64} {a6 : Int32} (h : mm_v shC (mm_P shC msC d) tbX1_setWithin Q 56 0 [.ref 16, .ref 1, .int a2, .int a3, .int a4, .long a5, .null, .int a6, .null, .null] [] I L) : mm_P shC msC (d + 1) 18 [.ref 16, .ref 1, .int a2, .int a3, .int a4, .long a5, .int a6] I L Q := mm_P_in (md := mdX1_setWithin) 56 rfl (Nat.le_of_ble_eq_true rfl) h
theorem pX1_keep {d : Nat} {I : mm_I} {L : mm_L} {Q : mm_Q} {a1 : Int32} {a2 : Int64} {a3 : Int32} (h : mm_v shC (mm_P shC msC d) tbX1_keep Q 22 0 [.ref 16, .int a1, .long a2, .null, .int a3] [] I L) : mm_P shC msC (d + 1) 19 [.ref 16, .int a1, .long a2, .int a3] I L Q := mm_P_in (md := mdX1_keep) 22 rfl (Nat.le_of_ble_eq_true rfl) h
theorem pX1_closeAll {d : Nat} {I : mm_I} {L : mm_L} {Q : mm_Q}  (h : mm_v shC (mm_P shC msC d) tbX1_closeAll Q 45 0 [.ref 16, .null, .null] [] I L) : mm_P shC msC (d + 1) 20 [.ref 16] I L Q := mm_P_in (md := mdX1_closeAll) 45 rfl (Nat.le_of_ble_eq_true rfl) h
theorem pX2_find {d : Nat} {I : mm_I} {L : mm_L} {Q : mm_Q}  (h : mm_v shC (mm_P shC msC d) tbX2_find Q 48 0 [.ref 13, .ref 1, .null, .null] [] I L) : mm_P shC msC (d + 1) 21 [.ref 13, .ref 1] I L Q := mm_P_in (md := mdX2_find) 48 rfl (Nat.le_of_ble_eq_true rfl) h
theorem pX2_fillRest {d : Nat} {I : mm_I} {L : mm_L} {Q : mm_Q} {a2 : Int32} {a3 : Int32} (h : mm_v shC (mm_P shC msC d) tbX2_fillRest Q 58 0 [.ref 13, .ref 1, .int a2, .int a3, .null, .null, .null] [] I L) : mm_P shC msC (d + 1) 22 [.ref 13, .ref 1, .int a2, .int a3] I L Q := mm_P_in (md := mdX2_fillRest) 58 rfl (Nat.le_of_ble_eq_true rfl) h
theorem pX2_nextBehind {d : Nat} {I : mm_I} {L : mm_L} {Q : mm_Q} {a2 : Int32} {a3 : Int32} {a4 : Int32} (h : mm_v shC (mm_P shC msC d) tbX2_nextBehind Q 42 0 [.ref 13, .ref 1, .int a2, .int a3, .int a4, .null, .null, .null, .null, .null, .null] [] I L) : mm_P shC msC (d + 1) 23 [.ref 13, .ref 1, .int a2, .int a3, .int a4] I L Q := mm_P_in (md := mdX2_nextBehind) 42 rfl (Nat.le_of_ble_eq_true rfl) h
theorem pX2_restBy {d : Nat} {I : mm_I} {L : mm_L} {Q : mm_Q} {a2 : Int32} {a3 : Int32} {a4 : Int32} (h : mm_v shC (mm_P shC msC d) tbX2_restBy Q 49 0 [.ref 13, .ref 1, .int a2, .int a3, .int a4, .null] [] I L) : mm_P shC msC (d + 1) 24 [.ref 13, .ref 1, .int a2, .int a3, .int a4] I L Q := mm_P_in (md := mdX2_restBy) 49 rfl (Nat.le_of_ble_eq_true rfl) h
theorem pX2_follow {d : Nat} {I : mm_I} {L : mm_L} {Q : mm_Q}  (h : mm_v shC (mm_P shC msC d) tbX2_follow Q 49 0 [.ref 13, .ref 1, .null, .null, .null, .null] [] I L) : mm_P shC msC (d + 1) 25 [.ref 13, .ref 1] I L Q := mm_P_in (md := mdX2_follow) 49 rfl (Nat.le_of_ble_eq_true rfl) h
theorem pX3_isWrong {d : Nat} {I : mm_I} {L : mm_L} {Q : mm_Q}  (h : mm_v shC (mm_P shC msC d) tbX3_isWrong Q 9 0 [.ref 7] [] I L) : mm_P shC msC (d + 1) 26 [.ref 7] I L Q := mm_P_in (md := mdX3_isWrong) 9 rfl (Nat.le_of_ble_eq_true rfl) h
theorem pX3_hasTold {d : Nat} {I : mm_I} {L : mm_L} {Q : mm_Q} {a1 : Int32} (h : mm_v shC (mm_P shC msC d) tbX3_hasTold Q 16 0 [.ref 7, .int a1] [] I L) : mm_P shC msC (d + 1) 27 [.ref 7, .int a1] I L Q := mm_P_in (md := mdX3_hasTold) 16 rfl (Nat.le_of_ble_eq_true rfl) h
theorem pX3_goThrough {d : Nat} {I : mm_I} {L : mm_L} {Q : mm_Q} {a2 : Nat} {a3 : Int32} (h : mm_v shC (mm_P shC msC d) tbX3_goThrough Q 52 0 [.ref 7, .ref 1, .ref a2, .int a3, .null] [] I L) : mm_P shC msC (d + 1) 28 [.ref 7, .ref 1, .ref a2, .int a3] I L Q := mm_P_in (md := mdX3_goThrough) 52 rfl (Nat.le_of_ble_eq_true rfl) h
theorem pX3_begin {d : Nat} {I : mm_I} {L : mm_L} {Q : mm_Q}  (h : mm_v shC (mm_P shC msC d) tbX3_begin Q 40 0 [.ref 7] [] I L) : mm_P shC msC (d + 1) 29 [.ref 7] I L Q := mm_P_in (md := mdX3_begin) 40 rfl (Nat.le_of_ble_eq_true rfl) h
theorem pX3_whyWrong {d : Nat} {I : mm_I} {L : mm_L} {Q : mm_Q} {a2 : Int32} (h : mm_v shC (mm_P shC msC d) tbX3_whyWrong Q 65 0 [.ref 7, .ref 1, .int a2] [] I L) : mm_P shC msC (d + 1) 30 [.ref 7, .ref 1, .int a2] I L Q := mm_P_in (md := mdX3_whyWrong) 65 rfl (Nat.le_of_ble_eq_true rfl) h
theorem pX3_isOnSide {d : Nat} {I : mm_I} {L : mm_L} {Q : mm_Q} {a2 : Int32} (h : mm_v shC (mm_P shC msC d) tbX3_isOnSide Q 23 0 [.ref 7, .ref 1, .int a2, .null] [] I L) : mm_P shC msC (d + 1) 31 [.ref 7, .ref 1, .int a2] I L Q := mm_P_in (md := mdX3_isOnSide) 23 rfl (Nat.le_of_ble_eq_true rfl) h
theorem pX3_take {d : Nat} {I : mm_I} {L : mm_L} {Q : mm_Q} {a2 : Int32} (h : mm_v shC (mm_P shC msC d) tbX3_take Q 19 0 [.ref 7, .ref 1, .int a2] [] I L) : mm_P shC msC (d + 1) 32 [.ref 7, .ref 1, .int a2] I L Q := mm_P_in (md := mdX3_take) 19 rfl (Nat.le_of_ble_eq_true rfl) h
theorem pX3_openFrame {d : Nat} {I : mm_I} {L : mm_L} {Q : mm_Q}  (h : mm_v shC (mm_P shC msC d) tbX3_openFrame Q 32 0 [.ref 7] [] I L) : mm_P shC msC (d + 1) 33 [.ref 7] I L Q := mm_P_in (md := mdX3_openFrame) 32 rfl (Nat.le_of_ble_eq_true rfl) h
theorem pX3_closeFrame {d : Nat} {I : mm_I} {L : mm_L} {Q : mm_Q}  (h : mm_v shC (mm_P shC msC d) tbX3_closeFrame Q 32 0 [.ref 7, .null] [] I L) : mm_P shC msC (d + 1) 34 [.ref 7] I L Q := mm_P_in (md := mdX3_closeFrame) 32 rfl (Nat.le_of_ble_eq_true rfl) h
theorem pX3_tell {d : Nat} {I : mm_I} {L : mm_L} {Q : mm_Q} {a2 : Int32} (h : mm_v shC (mm_P shC msC d) tbX3_tell Q 75 0 [.ref 7, .ref 1, .int a2] [] I L) : mm_P shC msC (d + 1) 35 [.ref 7, .ref 1, .int a2] I L Q := mm_P_in (md := mdX3_tell) 75 rfl (Nat.le_of_ble_eq_true rfl) h
theorem pX4_scene {d : Nat} {I : mm_I} {L : mm_L} {Q : mm_Q} {a1 : Int32} {a2 : Int32} {a3 : Int32} {a4 : Int32} (h : mm_v shC (mm_P shC msC d) tbX4_scene Q 39 0 [.ref 0, .int a1, .int a2, .int a3, .int a4] [] I L) : mm_P shC msC (d + 1) 36 [.ref 0, .int a1, .int a2, .int a3, .int a4] I L Q := mm_P_in (md := mdX4_scene) 39 rfl (Nat.le_of_ble_eq_true rfl) h
theorem pX4_ofScene {d : Nat} {I : mm_I} {L : mm_L} {Q : mm_Q} {a1 : Int32} {a2 : Int32} (h : mm_v shC (mm_P shC msC d) tbX4_ofScene Q 46 0 [.ref 0, .int a1, .int a2] [] I L) : mm_P shC msC (d + 1) 37 [.ref 0, .int a1, .int a2] I L Q := mm_P_in (md := mdX4_ofScene) 46 rfl (Nat.le_of_ble_eq_true rfl) h
theorem pX4_move {d : Nat} {I : mm_I} {L : mm_L} {Q : mm_Q} {a1 : Int32} {a2 : Int32} (h : mm_v shC (mm_P shC msC d) tbX4_move Q 30 0 [.ref 0, .int a1, .int a2] [] I L) : mm_P shC msC (d + 1) 38 [.ref 0, .int a1, .int a2] I L Q := mm_P_in (md := mdX4_move) 30 rfl (Nat.le_of_ble_eq_true rfl) h
theorem pX4_shift {d : Nat} {I : mm_I} {L : mm_L} {Q : mm_Q} {a1 : Int32} (h : mm_v shC (mm_P shC msC d) tbX4_shift Q 46 0 [.ref 0, .int a1, .null] [] I L) : mm_P shC msC (d + 1) 39 [.ref 0, .int a1] I L Q := mm_P_in (md := mdX4_shift) 46 rfl (Nat.le_of_ble_eq_true rfl) h
theorem pX4_stretch {d : Nat} {I : mm_I} {L : mm_L} {Q : mm_Q} {a1 : Int32} {a2 : Int32} (h : mm_v shC (mm_P shC msC d) tbX4_stretch Q 50 0 [.ref 0, .int a1, .int a2, .null, .null] [] I L) : mm_P shC msC (d + 1) 40 [.ref 0, .int a1, .int a2] I L Q := mm_P_in (md := mdX4_stretch) 50 rfl (Nat.le_of_ble_eq_true rfl) h
theorem pX4_clue {d : Nat} {I : mm_I} {L : mm_L} {Q : mm_Q} {a1 : Int32} {a2 : Int32} {a3 : Int32} {a4 : Int32} (h : mm_v shC (mm_P shC msC d) tbX4_clue Q 64 0 [.ref 0, .int a1, .int a2, .int a3, .int a4, .null, .null, .null] [] I L) : mm_P shC msC (d + 1) 41 [.ref 0, .int a1, .int a2, .int a3, .int a4] I L Q := mm_P_in (md := mdX4_clue) 64 rfl (Nat.le_of_ble_eq_true rfl) h
theorem pX4_ofClue {d : Nat} {I : mm_I} {L : mm_L} {Q : mm_Q} {a1 : Int32} {a2 : Int32} (h : mm_v shC (mm_P shC msC d) tbX4_ofClue Q 52 0 [.ref 0, .int a1, .int a2, .null, .null, .null] [] I L) : mm_P shC msC (d + 1) 42 [.ref 0, .int a1, .int a2] I L Q := mm_P_in (md := mdX4_ofClue) 52 rfl (Nat.le_of_ble_eq_true rfl) h
theorem pX4_drop {d : Nat} {I : mm_I} {L : mm_L} {Q : mm_Q}  (h : mm_v shC (mm_P shC msC d) tbX4_drop Q 21 0 [.ref 0] [] I L) : mm_P shC msC (d + 1) 43 [.ref 0] I L Q := mm_P_in (md := mdX4_drop) 21 rfl (Nat.le_of_ble_eq_true rfl) h
theorem pX4_fee {d : Nat} {I : mm_I} {L : mm_L} {Q : mm_Q} {a1 : Int32} (h : mm_v shC (mm_P shC msC d) tbX4_fee Q 19 0 [.ref 0, .int a1, .null] [] I L) : mm_P shC msC (d + 1) 44 [.ref 0, .int a1] I L Q := mm_P_in (md := mdX4_fee) 19 rfl (Nat.le_of_ble_eq_true rfl) h
theorem pX4_jump {d : Nat} {I : mm_I} {L : mm_L} {Q : mm_Q} {a1 : Int32} {a2 : Int32} (h : mm_v shC (mm_P shC msC d) tbX4_jump Q 23 0 [.ref 0, .int a1, .int a2] [] I L) : mm_P shC msC (d + 1) 45 [.ref 0, .int a1, .int a2] I L Q := mm_P_in (md := mdX4_jump) 23 rfl (Nat.le_of_ble_eq_true rfl) h
theorem pX4_span {d : Nat} {I : mm_I} {L : mm_L} {Q : mm_Q} {a1 : Int32} (h : mm_v shC (mm_P shC msC d) tbX4_span Q 23 0 [.ref 0, .int a1] [] I L) : mm_P shC msC (d + 1) 46 [.ref 0, .int a1] I L Q := mm_P_in (md := mdX4_span) 23 rfl (Nat.le_of_ble_eq_true rfl) h
theorem pX4_add {d : Nat} {I : mm_I} {L : mm_L} {Q : mm_Q} {a1 : Int32} (h : mm_v shC (mm_P shC msC d) tbX4_add Q 44 0 [.ref 0, .int a1, .null] [] I L) : mm_P shC msC (d + 1) 47 [.ref 0, .int a1] I L Q := mm_P_in (md := mdX4_add) 44 rfl (Nat.le_of_ble_eq_true rfl) h
theorem pX4_cut {d : Nat} {I : mm_I} {L : mm_L} {Q : mm_Q} {a1 : Int32} (h : mm_v shC (mm_P shC msC d) tbX4_cut Q 21 0 [.ref 0, .int a1] [] I L) : mm_P shC msC (d + 1) 48 [.ref 0, .int a1] I L Q := mm_P_in (md := mdX4_cut) 21 rfl (Nat.le_of_ble_eq_true rfl) h
theorem pX4_judge {d : Nat} {I : mm_I} {L : mm_L} {Q : mm_Q} {a1 : Int32} (h : mm_v shC (mm_P shC msC d) tbX4_judge Q 62 0 [.ref 0, .int a1] [] I L) : mm_P shC msC (d + 1) 49 [.ref 0, .int a1] I L Q := mm_P_in (md := mdX4_judge) 62 rfl (Nat.le_of_ble_eq_true rfl) h
theorem pX4_jumps {d : Nat} {I : mm_I} {L : mm_L} {Q : mm_Q}  (h : mm_v shC (mm_P shC msC d) tbX4_jumps Q 37 0 [.ref 0] [] I L) : mm_P shC msC (d + 1) 50 [.ref 0] I L Q := mm_P_in (md := mdX4_jumps) 37 rfl (Nat.le_of_ble_eq_true rfl) h
theorem pX4_told {d : Nat} {I : mm_I} {L : mm_L} {Q : mm_Q} {a1 : Int32} {a2 : Int32} (h : mm_v shC (mm_P shC msC d) tbX4_told Q 79 0 [.ref 0, .int a1, .int a2] [] I L) : mm_P shC msC (d + 1) 51 [.ref 0, .int a1, .int a2] I L Q := mm_P_in (md := mdX4_told) 79 rfl (Nat.le_of_ble_eq_true rfl) h
theorem pX4_order {d : Nat} {I : mm_I} {L : mm_L} {Q : mm_Q} {a1 : Int32} (h : mm_v shC (mm_P shC msC d) tbX4_order Q 43 0 [.ref 0, .int a1] [] I L) : mm_P shC msC (d + 1) 52 [.ref 0, .int a1] I L Q := mm_P_in (md := mdX4_order) 43 rfl (Nat.le_of_ble_eq_true rfl) h
theorem pX4_framed {d : Nat} {I : mm_I} {L : mm_L} {Q : mm_Q} {a1 : Int32} (h : mm_v shC (mm_P shC msC d) tbX4_framed Q 50 0 [.ref 0, .int a1] [] I L) : mm_P shC msC (d + 1) 53 [.ref 0, .int a1] I L Q := mm_P_in (md := mdX4_framed) 50 rfl (Nat.le_of_ble_eq_true rfl) h
theorem pX4_untangled {d : Nat} {I : mm_I} {L : mm_L} {Q : mm_Q}  (h : mm_v shC (mm_P shC msC d) tbX4_untangled Q 71 0 [.ref 0, .null, .null, .null, .null, .null] [] I L) : mm_P shC msC (d + 1) 54 [.ref 0] I L Q := mm_P_in (md := mdX4_untangled) 71 rfl (Nat.le_of_ble_eq_true rfl) h
theorem pX4_many {d : Nat} {I : mm_I} {L : mm_L} {Q : mm_Q} {a1 : Int32} (h : mm_v shC (mm_P shC msC d) tbX4_many Q 33 0 [.ref 0, .int a1] [] I L) : mm_P shC msC (d + 1) 55 [.ref 0, .int a1] I L Q := mm_P_in (md := mdX4_many) 33 rfl (Nat.le_of_ble_eq_true rfl) h
theorem pX4_forgetBest {d : Nat} {I : mm_I} {L : mm_L} {Q : mm_Q}  (h : mm_v shC (mm_P shC msC d) tbX4_forgetBest Q 11 0 [.ref 0] [] I L) : mm_P shC msC (d + 1) 56 [.ref 0] I L Q := mm_P_in (md := mdX4_forgetBest) 11 rfl (Nat.le_of_ble_eq_true rfl) h
theorem pX4_findFrames {d : Nat} {I : mm_I} {L : mm_L} {Q : mm_Q}  (h : mm_v shC (mm_P shC msC d) tbX4_findFrames Q 30 0 [.ref 0, .null] [] I L) : mm_P shC msC (d + 1) 57 [.ref 0] I L Q := mm_P_in (md := mdX4_findFrames) 30 rfl (Nat.le_of_ble_eq_true rfl) h
theorem pX4_writeRow {d : Nat} {I : mm_I} {L : mm_L} {Q : mm_Q}  (h : mm_v shC (mm_P shC msC d) tbX4_writeRow Q 32 0 [.ref 0, .null, .null] [] I L) : mm_P shC msC (d + 1) 58 [.ref 0] I L Q := mm_P_in (md := mdX4_writeRow) 32 rfl (Nat.le_of_ble_eq_true rfl) h
theorem pX4_changePlaces {d : Nat} {I : mm_I} {L : mm_L} {Q : mm_Q} {a1 : Int32} (h : mm_v shC (mm_P shC msC d) tbX4_changePlaces Q 25 0 [.ref 0, .int a1, .null] [] I L) : mm_P shC msC (d + 1) 59 [.ref 0, .int a1] I L Q := mm_P_in (md := mdX4_changePlaces) 25 rfl (Nat.le_of_ble_eq_true rfl) h
theorem pX4_isClue {d : Nat} {I : mm_I} {L : mm_L} {Q : mm_Q} {a1 : Int32} (h : mm_v shC (mm_P shC msC d) tbX4_isClue Q 11 0 [.int a1] [] I L) : mm_P shC msC (d + 1) 60 [.int a1] I L Q := mm_P_in (md := mdX4_isClue) 11 rfl (Nat.le_of_ble_eq_true rfl) h
theorem pX4_isClueSet {d : Nat} {I : mm_I} {L : mm_L} {Q : mm_Q} {a1 : Int32} (h : mm_v shC (mm_P shC msC d) tbX4_isClueSet Q 11 0 [.int a1] [] I L) : mm_P shC msC (d + 1) 61 [.int a1] I L Q := mm_P_in (md := mdX4_isClueSet) 11 rfl (Nat.le_of_ble_eq_true rfl) h
theorem pX4_isIn {d : Nat} {I : mm_I} {L : mm_L} {Q : mm_Q} {a1 : Int32} {a2 : Int32} (h : mm_v shC (mm_P shC msC d) tbX4_isIn Q 13 0 [.int a1, .int a2] [] I L) : mm_P shC msC (d + 1) 62 [.int a1, .int a2] I L Q := mm_P_in (md := mdX4_isIn) 13 rfl (Nat.le_of_ble_eq_true rfl) h
theorem pX4_fitsInt {d : Nat} {I : mm_I} {L : mm_L} {Q : mm_Q} {a1 : Int64} (h : mm_v shC (mm_P shC msC d) tbX4_fitsInt Q 14 0 [.long a1, .null] [] I L) : mm_P shC msC (d + 1) 63 [.long a1] I L Q := mm_P_in (md := mdX4_fitsInt) 14 rfl (Nat.le_of_ble_eq_true rfl) h
theorem pX4_intOrOver {d : Nat} {I : mm_I} {L : mm_L} {Q : mm_Q} {a1 : Int64} (h : mm_v shC (mm_P shC msC d) tbX4_intOrOver Q 10 0 [.long a1, .null] [] I L) : mm_P shC msC (d + 1) 64 [.long a1] I L Q := mm_P_in (md := mdX4_intOrOver) 10 rfl (Nat.le_of_ble_eq_true rfl) h
theorem pJ6_bitCount_0f7a4 {d : Nat} {I : mm_I} {L : mm_L} {Q : mm_Q} {a1 : Int32} (h : mm_v shC (mm_P shC msC d) tbJ6_bitCount_0f7a4 Q 44 0 [.int a1] [] I L) : mm_P shC msC (d + 1) 65 [.int a1] I L Q := mm_P_in (md := mdJ6_bitCount_0f7a4) 44 rfl (Nat.le_of_ble_eq_true rfl) h
theorem pJ7_fill_53178 {d : Nat} {I : mm_I} {L : mm_L} {Q : mm_Q} {a1 : Nat} {a2 : Int32} (h : mm_v shC (mm_P shC msC d) tbJ7_fill_53178 Q 17 0 [.ref a1, .int a2, .null, .null] [] I L) : mm_P shC msC (d + 1) 66 [.ref a1, .int a2] I L Q := mm_P_in (md := mdJ7_fill_53178) 17 rfl (Nat.le_of_ble_eq_true rfl) h
theorem iaC : mm_ia shC 2 = 8 ∧ mm_ia shC 3 = 8 ∧ mm_ia shC 4 = 8 ∧ mm_ia shC 5 = 8 ∧ mm_ia shC 6 = 40 ∧ mm_ia shC 8 = 8 ∧ mm_ia shC 9 = 8 ∧ mm_ia shC 10 = 8 ∧ mm_ia shC 11 = 8 ∧ mm_ia shC 12 = 40 ∧ mm_la shC 14 = 2048 ∧ mm_ia shC 15 = 8 ∧ mm_ia shC 17 = 8 ∧ mm_ia shC 18 = 8 ∧ mm_ia shC 19 = 8 ∧ mm_ia shC 20 = 40 ∧ mm_ia shC 21 = 40 := by decide +kernel
end
section
/-! ===== the checks of the tables (C) ===== -/
set_option maxRecDepth 100000 in
theorem okX0_has : mm_mo TC mdX0_has := mm_mo_ok (by decide +kernel)
set_option maxRecDepth 100000 in
theorem okX0_append : mm_mo TC mdX0_append := mm_mo_ok (by decide +kernel)
set_option maxRecDepth 100000 in
theorem okX0_endOf : mm_mo TC mdX0_endOf := mm_mo_ok (by decide +kernel)
set_option maxRecDepth 100000 in
theorem okX0_canMove : mm_mo TC mdX0_canMove := mm_mo_ok (by decide +kernel)
set_option maxRecDepth 100000 in
theorem okX0_jumpBetween : mm_mo TC mdX0_jumpBetween := mm_mo_ok (by decide +kernel)
set_option maxRecDepth 100000 in
theorem okX0_sideBy : mm_mo TC mdX0_sideBy := mm_mo_ok (by decide +kernel)
set_option maxRecDepth 100000 in
theorem okX0_everyone : mm_mo TC mdX0_everyone := mm_mo_ok (by decide +kernel)
set_option maxRecDepth 100000 in
theorem okX0_givenBy : mm_mo TC mdX0_givenBy := mm_mo_ok (by decide +kernel)
set_option maxRecDepth 100000 in
theorem okX0_allNeeds : mm_mo TC mdX0_allNeeds := mm_mo_ok (by decide +kernel)
set_option maxRecDepth 100000 in
theorem okX0_readyAfter : mm_mo TC mdX0_readyAfter := mm_mo_ok (by decide +kernel)
set_option maxRecDepth 100000 in
theorem okX0_extent : mm_mo TC mdX0_extent := mm_mo_ok (by decide +kernel)
set_option maxRecDepth 100000 in
theorem okX0_untold : mm_mo TC mdX0_untold := mm_mo_ok (by decide +kernel)
set_option maxRecDepth 100000 in
theorem okX0_isFirstToEnd : mm_mo TC mdX0_isFirstToEnd := mm_mo_ok (by decide +kernel)
set_option maxRecDepth 100000 in
theorem okX0_gapBehind : mm_mo TC mdX0_gapBehind := mm_mo_ok (by decide +kernel)
set_option maxRecDepth 100000 in
theorem okX1_find : mm_mo TC mdX1_find := mm_mo_ok (by decide +kernel)
set_option maxRecDepth 100000 in
theorem okX1_takeRow : mm_mo TC mdX1_takeRow := mm_mo_ok (by decide +kernel)
set_option maxRecDepth 100000 in
theorem okX1_setFrom : mm_mo TC mdX1_setFrom := mm_mo_ok (by decide +kernel)
set_option maxRecDepth 100000 in
theorem okX1_setBeside : mm_mo TC mdX1_setBeside := mm_mo_ok (by decide +kernel)
set_option maxRecDepth 100000 in
theorem okX1_setWithin : mm_mo TC mdX1_setWithin := mm_mo_ok (by decide +kernel)
set_option maxRecDepth 100000 in
theorem okX1_keep : mm_mo TC mdX1_keep := mm_mo_ok (by decide +kernel)
set_option maxRecDepth 100000 in
theorem okX1_closeAll : mm_mo TC mdX1_closeAll := mm_mo_ok (by decide +kernel)
set_option maxRecDepth 100000 in
theorem okX2_find : mm_mo TC mdX2_find := mm_mo_ok (by decide +kernel)
set_option maxRecDepth 100000 in
theorem okX2_fillRest : mm_mo TC mdX2_fillRest := mm_mo_ok (by decide +kernel)
set_option maxRecDepth 100000 in
theorem okX2_nextBehind : mm_mo TC mdX2_nextBehind := mm_mo_ok (by decide +kernel)
set_option maxRecDepth 100000 in
theorem okX2_restBy : mm_mo TC mdX2_restBy := mm_mo_ok (by decide +kernel)
set_option maxRecDepth 100000 in
theorem okX2_follow : mm_mo TC mdX2_follow := mm_mo_ok (by decide +kernel)
set_option maxRecDepth 100000 in
theorem okX3_isWrong : mm_mo TC mdX3_isWrong := mm_mo_ok (by decide +kernel)
set_option maxRecDepth 100000 in
theorem okX3_hasTold : mm_mo TC mdX3_hasTold := mm_mo_ok (by decide +kernel)
set_option maxRecDepth 100000 in
theorem okX3_goThrough : mm_mo TC mdX3_goThrough := mm_mo_ok (by decide +kernel)
set_option maxRecDepth 100000 in
theorem okX3_begin : mm_mo TC mdX3_begin := mm_mo_ok (by decide +kernel)
set_option maxRecDepth 100000 in
theorem okX3_whyWrong : mm_mo TC mdX3_whyWrong := mm_mo_ok (by decide +kernel)
set_option maxRecDepth 100000 in
theorem okX3_isOnSide : mm_mo TC mdX3_isOnSide := mm_mo_ok (by decide +kernel)
set_option maxRecDepth 100000 in
theorem okX3_take : mm_mo TC mdX3_take := mm_mo_ok (by decide +kernel)
set_option maxRecDepth 100000 in
theorem okX3_openFrame : mm_mo TC mdX3_openFrame := mm_mo_ok (by decide +kernel)
set_option maxRecDepth 100000 in
theorem okX3_closeFrame : mm_mo TC mdX3_closeFrame := mm_mo_ok (by decide +kernel)
set_option maxRecDepth 100000 in
theorem okX3_tell : mm_mo TC mdX3_tell := mm_mo_ok (by decide +kernel)
set_option maxRecDepth 100000 in
theorem okX4_scene : mm_mo TC mdX4_scene := mm_mo_ok (by decide +kernel)
set_option maxRecDepth 100000 in
theorem okX4_ofScene : mm_mo TC mdX4_ofScene := mm_mo_ok (by decide +kernel)
set_option maxRecDepth 100000 in
theorem okX4_move : mm_mo TC mdX4_move := mm_mo_ok (by decide +kernel)
set_option maxRecDepth 100000 in
theorem okX4_shift : mm_mo TC mdX4_shift := mm_mo_ok (by decide +kernel)
set_option maxRecDepth 100000 in
theorem okX4_stretch : mm_mo TC mdX4_stretch := mm_mo_ok (by decide +kernel)
set_option maxRecDepth 100000 in
theorem okX4_clue : mm_mo TC mdX4_clue := mm_mo_ok (by decide +kernel)
set_option maxRecDepth 100000 in
theorem okX4_ofClue : mm_mo TC mdX4_ofClue := mm_mo_ok (by decide +kernel)
set_option maxRecDepth 100000 in
theorem okX4_drop : mm_mo TC mdX4_drop := mm_mo_ok (by decide +kernel)
set_option maxRecDepth 100000 in
theorem okX4_fee : mm_mo TC mdX4_fee := mm_mo_ok (by decide +kernel)
set_option maxRecDepth 100000 in
theorem okX4_jump : mm_mo TC mdX4_jump := mm_mo_ok (by decide +kernel)
set_option maxRecDepth 100000 in
theorem okX4_span : mm_mo TC mdX4_span := mm_mo_ok (by decide +kernel)
set_option maxRecDepth 100000 in
theorem okX4_add : mm_mo TC mdX4_add := mm_mo_ok (by decide +kernel)
set_option maxRecDepth 100000 in
theorem okX4_cut : mm_mo TC mdX4_cut := mm_mo_ok (by decide +kernel)
set_option maxRecDepth 100000 in
theorem okX4_judge : mm_mo TC mdX4_judge := mm_mo_ok (by decide +kernel)
set_option maxRecDepth 100000 in
theorem okX4_jumps : mm_mo TC mdX4_jumps := mm_mo_ok (by decide +kernel)
set_option maxRecDepth 100000 in
theorem okX4_told : mm_mo TC mdX4_told := mm_mo_ok (by decide +kernel)
set_option maxRecDepth 100000 in
theorem okX4_order : mm_mo TC mdX4_order := mm_mo_ok (by decide +kernel)
set_option maxRecDepth 100000 in
theorem okX4_framed : mm_mo TC mdX4_framed := mm_mo_ok (by decide +kernel)
set_option maxRecDepth 100000 in
theorem okX4_untangled : mm_mo TC mdX4_untangled := mm_mo_ok (by decide +kernel)
set_option maxRecDepth 100000 in
theorem okX4_many : mm_mo TC mdX4_many := mm_mo_ok (by decide +kernel)
set_option maxRecDepth 100000 in
theorem okX4_forgetBest : mm_mo TC mdX4_forgetBest := mm_mo_ok (by decide +kernel)
set_option maxRecDepth 100000 in
theorem okX4_findFrames : mm_mo TC mdX4_findFrames := mm_mo_ok (by decide +kernel)
set_option maxRecDepth 100000 in
theorem okX4_writeRow : mm_mo TC mdX4_writeRow := mm_mo_ok (by decide +kernel)
set_option maxRecDepth 100000 in
theorem okX4_changePlaces : mm_mo TC mdX4_changePlaces := mm_mo_ok (by decide +kernel)
set_option maxRecDepth 100000 in
theorem okX4_isClue : mm_mo TC mdX4_isClue := mm_mo_ok (by decide +kernel)
set_option maxRecDepth 100000 in
theorem okX4_isClueSet : mm_mo TC mdX4_isClueSet := mm_mo_ok (by decide +kernel)
set_option maxRecDepth 100000 in
theorem okX4_isIn : mm_mo TC mdX4_isIn := mm_mo_ok (by decide +kernel)
set_option maxRecDepth 100000 in
theorem okX4_fitsInt : mm_mo TC mdX4_fitsInt := mm_mo_ok (by decide +kernel)
set_option maxRecDepth 100000 in
theorem okX4_intOrOver : mm_mo TC mdX4_intOrOver := mm_mo_ok (by decide +kernel)
set_option maxRecDepth 100000 in
theorem okJ6_bitCount_0f7a4 : mm_mo TC mdJ6_bitCount_0f7a4 := mm_mo_ok (by decide +kernel)
set_option maxRecDepth 100000 in
theorem okJ7_fill_53178 : mm_mo TC mdJ7_fill_53178 := mm_mo_ok (by decide +kernel)
set_option maxRecDepth 100000 in
theorem okC_ms : ∀ md ∈ msC, mm_mo TC md := List.forall_mem_cons.mpr ⟨okX0_has, List.forall_mem_cons.mpr ⟨okX0_append, List.forall_mem_cons.mpr ⟨okX0_endOf, List.forall_mem_cons.mpr ⟨okX0_canMove, List.forall_mem_cons.mpr ⟨okX0_jumpBetween, List.forall_mem_cons.mpr ⟨okX0_sideBy, List.forall_mem_cons.mpr ⟨okX0_everyone, List.forall_mem_cons.mpr ⟨okX0_givenBy, List.forall_mem_cons.mpr ⟨okX0_allNeeds, List.forall_mem_cons.mpr ⟨okX0_readyAfter, List.forall_mem_cons.mpr ⟨okX0_extent, List.forall_mem_cons.mpr ⟨okX0_untold, List.forall_mem_cons.mpr ⟨okX0_isFirstToEnd, List.forall_mem_cons.mpr ⟨okX0_gapBehind, List.forall_mem_cons.mpr ⟨okX1_find, List.forall_mem_cons.mpr ⟨okX1_takeRow, List.forall_mem_cons.mpr ⟨okX1_setFrom, List.forall_mem_cons.mpr ⟨okX1_setBeside, List.forall_mem_cons.mpr ⟨okX1_setWithin, List.forall_mem_cons.mpr ⟨okX1_keep, List.forall_mem_cons.mpr ⟨okX1_closeAll, List.forall_mem_cons.mpr ⟨okX2_find, List.forall_mem_cons.mpr ⟨okX2_fillRest, List.forall_mem_cons.mpr ⟨okX2_nextBehind, List.forall_mem_cons.mpr ⟨okX2_restBy, List.forall_mem_cons.mpr ⟨okX2_follow, List.forall_mem_cons.mpr ⟨okX3_isWrong, List.forall_mem_cons.mpr ⟨okX3_hasTold, List.forall_mem_cons.mpr ⟨okX3_goThrough, List.forall_mem_cons.mpr ⟨okX3_begin, List.forall_mem_cons.mpr ⟨okX3_whyWrong, List.forall_mem_cons.mpr ⟨okX3_isOnSide, List.forall_mem_cons.mpr ⟨okX3_take, List.forall_mem_cons.mpr ⟨okX3_openFrame, List.forall_mem_cons.mpr ⟨okX3_closeFrame, List.forall_mem_cons.mpr ⟨okX3_tell, List.forall_mem_cons.mpr ⟨okX4_scene, List.forall_mem_cons.mpr ⟨okX4_ofScene, List.forall_mem_cons.mpr ⟨okX4_move, List.forall_mem_cons.mpr ⟨okX4_shift, List.forall_mem_cons.mpr ⟨okX4_stretch, List.forall_mem_cons.mpr ⟨okX4_clue, List.forall_mem_cons.mpr ⟨okX4_ofClue, List.forall_mem_cons.mpr ⟨okX4_drop, List.forall_mem_cons.mpr ⟨okX4_fee, List.forall_mem_cons.mpr ⟨okX4_jump, List.forall_mem_cons.mpr ⟨okX4_span, List.forall_mem_cons.mpr ⟨okX4_add, List.forall_mem_cons.mpr ⟨okX4_cut, List.forall_mem_cons.mpr ⟨okX4_judge, List.forall_mem_cons.mpr ⟨okX4_jumps, List.forall_mem_cons.mpr ⟨okX4_told, List.forall_mem_cons.mpr ⟨okX4_order, List.forall_mem_cons.mpr ⟨okX4_framed, List.forall_mem_cons.mpr ⟨okX4_untangled, List.forall_mem_cons.mpr ⟨okX4_many, List.forall_mem_cons.mpr ⟨okX4_forgetBest, List.forall_mem_cons.mpr ⟨okX4_findFrames, List.forall_mem_cons.mpr ⟨okX4_writeRow, List.forall_mem_cons.mpr ⟨okX4_changePlaces, List.forall_mem_cons.mpr ⟨okX4_isClue, List.forall_mem_cons.mpr ⟨okX4_isClueSet, List.forall_mem_cons.mpr ⟨okX4_isIn, List.forall_mem_cons.mpr ⟨okX4_fitsInt, List.forall_mem_cons.mpr ⟨okX4_intOrOver, List.forall_mem_cons.mpr ⟨okJ6_bitCount_0f7a4, List.forall_mem_cons.mpr ⟨okJ7_fill_53178, fun _ h => absurd h List.not_mem_nil⟩⟩⟩⟩⟩⟩⟩⟩⟩⟩⟩⟩⟩⟩⟩⟩⟩⟩⟩⟩⟩⟩⟩⟩⟩⟩⟩⟩⟩⟩⟩⟩⟩⟩⟩⟩⟩⟩⟩⟩⟩⟩⟩⟩⟩⟩⟩⟩⟩⟩⟩⟩⟩⟩⟩⟩⟩⟩⟩⟩⟩⟩⟩⟩⟩⟩⟩
set_option maxRecDepth 100000 in
theorem goodC : (mm_tb TC).all goodWord = true := by decide +kernel
set_option maxRecDepth 100000 in
theorem okC : mm_ok TC := mm_ok_of okC_ms (by decide +kernel) (by decide +kernel) (fun ci q h => by
  match ci, h with
  | 0, h => cases h; exact ⟨tyX0_ok, nmX0⟩
  | 1, h => cases h; exact ⟨tyX1_ok, nmX1⟩
  | 2, h => cases h; exact ⟨tyX2_ok, nmX2⟩
  | 3, h => cases h; exact ⟨tyX3_ok, nmX3⟩
  | 4, h => cases h; exact ⟨tyX4_ok, nmX4⟩
  | 5, h => cases h; exact ⟨tyX5_ok, nmX5⟩
  | ci + 6, h => simp [mm_cl, TC, vwCl] at h) goodC
set_option maxRecDepth 100000 in
theorem inC_0 : ∀ w ∈ [mm_mw mdX0_has], w ∈ lw_tbl := mm_mem [294] (rfl)
set_option maxRecDepth 100000 in
theorem inC_1 : ∀ w ∈ [mm_mw mdX0_append], w ∈ lw_tbl := mm_mem [286] (rfl)
set_option maxRecDepth 100000 in
theorem inC_2 : ∀ w ∈ [mm_mw mdX0_endOf], w ∈ lw_tbl := mm_mem [299] (rfl)
set_option maxRecDepth 100000 in
theorem inC_3 : ∀ w ∈ [mm_mw mdX0_canMove], w ∈ lw_tbl := mm_mem [307] (rfl)
set_option maxRecDepth 100000 in
theorem inC_4 : ∀ w ∈ [mm_mw mdX0_jumpBetween], w ∈ lw_tbl := mm_mem [349] (rfl)
set_option maxRecDepth 100000 in
theorem inC_5 : ∀ w ∈ [mm_mw mdX0_sideBy], w ∈ lw_tbl := mm_mem [420] (rfl)
set_option maxRecDepth 100000 in
theorem inC_6 : ∀ w ∈ [mm_mw mdX0_everyone], w ∈ lw_tbl := mm_mem [468] (rfl)
set_option maxRecDepth 100000 in
theorem inC_7 : ∀ w ∈ [mm_mw mdX0_givenBy], w ∈ lw_tbl := mm_mem [480] (rfl)
set_option maxRecDepth 100000 in
theorem inC_8 : ∀ w ∈ [mm_mw mdX0_allNeeds], w ∈ lw_tbl := mm_mem [559] (rfl)
set_option maxRecDepth 100000 in
theorem inC_9 : ∀ w ∈ [mm_mw mdX0_readyAfter], w ∈ lw_tbl := mm_mem [476] (rfl)
set_option maxRecDepth 100000 in
theorem inC_10 : ∀ w ∈ [mm_mw mdX0_extent], w ∈ lw_tbl := mm_mem [360] (rfl)
set_option maxRecDepth 100000 in
theorem inC_11 : ∀ w ∈ [mm_mw mdX0_untold], w ∈ lw_tbl := mm_mem [372] (rfl)
set_option maxRecDepth 100000 in
theorem inC_12 : ∀ w ∈ [mm_mw mdX0_isFirstToEnd], w ∈ lw_tbl := mm_mem [376] (rfl)
set_option maxRecDepth 100000 in
theorem inC_13 : ∀ w ∈ [mm_mw mdX0_gapBehind], w ∈ lw_tbl := mm_mem [380] (rfl)
set_option maxRecDepth 100000 in
theorem inC_14 : ∀ w ∈ [mm_mw mdX1_find], w ∈ lw_tbl := mm_mem [512] (rfl)
set_option maxRecDepth 100000 in
theorem inC_15 : ∀ w ∈ [mm_mw mdX1_takeRow], w ∈ lw_tbl := mm_mem [517] (rfl)
set_option maxRecDepth 100000 in
theorem inC_16 : ∀ w ∈ [mm_mw mdX1_setFrom], w ∈ lw_tbl := mm_mem [522] (rfl)
set_option maxRecDepth 100000 in
theorem inC_17 : ∀ w ∈ [mm_mw mdX1_setBeside], w ∈ lw_tbl := mm_mem [537] (rfl)
set_option maxRecDepth 100000 in
theorem inC_18 : ∀ w ∈ [mm_mw mdX1_setWithin], w ∈ lw_tbl := mm_mem [543] (rfl)
set_option maxRecDepth 100000 in
theorem inC_19 : ∀ w ∈ [mm_mw mdX1_keep], w ∈ lw_tbl := mm_mem [526] (rfl)
set_option maxRecDepth 100000 in
theorem inC_20 : ∀ w ∈ [mm_mw mdX1_closeAll], w ∈ lw_tbl := mm_mem [533] (rfl)
set_option maxRecDepth 100000 in
theorem inC_21 : ∀ w ∈ [mm_mw mdX2_find], w ∈ lw_tbl := mm_mem [464] (rfl)
set_option maxRecDepth 100000 in
theorem inC_22 : ∀ w ∈ [mm_mw mdX2_fillRest], w ∈ lw_tbl := mm_mem [472] (rfl)
set_option maxRecDepth 100000 in
theorem inC_23 : ∀ w ∈ [mm_mw mdX2_nextBehind], w ∈ lw_tbl := mm_mem [486] (rfl)
set_option maxRecDepth 100000 in
theorem inC_24 : ∀ w ∈ [mm_mw mdX2_restBy], w ∈ lw_tbl := mm_mem [491] (rfl)
set_option maxRecDepth 100000 in
theorem inC_25 : ∀ w ∈ [mm_mw mdX2_follow], w ∈ lw_tbl := mm_mem [496] (rfl)
set_option maxRecDepth 100000 in
theorem inC_26 : ∀ w ∈ [mm_mw mdX3_isWrong], w ∈ lw_tbl := mm_mem [444] (rfl)
set_option maxRecDepth 100000 in
theorem inC_27 : ∀ w ∈ [mm_mw mdX3_hasTold], w ∈ lw_tbl := mm_mem [412] (rfl)
set_option maxRecDepth 100000 in
theorem inC_28 : ∀ w ∈ [mm_mw mdX3_goThrough], w ∈ lw_tbl := mm_mem [396] (rfl)
set_option maxRecDepth 100000 in
theorem inC_29 : ∀ w ∈ [mm_mw mdX3_begin], w ∈ lw_tbl := mm_mem [400] (rfl)
set_option maxRecDepth 100000 in
theorem inC_30 : ∀ w ∈ [mm_mw mdX3_whyWrong], w ∈ lw_tbl := mm_mem [407] (rfl)
set_option maxRecDepth 100000 in
theorem inC_31 : ∀ w ∈ [mm_mw mdX3_isOnSide], w ∈ lw_tbl := mm_mem [416] (rfl)
set_option maxRecDepth 100000 in
theorem inC_32 : ∀ w ∈ [mm_mw mdX3_take], w ∈ lw_tbl := mm_mem [424] (rfl)
set_option maxRecDepth 100000 in
theorem inC_33 : ∀ w ∈ [mm_mw mdX3_openFrame], w ∈ lw_tbl := mm_mem [428] (rfl)
set_option maxRecDepth 100000 in
theorem inC_34 : ∀ w ∈ [mm_mw mdX3_closeFrame], w ∈ lw_tbl := mm_mem [435] (rfl)
set_option maxRecDepth 100000 in
theorem inC_35 : ∀ w ∈ [mm_mw mdX3_tell], w ∈ lw_tbl := mm_mem [439] (rfl)
set_option maxRecDepth 100000 in
theorem inC_36 : ∀ w ∈ [mm_mw mdX4_scene], w ∈ lw_tbl := mm_mem [270] (rfl)
set_option maxRecDepth 100000 in
theorem inC_37 : ∀ w ∈ [mm_mw mdX4_ofScene], w ∈ lw_tbl := mm_mem [290] (rfl)
set_option maxRecDepth 100000 in
theorem inC_38 : ∀ w ∈ [mm_mw mdX4_move], w ∈ lw_tbl := mm_mem [303] (rfl)
set_option maxRecDepth 100000 in
theorem inC_39 : ∀ w ∈ [mm_mw mdX4_shift], w ∈ lw_tbl := mm_mem [314] (rfl)
set_option maxRecDepth 100000 in
theorem inC_40 : ∀ w ∈ [mm_mw mdX4_stretch], w ∈ lw_tbl := mm_mem [318] (rfl)
set_option maxRecDepth 100000 in
theorem inC_41 : ∀ w ∈ [mm_mw mdX4_clue], w ∈ lw_tbl := mm_mem [322] (rfl)
set_option maxRecDepth 100000 in
theorem inC_42 : ∀ w ∈ [mm_mw mdX4_ofClue], w ∈ lw_tbl := mm_mem [329] (rfl)
set_option maxRecDepth 100000 in
theorem inC_43 : ∀ w ∈ [mm_mw mdX4_drop], w ∈ lw_tbl := mm_mem [336] (rfl)
set_option maxRecDepth 100000 in
theorem inC_44 : ∀ w ∈ [mm_mw mdX4_fee], w ∈ lw_tbl := mm_mem [340] (rfl)
set_option maxRecDepth 100000 in
theorem inC_45 : ∀ w ∈ [mm_mw mdX4_jump], w ∈ lw_tbl := mm_mem [345] (rfl)
set_option maxRecDepth 100000 in
theorem inC_46 : ∀ w ∈ [mm_mw mdX4_span], w ∈ lw_tbl := mm_mem [356] (rfl)
set_option maxRecDepth 100000 in
theorem inC_47 : ∀ w ∈ [mm_mw mdX4_add], w ∈ lw_tbl := mm_mem [384] (rfl)
set_option maxRecDepth 100000 in
theorem inC_48 : ∀ w ∈ [mm_mw mdX4_cut], w ∈ lw_tbl := mm_mem [388] (rfl)
set_option maxRecDepth 100000 in
theorem inC_49 : ∀ w ∈ [mm_mw mdX4_judge], w ∈ lw_tbl := mm_mem [392] (rfl)
set_option maxRecDepth 100000 in
theorem inC_50 : ∀ w ∈ [mm_mw mdX4_jumps], w ∈ lw_tbl := mm_mem [448] (rfl)
set_option maxRecDepth 100000 in
theorem inC_51 : ∀ w ∈ [mm_mw mdX4_told], w ∈ lw_tbl := mm_mem [455] (rfl)
set_option maxRecDepth 100000 in
theorem inC_52 : ∀ w ∈ [mm_mw mdX4_order], w ∈ lw_tbl := mm_mem [460] (rfl)
set_option maxRecDepth 100000 in
theorem inC_53 : ∀ w ∈ [mm_mw mdX4_framed], w ∈ lw_tbl := mm_mem [500] (rfl)
set_option maxRecDepth 100000 in
theorem inC_54 : ∀ w ∈ [mm_mw mdX4_untangled], w ∈ lw_tbl := mm_mem [547] (rfl)
set_option maxRecDepth 100000 in
theorem inC_55 : ∀ w ∈ [mm_mw mdX4_many], w ∈ lw_tbl := mm_mem [555] (rfl)
set_option maxRecDepth 100000 in
theorem inC_56 : ∀ w ∈ [mm_mw mdX4_forgetBest], w ∈ lw_tbl := mm_mem [282] (rfl)
set_option maxRecDepth 100000 in
theorem inC_57 : ∀ w ∈ [mm_mw mdX4_findFrames], w ∈ lw_tbl := mm_mem [504] (rfl)
set_option maxRecDepth 100000 in
theorem inC_58 : ∀ w ∈ [mm_mw mdX4_writeRow], w ∈ lw_tbl := mm_mem [508] (rfl)
set_option maxRecDepth 100000 in
theorem inC_59 : ∀ w ∈ [mm_mw mdX4_changePlaces], w ∈ lw_tbl := mm_mem [551] (rfl)
set_option maxRecDepth 100000 in
theorem inC_60 : ∀ w ∈ [mm_mw mdX4_isClue], w ∈ lw_tbl := mm_mem [325] (rfl)
set_option maxRecDepth 100000 in
theorem inC_61 : ∀ w ∈ [mm_mw mdX4_isClueSet], w ∈ lw_tbl := mm_mem [273] (rfl)
set_option maxRecDepth 100000 in
theorem inC_62 : ∀ w ∈ [mm_mw mdX4_isIn], w ∈ lw_tbl := mm_mem [332] (rfl)
set_option maxRecDepth 100000 in
theorem inC_63 : ∀ w ∈ [mm_mw mdX4_fitsInt], w ∈ lw_tbl := mm_mem [276] (rfl)
set_option maxRecDepth 100000 in
theorem inC_64 : ∀ w ∈ [mm_mw mdX4_intOrOver], w ∈ lw_tbl := mm_mem [451] (rfl)
set_option maxRecDepth 100000 in
theorem inC_65 : ∀ w ∈ [mm_mw mdJ6_bitCount_0f7a4], w ∈ lw_tbl := mm_mem [564] (rfl)
set_option maxRecDepth 100000 in
theorem inC_66 : ∀ w ∈ [mm_mw mdJ7_fill_53178], w ∈ lw_tbl := mm_mem [403] (rfl)
set_option maxRecDepth 100000 in
theorem inC_67 : ∀ w ∈ [mm_fw TC (0, 24, 1, 4)], w ∈ lw_tbl := mm_mem [90] (rfl)
set_option maxRecDepth 100000 in
theorem inC_68 : ∀ w ∈ [mm_fw TC (0, 9, 1, 0)], w ∈ lw_tbl := mm_mem [80] (rfl)
set_option maxRecDepth 100000 in
theorem inC_69 : ∀ w ∈ [mm_fw TC (0, 15, 1, 1)], w ∈ lw_tbl := mm_mem [82] (rfl)
set_option maxRecDepth 100000 in
theorem inC_70 : ∀ w ∈ [mm_fw TC (0, 18, 1, 2)], w ∈ lw_tbl := mm_mem [84] (rfl)
set_option maxRecDepth 100000 in
theorem inC_71 : ∀ w ∈ [mm_fw TC (0, 21, 1, 3)], w ∈ lw_tbl := mm_mem [87] (rfl)
set_option maxRecDepth 100000 in
theorem inC_72 : ∀ w ∈ [mm_fw TC (1, 44, 16, 10)], w ∈ lw_tbl := mm_mem [214] (rfl)
set_option maxRecDepth 100000 in
theorem inC_73 : ∀ w ∈ [mm_fw TC (1, 37, 16, 8)], w ∈ lw_tbl := mm_mem [210] (rfl)
set_option maxRecDepth 100000 in
theorem inC_74 : ∀ w ∈ [mm_fw TC (1, 40, 16, 9)], w ∈ lw_tbl := mm_mem [212] (rfl)
set_option maxRecDepth 100000 in
theorem inC_75 : ∀ w ∈ [mm_fw TC (1, 31, 16, 6)], w ∈ lw_tbl := mm_mem [207] (rfl)
set_option maxRecDepth 100000 in
theorem inC_76 : ∀ w ∈ [mm_fw TC (1, 28, 16, 5)], w ∈ lw_tbl := mm_mem [206] (rfl)
set_option maxRecDepth 100000 in
theorem inC_77 : ∀ w ∈ [mm_fw TC (1, 15, 16, 1)], w ∈ lw_tbl := mm_mem [202] (rfl)
set_option maxRecDepth 100000 in
theorem inC_78 : ∀ w ∈ [mm_fw TC (1, 9, 16, 0)], w ∈ lw_tbl := mm_mem [201] (rfl)
set_option maxRecDepth 100000 in
theorem inC_79 : ∀ w ∈ [mm_fw TC (1, 19, 16, 2)], w ∈ lw_tbl := mm_mem [203] (rfl)
set_option maxRecDepth 100000 in
theorem inC_80 : ∀ w ∈ [mm_fw TC (1, 22, 16, 3)], w ∈ lw_tbl := mm_mem [204] (rfl)
set_option maxRecDepth 100000 in
theorem inC_81 : ∀ w ∈ [mm_fw TC (1, 25, 16, 4)], w ∈ lw_tbl := mm_mem [205] (rfl)
set_option maxRecDepth 100000 in
theorem inC_82 : ∀ w ∈ [mm_fw TC (1, 34, 16, 7)], w ∈ lw_tbl := mm_mem [208] (rfl)
set_option maxRecDepth 100000 in
theorem inC_83 : ∀ w ∈ [mm_fw TC (2, 27, 13, 4)], w ∈ lw_tbl := mm_mem [181] (rfl)
set_option maxRecDepth 100000 in
theorem inC_84 : ∀ w ∈ [mm_fw TC (2, 19, 13, 2)], w ∈ lw_tbl := mm_mem [177] (rfl)
set_option maxRecDepth 100000 in
theorem inC_85 : ∀ w ∈ [mm_fw TC (2, 23, 13, 3)], w ∈ lw_tbl := mm_mem [179] (rfl)
set_option maxRecDepth 100000 in
theorem inC_86 : ∀ w ∈ [mm_fw TC (2, 41, 1, 4)], w ∈ lw_tbl := mm_mem [92] (rfl)
set_option maxRecDepth 100000 in
theorem inC_87 : ∀ w ∈ [mm_fw TC (2, 11, 13, 0)], w ∈ lw_tbl := mm_mem [174] (rfl)
set_option maxRecDepth 100000 in
theorem inC_88 : ∀ w ∈ [mm_fw TC (2, 15, 13, 1)], w ∈ lw_tbl := mm_mem [175] (rfl)
set_option maxRecDepth 100000 in
theorem inC_89 : ∀ w ∈ [mm_fw TC (3, 24, 7, 5)], w ∈ lw_tbl := mm_mem [121] (rfl)
set_option maxRecDepth 100000 in
theorem inC_90 : ∀ w ∈ [mm_fw TC (3, 9, 7, 0)], w ∈ lw_tbl := mm_mem [111] (rfl)
set_option maxRecDepth 100000 in
theorem inC_91 : ∀ w ∈ [mm_fw TC (3, 39, 7, 4)], w ∈ lw_tbl := mm_mem [119] (rfl)
set_option maxRecDepth 100000 in
theorem inC_92 : ∀ w ∈ [mm_fw TC (3, 42, 7, 11)], w ∈ lw_tbl := mm_mem [133] (rfl)
set_option maxRecDepth 100000 in
theorem inC_93 : ∀ w ∈ [mm_fw TC (3, 51, 7, 6)], w ∈ lw_tbl := mm_mem [123] (rfl)
set_option maxRecDepth 100000 in
theorem inC_94 : ∀ w ∈ [mm_fw TC (3, 54, 7, 7)], w ∈ lw_tbl := mm_mem [125] (rfl)
set_option maxRecDepth 100000 in
theorem inC_95 : ∀ w ∈ [mm_fw TC (3, 57, 7, 8)], w ∈ lw_tbl := mm_mem [127] (rfl)
set_option maxRecDepth 100000 in
theorem inC_96 : ∀ w ∈ [mm_fw TC (3, 60, 7, 9)], w ∈ lw_tbl := mm_mem [129] (rfl)
set_option maxRecDepth 100000 in
theorem inC_97 : ∀ w ∈ [mm_fw TC (3, 63, 7, 10)], w ∈ lw_tbl := mm_mem [131] (rfl)
set_option maxRecDepth 100000 in
theorem inC_98 : ∀ w ∈ [mm_fw TC (3, 67, 7, 12)], w ∈ lw_tbl := mm_mem [134] (rfl)
set_option maxRecDepth 100000 in
theorem inC_99 : ∀ w ∈ [mm_fw TC (3, 70, 7, 13)], w ∈ lw_tbl := mm_mem [135] (rfl)
set_option maxRecDepth 100000 in
theorem inC_100 : ∀ w ∈ [mm_fw TC (3, 73, 7, 14)], w ∈ lw_tbl := mm_mem [136] (rfl)
set_option maxRecDepth 100000 in
theorem inC_101 : ∀ w ∈ [mm_fw TC (3, 85, 1, 3)], w ∈ lw_tbl := mm_mem [89] (rfl)
set_option maxRecDepth 100000 in
theorem inC_102 : ∀ w ∈ [mm_fw TC (3, 18, 7, 2)], w ∈ lw_tbl := mm_mem [115] (rfl)
set_option maxRecDepth 100000 in
theorem inC_103 : ∀ w ∈ [mm_fw TC (3, 21, 7, 3)], w ∈ lw_tbl := mm_mem [117] (rfl)
set_option maxRecDepth 100000 in
theorem inC_104 : ∀ w ∈ [mm_fw TC (3, 15, 7, 1)], w ∈ lw_tbl := mm_mem [113] (rfl)
set_option maxRecDepth 100000 in
theorem inC_105 : ∀ w ∈ [mm_fw TC (3, 114, 1, 2)], w ∈ lw_tbl := mm_mem [86] (rfl)
set_option maxRecDepth 100000 in
theorem inC_106 : ∀ w ∈ [mm_fw TC (4, 12, 0, 0)], w ∈ lw_tbl := mm_mem [239] (rfl)
set_option maxRecDepth 100000 in
theorem inC_107 : ∀ w ∈ [mm_fw TC (4, 60, 1, 4)], w ∈ lw_tbl := mm_mem [91] (rfl)
set_option maxRecDepth 100000 in
theorem inC_108 : ∀ w ∈ [mm_fw TC (4, 79, 1, 0)], w ∈ lw_tbl := mm_mem [81] (rfl)
set_option maxRecDepth 100000 in
theorem inC_109 : ∀ w ∈ [mm_fw TC (4, 82, 1, 1)], w ∈ lw_tbl := mm_mem [83] (rfl)
set_option maxRecDepth 100000 in
theorem inC_110 : ∀ w ∈ [mm_fw TC (4, 89, 1, 2)], w ∈ lw_tbl := mm_mem [85] (rfl)
set_option maxRecDepth 100000 in
theorem inC_111 : ∀ w ∈ [mm_fw TC (4, 92, 1, 3)], w ∈ lw_tbl := mm_mem [88] (rfl)
set_option maxRecDepth 100000 in
theorem inC_112 : ∀ w ∈ [mm_fw TC (4, 26, 0, 3)], w ∈ lw_tbl := mm_mem [242] (rfl)
set_option maxRecDepth 100000 in
theorem inC_113 : ∀ w ∈ [mm_fw TC (4, 22, 0, 2)], w ∈ lw_tbl := mm_mem [241] (rfl)
set_option maxRecDepth 100000 in
theorem inC_114 : ∀ w ∈ [mm_fw TC (4, 18, 0, 1)], w ∈ lw_tbl := mm_mem [240] (rfl)
set_option maxRecDepth 100000 in
theorem inC_115 : ∀ w ∈ [mm_fw TC (4, 29, 0, 4)], w ∈ lw_tbl := mm_mem [243] (rfl)
set_option maxRecDepth 100000 in
theorem inC_116 : ∀ w ∈ [mm_fw TC (4, 35, 0, 5)], w ∈ lw_tbl := mm_mem [244] (rfl)
set_option maxRecDepth 100000 in
theorem inC_117 : ∀ w ∈ [mm_fw TC (4, 125, 7, 4)], w ∈ lw_tbl := mm_mem [120] (rfl)
set_option maxRecDepth 100000 in
theorem inC_118 : ∀ w ∈ [mm_fw TC (4, 128, 7, 5)], w ∈ lw_tbl := mm_mem [122] (rfl)
set_option maxRecDepth 100000 in
theorem inC_119 : ∀ w ∈ [mm_fw TC (4, 131, 7, 6)], w ∈ lw_tbl := mm_mem [124] (rfl)
set_option maxRecDepth 100000 in
theorem inC_120 : ∀ w ∈ [mm_fw TC (4, 134, 7, 7)], w ∈ lw_tbl := mm_mem [126] (rfl)
set_option maxRecDepth 100000 in
theorem inC_121 : ∀ w ∈ [mm_fw TC (4, 137, 7, 8)], w ∈ lw_tbl := mm_mem [128] (rfl)
set_option maxRecDepth 100000 in
theorem inC_122 : ∀ w ∈ [mm_fw TC (4, 140, 7, 9)], w ∈ lw_tbl := mm_mem [130] (rfl)
set_option maxRecDepth 100000 in
theorem inC_123 : ∀ w ∈ [mm_fw TC (4, 143, 7, 10)], w ∈ lw_tbl := mm_mem [132] (rfl)
set_option maxRecDepth 100000 in
theorem inC_124 : ∀ w ∈ [mm_fw TC (4, 154, 7, 0)], w ∈ lw_tbl := mm_mem [112] (rfl)
set_option maxRecDepth 100000 in
theorem inC_125 : ∀ w ∈ [mm_fw TC (4, 157, 7, 1)], w ∈ lw_tbl := mm_mem [114] (rfl)
set_option maxRecDepth 100000 in
theorem inC_126 : ∀ w ∈ [mm_fw TC (4, 160, 7, 2)], w ∈ lw_tbl := mm_mem [116] (rfl)
set_option maxRecDepth 100000 in
theorem inC_127 : ∀ w ∈ [mm_fw TC (4, 163, 7, 3)], w ∈ lw_tbl := mm_mem [118] (rfl)
set_option maxRecDepth 100000 in
theorem inC_128 : ∀ w ∈ [mm_fw TC (4, 45, 0, 7)], w ∈ lw_tbl := mm_mem [246] (rfl)
set_option maxRecDepth 100000 in
theorem inC_129 : ∀ w ∈ [mm_fw TC (4, 166, 13, 4)], w ∈ lw_tbl := mm_mem [182] (rfl)
set_option maxRecDepth 100000 in
theorem inC_130 : ∀ w ∈ [mm_fw TC (4, 174, 13, 2)], w ∈ lw_tbl := mm_mem [178] (rfl)
set_option maxRecDepth 100000 in
theorem inC_131 : ∀ w ∈ [mm_fw TC (4, 175, 13, 3)], w ∈ lw_tbl := mm_mem [180] (rfl)
set_option maxRecDepth 100000 in
theorem inC_132 : ∀ w ∈ [mm_fw TC (4, 176, 13, 1)], w ∈ lw_tbl := mm_mem [176] (rfl)
set_option maxRecDepth 100000 in
theorem inC_133 : ∀ w ∈ [mm_fw TC (4, 52, 0, 8)], w ∈ lw_tbl := mm_mem [247] (rfl)
set_option maxRecDepth 100000 in
theorem inC_134 : ∀ w ∈ [mm_fw TC (4, 179, 16, 10)], w ∈ lw_tbl := mm_mem [215] (rfl)
set_option maxRecDepth 100000 in
theorem inC_135 : ∀ w ∈ [mm_fw TC (4, 183, 16, 8)], w ∈ lw_tbl := mm_mem [211] (rfl)
set_option maxRecDepth 100000 in
theorem inC_136 : ∀ w ∈ [mm_fw TC (4, 184, 16, 9)], w ∈ lw_tbl := mm_mem [213] (rfl)
set_option maxRecDepth 100000 in
theorem inC_137 : ∀ w ∈ [mm_fw TC (4, 185, 16, 7)], w ∈ lw_tbl := mm_mem [209] (rfl)
set_option maxRecDepth 100000 in
theorem inC_138 : ∀ w ∈ [mm_fw TC (4, 39, 0, 6)], w ∈ lw_tbl := mm_mem [245] (rfl)
set_option maxRecDepth 100000 in
theorem inC_139 : ∀ w ∈ mm_cw TC (0, 28, 0, 0, 1), w ∈ lw_tbl := mm_mem [308, 292, 293, 57] (rfl)
set_option maxRecDepth 100000 in
theorem inC_140 : ∀ w ∈ mm_cw TC (0, 32, 2, 63, 0), w ∈ lw_tbl := mm_mem [275, 56] (rfl)
set_option maxRecDepth 100000 in
theorem inC_141 : ∀ w ∈ mm_cw TC (0, 36, 0, 2, 1), w ∈ lw_tbl := mm_mem [310, 297, 298, 57] (rfl)
set_option maxRecDepth 100000 in
theorem inC_142 : ∀ w ∈ mm_cw TC (0, 46, 2, 62, 0), w ∈ lw_tbl := mm_mem [331, 56] (rfl)
set_option maxRecDepth 100000 in
theorem inC_143 : ∀ w ∈ mm_cw TC (0, 50, 0, 7, 1), w ∈ lw_tbl := mm_mem [477, 478, 479, 57] (rfl)
set_option maxRecDepth 100000 in
theorem inC_144 : ∀ w ∈ mm_cw TC (0, 67, 0, 12, 1), w ∈ lw_tbl := mm_mem [373, 375, 1, 57] (rfl)
set_option maxRecDepth 100000 in
theorem inC_145 : ∀ w ∈ mm_cw TC (0, 70, 0, 13, 1), w ∈ lw_tbl := mm_mem [377, 379, 2, 57] (rfl)
set_option maxRecDepth 100000 in
theorem inC_146 : ∀ w ∈ mm_cw TC (1, 52, 0, 15, 16), w ∈ lw_tbl := mm_mem [514, 516, 16, 60] (rfl)
set_option maxRecDepth 100000 in
theorem inC_147 : ∀ w ∈ mm_cw TC (1, 56, 0, 16, 16), w ∈ lw_tbl := mm_mem [519, 521, 17, 60] (rfl)
set_option maxRecDepth 100000 in
theorem inC_148 : ∀ w ∈ mm_cw TC (1, 60, 0, 0, 1), w ∈ lw_tbl := mm_mem [518, 292, 293, 57] (rfl)
set_option maxRecDepth 100000 in
theorem inC_149 : ∀ w ∈ mm_cw TC (1, 66, 0, 19, 16), w ∈ lw_tbl := mm_mem [523, 525, 18, 60] (rfl)
set_option maxRecDepth 100000 in
theorem inC_150 : ∀ w ∈ mm_cw TC (1, 70, 0, 17, 16), w ∈ lw_tbl := mm_mem [534, 536, 20, 60] (rfl)
set_option maxRecDepth 100000 in
theorem inC_151 : ∀ w ∈ mm_cw TC (1, 74, 0, 18, 16), w ∈ lw_tbl := mm_mem [540, 542, 21, 60] (rfl)
set_option maxRecDepth 100000 in
theorem inC_152 : ∀ w ∈ mm_cw TC (1, 77, 0, 5, 1), w ∈ lw_tbl := mm_mem [538, 418, 419, 57] (rfl)
set_option maxRecDepth 100000 in
theorem inC_153 : ∀ w ∈ mm_cw TC (1, 81, 0, 4, 1), w ∈ lw_tbl := mm_mem [539, 347, 348, 57] (rfl)
set_option maxRecDepth 100000 in
theorem inC_154 : ∀ w ∈ mm_cw TC (1, 91, 0, 20, 16), w ∈ lw_tbl := mm_mem [530, 532, 19, 60] (rfl)
set_option maxRecDepth 100000 in
theorem inC_155 : ∀ w ∈ mm_cw TC (2, 31, 0, 6, 1), w ∈ lw_tbl := mm_mem [465, 466, 467, 57] (rfl)
set_option maxRecDepth 100000 in
theorem inC_156 : ∀ w ∈ mm_cw TC (2, 37, 0, 22, 13), w ∈ lw_tbl := mm_mem [469, 471, 10, 59] (rfl)
set_option maxRecDepth 100000 in
theorem inC_157 : ∀ w ∈ mm_cw TC (2, 44, 0, 25, 13), w ∈ lw_tbl := mm_mem [493, 495, 13, 59] (rfl)
set_option maxRecDepth 100000 in
theorem inC_158 : ∀ w ∈ mm_cw TC (2, 48, 0, 9, 1), w ∈ lw_tbl := mm_mem [473, 474, 475, 57] (rfl)
set_option maxRecDepth 100000 in
theorem inC_159 : ∀ w ∈ mm_cw TC (2, 52, 2, 62, 0), w ∈ lw_tbl := mm_mem [331, 56] (rfl)
set_option maxRecDepth 100000 in
theorem inC_160 : ∀ w ∈ mm_cw TC (2, 56, 0, 23, 13), w ∈ lw_tbl := mm_mem [483, 485, 11, 59] (rfl)
set_option maxRecDepth 100000 in
theorem inC_161 : ∀ w ∈ mm_cw TC (2, 60, 0, 24, 13), w ∈ lw_tbl := mm_mem [488, 490, 12, 59] (rfl)
set_option maxRecDepth 100000 in
theorem inC_162 : ∀ w ∈ mm_cw TC (2, 64, 0, 4, 1), w ∈ lw_tbl := mm_mem [492, 347, 348, 57] (rfl)
set_option maxRecDepth 100000 in
theorem inC_163 : ∀ w ∈ mm_cw TC (3, 28, 0, 29, 7), w ∈ lw_tbl := mm_mem [397, 399, 3, 58] (rfl)
set_option maxRecDepth 100000 in
theorem inC_164 : ∀ w ∈ mm_cw TC (3, 31, 0, 30, 7), w ∈ lw_tbl := mm_mem [404, 406, 4, 58] (rfl)
set_option maxRecDepth 100000 in
theorem inC_165 : ∀ w ∈ mm_cw TC (3, 35, 0, 32, 7), w ∈ lw_tbl := mm_mem [421, 423, 6, 58] (rfl)
set_option maxRecDepth 100000 in
theorem inC_166 : ∀ w ∈ mm_cw TC (3, 45, 1, 66, 0), w ∈ lw_tbl := mm_mem [401, 402, 63] (rfl)
set_option maxRecDepth 100000 in
theorem inC_167 : ∀ w ∈ mm_cw TC (3, 76, 0, 0, 1), w ∈ lw_tbl := mm_mem [408, 292, 293, 57] (rfl)
set_option maxRecDepth 100000 in
theorem inC_168 : ∀ w ∈ mm_cw TC (3, 82, 0, 27, 7), w ∈ lw_tbl := mm_mem [409, 410, 411, 58] (rfl)
set_option maxRecDepth 100000 in
theorem inC_169 : ∀ w ∈ mm_cw TC (3, 88, 0, 31, 7), w ∈ lw_tbl := mm_mem [413, 415, 5, 58] (rfl)
set_option maxRecDepth 100000 in
theorem inC_170 : ∀ w ∈ mm_cw TC (3, 92, 0, 5, 1), w ∈ lw_tbl := mm_mem [417, 418, 419, 57] (rfl)
set_option maxRecDepth 100000 in
theorem inC_171 : ∀ w ∈ mm_cw TC (3, 96, 0, 33, 7), w ∈ lw_tbl := mm_mem [425, 427, 7, 58] (rfl)
set_option maxRecDepth 100000 in
theorem inC_172 : ∀ w ∈ mm_cw TC (3, 99, 0, 34, 7), w ∈ lw_tbl := mm_mem [432, 434, 8, 58] (rfl)
set_option maxRecDepth 100000 in
theorem inC_173 : ∀ w ∈ mm_cw TC (3, 102, 0, 35, 7), w ∈ lw_tbl := mm_mem [436, 438, 9, 58] (rfl)
set_option maxRecDepth 100000 in
theorem inC_174 : ∀ w ∈ mm_cw TC (3, 110, 0, 4, 1), w ∈ lw_tbl := mm_mem [440, 347, 348, 57] (rfl)
set_option maxRecDepth 100000 in
theorem inC_175 : ∀ w ∈ mm_cw TC (4, 56, 1, 61, 0), w ∈ lw_tbl := mm_mem [271, 272, 56] (rfl)
set_option maxRecDepth 100000 in
theorem inC_176 : ∀ w ∈ mm_cw TC (4, 63, 1, 63, 0), w ∈ lw_tbl := mm_mem [274, 275, 56] (rfl)
set_option maxRecDepth 100000 in
theorem inC_177 : ∀ w ∈ mm_cw TC (4, 67, 0, 56, 0), w ∈ lw_tbl := mm_mem [279, 281, 0, 56] (rfl)
set_option maxRecDepth 100000 in
theorem inC_178 : ∀ w ∈ mm_cw TC (4, 70, 0, 1, 1), w ∈ lw_tbl := mm_mem [283, 284, 285, 57] (rfl)
set_option maxRecDepth 100000 in
theorem inC_179 : ∀ w ∈ mm_cw TC (4, 74, 0, 0, 1), w ∈ lw_tbl := mm_mem [291, 292, 293, 57] (rfl)
set_option maxRecDepth 100000 in
theorem inC_180 : ∀ w ∈ mm_cw TC (4, 85, 0, 2, 1), w ∈ lw_tbl := mm_mem [296, 297, 298, 57] (rfl)
set_option maxRecDepth 100000 in
theorem inC_181 : ∀ w ∈ mm_cw TC (4, 95, 0, 3, 1), w ∈ lw_tbl := mm_mem [304, 305, 306, 57] (rfl)
set_option maxRecDepth 100000 in
theorem inC_182 : ∀ w ∈ mm_cw TC (4, 99, 1, 60, 0), w ∈ lw_tbl := mm_mem [323, 324, 56] (rfl)
set_option maxRecDepth 100000 in
theorem inC_183 : ∀ w ∈ mm_cw TC (4, 102, 1, 62, 0), w ∈ lw_tbl := mm_mem [330, 331, 56] (rfl)
set_option maxRecDepth 100000 in
theorem inC_184 : ∀ w ∈ mm_cw TC (4, 106, 0, 4, 1), w ∈ lw_tbl := mm_mem [346, 347, 348, 57] (rfl)
set_option maxRecDepth 100000 in
theorem inC_185 : ∀ w ∈ mm_cw TC (4, 110, 0, 10, 1), w ∈ lw_tbl := mm_mem [357, 358, 359, 57] (rfl)
set_option maxRecDepth 100000 in
theorem inC_186 : ∀ w ∈ mm_cw TC (4, 114, 0, 11, 1), w ∈ lw_tbl := mm_mem [369, 370, 371, 57] (rfl)
set_option maxRecDepth 100000 in
theorem inC_187 : ∀ w ∈ mm_cw TC (4, 117, 0, 28, 7), w ∈ lw_tbl := mm_mem [393, 394, 395, 58] (rfl)
set_option maxRecDepth 100000 in
theorem inC_188 : ∀ w ∈ mm_cw TC (4, 121, 0, 26, 7), w ∈ lw_tbl := mm_mem [441, 442, 443, 58] (rfl)
set_option maxRecDepth 100000 in
theorem inC_189 : ∀ w ∈ mm_cw TC (4, 147, 1, 64, 0), w ∈ lw_tbl := mm_mem [449, 450, 56] (rfl)
set_option maxRecDepth 100000 in
theorem inC_190 : ∀ w ∈ mm_cw TC (4, 151, 0, 27, 7), w ∈ lw_tbl := mm_mem [456, 410, 411, 58] (rfl)
set_option maxRecDepth 100000 in
theorem inC_191 : ∀ w ∈ mm_cw TC (4, 170, 0, 21, 13), w ∈ lw_tbl := mm_mem [461, 462, 463, 59] (rfl)
set_option maxRecDepth 100000 in
theorem inC_192 : ∀ w ∈ mm_cw TC (4, 180, 0, 57, 0), w ∈ lw_tbl := mm_mem [501, 503, 14, 56] (rfl)
set_option maxRecDepth 100000 in
theorem inC_193 : ∀ w ∈ mm_cw TC (4, 186, 0, 58, 0), w ∈ lw_tbl := mm_mem [505, 507, 15, 56] (rfl)
set_option maxRecDepth 100000 in
theorem inC_194 : ∀ w ∈ mm_cw TC (4, 190, 0, 59, 0), w ∈ lw_tbl := mm_mem [548, 550, 22, 56] (rfl)
set_option maxRecDepth 100000 in
theorem inC_195 : ∀ w ∈ mm_cw TC (4, 194, 0, 8, 1), w ∈ lw_tbl := mm_mem [556, 557, 558, 57] (rfl)
set_option maxRecDepth 100000 in
theorem inC_196 : ∀ w ∈ mm_cw TC (4, 197, 0, 6, 1), w ∈ lw_tbl := mm_mem [560, 466, 467, 57] (rfl)
set_option maxRecDepth 100000 in
theorem inC_197 : ∀ w ∈ mm_cw TC (4, 200, 0, 7, 1), w ∈ lw_tbl := mm_mem [561, 478, 479, 57] (rfl)
set_option maxRecDepth 100000 in
theorem inC_198 : ∀ w ∈ mm_cw TC (4, 204, 1, 65, 0), w ∈ lw_tbl := mm_mem [562, 563, 65] (rfl)
set_option maxRecDepth 100000 in
theorem inC_199 : ∀ w ∈ mm_cw TC (4, 209, 0, 14, 16), w ∈ lw_tbl := mm_mem [509, 510, 511, 60] (rfl)
set_option maxRecDepth 100000 in
theorem inC_200 : ∀ w ∈ [Cond.constantLong (mm_cn TC 0) 56 (Int64.ofInt (9223372036854775807))], w ∈ lw_tbl := mm_mem [361] (by decide +kernel)
set_option maxRecDepth 100000 in
theorem inC_201 : ∀ w ∈ [Cond.constantLong (mm_cn TC 0) 58 (Int64.ofInt (-9223372036854775808))], w ∈ lw_tbl := mm_mem [362] (by decide +kernel)
set_option maxRecDepth 100000 in
theorem inC_202 : ∀ w ∈ [Cond.constantLong (mm_cn TC 1) 50 (Int64.ofInt (9223372036854775807))], w ∈ lw_tbl := mm_mem [513] (by decide +kernel)
set_option maxRecDepth 100000 in
theorem inC_203 : ∀ w ∈ [Cond.constantLong (mm_cn TC 2) 42 (Int64.ofInt (-1))], w ∈ lw_tbl := mm_mem [487] (by decide +kernel)
set_option maxRecDepth 100000 in
theorem inC_204 : ∀ w ∈ [Cond.constantLong (mm_cn TC 4) 77 (Int64.ofInt (-9223372036854775808))], w ∈ lw_tbl := mm_mem [295] (by decide +kernel)
set_option maxRecDepth 100000 in
theorem inC_205 : ∀ w ∈ [Cond.constantLong (mm_cn TC 4) 212 (Int64.ofInt (-2147483648))], w ∈ lw_tbl := mm_mem [277] (by decide +kernel)
set_option maxRecDepth 100000 in
theorem inC_206 : ∀ w ∈ [Cond.constantLong (mm_cn TC 4) 214 (Int64.ofInt (2147483647))], w ∈ lw_tbl := mm_mem [278] (by decide +kernel)
set_option maxRecDepth 100000 in
theorem inC_207 : ∀ w ∈ [Cond.constant (mm_cn TC 4) 105 (Int32.ofInt (1000000))], w ∈ lw_tbl := mm_mem [341] (by decide +kernel)
set_option maxRecDepth 100000 in
theorem inC_208 : ∀ w ∈ [Cond.constant (mm_cn TC 6) 265 (Int32.ofInt (1431655765))], w ∈ lw_tbl := mm_mem [565] (by decide +kernel)
set_option maxRecDepth 100000 in
theorem inC_209 : ∀ w ∈ [Cond.constant (mm_cn TC 6) 266 (Int32.ofInt (858993459))], w ∈ lw_tbl := mm_mem [566] (by decide +kernel)
set_option maxRecDepth 100000 in
theorem inC_210 : ∀ w ∈ [Cond.constant (mm_cn TC 6) 267 (Int32.ofInt (252645135))], w ∈ lw_tbl := mm_mem [567] (by decide +kernel)
set_option maxRecDepth 100000 in
theorem inC_211 : ∀ w ∈ mm_jw TC (0, 40, 10), w ∈ lw_tbl := mm_mem [350, 351, 62, 352] (by decide +kernel)
set_option maxRecDepth 100000 in
theorem inC_212 : ∀ w ∈ mm_jw TC (0, 60, 13), w ∈ lw_tbl := mm_mem [363, 364, 62, 365] (by decide +kernel)
set_option maxRecDepth 100000 in
theorem inC_213 : ∀ w ∈ mm_jw TC (0, 64, 12), w ∈ lw_tbl := mm_mem [366, 367, 62, 368] (by decide +kernel)
set_option maxRecDepth 100000 in
theorem inC_214 : ∀ w ∈ mm_jw TC (1, 85, 14), w ∈ lw_tbl := mm_mem [527, 529, 528, 64] (by decide +kernel)
set_option maxRecDepth 100000 in
theorem inC_215 : ∀ w ∈ mm_jw TC (3, 105, 11), w ∈ lw_tbl := mm_mem [429, 430, 62, 431] (by decide +kernel)
set_option maxRecDepth 100000 in
theorem inC_216 : ∀ w ∈ u_ws RX0 TX0 5, w ∈ lw_tbl := mm_mem [93, 95, 97, 99, 101] (by decide +kernel)
set_option maxRecDepth 100000 in
theorem inC_217 : ∀ w ∈ u_ws RX1 TX1 11, w ∈ lw_tbl := mm_mem [216, 218, 220, 222, 224, 226, 228, 230, 232, 234, 236] (by decide +kernel)
set_option maxRecDepth 100000 in
theorem inC_218 : ∀ w ∈ u_ws RX2 TX2 5, w ∈ lw_tbl := mm_mem [183, 185, 187, 189, 191] (by decide +kernel)
set_option maxRecDepth 100000 in
theorem inC_219 : ∀ w ∈ u_ws RX3 TX3 15, w ∈ lw_tbl := mm_mem [137, 139, 141, 143, 145, 147, 149, 151, 153, 155, 157, 159, 161, 163, 165] (by decide +kernel)
set_option maxRecDepth 100000 in
theorem inC_220 : ∀ w ∈ u_ws RX4 TX4 9, w ∈ lw_tbl := mm_mem [248, 250, 252, 254, 256, 258, 260, 262, 264] (by decide +kernel)
set_option maxRecDepth 100000 in
theorem inC_221 : ∀ w ∈ u_ws RX5 TX5 34, w ∈ lw_tbl := mm_mem [608, 610, 612, 614, 616, 618, 620, 622, 624, 626, 628, 630, 632, 634, 636, 638, 640, 642, 644, 646, 648, 650, 652, 654, 656, 658, 660, 662, 664, 666, 668, 670, 672, 674] (by decide +kernel)
set_option maxRecDepth 100000 in
theorem inC_m : ∀ q ∈ mm_ms TC, mm_mw q ∈ lw_tbl := List.forall_mem_cons.mpr ⟨inC_0 _ List.mem_cons_self, List.forall_mem_cons.mpr ⟨inC_1 _ List.mem_cons_self, List.forall_mem_cons.mpr ⟨inC_2 _ List.mem_cons_self, List.forall_mem_cons.mpr ⟨inC_3 _ List.mem_cons_self, List.forall_mem_cons.mpr ⟨inC_4 _ List.mem_cons_self, List.forall_mem_cons.mpr ⟨inC_5 _ List.mem_cons_self, List.forall_mem_cons.mpr ⟨inC_6 _ List.mem_cons_self, List.forall_mem_cons.mpr ⟨inC_7 _ List.mem_cons_self, List.forall_mem_cons.mpr ⟨inC_8 _ List.mem_cons_self, List.forall_mem_cons.mpr ⟨inC_9 _ List.mem_cons_self, List.forall_mem_cons.mpr ⟨inC_10 _ List.mem_cons_self, List.forall_mem_cons.mpr ⟨inC_11 _ List.mem_cons_self, List.forall_mem_cons.mpr ⟨inC_12 _ List.mem_cons_self, List.forall_mem_cons.mpr ⟨inC_13 _ List.mem_cons_self, List.forall_mem_cons.mpr ⟨inC_14 _ List.mem_cons_self, List.forall_mem_cons.mpr ⟨inC_15 _ List.mem_cons_self, List.forall_mem_cons.mpr ⟨inC_16 _ List.mem_cons_self, List.forall_mem_cons.mpr ⟨inC_17 _ List.mem_cons_self, List.forall_mem_cons.mpr ⟨inC_18 _ List.mem_cons_self, List.forall_mem_cons.mpr ⟨inC_19 _ List.mem_cons_self, List.forall_mem_cons.mpr ⟨inC_20 _ List.mem_cons_self, List.forall_mem_cons.mpr ⟨inC_21 _ List.mem_cons_self, List.forall_mem_cons.mpr ⟨inC_22 _ List.mem_cons_self, List.forall_mem_cons.mpr ⟨inC_23 _ List.mem_cons_self, List.forall_mem_cons.mpr ⟨inC_24 _ List.mem_cons_self, List.forall_mem_cons.mpr ⟨inC_25 _ List.mem_cons_self, List.forall_mem_cons.mpr ⟨inC_26 _ List.mem_cons_self, List.forall_mem_cons.mpr ⟨inC_27 _ List.mem_cons_self, List.forall_mem_cons.mpr ⟨inC_28 _ List.mem_cons_self, List.forall_mem_cons.mpr ⟨inC_29 _ List.mem_cons_self, List.forall_mem_cons.mpr ⟨inC_30 _ List.mem_cons_self, List.forall_mem_cons.mpr ⟨inC_31 _ List.mem_cons_self, List.forall_mem_cons.mpr ⟨inC_32 _ List.mem_cons_self, List.forall_mem_cons.mpr ⟨inC_33 _ List.mem_cons_self, List.forall_mem_cons.mpr ⟨inC_34 _ List.mem_cons_self, List.forall_mem_cons.mpr ⟨inC_35 _ List.mem_cons_self, List.forall_mem_cons.mpr ⟨inC_36 _ List.mem_cons_self, List.forall_mem_cons.mpr ⟨inC_37 _ List.mem_cons_self, List.forall_mem_cons.mpr ⟨inC_38 _ List.mem_cons_self, List.forall_mem_cons.mpr ⟨inC_39 _ List.mem_cons_self, List.forall_mem_cons.mpr ⟨inC_40 _ List.mem_cons_self, List.forall_mem_cons.mpr ⟨inC_41 _ List.mem_cons_self, List.forall_mem_cons.mpr ⟨inC_42 _ List.mem_cons_self, List.forall_mem_cons.mpr ⟨inC_43 _ List.mem_cons_self, List.forall_mem_cons.mpr ⟨inC_44 _ List.mem_cons_self, List.forall_mem_cons.mpr ⟨inC_45 _ List.mem_cons_self, List.forall_mem_cons.mpr ⟨inC_46 _ List.mem_cons_self, List.forall_mem_cons.mpr ⟨inC_47 _ List.mem_cons_self, List.forall_mem_cons.mpr ⟨inC_48 _ List.mem_cons_self, List.forall_mem_cons.mpr ⟨inC_49 _ List.mem_cons_self, List.forall_mem_cons.mpr ⟨inC_50 _ List.mem_cons_self, List.forall_mem_cons.mpr ⟨inC_51 _ List.mem_cons_self, List.forall_mem_cons.mpr ⟨inC_52 _ List.mem_cons_self, List.forall_mem_cons.mpr ⟨inC_53 _ List.mem_cons_self, List.forall_mem_cons.mpr ⟨inC_54 _ List.mem_cons_self, List.forall_mem_cons.mpr ⟨inC_55 _ List.mem_cons_self, List.forall_mem_cons.mpr ⟨inC_56 _ List.mem_cons_self, List.forall_mem_cons.mpr ⟨inC_57 _ List.mem_cons_self, List.forall_mem_cons.mpr ⟨inC_58 _ List.mem_cons_self, List.forall_mem_cons.mpr ⟨inC_59 _ List.mem_cons_self, List.forall_mem_cons.mpr ⟨inC_60 _ List.mem_cons_self, List.forall_mem_cons.mpr ⟨inC_61 _ List.mem_cons_self, List.forall_mem_cons.mpr ⟨inC_62 _ List.mem_cons_self, List.forall_mem_cons.mpr ⟨inC_63 _ List.mem_cons_self, List.forall_mem_cons.mpr ⟨inC_64 _ List.mem_cons_self, List.forall_mem_cons.mpr ⟨inC_65 _ List.mem_cons_self, List.forall_mem_cons.mpr ⟨inC_66 _ List.mem_cons_self, fun _ h => absurd h List.not_mem_nil⟩⟩⟩⟩⟩⟩⟩⟩⟩⟩⟩⟩⟩⟩⟩⟩⟩⟩⟩⟩⟩⟩⟩⟩⟩⟩⟩⟩⟩⟩⟩⟩⟩⟩⟩⟩⟩⟩⟩⟩⟩⟩⟩⟩⟩⟩⟩⟩⟩⟩⟩⟩⟩⟩⟩⟩⟩⟩⟩⟩⟩⟩⟩⟩⟩⟩⟩
set_option maxRecDepth 100000 in
theorem inC_f : ∀ q ∈ mm_FT TC, mm_fw TC q ∈ lw_tbl := List.forall_mem_cons.mpr ⟨inC_67 _ List.mem_cons_self, List.forall_mem_cons.mpr ⟨inC_68 _ List.mem_cons_self, List.forall_mem_cons.mpr ⟨inC_69 _ List.mem_cons_self, List.forall_mem_cons.mpr ⟨inC_70 _ List.mem_cons_self, List.forall_mem_cons.mpr ⟨inC_71 _ List.mem_cons_self, List.forall_mem_cons.mpr ⟨inC_72 _ List.mem_cons_self, List.forall_mem_cons.mpr ⟨inC_73 _ List.mem_cons_self, List.forall_mem_cons.mpr ⟨inC_74 _ List.mem_cons_self, List.forall_mem_cons.mpr ⟨inC_75 _ List.mem_cons_self, List.forall_mem_cons.mpr ⟨inC_76 _ List.mem_cons_self, List.forall_mem_cons.mpr ⟨inC_77 _ List.mem_cons_self, List.forall_mem_cons.mpr ⟨inC_78 _ List.mem_cons_self, List.forall_mem_cons.mpr ⟨inC_79 _ List.mem_cons_self, List.forall_mem_cons.mpr ⟨inC_80 _ List.mem_cons_self, List.forall_mem_cons.mpr ⟨inC_81 _ List.mem_cons_self, List.forall_mem_cons.mpr ⟨inC_82 _ List.mem_cons_self, List.forall_mem_cons.mpr ⟨inC_83 _ List.mem_cons_self, List.forall_mem_cons.mpr ⟨inC_84 _ List.mem_cons_self, List.forall_mem_cons.mpr ⟨inC_85 _ List.mem_cons_self, List.forall_mem_cons.mpr ⟨inC_86 _ List.mem_cons_self, List.forall_mem_cons.mpr ⟨inC_87 _ List.mem_cons_self, List.forall_mem_cons.mpr ⟨inC_88 _ List.mem_cons_self, List.forall_mem_cons.mpr ⟨inC_89 _ List.mem_cons_self, List.forall_mem_cons.mpr ⟨inC_90 _ List.mem_cons_self, List.forall_mem_cons.mpr ⟨inC_91 _ List.mem_cons_self, List.forall_mem_cons.mpr ⟨inC_92 _ List.mem_cons_self, List.forall_mem_cons.mpr ⟨inC_93 _ List.mem_cons_self, List.forall_mem_cons.mpr ⟨inC_94 _ List.mem_cons_self, List.forall_mem_cons.mpr ⟨inC_95 _ List.mem_cons_self, List.forall_mem_cons.mpr ⟨inC_96 _ List.mem_cons_self, List.forall_mem_cons.mpr ⟨inC_97 _ List.mem_cons_self, List.forall_mem_cons.mpr ⟨inC_98 _ List.mem_cons_self, List.forall_mem_cons.mpr ⟨inC_99 _ List.mem_cons_self, List.forall_mem_cons.mpr ⟨inC_100 _ List.mem_cons_self, List.forall_mem_cons.mpr ⟨inC_101 _ List.mem_cons_self, List.forall_mem_cons.mpr ⟨inC_102 _ List.mem_cons_self, List.forall_mem_cons.mpr ⟨inC_103 _ List.mem_cons_self, List.forall_mem_cons.mpr ⟨inC_104 _ List.mem_cons_self, List.forall_mem_cons.mpr ⟨inC_105 _ List.mem_cons_self, List.forall_mem_cons.mpr ⟨inC_106 _ List.mem_cons_self, List.forall_mem_cons.mpr ⟨inC_107 _ List.mem_cons_self, List.forall_mem_cons.mpr ⟨inC_108 _ List.mem_cons_self, List.forall_mem_cons.mpr ⟨inC_109 _ List.mem_cons_self, List.forall_mem_cons.mpr ⟨inC_110 _ List.mem_cons_self, List.forall_mem_cons.mpr ⟨inC_111 _ List.mem_cons_self, List.forall_mem_cons.mpr ⟨inC_112 _ List.mem_cons_self, List.forall_mem_cons.mpr ⟨inC_113 _ List.mem_cons_self, List.forall_mem_cons.mpr ⟨inC_114 _ List.mem_cons_self, List.forall_mem_cons.mpr ⟨inC_115 _ List.mem_cons_self, List.forall_mem_cons.mpr ⟨inC_116 _ List.mem_cons_self, List.forall_mem_cons.mpr ⟨inC_117 _ List.mem_cons_self, List.forall_mem_cons.mpr ⟨inC_118 _ List.mem_cons_self, List.forall_mem_cons.mpr ⟨inC_119 _ List.mem_cons_self, List.forall_mem_cons.mpr ⟨inC_120 _ List.mem_cons_self, List.forall_mem_cons.mpr ⟨inC_121 _ List.mem_cons_self, List.forall_mem_cons.mpr ⟨inC_122 _ List.mem_cons_self, List.forall_mem_cons.mpr ⟨inC_123 _ List.mem_cons_self, List.forall_mem_cons.mpr ⟨inC_124 _ List.mem_cons_self, List.forall_mem_cons.mpr ⟨inC_125 _ List.mem_cons_self, List.forall_mem_cons.mpr ⟨inC_126 _ List.mem_cons_self, List.forall_mem_cons.mpr ⟨inC_127 _ List.mem_cons_self, List.forall_mem_cons.mpr ⟨inC_128 _ List.mem_cons_self, List.forall_mem_cons.mpr ⟨inC_129 _ List.mem_cons_self, List.forall_mem_cons.mpr ⟨inC_130 _ List.mem_cons_self, List.forall_mem_cons.mpr ⟨inC_131 _ List.mem_cons_self, List.forall_mem_cons.mpr ⟨inC_132 _ List.mem_cons_self, List.forall_mem_cons.mpr ⟨inC_133 _ List.mem_cons_self, List.forall_mem_cons.mpr ⟨inC_134 _ List.mem_cons_self, List.forall_mem_cons.mpr ⟨inC_135 _ List.mem_cons_self, List.forall_mem_cons.mpr ⟨inC_136 _ List.mem_cons_self, List.forall_mem_cons.mpr ⟨inC_137 _ List.mem_cons_self, List.forall_mem_cons.mpr ⟨inC_138 _ List.mem_cons_self, fun _ h => absurd h List.not_mem_nil⟩⟩⟩⟩⟩⟩⟩⟩⟩⟩⟩⟩⟩⟩⟩⟩⟩⟩⟩⟩⟩⟩⟩⟩⟩⟩⟩⟩⟩⟩⟩⟩⟩⟩⟩⟩⟩⟩⟩⟩⟩⟩⟩⟩⟩⟩⟩⟩⟩⟩⟩⟩⟩⟩⟩⟩⟩⟩⟩⟩⟩⟩⟩⟩⟩⟩⟩⟩⟩⟩⟩⟩
set_option maxRecDepth 100000 in
theorem inC_c : ∀ q ∈ mm_CT TC, ∀ w ∈ mm_cw TC q, w ∈ lw_tbl := List.forall_mem_cons.mpr ⟨inC_139, List.forall_mem_cons.mpr ⟨inC_140, List.forall_mem_cons.mpr ⟨inC_141, List.forall_mem_cons.mpr ⟨inC_142, List.forall_mem_cons.mpr ⟨inC_143, List.forall_mem_cons.mpr ⟨inC_144, List.forall_mem_cons.mpr ⟨inC_145, List.forall_mem_cons.mpr ⟨inC_146, List.forall_mem_cons.mpr ⟨inC_147, List.forall_mem_cons.mpr ⟨inC_148, List.forall_mem_cons.mpr ⟨inC_149, List.forall_mem_cons.mpr ⟨inC_150, List.forall_mem_cons.mpr ⟨inC_151, List.forall_mem_cons.mpr ⟨inC_152, List.forall_mem_cons.mpr ⟨inC_153, List.forall_mem_cons.mpr ⟨inC_154, List.forall_mem_cons.mpr ⟨inC_155, List.forall_mem_cons.mpr ⟨inC_156, List.forall_mem_cons.mpr ⟨inC_157, List.forall_mem_cons.mpr ⟨inC_158, List.forall_mem_cons.mpr ⟨inC_159, List.forall_mem_cons.mpr ⟨inC_160, List.forall_mem_cons.mpr ⟨inC_161, List.forall_mem_cons.mpr ⟨inC_162, List.forall_mem_cons.mpr ⟨inC_163, List.forall_mem_cons.mpr ⟨inC_164, List.forall_mem_cons.mpr ⟨inC_165, List.forall_mem_cons.mpr ⟨inC_166, List.forall_mem_cons.mpr ⟨inC_167, List.forall_mem_cons.mpr ⟨inC_168, List.forall_mem_cons.mpr ⟨inC_169, List.forall_mem_cons.mpr ⟨inC_170, List.forall_mem_cons.mpr ⟨inC_171, List.forall_mem_cons.mpr ⟨inC_172, List.forall_mem_cons.mpr ⟨inC_173, List.forall_mem_cons.mpr ⟨inC_174, List.forall_mem_cons.mpr ⟨inC_175, List.forall_mem_cons.mpr ⟨inC_176, List.forall_mem_cons.mpr ⟨inC_177, List.forall_mem_cons.mpr ⟨inC_178, List.forall_mem_cons.mpr ⟨inC_179, List.forall_mem_cons.mpr ⟨inC_180, List.forall_mem_cons.mpr ⟨inC_181, List.forall_mem_cons.mpr ⟨inC_182, List.forall_mem_cons.mpr ⟨inC_183, List.forall_mem_cons.mpr ⟨inC_184, List.forall_mem_cons.mpr ⟨inC_185, List.forall_mem_cons.mpr ⟨inC_186, List.forall_mem_cons.mpr ⟨inC_187, List.forall_mem_cons.mpr ⟨inC_188, List.forall_mem_cons.mpr ⟨inC_189, List.forall_mem_cons.mpr ⟨inC_190, List.forall_mem_cons.mpr ⟨inC_191, List.forall_mem_cons.mpr ⟨inC_192, List.forall_mem_cons.mpr ⟨inC_193, List.forall_mem_cons.mpr ⟨inC_194, List.forall_mem_cons.mpr ⟨inC_195, List.forall_mem_cons.mpr ⟨inC_196, List.forall_mem_cons.mpr ⟨inC_197, List.forall_mem_cons.mpr ⟨inC_198, List.forall_mem_cons.mpr ⟨inC_199, fun _ h => absurd h List.not_mem_nil⟩⟩⟩⟩⟩⟩⟩⟩⟩⟩⟩⟩⟩⟩⟩⟩⟩⟩⟩⟩⟩⟩⟩⟩⟩⟩⟩⟩⟩⟩⟩⟩⟩⟩⟩⟩⟩⟩⟩⟩⟩⟩⟩⟩⟩⟩⟩⟩⟩⟩⟩⟩⟩⟩⟩⟩⟩⟩⟩⟩⟩
set_option maxRecDepth 100000 in
theorem inC_l : ∀ q ∈ mm_LT TC, Cond.constantLong (mm_cn TC q.1) q.2.1 (Int64.ofInt q.2.2) ∈ lw_tbl := List.forall_mem_cons.mpr ⟨inC_200 _ List.mem_cons_self, List.forall_mem_cons.mpr ⟨inC_201 _ List.mem_cons_self, List.forall_mem_cons.mpr ⟨inC_202 _ List.mem_cons_self, List.forall_mem_cons.mpr ⟨inC_203 _ List.mem_cons_self, List.forall_mem_cons.mpr ⟨inC_204 _ List.mem_cons_self, List.forall_mem_cons.mpr ⟨inC_205 _ List.mem_cons_self, List.forall_mem_cons.mpr ⟨inC_206 _ List.mem_cons_self, fun _ h => absurd h List.not_mem_nil⟩⟩⟩⟩⟩⟩⟩
set_option maxRecDepth 100000 in
theorem inC_d : ∀ q ∈ mm_DT TC, Cond.constant (mm_cn TC q.1) q.2.1 (Int32.ofInt q.2.2) ∈ lw_tbl := List.forall_mem_cons.mpr ⟨inC_207 _ List.mem_cons_self, List.forall_mem_cons.mpr ⟨inC_208 _ List.mem_cons_self, List.forall_mem_cons.mpr ⟨inC_209 _ List.mem_cons_self, List.forall_mem_cons.mpr ⟨inC_210 _ List.mem_cons_self, fun _ h => absurd h List.not_mem_nil⟩⟩⟩⟩
set_option maxRecDepth 100000 in
theorem inC_j : ∀ q ∈ mm_JT TC, ∀ w ∈ mm_jw TC q, w ∈ lw_tbl := List.forall_mem_cons.mpr ⟨inC_211, List.forall_mem_cons.mpr ⟨inC_212, List.forall_mem_cons.mpr ⟨inC_213, List.forall_mem_cons.mpr ⟨inC_214, List.forall_mem_cons.mpr ⟨inC_215, fun _ h => absurd h List.not_mem_nil⟩⟩⟩⟩⟩
set_option maxRecDepth 100000 in
theorem inC_u : ∀ q ∈ mm_cl TC, ∀ w ∈ u_ws q.1 q.2.1 q.2.2, w ∈ lw_tbl := List.forall_mem_cons.mpr ⟨inC_216, List.forall_mem_cons.mpr ⟨inC_217, List.forall_mem_cons.mpr ⟨inC_218, List.forall_mem_cons.mpr ⟨inC_219, List.forall_mem_cons.mpr ⟨inC_220, List.forall_mem_cons.mpr ⟨inC_221, fun _ h => absurd h List.not_mem_nil⟩⟩⟩⟩⟩⟩
theorem inC : GoodIn lw_tbl (mm_tb TC) := mm_tb_in inC_m inC_f inC_c inC_l inC_d inC_j inC_u goodC
end
section
/-! ===== tables of the small machine (R), by program ===== -/
set_option maxRecDepth 20000 in
noncomputable def tbX5_within : List mm_E := [(0, .iload_n 0, 1, false, 0, 0, 0, 0, 0, []), (1, .iload_n 1, 1, false, 0, 0, 0, 0, 0, []), (2, .if_icmp .lt 12, 3, false, 8, 0, 0, 0, 0, []), (5, .iload_n 0, 1, false, 0, 0, 0, 0, 0, []), (6, .iload_n 2, 1, false, 0, 0, 0, 0, 0, []), (7, .if_icmp .gt 7, 3, false, 8, 0, 0, 0, 0, []), (10, .iconst 1, 1, false, 0, 0, 0, 0, 0, []), (11, .goto 4, 3, false, 9, 0, 0, 0, 0, []), (14, .iconst 0, 1, false, 0, 0, 0, 0, 0, []), (15, .ireturn, 1, false, 0, 0, 1, 0, 0, [])]
noncomputable def mdX5_within : mm_M := (yX5_within, cX5_within, 3, (some .boolean), 5, 1, tbX5_within)
set_option maxRecDepth 20000 in
noncomputable def tbX5_isInt : List mm_E := [(0, .lload_n 0, 1, false, 0, 0, 0, 0, 0, []), (1, .ldc2_w 69, 3, false, 0, 0, 0, 0, 2147483647, []), (4, .lcmp, 1, false, 0, 0, 0, 0, 0, []), (5, .ifCond .gt 15, 3, false, 10, 0, 0, 0, 0, []), (8, .lload_n 0, 1, false, 0, 0, 0, 0, 0, []), (9, .ldc2_w 71, 3, false, 0, 0, 0, 0, (-2147483648), []), (12, .lcmp, 1, false, 0, 0, 0, 0, 0, []), (13, .ifCond .lt 7, 3, false, 10, 0, 0, 0, 0, []), (16, .iconst 1, 1, false, 0, 0, 0, 0, 0, []), (17, .goto 4, 3, false, 11, 0, 0, 0, 0, []), (20, .iconst 0, 1, false, 0, 0, 0, 0, 0, []), (21, .ireturn, 1, false, 0, 0, 1, 0, 0, [])]
noncomputable def mdX5_isInt : mm_M := (yX5_isInt, cX5_isInt, 2, (some .boolean), 5, 1, tbX5_isInt)
set_option maxRecDepth 20000 in
noncomputable def tbX5_isScene : List mm_E := [(0, .iload_n 1, 1, false, 0, 0, 0, 0, 0, []), (1, .iconst 0, 1, false, 0, 0, 0, 0, 0, []), (2, .aload_n 0, 1, false, 0, 0, 0, 0, 0, []), (3, .getfield 73, 3, false, 0, 0, 0, 0, 0, []), (6, .iconst 1, 1, false, 0, 0, 0, 0, 0, []), (7, .isub, 1, false, 0, 0, 0, 0, 0, []), (8, .invokestatic 76, 3, false, 0, 3, 1, 0, 0, []), (11, .ireturn, 1, false, 0, 0, 1, 0, 0, [])]
noncomputable def mdX5_isScene : mm_M := (yX5_isScene, cX5_isScene, 2, (some .boolean), 5, 1, tbX5_isScene)
set_option maxRecDepth 20000 in
noncomputable def tbX5_isClue : List mm_E := [(0, .iload_n 0, 1, false, 0, 0, 0, 0, 0, []), (1, .iconst 0, 1, false, 0, 0, 0, 0, 0, []), (2, .bipush 7, 2, false, 0, 0, 0, 0, 0, []), (4, .invokestatic 76, 3, false, 0, 3, 1, 0, 0, []), (7, .ireturn, 1, false, 0, 0, 1, 0, 0, [])]
noncomputable def mdX5_isClue : mm_M := (yX5_isClue, cX5_isClue, 1, (some .boolean), 5, 1, tbX5_isClue)
set_option maxRecDepth 20000 in
noncomputable def tbX5_endOf : List mm_E := [(0, .aload_n 0, 1, false, 0, 0, 0, 0, 0, []), (1, .getfield 7, 3, false, 0, 1, 4, 0, 0, []), (4, .iload_n 1, 1, false, 0, 0, 0, 0, 0, []), (5, .iaload, 1, false, 0, 0, 0, 0, 0, []), (6, .i2l, 1, false, 0, 0, 0, 0, 0, []), (7, .aload_n 0, 1, false, 0, 0, 0, 0, 0, []), (8, .getfield 13, 3, false, 0, 2, 5, 0, 0, []), (11, .iload_n 1, 1, false, 0, 0, 0, 0, 0, []), (12, .iaload, 1, false, 0, 0, 0, 0, 0, []), (13, .i2l, 1, false, 0, 0, 0, 0, 0, []), (14, .ladd, 1, false, 0, 0, 0, 0, 0, []), (15, .lreturn, 1, false, 0, 0, 0, 0, 0, [])]
noncomputable def mdX5_endOf : mm_M := (yX5_endOf, cX5_endOf, 2, (some .long), 5, 2, tbX5_endOf)
set_option maxRecDepth 20000 in
noncomputable def tbX5_scene : List mm_E := [(0, .iload_n 2, 1, false, 0, 0, 0, 0, 0, []), (1, .iconst 1, 1, false, 0, 0, 0, 0, 0, []), (2, .if_icmp .lt 26, 3, false, 13, 0, 0, 0, 0, []), (5, .iload_n 3, 1, false, 0, 0, 0, 0, 0, []), (6, .iconst 0, 1, false, 0, 0, 0, 0, 0, []), (7, .sipush 255, 3, false, 0, 0, 0, 0, 0, []), (10, .invokestatic 76, 3, false, 0, 3, 1, 0, 0, []), (13, .ifCond .eq 15, 3, false, 13, 0, 0, 0, 0, []), (16, .iload 4, 2, false, 0, 0, 0, 0, 0, []), (18, .iconst 0, 1, false, 0, 0, 0, 0, 0, []), (19, .sipush 255, 3, false, 0, 0, 0, 0, 0, []), (22, .invokestatic 76, 3, false, 0, 3, 1, 0, 0, []), (25, .ifCond .ne 6, 3, false, 15, 0, 0, 0, 0, []), (28, .bipush (-2), 2, false, 0, 0, 0, 0, 0, []), (30, .ireturn, 1, false, 0, 0, 0, 0, 0, []), (31, .aload_n 0, 1, false, 0, 0, 0, 0, 0, []), (32, .getfield 73, 3, false, 0, 0, 0, 0, 0, []), (35, .bipush 8, 2, false, 0, 0, 0, 0, 0, []), (37, .if_icmp .ne 6, 3, false, 21, 0, 0, 0, 0, []), (40, .bipush (-4), 2, false, 0, 0, 0, 0, 0, []), (42, .ireturn, 1, false, 0, 0, 0, 0, 0, []), (43, .iload_n 1, 1, false, 0, 0, 0, 0, 0, []), (44, .i2l, 1, false, 0, 0, 0, 0, 0, []), (45, .iload_n 2, 1, false, 0, 0, 0, 0, 0, []), (46, .i2l, 1, false, 0, 0, 0, 0, 0, []), (47, .ladd, 1, false, 0, 0, 0, 0, 0, []), (48, .invokestatic 80, 3, false, 1, 1, 1, 0, 0, []), (51, .ifCond .ne 6, 3, false, 30, 0, 0, 0, 0, []), (54, .bipush (-5), 2, false, 0, 0, 0, 0, 0, []), (56, .ireturn, 1, false, 0, 0, 0, 0, 0, []), (57, .aload_n 0, 1, false, 0, 0, 0, 0, 0, []), (58, .getfield 7, 3, false, 0, 1, 4, 0, 0, []), (61, .aload_n 0, 1, false, 0, 0, 0, 0, 0, []), (62, .getfield 73, 3, false, 0, 0, 0, 0, 0, []), (65, .iload_n 1, 1, false, 0, 0, 0, 0, 0, []), (66, .iastore, 1, false, 0, 0, 0, 0, 0, []), (67, .aload_n 0, 1, false, 0, 0, 0, 0, 0, []), (68, .getfield 13, 3, false, 0, 2, 5, 0, 0, []), (71, .aload_n 0, 1, false, 0, 0, 0, 0, 0, []), (72, .getfield 73, 3, false, 0, 0, 0, 0, 0, []), (75, .iload_n 2, 1, false, 0, 0, 0, 0, 0, []), (76, .iastore, 1, false, 0, 0, 0, 0, 0, []), (77, .aload_n 0, 1, false, 0, 0, 0, 0, 0, []), (78, .getfield 16, 3, false, 0, 3, 6, 0, 0, []), (81, .aload_n 0, 1, false, 0, 0, 0, 0, 0, []), (82, .getfield 73, 3, false, 0, 0, 0, 0, 0, []), (85, .iload_n 3, 1, false, 0, 0, 0, 0, 0, []), (86, .iastore, 1, false, 0, 0, 0, 0, 0, []), (87, .aload_n 0, 1, false, 0, 0, 0, 0, 0, []), (88, .getfield 19, 3, false, 0, 4, 7, 0, 0, []), (91, .aload_n 0, 1, false, 0, 0, 0, 0, 0, []), (92, .getfield 73, 3, false, 0, 0, 0, 0, 0, []), (95, .iload 4, 2, false, 0, 0, 0, 0, 0, []), (97, .iastore, 1, false, 0, 0, 0, 0, 0, []), (98, .aload_n 0, 1, false, 0, 0, 0, 0, 0, []), (99, .dup, 1, false, 0, 0, 0, 0, 0, []), (100, .getfield 73, 3, false, 0, 0, 0, 0, 0, []), (103, .iconst 1, 1, false, 0, 0, 0, 0, 0, []), (104, .iadd, 1, false, 0, 0, 0, 0, 0, []), (105, .putfield 73, 3, false, 0, 0, 0, 0, 0, []), (108, .aload_n 0, 1, false, 0, 0, 0, 0, 0, []), (109, .getfield 73, 3, false, 0, 0, 0, 0, 0, []), (112, .iconst 1, 1, false, 0, 0, 0, 0, 0, []), (113, .isub, 1, false, 0, 0, 0, 0, 0, []), (114, .ireturn, 1, false, 0, 0, 0, 0, 0, [])]
noncomputable def mdX5_scene : mm_M := (yX5_scene, cX5_scene, 5, (some .int), 5, 1, tbX5_scene)
set_option maxRecDepth 20000 in
noncomputable def tbX5_ofScene : List mm_E := [(0, .aload_n 0, 1, false, 0, 0, 0, 0, 0, []), (1, .iload_n 1, 1, false, 0, 0, 0, 0, 0, []), (2, .invokevirtual 84, 3, false, 2, 2, 1, 0, 0, []), (5, .ifCond .ne 7, 3, false, 6, 0, 0, 0, 0, []), (8, .ldc2_w 88, 3, false, 0, 0, 0, 0, (-9223372036854775808), []), (11, .lreturn, 1, false, 0, 0, 0, 0, 0, []), (12, .iload_n 2, 1, false, 0, 0, 0, 0, 0, []), (13, .tableswitch 73 0 4 #[35, 43, 51, 57, 65], 35, false, 36, 0, 0, 0, 0, [8, 14, 20, 24, 30]), (48, .aload_n 0, 1, false, 0, 0, 0, 0, 0, []), (49, .getfield 7, 3, false, 0, 1, 4, 0, 0, []), (52, .iload_n 1, 1, false, 0, 0, 0, 0, 0, []), (53, .iaload, 1, false, 0, 0, 0, 0, 0, []), (54, .i2l, 1, false, 0, 0, 0, 0, 0, []), (55, .lreturn, 1, false, 0, 0, 0, 0, 0, []), (56, .aload_n 0, 1, false, 0, 0, 0, 0, 0, []), (57, .getfield 13, 3, false, 0, 2, 5, 0, 0, []), (60, .iload_n 1, 1, false, 0, 0, 0, 0, 0, []), (61, .iaload, 1, false, 0, 0, 0, 0, 0, []), (62, .i2l, 1, false, 0, 0, 0, 0, 0, []), (63, .lreturn, 1, false, 0, 0, 0, 0, 0, []), (64, .aload_n 0, 1, false, 0, 0, 0, 0, 0, []), (65, .iload_n 1, 1, false, 0, 0, 0, 0, 0, []), (66, .invokevirtual 90, 3, false, 4, 2, 2, 0, 0, []), (69, .lreturn, 1, false, 0, 0, 0, 0, 0, []), (70, .aload_n 0, 1, false, 0, 0, 0, 0, 0, []), (71, .getfield 16, 3, false, 0, 3, 6, 0, 0, []), (74, .iload_n 1, 1, false, 0, 0, 0, 0, 0, []), (75, .iaload, 1, false, 0, 0, 0, 0, 0, []), (76, .i2l, 1, false, 0, 0, 0, 0, 0, []), (77, .lreturn, 1, false, 0, 0, 0, 0, 0, []), (78, .aload_n 0, 1, false, 0, 0, 0, 0, 0, []), (79, .getfield 19, 3, false, 0, 4, 7, 0, 0, []), (82, .iload_n 1, 1, false, 0, 0, 0, 0, 0, []), (83, .iaload, 1, false, 0, 0, 0, 0, 0, []), (84, .i2l, 1, false, 0, 0, 0, 0, 0, []), (85, .lreturn, 1, false, 0, 0, 0, 0, 0, []), (86, .ldc2_w 88, 3, false, 0, 0, 0, 0, (-9223372036854775808), []), (89, .lreturn, 1, false, 0, 0, 0, 0, 0, [])]
noncomputable def mdX5_ofScene : mm_M := (yX5_ofScene, cX5_ofScene, 3, (some .long), 5, 2, tbX5_ofScene)
set_option maxRecDepth 20000 in
noncomputable def tbX5_mayMove : List mm_E := [(0, .aload_n 0, 1, false, 0, 0, 0, 0, 0, []), (1, .getfield 7, 3, false, 0, 1, 4, 0, 0, []), (4, .iload_n 1, 1, false, 0, 0, 0, 0, 0, []), (5, .iaload, 1, false, 0, 0, 0, 0, 0, []), (6, .i2l, 1, false, 0, 0, 0, 0, 0, []), (7, .iload_n 2, 1, false, 0, 0, 0, 0, 0, []), (8, .i2l, 1, false, 0, 0, 0, 0, 0, []), (9, .ladd, 1, false, 0, 0, 0, 0, 0, []), (10, .invokestatic 80, 3, false, 1, 1, 1, 0, 0, []), (13, .ifCond .eq 21, 3, false, 20, 0, 0, 0, 0, []), (16, .aload_n 0, 1, false, 0, 0, 0, 0, 0, []), (17, .iload_n 1, 1, false, 0, 0, 0, 0, 0, []), (18, .invokevirtual 90, 3, false, 4, 2, 2, 0, 0, []), (21, .iload_n 2, 1, false, 0, 0, 0, 0, 0, []), (22, .i2l, 1, false, 0, 0, 0, 0, 0, []), (23, .ladd, 1, false, 0, 0, 0, 0, 0, []), (24, .invokestatic 80, 3, false, 1, 1, 1, 0, 0, []), (27, .ifCond .eq 7, 3, false, 20, 0, 0, 0, 0, []), (30, .iconst 1, 1, false, 0, 0, 0, 0, 0, []), (31, .goto 4, 3, false, 21, 0, 0, 0, 0, []), (34, .iconst 0, 1, false, 0, 0, 0, 0, 0, []), (35, .ireturn, 1, false, 0, 0, 1, 0, 0, [])]
noncomputable def mdX5_mayMove : mm_M := (yX5_mayMove, cX5_mayMove, 3, (some .boolean), 5, 1, tbX5_mayMove)
set_option maxRecDepth 20000 in
noncomputable def tbX5_move : List mm_E := [(0, .aload_n 0, 1, false, 0, 0, 0, 0, 0, []), (1, .iload_n 1, 1, false, 0, 0, 0, 0, 0, []), (2, .invokevirtual 84, 3, false, 2, 2, 1, 0, 0, []), (5, .ifCond .ne 5, 3, false, 6, 0, 0, 0, 0, []), (8, .iconst (-1), 1, false, 0, 0, 0, 0, 0, []), (9, .ireturn, 1, false, 0, 0, 0, 0, 0, []), (10, .aload_n 0, 1, false, 0, 0, 0, 0, 0, []), (11, .iload_n 1, 1, false, 0, 0, 0, 0, 0, []), (12, .iload_n 2, 1, false, 0, 0, 0, 0, 0, []), (13, .invokevirtual 94, 3, false, 7, 3, 1, 0, 0, []), (16, .ifCond .ne 6, 3, false, 13, 0, 0, 0, 0, []), (19, .bipush (-5), 2, false, 0, 0, 0, 0, 0, []), (21, .ireturn, 1, false, 0, 0, 0, 0, 0, []), (22, .aload_n 0, 1, false, 0, 0, 0, 0, 0, []), (23, .getfield 7, 3, false, 0, 1, 4, 0, 0, []), (26, .iload_n 1, 1, false, 0, 0, 0, 0, 0, []), (27, .dup2, 1, false, 0, 0, 0, 0, 0, []), (28, .iaload, 1, false, 0, 0, 0, 0, 0, []), (29, .iload_n 2, 1, false, 0, 0, 0, 0, 0, []), (30, .iadd, 1, false, 0, 0, 0, 0, 0, []), (31, .iastore, 1, false, 0, 0, 0, 0, 0, []), (32, .iconst 1, 1, false, 0, 0, 0, 0, 0, []), (33, .ireturn, 1, false, 0, 0, 0, 0, 0, [])]
noncomputable def mdX5_move : mm_M := (yX5_move, cX5_move, 3, (some .int), 5, 1, tbX5_move)
set_option maxRecDepth 20000 in
noncomputable def tbX5_shift : List mm_E := [(0, .iconst 0, 1, false, 0, 0, 0, 0, 0, []), (1, .istore_n 2, 1, false, 0, 0, 0, 0, 0, []), (2, .iload_n 2, 1, true, 0, 0, 0, 0, 0, []), (3, .aload_n 0, 1, false, 0, 0, 0, 0, 0, []), (4, .getfield 73, 3, false, 0, 0, 0, 0, 0, []), (7, .if_icmp .ge 21, 3, false, 15, 0, 0, 0, 0, []), (10, .aload_n 0, 1, false, 0, 0, 0, 0, 0, []), (11, .iload_n 2, 1, false, 0, 0, 0, 0, 0, []), (12, .iload_n 1, 1, false, 0, 0, 0, 0, 0, []), (13, .invokevirtual 94, 3, false, 7, 3, 1, 0, 0, []), (16, .ifCond .ne 6, 3, false, 13, 0, 0, 0, 0, []), (19, .bipush (-5), 2, false, 0, 0, 0, 0, 0, []), (21, .ireturn, 1, false, 0, 0, 0, 0, 0, []), (22, .iinc 2 1, 3, false, 0, 0, 0, 0, 0, []), (25, .goto (-23), 3, false, 2, 0, 0, 0, 0, []), (28, .iconst 0, 1, false, 0, 0, 0, 0, 0, []), (29, .istore_n 2, 1, false, 0, 0, 0, 0, 0, []), (30, .iload_n 2, 1, true, 0, 0, 0, 0, 0, []), (31, .aload_n 0, 1, false, 0, 0, 0, 0, 0, []), (32, .getfield 73, 3, false, 0, 0, 0, 0, 0, []), (35, .if_icmp .ge 19, 3, false, 31, 0, 0, 0, 0, []), (38, .aload_n 0, 1, false, 0, 0, 0, 0, 0, []), (39, .getfield 7, 3, false, 0, 1, 4, 0, 0, []), (42, .iload_n 2, 1, false, 0, 0, 0, 0, 0, []), (43, .dup2, 1, false, 0, 0, 0, 0, 0, []), (44, .iaload, 1, false, 0, 0, 0, 0, 0, []), (45, .iload_n 1, 1, false, 0, 0, 0, 0, 0, []), (46, .iadd, 1, false, 0, 0, 0, 0, 0, []), (47, .iastore, 1, false, 0, 0, 0, 0, 0, []), (48, .iinc 2 1, 3, false, 0, 0, 0, 0, 0, []), (51, .goto (-21), 3, false, 17, 0, 0, 0, 0, []), (54, .aload_n 0, 1, false, 0, 0, 0, 0, 0, []), (55, .getfield 73, 3, false, 0, 0, 0, 0, 0, []), (58, .ireturn, 1, false, 0, 0, 0, 0, 0, [])]
noncomputable def mdX5_shift : mm_M := (yX5_shift, cX5_shift, 3, (some .int), 5, 1, tbX5_shift)
set_option maxRecDepth 20000 in
noncomputable def tbX5_stretch : List mm_E := [(0, .aload_n 0, 1, false, 0, 0, 0, 0, 0, []), (1, .iload_n 1, 1, false, 0, 0, 0, 0, 0, []), (2, .invokevirtual 84, 3, false, 2, 2, 1, 0, 0, []), (5, .ifCond .ne 5, 3, false, 6, 0, 0, 0, 0, []), (8, .iconst (-1), 1, false, 0, 0, 0, 0, 0, []), (9, .ireturn, 1, false, 0, 0, 0, 0, 0, []), (10, .iload_n 2, 1, false, 0, 0, 0, 0, 0, []), (11, .iconst 1, 1, false, 0, 0, 0, 0, 0, []), (12, .if_icmp .ge 6, 3, false, 11, 0, 0, 0, 0, []), (15, .bipush (-2), 2, false, 0, 0, 0, 0, 0, []), (17, .ireturn, 1, false, 0, 0, 0, 0, 0, []), (18, .aload_n 0, 1, false, 0, 0, 0, 0, 0, []), (19, .getfield 13, 3, false, 0, 2, 5, 0, 0, []), (22, .iload_n 1, 1, false, 0, 0, 0, 0, 0, []), (23, .iaload, 1, false, 0, 0, 0, 0, 0, []), (24, .i2l, 1, false, 0, 0, 0, 0, 0, []), (25, .iload_n 2, 1, false, 0, 0, 0, 0, 0, []), (26, .i2l, 1, false, 0, 0, 0, 0, 0, []), (27, .lmul, 1, false, 0, 0, 0, 0, 0, []), (28, .lstore_n 3, 1, false, 0, 0, 0, 0, 0, []), (29, .lload_n 3, 1, false, 0, 0, 0, 0, 0, []), (30, .invokestatic 80, 3, false, 1, 1, 1, 0, 0, []), (33, .ifCond .eq 18, 3, false, 32, 0, 0, 0, 0, []), (36, .aload_n 0, 1, false, 0, 0, 0, 0, 0, []), (37, .getfield 7, 3, false, 0, 1, 4, 0, 0, []), (40, .iload_n 1, 1, false, 0, 0, 0, 0, 0, []), (41, .iaload, 1, false, 0, 0, 0, 0, 0, []), (42, .i2l, 1, false, 0, 0, 0, 0, 0, []), (43, .lload_n 3, 1, false, 0, 0, 0, 0, 0, []), (44, .ladd, 1, false, 0, 0, 0, 0, 0, []), (45, .invokestatic 80, 3, false, 1, 1, 1, 0, 0, []), (48, .ifCond .ne 6, 3, false, 34, 0, 0, 0, 0, []), (51, .bipush (-5), 2, false, 0, 0, 0, 0, 0, []), (53, .ireturn, 1, false, 0, 0, 0, 0, 0, []), (54, .aload_n 0, 1, false, 0, 0, 0, 0, 0, []), (55, .getfield 13, 3, false, 0, 2, 5, 0, 0, []), (58, .iload_n 1, 1, false, 0, 0, 0, 0, 0, []), (59, .lload_n 3, 1, false, 0, 0, 0, 0, 0, []), (60, .l2i, 1, false, 0, 0, 0, 0, 0, []), (61, .iastore, 1, false, 0, 0, 0, 0, 0, []), (62, .iconst 1, 1, false, 0, 0, 0, 0, 0, []), (63, .ireturn, 1, false, 0, 0, 0, 0, 0, [])]
noncomputable def mdX5_stretch : mm_M := (yX5_stretch, cX5_stretch, 5, (some .int), 5, 1, tbX5_stretch)
set_option maxRecDepth 20000 in
noncomputable def tbX5_clue : List mm_E := [(0, .aload_n 0, 1, false, 0, 0, 0, 0, 0, []), (1, .iload_n 1, 1, false, 0, 0, 0, 0, 0, []), (2, .invokevirtual 84, 3, false, 2, 2, 1, 0, 0, []), (5, .ifCond .eq 10, 3, false, 7, 0, 0, 0, 0, []), (8, .iload_n 2, 1, false, 0, 0, 0, 0, 0, []), (9, .invokestatic 98, 3, false, 3, 1, 1, 0, 0, []), (12, .ifCond .ne 5, 3, false, 9, 0, 0, 0, 0, []), (15, .iconst (-1), 1, false, 0, 0, 0, 0, 0, []), (16, .ireturn, 1, false, 0, 0, 0, 0, 0, []), (17, .iload_n 3, 1, false, 0, 0, 0, 0, 0, []), (18, .iconst 0, 1, false, 0, 0, 0, 0, 0, []), (19, .iconst 1, 1, false, 0, 0, 0, 0, 0, []), (20, .invokestatic 76, 3, false, 0, 3, 1, 0, 0, []), (23, .ifCond .ne 6, 3, false, 16, 0, 0, 0, 0, []), (26, .bipush (-2), 2, false, 0, 0, 0, 0, 0, []), (28, .ireturn, 1, false, 0, 0, 0, 0, 0, []), (29, .iload_n 3, 1, false, 0, 0, 0, 0, 0, []), (30, .ifCond .ne 12, 3, false, 23, 0, 0, 0, 0, []), (33, .aload_n 0, 1, false, 0, 0, 0, 0, 0, []), (34, .getfield 16, 3, false, 0, 3, 6, 0, 0, []), (37, .iload_n 1, 1, false, 0, 0, 0, 0, 0, []), (38, .iaload, 1, false, 0, 0, 0, 0, 0, []), (39, .goto 9, 3, false, 27, 0, 0, 0, 0, []), (42, .aload_n 0, 1, false, 0, 0, 0, 0, 0, []), (43, .getfield 19, 3, false, 0, 4, 7, 0, 0, []), (46, .iload_n 1, 1, false, 0, 0, 0, 0, 0, []), (47, .iaload, 1, false, 0, 0, 0, 0, 0, []), (48, .istore 5, 2, false, 0, 0, 0, 0, 0, []), (50, .iload 5, 2, false, 0, 0, 0, 0, 0, []), (52, .iload_n 2, 1, false, 0, 0, 0, 0, 0, []), (53, .ishr, 1, false, 0, 0, 0, 0, 0, []), (54, .iconst 1, 1, false, 0, 0, 0, 0, 0, []), (55, .iand, 1, false, 0, 0, 0, 0, 0, []), (56, .iconst 1, 1, false, 0, 0, 0, 0, 0, []), (57, .if_icmp .ne 7, 3, false, 37, 0, 0, 0, 0, []), (60, .iconst 1, 1, false, 0, 0, 0, 0, 0, []), (61, .goto 4, 3, false, 38, 0, 0, 0, 0, []), (64, .iconst 0, 1, false, 0, 0, 0, 0, 0, []), (65, .istore 6, 2, false, 0, 0, 0, 0, 0, []), (67, .iload 6, 2, false, 0, 0, 0, 0, 0, []), (69, .iload 4, 2, false, 0, 0, 0, 0, 0, []), (71, .if_icmp .ne 5, 3, false, 44, 0, 0, 0, 0, []), (74, .iconst 0, 1, false, 0, 0, 0, 0, 0, []), (75, .ireturn, 1, false, 0, 0, 0, 0, 0, []), (76, .iload 4, 2, false, 0, 0, 0, 0, 0, []), (78, .ifCond .eq 12, 3, false, 52, 0, 0, 0, 0, []), (81, .iload 5, 2, false, 0, 0, 0, 0, 0, []), (83, .iconst 1, 1, false, 0, 0, 0, 0, 0, []), (84, .iload_n 2, 1, false, 0, 0, 0, 0, 0, []), (85, .ishl, 1, false, 0, 0, 0, 0, 0, []), (86, .ior, 1, false, 0, 0, 0, 0, 0, []), (87, .goto 11, 3, false, 59, 0, 0, 0, 0, []), (90, .iload 5, 2, false, 0, 0, 0, 0, 0, []), (92, .iconst 1, 1, false, 0, 0, 0, 0, 0, []), (93, .iload_n 2, 1, false, 0, 0, 0, 0, 0, []), (94, .ishl, 1, false, 0, 0, 0, 0, 0, []), (95, .iconst (-1), 1, false, 0, 0, 0, 0, 0, []), (96, .ixor, 1, false, 0, 0, 0, 0, 0, []), (97, .iand, 1, false, 0, 0, 0, 0, 0, []), (98, .istore 7, 2, false, 0, 0, 0, 0, 0, []), (100, .iload_n 3, 1, false, 0, 0, 0, 0, 0, []), (101, .ifCond .ne 14, 3, false, 68, 0, 0, 0, 0, []), (104, .aload_n 0, 1, false, 0, 0, 0, 0, 0, []), (105, .getfield 16, 3, false, 0, 3, 6, 0, 0, []), (108, .iload_n 1, 1, false, 0, 0, 0, 0, 0, []), (109, .iload 7, 2, false, 0, 0, 0, 0, 0, []), (111, .iastore, 1, false, 0, 0, 0, 0, 0, []), (112, .goto 11, 3, false, 73, 0, 0, 0, 0, []), (115, .aload_n 0, 1, false, 0, 0, 0, 0, 0, []), (116, .getfield 19, 3, false, 0, 4, 7, 0, 0, []), (119, .iload_n 1, 1, false, 0, 0, 0, 0, 0, []), (120, .iload 7, 2, false, 0, 0, 0, 0, 0, []), (122, .iastore, 1, false, 0, 0, 0, 0, 0, []), (123, .iconst 1, 1, false, 0, 0, 0, 0, 0, []), (124, .ireturn, 1, false, 0, 0, 0, 0, 0, [])]
noncomputable def mdX5_clue : mm_M := (yX5_clue, cX5_clue, 8, (some .int), 5, 1, tbX5_clue)
set_option maxRecDepth 20000 in
noncomputable def tbX5_setOf : List mm_E := [(0, .iconst 0, 1, false, 0, 0, 0, 0, 0, []), (1, .istore_n 3, 1, false, 0, 0, 0, 0, 0, []), (2, .iconst 0, 1, false, 0, 0, 0, 0, 0, []), (3, .istore 4, 2, false, 0, 0, 0, 0, 0, []), (5, .iload 4, 2, true, 0, 0, 0, 0, 0, []), (7, .aload_n 0, 1, false, 0, 0, 0, 0, 0, []), (8, .getfield 73, 3, false, 0, 0, 0, 0, 0, []), (11, .if_icmp .ge 53, 3, false, 37, 0, 0, 0, 0, []), (14, .iload_n 2, 1, false, 0, 0, 0, 0, 0, []), (15, .ifCond .ne 13, 3, false, 15, 0, 0, 0, 0, []), (18, .aload_n 0, 1, false, 0, 0, 0, 0, 0, []), (19, .getfield 16, 3, false, 0, 3, 6, 0, 0, []), (22, .iload 4, 2, false, 0, 0, 0, 0, 0, []), (24, .iaload, 1, false, 0, 0, 0, 0, 0, []), (25, .goto 10, 3, false, 19, 0, 0, 0, 0, []), (28, .aload_n 0, 1, false, 0, 0, 0, 0, 0, []), (29, .getfield 19, 3, false, 0, 4, 7, 0, 0, []), (32, .iload 4, 2, false, 0, 0, 0, 0, 0, []), (34, .iaload, 1, false, 0, 0, 0, 0, 0, []), (35, .istore 5, 2, false, 0, 0, 0, 0, 0, []), (37, .iload_n 3, 1, false, 0, 0, 0, 0, 0, []), (38, .iload 5, 2, false, 0, 0, 0, 0, 0, []), (40, .iload_n 1, 1, false, 0, 0, 0, 0, 0, []), (41, .ishr, 1, false, 0, 0, 0, 0, 0, []), (42, .iconst 1, 1, false, 0, 0, 0, 0, 0, []), (43, .iand, 1, false, 0, 0, 0, 0, 0, []), (44, .iconst 1, 1, false, 0, 0, 0, 0, 0, []), (45, .if_icmp .ne 10, 3, false, 32, 0, 0, 0, 0, []), (48, .iconst 1, 1, false, 0, 0, 0, 0, 0, []), (49, .iload 4, 2, false, 0, 0, 0, 0, 0, []), (51, .ishl, 1, false, 0, 0, 0, 0, 0, []), (52, .goto 4, 3, false, 33, 0, 0, 0, 0, []), (55, .iconst 0, 1, false, 0, 0, 0, 0, 0, []), (56, .ior, 1, false, 0, 0, 0, 0, 0, []), (57, .istore_n 3, 1, false, 0, 0, 0, 0, 0, []), (58, .iinc 4 1, 3, false, 0, 0, 0, 0, 0, []), (61, .goto (-56), 3, false, 4, 0, 0, 0, 0, []), (64, .iload_n 3, 1, false, 0, 0, 0, 0, 0, []), (65, .ireturn, 1, false, 0, 0, 0, 0, 0, [])]
noncomputable def mdX5_setOf : mm_M := (yX5_setOf, cX5_setOf, 6, (some .int), 5, 1, tbX5_setOf)
set_option maxRecDepth 20000 in
noncomputable def tbX5_ofClue : List mm_E := [(0, .iload_n 1, 1, false, 0, 0, 0, 0, 0, []), (1, .invokestatic 98, 3, false, 3, 1, 1, 0, 0, []), (4, .ifCond .ne 5, 3, false, 5, 0, 0, 0, 0, []), (7, .iconst (-1), 1, false, 0, 0, 0, 0, 0, []), (8, .ireturn, 1, false, 0, 0, 0, 0, 0, []), (9, .iload_n 2, 1, false, 0, 0, 0, 0, 0, []), (10, .iconst 0, 1, false, 0, 0, 0, 0, 0, []), (11, .iconst 1, 1, false, 0, 0, 0, 0, 0, []), (12, .invokestatic 76, 3, false, 0, 3, 1, 0, 0, []), (15, .ifCond .eq 12, 3, false, 15, 0, 0, 0, 0, []), (18, .aload_n 0, 1, false, 0, 0, 0, 0, 0, []), (19, .iload_n 1, 1, false, 0, 0, 0, 0, 0, []), (20, .iload_n 2, 1, false, 0, 0, 0, 0, 0, []), (21, .invokevirtual 101, 3, false, 12, 3, 1, 0, 0, []), (24, .goto 5, 3, false, 16, 0, 0, 0, 0, []), (27, .bipush (-2), 2, false, 0, 0, 0, 0, 0, []), (29, .ireturn, 1, false, 0, 0, 0, 0, 0, [])]
noncomputable def mdX5_ofClue : mm_M := (yX5_ofClue, cX5_ofClue, 3, (some .int), 5, 1, tbX5_ofClue)
set_option maxRecDepth 20000 in
noncomputable def tbX5_drop : List mm_E := [(0, .aload_n 0, 1, false, 0, 0, 0, 0, 0, []), (1, .getfield 73, 3, false, 0, 0, 0, 0, 0, []), (4, .ifCond .ne 6, 3, false, 5, 0, 0, 0, 0, []), (7, .bipush (-3), 2, false, 0, 0, 0, 0, 0, []), (9, .ireturn, 1, false, 0, 0, 0, 0, 0, []), (10, .aload_n 0, 1, false, 0, 0, 0, 0, 0, []), (11, .dup, 1, false, 0, 0, 0, 0, 0, []), (12, .getfield 73, 3, false, 0, 0, 0, 0, 0, []), (15, .iconst 1, 1, false, 0, 0, 0, 0, 0, []), (16, .isub, 1, false, 0, 0, 0, 0, 0, []), (17, .putfield 73, 3, false, 0, 0, 0, 0, 0, []), (20, .aload_n 0, 1, false, 0, 0, 0, 0, 0, []), (21, .getfield 73, 3, false, 0, 0, 0, 0, 0, []), (24, .ireturn, 1, false, 0, 0, 0, 0, 0, [])]
noncomputable def mdX5_drop : mm_M := (yX5_drop, cX5_drop, 1, (some .int), 5, 1, tbX5_drop)
set_option maxRecDepth 20000 in
noncomputable def tbX5_fee : List mm_E := [(0, .iload_n 1, 1, false, 0, 0, 0, 0, 0, []), (1, .iconst 0, 1, false, 0, 0, 0, 0, 0, []), (2, .ldc 105, 2, false, 0, 0, 0, 0, 1000000, []), (4, .invokestatic 76, 3, false, 0, 3, 1, 0, 0, []), (7, .ifCond .ne 6, 3, false, 7, 0, 0, 0, 0, []), (10, .bipush (-2), 2, false, 0, 0, 0, 0, 0, []), (12, .ireturn, 1, false, 0, 0, 0, 0, 0, []), (13, .aload_n 0, 1, false, 0, 0, 0, 0, 0, []), (14, .getfield 22, 3, false, 0, 5, 0, 0, 0, []), (17, .istore_n 2, 1, false, 0, 0, 0, 0, 0, []), (18, .aload_n 0, 1, false, 0, 0, 0, 0, 0, []), (19, .iload_n 1, 1, false, 0, 0, 0, 0, 0, []), (20, .putfield 22, 3, false, 0, 5, 0, 0, 0, []), (23, .iload_n 2, 1, false, 0, 0, 0, 0, 0, []), (24, .ireturn, 1, false, 0, 0, 0, 0, 0, [])]
noncomputable def mdX5_fee : mm_M := (yX5_fee, cX5_fee, 3, (some .int), 5, 1, tbX5_fee)
set_option maxRecDepth 20000 in
noncomputable def tbX5_jumpOf : List mm_E := [(0, .aload_n 0, 1, false, 0, 0, 0, 0, 0, []), (1, .getfield 7, 3, false, 0, 1, 4, 0, 0, []), (4, .iload_n 2, 1, false, 0, 0, 0, 0, 0, []), (5, .iaload, 1, false, 0, 0, 0, 0, 0, []), (6, .i2l, 1, false, 0, 0, 0, 0, 0, []), (7, .aload_n 0, 1, false, 0, 0, 0, 0, 0, []), (8, .iload_n 1, 1, false, 0, 0, 0, 0, 0, []), (9, .invokevirtual 90, 3, false, 4, 2, 2, 0, 0, []), (12, .lsub, 1, false, 0, 0, 0, 0, 0, []), (13, .lstore_n 3, 1, false, 0, 0, 0, 0, 0, []), (14, .lload_n 3, 1, false, 0, 0, 0, 0, 0, []), (15, .lconst 0, 1, false, 0, 0, 0, 0, 0, []), (16, .lcmp, 1, false, 0, 0, 0, 0, 0, []), (17, .ifCond .ge 8, 3, false, 17, 0, 0, 0, 0, []), (20, .lload_n 3, 1, false, 0, 0, 0, 0, 0, []), (21, .lneg, 1, false, 0, 0, 0, 0, 0, []), (22, .goto 4, 3, false, 18, 0, 0, 0, 0, []), (25, .lload_n 3, 1, false, 0, 0, 0, 0, 0, []), (26, .lreturn, 1, false, 0, 0, 0, 0, 0, [])]
noncomputable def mdX5_jumpOf : mm_M := (yX5_jumpOf, cX5_jumpOf, 5, (some .long), 5, 2, tbX5_jumpOf)
set_option maxRecDepth 20000 in
noncomputable def tbX5_jump : List mm_E := [(0, .aload_n 0, 1, false, 0, 0, 0, 0, 0, []), (1, .iload_n 1, 1, false, 0, 0, 0, 0, 0, []), (2, .invokevirtual 84, 3, false, 2, 2, 1, 0, 0, []), (5, .ifCond .eq 25, 3, false, 16, 0, 0, 0, 0, []), (8, .aload_n 0, 1, false, 0, 0, 0, 0, 0, []), (9, .iload_n 2, 1, false, 0, 0, 0, 0, 0, []), (10, .invokevirtual 84, 3, false, 2, 2, 1, 0, 0, []), (13, .ifCond .eq 17, 3, false, 16, 0, 0, 0, 0, []), (16, .iload_n 1, 1, false, 0, 0, 0, 0, 0, []), (17, .iload_n 2, 1, false, 0, 0, 0, 0, 0, []), (18, .if_icmp .eq 12, 3, false, 16, 0, 0, 0, 0, []), (21, .aload_n 0, 1, false, 0, 0, 0, 0, 0, []), (22, .iload_n 1, 1, false, 0, 0, 0, 0, 0, []), (23, .iload_n 2, 1, false, 0, 0, 0, 0, 0, []), (24, .invokevirtual 106, 3, false, 16, 3, 2, 0, 0, []), (27, .goto 6, 3, false, 17, 0, 0, 0, 0, []), (30, .ldc2_w 88, 3, false, 0, 0, 0, 0, (-9223372036854775808), []), (33, .lreturn, 1, false, 0, 0, 0, 0, 0, [])]
noncomputable def mdX5_jump : mm_M := (yX5_jump, cX5_jump, 3, (some .long), 5, 2, tbX5_jump)
set_option maxRecDepth 20000 in
noncomputable def tbX5_firstFrom : List mm_E := [(0, .aload_n 0, 1, false, 0, 0, 0, 0, 0, []), (1, .getfield 7, 3, false, 0, 1, 4, 0, 0, []), (4, .iconst 0, 1, false, 0, 0, 0, 0, 0, []), (5, .iaload, 1, false, 0, 0, 0, 0, 0, []), (6, .i2l, 1, false, 0, 0, 0, 0, 0, []), (7, .lstore_n 1, 1, false, 0, 0, 0, 0, 0, []), (8, .iconst 1, 1, false, 0, 0, 0, 0, 0, []), (9, .istore_n 3, 1, false, 0, 0, 0, 0, 0, []), (10, .iload_n 3, 1, true, 0, 0, 0, 0, 0, []), (11, .aload_n 0, 1, false, 0, 0, 0, 0, 0, []), (12, .getfield 73, 3, false, 0, 0, 0, 0, 0, []), (15, .if_icmp .ge 33, 3, false, 30, 0, 0, 0, 0, []), (18, .aload_n 0, 1, false, 0, 0, 0, 0, 0, []), (19, .getfield 7, 3, false, 0, 1, 4, 0, 0, []), (22, .iload_n 3, 1, false, 0, 0, 0, 0, 0, []), (23, .iaload, 1, false, 0, 0, 0, 0, 0, []), (24, .i2l, 1, false, 0, 0, 0, 0, 0, []), (25, .lload_n 1, 1, false, 0, 0, 0, 0, 0, []), (26, .lcmp, 1, false, 0, 0, 0, 0, 0, []), (27, .ifCond .ge 13, 3, false, 26, 0, 0, 0, 0, []), (30, .aload_n 0, 1, false, 0, 0, 0, 0, 0, []), (31, .getfield 7, 3, false, 0, 1, 4, 0, 0, []), (34, .iload_n 3, 1, false, 0, 0, 0, 0, 0, []), (35, .iaload, 1, false, 0, 0, 0, 0, 0, []), (36, .i2l, 1, false, 0, 0, 0, 0, 0, []), (37, .goto 4, 3, false, 27, 0, 0, 0, 0, []), (40, .lload_n 1, 1, false, 0, 0, 0, 0, 0, []), (41, .lstore_n 1, 1, false, 0, 0, 0, 0, 0, []), (42, .iinc 3 1, 3, false, 0, 0, 0, 0, 0, []), (45, .goto (-35), 3, false, 8, 0, 0, 0, 0, []), (48, .lload_n 1, 1, false, 0, 0, 0, 0, 0, []), (49, .lreturn, 1, false, 0, 0, 0, 0, 0, [])]
noncomputable def mdX5_firstFrom : mm_M := (yX5_firstFrom, cX5_firstFrom, 4, (some .long), 5, 2, tbX5_firstFrom)
set_option maxRecDepth 20000 in
noncomputable def tbX5_lastEnd : List mm_E := [(0, .aload_n 0, 1, false, 0, 0, 0, 0, 0, []), (1, .iconst 0, 1, false, 0, 0, 0, 0, 0, []), (2, .invokevirtual 90, 3, false, 4, 2, 2, 0, 0, []), (5, .lstore_n 1, 1, false, 0, 0, 0, 0, 0, []), (6, .iconst 1, 1, false, 0, 0, 0, 0, 0, []), (7, .istore_n 3, 1, false, 0, 0, 0, 0, 0, []), (8, .iload_n 3, 1, true, 0, 0, 0, 0, 0, []), (9, .aload_n 0, 1, false, 0, 0, 0, 0, 0, []), (10, .getfield 73, 3, false, 0, 0, 0, 0, 0, []), (13, .if_icmp .ge 29, 3, false, 24, 0, 0, 0, 0, []), (16, .aload_n 0, 1, false, 0, 0, 0, 0, 0, []), (17, .iload_n 3, 1, false, 0, 0, 0, 0, 0, []), (18, .invokevirtual 90, 3, false, 4, 2, 2, 0, 0, []), (21, .lload_n 1, 1, false, 0, 0, 0, 0, 0, []), (22, .lcmp, 1, false, 0, 0, 0, 0, 0, []), (23, .ifCond .le 11, 3, false, 20, 0, 0, 0, 0, []), (26, .aload_n 0, 1, false, 0, 0, 0, 0, 0, []), (27, .iload_n 3, 1, false, 0, 0, 0, 0, 0, []), (28, .invokevirtual 90, 3, false, 4, 2, 2, 0, 0, []), (31, .goto 4, 3, false, 21, 0, 0, 0, 0, []), (34, .lload_n 1, 1, false, 0, 0, 0, 0, 0, []), (35, .lstore_n 1, 1, false, 0, 0, 0, 0, 0, []), (36, .iinc 3 1, 3, false, 0, 0, 0, 0, 0, []), (39, .goto (-31), 3, false, 6, 0, 0, 0, 0, []), (42, .lload_n 1, 1, false, 0, 0, 0, 0, 0, []), (43, .lreturn, 1, false, 0, 0, 0, 0, 0, [])]
noncomputable def mdX5_lastEnd : mm_M := (yX5_lastEnd, cX5_lastEnd, 4, (some .long), 5, 2, tbX5_lastEnd)
set_option maxRecDepth 20000 in
noncomputable def tbX5_nextFrom : List mm_E := [(0, .aload_n 0, 1, false, 0, 0, 0, 0, 0, []), (1, .invokevirtual 110, 3, false, 19, 1, 2, 0, 0, []), (4, .lstore_n 3, 1, false, 0, 0, 0, 0, 0, []), (5, .iconst 0, 1, false, 0, 0, 0, 0, 0, []), (6, .istore 5, 2, false, 0, 0, 0, 0, 0, []), (8, .iload 5, 2, true, 0, 0, 0, 0, 0, []), (10, .aload_n 0, 1, false, 0, 0, 0, 0, 0, []), (11, .getfield 73, 3, false, 0, 0, 0, 0, 0, []), (14, .if_icmp .ge 48, 3, false, 35, 0, 0, 0, 0, []), (17, .aload_n 0, 1, false, 0, 0, 0, 0, 0, []), (18, .getfield 7, 3, false, 0, 1, 4, 0, 0, []), (21, .iload 5, 2, false, 0, 0, 0, 0, 0, []), (23, .iaload, 1, false, 0, 0, 0, 0, 0, []), (24, .i2l, 1, false, 0, 0, 0, 0, 0, []), (25, .lload_n 1, 1, false, 0, 0, 0, 0, 0, []), (26, .lcmp, 1, false, 0, 0, 0, 0, 0, []), (27, .ifCond .le 27, 3, false, 31, 0, 0, 0, 0, []), (30, .aload_n 0, 1, false, 0, 0, 0, 0, 0, []), (31, .getfield 7, 3, false, 0, 1, 4, 0, 0, []), (34, .iload 5, 2, false, 0, 0, 0, 0, 0, []), (36, .iaload, 1, false, 0, 0, 0, 0, 0, []), (37, .i2l, 1, false, 0, 0, 0, 0, 0, []), (38, .lload_n 3, 1, false, 0, 0, 0, 0, 0, []), (39, .lcmp, 1, false, 0, 0, 0, 0, 0, []), (40, .ifCond .ge 14, 3, false, 31, 0, 0, 0, 0, []), (43, .aload_n 0, 1, false, 0, 0, 0, 0, 0, []), (44, .getfield 7, 3, false, 0, 1, 4, 0, 0, []), (47, .iload 5, 2, false, 0, 0, 0, 0, 0, []), (49, .iaload, 1, false, 0, 0, 0, 0, 0, []), (50, .i2l, 1, false, 0, 0, 0, 0, 0, []), (51, .goto 4, 3, false, 32, 0, 0, 0, 0, []), (54, .lload_n 3, 1, false, 0, 0, 0, 0, 0, []), (55, .lstore_n 3, 1, false, 0, 0, 0, 0, 0, []), (56, .iinc 5 1, 3, false, 0, 0, 0, 0, 0, []), (59, .goto (-51), 3, false, 5, 0, 0, 0, 0, []), (62, .lload_n 3, 1, false, 0, 0, 0, 0, 0, []), (63, .lreturn, 1, false, 0, 0, 0, 0, 0, [])]
noncomputable def mdX5_nextFrom : mm_M := (yX5_nextFrom, cX5_nextFrom, 6, (some .long), 5, 2, tbX5_nextFrom)
set_option maxRecDepth 20000 in
noncomputable def tbX5_toldTo : List mm_E := [(0, .lload_n 1, 1, false, 0, 0, 0, 0, 0, []), (1, .lstore_n 3, 1, false, 0, 0, 0, 0, 0, []), (2, .iconst 1, 1, false, 0, 0, 0, 0, 0, []), (3, .istore 5, 2, false, 0, 0, 0, 0, 0, []), (5, .iload 5, 2, true, 0, 0, 0, 0, 0, []), (7, .ifCond .eq 61, 3, false, 37, 0, 0, 0, 0, []), (10, .iconst 0, 1, false, 0, 0, 0, 0, 0, []), (11, .istore 5, 2, false, 0, 0, 0, 0, 0, []), (13, .iconst 0, 1, false, 0, 0, 0, 0, 0, []), (14, .istore 6, 2, false, 0, 0, 0, 0, 0, []), (16, .iload 6, 2, true, 0, 0, 0, 0, 0, []), (18, .aload_n 0, 1, false, 0, 0, 0, 0, 0, []), (19, .getfield 73, 3, false, 0, 0, 0, 0, 0, []), (22, .if_icmp .ge 43, 3, false, 36, 0, 0, 0, 0, []), (25, .aload_n 0, 1, false, 0, 0, 0, 0, 0, []), (26, .getfield 7, 3, false, 0, 1, 4, 0, 0, []), (29, .iload 6, 2, false, 0, 0, 0, 0, 0, []), (31, .iaload, 1, false, 0, 0, 0, 0, 0, []), (32, .i2l, 1, false, 0, 0, 0, 0, 0, []), (33, .lload_n 3, 1, false, 0, 0, 0, 0, 0, []), (34, .lcmp, 1, false, 0, 0, 0, 0, 0, []), (35, .ifCond .gt 24, 3, false, 34, 0, 0, 0, 0, []), (38, .aload_n 0, 1, false, 0, 0, 0, 0, 0, []), (39, .iload 6, 2, false, 0, 0, 0, 0, 0, []), (41, .invokevirtual 90, 3, false, 4, 2, 2, 0, 0, []), (44, .lload_n 3, 1, false, 0, 0, 0, 0, 0, []), (45, .lcmp, 1, false, 0, 0, 0, 0, 0, []), (46, .ifCond .le 13, 3, false, 34, 0, 0, 0, 0, []), (49, .aload_n 0, 1, false, 0, 0, 0, 0, 0, []), (50, .iload 6, 2, false, 0, 0, 0, 0, 0, []), (52, .invokevirtual 90, 3, false, 4, 2, 2, 0, 0, []), (55, .lstore_n 3, 1, false, 0, 0, 0, 0, 0, []), (56, .iconst 1, 1, false, 0, 0, 0, 0, 0, []), (57, .istore 5, 2, false, 0, 0, 0, 0, 0, []), (59, .iinc 6 1, 3, false, 0, 0, 0, 0, 0, []), (62, .goto (-46), 3, false, 10, 0, 0, 0, 0, []), (65, .goto (-60), 3, false, 4, 0, 0, 0, 0, []), (68, .lload_n 3, 1, false, 0, 0, 0, 0, 0, []), (69, .lreturn, 1, false, 0, 0, 0, 0, 0, [])]
noncomputable def mdX5_toldTo : mm_M := (yX5_toldTo, cX5_toldTo, 7, (some .long), 5, 2, tbX5_toldTo)
set_option maxRecDepth 20000 in
noncomputable def tbX5_gaps : List mm_E := [(0, .lconst 0, 1, false, 0, 0, 0, 0, 0, []), (1, .lstore_n 1, 1, false, 0, 0, 0, 0, 0, []), (2, .aload_n 0, 1, false, 0, 0, 0, 0, 0, []), (3, .aload_n 0, 1, false, 0, 0, 0, 0, 0, []), (4, .invokevirtual 114, 3, false, 18, 1, 2, 0, 0, []), (7, .invokevirtual 117, 3, false, 21, 2, 2, 0, 0, []), (10, .lstore_n 3, 1, false, 0, 0, 0, 0, 0, []), (11, .lload_n 3, 1, true, 0, 0, 0, 0, 0, []), (12, .aload_n 0, 1, false, 0, 0, 0, 0, 0, []), (13, .invokevirtual 110, 3, false, 19, 1, 2, 0, 0, []), (16, .lcmp, 1, false, 0, 0, 0, 0, 0, []), (17, .ifCond .ge 27, 3, false, 27, 0, 0, 0, 0, []), (20, .aload_n 0, 1, false, 0, 0, 0, 0, 0, []), (21, .lload_n 3, 1, false, 0, 0, 0, 0, 0, []), (22, .invokevirtual 121, 3, false, 20, 2, 2, 0, 0, []), (25, .lstore 5, 2, false, 0, 0, 0, 0, 0, []), (27, .lload_n 1, 1, false, 0, 0, 0, 0, 0, []), (28, .lload 5, 2, false, 0, 0, 0, 0, 0, []), (30, .lload_n 3, 1, false, 0, 0, 0, 0, 0, []), (31, .lsub, 1, false, 0, 0, 0, 0, 0, []), (32, .ladd, 1, false, 0, 0, 0, 0, 0, []), (33, .lstore_n 1, 1, false, 0, 0, 0, 0, 0, []), (34, .aload_n 0, 1, false, 0, 0, 0, 0, 0, []), (35, .lload 5, 2, false, 0, 0, 0, 0, 0, []), (37, .invokevirtual 117, 3, false, 21, 2, 2, 0, 0, []), (40, .lstore_n 3, 1, false, 0, 0, 0, 0, 0, []), (41, .goto (-30), 3, false, 7, 0, 0, 0, 0, []), (44, .lload_n 1, 1, false, 0, 0, 0, 0, 0, []), (45, .lreturn, 1, false, 0, 0, 0, 0, 0, [])]
noncomputable def mdX5_gaps : mm_M := (yX5_gaps, cX5_gaps, 7, (some .long), 5, 2, tbX5_gaps)
set_option maxRecDepth 20000 in
noncomputable def tbX5_span : List mm_E := [(0, .iload_n 1, 1, false, 0, 0, 0, 0, 0, []), (1, .iconst 0, 1, false, 0, 0, 0, 0, 0, []), (2, .iconst 1, 1, false, 0, 0, 0, 0, 0, []), (3, .invokestatic 76, 3, false, 0, 3, 1, 0, 0, []), (6, .ifCond .eq 10, 3, false, 8, 0, 0, 0, 0, []), (9, .aload_n 0, 1, false, 0, 0, 0, 0, 0, []), (10, .getfield 73, 3, false, 0, 0, 0, 0, 0, []), (13, .ifCond .ne 7, 3, false, 10, 0, 0, 0, 0, []), (16, .ldc2_w 88, 3, false, 0, 0, 0, 0, (-9223372036854775808), []), (19, .lreturn, 1, false, 0, 0, 0, 0, 0, []), (20, .iload_n 1, 1, false, 0, 0, 0, 0, 0, []), (21, .ifCond .ne 15, 3, false, 18, 0, 0, 0, 0, []), (24, .aload_n 0, 1, false, 0, 0, 0, 0, 0, []), (25, .invokevirtual 110, 3, false, 19, 1, 2, 0, 0, []), (28, .aload_n 0, 1, false, 0, 0, 0, 0, 0, []), (29, .invokevirtual 114, 3, false, 18, 1, 2, 0, 0, []), (32, .lsub, 1, false, 0, 0, 0, 0, 0, []), (33, .goto 7, 3, false, 20, 0, 0, 0, 0, []), (36, .aload_n 0, 1, false, 0, 0, 0, 0, 0, []), (37, .invokevirtual 124, 3, false, 22, 1, 2, 0, 0, []), (40, .lreturn, 1, false, 0, 0, 0, 0, 0, [])]
noncomputable def mdX5_span : mm_M := (yX5_span, cX5_span, 2, (some .long), 5, 2, tbX5_span)
set_option maxRecDepth 20000 in
noncomputable def tbX5_add : List mm_E := [(0, .iload_n 1, 1, false, 0, 0, 0, 0, 0, []), (1, .iconst 0, 1, false, 0, 0, 0, 0, 0, []), (2, .bipush 7, 2, false, 0, 0, 0, 0, 0, []), (4, .invokestatic 76, 3, false, 0, 3, 1, 0, 0, []), (7, .ifCond .ne 18, 3, false, 13, 0, 0, 0, 0, []), (10, .iload_n 1, 1, false, 0, 0, 0, 0, 0, []), (11, .bipush 20, 2, false, 0, 0, 0, 0, 0, []), (13, .if_icmp .eq 12, 3, false, 13, 0, 0, 0, 0, []), (16, .iload_n 1, 1, false, 0, 0, 0, 0, 0, []), (17, .bipush 21, 2, false, 0, 0, 0, 0, 0, []), (19, .if_icmp .eq 6, 3, false, 13, 0, 0, 0, 0, []), (22, .bipush (-2), 2, false, 0, 0, 0, 0, 0, []), (24, .ireturn, 1, false, 0, 0, 0, 0, 0, []), (25, .aload_n 0, 1, false, 0, 0, 0, 0, 0, []), (26, .getfield 127, 3, false, 0, 6, 0, 0, 0, []), (29, .bipush 40, 2, false, 0, 0, 0, 0, 0, []), (31, .if_icmp .ne 6, 3, false, 19, 0, 0, 0, 0, []), (34, .bipush (-4), 2, false, 0, 0, 0, 0, 0, []), (36, .ireturn, 1, false, 0, 0, 0, 0, 0, []), (37, .aload_n 0, 1, false, 0, 0, 0, 0, 0, []), (38, .getfield 26, 3, false, 0, 7, 8, 0, 0, []), (41, .aload_n 0, 1, false, 0, 0, 0, 0, 0, []), (42, .getfield 127, 3, false, 0, 6, 0, 0, 0, []), (45, .iload_n 1, 1, false, 0, 0, 0, 0, 0, []), (46, .iastore, 1, false, 0, 0, 0, 0, 0, []), (47, .aload_n 0, 1, false, 0, 0, 0, 0, 0, []), (48, .dup, 1, false, 0, 0, 0, 0, 0, []), (49, .getfield 127, 3, false, 0, 6, 0, 0, 0, []), (52, .iconst 1, 1, false, 0, 0, 0, 0, 0, []), (53, .iadd, 1, false, 0, 0, 0, 0, 0, []), (54, .putfield 127, 3, false, 0, 6, 0, 0, 0, []), (57, .aload_n 0, 1, false, 0, 0, 0, 0, 0, []), (58, .getfield 127, 3, false, 0, 6, 0, 0, 0, []), (61, .ireturn, 1, false, 0, 0, 0, 0, 0, [])]
noncomputable def mdX5_add : mm_M := (yX5_add, cX5_add, 2, (some .int), 5, 1, tbX5_add)
set_option maxRecDepth 20000 in
noncomputable def tbX5_cut : List mm_E := [(0, .iload_n 1, 1, false, 0, 0, 0, 0, 0, []), (1, .iconst 0, 1, false, 0, 0, 0, 0, 0, []), (2, .aload_n 0, 1, false, 0, 0, 0, 0, 0, []), (3, .getfield 127, 3, false, 0, 6, 0, 0, 0, []), (6, .invokestatic 76, 3, false, 0, 3, 1, 0, 0, []), (9, .ifCond .ne 6, 3, false, 8, 0, 0, 0, 0, []), (12, .bipush (-2), 2, false, 0, 0, 0, 0, 0, []), (14, .ireturn, 1, false, 0, 0, 0, 0, 0, []), (15, .aload_n 0, 1, false, 0, 0, 0, 0, 0, []), (16, .dup, 1, false, 0, 0, 0, 0, 0, []), (17, .getfield 127, 3, false, 0, 6, 0, 0, 0, []), (20, .iload_n 1, 1, false, 0, 0, 0, 0, 0, []), (21, .isub, 1, false, 0, 0, 0, 0, 0, []), (22, .putfield 127, 3, false, 0, 6, 0, 0, 0, []), (25, .aload_n 0, 1, false, 0, 0, 0, 0, 0, []), (26, .getfield 127, 3, false, 0, 6, 0, 0, 0, []), (29, .ireturn, 1, false, 0, 0, 0, 0, 0, [])]
noncomputable def mdX5_cut : mm_M := (yX5_cut, cX5_cut, 2, (some .int), 5, 1, tbX5_cut)
set_option maxRecDepth 20000 in
noncomputable def tbX5_sideBy : List mm_E := [(0, .aload_n 0, 1, false, 0, 0, 0, 0, 0, []), (1, .iload_n 1, 1, false, 0, 0, 0, 0, 0, []), (2, .invokevirtual 90, 3, false, 4, 2, 2, 0, 0, []), (5, .aload_n 0, 1, false, 0, 0, 0, 0, 0, []), (6, .getfield 7, 3, false, 0, 1, 4, 0, 0, []), (9, .iload_n 2, 1, false, 0, 0, 0, 0, 0, []), (10, .iaload, 1, false, 0, 0, 0, 0, 0, []), (11, .i2l, 1, false, 0, 0, 0, 0, 0, []), (12, .lcmp, 1, false, 0, 0, 0, 0, 0, []), (13, .ifCond .gt 7, 3, false, 12, 0, 0, 0, 0, []), (16, .iconst 0, 1, false, 0, 0, 0, 0, 0, []), (17, .goto 25, 3, false, 25, 0, 0, 0, 0, []), (20, .aload_n 0, 1, false, 0, 0, 0, 0, 0, []), (21, .getfield 7, 3, false, 0, 1, 4, 0, 0, []), (24, .iload_n 1, 1, false, 0, 0, 0, 0, 0, []), (25, .iaload, 1, false, 0, 0, 0, 0, 0, []), (26, .i2l, 1, false, 0, 0, 0, 0, 0, []), (27, .aload_n 0, 1, false, 0, 0, 0, 0, 0, []), (28, .iload_n 2, 1, false, 0, 0, 0, 0, 0, []), (29, .invokevirtual 90, 3, false, 4, 2, 2, 0, 0, []), (32, .lcmp, 1, false, 0, 0, 0, 0, 0, []), (33, .ifCond .lt 7, 3, false, 24, 0, 0, 0, 0, []), (36, .iconst 1, 1, false, 0, 0, 0, 0, 0, []), (37, .goto 5, 3, false, 25, 0, 0, 0, 0, []), (40, .bipush (-9), 2, false, 0, 0, 0, 0, 0, []), (42, .ireturn, 1, false, 0, 0, 0, 0, 0, [])]
noncomputable def mdX5_sideBy : mm_M := (yX5_sideBy, cX5_sideBy, 3, (some .int), 5, 1, tbX5_sideBy)
set_option maxRecDepth 20000 in
noncomputable def tbX5_isOnSide : List mm_E := [(0, .aload_n 0, 1, false, 0, 0, 0, 0, 0, []), (1, .getfield 130, 3, false, 0, 9, 0, 0, 0, []), (4, .ifCond .ne 5, 3, false, 5, 0, 0, 0, 0, []), (7, .iconst 1, 1, false, 0, 0, 0, 0, 0, []), (8, .ireturn, 1, false, 0, 0, 1, 0, 0, []), (9, .aload_n 0, 1, false, 0, 0, 0, 0, 0, []), (10, .iload_n 1, 1, false, 0, 0, 0, 0, 0, []), (11, .aload_n 0, 1, false, 0, 0, 0, 0, 0, []), (12, .getfield 32, 3, false, 0, 11, 10, 0, 0, []), (15, .aload_n 0, 1, false, 0, 0, 0, 0, 0, []), (16, .getfield 130, 3, false, 0, 9, 0, 0, 0, []), (19, .iaload, 1, false, 0, 0, 0, 0, 0, []), (20, .invokevirtual 133, 3, false, 26, 3, 1, 0, 0, []), (23, .istore_n 2, 1, false, 0, 0, 0, 0, 0, []), (24, .iload_n 2, 1, false, 0, 0, 0, 0, 0, []), (25, .bipush (-9), 2, false, 0, 0, 0, 0, 0, []), (27, .if_icmp .eq 34, 3, false, 33, 0, 0, 0, 0, []), (30, .aload_n 0, 1, false, 0, 0, 0, 0, 0, []), (31, .getfield 29, 3, false, 0, 10, 9, 0, 0, []), (34, .aload_n 0, 1, false, 0, 0, 0, 0, 0, []), (35, .getfield 130, 3, false, 0, 9, 0, 0, 0, []), (38, .iaload, 1, false, 0, 0, 0, 0, 0, []), (39, .bipush (-9), 2, false, 0, 0, 0, 0, 0, []), (41, .if_icmp .eq 16, 3, false, 31, 0, 0, 0, 0, []), (44, .iload_n 2, 1, false, 0, 0, 0, 0, 0, []), (45, .aload_n 0, 1, false, 0, 0, 0, 0, 0, []), (46, .getfield 35, 3, false, 0, 12, 11, 0, 0, []), (49, .aload_n 0, 1, false, 0, 0, 0, 0, 0, []), (50, .getfield 130, 3, false, 0, 9, 0, 0, 0, []), (53, .iaload, 1, false, 0, 0, 0, 0, 0, []), (54, .if_icmp .ne 7, 3, false, 33, 0, 0, 0, 0, []), (57, .iconst 1, 1, false, 0, 0, 0, 0, 0, []), (58, .goto 4, 3, false, 34, 0, 0, 0, 0, []), (61, .iconst 0, 1, false, 0, 0, 0, 0, 0, []), (62, .ireturn, 1, false, 0, 0, 1, 0, 0, [])]
noncomputable def mdX5_isOnSide : mm_M := (yX5_isOnSide, cX5_isOnSide, 3, (some .boolean), 5, 1, tbX5_isOnSide)
set_option maxRecDepth 20000 in
noncomputable def tbX5_reasonOfScene : List mm_E := [(0, .aload_n 0, 1, false, 0, 0, 0, 0, 0, []), (1, .iload_n 1, 1, false, 0, 0, 0, 0, 0, []), (2, .invokevirtual 84, 3, false, 2, 2, 1, 0, 0, []), (5, .ifCond .ne 5, 3, false, 6, 0, 0, 0, 0, []), (8, .iconst 1, 1, false, 0, 0, 0, 0, 0, []), (9, .ireturn, 1, false, 0, 0, 0, 0, 0, []), (10, .aload_n 0, 1, false, 0, 0, 0, 0, 0, []), (11, .getfield 136, 3, false, 0, 18, 0, 0, 0, []), (14, .iload_n 1, 1, false, 0, 0, 0, 0, 0, []), (15, .ishr, 1, false, 0, 0, 0, 0, 0, []), (16, .iconst 1, 1, false, 0, 0, 0, 0, 0, []), (17, .iand, 1, false, 0, 0, 0, 0, 0, []), (18, .iconst 1, 1, false, 0, 0, 0, 0, 0, []), (19, .if_icmp .ne 5, 3, false, 16, 0, 0, 0, 0, []), (22, .iconst 2, 1, false, 0, 0, 0, 0, 0, []), (23, .ireturn, 1, false, 0, 0, 0, 0, 0, []), (24, .aload_n 0, 1, false, 0, 0, 0, 0, 0, []), (25, .getfield 19, 3, false, 0, 4, 7, 0, 0, []), (28, .iload_n 1, 1, false, 0, 0, 0, 0, 0, []), (29, .iaload, 1, false, 0, 0, 0, 0, 0, []), (30, .aload_n 0, 1, false, 0, 0, 0, 0, 0, []), (31, .getfield 139, 3, false, 0, 19, 0, 0, 0, []), (34, .iconst (-1), 1, false, 0, 0, 0, 0, 0, []), (35, .ixor, 1, false, 0, 0, 0, 0, 0, []), (36, .iand, 1, false, 0, 0, 0, 0, 0, []), (37, .ifCond .eq 5, 3, false, 28, 0, 0, 0, 0, []), (40, .iconst 3, 1, false, 0, 0, 0, 0, 0, []), (41, .ireturn, 1, false, 0, 0, 0, 0, 0, []), (42, .aload_n 0, 1, false, 0, 0, 0, 0, 0, []), (43, .iload_n 1, 1, false, 0, 0, 0, 0, 0, []), (44, .invokevirtual 142, 3, false, 27, 2, 1, 0, 0, []), (47, .ifCond .eq 7, 3, false, 34, 0, 0, 0, 0, []), (50, .iconst 0, 1, false, 0, 0, 0, 0, 0, []), (51, .goto 4, 3, false, 35, 0, 0, 0, 0, []), (54, .iconst 4, 1, false, 0, 0, 0, 0, 0, []), (55, .ireturn, 1, false, 0, 0, 0, 0, 0, [])]
noncomputable def mdX5_reasonOfScene : mm_M := (yX5_reasonOfScene, cX5_reasonOfScene, 2, (some .int), 5, 1, tbX5_reasonOfScene)
set_option maxRecDepth 20000 in
noncomputable def tbX5_reasonOf : List mm_E := [(0, .iload_n 1, 1, false, 0, 0, 0, 0, 0, []), (1, .bipush 20, 2, false, 0, 0, 0, 0, 0, []), (3, .if_icmp .ne 23, 3, false, 14, 0, 0, 0, 0, []), (6, .aload_n 0, 1, false, 0, 0, 0, 0, 0, []), (7, .getfield 29, 3, false, 0, 10, 9, 0, 0, []), (10, .aload_n 0, 1, false, 0, 0, 0, 0, 0, []), (11, .getfield 130, 3, false, 0, 9, 0, 0, 0, []), (14, .iaload, 1, false, 0, 0, 0, 0, 0, []), (15, .bipush (-9), 2, false, 0, 0, 0, 0, 0, []), (17, .if_icmp .ne 7, 3, false, 12, 0, 0, 0, 0, []), (20, .iconst 5, 1, false, 0, 0, 0, 0, 0, []), (21, .goto 4, 3, false, 13, 0, 0, 0, 0, []), (24, .iconst 0, 1, false, 0, 0, 0, 0, 0, []), (25, .ireturn, 1, false, 0, 0, 0, 0, 0, []), (26, .iload_n 1, 1, false, 0, 0, 0, 0, 0, []), (27, .bipush 21, 2, false, 0, 0, 0, 0, 0, []), (29, .if_icmp .ne 31, 3, false, 31, 0, 0, 0, 0, []), (32, .aload_n 0, 1, false, 0, 0, 0, 0, 0, []), (33, .getfield 130, 3, false, 0, 9, 0, 0, 0, []), (36, .ifCond .eq 17, 3, false, 27, 0, 0, 0, 0, []), (39, .aload_n 0, 1, false, 0, 0, 0, 0, 0, []), (40, .getfield 29, 3, false, 0, 10, 9, 0, 0, []), (43, .aload_n 0, 1, false, 0, 0, 0, 0, 0, []), (44, .getfield 130, 3, false, 0, 9, 0, 0, 0, []), (47, .iaload, 1, false, 0, 0, 0, 0, 0, []), (48, .bipush (-9), 2, false, 0, 0, 0, 0, 0, []), (50, .if_icmp .ne 8, 3, false, 29, 0, 0, 0, 0, []), (53, .bipush 6, 2, false, 0, 0, 0, 0, 0, []), (55, .goto 4, 3, false, 30, 0, 0, 0, 0, []), (58, .iconst 0, 1, false, 0, 0, 0, 0, 0, []), (59, .ireturn, 1, false, 0, 0, 0, 0, 0, []), (60, .aload_n 0, 1, false, 0, 0, 0, 0, 0, []), (61, .iload_n 1, 1, false, 0, 0, 0, 0, 0, []), (62, .invokevirtual 145, 3, false, 28, 2, 1, 0, 0, []), (65, .ireturn, 1, false, 0, 0, 0, 0, 0, [])]
noncomputable def mdX5_reasonOf : mm_M := (yX5_reasonOf, cX5_reasonOf, 2, (some .int), 5, 1, tbX5_reasonOf)
set_option maxRecDepth 20000 in
noncomputable def tbX5_tells : List mm_E := [(0, .aload_n 0, 1, false, 0, 0, 0, 0, 0, []), (1, .dup, 1, false, 0, 0, 0, 0, 0, []), (2, .getfield 149, 3, false, 0, 20, 1, 0, 0, []), (5, .aload_n 0, 1, false, 0, 0, 0, 0, 0, []), (6, .getfield 29, 3, false, 0, 10, 9, 0, 0, []), (9, .aload_n 0, 1, false, 0, 0, 0, 0, 0, []), (10, .getfield 130, 3, false, 0, 9, 0, 0, 0, []), (13, .iaload, 1, false, 0, 0, 0, 0, 0, []), (14, .bipush (-9), 2, false, 0, 0, 0, 0, 0, []), (16, .if_icmp .ne 7, 3, false, 12, 0, 0, 0, 0, []), (19, .lconst 0, 1, false, 0, 0, 0, 0, 0, []), (20, .goto 17, 3, false, 20, 0, 0, 0, 0, []), (23, .aload_n 0, 1, false, 0, 0, 0, 0, 0, []), (24, .aload_n 0, 1, false, 0, 0, 0, 0, 0, []), (25, .getfield 29, 3, false, 0, 10, 9, 0, 0, []), (28, .aload_n 0, 1, false, 0, 0, 0, 0, 0, []), (29, .getfield 130, 3, false, 0, 9, 0, 0, 0, []), (32, .iaload, 1, false, 0, 0, 0, 0, 0, []), (33, .iload_n 1, 1, false, 0, 0, 0, 0, 0, []), (34, .invokevirtual 106, 3, false, 16, 3, 2, 0, 0, []), (37, .ladd, 1, false, 0, 0, 0, 0, 0, []), (38, .putfield 149, 3, false, 0, 20, 1, 0, 0, []), (41, .aload_n 0, 1, false, 0, 0, 0, 0, 0, []), (42, .getfield 130, 3, false, 0, 9, 0, 0, 0, []), (45, .ifCond .ne 8, 3, false, 27, 0, 0, 0, 0, []), (48, .bipush (-9), 2, false, 0, 0, 0, 0, 0, []), (50, .goto 12, 3, false, 32, 0, 0, 0, 0, []), (53, .aload_n 0, 1, false, 0, 0, 0, 0, 0, []), (54, .getfield 32, 3, false, 0, 11, 10, 0, 0, []), (57, .aload_n 0, 1, false, 0, 0, 0, 0, 0, []), (58, .getfield 130, 3, false, 0, 9, 0, 0, 0, []), (61, .iaload, 1, false, 0, 0, 0, 0, 0, []), (62, .istore_n 2, 1, false, 0, 0, 0, 0, 0, []), (63, .aload_n 0, 1, false, 0, 0, 0, 0, 0, []), (64, .getfield 130, 3, false, 0, 9, 0, 0, 0, []), (67, .ifCond .ne 8, 3, false, 38, 0, 0, 0, 0, []), (70, .bipush (-9), 2, false, 0, 0, 0, 0, 0, []), (72, .goto 9, 3, false, 42, 0, 0, 0, 0, []), (75, .aload_n 0, 1, false, 0, 0, 0, 0, 0, []), (76, .iload_n 1, 1, false, 0, 0, 0, 0, 0, []), (77, .iload_n 2, 1, false, 0, 0, 0, 0, 0, []), (78, .invokevirtual 133, 3, false, 26, 3, 1, 0, 0, []), (81, .istore_n 3, 1, false, 0, 0, 0, 0, 0, []), (82, .aload_n 0, 1, false, 0, 0, 0, 0, 0, []), (83, .getfield 35, 3, false, 0, 12, 11, 0, 0, []), (86, .aload_n 0, 1, false, 0, 0, 0, 0, 0, []), (87, .getfield 130, 3, false, 0, 9, 0, 0, 0, []), (90, .iload_n 3, 1, false, 0, 0, 0, 0, 0, []), (91, .iastore, 1, false, 0, 0, 0, 0, 0, []), (92, .aload_n 0, 1, false, 0, 0, 0, 0, 0, []), (93, .getfield 29, 3, false, 0, 10, 9, 0, 0, []), (96, .aload_n 0, 1, false, 0, 0, 0, 0, 0, []), (97, .getfield 130, 3, false, 0, 9, 0, 0, 0, []), (100, .iload_n 1, 1, false, 0, 0, 0, 0, 0, []), (101, .iastore, 1, false, 0, 0, 0, 0, 0, []), (102, .aload_n 0, 1, false, 0, 0, 0, 0, 0, []), (103, .getfield 38, 3, false, 0, 21, 12, 0, 0, []), (106, .iload_n 1, 1, false, 0, 0, 0, 0, 0, []), (107, .aload_n 0, 1, false, 0, 0, 0, 0, 0, []), (108, .getfield 153, 3, false, 0, 17, 0, 0, 0, []), (111, .iastore, 1, false, 0, 0, 0, 0, 0, []), (112, .aload_n 0, 1, false, 0, 0, 0, 0, 0, []), (113, .getfield 41, 3, false, 0, 22, 13, 0, 0, []), (116, .iload_n 1, 1, false, 0, 0, 0, 0, 0, []), (117, .aload_n 0, 1, false, 0, 0, 0, 0, 0, []), (118, .getfield 130, 3, false, 0, 9, 0, 0, 0, []), (121, .iastore, 1, false, 0, 0, 0, 0, 0, []), (122, .aload_n 0, 1, false, 0, 0, 0, 0, 0, []), (123, .getfield 44, 3, false, 0, 23, 14, 0, 0, []), (126, .iload_n 1, 1, false, 0, 0, 0, 0, 0, []), (127, .iload_n 2, 1, false, 0, 0, 0, 0, 0, []), (128, .iastore, 1, false, 0, 0, 0, 0, 0, []), (129, .aload_n 0, 1, false, 0, 0, 0, 0, 0, []), (130, .getfield 47, 3, false, 0, 24, 15, 0, 0, []), (133, .iload_n 1, 1, false, 0, 0, 0, 0, 0, []), (134, .iload_n 3, 1, false, 0, 0, 0, 0, 0, []), (135, .iastore, 1, false, 0, 0, 0, 0, 0, []), (136, .aload_n 0, 1, false, 0, 0, 0, 0, 0, []), (137, .dup, 1, false, 0, 0, 0, 0, 0, []), (138, .getfield 153, 3, false, 0, 17, 0, 0, 0, []), (141, .iconst 1, 1, false, 0, 0, 0, 0, 0, []), (142, .iadd, 1, false, 0, 0, 0, 0, 0, []), (143, .putfield 153, 3, false, 0, 17, 0, 0, 0, []), (146, .aload_n 0, 1, false, 0, 0, 0, 0, 0, []), (147, .dup, 1, false, 0, 0, 0, 0, 0, []), (148, .getfield 136, 3, false, 0, 18, 0, 0, 0, []), (151, .iconst 1, 1, false, 0, 0, 0, 0, 0, []), (152, .iload_n 1, 1, false, 0, 0, 0, 0, 0, []), (153, .ishl, 1, false, 0, 0, 0, 0, 0, []), (154, .ior, 1, false, 0, 0, 0, 0, 0, []), (155, .putfield 136, 3, false, 0, 18, 0, 0, 0, []), (158, .aload_n 0, 1, false, 0, 0, 0, 0, 0, []), (159, .dup, 1, false, 0, 0, 0, 0, 0, []), (160, .getfield 139, 3, false, 0, 19, 0, 0, 0, []), (163, .aload_n 0, 1, false, 0, 0, 0, 0, 0, []), (164, .getfield 16, 3, false, 0, 3, 6, 0, 0, []), (167, .iload_n 1, 1, false, 0, 0, 0, 0, 0, []), (168, .iaload, 1, false, 0, 0, 0, 0, 0, []), (169, .ior, 1, false, 0, 0, 0, 0, 0, []), (170, .putfield 139, 3, false, 0, 19, 0, 0, 0, []), (173, .return_, 1, false, 0, 0, 0, 0, 0, [])]
noncomputable def mdX5_tells : mm_M := (yX5_tells, cX5_tells, 4, none, 5, 0, tbX5_tells)
set_option maxRecDepth 20000 in
noncomputable def tbX5_opens : List mm_E := [(0, .aload_n 0, 1, false, 0, 0, 0, 0, 0, []), (1, .getfield 29, 3, false, 0, 10, 9, 0, 0, []), (4, .aload_n 0, 1, false, 0, 0, 0, 0, 0, []), (5, .getfield 130, 3, false, 0, 9, 0, 0, 0, []), (8, .iaload, 1, false, 0, 0, 0, 0, 0, []), (9, .istore_n 1, 1, false, 0, 0, 0, 0, 0, []), (10, .aload_n 0, 1, false, 0, 0, 0, 0, 0, []), (11, .dup, 1, false, 0, 0, 0, 0, 0, []), (12, .getfield 130, 3, false, 0, 9, 0, 0, 0, []), (15, .iconst 1, 1, false, 0, 0, 0, 0, 0, []), (16, .iadd, 1, false, 0, 0, 0, 0, 0, []), (17, .putfield 130, 3, false, 0, 9, 0, 0, 0, []), (20, .aload_n 0, 1, false, 0, 0, 0, 0, 0, []), (21, .getfield 32, 3, false, 0, 11, 10, 0, 0, []), (24, .aload_n 0, 1, false, 0, 0, 0, 0, 0, []), (25, .getfield 130, 3, false, 0, 9, 0, 0, 0, []), (28, .iload_n 1, 1, false, 0, 0, 0, 0, 0, []), (29, .iastore, 1, false, 0, 0, 0, 0, 0, []), (30, .aload_n 0, 1, false, 0, 0, 0, 0, 0, []), (31, .getfield 29, 3, false, 0, 10, 9, 0, 0, []), (34, .aload_n 0, 1, false, 0, 0, 0, 0, 0, []), (35, .getfield 130, 3, false, 0, 9, 0, 0, 0, []), (38, .bipush (-9), 2, false, 0, 0, 0, 0, 0, []), (40, .iastore, 1, false, 0, 0, 0, 0, 0, []), (41, .aload_n 0, 1, false, 0, 0, 0, 0, 0, []), (42, .getfield 35, 3, false, 0, 12, 11, 0, 0, []), (45, .aload_n 0, 1, false, 0, 0, 0, 0, 0, []), (46, .getfield 130, 3, false, 0, 9, 0, 0, 0, []), (49, .bipush (-9), 2, false, 0, 0, 0, 0, 0, []), (51, .iastore, 1, false, 0, 0, 0, 0, 0, []), (52, .aload_n 0, 1, false, 0, 0, 0, 0, 0, []), (53, .dup, 1, false, 0, 0, 0, 0, 0, []), (54, .getfield 156, 3, false, 0, 15, 0, 0, 0, []), (57, .iconst 1, 1, false, 0, 0, 0, 0, 0, []), (58, .iadd, 1, false, 0, 0, 0, 0, 0, []), (59, .putfield 156, 3, false, 0, 15, 0, 0, 0, []), (62, .aload_n 0, 1, false, 0, 0, 0, 0, 0, []), (63, .aload_n 0, 1, false, 0, 0, 0, 0, 0, []), (64, .getfield 130, 3, false, 0, 9, 0, 0, 0, []), (67, .aload_n 0, 1, false, 0, 0, 0, 0, 0, []), (68, .getfield 159, 3, false, 0, 16, 0, 0, 0, []), (71, .if_icmp .le 10, 3, false, 45, 0, 0, 0, 0, []), (74, .aload_n 0, 1, false, 0, 0, 0, 0, 0, []), (75, .getfield 130, 3, false, 0, 9, 0, 0, 0, []), (78, .goto 7, 3, false, 47, 0, 0, 0, 0, []), (81, .aload_n 0, 1, false, 0, 0, 0, 0, 0, []), (82, .getfield 159, 3, false, 0, 16, 0, 0, 0, []), (85, .putfield 159, 3, false, 0, 16, 0, 0, 0, []), (88, .aload_n 0, 1, false, 0, 0, 0, 0, 0, []), (89, .dup, 1, false, 0, 0, 0, 0, 0, []), (90, .getfield 149, 3, false, 0, 20, 1, 0, 0, []), (93, .aload_n 0, 1, false, 0, 0, 0, 0, 0, []), (94, .getfield 22, 3, false, 0, 5, 0, 0, 0, []), (97, .i2l, 1, false, 0, 0, 0, 0, 0, []), (98, .ladd, 1, false, 0, 0, 0, 0, 0, []), (99, .putfield 149, 3, false, 0, 20, 1, 0, 0, []), (102, .return_, 1, false, 0, 0, 0, 0, 0, [])]
noncomputable def mdX5_opens : mm_M := (yX5_opens, cX5_opens, 2, none, 5, 0, tbX5_opens)
set_option maxRecDepth 20000 in
noncomputable def tbX5_goesOn : List mm_E := [(0, .iload_n 1, 1, false, 0, 0, 0, 0, 0, []), (1, .bipush 20, 2, false, 0, 0, 0, 0, 0, []), (3, .if_icmp .ne 10, 3, false, 6, 0, 0, 0, 0, []), (6, .aload_n 0, 1, false, 0, 0, 0, 0, 0, []), (7, .invokevirtual 162, 3, false, 31, 1, 0, 0, 0, []), (10, .goto 27, 3, false, 19, 0, 0, 0, 0, []), (13, .iload_n 1, 1, false, 0, 0, 0, 0, 0, []), (14, .bipush 21, 2, false, 0, 0, 0, 0, 0, []), (16, .if_icmp .ne 16, 3, false, 16, 0, 0, 0, 0, []), (19, .aload_n 0, 1, false, 0, 0, 0, 0, 0, []), (20, .dup, 1, false, 0, 0, 0, 0, 0, []), (21, .getfield 130, 3, false, 0, 9, 0, 0, 0, []), (24, .iconst 1, 1, false, 0, 0, 0, 0, 0, []), (25, .isub, 1, false, 0, 0, 0, 0, 0, []), (26, .putfield 130, 3, false, 0, 9, 0, 0, 0, []), (29, .goto 8, 3, false, 19, 0, 0, 0, 0, []), (32, .aload_n 0, 1, false, 0, 0, 0, 0, 0, []), (33, .iload_n 1, 1, false, 0, 0, 0, 0, 0, []), (34, .invokevirtual 165, 3, false, 30, 2, 0, 0, 0, []), (37, .return_, 1, false, 0, 0, 0, 0, 0, [])]
noncomputable def mdX5_goesOn : mm_M := (yX5_goesOn, cX5_goesOn, 2, none, 5, 0, tbX5_goesOn)
set_option maxRecDepth 20000 in
noncomputable def tbX5_looks : List mm_E := [(0, .aload_n 0, 1, false, 0, 0, 0, 0, 0, []), (1, .iconst 0, 1, false, 0, 0, 0, 0, 0, []), (2, .putfield 130, 3, false, 0, 9, 0, 0, 0, []), (5, .aload_n 0, 1, false, 0, 0, 0, 0, 0, []), (6, .getfield 29, 3, false, 0, 10, 9, 0, 0, []), (9, .iconst 0, 1, false, 0, 0, 0, 0, 0, []), (10, .bipush (-9), 2, false, 0, 0, 0, 0, 0, []), (12, .iastore, 1, false, 0, 0, 0, 0, 0, []), (13, .aload_n 0, 1, false, 0, 0, 0, 0, 0, []), (14, .bipush (-9), 2, false, 0, 0, 0, 0, 0, []), (16, .putfield 169, 3, false, 0, 13, 0, 0, 0, []), (19, .aload_n 0, 1, false, 0, 0, 0, 0, 0, []), (20, .bipush (-9), 2, false, 0, 0, 0, 0, 0, []), (22, .putfield 172, 3, false, 0, 14, 0, 0, 0, []), (25, .aload_n 0, 1, false, 0, 0, 0, 0, 0, []), (26, .iconst 0, 1, false, 0, 0, 0, 0, 0, []), (27, .putfield 156, 3, false, 0, 15, 0, 0, 0, []), (30, .aload_n 0, 1, false, 0, 0, 0, 0, 0, []), (31, .iconst 0, 1, false, 0, 0, 0, 0, 0, []), (32, .putfield 159, 3, false, 0, 16, 0, 0, 0, []), (35, .aload_n 0, 1, false, 0, 0, 0, 0, 0, []), (36, .iconst 0, 1, false, 0, 0, 0, 0, 0, []), (37, .putfield 153, 3, false, 0, 17, 0, 0, 0, []), (40, .aload_n 0, 1, false, 0, 0, 0, 0, 0, []), (41, .iconst 0, 1, false, 0, 0, 0, 0, 0, []), (42, .putfield 136, 3, false, 0, 18, 0, 0, 0, []), (45, .aload_n 0, 1, false, 0, 0, 0, 0, 0, []), (46, .iconst 0, 1, false, 0, 0, 0, 0, 0, []), (47, .putfield 139, 3, false, 0, 19, 0, 0, 0, []), (50, .aload_n 0, 1, false, 0, 0, 0, 0, 0, []), (51, .lconst 0, 1, false, 0, 0, 0, 0, 0, []), (52, .putfield 149, 3, false, 0, 20, 1, 0, 0, []), (55, .iconst 0, 1, false, 0, 0, 0, 0, 0, []), (56, .istore_n 3, 1, false, 0, 0, 0, 0, 0, []), (57, .iload_n 3, 1, true, 0, 0, 0, 0, 0, []), (58, .iload_n 2, 1, false, 0, 0, 0, 0, 0, []), (59, .if_icmp .ge 53, 3, false, 63, 0, 0, 0, 0, []), (62, .aload_n 0, 1, false, 0, 0, 0, 0, 0, []), (63, .getfield 169, 3, false, 0, 13, 0, 0, 0, []), (66, .bipush (-9), 2, false, 0, 0, 0, 0, 0, []), (68, .if_icmp .ne 44, 3, false, 63, 0, 0, 0, 0, []), (71, .aload_n 0, 1, false, 0, 0, 0, 0, 0, []), (72, .aload_n 1, 1, false, 0, 0, 0, 0, 0, []), (73, .iload_n 3, 1, false, 0, 0, 0, 0, 0, []), (74, .iaload, 1, false, 0, 0, 0, 0, 0, []), (75, .invokevirtual 175, 3, false, 29, 2, 1, 0, 0, []), (78, .istore 4, 2, false, 0, 0, 0, 0, 0, []), (80, .iload 4, 2, false, 0, 0, 0, 0, 0, []), (82, .ifCond .ne 13, 3, false, 55, 0, 0, 0, 0, []), (85, .aload_n 0, 1, false, 0, 0, 0, 0, 0, []), (86, .aload_n 1, 1, false, 0, 0, 0, 0, 0, []), (87, .iload_n 3, 1, false, 0, 0, 0, 0, 0, []), (88, .iaload, 1, false, 0, 0, 0, 0, 0, []), (89, .invokevirtual 178, 3, false, 32, 2, 0, 0, 0, []), (92, .goto 14, 3, false, 61, 0, 0, 0, 0, []), (95, .aload_n 0, 1, false, 0, 0, 0, 0, 0, []), (96, .iload_n 3, 1, false, 0, 0, 0, 0, 0, []), (97, .putfield 169, 3, false, 0, 13, 0, 0, 0, []), (100, .aload_n 0, 1, false, 0, 0, 0, 0, 0, []), (101, .iload 4, 2, false, 0, 0, 0, 0, 0, []), (103, .putfield 172, 3, false, 0, 14, 0, 0, 0, []), (106, .iinc 3 1, 3, false, 0, 0, 0, 0, 0, []), (109, .goto (-52), 3, false, 34, 0, 0, 0, 0, []), (112, .aload_n 0, 1, false, 0, 0, 0, 0, 0, []), (113, .getfield 169, 3, false, 0, 13, 0, 0, 0, []), (116, .bipush (-9), 2, false, 0, 0, 0, 0, 0, []), (118, .if_icmp .ne 21, 3, false, 76, 0, 0, 0, 0, []), (121, .aload_n 0, 1, false, 0, 0, 0, 0, 0, []), (122, .getfield 130, 3, false, 0, 9, 0, 0, 0, []), (125, .ifCond .le 14, 3, false, 76, 0, 0, 0, 0, []), (128, .aload_n 0, 1, false, 0, 0, 0, 0, 0, []), (129, .iload_n 2, 1, false, 0, 0, 0, 0, 0, []), (130, .putfield 169, 3, false, 0, 13, 0, 0, 0, []), (133, .aload_n 0, 1, false, 0, 0, 0, 0, 0, []), (134, .bipush 7, 2, false, 0, 0, 0, 0, 0, []), (136, .putfield 172, 3, false, 0, 14, 0, 0, 0, []), (139, .return_, 1, false, 0, 0, 0, 0, 0, [])]
noncomputable def mdX5_looks : mm_M := (yX5_looks, cX5_looks, 5, none, 5, 0, tbX5_looks)
set_option maxRecDepth 20000 in
noncomputable def tbX5_looksNow : List mm_E := [(0, .aload_n 0, 1, false, 0, 0, 0, 0, 0, []), (1, .dup, 1, false, 0, 0, 0, 0, 0, []), (2, .getfield 181, 3, false, 0, 8, 0, 0, 0, []), (5, .iconst 1, 1, false, 0, 0, 0, 0, 0, []), (6, .iadd, 1, false, 0, 0, 0, 0, 0, []), (7, .putfield 181, 3, false, 0, 8, 0, 0, 0, []), (10, .aload_n 0, 1, false, 0, 0, 0, 0, 0, []), (11, .aload_n 0, 1, false, 0, 0, 0, 0, 0, []), (12, .getfield 26, 3, false, 0, 7, 8, 0, 0, []), (15, .aload_n 0, 1, false, 0, 0, 0, 0, 0, []), (16, .getfield 127, 3, false, 0, 6, 0, 0, 0, []), (19, .invokevirtual 184, 3, false, 33, 3, 0, 0, 0, []), (22, .return_, 1, false, 0, 0, 0, 0, 0, [])]
noncomputable def mdX5_looksNow : mm_M := (yX5_looksNow, cX5_looksNow, 1, none, 5, 0, tbX5_looksNow)
set_option maxRecDepth 20000 in
noncomputable def tbX5_judge : List mm_E := [(0, .aload_n 0, 1, false, 0, 0, 0, 0, 0, []), (1, .invokevirtual 188, 3, false, 34, 1, 0, 0, 0, []), (4, .iload_n 1, 1, false, 0, 0, 0, 0, 0, []), (5, .tableswitch 69 0 5 #[39, 44, 49, 54, 59, 64], 39, false, 22, 0, 0, 0, 0, [4, 7, 10, 13, 16, 19]), (44, .aload_n 0, 1, false, 0, 0, 0, 0, 0, []), (45, .getfield 169, 3, false, 0, 13, 0, 0, 0, []), (48, .ireturn, 1, false, 0, 0, 0, 0, 0, []), (49, .aload_n 0, 1, false, 0, 0, 0, 0, 0, []), (50, .getfield 172, 3, false, 0, 14, 0, 0, 0, []), (53, .ireturn, 1, false, 0, 0, 0, 0, 0, []), (54, .aload_n 0, 1, false, 0, 0, 0, 0, 0, []), (55, .getfield 156, 3, false, 0, 15, 0, 0, 0, []), (58, .ireturn, 1, false, 0, 0, 0, 0, 0, []), (59, .aload_n 0, 1, false, 0, 0, 0, 0, 0, []), (60, .getfield 159, 3, false, 0, 16, 0, 0, 0, []), (63, .ireturn, 1, false, 0, 0, 0, 0, 0, []), (64, .aload_n 0, 1, false, 0, 0, 0, 0, 0, []), (65, .getfield 153, 3, false, 0, 17, 0, 0, 0, []), (68, .ireturn, 1, false, 0, 0, 0, 0, 0, []), (69, .aload_n 0, 1, false, 0, 0, 0, 0, 0, []), (70, .getfield 139, 3, false, 0, 19, 0, 0, 0, []), (73, .ireturn, 1, false, 0, 0, 0, 0, 0, []), (74, .bipush (-2), 2, false, 0, 0, 0, 0, 0, []), (76, .ireturn, 1, false, 0, 0, 0, 0, 0, [])]
noncomputable def mdX5_judge : mm_M := (yX5_judge, cX5_judge, 2, (some .int), 5, 1, tbX5_judge)
set_option maxRecDepth 20000 in
noncomputable def tbX5_jumpsOf : List mm_E := [(0, .lload_n 0, 1, false, 0, 0, 0, 0, 0, []), (1, .ldc2_w 69, 3, false, 0, 0, 0, 0, 2147483647, []), (4, .lcmp, 1, false, 0, 0, 0, 0, 0, []), (5, .ifCond .le 8, 3, false, 6, 0, 0, 0, 0, []), (8, .bipush (-5), 2, false, 0, 0, 0, 0, 0, []), (10, .goto 5, 3, false, 8, 0, 0, 0, 0, []), (13, .lload_n 0, 1, false, 0, 0, 0, 0, 0, []), (14, .l2i, 1, false, 0, 0, 0, 0, 0, []), (15, .ireturn, 1, false, 0, 0, 0, 0, 0, [])]
noncomputable def mdX5_jumpsOf : mm_M := (yX5_jumpsOf, cX5_jumpsOf, 2, (some .int), 5, 1, tbX5_jumpsOf)
set_option maxRecDepth 20000 in
noncomputable def tbX5_jumps : List mm_E := [(0, .aload_n 0, 1, false, 0, 0, 0, 0, 0, []), (1, .invokevirtual 188, 3, false, 34, 1, 0, 0, 0, []), (4, .aload_n 0, 1, false, 0, 0, 0, 0, 0, []), (5, .getfield 169, 3, false, 0, 13, 0, 0, 0, []), (8, .bipush (-9), 2, false, 0, 0, 0, 0, 0, []), (10, .if_icmp .eq 8, 3, false, 8, 0, 0, 0, 0, []), (13, .bipush (-3), 2, false, 0, 0, 0, 0, 0, []), (15, .goto 10, 3, false, 11, 0, 0, 0, 0, []), (18, .aload_n 0, 1, false, 0, 0, 0, 0, 0, []), (19, .getfield 149, 3, false, 0, 20, 1, 0, 0, []), (22, .invokestatic 191, 3, false, 36, 1, 1, 0, 0, []), (25, .ireturn, 1, false, 0, 0, 0, 0, 0, [])]
noncomputable def mdX5_jumps : mm_M := (yX5_jumps, cX5_jumps, 1, (some .int), 5, 1, tbX5_jumps)
set_option maxRecDepth 20000 in
noncomputable def tbX5_told : List mm_E := [(0, .aload_n 0, 1, false, 0, 0, 0, 0, 0, []), (1, .invokevirtual 188, 3, false, 34, 1, 0, 0, 0, []), (4, .aload_n 0, 1, false, 0, 0, 0, 0, 0, []), (5, .iload_n 1, 1, false, 0, 0, 0, 0, 0, []), (6, .invokevirtual 84, 3, false, 2, 2, 1, 0, 0, []), (9, .ifCond .ne 5, 3, false, 8, 0, 0, 0, 0, []), (12, .iconst (-1), 1, false, 0, 0, 0, 0, 0, []), (13, .ireturn, 1, false, 0, 0, 0, 0, 0, []), (14, .iload_n 2, 1, false, 0, 0, 0, 0, 0, []), (15, .iconst 0, 1, false, 0, 0, 0, 0, 0, []), (16, .iconst 3, 1, false, 0, 0, 0, 0, 0, []), (17, .invokestatic 76, 3, false, 0, 3, 1, 0, 0, []), (20, .ifCond .ne 6, 3, false, 15, 0, 0, 0, 0, []), (23, .bipush (-2), 2, false, 0, 0, 0, 0, 0, []), (25, .ireturn, 1, false, 0, 0, 0, 0, 0, []), (26, .aload_n 0, 1, false, 0, 0, 0, 0, 0, []), (27, .getfield 169, 3, false, 0, 13, 0, 0, 0, []), (30, .bipush (-9), 2, false, 0, 0, 0, 0, 0, []), (32, .if_icmp .eq 6, 3, false, 21, 0, 0, 0, 0, []), (35, .bipush (-3), 2, false, 0, 0, 0, 0, 0, []), (37, .ireturn, 1, false, 0, 0, 0, 0, 0, []), (38, .aload_n 0, 1, false, 0, 0, 0, 0, 0, []), (39, .getfield 136, 3, false, 0, 18, 0, 0, 0, []), (42, .iload_n 1, 1, false, 0, 0, 0, 0, 0, []), (43, .ishr, 1, false, 0, 0, 0, 0, 0, []), (44, .iconst 1, 1, false, 0, 0, 0, 0, 0, []), (45, .iand, 1, false, 0, 0, 0, 0, 0, []), (46, .ifCond .ne 6, 3, false, 30, 0, 0, 0, 0, []), (49, .bipush (-9), 2, false, 0, 0, 0, 0, 0, []), (51, .ireturn, 1, false, 0, 0, 0, 0, 0, []), (52, .iload_n 2, 1, false, 0, 0, 0, 0, 0, []), (53, .ifCond .ne 12, 3, false, 37, 0, 0, 0, 0, []), (56, .aload_n 0, 1, false, 0, 0, 0, 0, 0, []), (57, .getfield 38, 3, false, 0, 21, 12, 0, 0, []), (60, .iload_n 1, 1, false, 0, 0, 0, 0, 0, []), (61, .iaload, 1, false, 0, 0, 0, 0, 0, []), (62, .goto 37, 3, false, 57, 0, 0, 0, 0, []), (65, .iload_n 2, 1, false, 0, 0, 0, 0, 0, []), (66, .iconst 1, 1, false, 0, 0, 0, 0, 0, []), (67, .if_icmp .ne 12, 3, false, 45, 0, 0, 0, 0, []), (70, .aload_n 0, 1, false, 0, 0, 0, 0, 0, []), (71, .getfield 41, 3, false, 0, 22, 13, 0, 0, []), (74, .iload_n 1, 1, false, 0, 0, 0, 0, 0, []), (75, .iaload, 1, false, 0, 0, 0, 0, 0, []), (76, .goto 23, 3, false, 57, 0, 0, 0, 0, []), (79, .iload_n 2, 1, false, 0, 0, 0, 0, 0, []), (80, .iconst 2, 1, false, 0, 0, 0, 0, 0, []), (81, .if_icmp .ne 12, 3, false, 53, 0, 0, 0, 0, []), (84, .aload_n 0, 1, false, 0, 0, 0, 0, 0, []), (85, .getfield 44, 3, false, 0, 23, 14, 0, 0, []), (88, .iload_n 1, 1, false, 0, 0, 0, 0, 0, []), (89, .iaload, 1, false, 0, 0, 0, 0, 0, []), (90, .goto 9, 3, false, 57, 0, 0, 0, 0, []), (93, .aload_n 0, 1, false, 0, 0, 0, 0, 0, []), (94, .getfield 47, 3, false, 0, 24, 15, 0, 0, []), (97, .iload_n 1, 1, false, 0, 0, 0, 0, 0, []), (98, .iaload, 1, false, 0, 0, 0, 0, 0, []), (99, .ireturn, 1, false, 0, 0, 0, 0, 0, [])]
noncomputable def mdX5_told : mm_M := (yX5_told, cX5_told, 3, (some .int), 5, 1, tbX5_told)
set_option maxRecDepth 20000 in
noncomputable def tbX5_mayCome : List mm_E := [(0, .iconst 0, 1, false, 0, 0, 0, 0, 0, []), (1, .istore_n 3, 1, false, 0, 0, 0, 0, 0, []), (2, .iconst 0, 1, false, 0, 0, 0, 0, 0, []), (3, .istore 4, 2, false, 0, 0, 0, 0, 0, []), (5, .iload 4, 2, true, 0, 0, 0, 0, 0, []), (7, .aload_n 0, 1, false, 0, 0, 0, 0, 0, []), (8, .getfield 73, 3, false, 0, 0, 0, 0, 0, []), (11, .if_icmp .ge 33, 3, false, 26, 0, 0, 0, 0, []), (14, .iload_n 3, 1, false, 0, 0, 0, 0, 0, []), (15, .iload_n 2, 1, false, 0, 0, 0, 0, 0, []), (16, .iload 4, 2, false, 0, 0, 0, 0, 0, []), (18, .ishr, 1, false, 0, 0, 0, 0, 0, []), (19, .iconst 1, 1, false, 0, 0, 0, 0, 0, []), (20, .iand, 1, false, 0, 0, 0, 0, 0, []), (21, .iconst 1, 1, false, 0, 0, 0, 0, 0, []), (22, .if_icmp .ne 13, 3, false, 21, 0, 0, 0, 0, []), (25, .aload_n 0, 1, false, 0, 0, 0, 0, 0, []), (26, .getfield 16, 3, false, 0, 3, 6, 0, 0, []), (29, .iload 4, 2, false, 0, 0, 0, 0, 0, []), (31, .iaload, 1, false, 0, 0, 0, 0, 0, []), (32, .goto 4, 3, false, 22, 0, 0, 0, 0, []), (35, .iconst 0, 1, false, 0, 0, 0, 0, 0, []), (36, .ior, 1, false, 0, 0, 0, 0, 0, []), (37, .istore_n 3, 1, false, 0, 0, 0, 0, 0, []), (38, .iinc 4 1, 3, false, 0, 0, 0, 0, 0, []), (41, .goto (-36), 3, false, 4, 0, 0, 0, 0, []), (44, .iload_n 2, 1, false, 0, 0, 0, 0, 0, []), (45, .iload_n 1, 1, false, 0, 0, 0, 0, 0, []), (46, .ishr, 1, false, 0, 0, 0, 0, 0, []), (47, .iconst 1, 1, false, 0, 0, 0, 0, 0, []), (48, .iand, 1, false, 0, 0, 0, 0, 0, []), (49, .ifCond .ne 20, 3, false, 43, 0, 0, 0, 0, []), (52, .aload_n 0, 1, false, 0, 0, 0, 0, 0, []), (53, .getfield 19, 3, false, 0, 4, 7, 0, 0, []), (56, .iload_n 1, 1, false, 0, 0, 0, 0, 0, []), (57, .iaload, 1, false, 0, 0, 0, 0, 0, []), (58, .iload_n 3, 1, false, 0, 0, 0, 0, 0, []), (59, .iconst (-1), 1, false, 0, 0, 0, 0, 0, []), (60, .ixor, 1, false, 0, 0, 0, 0, 0, []), (61, .iand, 1, false, 0, 0, 0, 0, 0, []), (62, .ifCond .ne 7, 3, false, 43, 0, 0, 0, 0, []), (65, .iconst 1, 1, false, 0, 0, 0, 0, 0, []), (66, .goto 4, 3, false, 44, 0, 0, 0, 0, []), (69, .iconst 0, 1, false, 0, 0, 0, 0, 0, []), (70, .ireturn, 1, false, 0, 0, 1, 0, 0, [])]
noncomputable def mdX5_mayCome : mm_M := (yX5_mayCome, cX5_mayCome, 5, (some .boolean), 5, 1, tbX5_mayCome)
set_option maxRecDepth 20000 in
noncomputable def tbX5_byNext : List mm_E := [(0, .aload_n 0, 1, false, 0, 0, 0, 0, 0, []), (1, .getfield 50, 3, false, 0, 25, 16, 0, 0, []), (4, .bipush 8, 2, false, 0, 0, 0, 0, 0, []), (6, .iload_n 1, 1, false, 0, 0, 0, 0, 0, []), (7, .iconst 1, 1, false, 0, 0, 0, 0, 0, []), (8, .iload_n 3, 1, false, 0, 0, 0, 0, 0, []), (9, .ishl, 1, false, 0, 0, 0, 0, 0, []), (10, .ior, 1, false, 0, 0, 0, 0, 0, []), (11, .imul, 1, false, 0, 0, 0, 0, 0, []), (12, .iload_n 3, 1, false, 0, 0, 0, 0, 0, []), (13, .iadd, 1, false, 0, 0, 0, 0, 0, []), (14, .laload, 1, false, 0, 0, 0, 0, 0, []), (15, .lstore 4, 2, false, 0, 0, 0, 0, 0, []), (17, .lload 4, 2, false, 0, 0, 0, 0, 0, []), (19, .ldc2_w 195, 3, false, 0, 0, 0, 0, 1000000000000, []), (22, .lcmp, 1, false, 0, 0, 0, 0, 0, []), (23, .ifCond .lt 9, 3, false, 19, 0, 0, 0, 0, []), (26, .ldc2_w 195, 3, false, 0, 0, 0, 0, 1000000000000, []), (29, .goto 12, 3, false, 25, 0, 0, 0, 0, []), (32, .aload_n 0, 1, false, 0, 0, 0, 0, 0, []), (33, .iload_n 2, 1, false, 0, 0, 0, 0, 0, []), (34, .iload_n 3, 1, false, 0, 0, 0, 0, 0, []), (35, .invokevirtual 106, 3, false, 16, 3, 2, 0, 0, []), (38, .lload 4, 2, false, 0, 0, 0, 0, 0, []), (40, .ladd, 1, false, 0, 0, 0, 0, 0, []), (41, .lreturn, 1, false, 0, 0, 0, 0, 0, [])]
noncomputable def mdX5_byNext : mm_M := (yX5_byNext, cX5_byNext, 6, (some .long), 5, 2, tbX5_byNext)
set_option maxRecDepth 20000 in
noncomputable def tbX5_findRest : List mm_E := [(0, .iconst 1, 1, false, 0, 0, 0, 0, 0, []), (1, .aload_n 0, 1, false, 0, 0, 0, 0, 0, []), (2, .getfield 73, 3, false, 0, 0, 0, 0, 0, []), (5, .ishl, 1, false, 0, 0, 0, 0, 0, []), (6, .iconst 1, 1, false, 0, 0, 0, 0, 0, []), (7, .isub, 1, false, 0, 0, 0, 0, 0, []), (8, .istore_n 1, 1, false, 0, 0, 0, 0, 0, []), (9, .iload_n 1, 1, false, 0, 0, 0, 0, 0, []), (10, .istore_n 2, 1, false, 0, 0, 0, 0, 0, []), (11, .iload_n 2, 1, true, 0, 0, 0, 0, 0, []), (12, .ifCond .le 118, 3, false, 69, 0, 0, 0, 0, []), (15, .iconst 0, 1, false, 0, 0, 0, 0, 0, []), (16, .istore_n 3, 1, false, 0, 0, 0, 0, 0, []), (17, .iload_n 3, 1, true, 0, 0, 0, 0, 0, []), (18, .aload_n 0, 1, false, 0, 0, 0, 0, 0, []), (19, .getfield 73, 3, false, 0, 0, 0, 0, 0, []), (22, .if_icmp .ge 102, 3, false, 67, 0, 0, 0, 0, []), (25, .iload_n 2, 1, false, 0, 0, 0, 0, 0, []), (26, .iload_n 1, 1, false, 0, 0, 0, 0, 0, []), (27, .if_icmp .ne 7, 3, false, 22, 0, 0, 0, 0, []), (30, .lconst 0, 1, false, 0, 0, 0, 0, 0, []), (31, .goto 6, 3, false, 23, 0, 0, 0, 0, []), (34, .ldc2_w 195, 3, false, 0, 0, 0, 0, 1000000000000, []), (37, .lstore 4, 2, false, 0, 0, 0, 0, 0, []), (39, .iconst 0, 1, false, 0, 0, 0, 0, 0, []), (40, .istore 6, 2, false, 0, 0, 0, 0, 0, []), (42, .iload 6, 2, true, 0, 0, 0, 0, 0, []), (44, .aload_n 0, 1, false, 0, 0, 0, 0, 0, []), (45, .getfield 73, 3, false, 0, 0, 0, 0, 0, []), (48, .if_icmp .ge 57, 3, false, 56, 0, 0, 0, 0, []), (51, .iload_n 2, 1, false, 0, 0, 0, 0, 0, []), (52, .iload_n 1, 1, false, 0, 0, 0, 0, 0, []), (53, .if_icmp .eq 52, 3, false, 56, 0, 0, 0, 0, []), (56, .aload_n 0, 1, false, 0, 0, 0, 0, 0, []), (57, .iload 6, 2, false, 0, 0, 0, 0, 0, []), (59, .iload_n 2, 1, false, 0, 0, 0, 0, 0, []), (60, .invokevirtual 197, 3, false, 39, 3, 1, 0, 0, []), (63, .ifCond .eq 14, 3, false, 44, 0, 0, 0, 0, []), (66, .aload_n 0, 1, false, 0, 0, 0, 0, 0, []), (67, .iload_n 2, 1, false, 0, 0, 0, 0, 0, []), (68, .iload_n 3, 1, false, 0, 0, 0, 0, 0, []), (69, .iload 6, 2, false, 0, 0, 0, 0, 0, []), (71, .invokevirtual 200, 3, false, 40, 4, 2, 0, 0, []), (74, .goto 6, 3, false, 45, 0, 0, 0, 0, []), (77, .ldc2_w 195, 3, false, 0, 0, 0, 0, 1000000000000, []), (80, .lstore 7, 2, false, 0, 0, 0, 0, 0, []), (82, .lload 7, 2, false, 0, 0, 0, 0, 0, []), (84, .lload 4, 2, false, 0, 0, 0, 0, 0, []), (86, .lcmp, 1, false, 0, 0, 0, 0, 0, []), (87, .ifCond .ge 8, 3, false, 52, 0, 0, 0, 0, []), (90, .lload 7, 2, false, 0, 0, 0, 0, 0, []), (92, .goto 5, 3, false, 53, 0, 0, 0, 0, []), (95, .lload 4, 2, false, 0, 0, 0, 0, 0, []), (97, .lstore 4, 2, false, 0, 0, 0, 0, 0, []), (99, .iinc 6 1, 3, false, 0, 0, 0, 0, 0, []), (102, .goto (-60), 3, false, 26, 0, 0, 0, 0, []), (105, .aload_n 0, 1, false, 0, 0, 0, 0, 0, []), (106, .getfield 50, 3, false, 0, 25, 16, 0, 0, []), (109, .bipush 8, 2, false, 0, 0, 0, 0, 0, []), (111, .iload_n 2, 1, false, 0, 0, 0, 0, 0, []), (112, .imul, 1, false, 0, 0, 0, 0, 0, []), (113, .iload_n 3, 1, false, 0, 0, 0, 0, 0, []), (114, .iadd, 1, false, 0, 0, 0, 0, 0, []), (115, .lload 4, 2, false, 0, 0, 0, 0, 0, []), (117, .lastore, 1, false, 0, 0, 0, 0, 0, []), (118, .iinc 3 1, 3, false, 0, 0, 0, 0, 0, []), (121, .goto (-104), 3, false, 13, 0, 0, 0, 0, []), (124, .iinc 2 (-1), 3, false, 0, 0, 0, 0, 0, []), (127, .goto (-116), 3, false, 9, 0, 0, 0, 0, []), (130, .return_, 1, false, 0, 0, 0, 0, 0, [])]
noncomputable def mdX5_findRest : mm_M := (yX5_findRest, cX5_findRest, 9, none, 5, 0, tbX5_findRest)
set_option maxRecDepth 20000 in
noncomputable def tbX5_findOrder : List mm_E := [(0, .aload_n 0, 1, false, 0, 0, 0, 0, 0, []), (1, .invokevirtual 204, 3, false, 41, 1, 0, 0, 0, []), (4, .ldc2_w 195, 3, false, 0, 0, 0, 0, 1000000000000, []), (7, .lstore_n 1, 1, false, 0, 0, 0, 0, 0, []), (8, .aload_n 0, 1, false, 0, 0, 0, 0, 0, []), (9, .getfield 73, 3, false, 0, 0, 0, 0, 0, []), (12, .iconst 1, 1, false, 0, 0, 0, 0, 0, []), (13, .isub, 1, false, 0, 0, 0, 0, 0, []), (14, .istore_n 3, 1, false, 0, 0, 0, 0, 0, []), (15, .iload_n 3, 1, true, 0, 0, 0, 0, 0, []), (16, .ifCond .lt 76, 3, false, 53, 0, 0, 0, 0, []), (19, .aload_n 0, 1, false, 0, 0, 0, 0, 0, []), (20, .getfield 19, 3, false, 0, 4, 7, 0, 0, []), (23, .iload_n 3, 1, false, 0, 0, 0, 0, 0, []), (24, .iaload, 1, false, 0, 0, 0, 0, 0, []), (25, .ifCond .ne 19, 3, false, 27, 0, 0, 0, 0, []), (28, .aload_n 0, 1, false, 0, 0, 0, 0, 0, []), (29, .getfield 50, 3, false, 0, 25, 16, 0, 0, []), (32, .bipush 8, 2, false, 0, 0, 0, 0, 0, []), (34, .iconst 1, 1, false, 0, 0, 0, 0, 0, []), (35, .iload_n 3, 1, false, 0, 0, 0, 0, 0, []), (36, .ishl, 1, false, 0, 0, 0, 0, 0, []), (37, .imul, 1, false, 0, 0, 0, 0, 0, []), (38, .iload_n 3, 1, false, 0, 0, 0, 0, 0, []), (39, .iadd, 1, false, 0, 0, 0, 0, 0, []), (40, .laload, 1, false, 0, 0, 0, 0, 0, []), (41, .goto 6, 3, false, 28, 0, 0, 0, 0, []), (44, .ldc2_w 195, 3, false, 0, 0, 0, 0, 1000000000000, []), (47, .lstore 4, 2, false, 0, 0, 0, 0, 0, []), (49, .aload_n 0, 1, false, 0, 0, 0, 0, 0, []), (50, .getfield 54, 3, false, 0, 26, 17, 0, 0, []), (53, .iconst 0, 1, false, 0, 0, 0, 0, 0, []), (54, .lload 4, 2, false, 0, 0, 0, 0, 0, []), (56, .lload_n 1, 1, false, 0, 0, 0, 0, 0, []), (57, .lcmp, 1, false, 0, 0, 0, 0, 0, []), (58, .ifCond .gt 7, 3, false, 38, 0, 0, 0, 0, []), (61, .iload_n 3, 1, false, 0, 0, 0, 0, 0, []), (62, .goto 9, 3, false, 42, 0, 0, 0, 0, []), (65, .aload_n 0, 1, false, 0, 0, 0, 0, 0, []), (66, .getfield 54, 3, false, 0, 26, 17, 0, 0, []), (69, .iconst 0, 1, false, 0, 0, 0, 0, 0, []), (70, .iaload, 1, false, 0, 0, 0, 0, 0, []), (71, .iastore, 1, false, 0, 0, 0, 0, 0, []), (72, .lload 4, 2, false, 0, 0, 0, 0, 0, []), (74, .lload_n 1, 1, false, 0, 0, 0, 0, 0, []), (75, .lcmp, 1, false, 0, 0, 0, 0, 0, []), (76, .ifCond .ge 8, 3, false, 49, 0, 0, 0, 0, []), (79, .lload 4, 2, false, 0, 0, 0, 0, 0, []), (81, .goto 4, 3, false, 50, 0, 0, 0, 0, []), (84, .lload_n 1, 1, false, 0, 0, 0, 0, 0, []), (85, .lstore_n 1, 1, false, 0, 0, 0, 0, 0, []), (86, .iinc 3 (-1), 3, false, 0, 0, 0, 0, 0, []), (89, .goto (-74), 3, false, 9, 0, 0, 0, 0, []), (92, .iconst 1, 1, false, 0, 0, 0, 0, 0, []), (93, .aload_n 0, 1, false, 0, 0, 0, 0, 0, []), (94, .getfield 54, 3, false, 0, 26, 17, 0, 0, []), (97, .iconst 0, 1, false, 0, 0, 0, 0, 0, []), (98, .iaload, 1, false, 0, 0, 0, 0, 0, []), (99, .ishl, 1, false, 0, 0, 0, 0, 0, []), (100, .istore_n 3, 1, false, 0, 0, 0, 0, 0, []), (101, .iconst 1, 1, false, 0, 0, 0, 0, 0, []), (102, .istore 4, 2, false, 0, 0, 0, 0, 0, []), (104, .iload 4, 2, true, 0, 0, 0, 0, 0, []), (106, .aload_n 0, 1, false, 0, 0, 0, 0, 0, []), (107, .getfield 73, 3, false, 0, 0, 0, 0, 0, []), (110, .if_icmp .ge 88, 3, false, 114, 0, 0, 0, 0, []), (113, .lload_n 1, 1, false, 0, 0, 0, 0, 0, []), (114, .ldc2_w 195, 3, false, 0, 0, 0, 0, 1000000000000, []), (117, .lcmp, 1, false, 0, 0, 0, 0, 0, []), (118, .ifCond .ge 80, 3, false, 114, 0, 0, 0, 0, []), (121, .aload_n 0, 1, false, 0, 0, 0, 0, 0, []), (122, .getfield 54, 3, false, 0, 26, 17, 0, 0, []), (125, .iload 4, 2, false, 0, 0, 0, 0, 0, []), (127, .iconst 1, 1, false, 0, 0, 0, 0, 0, []), (128, .isub, 1, false, 0, 0, 0, 0, 0, []), (129, .iaload, 1, false, 0, 0, 0, 0, 0, []), (130, .istore 5, 2, false, 0, 0, 0, 0, 0, []), (132, .iconst 0, 1, false, 0, 0, 0, 0, 0, []), (133, .istore 6, 2, false, 0, 0, 0, 0, 0, []), (135, .aload_n 0, 1, true, 0, 0, 0, 0, 0, []), (136, .iload 6, 2, false, 0, 0, 0, 0, 0, []), (138, .iload_n 3, 1, false, 0, 0, 0, 0, 0, []), (139, .invokevirtual 197, 3, false, 39, 3, 1, 0, 0, []), (142, .ifCond .eq 28, 3, false, 99, 0, 0, 0, 0, []), (145, .aload_n 0, 1, false, 0, 0, 0, 0, 0, []), (146, .iload_n 3, 1, false, 0, 0, 0, 0, 0, []), (147, .iload 5, 2, false, 0, 0, 0, 0, 0, []), (149, .iload 6, 2, false, 0, 0, 0, 0, 0, []), (151, .invokevirtual 200, 3, false, 40, 4, 2, 0, 0, []), (154, .aload_n 0, 1, false, 0, 0, 0, 0, 0, []), (155, .getfield 50, 3, false, 0, 25, 16, 0, 0, []), (158, .bipush 8, 2, false, 0, 0, 0, 0, 0, []), (160, .iload_n 3, 1, false, 0, 0, 0, 0, 0, []), (161, .imul, 1, false, 0, 0, 0, 0, 0, []), (162, .iload 5, 2, false, 0, 0, 0, 0, 0, []), (164, .iadd, 1, false, 0, 0, 0, 0, 0, []), (165, .laload, 1, false, 0, 0, 0, 0, 0, []), (166, .lcmp, 1, false, 0, 0, 0, 0, 0, []), (167, .ifCond .eq 9, 3, false, 101, 0, 0, 0, 0, []), (170, .iinc 6 1, 3, false, 0, 0, 0, 0, 0, []), (173, .goto (-38), 3, false, 79, 0, 0, 0, 0, []), (176, .aload_n 0, 1, false, 0, 0, 0, 0, 0, []), (177, .getfield 54, 3, false, 0, 26, 17, 0, 0, []), (180, .iload 4, 2, false, 0, 0, 0, 0, 0, []), (182, .iload 6, 2, false, 0, 0, 0, 0, 0, []), (184, .iastore, 1, false, 0, 0, 0, 0, 0, []), (185, .iload_n 3, 1, false, 0, 0, 0, 0, 0, []), (186, .iconst 1, 1, false, 0, 0, 0, 0, 0, []), (187, .iload 6, 2, false, 0, 0, 0, 0, 0, []), (189, .ishl, 1, false, 0, 0, 0, 0, 0, []), (190, .ior, 1, false, 0, 0, 0, 0, 0, []), (191, .istore_n 3, 1, false, 0, 0, 0, 0, 0, []), (192, .iinc 4 1, 3, false, 0, 0, 0, 0, 0, []), (195, .goto (-91), 3, false, 62, 0, 0, 0, 0, []), (198, .lload_n 1, 1, false, 0, 0, 0, 0, 0, []), (199, .lreturn, 1, false, 0, 0, 0, 0, 0, [])]
noncomputable def mdX5_findOrder : mm_M := (yX5_findOrder, cX5_findOrder, 7, (some .long), 5, 2, tbX5_findOrder)
set_option maxRecDepth 20000 in
noncomputable def tbX5_order : List mm_E := [(0, .iload_n 1, 1, false, 0, 0, 0, 0, 0, []), (1, .iconst (-1), 1, false, 0, 0, 0, 0, 0, []), (2, .bipush 7, 2, false, 0, 0, 0, 0, 0, []), (4, .invokestatic 76, 3, false, 0, 3, 1, 0, 0, []), (7, .ifCond .ne 6, 3, false, 7, 0, 0, 0, 0, []), (10, .bipush (-2), 2, false, 0, 0, 0, 0, 0, []), (12, .ireturn, 1, false, 0, 0, 0, 0, 0, []), (13, .aload_n 0, 1, false, 0, 0, 0, 0, 0, []), (14, .getfield 73, 3, false, 0, 0, 0, 0, 0, []), (17, .ifCond .ne 6, 3, false, 12, 0, 0, 0, 0, []), (20, .bipush (-9), 2, false, 0, 0, 0, 0, 0, []), (22, .ireturn, 1, false, 0, 0, 0, 0, 0, []), (23, .aload_n 0, 1, false, 0, 0, 0, 0, 0, []), (24, .invokevirtual 207, 3, false, 42, 1, 2, 0, 0, []), (27, .lstore_n 2, 1, false, 0, 0, 0, 0, 0, []), (28, .lload_n 2, 1, false, 0, 0, 0, 0, 0, []), (29, .ldc2_w 195, 3, false, 0, 0, 0, 0, 1000000000000, []), (32, .lcmp, 1, false, 0, 0, 0, 0, 0, []), (33, .ifCond .lt 6, 3, false, 21, 0, 0, 0, 0, []), (36, .bipush (-9), 2, false, 0, 0, 0, 0, 0, []), (38, .ireturn, 1, false, 0, 0, 0, 0, 0, []), (39, .iload_n 1, 1, false, 0, 0, 0, 0, 0, []), (40, .ifCond .ge 10, 3, false, 26, 0, 0, 0, 0, []), (43, .lload_n 2, 1, false, 0, 0, 0, 0, 0, []), (44, .invokestatic 191, 3, false, 36, 1, 1, 0, 0, []), (47, .goto 22, 3, false, 36, 0, 0, 0, 0, []), (50, .iload_n 1, 1, false, 0, 0, 0, 0, 0, []), (51, .aload_n 0, 1, false, 0, 0, 0, 0, 0, []), (52, .getfield 73, 3, false, 0, 0, 0, 0, 0, []), (55, .if_icmp .ge 12, 3, false, 35, 0, 0, 0, 0, []), (58, .aload_n 0, 1, false, 0, 0, 0, 0, 0, []), (59, .getfield 54, 3, false, 0, 26, 17, 0, 0, []), (62, .iload_n 1, 1, false, 0, 0, 0, 0, 0, []), (63, .iaload, 1, false, 0, 0, 0, 0, 0, []), (64, .goto 5, 3, false, 36, 0, 0, 0, 0, []), (67, .bipush (-9), 2, false, 0, 0, 0, 0, 0, []), (69, .ireturn, 1, false, 0, 0, 0, 0, 0, [])]
noncomputable def mdX5_order : mm_M := (yX5_order, cX5_order, 4, (some .int), 5, 1, tbX5_order)
set_option maxRecDepth 20000 in
noncomputable def tbX5_findRow : List mm_E := [(0, .aload_n 0, 1, false, 0, 0, 0, 0, 0, []), (1, .iconst 0, 1, false, 0, 0, 0, 0, 0, []), (2, .putfield 210, 3, false, 0, 27, 0, 0, 0, []), (5, .iconst 0, 1, false, 0, 0, 0, 0, 0, []), (6, .istore_n 1, 1, false, 0, 0, 0, 0, 0, []), (7, .iload_n 1, 1, true, 0, 0, 0, 0, 0, []), (8, .aload_n 0, 1, false, 0, 0, 0, 0, 0, []), (9, .getfield 127, 3, false, 0, 6, 0, 0, 0, []), (12, .if_icmp .ge 45, 3, false, 32, 0, 0, 0, 0, []), (15, .aload_n 0, 1, false, 0, 0, 0, 0, 0, []), (16, .getfield 26, 3, false, 0, 7, 8, 0, 0, []), (19, .iload_n 1, 1, false, 0, 0, 0, 0, 0, []), (20, .iaload, 1, false, 0, 0, 0, 0, 0, []), (21, .bipush 8, 2, false, 0, 0, 0, 0, 0, []), (23, .if_icmp .ge 28, 3, false, 30, 0, 0, 0, 0, []), (26, .aload_n 0, 1, false, 0, 0, 0, 0, 0, []), (27, .getfield 57, 3, false, 0, 28, 18, 0, 0, []), (30, .aload_n 0, 1, false, 0, 0, 0, 0, 0, []), (31, .getfield 210, 3, false, 0, 27, 0, 0, 0, []), (34, .aload_n 0, 1, false, 0, 0, 0, 0, 0, []), (35, .getfield 26, 3, false, 0, 7, 8, 0, 0, []), (38, .iload_n 1, 1, false, 0, 0, 0, 0, 0, []), (39, .iaload, 1, false, 0, 0, 0, 0, 0, []), (40, .iastore, 1, false, 0, 0, 0, 0, 0, []), (41, .aload_n 0, 1, false, 0, 0, 0, 0, 0, []), (42, .dup, 1, false, 0, 0, 0, 0, 0, []), (43, .getfield 210, 3, false, 0, 27, 0, 0, 0, []), (46, .iconst 1, 1, false, 0, 0, 0, 0, 0, []), (47, .iadd, 1, false, 0, 0, 0, 0, 0, []), (48, .putfield 210, 3, false, 0, 27, 0, 0, 0, []), (51, .iinc 1 1, 3, false, 0, 0, 0, 0, 0, []), (54, .goto (-47), 3, false, 5, 0, 0, 0, 0, []), (57, .return_, 1, false, 0, 0, 0, 0, 0, [])]
noncomputable def mdX5_findRow : mm_M := (yX5_findRow, cX5_findRow, 2, none, 5, 0, tbX5_findRow)
set_option maxRecDepth 20000 in
noncomputable def tbX5_puts : List mm_E := [(0, .aload_n 0, 1, false, 0, 0, 0, 0, 0, []), (1, .getfield 63, 3, false, 0, 30, 20, 0, 0, []), (4, .aload_n 0, 1, false, 0, 0, 0, 0, 0, []), (5, .getfield 213, 3, false, 0, 31, 0, 0, 0, []), (8, .iload_n 1, 1, false, 0, 0, 0, 0, 0, []), (9, .iastore, 1, false, 0, 0, 0, 0, 0, []), (10, .aload_n 0, 1, false, 0, 0, 0, 0, 0, []), (11, .dup, 1, false, 0, 0, 0, 0, 0, []), (12, .getfield 213, 3, false, 0, 31, 0, 0, 0, []), (15, .iconst 1, 1, false, 0, 0, 0, 0, 0, []), (16, .iadd, 1, false, 0, 0, 0, 0, 0, []), (17, .putfield 213, 3, false, 0, 31, 0, 0, 0, []), (20, .return_, 1, false, 0, 0, 0, 0, 0, [])]
noncomputable def mdX5_puts : mm_M := (yX5_puts, cX5_puts, 2, none, 5, 0, tbX5_puts)
set_option maxRecDepth 20000 in
noncomputable def tbX5_makes : List mm_E := [(0, .aload_n 0, 1, false, 0, 0, 0, 0, 0, []), (1, .iconst 0, 1, false, 0, 0, 0, 0, 0, []), (2, .putfield 213, 3, false, 0, 31, 0, 0, 0, []), (5, .iconst 0, 1, false, 0, 0, 0, 0, 0, []), (6, .istore_n 1, 1, false, 0, 0, 0, 0, 0, []), (7, .iconst 0, 1, false, 0, 0, 0, 0, 0, []), (8, .istore_n 2, 1, false, 0, 0, 0, 0, 0, []), (9, .iload_n 2, 1, true, 0, 0, 0, 0, 0, []), (10, .aload_n 0, 1, false, 0, 0, 0, 0, 0, []), (11, .getfield 210, 3, false, 0, 27, 0, 0, 0, []), (14, .if_icmp .ge 82, 3, false, 60, 0, 0, 0, 0, []), (17, .iload_n 2, 1, false, 0, 0, 0, 0, 0, []), (18, .ifCond .ne 7, 3, false, 15, 0, 0, 0, 0, []), (21, .iconst 0, 1, false, 0, 0, 0, 0, 0, []), (22, .goto 11, 3, false, 21, 0, 0, 0, 0, []), (25, .aload_n 0, 1, false, 0, 0, 0, 0, 0, []), (26, .getfield 60, 3, false, 0, 29, 19, 0, 0, []), (29, .iload_n 2, 1, false, 0, 0, 0, 0, 0, []), (30, .iconst 1, 1, false, 0, 0, 0, 0, 0, []), (31, .isub, 1, false, 0, 0, 0, 0, 0, []), (32, .iaload, 1, false, 0, 0, 0, 0, 0, []), (33, .istore_n 3, 1, false, 0, 0, 0, 0, 0, []), (34, .iconst 0, 1, false, 0, 0, 0, 0, 0, []), (35, .istore 4, 2, false, 0, 0, 0, 0, 0, []), (37, .iload 4, 2, true, 0, 0, 0, 0, 0, []), (39, .iload_n 3, 1, false, 0, 0, 0, 0, 0, []), (40, .iconst 2, 1, false, 0, 0, 0, 0, 0, []), (41, .idiv, 1, false, 0, 0, 0, 0, 0, []), (42, .if_icmp .ge 15, 3, false, 34, 0, 0, 0, 0, []), (45, .aload_n 0, 1, false, 0, 0, 0, 0, 0, []), (46, .bipush 21, 2, false, 0, 0, 0, 0, 0, []), (48, .invokevirtual 216, 3, false, 45, 2, 0, 0, 0, []), (51, .iinc 4 1, 3, false, 0, 0, 0, 0, 0, []), (54, .goto (-17), 3, false, 24, 0, 0, 0, 0, []), (57, .iload_n 3, 1, false, 0, 0, 0, 0, 0, []), (58, .iconst 2, 1, false, 0, 0, 0, 0, 0, []), (59, .irem, 1, false, 0, 0, 0, 0, 0, []), (60, .iconst 1, 1, false, 0, 0, 0, 0, 0, []), (61, .if_icmp .ne 9, 3, false, 42, 0, 0, 0, 0, []), (64, .aload_n 0, 1, false, 0, 0, 0, 0, 0, []), (65, .bipush 20, 2, false, 0, 0, 0, 0, 0, []), (67, .invokevirtual 216, 3, false, 45, 2, 0, 0, 0, []), (70, .iload_n 1, 1, false, 0, 0, 0, 0, 0, []), (71, .iload_n 3, 1, false, 0, 0, 0, 0, 0, []), (72, .iconst 2, 1, false, 0, 0, 0, 0, 0, []), (73, .irem, 1, false, 0, 0, 0, 0, 0, []), (74, .iload_n 3, 1, false, 0, 0, 0, 0, 0, []), (75, .iconst 2, 1, false, 0, 0, 0, 0, 0, []), (76, .idiv, 1, false, 0, 0, 0, 0, 0, []), (77, .isub, 1, false, 0, 0, 0, 0, 0, []), (78, .iadd, 1, false, 0, 0, 0, 0, 0, []), (79, .istore_n 1, 1, false, 0, 0, 0, 0, 0, []), (80, .aload_n 0, 1, false, 0, 0, 0, 0, 0, []), (81, .aload_n 0, 1, false, 0, 0, 0, 0, 0, []), (82, .getfield 57, 3, false, 0, 28, 18, 0, 0, []), (85, .iload_n 2, 1, false, 0, 0, 0, 0, 0, []), (86, .iaload, 1, false, 0, 0, 0, 0, 0, []), (87, .invokevirtual 216, 3, false, 45, 2, 0, 0, 0, []), (90, .iinc 2 1, 3, false, 0, 0, 0, 0, 0, []), (93, .goto (-84), 3, false, 7, 0, 0, 0, 0, []), (96, .iconst 0, 1, false, 0, 0, 0, 0, 0, []), (97, .istore_n 2, 1, false, 0, 0, 0, 0, 0, []), (98, .iload_n 2, 1, true, 0, 0, 0, 0, 0, []), (99, .iload_n 1, 1, false, 0, 0, 0, 0, 0, []), (100, .if_icmp .ge 15, 3, false, 70, 0, 0, 0, 0, []), (103, .aload_n 0, 1, false, 0, 0, 0, 0, 0, []), (104, .bipush 21, 2, false, 0, 0, 0, 0, 0, []), (106, .invokevirtual 216, 3, false, 45, 2, 0, 0, 0, []), (109, .iinc 2 1, 3, false, 0, 0, 0, 0, 0, []), (112, .goto (-14), 3, false, 62, 0, 0, 0, 0, []), (115, .return_, 1, false, 0, 0, 0, 0, 0, [])]
noncomputable def mdX5_makes : mm_M := (yX5_makes, cX5_makes, 5, none, 5, 0, tbX5_makes)
set_option maxRecDepth 20000 in
noncomputable def tbX5_depthAt : List mm_E := [(0, .iconst 0, 1, false, 0, 0, 0, 0, 0, []), (1, .istore_n 2, 1, false, 0, 0, 0, 0, 0, []), (2, .iconst 0, 1, false, 0, 0, 0, 0, 0, []), (3, .istore_n 3, 1, false, 0, 0, 0, 0, 0, []), (4, .iload_n 3, 1, true, 0, 0, 0, 0, 0, []), (5, .iload_n 1, 1, false, 0, 0, 0, 0, 0, []), (6, .if_icmp .ge 29, 3, false, 25, 0, 0, 0, 0, []), (9, .iload_n 2, 1, false, 0, 0, 0, 0, 0, []), (10, .aload_n 0, 1, false, 0, 0, 0, 0, 0, []), (11, .getfield 60, 3, false, 0, 29, 19, 0, 0, []), (14, .iload_n 3, 1, false, 0, 0, 0, 0, 0, []), (15, .iaload, 1, false, 0, 0, 0, 0, 0, []), (16, .iconst 2, 1, false, 0, 0, 0, 0, 0, []), (17, .irem, 1, false, 0, 0, 0, 0, 0, []), (18, .aload_n 0, 1, false, 0, 0, 0, 0, 0, []), (19, .getfield 60, 3, false, 0, 29, 19, 0, 0, []), (22, .iload_n 3, 1, false, 0, 0, 0, 0, 0, []), (23, .iaload, 1, false, 0, 0, 0, 0, 0, []), (24, .iconst 2, 1, false, 0, 0, 0, 0, 0, []), (25, .idiv, 1, false, 0, 0, 0, 0, 0, []), (26, .isub, 1, false, 0, 0, 0, 0, 0, []), (27, .iadd, 1, false, 0, 0, 0, 0, 0, []), (28, .istore_n 2, 1, false, 0, 0, 0, 0, 0, []), (29, .iinc 3 1, 3, false, 0, 0, 0, 0, 0, []), (32, .goto (-28), 3, false, 4, 0, 0, 0, 0, []), (35, .iload_n 2, 1, false, 0, 0, 0, 0, 0, []), (36, .ireturn, 1, false, 0, 0, 0, 0, 0, [])]
noncomputable def mdX5_depthAt : mm_M := (yX5_depthAt, cX5_depthAt, 4, (some .int), 5, 1, tbX5_depthAt)
set_option maxRecDepth 20000 in
noncomputable def tbX5_goesNext : List mm_E := [(0, .aload_n 0, 1, false, 0, 0, 0, 0, 0, []), (1, .getfield 210, 3, false, 0, 27, 0, 0, 0, []), (4, .iconst 2, 1, false, 0, 0, 0, 0, 0, []), (5, .isub, 1, false, 0, 0, 0, 0, 0, []), (6, .istore_n 1, 1, false, 0, 0, 0, 0, 0, []), (7, .iload_n 1, 1, true, 0, 0, 0, 0, 0, []), (8, .ifCond .lt 34, 3, false, 26, 0, 0, 0, 0, []), (11, .aload_n 0, 1, false, 0, 0, 0, 0, 0, []), (12, .getfield 60, 3, false, 0, 29, 19, 0, 0, []), (15, .iload_n 1, 1, false, 0, 0, 0, 0, 0, []), (16, .iaload, 1, false, 0, 0, 0, 0, 0, []), (17, .iconst 2, 1, false, 0, 0, 0, 0, 0, []), (18, .aload_n 0, 1, false, 0, 0, 0, 0, 0, []), (19, .iload_n 1, 1, false, 0, 0, 0, 0, 0, []), (20, .invokevirtual 219, 3, false, 47, 2, 1, 0, 0, []), (23, .imul, 1, false, 0, 0, 0, 0, 0, []), (24, .iconst 1, 1, false, 0, 0, 0, 0, 0, []), (25, .iadd, 1, false, 0, 0, 0, 0, 0, []), (26, .if_icmp .ne 16, 3, false, 26, 0, 0, 0, 0, []), (29, .aload_n 0, 1, false, 0, 0, 0, 0, 0, []), (30, .getfield 60, 3, false, 0, 29, 19, 0, 0, []), (33, .iload_n 1, 1, false, 0, 0, 0, 0, 0, []), (34, .iconst 0, 1, false, 0, 0, 0, 0, 0, []), (35, .iastore, 1, false, 0, 0, 0, 0, 0, []), (36, .iinc 1 (-1), 3, false, 0, 0, 0, 0, 0, []), (39, .goto (-32), 3, false, 5, 0, 0, 0, 0, []), (42, .iload_n 1, 1, false, 0, 0, 0, 0, 0, []), (43, .ifCond .ge 5, 3, false, 30, 0, 0, 0, 0, []), (46, .iconst 0, 1, false, 0, 0, 0, 0, 0, []), (47, .ireturn, 1, false, 0, 0, 1, 0, 0, []), (48, .aload_n 0, 1, false, 0, 0, 0, 0, 0, []), (49, .getfield 60, 3, false, 0, 29, 19, 0, 0, []), (52, .iload_n 1, 1, false, 0, 0, 0, 0, 0, []), (53, .dup2, 1, false, 0, 0, 0, 0, 0, []), (54, .iaload, 1, false, 0, 0, 0, 0, 0, []), (55, .iconst 1, 1, false, 0, 0, 0, 0, 0, []), (56, .iadd, 1, false, 0, 0, 0, 0, 0, []), (57, .iastore, 1, false, 0, 0, 0, 0, 0, []), (58, .iconst 1, 1, false, 0, 0, 0, 0, 0, []), (59, .ireturn, 1, false, 0, 0, 1, 0, 0, [])]
noncomputable def mdX5_goesNext : mm_M := (yX5_goesNext, cX5_goesNext, 2, (some .boolean), 5, 1, tbX5_goesNext)
set_option maxRecDepth 20000 in
noncomputable def tbX5_keeps : List mm_E := [(0, .aload_n 0, 1, false, 0, 0, 0, 0, 0, []), (1, .aload_n 0, 1, false, 0, 0, 0, 0, 0, []), (2, .getfield 213, 3, false, 0, 31, 0, 0, 0, []), (5, .putfield 222, 3, false, 0, 33, 0, 0, 0, []), (8, .iconst 0, 1, false, 0, 0, 0, 0, 0, []), (9, .istore_n 1, 1, false, 0, 0, 0, 0, 0, []), (10, .iload_n 1, 1, true, 0, 0, 0, 0, 0, []), (11, .aload_n 0, 1, false, 0, 0, 0, 0, 0, []), (12, .getfield 213, 3, false, 0, 31, 0, 0, 0, []), (15, .if_icmp .ge 21, 3, false, 20, 0, 0, 0, 0, []), (18, .aload_n 0, 1, false, 0, 0, 0, 0, 0, []), (19, .getfield 66, 3, false, 0, 32, 21, 0, 0, []), (22, .iload_n 1, 1, false, 0, 0, 0, 0, 0, []), (23, .aload_n 0, 1, false, 0, 0, 0, 0, 0, []), (24, .getfield 63, 3, false, 0, 30, 20, 0, 0, []), (27, .iload_n 1, 1, false, 0, 0, 0, 0, 0, []), (28, .iaload, 1, false, 0, 0, 0, 0, 0, []), (29, .iastore, 1, false, 0, 0, 0, 0, 0, []), (30, .iinc 1 1, 3, false, 0, 0, 0, 0, 0, []), (33, .goto (-23), 3, false, 6, 0, 0, 0, 0, []), (36, .return_, 1, false, 0, 0, 0, 0, 0, [])]
noncomputable def mdX5_keeps : mm_M := (yX5_keeps, cX5_keeps, 2, none, 5, 0, tbX5_keeps)
set_option maxRecDepth 20000 in
noncomputable def tbX5_findFramed : List mm_E := [(0, .iconst 0, 1, false, 0, 0, 0, 0, 0, []), (1, .istore_n 1, 1, false, 0, 0, 0, 0, 0, []), (2, .iload_n 1, 1, true, 0, 0, 0, 0, 0, []), (3, .bipush 8, 2, false, 0, 0, 0, 0, 0, []), (5, .if_icmp .ge 16, 3, false, 12, 0, 0, 0, 0, []), (8, .aload_n 0, 1, false, 0, 0, 0, 0, 0, []), (9, .getfield 60, 3, false, 0, 29, 19, 0, 0, []), (12, .iload_n 1, 1, false, 0, 0, 0, 0, 0, []), (13, .iconst 0, 1, false, 0, 0, 0, 0, 0, []), (14, .iastore, 1, false, 0, 0, 0, 0, 0, []), (15, .iinc 1 1, 3, false, 0, 0, 0, 0, 0, []), (18, .goto (-16), 3, false, 2, 0, 0, 0, 0, []), (21, .ldc2_w 195, 3, false, 0, 0, 0, 0, 1000000000000, []), (24, .lstore_n 1, 1, false, 0, 0, 0, 0, 0, []), (25, .iconst 0, 1, false, 0, 0, 0, 0, 0, []), (26, .istore_n 3, 1, false, 0, 0, 0, 0, 0, []), (27, .iconst 1, 1, false, 0, 0, 0, 0, 0, []), (28, .istore 4, 2, false, 0, 0, 0, 0, 0, []), (30, .iload 4, 2, true, 0, 0, 0, 0, 0, []), (32, .ifCond .eq 89, 3, false, 64, 0, 0, 0, 0, []), (35, .aload_n 0, 1, false, 0, 0, 0, 0, 0, []), (36, .invokevirtual 225, 3, false, 46, 1, 0, 0, 0, []), (39, .aload_n 0, 1, false, 0, 0, 0, 0, 0, []), (40, .aload_n 0, 1, false, 0, 0, 0, 0, 0, []), (41, .getfield 63, 3, false, 0, 30, 20, 0, 0, []), (44, .aload_n 0, 1, false, 0, 0, 0, 0, 0, []), (45, .getfield 213, 3, false, 0, 31, 0, 0, 0, []), (48, .invokevirtual 184, 3, false, 33, 3, 0, 0, 0, []), (51, .aload_n 0, 1, false, 0, 0, 0, 0, 0, []), (52, .getfield 169, 3, false, 0, 13, 0, 0, 0, []), (55, .bipush (-9), 2, false, 0, 0, 0, 0, 0, []), (57, .if_icmp .ne 7, 3, false, 34, 0, 0, 0, 0, []), (60, .iconst 1, 1, false, 0, 0, 0, 0, 0, []), (61, .goto 4, 3, false, 35, 0, 0, 0, 0, []), (64, .iconst 0, 1, false, 0, 0, 0, 0, 0, []), (65, .istore 5, 2, false, 0, 0, 0, 0, 0, []), (67, .iload 5, 2, false, 0, 0, 0, 0, 0, []), (69, .ifCond .eq 43, 3, false, 60, 0, 0, 0, 0, []), (72, .aload_n 0, 1, false, 0, 0, 0, 0, 0, []), (73, .getfield 149, 3, false, 0, 20, 1, 0, 0, []), (76, .lload_n 1, 1, false, 0, 0, 0, 0, 0, []), (77, .lcmp, 1, false, 0, 0, 0, 0, 0, []), (78, .ifCond .lt 20, 3, false, 52, 0, 0, 0, 0, []), (81, .aload_n 0, 1, false, 0, 0, 0, 0, 0, []), (82, .getfield 149, 3, false, 0, 20, 1, 0, 0, []), (85, .lload_n 1, 1, false, 0, 0, 0, 0, 0, []), (86, .lcmp, 1, false, 0, 0, 0, 0, 0, []), (87, .ifCond .ne 25, 3, false, 60, 0, 0, 0, 0, []), (90, .aload_n 0, 1, false, 0, 0, 0, 0, 0, []), (91, .getfield 156, 3, false, 0, 15, 0, 0, 0, []), (94, .iload_n 3, 1, false, 0, 0, 0, 0, 0, []), (95, .if_icmp .ge 17, 3, false, 60, 0, 0, 0, 0, []), (98, .aload_n 0, 1, false, 0, 0, 0, 0, 0, []), (99, .getfield 149, 3, false, 0, 20, 1, 0, 0, []), (102, .lstore_n 1, 1, false, 0, 0, 0, 0, 0, []), (103, .aload_n 0, 1, false, 0, 0, 0, 0, 0, []), (104, .getfield 156, 3, false, 0, 15, 0, 0, 0, []), (107, .istore_n 3, 1, false, 0, 0, 0, 0, 0, []), (108, .aload_n 0, 1, false, 0, 0, 0, 0, 0, []), (109, .invokevirtual 228, 3, false, 49, 1, 0, 0, 0, []), (112, .aload_n 0, 1, false, 0, 0, 0, 0, 0, []), (113, .invokevirtual 231, 3, false, 48, 1, 1, 0, 0, []), (116, .istore 4, 2, false, 0, 0, 0, 0, 0, []), (118, .goto (-88), 3, false, 18, 0, 0, 0, 0, []), (121, .lload_n 1, 1, false, 0, 0, 0, 0, 0, []), (122, .lreturn, 1, false, 0, 0, 0, 0, 0, [])]
noncomputable def mdX5_findFramed : mm_M := (yX5_findFramed, cX5_findFramed, 6, (some .long), 5, 2, tbX5_findFramed)
set_option maxRecDepth 20000 in
noncomputable def tbX5_framed : List mm_E := [(0, .iload_n 1, 1, false, 0, 0, 0, 0, 0, []), (1, .bipush (-2), 2, false, 0, 0, 0, 0, 0, []), (3, .bipush 39, 2, false, 0, 0, 0, 0, 0, []), (5, .invokestatic 76, 3, false, 0, 3, 1, 0, 0, []), (8, .ifCond .ne 6, 3, false, 7, 0, 0, 0, 0, []), (11, .bipush (-2), 2, false, 0, 0, 0, 0, 0, []), (13, .ireturn, 1, false, 0, 0, 0, 0, 0, []), (14, .aload_n 0, 1, false, 0, 0, 0, 0, 0, []), (15, .invokevirtual 235, 3, false, 44, 1, 0, 0, 0, []), (18, .aload_n 0, 1, false, 0, 0, 0, 0, 0, []), (19, .aload_n 0, 1, false, 0, 0, 0, 0, 0, []), (20, .getfield 57, 3, false, 0, 28, 18, 0, 0, []), (23, .aload_n 0, 1, false, 0, 0, 0, 0, 0, []), (24, .getfield 210, 3, false, 0, 27, 0, 0, 0, []), (27, .invokevirtual 184, 3, false, 33, 3, 0, 0, 0, []), (30, .aload_n 0, 1, false, 0, 0, 0, 0, 0, []), (31, .getfield 210, 3, false, 0, 27, 0, 0, 0, []), (34, .ifCond .eq 12, 3, false, 22, 0, 0, 0, 0, []), (37, .aload_n 0, 1, false, 0, 0, 0, 0, 0, []), (38, .getfield 169, 3, false, 0, 13, 0, 0, 0, []), (41, .bipush (-9), 2, false, 0, 0, 0, 0, 0, []), (43, .if_icmp .eq 6, 3, false, 24, 0, 0, 0, 0, []), (46, .bipush (-3), 2, false, 0, 0, 0, 0, 0, []), (48, .ireturn, 1, false, 0, 0, 0, 0, 0, []), (49, .aload_n 0, 1, false, 0, 0, 0, 0, 0, []), (50, .invokevirtual 238, 3, false, 50, 1, 2, 0, 0, []), (53, .lstore_n 2, 1, false, 0, 0, 0, 0, 0, []), (54, .iload_n 1, 1, false, 0, 0, 0, 0, 0, []), (55, .ifCond .ge 20, 3, false, 38, 0, 0, 0, 0, []), (58, .iload_n 1, 1, false, 0, 0, 0, 0, 0, []), (59, .iconst (-1), 1, false, 0, 0, 0, 0, 0, []), (60, .if_icmp .ne 10, 3, false, 35, 0, 0, 0, 0, []), (63, .lload_n 2, 1, false, 0, 0, 0, 0, 0, []), (64, .invokestatic 191, 3, false, 36, 1, 1, 0, 0, []), (67, .goto 7, 3, false, 37, 0, 0, 0, 0, []), (70, .aload_n 0, 1, false, 0, 0, 0, 0, 0, []), (71, .getfield 222, 3, false, 0, 33, 0, 0, 0, []), (74, .ireturn, 1, false, 0, 0, 0, 0, 0, []), (75, .iload_n 1, 1, false, 0, 0, 0, 0, 0, []), (76, .aload_n 0, 1, false, 0, 0, 0, 0, 0, []), (77, .getfield 222, 3, false, 0, 33, 0, 0, 0, []), (80, .if_icmp .ge 12, 3, false, 47, 0, 0, 0, 0, []), (83, .aload_n 0, 1, false, 0, 0, 0, 0, 0, []), (84, .getfield 66, 3, false, 0, 32, 21, 0, 0, []), (87, .iload_n 1, 1, false, 0, 0, 0, 0, 0, []), (88, .iaload, 1, false, 0, 0, 0, 0, 0, []), (89, .goto 5, 3, false, 48, 0, 0, 0, 0, []), (92, .bipush (-9), 2, false, 0, 0, 0, 0, 0, []), (94, .ireturn, 1, false, 0, 0, 0, 0, 0, [])]
noncomputable def mdX5_framed : mm_M := (yX5_framed, cX5_framed, 4, (some .int), 5, 1, tbX5_framed)
set_option maxRecDepth 20000 in
noncomputable def tbX5_changes : List mm_E := [(0, .aload_n 0, 1, false, 0, 0, 0, 0, 0, []), (1, .getfield 57, 3, false, 0, 28, 18, 0, 0, []), (4, .iload_n 1, 1, false, 0, 0, 0, 0, 0, []), (5, .iaload, 1, false, 0, 0, 0, 0, 0, []), (6, .istore_n 2, 1, false, 0, 0, 0, 0, 0, []), (7, .aload_n 0, 1, false, 0, 0, 0, 0, 0, []), (8, .getfield 57, 3, false, 0, 28, 18, 0, 0, []), (11, .iload_n 1, 1, false, 0, 0, 0, 0, 0, []), (12, .aload_n 0, 1, false, 0, 0, 0, 0, 0, []), (13, .getfield 57, 3, false, 0, 28, 18, 0, 0, []), (16, .iload_n 1, 1, false, 0, 0, 0, 0, 0, []), (17, .iconst 1, 1, false, 0, 0, 0, 0, 0, []), (18, .iadd, 1, false, 0, 0, 0, 0, 0, []), (19, .iaload, 1, false, 0, 0, 0, 0, 0, []), (20, .iastore, 1, false, 0, 0, 0, 0, 0, []), (21, .aload_n 0, 1, false, 0, 0, 0, 0, 0, []), (22, .getfield 57, 3, false, 0, 28, 18, 0, 0, []), (25, .iload_n 1, 1, false, 0, 0, 0, 0, 0, []), (26, .iconst 1, 1, false, 0, 0, 0, 0, 0, []), (27, .iadd, 1, false, 0, 0, 0, 0, 0, []), (28, .iload_n 2, 1, false, 0, 0, 0, 0, 0, []), (29, .iastore, 1, false, 0, 0, 0, 0, 0, []), (30, .return_, 1, false, 0, 0, 0, 0, 0, [])]
noncomputable def mdX5_changes : mm_M := (yX5_changes, cX5_changes, 3, none, 5, 0, tbX5_changes)
set_option maxRecDepth 20000 in
noncomputable def tbX5_untangled : List mm_E := [(0, .aload_n 0, 1, false, 0, 0, 0, 0, 0, []), (1, .invokevirtual 235, 3, false, 44, 1, 0, 0, 0, []), (4, .aload_n 0, 1, false, 0, 0, 0, 0, 0, []), (5, .aload_n 0, 1, false, 0, 0, 0, 0, 0, []), (6, .getfield 57, 3, false, 0, 28, 18, 0, 0, []), (9, .aload_n 0, 1, false, 0, 0, 0, 0, 0, []), (10, .getfield 210, 3, false, 0, 27, 0, 0, 0, []), (13, .invokevirtual 184, 3, false, 33, 3, 0, 0, 0, []), (16, .aload_n 0, 1, false, 0, 0, 0, 0, 0, []), (17, .getfield 169, 3, false, 0, 13, 0, 0, 0, []), (20, .bipush (-9), 2, false, 0, 0, 0, 0, 0, []), (22, .if_icmp .eq 6, 3, false, 14, 0, 0, 0, 0, []), (25, .bipush (-3), 2, false, 0, 0, 0, 0, 0, []), (27, .ireturn, 1, false, 0, 0, 0, 0, 0, []), (28, .aload_n 0, 1, false, 0, 0, 0, 0, 0, []), (29, .getfield 149, 3, false, 0, 20, 1, 0, 0, []), (32, .lstore_n 1, 1, false, 0, 0, 0, 0, 0, []), (33, .bipush (-9), 2, false, 0, 0, 0, 0, 0, []), (35, .istore_n 3, 1, false, 0, 0, 0, 0, 0, []), (36, .iconst 0, 1, false, 0, 0, 0, 0, 0, []), (37, .istore 4, 2, false, 0, 0, 0, 0, 0, []), (39, .iload 4, 2, true, 0, 0, 0, 0, 0, []), (41, .aload_n 0, 1, false, 0, 0, 0, 0, 0, []), (42, .getfield 210, 3, false, 0, 27, 0, 0, 0, []), (45, .iconst 1, 1, false, 0, 0, 0, 0, 0, []), (46, .isub, 1, false, 0, 0, 0, 0, 0, []), (47, .if_icmp .ge 59, 3, false, 55, 0, 0, 0, 0, []), (50, .aload_n 0, 1, false, 0, 0, 0, 0, 0, []), (51, .iload 4, 2, false, 0, 0, 0, 0, 0, []), (53, .invokevirtual 241, 3, false, 52, 2, 0, 0, 0, []), (56, .aload_n 0, 1, false, 0, 0, 0, 0, 0, []), (57, .aload_n 0, 1, false, 0, 0, 0, 0, 0, []), (58, .getfield 57, 3, false, 0, 28, 18, 0, 0, []), (61, .aload_n 0, 1, false, 0, 0, 0, 0, 0, []), (62, .getfield 210, 3, false, 0, 27, 0, 0, 0, []), (65, .invokevirtual 184, 3, false, 33, 3, 0, 0, 0, []), (68, .aload_n 0, 1, false, 0, 0, 0, 0, 0, []), (69, .getfield 169, 3, false, 0, 13, 0, 0, 0, []), (72, .bipush (-9), 2, false, 0, 0, 0, 0, 0, []), (74, .if_icmp .ne 20, 3, false, 50, 0, 0, 0, 0, []), (77, .aload_n 0, 1, false, 0, 0, 0, 0, 0, []), (78, .getfield 149, 3, false, 0, 20, 1, 0, 0, []), (81, .lload_n 1, 1, false, 0, 0, 0, 0, 0, []), (82, .lcmp, 1, false, 0, 0, 0, 0, 0, []), (83, .ifCond .ge 11, 3, false, 50, 0, 0, 0, 0, []), (86, .aload_n 0, 1, false, 0, 0, 0, 0, 0, []), (87, .getfield 149, 3, false, 0, 20, 1, 0, 0, []), (90, .lstore_n 1, 1, false, 0, 0, 0, 0, 0, []), (91, .iload 4, 2, false, 0, 0, 0, 0, 0, []), (93, .istore_n 3, 1, false, 0, 0, 0, 0, 0, []), (94, .aload_n 0, 1, false, 0, 0, 0, 0, 0, []), (95, .iload 4, 2, false, 0, 0, 0, 0, 0, []), (97, .invokevirtual 241, 3, false, 52, 2, 0, 0, 0, []), (100, .iinc 4 1, 3, false, 0, 0, 0, 0, 0, []), (103, .goto (-64), 3, false, 21, 0, 0, 0, 0, []), (106, .iload_n 3, 1, false, 0, 0, 0, 0, 0, []), (107, .ireturn, 1, false, 0, 0, 0, 0, 0, [])]
noncomputable def mdX5_untangled : mm_M := (yX5_untangled, cX5_untangled, 5, (some .int), 5, 1, tbX5_untangled)
set_option maxRecDepth 20000 in
noncomputable def tbX5_manyOpen : List mm_E := [(0, .iconst 0, 1, false, 0, 0, 0, 0, 0, []), (1, .istore_n 1, 1, false, 0, 0, 0, 0, 0, []), (2, .iconst 0, 1, false, 0, 0, 0, 0, 0, []), (3, .istore_n 2, 1, false, 0, 0, 0, 0, 0, []), (4, .iload_n 2, 1, true, 0, 0, 0, 0, 0, []), (5, .bipush 8, 2, false, 0, 0, 0, 0, 0, []), (7, .if_icmp .ge 35, 3, false, 25, 0, 0, 0, 0, []), (10, .iload_n 1, 1, false, 0, 0, 0, 0, 0, []), (11, .aload_n 0, 1, false, 0, 0, 0, 0, 0, []), (12, .iload_n 2, 1, false, 0, 0, 0, 0, 0, []), (13, .iconst 1, 1, false, 0, 0, 0, 0, 0, []), (14, .invokevirtual 101, 3, false, 12, 3, 1, 0, 0, []), (17, .ifCond .eq 16, 3, false, 20, 0, 0, 0, 0, []), (20, .aload_n 0, 1, false, 0, 0, 0, 0, 0, []), (21, .iload_n 2, 1, false, 0, 0, 0, 0, 0, []), (22, .iconst 0, 1, false, 0, 0, 0, 0, 0, []), (23, .invokevirtual 101, 3, false, 12, 3, 1, 0, 0, []), (26, .ifCond .ne 7, 3, false, 20, 0, 0, 0, 0, []), (29, .iconst 1, 1, false, 0, 0, 0, 0, 0, []), (30, .goto 4, 3, false, 21, 0, 0, 0, 0, []), (33, .iconst 0, 1, false, 0, 0, 0, 0, 0, []), (34, .iadd, 1, false, 0, 0, 0, 0, 0, []), (35, .istore_n 1, 1, false, 0, 0, 0, 0, 0, []), (36, .iinc 2 1, 3, false, 0, 0, 0, 0, 0, []), (39, .goto (-35), 3, false, 4, 0, 0, 0, 0, []), (42, .iload_n 1, 1, false, 0, 0, 0, 0, 0, []), (43, .ireturn, 1, false, 0, 0, 0, 0, 0, [])]
noncomputable def mdX5_manyOpen : mm_M := (yX5_manyOpen, cX5_manyOpen, 3, (some .int), 5, 1, tbX5_manyOpen)
set_option maxRecDepth 20000 in
noncomputable def tbX5_many : List mm_E := [(0, .iload_n 1, 1, false, 0, 0, 0, 0, 0, []), (1, .tableswitch 60 0 4 #[35, 40, 45, 50, 55], 35, false, 17, 0, 0, 0, 0, [2, 5, 8, 11, 14]), (36, .aload_n 0, 1, false, 0, 0, 0, 0, 0, []), (37, .getfield 73, 3, false, 0, 0, 0, 0, 0, []), (40, .ireturn, 1, false, 0, 0, 0, 0, 0, []), (41, .aload_n 0, 1, false, 0, 0, 0, 0, 0, []), (42, .getfield 127, 3, false, 0, 6, 0, 0, 0, []), (45, .ireturn, 1, false, 0, 0, 0, 0, 0, []), (46, .aload_n 0, 1, false, 0, 0, 0, 0, 0, []), (47, .getfield 22, 3, false, 0, 5, 0, 0, 0, []), (50, .ireturn, 1, false, 0, 0, 0, 0, 0, []), (51, .aload_n 0, 1, false, 0, 0, 0, 0, 0, []), (52, .getfield 181, 3, false, 0, 8, 0, 0, 0, []), (55, .ireturn, 1, false, 0, 0, 0, 0, 0, []), (56, .aload_n 0, 1, false, 0, 0, 0, 0, 0, []), (57, .invokevirtual 244, 3, false, 54, 1, 1, 0, 0, []), (60, .ireturn, 1, false, 0, 0, 0, 0, 0, []), (61, .bipush (-2), 2, false, 0, 0, 0, 0, 0, []), (63, .ireturn, 1, false, 0, 0, 0, 0, 0, [])]
noncomputable def mdX5_many : mm_M := (yX5_many, cX5_many, 2, (some .int), 5, 1, tbX5_many)
def shR : mm_S := [(0, 5, [0, 4, 5, 6, 7, 0, 0, 8, 0, 0, 9, 10, 11, 0, 0, 0, 0, 0, 0, 0, 1, 12, 13, 14, 15, 16, 17, 0, 18, 19, 20, 0, 21, 0]), (1, 8, []), (1, 8, []), (1, 8, []), (1, 8, []), (1, 40, []), (1, 41, []), (1, 41, []), (1, 41, []), (1, 8, []), (1, 8, []), (1, 8, []), (1, 8, []), (2, 2048, []), (1, 8, []), (1, 40, []), (1, 8, []), (1, 40, []), (1, 40, [])]
noncomputable def msR : List mm_M := [mdX5_within, mdX5_isInt, mdX5_isScene, mdX5_isClue, mdX5_endOf, mdX5_scene, mdX5_ofScene, mdX5_mayMove, mdX5_move, mdX5_shift, mdX5_stretch, mdX5_clue, mdX5_setOf, mdX5_ofClue, mdX5_drop, mdX5_fee, mdX5_jumpOf, mdX5_jump, mdX5_firstFrom, mdX5_lastEnd, mdX5_nextFrom, mdX5_toldTo, mdX5_gaps, mdX5_span, mdX5_add, mdX5_cut, mdX5_sideBy, mdX5_isOnSide, mdX5_reasonOfScene, mdX5_reasonOf, mdX5_tells, mdX5_opens, mdX5_goesOn, mdX5_looks, mdX5_looksNow, mdX5_judge, mdX5_jumpsOf, mdX5_jumps, mdX5_told, mdX5_mayCome, mdX5_byNext, mdX5_findRest, mdX5_findOrder, mdX5_order, mdX5_findRow, mdX5_puts, mdX5_makes, mdX5_depthAt, mdX5_goesNext, mdX5_keeps, mdX5_findFramed, mdX5_framed, mdX5_changes, mdX5_untangled, mdX5_manyOpen, mdX5_many]
def cnR : Nat → String := fun k => match k with
  | 0 => RX0
  | 1 => RX1
  | 2 => RX2
  | 3 => RX3
  | 4 => RX4
  | 5 => RX5
  | 6 => RJ6
  | 7 => RJ9
  | 8 => RJ10
  | _ => RJ7
def tyR : Nat → Nat → FieldType := fun c => match c with
  | 0 => tyX0
  | 1 => tyX1
  | 2 => tyX2
  | 3 => tyX3
  | 4 => tyX4
  | _ => tyX5
noncomputable def TR : mm_T := (shR, msR, vwCl, tyR, cnR, [(5, 73, 0, 0), (5, 7, 0, 1), (5, 13, 0, 2), (5, 16, 0, 3), (5, 19, 0, 4), (5, 22, 0, 5), (5, 127, 0, 6), (5, 26, 0, 7), (5, 130, 0, 9), (5, 32, 0, 11), (5, 29, 0, 10), (5, 35, 0, 12), (5, 136, 0, 18), (5, 139, 0, 19), (5, 149, 0, 20), (5, 38, 0, 21), (5, 153, 0, 17), (5, 41, 0, 22), (5, 44, 0, 23), (5, 47, 0, 24), (5, 156, 0, 15), (5, 159, 0, 16), (5, 169, 0, 13), (5, 172, 0, 14), (5, 181, 0, 8), (5, 50, 0, 25), (5, 54, 0, 26), (5, 210, 0, 27), (5, 57, 0, 28), (5, 63, 0, 30), (5, 213, 0, 31), (5, 60, 0, 29), (5, 222, 0, 33), (5, 66, 0, 32)], [(5, 76, 1, 0, 0), (5, 80, 1, 1, 0), (5, 84, 0, 2, 0), (5, 90, 0, 4, 0), (5, 94, 0, 7, 0), (5, 98, 1, 3, 0), (5, 101, 0, 12, 0), (5, 106, 0, 16, 0), (5, 110, 0, 19, 0), (5, 114, 0, 18, 0), (5, 117, 0, 21, 0), (5, 121, 0, 20, 0), (5, 124, 0, 22, 0), (5, 133, 0, 26, 0), (5, 142, 0, 27, 0), (5, 145, 0, 28, 0), (5, 162, 0, 31, 0), (5, 165, 0, 30, 0), (5, 175, 0, 29, 0), (5, 178, 0, 32, 0), (5, 184, 0, 33, 0), (5, 188, 0, 34, 0), (5, 191, 1, 36, 0), (5, 197, 0, 39, 0), (5, 200, 0, 40, 0), (5, 204, 0, 41, 0), (5, 207, 0, 42, 0), (5, 216, 0, 45, 0), (5, 219, 0, 47, 0), (5, 225, 0, 46, 0), (5, 228, 0, 49, 0), (5, 231, 0, 48, 0), (5, 235, 0, 44, 0), (5, 238, 0, 50, 0), (5, 241, 0, 52, 0), (5, 244, 0, 54, 0)], [(5, 69, 2147483647), (5, 71, (-2147483648)), (5, 88, (-9223372036854775808)), (5, 195, 1000000000000)], [(5, 105, 1000000)], [], "ToldScenes")
/-! ===== entries, as rows to rewrite by (R) ===== -/
set_option maxRecDepth 20000 in
theorem uX5_within (sh : mm_S) (call : mm_C) (Q : mm_Q) (n i : Nat) (lo st : List Value) (I : mm_I) (L : mm_L) : mm_v sh call tbX5_within Q (n + 1) i lo st I L = mm_vn sh call tbX5_within Q n [(0, .iload_n 0, 1, false, 0, 0, 0, 0, 0, []), (1, .iload_n 1, 1, false, 0, 0, 0, 0, 0, []), (2, .if_icmp .lt 12, 3, false, 8, 0, 0, 0, 0, []), (5, .iload_n 0, 1, false, 0, 0, 0, 0, 0, []), (6, .iload_n 2, 1, false, 0, 0, 0, 0, 0, []), (7, .if_icmp .gt 7, 3, false, 8, 0, 0, 0, 0, []), (10, .iconst 1, 1, false, 0, 0, 0, 0, 0, []), (11, .goto 4, 3, false, 9, 0, 0, 0, 0, []), (14, .iconst 0, 1, false, 0, 0, 0, 0, 0, []), (15, .ireturn, 1, false, 0, 0, 1, 0, 0, [])] i i lo st I L := rfl
set_option maxRecDepth 20000 in
theorem uX5_isInt (sh : mm_S) (call : mm_C) (Q : mm_Q) (n i : Nat) (lo st : List Value) (I : mm_I) (L : mm_L) : mm_v sh call tbX5_isInt Q (n + 1) i lo st I L = mm_vn sh call tbX5_isInt Q n [(0, .lload_n 0, 1, false, 0, 0, 0, 0, 0, []), (1, .ldc2_w 69, 3, false, 0, 0, 0, 0, 2147483647, []), (4, .lcmp, 1, false, 0, 0, 0, 0, 0, []), (5, .ifCond .gt 15, 3, false, 10, 0, 0, 0, 0, []), (8, .lload_n 0, 1, false, 0, 0, 0, 0, 0, []), (9, .ldc2_w 71, 3, false, 0, 0, 0, 0, (-2147483648), []), (12, .lcmp, 1, false, 0, 0, 0, 0, 0, []), (13, .ifCond .lt 7, 3, false, 10, 0, 0, 0, 0, []), (16, .iconst 1, 1, false, 0, 0, 0, 0, 0, []), (17, .goto 4, 3, false, 11, 0, 0, 0, 0, []), (20, .iconst 0, 1, false, 0, 0, 0, 0, 0, []), (21, .ireturn, 1, false, 0, 0, 1, 0, 0, [])] i i lo st I L := rfl
set_option maxRecDepth 20000 in
theorem uX5_isScene (sh : mm_S) (call : mm_C) (Q : mm_Q) (n i : Nat) (lo st : List Value) (I : mm_I) (L : mm_L) : mm_v sh call tbX5_isScene Q (n + 1) i lo st I L = mm_vn sh call tbX5_isScene Q n [(0, .iload_n 1, 1, false, 0, 0, 0, 0, 0, []), (1, .iconst 0, 1, false, 0, 0, 0, 0, 0, []), (2, .aload_n 0, 1, false, 0, 0, 0, 0, 0, []), (3, .getfield 73, 3, false, 0, 0, 0, 0, 0, []), (6, .iconst 1, 1, false, 0, 0, 0, 0, 0, []), (7, .isub, 1, false, 0, 0, 0, 0, 0, []), (8, .invokestatic 76, 3, false, 0, 3, 1, 0, 0, []), (11, .ireturn, 1, false, 0, 0, 1, 0, 0, [])] i i lo st I L := rfl
set_option maxRecDepth 20000 in
theorem uX5_isClue (sh : mm_S) (call : mm_C) (Q : mm_Q) (n i : Nat) (lo st : List Value) (I : mm_I) (L : mm_L) : mm_v sh call tbX5_isClue Q (n + 1) i lo st I L = mm_vn sh call tbX5_isClue Q n [(0, .iload_n 0, 1, false, 0, 0, 0, 0, 0, []), (1, .iconst 0, 1, false, 0, 0, 0, 0, 0, []), (2, .bipush 7, 2, false, 0, 0, 0, 0, 0, []), (4, .invokestatic 76, 3, false, 0, 3, 1, 0, 0, []), (7, .ireturn, 1, false, 0, 0, 1, 0, 0, [])] i i lo st I L := rfl
set_option maxRecDepth 20000 in
theorem uX5_endOf (sh : mm_S) (call : mm_C) (Q : mm_Q) (n i : Nat) (lo st : List Value) (I : mm_I) (L : mm_L) : mm_v sh call tbX5_endOf Q (n + 1) i lo st I L = mm_vn sh call tbX5_endOf Q n [(0, .aload_n 0, 1, false, 0, 0, 0, 0, 0, []), (1, .getfield 7, 3, false, 0, 1, 4, 0, 0, []), (4, .iload_n 1, 1, false, 0, 0, 0, 0, 0, []), (5, .iaload, 1, false, 0, 0, 0, 0, 0, []), (6, .i2l, 1, false, 0, 0, 0, 0, 0, []), (7, .aload_n 0, 1, false, 0, 0, 0, 0, 0, []), (8, .getfield 13, 3, false, 0, 2, 5, 0, 0, []), (11, .iload_n 1, 1, false, 0, 0, 0, 0, 0, []), (12, .iaload, 1, false, 0, 0, 0, 0, 0, []), (13, .i2l, 1, false, 0, 0, 0, 0, 0, []), (14, .ladd, 1, false, 0, 0, 0, 0, 0, []), (15, .lreturn, 1, false, 0, 0, 0, 0, 0, [])] i i lo st I L := rfl
set_option maxRecDepth 20000 in
theorem uX5_scene (sh : mm_S) (call : mm_C) (Q : mm_Q) (n i : Nat) (lo st : List Value) (I : mm_I) (L : mm_L) : mm_v sh call tbX5_scene Q (n + 1) i lo st I L = mm_vn sh call tbX5_scene Q n [(0, .iload_n 2, 1, false, 0, 0, 0, 0, 0, []), (1, .iconst 1, 1, false, 0, 0, 0, 0, 0, []), (2, .if_icmp .lt 26, 3, false, 13, 0, 0, 0, 0, []), (5, .iload_n 3, 1, false, 0, 0, 0, 0, 0, []), (6, .iconst 0, 1, false, 0, 0, 0, 0, 0, []), (7, .sipush 255, 3, false, 0, 0, 0, 0, 0, []), (10, .invokestatic 76, 3, false, 0, 3, 1, 0, 0, []), (13, .ifCond .eq 15, 3, false, 13, 0, 0, 0, 0, []), (16, .iload 4, 2, false, 0, 0, 0, 0, 0, []), (18, .iconst 0, 1, false, 0, 0, 0, 0, 0, []), (19, .sipush 255, 3, false, 0, 0, 0, 0, 0, []), (22, .invokestatic 76, 3, false, 0, 3, 1, 0, 0, []), (25, .ifCond .ne 6, 3, false, 15, 0, 0, 0, 0, []), (28, .bipush (-2), 2, false, 0, 0, 0, 0, 0, []), (30, .ireturn, 1, false, 0, 0, 0, 0, 0, []), (31, .aload_n 0, 1, false, 0, 0, 0, 0, 0, []), (32, .getfield 73, 3, false, 0, 0, 0, 0, 0, []), (35, .bipush 8, 2, false, 0, 0, 0, 0, 0, []), (37, .if_icmp .ne 6, 3, false, 21, 0, 0, 0, 0, []), (40, .bipush (-4), 2, false, 0, 0, 0, 0, 0, []), (42, .ireturn, 1, false, 0, 0, 0, 0, 0, []), (43, .iload_n 1, 1, false, 0, 0, 0, 0, 0, []), (44, .i2l, 1, false, 0, 0, 0, 0, 0, []), (45, .iload_n 2, 1, false, 0, 0, 0, 0, 0, []), (46, .i2l, 1, false, 0, 0, 0, 0, 0, []), (47, .ladd, 1, false, 0, 0, 0, 0, 0, []), (48, .invokestatic 80, 3, false, 1, 1, 1, 0, 0, []), (51, .ifCond .ne 6, 3, false, 30, 0, 0, 0, 0, []), (54, .bipush (-5), 2, false, 0, 0, 0, 0, 0, []), (56, .ireturn, 1, false, 0, 0, 0, 0, 0, []), (57, .aload_n 0, 1, false, 0, 0, 0, 0, 0, []), (58, .getfield 7, 3, false, 0, 1, 4, 0, 0, []), (61, .aload_n 0, 1, false, 0, 0, 0, 0, 0, []), (62, .getfield 73, 3, false, 0, 0, 0, 0, 0, []), (65, .iload_n 1, 1, false, 0, 0, 0, 0, 0, []), (66, .iastore, 1, false, 0, 0, 0, 0, 0, []), (67, .aload_n 0, 1, false, 0, 0, 0, 0, 0, []), (68, .getfield 13, 3, false, 0, 2, 5, 0, 0, []), (71, .aload_n 0, 1, false, 0, 0, 0, 0, 0, []), (72, .getfield 73, 3, false, 0, 0, 0, 0, 0, []), (75, .iload_n 2, 1, false, 0, 0, 0, 0, 0, []), (76, .iastore, 1, false, 0, 0, 0, 0, 0, []), (77, .aload_n 0, 1, false, 0, 0, 0, 0, 0, []), (78, .getfield 16, 3, false, 0, 3, 6, 0, 0, []), (81, .aload_n 0, 1, false, 0, 0, 0, 0, 0, []), (82, .getfield 73, 3, false, 0, 0, 0, 0, 0, []), (85, .iload_n 3, 1, false, 0, 0, 0, 0, 0, []), (86, .iastore, 1, false, 0, 0, 0, 0, 0, []), (87, .aload_n 0, 1, false, 0, 0, 0, 0, 0, []), (88, .getfield 19, 3, false, 0, 4, 7, 0, 0, []), (91, .aload_n 0, 1, false, 0, 0, 0, 0, 0, []), (92, .getfield 73, 3, false, 0, 0, 0, 0, 0, []), (95, .iload 4, 2, false, 0, 0, 0, 0, 0, []), (97, .iastore, 1, false, 0, 0, 0, 0, 0, []), (98, .aload_n 0, 1, false, 0, 0, 0, 0, 0, []), (99, .dup, 1, false, 0, 0, 0, 0, 0, []), (100, .getfield 73, 3, false, 0, 0, 0, 0, 0, []), (103, .iconst 1, 1, false, 0, 0, 0, 0, 0, []), (104, .iadd, 1, false, 0, 0, 0, 0, 0, []), (105, .putfield 73, 3, false, 0, 0, 0, 0, 0, []), (108, .aload_n 0, 1, false, 0, 0, 0, 0, 0, []), (109, .getfield 73, 3, false, 0, 0, 0, 0, 0, []), (112, .iconst 1, 1, false, 0, 0, 0, 0, 0, []), (113, .isub, 1, false, 0, 0, 0, 0, 0, []), (114, .ireturn, 1, false, 0, 0, 0, 0, 0, [])] i i lo st I L := rfl
set_option maxRecDepth 20000 in
theorem uX5_ofScene (sh : mm_S) (call : mm_C) (Q : mm_Q) (n i : Nat) (lo st : List Value) (I : mm_I) (L : mm_L) : mm_v sh call tbX5_ofScene Q (n + 1) i lo st I L = mm_vn sh call tbX5_ofScene Q n [(0, .aload_n 0, 1, false, 0, 0, 0, 0, 0, []), (1, .iload_n 1, 1, false, 0, 0, 0, 0, 0, []), (2, .invokevirtual 84, 3, false, 2, 2, 1, 0, 0, []), (5, .ifCond .ne 7, 3, false, 6, 0, 0, 0, 0, []), (8, .ldc2_w 88, 3, false, 0, 0, 0, 0, (-9223372036854775808), []), (11, .lreturn, 1, false, 0, 0, 0, 0, 0, []), (12, .iload_n 2, 1, false, 0, 0, 0, 0, 0, []), (13, .tableswitch 73 0 4 #[35, 43, 51, 57, 65], 35, false, 36, 0, 0, 0, 0, [8, 14, 20, 24, 30]), (48, .aload_n 0, 1, false, 0, 0, 0, 0, 0, []), (49, .getfield 7, 3, false, 0, 1, 4, 0, 0, []), (52, .iload_n 1, 1, false, 0, 0, 0, 0, 0, []), (53, .iaload, 1, false, 0, 0, 0, 0, 0, []), (54, .i2l, 1, false, 0, 0, 0, 0, 0, []), (55, .lreturn, 1, false, 0, 0, 0, 0, 0, []), (56, .aload_n 0, 1, false, 0, 0, 0, 0, 0, []), (57, .getfield 13, 3, false, 0, 2, 5, 0, 0, []), (60, .iload_n 1, 1, false, 0, 0, 0, 0, 0, []), (61, .iaload, 1, false, 0, 0, 0, 0, 0, []), (62, .i2l, 1, false, 0, 0, 0, 0, 0, []), (63, .lreturn, 1, false, 0, 0, 0, 0, 0, []), (64, .aload_n 0, 1, false, 0, 0, 0, 0, 0, []), (65, .iload_n 1, 1, false, 0, 0, 0, 0, 0, []), (66, .invokevirtual 90, 3, false, 4, 2, 2, 0, 0, []), (69, .lreturn, 1, false, 0, 0, 0, 0, 0, []), (70, .aload_n 0, 1, false, 0, 0, 0, 0, 0, []), (71, .getfield 16, 3, false, 0, 3, 6, 0, 0, []), (74, .iload_n 1, 1, false, 0, 0, 0, 0, 0, []), (75, .iaload, 1, false, 0, 0, 0, 0, 0, []), (76, .i2l, 1, false, 0, 0, 0, 0, 0, []), (77, .lreturn, 1, false, 0, 0, 0, 0, 0, []), (78, .aload_n 0, 1, false, 0, 0, 0, 0, 0, []), (79, .getfield 19, 3, false, 0, 4, 7, 0, 0, []), (82, .iload_n 1, 1, false, 0, 0, 0, 0, 0, []), (83, .iaload, 1, false, 0, 0, 0, 0, 0, []), (84, .i2l, 1, false, 0, 0, 0, 0, 0, []), (85, .lreturn, 1, false, 0, 0, 0, 0, 0, []), (86, .ldc2_w 88, 3, false, 0, 0, 0, 0, (-9223372036854775808), []), (89, .lreturn, 1, false, 0, 0, 0, 0, 0, [])] i i lo st I L := rfl
set_option maxRecDepth 20000 in
theorem uX5_mayMove (sh : mm_S) (call : mm_C) (Q : mm_Q) (n i : Nat) (lo st : List Value) (I : mm_I) (L : mm_L) : mm_v sh call tbX5_mayMove Q (n + 1) i lo st I L = mm_vn sh call tbX5_mayMove Q n [(0, .aload_n 0, 1, false, 0, 0, 0, 0, 0, []), (1, .getfield 7, 3, false, 0, 1, 4, 0, 0, []), (4, .iload_n 1, 1, false, 0, 0, 0, 0, 0, []), (5, .iaload, 1, false, 0, 0, 0, 0, 0, []), (6, .i2l, 1, false, 0, 0, 0, 0, 0, []), (7, .iload_n 2, 1, false, 0, 0, 0, 0, 0, []), (8, .i2l, 1, false, 0, 0, 0, 0, 0, []), (9, .ladd, 1, false, 0, 0, 0, 0, 0, []), (10, .invokestatic 80, 3, false, 1, 1, 1, 0, 0, []), (13, .ifCond .eq 21, 3, false, 20, 0, 0, 0, 0, []), (16, .aload_n 0, 1, false, 0, 0, 0, 0, 0, []), (17, .iload_n 1, 1, false, 0, 0, 0, 0, 0, []), (18, .invokevirtual 90, 3, false, 4, 2, 2, 0, 0, []), (21, .iload_n 2, 1, false, 0, 0, 0, 0, 0, []), (22, .i2l, 1, false, 0, 0, 0, 0, 0, []), (23, .ladd, 1, false, 0, 0, 0, 0, 0, []), (24, .invokestatic 80, 3, false, 1, 1, 1, 0, 0, []), (27, .ifCond .eq 7, 3, false, 20, 0, 0, 0, 0, []), (30, .iconst 1, 1, false, 0, 0, 0, 0, 0, []), (31, .goto 4, 3, false, 21, 0, 0, 0, 0, []), (34, .iconst 0, 1, false, 0, 0, 0, 0, 0, []), (35, .ireturn, 1, false, 0, 0, 1, 0, 0, [])] i i lo st I L := rfl
set_option maxRecDepth 20000 in
theorem uX5_move (sh : mm_S) (call : mm_C) (Q : mm_Q) (n i : Nat) (lo st : List Value) (I : mm_I) (L : mm_L) : mm_v sh call tbX5_move Q (n + 1) i lo st I L = mm_vn sh call tbX5_move Q n [(0, .aload_n 0, 1, false, 0, 0, 0, 0, 0, []), (1, .iload_n 1, 1, false, 0, 0, 0, 0, 0, []), (2, .invokevirtual 84, 3, false, 2, 2, 1, 0, 0, []), (5, .ifCond .ne 5, 3, false, 6, 0, 0, 0, 0, []), (8, .iconst (-1), 1, false, 0, 0, 0, 0, 0, []), (9, .ireturn, 1, false, 0, 0, 0, 0, 0, []), (10, .aload_n 0, 1, false, 0, 0, 0, 0, 0, []), (11, .iload_n 1, 1, false, 0, 0, 0, 0, 0, []), (12, .iload_n 2, 1, false, 0, 0, 0, 0, 0, []), (13, .invokevirtual 94, 3, false, 7, 3, 1, 0, 0, []), (16, .ifCond .ne 6, 3, false, 13, 0, 0, 0, 0, []), (19, .bipush (-5), 2, false, 0, 0, 0, 0, 0, []), (21, .ireturn, 1, false, 0, 0, 0, 0, 0, []), (22, .aload_n 0, 1, false, 0, 0, 0, 0, 0, []), (23, .getfield 7, 3, false, 0, 1, 4, 0, 0, []), (26, .iload_n 1, 1, false, 0, 0, 0, 0, 0, []), (27, .dup2, 1, false, 0, 0, 0, 0, 0, []), (28, .iaload, 1, false, 0, 0, 0, 0, 0, []), (29, .iload_n 2, 1, false, 0, 0, 0, 0, 0, []), (30, .iadd, 1, false, 0, 0, 0, 0, 0, []), (31, .iastore, 1, false, 0, 0, 0, 0, 0, []), (32, .iconst 1, 1, false, 0, 0, 0, 0, 0, []), (33, .ireturn, 1, false, 0, 0, 0, 0, 0, [])] i i lo st I L := rfl
set_option maxRecDepth 20000 in
theorem uX5_shift (sh : mm_S) (call : mm_C) (Q : mm_Q) (n i : Nat) (lo st : List Value) (I : mm_I) (L : mm_L) : mm_v sh call tbX5_shift Q (n + 1) i lo st I L = mm_vn sh call tbX5_shift Q n [(0, .iconst 0, 1, false, 0, 0, 0, 0, 0, []), (1, .istore_n 2, 1, false, 0, 0, 0, 0, 0, []), (2, .iload_n 2, 1, true, 0, 0, 0, 0, 0, []), (3, .aload_n 0, 1, false, 0, 0, 0, 0, 0, []), (4, .getfield 73, 3, false, 0, 0, 0, 0, 0, []), (7, .if_icmp .ge 21, 3, false, 15, 0, 0, 0, 0, []), (10, .aload_n 0, 1, false, 0, 0, 0, 0, 0, []), (11, .iload_n 2, 1, false, 0, 0, 0, 0, 0, []), (12, .iload_n 1, 1, false, 0, 0, 0, 0, 0, []), (13, .invokevirtual 94, 3, false, 7, 3, 1, 0, 0, []), (16, .ifCond .ne 6, 3, false, 13, 0, 0, 0, 0, []), (19, .bipush (-5), 2, false, 0, 0, 0, 0, 0, []), (21, .ireturn, 1, false, 0, 0, 0, 0, 0, []), (22, .iinc 2 1, 3, false, 0, 0, 0, 0, 0, []), (25, .goto (-23), 3, false, 2, 0, 0, 0, 0, []), (28, .iconst 0, 1, false, 0, 0, 0, 0, 0, []), (29, .istore_n 2, 1, false, 0, 0, 0, 0, 0, []), (30, .iload_n 2, 1, true, 0, 0, 0, 0, 0, []), (31, .aload_n 0, 1, false, 0, 0, 0, 0, 0, []), (32, .getfield 73, 3, false, 0, 0, 0, 0, 0, []), (35, .if_icmp .ge 19, 3, false, 31, 0, 0, 0, 0, []), (38, .aload_n 0, 1, false, 0, 0, 0, 0, 0, []), (39, .getfield 7, 3, false, 0, 1, 4, 0, 0, []), (42, .iload_n 2, 1, false, 0, 0, 0, 0, 0, []), (43, .dup2, 1, false, 0, 0, 0, 0, 0, []), (44, .iaload, 1, false, 0, 0, 0, 0, 0, []), (45, .iload_n 1, 1, false, 0, 0, 0, 0, 0, []), (46, .iadd, 1, false, 0, 0, 0, 0, 0, []), (47, .iastore, 1, false, 0, 0, 0, 0, 0, []), (48, .iinc 2 1, 3, false, 0, 0, 0, 0, 0, []), (51, .goto (-21), 3, false, 17, 0, 0, 0, 0, []), (54, .aload_n 0, 1, false, 0, 0, 0, 0, 0, []), (55, .getfield 73, 3, false, 0, 0, 0, 0, 0, []), (58, .ireturn, 1, false, 0, 0, 0, 0, 0, [])] i i lo st I L := rfl
set_option maxRecDepth 20000 in
theorem hX5_shift (sh : mm_S) (call : mm_C) (Q : mm_Q) (n i : Nat) (lo st : List Value) (I : mm_I) (L : mm_L) : mm_h sh call tbX5_shift Q n i lo st I L = mm_hn sh call tbX5_shift Q n [(0, .iconst 0, 1, false, 0, 0, 0, 0, 0, []), (1, .istore_n 2, 1, false, 0, 0, 0, 0, 0, []), (2, .iload_n 2, 1, true, 0, 0, 0, 0, 0, []), (3, .aload_n 0, 1, false, 0, 0, 0, 0, 0, []), (4, .getfield 73, 3, false, 0, 0, 0, 0, 0, []), (7, .if_icmp .ge 21, 3, false, 15, 0, 0, 0, 0, []), (10, .aload_n 0, 1, false, 0, 0, 0, 0, 0, []), (11, .iload_n 2, 1, false, 0, 0, 0, 0, 0, []), (12, .iload_n 1, 1, false, 0, 0, 0, 0, 0, []), (13, .invokevirtual 94, 3, false, 7, 3, 1, 0, 0, []), (16, .ifCond .ne 6, 3, false, 13, 0, 0, 0, 0, []), (19, .bipush (-5), 2, false, 0, 0, 0, 0, 0, []), (21, .ireturn, 1, false, 0, 0, 0, 0, 0, []), (22, .iinc 2 1, 3, false, 0, 0, 0, 0, 0, []), (25, .goto (-23), 3, false, 2, 0, 0, 0, 0, []), (28, .iconst 0, 1, false, 0, 0, 0, 0, 0, []), (29, .istore_n 2, 1, false, 0, 0, 0, 0, 0, []), (30, .iload_n 2, 1, true, 0, 0, 0, 0, 0, []), (31, .aload_n 0, 1, false, 0, 0, 0, 0, 0, []), (32, .getfield 73, 3, false, 0, 0, 0, 0, 0, []), (35, .if_icmp .ge 19, 3, false, 31, 0, 0, 0, 0, []), (38, .aload_n 0, 1, false, 0, 0, 0, 0, 0, []), (39, .getfield 7, 3, false, 0, 1, 4, 0, 0, []), (42, .iload_n 2, 1, false, 0, 0, 0, 0, 0, []), (43, .dup2, 1, false, 0, 0, 0, 0, 0, []), (44, .iaload, 1, false, 0, 0, 0, 0, 0, []), (45, .iload_n 1, 1, false, 0, 0, 0, 0, 0, []), (46, .iadd, 1, false, 0, 0, 0, 0, 0, []), (47, .iastore, 1, false, 0, 0, 0, 0, 0, []), (48, .iinc 2 1, 3, false, 0, 0, 0, 0, 0, []), (51, .goto (-21), 3, false, 17, 0, 0, 0, 0, []), (54, .aload_n 0, 1, false, 0, 0, 0, 0, 0, []), (55, .getfield 73, 3, false, 0, 0, 0, 0, 0, []), (58, .ireturn, 1, false, 0, 0, 0, 0, 0, [])] i i lo st I L := rfl
set_option maxRecDepth 20000 in
theorem uX5_stretch (sh : mm_S) (call : mm_C) (Q : mm_Q) (n i : Nat) (lo st : List Value) (I : mm_I) (L : mm_L) : mm_v sh call tbX5_stretch Q (n + 1) i lo st I L = mm_vn sh call tbX5_stretch Q n [(0, .aload_n 0, 1, false, 0, 0, 0, 0, 0, []), (1, .iload_n 1, 1, false, 0, 0, 0, 0, 0, []), (2, .invokevirtual 84, 3, false, 2, 2, 1, 0, 0, []), (5, .ifCond .ne 5, 3, false, 6, 0, 0, 0, 0, []), (8, .iconst (-1), 1, false, 0, 0, 0, 0, 0, []), (9, .ireturn, 1, false, 0, 0, 0, 0, 0, []), (10, .iload_n 2, 1, false, 0, 0, 0, 0, 0, []), (11, .iconst 1, 1, false, 0, 0, 0, 0, 0, []), (12, .if_icmp .ge 6, 3, false, 11, 0, 0, 0, 0, []), (15, .bipush (-2), 2, false, 0, 0, 0, 0, 0, []), (17, .ireturn, 1, false, 0, 0, 0, 0, 0, []), (18, .aload_n 0, 1, false, 0, 0, 0, 0, 0, []), (19, .getfield 13, 3, false, 0, 2, 5, 0, 0, []), (22, .iload_n 1, 1, false, 0, 0, 0, 0, 0, []), (23, .iaload, 1, false, 0, 0, 0, 0, 0, []), (24, .i2l, 1, false, 0, 0, 0, 0, 0, []), (25, .iload_n 2, 1, false, 0, 0, 0, 0, 0, []), (26, .i2l, 1, false, 0, 0, 0, 0, 0, []), (27, .lmul, 1, false, 0, 0, 0, 0, 0, []), (28, .lstore_n 3, 1, false, 0, 0, 0, 0, 0, []), (29, .lload_n 3, 1, false, 0, 0, 0, 0, 0, []), (30, .invokestatic 80, 3, false, 1, 1, 1, 0, 0, []), (33, .ifCond .eq 18, 3, false, 32, 0, 0, 0, 0, []), (36, .aload_n 0, 1, false, 0, 0, 0, 0, 0, []), (37, .getfield 7, 3, false, 0, 1, 4, 0, 0, []), (40, .iload_n 1, 1, false, 0, 0, 0, 0, 0, []), (41, .iaload, 1, false, 0, 0, 0, 0, 0, []), (42, .i2l, 1, false, 0, 0, 0, 0, 0, []), (43, .lload_n 3, 1, false, 0, 0, 0, 0, 0, []), (44, .ladd, 1, false, 0, 0, 0, 0, 0, []), (45, .invokestatic 80, 3, false, 1, 1, 1, 0, 0, []), (48, .ifCond .ne 6, 3, false, 34, 0, 0, 0, 0, []), (51, .bipush (-5), 2, false, 0, 0, 0, 0, 0, []), (53, .ireturn, 1, false, 0, 0, 0, 0, 0, []), (54, .aload_n 0, 1, false, 0, 0, 0, 0, 0, []), (55, .getfield 13, 3, false, 0, 2, 5, 0, 0, []), (58, .iload_n 1, 1, false, 0, 0, 0, 0, 0, []), (59, .lload_n 3, 1, false, 0, 0, 0, 0, 0, []), (60, .l2i, 1, false, 0, 0, 0, 0, 0, []), (61, .iastore, 1, false, 0, 0, 0, 0, 0, []), (62, .iconst 1, 1, false, 0, 0, 0, 0, 0, []), (63, .ireturn, 1, false, 0, 0, 0, 0, 0, [])] i i lo st I L := rfl
set_option maxRecDepth 20000 in
theorem uX5_clue (sh : mm_S) (call : mm_C) (Q : mm_Q) (n i : Nat) (lo st : List Value) (I : mm_I) (L : mm_L) : mm_v sh call tbX5_clue Q (n + 1) i lo st I L = mm_vn sh call tbX5_clue Q n [(0, .aload_n 0, 1, false, 0, 0, 0, 0, 0, []), (1, .iload_n 1, 1, false, 0, 0, 0, 0, 0, []), (2, .invokevirtual 84, 3, false, 2, 2, 1, 0, 0, []), (5, .ifCond .eq 10, 3, false, 7, 0, 0, 0, 0, []), (8, .iload_n 2, 1, false, 0, 0, 0, 0, 0, []), (9, .invokestatic 98, 3, false, 3, 1, 1, 0, 0, []), (12, .ifCond .ne 5, 3, false, 9, 0, 0, 0, 0, []), (15, .iconst (-1), 1, false, 0, 0, 0, 0, 0, []), (16, .ireturn, 1, false, 0, 0, 0, 0, 0, []), (17, .iload_n 3, 1, false, 0, 0, 0, 0, 0, []), (18, .iconst 0, 1, false, 0, 0, 0, 0, 0, []), (19, .iconst 1, 1, false, 0, 0, 0, 0, 0, []), (20, .invokestatic 76, 3, false, 0, 3, 1, 0, 0, []), (23, .ifCond .ne 6, 3, false, 16, 0, 0, 0, 0, []), (26, .bipush (-2), 2, false, 0, 0, 0, 0, 0, []), (28, .ireturn, 1, false, 0, 0, 0, 0, 0, []), (29, .iload_n 3, 1, false, 0, 0, 0, 0, 0, []), (30, .ifCond .ne 12, 3, false, 23, 0, 0, 0, 0, []), (33, .aload_n 0, 1, false, 0, 0, 0, 0, 0, []), (34, .getfield 16, 3, false, 0, 3, 6, 0, 0, []), (37, .iload_n 1, 1, false, 0, 0, 0, 0, 0, []), (38, .iaload, 1, false, 0, 0, 0, 0, 0, []), (39, .goto 9, 3, false, 27, 0, 0, 0, 0, []), (42, .aload_n 0, 1, false, 0, 0, 0, 0, 0, []), (43, .getfield 19, 3, false, 0, 4, 7, 0, 0, []), (46, .iload_n 1, 1, false, 0, 0, 0, 0, 0, []), (47, .iaload, 1, false, 0, 0, 0, 0, 0, []), (48, .istore 5, 2, false, 0, 0, 0, 0, 0, []), (50, .iload 5, 2, false, 0, 0, 0, 0, 0, []), (52, .iload_n 2, 1, false, 0, 0, 0, 0, 0, []), (53, .ishr, 1, false, 0, 0, 0, 0, 0, []), (54, .iconst 1, 1, false, 0, 0, 0, 0, 0, []), (55, .iand, 1, false, 0, 0, 0, 0, 0, []), (56, .iconst 1, 1, false, 0, 0, 0, 0, 0, []), (57, .if_icmp .ne 7, 3, false, 37, 0, 0, 0, 0, []), (60, .iconst 1, 1, false, 0, 0, 0, 0, 0, []), (61, .goto 4, 3, false, 38, 0, 0, 0, 0, []), (64, .iconst 0, 1, false, 0, 0, 0, 0, 0, []), (65, .istore 6, 2, false, 0, 0, 0, 0, 0, []), (67, .iload 6, 2, false, 0, 0, 0, 0, 0, []), (69, .iload 4, 2, false, 0, 0, 0, 0, 0, []), (71, .if_icmp .ne 5, 3, false, 44, 0, 0, 0, 0, []), (74, .iconst 0, 1, false, 0, 0, 0, 0, 0, []), (75, .ireturn, 1, false, 0, 0, 0, 0, 0, []), (76, .iload 4, 2, false, 0, 0, 0, 0, 0, []), (78, .ifCond .eq 12, 3, false, 52, 0, 0, 0, 0, []), (81, .iload 5, 2, false, 0, 0, 0, 0, 0, []), (83, .iconst 1, 1, false, 0, 0, 0, 0, 0, []), (84, .iload_n 2, 1, false, 0, 0, 0, 0, 0, []), (85, .ishl, 1, false, 0, 0, 0, 0, 0, []), (86, .ior, 1, false, 0, 0, 0, 0, 0, []), (87, .goto 11, 3, false, 59, 0, 0, 0, 0, []), (90, .iload 5, 2, false, 0, 0, 0, 0, 0, []), (92, .iconst 1, 1, false, 0, 0, 0, 0, 0, []), (93, .iload_n 2, 1, false, 0, 0, 0, 0, 0, []), (94, .ishl, 1, false, 0, 0, 0, 0, 0, []), (95, .iconst (-1), 1, false, 0, 0, 0, 0, 0, []), (96, .ixor, 1, false, 0, 0, 0, 0, 0, []), (97, .iand, 1, false, 0, 0, 0, 0, 0, []), (98, .istore 7, 2, false, 0, 0, 0, 0, 0, []), (100, .iload_n 3, 1, false, 0, 0, 0, 0, 0, []), (101, .ifCond .ne 14, 3, false, 68, 0, 0, 0, 0, []), (104, .aload_n 0, 1, false, 0, 0, 0, 0, 0, []), (105, .getfield 16, 3, false, 0, 3, 6, 0, 0, []), (108, .iload_n 1, 1, false, 0, 0, 0, 0, 0, []), (109, .iload 7, 2, false, 0, 0, 0, 0, 0, []), (111, .iastore, 1, false, 0, 0, 0, 0, 0, []), (112, .goto 11, 3, false, 73, 0, 0, 0, 0, []), (115, .aload_n 0, 1, false, 0, 0, 0, 0, 0, []), (116, .getfield 19, 3, false, 0, 4, 7, 0, 0, []), (119, .iload_n 1, 1, false, 0, 0, 0, 0, 0, []), (120, .iload 7, 2, false, 0, 0, 0, 0, 0, []), (122, .iastore, 1, false, 0, 0, 0, 0, 0, []), (123, .iconst 1, 1, false, 0, 0, 0, 0, 0, []), (124, .ireturn, 1, false, 0, 0, 0, 0, 0, [])] i i lo st I L := rfl
set_option maxRecDepth 20000 in
theorem uX5_setOf (sh : mm_S) (call : mm_C) (Q : mm_Q) (n i : Nat) (lo st : List Value) (I : mm_I) (L : mm_L) : mm_v sh call tbX5_setOf Q (n + 1) i lo st I L = mm_vn sh call tbX5_setOf Q n [(0, .iconst 0, 1, false, 0, 0, 0, 0, 0, []), (1, .istore_n 3, 1, false, 0, 0, 0, 0, 0, []), (2, .iconst 0, 1, false, 0, 0, 0, 0, 0, []), (3, .istore 4, 2, false, 0, 0, 0, 0, 0, []), (5, .iload 4, 2, true, 0, 0, 0, 0, 0, []), (7, .aload_n 0, 1, false, 0, 0, 0, 0, 0, []), (8, .getfield 73, 3, false, 0, 0, 0, 0, 0, []), (11, .if_icmp .ge 53, 3, false, 37, 0, 0, 0, 0, []), (14, .iload_n 2, 1, false, 0, 0, 0, 0, 0, []), (15, .ifCond .ne 13, 3, false, 15, 0, 0, 0, 0, []), (18, .aload_n 0, 1, false, 0, 0, 0, 0, 0, []), (19, .getfield 16, 3, false, 0, 3, 6, 0, 0, []), (22, .iload 4, 2, false, 0, 0, 0, 0, 0, []), (24, .iaload, 1, false, 0, 0, 0, 0, 0, []), (25, .goto 10, 3, false, 19, 0, 0, 0, 0, []), (28, .aload_n 0, 1, false, 0, 0, 0, 0, 0, []), (29, .getfield 19, 3, false, 0, 4, 7, 0, 0, []), (32, .iload 4, 2, false, 0, 0, 0, 0, 0, []), (34, .iaload, 1, false, 0, 0, 0, 0, 0, []), (35, .istore 5, 2, false, 0, 0, 0, 0, 0, []), (37, .iload_n 3, 1, false, 0, 0, 0, 0, 0, []), (38, .iload 5, 2, false, 0, 0, 0, 0, 0, []), (40, .iload_n 1, 1, false, 0, 0, 0, 0, 0, []), (41, .ishr, 1, false, 0, 0, 0, 0, 0, []), (42, .iconst 1, 1, false, 0, 0, 0, 0, 0, []), (43, .iand, 1, false, 0, 0, 0, 0, 0, []), (44, .iconst 1, 1, false, 0, 0, 0, 0, 0, []), (45, .if_icmp .ne 10, 3, false, 32, 0, 0, 0, 0, []), (48, .iconst 1, 1, false, 0, 0, 0, 0, 0, []), (49, .iload 4, 2, false, 0, 0, 0, 0, 0, []), (51, .ishl, 1, false, 0, 0, 0, 0, 0, []), (52, .goto 4, 3, false, 33, 0, 0, 0, 0, []), (55, .iconst 0, 1, false, 0, 0, 0, 0, 0, []), (56, .ior, 1, false, 0, 0, 0, 0, 0, []), (57, .istore_n 3, 1, false, 0, 0, 0, 0, 0, []), (58, .iinc 4 1, 3, false, 0, 0, 0, 0, 0, []), (61, .goto (-56), 3, false, 4, 0, 0, 0, 0, []), (64, .iload_n 3, 1, false, 0, 0, 0, 0, 0, []), (65, .ireturn, 1, false, 0, 0, 0, 0, 0, [])] i i lo st I L := rfl
set_option maxRecDepth 20000 in
theorem hX5_setOf (sh : mm_S) (call : mm_C) (Q : mm_Q) (n i : Nat) (lo st : List Value) (I : mm_I) (L : mm_L) : mm_h sh call tbX5_setOf Q n i lo st I L = mm_hn sh call tbX5_setOf Q n [(0, .iconst 0, 1, false, 0, 0, 0, 0, 0, []), (1, .istore_n 3, 1, false, 0, 0, 0, 0, 0, []), (2, .iconst 0, 1, false, 0, 0, 0, 0, 0, []), (3, .istore 4, 2, false, 0, 0, 0, 0, 0, []), (5, .iload 4, 2, true, 0, 0, 0, 0, 0, []), (7, .aload_n 0, 1, false, 0, 0, 0, 0, 0, []), (8, .getfield 73, 3, false, 0, 0, 0, 0, 0, []), (11, .if_icmp .ge 53, 3, false, 37, 0, 0, 0, 0, []), (14, .iload_n 2, 1, false, 0, 0, 0, 0, 0, []), (15, .ifCond .ne 13, 3, false, 15, 0, 0, 0, 0, []), (18, .aload_n 0, 1, false, 0, 0, 0, 0, 0, []), (19, .getfield 16, 3, false, 0, 3, 6, 0, 0, []), (22, .iload 4, 2, false, 0, 0, 0, 0, 0, []), (24, .iaload, 1, false, 0, 0, 0, 0, 0, []), (25, .goto 10, 3, false, 19, 0, 0, 0, 0, []), (28, .aload_n 0, 1, false, 0, 0, 0, 0, 0, []), (29, .getfield 19, 3, false, 0, 4, 7, 0, 0, []), (32, .iload 4, 2, false, 0, 0, 0, 0, 0, []), (34, .iaload, 1, false, 0, 0, 0, 0, 0, []), (35, .istore 5, 2, false, 0, 0, 0, 0, 0, []), (37, .iload_n 3, 1, false, 0, 0, 0, 0, 0, []), (38, .iload 5, 2, false, 0, 0, 0, 0, 0, []), (40, .iload_n 1, 1, false, 0, 0, 0, 0, 0, []), (41, .ishr, 1, false, 0, 0, 0, 0, 0, []), (42, .iconst 1, 1, false, 0, 0, 0, 0, 0, []), (43, .iand, 1, false, 0, 0, 0, 0, 0, []), (44, .iconst 1, 1, false, 0, 0, 0, 0, 0, []), (45, .if_icmp .ne 10, 3, false, 32, 0, 0, 0, 0, []), (48, .iconst 1, 1, false, 0, 0, 0, 0, 0, []), (49, .iload 4, 2, false, 0, 0, 0, 0, 0, []), (51, .ishl, 1, false, 0, 0, 0, 0, 0, []), (52, .goto 4, 3, false, 33, 0, 0, 0, 0, []), (55, .iconst 0, 1, false, 0, 0, 0, 0, 0, []), (56, .ior, 1, false, 0, 0, 0, 0, 0, []), (57, .istore_n 3, 1, false, 0, 0, 0, 0, 0, []), (58, .iinc 4 1, 3, false, 0, 0, 0, 0, 0, []), (61, .goto (-56), 3, false, 4, 0, 0, 0, 0, []), (64, .iload_n 3, 1, false, 0, 0, 0, 0, 0, []), (65, .ireturn, 1, false, 0, 0, 0, 0, 0, [])] i i lo st I L := rfl
set_option maxRecDepth 20000 in
theorem uX5_ofClue (sh : mm_S) (call : mm_C) (Q : mm_Q) (n i : Nat) (lo st : List Value) (I : mm_I) (L : mm_L) : mm_v sh call tbX5_ofClue Q (n + 1) i lo st I L = mm_vn sh call tbX5_ofClue Q n [(0, .iload_n 1, 1, false, 0, 0, 0, 0, 0, []), (1, .invokestatic 98, 3, false, 3, 1, 1, 0, 0, []), (4, .ifCond .ne 5, 3, false, 5, 0, 0, 0, 0, []), (7, .iconst (-1), 1, false, 0, 0, 0, 0, 0, []), (8, .ireturn, 1, false, 0, 0, 0, 0, 0, []), (9, .iload_n 2, 1, false, 0, 0, 0, 0, 0, []), (10, .iconst 0, 1, false, 0, 0, 0, 0, 0, []), (11, .iconst 1, 1, false, 0, 0, 0, 0, 0, []), (12, .invokestatic 76, 3, false, 0, 3, 1, 0, 0, []), (15, .ifCond .eq 12, 3, false, 15, 0, 0, 0, 0, []), (18, .aload_n 0, 1, false, 0, 0, 0, 0, 0, []), (19, .iload_n 1, 1, false, 0, 0, 0, 0, 0, []), (20, .iload_n 2, 1, false, 0, 0, 0, 0, 0, []), (21, .invokevirtual 101, 3, false, 12, 3, 1, 0, 0, []), (24, .goto 5, 3, false, 16, 0, 0, 0, 0, []), (27, .bipush (-2), 2, false, 0, 0, 0, 0, 0, []), (29, .ireturn, 1, false, 0, 0, 0, 0, 0, [])] i i lo st I L := rfl
set_option maxRecDepth 20000 in
theorem uX5_drop (sh : mm_S) (call : mm_C) (Q : mm_Q) (n i : Nat) (lo st : List Value) (I : mm_I) (L : mm_L) : mm_v sh call tbX5_drop Q (n + 1) i lo st I L = mm_vn sh call tbX5_drop Q n [(0, .aload_n 0, 1, false, 0, 0, 0, 0, 0, []), (1, .getfield 73, 3, false, 0, 0, 0, 0, 0, []), (4, .ifCond .ne 6, 3, false, 5, 0, 0, 0, 0, []), (7, .bipush (-3), 2, false, 0, 0, 0, 0, 0, []), (9, .ireturn, 1, false, 0, 0, 0, 0, 0, []), (10, .aload_n 0, 1, false, 0, 0, 0, 0, 0, []), (11, .dup, 1, false, 0, 0, 0, 0, 0, []), (12, .getfield 73, 3, false, 0, 0, 0, 0, 0, []), (15, .iconst 1, 1, false, 0, 0, 0, 0, 0, []), (16, .isub, 1, false, 0, 0, 0, 0, 0, []), (17, .putfield 73, 3, false, 0, 0, 0, 0, 0, []), (20, .aload_n 0, 1, false, 0, 0, 0, 0, 0, []), (21, .getfield 73, 3, false, 0, 0, 0, 0, 0, []), (24, .ireturn, 1, false, 0, 0, 0, 0, 0, [])] i i lo st I L := rfl
set_option maxRecDepth 20000 in
theorem uX5_fee (sh : mm_S) (call : mm_C) (Q : mm_Q) (n i : Nat) (lo st : List Value) (I : mm_I) (L : mm_L) : mm_v sh call tbX5_fee Q (n + 1) i lo st I L = mm_vn sh call tbX5_fee Q n [(0, .iload_n 1, 1, false, 0, 0, 0, 0, 0, []), (1, .iconst 0, 1, false, 0, 0, 0, 0, 0, []), (2, .ldc 105, 2, false, 0, 0, 0, 0, 1000000, []), (4, .invokestatic 76, 3, false, 0, 3, 1, 0, 0, []), (7, .ifCond .ne 6, 3, false, 7, 0, 0, 0, 0, []), (10, .bipush (-2), 2, false, 0, 0, 0, 0, 0, []), (12, .ireturn, 1, false, 0, 0, 0, 0, 0, []), (13, .aload_n 0, 1, false, 0, 0, 0, 0, 0, []), (14, .getfield 22, 3, false, 0, 5, 0, 0, 0, []), (17, .istore_n 2, 1, false, 0, 0, 0, 0, 0, []), (18, .aload_n 0, 1, false, 0, 0, 0, 0, 0, []), (19, .iload_n 1, 1, false, 0, 0, 0, 0, 0, []), (20, .putfield 22, 3, false, 0, 5, 0, 0, 0, []), (23, .iload_n 2, 1, false, 0, 0, 0, 0, 0, []), (24, .ireturn, 1, false, 0, 0, 0, 0, 0, [])] i i lo st I L := rfl
set_option maxRecDepth 20000 in
theorem uX5_jumpOf (sh : mm_S) (call : mm_C) (Q : mm_Q) (n i : Nat) (lo st : List Value) (I : mm_I) (L : mm_L) : mm_v sh call tbX5_jumpOf Q (n + 1) i lo st I L = mm_vn sh call tbX5_jumpOf Q n [(0, .aload_n 0, 1, false, 0, 0, 0, 0, 0, []), (1, .getfield 7, 3, false, 0, 1, 4, 0, 0, []), (4, .iload_n 2, 1, false, 0, 0, 0, 0, 0, []), (5, .iaload, 1, false, 0, 0, 0, 0, 0, []), (6, .i2l, 1, false, 0, 0, 0, 0, 0, []), (7, .aload_n 0, 1, false, 0, 0, 0, 0, 0, []), (8, .iload_n 1, 1, false, 0, 0, 0, 0, 0, []), (9, .invokevirtual 90, 3, false, 4, 2, 2, 0, 0, []), (12, .lsub, 1, false, 0, 0, 0, 0, 0, []), (13, .lstore_n 3, 1, false, 0, 0, 0, 0, 0, []), (14, .lload_n 3, 1, false, 0, 0, 0, 0, 0, []), (15, .lconst 0, 1, false, 0, 0, 0, 0, 0, []), (16, .lcmp, 1, false, 0, 0, 0, 0, 0, []), (17, .ifCond .ge 8, 3, false, 17, 0, 0, 0, 0, []), (20, .lload_n 3, 1, false, 0, 0, 0, 0, 0, []), (21, .lneg, 1, false, 0, 0, 0, 0, 0, []), (22, .goto 4, 3, false, 18, 0, 0, 0, 0, []), (25, .lload_n 3, 1, false, 0, 0, 0, 0, 0, []), (26, .lreturn, 1, false, 0, 0, 0, 0, 0, [])] i i lo st I L := rfl
set_option maxRecDepth 20000 in
theorem uX5_jump (sh : mm_S) (call : mm_C) (Q : mm_Q) (n i : Nat) (lo st : List Value) (I : mm_I) (L : mm_L) : mm_v sh call tbX5_jump Q (n + 1) i lo st I L = mm_vn sh call tbX5_jump Q n [(0, .aload_n 0, 1, false, 0, 0, 0, 0, 0, []), (1, .iload_n 1, 1, false, 0, 0, 0, 0, 0, []), (2, .invokevirtual 84, 3, false, 2, 2, 1, 0, 0, []), (5, .ifCond .eq 25, 3, false, 16, 0, 0, 0, 0, []), (8, .aload_n 0, 1, false, 0, 0, 0, 0, 0, []), (9, .iload_n 2, 1, false, 0, 0, 0, 0, 0, []), (10, .invokevirtual 84, 3, false, 2, 2, 1, 0, 0, []), (13, .ifCond .eq 17, 3, false, 16, 0, 0, 0, 0, []), (16, .iload_n 1, 1, false, 0, 0, 0, 0, 0, []), (17, .iload_n 2, 1, false, 0, 0, 0, 0, 0, []), (18, .if_icmp .eq 12, 3, false, 16, 0, 0, 0, 0, []), (21, .aload_n 0, 1, false, 0, 0, 0, 0, 0, []), (22, .iload_n 1, 1, false, 0, 0, 0, 0, 0, []), (23, .iload_n 2, 1, false, 0, 0, 0, 0, 0, []), (24, .invokevirtual 106, 3, false, 16, 3, 2, 0, 0, []), (27, .goto 6, 3, false, 17, 0, 0, 0, 0, []), (30, .ldc2_w 88, 3, false, 0, 0, 0, 0, (-9223372036854775808), []), (33, .lreturn, 1, false, 0, 0, 0, 0, 0, [])] i i lo st I L := rfl
set_option maxRecDepth 20000 in
theorem uX5_firstFrom (sh : mm_S) (call : mm_C) (Q : mm_Q) (n i : Nat) (lo st : List Value) (I : mm_I) (L : mm_L) : mm_v sh call tbX5_firstFrom Q (n + 1) i lo st I L = mm_vn sh call tbX5_firstFrom Q n [(0, .aload_n 0, 1, false, 0, 0, 0, 0, 0, []), (1, .getfield 7, 3, false, 0, 1, 4, 0, 0, []), (4, .iconst 0, 1, false, 0, 0, 0, 0, 0, []), (5, .iaload, 1, false, 0, 0, 0, 0, 0, []), (6, .i2l, 1, false, 0, 0, 0, 0, 0, []), (7, .lstore_n 1, 1, false, 0, 0, 0, 0, 0, []), (8, .iconst 1, 1, false, 0, 0, 0, 0, 0, []), (9, .istore_n 3, 1, false, 0, 0, 0, 0, 0, []), (10, .iload_n 3, 1, true, 0, 0, 0, 0, 0, []), (11, .aload_n 0, 1, false, 0, 0, 0, 0, 0, []), (12, .getfield 73, 3, false, 0, 0, 0, 0, 0, []), (15, .if_icmp .ge 33, 3, false, 30, 0, 0, 0, 0, []), (18, .aload_n 0, 1, false, 0, 0, 0, 0, 0, []), (19, .getfield 7, 3, false, 0, 1, 4, 0, 0, []), (22, .iload_n 3, 1, false, 0, 0, 0, 0, 0, []), (23, .iaload, 1, false, 0, 0, 0, 0, 0, []), (24, .i2l, 1, false, 0, 0, 0, 0, 0, []), (25, .lload_n 1, 1, false, 0, 0, 0, 0, 0, []), (26, .lcmp, 1, false, 0, 0, 0, 0, 0, []), (27, .ifCond .ge 13, 3, false, 26, 0, 0, 0, 0, []), (30, .aload_n 0, 1, false, 0, 0, 0, 0, 0, []), (31, .getfield 7, 3, false, 0, 1, 4, 0, 0, []), (34, .iload_n 3, 1, false, 0, 0, 0, 0, 0, []), (35, .iaload, 1, false, 0, 0, 0, 0, 0, []), (36, .i2l, 1, false, 0, 0, 0, 0, 0, []), (37, .goto 4, 3, false, 27, 0, 0, 0, 0, []), (40, .lload_n 1, 1, false, 0, 0, 0, 0, 0, []), (41, .lstore_n 1, 1, false, 0, 0, 0, 0, 0, []), (42, .iinc 3 1, 3, false, 0, 0, 0, 0, 0, []), (45, .goto (-35), 3, false, 8, 0, 0, 0, 0, []), (48, .lload_n 1, 1, false, 0, 0, 0, 0, 0, []), (49, .lreturn, 1, false, 0, 0, 0, 0, 0, [])] i i lo st I L := rfl
set_option maxRecDepth 20000 in
theorem hX5_firstFrom (sh : mm_S) (call : mm_C) (Q : mm_Q) (n i : Nat) (lo st : List Value) (I : mm_I) (L : mm_L) : mm_h sh call tbX5_firstFrom Q n i lo st I L = mm_hn sh call tbX5_firstFrom Q n [(0, .aload_n 0, 1, false, 0, 0, 0, 0, 0, []), (1, .getfield 7, 3, false, 0, 1, 4, 0, 0, []), (4, .iconst 0, 1, false, 0, 0, 0, 0, 0, []), (5, .iaload, 1, false, 0, 0, 0, 0, 0, []), (6, .i2l, 1, false, 0, 0, 0, 0, 0, []), (7, .lstore_n 1, 1, false, 0, 0, 0, 0, 0, []), (8, .iconst 1, 1, false, 0, 0, 0, 0, 0, []), (9, .istore_n 3, 1, false, 0, 0, 0, 0, 0, []), (10, .iload_n 3, 1, true, 0, 0, 0, 0, 0, []), (11, .aload_n 0, 1, false, 0, 0, 0, 0, 0, []), (12, .getfield 73, 3, false, 0, 0, 0, 0, 0, []), (15, .if_icmp .ge 33, 3, false, 30, 0, 0, 0, 0, []), (18, .aload_n 0, 1, false, 0, 0, 0, 0, 0, []), (19, .getfield 7, 3, false, 0, 1, 4, 0, 0, []), (22, .iload_n 3, 1, false, 0, 0, 0, 0, 0, []), (23, .iaload, 1, false, 0, 0, 0, 0, 0, []), (24, .i2l, 1, false, 0, 0, 0, 0, 0, []), (25, .lload_n 1, 1, false, 0, 0, 0, 0, 0, []), (26, .lcmp, 1, false, 0, 0, 0, 0, 0, []), (27, .ifCond .ge 13, 3, false, 26, 0, 0, 0, 0, []), (30, .aload_n 0, 1, false, 0, 0, 0, 0, 0, []), (31, .getfield 7, 3, false, 0, 1, 4, 0, 0, []), (34, .iload_n 3, 1, false, 0, 0, 0, 0, 0, []), (35, .iaload, 1, false, 0, 0, 0, 0, 0, []), (36, .i2l, 1, false, 0, 0, 0, 0, 0, []), (37, .goto 4, 3, false, 27, 0, 0, 0, 0, []), (40, .lload_n 1, 1, false, 0, 0, 0, 0, 0, []), (41, .lstore_n 1, 1, false, 0, 0, 0, 0, 0, []), (42, .iinc 3 1, 3, false, 0, 0, 0, 0, 0, []), (45, .goto (-35), 3, false, 8, 0, 0, 0, 0, []), (48, .lload_n 1, 1, false, 0, 0, 0, 0, 0, []), (49, .lreturn, 1, false, 0, 0, 0, 0, 0, [])] i i lo st I L := rfl
set_option maxRecDepth 20000 in
theorem uX5_lastEnd (sh : mm_S) (call : mm_C) (Q : mm_Q) (n i : Nat) (lo st : List Value) (I : mm_I) (L : mm_L) : mm_v sh call tbX5_lastEnd Q (n + 1) i lo st I L = mm_vn sh call tbX5_lastEnd Q n [(0, .aload_n 0, 1, false, 0, 0, 0, 0, 0, []), (1, .iconst 0, 1, false, 0, 0, 0, 0, 0, []), (2, .invokevirtual 90, 3, false, 4, 2, 2, 0, 0, []), (5, .lstore_n 1, 1, false, 0, 0, 0, 0, 0, []), (6, .iconst 1, 1, false, 0, 0, 0, 0, 0, []), (7, .istore_n 3, 1, false, 0, 0, 0, 0, 0, []), (8, .iload_n 3, 1, true, 0, 0, 0, 0, 0, []), (9, .aload_n 0, 1, false, 0, 0, 0, 0, 0, []), (10, .getfield 73, 3, false, 0, 0, 0, 0, 0, []), (13, .if_icmp .ge 29, 3, false, 24, 0, 0, 0, 0, []), (16, .aload_n 0, 1, false, 0, 0, 0, 0, 0, []), (17, .iload_n 3, 1, false, 0, 0, 0, 0, 0, []), (18, .invokevirtual 90, 3, false, 4, 2, 2, 0, 0, []), (21, .lload_n 1, 1, false, 0, 0, 0, 0, 0, []), (22, .lcmp, 1, false, 0, 0, 0, 0, 0, []), (23, .ifCond .le 11, 3, false, 20, 0, 0, 0, 0, []), (26, .aload_n 0, 1, false, 0, 0, 0, 0, 0, []), (27, .iload_n 3, 1, false, 0, 0, 0, 0, 0, []), (28, .invokevirtual 90, 3, false, 4, 2, 2, 0, 0, []), (31, .goto 4, 3, false, 21, 0, 0, 0, 0, []), (34, .lload_n 1, 1, false, 0, 0, 0, 0, 0, []), (35, .lstore_n 1, 1, false, 0, 0, 0, 0, 0, []), (36, .iinc 3 1, 3, false, 0, 0, 0, 0, 0, []), (39, .goto (-31), 3, false, 6, 0, 0, 0, 0, []), (42, .lload_n 1, 1, false, 0, 0, 0, 0, 0, []), (43, .lreturn, 1, false, 0, 0, 0, 0, 0, [])] i i lo st I L := rfl
set_option maxRecDepth 20000 in
theorem hX5_lastEnd (sh : mm_S) (call : mm_C) (Q : mm_Q) (n i : Nat) (lo st : List Value) (I : mm_I) (L : mm_L) : mm_h sh call tbX5_lastEnd Q n i lo st I L = mm_hn sh call tbX5_lastEnd Q n [(0, .aload_n 0, 1, false, 0, 0, 0, 0, 0, []), (1, .iconst 0, 1, false, 0, 0, 0, 0, 0, []), (2, .invokevirtual 90, 3, false, 4, 2, 2, 0, 0, []), (5, .lstore_n 1, 1, false, 0, 0, 0, 0, 0, []), (6, .iconst 1, 1, false, 0, 0, 0, 0, 0, []), (7, .istore_n 3, 1, false, 0, 0, 0, 0, 0, []), (8, .iload_n 3, 1, true, 0, 0, 0, 0, 0, []), (9, .aload_n 0, 1, false, 0, 0, 0, 0, 0, []), (10, .getfield 73, 3, false, 0, 0, 0, 0, 0, []), (13, .if_icmp .ge 29, 3, false, 24, 0, 0, 0, 0, []), (16, .aload_n 0, 1, false, 0, 0, 0, 0, 0, []), (17, .iload_n 3, 1, false, 0, 0, 0, 0, 0, []), (18, .invokevirtual 90, 3, false, 4, 2, 2, 0, 0, []), (21, .lload_n 1, 1, false, 0, 0, 0, 0, 0, []), (22, .lcmp, 1, false, 0, 0, 0, 0, 0, []), (23, .ifCond .le 11, 3, false, 20, 0, 0, 0, 0, []), (26, .aload_n 0, 1, false, 0, 0, 0, 0, 0, []), (27, .iload_n 3, 1, false, 0, 0, 0, 0, 0, []), (28, .invokevirtual 90, 3, false, 4, 2, 2, 0, 0, []), (31, .goto 4, 3, false, 21, 0, 0, 0, 0, []), (34, .lload_n 1, 1, false, 0, 0, 0, 0, 0, []), (35, .lstore_n 1, 1, false, 0, 0, 0, 0, 0, []), (36, .iinc 3 1, 3, false, 0, 0, 0, 0, 0, []), (39, .goto (-31), 3, false, 6, 0, 0, 0, 0, []), (42, .lload_n 1, 1, false, 0, 0, 0, 0, 0, []), (43, .lreturn, 1, false, 0, 0, 0, 0, 0, [])] i i lo st I L := rfl
set_option maxRecDepth 20000 in
theorem uX5_nextFrom (sh : mm_S) (call : mm_C) (Q : mm_Q) (n i : Nat) (lo st : List Value) (I : mm_I) (L : mm_L) : mm_v sh call tbX5_nextFrom Q (n + 1) i lo st I L = mm_vn sh call tbX5_nextFrom Q n [(0, .aload_n 0, 1, false, 0, 0, 0, 0, 0, []), (1, .invokevirtual 110, 3, false, 19, 1, 2, 0, 0, []), (4, .lstore_n 3, 1, false, 0, 0, 0, 0, 0, []), (5, .iconst 0, 1, false, 0, 0, 0, 0, 0, []), (6, .istore 5, 2, false, 0, 0, 0, 0, 0, []), (8, .iload 5, 2, true, 0, 0, 0, 0, 0, []), (10, .aload_n 0, 1, false, 0, 0, 0, 0, 0, []), (11, .getfield 73, 3, false, 0, 0, 0, 0, 0, []), (14, .if_icmp .ge 48, 3, false, 35, 0, 0, 0, 0, []), (17, .aload_n 0, 1, false, 0, 0, 0, 0, 0, []), (18, .getfield 7, 3, false, 0, 1, 4, 0, 0, []), (21, .iload 5, 2, false, 0, 0, 0, 0, 0, []), (23, .iaload, 1, false, 0, 0, 0, 0, 0, []), (24, .i2l, 1, false, 0, 0, 0, 0, 0, []), (25, .lload_n 1, 1, false, 0, 0, 0, 0, 0, []), (26, .lcmp, 1, false, 0, 0, 0, 0, 0, []), (27, .ifCond .le 27, 3, false, 31, 0, 0, 0, 0, []), (30, .aload_n 0, 1, false, 0, 0, 0, 0, 0, []), (31, .getfield 7, 3, false, 0, 1, 4, 0, 0, []), (34, .iload 5, 2, false, 0, 0, 0, 0, 0, []), (36, .iaload, 1, false, 0, 0, 0, 0, 0, []), (37, .i2l, 1, false, 0, 0, 0, 0, 0, []), (38, .lload_n 3, 1, false, 0, 0, 0, 0, 0, []), (39, .lcmp, 1, false, 0, 0, 0, 0, 0, []), (40, .ifCond .ge 14, 3, false, 31, 0, 0, 0, 0, []), (43, .aload_n 0, 1, false, 0, 0, 0, 0, 0, []), (44, .getfield 7, 3, false, 0, 1, 4, 0, 0, []), (47, .iload 5, 2, false, 0, 0, 0, 0, 0, []), (49, .iaload, 1, false, 0, 0, 0, 0, 0, []), (50, .i2l, 1, false, 0, 0, 0, 0, 0, []), (51, .goto 4, 3, false, 32, 0, 0, 0, 0, []), (54, .lload_n 3, 1, false, 0, 0, 0, 0, 0, []), (55, .lstore_n 3, 1, false, 0, 0, 0, 0, 0, []), (56, .iinc 5 1, 3, false, 0, 0, 0, 0, 0, []), (59, .goto (-51), 3, false, 5, 0, 0, 0, 0, []), (62, .lload_n 3, 1, false, 0, 0, 0, 0, 0, []), (63, .lreturn, 1, false, 0, 0, 0, 0, 0, [])] i i lo st I L := rfl
set_option maxRecDepth 20000 in
theorem hX5_nextFrom (sh : mm_S) (call : mm_C) (Q : mm_Q) (n i : Nat) (lo st : List Value) (I : mm_I) (L : mm_L) : mm_h sh call tbX5_nextFrom Q n i lo st I L = mm_hn sh call tbX5_nextFrom Q n [(0, .aload_n 0, 1, false, 0, 0, 0, 0, 0, []), (1, .invokevirtual 110, 3, false, 19, 1, 2, 0, 0, []), (4, .lstore_n 3, 1, false, 0, 0, 0, 0, 0, []), (5, .iconst 0, 1, false, 0, 0, 0, 0, 0, []), (6, .istore 5, 2, false, 0, 0, 0, 0, 0, []), (8, .iload 5, 2, true, 0, 0, 0, 0, 0, []), (10, .aload_n 0, 1, false, 0, 0, 0, 0, 0, []), (11, .getfield 73, 3, false, 0, 0, 0, 0, 0, []), (14, .if_icmp .ge 48, 3, false, 35, 0, 0, 0, 0, []), (17, .aload_n 0, 1, false, 0, 0, 0, 0, 0, []), (18, .getfield 7, 3, false, 0, 1, 4, 0, 0, []), (21, .iload 5, 2, false, 0, 0, 0, 0, 0, []), (23, .iaload, 1, false, 0, 0, 0, 0, 0, []), (24, .i2l, 1, false, 0, 0, 0, 0, 0, []), (25, .lload_n 1, 1, false, 0, 0, 0, 0, 0, []), (26, .lcmp, 1, false, 0, 0, 0, 0, 0, []), (27, .ifCond .le 27, 3, false, 31, 0, 0, 0, 0, []), (30, .aload_n 0, 1, false, 0, 0, 0, 0, 0, []), (31, .getfield 7, 3, false, 0, 1, 4, 0, 0, []), (34, .iload 5, 2, false, 0, 0, 0, 0, 0, []), (36, .iaload, 1, false, 0, 0, 0, 0, 0, []), (37, .i2l, 1, false, 0, 0, 0, 0, 0, []), (38, .lload_n 3, 1, false, 0, 0, 0, 0, 0, []), (39, .lcmp, 1, false, 0, 0, 0, 0, 0, []), (40, .ifCond .ge 14, 3, false, 31, 0, 0, 0, 0, []), (43, .aload_n 0, 1, false, 0, 0, 0, 0, 0, []), (44, .getfield 7, 3, false, 0, 1, 4, 0, 0, []), (47, .iload 5, 2, false, 0, 0, 0, 0, 0, []), (49, .iaload, 1, false, 0, 0, 0, 0, 0, []), (50, .i2l, 1, false, 0, 0, 0, 0, 0, []), (51, .goto 4, 3, false, 32, 0, 0, 0, 0, []), (54, .lload_n 3, 1, false, 0, 0, 0, 0, 0, []), (55, .lstore_n 3, 1, false, 0, 0, 0, 0, 0, []), (56, .iinc 5 1, 3, false, 0, 0, 0, 0, 0, []), (59, .goto (-51), 3, false, 5, 0, 0, 0, 0, []), (62, .lload_n 3, 1, false, 0, 0, 0, 0, 0, []), (63, .lreturn, 1, false, 0, 0, 0, 0, 0, [])] i i lo st I L := rfl
set_option maxRecDepth 20000 in
theorem uX5_toldTo (sh : mm_S) (call : mm_C) (Q : mm_Q) (n i : Nat) (lo st : List Value) (I : mm_I) (L : mm_L) : mm_v sh call tbX5_toldTo Q (n + 1) i lo st I L = mm_vn sh call tbX5_toldTo Q n [(0, .lload_n 1, 1, false, 0, 0, 0, 0, 0, []), (1, .lstore_n 3, 1, false, 0, 0, 0, 0, 0, []), (2, .iconst 1, 1, false, 0, 0, 0, 0, 0, []), (3, .istore 5, 2, false, 0, 0, 0, 0, 0, []), (5, .iload 5, 2, true, 0, 0, 0, 0, 0, []), (7, .ifCond .eq 61, 3, false, 37, 0, 0, 0, 0, []), (10, .iconst 0, 1, false, 0, 0, 0, 0, 0, []), (11, .istore 5, 2, false, 0, 0, 0, 0, 0, []), (13, .iconst 0, 1, false, 0, 0, 0, 0, 0, []), (14, .istore 6, 2, false, 0, 0, 0, 0, 0, []), (16, .iload 6, 2, true, 0, 0, 0, 0, 0, []), (18, .aload_n 0, 1, false, 0, 0, 0, 0, 0, []), (19, .getfield 73, 3, false, 0, 0, 0, 0, 0, []), (22, .if_icmp .ge 43, 3, false, 36, 0, 0, 0, 0, []), (25, .aload_n 0, 1, false, 0, 0, 0, 0, 0, []), (26, .getfield 7, 3, false, 0, 1, 4, 0, 0, []), (29, .iload 6, 2, false, 0, 0, 0, 0, 0, []), (31, .iaload, 1, false, 0, 0, 0, 0, 0, []), (32, .i2l, 1, false, 0, 0, 0, 0, 0, []), (33, .lload_n 3, 1, false, 0, 0, 0, 0, 0, []), (34, .lcmp, 1, false, 0, 0, 0, 0, 0, []), (35, .ifCond .gt 24, 3, false, 34, 0, 0, 0, 0, []), (38, .aload_n 0, 1, false, 0, 0, 0, 0, 0, []), (39, .iload 6, 2, false, 0, 0, 0, 0, 0, []), (41, .invokevirtual 90, 3, false, 4, 2, 2, 0, 0, []), (44, .lload_n 3, 1, false, 0, 0, 0, 0, 0, []), (45, .lcmp, 1, false, 0, 0, 0, 0, 0, []), (46, .ifCond .le 13, 3, false, 34, 0, 0, 0, 0, []), (49, .aload_n 0, 1, false, 0, 0, 0, 0, 0, []), (50, .iload 6, 2, false, 0, 0, 0, 0, 0, []), (52, .invokevirtual 90, 3, false, 4, 2, 2, 0, 0, []), (55, .lstore_n 3, 1, false, 0, 0, 0, 0, 0, []), (56, .iconst 1, 1, false, 0, 0, 0, 0, 0, []), (57, .istore 5, 2, false, 0, 0, 0, 0, 0, []), (59, .iinc 6 1, 3, false, 0, 0, 0, 0, 0, []), (62, .goto (-46), 3, false, 10, 0, 0, 0, 0, []), (65, .goto (-60), 3, false, 4, 0, 0, 0, 0, []), (68, .lload_n 3, 1, false, 0, 0, 0, 0, 0, []), (69, .lreturn, 1, false, 0, 0, 0, 0, 0, [])] i i lo st I L := rfl
set_option maxRecDepth 20000 in
theorem hX5_toldTo (sh : mm_S) (call : mm_C) (Q : mm_Q) (n i : Nat) (lo st : List Value) (I : mm_I) (L : mm_L) : mm_h sh call tbX5_toldTo Q n i lo st I L = mm_hn sh call tbX5_toldTo Q n [(0, .lload_n 1, 1, false, 0, 0, 0, 0, 0, []), (1, .lstore_n 3, 1, false, 0, 0, 0, 0, 0, []), (2, .iconst 1, 1, false, 0, 0, 0, 0, 0, []), (3, .istore 5, 2, false, 0, 0, 0, 0, 0, []), (5, .iload 5, 2, true, 0, 0, 0, 0, 0, []), (7, .ifCond .eq 61, 3, false, 37, 0, 0, 0, 0, []), (10, .iconst 0, 1, false, 0, 0, 0, 0, 0, []), (11, .istore 5, 2, false, 0, 0, 0, 0, 0, []), (13, .iconst 0, 1, false, 0, 0, 0, 0, 0, []), (14, .istore 6, 2, false, 0, 0, 0, 0, 0, []), (16, .iload 6, 2, true, 0, 0, 0, 0, 0, []), (18, .aload_n 0, 1, false, 0, 0, 0, 0, 0, []), (19, .getfield 73, 3, false, 0, 0, 0, 0, 0, []), (22, .if_icmp .ge 43, 3, false, 36, 0, 0, 0, 0, []), (25, .aload_n 0, 1, false, 0, 0, 0, 0, 0, []), (26, .getfield 7, 3, false, 0, 1, 4, 0, 0, []), (29, .iload 6, 2, false, 0, 0, 0, 0, 0, []), (31, .iaload, 1, false, 0, 0, 0, 0, 0, []), (32, .i2l, 1, false, 0, 0, 0, 0, 0, []), (33, .lload_n 3, 1, false, 0, 0, 0, 0, 0, []), (34, .lcmp, 1, false, 0, 0, 0, 0, 0, []), (35, .ifCond .gt 24, 3, false, 34, 0, 0, 0, 0, []), (38, .aload_n 0, 1, false, 0, 0, 0, 0, 0, []), (39, .iload 6, 2, false, 0, 0, 0, 0, 0, []), (41, .invokevirtual 90, 3, false, 4, 2, 2, 0, 0, []), (44, .lload_n 3, 1, false, 0, 0, 0, 0, 0, []), (45, .lcmp, 1, false, 0, 0, 0, 0, 0, []), (46, .ifCond .le 13, 3, false, 34, 0, 0, 0, 0, []), (49, .aload_n 0, 1, false, 0, 0, 0, 0, 0, []), (50, .iload 6, 2, false, 0, 0, 0, 0, 0, []), (52, .invokevirtual 90, 3, false, 4, 2, 2, 0, 0, []), (55, .lstore_n 3, 1, false, 0, 0, 0, 0, 0, []), (56, .iconst 1, 1, false, 0, 0, 0, 0, 0, []), (57, .istore 5, 2, false, 0, 0, 0, 0, 0, []), (59, .iinc 6 1, 3, false, 0, 0, 0, 0, 0, []), (62, .goto (-46), 3, false, 10, 0, 0, 0, 0, []), (65, .goto (-60), 3, false, 4, 0, 0, 0, 0, []), (68, .lload_n 3, 1, false, 0, 0, 0, 0, 0, []), (69, .lreturn, 1, false, 0, 0, 0, 0, 0, [])] i i lo st I L := rfl
set_option maxRecDepth 20000 in
theorem uX5_gaps (sh : mm_S) (call : mm_C) (Q : mm_Q) (n i : Nat) (lo st : List Value) (I : mm_I) (L : mm_L) : mm_v sh call tbX5_gaps Q (n + 1) i lo st I L = mm_vn sh call tbX5_gaps Q n [(0, .lconst 0, 1, false, 0, 0, 0, 0, 0, []), (1, .lstore_n 1, 1, false, 0, 0, 0, 0, 0, []), (2, .aload_n 0, 1, false, 0, 0, 0, 0, 0, []), (3, .aload_n 0, 1, false, 0, 0, 0, 0, 0, []), (4, .invokevirtual 114, 3, false, 18, 1, 2, 0, 0, []), (7, .invokevirtual 117, 3, false, 21, 2, 2, 0, 0, []), (10, .lstore_n 3, 1, false, 0, 0, 0, 0, 0, []), (11, .lload_n 3, 1, true, 0, 0, 0, 0, 0, []), (12, .aload_n 0, 1, false, 0, 0, 0, 0, 0, []), (13, .invokevirtual 110, 3, false, 19, 1, 2, 0, 0, []), (16, .lcmp, 1, false, 0, 0, 0, 0, 0, []), (17, .ifCond .ge 27, 3, false, 27, 0, 0, 0, 0, []), (20, .aload_n 0, 1, false, 0, 0, 0, 0, 0, []), (21, .lload_n 3, 1, false, 0, 0, 0, 0, 0, []), (22, .invokevirtual 121, 3, false, 20, 2, 2, 0, 0, []), (25, .lstore 5, 2, false, 0, 0, 0, 0, 0, []), (27, .lload_n 1, 1, false, 0, 0, 0, 0, 0, []), (28, .lload 5, 2, false, 0, 0, 0, 0, 0, []), (30, .lload_n 3, 1, false, 0, 0, 0, 0, 0, []), (31, .lsub, 1, false, 0, 0, 0, 0, 0, []), (32, .ladd, 1, false, 0, 0, 0, 0, 0, []), (33, .lstore_n 1, 1, false, 0, 0, 0, 0, 0, []), (34, .aload_n 0, 1, false, 0, 0, 0, 0, 0, []), (35, .lload 5, 2, false, 0, 0, 0, 0, 0, []), (37, .invokevirtual 117, 3, false, 21, 2, 2, 0, 0, []), (40, .lstore_n 3, 1, false, 0, 0, 0, 0, 0, []), (41, .goto (-30), 3, false, 7, 0, 0, 0, 0, []), (44, .lload_n 1, 1, false, 0, 0, 0, 0, 0, []), (45, .lreturn, 1, false, 0, 0, 0, 0, 0, [])] i i lo st I L := rfl
set_option maxRecDepth 20000 in
theorem hX5_gaps (sh : mm_S) (call : mm_C) (Q : mm_Q) (n i : Nat) (lo st : List Value) (I : mm_I) (L : mm_L) : mm_h sh call tbX5_gaps Q n i lo st I L = mm_hn sh call tbX5_gaps Q n [(0, .lconst 0, 1, false, 0, 0, 0, 0, 0, []), (1, .lstore_n 1, 1, false, 0, 0, 0, 0, 0, []), (2, .aload_n 0, 1, false, 0, 0, 0, 0, 0, []), (3, .aload_n 0, 1, false, 0, 0, 0, 0, 0, []), (4, .invokevirtual 114, 3, false, 18, 1, 2, 0, 0, []), (7, .invokevirtual 117, 3, false, 21, 2, 2, 0, 0, []), (10, .lstore_n 3, 1, false, 0, 0, 0, 0, 0, []), (11, .lload_n 3, 1, true, 0, 0, 0, 0, 0, []), (12, .aload_n 0, 1, false, 0, 0, 0, 0, 0, []), (13, .invokevirtual 110, 3, false, 19, 1, 2, 0, 0, []), (16, .lcmp, 1, false, 0, 0, 0, 0, 0, []), (17, .ifCond .ge 27, 3, false, 27, 0, 0, 0, 0, []), (20, .aload_n 0, 1, false, 0, 0, 0, 0, 0, []), (21, .lload_n 3, 1, false, 0, 0, 0, 0, 0, []), (22, .invokevirtual 121, 3, false, 20, 2, 2, 0, 0, []), (25, .lstore 5, 2, false, 0, 0, 0, 0, 0, []), (27, .lload_n 1, 1, false, 0, 0, 0, 0, 0, []), (28, .lload 5, 2, false, 0, 0, 0, 0, 0, []), (30, .lload_n 3, 1, false, 0, 0, 0, 0, 0, []), (31, .lsub, 1, false, 0, 0, 0, 0, 0, []), (32, .ladd, 1, false, 0, 0, 0, 0, 0, []), (33, .lstore_n 1, 1, false, 0, 0, 0, 0, 0, []), (34, .aload_n 0, 1, false, 0, 0, 0, 0, 0, []), (35, .lload 5, 2, false, 0, 0, 0, 0, 0, []), (37, .invokevirtual 117, 3, false, 21, 2, 2, 0, 0, []), (40, .lstore_n 3, 1, false, 0, 0, 0, 0, 0, []), (41, .goto (-30), 3, false, 7, 0, 0, 0, 0, []), (44, .lload_n 1, 1, false, 0, 0, 0, 0, 0, []), (45, .lreturn, 1, false, 0, 0, 0, 0, 0, [])] i i lo st I L := rfl
set_option maxRecDepth 20000 in
theorem uX5_span (sh : mm_S) (call : mm_C) (Q : mm_Q) (n i : Nat) (lo st : List Value) (I : mm_I) (L : mm_L) : mm_v sh call tbX5_span Q (n + 1) i lo st I L = mm_vn sh call tbX5_span Q n [(0, .iload_n 1, 1, false, 0, 0, 0, 0, 0, []), (1, .iconst 0, 1, false, 0, 0, 0, 0, 0, []), (2, .iconst 1, 1, false, 0, 0, 0, 0, 0, []), (3, .invokestatic 76, 3, false, 0, 3, 1, 0, 0, []), (6, .ifCond .eq 10, 3, false, 8, 0, 0, 0, 0, []), (9, .aload_n 0, 1, false, 0, 0, 0, 0, 0, []), (10, .getfield 73, 3, false, 0, 0, 0, 0, 0, []), (13, .ifCond .ne 7, 3, false, 10, 0, 0, 0, 0, []), (16, .ldc2_w 88, 3, false, 0, 0, 0, 0, (-9223372036854775808), []), (19, .lreturn, 1, false, 0, 0, 0, 0, 0, []), (20, .iload_n 1, 1, false, 0, 0, 0, 0, 0, []), (21, .ifCond .ne 15, 3, false, 18, 0, 0, 0, 0, []), (24, .aload_n 0, 1, false, 0, 0, 0, 0, 0, []), (25, .invokevirtual 110, 3, false, 19, 1, 2, 0, 0, []), (28, .aload_n 0, 1, false, 0, 0, 0, 0, 0, []), (29, .invokevirtual 114, 3, false, 18, 1, 2, 0, 0, []), (32, .lsub, 1, false, 0, 0, 0, 0, 0, []), (33, .goto 7, 3, false, 20, 0, 0, 0, 0, []), (36, .aload_n 0, 1, false, 0, 0, 0, 0, 0, []), (37, .invokevirtual 124, 3, false, 22, 1, 2, 0, 0, []), (40, .lreturn, 1, false, 0, 0, 0, 0, 0, [])] i i lo st I L := rfl
set_option maxRecDepth 20000 in
theorem uX5_add (sh : mm_S) (call : mm_C) (Q : mm_Q) (n i : Nat) (lo st : List Value) (I : mm_I) (L : mm_L) : mm_v sh call tbX5_add Q (n + 1) i lo st I L = mm_vn sh call tbX5_add Q n [(0, .iload_n 1, 1, false, 0, 0, 0, 0, 0, []), (1, .iconst 0, 1, false, 0, 0, 0, 0, 0, []), (2, .bipush 7, 2, false, 0, 0, 0, 0, 0, []), (4, .invokestatic 76, 3, false, 0, 3, 1, 0, 0, []), (7, .ifCond .ne 18, 3, false, 13, 0, 0, 0, 0, []), (10, .iload_n 1, 1, false, 0, 0, 0, 0, 0, []), (11, .bipush 20, 2, false, 0, 0, 0, 0, 0, []), (13, .if_icmp .eq 12, 3, false, 13, 0, 0, 0, 0, []), (16, .iload_n 1, 1, false, 0, 0, 0, 0, 0, []), (17, .bipush 21, 2, false, 0, 0, 0, 0, 0, []), (19, .if_icmp .eq 6, 3, false, 13, 0, 0, 0, 0, []), (22, .bipush (-2), 2, false, 0, 0, 0, 0, 0, []), (24, .ireturn, 1, false, 0, 0, 0, 0, 0, []), (25, .aload_n 0, 1, false, 0, 0, 0, 0, 0, []), (26, .getfield 127, 3, false, 0, 6, 0, 0, 0, []), (29, .bipush 40, 2, false, 0, 0, 0, 0, 0, []), (31, .if_icmp .ne 6, 3, false, 19, 0, 0, 0, 0, []), (34, .bipush (-4), 2, false, 0, 0, 0, 0, 0, []), (36, .ireturn, 1, false, 0, 0, 0, 0, 0, []), (37, .aload_n 0, 1, false, 0, 0, 0, 0, 0, []), (38, .getfield 26, 3, false, 0, 7, 8, 0, 0, []), (41, .aload_n 0, 1, false, 0, 0, 0, 0, 0, []), (42, .getfield 127, 3, false, 0, 6, 0, 0, 0, []), (45, .iload_n 1, 1, false, 0, 0, 0, 0, 0, []), (46, .iastore, 1, false, 0, 0, 0, 0, 0, []), (47, .aload_n 0, 1, false, 0, 0, 0, 0, 0, []), (48, .dup, 1, false, 0, 0, 0, 0, 0, []), (49, .getfield 127, 3, false, 0, 6, 0, 0, 0, []), (52, .iconst 1, 1, false, 0, 0, 0, 0, 0, []), (53, .iadd, 1, false, 0, 0, 0, 0, 0, []), (54, .putfield 127, 3, false, 0, 6, 0, 0, 0, []), (57, .aload_n 0, 1, false, 0, 0, 0, 0, 0, []), (58, .getfield 127, 3, false, 0, 6, 0, 0, 0, []), (61, .ireturn, 1, false, 0, 0, 0, 0, 0, [])] i i lo st I L := rfl
set_option maxRecDepth 20000 in
theorem uX5_cut (sh : mm_S) (call : mm_C) (Q : mm_Q) (n i : Nat) (lo st : List Value) (I : mm_I) (L : mm_L) : mm_v sh call tbX5_cut Q (n + 1) i lo st I L = mm_vn sh call tbX5_cut Q n [(0, .iload_n 1, 1, false, 0, 0, 0, 0, 0, []), (1, .iconst 0, 1, false, 0, 0, 0, 0, 0, []), (2, .aload_n 0, 1, false, 0, 0, 0, 0, 0, []), (3, .getfield 127, 3, false, 0, 6, 0, 0, 0, []), (6, .invokestatic 76, 3, false, 0, 3, 1, 0, 0, []), (9, .ifCond .ne 6, 3, false, 8, 0, 0, 0, 0, []), (12, .bipush (-2), 2, false, 0, 0, 0, 0, 0, []), (14, .ireturn, 1, false, 0, 0, 0, 0, 0, []), (15, .aload_n 0, 1, false, 0, 0, 0, 0, 0, []), (16, .dup, 1, false, 0, 0, 0, 0, 0, []), (17, .getfield 127, 3, false, 0, 6, 0, 0, 0, []), (20, .iload_n 1, 1, false, 0, 0, 0, 0, 0, []), (21, .isub, 1, false, 0, 0, 0, 0, 0, []), (22, .putfield 127, 3, false, 0, 6, 0, 0, 0, []), (25, .aload_n 0, 1, false, 0, 0, 0, 0, 0, []), (26, .getfield 127, 3, false, 0, 6, 0, 0, 0, []), (29, .ireturn, 1, false, 0, 0, 0, 0, 0, [])] i i lo st I L := rfl
set_option maxRecDepth 20000 in
theorem uX5_sideBy (sh : mm_S) (call : mm_C) (Q : mm_Q) (n i : Nat) (lo st : List Value) (I : mm_I) (L : mm_L) : mm_v sh call tbX5_sideBy Q (n + 1) i lo st I L = mm_vn sh call tbX5_sideBy Q n [(0, .aload_n 0, 1, false, 0, 0, 0, 0, 0, []), (1, .iload_n 1, 1, false, 0, 0, 0, 0, 0, []), (2, .invokevirtual 90, 3, false, 4, 2, 2, 0, 0, []), (5, .aload_n 0, 1, false, 0, 0, 0, 0, 0, []), (6, .getfield 7, 3, false, 0, 1, 4, 0, 0, []), (9, .iload_n 2, 1, false, 0, 0, 0, 0, 0, []), (10, .iaload, 1, false, 0, 0, 0, 0, 0, []), (11, .i2l, 1, false, 0, 0, 0, 0, 0, []), (12, .lcmp, 1, false, 0, 0, 0, 0, 0, []), (13, .ifCond .gt 7, 3, false, 12, 0, 0, 0, 0, []), (16, .iconst 0, 1, false, 0, 0, 0, 0, 0, []), (17, .goto 25, 3, false, 25, 0, 0, 0, 0, []), (20, .aload_n 0, 1, false, 0, 0, 0, 0, 0, []), (21, .getfield 7, 3, false, 0, 1, 4, 0, 0, []), (24, .iload_n 1, 1, false, 0, 0, 0, 0, 0, []), (25, .iaload, 1, false, 0, 0, 0, 0, 0, []), (26, .i2l, 1, false, 0, 0, 0, 0, 0, []), (27, .aload_n 0, 1, false, 0, 0, 0, 0, 0, []), (28, .iload_n 2, 1, false, 0, 0, 0, 0, 0, []), (29, .invokevirtual 90, 3, false, 4, 2, 2, 0, 0, []), (32, .lcmp, 1, false, 0, 0, 0, 0, 0, []), (33, .ifCond .lt 7, 3, false, 24, 0, 0, 0, 0, []), (36, .iconst 1, 1, false, 0, 0, 0, 0, 0, []), (37, .goto 5, 3, false, 25, 0, 0, 0, 0, []), (40, .bipush (-9), 2, false, 0, 0, 0, 0, 0, []), (42, .ireturn, 1, false, 0, 0, 0, 0, 0, [])] i i lo st I L := rfl
set_option maxRecDepth 20000 in
theorem uX5_isOnSide (sh : mm_S) (call : mm_C) (Q : mm_Q) (n i : Nat) (lo st : List Value) (I : mm_I) (L : mm_L) : mm_v sh call tbX5_isOnSide Q (n + 1) i lo st I L = mm_vn sh call tbX5_isOnSide Q n [(0, .aload_n 0, 1, false, 0, 0, 0, 0, 0, []), (1, .getfield 130, 3, false, 0, 9, 0, 0, 0, []), (4, .ifCond .ne 5, 3, false, 5, 0, 0, 0, 0, []), (7, .iconst 1, 1, false, 0, 0, 0, 0, 0, []), (8, .ireturn, 1, false, 0, 0, 1, 0, 0, []), (9, .aload_n 0, 1, false, 0, 0, 0, 0, 0, []), (10, .iload_n 1, 1, false, 0, 0, 0, 0, 0, []), (11, .aload_n 0, 1, false, 0, 0, 0, 0, 0, []), (12, .getfield 32, 3, false, 0, 11, 10, 0, 0, []), (15, .aload_n 0, 1, false, 0, 0, 0, 0, 0, []), (16, .getfield 130, 3, false, 0, 9, 0, 0, 0, []), (19, .iaload, 1, false, 0, 0, 0, 0, 0, []), (20, .invokevirtual 133, 3, false, 26, 3, 1, 0, 0, []), (23, .istore_n 2, 1, false, 0, 0, 0, 0, 0, []), (24, .iload_n 2, 1, false, 0, 0, 0, 0, 0, []), (25, .bipush (-9), 2, false, 0, 0, 0, 0, 0, []), (27, .if_icmp .eq 34, 3, false, 33, 0, 0, 0, 0, []), (30, .aload_n 0, 1, false, 0, 0, 0, 0, 0, []), (31, .getfield 29, 3, false, 0, 10, 9, 0, 0, []), (34, .aload_n 0, 1, false, 0, 0, 0, 0, 0, []), (35, .getfield 130, 3, false, 0, 9, 0, 0, 0, []), (38, .iaload, 1, false, 0, 0, 0, 0, 0, []), (39, .bipush (-9), 2, false, 0, 0, 0, 0, 0, []), (41, .if_icmp .eq 16, 3, false, 31, 0, 0, 0, 0, []), (44, .iload_n 2, 1, false, 0, 0, 0, 0, 0, []), (45, .aload_n 0, 1, false, 0, 0, 0, 0, 0, []), (46, .getfield 35, 3, false, 0, 12, 11, 0, 0, []), (49, .aload_n 0, 1, false, 0, 0, 0, 0, 0, []), (50, .getfield 130, 3, false, 0, 9, 0, 0, 0, []), (53, .iaload, 1, false, 0, 0, 0, 0, 0, []), (54, .if_icmp .ne 7, 3, false, 33, 0, 0, 0, 0, []), (57, .iconst 1, 1, false, 0, 0, 0, 0, 0, []), (58, .goto 4, 3, false, 34, 0, 0, 0, 0, []), (61, .iconst 0, 1, false, 0, 0, 0, 0, 0, []), (62, .ireturn, 1, false, 0, 0, 1, 0, 0, [])] i i lo st I L := rfl
set_option maxRecDepth 20000 in
theorem uX5_reasonOfScene (sh : mm_S) (call : mm_C) (Q : mm_Q) (n i : Nat) (lo st : List Value) (I : mm_I) (L : mm_L) : mm_v sh call tbX5_reasonOfScene Q (n + 1) i lo st I L = mm_vn sh call tbX5_reasonOfScene Q n [(0, .aload_n 0, 1, false, 0, 0, 0, 0, 0, []), (1, .iload_n 1, 1, false, 0, 0, 0, 0, 0, []), (2, .invokevirtual 84, 3, false, 2, 2, 1, 0, 0, []), (5, .ifCond .ne 5, 3, false, 6, 0, 0, 0, 0, []), (8, .iconst 1, 1, false, 0, 0, 0, 0, 0, []), (9, .ireturn, 1, false, 0, 0, 0, 0, 0, []), (10, .aload_n 0, 1, false, 0, 0, 0, 0, 0, []), (11, .getfield 136, 3, false, 0, 18, 0, 0, 0, []), (14, .iload_n 1, 1, false, 0, 0, 0, 0, 0, []), (15, .ishr, 1, false, 0, 0, 0, 0, 0, []), (16, .iconst 1, 1, false, 0, 0, 0, 0, 0, []), (17, .iand, 1, false, 0, 0, 0, 0, 0, []), (18, .iconst 1, 1, false, 0, 0, 0, 0, 0, []), (19, .if_icmp .ne 5, 3, false, 16, 0, 0, 0, 0, []), (22, .iconst 2, 1, false, 0, 0, 0, 0, 0, []), (23, .ireturn, 1, false, 0, 0, 0, 0, 0, []), (24, .aload_n 0, 1, false, 0, 0, 0, 0, 0, []), (25, .getfield 19, 3, false, 0, 4, 7, 0, 0, []), (28, .iload_n 1, 1, false, 0, 0, 0, 0, 0, []), (29, .iaload, 1, false, 0, 0, 0, 0, 0, []), (30, .aload_n 0, 1, false, 0, 0, 0, 0, 0, []), (31, .getfield 139, 3, false, 0, 19, 0, 0, 0, []), (34, .iconst (-1), 1, false, 0, 0, 0, 0, 0, []), (35, .ixor, 1, false, 0, 0, 0, 0, 0, []), (36, .iand, 1, false, 0, 0, 0, 0, 0, []), (37, .ifCond .eq 5, 3, false, 28, 0, 0, 0, 0, []), (40, .iconst 3, 1, false, 0, 0, 0, 0, 0, []), (41, .ireturn, 1, false, 0, 0, 0, 0, 0, []), (42, .aload_n 0, 1, false, 0, 0, 0, 0, 0, []), (43, .iload_n 1, 1, false, 0, 0, 0, 0, 0, []), (44, .invokevirtual 142, 3, false, 27, 2, 1, 0, 0, []), (47, .ifCond .eq 7, 3, false, 34, 0, 0, 0, 0, []), (50, .iconst 0, 1, false, 0, 0, 0, 0, 0, []), (51, .goto 4, 3, false, 35, 0, 0, 0, 0, []), (54, .iconst 4, 1, false, 0, 0, 0, 0, 0, []), (55, .ireturn, 1, false, 0, 0, 0, 0, 0, [])] i i lo st I L := rfl
set_option maxRecDepth 20000 in
theorem uX5_reasonOf (sh : mm_S) (call : mm_C) (Q : mm_Q) (n i : Nat) (lo st : List Value) (I : mm_I) (L : mm_L) : mm_v sh call tbX5_reasonOf Q (n + 1) i lo st I L = mm_vn sh call tbX5_reasonOf Q n [(0, .iload_n 1, 1, false, 0, 0, 0, 0, 0, []), (1, .bipush 20, 2, false, 0, 0, 0, 0, 0, []), (3, .if_icmp .ne 23, 3, false, 14, 0, 0, 0, 0, []), (6, .aload_n 0, 1, false, 0, 0, 0, 0, 0, []), (7, .getfield 29, 3, false, 0, 10, 9, 0, 0, []), (10, .aload_n 0, 1, false, 0, 0, 0, 0, 0, []), (11, .getfield 130, 3, false, 0, 9, 0, 0, 0, []), (14, .iaload, 1, false, 0, 0, 0, 0, 0, []), (15, .bipush (-9), 2, false, 0, 0, 0, 0, 0, []), (17, .if_icmp .ne 7, 3, false, 12, 0, 0, 0, 0, []), (20, .iconst 5, 1, false, 0, 0, 0, 0, 0, []), (21, .goto 4, 3, false, 13, 0, 0, 0, 0, []), (24, .iconst 0, 1, false, 0, 0, 0, 0, 0, []), (25, .ireturn, 1, false, 0, 0, 0, 0, 0, []), (26, .iload_n 1, 1, false, 0, 0, 0, 0, 0, []), (27, .bipush 21, 2, false, 0, 0, 0, 0, 0, []), (29, .if_icmp .ne 31, 3, false, 31, 0, 0, 0, 0, []), (32, .aload_n 0, 1, false, 0, 0, 0, 0, 0, []), (33, .getfield 130, 3, false, 0, 9, 0, 0, 0, []), (36, .ifCond .eq 17, 3, false, 27, 0, 0, 0, 0, []), (39, .aload_n 0, 1, false, 0, 0, 0, 0, 0, []), (40, .getfield 29, 3, false, 0, 10, 9, 0, 0, []), (43, .aload_n 0, 1, false, 0, 0, 0, 0, 0, []), (44, .getfield 130, 3, false, 0, 9, 0, 0, 0, []), (47, .iaload, 1, false, 0, 0, 0, 0, 0, []), (48, .bipush (-9), 2, false, 0, 0, 0, 0, 0, []), (50, .if_icmp .ne 8, 3, false, 29, 0, 0, 0, 0, []), (53, .bipush 6, 2, false, 0, 0, 0, 0, 0, []), (55, .goto 4, 3, false, 30, 0, 0, 0, 0, []), (58, .iconst 0, 1, false, 0, 0, 0, 0, 0, []), (59, .ireturn, 1, false, 0, 0, 0, 0, 0, []), (60, .aload_n 0, 1, false, 0, 0, 0, 0, 0, []), (61, .iload_n 1, 1, false, 0, 0, 0, 0, 0, []), (62, .invokevirtual 145, 3, false, 28, 2, 1, 0, 0, []), (65, .ireturn, 1, false, 0, 0, 0, 0, 0, [])] i i lo st I L := rfl
set_option maxRecDepth 20000 in
theorem uX5_tells (sh : mm_S) (call : mm_C) (Q : mm_Q) (n i : Nat) (lo st : List Value) (I : mm_I) (L : mm_L) : mm_v sh call tbX5_tells Q (n + 1) i lo st I L = mm_vn sh call tbX5_tells Q n [(0, .aload_n 0, 1, false, 0, 0, 0, 0, 0, []), (1, .dup, 1, false, 0, 0, 0, 0, 0, []), (2, .getfield 149, 3, false, 0, 20, 1, 0, 0, []), (5, .aload_n 0, 1, false, 0, 0, 0, 0, 0, []), (6, .getfield 29, 3, false, 0, 10, 9, 0, 0, []), (9, .aload_n 0, 1, false, 0, 0, 0, 0, 0, []), (10, .getfield 130, 3, false, 0, 9, 0, 0, 0, []), (13, .iaload, 1, false, 0, 0, 0, 0, 0, []), (14, .bipush (-9), 2, false, 0, 0, 0, 0, 0, []), (16, .if_icmp .ne 7, 3, false, 12, 0, 0, 0, 0, []), (19, .lconst 0, 1, false, 0, 0, 0, 0, 0, []), (20, .goto 17, 3, false, 20, 0, 0, 0, 0, []), (23, .aload_n 0, 1, false, 0, 0, 0, 0, 0, []), (24, .aload_n 0, 1, false, 0, 0, 0, 0, 0, []), (25, .getfield 29, 3, false, 0, 10, 9, 0, 0, []), (28, .aload_n 0, 1, false, 0, 0, 0, 0, 0, []), (29, .getfield 130, 3, false, 0, 9, 0, 0, 0, []), (32, .iaload, 1, false, 0, 0, 0, 0, 0, []), (33, .iload_n 1, 1, false, 0, 0, 0, 0, 0, []), (34, .invokevirtual 106, 3, false, 16, 3, 2, 0, 0, []), (37, .ladd, 1, false, 0, 0, 0, 0, 0, []), (38, .putfield 149, 3, false, 0, 20, 1, 0, 0, []), (41, .aload_n 0, 1, false, 0, 0, 0, 0, 0, []), (42, .getfield 130, 3, false, 0, 9, 0, 0, 0, []), (45, .ifCond .ne 8, 3, false, 27, 0, 0, 0, 0, []), (48, .bipush (-9), 2, false, 0, 0, 0, 0, 0, []), (50, .goto 12, 3, false, 32, 0, 0, 0, 0, []), (53, .aload_n 0, 1, false, 0, 0, 0, 0, 0, []), (54, .getfield 32, 3, false, 0, 11, 10, 0, 0, []), (57, .aload_n 0, 1, false, 0, 0, 0, 0, 0, []), (58, .getfield 130, 3, false, 0, 9, 0, 0, 0, []), (61, .iaload, 1, false, 0, 0, 0, 0, 0, []), (62, .istore_n 2, 1, false, 0, 0, 0, 0, 0, []), (63, .aload_n 0, 1, false, 0, 0, 0, 0, 0, []), (64, .getfield 130, 3, false, 0, 9, 0, 0, 0, []), (67, .ifCond .ne 8, 3, false, 38, 0, 0, 0, 0, []), (70, .bipush (-9), 2, false, 0, 0, 0, 0, 0, []), (72, .goto 9, 3, false, 42, 0, 0, 0, 0, []), (75, .aload_n 0, 1, false, 0, 0, 0, 0, 0, []), (76, .iload_n 1, 1, false, 0, 0, 0, 0, 0, []), (77, .iload_n 2, 1, false, 0, 0, 0, 0, 0, []), (78, .invokevirtual 133, 3, false, 26, 3, 1, 0, 0, []), (81, .istore_n 3, 1, false, 0, 0, 0, 0, 0, []), (82, .aload_n 0, 1, false, 0, 0, 0, 0, 0, []), (83, .getfield 35, 3, false, 0, 12, 11, 0, 0, []), (86, .aload_n 0, 1, false, 0, 0, 0, 0, 0, []), (87, .getfield 130, 3, false, 0, 9, 0, 0, 0, []), (90, .iload_n 3, 1, false, 0, 0, 0, 0, 0, []), (91, .iastore, 1, false, 0, 0, 0, 0, 0, []), (92, .aload_n 0, 1, false, 0, 0, 0, 0, 0, []), (93, .getfield 29, 3, false, 0, 10, 9, 0, 0, []), (96, .aload_n 0, 1, false, 0, 0, 0, 0, 0, []), (97, .getfield 130, 3, false, 0, 9, 0, 0, 0, []), (100, .iload_n 1, 1, false, 0, 0, 0, 0, 0, []), (101, .iastore, 1, false, 0, 0, 0, 0, 0, []), (102, .aload_n 0, 1, false, 0, 0, 0, 0, 0, []), (103, .getfield 38, 3, false, 0, 21, 12, 0, 0, []), (106, .iload_n 1, 1, false, 0, 0, 0, 0, 0, []), (107, .aload_n 0, 1, false, 0, 0, 0, 0, 0, []), (108, .getfield 153, 3, false, 0, 17, 0, 0, 0, []), (111, .iastore, 1, false, 0, 0, 0, 0, 0, []), (112, .aload_n 0, 1, false, 0, 0, 0, 0, 0, []), (113, .getfield 41, 3, false, 0, 22, 13, 0, 0, []), (116, .iload_n 1, 1, false, 0, 0, 0, 0, 0, []), (117, .aload_n 0, 1, false, 0, 0, 0, 0, 0, []), (118, .getfield 130, 3, false, 0, 9, 0, 0, 0, []), (121, .iastore, 1, false, 0, 0, 0, 0, 0, []), (122, .aload_n 0, 1, false, 0, 0, 0, 0, 0, []), (123, .getfield 44, 3, false, 0, 23, 14, 0, 0, []), (126, .iload_n 1, 1, false, 0, 0, 0, 0, 0, []), (127, .iload_n 2, 1, false, 0, 0, 0, 0, 0, []), (128, .iastore, 1, false, 0, 0, 0, 0, 0, []), (129, .aload_n 0, 1, false, 0, 0, 0, 0, 0, []), (130, .getfield 47, 3, false, 0, 24, 15, 0, 0, []), (133, .iload_n 1, 1, false, 0, 0, 0, 0, 0, []), (134, .iload_n 3, 1, false, 0, 0, 0, 0, 0, []), (135, .iastore, 1, false, 0, 0, 0, 0, 0, []), (136, .aload_n 0, 1, false, 0, 0, 0, 0, 0, []), (137, .dup, 1, false, 0, 0, 0, 0, 0, []), (138, .getfield 153, 3, false, 0, 17, 0, 0, 0, []), (141, .iconst 1, 1, false, 0, 0, 0, 0, 0, []), (142, .iadd, 1, false, 0, 0, 0, 0, 0, []), (143, .putfield 153, 3, false, 0, 17, 0, 0, 0, []), (146, .aload_n 0, 1, false, 0, 0, 0, 0, 0, []), (147, .dup, 1, false, 0, 0, 0, 0, 0, []), (148, .getfield 136, 3, false, 0, 18, 0, 0, 0, []), (151, .iconst 1, 1, false, 0, 0, 0, 0, 0, []), (152, .iload_n 1, 1, false, 0, 0, 0, 0, 0, []), (153, .ishl, 1, false, 0, 0, 0, 0, 0, []), (154, .ior, 1, false, 0, 0, 0, 0, 0, []), (155, .putfield 136, 3, false, 0, 18, 0, 0, 0, []), (158, .aload_n 0, 1, false, 0, 0, 0, 0, 0, []), (159, .dup, 1, false, 0, 0, 0, 0, 0, []), (160, .getfield 139, 3, false, 0, 19, 0, 0, 0, []), (163, .aload_n 0, 1, false, 0, 0, 0, 0, 0, []), (164, .getfield 16, 3, false, 0, 3, 6, 0, 0, []), (167, .iload_n 1, 1, false, 0, 0, 0, 0, 0, []), (168, .iaload, 1, false, 0, 0, 0, 0, 0, []), (169, .ior, 1, false, 0, 0, 0, 0, 0, []), (170, .putfield 139, 3, false, 0, 19, 0, 0, 0, []), (173, .return_, 1, false, 0, 0, 0, 0, 0, [])] i i lo st I L := rfl
set_option maxRecDepth 20000 in
theorem uX5_opens (sh : mm_S) (call : mm_C) (Q : mm_Q) (n i : Nat) (lo st : List Value) (I : mm_I) (L : mm_L) : mm_v sh call tbX5_opens Q (n + 1) i lo st I L = mm_vn sh call tbX5_opens Q n [(0, .aload_n 0, 1, false, 0, 0, 0, 0, 0, []), (1, .getfield 29, 3, false, 0, 10, 9, 0, 0, []), (4, .aload_n 0, 1, false, 0, 0, 0, 0, 0, []), (5, .getfield 130, 3, false, 0, 9, 0, 0, 0, []), (8, .iaload, 1, false, 0, 0, 0, 0, 0, []), (9, .istore_n 1, 1, false, 0, 0, 0, 0, 0, []), (10, .aload_n 0, 1, false, 0, 0, 0, 0, 0, []), (11, .dup, 1, false, 0, 0, 0, 0, 0, []), (12, .getfield 130, 3, false, 0, 9, 0, 0, 0, []), (15, .iconst 1, 1, false, 0, 0, 0, 0, 0, []), (16, .iadd, 1, false, 0, 0, 0, 0, 0, []), (17, .putfield 130, 3, false, 0, 9, 0, 0, 0, []), (20, .aload_n 0, 1, false, 0, 0, 0, 0, 0, []), (21, .getfield 32, 3, false, 0, 11, 10, 0, 0, []), (24, .aload_n 0, 1, false, 0, 0, 0, 0, 0, []), (25, .getfield 130, 3, false, 0, 9, 0, 0, 0, []), (28, .iload_n 1, 1, false, 0, 0, 0, 0, 0, []), (29, .iastore, 1, false, 0, 0, 0, 0, 0, []), (30, .aload_n 0, 1, false, 0, 0, 0, 0, 0, []), (31, .getfield 29, 3, false, 0, 10, 9, 0, 0, []), (34, .aload_n 0, 1, false, 0, 0, 0, 0, 0, []), (35, .getfield 130, 3, false, 0, 9, 0, 0, 0, []), (38, .bipush (-9), 2, false, 0, 0, 0, 0, 0, []), (40, .iastore, 1, false, 0, 0, 0, 0, 0, []), (41, .aload_n 0, 1, false, 0, 0, 0, 0, 0, []), (42, .getfield 35, 3, false, 0, 12, 11, 0, 0, []), (45, .aload_n 0, 1, false, 0, 0, 0, 0, 0, []), (46, .getfield 130, 3, false, 0, 9, 0, 0, 0, []), (49, .bipush (-9), 2, false, 0, 0, 0, 0, 0, []), (51, .iastore, 1, false, 0, 0, 0, 0, 0, []), (52, .aload_n 0, 1, false, 0, 0, 0, 0, 0, []), (53, .dup, 1, false, 0, 0, 0, 0, 0, []), (54, .getfield 156, 3, false, 0, 15, 0, 0, 0, []), (57, .iconst 1, 1, false, 0, 0, 0, 0, 0, []), (58, .iadd, 1, false, 0, 0, 0, 0, 0, []), (59, .putfield 156, 3, false, 0, 15, 0, 0, 0, []), (62, .aload_n 0, 1, false, 0, 0, 0, 0, 0, []), (63, .aload_n 0, 1, false, 0, 0, 0, 0, 0, []), (64, .getfield 130, 3, false, 0, 9, 0, 0, 0, []), (67, .aload_n 0, 1, false, 0, 0, 0, 0, 0, []), (68, .getfield 159, 3, false, 0, 16, 0, 0, 0, []), (71, .if_icmp .le 10, 3, false, 45, 0, 0, 0, 0, []), (74, .aload_n 0, 1, false, 0, 0, 0, 0, 0, []), (75, .getfield 130, 3, false, 0, 9, 0, 0, 0, []), (78, .goto 7, 3, false, 47, 0, 0, 0, 0, []), (81, .aload_n 0, 1, false, 0, 0, 0, 0, 0, []), (82, .getfield 159, 3, false, 0, 16, 0, 0, 0, []), (85, .putfield 159, 3, false, 0, 16, 0, 0, 0, []), (88, .aload_n 0, 1, false, 0, 0, 0, 0, 0, []), (89, .dup, 1, false, 0, 0, 0, 0, 0, []), (90, .getfield 149, 3, false, 0, 20, 1, 0, 0, []), (93, .aload_n 0, 1, false, 0, 0, 0, 0, 0, []), (94, .getfield 22, 3, false, 0, 5, 0, 0, 0, []), (97, .i2l, 1, false, 0, 0, 0, 0, 0, []), (98, .ladd, 1, false, 0, 0, 0, 0, 0, []), (99, .putfield 149, 3, false, 0, 20, 1, 0, 0, []), (102, .return_, 1, false, 0, 0, 0, 0, 0, [])] i i lo st I L := rfl
set_option maxRecDepth 20000 in
theorem uX5_goesOn (sh : mm_S) (call : mm_C) (Q : mm_Q) (n i : Nat) (lo st : List Value) (I : mm_I) (L : mm_L) : mm_v sh call tbX5_goesOn Q (n + 1) i lo st I L = mm_vn sh call tbX5_goesOn Q n [(0, .iload_n 1, 1, false, 0, 0, 0, 0, 0, []), (1, .bipush 20, 2, false, 0, 0, 0, 0, 0, []), (3, .if_icmp .ne 10, 3, false, 6, 0, 0, 0, 0, []), (6, .aload_n 0, 1, false, 0, 0, 0, 0, 0, []), (7, .invokevirtual 162, 3, false, 31, 1, 0, 0, 0, []), (10, .goto 27, 3, false, 19, 0, 0, 0, 0, []), (13, .iload_n 1, 1, false, 0, 0, 0, 0, 0, []), (14, .bipush 21, 2, false, 0, 0, 0, 0, 0, []), (16, .if_icmp .ne 16, 3, false, 16, 0, 0, 0, 0, []), (19, .aload_n 0, 1, false, 0, 0, 0, 0, 0, []), (20, .dup, 1, false, 0, 0, 0, 0, 0, []), (21, .getfield 130, 3, false, 0, 9, 0, 0, 0, []), (24, .iconst 1, 1, false, 0, 0, 0, 0, 0, []), (25, .isub, 1, false, 0, 0, 0, 0, 0, []), (26, .putfield 130, 3, false, 0, 9, 0, 0, 0, []), (29, .goto 8, 3, false, 19, 0, 0, 0, 0, []), (32, .aload_n 0, 1, false, 0, 0, 0, 0, 0, []), (33, .iload_n 1, 1, false, 0, 0, 0, 0, 0, []), (34, .invokevirtual 165, 3, false, 30, 2, 0, 0, 0, []), (37, .return_, 1, false, 0, 0, 0, 0, 0, [])] i i lo st I L := rfl
set_option maxRecDepth 20000 in
theorem uX5_looks (sh : mm_S) (call : mm_C) (Q : mm_Q) (n i : Nat) (lo st : List Value) (I : mm_I) (L : mm_L) : mm_v sh call tbX5_looks Q (n + 1) i lo st I L = mm_vn sh call tbX5_looks Q n [(0, .aload_n 0, 1, false, 0, 0, 0, 0, 0, []), (1, .iconst 0, 1, false, 0, 0, 0, 0, 0, []), (2, .putfield 130, 3, false, 0, 9, 0, 0, 0, []), (5, .aload_n 0, 1, false, 0, 0, 0, 0, 0, []), (6, .getfield 29, 3, false, 0, 10, 9, 0, 0, []), (9, .iconst 0, 1, false, 0, 0, 0, 0, 0, []), (10, .bipush (-9), 2, false, 0, 0, 0, 0, 0, []), (12, .iastore, 1, false, 0, 0, 0, 0, 0, []), (13, .aload_n 0, 1, false, 0, 0, 0, 0, 0, []), (14, .bipush (-9), 2, false, 0, 0, 0, 0, 0, []), (16, .putfield 169, 3, false, 0, 13, 0, 0, 0, []), (19, .aload_n 0, 1, false, 0, 0, 0, 0, 0, []), (20, .bipush (-9), 2, false, 0, 0, 0, 0, 0, []), (22, .putfield 172, 3, false, 0, 14, 0, 0, 0, []), (25, .aload_n 0, 1, false, 0, 0, 0, 0, 0, []), (26, .iconst 0, 1, false, 0, 0, 0, 0, 0, []), (27, .putfield 156, 3, false, 0, 15, 0, 0, 0, []), (30, .aload_n 0, 1, false, 0, 0, 0, 0, 0, []), (31, .iconst 0, 1, false, 0, 0, 0, 0, 0, []), (32, .putfield 159, 3, false, 0, 16, 0, 0, 0, []), (35, .aload_n 0, 1, false, 0, 0, 0, 0, 0, []), (36, .iconst 0, 1, false, 0, 0, 0, 0, 0, []), (37, .putfield 153, 3, false, 0, 17, 0, 0, 0, []), (40, .aload_n 0, 1, false, 0, 0, 0, 0, 0, []), (41, .iconst 0, 1, false, 0, 0, 0, 0, 0, []), (42, .putfield 136, 3, false, 0, 18, 0, 0, 0, []), (45, .aload_n 0, 1, false, 0, 0, 0, 0, 0, []), (46, .iconst 0, 1, false, 0, 0, 0, 0, 0, []), (47, .putfield 139, 3, false, 0, 19, 0, 0, 0, []), (50, .aload_n 0, 1, false, 0, 0, 0, 0, 0, []), (51, .lconst 0, 1, false, 0, 0, 0, 0, 0, []), (52, .putfield 149, 3, false, 0, 20, 1, 0, 0, []), (55, .iconst 0, 1, false, 0, 0, 0, 0, 0, []), (56, .istore_n 3, 1, false, 0, 0, 0, 0, 0, []), (57, .iload_n 3, 1, true, 0, 0, 0, 0, 0, []), (58, .iload_n 2, 1, false, 0, 0, 0, 0, 0, []), (59, .if_icmp .ge 53, 3, false, 63, 0, 0, 0, 0, []), (62, .aload_n 0, 1, false, 0, 0, 0, 0, 0, []), (63, .getfield 169, 3, false, 0, 13, 0, 0, 0, []), (66, .bipush (-9), 2, false, 0, 0, 0, 0, 0, []), (68, .if_icmp .ne 44, 3, false, 63, 0, 0, 0, 0, []), (71, .aload_n 0, 1, false, 0, 0, 0, 0, 0, []), (72, .aload_n 1, 1, false, 0, 0, 0, 0, 0, []), (73, .iload_n 3, 1, false, 0, 0, 0, 0, 0, []), (74, .iaload, 1, false, 0, 0, 0, 0, 0, []), (75, .invokevirtual 175, 3, false, 29, 2, 1, 0, 0, []), (78, .istore 4, 2, false, 0, 0, 0, 0, 0, []), (80, .iload 4, 2, false, 0, 0, 0, 0, 0, []), (82, .ifCond .ne 13, 3, false, 55, 0, 0, 0, 0, []), (85, .aload_n 0, 1, false, 0, 0, 0, 0, 0, []), (86, .aload_n 1, 1, false, 0, 0, 0, 0, 0, []), (87, .iload_n 3, 1, false, 0, 0, 0, 0, 0, []), (88, .iaload, 1, false, 0, 0, 0, 0, 0, []), (89, .invokevirtual 178, 3, false, 32, 2, 0, 0, 0, []), (92, .goto 14, 3, false, 61, 0, 0, 0, 0, []), (95, .aload_n 0, 1, false, 0, 0, 0, 0, 0, []), (96, .iload_n 3, 1, false, 0, 0, 0, 0, 0, []), (97, .putfield 169, 3, false, 0, 13, 0, 0, 0, []), (100, .aload_n 0, 1, false, 0, 0, 0, 0, 0, []), (101, .iload 4, 2, false, 0, 0, 0, 0, 0, []), (103, .putfield 172, 3, false, 0, 14, 0, 0, 0, []), (106, .iinc 3 1, 3, false, 0, 0, 0, 0, 0, []), (109, .goto (-52), 3, false, 34, 0, 0, 0, 0, []), (112, .aload_n 0, 1, false, 0, 0, 0, 0, 0, []), (113, .getfield 169, 3, false, 0, 13, 0, 0, 0, []), (116, .bipush (-9), 2, false, 0, 0, 0, 0, 0, []), (118, .if_icmp .ne 21, 3, false, 76, 0, 0, 0, 0, []), (121, .aload_n 0, 1, false, 0, 0, 0, 0, 0, []), (122, .getfield 130, 3, false, 0, 9, 0, 0, 0, []), (125, .ifCond .le 14, 3, false, 76, 0, 0, 0, 0, []), (128, .aload_n 0, 1, false, 0, 0, 0, 0, 0, []), (129, .iload_n 2, 1, false, 0, 0, 0, 0, 0, []), (130, .putfield 169, 3, false, 0, 13, 0, 0, 0, []), (133, .aload_n 0, 1, false, 0, 0, 0, 0, 0, []), (134, .bipush 7, 2, false, 0, 0, 0, 0, 0, []), (136, .putfield 172, 3, false, 0, 14, 0, 0, 0, []), (139, .return_, 1, false, 0, 0, 0, 0, 0, [])] i i lo st I L := rfl
set_option maxRecDepth 20000 in
theorem hX5_looks (sh : mm_S) (call : mm_C) (Q : mm_Q) (n i : Nat) (lo st : List Value) (I : mm_I) (L : mm_L) : mm_h sh call tbX5_looks Q n i lo st I L = mm_hn sh call tbX5_looks Q n [(0, .aload_n 0, 1, false, 0, 0, 0, 0, 0, []), (1, .iconst 0, 1, false, 0, 0, 0, 0, 0, []), (2, .putfield 130, 3, false, 0, 9, 0, 0, 0, []), (5, .aload_n 0, 1, false, 0, 0, 0, 0, 0, []), (6, .getfield 29, 3, false, 0, 10, 9, 0, 0, []), (9, .iconst 0, 1, false, 0, 0, 0, 0, 0, []), (10, .bipush (-9), 2, false, 0, 0, 0, 0, 0, []), (12, .iastore, 1, false, 0, 0, 0, 0, 0, []), (13, .aload_n 0, 1, false, 0, 0, 0, 0, 0, []), (14, .bipush (-9), 2, false, 0, 0, 0, 0, 0, []), (16, .putfield 169, 3, false, 0, 13, 0, 0, 0, []), (19, .aload_n 0, 1, false, 0, 0, 0, 0, 0, []), (20, .bipush (-9), 2, false, 0, 0, 0, 0, 0, []), (22, .putfield 172, 3, false, 0, 14, 0, 0, 0, []), (25, .aload_n 0, 1, false, 0, 0, 0, 0, 0, []), (26, .iconst 0, 1, false, 0, 0, 0, 0, 0, []), (27, .putfield 156, 3, false, 0, 15, 0, 0, 0, []), (30, .aload_n 0, 1, false, 0, 0, 0, 0, 0, []), (31, .iconst 0, 1, false, 0, 0, 0, 0, 0, []), (32, .putfield 159, 3, false, 0, 16, 0, 0, 0, []), (35, .aload_n 0, 1, false, 0, 0, 0, 0, 0, []), (36, .iconst 0, 1, false, 0, 0, 0, 0, 0, []), (37, .putfield 153, 3, false, 0, 17, 0, 0, 0, []), (40, .aload_n 0, 1, false, 0, 0, 0, 0, 0, []), (41, .iconst 0, 1, false, 0, 0, 0, 0, 0, []), (42, .putfield 136, 3, false, 0, 18, 0, 0, 0, []), (45, .aload_n 0, 1, false, 0, 0, 0, 0, 0, []), (46, .iconst 0, 1, false, 0, 0, 0, 0, 0, []), (47, .putfield 139, 3, false, 0, 19, 0, 0, 0, []), (50, .aload_n 0, 1, false, 0, 0, 0, 0, 0, []), (51, .lconst 0, 1, false, 0, 0, 0, 0, 0, []), (52, .putfield 149, 3, false, 0, 20, 1, 0, 0, []), (55, .iconst 0, 1, false, 0, 0, 0, 0, 0, []), (56, .istore_n 3, 1, false, 0, 0, 0, 0, 0, []), (57, .iload_n 3, 1, true, 0, 0, 0, 0, 0, []), (58, .iload_n 2, 1, false, 0, 0, 0, 0, 0, []), (59, .if_icmp .ge 53, 3, false, 63, 0, 0, 0, 0, []), (62, .aload_n 0, 1, false, 0, 0, 0, 0, 0, []), (63, .getfield 169, 3, false, 0, 13, 0, 0, 0, []), (66, .bipush (-9), 2, false, 0, 0, 0, 0, 0, []), (68, .if_icmp .ne 44, 3, false, 63, 0, 0, 0, 0, []), (71, .aload_n 0, 1, false, 0, 0, 0, 0, 0, []), (72, .aload_n 1, 1, false, 0, 0, 0, 0, 0, []), (73, .iload_n 3, 1, false, 0, 0, 0, 0, 0, []), (74, .iaload, 1, false, 0, 0, 0, 0, 0, []), (75, .invokevirtual 175, 3, false, 29, 2, 1, 0, 0, []), (78, .istore 4, 2, false, 0, 0, 0, 0, 0, []), (80, .iload 4, 2, false, 0, 0, 0, 0, 0, []), (82, .ifCond .ne 13, 3, false, 55, 0, 0, 0, 0, []), (85, .aload_n 0, 1, false, 0, 0, 0, 0, 0, []), (86, .aload_n 1, 1, false, 0, 0, 0, 0, 0, []), (87, .iload_n 3, 1, false, 0, 0, 0, 0, 0, []), (88, .iaload, 1, false, 0, 0, 0, 0, 0, []), (89, .invokevirtual 178, 3, false, 32, 2, 0, 0, 0, []), (92, .goto 14, 3, false, 61, 0, 0, 0, 0, []), (95, .aload_n 0, 1, false, 0, 0, 0, 0, 0, []), (96, .iload_n 3, 1, false, 0, 0, 0, 0, 0, []), (97, .putfield 169, 3, false, 0, 13, 0, 0, 0, []), (100, .aload_n 0, 1, false, 0, 0, 0, 0, 0, []), (101, .iload 4, 2, false, 0, 0, 0, 0, 0, []), (103, .putfield 172, 3, false, 0, 14, 0, 0, 0, []), (106, .iinc 3 1, 3, false, 0, 0, 0, 0, 0, []), (109, .goto (-52), 3, false, 34, 0, 0, 0, 0, []), (112, .aload_n 0, 1, false, 0, 0, 0, 0, 0, []), (113, .getfield 169, 3, false, 0, 13, 0, 0, 0, []), (116, .bipush (-9), 2, false, 0, 0, 0, 0, 0, []), (118, .if_icmp .ne 21, 3, false, 76, 0, 0, 0, 0, []), (121, .aload_n 0, 1, false, 0, 0, 0, 0, 0, []), (122, .getfield 130, 3, false, 0, 9, 0, 0, 0, []), (125, .ifCond .le 14, 3, false, 76, 0, 0, 0, 0, []), (128, .aload_n 0, 1, false, 0, 0, 0, 0, 0, []), (129, .iload_n 2, 1, false, 0, 0, 0, 0, 0, []), (130, .putfield 169, 3, false, 0, 13, 0, 0, 0, []), (133, .aload_n 0, 1, false, 0, 0, 0, 0, 0, []), (134, .bipush 7, 2, false, 0, 0, 0, 0, 0, []), (136, .putfield 172, 3, false, 0, 14, 0, 0, 0, []), (139, .return_, 1, false, 0, 0, 0, 0, 0, [])] i i lo st I L := rfl
set_option maxRecDepth 20000 in
theorem uX5_looksNow (sh : mm_S) (call : mm_C) (Q : mm_Q) (n i : Nat) (lo st : List Value) (I : mm_I) (L : mm_L) : mm_v sh call tbX5_looksNow Q (n + 1) i lo st I L = mm_vn sh call tbX5_looksNow Q n [(0, .aload_n 0, 1, false, 0, 0, 0, 0, 0, []), (1, .dup, 1, false, 0, 0, 0, 0, 0, []), (2, .getfield 181, 3, false, 0, 8, 0, 0, 0, []), (5, .iconst 1, 1, false, 0, 0, 0, 0, 0, []), (6, .iadd, 1, false, 0, 0, 0, 0, 0, []), (7, .putfield 181, 3, false, 0, 8, 0, 0, 0, []), (10, .aload_n 0, 1, false, 0, 0, 0, 0, 0, []), (11, .aload_n 0, 1, false, 0, 0, 0, 0, 0, []), (12, .getfield 26, 3, false, 0, 7, 8, 0, 0, []), (15, .aload_n 0, 1, false, 0, 0, 0, 0, 0, []), (16, .getfield 127, 3, false, 0, 6, 0, 0, 0, []), (19, .invokevirtual 184, 3, false, 33, 3, 0, 0, 0, []), (22, .return_, 1, false, 0, 0, 0, 0, 0, [])] i i lo st I L := rfl
set_option maxRecDepth 20000 in
theorem uX5_judge (sh : mm_S) (call : mm_C) (Q : mm_Q) (n i : Nat) (lo st : List Value) (I : mm_I) (L : mm_L) : mm_v sh call tbX5_judge Q (n + 1) i lo st I L = mm_vn sh call tbX5_judge Q n [(0, .aload_n 0, 1, false, 0, 0, 0, 0, 0, []), (1, .invokevirtual 188, 3, false, 34, 1, 0, 0, 0, []), (4, .iload_n 1, 1, false, 0, 0, 0, 0, 0, []), (5, .tableswitch 69 0 5 #[39, 44, 49, 54, 59, 64], 39, false, 22, 0, 0, 0, 0, [4, 7, 10, 13, 16, 19]), (44, .aload_n 0, 1, false, 0, 0, 0, 0, 0, []), (45, .getfield 169, 3, false, 0, 13, 0, 0, 0, []), (48, .ireturn, 1, false, 0, 0, 0, 0, 0, []), (49, .aload_n 0, 1, false, 0, 0, 0, 0, 0, []), (50, .getfield 172, 3, false, 0, 14, 0, 0, 0, []), (53, .ireturn, 1, false, 0, 0, 0, 0, 0, []), (54, .aload_n 0, 1, false, 0, 0, 0, 0, 0, []), (55, .getfield 156, 3, false, 0, 15, 0, 0, 0, []), (58, .ireturn, 1, false, 0, 0, 0, 0, 0, []), (59, .aload_n 0, 1, false, 0, 0, 0, 0, 0, []), (60, .getfield 159, 3, false, 0, 16, 0, 0, 0, []), (63, .ireturn, 1, false, 0, 0, 0, 0, 0, []), (64, .aload_n 0, 1, false, 0, 0, 0, 0, 0, []), (65, .getfield 153, 3, false, 0, 17, 0, 0, 0, []), (68, .ireturn, 1, false, 0, 0, 0, 0, 0, []), (69, .aload_n 0, 1, false, 0, 0, 0, 0, 0, []), (70, .getfield 139, 3, false, 0, 19, 0, 0, 0, []), (73, .ireturn, 1, false, 0, 0, 0, 0, 0, []), (74, .bipush (-2), 2, false, 0, 0, 0, 0, 0, []), (76, .ireturn, 1, false, 0, 0, 0, 0, 0, [])] i i lo st I L := rfl
set_option maxRecDepth 20000 in
theorem uX5_jumpsOf (sh : mm_S) (call : mm_C) (Q : mm_Q) (n i : Nat) (lo st : List Value) (I : mm_I) (L : mm_L) : mm_v sh call tbX5_jumpsOf Q (n + 1) i lo st I L = mm_vn sh call tbX5_jumpsOf Q n [(0, .lload_n 0, 1, false, 0, 0, 0, 0, 0, []), (1, .ldc2_w 69, 3, false, 0, 0, 0, 0, 2147483647, []), (4, .lcmp, 1, false, 0, 0, 0, 0, 0, []), (5, .ifCond .le 8, 3, false, 6, 0, 0, 0, 0, []), (8, .bipush (-5), 2, false, 0, 0, 0, 0, 0, []), (10, .goto 5, 3, false, 8, 0, 0, 0, 0, []), (13, .lload_n 0, 1, false, 0, 0, 0, 0, 0, []), (14, .l2i, 1, false, 0, 0, 0, 0, 0, []), (15, .ireturn, 1, false, 0, 0, 0, 0, 0, [])] i i lo st I L := rfl
set_option maxRecDepth 20000 in
theorem uX5_jumps (sh : mm_S) (call : mm_C) (Q : mm_Q) (n i : Nat) (lo st : List Value) (I : mm_I) (L : mm_L) : mm_v sh call tbX5_jumps Q (n + 1) i lo st I L = mm_vn sh call tbX5_jumps Q n [(0, .aload_n 0, 1, false, 0, 0, 0, 0, 0, []), (1, .invokevirtual 188, 3, false, 34, 1, 0, 0, 0, []), (4, .aload_n 0, 1, false, 0, 0, 0, 0, 0, []), (5, .getfield 169, 3, false, 0, 13, 0, 0, 0, []), (8, .bipush (-9), 2, false, 0, 0, 0, 0, 0, []), (10, .if_icmp .eq 8, 3, false, 8, 0, 0, 0, 0, []), (13, .bipush (-3), 2, false, 0, 0, 0, 0, 0, []), (15, .goto 10, 3, false, 11, 0, 0, 0, 0, []), (18, .aload_n 0, 1, false, 0, 0, 0, 0, 0, []), (19, .getfield 149, 3, false, 0, 20, 1, 0, 0, []), (22, .invokestatic 191, 3, false, 36, 1, 1, 0, 0, []), (25, .ireturn, 1, false, 0, 0, 0, 0, 0, [])] i i lo st I L := rfl
set_option maxRecDepth 20000 in
theorem uX5_told (sh : mm_S) (call : mm_C) (Q : mm_Q) (n i : Nat) (lo st : List Value) (I : mm_I) (L : mm_L) : mm_v sh call tbX5_told Q (n + 1) i lo st I L = mm_vn sh call tbX5_told Q n [(0, .aload_n 0, 1, false, 0, 0, 0, 0, 0, []), (1, .invokevirtual 188, 3, false, 34, 1, 0, 0, 0, []), (4, .aload_n 0, 1, false, 0, 0, 0, 0, 0, []), (5, .iload_n 1, 1, false, 0, 0, 0, 0, 0, []), (6, .invokevirtual 84, 3, false, 2, 2, 1, 0, 0, []), (9, .ifCond .ne 5, 3, false, 8, 0, 0, 0, 0, []), (12, .iconst (-1), 1, false, 0, 0, 0, 0, 0, []), (13, .ireturn, 1, false, 0, 0, 0, 0, 0, []), (14, .iload_n 2, 1, false, 0, 0, 0, 0, 0, []), (15, .iconst 0, 1, false, 0, 0, 0, 0, 0, []), (16, .iconst 3, 1, false, 0, 0, 0, 0, 0, []), (17, .invokestatic 76, 3, false, 0, 3, 1, 0, 0, []), (20, .ifCond .ne 6, 3, false, 15, 0, 0, 0, 0, []), (23, .bipush (-2), 2, false, 0, 0, 0, 0, 0, []), (25, .ireturn, 1, false, 0, 0, 0, 0, 0, []), (26, .aload_n 0, 1, false, 0, 0, 0, 0, 0, []), (27, .getfield 169, 3, false, 0, 13, 0, 0, 0, []), (30, .bipush (-9), 2, false, 0, 0, 0, 0, 0, []), (32, .if_icmp .eq 6, 3, false, 21, 0, 0, 0, 0, []), (35, .bipush (-3), 2, false, 0, 0, 0, 0, 0, []), (37, .ireturn, 1, false, 0, 0, 0, 0, 0, []), (38, .aload_n 0, 1, false, 0, 0, 0, 0, 0, []), (39, .getfield 136, 3, false, 0, 18, 0, 0, 0, []), (42, .iload_n 1, 1, false, 0, 0, 0, 0, 0, []), (43, .ishr, 1, false, 0, 0, 0, 0, 0, []), (44, .iconst 1, 1, false, 0, 0, 0, 0, 0, []), (45, .iand, 1, false, 0, 0, 0, 0, 0, []), (46, .ifCond .ne 6, 3, false, 30, 0, 0, 0, 0, []), (49, .bipush (-9), 2, false, 0, 0, 0, 0, 0, []), (51, .ireturn, 1, false, 0, 0, 0, 0, 0, []), (52, .iload_n 2, 1, false, 0, 0, 0, 0, 0, []), (53, .ifCond .ne 12, 3, false, 37, 0, 0, 0, 0, []), (56, .aload_n 0, 1, false, 0, 0, 0, 0, 0, []), (57, .getfield 38, 3, false, 0, 21, 12, 0, 0, []), (60, .iload_n 1, 1, false, 0, 0, 0, 0, 0, []), (61, .iaload, 1, false, 0, 0, 0, 0, 0, []), (62, .goto 37, 3, false, 57, 0, 0, 0, 0, []), (65, .iload_n 2, 1, false, 0, 0, 0, 0, 0, []), (66, .iconst 1, 1, false, 0, 0, 0, 0, 0, []), (67, .if_icmp .ne 12, 3, false, 45, 0, 0, 0, 0, []), (70, .aload_n 0, 1, false, 0, 0, 0, 0, 0, []), (71, .getfield 41, 3, false, 0, 22, 13, 0, 0, []), (74, .iload_n 1, 1, false, 0, 0, 0, 0, 0, []), (75, .iaload, 1, false, 0, 0, 0, 0, 0, []), (76, .goto 23, 3, false, 57, 0, 0, 0, 0, []), (79, .iload_n 2, 1, false, 0, 0, 0, 0, 0, []), (80, .iconst 2, 1, false, 0, 0, 0, 0, 0, []), (81, .if_icmp .ne 12, 3, false, 53, 0, 0, 0, 0, []), (84, .aload_n 0, 1, false, 0, 0, 0, 0, 0, []), (85, .getfield 44, 3, false, 0, 23, 14, 0, 0, []), (88, .iload_n 1, 1, false, 0, 0, 0, 0, 0, []), (89, .iaload, 1, false, 0, 0, 0, 0, 0, []), (90, .goto 9, 3, false, 57, 0, 0, 0, 0, []), (93, .aload_n 0, 1, false, 0, 0, 0, 0, 0, []), (94, .getfield 47, 3, false, 0, 24, 15, 0, 0, []), (97, .iload_n 1, 1, false, 0, 0, 0, 0, 0, []), (98, .iaload, 1, false, 0, 0, 0, 0, 0, []), (99, .ireturn, 1, false, 0, 0, 0, 0, 0, [])] i i lo st I L := rfl
set_option maxRecDepth 20000 in
theorem uX5_mayCome (sh : mm_S) (call : mm_C) (Q : mm_Q) (n i : Nat) (lo st : List Value) (I : mm_I) (L : mm_L) : mm_v sh call tbX5_mayCome Q (n + 1) i lo st I L = mm_vn sh call tbX5_mayCome Q n [(0, .iconst 0, 1, false, 0, 0, 0, 0, 0, []), (1, .istore_n 3, 1, false, 0, 0, 0, 0, 0, []), (2, .iconst 0, 1, false, 0, 0, 0, 0, 0, []), (3, .istore 4, 2, false, 0, 0, 0, 0, 0, []), (5, .iload 4, 2, true, 0, 0, 0, 0, 0, []), (7, .aload_n 0, 1, false, 0, 0, 0, 0, 0, []), (8, .getfield 73, 3, false, 0, 0, 0, 0, 0, []), (11, .if_icmp .ge 33, 3, false, 26, 0, 0, 0, 0, []), (14, .iload_n 3, 1, false, 0, 0, 0, 0, 0, []), (15, .iload_n 2, 1, false, 0, 0, 0, 0, 0, []), (16, .iload 4, 2, false, 0, 0, 0, 0, 0, []), (18, .ishr, 1, false, 0, 0, 0, 0, 0, []), (19, .iconst 1, 1, false, 0, 0, 0, 0, 0, []), (20, .iand, 1, false, 0, 0, 0, 0, 0, []), (21, .iconst 1, 1, false, 0, 0, 0, 0, 0, []), (22, .if_icmp .ne 13, 3, false, 21, 0, 0, 0, 0, []), (25, .aload_n 0, 1, false, 0, 0, 0, 0, 0, []), (26, .getfield 16, 3, false, 0, 3, 6, 0, 0, []), (29, .iload 4, 2, false, 0, 0, 0, 0, 0, []), (31, .iaload, 1, false, 0, 0, 0, 0, 0, []), (32, .goto 4, 3, false, 22, 0, 0, 0, 0, []), (35, .iconst 0, 1, false, 0, 0, 0, 0, 0, []), (36, .ior, 1, false, 0, 0, 0, 0, 0, []), (37, .istore_n 3, 1, false, 0, 0, 0, 0, 0, []), (38, .iinc 4 1, 3, false, 0, 0, 0, 0, 0, []), (41, .goto (-36), 3, false, 4, 0, 0, 0, 0, []), (44, .iload_n 2, 1, false, 0, 0, 0, 0, 0, []), (45, .iload_n 1, 1, false, 0, 0, 0, 0, 0, []), (46, .ishr, 1, false, 0, 0, 0, 0, 0, []), (47, .iconst 1, 1, false, 0, 0, 0, 0, 0, []), (48, .iand, 1, false, 0, 0, 0, 0, 0, []), (49, .ifCond .ne 20, 3, false, 43, 0, 0, 0, 0, []), (52, .aload_n 0, 1, false, 0, 0, 0, 0, 0, []), (53, .getfield 19, 3, false, 0, 4, 7, 0, 0, []), (56, .iload_n 1, 1, false, 0, 0, 0, 0, 0, []), (57, .iaload, 1, false, 0, 0, 0, 0, 0, []), (58, .iload_n 3, 1, false, 0, 0, 0, 0, 0, []), (59, .iconst (-1), 1, false, 0, 0, 0, 0, 0, []), (60, .ixor, 1, false, 0, 0, 0, 0, 0, []), (61, .iand, 1, false, 0, 0, 0, 0, 0, []), (62, .ifCond .ne 7, 3, false, 43, 0, 0, 0, 0, []), (65, .iconst 1, 1, false, 0, 0, 0, 0, 0, []), (66, .goto 4, 3, false, 44, 0, 0, 0, 0, []), (69, .iconst 0, 1, false, 0, 0, 0, 0, 0, []), (70, .ireturn, 1, false, 0, 0, 1, 0, 0, [])] i i lo st I L := rfl
set_option maxRecDepth 20000 in
theorem hX5_mayCome (sh : mm_S) (call : mm_C) (Q : mm_Q) (n i : Nat) (lo st : List Value) (I : mm_I) (L : mm_L) : mm_h sh call tbX5_mayCome Q n i lo st I L = mm_hn sh call tbX5_mayCome Q n [(0, .iconst 0, 1, false, 0, 0, 0, 0, 0, []), (1, .istore_n 3, 1, false, 0, 0, 0, 0, 0, []), (2, .iconst 0, 1, false, 0, 0, 0, 0, 0, []), (3, .istore 4, 2, false, 0, 0, 0, 0, 0, []), (5, .iload 4, 2, true, 0, 0, 0, 0, 0, []), (7, .aload_n 0, 1, false, 0, 0, 0, 0, 0, []), (8, .getfield 73, 3, false, 0, 0, 0, 0, 0, []), (11, .if_icmp .ge 33, 3, false, 26, 0, 0, 0, 0, []), (14, .iload_n 3, 1, false, 0, 0, 0, 0, 0, []), (15, .iload_n 2, 1, false, 0, 0, 0, 0, 0, []), (16, .iload 4, 2, false, 0, 0, 0, 0, 0, []), (18, .ishr, 1, false, 0, 0, 0, 0, 0, []), (19, .iconst 1, 1, false, 0, 0, 0, 0, 0, []), (20, .iand, 1, false, 0, 0, 0, 0, 0, []), (21, .iconst 1, 1, false, 0, 0, 0, 0, 0, []), (22, .if_icmp .ne 13, 3, false, 21, 0, 0, 0, 0, []), (25, .aload_n 0, 1, false, 0, 0, 0, 0, 0, []), (26, .getfield 16, 3, false, 0, 3, 6, 0, 0, []), (29, .iload 4, 2, false, 0, 0, 0, 0, 0, []), (31, .iaload, 1, false, 0, 0, 0, 0, 0, []), (32, .goto 4, 3, false, 22, 0, 0, 0, 0, []), (35, .iconst 0, 1, false, 0, 0, 0, 0, 0, []), (36, .ior, 1, false, 0, 0, 0, 0, 0, []), (37, .istore_n 3, 1, false, 0, 0, 0, 0, 0, []), (38, .iinc 4 1, 3, false, 0, 0, 0, 0, 0, []), (41, .goto (-36), 3, false, 4, 0, 0, 0, 0, []), (44, .iload_n 2, 1, false, 0, 0, 0, 0, 0, []), (45, .iload_n 1, 1, false, 0, 0, 0, 0, 0, []), (46, .ishr, 1, false, 0, 0, 0, 0, 0, []), (47, .iconst 1, 1, false, 0, 0, 0, 0, 0, []), (48, .iand, 1, false, 0, 0, 0, 0, 0, []), (49, .ifCond .ne 20, 3, false, 43, 0, 0, 0, 0, []), (52, .aload_n 0, 1, false, 0, 0, 0, 0, 0, []), (53, .getfield 19, 3, false, 0, 4, 7, 0, 0, []), (56, .iload_n 1, 1, false, 0, 0, 0, 0, 0, []), (57, .iaload, 1, false, 0, 0, 0, 0, 0, []), (58, .iload_n 3, 1, false, 0, 0, 0, 0, 0, []), (59, .iconst (-1), 1, false, 0, 0, 0, 0, 0, []), (60, .ixor, 1, false, 0, 0, 0, 0, 0, []), (61, .iand, 1, false, 0, 0, 0, 0, 0, []), (62, .ifCond .ne 7, 3, false, 43, 0, 0, 0, 0, []), (65, .iconst 1, 1, false, 0, 0, 0, 0, 0, []), (66, .goto 4, 3, false, 44, 0, 0, 0, 0, []), (69, .iconst 0, 1, false, 0, 0, 0, 0, 0, []), (70, .ireturn, 1, false, 0, 0, 1, 0, 0, [])] i i lo st I L := rfl
set_option maxRecDepth 20000 in
theorem uX5_byNext (sh : mm_S) (call : mm_C) (Q : mm_Q) (n i : Nat) (lo st : List Value) (I : mm_I) (L : mm_L) : mm_v sh call tbX5_byNext Q (n + 1) i lo st I L = mm_vn sh call tbX5_byNext Q n [(0, .aload_n 0, 1, false, 0, 0, 0, 0, 0, []), (1, .getfield 50, 3, false, 0, 25, 16, 0, 0, []), (4, .bipush 8, 2, false, 0, 0, 0, 0, 0, []), (6, .iload_n 1, 1, false, 0, 0, 0, 0, 0, []), (7, .iconst 1, 1, false, 0, 0, 0, 0, 0, []), (8, .iload_n 3, 1, false, 0, 0, 0, 0, 0, []), (9, .ishl, 1, false, 0, 0, 0, 0, 0, []), (10, .ior, 1, false, 0, 0, 0, 0, 0, []), (11, .imul, 1, false, 0, 0, 0, 0, 0, []), (12, .iload_n 3, 1, false, 0, 0, 0, 0, 0, []), (13, .iadd, 1, false, 0, 0, 0, 0, 0, []), (14, .laload, 1, false, 0, 0, 0, 0, 0, []), (15, .lstore 4, 2, false, 0, 0, 0, 0, 0, []), (17, .lload 4, 2, false, 0, 0, 0, 0, 0, []), (19, .ldc2_w 195, 3, false, 0, 0, 0, 0, 1000000000000, []), (22, .lcmp, 1, false, 0, 0, 0, 0, 0, []), (23, .ifCond .lt 9, 3, false, 19, 0, 0, 0, 0, []), (26, .ldc2_w 195, 3, false, 0, 0, 0, 0, 1000000000000, []), (29, .goto 12, 3, false, 25, 0, 0, 0, 0, []), (32, .aload_n 0, 1, false, 0, 0, 0, 0, 0, []), (33, .iload_n 2, 1, false, 0, 0, 0, 0, 0, []), (34, .iload_n 3, 1, false, 0, 0, 0, 0, 0, []), (35, .invokevirtual 106, 3, false, 16, 3, 2, 0, 0, []), (38, .lload 4, 2, false, 0, 0, 0, 0, 0, []), (40, .ladd, 1, false, 0, 0, 0, 0, 0, []), (41, .lreturn, 1, false, 0, 0, 0, 0, 0, [])] i i lo st I L := rfl
set_option maxRecDepth 20000 in
theorem uX5_findRest (sh : mm_S) (call : mm_C) (Q : mm_Q) (n i : Nat) (lo st : List Value) (I : mm_I) (L : mm_L) : mm_v sh call tbX5_findRest Q (n + 1) i lo st I L = mm_vn sh call tbX5_findRest Q n [(0, .iconst 1, 1, false, 0, 0, 0, 0, 0, []), (1, .aload_n 0, 1, false, 0, 0, 0, 0, 0, []), (2, .getfield 73, 3, false, 0, 0, 0, 0, 0, []), (5, .ishl, 1, false, 0, 0, 0, 0, 0, []), (6, .iconst 1, 1, false, 0, 0, 0, 0, 0, []), (7, .isub, 1, false, 0, 0, 0, 0, 0, []), (8, .istore_n 1, 1, false, 0, 0, 0, 0, 0, []), (9, .iload_n 1, 1, false, 0, 0, 0, 0, 0, []), (10, .istore_n 2, 1, false, 0, 0, 0, 0, 0, []), (11, .iload_n 2, 1, true, 0, 0, 0, 0, 0, []), (12, .ifCond .le 118, 3, false, 69, 0, 0, 0, 0, []), (15, .iconst 0, 1, false, 0, 0, 0, 0, 0, []), (16, .istore_n 3, 1, false, 0, 0, 0, 0, 0, []), (17, .iload_n 3, 1, true, 0, 0, 0, 0, 0, []), (18, .aload_n 0, 1, false, 0, 0, 0, 0, 0, []), (19, .getfield 73, 3, false, 0, 0, 0, 0, 0, []), (22, .if_icmp .ge 102, 3, false, 67, 0, 0, 0, 0, []), (25, .iload_n 2, 1, false, 0, 0, 0, 0, 0, []), (26, .iload_n 1, 1, false, 0, 0, 0, 0, 0, []), (27, .if_icmp .ne 7, 3, false, 22, 0, 0, 0, 0, []), (30, .lconst 0, 1, false, 0, 0, 0, 0, 0, []), (31, .goto 6, 3, false, 23, 0, 0, 0, 0, []), (34, .ldc2_w 195, 3, false, 0, 0, 0, 0, 1000000000000, []), (37, .lstore 4, 2, false, 0, 0, 0, 0, 0, []), (39, .iconst 0, 1, false, 0, 0, 0, 0, 0, []), (40, .istore 6, 2, false, 0, 0, 0, 0, 0, []), (42, .iload 6, 2, true, 0, 0, 0, 0, 0, []), (44, .aload_n 0, 1, false, 0, 0, 0, 0, 0, []), (45, .getfield 73, 3, false, 0, 0, 0, 0, 0, []), (48, .if_icmp .ge 57, 3, false, 56, 0, 0, 0, 0, []), (51, .iload_n 2, 1, false, 0, 0, 0, 0, 0, []), (52, .iload_n 1, 1, false, 0, 0, 0, 0, 0, []), (53, .if_icmp .eq 52, 3, false, 56, 0, 0, 0, 0, []), (56, .aload_n 0, 1, false, 0, 0, 0, 0, 0, []), (57, .iload 6, 2, false, 0, 0, 0, 0, 0, []), (59, .iload_n 2, 1, false, 0, 0, 0, 0, 0, []), (60, .invokevirtual 197, 3, false, 39, 3, 1, 0, 0, []), (63, .ifCond .eq 14, 3, false, 44, 0, 0, 0, 0, []), (66, .aload_n 0, 1, false, 0, 0, 0, 0, 0, []), (67, .iload_n 2, 1, false, 0, 0, 0, 0, 0, []), (68, .iload_n 3, 1, false, 0, 0, 0, 0, 0, []), (69, .iload 6, 2, false, 0, 0, 0, 0, 0, []), (71, .invokevirtual 200, 3, false, 40, 4, 2, 0, 0, []), (74, .goto 6, 3, false, 45, 0, 0, 0, 0, []), (77, .ldc2_w 195, 3, false, 0, 0, 0, 0, 1000000000000, []), (80, .lstore 7, 2, false, 0, 0, 0, 0, 0, []), (82, .lload 7, 2, false, 0, 0, 0, 0, 0, []), (84, .lload 4, 2, false, 0, 0, 0, 0, 0, []), (86, .lcmp, 1, false, 0, 0, 0, 0, 0, []), (87, .ifCond .ge 8, 3, false, 52, 0, 0, 0, 0, []), (90, .lload 7, 2, false, 0, 0, 0, 0, 0, []), (92, .goto 5, 3, false, 53, 0, 0, 0, 0, []), (95, .lload 4, 2, false, 0, 0, 0, 0, 0, []), (97, .lstore 4, 2, false, 0, 0, 0, 0, 0, []), (99, .iinc 6 1, 3, false, 0, 0, 0, 0, 0, []), (102, .goto (-60), 3, false, 26, 0, 0, 0, 0, []), (105, .aload_n 0, 1, false, 0, 0, 0, 0, 0, []), (106, .getfield 50, 3, false, 0, 25, 16, 0, 0, []), (109, .bipush 8, 2, false, 0, 0, 0, 0, 0, []), (111, .iload_n 2, 1, false, 0, 0, 0, 0, 0, []), (112, .imul, 1, false, 0, 0, 0, 0, 0, []), (113, .iload_n 3, 1, false, 0, 0, 0, 0, 0, []), (114, .iadd, 1, false, 0, 0, 0, 0, 0, []), (115, .lload 4, 2, false, 0, 0, 0, 0, 0, []), (117, .lastore, 1, false, 0, 0, 0, 0, 0, []), (118, .iinc 3 1, 3, false, 0, 0, 0, 0, 0, []), (121, .goto (-104), 3, false, 13, 0, 0, 0, 0, []), (124, .iinc 2 (-1), 3, false, 0, 0, 0, 0, 0, []), (127, .goto (-116), 3, false, 9, 0, 0, 0, 0, []), (130, .return_, 1, false, 0, 0, 0, 0, 0, [])] i i lo st I L := rfl
set_option maxRecDepth 20000 in
theorem hX5_findRest (sh : mm_S) (call : mm_C) (Q : mm_Q) (n i : Nat) (lo st : List Value) (I : mm_I) (L : mm_L) : mm_h sh call tbX5_findRest Q n i lo st I L = mm_hn sh call tbX5_findRest Q n [(0, .iconst 1, 1, false, 0, 0, 0, 0, 0, []), (1, .aload_n 0, 1, false, 0, 0, 0, 0, 0, []), (2, .getfield 73, 3, false, 0, 0, 0, 0, 0, []), (5, .ishl, 1, false, 0, 0, 0, 0, 0, []), (6, .iconst 1, 1, false, 0, 0, 0, 0, 0, []), (7, .isub, 1, false, 0, 0, 0, 0, 0, []), (8, .istore_n 1, 1, false, 0, 0, 0, 0, 0, []), (9, .iload_n 1, 1, false, 0, 0, 0, 0, 0, []), (10, .istore_n 2, 1, false, 0, 0, 0, 0, 0, []), (11, .iload_n 2, 1, true, 0, 0, 0, 0, 0, []), (12, .ifCond .le 118, 3, false, 69, 0, 0, 0, 0, []), (15, .iconst 0, 1, false, 0, 0, 0, 0, 0, []), (16, .istore_n 3, 1, false, 0, 0, 0, 0, 0, []), (17, .iload_n 3, 1, true, 0, 0, 0, 0, 0, []), (18, .aload_n 0, 1, false, 0, 0, 0, 0, 0, []), (19, .getfield 73, 3, false, 0, 0, 0, 0, 0, []), (22, .if_icmp .ge 102, 3, false, 67, 0, 0, 0, 0, []), (25, .iload_n 2, 1, false, 0, 0, 0, 0, 0, []), (26, .iload_n 1, 1, false, 0, 0, 0, 0, 0, []), (27, .if_icmp .ne 7, 3, false, 22, 0, 0, 0, 0, []), (30, .lconst 0, 1, false, 0, 0, 0, 0, 0, []), (31, .goto 6, 3, false, 23, 0, 0, 0, 0, []), (34, .ldc2_w 195, 3, false, 0, 0, 0, 0, 1000000000000, []), (37, .lstore 4, 2, false, 0, 0, 0, 0, 0, []), (39, .iconst 0, 1, false, 0, 0, 0, 0, 0, []), (40, .istore 6, 2, false, 0, 0, 0, 0, 0, []), (42, .iload 6, 2, true, 0, 0, 0, 0, 0, []), (44, .aload_n 0, 1, false, 0, 0, 0, 0, 0, []), (45, .getfield 73, 3, false, 0, 0, 0, 0, 0, []), (48, .if_icmp .ge 57, 3, false, 56, 0, 0, 0, 0, []), (51, .iload_n 2, 1, false, 0, 0, 0, 0, 0, []), (52, .iload_n 1, 1, false, 0, 0, 0, 0, 0, []), (53, .if_icmp .eq 52, 3, false, 56, 0, 0, 0, 0, []), (56, .aload_n 0, 1, false, 0, 0, 0, 0, 0, []), (57, .iload 6, 2, false, 0, 0, 0, 0, 0, []), (59, .iload_n 2, 1, false, 0, 0, 0, 0, 0, []), (60, .invokevirtual 197, 3, false, 39, 3, 1, 0, 0, []), (63, .ifCond .eq 14, 3, false, 44, 0, 0, 0, 0, []), (66, .aload_n 0, 1, false, 0, 0, 0, 0, 0, []), (67, .iload_n 2, 1, false, 0, 0, 0, 0, 0, []), (68, .iload_n 3, 1, false, 0, 0, 0, 0, 0, []), (69, .iload 6, 2, false, 0, 0, 0, 0, 0, []), (71, .invokevirtual 200, 3, false, 40, 4, 2, 0, 0, []), (74, .goto 6, 3, false, 45, 0, 0, 0, 0, []), (77, .ldc2_w 195, 3, false, 0, 0, 0, 0, 1000000000000, []), (80, .lstore 7, 2, false, 0, 0, 0, 0, 0, []), (82, .lload 7, 2, false, 0, 0, 0, 0, 0, []), (84, .lload 4, 2, false, 0, 0, 0, 0, 0, []), (86, .lcmp, 1, false, 0, 0, 0, 0, 0, []), (87, .ifCond .ge 8, 3, false, 52, 0, 0, 0, 0, []), (90, .lload 7, 2, false, 0, 0, 0, 0, 0, []), (92, .goto 5, 3, false, 53, 0, 0, 0, 0, []), (95, .lload 4, 2, false, 0, 0, 0, 0, 0, []), (97, .lstore 4, 2, false, 0, 0, 0, 0, 0, []), (99, .iinc 6 1, 3, false, 0, 0, 0, 0, 0, []), (102, .goto (-60), 3, false, 26, 0, 0, 0, 0, []), (105, .aload_n 0, 1, false, 0, 0, 0, 0, 0, []), (106, .getfield 50, 3, false, 0, 25, 16, 0, 0, []), (109, .bipush 8, 2, false, 0, 0, 0, 0, 0, []), (111, .iload_n 2, 1, false, 0, 0, 0, 0, 0, []), (112, .imul, 1, false, 0, 0, 0, 0, 0, []), (113, .iload_n 3, 1, false, 0, 0, 0, 0, 0, []), (114, .iadd, 1, false, 0, 0, 0, 0, 0, []), (115, .lload 4, 2, false, 0, 0, 0, 0, 0, []), (117, .lastore, 1, false, 0, 0, 0, 0, 0, []), (118, .iinc 3 1, 3, false, 0, 0, 0, 0, 0, []), (121, .goto (-104), 3, false, 13, 0, 0, 0, 0, []), (124, .iinc 2 (-1), 3, false, 0, 0, 0, 0, 0, []), (127, .goto (-116), 3, false, 9, 0, 0, 0, 0, []), (130, .return_, 1, false, 0, 0, 0, 0, 0, [])] i i lo st I L := rfl
set_option maxRecDepth 20000 in
theorem uX5_findOrder (sh : mm_S) (call : mm_C) (Q : mm_Q) (n i : Nat) (lo st : List Value) (I : mm_I) (L : mm_L) : mm_v sh call tbX5_findOrder Q (n + 1) i lo st I L = mm_vn sh call tbX5_findOrder Q n [(0, .aload_n 0, 1, false, 0, 0, 0, 0, 0, []), (1, .invokevirtual 204, 3, false, 41, 1, 0, 0, 0, []), (4, .ldc2_w 195, 3, false, 0, 0, 0, 0, 1000000000000, []), (7, .lstore_n 1, 1, false, 0, 0, 0, 0, 0, []), (8, .aload_n 0, 1, false, 0, 0, 0, 0, 0, []), (9, .getfield 73, 3, false, 0, 0, 0, 0, 0, []), (12, .iconst 1, 1, false, 0, 0, 0, 0, 0, []), (13, .isub, 1, false, 0, 0, 0, 0, 0, []), (14, .istore_n 3, 1, false, 0, 0, 0, 0, 0, []), (15, .iload_n 3, 1, true, 0, 0, 0, 0, 0, []), (16, .ifCond .lt 76, 3, false, 53, 0, 0, 0, 0, []), (19, .aload_n 0, 1, false, 0, 0, 0, 0, 0, []), (20, .getfield 19, 3, false, 0, 4, 7, 0, 0, []), (23, .iload_n 3, 1, false, 0, 0, 0, 0, 0, []), (24, .iaload, 1, false, 0, 0, 0, 0, 0, []), (25, .ifCond .ne 19, 3, false, 27, 0, 0, 0, 0, []), (28, .aload_n 0, 1, false, 0, 0, 0, 0, 0, []), (29, .getfield 50, 3, false, 0, 25, 16, 0, 0, []), (32, .bipush 8, 2, false, 0, 0, 0, 0, 0, []), (34, .iconst 1, 1, false, 0, 0, 0, 0, 0, []), (35, .iload_n 3, 1, false, 0, 0, 0, 0, 0, []), (36, .ishl, 1, false, 0, 0, 0, 0, 0, []), (37, .imul, 1, false, 0, 0, 0, 0, 0, []), (38, .iload_n 3, 1, false, 0, 0, 0, 0, 0, []), (39, .iadd, 1, false, 0, 0, 0, 0, 0, []), (40, .laload, 1, false, 0, 0, 0, 0, 0, []), (41, .goto 6, 3, false, 28, 0, 0, 0, 0, []), (44, .ldc2_w 195, 3, false, 0, 0, 0, 0, 1000000000000, []), (47, .lstore 4, 2, false, 0, 0, 0, 0, 0, []), (49, .aload_n 0, 1, false, 0, 0, 0, 0, 0, []), (50, .getfield 54, 3, false, 0, 26, 17, 0, 0, []), (53, .iconst 0, 1, false, 0, 0, 0, 0, 0, []), (54, .lload 4, 2, false, 0, 0, 0, 0, 0, []), (56, .lload_n 1, 1, false, 0, 0, 0, 0, 0, []), (57, .lcmp, 1, false, 0, 0, 0, 0, 0, []), (58, .ifCond .gt 7, 3, false, 38, 0, 0, 0, 0, []), (61, .iload_n 3, 1, false, 0, 0, 0, 0, 0, []), (62, .goto 9, 3, false, 42, 0, 0, 0, 0, []), (65, .aload_n 0, 1, false, 0, 0, 0, 0, 0, []), (66, .getfield 54, 3, false, 0, 26, 17, 0, 0, []), (69, .iconst 0, 1, false, 0, 0, 0, 0, 0, []), (70, .iaload, 1, false, 0, 0, 0, 0, 0, []), (71, .iastore, 1, false, 0, 0, 0, 0, 0, []), (72, .lload 4, 2, false, 0, 0, 0, 0, 0, []), (74, .lload_n 1, 1, false, 0, 0, 0, 0, 0, []), (75, .lcmp, 1, false, 0, 0, 0, 0, 0, []), (76, .ifCond .ge 8, 3, false, 49, 0, 0, 0, 0, []), (79, .lload 4, 2, false, 0, 0, 0, 0, 0, []), (81, .goto 4, 3, false, 50, 0, 0, 0, 0, []), (84, .lload_n 1, 1, false, 0, 0, 0, 0, 0, []), (85, .lstore_n 1, 1, false, 0, 0, 0, 0, 0, []), (86, .iinc 3 (-1), 3, false, 0, 0, 0, 0, 0, []), (89, .goto (-74), 3, false, 9, 0, 0, 0, 0, []), (92, .iconst 1, 1, false, 0, 0, 0, 0, 0, []), (93, .aload_n 0, 1, false, 0, 0, 0, 0, 0, []), (94, .getfield 54, 3, false, 0, 26, 17, 0, 0, []), (97, .iconst 0, 1, false, 0, 0, 0, 0, 0, []), (98, .iaload, 1, false, 0, 0, 0, 0, 0, []), (99, .ishl, 1, false, 0, 0, 0, 0, 0, []), (100, .istore_n 3, 1, false, 0, 0, 0, 0, 0, []), (101, .iconst 1, 1, false, 0, 0, 0, 0, 0, []), (102, .istore 4, 2, false, 0, 0, 0, 0, 0, []), (104, .iload 4, 2, true, 0, 0, 0, 0, 0, []), (106, .aload_n 0, 1, false, 0, 0, 0, 0, 0, []), (107, .getfield 73, 3, false, 0, 0, 0, 0, 0, []), (110, .if_icmp .ge 88, 3, false, 114, 0, 0, 0, 0, []), (113, .lload_n 1, 1, false, 0, 0, 0, 0, 0, []), (114, .ldc2_w 195, 3, false, 0, 0, 0, 0, 1000000000000, []), (117, .lcmp, 1, false, 0, 0, 0, 0, 0, []), (118, .ifCond .ge 80, 3, false, 114, 0, 0, 0, 0, []), (121, .aload_n 0, 1, false, 0, 0, 0, 0, 0, []), (122, .getfield 54, 3, false, 0, 26, 17, 0, 0, []), (125, .iload 4, 2, false, 0, 0, 0, 0, 0, []), (127, .iconst 1, 1, false, 0, 0, 0, 0, 0, []), (128, .isub, 1, false, 0, 0, 0, 0, 0, []), (129, .iaload, 1, false, 0, 0, 0, 0, 0, []), (130, .istore 5, 2, false, 0, 0, 0, 0, 0, []), (132, .iconst 0, 1, false, 0, 0, 0, 0, 0, []), (133, .istore 6, 2, false, 0, 0, 0, 0, 0, []), (135, .aload_n 0, 1, true, 0, 0, 0, 0, 0, []), (136, .iload 6, 2, false, 0, 0, 0, 0, 0, []), (138, .iload_n 3, 1, false, 0, 0, 0, 0, 0, []), (139, .invokevirtual 197, 3, false, 39, 3, 1, 0, 0, []), (142, .ifCond .eq 28, 3, false, 99, 0, 0, 0, 0, []), (145, .aload_n 0, 1, false, 0, 0, 0, 0, 0, []), (146, .iload_n 3, 1, false, 0, 0, 0, 0, 0, []), (147, .iload 5, 2, false, 0, 0, 0, 0, 0, []), (149, .iload 6, 2, false, 0, 0, 0, 0, 0, []), (151, .invokevirtual 200, 3, false, 40, 4, 2, 0, 0, []), (154, .aload_n 0, 1, false, 0, 0, 0, 0, 0, []), (155, .getfield 50, 3, false, 0, 25, 16, 0, 0, []), (158, .bipush 8, 2, false, 0, 0, 0, 0, 0, []), (160, .iload_n 3, 1, false, 0, 0, 0, 0, 0, []), (161, .imul, 1, false, 0, 0, 0, 0, 0, []), (162, .iload 5, 2, false, 0, 0, 0, 0, 0, []), (164, .iadd, 1, false, 0, 0, 0, 0, 0, []), (165, .laload, 1, false, 0, 0, 0, 0, 0, []), (166, .lcmp, 1, false, 0, 0, 0, 0, 0, []), (167, .ifCond .eq 9, 3, false, 101, 0, 0, 0, 0, []), (170, .iinc 6 1, 3, false, 0, 0, 0, 0, 0, []), (173, .goto (-38), 3, false, 79, 0, 0, 0, 0, []), (176, .aload_n 0, 1, false, 0, 0, 0, 0, 0, []), (177, .getfield 54, 3, false, 0, 26, 17, 0, 0, []), (180, .iload 4, 2, false, 0, 0, 0, 0, 0, []), (182, .iload 6, 2, false, 0, 0, 0, 0, 0, []), (184, .iastore, 1, false, 0, 0, 0, 0, 0, []), (185, .iload_n 3, 1, false, 0, 0, 0, 0, 0, []), (186, .iconst 1, 1, false, 0, 0, 0, 0, 0, []), (187, .iload 6, 2, false, 0, 0, 0, 0, 0, []), (189, .ishl, 1, false, 0, 0, 0, 0, 0, []), (190, .ior, 1, false, 0, 0, 0, 0, 0, []), (191, .istore_n 3, 1, false, 0, 0, 0, 0, 0, []), (192, .iinc 4 1, 3, false, 0, 0, 0, 0, 0, []), (195, .goto (-91), 3, false, 62, 0, 0, 0, 0, []), (198, .lload_n 1, 1, false, 0, 0, 0, 0, 0, []), (199, .lreturn, 1, false, 0, 0, 0, 0, 0, [])] i i lo st I L := rfl
set_option maxRecDepth 20000 in
theorem hX5_findOrder (sh : mm_S) (call : mm_C) (Q : mm_Q) (n i : Nat) (lo st : List Value) (I : mm_I) (L : mm_L) : mm_h sh call tbX5_findOrder Q n i lo st I L = mm_hn sh call tbX5_findOrder Q n [(0, .aload_n 0, 1, false, 0, 0, 0, 0, 0, []), (1, .invokevirtual 204, 3, false, 41, 1, 0, 0, 0, []), (4, .ldc2_w 195, 3, false, 0, 0, 0, 0, 1000000000000, []), (7, .lstore_n 1, 1, false, 0, 0, 0, 0, 0, []), (8, .aload_n 0, 1, false, 0, 0, 0, 0, 0, []), (9, .getfield 73, 3, false, 0, 0, 0, 0, 0, []), (12, .iconst 1, 1, false, 0, 0, 0, 0, 0, []), (13, .isub, 1, false, 0, 0, 0, 0, 0, []), (14, .istore_n 3, 1, false, 0, 0, 0, 0, 0, []), (15, .iload_n 3, 1, true, 0, 0, 0, 0, 0, []), (16, .ifCond .lt 76, 3, false, 53, 0, 0, 0, 0, []), (19, .aload_n 0, 1, false, 0, 0, 0, 0, 0, []), (20, .getfield 19, 3, false, 0, 4, 7, 0, 0, []), (23, .iload_n 3, 1, false, 0, 0, 0, 0, 0, []), (24, .iaload, 1, false, 0, 0, 0, 0, 0, []), (25, .ifCond .ne 19, 3, false, 27, 0, 0, 0, 0, []), (28, .aload_n 0, 1, false, 0, 0, 0, 0, 0, []), (29, .getfield 50, 3, false, 0, 25, 16, 0, 0, []), (32, .bipush 8, 2, false, 0, 0, 0, 0, 0, []), (34, .iconst 1, 1, false, 0, 0, 0, 0, 0, []), (35, .iload_n 3, 1, false, 0, 0, 0, 0, 0, []), (36, .ishl, 1, false, 0, 0, 0, 0, 0, []), (37, .imul, 1, false, 0, 0, 0, 0, 0, []), (38, .iload_n 3, 1, false, 0, 0, 0, 0, 0, []), (39, .iadd, 1, false, 0, 0, 0, 0, 0, []), (40, .laload, 1, false, 0, 0, 0, 0, 0, []), (41, .goto 6, 3, false, 28, 0, 0, 0, 0, []), (44, .ldc2_w 195, 3, false, 0, 0, 0, 0, 1000000000000, []), (47, .lstore 4, 2, false, 0, 0, 0, 0, 0, []), (49, .aload_n 0, 1, false, 0, 0, 0, 0, 0, []), (50, .getfield 54, 3, false, 0, 26, 17, 0, 0, []), (53, .iconst 0, 1, false, 0, 0, 0, 0, 0, []), (54, .lload 4, 2, false, 0, 0, 0, 0, 0, []), (56, .lload_n 1, 1, false, 0, 0, 0, 0, 0, []), (57, .lcmp, 1, false, 0, 0, 0, 0, 0, []), (58, .ifCond .gt 7, 3, false, 38, 0, 0, 0, 0, []), (61, .iload_n 3, 1, false, 0, 0, 0, 0, 0, []), (62, .goto 9, 3, false, 42, 0, 0, 0, 0, []), (65, .aload_n 0, 1, false, 0, 0, 0, 0, 0, []), (66, .getfield 54, 3, false, 0, 26, 17, 0, 0, []), (69, .iconst 0, 1, false, 0, 0, 0, 0, 0, []), (70, .iaload, 1, false, 0, 0, 0, 0, 0, []), (71, .iastore, 1, false, 0, 0, 0, 0, 0, []), (72, .lload 4, 2, false, 0, 0, 0, 0, 0, []), (74, .lload_n 1, 1, false, 0, 0, 0, 0, 0, []), (75, .lcmp, 1, false, 0, 0, 0, 0, 0, []), (76, .ifCond .ge 8, 3, false, 49, 0, 0, 0, 0, []), (79, .lload 4, 2, false, 0, 0, 0, 0, 0, []), (81, .goto 4, 3, false, 50, 0, 0, 0, 0, []), (84, .lload_n 1, 1, false, 0, 0, 0, 0, 0, []), (85, .lstore_n 1, 1, false, 0, 0, 0, 0, 0, []), (86, .iinc 3 (-1), 3, false, 0, 0, 0, 0, 0, []), (89, .goto (-74), 3, false, 9, 0, 0, 0, 0, []), (92, .iconst 1, 1, false, 0, 0, 0, 0, 0, []), (93, .aload_n 0, 1, false, 0, 0, 0, 0, 0, []), (94, .getfield 54, 3, false, 0, 26, 17, 0, 0, []), (97, .iconst 0, 1, false, 0, 0, 0, 0, 0, []), (98, .iaload, 1, false, 0, 0, 0, 0, 0, []), (99, .ishl, 1, false, 0, 0, 0, 0, 0, []), (100, .istore_n 3, 1, false, 0, 0, 0, 0, 0, []), (101, .iconst 1, 1, false, 0, 0, 0, 0, 0, []), (102, .istore 4, 2, false, 0, 0, 0, 0, 0, []), (104, .iload 4, 2, true, 0, 0, 0, 0, 0, []), (106, .aload_n 0, 1, false, 0, 0, 0, 0, 0, []), (107, .getfield 73, 3, false, 0, 0, 0, 0, 0, []), (110, .if_icmp .ge 88, 3, false, 114, 0, 0, 0, 0, []), (113, .lload_n 1, 1, false, 0, 0, 0, 0, 0, []), (114, .ldc2_w 195, 3, false, 0, 0, 0, 0, 1000000000000, []), (117, .lcmp, 1, false, 0, 0, 0, 0, 0, []), (118, .ifCond .ge 80, 3, false, 114, 0, 0, 0, 0, []), (121, .aload_n 0, 1, false, 0, 0, 0, 0, 0, []), (122, .getfield 54, 3, false, 0, 26, 17, 0, 0, []), (125, .iload 4, 2, false, 0, 0, 0, 0, 0, []), (127, .iconst 1, 1, false, 0, 0, 0, 0, 0, []), (128, .isub, 1, false, 0, 0, 0, 0, 0, []), (129, .iaload, 1, false, 0, 0, 0, 0, 0, []), (130, .istore 5, 2, false, 0, 0, 0, 0, 0, []), (132, .iconst 0, 1, false, 0, 0, 0, 0, 0, []), (133, .istore 6, 2, false, 0, 0, 0, 0, 0, []), (135, .aload_n 0, 1, true, 0, 0, 0, 0, 0, []), (136, .iload 6, 2, false, 0, 0, 0, 0, 0, []), (138, .iload_n 3, 1, false, 0, 0, 0, 0, 0, []), (139, .invokevirtual 197, 3, false, 39, 3, 1, 0, 0, []), (142, .ifCond .eq 28, 3, false, 99, 0, 0, 0, 0, []), (145, .aload_n 0, 1, false, 0, 0, 0, 0, 0, []), (146, .iload_n 3, 1, false, 0, 0, 0, 0, 0, []), (147, .iload 5, 2, false, 0, 0, 0, 0, 0, []), (149, .iload 6, 2, false, 0, 0, 0, 0, 0, []), (151, .invokevirtual 200, 3, false, 40, 4, 2, 0, 0, []), (154, .aload_n 0, 1, false, 0, 0, 0, 0, 0, []), (155, .getfield 50, 3, false, 0, 25, 16, 0, 0, []), (158, .bipush 8, 2, false, 0, 0, 0, 0, 0, []), (160, .iload_n 3, 1, false, 0, 0, 0, 0, 0, []), (161, .imul, 1, false, 0, 0, 0, 0, 0, []), (162, .iload 5, 2, false, 0, 0, 0, 0, 0, []), (164, .iadd, 1, false, 0, 0, 0, 0, 0, []), (165, .laload, 1, false, 0, 0, 0, 0, 0, []), (166, .lcmp, 1, false, 0, 0, 0, 0, 0, []), (167, .ifCond .eq 9, 3, false, 101, 0, 0, 0, 0, []), (170, .iinc 6 1, 3, false, 0, 0, 0, 0, 0, []), (173, .goto (-38), 3, false, 79, 0, 0, 0, 0, []), (176, .aload_n 0, 1, false, 0, 0, 0, 0, 0, []), (177, .getfield 54, 3, false, 0, 26, 17, 0, 0, []), (180, .iload 4, 2, false, 0, 0, 0, 0, 0, []), (182, .iload 6, 2, false, 0, 0, 0, 0, 0, []), (184, .iastore, 1, false, 0, 0, 0, 0, 0, []), (185, .iload_n 3, 1, false, 0, 0, 0, 0, 0, []), (186, .iconst 1, 1, false, 0, 0, 0, 0, 0, []), (187, .iload 6, 2, false, 0, 0, 0, 0, 0, []), (189, .ishl, 1, false, 0, 0, 0, 0, 0, []), (190, .ior, 1, false, 0, 0, 0, 0, 0, []), (191, .istore_n 3, 1, false, 0, 0, 0, 0, 0, []), (192, .iinc 4 1, 3, false, 0, 0, 0, 0, 0, []), (195, .goto (-91), 3, false, 62, 0, 0, 0, 0, []), (198, .lload_n 1, 1, false, 0, 0, 0, 0, 0, []), (199, .lreturn, 1, false, 0, 0, 0, 0, 0, [])] i i lo st I L := rfl
set_option maxRecDepth 20000 in
theorem uX5_order (sh : mm_S) (call : mm_C) (Q : mm_Q) (n i : Nat) (lo st : List Value) (I : mm_I) (L : mm_L) : mm_v sh call tbX5_order Q (n + 1) i lo st I L = mm_vn sh call tbX5_order Q n [(0, .iload_n 1, 1, false, 0, 0, 0, 0, 0, []), (1, .iconst (-1), 1, false, 0, 0, 0, 0, 0, []), (2, .bipush 7, 2, false, 0, 0, 0, 0, 0, []), (4, .invokestatic 76, 3, false, 0, 3, 1, 0, 0, []), (7, .ifCond .ne 6, 3, false, 7, 0, 0, 0, 0, []), (10, .bipush (-2), 2, false, 0, 0, 0, 0, 0, []), (12, .ireturn, 1, false, 0, 0, 0, 0, 0, []), (13, .aload_n 0, 1, false, 0, 0, 0, 0, 0, []), (14, .getfield 73, 3, false, 0, 0, 0, 0, 0, []), (17, .ifCond .ne 6, 3, false, 12, 0, 0, 0, 0, []), (20, .bipush (-9), 2, false, 0, 0, 0, 0, 0, []), (22, .ireturn, 1, false, 0, 0, 0, 0, 0, []), (23, .aload_n 0, 1, false, 0, 0, 0, 0, 0, []), (24, .invokevirtual 207, 3, false, 42, 1, 2, 0, 0, []), (27, .lstore_n 2, 1, false, 0, 0, 0, 0, 0, []), (28, .lload_n 2, 1, false, 0, 0, 0, 0, 0, []), (29, .ldc2_w 195, 3, false, 0, 0, 0, 0, 1000000000000, []), (32, .lcmp, 1, false, 0, 0, 0, 0, 0, []), (33, .ifCond .lt 6, 3, false, 21, 0, 0, 0, 0, []), (36, .bipush (-9), 2, false, 0, 0, 0, 0, 0, []), (38, .ireturn, 1, false, 0, 0, 0, 0, 0, []), (39, .iload_n 1, 1, false, 0, 0, 0, 0, 0, []), (40, .ifCond .ge 10, 3, false, 26, 0, 0, 0, 0, []), (43, .lload_n 2, 1, false, 0, 0, 0, 0, 0, []), (44, .invokestatic 191, 3, false, 36, 1, 1, 0, 0, []), (47, .goto 22, 3, false, 36, 0, 0, 0, 0, []), (50, .iload_n 1, 1, false, 0, 0, 0, 0, 0, []), (51, .aload_n 0, 1, false, 0, 0, 0, 0, 0, []), (52, .getfield 73, 3, false, 0, 0, 0, 0, 0, []), (55, .if_icmp .ge 12, 3, false, 35, 0, 0, 0, 0, []), (58, .aload_n 0, 1, false, 0, 0, 0, 0, 0, []), (59, .getfield 54, 3, false, 0, 26, 17, 0, 0, []), (62, .iload_n 1, 1, false, 0, 0, 0, 0, 0, []), (63, .iaload, 1, false, 0, 0, 0, 0, 0, []), (64, .goto 5, 3, false, 36, 0, 0, 0, 0, []), (67, .bipush (-9), 2, false, 0, 0, 0, 0, 0, []), (69, .ireturn, 1, false, 0, 0, 0, 0, 0, [])] i i lo st I L := rfl
set_option maxRecDepth 20000 in
theorem uX5_findRow (sh : mm_S) (call : mm_C) (Q : mm_Q) (n i : Nat) (lo st : List Value) (I : mm_I) (L : mm_L) : mm_v sh call tbX5_findRow Q (n + 1) i lo st I L = mm_vn sh call tbX5_findRow Q n [(0, .aload_n 0, 1, false, 0, 0, 0, 0, 0, []), (1, .iconst 0, 1, false, 0, 0, 0, 0, 0, []), (2, .putfield 210, 3, false, 0, 27, 0, 0, 0, []), (5, .iconst 0, 1, false, 0, 0, 0, 0, 0, []), (6, .istore_n 1, 1, false, 0, 0, 0, 0, 0, []), (7, .iload_n 1, 1, true, 0, 0, 0, 0, 0, []), (8, .aload_n 0, 1, false, 0, 0, 0, 0, 0, []), (9, .getfield 127, 3, false, 0, 6, 0, 0, 0, []), (12, .if_icmp .ge 45, 3, false, 32, 0, 0, 0, 0, []), (15, .aload_n 0, 1, false, 0, 0, 0, 0, 0, []), (16, .getfield 26, 3, false, 0, 7, 8, 0, 0, []), (19, .iload_n 1, 1, false, 0, 0, 0, 0, 0, []), (20, .iaload, 1, false, 0, 0, 0, 0, 0, []), (21, .bipush 8, 2, false, 0, 0, 0, 0, 0, []), (23, .if_icmp .ge 28, 3, false, 30, 0, 0, 0, 0, []), (26, .aload_n 0, 1, false, 0, 0, 0, 0, 0, []), (27, .getfield 57, 3, false, 0, 28, 18, 0, 0, []), (30, .aload_n 0, 1, false, 0, 0, 0, 0, 0, []), (31, .getfield 210, 3, false, 0, 27, 0, 0, 0, []), (34, .aload_n 0, 1, false, 0, 0, 0, 0, 0, []), (35, .getfield 26, 3, false, 0, 7, 8, 0, 0, []), (38, .iload_n 1, 1, false, 0, 0, 0, 0, 0, []), (39, .iaload, 1, false, 0, 0, 0, 0, 0, []), (40, .iastore, 1, false, 0, 0, 0, 0, 0, []), (41, .aload_n 0, 1, false, 0, 0, 0, 0, 0, []), (42, .dup, 1, false, 0, 0, 0, 0, 0, []), (43, .getfield 210, 3, false, 0, 27, 0, 0, 0, []), (46, .iconst 1, 1, false, 0, 0, 0, 0, 0, []), (47, .iadd, 1, false, 0, 0, 0, 0, 0, []), (48, .putfield 210, 3, false, 0, 27, 0, 0, 0, []), (51, .iinc 1 1, 3, false, 0, 0, 0, 0, 0, []), (54, .goto (-47), 3, false, 5, 0, 0, 0, 0, []), (57, .return_, 1, false, 0, 0, 0, 0, 0, [])] i i lo st I L := rfl
set_option maxRecDepth 20000 in
theorem hX5_findRow (sh : mm_S) (call : mm_C) (Q : mm_Q) (n i : Nat) (lo st : List Value) (I : mm_I) (L : mm_L) : mm_h sh call tbX5_findRow Q n i lo st I L = mm_hn sh call tbX5_findRow Q n [(0, .aload_n 0, 1, false, 0, 0, 0, 0, 0, []), (1, .iconst 0, 1, false, 0, 0, 0, 0, 0, []), (2, .putfield 210, 3, false, 0, 27, 0, 0, 0, []), (5, .iconst 0, 1, false, 0, 0, 0, 0, 0, []), (6, .istore_n 1, 1, false, 0, 0, 0, 0, 0, []), (7, .iload_n 1, 1, true, 0, 0, 0, 0, 0, []), (8, .aload_n 0, 1, false, 0, 0, 0, 0, 0, []), (9, .getfield 127, 3, false, 0, 6, 0, 0, 0, []), (12, .if_icmp .ge 45, 3, false, 32, 0, 0, 0, 0, []), (15, .aload_n 0, 1, false, 0, 0, 0, 0, 0, []), (16, .getfield 26, 3, false, 0, 7, 8, 0, 0, []), (19, .iload_n 1, 1, false, 0, 0, 0, 0, 0, []), (20, .iaload, 1, false, 0, 0, 0, 0, 0, []), (21, .bipush 8, 2, false, 0, 0, 0, 0, 0, []), (23, .if_icmp .ge 28, 3, false, 30, 0, 0, 0, 0, []), (26, .aload_n 0, 1, false, 0, 0, 0, 0, 0, []), (27, .getfield 57, 3, false, 0, 28, 18, 0, 0, []), (30, .aload_n 0, 1, false, 0, 0, 0, 0, 0, []), (31, .getfield 210, 3, false, 0, 27, 0, 0, 0, []), (34, .aload_n 0, 1, false, 0, 0, 0, 0, 0, []), (35, .getfield 26, 3, false, 0, 7, 8, 0, 0, []), (38, .iload_n 1, 1, false, 0, 0, 0, 0, 0, []), (39, .iaload, 1, false, 0, 0, 0, 0, 0, []), (40, .iastore, 1, false, 0, 0, 0, 0, 0, []), (41, .aload_n 0, 1, false, 0, 0, 0, 0, 0, []), (42, .dup, 1, false, 0, 0, 0, 0, 0, []), (43, .getfield 210, 3, false, 0, 27, 0, 0, 0, []), (46, .iconst 1, 1, false, 0, 0, 0, 0, 0, []), (47, .iadd, 1, false, 0, 0, 0, 0, 0, []), (48, .putfield 210, 3, false, 0, 27, 0, 0, 0, []), (51, .iinc 1 1, 3, false, 0, 0, 0, 0, 0, []), (54, .goto (-47), 3, false, 5, 0, 0, 0, 0, []), (57, .return_, 1, false, 0, 0, 0, 0, 0, [])] i i lo st I L := rfl
set_option maxRecDepth 20000 in
theorem uX5_puts (sh : mm_S) (call : mm_C) (Q : mm_Q) (n i : Nat) (lo st : List Value) (I : mm_I) (L : mm_L) : mm_v sh call tbX5_puts Q (n + 1) i lo st I L = mm_vn sh call tbX5_puts Q n [(0, .aload_n 0, 1, false, 0, 0, 0, 0, 0, []), (1, .getfield 63, 3, false, 0, 30, 20, 0, 0, []), (4, .aload_n 0, 1, false, 0, 0, 0, 0, 0, []), (5, .getfield 213, 3, false, 0, 31, 0, 0, 0, []), (8, .iload_n 1, 1, false, 0, 0, 0, 0, 0, []), (9, .iastore, 1, false, 0, 0, 0, 0, 0, []), (10, .aload_n 0, 1, false, 0, 0, 0, 0, 0, []), (11, .dup, 1, false, 0, 0, 0, 0, 0, []), (12, .getfield 213, 3, false, 0, 31, 0, 0, 0, []), (15, .iconst 1, 1, false, 0, 0, 0, 0, 0, []), (16, .iadd, 1, false, 0, 0, 0, 0, 0, []), (17, .putfield 213, 3, false, 0, 31, 0, 0, 0, []), (20, .return_, 1, false, 0, 0, 0, 0, 0, [])] i i lo st I L := rfl
set_option maxRecDepth 20000 in
theorem uX5_makes (sh : mm_S) (call : mm_C) (Q : mm_Q) (n i : Nat) (lo st : List Value) (I : mm_I) (L : mm_L) : mm_v sh call tbX5_makes Q (n + 1) i lo st I L = mm_vn sh call tbX5_makes Q n [(0, .aload_n 0, 1, false, 0, 0, 0, 0, 0, []), (1, .iconst 0, 1, false, 0, 0, 0, 0, 0, []), (2, .putfield 213, 3, false, 0, 31, 0, 0, 0, []), (5, .iconst 0, 1, false, 0, 0, 0, 0, 0, []), (6, .istore_n 1, 1, false, 0, 0, 0, 0, 0, []), (7, .iconst 0, 1, false, 0, 0, 0, 0, 0, []), (8, .istore_n 2, 1, false, 0, 0, 0, 0, 0, []), (9, .iload_n 2, 1, true, 0, 0, 0, 0, 0, []), (10, .aload_n 0, 1, false, 0, 0, 0, 0, 0, []), (11, .getfield 210, 3, false, 0, 27, 0, 0, 0, []), (14, .if_icmp .ge 82, 3, false, 60, 0, 0, 0, 0, []), (17, .iload_n 2, 1, false, 0, 0, 0, 0, 0, []), (18, .ifCond .ne 7, 3, false, 15, 0, 0, 0, 0, []), (21, .iconst 0, 1, false, 0, 0, 0, 0, 0, []), (22, .goto 11, 3, false, 21, 0, 0, 0, 0, []), (25, .aload_n 0, 1, false, 0, 0, 0, 0, 0, []), (26, .getfield 60, 3, false, 0, 29, 19, 0, 0, []), (29, .iload_n 2, 1, false, 0, 0, 0, 0, 0, []), (30, .iconst 1, 1, false, 0, 0, 0, 0, 0, []), (31, .isub, 1, false, 0, 0, 0, 0, 0, []), (32, .iaload, 1, false, 0, 0, 0, 0, 0, []), (33, .istore_n 3, 1, false, 0, 0, 0, 0, 0, []), (34, .iconst 0, 1, false, 0, 0, 0, 0, 0, []), (35, .istore 4, 2, false, 0, 0, 0, 0, 0, []), (37, .iload 4, 2, true, 0, 0, 0, 0, 0, []), (39, .iload_n 3, 1, false, 0, 0, 0, 0, 0, []), (40, .iconst 2, 1, false, 0, 0, 0, 0, 0, []), (41, .idiv, 1, false, 0, 0, 0, 0, 0, []), (42, .if_icmp .ge 15, 3, false, 34, 0, 0, 0, 0, []), (45, .aload_n 0, 1, false, 0, 0, 0, 0, 0, []), (46, .bipush 21, 2, false, 0, 0, 0, 0, 0, []), (48, .invokevirtual 216, 3, false, 45, 2, 0, 0, 0, []), (51, .iinc 4 1, 3, false, 0, 0, 0, 0, 0, []), (54, .goto (-17), 3, false, 24, 0, 0, 0, 0, []), (57, .iload_n 3, 1, false, 0, 0, 0, 0, 0, []), (58, .iconst 2, 1, false, 0, 0, 0, 0, 0, []), (59, .irem, 1, false, 0, 0, 0, 0, 0, []), (60, .iconst 1, 1, false, 0, 0, 0, 0, 0, []), (61, .if_icmp .ne 9, 3, false, 42, 0, 0, 0, 0, []), (64, .aload_n 0, 1, false, 0, 0, 0, 0, 0, []), (65, .bipush 20, 2, false, 0, 0, 0, 0, 0, []), (67, .invokevirtual 216, 3, false, 45, 2, 0, 0, 0, []), (70, .iload_n 1, 1, false, 0, 0, 0, 0, 0, []), (71, .iload_n 3, 1, false, 0, 0, 0, 0, 0, []), (72, .iconst 2, 1, false, 0, 0, 0, 0, 0, []), (73, .irem, 1, false, 0, 0, 0, 0, 0, []), (74, .iload_n 3, 1, false, 0, 0, 0, 0, 0, []), (75, .iconst 2, 1, false, 0, 0, 0, 0, 0, []), (76, .idiv, 1, false, 0, 0, 0, 0, 0, []), (77, .isub, 1, false, 0, 0, 0, 0, 0, []), (78, .iadd, 1, false, 0, 0, 0, 0, 0, []), (79, .istore_n 1, 1, false, 0, 0, 0, 0, 0, []), (80, .aload_n 0, 1, false, 0, 0, 0, 0, 0, []), (81, .aload_n 0, 1, false, 0, 0, 0, 0, 0, []), (82, .getfield 57, 3, false, 0, 28, 18, 0, 0, []), (85, .iload_n 2, 1, false, 0, 0, 0, 0, 0, []), (86, .iaload, 1, false, 0, 0, 0, 0, 0, []), (87, .invokevirtual 216, 3, false, 45, 2, 0, 0, 0, []), (90, .iinc 2 1, 3, false, 0, 0, 0, 0, 0, []), (93, .goto (-84), 3, false, 7, 0, 0, 0, 0, []), (96, .iconst 0, 1, false, 0, 0, 0, 0, 0, []), (97, .istore_n 2, 1, false, 0, 0, 0, 0, 0, []), (98, .iload_n 2, 1, true, 0, 0, 0, 0, 0, []), (99, .iload_n 1, 1, false, 0, 0, 0, 0, 0, []), (100, .if_icmp .ge 15, 3, false, 70, 0, 0, 0, 0, []), (103, .aload_n 0, 1, false, 0, 0, 0, 0, 0, []), (104, .bipush 21, 2, false, 0, 0, 0, 0, 0, []), (106, .invokevirtual 216, 3, false, 45, 2, 0, 0, 0, []), (109, .iinc 2 1, 3, false, 0, 0, 0, 0, 0, []), (112, .goto (-14), 3, false, 62, 0, 0, 0, 0, []), (115, .return_, 1, false, 0, 0, 0, 0, 0, [])] i i lo st I L := rfl
set_option maxRecDepth 20000 in
theorem hX5_makes (sh : mm_S) (call : mm_C) (Q : mm_Q) (n i : Nat) (lo st : List Value) (I : mm_I) (L : mm_L) : mm_h sh call tbX5_makes Q n i lo st I L = mm_hn sh call tbX5_makes Q n [(0, .aload_n 0, 1, false, 0, 0, 0, 0, 0, []), (1, .iconst 0, 1, false, 0, 0, 0, 0, 0, []), (2, .putfield 213, 3, false, 0, 31, 0, 0, 0, []), (5, .iconst 0, 1, false, 0, 0, 0, 0, 0, []), (6, .istore_n 1, 1, false, 0, 0, 0, 0, 0, []), (7, .iconst 0, 1, false, 0, 0, 0, 0, 0, []), (8, .istore_n 2, 1, false, 0, 0, 0, 0, 0, []), (9, .iload_n 2, 1, true, 0, 0, 0, 0, 0, []), (10, .aload_n 0, 1, false, 0, 0, 0, 0, 0, []), (11, .getfield 210, 3, false, 0, 27, 0, 0, 0, []), (14, .if_icmp .ge 82, 3, false, 60, 0, 0, 0, 0, []), (17, .iload_n 2, 1, false, 0, 0, 0, 0, 0, []), (18, .ifCond .ne 7, 3, false, 15, 0, 0, 0, 0, []), (21, .iconst 0, 1, false, 0, 0, 0, 0, 0, []), (22, .goto 11, 3, false, 21, 0, 0, 0, 0, []), (25, .aload_n 0, 1, false, 0, 0, 0, 0, 0, []), (26, .getfield 60, 3, false, 0, 29, 19, 0, 0, []), (29, .iload_n 2, 1, false, 0, 0, 0, 0, 0, []), (30, .iconst 1, 1, false, 0, 0, 0, 0, 0, []), (31, .isub, 1, false, 0, 0, 0, 0, 0, []), (32, .iaload, 1, false, 0, 0, 0, 0, 0, []), (33, .istore_n 3, 1, false, 0, 0, 0, 0, 0, []), (34, .iconst 0, 1, false, 0, 0, 0, 0, 0, []), (35, .istore 4, 2, false, 0, 0, 0, 0, 0, []), (37, .iload 4, 2, true, 0, 0, 0, 0, 0, []), (39, .iload_n 3, 1, false, 0, 0, 0, 0, 0, []), (40, .iconst 2, 1, false, 0, 0, 0, 0, 0, []), (41, .idiv, 1, false, 0, 0, 0, 0, 0, []), (42, .if_icmp .ge 15, 3, false, 34, 0, 0, 0, 0, []), (45, .aload_n 0, 1, false, 0, 0, 0, 0, 0, []), (46, .bipush 21, 2, false, 0, 0, 0, 0, 0, []), (48, .invokevirtual 216, 3, false, 45, 2, 0, 0, 0, []), (51, .iinc 4 1, 3, false, 0, 0, 0, 0, 0, []), (54, .goto (-17), 3, false, 24, 0, 0, 0, 0, []), (57, .iload_n 3, 1, false, 0, 0, 0, 0, 0, []), (58, .iconst 2, 1, false, 0, 0, 0, 0, 0, []), (59, .irem, 1, false, 0, 0, 0, 0, 0, []), (60, .iconst 1, 1, false, 0, 0, 0, 0, 0, []), (61, .if_icmp .ne 9, 3, false, 42, 0, 0, 0, 0, []), (64, .aload_n 0, 1, false, 0, 0, 0, 0, 0, []), (65, .bipush 20, 2, false, 0, 0, 0, 0, 0, []), (67, .invokevirtual 216, 3, false, 45, 2, 0, 0, 0, []), (70, .iload_n 1, 1, false, 0, 0, 0, 0, 0, []), (71, .iload_n 3, 1, false, 0, 0, 0, 0, 0, []), (72, .iconst 2, 1, false, 0, 0, 0, 0, 0, []), (73, .irem, 1, false, 0, 0, 0, 0, 0, []), (74, .iload_n 3, 1, false, 0, 0, 0, 0, 0, []), (75, .iconst 2, 1, false, 0, 0, 0, 0, 0, []), (76, .idiv, 1, false, 0, 0, 0, 0, 0, []), (77, .isub, 1, false, 0, 0, 0, 0, 0, []), (78, .iadd, 1, false, 0, 0, 0, 0, 0, []), (79, .istore_n 1, 1, false, 0, 0, 0, 0, 0, []), (80, .aload_n 0, 1, false, 0, 0, 0, 0, 0, []), (81, .aload_n 0, 1, false, 0, 0, 0, 0, 0, []), (82, .getfield 57, 3, false, 0, 28, 18, 0, 0, []), (85, .iload_n 2, 1, false, 0, 0, 0, 0, 0, []), (86, .iaload, 1, false, 0, 0, 0, 0, 0, []), (87, .invokevirtual 216, 3, false, 45, 2, 0, 0, 0, []), (90, .iinc 2 1, 3, false, 0, 0, 0, 0, 0, []), (93, .goto (-84), 3, false, 7, 0, 0, 0, 0, []), (96, .iconst 0, 1, false, 0, 0, 0, 0, 0, []), (97, .istore_n 2, 1, false, 0, 0, 0, 0, 0, []), (98, .iload_n 2, 1, true, 0, 0, 0, 0, 0, []), (99, .iload_n 1, 1, false, 0, 0, 0, 0, 0, []), (100, .if_icmp .ge 15, 3, false, 70, 0, 0, 0, 0, []), (103, .aload_n 0, 1, false, 0, 0, 0, 0, 0, []), (104, .bipush 21, 2, false, 0, 0, 0, 0, 0, []), (106, .invokevirtual 216, 3, false, 45, 2, 0, 0, 0, []), (109, .iinc 2 1, 3, false, 0, 0, 0, 0, 0, []), (112, .goto (-14), 3, false, 62, 0, 0, 0, 0, []), (115, .return_, 1, false, 0, 0, 0, 0, 0, [])] i i lo st I L := rfl
set_option maxRecDepth 20000 in
theorem uX5_depthAt (sh : mm_S) (call : mm_C) (Q : mm_Q) (n i : Nat) (lo st : List Value) (I : mm_I) (L : mm_L) : mm_v sh call tbX5_depthAt Q (n + 1) i lo st I L = mm_vn sh call tbX5_depthAt Q n [(0, .iconst 0, 1, false, 0, 0, 0, 0, 0, []), (1, .istore_n 2, 1, false, 0, 0, 0, 0, 0, []), (2, .iconst 0, 1, false, 0, 0, 0, 0, 0, []), (3, .istore_n 3, 1, false, 0, 0, 0, 0, 0, []), (4, .iload_n 3, 1, true, 0, 0, 0, 0, 0, []), (5, .iload_n 1, 1, false, 0, 0, 0, 0, 0, []), (6, .if_icmp .ge 29, 3, false, 25, 0, 0, 0, 0, []), (9, .iload_n 2, 1, false, 0, 0, 0, 0, 0, []), (10, .aload_n 0, 1, false, 0, 0, 0, 0, 0, []), (11, .getfield 60, 3, false, 0, 29, 19, 0, 0, []), (14, .iload_n 3, 1, false, 0, 0, 0, 0, 0, []), (15, .iaload, 1, false, 0, 0, 0, 0, 0, []), (16, .iconst 2, 1, false, 0, 0, 0, 0, 0, []), (17, .irem, 1, false, 0, 0, 0, 0, 0, []), (18, .aload_n 0, 1, false, 0, 0, 0, 0, 0, []), (19, .getfield 60, 3, false, 0, 29, 19, 0, 0, []), (22, .iload_n 3, 1, false, 0, 0, 0, 0, 0, []), (23, .iaload, 1, false, 0, 0, 0, 0, 0, []), (24, .iconst 2, 1, false, 0, 0, 0, 0, 0, []), (25, .idiv, 1, false, 0, 0, 0, 0, 0, []), (26, .isub, 1, false, 0, 0, 0, 0, 0, []), (27, .iadd, 1, false, 0, 0, 0, 0, 0, []), (28, .istore_n 2, 1, false, 0, 0, 0, 0, 0, []), (29, .iinc 3 1, 3, false, 0, 0, 0, 0, 0, []), (32, .goto (-28), 3, false, 4, 0, 0, 0, 0, []), (35, .iload_n 2, 1, false, 0, 0, 0, 0, 0, []), (36, .ireturn, 1, false, 0, 0, 0, 0, 0, [])] i i lo st I L := rfl
set_option maxRecDepth 20000 in
theorem hX5_depthAt (sh : mm_S) (call : mm_C) (Q : mm_Q) (n i : Nat) (lo st : List Value) (I : mm_I) (L : mm_L) : mm_h sh call tbX5_depthAt Q n i lo st I L = mm_hn sh call tbX5_depthAt Q n [(0, .iconst 0, 1, false, 0, 0, 0, 0, 0, []), (1, .istore_n 2, 1, false, 0, 0, 0, 0, 0, []), (2, .iconst 0, 1, false, 0, 0, 0, 0, 0, []), (3, .istore_n 3, 1, false, 0, 0, 0, 0, 0, []), (4, .iload_n 3, 1, true, 0, 0, 0, 0, 0, []), (5, .iload_n 1, 1, false, 0, 0, 0, 0, 0, []), (6, .if_icmp .ge 29, 3, false, 25, 0, 0, 0, 0, []), (9, .iload_n 2, 1, false, 0, 0, 0, 0, 0, []), (10, .aload_n 0, 1, false, 0, 0, 0, 0, 0, []), (11, .getfield 60, 3, false, 0, 29, 19, 0, 0, []), (14, .iload_n 3, 1, false, 0, 0, 0, 0, 0, []), (15, .iaload, 1, false, 0, 0, 0, 0, 0, []), (16, .iconst 2, 1, false, 0, 0, 0, 0, 0, []), (17, .irem, 1, false, 0, 0, 0, 0, 0, []), (18, .aload_n 0, 1, false, 0, 0, 0, 0, 0, []), (19, .getfield 60, 3, false, 0, 29, 19, 0, 0, []), (22, .iload_n 3, 1, false, 0, 0, 0, 0, 0, []), (23, .iaload, 1, false, 0, 0, 0, 0, 0, []), (24, .iconst 2, 1, false, 0, 0, 0, 0, 0, []), (25, .idiv, 1, false, 0, 0, 0, 0, 0, []), (26, .isub, 1, false, 0, 0, 0, 0, 0, []), (27, .iadd, 1, false, 0, 0, 0, 0, 0, []), (28, .istore_n 2, 1, false, 0, 0, 0, 0, 0, []), (29, .iinc 3 1, 3, false, 0, 0, 0, 0, 0, []), (32, .goto (-28), 3, false, 4, 0, 0, 0, 0, []), (35, .iload_n 2, 1, false, 0, 0, 0, 0, 0, []), (36, .ireturn, 1, false, 0, 0, 0, 0, 0, [])] i i lo st I L := rfl
set_option maxRecDepth 20000 in
theorem uX5_goesNext (sh : mm_S) (call : mm_C) (Q : mm_Q) (n i : Nat) (lo st : List Value) (I : mm_I) (L : mm_L) : mm_v sh call tbX5_goesNext Q (n + 1) i lo st I L = mm_vn sh call tbX5_goesNext Q n [(0, .aload_n 0, 1, false, 0, 0, 0, 0, 0, []), (1, .getfield 210, 3, false, 0, 27, 0, 0, 0, []), (4, .iconst 2, 1, false, 0, 0, 0, 0, 0, []), (5, .isub, 1, false, 0, 0, 0, 0, 0, []), (6, .istore_n 1, 1, false, 0, 0, 0, 0, 0, []), (7, .iload_n 1, 1, true, 0, 0, 0, 0, 0, []), (8, .ifCond .lt 34, 3, false, 26, 0, 0, 0, 0, []), (11, .aload_n 0, 1, false, 0, 0, 0, 0, 0, []), (12, .getfield 60, 3, false, 0, 29, 19, 0, 0, []), (15, .iload_n 1, 1, false, 0, 0, 0, 0, 0, []), (16, .iaload, 1, false, 0, 0, 0, 0, 0, []), (17, .iconst 2, 1, false, 0, 0, 0, 0, 0, []), (18, .aload_n 0, 1, false, 0, 0, 0, 0, 0, []), (19, .iload_n 1, 1, false, 0, 0, 0, 0, 0, []), (20, .invokevirtual 219, 3, false, 47, 2, 1, 0, 0, []), (23, .imul, 1, false, 0, 0, 0, 0, 0, []), (24, .iconst 1, 1, false, 0, 0, 0, 0, 0, []), (25, .iadd, 1, false, 0, 0, 0, 0, 0, []), (26, .if_icmp .ne 16, 3, false, 26, 0, 0, 0, 0, []), (29, .aload_n 0, 1, false, 0, 0, 0, 0, 0, []), (30, .getfield 60, 3, false, 0, 29, 19, 0, 0, []), (33, .iload_n 1, 1, false, 0, 0, 0, 0, 0, []), (34, .iconst 0, 1, false, 0, 0, 0, 0, 0, []), (35, .iastore, 1, false, 0, 0, 0, 0, 0, []), (36, .iinc 1 (-1), 3, false, 0, 0, 0, 0, 0, []), (39, .goto (-32), 3, false, 5, 0, 0, 0, 0, []), (42, .iload_n 1, 1, false, 0, 0, 0, 0, 0, []), (43, .ifCond .ge 5, 3, false, 30, 0, 0, 0, 0, []), (46, .iconst 0, 1, false, 0, 0, 0, 0, 0, []), (47, .ireturn, 1, false, 0, 0, 1, 0, 0, []), (48, .aload_n 0, 1, false, 0, 0, 0, 0, 0, []), (49, .getfield 60, 3, false, 0, 29, 19, 0, 0, []), (52, .iload_n 1, 1, false, 0, 0, 0, 0, 0, []), (53, .dup2, 1, false, 0, 0, 0, 0, 0, []), (54, .iaload, 1, false, 0, 0, 0, 0, 0, []), (55, .iconst 1, 1, false, 0, 0, 0, 0, 0, []), (56, .iadd, 1, false, 0, 0, 0, 0, 0, []), (57, .iastore, 1, false, 0, 0, 0, 0, 0, []), (58, .iconst 1, 1, false, 0, 0, 0, 0, 0, []), (59, .ireturn, 1, false, 0, 0, 1, 0, 0, [])] i i lo st I L := rfl
set_option maxRecDepth 20000 in
theorem hX5_goesNext (sh : mm_S) (call : mm_C) (Q : mm_Q) (n i : Nat) (lo st : List Value) (I : mm_I) (L : mm_L) : mm_h sh call tbX5_goesNext Q n i lo st I L = mm_hn sh call tbX5_goesNext Q n [(0, .aload_n 0, 1, false, 0, 0, 0, 0, 0, []), (1, .getfield 210, 3, false, 0, 27, 0, 0, 0, []), (4, .iconst 2, 1, false, 0, 0, 0, 0, 0, []), (5, .isub, 1, false, 0, 0, 0, 0, 0, []), (6, .istore_n 1, 1, false, 0, 0, 0, 0, 0, []), (7, .iload_n 1, 1, true, 0, 0, 0, 0, 0, []), (8, .ifCond .lt 34, 3, false, 26, 0, 0, 0, 0, []), (11, .aload_n 0, 1, false, 0, 0, 0, 0, 0, []), (12, .getfield 60, 3, false, 0, 29, 19, 0, 0, []), (15, .iload_n 1, 1, false, 0, 0, 0, 0, 0, []), (16, .iaload, 1, false, 0, 0, 0, 0, 0, []), (17, .iconst 2, 1, false, 0, 0, 0, 0, 0, []), (18, .aload_n 0, 1, false, 0, 0, 0, 0, 0, []), (19, .iload_n 1, 1, false, 0, 0, 0, 0, 0, []), (20, .invokevirtual 219, 3, false, 47, 2, 1, 0, 0, []), (23, .imul, 1, false, 0, 0, 0, 0, 0, []), (24, .iconst 1, 1, false, 0, 0, 0, 0, 0, []), (25, .iadd, 1, false, 0, 0, 0, 0, 0, []), (26, .if_icmp .ne 16, 3, false, 26, 0, 0, 0, 0, []), (29, .aload_n 0, 1, false, 0, 0, 0, 0, 0, []), (30, .getfield 60, 3, false, 0, 29, 19, 0, 0, []), (33, .iload_n 1, 1, false, 0, 0, 0, 0, 0, []), (34, .iconst 0, 1, false, 0, 0, 0, 0, 0, []), (35, .iastore, 1, false, 0, 0, 0, 0, 0, []), (36, .iinc 1 (-1), 3, false, 0, 0, 0, 0, 0, []), (39, .goto (-32), 3, false, 5, 0, 0, 0, 0, []), (42, .iload_n 1, 1, false, 0, 0, 0, 0, 0, []), (43, .ifCond .ge 5, 3, false, 30, 0, 0, 0, 0, []), (46, .iconst 0, 1, false, 0, 0, 0, 0, 0, []), (47, .ireturn, 1, false, 0, 0, 1, 0, 0, []), (48, .aload_n 0, 1, false, 0, 0, 0, 0, 0, []), (49, .getfield 60, 3, false, 0, 29, 19, 0, 0, []), (52, .iload_n 1, 1, false, 0, 0, 0, 0, 0, []), (53, .dup2, 1, false, 0, 0, 0, 0, 0, []), (54, .iaload, 1, false, 0, 0, 0, 0, 0, []), (55, .iconst 1, 1, false, 0, 0, 0, 0, 0, []), (56, .iadd, 1, false, 0, 0, 0, 0, 0, []), (57, .iastore, 1, false, 0, 0, 0, 0, 0, []), (58, .iconst 1, 1, false, 0, 0, 0, 0, 0, []), (59, .ireturn, 1, false, 0, 0, 1, 0, 0, [])] i i lo st I L := rfl
set_option maxRecDepth 20000 in
theorem uX5_keeps (sh : mm_S) (call : mm_C) (Q : mm_Q) (n i : Nat) (lo st : List Value) (I : mm_I) (L : mm_L) : mm_v sh call tbX5_keeps Q (n + 1) i lo st I L = mm_vn sh call tbX5_keeps Q n [(0, .aload_n 0, 1, false, 0, 0, 0, 0, 0, []), (1, .aload_n 0, 1, false, 0, 0, 0, 0, 0, []), (2, .getfield 213, 3, false, 0, 31, 0, 0, 0, []), (5, .putfield 222, 3, false, 0, 33, 0, 0, 0, []), (8, .iconst 0, 1, false, 0, 0, 0, 0, 0, []), (9, .istore_n 1, 1, false, 0, 0, 0, 0, 0, []), (10, .iload_n 1, 1, true, 0, 0, 0, 0, 0, []), (11, .aload_n 0, 1, false, 0, 0, 0, 0, 0, []), (12, .getfield 213, 3, false, 0, 31, 0, 0, 0, []), (15, .if_icmp .ge 21, 3, false, 20, 0, 0, 0, 0, []), (18, .aload_n 0, 1, false, 0, 0, 0, 0, 0, []), (19, .getfield 66, 3, false, 0, 32, 21, 0, 0, []), (22, .iload_n 1, 1, false, 0, 0, 0, 0, 0, []), (23, .aload_n 0, 1, false, 0, 0, 0, 0, 0, []), (24, .getfield 63, 3, false, 0, 30, 20, 0, 0, []), (27, .iload_n 1, 1, false, 0, 0, 0, 0, 0, []), (28, .iaload, 1, false, 0, 0, 0, 0, 0, []), (29, .iastore, 1, false, 0, 0, 0, 0, 0, []), (30, .iinc 1 1, 3, false, 0, 0, 0, 0, 0, []), (33, .goto (-23), 3, false, 6, 0, 0, 0, 0, []), (36, .return_, 1, false, 0, 0, 0, 0, 0, [])] i i lo st I L := rfl
set_option maxRecDepth 20000 in
theorem hX5_keeps (sh : mm_S) (call : mm_C) (Q : mm_Q) (n i : Nat) (lo st : List Value) (I : mm_I) (L : mm_L) : mm_h sh call tbX5_keeps Q n i lo st I L = mm_hn sh call tbX5_keeps Q n [(0, .aload_n 0, 1, false, 0, 0, 0, 0, 0, []), (1, .aload_n 0, 1, false, 0, 0, 0, 0, 0, []), (2, .getfield 213, 3, false, 0, 31, 0, 0, 0, []), (5, .putfield 222, 3, false, 0, 33, 0, 0, 0, []), (8, .iconst 0, 1, false, 0, 0, 0, 0, 0, []), (9, .istore_n 1, 1, false, 0, 0, 0, 0, 0, []), (10, .iload_n 1, 1, true, 0, 0, 0, 0, 0, []), (11, .aload_n 0, 1, false, 0, 0, 0, 0, 0, []), (12, .getfield 213, 3, false, 0, 31, 0, 0, 0, []), (15, .if_icmp .ge 21, 3, false, 20, 0, 0, 0, 0, []), (18, .aload_n 0, 1, false, 0, 0, 0, 0, 0, []), (19, .getfield 66, 3, false, 0, 32, 21, 0, 0, []), (22, .iload_n 1, 1, false, 0, 0, 0, 0, 0, []), (23, .aload_n 0, 1, false, 0, 0, 0, 0, 0, []), (24, .getfield 63, 3, false, 0, 30, 20, 0, 0, []), (27, .iload_n 1, 1, false, 0, 0, 0, 0, 0, []), (28, .iaload, 1, false, 0, 0, 0, 0, 0, []), (29, .iastore, 1, false, 0, 0, 0, 0, 0, []), (30, .iinc 1 1, 3, false, 0, 0, 0, 0, 0, []), (33, .goto (-23), 3, false, 6, 0, 0, 0, 0, []), (36, .return_, 1, false, 0, 0, 0, 0, 0, [])] i i lo st I L := rfl
set_option maxRecDepth 20000 in
theorem uX5_findFramed (sh : mm_S) (call : mm_C) (Q : mm_Q) (n i : Nat) (lo st : List Value) (I : mm_I) (L : mm_L) : mm_v sh call tbX5_findFramed Q (n + 1) i lo st I L = mm_vn sh call tbX5_findFramed Q n [(0, .iconst 0, 1, false, 0, 0, 0, 0, 0, []), (1, .istore_n 1, 1, false, 0, 0, 0, 0, 0, []), (2, .iload_n 1, 1, true, 0, 0, 0, 0, 0, []), (3, .bipush 8, 2, false, 0, 0, 0, 0, 0, []), (5, .if_icmp .ge 16, 3, false, 12, 0, 0, 0, 0, []), (8, .aload_n 0, 1, false, 0, 0, 0, 0, 0, []), (9, .getfield 60, 3, false, 0, 29, 19, 0, 0, []), (12, .iload_n 1, 1, false, 0, 0, 0, 0, 0, []), (13, .iconst 0, 1, false, 0, 0, 0, 0, 0, []), (14, .iastore, 1, false, 0, 0, 0, 0, 0, []), (15, .iinc 1 1, 3, false, 0, 0, 0, 0, 0, []), (18, .goto (-16), 3, false, 2, 0, 0, 0, 0, []), (21, .ldc2_w 195, 3, false, 0, 0, 0, 0, 1000000000000, []), (24, .lstore_n 1, 1, false, 0, 0, 0, 0, 0, []), (25, .iconst 0, 1, false, 0, 0, 0, 0, 0, []), (26, .istore_n 3, 1, false, 0, 0, 0, 0, 0, []), (27, .iconst 1, 1, false, 0, 0, 0, 0, 0, []), (28, .istore 4, 2, false, 0, 0, 0, 0, 0, []), (30, .iload 4, 2, true, 0, 0, 0, 0, 0, []), (32, .ifCond .eq 89, 3, false, 64, 0, 0, 0, 0, []), (35, .aload_n 0, 1, false, 0, 0, 0, 0, 0, []), (36, .invokevirtual 225, 3, false, 46, 1, 0, 0, 0, []), (39, .aload_n 0, 1, false, 0, 0, 0, 0, 0, []), (40, .aload_n 0, 1, false, 0, 0, 0, 0, 0, []), (41, .getfield 63, 3, false, 0, 30, 20, 0, 0, []), (44, .aload_n 0, 1, false, 0, 0, 0, 0, 0, []), (45, .getfield 213, 3, false, 0, 31, 0, 0, 0, []), (48, .invokevirtual 184, 3, false, 33, 3, 0, 0, 0, []), (51, .aload_n 0, 1, false, 0, 0, 0, 0, 0, []), (52, .getfield 169, 3, false, 0, 13, 0, 0, 0, []), (55, .bipush (-9), 2, false, 0, 0, 0, 0, 0, []), (57, .if_icmp .ne 7, 3, false, 34, 0, 0, 0, 0, []), (60, .iconst 1, 1, false, 0, 0, 0, 0, 0, []), (61, .goto 4, 3, false, 35, 0, 0, 0, 0, []), (64, .iconst 0, 1, false, 0, 0, 0, 0, 0, []), (65, .istore 5, 2, false, 0, 0, 0, 0, 0, []), (67, .iload 5, 2, false, 0, 0, 0, 0, 0, []), (69, .ifCond .eq 43, 3, false, 60, 0, 0, 0, 0, []), (72, .aload_n 0, 1, false, 0, 0, 0, 0, 0, []), (73, .getfield 149, 3, false, 0, 20, 1, 0, 0, []), (76, .lload_n 1, 1, false, 0, 0, 0, 0, 0, []), (77, .lcmp, 1, false, 0, 0, 0, 0, 0, []), (78, .ifCond .lt 20, 3, false, 52, 0, 0, 0, 0, []), (81, .aload_n 0, 1, false, 0, 0, 0, 0, 0, []), (82, .getfield 149, 3, false, 0, 20, 1, 0, 0, []), (85, .lload_n 1, 1, false, 0, 0, 0, 0, 0, []), (86, .lcmp, 1, false, 0, 0, 0, 0, 0, []), (87, .ifCond .ne 25, 3, false, 60, 0, 0, 0, 0, []), (90, .aload_n 0, 1, false, 0, 0, 0, 0, 0, []), (91, .getfield 156, 3, false, 0, 15, 0, 0, 0, []), (94, .iload_n 3, 1, false, 0, 0, 0, 0, 0, []), (95, .if_icmp .ge 17, 3, false, 60, 0, 0, 0, 0, []), (98, .aload_n 0, 1, false, 0, 0, 0, 0, 0, []), (99, .getfield 149, 3, false, 0, 20, 1, 0, 0, []), (102, .lstore_n 1, 1, false, 0, 0, 0, 0, 0, []), (103, .aload_n 0, 1, false, 0, 0, 0, 0, 0, []), (104, .getfield 156, 3, false, 0, 15, 0, 0, 0, []), (107, .istore_n 3, 1, false, 0, 0, 0, 0, 0, []), (108, .aload_n 0, 1, false, 0, 0, 0, 0, 0, []), (109, .invokevirtual 228, 3, false, 49, 1, 0, 0, 0, []), (112, .aload_n 0, 1, false, 0, 0, 0, 0, 0, []), (113, .invokevirtual 231, 3, false, 48, 1, 1, 0, 0, []), (116, .istore 4, 2, false, 0, 0, 0, 0, 0, []), (118, .goto (-88), 3, false, 18, 0, 0, 0, 0, []), (121, .lload_n 1, 1, false, 0, 0, 0, 0, 0, []), (122, .lreturn, 1, false, 0, 0, 0, 0, 0, [])] i i lo st I L := rfl
set_option maxRecDepth 20000 in
theorem hX5_findFramed (sh : mm_S) (call : mm_C) (Q : mm_Q) (n i : Nat) (lo st : List Value) (I : mm_I) (L : mm_L) : mm_h sh call tbX5_findFramed Q n i lo st I L = mm_hn sh call tbX5_findFramed Q n [(0, .iconst 0, 1, false, 0, 0, 0, 0, 0, []), (1, .istore_n 1, 1, false, 0, 0, 0, 0, 0, []), (2, .iload_n 1, 1, true, 0, 0, 0, 0, 0, []), (3, .bipush 8, 2, false, 0, 0, 0, 0, 0, []), (5, .if_icmp .ge 16, 3, false, 12, 0, 0, 0, 0, []), (8, .aload_n 0, 1, false, 0, 0, 0, 0, 0, []), (9, .getfield 60, 3, false, 0, 29, 19, 0, 0, []), (12, .iload_n 1, 1, false, 0, 0, 0, 0, 0, []), (13, .iconst 0, 1, false, 0, 0, 0, 0, 0, []), (14, .iastore, 1, false, 0, 0, 0, 0, 0, []), (15, .iinc 1 1, 3, false, 0, 0, 0, 0, 0, []), (18, .goto (-16), 3, false, 2, 0, 0, 0, 0, []), (21, .ldc2_w 195, 3, false, 0, 0, 0, 0, 1000000000000, []), (24, .lstore_n 1, 1, false, 0, 0, 0, 0, 0, []), (25, .iconst 0, 1, false, 0, 0, 0, 0, 0, []), (26, .istore_n 3, 1, false, 0, 0, 0, 0, 0, []), (27, .iconst 1, 1, false, 0, 0, 0, 0, 0, []), (28, .istore 4, 2, false, 0, 0, 0, 0, 0, []), (30, .iload 4, 2, true, 0, 0, 0, 0, 0, []), (32, .ifCond .eq 89, 3, false, 64, 0, 0, 0, 0, []), (35, .aload_n 0, 1, false, 0, 0, 0, 0, 0, []), (36, .invokevirtual 225, 3, false, 46, 1, 0, 0, 0, []), (39, .aload_n 0, 1, false, 0, 0, 0, 0, 0, []), (40, .aload_n 0, 1, false, 0, 0, 0, 0, 0, []), (41, .getfield 63, 3, false, 0, 30, 20, 0, 0, []), (44, .aload_n 0, 1, false, 0, 0, 0, 0, 0, []), (45, .getfield 213, 3, false, 0, 31, 0, 0, 0, []), (48, .invokevirtual 184, 3, false, 33, 3, 0, 0, 0, []), (51, .aload_n 0, 1, false, 0, 0, 0, 0, 0, []), (52, .getfield 169, 3, false, 0, 13, 0, 0, 0, []), (55, .bipush (-9), 2, false, 0, 0, 0, 0, 0, []), (57, .if_icmp .ne 7, 3, false, 34, 0, 0, 0, 0, []), (60, .iconst 1, 1, false, 0, 0, 0, 0, 0, []), (61, .goto 4, 3, false, 35, 0, 0, 0, 0, []), (64, .iconst 0, 1, false, 0, 0, 0, 0, 0, []), (65, .istore 5, 2, false, 0, 0, 0, 0, 0, []), (67, .iload 5, 2, false, 0, 0, 0, 0, 0, []), (69, .ifCond .eq 43, 3, false, 60, 0, 0, 0, 0, []), (72, .aload_n 0, 1, false, 0, 0, 0, 0, 0, []), (73, .getfield 149, 3, false, 0, 20, 1, 0, 0, []), (76, .lload_n 1, 1, false, 0, 0, 0, 0, 0, []), (77, .lcmp, 1, false, 0, 0, 0, 0, 0, []), (78, .ifCond .lt 20, 3, false, 52, 0, 0, 0, 0, []), (81, .aload_n 0, 1, false, 0, 0, 0, 0, 0, []), (82, .getfield 149, 3, false, 0, 20, 1, 0, 0, []), (85, .lload_n 1, 1, false, 0, 0, 0, 0, 0, []), (86, .lcmp, 1, false, 0, 0, 0, 0, 0, []), (87, .ifCond .ne 25, 3, false, 60, 0, 0, 0, 0, []), (90, .aload_n 0, 1, false, 0, 0, 0, 0, 0, []), (91, .getfield 156, 3, false, 0, 15, 0, 0, 0, []), (94, .iload_n 3, 1, false, 0, 0, 0, 0, 0, []), (95, .if_icmp .ge 17, 3, false, 60, 0, 0, 0, 0, []), (98, .aload_n 0, 1, false, 0, 0, 0, 0, 0, []), (99, .getfield 149, 3, false, 0, 20, 1, 0, 0, []), (102, .lstore_n 1, 1, false, 0, 0, 0, 0, 0, []), (103, .aload_n 0, 1, false, 0, 0, 0, 0, 0, []), (104, .getfield 156, 3, false, 0, 15, 0, 0, 0, []), (107, .istore_n 3, 1, false, 0, 0, 0, 0, 0, []), (108, .aload_n 0, 1, false, 0, 0, 0, 0, 0, []), (109, .invokevirtual 228, 3, false, 49, 1, 0, 0, 0, []), (112, .aload_n 0, 1, false, 0, 0, 0, 0, 0, []), (113, .invokevirtual 231, 3, false, 48, 1, 1, 0, 0, []), (116, .istore 4, 2, false, 0, 0, 0, 0, 0, []), (118, .goto (-88), 3, false, 18, 0, 0, 0, 0, []), (121, .lload_n 1, 1, false, 0, 0, 0, 0, 0, []), (122, .lreturn, 1, false, 0, 0, 0, 0, 0, [])] i i lo st I L := rfl
set_option maxRecDepth 20000 in
theorem uX5_framed (sh : mm_S) (call : mm_C) (Q : mm_Q) (n i : Nat) (lo st : List Value) (I : mm_I) (L : mm_L) : mm_v sh call tbX5_framed Q (n + 1) i lo st I L = mm_vn sh call tbX5_framed Q n [(0, .iload_n 1, 1, false, 0, 0, 0, 0, 0, []), (1, .bipush (-2), 2, false, 0, 0, 0, 0, 0, []), (3, .bipush 39, 2, false, 0, 0, 0, 0, 0, []), (5, .invokestatic 76, 3, false, 0, 3, 1, 0, 0, []), (8, .ifCond .ne 6, 3, false, 7, 0, 0, 0, 0, []), (11, .bipush (-2), 2, false, 0, 0, 0, 0, 0, []), (13, .ireturn, 1, false, 0, 0, 0, 0, 0, []), (14, .aload_n 0, 1, false, 0, 0, 0, 0, 0, []), (15, .invokevirtual 235, 3, false, 44, 1, 0, 0, 0, []), (18, .aload_n 0, 1, false, 0, 0, 0, 0, 0, []), (19, .aload_n 0, 1, false, 0, 0, 0, 0, 0, []), (20, .getfield 57, 3, false, 0, 28, 18, 0, 0, []), (23, .aload_n 0, 1, false, 0, 0, 0, 0, 0, []), (24, .getfield 210, 3, false, 0, 27, 0, 0, 0, []), (27, .invokevirtual 184, 3, false, 33, 3, 0, 0, 0, []), (30, .aload_n 0, 1, false, 0, 0, 0, 0, 0, []), (31, .getfield 210, 3, false, 0, 27, 0, 0, 0, []), (34, .ifCond .eq 12, 3, false, 22, 0, 0, 0, 0, []), (37, .aload_n 0, 1, false, 0, 0, 0, 0, 0, []), (38, .getfield 169, 3, false, 0, 13, 0, 0, 0, []), (41, .bipush (-9), 2, false, 0, 0, 0, 0, 0, []), (43, .if_icmp .eq 6, 3, false, 24, 0, 0, 0, 0, []), (46, .bipush (-3), 2, false, 0, 0, 0, 0, 0, []), (48, .ireturn, 1, false, 0, 0, 0, 0, 0, []), (49, .aload_n 0, 1, false, 0, 0, 0, 0, 0, []), (50, .invokevirtual 238, 3, false, 50, 1, 2, 0, 0, []), (53, .lstore_n 2, 1, false, 0, 0, 0, 0, 0, []), (54, .iload_n 1, 1, false, 0, 0, 0, 0, 0, []), (55, .ifCond .ge 20, 3, false, 38, 0, 0, 0, 0, []), (58, .iload_n 1, 1, false, 0, 0, 0, 0, 0, []), (59, .iconst (-1), 1, false, 0, 0, 0, 0, 0, []), (60, .if_icmp .ne 10, 3, false, 35, 0, 0, 0, 0, []), (63, .lload_n 2, 1, false, 0, 0, 0, 0, 0, []), (64, .invokestatic 191, 3, false, 36, 1, 1, 0, 0, []), (67, .goto 7, 3, false, 37, 0, 0, 0, 0, []), (70, .aload_n 0, 1, false, 0, 0, 0, 0, 0, []), (71, .getfield 222, 3, false, 0, 33, 0, 0, 0, []), (74, .ireturn, 1, false, 0, 0, 0, 0, 0, []), (75, .iload_n 1, 1, false, 0, 0, 0, 0, 0, []), (76, .aload_n 0, 1, false, 0, 0, 0, 0, 0, []), (77, .getfield 222, 3, false, 0, 33, 0, 0, 0, []), (80, .if_icmp .ge 12, 3, false, 47, 0, 0, 0, 0, []), (83, .aload_n 0, 1, false, 0, 0, 0, 0, 0, []), (84, .getfield 66, 3, false, 0, 32, 21, 0, 0, []), (87, .iload_n 1, 1, false, 0, 0, 0, 0, 0, []), (88, .iaload, 1, false, 0, 0, 0, 0, 0, []), (89, .goto 5, 3, false, 48, 0, 0, 0, 0, []), (92, .bipush (-9), 2, false, 0, 0, 0, 0, 0, []), (94, .ireturn, 1, false, 0, 0, 0, 0, 0, [])] i i lo st I L := rfl
set_option maxRecDepth 20000 in
theorem uX5_changes (sh : mm_S) (call : mm_C) (Q : mm_Q) (n i : Nat) (lo st : List Value) (I : mm_I) (L : mm_L) : mm_v sh call tbX5_changes Q (n + 1) i lo st I L = mm_vn sh call tbX5_changes Q n [(0, .aload_n 0, 1, false, 0, 0, 0, 0, 0, []), (1, .getfield 57, 3, false, 0, 28, 18, 0, 0, []), (4, .iload_n 1, 1, false, 0, 0, 0, 0, 0, []), (5, .iaload, 1, false, 0, 0, 0, 0, 0, []), (6, .istore_n 2, 1, false, 0, 0, 0, 0, 0, []), (7, .aload_n 0, 1, false, 0, 0, 0, 0, 0, []), (8, .getfield 57, 3, false, 0, 28, 18, 0, 0, []), (11, .iload_n 1, 1, false, 0, 0, 0, 0, 0, []), (12, .aload_n 0, 1, false, 0, 0, 0, 0, 0, []), (13, .getfield 57, 3, false, 0, 28, 18, 0, 0, []), (16, .iload_n 1, 1, false, 0, 0, 0, 0, 0, []), (17, .iconst 1, 1, false, 0, 0, 0, 0, 0, []), (18, .iadd, 1, false, 0, 0, 0, 0, 0, []), (19, .iaload, 1, false, 0, 0, 0, 0, 0, []), (20, .iastore, 1, false, 0, 0, 0, 0, 0, []), (21, .aload_n 0, 1, false, 0, 0, 0, 0, 0, []), (22, .getfield 57, 3, false, 0, 28, 18, 0, 0, []), (25, .iload_n 1, 1, false, 0, 0, 0, 0, 0, []), (26, .iconst 1, 1, false, 0, 0, 0, 0, 0, []), (27, .iadd, 1, false, 0, 0, 0, 0, 0, []), (28, .iload_n 2, 1, false, 0, 0, 0, 0, 0, []), (29, .iastore, 1, false, 0, 0, 0, 0, 0, []), (30, .return_, 1, false, 0, 0, 0, 0, 0, [])] i i lo st I L := rfl
set_option maxRecDepth 20000 in
theorem uX5_untangled (sh : mm_S) (call : mm_C) (Q : mm_Q) (n i : Nat) (lo st : List Value) (I : mm_I) (L : mm_L) : mm_v sh call tbX5_untangled Q (n + 1) i lo st I L = mm_vn sh call tbX5_untangled Q n [(0, .aload_n 0, 1, false, 0, 0, 0, 0, 0, []), (1, .invokevirtual 235, 3, false, 44, 1, 0, 0, 0, []), (4, .aload_n 0, 1, false, 0, 0, 0, 0, 0, []), (5, .aload_n 0, 1, false, 0, 0, 0, 0, 0, []), (6, .getfield 57, 3, false, 0, 28, 18, 0, 0, []), (9, .aload_n 0, 1, false, 0, 0, 0, 0, 0, []), (10, .getfield 210, 3, false, 0, 27, 0, 0, 0, []), (13, .invokevirtual 184, 3, false, 33, 3, 0, 0, 0, []), (16, .aload_n 0, 1, false, 0, 0, 0, 0, 0, []), (17, .getfield 169, 3, false, 0, 13, 0, 0, 0, []), (20, .bipush (-9), 2, false, 0, 0, 0, 0, 0, []), (22, .if_icmp .eq 6, 3, false, 14, 0, 0, 0, 0, []), (25, .bipush (-3), 2, false, 0, 0, 0, 0, 0, []), (27, .ireturn, 1, false, 0, 0, 0, 0, 0, []), (28, .aload_n 0, 1, false, 0, 0, 0, 0, 0, []), (29, .getfield 149, 3, false, 0, 20, 1, 0, 0, []), (32, .lstore_n 1, 1, false, 0, 0, 0, 0, 0, []), (33, .bipush (-9), 2, false, 0, 0, 0, 0, 0, []), (35, .istore_n 3, 1, false, 0, 0, 0, 0, 0, []), (36, .iconst 0, 1, false, 0, 0, 0, 0, 0, []), (37, .istore 4, 2, false, 0, 0, 0, 0, 0, []), (39, .iload 4, 2, true, 0, 0, 0, 0, 0, []), (41, .aload_n 0, 1, false, 0, 0, 0, 0, 0, []), (42, .getfield 210, 3, false, 0, 27, 0, 0, 0, []), (45, .iconst 1, 1, false, 0, 0, 0, 0, 0, []), (46, .isub, 1, false, 0, 0, 0, 0, 0, []), (47, .if_icmp .ge 59, 3, false, 55, 0, 0, 0, 0, []), (50, .aload_n 0, 1, false, 0, 0, 0, 0, 0, []), (51, .iload 4, 2, false, 0, 0, 0, 0, 0, []), (53, .invokevirtual 241, 3, false, 52, 2, 0, 0, 0, []), (56, .aload_n 0, 1, false, 0, 0, 0, 0, 0, []), (57, .aload_n 0, 1, false, 0, 0, 0, 0, 0, []), (58, .getfield 57, 3, false, 0, 28, 18, 0, 0, []), (61, .aload_n 0, 1, false, 0, 0, 0, 0, 0, []), (62, .getfield 210, 3, false, 0, 27, 0, 0, 0, []), (65, .invokevirtual 184, 3, false, 33, 3, 0, 0, 0, []), (68, .aload_n 0, 1, false, 0, 0, 0, 0, 0, []), (69, .getfield 169, 3, false, 0, 13, 0, 0, 0, []), (72, .bipush (-9), 2, false, 0, 0, 0, 0, 0, []), (74, .if_icmp .ne 20, 3, false, 50, 0, 0, 0, 0, []), (77, .aload_n 0, 1, false, 0, 0, 0, 0, 0, []), (78, .getfield 149, 3, false, 0, 20, 1, 0, 0, []), (81, .lload_n 1, 1, false, 0, 0, 0, 0, 0, []), (82, .lcmp, 1, false, 0, 0, 0, 0, 0, []), (83, .ifCond .ge 11, 3, false, 50, 0, 0, 0, 0, []), (86, .aload_n 0, 1, false, 0, 0, 0, 0, 0, []), (87, .getfield 149, 3, false, 0, 20, 1, 0, 0, []), (90, .lstore_n 1, 1, false, 0, 0, 0, 0, 0, []), (91, .iload 4, 2, false, 0, 0, 0, 0, 0, []), (93, .istore_n 3, 1, false, 0, 0, 0, 0, 0, []), (94, .aload_n 0, 1, false, 0, 0, 0, 0, 0, []), (95, .iload 4, 2, false, 0, 0, 0, 0, 0, []), (97, .invokevirtual 241, 3, false, 52, 2, 0, 0, 0, []), (100, .iinc 4 1, 3, false, 0, 0, 0, 0, 0, []), (103, .goto (-64), 3, false, 21, 0, 0, 0, 0, []), (106, .iload_n 3, 1, false, 0, 0, 0, 0, 0, []), (107, .ireturn, 1, false, 0, 0, 0, 0, 0, [])] i i lo st I L := rfl
set_option maxRecDepth 20000 in
theorem hX5_untangled (sh : mm_S) (call : mm_C) (Q : mm_Q) (n i : Nat) (lo st : List Value) (I : mm_I) (L : mm_L) : mm_h sh call tbX5_untangled Q n i lo st I L = mm_hn sh call tbX5_untangled Q n [(0, .aload_n 0, 1, false, 0, 0, 0, 0, 0, []), (1, .invokevirtual 235, 3, false, 44, 1, 0, 0, 0, []), (4, .aload_n 0, 1, false, 0, 0, 0, 0, 0, []), (5, .aload_n 0, 1, false, 0, 0, 0, 0, 0, []), (6, .getfield 57, 3, false, 0, 28, 18, 0, 0, []), (9, .aload_n 0, 1, false, 0, 0, 0, 0, 0, []), (10, .getfield 210, 3, false, 0, 27, 0, 0, 0, []), (13, .invokevirtual 184, 3, false, 33, 3, 0, 0, 0, []), (16, .aload_n 0, 1, false, 0, 0, 0, 0, 0, []), (17, .getfield 169, 3, false, 0, 13, 0, 0, 0, []), (20, .bipush (-9), 2, false, 0, 0, 0, 0, 0, []), (22, .if_icmp .eq 6, 3, false, 14, 0, 0, 0, 0, []), (25, .bipush (-3), 2, false, 0, 0, 0, 0, 0, []), (27, .ireturn, 1, false, 0, 0, 0, 0, 0, []), (28, .aload_n 0, 1, false, 0, 0, 0, 0, 0, []), (29, .getfield 149, 3, false, 0, 20, 1, 0, 0, []), (32, .lstore_n 1, 1, false, 0, 0, 0, 0, 0, []), (33, .bipush (-9), 2, false, 0, 0, 0, 0, 0, []), (35, .istore_n 3, 1, false, 0, 0, 0, 0, 0, []), (36, .iconst 0, 1, false, 0, 0, 0, 0, 0, []), (37, .istore 4, 2, false, 0, 0, 0, 0, 0, []), (39, .iload 4, 2, true, 0, 0, 0, 0, 0, []), (41, .aload_n 0, 1, false, 0, 0, 0, 0, 0, []), (42, .getfield 210, 3, false, 0, 27, 0, 0, 0, []), (45, .iconst 1, 1, false, 0, 0, 0, 0, 0, []), (46, .isub, 1, false, 0, 0, 0, 0, 0, []), (47, .if_icmp .ge 59, 3, false, 55, 0, 0, 0, 0, []), (50, .aload_n 0, 1, false, 0, 0, 0, 0, 0, []), (51, .iload 4, 2, false, 0, 0, 0, 0, 0, []), (53, .invokevirtual 241, 3, false, 52, 2, 0, 0, 0, []), (56, .aload_n 0, 1, false, 0, 0, 0, 0, 0, []), (57, .aload_n 0, 1, false, 0, 0, 0, 0, 0, []), (58, .getfield 57, 3, false, 0, 28, 18, 0, 0, []), (61, .aload_n 0, 1, false, 0, 0, 0, 0, 0, []), (62, .getfield 210, 3, false, 0, 27, 0, 0, 0, []), (65, .invokevirtual 184, 3, false, 33, 3, 0, 0, 0, []), (68, .aload_n 0, 1, false, 0, 0, 0, 0, 0, []), (69, .getfield 169, 3, false, 0, 13, 0, 0, 0, []), (72, .bipush (-9), 2, false, 0, 0, 0, 0, 0, []), (74, .if_icmp .ne 20, 3, false, 50, 0, 0, 0, 0, []), (77, .aload_n 0, 1, false, 0, 0, 0, 0, 0, []), (78, .getfield 149, 3, false, 0, 20, 1, 0, 0, []), (81, .lload_n 1, 1, false, 0, 0, 0, 0, 0, []), (82, .lcmp, 1, false, 0, 0, 0, 0, 0, []), (83, .ifCond .ge 11, 3, false, 50, 0, 0, 0, 0, []), (86, .aload_n 0, 1, false, 0, 0, 0, 0, 0, []), (87, .getfield 149, 3, false, 0, 20, 1, 0, 0, []), (90, .lstore_n 1, 1, false, 0, 0, 0, 0, 0, []), (91, .iload 4, 2, false, 0, 0, 0, 0, 0, []), (93, .istore_n 3, 1, false, 0, 0, 0, 0, 0, []), (94, .aload_n 0, 1, false, 0, 0, 0, 0, 0, []), (95, .iload 4, 2, false, 0, 0, 0, 0, 0, []), (97, .invokevirtual 241, 3, false, 52, 2, 0, 0, 0, []), (100, .iinc 4 1, 3, false, 0, 0, 0, 0, 0, []), (103, .goto (-64), 3, false, 21, 0, 0, 0, 0, []), (106, .iload_n 3, 1, false, 0, 0, 0, 0, 0, []), (107, .ireturn, 1, false, 0, 0, 0, 0, 0, [])] i i lo st I L := rfl
set_option maxRecDepth 20000 in
theorem uX5_manyOpen (sh : mm_S) (call : mm_C) (Q : mm_Q) (n i : Nat) (lo st : List Value) (I : mm_I) (L : mm_L) : mm_v sh call tbX5_manyOpen Q (n + 1) i lo st I L = mm_vn sh call tbX5_manyOpen Q n [(0, .iconst 0, 1, false, 0, 0, 0, 0, 0, []), (1, .istore_n 1, 1, false, 0, 0, 0, 0, 0, []), (2, .iconst 0, 1, false, 0, 0, 0, 0, 0, []), (3, .istore_n 2, 1, false, 0, 0, 0, 0, 0, []), (4, .iload_n 2, 1, true, 0, 0, 0, 0, 0, []), (5, .bipush 8, 2, false, 0, 0, 0, 0, 0, []), (7, .if_icmp .ge 35, 3, false, 25, 0, 0, 0, 0, []), (10, .iload_n 1, 1, false, 0, 0, 0, 0, 0, []), (11, .aload_n 0, 1, false, 0, 0, 0, 0, 0, []), (12, .iload_n 2, 1, false, 0, 0, 0, 0, 0, []), (13, .iconst 1, 1, false, 0, 0, 0, 0, 0, []), (14, .invokevirtual 101, 3, false, 12, 3, 1, 0, 0, []), (17, .ifCond .eq 16, 3, false, 20, 0, 0, 0, 0, []), (20, .aload_n 0, 1, false, 0, 0, 0, 0, 0, []), (21, .iload_n 2, 1, false, 0, 0, 0, 0, 0, []), (22, .iconst 0, 1, false, 0, 0, 0, 0, 0, []), (23, .invokevirtual 101, 3, false, 12, 3, 1, 0, 0, []), (26, .ifCond .ne 7, 3, false, 20, 0, 0, 0, 0, []), (29, .iconst 1, 1, false, 0, 0, 0, 0, 0, []), (30, .goto 4, 3, false, 21, 0, 0, 0, 0, []), (33, .iconst 0, 1, false, 0, 0, 0, 0, 0, []), (34, .iadd, 1, false, 0, 0, 0, 0, 0, []), (35, .istore_n 1, 1, false, 0, 0, 0, 0, 0, []), (36, .iinc 2 1, 3, false, 0, 0, 0, 0, 0, []), (39, .goto (-35), 3, false, 4, 0, 0, 0, 0, []), (42, .iload_n 1, 1, false, 0, 0, 0, 0, 0, []), (43, .ireturn, 1, false, 0, 0, 0, 0, 0, [])] i i lo st I L := rfl
set_option maxRecDepth 20000 in
theorem hX5_manyOpen (sh : mm_S) (call : mm_C) (Q : mm_Q) (n i : Nat) (lo st : List Value) (I : mm_I) (L : mm_L) : mm_h sh call tbX5_manyOpen Q n i lo st I L = mm_hn sh call tbX5_manyOpen Q n [(0, .iconst 0, 1, false, 0, 0, 0, 0, 0, []), (1, .istore_n 1, 1, false, 0, 0, 0, 0, 0, []), (2, .iconst 0, 1, false, 0, 0, 0, 0, 0, []), (3, .istore_n 2, 1, false, 0, 0, 0, 0, 0, []), (4, .iload_n 2, 1, true, 0, 0, 0, 0, 0, []), (5, .bipush 8, 2, false, 0, 0, 0, 0, 0, []), (7, .if_icmp .ge 35, 3, false, 25, 0, 0, 0, 0, []), (10, .iload_n 1, 1, false, 0, 0, 0, 0, 0, []), (11, .aload_n 0, 1, false, 0, 0, 0, 0, 0, []), (12, .iload_n 2, 1, false, 0, 0, 0, 0, 0, []), (13, .iconst 1, 1, false, 0, 0, 0, 0, 0, []), (14, .invokevirtual 101, 3, false, 12, 3, 1, 0, 0, []), (17, .ifCond .eq 16, 3, false, 20, 0, 0, 0, 0, []), (20, .aload_n 0, 1, false, 0, 0, 0, 0, 0, []), (21, .iload_n 2, 1, false, 0, 0, 0, 0, 0, []), (22, .iconst 0, 1, false, 0, 0, 0, 0, 0, []), (23, .invokevirtual 101, 3, false, 12, 3, 1, 0, 0, []), (26, .ifCond .ne 7, 3, false, 20, 0, 0, 0, 0, []), (29, .iconst 1, 1, false, 0, 0, 0, 0, 0, []), (30, .goto 4, 3, false, 21, 0, 0, 0, 0, []), (33, .iconst 0, 1, false, 0, 0, 0, 0, 0, []), (34, .iadd, 1, false, 0, 0, 0, 0, 0, []), (35, .istore_n 1, 1, false, 0, 0, 0, 0, 0, []), (36, .iinc 2 1, 3, false, 0, 0, 0, 0, 0, []), (39, .goto (-35), 3, false, 4, 0, 0, 0, 0, []), (42, .iload_n 1, 1, false, 0, 0, 0, 0, 0, []), (43, .ireturn, 1, false, 0, 0, 0, 0, 0, [])] i i lo st I L := rfl
set_option maxRecDepth 20000 in
theorem uX5_many (sh : mm_S) (call : mm_C) (Q : mm_Q) (n i : Nat) (lo st : List Value) (I : mm_I) (L : mm_L) : mm_v sh call tbX5_many Q (n + 1) i lo st I L = mm_vn sh call tbX5_many Q n [(0, .iload_n 1, 1, false, 0, 0, 0, 0, 0, []), (1, .tableswitch 60 0 4 #[35, 40, 45, 50, 55], 35, false, 17, 0, 0, 0, 0, [2, 5, 8, 11, 14]), (36, .aload_n 0, 1, false, 0, 0, 0, 0, 0, []), (37, .getfield 73, 3, false, 0, 0, 0, 0, 0, []), (40, .ireturn, 1, false, 0, 0, 0, 0, 0, []), (41, .aload_n 0, 1, false, 0, 0, 0, 0, 0, []), (42, .getfield 127, 3, false, 0, 6, 0, 0, 0, []), (45, .ireturn, 1, false, 0, 0, 0, 0, 0, []), (46, .aload_n 0, 1, false, 0, 0, 0, 0, 0, []), (47, .getfield 22, 3, false, 0, 5, 0, 0, 0, []), (50, .ireturn, 1, false, 0, 0, 0, 0, 0, []), (51, .aload_n 0, 1, false, 0, 0, 0, 0, 0, []), (52, .getfield 181, 3, false, 0, 8, 0, 0, 0, []), (55, .ireturn, 1, false, 0, 0, 0, 0, 0, []), (56, .aload_n 0, 1, false, 0, 0, 0, 0, 0, []), (57, .invokevirtual 244, 3, false, 54, 1, 1, 0, 0, []), (60, .ireturn, 1, false, 0, 0, 0, 0, 0, []), (61, .bipush (-2), 2, false, 0, 0, 0, 0, 0, []), (63, .ireturn, 1, false, 0, 0, 0, 0, 0, [])] i i lo st I L := rfl
theorem pX5_within {d : Nat} {I : mm_I} {L : mm_L} {Q : mm_Q} {a1 : Int32} {a2 : Int32} {a3 : Int32} (h : mm_v shR (mm_P shR msR d) tbX5_within Q 12 0 [.int a1, .int a2, .int a3] [] I L) : mm_P shR msR (d + 1) 0 [.int a1, .int a2, .int a3] I L Q := mm_P_in (md := mdX5_within) 12 rfl (Nat.le_of_ble_eq_true rfl) h
theorem pX5_isInt {d : Nat} {I : mm_I} {L : mm_L} {Q : mm_Q} {a1 : Int64} (h : mm_v shR (mm_P shR msR d) tbX5_isInt Q 14 0 [.long a1, .null] [] I L) : mm_P shR msR (d + 1) 1 [.long a1] I L Q := mm_P_in (md := mdX5_isInt) 14 rfl (Nat.le_of_ble_eq_true rfl) h
theorem pX5_isScene {d : Nat} {I : mm_I} {L : mm_L} {Q : mm_Q} {a1 : Int32} (h : mm_v shR (mm_P shR msR d) tbX5_isScene Q 10 0 [.ref 0, .int a1] [] I L) : mm_P shR msR (d + 1) 2 [.ref 0, .int a1] I L Q := mm_P_in (md := mdX5_isScene) 10 rfl (Nat.le_of_ble_eq_true rfl) h
theorem pX5_isClue {d : Nat} {I : mm_I} {L : mm_L} {Q : mm_Q} {a1 : Int32} (h : mm_v shR (mm_P shR msR d) tbX5_isClue Q 7 0 [.int a1] [] I L) : mm_P shR msR (d + 1) 3 [.int a1] I L Q := mm_P_in (md := mdX5_isClue) 7 rfl (Nat.le_of_ble_eq_true rfl) h
theorem pX5_endOf {d : Nat} {I : mm_I} {L : mm_L} {Q : mm_Q} {a1 : Int32} (h : mm_v shR (mm_P shR msR d) tbX5_endOf Q 14 0 [.ref 0, .int a1] [] I L) : mm_P shR msR (d + 1) 4 [.ref 0, .int a1] I L Q := mm_P_in (md := mdX5_endOf) 14 rfl (Nat.le_of_ble_eq_true rfl) h
theorem pX5_scene {d : Nat} {I : mm_I} {L : mm_L} {Q : mm_Q} {a1 : Int32} {a2 : Int32} {a3 : Int32} {a4 : Int32} (h : mm_v shR (mm_P shR msR d) tbX5_scene Q 67 0 [.ref 0, .int a1, .int a2, .int a3, .int a4] [] I L) : mm_P shR msR (d + 1) 5 [.ref 0, .int a1, .int a2, .int a3, .int a4] I L Q := mm_P_in (md := mdX5_scene) 67 rfl (Nat.le_of_ble_eq_true rfl) h
theorem pX5_ofScene {d : Nat} {I : mm_I} {L : mm_L} {Q : mm_Q} {a1 : Int32} {a2 : Int32} (h : mm_v shR (mm_P shR msR d) tbX5_ofScene Q 40 0 [.ref 0, .int a1, .int a2] [] I L) : mm_P shR msR (d + 1) 6 [.ref 0, .int a1, .int a2] I L Q := mm_P_in (md := mdX5_ofScene) 40 rfl (Nat.le_of_ble_eq_true rfl) h
theorem pX5_mayMove {d : Nat} {I : mm_I} {L : mm_L} {Q : mm_Q} {a1 : Int32} {a2 : Int32} (h : mm_v shR (mm_P shR msR d) tbX5_mayMove Q 24 0 [.ref 0, .int a1, .int a2] [] I L) : mm_P shR msR (d + 1) 7 [.ref 0, .int a1, .int a2] I L Q := mm_P_in (md := mdX5_mayMove) 24 rfl (Nat.le_of_ble_eq_true rfl) h
theorem pX5_move {d : Nat} {I : mm_I} {L : mm_L} {Q : mm_Q} {a1 : Int32} {a2 : Int32} (h : mm_v shR (mm_P shR msR d) tbX5_move Q 25 0 [.ref 0, .int a1, .int a2] [] I L) : mm_P shR msR (d + 1) 8 [.ref 0, .int a1, .int a2] I L Q := mm_P_in (md := mdX5_move) 25 rfl (Nat.le_of_ble_eq_true rfl) h
theorem pX5_shift {d : Nat} {I : mm_I} {L : mm_L} {Q : mm_Q} {a1 : Int32} (h : mm_v shR (mm_P shR msR d) tbX5_shift Q 36 0 [.ref 0, .int a1, .null] [] I L) : mm_P shR msR (d + 1) 9 [.ref 0, .int a1] I L Q := mm_P_in (md := mdX5_shift) 36 rfl (Nat.le_of_ble_eq_true rfl) h
theorem pX5_stretch {d : Nat} {I : mm_I} {L : mm_L} {Q : mm_Q} {a1 : Int32} {a2 : Int32} (h : mm_v shR (mm_P shR msR d) tbX5_stretch Q 44 0 [.ref 0, .int a1, .int a2, .null, .null] [] I L) : mm_P shR msR (d + 1) 10 [.ref 0, .int a1, .int a2] I L Q := mm_P_in (md := mdX5_stretch) 44 rfl (Nat.le_of_ble_eq_true rfl) h
theorem pX5_clue {d : Nat} {I : mm_I} {L : mm_L} {Q : mm_Q} {a1 : Int32} {a2 : Int32} {a3 : Int32} {a4 : Int32} (h : mm_v shR (mm_P shR msR d) tbX5_clue Q 77 0 [.ref 0, .int a1, .int a2, .int a3, .int a4, .null, .null, .null] [] I L) : mm_P shR msR (d + 1) 11 [.ref 0, .int a1, .int a2, .int a3, .int a4] I L Q := mm_P_in (md := mdX5_clue) 77 rfl (Nat.le_of_ble_eq_true rfl) h
theorem pX5_setOf {d : Nat} {I : mm_I} {L : mm_L} {Q : mm_Q} {a1 : Int32} {a2 : Int32} (h : mm_v shR (mm_P shR msR d) tbX5_setOf Q 41 0 [.ref 0, .int a1, .int a2, .null, .null, .null] [] I L) : mm_P shR msR (d + 1) 12 [.ref 0, .int a1, .int a2] I L Q := mm_P_in (md := mdX5_setOf) 41 rfl (Nat.le_of_ble_eq_true rfl) h
theorem pX5_ofClue {d : Nat} {I : mm_I} {L : mm_L} {Q : mm_Q} {a1 : Int32} {a2 : Int32} (h : mm_v shR (mm_P shR msR d) tbX5_ofClue Q 19 0 [.ref 0, .int a1, .int a2] [] I L) : mm_P shR msR (d + 1) 13 [.ref 0, .int a1, .int a2] I L Q := mm_P_in (md := mdX5_ofClue) 19 rfl (Nat.le_of_ble_eq_true rfl) h
theorem pX5_drop {d : Nat} {I : mm_I} {L : mm_L} {Q : mm_Q}  (h : mm_v shR (mm_P shR msR d) tbX5_drop Q 16 0 [.ref 0] [] I L) : mm_P shR msR (d + 1) 14 [.ref 0] I L Q := mm_P_in (md := mdX5_drop) 16 rfl (Nat.le_of_ble_eq_true rfl) h
theorem pX5_fee {d : Nat} {I : mm_I} {L : mm_L} {Q : mm_Q} {a1 : Int32} (h : mm_v shR (mm_P shR msR d) tbX5_fee Q 17 0 [.ref 0, .int a1, .null] [] I L) : mm_P shR msR (d + 1) 15 [.ref 0, .int a1] I L Q := mm_P_in (md := mdX5_fee) 17 rfl (Nat.le_of_ble_eq_true rfl) h
theorem pX5_jumpOf {d : Nat} {I : mm_I} {L : mm_L} {Q : mm_Q} {a1 : Int32} {a2 : Int32} (h : mm_v shR (mm_P shR msR d) tbX5_jumpOf Q 21 0 [.ref 0, .int a1, .int a2, .null, .null] [] I L) : mm_P shR msR (d + 1) 16 [.ref 0, .int a1, .int a2] I L Q := mm_P_in (md := mdX5_jumpOf) 21 rfl (Nat.le_of_ble_eq_true rfl) h
theorem pX5_jump {d : Nat} {I : mm_I} {L : mm_L} {Q : mm_Q} {a1 : Int32} {a2 : Int32} (h : mm_v shR (mm_P shR msR d) tbX5_jump Q 20 0 [.ref 0, .int a1, .int a2] [] I L) : mm_P shR msR (d + 1) 17 [.ref 0, .int a1, .int a2] I L Q := mm_P_in (md := mdX5_jump) 20 rfl (Nat.le_of_ble_eq_true rfl) h
theorem pX5_firstFrom {d : Nat} {I : mm_I} {L : mm_L} {Q : mm_Q}  (h : mm_v shR (mm_P shR msR d) tbX5_firstFrom Q 34 0 [.ref 0, .null, .null, .null] [] I L) : mm_P shR msR (d + 1) 18 [.ref 0] I L Q := mm_P_in (md := mdX5_firstFrom) 34 rfl (Nat.le_of_ble_eq_true rfl) h
theorem pX5_lastEnd {d : Nat} {I : mm_I} {L : mm_L} {Q : mm_Q}  (h : mm_v shR (mm_P shR msR d) tbX5_lastEnd Q 28 0 [.ref 0, .null, .null, .null] [] I L) : mm_P shR msR (d + 1) 19 [.ref 0] I L Q := mm_P_in (md := mdX5_lastEnd) 28 rfl (Nat.le_of_ble_eq_true rfl) h
theorem pX5_nextFrom {d : Nat} {I : mm_I} {L : mm_L} {Q : mm_Q} {a1 : Int64} (h : mm_v shR (mm_P shR msR d) tbX5_nextFrom Q 39 0 [.ref 0, .long a1, .null, .null, .null, .null] [] I L) : mm_P shR msR (d + 1) 20 [.ref 0, .long a1] I L Q := mm_P_in (md := mdX5_nextFrom) 39 rfl (Nat.le_of_ble_eq_true rfl) h
theorem pX5_toldTo {d : Nat} {I : mm_I} {L : mm_L} {Q : mm_Q} {a1 : Int64} (h : mm_v shR (mm_P shR msR d) tbX5_toldTo Q 41 0 [.ref 0, .long a1, .null, .null, .null, .null, .null] [] I L) : mm_P shR msR (d + 1) 21 [.ref 0, .long a1] I L Q := mm_P_in (md := mdX5_toldTo) 41 rfl (Nat.le_of_ble_eq_true rfl) h
theorem pX5_gaps {d : Nat} {I : mm_I} {L : mm_L} {Q : mm_Q}  (h : mm_v shR (mm_P shR msR d) tbX5_gaps Q 31 0 [.ref 0, .null, .null, .null, .null, .null, .null] [] I L) : mm_P shR msR (d + 1) 22 [.ref 0] I L Q := mm_P_in (md := mdX5_gaps) 31 rfl (Nat.le_of_ble_eq_true rfl) h
theorem pX5_span {d : Nat} {I : mm_I} {L : mm_L} {Q : mm_Q} {a1 : Int32} (h : mm_v shR (mm_P shR msR d) tbX5_span Q 23 0 [.ref 0, .int a1] [] I L) : mm_P shR msR (d + 1) 23 [.ref 0, .int a1] I L Q := mm_P_in (md := mdX5_span) 23 rfl (Nat.le_of_ble_eq_true rfl) h
theorem pX5_add {d : Nat} {I : mm_I} {L : mm_L} {Q : mm_Q} {a1 : Int32} (h : mm_v shR (mm_P shR msR d) tbX5_add Q 36 0 [.ref 0, .int a1] [] I L) : mm_P shR msR (d + 1) 24 [.ref 0, .int a1] I L Q := mm_P_in (md := mdX5_add) 36 rfl (Nat.le_of_ble_eq_true rfl) h
theorem pX5_cut {d : Nat} {I : mm_I} {L : mm_L} {Q : mm_Q} {a1 : Int32} (h : mm_v shR (mm_P shR msR d) tbX5_cut Q 19 0 [.ref 0, .int a1] [] I L) : mm_P shR msR (d + 1) 25 [.ref 0, .int a1] I L Q := mm_P_in (md := mdX5_cut) 19 rfl (Nat.le_of_ble_eq_true rfl) h
theorem pX5_sideBy {d : Nat} {I : mm_I} {L : mm_L} {Q : mm_Q} {a1 : Int32} {a2 : Int32} (h : mm_v shR (mm_P shR msR d) tbX5_sideBy Q 28 0 [.ref 0, .int a1, .int a2] [] I L) : mm_P shR msR (d + 1) 26 [.ref 0, .int a1, .int a2] I L Q := mm_P_in (md := mdX5_sideBy) 28 rfl (Nat.le_of_ble_eq_true rfl) h
theorem pX5_isOnSide {d : Nat} {I : mm_I} {L : mm_L} {Q : mm_Q} {a1 : Int32} (h : mm_v shR (mm_P shR msR d) tbX5_isOnSide Q 37 0 [.ref 0, .int a1, .null] [] I L) : mm_P shR msR (d + 1) 27 [.ref 0, .int a1] I L Q := mm_P_in (md := mdX5_isOnSide) 37 rfl (Nat.le_of_ble_eq_true rfl) h
theorem pX5_reasonOfScene {d : Nat} {I : mm_I} {L : mm_L} {Q : mm_Q} {a1 : Int32} (h : mm_v shR (mm_P shR msR d) tbX5_reasonOfScene Q 38 0 [.ref 0, .int a1] [] I L) : mm_P shR msR (d + 1) 28 [.ref 0, .int a1] I L Q := mm_P_in (md := mdX5_reasonOfScene) 38 rfl (Nat.le_of_ble_eq_true rfl) h
theorem pX5_reasonOf {d : Nat} {I : mm_I} {L : mm_L} {Q : mm_Q} {a1 : Int32} (h : mm_v shR (mm_P shR msR d) tbX5_reasonOf Q 37 0 [.ref 0, .int a1] [] I L) : mm_P shR msR (d + 1) 29 [.ref 0, .int a1] I L Q := mm_P_in (md := mdX5_reasonOf) 37 rfl (Nat.le_of_ble_eq_true rfl) h
theorem pX5_tells {d : Nat} {I : mm_I} {L : mm_L} {Q : mm_Q} {a1 : Int32} (h : mm_v shR (mm_P shR msR d) tbX5_tells Q 103 0 [.ref 0, .int a1, .null, .null] [] I L) : mm_P shR msR (d + 1) 30 [.ref 0, .int a1] I L Q := mm_P_in (md := mdX5_tells) 103 rfl (Nat.le_of_ble_eq_true rfl) h
theorem pX5_opens {d : Nat} {I : mm_I} {L : mm_L} {Q : mm_Q}  (h : mm_v shR (mm_P shR msR d) tbX5_opens Q 59 0 [.ref 0, .null] [] I L) : mm_P shR msR (d + 1) 31 [.ref 0] I L Q := mm_P_in (md := mdX5_opens) 59 rfl (Nat.le_of_ble_eq_true rfl) h
theorem pX5_goesOn {d : Nat} {I : mm_I} {L : mm_L} {Q : mm_Q} {a1 : Int32} (h : mm_v shR (mm_P shR msR d) tbX5_goesOn Q 22 0 [.ref 0, .int a1] [] I L) : mm_P shR msR (d + 1) 32 [.ref 0, .int a1] I L Q := mm_P_in (md := mdX5_goesOn) 22 rfl (Nat.le_of_ble_eq_true rfl) h
theorem pX5_looks {d : Nat} {I : mm_I} {L : mm_L} {Q : mm_Q} {a1 : Nat} {a2 : Int32} (h : mm_v shR (mm_P shR msR d) tbX5_looks Q 79 0 [.ref 0, .ref a1, .int a2, .null, .null] [] I L) : mm_P shR msR (d + 1) 33 [.ref 0, .ref a1, .int a2] I L Q := mm_P_in (md := mdX5_looks) 79 rfl (Nat.le_of_ble_eq_true rfl) h
theorem pX5_looksNow {d : Nat} {I : mm_I} {L : mm_L} {Q : mm_Q}  (h : mm_v shR (mm_P shR msR d) tbX5_looksNow Q 15 0 [.ref 0] [] I L) : mm_P shR msR (d + 1) 34 [.ref 0] I L Q := mm_P_in (md := mdX5_looksNow) 15 rfl (Nat.le_of_ble_eq_true rfl) h
theorem pX5_judge {d : Nat} {I : mm_I} {L : mm_L} {Q : mm_Q} {a1 : Int32} (h : mm_v shR (mm_P shR msR d) tbX5_judge Q 26 0 [.ref 0, .int a1] [] I L) : mm_P shR msR (d + 1) 35 [.ref 0, .int a1] I L Q := mm_P_in (md := mdX5_judge) 26 rfl (Nat.le_of_ble_eq_true rfl) h
theorem pX5_jumpsOf {d : Nat} {I : mm_I} {L : mm_L} {Q : mm_Q} {a1 : Int64} (h : mm_v shR (mm_P shR msR d) tbX5_jumpsOf Q 11 0 [.long a1, .null] [] I L) : mm_P shR msR (d + 1) 36 [.long a1] I L Q := mm_P_in (md := mdX5_jumpsOf) 11 rfl (Nat.le_of_ble_eq_true rfl) h
theorem pX5_jumps {d : Nat} {I : mm_I} {L : mm_L} {Q : mm_Q}  (h : mm_v shR (mm_P shR msR d) tbX5_jumps Q 14 0 [.ref 0] [] I L) : mm_P shR msR (d + 1) 37 [.ref 0] I L Q := mm_P_in (md := mdX5_jumps) 14 rfl (Nat.le_of_ble_eq_true rfl) h
theorem pX5_told {d : Nat} {I : mm_I} {L : mm_L} {Q : mm_Q} {a1 : Int32} {a2 : Int32} (h : mm_v shR (mm_P shR msR d) tbX5_told Q 60 0 [.ref 0, .int a1, .int a2] [] I L) : mm_P shR msR (d + 1) 38 [.ref 0, .int a1, .int a2] I L Q := mm_P_in (md := mdX5_told) 60 rfl (Nat.le_of_ble_eq_true rfl) h
theorem pX5_mayCome {d : Nat} {I : mm_I} {L : mm_L} {Q : mm_Q} {a1 : Int32} {a2 : Int32} (h : mm_v shR (mm_P shR msR d) tbX5_mayCome Q 47 0 [.ref 0, .int a1, .int a2, .null, .null] [] I L) : mm_P shR msR (d + 1) 39 [.ref 0, .int a1, .int a2] I L Q := mm_P_in (md := mdX5_mayCome) 47 rfl (Nat.le_of_ble_eq_true rfl) h
theorem pX5_byNext {d : Nat} {I : mm_I} {L : mm_L} {Q : mm_Q} {a1 : Int32} {a2 : Int32} {a3 : Int32} (h : mm_v shR (mm_P shR msR d) tbX5_byNext Q 28 0 [.ref 0, .int a1, .int a2, .int a3, .null, .null] [] I L) : mm_P shR msR (d + 1) 40 [.ref 0, .int a1, .int a2, .int a3] I L Q := mm_P_in (md := mdX5_byNext) 28 rfl (Nat.le_of_ble_eq_true rfl) h
theorem pX5_findRest {d : Nat} {I : mm_I} {L : mm_L} {Q : mm_Q}  (h : mm_v shR (mm_P shR msR d) tbX5_findRest Q 72 0 [.ref 0, .null, .null, .null, .null, .null, .null, .null, .null] [] I L) : mm_P shR msR (d + 1) 41 [.ref 0] I L Q := mm_P_in (md := mdX5_findRest) 72 rfl (Nat.le_of_ble_eq_true rfl) h
theorem pX5_findOrder {d : Nat} {I : mm_I} {L : mm_L} {Q : mm_Q}  (h : mm_v shR (mm_P shR msR d) tbX5_findOrder Q 118 0 [.ref 0, .null, .null, .null, .null, .null, .null] [] I L) : mm_P shR msR (d + 1) 42 [.ref 0] I L Q := mm_P_in (md := mdX5_findOrder) 118 rfl (Nat.le_of_ble_eq_true rfl) h
theorem pX5_order {d : Nat} {I : mm_I} {L : mm_L} {Q : mm_Q} {a1 : Int32} (h : mm_v shR (mm_P shR msR d) tbX5_order Q 39 0 [.ref 0, .int a1, .null, .null] [] I L) : mm_P shR msR (d + 1) 43 [.ref 0, .int a1] I L Q := mm_P_in (md := mdX5_order) 39 rfl (Nat.le_of_ble_eq_true rfl) h
theorem pX5_findRow {d : Nat} {I : mm_I} {L : mm_L} {Q : mm_Q}  (h : mm_v shR (mm_P shR msR d) tbX5_findRow Q 35 0 [.ref 0, .null] [] I L) : mm_P shR msR (d + 1) 44 [.ref 0] I L Q := mm_P_in (md := mdX5_findRow) 35 rfl (Nat.le_of_ble_eq_true rfl) h
theorem pX5_puts {d : Nat} {I : mm_I} {L : mm_L} {Q : mm_Q} {a1 : Int32} (h : mm_v shR (mm_P shR msR d) tbX5_puts Q 15 0 [.ref 0, .int a1] [] I L) : mm_P shR msR (d + 1) 45 [.ref 0, .int a1] I L Q := mm_P_in (md := mdX5_puts) 15 rfl (Nat.le_of_ble_eq_true rfl) h
theorem pX5_makes {d : Nat} {I : mm_I} {L : mm_L} {Q : mm_Q}  (h : mm_v shR (mm_P shR msR d) tbX5_makes Q 73 0 [.ref 0, .null, .null, .null, .null] [] I L) : mm_P shR msR (d + 1) 46 [.ref 0] I L Q := mm_P_in (md := mdX5_makes) 73 rfl (Nat.le_of_ble_eq_true rfl) h
theorem pX5_depthAt {d : Nat} {I : mm_I} {L : mm_L} {Q : mm_Q} {a1 : Int32} (h : mm_v shR (mm_P shR msR d) tbX5_depthAt Q 29 0 [.ref 0, .int a1, .null, .null] [] I L) : mm_P shR msR (d + 1) 47 [.ref 0, .int a1] I L Q := mm_P_in (md := mdX5_depthAt) 29 rfl (Nat.le_of_ble_eq_true rfl) h
theorem pX5_goesNext {d : Nat} {I : mm_I} {L : mm_L} {Q : mm_Q}  (h : mm_v shR (mm_P shR msR d) tbX5_goesNext Q 42 0 [.ref 0, .null] [] I L) : mm_P shR msR (d + 1) 48 [.ref 0] I L Q := mm_P_in (md := mdX5_goesNext) 42 rfl (Nat.le_of_ble_eq_true rfl) h
theorem pX5_keeps {d : Nat} {I : mm_I} {L : mm_L} {Q : mm_Q}  (h : mm_v shR (mm_P shR msR d) tbX5_keeps Q 23 0 [.ref 0, .null] [] I L) : mm_P shR msR (d + 1) 49 [.ref 0] I L Q := mm_P_in (md := mdX5_keeps) 23 rfl (Nat.le_of_ble_eq_true rfl) h
theorem pX5_findFramed {d : Nat} {I : mm_I} {L : mm_L} {Q : mm_Q}  (h : mm_v shR (mm_P shR msR d) tbX5_findFramed Q 68 0 [.ref 0, .null, .null, .null, .null, .null] [] I L) : mm_P shR msR (d + 1) 50 [.ref 0] I L Q := mm_P_in (md := mdX5_findFramed) 68 rfl (Nat.le_of_ble_eq_true rfl) h
theorem pX5_framed {d : Nat} {I : mm_I} {L : mm_L} {Q : mm_Q} {a1 : Int32} (h : mm_v shR (mm_P shR msR d) tbX5_framed Q 51 0 [.ref 0, .int a1, .null, .null] [] I L) : mm_P shR msR (d + 1) 51 [.ref 0, .int a1] I L Q := mm_P_in (md := mdX5_framed) 51 rfl (Nat.le_of_ble_eq_true rfl) h
theorem pX5_changes {d : Nat} {I : mm_I} {L : mm_L} {Q : mm_Q} {a1 : Int32} (h : mm_v shR (mm_P shR msR d) tbX5_changes Q 25 0 [.ref 0, .int a1, .null] [] I L) : mm_P shR msR (d + 1) 52 [.ref 0, .int a1] I L Q := mm_P_in (md := mdX5_changes) 25 rfl (Nat.le_of_ble_eq_true rfl) h
theorem pX5_untangled {d : Nat} {I : mm_I} {L : mm_L} {Q : mm_Q}  (h : mm_v shR (mm_P shR msR d) tbX5_untangled Q 59 0 [.ref 0, .null, .null, .null, .null] [] I L) : mm_P shR msR (d + 1) 53 [.ref 0] I L Q := mm_P_in (md := mdX5_untangled) 59 rfl (Nat.le_of_ble_eq_true rfl) h
theorem pX5_manyOpen {d : Nat} {I : mm_I} {L : mm_L} {Q : mm_Q}  (h : mm_v shR (mm_P shR msR d) tbX5_manyOpen Q 29 0 [.ref 0, .null, .null] [] I L) : mm_P shR msR (d + 1) 54 [.ref 0] I L Q := mm_P_in (md := mdX5_manyOpen) 29 rfl (Nat.le_of_ble_eq_true rfl) h
theorem pX5_many {d : Nat} {I : mm_I} {L : mm_L} {Q : mm_Q} {a1 : Int32} (h : mm_v shR (mm_P shR msR d) tbX5_many Q 21 0 [.ref 0, .int a1] [] I L) : mm_P shR msR (d + 1) 55 [.ref 0, .int a1] I L Q := mm_P_in (md := mdX5_many) 21 rfl (Nat.le_of_ble_eq_true rfl) h
theorem iaR : mm_ia shR 1 = 8 ∧ mm_ia shR 2 = 8 ∧ mm_ia shR 3 = 8 ∧ mm_ia shR 4 = 8 ∧ mm_ia shR 5 = 40 ∧ mm_ia shR 6 = 41 ∧ mm_ia shR 7 = 41 ∧ mm_ia shR 8 = 41 ∧ mm_ia shR 9 = 8 ∧ mm_ia shR 10 = 8 ∧ mm_ia shR 11 = 8 ∧ mm_ia shR 12 = 8 ∧ mm_la shR 13 = 2048 ∧ mm_ia shR 14 = 8 ∧ mm_ia shR 15 = 40 ∧ mm_ia shR 16 = 8 ∧ mm_ia shR 17 = 40 ∧ mm_ia shR 18 = 40 := by decide +kernel
end
section
/-! ===== the checks of the tables (R) ===== -/
set_option maxRecDepth 100000 in
theorem okX5_within : mm_mo TR mdX5_within := mm_mo_ok (by decide +kernel)
set_option maxRecDepth 100000 in
theorem okX5_isInt : mm_mo TR mdX5_isInt := mm_mo_ok (by decide +kernel)
set_option maxRecDepth 100000 in
theorem okX5_isScene : mm_mo TR mdX5_isScene := mm_mo_ok (by decide +kernel)
set_option maxRecDepth 100000 in
theorem okX5_isClue : mm_mo TR mdX5_isClue := mm_mo_ok (by decide +kernel)
set_option maxRecDepth 100000 in
theorem okX5_endOf : mm_mo TR mdX5_endOf := mm_mo_ok (by decide +kernel)
set_option maxRecDepth 100000 in
theorem okX5_scene : mm_mo TR mdX5_scene := mm_mo_ok (by decide +kernel)
set_option maxRecDepth 100000 in
theorem okX5_ofScene : mm_mo TR mdX5_ofScene := mm_mo_ok (by decide +kernel)
set_option maxRecDepth 100000 in
theorem okX5_mayMove : mm_mo TR mdX5_mayMove := mm_mo_ok (by decide +kernel)
set_option maxRecDepth 100000 in
theorem okX5_move : mm_mo TR mdX5_move := mm_mo_ok (by decide +kernel)
set_option maxRecDepth 100000 in
theorem okX5_shift : mm_mo TR mdX5_shift := mm_mo_ok (by decide +kernel)
set_option maxRecDepth 100000 in
theorem okX5_stretch : mm_mo TR mdX5_stretch := mm_mo_ok (by decide +kernel)
set_option maxRecDepth 100000 in
theorem okX5_clue : mm_mo TR mdX5_clue := mm_mo_ok (by decide +kernel)
set_option maxRecDepth 100000 in
theorem okX5_setOf : mm_mo TR mdX5_setOf := mm_mo_ok (by decide +kernel)
set_option maxRecDepth 100000 in
theorem okX5_ofClue : mm_mo TR mdX5_ofClue := mm_mo_ok (by decide +kernel)
set_option maxRecDepth 100000 in
theorem okX5_drop : mm_mo TR mdX5_drop := mm_mo_ok (by decide +kernel)
set_option maxRecDepth 100000 in
theorem okX5_fee : mm_mo TR mdX5_fee := mm_mo_ok (by decide +kernel)
set_option maxRecDepth 100000 in
theorem okX5_jumpOf : mm_mo TR mdX5_jumpOf := mm_mo_ok (by decide +kernel)
set_option maxRecDepth 100000 in
theorem okX5_jump : mm_mo TR mdX5_jump := mm_mo_ok (by decide +kernel)
set_option maxRecDepth 100000 in
theorem okX5_firstFrom : mm_mo TR mdX5_firstFrom := mm_mo_ok (by decide +kernel)
set_option maxRecDepth 100000 in
theorem okX5_lastEnd : mm_mo TR mdX5_lastEnd := mm_mo_ok (by decide +kernel)
set_option maxRecDepth 100000 in
theorem okX5_nextFrom : mm_mo TR mdX5_nextFrom := mm_mo_ok (by decide +kernel)
set_option maxRecDepth 100000 in
theorem okX5_toldTo : mm_mo TR mdX5_toldTo := mm_mo_ok (by decide +kernel)
set_option maxRecDepth 100000 in
theorem okX5_gaps : mm_mo TR mdX5_gaps := mm_mo_ok (by decide +kernel)
set_option maxRecDepth 100000 in
theorem okX5_span : mm_mo TR mdX5_span := mm_mo_ok (by decide +kernel)
set_option maxRecDepth 100000 in
theorem okX5_add : mm_mo TR mdX5_add := mm_mo_ok (by decide +kernel)
set_option maxRecDepth 100000 in
theorem okX5_cut : mm_mo TR mdX5_cut := mm_mo_ok (by decide +kernel)
set_option maxRecDepth 100000 in
theorem okX5_sideBy : mm_mo TR mdX5_sideBy := mm_mo_ok (by decide +kernel)
set_option maxRecDepth 100000 in
theorem okX5_isOnSide : mm_mo TR mdX5_isOnSide := mm_mo_ok (by decide +kernel)
set_option maxRecDepth 100000 in
theorem okX5_reasonOfScene : mm_mo TR mdX5_reasonOfScene := mm_mo_ok (by decide +kernel)
set_option maxRecDepth 100000 in
theorem okX5_reasonOf : mm_mo TR mdX5_reasonOf := mm_mo_ok (by decide +kernel)
set_option maxRecDepth 100000 in
theorem okX5_tells : mm_mo TR mdX5_tells := mm_mo_ok (by decide +kernel)
set_option maxRecDepth 100000 in
theorem okX5_opens : mm_mo TR mdX5_opens := mm_mo_ok (by decide +kernel)
set_option maxRecDepth 100000 in
theorem okX5_goesOn : mm_mo TR mdX5_goesOn := mm_mo_ok (by decide +kernel)
set_option maxRecDepth 100000 in
theorem okX5_looks : mm_mo TR mdX5_looks := mm_mo_ok (by decide +kernel)
set_option maxRecDepth 100000 in
theorem okX5_looksNow : mm_mo TR mdX5_looksNow := mm_mo_ok (by decide +kernel)
set_option maxRecDepth 100000 in
theorem okX5_judge : mm_mo TR mdX5_judge := mm_mo_ok (by decide +kernel)
set_option maxRecDepth 100000 in
theorem okX5_jumpsOf : mm_mo TR mdX5_jumpsOf := mm_mo_ok (by decide +kernel)
set_option maxRecDepth 100000 in
theorem okX5_jumps : mm_mo TR mdX5_jumps := mm_mo_ok (by decide +kernel)
set_option maxRecDepth 100000 in
theorem okX5_told : mm_mo TR mdX5_told := mm_mo_ok (by decide +kernel)
set_option maxRecDepth 100000 in
theorem okX5_mayCome : mm_mo TR mdX5_mayCome := mm_mo_ok (by decide +kernel)
set_option maxRecDepth 100000 in
theorem okX5_byNext : mm_mo TR mdX5_byNext := mm_mo_ok (by decide +kernel)
set_option maxRecDepth 100000 in
theorem okX5_findRest : mm_mo TR mdX5_findRest := mm_mo_ok (by decide +kernel)
set_option maxRecDepth 100000 in
theorem okX5_findOrder : mm_mo TR mdX5_findOrder := mm_mo_ok (by decide +kernel)
set_option maxRecDepth 100000 in
theorem okX5_order : mm_mo TR mdX5_order := mm_mo_ok (by decide +kernel)
set_option maxRecDepth 100000 in
theorem okX5_findRow : mm_mo TR mdX5_findRow := mm_mo_ok (by decide +kernel)
set_option maxRecDepth 100000 in
theorem okX5_puts : mm_mo TR mdX5_puts := mm_mo_ok (by decide +kernel)
set_option maxRecDepth 100000 in
theorem okX5_makes : mm_mo TR mdX5_makes := mm_mo_ok (by decide +kernel)
set_option maxRecDepth 100000 in
theorem okX5_depthAt : mm_mo TR mdX5_depthAt := mm_mo_ok (by decide +kernel)
set_option maxRecDepth 100000 in
theorem okX5_goesNext : mm_mo TR mdX5_goesNext := mm_mo_ok (by decide +kernel)
set_option maxRecDepth 100000 in
theorem okX5_keeps : mm_mo TR mdX5_keeps := mm_mo_ok (by decide +kernel)
set_option maxRecDepth 100000 in
theorem okX5_findFramed : mm_mo TR mdX5_findFramed := mm_mo_ok (by decide +kernel)
set_option maxRecDepth 100000 in
theorem okX5_framed : mm_mo TR mdX5_framed := mm_mo_ok (by decide +kernel)
set_option maxRecDepth 100000 in
theorem okX5_changes : mm_mo TR mdX5_changes := mm_mo_ok (by decide +kernel)
set_option maxRecDepth 100000 in
theorem okX5_untangled : mm_mo TR mdX5_untangled := mm_mo_ok (by decide +kernel)
set_option maxRecDepth 100000 in
theorem okX5_manyOpen : mm_mo TR mdX5_manyOpen := mm_mo_ok (by decide +kernel)
set_option maxRecDepth 100000 in
theorem okX5_many : mm_mo TR mdX5_many := mm_mo_ok (by decide +kernel)
set_option maxRecDepth 100000 in
theorem okR_ms : ∀ md ∈ msR, mm_mo TR md := List.forall_mem_cons.mpr ⟨okX5_within, List.forall_mem_cons.mpr ⟨okX5_isInt, List.forall_mem_cons.mpr ⟨okX5_isScene, List.forall_mem_cons.mpr ⟨okX5_isClue, List.forall_mem_cons.mpr ⟨okX5_endOf, List.forall_mem_cons.mpr ⟨okX5_scene, List.forall_mem_cons.mpr ⟨okX5_ofScene, List.forall_mem_cons.mpr ⟨okX5_mayMove, List.forall_mem_cons.mpr ⟨okX5_move, List.forall_mem_cons.mpr ⟨okX5_shift, List.forall_mem_cons.mpr ⟨okX5_stretch, List.forall_mem_cons.mpr ⟨okX5_clue, List.forall_mem_cons.mpr ⟨okX5_setOf, List.forall_mem_cons.mpr ⟨okX5_ofClue, List.forall_mem_cons.mpr ⟨okX5_drop, List.forall_mem_cons.mpr ⟨okX5_fee, List.forall_mem_cons.mpr ⟨okX5_jumpOf, List.forall_mem_cons.mpr ⟨okX5_jump, List.forall_mem_cons.mpr ⟨okX5_firstFrom, List.forall_mem_cons.mpr ⟨okX5_lastEnd, List.forall_mem_cons.mpr ⟨okX5_nextFrom, List.forall_mem_cons.mpr ⟨okX5_toldTo, List.forall_mem_cons.mpr ⟨okX5_gaps, List.forall_mem_cons.mpr ⟨okX5_span, List.forall_mem_cons.mpr ⟨okX5_add, List.forall_mem_cons.mpr ⟨okX5_cut, List.forall_mem_cons.mpr ⟨okX5_sideBy, List.forall_mem_cons.mpr ⟨okX5_isOnSide, List.forall_mem_cons.mpr ⟨okX5_reasonOfScene, List.forall_mem_cons.mpr ⟨okX5_reasonOf, List.forall_mem_cons.mpr ⟨okX5_tells, List.forall_mem_cons.mpr ⟨okX5_opens, List.forall_mem_cons.mpr ⟨okX5_goesOn, List.forall_mem_cons.mpr ⟨okX5_looks, List.forall_mem_cons.mpr ⟨okX5_looksNow, List.forall_mem_cons.mpr ⟨okX5_judge, List.forall_mem_cons.mpr ⟨okX5_jumpsOf, List.forall_mem_cons.mpr ⟨okX5_jumps, List.forall_mem_cons.mpr ⟨okX5_told, List.forall_mem_cons.mpr ⟨okX5_mayCome, List.forall_mem_cons.mpr ⟨okX5_byNext, List.forall_mem_cons.mpr ⟨okX5_findRest, List.forall_mem_cons.mpr ⟨okX5_findOrder, List.forall_mem_cons.mpr ⟨okX5_order, List.forall_mem_cons.mpr ⟨okX5_findRow, List.forall_mem_cons.mpr ⟨okX5_puts, List.forall_mem_cons.mpr ⟨okX5_makes, List.forall_mem_cons.mpr ⟨okX5_depthAt, List.forall_mem_cons.mpr ⟨okX5_goesNext, List.forall_mem_cons.mpr ⟨okX5_keeps, List.forall_mem_cons.mpr ⟨okX5_findFramed, List.forall_mem_cons.mpr ⟨okX5_framed, List.forall_mem_cons.mpr ⟨okX5_changes, List.forall_mem_cons.mpr ⟨okX5_untangled, List.forall_mem_cons.mpr ⟨okX5_manyOpen, List.forall_mem_cons.mpr ⟨okX5_many, fun _ h => absurd h List.not_mem_nil⟩⟩⟩⟩⟩⟩⟩⟩⟩⟩⟩⟩⟩⟩⟩⟩⟩⟩⟩⟩⟩⟩⟩⟩⟩⟩⟩⟩⟩⟩⟩⟩⟩⟩⟩⟩⟩⟩⟩⟩⟩⟩⟩⟩⟩⟩⟩⟩⟩⟩⟩⟩⟩⟩⟩⟩
set_option maxRecDepth 100000 in
theorem goodR : (mm_tb TR).all goodWord = true := by decide +kernel
set_option maxRecDepth 100000 in
theorem okR : mm_ok TR := mm_ok_of okR_ms (by decide +kernel) (by decide +kernel) (fun ci q h => by
  match ci, h with
  | 0, h => cases h; exact ⟨tyX0_ok, nmX0⟩
  | 1, h => cases h; exact ⟨tyX1_ok, nmX1⟩
  | 2, h => cases h; exact ⟨tyX2_ok, nmX2⟩
  | 3, h => cases h; exact ⟨tyX3_ok, nmX3⟩
  | 4, h => cases h; exact ⟨tyX4_ok, nmX4⟩
  | 5, h => cases h; exact ⟨tyX5_ok, nmX5⟩
  | ci + 6, h => simp [mm_cl, TR, vwCl] at h) goodR
set_option maxRecDepth 100000 in
theorem inR_0 : ∀ w ∈ [mm_mw mdX5_within], w ∈ lw_tbl := mm_mem [683] (rfl)
set_option maxRecDepth 100000 in
theorem inR_1 : ∀ w ∈ [mm_mw mdX5_isInt], w ∈ lw_tbl := mm_mem [686] (rfl)
set_option maxRecDepth 100000 in
theorem inR_2 : ∀ w ∈ [mm_mw mdX5_isScene], w ∈ lw_tbl := mm_mem [696] (rfl)
set_option maxRecDepth 100000 in
theorem inR_3 : ∀ w ∈ [mm_mw mdX5_isClue], w ∈ lw_tbl := mm_mem [724] (rfl)
set_option maxRecDepth 100000 in
theorem inR_4 : ∀ w ∈ [mm_mw mdX5_endOf], w ∈ lw_tbl := mm_mem [701] (rfl)
set_option maxRecDepth 100000 in
theorem inR_5 : ∀ w ∈ [mm_mw mdX5_scene], w ∈ lw_tbl := mm_mem [680] (rfl)
set_option maxRecDepth 100000 in
theorem inR_6 : ∀ w ∈ [mm_mw mdX5_ofScene], w ∈ lw_tbl := mm_mem [692] (rfl)
set_option maxRecDepth 100000 in
theorem inR_7 : ∀ w ∈ [mm_mw mdX5_mayMove], w ∈ lw_tbl := mm_mem [709] (rfl)
set_option maxRecDepth 100000 in
theorem inR_8 : ∀ w ∈ [mm_mw mdX5_move], w ∈ lw_tbl := mm_mem [705] (rfl)
set_option maxRecDepth 100000 in
theorem inR_9 : ∀ w ∈ [mm_mw mdX5_shift], w ∈ lw_tbl := mm_mem [713] (rfl)
set_option maxRecDepth 100000 in
theorem inR_10 : ∀ w ∈ [mm_mw mdX5_stretch], w ∈ lw_tbl := mm_mem [717] (rfl)
set_option maxRecDepth 100000 in
theorem inR_11 : ∀ w ∈ [mm_mw mdX5_clue], w ∈ lw_tbl := mm_mem [721] (rfl)
set_option maxRecDepth 100000 in
theorem inR_12 : ∀ w ∈ [mm_mw mdX5_setOf], w ∈ lw_tbl := mm_mem [732] (rfl)
set_option maxRecDepth 100000 in
theorem inR_13 : ∀ w ∈ [mm_mw mdX5_ofClue], w ∈ lw_tbl := mm_mem [728] (rfl)
set_option maxRecDepth 100000 in
theorem inR_14 : ∀ w ∈ [mm_mw mdX5_drop], w ∈ lw_tbl := mm_mem [736] (rfl)
set_option maxRecDepth 100000 in
theorem inR_15 : ∀ w ∈ [mm_mw mdX5_fee], w ∈ lw_tbl := mm_mem [740] (rfl)
set_option maxRecDepth 100000 in
theorem inR_16 : ∀ w ∈ [mm_mw mdX5_jumpOf], w ∈ lw_tbl := mm_mem [749] (rfl)
set_option maxRecDepth 100000 in
theorem inR_17 : ∀ w ∈ [mm_mw mdX5_jump], w ∈ lw_tbl := mm_mem [745] (rfl)
set_option maxRecDepth 100000 in
theorem inR_18 : ∀ w ∈ [mm_mw mdX5_firstFrom], w ∈ lw_tbl := mm_mem [761] (rfl)
set_option maxRecDepth 100000 in
theorem inR_19 : ∀ w ∈ [mm_mw mdX5_lastEnd], w ∈ lw_tbl := mm_mem [757] (rfl)
set_option maxRecDepth 100000 in
theorem inR_20 : ∀ w ∈ [mm_mw mdX5_nextFrom], w ∈ lw_tbl := mm_mem [773] (rfl)
set_option maxRecDepth 100000 in
theorem inR_21 : ∀ w ∈ [mm_mw mdX5_toldTo], w ∈ lw_tbl := mm_mem [769] (rfl)
set_option maxRecDepth 100000 in
theorem inR_22 : ∀ w ∈ [mm_mw mdX5_gaps], w ∈ lw_tbl := mm_mem [765] (rfl)
set_option maxRecDepth 100000 in
theorem inR_23 : ∀ w ∈ [mm_mw mdX5_span], w ∈ lw_tbl := mm_mem [753] (rfl)
set_option maxRecDepth 100000 in
theorem inR_24 : ∀ w ∈ [mm_mw mdX5_add], w ∈ lw_tbl := mm_mem [777] (rfl)
set_option maxRecDepth 100000 in
theorem inR_25 : ∀ w ∈ [mm_mw mdX5_cut], w ∈ lw_tbl := mm_mem [781] (rfl)
set_option maxRecDepth 100000 in
theorem inR_26 : ∀ w ∈ [mm_mw mdX5_sideBy], w ∈ lw_tbl := mm_mem [809] (rfl)
set_option maxRecDepth 100000 in
theorem inR_27 : ∀ w ∈ [mm_mw mdX5_isOnSide], w ∈ lw_tbl := mm_mem [805] (rfl)
set_option maxRecDepth 100000 in
theorem inR_28 : ∀ w ∈ [mm_mw mdX5_reasonOfScene], w ∈ lw_tbl := mm_mem [801] (rfl)
set_option maxRecDepth 100000 in
theorem inR_29 : ∀ w ∈ [mm_mw mdX5_reasonOf], w ∈ lw_tbl := mm_mem [797] (rfl)
set_option maxRecDepth 100000 in
theorem inR_30 : ∀ w ∈ [mm_mw mdX5_tells], w ∈ lw_tbl := mm_mem [821] (rfl)
set_option maxRecDepth 100000 in
theorem inR_31 : ∀ w ∈ [mm_mw mdX5_opens], w ∈ lw_tbl := mm_mem [817] (rfl)
set_option maxRecDepth 100000 in
theorem inR_32 : ∀ w ∈ [mm_mw mdX5_goesOn], w ∈ lw_tbl := mm_mem [813] (rfl)
set_option maxRecDepth 100000 in
theorem inR_33 : ∀ w ∈ [mm_mw mdX5_looks], w ∈ lw_tbl := mm_mem [793] (rfl)
set_option maxRecDepth 100000 in
theorem inR_34 : ∀ w ∈ [mm_mw mdX5_looksNow], w ∈ lw_tbl := mm_mem [789] (rfl)
set_option maxRecDepth 100000 in
theorem inR_35 : ∀ w ∈ [mm_mw mdX5_judge], w ∈ lw_tbl := mm_mem [785] (rfl)
set_option maxRecDepth 100000 in
theorem inR_36 : ∀ w ∈ [mm_mw mdX5_jumpsOf], w ∈ lw_tbl := mm_mem [828] (rfl)
set_option maxRecDepth 100000 in
theorem inR_37 : ∀ w ∈ [mm_mw mdX5_jumps], w ∈ lw_tbl := mm_mem [825] (rfl)
set_option maxRecDepth 100000 in
theorem inR_38 : ∀ w ∈ [mm_mw mdX5_told], w ∈ lw_tbl := mm_mem [832] (rfl)
set_option maxRecDepth 100000 in
theorem inR_39 : ∀ w ∈ [mm_mw mdX5_mayCome], w ∈ lw_tbl := mm_mem [849] (rfl)
set_option maxRecDepth 100000 in
theorem inR_40 : ∀ w ∈ [mm_mw mdX5_byNext], w ∈ lw_tbl := mm_mem [853] (rfl)
set_option maxRecDepth 100000 in
theorem inR_41 : ∀ w ∈ [mm_mw mdX5_findRest], w ∈ lw_tbl := mm_mem [844] (rfl)
set_option maxRecDepth 100000 in
theorem inR_42 : ∀ w ∈ [mm_mw mdX5_findOrder], w ∈ lw_tbl := mm_mem [840] (rfl)
set_option maxRecDepth 100000 in
theorem inR_43 : ∀ w ∈ [mm_mw mdX5_order], w ∈ lw_tbl := mm_mem [836] (rfl)
set_option maxRecDepth 100000 in
theorem inR_44 : ∀ w ∈ [mm_mw mdX5_findRow], w ∈ lw_tbl := mm_mem [861] (rfl)
set_option maxRecDepth 100000 in
theorem inR_45 : ∀ w ∈ [mm_mw mdX5_puts], w ∈ lw_tbl := mm_mem [873] (rfl)
set_option maxRecDepth 100000 in
theorem inR_46 : ∀ w ∈ [mm_mw mdX5_makes], w ∈ lw_tbl := mm_mem [869] (rfl)
set_option maxRecDepth 100000 in
theorem inR_47 : ∀ w ∈ [mm_mw mdX5_depthAt], w ∈ lw_tbl := mm_mem [885] (rfl)
set_option maxRecDepth 100000 in
theorem inR_48 : ∀ w ∈ [mm_mw mdX5_goesNext], w ∈ lw_tbl := mm_mem [881] (rfl)
set_option maxRecDepth 100000 in
theorem inR_49 : ∀ w ∈ [mm_mw mdX5_keeps], w ∈ lw_tbl := mm_mem [877] (rfl)
set_option maxRecDepth 100000 in
theorem inR_50 : ∀ w ∈ [mm_mw mdX5_findFramed], w ∈ lw_tbl := mm_mem [865] (rfl)
set_option maxRecDepth 100000 in
theorem inR_51 : ∀ w ∈ [mm_mw mdX5_framed], w ∈ lw_tbl := mm_mem [857] (rfl)
set_option maxRecDepth 100000 in
theorem inR_52 : ∀ w ∈ [mm_mw mdX5_changes], w ∈ lw_tbl := mm_mem [893] (rfl)
set_option maxRecDepth 100000 in
theorem inR_53 : ∀ w ∈ [mm_mw mdX5_untangled], w ∈ lw_tbl := mm_mem [889] (rfl)
set_option maxRecDepth 100000 in
theorem inR_54 : ∀ w ∈ [mm_mw mdX5_manyOpen], w ∈ lw_tbl := mm_mem [901] (rfl)
set_option maxRecDepth 100000 in
theorem inR_55 : ∀ w ∈ [mm_mw mdX5_many], w ∈ lw_tbl := mm_mem [897] (rfl)
set_option maxRecDepth 100000 in
theorem inR_56 : ∀ w ∈ [mm_fw TR (5, 73, 0, 0)], w ∈ lw_tbl := mm_mem [574] (rfl)
set_option maxRecDepth 100000 in
theorem inR_57 : ∀ w ∈ [mm_fw TR (5, 7, 0, 1)], w ∈ lw_tbl := mm_mem [575] (rfl)
set_option maxRecDepth 100000 in
theorem inR_58 : ∀ w ∈ [mm_fw TR (5, 13, 0, 2)], w ∈ lw_tbl := mm_mem [576] (rfl)
set_option maxRecDepth 100000 in
theorem inR_59 : ∀ w ∈ [mm_fw TR (5, 16, 0, 3)], w ∈ lw_tbl := mm_mem [577] (rfl)
set_option maxRecDepth 100000 in
theorem inR_60 : ∀ w ∈ [mm_fw TR (5, 19, 0, 4)], w ∈ lw_tbl := mm_mem [578] (rfl)
set_option maxRecDepth 100000 in
theorem inR_61 : ∀ w ∈ [mm_fw TR (5, 22, 0, 5)], w ∈ lw_tbl := mm_mem [579] (rfl)
set_option maxRecDepth 100000 in
theorem inR_62 : ∀ w ∈ [mm_fw TR (5, 127, 0, 6)], w ∈ lw_tbl := mm_mem [580] (rfl)
set_option maxRecDepth 100000 in
theorem inR_63 : ∀ w ∈ [mm_fw TR (5, 26, 0, 7)], w ∈ lw_tbl := mm_mem [581] (rfl)
set_option maxRecDepth 100000 in
theorem inR_64 : ∀ w ∈ [mm_fw TR (5, 130, 0, 9)], w ∈ lw_tbl := mm_mem [583] (rfl)
set_option maxRecDepth 100000 in
theorem inR_65 : ∀ w ∈ [mm_fw TR (5, 32, 0, 11)], w ∈ lw_tbl := mm_mem [585] (rfl)
set_option maxRecDepth 100000 in
theorem inR_66 : ∀ w ∈ [mm_fw TR (5, 29, 0, 10)], w ∈ lw_tbl := mm_mem [584] (rfl)
set_option maxRecDepth 100000 in
theorem inR_67 : ∀ w ∈ [mm_fw TR (5, 35, 0, 12)], w ∈ lw_tbl := mm_mem [586] (rfl)
set_option maxRecDepth 100000 in
theorem inR_68 : ∀ w ∈ [mm_fw TR (5, 136, 0, 18)], w ∈ lw_tbl := mm_mem [592] (rfl)
set_option maxRecDepth 100000 in
theorem inR_69 : ∀ w ∈ [mm_fw TR (5, 139, 0, 19)], w ∈ lw_tbl := mm_mem [593] (rfl)
set_option maxRecDepth 100000 in
theorem inR_70 : ∀ w ∈ [mm_fw TR (5, 149, 0, 20)], w ∈ lw_tbl := mm_mem [594] (rfl)
set_option maxRecDepth 100000 in
theorem inR_71 : ∀ w ∈ [mm_fw TR (5, 38, 0, 21)], w ∈ lw_tbl := mm_mem [595] (rfl)
set_option maxRecDepth 100000 in
theorem inR_72 : ∀ w ∈ [mm_fw TR (5, 153, 0, 17)], w ∈ lw_tbl := mm_mem [591] (rfl)
set_option maxRecDepth 100000 in
theorem inR_73 : ∀ w ∈ [mm_fw TR (5, 41, 0, 22)], w ∈ lw_tbl := mm_mem [596] (rfl)
set_option maxRecDepth 100000 in
theorem inR_74 : ∀ w ∈ [mm_fw TR (5, 44, 0, 23)], w ∈ lw_tbl := mm_mem [597] (rfl)
set_option maxRecDepth 100000 in
theorem inR_75 : ∀ w ∈ [mm_fw TR (5, 47, 0, 24)], w ∈ lw_tbl := mm_mem [598] (rfl)
set_option maxRecDepth 100000 in
theorem inR_76 : ∀ w ∈ [mm_fw TR (5, 156, 0, 15)], w ∈ lw_tbl := mm_mem [589] (rfl)
set_option maxRecDepth 100000 in
theorem inR_77 : ∀ w ∈ [mm_fw TR (5, 159, 0, 16)], w ∈ lw_tbl := mm_mem [590] (rfl)
set_option maxRecDepth 100000 in
theorem inR_78 : ∀ w ∈ [mm_fw TR (5, 169, 0, 13)], w ∈ lw_tbl := mm_mem [587] (rfl)
set_option maxRecDepth 100000 in
theorem inR_79 : ∀ w ∈ [mm_fw TR (5, 172, 0, 14)], w ∈ lw_tbl := mm_mem [588] (rfl)
set_option maxRecDepth 100000 in
theorem inR_80 : ∀ w ∈ [mm_fw TR (5, 181, 0, 8)], w ∈ lw_tbl := mm_mem [582] (rfl)
set_option maxRecDepth 100000 in
theorem inR_81 : ∀ w ∈ [mm_fw TR (5, 50, 0, 25)], w ∈ lw_tbl := mm_mem [599] (rfl)
set_option maxRecDepth 100000 in
theorem inR_82 : ∀ w ∈ [mm_fw TR (5, 54, 0, 26)], w ∈ lw_tbl := mm_mem [600] (rfl)
set_option maxRecDepth 100000 in
theorem inR_83 : ∀ w ∈ [mm_fw TR (5, 210, 0, 27)], w ∈ lw_tbl := mm_mem [601] (rfl)
set_option maxRecDepth 100000 in
theorem inR_84 : ∀ w ∈ [mm_fw TR (5, 57, 0, 28)], w ∈ lw_tbl := mm_mem [602] (rfl)
set_option maxRecDepth 100000 in
theorem inR_85 : ∀ w ∈ [mm_fw TR (5, 63, 0, 30)], w ∈ lw_tbl := mm_mem [604] (rfl)
set_option maxRecDepth 100000 in
theorem inR_86 : ∀ w ∈ [mm_fw TR (5, 213, 0, 31)], w ∈ lw_tbl := mm_mem [605] (rfl)
set_option maxRecDepth 100000 in
theorem inR_87 : ∀ w ∈ [mm_fw TR (5, 60, 0, 29)], w ∈ lw_tbl := mm_mem [603] (rfl)
set_option maxRecDepth 100000 in
theorem inR_88 : ∀ w ∈ [mm_fw TR (5, 222, 0, 33)], w ∈ lw_tbl := mm_mem [607] (rfl)
set_option maxRecDepth 100000 in
theorem inR_89 : ∀ w ∈ [mm_fw TR (5, 66, 0, 32)], w ∈ lw_tbl := mm_mem [606] (rfl)
set_option maxRecDepth 100000 in
theorem inR_90 : ∀ w ∈ mm_cw TR (5, 76, 1, 0, 0), w ∈ lw_tbl := mm_mem [681, 682, 61] (rfl)
set_option maxRecDepth 100000 in
theorem inR_91 : ∀ w ∈ mm_cw TR (5, 80, 1, 1, 0), w ∈ lw_tbl := mm_mem [684, 685, 61] (rfl)
set_option maxRecDepth 100000 in
theorem inR_92 : ∀ w ∈ mm_cw TR (5, 84, 0, 2, 0), w ∈ lw_tbl := mm_mem [693, 695, 23, 61] (rfl)
set_option maxRecDepth 100000 in
theorem inR_93 : ∀ w ∈ mm_cw TR (5, 90, 0, 4, 0), w ∈ lw_tbl := mm_mem [698, 700, 24, 61] (rfl)
set_option maxRecDepth 100000 in
theorem inR_94 : ∀ w ∈ mm_cw TR (5, 94, 0, 7, 0), w ∈ lw_tbl := mm_mem [706, 708, 25, 61] (rfl)
set_option maxRecDepth 100000 in
theorem inR_95 : ∀ w ∈ mm_cw TR (5, 98, 1, 3, 0), w ∈ lw_tbl := mm_mem [722, 723, 61] (rfl)
set_option maxRecDepth 100000 in
theorem inR_96 : ∀ w ∈ mm_cw TR (5, 101, 0, 12, 0), w ∈ lw_tbl := mm_mem [729, 731, 26, 61] (rfl)
set_option maxRecDepth 100000 in
theorem inR_97 : ∀ w ∈ mm_cw TR (5, 106, 0, 16, 0), w ∈ lw_tbl := mm_mem [746, 748, 27, 61] (rfl)
set_option maxRecDepth 100000 in
theorem inR_98 : ∀ w ∈ mm_cw TR (5, 110, 0, 19, 0), w ∈ lw_tbl := mm_mem [754, 756, 28, 61] (rfl)
set_option maxRecDepth 100000 in
theorem inR_99 : ∀ w ∈ mm_cw TR (5, 114, 0, 18, 0), w ∈ lw_tbl := mm_mem [758, 760, 29, 61] (rfl)
set_option maxRecDepth 100000 in
theorem inR_100 : ∀ w ∈ mm_cw TR (5, 117, 0, 21, 0), w ∈ lw_tbl := mm_mem [766, 768, 31, 61] (rfl)
set_option maxRecDepth 100000 in
theorem inR_101 : ∀ w ∈ mm_cw TR (5, 121, 0, 20, 0), w ∈ lw_tbl := mm_mem [770, 772, 32, 61] (rfl)
set_option maxRecDepth 100000 in
theorem inR_102 : ∀ w ∈ mm_cw TR (5, 124, 0, 22, 0), w ∈ lw_tbl := mm_mem [762, 764, 30, 61] (rfl)
set_option maxRecDepth 100000 in
theorem inR_103 : ∀ w ∈ mm_cw TR (5, 133, 0, 26, 0), w ∈ lw_tbl := mm_mem [806, 808, 38, 61] (rfl)
set_option maxRecDepth 100000 in
theorem inR_104 : ∀ w ∈ mm_cw TR (5, 142, 0, 27, 0), w ∈ lw_tbl := mm_mem [802, 804, 37, 61] (rfl)
set_option maxRecDepth 100000 in
theorem inR_105 : ∀ w ∈ mm_cw TR (5, 145, 0, 28, 0), w ∈ lw_tbl := mm_mem [798, 800, 36, 61] (rfl)
set_option maxRecDepth 100000 in
theorem inR_106 : ∀ w ∈ mm_cw TR (5, 162, 0, 31, 0), w ∈ lw_tbl := mm_mem [814, 816, 40, 61] (rfl)
set_option maxRecDepth 100000 in
theorem inR_107 : ∀ w ∈ mm_cw TR (5, 165, 0, 30, 0), w ∈ lw_tbl := mm_mem [818, 820, 41, 61] (rfl)
set_option maxRecDepth 100000 in
theorem inR_108 : ∀ w ∈ mm_cw TR (5, 175, 0, 29, 0), w ∈ lw_tbl := mm_mem [794, 796, 35, 61] (rfl)
set_option maxRecDepth 100000 in
theorem inR_109 : ∀ w ∈ mm_cw TR (5, 178, 0, 32, 0), w ∈ lw_tbl := mm_mem [810, 812, 39, 61] (rfl)
set_option maxRecDepth 100000 in
theorem inR_110 : ∀ w ∈ mm_cw TR (5, 184, 0, 33, 0), w ∈ lw_tbl := mm_mem [790, 792, 34, 61] (rfl)
set_option maxRecDepth 100000 in
theorem inR_111 : ∀ w ∈ mm_cw TR (5, 188, 0, 34, 0), w ∈ lw_tbl := mm_mem [786, 788, 33, 61] (rfl)
set_option maxRecDepth 100000 in
theorem inR_112 : ∀ w ∈ mm_cw TR (5, 191, 1, 36, 0), w ∈ lw_tbl := mm_mem [826, 827, 61] (rfl)
set_option maxRecDepth 100000 in
theorem inR_113 : ∀ w ∈ mm_cw TR (5, 197, 0, 39, 0), w ∈ lw_tbl := mm_mem [846, 848, 44, 61] (rfl)
set_option maxRecDepth 100000 in
theorem inR_114 : ∀ w ∈ mm_cw TR (5, 200, 0, 40, 0), w ∈ lw_tbl := mm_mem [850, 852, 45, 61] (rfl)
set_option maxRecDepth 100000 in
theorem inR_115 : ∀ w ∈ mm_cw TR (5, 204, 0, 41, 0), w ∈ lw_tbl := mm_mem [841, 843, 43, 61] (rfl)
set_option maxRecDepth 100000 in
theorem inR_116 : ∀ w ∈ mm_cw TR (5, 207, 0, 42, 0), w ∈ lw_tbl := mm_mem [837, 839, 42, 61] (rfl)
set_option maxRecDepth 100000 in
theorem inR_117 : ∀ w ∈ mm_cw TR (5, 216, 0, 45, 0), w ∈ lw_tbl := mm_mem [870, 872, 49, 61] (rfl)
set_option maxRecDepth 100000 in
theorem inR_118 : ∀ w ∈ mm_cw TR (5, 219, 0, 47, 0), w ∈ lw_tbl := mm_mem [882, 884, 52, 61] (rfl)
set_option maxRecDepth 100000 in
theorem inR_119 : ∀ w ∈ mm_cw TR (5, 225, 0, 46, 0), w ∈ lw_tbl := mm_mem [866, 868, 48, 61] (rfl)
set_option maxRecDepth 100000 in
theorem inR_120 : ∀ w ∈ mm_cw TR (5, 228, 0, 49, 0), w ∈ lw_tbl := mm_mem [874, 876, 50, 61] (rfl)
set_option maxRecDepth 100000 in
theorem inR_121 : ∀ w ∈ mm_cw TR (5, 231, 0, 48, 0), w ∈ lw_tbl := mm_mem [878, 880, 51, 61] (rfl)
set_option maxRecDepth 100000 in
theorem inR_122 : ∀ w ∈ mm_cw TR (5, 235, 0, 44, 0), w ∈ lw_tbl := mm_mem [858, 860, 46, 61] (rfl)
set_option maxRecDepth 100000 in
theorem inR_123 : ∀ w ∈ mm_cw TR (5, 238, 0, 50, 0), w ∈ lw_tbl := mm_mem [862, 864, 47, 61] (rfl)
set_option maxRecDepth 100000 in
theorem inR_124 : ∀ w ∈ mm_cw TR (5, 241, 0, 52, 0), w ∈ lw_tbl := mm_mem [890, 892, 53, 61] (rfl)
set_option maxRecDepth 100000 in
theorem inR_125 : ∀ w ∈ mm_cw TR (5, 244, 0, 54, 0), w ∈ lw_tbl := mm_mem [898, 900, 54, 61] (rfl)
set_option maxRecDepth 100000 in
theorem inR_126 : ∀ w ∈ [Cond.constantLong (mm_cn TR 5) 69 (Int64.ofInt (2147483647))], w ∈ lw_tbl := mm_mem [687] (by decide +kernel)
set_option maxRecDepth 100000 in
theorem inR_127 : ∀ w ∈ [Cond.constantLong (mm_cn TR 5) 71 (Int64.ofInt (-2147483648))], w ∈ lw_tbl := mm_mem [688] (by decide +kernel)
set_option maxRecDepth 100000 in
theorem inR_128 : ∀ w ∈ [Cond.constantLong (mm_cn TR 5) 88 (Int64.ofInt (-9223372036854775808))], w ∈ lw_tbl := mm_mem [697] (by decide +kernel)
set_option maxRecDepth 100000 in
theorem inR_129 : ∀ w ∈ [Cond.constantLong (mm_cn TR 5) 195 (Int64.ofInt (1000000000000))], w ∈ lw_tbl := mm_mem [845] (by decide +kernel)
set_option maxRecDepth 100000 in
theorem inR_130 : ∀ w ∈ [Cond.constant (mm_cn TR 5) 105 (Int32.ofInt (1000000))], w ∈ lw_tbl := mm_mem [741] (by decide +kernel)
set_option maxRecDepth 100000 in
theorem inR_131 : ∀ w ∈ u_ws RX0 TX0 5, w ∈ lw_tbl := mm_mem [93, 95, 97, 99, 101] (by decide +kernel)
set_option maxRecDepth 100000 in
theorem inR_132 : ∀ w ∈ u_ws RX1 TX1 11, w ∈ lw_tbl := mm_mem [216, 218, 220, 222, 224, 226, 228, 230, 232, 234, 236] (by decide +kernel)
set_option maxRecDepth 100000 in
theorem inR_133 : ∀ w ∈ u_ws RX2 TX2 5, w ∈ lw_tbl := mm_mem [183, 185, 187, 189, 191] (by decide +kernel)
set_option maxRecDepth 100000 in
theorem inR_134 : ∀ w ∈ u_ws RX3 TX3 15, w ∈ lw_tbl := mm_mem [137, 139, 141, 143, 145, 147, 149, 151, 153, 155, 157, 159, 161, 163, 165] (by decide +kernel)
set_option maxRecDepth 100000 in
theorem inR_135 : ∀ w ∈ u_ws RX4 TX4 9, w ∈ lw_tbl := mm_mem [248, 250, 252, 254, 256, 258, 260, 262, 264] (by decide +kernel)
set_option maxRecDepth 100000 in
theorem inR_136 : ∀ w ∈ u_ws RX5 TX5 34, w ∈ lw_tbl := mm_mem [608, 610, 612, 614, 616, 618, 620, 622, 624, 626, 628, 630, 632, 634, 636, 638, 640, 642, 644, 646, 648, 650, 652, 654, 656, 658, 660, 662, 664, 666, 668, 670, 672, 674] (by decide +kernel)
set_option maxRecDepth 100000 in
theorem inR_m : ∀ q ∈ mm_ms TR, mm_mw q ∈ lw_tbl := List.forall_mem_cons.mpr ⟨inR_0 _ List.mem_cons_self, List.forall_mem_cons.mpr ⟨inR_1 _ List.mem_cons_self, List.forall_mem_cons.mpr ⟨inR_2 _ List.mem_cons_self, List.forall_mem_cons.mpr ⟨inR_3 _ List.mem_cons_self, List.forall_mem_cons.mpr ⟨inR_4 _ List.mem_cons_self, List.forall_mem_cons.mpr ⟨inR_5 _ List.mem_cons_self, List.forall_mem_cons.mpr ⟨inR_6 _ List.mem_cons_self, List.forall_mem_cons.mpr ⟨inR_7 _ List.mem_cons_self, List.forall_mem_cons.mpr ⟨inR_8 _ List.mem_cons_self, List.forall_mem_cons.mpr ⟨inR_9 _ List.mem_cons_self, List.forall_mem_cons.mpr ⟨inR_10 _ List.mem_cons_self, List.forall_mem_cons.mpr ⟨inR_11 _ List.mem_cons_self, List.forall_mem_cons.mpr ⟨inR_12 _ List.mem_cons_self, List.forall_mem_cons.mpr ⟨inR_13 _ List.mem_cons_self, List.forall_mem_cons.mpr ⟨inR_14 _ List.mem_cons_self, List.forall_mem_cons.mpr ⟨inR_15 _ List.mem_cons_self, List.forall_mem_cons.mpr ⟨inR_16 _ List.mem_cons_self, List.forall_mem_cons.mpr ⟨inR_17 _ List.mem_cons_self, List.forall_mem_cons.mpr ⟨inR_18 _ List.mem_cons_self, List.forall_mem_cons.mpr ⟨inR_19 _ List.mem_cons_self, List.forall_mem_cons.mpr ⟨inR_20 _ List.mem_cons_self, List.forall_mem_cons.mpr ⟨inR_21 _ List.mem_cons_self, List.forall_mem_cons.mpr ⟨inR_22 _ List.mem_cons_self, List.forall_mem_cons.mpr ⟨inR_23 _ List.mem_cons_self, List.forall_mem_cons.mpr ⟨inR_24 _ List.mem_cons_self, List.forall_mem_cons.mpr ⟨inR_25 _ List.mem_cons_self, List.forall_mem_cons.mpr ⟨inR_26 _ List.mem_cons_self, List.forall_mem_cons.mpr ⟨inR_27 _ List.mem_cons_self, List.forall_mem_cons.mpr ⟨inR_28 _ List.mem_cons_self, List.forall_mem_cons.mpr ⟨inR_29 _ List.mem_cons_self, List.forall_mem_cons.mpr ⟨inR_30 _ List.mem_cons_self, List.forall_mem_cons.mpr ⟨inR_31 _ List.mem_cons_self, List.forall_mem_cons.mpr ⟨inR_32 _ List.mem_cons_self, List.forall_mem_cons.mpr ⟨inR_33 _ List.mem_cons_self, List.forall_mem_cons.mpr ⟨inR_34 _ List.mem_cons_self, List.forall_mem_cons.mpr ⟨inR_35 _ List.mem_cons_self, List.forall_mem_cons.mpr ⟨inR_36 _ List.mem_cons_self, List.forall_mem_cons.mpr ⟨inR_37 _ List.mem_cons_self, List.forall_mem_cons.mpr ⟨inR_38 _ List.mem_cons_self, List.forall_mem_cons.mpr ⟨inR_39 _ List.mem_cons_self, List.forall_mem_cons.mpr ⟨inR_40 _ List.mem_cons_self, List.forall_mem_cons.mpr ⟨inR_41 _ List.mem_cons_self, List.forall_mem_cons.mpr ⟨inR_42 _ List.mem_cons_self, List.forall_mem_cons.mpr ⟨inR_43 _ List.mem_cons_self, List.forall_mem_cons.mpr ⟨inR_44 _ List.mem_cons_self, List.forall_mem_cons.mpr ⟨inR_45 _ List.mem_cons_self, List.forall_mem_cons.mpr ⟨inR_46 _ List.mem_cons_self, List.forall_mem_cons.mpr ⟨inR_47 _ List.mem_cons_self, List.forall_mem_cons.mpr ⟨inR_48 _ List.mem_cons_self, List.forall_mem_cons.mpr ⟨inR_49 _ List.mem_cons_self, List.forall_mem_cons.mpr ⟨inR_50 _ List.mem_cons_self, List.forall_mem_cons.mpr ⟨inR_51 _ List.mem_cons_self, List.forall_mem_cons.mpr ⟨inR_52 _ List.mem_cons_self, List.forall_mem_cons.mpr ⟨inR_53 _ List.mem_cons_self, List.forall_mem_cons.mpr ⟨inR_54 _ List.mem_cons_self, List.forall_mem_cons.mpr ⟨inR_55 _ List.mem_cons_self, fun _ h => absurd h List.not_mem_nil⟩⟩⟩⟩⟩⟩⟩⟩⟩⟩⟩⟩⟩⟩⟩⟩⟩⟩⟩⟩⟩⟩⟩⟩⟩⟩⟩⟩⟩⟩⟩⟩⟩⟩⟩⟩⟩⟩⟩⟩⟩⟩⟩⟩⟩⟩⟩⟩⟩⟩⟩⟩⟩⟩⟩⟩
set_option maxRecDepth 100000 in
theorem inR_f : ∀ q ∈ mm_FT TR, mm_fw TR q ∈ lw_tbl := List.forall_mem_cons.mpr ⟨inR_56 _ List.mem_cons_self, List.forall_mem_cons.mpr ⟨inR_57 _ List.mem_cons_self, List.forall_mem_cons.mpr ⟨inR_58 _ List.mem_cons_self, List.forall_mem_cons.mpr ⟨inR_59 _ List.mem_cons_self, List.forall_mem_cons.mpr ⟨inR_60 _ List.mem_cons_self, List.forall_mem_cons.mpr ⟨inR_61 _ List.mem_cons_self, List.forall_mem_cons.mpr ⟨inR_62 _ List.mem_cons_self, List.forall_mem_cons.mpr ⟨inR_63 _ List.mem_cons_self, List.forall_mem_cons.mpr ⟨inR_64 _ List.mem_cons_self, List.forall_mem_cons.mpr ⟨inR_65 _ List.mem_cons_self, List.forall_mem_cons.mpr ⟨inR_66 _ List.mem_cons_self, List.forall_mem_cons.mpr ⟨inR_67 _ List.mem_cons_self, List.forall_mem_cons.mpr ⟨inR_68 _ List.mem_cons_self, List.forall_mem_cons.mpr ⟨inR_69 _ List.mem_cons_self, List.forall_mem_cons.mpr ⟨inR_70 _ List.mem_cons_self, List.forall_mem_cons.mpr ⟨inR_71 _ List.mem_cons_self, List.forall_mem_cons.mpr ⟨inR_72 _ List.mem_cons_self, List.forall_mem_cons.mpr ⟨inR_73 _ List.mem_cons_self, List.forall_mem_cons.mpr ⟨inR_74 _ List.mem_cons_self, List.forall_mem_cons.mpr ⟨inR_75 _ List.mem_cons_self, List.forall_mem_cons.mpr ⟨inR_76 _ List.mem_cons_self, List.forall_mem_cons.mpr ⟨inR_77 _ List.mem_cons_self, List.forall_mem_cons.mpr ⟨inR_78 _ List.mem_cons_self, List.forall_mem_cons.mpr ⟨inR_79 _ List.mem_cons_self, List.forall_mem_cons.mpr ⟨inR_80 _ List.mem_cons_self, List.forall_mem_cons.mpr ⟨inR_81 _ List.mem_cons_self, List.forall_mem_cons.mpr ⟨inR_82 _ List.mem_cons_self, List.forall_mem_cons.mpr ⟨inR_83 _ List.mem_cons_self, List.forall_mem_cons.mpr ⟨inR_84 _ List.mem_cons_self, List.forall_mem_cons.mpr ⟨inR_85 _ List.mem_cons_self, List.forall_mem_cons.mpr ⟨inR_86 _ List.mem_cons_self, List.forall_mem_cons.mpr ⟨inR_87 _ List.mem_cons_self, List.forall_mem_cons.mpr ⟨inR_88 _ List.mem_cons_self, List.forall_mem_cons.mpr ⟨inR_89 _ List.mem_cons_self, fun _ h => absurd h List.not_mem_nil⟩⟩⟩⟩⟩⟩⟩⟩⟩⟩⟩⟩⟩⟩⟩⟩⟩⟩⟩⟩⟩⟩⟩⟩⟩⟩⟩⟩⟩⟩⟩⟩⟩⟩
set_option maxRecDepth 100000 in
theorem inR_c : ∀ q ∈ mm_CT TR, ∀ w ∈ mm_cw TR q, w ∈ lw_tbl := List.forall_mem_cons.mpr ⟨inR_90, List.forall_mem_cons.mpr ⟨inR_91, List.forall_mem_cons.mpr ⟨inR_92, List.forall_mem_cons.mpr ⟨inR_93, List.forall_mem_cons.mpr ⟨inR_94, List.forall_mem_cons.mpr ⟨inR_95, List.forall_mem_cons.mpr ⟨inR_96, List.forall_mem_cons.mpr ⟨inR_97, List.forall_mem_cons.mpr ⟨inR_98, List.forall_mem_cons.mpr ⟨inR_99, List.forall_mem_cons.mpr ⟨inR_100, List.forall_mem_cons.mpr ⟨inR_101, List.forall_mem_cons.mpr ⟨inR_102, List.forall_mem_cons.mpr ⟨inR_103, List.forall_mem_cons.mpr ⟨inR_104, List.forall_mem_cons.mpr ⟨inR_105, List.forall_mem_cons.mpr ⟨inR_106, List.forall_mem_cons.mpr ⟨inR_107, List.forall_mem_cons.mpr ⟨inR_108, List.forall_mem_cons.mpr ⟨inR_109, List.forall_mem_cons.mpr ⟨inR_110, List.forall_mem_cons.mpr ⟨inR_111, List.forall_mem_cons.mpr ⟨inR_112, List.forall_mem_cons.mpr ⟨inR_113, List.forall_mem_cons.mpr ⟨inR_114, List.forall_mem_cons.mpr ⟨inR_115, List.forall_mem_cons.mpr ⟨inR_116, List.forall_mem_cons.mpr ⟨inR_117, List.forall_mem_cons.mpr ⟨inR_118, List.forall_mem_cons.mpr ⟨inR_119, List.forall_mem_cons.mpr ⟨inR_120, List.forall_mem_cons.mpr ⟨inR_121, List.forall_mem_cons.mpr ⟨inR_122, List.forall_mem_cons.mpr ⟨inR_123, List.forall_mem_cons.mpr ⟨inR_124, List.forall_mem_cons.mpr ⟨inR_125, fun _ h => absurd h List.not_mem_nil⟩⟩⟩⟩⟩⟩⟩⟩⟩⟩⟩⟩⟩⟩⟩⟩⟩⟩⟩⟩⟩⟩⟩⟩⟩⟩⟩⟩⟩⟩⟩⟩⟩⟩⟩⟩
set_option maxRecDepth 100000 in
theorem inR_l : ∀ q ∈ mm_LT TR, Cond.constantLong (mm_cn TR q.1) q.2.1 (Int64.ofInt q.2.2) ∈ lw_tbl := List.forall_mem_cons.mpr ⟨inR_126 _ List.mem_cons_self, List.forall_mem_cons.mpr ⟨inR_127 _ List.mem_cons_self, List.forall_mem_cons.mpr ⟨inR_128 _ List.mem_cons_self, List.forall_mem_cons.mpr ⟨inR_129 _ List.mem_cons_self, fun _ h => absurd h List.not_mem_nil⟩⟩⟩⟩
set_option maxRecDepth 100000 in
theorem inR_d : ∀ q ∈ mm_DT TR, Cond.constant (mm_cn TR q.1) q.2.1 (Int32.ofInt q.2.2) ∈ lw_tbl := List.forall_mem_cons.mpr ⟨inR_130 _ List.mem_cons_self, fun _ h => absurd h List.not_mem_nil⟩
set_option maxRecDepth 100000 in
theorem inR_j : ∀ q ∈ mm_JT TR, ∀ w ∈ mm_jw TR q, w ∈ lw_tbl := fun _ h => absurd h List.not_mem_nil
set_option maxRecDepth 100000 in
theorem inR_u : ∀ q ∈ mm_cl TR, ∀ w ∈ u_ws q.1 q.2.1 q.2.2, w ∈ lw_tbl := List.forall_mem_cons.mpr ⟨inR_131, List.forall_mem_cons.mpr ⟨inR_132, List.forall_mem_cons.mpr ⟨inR_133, List.forall_mem_cons.mpr ⟨inR_134, List.forall_mem_cons.mpr ⟨inR_135, List.forall_mem_cons.mpr ⟨inR_136, fun _ h => absurd h List.not_mem_nil⟩⟩⟩⟩⟩⟩
theorem inR : GoodIn lw_tbl (mm_tb TR) := mm_tb_in inR_m inR_f inR_c inR_l inR_d inR_j inR_u goodR
end
section
/-! ===== rows to rewrite by ===== -/
section RW
variable (sh : mm_S) (call : mm_C) (tb : List mm_E) (Q : mm_Q) (K : mm_K) (n : Nat) (es : List mm_E) (k i : Nat) (lo st : List Value) (I : mm_I) (L : mm_L) (e : mm_E) (b l x y u w : Nat) (ins : Instr) (z : Int) (ts : List Nat) (hd : Bool) (a : Int32) (c : Int32) (r : Nat) (al bl : Int64) (t : List Value) (vv : Value) (j : Nat) (off : Int)
theorem mr_v1 : mm_vn sh call tb Q n (e :: es) (k + 1) i lo st I L = mm_vn sh call tb Q n es k i lo st I L := rfl
theorem mr_v2 : mm_vn sh call tb Q n ((b, ins, l, true, x, y, u, w, z, ts) :: es) 0 i lo st I L = mm_W sh call tb Q i lo st I L := rfl
theorem mr_v3 : mm_vn sh call tb Q n ((b, ins, l, false, x, y, u, w, z, ts) :: es) 0 i lo st I L = mm_st sh call Q (mm_v sh call tb Q n) ins x y u w z ts i lo st I L := rfl
theorem mr_h1 : mm_hn sh call tb Q n (e :: es) (k + 1) i lo st I L = mm_hn sh call tb Q n es k i lo st I L := rfl
theorem mr_h2 : mm_hn sh call tb Q n ((b, ins, l, hd, x, y, u, w, z, ts) :: es) 0 i lo st I L = mm_st sh call Q (mm_v sh call tb Q n) ins x y u w z ts i lo st I L := rfl
theorem mr_aload : mm_st sh call Q K (.aload j) x y u w z ts i lo st I L = mm_lda lo j (fun a => K (i + 1) lo (.ref a :: st) I L) := rfl
theorem mr_aload_0 : mm_st sh call Q K (.aload_n 0) x y u w z ts i lo st I L = mm_lda lo 0 (fun a => K (i + 1) lo (.ref a :: st) I L) := rfl
theorem mr_aload_1 : mm_st sh call Q K (.aload_n 1) x y u w z ts i lo st I L = mm_lda lo 1 (fun a => K (i + 1) lo (.ref a :: st) I L) := rfl
theorem mr_aload_2 : mm_st sh call Q K (.aload_n 2) x y u w z ts i lo st I L = mm_lda lo 2 (fun a => K (i + 1) lo (.ref a :: st) I L) := rfl
theorem mr_aload_3 : mm_st sh call Q K (.aload_n 3) x y u w z ts i lo st I L = mm_lda lo 3 (fun a => K (i + 1) lo (.ref a :: st) I L) := rfl
theorem mr_iload : mm_st sh call Q K (.iload j) x y u w z ts i lo st I L = mm_ldi lo j (fun a => K (i + 1) lo (.int a :: st) I L) := rfl
theorem mr_iload_0 : mm_st sh call Q K (.iload_n 0) x y u w z ts i lo st I L = mm_ldi lo 0 (fun a => K (i + 1) lo (.int a :: st) I L) := rfl
theorem mr_iload_1 : mm_st sh call Q K (.iload_n 1) x y u w z ts i lo st I L = mm_ldi lo 1 (fun a => K (i + 1) lo (.int a :: st) I L) := rfl
theorem mr_iload_2 : mm_st sh call Q K (.iload_n 2) x y u w z ts i lo st I L = mm_ldi lo 2 (fun a => K (i + 1) lo (.int a :: st) I L) := rfl
theorem mr_iload_3 : mm_st sh call Q K (.iload_n 3) x y u w z ts i lo st I L = mm_ldi lo 3 (fun a => K (i + 1) lo (.int a :: st) I L) := rfl
theorem mr_lload : mm_st sh call Q K (.lload j) x y u w z ts i lo st I L = mm_ldl lo j (fun a => K (i + 1) lo (.long a :: st) I L) := rfl
theorem mr_lload_0 : mm_st sh call Q K (.lload_n 0) x y u w z ts i lo st I L = mm_ldl lo 0 (fun a => K (i + 1) lo (.long a :: st) I L) := rfl
theorem mr_lload_1 : mm_st sh call Q K (.lload_n 1) x y u w z ts i lo st I L = mm_ldl lo 1 (fun a => K (i + 1) lo (.long a :: st) I L) := rfl
theorem mr_lload_2 : mm_st sh call Q K (.lload_n 2) x y u w z ts i lo st I L = mm_ldl lo 2 (fun a => K (i + 1) lo (.long a :: st) I L) := rfl
theorem mr_lload_3 : mm_st sh call Q K (.lload_n 3) x y u w z ts i lo st I L = mm_ldl lo 3 (fun a => K (i + 1) lo (.long a :: st) I L) := rfl
theorem mr_lda0 (k : Nat → Prop) (a : Nat) : mm_lda (.ref a :: lo) 0 k = k a := rfl
theorem mr_lda1 (k : Nat → Prop) : mm_lda (vv :: lo) (n + 1) k = mm_lda lo n k := rfl
theorem mr_ldi0 (k : Int32 → Prop) (a : Int32) : mm_ldi (.int a :: lo) 0 k = k a := rfl
theorem mr_ldi1 (k : Int32 → Prop) : mm_ldi (vv :: lo) (n + 1) k = mm_ldi lo n k := rfl
theorem mr_ldl0 (k : Int64 → Prop) (a : Int64) : mm_ldl (.long a :: lo) 0 k = k a := rfl
theorem mr_ldl1 (k : Int64 → Prop) : mm_ldl (vv :: lo) (n + 1) k = mm_ldl lo n k := rfl
theorem mr_istore : mm_st sh call Q K (.istore j) x y u w z ts i lo (.int a :: t) I L = (j < lo.length ∧ K (i + 1) (mm_set1 lo j (.int a)) t I L) := rfl
theorem mr_istore_0 : mm_st sh call Q K (.istore_n 0) x y u w z ts i lo (.int a :: t) I L = (0 < lo.length ∧ K (i + 1) (mm_set1 lo 0 (.int a)) t I L) := rfl
theorem mr_istore_1 : mm_st sh call Q K (.istore_n 1) x y u w z ts i lo (.int a :: t) I L = (1 < lo.length ∧ K (i + 1) (mm_set1 lo 1 (.int a)) t I L) := rfl
theorem mr_istore_2 : mm_st sh call Q K (.istore_n 2) x y u w z ts i lo (.int a :: t) I L = (2 < lo.length ∧ K (i + 1) (mm_set1 lo 2 (.int a)) t I L) := rfl
theorem mr_istore_3 : mm_st sh call Q K (.istore_n 3) x y u w z ts i lo (.int a :: t) I L = (3 < lo.length ∧ K (i + 1) (mm_set1 lo 3 (.int a)) t I L) := rfl
theorem mr_astore : mm_st sh call Q K (.astore j) x y u w z ts i lo (.ref r :: t) I L = (j < lo.length ∧ K (i + 1) (mm_set1 lo j (.ref r)) t I L) := rfl
theorem mr_astore_0 : mm_st sh call Q K (.astore_n 0) x y u w z ts i lo (.ref r :: t) I L = (0 < lo.length ∧ K (i + 1) (mm_set1 lo 0 (.ref r)) t I L) := rfl
theorem mr_astore_1 : mm_st sh call Q K (.astore_n 1) x y u w z ts i lo (.ref r :: t) I L = (1 < lo.length ∧ K (i + 1) (mm_set1 lo 1 (.ref r)) t I L) := rfl
theorem mr_astore_2 : mm_st sh call Q K (.astore_n 2) x y u w z ts i lo (.ref r :: t) I L = (2 < lo.length ∧ K (i + 1) (mm_set1 lo 2 (.ref r)) t I L) := rfl
theorem mr_astore_3 : mm_st sh call Q K (.astore_n 3) x y u w z ts i lo (.ref r :: t) I L = (3 < lo.length ∧ K (i + 1) (mm_set1 lo 3 (.ref r)) t I L) := rfl
theorem mr_lstore : mm_st sh call Q K (.lstore j) x y u w z ts i lo (.long al :: t) I L = (j + 1 < lo.length ∧ K (i + 1) (mm_set2 lo j (.long al)) t I L) := rfl
theorem mr_lstore_0 : mm_st sh call Q K (.lstore_n 0) x y u w z ts i lo (.long al :: t) I L = (1 < lo.length ∧ K (i + 1) (mm_set2 lo 0 (.long al)) t I L) := rfl
theorem mr_lstore_1 : mm_st sh call Q K (.lstore_n 1) x y u w z ts i lo (.long al :: t) I L = (2 < lo.length ∧ K (i + 1) (mm_set2 lo 1 (.long al)) t I L) := rfl
theorem mr_lstore_2 : mm_st sh call Q K (.lstore_n 2) x y u w z ts i lo (.long al :: t) I L = (3 < lo.length ∧ K (i + 1) (mm_set2 lo 2 (.long al)) t I L) := rfl
theorem mr_lstore_3 : mm_st sh call Q K (.lstore_n 3) x y u w z ts i lo (.long al :: t) I L = (4 < lo.length ∧ K (i + 1) (mm_set2 lo 3 (.long al)) t I L) := rfl
theorem mr_iinc : mm_st sh call Q K (.iinc j off) x y u w z ts i lo st I L = mm_ldi lo j (fun a => K (i + 1) (mm_set1 lo j (.int (a + Int32.ofInt off))) st I L) := rfl
theorem mr_iconst : mm_st sh call Q K (.iconst off) x y u w z ts i lo st I L = K (i + 1) lo (.int (Int32.ofInt off) :: st) I L := rfl
theorem mr_bipush : mm_st sh call Q K (.bipush off) x y u w z ts i lo st I L = K (i + 1) lo (.int (Int8.ofInt off).toInt32 :: st) I L := rfl
theorem mr_sipush : mm_st sh call Q K (.sipush off) x y u w z ts i lo st I L = K (i + 1) lo (.int (Int16.ofInt off).toInt32 :: st) I L := rfl
theorem mr_lconst0 : mm_st sh call Q K (.lconst 0) x y u w z ts i lo st I L = K (i + 1) lo (.long 0 :: st) I L := rfl
theorem mr_lconst1 : mm_st sh call Q K (.lconst 1) x y u w z ts i lo st I L = K (i + 1) lo (.long 1 :: st) I L := rfl
theorem mr_ldc : mm_st sh call Q K (.ldc j) x y u w z ts i lo st I L = K (i + 1) lo (.int (Int32.ofInt z) :: st) I L := rfl
theorem mr_ldcw : mm_st sh call Q K (.ldc_w j) x y u w z ts i lo st I L = K (i + 1) lo (.int (Int32.ofInt z) :: st) I L := rfl
theorem mr_ldc2 : mm_st sh call Q K (.ldc2_w j) x y u w z ts i lo st I L = K (i + 1) lo (.long (Int64.ofInt z) :: st) I L := rfl
theorem mr_iadd : mm_st sh call Q K (.iadd) x y u w z ts i lo (.int c :: .int a :: t) I L = K (i + 1) lo (.int (a + c) :: t) I L := rfl
theorem mr_isub : mm_st sh call Q K (.isub) x y u w z ts i lo (.int c :: .int a :: t) I L = K (i + 1) lo (.int (a - c) :: t) I L := rfl
theorem mr_imul : mm_st sh call Q K (.imul) x y u w z ts i lo (.int c :: .int a :: t) I L = K (i + 1) lo (.int (a * c) :: t) I L := rfl
theorem mr_iand : mm_st sh call Q K (.iand) x y u w z ts i lo (.int c :: .int a :: t) I L = K (i + 1) lo (.int (a &&& c) :: t) I L := rfl
theorem mr_ior : mm_st sh call Q K (.ior) x y u w z ts i lo (.int c :: .int a :: t) I L = K (i + 1) lo (.int (a ||| c) :: t) I L := rfl
theorem mr_ixor : mm_st sh call Q K (.ixor) x y u w z ts i lo (.int c :: .int a :: t) I L = K (i + 1) lo (.int (a ^^^ c) :: t) I L := rfl
theorem mr_ishl : mm_st sh call Q K (.ishl) x y u w z ts i lo (.int c :: .int a :: t) I L = K (i + 1) lo (.int (a <<< (c &&& 31)) :: t) I L := rfl
theorem mr_ishr : mm_st sh call Q K (.ishr) x y u w z ts i lo (.int c :: .int a :: t) I L = K (i + 1) lo (.int (a >>> (c &&& 31)) :: t) I L := rfl
theorem mr_iushr : mm_st sh call Q K (.iushr) x y u w z ts i lo (.int c :: .int a :: t) I L = K (i + 1) lo (.int ((a.toUInt32 >>> (c.toUInt32 &&& Int32.toUInt32 31)).toInt32) :: t) I L := rfl
theorem mr_idiv : mm_st sh call Q K (.idiv) x y u w z ts i lo (.int c :: .int a :: t) I L = (¬ c = 0 ∧ K (i + 1) lo (.int (a / c) :: t) I L) := rfl
theorem mr_irem : mm_st sh call Q K (.irem) x y u w z ts i lo (.int c :: .int a :: t) I L = (¬ c = 0 ∧ K (i + 1) lo (.int (a - a / c * c) :: t) I L) := rfl
theorem mr_ladd : mm_st sh call Q K (.ladd) x y u w z ts i lo (.long bl :: .long al :: t) I L = K (i + 1) lo (.long (al + bl) :: t) I L := rfl
theorem mr_lsub : mm_st sh call Q K (.lsub) x y u w z ts i lo (.long bl :: .long al :: t) I L = K (i + 1) lo (.long (al - bl) :: t) I L := rfl
theorem mr_lmul : mm_st sh call Q K (.lmul) x y u w z ts i lo (.long bl :: .long al :: t) I L = K (i + 1) lo (.long (al * bl) :: t) I L := rfl
theorem mr_lneg : mm_st sh call Q K (.lneg) x y u w z ts i lo (.long al :: t) I L = K (i + 1) lo (.long (-al) :: t) I L := rfl
theorem mr_lcmp : mm_st sh call Q K (.lcmp) x y u w z ts i lo (.long bl :: .long al :: t) I L = K (i + 1) lo (.int (lg_cmp al bl) :: t) I L := rfl
theorem mr_i2l : mm_st sh call Q K (.i2l) x y u w z ts i lo (.int a :: t) I L = K (i + 1) lo (.long a.toInt64 :: t) I L := rfl
theorem mr_l2i : mm_st sh call Q K (.l2i) x y u w z ts i lo (.long al :: t) I L = K (i + 1) lo (.int al.toInt32 :: t) I L := rfl
theorem mr_dupi : mm_st sh call Q K (.dup) x y u w z ts i lo (.int a :: t) I L = K (i + 1) lo (.int a :: .int a :: t) I L := rfl
theorem mr_dupa : mm_st sh call Q K (.dup) x y u w z ts i lo (.ref r :: t) I L = K (i + 1) lo (.ref r :: .ref r :: t) I L := rfl
theorem mr_dup2 : mm_st sh call Q K (.dup2) x y u w z ts i lo (.int a :: .ref r :: t) I L = K (i + 1) lo (.int a :: .ref r :: .int a :: .ref r :: t) I L := rfl
theorem mr_goto : mm_st sh call Q K (.goto off) x y u w z ts i lo st I L = K x lo st I L := rfl
theorem mr_icmp_eq : mm_st sh call Q K (.if_icmp .eq off) x y u w z ts i lo (.int c :: .int a :: t) I L = ((a = c → K x lo t I L) ∧ (¬ (a = c) → K (i + 1) lo t I L)) := rfl
theorem mr_if_eq : mm_st sh call Q K (.ifCond .eq off) x y u w z ts i lo (.int a :: t) I L = ((a = 0 → K x lo t I L) ∧ (¬ (a = 0) → K (i + 1) lo t I L)) := rfl
theorem mr_icmp_ne : mm_st sh call Q K (.if_icmp .ne off) x y u w z ts i lo (.int c :: .int a :: t) I L = ((¬ a = c → K x lo t I L) ∧ (¬ (¬ a = c) → K (i + 1) lo t I L)) := rfl
theorem mr_if_ne : mm_st sh call Q K (.ifCond .ne off) x y u w z ts i lo (.int a :: t) I L = ((¬ a = 0 → K x lo t I L) ∧ (¬ (¬ a = 0) → K (i + 1) lo t I L)) := rfl
theorem mr_icmp_lt : mm_st sh call Q K (.if_icmp .lt off) x y u w z ts i lo (.int c :: .int a :: t) I L = ((a < c → K x lo t I L) ∧ (¬ (a < c) → K (i + 1) lo t I L)) := rfl
theorem mr_if_lt : mm_st sh call Q K (.ifCond .lt off) x y u w z ts i lo (.int a :: t) I L = ((a < 0 → K x lo t I L) ∧ (¬ (a < 0) → K (i + 1) lo t I L)) := rfl
theorem mr_icmp_ge : mm_st sh call Q K (.if_icmp .ge off) x y u w z ts i lo (.int c :: .int a :: t) I L = ((c ≤ a → K x lo t I L) ∧ (¬ (c ≤ a) → K (i + 1) lo t I L)) := rfl
theorem mr_if_ge : mm_st sh call Q K (.ifCond .ge off) x y u w z ts i lo (.int a :: t) I L = ((0 ≤ a → K x lo t I L) ∧ (¬ (0 ≤ a) → K (i + 1) lo t I L)) := rfl
theorem mr_icmp_gt : mm_st sh call Q K (.if_icmp .gt off) x y u w z ts i lo (.int c :: .int a :: t) I L = ((c < a → K x lo t I L) ∧ (¬ (c < a) → K (i + 1) lo t I L)) := rfl
theorem mr_if_gt : mm_st sh call Q K (.ifCond .gt off) x y u w z ts i lo (.int a :: t) I L = ((0 < a → K x lo t I L) ∧ (¬ (0 < a) → K (i + 1) lo t I L)) := rfl
theorem mr_icmp_le : mm_st sh call Q K (.if_icmp .le off) x y u w z ts i lo (.int c :: .int a :: t) I L = ((a ≤ c → K x lo t I L) ∧ (¬ (a ≤ c) → K (i + 1) lo t I L)) := rfl
theorem mr_if_le : mm_st sh call Q K (.ifCond .le off) x y u w z ts i lo (.int a :: t) I L = ((a ≤ 0 → K x lo t I L) ∧ (¬ (a ≤ 0) → K (i + 1) lo t I L)) := rfl
theorem mr_tsw (d1 d2 d3 : Int) (d4 : Array Int) : mm_st sh call Q K (.tableswitch d1 d2 d3 d4) x y u w z ts i lo (.int a :: t) I L = (mm_sw a (fun j => K j lo t I L) d2 ts ∧ ((a.toInt < d2 ∨ d3 < a.toInt) → K x lo t I L)) := rfl
theorem mr_sw0 (F : Nat → Prop) : mm_sw a F off [] = True := rfl
theorem mr_sw1 (F : Nat → Prop) : mm_sw a F off (j :: ts) = ((a = Int32.ofInt off → F j) ∧ mm_sw a F (off + 1) ts) := rfl
theorem mr_get0 : mm_st sh call Q K (.getfield j) x y 0 w z ts i lo (.ref r :: t) I L = (r = x ∧ K (i + 1) lo (.int (I x y) :: t) I L) := rfl
theorem mr_get1 : mm_st sh call Q K (.getfield j) x y 1 w z ts i lo (.ref r :: t) I L = (r = x ∧ K (i + 1) lo (.long (L x y) :: t) I L) := rfl
theorem mr_get2 : mm_st sh call Q K (.getfield j) x y 2 w z ts i lo (.ref r :: t) I L = (r = x ∧ K (i + 1) lo (.int (I x y) :: t) I L) := rfl
theorem mr_get3 : mm_st sh call Q K (.getfield j) x y (u + 3) w z ts i lo (.ref r :: t) I L = (r = x ∧ K (i + 1) lo (.ref u :: t) I L) := rfl
theorem mr_put0 : mm_st sh call Q K (.putfield j) x y 0 w z ts i lo (.int a :: .ref r :: t) I L = (r = x ∧ K (i + 1) lo t (mm_ui I x y a) L) := rfl
theorem mr_put1 : mm_st sh call Q K (.putfield j) x y 1 w z ts i lo (.long al :: .ref r :: t) I L = (r = x ∧ K (i + 1) lo t I (mm_ul L x y al)) := rfl
theorem mr_put2 : mm_st sh call Q K (.putfield j) x y 2 w z ts i lo (.int a :: .ref r :: t) I L = (r = x ∧ (a = 0 ∨ a = 1) ∧ K (i + 1) lo t (mm_ui I x y a) L) := rfl
theorem mr_iaload : mm_st sh call Q K (.iaload) x y u w z ts i lo (.int a :: .ref r :: t) I L = (vp_in a (mm_ia sh r) ∧ K (i + 1) lo (.int (I r a.toNatClampNeg) :: t) I L) := rfl
theorem mr_laload : mm_st sh call Q K (.laload) x y u w z ts i lo (.int a :: .ref r :: t) I L = (vp_in a (mm_la sh r) ∧ K (i + 1) lo (.long (L r a.toNatClampNeg) :: t) I L) := rfl
theorem mr_iastore : mm_st sh call Q K (.iastore) x y u w z ts i lo (.int c :: .int a :: .ref r :: t) I L = (vp_in a (mm_ia sh r) ∧ K (i + 1) lo t (mm_ui I r a.toNatClampNeg c) L) := rfl
theorem mr_lastore : mm_st sh call Q K (.lastore) x y u w z ts i lo (.long al :: .int a :: .ref r :: t) I L = (vp_in a (mm_la sh r) ∧ K (i + 1) lo t I (mm_ul L r a.toNatClampNeg al)) := rfl
theorem mr_alen : mm_st sh call Q K (.arraylength) x y u w z ts i lo (.ref r :: t) I L = (¬ mm_ia sh r + mm_la sh r = 0 ∧ K (i + 1) lo (.int (Int32.ofNat (mm_ia sh r + mm_la sh r)) :: t) I L) := rfl
theorem mr_iv : mm_st sh call Q K (.invokevirtual j) x y u w z ts i lo st I L = (mm_rc2 w (mm_pop y [] st) ∧ mm_in2 call K x u (mm_pop y [] st) i lo I L) := rfl
theorem mr_is0 : mm_st sh call Q K (.invokestatic j) x y 0 w z ts i lo st I L = mm_in2 call K x 0 (mm_pop y [] st) i lo I L := rfl
theorem mr_is1 : mm_st sh call Q K (.invokestatic j) x y 1 w z ts i lo st I L = mm_in2 call K x 1 (mm_pop y [] st) i lo I L := rfl
theorem mr_is2 : mm_st sh call Q K (.invokestatic j) x y 2 w z ts i lo st I L = mm_in2 call K x 2 (mm_pop y [] st) i lo I L := rfl
theorem mr_abs : mm_st sh call Q K (.invokestatic j) x y 10 w z ts i lo (.long al :: t) I L = (mm_ct t ≤ 8 ∧ K (i + 1) lo (.long (if 0 < al then al else -al) :: t) I L) := rfl
theorem mr_maxi : mm_st sh call Q K (.invokestatic j) x y 11 w z ts i lo (.int c :: .int a :: t) I L = (mm_ct t ≤ 8 ∧ K (i + 1) lo (.int (if a < c then c else a) :: t) I L) := rfl
theorem mr_maxl : mm_st sh call Q K (.invokestatic j) x y 12 w z ts i lo (.long bl :: .long al :: t) I L = (mm_ct t ≤ 8 ∧ K (i + 1) lo (.long (if bl < al then al else bl) :: t) I L) := rfl
theorem mr_minl : mm_st sh call Q K (.invokestatic j) x y 13 w z ts i lo (.long bl :: .long al :: t) I L = (mm_ct t ≤ 8 ∧ K (i + 1) lo (.long (if bl < al then bl else al) :: t) I L) := rfl
theorem mr_cpy : mm_st sh call Q K (.invokestatic j) x y 14 w z ts i lo st I L = mm_cpy sh st I (fun t I' => K (i + 1) lo t I' L) := rfl
theorem mr_pop0 : mm_pop 0 lo st = some (lo, st) := rfl
theorem mr_pop1 : mm_pop (n + 1) lo (vv :: st) = mm_pop n (vv :: lo) st := rfl
theorem mr_in2 : mm_in2 call K x u (some (lo, t)) i st I L = (mm_ct t ≤ 8 ∧ call x lo I L (fun I' L' ri rl => K (i + 1) st (mm_push u ri rl t) I' L')) := rfl
theorem mr_rc2 : mm_rc2 w (some (.ref r :: lo, t)) = (r = w) := rfl
theorem mr_push0 : mm_push 0 a al st = st := rfl
theorem mr_push1 : mm_push 1 a al st = .int a :: st := rfl
theorem mr_push2 : mm_push 2 a al st = .long al :: st := rfl
theorem mr_ct0 : mm_ct [] = 0 := rfl
theorem mr_ct1 : mm_ct (.int a :: st) = 1 + mm_ct st := rfl
theorem mr_ct2 : mm_ct (.ref r :: st) = 1 + mm_ct st := rfl
theorem mr_ct3 : mm_ct (.long al :: st) = 2 + mm_ct st := rfl
theorem mr_iret0 : mm_st sh call Q K .ireturn x y 0 w z ts i lo [.int a] I L = Q I L a 0 := propext ⟨fun h => h.2, fun h => ⟨fun q => absurd q (by decide), h⟩⟩
theorem mr_iret1 : mm_st sh call Q K .ireturn x y 1 w z ts i lo [.int a] I L = ((a = 0 ∨ a = 1) ∧ Q I L a 0) := propext ⟨fun h => ⟨h.1 rfl, h.2⟩, fun h => ⟨fun _ => h.1, h.2⟩⟩
theorem mr_lret : mm_st sh call Q K (.lreturn) x y u w z ts i lo [.long al] I L = Q I L 0 al := rfl
theorem mr_ret : mm_st sh call Q K (.return_) x y u w z ts i lo [] I L = Q I L 0 0 := rfl
theorem mr_s10 : mm_set1 (vv :: lo) 0 (.int a) = .int a :: lo := rfl
theorem mr_s10r : mm_set1 (vv :: lo) 0 (.ref r) = .ref r :: lo := rfl
theorem mr_s1 : mm_set1 lo (k + 1) vv = (mm_cut lo k).set (k + 1) vv := rfl
theorem mr_s2 : mm_set2 lo k vv = (mm_set1 lo k vv).set (k + 1) .null := rfl
theorem mr_set0 (e0 : Value) : (e0 :: lo).set 0 vv = vv :: lo := rfl
theorem mr_set1 (e0 : Value) : (e0 :: lo).set (n + 1) vv = e0 :: lo.set n vv := rfl
theorem mr_c1 : mm_cut (vv :: lo) (k + 1) = vv :: mm_cut lo k := by
  unfold mm_cut
  simp only [List.getD_cons_succ, List.set_cons_succ]
  split <;> rfl
theorem mr_c0i : mm_cut (.int a :: lo) 0 = .int a :: lo := rfl
theorem mr_c0r : mm_cut (.ref r :: lo) 0 = .ref r :: lo := rfl
theorem mr_c0n : mm_cut (.null :: lo) 0 = .null :: lo := rfl
theorem mr_c0l : mm_cut (.long al :: lo) 0 = .null :: lo := rfl
theorem mr_ui : mm_ui I x y a k j = if k = x then (if j = y then a else I k j) else I k j := rfl
theorem mr_ul : mm_ul L x y al k j = if k = x then (if j = y then al else L k j) else L k j := rfl
theorem mr_ur (ff : Nat → Int32) : mm_ur I x ff k j = if k = x then ff j else I k j := rfl
theorem mr_sl0 : mm_sl [] = [] := rfl
theorem mr_sl1 : mm_sl (.int a :: st) = .int a :: mm_sl st := rfl
theorem mr_sl2 : mm_sl (.ref r :: st) = .ref r :: mm_sl st := rfl
theorem mr_sl3 : mm_sl (.long al :: st) = .long al :: .null :: mm_sl st := rfl
end RW
theorem mm_r : type_of% (And.intro @mr_v1 (And.intro @mr_v2 (And.intro @mr_v3 (And.intro @mr_h1 (And.intro @mr_h2 (And.intro @mr_aload (And.intro @mr_aload_0 (And.intro @mr_aload_1 (And.intro @mr_aload_2 (And.intro @mr_aload_3 (And.intro @mr_iload (And.intro @mr_iload_0 (And.intro @mr_iload_1 (And.intro @mr_iload_2 (And.intro @mr_iload_3 (And.intro @mr_lload (And.intro @mr_lload_0 (And.intro @mr_lload_1 (And.intro @mr_lload_2 (And.intro @mr_lload_3 (And.intro @mr_lda0 (And.intro @mr_lda1 (And.intro @mr_ldi0 (And.intro @mr_ldi1 (And.intro @mr_ldl0 (And.intro @mr_ldl1 (And.intro @mr_istore (And.intro @mr_istore_0 (And.intro @mr_istore_1 (And.intro @mr_istore_2 (And.intro @mr_istore_3 (And.intro @mr_astore (And.intro @mr_astore_0 (And.intro @mr_astore_1 (And.intro @mr_astore_2 (And.intro @mr_astore_3 (And.intro @mr_lstore (And.intro @mr_lstore_0 (And.intro @mr_lstore_1 (And.intro @mr_lstore_2 (And.intro @mr_lstore_3 (And.intro @mr_iinc (And.intro @mr_iconst (And.intro @mr_bipush (And.intro @mr_sipush (And.intro @mr_lconst0 (And.intro @mr_lconst1 (And.intro @mr_ldc (And.intro @mr_ldcw (And.intro @mr_ldc2 (And.intro @mr_iadd (And.intro @mr_isub (And.intro @mr_imul (And.intro @mr_iand (And.intro @mr_ior (And.intro @mr_ixor (And.intro @mr_ishl (And.intro @mr_ishr (And.intro @mr_iushr (And.intro @mr_idiv (And.intro @mr_irem (And.intro @mr_ladd (And.intro @mr_lsub (And.intro @mr_lmul (And.intro @mr_lneg (And.intro @mr_lcmp (And.intro @mr_i2l (And.intro @mr_l2i (And.intro @mr_dupi (And.intro @mr_dupa (And.intro @mr_dup2 (And.intro @mr_goto (And.intro @mr_icmp_eq (And.intro @mr_if_eq (And.intro @mr_icmp_ne (And.intro @mr_if_ne (And.intro @mr_icmp_lt (And.intro @mr_if_lt (And.intro @mr_icmp_ge (And.intro @mr_if_ge (And.intro @mr_icmp_gt (And.intro @mr_if_gt (And.intro @mr_icmp_le (And.intro @mr_if_le (And.intro @mr_tsw (And.intro @mr_sw0 (And.intro @mr_sw1 (And.intro @mr_get0 (And.intro @mr_get1 (And.intro @mr_get2 (And.intro @mr_get3 (And.intro @mr_put0 (And.intro @mr_put1 (And.intro @mr_put2 (And.intro @mr_iaload (And.intro @mr_laload (And.intro @mr_iastore (And.intro @mr_lastore (And.intro @mr_alen (And.intro @mr_iv (And.intro @mr_is0 (And.intro @mr_is1 (And.intro @mr_is2 (And.intro @mr_abs (And.intro @mr_maxi (And.intro @mr_maxl (And.intro @mr_minl (And.intro @mr_cpy (And.intro @mr_pop0 (And.intro @mr_pop1 (And.intro @mr_in2 (And.intro @mr_rc2 (And.intro @mr_push0 (And.intro @mr_push1 (And.intro @mr_push2 (And.intro @mr_ct0 (And.intro @mr_ct1 (And.intro @mr_ct2 (And.intro @mr_ct3 (And.intro @mr_iret0 (And.intro @mr_iret1 (And.intro @mr_lret (And.intro @mr_ret (And.intro @mr_s10 (And.intro @mr_s10r (And.intro @mr_s1 (And.intro @mr_s2 (And.intro @mr_set0 (And.intro @mr_set1 (And.intro @mr_c1 (And.intro @mr_c0i (And.intro @mr_c0r (And.intro @mr_c0n (And.intro @mr_c0l (And.intro @mr_ui (And.intro @mr_ul (And.intro @mr_ur (And.intro @mr_sl0 (And.intro @mr_sl1 (And.intro @mr_sl2 (@mr_sl3))))))))))))))))))))))))))))))))))))))))))))))))))))))))))))))))))))))))))))))))))))))))))))))))))))))))))))))))))))))))))))))))))))))))))))) := And.intro @mr_v1 (And.intro @mr_v2 (And.intro @mr_v3 (And.intro @mr_h1 (And.intro @mr_h2 (And.intro @mr_aload (And.intro @mr_aload_0 (And.intro @mr_aload_1 (And.intro @mr_aload_2 (And.intro @mr_aload_3 (And.intro @mr_iload (And.intro @mr_iload_0 (And.intro @mr_iload_1 (And.intro @mr_iload_2 (And.intro @mr_iload_3 (And.intro @mr_lload (And.intro @mr_lload_0 (And.intro @mr_lload_1 (And.intro @mr_lload_2 (And.intro @mr_lload_3 (And.intro @mr_lda0 (And.intro @mr_lda1 (And.intro @mr_ldi0 (And.intro @mr_ldi1 (And.intro @mr_ldl0 (And.intro @mr_ldl1 (And.intro @mr_istore (And.intro @mr_istore_0 (And.intro @mr_istore_1 (And.intro @mr_istore_2 (And.intro @mr_istore_3 (And.intro @mr_astore (And.intro @mr_astore_0 (And.intro @mr_astore_1 (And.intro @mr_astore_2 (And.intro @mr_astore_3 (And.intro @mr_lstore (And.intro @mr_lstore_0 (And.intro @mr_lstore_1 (And.intro @mr_lstore_2 (And.intro @mr_lstore_3 (And.intro @mr_iinc (And.intro @mr_iconst (And.intro @mr_bipush (And.intro @mr_sipush (And.intro @mr_lconst0 (And.intro @mr_lconst1 (And.intro @mr_ldc (And.intro @mr_ldcw (And.intro @mr_ldc2 (And.intro @mr_iadd (And.intro @mr_isub (And.intro @mr_imul (And.intro @mr_iand (And.intro @mr_ior (And.intro @mr_ixor (And.intro @mr_ishl (And.intro @mr_ishr (And.intro @mr_iushr (And.intro @mr_idiv (And.intro @mr_irem (And.intro @mr_ladd (And.intro @mr_lsub (And.intro @mr_lmul (And.intro @mr_lneg (And.intro @mr_lcmp (And.intro @mr_i2l (And.intro @mr_l2i (And.intro @mr_dupi (And.intro @mr_dupa (And.intro @mr_dup2 (And.intro @mr_goto (And.intro @mr_icmp_eq (And.intro @mr_if_eq (And.intro @mr_icmp_ne (And.intro @mr_if_ne (And.intro @mr_icmp_lt (And.intro @mr_if_lt (And.intro @mr_icmp_ge (And.intro @mr_if_ge (And.intro @mr_icmp_gt (And.intro @mr_if_gt (And.intro @mr_icmp_le (And.intro @mr_if_le (And.intro @mr_tsw (And.intro @mr_sw0 (And.intro @mr_sw1 (And.intro @mr_get0 (And.intro @mr_get1 (And.intro @mr_get2 (And.intro @mr_get3 (And.intro @mr_put0 (And.intro @mr_put1 (And.intro @mr_put2 (And.intro @mr_iaload (And.intro @mr_laload (And.intro @mr_iastore (And.intro @mr_lastore (And.intro @mr_alen (And.intro @mr_iv (And.intro @mr_is0 (And.intro @mr_is1 (And.intro @mr_is2 (And.intro @mr_abs (And.intro @mr_maxi (And.intro @mr_maxl (And.intro @mr_minl (And.intro @mr_cpy (And.intro @mr_pop0 (And.intro @mr_pop1 (And.intro @mr_in2 (And.intro @mr_rc2 (And.intro @mr_push0 (And.intro @mr_push1 (And.intro @mr_push2 (And.intro @mr_ct0 (And.intro @mr_ct1 (And.intro @mr_ct2 (And.intro @mr_ct3 (And.intro @mr_iret0 (And.intro @mr_iret1 (And.intro @mr_lret (And.intro @mr_ret (And.intro @mr_s10 (And.intro @mr_s10r (And.intro @mr_s1 (And.intro @mr_s2 (And.intro @mr_set0 (And.intro @mr_set1 (And.intro @mr_c1 (And.intro @mr_c0i (And.intro @mr_c0r (And.intro @mr_c0n (And.intro @mr_c0l (And.intro @mr_ui (And.intro @mr_ul (And.intro @mr_ur (And.intro @mr_sl0 (And.intro @mr_sl1 (And.intro @mr_sl2 (@mr_sl3))))))))))))))))))))))))))))))))))))))))))))))))))))))))))))))))))))))))))))))))))))))))))))))))))))))))))))))))))))))))))))))))))))))))))))
theorem mm_b : type_of% (And.intro @true_and (And.intro @and_true (And.intro @true_or (And.intro @or_true (And.intro @true_implies (And.intro @Classical.not_not (And.intro @List.length_cons (And.intro @List.length_nil (And.intro @if_true (@if_false)))))))))) := And.intro @true_and (And.intro @and_true (And.intro @true_or (And.intro @or_true (And.intro @true_implies (And.intro @Classical.not_not (And.intro @List.length_cons (And.intro @List.length_nil (And.intro @if_true (@if_false)))))))))
theorem mm_hk {sh : mm_S} {ms : List mm_M} {d : Nat} {tb : List mm_E} {Q : mm_Q} {i : Nat} {lo st : List Value} {I : mm_I} {L : mm_L} (n : Nat) (h : mm_h sh (mm_P sh ms d) tb Q n i lo st I L) : mm_W sh (mm_P sh ms d) tb Q i lo st I L := mm_h_ok (mm_P_le sh ms d).1 n h
theorem mm_n : (Int8.ofInt (-9)).toInt32 = (-9) ∧ (Int8.ofInt (-5)).toInt32 = (-5) ∧ (Int8.ofInt (-4)).toInt32 = (-4) ∧ (Int8.ofInt (-3)).toInt32 = (-3) ∧ (Int8.ofInt (-2)).toInt32 = (-2) ∧ (Int8.ofInt 6).toInt32 = 6 ∧ (Int8.ofInt 7).toInt32 = 7 ∧ (Int8.ofInt 8).toInt32 = 8 ∧ (Int8.ofInt 16).toInt32 = 16 ∧ (Int8.ofInt 20).toInt32 = 20 ∧ (Int8.ofInt 21).toInt32 = 21 ∧ (Int8.ofInt 39).toInt32 = 39 ∧ (Int8.ofInt 40).toInt32 = 40 ∧ (Int8.ofInt 63).toInt32 = 63 ∧ Int32.ofInt 1000000 = 1000000 ∧ Int32.ofInt 252645135 = 252645135 ∧ Int32.ofInt 858993459 = 858993459 ∧ Int32.ofInt 1431655765 = 1431655765 ∧ Int32.ofInt (-1) = (-1) ∧ Int32.ofInt 0 = 0 ∧ Int32.ofInt 1 = 1 ∧ Int32.ofInt 2 = 2 ∧ Int32.ofInt 3 = 3 ∧ Int32.ofInt 4 = 4 ∧ Int32.ofInt 5 = 5 ∧ Int64.ofInt (-9223372036854775808) = (-9223372036854775808) ∧ Int64.ofInt (-2147483648) = (-2147483648) ∧ Int64.ofInt (-1) = (-1) ∧ Int64.ofInt 2147483647 = 2147483647 ∧ Int64.ofInt 1000000000000 = 1000000000000 ∧ Int64.ofInt 9223372036854775807 = 9223372036854775807 ∧ (Int16.ofInt 255).toInt32 = 255 ∧ (Int16.ofInt 256).toInt32 = 256 := by decide +kernel
end
section
/-! ===== small facts; the class's static helpers and its Cast, method by method ===== -/
theorem vi_of {x : Int32} {n : Nat} (h0 : 0 ≤ x) (h : x.toInt < n) : vp_in x n := by
  rw [vp_in_iff]
  rw [Int32.le_iff_toInt_le, Int32.toInt_zero] at h0
  exact ⟨h0, h⟩
theorem vi8 {x : Int32} (h0 : 0 ≤ x) (h : x < 8) : vp_in x 8 := vi_of h0 (by rw [Int32.lt_iff_toInt_lt] at h; exact h)
theorem vi40 {x : Int32} (h0 : 0 ≤ x) (h : x < 40) : vp_in x 40 := vi_of h0 (by rw [Int32.lt_iff_toInt_lt] at h; exact h)
theorem vi_nI {x : Int32} {n : Nat} (hn : n ≤ 2000000) (h0 : 0 ≤ x) (h : x < nI n) : ∃ j : Nat, j < n ∧ x = nI j := by
  obtain ⟨j, hj, rfl⟩ := nI_of (x := x) (by rw [Int32.not_lt]; exact h0)
  exact ⟨j, (nI_ltI hj (by omega)).mp h, rfl⟩
theorem n10 : ((1 : Int32) = 0) = False := by decide +kernel
theorem nl0 : (0 : Int32) = nI 0 := by decide +kernel
theorem nl1 : (1 : Int32) = nI 1 := by decide +kernel
theorem nl7 : (7 : Int32) = nI 7 := by decide +kernel
theorem nl8 : (8 : Int32) = nI 8 := by decide +kernel
theorem nl20 : (20 : Int32) = nI 20 := by decide +kernel
theorem nl21 : (21 : Int32) = nI 21 := by decide +kernel
theorem nl39 : (39 : Int32) = nI 39 := by decide +kernel
theorem nl40 : (40 : Int32) = nI 40 := by decide +kernel
/-- the comparisons of small numbers -/
theorem ni_le {a b : Nat} (ha : a ≤ 1000000) (hb : b ≤ 1000000) : (nI a ≤ nI b) = (a ≤ b) := propext (nI_leI (by omega) (by omega))
theorem ni_lt {a b : Nat} (ha : a ≤ 1000000) (hb : b ≤ 1000000) : (nI a < nI b) = (a < b) := propext (nI_ltI (by omega) (by omega))
theorem ni_eq {a b : Nat} (ha : a ≤ 1000000) (hb : b ≤ 1000000) : (nI a = nI b) = (a = b) := propext (nI_eq (by omega) (by omega))
theorem ni_cl {a : Nat} (ha : a ≤ 1000000) : (nI a).toNatClampNeg = a := nI_clamp (by omega)
theorem ni_in {a n : Nat} (hn : n ≤ 1000000) (h : a < n) : vp_in (nI a) n := vp_in_nI h (by omega)
theorem ni_0 {a : Nat} (ha : a ≤ 1000000) : (nI a < 0) = False := by
  rw [nl0, ni_lt ha (by omega)]
  simp
theorem ni_00 {a : Nat} (ha : a ≤ 1000000) : (0 ≤ nI a) = True := by
  rw [nl0, ni_le (by omega) ha]
  simp
theorem ni_8 {a : Nat} (ha : a ≤ 1000000) : ((8 : Int32) ≤ nI a) = (8 ≤ a) := by rw [nl8, ni_le (by omega) ha]
theorem ni_l8 {a : Nat} (ha : a ≤ 1000000) : (nI a < (8 : Int32)) = (a < 8) := by rw [nl8, ni_lt ha (by omega)]
theorem ni_40 {a : Nat} (ha : a ≤ 1000000) : ((40 : Int32) ≤ nI a) = (40 ≤ a) := by rw [nl40, ni_le (by omega) ha]
theorem ni_l40 {a : Nat} (ha : a ≤ 1000000) : (nI a < (40 : Int32)) = (a < 40) := by rw [nl40, ni_lt ha (by omega)]
/-! the shared pure words -/
/-- END of a scene -/
def pe (fr ln : Nat → Int32) (k : Nat) : Int64 := (fr k).toInt64 + (ln k).toInt64
/-- JUMP from a to b -/
def pj (fr ln : Nat → Int32) (a b : Nat) : Int64 := if 0 < (fr b).toInt64 - pe fr ln a then (fr b).toInt64 - pe fr ln a else -((fr b).toInt64 - pe fr ln a)
/-- SIDE of k by the teller t -/
def ps (fr ln : Nat → Int32) (k t : Nat) : Int32 := if pe fr ln k ≤ (fr t).toInt64 then 0 else if pe fr ln t ≤ (fr k).toInt64 then 1 else -9
abbrev fi (v : Int64) : Prop := -2147483648 ≤ v ∧ v ≤ 2147483647
/-- a number in a set -/
abbrev bi (set : Int32) (k : Nat) : Prop := (set >>> (nI k &&& 31)) &&& 1 = 1
set_option maxHeartbeats 4000000 in
set_option maxRecDepth 100000 in
theorem sX4_fitsInt {d : Nat} {I : mm_I} {L : mm_L} {Q : mm_Q} {v : Int64} (h1 : fi v → Q I L 1 0) (h0 : ¬ fi v → Q I L 0 0) : mm_P shC msC (d + 1) 63 [.long v] I L Q := by
  refine pX4_fitsInt ?_
  unfold fi at h1 h0
  simp only [↓uX4_fitsInt, ↓mm_r, mm_n, iaC, n10, not_true_eq_false, not_false_eq_true, false_implies, lg_cmp_ge, lg_cmp_le, lg_cmp_gt, lg_cmp_lt, lg_cmp_eq, true_and, and_true, true_or, or_true, true_implies, Classical.not_not, List.length_cons, List.length_nil, Nat.lt_iff_add_one_le, Nat.reduceAdd, Nat.reduceLeDiff, Nat.reduceEqDiff, Int.reduceAdd, reduceIte, Nat.reduceSub]
  grind
set_option maxHeartbeats 4000000 in
set_option maxRecDepth 100000 in
theorem sX4_intOrOver {d : Nat} {I : mm_I} {L : mm_L} {Q : mm_Q} {v : Int64} (h1 : fi v → Q I L v.toInt32 0) (h0 : ¬ fi v → Q I L (-5) 0) : mm_P shC msC (d + 2) 64 [.long v] I L Q := by
  refine pX4_intOrOver ?_
  simp only [↓uX4_intOrOver, ↓mm_r, mm_n, iaC, n10, not_true_eq_false, not_false_eq_true, false_implies, lg_cmp_ge, lg_cmp_le, lg_cmp_gt, lg_cmp_lt, lg_cmp_eq, true_and, and_true, true_or, or_true, true_implies, Classical.not_not, List.length_cons, List.length_nil, Nat.lt_iff_add_one_le, Nat.reduceAdd, Nat.reduceLeDiff, Nat.reduceEqDiff, Int.reduceAdd, reduceIte, Nat.reduceSub]
  refine sX4_fitsInt (fun h => ?_) (fun h => ?_)
  · exact ⟨fun q => absurd q (by decide), fun _ => h1 h⟩
  · exact ⟨fun _ => h0 h, fun q => absurd rfl q⟩
set_option maxHeartbeats 4000000 in
set_option maxRecDepth 100000 in
theorem sX4_isIn {d : Nat} {I : mm_I} {L : mm_L} {Q : mm_Q} {a b : Int32} (h1 : (a >>> (b &&& 31)) &&& 1 = 1 → Q I L 1 0) (h0 : ¬ (a >>> (b &&& 31)) &&& 1 = 1 → Q I L 0 0) : mm_P shC msC (d + 1) 62 [.int a, .int b] I L Q := by
  refine pX4_isIn ?_
  simp only [↓uX4_isIn, ↓mm_r, mm_n, iaC, n10, not_true_eq_false, not_false_eq_true, false_implies, lg_cmp_ge, lg_cmp_le, lg_cmp_gt, lg_cmp_lt, lg_cmp_eq, true_and, and_true, true_or, or_true, true_implies, Classical.not_not, List.length_cons, List.length_nil, Nat.lt_iff_add_one_le, Nat.reduceAdd, Nat.reduceLeDiff, Nat.reduceEqDiff, Int.reduceAdd, reduceIte, Nat.reduceSub]
  grind
set_option maxHeartbeats 4000000 in
set_option maxRecDepth 100000 in
theorem sX4_isClue {d : Nat} {I : mm_I} {L : mm_L} {Q : mm_Q} {a : Int32} (h1 : 0 ≤ a → a < 8 → Q I L 1 0) (h0 : ¬ (0 ≤ a ∧ a < 8) → Q I L 0 0) : mm_P shC msC (d + 1) 60 [.int a] I L Q := by
  refine pX4_isClue ?_
  simp only [↓uX4_isClue, ↓mm_r, mm_n, iaC, n10, not_true_eq_false, not_false_eq_true, false_implies, lg_cmp_ge, lg_cmp_le, lg_cmp_gt, lg_cmp_lt, lg_cmp_eq, true_and, and_true, true_or, or_true, true_implies, Classical.not_not, List.length_cons, List.length_nil, Nat.lt_iff_add_one_le, Nat.reduceAdd, Nat.reduceLeDiff, Nat.reduceEqDiff, Int.reduceAdd, reduceIte, Nat.reduceSub]
  grind
set_option maxHeartbeats 4000000 in
set_option maxRecDepth 100000 in
theorem sX4_isClueSet {d : Nat} {I : mm_I} {L : mm_L} {Q : mm_Q} {a : Int32} (h1 : 0 ≤ a → a ≤ 255 → Q I L 1 0) (h0 : ¬ (0 ≤ a ∧ a ≤ 255) → Q I L 0 0) : mm_P shC msC (d + 1) 61 [.int a] I L Q := by
  refine pX4_isClueSet ?_
  simp only [↓uX4_isClueSet, ↓mm_r, mm_n, iaC, n10, not_true_eq_false, not_false_eq_true, false_implies, lg_cmp_ge, lg_cmp_le, lg_cmp_gt, lg_cmp_lt, lg_cmp_eq, true_and, and_true, true_or, or_true, true_implies, Classical.not_not, List.length_cons, List.length_nil, Nat.lt_iff_add_one_le, Nat.reduceAdd, Nat.reduceLeDiff, Nat.reduceEqDiff, Int.reduceAdd, reduceIte, Nat.reduceSub]
  grind
set_option maxHeartbeats 4000000 in
set_option maxRecDepth 100000 in
theorem sX4_forgetBest {d : Nat} {I : mm_I} {L : mm_L} {Q : mm_Q} (h : Q (mm_ui (mm_ui I 13 4 0) 16 10 0) L 0 0) : mm_P shC msC (d + 1) 56 [.ref 0] I L Q := by
  refine pX4_forgetBest ?_
  simp only [↓uX4_forgetBest, ↓mm_r, mm_n, iaC, n10, not_true_eq_false, not_false_eq_true, false_implies, lg_cmp_ge, lg_cmp_le, lg_cmp_gt, lg_cmp_lt, lg_cmp_eq, true_and, and_true, true_or, or_true, true_implies, Classical.not_not, List.length_cons, List.length_nil, Nat.lt_iff_add_one_le, Nat.reduceAdd, Nat.reduceLeDiff, Nat.reduceEqDiff, Int.reduceAdd, reduceIte, Nat.reduceSub]
  exact h
set_option maxHeartbeats 4000000 in
set_option maxRecDepth 100000 in
theorem sX0_has {d : Nat} {I : mm_I} {L : mm_L} {Q : mm_Q} {k : Int32} (h1 : 0 ≤ k → k < I 1 4 → k < 8 → Q I L 1 0) (h0 : ¬ (0 ≤ k ∧ k < I 1 4 ∧ k < 8) → Q I L 0 0) : mm_P shC msC (d + 1) 0 [.ref 1, .int k] I L Q := by
  refine pX0_has ?_
  simp only [↓uX0_has, ↓mm_r, mm_n, iaC, n10, not_true_eq_false, not_false_eq_true, false_implies, lg_cmp_ge, lg_cmp_le, lg_cmp_gt, lg_cmp_lt, lg_cmp_eq, true_and, and_true, true_or, or_true, true_implies, Classical.not_not, List.length_cons, List.length_nil, Nat.lt_iff_add_one_le, Nat.reduceAdd, Nat.reduceLeDiff, Nat.reduceEqDiff, Int.reduceAdd, reduceIte, Nat.reduceSub]
  grind
set_option maxHeartbeats 4000000 in
set_option maxRecDepth 100000 in
theorem sX0_append {d : Nat} {I : mm_I} {L : mm_L} {Q : mm_Q} {k k2 k3 k4 : Int32} (h0 : 0 ≤ I 1 4) (h8 : I 1 4 < 8) (h : Q (mm_ui (mm_ui (mm_ui (mm_ui (mm_ui I 2 (I 1 4).toNatClampNeg k) 3 (I 1 4).toNatClampNeg k2) 4 (I 1 4).toNatClampNeg k3) 5 (I 1 4).toNatClampNeg k4) 1 4 (I 1 4 + 1)) L (I 1 4) 0) : mm_P shC msC (d + 1) 1 [.ref 1, .int k, .int k2, .int k3, .int k4] I L Q := by
  refine pX0_append ?_
  simp only [↓uX0_append, ↓mm_r, mm_n, iaC, n10, not_true_eq_false, not_false_eq_true, false_implies, lg_cmp_ge, lg_cmp_le, lg_cmp_gt, lg_cmp_lt, lg_cmp_eq, true_and, and_true, true_or, or_true, true_implies, Classical.not_not, List.length_cons, List.length_nil, Nat.lt_iff_add_one_le, Nat.reduceAdd, Nat.reduceLeDiff, Nat.reduceEqDiff, Int.reduceAdd, reduceIte, Nat.reduceSub]
  have hv := vi8 h0 h8
  grind
set_option maxHeartbeats 4000000 in
set_option maxRecDepth 100000 in
theorem sX0_endOf {d : Nat} {I : mm_I} {L : mm_L} {Q : mm_Q} {k : Int32} (h0 : 0 ≤ k) (h8 : k < 8) (h : Q I L 0 (pe (I 2) (I 3) k.toNatClampNeg)) : mm_P shC msC (d + 1) 2 [.ref 1, .int k] I L Q := by
  refine pX0_endOf ?_
  simp only [↓uX0_endOf, ↓mm_r, mm_n, iaC, n10, not_true_eq_false, not_false_eq_true, false_implies, lg_cmp_ge, lg_cmp_le, lg_cmp_gt, lg_cmp_lt, lg_cmp_eq, true_and, and_true, true_or, or_true, true_implies, Classical.not_not, List.length_cons, List.length_nil, Nat.lt_iff_add_one_le, Nat.reduceAdd, Nat.reduceLeDiff, Nat.reduceEqDiff, Int.reduceAdd, reduceIte, Nat.reduceSub]
  have hv := vi8 h0 h8
  unfold pe at h
  grind
set_option maxHeartbeats 4000000 in
set_option maxRecDepth 100000 in
theorem sX0_canMove {d : Nat} {I : mm_I} {L : mm_L} {Q : mm_Q} {k e : Int32} (hk : 0 ≤ k) (hc : k < I 1 4) (h8 : k < 8) (h1 : fi ((I 2 k.toNatClampNeg).toInt64 + e.toInt64) → fi (pe (I 2) (I 3) k.toNatClampNeg + e.toInt64) → Q I L 1 0) (h0 : ¬ (fi ((I 2 k.toNatClampNeg).toInt64 + e.toInt64) ∧ fi (pe (I 2) (I 3) k.toNatClampNeg + e.toInt64)) → Q I L 0 0) : mm_P shC msC (d + 2) 3 [.ref 1, .int k, .int e] I L Q := by
  refine pX0_canMove ?_
  simp only [↓uX0_canMove, ↓mm_r, mm_n, iaC, n10, not_true_eq_false, not_false_eq_true, false_implies, lg_cmp_ge, lg_cmp_le, lg_cmp_gt, lg_cmp_lt, lg_cmp_eq, true_and, and_true, true_or, or_true, true_implies, Classical.not_not, List.length_cons, List.length_nil, Nat.lt_iff_add_one_le, Nat.reduceAdd, Nat.reduceLeDiff, Nat.reduceEqDiff, Int.reduceAdd, reduceIte, Nat.reduceSub]
  have hv := vi8 hk h8
  refine sX0_has (fun _ _ _ => ⟨fun q => absurd q (by decide), fun _ => ⟨hv, ?_⟩⟩) (fun q => absurd ⟨hk, hc, h8⟩ q)
  refine sX4_fitsInt (fun f1 => ⟨fun q => absurd q (by decide), fun _ => ?_⟩) (fun f1 => ⟨fun _ => h0 (fun q => f1 q.1), fun q => absurd rfl q⟩)
  refine sX0_endOf hk h8 ?_
  refine sX4_fitsInt (fun f2 => ⟨fun q => absurd q (by decide), fun _ => h1 f1 f2⟩) (fun f2 => ⟨fun _ => h0 (fun q => f2 q.2), fun q => absurd rfl q⟩)
set_option maxHeartbeats 4000000 in
set_option maxRecDepth 100000 in
theorem sX0_jumpBetween {d : Nat} {I : mm_I} {L : mm_L} {Q : mm_Q} {a b : Int32} (ha : 0 ≤ a) (hac : a < I 1 4) (ha8 : a < 8) (hb : 0 ≤ b) (hbc : b < I 1 4) (hb8 : b < 8) (h : Q I L 0 (pj (I 2) (I 3) a.toNatClampNeg b.toNatClampNeg)) : mm_P shC msC (d + 2) 4 [.ref 1, .int a, .int b] I L Q := by
  refine pX0_jumpBetween ?_
  simp only [↓uX0_jumpBetween, ↓mm_r, mm_n, iaC, n10, not_true_eq_false, not_false_eq_true, false_implies, lg_cmp_ge, lg_cmp_le, lg_cmp_gt, lg_cmp_lt, lg_cmp_eq, true_and, and_true, true_or, or_true, true_implies, Classical.not_not, List.length_cons, List.length_nil, Nat.lt_iff_add_one_le, Nat.reduceAdd, Nat.reduceLeDiff, Nat.reduceEqDiff, Int.reduceAdd, reduceIte, Nat.reduceSub]
  have hv := vi8 hb hb8
  refine sX0_has (fun _ _ _ => ⟨fun q => absurd q (by decide), fun _ => ?_⟩) (fun q => absurd ⟨ha, hac, ha8⟩ q)
  refine sX0_has (fun _ _ _ => ⟨fun q => absurd q (by decide), fun _ => ⟨hv, ?_⟩⟩) (fun q => absurd ⟨hb, hbc, hb8⟩ q)
  exact sX0_endOf ha ha8 h
set_option maxHeartbeats 4000000 in
set_option maxRecDepth 100000 in
theorem sX0_sideBy {d : Nat} {I : mm_I} {L : mm_L} {Q : mm_Q} {k t : Int32} (ha : 0 ≤ k) (hac : k < I 1 4) (ha8 : k < 8) (hb : 0 ≤ t) (hbc : t < I 1 4) (hb8 : t < 8) (h : Q I L (ps (I 2) (I 3) k.toNatClampNeg t.toNatClampNeg) 0) : mm_P shC msC (d + 2) 5 [.ref 1, .int k, .int t] I L Q := by
  refine pX0_sideBy ?_
  simp only [↓uX0_sideBy, ↓mm_r, mm_n, iaC, n10, not_true_eq_false, not_false_eq_true, false_implies, lg_cmp_ge, lg_cmp_le, lg_cmp_gt, lg_cmp_lt, lg_cmp_eq, true_and, and_true, true_or, or_true, true_implies, Classical.not_not, List.length_cons, List.length_nil, Nat.lt_iff_add_one_le, Nat.reduceAdd, Nat.reduceLeDiff, Nat.reduceEqDiff, Int.reduceAdd, reduceIte, Nat.reduceSub]
  have hv := vi8 hb hb8
  have hv2 := vi8 ha ha8
  refine sX0_has (fun _ _ _ => ⟨fun q => absurd q (by decide), fun _ => ?_⟩) (fun q => absurd ⟨ha, hac, ha8⟩ q)
  refine sX0_has (fun _ _ _ => ⟨fun _ => ?_, fun q => absurd q (by decide)⟩) (fun q => absurd ⟨hb, hbc, hb8⟩ q)
  refine sX0_endOf ha ha8 ⟨hv, ?_, ?_⟩
  · intro h1
    refine ⟨hv2, ?_⟩
    refine sX0_endOf hb hb8 ⟨fun h2 => ?_, fun h2 => ?_⟩
    · unfold ps at h
      rw [if_neg (by grind), if_neg (by grind)] at h
      exact h
    · unfold ps at h
      rw [if_neg (by grind), if_pos (by grind)] at h
      exact h
  · intro h1
    unfold ps at h
    rw [if_pos (by grind)] at h
    exact h
set_option maxHeartbeats 4000000 in
set_option maxRecDepth 100000 in
theorem sX0_everyone {d : Nat} {I : mm_I} {L : mm_L} {Q : mm_Q} (h : Q I L (((1 : Int32) <<< (I 1 4 &&& 31)) - 1) 0) : mm_P shC msC (d + 1) 6 [.ref 1] I L Q := by
  refine pX0_everyone ?_
  simp only [↓uX0_everyone, ↓mm_r, mm_n, iaC, n10, not_true_eq_false, not_false_eq_true, false_implies, lg_cmp_ge, lg_cmp_le, lg_cmp_gt, lg_cmp_lt, lg_cmp_eq, true_and, and_true, true_or, or_true, true_implies, Classical.not_not, List.length_cons, List.length_nil, Nat.lt_iff_add_one_le, Nat.reduceAdd, Nat.reduceLeDiff, Nat.reduceEqDiff, Int.reduceAdd, reduceIte, Nat.reduceSub]
  exact h
/-- CLUES that the scenes of a set below n give -/
def pg (gv : Nat → Int32) (set : Int32) : Nat → Int32
  | 0 => 0
  | k + 1 => if bi set k then pg gv set k ||| gv k else pg gv set k
/-- all that is needed below n -/
def pn (nd : Nat → Int32) : Nat → Int32
  | 0 => 0
  | k + 1 => pn nd k ||| nd k
set_option maxHeartbeats 4000000 in
set_option maxRecDepth 100000 in
theorem lX0_givenBy {d : Nat} {I : mm_I} {L : mm_L} {Q : mm_Q} {set : Int32} {n : Nat} (hn : I 1 4 = nI n) (h8 : n ≤ 8) (h : Q I L (pg (I 4) set n) 0) : ∀ (m k : Nat), k + m = n → mm_W shC (mm_P shC msC (d + 1)) tbX0_givenBy Q 4 [.ref 1, .int set, .int (pg (I 4) set k), .int (nI k)] [] I L := by
  intro m
  induction m with
  | zero =>
    intro k hk
    refine mm_hk 60 ?_
    simp only [↓hX0_givenBy, ↓uX0_givenBy, ↓mm_r, mm_n, iaC, n10, not_true_eq_false, not_false_eq_true, false_implies, lg_cmp_ge, lg_cmp_le, lg_cmp_gt, lg_cmp_lt, lg_cmp_eq, true_and, and_true, true_or, or_true, true_implies, Classical.not_not, List.length_cons, List.length_nil, Nat.lt_iff_add_one_le, Nat.reduceAdd, Nat.reduceLeDiff, Nat.reduceEqDiff, Int.reduceAdd, reduceIte, Nat.reduceSub]
    simp only [hn, ni_le (a := n) (b := k) (by omega) (by omega)]
    exact ⟨fun _ => by rw [show k = n by omega]; exact h, fun q => absurd (by omega) q⟩
  | succ m ih =>
    intro k hk
    refine mm_hk 60 ?_
    simp only [↓hX0_givenBy, ↓uX0_givenBy, ↓mm_r, mm_n, iaC, n10, not_true_eq_false, not_false_eq_true, false_implies, lg_cmp_ge, lg_cmp_le, lg_cmp_gt, lg_cmp_lt, lg_cmp_eq, true_and, and_true, true_or, or_true, true_implies, Classical.not_not, List.length_cons, List.length_nil, Nat.lt_iff_add_one_le, Nat.reduceAdd, Nat.reduceLeDiff, Nat.reduceEqDiff, Int.reduceAdd, reduceIte, Nat.reduceSub]
    simp only [hn, ni_le (a := n) (b := k) (by omega) (by omega), ni_8 (a := k) (by omega), ni_cl (a := k) (by omega), nI_1]
    refine ⟨fun q => absurd q (by omega), fun _ => ⟨fun q => absurd q (by omega), fun _ => ?_⟩⟩
    refine sX4_isIn (fun b => ?_) (fun b => ?_)
    · simp only [n10, not_false_eq_true, false_implies, true_implies, true_and, and_true, not_true_eq_false]
      refine ⟨ni_in (by omega) (by omega), ?_⟩
      have h2 := ih (k + 1) (by omega)
      rw [show pg (I 4) set (k + 1) = pg (I 4) set k ||| I 4 k from if_pos b] at h2
      exact h2
    · simp only [n10, not_false_eq_true, false_implies, true_implies, true_and, and_true, not_true_eq_false]
      have h2 := ih (k + 1) (by omega)
      rw [show pg (I 4) set (k + 1) = pg (I 4) set k from if_neg b] at h2
      exact h2
set_option maxHeartbeats 4000000 in
set_option maxRecDepth 100000 in
theorem sX0_givenBy {d : Nat} {I : mm_I} {L : mm_L} {Q : mm_Q} {set : Int32} {n : Nat} (hn : I 1 4 = nI n) (h8 : n ≤ 8) (h : Q I L (pg (I 4) set n) 0) : mm_P shC msC (d + 2) 7 [.ref 1, .int set] I L Q := by
  refine pX0_givenBy ?_
  simp only [↓hX0_givenBy, ↓uX0_givenBy, ↓mm_r, mm_n, iaC, n10, not_true_eq_false, not_false_eq_true, false_implies, lg_cmp_ge, lg_cmp_le, lg_cmp_gt, lg_cmp_lt, lg_cmp_eq, true_and, and_true, true_or, or_true, true_implies, Classical.not_not, List.length_cons, List.length_nil, Nat.lt_iff_add_one_le, Nat.reduceAdd, Nat.reduceLeDiff, Nat.reduceEqDiff, Int.reduceAdd, reduceIte, Nat.reduceSub]
  exact lX0_givenBy hn h8 h n 0 (by omega)
end
section
/-! ===== bits (the family bt .. b_sshr is pasted from kit/laws/BITS.to-paste) ===== -/
def bt (x : Int32) (i : Nat) : Bool := x.toBitVec.getLsbD i
theorem b_ext {x y : Int32} (h : ∀ i, i < 32 → bt x i = bt y i) : x = y := Int32.toBitVec_inj.mp (BitVec.eq_of_getLsbD_eq (fun i hi => h i hi))
theorem b_or (x y : Int32) (i : Nat) : bt (x ||| y) i = (bt x i || bt y i) := by unfold bt; rw [Int32.toBitVec_or, BitVec.getLsbD_or]
theorem b_and (x y : Int32) (i : Nat) : bt (x &&& y) i = (bt x i && bt y i) := by unfold bt; rw [Int32.toBitVec_and, BitVec.getLsbD_and]
theorem b_xor (x y : Int32) (i : Nat) : bt (x ^^^ y) i = (bt x i ^^ bt y i) := by unfold bt; rw [Int32.toBitVec_xor, BitVec.getLsbD_xor]
theorem b_big {x : Int32} {i : Nat} (h : 32 ≤ i) : bt x i = false := BitVec.getLsbD_of_ge _ _ h
theorem b_255 (i : Nat) : bt 255 i = decide (i < 8) := by
  rcases Nat.lt_or_ge i 32 with h | h
  · exact (by decide +kernel : ∀ i, i < 32 → bt 255 i = decide (i < 8)) i h
  · rw [b_big h, decide_eq_false (by omega)]
theorem b_65535 (i : Nat) : bt 65535 i = decide (i < 16) := by
  rcases Nat.lt_or_ge i 32 with h | h
  · exact (by decide +kernel : ∀ i, i < 32 → bt 65535 i = decide (i < 16)) i h
  · rw [b_big h, decide_eq_false (by omega)]
theorem b_m1 : ∀ i, i < 32 → bt (-1) i = true := by decide +kernel
theorem b_0 (i : Nat) : bt 0 i = false := BitVec.getLsbD_zero
theorem s_l : ∀ n, n < 32 → ((nI n &&& 31).toBitVec.smod 32).toNat = n := by decide +kernel
theorem s_u : ∀ n, n < 32 → (((nI n).toUInt32 &&& Int32.toUInt32 31).toBitVec % 32).toNat = n := by decide +kernel
theorem b_shl (n : Nat) (hn : n < 32) (x : Int32) {i : Nat} (hi : i < 32) : bt (x <<< (nI n &&& 31)) i = (decide (n ≤ i) && bt x (i - n)) := by
  unfold bt
  rw [Int32.toBitVec_shiftLeft]
  show (x.toBitVec <<< ((nI n &&& 31).toBitVec.smod 32).toNat).getLsbD i = _
  rw [s_l n hn, BitVec.getLsbD_shiftLeft]
  rcases Nat.lt_or_ge i n with h | h
  · simp [h, Nat.not_le.mpr h]
  · simp [hi, h, Nat.not_lt.mpr h]
theorem b_ushr (n : Nat) (hn : n < 32) (x : Int32) (i : Nat) : bt ((x.toUInt32 >>> ((nI n).toUInt32 &&& Int32.toUInt32 31)).toInt32) i = bt x (n + i) := by
  show (x.toUInt32 >>> ((nI n).toUInt32 &&& Int32.toUInt32 31)).toBitVec.getLsbD i = x.toUInt32.toBitVec.getLsbD (n + i)
  rw [UInt32.toBitVec_shiftRight]
  show (x.toUInt32.toBitVec >>> (((nI n).toUInt32 &&& Int32.toUInt32 31).toBitVec % 32).toNat).getLsbD i = _
  rw [s_u n hn, BitVec.getLsbD_ushiftRight]
theorem b_sshr (n : Nat) (hn : n < 32) (x : Int32) {i : Nat} (hi : i < 32) : bt (x >>> (nI n &&& 31)) i = if n + i < 32 then bt x (n + i) else bt x 31 := by
  unfold bt
  rw [Int32.toBitVec_shiftRight]
  show (x.toBitVec.sshiftRight ((nI n &&& 31).toBitVec.smod 32).toNat).getLsbD i = _
  rw [s_l n hn, BitVec.getLsbD_sshiftRight, BitVec.msb_eq_getLsbD_last]
  simp [hi]
theorem b_one : ∀ i, i < 32 → bt 1 i = decide (i = 0) := by decide +kernel
theorem bt_bit (x : Int32) {j : Nat} (hj : j < 32) : ((x >>> (nI j &&& 31)) &&& 1 = 1) = (bt x j = true) := by
  apply propext
  constructor
  · intro h
    have h0 := congrArg (fun z => bt z 0) h
    simp only [b_and, b_sshr j hj x (show 0 < 32 by decide), b_one 0 (by decide)] at h0
    simpa [hj] using h0
  · intro h
    apply b_ext
    intro i hi
    rw [b_and, b_sshr j hj x hi, b_one i hi]
    by_cases hi0 : i = 0
    · subst hi0
      simp [hj, h]
    · simp [hi0]
theorem b_sh1 {j : Nat} (hj : j < 32) {i : Nat} (hi : i < 32) : bt ((1 : Int32) <<< (nI j &&& 31)) i = decide (i = j) := by
  rw [b_shl j hj 1 hi]
  by_cases h : j ≤ i
  · rw [b_one (i - j) (by omega)]
    simp only [h, decide_true, Bool.true_and]
    congr 1
    apply propext
    omega
  · have : ¬ i = j := by omega
    simp [h, this]
theorem bq_or : ∀ j : Nat, j < 8 → ∀ x : Int32, (x ||| (1 <<< (nI j &&& 31)) = x) = ((x >>> (nI j &&& 31)) &&& 1 = 1) := by
  intro j hj x
  rw [bt_bit x (by omega)]
  apply propext
  constructor
  · intro h
    have h0 := congrArg (fun z => bt z j) h
    simp only [b_or, b_sh1 (show j < 32 by omega) (show j < 32 by omega)] at h0
    simpa using h0.symm
  · intro h
    apply b_ext
    intro i hi
    rw [b_or, b_sh1 (by omega) hi]
    by_cases e : i = j
    · subst e
      simp [h]
    · simp [e]
theorem bq_and : ∀ j : Nat, j < 8 → ∀ x : Int32, (x &&& ((1 <<< (nI j &&& 31)) ^^^ (-1)) = x) = ¬ ((x >>> (nI j &&& 31)) &&& 1 = 1) := by
  intro j hj x
  rw [bt_bit x (by omega)]
  apply propext
  constructor
  · intro h
    have h0 := congrArg (fun z => bt z j) h
    simp only [b_and, b_xor, b_m1 j (by omega), b_sh1 (show j < 32 by omega) (show j < 32 by omega)] at h0
    simpa using h0.symm
  · intro h
    apply b_ext
    intro i hi
    rw [b_and, b_xor, b_m1 i hi, b_sh1 (by omega) hi]
    by_cases e : i = j
    · subst e
      simp [Bool.eq_false_iff.mpr h]
    · simp [e]
end
section
/-! ===== the shared view, and what each simple call does to it ===== -/
abbrev pv : Type := (Nat → Int32) × (Nat → Int32) × (Nat → Int32) × (Nat → Int32) × (Nat → Int32) × Int32 × Int32 × Int32 × Int32
def vC (I : mm_I) : pv := (I 2, I 3, I 4, I 5, I 6, I 1 4, I 0 2, I 0 3, I 0 4)
def vR (J : mm_I) : pv := (J 1, J 2, J 3, J 4, J 5, J 0 0, J 0 6, J 0 5, J 0 8)
/-- a row written at one place, as a row -/
theorem uif (I : mm_I) (x y : Nat) (a : Int32) (k : Nat) : mm_ui I x y a k = if k = x then upd (I k) y a else I k := by
  split
  · rename_i h
    subst h
    exact mm_ui_row I k y a
  · rename_i h
    exact mm_ui_off I y a h
theorem uia (I : mm_I) (x y : Nat) (a : Int32) (k j : Nat) : mm_ui I x y a k j = if k = x then (if j = y then a else I k j) else I k j := rfl
/-- what holds of a view at every time -/
def vok (v : pv) : Prop := ∃ n ns : Nat, v.2.2.2.2.2.1 = nI n ∧ n ≤ 8 ∧ v.2.2.2.2.2.2.1 = nI ns ∧ ns ≤ 40 ∧ (∀ k, k < n → 1 ≤ v.2.1 k ∧ fi (pe v.1 v.2.1 k) ∧ (0 ≤ v.2.2.1 k ∧ v.2.2.1 k ≤ 255) ∧ (0 ≤ v.2.2.2.1 k ∧ v.2.2.2.1 k ≤ 255)) ∧ (∀ i, i < ns → (0 ≤ v.2.2.2.2.1 i ∧ v.2.2.2.2.1 i < 8) ∨ v.2.2.2.2.1 i = 20 ∨ v.2.2.2.2.1 i = 21) ∧ 0 ≤ v.2.2.2.2.2.2.2.1 ∧ v.2.2.2.2.2.2.2.1 ≤ 1000000
abbrev v_n (v : pv) : Int32 := v.2.2.2.2.2.1
abbrev v_ns (v : pv) : Int32 := v.2.2.2.2.2.2.1
abbrev v_fee (v : pv) : Int32 := v.2.2.2.2.2.2.2.1
abbrev is_sc (v : pv) (k : Int32) : Prop := 0 ≤ k ∧ k < v_n v
def q_scene (v : pv) (a b c e : Int32) : pv × Int32 :=
  if b < 1 ∨ ¬ (0 ≤ c ∧ c ≤ 255) ∨ ¬ (0 ≤ e ∧ e ≤ 255) then (v, -2)
  else if 8 ≤ v_n v then (v, -4)
  else if ¬ fi (a.toInt64 + b.toInt64) then (v, -5)
  else ((upd v.1 (v_n v).toNatClampNeg a, upd v.2.1 (v_n v).toNatClampNeg b, upd v.2.2.1 (v_n v).toNatClampNeg c, upd v.2.2.2.1 (v_n v).toNatClampNeg e, v.2.2.2.2.1, v_n v + 1, v.2.2.2.2.2.2), v_n v)
def q_ofScene (v : pv) (k w : Int32) : pv × Int64 :=
  if ¬ is_sc v k then (v, -9223372036854775808)
  else if w = 0 then (v, (v.1 k.toNatClampNeg).toInt64)
  else if w = 1 then (v, (v.2.1 k.toNatClampNeg).toInt64)
  else if w = 2 then (v, pe v.1 v.2.1 k.toNatClampNeg)
  else if w = 3 then (v, (v.2.2.1 k.toNatClampNeg).toInt64)
  else if w = 4 then (v, (v.2.2.2.1 k.toNatClampNeg).toInt64)
  else (v, -9223372036854775808)
def q_move (v : pv) (k e : Int32) : pv × Int32 :=
  if ¬ is_sc v k then (v, -1)
  else if ¬ (fi ((v.1 k.toNatClampNeg).toInt64 + e.toInt64) ∧ fi (pe v.1 v.2.1 k.toNatClampNeg + e.toInt64)) then (v, -5)
  else ((upd v.1 k.toNatClampNeg (v.1 k.toNatClampNeg + e), v.2), 1)
def q_stretch (v : pv) (k t : Int32) : pv × Int32 :=
  if ¬ is_sc v k then (v, -1)
  else if t < 1 then (v, -2)
  else if ¬ (fi ((v.2.1 k.toNatClampNeg).toInt64 * t.toInt64) ∧ fi ((v.1 k.toNatClampNeg).toInt64 + (v.2.1 k.toNatClampNeg).toInt64 * t.toInt64)) then (v, -5)
  else ((v.1, upd v.2.1 k.toNatClampNeg ((v.2.1 k.toNatClampNeg).toInt64 * t.toInt64).toInt32, v.2.2), 1)
def q_drop (v : pv) : pv × Int32 :=
  if v_n v ≤ 0 then (v, -3) else ((v.1, v.2.1, v.2.2.1, v.2.2.2.1, v.2.2.2.2.1, v_n v - 1, v.2.2.2.2.2.2), v_n v - 1)
def q_fee (v : pv) (a : Int32) : pv × Int32 :=
  if a < 0 ∨ 1000000 < a then (v, -2) else ((v.1, v.2.1, v.2.2.1, v.2.2.2.1, v.2.2.2.2.1, v_n v, v_ns v, a, v.2.2.2.2.2.2.2.2), v_fee v)
def q_jump (v : pv) (a b : Int32) : pv × Int64 :=
  if is_sc v a ∧ is_sc v b ∧ ¬ a = b then (v, pj v.1 v.2.1 a.toNatClampNeg b.toNatClampNeg) else (v, -9223372036854775808)
def q_add (v : pv) (a : Int32) : pv × Int32 :=
  if ¬ ((0 ≤ a ∧ a < 8) ∨ a = 20 ∨ a = 21) then (v, -2)
  else if 40 ≤ v_ns v then (v, -4)
  else ((v.1, v.2.1, v.2.2.1, v.2.2.2.1, upd v.2.2.2.2.1 (v_ns v).toNatClampNeg a, v_n v, v_ns v + 1, v.2.2.2.2.2.2.2), v_ns v + 1)
def q_cut (v : pv) (a : Int32) : pv × Int32 :=
  if a < 0 ∨ v_ns v < a then (v, -2) else ((v.1, v.2.1, v.2.2.1, v.2.2.2.1, v.2.2.2.2.1, v_n v, v_ns v - a, v.2.2.2.2.2.2.2), v_ns v - a)
def q_clue (v : pv) (k c w s : Int32) : pv × Int32 :=
  if ¬ (is_sc v k ∧ 0 ≤ c ∧ c < 8) then (v, -1)
  else if ¬ (w = 0 ∨ w = 1) then (v, -2)
  else if w = 0 then (if ((v.2.2.1 k.toNatClampNeg >>> (c &&& 31)) &&& 1 = 1) = (¬ s = 0) then (v, 0) else ((v.1, v.2.1, upd v.2.2.1 k.toNatClampNeg (if ¬ s = 0 then v.2.2.1 k.toNatClampNeg ||| (1 <<< (c &&& 31)) else v.2.2.1 k.toNatClampNeg &&& ((1 <<< (c &&& 31)) ^^^ (-1))), v.2.2.2), 1))
  else (if ((v.2.2.2.1 k.toNatClampNeg >>> (c &&& 31)) &&& 1 = 1) = (¬ s = 0) then (v, 0) else ((v.1, v.2.1, v.2.2.1, upd v.2.2.2.1 k.toNatClampNeg (if ¬ s = 0 then v.2.2.2.1 k.toNatClampNeg ||| (1 <<< (c &&& 31)) else v.2.2.2.1 k.toNatClampNeg &&& ((1 <<< (c &&& 31)) ^^^ (-1))), v.2.2.2.2), 1))
end
section
/-! ===== the simple public methods, on the left side ===== -/
/-- what a call may do to what is kept: forget it, or leave it, and the view but for the looks, as it was -/
def kc (I : mm_I) (L : mm_L) (I' : mm_I) (L' : mm_L) : Prop := (I' 13 4 = 0 ∧ I' 16 10 = 0) ∨ ((∃ w : Int32, vC I' = (I 2, I 3, I 4, I 5, I 6, I 1 4, I 0 2, I 0 3, w)) ∧ I' 13 = I 13 ∧ I' 15 = I 15 ∧ I' 16 = I 16 ∧ I' 21 = I 21 ∧ L' 13 = L 13 ∧ L' 16 = L 16)
theorem kcs {I : mm_I} {L : mm_L} : kc I L I L := Or.inr ⟨⟨_, rfl⟩, rfl, rfl, rfl, rfl, rfl, rfl⟩
theorem kcf {I I' : mm_I} {L L' : mm_L} (h1 : I' 13 4 = 0) (h2 : I' 16 10 = 0) : kc I L I' L' := Or.inl ⟨h1, h2⟩
theorem vok_n {v : pv} (h : vok v) : ∃ n : Nat, v_n v = nI n ∧ n ≤ 8 := by
  obtain ⟨n, ns, h1, h2, -⟩ := h
  exact ⟨n, h1, h2⟩
theorem vok_n0 {v : pv} (h : vok v) : 0 ≤ v_n v ∧ v_n v ≤ 8 := by
  obtain ⟨n, h1, h2⟩ := vok_n h
  rw [h1, ni_00 (by omega), nl8, ni_le (by omega) (by omega)]
  exact ⟨trivial, h2⟩
theorem vok_ns0 {v : pv} (h : vok v) : 0 ≤ v_ns v ∧ v_ns v ≤ 40 := by
  obtain ⟨n, ns, -, -, h1, h2, -⟩ := h
  show 0 ≤ v.2.2.2.2.2.2.1 ∧ v.2.2.2.2.2.2.1 ≤ 40
  rw [h1, ni_00 (by omega), nl40, ni_le (by omega) (by omega)]
  exact ⟨trivial, h2⟩

set_option maxHeartbeats 4000000 in
set_option maxRecDepth 100000 in
theorem kX4_scene {d : Nat} {I : mm_I} {L : mm_L} {a b c e : Int32} (hv : vok (vC I)) : mm_P shC msC (d + 2) 36 [.ref 0, .int a, .int b, .int c, .int e] I L (fun I' L' ri _ => (vC I', ri) = q_scene (vC I) a b c e ∧ kc I L I' L') := by
  have hn := vok_n0 hv
  refine pX4_scene ?_
  simp only [↓uX4_scene, ↓mm_r, mm_n, iaC, n10, not_true_eq_false, not_false_eq_true, false_implies, lg_cmp_ge, lg_cmp_le, lg_cmp_gt, lg_cmp_lt, lg_cmp_eq, true_and, and_true, true_or, or_true, true_implies, Classical.not_not, List.length_cons, List.length_nil, Nat.lt_iff_add_one_le, Nat.reduceAdd, Nat.reduceLeDiff, Nat.reduceEqDiff, Int.reduceAdd, reduceIte, Nat.reduceSub]
  have g1 : (b < 1 ∨ ¬ (0 ≤ c ∧ c ≤ 255) ∨ ¬ (0 ≤ e ∧ e ≤ 255)) → (vC I, -2) = q_scene (vC I) a b c e := fun h => by rw [q_scene, if_pos h]
  refine ⟨fun h1 => ⟨g1 (Or.inl h1), kcs⟩, fun h1 => ?_⟩
  refine sX4_isClueSet (fun h2 h3 => ?_) (fun h2 => ?_)
  · simp only [n10, not_false_eq_true, false_implies, true_implies, true_and, and_true, not_true_eq_false]
    refine sX4_isClueSet (fun h4 h5 => ?_) (fun h4 => ?_)
    · simp only [n10, not_false_eq_true, false_implies, true_implies, true_and, and_true, not_true_eq_false]
      have g2 : ¬ (b < 1 ∨ ¬ (0 ≤ c ∧ c ≤ 255) ∨ ¬ (0 ≤ e ∧ e ≤ 255)) := by grind
      refine ⟨fun h6 => ?_, fun h6 => ⟨by rw [q_scene, if_neg g2, if_pos (by show 8 ≤ I 1 4; grind)], kcs⟩⟩
      refine sX4_fitsInt (fun h7 => ?_) (fun h7 => ?_)
      · simp only [n10, not_false_eq_true, false_implies, true_implies, true_and, and_true, not_true_eq_false]
        refine sX4_forgetBest ?_
        refine sX0_append ?_ ?_ ⟨?_, ?_⟩
        · simp only [uia, Nat.reduceEqDiff, reduceIte]
          exact hn.1
        · simp only [uia, Nat.reduceEqDiff, reduceIte]
          grind
        · rw [q_scene, if_neg g2, if_neg (by show ¬ 8 ≤ I 1 4; grind), if_neg (fun q => q h7)]
          simp only [vC, uif, uia, v_n, Nat.reduceEqDiff, reduceIte, upd]
        · refine kcf ?_ ?_
          · simp only [uia, Nat.reduceEqDiff, reduceIte]
          · simp only [uia, Nat.reduceEqDiff, reduceIte]
      · simp only [n10, not_false_eq_true, false_implies, true_implies, true_and, and_true, not_true_eq_false]
        exact ⟨by rw [q_scene, if_neg g2, if_neg (by show ¬ 8 ≤ I 1 4; grind), if_pos h7], kcs⟩
    · simp only [n10, not_false_eq_true, false_implies, true_implies, true_and, and_true, not_true_eq_false]
      exact ⟨g1 (Or.inr (Or.inr h4)), kcs⟩
  · simp only [n10, not_false_eq_true, false_implies, true_implies, true_and, and_true, not_true_eq_false]
    exact ⟨g1 (Or.inr (Or.inl h2)), kcs⟩

set_option maxHeartbeats 4000000 in
set_option maxRecDepth 100000 in
theorem kX4_ofScene {d : Nat} {I : mm_I} {L : mm_L} {k w : Int32} (hv : vok (vC I)) : mm_P shC msC (d + 2) 37 [.ref 0, .int k, .int w] I L (fun I' L' _ rl => (vC I', rl) = q_ofScene (vC I) k w ∧ kc I L I' L') := by
  have hn := vok_n0 hv
  simp only [vC, v_n] at hn
  refine pX4_ofScene ?_
  simp only [↓uX4_ofScene, ↓mm_r, mm_n, iaC, n10, not_true_eq_false, not_false_eq_true, false_implies, lg_cmp_ge, lg_cmp_le, lg_cmp_gt, lg_cmp_lt, lg_cmp_eq, true_and, and_true, true_or, or_true, true_implies, Classical.not_not, List.length_cons, List.length_nil, Nat.lt_iff_add_one_le, Nat.reduceAdd, Nat.reduceLeDiff, Nat.reduceEqDiff, Int.reduceAdd, reduceIte, Nat.reduceSub]
  refine sX0_has (fun h1 h2 h3 => ?_) (fun h1 => ?_)
  · simp only [n10, not_false_eq_true, false_implies, true_implies, true_and, and_true, not_true_eq_false]
    have hi := vi8 h1 h3
    have hs : ¬ ¬ is_sc (vC I) k := fun q => q ⟨h1, h2⟩
    refine ⟨⟨fun q => ⟨hi, ?_, kcs⟩, fun q => ⟨hi, ?_, kcs⟩, fun q => ?_, fun q => ⟨hi, ?_, kcs⟩, fun q => ⟨hi, ?_, kcs⟩⟩, fun q => ⟨?_, kcs⟩⟩
    · subst q
      rw [q_ofScene, if_neg hs, if_pos rfl]
      rfl
    · subst q
      rw [q_ofScene, if_neg hs, if_neg (by decide), if_pos rfl]
      rfl
    · subst q
      refine sX0_endOf h1 h3 ⟨?_, kcs⟩
      rw [q_ofScene, if_neg hs, if_neg (by decide), if_neg (by decide), if_pos rfl]
      rfl
    · subst q
      rw [q_ofScene, if_neg hs, if_neg (by decide), if_neg (by decide), if_neg (by decide), if_pos rfl]
      rfl
    · subst q
      rw [q_ofScene, if_neg hs, if_neg (by decide), if_neg (by decide), if_neg (by decide), if_neg (by decide), if_pos rfl]
      rfl
    · have e : ∀ z : Int32, 0 ≤ z.toInt → z.toInt ≤ 4 → ¬ w = z := fun z h1 h2 hz => by rw [hz] at q; omega
      rw [q_ofScene, if_neg hs, if_neg (e 0 (by decide) (by decide)), if_neg (e 1 (by decide) (by decide)), if_neg (e 2 (by decide) (by decide)), if_neg (e 3 (by decide) (by decide)), if_neg (e 4 (by decide) (by decide))]
  · simp only [n10, not_false_eq_true, false_implies, true_implies, true_and, and_true, not_true_eq_false]
    exact ⟨by rw [q_ofScene, if_pos (fun q => h1 ⟨q.1, q.2, by have q2 := q.2; simp only [vC, v_n] at q2; grind⟩)], kcs⟩

set_option maxHeartbeats 4000000 in
set_option maxRecDepth 100000 in
theorem kX4_move {d : Nat} {I : mm_I} {L : mm_L} {k e : Int32} (hv : vok (vC I)) : mm_P shC msC (d + 3) 38 [.ref 0, .int k, .int e] I L (fun I' L' ri _ => (vC I', ri) = q_move (vC I) k e ∧ kc I L I' L') := by
  have hn := vok_n0 hv
  simp only [vC, v_n] at hn
  refine pX4_move ?_
  simp only [↓uX4_move, ↓mm_r, mm_n, iaC, n10, not_true_eq_false, not_false_eq_true, false_implies, lg_cmp_ge, lg_cmp_le, lg_cmp_gt, lg_cmp_lt, lg_cmp_eq, true_and, and_true, true_or, or_true, true_implies, Classical.not_not, List.length_cons, List.length_nil, Nat.lt_iff_add_one_le, Nat.reduceAdd, Nat.reduceLeDiff, Nat.reduceEqDiff, Int.reduceAdd, reduceIte, Nat.reduceSub]
  refine sX0_has (fun h1 h2 h3 => ?_) (fun h1 => ?_)
  · simp only [n10, not_false_eq_true, false_implies, true_implies, true_and, and_true, not_true_eq_false]
    have hi := vi8 h1 h3
    have hs : ¬ ¬ is_sc (vC I) k := fun q => q ⟨h1, h2⟩
    refine sX0_canMove h1 h2 h3 (fun f1 f2 => ?_) (fun f => ?_)
    · simp only [n10, not_false_eq_true, false_implies, true_implies, true_and, and_true, not_true_eq_false]
      refine ⟨hi, hi, ?_⟩
      refine sX4_forgetBest ⟨?_, kcf ?_ ?_⟩
      · rw [q_move, if_neg hs, if_neg (fun q => q ⟨f1, f2⟩)]
        simp only [vC, uif, uia, Nat.reduceEqDiff, reduceIte, upd]
      · simp only [uia, Nat.reduceEqDiff, reduceIte]
      · simp only [uia, Nat.reduceEqDiff, reduceIte]
    · simp only [n10, not_false_eq_true, false_implies, true_implies, true_and, and_true, not_true_eq_false]
      exact ⟨by rw [q_move, if_neg hs]; exact (if_pos f).symm, kcs⟩
  · simp only [n10, not_false_eq_true, false_implies, true_implies, true_and, and_true, not_true_eq_false]
    exact ⟨by rw [q_move, if_pos (fun q => h1 ⟨q.1, q.2, by have q2 := q.2; simp only [vC, v_n] at q2; grind⟩)], kcs⟩

set_option maxHeartbeats 4000000 in
set_option maxRecDepth 100000 in
theorem kX4_stretch {d : Nat} {I : mm_I} {L : mm_L} {k t : Int32} (hv : vok (vC I)) : mm_P shC msC (d + 2) 40 [.ref 0, .int k, .int t] I L (fun I' L' ri _ => (vC I', ri) = q_stretch (vC I) k t ∧ kc I L I' L') := by
  have hn := vok_n0 hv
  simp only [vC, v_n] at hn
  refine pX4_stretch ?_
  simp only [↓uX4_stretch, ↓mm_r, mm_n, iaC, n10, not_true_eq_false, not_false_eq_true, false_implies, lg_cmp_ge, lg_cmp_le, lg_cmp_gt, lg_cmp_lt, lg_cmp_eq, true_and, and_true, true_or, or_true, true_implies, Classical.not_not, List.length_cons, List.length_nil, Nat.lt_iff_add_one_le, Nat.reduceAdd, Nat.reduceLeDiff, Nat.reduceEqDiff, Int.reduceAdd, reduceIte, Nat.reduceSub]
  refine sX0_has (fun h1 h2 h3 => ?_) (fun h1 => ?_)
  · simp only [n10, not_false_eq_true, false_implies, true_implies, true_and, and_true, not_true_eq_false]
    have hi := vi8 h1 h3
    have hs : ¬ ¬ is_sc (vC I) k := fun q => q ⟨h1, h2⟩
    refine ⟨fun h4 => ?_, fun h4 => ⟨by rw [q_stretch, if_neg hs, if_pos (by grind)], kcs⟩⟩
    refine ⟨hi, ?_⟩
    have h5 : ¬ t < 1 := by grind
    refine sX4_fitsInt (fun f1 => ?_) (fun f1 => ?_)
    · simp only [n10, not_false_eq_true, false_implies, true_implies, true_and, and_true, not_true_eq_false]
      refine ⟨hi, ?_⟩
      refine sX4_fitsInt (fun f2 => ?_) (fun f2 => ?_)
      · simp only [n10, not_false_eq_true, false_implies, true_implies, true_and, and_true, not_true_eq_false]
        refine ⟨hi, ?_⟩
        refine sX4_forgetBest ⟨?_, kcf ?_ ?_⟩
        · rw [q_stretch, if_neg hs, if_neg h5, if_neg (fun q => q ⟨f1, f2⟩)]
          simp only [vC, uif, uia, Nat.reduceEqDiff, reduceIte, upd]
        · simp only [uia, Nat.reduceEqDiff, reduceIte]
        · simp only [uia, Nat.reduceEqDiff, reduceIte]
      · simp only [n10, not_false_eq_true, false_implies, true_implies, true_and, and_true, not_true_eq_false]
        exact ⟨by rw [q_stretch, if_neg hs, if_neg h5, if_pos (fun q => f2 q.2)], kcs⟩
    · simp only [n10, not_false_eq_true, false_implies, true_implies, true_and, and_true, not_true_eq_false]
      exact ⟨by rw [q_stretch, if_neg hs, if_neg h5, if_pos (fun q => f1 q.1)], kcs⟩
  · simp only [n10, not_false_eq_true, false_implies, true_implies, true_and, and_true, not_true_eq_false]
    exact ⟨by rw [q_stretch, if_pos (fun q => h1 ⟨q.1, q.2, by have q2 := q.2; simp only [vC, v_n] at q2; grind⟩)], kcs⟩

set_option maxHeartbeats 4000000 in
set_option maxRecDepth 100000 in
theorem kX4_drop {d : Nat} {I : mm_I} {L : mm_L}  : mm_P shC msC (d + 2) 43 [.ref 0] I L (fun I' L' ri _ => (vC I', ri) = q_drop (vC I) ∧ kc I L I' L') := by
  refine pX4_drop ?_
  simp only [↓uX4_drop, ↓mm_r, mm_n, iaC, n10, not_true_eq_false, not_false_eq_true, false_implies, lg_cmp_ge, lg_cmp_le, lg_cmp_gt, lg_cmp_lt, lg_cmp_eq, true_and, and_true, true_or, or_true, true_implies, Classical.not_not, List.length_cons, List.length_nil, Nat.lt_iff_add_one_le, Nat.reduceAdd, Nat.reduceLeDiff, Nat.reduceEqDiff, Int.reduceAdd, reduceIte, Nat.reduceSub]
  refine ⟨fun h1 => ?_, fun h1 => ⟨by rw [q_drop, if_pos (by show I 1 4 ≤ 0; grind)], kcs⟩⟩
  refine sX4_forgetBest ⟨?_, kcf ?_ ?_⟩
  · rw [q_drop, if_neg (by show ¬ I 1 4 ≤ 0; grind)]
    simp only [vC, v_n, uif, uia, Nat.reduceEqDiff, reduceIte, upd]
  · simp only [uia, Nat.reduceEqDiff, reduceIte]
  · simp only [uia, Nat.reduceEqDiff, reduceIte]

set_option maxHeartbeats 4000000 in
set_option maxRecDepth 100000 in
theorem kX4_fee {d : Nat} {I : mm_I} {L : mm_L} {a : Int32} : mm_P shC msC (d + 2) 44 [.ref 0, .int a] I L (fun I' L' ri _ => (vC I', ri) = q_fee (vC I) a ∧ kc I L I' L') := by
  refine pX4_fee ?_
  simp only [↓uX4_fee, ↓mm_r, mm_n, iaC, n10, not_true_eq_false, not_false_eq_true, false_implies, lg_cmp_ge, lg_cmp_le, lg_cmp_gt, lg_cmp_lt, lg_cmp_eq, true_and, and_true, true_or, or_true, true_implies, Classical.not_not, List.length_cons, List.length_nil, Nat.lt_iff_add_one_le, Nat.reduceAdd, Nat.reduceLeDiff, Nat.reduceEqDiff, Int.reduceAdd, reduceIte, Nat.reduceSub]
  refine ⟨fun h1 => ⟨by rw [q_fee, if_pos (Or.inl h1)], kcs⟩, fun h1 => ⟨fun h2 => ?_, fun h2 => ⟨by rw [q_fee, if_pos (Or.inr (by grind))], kcs⟩⟩⟩
  refine sX4_forgetBest ⟨?_, kcf ?_ ?_⟩
  · rw [q_fee, if_neg (by grind)]
    simp only [vC, v_n, v_ns, v_fee, uif, uia, Nat.reduceEqDiff, reduceIte, upd]
  · simp only [uia, Nat.reduceEqDiff, reduceIte]
  · simp only [uia, Nat.reduceEqDiff, reduceIte]

set_option maxHeartbeats 4000000 in
set_option maxRecDepth 100000 in
theorem kX4_jump {d : Nat} {I : mm_I} {L : mm_L} {a b : Int32} (hv : vok (vC I)) : mm_P shC msC (d + 3) 45 [.ref 0, .int a, .int b] I L (fun I' L' _ rl => (vC I', rl) = q_jump (vC I) a b ∧ kc I L I' L') := by
  have hn := vok_n0 hv
  simp only [vC, v_n] at hn
  refine pX4_jump ?_
  simp only [↓uX4_jump, ↓mm_r, mm_n, iaC, n10, not_true_eq_false, not_false_eq_true, false_implies, lg_cmp_ge, lg_cmp_le, lg_cmp_gt, lg_cmp_lt, lg_cmp_eq, true_and, and_true, true_or, or_true, true_implies, Classical.not_not, List.length_cons, List.length_nil, Nat.lt_iff_add_one_le, Nat.reduceAdd, Nat.reduceLeDiff, Nat.reduceEqDiff, Int.reduceAdd, reduceIte, Nat.reduceSub]
  refine sX0_has (fun h1 h2 h3 => ?_) (fun h1 => ?_)
  · simp only [n10, not_false_eq_true, false_implies, true_implies, true_and, and_true, not_true_eq_false]
    refine sX0_has (fun h4 h5 h6 => ?_) (fun h4 => ?_)
    · simp only [n10, not_false_eq_true, false_implies, true_implies, true_and, and_true, not_true_eq_false]
      refine ⟨fun h7 => ?_, fun h7 => ⟨by rw [q_jump, if_neg (fun q => q.2.2 h7)], kcs⟩⟩
      exact sX0_jumpBetween h1 h2 h3 h4 h5 h6 ⟨by rw [q_jump, if_pos ⟨⟨h1, h2⟩, ⟨h4, h5⟩, h7⟩]; rfl, kcs⟩
    · simp only [n10, not_false_eq_true, false_implies, true_implies, true_and, and_true, not_true_eq_false]
      exact ⟨by rw [q_jump, if_neg (fun q => h4 ⟨q.2.1.1, q.2.1.2, by have q2 := q.2.1.2; simp only [vC, v_n] at q2; grind⟩)], kcs⟩
  · simp only [n10, not_false_eq_true, false_implies, true_implies, true_and, and_true, not_true_eq_false]
    exact ⟨by rw [q_jump, if_neg (fun q => h1 ⟨q.1.1, q.1.2, by have q2 := q.1.2; simp only [vC, v_n] at q2; grind⟩)], kcs⟩

set_option maxHeartbeats 4000000 in
set_option maxRecDepth 100000 in
theorem kX4_add {d : Nat} {I : mm_I} {L : mm_L} {a : Int32} (hv : vok (vC I)) : mm_P shC msC (d + 2) 47 [.ref 0, .int a] I L (fun I' L' ri _ => (vC I', ri) = q_add (vC I) a ∧ kc I L I' L') := by
  have hn := vok_ns0 hv
  simp only [vC, v_ns] at hn
  have go : ((0 ≤ a ∧ a < 8) ∨ a = 20 ∨ a = 21) → I 0 2 < 40 → vp_in (I 0 2) 40 ∧ mm_P shC msC (d + 1) 56 [Value.ref 0] (mm_ui (mm_ui I 6 (I 0 2).toNatClampNeg a) 0 2 (I 0 2 + 1)) L fun I' L' ri rl => (vC I', I' 0 2) = q_add (vC I) a ∧ kc I L I' L' := fun h1 h2 => by
    refine ⟨vi40 hn.1 h2, sX4_forgetBest ⟨?_, kcf ?_ ?_⟩⟩
    · rw [q_add, if_neg (fun q => q h1), if_neg (by show ¬ 40 ≤ I 0 2; grind)]
      simp only [vC, v_n, v_ns, v_fee, uif, uia, Nat.reduceEqDiff, reduceIte, upd]
    · simp only [uia, Nat.reduceEqDiff, reduceIte]
    · simp only [uia, Nat.reduceEqDiff, reduceIte]
  have fu : ((0 ≤ a ∧ a < 8) ∨ a = 20 ∨ a = 21) → ¬ I 0 2 < 40 → (vC I, -4) = q_add (vC I) a ∧ kc I L I L := fun h1 h2 => ⟨by rw [q_add, if_neg (fun q => q h1), if_pos (by show 40 ≤ I 0 2; grind)], kcs⟩
  have ou : ¬ ((0 ≤ a ∧ a < 8) ∨ a = 20 ∨ a = 21) → (vC I, -2) = q_add (vC I) a ∧ kc I L I L := fun h1 => ⟨by rw [q_add, if_pos h1], kcs⟩
  refine pX4_add ?_
  simp only [↓uX4_add, ↓mm_r, mm_n, iaC, n10, not_true_eq_false, not_false_eq_true, false_implies, lg_cmp_ge, lg_cmp_le, lg_cmp_gt, lg_cmp_lt, lg_cmp_eq, true_and, and_true, true_or, or_true, true_implies, Classical.not_not, List.length_cons, List.length_nil, Nat.lt_iff_add_one_le, Nat.reduceAdd, Nat.reduceLeDiff, Nat.reduceEqDiff, Int.reduceAdd, reduceIte, Nat.reduceSub]
  by_cases hc : ((0 ≤ a ∧ a < 8) ∨ a = 20 ∨ a = 21)
  · have g := go hc
    have f := fu hc
    clear go fu ou
    by_cases h40 : I 0 2 < 40
    · have g := g h40
      clear f
      simp only [h40, g, true_implies, not_true_eq_false, false_implies, true_and, and_true, implies_true]
      grind
    · have f := f h40
      clear g
      simp only [h40, f, true_implies, not_true_eq_false, not_false_eq_true, false_implies, true_and, and_true, implies_true]
      grind
  · have o := ou hc
    clear go fu ou
    grind

set_option maxHeartbeats 4000000 in
set_option maxRecDepth 100000 in
theorem kX4_cut {d : Nat} {I : mm_I} {L : mm_L} {a : Int32} : mm_P shC msC (d + 2) 48 [.ref 0, .int a] I L (fun I' L' ri _ => (vC I', ri) = q_cut (vC I) a ∧ kc I L I' L') := by
  refine pX4_cut ?_
  simp only [↓uX4_cut, ↓mm_r, mm_n, iaC, n10, not_true_eq_false, not_false_eq_true, false_implies, lg_cmp_ge, lg_cmp_le, lg_cmp_gt, lg_cmp_lt, lg_cmp_eq, true_and, and_true, true_or, or_true, true_implies, Classical.not_not, List.length_cons, List.length_nil, Nat.lt_iff_add_one_le, Nat.reduceAdd, Nat.reduceLeDiff, Nat.reduceEqDiff, Int.reduceAdd, reduceIte, Nat.reduceSub]
  refine ⟨fun h1 => ⟨by rw [q_cut, if_pos (Or.inl h1)], kcs⟩, fun h1 => ⟨fun h2 => ?_, fun h2 => ⟨by rw [q_cut, if_pos (Or.inr (by show I 0 2 < a; grind))], kcs⟩⟩⟩
  refine sX4_forgetBest ⟨?_, kcf ?_ ?_⟩
  · rw [q_cut, if_neg (by show ¬ (a < 0 ∨ I 0 2 < a); grind)]
    simp only [vC, v_n, v_ns, v_fee, uif, uia, Nat.reduceEqDiff, reduceIte, upd]
  · simp only [uia, Nat.reduceEqDiff, reduceIte]
  · simp only [uia, Nat.reduceEqDiff, reduceIte]

set_option maxHeartbeats 4000000 in
set_option maxRecDepth 100000 in
theorem kX4_clue {d : Nat} {I : mm_I} {L : mm_L} {k c w s : Int32} (hv : vok (vC I)) : mm_P shC msC (d + 2) 41 [.ref 0, .int k, .int c, .int w, .int s] I L (fun I' L' ri _ => (vC I', ri) = q_clue (vC I) k c w s ∧ kc I L I' L') := by
  have hn := vok_n0 hv
  simp only [vC, v_n] at hn
  refine pX4_clue ?_
  simp only [↓uX4_clue, ↓mm_r, mm_n, iaC, n10, not_true_eq_false, not_false_eq_true, false_implies, lg_cmp_ge, lg_cmp_le, lg_cmp_gt, lg_cmp_lt, lg_cmp_eq, true_and, and_true, true_or, or_true, true_implies, Classical.not_not, List.length_cons, List.length_nil, Nat.lt_iff_add_one_le, Nat.reduceAdd, Nat.reduceLeDiff, Nat.reduceEqDiff, Int.reduceAdd, reduceIte, Nat.reduceSub]
  refine sX0_has (fun h1 h2 h3 => ?_) (fun h1 => ?_)
  · simp only [n10, not_false_eq_true, false_implies, true_implies, true_and, and_true, not_true_eq_false]
    have hi := vi8 h1 h3
    refine sX4_isClue (fun h4 h5 => ?_) (fun h4 => ?_)
    · simp only [n10, not_false_eq_true, false_implies, true_implies, true_and, and_true, not_true_eq_false]
      obtain ⟨j, hj, rfl⟩ := vi_nI (n := 8) (by omega) h4 (by rw [← nl8]; exact h5)
      have hs : ¬ ¬ (is_sc (vC I) k ∧ 0 ≤ nI j ∧ nI j < 8) := fun q => q ⟨⟨h1, h2⟩, h4, h5⟩
      simp only [bq_or j hj, bq_and j hj]
      by_cases hw0 : w = 0
      · subst hw0
        simp only [true_implies, not_true_eq_false, false_implies, true_and, and_true, hi]
        by_cases hs0 : s = 0
        · subst hs0
          simp only [true_implies, not_true_eq_false, false_implies, true_and, and_true]
          refine ⟨fun b => ?_, fun b => ⟨?_, kcs⟩⟩
          · refine sX4_forgetBest ⟨?_, kcf ?_ ?_⟩
            · rw [q_clue, if_neg hs, if_neg (fun q => q (Or.inl rfl)), if_pos rfl, if_neg (by simp only [vC]; grind)]
              simp only [vC, v_n, v_ns, v_fee, uif, uia, Nat.reduceEqDiff, reduceIte, upd, not_true_eq_false]
            · simp only [uia, Nat.reduceEqDiff, reduceIte]
            · simp only [uia, Nat.reduceEqDiff, reduceIte]
          · rw [q_clue, if_neg hs, if_neg (fun q => q (Or.inl rfl)), if_pos rfl, if_pos (by simp only [vC]; grind)]
        · simp only [hs0, not_false_eq_true, true_implies, not_true_eq_false, false_implies, true_and, and_true]
          refine ⟨fun b => ?_, fun b => ⟨?_, kcs⟩⟩
          · refine sX4_forgetBest ⟨?_, kcf ?_ ?_⟩
            · rw [q_clue, if_neg hs, if_neg (fun q => q (Or.inl rfl)), if_pos rfl, if_neg (by simp only [vC]; grind)]
              simp only [vC, v_n, v_ns, v_fee, uif, uia, Nat.reduceEqDiff, reduceIte, upd, hs0, not_false_eq_true]
            · simp only [uia, Nat.reduceEqDiff, reduceIte]
            · simp only [uia, Nat.reduceEqDiff, reduceIte]
          · rw [q_clue, if_neg hs, if_neg (fun q => q (Or.inl rfl)), if_pos rfl, if_pos (by simp only [vC]; grind)]
      · by_cases hw1 : w = 1
        · subst hw1
          simp only [n10, not_false_eq_true, true_implies, not_true_eq_false, false_implies, true_and, and_true, hi]
          by_cases hs0 : s = 0
          · subst hs0
            simp only [true_implies, not_true_eq_false, false_implies, true_and, and_true]
            refine ⟨fun b => ?_, fun b => ⟨?_, kcs⟩⟩
            · refine sX4_forgetBest ⟨?_, kcf ?_ ?_⟩
              · rw [q_clue, if_neg hs, if_neg (fun q => q (Or.inr rfl)), if_neg (by decide), if_neg (by simp only [vC]; grind)]
                simp only [vC, v_n, v_ns, v_fee, uif, uia, Nat.reduceEqDiff, reduceIte, upd, not_true_eq_false]
              · simp only [uia, Nat.reduceEqDiff, reduceIte]
              · simp only [uia, Nat.reduceEqDiff, reduceIte]
            · rw [q_clue, if_neg hs, if_neg (fun q => q (Or.inr rfl)), if_neg (by decide), if_pos (by simp only [vC]; grind)]
          · simp only [hs0, not_false_eq_true, true_implies, not_true_eq_false, false_implies, true_and, and_true]
            refine ⟨fun b => ?_, fun b => ⟨?_, kcs⟩⟩
            · refine sX4_forgetBest ⟨?_, kcf ?_ ?_⟩
              · rw [q_clue, if_neg hs, if_neg (fun q => q (Or.inr rfl)), if_neg (by decide), if_neg (by simp only [vC]; grind)]
                simp only [vC, v_n, v_ns, v_fee, uif, uia, Nat.reduceEqDiff, reduceIte, upd, hs0, not_false_eq_true]
              · simp only [uia, Nat.reduceEqDiff, reduceIte]
              · simp only [uia, Nat.reduceEqDiff, reduceIte]
            · rw [q_clue, if_neg hs, if_neg (fun q => q (Or.inr rfl)), if_neg (by decide), if_pos (by simp only [vC]; grind)]
        · simp only [hw0, hw1, not_false_eq_true, true_implies, not_true_eq_false, false_implies, true_and, and_true]
          exact ⟨by rw [q_clue, if_neg hs, if_pos (by grind)], kcs⟩
    · simp only [n10, not_false_eq_true, false_implies, true_implies, true_and, and_true, not_true_eq_false]
      exact ⟨by rw [q_clue, if_pos (fun q => h4 q.2)], kcs⟩
  · simp only [n10, not_false_eq_true, false_implies, true_implies, true_and, and_true, not_true_eq_false]
    exact ⟨by rw [q_clue, if_pos (fun q => h1 ⟨q.1.1, q.1.2, by have q2 := q.1.2; simp only [vC, v_n] at q2; grind⟩)], kcs⟩
end
section
/-! ===== the simple public methods, on the right side ===== -/
theorem n01 : ((0 : Int32) = 1) = False := by decide +kernel
theorem i32_as (a : Int32) : a + 1 - 1 = a := by grind
theorem pj_alt (fr ln : Nat → Int32) (a b : Nat) : (if 0 < (fr b).toInt64 - pe fr ln a then (fr b).toInt64 - pe fr ln a else -((fr b).toInt64 - pe fr ln a)) = if (fr b).toInt64 - pe fr ln a < 0 then -((fr b).toInt64 - pe fr ln a) else (fr b).toInt64 - pe fr ln a := by
  generalize (fr b).toInt64 - pe fr ln a = x
  by_cases h : x < 0
  · rw [if_neg (by grind), if_pos h]
  · by_cases h2 : 0 < x
    · rw [if_pos h2, if_neg (by grind)]
    · have : x = 0 := by grind
      subst this
      rfl
set_option maxHeartbeats 4000000 in
set_option maxRecDepth 100000 in
theorem sX5_within {d : Nat} {I : mm_I} {L : mm_L} {Q : mm_Q} {a b c : Int32} (h1 : b ≤ a → a ≤ c → Q I L 1 0) (h0 : ¬ (b ≤ a ∧ a ≤ c) → Q I L 0 0): mm_P shR msR (d + 1) 0 [.int a, .int b, .int c] I L Q := by
  refine pX5_within ?_
  simp only [↓uX5_within, ↓mm_r, mm_n, iaR, n10, not_true_eq_false, not_false_eq_true, false_implies, lg_cmp_ge, lg_cmp_le, lg_cmp_gt, lg_cmp_lt, lg_cmp_eq, true_and, and_true, true_or, or_true, true_implies, Classical.not_not, List.length_cons, List.length_nil, Nat.lt_iff_add_one_le, Nat.reduceAdd, Nat.reduceLeDiff, Nat.reduceEqDiff, Int.reduceAdd, reduceIte, Nat.reduceSub]
  grind

set_option maxHeartbeats 4000000 in
set_option maxRecDepth 100000 in
theorem sX5_isInt {d : Nat} {I : mm_I} {L : mm_L} {Q : mm_Q} {v : Int64} (h1 : fi v → Q I L 1 0) (h0 : ¬ fi v → Q I L 0 0): mm_P shR msR (d + 1) 1 [.long v] I L Q := by
  refine pX5_isInt ?_
  unfold fi at h1 h0
  simp only [↓uX5_isInt, ↓mm_r, mm_n, iaR, n10, not_true_eq_false, not_false_eq_true, false_implies, lg_cmp_ge, lg_cmp_le, lg_cmp_gt, lg_cmp_lt, lg_cmp_eq, true_and, and_true, true_or, or_true, true_implies, Classical.not_not, List.length_cons, List.length_nil, Nat.lt_iff_add_one_le, Nat.reduceAdd, Nat.reduceLeDiff, Nat.reduceEqDiff, Int.reduceAdd, reduceIte, Nat.reduceSub]
  grind

set_option maxHeartbeats 4000000 in
set_option maxRecDepth 100000 in
theorem sX5_isScene {d : Nat} {I : mm_I} {L : mm_L} {Q : mm_Q} {k : Int32} (hn : 0 ≤ I 0 0) (h1 : 0 ≤ k → k < I 0 0 → Q I L 1 0) (h0 : ¬ (0 ≤ k ∧ k < I 0 0) → Q I L 0 0): mm_P shR msR (d + 2) 2 [.ref 0, .int k] I L Q := by
  refine pX5_isScene ?_
  simp only [↓uX5_isScene, ↓mm_r, mm_n, iaR, n10, not_true_eq_false, not_false_eq_true, false_implies, lg_cmp_ge, lg_cmp_le, lg_cmp_gt, lg_cmp_lt, lg_cmp_eq, true_and, and_true, true_or, or_true, true_implies, Classical.not_not, List.length_cons, List.length_nil, Nat.lt_iff_add_one_le, Nat.reduceAdd, Nat.reduceLeDiff, Nat.reduceEqDiff, Int.reduceAdd, reduceIte, Nat.reduceSub]
  refine sX5_within (fun a b => ?_) (fun a => ?_)
  · simp only [n10, not_false_eq_true, false_implies, true_implies, true_and, and_true, not_true_eq_false]
    have : k < I 0 0 := by grind
    grind
  · simp only [n10, not_false_eq_true, false_implies, true_implies, true_and, and_true, not_true_eq_false]
    have : ¬ (0 ≤ k ∧ k < I 0 0) := by grind
    grind

set_option maxHeartbeats 4000000 in
set_option maxRecDepth 100000 in
theorem sX5_isClue {d : Nat} {I : mm_I} {L : mm_L} {Q : mm_Q} {k : Int32} (h1 : 0 ≤ k → k < 8 → Q I L 1 0) (h0 : ¬ (0 ≤ k ∧ k < 8) → Q I L 0 0): mm_P shR msR (d + 2) 3 [.int k] I L Q := by
  refine pX5_isClue ?_
  simp only [↓uX5_isClue, ↓mm_r, mm_n, iaR, n10, not_true_eq_false, not_false_eq_true, false_implies, lg_cmp_ge, lg_cmp_le, lg_cmp_gt, lg_cmp_lt, lg_cmp_eq, true_and, and_true, true_or, or_true, true_implies, Classical.not_not, List.length_cons, List.length_nil, Nat.lt_iff_add_one_le, Nat.reduceAdd, Nat.reduceLeDiff, Nat.reduceEqDiff, Int.reduceAdd, reduceIte, Nat.reduceSub]
  refine sX5_within (fun a b => ?_) (fun a => ?_)
  · simp only [n10, not_false_eq_true, false_implies, true_implies, true_and, and_true, not_true_eq_false]
    have : k < 8 := by grind
    grind
  · simp only [n10, not_false_eq_true, false_implies, true_implies, true_and, and_true, not_true_eq_false]
    have : ¬ (0 ≤ k ∧ k < 8) := by grind
    grind

set_option maxHeartbeats 4000000 in
set_option maxRecDepth 100000 in
theorem sX5_endOf {d : Nat} {I : mm_I} {L : mm_L} {Q : mm_Q} {k : Int32} (h0 : 0 ≤ k) (h8 : k < 8) (h : Q I L 0 (pe (I 1) (I 2) k.toNatClampNeg)): mm_P shR msR (d + 1) 4 [.ref 0, .int k] I L Q := by
  refine pX5_endOf ?_
  simp only [↓uX5_endOf, ↓mm_r, mm_n, iaR, n10, not_true_eq_false, not_false_eq_true, false_implies, lg_cmp_ge, lg_cmp_le, lg_cmp_gt, lg_cmp_lt, lg_cmp_eq, true_and, and_true, true_or, or_true, true_implies, Classical.not_not, List.length_cons, List.length_nil, Nat.lt_iff_add_one_le, Nat.reduceAdd, Nat.reduceLeDiff, Nat.reduceEqDiff, Int.reduceAdd, reduceIte, Nat.reduceSub]
  have hv := vi8 h0 h8
  unfold pe at h
  grind

set_option maxHeartbeats 4000000 in
set_option maxRecDepth 100000 in
theorem sX5_mayMove {d : Nat} {I : mm_I} {L : mm_L} {Q : mm_Q} {k e : Int32} (hk : 0 ≤ k) (h8 : k < 8) (h1 : fi ((I 1 k.toNatClampNeg).toInt64 + e.toInt64) → fi (pe (I 1) (I 2) k.toNatClampNeg + e.toInt64) → Q I L 1 0) (h0 : ¬ (fi ((I 1 k.toNatClampNeg).toInt64 + e.toInt64) ∧ fi (pe (I 1) (I 2) k.toNatClampNeg + e.toInt64)) → Q I L 0 0): mm_P shR msR (d + 2) 7 [.ref 0, .int k, .int e] I L Q := by
  refine pX5_mayMove ?_
  simp only [↓uX5_mayMove, ↓mm_r, mm_n, iaR, n10, not_true_eq_false, not_false_eq_true, false_implies, lg_cmp_ge, lg_cmp_le, lg_cmp_gt, lg_cmp_lt, lg_cmp_eq, true_and, and_true, true_or, or_true, true_implies, Classical.not_not, List.length_cons, List.length_nil, Nat.lt_iff_add_one_le, Nat.reduceAdd, Nat.reduceLeDiff, Nat.reduceEqDiff, Int.reduceAdd, reduceIte, Nat.reduceSub]
  have hv := vi8 hk h8
  refine ⟨hv, ?_⟩
  refine sX5_isInt (fun f1 => ?_) (fun f1 => ?_)
  · simp only [n10, not_false_eq_true, false_implies, true_implies, true_and, and_true, not_true_eq_false]
    refine sX5_endOf hk h8 ?_
    refine sX5_isInt (fun f2 => ?_) (fun f2 => ?_)
    · simp only [n10, not_false_eq_true, false_implies, true_implies, true_and, and_true, not_true_eq_false]
      exact h1 f1 f2
    · simp only [n10, not_false_eq_true, false_implies, true_implies, true_and, and_true, not_true_eq_false]
      exact h0 (fun q => f2 q.2)
  · simp only [n10, not_false_eq_true, false_implies, true_implies, true_and, and_true, not_true_eq_false]
    exact h0 (fun q => f1 q.1)

set_option maxHeartbeats 4000000 in
set_option maxRecDepth 100000 in
theorem sX5_jumpOf {d : Nat} {I : mm_I} {L : mm_L} {Q : mm_Q} {a b : Int32} (ha : 0 ≤ a) (ha8 : a < 8) (hb : 0 ≤ b) (hb8 : b < 8) (h : Q I L 0 (pj (I 1) (I 2) a.toNatClampNeg b.toNatClampNeg)): mm_P shR msR (d + 2) 16 [.ref 0, .int a, .int b] I L Q := by
  refine pX5_jumpOf ?_
  simp only [↓uX5_jumpOf, ↓mm_r, mm_n, iaR, n10, not_true_eq_false, not_false_eq_true, false_implies, lg_cmp_ge, lg_cmp_le, lg_cmp_gt, lg_cmp_lt, lg_cmp_eq, true_and, and_true, true_or, or_true, true_implies, Classical.not_not, List.length_cons, List.length_nil, Nat.lt_iff_add_one_le, Nat.reduceAdd, Nat.reduceLeDiff, Nat.reduceEqDiff, Int.reduceAdd, reduceIte, Nat.reduceSub]
  have hv := vi8 hb hb8
  refine ⟨hv, sX5_endOf ha ha8 ?_⟩
  unfold pj at h
  refine ⟨fun q => ?_, fun q => ?_⟩
  · rw [pj_alt]  at h
    rw [if_neg (by grind)] at h
    exact h
  · rw [pj_alt] at h
    rw [if_pos (by grind)] at h
    exact h

set_option maxHeartbeats 4000000 in
set_option maxRecDepth 100000 in
theorem sX5_sideBy {d : Nat} {I : mm_I} {L : mm_L} {Q : mm_Q} {k t : Int32} (ha : 0 ≤ k) (ha8 : k < 8) (hb : 0 ≤ t) (hb8 : t < 8) (h : Q I L (ps (I 1) (I 2) k.toNatClampNeg t.toNatClampNeg) 0): mm_P shR msR (d + 2) 26 [.ref 0, .int k, .int t] I L Q := by
  refine pX5_sideBy ?_
  simp only [↓uX5_sideBy, ↓mm_r, mm_n, iaR, n10, not_true_eq_false, not_false_eq_true, false_implies, lg_cmp_ge, lg_cmp_le, lg_cmp_gt, lg_cmp_lt, lg_cmp_eq, true_and, and_true, true_or, or_true, true_implies, Classical.not_not, List.length_cons, List.length_nil, Nat.lt_iff_add_one_le, Nat.reduceAdd, Nat.reduceLeDiff, Nat.reduceEqDiff, Int.reduceAdd, reduceIte, Nat.reduceSub]
  have hv := vi8 hb hb8
  have hv2 := vi8 ha ha8
  refine sX5_endOf ha ha8 ⟨hv, ?_, ?_⟩
  · intro h1
    refine ⟨hv2, ?_⟩
    refine sX5_endOf hb hb8 ⟨fun h2 => ?_, fun h2 => ?_⟩
    · unfold ps at h
      rw [if_neg (by grind), if_neg (by grind)] at h
      exact h
    · unfold ps at h
      rw [if_neg (by grind), if_pos (by grind)] at h
      exact h
  · intro h1
    unfold ps at h
    rw [if_pos (by grind)] at h
    exact h

set_option maxHeartbeats 4000000 in
set_option maxRecDepth 100000 in
theorem sX5_jumpsOf {d : Nat} {I : mm_I} {L : mm_L} {Q : mm_Q} {v : Int64} (h1 : 2147483647 < v → Q I L (-5) 0) (h0 : ¬ 2147483647 < v → Q I L v.toInt32 0): mm_P shR msR (d + 1) 36 [.long v] I L Q := by
  refine pX5_jumpsOf ?_
  simp only [↓uX5_jumpsOf, ↓mm_r, mm_n, iaR, n10, not_true_eq_false, not_false_eq_true, false_implies, lg_cmp_ge, lg_cmp_le, lg_cmp_gt, lg_cmp_lt, lg_cmp_eq, true_and, and_true, true_or, or_true, true_implies, Classical.not_not, List.length_cons, List.length_nil, Nat.lt_iff_add_one_le, Nat.reduceAdd, Nat.reduceLeDiff, Nat.reduceEqDiff, Int.reduceAdd, reduceIte, Nat.reduceSub]
  grind

set_option maxHeartbeats 4000000 in
set_option maxRecDepth 100000 in
theorem kX5_scene {d : Nat} {I : mm_I} {L : mm_L} {a b c e : Int32} (hv : vok (vR I)) : mm_P shR msR (d + 2) 5 [.ref 0, .int a, .int b, .int c, .int e] I L (fun I' _ ri _ => (vR I', ri) = q_scene (vR I) a b c e) := by
  have hn := vok_n0 hv
  simp only [vR, v_n] at hn
  refine pX5_scene ?_
  simp only [↓uX5_scene, ↓mm_r, mm_n, iaR, n10, not_true_eq_false, not_false_eq_true, false_implies, lg_cmp_ge, lg_cmp_le, lg_cmp_gt, lg_cmp_lt, lg_cmp_eq, true_and, and_true, true_or, or_true, true_implies, Classical.not_not, List.length_cons, List.length_nil, Nat.lt_iff_add_one_le, Nat.reduceAdd, Nat.reduceLeDiff, Nat.reduceEqDiff, Int.reduceAdd, reduceIte, Nat.reduceSub]
  have g1 : (b < 1 ∨ ¬ (0 ≤ c ∧ c ≤ 255) ∨ ¬ (0 ≤ e ∧ e ≤ 255)) → (vR I, -2) = q_scene (vR I) a b c e := fun h => by rw [q_scene, if_pos h]
  refine ⟨fun h1 => g1 (Or.inl h1), fun h1 => ?_⟩
  refine sX5_within (fun h2 h3 => ?_) (fun h2 => ?_)
  · simp only [n10, not_false_eq_true, false_implies, true_implies, true_and, and_true, not_true_eq_false]
    refine sX5_within (fun h4 h5 => ?_) (fun h4 => ?_)
    · simp only [n10, not_false_eq_true, false_implies, true_implies, true_and, and_true, not_true_eq_false]
      have g2 : ¬ (b < 1 ∨ ¬ (0 ≤ c ∧ c ≤ 255) ∨ ¬ (0 ≤ e ∧ e ≤ 255)) := by grind
      refine ⟨fun h6 => ?_, fun h6 => by rw [q_scene, if_neg g2, if_pos (by show 8 ≤ I 0 0; grind)]⟩
      have hi := vi8 hn.1 (show I 0 0 < 8 by grind)
      refine sX5_isInt (fun h7 => ?_) (fun h7 => ?_)
      · simp only [n10, not_false_eq_true, false_implies, true_implies, true_and, and_true, not_true_eq_false]
        refine ⟨hi, hi, hi, hi, ?_⟩
        rw [q_scene, if_neg g2, if_neg (by show ¬ 8 ≤ I 0 0; grind), if_neg (fun q => q h7)]
        simp only [vR, uif, uia, v_n, Nat.reduceEqDiff, reduceIte, upd, i32_as]
      · simp only [n10, not_false_eq_true, false_implies, true_implies, true_and, and_true, not_true_eq_false]
        rw [q_scene, if_neg g2, if_neg (by show ¬ 8 ≤ I 0 0; grind), if_pos h7]
    · simp only [n10, not_false_eq_true, false_implies, true_implies, true_and, and_true, not_true_eq_false]
      exact g1 (Or.inr (Or.inr h4))
  · simp only [n10, not_false_eq_true, false_implies, true_implies, true_and, and_true, not_true_eq_false]
    exact g1 (Or.inr (Or.inl h2))

set_option maxHeartbeats 4000000 in
set_option maxRecDepth 100000 in
theorem kX5_ofScene {d : Nat} {I : mm_I} {L : mm_L} {k w : Int32} (hv : vok (vR I)) : mm_P shR msR (d + 3) 6 [.ref 0, .int k, .int w] I L (fun I' _ _ rl => (vR I', rl) = q_ofScene (vR I) k w) := by
  have hn := vok_n0 hv
  simp only [vR, v_n] at hn
  refine pX5_ofScene ?_
  simp only [↓uX5_ofScene, ↓mm_r, mm_n, iaR, n10, not_true_eq_false, not_false_eq_true, false_implies, lg_cmp_ge, lg_cmp_le, lg_cmp_gt, lg_cmp_lt, lg_cmp_eq, true_and, and_true, true_or, or_true, true_implies, Classical.not_not, List.length_cons, List.length_nil, Nat.lt_iff_add_one_le, Nat.reduceAdd, Nat.reduceLeDiff, Nat.reduceEqDiff, Int.reduceAdd, reduceIte, Nat.reduceSub]
  refine sX5_isScene hn.1 (fun h1 h2 => ?_) (fun h1 => ?_)
  · simp only [n10, not_false_eq_true, false_implies, true_implies, true_and, and_true, not_true_eq_false]
    have h3 : k < 8 := by grind
    have hi := vi8 h1 h3
    have hs : ¬ ¬ is_sc (vR I) k := fun q => q ⟨h1, h2⟩
    refine ⟨⟨fun q => ⟨hi, ?_⟩, fun q => ⟨hi, ?_⟩, fun q => ?_, fun q => ⟨hi, ?_⟩, fun q => ⟨hi, ?_⟩⟩, fun q => ?_⟩
    · subst q
      rw [q_ofScene, if_neg hs, if_pos rfl]
      rfl
    · subst q
      rw [q_ofScene, if_neg hs, if_neg (by decide), if_pos rfl]
      rfl
    · subst q
      refine sX5_endOf h1 h3 ?_
      rw [q_ofScene, if_neg hs, if_neg (by decide), if_neg (by decide), if_pos rfl]
      rfl
    · subst q
      rw [q_ofScene, if_neg hs, if_neg (by decide), if_neg (by decide), if_neg (by decide), if_pos rfl]
      rfl
    · subst q
      rw [q_ofScene, if_neg hs, if_neg (by decide), if_neg (by decide), if_neg (by decide), if_neg (by decide), if_pos rfl]
      rfl
    · have e : ∀ z : Int32, 0 ≤ z.toInt → z.toInt ≤ 4 → ¬ w = z := fun z h1 h2 hz => by rw [hz] at q; omega
      rw [q_ofScene, if_neg hs, if_neg (e 0 (by decide) (by decide)), if_neg (e 1 (by decide) (by decide)), if_neg (e 2 (by decide) (by decide)), if_neg (e 3 (by decide) (by decide)), if_neg (e 4 (by decide) (by decide))]
  · simp only [n10, not_false_eq_true, false_implies, true_implies, true_and, and_true, not_true_eq_false]
    rw [q_ofScene, if_pos (show ¬ is_sc (vR I) k from h1)]

set_option maxHeartbeats 4000000 in
set_option maxRecDepth 100000 in
theorem kX5_move {d : Nat} {I : mm_I} {L : mm_L} {k e : Int32} (hv : vok (vR I)) : mm_P shR msR (d + 3) 8 [.ref 0, .int k, .int e] I L (fun I' _ ri _ => (vR I', ri) = q_move (vR I) k e) := by
  have hn := vok_n0 hv
  simp only [vR, v_n] at hn
  refine pX5_move ?_
  simp only [↓uX5_move, ↓mm_r, mm_n, iaR, n10, not_true_eq_false, not_false_eq_true, false_implies, lg_cmp_ge, lg_cmp_le, lg_cmp_gt, lg_cmp_lt, lg_cmp_eq, true_and, and_true, true_or, or_true, true_implies, Classical.not_not, List.length_cons, List.length_nil, Nat.lt_iff_add_one_le, Nat.reduceAdd, Nat.reduceLeDiff, Nat.reduceEqDiff, Int.reduceAdd, reduceIte, Nat.reduceSub]
  refine sX5_isScene hn.1 (fun h1 h2 => ?_) (fun h1 => ?_)
  · simp only [n10, not_false_eq_true, false_implies, true_implies, true_and, and_true, not_true_eq_false]
    have h3 : k < 8 := by grind
    have hi := vi8 h1 h3
    have hs : ¬ ¬ is_sc (vR I) k := fun q => q ⟨h1, h2⟩
    refine sX5_mayMove h1 h3 (fun f1 f2 => ?_) (fun f => ?_)
    · simp only [n10, not_false_eq_true, false_implies, true_implies, true_and, and_true, not_true_eq_false]
      refine ⟨hi, hi, ?_⟩
      rw [q_move, if_neg hs, if_neg (fun q => q ⟨f1, f2⟩)]
      simp only [vR, uif, uia, Nat.reduceEqDiff, reduceIte, upd]
    · simp only [n10, not_false_eq_true, false_implies, true_implies, true_and, and_true, not_true_eq_false]
      rw [q_move, if_neg hs]
      exact (if_pos f).symm
  · simp only [n10, not_false_eq_true, false_implies, true_implies, true_and, and_true, not_true_eq_false]
    rw [q_move, if_pos (show ¬ is_sc (vR I) k from h1)]

set_option maxHeartbeats 4000000 in
set_option maxRecDepth 100000 in
theorem kX5_stretch {d : Nat} {I : mm_I} {L : mm_L} {k t : Int32} (hv : vok (vR I)) : mm_P shR msR (d + 3) 10 [.ref 0, .int k, .int t] I L (fun I' _ ri _ => (vR I', ri) = q_stretch (vR I) k t) := by
  have hn := vok_n0 hv
  simp only [vR, v_n] at hn
  refine pX5_stretch ?_
  simp only [↓uX5_stretch, ↓mm_r, mm_n, iaR, n10, not_true_eq_false, not_false_eq_true, false_implies, lg_cmp_ge, lg_cmp_le, lg_cmp_gt, lg_cmp_lt, lg_cmp_eq, true_and, and_true, true_or, or_true, true_implies, Classical.not_not, List.length_cons, List.length_nil, Nat.lt_iff_add_one_le, Nat.reduceAdd, Nat.reduceLeDiff, Nat.reduceEqDiff, Int.reduceAdd, reduceIte, Nat.reduceSub]
  refine sX5_isScene hn.1 (fun h1 h2 => ?_) (fun h1 => ?_)
  · simp only [n10, not_false_eq_true, false_implies, true_implies, true_and, and_true, not_true_eq_false]
    have h3 : k < 8 := by grind
    have hi := vi8 h1 h3
    have hs : ¬ ¬ is_sc (vR I) k := fun q => q ⟨h1, h2⟩
    refine ⟨fun h4 => ?_, fun h4 => by rw [q_stretch, if_neg hs, if_pos (by grind)]⟩
    refine ⟨hi, ?_⟩
    have h5 : ¬ t < 1 := by grind
    refine sX5_isInt (fun f1 => ?_) (fun f1 => ?_)
    · simp only [n10, not_false_eq_true, false_implies, true_implies, true_and, and_true, not_true_eq_false]
      refine ⟨hi, ?_⟩
      refine sX5_isInt (fun f2 => ?_) (fun f2 => ?_)
      · simp only [n10, not_false_eq_true, false_implies, true_implies, true_and, and_true, not_true_eq_false]
        refine ⟨hi, ?_⟩
        rw [q_stretch, if_neg hs, if_neg h5, if_neg (fun q => q ⟨f1, f2⟩)]
        simp only [vR, uif, uia, Nat.reduceEqDiff, reduceIte, upd]
      · simp only [n10, not_false_eq_true, false_implies, true_implies, true_and, and_true, not_true_eq_false]
        rw [q_stretch, if_neg hs, if_neg h5, if_pos (fun q => f2 q.2)]
    · simp only [n10, not_false_eq_true, false_implies, true_implies, true_and, and_true, not_true_eq_false]
      rw [q_stretch, if_neg hs, if_neg h5, if_pos (fun q => f1 q.1)]
  · simp only [n10, not_false_eq_true, false_implies, true_implies, true_and, and_true, not_true_eq_false]
    rw [q_stretch, if_pos (show ¬ is_sc (vR I) k from h1)]

set_option maxHeartbeats 4000000 in
set_option maxRecDepth 100000 in
theorem kX5_drop {d : Nat} {I : mm_I} {L : mm_L}  (hv : vok (vR I)) : mm_P shR msR (d + 1) 14 [.ref 0] I L (fun I' _ ri _ => (vR I', ri) = q_drop (vR I)) := by
  have hn := vok_n0 hv
  simp only [vR, v_n] at hn
  refine pX5_drop ?_
  simp only [↓uX5_drop, ↓mm_r, mm_n, iaR, n10, not_true_eq_false, not_false_eq_true, false_implies, lg_cmp_ge, lg_cmp_le, lg_cmp_gt, lg_cmp_lt, lg_cmp_eq, true_and, and_true, true_or, or_true, true_implies, Classical.not_not, List.length_cons, List.length_nil, Nat.lt_iff_add_one_le, Nat.reduceAdd, Nat.reduceLeDiff, Nat.reduceEqDiff, Int.reduceAdd, reduceIte, Nat.reduceSub]
  refine ⟨fun h1 => ?_, fun h1 => by rw [q_drop, if_pos (by show I 0 0 ≤ 0; grind)]⟩
  rw [q_drop, if_neg (by show ¬ I 0 0 ≤ 0; grind)]
  simp only [vR, v_n, uif, uia, Nat.reduceEqDiff, reduceIte, upd]

set_option maxHeartbeats 4000000 in
set_option maxRecDepth 100000 in
theorem kX5_fee {d : Nat} {I : mm_I} {L : mm_L} {a : Int32} : mm_P shR msR (d + 2) 15 [.ref 0, .int a] I L (fun I' _ ri _ => (vR I', ri) = q_fee (vR I) a) := by
  refine pX5_fee ?_
  simp only [↓uX5_fee, ↓mm_r, mm_n, iaR, n10, not_true_eq_false, not_false_eq_true, false_implies, lg_cmp_ge, lg_cmp_le, lg_cmp_gt, lg_cmp_lt, lg_cmp_eq, true_and, and_true, true_or, or_true, true_implies, Classical.not_not, List.length_cons, List.length_nil, Nat.lt_iff_add_one_le, Nat.reduceAdd, Nat.reduceLeDiff, Nat.reduceEqDiff, Int.reduceAdd, reduceIte, Nat.reduceSub]
  refine sX5_within (fun h1 h2 => ?_) (fun h1 => ?_)
  · simp only [n10, not_false_eq_true, false_implies, true_implies, true_and, and_true, not_true_eq_false]
    rw [q_fee, if_neg (by grind)]
    simp only [vR, v_n, v_ns, v_fee, uif, uia, Nat.reduceEqDiff, reduceIte, upd]
  · simp only [n10, not_false_eq_true, false_implies, true_implies, true_and, and_true, not_true_eq_false]
    rw [q_fee, if_pos (by grind)]

set_option maxHeartbeats 4000000 in
set_option maxRecDepth 100000 in
theorem kX5_jump {d : Nat} {I : mm_I} {L : mm_L} {a b : Int32} (hv : vok (vR I)) : mm_P shR msR (d + 3) 17 [.ref 0, .int a, .int b] I L (fun I' _ _ rl => (vR I', rl) = q_jump (vR I) a b) := by
  have hn := vok_n0 hv
  simp only [vR, v_n] at hn
  refine pX5_jump ?_
  simp only [↓uX5_jump, ↓mm_r, mm_n, iaR, n10, not_true_eq_false, not_false_eq_true, false_implies, lg_cmp_ge, lg_cmp_le, lg_cmp_gt, lg_cmp_lt, lg_cmp_eq, true_and, and_true, true_or, or_true, true_implies, Classical.not_not, List.length_cons, List.length_nil, Nat.lt_iff_add_one_le, Nat.reduceAdd, Nat.reduceLeDiff, Nat.reduceEqDiff, Int.reduceAdd, reduceIte, Nat.reduceSub]
  refine sX5_isScene hn.1 (fun h1 h2 => ?_) (fun h1 => ?_)
  · simp only [n10, not_false_eq_true, false_implies, true_implies, true_and, and_true, not_true_eq_false]
    refine sX5_isScene hn.1 (fun h4 h5 => ?_) (fun h4 => ?_)
    · simp only [n10, not_false_eq_true, false_implies, true_implies, true_and, and_true, not_true_eq_false]
      refine ⟨fun h7 => by rw [q_jump, if_neg (fun q => q.2.2 h7)], fun h7 => ?_⟩
      refine sX5_jumpOf h1 (by grind) h4 (by grind) ?_
      rw [q_jump, if_pos ⟨⟨h1, h2⟩, ⟨h4, h5⟩, h7⟩]
      rfl
    · simp only [n10, not_false_eq_true, false_implies, true_implies, true_and, and_true, not_true_eq_false]
      rw [q_jump, if_neg (fun q => h4 q.2.1)]
  · simp only [n10, not_false_eq_true, false_implies, true_implies, true_and, and_true, not_true_eq_false]
    rw [q_jump, if_neg (fun q => h1 q.1)]

set_option maxHeartbeats 4000000 in
set_option maxRecDepth 100000 in
theorem kX5_add {d : Nat} {I : mm_I} {L : mm_L} {a : Int32} (hv : vok (vR I)) : mm_P shR msR (d + 2) 24 [.ref 0, .int a] I L (fun I' _ ri _ => (vR I', ri) = q_add (vR I) a) := by
  have hn := vok_ns0 hv
  simp only [vR, v_ns] at hn
  have go : ((0 ≤ a ∧ a < 8) ∨ a = 20 ∨ a = 21) → ¬ I 0 6 = 40 → vp_in (I 0 6) 40 ∧ (vR (mm_ui (mm_ui I 5 (I 0 6).toNatClampNeg a) 0 6 (I 0 6 + 1)), I 0 6 + 1) = q_add (vR I) a := fun h1 h2 => by
    refine ⟨vi40 hn.1 (by grind), ?_⟩
    rw [q_add, if_neg (fun q => q h1), if_neg (by show ¬ 40 ≤ I 0 6; grind)]
    simp only [vR, v_n, v_ns, v_fee, uif, uia, Nat.reduceEqDiff, reduceIte, upd]
  have fu : ((0 ≤ a ∧ a < 8) ∨ a = 20 ∨ a = 21) → I 0 6 = 40 → (vR I, -4) = q_add (vR I) a := fun h1 h2 => by rw [q_add, if_neg (fun q => q h1), if_pos (by show 40 ≤ I 0 6; grind)]
  have ou : ¬ ((0 ≤ a ∧ a < 8) ∨ a = 20 ∨ a = 21) → (vR I, -2) = q_add (vR I) a := fun h1 => by rw [q_add, if_pos h1]
  refine pX5_add ?_
  simp only [↓uX5_add, ↓mm_r, mm_n, iaR, n10, not_true_eq_false, not_false_eq_true, false_implies, lg_cmp_ge, lg_cmp_le, lg_cmp_gt, lg_cmp_lt, lg_cmp_eq, true_and, and_true, true_or, or_true, true_implies, Classical.not_not, List.length_cons, List.length_nil, Nat.lt_iff_add_one_le, Nat.reduceAdd, Nat.reduceLeDiff, Nat.reduceEqDiff, Int.reduceAdd, reduceIte, Nat.reduceSub]
  refine sX5_within (fun h1 h2 => ?_) (fun h1 => ?_)
  · simp only [n10, not_false_eq_true, false_implies, true_implies, true_and, and_true, not_true_eq_false]
    have hc : ((0 ≤ a ∧ a < 8) ∨ a = 20 ∨ a = 21) := by grind
    exact ⟨go hc, fu hc⟩
  · simp only [n10, not_false_eq_true, false_implies, true_implies, true_and, and_true, not_true_eq_false]
    refine ⟨fun h2 => ⟨go (by grind), fu (by grind)⟩, fun h2 => ⟨fun h3 => ⟨go (by grind), fu (by grind)⟩, fun h3 => ou (by grind)⟩⟩

set_option maxHeartbeats 4000000 in
set_option maxRecDepth 100000 in
theorem kX5_cut {d : Nat} {I : mm_I} {L : mm_L} {a : Int32} : mm_P shR msR (d + 2) 25 [.ref 0, .int a] I L (fun I' _ ri _ => (vR I', ri) = q_cut (vR I) a) := by
  refine pX5_cut ?_
  simp only [↓uX5_cut, ↓mm_r, mm_n, iaR, n10, not_true_eq_false, not_false_eq_true, false_implies, lg_cmp_ge, lg_cmp_le, lg_cmp_gt, lg_cmp_lt, lg_cmp_eq, true_and, and_true, true_or, or_true, true_implies, Classical.not_not, List.length_cons, List.length_nil, Nat.lt_iff_add_one_le, Nat.reduceAdd, Nat.reduceLeDiff, Nat.reduceEqDiff, Int.reduceAdd, reduceIte, Nat.reduceSub]
  refine sX5_within (fun h1 h2 => ?_) (fun h1 => ?_)
  · simp only [n10, not_false_eq_true, false_implies, true_implies, true_and, and_true, not_true_eq_false]
    rw [q_cut, if_neg (by show ¬ (a < 0 ∨ I 0 6 < a); grind)]
    simp only [vR, v_n, v_ns, v_fee, uif, uia, Nat.reduceEqDiff, reduceIte, upd]
  · simp only [n10, not_false_eq_true, false_implies, true_implies, true_and, and_true, not_true_eq_false]
    rw [q_cut, if_pos (by show (a < 0 ∨ I 0 6 < a); grind)]

set_option maxHeartbeats 4000000 in
set_option maxRecDepth 100000 in
theorem kX5_clue {d : Nat} {I : mm_I} {L : mm_L} {k c w s : Int32} (hv : vok (vR I)) (hs : s = 0 ∨ s = 1) : mm_P shR msR (d + 3) 11 [.ref 0, .int k, .int c, .int w, .int s] I L (fun I' _ ri _ => (vR I', ri) = q_clue (vR I) k c w s) := by
  have hn := vok_n0 hv
  simp only [vR, v_n] at hn
  refine pX5_clue ?_
  simp only [↓uX5_clue, ↓mm_r, mm_n, iaR, n10, not_true_eq_false, not_false_eq_true, false_implies, lg_cmp_ge, lg_cmp_le, lg_cmp_gt, lg_cmp_lt, lg_cmp_eq, true_and, and_true, true_or, or_true, true_implies, Classical.not_not, List.length_cons, List.length_nil, Nat.lt_iff_add_one_le, Nat.reduceAdd, Nat.reduceLeDiff, Nat.reduceEqDiff, Int.reduceAdd, reduceIte, Nat.reduceSub]
  refine sX5_isScene hn.1 (fun h1 h2 => ?_) (fun h1 => ?_)
  · simp only [n10, not_false_eq_true, false_implies, true_implies, true_and, and_true, not_true_eq_false]
    have h3 : k < 8 := by grind
    have hi := vi8 h1 h3
    refine sX5_isClue (fun h4 h5 => ?_) (fun h4 => ?_)
    · simp only [n10, not_false_eq_true, false_implies, true_implies, true_and, and_true, not_true_eq_false]
      have hq : ¬ ¬ (is_sc (vR I) k ∧ 0 ≤ c ∧ c < 8) := fun q => q ⟨⟨h1, h2⟩, h4, h5⟩
      refine sX5_within (fun h6 h7 => ?_) (fun h6 => ?_)
      · simp only [n10, not_false_eq_true, false_implies, true_implies, true_and, and_true, not_true_eq_false]
        have hw : w = 0 ∨ w = 1 := by grind
        rcases hw with rfl | rfl
        · rcases hs with rfl | rfl
          · simp only [n10, n01, hi, not_false_eq_true, true_implies, not_true_eq_false, false_implies, true_and, and_true]
            by_cases b : (I 3 k.toNatClampNeg >>> (c &&& 31)) &&& 1 = 1
            · simp only [b, not_false_eq_true, true_implies, not_true_eq_false, false_implies, true_and, and_true]
              rw [q_clue, if_neg hq, if_neg (fun q => q (Or.inl rfl)), if_pos rfl, if_neg (by simp only [vR]; grind)]
              simp only [vR, v_n, v_ns, v_fee, uif, uia, n10, Nat.reduceEqDiff, reduceIte, upd, not_true_eq_false, not_false_eq_true]
            · simp only [b, not_false_eq_true, true_implies, not_true_eq_false, false_implies, true_and, and_true]
              rw [q_clue, if_neg hq, if_neg (fun q => q (Or.inl rfl)), if_pos rfl, if_pos (by simp only [vR]; grind)]
          · simp only [n10, n01, hi, not_false_eq_true, true_implies, not_true_eq_false, false_implies, true_and, and_true]
            by_cases b : (I 3 k.toNatClampNeg >>> (c &&& 31)) &&& 1 = 1
            · simp only [b, not_false_eq_true, true_implies, not_true_eq_false, false_implies, true_and, and_true]
              rw [q_clue, if_neg hq, if_neg (fun q => q (Or.inl rfl)), if_pos rfl, if_pos (by simp only [vR]; grind)]
            · simp only [b, not_false_eq_true, true_implies, not_true_eq_false, false_implies, true_and, and_true]
              rw [q_clue, if_neg hq, if_neg (fun q => q (Or.inl rfl)), if_pos rfl, if_neg (by simp only [vR]; grind)]
              simp only [vR, v_n, v_ns, v_fee, uif, uia, n10, Nat.reduceEqDiff, reduceIte, upd, not_true_eq_false, not_false_eq_true]
        · rcases hs with rfl | rfl
          · simp only [n10, n01, hi, not_false_eq_true, true_implies, not_true_eq_false, false_implies, true_and, and_true]
            by_cases b : (I 4 k.toNatClampNeg >>> (c &&& 31)) &&& 1 = 1
            · simp only [b, not_false_eq_true, true_implies, not_true_eq_false, false_implies, true_and, and_true]
              rw [q_clue, if_neg hq, if_neg (fun q => q (Or.inr rfl)), if_neg (by decide), if_neg (by simp only [vR]; grind)]
              simp only [vR, v_n, v_ns, v_fee, uif, uia, n10, Nat.reduceEqDiff, reduceIte, upd, not_true_eq_false, not_false_eq_true]
            · simp only [b, not_false_eq_true, true_implies, not_true_eq_false, false_implies, true_and, and_true]
              rw [q_clue, if_neg hq, if_neg (fun q => q (Or.inr rfl)), if_neg (by decide), if_pos (by simp only [vR]; grind)]
          · simp only [n10, n01, hi, not_false_eq_true, true_implies, not_true_eq_false, false_implies, true_and, and_true]
            by_cases b : (I 4 k.toNatClampNeg >>> (c &&& 31)) &&& 1 = 1
            · simp only [b, not_false_eq_true, true_implies, not_true_eq_false, false_implies, true_and, and_true]
              rw [q_clue, if_neg hq, if_neg (fun q => q (Or.inr rfl)), if_neg (by decide), if_pos (by simp only [vR]; grind)]
            · simp only [b, not_false_eq_true, true_implies, not_true_eq_false, false_implies, true_and, and_true]
              rw [q_clue, if_neg hq, if_neg (fun q => q (Or.inr rfl)), if_neg (by decide), if_neg (by simp only [vR]; grind)]
              simp only [vR, v_n, v_ns, v_fee, uif, uia, n10, Nat.reduceEqDiff, reduceIte, upd, not_true_eq_false, not_false_eq_true]
      · simp only [n10, not_false_eq_true, false_implies, true_implies, true_and, and_true, not_true_eq_false]
        rw [q_clue, if_neg hq, if_pos (by grind)]
    · simp only [n10, not_false_eq_true, false_implies, true_implies, true_and, and_true, not_true_eq_false]
      rw [q_clue, if_pos (fun q => h4 q.2)]
  · simp only [n10, not_false_eq_true, false_implies, true_implies, true_and, and_true, not_true_eq_false]
    rw [q_clue, if_pos (fun q => h1 q.1)]
end
section
/-! ===== shift, ofClue, on both sides ===== -/
def shf (fr : Nat → Int32) (e : Int32) (n : Nat) : Nat → Int32 := fun k => if k < n then fr k + e else fr k
abbrev mvs (fr ln : Nat → Int32) (e : Int32) (k : Nat) : Prop := fi ((fr k).toInt64 + e.toInt64) ∧ fi (pe fr ln k + e.toInt64)
def q_shift (v : pv) (e : Int32) : pv × Int32 := if ∀ k, k < (v_n v).toNatClampNeg → mvs v.1 v.2.1 e k then ((shf v.1 e (v_n v).toNatClampNeg, v.2), v_n v) else (v, -5)
/-- scenes below n whose row has the clue, as a set -/
def po (row : Nat → Int32) (c : Int32) : Nat → Int32
  | 0 => 0
  | k + 1 => if (row k >>> (c &&& 31)) &&& 1 = 1 then po row c k ||| (1 <<< (nI k &&& 31)) else po row c k
def q_ofClue (v : pv) (c w : Int32) : pv × Int32 := if ¬ (0 ≤ c ∧ c < 8) then (v, -1) else if ¬ (w = 0 ∨ w = 1) then (v, -2) else (v, po (if w = 0 then v.2.2.1 else v.2.2.2.1) c (v_n v).toNatClampNeg)
theorem urf (I : mm_I) (x : Nat) (f : Nat → Int32) (k : Nat) : mm_ur I x f k = if k = x then f else I k := by
  split
  · rename_i h
    subst h
    exact mm_ur_row I k f
  · rename_i h
    exact mm_ur_off I f h
theorem shf_0 (I : mm_I) (a : Nat) (e : Int32) : mm_ur I a (shf (I a) e 0) = I := by
  funext b j
  simp only [mm_ur, shf, Nat.not_lt_zero, if_false]
  split
  · rename_i h
    rw [h]
  · rfl
theorem shf_k (fr : Nat → Int32) (e : Int32) (k : Nat) : shf fr e k k = fr k := by
  simp [shf]
theorem shf_s (I : mm_I) (a : Nat) (e : Int32) (k : Nat) : mm_ui (mm_ur I a (shf (I a) e k)) a k (I a k + e) = mm_ur I a (shf (I a) e (k + 1)) := by
  funext b j
  simp only [mm_ui, mm_ur, shf]
  by_cases hb : b = a
  · subst hb
    simp only [if_true]
    by_cases hj : j = k
    · subst hj
      simp
    · simp only [hj, if_false]
      by_cases h : j < k
      · simp only [h, if_true, show j < k + 1 by omega]
      · simp only [h, if_false, show ¬ j < k + 1 by omega]
  · simp only [hb, if_false]
set_option maxHeartbeats 4000000 in
set_option maxRecDepth 100000 in
theorem lX4_shift2 {d : Nat} {I : mm_I} {L : mm_L} {Q : mm_Q} {e : Int32} {n : Nat} (hn : I 1 4 = nI n) (h8 : n ≤ 8) (h : Q (mm_ui (mm_ui (mm_ur I 2 (shf (I 2) e n)) 13 4 0) 16 10 0) L (nI n) 0) : ∀ (m k : Nat), k + m = n → mm_W shC (mm_P shC msC (d + 1)) tbX4_shift Q 19 [.ref 0, .int e, .int (nI k)] [] (mm_ur I 2 (shf (I 2) e k)) L := by
  intro m
  induction m with
  | zero =>
    intro k hk
    have e1 : k = n := by omega
    subst e1
    refine mm_hk 60 ?_
    simp only [↓hX4_shift, ↓uX4_shift, ↓mm_r, mm_n, iaC, n10, not_true_eq_false, not_false_eq_true, false_implies, lg_cmp_ge, lg_cmp_le, lg_cmp_gt, lg_cmp_lt, lg_cmp_eq, true_and, and_true, true_or, or_true, true_implies, Classical.not_not, List.length_cons, List.length_nil, Nat.lt_iff_add_one_le, Nat.reduceAdd, Nat.reduceLeDiff, Nat.reduceEqDiff, Int.reduceAdd, reduceIte, Nat.reduceSub]
    simp only [hn, ni_le (a := k) (b := k) (by omega) (by omega)]
    refine ⟨fun _ => sX4_forgetBest ?_, fun q => absurd (Nat.le_refl k) q⟩
    simp only [uia, Nat.reduceEqDiff, reduceIte, mm_ur, hn]
    exact h
  | succ m ih =>
    intro k hk
    refine mm_hk 60 ?_
    simp only [↓hX4_shift, ↓uX4_shift, ↓mm_r, mm_n, iaC, n10, not_true_eq_false, not_false_eq_true, false_implies, lg_cmp_ge, lg_cmp_le, lg_cmp_gt, lg_cmp_lt, lg_cmp_eq, true_and, and_true, true_or, or_true, true_implies, Classical.not_not, List.length_cons, List.length_nil, Nat.lt_iff_add_one_le, Nat.reduceAdd, Nat.reduceLeDiff, Nat.reduceEqDiff, Int.reduceAdd, reduceIte, Nat.reduceSub]
    simp only [hn, ni_le (a := n) (b := k) (by omega) (by omega), ni_8 (a := k) (by omega), ni_cl (a := k) (by omega), nI_1, shf_k, shf_s]
    exact ⟨fun q => absurd q (by omega), fun _ => ⟨fun q => absurd q (by omega), fun _ => ⟨ni_in (by omega) (by omega), ni_in (by omega) (by omega), ih (k + 1) (by omega)⟩⟩⟩
set_option maxHeartbeats 4000000 in
set_option maxRecDepth 100000 in
theorem lX4_shift {d : Nat} {I : mm_I} {L : mm_L} {Q : mm_Q} {e : Int32} {n : Nat} (hn : I 1 4 = nI n) (h8 : n ≤ 8) (h1 : (∀ k, k < n → mvs (I 2) (I 3) e k) → Q (mm_ui (mm_ui (mm_ur I 2 (shf (I 2) e n)) 13 4 0) 16 10 0) L (nI n) 0) (h0 : ¬ (∀ k, k < n → mvs (I 2) (I 3) e k) → Q I L (-5) 0) : ∀ (m k : Nat), k + m = n → (∀ j, j < k → mvs (I 2) (I 3) e j) → mm_W shC (mm_P shC msC (d + 2)) tbX4_shift Q 2 [.ref 0, .int e, .int (nI k)] [] I L := by
  intro m
  induction m with
  | zero =>
    intro k hk hj
    have e1 : k = n := by omega
    subst e1
    refine mm_hk 60 ?_
    simp only [↓hX4_shift, ↓uX4_shift, ↓mm_r, mm_n, iaC, n10, not_true_eq_false, not_false_eq_true, false_implies, lg_cmp_ge, lg_cmp_le, lg_cmp_gt, lg_cmp_lt, lg_cmp_eq, true_and, and_true, true_or, or_true, true_implies, Classical.not_not, List.length_cons, List.length_nil, Nat.lt_iff_add_one_le, Nat.reduceAdd, Nat.reduceLeDiff, Nat.reduceEqDiff, Int.reduceAdd, reduceIte, Nat.reduceSub]
    simp only [hn, ni_le (a := k) (b := k) (by omega) (by omega)]
    refine ⟨fun _ => ?_, fun q => absurd (Nat.le_refl k) q⟩
    have := lX4_shift2 (d := d + 1) hn h8 (h1 hj) k 0 (by omega)
    rw [shf_0] at this
    exact this
  | succ m ih =>
    intro k hk hj
    refine mm_hk 60 ?_
    simp only [↓hX4_shift, ↓uX4_shift, ↓mm_r, mm_n, iaC, n10, not_true_eq_false, not_false_eq_true, false_implies, lg_cmp_ge, lg_cmp_le, lg_cmp_gt, lg_cmp_lt, lg_cmp_eq, true_and, and_true, true_or, or_true, true_implies, Classical.not_not, List.length_cons, List.length_nil, Nat.lt_iff_add_one_le, Nat.reduceAdd, Nat.reduceLeDiff, Nat.reduceEqDiff, Int.reduceAdd, reduceIte, Nat.reduceSub]
    simp only [hn, ni_le (a := n) (b := k) (by omega) (by omega), nI_1]
    refine ⟨fun q => absurd q (by omega), fun _ => ?_⟩
    refine sX0_canMove (by rw [ni_00 (by omega)]; trivial) (by rw [hn, ni_lt (by omega) (by omega)]; omega) (by rw [ni_l8 (by omega)]; omega) (fun f1 f2 => ?_) (fun f => ?_)
    · simp only [n10, not_false_eq_true, false_implies, true_implies, true_and, and_true, not_true_eq_false]
      rw [ni_cl (by omega)] at f1 f2
      exact ih (k + 1) (by omega) (fun j hj2 => by
        rcases Nat.lt_or_ge j k with q | q
        · exact hj j q
        · have : j = k := by omega
          subst this
          exact ⟨f1, f2⟩)
    · simp only [n10, not_false_eq_true, false_implies, true_implies, true_and, and_true, not_true_eq_false]
      rw [ni_cl (by omega)] at f
      exact h0 (fun q => f (q k (by omega)))
set_option maxHeartbeats 4000000 in
set_option maxRecDepth 100000 in
theorem kX4_shift {d : Nat} {I : mm_I} {L : mm_L} {e : Int32} (hv : vok (vC I)) : mm_P shC msC (d + 3) 39 [.ref 0, .int e] I L (fun I' L' ri _ => (vC I', ri) = q_shift (vC I) e ∧ kc I L I' L') := by
  obtain ⟨n, hn, h8⟩ := vok_n hv
  have hn : I 1 4 = nI n := hn
  refine pX4_shift ?_
  simp only [↓hX4_shift, ↓uX4_shift, ↓mm_r, mm_n, iaC, n10, not_true_eq_false, not_false_eq_true, false_implies, lg_cmp_ge, lg_cmp_le, lg_cmp_gt, lg_cmp_lt, lg_cmp_eq, true_and, and_true, true_or, or_true, true_implies, Classical.not_not, List.length_cons, List.length_nil, Nat.lt_iff_add_one_le, Nat.reduceAdd, Nat.reduceLeDiff, Nat.reduceEqDiff, Int.reduceAdd, reduceIte, Nat.reduceSub]
  have hc : (v_n (vC I)).toNatClampNeg = n := by show (I 1 4).toNatClampNeg = n; rw [hn, ni_cl (by omega)]
  refine lX4_shift hn h8 (fun h => ⟨?_, kcf ?_ ?_⟩) (fun h => ⟨?_, kcs⟩) n 0 (by omega) (fun j hj => absurd hj (by omega))
  · rw [q_shift, hc, if_pos (show ∀ k, k < n → mvs (vC I).1 (vC I).2.1 e k from h)]
    simp only [vC, uif, uia, urf, Nat.reduceEqDiff, reduceIte, v_n, hn]
  · simp only [uia, Nat.reduceEqDiff, reduceIte]
  · simp only [uia, Nat.reduceEqDiff, reduceIte]
  · rw [q_shift, hc, if_neg (show ¬ ∀ k, k < n → mvs (vC I).1 (vC I).2.1 e k from h)]
set_option maxHeartbeats 4000000 in
set_option maxRecDepth 100000 in
theorem lX5_shift2 {d : Nat} {I : mm_I} {L : mm_L} {Q : mm_Q} {e : Int32} {n : Nat} (hn : I 0 0 = nI n) (h8 : n ≤ 8) (h : Q (mm_ur I 1 (shf (I 1) e n)) L (nI n) 0) : ∀ (m k : Nat), k + m = n → mm_W shR (mm_P shR msR d) tbX5_shift Q 17 [.ref 0, .int e, .int (nI k)] [] (mm_ur I 1 (shf (I 1) e k)) L := by
  intro m
  induction m with
  | zero =>
    intro k hk
    have e1 : k = n := by omega
    subst e1
    refine mm_hk 60 ?_
    simp only [↓hX5_shift, ↓uX5_shift, ↓mm_r, mm_n, iaR, n10, not_true_eq_false, not_false_eq_true, false_implies, lg_cmp_ge, lg_cmp_le, lg_cmp_gt, lg_cmp_lt, lg_cmp_eq, true_and, and_true, true_or, or_true, true_implies, Classical.not_not, List.length_cons, List.length_nil, Nat.lt_iff_add_one_le, Nat.reduceAdd, Nat.reduceLeDiff, Nat.reduceEqDiff, Int.reduceAdd, reduceIte, Nat.reduceSub]
    simp only [hn, ni_le (a := k) (b := k) (by omega) (by omega)]
    exact ⟨fun _ => h, fun q => absurd (Nat.le_refl k) q⟩
  | succ m ih =>
    intro k hk
    refine mm_hk 60 ?_
    simp only [↓hX5_shift, ↓uX5_shift, ↓mm_r, mm_n, iaR, n10, not_true_eq_false, not_false_eq_true, false_implies, lg_cmp_ge, lg_cmp_le, lg_cmp_gt, lg_cmp_lt, lg_cmp_eq, true_and, and_true, true_or, or_true, true_implies, Classical.not_not, List.length_cons, List.length_nil, Nat.lt_iff_add_one_le, Nat.reduceAdd, Nat.reduceLeDiff, Nat.reduceEqDiff, Int.reduceAdd, reduceIte, Nat.reduceSub]
    simp only [hn, ni_le (a := n) (b := k) (by omega) (by omega), ni_cl (a := k) (by omega), nI_1, shf_k, shf_s]
    exact ⟨fun q => absurd q (by omega), fun _ => ⟨ni_in (by omega) (by omega), ni_in (by omega) (by omega), ih (k + 1) (by omega)⟩⟩
set_option maxHeartbeats 4000000 in
set_option maxRecDepth 100000 in
theorem lX5_shift {d : Nat} {I : mm_I} {L : mm_L} {Q : mm_Q} {e : Int32} {n : Nat} (hn : I 0 0 = nI n) (h8 : n ≤ 8) (h1 : (∀ k, k < n → mvs (I 1) (I 2) e k) → Q (mm_ur I 1 (shf (I 1) e n)) L (nI n) 0) (h0 : ¬ (∀ k, k < n → mvs (I 1) (I 2) e k) → Q I L (-5) 0) : ∀ (m k : Nat), k + m = n → (∀ j, j < k → mvs (I 1) (I 2) e j) → mm_W shR (mm_P shR msR (d + 2)) tbX5_shift Q 2 [.ref 0, .int e, .int (nI k)] [] I L := by
  intro m
  induction m with
  | zero =>
    intro k hk hj
    have e1 : k = n := by omega
    subst e1
    refine mm_hk 60 ?_
    simp only [↓hX5_shift, ↓uX5_shift, ↓mm_r, mm_n, iaR, n10, not_true_eq_false, not_false_eq_true, false_implies, lg_cmp_ge, lg_cmp_le, lg_cmp_gt, lg_cmp_lt, lg_cmp_eq, true_and, and_true, true_or, or_true, true_implies, Classical.not_not, List.length_cons, List.length_nil, Nat.lt_iff_add_one_le, Nat.reduceAdd, Nat.reduceLeDiff, Nat.reduceEqDiff, Int.reduceAdd, reduceIte, Nat.reduceSub]
    simp only [hn, ni_le (a := k) (b := k) (by omega) (by omega)]
    refine ⟨fun _ => ?_, fun q => absurd (Nat.le_refl k) q⟩
    have := lX5_shift2 (d := d + 2) hn h8 (h1 hj) k 0 (by omega)
    rw [shf_0] at this
    exact this
  | succ m ih =>
    intro k hk hj
    refine mm_hk 60 ?_
    simp only [↓hX5_shift, ↓uX5_shift, ↓mm_r, mm_n, iaR, n10, not_true_eq_false, not_false_eq_true, false_implies, lg_cmp_ge, lg_cmp_le, lg_cmp_gt, lg_cmp_lt, lg_cmp_eq, true_and, and_true, true_or, or_true, true_implies, Classical.not_not, List.length_cons, List.length_nil, Nat.lt_iff_add_one_le, Nat.reduceAdd, Nat.reduceLeDiff, Nat.reduceEqDiff, Int.reduceAdd, reduceIte, Nat.reduceSub]
    simp only [hn, ni_le (a := n) (b := k) (by omega) (by omega), nI_1]
    refine ⟨fun q => absurd q (by omega), fun _ => ?_⟩
    refine sX5_mayMove (by rw [ni_00 (by omega)]; trivial) (by rw [ni_l8 (by omega)]; omega) (fun f1 f2 => ?_) (fun f => ?_)
    · simp only [n10, not_false_eq_true, false_implies, true_implies, true_and, and_true, not_true_eq_false]
      rw [ni_cl (by omega)] at f1 f2
      exact ih (k + 1) (by omega) (fun j hj2 => by
        rcases Nat.lt_or_ge j k with q | q
        · exact hj j q
        · have : j = k := by omega
          subst this
          exact ⟨f1, f2⟩)
    · simp only [n10, not_false_eq_true, false_implies, true_implies, true_and, and_true, not_true_eq_false]
      rw [ni_cl (by omega)] at f
      exact h0 (fun q => f (q k (by omega)))
set_option maxHeartbeats 4000000 in
set_option maxRecDepth 100000 in
theorem kX5_shift {d : Nat} {I : mm_I} {L : mm_L} {e : Int32} (hv : vok (vR I)) : mm_P shR msR (d + 3) 9 [.ref 0, .int e] I L (fun I' _ ri _ => (vR I', ri) = q_shift (vR I) e) := by
  obtain ⟨n, hn, h8⟩ := vok_n hv
  have hn : I 0 0 = nI n := hn
  refine pX5_shift ?_
  simp only [↓hX5_shift, ↓uX5_shift, ↓mm_r, mm_n, iaR, n10, not_true_eq_false, not_false_eq_true, false_implies, lg_cmp_ge, lg_cmp_le, lg_cmp_gt, lg_cmp_lt, lg_cmp_eq, true_and, and_true, true_or, or_true, true_implies, Classical.not_not, List.length_cons, List.length_nil, Nat.lt_iff_add_one_le, Nat.reduceAdd, Nat.reduceLeDiff, Nat.reduceEqDiff, Int.reduceAdd, reduceIte, Nat.reduceSub]
  have hc : (v_n (vR I)).toNatClampNeg = n := by show (I 0 0).toNatClampNeg = n; rw [hn, ni_cl (by omega)]
  refine lX5_shift hn h8 (fun h => ?_) (fun h => ?_) n 0 (by omega) (fun j hj => absurd hj (by omega))
  · rw [q_shift, hc, if_pos (show ∀ k, k < n → mvs (vR I).1 (vR I).2.1 e k from h)]
    simp only [vR, uif, uia, urf, Nat.reduceEqDiff, reduceIte, v_n, hn]
  · rw [q_shift, hc, if_neg (show ¬ ∀ k, k < n → mvs (vR I).1 (vR I).2.1 e k from h)]
set_option maxHeartbeats 4000000 in
set_option maxRecDepth 100000 in
theorem lX4_ofClue {d : Nat} {I : mm_I} {L : mm_L} {Q : mm_Q} {c w : Int32} {r n : Nat} (hr : mm_ia shC r = 8) (hn : I 1 4 = nI n) (h8 : n ≤ 8) (h : Q I L (po (I r) c n) 0) : ∀ (m k : Nat), k + m = n → mm_W shC (mm_P shC msC (d + 1)) tbX4_ofClue Q 26 [.ref 0, .int c, .int w, .ref r, .int (po (I r) c k), .int (nI k)] [] I L := by
  intro m
  induction m with
  | zero =>
    intro k hk
    have e1 : k = n := by omega
    subst e1
    refine mm_hk 60 ?_
    simp only [↓hX4_ofClue, ↓uX4_ofClue, ↓mm_r, mm_n, iaC, n10, not_true_eq_false, not_false_eq_true, false_implies, lg_cmp_ge, lg_cmp_le, lg_cmp_gt, lg_cmp_lt, lg_cmp_eq, true_and, and_true, true_or, or_true, true_implies, Classical.not_not, List.length_cons, List.length_nil, Nat.lt_iff_add_one_le, Nat.reduceAdd, Nat.reduceLeDiff, Nat.reduceEqDiff, Int.reduceAdd, reduceIte, Nat.reduceSub]
    simp only [hn, ni_le (a := k) (b := k) (by omega) (by omega)]
    exact ⟨fun _ => h, fun q => absurd (Nat.le_refl k) q⟩
  | succ m ih =>
    intro k hk
    refine mm_hk 60 ?_
    simp only [↓hX4_ofClue, ↓uX4_ofClue, ↓mm_r, mm_n, iaC, n10, not_true_eq_false, not_false_eq_true, false_implies, lg_cmp_ge, lg_cmp_le, lg_cmp_gt, lg_cmp_lt, lg_cmp_eq, true_and, and_true, true_or, or_true, true_implies, Classical.not_not, List.length_cons, List.length_nil, Nat.lt_iff_add_one_le, Nat.reduceAdd, Nat.reduceLeDiff, Nat.reduceEqDiff, Int.reduceAdd, reduceIte, Nat.reduceSub]
    simp only [hn, hr, ni_le (a := n) (b := k) (by omega) (by omega), ni_8 (a := k) (by omega), ni_cl (a := k) (by omega), nI_1]
    refine ⟨fun q => absurd q (by omega), fun _ => ⟨fun q => absurd q (by omega), fun _ => ⟨ni_in (by omega) (by omega), ?_⟩⟩⟩
    have h2 := ih (k + 1) (by omega)
    refine sX4_isIn (fun b => ?_) (fun b => ?_)
    · simp only [n10, not_false_eq_true, false_implies, true_implies, true_and, and_true, not_true_eq_false]
      rw [show po (I r) c (k + 1) = po (I r) c k ||| (1 <<< (nI k &&& 31)) from if_pos b] at h2
      exact h2
    · simp only [n10, not_false_eq_true, false_implies, true_implies, true_and, and_true, not_true_eq_false]
      rw [show po (I r) c (k + 1) = po (I r) c k from if_neg b] at h2
      exact h2
set_option maxHeartbeats 4000000 in
set_option maxRecDepth 100000 in
theorem kX4_ofClue {d : Nat} {I : mm_I} {L : mm_L} {c w : Int32} (hv : vok (vC I)) : mm_P shC msC (d + 2) 42 [.ref 0, .int c, .int w] I L (fun I' L' ri _ => (vC I', ri) = q_ofClue (vC I) c w ∧ kc I L I' L') := by
  obtain ⟨n, hn, h8⟩ := vok_n hv
  have hn : I 1 4 = nI n := hn
  have hc : (v_n (vC I)).toNatClampNeg = n := by show (I 1 4).toNatClampNeg = n; rw [hn, ni_cl (by omega)]
  refine pX4_ofClue ?_
  simp only [↓hX4_ofClue, ↓uX4_ofClue, ↓mm_r, mm_n, iaC, n10, not_true_eq_false, not_false_eq_true, false_implies, lg_cmp_ge, lg_cmp_le, lg_cmp_gt, lg_cmp_lt, lg_cmp_eq, true_and, and_true, true_or, or_true, true_implies, Classical.not_not, List.length_cons, List.length_nil, Nat.lt_iff_add_one_le, Nat.reduceAdd, Nat.reduceLeDiff, Nat.reduceEqDiff, Int.reduceAdd, reduceIte, Nat.reduceSub]
  refine sX4_isClue (fun h1 h2 => ?_) (fun h1 => ?_)
  · simp only [n10, not_false_eq_true, false_implies, true_implies, true_and, and_true, not_true_eq_false]
    have h3 : ¬ ¬ (0 ≤ c ∧ c < 8) := fun q => q ⟨h1, h2⟩
    by_cases w0 : w = 0
    · subst w0
      simp only [true_implies, not_true_eq_false, false_implies, true_and, and_true]
      refine lX4_ofClue (by decide +kernel) hn h8 ⟨?_, kcs⟩ n 0 (by omega)
      rw [q_ofClue, if_neg h3, if_neg (fun q => q (Or.inl rfl)), if_pos rfl, hc]
      rfl
    · by_cases w1 : w = 1
      · subst w1
        simp only [n10, true_implies, not_true_eq_false, not_false_eq_true, false_implies, true_and, and_true]
        refine lX4_ofClue (by decide +kernel) hn h8 ⟨?_, kcs⟩ n 0 (by omega)
        rw [q_ofClue, if_neg h3, if_neg (fun q => q (Or.inr rfl)), if_neg (by decide), hc]
        rfl
      · simp only [w0, w1, true_implies, not_true_eq_false, not_false_eq_true, false_implies, true_and, and_true]
        exact ⟨by rw [q_ofClue, if_neg h3, if_pos (by grind)], kcs⟩
  · simp only [n10, not_false_eq_true, false_implies, true_implies, true_and, and_true, not_true_eq_false]
    exact ⟨by rw [q_ofClue, if_pos h1], kcs⟩
theorem or_z (a : Int32) : a ||| 0 = a := by
  apply b_ext
  intro i hi
  rw [b_or, b_0]
  simp
set_option maxHeartbeats 4000000 in
set_option maxRecDepth 100000 in
theorem lX5_setOf {d : Nat} {I : mm_I} {L : mm_L} {Q : mm_Q} {c w : Int32} {n : Nat} (hn : I 0 0 = nI n) (h8 : n ≤ 8) (h : Q I L (po (if w = 0 then I 3 else I 4) c n) 0) : ∀ (m k : Nat) (z : Value), k + m = n → mm_W shR (mm_P shR msR d) tbX5_setOf Q 4 [.ref 0, .int c, .int w, .int (po (if w = 0 then I 3 else I 4) c k), .int (nI k), z] [] I L := by
  intro m
  induction m with
  | zero =>
    intro k z hk
    have e1 : k = n := by omega
    subst e1
    refine mm_hk 60 ?_
    simp only [↓hX5_setOf, ↓uX5_setOf, ↓mm_r, mm_n, iaR, n10, not_true_eq_false, not_false_eq_true, false_implies, lg_cmp_ge, lg_cmp_le, lg_cmp_gt, lg_cmp_lt, lg_cmp_eq, true_and, and_true, true_or, or_true, true_implies, Classical.not_not, List.length_cons, List.length_nil, Nat.lt_iff_add_one_le, Nat.reduceAdd, Nat.reduceLeDiff, Nat.reduceEqDiff, Int.reduceAdd, reduceIte, Nat.reduceSub]
    simp only [hn, ni_le (a := k) (b := k) (by omega) (by omega)]
    exact ⟨fun _ => h, fun q => absurd (Nat.le_refl k) q⟩
  | succ m ih =>
    intro k z hk
    refine mm_hk 60 ?_
    simp only [↓hX5_setOf, ↓uX5_setOf, ↓mm_r, mm_n, iaR, n10, not_true_eq_false, not_false_eq_true, false_implies, lg_cmp_ge, lg_cmp_le, lg_cmp_gt, lg_cmp_lt, lg_cmp_eq, true_and, and_true, true_or, or_true, true_implies, Classical.not_not, List.length_cons, List.length_nil, Nat.lt_iff_add_one_le, Nat.reduceAdd, Nat.reduceLeDiff, Nat.reduceEqDiff, Int.reduceAdd, reduceIte, Nat.reduceSub]
    simp only [hn, ni_le (a := n) (b := k) (by omega) (by omega), ni_cl (a := k) (by omega), nI_1, or_z]
    refine ⟨fun q => absurd q (by omega), fun _ => ⟨fun w0 => ⟨ni_in (by omega) (by omega), fun b => ?_, fun b => ?_⟩, fun w0 => ⟨ni_in (by omega) (by omega), fun b => ?_, fun b => ?_⟩⟩⟩
    · have h2 := ih (k + 1) (.int (I 4 k)) (by omega)
      rw [show po (if w = 0 then I 3 else I 4) c (k + 1) = po (if w = 0 then I 3 else I 4) c k from if_neg (by rw [if_neg w0]; exact b)] at h2
      exact h2
    · have h2 := ih (k + 1) (.int (I 4 k)) (by omega)
      rw [show po (if w = 0 then I 3 else I 4) c (k + 1) = po (if w = 0 then I 3 else I 4) c k ||| (1 <<< (nI k &&& 31)) from if_pos (by rw [if_neg w0]; exact b)] at h2
      exact h2
    · have h2 := ih (k + 1) (.int (I 3 k)) (by omega)
      rw [show po (if w = 0 then I 3 else I 4) c (k + 1) = po (if w = 0 then I 3 else I 4) c k from if_neg (by rw [if_pos w0]; exact b)] at h2
      exact h2
    · have h2 := ih (k + 1) (.int (I 3 k)) (by omega)
      rw [show po (if w = 0 then I 3 else I 4) c (k + 1) = po (if w = 0 then I 3 else I 4) c k ||| (1 <<< (nI k &&& 31)) from if_pos (by rw [if_pos w0]; exact b)] at h2
      exact h2
set_option maxHeartbeats 4000000 in
set_option maxRecDepth 100000 in
theorem sX5_setOf {d : Nat} {I : mm_I} {L : mm_L} {Q : mm_Q} {c w : Int32} {n : Nat} (hn : I 0 0 = nI n) (h8 : n ≤ 8) (h : Q I L (po (if w = 0 then I 3 else I 4) c n) 0) : mm_P shR msR (d + 1) 12 [.ref 0, .int c, .int w] I L Q := by
  refine pX5_setOf ?_
  simp only [↓hX5_setOf, ↓uX5_setOf, ↓mm_r, mm_n, iaR, n10, not_true_eq_false, not_false_eq_true, false_implies, lg_cmp_ge, lg_cmp_le, lg_cmp_gt, lg_cmp_lt, lg_cmp_eq, true_and, and_true, true_or, or_true, true_implies, Classical.not_not, List.length_cons, List.length_nil, Nat.lt_iff_add_one_le, Nat.reduceAdd, Nat.reduceLeDiff, Nat.reduceEqDiff, Int.reduceAdd, reduceIte, Nat.reduceSub]
  exact lX5_setOf hn h8 h n 0 .null (by omega)
set_option maxHeartbeats 4000000 in
set_option maxRecDepth 100000 in
theorem kX5_ofClue {d : Nat} {I : mm_I} {L : mm_L} {c w : Int32} (hv : vok (vR I)) : mm_P shR msR (d + 3) 13 [.ref 0, .int c, .int w] I L (fun I' _ ri _ => (vR I', ri) = q_ofClue (vR I) c w) := by
  obtain ⟨n, hn, h8⟩ := vok_n hv
  have hn : I 0 0 = nI n := hn
  have hc : (v_n (vR I)).toNatClampNeg = n := by show (I 0 0).toNatClampNeg = n; rw [hn, ni_cl (by omega)]
  refine pX5_ofClue ?_
  simp only [↓uX5_ofClue, ↓mm_r, mm_n, iaR, n10, not_true_eq_false, not_false_eq_true, false_implies, lg_cmp_ge, lg_cmp_le, lg_cmp_gt, lg_cmp_lt, lg_cmp_eq, true_and, and_true, true_or, or_true, true_implies, Classical.not_not, List.length_cons, List.length_nil, Nat.lt_iff_add_one_le, Nat.reduceAdd, Nat.reduceLeDiff, Nat.reduceEqDiff, Int.reduceAdd, reduceIte, Nat.reduceSub]
  refine sX5_isClue (fun h1 h2 => ?_) (fun h1 => ?_)
  · simp only [n10, not_false_eq_true, false_implies, true_implies, true_and, and_true, not_true_eq_false]
    have h3 : ¬ ¬ (0 ≤ c ∧ c < 8) := fun q => q ⟨h1, h2⟩
    refine sX5_within (fun h4 h5 => ?_) (fun h4 => ?_)
    · simp only [n10, not_false_eq_true, false_implies, true_implies, true_and, and_true, not_true_eq_false]
      refine sX5_setOf hn h8 ?_
      rw [q_ofClue, if_neg h3, if_neg (show ¬ ¬ (w = 0 ∨ w = 1) from fun q => q (by grind)), hc]
      rfl
    · simp only [n10, not_false_eq_true, false_implies, true_implies, true_and, and_true, not_true_eq_false]
      rw [q_ofClue, if_neg h3, if_pos (by grind)]
  · simp only [n10, not_false_eq_true, false_implies, true_implies, true_and, and_true, not_true_eq_false]
    rw [q_ofClue, if_pos h1]
end
section
/-! ===== a telling gone through: the pure words ===== -/
/-- a frame: its teller, the last scene of it, its side -/
abbrev pf : Type := Option Nat × Option Nat × Int32
/-- what is known of a told scene: which one, how deep, its teller, its side -/
abbrev pt : Type := Nat × Nat × Option Nat × Int32
/-- frames, scenes told, how many, opened, deepest, given, jumps -/
abbrev pa : Type := List pf × (Nat → Option pt) × Nat × Nat × Nat × Int32 × Int64
def lk_0 : pa := ([(none, none, -9)], fun _ => none, 0, 0, 0, 0, 0)
def lk_on (fr ln : Nat → Int32) (A : pa) (k : Nat) : Bool := match A.1 with
  | (some t, l, sd) :: _ => decide (¬ ps fr ln k t = -9) && (l.isNone || decide (ps fr ln k t = sd))
  | _ => true
def lk_sc (fr ln nd : Nat → Int32) (n : Nat) (A : pa) (s : Int32) : Nat :=
  if ¬ (0 ≤ s ∧ s < nI n) then 1
  else if (A.2.1 s.toNatClampNeg).isSome = true then 2
  else if ¬ nd s.toNatClampNeg &&& (A.2.2.2.2.2.1 ^^^ (-1)) = 0 then 3
  else if lk_on fr ln A s.toNatClampNeg = true then 0 else 4
/-- why a sign is wrong; 0: it isn't -/
def lk_why (fr ln nd : Nat → Int32) (n : Nat) (A : pa) (s : Int32) : Nat :=
  if s = 20 then (match A.1 with
    | (_, some _, _) :: _ => 0
    | _ => 5)
  else if s = 21 then (match A.1 with
    | (some _, some _, _) :: _ => 0
    | _ => 6)
  else lk_sc fr ln nd n A s
def lk_js (fr ln : Nat → Int32) (l : Option Nat) (k : Nat) (js : Int64) : Int64 := match l with
  | none => js
  | some a => js + pj fr ln a k
def lk_sd (fr ln : Nat → Int32) (t : Option Nat) (k : Nat) : Int32 := match t with
  | none => -9
  | some t => ps fr ln k t
def lk_put (f : Nat → Option pt) (k : Nat) (x : pt) : Nat → Option pt := fun j => if j = k then some x else f j
/-- a sign taken -/
def lk_go (fr ln gv : Nat → Int32) (A : pa) (s : Int32) : pa := match A.1 with
  | (t, l, sd) :: r =>
    if s = 20 then ((l, none, -9) :: (t, l, sd) :: r, A.2.1, A.2.2.1, A.2.2.2.1 + 1, (if A.2.2.2.2.1 < r.length + 1 then r.length + 1 else A.2.2.2.2.1), A.2.2.2.2.2.1, A.2.2.2.2.2.2)
    else if s = 21 then (r, A.2)
    else ((t, some s.toNatClampNeg, lk_sd fr ln t s.toNatClampNeg) :: r, lk_put A.2.1 s.toNatClampNeg (A.2.2.1, r.length, t, lk_sd fr ln t s.toNatClampNeg), A.2.2.1 + 1, A.2.2.2.1, A.2.2.2.2.1, A.2.2.2.2.2.1 ||| gv s.toNatClampNeg, lk_js fr ln l s.toNatClampNeg A.2.2.2.2.2.2)
  | [] => A
/-- m signs from place i on -/
def lk_run (fr ln gv nd : Nat → Int32) (n : Nat) (row : Nat → Int32) : Nat → Nat → pa → Option (Nat × Nat) × pa
  | 0, i, A => (if 1 < A.1.length then some (i, 7) else none, A)
  | m + 1, i, A => if lk_why fr ln nd n A (row i) = 0 then lk_run fr ln gv nd n row m (i + 1) (lk_go fr ln gv A (row i)) else (some (i, lk_why fr ln nd n A (row i)), A)
/-- the whole look -/
def lk (v : pv) (row : Nat → Int32) (m : Nat) : Option (Nat × Nat) × pa := lk_run v.1 v.2.1 v.2.2.1 v.2.2.2.1 (v_n v).toNatClampNeg row m 0 lk_0
def lk_ch : List pf → Prop
  | [] => False
  | [f] => f.1 = none
  | f :: g :: r => (∃ a, f.1 = some a ∧ g.2.1 = some a) ∧ lk_ch (g :: r)
/-- what holds on the way -/
def LI (n i : Nat) (A : pa) : Prop := lk_ch A.1 ∧ (∀ f ∈ A.1, (f.2.1 = none → f.2.2 = -9) ∧ (f.1 = none → f.2.2 = -9) ∧ ((∃ t, f.1 = some t) → (∃ a, f.2.1 = some a) → f.2.2 ≠ -9) ∧ ∀ a, f.2.1 = some a → ∃ u dd, A.2.1 a = some (u, dd, f.1, f.2.2)) ∧ (∀ (k : Nat) (p : pt), A.2.1 k = some p → k < n ∧ p.1 < A.2.2.1) ∧ A.1.length ≤ i + 1 ∧ A.2.2.1 ≤ i ∧ A.2.2.2.1 ≤ i ∧ A.2.2.2.2.1 ≤ i
theorem LI_0 (n : Nat) : LI n 0 lk_0 := by
  refine ⟨rfl, fun f hf => ?_, fun k p h => (by cases h), (by simp [lk_0]), Nat.le_refl _, Nat.le_refl _, Nat.le_refl _⟩
  simp only [lk_0, List.mem_singleton] at hf
  subst hf
  exact ⟨fun _ => rfl, fun _ => rfl, fun h => (by obtain ⟨t, h⟩ := h; cases h), fun a h => (by cases h)⟩
theorem lk_ch_top {f : pf} {r : List pf} (h : lk_ch (f :: r)) : f.1 = none ∧ r = [] ∨ ∃ a g r', r = g :: r' ∧ f.1 = some a ∧ g.2.1 = some a ∧ lk_ch (g :: r') := by
  cases r with
  | nil => exact Or.inl ⟨h, rfl⟩
  | cons g r' =>
    obtain ⟨⟨a, h1, h2⟩, h3⟩ := h
    exact Or.inr ⟨a, g, r', rfl, h1, h2, h3⟩
theorem lk_ch_re {t l : Option Nat} {sd : Int32} {r : List pf} (l' : Option Nat) (sd' : Int32) (h : lk_ch ((t, l, sd) :: r)) : lk_ch ((t, l', sd') :: r) := by
  cases r with
  | nil => exact h
  | cons g r' => exact h
theorem LI_go {fr ln gv nd : Nat → Int32} {n i : Nat} {A : pa} {s : Int32} (hn : n ≤ 8) (h : LI n i A) (hw : lk_why fr ln nd n A s = 0) : LI n (i + 1) (lk_go fr ln gv A s) := by
  obtain ⟨st, told, cnt, opn, deep, gvn, js⟩ := A
  obtain ⟨h1, h2, h3, h4, h5, h6, h7⟩ := h
  dsimp only at h1 h2 h3 h4 h5 h6 h7
  cases st with
  | nil => exact h1.elim
  | cons f r =>
    obtain ⟨t, l, sd⟩ := f
    by_cases s20 : s = 20
    · subst s20
      cases l with
      | none => simp [lk_why] at hw
      | some a =>
        have e : lk_go fr ln gv ((t, some a, sd) :: r, told, cnt, opn, deep, gvn, js) 20 = ((some a, none, -9) :: (t, some a, sd) :: r, told, cnt, opn + 1, (if deep < r.length + 1 then r.length + 1 else deep), gvn, js) := rfl
        rw [e]
        simp only [List.length_cons] at h4
        refine ⟨⟨⟨a, rfl, rfl⟩, h1⟩, fun f hf => ?_, h3, (by simp only [List.length_cons]; omega), (by show cnt ≤ i + 1; omega), (by show opn + 1 ≤ i + 1; omega), ?_⟩
        · rcases List.mem_cons.mp hf with rfl | hf
          · exact ⟨fun _ => rfl, fun h => rfl, fun _ h => (by obtain ⟨q, h⟩ := h; cases h), fun q h => (by cases h)⟩
          · exact h2 f hf
        · show (if deep < r.length + 1 then r.length + 1 else deep) ≤ i + 1
          split <;> omega
    · by_cases s21 : s = 21
      · subst s21
        rcases lk_ch_top h1 with ⟨q1, q2⟩ | ⟨a, g, r', rfl, q1, q2, q3⟩
        · dsimp only at q1
          subst q1
          simp [lk_why] at hw
        · have e : lk_go fr ln gv ((t, l, sd) :: g :: r', told, cnt, opn, deep, gvn, js) 21 = (g :: r', told, cnt, opn, deep, gvn, js) := rfl
          rw [e]
          simp only [List.length_cons] at h4
          exact ⟨q3, fun f hf => h2 f (List.mem_cons_of_mem _ hf), h3, (by simp only [List.length_cons]; omega), (by show cnt ≤ i + 1; omega), (by show opn ≤ i + 1; omega), (by show deep ≤ i + 1; omega)⟩
      · have e : lk_go fr ln gv ((t, l, sd) :: r, told, cnt, opn, deep, gvn, js) s = ((t, some s.toNatClampNeg, lk_sd fr ln t s.toNatClampNeg) :: r, lk_put told s.toNatClampNeg (cnt, r.length, t, lk_sd fr ln t s.toNatClampNeg), cnt + 1, opn, deep, gvn ||| gv s.toNatClampNeg, lk_js fr ln l s.toNatClampNeg js) := by
          simp only [lk_go, s20, s21, if_false]
        rw [e]
        simp only [lk_why, s20, s21, if_false, lk_sc] at hw
        by_cases c1 : ¬ (0 ≤ s ∧ s < nI n)
        · rw [if_pos c1] at hw; cases hw
        rw [if_neg c1] at hw
        by_cases c2 : (told s.toNatClampNeg).isSome = true
        · rw [if_pos c2] at hw; cases hw
        rw [if_neg c2] at hw
        by_cases c3 : ¬ nd s.toNatClampNeg &&& (gvn ^^^ (-1)) = 0
        · rw [if_pos c3] at hw; cases hw
        rw [if_neg c3] at hw
        by_cases c4 : lk_on fr ln ((t, l, sd) :: r, told, cnt, opn, deep, gvn, js) s.toNatClampNeg = true
        · have c1 := Classical.not_not.mp c1
          obtain ⟨k, hk, rfl⟩ := vi_nI (n := n) (by omega) c1.1 c1.2
          rw [ni_cl (by omega)] at c2 c4 ⊢
          refine ⟨lk_ch_re _ _ h1, fun f hf => ?_, fun j p hj => ?_, (by simp only [List.length_cons] at h4 ⊢; omega), (by show cnt + 1 ≤ i + 1; omega), (by show opn ≤ i + 1; omega), (by show deep ≤ i + 1; omega)⟩
          · rcases List.mem_cons.mp hf with rfl | hf
            · refine ⟨fun h => (by cases h), fun h => ?_, fun ht _ => ?_, fun q h => ?_⟩
              · dsimp only at h ⊢
                subst h
                rfl
              · obtain ⟨t', ht⟩ := ht
                dsimp only at ht ⊢
                subst ht
                simp only [lk_on, Bool.and_eq_true, decide_eq_true_eq] at c4
                exact c4.1
              · cases h
                exact ⟨cnt, r.length, (by simp [lk_put])⟩
            · obtain ⟨q1, q2, q3, q4⟩ := h2 f (List.mem_cons_of_mem _ hf)
              refine ⟨q1, q2, q3, fun a ha => ?_⟩
              obtain ⟨u, dd, hu⟩ := q4 a ha
              refine ⟨u, dd, ?_⟩
              have hak : a ≠ k := fun e => c2 (by rw [← e, hu]; rfl)
              simp only [lk_put, hak, if_false]
              exact hu
          · simp only [lk_put] at hj
            split at hj
            · rename_i hjk
              cases hj
              exact ⟨(by rw [hjk]; exact hk), Nat.lt_succ_self _⟩
            · obtain ⟨q1, q2⟩ := h3 j p hj
              exact ⟨q1, Nat.lt_succ_of_lt q2⟩
        · rw [if_neg c4] at hw; cases hw
/-- at the end: what holds of what came out -/
theorem lk_run_LI {fr ln gv nd : Nat → Int32} {n : Nat} (hn : n ≤ 8) {row : Nat → Int32} : ∀ (m i : Nat) (A : pa), LI n i A → ∃ j, j ≤ i + m ∧ LI n j (lk_run fr ln gv nd n row m i A).2 := by
  intro m
  induction m with
  | zero => intro i A h; exact ⟨i, Nat.le_refl _, h⟩
  | succ m ih =>
    intro i A h
    unfold lk_run
    split
    · rename_i hw
      obtain ⟨j, h1, h2⟩ := ih (i + 1) _ (LI_go (gv := gv) hn h hw)
      exact ⟨j, (by omega), h2⟩
    · exact ⟨i, (by omega), h⟩
end
section
/-! ===== the look, on the left side ===== -/
def enc (o : Option Nat) : Int32 := match o with
  | none => -1
  | some a => nI a
def td (o : Option pt) (a b c e : Int32) : Prop := match o with
  | none => a = -1
  | some (u, dd, t, sd) => a = nI u ∧ b = nI dd ∧ c = enc t ∧ e = sd
/-- the cells 7 .. 11 hold a look -/
def CR (A : pa) (I : mm_I) (L : mm_L) : Prop := match A.1 with
  | [] => False
  | (t, l, sd) :: r => I 7 6 = nI A.2.2.2.1 ∧ I 7 7 = nI A.2.2.2.2.1 ∧ I 7 8 = nI A.2.2.1 ∧ I 7 9 = A.2.2.2.2.2.1 ∧ L 7 10 = A.2.2.2.2.2.2 ∧ I 7 11 = nI r.length ∧ I 7 12 = enc l ∧ I 7 13 = enc t ∧ I 7 14 = sd ∧ ∀ k, k < 8 → td (A.2.1 k) (I 8 k) (I 9 k) (I 10 k) (I 11 k)
def c7 (I I' : mm_I) : Prop := ∀ c, c < 7 ∨ 11 < c → I' c = I c
def l7 (L L' : mm_L) : Prop := ∀ c, c ≠ 7 → L' c = L c
theorem c7_rf {I : mm_I} : c7 I I := fun _ _ => rfl
theorem l7_rf {L : mm_L} : l7 L L := fun _ _ => rfl
theorem c7_tr {I I' I'' : mm_I} (h : c7 I I') (h' : c7 I' I'') : c7 I I'' := fun c hc => (h' c hc).trans (h c hc)
theorem l7_tr {L L' L'' : mm_L} (h : l7 L L') (h' : l7 L' L'') : l7 L L'' := fun c hc => (h' c hc).trans (h c hc)
theorem c7_ui {I I' : mm_I} {a k : Nat} {v : Int32} (h : c7 I I') (ha : 7 ≤ a ∧ a ≤ 11) : c7 I (mm_ui I' a k v) := fun c hc => by
  rw [uif, if_neg (by omega)]
  exact h c hc
theorem l7_ul {L L' : mm_L} {k : Nat} {v : Int64} (h : l7 L L') : l7 L (mm_ul L' 7 k v) := fun c hc => by
  rw [mm_ul_off L' k v hc]
  exact h c hc
theorem m1_0 : ((-1 : Int32) < 0) = True := by decide +kernel
theorem ni_m1 {a : Nat} (ha : a ≤ 1000000) : (nI a = -1) = False := by
  apply propext
  refine ⟨fun h => ?_, fun h => h.elim⟩
  have h2 : (nI a < 0) = False := ni_0 ha
  rw [h, m1_0] at h2
  exact h2 ▸ trivial
theorem m1_t : ((-1 : Int32) = -1) = True := by simp
/-- a row filled -/
def fil (f : Nat → Int32) (v : Int32) (k : Nat) : Nat → Int32 := fun j => if j < k then v else f j
theorem fil_0 (I : mm_I) (a : Nat) (v : Int32) : mm_ur I a (fil (I a) v 0) = I := by
  funext b j
  simp only [mm_ur, fil, Nat.not_lt_zero, if_false]
  split
  · rename_i h
    rw [h]
  · rfl
theorem fil_s (I : mm_I) (a : Nat) (v : Int32) (k : Nat) : mm_ui (mm_ur I a (fil (I a) v k)) a k v = mm_ur I a (fil (I a) v (k + 1)) := by
  funext b j
  simp only [mm_ui, mm_ur, fil]
  by_cases hb : b = a
  · subst hb
    simp only [if_true]
    by_cases hj : j = k
    · subst hj
      simp
    · simp only [hj, if_false]
      by_cases h : j < k
      · simp only [h, if_true, show j < k + 1 by omega]
      · simp only [h, if_false, show ¬ j < k + 1 by omega]
  · simp only [hb, if_false]
set_option maxHeartbeats 4000000 in
set_option maxRecDepth 100000 in
theorem lJ7_fill {d : Nat} {I : mm_I} {L : mm_L} {Q : mm_Q} {a n : Nat} {v : Int32} (ha : mm_ia shC a = n) (hn : n ≤ 1000) (h : Q (mm_ur I a (fil (I a) v n)) L 0 0) : ∀ (m k : Nat), k + m = n → mm_W shC (mm_P shC msC d) tbJ7_fill_53178 Q 5 [.ref a, .int v, .int (nI k), .int (nI n)] [] (mm_ur I a (fil (I a) v k)) L := by
  intro m
  induction m with
  | zero =>
    intro k hk
    have e1 : k = n := by omega
    subst e1
    refine mm_hk 60 ?_
    simp only [↓hJ7_fill_53178, ↓uJ7_fill_53178, ↓mm_r, mm_n, iaC, n10, not_true_eq_false, not_false_eq_true, false_implies, lg_cmp_ge, lg_cmp_le, lg_cmp_gt, lg_cmp_lt, lg_cmp_eq, true_and, and_true, true_or, or_true, true_implies, Classical.not_not, List.length_cons, List.length_nil, Nat.lt_iff_add_one_le, Nat.reduceAdd, Nat.reduceLeDiff, Nat.reduceEqDiff, Int.reduceAdd, reduceIte, Nat.reduceSub]
    simp only [ni_le (a := k) (b := k) (by omega) (by omega)]
    exact ⟨fun _ => h, fun q => absurd (Nat.le_refl k) q⟩
  | succ m ih =>
    intro k hk
    refine mm_hk 60 ?_
    simp only [↓hJ7_fill_53178, ↓uJ7_fill_53178, ↓mm_r, mm_n, iaC, n10, not_true_eq_false, not_false_eq_true, false_implies, lg_cmp_ge, lg_cmp_le, lg_cmp_gt, lg_cmp_lt, lg_cmp_eq, true_and, and_true, true_or, or_true, true_implies, Classical.not_not, List.length_cons, List.length_nil, Nat.lt_iff_add_one_le, Nat.reduceAdd, Nat.reduceLeDiff, Nat.reduceEqDiff, Int.reduceAdd, reduceIte, Nat.reduceSub]
    simp only [ha, ni_le (a := n) (b := k) (by omega) (by omega), ni_cl (a := k) (by omega), nI_1, fil_s]
    exact ⟨fun q => absurd q (by omega), fun _ => ⟨ni_in (by omega) (by omega), ih (k + 1) (by omega)⟩⟩
set_option maxHeartbeats 4000000 in
set_option maxRecDepth 100000 in
theorem sJ7_fill {d : Nat} {I : mm_I} {L : mm_L} {Q : mm_Q} {a n : Nat} {v : Int32} (ha : mm_ia shC a = n) (hl : mm_la shC a = 0) (h0 : 0 < n) (hn : n ≤ 1000) (h : Q (mm_ur I a (fil (I a) v n)) L 0 0) : mm_P shC msC (d + 1) 66 [.ref a, .int v] I L Q := by
  refine pJ7_fill_53178 ?_
  simp only [↓hJ7_fill_53178, ↓uJ7_fill_53178, ↓mm_r, mm_n, iaC, n10, not_true_eq_false, not_false_eq_true, false_implies, lg_cmp_ge, lg_cmp_le, lg_cmp_gt, lg_cmp_lt, lg_cmp_eq, true_and, and_true, true_or, or_true, true_implies, Classical.not_not, List.length_cons, List.length_nil, Nat.lt_iff_add_one_le, Nat.reduceAdd, Nat.reduceLeDiff, Nat.reduceEqDiff, Int.reduceAdd, reduceIte, Nat.reduceSub]
  simp only [ha, hl, Nat.add_zero]
  refine ⟨by omega, ?_⟩
  have := lJ7_fill (d := d) ha hn h n 0 (by omega)
  rw [fil_0] at this
  exact this
set_option maxHeartbeats 4000000 in
set_option maxRecDepth 100000 in
theorem sX3_isWrong {d : Nat} {I : mm_I} {L : mm_L} {Q : mm_Q} (h1 : ¬ I 7 5 = 0 → Q I L 1 0) (h0 : I 7 5 = 0 → Q I L 0 0) : mm_P shC msC (d + 1) 26 [.ref 7] I L Q := by
  refine pX3_isWrong ?_
  simp only [↓uX3_isWrong, ↓mm_r, mm_n, iaC, n10, not_true_eq_false, not_false_eq_true, false_implies, lg_cmp_ge, lg_cmp_le, lg_cmp_gt, lg_cmp_lt, lg_cmp_eq, true_and, and_true, true_or, or_true, true_implies, Classical.not_not, List.length_cons, List.length_nil, Nat.lt_iff_add_one_le, Nat.reduceAdd, Nat.reduceLeDiff, Nat.reduceEqDiff, Int.reduceAdd, reduceIte, Nat.reduceSub]
  exact ⟨h0, h1⟩
set_option maxHeartbeats 4000000 in
set_option maxRecDepth 100000 in
theorem sX3_hasTold {d : Nat} {I : mm_I} {L : mm_L} {Q : mm_Q} {k : Nat} {o : Option pt} {b c e : Int32} {m : Nat} (hk : k < 8) (ht : td o (I 8 k) b c e) (hb : ∀ p, o = some p → p.1 < m) (hm : m ≤ 1000) (h1 : o.isSome = true → Q I L 1 0) (h0 : o = none → Q I L 0 0) : mm_P shC msC (d + 1) 27 [.ref 7, .int (nI k)] I L Q := by
  refine pX3_hasTold ?_
  simp only [↓uX3_hasTold, ↓mm_r, mm_n, iaC, n10, not_true_eq_false, not_false_eq_true, false_implies, lg_cmp_ge, lg_cmp_le, lg_cmp_gt, lg_cmp_lt, lg_cmp_eq, true_and, and_true, true_or, or_true, true_implies, Classical.not_not, List.length_cons, List.length_nil, Nat.lt_iff_add_one_le, Nat.reduceAdd, Nat.reduceLeDiff, Nat.reduceEqDiff, Int.reduceAdd, reduceIte, Nat.reduceSub]
  simp only [ni_0 (a := k) (by omega), ni_8 (a := k) (by omega), ni_cl (a := k) (by omega), show ¬ 8 ≤ k by omega, false_implies, true_and, true_implies, not_false_eq_true]
  refine ⟨ni_in (by omega) (by omega), ?_⟩
  cases o with
  | none =>
    have ht : I 8 k = -1 := ht
    simp only [ht, m1_0, true_implies, not_true_eq_false, false_implies, and_true]
    exact h0 rfl
  | some p =>
    obtain ⟨u, dd, t, sd⟩ := p
    have ht : I 8 k = nI u := ht.1
    have hu := hb _ rfl
    dsimp only at hu
    simp only [ht, ni_0 (a := u) (by omega), true_implies, not_false_eq_true, false_implies, true_and]
    exact h1 rfl
set_option maxHeartbeats 4000000 in
set_option maxRecDepth 100000 in
theorem sX3_begin {d : Nat} {I : mm_I} {L : mm_L} {Q : mm_Q} (h : ∀ I' L', CR lk_0 I' L' → c7 I I' → l7 L L' → I' 7 5 = 0 → Q I' L' 0 0) : mm_P shC msC (d + 2) 29 [.ref 7] I L Q := by
  refine pX3_begin ?_
  simp only [↓uX3_begin, ↓mm_r, mm_n, iaC, n10, not_true_eq_false, not_false_eq_true, false_implies, lg_cmp_ge, lg_cmp_le, lg_cmp_gt, lg_cmp_lt, lg_cmp_eq, true_and, and_true, true_or, or_true, true_implies, Classical.not_not, List.length_cons, List.length_nil, Nat.lt_iff_add_one_le, Nat.reduceAdd, Nat.reduceLeDiff, Nat.reduceEqDiff, Int.reduceAdd, reduceIte, Nat.reduceSub]
  refine sJ7_fill (n := 8) (by decide +kernel) (by decide +kernel) (by omega) (by omega) ?_
  refine h _ _ ?_ ?_ ?_ ?_
  · refine ⟨?_, ?_, ?_, ?_, ?_, ?_, ?_, ?_, ?_, fun k hk => ?_⟩
    all_goals simp only [uia, mm_ul, Nat.reduceEqDiff, reduceIte]
    all_goals first | rfl | skip
    show _ = (-1 : Int32)
    simp only [uia, mm_ur, fil, Nat.reduceEqDiff, reduceIte, hk]
  · intro c hc
    simp only [uif, urf, show ¬ c = 7 by omega, show ¬ c = 8 by omega, if_false]
  · exact l7_ul l7_rf
  · simp only [uia, Nat.reduceEqDiff, reduceIte]
end
section
/-! ===== the look, on the left side: reasons and steps ===== -/
theorem enc_m1 {o : Option Nat} (h : ∀ a, o = some a → a ≤ 1000) : (enc o = -1) = (o = none) := by
  cases o with
  | none => simp [enc]
  | some a => simp only [enc, ni_m1 (show a ≤ 1000000 by have := h a rfl; omega), reduceCtorEq]
set_option maxHeartbeats 4000000 in
set_option maxRecDepth 100000 in
theorem sX3_isOnSide {d : Nat} {I : mm_I} {L : mm_L} {Q : mm_Q} {n k t : Nat} (hn : I 1 4 = nI n) (h8 : n ≤ 8) (hk : k < n) (ht : t < n) (h13 : I 7 13 = nI t) (h1 : ¬ ps (I 2) (I 3) k t = -9 → (I 7 14 = -9 ∨ I 7 14 = ps (I 2) (I 3) k t) → Q I L 1 0) (h0 : ¬ (¬ ps (I 2) (I 3) k t = -9 ∧ (I 7 14 = -9 ∨ I 7 14 = ps (I 2) (I 3) k t)) → Q I L 0 0) : mm_P shC msC (d + 3) 31 [.ref 7, .ref 1, .int (nI k)] I L Q := by
  refine pX3_isOnSide ?_
  simp only [↓uX3_isOnSide, ↓mm_r, mm_n, iaC, n10, not_true_eq_false, not_false_eq_true, false_implies, lg_cmp_ge, lg_cmp_le, lg_cmp_gt, lg_cmp_lt, lg_cmp_eq, true_and, and_true, true_or, or_true, true_implies, Classical.not_not, List.length_cons, List.length_nil, Nat.lt_iff_add_one_le, Nat.reduceAdd, Nat.reduceLeDiff, Nat.reduceEqDiff, Int.reduceAdd, reduceIte, Nat.reduceSub]
  rw [h13]
  refine sX0_sideBy (by rw [ni_00 (by omega)]; trivial) (by rw [hn, ni_lt (by omega) (by omega)]; exact hk) (by rw [ni_l8 (by omega)]; omega) (by rw [ni_00 (by omega)]; trivial) (by rw [hn, ni_lt (by omega) (by omega)]; exact ht) (by rw [ni_l8 (by omega)]; omega) ?_
  rw [ni_cl (by omega), ni_cl (by omega)]
  grind
set_option maxHeartbeats 4000000 in
set_option maxRecDepth 100000 in
theorem sX3_whyWrong {d : Nat} {I : mm_I} {L : mm_L} {Q : mm_Q} {n i : Nat} {A : pa} {s : Int32} (hn : I 1 4 = nI n) (h8 : n ≤ 8) (hi : i ≤ 100) (hC : CR A I L) (hL : LI n i A) (h : Q I L (nI (lk_why (I 2) (I 3) (I 5) n A s)) 0) : mm_P shC msC (d + 4) 30 [.ref 7, .ref 1, .int s] I L Q := by
  obtain ⟨st, told, cnt, opn, deep, gvn, js⟩ := A
  obtain ⟨g1, g2, g3, g4, g5, g6, g7⟩ := hL
  dsimp only at g1 g2 g3 g4 g5 g6 g7
  cases st with
  | nil => exact g1.elim
  | cons f r =>
    obtain ⟨t, l, sd⟩ := f
    obtain ⟨c1, c2, c3, c4, c5, c6, c7, c8, c9, c10⟩ := hC
    dsimp only at c1 c2 c3 c4 c5 c10
    have hla : ∀ a, l = some a → a < n := fun a ha => by
      obtain ⟨-, -, -, q⟩ := g2 _ List.mem_cons_self
      obtain ⟨u, dd, hu⟩ := q a ha
      exact (g3 _ _ hu).1
    have hta : ∀ a, t = some a → a < n := fun a ha => by
      rcases lk_ch_top g1 with ⟨q1, -⟩ | ⟨b, g, r', rfl, q1, q2, -⟩
      · dsimp only at q1
        rw [q1] at ha
        cases ha
      · dsimp only at q1
        rw [q1] at ha
        cases ha
        obtain ⟨-, -, -, q⟩ := g2 _ (List.mem_cons_of_mem _ List.mem_cons_self)
        obtain ⟨u, dd, hu⟩ := q _ q2
        exact (g3 _ _ hu).1
    have e12 : (I 7 12 = -1) = (l = none) := by rw [c7]; exact enc_m1 (fun a ha => by have := hla a ha; omega)
    have e13 : (I 7 13 = -1) = (t = none) := by rw [c8]; exact enc_m1 (fun a ha => by have := hta a ha; omega)
    refine pX3_whyWrong ?_
    simp only [↓uX3_whyWrong, ↓mm_r, mm_n, iaC, n10, not_true_eq_false, not_false_eq_true, false_implies, lg_cmp_ge, lg_cmp_le, lg_cmp_gt, lg_cmp_lt, lg_cmp_eq, true_and, and_true, true_or, or_true, true_implies, Classical.not_not, List.length_cons, List.length_nil, Nat.lt_iff_add_one_le, Nat.reduceAdd, Nat.reduceLeDiff, Nat.reduceEqDiff, Int.reduceAdd, reduceIte, Nat.reduceSub]
    simp only [e12, e13]
    by_cases s20 : s = 20
    · subst s20
      simp only [true_implies, not_true_eq_false, false_implies, true_and]
      cases l with
      | none => exact ⟨fun q => absurd rfl q, fun _ => h⟩
      | some a => exact ⟨fun _ => h, fun q => (by cases q)⟩
    · simp only [s20, true_implies, not_false_eq_true, false_implies, and_true]
      by_cases s21 : s = 21
      · subst s21
        simp only [true_implies, not_true_eq_false, false_implies, true_and]
        cases t with
        | none => exact ⟨fun _ => h, fun q => absurd rfl q⟩
        | some b =>
          cases l with
          | none => exact ⟨fun q => (by cases q), fun _ => ⟨fun q => absurd rfl q, fun _ => h⟩⟩
          | some a => exact ⟨fun q => (by cases q), fun _ => ⟨fun _ => h, fun q => (by cases q)⟩⟩
      · simp only [s21, true_implies, not_false_eq_true, false_implies, and_true]
        have e0 : lk_why (I 2) (I 3) (I 5) n ((t, l, sd) :: r, told, cnt, opn, deep, gvn, js) s = lk_sc (I 2) (I 3) (I 5) n ((t, l, sd) :: r, told, cnt, opn, deep, gvn, js) s := by
          simp only [lk_why, s20, s21, if_false]
        rw [e0] at h
        unfold lk_sc at h
        dsimp only at h
        refine sX0_has (fun q1 q2 q3 => ?_) (fun q => ?_)
        · simp only [n10, not_false_eq_true, false_implies, true_implies, true_and, and_true, not_true_eq_false]
          rw [hn] at q2
          rw [if_neg (fun q => q ⟨q1, q2⟩)] at h
          obtain ⟨k, hk, rfl⟩ := vi_nI (n := n) (by omega) q1 q2
          rw [ni_cl (by omega)] at h ⊢
          refine sX3_hasTold (by omega) (c10 k (by omega)) (fun p hp => (g3 k p hp).2) (by omega) (fun q4 => ?_) (fun q4 => ?_)
          · simp only [n10, not_false_eq_true, false_implies, true_implies, true_and, and_true, not_true_eq_false]
            rw [if_pos q4] at h
            exact h
          · simp only [n10, not_false_eq_true, false_implies, true_implies, true_and, and_true, not_true_eq_false]
            rw [if_neg (by rw [q4]; exact fun q => (by cases q))] at h
            refine ⟨ni_in (by omega) (by omega), fun q5 => ?_, fun q5 => ?_⟩
            · rw [c4] at q5
              rw [if_neg (fun q => q q5)] at h
              simp only [e13]
              cases t with
              | none =>
                rw [if_pos (by rfl)] at h
                exact ⟨fun _ => h, fun q => absurd rfl q⟩
              | some b =>
                refine ⟨fun q => (by cases q), fun _ => ?_⟩
                have hb := hta b rfl
                refine sX3_isOnSide hn h8 hk hb c8 (fun q6 q7 => ?_) (fun q6 => ?_)
                · simp only [n10, not_false_eq_true, false_implies, true_implies, true_and, and_true, not_true_eq_false]
                  rw [if_pos ?_] at h
                  · exact h
                  · simp only [lk_on, Bool.and_eq_true, decide_eq_true_eq, Bool.or_eq_true]
                    refine ⟨q6, ?_⟩
                    rw [c9] at q7
                    cases l with
                    | none => exact Or.inl rfl
                    | some a =>
                      rcases q7 with q7 | q7
                      · exact absurd q7 ((g2 _ List.mem_cons_self).2.2.1 ⟨b, rfl⟩ ⟨a, rfl⟩)
                      · exact Or.inr q7.symm
                · simp only [n10, not_false_eq_true, false_implies, true_implies, true_and, and_true, not_true_eq_false]
                  rw [if_neg ?_] at h
                  · exact h
                  · simp only [lk_on, Bool.and_eq_true, decide_eq_true_eq, Bool.or_eq_true]
                    intro q
                    refine q6 ⟨q.1, ?_⟩
                    rw [c9]
                    cases l with
                    | none => exact Or.inl ((g2 _ List.mem_cons_self).1 rfl)
                    | some a =>
                      rcases q.2 with q7 | q7
                      · cases q7
                      · exact Or.inr q7.symm
            · rw [c4] at q5
              rw [if_pos q5] at h
              exact h
        · simp only [n10, not_false_eq_true, false_implies, true_implies, true_and, and_true, not_true_eq_false]
          rw [if_pos (fun q' => q ⟨q'.1, by rw [hn]; exact q'.2, by
            have := q'.2
            have h9 : nI n ≤ 8 := by rw [nl8, ni_le (by omega) (by omega)]; exact h8
            grind⟩)] at h
          exact h
set_option maxHeartbeats 4000000 in
set_option maxRecDepth 100000 in
theorem sX3_take {d : Nat} {I : mm_I} {L : mm_L} {Q : mm_Q} {n i : Nat} {A : pa} {s : Int32} (hn : I 1 4 = nI n) (h8 : n ≤ 8) (hi : i ≤ 100) (hC : CR A I L) (hL : LI n i A) (hw : lk_why (I 2) (I 3) (I 5) n A s = 0) (h : ∀ I' L', CR (lk_go (I 2) (I 3) (I 4) A s) I' L' → c7 I I' → l7 L L' → I' 7 5 = I 7 5 → Q I' L' 0 0) : mm_P shC msC (d + 4) 32 [.ref 7, .ref 1, .int s] I L Q := by
  obtain ⟨st, told, cnt, opn, deep, gvn, js⟩ := A
  obtain ⟨g1, g2, g3, g4, g5, g6, g7⟩ := hL
  dsimp only at g1 g2 g3 g4 g5 g6 g7
  cases st with
  | nil => exact g1.elim
  | cons f r =>
    obtain ⟨t, l, sd⟩ := f
    obtain ⟨c1, c2, c3, c4, c5, c6, c7', c8, c9, c10⟩ := hC
    dsimp only at c1 c2 c3 c4 c5 c10
    simp only [List.length_cons] at g4
    have hla : ∀ a, l = some a → a < n := fun a ha => by
      obtain ⟨-, -, -, q⟩ := g2 _ List.mem_cons_self
      obtain ⟨u, dd, hu⟩ := q a ha
      exact (g3 _ _ hu).1
    refine pX3_take ?_
    simp only [↓uX3_take, ↓mm_r, mm_n, iaC, n10, not_true_eq_false, not_false_eq_true, false_implies, lg_cmp_ge, lg_cmp_le, lg_cmp_gt, lg_cmp_lt, lg_cmp_eq, true_and, and_true, true_or, or_true, true_implies, Classical.not_not, List.length_cons, List.length_nil, Nat.lt_iff_add_one_le, Nat.reduceAdd, Nat.reduceLeDiff, Nat.reduceEqDiff, Int.reduceAdd, reduceIte, Nat.reduceSub]
    by_cases s20 : s = 20
    · subst s20
      simp only [true_implies, not_true_eq_false, false_implies, true_and]
      refine pX3_openFrame ?_
      simp only [↓uX3_openFrame, ↓mm_r, mm_n, iaC, n10, not_true_eq_false, not_false_eq_true, false_implies, lg_cmp_ge, lg_cmp_le, lg_cmp_gt, lg_cmp_lt, lg_cmp_eq, true_and, and_true, true_or, or_true, true_implies, Classical.not_not, List.length_cons, List.length_nil, Nat.lt_iff_add_one_le, Nat.reduceAdd, Nat.reduceLeDiff, Nat.reduceEqDiff, Int.reduceAdd, reduceIte, Nat.reduceSub]
      refine h _ _ ?_ ?_ l7_rf ?_
      · show CR ((l, none, -9) :: (t, l, sd) :: r, told, cnt, opn + 1, (if deep < r.length + 1 then r.length + 1 else deep), gvn, js) _ _
        refine ⟨?_, ?_, ?_, ?_, ?_, ?_, ?_, ?_, ?_, fun k hk => ?_⟩
        all_goals simp only [uia, Nat.reduceEqDiff, reduceIte, List.length_cons, c1, c2, c3, c4, c5, c6, c7', nI_1]
        · by_cases hd : deep < r.length + 1
          · rw [if_pos (by rw [ni_lt (by omega) (by omega)]; exact hd), if_pos hd]
          · rw [if_neg (by rw [ni_lt (by omega) (by omega)]; exact hd), if_neg hd]
        · rfl
        · exact c10 k hk
      · exact c7_ui (c7_ui (c7_ui (c7_ui (c7_ui (c7_ui c7_rf (by omega)) (by omega)) (by omega)) (by omega)) (by omega)) (by omega)
      · simp only [uia, Nat.reduceEqDiff, reduceIte]
    · simp only [s20, true_implies, not_false_eq_true, false_implies, and_true]
      by_cases s21 : s = 21
      · subst s21
        simp only [true_implies, not_true_eq_false, false_implies, true_and]
        rcases lk_ch_top g1 with ⟨q1, q2⟩ | ⟨a, g, r', rfl, q1, q2, q3⟩
        · dsimp only at q1
          subst q1
          simp [lk_why] at hw
        · dsimp only at q1
          subst q1
          obtain ⟨t2, l2, sd2⟩ := g
          dsimp only at q2
          subst q2
          obtain ⟨-, -, -, q4⟩ := g2 _ (List.mem_cons_of_mem _ List.mem_cons_self)
          obtain ⟨u, dd, hu⟩ := q4 a rfl
          dsimp only at hu
          have ha := (g3 _ _ hu).1
          have hd := c10 a (by omega)
          rw [hu] at hd
          obtain ⟨d1, d2, d3, d4⟩ := hd
          refine pX3_closeFrame ?_
          simp only [↓uX3_closeFrame, ↓mm_r, mm_n, iaC, n10, not_true_eq_false, not_false_eq_true, false_implies, lg_cmp_ge, lg_cmp_le, lg_cmp_gt, lg_cmp_lt, lg_cmp_eq, true_and, and_true, true_or, or_true, true_implies, Classical.not_not, List.length_cons, List.length_nil, Nat.lt_iff_add_one_le, Nat.reduceAdd, Nat.reduceLeDiff, Nat.reduceEqDiff, Int.reduceAdd, reduceIte, Nat.reduceSub]
          have c8 : I 7 13 = nI a := c8
          rw [c8]
          simp only [ni_cl (a := a) (by omega)]
          refine sX3_hasTold (o := told a) (m := cnt) (by omega) (c10 a (by omega)) (fun p hp => (g3 a p hp).2) (by omega) (fun q5 => ?_) (fun q5 => ?_)
          · simp only [n10, not_false_eq_true, false_implies, true_implies, true_and, and_true, not_true_eq_false]
            refine ⟨ni_in (by omega) (by omega), ni_in (by omega) (by omega), ?_⟩
            refine h _ _ ?_ ?_ l7_rf ?_
            · show CR ((t2, some a, sd2) :: r', told, cnt, opn, deep, gvn, js) _ _
              refine ⟨?_, ?_, ?_, ?_, ?_, ?_, ?_, ?_, ?_, fun k hk => ?_⟩
              all_goals simp only [uia, Nat.reduceEqDiff, reduceIte, List.length_cons, c1, c2, c3, c4, c5, c6, d3, d4]
              · exact nI_pred _
              · rfl
              · exact c10 k hk
            · exact c7_ui (c7_ui (c7_ui (c7_ui c7_rf (by omega)) (by omega)) (by omega)) (by omega)
            · simp only [uia, Nat.reduceEqDiff, reduceIte]
          · rw [q5] at hu
            cases hu
      · simp only [s21, true_implies, not_false_eq_true, false_implies, and_true]
        have e0 : lk_why (I 2) (I 3) (I 5) n ((t, l, sd) :: r, told, cnt, opn, deep, gvn, js) s = lk_sc (I 2) (I 3) (I 5) n ((t, l, sd) :: r, told, cnt, opn, deep, gvn, js) s := by
          simp only [lk_why, s20, s21, if_false]
        rw [e0] at hw
        unfold lk_sc at hw
        dsimp only at hw
        by_cases b1 : ¬ (0 ≤ s ∧ s < nI n)
        · rw [if_pos b1] at hw; cases hw
        rw [if_neg b1] at hw
        by_cases b2 : (told s.toNatClampNeg).isSome = true
        · rw [if_pos b2] at hw; cases hw
        clear hw
        have b1 := Classical.not_not.mp b1
        have e1 : lk_go (I 2) (I 3) (I 4) ((t, l, sd) :: r, told, cnt, opn, deep, gvn, js) s = ((t, some s.toNatClampNeg, lk_sd (I 2) (I 3) t s.toNatClampNeg) :: r, lk_put told s.toNatClampNeg (cnt, r.length, t, lk_sd (I 2) (I 3) t s.toNatClampNeg), cnt + 1, opn, deep, gvn ||| I 4 s.toNatClampNeg, lk_js (I 2) (I 3) l s.toNatClampNeg js) := by
          simp only [lk_go, s20, s21, if_false]
        rw [e1] at h
        obtain ⟨k, hk, rfl⟩ := vi_nI (n := n) (by omega) b1.1 b1.2
        rw [ni_cl (by omega)] at h b2
        have k0 : (0 : Int32) ≤ nI k := b1.1
        have kn : nI k < I 1 4 := by rw [hn]; exact b1.2
        have k8 : nI k < 8 := by rw [ni_l8 (by omega)]; omega
        have kv : vp_in (nI k) 8 := ni_in (by omega) (by omega)
        have hta : ∀ a, t = some a → a < n := fun a ha => by
          rcases lk_ch_top g1 with ⟨q1, -⟩ | ⟨b, g, r', rfl, q1, q2, -⟩
          · dsimp only at q1
            rw [q1] at ha
            cases ha
          · dsimp only at q1
            rw [q1] at ha
            cases ha
            obtain ⟨-, -, -, q⟩ := g2 _ (List.mem_cons_of_mem _ List.mem_cons_self)
            obtain ⟨u, dd, hu⟩ := q _ q2
            exact (g3 _ _ hu).1
        have e12 : (I 7 12 = -1) = (l = none) := by rw [c7']; exact enc_m1 (fun a ha => by have := hla a ha; omega)
        have e13 : (I 7 13 = -1) = (t = none) := by rw [c8]; exact enc_m1 (fun a ha => by have := hta a ha; omega)
        have sc : ∀ a, a < n → (0 : Int32) ≤ nI a ∧ nI a < I 1 4 ∧ nI a < 8 := fun a ha => ⟨by rw [ni_00 (by omega)]; trivial, by rw [hn, ni_lt (by omega) (by omega)]; exact ha, by rw [ni_l8 (by omega)]; omega⟩
        refine pX3_tell ?_
        simp only [↓uX3_tell, ↓mm_r, mm_n, iaC, n10, not_true_eq_false, not_false_eq_true, false_implies, lg_cmp_ge, lg_cmp_le, lg_cmp_gt, lg_cmp_lt, lg_cmp_eq, true_and, and_true, true_or, or_true, true_implies, Classical.not_not, List.length_cons, List.length_nil, Nat.lt_iff_add_one_le, Nat.reduceAdd, Nat.reduceLeDiff, Nat.reduceEqDiff, Int.reduceAdd, reduceIte, Nat.reduceSub]
        refine sX0_has (fun _ _ _ => ?_) (fun q => absurd ⟨k0, kn, k8⟩ q)
        simp only [n10, not_false_eq_true, false_implies, true_implies, true_and, and_true, not_true_eq_false]
        simp only [e12, e13, kv, true_and, ni_cl (a := k) (by omega)]
        have fin : ∀ (x : Int32) (y : Int64) (I1 : mm_I), (∀ c, c ≠ 7 → I1 c = I c) → (∀ j, j ≠ 14 → I1 7 j = I 7 j) → I1 7 14 = x → x = lk_sd (I 2) (I 3) t k → y = lk_js (I 2) (I 3) l k js → ∀ L1 : mm_L, l7 L L1 → L1 7 10 = y → Q (mm_ui (mm_ui (mm_ui (mm_ui (mm_ui (mm_ui (mm_ui I1 8 k (I 7 8)) 9 k (I 7 11)) 10 k (I 7 13)) 11 k x) 7 12 (nI k)) 7 8 (I 7 8 + 1)) 7 9 (I 7 9 ||| I 4 k)) L1 0 0 := by
          intro x y I1 i1 i2 i3 hx hy L1 l1 l2
          refine h _ _ ?_ ?_ l1 ?_
          · refine ⟨?_, ?_, ?_, ?_, ?_, ?_, ?_, ?_, ?_, fun j hj => ?_⟩
            all_goals simp only [uia, Nat.reduceEqDiff, reduceIte, c1, c2, c3, c4, c6, c8, nI_1, l2, hy, i2 6 (by decide), i2 7 (by decide), i2 11 (by decide), i2 13 (by decide), i3, hx]
            · rfl
            · simp only [lk_put]
              by_cases hjk : j = k
              · subst hjk
                simp only [if_true]
                exact ⟨rfl, rfl, rfl, rfl⟩
              · simp only [hjk, if_false, i1 8 (by decide), i1 9 (by decide), i1 10 (by decide), i1 11 (by decide)]
                exact c10 j hj
          · refine c7_ui (c7_ui (c7_ui (c7_ui (c7_ui (c7_ui (c7_ui ?_ (by omega)) (by omega)) (by omega)) (by omega)) (by omega)) (by omega)) (by omega)
            intro c hc
            exact i1 c (by omega)
          · simp only [uia, Nat.reduceEqDiff, reduceIte, i2 5 (by decide)]
        cases t with
        | none =>
          have c9 : I 7 14 = -9 := by rw [c9]; exact (g2 _ List.mem_cons_self).2.1 rfl
          simp only [true_implies, not_true_eq_false, false_implies, and_true]
          cases l with
          | none =>
            simp only [true_implies, not_true_eq_false, false_implies, and_true, c9]
            exact fin (-9) js I (fun _ _ => rfl) (fun _ _ => rfl) c9 rfl rfl L l7_rf c5
          | some a =>
            have ha := sc a (hla a rfl)
            refine ⟨fun q => (by cases q), fun _ => ?_⟩
            have c7' : I 7 12 = nI a := c7'
            rw [c7']
            refine sX0_jumpBetween ha.1 ha.2.1 ha.2.2 k0 kn k8 ?_
            have := hla a rfl
            simp only [kv, true_and, ni_cl (a := k) (by omega), ni_cl (a := a) (by omega), c9]
            exact fin (-9) _ I (fun _ _ => rfl) (fun _ _ => rfl) c9 rfl rfl _ (l7_ul l7_rf) (by simp only [mm_ul, if_true, c5]; rfl)
        | some b =>
          have hb := sc b (hta b rfl)
          have hbn := hta b rfl
          refine ⟨fun q => (by cases q), fun _ => ?_⟩
          have c8' : I 7 13 = nI b := c8
          rw [c8']
          refine sX0_sideBy k0 kn k8 hb.1 hb.2.1 hb.2.2 ?_
          simp only [kv, true_and, ni_cl (a := k) (by omega), ni_cl (a := b) (by omega), e12, uia, Nat.reduceEqDiff, reduceIte]
          cases l with
          | none =>
            simp only [true_implies, not_true_eq_false, false_implies, and_true]
            exact fin (ps (I 2) (I 3) k b) js (mm_ui I 7 14 (ps (I 2) (I 3) k b)) (fun c hc => by rw [uif, if_neg hc]) (fun j hj => by simp only [uia, if_true, hj, if_false]) (by simp only [uia, if_true]) rfl rfl L l7_rf c5
          | some a =>
            have ha := sc a (hla a rfl)
            refine ⟨fun q => (by cases q), fun _ => ?_⟩
            have c7' : I 7 12 = nI a := c7'
            rw [c7']
            refine sX0_jumpBetween ha.1 (by simp only [uia, Nat.reduceEqDiff, reduceIte]; exact ha.2.1) ha.2.2 k0 (by simp only [uia, Nat.reduceEqDiff, reduceIte]; exact kn) k8 ?_
            have := hla a rfl
            simp only [kv, true_and, ni_cl (a := k) (by omega), ni_cl (a := a) (by omega), uia, uif, Nat.reduceEqDiff, reduceIte]
            exact fin (ps (I 2) (I 3) k b) _ (mm_ui I 7 14 (ps (I 2) (I 3) k b)) (fun c hc => by rw [uif, if_neg hc]) (fun j hj => by simp only [uia, if_true, hj, if_false]) (by simp only [uia, if_true]) rfl rfl _ (l7_ul l7_rf) (by simp only [mm_ul, if_true, c5]; rfl)
/-- what a look leaves of its end -/
def CW (w : Option (Nat × Nat)) (I : mm_I) : Prop := match w with
  | none => I 7 5 = 0
  | some (p, r) => I 7 5 = nI r ∧ I 7 4 = nI p ∧ 0 < r ∧ r ≤ 7
theorem lk_why_le (fr ln nd : Nat → Int32) (n : Nat) (A : pa) (s : Int32) : lk_why fr ln nd n A s ≤ 6 := by
  unfold lk_why lk_sc
  repeat' split
  all_goals omega
set_option maxHeartbeats 4000000 in
set_option maxRecDepth 100000 in
theorem lX3_goThrough {d : Nat} {Q : mm_Q} {n r tot : Nat} {I0 : mm_I} {L0 : mm_L} {res : Option (Nat × Nat) × pa} (hr : mm_ia shC r = 40) (hr2 : mm_la shC r = 0) (hr7 : r < 7 ∨ 11 < r) (h8 : n ≤ 8) (h40 : tot ≤ 40) (hn : I0 1 4 = nI n) (h : ∀ I' L', CR res.2 I' L' → CW res.1 I' → c7 I0 I' → l7 L0 L' → Q I' L' 0 0) :
    ∀ (m i : Nat) (A : pa) (I : mm_I) (L : mm_L), i + m = tot → c7 I0 I → l7 L0 L → CR A I L → LI n i A → I 7 5 = 0 → lk_run (I0 2) (I0 3) (I0 4) (I0 5) n (I0 r) m i A = res → mm_W shC (mm_P shC msC (d + 4)) tbX3_goThrough Q 4 [.ref 7, .ref 1, .ref r, .int (nI tot), .int (nI i)] [] I L := by
  intro m
  induction m with
  | zero =>
    intro i A I L hi hc hl hC hL h5 hres
    have e1 : i = tot := by omega
    subst e1
    refine mm_hk 80 ?_
    simp only [↓hX3_goThrough, ↓uX3_goThrough, ↓mm_r, mm_n, iaC, n10, not_true_eq_false, not_false_eq_true, false_implies, lg_cmp_ge, lg_cmp_le, lg_cmp_gt, lg_cmp_lt, lg_cmp_eq, true_and, and_true, true_or, or_true, true_implies, Classical.not_not, List.length_cons, List.length_nil, Nat.lt_iff_add_one_le, Nat.reduceAdd, Nat.reduceLeDiff, Nat.reduceEqDiff, Int.reduceAdd, reduceIte, Nat.reduceSub]
    simp only [ni_le (a := i) (b := i) (by omega) (by omega), h5, Nat.le_refl, true_implies, not_true_eq_false, false_implies, true_and, and_true]
    obtain ⟨st, told, cnt, opn, deep, gvn, js⟩ := A
    have hch := hL.1
    dsimp only at hch
    cases st with
    | nil => exact hch.elim
    | cons f r1 =>
      obtain ⟨t, l, sd⟩ := f
      obtain ⟨b1, b2, b3, b4, b5, b6, b7, b8, b9, b10⟩ := id hC
      have hlen := hL.2.2.2.1
      simp only [List.length_cons] at hlen
      rw [b6, show (0 : Int32) = nI 0 from nl0, ni_le (by omega) (by omega)]
      simp only [lk_run, List.length_cons] at hres
      refine ⟨fun q => ?_, fun q => ?_⟩
      · rw [if_neg (by omega)] at hres
        subst hres
        exact h _ _ hC h5 hc hl
      · rw [if_pos (by omega)] at hres
        subst hres
        refine h _ _ ?_ ?_ (c7_ui (c7_ui hc (by omega)) (by omega)) hl
        · refine ⟨?_, ?_, ?_, ?_, ?_, ?_, ?_, ?_, ?_, fun k hk => ?_⟩
          all_goals simp only [uia, Nat.reduceEqDiff, reduceIte]
          all_goals first | assumption | skip
          exact b10 k hk
        · refine ⟨?_, ?_, by omega, by omega⟩
          · simp only [uia, Nat.reduceEqDiff, reduceIte]
            exact nl7
          · simp only [uia, Nat.reduceEqDiff, reduceIte]
  | succ m ih =>
    intro i A I L hi hc hl hC hL h5 hres
    have hI : ∀ c, c < 7 → I c = I0 c := fun c hq => hc c (Or.inl hq)
    have hIr : I r = I0 r := hc r hr7
    refine mm_hk 80 ?_
    simp only [↓hX3_goThrough, ↓uX3_goThrough, ↓mm_r, mm_n, iaC, n10, not_true_eq_false, not_false_eq_true, false_implies, lg_cmp_ge, lg_cmp_le, lg_cmp_gt, lg_cmp_lt, lg_cmp_eq, true_and, and_true, true_or, or_true, true_implies, Classical.not_not, List.length_cons, List.length_nil, Nat.lt_iff_add_one_le, Nat.reduceAdd, Nat.reduceLeDiff, Nat.reduceEqDiff, Int.reduceAdd, reduceIte, Nat.reduceSub]
    simp only [hr, hr2, Nat.add_zero, ni_le (a := tot) (b := i) (by omega) (by omega), h5, true_implies, not_true_eq_false, false_implies, true_and, and_true, show Int32.ofNat 40 = nI 40 from rfl, ni_le (a := 40) (b := i) (by omega) (by omega), ni_cl (a := i) (by omega), nI_1]
    refine ⟨fun q => absurd q (by omega), fun _ => ⟨by omega, fun q => absurd q (by omega), fun _ => ⟨ni_in (by omega) (by omega), ?_⟩⟩⟩
    rw [hIr]
    have hn' : I 1 4 = nI n := by rw [hI 1 (by omega)]; exact hn
    refine sX3_whyWrong hn' h8 (by omega) hC hL ?_
    rw [hI 2 (by omega), hI 3 (by omega), hI 5 (by omega)]
    unfold lk_run at hres
    have hle := lk_why_le (I0 2) (I0 3) (I0 5) n A (I0 r i)
    by_cases hw : lk_why (I0 2) (I0 3) (I0 5) n A (I0 r i) = 0
    · rw [if_pos hw] at hres
      rw [hw]
      simp only [show nI 0 = (0 : Int32) from nl0.symm, true_implies, not_true_eq_false, false_implies, true_and]
      refine ⟨ni_in (by omega) (by omega), ?_⟩
      have hu : mm_ui I 7 5 0 = I := by
        funext b j
        simp only [mm_ui]
        split
        · split
          · rename_i q1 q2
            rw [q1, q2, h5]
          · rfl
        · rfl
      have hx : (if r = 7 then if i = 5 then (0 : Int32) else I r i else I r i) = I0 r i := by
        rw [if_neg (by omega), hIr]
      rw [hx, hu]
      refine sX3_take hn' h8 (by omega) hC hL (by rw [hI 2 (by omega), hI 3 (by omega), hI 5 (by omega)]; exact hw) (fun I' L' k1 k2 k3 k4 => ?_)
      rw [hI 2 (by omega), hI 3 (by omega), hI 4 (by omega)] at k1
      exact ih (i + 1) _ I' L' (by omega) (c7_tr hc k2) (l7_tr hl k3) k1 (LI_go h8 hL hw) (k4.trans h5) hres
    · rw [if_neg hw] at hres
      simp only [ni_eq (a := lk_why (I0 2) (I0 3) (I0 5) n A (I0 r i)) (b := 0) (by omega) (by omega), show (0 : Int32) = nI 0 from nl0, hw, not_false_eq_true, true_implies, false_implies, and_true]
      refine mm_hk 80 ?_
      simp only [↓hX3_goThrough, ↓uX3_goThrough, ↓mm_r, mm_n, iaC, n10, not_true_eq_false, not_false_eq_true, false_implies, lg_cmp_ge, lg_cmp_le, lg_cmp_gt, lg_cmp_lt, lg_cmp_eq, true_and, and_true, true_or, or_true, true_implies, Classical.not_not, List.length_cons, List.length_nil, Nat.lt_iff_add_one_le, Nat.reduceAdd, Nat.reduceLeDiff, Nat.reduceEqDiff, Int.reduceAdd, reduceIte, Nat.reduceSub]
      generalize hW : lk_why (I0 2) (I0 3) (I0 5) n A (I0 r i) = wh at *
      simp only [hr, hr2, Nat.add_zero, show (0 : Int32) = nI 0 from nl0, ni_eq (a := wh) (b := 0) (by omega) (by omega), hw, not_false_eq_true, true_implies, false_implies, and_true, true_and]
      subst hres
      have fin : Q (mm_ui (mm_ui I 7 5 (nI wh)) 7 4 (nI i)) L 0 0 := by
        refine h _ _ ?_ ?_ (c7_ui (c7_ui hc (by omega)) (by omega)) hl
        · obtain ⟨st, told, cnt, opn, deep, gvn, js⟩ := A
          have hch := hL.1
          dsimp only at hch
          cases st with
          | nil => exact hch.elim
          | cons f r1 =>
            obtain ⟨t, l, sd⟩ := f
            obtain ⟨b1, b2, b3, b4, b5, b6, b7, b8, b9, b10⟩ := id hC
            refine ⟨?_, ?_, ?_, ?_, ?_, ?_, ?_, ?_, ?_, fun k hk => ?_⟩
            all_goals simp only [uia, Nat.reduceEqDiff, reduceIte]
            all_goals first | assumption | skip
            exact b10 k hk
        · refine ⟨?_, ?_, by omega, by omega⟩
          · simp only [uia, Nat.reduceEqDiff, reduceIte]
          · simp only [uia, Nat.reduceEqDiff, reduceIte]
      exact ⟨fun _ => fin, fun _ => ⟨by omega, fun _ => fin, fun _ => fin⟩⟩
set_option maxHeartbeats 4000000 in
set_option maxRecDepth 100000 in
theorem sX3_goThrough {d : Nat} {I : mm_I} {L : mm_L} {Q : mm_Q} {n r tot : Nat} (hr : mm_ia shC r = 40) (hr2 : mm_la shC r = 0) (hr7 : r < 7 ∨ 11 < r) (h8 : n ≤ 8) (h40 : tot ≤ 40) (hn : I 1 4 = nI n) (h : ∀ I' L', CR (lk (vC I) (I r) tot).2 I' L' → CW (lk (vC I) (I r) tot).1 I' → c7 I I' → l7 L L' → Q I' L' 0 0) : mm_P shC msC (d + 5) 28 [.ref 7, .ref 1, .ref r, .int (nI tot)] I L Q := by
  refine pX3_goThrough ?_
  simp only [↓hX3_goThrough, ↓uX3_goThrough, ↓mm_r, mm_n, iaC, n10, not_true_eq_false, not_false_eq_true, false_implies, lg_cmp_ge, lg_cmp_le, lg_cmp_gt, lg_cmp_lt, lg_cmp_eq, true_and, and_true, true_or, or_true, true_implies, Classical.not_not, List.length_cons, List.length_nil, Nat.lt_iff_add_one_le, Nat.reduceAdd, Nat.reduceLeDiff, Nat.reduceEqDiff, Int.reduceAdd, reduceIte, Nat.reduceSub]
  refine sX3_begin (fun I' L' k1 k2 k3 k4 => ?_)
  have hk : lk (vC I) (I r) tot = lk_run (I 2) (I 3) (I 4) (I 5) n (I r) tot 0 lk_0 := by
    unfold lk
    rw [show (v_n (vC I)).toNatClampNeg = n by show (I 1 4).toNatClampNeg = n; rw [hn, ni_cl (by omega)]]
    rfl
  rw [hk] at h
  exact lX3_goThrough (d := d) hr hr2 hr7 h8 h40 hn h tot 0 lk_0 I' L' (by omega) k2 k3 k1 (LI_0 n) k4 rfl
end
