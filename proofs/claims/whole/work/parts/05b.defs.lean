/-! ===== rows to rewrite by: the small machine, evaluated ===== -/
/-- the k-th entry of a list, taken -/
def mm_vn (sh : mm_S) (call : mm_C) (tb : List mm_E) (Q : mm_Q) (n : Nat) (es : List mm_E) (k i : Nat) (lo st : List Value) (I : mm_I) (L : mm_L) : Prop := match es[k]? with
  | some (_, ins, _, hd, x, y, u, w, z, ts) => (match hd with
    | true => mm_W sh call tb Q i lo st I L
    | false => mm_st sh call Q (mm_v sh call tb Q n) ins x y u w z ts i lo st I L)
  | none => False
def mm_hn (sh : mm_S) (call : mm_C) (tb : List mm_E) (Q : mm_Q) (n : Nat) (es : List mm_E) (k i : Nat) (lo st : List Value) (I : mm_I) (L : mm_L) : Prop := match es[k]? with
  | some (_, ins, _, _, x, y, u, w, z, ts) => mm_st sh call Q (mm_v sh call tb Q n) ins x y u w z ts i lo st I L
  | none => False
def mm_in2 (call : mm_C) (K : mm_K) (m rk : Nat) (o : Option (List Value × List Value)) (i : Nat) (lo : List Value) (I : mm_I) (L : mm_L) : Prop := match o with
  | some (as, t) => mm_ct t ≤ 8 ∧ call m as I L (fun I' L' ri rl => K (i + 1) lo (mm_push rk ri rl t) I' L')
  | none => False
def mm_rc2 (w : Nat) (o : Option (List Value × List Value)) : Prop := match o with
  | some (.ref r :: _, _) => r = w
  | _ => False
