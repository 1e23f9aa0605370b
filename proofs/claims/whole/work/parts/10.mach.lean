/-! THE SMALL MACHINE: one step, a run, what is known of a frame -/
def m_fnd : List (Nat × mOp) → Nat → Option mOp
  | [], _ => none
  | (q, x) :: l, pc => if q = pc then some x else m_fnd l pc
noncomputable def m_op (mi pc : Nat) : Option mOp := m_fnd (mOT.getD mi []) pc
def m_up (M : Nat → Nat → Int32) (k j : Nat) (v : Int32) : Nat → Nat → Int32 := fun k' => if k' = k then upd (M k) j v else M k'
def m_row (M : Nat → Nat → Int32) (k : Nat) (f : Nat → Int32) : Nat → Nat → Int32 := fun k' => if k' = k then f else M k'
def m_upl (L : Nat → Int64) (k : Nat) (v : Int64) : Nat → Int64 := fun k' => if k' = k then v else L k'
def m_lng (lo : List (Option Value)) (a : Nat) : Bool := match a with
  | 0 => false
  | k + 1 => match lo[k]? with
    | some (some v) => decide (v.category = 2)
    | _ => false
def m_cl : Option Value → Option Value
  | some (.long _) => none
  | some (.double _) => none
  | o => o
/-- a store into a local: a long that began one slot ahead is gone -/
def m_put : List (Option Value) → Nat → Option Value → List (Option Value)
  | [], _, _ => []
  | _ :: l, 0, v => v :: l
  | [x], _ + 1, _ => [x]
  | x :: _ :: l, 1, v => m_cl x :: v :: l
  | x :: y :: l, n + 2, v => x :: m_put (y :: l) (n + 1) v
/-- the script's own number -/
def m_scr : Nat := 1000000
abbrev mSt : Type := Nat × List (Option Value) × List Value × mH
def m_br (c : Prop) [Decidable c] (t n : Nat) (lo : List (Option Value)) (st : List Value) (h : mH) : Option mSt := if c then some (t, lo, st, h) else some (n, lo, st, h)
def m_ifc (cd : Jvm.ClassFile.Cond) (x : Int32) (t n : Nat) (lo : List (Option Value)) (st : List Value) (h : mH) : Option mSt := match cd with
  | .eq => m_br (x = 0) t n lo st h
  | .ne => m_br (x = 0) n t lo st h
  | .lt => m_br (x < 0) t n lo st h
  | .ge => m_br (0 ≤ x) t n lo st h
  | .gt => m_br (0 < x) t n lo st h
  | .le => m_br (x ≤ 0) t n lo st h
def m_icmp (cd : Jvm.ClassFile.Cond) (x y : Int32) (t n : Nat) (lo : List (Option Value)) (st : List Value) (h : mH) : Option mSt := match cd with
  | .eq => m_br (x = y) t n lo st h
  | .ne => m_br (x = y) n t lo st h
  | .lt => m_br (x < y) t n lo st h
  | .ge => m_br (y ≤ x) t n lo st h
  | .gt => m_br (y < x) t n lo st h
  | .le => m_br (x ≤ y) t n lo st h
def m_out (i : Int32) (n : Nat) : Prop := i < 0 ∨ n ≤ i.toNatClampNeg
def m_ld (k : Nat) (i : Int32) (n : Nat) (f : Nat → Int32) : Option Value := if i < 0 ∨ n ≤ i.toNatClampNeg then none else some (.int (f i.toNatClampNeg))
/-- the value of a field of kind c at place b -/
def m_fv (c b k : Nat) (rs : List (Option Nat)) (M : Nat → Nat → Int32) (L : Nat → Int64) : Option Value := match c with
  | 0 => some (.int (M k b))
  | 1 => some (.int (M k b))
  | 2 => some (.long (L k))
  | _ => match rs[b]? with
    | some (some r) => some (.ref r)
    | _ => none
def m_st1 (X : mX) (ins : Instr) (len a b c pc : Nat) (lo : List (Option Value)) (st : List Value) (h : mH) : Option mSt :=
  match ins with
  | .iconst _ => some (pc + len, lo, .int (m_k a b) :: st, h)
  | .bipush _ => some (pc + len, lo, .int (m_k a b) :: st, h)
  | .sipush _ => some (pc + len, lo, .int (m_k a b) :: st, h)
  | .ldc _ => some (pc + len, lo, .int (m_k a b) :: st, h)
  | .ldc_w _ => some (pc + len, lo, .int (m_k a b) :: st, h)
  | .lconst n => some (pc + len, lo, .long (Int64.ofNat (n : Nat)) :: st, h)
  | .ldc2_w _ => some (pc + len, lo, .long (m_kl a b) :: st, h)
  | .iload _ => match lo[a]? with | some (some (.int x)) => some (pc + len, lo, .int x :: st, h) | _ => none
  | .iload_n _ => match lo[a]? with | some (some (.int x)) => some (pc + len, lo, .int x :: st, h) | _ => none
  | .lload _ => match lo[a]? with | some (some (.long x)) => some (pc + len, lo, .long x :: st, h) | _ => none
  | .lload_n _ => match lo[a]? with | some (some (.long x)) => some (pc + len, lo, .long x :: st, h) | _ => none
  | .aload _ => match lo[a]? with | some (some (.ref x)) => some (pc + len, lo, .ref x :: st, h) | _ => none
  | .aload_n _ => match lo[a]? with | some (some (.ref x)) => some (pc + len, lo, .ref x :: st, h) | _ => none
  | .istore _ => match st with | .int x :: r => if a < lo.length then some (pc + len, m_put lo a (some (.int x)), r, h) else none | _ => none
  | .istore_n _ => match st with | .int x :: r => if a < lo.length then some (pc + len, m_put lo a (some (.int x)), r, h) else none | _ => none
  | .astore _ => match st with | .ref x :: r => if a < lo.length then some (pc + len, m_put lo a (some (.ref x)), r, h) else none | _ => none
  | .astore_n _ => match st with | .ref x :: r => if a < lo.length then some (pc + len, m_put lo a (some (.ref x)), r, h) else none | _ => none
  | .lstore _ => match st with | .long x :: r => if a + 1 < lo.length then some (pc + len, (m_put lo a (some (.long x))).set (a + 1) none, r, h) else none | _ => none
  | .lstore_n _ => match st with | .long x :: r => if a + 1 < lo.length then some (pc + len, (m_put lo a (some (.long x))).set (a + 1) none, r, h) else none | _ => none
  | .iinc _ _ => match lo[a]? with | some (some (.int x)) => some (pc + len, lo.set a (some (.int (x + m_k b c))), st, h) | _ => none
  | .iadd => match st with | .int y :: .int x :: r => some (pc + len, lo, .int (x + y) :: r, h) | _ => none
  | .isub => match st with | .int y :: .int x :: r => some (pc + len, lo, .int (x - y) :: r, h) | _ => none
  | .imul => match st with | .int y :: .int x :: r => some (pc + len, lo, .int (x * y) :: r, h) | _ => none
  | .iand => match st with | .int y :: .int x :: r => some (pc + len, lo, .int (x &&& y) :: r, h) | _ => none
  | .ixor => match st with | .int y :: .int x :: r => some (pc + len, lo, .int (x ^^^ y) :: r, h) | _ => none
  | .ishl => match st with | .int y :: .int x :: r => some (pc + len, lo, .int (x <<< (y &&& 31)) :: r, h) | _ => none
  | .ishr => match st with | .int y :: .int x :: r => some (pc + len, lo, .int (x >>> (y &&& 31)) :: r, h) | _ => none
  | .iushr => match st with | .int y :: .int x :: r => some (pc + len, lo, .int (x.toUInt32 >>> (y.toUInt32 &&& Int32.toUInt32 31)).toInt32 :: r, h) | _ => none
  | .idiv => match st with | .int y :: .int x :: r => if y = 0 then none else some (pc + len, lo, .int (x / y) :: r, h) | _ => none
  | .irem => match st with | .int y :: .int x :: r => if y = 0 then none else some (pc + len, lo, .int (x - x / y * y) :: r, h) | _ => none
  | .ineg => match st with | .int x :: r => some (pc + len, lo, .int (-x) :: r, h) | _ => none
  | .ladd => match st with | .long y :: .long x :: r => some (pc + len, lo, .long (x + y) :: r, h) | _ => none
  | .lsub => match st with | .long y :: .long x :: r => some (pc + len, lo, .long (x - y) :: r, h) | _ => none
  | .lmul => match st with | .long y :: .long x :: r => some (pc + len, lo, .long (x * y) :: r, h) | _ => none
  | .ldiv => match st with | .long y :: .long x :: r => if y = 0 then none else some (pc + len, lo, .long (x / y) :: r, h) | _ => none
  | .lcmp => match st with | .long y :: .long x :: r => some (pc + len, lo, .int (lg_cmp x y) :: r, h) | _ => none
  | .i2l => match st with | .int x :: r => some (pc + len, lo, .long x.toInt64 :: r, h) | _ => none
  | .l2i => match st with | .long x :: r => some (pc + len, lo, .int x.toInt32 :: r, h) | _ => none
  | .dup => match st with | .int x :: r => some (pc + len, lo, .int x :: .int x :: r, h) | .ref x :: r => some (pc + len, lo, .ref x :: .ref x :: r, h) | _ => none
  | .dup2 => match st with | .int x :: .ref y :: r => some (pc + len, lo, .int x :: .ref y :: .int x :: .ref y :: r, h) | _ => none
  | .pop => match st with | .int _ :: r => some (pc + len, lo, r, h) | _ => none
  | .ifCond cd _ => match st with | .int x :: r => m_ifc cd x a (pc + len) lo r h | _ => none
  | .if_icmp cd _ => match st with | .int y :: .int x :: r => m_icmp cd x y a (pc + len) lo r h | _ => none
  | .goto _ => some (a, lo, st, h)
  | .tableswitch dflt lw hi offs => match st with
    | .int x :: r => if x.toInt < lw ∨ hi < x.toInt then (if 0 ≤ (pc : Int) + dflt then some (((pc : Int) + dflt).toNat, lo, r, h) else none) else match offs[(x.toInt - lw).toNat]? with
      | some off => if 0 ≤ (pc : Int) + off then some (((pc : Int) + off).toNat, lo, r, h) else none
      | none => none
    | _ => none
  | .getfield _ => match st with
    | .ref k :: r => match h.1[k]? with
      | some (.inr (ci, rs)) => if ci = a ∧ b < rs.length then (match m_fv c b k rs h.2.1 h.2.2 with | some v => some (pc + len, lo, v :: r, h) | none => none) else none
      | _ => none
    | _ => none
  | .putfield _ => match st with
    | .int v :: .ref k :: r => match h.1[k]? with
      | some (.inr (ci, rs)) => if ci = a ∧ b < rs.length ∧ (c = 0 ∨ (c = 1 ∧ (v = 0 ∨ v = 1))) then some (pc + len, lo, r, (h.1, m_up h.2.1 k b v, h.2.2)) else none
      | _ => none
    | .long v :: .ref k :: r => match h.1[k]? with
      | some (.inr (ci, rs)) => if ci = a ∧ b < rs.length ∧ c = 2 then some (pc + len, lo, r, (h.1, h.2.1, m_upl h.2.2 k v)) else none
      | _ => none
    | .ref v :: .ref k :: r => match h.1[k]? with
      | some (.inr (ci, rs)) => if ci = a ∧ b < rs.length ∧ c = 3 then some (pc + len, lo, r, (h.1.set k (.inr (ci, rs.set b (some v))), h.2.1, h.2.2)) else none
      | _ => none
    | _ => none
  | .iaload => match st with
    | .int i :: .ref k :: r => if k = m_scr then (match m_ld k i X.1 X.2 with | some v => some (pc + len, lo, v :: r, h) | none => none) else match h.1[k]? with
      | some (.inl (0, n)) => (match m_ld k i n (h.2.1 k) with | some v => some (pc + len, lo, v :: r, h) | none => none)
      | _ => none
    | _ => none
  | .baload => match st with
    | .int i :: .ref k :: r => match h.1[k]? with
      | some (.inl (1, n)) => (match m_ld k i n (h.2.1 k) with | some v => some (pc + len, lo, v :: r, h) | none => none)
      | _ => none
    | _ => none
  | .iastore => match st with
    | .int v :: .int i :: .ref k :: r => match h.1[k]? with
      | some (.inl (0, n)) => if i < 0 ∨ n ≤ i.toNatClampNeg then none else some (pc + len, lo, r, (h.1, m_up h.2.1 k i.toNatClampNeg v, h.2.2))
      | _ => none
    | _ => none
  | .bastore => match st with
    | .int v :: .int i :: .ref k :: r => match h.1[k]? with
      | some (.inl (1, n)) => if (i < 0 ∨ n ≤ i.toNatClampNeg) ∨ ¬ (v = 0 ∨ v = 1) then none else some (pc + len, lo, r, (h.1, m_up h.2.1 k i.toNatClampNeg v, h.2.2))
      | _ => none
    | _ => none
  | .arraylength => match st with
    | .ref k :: r => if k = m_scr then some (pc + len, lo, .int (Int32.ofNat X.1) :: r, h) else match h.1[k]? with
      | some (.inl (t, n)) => if t < 2 then some (pc + len, lo, .int (Int32.ofNat n) :: r, h) else none
      | some (.inr (ci, rs)) => if ci = 100 then some (pc + len, lo, .int (Int32.ofNat rs.length) :: r, h) else none
      | none => none
    | _ => none
  | .aaload => match st with
    | .int i :: .ref k :: r => match h.1[k]? with
      | some (.inr (ci, rs)) => if ci = 100 ∧ ¬ (i < 0 ∨ rs.length ≤ i.toNatClampNeg) then (match rs[i.toNatClampNeg]? with | some (some v) => some (pc + len, lo, .ref v :: r, h) | _ => none) else none
      | _ => none
    | _ => none
  | .aastore => match st with
    | .ref v :: .int i :: .ref k :: r => match h.1[k]?, h.1[v]? with
      | some (.inr (ci, rs)), some (.inr (cv, _)) => if ci = 100 ∧ cv = 10 ∧ ¬ (i < 0 ∨ rs.length ≤ i.toNatClampNeg) then some (pc + len, lo, r, (h.1.set k (.inr (ci, rs.set i.toNatClampNeg (some v))), h.2.1, h.2.2)) else none
      | _, _ => none
    | _ => none
  | .newarray _ => match st with
    | .int n :: r => if n < 0 ∨ 100000 < n.toNatClampNeg ∨ 1000 ≤ h.1.length then none else some (pc + len, lo, .ref h.1.length :: r, (h.1 ++ [.inl (a, n.toNatClampNeg)], m_row h.2.1 h.1.length (fun _ => 0), h.2.2))
    | _ => none
  | .anewarray _ => match st with
    | .int n :: r => if n < 0 ∨ 100000 < n.toNatClampNeg ∨ 1000 ≤ h.1.length then none else some (pc + len, lo, .ref h.1.length :: r, (h.1 ++ [.inr (100, List.replicate n.toNatClampNeg none)], h.2.1, h.2.2))
    | _ => none
  | .new _ => if 1000 ≤ h.1.length then none else some (pc + len, lo, .ref h.1.length :: st, (h.1 ++ [.inr (a, List.replicate b none)], m_row h.2.1 h.1.length (fun _ => 0), m_upl h.2.2 h.1.length 0))
  | _ => none
def m_slo : List Value → List (Option Value)
  | [] => []
  | .long x :: l => some (.long x) :: none :: m_slo l
  | .double x :: l => some (.double x) :: none :: m_slo l
  | v :: l => some v :: m_slo l
/-- a callee's locals -/
noncomputable def m_ent (mi : Nat) (args : List Value) : List (Option Value) := match mMT[mi]? with
  | some me => m_slo args ++ List.replicate (me.2.2.1 - (m_slo args).length) none
  | none => []
noncomputable def m_ml (mi : Nat) : Nat := match mMT[mi]? with
  | some me => me.2.2.1
  | none => 0
def m_cat (st : List Value) : Nat := (st.map fun v => v.category).sum
/-- what wordAt answers: c the letters that are left, w the word's number, at the place, g 1 while all letters were the same -/
def m_wd (f : Nat → Int32) (n : Nat) (a b : Int32) : List Nat → Int32 → Int32 → Int32 → Option Int32
  | [], _, _, _ => some (-1)
  | c :: l, w, p, g => if c = 32 then (if ¬ g = 0 ∧ p = b then some w else m_wd f n a b l (w + 1) a 1)
    else if g = 0 then m_wd f n a b l w (p + 1) 0
    else if b ≤ p then m_wd f n a b l w (p + 1) 0
    else if p < 0 ∨ n ≤ p.toNatClampNeg then none
    else if f p.toNatClampNeg = Int32.ofNat c then m_wd f n a b l w (p + 1) 1 else m_wd f n a b l w (p + 1) 0
def m_txt : List Nat := [111, 117, 116, 32, 114, 97, 116, 101, 32, 98, 117, 121, 32, 108, 101, 110, 100, 32, 104, 105, 100, 101, 32, 115, 104, 111, 119, 32, 108, 105, 102, 116, 32, 103, 111, 108, 100, 32, 110, 111, 116, 101, 115, 32, 114, 101, 115, 101, 114, 118, 101, 32, 119, 101, 101, 107, 32, 100, 97, 121, 32, 112, 114, 105, 99, 101, 32, 115, 117, 109, 32, 100, 97, 121, 115, 32, 110, 97, 109, 101, 115, 32, 116, 111, 119, 110, 32, 105, 102, 32, 111, 114, 32, 97, 110, 100, 32, 110, 111, 116, 32]
def m_wordAt (lo : List (Option Value)) (h : mH) : Option Value := match lo with
  | some (.ref k) :: some (.int a) :: some (.int b) :: _ => match h.1[k]? with
    | some (.inr (5, some kb :: _)) => match h.1[kb]? with
      | some (.inl (0, n)) => (m_wd (h.2.1 kb) n a b m_txt 0 a 1).map Value.int
      | _ => none
    | _ => none
  | _ => none
/-- the receiver is an object of the method's class -/
noncomputable def m_isO (a k : Nat) (h : mH) : Bool := match h.1[k]?, mMT[a]? with
  | some (.inr (ci, _)), some me => ci == me.2.2.2.2.2.2.2.2.2.2
  | _, _ => false
/-- System.arraycopy of ints -/
def m_cpy (ks kd : Nat) (sp dp k : Int32) (h : mH) : Option mH := match h.1[ks]?, h.1[kd]? with
  | some (.inl (0, n0)), some (.inl (0, n1)) => if sp < 0 ∨ dp < 0 ∨ k < 0 ∨ n0 < sp.toNatClampNeg + k.toNatClampNeg ∨ n1 < dp.toNatClampNeg + k.toNatClampNeg then none
    else some (h.1, m_row h.2.1 kd (va_cpy (h.2.1 ks) (h.2.1 kd) sp.toNatClampNeg dp.toNatClampNeg k.toNatClampNeg), h.2.2)
  | _, _ => none
/-- a run: n steps at most, d calls deep at most -/
noncomputable def m_ev (X : mX) : Nat → Nat → Nat → Nat → List (Option Value) → List Value → mH → Option (Option Value × mH)
  | 0, _, _, _, _, _, _ => none
  | n + 1, d, mi, pc, lo, st, h => if mi = 126 then (if 4 ≤ d ∧ pc = 0 ∧ st = [] then (m_wordAt lo h).map (fun v => (some v, h)) else none) else match m_op mi pc with
    | none => none
    | some (ins, len, tag, a, b, c, _) => match tag with
      | 0 => match m_st1 X ins len a b c pc lo st h with
        | some (pc', lo', st', h') => m_ev X n d mi pc' lo' st' h'
        | none => none
      | 1 => match st with
        | [.int v] => if a = 0 ∨ v = 0 ∨ v = 1 then some (some (.int v), h) else none
        | _ => none
      | 2 => match st with
        | [.long v] => some (some (.long v), h)
        | _ => none
      | 3 => match st with
        | [] => some (none, h)
        | _ => none
      | 4 => match d with
        | 0 => none
        | d' + 1 => if b ≤ st.length ∧ m_cat (st.drop b) ≤ 8 ∧ (m_ent a (st.take b).reverse).length = m_ml a then (match m_ev X n d' a 0 (m_ent a (st.take b).reverse) [] h with
          | some (v, h') => m_ev X n (d' + 1) mi (pc + 3) lo (v.toList ++ st.drop b) h'
          | none => none) else none
      | 5 => match d with
        | 0 => none
        | d' + 1 => match st.drop b with
          | .ref k :: r => if m_isO a k h ∧ m_cat r ≤ 8 ∧ (m_ent a (.ref k :: (st.take b).reverse)).length = m_ml a then (match m_ev X n d' a 0 (m_ent a (.ref k :: (st.take b).reverse)) [] h with
            | some (v, h') => m_ev X n (d' + 1) mi (pc + 3) lo (v.toList ++ r) h'
            | none => none) else none
          | _ => none
      | 6 => match d with
        | 0 => none
        | d' + 1 => match st.drop b with
          | .ref k :: r => if m_isO a k h ∧ m_cat r ≤ 8 ∧ (m_ent a (.ref k :: (st.take b).reverse)).length = m_ml a then (match m_ev X n d' a 0 (m_ent a (.ref k :: (st.take b).reverse)) [] h with
            | some (v, h') => m_ev X n (d' + 1) mi (pc + 3) lo (v.toList ++ r) h'
            | none => none) else none
          | _ => none
      | 7 => match st with
        | .ref _ :: r => if 0 < d ∧ m_cat r ≤ 8 then m_ev X n d mi (pc + 3) lo r h else none
        | _ => none
      | 8 => match st with
        | .int k :: .int dp :: .ref kd :: .int sp :: .ref ks :: r => if 0 < d ∧ m_cat r ≤ 8 then (match m_cpy ks kd sp dp k h with
          | some h' => m_ev X n d mi (pc + 3) lo r h'
          | none => none) else none
        | _ => none
      | _ => none
