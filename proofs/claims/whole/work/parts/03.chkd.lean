/-! EACH ENTRY IS WHAT THE BYTES SAY, and its word is where it says (written by program: wip/whole/gen/chk.py) -/
def m_k (a b : Nat) : Int32 := match b with | 0 => Int32.ofNat a | _ => -(Int32.ofNat a)
def m_kl (a b : Nat) : Int64 := match b with | 0 => Int64.ofNat a | _ => -(Int64.ofNat a)
def mc_w (q : Nat) (w : Cond) : Bool := decide (lw_tbl[q]? = some w) && goodWord w
def mc_n (q : Nat) (w : Cond) : Bool := decide (lw_tbl[q]? = some w)
def m_nest : Cond → Bool
  | .methodLinkNest .. => true
  | .arrayOver (.object _) => true
  | _ => false
def m_fki (ds : String) : Nat := if ds = "I" then 0 else if ds = "Z" then 1 else if ds = "J" then 2 else 3
def mc_fld (own : String) (i a b c q : Nat) : Bool := match mCF[a]? with
  | some (_, fl) => match fl[b]? with
    | some (dc, nm, ds, _) => mc_w q (.fieldLink own i dc nm ds) && decide (c = m_fki ds)
    | none => false
  | none => false
def mc_fin (own nme : String) (a b : Nat) : Bool := match mCF[a]? with
  | some (_, fl) => match fl[b]? with
    | some (dc, _, _, fin) => !fin || (decide (nme = "<init>") && decide (dc = own))
    | none => false
  | none => false
noncomputable def mc_call (own : String) (i a b c q kind : Nat) (ini : Bool) : Bool := match mMT[a]? with
  | some (y, _, _, _, np, _, _, _, _, kd, _) => (match c with
      | 0 => mc_w q (.methodLink own i y)
      | _ => mc_n q (.methodLinkNest own i y "NoteHouse")) && decide (np = b) && decide (kd = kind) && (!ini || decide (y.name = "<init>")) && (ini || decide (y.name ≠ "<init>")) && decide (a ≠ 0)
  | none => false
def mc_tag0 (own nme : String) (pc : Nat) (ins : Instr) (a b c q : Nat) : Bool := match ins with
  | .iconst i => decide (Int32.ofInt i = m_k a b)
  | .bipush i => decide ((Int8.ofInt i).toInt32 = m_k a b)
  | .sipush i => decide ((Int16.ofInt i).toInt32 = m_k a b)
  | .ldc i => mc_w q (.constant own i (m_k a b))
  | .ldc_w i => mc_w q (.constant own i (m_k a b))
  | .ldc2_w i => mc_w q (.constantLong own i (m_kl a b))
  | .iload i => decide (i = a)
  | .lload i => decide (i = a)
  | .aload i => decide (i = a)
  | .istore i => decide (i = a)
  | .lstore i => decide (i = a)
  | .astore i => decide (i = a)
  | .iload_n k => decide ((k : Nat) = a)
  | .lload_n k => decide ((k : Nat) = a)
  | .aload_n k => decide ((k : Nat) = a)
  | .istore_n k => decide ((k : Nat) = a)
  | .lstore_n k => decide ((k : Nat) = a)
  | .astore_n k => decide ((k : Nat) = a)
  | .iinc i n => decide (i = a) && decide (Int32.ofInt n = m_k b c)
  | .ifCond _ off => decide ((pc : Int) + off = (a : Int))
  | .if_icmp _ off => decide ((pc : Int) + off = (a : Int))
  | .goto off => decide ((pc : Int) + off = (a : Int))
  | .getfield i => mc_fld own i a b c q
  | .putfield i => mc_fld own i a b c q && mc_fin own nme a b
  | .newarray ty => (match ty with
      | .int => decide (a = 0) && mc_w q (.arrayClass .int)
      | .boolean => decide (a = 1) && mc_w q (.arrayClass .boolean)
      | _ => false)
  | .anewarray i => mc_w q (.classLink own i "NoteHouse$World")
  | .new i => match mCF[a]? with
    | some (C, fl) => decide (b = fl.length) && mc_w q (.classLink own i C)
    | none => false
  | _ => true
def m_len (ins : Instr) (len : Nat) : Nat := match ins with
        | .iconst _ | .lconst _ | .iload_n _ | .lload_n _ | .aload_n _ | .istore_n _ | .lstore_n _ | .astore_n _ | .iadd | .isub | .imul | .iand | .ixor | .ishl | .ishr | .iushr | .idiv | .irem | .ineg | .ladd | .lsub | .lmul | .ldiv | .lcmp | .i2l | .l2i | .dup | .dup2 | .pop | .iaload | .baload | .iastore | .bastore | .arraylength | .aaload | .aastore => 1
        | .bipush _ | .ldc _ | .iload _ | .lload _ | .aload _ | .istore _ | .lstore _ | .astore _ | .newarray _ => 2
        | .sipush _ | .ldc_w _ | .ldc2_w _ | .iinc _ _ | .ifCond _ _ | .if_icmp _ _ | .goto _ | .getfield _ | .putfield _ | .anewarray _ | .new _ => 3
        | _ => len
def m_hp (ins : Instr) : Bool := match ins with
  | .getfield _ | .putfield _ | .iaload | .baload | .iastore | .bastore | .arraylength | .aaload | .aastore | .newarray _ | .anewarray _ | .new _ => true
  | _ => false
noncomputable def m_chk (me : mMe) (e : Nat × mOp) : Bool := match me, e with
  | (y, bytes, _, ret, _), (pc, ins, len, tag, a, b, c, q) => decide (decode bytes pc = .ok (ins, len)) && (match tag with
    | 0 => mc_tag0 y.cls y.name pc ins a b c q && decide (len = m_len ins len)
    | 1 => decide (ins = .ireturn) && decide (len = 1) && (decide (ret = some .int ∧ a = 0) || decide (ret = some .boolean ∧ a = 1))
    | 2 => decide (ins = .lreturn) && decide (len = 1) && decide (ret = some .long)
    | 3 => decide (ins = .return_) && decide (len = 1) && decide (ret = none)
    | 4 => (match ins with | .invokestatic i => mc_call y.cls i a b c q 0 false | _ => false) && decide (len = 3)
    | 5 => (match ins with | .invokevirtual i => mc_call y.cls i a b c q 1 false && decide (c = 0) | _ => false) && decide (len = 3)
    | 6 => (match ins with | .invokespecial i => mc_call y.cls i a b c q 1 true | _ => false) && decide (len = 3)
    | 7 => (match ins with | .invokespecial i => mc_w q (.methodLink y.cls i objectInit) | _ => false) && decide (len = 3)
    | 8 => (match ins with | .invokestatic i => mc_w q (.methodLink y.cls i arraycopyName) | _ => false) && decide (len = 3)
    | _ => false)
/-- a method's own words -/
def m_chm (me : mMe) : Bool := match me with
  | (y, bytes, ml, ret, np, pc, pk, ps, pi, kd, ci) => mc_w pc (.code y bytes ml ret) && (match kd with
      | 0 => mc_w pk (.static y)
      | _ => mc_w pk (.instanceMethod y) && (decide (y.name = "<init>") || mc_w ps (.selects y.cls y y)) && (match mCF[ci]? with | some (C, _) => decide (C = y.cls) | none => false)) && mc_w pi (.initialized y.cls) &&
    plainFor y && decide (y.cls ≠ "java/lang/invoke/MethodHandle") && decide (y.cls ≠ "java/lang/invoke/VarHandle") && decide ((parseMethodDescriptor y.desc).map (fun d => d.parameters.length) = some np) && decide (ml ≤ 20) && (decide (y.name ≠ "<init>") || decide (ret = none))
/-- a class's own words, by their places: instantiable, initialized, of the fields -/
def m_chc (C : String) (fl : mFl) (q1 q2 : Nat) (qs : List Nat) : Bool := mc_w q1 (.instantiable C fl.length) && mc_w q2 (.initialized C) && decide (qs.length = fl.length) && (List.range fl.length).all (fun k => match qs[k]?, fl[k]? with
  | some q, some (dc, nm, ds, fin) => mc_w q (if fin = true then .laysFinal C dc nm ds else .lays C dc nm ds)
  | _, _ => false)
