/-! ===== the program's own check: each instruction is what the bytes say, each word is in the tables ===== -/
def am_wq (q : Nat) (w : Cond) : Bool := decide (lw_tbl[q]? = some w) && goodWord w
def am_ln (ins : Instr) (pc nx : Nat) : Nat := match ins with
  | .aload _ => 2
  | .astore _ => 2
  | .bipush _ => 2
  | .iload _ => 2
  | .istore _ => 2
  | .ldc _ => 2
  | .lload _ => 2
  | .newarray _ => 2
  | .sipush _ => 3
  | .ldc2_w _ => 3
  | .iinc _ _ => 3
  | .goto _ => 3
  | .ifCond _ _ => 3
  | .if_icmp _ _ => 3
  | .ifnull _ => 3
  | .ifnonnull _ => 3
  | .getfield _ => 3
  | .putfield _ => 3
  | .new _ => 3
  | .anewarray _ => 3
  | .invokevirtual _ => 3
  | .invokespecial _ => 3
  | .invokestatic _ => 3
  | .tableswitch _ _ _ _ => nx - pc
  | .lookupswitch _ _ => nx - pc
  | _ => 1
def am_isR (t : FieldType) : Bool := match t with
  | .object _ => true
  | .array _ => true
  | _ => false
def am_ftB (t : Nat) (f : Option FieldType) : Bool := match t, f with
  | 0, some .int => true
  | 1, some .boolean => true
  | 3, some f => am_isR f
  | _, _ => false
def am_fdB (id ci i t q n : Nat) : Bool := match am_cl[ci]? with
  | some r => decide (i < r.2.2) && decide (ci < 20) && decide ((am_tl ci)[i]? = some t) && am_wq q (.fieldLink (am_y id).cls n (r.2.1 i).1 (r.2.1 i).2.1 (r.2.1 i).2.2.1)
  | none => false
def am_ptB (id ci i t : Nat) : Bool := match am_cl[ci]? with
  | some r => (!(r.2.1 i).2.2.2 || (decide ((am_y id).name = "<init>") && decide ((r.2.1 i).1 = (am_y id).cls))) && am_ftB t (parseFieldDescriptor (r.2.1 i).2.2.1)
  | none => false
def am_clB (a npar : Nat) : Bool := decide (a < am_law) && decide ((parseMethodDescriptor (am_y a).desc).map (fun d => d.parameters.length) = some npar)
def am_okS (id pc : Nat) (ins : Instr) (a : Nat) (qs : List Nat) : Bool := match ins with
  | .iconst n => decide (Int32.ofInt n = Int32.ofNat a)
  | .bipush n => decide ((Int8.ofInt n).toInt32 = Int32.ofNat a)
  | .sipush n => decide ((Int16.ofInt n).toInt32 = Int32.ofNat a)
  | .ldc n => am_wq (am_q qs 0) (.constant (am_y id).cls n (Int32.ofNat a))
  | .ldc2_w n => am_wq (am_q qs 0) (.constantLong (am_y id).cls n (Int64.ofNat a))
  | .lconst n => decide ((n : Nat) = a)
  | .iload i => decide (i = a)
  | .lload i => decide (i = a)
  | .aload i => decide (i = a)
  | .iload_n n => decide ((n : Nat) = a)
  | .lload_n n => decide ((n : Nat) = a)
  | .aload_n n => decide ((n : Nat) = a)
  | .istore i => decide (i = a) && decide (a < am_nL id)
  | .astore i => decide (i = a) && decide (a < am_nL id)
  | .istore_n n => decide ((n : Nat) = a) && decide (a < am_nL id)
  | .astore_n n => decide ((n : Nat) = a) && decide (a < am_nL id)
  | .iinc i _ => decide (i = a) && decide (a < am_nL id)
  | .goto off => decide ((pc : Int) + off = (a : Int))
  | .ifnull off => decide ((pc : Int) + off = (a : Int))
  | .ifnonnull off => decide ((pc : Int) + off = (a : Int))
  | .ifCond _ off => decide ((pc : Int) + off = (a : Int))
  | .if_icmp _ off => decide ((pc : Int) + off = (a : Int))
  | .tableswitch df lo hi offs => decide ((pc : Int) + df = (a : Int)) && decide (0 ≤ lo) && decide (hi = lo + offs.size - 1) && decide (hi < 1000) && decide (offs.toList.map (fun o => (pc : Int) + o) = qs.map (fun t : Nat => (t : Int)))
  | .lookupswitch df ps => decide ((pc : Int) + df = (a : Int)) && (ps.toList.zip (ps.toList.drop 1)).all (fun (a, next) => a.1 < next.1) && ps.toList.all (fun q => decide (0 ≤ q.1) && decide (q.1 < 1000)) && decide (ps.toList.map (fun o => (pc : Int) + o.2) = qs.map (fun t : Nat => (t : Int)))
  | .getfield n => am_fdB id (am_q qs 0) (am_q qs 1) (am_q qs 2) (am_q qs 3) n
  | .putfield n => am_fdB id (am_q qs 0) (am_q qs 1) (am_q qs 2) (am_q qs 3) n && am_ptB id (am_q qs 0) (am_q qs 1) (am_q qs 2)
  | .new n => match am_cl[a]? with
    | some r => decide (am_c a = a) && decide (a < 20) && decide (am_n a = r.2.2) && am_wq (am_q qs 0) (.classLink (am_y id).cls n r.1) && am_wq (am_q qs 1) (.instantiable r.1 r.2.2) && am_wq (am_q qs 2) (.initialized r.1)
    | none => false
  | .newarray t => (match t with
    | .int => decide (am_c a = 20)
    | .boolean => decide (am_c a = 21)
    | .long => decide (am_c a = 22)
    | _ => false) && decide (am_n a ≤ 800000) && am_wq (am_q qs 0) (.arrayClass (newarray.typeOf t))
  | .anewarray n => ((decide (am_c a = 23) && am_wq (am_q qs 0) (.classLink (am_y id).cls n "WishTrees$Tree")) || (decide (am_c a = 24) && am_wq (am_q qs 0) (.classLink (am_y id).cls n "WishTrees$Creature"))) && decide (am_n a ≤ 800000)
  | .invokevirtual n => am_clB a (am_q qs 1) && (match am_cl[am_q qs 2]? with
    | some r => decide ((am_y a).cls = r.1)
    | none => false) && decide (am_q qs 2 < 20) && am_wq (am_q qs 3) (.methodLink (am_y id).cls n (am_y a)) && am_wq (am_q qs 4) (.instanceMethod (am_y a)) && am_wq (am_q qs 5) (.selects (am_y a).cls (am_y a) (am_y a)) && am_wq (am_q qs 6) (.initialized (am_y a).cls)
  | .invokespecial n => if a = 1000 then am_wq (am_q qs 0) (.methodLink (am_y id).cls n objectInit) && am_wq (am_q qs 1) (.instanceMethod objectInit) && am_wq (am_q qs 2) (.code objectInit ⟨#[0xb1]⟩ 1 none)
    else am_clB a (am_q qs 1) && decide ((am_y a).name = "<init>") && decide (am_rt a = none) && (decide (((am_y id).cls, n, am_y a) ∈ am_nests) || am_wq (am_q qs 3) (.methodLink (am_y id).cls n (am_y a))) && am_wq (am_q qs 4) (.instanceMethod (am_y a)) && am_wq (am_q qs 5) (.initialized (am_y a).cls)
  | .invokestatic n => am_clB a (am_q qs 1) && (decide (((am_y id).cls, n, am_y a) ∈ am_nests) || (decide ((am_y a).cls = (am_y id).cls) && am_wq (am_q qs 2) (.methodLink (am_y id).cls n (am_y a)))) && am_wq (am_q qs 3) (.static (am_y a)) && am_wq (am_q qs 4) (.initialized (am_y a).cls)
  | .ireturn => (decide (am_q qs 0 = 0) && decide (am_rt id = some .int)) || (decide (am_q qs 0 = 1) && decide (am_rt id = some .boolean))
  | .lreturn => decide (am_rt id = some .long)
  | .areturn => match am_rt id with
    | some (.object _) => true
    | _ => false
  | .return_ => decide (am_rt id = none)
  | _ => true
def am_okB (id : Nat) (x : Nat × am_E) : Bool := decide (decode (am_b id) x.1 = .ok (x.2.1, am_ln x.2.1 x.1 x.2.2.1)) && decide (x.2.2.1 = x.1 + am_ln x.2.1 x.1 x.2.2.1) && am_okS id x.1 x.2.1 x.2.2.2.1 x.2.2.2.2
