/-! ===== the machine's step, as a condition: what must hold ahead for Q to hold at the end ===== -/
def am_pI (st : List am_V) (f : Int32 → List am_V → Prop) : Prop := match st with
  | .inl x :: r => f x r
  | _ => False
def am_pL (st : List am_V) (f : Int64 → List am_V → Prop) : Prop := match st with
  | .inr (.inl x) :: r => f x r
  | _ => False
def am_pR (st : List am_V) (f : Option am_A → List am_V → Prop) : Prop := match st with
  | .inr (.inr x) :: r => f x r
  | _ => False
def am_pA (st : List am_V) (f : Nat → Nat → List am_V → Prop) : Prop := match st with
  | .inr (.inr (some a)) :: r => f a.1 a.2 r
  | _ => False
def am_pV (st : List am_V) (f : am_V → List am_V → Prop) : Prop := match st with
  | .inl x :: r => f (.inl x) r
  | .inr (.inr x) :: r => f (.inr (.inr x)) r
  | _ => False
def am_pN : Nat → List am_V → List am_V → (List am_V → List am_V → Prop) → Prop
  | 0, st, acc, f => f acc st
  | n + 1, v :: st, acc, f => am_pN n st (v :: acc) f
  | _ + 1, [], _, _ => False
def am_nS (o : Option am_A) : Prop := ∀ a, o = some a → a.1 ≠ 99
def am_pf (t : Nat) (st : List am_V) (f : Int32 → List am_V → Prop) (g : Option am_A → List am_V → Prop) : Prop := match t with
  | 0 => am_pI st f
  | 1 => am_pI st (fun x r => am_bool x ∧ f x r)
  | 3 => am_pR st (fun o r => am_nS o ∧ g o r)
  | _ => False
def am_ldI (ls : am_LS) (a : Nat) (f : Int32 → Prop) : Prop := match ls[a]? with
  | some (some (.inl x)) => f x
  | _ => False
def am_ldL (ls : am_LS) (a : Nat) (f : Int64 → Prop) : Prop := match ls[a]? with
  | some (some (.inr (.inl x))) => f x
  | _ => False
def am_ldR (ls : am_LS) (a : Nat) (f : Option am_A → Prop) : Prop := match ls[a]? with
  | some (some (.inr (.inr x))) => f x
  | _ => False
def am_sw (x : Int32) : Int → List Nat → (Nat → Prop) → Prop → Prop
  | _, [], _, e => e
  | lo, t :: ts, f, e => (x = Int32.ofInt lo → f t) ∧ (¬ x = Int32.ofInt lo → am_sw x (lo + 1) ts f e)
def am_lk (x : Int32) : List Int → List Nat → (Nat → Prop) → Prop → Prop
  | q :: qs, t :: ts, f, e => (x = Int32.ofInt q → f t) ∧ (¬ x = Int32.ofInt q → am_lk x qs ts f e)
  | _, _, _, e => e
def am_q (qs : List Nat) (i : Nat) : Nat := qs.getD i 0
def am_i99 (kd : Nat) (A B : Prop) : Prop := if kd = 99 then A else B
def am_i1000 (a : Nat) (A B : Prop) : Prop := if a = 1000 then A else B
def am_cal (l : Launch) (d a : Nat) (as : List am_V) (H : am_H) (k : Nat → am_LS → List am_V → am_H → Prop) (nx : Nat) (ls : am_LS) (r : List am_V) : Prop := ∃ d', d' < d ∧ ∃ r1 H1, am_AX l a d' as H r1 H1 ∧ k nx ls (r1.toList ++ r) H1
def am_go (l : Launch) (sc : am_SC) (id g d : Nat) (Q : Option am_V → am_H → Prop) (k : Nat → am_LS → List am_V → am_H → Prop) (ins : Instr) (nx a : Nat) (qs : List Nat) (ls : am_LS) (st : List am_V) (H : am_H) : Prop := match ins with
  | .aconst_null => k nx ls (.inr (.inr none) :: st) H
  | .iconst _ => k nx ls (.inl (Int32.ofNat a) :: st) H
  | .bipush _ => k nx ls (.inl (Int32.ofNat a) :: st) H
  | .sipush _ => k nx ls (.inl (Int32.ofNat a) :: st) H
  | .ldc _ => k nx ls (.inl (Int32.ofNat a) :: st) H
  | .lconst _ => k nx ls (.inr (.inl (Int64.ofNat a)) :: st) H
  | .ldc2_w _ => k nx ls (.inr (.inl (Int64.ofNat a)) :: st) H
  | .iload _ => am_ldI ls a (fun x => k nx ls (.inl x :: st) H)
  | .iload_n _ => am_ldI ls a (fun x => k nx ls (.inl x :: st) H)
  | .lload _ => am_ldL ls a (fun x => k nx ls (.inr (.inl x) :: st) H)
  | .lload_n _ => am_ldL ls a (fun x => k nx ls (.inr (.inl x) :: st) H)
  | .aload _ => am_ldR ls a (fun x => k nx ls (.inr (.inr x) :: st) H)
  | .aload_n _ => am_ldR ls a (fun x => k nx ls (.inr (.inr x) :: st) H)
  | .istore _ => am_pI st (fun x r => k nx (am_sto ls a (.inl x)) r H)
  | .istore_n _ => am_pI st (fun x r => k nx (am_sto ls a (.inl x)) r H)
  | .astore _ => am_pR st (fun x r => k nx (am_sto ls a (.inr (.inr x))) r H)
  | .astore_n _ => am_pR st (fun x r => k nx (am_sto ls a (.inr (.inr x))) r H)
  | .iinc _ n => am_ldI ls a (fun x => k nx (am_sto ls a (.inl (x + Int32.ofInt n))) st H)
  | .iadd => am_pI st (fun y r => am_pI r (fun x r => k nx ls (.inl (x + y) :: r) H))
  | .isub => am_pI st (fun y r => am_pI r (fun x r => k nx ls (.inl (x - y) :: r) H))
  | .imul => am_pI st (fun y r => am_pI r (fun x r => k nx ls (.inl (x * y) :: r) H))
  | .iand => am_pI st (fun y r => am_pI r (fun x r => k nx ls (.inl (x &&& y) :: r) H))
  | .ior => am_pI st (fun y r => am_pI r (fun x r => k nx ls (.inl (x ||| y) :: r) H))
  | .ixor => am_pI st (fun y r => am_pI r (fun x r => k nx ls (.inl (x ^^^ y) :: r) H))
  | .ishl => am_pI st (fun y r => am_pI r (fun x r => k nx ls (.inl (x <<< (y &&& 31)) :: r) H))
  | .ishr => am_pI st (fun y r => am_pI r (fun x r => k nx ls (.inl (x >>> (y &&& 31)) :: r) H))
  | .ladd => am_pL st (fun y r => am_pL r (fun x r => k nx ls (.inr (.inl (x + y)) :: r) H))
  | .lsub => am_pL st (fun y r => am_pL r (fun x r => k nx ls (.inr (.inl (x - y)) :: r) H))
  | .land => am_pL st (fun y r => am_pL r (fun x r => k nx ls (.inr (.inl (x &&& y)) :: r) H))
  | .lor => am_pL st (fun y r => am_pL r (fun x r => k nx ls (.inr (.inl (x ||| y)) :: r) H))
  | .lcmp => am_pL st (fun y r => am_pL r (fun x r => k nx ls (.inl (lg_cmp x y) :: r) H))
  | .i2l => am_pI st (fun x r => k nx ls (.inr (.inl x.toInt64) :: r) H)
  | .dup => am_pV st (fun v r => k nx ls (v :: v :: r) H)
  | .dup2 => am_pV st (fun v r => am_pV r (fun w r => k nx ls (v :: w :: v :: w :: r) H))
  | .goto _ => k a ls st H
  | .ifCond .eq _ => am_pI st (fun x r => (x = 0 → k a ls r H) ∧ (¬ x = 0 → k nx ls r H))
  | .ifCond .ne _ => am_pI st (fun x r => (¬ x = 0 → k a ls r H) ∧ (x = 0 → k nx ls r H))
  | .ifCond .lt _ => am_pI st (fun x r => (x < 0 → k a ls r H) ∧ (¬ x < 0 → k nx ls r H))
  | .ifCond .ge _ => am_pI st (fun x r => (0 ≤ x → k a ls r H) ∧ (¬ 0 ≤ x → k nx ls r H))
  | .ifCond .gt _ => am_pI st (fun x r => (0 < x → k a ls r H) ∧ (¬ 0 < x → k nx ls r H))
  | .ifCond .le _ => am_pI st (fun x r => (x ≤ 0 → k a ls r H) ∧ (¬ x ≤ 0 → k nx ls r H))
  | .if_icmp .eq _ => am_pI st (fun y r => am_pI r (fun x r => (x = y → k a ls r H) ∧ (¬ x = y → k nx ls r H)))
  | .if_icmp .ne _ => am_pI st (fun y r => am_pI r (fun x r => (¬ x = y → k a ls r H) ∧ (x = y → k nx ls r H)))
  | .if_icmp .lt _ => am_pI st (fun y r => am_pI r (fun x r => (x < y → k a ls r H) ∧ (¬ x < y → k nx ls r H)))
  | .if_icmp .ge _ => am_pI st (fun y r => am_pI r (fun x r => (y ≤ x → k a ls r H) ∧ (¬ y ≤ x → k nx ls r H)))
  | .if_icmp .gt _ => am_pI st (fun y r => am_pI r (fun x r => (y < x → k a ls r H) ∧ (¬ y < x → k nx ls r H)))
  | .if_icmp .le _ => am_pI st (fun y r => am_pI r (fun x r => (x ≤ y → k a ls r H) ∧ (¬ x ≤ y → k nx ls r H)))
  | .ifnull _ => am_pR st (fun x r => (x = none → k a ls r H) ∧ (¬ x = none → k nx ls r H))
  | .ifnonnull _ => am_pR st (fun x r => (¬ x = none → k a ls r H) ∧ (x = none → k nx ls r H))
  | .tableswitch _ lo _ _ => am_pI st (fun x r => am_sw x lo qs (fun t => k t ls r H) (k a ls r H))
  | .lookupswitch _ ps => am_pI st (fun x r => am_lk x (ps.toList.map (fun q => q.1)) qs (fun t => k t ls r H) (k a ls r H))
  | .getfield _ => am_pA st (fun kd j r => am_c kd = am_q qs 0 ∧ k nx ls (am_fl H kd j (am_q qs 1) (am_q qs 2) :: r) H)
  | .putfield _ => am_pf (am_q qs 2) st (fun x r => am_pA r (fun kd j r => am_c kd = am_q qs 0 ∧ k nx ls r (am_sI H kd j (am_q qs 1) x))) (fun o r => am_pA r (fun kd j r => am_c kd = am_q qs 0 ∧ k nx ls r (am_sR H kd j (am_q qs 1) o)))
  | .iaload => am_pI st (fun x r => am_pA r (fun kd j r => am_i99 kd (id = am_law ∧ j = 0 ∧ vp_in x sc.1 ∧ k nx ls (.inl (sc.2 x.toNatClampNeg) :: r) H) (am_c kd = 20 ∧ vp_in x (am_n kd) ∧ k nx ls (.inl (am_gI H kd j x.toNatClampNeg) :: r) H)))
  | .baload => am_pI st (fun x r => am_pA r (fun kd j r => am_c kd = 21 ∧ vp_in x (am_n kd) ∧ k nx ls (.inl (am_gI H kd j x.toNatClampNeg) :: r) H))
  | .laload => am_pI st (fun x r => am_pA r (fun kd j r => am_c kd = 22 ∧ vp_in x (am_n kd) ∧ k nx ls (.inr (.inl (am_gL H kd j x.toNatClampNeg)) :: r) H))
  | .aaload => am_pI st (fun x r => am_pA r (fun kd j r => (am_c kd = 23 ∨ am_c kd = 24) ∧ vp_in x (am_n kd) ∧ k nx ls (.inr (.inr (am_gR H kd j x.toNatClampNeg)) :: r) H))
  | .iastore => am_pI st (fun y r => am_pI r (fun x r => am_pA r (fun kd j r => am_c kd = 20 ∧ vp_in x (am_n kd) ∧ k nx ls r (am_sI H kd j x.toNatClampNeg y))))
  | .bastore => am_pI st (fun y r => am_pI r (fun x r => am_pA r (fun kd j r => am_c kd = 21 ∧ vp_in x (am_n kd) ∧ am_bool y ∧ k nx ls r (am_sI H kd j x.toNatClampNeg y))))
  | .lastore => am_pL st (fun y r => am_pI r (fun x r => am_pA r (fun kd j r => am_c kd = 22 ∧ vp_in x (am_n kd) ∧ k nx ls r (am_sL H kd j x.toNatClampNeg y))))
  | .aastore => am_pA st (fun vk vj r => am_pI r (fun x r => am_pA r (fun kd j r => (am_c kd = 23 ∧ am_c vk = 5 ∨ am_c kd = 24 ∧ am_c vk = 1) ∧ vp_in x (am_n kd) ∧ k nx ls r (am_sR H kd j x.toNatClampNeg (some (vk, vj))))))
  | .arraylength => am_pA st (fun kd j r => (kd = 99 ∧ j = 0 ∧ id = am_law) ∧ k nx ls (.inl (Int32.ofNat sc.1) :: r) H)
  | .new _ => (a, g) ∉ am_lv H ∧ k nx ls (.inr (.inr (some (a, g))) :: st) (am_nw H (a, g))
  | .newarray _ => am_pI st (fun x r => x = Int32.ofNat (am_n a) ∧ (a, g) ∉ am_lv H ∧ k nx ls (.inr (.inr (some (a, g))) :: r) (am_nw H (a, g)))
  | .anewarray _ => am_pI st (fun x r => x = Int32.ofNat (am_n a) ∧ (a, g) ∉ am_lv H ∧ k nx ls (.inr (.inr (some (a, g))) :: r) (am_nw H (a, g)))
  | .invokevirtual _ => am_pN (am_q qs 1) st [] (fun as r => am_pA r (fun kd j r => am_c kd = am_q qs 2 ∧ r.length ≤ 4 ∧ am_cal l d a (.inr (.inr (some (kd, j))) :: as) H k nx ls r))
  | .invokespecial _ => am_i1000 a (am_pA st (fun kd j r => r.length ≤ 4 ∧ 0 < d ∧ k nx ls r H)) (am_pN (am_q qs 1) st [] (fun as r => am_pA r (fun kd j r => r.length ≤ 4 ∧ am_cal l d a (.inr (.inr (some (kd, j))) :: as) H k nx ls r)))
  | .invokestatic _ => am_pN (am_q qs 1) st [] (fun as r => r.length ≤ 4 ∧ am_cal l d a as H k nx ls r)
  | .ireturn => am_pI st (fun x r => r = [] ∧ (am_q qs 0 = 1 → am_bool x) ∧ Q (some (.inl x)) H)
  | .lreturn => am_pL st (fun x r => r = [] ∧ Q (some (.inr (.inl x))) H)
  | .areturn => am_pR st (fun x r => r = [] ∧ Q (some (.inr (.inr x))) H)
  | .return_ => st = [] ∧ Q none H
  | _ => False
def am_w1 (l : Launch) (sc : am_SC) (id g d : Nat) (Q : Option am_V → am_H → Prop) (k : Nat → am_LS → List am_V → am_H → Prop) (m : Option (List Nat)) (e : Option am_E) (pc : Nat) (ls : am_LS) (st : List am_V) (H : am_H) : Prop := match m, e with
  | some m, _ => am_FQ l sc id d pc (am_tr m ls) st H Q
  | none, some e => am_go l sc id g d Q k e.1 e.2.1 e.2.2.1 e.2.2.2 ls st H
  | none, none => False
/-- what must hold here so that the method returns as Q says; at the labels of labs it stops -/
def am_wp (l : Launch) (sc : am_SC) (id g d : Nat) (labs : List (Nat × List Nat)) (Q : Option am_V → am_H → Prop) : Nat → Nat → am_LS → List am_V → am_H → Prop
  | 0 => fun _ _ _ _ => False
  | n + 1 => fun pc ls st H => am_w1 l sc id g d Q (am_wp l sc id g d labs Q n) (labs.lookup pc) (am_at id pc) pc ls st H
section AME
variable {l : Launch} {sc : am_SC} {id g d n nx a pc : Nat} {labs : List (Nat × List Nat)} {qs : List Nat} {Q : Option am_V → am_H → Prop} {k : Nat → am_LS → List am_V → am_H → Prop} {ls : am_LS} {st r : List am_V} {H : am_H} {x : Int32}
theorem am_wp_s : am_wp l sc id g d labs Q (n + 1) pc ls st H = am_w1 l sc id g d Q (am_wp l sc id g d labs Q n) (labs.lookup pc) (am_at id pc) pc ls st H := rfl
theorem am_w1_l {m : List Nat} {e : Option am_E} : am_w1 l sc id g d Q k (some m) e pc ls st H = am_FQ l sc id d pc (am_tr m ls) st H Q := rfl
theorem am_w1_g {i : Instr} : am_w1 l sc id g d Q k none (some (i, nx, a, qs)) pc ls st H = am_go l sc id g d Q k i nx a qs ls st H := rfl
theorem am_g_aconst_null : am_go l sc id g d Q k (.aconst_null) nx a qs ls st H = (k nx ls (.inr (.inr none) :: st) H) := rfl
theorem am_g_iconst {i : Int} : am_go l sc id g d Q k (.iconst i) nx a qs ls st H = (k nx ls (.inl (Int32.ofNat a) :: st) H) := rfl
theorem am_g_bipush {i : Int} : am_go l sc id g d Q k (.bipush i) nx a qs ls st H = (k nx ls (.inl (Int32.ofNat a) :: st) H) := rfl
theorem am_g_sipush {i : Int} : am_go l sc id g d Q k (.sipush i) nx a qs ls st H = (k nx ls (.inl (Int32.ofNat a) :: st) H) := rfl
theorem am_g_ldc {i : Nat} : am_go l sc id g d Q k (.ldc i) nx a qs ls st H = (k nx ls (.inl (Int32.ofNat a) :: st) H) := rfl
theorem am_g_lconst {i : Fin 2} : am_go l sc id g d Q k (.lconst i) nx a qs ls st H = (k nx ls (.inr (.inl (Int64.ofNat a)) :: st) H) := rfl
theorem am_g_ldc2_w {i : Nat} : am_go l sc id g d Q k (.ldc2_w i) nx a qs ls st H = (k nx ls (.inr (.inl (Int64.ofNat a)) :: st) H) := rfl
theorem am_g_iload {i : Nat} : am_go l sc id g d Q k (.iload i) nx a qs ls st H = (am_ldI ls a (fun x => k nx ls (.inl x :: st) H)) := rfl
theorem am_g_iload_n {i : Fin 4} : am_go l sc id g d Q k (.iload_n i) nx a qs ls st H = (am_ldI ls a (fun x => k nx ls (.inl x :: st) H)) := rfl
theorem am_g_lload {i : Nat} : am_go l sc id g d Q k (.lload i) nx a qs ls st H = (am_ldL ls a (fun x => k nx ls (.inr (.inl x) :: st) H)) := rfl
theorem am_g_lload_n {i : Fin 4} : am_go l sc id g d Q k (.lload_n i) nx a qs ls st H = (am_ldL ls a (fun x => k nx ls (.inr (.inl x) :: st) H)) := rfl
theorem am_g_aload {i : Nat} : am_go l sc id g d Q k (.aload i) nx a qs ls st H = (am_ldR ls a (fun x => k nx ls (.inr (.inr x) :: st) H)) := rfl
theorem am_g_aload_n {i : Fin 4} : am_go l sc id g d Q k (.aload_n i) nx a qs ls st H = (am_ldR ls a (fun x => k nx ls (.inr (.inr x) :: st) H)) := rfl
theorem am_g_istore {i : Nat} : am_go l sc id g d Q k (.istore i) nx a qs ls st H = (am_pI st (fun x r => k nx (am_sto ls a (.inl x)) r H)) := rfl
theorem am_g_istore_n {i : Fin 4} : am_go l sc id g d Q k (.istore_n i) nx a qs ls st H = (am_pI st (fun x r => k nx (am_sto ls a (.inl x)) r H)) := rfl
theorem am_g_astore {i : Nat} : am_go l sc id g d Q k (.astore i) nx a qs ls st H = (am_pR st (fun x r => k nx (am_sto ls a (.inr (.inr x))) r H)) := rfl
theorem am_g_astore_n {i : Fin 4} : am_go l sc id g d Q k (.astore_n i) nx a qs ls st H = (am_pR st (fun x r => k nx (am_sto ls a (.inr (.inr x))) r H)) := rfl
theorem am_g_iinc__n {i : Nat} {n : Int} : am_go l sc id g d Q k (.iinc i n) nx a qs ls st H = (am_ldI ls a (fun x => k nx (am_sto ls a (.inl (x + Int32.ofInt n))) st H)) := rfl
theorem am_g_iadd : am_go l sc id g d Q k (.iadd) nx a qs ls st H = (am_pI st (fun y r => am_pI r (fun x r => k nx ls (.inl (x + y) :: r) H))) := rfl
theorem am_g_isub : am_go l sc id g d Q k (.isub) nx a qs ls st H = (am_pI st (fun y r => am_pI r (fun x r => k nx ls (.inl (x - y) :: r) H))) := rfl
theorem am_g_imul : am_go l sc id g d Q k (.imul) nx a qs ls st H = (am_pI st (fun y r => am_pI r (fun x r => k nx ls (.inl (x * y) :: r) H))) := rfl
theorem am_g_iand : am_go l sc id g d Q k (.iand) nx a qs ls st H = (am_pI st (fun y r => am_pI r (fun x r => k nx ls (.inl (x &&& y) :: r) H))) := rfl
theorem am_g_ior : am_go l sc id g d Q k (.ior) nx a qs ls st H = (am_pI st (fun y r => am_pI r (fun x r => k nx ls (.inl (x ||| y) :: r) H))) := rfl
theorem am_g_ixor : am_go l sc id g d Q k (.ixor) nx a qs ls st H = (am_pI st (fun y r => am_pI r (fun x r => k nx ls (.inl (x ^^^ y) :: r) H))) := rfl
theorem am_g_ishl : am_go l sc id g d Q k (.ishl) nx a qs ls st H = (am_pI st (fun y r => am_pI r (fun x r => k nx ls (.inl (x <<< (y &&& 31)) :: r) H))) := rfl
theorem am_g_ishr : am_go l sc id g d Q k (.ishr) nx a qs ls st H = (am_pI st (fun y r => am_pI r (fun x r => k nx ls (.inl (x >>> (y &&& 31)) :: r) H))) := rfl
theorem am_g_ladd : am_go l sc id g d Q k (.ladd) nx a qs ls st H = (am_pL st (fun y r => am_pL r (fun x r => k nx ls (.inr (.inl (x + y)) :: r) H))) := rfl
theorem am_g_lsub : am_go l sc id g d Q k (.lsub) nx a qs ls st H = (am_pL st (fun y r => am_pL r (fun x r => k nx ls (.inr (.inl (x - y)) :: r) H))) := rfl
theorem am_g_land : am_go l sc id g d Q k (.land) nx a qs ls st H = (am_pL st (fun y r => am_pL r (fun x r => k nx ls (.inr (.inl (x &&& y)) :: r) H))) := rfl
theorem am_g_lor : am_go l sc id g d Q k (.lor) nx a qs ls st H = (am_pL st (fun y r => am_pL r (fun x r => k nx ls (.inr (.inl (x ||| y)) :: r) H))) := rfl
theorem am_g_lcmp : am_go l sc id g d Q k (.lcmp) nx a qs ls st H = (am_pL st (fun y r => am_pL r (fun x r => k nx ls (.inl (lg_cmp x y) :: r) H))) := rfl
theorem am_g_i2l : am_go l sc id g d Q k (.i2l) nx a qs ls st H = (am_pI st (fun x r => k nx ls (.inr (.inl x.toInt64) :: r) H)) := rfl
theorem am_g_dup : am_go l sc id g d Q k (.dup) nx a qs ls st H = (am_pV st (fun v r => k nx ls (v :: v :: r) H)) := rfl
theorem am_g_dup2 : am_go l sc id g d Q k (.dup2) nx a qs ls st H = (am_pV st (fun v r => am_pV r (fun w r => k nx ls (v :: w :: v :: w :: r) H))) := rfl
theorem am_g_goto {i : Int} : am_go l sc id g d Q k (.goto i) nx a qs ls st H = (k a ls st H) := rfl
theorem am_g_ifCond_eq {i : Int} : am_go l sc id g d Q k (.ifCond .eq i) nx a qs ls st H = (am_pI st (fun x r => (x = 0 → k a ls r H) ∧ (¬ x = 0 → k nx ls r H))) := rfl
theorem am_g_ifCond_ne {i : Int} : am_go l sc id g d Q k (.ifCond .ne i) nx a qs ls st H = (am_pI st (fun x r => (¬ x = 0 → k a ls r H) ∧ (x = 0 → k nx ls r H))) := rfl
theorem am_g_ifCond_lt {i : Int} : am_go l sc id g d Q k (.ifCond .lt i) nx a qs ls st H = (am_pI st (fun x r => (x < 0 → k a ls r H) ∧ (¬ x < 0 → k nx ls r H))) := rfl
theorem am_g_ifCond_ge {i : Int} : am_go l sc id g d Q k (.ifCond .ge i) nx a qs ls st H = (am_pI st (fun x r => (0 ≤ x → k a ls r H) ∧ (¬ 0 ≤ x → k nx ls r H))) := rfl
theorem am_g_ifCond_gt {i : Int} : am_go l sc id g d Q k (.ifCond .gt i) nx a qs ls st H = (am_pI st (fun x r => (0 < x → k a ls r H) ∧ (¬ 0 < x → k nx ls r H))) := rfl
theorem am_g_ifCond_le {i : Int} : am_go l sc id g d Q k (.ifCond .le i) nx a qs ls st H = (am_pI st (fun x r => (x ≤ 0 → k a ls r H) ∧ (¬ x ≤ 0 → k nx ls r H))) := rfl
theorem am_g_if_icmp_eq {i : Int} : am_go l sc id g d Q k (.if_icmp .eq i) nx a qs ls st H = (am_pI st (fun y r => am_pI r (fun x r => (x = y → k a ls r H) ∧ (¬ x = y → k nx ls r H)))) := rfl
theorem am_g_if_icmp_ne {i : Int} : am_go l sc id g d Q k (.if_icmp .ne i) nx a qs ls st H = (am_pI st (fun y r => am_pI r (fun x r => (¬ x = y → k a ls r H) ∧ (x = y → k nx ls r H)))) := rfl
theorem am_g_if_icmp_lt {i : Int} : am_go l sc id g d Q k (.if_icmp .lt i) nx a qs ls st H = (am_pI st (fun y r => am_pI r (fun x r => (x < y → k a ls r H) ∧ (¬ x < y → k nx ls r H)))) := rfl
theorem am_g_if_icmp_ge {i : Int} : am_go l sc id g d Q k (.if_icmp .ge i) nx a qs ls st H = (am_pI st (fun y r => am_pI r (fun x r => (y ≤ x → k a ls r H) ∧ (¬ y ≤ x → k nx ls r H)))) := rfl
theorem am_g_if_icmp_gt {i : Int} : am_go l sc id g d Q k (.if_icmp .gt i) nx a qs ls st H = (am_pI st (fun y r => am_pI r (fun x r => (y < x → k a ls r H) ∧ (¬ y < x → k nx ls r H)))) := rfl
theorem am_g_if_icmp_le {i : Int} : am_go l sc id g d Q k (.if_icmp .le i) nx a qs ls st H = (am_pI st (fun y r => am_pI r (fun x r => (x ≤ y → k a ls r H) ∧ (¬ x ≤ y → k nx ls r H)))) := rfl
theorem am_g_ifnull {i : Int} : am_go l sc id g d Q k (.ifnull i) nx a qs ls st H = (am_pR st (fun x r => (x = none → k a ls r H) ∧ (¬ x = none → k nx ls r H))) := rfl
theorem am_g_ifnonnull {i : Int} : am_go l sc id g d Q k (.ifnonnull i) nx a qs ls st H = (am_pR st (fun x r => (¬ x = none → k a ls r H) ∧ (x = none → k nx ls r H))) := rfl
theorem am_g_tableswitch__lo {df lo hi : Int} {offs : Array Int} : am_go l sc id g d Q k (.tableswitch df lo hi offs) nx a qs ls st H = (am_pI st (fun x r => am_sw x lo qs (fun t => k t ls r H) (k a ls r H))) := rfl
theorem am_g_lookupswitch__ps {df : Int} {ps : Array (Int × Int)} : am_go l sc id g d Q k (.lookupswitch df ps) nx a qs ls st H = (am_pI st (fun x r => am_lk x (ps.toList.map (fun q => q.1)) qs (fun t => k t ls r H) (k a ls r H))) := rfl
theorem am_g_getfield {i : Nat} : am_go l sc id g d Q k (.getfield i) nx a qs ls st H = (am_pA st (fun kd j r => am_c kd = am_q qs 0 ∧ k nx ls (am_fl H kd j (am_q qs 1) (am_q qs 2) :: r) H)) := rfl
theorem am_g_putfield {i : Nat} : am_go l sc id g d Q k (.putfield i) nx a qs ls st H = (am_pf (am_q qs 2) st (fun x r => am_pA r (fun kd j r => am_c kd = am_q qs 0 ∧ k nx ls r (am_sI H kd j (am_q qs 1) x))) (fun o r => am_pA r (fun kd j r => am_c kd = am_q qs 0 ∧ k nx ls r (am_sR H kd j (am_q qs 1) o)))) := rfl
theorem am_g_iaload : am_go l sc id g d Q k (.iaload) nx a qs ls st H = (am_pI st (fun x r => am_pA r (fun kd j r => am_i99 kd (id = am_law ∧ j = 0 ∧ vp_in x sc.1 ∧ k nx ls (.inl (sc.2 x.toNatClampNeg) :: r) H) (am_c kd = 20 ∧ vp_in x (am_n kd) ∧ k nx ls (.inl (am_gI H kd j x.toNatClampNeg) :: r) H)))) := rfl
theorem am_g_baload : am_go l sc id g d Q k (.baload) nx a qs ls st H = (am_pI st (fun x r => am_pA r (fun kd j r => am_c kd = 21 ∧ vp_in x (am_n kd) ∧ k nx ls (.inl (am_gI H kd j x.toNatClampNeg) :: r) H))) := rfl
theorem am_g_laload : am_go l sc id g d Q k (.laload) nx a qs ls st H = (am_pI st (fun x r => am_pA r (fun kd j r => am_c kd = 22 ∧ vp_in x (am_n kd) ∧ k nx ls (.inr (.inl (am_gL H kd j x.toNatClampNeg)) :: r) H))) := rfl
theorem am_g_aaload : am_go l sc id g d Q k (.aaload) nx a qs ls st H = (am_pI st (fun x r => am_pA r (fun kd j r => (am_c kd = 23 ∨ am_c kd = 24) ∧ vp_in x (am_n kd) ∧ k nx ls (.inr (.inr (am_gR H kd j x.toNatClampNeg)) :: r) H))) := rfl
theorem am_g_iastore : am_go l sc id g d Q k (.iastore) nx a qs ls st H = (am_pI st (fun y r => am_pI r (fun x r => am_pA r (fun kd j r => am_c kd = 20 ∧ vp_in x (am_n kd) ∧ k nx ls r (am_sI H kd j x.toNatClampNeg y))))) := rfl
theorem am_g_bastore : am_go l sc id g d Q k (.bastore) nx a qs ls st H = (am_pI st (fun y r => am_pI r (fun x r => am_pA r (fun kd j r => am_c kd = 21 ∧ vp_in x (am_n kd) ∧ am_bool y ∧ k nx ls r (am_sI H kd j x.toNatClampNeg y))))) := rfl
theorem am_g_lastore : am_go l sc id g d Q k (.lastore) nx a qs ls st H = (am_pL st (fun y r => am_pI r (fun x r => am_pA r (fun kd j r => am_c kd = 22 ∧ vp_in x (am_n kd) ∧ k nx ls r (am_sL H kd j x.toNatClampNeg y))))) := rfl
theorem am_g_aastore : am_go l sc id g d Q k (.aastore) nx a qs ls st H = (am_pA st (fun vk vj r => am_pI r (fun x r => am_pA r (fun kd j r => (am_c kd = 23 ∧ am_c vk = 5 ∨ am_c kd = 24 ∧ am_c vk = 1) ∧ vp_in x (am_n kd) ∧ k nx ls r (am_sR H kd j x.toNatClampNeg (some (vk, vj))))))) := rfl
theorem am_g_arraylength : am_go l sc id g d Q k (.arraylength) nx a qs ls st H = (am_pA st (fun kd j r => (kd = 99 ∧ j = 0 ∧ id = am_law) ∧ k nx ls (.inl (Int32.ofNat sc.1) :: r) H)) := rfl
theorem am_g_new {i : Nat} : am_go l sc id g d Q k (.new i) nx a qs ls st H = ((a, g) ∉ am_lv H ∧ k nx ls (.inr (.inr (some (a, g))) :: st) (am_nw H (a, g))) := rfl
theorem am_g_newarray {t : ArrayType} : am_go l sc id g d Q k (.newarray t) nx a qs ls st H = (am_pI st (fun x r => x = Int32.ofNat (am_n a) ∧ (a, g) ∉ am_lv H ∧ k nx ls (.inr (.inr (some (a, g))) :: r) (am_nw H (a, g)))) := rfl
theorem am_g_anewarray {i : Nat} : am_go l sc id g d Q k (.anewarray i) nx a qs ls st H = (am_pI st (fun x r => x = Int32.ofNat (am_n a) ∧ (a, g) ∉ am_lv H ∧ k nx ls (.inr (.inr (some (a, g))) :: r) (am_nw H (a, g)))) := rfl
theorem am_g_invokevirtual {i : Nat} : am_go l sc id g d Q k (.invokevirtual i) nx a qs ls st H = (am_pN (am_q qs 1) st [] (fun as r => am_pA r (fun kd j r => am_c kd = am_q qs 2 ∧ r.length ≤ 4 ∧ am_cal l d a (.inr (.inr (some (kd, j))) :: as) H k nx ls r))) := rfl
theorem am_g_invokespecial {i : Nat} : am_go l sc id g d Q k (.invokespecial i) nx a qs ls st H = (am_i1000 a (am_pA st (fun kd j r => r.length ≤ 4 ∧ 0 < d ∧ k nx ls r H)) (am_pN (am_q qs 1) st [] (fun as r => am_pA r (fun kd j r => r.length ≤ 4 ∧ am_cal l d a (.inr (.inr (some (kd, j))) :: as) H k nx ls r)))) := rfl
theorem am_g_invokestatic {i : Nat} : am_go l sc id g d Q k (.invokestatic i) nx a qs ls st H = (am_pN (am_q qs 1) st [] (fun as r => r.length ≤ 4 ∧ am_cal l d a as H k nx ls r)) := rfl
theorem am_g_ireturn : am_go l sc id g d Q k (.ireturn) nx a qs ls st H = (am_pI st (fun x r => r = [] ∧ (am_q qs 0 = 1 → am_bool x) ∧ Q (some (.inl x)) H)) := rfl
theorem am_g_lreturn : am_go l sc id g d Q k (.lreturn) nx a qs ls st H = (am_pL st (fun x r => r = [] ∧ Q (some (.inr (.inl x))) H)) := rfl
theorem am_g_areturn : am_go l sc id g d Q k (.areturn) nx a qs ls st H = (am_pR st (fun x r => r = [] ∧ Q (some (.inr (.inr x))) H)) := rfl
theorem am_g_return : am_go l sc id g d Q k (.return_) nx a qs ls st H = (st = [] ∧ Q none H) := rfl
theorem am_pI_c {f : Int32 → List am_V → Prop} : am_pI (.inl x :: r) f = f x r := rfl
theorem am_pL_c {x : Int64} {f : Int64 → List am_V → Prop} : am_pL (.inr (.inl x) :: r) f = f x r := rfl
theorem am_pR_c {x : Option am_A} {f : Option am_A → List am_V → Prop} : am_pR (.inr (.inr x) :: r) f = f x r := rfl
theorem am_pA_c {kd j : Nat} {f : Nat → Nat → List am_V → Prop} : am_pA (.inr (.inr (some (kd, j))) :: r) f = f kd j r := rfl
theorem am_pV_I {f : am_V → List am_V → Prop} : am_pV (.inl x :: r) f = f (.inl x) r := rfl
theorem am_pV_R {x : Option am_A} {f : am_V → List am_V → Prop} : am_pV (.inr (.inr x) :: r) f = f (.inr (.inr x)) r := rfl
theorem am_pN_0 {acc : List am_V} {f : List am_V → List am_V → Prop} : am_pN 0 st acc f = f acc st := by unfold am_pN; rfl
theorem am_pN_s {n : Nat} {v : am_V} {acc : List am_V} {f : List am_V → List am_V → Prop} : am_pN (n + 1) (v :: r) acc f = am_pN n r (v :: acc) f := by rw [am_pN]
theorem am_pf_0 {f : Int32 → List am_V → Prop} {h : Option am_A → List am_V → Prop} : am_pf 0 st f h = am_pI st f := rfl
theorem am_pf_1 {f : Int32 → List am_V → Prop} {h : Option am_A → List am_V → Prop} : am_pf 1 st f h = am_pI st (fun x r => am_bool x ∧ f x r) := rfl
theorem am_pf_3 {f : Int32 → List am_V → Prop} {h : Option am_A → List am_V → Prop} : am_pf 3 st f h = am_pR st (fun o r => am_nS o ∧ h o r) := rfl
theorem am_nS_n : am_nS none = True := eq_true (fun a h => by cases h)
theorem am_nS_s {kd j : Nat} : am_nS (some (kd, j)) = (kd ≠ 99) := propext ⟨fun h => h _ rfl, fun h a q => by cases q; exact h⟩
theorem am_ldI_0 {f : Int32 → Prop} {t : am_LS} : am_ldI (some (.inl x) :: t) 0 f = f x := rfl
theorem am_ldI_s {a : Nat} {o : Option am_V} {f : Int32 → Prop} {t : am_LS} : am_ldI (o :: t) (a + 1) f = am_ldI t a f := rfl
theorem am_ldL_0 {x : Int64} {f : Int64 → Prop} {t : am_LS} : am_ldL (some (.inr (.inl x)) :: t) 0 f = f x := rfl
theorem am_ldL_s {a : Nat} {o : Option am_V} {f : Int64 → Prop} {t : am_LS} : am_ldL (o :: t) (a + 1) f = am_ldL t a f := rfl
theorem am_ldR_0 {x : Option am_A} {f : Option am_A → Prop} {t : am_LS} : am_ldR (some (.inr (.inr x)) :: t) 0 f = f x := rfl
theorem am_ldR_s {a : Nat} {o : Option am_V} {f : Option am_A → Prop} {t : am_LS} : am_ldR (o :: t) (a + 1) f = am_ldR t a f := rfl
theorem am_i99_n {kd : Nat} {A B : Prop} (h : kd ≠ 99) : am_i99 kd A B = B := if_neg h
theorem am_i99_y {A B : Prop} : am_i99 99 A B = A := if_pos rfl
theorem am_i1000_n {kd : Nat} {A B : Prop} (h : kd ≠ 1000) : am_i1000 kd A B = B := if_neg h
theorem am_i1000_y {A B : Prop} : am_i1000 1000 A B = A := if_pos rfl
theorem am_q_0 {x : Nat} {t : List Nat} : am_q (x :: t) 0 = x := rfl
theorem am_q_s {x i : Nat} {t : List Nat} : am_q (x :: t) (i + 1) = am_q t i := rfl
theorem am_sw_n {lo : Int} {f : Nat → Prop} {e : Prop} : am_sw x lo [] f e = e := by rw [am_sw]
theorem am_sw_c {lo : Int} {t : Nat} {ts : List Nat} {f : Nat → Prop} {e : Prop} : am_sw x lo (t :: ts) f e = ((x = Int32.ofInt lo → f t) ∧ (¬ x = Int32.ofInt lo → am_sw x (lo + 1) ts f e)) := by rw [am_sw]
theorem am_lk_n {ts : List Nat} {f : Nat → Prop} {e : Prop} : am_lk x [] ts f e = e := by rw [am_lk]; simp
theorem am_lk_c {q : Int} {rs : List Int} {t : Nat} {ts : List Nat} {f : Nat → Prop} {e : Prop} : am_lk x (q :: rs) (t :: ts) f e = ((x = Int32.ofInt q → f t) ∧ (¬ x = Int32.ofInt q → am_lk x rs ts f e)) := by rw [am_lk]
theorem am_fl_0 {kd j i : Nat} : am_fl H kd j i 0 = .inl (am_gI H kd j i) := rfl
theorem am_fl_1 {kd j i : Nat} : am_fl H kd j i 1 = .inl (am_gI H kd j i) := rfl
theorem am_fl_3 {kd j i : Nat} : am_fl H kd j i 3 = .inr (.inr (am_gR H kd j i)) := rfl
end AME
