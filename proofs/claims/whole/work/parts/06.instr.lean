/-! ===== one instruction each ===== -/
section AMI
variable {l : Launch} {sc : am_SC} {id d pc : Nat} {ls : am_LS} {st : List am_V} {H : am_H} {Q : Option am_V → am_H → Prop}
theorem am_s_iconst {n : Int} {a : Nat} (hd : decode (am_b id) pc = .ok (.iconst n, 1)) (hv : Int32.ofInt n = Int32.ofNat a) (h : am_FQ l sc id d (pc + 1) ls (.inl (Int32.ofNat a) :: st) H Q) : am_FQ l sc id d pc ls st H Q :=
  am_step0 (fun _ hl => am_lvs_int hl (fun v hv => by rcases List.mem_cons.mp hv with rfl | q <;> simp_all)) (fun p e R s m args below meth c D cA base γ Hc locs cells slots lsC Q cx ok lv wd S hls k => lv_iconst cx.1.1 cx.1.2.1 hd hv (k lsC hls)) h
theorem am_s_bipush {n : Int} {a : Nat} (hd : decode (am_b id) pc = .ok (.bipush n, 2)) (hv : (Int8.ofInt n).toInt32 = Int32.ofNat a) (h : am_FQ l sc id d (pc + 2) ls (.inl (Int32.ofNat a) :: st) H Q) : am_FQ l sc id d pc ls st H Q :=
  am_step0 (fun _ hl => am_lvs_int hl (fun v hv => by rcases List.mem_cons.mp hv with rfl | q <;> simp_all)) (fun p e R s m args below meth c D cA base γ Hc locs cells slots lsC Q cx ok lv wd S hls k => lv_bipush cx.1.1 cx.1.2.1 hd hv (k lsC hls)) h
theorem am_s_sipush {n : Int} {a : Nat} (hd : decode (am_b id) pc = .ok (.sipush n, 3)) (hv : (Int16.ofInt n).toInt32 = Int32.ofNat a) (h : am_FQ l sc id d (pc + 3) ls (.inl (Int32.ofNat a) :: st) H Q) : am_FQ l sc id d pc ls st H Q :=
  am_step0 (fun _ hl => am_lvs_int hl (fun v hv => by rcases List.mem_cons.mp hv with rfl | q <;> simp_all)) (fun p e R s m args below meth c D cA base γ Hc locs cells slots lsC Q cx ok lv wd S hls k => lv_sipush cx.1.1 cx.1.2.1 hd hv (k lsC hls)) h
theorem am_s_ldc {n a : Nat} (hd : decode (am_b id) pc = .ok (.ldc n, 2)) (hw : Cond.constant (am_y id).cls n (Int32.ofNat a) ∈ lw_gt) (h : am_FQ l sc id d (pc + 2) ls (.inl (Int32.ofNat a) :: st) H Q) : am_FQ l sc id d pc ls st H Q :=
  am_step0 (fun _ hl => am_lvs_int hl (fun v hv => by rcases List.mem_cons.mp hv with rfl | q <;> simp_all)) (fun p e R s m args below meth c D cA base γ Hc locs cells slots lsC Q cx ok lv wd S hls k => lv_ldc cx.1.1 cx.1.2.1 cx.1.2.2.2 (cx.2.1 _ hw) hd (k lsC hls)) h
theorem am_s_ldc2 {n a : Nat} (hd : decode (am_b id) pc = .ok (.ldc2_w n, 3)) (hw : Cond.constantLong (am_y id).cls n (Int64.ofNat a) ∈ lw_gt) (h : am_FQ l sc id d (pc + 3) ls (.inr (.inl (Int64.ofNat a)) :: st) H Q) : am_FQ l sc id d pc ls st H Q :=
  am_step0 (fun _ hl => am_lvs_int hl (fun v hv => by rcases List.mem_cons.mp hv with rfl | q <;> simp_all)) (fun p e R s m args below meth c D cA base γ Hc locs cells slots lsC Q cx ok lv wd S hls k => lv_ldc2 cx.1.1 cx.1.2.1 cx.1.2.2.2 (cx.2.1 _ hw) hd (k lsC hls)) h
theorem am_s_lconst {n : Fin 2} {a : Nat} (hd : decode (am_b id) pc = .ok (.lconst n, 1)) (hv : (n : Nat) = a) (h : am_FQ l sc id d (pc + 1) ls (.inr (.inl (Int64.ofNat a)) :: st) H Q) : am_FQ l sc id d pc ls st H Q :=
  am_step0 (fun _ hl => am_lvs_int hl (fun v hv => by rcases List.mem_cons.mp hv with rfl | q <;> simp_all)) (fun p e R s m args below meth c D cA base γ Hc locs cells slots lsC Q cx ok lv wd S hls k => lv_lconst cx.1.1 cx.1.2.1 hd (by subst hv; rcases n with ⟨_ | _ | n, hn⟩ <;> first | rfl | omega) (k lsC hls)) h
theorem am_s_null (hd : decode (am_b id) pc = .ok (.aconst_null, 1)) (h : am_FQ l sc id d (pc + 1) ls (.inr (.inr none) :: st) H Q) : am_FQ l sc id d pc ls st H Q := by
  refine am_step0 (fun _ hl => ⟨hl.1, fun v hv => ?_⟩) (fun p e R s m args below meth c D cA base γ Hc locs cells slots lsC Q cx ok lv wd S hls k => lv_null cx.1.1 cx.1.2.1 hd (k lsC hls)) h
  rcases List.mem_cons.mp hv with rfl | q
  · intro a ha
    cases ha
  · exact hl.2 v q
theorem am_lvs_ld {H : am_H} {ls : am_LS} {st : List am_V} {i : Nat} {v : am_V} (hv : ls[i]? = some (some v)) (h : am_lvs H ls st) : am_lvs H ls (v :: st) := ⟨h.1, fun u hu => by
  rcases List.mem_cons.mp hu with rfl | q
  · exact h.1 i _ hv
  · exact h.2 u q⟩
theorem am_s_iload {i : Nat} {x : Int32} (hd : decode (am_b id) pc = .ok (.iload i, 2)) (hv : ls[i]? = some (some (.inl x))) (h : am_FQ l sc id d (pc + 2) ls (.inl x :: st) H Q) : am_FQ l sc id d pc ls st H Q :=
  am_step0 (fun _ => am_lvs_ld hv) (fun p e R s m args below meth c D cA base γ Hc locs cells slots lsC Q cx ok lv wd S hls k => lv_iload cx.1.1 cx.1.2.1 hd (am_ls_at hls hv) (k lsC hls)) h
theorem am_s_iload_n {i : Nat} {n : Fin 4} {x : Int32} (hd : decode (am_b id) pc = .ok (.iload_n n, 1)) (hi : (n : Nat) = i) (hv : ls[i]? = some (some (.inl x))) (h : am_FQ l sc id d (pc + 1) ls (.inl x :: st) H Q) : am_FQ l sc id d pc ls st H Q :=
  am_step0 (fun _ => am_lvs_ld hv) (fun p e R s m args below meth c D cA base γ Hc locs cells slots lsC Q cx ok lv wd S hls k => lv_iload_n cx.1.1 cx.1.2.1 hd hi (am_ls_at hls hv) (k lsC hls)) h
theorem am_s_lload {i : Nat} {x : Int64} (hd : decode (am_b id) pc = .ok (.lload i, 2)) (hv : ls[i]? = some (some (.inr (.inl x)))) (h : am_FQ l sc id d (pc + 2) ls (.inr (.inl x) :: st) H Q) : am_FQ l sc id d pc ls st H Q :=
  am_step0 (fun _ => am_lvs_ld hv) (fun p e R s m args below meth c D cA base γ Hc locs cells slots lsC Q cx ok lv wd S hls k => lv_lload cx.1.1 cx.1.2.1 hd (am_ls_at hls hv) (k lsC hls)) h
theorem am_s_lload_n {i : Nat} {n : Fin 4} {x : Int64} (hd : decode (am_b id) pc = .ok (.lload_n n, 1)) (hi : (n : Nat) = i) (hv : ls[i]? = some (some (.inr (.inl x)))) (h : am_FQ l sc id d (pc + 1) ls (.inr (.inl x) :: st) H Q) : am_FQ l sc id d pc ls st H Q :=
  am_step0 (fun _ => am_lvs_ld hv) (fun p e R s m args below meth c D cA base γ Hc locs cells slots lsC Q cx ok lv wd S hls k => lv_lload_n cx.1.1 cx.1.2.1 hd hi (am_ls_at hls hv) (k lsC hls)) h
theorem am_s_aload {i : Nat} {x : Option am_A} (hd : decode (am_b id) pc = .ok (.aload i, 2)) (hv : ls[i]? = some (some (.inr (.inr x)))) (h : am_FQ l sc id d (pc + 2) ls (.inr (.inr x) :: st) H Q) : am_FQ l sc id d pc ls st H Q :=
  am_step0 (fun _ => am_lvs_ld hv) (fun p e R s m args below meth c D cA base γ Hc locs cells slots lsC Q cx ok lv wd S hls k => by
    have hat := am_ls_at hls hv
    cases x with
    | none => exact lv_aloadN cx.1.1 cx.1.2.1 hd hat (k lsC hls)
    | some a => exact lv_aload cx.1.1 cx.1.2.1 hd hat (k lsC hls)) h
theorem am_s_aload_n {i : Nat} {n : Fin 4} {x : Option am_A} (hd : decode (am_b id) pc = .ok (.aload_n n, 1)) (hi : (n : Nat) = i) (hv : ls[i]? = some (some (.inr (.inr x)))) (h : am_FQ l sc id d (pc + 1) ls (.inr (.inr x) :: st) H Q) : am_FQ l sc id d pc ls st H Q :=
  am_step0 (fun _ => am_lvs_ld hv) (fun p e R s m args below meth c D cA base γ Hc locs cells slots lsC Q cx ok lv wd S hls k => by
    have hat := am_ls_at hls hv
    cases x with
    | none => exact lv_aload_nN cx.1.1 cx.1.2.1 hd hi hat (k lsC hls)
    | some a => exact lv_aload_n cx.1.1 cx.1.2.1 hd hi hat (k lsC hls)) h
theorem am_lvs_st {H : am_H} {ls : am_LS} {st : List am_V} {i : Nat} {v : am_V} (h : am_lvs H ls (v :: st)) : am_lvs H (am_sto ls i v) st :=
  ⟨am_lvs_sto h.1 (h.2 v List.mem_cons_self), fun u hu => h.2 u (List.mem_cons_of_mem _ hu)⟩
theorem am_s_istore {i : Nat} {x : Int32} (hd : decode (am_b id) pc = .ok (.istore i, 2)) (hn : i < am_nL id) (h : am_FQ l sc id d (pc + 2) (am_sto ls i (.inl x)) st H Q) : am_FQ l sc id d pc ls (.inl x :: st) H Q :=
  am_step0 (fun _ => am_lvs_st) (fun p e R s m args below meth c D cA base γ Hc locs cells slots lsC Q cx ok lv wd S hls k => lv_istore cx.1.1 cx.1.2.1 hd hls hn rfl (fun ls' h' => k ls' (am_ls_sto rfl h'))) h
theorem am_s_istore_n {i : Nat} {n : Fin 4} {x : Int32} (hd : decode (am_b id) pc = .ok (.istore_n n, 1)) (hi : (n : Nat) = i) (hn : i < am_nL id) (h : am_FQ l sc id d (pc + 1) (am_sto ls i (.inl x)) st H Q) : am_FQ l sc id d pc ls (.inl x :: st) H Q :=
  am_step0 (fun _ => am_lvs_st) (fun p e R s m args below meth c D cA base γ Hc locs cells slots lsC Q cx ok lv wd S hls k => lv_istore_n cx.1.1 cx.1.2.1 hd hi hls hn rfl (fun ls' h' => k ls' (am_ls_sto rfl h'))) h
theorem am_s_astore {i : Nat} {x : Option am_A} (hd : decode (am_b id) pc = .ok (.astore i, 2)) (hn : i < am_nL id) (h : am_FQ l sc id d (pc + 2) (am_sto ls i (.inr (.inr x))) st H Q) : am_FQ l sc id d pc ls (.inr (.inr x) :: st) H Q :=
  am_step0 (fun _ => am_lvs_st) (fun p e R s m args below meth c D cA base γ Hc locs cells slots lsC Q cx ok lv wd S hls k => by
    cases x with
    | none => exact lv_astoreN cx.1.1 cx.1.2.1 hd hls hn rfl (fun ls' h' => k ls' (am_ls_sto rfl h'))
    | some a => exact lv_astore cx.1.1 cx.1.2.1 hd hls hn rfl (fun ls' h' => k ls' (am_ls_sto rfl h'))) h
theorem am_s_astore_n {i : Nat} {n : Fin 4} {x : Option am_A} (hd : decode (am_b id) pc = .ok (.astore_n n, 1)) (hi : (n : Nat) = i) (hn : i < am_nL id) (h : am_FQ l sc id d (pc + 1) (am_sto ls i (.inr (.inr x))) st H Q) : am_FQ l sc id d pc ls (.inr (.inr x) :: st) H Q :=
  am_step0 (fun _ => am_lvs_st) (fun p e R s m args below meth c D cA base γ Hc locs cells slots lsC Q cx ok lv wd S hls k => by
    cases x with
    | none => exact lv_astore_nN cx.1.1 cx.1.2.1 hd hi hls hn rfl (fun ls' h' => k ls' (am_ls_sto rfl h'))
    | some a => exact lv_astore_n cx.1.1 cx.1.2.1 hd hi hls hn rfl (fun ls' h' => k ls' (am_ls_sto rfl h'))) h
theorem am_s_iinc {i : Nat} {n : Int} {x : Int32} (hd : decode (am_b id) pc = .ok (.iinc i n, 3)) (hn : i < am_nL id) (hv : ls[i]? = some (some (.inl x))) (h : am_FQ l sc id d (pc + 3) (am_sto ls i (.inl (x + Int32.ofInt n))) st H Q) : am_FQ l sc id d pc ls st H Q :=
  am_step0 (fun _ hl => ⟨am_lvs_sto (v := .inl (x + Int32.ofInt n)) hl.1 trivial, hl.2⟩) (fun p e R s m args below meth c D cA base γ Hc locs cells slots lsC Q cx ok lv wd S hls k => by
    obtain ⟨j, hj⟩ := List.getElem?_of_mem (am_as_mem.mpr ⟨.inl x, hv, rfl⟩ : (i, am_cv γ (.inl x)) ∈ am_as γ ls)
    exact lv_iinc cx.1.1 cx.1.2.1 hd hls hj rfl hn rfl (fun ls' h' => k ls' (am_ls_sto rfl h'))) h
theorem am_s_iadd {x y : Int32} (hd : decode (am_b id) pc = .ok (.iadd, 1)) (h : am_FQ l sc id d (pc + 1) ls (.inl (x + y) :: st) H Q) : am_FQ l sc id d pc ls (.inl y :: .inl x :: st) H Q :=
  am_step0 (fun _ hl => am_lvs_int hl (fun v hv => by rcases List.mem_cons.mp hv with rfl | q <;> simp_all)) (fun p e R s m args below meth c D cA base γ Hc locs cells slots lsC Q cx ok lv wd S hls k => lv_iadd cx.1.1 cx.1.2.1 hd (k lsC hls)) h
theorem am_s_isub {x y : Int32} (hd : decode (am_b id) pc = .ok (.isub, 1)) (h : am_FQ l sc id d (pc + 1) ls (.inl (x - y) :: st) H Q) : am_FQ l sc id d pc ls (.inl y :: .inl x :: st) H Q :=
  am_step0 (fun _ hl => am_lvs_int hl (fun v hv => by rcases List.mem_cons.mp hv with rfl | q <;> simp_all)) (fun p e R s m args below meth c D cA base γ Hc locs cells slots lsC Q cx ok lv wd S hls k => lv_isub cx.1.1 cx.1.2.1 hd (k lsC hls)) h
theorem am_s_imul {x y : Int32} (hd : decode (am_b id) pc = .ok (.imul, 1)) (h : am_FQ l sc id d (pc + 1) ls (.inl (x * y) :: st) H Q) : am_FQ l sc id d pc ls (.inl y :: .inl x :: st) H Q :=
  am_step0 (fun _ hl => am_lvs_int hl (fun v hv => by rcases List.mem_cons.mp hv with rfl | q <;> simp_all)) (fun p e R s m args below meth c D cA base γ Hc locs cells slots lsC Q cx ok lv wd S hls k => lv_imul cx.1.1 cx.1.2.1 hd (k lsC hls)) h
theorem am_s_iand {x y : Int32} (hd : decode (am_b id) pc = .ok (.iand, 1)) (h : am_FQ l sc id d (pc + 1) ls (.inl (x &&& y) :: st) H Q) : am_FQ l sc id d pc ls (.inl y :: .inl x :: st) H Q :=
  am_step0 (fun _ hl => am_lvs_int hl (fun v hv => by rcases List.mem_cons.mp hv with rfl | q <;> simp_all)) (fun p e R s m args below meth c D cA base γ Hc locs cells slots lsC Q cx ok lv wd S hls k => lv_iand cx.1.1 cx.1.2.1 hd (k lsC hls)) h
theorem am_s_ior {x y : Int32} (hd : decode (am_b id) pc = .ok (.ior, 1)) (h : am_FQ l sc id d (pc + 1) ls (.inl (x ||| y) :: st) H Q) : am_FQ l sc id d pc ls (.inl y :: .inl x :: st) H Q :=
  am_step0 (fun _ hl => am_lvs_int hl (fun v hv => by rcases List.mem_cons.mp hv with rfl | q <;> simp_all)) (fun p e R s m args below meth c D cA base γ Hc locs cells slots lsC Q cx ok lv wd S hls k => lv_ior cx.1.1 cx.1.2.1 hd (k lsC hls)) h
theorem am_s_ixor {x y : Int32} (hd : decode (am_b id) pc = .ok (.ixor, 1)) (h : am_FQ l sc id d (pc + 1) ls (.inl (x ^^^ y) :: st) H Q) : am_FQ l sc id d pc ls (.inl y :: .inl x :: st) H Q :=
  am_step0 (fun _ hl => am_lvs_int hl (fun v hv => by rcases List.mem_cons.mp hv with rfl | q <;> simp_all)) (fun p e R s m args below meth c D cA base γ Hc locs cells slots lsC Q cx ok lv wd S hls k => lv_ixor cx.1.1 cx.1.2.1 hd (k lsC hls)) h
theorem am_s_ishl {x y : Int32} (hd : decode (am_b id) pc = .ok (.ishl, 1)) (h : am_FQ l sc id d (pc + 1) ls (.inl (x <<< (y &&& 31)) :: st) H Q) : am_FQ l sc id d pc ls (.inl y :: .inl x :: st) H Q :=
  am_step0 (fun _ hl => am_lvs_int hl (fun v hv => by rcases List.mem_cons.mp hv with rfl | q <;> simp_all)) (fun p e R s m args below meth c D cA base γ Hc locs cells slots lsC Q cx ok lv wd S hls k => lv_ishl cx.1.1 cx.1.2.1 hd (k lsC hls)) h
theorem am_s_ishr {x y : Int32} (hd : decode (am_b id) pc = .ok (.ishr, 1)) (h : am_FQ l sc id d (pc + 1) ls (.inl (x >>> (y &&& 31)) :: st) H Q) : am_FQ l sc id d pc ls (.inl y :: .inl x :: st) H Q :=
  am_step0 (fun _ hl => am_lvs_int hl (fun v hv => by rcases List.mem_cons.mp hv with rfl | q <;> simp_all)) (fun p e R s m args below meth c D cA base γ Hc locs cells slots lsC Q cx ok lv wd S hls k => lv_ishr cx.1.1 cx.1.2.1 hd (k lsC hls)) h
theorem am_s_ladd {x y : Int64} (hd : decode (am_b id) pc = .ok (.ladd, 1)) (h : am_FQ l sc id d (pc + 1) ls (.inr (.inl (x + y)) :: st) H Q) : am_FQ l sc id d pc ls (.inr (.inl y) :: .inr (.inl x) :: st) H Q :=
  am_step0 (fun _ hl => am_lvs_int hl (fun v hv => by rcases List.mem_cons.mp hv with rfl | q <;> simp_all)) (fun p e R s m args below meth c D cA base γ Hc locs cells slots lsC Q cx ok lv wd S hls k => lv_ladd cx.1.1 cx.1.2.1 hd (k lsC hls)) h
theorem am_s_lsub {x y : Int64} (hd : decode (am_b id) pc = .ok (.lsub, 1)) (h : am_FQ l sc id d (pc + 1) ls (.inr (.inl (x - y)) :: st) H Q) : am_FQ l sc id d pc ls (.inr (.inl y) :: .inr (.inl x) :: st) H Q :=
  am_step0 (fun _ hl => am_lvs_int hl (fun v hv => by rcases List.mem_cons.mp hv with rfl | q <;> simp_all)) (fun p e R s m args below meth c D cA base γ Hc locs cells slots lsC Q cx ok lv wd S hls k => lv_lsub cx.1.1 cx.1.2.1 hd (k lsC hls)) h
theorem am_s_land {x y : Int64} (hd : decode (am_b id) pc = .ok (.land, 1)) (h : am_FQ l sc id d (pc + 1) ls (.inr (.inl (x &&& y)) :: st) H Q) : am_FQ l sc id d pc ls (.inr (.inl y) :: .inr (.inl x) :: st) H Q :=
  am_step0 (fun _ hl => am_lvs_int hl (fun v hv => by rcases List.mem_cons.mp hv with rfl | q <;> simp_all)) (fun p e R s m args below meth c D cA base γ Hc locs cells slots lsC Q cx ok lv wd S hls k => lv_land cx.1.1 cx.1.2.1 hd (k lsC hls)) h
theorem am_s_lor {x y : Int64} (hd : decode (am_b id) pc = .ok (.lor, 1)) (h : am_FQ l sc id d (pc + 1) ls (.inr (.inl (x ||| y)) :: st) H Q) : am_FQ l sc id d pc ls (.inr (.inl y) :: .inr (.inl x) :: st) H Q :=
  am_step0 (fun _ hl => am_lvs_int hl (fun v hv => by rcases List.mem_cons.mp hv with rfl | q <;> simp_all)) (fun p e R s m args below meth c D cA base γ Hc locs cells slots lsC Q cx ok lv wd S hls k => lv_lor cx.1.1 cx.1.2.1 hd (k lsC hls)) h
theorem am_s_lcmp {x y : Int64} (hd : decode (am_b id) pc = .ok (.lcmp, 1)) (h : am_FQ l sc id d (pc + 1) ls (.inl (lg_cmp x y) :: st) H Q) : am_FQ l sc id d pc ls (.inr (.inl y) :: .inr (.inl x) :: st) H Q :=
  am_step0 (fun _ hl => am_lvs_int hl (fun v hv => by rcases List.mem_cons.mp hv with rfl | q <;> simp_all)) (fun p e R s m args below meth c D cA base γ Hc locs cells slots lsC Q cx ok lv wd S hls k => W.lcmp cx.1.1 cx.1.2.1 hd (k lsC hls)) h
theorem am_s_i2l {x : Int32} (hd : decode (am_b id) pc = .ok (.i2l, 1)) (h : am_FQ l sc id d (pc + 1) ls (.inr (.inl x.toInt64) :: st) H Q) : am_FQ l sc id d pc ls (.inl x :: st) H Q :=
  am_step0 (fun _ hl => am_lvs_int hl (fun v hv => by rcases List.mem_cons.mp hv with rfl | q <;> simp_all)) (fun p e R s m args below meth c D cA base γ Hc locs cells slots lsC Q cx ok lv wd S hls k => lv_i2l cx.1.1 cx.1.2.1 hd rfl (k lsC hls)) h
theorem am_s_dup {v : am_V} (hc : ∀ x, v ≠ .inr (.inl x)) (hd : decode (am_b id) pc = .ok (.dup, 1)) (h : am_FQ l sc id d (pc + 1) ls (v :: v :: st) H Q) : am_FQ l sc id d pc ls (v :: st) H Q :=
  am_step0 (fun _ hl => ⟨hl.1, fun u hu => by
    rcases List.mem_cons.mp hu with rfl | q
    · exact hl.2 _ List.mem_cons_self
    · exact hl.2 u q⟩) (fun p e R s m args below meth c D cA base γ Hc locs cells slots lsC Q cx ok lv wd S hls k => lv_dup cx.1.1 cx.1.2.1 hd (am_cat hc) (k lsC hls)) h
theorem am_s_dup2 {v w : am_V} (hc : ∀ x, v ≠ .inr (.inl x)) (hc2 : ∀ x, w ≠ .inr (.inl x)) (hd : decode (am_b id) pc = .ok (.dup2, 1)) (h : am_FQ l sc id d (pc + 1) ls (v :: w :: v :: w :: st) H Q) : am_FQ l sc id d pc ls (v :: w :: st) H Q :=
  am_step0 (fun _ hl => ⟨hl.1, fun u hu => by
    rcases List.mem_cons.mp hu with rfl | q
    · exact hl.2 _ List.mem_cons_self
    · rcases List.mem_cons.mp q with rfl | q
      · exact hl.2 _ (List.mem_cons_of_mem _ List.mem_cons_self)
      · exact hl.2 u q⟩) (fun p e R s m args below meth c D cA base γ Hc locs cells slots lsC Q cx ok lv wd S hls k => lv_dup2_11 cx.1.1 cx.1.2.1 hd (am_cat hc) (am_cat hc2) (k lsC hls)) h
theorem am_s_goto {off : Int} {a : Nat} (hd : decode (am_b id) pc = .ok (.goto off, 3)) (ht : (pc : Int) + off = (a : Int)) (h : am_FQ l sc id d a ls st H Q) : am_FQ l sc id d pc ls st H Q :=
  am_step0 (fun _ hl => hl) (fun p e R s m args below meth c D cA base γ Hc locs cells slots lsC Q cx ok lv wd S hls k => lv_goto cx.1.1 cx.1.2.1 hd ht (k lsC hls)) h
theorem am_s_if_eq {x : Int32} {off : Int} {a : Nat} (hd : decode (am_b id) pc = .ok (.ifCond .eq off, 3)) (ht : (pc : Int) + off = (a : Int)) (h1 : x = 0 → am_FQ l sc id d a ls st H Q) (h2 : ¬ (x = 0) → am_FQ l sc id d (pc + 3) ls st H Q) : am_FQ l sc id d pc ls (.inl x :: st) H Q := by
  by_cases hc : x = 0
  · exact am_step0 (fun _ hl => am_lvs_int hl (fun v hv => Or.inr (Or.inr (List.mem_cons_of_mem _ hv)))) (fun p e R s m args below meth c D cA base γ Hc locs cells slots lsC Q cx ok lv wd S hls k => lv_if_eq cx.1.1 cx.1.2.1 hd ht (fun _ => k lsC hls) (fun q => absurd hc (by simpa using q))) (h1 hc)
  · exact am_step0 (fun _ hl => am_lvs_int hl (fun v hv => Or.inr (Or.inr (List.mem_cons_of_mem _ hv)))) (fun p e R s m args below meth c D cA base γ Hc locs cells slots lsC Q cx ok lv wd S hls k => lv_if_eq cx.1.1 cx.1.2.1 hd ht (fun q => absurd q hc) (fun _ => k lsC hls)) (h2 (by simpa using hc))
theorem am_s_if_ne {x : Int32} {off : Int} {a : Nat} (hd : decode (am_b id) pc = .ok (.ifCond .ne off, 3)) (ht : (pc : Int) + off = (a : Int)) (h1 : ¬ x = 0 → am_FQ l sc id d a ls st H Q) (h2 : x = 0 → am_FQ l sc id d (pc + 3) ls st H Q) : am_FQ l sc id d pc ls (.inl x :: st) H Q := by
  by_cases hc : ¬ x = 0
  · exact am_step0 (fun _ hl => am_lvs_int hl (fun v hv => Or.inr (Or.inr (List.mem_cons_of_mem _ hv)))) (fun p e R s m args below meth c D cA base γ Hc locs cells slots lsC Q cx ok lv wd S hls k => lv_if_ne cx.1.1 cx.1.2.1 hd ht (fun _ => k lsC hls) (fun q => absurd hc (by simpa using q))) (h1 hc)
  · exact am_step0 (fun _ hl => am_lvs_int hl (fun v hv => Or.inr (Or.inr (List.mem_cons_of_mem _ hv)))) (fun p e R s m args below meth c D cA base γ Hc locs cells slots lsC Q cx ok lv wd S hls k => lv_if_ne cx.1.1 cx.1.2.1 hd ht (fun q => absurd q hc) (fun _ => k lsC hls)) (h2 (by simpa using hc))
theorem am_s_if_lt {x : Int32} {off : Int} {a : Nat} (hd : decode (am_b id) pc = .ok (.ifCond .lt off, 3)) (ht : (pc : Int) + off = (a : Int)) (h1 : x < 0 → am_FQ l sc id d a ls st H Q) (h2 : ¬ (x < 0) → am_FQ l sc id d (pc + 3) ls st H Q) : am_FQ l sc id d pc ls (.inl x :: st) H Q := by
  by_cases hc : x < 0
  · exact am_step0 (fun _ hl => am_lvs_int hl (fun v hv => Or.inr (Or.inr (List.mem_cons_of_mem _ hv)))) (fun p e R s m args below meth c D cA base γ Hc locs cells slots lsC Q cx ok lv wd S hls k => lv_if_lt cx.1.1 cx.1.2.1 hd ht (fun _ => k lsC hls) (fun q => absurd hc (by simpa using q))) (h1 hc)
  · exact am_step0 (fun _ hl => am_lvs_int hl (fun v hv => Or.inr (Or.inr (List.mem_cons_of_mem _ hv)))) (fun p e R s m args below meth c D cA base γ Hc locs cells slots lsC Q cx ok lv wd S hls k => lv_if_lt cx.1.1 cx.1.2.1 hd ht (fun q => absurd q hc) (fun _ => k lsC hls)) (h2 (by simpa using hc))
theorem am_s_if_ge {x : Int32} {off : Int} {a : Nat} (hd : decode (am_b id) pc = .ok (.ifCond .ge off, 3)) (ht : (pc : Int) + off = (a : Int)) (h1 : 0 ≤ x → am_FQ l sc id d a ls st H Q) (h2 : ¬ (0 ≤ x) → am_FQ l sc id d (pc + 3) ls st H Q) : am_FQ l sc id d pc ls (.inl x :: st) H Q := by
  by_cases hc : 0 ≤ x
  · exact am_step0 (fun _ hl => am_lvs_int hl (fun v hv => Or.inr (Or.inr (List.mem_cons_of_mem _ hv)))) (fun p e R s m args below meth c D cA base γ Hc locs cells slots lsC Q cx ok lv wd S hls k => lv_if_ge cx.1.1 cx.1.2.1 hd ht (fun _ => k lsC hls) (fun q => absurd hc (by simpa using q))) (h1 hc)
  · exact am_step0 (fun _ hl => am_lvs_int hl (fun v hv => Or.inr (Or.inr (List.mem_cons_of_mem _ hv)))) (fun p e R s m args below meth c D cA base γ Hc locs cells slots lsC Q cx ok lv wd S hls k => lv_if_ge cx.1.1 cx.1.2.1 hd ht (fun q => absurd q hc) (fun _ => k lsC hls)) (h2 (by simpa using hc))
theorem am_s_if_gt {x : Int32} {off : Int} {a : Nat} (hd : decode (am_b id) pc = .ok (.ifCond .gt off, 3)) (ht : (pc : Int) + off = (a : Int)) (h1 : 0 < x → am_FQ l sc id d a ls st H Q) (h2 : ¬ (0 < x) → am_FQ l sc id d (pc + 3) ls st H Q) : am_FQ l sc id d pc ls (.inl x :: st) H Q := by
  by_cases hc : 0 < x
  · exact am_step0 (fun _ hl => am_lvs_int hl (fun v hv => Or.inr (Or.inr (List.mem_cons_of_mem _ hv)))) (fun p e R s m args below meth c D cA base γ Hc locs cells slots lsC Q cx ok lv wd S hls k => lv_if_gt cx.1.1 cx.1.2.1 hd ht (fun _ => k lsC hls) (fun q => absurd hc (by simpa using q))) (h1 hc)
  · exact am_step0 (fun _ hl => am_lvs_int hl (fun v hv => Or.inr (Or.inr (List.mem_cons_of_mem _ hv)))) (fun p e R s m args below meth c D cA base γ Hc locs cells slots lsC Q cx ok lv wd S hls k => lv_if_gt cx.1.1 cx.1.2.1 hd ht (fun q => absurd q hc) (fun _ => k lsC hls)) (h2 (by simpa using hc))
theorem am_s_if_le {x : Int32} {off : Int} {a : Nat} (hd : decode (am_b id) pc = .ok (.ifCond .le off, 3)) (ht : (pc : Int) + off = (a : Int)) (h1 : x ≤ 0 → am_FQ l sc id d a ls st H Q) (h2 : ¬ (x ≤ 0) → am_FQ l sc id d (pc + 3) ls st H Q) : am_FQ l sc id d pc ls (.inl x :: st) H Q := by
  by_cases hc : x ≤ 0
  · exact am_step0 (fun _ hl => am_lvs_int hl (fun v hv => Or.inr (Or.inr (List.mem_cons_of_mem _ hv)))) (fun p e R s m args below meth c D cA base γ Hc locs cells slots lsC Q cx ok lv wd S hls k => lv_if_le cx.1.1 cx.1.2.1 hd ht (fun _ => k lsC hls) (fun q => absurd hc (by simpa using q))) (h1 hc)
  · exact am_step0 (fun _ hl => am_lvs_int hl (fun v hv => Or.inr (Or.inr (List.mem_cons_of_mem _ hv)))) (fun p e R s m args below meth c D cA base γ Hc locs cells slots lsC Q cx ok lv wd S hls k => lv_if_le cx.1.1 cx.1.2.1 hd ht (fun q => absurd q hc) (fun _ => k lsC hls)) (h2 (by simpa using hc))
theorem am_s_icmp_eq {x y : Int32} {off : Int} {a : Nat} (hd : decode (am_b id) pc = .ok (.if_icmp .eq off, 3)) (ht : (pc : Int) + off = (a : Int)) (h1 : x = y → am_FQ l sc id d a ls st H Q) (h2 : ¬ (x = y) → am_FQ l sc id d (pc + 3) ls st H Q) : am_FQ l sc id d pc ls (.inl y :: .inl x :: st) H Q := by
  by_cases hc : x = y
  · exact am_step0 (fun _ hl => am_lvs_int hl (fun v hv => Or.inr (Or.inr (List.mem_cons_of_mem _ (List.mem_cons_of_mem _ hv))))) (fun p e R s m args below meth c D cA base γ Hc locs cells slots lsC Q cx ok lv wd S hls k => lv_icmp_eq cx.1.1 cx.1.2.1 hd ht (fun _ => k lsC hls) (fun q => absurd hc (by simpa using q))) (h1 hc)
  · exact am_step0 (fun _ hl => am_lvs_int hl (fun v hv => Or.inr (Or.inr (List.mem_cons_of_mem _ (List.mem_cons_of_mem _ hv))))) (fun p e R s m args below meth c D cA base γ Hc locs cells slots lsC Q cx ok lv wd S hls k => lv_icmp_eq cx.1.1 cx.1.2.1 hd ht (fun q => absurd q hc) (fun _ => k lsC hls)) (h2 (by simpa using hc))
theorem am_s_icmp_ne {x y : Int32} {off : Int} {a : Nat} (hd : decode (am_b id) pc = .ok (.if_icmp .ne off, 3)) (ht : (pc : Int) + off = (a : Int)) (h1 : ¬ x = y → am_FQ l sc id d a ls st H Q) (h2 : x = y → am_FQ l sc id d (pc + 3) ls st H Q) : am_FQ l sc id d pc ls (.inl y :: .inl x :: st) H Q := by
  by_cases hc : ¬ x = y
  · exact am_step0 (fun _ hl => am_lvs_int hl (fun v hv => Or.inr (Or.inr (List.mem_cons_of_mem _ (List.mem_cons_of_mem _ hv))))) (fun p e R s m args below meth c D cA base γ Hc locs cells slots lsC Q cx ok lv wd S hls k => lv_icmp_ne cx.1.1 cx.1.2.1 hd ht (fun _ => k lsC hls) (fun q => absurd hc (by simpa using q))) (h1 hc)
  · exact am_step0 (fun _ hl => am_lvs_int hl (fun v hv => Or.inr (Or.inr (List.mem_cons_of_mem _ (List.mem_cons_of_mem _ hv))))) (fun p e R s m args below meth c D cA base γ Hc locs cells slots lsC Q cx ok lv wd S hls k => lv_icmp_ne cx.1.1 cx.1.2.1 hd ht (fun q => absurd q hc) (fun _ => k lsC hls)) (h2 (by simpa using hc))
theorem am_s_icmp_lt {x y : Int32} {off : Int} {a : Nat} (hd : decode (am_b id) pc = .ok (.if_icmp .lt off, 3)) (ht : (pc : Int) + off = (a : Int)) (h1 : x < y → am_FQ l sc id d a ls st H Q) (h2 : ¬ (x < y) → am_FQ l sc id d (pc + 3) ls st H Q) : am_FQ l sc id d pc ls (.inl y :: .inl x :: st) H Q := by
  by_cases hc : x < y
  · exact am_step0 (fun _ hl => am_lvs_int hl (fun v hv => Or.inr (Or.inr (List.mem_cons_of_mem _ (List.mem_cons_of_mem _ hv))))) (fun p e R s m args below meth c D cA base γ Hc locs cells slots lsC Q cx ok lv wd S hls k => lv_icmp_lt cx.1.1 cx.1.2.1 hd ht (fun _ => k lsC hls) (fun q => absurd hc (by simpa using q))) (h1 hc)
  · exact am_step0 (fun _ hl => am_lvs_int hl (fun v hv => Or.inr (Or.inr (List.mem_cons_of_mem _ (List.mem_cons_of_mem _ hv))))) (fun p e R s m args below meth c D cA base γ Hc locs cells slots lsC Q cx ok lv wd S hls k => lv_icmp_lt cx.1.1 cx.1.2.1 hd ht (fun q => absurd q hc) (fun _ => k lsC hls)) (h2 (by simpa using hc))
theorem am_s_icmp_ge {x y : Int32} {off : Int} {a : Nat} (hd : decode (am_b id) pc = .ok (.if_icmp .ge off, 3)) (ht : (pc : Int) + off = (a : Int)) (h1 : y ≤ x → am_FQ l sc id d a ls st H Q) (h2 : ¬ (y ≤ x) → am_FQ l sc id d (pc + 3) ls st H Q) : am_FQ l sc id d pc ls (.inl y :: .inl x :: st) H Q := by
  by_cases hc : y ≤ x
  · exact am_step0 (fun _ hl => am_lvs_int hl (fun v hv => Or.inr (Or.inr (List.mem_cons_of_mem _ (List.mem_cons_of_mem _ hv))))) (fun p e R s m args below meth c D cA base γ Hc locs cells slots lsC Q cx ok lv wd S hls k => lv_icmp_ge cx.1.1 cx.1.2.1 hd ht (fun _ => k lsC hls) (fun q => absurd hc (by simpa using q))) (h1 hc)
  · exact am_step0 (fun _ hl => am_lvs_int hl (fun v hv => Or.inr (Or.inr (List.mem_cons_of_mem _ (List.mem_cons_of_mem _ hv))))) (fun p e R s m args below meth c D cA base γ Hc locs cells slots lsC Q cx ok lv wd S hls k => lv_icmp_ge cx.1.1 cx.1.2.1 hd ht (fun q => absurd q hc) (fun _ => k lsC hls)) (h2 (by simpa using hc))
theorem am_s_icmp_gt {x y : Int32} {off : Int} {a : Nat} (hd : decode (am_b id) pc = .ok (.if_icmp .gt off, 3)) (ht : (pc : Int) + off = (a : Int)) (h1 : y < x → am_FQ l sc id d a ls st H Q) (h2 : ¬ (y < x) → am_FQ l sc id d (pc + 3) ls st H Q) : am_FQ l sc id d pc ls (.inl y :: .inl x :: st) H Q := by
  by_cases hc : y < x
  · exact am_step0 (fun _ hl => am_lvs_int hl (fun v hv => Or.inr (Or.inr (List.mem_cons_of_mem _ (List.mem_cons_of_mem _ hv))))) (fun p e R s m args below meth c D cA base γ Hc locs cells slots lsC Q cx ok lv wd S hls k => lv_icmp_gt cx.1.1 cx.1.2.1 hd ht (fun _ => k lsC hls) (fun q => absurd hc (by simpa using q))) (h1 hc)
  · exact am_step0 (fun _ hl => am_lvs_int hl (fun v hv => Or.inr (Or.inr (List.mem_cons_of_mem _ (List.mem_cons_of_mem _ hv))))) (fun p e R s m args below meth c D cA base γ Hc locs cells slots lsC Q cx ok lv wd S hls k => lv_icmp_gt cx.1.1 cx.1.2.1 hd ht (fun q => absurd q hc) (fun _ => k lsC hls)) (h2 (by simpa using hc))
theorem am_s_icmp_le {x y : Int32} {off : Int} {a : Nat} (hd : decode (am_b id) pc = .ok (.if_icmp .le off, 3)) (ht : (pc : Int) + off = (a : Int)) (h1 : x ≤ y → am_FQ l sc id d a ls st H Q) (h2 : ¬ (x ≤ y) → am_FQ l sc id d (pc + 3) ls st H Q) : am_FQ l sc id d pc ls (.inl y :: .inl x :: st) H Q := by
  by_cases hc : x ≤ y
  · exact am_step0 (fun _ hl => am_lvs_int hl (fun v hv => Or.inr (Or.inr (List.mem_cons_of_mem _ (List.mem_cons_of_mem _ hv))))) (fun p e R s m args below meth c D cA base γ Hc locs cells slots lsC Q cx ok lv wd S hls k => lv_icmp_le cx.1.1 cx.1.2.1 hd ht (fun _ => k lsC hls) (fun q => absurd hc (by simpa using q))) (h1 hc)
  · exact am_step0 (fun _ hl => am_lvs_int hl (fun v hv => Or.inr (Or.inr (List.mem_cons_of_mem _ (List.mem_cons_of_mem _ hv))))) (fun p e R s m args below meth c D cA base γ Hc locs cells slots lsC Q cx ok lv wd S hls k => lv_icmp_le cx.1.1 cx.1.2.1 hd ht (fun q => absurd q hc) (fun _ => k lsC hls)) (h2 (by simpa using hc))
theorem am_s_ifnull {x : Option am_A} {off : Int} {a : Nat} (hd : decode (am_b id) pc = .ok (.ifnull off, 3)) (ht : (pc : Int) + off = (a : Int)) (h1 : x = none → am_FQ l sc id d a ls st H Q) (h2 : ¬ x = none → am_FQ l sc id d (pc + 3) ls st H Q) : am_FQ l sc id d pc ls (.inr (.inr x) :: st) H Q := by
  cases x with
  | none => exact am_step0 (fun _ hl => am_lvs_int hl (fun v hv => Or.inr (Or.inr (List.mem_cons_of_mem _ hv)))) (fun p e R s m args below meth c D cA base γ Hc locs cells slots lsC Q cx ok lv wd S hls k => lv_ifnullN cx.1.1 cx.1.2.1 hd ht (k lsC hls)) (h1 rfl)
  | some y => exact am_step0 (fun _ hl => am_lvs_int hl (fun v hv => Or.inr (Or.inr (List.mem_cons_of_mem _ hv)))) (fun p e R s m args below meth c D cA base γ Hc locs cells slots lsC Q cx ok lv wd S hls k => lv_ifnull cx.1.1 cx.1.2.1 hd (k lsC hls)) (h2 (by simp))
theorem am_s_ifnonnull {x : Option am_A} {off : Int} {a : Nat} (hd : decode (am_b id) pc = .ok (.ifnonnull off, 3)) (ht : (pc : Int) + off = (a : Int)) (h1 : ¬ x = none → am_FQ l sc id d a ls st H Q) (h2 : x = none → am_FQ l sc id d (pc + 3) ls st H Q) : am_FQ l sc id d pc ls (.inr (.inr x) :: st) H Q := by
  cases x with
  | none => exact am_step0 (fun _ hl => am_lvs_int hl (fun v hv => Or.inr (Or.inr (List.mem_cons_of_mem _ hv)))) (fun p e R s m args below meth c D cA base γ Hc locs cells slots lsC Q cx ok lv wd S hls k => lv_ifnonnullN cx.1.1 cx.1.2.1 hd (k lsC hls)) (h2 rfl)
  | some y => exact am_step0 (fun _ hl => am_lvs_int hl (fun v hv => Or.inr (Or.inr (List.mem_cons_of_mem _ hv)))) (fun p e R s m args below meth c D cA base γ Hc locs cells slots lsC Q cx ok lv wd S hls k => lv_ifnonnull cx.1.1 cx.1.2.1 hd ht (k lsC hls)) (h1 (by simp))
theorem am_s_tabIn {dflt lo hi : Int} {offs : Array Int} {len : Nat} {x : Int32} {off : Int} {a : Nat} (hd : decode (am_b id) pc = .ok (.tableswitch dflt lo hi offs, len)) (h1 : ¬ x.toInt < lo) (h2 : ¬ hi < x.toInt) (ho : offs[(x.toInt - lo).toNat]? = some off) (ht : (pc : Int) + off = (a : Int)) (h : am_FQ l sc id d a ls st H Q) : am_FQ l sc id d pc ls (.inl x :: st) H Q :=
  am_step0 (fun _ hl => am_lvs_int hl (fun v hv => Or.inr (Or.inr (List.mem_cons_of_mem _ hv)))) (fun p e R s m args below meth c D cA base γ Hc locs cells slots lsC Q cx ok lv wd S hls k => lv_tableIn cx.1.1 cx.1.2.1 hd h1 h2 ho ht (k lsC hls)) h
theorem am_s_tabOut {dflt lo hi : Int} {offs : Array Int} {len : Nat} {x : Int32} {a : Nat} (hd : decode (am_b id) pc = .ok (.tableswitch dflt lo hi offs, len)) (h1 : x.toInt < lo ∨ hi < x.toInt) (ht : (pc : Int) + dflt = (a : Int)) (h : am_FQ l sc id d a ls st H Q) : am_FQ l sc id d pc ls (.inl x :: st) H Q :=
  am_step0 (fun _ hl => am_lvs_int hl (fun v hv => Or.inr (Or.inr (List.mem_cons_of_mem _ hv)))) (fun p e R s m args below meth c D cA base γ Hc locs cells slots lsC Q cx ok lv wd S hls k => lv_tableOut cx.1.1 cx.1.2.1 hd h1 ht (k lsC hls)) h
theorem am_s_look {dflt : Int} {ps : Array (Int × Int)} {len : Nat} {x : Int32} {off : Int} {a : Nat} (hd : decode (am_b id) pc = .ok (.lookupswitch dflt ps, len)) (hp : (ps.toList.zip (ps.toList.drop 1)).all (fun (a, next) => a.1 < next.1) = true) (ho : Op.lookupswitch.offset ps.toList dflt x.toInt = off) (ht : (pc : Int) + off = (a : Int)) (h : am_FQ l sc id d a ls st H Q) : am_FQ l sc id d pc ls (.inl x :: st) H Q :=
  am_step0 (fun _ hl => am_lvs_int hl (fun v hv => Or.inr (Or.inr (List.mem_cons_of_mem _ hv)))) (fun p e R s m args below meth c D cA base γ Hc locs cells slots lsC Q cx ok lv wd S hls k => lv_lookup cx.1.1 cx.1.2.1 hd hp ho ht (k lsC hls)) h
theorem am_ret {r : Option am_V} (hst : st = r.toList) (hk : am_rk id pc r) (hq : Q r H) : am_FQ l sc id d pc ls st H Q := by
  subst hst
  refine ⟨r, H, hq, am_ext_rf, fun ok lv => ⟨ok, fun v hv => lv.2 v (by rw [hv]; exact List.mem_singleton.mpr rfl)⟩, fun p e R s m args below meth c D cA base γ Hc locs cells slots lsC Q' cx ok lv wd S hl c1 c2 ex => ?_⟩
  have h := ex γ Hc locs pc lsC am_ag_rf wd S hk
  have e1 : am_dC H H = 0 := am_dC_eq rfl
  have e2 : am_dS H H = 0 := am_dS_eq rfl
  rw [e1, e2] at h
  exact h
end AMI
