/-! ===== new cells ===== -/
section AMN
variable {l : Launch} {sc : am_SC} {id d pc pc' : Nat} {ls : am_LS} {st rest : List am_V} {H : am_H} {Q : Option am_V → am_H → Prop} {a : am_A}
def am_e0 (cA : Nat → ClassId) (k : Nat) : va_E := if am_c k < 20 then .inr (am_c k, (am_tl (am_c k)).map am_dv) else .inl (cA (am_c k - 20), am_n k, match am_c k - 20 with
  | 0 => .inl (fun _ => 0)
  | 1 => .inl (fun _ => 0)
  | 2 => .inr (.inl (fun _ => 0))
  | _ => .inr (.inr (.inr (.inr (fun _ => none)))))
theorem am_gI_nw {k j i : Nat} : am_gI (am_nw H a) k j i = if k = a.1 ∧ j = a.2 then 0 else am_gI H k j i := rfl
theorem am_gL_nw {k j i : Nat} : am_gL (am_nw H a) k j i = if k = a.1 ∧ j = a.2 then 0 else am_gL H k j i := rfl
theorem am_gR_nw {k j i : Nat} : am_gR (am_nw H a) k j i = if k = a.1 ∧ j = a.2 then none else am_gR H k j i := rfl
theorem am_lv_nw : am_lv (am_nw H a) = am_lv H ++ [a] := rfl
theorem am_e_new {γ : am_A → Nat} {cA : Nat → ClassId} : am_e γ cA (am_nw H a) a = am_e0 cA a.1 := by
  have h1 : ∀ i, am_gI (am_nw H a) a.1 a.2 i = 0 := fun i => by rw [am_gI_nw, if_pos ⟨rfl, rfl⟩]
  have h2 : ∀ i, am_gL (am_nw H a) a.1 a.2 i = 0 := fun i => by rw [am_gL_nw, if_pos ⟨rfl, rfl⟩]
  have h3 : ∀ i, am_gR (am_nw H a) a.1 a.2 i = none := fun i => by rw [am_gR_nw, if_pos ⟨rfl, rfl⟩]
  have hv : ∀ i t, am_fv γ (am_nw H a) a.1 a.2 i t = am_dv t := by
    intro i t
    match t with
    | 0 => show Value.int _ = Value.int _; rw [h1]
    | 1 => show Value.int _ = Value.int _; rw [h1]
    | 2 => show Value.long _ = Value.long _; rw [h2]
    | t + 3 => show va_rf (Option.map γ _) = Value.null; rw [h3]; rfl
  have hs : ∀ tl, am_fs γ (am_nw H a) a.1 a.2 tl = tl.map am_dv := by
    intro tl
    unfold am_fs
    apply List.ext_getElem?
    intro i
    rw [List.getElem?_mapIdx, List.getElem?_map]
    cases tl[i]? with
    | none => rfl
    | some t => exact congrArg some (hv i t)
  unfold am_e am_e0
  rw [hs]
  split
  · rfl
  · congr 2
    match am_c a.1 - 20 with
    | 0 => show (_, Sum.inl _) = (_, Sum.inl _); congr 2; funext i; exact h1 i
    | 1 => show (_, Sum.inl _) = (_, Sum.inl _); congr 2; funext i; exact h1 i
    | 2 => show (_, Sum.inr (Sum.inl _)) = (_, Sum.inr (Sum.inl _)); congr 3; funext i; exact h2 i
    | t + 3 => show (_, Sum.inr (Sum.inr (Sum.inr (Sum.inr _)))) = (_, Sum.inr (Sum.inr (Sum.inr (Sum.inr _)))); congr 5; funext i; rw [h3 i]; rfl
def am_g1 (γ : am_A → Nat) (a : am_A) (q : Nat) : am_A → Nat := fun b => if b = a then q else γ b
theorem am_g1_ag {γ : am_A → Nat} {q : Nat} (ha : a ∉ am_lv H) (h99 : a.1 ≠ 99) : am_ag γ (am_g1 γ a q) H := by
  refine ⟨?_, fun b hb => ?_⟩
  · unfold am_g1
    rw [if_neg]
    rintro rfl
    exact h99 rfl
  · unfold am_g1
    rw [if_neg]
    rintro rfl
    exact ha hb
theorem am_ws_new {γ : am_A → Nat} {cA : Nat → ClassId} {q : Nat} (ok : am_ok H) (ha : a ∉ am_lv H) (h99 : a.1 ≠ 99) : am_ws (am_g1 γ a q) cA (am_nw H a) = am_ws γ cA H ++ [(q, am_e0 cA a.1)] := by
  have hg := am_g1_ag (γ := γ) (q := q) ha h99
  unfold am_ws
  rw [am_lv_nw, List.map_append]
  congr 1
  · refine List.map_congr_left fun b hb => ?_
    have hne : ¬ (b.1 = a.1 ∧ b.2 = a.2) := fun z => ha (by rw [← Prod.ext z.1 z.2]; exact hb)
    rw [hg.2 b hb, am_e_cg (γ := γ) (γ' := am_g1 γ a q) (H := H) (H1 := am_nw H a) (fun i => by rw [am_gI_nw, if_neg hne]) (fun i => by rw [am_gL_nw, if_neg hne]) (fun i => by
      rw [am_gR_nw, if_neg hne]
      cases hc : am_gR H b.1 b.2 i with
      | none => rfl
      | some x => exact congrArg some (hg.2 x (ok.2.2 b hb i x hc)))]
  · show [(am_g1 γ a q a, am_e (am_g1 γ a q) cA (am_nw H a) a)] = _
    rw [am_e_new]
    unfold am_g1
    rw [if_pos rfl]
theorem am_ok_nw (ok : am_ok H) (ha : a ∉ am_lv H) (h99 : a.1 ≠ 99) : am_ok (am_nw H a) := by
  refine ⟨?_, fun b hb => ?_, fun b hb i c hc => ?_⟩
  · rw [am_lv_nw]
    refine List.nodup_append.mpr ⟨ok.1, by simp, fun x hx y hy => ?_⟩
    rw [List.mem_singleton.mp hy]
    rintro rfl
    exact ha hx
  · rw [am_lv_nw] at hb
    rcases List.mem_append.mp hb with q | q
    · exact ok.2.1 b q
    · rw [List.mem_singleton.mp q]; exact h99
  · rw [am_gR_nw] at hc
    split at hc
    · cases hc
    · rename_i hne
      rw [am_lv_nw] at hb ⊢
      rcases List.mem_append.mp hb with q | q
      · exact List.mem_append_left _ (ok.2.2 b q i c hc)
      · rw [List.mem_singleton.mp q] at hne
        exact absurd ⟨rfl, rfl⟩ hne
theorem am_ext_nw : am_ext H (am_nw H a) := ⟨[a], rfl⟩
theorem am_dC_nw : am_dC H (am_nw H a) = 1 := by
  unfold am_dC
  rw [am_lv_nw, List.length_append]
  show (am_lv H).length + 1 - (am_lv H).length = 1
  omega
theorem am_dS_nw : am_dS H (am_nw H a) = am_n a.1 := by
  unfold am_dS am_ss
  rw [am_lv_nw, List.map_append, List.sum_append]
  show _ + (am_n a.1 + 0) - _ = _
  omega
theorem am_stepN {n : Nat} (ha : a ∉ am_lv H) (h99 : a.1 ≠ 99) (hn : am_n a.1 = n) (hr : ∀ v ∈ rest, v ∈ st)
    (hW : ∀ (p : Program) (e : Env) (R : Room) (s : State) (m : MethodId) (args : Array Value) (below : List Frame) (meth : Method) (c : Code) (D : va_G) (cA : Nat → ClassId) (base : Nat) (γ : am_A → Nat) (Hc : Heap) (locs : List Loc) (cells slots : Nat) (lsC : Array Slot) (Q : State → Prop),
      am_cx sc id d p R s m args meth c D cA base γ → am_wd D cA base γ H Hc → va_S (am_B base) s.heap Hc locs → cells + 1 ≤ R.cells → slots + n ≤ R.slots →
      (∀ (q : Nat) (Hc1 : Heap), va_P D am_cl (am_ws γ cA H ++ [(q, am_e0 cA a.1)]) Hc1 → va_D (am_B base) (am_ws γ cA H ++ [(q, am_e0 cA a.1)]) → va_S (am_B base) s.heap Hc1 locs → W p l e R s m args below meth c Hc1 locs (cells + 1) (slots + n) Q (F0 m pc' lsC (.ref q :: rest.map (am_cv γ)))) →
      W p l e R s m args below meth c Hc locs cells slots Q (F0 m pc lsC (st.map (am_cv γ))))
    (h : am_FQ l sc id d pc' ls (.inr (.inr (some a)) :: rest) (am_nw H a) Q) : am_FQ l sc id d pc ls st H Q := by
  obtain ⟨r, H', hq, he, hc, hw⟩ := h
  have hlv : am_lvs H ls st → am_lvs (am_nw H a) ls (.inr (.inr (some a)) :: rest) := fun lv => ⟨fun i v hv => am_lV_ext am_ext_nw (lv.1 i v hv), fun v hv => by
    rcases List.mem_cons.mp hv with rfl | q
    · intro b hb
      cases hb
      exact Or.inl (by rw [am_lv_nw]; exact List.mem_append_right _ (List.mem_singleton.mpr rfl))
    · exact am_lV_ext am_ext_nw (lv.2 v (hr v q))⟩
  refine ⟨r, H', hq, am_ext_tr am_ext_nw he, fun ok lv => hc (am_ok_nw ok ha h99) (hlv lv), fun p e R s m args below meth c D cA base γ Hc locs cells slots lsC Q' cx ok lv wd S hl c1 c2 ex => ?_⟩
  rw [am_dC_tr am_ext_nw he, am_dC_nw, ← Nat.add_assoc] at c1 ex
  rw [am_dS_tr am_ext_nw he, am_dS_nw, hn, ← Nat.add_assoc] at c2 ex
  refine hW p e R s m args below meth c D cA base γ Hc locs cells slots lsC Q' cx wd S (by omega) (by omega) (fun q Hc1 hP hD hS => ?_)
  have hg := am_g1_ag (γ := γ) (q := q) ha h99
  have hws := am_ws_new (γ := γ) (cA := cA) (q := q) ok ha h99
  rw [← hws] at hP hD
  have hcx : am_cx sc id d p R s m args meth c D cA base (am_g1 γ a q) := by
    refine ⟨cx.1, cx.2.1, cx.2.2.1, cx.2.2.2.1, cx.2.2.2.2.1, cx.2.2.2.2.2.1, cx.2.2.2.2.2.2.1, ?_⟩
    rw [hg.1]
    exact cx.2.2.2.2.2.2.2
  have key := hw p e R s m args below meth c D cA base (am_g1 γ a q) Hc1 locs (cells + 1) (slots + n) lsC Q' hcx (am_ok_nw ok ha h99) (hlv lv) ⟨hP, hD⟩ hS (am_ls_ag hg lv.1 hl) c1 c2 (fun γ' Hc' locs' pc' lsC' h1 => ex γ' Hc' locs' pc' lsC' (am_ag_tr am_ext_nw hg h1))
  rw [List.map_cons, am_map_ag hg (fun v hv => lv.2 v (hr v hv))] at key
  have e1 : am_cv (am_g1 γ a q) (.inr (.inr (some a))) = .ref q := by
    show va_rf (some (am_g1 γ a q a)) = _
    unfold am_g1
    rw [if_pos rfl]
    rfl
  rw [e1] at key
  exact key
theorem am_base {s : State} {base : Nat} (h : base ≤ s.heap.size) : ∀ q, s.heap.size ≤ q → am_B base q := fun q hq => Nat.le_trans h hq
theorem am_s_new {kd j ci n : Nat} {r : vw_C} (hd : decode (am_b id) pc = .ok (.new n, 3)) (hcl : am_cl[ci]? = some r) (hc : am_c kd = ci) (hci : ci < 20) (hkn : am_n kd = r.2.2) (hw1 : Cond.classLink (am_y id).cls n r.1 ∈ lw_gt) (hw2 : Cond.instantiable r.1 r.2.2 ∈ lw_gt) (hw3 : Cond.initialized r.1 ∈ lw_gt)
    (ha : (kd, j) ∉ am_lv H) (h : am_FQ l sc id d (pc + 3) ls (.inr (.inr (some (kd, j))) :: st) (am_nw H (kd, j)) Q) : am_FQ l sc id d pc ls st H Q := by
  have hk : kd ≠ 99 := by rintro rfl; rw [show am_c 99 = 99 from rfl] at hc; omega
  refine am_stepN (a := (kd, j)) (rest := st) ha hk hkn (fun v hv => hv) (fun p e R s m args below meth c D cA base γ Hc locs cells slots lsC Q' cx wd S c1 c2 k => ?_) h
  obtain ⟨ty, hty, hdv⟩ := am_cl_ty ci r hcl
  have e0 : am_e0 cA kd = .inr (ci, (am_tl ci).map am_dv) := by
    unfold am_e0
    rw [hc, if_pos hci]
  rw [show am_e0 cA ((kd, j) : am_A).1 = am_e0 cA kd from rfl, e0] at k
  refine va_new cx.1.1 cx.1.2.1 cx.2.1 (am_cl_in ci r hcl) ty hty cx.1.2.2.2 (cx.2.1 _ hw1) (cx.2.1 _ hw2) (cx.2.1 _ hw3) cx.2.2.2.2.1 wd.1 wd.2 S (am_base cx.2.2.2.2.2.1) hcl (fs := (am_tl ci).map am_dv) (fun i hi => ?_) c1 c2 hd (fun q Hc1 hP hD hS => k q Hc1 hP hD hS)
  rw [hdv i hi]
  unfold vp_V
  have hlt : i < (am_tl ci).length := by rw [am_cl_len ci r hcl]; exact hi
  simp [List.getD_eq_getElem?_getD, hlt]
theorem am_RA_eq {s : State} {c1 c2 : ClassId} {ty : FieldType} (h1 : va_RA s c1 ty) (h2 : va_RA s c2 ty) : c1 = c2 := by
  cases ty with
  | object C =>
    obtain ⟨k, co, -, -, -, e1⟩ := h1
    obtain ⟨k', co', -, -, -, e2⟩ := h2
    exact Option.some.inj (e1.symm.trans e2)
  | _ => exact Option.some.inj ((show s.vm.findClass _ = some c1 from h1).symm.trans h2)
theorem am_K_last {D : va_G} {cA : Nat → ClassId} {s : State} {c : ClassId} {ty : FieldType} {t : Nat} (h : va_K D am_cl (am_tys cA ++ [(c, ty)]) s) (ht : (am_tys cA)[t]? = some (cA t, ty)) : c = cA t := by
  have h1 := (h.2 5 (c, ty) rfl).2
  have h2 := (h.2 t (cA t, ty) (by rw [List.getElem?_append_left (List.getElem?_eq_some_iff.mp ht).1]; exact ht)).2
  exact am_RA_eq h1 h2
theorem am_nI_pos {n : Nat} (h : n ≤ 800000) : ¬ Int32.ofNat n < 0 := nI_pos (by omega)
theorem am_nI_cl {n : Nat} (h : n ≤ 800000) : (Int32.ofNat n).toNatClampNeg = n := nI_clamp (by omega)
theorem am_s_newI {kd j t : Nat} {atype : ArrayType} {ty : FieldType} {x : Int32} (hd : decode (am_b id) pc = .ok (.newarray atype, 2)) (hc : am_c kd = 20 + t) (hty : newarray.typeOf atype = ty) (ht : t = 0 ∧ ty = .int ∨ t = 1 ∧ ty = .boolean ∨ t = 2 ∧ ty = .long) (hkn : am_n kd ≤ 800000) (hw1 : Cond.arrayClass (newarray.typeOf atype) ∈ lw_gt) (hx : x = Int32.ofNat (am_n kd))
    (ha : (kd, j) ∉ am_lv H) (h : am_FQ l sc id d (pc + 2) ls (.inr (.inr (some (kd, j))) :: st) (am_nw H (kd, j)) Q) : am_FQ l sc id d pc ls (.inl x :: st) H Q := by
  subst hx
  have hk : kd ≠ 99 := am_n99 hc (by omega)
  refine am_stepN (a := (kd, j)) (rest := st) ha hk rfl (fun v hv => List.mem_cons_of_mem _ hv) (fun p e R s m args below meth c D cA base γ Hc locs cells slots lsC Q' cx wd S c1 c2 k => ?_) h
  have hne : ¬ 20 + t < 20 := by omega
  have hee : 20 + t - 20 = t := by omega
  have hcb : componentBytes ty ≤ 8 := by rcases ht with ⟨-, rfl⟩ | ⟨-, rfl⟩ | ⟨-, rfl⟩ <;> decide
  have hbytes : am_n kd * componentBytes ty ≤ 536870912 := Nat.le_trans (Nat.mul_le_mul hkn hcb) (by decide)
  rcases ht with ⟨rfl, rfl⟩ | ⟨rfl, rfl⟩ | ⟨rfl, rfl⟩
  · have e0 : am_e0 cA kd = .inl (cA 0, am_n kd, .inl (fun _ => 0)) := by unfold am_e0; rw [hc, if_neg hne]; rfl
    rw [show am_e0 cA ((kd, j) : am_A).1 = am_e0 cA kd from rfl, e0] at k
    refine va_newa (a0 := (am_n kd, .inl (fun _ => 0))) cx.1.1 cx.1.2.1 (cx.2.1 _ hw1) hty cx.2.2.2.2.1 wd.1 wd.2 S (am_base cx.2.2.2.2.2.1) (fun cA => rfl) (am_nI_pos hkn) (am_nI_cl hkn) hbytes c1 c2 hd (fun q cA' Hc1 hK hP hD hS => ?_)
    have he := am_K_last (t := 0) hK rfl
    subst he
    exact k q Hc1 hP hD hS
  · have e0 : am_e0 cA kd = .inl (cA 1, am_n kd, .inl (fun _ => 0)) := by unfold am_e0; rw [hc, if_neg hne]; rfl
    rw [show am_e0 cA ((kd, j) : am_A).1 = am_e0 cA kd from rfl, e0] at k
    refine va_newa (a0 := (am_n kd, .inl (fun _ => 0))) cx.1.1 cx.1.2.1 (cx.2.1 _ hw1) hty cx.2.2.2.2.1 wd.1 wd.2 S (am_base cx.2.2.2.2.2.1) (fun cA => rfl) (am_nI_pos hkn) (am_nI_cl hkn) hbytes c1 c2 hd (fun q cA' Hc1 hK hP hD hS => ?_)
    have he := am_K_last (t := 1) hK rfl
    subst he
    exact k q Hc1 hP hD hS
  · have e0 : am_e0 cA kd = .inl (cA 2, am_n kd, .inr (.inl (fun _ => 0))) := by unfold am_e0; rw [hc, if_neg hne]; rfl
    rw [show am_e0 cA ((kd, j) : am_A).1 = am_e0 cA kd from rfl, e0] at k
    refine va_newa (a0 := (am_n kd, .inr (.inl (fun _ => 0)))) cx.1.1 cx.1.2.1 (cx.2.1 _ hw1) hty cx.2.2.2.2.1 wd.1 wd.2 S (am_base cx.2.2.2.2.2.1) (fun cA => rfl) (am_nI_pos hkn) (am_nI_cl hkn) hbytes c1 c2 hd (fun q cA' Hc1 hK hP hD hS => ?_)
    have he := am_K_last (t := 2) hK rfl
    subst he
    exact k q Hc1 hP hD hS
theorem am_s_newQ {kd j t n : Nat} {C : String} {x : Int32} (hd : decode (am_b id) pc = .ok (.anewarray n, 3)) (hc : am_c kd = 20 + t) (ht : t = 3 ∧ C = "WishTrees$Tree" ∨ t = 4 ∧ C = "WishTrees$Creature") (hkn : am_n kd ≤ 800000) (hw1 : Cond.classLink (am_y id).cls n C ∈ lw_gt) (hx : x = Int32.ofNat (am_n kd))
    (ha : (kd, j) ∉ am_lv H) (h : am_FQ l sc id d (pc + 3) ls (.inr (.inr (some (kd, j))) :: st) (am_nw H (kd, j)) Q) : am_FQ l sc id d pc ls (.inl x :: st) H Q := by
  subst hx
  have hk : kd ≠ 99 := am_n99 hc (by omega)
  refine am_stepN (a := (kd, j)) (rest := st) ha hk rfl (fun v hv => List.mem_cons_of_mem _ hv) (fun p e R s m args below meth c D cA base γ Hc locs cells slots lsC Q' cx wd S c1 c2 k => ?_) h
  have hne : ¬ 20 + t < 20 := by omega
  have hbytes : am_n kd * 4 ≤ 536870912 := Nat.le_trans (Nat.mul_le_mul_right 4 hkn) (by decide)
  rcases ht with ⟨rfl, rfl⟩ | ⟨rfl, rfl⟩
  · have e0 : am_e0 cA kd = .inl (cA 3, am_n kd, .inr (.inr (.inr (.inr (fun _ => none))))) := by unfold am_e0; rw [hc, if_neg hne]; rfl
    rw [show am_e0 cA ((kd, j) : am_A).1 = am_e0 cA kd from rfl, e0] at k
    refine va_newq cx.1.1 cx.1.2.1 cx.1.2.2.2 (cx.2.1 _ hw1) cx.2.2.1.2.1 cx.2.2.2.2.1 wd.1 wd.2 S (am_base cx.2.2.2.2.2.1) (am_nI_pos hkn) (am_nI_cl hkn) hbytes c1 c2 hd (fun q cA' Hc1 hK hP hD hS => ?_)
    have he := am_K_last (t := 3) hK rfl
    subst he
    exact k q Hc1 hP hD hS
  · have e0 : am_e0 cA kd = .inl (cA 4, am_n kd, .inr (.inr (.inr (.inr (fun _ => none))))) := by unfold am_e0; rw [hc, if_neg hne]; rfl
    rw [show am_e0 cA ((kd, j) : am_A).1 = am_e0 cA kd from rfl, e0] at k
    refine va_newq cx.1.1 cx.1.2.1 cx.1.2.2.2 (cx.2.1 _ hw1) cx.2.2.1.2.2 cx.2.2.2.2.1 wd.1 wd.2 S (am_base cx.2.2.2.2.2.1) (am_nI_pos hkn) (am_nI_cl hkn) hbytes c1 c2 hd (fun q cA' Hc1 hK hP hD hS => ?_)
    have he := am_K_last (t := 4) hK rfl
    subst he
    exact k q Hc1 hP hD hS
end AMN
