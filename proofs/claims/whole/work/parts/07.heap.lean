/-! ===== the heap ===== -/
section AMH
variable {l : Launch} {sc : am_SC} {id d pc : Nat} {ls : am_LS} {st : List am_V} {H : am_H} {Q : Option am_V → am_H → Prop}
theorem am_live {H : am_H} {st : List am_V} {ls : am_LS} {a : am_A} (h : am_lvs H ls st) (hm : (.inr (.inr (some a)) : am_V) ∈ st) (hk : a.1 ≠ 99) : a ∈ am_lv H := by
  rcases h.2 _ hm a rfl with q | q
  · exact q
  · rw [q] at hk; exact absurd rfl hk
theorem am_gI_sI {H : am_H} {k j i k' j' i' : Nat} {x : Int32} : am_gI (am_sI H k j i x) k' j' i' = if k' = k ∧ j' = j ∧ i' = i then x else am_gI H k' j' i' := rfl
theorem am_gL_sI {H : am_H} {k j i k' j' i' : Nat} {x : Int32} : am_gL (am_sI H k j i x) k' j' i' = am_gL H k' j' i' := rfl
theorem am_gR_sI {H : am_H} {k j i k' j' i' : Nat} {x : Int32} : am_gR (am_sI H k j i x) k' j' i' = am_gR H k' j' i' := rfl
theorem am_gI_sL {H : am_H} {k j i k' j' i' : Nat} {x : Int64} : am_gI (am_sL H k j i x) k' j' i' = am_gI H k' j' i' := rfl
theorem am_gL_sL {H : am_H} {k j i k' j' i' : Nat} {x : Int64} : am_gL (am_sL H k j i x) k' j' i' = if k' = k ∧ j' = j ∧ i' = i then x else am_gL H k' j' i' := rfl
theorem am_gR_sL {H : am_H} {k j i k' j' i' : Nat} {x : Int64} : am_gR (am_sL H k j i x) k' j' i' = am_gR H k' j' i' := rfl
theorem am_gI_sR {H : am_H} {k j i k' j' i' : Nat} {x : Option am_A} : am_gI (am_sR H k j i x) k' j' i' = am_gI H k' j' i' := rfl
theorem am_gL_sR {H : am_H} {k j i k' j' i' : Nat} {x : Option am_A} : am_gL (am_sR H k j i x) k' j' i' = am_gL H k' j' i' := rfl
theorem am_gR_sR {H : am_H} {k j i k' j' i' : Nat} {x : Option am_A} : am_gR (am_sR H k j i x) k' j' i' = if k' = k ∧ j' = j ∧ i' = i then x else am_gR H k' j' i' := rfl
theorem am_lv_sI {H : am_H} {k j i : Nat} {x : Int32} : am_lv (am_sI H k j i x) = am_lv H := rfl
theorem am_lv_sL {H : am_H} {k j i : Nat} {x : Int64} : am_lv (am_sL H k j i x) = am_lv H := rfl
theorem am_lv_sR {H : am_H} {k j i : Nat} {x : Option am_A} : am_lv (am_sR H k j i x) = am_lv H := rfl
/-- two heaps that hold the same at one cell -/
theorem am_e_cg {γ γ' : am_A → Nat} {cA : Nat → ClassId} {H H1 : am_H} {b : am_A} (h1 : ∀ i, am_gI H1 b.1 b.2 i = am_gI H b.1 b.2 i) (h2 : ∀ i, am_gL H1 b.1 b.2 i = am_gL H b.1 b.2 i) (h3 : ∀ i, (am_gR H1 b.1 b.2 i).map γ' = (am_gR H b.1 b.2 i).map γ) : am_e γ' cA H1 b = am_e γ cA H b := by
  have hv : ∀ i t, am_fv γ' H1 b.1 b.2 i t = am_fv γ H b.1 b.2 i t := by
    intro i t
    match t with
    | 0 => show Value.int _ = Value.int _; rw [h1]
    | 1 => show Value.int _ = Value.int _; rw [h1]
    | 2 => show Value.long _ = Value.long _; rw [h2]
    | t + 3 => show va_rf _ = va_rf _; rw [h3]
  have hs : ∀ tl, am_fs γ' H1 b.1 b.2 tl = am_fs γ H b.1 b.2 tl := by
    intro tl
    unfold am_fs
    congr 1
    funext i t
    exact hv i t
  have ht : ∀ t, am_ct γ' H1 b.1 b.2 t = am_ct γ H b.1 b.2 t := by
    intro t
    match t with
    | 0 => show Sum.inl _ = Sum.inl _; congr 1; funext i; exact h1 i
    | 1 => show Sum.inl _ = Sum.inl _; congr 1; funext i; exact h1 i
    | 2 => show Sum.inr (Sum.inl _) = Sum.inr (Sum.inl _); congr 2; funext i; exact h2 i
    | t + 3 => show Sum.inr (Sum.inr (Sum.inr (Sum.inr _))) = Sum.inr (Sum.inr (Sum.inr (Sum.inr _))); congr 4; funext i; exact h3 i
  unfold am_e
  rw [hs, ht]
theorem am_s_get {kd j ci i t n : Nat} {r : vw_C} (hd : decode (am_b id) pc = .ok (.getfield n, 3)) (hcl : am_cl[ci]? = some r) (hc : am_c kd = ci) (hci : ci < 20) (hi : i < r.2.2) (htl : (am_tl ci)[i]? = some t)
    (hw : Cond.fieldLink (am_y id).cls n (r.2.1 i).1 (r.2.1 i).2.1 (r.2.1 i).2.2.1 ∈ lw_gt) (h : am_FQ l sc id d (pc + 3) ls (am_fl H kd j i t :: st) H Q) : am_FQ l sc id d pc ls (.inr (.inr (some (kd, j))) :: st) H Q := by
  have hk : kd ≠ 99 := by rintro rfl; rw [show am_c 99 = 99 from rfl] at hc; omega
  refine am_step0 (fun ok hl => ⟨hl.1, fun v hv => ?_⟩) (fun p e R s m args below meth c D cA base γ Hc locs cells slots lsC Q' cx ok lv wd S hls k => ?_) h
  · rcases List.mem_cons.mp hv with rfl | q
    · have ha := am_live hl List.mem_cons_self hk
      match t with
      | 0 => trivial
      | 1 => trivial
      | 2 => trivial
      | t + 3 => exact fun b hb => Or.inl (ok.2.2 _ ha i b hb)
    · exact hl.2 v (List.mem_cons_of_mem _ q)
  · have ha := am_live lv List.mem_cons_self hk
    obtain ⟨n0, h1, h2⟩ := am_ws_at (γ := γ) (cA := cA) ha
    rw [am_e_obj hc hci] at h2
    refine va_get cx.1.1 cx.1.2.1 cx.2.1 (am_cl_in ci r hcl) cx.1.2.2.2 cx.2.2.2.2.1 wd.1 n0 h2 hcl i hi (cx.2.1 _ hw) (fun x h => h) (am_fs_at htl) hd ?_
    rw [am_fv_fl]
    exact k lsC hls
theorem am_ok_sI {H : am_H} {k j i : Nat} {x : Int32} (h : am_ok H) : am_ok (am_sI H k j i x) := h
theorem am_ok_sL {H : am_H} {k j i : Nat} {x : Int64} (h : am_ok H) : am_ok (am_sL H k j i x) := h
theorem am_ok_sR {H : am_H} {k j i : Nat} {x : Option am_A} (h : am_ok H) (hx : ∀ b, x = some b → b ∈ am_lv H) : am_ok (am_sR H k j i x) := by
  refine ⟨h.1, h.2.1, fun a ha i' b hb => ?_⟩
  rw [am_gR_sR] at hb
  split at hb
  · exact hx b hb
  · exact h.2.2 a ha i' b hb
theorem am_s_put {v : am_V} {H1 : am_H} {kd j ci i n : Nat} {r : vw_C} (hd : decode (am_b id) pc = .ok (.putfield n, 3)) (hcl : am_cl[ci]? = some r) (hc : am_c kd = ci) (hci : ci < 20) (hi : i < r.2.2)
    (hw : Cond.fieldLink (am_y id).cls n (r.2.1 i).1 (r.2.1 i).2.1 (r.2.1 i).2.2.1 ∈ lw_gt) (hf : (r.2.1 i).2.2.2 = false ∨ (r.2.1 i).2.2.2 = true ∧ (am_y id).name = "<init>" ∧ (r.2.1 i).1 = (am_y id).cls)
    (hty : ∃ ty, parseFieldDescriptor (r.2.1 i).2.2.1 = some ty ∧ ∀ γ, narrow ty (am_cv γ v) = am_cv γ v ∧ fits ty (am_cv γ v) = true)
    (hl1 : am_lv H1 = am_lv H) (hok : am_ok H → am_lV H v → am_ok H1) (hfs : ∀ γ, (am_fs γ H kd j (am_tl ci)).set i (am_cv γ v) = am_fs γ H1 kd j (am_tl ci)) (ho : ∀ γ cA b, b ≠ (kd, j) → am_e γ cA H1 b = am_e γ cA H b)
    (h : am_FQ l sc id d (pc + 3) ls st H1 Q) : am_FQ l sc id d pc ls (v :: .inr (.inr (some (kd, j))) :: st) H Q := by
  have hk : kd ≠ 99 := by rintro rfl; rw [show am_c 99 = 99 from rfl] at hc; omega
  have he : am_ext H H1 := ⟨[], by simp [hl1]⟩
  refine am_step1 hl1 (fun ok lv => hok ok (lv.2 v List.mem_cons_self)) (fun lv => ⟨fun i v hv => am_lV_ext he (lv.1 i v hv), fun u hu => am_lV_ext he (lv.2 u (List.mem_cons_of_mem _ (List.mem_cons_of_mem _ hu)))⟩) (fun p e R s m args below meth c D cA base γ Hc locs cells slots lsC Q' cx ok lv wd S k => ?_) h
  have ha := am_live lv (List.mem_cons_of_mem _ List.mem_cons_self) hk
  obtain ⟨n0, h1, h2⟩ := am_ws_at (γ := γ) (cA := cA) ha
  rw [am_e_obj hc hci] at h2
  obtain ⟨ty0, hty0, -⟩ := am_cl_ty ci r hcl
  obtain ⟨ty, hp, hn⟩ := hty
  have hws := am_ws_set (γ := γ) (cA := cA) ok h1 hl1 rfl (ho γ cA)
  rw [am_e_obj hc hci, ← hfs γ] at hws
  have hlen : i < (am_fs γ H kd j (am_tl ci)).length := by
    unfold am_fs
    rw [List.length_mapIdx, am_cl_len ci r hcl]
    exact hi
  have kk : ∀ (Hc1 : Heap) (locs1 : List Loc), va_P D am_cl ((am_ws γ cA H).set n0 (γ (kd, j), .inr (ci, (am_fs γ H kd j (am_tl ci)).set i (am_cv γ v)))) Hc1 → va_D (am_B base) ((am_ws γ cA H).set n0 (γ (kd, j), .inr (ci, (am_fs γ H kd j (am_tl ci)).set i (am_cv γ v)))) → va_S (am_B base) s.heap Hc1 locs1 → W p l e R s m args below meth c Hc1 locs1 cells slots Q' (F0 m (pc + 3) lsC (st.map (am_cv γ))) := by
    intro Hc1 locs1 hP1 hD1 hS1
    rw [hws] at hP1 hD1
    exact k Hc1 locs1 ⟨hP1, hD1⟩ hS1
  rcases hf with hf | ⟨hf, hin, hdecl⟩
  · exact va_put cx.1.1 cx.1.2.1 cx.2.1 (am_cl_in ci r hcl) ty0 hty0 (am_cl_nm ci r hcl) cx.1.2.2.2 cx.2.2.2.2.1 wd.1 wd.2 S n0 h2 hcl i hi (cx.2.1 _ hw) (fun x h => h) hf hp (hn γ).1 (hn γ).2 hlen hd kk
  · exact va_putF cx.1.1 cx.1.2.1 cx.2.1 (am_cl_in ci r hcl) ty0 hty0 (am_cl_nm ci r hcl) cx.1.2.2.2 cx.2.2.2.2.1 wd.1 wd.2 S n0 h2 hcl i hi (cx.2.1 _ hw) (fun x h => h) hf (cx.2.2.2.1 hin) hdecl hp (hn γ).1 (hn γ).2 hlen hd kk
theorem am_fs_set {γ : am_A → Nat} {H H1 : am_H} {k j i t : Nat} {tl : List Nat} {w : Value} (ht : tl[i]? = some t) (hw : am_fv γ H1 k j i t = w) (ho : ∀ m t', tl[m]? = some t' → m ≠ i → am_fv γ H1 k j m t' = am_fv γ H k j m t') : (am_fs γ H k j tl).set i w = am_fs γ H1 k j tl := by
  apply List.ext_getElem?
  intro m
  rw [List.getElem?_set]
  unfold am_fs
  rw [List.getElem?_mapIdx, List.getElem?_mapIdx, List.length_mapIdx]
  by_cases hm : i = m
  · subst hm
    rw [if_pos rfl, if_pos (List.getElem?_eq_some_iff.mp ht).1, ht, ← hw]
    rfl
  · rw [if_neg hm]
    cases hq : tl[m]? with
    | none => rfl
    | some t' => exact congrArg some (ho m t' hq (fun q => hm q.symm)).symm
theorem am_s_putI {x : Int32} {kd j ci i t n : Nat} {r : vw_C} (hd : decode (am_b id) pc = .ok (.putfield n, 3)) (hcl : am_cl[ci]? = some r) (hc : am_c kd = ci) (hci : ci < 20) (hi : i < r.2.2) (htl : (am_tl ci)[i]? = some t)
    (hw : Cond.fieldLink (am_y id).cls n (r.2.1 i).1 (r.2.1 i).2.1 (r.2.1 i).2.2.1 ∈ lw_gt) (hf : (r.2.1 i).2.2.2 = false ∨ (r.2.1 i).2.2.2 = true ∧ (am_y id).name = "<init>" ∧ (r.2.1 i).1 = (am_y id).cls)
    (hty : t = 0 ∧ parseFieldDescriptor (r.2.1 i).2.2.1 = some .int ∨ t = 1 ∧ parseFieldDescriptor (r.2.1 i).2.2.1 = some .boolean ∧ am_bool x)
    (h : am_FQ l sc id d (pc + 3) ls st (am_sI H kd j i x) Q) : am_FQ l sc id d pc ls (.inl x :: .inr (.inr (some (kd, j))) :: st) H Q := by
  refine am_s_put (H1 := am_sI H kd j i x) hd hcl hc hci hi hw hf ?_ rfl (fun ok _ => ok) (fun γ => ?_) (fun γ cA b hb => ?_) h
  · rcases hty with ⟨-, h1⟩ | ⟨-, h1, h2 | h2⟩
    · exact ⟨_, h1, fun γ => ⟨rfl, rfl⟩⟩
    · subst h2; exact ⟨_, h1, fun γ => ⟨rfl, rfl⟩⟩
    · subst h2; exact ⟨_, h1, fun γ => ⟨rfl, rfl⟩⟩
  · refine am_fs_set htl ?_ (fun m t' hm hne => ?_)
    · rcases hty with ⟨h1, -⟩ | ⟨h1, -⟩ <;> subst h1 <;> (show Value.int (am_gI (am_sI H kd j i x) kd j i) = Value.int x) <;> rw [am_gI_sI, if_pos ⟨rfl, rfl, rfl⟩]
    · have e : am_gI (am_sI H kd j i x) kd j m = am_gI H kd j m := by rw [am_gI_sI, if_neg (fun q => hne q.2.2)]
      match t' with
      | 0 => show Value.int _ = Value.int _; rw [e]
      | 1 => show Value.int _ = Value.int _; rw [e]
      | 2 => rfl
      | t' + 3 => rfl
  · refine am_e_cg (fun m => ?_) (fun m => rfl) (fun m => rfl)
    rw [am_gI_sI, if_neg]
    rintro ⟨q1, q2, -⟩
    exact hb (Prod.ext q1 q2)
theorem am_s_putR {o : Option am_A} {kd j ci i t n : Nat} {r : vw_C} (hd : decode (am_b id) pc = .ok (.putfield n, 3)) (hcl : am_cl[ci]? = some r) (hc : am_c kd = ci) (hci : ci < 20) (hi : i < r.2.2) (htl : (am_tl ci)[i]? = some t)
    (hw : Cond.fieldLink (am_y id).cls n (r.2.1 i).1 (r.2.1 i).2.1 (r.2.1 i).2.2.1 ∈ lw_gt) (hf : (r.2.1 i).2.2.2 = false ∨ (r.2.1 i).2.2.2 = true ∧ (am_y id).name = "<init>" ∧ (r.2.1 i).1 = (am_y id).cls)
    (ht3 : t = 3) (hty : ∃ ty, parseFieldDescriptor (r.2.1 i).2.2.1 = some ty ∧ ((∃ n, ty = .object n) ∨ ∃ u, ty = .array u)) (hno : ∀ a, o = some a → a.1 ≠ 99)
    (h : am_FQ l sc id d (pc + 3) ls st (am_sR H kd j i o) Q) : am_FQ l sc id d pc ls (.inr (.inr o) :: .inr (.inr (some (kd, j))) :: st) H Q := by
  subst ht3
  refine am_s_put (H1 := am_sR H kd j i o) hd hcl hc hci hi hw hf ?_ rfl (fun ok lv => am_ok_sR ok fun b hb => ?_) (fun γ => ?_) (fun γ cA b hb => ?_) h
  · obtain ⟨ty, h1, h2⟩ := hty
    refine ⟨ty, h1, fun γ => ?_⟩
    rcases h2 with ⟨n, rfl⟩ | ⟨u, rfl⟩ <;> cases o <;> exact ⟨rfl, rfl⟩
  · rcases lv b hb with q | q
    · exact q
    · exact absurd (by rw [q]) (hno b hb)
  · refine am_fs_set htl ?_ (fun m t' hm hne => ?_)
    · show va_rf ((am_gR (am_sR H kd j i o) kd j i).map γ) = va_rf (o.map γ)
      rw [am_gR_sR, if_pos ⟨rfl, rfl, rfl⟩]
    · have e : am_gR (am_sR H kd j i o) kd j m = am_gR H kd j m := by rw [am_gR_sR, if_neg (fun q => hne q.2.2)]
      match t' with
      | 0 => rfl
      | 1 => rfl
      | 2 => rfl
      | t' + 3 => show va_rf _ = va_rf _; rw [e]
  · refine am_e_cg (fun m => rfl) (fun m => rfl) (fun m => ?_)
    rw [am_gR_sR, if_neg]
    rintro ⟨q1, q2, -⟩
    exact hb (Prod.ext q1 q2)
end AMH
