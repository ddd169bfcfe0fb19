/-! ===== arrays ===== -/
section AMR
variable {l : Launch} {sc : am_SC} {id d pc : Nat} {ls : am_LS} {st : List am_V} {H : am_H} {Q : Option am_V → am_H → Prop}
theorem am_n99 {kd t : Nat} (hc : am_c kd = 20 + t) (ht : t < 10) : kd ≠ 99 := by
  rintro rfl
  rw [show am_c 99 = 99 from rfl] at hc
  omega
theorem am_lvs_tl2 {H : am_H} {ls : am_LS} {st : List am_V} {u v : am_V} (h : am_lvs H ls (u :: v :: st)) {w : am_V} (hw : am_lV H w) : am_lvs H ls (w :: st) := ⟨h.1, fun x hx => by
  rcases List.mem_cons.mp hx with rfl | q
  · exact hw
  · exact h.2 x (List.mem_cons_of_mem _ (List.mem_cons_of_mem _ q))⟩
theorem am_s_iald {kd j : Nat} {x : Int32} (hd : decode (am_b id) pc = .ok (.iaload, 1)) (hc : am_c kd = 20 + 0) (hin : vp_in x (am_n kd)) (h : am_FQ l sc id d (pc + 1) ls (.inl (am_gI H kd j x.toNatClampNeg) :: st) H Q) : am_FQ l sc id d pc ls (.inl x :: .inr (.inr (some (kd, j))) :: st) H Q := by
  refine am_step0 (fun ok hl => am_lvs_tl2 (w := .inl (am_gI H kd j x.toNatClampNeg)) hl trivial) (fun p e R s m args below meth c D cA base γ Hc locs cells slots lsC Q' cx ok lv wd S hls k => ?_) h
  obtain ⟨n0, h1, h2⟩ := am_ws_at (γ := γ) (cA := cA) (am_live lv (List.mem_cons_of_mem _ List.mem_cons_self) (am_n99 hc (by omega)))
  rw [am_e_arr hc] at h2
  exact va_iald cx.1.1 cx.1.2.1 cx.2.2.2.2.1 wd.1 n0 0 h2 rfl hin hd (k lsC hls)
theorem am_s_zald {kd j : Nat} {x : Int32} (hd : decode (am_b id) pc = .ok (.baload, 1)) (hc : am_c kd = 20 + 1) (hin : vp_in x (am_n kd)) (h : am_FQ l sc id d (pc + 1) ls (.inl (am_gI H kd j x.toNatClampNeg) :: st) H Q) : am_FQ l sc id d pc ls (.inl x :: .inr (.inr (some (kd, j))) :: st) H Q := by
  refine am_step0 (fun ok hl => am_lvs_tl2 (w := .inl (am_gI H kd j x.toNatClampNeg)) hl trivial) (fun p e R s m args below meth c D cA base γ Hc locs cells slots lsC Q' cx ok lv wd S hls k => ?_) h
  obtain ⟨n0, h1, h2⟩ := am_ws_at (γ := γ) (cA := cA) (am_live lv (List.mem_cons_of_mem _ List.mem_cons_self) (am_n99 hc (by omega)))
  rw [am_e_arr hc] at h2
  exact va_zald cx.1.1 cx.1.2.1 cx.2.2.2.2.1 wd.1 n0 1 h2 rfl hin hd (k lsC hls)
theorem am_s_lald {kd j : Nat} {x : Int32} (hd : decode (am_b id) pc = .ok (.laload, 1)) (hc : am_c kd = 20 + 2) (hin : vp_in x (am_n kd)) (h : am_FQ l sc id d (pc + 1) ls (.inr (.inl (am_gL H kd j x.toNatClampNeg)) :: st) H Q) : am_FQ l sc id d pc ls (.inl x :: .inr (.inr (some (kd, j))) :: st) H Q := by
  refine am_step0 (fun ok hl => am_lvs_tl2 (w := .inr (.inl (am_gL H kd j x.toNatClampNeg))) hl trivial) (fun p e R s m args below meth c D cA base γ Hc locs cells slots lsC Q' cx ok lv wd S hls k => ?_) h
  obtain ⟨n0, h1, h2⟩ := am_ws_at (γ := γ) (cA := cA) (am_live lv (List.mem_cons_of_mem _ List.mem_cons_self) (am_n99 hc (by omega)))
  rw [am_e_arr hc] at h2
  exact va_lald cx.1.1 cx.1.2.1 cx.2.2.2.2.1 wd.1 n0 2 h2 rfl hin hd (k lsC hls)
theorem am_s_aald {kd j t : Nat} {x : Int32} (hd : decode (am_b id) pc = .ok (.aaload, 1)) (hc : am_c kd = 20 + t) (ht : t = 3 ∨ t = 4) (hin : vp_in x (am_n kd)) (h : am_FQ l sc id d (pc + 1) ls (.inr (.inr (am_gR H kd j x.toNatClampNeg)) :: st) H Q) : am_FQ l sc id d pc ls (.inl x :: .inr (.inr (some (kd, j))) :: st) H Q := by
  have hk : kd ≠ 99 := am_n99 hc (by omega)
  refine am_step0 (fun ok hl => am_lvs_tl2 (w := .inr (.inr (am_gR H kd j x.toNatClampNeg))) hl (fun b hb => Or.inl (ok.2.2 _ (am_live hl (List.mem_cons_of_mem _ List.mem_cons_self) hk) _ b hb))) (fun p e R s m args below meth c D cA base γ Hc locs cells slots lsC Q' cx ok lv wd S hls k => ?_) h
  obtain ⟨n0, h1, h2⟩ := am_ws_at (γ := γ) (cA := cA) (am_live lv (List.mem_cons_of_mem _ List.mem_cons_self) hk)
  rw [am_e_arr hc] at h2
  rcases ht with rfl | rfl
  · exact va_aldq cx.1.1 cx.1.2.1 cx.2.2.2.2.1 wd.1 n0 3 h2 rfl hin hd (k lsC hls)
  · exact va_aldq cx.1.1 cx.1.2.1 cx.2.2.2.2.1 wd.1 n0 4 h2 rfl hin hd (k lsC hls)
theorem am_sI_off {γ : am_A → Nat} {cA : Nat → ClassId} {kd j i : Nat} {x : Int32} {b : am_A} (hb : b ≠ (kd, j)) : am_e γ cA (am_sI H kd j i x) b = am_e γ cA H b := by
  refine am_e_cg (fun m => ?_) (fun m => rfl) (fun m => rfl)
  rw [am_gI_sI, if_neg]
  rintro ⟨q1, q2, -⟩
  exact hb (Prod.ext q1 q2)
theorem am_lvs_tl3 {H H1 : am_H} {ls : am_LS} {st : List am_V} {u v w : am_V} (hl : am_lv H1 = am_lv H) (h : am_lvs H ls (u :: v :: w :: st)) : am_lvs H1 ls st := ⟨fun i v hv => am_lV_ext ⟨[], by simp [hl]⟩ (h.1 i v hv), fun x hx => am_lV_ext ⟨[], by simp [hl]⟩ (h.2 x (List.mem_cons_of_mem _ (List.mem_cons_of_mem _ (List.mem_cons_of_mem _ hx))))⟩
theorem am_s_iast {kd j : Nat} {x y : Int32} (hd : decode (am_b id) pc = .ok (.iastore, 1)) (hc : am_c kd = 20 + 0) (hin : vp_in x (am_n kd)) (h : am_FQ l sc id d (pc + 1) ls st (am_sI H kd j x.toNatClampNeg y) Q) : am_FQ l sc id d pc ls (.inl y :: .inl x :: .inr (.inr (some (kd, j))) :: st) H Q := by
  refine am_step1 (H1 := am_sI H kd j x.toNatClampNeg y) rfl (fun ok _ => ok) (fun lv => am_lvs_tl3 rfl lv) (fun p e R s m args below meth c D cA base γ Hc locs cells slots lsC Q' cx ok lv wd S k => ?_) h
  obtain ⟨n0, h1, h2⟩ := am_ws_at (γ := γ) (cA := cA) (am_live lv (List.mem_cons_of_mem _ (List.mem_cons_of_mem _ List.mem_cons_self)) (am_n99 hc (by omega)))
  rw [am_e_arr hc] at h2
  have hws := am_ws_set (γ := γ) (cA := cA) (H1 := am_sI H kd j x.toNatClampNeg y) ok h1 rfl (e := .inl (cA 0, am_n kd, .inl (upd (am_gI H kd j) x.toNatClampNeg y))) (by
    rw [am_e_arr hc]
    show _ = Sum.inl (cA 0, am_n kd, Sum.inl _)
    congr 4
    funext m
    show (if m = x.toNatClampNeg then y else am_gI H kd j m) = am_gI (am_sI H kd j x.toNatClampNeg y) kd j m
    rw [am_gI_sI]
    simp) (fun b hb => am_sI_off hb)
  refine va_iast cx.1.1 cx.1.2.1 cx.2.2.2.2.1 wd.1 wd.2 S n0 0 h2 rfl hin hd (fun Hc1 locs1 hP1 hD1 hS1 => ?_)
  have hP1 := hP1
  rw [hws] at hP1 hD1
  exact k Hc1 locs1 ⟨hP1, hD1⟩ hS1
theorem am_s_zast {kd j : Nat} {x y : Int32} (hd : decode (am_b id) pc = .ok (.bastore, 1)) (hc : am_c kd = 20 + 1) (hin : vp_in x (am_n kd)) (hy : am_bool y) (h : am_FQ l sc id d (pc + 1) ls st (am_sI H kd j x.toNatClampNeg y) Q) : am_FQ l sc id d pc ls (.inl y :: .inl x :: .inr (.inr (some (kd, j))) :: st) H Q := by
  refine am_step1 (H1 := am_sI H kd j x.toNatClampNeg y) rfl (fun ok _ => ok) (fun lv => am_lvs_tl3 rfl lv) (fun p e R s m args below meth c D cA base γ Hc locs cells slots lsC Q' cx ok lv wd S k => ?_) h
  obtain ⟨n0, h1, h2⟩ := am_ws_at (γ := γ) (cA := cA) (am_live lv (List.mem_cons_of_mem _ (List.mem_cons_of_mem _ List.mem_cons_self)) (am_n99 hc (by omega)))
  rw [am_e_arr hc] at h2
  have hy2 : vp_nar .boolean y = y := by rcases hy with rfl | rfl <;> rfl
  have hws := am_ws_set (γ := γ) (cA := cA) (H1 := am_sI H kd j x.toNatClampNeg y) ok h1 rfl (e := .inl (cA 1, am_n kd, .inl (upd (am_gI H kd j) x.toNatClampNeg y))) (by
    rw [am_e_arr hc]
    show _ = Sum.inl (cA 1, am_n kd, Sum.inl _)
    congr 4
    funext m
    show (if m = x.toNatClampNeg then y else am_gI H kd j m) = am_gI (am_sI H kd j x.toNatClampNeg y) kd j m
    rw [am_gI_sI]
    simp) (fun b hb => am_sI_off hb)
  refine va_zast cx.1.1 cx.1.2.1 cx.2.2.2.2.1 wd.1 wd.2 S n0 1 h2 rfl hin hd (fun Hc1 locs1 hP1 hD1 hS1 => ?_)
  rw [hy2, hws] at hP1 hD1
  exact k Hc1 locs1 ⟨hP1, hD1⟩ hS1
theorem am_s_last {kd j : Nat} {x : Int32} {y : Int64} (hd : decode (am_b id) pc = .ok (.lastore, 1)) (hc : am_c kd = 20 + 2) (hin : vp_in x (am_n kd)) (h : am_FQ l sc id d (pc + 1) ls st (am_sL H kd j x.toNatClampNeg y) Q) : am_FQ l sc id d pc ls (.inr (.inl y) :: .inl x :: .inr (.inr (some (kd, j))) :: st) H Q := by
  refine am_step1 (H1 := am_sL H kd j x.toNatClampNeg y) rfl (fun ok _ => ok) (fun lv => am_lvs_tl3 rfl lv) (fun p e R s m args below meth c D cA base γ Hc locs cells slots lsC Q' cx ok lv wd S k => ?_) h
  obtain ⟨n0, h1, h2⟩ := am_ws_at (γ := γ) (cA := cA) (am_live lv (List.mem_cons_of_mem _ (List.mem_cons_of_mem _ List.mem_cons_self)) (am_n99 hc (by omega)))
  rw [am_e_arr hc] at h2
  have hws := am_ws_set (γ := γ) (cA := cA) (H1 := am_sL H kd j x.toNatClampNeg y) ok h1 rfl (e := .inl (cA 2, am_n kd, .inr (.inl (vp_updL (am_gL H kd j) x.toNatClampNeg y)))) (by
    rw [am_e_arr hc]
    show _ = Sum.inl (cA 2, am_n kd, Sum.inr (Sum.inl _))
    congr 5
    funext m
    show (if m = x.toNatClampNeg then y else am_gL H kd j m) = am_gL (am_sL H kd j x.toNatClampNeg y) kd j m
    rw [am_gL_sL]
    simp) (fun b hb => by
      refine am_e_cg (fun m => rfl) (fun m => ?_) (fun m => rfl)
      rw [am_gL_sL, if_neg]
      rintro ⟨q1, q2, -⟩
      exact hb (Prod.ext q1 q2))
  refine va_last cx.1.1 cx.1.2.1 cx.2.2.2.2.1 wd.1 wd.2 S n0 2 h2 rfl hin hd (fun Hc1 locs1 hP1 hD1 hS1 => ?_)
  rw [hws] at hP1 hD1
  exact k Hc1 locs1 ⟨hP1, hD1⟩ hS1
theorem am_s_aast {kd j t ci vk vj : Nat} {x : Int32} {r : vw_C} (hd : decode (am_b id) pc = .ok (.aastore, 1)) (hc : am_c kd = 20 + t) (ht : t < 10) (hcl : am_cl[ci]? = some r) (hvc : am_c vk = ci) (hci : ci < 20) (hty : ∀ cA, (am_tys cA)[t]? = some (cA t, .object r.1)) (hct : ∀ γ H k j, am_ct γ H k j t = .inr (.inr (.inr (.inr (fun i => (am_gR H k j i).map γ)))))
    (hin : vp_in x (am_n kd)) (h : am_FQ l sc id d (pc + 1) ls st (am_sR H kd j x.toNatClampNeg (some (vk, vj))) Q) : am_FQ l sc id d pc ls (.inr (.inr (some (vk, vj))) :: .inl x :: .inr (.inr (some (kd, j))) :: st) H Q := by
  have hk : kd ≠ 99 := am_n99 hc ht
  have hvk : vk ≠ 99 := by rintro rfl; rw [show am_c 99 = 99 from rfl] at hvc; omega
  refine am_step1 (H1 := am_sR H kd j x.toNatClampNeg (some (vk, vj))) rfl (fun ok lv => am_ok_sR ok fun b hb => ?_) (fun lv => am_lvs_tl3 rfl lv) (fun p e R s m args below meth c D cA base γ Hc locs cells slots lsC Q' cx ok lv wd S k => ?_) h
  · cases hb
    exact am_live lv List.mem_cons_self hvk
  · obtain ⟨n0, h1, h2⟩ := am_ws_at (γ := γ) (cA := cA) (am_live lv (List.mem_cons_of_mem _ (List.mem_cons_of_mem _ List.mem_cons_self)) hk)
    obtain ⟨n1, h3, h4⟩ := am_ws_at (γ := γ) (cA := cA) (am_live lv List.mem_cons_self hvk)
    rw [am_e_arr hc, hct] at h2
    rw [am_e_obj hvc hci] at h4
    have hws := am_ws_set (γ := γ) (cA := cA) (H1 := am_sR H kd j x.toNatClampNeg (some (vk, vj))) ok h1 rfl (e := .inl (cA t, am_n kd, .inr (.inr (.inr (.inr (va_up (fun i => (am_gR H kd j i).map γ) x.toNatClampNeg (some (γ (vk, vj))))))))) (by
      rw [am_e_arr hc, hct]
      congr 8
      funext m
      show (if m = x.toNatClampNeg then some (γ (vk, vj)) else (am_gR H kd j m).map γ) = (am_gR (am_sR H kd j x.toNatClampNeg (some (vk, vj))) kd j m).map γ
      rw [am_gR_sR]
      by_cases hm : m = x.toNatClampNeg
      · rw [if_pos hm, if_pos ⟨rfl, rfl, hm⟩]; rfl
      · rw [if_neg hm, if_neg (fun q => hm q.2.2)]) (fun b hb => by
        refine am_e_cg (fun m => rfl) (fun m => rfl) (fun m => ?_)
        rw [am_gR_sR, if_neg]
        rintro ⟨q1, q2, -⟩
        exact hb (Prod.ext q1 q2))
    refine va_astq cx.1.1 cx.1.2.1 cx.2.2.2.2.1 wd.1 wd.2 S n0 t n1 ci h2 (hty cA) h4 hcl hin hd (fun Hc1 locs1 hP1 hD1 hS1 => ?_)
    rw [hws] at hP1 hD1
    exact k Hc1 locs1 ⟨hP1, hD1⟩ hS1
/-! ===== the script ===== -/
theorem am_s_sld {x : Int32} (hlaw : id = am_law) (hd : decode (am_b id) pc = .ok (.iaload, 1)) (hin : vp_in x sc.1) (h : am_FQ l sc id d (pc + 1) ls (.inl (sc.2 x.toNatClampNeg) :: st) H Q) : am_FQ l sc id d pc ls (.inl x :: .inr (.inr (some (99, 0))) :: st) H Q := by
  refine am_step0 (fun ok hl => am_lvs_tl2 (w := .inl (sc.2 x.toNatClampNeg)) hl trivial) (fun p e R s m args below meth c D cA base γ Hc locs cells slots lsC Q' cx ok lv wd S hls k => ?_) h
  obtain ⟨hX, hb⟩ := cx.2.2.2.2.2.2.2 hlaw
  exact va_sld cx.1.1 cx.1.2.1 hX (Nat.lt_of_lt_of_le hb cx.2.2.2.2.2.1) (fun q => absurd hb (Nat.not_lt.mpr q)) S hin hd (k lsC hls)
theorem am_s_slen (hlaw : id = am_law) (hd : decode (am_b id) pc = .ok (.arraylength, 1)) (h : am_FQ l sc id d (pc + 1) ls (.inl (Int32.ofNat sc.1) :: st) H Q) : am_FQ l sc id d pc ls (.inr (.inr (some (99, 0))) :: st) H Q := by
  refine am_step0 (fun ok hl => am_lvs_int hl (fun v hv => ?_)) (fun p e R s m args below meth c D cA base γ Hc locs cells slots lsC Q' cx ok lv wd S hls k => ?_) h
  · rcases List.mem_cons.mp hv with rfl | q
    · exact Or.inl ⟨_, rfl⟩
    · exact Or.inr (Or.inr (List.mem_cons_of_mem _ q))
  · obtain ⟨hX, hb⟩ := cx.2.2.2.2.2.2.2 hlaw
    exact va_slen cx.1.1 cx.1.2.1 hX (Nat.lt_of_lt_of_le hb cx.2.2.2.2.2.1) (fun q => absurd hb (Nat.not_lt.mpr q)) S hd (k lsC hls)
end AMR
