/-! ===== the machine's context, a frame's and a method's contract ===== -/
def am_nb (s : State) : Prop := (∀ x ∈ am_nests, va_Nw (.methodLinkNest x.1 x.2.1 x.2.2 "WishTrees") s) ∧ va_AO "WishTrees$Tree" s ∧ va_AO "WishTrees$Creature" s
theorem am_nb_warm {s U : State} (hW : s.WarmedH U.vm) (h : am_nb s) : am_nb U := ⟨fun x hx => va_Nw.warmM hW (h.1 x hx), h.2.1.moved hW.alike, h.2.2.moved hW.alike⟩
theorem am_nb_call {U : State} {g : JFrame} {mk : MethodId} {a : Array Value} (h : am_nb U) : am_nb (U.calling g mk a) := ⟨fun x hx => va_Nw.same rfl rfl (h.1 x hx), h.2.1.moved (Vm.Alike.refl U.vm), h.2.2.moved (Vm.Alike.refl U.vm)⟩
def am_cx (sc : am_SC) (id d : Nat) (p : Program) (R : Room) (s : State) (m : MethodId) (args : Array Value) (meth : Method) (c : Code) (D : va_G) (cA : Nat → ClassId) (base : Nat) (γ : am_A → Nat) : Prop :=
  (p.tables.exec = Jvm.exec ∧ c.code = am_b id ∧ c.maxLocals = am_nL id ∧ s.vm.findClass (am_y id).cls = some m.cls) ∧ (∀ w ∈ lw_gt, w.before args s = true) ∧ am_nb s ∧ ((am_y id).name = "<init>" → meth.name = "<init>") ∧ va_K D am_cl (am_tys cA) s ∧ base ≤ s.heap.size ∧ (d ≤ R.frames ∧ 40 * d + 40 ≤ R.locals) ∧ (id = am_law → va_X (γ (99, 0)) sc.1 sc.2 s s.heap ∧ γ (99, 0) < base)
def am_bool (x : Int32) : Prop := x = 0 ∨ x = 1
def am_rk (id pc : Nat) (r : Option am_V) : Prop := match r with
  | none => decode (am_b id) pc = .ok (.return_, 1) ∧ am_rt id = none
  | some (.inl x) => decode (am_b id) pc = .ok (.ireturn, 1) ∧ (am_rt id = some .int ∨ am_rt id = some .boolean ∧ am_bool x)
  | some (.inr (.inl _)) => decode (am_b id) pc = .ok (.lreturn, 1) ∧ am_rt id = some .long
  | some (.inr (.inr _)) => decode (am_b id) pc = .ok (.areturn, 1) ∧ ∃ n, am_rt id = some (.object n)
def am_WW (l : Launch) (sc : am_SC) (id d pc : Nat) (ls : am_LS) (st : List am_V) (H : am_H) (r : Option am_V) (H' : am_H) : Prop :=
  ∀ (p : Program) (e : Env) (R : Room) (s : State) (m : MethodId) (args : Array Value) (below : List Frame) (meth : Method) (c : Code) (D : va_G) (cA : Nat → ClassId) (base : Nat) (γ : am_A → Nat) (Hc : Heap) (locs : List Loc) (cells slots : Nat) (lsC : Array Slot) (Q : State → Prop),
   am_cx sc id d p R s m args meth c D cA base γ → am_ok H → am_lvs H ls st → am_wd D cA base γ H Hc → va_S (am_B base) s.heap Hc locs → am_ls γ ls lsC (am_nL id) → cells + am_dC H H' ≤ R.cells → slots + am_dS H H' ≤ R.slots →
   (∀ (γ' : am_A → Nat) (Hc' : Heap) (locs' : List Loc) (pc' : Nat) (lsC' : Array Slot), am_ag γ γ' H → am_wd D cA base γ' H' Hc' → va_S (am_B base) s.heap Hc' locs' → am_rk id pc' r → W p l e R s m args below meth c Hc' locs' (cells + am_dC H H') (slots + am_dS H H') Q (F0 m pc' lsC' (r.toList.map (am_cv γ')))) →
   W p l e R s m args below meth c Hc locs cells slots Q (F0 m pc lsC (st.map (am_cv γ)))
def am_AF (l : Launch) (sc : am_SC) (id d pc : Nat) (ls : am_LS) (st : List am_V) (H : am_H) (r : Option am_V) (H' : am_H) : Prop :=
  am_ext H H' ∧ (am_ok H → am_lvs H ls st → am_ok H' ∧ ∀ v, r = some v → am_lV H' v) ∧ am_WW l sc id d pc ls st H r H'
/-- from this point of the method it returns with an answer and a heap as Q says -/
def am_FQ (l : Launch) (sc : am_SC) (id d pc : Nat) (ls : am_LS) (st : List am_V) (H : am_H) (Q : Option am_V → am_H → Prop) : Prop := ∃ r H', Q r H' ∧ am_AF l sc id d pc ls st H r H'
def am_rm (d mc ms : Nat) : Room := { frames := d, cells := mc, slots := ms, locals := 40 * d + 40 }
def am_wds (id : Nat) : List Cond := .code (am_y id) (am_b id) (am_nL id) (am_rt id) :: lw_gt
def am_Bp (D : va_G) (cA : Nat → ClassId) (base : Nat) (γ : am_A → Nat) (H : am_H) : State → Prop := fun U => base ≤ U.heap.size ∧ am_wd D cA base γ H U.heap ∧ va_K D am_cl (am_tys cA) U ∧ am_nb U
def am_Qc (D : va_G) (cA : Nat → ClassId) (base : Nat) (γ : am_A → Nat) (H : am_H) (r : Option am_V) (H' : am_H) : Array Value → State → Outcome → State → Prop := fun _ st o t => ∃ γ', am_ag γ γ' H ∧ o = .returned (r.map (am_cv γ')) ∧ am_wd D cA base γ' H' t.heap ∧ va_F (am_B base) st t
/-- the method, called so, returns r and leaves H' -/
def am_AX (l : Launch) (id d : Nat) (as : List am_V) (H : am_H) (r : Option am_V) (H' : am_H) : Prop :=
  am_ext H H' ∧ (am_ok H → (∀ v ∈ as, am_lV H v) → am_ok H' ∧ ∀ v, r = some v → am_lV H' v) ∧
  ∀ (D : va_G) (cA : Nat → ClassId) (base : Nat) (γ : am_A → Nat) (d' : Nat), d ≤ d' → am_ok H → (∀ v ∈ as, am_lV H v) →
   Met l (am_y id) (am_wds id) (am_rm d' (am_dC H H') (am_dS H H')) (va_Pc (as.map (am_cv γ)) (am_Bp D cA base γ H)) (am_Qc D cA base γ H r H') (am_dC H H') (am_dS H H') (am_B base)
def am_XQ (l : Launch) (id d : Nat) (as : List am_V) (H : am_H) (Q : Option am_V → am_H → Prop) : Prop := ∃ r H', Q r H' ∧ am_AX l id d as H r H'
/-! ===== steps ===== -/
section AMS
variable {l : Launch} {sc : am_SC} {id d pc pc' : Nat} {ls ls' : am_LS} {st st' : List am_V} {H H1 : am_H} {Q : Option am_V → am_H → Prop}
theorem am_step0 (hlv : am_ok H → am_lvs H ls st → am_lvs H ls' st')
    (hW : ∀ (p : Program) (e : Env) (R : Room) (s : State) (m : MethodId) (args : Array Value) (below : List Frame) (meth : Method) (c : Code) (D : va_G) (cA : Nat → ClassId) (base : Nat) (γ : am_A → Nat) (Hc : Heap) (locs : List Loc) (cells slots : Nat) (lsC : Array Slot) (Q : State → Prop),
      am_cx sc id d p R s m args meth c D cA base γ → am_ok H → am_lvs H ls st → am_wd D cA base γ H Hc → va_S (am_B base) s.heap Hc locs → am_ls γ ls lsC (am_nL id) →
      (∀ lsC', am_ls γ ls' lsC' (am_nL id) → W p l e R s m args below meth c Hc locs cells slots Q (F0 m pc' lsC' (st'.map (am_cv γ)))) →
      W p l e R s m args below meth c Hc locs cells slots Q (F0 m pc lsC (st.map (am_cv γ))))
    (h : am_FQ l sc id d pc' ls' st' H Q) : am_FQ l sc id d pc ls st H Q := by
  obtain ⟨r, H', hq, he, hc, hw⟩ := h
  exact ⟨r, H', hq, he, fun ok lv => hc ok (hlv ok lv), fun p e R s m args below meth c D cA base γ Hc locs cells slots lsC Q' cx ok lv wd S hl c1 c2 ex =>
    hW p e R s m args below meth c D cA base γ Hc locs cells slots lsC Q' cx ok lv wd S hl (fun lsC' h' => hw p e R s m args below meth c D cA base γ Hc locs cells slots lsC' Q' cx ok (hlv ok lv) wd S h' c1 c2 ex)⟩
theorem am_step1 (hl1 : am_lv H1 = am_lv H) (hok : am_ok H → am_lvs H ls st → am_ok H1) (hlv : am_lvs H ls st → am_lvs H1 ls st')
    (hW : ∀ (p : Program) (e : Env) (R : Room) (s : State) (m : MethodId) (args : Array Value) (below : List Frame) (meth : Method) (c : Code) (D : va_G) (cA : Nat → ClassId) (base : Nat) (γ : am_A → Nat) (Hc : Heap) (locs : List Loc) (cells slots : Nat) (lsC : Array Slot) (Q : State → Prop),
      am_cx sc id d p R s m args meth c D cA base γ → am_ok H → am_lvs H ls st → am_wd D cA base γ H Hc → va_S (am_B base) s.heap Hc locs →
      (∀ (Hc1 : Heap) (locs1 : List Loc), am_wd D cA base γ H1 Hc1 → va_S (am_B base) s.heap Hc1 locs1 → W p l e R s m args below meth c Hc1 locs1 cells slots Q (F0 m pc' lsC (st'.map (am_cv γ)))) →
      W p l e R s m args below meth c Hc locs cells slots Q (F0 m pc lsC (st.map (am_cv γ))))
    (h : am_FQ l sc id d pc' ls st' H1 Q) : am_FQ l sc id d pc ls st H Q := by
  obtain ⟨r, H', hq, he, hc, hw⟩ := h
  have he' : am_ext H H' := am_ext_tr ⟨[], by simp [hl1]⟩ he
  refine ⟨r, H', hq, he', fun ok lv => hc (hok ok lv) (hlv lv), fun p e R s m args below meth c D cA base γ Hc locs cells slots lsC Q' cx ok lv wd S hl c1 c2 ex => ?_⟩
  rw [← am_dC_l hl1] at c1 ex
  rw [← am_dS_l hl1] at c2 ex
  exact hW p e R s m args below meth c D cA base γ Hc locs cells slots lsC Q' cx ok lv wd S (fun Hc1 locs1 h1 h2 => hw p e R s m args below meth c D cA base γ Hc1 locs1 cells slots lsC Q' cx (hok ok lv) (hlv lv) h1 h2 hl c1 c2 (fun γ' Hc' locs' pc' lsC' hg => ex γ' Hc' locs' pc' lsC' (am_ag_l hl1 hg)))
/-- words -/
theorem am_gt {q : Nat} {w : Cond} (h : lw_tbl[q]? = some w) (hg : goodWord w = true) : w ∈ lw_gt := List.mem_filter.mpr ⟨List.mem_of_getElem? h, hg⟩
theorem am_goodIn : GoodIn lw_gt lw_gt := fun w hw => ⟨hw, good_of_word (List.mem_filter.mp hw).2⟩
/-- where a live cell stands -/
theorem am_ws_at {γ : am_A → Nat} {cA : Nat → ClassId} {H : am_H} {a : am_A} (ha : a ∈ am_lv H) : ∃ n : Nat, (am_lv H)[n]? = some a ∧ (am_ws γ cA H)[n]? = some (γ a, am_e γ cA H a) := by
  obtain ⟨n, hn⟩ := List.getElem?_of_mem ha
  exact ⟨n, hn, by unfold am_ws; rw [List.getElem?_map, hn]; rfl⟩
theorem am_ws_set {γ : am_A → Nat} {cA : Nat → ClassId} {H H1 : am_H} {a : am_A} {n : Nat} {e : va_E} (hok : am_ok H) (hn : (am_lv H)[n]? = some a) (hl : am_lv H1 = am_lv H) (he : e = am_e γ cA H1 a) (ho : ∀ b, b ≠ a → am_e γ cA H1 b = am_e γ cA H b) : (am_ws γ cA H).set n (γ a, e) = am_ws γ cA H1 := by
  subst he
  apply List.ext_getElem?
  intro i
  unfold am_ws
  rw [List.getElem?_set, List.getElem?_map, List.getElem?_map, hl]
  have hlt : n < (am_lv H).length := (List.getElem?_eq_some_iff.mp hn).1
  by_cases hi : n = i
  · subst hi
    rw [if_pos rfl, if_pos (by rw [List.length_map]; exact hlt), hn]
    rfl
  · rw [if_neg hi]
    cases hb : (am_lv H)[i]? with
    | none => rfl
    | some b =>
      have hne : b ≠ a := by
        intro q
        subst q
        exact hi ((List.getElem?_inj hlt hok.1).mp (hn.trans hb.symm))
      show some (γ b, am_e γ cA H b) = some (γ b, am_e γ cA H1 b)
      rw [ho b hne]
theorem am_e_obj {γ : am_A → Nat} {cA : Nat → ClassId} {H : am_H} {a : am_A} {ci : Nat} (hc : am_c a.1 = ci) (hci : ci < 20) : am_e γ cA H a = .inr (ci, am_fs γ H a.1 a.2 (am_tl ci)) := by
  unfold am_e
  rw [hc, if_pos hci]
theorem am_e_arr {γ : am_A → Nat} {cA : Nat → ClassId} {H : am_H} {a : am_A} {t : Nat} (hc : am_c a.1 = 20 + t) : am_e γ cA H a = .inl (cA t, am_n a.1, am_ct γ H a.1 a.2 t) := by
  unfold am_e
  have h : ¬ 20 + t < 20 := by omega
  have h2 : 20 + t - 20 = t := by omega
  rw [hc, if_neg h, h2]
theorem am_fs_at {γ : am_A → Nat} {H : am_H} {k j i t : Nat} {tl : List Nat} (h : tl[i]? = some t) : (am_fs γ H k j tl)[i]? = some (am_fv γ H k j i t) := by
  unfold am_fs
  rw [List.getElem?_mapIdx, h]
  rfl
theorem am_lvs_int {H : am_H} {ls : am_LS} {st st' : List am_V} (h : am_lvs H ls st) (hs : ∀ v ∈ st', (∃ x, v = .inl x) ∨ (∃ x, v = .inr (.inl x)) ∨ v ∈ st) : am_lvs H ls st' := by
  refine ⟨h.1, fun v hv => ?_⟩
  rcases hs v hv with ⟨x, rfl⟩ | ⟨x, rfl⟩ | q
  · trivial
  · trivial
  · exact h.2 v q
end AMS
