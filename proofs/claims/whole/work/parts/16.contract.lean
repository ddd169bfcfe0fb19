/-! ===== a method's contract out of a walk of its body ===== -/
theorem am_en_at {as : List am_V} {i : Nat} {v : am_V} : (am_en as)[i]? = some (some v) → v ∈ as := by
  induction as generalizing i with
  | nil => intro h; simp [am_en] at h
  | cons w t ih =>
    intro h
    rcases w with x | x | o
    · cases i with
      | zero => simp [am_en] at h; rw [← h]; exact List.mem_cons_self
      | succ n => exact List.mem_cons_of_mem _ (ih (i := n) (by simpa [am_en] using h))
    · match i with
      | 0 => simp [am_en] at h; rw [← h]; exact List.mem_cons_self
      | 1 => simp [am_en] at h
      | n + 2 => exact List.mem_cons_of_mem _ (ih (i := n) (by simpa [am_en] using h))
    · cases i with
      | zero => simp [am_en] at h; rw [← h]; exact List.mem_cons_self
      | succ n => exact List.mem_cons_of_mem _ (ih (i := n) (by simpa [am_en] using h))
theorem am_ent_at {as : List am_V} {n i : Nat} {v : am_V} (h : (am_ent as n)[i]? = some (some v)) : v ∈ as ∧ (am_en as)[i]? = some (some v) := by
  unfold am_ent at h
  rw [List.getElem?_append] at h
  split at h
  · exact ⟨am_en_at h, h⟩
  · rw [List.getElem?_replicate] at h
    split at h <;> simp at h
theorem am_en_args {γ : am_A → Nat} {as : List am_V} : ∀ {i m : Nat} {v : am_V}, (am_en as)[i]? = some (some v) → (m + i, am_cv γ v) ∈ lv_args m (as.map (am_cv γ)) := by
  induction as with
  | nil => intro i m v h; simp [am_en] at h
  | cons w t ih =>
    intro i m v h
    rcases w with x | x | o
    · cases i with
      | zero => simp [am_en] at h; rw [← h]; exact List.mem_cons_self
      | succ n =>
        have h2 := ih (i := n) (m := m + 1) (v := v) (by simpa [am_en] using h)
        refine List.mem_cons_of_mem _ ?_
        rw [show m + (n + 1) = m + 1 + n by omega]
        exact h2
    · match i with
      | 0 => simp [am_en] at h; rw [← h]; exact List.mem_cons_self
      | 1 => simp [am_en] at h
      | n + 2 =>
        have h2 := ih (i := n) (m := m + 2) (v := v) (by simpa [am_en] using h)
        refine List.mem_cons_of_mem _ ?_
        rw [show m + (n + 2) = m + 2 + n by omega]
        exact h2
    · cases i with
      | zero => simp [am_en] at h; rw [← h]; exact List.mem_cons_self
      | succ n =>
        have h2 := ih (i := n) (m := m + 1) (v := v) (by simpa [am_en] using h)
        refine List.mem_cons_of_mem _ ?_
        rw [show m + (n + 1) = m + 1 + n by omega]
        cases o <;> exact h2
theorem am_en_len {γ : am_A → Nat} {as : List am_V} : (lg_sl (as.map (am_cv γ))).length = (am_en as).length := by
  induction as with
  | nil => rfl
  | cons w t ih =>
    have e : lg_sl ((w :: t).map (am_cv γ)) = (if (am_cv γ w).category = 2 then [.val (am_cv γ w), .second] else [.val (am_cv γ w)]) ++ lg_sl (t.map (am_cv γ)) := rfl
    rw [e, List.length_append, ih]
    rcases w with x | x | o
    · simp [am_en, am_cv, Value.category]; omega
    · simp [am_en, am_cv, Value.category]; omega
    · cases o <;> simp [am_en, am_cv, va_rf, Value.category] <;> omega
theorem am_XQ_of {l : Launch} {id d : Nat} {as : List am_V} {H : am_H} {Q : Option am_V → am_H → Prop} (hid : id < am_law) (hfit : (am_en as).length ≤ am_nL id) (h : am_FQ l (0, fun _ => 0) id d 0 (am_ent as (am_nL id)) [] H Q) : am_XQ l id d as H Q := by
  obtain ⟨r, H', hq, he, hc, hw⟩ := h
  have hlv : (∀ v ∈ as, am_lV H v) → am_lvs H (am_ent as (am_nL id)) [] := fun h => ⟨fun i v hv => h v (am_ent_at hv).1, fun v hv => by cases hv⟩
  refine ⟨r, H', hq, he, fun ok lv => hc ok (hlv lv), fun D cA base γ d' hdd ok lv => ?_⟩
  refine Met.ofW (cc := am_b id) (maxL := am_nL id) (ret := am_rt id) (am_hdOk hid).2.2.1 rfl ?_
  intro p e s m args below meth c s₁ B hml hv
  obtain ⟨rfl, hbase, hwd, hK, hnb⟩ := hv
  have hts0 : ∀ w ∈ am_wds id, w.before (as.map (am_cv γ)).toArray s = true := atoms_spec (ws := am_wds id) B.pre
  have hts : ∀ w ∈ lw_gt, w.before (as.map (am_cv γ)).toArray s = true := fun w hw => hts0 w (List.mem_cons_of_mem _ hw)
  have hown : s.vm.findClass (am_y id).cls = some m.cls := findClass_of_methodNamed B.named
  have hlocks := B.notSynchronized
  have hnm : meth.name = (am_y id).name := (name_of_methodNamed B.named B.method).1
  have hr := B.returns
  have hx := B.exec
  have hb := B.bytes
  have cx : am_cx (0, fun _ => 0) id d p (am_rm d' (am_dC H H') (am_dS H H')) s m (as.map (am_cv γ)).toArray meth c D cA base γ :=
    ⟨⟨hx, hb, hml, hown⟩, hts, hnb, fun q => hnm.trans q, hK, hbase, ⟨hdd, (show 40 * d + 40 ≤ 40 * d' + 40 by omega)⟩, fun q => absurd q (by omega)⟩
  have hl := lv_entry (as.map (am_cv γ)) (n := am_nL id) (by rw [am_en_len]; exact hfit)
  rw [lg_entry_eq]
  generalize (lg_sl (as.map (am_cv γ)) ++ List.replicate (am_nL id - (lg_sl (as.map (am_cv γ))).length) Slot.unset).toArray = lsC at hl ⊢
  have hls : am_ls γ (am_ent as (am_nL id)) lsC (am_nL id) := am_ls_of hl fun i v hv => by
    have h := am_en_args (γ := γ) (m := 0) (am_ent_at hv).2
    rwa [Nat.zero_add] at h
  have key := hw p e (am_rm d' (am_dC H H') (am_dS H H')) s m (as.map (am_cv γ)).toArray below meth c D cA base γ s.heap [] 0 0 lsC (MQ below (am_Qc D cA base γ H r H') (as.map (am_cv γ)).toArray s (am_dC H H') (am_dS H H') (am_B base)) cx ok (hlv lv) hwd va_S.rf hls (by rw [Nat.zero_add]; exact Nat.le_refl _) (by rw [Nat.zero_add]; exact Nat.le_refl _)
  refine key ?_
  intro γ' Hc' locs' pc' lsC' hg hwd' hS' hrk
  rw [Nat.zero_add, Nat.zero_add]
  match r, hrk with
  | none, hrk =>
    exact W.vret hx hb (hr.trans hrk.2) (fun t ht hW => ⟨γ', hg, rfl, by rw [ht]; exact hwd', va_S.F hS' ht⟩) hS'.2.2 hrk.1 hlocks
  | some (.inl x), hrk =>
    rcases hrk.2 with q | ⟨q, q2⟩
    · exact W.iret hx hb (hr.trans q) (fun t ht hW => ⟨γ', hg, rfl, by rw [ht]; exact hwd', va_S.F hS' ht⟩) hS'.2.2 hrk.1 hlocks
    · exact W.zret hx hb (hr.trans q) (by rcases q2 with rfl | rfl <;> rfl) (fun t ht hW => ⟨γ', hg, rfl, by rw [ht]; exact hwd', va_S.F hS' ht⟩) hS'.2.2 hrk.1 hlocks
  | some (.inr (.inl x)), hrk =>
    exact W.lret hx hb (hr.trans hrk.2) (fun t ht hW => ⟨γ', hg, rfl, by rw [ht]; exact hwd', va_S.F hS' ht⟩) hS'.2.2 hrk.1 hlocks
  | some (.inr (.inr o)), hrk =>
    obtain ⟨n, hn⟩ := hrk.2
    refine W.aret hx hb (hr.trans hn) (Or.inl ⟨n, rfl⟩) ?_ (fun t ht hW => ⟨γ', hg, rfl, by rw [ht]; exact hwd', va_S.F hS' ht⟩) hS'.2.2 hrk.1 hlocks
    cases o with
    | none => exact Or.inl rfl
    | some a => exact Or.inr ⟨γ' a, rfl⟩
/-- the whole body in one go -/
theorem am_X {l : Launch} {id g d n : Nat} {labs : List (Nat × List Nat)} {as : List am_V} {H : am_H} {Q : Option am_V → am_H → Prop} (hid : id < am_law) (hfit : (am_en as).length ≤ am_nL id) (h : am_wp l (0, fun _ => 0) id g d labs Q n 0 (am_ent as (am_nL id)) [] H) : am_XQ l id d as H Q := am_XQ_of hid hfit (am_wp_ok h)
theorem am_AX_eq {l : Launch} {id d : Nat} {as : List am_V} {H H' : am_H} {r : Option am_V} (h : am_XQ l id d as H (fun r' H'' => r' = r ∧ H'' = H')) : am_AX l id d as H r H' := by
  obtain ⟨r', H'', ⟨rfl, rfl⟩, h⟩ := h
  exact h
theorem am_FQ_mono {l : Launch} {sc : am_SC} {id d pc : Nat} {ls : am_LS} {st : List am_V} {H : am_H} {Q Q' : Option am_V → am_H → Prop} (h : am_FQ l sc id d pc ls st H Q) (hq : ∀ r H', Q r H' → Q' r H') : am_FQ l sc id d pc ls st H Q' := by
  obtain ⟨r, H', h1, h2⟩ := h
  exact ⟨r, H', hq _ _ h1, h2⟩
theorem am_XQ_mono {l : Launch} {id d : Nat} {as : List am_V} {H : am_H} {Q Q' : Option am_V → am_H → Prop} (h : am_XQ l id d as H Q) (hq : ∀ r H', Q r H' → Q' r H') : am_XQ l id d as H Q' := by
  obtain ⟨r, H', h1, h2⟩ := h
  exact ⟨r, H', hq _ _ h1, h2⟩
theorem am_AX_dle {l : Launch} {id d d2 : Nat} {as : List am_V} {H H' : am_H} {r : Option am_V} (h : am_AX l id d as H r H') (hd : d ≤ d2) : am_AX l id d2 as H r H' := ⟨h.1, h.2.1, fun D cA base γ d' hdd => h.2.2 D cA base γ d' (Nat.le_trans hd hdd)⟩
/-- a call whose callee's contract is known -/
theorem am_cal_of {l : Launch} {d d' a : Nat} {as : List am_V} {H H1 : am_H} {k : Nat → am_LS → List am_V → am_H → Prop} {nx : Nat} {ls : am_LS} {r : List am_V} {r1 : Option am_V} (h : am_AX l a d' as H r1 H1) (hd : d' < d) (hk : k nx ls (r1.toList ++ r) H1) : am_cal l d a as H k nx ls r := ⟨d', hd, r1, H1, h, hk⟩
theorem am_cal_q {l : Launch} {d d' a : Nat} {as : List am_V} {H : am_H} {Q : Option am_V → am_H → Prop} {k : Nat → am_LS → List am_V → am_H → Prop} {nx : Nat} {ls : am_LS} {r : List am_V} (h : am_XQ l a d' as H Q) (hd : d' < d) (hk : ∀ r1 H1, Q r1 H1 → k nx ls (r1.toList ++ r) H1) : am_cal l d a as H k nx ls r := by
  obtain ⟨r1, H1, hq, hA⟩ := h
  exact ⟨d', hd, r1, H1, hA, hk _ _ hq⟩
