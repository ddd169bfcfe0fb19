/-! ===== the machine is right ===== -/
section AMZ
variable {l : Launch} {sc : am_SC} {id g d pc : Nat} {Q : Option am_V → am_H → Prop} {k : Nat → am_LS → List am_V → am_H → Prop} {ls : am_LS} {st : List am_V} {H : am_H}
theorem am_pI_i {f : Int32 → List am_V → Prop} (h : am_pI st f) : ∃ x r, st = .inl x :: r ∧ f x r := by
  match st, h with
  | .inl x :: r, h => exact ⟨x, r, rfl, h⟩
  | .inr _ :: _, h => exact h.elim
  | [], h => exact h.elim
theorem am_pL_i {f : Int64 → List am_V → Prop} (h : am_pL st f) : ∃ x r, st = .inr (.inl x) :: r ∧ f x r := by
  match st, h with
  | .inr (.inl x) :: r, h => exact ⟨x, r, rfl, h⟩
  | .inl _ :: _, h => exact h.elim
  | .inr (.inr _) :: _, h => exact h.elim
  | [], h => exact h.elim
theorem am_pR_i {f : Option am_A → List am_V → Prop} (h : am_pR st f) : ∃ x r, st = .inr (.inr x) :: r ∧ f x r := by
  match st, h with
  | .inr (.inr x) :: r, h => exact ⟨x, r, rfl, h⟩
  | .inl _ :: _, h => exact h.elim
  | .inr (.inl _) :: _, h => exact h.elim
  | [], h => exact h.elim
theorem am_pA_i {f : Nat → Nat → List am_V → Prop} (h : am_pA st f) : ∃ kd j r, st = .inr (.inr (some (kd, j))) :: r ∧ f kd j r := by
  match st, h with
  | .inr (.inr (some (kd, j))) :: r, h => exact ⟨kd, j, r, rfl, h⟩
  | .inr (.inr none) :: _, h => exact h.elim
  | .inl _ :: _, h => exact h.elim
  | .inr (.inl _) :: _, h => exact h.elim
  | [], h => exact h.elim
theorem am_pV_i {f : am_V → List am_V → Prop} (h : am_pV st f) : ∃ v r, st = v :: r ∧ (∀ x, v ≠ .inr (.inl x)) ∧ f v r := by
  match st, h with
  | .inl x :: r, h => exact ⟨_, r, rfl, fun y q => (by cases q), h⟩
  | .inr (.inr x) :: r, h => exact ⟨_, r, rfl, fun y q => (by cases q), h⟩
  | .inr (.inl _) :: _, h => exact h.elim
  | [], h => exact h.elim
theorem am_pN_i {f : List am_V → List am_V → Prop} : ∀ {n : Nat} {st acc : List am_V}, am_pN n st acc f → ∃ as r, st = as.reverse ++ r ∧ as.length = n ∧ f (as ++ acc) r := by
  intro n
  induction n with
  | zero =>
    intro st acc h
    rw [am_pN_0] at h
    exact ⟨[], st, rfl, rfl, h⟩
  | succ n ih =>
    intro st acc h
    cases st with
    | nil =>
      unfold am_pN at h
      exact h.elim
    | cons v t =>
      rw [am_pN_s] at h
      obtain ⟨as, r, e1, e2, e3⟩ := ih h
      refine ⟨as ++ [v], r, ?_, ?_, ?_⟩
      · rw [e1, List.reverse_append]; rfl
      · rw [List.length_append, e2]; rfl
      · rw [List.append_assoc]; exact e3
theorem am_ldI_i {a : Nat} {f : Int32 → Prop} (h : am_ldI ls a f) : ∃ x, ls[a]? = some (some (.inl x)) ∧ f x := by
  unfold am_ldI at h
  split at h
  · rename_i x hx
    exact ⟨x, hx, h⟩
  · exact h.elim
theorem am_ldL_i {a : Nat} {f : Int64 → Prop} (h : am_ldL ls a f) : ∃ x, ls[a]? = some (some (.inr (.inl x))) ∧ f x := by
  unfold am_ldL at h
  split at h
  · rename_i x hx
    exact ⟨x, hx, h⟩
  · exact h.elim
theorem am_ldR_i {a : Nat} {f : Option am_A → Prop} (h : am_ldR ls a f) : ∃ x, ls[a]? = some (some (.inr (.inr x))) ∧ f x := by
  unfold am_ldR at h
  split at h
  · rename_i x hx
    exact ⟨x, hx, h⟩
  · exact h.elim
theorem am_wqI {q : Nat} {w : Cond} (h : am_wq q w = true) : w ∈ lw_gt := by
  unfold am_wq at h
  simp only [Bool.and_eq_true, decide_eq_true_eq] at h
  exact am_gt h.1 h.2
theorem am_fdI {ci i t q n : Nat} (h : am_fdB id ci i t q n = true) : ∃ r, am_cl[ci]? = some r ∧ i < r.2.2 ∧ ci < 20 ∧ (am_tl ci)[i]? = some t ∧ Cond.fieldLink (am_y id).cls n (r.2.1 i).1 (r.2.1 i).2.1 (r.2.1 i).2.2.1 ∈ lw_gt := by
  unfold am_fdB at h
  split at h
  · rename_i r hr
    simp only [Bool.and_eq_true, decide_eq_true_eq] at h
    exact ⟨r, hr, h.1.1.1, h.1.1.2, h.1.2, am_wqI h.2⟩
  · cases h
theorem am_ptI {ci i t : Nat} {r : vw_C} (hr : am_cl[ci]? = some r) (h : am_ptB id ci i t = true) : ((r.2.1 i).2.2.2 = false ∨ (r.2.1 i).2.2.2 = true ∧ (am_y id).name = "<init>" ∧ (r.2.1 i).1 = (am_y id).cls) ∧ am_ftB t (parseFieldDescriptor (r.2.1 i).2.2.1) = true := by
  unfold am_ptB at h
  rw [hr] at h
  simp only [Bool.and_eq_true, Bool.or_eq_true, decide_eq_true_eq, Bool.not_eq_true'] at h
  refine ⟨?_, h.2⟩
  rcases h.1 with h1 | h1
  · exact Or.inl h1
  · cases hf : (r.2.1 i).2.2.2 with
    | false => exact Or.inl rfl
    | true => exact Or.inr ⟨rfl, h1⟩
theorem am_sw_i {x : Int32} {f : Nat → Prop} {e : Prop} : ∀ {ts : List Nat} {lo : Int}, 0 ≤ lo → lo + ts.length ≤ 1000 → am_sw x lo ts f e → (∃ (m t : Nat), ts[m]? = some t ∧ x.toInt = lo + m ∧ f t) ∨ ((x.toInt < lo ∨ lo + ts.length ≤ x.toInt) ∧ e) := by
  intro ts
  induction ts with
  | nil =>
    intro lo h0 h1 h
    rw [am_sw_n] at h
    refine Or.inr ⟨?_, h⟩
    simp only [List.length_nil]
    omega
  | cons t ts ih =>
    intro lo h0 h1 h
    rw [am_sw_c] at h
    simp only [List.length_cons] at h1
    have hlo : (Int32.ofInt lo).toInt = lo := by
      rw [Int32.toInt_ofInt_of_le] <;> omega
    by_cases hx : x = Int32.ofInt lo
    · refine Or.inl ⟨0, t, rfl, ?_, h.1 hx⟩
      rw [hx, hlo]
      simp
    · have hne : x.toInt ≠ lo := fun q => hx (Int32.toInt_inj.mp (by rw [hlo, q]))
      rcases ih (by omega) (by omega) (h.2 hx) with ⟨m, t', e1, e2, e3⟩ | ⟨e1, e2⟩
      · exact Or.inl ⟨m + 1, t', e1, by rw [e2]; push_cast; omega, e3⟩
      · refine Or.inr ⟨?_, e2⟩
        simp only [List.length_cons]
        omega
theorem am_lk_i {x : Int32} {f : Nat → Prop} {e : Prop} {pc : Nat} {dflt : Int} {a : Nat} (ha : (pc : Int) + dflt = (a : Int)) : ∀ {ps : List (Int × Int)} {ts : List Nat}, (∀ q ∈ ps, 0 ≤ q.1 ∧ q.1 < 1000) → ps.map (fun o => (pc : Int) + o.2) = ts.map (fun t : Nat => (t : Int)) → am_lk x (ps.map (fun q => q.1)) ts f e → (∃ t : Nat, (pc : Int) + Op.lookupswitch.offset ps dflt x.toInt = (t : Int) ∧ f t) ∨ ((pc : Int) + Op.lookupswitch.offset ps dflt x.toInt = (a : Int) ∧ e) := by
  intro ps
  induction ps with
  | nil =>
    intro ts h1 h2 h
    rw [List.map_nil, am_lk_n] at h
    exact Or.inr ⟨ha, h⟩
  | cons q ps ih =>
    intro ts h1 h2 h
    cases ts with
    | nil => cases h2
    | cons t ts =>
      rw [List.map_cons, am_lk_c] at h
      simp only [List.map_cons, List.cons.injEq] at h2
      have hq := h1 q List.mem_cons_self
      have hlo : (Int32.ofInt q.1).toInt = q.1 := by
        rw [Int32.toInt_ofInt_of_le] <;> omega
      by_cases hx : x = Int32.ofInt q.1
      · refine Or.inl ⟨t, ?_, h.1 hx⟩
        have hxx : x.toInt = q.1 := by rw [hx, hlo]
        rw [hxx, ← h2.1]
        congr 1
        obtain ⟨q1, q2⟩ := q
        rw [Op.lookupswitch.offset_cons, if_pos rfl]
      · have hne : x.toInt ≠ q.1 := fun z => hx (Int32.toInt_inj.mp (by rw [hlo, z]))
        have e0 : Op.lookupswitch.offset (q :: ps) dflt x.toInt = Op.lookupswitch.offset ps dflt x.toInt := by
          obtain ⟨q1, q2⟩ := q
          rw [Op.lookupswitch.offset_cons, if_neg (fun z => hne z.symm)]
        rw [e0]
        exact ih (fun q' hq' => h1 q' (List.mem_cons_of_mem _ hq')) h2.2 (h.2 hx)
theorem am_ldI_st {a : Nat} {st' : List am_V} {v : am_V} (hv : ls[a]? = some (some v)) : ls[a]? = some (some v) := hv
theorem am_ft0 {f : Option FieldType} (h : am_ftB 0 f = true) : f = some .int := by
  cases f with
  | none => cases h
  | some t => cases t <;> first | rfl | cases h
theorem am_ft1 {f : Option FieldType} (h : am_ftB 1 f = true) : f = some .boolean := by
  cases f with
  | none => cases h
  | some t => cases t <;> first | rfl | cases h
theorem am_ft3 {f : Option FieldType} (h : am_ftB 3 f = true) : ∃ ty, f = some ty ∧ ((∃ n, ty = .object n) ∨ ∃ u, ty = .array u) := by
  cases f with
  | none => cases h
  | some t => cases t <;> first | exact ⟨_, rfl, Or.inl ⟨_, rfl⟩⟩ | exact ⟨_, rfl, Or.inr ⟨_, rfl⟩⟩ | cases h
theorem am_go_ok {ins : Instr} {nx a : Nat} {qs : List Nat} (hx : am_okB id (pc, ins, nx, a, qs) = true) (hk : ∀ pc ls st H, k pc ls st H → am_FQ l sc id d pc ls st H Q) (h : am_go l sc id g d Q k ins nx a qs ls st H) : am_FQ l sc id d pc ls st H Q := by
  unfold am_okB at hx
  simp only [Bool.and_eq_true, decide_eq_true_eq] at hx
  obtain ⟨⟨hd, hn⟩, hs⟩ := hx
  cases ins
  case aconst_null => exact am_s_null hd (hk _ _ _ _ (by have hn2 : nx = pc + 1 := hn; subst hn2; exact h))
  case iconst n => exact am_s_iconst hd (of_decide_eq_true hs) (hk _ _ _ _ (by have hn2 : nx = pc + 1 := hn; subst hn2; exact h))
  case bipush n => exact am_s_bipush hd (of_decide_eq_true hs) (hk _ _ _ _ (by have hn2 : nx = pc + 2 := hn; subst hn2; exact h))
  case sipush n => exact am_s_sipush hd (of_decide_eq_true hs) (hk _ _ _ _ (by have hn2 : nx = pc + 3 := hn; subst hn2; exact h))
  case ldc n => exact am_s_ldc hd (am_wqI hs) (hk _ _ _ _ (by have hn2 : nx = pc + 2 := hn; subst hn2; exact h))
  case ldc2_w n => exact am_s_ldc2 hd (am_wqI hs) (hk _ _ _ _ (by have hn2 : nx = pc + 3 := hn; subst hn2; exact h))
  case lconst n => exact am_s_lconst hd (of_decide_eq_true hs) (hk _ _ _ _ (by have hn2 : nx = pc + 1 := hn; subst hn2; exact h))
  case iload n =>
    rw [am_g_iload] at h
    obtain ⟨x, hv, h2⟩ := am_ldI_i h
    have e : n = a := of_decide_eq_true hs
    subst e
    exact am_s_iload hd hv (hk _ _ _ _ (by have hn2 : nx = pc + 2 := hn; subst hn2; exact h2))
  case lload n =>
    rw [am_g_lload] at h
    obtain ⟨x, hv, h2⟩ := am_ldL_i h
    have e : n = a := of_decide_eq_true hs
    subst e
    exact am_s_lload hd hv (hk _ _ _ _ (by have hn2 : nx = pc + 2 := hn; subst hn2; exact h2))
  case aload n =>
    rw [am_g_aload] at h
    obtain ⟨x, hv, h2⟩ := am_ldR_i h
    have e : n = a := of_decide_eq_true hs
    subst e
    exact am_s_aload hd hv (hk _ _ _ _ (by have hn2 : nx = pc + 2 := hn; subst hn2; exact h2))
  case iload_n n =>
    rw [am_g_iload_n] at h
    obtain ⟨x, hv, w1⟩ := am_ldI_i h
    exact am_s_iload_n hd (of_decide_eq_true hs) hv (hk _ _ _ _ (by have hn2 : nx = pc + 1 := hn; subst hn2; exact w1))
  case lload_n n =>
    rw [am_g_lload_n] at h
    obtain ⟨x, hv, w1⟩ := am_ldL_i h
    exact am_s_lload_n hd (of_decide_eq_true hs) hv (hk _ _ _ _ (by have hn2 : nx = pc + 1 := hn; subst hn2; exact w1))
  case aload_n n =>
    rw [am_g_aload_n] at h
    obtain ⟨x, hv, w1⟩ := am_ldR_i h
    exact am_s_aload_n hd (of_decide_eq_true hs) hv (hk _ _ _ _ (by have hn2 : nx = pc + 1 := hn; subst hn2; exact w1))
  case istore n =>
    rw [am_g_istore] at h
    obtain ⟨x, r, rfl, w1⟩ := am_pI_i h
    simp only [am_okS, Bool.and_eq_true, decide_eq_true_eq] at hs
    obtain ⟨rfl, hs⟩ := hs
    exact am_s_istore hd hs (hk _ _ _ _ (by have hn2 : nx = pc + 2 := hn; subst hn2; exact w1))
  case astore n =>
    rw [am_g_astore] at h
    obtain ⟨x, r, rfl, w1⟩ := am_pR_i h
    simp only [am_okS, Bool.and_eq_true, decide_eq_true_eq] at hs
    obtain ⟨rfl, hs⟩ := hs
    exact am_s_astore hd hs (hk _ _ _ _ (by have hn2 : nx = pc + 2 := hn; subst hn2; exact w1))
  case istore_n n =>
    rw [am_g_istore_n] at h
    obtain ⟨x, r, rfl, w1⟩ := am_pI_i h
    simp only [am_okS, Bool.and_eq_true, decide_eq_true_eq] at hs
    exact am_s_istore_n hd hs.1 hs.2 (hk _ _ _ _ (by have hn2 : nx = pc + 1 := hn; subst hn2; exact w1))
  case astore_n n =>
    rw [am_g_astore_n] at h
    obtain ⟨x, r, rfl, w1⟩ := am_pR_i h
    simp only [am_okS, Bool.and_eq_true, decide_eq_true_eq] at hs
    exact am_s_astore_n hd hs.1 hs.2 (hk _ _ _ _ (by have hn2 : nx = pc + 1 := hn; subst hn2; exact w1))
  case iinc i n =>
    obtain ⟨x, hv, w1⟩ := am_ldI_i h
    simp only [am_okS, Bool.and_eq_true, decide_eq_true_eq] at hs
    obtain ⟨rfl, hs⟩ := hs
    exact am_s_iinc hd hs hv (hk _ _ _ _ (by have hn2 : nx = pc + 3 := hn; subst hn2; exact w1))
  case iadd =>
    rw [am_g_iadd] at h
    obtain ⟨y, r, rfl, w1⟩ := am_pI_i h
    obtain ⟨x, r, rfl, w2⟩ := am_pI_i w1
    exact am_s_iadd hd (hk _ _ _ _ (by have hn2 : nx = pc + 1 := hn; subst hn2; exact w2))
  case isub =>
    rw [am_g_isub] at h
    obtain ⟨y, r, rfl, w1⟩ := am_pI_i h
    obtain ⟨x, r, rfl, w2⟩ := am_pI_i w1
    exact am_s_isub hd (hk _ _ _ _ (by have hn2 : nx = pc + 1 := hn; subst hn2; exact w2))
  case imul =>
    rw [am_g_imul] at h
    obtain ⟨y, r, rfl, w1⟩ := am_pI_i h
    obtain ⟨x, r, rfl, w2⟩ := am_pI_i w1
    exact am_s_imul hd (hk _ _ _ _ (by have hn2 : nx = pc + 1 := hn; subst hn2; exact w2))
  case iand =>
    rw [am_g_iand] at h
    obtain ⟨y, r, rfl, w1⟩ := am_pI_i h
    obtain ⟨x, r, rfl, w2⟩ := am_pI_i w1
    exact am_s_iand hd (hk _ _ _ _ (by have hn2 : nx = pc + 1 := hn; subst hn2; exact w2))
  case ior =>
    rw [am_g_ior] at h
    obtain ⟨y, r, rfl, w1⟩ := am_pI_i h
    obtain ⟨x, r, rfl, w2⟩ := am_pI_i w1
    exact am_s_ior hd (hk _ _ _ _ (by have hn2 : nx = pc + 1 := hn; subst hn2; exact w2))
  case ixor =>
    rw [am_g_ixor] at h
    obtain ⟨y, r, rfl, w1⟩ := am_pI_i h
    obtain ⟨x, r, rfl, w2⟩ := am_pI_i w1
    exact am_s_ixor hd (hk _ _ _ _ (by have hn2 : nx = pc + 1 := hn; subst hn2; exact w2))
  case ishl =>
    rw [am_g_ishl] at h
    obtain ⟨y, r, rfl, w1⟩ := am_pI_i h
    obtain ⟨x, r, rfl, w2⟩ := am_pI_i w1
    exact am_s_ishl hd (hk _ _ _ _ (by have hn2 : nx = pc + 1 := hn; subst hn2; exact w2))
  case ishr =>
    rw [am_g_ishr] at h
    obtain ⟨y, r, rfl, w1⟩ := am_pI_i h
    obtain ⟨x, r, rfl, w2⟩ := am_pI_i w1
    exact am_s_ishr hd (hk _ _ _ _ (by have hn2 : nx = pc + 1 := hn; subst hn2; exact w2))
  case ladd =>
    rw [am_g_ladd] at h
    obtain ⟨y, r, rfl, w1⟩ := am_pL_i h
    obtain ⟨x, r, rfl, w2⟩ := am_pL_i w1
    exact am_s_ladd hd (hk _ _ _ _ (by have hn2 : nx = pc + 1 := hn; subst hn2; exact w2))
  case lsub =>
    rw [am_g_lsub] at h
    obtain ⟨y, r, rfl, w1⟩ := am_pL_i h
    obtain ⟨x, r, rfl, w2⟩ := am_pL_i w1
    exact am_s_lsub hd (hk _ _ _ _ (by have hn2 : nx = pc + 1 := hn; subst hn2; exact w2))
  case land =>
    rw [am_g_land] at h
    obtain ⟨y, r, rfl, w1⟩ := am_pL_i h
    obtain ⟨x, r, rfl, w2⟩ := am_pL_i w1
    exact am_s_land hd (hk _ _ _ _ (by have hn2 : nx = pc + 1 := hn; subst hn2; exact w2))
  case lor =>
    rw [am_g_lor] at h
    obtain ⟨y, r, rfl, w1⟩ := am_pL_i h
    obtain ⟨x, r, rfl, w2⟩ := am_pL_i w1
    exact am_s_lor hd (hk _ _ _ _ (by have hn2 : nx = pc + 1 := hn; subst hn2; exact w2))
  case lcmp =>
    rw [am_g_lcmp] at h
    obtain ⟨y, r, rfl, w1⟩ := am_pL_i h
    obtain ⟨x, r, rfl, w2⟩ := am_pL_i w1
    exact am_s_lcmp hd (hk _ _ _ _ (by have hn2 : nx = pc + 1 := hn; subst hn2; exact w2))
  case i2l =>
    rw [am_g_i2l] at h
    obtain ⟨x, r, rfl, w1⟩ := am_pI_i h
    exact am_s_i2l hd (hk _ _ _ _ (by have hn2 : nx = pc + 1 := hn; subst hn2; exact w1))
  case dup =>
    rw [am_g_dup] at h
    obtain ⟨v, r, rfl, hv, w1⟩ := am_pV_i h
    exact am_s_dup hv hd (hk _ _ _ _ (by have hn2 : nx = pc + 1 := hn; subst hn2; exact w1))
  case dup2 =>
    rw [am_g_dup2] at h
    obtain ⟨v, r, rfl, hv, w1⟩ := am_pV_i h
    obtain ⟨w, r, rfl, hw, w2⟩ := am_pV_i w1
    exact am_s_dup2 hv hw hd (hk _ _ _ _ (by have hn2 : nx = pc + 1 := hn; subst hn2; exact w2))
  case goto n => exact am_s_goto hd (of_decide_eq_true hs) (hk _ _ _ _ h)
  case ifCond c n =>
    have ht := of_decide_eq_true hs
    cases c
    case eq =>
      rw [am_g_ifCond_eq] at h
      obtain ⟨x, r, rfl, w1⟩ := am_pI_i h
      exact am_s_if_eq hd ht (fun q => hk _ _ _ _ (w1.1 q)) (fun q => hk _ _ _ _ (by have hn2 : nx = pc + 3 := hn; subst hn2; exact w1.2 q))
    case ne =>
      rw [am_g_ifCond_ne] at h
      obtain ⟨x, r, rfl, w1⟩ := am_pI_i h
      exact am_s_if_ne hd ht (fun q => hk _ _ _ _ (w1.1 q)) (fun q => hk _ _ _ _ (by have hn2 : nx = pc + 3 := hn; subst hn2; exact w1.2 q))
    case lt =>
      rw [am_g_ifCond_lt] at h
      obtain ⟨x, r, rfl, w1⟩ := am_pI_i h
      exact am_s_if_lt hd ht (fun q => hk _ _ _ _ (w1.1 q)) (fun q => hk _ _ _ _ (by have hn2 : nx = pc + 3 := hn; subst hn2; exact w1.2 q))
    case ge =>
      rw [am_g_ifCond_ge] at h
      obtain ⟨x, r, rfl, w1⟩ := am_pI_i h
      exact am_s_if_ge hd ht (fun q => hk _ _ _ _ (w1.1 q)) (fun q => hk _ _ _ _ (by have hn2 : nx = pc + 3 := hn; subst hn2; exact w1.2 q))
    case gt =>
      rw [am_g_ifCond_gt] at h
      obtain ⟨x, r, rfl, w1⟩ := am_pI_i h
      exact am_s_if_gt hd ht (fun q => hk _ _ _ _ (w1.1 q)) (fun q => hk _ _ _ _ (by have hn2 : nx = pc + 3 := hn; subst hn2; exact w1.2 q))
    case le =>
      rw [am_g_ifCond_le] at h
      obtain ⟨x, r, rfl, w1⟩ := am_pI_i h
      exact am_s_if_le hd ht (fun q => hk _ _ _ _ (w1.1 q)) (fun q => hk _ _ _ _ (by have hn2 : nx = pc + 3 := hn; subst hn2; exact w1.2 q))
  case if_icmp c n =>
    have ht := of_decide_eq_true hs
    cases c
    case eq =>
      rw [am_g_if_icmp_eq] at h
      obtain ⟨y, r, rfl, w1⟩ := am_pI_i h
      obtain ⟨x, r, rfl, w2⟩ := am_pI_i w1
      exact am_s_icmp_eq hd ht (fun q => hk _ _ _ _ (w2.1 q)) (fun q => hk _ _ _ _ (by have hn2 : nx = pc + 3 := hn; subst hn2; exact w2.2 q))
    case ne =>
      rw [am_g_if_icmp_ne] at h
      obtain ⟨y, r, rfl, w1⟩ := am_pI_i h
      obtain ⟨x, r, rfl, w2⟩ := am_pI_i w1
      exact am_s_icmp_ne hd ht (fun q => hk _ _ _ _ (w2.1 q)) (fun q => hk _ _ _ _ (by have hn2 : nx = pc + 3 := hn; subst hn2; exact w2.2 q))
    case lt =>
      rw [am_g_if_icmp_lt] at h
      obtain ⟨y, r, rfl, w1⟩ := am_pI_i h
      obtain ⟨x, r, rfl, w2⟩ := am_pI_i w1
      exact am_s_icmp_lt hd ht (fun q => hk _ _ _ _ (w2.1 q)) (fun q => hk _ _ _ _ (by have hn2 : nx = pc + 3 := hn; subst hn2; exact w2.2 q))
    case ge =>
      rw [am_g_if_icmp_ge] at h
      obtain ⟨y, r, rfl, w1⟩ := am_pI_i h
      obtain ⟨x, r, rfl, w2⟩ := am_pI_i w1
      exact am_s_icmp_ge hd ht (fun q => hk _ _ _ _ (w2.1 q)) (fun q => hk _ _ _ _ (by have hn2 : nx = pc + 3 := hn; subst hn2; exact w2.2 q))
    case gt =>
      rw [am_g_if_icmp_gt] at h
      obtain ⟨y, r, rfl, w1⟩ := am_pI_i h
      obtain ⟨x, r, rfl, w2⟩ := am_pI_i w1
      exact am_s_icmp_gt hd ht (fun q => hk _ _ _ _ (w2.1 q)) (fun q => hk _ _ _ _ (by have hn2 : nx = pc + 3 := hn; subst hn2; exact w2.2 q))
    case le =>
      rw [am_g_if_icmp_le] at h
      obtain ⟨y, r, rfl, w1⟩ := am_pI_i h
      obtain ⟨x, r, rfl, w2⟩ := am_pI_i w1
      exact am_s_icmp_le hd ht (fun q => hk _ _ _ _ (w2.1 q)) (fun q => hk _ _ _ _ (by have hn2 : nx = pc + 3 := hn; subst hn2; exact w2.2 q))
  case ifnull n =>
    rw [am_g_ifnull] at h
    obtain ⟨x, r, rfl, w1⟩ := am_pR_i h
    exact am_s_ifnull hd (of_decide_eq_true hs) (fun q => hk _ _ _ _ (w1.1 q)) (fun q => hk _ _ _ _ (by have hn2 : nx = pc + 3 := hn; subst hn2; exact w1.2 q))
  case ifnonnull n =>
    rw [am_g_ifnonnull] at h
    obtain ⟨x, r, rfl, w1⟩ := am_pR_i h
    exact am_s_ifnonnull hd (of_decide_eq_true hs) (fun q => hk _ _ _ _ (w1.1 q)) (fun q => hk _ _ _ _ (by have hn2 : nx = pc + 3 := hn; subst hn2; exact w1.2 q))
  case tableswitch df lo hi offs =>
    obtain ⟨x, r, rfl, w1⟩ := am_pI_i h
    simp only [am_okS, Bool.and_eq_true, decide_eq_true_eq] at hs
    obtain ⟨⟨⟨⟨h1, h2⟩, h3⟩, h4⟩, h5⟩ := hs
    have hlen : offs.size = qs.length := by
      have := congrArg List.length h5
      simpa using this
    rcases am_sw_i h2 (by omega) w1 with ⟨m, t, e1, e2, e3⟩ | ⟨e1, e2⟩
    · have hm : m < qs.length := (List.getElem?_eq_some_iff.mp e1).1
      have ho : ∃ off, offs[m]? = some off ∧ (pc : Int) + off = (t : Int) := by
        have h6 := congrArg (fun z => z[m]?) h5
        simp only [List.getElem?_map, e1, Option.map_some] at h6
        have hm2 : m < offs.toList.length := by simpa [hlen] using hm
        rw [List.getElem?_eq_getElem hm2] at h6
        simp only [Option.map_some, Option.some.injEq] at h6
        refine ⟨offs.toList[m], ?_, h6⟩
        rw [← Array.getElem?_toList, List.getElem?_eq_getElem hm2]
      obtain ⟨off, o1, o2⟩ := ho
      exact am_s_tabIn hd (by omega) (by omega) (by rw [e2, show (lo + (m : Int) - lo).toNat = m by omega]; exact o1) o2 (hk _ _ _ _ e3)
    · exact am_s_tabOut hd (by omega) h1 (hk _ _ _ _ e2)
  case lookupswitch df ps =>
    obtain ⟨x, r, rfl, w1⟩ := am_pI_i h
    simp only [am_okS, Bool.and_eq_true, decide_eq_true_eq] at hs
    obtain ⟨⟨⟨h1, h2⟩, h3⟩, h5⟩ := hs
    have h4 : ∀ q ∈ ps.toList, 0 ≤ q.1 ∧ q.1 < 1000 := fun q hq => by
      have := List.all_eq_true.mp h3 q hq
      simpa using this
    rcases am_lk_i h1 h4 h5 w1 with ⟨t, e1, e2⟩ | ⟨e1, e2⟩
    · exact am_s_look hd h2 rfl e1 (hk _ _ _ _ e2)
    · exact am_s_look hd h2 rfl e1 (hk _ _ _ _ e2)
  case getfield n =>
    rw [am_g_getfield] at h
    obtain ⟨kd, j, r, rfl, hc, w1⟩ := am_pA_i h
    obtain ⟨r', h1, h2, h3, h4, h5⟩ := am_fdI hs
    exact am_s_get hd h1 hc h3 h2 h4 h5 (hk _ _ _ _ (by have hn2 : nx = pc + 3 := hn; subst hn2; exact w1))
  case putfield n =>
    simp only [am_okS, Bool.and_eq_true] at hs
    obtain ⟨r', h1, h2, h3, h4, h5⟩ := am_fdI hs.1
    obtain ⟨h6, h7⟩ := am_ptI h1 hs.2
    simp only [am_go] at h
    generalize am_q qs 2 = t at h h4 h7
    unfold am_pf at h
    split at h
    · obtain ⟨x, r, rfl, w1⟩ := am_pI_i h
      obtain ⟨kd, j, r, rfl, hc, w2⟩ := am_pA_i w1
      refine am_s_putI hd h1 hc h3 h2 h4 h5 h6 (Or.inl ⟨rfl, ?_⟩) (hk _ _ _ _ (by have hn2 : nx = pc + 3 := hn; subst hn2; exact w2))
      exact am_ft0 h7
    · obtain ⟨x, r, rfl, hb, w3⟩ := am_pI_i h
      obtain ⟨kd, j, r, rfl, hc, w4⟩ := am_pA_i w3
      refine am_s_putI hd h1 hc h3 h2 h4 h5 h6 (Or.inr ⟨rfl, ?_, hb⟩) (hk _ _ _ _ (by have hn2 : nx = pc + 3 := hn; subst hn2; exact w4))
      exact am_ft1 h7
    · obtain ⟨x, r, rfl, hb, w5⟩ := am_pR_i h
      obtain ⟨kd, j, r, rfl, hc, w6⟩ := am_pA_i w5
      refine am_s_putR hd h1 hc h3 h2 h4 h5 h6 rfl ?_ hb (hk _ _ _ _ (by have hn2 : nx = pc + 3 := hn; subst hn2; exact w6))
      exact am_ft3 h7
    · exact h.elim
  case iaload =>
    rw [am_g_iaload] at h
    obtain ⟨x, r, rfl, w1⟩ := am_pI_i h
    obtain ⟨kd, j, r, rfl, w2⟩ := am_pA_i w1
    unfold am_i99 at w2
    split at w2
    · rename_i h9
      subst h9
      obtain ⟨h1, rfl, h3, w3⟩ := w2
      exact am_s_sld h1 hd h3 (hk _ _ _ _ (by have hn2 : nx = pc + 1 := hn; subst hn2; exact w3))
    · exact am_s_iald hd w2.1 w2.2.1 (hk _ _ _ _ (by have hn2 : nx = pc + 1 := hn; subst hn2; exact w2.2.2))
  case baload =>
    rw [am_g_baload] at h
    obtain ⟨x, r, rfl, w1⟩ := am_pI_i h
    obtain ⟨kd, j, r, rfl, w2⟩ := am_pA_i w1
    exact am_s_zald hd w2.1 w2.2.1 (hk _ _ _ _ (by have hn2 : nx = pc + 1 := hn; subst hn2; exact w2.2.2))
  case laload =>
    rw [am_g_laload] at h
    obtain ⟨x, r, rfl, w1⟩ := am_pI_i h
    obtain ⟨kd, j, r, rfl, w2⟩ := am_pA_i w1
    exact am_s_lald hd w2.1 w2.2.1 (hk _ _ _ _ (by have hn2 : nx = pc + 1 := hn; subst hn2; exact w2.2.2))
  case aaload =>
    rw [am_g_aaload] at h
    obtain ⟨x, r, rfl, w1⟩ := am_pI_i h
    obtain ⟨kd, j, r, rfl, w2⟩ := am_pA_i w1
    rcases w2.1 with q | q
    · exact am_s_aald (t := 3) hd q (Or.inl rfl) w2.2.1 (hk _ _ _ _ (by have hn2 : nx = pc + 1 := hn; subst hn2; exact w2.2.2))
    · exact am_s_aald (t := 4) hd q (Or.inr rfl) w2.2.1 (hk _ _ _ _ (by have hn2 : nx = pc + 1 := hn; subst hn2; exact w2.2.2))
  case iastore =>
    rw [am_g_iastore] at h
    obtain ⟨y, r, rfl, w1⟩ := am_pI_i h
    obtain ⟨x, r, rfl, w2⟩ := am_pI_i w1
    obtain ⟨kd, j, r, rfl, w3⟩ := am_pA_i w2
    exact am_s_iast hd w3.1 w3.2.1 (hk _ _ _ _ (by have hn2 : nx = pc + 1 := hn; subst hn2; exact w3.2.2))
  case bastore =>
    rw [am_g_bastore] at h
    obtain ⟨y, r, rfl, w1⟩ := am_pI_i h
    obtain ⟨x, r, rfl, w2⟩ := am_pI_i w1
    obtain ⟨kd, j, r, rfl, w3⟩ := am_pA_i w2
    exact am_s_zast hd w3.1 w3.2.1 w3.2.2.1 (hk _ _ _ _ (by have hn2 : nx = pc + 1 := hn; subst hn2; exact w3.2.2.2))
  case lastore =>
    rw [am_g_lastore] at h
    obtain ⟨y, r, rfl, w1⟩ := am_pL_i h
    obtain ⟨x, r, rfl, w2⟩ := am_pI_i w1
    obtain ⟨kd, j, r, rfl, w3⟩ := am_pA_i w2
    exact am_s_last hd w3.1 w3.2.1 (hk _ _ _ _ (by have hn2 : nx = pc + 1 := hn; subst hn2; exact w3.2.2))
  case aastore =>
    rw [am_g_aastore] at h
    obtain ⟨vk, vj, r, rfl, w1⟩ := am_pA_i h
    obtain ⟨x, r, rfl, w2⟩ := am_pI_i w1
    obtain ⟨kd, j, r, rfl, w3⟩ := am_pA_i w2
    rcases w3.1 with ⟨q1, q2⟩ | ⟨q1, q2⟩
    · exact am_s_aast (t := 3) (ci := 5) hd q1 (by omega) rfl q2 (by omega) (fun _ => rfl) (fun _ _ _ _ => rfl) w3.2.1 (hk _ _ _ _ (by have hn2 : nx = pc + 1 := hn; subst hn2; exact w3.2.2))
    · exact am_s_aast (t := 4) (ci := 1) hd q1 (by omega) rfl q2 (by omega) (fun _ => rfl) (fun _ _ _ _ => rfl) w3.2.1 (hk _ _ _ _ (by have hn2 : nx = pc + 1 := hn; subst hn2; exact w3.2.2))
  case arraylength =>
    rw [am_g_arraylength] at h
    obtain ⟨kd, j, r, rfl, ⟨h1, h2, h3⟩, w1⟩ := am_pA_i h
    subst h1; subst h2
    exact am_s_slen h3 hd (hk _ _ _ _ (by have hn2 : nx = pc + 1 := hn; subst hn2; exact w1))
  case new n =>
    rw [am_g_new] at h
    simp only [am_okS] at hs
    split at hs
    · rename_i r hr
      simp only [Bool.and_eq_true, decide_eq_true_eq] at hs
      obtain ⟨⟨⟨⟨⟨h1, h2⟩, h3⟩, h4⟩, h5⟩, h6⟩ := hs
      exact am_s_new hd hr h1 h2 h3 (am_wqI h4) (am_wqI h5) (am_wqI h6) h.1 (hk _ _ _ _ (by have hn2 : nx = pc + 3 := hn; subst hn2; exact h.2))
    · cases hs
  case newarray t =>
    rw [am_g_newarray] at h
    obtain ⟨x, r, rfl, w1⟩ := am_pI_i h
    simp only [am_okS, Bool.and_eq_true, decide_eq_true_eq] at hs
    obtain ⟨⟨h1, h2⟩, h3⟩ := hs
    split at h1
    · exact am_s_newI (t := 0) hd (of_decide_eq_true h1) rfl (Or.inl ⟨rfl, rfl⟩) h2 (am_wqI h3) w1.1 w1.2.1 (hk _ _ _ _ (by have hn2 : nx = pc + 2 := hn; subst hn2; exact w1.2.2))
    · exact am_s_newI (t := 1) hd (of_decide_eq_true h1) rfl (Or.inr (Or.inl ⟨rfl, rfl⟩)) h2 (am_wqI h3) w1.1 w1.2.1 (hk _ _ _ _ (by have hn2 : nx = pc + 2 := hn; subst hn2; exact w1.2.2))
    · exact am_s_newI (t := 2) hd (of_decide_eq_true h1) rfl (Or.inr (Or.inr ⟨rfl, rfl⟩)) h2 (am_wqI h3) w1.1 w1.2.1 (hk _ _ _ _ (by have hn2 : nx = pc + 2 := hn; subst hn2; exact w1.2.2))
    · cases h1
  case anewarray n =>
    rw [am_g_anewarray] at h
    obtain ⟨x, r, rfl, w1⟩ := am_pI_i h
    simp only [am_okS, Bool.and_eq_true, Bool.or_eq_true, decide_eq_true_eq] at hs
    obtain ⟨h1, h2⟩ := hs
    rcases h1 with ⟨h3, h4⟩ | ⟨h3, h4⟩
    · exact am_s_newQ (t := 3) hd h3 (Or.inl ⟨rfl, rfl⟩) h2 (am_wqI h4) w1.1 w1.2.1 (hk _ _ _ _ (by have hn2 : nx = pc + 3 := hn; subst hn2; exact w1.2.2))
    · exact am_s_newQ (t := 4) hd h3 (Or.inr ⟨rfl, rfl⟩) h2 (am_wqI h4) w1.1 w1.2.1 (hk _ _ _ _ (by have hn2 : nx = pc + 3 := hn; subst hn2; exact w1.2.2))
  case invokevirtual n =>
    rw [am_g_invokevirtual] at h
    obtain ⟨as, r, rfl, hl, w1⟩ := am_pN_i h
    rw [List.append_nil] at w1
    obtain ⟨kd, j, r, rfl, hc, hr, d', hd', r1, H1, hA, w2⟩ := am_pA_i w1
    simp only [am_okS, am_clB, Bool.and_eq_true, decide_eq_true_eq] at hs
    obtain ⟨⟨⟨⟨⟨⟨⟨h1, h2⟩, h3⟩, h4⟩, h5⟩, h6⟩, h7⟩, h8⟩ := hs
    split at h3
    · rename_i r' hr'
      exact am_s_callV hd h1 h2 hl hr' hc h4 (of_decide_eq_true h3) (am_wqI h5) (am_wqI h6) (am_wqI h7) (am_wqI h8) hr hd' hA (hk _ _ _ _ (by have hn2 : nx = pc + 3 := hn; subst hn2; exact w2))
    · cases h3
  case invokespecial n =>
    simp only [am_okS] at hs
    simp only [am_go, am_i1000] at h
    split at h
    · rename_i h0
      rw [if_pos h0] at hs
      obtain ⟨kd, j, r, rfl, w1⟩ := am_pA_i h
      simp only [Bool.and_eq_true] at hs
      exact am_s_obj hd (am_wqI hs.1.1) (am_wqI hs.1.2) (am_wqI hs.2) w1.1 w1.2.1 (hk _ _ _ _ (by have hn2 : nx = pc + 3 := hn; subst hn2; exact w1.2.2))
    · rename_i h0
      rw [if_neg h0] at hs
      obtain ⟨as, r, rfl, hl, w2⟩ := am_pN_i h
      rw [List.append_nil] at w2
      obtain ⟨kd, j, r, rfl, hr, d', hd', r1, H1, hA, w3⟩ := am_pA_i w2
      simp only [am_clB, Bool.and_eq_true, Bool.or_eq_true, decide_eq_true_eq] at hs
      obtain ⟨⟨⟨⟨⟨⟨h1, h2⟩, h3⟩, h4⟩, h5⟩, h6⟩, h7⟩ := hs
      rcases h5 with h5 | h5
      · exact am_s_callIN hd h1 h2 hl h3 h4 h5 (am_wqI h6) (am_wqI h7) hr hd' hA (hk _ _ _ _ (by have hn2 : nx = pc + 3 := hn; subst hn2; exact w3))
      · exact am_s_callI hd h1 h2 hl h3 h4 (am_wqI h5) (am_wqI h6) (am_wqI h7) hr hd' hA (hk _ _ _ _ (by have hn2 : nx = pc + 3 := hn; subst hn2; exact w3))
  case invokestatic n =>
    rw [am_g_invokestatic] at h
    obtain ⟨as, r, rfl, hl, hr, d', hd', r1, H1, hA, w1⟩ := am_pN_i h
    rw [List.append_nil] at hA
    simp only [am_okS, am_clB, Bool.and_eq_true, Bool.or_eq_true, decide_eq_true_eq] at hs
    obtain ⟨⟨⟨⟨h1, h2⟩, h3⟩, h4⟩, h5⟩ := hs
    rcases h3 with h3 | h3
    · exact am_s_callSN hd h1 h2 hl h3 (am_wqI h4) (am_wqI h5) hr hd' hA (hk _ _ _ _ (by have hn2 : nx = pc + 3 := hn; subst hn2; exact w1))
    · exact am_s_callS hd h1 h2 hl h3.1 (am_wqI h3.2) (am_wqI h4) (am_wqI h5) hr hd' hA (hk _ _ _ _ (by have hn2 : nx = pc + 3 := hn; subst hn2; exact w1))
  case ireturn =>
    rw [am_g_ireturn] at h
    obtain ⟨x, r, rfl, rfl, h1, h2⟩ := am_pI_i h
    simp only [am_okS, Bool.and_eq_true, Bool.or_eq_true, decide_eq_true_eq] at hs
    refine am_ret (r := some (.inl x)) rfl ⟨hd, ?_⟩ h2
    rcases hs with ⟨-, q⟩ | ⟨q0, q⟩
    · exact Or.inl q
    · exact Or.inr ⟨q, h1 q0⟩
  case lreturn =>
    rw [am_g_lreturn] at h
    obtain ⟨x, r, rfl, rfl, h2⟩ := am_pL_i h
    exact am_ret (r := some (.inr (.inl x))) rfl ⟨hd, of_decide_eq_true hs⟩ h2
  case areturn =>
    rw [am_g_areturn] at h
    obtain ⟨x, r, rfl, rfl, h2⟩ := am_pR_i h
    refine am_ret (r := some (.inr (.inr x))) rfl ⟨hd, ?_⟩ h2
    simp only [am_okS] at hs
    split at hs
    · exact ⟨_, by assumption⟩
    · cases hs
  case return_ =>
    rw [am_g_return] at h
    obtain ⟨rfl, h2⟩ := h
    exact am_ret (r := none) rfl ⟨hd, of_decide_eq_true hs⟩ h2
  all_goals exact False.elim h
theorem am_weak {ls' : am_LS} (hs : ∀ (i : Nat) (v : am_V), ls'[i]? = some (some v) → ls[i]? = some (some v)) (h : am_FQ l sc id d pc ls' st H Q) : am_FQ l sc id d pc ls st H Q :=
  am_step0 (fun _ hl => ⟨fun i v hv => hl.1 i v (hs i v hv), hl.2⟩) (fun p e R s m args below meth c D cA base γ Hc locs cells slots lsC Q' cx ok lv wd S hls k => k lsC (am_ls_sub hls hs)) h
theorem am_w1_ok {labs : List (Nat × List Nat)} {m : Option (List Nat)} (hk : ∀ pc ls st H, k pc ls st H → am_FQ l sc id d pc ls st H Q) (h : am_w1 l sc id g d Q k m (am_at id pc) pc ls st H) : am_FQ l sc id d pc ls st H Q := by
  unfold am_w1 at h
  split at h
  · exact am_weak (fun i v hv => am_tr_at hv) h
  · rename_i e he
    obtain ⟨ins, nx, a, qs⟩ := e
    exact am_go_ok (am_atOk he) hk h
  · exact h.elim
theorem am_wp_ok {labs : List (Nat × List Nat)} : ∀ {n pc : Nat} {ls : am_LS} {st : List am_V} {H : am_H}, am_wp l sc id g d labs Q n pc ls st H → am_FQ l sc id d pc ls st H Q := by
  intro n
  induction n with
  | zero => intro pc ls st H h; exact h.elim
  | succ n ih => intro pc ls st H h; exact am_w1_ok (labs := labs) (fun pc ls st H h => ih h) h
/-- from a label on: its own instruction is run -/
theorem am_wl_ok {labs : List (Nat × List Nat)} {n : Nat} (h : am_w1 l sc id g d Q (am_wp l sc id g d labs Q n) none (am_at id pc) pc ls st H) : am_FQ l sc id d pc ls st H Q := am_w1_ok (labs := labs) (fun pc ls st H h => am_wp_ok h) h
end AMZ
