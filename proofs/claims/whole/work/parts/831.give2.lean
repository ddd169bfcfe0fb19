/-! ===== give: the reference, its pair ===== -/
section GV3
variable {C M : am_H} {D : Nat → Nat → Int32} {T : Nat → Nat → Int32} {K c t n : Nat}
theorem gI_breakOff_j {H : am_H} {j n a b i : Nat} (hb : b ≠ j) (h : a ≠ 701) : am_gI (sp_breakOff H j t n) a b i = am_gI H a b i := by
  unfold sp_breakOff
  split
  · rw [gI_bring_ne h]
    simp only [am_gI_sI, hb, false_and, and_false, ↓reduceIte]
  · simp only [am_gI_sI, hb, false_and, and_false, ↓reduceIte]
theorem gI_breakOff_203 {H : am_H} {j n i : Nat} : am_gI (sp_breakOff H j t n) 203 j i = if i = n then 0 else am_gI H 203 j i := by
  unfold sp_breakOff
  split
  · rw [gI_bring_ne (by decide)]
    simp (decide := true) only [am_gI_sI, true_and, false_and, ↓reduceIte]
  · simp (decide := true) only [am_gI_sI, true_and, false_and, ↓reduceIte]
theorem gI_breakOff_209 {H : am_H} {j n i : Nat} : am_gI (sp_breakOff H j t n) 209 j i = if i = 2 then am_gI H 209 j 2 + 1 else am_gI H 209 j i := by
  unfold sp_breakOff
  split
  · rw [gI_bring_ne (by decide)]
    simp (decide := true) only [am_gI_sI, true_and, false_and, ↓reduceIte]
  · simp (decide := true) only [am_gI_sI, true_and, false_and, ↓reduceIte]
theorem gL_breakOff {H : am_H} {j n a b i : Nat} (h : a ≠ 702) : am_gL (sp_breakOff H j t n) a b i = am_gL H a b i := by
  unfold sp_breakOff sp_bring
  repeat' split
  all_goals first | rfl | simp only [am_gL_sI, am_gL_sL, h, false_and, ↓reduceIte]
theorem lv_breakOff {H : am_H} {j n : Nat} : am_lv (sp_breakOff H j t n) = am_lv H := by
  unfold sp_breakOff
  split
  · rw [lv_bring]; rfl
  · rfl
theorem wf_W_breakOff {H : am_H} {j n : Nat} (h : wf_W H) : wf_W (sp_breakOff H j t n) := by
  unfold sp_breakOff
  split
  · exact wf_W_bring h
  · exact h
theorem R_W_cg {C C' M M' : am_H} (h : R_W C M) (h1 : am_gI C' 6 0 0 = am_gI C 6 0 0) (h2 : am_gI M' 8 0 0 = am_gI M 8 0 0) (h3 : ∀ i, am_gI C' 701 0 i = am_gI C 701 0 i) (h4 : ∀ i, am_gL C' 702 0 i = am_gL C 702 0 i) (h5 : ∀ i, am_gI C' 703 0 i = am_gI C 703 0 i) (h6 : ∀ i, am_gI M' 901 0 i = am_gI M 901 0 i) (h7 : ∀ i, am_gL M' 902 0 i = am_gL M 902 0 i) (h8 : ∀ i, am_gI M' 903 0 i = am_gI M 903 0 i) : R_W C' M' := by
  simpa only [R_W, h1, h2, h3, h4, h5, h6, h7, h8] using h
/-- a doing is broken off on both sides -/
theorem break_W (hW : R_W C M) (hD : R_D C M D K) {d : Nat} (hd : d < K) (hs : sp_doingOf C c t n = nI d) : R_W (sp_breakOff C c t n) (mp_break M c t n d) := by
  obtain ⟨K10, k1, k2, k3, k4, k5⟩ := hD
  have hdn : (nI d).toNatClampNeg = d := nI_clamp (by omega)
  have q := k3 d (by omega)
  have hb : R_W (sp_bring (am_sI (am_sI C 203 c n 0) 209 c 2 (am_gI C 209 c 2 + 1)) (am_gI C 307 0 d) (am_gI C 309 0 d)) (mp_comes M (am_gI C 307 0 d) (am_gI C 309 0 d)) :=
    W_bring (R_W_cg hW rfl rfl (fun _ => rfl) (fun _ => rfl) (fun _ => rfl) (fun _ => rfl) (fun _ => rfl) (fun _ => rfl)) (k4 d hd).2.2
  unfold sp_breakOff mp_break
  rw [hs, k1, if_pos (nI_rr hd (by omega)), hdn, ← q.2.2.2.2.2.2.1, ← q.2.2.2.2.2.2.2.2]
  split
  · exact R_W_cg hb rfl rfl (fun _ => rfl) (fun _ => rfl) (fun _ => rfl) (fun _ => rfl) (fun _ => rfl) (fun _ => rfl)
  · exact R_W_cg hb rfl rfl (fun _ => rfl) (fun _ => rfl) (fun _ => rfl) (fun _ => rfl) (fun _ => rfl) (fun _ => rfl)
theorem break_c (h : ∀ i, i < 8 → am_gI C 209 c i = am_gI M 927 0 (8 * c + i)) {d : Nat} : ∀ i, i < 8 → am_gI (sp_breakOff C c t n) 209 c i = am_gI (mp_break M c t n d) 927 0 (8 * c + i) := by
  intro i hi
  rw [gI_breakOff_209]
  by_cases h2 : i = 2
  · subst h2
    rw [if_pos rfl, gI_mbreak_927, h 2 (by decide)]
  · rw [if_neg h2, gI_mbreak (by decide) (by omega) (by omega) (by omega)]
    exact h i hi
theorem break_D (hD : R_D C M D K) {d : Nat} : R_D (sp_breakOff C c t n) (mp_break M c t n d) D K := by
  have e1 : ∀ a i, a ≠ 203 → a ≠ 209 → a ≠ 701 → am_gI (sp_breakOff C c t n) a 0 i = am_gI C a 0 i := fun a i h h2 h3 => gI_breakOff_ne ⟨h, h2, h3⟩
  have e2 : ∀ a i, a ≠ 901 → a ≠ 930 → a ≠ 927 → a ≠ 933 → am_gI (mp_break M c t n d) a 0 i = am_gI M a 0 i := fun a i h h2 h3 h4 => gI_mbreak h (fun q => h2 q.1) (fun q => h3 q.1) (fun q => h4 q.1)
  simpa (decide := true) only [R_D, e1, e2, ne_eq, not_false_eq_true, Nat.reduceEqDiff] using hD
theorem break_GL {m d : Nat} (hm : m ≠ n) (h : GL C M K c t m) : GL (sp_breakOff C c t n) (mp_break M c t n d) K c t m := by
  have e1 : ∀ a b i, a ≠ 203 → a ≠ 209 → a ≠ 701 → am_gI (sp_breakOff C c t n) a b i = am_gI C a b i := fun a b i h h2 h3 => gI_breakOff_ne ⟨h, h2, h3⟩
  have e2 : ∀ a i, a ≠ 901 → a ≠ 930 → a ≠ 927 → a ≠ 933 → am_gI (mp_break M c t n d) a 0 i = am_gI M a 0 i := fun a i h h2 h3 h4 => gI_mbreak h (fun q => h2 q.1) (fun q => h3 q.1) (fun q => h4 q.1)
  have e3 : am_gI (mp_break M c t n d) 930 0 (30 * c + m) = am_gI M 930 0 (30 * c + m) := gI_mbreak (by decide) (by omega) (by omega) (by omega)
  have e4 : am_gI (sp_breakOff C c t n) 203 c m = am_gI C 203 c m := by rw [gI_breakOff_203, if_neg hm]
  have e5 : sp_doingOf (sp_breakOff C c t n) c t m = sp_doingOf C c t m := by
    unfold sp_doingOf sp_planned
    simp (decide := true) only [e1, ne_eq, not_false_eq_true, Nat.reduceEqDiff]
  have e6 : mp_doing (mp_break M c t n d) c t m = mp_doing M c t m := by
    unfold mp_doing
    simp (decide := true) only [e2, ne_eq, not_false_eq_true, Nat.reduceEqDiff]
  unfold GL
  rw [e3, e4, e5, e6, e2 918 _ (by decide) (by decide) (by decide) (by decide), e2 932 _ (by decide) (by decide) (by decide) (by decide)]
  exact h
def mp_ba (H : am_H) (c t : Nat) : Nat → Int32 × am_H
  | 0 => (0, H)
  | n + 1 => if am_gI (mp_ba H c t n).2 930 0 (30 * c + n) = 0 then mp_ba H c t n else ((mp_ba H c t n).1 + 1, mp_break (mp_ba H c t n).2 c t n (mp_doing (mp_ba H c t n).2 c t n).toNatClampNeg)
/-- what give keeps while doings are broken off, from node to node -/
theorem ba_rel {N : Nat} (hW : R_W C M) (hD : R_D C M D K) (hc : ∀ i, i < 8 → am_gI C 209 c i = am_gI M 927 0 (8 * c + i)) (hG : ∀ m, m < N → GL C M K c t m) : ∀ n, n ≤ N → (sp_ba C c t n).1 = (mp_ba M c t n).1 ∧ R_W (sp_ba C c t n).2 (mp_ba M c t n).2 ∧ R_D (sp_ba C c t n).2 (mp_ba M c t n).2 D K ∧ (∀ i, i < 8 → am_gI (sp_ba C c t n).2 209 c i = am_gI (mp_ba M c t n).2 927 0 (8 * c + i)) ∧ ∀ m, n ≤ m → m < N → GL (sp_ba C c t n).2 (mp_ba M c t n).2 K c t m := by
  intro n
  induction n with
  | zero => intro _; exact ⟨rfl, hW, hD, hc, fun m _ hm => hG m hm⟩
  | succ n ih =>
    intro hn
    obtain ⟨i1, i2, i3, i4, i5⟩ := ih (by omega)
    have g := i5 n (Nat.le_refl _) (by omega)
    unfold sp_ba mp_ba
    rcases g with ⟨g1, g2⟩ | ⟨g1, g2, -, d, g3, g4, g5⟩
    · rw [if_pos g1, if_neg (by rw [g2]; decide)]
      exact ⟨i1, i2, i3, i4, fun m hm hm2 => i5 m (by omega) hm2⟩
    · rw [if_pos g2, if_neg (by rw [g1]; decide), g5, nI_clamp (show d < 2 ^ 31 by have := i3.1; omega)]
      exact ⟨by rw [i1], break_W i2 i3 g3 g4, break_D i3, break_c i4, fun m hm hm2 => break_GL (by omega) (i5 m (by omega) hm2)⟩
theorem gR_mba {H : am_H} {n x y z : Nat} : am_gR (mp_ba H c t n).2 x y z = am_gR H x y z := by
  induction n with
  | zero => rfl
  | succ n ih =>
    unfold mp_ba
    split
    · exact ih
    · exact gR_mbreak.trans ih
theorem lv_mba {H : am_H} {n : Nat} : am_lv (mp_ba H c t n).2 = am_lv H := by
  induction n with
  | zero => rfl
  | succ n ih =>
    unfold mp_ba
    split
    · exact ih
    · exact lv_mbreak.trans ih
theorem gL_mba {H : am_H} {n x y z : Nat} (h : x ≠ 902) : am_gL (mp_ba H c t n).2 x y z = am_gL H x y z := by
  induction n with
  | zero => rfl
  | succ n ih =>
    unfold mp_ba
    split
    · exact ih
    · exact (gL_mbreak h).trans ih
theorem gI_mba {H : am_H} {n x y z : Nat} (hn : n ≤ 30) (h : x ≠ 901) (h2 : ¬ (x = 930 ∧ 30 * c ≤ z ∧ z < 30 * c + 30)) (h3 : ¬ (x = 927 ∧ z = 8 * c + 2)) (h4 : ¬ (x = 933 ∧ 30 * c ≤ z ∧ z < 30 * c + 30)) : am_gI (mp_ba H c t n).2 x y z = am_gI H x y z := by
  induction n with
  | zero => rfl
  | succ n ih =>
    unfold mp_ba
    split
    · exact ih (by omega)
    · exact (gI_mbreak h (by omega) h3 (by omega)).trans (ih (by omega))
theorem gL_ba {H : am_H} {j n a b i : Nat} (h : a ≠ 702) : am_gL (sp_ba H j t n).2 a b i = am_gL H a b i := by
  induction n with
  | zero => rfl
  | succ n ih =>
    unfold sp_ba
    split
    · exact (gL_breakOff h).trans ih
    · exact ih
theorem lv_ba {H : am_H} {j n : Nat} : am_lv (sp_ba H j t n).2 = am_lv H := by
  induction n with
  | zero => rfl
  | succ n ih =>
    unfold sp_ba
    split
    · exact lv_breakOff.trans ih
    · exact ih
theorem wf_W_ba {H : am_H} {j n : Nat} (h : wf_W H) : wf_W (sp_ba H j t n).2 := by
  induction n with
  | zero => exact h
  | succ n ih =>
    unfold sp_ba
    split
    · exact wf_W_breakOff ih
    · exact ih
theorem gI_ba_j {H : am_H} {j n a b i : Nat} (hb : b ≠ j) (h : a ≠ 701) : am_gI (sp_ba H j t n).2 a b i = am_gI H a b i := by
  induction n with
  | zero => rfl
  | succ n ih =>
    unfold sp_ba
    split
    · exact (gI_breakOff_j hb h).trans ih
    · exact ih
def mp_z6 (H : am_H) (c n : Nat) : am_H := (fun k j' i => if (928 ≤ k ∧ k ≤ 933) ∧ j' = 0 ∧ 30 * c ≤ i ∧ i < 30 * c + n then 0 else H.1 k j' i, H.2)
theorem gI_z6 {H : am_H} {n k j' i : Nat} : am_gI (mp_z6 H c n) k j' i = if (928 ≤ k ∧ k ≤ 933) ∧ j' = 0 ∧ 30 * c ≤ i ∧ i < 30 * c + n then 0 else am_gI H k j' i := rfl
theorem gL_z6 {H : am_H} {n k j' i : Nat} : am_gL (mp_z6 H c n) k j' i = am_gL H k j' i := rfl
theorem gR_z6 {H : am_H} {n k j' i : Nat} : am_gR (mp_z6 H c n) k j' i = am_gR H k j' i := rfl
theorem lv_z6 {H : am_H} {n : Nat} : am_lv (mp_z6 H c n) = am_lv H := rfl
theorem mp_z6_0 {H : am_H} : mp_z6 H c 0 = H := by
  refine am_Heq (fun k' j' i' => ?_) (fun _ _ _ => rfl) (fun _ _ _ => rfl) rfl
  rw [gI_z6, if_neg]
  omega
theorem mp_z6_s {H : am_H} {n : Nat} : am_sI (am_sI (am_sI (am_sI (am_sI (am_sI (mp_z6 H c n) 928 0 (30 * c + n) 0) 929 0 (30 * c + n) 0) 930 0 (30 * c + n) 0) 931 0 (30 * c + n) 0) 932 0 (30 * c + n) 0) 933 0 (30 * c + n) 0 = mp_z6 H c (n + 1) := by
  refine am_Heq (fun k' j' i' => ?_) (fun _ _ _ => rfl) (fun _ _ _ => rfl) rfl
  simp only [am_gI_sI, gI_z6]
  repeat' split
  all_goals first | rfl | (exfalso; omega)
end GV3
section GV4
variable {l : Launch} {H : am_H} {K c t n N Cn Mt : Nat}
theorem nI_30m {a : Nat} : 30 * nI a = nI (30 * a) := by rw [show (30 : Int32) = nI 30 from rfl, pk_mul]
theorem nI_a30 {a : Nat} : nI a + 30 = nI (a + 30) := nI_add a 30
set_option maxRecDepth 20000 in
theorem m_give_l {sc : am_SC} {d : Nat} {Q : Option am_V → am_H → Prop} {r : Int32} (hQ : sh_Q H) (hc : c < 6) {o1 o2 : Option am_V} (hq : Q (some (.inl r)) (mp_z6 H c 30)) : ∀ i, i ≤ 30 → am_FQ l sc 109 d 108 [some (.inr (.inr (some (8, 0)))), some (.inl (nI c)), none, some (.inl r), none, some (.inl (nI (30 * c + i)))] [] (mp_z6 H c i) Q := by
  refine am_for (P := fun i => am_FQ l sc 109 d 108 [some (.inr (.inr (some (8, 0)))), some (.inl (nI c)), none, some (.inl r), none, some (.inl (nI (30 * c + i)))] [] (mp_z6 H c i) Q) 30 ?_ (fun i hi ih => ?_)
  · refine am_wl_ok (g := 0) (n := 50) (labs := []) ?_
    simp (decide := true) only [am_wp_s, am_w1_g, am_w1_l, List.lookup_nil, am_pI_c, am_pL_c, am_pR_c, am_pA_c, am_pV_I, am_pV_R, am_pN_0, am_pN_s, am_q_0, am_q_s, am_ldI_0, am_ldI_s, am_ldL_0, am_ldL_s, am_ldR_0, am_ldR_s, am_sto_0, am_sto_I, am_sto_R, am_sto_n, am_sto_L, am_sto_s, Int32.reduceOfNat, Int64.reduceOfNat, Int32.reduceOfInt, Nat.reduceAdd, am_fl_0, am_fl_1, am_fl_3, am_g_aload_n, am_g_baload, am_g_bastore, am_g_bipush, am_g_getfield, am_g_goto, am_g_i2l, am_g_iadd, am_g_iaload, am_g_iastore, am_g_iconst, am_g_ifCond_eq, am_g_ifCond_ne, am_g_if_icmp_eq, am_g_if_icmp_ge, am_g_iinc__n, am_g_iload, am_g_iload_n, am_g_imul, am_g_invokestatic, am_g_invokevirtual, am_g_ireturn, am_g_istore, am_g_istore_n, am_g_isub, am_g_lconst, List.lookup_cons, Nat.reduceBEq, at_109_0, at_109_1, at_109_2, at_109_5, at_109_8, at_109_9, at_109_11, at_109_14, at_109_15, at_109_16, at_109_17, at_109_18, at_109_21, at_109_22, at_109_23, at_109_24, at_109_27, at_109_30, at_109_31, at_109_32, at_109_33, at_109_34, at_109_35, at_109_38, at_109_39, at_109_40, at_109_42, at_109_43, at_109_45, at_109_47, at_109_49, at_109_52, at_109_54, at_109_55, at_109_58, at_109_60, at_109_61, at_109_64, at_109_65, at_109_68, at_109_70, at_109_71, at_109_72, at_109_74, at_109_75, at_109_76, at_109_79, at_109_80, at_109_81, at_109_83, at_109_86, at_109_89, at_109_92, at_109_95, at_109_96, at_109_99, at_109_100, at_109_101, at_109_102, at_109_104, at_109_105, at_109_106, at_109_108, at_109_110, at_109_112, at_109_113, at_109_114, at_109_116, at_109_117, at_109_120, at_109_121, at_109_124, at_109_126, at_109_127, at_109_128, at_109_129, at_109_132, at_109_134, at_109_135, at_109_136, at_109_137, at_109_140, at_109_142, at_109_143, at_109_144, at_109_145, at_109_148, at_109_150, at_109_151, at_109_152, at_109_153, at_109_156, at_109_158, at_109_159, at_109_160, at_109_161, at_109_164, at_109_166, at_109_167, at_109_168, at_109_171, at_109_174, at_109_175, kc_0, kc_1, kc_2, kc_3, kc_4, kc_5, kc_6, kc_7, kc_8, kc_101, kc_102, kc_201, kc_202, kc_203, kc_204, kc_205, kc_206, kc_207, kc_208, kc_209, kc_301, kc_302, kc_303, kc_304, kc_305, kc_306, kc_307, kc_308, kc_309, kc_404, kc_500, kc_504, kc_506, kc_508, kc_510, kc_511, kc_602, kc_603, kc_604, kc_605, kc_606, kc_607, kc_608, kc_701, kc_702, kc_703, kc_801, kc_802, kc_901, kc_902, kc_903, kc_905, kc_906, kc_907, kc_908, kc_909, kc_910, kc_911, kc_912, kc_913, kc_917, kc_918, kc_919, kc_920, kc_921, kc_922, kc_923, kc_924, kc_926, kc_927, kc_928, kc_929, kc_930, kc_931, kc_932, kc_933, kc_934, kc_935, kc_936, kc_937, kc_940, kc_941, kc_942, kc_944, kc_945, kc_946, kc_947, kc_948, kn_0, kn_1, kn_2, kn_3, kn_4, kn_5, kn_6, kn_7, kn_8, kn_101, kn_102, kn_201, kn_202, kn_203, kn_204, kn_205, kn_206, kn_207, kn_208, kn_209, kn_301, kn_302, kn_303, kn_304, kn_305, kn_306, kn_307, kn_308, kn_309, kn_404, kn_500, kn_504, kn_506, kn_508, kn_510, kn_511, kn_602, kn_603, kn_604, kn_605, kn_606, kn_607, kn_608, kn_701, kn_702, kn_703, kn_801, kn_802, kn_901, kn_902, kn_903, kn_905, kn_906, kn_907, kn_908, kn_909, kn_910, kn_911, kn_912, kn_913, kn_917, kn_918, kn_919, kn_920, kn_921, kn_922, kn_923, kn_924, kn_926, kn_927, kn_928, kn_929, kn_930, kn_931, kn_932, kn_933, kn_934, kn_935, kn_936, kn_937, kn_940, kn_941, kn_942, kn_944, kn_945, kn_946, kn_947, kn_948, not_true_eq_false, not_false_eq_true, implies_true, reduceCtorEq, ↓am_i99_d, ↓am_i1000_d, false_implies, Option.some.injEq, Sum.inl.injEq, Sum.inr.injEq, true_and, and_true, forall_const, true_implies, am_bl_0, am_bl_1, am_bl_b, am_bi_0, am_bi_1, am_bi_e0, am_bi_e1, Classical.not_not, am_gI_sI, am_gL_sI, am_gR_sI, am_gI_sL, am_gL_sL, am_gR_sL, am_gI_sR, am_gL_sR, am_gR_sR, am_lv_sI, am_lv_sL, am_lv_sR, ↓reduceIte, Nat.reduceEqDiff, and_false, false_and, and_self, Option.toList_some, Option.toList_none, List.cons_append, List.nil_append, List.length_cons, List.length_nil, Nat.reduceLeDiff, Nat.zero_le, List.drop_nil, nI_30m, nI_a30, am_le (Nat.le_refl (30 * c + 30)) (show 30 * c + 30 < 2 ^ 31 by omega), hq]
  · refine am_wl_ok (g := 0) (n := 50) (labs := [(45, [1, 1, 1, 1, 1, 1]), (108, [1, 1, 0, 1, 0, 1])]) ?_
    simp (decide := true) only [am_wp_s, am_w1_g, am_w1_l, List.lookup_nil, am_pI_c, am_pL_c, am_pR_c, am_pA_c, am_pV_I, am_pV_R, am_pN_0, am_pN_s, am_q_0, am_q_s, am_ldI_0, am_ldI_s, am_ldL_0, am_ldL_s, am_ldR_0, am_ldR_s, am_sto_0, am_sto_I, am_sto_R, am_sto_n, am_sto_L, am_sto_s, Int32.reduceOfNat, Int64.reduceOfNat, Int32.reduceOfInt, Nat.reduceAdd, am_fl_0, am_fl_1, am_fl_3, am_g_aload_n, am_g_baload, am_g_bastore, am_g_bipush, am_g_getfield, am_g_goto, am_g_i2l, am_g_iadd, am_g_iaload, am_g_iastore, am_g_iconst, am_g_ifCond_eq, am_g_ifCond_ne, am_g_if_icmp_eq, am_g_if_icmp_ge, am_g_iinc__n, am_g_iload, am_g_iload_n, am_g_imul, am_g_invokestatic, am_g_invokevirtual, am_g_ireturn, am_g_istore, am_g_istore_n, am_g_isub, am_g_lconst, List.lookup_cons, Nat.reduceBEq, at_109_0, at_109_1, at_109_2, at_109_5, at_109_8, at_109_9, at_109_11, at_109_14, at_109_15, at_109_16, at_109_17, at_109_18, at_109_21, at_109_22, at_109_23, at_109_24, at_109_27, at_109_30, at_109_31, at_109_32, at_109_33, at_109_34, at_109_35, at_109_38, at_109_39, at_109_40, at_109_42, at_109_43, at_109_45, at_109_47, at_109_49, at_109_52, at_109_54, at_109_55, at_109_58, at_109_60, at_109_61, at_109_64, at_109_65, at_109_68, at_109_70, at_109_71, at_109_72, at_109_74, at_109_75, at_109_76, at_109_79, at_109_80, at_109_81, at_109_83, at_109_86, at_109_89, at_109_92, at_109_95, at_109_96, at_109_99, at_109_100, at_109_101, at_109_102, at_109_104, at_109_105, at_109_106, at_109_108, at_109_110, at_109_112, at_109_113, at_109_114, at_109_116, at_109_117, at_109_120, at_109_121, at_109_124, at_109_126, at_109_127, at_109_128, at_109_129, at_109_132, at_109_134, at_109_135, at_109_136, at_109_137, at_109_140, at_109_142, at_109_143, at_109_144, at_109_145, at_109_148, at_109_150, at_109_151, at_109_152, at_109_153, at_109_156, at_109_158, at_109_159, at_109_160, at_109_161, at_109_164, at_109_166, at_109_167, at_109_168, at_109_171, at_109_174, at_109_175, kc_0, kc_1, kc_2, kc_3, kc_4, kc_5, kc_6, kc_7, kc_8, kc_101, kc_102, kc_201, kc_202, kc_203, kc_204, kc_205, kc_206, kc_207, kc_208, kc_209, kc_301, kc_302, kc_303, kc_304, kc_305, kc_306, kc_307, kc_308, kc_309, kc_404, kc_500, kc_504, kc_506, kc_508, kc_510, kc_511, kc_602, kc_603, kc_604, kc_605, kc_606, kc_607, kc_608, kc_701, kc_702, kc_703, kc_801, kc_802, kc_901, kc_902, kc_903, kc_905, kc_906, kc_907, kc_908, kc_909, kc_910, kc_911, kc_912, kc_913, kc_917, kc_918, kc_919, kc_920, kc_921, kc_922, kc_923, kc_924, kc_926, kc_927, kc_928, kc_929, kc_930, kc_931, kc_932, kc_933, kc_934, kc_935, kc_936, kc_937, kc_940, kc_941, kc_942, kc_944, kc_945, kc_946, kc_947, kc_948, kn_0, kn_1, kn_2, kn_3, kn_4, kn_5, kn_6, kn_7, kn_8, kn_101, kn_102, kn_201, kn_202, kn_203, kn_204, kn_205, kn_206, kn_207, kn_208, kn_209, kn_301, kn_302, kn_303, kn_304, kn_305, kn_306, kn_307, kn_308, kn_309, kn_404, kn_500, kn_504, kn_506, kn_508, kn_510, kn_511, kn_602, kn_603, kn_604, kn_605, kn_606, kn_607, kn_608, kn_701, kn_702, kn_703, kn_801, kn_802, kn_901, kn_902, kn_903, kn_905, kn_906, kn_907, kn_908, kn_909, kn_910, kn_911, kn_912, kn_913, kn_917, kn_918, kn_919, kn_920, kn_921, kn_922, kn_923, kn_924, kn_926, kn_927, kn_928, kn_929, kn_930, kn_931, kn_932, kn_933, kn_934, kn_935, kn_936, kn_937, kn_940, kn_941, kn_942, kn_944, kn_945, kn_946, kn_947, kn_948, not_true_eq_false, not_false_eq_true, implies_true, reduceCtorEq, ↓am_i99_d, ↓am_i1000_d, false_implies, Option.some.injEq, Sum.inl.injEq, Sum.inr.injEq, true_and, and_true, forall_const, true_implies, am_bl_0, am_bl_1, am_bl_b, am_bi_0, am_bi_1, am_bi_e0, am_bi_e1, Classical.not_not, am_gI_sI, am_gL_sI, am_gR_sI, am_gI_sL, am_gL_sL, am_gR_sL, am_gI_sR, am_gL_sR, am_gR_sR, am_lv_sI, am_lv_sL, am_lv_sR, ↓reduceIte, Nat.reduceEqDiff, and_false, false_and, and_self, Option.toList_some, Option.toList_none, List.cons_append, List.nil_append, List.length_cons, List.length_nil, Nat.reduceLeDiff, Nat.zero_le, List.drop_nil, am_tr, List.zipWith_cons_cons, List.zipWith_nil_left, List.zipWith_nil_right, Nat.reduceEqDiff, ↓reduceIte, nI_30m, nI_a30, am_ge (show 30 * c + i < 30 * c + 30 by omega) (show 30 * c + 30 < 2 ^ 31 by omega), gR_z6, q_901 hQ, q_902 hQ, q_903 hQ, q_905 hQ, q_906 hQ, q_907 hQ, q_908 hQ, q_909 hQ, q_910 hQ, q_911 hQ, q_912 hQ, q_913 hQ, q_917 hQ, q_918 hQ, q_919 hQ, q_920 hQ, q_921 hQ, q_922 hQ, q_923 hQ, q_924 hQ, q_926 hQ, q_927 hQ, q_928 hQ, q_929 hQ, q_930 hQ, q_931 hQ, q_932 hQ, q_933 hQ, q_934 hQ, q_935 hQ, q_936 hQ, q_937 hQ, q_940 hQ, q_941 hQ, q_942 hQ, q_944 hQ, q_945 hQ, q_946 hQ, q_947 hQ, q_948 hQ, vp_in_nI (show 30 * c + i < 180 by omega) (show 180 < 2 ^ 31 by decide), nI_clamp (show 30 * c + i < 2 ^ 31 by omega), mp_z6_s, nI_1]
    exact ih
set_option maxRecDepth 20000 in
theorem m_give_b {sc : am_SC} {d : Nat} {Q : Option am_V → am_H → Prop} {x : Int32} (hQ : sh_Q H) (hc : c < 6) (h : am_gI H 926 0 c = nI t) (ht : t < 9) (hN : am_gI H 917 0 t = nI N) (hN30 : N ≤ 30) (hd : 2 ≤ d)
    (hok : ∀ n, n < N → ¬ am_gI (mp_ba H c t n).2 930 0 (30 * c + n) = 0 → (am_gI H 918 0 (30 * t + n) = 9 → ∃ p, p < 12 ∧ am_gI H 932 0 (30 * c + n) = nI p) ∧ ∃ d, d < 10 ∧ mp_doing (mp_ba H c t n).2 c t n = nI d ∧ (am_gI H 911 0 d = -4 ∨ vp_in (am_gI H 911 0 d) 12))
    (hq : Q (some (.inl (mp_ba H c t N).1)) (mp_z6 (am_sI (mp_ba H c t N).2 926 0 c x) c 30)) : ∀ i, i ≤ N → am_FQ l sc 109 d 45 [some (.inr (.inr (some (8, 0)))), some (.inl (nI c)), some (.inl x), some (.inl (mp_ba H c t i).1), some (.inl (nI t)), some (.inl (nI i))] [] (mp_ba H c t i).2 Q := by
  have h4 : (nI t = -4) = False := eq_false (nI_n4 (show t < 2 ^ 31 by omega))
  refine am_for (P := fun i => am_FQ l sc 109 d 45 [some (.inr (.inr (some (8, 0)))), some (.inl (nI c)), some (.inl x), some (.inl (mp_ba H c t i).1), some (.inl (nI t)), some (.inl (nI i))] [] (mp_ba H c t i).2 Q) N ?_ (fun i hi ih => ?_)
  · refine am_wl_ok (g := 0) (n := 50) (labs := [(45, [1, 1, 1, 1, 1, 1]), (108, [1, 1, 0, 1, 0, 1])]) ?_
    have e17 : am_gI (mp_ba H c t N).2 917 0 t = nI N := (gI_mba hN30 (by decide) (by omega) (by omega) (by omega)).trans hN
    simp (decide := true) only [am_wp_s, am_w1_g, am_w1_l, List.lookup_nil, am_pI_c, am_pL_c, am_pR_c, am_pA_c, am_pV_I, am_pV_R, am_pN_0, am_pN_s, am_q_0, am_q_s, am_ldI_0, am_ldI_s, am_ldL_0, am_ldL_s, am_ldR_0, am_ldR_s, am_sto_0, am_sto_I, am_sto_R, am_sto_n, am_sto_L, am_sto_s, Int32.reduceOfNat, Int64.reduceOfNat, Int32.reduceOfInt, Nat.reduceAdd, am_fl_0, am_fl_1, am_fl_3, am_g_aload_n, am_g_baload, am_g_bastore, am_g_bipush, am_g_getfield, am_g_goto, am_g_i2l, am_g_iadd, am_g_iaload, am_g_iastore, am_g_iconst, am_g_ifCond_eq, am_g_ifCond_ne, am_g_if_icmp_eq, am_g_if_icmp_ge, am_g_iinc__n, am_g_iload, am_g_iload_n, am_g_imul, am_g_invokestatic, am_g_invokevirtual, am_g_ireturn, am_g_istore, am_g_istore_n, am_g_isub, am_g_lconst, List.lookup_cons, Nat.reduceBEq, at_109_0, at_109_1, at_109_2, at_109_5, at_109_8, at_109_9, at_109_11, at_109_14, at_109_15, at_109_16, at_109_17, at_109_18, at_109_21, at_109_22, at_109_23, at_109_24, at_109_27, at_109_30, at_109_31, at_109_32, at_109_33, at_109_34, at_109_35, at_109_38, at_109_39, at_109_40, at_109_42, at_109_43, at_109_45, at_109_47, at_109_49, at_109_52, at_109_54, at_109_55, at_109_58, at_109_60, at_109_61, at_109_64, at_109_65, at_109_68, at_109_70, at_109_71, at_109_72, at_109_74, at_109_75, at_109_76, at_109_79, at_109_80, at_109_81, at_109_83, at_109_86, at_109_89, at_109_92, at_109_95, at_109_96, at_109_99, at_109_100, at_109_101, at_109_102, at_109_104, at_109_105, at_109_106, at_109_108, at_109_110, at_109_112, at_109_113, at_109_114, at_109_116, at_109_117, at_109_120, at_109_121, at_109_124, at_109_126, at_109_127, at_109_128, at_109_129, at_109_132, at_109_134, at_109_135, at_109_136, at_109_137, at_109_140, at_109_142, at_109_143, at_109_144, at_109_145, at_109_148, at_109_150, at_109_151, at_109_152, at_109_153, at_109_156, at_109_158, at_109_159, at_109_160, at_109_161, at_109_164, at_109_166, at_109_167, at_109_168, at_109_171, at_109_174, at_109_175, kc_0, kc_1, kc_2, kc_3, kc_4, kc_5, kc_6, kc_7, kc_8, kc_101, kc_102, kc_201, kc_202, kc_203, kc_204, kc_205, kc_206, kc_207, kc_208, kc_209, kc_301, kc_302, kc_303, kc_304, kc_305, kc_306, kc_307, kc_308, kc_309, kc_404, kc_500, kc_504, kc_506, kc_508, kc_510, kc_511, kc_602, kc_603, kc_604, kc_605, kc_606, kc_607, kc_608, kc_701, kc_702, kc_703, kc_801, kc_802, kc_901, kc_902, kc_903, kc_905, kc_906, kc_907, kc_908, kc_909, kc_910, kc_911, kc_912, kc_913, kc_917, kc_918, kc_919, kc_920, kc_921, kc_922, kc_923, kc_924, kc_926, kc_927, kc_928, kc_929, kc_930, kc_931, kc_932, kc_933, kc_934, kc_935, kc_936, kc_937, kc_940, kc_941, kc_942, kc_944, kc_945, kc_946, kc_947, kc_948, kn_0, kn_1, kn_2, kn_3, kn_4, kn_5, kn_6, kn_7, kn_8, kn_101, kn_102, kn_201, kn_202, kn_203, kn_204, kn_205, kn_206, kn_207, kn_208, kn_209, kn_301, kn_302, kn_303, kn_304, kn_305, kn_306, kn_307, kn_308, kn_309, kn_404, kn_500, kn_504, kn_506, kn_508, kn_510, kn_511, kn_602, kn_603, kn_604, kn_605, kn_606, kn_607, kn_608, kn_701, kn_702, kn_703, kn_801, kn_802, kn_901, kn_902, kn_903, kn_905, kn_906, kn_907, kn_908, kn_909, kn_910, kn_911, kn_912, kn_913, kn_917, kn_918, kn_919, kn_920, kn_921, kn_922, kn_923, kn_924, kn_926, kn_927, kn_928, kn_929, kn_930, kn_931, kn_932, kn_933, kn_934, kn_935, kn_936, kn_937, kn_940, kn_941, kn_942, kn_944, kn_945, kn_946, kn_947, kn_948, not_true_eq_false, not_false_eq_true, implies_true, reduceCtorEq, ↓am_i99_d, ↓am_i1000_d, false_implies, Option.some.injEq, Sum.inl.injEq, Sum.inr.injEq, true_and, and_true, forall_const, true_implies, am_bl_0, am_bl_1, am_bl_b, am_bi_0, am_bi_1, am_bi_e0, am_bi_e1, Classical.not_not, am_gI_sI, am_gL_sI, am_gR_sI, am_gI_sL, am_gL_sL, am_gR_sL, am_gI_sR, am_gL_sR, am_gR_sR, am_lv_sI, am_lv_sL, am_lv_sR, ↓reduceIte, Nat.reduceEqDiff, and_false, false_and, and_self, Option.toList_some, Option.toList_none, List.cons_append, List.nil_append, List.length_cons, List.length_nil, Nat.reduceLeDiff, Nat.zero_le, List.drop_nil, am_tr, List.zipWith_cons_cons, List.zipWith_nil_left, List.zipWith_nil_right, Nat.reduceEqDiff, ↓reduceIte, h4, gR_mba, q_901 hQ, q_902 hQ, q_903 hQ, q_905 hQ, q_906 hQ, q_907 hQ, q_908 hQ, q_909 hQ, q_910 hQ, q_911 hQ, q_912 hQ, q_913 hQ, q_917 hQ, q_918 hQ, q_919 hQ, q_920 hQ, q_921 hQ, q_922 hQ, q_923 hQ, q_924 hQ, q_926 hQ, q_927 hQ, q_928 hQ, q_929 hQ, q_930 hQ, q_931 hQ, q_932 hQ, q_933 hQ, q_934 hQ, q_935 hQ, q_936 hQ, q_937 hQ, q_940 hQ, q_941 hQ, q_942 hQ, q_944 hQ, q_945 hQ, q_946 hQ, q_947 hQ, q_948 hQ, e17, vp_in_nI (show t < 9 by omega) (show 9 < 2 ^ 31 by decide), nI_clamp (show t < 2 ^ 31 by omega), am_le (Nat.le_refl N) (show N < 2 ^ 31 by omega), vp_in_nI (show c < 6 by omega) (show 6 < 2 ^ 31 by decide), nI_clamp (show c < 2 ^ 31 by omega), nI_30m]
    have hl := m_give_l (l := l) (H := am_sI (mp_ba H c t N).2 926 0 c x) (sc := sc) (d := d) (Q := Q) (r := (mp_ba H c t N).1) (c := c) (by simpa only [sh_Q, am_gR_sI, gR_mba] using hQ) hc (o1 := none) (o2 := none) hq 0 (by omega)
    rw [mp_z6_0] at hl
    exact hl
  · refine am_wl_ok (g := 0) (n := 50) (labs := [(45, [1, 1, 1, 1, 1, 1]), (108, [1, 1, 0, 1, 0, 1])]) ?_
    have e17 : am_gI (mp_ba H c t i).2 917 0 t = nI N := (gI_mba (by omega) (by decide) (by omega) (by omega) (by omega)).trans hN
    have hQ2 : sh_Q (mp_ba H c t i).2 := by simpa only [sh_Q, gR_mba] using hQ
    simp (decide := true) only [am_wp_s, am_w1_g, am_w1_l, List.lookup_nil, am_pI_c, am_pL_c, am_pR_c, am_pA_c, am_pV_I, am_pV_R, am_pN_0, am_pN_s, am_q_0, am_q_s, am_ldI_0, am_ldI_s, am_ldL_0, am_ldL_s, am_ldR_0, am_ldR_s, am_sto_0, am_sto_I, am_sto_R, am_sto_n, am_sto_L, am_sto_s, Int32.reduceOfNat, Int64.reduceOfNat, Int32.reduceOfInt, Nat.reduceAdd, am_fl_0, am_fl_1, am_fl_3, am_g_aload_n, am_g_baload, am_g_bastore, am_g_bipush, am_g_getfield, am_g_goto, am_g_i2l, am_g_iadd, am_g_iaload, am_g_iastore, am_g_iconst, am_g_ifCond_eq, am_g_ifCond_ne, am_g_if_icmp_eq, am_g_if_icmp_ge, am_g_iinc__n, am_g_iload, am_g_iload_n, am_g_imul, am_g_invokestatic, am_g_invokevirtual, am_g_ireturn, am_g_istore, am_g_istore_n, am_g_isub, am_g_lconst, List.lookup_cons, Nat.reduceBEq, at_109_0, at_109_1, at_109_2, at_109_5, at_109_8, at_109_9, at_109_11, at_109_14, at_109_15, at_109_16, at_109_17, at_109_18, at_109_21, at_109_22, at_109_23, at_109_24, at_109_27, at_109_30, at_109_31, at_109_32, at_109_33, at_109_34, at_109_35, at_109_38, at_109_39, at_109_40, at_109_42, at_109_43, at_109_45, at_109_47, at_109_49, at_109_52, at_109_54, at_109_55, at_109_58, at_109_60, at_109_61, at_109_64, at_109_65, at_109_68, at_109_70, at_109_71, at_109_72, at_109_74, at_109_75, at_109_76, at_109_79, at_109_80, at_109_81, at_109_83, at_109_86, at_109_89, at_109_92, at_109_95, at_109_96, at_109_99, at_109_100, at_109_101, at_109_102, at_109_104, at_109_105, at_109_106, at_109_108, at_109_110, at_109_112, at_109_113, at_109_114, at_109_116, at_109_117, at_109_120, at_109_121, at_109_124, at_109_126, at_109_127, at_109_128, at_109_129, at_109_132, at_109_134, at_109_135, at_109_136, at_109_137, at_109_140, at_109_142, at_109_143, at_109_144, at_109_145, at_109_148, at_109_150, at_109_151, at_109_152, at_109_153, at_109_156, at_109_158, at_109_159, at_109_160, at_109_161, at_109_164, at_109_166, at_109_167, at_109_168, at_109_171, at_109_174, at_109_175, kc_0, kc_1, kc_2, kc_3, kc_4, kc_5, kc_6, kc_7, kc_8, kc_101, kc_102, kc_201, kc_202, kc_203, kc_204, kc_205, kc_206, kc_207, kc_208, kc_209, kc_301, kc_302, kc_303, kc_304, kc_305, kc_306, kc_307, kc_308, kc_309, kc_404, kc_500, kc_504, kc_506, kc_508, kc_510, kc_511, kc_602, kc_603, kc_604, kc_605, kc_606, kc_607, kc_608, kc_701, kc_702, kc_703, kc_801, kc_802, kc_901, kc_902, kc_903, kc_905, kc_906, kc_907, kc_908, kc_909, kc_910, kc_911, kc_912, kc_913, kc_917, kc_918, kc_919, kc_920, kc_921, kc_922, kc_923, kc_924, kc_926, kc_927, kc_928, kc_929, kc_930, kc_931, kc_932, kc_933, kc_934, kc_935, kc_936, kc_937, kc_940, kc_941, kc_942, kc_944, kc_945, kc_946, kc_947, kc_948, kn_0, kn_1, kn_2, kn_3, kn_4, kn_5, kn_6, kn_7, kn_8, kn_101, kn_102, kn_201, kn_202, kn_203, kn_204, kn_205, kn_206, kn_207, kn_208, kn_209, kn_301, kn_302, kn_303, kn_304, kn_305, kn_306, kn_307, kn_308, kn_309, kn_404, kn_500, kn_504, kn_506, kn_508, kn_510, kn_511, kn_602, kn_603, kn_604, kn_605, kn_606, kn_607, kn_608, kn_701, kn_702, kn_703, kn_801, kn_802, kn_901, kn_902, kn_903, kn_905, kn_906, kn_907, kn_908, kn_909, kn_910, kn_911, kn_912, kn_913, kn_917, kn_918, kn_919, kn_920, kn_921, kn_922, kn_923, kn_924, kn_926, kn_927, kn_928, kn_929, kn_930, kn_931, kn_932, kn_933, kn_934, kn_935, kn_936, kn_937, kn_940, kn_941, kn_942, kn_944, kn_945, kn_946, kn_947, kn_948, not_true_eq_false, not_false_eq_true, implies_true, reduceCtorEq, ↓am_i99_d, ↓am_i1000_d, false_implies, Option.some.injEq, Sum.inl.injEq, Sum.inr.injEq, true_and, and_true, forall_const, true_implies, am_bl_0, am_bl_1, am_bl_b, am_bi_0, am_bi_1, am_bi_e0, am_bi_e1, Classical.not_not, am_gI_sI, am_gL_sI, am_gR_sI, am_gI_sL, am_gL_sL, am_gR_sL, am_gI_sR, am_gL_sR, am_gR_sR, am_lv_sI, am_lv_sL, am_lv_sR, ↓reduceIte, Nat.reduceEqDiff, and_false, false_and, and_self, Option.toList_some, Option.toList_none, List.cons_append, List.nil_append, List.length_cons, List.length_nil, Nat.reduceLeDiff, Nat.zero_le, List.drop_nil, am_tr, List.zipWith_cons_cons, List.zipWith_nil_left, List.zipWith_nil_right, Nat.reduceEqDiff, ↓reduceIte, h4, gR_mba, q_901 hQ, q_902 hQ, q_903 hQ, q_905 hQ, q_906 hQ, q_907 hQ, q_908 hQ, q_909 hQ, q_910 hQ, q_911 hQ, q_912 hQ, q_913 hQ, q_917 hQ, q_918 hQ, q_919 hQ, q_920 hQ, q_921 hQ, q_922 hQ, q_923 hQ, q_924 hQ, q_926 hQ, q_927 hQ, q_928 hQ, q_929 hQ, q_930 hQ, q_931 hQ, q_932 hQ, q_933 hQ, q_934 hQ, q_935 hQ, q_936 hQ, q_937 hQ, q_940 hQ, q_941 hQ, q_942 hQ, q_944 hQ, q_945 hQ, q_946 hQ, q_947 hQ, q_948 hQ, e17, vp_in_nI (show t < 9 by omega) (show 9 < 2 ^ 31 by decide), nI_clamp (show t < 2 ^ 31 by omega), am_ge hi (show N < 2 ^ 31 by omega), nI_30c, vp_in_nI (show 30 * c + i < 180 by omega) (show 180 < 2 ^ 31 by decide), nI_clamp (show 30 * c + i < 2 ^ 31 by omega)]
    unfold mp_ba at ih
    refine ⟨fun h0 => ?_, fun h0 => ?_⟩
    · rw [if_pos h0] at ih
      simp (decide := true) only [am_wp_s, am_w1_g, am_w1_l, List.lookup_nil, am_pI_c, am_pL_c, am_pR_c, am_pA_c, am_pV_I, am_pV_R, am_pN_0, am_pN_s, am_q_0, am_q_s, am_ldI_0, am_ldI_s, am_ldL_0, am_ldL_s, am_ldR_0, am_ldR_s, am_sto_0, am_sto_I, am_sto_R, am_sto_n, am_sto_L, am_sto_s, Int32.reduceOfNat, Int64.reduceOfNat, Int32.reduceOfInt, Nat.reduceAdd, am_fl_0, am_fl_1, am_fl_3, am_g_aload_n, am_g_baload, am_g_bastore, am_g_bipush, am_g_getfield, am_g_goto, am_g_i2l, am_g_iadd, am_g_iaload, am_g_iastore, am_g_iconst, am_g_ifCond_eq, am_g_ifCond_ne, am_g_if_icmp_eq, am_g_if_icmp_ge, am_g_iinc__n, am_g_iload, am_g_iload_n, am_g_imul, am_g_invokestatic, am_g_invokevirtual, am_g_ireturn, am_g_istore, am_g_istore_n, am_g_isub, am_g_lconst, List.lookup_cons, Nat.reduceBEq, at_109_0, at_109_1, at_109_2, at_109_5, at_109_8, at_109_9, at_109_11, at_109_14, at_109_15, at_109_16, at_109_17, at_109_18, at_109_21, at_109_22, at_109_23, at_109_24, at_109_27, at_109_30, at_109_31, at_109_32, at_109_33, at_109_34, at_109_35, at_109_38, at_109_39, at_109_40, at_109_42, at_109_43, at_109_45, at_109_47, at_109_49, at_109_52, at_109_54, at_109_55, at_109_58, at_109_60, at_109_61, at_109_64, at_109_65, at_109_68, at_109_70, at_109_71, at_109_72, at_109_74, at_109_75, at_109_76, at_109_79, at_109_80, at_109_81, at_109_83, at_109_86, at_109_89, at_109_92, at_109_95, at_109_96, at_109_99, at_109_100, at_109_101, at_109_102, at_109_104, at_109_105, at_109_106, at_109_108, at_109_110, at_109_112, at_109_113, at_109_114, at_109_116, at_109_117, at_109_120, at_109_121, at_109_124, at_109_126, at_109_127, at_109_128, at_109_129, at_109_132, at_109_134, at_109_135, at_109_136, at_109_137, at_109_140, at_109_142, at_109_143, at_109_144, at_109_145, at_109_148, at_109_150, at_109_151, at_109_152, at_109_153, at_109_156, at_109_158, at_109_159, at_109_160, at_109_161, at_109_164, at_109_166, at_109_167, at_109_168, at_109_171, at_109_174, at_109_175, kc_0, kc_1, kc_2, kc_3, kc_4, kc_5, kc_6, kc_7, kc_8, kc_101, kc_102, kc_201, kc_202, kc_203, kc_204, kc_205, kc_206, kc_207, kc_208, kc_209, kc_301, kc_302, kc_303, kc_304, kc_305, kc_306, kc_307, kc_308, kc_309, kc_404, kc_500, kc_504, kc_506, kc_508, kc_510, kc_511, kc_602, kc_603, kc_604, kc_605, kc_606, kc_607, kc_608, kc_701, kc_702, kc_703, kc_801, kc_802, kc_901, kc_902, kc_903, kc_905, kc_906, kc_907, kc_908, kc_909, kc_910, kc_911, kc_912, kc_913, kc_917, kc_918, kc_919, kc_920, kc_921, kc_922, kc_923, kc_924, kc_926, kc_927, kc_928, kc_929, kc_930, kc_931, kc_932, kc_933, kc_934, kc_935, kc_936, kc_937, kc_940, kc_941, kc_942, kc_944, kc_945, kc_946, kc_947, kc_948, kn_0, kn_1, kn_2, kn_3, kn_4, kn_5, kn_6, kn_7, kn_8, kn_101, kn_102, kn_201, kn_202, kn_203, kn_204, kn_205, kn_206, kn_207, kn_208, kn_209, kn_301, kn_302, kn_303, kn_304, kn_305, kn_306, kn_307, kn_308, kn_309, kn_404, kn_500, kn_504, kn_506, kn_508, kn_510, kn_511, kn_602, kn_603, kn_604, kn_605, kn_606, kn_607, kn_608, kn_701, kn_702, kn_703, kn_801, kn_802, kn_901, kn_902, kn_903, kn_905, kn_906, kn_907, kn_908, kn_909, kn_910, kn_911, kn_912, kn_913, kn_917, kn_918, kn_919, kn_920, kn_921, kn_922, kn_923, kn_924, kn_926, kn_927, kn_928, kn_929, kn_930, kn_931, kn_932, kn_933, kn_934, kn_935, kn_936, kn_937, kn_940, kn_941, kn_942, kn_944, kn_945, kn_946, kn_947, kn_948, not_true_eq_false, not_false_eq_true, implies_true, reduceCtorEq, ↓am_i99_d, ↓am_i1000_d, false_implies, Option.some.injEq, Sum.inl.injEq, Sum.inr.injEq, true_and, and_true, forall_const, true_implies, am_bl_0, am_bl_1, am_bl_b, am_bi_0, am_bi_1, am_bi_e0, am_bi_e1, Classical.not_not, am_gI_sI, am_gL_sI, am_gR_sI, am_gI_sL, am_gL_sL, am_gR_sL, am_gI_sR, am_gL_sR, am_gR_sR, am_lv_sI, am_lv_sL, am_lv_sR, ↓reduceIte, Nat.reduceEqDiff, and_false, false_and, and_self, Option.toList_some, Option.toList_none, List.cons_append, List.nil_append, List.length_cons, List.length_nil, Nat.reduceLeDiff, Nat.zero_le, List.drop_nil, am_tr, List.zipWith_cons_cons, List.zipWith_nil_left, List.zipWith_nil_right, Nat.reduceEqDiff, ↓reduceIte, nI_1]
      exact ih
    · rw [if_neg h0] at ih
      obtain ⟨k1, dd, k2, k3, k4⟩ := hok i hi h0
      rw [k3, nI_clamp (show dd < 2 ^ 31 by omega)] at ih
      refine am_cal_of (d' := 1) (m_breakOff c i dd hQ2 hc ?_ ht (show i < 30 by omega) ?_ k3 k2 ?_) (by omega) ?_
      · exact (gI_mba (by omega) (by decide) (by omega) (by omega) (by omega)).trans h
      · rw [gI_mba (by omega) (by decide) (by omega) (by omega) (by omega), gI_mba (by omega) (by decide) (by omega) (by omega) (by omega)]
        exact k1
      · rw [gI_mba (by omega) (by decide) (by omega) (by omega) (by omega)]
        exact k4
      · simp (decide := true) only [am_wp_s, am_w1_g, am_w1_l, List.lookup_nil, am_pI_c, am_pL_c, am_pR_c, am_pA_c, am_pV_I, am_pV_R, am_pN_0, am_pN_s, am_q_0, am_q_s, am_ldI_0, am_ldI_s, am_ldL_0, am_ldL_s, am_ldR_0, am_ldR_s, am_sto_0, am_sto_I, am_sto_R, am_sto_n, am_sto_L, am_sto_s, Int32.reduceOfNat, Int64.reduceOfNat, Int32.reduceOfInt, Nat.reduceAdd, am_fl_0, am_fl_1, am_fl_3, am_g_aload_n, am_g_baload, am_g_bastore, am_g_bipush, am_g_getfield, am_g_goto, am_g_i2l, am_g_iadd, am_g_iaload, am_g_iastore, am_g_iconst, am_g_ifCond_eq, am_g_ifCond_ne, am_g_if_icmp_eq, am_g_if_icmp_ge, am_g_iinc__n, am_g_iload, am_g_iload_n, am_g_imul, am_g_invokestatic, am_g_invokevirtual, am_g_ireturn, am_g_istore, am_g_istore_n, am_g_isub, am_g_lconst, List.lookup_cons, Nat.reduceBEq, at_109_0, at_109_1, at_109_2, at_109_5, at_109_8, at_109_9, at_109_11, at_109_14, at_109_15, at_109_16, at_109_17, at_109_18, at_109_21, at_109_22, at_109_23, at_109_24, at_109_27, at_109_30, at_109_31, at_109_32, at_109_33, at_109_34, at_109_35, at_109_38, at_109_39, at_109_40, at_109_42, at_109_43, at_109_45, at_109_47, at_109_49, at_109_52, at_109_54, at_109_55, at_109_58, at_109_60, at_109_61, at_109_64, at_109_65, at_109_68, at_109_70, at_109_71, at_109_72, at_109_74, at_109_75, at_109_76, at_109_79, at_109_80, at_109_81, at_109_83, at_109_86, at_109_89, at_109_92, at_109_95, at_109_96, at_109_99, at_109_100, at_109_101, at_109_102, at_109_104, at_109_105, at_109_106, at_109_108, at_109_110, at_109_112, at_109_113, at_109_114, at_109_116, at_109_117, at_109_120, at_109_121, at_109_124, at_109_126, at_109_127, at_109_128, at_109_129, at_109_132, at_109_134, at_109_135, at_109_136, at_109_137, at_109_140, at_109_142, at_109_143, at_109_144, at_109_145, at_109_148, at_109_150, at_109_151, at_109_152, at_109_153, at_109_156, at_109_158, at_109_159, at_109_160, at_109_161, at_109_164, at_109_166, at_109_167, at_109_168, at_109_171, at_109_174, at_109_175, kc_0, kc_1, kc_2, kc_3, kc_4, kc_5, kc_6, kc_7, kc_8, kc_101, kc_102, kc_201, kc_202, kc_203, kc_204, kc_205, kc_206, kc_207, kc_208, kc_209, kc_301, kc_302, kc_303, kc_304, kc_305, kc_306, kc_307, kc_308, kc_309, kc_404, kc_500, kc_504, kc_506, kc_508, kc_510, kc_511, kc_602, kc_603, kc_604, kc_605, kc_606, kc_607, kc_608, kc_701, kc_702, kc_703, kc_801, kc_802, kc_901, kc_902, kc_903, kc_905, kc_906, kc_907, kc_908, kc_909, kc_910, kc_911, kc_912, kc_913, kc_917, kc_918, kc_919, kc_920, kc_921, kc_922, kc_923, kc_924, kc_926, kc_927, kc_928, kc_929, kc_930, kc_931, kc_932, kc_933, kc_934, kc_935, kc_936, kc_937, kc_940, kc_941, kc_942, kc_944, kc_945, kc_946, kc_947, kc_948, kn_0, kn_1, kn_2, kn_3, kn_4, kn_5, kn_6, kn_7, kn_8, kn_101, kn_102, kn_201, kn_202, kn_203, kn_204, kn_205, kn_206, kn_207, kn_208, kn_209, kn_301, kn_302, kn_303, kn_304, kn_305, kn_306, kn_307, kn_308, kn_309, kn_404, kn_500, kn_504, kn_506, kn_508, kn_510, kn_511, kn_602, kn_603, kn_604, kn_605, kn_606, kn_607, kn_608, kn_701, kn_702, kn_703, kn_801, kn_802, kn_901, kn_902, kn_903, kn_905, kn_906, kn_907, kn_908, kn_909, kn_910, kn_911, kn_912, kn_913, kn_917, kn_918, kn_919, kn_920, kn_921, kn_922, kn_923, kn_924, kn_926, kn_927, kn_928, kn_929, kn_930, kn_931, kn_932, kn_933, kn_934, kn_935, kn_936, kn_937, kn_940, kn_941, kn_942, kn_944, kn_945, kn_946, kn_947, kn_948, not_true_eq_false, not_false_eq_true, implies_true, reduceCtorEq, ↓am_i99_d, ↓am_i1000_d, false_implies, Option.some.injEq, Sum.inl.injEq, Sum.inr.injEq, true_and, and_true, forall_const, true_implies, am_bl_0, am_bl_1, am_bl_b, am_bi_0, am_bi_1, am_bi_e0, am_bi_e1, Classical.not_not, am_gI_sI, am_gL_sI, am_gR_sI, am_gI_sL, am_gL_sL, am_gR_sL, am_gI_sR, am_gL_sR, am_gR_sR, am_lv_sI, am_lv_sL, am_lv_sR, ↓reduceIte, Nat.reduceEqDiff, and_false, false_and, and_self, Option.toList_some, Option.toList_none, List.cons_append, List.nil_append, List.length_cons, List.length_nil, Nat.reduceLeDiff, Nat.zero_le, List.drop_nil, am_tr, List.zipWith_cons_cons, List.zipWith_nil_left, List.zipWith_nil_right, Nat.reduceEqDiff, ↓reduceIte, nI_1]
        exact ih
end GV4
