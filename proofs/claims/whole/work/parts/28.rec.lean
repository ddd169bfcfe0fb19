/-! ===== the class: a tree is asked ===== -/
section CRC
variable {l : Launch} {H : am_H} {j t N K A S : Nat} {T : Nat → Nat → Int32}
abbrev am_G : Type := am_H → Nat → Int32 × am_H
def sp_tL (g : am_G) (T : Nat → Nat → Int32) (j n : Nat) (mem : Bool) (first go : Int32) : Nat → Nat → Int32 → am_H → Int32 × am_H
  | 0, _, ans, H => (ans, H)
  | m + 1, i, ans, H => if ans = go then
      (if nI i < first then sp_tL g T j n mem first go m (i + 1) ans H
       else if mem = true ∧ (g H (tc T n i)).1 = 3 then sp_tL g T j n mem first go m (i + 1) 3 (am_sI (g H (tc T n i)).2 204 j n (nI i))
       else sp_tL g T j n mem first go m (i + 1) (g H (tc T n i)).1 (g H (tc T n i)).2)
    else (ans, H)
def sp_turn (g : am_G) (T : Nat → Nat → Int32) (H : am_H) (j n : Nat) (go : Int32) : Int32 × am_H :=
  if T 602 n = 7 then sp_tL g T j n true (am_gI H 204 j n) go (tp T n) 0 go H else sp_tL g T j n false 0 go (tp T n) 0 go H
def sp_bL (g : am_G) (T : Nat → Nat → Int32) (n : Nat) : Nat → Nat → Int32 → Int32 → am_H → Int32 × Int32 × am_H
  | 0, _, dn, un, H => (dn, un, H)
  | m + 1, i, dn, un, H => sp_bL g T n m (i + 1) (dn + if (g H (tc T n i)).1 = 1 then 1 else 0) (un + if (g H (tc T n i)).1 = 3 then 1 else 0) (g H (tc T n i)).2
def sp_bA (b dn un : Int32) : Int32 := if b ≤ dn then 1 else if dn + un < b then 2 else 3
def sp_bes (g : am_G) (T : Nat → Nat → Int32) (H : am_H) (n : Nat) : Int32 × am_H :=
  (sp_bA (T 604 n) (sp_bL g T n (tp T n) 0 0 0 H).1 (sp_bL g T n (tp T n) 0 0 0 H).2.1, (sp_bL g T n (tp T n) 0 0 0 H).2.2)
def sp_aga (g : am_G) (T : Nat → Nat → Int32) (H : am_H) (j n : Nat) : Int32 × am_H :=
  if (g H (n + 1)).1 = 1 then (if T 603 n ≤ am_gI (g H (n + 1)).2 204 j n + 1 then 1 else 3, am_sI (g H (n + 1)).2 204 j n (am_gI (g H (n + 1)).2 204 j n + 1)) else g H (n + 1)
def sp_opp (x : Int32) : Int32 := if x = 1 then 2 else if x = 2 then 1 else x
def sp_ans (pl g : am_G) (T : Nat → Nat → Int32) (H : am_H) (j t n : Nat) : Int32 × am_H :=
  if T 602 n = 0 then sp_askD H j n (sp_doingOf H j t n)
  else if T 602 n = 1 then (if (sp_test H j t n).1 = 0 then 2 else 1, (sp_test H j t n).2)
  else if T 602 n = 2 ∨ T 602 n = 7 then sp_turn g T H j n 1
  else if T 602 n = 3 then sp_turn g T H j n 2
  else if T 602 n = 4 then sp_bes g T H n
  else if T 602 n = 5 then (if (sp_test H j t n).1 = 0 then (2, (sp_test H j t n).2) else g (sp_test H j t n).2 (n + 1))
  else if T 602 n = 6 then sp_aga g T H j n
  else if T 602 n = 8 then (sp_opp (g H (n + 1)).1, (g H (n + 1)).2)
  else pl H n
def sp_ask (pl : am_G) (T : Nat → Nat → Int32) (j t : Nat) : Nat → am_G
  | 0 => fun H _ => (2, H)
  | f + 1 => fun H n => ((sp_ans pl (sp_ask pl T j t f) T H j t n).1, sp_note (sp_ans pl (sp_ask pl T j t f) T H j t n).2 j n (sp_ans pl (sp_ask pl T j t f) T H j t n).1)
/-- what a recursive asking keeps to, from heap to heap, and how deep it goes -/
def am_gOk (l : Launch) (j t N K : Nat) (T : Nat → Nat → Int32) (g : am_G) (dg n : Nat) : Prop :=
  ∀ (H : am_H) (A S D : Nat), CI H j t N K T A S → n < N → D ≤ n → A + tn T n ≤ 1000 → S + tn T n ≤ 1073741824 → am_AX l 42 dg [.inr (.inr (some (3, 0))), .inr (.inr (some (1, j))), .inl (nI n), .inl (nI D)] H (some (.inl (g H n).1)) (g H n).2 ∧ CI (g H n).2 j t N K T (A + tn T n) (S + tn T n)
theorem tc_gt {n : Nat} : ∀ i, n + 1 ≤ tc T n i := by
  intro i
  induction i with
  | zero => exact Nat.le_refl _
  | succ i ih => show n + 1 ≤ tc T n i + tn T (tc T n i); omega
theorem tc_mono {n : Nat} : ∀ m i, tc T n i ≤ tc T n (i + m) := by
  intro m
  induction m with
  | zero => intro i; exact Nat.le_refl _
  | succ m ih => intro i; exact Nat.le_trans (ih i) (show tc T n (i + m) ≤ tc T n (i + m) + tn T (tc T n (i + m)) by omega)
set_option maxRecDepth 20000 in
theorem c_tL {sc : am_SC} {Q : Option am_V → am_H → Prop} {g : am_G} {dg dd n D : Nat} {mem : Bool} {first go : Int32} (hg : ∀ c, n < c → c < N → am_gOk l j t N K T g dg c) (hdd : dg < dd) (hT : wf_T T N K) (hn : n < N) (hD : D ≤ n) (ha : T 603 n = nI (tp T n)) (hgo : go = 1 ∨ go = 2) (hmem : mem = true → go = 1) :
    ∀ m i ans (H : am_H) (A S : Nat), i + m = tp T n → CI H j t N K T A S → A + (n + tn T n - tc T n i) ≤ 1000 → S + (n + tn T n - tc T n i) ≤ 1073741824 → (∀ A' S', A' ≤ A + (n + tn T n - tc T n i) → S' ≤ S + (n + tn T n - tc T n i) → CI (sp_tL g T j n mem first go m i ans H).2 j t N K T A' S' → Q (some (.inl (sp_tL g T j n mem first go m i ans H).1)) (sp_tL g T j n mem first go m i ans H).2) →
    am_FQ l sc 54 dd 54 [some (.inr (.inr (some (3, 0)))), some (.inr (.inr (some (1, j)))), some (.inl (nI n)), some (.inl (nI D)), some (.inl go), some (.inr (.inr (some (5, t)))), some (.inl (if mem = true then 1 else 0)), some (.inl first), some (.inl ans), some (.inl (nI (tc T n i))), some (.inl (nI i))] [] H Q := by
  have hw := hT.2.2.2.2 n hn
  have hN := hT.1.2
  have htp : tp T n ≤ 30 := by
    have h := tc_mono (T := T) (n := n)
    have : ∀ i, i ≤ tp T n → n + 1 + i ≤ tc T n i := by
      intro i
      induction i with
      | zero => intro _; exact Nat.le_refl _
      | succ i ih =>
        intro hi
        have h1 := ih (by omega)
        have h2 := (hw.2.2.1 i (by omega)).1
        have h3 := (hT.2.2.2.2 _ h2).1.1
        show n + 1 + (i + 1) ≤ tc T n i + tn T (tc T n i)
        omega
    have := this (tp T n) (Nat.le_refl _)
    have := hw.2.1
    have := hw.1
    omega
  intro m
  induction m with
  | zero =>
    intro i ans H A S hi hC hA hSb hQ
    have h603 : am_gI H 603 t n = nI (tp T n) := (hC.2.1 603 n (by omega) (by omega)).trans ha
    have e : i = tp T n := by omega
    subst e
    refine am_wl_ok (g := 0) (n := 40) (labs := []) ?_
    simp only [am_wp_s, am_w1_g, am_w1_l, List.lookup_nil, am_pI_c, am_pL_c, am_pR_c, am_pA_c, am_pV_I, am_pV_R, am_pN_0, am_pN_s, am_q_0, am_q_s, am_ldI_0, am_ldI_s, am_ldL_0, am_ldL_s, am_ldR_0, am_ldR_s, am_sto_0, am_sto_I, am_sto_R, am_sto_n, am_sto_L, am_sto_s, Int32.reduceOfNat, Int64.reduceOfNat, Int32.reduceOfInt, Nat.reduceAdd, am_fl_0, am_fl_1, am_fl_3, am_g_aload, am_g_aload_n, am_g_astore, am_g_bipush, am_g_getfield, am_g_goto, am_g_iadd, am_g_iaload, am_g_iastore, am_g_iconst, am_g_ifCond_eq, am_g_if_icmp_ge, am_g_if_icmp_lt, am_g_if_icmp_ne, am_g_iinc__n, am_g_iload, am_g_iload_n, am_g_invokevirtual, am_g_ireturn, am_g_istore, List.lookup_cons, Nat.reduceBEq, at_54_0, at_54_1, at_54_4, at_54_6, at_54_8, at_54_11, at_54_12, at_54_13, at_54_15, at_54_18, at_54_19, at_54_22, at_54_23, at_54_25, at_54_27, at_54_30, at_54_31, at_54_34, at_54_35, at_54_36, at_54_39, at_54_40, at_54_42, at_54_44, at_54_46, at_54_47, at_54_48, at_54_49, at_54_51, at_54_52, at_54_54, at_54_56, at_54_58, at_54_61, at_54_62, at_54_63, at_54_66, at_54_68, at_54_70, at_54_73, at_54_75, at_54_77, at_54_80, at_54_83, at_54_85, at_54_87, at_54_90, at_54_91, at_54_92, at_54_94, at_54_95, at_54_96, at_54_97, at_54_100, at_54_102, at_54_104, at_54_107, at_54_109, at_54_110, at_54_113, at_54_114, at_54_117, at_54_118, at_54_120, at_54_121, at_54_123, at_54_125, at_54_128, at_54_130, at_54_131, at_54_132, at_54_134, at_54_137, at_54_140, at_54_142, kc_0, kc_1, kc_2, kc_3, kc_4, kc_5, kc_6, kc_7, kc_8, kc_101, kc_102, kc_201, kc_202, kc_203, kc_204, kc_205, kc_206, kc_207, kc_208, kc_209, kc_301, kc_302, kc_303, kc_304, kc_305, kc_306, kc_307, kc_308, kc_309, kc_404, kc_500, kc_504, kc_506, kc_508, kc_510, kc_511, kc_602, kc_603, kc_604, kc_605, kc_606, kc_607, kc_608, kc_701, kc_702, kc_703, kc_801, kc_802, kc_901, kc_902, kc_903, kc_905, kc_906, kc_907, kc_908, kc_909, kc_910, kc_911, kc_912, kc_913, kc_917, kc_918, kc_919, kc_920, kc_921, kc_922, kc_923, kc_924, kc_926, kc_927, kc_928, kc_929, kc_930, kc_931, kc_932, kc_933, kc_934, kc_935, kc_936, kc_937, kc_940, kc_941, kc_942, kc_944, kc_945, kc_946, kc_947, kc_948, kn_0, kn_1, kn_2, kn_3, kn_4, kn_5, kn_6, kn_7, kn_8, kn_101, kn_102, kn_201, kn_202, kn_203, kn_204, kn_205, kn_206, kn_207, kn_208, kn_209, kn_301, kn_302, kn_303, kn_304, kn_305, kn_306, kn_307, kn_308, kn_309, kn_404, kn_500, kn_504, kn_506, kn_508, kn_510, kn_511, kn_602, kn_603, kn_604, kn_605, kn_606, kn_607, kn_608, kn_701, kn_702, kn_703, kn_801, kn_802, kn_901, kn_902, kn_903, kn_905, kn_906, kn_907, kn_908, kn_909, kn_910, kn_911, kn_912, kn_913, kn_917, kn_918, kn_919, kn_920, kn_921, kn_922, kn_923, kn_924, kn_926, kn_927, kn_928, kn_929, kn_930, kn_931, kn_932, kn_933, kn_934, kn_935, kn_936, kn_937, kn_940, kn_941, kn_942, kn_944, kn_945, kn_946, kn_947, kn_948, not_true_eq_false, not_false_eq_true, implies_true, reduceCtorEq, ↓am_i99_d, ↓am_i1000_d, false_implies, Option.some.injEq, Sum.inl.injEq, Sum.inr.injEq, true_and, and_true, forall_const, true_implies, am_bl_0, am_bl_1, am_bl_b, am_bi_0, am_bi_1, am_bi_e0, am_bi_e1, Classical.not_not, am_gI_sI, am_gL_sI, am_gR_sI, am_gI_sL, am_gL_sL, am_gR_sL, am_gI_sR, am_gL_sR, am_gR_sR, am_lv_sI, am_lv_sL, am_lv_sR, ↓reduceIte, Nat.reduceEqDiff, and_false, false_and, and_self, Option.toList_some, Option.toList_none, List.cons_append, List.nil_append, List.length_cons, List.length_nil, Nat.reduceLeDiff, Nat.zero_le, List.drop_nil, gR_z5, gR_bring, gR_breakOff, gR_endPlan, gR_askD, gR_sa, gR_settle, gR_ba, hC.1.2.2.2.2.2.2.2.1, hC.1.2.2.2.2.2.2.1, hC.1.2.2.2.2.2.2.2.2.1, h603, am_cn (show n < 30 by omega), am_vi (show n < 30 by omega), am_le (Nat.le_refl (tp T n)) (show tp T n < 2 ^ 31 by omega)]
    exact hQ A S (by omega) (by omega) hC
  | succ m ih =>
    intro i ans H A S hi hC hA hSb hQ
    have h603 : am_gI H 603 t n = nI (tp T n) := (hC.2.1 603 n (by omega) (by omega)).trans ha
    have hilt : i < tp T n := by omega
    obtain ⟨hcN, -⟩ := hw.2.2.1 i hilt
    have hcgt : n + 1 ≤ tc T n i := tc_gt i
    have hc30 : tc T n i < 30 := by omega
    have hwc := hT.2.2.2.2 _ hcN
    have h607 : am_gI H 607 t (tc T n i) = nI (tn T (tc T n i)) := (hC.2.1 607 _ (by omega) (by omega)).trans hwc.1.2.1
    have hnext : tc T n i + tn T (tc T n i) = tc T n (i + 1) := rfl
    have hle : tc T n (i + 1) ≤ n + tn T n := by
      have h := tc_mono (T := T) (n := n) (tp T n - (i + 1)) (i + 1)
      rw [show i + 1 + (tp T n - (i + 1)) = tp T n by omega, hw.2.1] at h
      exact h
    have hc1 : 1 ≤ tn T (tc T n i) := hwc.1.1
    refine am_wl_ok (g := 0) (n := 60) (labs := [(54, [1, 1, 1, 1, 1, 1, 1, 1, 1, 1, 1])]) ?_
    cases mem with
    | false =>
      simp only [am_wp_s, am_w1_g, am_w1_l, List.lookup_nil, am_pI_c, am_pL_c, am_pR_c, am_pA_c, am_pV_I, am_pV_R, am_pN_0, am_pN_s, am_q_0, am_q_s, am_ldI_0, am_ldI_s, am_ldL_0, am_ldL_s, am_ldR_0, am_ldR_s, am_sto_0, am_sto_I, am_sto_R, am_sto_n, am_sto_L, am_sto_s, Int32.reduceOfNat, Int64.reduceOfNat, Int32.reduceOfInt, Nat.reduceAdd, am_fl_0, am_fl_1, am_fl_3, am_g_aload, am_g_aload_n, am_g_astore, am_g_bipush, am_g_getfield, am_g_goto, am_g_iadd, am_g_iaload, am_g_iastore, am_g_iconst, am_g_ifCond_eq, am_g_if_icmp_ge, am_g_if_icmp_lt, am_g_if_icmp_ne, am_g_iinc__n, am_g_iload, am_g_iload_n, am_g_invokevirtual, am_g_ireturn, am_g_istore, List.lookup_cons, Nat.reduceBEq, at_54_0, at_54_1, at_54_4, at_54_6, at_54_8, at_54_11, at_54_12, at_54_13, at_54_15, at_54_18, at_54_19, at_54_22, at_54_23, at_54_25, at_54_27, at_54_30, at_54_31, at_54_34, at_54_35, at_54_36, at_54_39, at_54_40, at_54_42, at_54_44, at_54_46, at_54_47, at_54_48, at_54_49, at_54_51, at_54_52, at_54_54, at_54_56, at_54_58, at_54_61, at_54_62, at_54_63, at_54_66, at_54_68, at_54_70, at_54_73, at_54_75, at_54_77, at_54_80, at_54_83, at_54_85, at_54_87, at_54_90, at_54_91, at_54_92, at_54_94, at_54_95, at_54_96, at_54_97, at_54_100, at_54_102, at_54_104, at_54_107, at_54_109, at_54_110, at_54_113, at_54_114, at_54_117, at_54_118, at_54_120, at_54_121, at_54_123, at_54_125, at_54_128, at_54_130, at_54_131, at_54_132, at_54_134, at_54_137, at_54_140, at_54_142, kc_0, kc_1, kc_2, kc_3, kc_4, kc_5, kc_6, kc_7, kc_8, kc_101, kc_102, kc_201, kc_202, kc_203, kc_204, kc_205, kc_206, kc_207, kc_208, kc_209, kc_301, kc_302, kc_303, kc_304, kc_305, kc_306, kc_307, kc_308, kc_309, kc_404, kc_500, kc_504, kc_506, kc_508, kc_510, kc_511, kc_602, kc_603, kc_604, kc_605, kc_606, kc_607, kc_608, kc_701, kc_702, kc_703, kc_801, kc_802, kc_901, kc_902, kc_903, kc_905, kc_906, kc_907, kc_908, kc_909, kc_910, kc_911, kc_912, kc_913, kc_917, kc_918, kc_919, kc_920, kc_921, kc_922, kc_923, kc_924, kc_926, kc_927, kc_928, kc_929, kc_930, kc_931, kc_932, kc_933, kc_934, kc_935, kc_936, kc_937, kc_940, kc_941, kc_942, kc_944, kc_945, kc_946, kc_947, kc_948, kn_0, kn_1, kn_2, kn_3, kn_4, kn_5, kn_6, kn_7, kn_8, kn_101, kn_102, kn_201, kn_202, kn_203, kn_204, kn_205, kn_206, kn_207, kn_208, kn_209, kn_301, kn_302, kn_303, kn_304, kn_305, kn_306, kn_307, kn_308, kn_309, kn_404, kn_500, kn_504, kn_506, kn_508, kn_510, kn_511, kn_602, kn_603, kn_604, kn_605, kn_606, kn_607, kn_608, kn_701, kn_702, kn_703, kn_801, kn_802, kn_901, kn_902, kn_903, kn_905, kn_906, kn_907, kn_908, kn_909, kn_910, kn_911, kn_912, kn_913, kn_917, kn_918, kn_919, kn_920, kn_921, kn_922, kn_923, kn_924, kn_926, kn_927, kn_928, kn_929, kn_930, kn_931, kn_932, kn_933, kn_934, kn_935, kn_936, kn_937, kn_940, kn_941, kn_942, kn_944, kn_945, kn_946, kn_947, kn_948, not_true_eq_false, not_false_eq_true, implies_true, reduceCtorEq, ↓am_i99_d, ↓am_i1000_d, false_implies, Option.some.injEq, Sum.inl.injEq, Sum.inr.injEq, true_and, and_true, forall_const, true_implies, am_bl_0, am_bl_1, am_bl_b, am_bi_0, am_bi_1, am_bi_e0, am_bi_e1, Classical.not_not, am_gI_sI, am_gL_sI, am_gR_sI, am_gI_sL, am_gL_sL, am_gR_sL, am_gI_sR, am_gL_sR, am_gR_sR, am_lv_sI, am_lv_sL, am_lv_sR, ↓reduceIte, Nat.reduceEqDiff, and_false, false_and, and_self, Option.toList_some, Option.toList_none, List.cons_append, List.nil_append, List.length_cons, List.length_nil, Nat.reduceLeDiff, Nat.zero_le, List.drop_nil, gR_z5, gR_bring, gR_breakOff, gR_endPlan, gR_askD, gR_sa, gR_settle, gR_ba, am_tr, List.zipWith_cons_cons, List.zipWith_nil_left, List.zipWith_nil_right, Nat.reduceEqDiff, ↓reduceIte, Bool.false_eq_true, hC.1.2.2.2.2.2.2.2.1, hC.1.2.2.2.2.2.2.1, hC.1.2.2.2.2.2.2.2.2.1, hC.1.2.2.2.2.2.2.2.2.2.2.2.1, hC.2.2.1, h603, h607, am_cn (show n < 30 by omega), am_vi (show n < 30 by omega), am_cn hc30, am_vi hc30, am_ge hilt (show tp T n < 2 ^ 31 by omega), am_ge hcN (show N < 2 ^ 31 by omega), nI_1, nI_add, hnext]
      refine ⟨fun h1 => ?_, fun h1 => ⟨fun h2 => ?_, fun h2 => ?_⟩⟩
      · unfold sp_tL at hQ
        rw [if_neg h1] at hQ
        exact hQ A S (by omega) (by omega) hC
      · unfold sp_tL at hQ
        rw [if_pos h1, if_pos h2] at hQ
        exact ih (i + 1) ans H A S (by omega) hC (by omega) (by omega) (fun A' S' q1 q2 q3 => hQ A' S' (by omega) (by omega) q3)
      · unfold sp_tL at hQ
        rw [if_pos h1, if_neg h2, if_neg (fun q => by cases q.1)] at hQ
        obtain ⟨hX, hC2⟩ := hg (tc T n i) (by omega) hcN H A S (D + 1) hC hcN (by omega) (by omega) (by omega)
        refine am_cal_of hX hdd ?_
        have h607' : am_gI (g H (tc T n i)).2 607 t (tc T n i) = nI (tn T (tc T n i)) := (hC2.2.1 607 _ (by omega) (by omega)).trans hwc.1.2.1
        simp only [am_wp_s, am_w1_g, am_w1_l, List.lookup_nil, am_pI_c, am_pL_c, am_pR_c, am_pA_c, am_pV_I, am_pV_R, am_pN_0, am_pN_s, am_q_0, am_q_s, am_ldI_0, am_ldI_s, am_ldL_0, am_ldL_s, am_ldR_0, am_ldR_s, am_sto_0, am_sto_I, am_sto_R, am_sto_n, am_sto_L, am_sto_s, Int32.reduceOfNat, Int64.reduceOfNat, Int32.reduceOfInt, Nat.reduceAdd, am_fl_0, am_fl_1, am_fl_3, am_g_aload, am_g_aload_n, am_g_astore, am_g_bipush, am_g_getfield, am_g_goto, am_g_iadd, am_g_iaload, am_g_iastore, am_g_iconst, am_g_ifCond_eq, am_g_if_icmp_ge, am_g_if_icmp_lt, am_g_if_icmp_ne, am_g_iinc__n, am_g_iload, am_g_iload_n, am_g_invokevirtual, am_g_ireturn, am_g_istore, List.lookup_cons, Nat.reduceBEq, at_54_0, at_54_1, at_54_4, at_54_6, at_54_8, at_54_11, at_54_12, at_54_13, at_54_15, at_54_18, at_54_19, at_54_22, at_54_23, at_54_25, at_54_27, at_54_30, at_54_31, at_54_34, at_54_35, at_54_36, at_54_39, at_54_40, at_54_42, at_54_44, at_54_46, at_54_47, at_54_48, at_54_49, at_54_51, at_54_52, at_54_54, at_54_56, at_54_58, at_54_61, at_54_62, at_54_63, at_54_66, at_54_68, at_54_70, at_54_73, at_54_75, at_54_77, at_54_80, at_54_83, at_54_85, at_54_87, at_54_90, at_54_91, at_54_92, at_54_94, at_54_95, at_54_96, at_54_97, at_54_100, at_54_102, at_54_104, at_54_107, at_54_109, at_54_110, at_54_113, at_54_114, at_54_117, at_54_118, at_54_120, at_54_121, at_54_123, at_54_125, at_54_128, at_54_130, at_54_131, at_54_132, at_54_134, at_54_137, at_54_140, at_54_142, kc_0, kc_1, kc_2, kc_3, kc_4, kc_5, kc_6, kc_7, kc_8, kc_101, kc_102, kc_201, kc_202, kc_203, kc_204, kc_205, kc_206, kc_207, kc_208, kc_209, kc_301, kc_302, kc_303, kc_304, kc_305, kc_306, kc_307, kc_308, kc_309, kc_404, kc_500, kc_504, kc_506, kc_508, kc_510, kc_511, kc_602, kc_603, kc_604, kc_605, kc_606, kc_607, kc_608, kc_701, kc_702, kc_703, kc_801, kc_802, kc_901, kc_902, kc_903, kc_905, kc_906, kc_907, kc_908, kc_909, kc_910, kc_911, kc_912, kc_913, kc_917, kc_918, kc_919, kc_920, kc_921, kc_922, kc_923, kc_924, kc_926, kc_927, kc_928, kc_929, kc_930, kc_931, kc_932, kc_933, kc_934, kc_935, kc_936, kc_937, kc_940, kc_941, kc_942, kc_944, kc_945, kc_946, kc_947, kc_948, kn_0, kn_1, kn_2, kn_3, kn_4, kn_5, kn_6, kn_7, kn_8, kn_101, kn_102, kn_201, kn_202, kn_203, kn_204, kn_205, kn_206, kn_207, kn_208, kn_209, kn_301, kn_302, kn_303, kn_304, kn_305, kn_306, kn_307, kn_308, kn_309, kn_404, kn_500, kn_504, kn_506, kn_508, kn_510, kn_511, kn_602, kn_603, kn_604, kn_605, kn_606, kn_607, kn_608, kn_701, kn_702, kn_703, kn_801, kn_802, kn_901, kn_902, kn_903, kn_905, kn_906, kn_907, kn_908, kn_909, kn_910, kn_911, kn_912, kn_913, kn_917, kn_918, kn_919, kn_920, kn_921, kn_922, kn_923, kn_924, kn_926, kn_927, kn_928, kn_929, kn_930, kn_931, kn_932, kn_933, kn_934, kn_935, kn_936, kn_937, kn_940, kn_941, kn_942, kn_944, kn_945, kn_946, kn_947, kn_948, not_true_eq_false, not_false_eq_true, implies_true, reduceCtorEq, ↓am_i99_d, ↓am_i1000_d, false_implies, Option.some.injEq, Sum.inl.injEq, Sum.inr.injEq, true_and, and_true, forall_const, true_implies, am_bl_0, am_bl_1, am_bl_b, am_bi_0, am_bi_1, am_bi_e0, am_bi_e1, Classical.not_not, am_gI_sI, am_gL_sI, am_gR_sI, am_gI_sL, am_gL_sL, am_gR_sL, am_gI_sR, am_gL_sR, am_gR_sR, am_lv_sI, am_lv_sL, am_lv_sR, ↓reduceIte, Nat.reduceEqDiff, and_false, false_and, and_self, Option.toList_some, Option.toList_none, List.cons_append, List.nil_append, List.length_cons, List.length_nil, Nat.reduceLeDiff, Nat.zero_le, List.drop_nil, gR_z5, gR_bring, gR_breakOff, gR_endPlan, gR_askD, gR_sa, gR_settle, gR_ba, am_tr, List.zipWith_cons_cons, List.zipWith_nil_left, List.zipWith_nil_right, Nat.reduceEqDiff, ↓reduceIte, hC2.1.2.2.2.2.2.2.2.2.2.2.2.1, h607', am_cn hc30, am_vi hc30, nI_1, nI_add, hnext]
        exact ih (i + 1) _ _ _ _ (by omega) hC2 (by omega) (by omega) (fun A' S' q1 q2 q3 => hQ A' S' (by omega) (by omega) q3)
    | true =>
      have hg1 := hmem rfl
      subst hg1
      have hb : am_gI H 204 j n = am_gI H 204 j n := rfl
      simp (decide := true) only [am_wp_s, am_w1_g, am_w1_l, List.lookup_nil, am_pI_c, am_pL_c, am_pR_c, am_pA_c, am_pV_I, am_pV_R, am_pN_0, am_pN_s, am_q_0, am_q_s, am_ldI_0, am_ldI_s, am_ldL_0, am_ldL_s, am_ldR_0, am_ldR_s, am_sto_0, am_sto_I, am_sto_R, am_sto_n, am_sto_L, am_sto_s, Int32.reduceOfNat, Int64.reduceOfNat, Int32.reduceOfInt, Nat.reduceAdd, am_fl_0, am_fl_1, am_fl_3, am_g_aload, am_g_aload_n, am_g_astore, am_g_bipush, am_g_getfield, am_g_goto, am_g_iadd, am_g_iaload, am_g_iastore, am_g_iconst, am_g_ifCond_eq, am_g_if_icmp_ge, am_g_if_icmp_lt, am_g_if_icmp_ne, am_g_iinc__n, am_g_iload, am_g_iload_n, am_g_invokevirtual, am_g_ireturn, am_g_istore, List.lookup_cons, Nat.reduceBEq, at_54_0, at_54_1, at_54_4, at_54_6, at_54_8, at_54_11, at_54_12, at_54_13, at_54_15, at_54_18, at_54_19, at_54_22, at_54_23, at_54_25, at_54_27, at_54_30, at_54_31, at_54_34, at_54_35, at_54_36, at_54_39, at_54_40, at_54_42, at_54_44, at_54_46, at_54_47, at_54_48, at_54_49, at_54_51, at_54_52, at_54_54, at_54_56, at_54_58, at_54_61, at_54_62, at_54_63, at_54_66, at_54_68, at_54_70, at_54_73, at_54_75, at_54_77, at_54_80, at_54_83, at_54_85, at_54_87, at_54_90, at_54_91, at_54_92, at_54_94, at_54_95, at_54_96, at_54_97, at_54_100, at_54_102, at_54_104, at_54_107, at_54_109, at_54_110, at_54_113, at_54_114, at_54_117, at_54_118, at_54_120, at_54_121, at_54_123, at_54_125, at_54_128, at_54_130, at_54_131, at_54_132, at_54_134, at_54_137, at_54_140, at_54_142, kc_0, kc_1, kc_2, kc_3, kc_4, kc_5, kc_6, kc_7, kc_8, kc_101, kc_102, kc_201, kc_202, kc_203, kc_204, kc_205, kc_206, kc_207, kc_208, kc_209, kc_301, kc_302, kc_303, kc_304, kc_305, kc_306, kc_307, kc_308, kc_309, kc_404, kc_500, kc_504, kc_506, kc_508, kc_510, kc_511, kc_602, kc_603, kc_604, kc_605, kc_606, kc_607, kc_608, kc_701, kc_702, kc_703, kc_801, kc_802, kc_901, kc_902, kc_903, kc_905, kc_906, kc_907, kc_908, kc_909, kc_910, kc_911, kc_912, kc_913, kc_917, kc_918, kc_919, kc_920, kc_921, kc_922, kc_923, kc_924, kc_926, kc_927, kc_928, kc_929, kc_930, kc_931, kc_932, kc_933, kc_934, kc_935, kc_936, kc_937, kc_940, kc_941, kc_942, kc_944, kc_945, kc_946, kc_947, kc_948, kn_0, kn_1, kn_2, kn_3, kn_4, kn_5, kn_6, kn_7, kn_8, kn_101, kn_102, kn_201, kn_202, kn_203, kn_204, kn_205, kn_206, kn_207, kn_208, kn_209, kn_301, kn_302, kn_303, kn_304, kn_305, kn_306, kn_307, kn_308, kn_309, kn_404, kn_500, kn_504, kn_506, kn_508, kn_510, kn_511, kn_602, kn_603, kn_604, kn_605, kn_606, kn_607, kn_608, kn_701, kn_702, kn_703, kn_801, kn_802, kn_901, kn_902, kn_903, kn_905, kn_906, kn_907, kn_908, kn_909, kn_910, kn_911, kn_912, kn_913, kn_917, kn_918, kn_919, kn_920, kn_921, kn_922, kn_923, kn_924, kn_926, kn_927, kn_928, kn_929, kn_930, kn_931, kn_932, kn_933, kn_934, kn_935, kn_936, kn_937, kn_940, kn_941, kn_942, kn_944, kn_945, kn_946, kn_947, kn_948, not_true_eq_false, not_false_eq_true, implies_true, reduceCtorEq, ↓am_i99_d, ↓am_i1000_d, false_implies, Option.some.injEq, Sum.inl.injEq, Sum.inr.injEq, true_and, and_true, forall_const, true_implies, am_bl_0, am_bl_1, am_bl_b, am_bi_0, am_bi_1, am_bi_e0, am_bi_e1, Classical.not_not, am_gI_sI, am_gL_sI, am_gR_sI, am_gI_sL, am_gL_sL, am_gR_sL, am_gI_sR, am_gL_sR, am_gR_sR, am_lv_sI, am_lv_sL, am_lv_sR, ↓reduceIte, Nat.reduceEqDiff, and_false, false_and, and_self, Option.toList_some, Option.toList_none, List.cons_append, List.nil_append, List.length_cons, List.length_nil, Nat.reduceLeDiff, Nat.zero_le, List.drop_nil, gR_z5, gR_bring, gR_breakOff, gR_endPlan, gR_askD, gR_sa, gR_settle, gR_ba, am_tr, List.zipWith_cons_cons, List.zipWith_nil_left, List.zipWith_nil_right, Nat.reduceEqDiff, ↓reduceIte, if_true, hC.1.2.2.2.2.2.2.2.1, hC.1.2.2.2.2.1.2.2.2.1, hC.1.2.2.2.2.2.2.1, hC.1.2.2.2.2.2.2.2.2.1, hC.1.2.2.2.2.2.2.2.2.2.2.2.1, hC.2.2.1, h603, h607, am_cn (show n < 30 by omega), am_vi (show n < 30 by omega), am_cn hc30, am_vi hc30, am_ge hilt (show tp T n < 2 ^ 31 by omega), am_ge hcN (show N < 2 ^ 31 by omega), nI_1, nI_add, hnext]
      refine ⟨fun h1 => ?_, fun h1 => ⟨fun h2 => ⟨fun h3 => ?_, fun h3 => ?_⟩, fun h2 => ?_⟩⟩
      · unfold sp_tL at hQ
        rw [if_neg h1] at hQ
        exact hQ A S (by omega) (by omega) hC
      · unfold sp_tL at hQ
        rw [if_pos h1, if_pos h2] at hQ
        exact ih (i + 1) ans H A S (by omega) hC (by omega) (by omega) (fun A' S' q1 q2 q3 => hQ A' S' (by omega) (by omega) q3)
      · rw [h1] at h3
        exact absurd h3 (by decide)
      · unfold sp_tL at hQ
        rw [if_pos h1, if_neg h2] at hQ
        obtain ⟨hX, hC2⟩ := hg (tc T n i) (by omega) hcN H A S (D + 1) hC hcN (by omega) (by omega) (by omega)
        refine am_cal_of hX hdd ?_
        have h607' : am_gI (g H (tc T n i)).2 607 t (tc T n i) = nI (tn T (tc T n i)) := (hC2.2.1 607 _ (by omega) (by omega)).trans hwc.1.2.1
        simp (decide := true) only [am_wp_s, am_w1_g, am_w1_l, List.lookup_nil, am_pI_c, am_pL_c, am_pR_c, am_pA_c, am_pV_I, am_pV_R, am_pN_0, am_pN_s, am_q_0, am_q_s, am_ldI_0, am_ldI_s, am_ldL_0, am_ldL_s, am_ldR_0, am_ldR_s, am_sto_0, am_sto_I, am_sto_R, am_sto_n, am_sto_L, am_sto_s, Int32.reduceOfNat, Int64.reduceOfNat, Int32.reduceOfInt, Nat.reduceAdd, am_fl_0, am_fl_1, am_fl_3, am_g_aload, am_g_aload_n, am_g_astore, am_g_bipush, am_g_getfield, am_g_goto, am_g_iadd, am_g_iaload, am_g_iastore, am_g_iconst, am_g_ifCond_eq, am_g_if_icmp_ge, am_g_if_icmp_lt, am_g_if_icmp_ne, am_g_iinc__n, am_g_iload, am_g_iload_n, am_g_invokevirtual, am_g_ireturn, am_g_istore, List.lookup_cons, Nat.reduceBEq, at_54_0, at_54_1, at_54_4, at_54_6, at_54_8, at_54_11, at_54_12, at_54_13, at_54_15, at_54_18, at_54_19, at_54_22, at_54_23, at_54_25, at_54_27, at_54_30, at_54_31, at_54_34, at_54_35, at_54_36, at_54_39, at_54_40, at_54_42, at_54_44, at_54_46, at_54_47, at_54_48, at_54_49, at_54_51, at_54_52, at_54_54, at_54_56, at_54_58, at_54_61, at_54_62, at_54_63, at_54_66, at_54_68, at_54_70, at_54_73, at_54_75, at_54_77, at_54_80, at_54_83, at_54_85, at_54_87, at_54_90, at_54_91, at_54_92, at_54_94, at_54_95, at_54_96, at_54_97, at_54_100, at_54_102, at_54_104, at_54_107, at_54_109, at_54_110, at_54_113, at_54_114, at_54_117, at_54_118, at_54_120, at_54_121, at_54_123, at_54_125, at_54_128, at_54_130, at_54_131, at_54_132, at_54_134, at_54_137, at_54_140, at_54_142, kc_0, kc_1, kc_2, kc_3, kc_4, kc_5, kc_6, kc_7, kc_8, kc_101, kc_102, kc_201, kc_202, kc_203, kc_204, kc_205, kc_206, kc_207, kc_208, kc_209, kc_301, kc_302, kc_303, kc_304, kc_305, kc_306, kc_307, kc_308, kc_309, kc_404, kc_500, kc_504, kc_506, kc_508, kc_510, kc_511, kc_602, kc_603, kc_604, kc_605, kc_606, kc_607, kc_608, kc_701, kc_702, kc_703, kc_801, kc_802, kc_901, kc_902, kc_903, kc_905, kc_906, kc_907, kc_908, kc_909, kc_910, kc_911, kc_912, kc_913, kc_917, kc_918, kc_919, kc_920, kc_921, kc_922, kc_923, kc_924, kc_926, kc_927, kc_928, kc_929, kc_930, kc_931, kc_932, kc_933, kc_934, kc_935, kc_936, kc_937, kc_940, kc_941, kc_942, kc_944, kc_945, kc_946, kc_947, kc_948, kn_0, kn_1, kn_2, kn_3, kn_4, kn_5, kn_6, kn_7, kn_8, kn_101, kn_102, kn_201, kn_202, kn_203, kn_204, kn_205, kn_206, kn_207, kn_208, kn_209, kn_301, kn_302, kn_303, kn_304, kn_305, kn_306, kn_307, kn_308, kn_309, kn_404, kn_500, kn_504, kn_506, kn_508, kn_510, kn_511, kn_602, kn_603, kn_604, kn_605, kn_606, kn_607, kn_608, kn_701, kn_702, kn_703, kn_801, kn_802, kn_901, kn_902, kn_903, kn_905, kn_906, kn_907, kn_908, kn_909, kn_910, kn_911, kn_912, kn_913, kn_917, kn_918, kn_919, kn_920, kn_921, kn_922, kn_923, kn_924, kn_926, kn_927, kn_928, kn_929, kn_930, kn_931, kn_932, kn_933, kn_934, kn_935, kn_936, kn_937, kn_940, kn_941, kn_942, kn_944, kn_945, kn_946, kn_947, kn_948, not_true_eq_false, not_false_eq_true, implies_true, reduceCtorEq, ↓am_i99_d, ↓am_i1000_d, false_implies, Option.some.injEq, Sum.inl.injEq, Sum.inr.injEq, true_and, and_true, forall_const, true_implies, am_bl_0, am_bl_1, am_bl_b, am_bi_0, am_bi_1, am_bi_e0, am_bi_e1, Classical.not_not, am_gI_sI, am_gL_sI, am_gR_sI, am_gI_sL, am_gL_sL, am_gR_sL, am_gI_sR, am_gL_sR, am_gR_sR, am_lv_sI, am_lv_sL, am_lv_sR, ↓reduceIte, Nat.reduceEqDiff, and_false, false_and, and_self, Option.toList_some, Option.toList_none, List.cons_append, List.nil_append, List.length_cons, List.length_nil, Nat.reduceLeDiff, Nat.zero_le, List.drop_nil, gR_z5, gR_bring, gR_breakOff, gR_endPlan, gR_askD, gR_sa, gR_settle, gR_ba, am_tr, List.zipWith_cons_cons, List.zipWith_nil_left, List.zipWith_nil_right, Nat.reduceEqDiff, ↓reduceIte, hC2.1.2.2.2.2.1.2.2.2.1, hC2.1.2.2.2.2.2.2.2.2.2.2.2.1, h607', am_cn (show n < 30 by omega), am_vi (show n < 30 by omega), am_cn hc30, am_vi hc30, nI_1, nI_add, hnext]
        refine ⟨fun h3 => ?_, fun h3 => ?_⟩
        · rw [if_neg (fun q => h3 q.2)] at hQ
          exact ih (i + 1) _ _ _ _ (by omega) hC2 (by omega) (by omega) (fun A' S' q1 q2 q3 => hQ A' S' (by omega) (by omega) q3)
        · rw [if_pos ⟨rfl, h3⟩] at hQ
          rw [h3]
          exact ih (i + 1) _ _ _ _ (by omega) (CI_sI (by decide) hC2) (by omega) (by omega) (fun A' S' q1 q2 q3 => hQ A' S' (by omega) (by omega) q3)
end CRC
