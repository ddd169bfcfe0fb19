/-! ===== calls ===== -/
def am_hdP (a : Nat) : Prop := lw_tbl[am_cq.getD a 0]? = some (.code (am_y a) (am_b a) (am_nL a) (am_rt a))
theorem am_hp_0 : ∀ a, a < 0 → am_hdP a := lt_0
set_option maxRecDepth 100000 in
theorem am_hp_1 : ∀ a, a < 1 → am_hdP a := lt_s am_hp_0 rfl
set_option maxRecDepth 100000 in
theorem am_hp_2 : ∀ a, a < 2 → am_hdP a := lt_s am_hp_1 rfl
set_option maxRecDepth 100000 in
theorem am_hp_3 : ∀ a, a < 3 → am_hdP a := lt_s am_hp_2 rfl
set_option maxRecDepth 100000 in
theorem am_hp_4 : ∀ a, a < 4 → am_hdP a := lt_s am_hp_3 rfl
set_option maxRecDepth 100000 in
theorem am_hp_5 : ∀ a, a < 5 → am_hdP a := lt_s am_hp_4 rfl
set_option maxRecDepth 100000 in
theorem am_hp_6 : ∀ a, a < 6 → am_hdP a := lt_s am_hp_5 rfl
set_option maxRecDepth 100000 in
theorem am_hp_7 : ∀ a, a < 7 → am_hdP a := lt_s am_hp_6 rfl
set_option maxRecDepth 100000 in
theorem am_hp_8 : ∀ a, a < 8 → am_hdP a := lt_s am_hp_7 rfl
set_option maxRecDepth 100000 in
theorem am_hp_9 : ∀ a, a < 9 → am_hdP a := lt_s am_hp_8 rfl
set_option maxRecDepth 100000 in
theorem am_hp_10 : ∀ a, a < 10 → am_hdP a := lt_s am_hp_9 rfl
set_option maxRecDepth 100000 in
theorem am_hp_11 : ∀ a, a < 11 → am_hdP a := lt_s am_hp_10 rfl
set_option maxRecDepth 100000 in
theorem am_hp_12 : ∀ a, a < 12 → am_hdP a := lt_s am_hp_11 rfl
set_option maxRecDepth 100000 in
theorem am_hp_13 : ∀ a, a < 13 → am_hdP a := lt_s am_hp_12 rfl
set_option maxRecDepth 100000 in
theorem am_hp_14 : ∀ a, a < 14 → am_hdP a := lt_s am_hp_13 rfl
set_option maxRecDepth 100000 in
theorem am_hp_15 : ∀ a, a < 15 → am_hdP a := lt_s am_hp_14 rfl
set_option maxRecDepth 100000 in
theorem am_hp_16 : ∀ a, a < 16 → am_hdP a := lt_s am_hp_15 rfl
set_option maxRecDepth 100000 in
theorem am_hp_17 : ∀ a, a < 17 → am_hdP a := lt_s am_hp_16 rfl
set_option maxRecDepth 100000 in
theorem am_hp_18 : ∀ a, a < 18 → am_hdP a := lt_s am_hp_17 rfl
set_option maxRecDepth 100000 in
theorem am_hp_19 : ∀ a, a < 19 → am_hdP a := lt_s am_hp_18 rfl
set_option maxRecDepth 100000 in
theorem am_hp_20 : ∀ a, a < 20 → am_hdP a := lt_s am_hp_19 rfl
set_option maxRecDepth 100000 in
theorem am_hp_21 : ∀ a, a < 21 → am_hdP a := lt_s am_hp_20 rfl
set_option maxRecDepth 100000 in
theorem am_hp_22 : ∀ a, a < 22 → am_hdP a := lt_s am_hp_21 rfl
set_option maxRecDepth 100000 in
theorem am_hp_23 : ∀ a, a < 23 → am_hdP a := lt_s am_hp_22 rfl
set_option maxRecDepth 100000 in
theorem am_hp_24 : ∀ a, a < 24 → am_hdP a := lt_s am_hp_23 rfl
set_option maxRecDepth 100000 in
theorem am_hp_25 : ∀ a, a < 25 → am_hdP a := lt_s am_hp_24 rfl
set_option maxRecDepth 100000 in
theorem am_hp_26 : ∀ a, a < 26 → am_hdP a := lt_s am_hp_25 rfl
set_option maxRecDepth 100000 in
theorem am_hp_27 : ∀ a, a < 27 → am_hdP a := lt_s am_hp_26 rfl
set_option maxRecDepth 100000 in
theorem am_hp_28 : ∀ a, a < 28 → am_hdP a := lt_s am_hp_27 rfl
set_option maxRecDepth 100000 in
theorem am_hp_29 : ∀ a, a < 29 → am_hdP a := lt_s am_hp_28 rfl
set_option maxRecDepth 100000 in
theorem am_hp_30 : ∀ a, a < 30 → am_hdP a := lt_s am_hp_29 rfl
set_option maxRecDepth 100000 in
theorem am_hp_31 : ∀ a, a < 31 → am_hdP a := lt_s am_hp_30 rfl
set_option maxRecDepth 100000 in
theorem am_hp_32 : ∀ a, a < 32 → am_hdP a := lt_s am_hp_31 rfl
set_option maxRecDepth 100000 in
theorem am_hp_33 : ∀ a, a < 33 → am_hdP a := lt_s am_hp_32 rfl
set_option maxRecDepth 100000 in
theorem am_hp_34 : ∀ a, a < 34 → am_hdP a := lt_s am_hp_33 rfl
set_option maxRecDepth 100000 in
theorem am_hp_35 : ∀ a, a < 35 → am_hdP a := lt_s am_hp_34 rfl
set_option maxRecDepth 100000 in
theorem am_hp_36 : ∀ a, a < 36 → am_hdP a := lt_s am_hp_35 rfl
set_option maxRecDepth 100000 in
theorem am_hp_37 : ∀ a, a < 37 → am_hdP a := lt_s am_hp_36 rfl
set_option maxRecDepth 100000 in
theorem am_hp_38 : ∀ a, a < 38 → am_hdP a := lt_s am_hp_37 rfl
set_option maxRecDepth 100000 in
theorem am_hp_39 : ∀ a, a < 39 → am_hdP a := lt_s am_hp_38 rfl
set_option maxRecDepth 100000 in
theorem am_hp_40 : ∀ a, a < 40 → am_hdP a := lt_s am_hp_39 rfl
set_option maxRecDepth 100000 in
theorem am_hp_41 : ∀ a, a < 41 → am_hdP a := lt_s am_hp_40 rfl
set_option maxRecDepth 100000 in
theorem am_hp_42 : ∀ a, a < 42 → am_hdP a := lt_s am_hp_41 rfl
set_option maxRecDepth 100000 in
theorem am_hp_43 : ∀ a, a < 43 → am_hdP a := lt_s am_hp_42 rfl
set_option maxRecDepth 100000 in
theorem am_hp_44 : ∀ a, a < 44 → am_hdP a := lt_s am_hp_43 rfl
set_option maxRecDepth 100000 in
theorem am_hp_45 : ∀ a, a < 45 → am_hdP a := lt_s am_hp_44 rfl
set_option maxRecDepth 100000 in
theorem am_hp_46 : ∀ a, a < 46 → am_hdP a := lt_s am_hp_45 rfl
set_option maxRecDepth 100000 in
theorem am_hp_47 : ∀ a, a < 47 → am_hdP a := lt_s am_hp_46 rfl
set_option maxRecDepth 100000 in
theorem am_hp_48 : ∀ a, a < 48 → am_hdP a := lt_s am_hp_47 rfl
set_option maxRecDepth 100000 in
theorem am_hp_49 : ∀ a, a < 49 → am_hdP a := lt_s am_hp_48 rfl
set_option maxRecDepth 100000 in
theorem am_hp_50 : ∀ a, a < 50 → am_hdP a := lt_s am_hp_49 rfl
set_option maxRecDepth 100000 in
theorem am_hp_51 : ∀ a, a < 51 → am_hdP a := lt_s am_hp_50 rfl
set_option maxRecDepth 100000 in
theorem am_hp_52 : ∀ a, a < 52 → am_hdP a := lt_s am_hp_51 rfl
set_option maxRecDepth 100000 in
theorem am_hp_53 : ∀ a, a < 53 → am_hdP a := lt_s am_hp_52 rfl
set_option maxRecDepth 100000 in
theorem am_hp_54 : ∀ a, a < 54 → am_hdP a := lt_s am_hp_53 rfl
set_option maxRecDepth 100000 in
theorem am_hp_55 : ∀ a, a < 55 → am_hdP a := lt_s am_hp_54 rfl
set_option maxRecDepth 100000 in
theorem am_hp_56 : ∀ a, a < 56 → am_hdP a := lt_s am_hp_55 rfl
set_option maxRecDepth 100000 in
theorem am_hp_57 : ∀ a, a < 57 → am_hdP a := lt_s am_hp_56 rfl
set_option maxRecDepth 100000 in
theorem am_hp_58 : ∀ a, a < 58 → am_hdP a := lt_s am_hp_57 rfl
set_option maxRecDepth 100000 in
theorem am_hp_59 : ∀ a, a < 59 → am_hdP a := lt_s am_hp_58 rfl
set_option maxRecDepth 100000 in
theorem am_hp_60 : ∀ a, a < 60 → am_hdP a := lt_s am_hp_59 rfl
set_option maxRecDepth 100000 in
theorem am_hp_61 : ∀ a, a < 61 → am_hdP a := lt_s am_hp_60 rfl
set_option maxRecDepth 100000 in
theorem am_hp_62 : ∀ a, a < 62 → am_hdP a := lt_s am_hp_61 rfl
set_option maxRecDepth 100000 in
theorem am_hp_63 : ∀ a, a < 63 → am_hdP a := lt_s am_hp_62 rfl
set_option maxRecDepth 100000 in
theorem am_hp_64 : ∀ a, a < 64 → am_hdP a := lt_s am_hp_63 rfl
set_option maxRecDepth 100000 in
theorem am_hp_65 : ∀ a, a < 65 → am_hdP a := lt_s am_hp_64 rfl
set_option maxRecDepth 100000 in
theorem am_hp_66 : ∀ a, a < 66 → am_hdP a := lt_s am_hp_65 rfl
set_option maxRecDepth 100000 in
theorem am_hp_67 : ∀ a, a < 67 → am_hdP a := lt_s am_hp_66 rfl
set_option maxRecDepth 100000 in
theorem am_hp_68 : ∀ a, a < 68 → am_hdP a := lt_s am_hp_67 rfl
set_option maxRecDepth 100000 in
theorem am_hp_69 : ∀ a, a < 69 → am_hdP a := lt_s am_hp_68 rfl
set_option maxRecDepth 100000 in
theorem am_hp_70 : ∀ a, a < 70 → am_hdP a := lt_s am_hp_69 rfl
set_option maxRecDepth 100000 in
theorem am_hp_71 : ∀ a, a < 71 → am_hdP a := lt_s am_hp_70 rfl
set_option maxRecDepth 100000 in
theorem am_hp_72 : ∀ a, a < 72 → am_hdP a := lt_s am_hp_71 rfl
set_option maxRecDepth 100000 in
theorem am_hp_73 : ∀ a, a < 73 → am_hdP a := lt_s am_hp_72 rfl
set_option maxRecDepth 100000 in
theorem am_hp_74 : ∀ a, a < 74 → am_hdP a := lt_s am_hp_73 rfl
set_option maxRecDepth 100000 in
theorem am_hp_75 : ∀ a, a < 75 → am_hdP a := lt_s am_hp_74 rfl
set_option maxRecDepth 100000 in
theorem am_hp_76 : ∀ a, a < 76 → am_hdP a := lt_s am_hp_75 rfl
set_option maxRecDepth 100000 in
theorem am_hp_77 : ∀ a, a < 77 → am_hdP a := lt_s am_hp_76 rfl
set_option maxRecDepth 100000 in
theorem am_hp_78 : ∀ a, a < 78 → am_hdP a := lt_s am_hp_77 rfl
set_option maxRecDepth 100000 in
theorem am_hp_79 : ∀ a, a < 79 → am_hdP a := lt_s am_hp_78 rfl
set_option maxRecDepth 100000 in
theorem am_hp_80 : ∀ a, a < 80 → am_hdP a := lt_s am_hp_79 rfl
set_option maxRecDepth 100000 in
theorem am_hp_81 : ∀ a, a < 81 → am_hdP a := lt_s am_hp_80 rfl
set_option maxRecDepth 100000 in
theorem am_hp_82 : ∀ a, a < 82 → am_hdP a := lt_s am_hp_81 rfl
set_option maxRecDepth 100000 in
theorem am_hp_83 : ∀ a, a < 83 → am_hdP a := lt_s am_hp_82 rfl
set_option maxRecDepth 100000 in
theorem am_hp_84 : ∀ a, a < 84 → am_hdP a := lt_s am_hp_83 rfl
set_option maxRecDepth 100000 in
theorem am_hp_85 : ∀ a, a < 85 → am_hdP a := lt_s am_hp_84 rfl
set_option maxRecDepth 100000 in
theorem am_hp_86 : ∀ a, a < 86 → am_hdP a := lt_s am_hp_85 rfl
set_option maxRecDepth 100000 in
theorem am_hp_87 : ∀ a, a < 87 → am_hdP a := lt_s am_hp_86 rfl
set_option maxRecDepth 100000 in
theorem am_hp_88 : ∀ a, a < 88 → am_hdP a := lt_s am_hp_87 rfl
set_option maxRecDepth 100000 in
theorem am_hp_89 : ∀ a, a < 89 → am_hdP a := lt_s am_hp_88 rfl
set_option maxRecDepth 100000 in
theorem am_hp_90 : ∀ a, a < 90 → am_hdP a := lt_s am_hp_89 rfl
set_option maxRecDepth 100000 in
theorem am_hp_91 : ∀ a, a < 91 → am_hdP a := lt_s am_hp_90 rfl
set_option maxRecDepth 100000 in
theorem am_hp_92 : ∀ a, a < 92 → am_hdP a := lt_s am_hp_91 rfl
set_option maxRecDepth 100000 in
theorem am_hp_93 : ∀ a, a < 93 → am_hdP a := lt_s am_hp_92 rfl
set_option maxRecDepth 100000 in
theorem am_hp_94 : ∀ a, a < 94 → am_hdP a := lt_s am_hp_93 rfl
set_option maxRecDepth 100000 in
theorem am_hp_95 : ∀ a, a < 95 → am_hdP a := lt_s am_hp_94 rfl
set_option maxRecDepth 100000 in
theorem am_hp_96 : ∀ a, a < 96 → am_hdP a := lt_s am_hp_95 rfl
set_option maxRecDepth 100000 in
theorem am_hp_97 : ∀ a, a < 97 → am_hdP a := lt_s am_hp_96 rfl
set_option maxRecDepth 100000 in
theorem am_hp_98 : ∀ a, a < 98 → am_hdP a := lt_s am_hp_97 rfl
set_option maxRecDepth 100000 in
theorem am_hp_99 : ∀ a, a < 99 → am_hdP a := lt_s am_hp_98 rfl
set_option maxRecDepth 100000 in
theorem am_hp_100 : ∀ a, a < 100 → am_hdP a := lt_s am_hp_99 rfl
set_option maxRecDepth 100000 in
theorem am_hp_101 : ∀ a, a < 101 → am_hdP a := lt_s am_hp_100 rfl
set_option maxRecDepth 100000 in
theorem am_hp_102 : ∀ a, a < 102 → am_hdP a := lt_s am_hp_101 rfl
set_option maxRecDepth 100000 in
theorem am_hp_103 : ∀ a, a < 103 → am_hdP a := lt_s am_hp_102 rfl
set_option maxRecDepth 100000 in
theorem am_hp_104 : ∀ a, a < 104 → am_hdP a := lt_s am_hp_103 rfl
set_option maxRecDepth 100000 in
theorem am_hp_105 : ∀ a, a < 105 → am_hdP a := lt_s am_hp_104 rfl
set_option maxRecDepth 100000 in
theorem am_hp_106 : ∀ a, a < 106 → am_hdP a := lt_s am_hp_105 rfl
set_option maxRecDepth 100000 in
theorem am_hp_107 : ∀ a, a < 107 → am_hdP a := lt_s am_hp_106 rfl
set_option maxRecDepth 100000 in
theorem am_hp_108 : ∀ a, a < 108 → am_hdP a := lt_s am_hp_107 rfl
set_option maxRecDepth 100000 in
theorem am_hp_109 : ∀ a, a < 109 → am_hdP a := lt_s am_hp_108 rfl
set_option maxRecDepth 100000 in
theorem am_hp_110 : ∀ a, a < 110 → am_hdP a := lt_s am_hp_109 rfl
set_option maxRecDepth 100000 in
theorem am_hp_111 : ∀ a, a < 111 → am_hdP a := lt_s am_hp_110 rfl
set_option maxRecDepth 100000 in
theorem am_hp_112 : ∀ a, a < 112 → am_hdP a := lt_s am_hp_111 rfl
set_option maxRecDepth 100000 in
theorem am_hp_113 : ∀ a, a < 113 → am_hdP a := lt_s am_hp_112 rfl
set_option maxRecDepth 100000 in
theorem am_hp_114 : ∀ a, a < 114 → am_hdP a := lt_s am_hp_113 rfl
set_option maxRecDepth 100000 in
theorem am_hp_115 : ∀ a, a < 115 → am_hdP a := lt_s am_hp_114 rfl
set_option maxRecDepth 100000 in
theorem am_hp_116 : ∀ a, a < 116 → am_hdP a := lt_s am_hp_115 rfl
set_option maxRecDepth 100000 in
theorem am_hp_117 : ∀ a, a < 117 → am_hdP a := lt_s am_hp_116 rfl
set_option maxRecDepth 100000 in
theorem am_hp_118 : ∀ a, a < 118 → am_hdP a := lt_s am_hp_117 rfl
set_option maxRecDepth 100000 in
theorem am_hp_119 : ∀ a, a < 119 → am_hdP a := lt_s am_hp_118 rfl
set_option maxRecDepth 100000 in
theorem am_hp_120 : ∀ a, a < 120 → am_hdP a := lt_s am_hp_119 rfl
set_option maxRecDepth 100000 in
theorem am_hp_121 : ∀ a, a < 121 → am_hdP a := lt_s am_hp_120 rfl
set_option maxRecDepth 100000 in
theorem am_hp_122 : ∀ a, a < 122 → am_hdP a := lt_s am_hp_121 rfl
set_option maxRecDepth 100000 in
theorem am_hp_123 : ∀ a, a < 123 → am_hdP a := lt_s am_hp_122 rfl
set_option maxRecDepth 100000 in
theorem am_hp_124 : ∀ a, a < 124 → am_hdP a := lt_s am_hp_123 rfl
set_option maxRecDepth 100000 in
theorem am_hp_125 : ∀ a, a < 125 → am_hdP a := lt_s am_hp_124 rfl
set_option maxRecDepth 100000 in
theorem am_hp_126 : ∀ a, a < 126 → am_hdP a := lt_s am_hp_125 rfl
set_option maxRecDepth 100000 in
theorem am_hp_127 : ∀ a, a < 127 → am_hdP a := lt_s am_hp_126 rfl
set_option maxRecDepth 100000 in
theorem am_hp_128 : ∀ a, a < 128 → am_hdP a := lt_s am_hp_127 rfl
set_option maxRecDepth 100000 in
theorem am_hp_129 : ∀ a, a < 129 → am_hdP a := lt_s am_hp_128 rfl
set_option maxRecDepth 100000 in
theorem am_hp_130 : ∀ a, a < 130 → am_hdP a := lt_s am_hp_129 rfl
set_option maxRecDepth 100000 in
theorem am_hp_131 : ∀ a, a < 131 → am_hdP a := lt_s am_hp_130 rfl
set_option maxRecDepth 100000 in
theorem am_hp_132 : ∀ a, a < 132 → am_hdP a := lt_s am_hp_131 rfl
set_option maxRecDepth 100000 in
theorem am_hp_133 : ∀ a, a < 133 → am_hdP a := lt_s am_hp_132 rfl
set_option maxRecDepth 100000 in
theorem am_hp_134 : ∀ a, a < 134 → am_hdP a := lt_s am_hp_133 rfl
set_option maxRecDepth 100000 in
theorem am_hp_135 : ∀ a, a < 135 → am_hdP a := lt_s am_hp_134 rfl
set_option maxRecDepth 100000 in
theorem am_hp_136 : ∀ a, a < 136 → am_hdP a := lt_s am_hp_135 rfl
set_option maxRecDepth 100000 in
theorem am_hp_137 : ∀ a, a < 137 → am_hdP a := lt_s am_hp_136 rfl
set_option maxRecDepth 100000 in
theorem am_hp_138 : ∀ a, a < 138 → am_hdP a := lt_s am_hp_137 rfl
set_option maxRecDepth 100000 in
theorem am_hp_139 : ∀ a, a < 139 → am_hdP a := lt_s am_hp_138 rfl
set_option maxRecDepth 100000 in
theorem am_hp_140 : ∀ a, a < 140 → am_hdP a := lt_s am_hp_139 rfl
set_option maxRecDepth 100000 in
theorem am_hp_141 : ∀ a, a < 141 → am_hdP a := lt_s am_hp_140 rfl
set_option maxRecDepth 100000 in
theorem am_hp_142 : ∀ a, a < 142 → am_hdP a := lt_s am_hp_141 rfl
set_option maxRecDepth 100000 in
theorem am_hp_143 : ∀ a, a < 143 → am_hdP a := lt_s am_hp_142 rfl
set_option maxRecDepth 100000 in
theorem am_hp_144 : ∀ a, a < 144 → am_hdP a := lt_s am_hp_143 rfl
set_option maxRecDepth 100000 in
theorem am_hp_145 : ∀ a, a < 145 → am_hdP a := lt_s am_hp_144 rfl
def am_hdB (a : Nat) : Bool := goodWord (.code (am_y a) (am_b a) (am_nL a) (am_rt a)) && decide (am_nL a ≤ 20) && plainName (am_y a).cls && decide ((am_y a).cls ≠ "java/lang/invoke/MethodHandle" ∧ (am_y a).cls ≠ "java/lang/invoke/VarHandle")
theorem am_hdAll : (List.range am_law).all am_hdB = true := by decide +kernel
theorem am_hdOk {a : Nat} (h : a < am_law) : Cond.code (am_y a) (am_b a) (am_nL a) (am_rt a) ∈ lw_gt ∧ am_nL a ≤ 20 ∧ plainName (am_y a).cls = true ∧ (am_y a).cls ≠ "java/lang/invoke/MethodHandle" ∧ (am_y a).cls ≠ "java/lang/invoke/VarHandle" := by
  have h1 := List.all_eq_true.mp am_hdAll a (List.mem_range.mpr h)
  unfold am_hdB at h1
  simp only [Bool.and_eq_true, decide_eq_true_eq] at h1
  exact ⟨am_gt (am_hp_145 a h) h1.1.1.1, h1.1.1.2, h1.1.2, h1.2⟩
theorem am_goodY {a : Nat} (h : a < am_law) : GoodIn lw_gt (am_wds a) := fun w hw => by
  rcases List.mem_cons.mp hw with rfl | q
  · exact am_goodIn _ (am_hdOk h).1
  · exact am_goodIn _ q
theorem am_blind {av : List Value} {D : va_G} {cA : Nat → ClassId} {base : Nat} {γ : am_A → Nat} {H : am_H} : FrameBlind (va_Pc av (am_Bp D cA base γ H)) := fun a U g mk q => ⟨q.1, q.2.1, q.2.2.1, va_K.moved (u := U) (U := U.calling g mk a) (Vm.Alike.refl U.vm) q.2.2.2.1, am_nb_call q.2.2.2.2⟩
section AMC
variable {l : Launch} {sc : am_SC} {id d d' pc : Nat} {ls : am_LS} {st rest as : List am_V} {H H1 : am_H} {Q : Option am_V → am_H → Prop} {a n : Nat} {r1 : Option am_V}
theorem am_pre {sc : am_SC} {id d : Nat} {p : Program} {R : Room} {s : State} {m : MethodId} {args : Array Value} {meth : Method} {c : Code} {D : va_G} {cA : Nat → ClassId} {base : Nat} {γ : am_A → Nat} {Hc : Heap} {locs : List Loc} (cx : am_cx sc id d p R s m args meth c D cA base γ) (wd : am_wd D cA base γ H Hc) (S : va_S (am_B base) s.heap Hc locs) : ∀ U : State, U.heap = Hc → s.WarmedH U.vm → am_Bp D cA base γ H U := fun U hU hW =>
  ⟨by rw [hU]; exact Nat.le_trans cx.2.2.2.2.2.1 S.1, by rw [hU]; exact wd, va_K.moved hW.alike cx.2.2.2.2.1, am_nb_warm hW cx.2.2.1⟩
theorem am_call (hAX : am_AX l a d' as H r1 H1) (hd' : d' < d) (hmem : ∀ v ∈ as, v ∈ st) (hrest : ∀ v ∈ rest, v ∈ st)
    (hRun : ∀ (p : Program) (e : Env) (R : Room) (s : State) (m : MethodId) (args : Array Value) (below : List Frame) (meth : Method) (c : Code) (D : va_G) (cA : Nat → ClassId) (base : Nat) (γ : am_A → Nat) (Hc : Heap) (locs : List Loc) (cells slots : Nat) (lsC : Array Slot),
      am_cx sc id d p R s m args meth c D cA base γ → am_ok H → am_lvs H ls st → am_wd D cA base γ H Hc → va_S (am_B base) s.heap Hc locs → am_ls γ ls lsC (am_nL id) → cells + am_dC H H1 ≤ R.cells → slots + am_dS H H1 ≤ R.slots →
      Met l (am_y a) (am_wds a) (am_rm d' (am_dC H H1) (am_dS H H1)) (va_Pc (as.map (am_cv γ)) (am_Bp D cA base γ H)) (am_Qc D cA base γ H r1 H1) (am_dC H H1) (am_dS H H1) (am_B base) →
      va_Run p l e R s m args below meth c Hc locs cells slots (am_dC H H1) (am_dS H H1) (F0 m pc lsC (st.map (am_cv γ))) (rest.map (am_cv γ)) (am_Qc D cA base γ H r1 H1 (as.map (am_cv γ)).toArray) (am_B base))
    (h : am_FQ l sc id d (pc + 3) ls (r1.toList ++ rest) H1 Q) : am_FQ l sc id d pc ls st H Q := by
  obtain ⟨r, H', hq, he, hc, hw⟩ := h
  obtain ⟨he1, hc1, hM⟩ := hAX
  have hlv : am_ok H → am_lvs H ls st → am_lvs H1 ls (r1.toList ++ rest) := fun ok lv => ⟨fun i v hv => am_lV_ext he1 (lv.1 i v hv), fun v hv => by
    rcases List.mem_append.mp hv with q | q
    · exact (hc1 ok (fun u hu => lv.2 u (hmem u hu))).2 v (Option.mem_toList.mp q)
    · exact am_lV_ext he1 (lv.2 v (hrest v q))⟩
  refine ⟨r, H', hq, am_ext_tr he1 he, fun ok lv => hc (hc1 ok (fun u hu => lv.2 u (hmem u hu))).1 (hlv ok lv), fun p e R s m args below meth c D cA base γ Hc locs cells slots lsC Q' cx ok lv wd S hl c1 c2 ex => ?_⟩
  rw [am_dC_tr he1 he, ← Nat.add_assoc] at c1 ex
  rw [am_dS_tr he1 he, ← Nat.add_assoc] at c2 ex
  have hr := hRun p e R s m args below meth c D cA base γ Hc locs cells slots lsC cx ok lv wd S hl (by omega) (by omega) (hM D cA base γ d' (Nat.le_refl d') ok (fun v hv => lv.2 v (hmem v hv)))
  intro T hT X
  obtain ⟨v, st₀, t, T', L, h0, X', hL, e1, e2, ⟨γ', hg, ho, hwd, hF⟩, hst⟩ := hr T hT X
  have hv : v = r1.map (am_cv γ') := by
    injection ho
  subst hv
  have hS : va_S (am_B base) s.heap T'.heap (locs ++ L) := by
    unfold va_F at hF
    rw [h0] at hF
    refine ⟨Nat.le_trans S.1 (by rw [e1]; exact hF.1), fun q h1 h2 => ?_, fun q hq => ?_⟩
    · rw [e1, hF.2 q (Nat.lt_of_lt_of_le h1 S.1) h2]
      exact S.2.1 q h1 h2
    · rcases List.mem_append.mp hq with z | z
      · exact S.2.2 q z
      · exact hL q z
  have hcx : am_cx sc id d p R s m args meth c D cA base γ' := by
    refine ⟨cx.1, cx.2.1, cx.2.2.1, cx.2.2.2.1, cx.2.2.2.2.1, cx.2.2.2.2.2.1, cx.2.2.2.2.2.2.1, ?_⟩
    rw [hg.1]
    exact cx.2.2.2.2.2.2.2
  have key := hw p e R s m args below meth c D cA base γ' T'.heap (locs ++ L) (cells + am_dC H H1) (slots + am_dS H H1) lsC Q' hcx (hc1 ok (fun u hu => lv.2 u (hmem u hu))).1 (hlv ok lv) (by rw [e1]; exact hwd) hS (am_ls_ag hg lv.1 hl) c1 c2 (fun γ'' Hc' locs' pc' lsC' h1 => ex γ'' Hc' locs' pc' lsC' (am_ag_tr he1 hg h1))
  rw [List.map_append, am_map_ag hg (fun v hv => lv.2 v (hrest v hv))] at key
  obtain ⟨t2, a1, b1⟩ := key T' rfl X'
  refine ⟨t2, hst t2 ?_, b1⟩
  have e3 : (r1.map (am_cv γ')).toList = r1.toList.map (am_cv γ') := by cases r1 <;> rfl
  rw [e3]
  exact a1
theorem am_cats {γ : am_A → Nat} {rest : List am_V} (h : rest.length ≤ 4) : ((rest.map (am_cv γ)).map fun v => v.category).sum ≤ 8 := by
  have h1 : ∀ (l : List Value), (l.map fun v => v.category).sum ≤ 2 * l.length := by
    intro l
    induction l with
    | nil => exact Nat.le_refl 0
    | cons v t ih =>
      have hv : v.category ≤ 2 := by rcases lv_cat v with q | q <;> omega
      simp only [List.map_cons, List.sum_cons, List.length_cons]
      omega
  have h2 := h1 (rest.map (am_cv γ))
  rw [List.length_map] at h2
  omega
theorem am_room {sc : am_SC} {id d d' a : Nat} {p : Program} {R : Room} {s : State} {m : MethodId} {args : Array Value} {meth : Method} {c : Code} {D : va_G} {cA : Nat → ClassId} {base mc ms : Nat} {γ : am_A → Nat} (cx : am_cx sc id d p R s m args meth c D cA base γ) (ha : a < am_law) (hd' : d' < d) : (am_rm d' mc ms).frames + 1 ≤ R.frames ∧ 8 + (am_nL a + 11) + (am_rm d' mc ms).locals ≤ R.locals := by
  have h1 := (am_hdOk ha).2.1
  have h2 := cx.2.2.2.2.2.2.1
  constructor
  · show d' + 1 ≤ R.frames
    omega
  · show 8 + (am_nL a + 11) + (40 * d' + 40) ≤ R.locals
    omega
theorem am_s_callV {kd j ci idx : Nat} {r : vw_C} (hd : decode (am_b id) pc = .ok (.invokevirtual idx, 3)) (ha : a < am_law) (hn : (parseMethodDescriptor (am_y a).desc).map (fun d => d.parameters.length) = some n) (hlen : as.length = n)
    (hcl : am_cl[ci]? = some r) (hc : am_c kd = ci) (hci : ci < 20) (hcls : (am_y a).cls = r.1) (hw1 : Cond.methodLink (am_y id).cls idx (am_y a) ∈ lw_gt) (hw2 : Cond.instanceMethod (am_y a) ∈ lw_gt) (hw3 : Cond.selects (am_y a).cls (am_y a) (am_y a) ∈ lw_gt) (hw4 : Cond.initialized (am_y a).cls ∈ lw_gt)
    (hr : rest.length ≤ 4) (hd' : d' < d) (hAX : am_AX l a d' (.inr (.inr (some (kd, j))) :: as) H r1 H1) (h : am_FQ l sc id d (pc + 3) ls (r1.toList ++ rest) H1 Q) : am_FQ l sc id d pc ls (as.reverse ++ .inr (.inr (some (kd, j))) :: rest) H Q := by
  have hk : kd ≠ 99 := by rintro rfl; rw [show am_c 99 = 99 from rfl] at hc; omega
  refine am_call hAX hd' (fun v hv => ?_) (fun v hv => List.mem_append_right _ (List.mem_cons_of_mem _ hv)) (fun p e R s m args below meth c D cA base γ Hc locs cells slots lsC cx ok lv wd S hl c1 c2 hM => ?_) h
  · rcases List.mem_cons.mp hv with rfl | q
    · exact List.mem_append_right _ List.mem_cons_self
    · exact List.mem_append_left _ (List.mem_reverse.mpr q)
  · obtain ⟨n0, h1, h2⟩ := am_ws_at (γ := γ) (cA := cA) (am_live lv (List.mem_append_right _ List.mem_cons_self) hk)
    rw [am_e_obj hc hci] at h2
    have hg : GoodIn lw_gt (wsV (am_y id).cls idx (am_y a).cls (am_y a) (am_wds a)) := fun w hw => by
      rcases List.mem_append.mp hw with q | q
      · simp only [List.mem_cons, List.not_mem_nil, or_false] at q
        rcases q with rfl | rfl | rfl | rfl
        · exact am_goodIn _ hw1
        · exact am_goodIn _ hw2
        · exact am_goodIn _ hw3
        · exact am_goodIn _ hw4
      · exact am_goodY ha w q
    have hrec := va_recv cx.2.2.2.2.1 wd.1 hcl h2
    rw [← hcls] at hrec
    exact va_runV (As := as.map (am_cv γ)) (rest := rest.map (am_cv γ)) ⟨cx.1.1, cx.1.2.1, cx.1.2.2.1, cx.1.2.2.2, cx.2.1⟩ hM (cwV n cx.2.1 hg rfl rfl rfl ⟨rfl, (am_hdOk ha).2.2.2.1, (am_hdOk ha).2.2.2.2, hn⟩ (am_room cx ha hd')) ⟨am_blind, hrec, fun U hU hW => ⟨rfl, am_pre cx wd S U hU hW⟩⟩ rfl (by rw [List.length_map]; exact hlen) (hl.1.trans rfl) (by
      show List.map (am_cv γ) (as.reverse ++ .inr (.inr (some (kd, j))) :: rest) = _
      rw [List.map_append, List.map_reverse]; rfl) (lv_room (am_cats hr)) hd ⟨c1, c2⟩
theorem am_s_callI {kd j idx : Nat} (hd : decode (am_b id) pc = .ok (.invokespecial idx, 3)) (ha : a < am_law) (hn : (parseMethodDescriptor (am_y a).desc).map (fun d => d.parameters.length) = some n) (hlen : as.length = n) (hini : (am_y a).name = "<init>") (hrt : am_rt a = none)
    (hw1 : Cond.methodLink (am_y id).cls idx (am_y a) ∈ lw_gt) (hw2 : Cond.instanceMethod (am_y a) ∈ lw_gt) (hw4 : Cond.initialized (am_y a).cls ∈ lw_gt)
    (hr : rest.length ≤ 4) (hd' : d' < d) (hAX : am_AX l a d' (.inr (.inr (some (kd, j))) :: as) H r1 H1) (h : am_FQ l sc id d (pc + 3) ls (r1.toList ++ rest) H1 Q) : am_FQ l sc id d pc ls (as.reverse ++ .inr (.inr (some (kd, j))) :: rest) H Q := by
  refine am_call hAX hd' (fun v hv => ?_) (fun v hv => List.mem_append_right _ (List.mem_cons_of_mem _ hv)) (fun p e R s m args below meth c D cA base γ Hc locs cells slots lsC cx ok lv wd S hl c1 c2 hM => ?_) h
  · rcases List.mem_cons.mp hv with rfl | q
    · exact List.mem_append_right _ List.mem_cons_self
    · exact List.mem_append_left _ (List.mem_reverse.mpr q)
  · have hws : am_wds a = Cond.code (am_y a) (am_b a) (am_nL a) none :: lw_gt := by unfold am_wds; rw [hrt]
    exact va_runI (As := as.map (am_cv γ)) (rest := rest.map (am_cv γ)) ⟨cx.1.1, cx.1.2.1, cx.1.2.2.1, cx.1.2.2.2, cx.2.1⟩ hM (cwI n cx.2.1 (am_goodY ha) hws rfl rfl (cx.2.1 _ hw4) (cx.2.1 _ hw1) (cx.2.1 _ hw2) hini ⟨(am_hdOk ha).2.2.2.1, (am_hdOk ha).2.2.2.2, hn⟩ (am_room cx ha hd')) ⟨am_blind, fun U hU hW => ⟨rfl, am_pre cx wd S U hU hW⟩⟩ rfl (by rw [List.length_map]; exact hlen) (hl.1.trans rfl) (by
      show List.map (am_cv γ) (as.reverse ++ .inr (.inr (some (kd, j))) :: rest) = _
      rw [List.map_append, List.map_reverse]; rfl) (lv_room (am_cats hr)) hd ⟨c1, c2⟩
theorem am_s_callIN {kd j idx : Nat} (hd : decode (am_b id) pc = .ok (.invokespecial idx, 3)) (ha : a < am_law) (hn : (parseMethodDescriptor (am_y a).desc).map (fun d => d.parameters.length) = some n) (hlen : as.length = n) (hini : (am_y a).name = "<init>") (hrt : am_rt a = none)
    (hw1 : ((am_y id).cls, idx, am_y a) ∈ am_nests) (hw2 : Cond.instanceMethod (am_y a) ∈ lw_gt) (hw4 : Cond.initialized (am_y a).cls ∈ lw_gt)
    (hr : rest.length ≤ 4) (hd' : d' < d) (hAX : am_AX l a d' (.inr (.inr (some (kd, j))) :: as) H r1 H1) (h : am_FQ l sc id d (pc + 3) ls (r1.toList ++ rest) H1 Q) : am_FQ l sc id d pc ls (as.reverse ++ .inr (.inr (some (kd, j))) :: rest) H Q := by
  refine am_call hAX hd' (fun v hv => ?_) (fun v hv => List.mem_append_right _ (List.mem_cons_of_mem _ hv)) (fun p e R s m args below meth c D cA base γ Hc locs cells slots lsC cx ok lv wd S hl c1 c2 hM => ?_) h
  · rcases List.mem_cons.mp hv with rfl | q
    · exact List.mem_append_right _ List.mem_cons_self
    · exact List.mem_append_left _ (List.mem_reverse.mpr q)
  · have hws : am_wds a = Cond.code (am_y a) (am_b a) (am_nL a) none :: lw_gt := by unfold am_wds; rw [hrt]
    exact va_runIN (As := as.map (am_cv γ)) (rest := rest.map (am_cv γ)) ⟨cx.1.1, cx.1.2.1, cx.1.2.2.1, cx.1.2.2.2, cx.2.1⟩ hM ⟨va_cnB n cx.2.1 (am_goodY ha) hws rfl rfl (cx.2.2.1.1 _ hw1) (cx.2.1 _ hw4) ⟨(am_hdOk ha).2.2.2.1, (am_hdOk ha).2.2.2.2, hn⟩ (am_room cx ha hd'), hini, cx.2.1 _ hw2⟩ ⟨am_blind, fun U hU hW => ⟨rfl, am_pre cx wd S U hU hW⟩⟩ rfl (by rw [List.length_map]; exact hlen) (hl.1.trans rfl) (by
      show List.map (am_cv γ) (as.reverse ++ .inr (.inr (some (kd, j))) :: rest) = _
      rw [List.map_append, List.map_reverse]; rfl) (lv_room (am_cats hr)) hd ⟨c1, c2⟩
theorem am_s_callS {idx : Nat} (hd : decode (am_b id) pc = .ok (.invokestatic idx, 3)) (ha : a < am_law) (hn : (parseMethodDescriptor (am_y a).desc).map (fun d => d.parameters.length) = some n) (hlen : as.length = n) (hcls : (am_y a).cls = (am_y id).cls)
    (hw1 : Cond.methodLink (am_y id).cls idx (am_y a) ∈ lw_gt) (hw2 : Cond.static (am_y a) ∈ lw_gt) (hw4 : Cond.initialized (am_y a).cls ∈ lw_gt)
    (hr : rest.length ≤ 4) (hd' : d' < d) (hAX : am_AX l a d' as H r1 H1) (h : am_FQ l sc id d (pc + 3) ls (r1.toList ++ rest) H1 Q) : am_FQ l sc id d pc ls (as.reverse ++ rest) H Q := by
  refine am_call hAX hd' (fun v hv => List.mem_append_left _ (List.mem_reverse.mpr hv)) (fun v hv => List.mem_append_right _ hv) (fun p e R s m args below meth c D cA base γ Hc locs cells slots lsC cx ok lv wd S hl c1 c2 hM => ?_) h
  have hg : GoodIn lw_gt (wsS (am_y id).cls idx (am_y a) (am_wds a)) := fun w hw => by
    rcases List.mem_append.mp hw with q | q
    · simp only [List.mem_cons, List.not_mem_nil, or_false] at q
      rcases q with rfl | rfl | rfl
      · exact am_goodIn _ hw1
      · exact am_goodIn _ hw2
      · rw [← hcls]; exact am_goodIn _ hw4
    · exact am_goodY ha w q
  exact va_runS (As := as.map (am_cv γ)) (rest := rest.map (am_cv γ)) ⟨cx.1.1, cx.1.2.1, cx.1.2.2.1, cx.1.2.2.2, cx.2.1⟩ hM (cwS n cx.2.1 hg rfl rfl rfl ⟨hcls, (am_hdOk ha).2.2.2.1, (am_hdOk ha).2.2.2.2, hn⟩ (am_room cx ha hd')) ⟨am_blind, fun U hU hW => ⟨rfl, am_pre cx wd S U hU hW⟩⟩ rfl (by rw [List.length_map]; exact hlen) (hl.1.trans rfl) (by
      show List.map (am_cv γ) (as.reverse ++ rest) = _
      rw [List.map_append, List.map_reverse]) (lv_room (am_cats hr)) hd ⟨c1, c2⟩
theorem am_s_callSN {idx : Nat} (hd : decode (am_b id) pc = .ok (.invokestatic idx, 3)) (ha : a < am_law) (hn : (parseMethodDescriptor (am_y a).desc).map (fun d => d.parameters.length) = some n) (hlen : as.length = n)
    (hw1 : ((am_y id).cls, idx, am_y a) ∈ am_nests) (hw2 : Cond.static (am_y a) ∈ lw_gt) (hw4 : Cond.initialized (am_y a).cls ∈ lw_gt)
    (hr : rest.length ≤ 4) (hd' : d' < d) (hAX : am_AX l a d' as H r1 H1) (h : am_FQ l sc id d (pc + 3) ls (r1.toList ++ rest) H1 Q) : am_FQ l sc id d pc ls (as.reverse ++ rest) H Q := by
  refine am_call hAX hd' (fun v hv => List.mem_append_left _ (List.mem_reverse.mpr hv)) (fun v hv => List.mem_append_right _ hv) (fun p e R s m args below meth c D cA base γ Hc locs cells slots lsC cx ok lv wd S hl c1 c2 hM => ?_) h
  exact va_runSN (As := as.map (am_cv γ)) (rest := rest.map (am_cv γ)) ⟨cx.1.1, cx.1.2.1, cx.1.2.2.1, cx.1.2.2.2, cx.2.1⟩ hM ⟨va_cnB n cx.2.1 (am_goodY ha) rfl rfl rfl (cx.2.2.1.1 _ hw1) (cx.2.1 _ hw4) ⟨(am_hdOk ha).2.2.2.1, (am_hdOk ha).2.2.2.2, hn⟩ (am_room cx ha hd'), cx.2.1 _ hw2, trivial⟩ ⟨am_blind, fun U hU hW => ⟨rfl, am_pre cx wd S U hU hW⟩⟩ rfl (by rw [List.length_map]; exact hlen) (hl.1.trans rfl) (by
      show List.map (am_cv γ) (as.reverse ++ rest) = _
      rw [List.map_append, List.map_reverse]) (lv_room (am_cats hr)) hd ⟨c1, c2⟩
theorem am_s_obj {idx kd j : Nat} (hd : decode (am_b id) pc = .ok (.invokespecial idx, 3)) (hw1 : Cond.methodLink (am_y id).cls idx objectInit ∈ lw_gt) (hw2 : Cond.instanceMethod objectInit ∈ lw_gt) (hw3 : Cond.code objectInit ⟨#[0xb1]⟩ 1 none ∈ lw_gt)
    (hr : st.length ≤ 4) (hd0 : 0 < d) (h : am_FQ l sc id d (pc + 3) ls st H Q) : am_FQ l sc id d pc ls (.inr (.inr (some (kd, j))) :: st) H Q := by
  refine am_step0 (fun ok hl => am_lvs_int hl (fun v hv => Or.inr (Or.inr (List.mem_cons_of_mem _ hv)))) (fun p e R s m args below meth c D cA base γ Hc locs cells slots lsC Q' cx ok lv wd S hls k => ?_) h
  have h1 := cx.2.2.2.2.2.2.1
  have h2 := am_cats (γ := γ) hr
  refine W.objInit cx.1.1 cx.1.2.1 cx.1.2.2.2 (cx.2.1 _ hw1) (cx.2.1 _ hw2) (cx.2.1 _ hw3) rfl (hls.1.trans cx.1.2.2.1.symm) rfl hd (by omega) ?_ (k lsC hls)
  show 2 * 0 + _ + 12 ≤ R.locals
  omega
end AMC
