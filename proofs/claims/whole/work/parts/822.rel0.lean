section REL0
theorem gI_mkz {k j : Nat} : ∀ (L : List (Nat × Nat)) (H : am_H), (∀ a b c, am_gI H a b c = 0 ∧ am_gL H a b c = 0) → ∀ a b c, am_gI (am_mk H k j L) a b c = 0 ∧ am_gL (am_mk H k j L) a b c = 0 := by
  intro L
  induction L with
  | nil => intro H h; exact h
  | cons q t ih =>
    intro H h
    refine ih _ (fun a b c => ?_)
    constructor
    · show (if a = q.2 ∧ b = j then (0 : Int32) else am_gI H a b c) = 0
      split
      · rfl
      · exact (h a b c).1
    · show (if a = q.2 ∧ b = j then (0 : Int64) else am_gL H a b c) = 0
      split
      · rfl
      · exact (h a b c).2
theorem gI_nwz {H : am_H} {q : am_A} (h : ∀ a b c, am_gI H a b c = 0 ∧ am_gL H a b c = 0) : ∀ a b c, am_gI (am_nw H q) a b c = 0 ∧ am_gL (am_nw H q) a b c = 0 := by
  intro a b c
  constructor
  · show (if a = q.1 ∧ b = q.2 then (0 : Int32) else am_gI H a b c) = 0
    split
    · rfl
    · exact (h a b c).1
  · show (if a = q.1 ∧ b = q.2 then (0 : Int64) else am_gL H a b c) = 0
    split
    · rfl
    · exact (h a b c).2
theorem gI_sRz {H : am_H} {x y z : Nat} {o : Option am_A} (h : ∀ a b c, am_gI H a b c = 0 ∧ am_gL H a b c = 0) : ∀ a b c, am_gI (am_sR H x y z o) a b c = 0 ∧ am_gL (am_sR H x y z o) a b c = 0 := h
theorem z_H0 : ∀ a b c, am_gI am_H0 a b c = 0 ∧ am_gL am_H0 a b c = 0 := fun _ _ _ => ⟨rfl, rfl⟩
theorem z_h9 : ∀ a b c, am_gI h9 a b c = 0 ∧ am_gL h9 a b c = 0 := by
  unfold h9 h8a h7b h6b h5b h4b h3b h3a h2b h2a h1b h1a h0b h0a
  exact gI_mkz _ _ (gI_nwz (gI_sRz (gI_nwz (gI_sRz (gI_nwz (gI_sRz (gI_sRz (gI_nwz (gI_sRz (gI_mkz _ _ (gI_nwz (gI_sRz (gI_mkz _ _ (gI_nwz (gI_sRz (gI_mkz _ _ (gI_nwz (gI_nwz (gI_nwz z_H0)))))))))))))))))))
theorem sm_er {f : am_A → Nat} {a : am_A} : ∀ (u : List am_A), a ∈ u → (u.map f).sum = f a + ((u.erase a).map f).sum := by
  intro u
  induction u with
  | nil => intro h; cases h
  | cons b t ih =>
    intro h
    by_cases hb : b = a
    · subst hb
      simp
    · rw [List.erase_cons_tail (by simpa using hb)]
      have := ih ((List.mem_cons.mp h).resolve_left (fun q => hb q.symm))
      simp only [List.map_cons, List.sum_cons, this]
      omega
theorem sm_sub {f : am_A → Nat} : ∀ (l u : List am_A), l.Nodup → (∀ a ∈ l, a ∈ u) → (l.map f).sum ≤ (u.map f).sum := by
  intro l
  induction l with
  | nil => intro u _ _; simp
  | cons a t ih =>
    intro u hn hs
    rw [sm_er u (hs a List.mem_cons_self)]
    have hn2 := List.nodup_cons.mp hn
    have := ih (u.erase a) hn2.2 (fun b hb => by
      have hne : b ≠ a := fun q => hn2.1 (q ▸ hb)
      exact (List.mem_erase_of_ne hne).mpr (hs b (List.mem_cons_of_mem _ hb)))
    simp only [List.map_cons, List.sum_cons]
    omega
theorem sm_len (l : List am_A) : (l.map (fun _ => 1)).sum = l.length := by
  induction l with
  | nil => rfl
  | cons a t ih => simp only [List.map_cons, List.sum_cons, List.length_cons, ih]; omega
theorem U_ss : (U_all.map (fun a => am_n a.1)).sum ≤ 7302250 := by decide +kernel
theorem U_le : (U_all.map (fun _ => 1)).sum ≤ 600000 := by decide +kernel
theorem RI_b (n : Nat) (H : am_H) (h : RI n H) : (am_lv H).length ≤ 600000 ∧ am_ss H ≤ 7302250 := by
  obtain ⟨D, T, N, K, Mt, TA, Cn, -, ⟨h1, h2⟩, -⟩ := h
  constructor
  · rw [← sm_len]
    exact Nat.le_trans (sm_sub _ _ h1 (fun a ha => (h2 a ha).1)) U_le
  · exact Nat.le_trans (sm_sub _ _ h1 (fun a ha => (h2 a ha).1)) U_ss
theorem wf_P_mono {H : am_H} {S S2 : Nat} (hS : S ≤ S2) (h : wf_P H S) : wf_P H S2 := by
  rcases h with h | ⟨q1, q2, s, hs, q3⟩
  · exact Or.inl h
  · exact Or.inr ⟨q1, q2, s, by omega, q3⟩
theorem RI_s (n : Nat) (H : am_H) (h : RI n H) : RI (n + 1) H := by
  obtain ⟨D, T, N, K, Mt, TA, Cn, a1, a2, a3, a4, a5⟩ := h
  exact ⟨D, T, N, K, Mt, TA, Cn, a1, a2, a3, wf_P_mono (by omega) a4, a5⟩
set_option maxRecDepth 20000 in
theorem RI_0 : RI 0 h9 := by
  refine ⟨fun _ _ => 0, fun _ _ _ => 0, fun _ => 0, 0, 0, 0, 0, ⟨?_, ?_, ?_, ?_, ?_, ?_⟩, ⟨by decide +kernel, by decide +kernel⟩, ?_, Or.inl ⟨by decide +kernel, by decide +kernel⟩, ?_, ?_, ?_, ?_, Or.inl ⟨by decide +kernel, (z_h9 _ _ _).1⟩, ?_, ?_, ?_⟩
  · unfold sh_L; decide +kernel
  · unfold sh_M; decide +kernel
  · unfold sh_W; decide +kernel
  · unfold sh_D; decide +kernel
  · unfold sh_X; decide +kernel
  · unfold sh_Q; decide +kernel
  · intro k hk h
    rw [(z_h9 _ _ _).1] at h
    cases h
  · refine ⟨by rw [(z_h9 _ _ _).1, (z_h9 _ _ _).1], ⟨0, by omega, (z_h9 _ _ _).1⟩, fun k hk => ⟨by rw [(z_h9 _ _ _).1, (z_h9 _ _ _).1], by rw [(z_h9 _ _ _).2, (z_h9 _ _ _).2], fun h => ?_⟩⟩
    rw [(z_h9 _ _ _).1] at h
    cases h
  · refine ⟨by omega, (z_h9 _ _ _).1, (z_h9 _ _ _).1, fun i hi => ?_, fun i hi => by omega, fun i hi => ⟨⟨0, by omega, rfl⟩, ⟨0, by omega, rfl⟩, ⟨0, by omega, rfl⟩, ⟨0, by omega, rfl⟩⟩⟩
    simp only [(z_h9 _ _ _).1, and_self]
  · exact ⟨by omega, (z_h9 _ _ _).1, (z_h9 _ _ _).1, fun t ht => by omega⟩
  · refine ⟨by omega, by omega, by omega, fun t ht => ⟨fun h => by omega, fun _ => ?_⟩⟩
    have : t = 0 ∨ t = 1 ∨ t = 2 ∨ t = 3 ∨ t = 4 ∨ t = 5 ∨ t = 6 ∨ t = 7 := by omega
    rcases this with rfl | rfl | rfl | rfl | rfl | rfl | rfl | rfl <;> decide +kernel
  · exact ⟨by omega, (z_h9 _ _ _).1, (z_h9 _ _ _).1, fun c hc => by omega, fun c _ _ i _ => (z_h9 _ _ _).1⟩
  · exact ⟨0, by omega, (z_h9 _ _ _).1, (z_h9 _ _ _).1, fun i hi => by simp only [(z_h9 _ _ _).1, and_self]⟩
  · exact fun k hk => Or.inl (z_h9 _ _ _).1
end REL0
