/-! ===== from the machine to the claim ===== -/
set_option maxRecDepth 100000 in
theorem am_inst0 : Cond.instantiable RX0 3 ∈ lw_gt := am_gt (q := 147) rfl rfl
set_option maxRecDepth 100000 in
theorem am_inst1 : Cond.instantiable RX1 10 ∈ lw_gt := am_gt (q := 349) rfl rfl
set_option maxRecDepth 100000 in
theorem am_inst2 : Cond.instantiable RX2 10 ∈ lw_gt := am_gt (q := 103) rfl rfl
set_option maxRecDepth 100000 in
theorem am_inst3 : Cond.instantiable RX3 5 ∈ lw_gt := am_gt (q := 73) rfl rfl
set_option maxRecDepth 100000 in
theorem am_inst4 : Cond.instantiable RX4 12 ∈ lw_gt := am_gt (q := 522) rfl rfl
set_option maxRecDepth 100000 in
theorem am_inst5 : Cond.instantiable RX5 9 ∈ lw_gt := am_gt (q := 255) rfl rfl
set_option maxRecDepth 100000 in
theorem am_inst6 : Cond.instantiable RX6 4 ∈ lw_gt := am_gt (q := 79) rfl rfl
set_option maxRecDepth 100000 in
theorem am_inst7 : Cond.instantiable RX7 6 ∈ lw_gt := am_gt (q := 65) rfl rfl
set_option maxRecDepth 100000 in
theorem am_inst8 : Cond.instantiable RX8 52 ∈ lw_gt := am_gt (q := 704) rfl rfl
theorem am_cl_inst : ∀ (ci : Nat) (r : vw_C), am_cl[ci]? = some r → Cond.instantiable r.1 r.2.2 ∈ lw_gt := by
  intro ci r h
  match ci, h with
  | 0, h => cases h; exact am_inst0
  | 1, h => cases h; exact am_inst1
  | 2, h => cases h; exact am_inst2
  | 3, h => cases h; exact am_inst3
  | 4, h => cases h; exact am_inst4
  | 5, h => cases h; exact am_inst5
  | 6, h => cases h; exact am_inst6
  | 7, h => cases h; exact am_inst7
  | 8, h => cases h; exact am_inst8
  | ci + 9, h => simp [am_cl] at h
set_option maxRecDepth 100000 in
theorem am_arrI : Cond.arrayClass .int ∈ lw_gt := am_gt (q := 100) rfl rfl
set_option maxRecDepth 100000 in
theorem am_arrZ : Cond.arrayClass .boolean ∈ lw_gt := am_gt (q := 185) rfl rfl
set_option maxRecDepth 100000 in
theorem am_arrJ : Cond.arrayClass .long ∈ lw_gt := am_gt (q := 101) rfl rfl
set_option maxRecDepth 100000 in
theorem am_over0 : Cond.arrayOver (.object "WishTrees$Tree") ∈ lw_tbl := List.mem_of_getElem? (i := 187) rfl
set_option maxRecDepth 100000 in
theorem am_over1 : Cond.arrayOver (.object "WishTrees$Creature") ∈ lw_tbl := List.mem_of_getElem? (i := 189) rfl
set_option maxRecDepth 100000 in
theorem am_nestsIn : ∀ x ∈ am_nests, Cond.methodLinkNest x.1 x.2.1 x.2.2 "WishTrees" ∈ lw_tbl := by
  intro x hx
  simp only [am_nests, List.mem_cons, List.not_mem_nil, or_false] at hx
  rcases hx with rfl | rfl | rfl | rfl | rfl | rfl | rfl | rfl | rfl | rfl
  · exact List.mem_of_getElem? (i := 74) rfl
  · exact List.mem_of_getElem? (i := 80) rfl
  · exact List.mem_of_getElem? (i := 104) rfl
  · exact List.mem_of_getElem? (i := 148) rfl
  · exact List.mem_of_getElem? (i := 256) rfl
  · exact List.mem_of_getElem? (i := 336) rfl
  · exact List.mem_of_getElem? (i := 431) rfl
  · exact List.mem_of_getElem? (i := 476) rfl
  · exact List.mem_of_getElem? (i := 523) rfl
  · exact List.mem_of_getElem? (i := 582) rfl
theorem am_prim {s : State} {args : Array Value} {ty : FieldType} (h : (Cond.arrayClass ty).before args s = true) (hn : ∀ C, ty ≠ .object C) : ∃ c, ArrOfT s c ty ∧ va_RA s c ty := by
  obtain ⟨c, k, comp, h1, h2, h3⟩ := Cond.arrayClass_spec (show (Cond.arrayClass ty).holds args s none s [] = true from h)
  refine ⟨c, fun n z => ⟨(fun k h => by cases h), k, h2, comp, h3⟩, ?_⟩
  cases ty with
  | object C => exact absurd rfl (hn C)
  | _ => exact h1
theorem am_objA {s : State} {C : String} (h : va_AO C s) : ∃ c, ArrOfT s c (.object C) ∧ va_RA s c (.object C) := by
  obtain ⟨comp, c, k, h0, -, h2, h3, h4⟩ := Cond.arrayOver_spec (show (Cond.arrayOver (.object C)).holds #[] s none s [] = true from h)
  exact ⟨c, fun n z => ⟨(fun k h => by cases h), k, h2, comp, h3⟩, k, comp, h2, h3, h0, h4⟩
theorem am_K0 {s : State} {args : Array Value} (hts : ∀ w ∈ lw_gt, w.before args s = true) (hnb : am_nb s) : ∃ (D : va_G) (cA : Nat → ClassId), va_K D am_cl (am_tys cA) s := by
  have h : ∀ k : Nat, ∃ x : ClassId × (Nat → Nat), ∀ r, am_cl[k]? = some r → u_Kn s r.1 r.2.1 r.2.2 x.1 x.2 := by
    intro k
    cases hr : am_cl[k]? with
    | none => exact ⟨(0, fun _ => 0), fun r h => by cases h⟩
    | some r =>
      obtain ⟨c, iS, hk⟩ := u_known hts (am_cl_in k r hr) (hts _ (am_cl_inst k r hr))
      exact ⟨(c, iS), fun r' h' => by cases h'; exact hk⟩
  obtain ⟨c0, a0⟩ := am_prim (hts _ am_arrI) (fun C q => by cases q)
  obtain ⟨c1, a1⟩ := am_prim (hts _ am_arrZ) (fun C q => by cases q)
  obtain ⟨c2, a2⟩ := am_prim (hts _ am_arrJ) (fun C q => by cases q)
  obtain ⟨c3, a3⟩ := am_objA hnb.2.1
  obtain ⟨c4, a4⟩ := am_objA hnb.2.2
  refine ⟨(fun k => (Classical.choose (h k)).1, fun k => (Classical.choose (h k)).2), fun t => match t with
    | 0 => c0
    | 1 => c1
    | 2 => c2
    | 3 => c3
    | _ => c4, fun k r hr => Classical.choose_spec (h k) r hr, fun k q hq => ?_⟩
  match k, hq with
  | 0, hq => cases hq; exact a0
  | 1, hq => cases hq; exact a1
  | 2, hq => cases hq; exact a2
  | 3, hq => cases hq; exact a3
  | 4, hq => cases hq; exact a4
  | k + 5, hq => simp [am_tys] at hq
def am_H0 : am_H := (fun _ _ _ => 0, fun _ _ _ => 0, fun _ _ _ => none, [])
def am_fin (r : Option am_V) (H' : am_H) : Prop := r = some (.inl 1) ∧ (am_lv H').length ≤ 600000 ∧ am_ss H' ≤ 7302250
/-! THE CLAIM OUT OF ONE WALK OF THE LAW'S BODY. Your part is whole_start (and what it stands on); all else here is the same for every law, but numbers. -/
def R_law : String := "WishTreesLaw"
def lw_P (b : Addr) (xs : List Int32) (args : Array Value) (s : State) : Prop := args = #[.ref b] ∧ s.IntsAt b xs ∧ xs.length ≤ 2560 ∧ (Jvm.Cond.and given_1 narrow_1).before args s = true
def lw_Q (_ : Array Value) (s : State) (o : Outcome) (t : State) : Prop := o = .returned (some (.int 1)) ∧ Framed s o t [] 600000 7302250
def lw_Z (below : List Frame) (a : Array Value) (s : State) : State → Prop := fun t => ∃ o, t.status = .running ∧ Ended t below o ∧ lw_Q a s o t
/-- the law's own end, with 1 on the stack, nothing written that was there before, its room as the claim has it -/
theorem lw_ret {p : Program} {l : Launch} {e : Env} {s : State} {m : MethodId} {below : List Frame} {meth : Method} {c : Code} {b : Nat} (hx : p.tables.exec = Jvm.exec) (hb : c.code = code) (hr : meth.sig.returnType = ret) (hlocks : meth.locks = false) {pc : Nat} {H : Heap} {ls : Array Slot} (hdg : decode code pc = .ok (.ireturn, 1)) : W p l e room_1 s m #[Value.ref b] below meth c H [] 600000 7302250 (lw_Z below #[Value.ref b] s) (F0 m pc ls [.int 1]) := by
  intro T hT X
  obtain ⟨fs, hret, hrun, hended, hW, hframe⟩ := X.leave (v := some (.int 1)) (hlocks := hlocks) (fun h => by rw [hr] at h; cases h)
  have hmeth' : T.vm.method? m = some meth := X.method'
  refine ⟨T.setFrames fs, ?_, .returned (some (.int 1)), hrun, hended, rfl, ⟨_, rfl⟩, hW, hframe⟩
  jvm_step X.here [X.here.top, hx, hb, hdg, hmeth', hr, ret, narrow_b1]
  (try refine ⟨rfl, ?_⟩); (try refine ⟨rfl, ?_⟩)
  first | (intro acts; rw [hret _ acts rfl rfl rfl]) | rw [hret _ _ rfl rfl rfl]
  exact Steps.refl _
/-- what holds at the law's entry: the machine, the code, the tables' words (any of lw_tbl by 'hts w (by decide +kernel)'), the script of L ints xs at the cell b, what the Statement gives of the start (any of its parts by flat_of_before) -/
def lw_At (p : Program) (s : State) (m : MethodId) (meth : Method) (c : Code) (b L : Nat) (xs : Nat → Int32) : Prop :=
  p.tables.exec = Jvm.exec ∧ c.code = code ∧ meth.sig.returnType = ret ∧ c.maxLocals = 4 ∧ s.vm.findClass R_law = some m.cls ∧ (∀ w ∈ lw_tbl, w.before #[Value.ref b] s = true) ∧ va_X b L xs s s.heap ∧ b < s.heap.size ∧ meth.locks = false ∧ (Jvm.Cond.and given_1 narrow_1).before #[Value.ref b] s = true
theorem am_top {p : Program} {e : Env} {s : State} {m : MethodId} {below : List Frame} {meth : Method} {c : Code} (l : Launch) {b L : Nat} {xs : Nat → Int32} (C0 : lw_At p s m meth c b L xs) (hlaw : am_FQ l (L, xs) 145 2000 0 [some (.inr (.inr (some (99, 0)))), none, none, none] [] am_H0 am_fin) : W p l e room_1 s m #[Value.ref b] below meth c s.heap [] 0 0 (lw_Z below #[Value.ref b] s) (entryFrame m ([Value.ref b] : List Value).toArray 4) := by
  obtain ⟨hx, hb, hr, hml, hown, hts0, hX, hbl, hlocks, hgv⟩ := id C0
  have hts : ∀ w ∈ lw_gt, w.before #[Value.ref b] s = true := fun w hw => hts0 w (List.mem_filter.mp hw).1
  have hnb : am_nb s := ⟨fun x hx => va_Nw.of rfl (hts0 _ (am_nestsIn x hx)), va_AO.of (hts0 _ am_over0), va_AO.of (hts0 _ am_over1)⟩
  obtain ⟨D, cA, hK⟩ := am_K0 hts hnb
  obtain ⟨r, H', ⟨hr1, hlen, hss⟩, he, hc, hw⟩ := hlaw
  have cx : am_cx (L, xs) 145 2000 p room_1 s m #[Value.ref b] meth c D cA s.heap.size (fun _ => b) := ⟨⟨hx, hb, hml, hown⟩, hts, hnb, fun q => absurd q (by decide), hK, Nat.le_refl _, ⟨(show 2000 ≤ 2048 by decide), (show 40 * 2000 + 40 ≤ 84000 by decide)⟩, fun _ => ⟨hX, hbl⟩⟩
  have ok : am_ok am_H0 := ⟨List.Pairwise.nil, fun a h => (by cases h), fun a h => (by cases h)⟩
  have lv : am_lvs am_H0 [some (.inr (.inr (some (99, 0)))), none, none, none] [] := by
    refine ⟨fun i v hv => ?_, fun v hv => by cases hv⟩
    match i, hv with
    | 0, hv => cases hv; exact fun a ha => by cases ha; exact Or.inr rfl
    | 1, hv => cases hv
    | 2, hv => cases hv
    | 3, hv => cases hv
    | i + 4, hv => simp at hv
  have wd : am_wd D cA s.heap.size (fun _ => b) am_H0 s.heap := ⟨fun k q h => by simp [am_ws, am_lv, am_H0] at h, ⟨fun i j p q h => by simp [am_ws, am_lv, am_H0] at h, fun k q h => by simp [am_ws, am_lv, am_H0] at h⟩⟩
  have hl := lv_entry ([.ref b]) (n := 4) (Nat.le_of_ble_eq_true rfl)
  rw [lg_entry_eq]
  generalize (lg_sl ([.ref b]) ++ List.replicate (4 - (lg_sl ([.ref b])).length) Slot.unset).toArray = lsC at hl ⊢
  have hls : am_ls (fun _ => b) [some (.inr (.inr (some (99, 0)))), none, none, none] lsC (am_nL 145) := am_ls_of hl fun i v hv => by
    match i, hv with
    | 0, hv => cases hv; exact List.mem_cons_self
    | 1, hv => cases hv
    | 2, hv => cases hv
    | 3, hv => cases hv
    | i + 4, hv => simp at hv
  have e1 : am_dC am_H0 H' ≤ 600000 := by unfold am_dC; omega
  have e2 : am_dS am_H0 H' ≤ 7302250 := by unfold am_dS; omega
  refine hw p e room_1 s m #[Value.ref b] below meth c D cA s.heap.size (fun _ => b) s.heap [] 0 0 lsC (lw_Z below #[Value.ref b] s) cx ok lv wd va_S.rf hls (by rw [Nat.zero_add]; exact e1) (by rw [Nat.zero_add]; exact e2) ?_
  intro γ' Hc' locs' pc' lsC' hg hwd hS hrk
  subst hr1
  rw [Nat.zero_add, Nat.zero_add]
  show W p l e room_1 s m #[Value.ref b] below meth c Hc' ([] ++ locs') _ _ _ _
  refine W.forget (fun q hq => hS.2.2 q hq) (W.widen e1 e2 ?_)
  exact lw_ret hx hb hr hlocks hrk.1
