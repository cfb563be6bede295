theorem k_13 : Cond.instantiable "TabledOrigin" 6 ∈ zws := zin 13 (by decide +kernel) rfl
theorem k_580 : Cond.instantiable "TabledOriginModel" 40 ∈ zws := zin 580 (by decide +kernel) rfl
theorem k_12 : Cond.classLink "TabledOriginLaw" 7 "TabledOrigin" ∈ zws := zin 12 (by decide +kernel) rfl
theorem k_579 : Cond.classLink "TabledOriginLaw" 10 "TabledOriginModel" ∈ zws := zin 579 (by decide +kernel) rfl
theorem k_14 : Cond.methodLink "TabledOriginLaw" 9 ⟨"TabledOrigin", "<init>", "()V"⟩ ∈ zws := zin 14 (by decide +kernel) rfl
theorem k_581 : Cond.methodLink "TabledOriginLaw" 12 ⟨"TabledOriginModel", "<init>", "()V"⟩ ∈ zws := zin 581 (by decide +kernel) rfl
/-! THE CLAIM OUT OF ONE WALK OF THE LAW'S BODY. Your part is whole_start (and what it stands on); all else here is the same for every law, but numbers. -/
def R_law : String := "TabledOriginLaw"
def lw_P (b : Addr) (xs : List Int32) (args : Array Value) (s : State) : Prop := args = #[.ref b] ∧ s.IntsAt b xs ∧ xs.length ≤ 2048 ∧ (Jvm.Cond.and given_1 narrow_1).before args s = true
def lw_Q (_ : Array Value) (s : State) (o : Outcome) (t : State) : Prop := o = .returned (some (.int 1)) ∧ Framed s o t [] 600000 7302250
def lw_Z (below : List Frame) (a : Array Value) (s : State) : State → Prop := fun t => ∃ o, t.status = .running ∧ Ended t below o ∧ lw_Q a s o t
/-- the law's own end, with 1 on the stack, nothing written that was there before, its room as the claim has it -/
theorem lw_ret {p : Program} {l : Launch} {e : Env} {s : State} {m : MethodId} {below : List Frame} {meth : Method} {c : Code} {b : Nat} (hx : p.tables.exec = Jvm.exec) (hb : c.code = code) (hr : meth.sig.returnType = ret) (hlocks : meth.locks = false) {pc : Nat} {H : Heap} {ls : Array Slot} (hdg : decode code pc = .ok (.ireturn, 1)) : W p l e room_1 s m #[Value.ref b] below meth c H [] 600000 7302250 (lw_Z below #[Value.ref b] s) (F0 m pc ls [.int 1]) := by
  intro T hT X
  obtain ⟨fs, hret, hrun, hended, hW, hframe⟩ := X.leave (v := some (.int 1)) (hlocks := hlocks) (fun h => by rw [hr] at h; cases h)
  have hmeth' : T.vm.method? m = some meth := X.method'
  refine ⟨T.setFrames fs, ?_, .returned (some (.int 1)), hrun, hended, rfl, ⟨_, rfl⟩, hW, hframe⟩
  jvm_step X.here [X.here.top, hx, hb, hdg, hmeth', hr, ret, narrow_b1]
  (try refine ⟨rfl, ?_⟩); (try refine ⟨rfl, ?_⟩)
  first | (intro acts; rw [hret _ acts rfl rfl rfl]) | rw [hret _ _ rfl rfl rfl]
  exact Steps.refl _
/-- what holds at the law's entry: the machine, the code, the tables' words (any of lw_tbl by 'hts w (by decide +kernel)'), the script of L ints xs at the cell b, what the Statement gives of the start (any of its parts by flat_of_before) -/
def lw_At (p : Program) (s : State) (m : MethodId) (meth : Method) (c : Code) (b L : Nat) (xs : Nat → Int32) : Prop :=
  p.tables.exec = Jvm.exec ∧ c.code = code ∧ meth.sig.returnType = ret ∧ c.maxLocals = 4 ∧ s.vm.findClass R_law = some m.cls ∧ (∀ w ∈ lw_tbl, w.before #[Value.ref b] s = true) ∧ va_X b L xs s s.heap ∧ b < s.heap.size ∧ meth.locks = false ∧ (Jvm.Cond.and given_1 narrow_1).before #[Value.ref b] s = true
theorem z_known {s : State} {args : Array Value} (hW : ∀ w ∈ zws, w.before args s = true) : ∃ D : va_G, ∀ (c : Nat) (q : vw_C), zcl[c]? = some q → u_Kn s q.1 q.2.1 q.2.2 (D.1 c) (D.2 c) := by
  have h : ∀ c : Nat, ∃ x : ClassId × (Nat → Nat), ∀ q : vw_C, zcl[c]? = some q → u_Kn s q.1 q.2.1 q.2.2 x.1 x.2 := by
    intro c
    match c with
    | 0 =>
      obtain ⟨cC, iS, h⟩ := u_known hW in_0 (hW _ k_329)
      exact ⟨(cC, iS), fun q hq => by cases hq; exact h⟩
    | 1 =>
      obtain ⟨cC, iS, h⟩ := u_known hW in_1 (hW _ k_109)
      exact ⟨(cC, iS), fun q hq => by cases hq; exact h⟩
    | 2 =>
      obtain ⟨cC, iS, h⟩ := u_known hW in_2 (hW _ k_165)
      exact ⟨(cC, iS), fun q hq => by cases hq; exact h⟩
    | 3 =>
      obtain ⟨cC, iS, h⟩ := u_known hW in_3 (hW _ k_235)
      exact ⟨(cC, iS), fun q hq => by cases hq; exact h⟩
    | 4 =>
      obtain ⟨cC, iS, h⟩ := u_known hW in_4 (hW _ k_28)
      exact ⟨(cC, iS), fun q hq => by cases hq; exact h⟩
    | 5 =>
      obtain ⟨cC, iS, h⟩ := u_known hW in_5 (hW _ k_21)
      exact ⟨(cC, iS), fun q hq => by cases hq; exact h⟩
    | 6 =>
      obtain ⟨cC, iS, h⟩ := u_known hW in_6 (hW _ k_116)
      exact ⟨(cC, iS), fun q hq => by cases hq; exact h⟩
    | 7 =>
      obtain ⟨cC, iS, h⟩ := u_known hW in_7 (hW _ k_49)
      exact ⟨(cC, iS), fun q hq => by cases hq; exact h⟩
    | 8 =>
      obtain ⟨cC, iS, h⟩ := u_known hW in_8 (hW _ k_13)
      exact ⟨(cC, iS), fun q hq => by cases hq; exact h⟩
    | 9 =>
      obtain ⟨cC, iS, h⟩ := u_known hW in_9 (hW _ k_580)
      exact ⟨(cC, iS), fun q hq => by cases hq; exact h⟩
    | (n + 10) => exact ⟨(0, fun _ => 0), fun q hq => by simp at hq⟩
  exact ⟨(fun c => (Classical.choose (h c)).1, fun c => (Classical.choose (h c)).2), fun c q hq => Classical.choose_spec (h c) q hq⟩
theorem z_arrK {s : State} {args : Array Value} {ty : FieldType} (hp : ∀ C, ty ≠ .object C) (h : (Cond.arrayClass ty).before args s = true) : ∃ cA : ClassId, ArrOfT s cA ty ∧ va_RA s cA ty := by
  obtain ⟨c, k, comp, h1, h2, h3⟩ := Cond.arrayClass_spec h
  refine ⟨c, fun n z => ⟨fun k h => (by cases h), k, h2, comp, h3⟩, ?_⟩
  cases ty <;> first | exact h1 | exact absurd rfl (hp _)
theorem z_arrO {s : State} {C : String} (h : va_AO C s) : ∃ cA : ClassId, ArrOfT s cA (.object C) ∧ va_RA s cA (.object C) := by
  obtain ⟨comp, c, k, h1, h2, h3, h4, h5⟩ := Cond.arrayOver_spec h
  exact ⟨c, fun N z => ⟨(fun k h => by cases h), k, h3, comp, h4⟩, k, comp, h3, h4, h1, h5⟩
theorem z_tysK {s : State} {args : Array Value} (hW : ∀ w ∈ zws, w.before args s = true) (hN : zN s) : ∃ ca : Nat → ClassId, ∀ (k : Nat) (q : ClassId × FieldType), (ztys ca)[k]? = some q → ArrOfT s q.1 q.2 ∧ va_RA s q.1 q.2 := by
  obtain ⟨c0, h0⟩ := z_arrK (ty := .int) (by intro C h; cases h) (hW _ k_85)
  obtain ⟨c1, h1⟩ := z_arrK (ty := .boolean) (by intro C h; cases h) (hW _ k_706)
  obtain ⟨c2, h2⟩ := z_arrO hN.2.2.1
  obtain ⟨c3, h3⟩ := z_arrO hN.2.2.2.1
  obtain ⟨c4, h4⟩ := z_arrO hN.2.2.2.2.1
  obtain ⟨c5, h5⟩ := z_arrO hN.2.2.2.2.2
  refine ⟨fun k => match k with | 20 => c0 | 21 => c1 | 22 => c2 | 23 => c3 | 24 => c4 | _ => c5, fun k q hq => ?_⟩
  match k, hq with
  | 0, hq => cases hq; exact h0
  | 1, hq => cases hq; exact h1
  | 2, hq => cases hq; exact h2
  | 3, hq => cases hq; exact h3
  | 4, hq => cases hq; exact h4
  | 5, hq => cases hq; exact h5
  | (n + 6), hq => simp at hq
theorem z_nestK {s : State} {args : Array Value} (hts : ∀ w ∈ lw_tbl, w.before args s = true) : zN s :=
  ⟨va_Nw.of rfl (hts _ (List.mem_append_right _ (List.mem_of_getElem? (i := 29) (by decide +kernel)))), va_Nw.of rfl (hts _ (List.mem_append_right _ (List.mem_of_getElem? (i := 117) (by decide +kernel)))), va_AO.of (hts _ (List.mem_append_right _ (List.mem_of_getElem? (i := 184) (by decide +kernel)))), va_AO.of (hts _ (List.mem_append_right _ (List.mem_of_getElem? (i := 55) (by decide +kernel)))), va_AO.of (hts _ (List.mem_append_right _ (List.mem_of_getElem? (i := 27) (by decide +kernel)))), va_AO.of (hts _ (List.mem_append_right _ (List.mem_of_getElem? (i := 115) (by decide +kernel))))⟩
set_option maxHeartbeats 4000000 in
set_option maxRecDepth 100000 in
/-- YOUR PART: from the entry, for every script of at most 2048 ints, the law comes to its end with true -/
theorem whole_start {p : Program} {e : Env} {s : State} {m : MethodId} {below : List Frame} {meth : Method} {c : Code} (l : Launch) {b L : Nat} {xs : Nat → Int32} (hL : L ≤ 2048) (C0 : lw_At p s m meth c b L xs) : W p l e room_1 s m #[Value.ref b] below meth c s.heap [] 0 0 (lw_Z below #[Value.ref b] s) (entryFrame m ([Value.ref b] : List Value).toArray 4) := by
  obtain ⟨hx, hb, hr, hml, hown, hts, hX, hbl, hlk, hgv⟩ := C0
  have hW : ∀ w ∈ zws, w.before #[Value.ref b] s = true := fun w hw => hts w (List.mem_filter.mp hw).1
  have hN : zN s := z_nestK hts
  obtain ⟨D, hD⟩ := z_known hW
  obtain ⟨ca, hca⟩ := z_tysK hW hN
  have hK : va_K D zcl (ztys ca) s := ⟨hD, hca⟩
  obtain ⟨A, hAe⟩ : ∃ A : Nat → Prop, A = fun q => s.heap.size ≤ q := ⟨_, rfl⟩
  have hA : ∀ q, s.heap.size ≤ q → A q := fun q h => by rw [hAe]; exact h
  have hbA : ¬ A b := fun h => by rw [hAe] at h; exact absurd hbl (Nat.not_lt.mpr h)
  have hS : va_S A s.heap s.heap [] := va_S.rf
  have hl := lv_entry ([.ref b]) (n := 4) (Nat.le_of_ble_eq_true rfl)
  rw [lg_entry_eq]
  generalize (lg_sl ([.ref b]) ++ List.replicate (4 - (lg_sl ([.ref b])).length) Slot.unset).toArray = ls at hl ⊢
  have hl : zL ls 4 [(0, .ref b)] := ⟨hl, by simp [Value.category]⟩
  have out : ∀ (ax am : Nat) (H : Heap) (locs : List Loc) (ls : Array Slot) (n k : Nat), n ≤ 600000 → k ≤ 7302250 → zL ls 4 [(0, .ref b), (1, .ref ax), (2, .ref am)] → va_S A s.heap H locs → W p l e room_1 s m #[Value.ref b] below meth c H locs n k (lw_Z below #[Value.ref b] s) (F0 m 550 ls []) := by
    intro ax am H locs ls n k hn hk hl hS
    refine lv_iconst (v := (1 : Int32)) hx hb d_L_550 (by decide) ?_
    refine va_forget (fun q hq => by have := hS.2.2 q hq; rw [hAe] at this; exact this) ?_
    refine W.widen (k := 600000) (n := 7302250) hn hk ?_
    exact lw_ret hx hb hr hlk d_L_551
  generalize lw_Z below #[Value.ref b] s = Q at out ⊢
  refine z_new (ci := 8) (M := z0) (ca := ca) hx hb hW in_8 ty_8 tyok_8 hown (hW _ k_12) (hW _ k_13) (hW _ k_1) hK (zW_0 (A := A)) hS hA (by decide) rfl df_8 (by decide) (by decide) d_L_0 (fun ax H _ hM1 hS => ?_)
  have h := op_init ax
  refine lv_dup hx hb d_L_3 rfl ?_
  refine z_ctv (mc := 26) (ms := 714) (va_runI (As := []) (rest := [.ref ax]) ⟨hx, hb, hml, hown, hW⟩ (c_X_init l ca D (znw z0 ax (8, 6)) H.size ax _) (cw_X_init hW k_14 ⟨by decide, by decide⟩) (zPre_S hK hN hM1 h) rfl rfl hl.1.1 rfl (lv_room (Nat.le_of_ble_eq_true rfl)) d_L_4 ⟨by decide, by decide⟩) hM1 hS hA (fun M1 H locs h hM1 hS => ?_)
  refine z_astore_n (x := some ax) hx hb d_L_7 rfl hl (by decide) rfl (fun ls hl => ?_)
  have hl : zL ls 4 [(1, .ref ax), (0, .ref b)] := hl
  refine z_new2 (ci := 9) hx hb hW in_9 ty_9 tyok_9 hown (hW _ k_579) (hW _ k_580) (hW _ k_8) hK hM1 hS hA (by decide) rfl df_9 (by decide) (by decide) d_L_8 (fun am H hM1 hM2 hd hS => ?_)
  replace h := h am
  refine lv_dup hx hb d_L_11 rfl ?_
  refine z_ct2v (mc := 27) (ms := 2518) (va_runI (As := []) (rest := [.ref am]) ⟨hx, hb, hml, hown, hW⟩ (c_Y_init l ca D (znw z0 am (9, 40)) H.size am _) (cw_Y_init hW k_581 ⟨by decide, by decide⟩) (zPre_S hK hN hM2 h) rfl rfl hl.1.1 rfl (lv_room (Nat.le_of_ble_eq_true rfl)) d_L_12 ⟨by decide, by decide⟩) hM2 hM1 hd hS hA (fun M2 H locs h hM2 hM1 hd hS => ?_)
  refine z_astore_n (x := some am) hx hb d_L_15 rfl hl (by decide) rfl (fun ls hl => ?_)
  have hl : zL ls 4 [(2, .ref am), (1, .ref ax), (0, .ref b)] := hl
  refine lv_iconst (v := (0 : Int32)) hx hb d_L_16 (by decide) ?_
  refine z_istore_n hx hb d_L_17 rfl hl (by decide) rfl (fun ls hl => ?_)
  have hl : zL ls 4 [(3, .int 0), (2, .ref am), (1, .ref ax), (0, .ref b)] := hl
  refine W.widen (k := 55 + 2 * 0) (n := 3278 + 13 * 0) (by decide) (by decide) ?_
  exact law_loop l ca D hL hx hb hml hown hW hX hbl hbA hA hK hN (out ax am) 512 0 M1 M2 H locs ls (by omega) (by omega) (hl.sub [3, 2, 1, 0] rfl) h hM1 hM2 hd.symm hS
