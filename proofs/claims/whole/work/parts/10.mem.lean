/-! memory of small objects and arrays, as three functions: type of an address, its ints, its references -/
abbrev zM : Type := (Nat → Option (Nat × Nat)) × (Nat → Nat → Int32) × (Nat → Nat → Option Nat)
def zT (M : zM) (a : Nat) : Option (Nat × Nat) := M.1 a
def zI (M : zM) (a k : Nat) : Int32 := M.2.1 a k
def zR (M : zM) (a k : Nat) : Option Nat := M.2.2 a k
def zwI (M : zM) (a k : Nat) (v : Int32) : zM := (M.1, (fun b j => if b = a ∧ j = k then v else M.2.1 b j), M.2.2)
def zwR (M : zM) (a k : Nat) (v : Option Nat) : zM := (M.1, M.2.1, (fun b j => if b = a ∧ j = k then v else M.2.2 b j))
def znw (M : zM) (a : Nat) (t : Nat × Nat) : zM := ((fun b => if b = a then some t else M.1 b), (fun b j => if b = a then 0 else M.2.1 b j), (fun b j => if b = a then none else M.2.2 b j))
theorem zT_wI (M : zM) (a k : Nat) (v : Int32) (b : Nat) : zT (zwI M a k v) b = zT M b := rfl
theorem zT_wR (M : zM) (a k : Nat) (v : Option Nat) (b : Nat) : zT (zwR M a k v) b = zT M b := rfl
theorem zT_nw (M : zM) (a : Nat) (t : Nat × Nat) (b : Nat) : zT (znw M a t) b = if b = a then some t else zT M b := rfl
theorem zI_wI (M : zM) (a k : Nat) (v : Int32) (b j : Nat) : zI (zwI M a k v) b j = if b = a ∧ j = k then v else zI M b j := rfl
theorem zI_wR (M : zM) (a k : Nat) (v : Option Nat) (b j : Nat) : zI (zwR M a k v) b j = zI M b j := rfl
theorem zI_nw (M : zM) (a : Nat) (t : Nat × Nat) (b j : Nat) : zI (znw M a t) b j = if b = a then 0 else zI M b j := rfl
theorem zR_wI (M : zM) (a k : Nat) (v : Int32) (b j : Nat) : zR (zwI M a k v) b j = zR M b j := rfl
theorem zR_wR (M : zM) (a k : Nat) (v : Option Nat) (b j : Nat) : zR (zwR M a k v) b j = if b = a ∧ j = k then v else zR M b j := rfl
theorem zR_nw (M : zM) (a : Nat) (t : Nat × Nat) (b j : Nat) : zR (znw M a t) b j = if b = a then none else zR M b j := rfl
def zfv (M : zM) (a : Nat) : Nat → List Bool → List Value
  | _, [] => []
  | k, b :: r => (if b then va_rf (zR M a k) else .int (zI M a k)) :: zfv M a (k + 1) r
theorem zfv_get (M : zM) (a : Nat) : ∀ (bs : List Bool) (o k : Nat) (b : Bool), bs[k]? = some b → (zfv M a o bs)[k]? = some (if b then va_rf (zR M a (o + k)) else .int (zI M a (o + k)))
  | [], o, k, b, h => by simp at h
  | c :: r, o, 0, b, h => by
    simp only [List.getElem?_cons_zero] at h
    cases h
    simp [zfv]
  | c :: r, o, k + 1, b, h => by
    simp only [List.getElem?_cons_succ] at h
    have := zfv_get M a r (o + 1) k b h
    simp only [zfv, List.getElem?_cons_succ]
    rw [this, show o + 1 + k = o + (k + 1) by omega]
theorem zfv_len (M : zM) (a : Nat) : ∀ (bs : List Bool) (o : Nat), (zfv M a o bs).length = bs.length
  | [], _ => rfl
  | _ :: r, o => by simp [zfv, zfv_len M a r (o + 1)]
theorem zfv_congr {M M' : zM} {a : Nat} : ∀ (bs : List Bool) (o : Nat), (∀ j, o ≤ j → zI M' a j = zI M a j ∧ zR M' a j = zR M a j) → zfv M' a o bs = zfv M a o bs
  | [], _, _ => rfl
  | b :: r, o, h => by
    simp only [zfv]
    rw [(h o (Nat.le_refl _)).1, (h o (Nat.le_refl _)).2, zfv_congr r (o + 1) (fun j hj => h j (by omega))]
theorem zfv_setI (M : zM) (a : Nat) (v : Int32) : ∀ (bs : List Bool) (o k : Nat), bs[k]? = some false → (zfv M a o bs).set k (.int v) = zfv (zwI M a (o + k) v) a o bs
  | [], o, k, h => by simp at h
  | c :: r, o, 0, h => by
    simp only [List.getElem?_cons_zero] at h
    cases h
    simp only [zfv, List.set_cons_zero]
    rw [zfv_congr (M := M) (M' := zwI M a (o + 0) v) r (o + 1) (fun j hj => ⟨by rw [zI_wI, if_neg (by omega)], rfl⟩)]
    simp [zI_wI]
  | c :: r, o, k + 1, h => by
    simp only [List.getElem?_cons_succ] at h
    have ih := zfv_setI M a v r (o + 1) k h
    simp only [zfv, List.set_cons_succ]
    rw [ih, show o + 1 + k = o + (k + 1) by omega, zI_wI, if_neg (show ¬ (a = a ∧ o = o + (k + 1)) by omega), zR_wI]
theorem zfv_setR (M : zM) (a : Nat) (v : Option Nat) : ∀ (bs : List Bool) (o k : Nat), bs[k]? = some true → (zfv M a o bs).set k (va_rf v) = zfv (zwR M a (o + k) v) a o bs
  | [], o, k, h => by simp at h
  | c :: r, o, 0, h => by
    simp only [List.getElem?_cons_zero] at h
    cases h
    simp only [zfv, List.set_cons_zero]
    rw [zfv_congr (M := M) (M' := zwR M a (o + 0) v) r (o + 1) (fun j hj => ⟨rfl, by rw [zR_wR, if_neg (by omega)]⟩)]
    simp [zR_wR]
  | c :: r, o, k + 1, h => by
    simp only [List.getElem?_cons_succ] at h
    have ih := zfv_setR M a v r (o + 1) k h
    simp only [zfv, List.set_cons_succ]
    rw [ih, show o + 1 + k = o + (k + 1) by omega, zR_wR, if_neg (show ¬ (a = a ∧ o = o + (k + 1)) by omega), zI_wR]
def zdf (bs : List Bool) : List Value := bs.map fun b => if b then .null else .int 0
theorem zfv_new (M : zM) (a : Nat) (t : Nat × Nat) : ∀ (bs : List Bool) (o : Nat), zfv (znw M a t) a o bs = zdf bs
  | [], _ => rfl
  | b :: r, o => by
    simp only [zfv, zdf, List.map_cons]
    have := zfv_new M a t r (o + 1)
    simp only [zdf] at this
    rw [this, zI_nw, zR_nw, if_pos rfl, if_pos rfl]
    rfl
def zcel (ca : Nat → ClassId) (M : zM) (a : Nat) (t : Nat × Nat) : va_E :=
  if t.1 < 20 then .inr (t.1, zfv M a 0 (zfl t.1))
  else if t.1 < 22 then .inl (ca t.1, t.2, .inl (zI M a))
  else .inl (ca t.1, t.2, .inr (.inr (.inr (.inr (zR M a)))))
theorem zcel_congr {ca : Nat → ClassId} {M M' : zM} {a : Nat} {t : Nat × Nat} (hI : ∀ j, zI M' a j = zI M a j) (hR : ∀ j, zR M' a j = zR M a j) : zcel ca M' a t = zcel ca M a t := by
  unfold zcel
  rw [zfv_congr (M := M) (M' := M') _ 0 (fun j _ => ⟨hI j, hR j⟩), show zI M' a = zI M a from funext hI, show zR M' a = zR M a from funext hR]
def zW (ca : Nat → ClassId) (D : va_G) (cl : List vw_C) (A : Nat → Prop) (M : zM) (H : Heap) : Prop :=
  ∃ ws : va_W, va_P D cl ws H ∧ va_D A ws ∧ (∀ (a : Nat) (t : Nat × Nat), zT M a = some t → (a, zcel ca M a t) ∈ ws) ∧ ∀ q ∈ ws, ∃ t, zT M q.1 = some t
def zA (M : zM) (sz : Nat) : Nat → Prop := fun q => (∃ t, zT M q = some t) ∨ sz ≤ q
theorem zW.get {ca : Nat → ClassId} {D : va_G} {cl : List vw_C} {A : Nat → Prop} {M : zM} {H : Heap} {a : Nat} {t : Nat × Nat} (h : zW ca D cl A M H) (hT : zT M a = some t) :
    ∃ (ws : va_W) (q0 : Nat), va_P D cl ws H ∧ va_D A ws ∧ ws[q0]? = some (a, zcel ca M a t) ∧
      ∀ (e : va_E) (H1 : Heap) (M' : zM), va_P D cl (ws.set q0 (a, e)) H1 → va_D A (ws.set q0 (a, e)) → (∀ b, zT M' b = zT M b) → e = zcel ca M' a t → (∀ b, b ≠ a → (∀ j, zI M' b j = zI M b j) ∧ ∀ j, zR M' b j = zR M b j) → zW ca D cl A M' H1 := by
  obtain ⟨ws, hP, hD, h1, h2⟩ := h
  obtain ⟨q0, hq⟩ := List.getElem?_of_mem (h1 a t hT)
  refine ⟨ws, q0, hP, hD, hq, fun e H1 M' hP1 hD1 hTT he hne => ⟨_, hP1, hD1, fun b u hb => ?_, fun q hq1 => ?_⟩⟩
  · rw [hTT] at hb
    have hl : q0 < ws.length := (List.getElem?_eq_some_iff.mp hq).1
    by_cases hba : b = a
    · subst hba
      have : u = t := Option.some.inj (hb.symm.trans hT)
      subst this
      rw [← he]
      exact List.mem_of_getElem? (List.getElem?_set_self hl)
    · have hb1 := h1 b u hb
      rw [zcel_congr (M := M) (M' := M') (hne b hba).1 (hne b hba).2]
      obtain ⟨k, hk⟩ := List.getElem?_of_mem hb1
      have hkq : q0 ≠ k := by
        intro hh
        subst hh
        rw [hq] at hk
        exact hba (congrArg Prod.fst (Option.some.inj hk)).symm
      exact List.mem_of_getElem? (by rw [List.getElem?_set_ne hkq]; exact hk)
  · rcases List.mem_or_eq_of_mem_set hq1 with h3 | h3
    · obtain ⟨u, hu⟩ := h2 q h3
      exact ⟨u, by rw [hTT]; exact hu⟩
    · rw [h3]
      exact ⟨t, by rw [hTT]; exact hT⟩
theorem zW.new {ca : Nat → ClassId} {D : va_G} {cl : List vw_C} {A : Nat → Prop} {M : zM} {H : Heap} (h : zW ca D cl A M H) :
    ∃ ws : va_W, va_P D cl ws H ∧ va_D A ws ∧ ∀ (q : Nat) (e : va_E) (H1 : Heap) (t : Nat × Nat), va_P D cl (ws ++ [(q, e)]) H1 → va_D A (ws ++ [(q, e)]) → zcel ca (znw M q t) q t = e → zT M q = none ∧ zW ca D cl A (znw M q t) H1 := by
  obtain ⟨ws, hP, hD, h1, h2⟩ := h
  refine ⟨ws, hP, hD, fun q e H1 t hP1 hD1 he => ?_⟩
  have hnone : zT M q = none := by
    cases hz : zT M q with
    | none => rfl
    | some u =>
      obtain ⟨k, hk⟩ := List.getElem?_of_mem (h1 q u hz)
      have hl := (List.getElem?_eq_some_iff.mp hk).1
      have e1 : (ws ++ [(q, e)])[k]? = some (q, zcel ca M q u) := by rw [List.getElem?_append_left hl]; exact hk
      have e2 : (ws ++ [(q, e)])[ws.length]? = some (q, e) := by rw [List.getElem?_append_right (Nat.le_refl _), Nat.sub_self]; rfl
      have := hD1.1 _ _ _ _ e1 e2 rfl
      omega
  refine ⟨hnone, _, hP1, hD1, fun b u hb => ?_, fun z hz => ?_⟩
  · by_cases hbq : b = q
    · subst hbq
      rw [zT_nw, if_pos rfl] at hb
      cases hb
      rw [he]
      exact List.mem_append_right _ (List.mem_singleton.mpr rfl)
    · rw [zT_nw, if_neg hbq] at hb
      rw [zcel_congr (M := M) (M' := znw M q t) (fun j => by rw [zI_nw, if_neg hbq]) (fun j => by rw [zR_nw, if_neg hbq])]
      exact List.mem_append_left _ (h1 b u hb)
  · rcases List.mem_append.mp hz with h3 | h3
    · obtain ⟨u, hu⟩ := h2 z h3
      by_cases hzq : z.1 = q
      · exact ⟨t, by rw [zT_nw, if_pos hzq]⟩
      · exact ⟨u, by rw [zT_nw, if_neg hzq]; exact hu⟩
    · rw [List.mem_singleton.mp h3]
      exact ⟨t, by rw [zT_nw, if_pos rfl]⟩
theorem zW.weaken {ca : Nat → ClassId} {D : va_G} {cl : List vw_C} {A B : Nat → Prop} {M : zM} {H : Heap} (h : zW ca D cl A M H) (hAB : ∀ q, (∃ t, zT M q = some t) → A q → B q) : zW ca D cl B M H := by
  obtain ⟨ws, hP, hD, h1, h2⟩ := h
  exact ⟨ws, hP, hD.weaken (fun k q hk ha => hAB q.1 (h2 q (List.mem_of_getElem? hk)) ha), h1, h2⟩
theorem zW.inA {ca : Nat → ClassId} {D : va_G} {cl : List vw_C} {A : Nat → Prop} {M : zM} {H : Heap} (h : zW ca D cl A M H) {q : Nat} {t : Nat × Nat} (ht : zT M q = some t) : A q := by
  obtain ⟨ws, hP, hD, h1, h2⟩ := h
  obtain ⟨k, hk⟩ := List.getElem?_of_mem (h1 q t ht)
  exact hD.2 k _ hk
theorem zW.recv {ca : Nat → ClassId} {D : va_G} {cl : List vw_C} {A : Nat → Prop} {M : zM} {H : Heap} {s : State} {tys : List (ClassId × FieldType)} {b ci n : Nat} {q : vw_C} (h : zW ca D cl A M H) (hK : va_K D cl tys s) (hT : zT M b = some (ci, n)) (hci : ci < 20) (hc : cl[ci]? = some q) : ∃ cell : Cell, H[b]? = some cell ∧ cell.vm.isStatics = false ∧ s.vm.findClass q.1 = some cell.cls := by
  obtain ⟨ws, q0, hP, hD, hq, -⟩ := h.get hT
  have hq : ws[q0]? = some (b, .inr (ci, zfv M b 0 (zfl ci))) := by rw [hq]; simp [zcel, hci]
  exact va_recv hK hP hc hq
/-- locals, all of one word -/
def zL (ls : Array Slot) (nL : Nat) (lv : List (Nat × Value)) : Prop := lv_has ls nL lv ∧ ∀ q ∈ lv, q.2.category = 1
theorem z_cat (r : Option Nat) : (va_rf r).category = 1 := by cases r <;> rfl
theorem zc_nil : (([] : List Value).map fun v => v.category).sum ≤ 0 := Nat.le_refl _
theorem zc_cons {v : Value} {st : List Value} {k : Nat} (hv : v.category = 1) (h : (st.map fun v => v.category).sum ≤ k) : ((v :: st).map fun v => v.category).sum ≤ k + 1 := by
  rw [List.map_cons, List.sum_cons, hv]
  omega
theorem zL.at {ls : Array Slot} {nL : Nat} {lv : List (Nat × Value)} (h : zL ls nL lv) (k : Nat) {i : Nat} {v : Value} (hk : lv[k]? = some (i, v)) : ls[i]? = some (.val v) := lv_at h.1 k hk
theorem zL.sub {ls : Array Slot} {nL : Nat} {l l' : List (Nat × Value)} (h : zL ls nL l) (ks : List Nat) (hl : lv_pick l ks = l') : zL ls nL l' := by
  refine ⟨lv_sub h.1 ks hl, fun q hq => ?_⟩
  subst hl
  obtain ⟨k, -, hk⟩ := List.mem_filterMap.mp hq
  exact h.2 q (List.mem_of_getElem? hk)
theorem zL_filter {lv : List (Nat × Value)} (h : ∀ q ∈ lv, q.2.category = 1) (i : Nat) : lv.filter (fun q => !(q.1 == i) && !(q.1 + 1 == i && q.2.category == 2)) = lv.filter (fun q => !(q.1 == i)) := by
  apply List.filter_congr
  intro q hq
  simp [h q hq]
theorem zL.put {ls : Array Slot} {nL : Nat} {lv lv' : List (Nat × Value)} {i : Nat} {v : Value} (h : ∀ q ∈ lv, q.2.category = 1) (hv : v.category = 1) (hl : (i, v) :: lv.filter (fun q => !(q.1 == i)) = lv') (h' : lv_has ls nL ((i, v) :: lv.filter (fun q => !(q.1 == i) && !(q.1 + 1 == i && q.2.category == 2)))) : zL ls nL lv' := by
  rw [zL_filter h] at h'
  subst hl
  refine ⟨h', fun q hq => ?_⟩
  rcases List.mem_cons.mp hq with rfl | hq
  · exact hv
  · exact h q (List.mem_filter.mp hq).1
