/-! two memories side by side -/
def zDis (M M2 : zM) : Prop := ∀ (q : Nat) (t u : Nat × Nat), zT M q = some t → zT M2 q = some u → False
theorem zDis.symm {M M2 : zM} (h : zDis M M2) : zDis M2 M := fun q t u h1 h2 => h q u t h2 h1
def z0 : zM := (fun _ => none, fun _ _ => 0, fun _ _ => none)
theorem zW_0 {ca : Nat → ClassId} {D : va_G} {cl : List vw_C} {A : Nat → Prop} {H : Heap} : zW ca D cl A z0 H := by
  refine ⟨[], fun k q h => ?_, ⟨fun i j p q h => ?_, fun k q h => ?_⟩, fun a t h => ?_, fun q h => ?_⟩
  · simp at h
  · simp at h
  · simp at h
  · cases h
  · cases h
theorem zW.lt {ca : Nat → ClassId} {D : va_G} {cl : List vw_C} {A : Nat → Prop} {M : zM} {H : Heap} (h : zW ca D cl A M H) {q : Nat} {t : Nat × Nat} (ht : zT M q = some t) : q < H.size := by
  obtain ⟨ws, hP, hD, h1, h2⟩ := h
  obtain ⟨k, hk⟩ := List.getElem?_of_mem (h1 q t ht)
  exact (hP k _ hk).lt
theorem zW.kept {ca : Nat → ClassId} {D : va_G} {cl : List vw_C} {A : Nat → Prop} {M : zM} {H H1 : Heap} (h : zW ca D cl A M H) (hk : ∀ (q : Nat) (t : Nat × Nat), zT M q = some t → H1[q]? = H[q]?) : zW ca D cl A M H1 := by
  obtain ⟨ws, hP, hD, h1, h2⟩ := h
  refine ⟨ws, hP.kept (fun k q hq => ?_), hD, h1, h2⟩
  obtain ⟨t, ht⟩ := h2 q (List.mem_of_getElem? hq)
  exact hk q.1 t ht
section ZD
variable {p : Program} {l : Launch} {e : Env} {R : Room} {s : State} {m : MethodId} {args : Array Value} {below : List Frame} {meth : Method} {c : Code} {H : Heap} {locs : List Loc} {cells slots : Nat} {Q : State → Prop}
variable {cc : ByteArray} {pc : Nat} {ls : Array Slot} {rest st0 : List Value} {D : va_G} {cl : List vw_C} {A : Nat → Prop} {a : Nat} {tys : List (ClassId × FieldType)} {H0 : Heap} {ca : Nat → ClassId} {M M2 : zM} {mc ms : Nat}
theorem zDis_next {t : State} {H1 : Heap} {M1 : zM} (hM : zW ca D cl A M H) (hM2 : zW ca D cl A M2 H) (hd : zDis M M2) (hB : zB ca D cl tys (zA M H.size) M1 t) : zDis M1 M2 := by
  intro q x u h1 h2
  rcases hB.1.inA h1 with ⟨z, hz⟩ | hz
  · exact hd q z u hz h2
  · have := hM2.lt h2
    omega
theorem zKept_next {H1 : Heap} (hM2 : zW ca D cl A M2 H) (hd : zDis M M2) (hk : ∀ q : Nat, q < H.size → ¬ zA M H.size q → H1[q]? = H[q]?) : zW ca D cl A M2 H1 := by
  refine hM2.kept (fun q t ht => hk q (hM2.lt ht) (fun h => ?_))
  rcases h with ⟨z, hz⟩ | hz
  · exact hd q z t hz ht
  · have := hM2.lt ht
    omega
theorem z_ct2i {post : Int32 → zM → Prop} {av : Array Value} (hr : va_Run p l e R s m args below meth c H locs cells slots mc ms (F0 m pc ls st0) rest (va_Qi post (zB ca D cl tys (zA M H.size)) (zA M H.size) av) (zA M H.size)) (hM : zW ca D cl A M H) (hM2 : zW ca D cl A M2 H) (hd : zDis M M2) (hS : va_S A H0 H locs) (hA : ∀ q, H0.size ≤ q → A q)
    (kk : ∀ (r : Int32) (M1 : zM) (H1 : Heap) (locs1 : List Loc), post r M1 → zW ca D cl A M1 H1 → zW ca D cl A M2 H1 → zDis M1 M2 → va_S A H0 H1 locs1 → W p l e R s m args below meth c H1 locs1 (cells + mc) (slots + ms) Q (F0 m (pc + 3) ls (.int r :: rest))) : W p l e R s m args below meth c H locs cells slots Q (F0 m pc ls st0) :=
  va_calli hr hS (fun q _ h => zA_in hM hS hA q h) (zA_in hM hS hA) (fun r M1 t H1 locs1 ht hvm hpost hB hz hk hS1 => kk r M1 H1 locs1 hpost (by rw [← ht]; exact hB.1.weaken (fun q _ h => zA_in hM hS hA q h)) (zKept_next hM2 hd hk) (zDis_next (H1 := H1) hM hM2 hd hB) hS1)
theorem z_ct2v {post : zM → Prop} {av : Array Value} (hr : va_Run p l e R s m args below meth c H locs cells slots mc ms (F0 m pc ls st0) rest (va_Qv post (zB ca D cl tys (zA M H.size)) (zA M H.size) av) (zA M H.size)) (hM : zW ca D cl A M H) (hM2 : zW ca D cl A M2 H) (hd : zDis M M2) (hS : va_S A H0 H locs) (hA : ∀ q, H0.size ≤ q → A q)
    (kk : ∀ (M1 : zM) (H1 : Heap) (locs1 : List Loc), post M1 → zW ca D cl A M1 H1 → zW ca D cl A M2 H1 → zDis M1 M2 → va_S A H0 H1 locs1 → W p l e R s m args below meth c H1 locs1 (cells + mc) (slots + ms) Q (F0 m (pc + 3) ls rest)) : W p l e R s m args below meth c H locs cells slots Q (F0 m pc ls st0) :=
  va_callv hr hS (fun q _ h => zA_in hM hS hA q h) (zA_in hM hS hA) (fun M1 t H1 locs1 ht hvm hpost hB hz hk hS1 => kk M1 H1 locs1 hpost (by rw [← ht]; exact hB.1.weaken (fun q _ h => zA_in hM hS hA q h)) (zKept_next hM2 hd hk) (zDis_next (H1 := H1) hM hM2 hd hB) hS1)
theorem z_new2 (hexec : p.tables.exec = Jvm.exec) (hb : c.code = cc) {own C : String} {T : u_T} {N ci index : Nat} {Ts : List Cond} (hts : ∀ w ∈ Ts, w.before args s = true) (hin : ∀ w ∈ u_ws C T N, w ∈ Ts) (ty : Nat → FieldType) (hty : ∀ k, k < N → parseFieldDescriptor (T k).2.2.1 = some (ty k)) (hown : s.vm.findClass own = some m.cls) (hcl : (Cond.classLink own index C).before args s = true) (hinst : (Cond.instantiable C N).before args s = true) (hini : (Cond.initialized C).before args s = true)
    (hK : va_K D cl tys s) (hM2 : zW ca D cl A M2 H) (hS : va_S A H0 H locs) (hA : ∀ q, H0.size ≤ q → A q) (hci : ci < 20) (hc : cl[ci]? = some (C, T, N)) (hfs : ∀ j, j < N → defaultValue (ty j) = vp_V (zdf (zfl ci)) j) (hcells : cells + 1 ≤ R.cells) (hslots : slots + N ≤ R.slots) (hdg : decode cc pc = .ok (.new index, 3))
    (kk : ∀ (q : Nat) (H1 : Heap), zW ca D cl A M2 H1 → zW ca D cl A (znw z0 q (ci, N)) H1 → zDis (znw z0 q (ci, N)) M2 → va_S A H0 H1 locs →
      W p l e R s m args below meth c H1 locs (cells + 1) (slots + N) Q (F0 m (pc + 3) ls (.ref q :: rest))) : W p l e R s m args below meth c H locs cells slots Q (F0 m pc ls rest) := by
  obtain ⟨ws, hP, hD, h1, h2⟩ := hM2
  refine va_new hexec hb hts hin ty hty hown hcl hinst hini hK hP hD hS hA hc hfs hcells hslots hdg (fun q H1 hP1 hD1 hS1 => ?_)
  have hpre : ∀ (k : Nat) (x : Nat × va_E), ws[k]? = some x → (ws ++ [(q, Sum.inr (ci, zdf (zfl ci)))])[k]? = some x := fun k x hx => by
    rw [List.getElem?_append_left (List.getElem?_eq_some_iff.mp hx).1]
    exact hx
  have hlast : (ws ++ [((q, Sum.inr (ci, zdf (zfl ci))) : Nat × va_E)])[ws.length]? = some (q, Sum.inr (ci, zdf (zfl ci))) := by rw [List.getElem?_append_right (Nat.le_refl _), Nat.sub_self]; rfl
  have hM2' : zW ca D cl A M2 H1 := ⟨ws, hP1.by id hpre, hD1.by id hpre (fun i j _ _ e => e), h1, h2⟩
  refine kk q H1 hM2' ⟨[(q, Sum.inr (ci, zdf (zfl ci)))], fun k x hx => ?_, ⟨fun i j x y hx hy _ => ?_, fun k x hx => ?_⟩, fun a t ht => ?_, fun x hx => ?_⟩ (fun x t u hx hu => ?_) hS1
  · have hk : k < 1 := (List.getElem?_eq_some_iff.mp hx).1
    obtain rfl : k = 0 := by omega
    cases hx
    exact hP1 ws.length _ hlast
  · have h1 : i < 1 := (List.getElem?_eq_some_iff.mp hx).1
    have h2 : j < 1 := (List.getElem?_eq_some_iff.mp hy).1
    omega
  · have hk : k < 1 := (List.getElem?_eq_some_iff.mp hx).1
    obtain rfl : k = 0 := by omega
    cases hx
    exact hD1.2 ws.length _ hlast
  · rw [zT_nw] at ht
    by_cases haq : a = q
    · subst haq
      rw [if_pos rfl] at ht
      cases ht
      have : zcel ca (znw z0 a (ci, N)) a (ci, N) = Sum.inr (ci, zdf (zfl ci)) := by simp [zcel, hci, zfv_new]
      rw [this]
      exact List.mem_singleton.mpr rfl
    · rw [if_neg haq] at ht
      cases ht
  · rw [List.mem_singleton.mp hx]
    exact ⟨(ci, N), by rw [zT_nw, if_pos rfl]⟩
  · rw [zT_nw] at hx
    by_cases hxq : x = q
    · subst hxq
      obtain ⟨k, hk⟩ := List.getElem?_of_mem (h1 x u hu)
      have hl := (List.getElem?_eq_some_iff.mp hk).1
      have := hD1.1 k ws.length _ _ (hpre k _ hk) hlast rfl
      omega
    · rw [if_neg hxq] at hx
      cases hx
end ZD
theorem z_lt4 {L k : Nat} (hL : L ≤ 2048) (hk : 4 * k ≤ 2048) (h : L < 4 * k + 4) : Int32.ofNat L - (4 : Int32) < nI (4 * k) := by
  rw [Int32.lt_iff_toInt_lt, nI_toInt (by omega)]
  have := pk_sub_toInt (a := L) (b := 4) (by omega) (by omega)
  have e : Int32.ofNat L - (4 : Int32) = nI L - nI 4 := rfl
  rw [e, this]
  omega
theorem z_nlt4 {L k : Nat} (hL : L ≤ 2048) (hk : 4 * k ≤ 2048) (h : ¬ L < 4 * k + 4) : ¬ Int32.ofNat L - (4 : Int32) < nI (4 * k) := by
  rw [Int32.lt_iff_toInt_lt, nI_toInt (by omega)]
  have := pk_sub_toInt (a := L) (b := 4) (by omega) (by omega)
  have e : Int32.ofNat L - (4 : Int32) = nI L - nI 4 := rfl
  rw [e, this]
  omega
theorem z_in4 {L k : Nat} (j : Nat) (hL : L ≤ 2048) (h : 4 * k + j < L) : vp_in (nI (4 * k) + nI j) L := by
  rw [nI_add]
  exact vp_in_nI h (by omega)
theorem z_i4 (k : Nat) : nI (4 * k) + Int32.ofInt 4 = nI (4 * (k + 1)) := by
  rw [show 4 * (k + 1) = 4 * k + 4 by omega, ← nI_add]
  rfl
