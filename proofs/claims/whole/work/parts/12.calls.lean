def zB (ca : Nat → ClassId) (D : va_G) (cl : List vw_C) (tys : List (ClassId × FieldType)) (A : Nat → Prop) (M : zM) (t : State) : Prop := zW ca D cl A M t.heap ∧ va_K D cl tys t
def zPre (ca : Nat → ClassId) (D : va_G) (cl : List vw_C) (tys : List (ClassId × FieldType)) (av : List Value) (M : zM) (sz : Nat) (pre : Prop) : Array Value → State → Prop := va_Pc av (fun U => U.heap.size = sz ∧ zW ca D cl (fun _ => True) M U.heap ∧ va_K D cl tys U ∧ zN U ∧ pre)
theorem zPre_blind {ca : Nat → ClassId} {D : va_G} {cl : List vw_C} {tys : List (ClassId × FieldType)} {av : List Value} {M : zM} {sz : Nat} {pre : Prop} : FrameBlind (zPre ca D cl tys av M sz pre) := by
  intro a U g mk q
  obtain ⟨q0, q1, qW, qK, qN, qp⟩ := q
  exact ⟨q0, q1, qW, va_K.moved (u := U) (U := U.calling g mk a) (Vm.Alike.refl U.vm) qK, zN_same rfl qN, qp⟩
section ZC
variable {p : Program} {l : Launch} {e : Env} {R : Room} {s : State} {m : MethodId} {args : Array Value} {below : List Frame} {meth : Method} {c : Code} {H : Heap} {locs : List Loc} {cells slots : Nat} {Q : State → Prop}
variable {cc : ByteArray} {pc : Nat} {ls : Array Slot} {rest st0 : List Value} {D : va_G} {cl : List vw_C} {A : Nat → Prop} {a : Nat} {tys : List (ClassId × FieldType)} {H0 : Heap} {ca : Nat → ClassId} {M : zM}
variable {y : MethodName} {bytes : ByteArray} {maxL nL mc ms n index : Nat} {ret : Option FieldType} {ws : List Cond} {rm : Room} {Ts : List Cond} {own C : String} {b : Nat} {As : List Value} {pre : Prop}
theorem zPre_S (hK : va_K D cl tys s) (hN : zN s) (hM : zW ca D cl A M H) (hpre : pre) : PreS s H (zPre ca D cl tys As M H.size pre) As :=
  ⟨zPre_blind, fun U hU hW => ⟨rfl, by rw [hU], by rw [hU]; exact hM.weaken (fun _ _ _ => trivial), va_K.moved hW.alike hK, zN_warm hW hN, hpre⟩⟩
theorem zPre_V (hK : va_K D cl tys s) (hN : zN s) (hM : zW ca D cl A M H) (hpre : pre) {ci nb : Nat} {T : u_T} {N : Nat} (hT : zT M b = some (ci, nb)) (hci : ci < 20) (hc : cl[ci]? = some (C, T, N)) : PreV s H C b (zPre ca D cl tys (.ref b :: As) M H.size pre) As :=
  ⟨zPre_blind, hM.recv hK hT hci hc, fun U hU hW => ⟨rfl, by rw [hU], by rw [hU]; exact hM.weaken (fun _ _ _ => trivial), va_K.moved hW.alike hK, zN_warm hW hN, hpre⟩⟩
theorem zA_in (hM : zW ca D cl A M H) (hS : va_S A H0 H locs) (hA : ∀ q, H0.size ≤ q → A q) : ∀ q, zA M H.size q → A q := by
  intro q h
  rcases h with ⟨t, ht⟩ | h
  · exact hM.inA ht
  · exact hA q (Nat.le_trans hS.1 h)
theorem z_cti {post : Int32 → zM → Prop} {av : Array Value} (hr : va_Run p l e R s m args below meth c H locs cells slots mc ms (F0 m pc ls st0) rest (va_Qi post (zB ca D cl tys (zA M H.size)) (zA M H.size) av) (zA M H.size)) (hM : zW ca D cl A M H) (hS : va_S A H0 H locs) (hA : ∀ q, H0.size ≤ q → A q)
    (kk : ∀ (r : Int32) (M1 : zM) (H1 : Heap) (locs1 : List Loc), post r M1 → zW ca D cl A M1 H1 → va_S A H0 H1 locs1 → W p l e R s m args below meth c H1 locs1 (cells + mc) (slots + ms) Q (F0 m (pc + 3) ls (.int r :: rest))) : W p l e R s m args below meth c H locs cells slots Q (F0 m pc ls st0) :=
  va_calli hr hS (fun q _ h => zA_in hM hS hA q h) (zA_in hM hS hA) (fun r M1 t H1 locs1 ht hvm hpost hB hz hk hS1 => kk r M1 H1 locs1 hpost (by rw [← ht]; exact hB.1.weaken (fun q _ h => zA_in hM hS hA q h)) hS1)
theorem z_ctv {post : zM → Prop} {av : Array Value} (hr : va_Run p l e R s m args below meth c H locs cells slots mc ms (F0 m pc ls st0) rest (va_Qv post (zB ca D cl tys (zA M H.size)) (zA M H.size) av) (zA M H.size)) (hM : zW ca D cl A M H) (hS : va_S A H0 H locs) (hA : ∀ q, H0.size ≤ q → A q)
    (kk : ∀ (M1 : zM) (H1 : Heap) (locs1 : List Loc), post M1 → zW ca D cl A M1 H1 → va_S A H0 H1 locs1 → W p l e R s m args below meth c H1 locs1 (cells + mc) (slots + ms) Q (F0 m (pc + 3) ls rest)) : W p l e R s m args below meth c H locs cells slots Q (F0 m pc ls st0) :=
  va_callv hr hS (fun q _ h => zA_in hM hS hA q h) (zA_in hM hS hA) (fun M1 t H1 locs1 ht hvm hpost hB hz hk hS1 => kk M1 H1 locs1 hpost (by rw [← ht]; exact hB.1.weaken (fun q _ h => zA_in hM hS hA q h)) hS1)
theorem z_ctq {post : Option Nat → zM → Prop} {av : Array Value} (hr : va_Run p l e R s m args below meth c H locs cells slots mc ms (F0 m pc ls st0) rest (va_Qq post (zB ca D cl tys (zA M H.size)) (zA M H.size) av) (zA M H.size)) (hM : zW ca D cl A M H) (hS : va_S A H0 H locs) (hA : ∀ q, H0.size ≤ q → A q)
    (kk : ∀ (r : Option Nat) (M1 : zM) (H1 : Heap) (locs1 : List Loc), post r M1 → zW ca D cl A M1 H1 → va_S A H0 H1 locs1 → W p l e R s m args below meth c H1 locs1 (cells + mc) (slots + ms) Q (F0 m (pc + 3) ls (va_rf r :: rest))) : W p l e R s m args below meth c H locs cells slots Q (F0 m pc ls st0) :=
  va_callq hr hS (fun q _ h => zA_in hM hS hA q h) (zA_in hM hS hA) (fun r M1 t H1 locs1 ht hvm hpost hB hz hk hS1 => kk r M1 H1 locs1 hpost (by rw [← ht]; exact hB.1.weaken (fun q _ h => zA_in hM hS hA q h)) hS1)
/-- ends -/
theorem z_iret {post : Int32 → zM → Prop} {v : Int32} (hexec : p.tables.exec = Jvm.exec) (hb : c.code = cc) (hr : meth.sig.returnType = some .int) (hlocks : meth.locks = false) (hK : va_K D cl tys s) (hM : zW ca D cl A M H) (hS : va_S A s.heap H locs) (hpost : post v M) (hdg : decode cc pc = .ok (.ireturn, 1)) : W p l e R s m args below meth c H locs cells slots (MQ below (va_Qi post (zB ca D cl tys A) A) args s cells slots A) (F0 m pc ls [.int v]) :=
  W.iret hexec hb hr (fun t ht hW => ⟨⟨v, M, rfl, hpost, by rw [ht]; exact hM, va_K.moved hW.alike hK⟩, hS.F ht⟩) hS.2.2 hdg hlocks
theorem z_zret {post : Int32 → zM → Prop} {v : Int32} (hexec : p.tables.exec = Jvm.exec) (hb : c.code = cc) (hr : meth.sig.returnType = some .boolean) (hlocks : meth.locks = false) (hn : narrow .boolean (.int v) = .int v) (hK : va_K D cl tys s) (hM : zW ca D cl A M H) (hS : va_S A s.heap H locs) (hpost : post v M) (hdg : decode cc pc = .ok (.ireturn, 1)) : W p l e R s m args below meth c H locs cells slots (MQ below (va_Qi post (zB ca D cl tys A) A) args s cells slots A) (F0 m pc ls [.int v]) :=
  W.zret hexec hb hr hn (fun t ht hW => ⟨⟨v, M, rfl, hpost, by rw [ht]; exact hM, va_K.moved hW.alike hK⟩, hS.F ht⟩) hS.2.2 hdg hlocks
theorem z_vret {post : zM → Prop} (hexec : p.tables.exec = Jvm.exec) (hb : c.code = cc) (hr : meth.sig.returnType = none) (hlocks : meth.locks = false) (hK : va_K D cl tys s) (hM : zW ca D cl A M H) (hS : va_S A s.heap H locs) (hpost : post M) (hdg : decode cc pc = .ok (.return_, 1)) : W p l e R s m args below meth c H locs cells slots (MQ below (va_Qv post (zB ca D cl tys A) A) args s cells slots A) (F0 m pc ls []) :=
  W.vret hexec hb hr (fun t ht hW => ⟨⟨M, rfl, hpost, by rw [ht]; exact hM, va_K.moved hW.alike hK⟩, hS.F ht⟩) hS.2.2 hdg hlocks
theorem z_aret {post : Option Nat → zM → Prop} {v : Option Nat} {rn : String} (hexec : p.tables.exec = Jvm.exec) (hb : c.code = cc) (hr : meth.sig.returnType = some (.object rn)) (hlocks : meth.locks = false) (hK : va_K D cl tys s) (hM : zW ca D cl A M H) (hS : va_S A s.heap H locs) (hpost : post v M) (hdg : decode cc pc = .ok (.areturn, 1)) : W p l e R s m args below meth c H locs cells slots (MQ below (va_Qq post (zB ca D cl tys A) A) args s cells slots A) (F0 m pc ls [va_rf v]) :=
  W.aret hexec hb hr (Or.inl ⟨rn, rfl⟩) (va_rf_or v) (fun t ht hW => ⟨⟨v, M, rfl, hpost, by rw [ht]; exact hM, va_K.moved hW.alike hK⟩, hS.F ht⟩) hS.2.2 hdg hlocks
end ZC
theorem z_sllen : ∀ {av : List Value}, (∀ v ∈ av, v.category = 1) → (lg_sl av).length = av.length
  | [], _ => rfl
  | v :: t, h => by
    have h1 := h v List.mem_cons_self
    have ih := z_sllen (av := t) (fun w hw => h w (List.mem_cons_of_mem _ hw))
    unfold lg_sl at ih ⊢
    rw [List.flatMap_cons, List.length_append, ih, if_neg (by rw [h1]; decide)]
    simp [Nat.add_comm]
theorem z_lvcat : ∀ {av : List Value}, (∀ v ∈ av, v.category = 1) → ∀ (i : Nat) (q : Nat × Value), q ∈ lv_args i av → q.2.category = 1
  | [], _, i, q, hq => by cases hq
  | v :: t, h, i, q, hq => by
    rcases List.mem_cons.mp hq with rfl | hq
    · exact h v List.mem_cons_self
    · exact z_lvcat (fun w hw => h w (List.mem_cons_of_mem _ hw)) _ q hq
theorem z_ofW {l : Launch} {y : MethodName} {ws ws' : List Cond} {rm : Room} {Pc : Array Value → State → Prop} {Qc : Array Value → State → Outcome → State → Prop} {mc ms : Nat} {free : Addr → Prop} {cc : ByteArray} {maxL : Nat} {ret : Option FieldType}
    (hy : plainFor y = true) (hw : ws = Cond.code y cc maxL ret :: ws')
    (body : ∀ p e s m args below meth c s₁, BodyLoose p l y (headSpec ws rm) cc maxL ret e s m args below meth c s₁ → c.maxLocals = maxL → Pc args s → W p l e (headSpec ws rm).room s m args below meth c s.heap [] 0 0 (MQ below Qc args s mc ms free) (entryFrame m args maxL)) : Met l y ws rm Pc Qc mc ms free := by
  refine MetFree.of_bodySF (code := cc) (maxLocals := maxL) (ret := ret) hy (fun args s m h hn => ?_) (fun p e s m args below meth c s₁ B hml hP _ => ?_)
  · obtain ⟨meth, c, h1, h2, h3, h4, h5, h6, -, -⟩ := Cond.code_spec hn (atoms_spec (ws := ws) h _ (by rw [hw]; exact List.mem_cons_self))
    exact ⟨meth, c, h1, h2, h3, h4, h5, h6⟩
  · have hh0 : s₁.heap = s.heap := by rw [B.state]; rfl
    obtain ⟨t, a1, o, b1, b2, b3⟩ := body p e s m args below meth c s₁ B hml hP s₁ hh0 (Stand.of_body B)
    exact ⟨t, o, a1, b1, b2, b3.1, b3.2⟩
/-- a method's start -/
theorem z_met {l : Launch} {y : MethodName} {ws ws' : List Cond} {rm : Room} {ca : Nat → ClassId} {D : va_G} {cl : List vw_C} {tys : List (ClassId × FieldType)} {av : List Value} {M : zM} {sz : Nat} {pre : Prop} {Qc : Array Value → State → Outcome → State → Prop} {mc ms : Nat} {cc : ByteArray} {maxL : Nat} {ret : Option FieldType}
    (hy : plainFor y = true) (hw : ws = Cond.code y cc maxL ret :: ws') (hcat : ∀ v ∈ av, v.category = 1) (hlen : av.length ≤ maxL)
    (body : ∀ (p : Program) (e : Env) (s : State) (m : MethodId) (args : Array Value) (below : List Frame) (meth : Method) (c : Code) (ls : Array Slot) (A : Nat → Prop), p.tables.exec = Jvm.exec → c.code = cc → meth.sig.returnType = ret → meth.locks = false → c.maxLocals = maxL → (∀ w ∈ ws, w.before args s = true) → s.vm.findClass y.cls = some m.cls → meth.name = y.name → va_K D cl tys s → zN s → zL ls maxL (lv_args 0 av) → A = zA M sz → zW ca D cl A M s.heap → va_S A s.heap s.heap [] → (∀ q, s.heap.size ≤ q → A q) → pre →
      W p l e rm s m args below meth c s.heap [] 0 0 (MQ below Qc args s mc ms A) (F0 m 0 ls [])) : Met l y ws rm (zPre ca D cl tys av M sz pre) Qc mc ms (zA M sz) := by
  refine z_ofW (cc := cc) (maxL := maxL) (ret := ret) hy hw ?_
  intro p e s m args below meth c s₁ B hml hv
  obtain ⟨rfl, hsz, hM, hK, hN, hpre⟩ := hv
  have hslen : (lg_sl av).length = av.length := z_sllen hcat
  have hl := lv_entry av (n := maxL) (by rw [hslen]; exact hlen)
  rw [lg_entry_eq]
  have hcat2 : ∀ (i : Nat) (q : Nat × Value), q ∈ lv_args i av → q.2.category = 1 := z_lvcat hcat
  refine body p e s m av.toArray below meth c _ (zA M sz) B.exec B.bytes B.returns B.notSynchronized hml (atoms_spec (ws := ws) B.pre) (findClass_of_methodNamed B.named) (name_of_methodNamed B.named B.method).1 hK hN ⟨hl, fun q hq => hcat2 0 q hq⟩ rfl (hM.weaken (fun q hq _ => Or.inl hq)) va_S.rf (fun q hq => Or.inr (by rw [← hsz]; exact hq)) hpre
