section ZR
variable {p : Program} {l : Launch} {e : Env} {R : Room} {s : State} {m : MethodId} {args : Array Value} {below : List Frame} {meth : Method} {c : Code} {H : Heap} {locs : List Loc} {cells slots : Nat} {Q : State → Prop}
variable {cc : ByteArray} {pc : Nat} {ls : Array Slot} {rest : List Value} {D : va_G} {cl : List vw_C} {A : Nat → Prop} {a : Nat} {tys : List (ClassId × FieldType)} {H0 : Heap} {ca : Nat → ClassId} {M : zM}
theorem z_istore_n (hexec : p.tables.exec = Jvm.exec) (hb : c.code = cc) {k : Fin 4} {i nL : Nat} {x : Int32} {lv lv' : List (Nat × Value)} (hdg : decode cc pc = .ok (.istore_n k, 1)) (hi : (k : Nat) = i) (h : zL ls nL lv) (hn : i < nL) (hl : (i, Value.int x) :: lv.filter (fun q => !(q.1 == i)) = lv')
    (kk : ∀ ls' : Array Slot, zL ls' nL lv' → W p l e R s m args below meth c H locs cells slots Q (F0 m (pc + 1) ls' rest)) : W p l e R s m args below meth c H locs cells slots Q (F0 m pc ls (.int x :: rest)) :=
  lv_istore_n hexec hb hdg hi h.1 hn rfl fun ls' h' => kk ls' (zL.put h.2 rfl hl h')
theorem z_istore (hexec : p.tables.exec = Jvm.exec) (hb : c.code = cc) {i nL : Nat} {x : Int32} {lv lv' : List (Nat × Value)} (hdg : decode cc pc = .ok (.istore i, 2)) (h : zL ls nL lv) (hn : i < nL) (hl : (i, Value.int x) :: lv.filter (fun q => !(q.1 == i)) = lv')
    (kk : ∀ ls' : Array Slot, zL ls' nL lv' → W p l e R s m args below meth c H locs cells slots Q (F0 m (pc + 2) ls' rest)) : W p l e R s m args below meth c H locs cells slots Q (F0 m pc ls (.int x :: rest)) :=
  lv_istore hexec hb hdg h.1 hn rfl fun ls' h' => kk ls' (zL.put h.2 rfl hl h')
theorem z_iinc (hexec : p.tables.exec = Jvm.exec) (hb : c.code = cc) {i nL k : Nat} {n : Int} {x v : Int32} {lv lv' : List (Nat × Value)} (hdg : decode cc pc = .ok (.iinc i n, 3)) (h : zL ls nL lv) (hk : lv[k]? = some (i, .int x)) (hv : x + Int32.ofInt n = v) (hn : i < nL) (hl : (i, Value.int v) :: lv.filter (fun q => !(q.1 == i)) = lv')
    (kk : ∀ ls' : Array Slot, zL ls' nL lv' → W p l e R s m args below meth c H locs cells slots Q (F0 m (pc + 3) ls' rest)) : W p l e R s m args below meth c H locs cells slots Q (F0 m pc ls rest) :=
  lv_iinc hexec hb hdg h.1 hk hv hn rfl fun ls' h' => kk ls' (zL.put h.2 rfl hl h')
theorem z_astore_n (hexec : p.tables.exec = Jvm.exec) (hb : c.code = cc) {k : Fin 4} {i nL : Nat} {x : Option Nat} {lv lv' : List (Nat × Value)} (hdg : decode cc pc = .ok (.astore_n k, 1)) (hi : (k : Nat) = i) (h : zL ls nL lv) (hn : i < nL) (hl : (i, va_rf x) :: lv.filter (fun q => !(q.1 == i)) = lv')
    (kk : ∀ ls' : Array Slot, zL ls' nL lv' → W p l e R s m args below meth c H locs cells slots Q (F0 m (pc + 1) ls' rest)) : W p l e R s m args below meth c H locs cells slots Q (F0 m pc ls (va_rf x :: rest)) := by
  cases x with
  | none => exact lv_astore_nN hexec hb hdg hi h.1 hn rfl fun ls' h' => kk ls' (zL.put h.2 rfl hl h')
  | some x => exact lv_astore_n hexec hb hdg hi h.1 hn rfl fun ls' h' => kk ls' (zL.put h.2 rfl hl h')
theorem z_astore (hexec : p.tables.exec = Jvm.exec) (hb : c.code = cc) {i nL : Nat} {x : Option Nat} {lv lv' : List (Nat × Value)} (hdg : decode cc pc = .ok (.astore i, 2)) (h : zL ls nL lv) (hn : i < nL) (hl : (i, va_rf x) :: lv.filter (fun q => !(q.1 == i)) = lv')
    (kk : ∀ ls' : Array Slot, zL ls' nL lv' → W p l e R s m args below meth c H locs cells slots Q (F0 m (pc + 2) ls' rest)) : W p l e R s m args below meth c H locs cells slots Q (F0 m pc ls (va_rf x :: rest)) := by
  cases x with
  | none => exact lv_astoreN hexec hb hdg h.1 hn rfl fun ls' h' => kk ls' (zL.put h.2 rfl hl h')
  | some x => exact lv_astore hexec hb hdg h.1 hn rfl fun ls' h' => kk ls' (zL.put h.2 rfl hl h')
theorem z_aload_n (hexec : p.tables.exec = Jvm.exec) (hb : c.code = cc) {k : Fin 4} {i : Nat} {x : Option Nat} (hdg : decode cc pc = .ok (.aload_n k, 1)) (hi : (k : Nat) = i) (hl : ls[i]? = some (.val (va_rf x)))
    (k : W p l e R s m args below meth c H locs cells slots Q (F0 m (pc + 1) ls (va_rf x :: rest))) : W p l e R s m args below meth c H locs cells slots Q (F0 m pc ls (rest)) := by
  cases x with
  | none => exact lv_aload_nN hexec hb hdg hi hl k
  | some x => exact lv_aload_n hexec hb hdg hi hl k
theorem z_aload (hexec : p.tables.exec = Jvm.exec) (hb : c.code = cc) {i : Nat} {x : Option Nat} (hdg : decode cc pc = .ok (.aload i, 2)) (hl : ls[i]? = some (.val (va_rf x)))
    (k : W p l e R s m args below meth c H locs cells slots Q (F0 m (pc + 2) ls (va_rf x :: rest))) : W p l e R s m args below meth c H locs cells slots Q (F0 m pc ls (rest)) := by
  cases x with
  | none => exact lv_aloadN hexec hb hdg hl k
  | some x => exact lv_aload hexec hb hdg hl k
theorem z_getI (hexec : p.tables.exec = Jvm.exec) (hb : c.code = cc) {own ref C : String} {T : u_T} {N ci index n : Nat} {Ts : List Cond} (hts : ∀ w ∈ Ts, w.before args s = true) (hin : ∀ w ∈ u_ws C T N, w ∈ Ts) (hown : s.vm.findClass own = some m.cls) (hK : va_K D cl tys s) (hM : zW ca D cl A M H) (hT : zT M a = some (ci, n)) (hci : ci < 20) (hc : cl[ci]? = some (C, T, N)) (k : Nat) (hk : k < N) (hfl : (zfl ci)[k]? = some false) (hlink : (Cond.fieldLink own index ref (T k).2.1 (T k).2.2.1).before args s = true) (hsame : (T k).1 = ref) (hdg : decode cc pc = .ok (.getfield index, 3))
    (kk : W p l e R s m args below meth c H locs cells slots Q (F0 m (pc + 3) ls (.int (zI M a k) :: rest))) : W p l e R s m args below meth c H locs cells slots Q (F0 m pc ls (.ref a :: rest)) := by
  obtain ⟨ws, q0, hP, hD, hq, -⟩ := hM.get hT
  have hq : ws[q0]? = some (a, .inr (ci, zfv M a 0 (zfl ci))) := by rw [hq]; simp [zcel, hci]
  have hv := zfv_get M a (zfl ci) 0 k false hfl
  rw [Nat.zero_add] at hv
  exact va_get hexec hb hts hin hown hK hP q0 hq hc k hk hlink (fun x h => by rw [← hsame]; exact h) hv hdg kk
theorem z_getR (hexec : p.tables.exec = Jvm.exec) (hb : c.code = cc) {own ref C : String} {T : u_T} {N ci index n : Nat} {Ts : List Cond} (hts : ∀ w ∈ Ts, w.before args s = true) (hin : ∀ w ∈ u_ws C T N, w ∈ Ts) (hown : s.vm.findClass own = some m.cls) (hK : va_K D cl tys s) (hM : zW ca D cl A M H) (hT : zT M a = some (ci, n)) (hci : ci < 20) (hc : cl[ci]? = some (C, T, N)) (k : Nat) (hk : k < N) (hfl : (zfl ci)[k]? = some true) (hlink : (Cond.fieldLink own index ref (T k).2.1 (T k).2.2.1).before args s = true) (hsame : (T k).1 = ref) (hdg : decode cc pc = .ok (.getfield index, 3))
    (kk : W p l e R s m args below meth c H locs cells slots Q (F0 m (pc + 3) ls (va_rf (zR M a k) :: rest))) : W p l e R s m args below meth c H locs cells slots Q (F0 m pc ls (.ref a :: rest)) := by
  obtain ⟨ws, q0, hP, hD, hq, -⟩ := hM.get hT
  have hq : ws[q0]? = some (a, .inr (ci, zfv M a 0 (zfl ci))) := by rw [hq]; simp [zcel, hci]
  have hv := zfv_get M a (zfl ci) 0 k true hfl
  rw [Nat.zero_add] at hv
  exact va_get hexec hb hts hin hown hK hP q0 hq hc k hk hlink (fun x h => by rw [← hsame]; exact h) hv hdg kk
theorem z_putI (hexec : p.tables.exec = Jvm.exec) (hb : c.code = cc) {own ref C : String} {T : u_T} {N ci index n : Nat} {Ts : List Cond} (hts : ∀ w ∈ Ts, w.before args s = true) (hin : ∀ w ∈ u_ws C T N, w ∈ Ts) (ty0 : Nat → FieldType) (hty : ∀ k, k < N → parseFieldDescriptor (T k).2.2.1 = some (ty0 k)) (hnm : ∀ a, a < N → ∀ b, b < N → a ≠ b → (T a).2.1 ≠ (T b).2.1) (hown : s.vm.findClass own = some m.cls) (hK : va_K D cl tys s) (hM : zW ca D cl A M H) (hS : va_S A H0 H locs) (hT : zT M a = some (ci, n)) (hci : ci < 20) (hc : cl[ci]? = some (C, T, N)) (k : Nat) (hk : k < N) (hfl : (zfl ci)[k]? = some false) (hlink : (Cond.fieldLink own index ref (T k).2.1 (T k).2.2.1).before args s = true) (hsame : (T k).1 = ref)
    (hfin : (T k).2.2.2 = false ∨ ((T k).2.2.2 = true ∧ meth.name = "<init>" ∧ (T k).1 = own)) {v : Int32} (hn : narrow (ty0 k) (.int v) = .int v) (hfit : fits (ty0 k) (.int v) = true) (hdg : decode cc pc = .ok (.putfield index, 3))
    (kk : ∀ (H1 : Heap) (locs1 : List Loc), zW ca D cl A (zwI M a k v) H1 → va_S A H0 H1 locs1 → W p l e R s m args below meth c H1 locs1 cells slots Q (F0 m (pc + 3) ls rest)) : W p l e R s m args below meth c H locs cells slots Q (F0 m pc ls (.int v :: .ref a :: rest)) := by
  obtain ⟨ws, q0, hP, hD, hq, hset⟩ := hM.get hT
  have hq : ws[q0]? = some (a, .inr (ci, zfv M a 0 (zfl ci))) := by rw [hq]; simp [zcel, hci]
  have hl : k < (zfv M a 0 (zfl ci)).length := by rw [zfv_len]; exact (List.getElem?_eq_some_iff.mp hfl).1
  have hv := zfv_setI M a v (zfl ci) 0 k hfl
  rw [Nat.zero_add] at hv
  have fin : ∀ (H1 : Heap) (locs1 : List Loc), va_P D cl (ws.set q0 (a, .inr (ci, (zfv M a 0 (zfl ci)).set k (.int v)))) H1 → va_D A (ws.set q0 (a, .inr (ci, (zfv M a 0 (zfl ci)).set k (.int v)))) → va_S A H0 H1 locs1 → W p l e R s m args below meth c H1 locs1 cells slots Q (F0 m (pc + 3) ls rest) := fun H1 locs1 hP1 hD1 hS1 =>
    kk H1 locs1 (hset _ H1 (zwI M a k v) hP1 hD1 (fun b => rfl) (by rw [hv]; simp [zcel, hci]) (fun b hb => ⟨fun j => by rw [zI_wI, if_neg (fun h => hb h.1)], fun j => rfl⟩)) hS1
  rcases hfin with hfin | ⟨hfin, hin2, hdecl⟩
  · exact va_put hexec hb hts hin ty0 hty hnm hown hK hP hD hS q0 hq hc k hk hlink (fun x h => by rw [← hsame]; exact h) hfin (hty k hk) hn hfit hl hdg fin
  · exact va_putF hexec hb hts hin ty0 hty hnm hown hK hP hD hS q0 hq hc k hk hlink (fun x h => by rw [← hsame]; exact h) hfin hin2 hdecl (hty k hk) hn hfit hl hdg fin
theorem z_putR (hexec : p.tables.exec = Jvm.exec) (hb : c.code = cc) {own ref C : String} {T : u_T} {N ci index n : Nat} {Ts : List Cond} (hts : ∀ w ∈ Ts, w.before args s = true) (hin : ∀ w ∈ u_ws C T N, w ∈ Ts) (ty0 : Nat → FieldType) (hty : ∀ k, k < N → parseFieldDescriptor (T k).2.2.1 = some (ty0 k)) (hnm : ∀ a, a < N → ∀ b, b < N → a ≠ b → (T a).2.1 ≠ (T b).2.1) (hown : s.vm.findClass own = some m.cls) (hK : va_K D cl tys s) (hM : zW ca D cl A M H) (hS : va_S A H0 H locs) (hT : zT M a = some (ci, n)) (hci : ci < 20) (hc : cl[ci]? = some (C, T, N)) (k : Nat) (hk : k < N) (hfl : (zfl ci)[k]? = some true) (hlink : (Cond.fieldLink own index ref (T k).2.1 (T k).2.2.1).before args s = true) (hsame : (T k).1 = ref)
    (hfin : (T k).2.2.2 = false ∨ ((T k).2.2.2 = true ∧ meth.name = "<init>" ∧ (T k).1 = own)) {v : Option Nat} (hn : narrow (ty0 k) (va_rf v) = va_rf v) (hfit : fits (ty0 k) (va_rf v) = true) (hdg : decode cc pc = .ok (.putfield index, 3))
    (kk : ∀ (H1 : Heap) (locs1 : List Loc), zW ca D cl A (zwR M a k v) H1 → va_S A H0 H1 locs1 → W p l e R s m args below meth c H1 locs1 cells slots Q (F0 m (pc + 3) ls rest)) : W p l e R s m args below meth c H locs cells slots Q (F0 m pc ls (va_rf v :: .ref a :: rest)) := by
  obtain ⟨ws, q0, hP, hD, hq, hset⟩ := hM.get hT
  have hq : ws[q0]? = some (a, .inr (ci, zfv M a 0 (zfl ci))) := by rw [hq]; simp [zcel, hci]
  have hl : k < (zfv M a 0 (zfl ci)).length := by rw [zfv_len]; exact (List.getElem?_eq_some_iff.mp hfl).1
  have hv := zfv_setR M a v (zfl ci) 0 k hfl
  rw [Nat.zero_add] at hv
  have fin : ∀ (H1 : Heap) (locs1 : List Loc), va_P D cl (ws.set q0 (a, .inr (ci, (zfv M a 0 (zfl ci)).set k (va_rf v)))) H1 → va_D A (ws.set q0 (a, .inr (ci, (zfv M a 0 (zfl ci)).set k (va_rf v)))) → va_S A H0 H1 locs1 → W p l e R s m args below meth c H1 locs1 cells slots Q (F0 m (pc + 3) ls rest) := fun H1 locs1 hP1 hD1 hS1 =>
    kk H1 locs1 (hset _ H1 (zwR M a k v) hP1 hD1 (fun b => rfl) (by rw [hv]; simp [zcel, hci]) (fun b hb => ⟨fun j => rfl, fun j => by rw [zR_wR, if_neg (fun h => hb h.1)]⟩)) hS1
  rcases hfin with hfin | ⟨hfin, hin2, hdecl⟩
  · exact va_put hexec hb hts hin ty0 hty hnm hown hK hP hD hS q0 hq hc k hk hlink (fun x h => by rw [← hsame]; exact h) hfin (hty k hk) hn hfit hl hdg fin
  · exact va_putF hexec hb hts hin ty0 hty hnm hown hK hP hD hS q0 hq hc k hk hlink (fun x h => by rw [← hsame]; exact h) hfin hin2 hdecl (hty k hk) hn hfit hl hdg fin
theorem z_iald (hexec : p.tables.exec = Jvm.exec) (hb : c.code = cc) (hK : va_K D cl tys s) (hM : zW ca D cl A M H) {n : Nat} (hT : zT M a = some (20, n)) (t0 : Nat) (ht : tys[t0]? = some (ca 20, .int)) {i : Int32} (hin : vp_in i n) (hdg : decode cc pc = .ok (.iaload, 1))
    (kk : W p l e R s m args below meth c H locs cells slots Q (F0 m (pc + 1) ls (.int (zI M a i.toNatClampNeg) :: rest))) : W p l e R s m args below meth c H locs cells slots Q (F0 m pc ls (.int i :: .ref a :: rest)) := by
  obtain ⟨ws, q0, hP, hD, hq, -⟩ := hM.get hT
  exact va_iald hexec hb hK hP q0 t0 hq ht hin hdg kk
theorem z_zald (hexec : p.tables.exec = Jvm.exec) (hb : c.code = cc) (hK : va_K D cl tys s) (hM : zW ca D cl A M H) {n : Nat} (hT : zT M a = some (21, n)) (t0 : Nat) (ht : tys[t0]? = some (ca 21, .boolean)) {i : Int32} (hin : vp_in i n) (hdg : decode cc pc = .ok (.baload, 1))
    (kk : W p l e R s m args below meth c H locs cells slots Q (F0 m (pc + 1) ls (.int (zI M a i.toNatClampNeg) :: rest))) : W p l e R s m args below meth c H locs cells slots Q (F0 m pc ls (.int i :: .ref a :: rest)) := by
  obtain ⟨ws, q0, hP, hD, hq, -⟩ := hM.get hT
  exact va_zald hexec hb hK hP q0 t0 hq ht hin hdg kk
theorem z_aald (hexec : p.tables.exec = Jvm.exec) (hb : c.code = cc) (hK : va_K D cl tys s) (hM : zW ca D cl A M H) {n kd : Nat} (hT : zT M a = some (kd, n)) (hkd : ¬ kd < 22) (t0 : Nat) {C : String} (ht : tys[t0]? = some (ca kd, .object C)) {i : Int32} (hin : vp_in i n) (hdg : decode cc pc = .ok (.aaload, 1))
    (kk : W p l e R s m args below meth c H locs cells slots Q (F0 m (pc + 1) ls (va_rf (zR M a i.toNatClampNeg) :: rest))) : W p l e R s m args below meth c H locs cells slots Q (F0 m pc ls (.int i :: .ref a :: rest)) := by
  obtain ⟨ws, q0, hP, hD, hq, -⟩ := hM.get hT
  have hq : ws[q0]? = some (a, .inl (ca kd, n, .inr (.inr (.inr (.inr (zR M a)))))) := by rw [hq]; simp [zcel, hkd, show ¬ kd < 20 by omega]
  exact va_aldq hexec hb hK hP q0 t0 hq ht hin hdg kk
theorem z_alen (hexec : p.tables.exec = Jvm.exec) (hb : c.code = cc) (hK : va_K D cl tys s) (hM : zW ca D cl A M H) {n kd : Nat} (hT : zT M a = some (kd, n)) (hkd : ¬ kd < 20) (t0 : Nat) {ty : FieldType} (ht : tys[t0]? = some (ca kd, ty)) (hdg : decode cc pc = .ok (.arraylength, 1))
    (kk : W p l e R s m args below meth c H locs cells slots Q (F0 m (pc + 1) ls (.int (nI n) :: rest))) : W p l e R s m args below meth c H locs cells slots Q (F0 m pc ls (.ref a :: rest)) := by
  obtain ⟨ws, q0, hP, hD, hq, -⟩ := hM.get hT
  by_cases hk : kd < 22
  · have hq : ws[q0]? = some (a, .inl (ca kd, n, .inl (zI M a))) := by rw [hq]; simp [zcel, hkd, hk]
    exact va_alen hexec hb hK hP q0 t0 hq ht rfl hdg kk
  · have hq : ws[q0]? = some (a, .inl (ca kd, n, .inr (.inr (.inr (.inr (zR M a)))))) := by rw [hq]; simp [zcel, hkd, hk]
    exact va_alen hexec hb hK hP q0 t0 hq ht rfl hdg kk
theorem z_upd (M : zM) (a i : Nat) (x : Int32) : upd (zI M a) i x = zI (zwI M a i x) a := by
  funext j
  by_cases hj : j = i
  · subst hj; simp [upd, zI_wI]
  · simp [upd, zI_wI, hj]
theorem z_vup (M : zM) (a i : Nat) (x : Option Nat) : va_up (zR M a) i x = zR (zwR M a i x) a := by
  funext j
  by_cases hj : j = i
  · subst hj; simp [va_up, zR_wR]
  · simp [va_up, zR_wR, hj]
theorem z_iast (hexec : p.tables.exec = Jvm.exec) (hb : c.code = cc) (hK : va_K D cl tys s) (hM : zW ca D cl A M H) (hS : va_S A H0 H locs) {n : Nat} (hT : zT M a = some (20, n)) (t0 : Nat) (ht : tys[t0]? = some (ca 20, .int)) {i x : Int32} (hin : vp_in i n) (hdg : decode cc pc = .ok (.iastore, 1))
    (kk : ∀ (H1 : Heap) (locs1 : List Loc), zW ca D cl A (zwI M a i.toNatClampNeg x) H1 → va_S A H0 H1 locs1 → W p l e R s m args below meth c H1 locs1 cells slots Q (F0 m (pc + 1) ls rest)) : W p l e R s m args below meth c H locs cells slots Q (F0 m pc ls (.int x :: .int i :: .ref a :: rest)) := by
  obtain ⟨ws, q0, hP, hD, hq, hset⟩ := hM.get hT
  refine va_iast hexec hb hK hP hD hS q0 t0 hq ht hin hdg (fun H1 locs1 hP1 hD1 hS1 => kk H1 locs1 (hset _ H1 (zwI M a i.toNatClampNeg x) hP1 hD1 (fun b => rfl) ?_ (fun b hb => ⟨fun j => by rw [zI_wI, if_neg (fun h => hb h.1)], fun j => rfl⟩)) hS1)
  rw [z_upd]; simp [zcel]
theorem z_zast (hexec : p.tables.exec = Jvm.exec) (hb : c.code = cc) (hK : va_K D cl tys s) (hM : zW ca D cl A M H) (hS : va_S A H0 H locs) {n : Nat} (hT : zT M a = some (21, n)) (t0 : Nat) (ht : tys[t0]? = some (ca 21, .boolean)) {i x : Int32} (hin : vp_in i n) (hdg : decode cc pc = .ok (.bastore, 1))
    (kk : ∀ (H1 : Heap) (locs1 : List Loc), zW ca D cl A (zwI M a i.toNatClampNeg (vp_nar .boolean x)) H1 → va_S A H0 H1 locs1 → W p l e R s m args below meth c H1 locs1 cells slots Q (F0 m (pc + 1) ls rest)) : W p l e R s m args below meth c H locs cells slots Q (F0 m pc ls (.int x :: .int i :: .ref a :: rest)) := by
  obtain ⟨ws, q0, hP, hD, hq, hset⟩ := hM.get hT
  refine va_zast hexec hb hK hP hD hS q0 t0 hq ht hin hdg (fun H1 locs1 hP1 hD1 hS1 => kk H1 locs1 (hset _ H1 (zwI M a i.toNatClampNeg (vp_nar .boolean x)) hP1 hD1 (fun b => rfl) ?_ (fun b hb => ⟨fun j => by rw [zI_wI, if_neg (fun h => hb h.1)], fun j => rfl⟩)) hS1)
  rw [z_upd]; simp [zcel]
theorem z_aast (hexec : p.tables.exec = Jvm.exec) (hb : c.code = cc) (hK : va_K D cl tys s) (hM : zW ca D cl A M H) (hS : va_S A H0 H locs) {n kd : Nat} (hT : zT M a = some (kd, n)) (hkd : ¬ kd < 22) (t0 : Nat) {r : vw_C} (ht : tys[t0]? = some (ca kd, .object r.1)) {v ci nv : Nat} (hTv : zT M v = some (ci, nv)) (hci : ci < 20) (hc : cl[ci]? = some r) {i : Int32} (hin : vp_in i n) (hdg : decode cc pc = .ok (.aastore, 1))
    (kk : ∀ (H1 : Heap) (locs1 : List Loc), zW ca D cl A (zwR M a i.toNatClampNeg (some v)) H1 → va_S A H0 H1 locs1 → W p l e R s m args below meth c H1 locs1 cells slots Q (F0 m (pc + 1) ls rest)) : W p l e R s m args below meth c H locs cells slots Q (F0 m pc ls (.ref v :: .int i :: .ref a :: rest)) := by
  have hM2 := hM
  obtain ⟨ws0, hP0, hD0, h10, h20⟩ := hM
  have hM : zW ca D cl A M H := ⟨ws0, hP0, hD0, h10, h20⟩
  obtain ⟨ws, hP, hD, h1, h2⟩ := hM
  have hM3 : zW ca D cl A M H := ⟨ws, hP, hD, h1, h2⟩
  obtain ⟨q0, hq⟩ := List.getElem?_of_mem (h1 a _ hT)
  obtain ⟨qk, hqk⟩ := List.getElem?_of_mem (h1 v _ hTv)
  have hq' : ws[q0]? = some (a, .inl (ca kd, n, .inr (.inr (.inr (.inr (zR M a)))))) := by rw [hq]; simp [zcel, hkd, show ¬ kd < 20 by omega]
  have hqk' : ws[qk]? = some (v, .inr (ci, zfv M v 0 (zfl ci))) := by rw [hqk]; simp [zcel, hci]
  refine va_astq hexec hb hK hP hD hS q0 t0 qk ci hq' ht hqk' hc hin hdg (fun H1 locs1 hP1 hD1 hS1 => kk H1 locs1 ⟨_, hP1, hD1, fun b u hb => ?_, fun z hz => ?_⟩ hS1)
  · rw [zT_wR] at hb
    have hl : q0 < ws.length := (List.getElem?_eq_some_iff.mp hq).1
    by_cases hba : b = a
    · subst hba
      have : u = (kd, n) := Option.some.inj (hb.symm.trans hT)
      subst this
      refine List.mem_of_getElem? (i := q0) ?_
      rw [List.getElem?_set_self hl, z_vup]
      simp [zcel, hkd, show ¬ kd < 20 by omega]
    · have hb1 := h1 b u hb
      rw [zcel_congr (M := M) (M' := zwR M a i.toNatClampNeg (some v)) (fun j => rfl) (fun j => by rw [zR_wR, if_neg (fun h => hba h.1)])]
      obtain ⟨k, hk⟩ := List.getElem?_of_mem hb1
      have hkq : q0 ≠ k := by
        intro hh
        subst hh
        rw [hq] at hk
        exact hba (congrArg Prod.fst (Option.some.inj hk)).symm
      exact List.mem_of_getElem? (by rw [List.getElem?_set_ne hkq]; exact hk)
  · rcases List.mem_or_eq_of_mem_set hz with h3 | h3
    · exact h2 z h3
    · rw [h3]; exact ⟨_, hT⟩
theorem z_new (hexec : p.tables.exec = Jvm.exec) (hb : c.code = cc) {own C : String} {T : u_T} {N ci index : Nat} {Ts : List Cond} (hts : ∀ w ∈ Ts, w.before args s = true) (hin : ∀ w ∈ u_ws C T N, w ∈ Ts) (ty : Nat → FieldType) (hty : ∀ k, k < N → parseFieldDescriptor (T k).2.2.1 = some (ty k)) (hown : s.vm.findClass own = some m.cls) (hcl : (Cond.classLink own index C).before args s = true) (hinst : (Cond.instantiable C N).before args s = true) (hini : (Cond.initialized C).before args s = true)
    (hK : va_K D cl tys s) (hM : zW ca D cl A M H) (hS : va_S A H0 H locs) (hA : ∀ q, H0.size ≤ q → A q) (hci : ci < 20) (hc : cl[ci]? = some (C, T, N)) (hfs : ∀ j, j < N → defaultValue (ty j) = vp_V (zdf (zfl ci)) j) (hcells : cells + 1 ≤ R.cells) (hslots : slots + N ≤ R.slots) (hdg : decode cc pc = .ok (.new index, 3))
    (kk : ∀ (q : Nat) (H1 : Heap), zT M q = none → zW ca D cl A (znw M q (ci, N)) H1 → va_S A H0 H1 locs →
      W p l e R s m args below meth c H1 locs (cells + 1) (slots + N) Q (F0 m (pc + 3) ls (.ref q :: rest))) : W p l e R s m args below meth c H locs cells slots Q (F0 m pc ls rest) := by
  obtain ⟨ws, hP, hD, hnew⟩ := hM.new
  refine va_new hexec hb hts hin ty hty hown hcl hinst hini hK hP hD hS hA hc hfs hcells hslots hdg (fun q H1 hP1 hD1 hS1 => ?_)
  obtain ⟨h1, h2⟩ := hnew q _ H1 (ci, N) hP1 hD1 (by simp [zcel, hci, zfv_new])
  exact kk q H1 h1 h2 hS1
theorem z_newP (hexec : p.tables.exec = Jvm.exec) (hb : c.code = cc) {atype : ArrayType} (harr : (Cond.arrayClass (newarray.typeOf atype)).before args s = true) {ty : FieldType} (hty : newarray.typeOf atype = ty) (hK : va_K D cl tys s) (hM : zW ca D cl A M H) (hS : va_S A H0 H locs) (hA : ∀ q, H0.size ≤ q → A q) {kd : Nat} (hkd : kd = 20 ∧ ty = .int ∨ kd = 21 ∧ ty = .boolean) (t0 : Nat) (ht : tys[t0]? = some (ca kd, ty))
    {n : Int32} {N' : Nat} (hn : ¬ n < 0) (hN : n.toNatClampNeg = N') (hbytes : N' * componentBytes ty ≤ 536870912) (hcells : cells + 1 ≤ R.cells) (hslots : slots + N' ≤ R.slots) (hdg : decode cc pc = .ok (.newarray atype, 2))
    (kk : ∀ (q : Nat) (H1 : Heap), zT M q = none → zW ca D cl A (znw M q (kd, N')) H1 → va_S A H0 H1 locs →
      W p l e R s m args below meth c H1 locs (cells + 1) (slots + N') Q (F0 m (pc + 2) ls (.ref q :: rest))) : W p l e R s m args below meth c H locs cells slots Q (F0 m pc ls (.int n :: rest)) := by
  obtain ⟨ws, hP, hD, hnew⟩ := hM.new
  refine va_newa (a0 := (N', .inl (fun _ => 0))) hexec hb harr hty hK hP hD hS hA (fun cA => ?_) hn hN hbytes hcells hslots hdg (fun q cA H1 hK1 hP1 hD1 hS1 => ?_)
  · rw [vp_cell_i]
    rcases hkd with ⟨-, rfl⟩ | ⟨-, rfl⟩ <;> rfl
  · have e1 : cA = ca kd := by
      have h1 := (hK.2 t0 _ ht).2
      have h2 := (hK1.2 tys.length (cA, ty) (by rw [List.getElem?_append_right (Nat.le_refl _), Nat.sub_self]; rfl)).2
      rcases hkd with ⟨-, rfl⟩ | ⟨-, rfl⟩ <;> exact Option.some.inj (h2.symm.trans h1)
    subst e1
    obtain ⟨h1, h2⟩ := hnew q _ H1 (kd, N') hP1 hD1 (by
      have hz : zI (znw M q (kd, N')) q = fun _ => 0 := funext fun j => by rw [zI_nw, if_pos rfl]
      rcases hkd with ⟨rfl, -⟩ | ⟨rfl, -⟩ <;> simp [zcel, hz])
    exact kk q H1 h1 h2 hS1
theorem z_newA (hexec : p.tables.exec = Jvm.exec) (hb : c.code = cc) {own C : String} {index : Nat} (hown : s.vm.findClass own = some m.cls) (hclink : (Cond.classLink own index C).before args s = true) (hover : va_AO C s) (hK : va_K D cl tys s) (hM : zW ca D cl A M H) (hS : va_S A H0 H locs) (hA : ∀ q, H0.size ≤ q → A q) {kd : Nat} (hkd : ¬ kd < 22) (t0 : Nat) (ht : tys[t0]? = some (ca kd, .object C))
    {n : Int32} {N' : Nat} (hn : ¬ n < 0) (hN : n.toNatClampNeg = N') (hbytes : N' * 4 ≤ 536870912) (hcells : cells + 1 ≤ R.cells) (hslots : slots + N' ≤ R.slots) (hdg : decode cc pc = .ok (.anewarray index, 3))
    (kk : ∀ (q : Nat) (H1 : Heap), zT M q = none → zW ca D cl A (znw M q (kd, N')) H1 → va_S A H0 H1 locs →
      W p l e R s m args below meth c H1 locs (cells + 1) (slots + N') Q (F0 m (pc + 3) ls (.ref q :: rest))) : W p l e R s m args below meth c H locs cells slots Q (F0 m pc ls (.int n :: rest)) := by
  obtain ⟨ws, hP, hD, hnew⟩ := hM.new
  refine va_newq hexec hb hown hclink hover hK hP hD hS hA hn hN hbytes hcells hslots hdg (fun q cA H1 hK1 hP1 hD1 hS1 => ?_)
  have e1 : cA = ca kd := by
    obtain ⟨_, _, _, _, _, h1⟩ := (hK.2 t0 _ ht).2
    obtain ⟨_, _, _, _, _, h2⟩ := (hK1.2 tys.length (cA, .object C) (by rw [List.getElem?_append_right (Nat.le_refl _), Nat.sub_self]; rfl)).2
    exact Option.some.inj (h2.symm.trans h1)
  subst e1
  obtain ⟨h1, h2⟩ := hnew q _ H1 (kd, N') hP1 hD1 (by
    have hz : zR (znw M q (kd, N')) q = fun _ => none := funext fun j => by rw [zR_nw, if_pos rfl]
    simp [zcel, hz, hkd, show ¬ kd < 20 by omega])
  exact kk q H1 h1 h2 hS1
theorem z_tsIn {x : Int32} (v : Int32) (hxv : x = v) (hexec : p.tables.exec = Jvm.exec) (hb : c.code = cc) {dflt lo hi : Int} {offs : Array Int} {len : Nat} {off : Int} {tgt : Nat} (hdg : decode cc pc = .ok (.tableswitch dflt lo hi offs, len)) (h1 : ¬ v.toInt < lo) (h2 : ¬ hi < v.toInt) (ho : offs[(v.toInt - lo).toNat]? = some off) (ht : (pc : Int) + off = (tgt : Int))
    (kk : W p l e R s m args below meth c H locs cells slots Q (F0 m tgt ls rest)) : W p l e R s m args below meth c H locs cells slots Q (F0 m pc ls (.int x :: rest)) := by
  subst hxv
  exact lv_tableIn hexec hb hdg h1 h2 ho ht kk
theorem z_lkIn {x : Int32} (v : Int32) (hxv : x = v) (hexec : p.tables.exec = Jvm.exec) (hb : c.code = cc) {dflt : Int} {ps : Array (Int × Int)} {len : Nat} {off : Int} {tgt : Nat} (hdg : decode cc pc = .ok (.lookupswitch dflt ps, len)) (hp : (ps.toList.zip (ps.toList.drop 1)).all (fun (a, next) => a.1 < next.1) = true) (ho : Op.lookupswitch.offset ps.toList dflt v.toInt = off) (ht : (pc : Int) + off = (tgt : Int))
    (kk : W p l e R s m args below meth c H locs cells slots Q (F0 m tgt ls rest)) : W p l e R s m args below meth c H locs cells slots Q (F0 m pc ls (.int x :: rest)) := by
  subst hxv
  exact lv_lookup hexec hb hdg hp ho ht kk
theorem zb_n {v : Int32} (h : v = 0 ∨ v = 1) : narrow .boolean (.int v) = .int v := by rcases h with rfl | rfl <;> rfl
theorem zb_f {v : Int32} (h : v = 0 ∨ v = 1) : fits .boolean (.int v) = true := by rcases h with rfl | rfl <;> rfl
theorem z_out (n : Nat) (hn : n < 2 ^ 31) (x : Int32) (h : ∀ k : Nat, k < n → ¬ x = nI k) : x.toInt < 0 ∨ (n : Int) - 1 < x.toInt := by
  by_cases h0 : x < 0
  · exact Or.inl (by rw [Int32.lt_iff_toInt_lt] at h0; simpa using h0)
  · obtain ⟨j, hj, rfl⟩ := nI_of h0
    rw [nI_toInt hj]
    refine Or.inr ?_
    have : ¬ j < n := fun q => h j q rfl
    omega
end ZR
