/-! the class's memory: cells by kind and number; D its ints, E its references -/
def u3 (D : Nat → Nat → Nat → Int32) (k i j : Nat) (v : Int32) : Nat → Nat → Nat → Int32 := fun k' i' j' => if k' = k ∧ i' = i ∧ j' = j then v else D k' i' j'
def e3 (E : Nat → Nat → Nat → Option Nat) (k i j : Nat) (v : Option Nat) : Nat → Nat → Nat → Option Nat := fun k' i' j' => if k' = k ∧ i' = i ∧ j' = j then v else E k' i' j'
theorem u3_s (D : Nat → Nat → Nat → Int32) (k i j : Nat) (v : Int32) : u3 D k i j v k i j = v := by simp [u3]
theorem u3_n (D : Nat → Nat → Nat → Int32) {k i j : Nat} (v : Int32) {k' i' j' : Nat} (h : ¬ (k' = k ∧ i' = i ∧ j' = j)) : u3 D k i j v k' i' j' = D k' i' j' := if_neg h
theorem e3_s (E : Nat → Nat → Nat → Option Nat) (k i j : Nat) (v : Option Nat) : e3 E k i j v k i j = v := by simp [e3]
theorem e3_n (E : Nat → Nat → Nat → Option Nat) {k i j : Nat} (v : Option Nat) {k' i' j' : Nat} (h : ¬ (k' = k ∧ i' = i ∧ j' = j)) : e3 E k i j v k' i' j' = E k' i' j' := if_neg h
def ct (k : Nat) : Nat × Nat := match k with
  | 0 => (0, 10)
  | 1 => (1, 4)
  | 2 => (2, 4)
  | 3 => (3, 12)
  | 4 => (4, 4)
  | 5 => (5, 6)
  | 6 => (6, 6)
  | 7 => (7, 8)
  | 8 => (8, 6)
  | 10 => (24, 6)
  | 11 => (25, 6)
  | 12 => (20, 240)
  | 13 => (20, 240)
  | 14 => (20, 5)
  | 15 => (20, 5)
  | 16 => (23, 60)
  | 17 => (22, 60)
  | _ => (20, 3)
def zC (V : Nat → Nat → Prop) (ad : Nat → Nat → Nat) (M : zM) (D : Nat → Nat → Nat → Int32) (E : Nat → Nat → Nat → Option Nat) : Prop :=
  (∀ k i, V k i → zT M (ad k i) = some (ct k)) ∧ (∀ k i j, V k i → zI M (ad k i) j = D k i j) ∧ (∀ k i j, V k i → zR M (ad k i) j = E k i j) ∧ ∀ k i k' i', V k i → V k' i' → ad k i = ad k' i' → k = k' ∧ i = i'
/-- what stands from the making on -/
def zY (V : Nat → Nat → Prop) (ad : Nat → Nat → Nat) (E : Nat → Nat → Nat → Option Nat) : Prop :=
  (V 1 0 ∧ V 2 0 ∧ V 5 0 ∧ V 7 0 ∧ V 8 0) ∧ (V 10 0 ∧ V 11 0 ∧ V 12 0 ∧ V 13 0 ∧ V 14 0 ∧ V 15 0 ∧ V 16 0 ∧ V 17 0) ∧ (∀ r, r < 6 → V 4 r) ∧ (∀ r, r < 6 → V 6 r) ∧
  (E 8 0 0 = some (ad 5 0) ∧ E 8 0 1 = some (ad 1 0) ∧ E 8 0 2 = some (ad 2 0) ∧ E 8 0 3 = some (ad 17 0)) ∧ (E 5 0 0 = some (ad 10 0) ∧ E 5 0 1 = some (ad 7 0)) ∧ E 1 0 0 = some (ad 11 0) ∧ (E 2 0 0 = some (ad 12 0) ∧ E 2 0 1 = some (ad 13 0)) ∧ (E 7 0 0 = some (ad 14 0) ∧ E 7 0 1 = some (ad 15 0) ∧ E 7 0 2 = some (ad 16 0)) ∧
  (∀ r, r < 6 → E 10 0 r = some (ad 4 r)) ∧ ∀ r, r < 6 → E 11 0 r = some (ad 6 r)
def zX (V : Nat → Nat → Prop) (ad : Nat → Nat → Nat) (M : zM) (D : Nat → Nat → Nat → Int32) (E : Nat → Nat → Nat → Option Nat) : Prop := zC V ad M D E ∧ zY V ad E
section CX
variable {V : Nat → Nat → Prop} {ad : Nat → Nat → Nat} {M : zM} {D : Nat → Nat → Nat → Int32} {E : Nat → Nat → Nat → Option Nat}
theorem zX.T (h : zX V ad M D E) {k i : Nat} (hV : V k i) : zT M (ad k i) = some (ct k) := h.1.1 k i hV
theorem zX.I (h : zX V ad M D E) {k i : Nat} (hV : V k i) (j : Nat) : zI M (ad k i) j = D k i j := h.1.2.1 k i j hV
theorem zX.R (h : zX V ad M D E) {k i : Nat} (hV : V k i) (j : Nat) : zR M (ad k i) j = E k i j := h.1.2.2.1 k i j hV
theorem zX.v1 (h : zX V ad M D E) : V 1 0 := h.2.1.1
theorem zX.v2 (h : zX V ad M D E) : V 2 0 := h.2.1.2.1
theorem zX.v5 (h : zX V ad M D E) : V 5 0 := h.2.1.2.2.1
theorem zX.v7 (h : zX V ad M D E) : V 7 0 := h.2.1.2.2.2.1
theorem zX.v8 (h : zX V ad M D E) : V 8 0 := h.2.1.2.2.2.2
theorem zX.v10 (h : zX V ad M D E) : V 10 0 := h.2.2.1.1
theorem zX.v11 (h : zX V ad M D E) : V 11 0 := h.2.2.1.2.1
theorem zX.v12 (h : zX V ad M D E) : V 12 0 := h.2.2.1.2.2.1
theorem zX.v13 (h : zX V ad M D E) : V 13 0 := h.2.2.1.2.2.2.1
theorem zX.v14 (h : zX V ad M D E) : V 14 0 := h.2.2.1.2.2.2.2.1
theorem zX.v15 (h : zX V ad M D E) : V 15 0 := h.2.2.1.2.2.2.2.2.1
theorem zX.v16 (h : zX V ad M D E) : V 16 0 := h.2.2.1.2.2.2.2.2.2.1
theorem zX.v17 (h : zX V ad M D E) : V 17 0 := h.2.2.1.2.2.2.2.2.2.2
theorem zX.v4 (h : zX V ad M D E) {r : Nat} (hr : r < 6) : V 4 r := h.2.2.2.1 r hr
theorem zX.v6 (h : zX V ad M D E) {r : Nat} (hr : r < 6) : V 6 r := h.2.2.2.2.1 r hr
theorem zX.e80 (h : zX V ad M D E) : E 8 0 0 = some (ad 5 0) := h.2.2.2.2.2.1.1
theorem zX.e81 (h : zX V ad M D E) : E 8 0 1 = some (ad 1 0) := h.2.2.2.2.2.1.2.1
theorem zX.e82 (h : zX V ad M D E) : E 8 0 2 = some (ad 2 0) := h.2.2.2.2.2.1.2.2.1
theorem zX.e83 (h : zX V ad M D E) : E 8 0 3 = some (ad 17 0) := h.2.2.2.2.2.1.2.2.2
theorem zX.e50 (h : zX V ad M D E) : E 5 0 0 = some (ad 10 0) := h.2.2.2.2.2.2.1.1
theorem zX.e51 (h : zX V ad M D E) : E 5 0 1 = some (ad 7 0) := h.2.2.2.2.2.2.1.2
theorem zX.e10 (h : zX V ad M D E) : E 1 0 0 = some (ad 11 0) := h.2.2.2.2.2.2.2.1
theorem zX.e20 (h : zX V ad M D E) : E 2 0 0 = some (ad 12 0) := h.2.2.2.2.2.2.2.2.1.1
theorem zX.e21 (h : zX V ad M D E) : E 2 0 1 = some (ad 13 0) := h.2.2.2.2.2.2.2.2.1.2
theorem zX.e70 (h : zX V ad M D E) : E 7 0 0 = some (ad 14 0) := h.2.2.2.2.2.2.2.2.2.1.1
theorem zX.e71 (h : zX V ad M D E) : E 7 0 1 = some (ad 15 0) := h.2.2.2.2.2.2.2.2.2.1.2.1
theorem zX.e72 (h : zX V ad M D E) : E 7 0 2 = some (ad 16 0) := h.2.2.2.2.2.2.2.2.2.1.2.2
theorem zX.er (h : zX V ad M D E) {r : Nat} (hr : r < 6) : E 10 0 r = some (ad 4 r) := h.2.2.2.2.2.2.2.2.2.2.1 r hr
theorem zX.es (h : zX V ad M D E) {r : Nat} (hr : r < 6) : E 11 0 r = some (ad 6 r) := h.2.2.2.2.2.2.2.2.2.2.2 r hr
theorem zX.wI (h : zX V ad M D E) {k i : Nat} (hV : V k i) (j : Nat) (v : Int32) : zX V ad (zwI M (ad k i) j v) (u3 D k i j v) E := by
  obtain ⟨⟨h1, h2, h3, h4⟩, hY⟩ := h
  refine ⟨⟨h1, fun k' i' j' hV' => ?_, h3, h4⟩, hY⟩
  rw [zI_wI]
  by_cases hh : k' = k ∧ i' = i ∧ j' = j
  · obtain ⟨rfl, rfl, rfl⟩ := hh
    rw [if_pos ⟨rfl, rfl⟩, u3_s]
  · rw [u3_n D v hh, if_neg (fun q => hh (by obtain ⟨a, b⟩ := h4 _ _ _ _ hV' hV q.1; exact ⟨a, b, q.2⟩)), h2 k' i' j' hV']
theorem zC.wR (h : zC V ad M D E) {k i : Nat} (hV : V k i) (j : Nat) (v : Option Nat) : zC V ad (zwR M (ad k i) j v) D (e3 E k i j v) := by
  obtain ⟨h1, h2, h3, h4⟩ := h
  refine ⟨h1, h2, fun k' i' j' hV' => ?_, h4⟩
  rw [zR_wR]
  by_cases hh : k' = k ∧ i' = i ∧ j' = j
  · obtain ⟨rfl, rfl, rfl⟩ := hh
    rw [if_pos ⟨rfl, rfl⟩, e3_s]
  · rw [e3_n E v hh, if_neg (fun q => hh (by obtain ⟨a, b⟩ := h4 _ _ _ _ hV' hV q.1; exact ⟨a, b, q.2⟩)), h3 k' i' j' hV']
theorem zX.wR (h : zX V ad M D E) {k i : Nat} (hV : V k i) (j : Nat) (v : Option Nat) (hk : k = 0 ∨ k = 3 ∨ k = 16 ∨ k = 17) : zX V ad (zwR M (ad k i) j v) D (e3 E k i j v) := by
  refine ⟨h.1.wR hV j v, ?_⟩
  obtain ⟨a, b, c, d, ⟨e1, e2, e3', e4⟩, ⟨e5, e6⟩, e7, ⟨e8, e9⟩, ⟨e10, e11, e12⟩, e13, e14⟩ := h.2
  have hn : ∀ {k' : Nat} (i' j' : Nat), ¬ (k' = 0 ∨ k' = 3 ∨ k' = 16 ∨ k' = 17) → e3 E k i j v k' i' j' = E k' i' j' := fun i' j' hh => e3_n E v (fun q => hh (by rw [q.1]; exact hk))
  refine ⟨a, b, c, d, ⟨?_, ?_, ?_, ?_⟩, ⟨?_, ?_⟩, ?_, ⟨?_, ?_⟩, ⟨?_, ?_, ?_⟩, fun r hr => ?_, fun r hr => ?_⟩ <;> rw [hn _ _ (by decide)]
  · exact e1
  · exact e2
  · exact e3'
  · exact e4
  · exact e5
  · exact e6
  · exact e7
  · exact e8
  · exact e9
  · exact e10
  · exact e11
  · exact e12
  · exact e13 r hr
  · exact e14 r hr
theorem c_setI {P : zM → Prop} (h : zX V ad M D E) {k i : Nat} (hV : V k i) (j : Nat) {v w : Int32} (hw : w = v) (K : ∀ M', zX V ad M' (u3 D k i j v) E → P M') : ∀ M', M' = zwI M (ad k i) j w → P M' := by
  intro M' e
  subst e hw
  exact K _ (h.wI hV j w)
theorem c_setA {P : zM → Prop} (h : zX V ad M D E) {k i : Nat} (hV : V k i) {x : Int32} (j : Nat) (hx : x = nI j) (hj : j < 2 ^ 31) {v w : Int32} (hw : w = v) (K : ∀ M', zX V ad M' (u3 D k i j v) E → P M') : ∀ M', M' = zwI M (ad k i) x.toNatClampNeg w → P M' := by
  intro M' e
  subst e hw hx
  rw [n_cl hj]
  exact K _ (h.wI hV j w)
theorem c_arr {P : Nat → Nat → Prop} (h : zX V ad M D E) {k i j k2 i2 kd n : Nat} (hV : V k i) (hV2 : V k2 i2) (hE : E k i j = some (ad k2 i2)) (hc : ct k2 = (kd, n)) (hp : P (ad k2 i2) n) : ∃ b, zR M (ad k i) j = some b ∧ ∃ m, zT M b = some (kd, m) ∧ P b m := ⟨ad k2 i2, by rw [h.R hV, hE], n, by rw [h.T hV2, hc], hp⟩
theorem c_ref {P : Nat → Prop} (h : zX V ad M D E) {k i j k2 i2 : Nat} (hV : V k i) (hE : E k i j = some (ad k2 i2)) (hp : P (ad k2 i2)) : ∃ b, zR M (ad k i) j = some b ∧ P b := ⟨ad k2 i2, by rw [h.R hV, hE], hp⟩
/-! the client's and the road's methods -/
theorem c_settle (h : zX V ad M D E) {post : zM → Prop} {q : Nat} (hq : V 3 q) {o c : Int32} (K : ∀ M', zX V ad M' (u3 (u3 D 3 q 9 o) 3 q 10 c) E → post M') : w_Q_settle M (ad 3 q) o c post :=
  ⟨h.T hq, c_setI h hq 9 rfl (fun M h => c_setI h hq 10 rfl (fun M h => K M h))⟩
theorem c_must (h : zX V ad M D E) {post : Int32 → zM → Prop} {q a b : Nat} (hq : V 0 q) (ha : D 0 q 3 = nI a) (hb : D 1 0 1 = nI b) (ha2 : a < 2 ^ 31) (hb2 : b < 2 ^ 31) (K : post (bI (decide (b < a))) M) : w_C_mustWaitFor M (ad 1 0) (ad 0 q) post := by
  unfold w_C_mustWaitFor
  rw [h.I hq, h.I h.v1, ha, hb, n_le ha2 hb2]
  refine ⟨h.T hq, h.T h.v1, n_ite (fun hc => ?_) (fun hc => ?_)⟩
  · rw [show decide (b < a) = false by simp; omega] at K; exact K
  · rw [show decide (b < a) = true by simp; omega] at K; exact K
theorem c_storedAt (h : zX V ad M D E) {post : Option Nat → zM → Prop} {r : Nat} (hr : r < 6) (K : post (some (ad 6 r)) M) : w_C_storedAt M (ad 1 0) (nI r) post := by
  unfold w_C_storedAt
  refine n_not (by rw [l0, n_lt (by omega) (by omega)]; omega) ⟨h.T h.v1, c_arr h h.v1 h.v11 h.e10 rfl ?_⟩
  refine n_not (by rw [n_le (by omega) (by omega)]; omega) (c_arr h h.v1 h.v11 h.e10 rfl ⟨(n_in (by omega) (by omega)).mpr hr, ?_⟩)
  rw [n_cl (by omega), h.R h.v11, h.es hr]
  exact K
theorem c_storedAt0 (h : zX V ad M D E) {post : Option Nat → zM → Prop} {x : Int32} (hx : ¬ (0 ≤ x ∧ x < nI 6)) (K : post none M) : w_C_storedAt M (ad 1 0) x post := by
  unfold w_C_storedAt
  refine n_ite (fun _ => K) (fun hc => ⟨h.T h.v1, c_arr h h.v1 h.v11 h.e10 rfl ?_⟩)
  exact n_yes (Int32.not_lt.mp (fun q => hx ⟨Int32.not_lt.mp hc, q⟩)) K
theorem c_resourceAt (h : zX V ad M D E) {post : Option Nat → zM → Prop} {r : Nat} (hr : r < 6) (K : post (some (ad 4 r)) M) : w_S_resourceAt M (ad 5 0) (nI r) post := by
  unfold w_S_resourceAt
  refine n_not (by rw [l0, n_lt (by omega) (by omega)]; omega) ⟨h.T h.v5, c_arr h h.v5 h.v10 h.e50 rfl ?_⟩
  refine n_not (by rw [n_le (by omega) (by omega)]; omega) (c_arr h h.v5 h.v10 h.e50 rfl ⟨(n_in (by omega) (by omega)).mpr hr, ?_⟩)
  rw [n_cl (by omega), h.R h.v10, h.er hr]
  exact K
theorem c_resourceAt0 (h : zX V ad M D E) {post : Option Nat → zM → Prop} {x : Int32} (hx : ¬ (0 ≤ x ∧ x < nI 6)) (K : post none M) : w_S_resourceAt M (ad 5 0) x post := by
  unfold w_S_resourceAt
  refine n_ite (fun _ => K) (fun hc => ⟨h.T h.v5, c_arr h h.v5 h.v10 h.e50 rfl ?_⟩)
  exact n_yes (Int32.not_lt.mp (fun q => hx ⟨Int32.not_lt.mp hc, q⟩)) K
theorem c_write (h : zX V ad M D E) {post : zM → Prop} {r t : Nat} (hr : r < 6) (ht : D 5 0 2 = nI t) {c l : Int32} (K : ∀ M', zX V ad M' (u3 (u3 (u3 (u3 (u3 D 5 0 2 (nI (t + 1))) 4 r 0 1) 4 r 1 (nI (t + 1))) 4 r 2 c) 4 r 3 l) E → post M') : w_S_write M (ad 5 0) (ad 4 r) c l post := by
  unfold w_S_write
  rw [h.I h.v5, ht, l1, n_add]
  refine ⟨h.T h.v5, c_setI h h.v5 2 rfl (fun M h => ⟨h.T (h.v4 hr), c_setI h (h.v4 hr) 0 rfl (fun M h => ?_)⟩)⟩
  rw [h.I h.v5]
  exact c_setI h (h.v4 hr) 1 (by rw [u3_n _ _ (by omega), u3_s]) (fun M h => c_setI h (h.v4 hr) 2 rfl (fun M h => c_setI h (h.v4 hr) 3 rfl (fun M h => K M h)))
theorem c_append (h : zX V ad M D E) {post : zM → Prop} {w : Nat} (hw : D 2 0 2 = nI w) (hlt : w < 240) {x y : Int32} (K : ∀ M', zX V ad M' (u3 (u3 (u3 D 12 0 w x) 13 0 w y) 2 0 2 (nI (w + 1))) E → post M') : w_F_append M (ad 2 0) x y post := by
  unfold w_F_append
  rw [h.I h.v2, hw]
  refine ⟨h.T h.v2, c_arr h h.v2 h.v12 h.e20 rfl (n_not (by rw [n_le (by omega) (by omega)]; omega) (c_arr h h.v2 h.v13 h.e21 rfl (n_yes (by rw [n_lt (by omega) (by omega)]; omega) ?_)))⟩
  refine c_arr h h.v2 h.v12 h.e20 rfl ⟨(n_in (by omega) (by omega)).mpr (by omega), c_setA h h.v12 w rfl (by omega) rfl (fun M h => ?_)⟩
  rw [h.I h.v2, u3_n _ _ (by omega), hw]
  refine c_arr h h.v2 h.v13 h.e21 rfl ⟨(n_in (by omega) (by omega)).mpr (by omega), c_setA h h.v13 w rfl (by omega) rfl (fun M h => ?_)⟩
  rw [h.I h.v2, u3_n _ _ (by omega), u3_n _ _ (by omega), hw, l1, n_add]
  exact c_setI h h.v2 2 rfl (fun M h => K M h)
theorem c_ack (h : zX V ad M D E) {post : zM → Prop} {q w a t : Nat} (hq0 : V 0 q) (hq3 : V 3 q) (hw : D 2 0 2 = nI w) (hlt : w < 240) (ha : D 0 q 3 = nI a) (ht : D 1 0 2 = nI t) (ha2 : a < 2 ^ 31) (ht2 : t < 2 ^ 31) {x : Int32} (hx : D 3 q 0 = x)
    (K0 : a = 0 → post M) (K : 0 < a → ∀ M', zX V ad M' (u3 (u3 (u3 (u3 D 12 0 w 0) 13 0 w x) 2 0 2 (nI (w + 1))) 1 0 2 (nI (max t a))) E → post M') : w_C_acknowledge M (ad 1 0) (ad 3 q) (ad 0 q) (ad 2 0) post := by
  unfold w_C_acknowledge
  rw [h.I hq0, ha, l0, n_eq ha2 (by omega)]
  refine ⟨h.T hq0, n_ite (fun hc => K0 hc) (fun hc => ⟨h.T hq3, h.T h.v2, ?_⟩)⟩
  rw [h.I hq3, hx]
  refine c_append h hw hlt (fun M h => ⟨h.T h.v1, h.T hq0, ?_⟩)
  rw [show zI M (ad 1 0) 2 = nI t from (h.I h.v1 2).trans ht, show zI M (ad 0 q) 3 = nI a from (h.I hq0 3).trans ha, n_max ht2 ha2]
  exact c_setI h h.v1 2 rfl (fun M h => K (by omega) M h)
end CX
