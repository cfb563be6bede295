section A2
variable {ad : Nat → Nat → Nat} {M : zM} {D : Nat → Nat → Nat → Int32} {E : Nat → Nat → Nat → Option Nat} {qa : Nat → Nat} {c : Nat} {N : Nat → Nat → Nat} {Z : Nat → Nat → Int32}
theorem co_init (hX : zX (cV N) ad M D E) {q qn st : Nat} (h16 : N 16 q = 0) (hqn : zT M qn = none) {post : zM → Prop}
    (K : ∀ ad' M' D' E', zX (V1 (V1 (cV N) 0 q) 18 q) ad' M' D' E' → ad' 0 q = qn → (∀ k i, ¬ ((k = 0 ∨ k = 18) ∧ i = q) → ad' k i = ad k i) → (∀ k i j, ¬ ((k = 0 ∨ k = 18) ∧ i = q) → D' k i j = D k i j) → (∀ j, D' 0 q j = if j = 7 then 1 else if j = 0 then nI st else 0) → (∀ j, D' 18 q j = 0) → (∀ k i j, ¬ ((k = 0 ∨ k = 18) ∧ i = q) → E' k i j = E k i j) → E' 0 q 1 = some (ad' 18 q) → post M') : w_A_init (znw M qn (0, 10)) qn (nI st) post := by
  have hnv : ¬ cV N 0 q := by simp [cV]; omega
  have hnv8 : ¬ V1 (cV N) 0 q 18 q := by simp [V1, cV]; omega
  have hX1 := zX_new hX (a := 0) (n := q) (q := qn) (Or.inl rfl) hnv hqn
  have hA1 : ∀ k i, ¬ (k = 0 ∧ i = q) → ad1 ad 0 q qn k i = ad k i := fun k i h => ad1_o h
  have h0 : ad1 ad 0 q qn 0 q = qn := ad1_s
  generalize ad1 ad 0 q qn = ada at hX1 hA1 h0
  subst h0
  have hV0 : V1 (cV N) 0 q 0 q := Or.inr ⟨rfl, rfl⟩
  unfold w_A_init
  refine ⟨hX1.T hV0, c_setI hX1 hV0 0 rfl (fun M2 hX2 q4 hq4 M6 hM6 => ?_)⟩
  subst hM6
  have hX3 := zX_new hX2 (a := 18) (n := q) (q := q4) (by omega) hnv8 hq4
  have hA3 : ∀ k i, ¬ (k = 18 ∧ i = q) → ad1 ada 18 q q4 k i = ada k i := fun k i h => ad1_o h
  have h8 : ad1 ada 18 q q4 18 q = q4 := ad1_s
  generalize ad1 ada 18 q q4 = adb at hX3 hA3 h8
  subst h8
  have e0 : adb 0 q = ada 0 q := hA3 0 q (by omega)
  have hV0' : V1 (V1 (cV N) 0 q) 18 q 0 q := Or.inl hV0
  rw [← e0]
  refine ⟨hX3.T hV0', fun M10 hM10 => ?_⟩
  subst hM10
  have hX4 := hX3.wR hV0' 1 (some (adb 18 q)) (Or.inl rfl)
  refine c_setI hX4 hV0' 7 rfl (fun M13 hX5 => K adb M13 _ _ hX5 e0 (fun k i h => ?_) (fun k i j h => ?_) (fun j => ?_) (fun j => ?_) (fun k i j h => ?_) ?_)
  · rw [hA3 k i (fun z => h ⟨Or.inr z.1, z.2⟩), hA1 k i (fun z => h ⟨Or.inl z.1, z.2⟩)]
  · rw [u3_o (fun z => h ⟨Or.inl z.1, z.2⟩), D1_o (fun z => h ⟨Or.inr z.1, z.2⟩), u3_o (fun z => h ⟨Or.inl z.1, z.2⟩), D1_o (fun z => h ⟨Or.inl z.1, z.2⟩)]
  · simp [u3, D1]
  · simp [u3, D1]
  · rw [e3_o (fun z => h ⟨Or.inl z.1, z.2⟩), E1_o (fun z => h ⟨Or.inr z.1, z.2⟩), E1_o (fun z => h ⟨Or.inl z.1, z.2⟩)]
  · simp [e3]
theorem ar_start {ad' : Nat → Nat → Nat} {D' : Nat → Nat → Nat → Int32} {E' : Nat → Nat → Nat → Option Nat} {q C : Nat} (h : cR ad M D E qa c N Z) (p : pI N q 0 C) (hA : ∀ k i, ¬ ((k = 0 ∨ k = 18) ∧ i = q) → ad' k i = ad k i) (hD : ∀ k i j, ¬ ((k = 0 ∨ k = 18) ∧ i = q) → ¬ (k = 5 ∧ i = 0 ∧ j = 3) → D' k i j = D k i j) (hD2 : D' 0 q 2 = 0) (hD3 : D' 0 q 3 = 0) (hE : ∀ k i j, ¬ ((k = 0 ∨ k = 18) ∧ i = q) → E' k i j = E k i j) (hE0 : E' 0 q 1 = some (ad' 18 q)) : mF (V1 (V1 (cV N) 0 q) 18 q) ad' D' E' qa c N Z q 0 := by
  obtain ⟨⟨p1, p2, p3, p4⟩, p5, ⟨p6, p7, p8⟩, ⟨p9, p10, p11⟩, p12, p13, p14, p15⟩ := p
  have t := cR_tF p2 h
  obtain ⟨⟨t1, t2⟩, t3, ⟨t4, t5, t6⟩, t7⟩ := t
  have hS := h.2.1
  have hL := h.2.2.2.2.2.2.2.2.1
  have hqa : ∀ j, j < c → ¬ qa j = q := fun j hj z => by have := (hL.2.2.1 j hj).2.2; rw [z] at this; omega
  have z0 := p14 0 (by omega) (by omega)
  have z1 := p14 1 (by omega) (by omega)
  have z2 := p14 2 (by omega) (by omega)
  have nd0 : nd N q = 0 := by unfold nd; simp only [Nat.add_zero] at z0; omega
  have d : ∀ k i j, ¬ (k = 0 ∨ k = 18 ∨ k = 5) → D' k i j = D k i j := fun k i j hk => hD k i j (fun z => by omega) (by omega)
  refine ⟨⟨⟨by rw [d 7 0 3 (by omega)]; exact t1, t2⟩, fun j hj => ?_, ⟨by rw [d 7 0 4 (by omega)]; exact t4, by rw [d 7 0 5 (by omega)]; exact t5, fun e h1 h2 => by rw [d 14 0 _ (by omega), d 15 0 _ (by omega)]; exact t6 e h1 h2⟩, t7⟩, ⟨Or.inl (Or.inr ⟨rfl, rfl⟩), Or.inr ⟨rfl, rfl⟩, hE0⟩, hqa, ⟨0, by omega, hD2, by rw [nd0], fun e he => ?_⟩, by rw [hD3, nd0]; rfl, by rw [d 7 0 6 (by omega)]; exact hS.2.2.2.2.1, by rw [d 7 0 7 (by omega)]; exact hS.2.2.2.2.2⟩
  · obtain ⟨b1, b2, b3, b4, b5, b6, cc, r1, r2, r3, r4⟩ := t3 j hj
    have hn := hqa j hj
    have d0 : ∀ x, D' 0 (qa j) x = D 0 (qa j) x := fun x => hD 0 (qa j) x (fun z => hn z.2) (by omega)
    have d18 : ∀ x, D' 18 (qa j) x = D 18 (qa j) x := fun x => hD 18 (qa j) x (fun z => hn z.2) (by omega)
    have rf : ∀ x cc, rft D' (qa j) x cc = rft D (qa j) x cc := by
      intro x cc
      induction cc with
      | zero => rfl
      | succ cc ih => simp only [rft]; rw [ih, d18]
    rw [hE 16 0 j (by omega), hE 0 (qa j) 1 (fun z => hn z.2), hA 0 (qa j) (fun z => hn z.2), hA 18 (qa j) (fun z => hn z.2)]
    exact ⟨b1, Or.inl (Or.inl b2), Or.inl (Or.inl b3), b4, by rw [d0]; exact b5, by rw [d0]; exact b6, cc, r1, by rw [d0]; exact r2, r3, fun e he => by rw [rf]; exact r4 e he⟩
  · simp only [Nat.add_zero] at z0
    rw [z0, z1, z2]
    simp [rft]
theorem co_fin {ad' : Nat → Nat → Nat} {M' : zM} {D' : Nat → Nat → Nat → Int32} {E' : Nat → Nat → Nat → Option Nat} {Nm : Nat → Nat → Nat} {Zm : Nat → Nat → Int32} {q m C st x : Nat} (h : cR ad M D E qa c N Z) (hX : zX (V1 (V1 (cV N) 0 q) 18 q) ad' M' D' E') (f : mF (V1 (V1 (cV N) 0 q) 18 q) ad' D' E' qa c Nm Zm q m) (p : pI Nm q m C) (hk : fk q N Nm Z Zm) (h15 : N 15 q = 0) (hst : 0 < st)
    (hA : ∀ k i, ¬ ((k = 0 ∨ k = 18) ∧ i = q) → ad' k i = ad k i) (hD : ∀ k i j, ¬ ((k = 0 ∨ k = 18) ∧ i = q) → ¬ (k = 7 ∧ i = 0 ∧ (j = 4 ∨ j = 6 ∨ j = 7)) → ¬ k = 14 → ¬ k = 15 → ¬ (k = 5 ∧ i = 0 ∧ j = 3) → D' k i j = D k i j) (h5 : D' 5 0 3 = nI x) (hE : ∀ k i j, ¬ ((k = 0 ∨ k = 18) ∧ i = q) → E' k i j = E k i j) (hq0 : D' 0 q 0 = nI st ∧ D' 0 q 7 = 1 ∧ D' 0 q 8 = 0 ∧ D' 0 q 9 = 0 ∧ (N 7 q = 0 → st < 400 → D' 0 q 4 = nI (N 17 q) ∧ D' 0 q 5 = nI (N 18 q)) ∧ (N 7 q = 0 → st = 200 → D' 0 q 6 = Z 19 q)) {post : Int32 → zM → Prop} {a2 : Nat} (K : ∀ M'' D'' E'' qa' c', cR ad' M'' D'' E'' qa' c' (arN Nm q st x) Zm → post (nI st) M'') : w_S_takeRequest_72 post M' (ad' 5 0) (ad' 3 q) a2 (some (ad' 0 q)) := by
  obtain ⟨⟨⟨t1, t2⟩, t3, ⟨t4, t5, t6⟩, t7⟩, ⟨v0, v18, e01⟩, hqa, ⟨cc, g1, g2, g3, g4⟩, d3, d6, d7⟩ := f
  obtain ⟨⟨p1, p2, p3, p4⟩, p5, ⟨p6, p7, p8⟩, ⟨p9, p10, p11⟩, p12, p13, p14, p15⟩ := p
  obtain ⟨k1, k2, k3, k4⟩ := hk
  rw [k1 6 rfl] at p1 p2
  rw [k1 16 rfl] at p3
  rw [k1 34 rfl, k1 32 rfl, k1 33 rfl] at p5
  rw [k1 35 rfl, k1 34 rfl] at p6
  have hL := h.2.2.2.2.2.2.2.2.1
  have hE' := h.2.2.2.2.2.2.2.2.2
  have hV3 : V1 (V1 (cV N) 0 q) 18 q 3 q := Or.inl (Or.inl (by simp [cV]; exact p1))
  obtain ⟨q0, q7, q8, q9, q45, q6⟩ := hq0
  have hcl : c + 1 ≤ N 6 0 := by
    have e1 := hL.2.2.2 (fun _ => true)
    have e2 : ∀ n, cnt (fun _ => true) n = n := fun n => by
      induction n with
      | zero => rfl
      | succ n ih => simp [cnt, ih]
    rw [e2] at e1
    have e3 : cnt (fun p => (elig N p && true) || decide (p = q)) (N 6 0) = cnt (fun p => elig N p && true) (N 6 0) + 1 := by
      refine cnt_up _ p1 ?_ ?_ (fun i hi => ?_)
      · simp [elig, p3]
      · simp
      · simp [hi]
    have := cnt_le (fun p => (elig N p && true) || decide (p = q)) (N 6 0)
    omega
  have tail : ∀ (M1 : zM) (D2 : Nat → Nat → Nat → Int32) (E2 : Nat → Nat → Nat → Option Nat) (qa' : Nat → Nat) (c' : Nat), zX (V1 (V1 (cV N) 0 q) 18 q) ad' M1 D2 E2 → (∀ k i j, ¬ (k = 0 ∧ i = q ∧ j = 9) → ¬ (k = 7 ∧ i = 0 ∧ j = 3) → D2 k i j = D' k i j) → (∀ k i j, ¬ k = 16 → E2 k i j = E' k i j) → D2 0 q 9 = bI (decide (0 < nd Nm q)) → (D2 7 0 3 = nI c' ∧ c' ≤ N 6 0 ∧ (∀ j, j < c' → E2 16 0 j = some (ad' 0 (qa' j)) ∧ qa' j < N 6 0 ∧ (0 < N 16 (qa' j) ∨ qa' j = q)) ∧ ∀ P : Nat → Bool, cnt (fun j => P (qa' j)) c' = cnt (fun p => (elig N p || (decide (p = q) && decide (0 < nd Nm q))) && P p) (N 6 0)) → zT M1 (ad' 3 q) = some (3, 12) ∧ ∀ M25, M25 = zwR M1 (ad' 3 q) 11 (some (ad' 0 q)) → zT M25 (ad' 0 q) = some (0, 10) ∧ post (zI M25 (ad' 0 q) 0) M25 := by
    intro M1 D2 E2 qa' c' hX1 hD2 hE2 h9 hL2
    refine ⟨hX1.T hV3, fun M25 hM => ?_⟩
    subst hM
    have hX2 := hX1.wR hV3 11 (some (ad' 0 q)) (by omega)
    have d2 : ∀ k i j, ¬ (k = 0 ∧ i = q ∧ j = 9) → ¬ (k = 7 ∧ i = 0 ∧ j = 3) → D2 k i j = D' k i j := hD2
    rw [hX2.I v0, hD2 0 q 0 (by omega) (by omega), q0]
    refine ⟨hX2.T v0, K _ _ _ qa' c' (ar_rel p1 p3 h15 hst (fun i hi h2 => (p5 i hi h2).1) p6 ⟨k1, k2, k3, k4⟩ hA (fun k i j a1 a2 a3 a4 a5 => ?_) (fun k i j a1 a2 a3 => ?_) ?_ ?_ ?_ ⟨?_, ?_, ?_⟩ (fun e h1 h2 => ?_) ⟨⟨?_, ?_⟩, ?_, ?_, h9, ⟨cc, by omega, ?_, g3, fun e he => ?_⟩, fun z1 z2 => ?_, fun z1 z2 => ?_⟩ ⟨hL2.1, hL2.2.1, fun j hj => ?_, hL2.2.2.2⟩ h hX2)⟩
    · rw [hD2 k i j (fun z => a1 ⟨Or.inl z.1, z.2.1⟩) (fun z => a2 ⟨z.1, z.2.1, Or.inl z.2.2⟩)]
      exact hD k i j a1 (fun z => a2 ⟨z.1, z.2.1, Or.inr z.2.2⟩) a3 a4 a5
    · rw [e3_n _ _ a3, hE2 k i j a2, hE k i j a1]
    · rw [hD2 5 0 3 (by omega) (by omega)]; exact h5
    · simp [e3]
    · rw [e3_n _ _ (by omega), hE2 0 q 1 (by omega)]; exact e01
    · rw [hD2 7 0 4 (by omega) (by omega)]; exact t4
    · rw [hD2 7 0 6 (by omega) (by omega)]; exact d6
    · rw [hD2 7 0 7 (by omega) (by omega)]; exact d7
    · rw [hD2 14 0 _ (by omega) (by omega), hD2 15 0 _ (by omega) (by omega)]; exact t6 e h1 h2
    · rw [hD2 0 q 0 (by omega) (by omega)]; exact q0
    · rw [hD2 0 q 3 (by omega) (by omega)]; exact d3
    · rw [hD2 0 q 7 (by omega) (by omega)]; exact q7
    · rw [hD2 0 q 8 (by omega) (by omega)]; exact q8
    · rw [hD2 0 q 2 (by omega) (by omega)]; exact g2
    · rw [rft_ag (D := D') (by funext a b; exact hD2 18 a b (by omega) (by omega))]; exact g4 e he
    · rw [hD2 0 q 4 (by omega) (by omega), hD2 0 q 5 (by omega) (by omega)]; exact q45 z1 z2
    · rw [hD2 0 q 6 (by omega) (by omega)]; exact q6 z1 z2
    · rw [e3_n _ _ (by omega)]; exact hL2.2.2.1 j hj
  have e16 : ∀ j, j < c → E' 16 0 j = some (ad' 0 (qa j)) := fun j hj => (t3 j hj).1
  unfold w_S_takeRequest_72
  refine ⟨hX.T hX.v5, ad' 0 q, rfl, c_ref hX hX.v5 hX.e51 ⟨hX.T hX.v7, ?_⟩⟩
  unfold w_T_keepIfReferring
  rw [hX.I v0, g2, l0, n_eq (by omega) (by omega)]
  refine ⟨hX.T v0, n_ite (fun hc0 => ?_) (fun hc0 => ⟨hX.T hX.v7, c_arr hX hX.v7 hX.v16 hX.e72 rfl ?_⟩)⟩
  · have nd0 := g3.mp hc0
    refine tail M' D' E' qa c hX (fun _ _ _ _ _ => rfl) (fun _ _ _ _ => rfl) (by rw [q9, nd0]; rfl) ⟨t1, hL.2.1, fun j hj => ⟨e16 j hj, (hL.2.2.1 j hj).2.1, Or.inl (hL.2.2.1 j hj).2.2⟩, fun P => ?_⟩
    rw [hL.2.2.2 P]
    refine cnt_congr _ (fun i _ => ?_)
    rw [nd0]; simp
  · have ndp : 0 < nd Nm q := by have := (not_congr g3).mp hc0; omega
    rw [hX.I hX.v7, t1]
    refine n_yes (by rw [n_lt (by omega) (by omega)]; omega) (c_setI hX v0 9 rfl (fun M1 hX1 => c_arr hX1 hX1.v7 hX1.v16 hX1.e72 rfl ?_))
    rw [hX1.I hX1.v7, u3_n _ _ (by omega), t1, n_cl (by omega)]
    refine ⟨(n_in (by omega) (by omega)).mpr (by omega), fun M2 hM2 => ?_⟩
    subst hM2
    have hX2 := hX1.wR hX1.v16 c (some (ad' 0 q)) (by omega)
    rw [hX2.I hX2.v7, u3_n _ _ (by omega), t1, l1, n_add]
    refine c_setI hX2 hX2.v7 3 rfl (fun M3 hX3 => tail M3 _ _ (fun j => if j = c then q else qa j) (c + 1) hX3 (fun k i j a1 a2 => by rw [u3_n _ _ a2, u3_n _ _ a1]) (fun k i j a1 => by rw [e3_n _ _ (fun z => a1 z.1)]) ?_ ⟨?_, hcl, fun j hj => ?_, fun P => ?_⟩)
    · rw [u3_n _ _ (by omega), u3_s]; simp [ndp, bI]
    · rw [u3_s]
    · by_cases e : j = c
      · subst e
        simp [e3]
        exact p1
      · rw [if_neg e, e3_n _ _ (by omega)]
        exact ⟨e16 j (by omega), (hL.2.2.1 j (by omega)).2.1, Or.inl (hL.2.2.1 j (by omega)).2.2⟩
    · simp only [cnt, if_true]
      rw [cnt_congr (P := fun j => P (if j = c then q else qa j)) (Q := fun j => P (qa j)) c (fun i hi => by rw [if_neg (by omega)]), hL.2.2.2 P]
      by_cases hP : P q = true
      · rw [if_pos hP]
        refine (cnt_up _ p1 ?_ ?_ (fun i hi => ?_)).symm
        · simp [elig, p3]
        · simp [ndp, hP]
        · simp [hi]
      · rw [if_neg hP, Nat.add_zero]
        refine cnt_congr _ (fun i _ => ?_)
        by_cases e : i = q
        · subst e; simp at hP; simp [hP]
        · simp [e]
end A2
