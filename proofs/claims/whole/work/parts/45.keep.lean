theorem rO_un {D : Nat → Nat → Nat → Int32} {N : Nat → Nat → Nat} {Z : Nat → Nat → Int32} {k j v : Nat} (h0 : ¬ 0 = k) (h2 : ¬ 2 = k) (h3 : ¬ 3 = k) (h : rO D N Z) : rO D (un N k j v) Z := by
  unfold rO at h ⊢
  simp only [un, h0, h2, h3, false_and, if_false]
  exact h
theorem rO_u3 {D : Nat → Nat → Nat → Int32} {N : Nat → Nat → Nat} {Z : Nat → Nat → Int32} {k i j : Nat} {v : Int32} (h4 : ¬ 4 = k) (h : rO D N Z) : rO (u3 D k i j v) N Z := by
  unfold rO at h ⊢
  simp only [u3, h4, false_and, if_false]
  exact h
theorem rO_uz {D : Nat → Nat → Nat → Int32} {N : Nat → Nat → Nat} {Z : Nat → Nat → Int32} {k j : Nat} {v : Int32} (h1 : ¬ 1 = k) (h : rO D N Z) : rO D N (uz Z k j v) := by
  unfold rO at h ⊢
  simp only [uz, h1, false_and, if_false]
  exact h
theorem rK_un {D : Nat → Nat → Nat → Int32} {N : Nat → Nat → Nat} {Z : Nat → Nat → Int32} {k j v : Nat} (h21 : ¬ 21 = k) (h22 : ¬ 22 = k) (h24 : ¬ 24 = k) (h25 : ¬ 25 = k) (h : rK D N Z) : rK D (un N k j v) Z := by
  unfold rK at h ⊢
  simp only [un, h21, h22, h24, h25, false_and, if_false]
  exact h
theorem rK_u3 {D : Nat → Nat → Nat → Int32} {N : Nat → Nat → Nat} {Z : Nat → Nat → Int32} {k i j : Nat} {v : Int32} (h6 : ¬ 6 = k) (h : rK D N Z) : rK (u3 D k i j v) N Z := by
  unfold rK at h ⊢
  simp only [u3, h6, false_and, if_false]
  exact h
theorem rK_uz {D : Nat → Nat → Nat → Int32} {N : Nat → Nat → Nat} {Z : Nat → Nat → Int32} {k j : Nat} {v : Int32} (h23 : ¬ 23 = k) (h : rK D N Z) : rK D N (uz Z k j v) := by
  unfold rK at h ⊢
  simp only [uz, h23, false_and, if_false]
  exact h
theorem rQ_un {D : Nat → Nat → Nat → Int32} {N : Nat → Nat → Nat} {Z : Nat → Nat → Int32} {k j v : Nat} (h6 : ¬ 6 = k) (h8 : ¬ 8 = k) (h7 : ¬ 7 = k) (h11 : ¬ 11 = k) (h12 : ¬ 12 = k) (h13 : ¬ 13 = k) (h15 : ¬ 15 = k) (h9 : ¬ 9 = k) (h : rQ D N Z) : rQ D (un N k j v) Z := by
  unfold rQ at h ⊢
  simp only [un, h6, h8, h7, h11, h12, h13, h15, h9, false_and, if_false]
  exact h
theorem rQ_u3 {D : Nat → Nat → Nat → Int32} {N : Nat → Nat → Nat} {Z : Nat → Nat → Int32} {k i j : Nat} {v : Int32} (h3 : ¬ 3 = k) (h : rQ D N Z) : rQ (u3 D k i j v) N Z := by
  unfold rQ at h ⊢
  simp only [u3, h3, false_and, if_false]
  exact h
theorem rQ_uz {D : Nat → Nat → Nat → Int32} {N : Nat → Nat → Nat} {Z : Nat → Nat → Int32} {k j : Nat} {v : Int32} (h10 : ¬ 10 = k) (h14 : ¬ 14 = k) (h : rQ D N Z) : rQ D N (uz Z k j v) := by
  unfold rQ at h ⊢
  simp only [uz, h10, h14, false_and, if_false]
  exact h
theorem rF_un {D : Nat → Nat → Nat → Int32} {N : Nat → Nat → Nat} {k j v : Nat} (h34 : ¬ 34 = k) (h35 : ¬ 35 = k) (h32 : ¬ 32 = k) (h33 : ¬ 33 = k) (h : rF D N) : rF D (un N k j v) := by
  unfold rF at h ⊢
  simp only [un, h34, h35, h32, h33, false_and, if_false]
  exact h
theorem rF_u3 {D : Nat → Nat → Nat → Int32} {N : Nat → Nat → Nat} {k i j : Nat} {v : Int32} (h2 : ¬ 2 = k) (h12 : ¬ 12 = k) (h13 : ¬ 13 = k) (h : rF D N) : rF (u3 D k i j v) N := by
  unfold rF at h ⊢
  simp only [u3, h2, h12, h13, false_and, if_false]
  exact h
theorem rA_un {D : Nat → Nat → Nat → Int32} {N : Nat → Nat → Nat} {Z : Nat → Nat → Int32} {k j v : Nat} (h6 : ¬ 6 = k) (h16 : ¬ 16 = k) (h20 : ¬ 20 = k) (h15 : ¬ 15 = k) (h32 : ¬ 32 = k) (h33 : ¬ 33 = k) (h35 : ¬ 35 = k) (h7 : ¬ 7 = k) (h17 : ¬ 17 = k) (h18 : ¬ 18 = k) (h : rA D N Z) : rA D (un N k j v) Z := by
  intro q hq hs
  simp only [un, h6, h16, false_and, if_false] at hq hs
  obtain ⟨a, b, c, d, e, f, g⟩ := h q hq hs
  rw [ost_un h16 h20 h32 h33 h35, nd_un h20]
  refine ⟨?_, ?_, ?_, d, rG_un h20 e, ?_, ?_⟩ <;> simp only [un, h6, h16, h20, h15, h7, h17, h18, false_and, if_false]
  · exact a
  · exact b
  · exact c
  · exact f
  · exact g
theorem rA_u3 {D : Nat → Nat → Nat → Int32} {N : Nat → Nat → Nat} {Z : Nat → Nat → Int32} {k i j : Nat} {v : Int32} (h0 : ¬ 0 = k) (h18 : ¬ 18 = k) (h : rA D N Z) : rA (u3 D k i j v) N Z := by
  intro q hq hs
  obtain ⟨a, b, c, d, e, f, g⟩ := h q hq hs
  refine ⟨?_, ?_, ?_, ?_, rG_u3 h18 (fun z => h0 z.1) e, ?_, ?_⟩ <;> simp only [u3, h0, false_and, if_false]
  · exact a
  · exact b
  · exact c
  · exact d
  · exact f
  · exact g
theorem rA_uz {D : Nat → Nat → Nat → Int32} {N : Nat → Nat → Nat} {Z : Nat → Nat → Int32} {k j : Nat} {v : Int32} (h19 : ¬ 19 = k) (h : rA D N Z) : rA D N (uz Z k j v) := by
  unfold rA at h ⊢
  simp only [uz, h19, false_and, if_false]
  exact h
theorem rT_un {D : Nat → Nat → Nat → Int32} {N : Nat → Nat → Nat} {Z : Nat → Nat → Int32} {k j v : Nat} (h20 : ¬ 20 = k) (h32 : ¬ 32 = k) (h33 : ¬ 33 = k) (h35 : ¬ 35 = k) (h34 : ¬ 34 = k) (h28 : ¬ 28 = k) (h26 : ¬ 26 = k) (h : rT D N Z) : rT D (un N k j v) Z := by
  unfold rT at h ⊢
  rw [aft_un h20 h32 h33, aft_un h20 h32 h33]
  simp only [un, h35, h34, h28, h26, false_and, if_false]
  exact h
theorem rT_u3 {D : Nat → Nat → Nat → Int32} {N : Nat → Nat → Nat} {Z : Nat → Nat → Int32} {k i j : Nat} {v : Int32} (h7 : ¬ (7 = k ∧ 5 = j)) (h1 : ¬ (1 = k ∧ 2 = j)) (h14 : ¬ 14 = k) (h15 : ¬ 15 = k) (h : rT D N Z) : rT (u3 D k i j v) N Z := by
  unfold rT at h ⊢
  rw [u3_n D v (fun z => h7 ⟨z.1, z.2.2⟩), u3_n D v (fun z => h1 ⟨z.1, z.2.2⟩)]
  simp only [u3, h14, h15, false_and, if_false]
  exact h
theorem rT_uz {D : Nat → Nat → Nat → Int32} {N : Nat → Nat → Nat} {Z : Nat → Nat → Int32} {k j : Nat} {v : Int32} (h27 : ¬ 27 = k) (h : rT D N Z) : rT D N (uz Z k j v) := by
  unfold rT at h ⊢
  simp only [uz, h27, false_and, if_false]
  exact h
theorem rL_un {ad : Nat → Nat → Nat} {D : Nat → Nat → Nat → Int32} {E : Nat → Nat → Nat → Option Nat} {N : Nat → Nat → Nat} {qa : Nat → Nat} {c k j v : Nat} (h6 : ¬ 6 = k) (h16 : ¬ 16 = k) (h20 : ¬ 20 = k) (h : rL ad D E N qa c) : rL ad D E (un N k j v) qa c := by
  unfold rL at h ⊢
  simp only [elig_un h16 h20]
  simp only [un, h6, h16, false_and, if_false]
  exact h
theorem rL_u3 {ad : Nat → Nat → Nat} {D : Nat → Nat → Nat → Int32} {E : Nat → Nat → Nat → Option Nat} {N : Nat → Nat → Nat} {qa : Nat → Nat} {c k i j : Nat} {v : Int32} (h7 : ¬ (7 = k ∧ 3 = j)) (h : rL ad D E N qa c) : rL ad (u3 D k i j v) E N qa c := by
  unfold rL at h ⊢
  rw [u3_n D v (fun z => h7 ⟨z.1, z.2.2⟩)]
  exact h
theorem rE_un {ad : Nat → Nat → Nat} {E : Nat → Nat → Nat → Option Nat} {N : Nat → Nat → Nat} {k j v : Nat} (h6 : ¬ 6 = k) (h16 : ¬ 16 = k) (h : rE ad E N) : rE ad E (un N k j v) := by
  unfold rE at h ⊢
  simp only [un, h6, h16, false_and, if_false]
  exact h
theorem jQ_un {N : Nat → Nat → Nat} {k j v : Nat} (h6 : ¬ 6 = k) (h8 : ¬ 8 = k) (h7 : ¬ 7 = k) (h15 : ¬ 15 = k) (h9 : ¬ 9 = k) (h16 : ¬ 16 = k) (h36 : ¬ 36 = k) (h38 : ¬ 38 = k) (h34 : ¬ 34 = k) (h32 : ¬ 32 = k) (h33 : ¬ 33 = k) (h13 : ¬ 13 = k) (h5 : ¬ 5 = k) (h11 : ¬ 11 = k) (h18 : ¬ 18 = k) (h17 : ¬ 17 = k) (h : jQ N) : jQ (un N k j v) := by
  unfold jQ at h ⊢
  simp only [un, h6, h8, h7, h15, h9, h16, h36, h38, h34, h32, h33, h13, h5, h11, h18, h17, false_and, if_false]
  exact h
theorem jR_un {N : Nat → Nat → Nat} {k j v : Nat} (h20 : ¬ 20 = k) (h28 : ¬ 28 = k) (h26 : ¬ 26 = k) (h6 : ¬ 6 = k) (h16 : ¬ 16 = k) (h9 : ¬ 9 = k) (h12 : ¬ 12 = k) (h13 : ¬ 13 = k) (h15 : ¬ 15 = k) (h : jR N) : jR (un N k j v) := by
  unfold jR at h ⊢
  simp only [un, h20, h28, h26, h6, h16, h9, h12, h13, h15, false_and, if_false]
  exact h
theorem jW_un {N : Nat → Nat → Nat} {k j v : Nat} (h34 : ¬ 34 = k) (h32 : ¬ 32 = k) (h33 : ¬ 33 = k) (h6 : ¬ 6 = k) (h35 : ¬ 35 = k) (h9 : ¬ 9 = k) (h20 : ¬ 20 = k) (h29 : ¬ 29 = k) (h28 : ¬ 28 = k) (h16 : ¬ 16 = k) (h : jW N) : jW (un N k j v) := by
  unfold jW at h ⊢
  rw [aft_un h20 h32 h33]
  simp only [un, h34, h32, h33, h6, h35, h9, h29, h28, h16, false_and, if_false]
  exact h
theorem zX_cV {ad : Nat → Nat → Nat} {M : zM} {D : Nat → Nat → Nat → Int32} {E : Nat → Nat → Nat → Option Nat} {N : Nat → Nat → Nat} {k j v : Nat} (h16 : ¬ 16 = k) (h6 : ¬ 6 = k) (h : zX (cV N) ad M D E) : zX (cV (un N k j v)) ad M D E := by
  rw [cV_un h16 h6]; exact h

/-! requests by their number -/
theorem c_reqAt {V : Nat → Nat → Prop} {ad : Nat → Nat → Nat} {M : zM} {D : Nat → Nat → Nat → Int32} {E : Nat → Nat → Nat → Option Nat} (h : zX V ad M D E) {post : Option Nat → zM → Prop} {n q : Nat} (hn : D 8 0 4 = nI n) (hn60 : n ≤ 60) (hq : q < n) (hE : E 17 0 q = some (ad 3 q)) (K : post (some (ad 3 q)) M) : w_X_requestAt M (ad 8 0) (nI q) post := by
  unfold w_X_requestAt
  rw [h.I h.v8, hn]
  refine n_not (by rw [l0, n_lt (by omega) (by omega)]; omega) ⟨h.T h.v8, n_not (by rw [n_le (by omega) (by omega)]; omega) (c_arr h h.v8 h.v17 h.e83 rfl ?_)⟩
  refine n_yes (by rw [n_lt (by omega) (by omega)]; omega) (c_arr h h.v8 h.v17 h.e83 rfl ⟨(n_in (by omega) (by omega)).mpr (by omega), ?_⟩)
  rw [n_cl (by omega), h.R h.v17, hE]
  exact K
theorem c_reqAt0 {V : Nat → Nat → Prop} {ad : Nat → Nat → Nat} {M : zM} {D : Nat → Nat → Nat → Int32} {E : Nat → Nat → Nat → Option Nat} (h : zX V ad M D E) {post : Option Nat → zM → Prop} {n : Nat} {x : Int32} (hn : D 8 0 4 = nI n) (hx : ¬ (0 ≤ x ∧ x < nI n)) (K : post none M) : w_X_requestAt M (ad 8 0) x post := by
  unfold w_X_requestAt
  rw [h.I h.v8, hn]
  exact n_ite (fun _ => K) (fun hc => ⟨h.T h.v8, n_yes (Int32.not_lt.mp (fun q => hx ⟨Int32.not_lt.mp hc, q⟩)) K⟩)
theorem y_win {M : zM} {post : Int32 → zM → Prop} {q n : Nat} {y : Int32} (hy : y = nI n - nI 1) (hq : q < n) (hn : n < 1073741824) (K : post 1 M) : w_Y_within M (nI q) y post := by
  refine y_within ?_
  rw [if_pos]
  · exact K
  · subst hy
    refine ⟨by rw [l0, n_le (by omega) (by omega)]; omega, ?_⟩
    rw [n_sub (by omega), n_le (by omega) (by omega)]
    omega
theorem y_wout {M : zM} {post : Int32 → zM → Prop} {x y : Int32} {n : Nat} (hy : y = nI n - nI 1) (hx : ¬ (0 ≤ x ∧ x < nI n)) (hn : n < 1073741824) (K : post 0 M) : w_Y_within M x y post := by
  refine y_within ?_
  rw [if_neg]
  · exact K
  · subst hy
    intro ⟨h1, h2⟩
    refine hx ⟨h1, ?_⟩
    rw [Int32.le_iff_toInt_le] at h2
    rw [Int32.lt_iff_toInt_lt, nI_toInt (by omega)]
    rw [pk_sub_toInt (by omega) (by omega)] at h2
    omega

