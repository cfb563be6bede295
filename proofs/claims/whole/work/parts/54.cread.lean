theorem nd_ag {N N' : Nat → Nat → Nat} (h20 : N' 20 = N 20) (q : Nat) : nd N' q = nd N q := by unfold nd; rw [h20]
theorem aft_ag {N N' : Nat → Nat → Nat} (h20 : N' 20 = N 20) (h32 : N' 32 = N 32) (h33 : N' 33 = N 33) : ∀ i, aft N' i = aft N i
  | 0 => rfl
  | i + 1 => by simp only [aft]; rw [aft_ag h20 h32 h33 i, h32, h33, nd_ag h20]
theorem opn_ag {N N' : Nat → Nat → Nat} (h32 : N' 32 = N 32) (h33 : N' 33 = N 33) (q : Nat) : ∀ i, opn N' q i = opn N q i
  | 0 => rfl
  | i + 1 => by simp only [opn]; rw [opn_ag h32 h33 q i, h32, h33]
theorem ost_ag {N N' : Nat → Nat → Nat} (h16 : N' 16 = N 16) (h20 : N' 20 = N 20) (h32 : N' 32 = N 32) (h33 : N' 33 = N 33) (h35 : N' 35 = N 35) (q : Nat) : ost N' q = ost N q := by
  unfold ost; rw [h16, nd_ag h20, h35, opn_ag h32 h33]
theorem rft_ag {D D' : Nat → Nat → Nat → Int32} (h : D' 18 = D 18) (q : Nat) (x : Int32) : ∀ c, rft D' q x c = rft D q x c
  | 0 => rfl
  | c + 1 => by simp only [rft]; rw [rft_ag h q x c, h]
theorem rd_keep {ad : Nat → Nat → Nat} {M M' : zM} {D D' : Nat → Nat → Nat → Int32} {E : Nat → Nat → Nat → Option Nat} {qa : Nat → Nat} {c : Nat} {N N' : Nat → Nat → Nat} {Z Z' : Nat → Nat → Int32} (hN : ∀ k, ¬ k = 9 → ¬ k = 21 → ¬ k = 22 → ¬ k = 24 → ¬ k = 25 → N' k = N k) (hD : ∀ k, ¬ k = 3 → ¬ k = 6 → D' k = D k) (hZ : ∀ k, ¬ k = 14 → ¬ k = 23 → Z' k = Z k) (h : cR ad M D E qa c N Z) (hX : zX (cV N) ad M' D' E) (hK : rK D' N' Z') (hQ : rQ D' N' Z') : cR ad M' D' E qa c N' Z' := by
  obtain ⟨-, hS, hO, -, -, hA, hT, hF, hL, hE⟩ := h
  have n : ∀ k, (¬ k = 9 ∧ ¬ k = 21 ∧ ¬ k = 22 ∧ ¬ k = 24 ∧ ¬ k = 25) → N' k = N k := fun k hk => hN k hk.1 hk.2.1 hk.2.2.1 hk.2.2.2.1 hk.2.2.2.2
  have d : ∀ k, (¬ k = 3 ∧ ¬ k = 6) → D' k = D k := fun k hk => hD k hk.1 hk.2
  have hnd := fun q => nd_ag (n 20 (by decide)) q
  have haf := fun i => aft_ag (n 20 (by decide)) (n 32 (by decide)) (n 33 (by decide)) i
  have hos := fun q => ost_ag (n 16 (by decide)) (n 20 (by decide)) (n 32 (by decide)) (n 33 (by decide)) (n 35 (by decide)) q
  refine ⟨?_, ?_, ?_, hK, hQ, ?_, ?_, ?_, ?_, ?_⟩
  · have : cV N' = cV N := by funext a b; simp only [cV]; rw [n 6 (by decide), n 16 (by decide)]
    rw [this]; exact hX
  · unfold rS at hS ⊢
    rw [d 8 (by decide), d 5 (by decide), d 1 (by decide), d 7 (by decide), n 6 (by decide), n 5 (by decide), n 4 (by decide), n 39 (by decide), n 36 (by decide), n 38 (by decide), n 29 (by decide), n 37 (by decide), n 28 (by decide), n 30 (by decide), n 31 (by decide)]
    exact hS
  · unfold rO at hO ⊢
    rw [d 4 (by decide), n 0 (by decide), n 3 (by decide), n 2 (by decide), hZ 1 (by decide) (by decide)]
    exact hO
  · intro q hq hs
    rw [n 6 (by decide)] at hq
    rw [n 16 (by decide)] at hs
    obtain ⟨a, b, c1, d1, ⟨cc, g1, g2, g3, g4⟩, f, g⟩ := hA q hq hs
    rw [hos q, hnd q, d 0 (by decide), n 16 (by decide), n 15 (by decide), n 7 (by decide), n 17 (by decide), n 18 (by decide), hZ 19 (by decide) (by decide)]
    refine ⟨a, b, c1, d1, ⟨cc, g1, by rw [d 0 (by decide)]; exact g2, by rw [hnd]; exact g3, fun e he => ?_⟩, f, g⟩
    rw [rft_ag (d 18 (by decide)), n 20 (by decide)]
    exact g4 e he
  · unfold rT at hT ⊢
    rw [haf, haf, d 7 (by decide), d 1 (by decide), d 14 (by decide), d 15 (by decide), n 35 (by decide), n 34 (by decide), n 28 (by decide), n 26 (by decide), hZ 27 (by decide) (by decide)]
    exact hT
  · unfold rF at hF ⊢
    rw [d 2 (by decide), d 12 (by decide), d 13 (by decide), n 34 (by decide), n 35 (by decide), n 32 (by decide), n 33 (by decide)]
    exact hF
  · unfold rL at hL ⊢
    have : elig N' = elig N := by funext q; unfold elig; rw [hnd, n 16 (by decide)]
    rw [d 7 (by decide), n 6 (by decide), n 16 (by decide), this]
    exact hL
  · unfold rE at hE ⊢
    rw [n 6 (by decide), n 16 (by decide)]
    exact hE
theorem rd_rQ {D D' : Nat → Nat → Nat → Int32} {N N' : Nat → Nat → Nat} {Z Z' : Nat → Nat → Int32} {q v : Nat} {x : Int32} (hv : ¬ v = 0) (hN : ∀ k, ¬ k = 9 → ¬ k = 21 → ¬ k = 22 → ¬ k = 24 → ¬ k = 25 → N' k = N k) (h9 : ∀ p, N' 9 p = un N 9 q v 9 p) (hD : ∀ p j, D' 3 p j = u3 (u3 D 3 q 9 (nI v)) 3 q 10 x 3 p j) (hZ10 : Z' 10 = Z 10) (hZ14 : ∀ p, ¬ p = q → Z' 14 p = Z 14 p) (hx : x = if v = 1 ∨ v = 2 ∨ v = 8 then Z' 14 q else 0) (h : rQ D N Z) : rQ D' N' Z' := by
  have n : ∀ k, (¬ k = 9 ∧ ¬ k = 21 ∧ ¬ k = 22 ∧ ¬ k = 24 ∧ ¬ k = 25) → N' k = N k := fun k hk => hN k hk.1 hk.2.1 hk.2.2.1 hk.2.2.2.1 hk.2.2.2.2
  intro p hp
  rw [n 6 (by decide)] at hp
  have := h p hp
  rw [n 8 (by decide), n 7 (by decide), n 11 (by decide), n 12 (by decide), n 13 (by decide), n 15 (by decide), h9 p, hZ10]
  simp only [hD]
  by_cases e : p = q
  · subst e
    simp [u3, un, hv]
    exact ⟨this.1, this.2.1, hx⟩
  · rw [hZ14 p e]
    simp [u3, un, e]
    exact this
section CRD
variable {ad : Nat → Nat → Nat} {M : zM} {D : Nat → Nat → Nat → Int32} {E : Nat → Nat → Nat → Option Nat} {qa : Nat → Nat} {c : Nat} {N : Nat → Nat → Nat} {Z : Nat → Nat → Int32}
theorem co_read (hb : ∀ k j, N k j < 1073741824) (hc : cR ad M D E qa c N Z) {post : zM → Prop} {q : Nat} (hq : q < N 6 0) (hn60 : N 6 0 ≤ 60) (hs : 0 < N 16 q) (h9 : N 9 q = 0) (hr : N 8 q < 6) (h7 : N 16 q = 404 ∨ N 16 q = 304 → N 7 q = 0) (hst : N 16 q = 200 ∨ N 16 q = 304 ∨ N 16 q = 404 ∨ N 16 q = 412) (hw : N 34 0 < 240) (h35 : N 35 0 ≤ N 34 0) (ha34 : aft N (N 34 0) < 1073741824)
    (K : ∀ M' D', cR ad M' D' E qa c (rdT N q) (rdZ N Z q) → D' 3 q 9 = nI (rd1 N q 9 q) → post M') : w_C_read M (ad 1 0) (ad 3 q) (ad 0 q) (ad 2 0) post := by
  have hc' := hc
  obtain ⟨hX, hS, hO, hK, hQ, hA, hT, hF, hL, hE⟩ := hc
  have hV3 : cV N 3 q := by simp [cV]; exact hq
  have hV0 : cV N 0 q := by simp [cV]; exact ⟨hq, hs⟩
  have hV6 := hX.v6 hr
  obtain ⟨⟨q0, q1, q2, q3, q4, q5, q6⟩, q8, q9, q10, q7⟩ := hQ q hq
  obtain ⟨⟨a0, a3⟩, a7, a8, a9, aG, a45, a6⟩ := hA q hq hs
  have b21 := hb 21 (N 8 q)
  have b := fun k j => (show N k j < 2 ^ 31 by have := hb k j; omega)
  -- the end: acknowledged or not
  have ack : ∀ (M1 : zM) (D1 : Nat → Nat → Nat → Int32), cR ad M1 D1 E qa c (rd1 N q) (rdZ N Z q) → D1 3 q 9 = nI (rd1 N q 9 q) → w_C_read_145 post M1 (ad 1 0) (ad 3 q) (ad 0 q) (ad 2 0) (ad 6 (N 8 q)) := by
    intro M1 D1 hc1 hd9
    have o : ∀ k j, (¬ k = 9 ∧ ¬ k = 21 ∧ ¬ k = 22 ∧ ¬ k = 24 ∧ ¬ k = 25) → rd1 N q k j = N k j := fun k j hk => rd1_o hk.1 hk.2.1 hk.2.2.1 hk.2.2.2.1 hk.2.2.2.2 j
    have e34 := o 34 0 (by decide)
    have hc1' := hc1
    obtain ⟨hX1, hS1, hO1, hK1, hQ1, hA1, hT1, hF1, hL1, hE1⟩ := hc1
    have hcV : cV (rd1 N q) = cV N := by funext x y; simp only [cV]; rw [o 6 0 (by decide)]; simp only [o 16 _ (by decide)]
    have hX1n : zX (cV N) ad M1 D1 E := by rw [← hcV]; exact hX1
    have ha1 : aft (rd1 N q) (N 34 0) = aft N (N 34 0) := aft_ag (funext fun j => o 20 j (by decide)) (funext fun j => o 32 j (by decide)) (funext fun j => o 33 j (by decide)) _
    unfold w_C_read_145
    refine ⟨hX1n.T hX1n.v1, c_ack hX1n hV0 hV3 (w := N 34 0) (a := nd N q) (t := aft N (N 34 0)) (by rw [hF1.1, e34]) hw ?_ ?_ ?_ (by omega) (hQ1 q (by rw [o 6 0 (by decide)]; exact hq)).1.1 (fun h0 => ?_) (fun h0 M2 hX2 => ?_)⟩
    · rw [(hA1 q (by rw [o 6 0 (by decide)]; exact hq) (by rw [o 16 q (by decide)]; exact hs)).1.2, rd1_nd]
    · rw [hT1.2.1, e34, ha1]
    · unfold nd; have := hb 20 (3 * q); have := hb 20 (3 * q + 1); have := hb 20 (3 * q + 2); omega
    · exact K M1 D1 (by unfold rdT; rw [if_neg (by omega)]; exact hc1') hd9
    · refine K M2 (u3 (tlD D1 (N 34 0) (nI 0) (nI q)) 1 0 2 (nI (max (aft N (N 34 0)) (nd N q)))) ?_ (by simp [tlD, u3]; exact hd9)
      unfold rdT
      rw [if_pos h0]
      have := tl_rel (M' := M2) (a := 0) (x := q) (t := max (aft N (N 34 0)) (nd N q)) (by rw [e34, o 35 0 (by decide)]; exact h35) (by rw [tl_aft1, if_neg (by decide), if_pos rfl, e34, ha1, rd1_nd]) hc1' (by rw [hcV, e34]; exact hX2)
      rw [e34] at this
      exact this
  unfold w_C_read
  rw [hX.I hV3, q1]
  refine ⟨hX.T hV3, hX.T hX.v1, c_storedAt hX hr (n_noO rfl ⟨hX.T hV0, ?_⟩)⟩
  rw [hX.I hV0, a0, l200, l304, l404, n_eq (b _ _) (by omega), n_eq (b _ _) (by omega), n_eq (b _ _) (by omega)]
  -- forgetting
  have forget : ∀ (v : Nat) (M1 : zM), ¬ v = 0 → ¬ v = 1 → ¬ v = 2 → ¬ v = 8 → (rd1 N q = un (un N 9 q v) 21 (N 8 q) (if N 21 (N 8 q) ≤ q then 0 else N 21 (N 8 q))) → rdZ N Z q = Z → zX (cV N) ad M1 (u3 (u3 D 3 q 9 (nI v)) 3 q 10 0) E → w_K_forgetIfOlderThan M1 (ad 6 (N 8 q)) (zI M1 (ad 3 q) 0) (fun M18 => w_C_read_145 post M18 (ad 1 0) (ad 3 q) (ad 0 q) (ad 2 0) (ad 6 (N 8 q))) := by
    intro v M1 v0 v1 v2 v8 er ez hX1
    have hNag : ∀ k, ¬ k = 9 → ¬ k = 21 → ¬ k = 22 → ¬ k = 24 → ¬ k = 25 → rd1 N q k = N k := fun k h1 h2 h3 h4 h5 => funext fun j => rd1_o h1 h2 h3 h4 h5 j
    unfold w_K_forgetIfOlderThan
    rw [show zI M1 (ad 3 q) 0 = nI q from (hX1.I hV3 0).trans (by simp [u3]; exact q0), hX1.I hV6]
    have e5 : u3 (u3 D 3 q 9 (nI v)) 3 q 10 0 6 (N 8 q) 5 = D 6 (N 8 q) 5 := by simp [u3]
    rw [e5]
    refine ⟨hX1.T hV6, n_ite (fun hle => ?_) (fun hle => ?_)⟩
    · refine ack M1 _ (rd_keep hNag (fun k h3 h6 => by funext a b; simp [u3, h3]) (fun k _ _ => by rw [ez]) hc' hX1 ?_ (rd_rQ (q := q) (v := v) (x := 0) v0 hNag (fun p => by rw [er]; simp [un]) (fun p j => rfl) (by rw [ez]) (fun p _ => by rw [ez]) (by rw [if_neg (by omega)]) hQ)) (by rw [er]; simp [u3, un] <;> rfl)
      have ei : (if N 21 (N 8 q) ≤ q then 0 else N 21 (N 8 q)) = N 21 (N 8 q) := by
        rcases Nat.eq_zero_or_pos (N 21 (N 8 q)) with h0 | h0
        · rw [if_pos (by omega), h0]
        · rw [((hK _ hr).2 h0).2.2.2.2.2, n_le (by omega) (by omega)] at hle
          rw [if_neg (by omega)]
      intro r hr'
      have := hK r hr'
      rw [er, ez, ei]
      by_cases e : r = N 8 q
      · subst e; simp [u3, un]; exact this
      · simp [u3, un, e]; exact this
    · refine c_setI hX1 hV6 0 rfl (fun M2 hX2 => ack M2 _ (rd_keep hNag (fun k h3 h6 => by funext a b; simp [u3, h3, h6]) (fun k _ _ => by rw [ez]) hc' hX2 ?_ (rd_rQ (q := q) (v := v) (x := 0) v0 hNag (fun p => by rw [er]; simp [un]) (fun p j => by simp [u3]) (by rw [ez]) (fun p _ => by rw [ez]) (by rw [if_neg (by omega)]) hQ)) (by rw [er]; simp [u3, un] <;> rfl))
      have ei : (if N 21 (N 8 q) ≤ q then 0 else N 21 (N 8 q)) = 0 := by
        rcases Nat.eq_zero_or_pos (N 21 (N 8 q)) with h0 | h0
        · rw [if_pos (by omega)]
        · rw [((hK _ hr).2 h0).2.2.2.2.2, n_le (by omega) (by omega)] at hle
          rw [if_pos (by omega)]
      intro r hr'
      have := hK r hr'
      rw [er, ez, ei]
      by_cases e : r = N 8 q
      · subst e; simp [u3, un]
      · simp [u3, un, e]; exact this
  refine n_ite (fun h200 => ⟨hX.T hV3, ?_⟩) (fun h200 => n_ite (fun h304 => ⟨hX.T hV3, ?_⟩) (fun h304 => n_ite (fun h404 => ⟨hX.T hV3, ?_⟩) (fun h404 => ⟨hX.T hV3, ?_⟩)))
  · -- 200
    rw [hX.I hV3, q2, l0, n_eq (b _ _) (by omega)]
    refine n_ite (fun h70 => ?_) (fun h70 => ?_)
    · rw [show zI M (ad 0 q) 6 = Z 19 q from (hX.I hV0 6).trans (a6 h70 h200)]
      obtain ⟨a4, a5⟩ := a45 h70 (by omega)
      refine c_settle hX hV3 (fun M1 hX1 => ⟨hX1.T hX1.v1, ?_⟩)
      have hNag : ∀ k, ¬ k = 9 → ¬ k = 21 → ¬ k = 22 → ¬ k = 24 → ¬ k = 25 → rd1 N q k = N k := fun k h1 h2 h3 h4 h5 => funext fun j => rd1_o h1 h2 h3 h4 h5 j
      have store19 : N 21 (N 8 q) ≤ q → w_C_store_19 (fun M12 => w_C_read_145 post M12 (ad 1 0) (ad 3 q) (ad 0 q) (ad 2 0) (ad 6 (N 8 q))) M1 (ad 1 0) (ad 6 (N 8 q)) (ad 3 q) (ad 0 q) := by
        intro hl
        have er : rd1 N q = un (un (un (un (un N 9 q 1) 22 (N 8 q) (N 17 q)) 24 (N 8 q) (N 18 q)) 25 (N 8 q) (N 13 q)) 21 (N 8 q) (q + 1) := by unfold rd1; rw [if_neg (by omega), if_pos ⟨h200, h70⟩, if_pos hl]
        have ez : rdZ N Z q = uz (uz Z 14 q (Z 19 q)) 23 (N 8 q) (Z 19 q) := by unfold rdZ; rw [if_pos ⟨h200, h70⟩, if_pos hl]
        unfold w_C_store_19
        refine ⟨hX1.T hV6, c_setI hX1 hV6 0 rfl (fun M2 hX2 => ⟨hX2.T hV0, ?_⟩)⟩
        refine c_setI hX2 hV6 1 ((hX2.I hV0 4).trans (show _ = nI (N 17 q) by simp [u3]; exact a4)) (fun M3 hX3 => ?_)
        refine c_setI hX3 hV6 2 ((hX3.I hV0 6).trans (show _ = Z 19 q by simp [u3]; exact a6 h70 h200)) (fun M4 hX4 => ?_)
        refine c_setI hX4 hV6 3 ((hX4.I hV0 5).trans (show _ = nI (N 18 q) by simp [u3]; exact a5)) (fun M5 hX5 => ⟨hX5.T hV3, ?_⟩)
        refine c_setI hX5 hV6 4 ((hX5.I hV3 6).trans (show _ = nI (N 13 q) by simp [u3]; exact q6)) (fun M6 hX6 => ?_)
        refine c_setI hX6 hV6 5 ((hX6.I hV3 0).trans (show _ = nI q by simp [u3]; exact q0)) (fun M7 hX7 => ?_)
        refine ack M7 _ (rd_keep hNag (fun k h3 h6 => by funext a b; simp [u3, h3, h6]) (fun k h14 h23 => by rw [ez]; funext a; simp [uz, h14, h23]) hc' hX7 ?_ (rd_rQ (q := q) (v := 1) (x := Z 19 q) (by decide) hNag (fun p => by rw [er]; simp [un]) (fun p j => by simp [u3] <;> rfl) (by rw [ez]; funext a; simp [uz]) (fun p hp => by rw [ez]; simp [uz, hp]) (by rw [ez]; simp [uz]) hQ)) (by rw [er]; simp [u3, un] <;> rfl)
        intro r hr'
        have := hK r hr'
        rw [er, ez]
        by_cases e : r = N 8 q
        · subst e; simp [u3, un, uz]
        · simp [u3, un, uz, e]; exact this
      have keep : ¬ N 21 (N 8 q) ≤ q → w_C_read_145 post M1 (ad 1 0) (ad 3 q) (ad 0 q) (ad 2 0) (ad 6 (N 8 q)) := by
        intro hl
        have er : rd1 N q = un N 9 q 1 := by unfold rd1; rw [if_neg (by omega), if_pos ⟨h200, h70⟩, if_neg hl]
        have ez : rdZ N Z q = uz Z 14 q (Z 19 q) := by unfold rdZ; rw [if_pos ⟨h200, h70⟩, if_neg hl]
        refine ack M1 _ (rd_keep hNag (fun k h3 h6 => by funext a b; simp [u3, h3]) (fun k h14 h23 => by rw [ez]; funext a; simp [uz, h14]) hc' hX1 ?_ (rd_rQ (q := q) (v := 1) (x := Z 19 q) (by decide) hNag (fun p => by rw [er]) (fun p j => rfl) (by rw [ez]; funext a; simp [uz]) (fun p hp => by rw [ez]; simp [uz, hp]) (by rw [ez]; simp [uz]) hQ)) (by rw [er]; simp [u3, un] <;> rfl)
        intro r hr'
        have := hK r hr'
        rw [er, ez]
        simp [u3, un, uz]; exact this
      unfold w_C_store
      rw [hX1.I hV6, hX1.I hV6, hX1.I hV3]
      have e60 : u3 (u3 D 3 q 9 (1 : Int32)) 3 q 10 (Z 19 q) 6 (N 8 q) 0 = D 6 (N 8 q) 0 := by simp [u3]
      have e65 : u3 (u3 D 3 q 9 (1 : Int32)) 3 q 10 (Z 19 q) 6 (N 8 q) 5 = D 6 (N 8 q) 5 := by simp [u3]
      have e30 : u3 (u3 D 3 q 9 (1 : Int32)) 3 q 10 (Z 19 q) 3 q 0 = nI q := by simp [u3]; exact q0
      rw [e60, e65, e30]
      refine ⟨hX1.T hV6, ?_⟩
      rcases Nat.eq_zero_or_pos (N 21 (N 8 q)) with h0 | h0
      · rw [(hK _ hr).1 h0]
        exact n_yes rfl (store19 (by omega))
      · rw [((hK _ hr).2 h0).1, ((hK _ hr).2 h0).2.2.2.2.2, n_lt (by omega) (by omega)]
        exact n_not (by decide) ⟨hX1.T hV3, n_ite (fun h => store19 (by omega)) (fun h => keep (by omega))⟩
    · refine c_settle hX hV3 (fun M1 hX1 => ⟨hX1.T hV3, hX1.T hV6, forget 4 M1 (by decide) (by decide) (by decide) (by decide) ?_ ?_ hX1⟩)
      · unfold rd1; rw [if_neg (by omega), if_neg (fun z => h70 z.2), if_neg (by omega), if_neg (show ¬ N 16 q = 404 by omega)]
      · unfold rdZ; rw [if_neg (fun z => h70 z.2)]
  · -- 304
    have hNag : ∀ k, ¬ k = 9 → ¬ k = 21 → ¬ k = 22 → ¬ k = 24 → ¬ k = 25 → rd1 N q k = N k := fun k h1 h2 h3 h4 h5 => funext fun j => rd1_o h1 h2 h3 h4 h5 j
    have ez : rdZ N Z q = Z := by unfold rdZ; rw [if_neg (fun z => by omega)]
    obtain ⟨a4, a5⟩ := a45 (h7 (Or.inr h304)) (by omega)
    rw [hX.I hV3, q7 h9]
    refine c_settle hX hV3 (fun M1 hX1 => ⟨hX1.T hX1.v1, ?_⟩)
    have keep : ¬ (0 < N 21 (N 8 q) ∧ N 22 (N 8 q) = N 17 q ∧ N 21 (N 8 q) ≤ q) → w_C_read_145 post M1 (ad 1 0) (ad 3 q) (ad 0 q) (ad 2 0) (ad 6 (N 8 q)) := by
      intro hl
      have er : rd1 N q = un N 9 q 2 := by unfold rd1; rw [if_pos h304, if_neg hl]
      refine ack M1 _ (rd_keep hNag (fun k h3 h6 => by funext a b; simp [u3, h3]) (fun k h14 h23 => by rw [ez]) hc' hX1 ?_ (rd_rQ (q := q) (v := 2) (x := Z 14 q) (by decide) hNag (fun p => by rw [er]) (fun p j => rfl) (by rw [ez]) (fun p hp => by rw [ez]) (by rw [ez]; simp) hQ)) (by rw [er]; simp [u3, un] <;> rfl)
      intro r hr'
      have := hK r hr'
      rw [er, ez]
      simp [u3, un]; exact this
    unfold w_C_renew
    rw [hX1.I hV6, hX1.I hV6, hX1.I hV6, hX1.I hV0, hX1.I hV0, hX1.I hV3]
    have e60 : u3 (u3 D 3 q 9 (2 : Int32)) 3 q 10 (Z 14 q) 6 (N 8 q) 0 = D 6 (N 8 q) 0 := by simp [u3]
    have e61 : u3 (u3 D 3 q 9 (2 : Int32)) 3 q 10 (Z 14 q) 6 (N 8 q) 1 = D 6 (N 8 q) 1 := by simp [u3]
    have e65 : u3 (u3 D 3 q 9 (2 : Int32)) 3 q 10 (Z 14 q) 6 (N 8 q) 5 = D 6 (N 8 q) 5 := by simp [u3]
    have e04 : u3 (u3 D 3 q 9 (2 : Int32)) 3 q 10 (Z 14 q) 0 q 4 = nI (N 17 q) := by simp [u3]; exact a4
    have e05 : u3 (u3 D 3 q 9 (2 : Int32)) 3 q 10 (Z 14 q) 0 q 5 = nI (N 18 q) := by simp [u3]; exact a5
    have e30 : u3 (u3 D 3 q 9 (2 : Int32)) 3 q 10 (Z 14 q) 3 q 0 = nI q := by simp [u3]; exact q0
    rw [e60, e61, e65, e04, e05, e30]
    refine ⟨hX1.T hV6, ?_⟩
    rcases Nat.eq_zero_or_pos (N 21 (N 8 q)) with h0 | h0
    · rw [(hK _ hr).1 h0]
      exact n_yes rfl (keep (fun z => by omega))
    · rw [((hK _ hr).2 h0).1, ((hK _ hr).2 h0).2.1, ((hK _ hr).2 h0).2.2.2.2.2, n_lt (by omega) (by omega), n_eq (b _ _) (b _ _)]
      refine n_not (by decide) ⟨hX1.T hV0, n_ite (fun h22 => ⟨hX1.T hV3, n_ite (fun hl => ?_) (fun hl => keep (fun z => by omega))⟩) (fun h22 => keep (fun z => h22 z.2.1))⟩
      have er : rd1 N q = un (un (un (un N 9 q 2) 24 (N 8 q) (N 18 q)) 25 (N 8 q) (N 13 q)) 21 (N 8 q) (q + 1) := by unfold rd1; rw [if_pos h304, if_pos ⟨h0, h22, by omega⟩]
      refine c_setI hX1 hV6 3 rfl (fun M2 hX2 => ?_)
      refine c_setI hX2 hV6 4 ((hX2.I hV3 6).trans (show _ = nI (N 13 q) by simp [u3]; exact q6)) (fun M3 hX3 => ?_)
      refine c_setI hX3 hV6 5 ((hX3.I hV3 0).trans (show _ = nI q by simp [u3]; exact q0)) (fun M4 hX4 => ?_)
      refine ack M4 _ (rd_keep hNag (fun k h3 h6 => by funext a b; simp [u3, h3, h6]) (fun k h14 h23 => by rw [ez]) hc' hX4 ?_ (rd_rQ (q := q) (v := 2) (x := Z 14 q) (by decide) hNag (fun p => by rw [er]; simp [un]) (fun p j => by simp [u3] <;> rfl) (by rw [ez]) (fun p hp => by rw [ez]) (by rw [ez]; simp) hQ)) (by rw [er]; simp [u3, un] <;> rfl)
      intro r hr'
      have := hK r hr'
      rw [er, ez]
      by_cases e : r = N 8 q
      · subst e
        simp [u3, un]
        have := this.2 h0
        exact ⟨this.1, this.2.1, this.2.2.1⟩
      · simp [u3, un, e]; exact this
  · -- 404
    refine c_settle hX hV3 (fun M1 hX1 => ⟨hX1.T hV3, hX1.T hV6, forget 3 M1 (by decide) (by decide) (by decide) (by decide) ?_ ?_ hX1⟩)
    · unfold rd1; rw [if_neg h304, if_neg (fun z => h200 z.1), if_neg (by omega), if_pos h404]
    · unfold rdZ; rw [if_neg (fun z => h200 z.1)]
  · -- 412
    have hNag : ∀ k, ¬ k = 9 → ¬ k = 21 → ¬ k = 22 → ¬ k = 24 → ¬ k = 25 → rd1 N q k = N k := fun k h1 h2 h3 h4 h5 => funext fun j => rd1_o h1 h2 h3 h4 h5 j
    have ez : rdZ N Z q = Z := by unfold rdZ; rw [if_neg (fun z => h200 z.1)]
    have er : rd1 N q = un N 9 q 5 := by unfold rd1; rw [if_neg h304, if_neg (fun z => h200 z.1), if_pos (by omega)]
    refine c_settle hX hV3 (fun M1 hX1 => ack M1 _ (rd_keep hNag (fun k h3 h6 => by funext a b; simp [u3, h3]) (fun k h14 h23 => by rw [ez]) hc' hX1 ?_ (rd_rQ (q := q) (v := 5) (x := 0) (by decide) hNag (fun p => by rw [er]) (fun p j => rfl) (by rw [ez]) (fun p hp => by rw [ez]) (by simp) hQ)) (by rw [er]; simp [u3, un] <;> rfl))
    intro r hr'
    have := hK r hr'
    rw [er, ez]
    simp [u3, un]; exact this
end CRD
