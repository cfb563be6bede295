def a17 (N : Nat → Nat → Nat) (q r : Nat) : Nat → Nat → Nat := un (un N 17 q (N 3 r)) 18 q (N 2 r)
theorem cR_17 {ad : Nat → Nat → Nat} {M : zM} {D : Nat → Nat → Nat → Int32} {E : Nat → Nat → Nat → Option Nat} {qa : Nat → Nat} {c q r : Nat} {N : Nat → Nat → Nat} {Z : Nat → Nat → Int32} {z : Int32} (h16 : N 16 q = 0) (h : cR ad M D E qa c N Z) : cR ad M D E qa c (a17 N q r) (uz Z 19 q z) := by
  obtain ⟨hX, hS, hO, hK, hQ, hA, hT, hF, hL, hE⟩ := h
  unfold a17
  refine ⟨zX_cV (by decide) (by decide) (zX_cV (by decide) (by decide) hX), ?_, rO_uz (by decide) (rO_un (by decide) (by decide) (by decide) (rO_un (by decide) (by decide) (by decide) hO)), rK_uz (by decide) (rK_un (by decide) (by decide) (by decide) (by decide) (rK_un (by decide) (by decide) (by decide) (by decide) hK)), rQ_uz (by decide) (by decide) (rQ_un (by decide) (by decide) (by decide) (by decide) (by decide) (by decide) (by decide) (by decide) (rQ_un (by decide) (by decide) (by decide) (by decide) (by decide) (by decide) (by decide) (by decide) hQ)), ?_, rT_uz (by decide) (rT_un (by decide) (by decide) (by decide) (by decide) (by decide) (by decide) (by decide) (rT_un (by decide) (by decide) (by decide) (by decide) (by decide) (by decide) (by decide) hT)), rF_un (by decide) (by decide) (by decide) (by decide) (rF_un (by decide) (by decide) (by decide) (by decide) hF), rL_un (by decide) (by decide) (by decide) (rL_un (by decide) (by decide) (by decide) hL), rE_un (by decide) (by decide) (rE_un (by decide) (by decide) hE)⟩
  · simp [rS, un] at hS ⊢; exact hS
  · intro p hp hs
    have hp : p < N 6 0 := by simpa [un] using hp
    have hs : 0 < N 16 p := by simpa [un] using hs
    have e : ¬ p = q := fun y => by rw [y] at hs; omega
    obtain ⟨a, b, c, d, f, g⟩ := hA p hp hs
    rw [ost_un (by decide) (by decide) (by decide) (by decide) (by decide), ost_un (by decide) (by decide) (by decide) (by decide) (by decide), nd_un (by decide), nd_un (by decide)]
    simp [un, uz, e]
    exact ⟨a, b, c, d, rG_un (by decide) (rG_un (by decide) f), g⟩
theorem jI_17 {N : Nat → Nat → Nat} {k q r : Nat} (h16 : N 16 q = 0) (h : jI k N) : jI k (a17 N q r) := by
  obtain ⟨jq, jr, jw, jk⟩ := h
  unfold a17
  refine ⟨?_, jR_un (by decide) (by decide) (by decide) (by decide) (by decide) (by decide) (by decide) (by decide) (by decide) (jR_un (by decide) (by decide) (by decide) (by decide) (by decide) (by decide) (by decide) (by decide) (by decide) jr), jW_un (by decide) (by decide) (by decide) (by decide) (by decide) (by decide) (by decide) (by decide) (by decide) (by decide) (jW_un (by decide) (by decide) (by decide) (by decide) (by decide) (by decide) (by decide) (by decide) (by decide) (by decide) jw), ?_⟩
  · intro p hp
    have hp : p < N 6 0 := by simpa [un] using hp
    have := jq p hp
    by_cases e : p = q
    · subst e
      simp [un, h16] at this ⊢
      exact this
    · simp [un, e] at this ⊢
      exact this
  · unfold jK at *
    simp [un] at jk ⊢
    exact jk
def dec (N : Nat → Nat → Nat) (Z : Nat → Nat → Int32) (q st : Nat) (Nw : Nat → Nat → Nat) (Zw : Nat → Nat → Int32) : Prop :=
  (N 7 q = 0 ∧ N 0 (N 8 q) = 0 ∧ st = 404 ∧ Nw = N ∧ Zw = Z) ∨ (N 7 q = 0 ∧ ¬ N 0 (N 8 q) = 0 ∧ N 12 q = N 3 (N 8 q) ∧ st = 304 ∧ Nw = N ∧ Zw = Z) ∨ (N 7 q = 0 ∧ ¬ N 0 (N 8 q) = 0 ∧ ¬ N 12 q = N 3 (N 8 q) ∧ st = 200 ∧ Nw = N ∧ Zw = Z) ∨ (¬ N 7 q = 0 ∧ (N 12 q = 0 ∨ (¬ N 0 (N 8 q) = 0 ∧ N 3 (N 8 q) = N 12 q)) ∧ st = 200 ∧ Nw = wrN N (N 8 q) (N 11 q) ∧ Zw = uz Z 1 (N 8 q) (Z 10 q)) ∨ (¬ N 7 q = 0 ∧ ¬ N 12 q = 0 ∧ (N 0 (N 8 q) = 0 ∨ ¬ N 3 (N 8 q) = N 12 q) ∧ st = 412 ∧ Nw = N ∧ Zw = Z)
section A4
variable {am : Nat} {ar : Nat → Nat} {M : zM} {N : Nat → Nat → Nat} {Z : Nat → Nat → Int32}
theorem y_decide (hy : yR am ar M N Z) {post : Int32 → zM → Prop} {q st : Nat} {Nw : Nat → Nat → Nat} {Zw : Nat → Nat → Int32} (hq : q < 60) (hr : N 8 q < 6) (h4 : N 4 0 + 1 < 1073741824) (hd : dec N Z q st Nw Zw) (K : ∀ M', yR am ar M' Nw Zw → post (nI st) M') : w_Y_decide M am (nI q) post := by
  have hin : vp_in (nI q) 60 := (n_in (by omega) (by omega)).mpr hq
  have hir : vp_in (nI (N 8 q)) 6 := (n_in (by omega) (by omega)).mpr hr
  have e8 : zI M (ar 8) q = nI (N 8 q) := hy.rn 8 q rfl rfl (by decide)
  have e7 : zI M (ar 7) q = nI (N 7 q) := hy.rn 7 q rfl rfl (by decide)
  have e12 : zI M (ar 12) q = nI (N 12 q) := hy.rn 12 q rfl rfl (by decide)
  have e0 : zI M (ar 0) (N 8 q) = nI (N 0 (N 8 q)) := hy.rn 0 _ rfl rfl (by decide)
  have e3 : zI M (ar 3) (N 8 q) = nI (N 3 (N 8 q)) := hy.rn 3 _ rfl rfl (by decide)
  unfold w_Y_decide
  simp only [n_cl (show q < 2 ^ 31 by omega)]
  refine ⟨hy.T, y_get hy 8 20 60 rfl rfl ⟨hin, y_get hy 7 21 60 rfl rfl ⟨hin, ?_⟩⟩⟩
  rw [e8, e7, n_cl (by omega), l0, n_eq (hy.b _ _) (by omega)]
  refine n_ite (fun h7 => y_get hy 0 21 6 rfl rfl ⟨hir, ?_⟩) (fun h7 => y_get hy 12 20 60 rfl rfl ⟨hin, ?_⟩)
  · rw [e0, n_eq (hy.b _ _) (by omega)]
    refine n_ite (fun h0 => ?_) (fun h0 => y_get hy 12 20 60 rfl rfl ⟨hin, y_get hy 3 20 6 rfl rfl ⟨hir, ?_⟩⟩)
    · rcases hd with ⟨d1, d2, rfl, rfl, rfl⟩ | ⟨d1, d2, d3, rfl, rfl, rfl⟩ | ⟨d1, d2, d3, rfl, rfl, rfl⟩ | ⟨d1, d2⟩ | ⟨d1, d2⟩
      · exact K M hy
      · exact absurd h0 d2
      · exact absurd h0 d2
      · exact absurd h7 d1
      · exact absurd h7 d1
    · rw [e12, e3, n_eq (hy.b _ _) (hy.b _ _)]
      rcases hd with ⟨d1, d2, rfl, rfl, rfl⟩ | ⟨d1, d2, d3, rfl, rfl, rfl⟩ | ⟨d1, d2, d3, rfl, rfl, rfl⟩ | ⟨d1, d2⟩ | ⟨d1, d2⟩
      · exact absurd d2 h0
      · exact n_yes d3 (K M hy)
      · exact n_not d3 (K M hy)
      · exact absurd h7 d1
      · exact absurd h7 d1
  · rw [e12, n_le (hy.b _ _) (by omega)]
    have wr : (N 12 q = 0 ∨ (¬ N 0 (N 8 q) = 0 ∧ N 3 (N 8 q) = N 12 q)) → w_Y_decide_93 post M am (nI q) (nI (N 8 q)) := by
      intro hh
      unfold w_Y_decide_93
      rw [n_cl (by omega)]
      refine ⟨hy.T, y_get hy 10 20 60 rfl rfl ⟨hin, y_get hy 11 20 60 rfl rfl ⟨hin, ?_⟩⟩⟩
      rw [hy.rz 10 q rfl rfl, hy.rn 11 q rfl rfl (by decide)]
      refine y_write hy hr (hy.b30 _ _) h4 (fun M' hy' => ?_)
      rcases hd with ⟨d1, d2, rfl, rfl, rfl⟩ | ⟨d1, d2, d3, rfl, rfl, rfl⟩ | ⟨d1, d2, d3, rfl, rfl, rfl⟩ | ⟨d1, d2, rfl, rfl, rfl⟩ | ⟨d1, d2, d3, rfl, rfl, rfl⟩
      · exact absurd d1 h7
      · exact absurd d1 h7
      · exact absurd d1 h7
      · exact K M' hy'
      · omega
    have no : ¬ N 12 q = 0 → (N 0 (N 8 q) = 0 ∨ ¬ N 3 (N 8 q) = N 12 q) → post (nI 412) M := by
      intro h1 h2
      rcases hd with ⟨d1, d2, rfl, rfl, rfl⟩ | ⟨d1, d2, d3, rfl, rfl, rfl⟩ | ⟨d1, d2, d3, rfl, rfl, rfl⟩ | ⟨d1, d2, rfl, rfl, rfl⟩ | ⟨d1, d2, d3, rfl, rfl, rfl⟩
      · exact absurd d1 h7
      · exact absurd d1 h7
      · exact absurd d1 h7
      · omega
      · exact K M hy
    refine n_ite (fun h12 => wr (Or.inl (by omega))) (fun h12 => y_get hy 0 21 6 rfl rfl ⟨hir, ?_⟩)
    rw [e0, n_eq (hy.b _ _) (by omega)]
    refine n_ite (fun h0 => no (by omega) (Or.inl h0)) (fun h0 => y_get hy 3 20 6 rfl rfl ⟨hir, y_get hy 12 20 60 rfl rfl ⟨hin, ?_⟩⟩)
    rw [e3, e12, n_eq (hy.b _ _) (hy.b _ _)]
    exact n_ite (fun h3 => wr (Or.inr ⟨h0, h3⟩)) (fun h3 => no (by omega) (Or.inr h3))
theorem yo_173 (hy : yR am ar M N Z) {post : Int32 → zM → Prop} {q st : Nat} {x2 : Int32} (hq : q < 60) (hst : st < 1073741824) (K : ∀ M', yR am ar M' (arN N q st (max (N 39 0) (q + 1))) Z → post (nI st) M') : w_Y_arrive_173 post M am (nI q) x2 (nI st) := by
  have hin : vp_in (nI q) 60 := (n_in (by omega) (by omega)).mpr hq
  unfold w_Y_arrive_173 w_Y_arrive_208
  simp only [n_cl (show q < 2 ^ 31 by omega)]
  refine ⟨hy.T, y_get hy 16 20 60 rfl rfl ⟨hin, y_putN hy 16 q st rfl rfl (by decide) rfl hst (fun M hy1 => y_get hy1 15 20 60 rfl rfl ⟨hin, y_putN hy1 15 q 2 rfl rfl (by decide) rfl (by omega) (fun M hy2 => ?_)⟩)⟩⟩
  rw [show zI M am 39 = nI (N 39 0) from (hy2.sc 39 rfl).trans (by simp [un]), l1, n_add, n_le (by omega) (hy.b _ _)]
  have b39 := hy.b30 39 0
  refine n_ite (fun hc => ⟨hy2.T, y_setS hy2 39 (max (N 39 0) (q + 1)) rfl (by rw [show max (N 39 0) (q + 1) = N 39 0 by omega]) (by omega) (fun M hy3 => K M hy3)⟩) (fun hc => ⟨hy2.T, y_setS hy2 39 (max (N 39 0) (q + 1)) rfl (by rw [show max (N 39 0) (q + 1) = q + 1 by omega]) (by omega) (fun M hy3 => K M hy3)⟩)
theorem yo_49 (hy : yR am ar M N Z) {post : Int32 → zM → Prop} {q st C : Nat} {Nw Nm : Nat → Nat → Nat} {Zw Zm : Nat → Nat → Int32} (hq : q < 60) (hr : N 8 q < 6) (h4 : N 4 0 + 1 < 1073741824) (hd : dec N Z q st Nw Zw) (p : pI (a17 Nw q (N 8 q)) q 0 C) (hst : (400 ≤ st ∧ st < 500 ∧ FS q (av (a17 Nw q (N 8 q)) (uz Zw 19 q (Zw 1 (N 8 q))) (N 8 q)) 0 0 (a17 Nw q (N 8 q)) (uz Zw 19 q (Zw 1 (N 8 q))) Nm Zm) ∨ (st = 200 ∧ ¬ Nw 7 q = 0 ∧ FS q (av (a17 Nw q (N 8 q)) (uz Zw 19 q (Zw 1 (N 8 q))) (N 8 q)) 1 0 (a17 Nw q (N 8 q)) (uz Zw 19 q (Zw 1 (N 8 q))) Nm Zm) ∨ (st = 304 ∧ Nw 7 q = 0 ∧ FS q (av (a17 Nw q (N 8 q)) (uz Zw 19 q (Zw 1 (N 8 q))) (N 8 q)) 2 0 (a17 Nw q (N 8 q)) (uz Zw 19 q (Zw 1 (N 8 q))) Nm Zm) ∨ (st = 200 ∧ Nw 7 q = 0 ∧ FS q (av (a17 Nw q (N 8 q)) (uz Zw 19 q (Zw 1 (N 8 q))) (N 8 q)) 3 0 (a17 Nw q (N 8 q)) (uz Zw 19 q (Zw 1 (N 8 q))) Nm Zm)) (K : ∀ M', yR am ar M' (arN Nm q st (max (Nm 39 0) (q + 1))) Zm → post (nI st) M') : w_Y_arrive_49 post M am (nI q) := by
  have hin : vp_in (nI q) 60 := (n_in (by omega) (by omega)).mpr hq
  have hir : vp_in (nI (N 8 q)) 6 := (n_in (by omega) (by omega)).mpr hr
  unfold w_Y_arrive_49
  simp only [n_cl (show q < 2 ^ 31 by omega)]
  refine ⟨hy.T, y_get hy 8 20 60 rfl rfl ⟨hin, ?_⟩⟩
  rw [hy.rn 8 q rfl rfl (by decide), n_cl (by omega)]
  refine y_decide hy hq hr h4 hd (fun M hy1 => ⟨hy1.T, y_get hy1 3 20 6 rfl rfl ⟨hir, y_get hy1 17 20 60 rfl rfl ⟨hin, ?_⟩⟩⟩)
  refine y_putN hy1 17 q (Nw 3 (N 8 q)) rfl rfl (by decide) (hy1.rn 3 _ rfl rfl (by decide)) (hy1.b30 _ _) (fun M hy2 => y_get hy2 2 20 6 rfl rfl ⟨hir, y_get hy2 18 20 60 rfl rfl ⟨hin, ?_⟩⟩)
  refine y_putN hy2 18 q (Nw 2 (N 8 q)) rfl rfl (by decide) ((hy2.rn 2 _ rfl rfl (by decide)).trans (by simp [un])) (hy1.b30 _ _) (fun M hy3 => y_get hy3 1 20 6 rfl rfl ⟨hir, y_get hy3 19 20 60 rfl rfl ⟨hin, ?_⟩⟩)
  rw [hy3.rz 1 _ rfl rfl]
  refine y_putZ hy3 19 q (Zw 1 (N 8 q)) rfl rfl (fun M hy4 => ?_)
  have hy4 : yR am ar M (a17 Nw q (N 8 q)) (uz Zw 19 q (Zw 1 (N 8 q))) := hy4
  have e7 : a17 Nw q (N 8 q) 7 q = Nw 7 q := by simp [a17, un]
  rw [← e7] at hst
  clear hd hy1 hy2 hy3 e7
  have hr' := hr
  generalize N 8 q = r at *
  generalize a17 Nw q r = Nf at *
  generalize uz Zw 19 q (Zw 1 r) = Zf at *
  have b34 : Nf 34 0 ≤ 572 := by have := p.2.2.1.2.1; omega
  rcases hst with ⟨s1, s2, rfl, rfl⟩ | ⟨rfl, h7, o, hO, rfl, rfl⟩ | ⟨rfl, h7, o, hO, o1, hO1, rfl, rfl⟩ | ⟨rfl, h7, o, hO, o1, hO1, o2, hO2, rfl, rfl⟩
  · rw [l400, n_le (by omega) (by omega)]
    refine n_yes s1 ?_
    unfold w_Y_arrive_117 w_Y_arrive_145
    rw [l400, n_le (by omega) (by omega), l200, n_eq (by omega) (by omega)]
    exact n_yes s1 (n_not (by omega) (yo_173 hy4 hq (by omega) K))
  · refine n_not (by decide) (y_get hy4 3 20 6 rfl rfl ⟨hir, ?_⟩)
    rw [hy4.rn 3 _ rfl rfl (by decide)]
    refine yo_field (f := 0) hy4 p (by omega) (by omega) (fun o' M hO' hy5 => ?_)
    have := fO_un hO' hO
    subst this
    have g7 : fN Nf q 0 o' 7 = Nf 7 := (fN_f (fO_le hO)).1 7 rfl
    unfold w_Y_arrive_117 w_Y_arrive_145
    rw [n_cl (by omega)]
    have e7 : zI M (ar 7) q = nI (Nf 7 q) := (hy5.rn 7 q rfl rfl (by decide)).trans (by rw [g7])
    refine n_not (by decide) ⟨hy5.T, y_get hy5 7 21 60 rfl rfl ⟨hin, ?_⟩⟩
    rw [e7, l0, n_eq (hy4.b _ _) (by omega)]
    refine n_not h7 (n_yes rfl ⟨hy5.T, y_get hy5 7 21 60 rfl rfl ⟨hin, ?_⟩⟩)
    rw [e7, n_eq (hy4.b _ _) (by omega)]
    exact n_not h7 (yo_173 hy5 hq (by omega) K)
  · refine n_not (by decide) (y_get hy4 3 20 6 rfl rfl ⟨hir, ?_⟩)
    rw [hy4.rn 3 _ rfl rfl (by decide)]
    refine yo_field (f := 0) hy4 p (by omega) (by omega) (fun o' M hO' hy5 => ?_)
    have := fO_un hO' hO
    subst this
    have p1 := pI_step p (by omega) hO
    have g := (fN_f (q := q) (m := 0) (fO_le hO)).1
    unfold w_Y_arrive_117
    rw [n_cl (by omega), n_cl (by omega)]
    refine n_not (by decide) ⟨hy5.T, y_get hy5 7 21 60 rfl rfl ⟨hin, ?_⟩⟩
    rw [show zI M (ar 7) q = nI (Nf 7 q) from (hy5.rn 7 q rfl rfl (by decide)).trans (by rw [g 7 rfl]), l0, n_eq (hy4.b _ _) (by omega)]
    refine n_yes h7 (y_get hy5 2 20 6 rfl rfl ⟨hir, ?_⟩)
    rw [show zI M (ar 2) r = nI (Nf 2 r) from (hy5.rn 2 r rfl rfl (by decide)).trans (by rw [g 2 rfl])]
    refine yo_field (f := 1) hy5 p1 (by omega) (by omega) (fun o1' M hO1' hy6 => ?_)
    have := fO_un hO1' hO1
    subst this
    unfold w_Y_arrive_145
    exact n_not (by decide) (yo_173 hy6 hq (by omega) K)
  · refine n_not (by decide) (y_get hy4 3 20 6 rfl rfl ⟨hir, ?_⟩)
    rw [hy4.rn 3 _ rfl rfl (by decide)]
    refine yo_field (f := 0) hy4 p (by omega) (by omega) (fun o' M hO' hy5 => ?_)
    have := fO_un hO' hO
    subst this
    have p1 := pI_step p (by omega) hO
    have g := (fN_f (q := q) (m := 0) (fO_le hO)).1
    unfold w_Y_arrive_117
    rw [n_cl (by omega), n_cl (by omega)]
    refine n_not (by decide) ⟨hy5.T, y_get hy5 7 21 60 rfl rfl ⟨hin, ?_⟩⟩
    rw [show zI M (ar 7) q = nI (Nf 7 q) from (hy5.rn 7 q rfl rfl (by decide)).trans (by rw [g 7 rfl]), l0, n_eq (hy4.b _ _) (by omega)]
    refine n_yes h7 (y_get hy5 2 20 6 rfl rfl ⟨hir, ?_⟩)
    rw [show zI M (ar 2) r = nI (Nf 2 r) from (hy5.rn 2 r rfl rfl (by decide)).trans (by rw [g 2 rfl])]
    refine yo_field (f := 1) hy5 p1 (by omega) (by omega) (fun o1' M hO1' hy6 => ?_)
    have := fO_un hO1' hO1
    subst this
    have p2 := pI_step p1 (by omega) hO1
    have g2 := (fN_f (q := q) (m := 1) (fO_le hO1)).1
    have z1 : fZ (fN Nf q 0 o') (fZ Nf Zf (nI (Nf 3 r)) o') (nI (Nf 2 r)) o1' 1 = Zf 1 := by
      rw [(fk_f (q := q) (m := 1) (Z := fZ Nf Zf (nI (Nf 3 r)) o') (v := nI (Nf 2 r)) (fO_le hO1) (by omega)).2.2.2 1 (by decide), (fk_f (q := q) (m := 0) (Z := Zf) (v := nI (Nf 3 r)) (fO_le hO) (by omega)).2.2.2 1 (by decide)]
    unfold w_Y_arrive_145
    rw [n_cl (by omega), n_cl (by omega)]
    refine n_yes rfl ⟨hy6.T, y_get hy6 7 21 60 rfl rfl ⟨hin, ?_⟩⟩
    rw [show zI M (ar 7) q = nI (Nf 7 q) from (hy6.rn 7 q rfl rfl (by decide)).trans (by rw [g2 7 rfl, g 7 rfl]), l0, n_eq (hy4.b _ _) (by omega)]
    refine n_yes h7 (y_get hy6 1 20 6 rfl rfl ⟨hir, ?_⟩)
    rw [show zI M (ar 1) r = Zf 1 r from (hy6.rz 1 r rfl rfl).trans (by rw [z1])]
    refine yo_field (f := 2) hy6 p2 (by omega) (by omega) (fun o2' M hO2' hy7 => ?_)
    have := fO_un hO2' hO2
    subst this
    exact yo_173 hy7 hq (by omega) K
end A4
