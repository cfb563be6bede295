theorem yo_ask {am : Nat} {ar : Nat → Nat} {M : zM} {N : Nat → Nat → Nat} {Z : Nat → Nat → Int32} (hy0 : yR am ar M N Z) {post : Int32 → zM → Prop} {v7 r l : Nat} {z : Int32} (hn : N 6 0 < 60) (hr : r < 6) (hv7 : v7 ≤ 1) (hl : l ≤ 1000) (h25 : 0 < N 21 r → N 25 r ≤ N 5 0) (K : ∀ M', yR am ar M' (akN N v7 r l) (akZ N Z v7 r z) → post (nI (N 6 0)) M') : w_Y_ask M am (nI r) (nI v7) z (nI l) post := by
  have hin : vp_in (nI (N 6 0)) 60 := (n_in (by omega) (by omega)).mpr hn
  have hir : vp_in (nI r) 6 := (n_in (by omega) (by omega)).mpr hr
  unfold w_Y_ask
  rw [hy0.sc 6 rfl]
  simp only [n_cl (show N 6 0 < 2 ^ 31 by omega), n_cl (show r < 2 ^ 31 by omega)]
  refine ⟨hy0.T, y_setS hy0 6 (N 6 0 + 1) rfl (by rw [l1, n_add]) (by omega) (fun M hy => ?_)⟩
  refine y_get hy 7 21 60 rfl rfl ⟨hin, y_putN hy 7 (N 6 0) v7 rfl rfl (by decide) (by rcases (show v7 = 0 ∨ v7 = 1 by omega) with rfl | rfl; exact vp_b0; exact vp_b1) (by omega) (fun M hy => ?_)⟩
  refine y_get hy 8 20 60 rfl rfl ⟨hin, y_putN hy 8 (N 6 0) r rfl rfl (by decide) rfl (by omega) (fun M hy => ?_)⟩
  refine y_get hy 10 20 60 rfl rfl ⟨hin, y_putZ hy 10 (N 6 0) z rfl rfl (fun M hy => ?_)⟩
  refine y_get hy 11 20 60 rfl rfl ⟨hin, y_putN hy 11 (N 6 0) l rfl rfl (by decide) rfl (by omega) (fun M hy => ?_)⟩
  have hy : yR am ar M (akB N v7 r l) (uz Z 10 (N 6 0) z) := hy
  refine y_get hy 21 20 6 rfl rfl ⟨hir, ?_⟩
  have ag : ∀ k j, ¬ (k = 6 ∨ k = 7 ∨ k = 8 ∨ k = 11) → akB N v7 r l k j = N k j := fun k j hk => by
    have : ¬ k = 6 ∧ ¬ k = 7 ∧ ¬ k = 8 ∧ ¬ k = 11 := by omega
    simp [akB, un, this]
  rw [hy.rr 21 r rfl (by omega), l0, n_kn (hy.b30 _ _), ag 21 r (by decide)]
  have w119 : ∀ u0 : Int32, (u0 = 0 ∧ N 21 r = 0) ∨ (u0 = 1 ∧ 0 < N 21 r) → ¬ (v7 = 0 ∧ 0 < N 21 r ∧ N 5 0 - N 25 r < N 24 r) → w_Y_ask_119 post M am (nI r) (nI v7) z (nI l) (nI (N 6 0)) u0 := by
    intro u0 hu hf
    unfold w_Y_ask_119
    simp only [n_cl (show N 6 0 < 2 ^ 31 by omega), n_cl (show r < 2 ^ 31 by omega)]
    rw [hy.sc 37 rfl, l0, n_eq (hy.b _ _) (by omega), ag 37 0 (by decide)]
    refine ⟨hy.T, n_ite (fun h37 => ?_) (fun h37 => ?_)⟩
    · refine y_get hy 15 20 60 rfl rfl ⟨hin, y_putN hy 15 (N 6 0) 1 rfl rfl (by decide) rfl (by omega) (fun M hy => ?_)⟩
      refine y_get hy 13 20 60 rfl rfl ⟨hin, y_putN hy 13 (N 6 0) (N 5 0) rfl rfl (by decide) ((hy.sc 5 rfl).trans (by simp [un, akB])) (hy0.b30 _ _) (fun M hy => ?_)⟩
      have fin : ∀ (M' : zM) (x6 : Int32), yR am ar M' (un (un (un (akB N v7 r l) 15 (N 6 0) 1) 13 (N 6 0) (N 5 0)) 12 (N 6 0) (if 0 < N 21 r then N 22 r else 0)) (uz (uz Z 10 (N 6 0) z) 14 (N 6 0) (if 0 < N 21 r then Z 23 r else 0)) → w_Y_ask_201 post M' am (nI r) (nI v7) z (nI l) (nI (N 6 0)) x6 := by
        intro M' x6 hy'
        refine K M' ?_
        unfold akN akZ
        rw [if_neg hf, if_neg hf, if_pos h37, if_pos h37]
        exact hy'
      rcases hu with ⟨rfl, hu⟩ | ⟨rfl, hu⟩
      · rw [if_neg (by omega), if_neg (by omega)] at fin
        refine n_yes rfl ?_
        unfold w_Y_ask_178 w_Y_ask_200
        simp only [n_cl (show N 6 0 < 2 ^ 31 by omega), n_cl (show r < 2 ^ 31 by omega)]
        refine y_get hy 12 20 60 rfl rfl ⟨hin, y_putN hy 12 (N 6 0) 0 rfl rfl (by decide) rfl (by omega) (fun M hy => ⟨hy.T, n_yes trivial ?_⟩)⟩
        exact y_get hy 14 20 60 rfl rfl ⟨hin, y_putZ hy 14 (N 6 0) 0 rfl rfl (fun M hy => fin M _ hy)⟩
      · rw [if_pos hu, if_pos hu] at fin
        refine n_not (by decide) (y_get hy 22 20 6 rfl rfl ⟨hir, ?_⟩)
        unfold w_Y_ask_178 w_Y_ask_200
        simp only [n_cl (show N 6 0 < 2 ^ 31 by omega), n_cl (show r < 2 ^ 31 by omega)]
        refine y_get hy 12 20 60 rfl rfl ⟨hin, y_putN hy 12 (N 6 0) (N 22 r) rfl rfl (by decide) ((hy.rn 22 r rfl rfl (by decide)).trans (by simp [un, akB])) (hy0.b30 _ _) (fun M hy => ⟨hy.T, n_not (by decide) (y_get hy 23 20 6 rfl rfl ⟨hir, ?_⟩)⟩)⟩
        rw [show zI M (ar 23) r = Z 23 r from (hy.rz 23 r rfl rfl).trans (by simp [uz])]
        exact y_get hy 14 20 60 rfl rfl ⟨hin, y_putZ hy 14 (N 6 0) (Z 23 r) rfl rfl (fun M hy => fin M _ hy)⟩
    · refine y_get hy 9 20 60 rfl rfl ⟨hin, y_putN hy 9 (N 6 0) 7 rfl rfl (by decide) rfl (by omega) (fun M hy => K M ?_)⟩
      unfold akN akZ
      rw [if_neg hf, if_neg hf, if_neg h37, if_neg h37]
      exact hy
  unfold w_Y_ask_63
  simp only [n_cl (show N 6 0 < 2 ^ 31 by omega), n_cl (show r < 2 ^ 31 by omega)]
  rw [show (nI v7 = (0 : Int32)) = (v7 = 0) from propext (n_eq (b := 0) (by omega) (by omega))]
  refine n_ite (fun h0 => n_ite (fun hv => n_yes rfl (w119 _ (Or.inl ⟨rfl, h0⟩) (fun z => by omega))) (fun hv => w119 _ (Or.inl ⟨rfl, h0⟩) (fun z => by omega))) (fun h0 => n_ite (fun hv => n_not (by decide) ⟨hy.T, y_get hy 25 20 6 rfl rfl ⟨hir, y_get hy 24 20 6 rfl rfl ⟨hir, ?_⟩⟩⟩) (fun hv => w119 _ (Or.inr ⟨rfl, by omega⟩) (fun z => by omega)))
  rw [hy.rn 24 r rfl rfl (by decide), hy.rn 25 r rfl rfl (by decide), hy.sc 5 rfl, ag 24 r (by decide), ag 25 r (by decide), ag 5 0 (by decide), n_sub (h25 (by omega)), n_le (hy0.b _ _) (by have := hy0.b 5 0; omega)]
  refine n_ite (fun hc => w119 _ (Or.inr ⟨rfl, by omega⟩) (fun z => by omega)) (fun hc => y_get hy 9 20 60 rfl rfl ⟨hin, y_putN hy 9 (N 6 0) 8 rfl rfl (by decide) rfl (by omega) (fun M hy => y_get hy 23 20 6 rfl rfl ⟨hir, y_get hy 14 20 60 rfl rfl ⟨hin, ?_⟩⟩)⟩)
  rw [show zI M (ar 23) r = Z 23 r from (hy.rz 23 r rfl rfl).trans (by simp [uz])]
  refine y_putZ hy 14 (N 6 0) (Z 23 r) rfl rfl (fun M hy => K M ?_)
  unfold akN akZ
  rw [if_pos ⟨hv, by omega, by omega⟩, if_pos ⟨hv, by omega, by omega⟩]
  exact hy
theorem c_fresh0 {V : Nat → Nat → Prop} {ad : Nat → Nat → Nat} {M : zM} {D : Nat → Nat → Nat → Int32} {E : Nat → Nat → Nat → Option Nat} (h : zX V ad M D E) {post : Int32 → zM → Prop} {r : Nat} {x : Int32} (hr : r < 6) (h0 : D 6 r 0 = 0) (K : post 0 M) : w_K_isFresh M (ad 6 r) x post := by
  unfold w_K_isFresh
  rw [h.I (h.v6 hr), h0]
  exact ⟨h.T (h.v6 hr), n_yes rfl K⟩
theorem co_make {ad : Nat → Nat → Nat} {M : zM} {D : Nat → Nat → Nat → Int32} {E : Nat → Nat → Nat → Option Nat} {qa : Nat → Nat} {c : Nat} {N : Nat → Nat → Nat} {Z : Nat → Nat → Int32} {k : Nat} (hb : ∀ k j, N k j < 1073741824) (hc : cR ad M D E qa c N Z) (hj : jI k N) {post : Int32 → zM → Prop} {v7 r l : Nat} {z : Int32} (hn : N 6 0 < 60) (hr : r < 6) (hv7 : v7 ≤ 1) (K : ∀ ad' M' D' E', ad' 8 0 = ad 8 0 → cR ad' M' D' E' qa c (akN N v7 r l) (akZ N Z v7 r z) → post (nI (N 6 0)) M') : w_X_makeRequest M (ad 8 0) (nI r) (nI v7) z (nI l) post := by
  have hc' := hc
  obtain ⟨hX, hS, hO, hK, hQ, hA, hT, hF, hL, hE⟩ := hc
  obtain ⟨jq, jr, jw, jk, jk2⟩ := hj
  obtain ⟨r9, r12, r13, r15, r16⟩ := jr.2.2.2 (N 6 0) (Nat.le_refl _)
  unfold w_X_makeRequest
  refine ⟨hX.T hX.v8, c_ref hX hX.v8 hX.e81 ⟨hX.T hX.v1, c_storedAt hX hr (n_noO rfl ⟨hX.T hX.v8, c_arr hX hX.v8 hX.v17 hX.e83 rfl ?_⟩)⟩⟩
  rw [hX.I hX.v8, hS.1.1]
  refine n_yes (by rw [n_lt (by omega) (by omega)]; exact hn) (fun q hq M1 hM1 => ?_)
  subst hM1
  have hnv : ¬ cV N 3 (N 6 0) := by simp [cV]
  have hX1 := zX_new hX (a := 3) (n := N 6 0) (q := q) (by omega) hnv hq
  have hA' : ∀ k i, ¬ (k = 3 ∧ i = N 6 0) → ad1 ad 3 (N 6 0) q k i = ad k i := fun k i h => ad1_o h
  have h3 : ad1 ad 3 (N 6 0) q 3 (N 6 0) = q := ad1_s
  generalize ad1 ad 3 (N 6 0) q = ad' at hX1 hA' h3
  rw [← hA' 8 0 (by omega), ← hA' 6 r (by omega), ← h3]
  have hV : V1 (cV N) 3 (N 6 0) 3 (N 6 0) := Or.inr ⟨rfl, rfl⟩
  have hV6 := hX1.v6 hr
  rw [h3, show (3, 12) = ct 3 from rfl, hX1.I hX1.v8, D1_o (by omega), hS.1.1, ← h3]
  have hX1 : zX (V1 (cV N) 3 (N 6 0)) ad' (znw M (ad' 3 (N 6 0)) (ct 3)) (D1 D 3 (N 6 0)) (E1 E 3 (N 6 0)) := by rw [h3]; exact hX1
  refine ⟨hX1.T hX1.v8, hX1.T hV, ?_⟩
  refine c_setI hX1 hV 0 rfl (fun M1 hX1 => c_setI hX1 hV 1 rfl (fun M1 hX1 => ⟨by rcases (show v7 = 0 ∨ v7 = 1 by omega) with rfl | rfl; exact Or.inl rfl; exact Or.inr rfl, c_setI hX1 hV 2 rfl (fun M1 hX1 => c_setI hX1 hV 3 rfl (fun M1 hX1 => c_setI hX1 hV 4 rfl (fun M1 hX1 => c_setI hX1 hV 5 rfl (fun M1 hX1 => c_setI hX1 hV 9 rfl (fun M1 hX1 => ?_)))))⟩))
  have dO : ∀ k i j, ¬ (k = 3 ∧ i = N 6 0) → u3 (u3 (u3 (u3 (u3 (u3 (u3 (D1 D 3 (N 6 0)) 3 (N 6 0) 0 (nI (N 6 0))) 3 (N 6 0) 1 (nI r)) 3 (N 6 0) 2 (nI v7)) 3 (N 6 0) 3 z) 3 (N 6 0) 4 (nI l)) 3 (N 6 0) 5 0) 3 (N 6 0) 9 0 k i j = D k i j := fun k i j h => by simp only [u3_o h, D1_o h]
  have dI : ∀ j, u3 (u3 (u3 (u3 (u3 (u3 (u3 (D1 D 3 (N 6 0)) 3 (N 6 0) 0 (nI (N 6 0))) 3 (N 6 0) 1 (nI r)) 3 (N 6 0) 2 (nI v7)) 3 (N 6 0) 3 z) 3 (N 6 0) 4 (nI l)) 3 (N 6 0) 5 0) 3 (N 6 0) 9 0 3 (N 6 0) j = if j = 0 then nI (N 6 0) else if j = 1 then nI r else if j = 2 then nI v7 else if j = 3 then z else if j = 4 then nI l else 0 := fun j => by
    simp only [u3, D1, true_and, if_true]
    by_cases e0 : j = 0
    · subst e0; simp
    by_cases e1 : j = 1
    · subst e1; simp
    by_cases e2 : j = 2
    · subst e2; simp
    by_cases e3 : j = 3
    · subst e3; simp
    by_cases e4 : j = 4
    · subst e4; simp
    simp [e0, e1, e2, e3, e4]
  generalize u3 (u3 (u3 (u3 (u3 (u3 (u3 (D1 D 3 (N 6 0)) 3 (N 6 0) 0 (nI (N 6 0))) 3 (N 6 0) 1 (nI r)) 3 (N 6 0) 2 (nI v7)) 3 (N 6 0) 3 z) 3 (N 6 0) 4 (nI l)) 3 (N 6 0) 5 0) 3 (N 6 0) 9 0 = A at hX1 dO dI
  obtain ⟨f1, f2, f3, f4, f5, f6⟩ := ak_facts N v7 r l
  obtain ⟨g1, g2, g3⟩ := akZ_facts N Z v7 r z
  have fin : ∀ (M2 : zM) (B : Nat → Nat → Nat → Int32), zX (V1 (cV N) 3 (N 6 0)) ad' M2 B (E1 E 3 (N 6 0)) → (∀ k i j, ¬ (k = 3 ∧ i = N 6 0) → B k i j = D k i j) → (∀ j, j < 5 → B 3 (N 6 0) j = A 3 (N 6 0) j) → (B 3 (N 6 0) 5 = nI (akN N v7 r l 12 (N 6 0)) ∧ B 3 (N 6 0) 6 = nI (akN N v7 r l 13 (N 6 0))) → (B 3 (N 6 0) 8 = (if akN N v7 r l 15 (N 6 0) = 1 then 1 else 0)) → (B 3 (N 6 0) 9 = nI (akN N v7 r l 9 (N 6 0))) → (B 3 (N 6 0) 10 = (if akN N v7 r l 9 (N 6 0) = 1 ∨ akN N v7 r l 9 (N 6 0) = 2 ∨ akN N v7 r l 9 (N 6 0) = 8 then akZ N Z v7 r z 14 (N 6 0) else 0)) → (akN N v7 r l 9 (N 6 0) = 0 → B 3 (N 6 0) 7 = akZ N Z v7 r z 14 (N 6 0)) → zT M2 (ad' 8 0) = some (8, 6) ∧ ∃ b27, zR M2 (ad' 8 0) 3 = some b27 ∧ ∃ n30, zT M2 b27 = some (22, n30) ∧ zT M2 (ad' 3 (N 6 0)) = some (3, 12) ∧ vp_in (zI M2 (ad' 8 0) 4) n30 ∧ ∀ M33, M33 = zwR M2 b27 (zI M2 (ad' 8 0) 4).toNatClampNeg (some (ad' 3 (N 6 0))) → ∀ M36, M36 = zwI M33 (ad' 8 0) 4 ((zI M33 (ad' 8 0) 4) + (1 : Int32)) → post (zI M36 (ad' 3 (N 6 0)) 0) M36 := by
    intro M2 B hX2 hBo hB5 hB56 hB8 hB9 hB10 hB7
    rw [hX2.I hX2.v8, hBo 8 0 4 (by omega), hS.1.1, n_cl (by omega)]
    refine ⟨hX2.T hX2.v8, c_arr hX2 hX2.v8 hX2.v17 hX2.e83 rfl ⟨hX2.T hV, (n_in (by omega) (by omega)).mpr hn, fun M3 hM3 => ?_⟩⟩
    subst hM3
    have hX3 := hX2.wR hX2.v17 (N 6 0) (some (ad' 3 (N 6 0))) (by omega)
    rw [hX3.I hX3.v8, hBo 8 0 4 (by omega), hS.1.1, l1, n_add]
    refine c_setI hX3 hX3.v8 4 rfl (fun M4 hX4 => ?_)
    rw [hX4.I hV, u3_o (by omega), hB5 0 (by omega), dI 0]
    refine K ad' M4 _ _ (hA' 8 0 (by omega)) (ak_rel (n := N 6 0) rfl r16 f1 f2 f3 g1 g2 (fun k i j h1 h2 => ?_) ?_ (fun k i j h1 h2 => ?_) ?_ ?_ hA' ?_ hc' hX4)
    · rw [u3_n _ _ h2, hBo k i j h1]
    · simp [u3]
    · rw [e3_n _ _ h2, E1_o h1]
    · simp [e3]
    · rw [e3_o (by omega), E1_s]
    · rw [f4, f5, f6, g3]
      simp only [u3_o (show ¬ (3 = 8 ∧ N 6 0 = 0) by omega)]
      rw [hB5 0 (by omega), hB5 1 (by omega), hB5 2 (by omega), hB5 3 (by omega), hB5 4 (by omega), dI, dI, dI, dI, dI]
      exact ⟨⟨rfl, rfl, rfl, rfl, rfl, hB56.1, hB56.2⟩, hB8, hB9, hB10, hB7⟩
  refine ⟨hX1.T hX1.v8, c_ref hX1 hX1.v8 hX1.e81 ⟨hX1.T hX1.v1, ?_⟩⟩
  rw [hX1.I hX1.v8, dO 8 0 5 (by omega), hS.1.2]
  have b37 := hb 37 0
  have A6 : ∀ j, A 6 r j = D 6 r j := fun j => dO 6 r j (by omega)
  have ask : ¬ (v7 = 0 ∧ 0 < N 21 r ∧ N 5 0 - N 25 r < N 24 r) → N 37 0 = 0 → ∀ M8 : zM, zX (V1 (cV N) 3 (N 6 0)) ad' M8 (u3 (u3 A 3 (N 6 0) 6 (nI (N 5 0))) 3 (N 6 0) 8 1) (E1 E 3 (N 6 0)) → zT M8 (ad' 6 r) = some (6, 6) ∧ ((zI M8 (ad' 6 r) 0 = 0 → (fun M25 => zT M25 (ad' 8 0) = some (8, 6) ∧ ∃ b27, zR M25 (ad' 8 0) 3 = some b27 ∧ ∃ n30, zT M25 b27 = some (22, n30) ∧ zT M25 (ad' 3 (N 6 0)) = some (3, 12) ∧ vp_in (zI M25 (ad' 8 0) 4) n30 ∧ ∀ M33, M33 = zwR M25 b27 (zI M25 (ad' 8 0) 4).toNatClampNeg (some (ad' 3 (N 6 0))) → ∀ M36, M36 = zwI M33 (ad' 8 0) 4 ((zI M33 (ad' 8 0) 4) + (1 : Int32)) → post (zI M36 (ad' 3 (N 6 0)) 0) M36) M8) ∧ (¬ (zI M8 (ad' 6 r) 0 = 0) → ∀ M35, M35 = zwI M8 (ad' 3 (N 6 0)) 5 (zI M8 (ad' 6 r) 1) → ∀ M39, M39 = zwI M35 (ad' 3 (N 6 0)) 7 (zI M35 (ad' 6 r) 2) → (fun M25 => zT M25 (ad' 8 0) = some (8, 6) ∧ ∃ b27, zR M25 (ad' 8 0) 3 = some b27 ∧ ∃ n30, zT M25 b27 = some (22, n30) ∧ zT M25 (ad' 3 (N 6 0)) = some (3, 12) ∧ vp_in (zI M25 (ad' 8 0) 4) n30 ∧ ∀ M33, M33 = zwR M25 b27 (zI M25 (ad' 8 0) 4).toNatClampNeg (some (ad' 3 (N 6 0))) → ∀ M36, M36 = zwI M33 (ad' 8 0) 4 ((zI M33 (ad' 8 0) 4) + (1 : Int32)) → post (zI M36 (ad' 3 (N 6 0)) 0) M36) M39)) := by
    intro hf h37 M8 hX8
    have eN : akN N v7 r l = un (un (un (akB N v7 r l) 15 (N 6 0) 1) 13 (N 6 0) (N 5 0)) 12 (N 6 0) (if 0 < N 21 r then N 22 r else 0) := by unfold akN; rw [if_neg hf, if_pos h37]
    have eZ : akZ N Z v7 r z = uz (uz Z 10 (N 6 0) z) 14 (N 6 0) (if 0 < N 21 r then Z 23 r else 0) := by unfold akZ; rw [if_neg hf, if_pos h37]
    have e12 : akN N v7 r l 12 (N 6 0) = if 0 < N 21 r then N 22 r else 0 := by rw [eN]; simp [un]
    have e13 : akN N v7 r l 13 (N 6 0) = N 5 0 := by rw [eN]; simp [un]
    have e15 : akN N v7 r l 15 (N 6 0) = 1 := by rw [eN]; simp [un]
    have e9 : akN N v7 r l 9 (N 6 0) = 0 := by rw [eN]; simp [un, akB]; exact r9
    have e14 : akZ N Z v7 r z 14 (N 6 0) = if 0 < N 21 r then Z 23 r else 0 := by rw [eZ]; simp [uz]
    rw [e12, e13, e15, e9, e14] at fin
    rw [hX8.I hV6, u3_o (by omega), u3_o (by omega), A6]
    refine ⟨hX8.T hV6, ?_⟩
    rcases Nat.eq_zero_or_pos (N 21 r) with h0 | h0
    · rw [(hK r hr).1 h0]
      rw [if_neg (show ¬ 0 < N 21 r by omega), if_neg (show ¬ 0 < N 21 r by omega)] at fin
      refine n_yes rfl (fin M8 _ hX8 (fun k i j h => by rw [u3_o h, u3_o h, dO k i j h]) (fun j hj => by simp [u3, show ¬ j = 6 by omega, show ¬ j = 8 by omega]) ⟨?_, ?_⟩ ?_ ?_ ?_ (fun _ => ?_))
      · simp [u3, dI]; rfl
      · simp [u3]
      · simp [u3]
      · simp [u3, dI]; rfl
      · simp [u3, dI]
      · simp [u3, dI]
    · obtain ⟨k0, k1, k2, -⟩ := (hK r hr).2 h0
      rw [k0]
      rw [if_pos h0, if_pos h0] at fin
      refine n_not (by decide) ?_
      refine c_setI hX8 hV 5 (v := nI (N 22 r)) ((hX8.I hV6 1).trans (by rw [u3_o (by omega), u3_o (by omega), A6, k1])) (fun M9 hX9 => ?_)
      refine c_setI hX9 hV 7 (v := Z 23 r) ((hX9.I hV6 2).trans (by rw [u3_o (by omega), u3_o (by omega), u3_o (by omega), A6, k2])) (fun M10 hX10 => ?_)
      refine fin M10 _ hX10 (fun k i j h => by rw [u3_o h, u3_o h, u3_o h, u3_o h, dO k i j h]) (fun j hj => by simp [u3, show ¬ j = 6 by omega, show ¬ j = 8 by omega, show ¬ j = 5 by omega, show ¬ j = 7 by omega]) ⟨?_, ?_⟩ ?_ ?_ ?_ (fun _ => ?_)
      · simp [u3]
      · simp [u3]
      · simp [u3]
      · simp [u3, dI]; rfl
      · simp [u3, dI]
      · simp [u3]
  have gone : ¬ (v7 = 0 ∧ 0 < N 21 r ∧ N 5 0 - N 25 r < N 24 r) → ¬ N 37 0 = 0 → w_Q_settle M1 (ad' 3 (N 6 0)) 7 0 (fun M25 => zT M25 (ad' 8 0) = some (8, 6) ∧ ∃ b27, zR M25 (ad' 8 0) 3 = some b27 ∧ ∃ n30, zT M25 b27 = some (22, n30) ∧ zT M25 (ad' 3 (N 6 0)) = some (3, 12) ∧ vp_in (zI M25 (ad' 8 0) 4) n30 ∧ ∀ M33, M33 = zwR M25 b27 (zI M25 (ad' 8 0) 4).toNatClampNeg (some (ad' 3 (N 6 0))) → ∀ M36, M36 = zwI M33 (ad' 8 0) 4 ((zI M33 (ad' 8 0) 4) + (1 : Int32)) → post (zI M36 (ad' 3 (N 6 0)) 0) M36) := by
    intro hf h37
    have eN : akN N v7 r l = un (akB N v7 r l) 9 (N 6 0) 7 := by unfold akN; rw [if_neg hf, if_neg h37]
    have e12 : akN N v7 r l 12 (N 6 0) = 0 := by rw [eN]; simp [un, akB]; exact r12
    have e13 : akN N v7 r l 13 (N 6 0) = 0 := by rw [eN]; simp [un, akB]; exact r13
    have e15 : akN N v7 r l 15 (N 6 0) = 0 := by rw [eN]; simp [un, akB]; exact r15
    have e9 : akN N v7 r l 9 (N 6 0) = 7 := by rw [eN]; simp [un]
    rw [e12, e13, e15, e9] at fin
    refine c_settle hX1 hV (fun M2 hX2 => fin M2 _ hX2 (fun k i j h => by rw [u3_o h, u3_o h, dO k i j h]) (fun j hj => by simp [u3, show ¬ j = 9 by omega, show ¬ j = 10 by omega]) ⟨?_, ?_⟩ ?_ ?_ ?_ (fun z => by omega))
    · simp [u3, dI]; rfl
    · simp [u3, dI]; rfl
    · simp [u3, dI]
    · simp [u3]; rfl
    · simp [u3]
  have e37 : zI M1 (ad' 1 0) 3 = nI (N 37 0) := by rw [hX1.I hX1.v1, dO 1 0 3 (by omega)]; exact hS.2.2.1.2
  unfold w_C_begin
  rw [hX1.I hV, show A 3 (N 6 0) 2 = nI v7 from dI 2, e37, l0, n_eq (by omega) (by omega), n_eq (by omega) (by omega)]
  refine ⟨hX1.T hV, n_ite (fun h7 => ⟨hX1.T hV6, ?_⟩) (fun h7 => ⟨hX1.T hX1.v1, n_ite (fun h37 => ?_) (fun h37 => gone (fun z => h7 z.1) h37)⟩)⟩
  · have cond : ¬ (v7 = 0 ∧ 0 < N 21 r ∧ N 5 0 - N 25 r < N 24 r) → ¬ (v7 = 0 ∧ 0 < N 21 r ∧ N 5 0 - N 25 r < N 24 r) := id
    rcases Nat.eq_zero_or_pos (N 21 r) with h0 | h0
    · refine c_fresh0 hX1 hr (by rw [A6, (hK r hr).1 h0]) (n_yes rfl ?_)
      rw [e37, n_eq (by omega) (by omega)]
      have hf := cond (fun z => by omega)
      exact ⟨hX1.T hX1.v1, n_ite (fun h37 => ⟨hX1.T hV, c_setI hX1 hV 6 rfl (fun M2 hX2 => c_setI hX2 hV 8 rfl (fun M3 hX3 => ask hf h37 M3 hX3))⟩) (fun h37 => ⟨hX1.T hV, gone hf h37⟩)⟩
    · obtain ⟨k0, k1, k2, k3, k4, k5⟩ := (hK r hr).2 h0
      have b5 := hb 5 0
      refine c_fresh hX1 hr (l := N 24 r) (s := N 25 r) (t := N 5 0) (by rw [A6, k0]) (by rw [A6, k3]) (by rw [A6, k4]) ((jk2 r hr).2.2.2.2 h0).2.2 (by omega) (hb _ _) ?_
      by_cases hf : N 5 0 - N 25 r < N 24 r
      · rw [show decide (N 5 0 - N 25 r < N 24 r) = true by simp [hf]]
        refine n_not (by decide) ⟨hX1.T hV6, hX1.T hV, ?_⟩
        have hf' : v7 = 0 ∧ 0 < N 21 r ∧ N 5 0 - N 25 r < N 24 r := ⟨h7, h0, hf⟩
        have eN : akN N v7 r l = un (akB N v7 r l) 9 (N 6 0) 8 := by unfold akN; rw [if_pos hf']
        have e12 : akN N v7 r l 12 (N 6 0) = 0 := by rw [eN]; simp [un, akB]; exact r12
        have e13 : akN N v7 r l 13 (N 6 0) = 0 := by rw [eN]; simp [un, akB]; exact r13
        have e15 : akN N v7 r l 15 (N 6 0) = 0 := by rw [eN]; simp [un, akB]; exact r15
        have e9 : akN N v7 r l 9 (N 6 0) = 8 := by rw [eN]; simp [un]
        have e14 : akZ N Z v7 r z 14 (N 6 0) = Z 23 r := by unfold akZ; rw [if_pos hf']; simp [uz]
        rw [e12, e13, e15, e9, e14] at fin
        rw [hX1.I hV6, A6, k2]
        refine c_settle hX1 hV (fun M2 hX2 => fin M2 _ hX2 (fun k i j h => by rw [u3_o h, u3_o h, dO k i j h]) (fun j hj => by simp [u3, show ¬ j = 9 by omega, show ¬ j = 10 by omega]) ⟨?_, ?_⟩ ?_ ?_ ?_ (fun z => by omega))
        · simp [u3, dI]; rfl
        · simp [u3, dI]; rfl
        · simp [u3, dI]
        · simp [u3]; rfl
        · simp [u3]
      · rw [show decide (N 5 0 - N 25 r < N 24 r) = false by simp; omega]
        refine n_yes rfl ?_
        rw [e37, n_eq (by omega) (by omega)]
        have hf := cond (fun z => hf z.2.2)
        exact ⟨hX1.T hX1.v1, n_ite (fun h37 => ⟨hX1.T hV, c_setI hX1 hV 6 rfl (fun M2 hX2 => c_setI hX2 hV 8 rfl (fun M3 hX3 => ask hf h37 M3 hX3))⟩) (fun h37 => ⟨hX1.T hV, gone hf h37⟩)⟩
  · exact c_setI hX1 hV 6 rfl (fun M2 hX2 => c_setI hX2 hV 8 rfl (fun M3 hX3 => ask (fun z => h7 z.1) h37 M3 hX3))
theorem op_make {k ax am : Nat} {M1 M2 : zM} (hJ : zJ k ax am M1 M2) (hk : k < 512) {v7 r l : Nat} {z : Int32} (hr : r < 6) (hv7 : v7 ≤ 1) (hl : l ≤ 1000) {Y : (Int32 → zM → Prop) → Prop} (hY : ∀ post : Int32 → zM → Prop, ((60 : Int32) ≤ zI M2 am 6 → post (-1) M2) ∧ (¬ ((60 : Int32) ≤ zI M2 am 6) → w_Y_ask M2 am (nI r) (nI v7) z (nI l) post) → Y post) : w_X_makeRequest M1 ax (nI r) (nI v7) z (nI l) (fun v M1' => Y (fun v' M2' => v = v' ∧ zJ (k + 1) ax am M1' M2')) := by
  have hJ0 := hJ
  obtain ⟨ad, ar, D, E, qa, c, N, Z, rfl, hy, hcR, hjI⟩ := hJ
  have n60 := hjI.2.2.2.1.1
  rcases Nat.lt_or_ge (N 6 0) 60 with hn | hn
  · obtain ⟨f1, f2, f3, f4, f5, f6⟩ := ak_facts N v7 r l
    obtain ⟨r9, r12, r13, r15, r16⟩ := hjI.2.1.2.2.2 (N 6 0) (Nat.le_refl _)
    refine co_make hy.b30 hcR hjI hn hr hv7 (fun ad' M1' D' E' h8 hc2 => hY _ ?_)
    rw [hy.sc 6 rfl, l60, n_le (by omega) (by omega)]
    refine n_not (by omega) (yo_ask hy hn hr hv7 hl (fun h0 => (hjI.2.2.2.2 r hr).2.2.2.2 h0 |>.2.2) (fun M2' hy2 => ⟨rfl, ad', ar, D', E', qa, c, _, _, h8.symm, hy2, hc2, jI_up (ak_J rfl hn f1 f2 f3 (by omega) (by omega) ?_ ?_ ?_ ?_ (by omega) hjI)⟩))
    all_goals
      unfold akN akB
      split
      · simp [un]; try omega
      · split <;> simp [un] <;> try omega
  · have hX := hcR.1
    unfold w_X_makeRequest
    refine ⟨hX.T hX.v8, c_ref hX hX.v8 hX.e81 ⟨hX.T hX.v1, c_storedAt hX hr (n_noO rfl ⟨hX.T hX.v8, c_arr hX hX.v8 hX.v17 hX.e83 rfl ?_⟩)⟩⟩
    rw [hX.I hX.v8, hcR.2.1.1.1]
    refine n_not (by rw [n_lt (by omega) (by omega)]; omega) (hY _ ?_)
    rw [hy.sc 6 rfl, l60, n_le (by omega) (by omega)]
    exact n_yes hn ⟨rfl, zJ_skip hJ0 hk⟩
theorem op_get (k ax am : Nat) (M1 M2 : zM) (hJ : zJ k ax am M1 M2) (y1 : Int32) (hk : k < 512) : w_X_get M1 ax y1 (fun v M1' => w_Y_get M2 am y1 (fun v' M2' => v = v' ∧ zJ (k + 1) ax am M1' M2')) := by
  unfold w_X_get
  refine ⟨zJ_x hJ, ?_⟩
  rcases n_ix y1 (n := 6) (by omega) with hx | ⟨r, hr, rfl⟩
  · have hJ0 := hJ
    obtain ⟨ad, ar, D, E, qa, c, N, Z, rfl, hy, hcR, hjI⟩ := hJ
    have hX := hcR.1
    unfold w_X_makeRequest
    refine ⟨hX.T hX.v8, c_ref hX hX.v8 hX.e81 ⟨hX.T hX.v1, c_storedAt0 hX hx (n_yesO rfl ?_)⟩⟩
    unfold w_Y_get
    exact y_wout (n := 6) rfl hx (by omega) (n_yes rfl ⟨rfl, zJ_skip hJ0 hk⟩)
  · exact op_make (v7 := 0) (l := 0) (z := 0) hJ hk hr (by omega) (by omega) (fun post h => by
      unfold w_Y_get
      exact y_win (n := 6) rfl hr (by omega) (n_not (by decide) ⟨zJ_m hJ, h⟩))
theorem op_replace (k ax am : Nat) (M1 M2 : zM) (hJ : zJ k ax am M1 M2) (y1 y2 y3 : Int32) (hk : k < 512) : w_X_replace M1 ax y1 y2 y3 (fun v M1' => w_Y_replace M2 am y1 y2 y3 (fun v' M2' => v = v' ∧ zJ (k + 1) ax am M1' M2')) := by
  unfold w_X_replace w_X_isLifetime
  rcases n_ix y3 (n := 1001) (by omega) with h3 | ⟨l, hl, rfl⟩
  · have yno : w_Y_replace M2 am y1 y2 y3 (fun v' M2' => (-1 : Int32) = v' ∧ zJ (k + 1) ax am M1 M2') := by
      unfold w_Y_replace
      rcases n_ix y1 (n := 6) (by omega) with hx | ⟨r, hr, rfl⟩
      · exact y_wout (n := 6) rfl hx (by omega) (n_yes rfl ⟨rfl, zJ_skip hJ hk⟩)
      · exact y_win (n := 6) rfl hr (by omega) (n_not (by decide) (y_wout (n := 1001) rfl h3 (by omega) (n_yes rfl ⟨rfl, zJ_skip hJ hk⟩)))
    refine n_ite (fun _ => n_yes rfl yno) (fun h0 => n_yes ?_ (n_yes rfl yno))
    have h0' := Int32.not_lt.mp h0
    have h1 : ¬ y3 < nI 1001 := fun z => h3 ⟨h0', z⟩
    rw [Int32.lt_iff_toInt_lt, nI_toInt (by omega)] at h1
    rw [l1000, Int32.lt_iff_toInt_lt, nI_toInt (by omega)]
    omega
  · refine n_not (by rw [l0, n_lt (by omega) (by omega)]; omega) (n_not (by rw [l1000, n_lt (by omega) (by omega)]; omega) (n_not (by decide) ⟨zJ_x hJ, ?_⟩))
    rcases n_ix y1 (n := 6) (by omega) with hx | ⟨r, hr, rfl⟩
    · have hJ0 := hJ
      obtain ⟨ad, ar, D, E, qa, c, N, Z, rfl, hy, hcR, hjI⟩ := hJ
      have hX := hcR.1
      unfold w_X_makeRequest
      refine ⟨hX.T hX.v8, c_ref hX hX.v8 hX.e81 ⟨hX.T hX.v1, c_storedAt0 hX hx (n_yesO rfl ?_)⟩⟩
      unfold w_Y_replace
      exact y_wout (n := 6) rfl hx (by omega) (n_yes rfl ⟨rfl, zJ_skip hJ0 hk⟩)
    · exact op_make (v7 := 1) (l := l) (z := y2) hJ hk hr (by omega) (by omega) (fun post h => by
        unfold w_Y_replace
        exact y_win (n := 6) rfl hr (by omega) (n_not (by decide) (y_win (n := 1001) rfl hl (by omega) (n_not (by decide) ⟨zJ_m hJ, h⟩))))
