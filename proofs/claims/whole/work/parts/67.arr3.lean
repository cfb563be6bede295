def FS (q : Nat) (v : Nat → Int32) : Nat → Nat → (Nat → Nat → Nat) → (Nat → Nat → Int32) → (Nat → Nat → Nat) → (Nat → Nat → Int32) → Prop
  | 0, _, N, Z, N', Z' => N' = N ∧ Z' = Z
  | n + 1, m, N, Z, N', Z' => ∃ o, fO N Z q m (v m) o ∧ FS q v n (m + 1) (fN N q m o) (fZ N Z (v m) o) N' Z'
def av (N : Nat → Nat → Nat) (Z : Nat → Nat → Int32) (r : Nat) (m : Nat) : Int32 := if m = 0 then nI (N 3 r) else if m = 1 then nI (N 2 r) else Z 1 r
theorem fN_b {N : Nat → Nat → Nat} {q m o C : Nat} (hb : ∀ k j, N k j < 1073741824) (p : pI N q m C) (hm : m < 3) (ho : o ≤ N 28 0 + 1) : ∀ k j, fN N q m o k j < 1073741824 := by
  obtain ⟨⟨p1, p2, p3, p4⟩, p5, ⟨p6, p7, p8⟩, ⟨p9, p10, p11⟩, p12⟩ := p
  unfold fN
  split
  · exact un_b hb (by omega)
  · split
    · exact un_b (un_b hb (by omega)) (by omega)
    · exact un_b (un_b (un_b (un_b hb (by omega)) (by omega)) (by omega)) (by omega)
theorem FS_b {q C : Nat} {v : Nat → Int32} : ∀ {n m : Nat} {N N' : Nat → Nat → Nat} {Z Z' : Nat → Nat → Int32}, FS q v n m N Z N' Z' → m + n ≤ 3 → (∀ k j, N k j < 1073741824) → pI N q m C → (∀ k j, N' k j < 1073741824) ∧ pI N' q (m + n) C ∧ fk q N N' Z Z' := by
  intro n
  induction n with
  | zero =>
    intro m N N' Z Z' h hm hb p
    obtain ⟨rfl, rfl⟩ := h
    exact ⟨hb, p, fk_r _ _ _⟩
  | succ n ih =>
    intro m N N' Z Z' h hm hb p
    obtain ⟨o, hO, h⟩ := h
    obtain ⟨a1, a2, a3⟩ := ih h (by omega) (fN_b hb p (by omega) (fO_le hO)) (pI_step p (by omega) hO)
    exact ⟨a1, by rw [show m + (n + 1) = m + 1 + n by omega]; exact a2, fk_t (fk_f (fO_le hO) (by omega)) a3⟩
section A3
variable {ad : Nat → Nat → Nat} {M M0 : zM} {D D0 : Nat → Nat → Nat → Int32} {E : Nat → Nat → Nat → Option Nat} {qa : Nat → Nat} {c : Nat} {N : Nat → Nat → Nat} {Z : Nat → Nat → Int32}
theorem co_A0 {q C st x qn a2 : Nat} (hv : cR ad M0 D0 E qa c N Z) (hX : zX (cV N) ad M D E) (ho : ∀ k i j, ¬ (k = 5 ∧ i = 0 ∧ j = 3) → D k i j = D0 k i j) (h53 : D 5 0 3 = nI x) (p : pI N q 0 C) (h15 : N 15 q = 0) (hst : 400 ≤ st) (hqn : zT M qn = none) {post : Int32 → zM → Prop} (K : ∀ ad' M' D' E' qa' c', ad' 8 0 = ad 8 0 → cR ad' M' D' E' qa' c' (arN N q st x) Z → post (nI st) M') : w_A_init (znw M qn (0, 10)) qn (nI st) (fun M26 => w_S_takeRequest_72 post M26 (ad 5 0) (ad 3 q) a2 (some qn)) := by
  refine co_init hX p.1.2.2.1 hqn (fun ad' M' D' E' hX' e0 hA hD hD0 hD18 hE hE0 => ?_)
  rw [← e0, ← hA 5 0 (by omega), ← hA 3 q (by omega)]
  have hD' : ∀ k i j, ¬ ((k = 0 ∨ k = 18) ∧ i = q) → ¬ (k = 5 ∧ i = 0 ∧ j = 3) → D' k i j = D0 k i j := fun k i j a1 a2 => by rw [hD k i j a1, ho k i j a2]
  refine co_fin (st := st) (x := x) hv hX' (ar_start hv p hA hD' (by rw [hD0]; rfl) (by rw [hD0]; rfl) hE hE0) p (fk_r _ _ _) h15 (by omega) hA (fun k i j a1 _ _ _ a5 => hD' k i j a1 a5) (by rw [hD 5 0 3 (by omega)]; exact h53) hE ⟨by rw [hD0]; rfl, by rw [hD0]; rfl, by rw [hD0]; rfl, by rw [hD0]; rfl, fun _ z => by omega, fun _ z => by omega⟩ (fun M'' D'' E'' qa' c' hc => K ad' M'' D'' E'' qa' c' (hA 8 0 (by omega)) hc)
theorem co_A1 {q C x qn r : Nat} {a2 : Nat} (hv : cR ad M0 D0 E qa c N Z) (hX : zX (cV N) ad M D E) (ho : ∀ k i j, ¬ (k = 5 ∧ i = 0 ∧ j = 3) → D k i j = D0 k i j) (h53 : D 5 0 3 = nI x) (hb : ∀ k j, N k j < 1073741824) (p : pI N q 0 C) (h15 : N 15 q = 0) (h7 : ¬ N 7 q = 0) (hr : r < 6) (hqn : zT M qn = none) {post : Int32 → zM → Prop} (K : ∀ ad' M' D' E' qa' c' Nm Zm, ad' 8 0 = ad 8 0 → FS q (av N Z r) 1 0 N Z Nm Zm → cR ad' M' D' E' qa' c' (arN Nm q 200 x) Zm → post (nI 200) M') : w_A_init (znw M qn (0, 10)) qn (nI 200) (fun M13 => zT M13 (ad 5 0) = some (5, 6) ∧ zT M13 (ad 4 r) = some (4, 4) ∧ ∃ b16, zR M13 (ad 5 0) 1 = some b16 ∧ zT M13 b16 = some (7, 8) ∧ w_T_putDown M13 b16 qn (0 : Int32) (zI M13 (ad 4 r) 1) (fun M19 => w_S_takeRequest_72 post M19 (ad 5 0) (ad 3 q) a2 (some qn))) := by
  refine co_init hX p.1.2.2.1 hqn (fun ad' M' D' E' hX' e0 hA hD hD0 hD18 hE hE0 => ?_)
  rw [← e0, ← hA 5 0 (by omega), ← hA 3 q (by omega), ← hA 4 r (by omega)]
  have hD' : ∀ k i j, ¬ ((k = 0 ∨ k = 18) ∧ i = q) → ¬ (k = 5 ∧ i = 0 ∧ j = 3) → D' k i j = D0 k i j := fun k i j a1 a2 => by rw [hD k i j a1, ho k i j a2]
  have hV4 := hX'.v4 hr
  have hO := hv.2.2.1 r hr
  refine ⟨hX'.T hX'.v5, hX'.T hV4, c_ref hX' hX'.v5 hX'.e51 ⟨hX'.T hX'.v7, ?_⟩⟩
  rw [hX'.I hV4, hD' 4 r 1 (by omega) (by omega), hO.2.1]
  refine co_put (m := 0) hX' (ar_start hv p hA hD' (by rw [hD0]; rfl) (by rw [hD0]; rfl) hE hE0) hb p (by omega) (fun o M2 D2 hO1 hX2 f2 fr2 => ?_)
  refine co_fin (st := 200) (x := x) hv hX2 f2 (pI_step p (by omega) hO1) (fk_f (fO_le hO1) (by omega)) h15 (by omega) hA (fun k i j a1 a2 a3 a4 a5 => by rw [fr2.1 k i j a1 a2 a3 a4]; exact hD' k i j a1 a5) (by rw [fr2.1 5 0 3 (by omega) (by omega) (by omega) (by omega), hD 5 0 3 (by omega)]; exact h53) hE ⟨by rw [fr2.2 0 (by omega) (by omega), hD0]; rfl, by rw [fr2.2 7 (by omega) (by omega), hD0]; rfl, by rw [fr2.2 8 (by omega) (by omega), hD0]; rfl, by rw [fr2.2 9 (by omega) (by omega), hD0]; rfl, fun z => absurd z h7, fun z => absurd z h7⟩ (fun M'' D'' E'' qa' c' hc => K ad' M'' D'' E'' qa' c' _ _ (hA 8 0 (by omega)) ⟨o, hO1, rfl, rfl⟩ hc)
theorem fr_s {q j : Nat} {v : Int32} {D : Nat → Nat → Nat → Int32} : ∀ k i j', ¬ (k = 0 ∧ i = q ∧ j' = j) → u3 D 0 q j v k i j' = D k i j' := fun k i j' h => u3_n _ _ h
theorem mF_u {V : Nat → Nat → Prop} {q m j : Nat} {w : Int32} (hj : ¬ j = 2 ∧ ¬ j = 3) (h : mF V ad D E qa c N Z q m) : mF V ad (u3 D 0 q j w) E qa c N Z q m := by
  obtain ⟨⟨⟨t1, t2⟩, t3, ⟨t4, t5, t6⟩, t7⟩, ⟨v0, v18, e01⟩, hqa, ⟨cc, g1, g2, g3, g4⟩, d3, d6, d7⟩ := h
  refine ⟨⟨⟨t1, t2⟩, fun i hi => ?_, ⟨t4, t5, t6⟩, t7⟩, ⟨v0, v18, e01⟩, hqa, ⟨cc, g1, by rw [u3_n _ _ (by omega)]; exact g2, g3, fun e he => by rw [rft_u3 (by decide)]; exact g4 e he⟩, by rw [u3_n _ _ (by omega)]; exact d3, d6, d7⟩
  obtain ⟨b1, b2, b3, b4, b5, b6, b7⟩ := t3 i hi
  have hn := hqa i hi
  exact ⟨b1, b2, b3, b4, by rw [u3_n _ _ (by omega)]; exact b5, by rw [u3_n _ _ (by omega)]; exact b6, rG_u3 (by decide) (by omega) b7⟩
theorem co_A2 {q C x qn r st : Nat} {x3 : Int32} (hv : cR ad M0 D0 E qa c N Z) (hX : zX (cV N) ad M D E) (ho : ∀ k i j, ¬ (k = 5 ∧ i = 0 ∧ j = 3) → D k i j = D0 k i j) (h53 : D 5 0 3 = nI x) (hb : ∀ k j, N k j < 1073741824) (p : pI N q 0 C) (h15 : N 15 q = 0) (h17 : N 17 q = N 3 r) (h18 : N 18 q = N 2 r) (h19 : Z 19 q = Z 1 r) (hst : (st = 304 ∧ x3 = 1) ∨ (st = 200 ∧ x3 = 0)) (hr : r < 6) (hqn : zT M qn = none) {post : Int32 → zM → Prop} (K : ∀ ad' M' D' E' qa' c' Nm Zm, ad' 8 0 = ad 8 0 → FS q (av N Z r) (if st = 200 then 3 else 2) 0 N Z Nm Zm → cR ad' M' D' E' qa' c' (arN Nm q st x) Zm → post (nI st) M') : w_S_answerGet_52 (fun r15 M16 => w_S_takeRequest_72 post M16 (ad 5 0) (ad 3 q) (ad 4 r) r15) (znw M qn (0, 10)) (ad 5 0) (ad 3 q) (ad 4 r) x3 qn qn (nI st) := by
  unfold w_S_answerGet_52
  refine ⟨by rw [zT_nw, if_pos rfl], co_init hX p.1.2.2.1 hqn (fun ad' M' D' E' hX' e0 hA hD hD0 hD18 hE hE0 => ?_)⟩
  rw [← e0, ← hA 5 0 (by omega), ← hA 3 q (by omega), ← hA 4 r (by omega)]
  have hD' : ∀ k i j, ¬ ((k = 0 ∨ k = 18) ∧ i = q) → ¬ (k = 5 ∧ i = 0 ∧ j = 3) → D' k i j = D0 k i j := fun k i j a1 a2 => by rw [hD k i j a1, ho k i j a2]
  have hV4 := hX'.v4 hr
  have hV0 : V1 (V1 (cV N) 0 q) 18 q 0 q := Or.inl (Or.inr ⟨rfl, rfl⟩)
  have hO := hv.2.2.1 r hr
  have f0 := ar_start hv p hA hD' (by rw [hD0]; rfl) (by rw [hD0]; rfl) hE hE0
  have d4 : ∀ j, D' 4 r j = D0 4 r j := fun j => hD' 4 r j (by omega) (by omega)
  refine ⟨hX'.T hV4, hX'.T hV0, c_setI hX' hV0 4 (v := nI (N 3 r)) ((hX'.I hV4 1).trans (by rw [d4, hO.2.1])) (fun M1 hX1 => ?_)⟩
  refine c_setI hX1 hV0 5 (v := nI (N 2 r)) ((hX1.I hV4 3).trans (by rw [u3_n _ _ (by omega), d4, hO.2.2.2])) (fun M2 hX2 => ⟨hX2.T hX2.v5, c_ref hX2 hX2.v5 hX2.e51 ⟨hX2.T hX2.v7, ?_⟩⟩)
  have f2 := mF_u (j := 5) (w := nI (N 2 r)) (by decide) (mF_u (j := 4) (w := nI (N 3 r)) (by decide) f0)
  rw [show zI M2 (ad' 4 r) 1 = nI (N 3 r) from (hX2.I hV4 1).trans (by rw [u3_n _ _ (by omega), u3_n _ _ (by omega), d4, hO.2.1])]
  refine co_put (m := 0) hX2 f2 hb p (by omega) (fun o0 M3 D3 hO0 hX3 f3 fr3 => ⟨hX3.T hX3.v5, hX3.T hV4, c_ref hX3 hX3.v5 hX3.e51 ⟨hX3.T hX3.v7, ?_⟩⟩)
  have d43 : ∀ j, D3 4 r j = D0 4 r j := fun j => by rw [fr3.1 4 r j (by omega) (by omega) (by omega) (by omega), u3_n _ _ (by omega), u3_n _ _ (by omega), d4]
  have p3 := pI_step p (by omega) hO0
  have b3 := fN_b hb p (by omega) (fO_le hO0)
  have k3 := fk_f (q := q) (m := 0) (Z := Z) (v := nI (N 3 r)) (fO_le hO0) (by omega)
  rw [hX3.I hV4, d43, hO.2.2.2]
  refine co_put (m := 1) hX3 f3 b3 p3 (by omega) (fun o1 M4 D4 hO1 hX4 f4 fr4 => ?_)
  have d44 : ∀ j, D4 4 r j = D0 4 r j := fun j => by rw [fr4.1 4 r j (by omega) (by omega) (by omega) (by omega), d43]
  have p4 := pI_step p3 (by omega) hO1
  have b4 := fN_b b3 p3 (by omega) (fO_le hO1)
  have k4 := fk_t k3 (fk_f (q := q) (m := 1) (v := nI (N 2 r)) (fO_le hO1) (by omega))
  have fr34 := fr_t fr3 fr4
  have q4 : ∀ j, ¬ j = 2 → ¬ j = 3 → D4 0 q j = if j = 5 then nI (N 2 r) else if j = 4 then nI (N 3 r) else if j = 7 then 1 else if j = 0 then nI st else 0 := fun j h2 h3 => by
    rw [fr34.2 j h2 h3]
    simp [u3, hD0]
  have D4o : ∀ k i j, ¬ ((k = 0 ∨ k = 18) ∧ i = q) → ¬ (k = 7 ∧ i = 0 ∧ (j = 4 ∨ j = 6 ∨ j = 7)) → ¬ k = 14 → ¬ k = 15 → ¬ (k = 5 ∧ i = 0 ∧ j = 3) → D4 k i j = D0 k i j := fun k i j a1 a2 a3 a4 a5 => by
    rw [fr34.1 k i j a1 a2 a3 a4, u3_n _ _ (fun z => a1 ⟨Or.inl z.1, z.2.1⟩), u3_n _ _ (fun z => a1 ⟨Or.inl z.1, z.2.1⟩)]; exact hD' k i j a1 a5
  have D45 : D4 5 0 3 = nI x := by rw [fr34.1 5 0 3 (by omega) (by omega) (by omega) (by omega), u3_n _ _ (by omega), u3_n _ _ (by omega), hD 5 0 3 (by omega)]; exact h53
  rcases hst with ⟨rfl, rfl⟩ | ⟨rfl, rfl⟩
  · refine n_not (by decide) ?_
    exact co_fin (st := 304) (x := x) hv hX4 f4 p4 k4 h15 (by omega) hA D4o D45 hE ⟨by rw [q4 0 (by omega) (by omega)]; rfl, by rw [q4 7 (by omega) (by omega)]; rfl, by rw [q4 8 (by omega) (by omega)]; rfl, by rw [q4 9 (by omega) (by omega)]; rfl, fun _ _ => ⟨by rw [q4 4 (by omega) (by omega), h17]; rfl, by rw [q4 5 (by omega) (by omega), h18]; rfl⟩, fun _ z => by omega⟩ (fun M'' D'' E'' qa' c' hc => K ad' M'' D'' E'' qa' c' _ _ (hA 8 0 (by omega)) ⟨o0, hO0, o1, hO1, rfl, rfl⟩ hc)
  · refine n_yes rfl ⟨hX4.T hV4, hX4.T hV0, c_setI hX4 hV0 6 (v := Z 1 r) ((hX4.I hV4 2).trans (by rw [d44, hO.2.2.1])) (fun M5 hX5 => ⟨hX5.T hX5.v5, c_ref hX5 hX5.v5 hX5.e51 ⟨hX5.T hX5.v7, ?_⟩⟩)⟩
    have f5 := mF_u (j := 6) (w := Z 1 r) (by decide) f4
    rw [show zI M5 (ad' 4 r) 2 = Z 1 r from (hX5.I hV4 2).trans (by rw [u3_n _ _ (by omega), d44, hO.2.2.1])]
    refine co_put (m := 2) hX5 f5 b4 p4 (by omega) (fun o2 M6 D6 hO2 hX6 f6 fr6 => ?_)
    have p6 := pI_step p4 (by omega) hO2
    have k6 := fk_t k4 (fk_f (q := q) (m := 2) (v := Z 1 r) (fO_le hO2) (by omega))
    have q6 : ∀ j, ¬ j = 2 → ¬ j = 3 → D6 0 q j = if j = 6 then Z 1 r else D4 0 q j := fun j h2 h3 => by
      rw [fr6.2 j h2 h3]; simp [u3]
    exact co_fin (st := 200) (x := x) hv hX6 f6 p6 k6 h15 (by omega) hA (fun k i j a1 a2 a3 a4 a5 => by rw [fr6.1 k i j a1 a2 a3 a4, u3_n _ _ (fun z => a1 ⟨Or.inl z.1, z.2.1⟩)]; exact D4o k i j a1 a2 a3 a4 a5) (by rw [fr6.1 5 0 3 (by omega) (by omega) (by omega) (by omega), u3_n _ _ (by omega)]; exact D45) hE ⟨by rw [q6 0 (by omega) (by omega), q4 0 (by omega) (by omega)]; rfl, by rw [q6 7 (by omega) (by omega), q4 7 (by omega) (by omega)]; rfl, by rw [q6 8 (by omega) (by omega), q4 8 (by omega) (by omega)]; rfl, by rw [q6 9 (by omega) (by omega), q4 9 (by omega) (by omega)]; rfl, fun _ _ => ⟨by rw [q6 4 (by omega) (by omega), q4 4 (by omega) (by omega), h17]; rfl, by rw [q6 5 (by omega) (by omega), q4 5 (by omega) (by omega), h18]; rfl⟩, fun _ _ => by rw [q6 6 (by omega) (by omega), h19]; rfl⟩ (fun M'' D'' E'' qa' c' hc => K ad' M'' D'' E'' qa' c' _ _ (hA 8 0 (by omega)) ⟨o0, hO0, o1, hO1, o2, hO2, rfl, rfl⟩ hc)
end A3
