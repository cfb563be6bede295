def akB (N : Nat → Nat → Nat) (v7 r l : Nat) : Nat → Nat → Nat := un (un (un (un N 6 0 (N 6 0 + 1)) 7 (N 6 0) v7) 8 (N 6 0) r) 11 (N 6 0) l
def akN (N : Nat → Nat → Nat) (v7 r l : Nat) : Nat → Nat → Nat := if v7 = 0 ∧ 0 < N 21 r ∧ N 5 0 - N 25 r < N 24 r then un (akB N v7 r l) 9 (N 6 0) 8 else if N 37 0 = 0 then un (un (un (akB N v7 r l) 15 (N 6 0) 1) 13 (N 6 0) (N 5 0)) 12 (N 6 0) (if 0 < N 21 r then N 22 r else 0) else un (akB N v7 r l) 9 (N 6 0) 7
def akZ (N : Nat → Nat → Nat) (Z : Nat → Nat → Int32) (v7 r : Nat) (z : Int32) : Nat → Nat → Int32 := if v7 = 0 ∧ 0 < N 21 r ∧ N 5 0 - N 25 r < N 24 r then uz (uz Z 10 (N 6 0) z) 14 (N 6 0) (Z 23 r) else if N 37 0 = 0 then uz (uz Z 10 (N 6 0) z) 14 (N 6 0) (if 0 < N 21 r then Z 23 r else 0) else uz Z 10 (N 6 0) z
def kx (k : Nat) : Bool := k == 6 || k == 7 || k == 8 || k == 11 || k == 9 || k == 12 || k == 13 || k == 15
theorem ak_rel {ad ad' : Nat → Nat → Nat} {M M' : zM} {D D' : Nat → Nat → Nat → Int32} {E E' : Nat → Nat → Nat → Option Nat} {qa : Nat → Nat} {c n : Nat} {N N' : Nat → Nat → Nat} {Z Z' : Nat → Nat → Int32} (hn : N 6 0 = n) (h16 : N 16 n = 0) (hN : ∀ k, kx k = false → N' k = N k) (hNn : ∀ k j, ¬ k = 6 → ¬ j = n → N' k j = N k j) (hN6 : N' 6 0 = n + 1) (hZ : ∀ k, ¬ (k = 10 ∨ k = 14) → Z' k = Z k) (hZn : ∀ k j, ¬ j = n → Z' k j = Z k j) (hD : ∀ k i j, ¬ (k = 3 ∧ i = n) → ¬ (k = 8 ∧ i = 0 ∧ j = 4) → D' k i j = D k i j) (hD8 : D' 8 0 4 = nI (n + 1)) (hE : ∀ k i j, ¬ (k = 3 ∧ i = n) → ¬ (k = 17 ∧ i = 0 ∧ j = n) → E' k i j = E k i j) (hE17 : E' 17 0 n = some (ad' 3 n)) (hE3 : E' 3 n 11 = none) (hA : ∀ k i, ¬ (k = 3 ∧ i = n) → ad' k i = ad k i)
    (hq : (D' 3 n 0 = nI n ∧ D' 3 n 1 = nI (N' 8 n) ∧ D' 3 n 2 = nI (N' 7 n) ∧ D' 3 n 3 = Z' 10 n ∧ D' 3 n 4 = nI (N' 11 n) ∧ D' 3 n 5 = nI (N' 12 n) ∧ D' 3 n 6 = nI (N' 13 n)) ∧ D' 3 n 8 = (if N' 15 n = 1 then 1 else 0) ∧ D' 3 n 9 = nI (N' 9 n) ∧ D' 3 n 10 = (if N' 9 n = 1 ∨ N' 9 n = 2 ∨ N' 9 n = 8 then Z' 14 n else 0) ∧ (N' 9 n = 0 → D' 3 n 7 = Z' 14 n))
    (h : cR ad M D E qa c N Z) (hX : zX (V1 (cV N) 3 n) ad' M' D' E') : cR ad' M' D' E' qa c N' Z' := by
  obtain ⟨-, hS, hO, hK, hQ, hA', hT, hF, hL, hE'⟩ := h
  have dk : ∀ k, ¬ k = 3 → ¬ k = 8 → D' k = D k := fun k h1 h2 => by funext i j; exact hD k i j (fun z => h1 z.1) (fun z => h2 z.1)
  have ez : ∀ k, ¬ (k = 10 ∨ k = 14) → Z' k = Z k := hZ
  have hnd := fun q => nd_ag (hN 20 (by decide)) q
  have haf := fun i => aft_ag (hN 20 (by decide)) (hN 32 (by decide)) (hN 33 (by decide)) i
  have hos := fun q => ost_ag (hN 16 (by decide)) (hN 20 (by decide)) (hN 32 (by decide)) (hN 33 (by decide)) (hN 35 (by decide)) q
  refine ⟨?_, ?_, ?_, ?_, ?_, ?_, ?_, ?_, ?_, ?_⟩
  · have : V1 (cV N) 3 n = cV N' := by
      funext k i
      refine propext ?_
      unfold V1 cV
      rw [hN6, hN 16 (by decide), hn]
      by_cases h3 : k = 3
      · subst h3; simp; omega
      · simp only [h3, if_false, false_and, or_false]
        by_cases h0 : k = 0 ∨ k = 18
        · rw [if_pos h0, if_pos h0]
          constructor
          · exact fun z => ⟨by omega, z.2⟩
          · intro z
            have : ¬ i = n := fun y => by rw [y, h16] at z; omega
            exact ⟨by omega, z.2⟩
        · rw [if_neg h0, if_neg h0]
    rw [← this]; exact hX
  · obtain ⟨⟨s1, s2⟩, s3⟩ := hS
    refine ⟨⟨by rw [hN6]; exact hD8, by rw [hD 8 0 5 (by omega) (by omega), hN 5 (by decide)]; exact s2⟩, ?_⟩
    rw [dk 5 (by decide) (by decide), dk 1 (by decide) (by decide), dk 7 (by decide) (by decide), hN 4 (by decide), hN 39 (by decide), hN 36 (by decide), hN 38 (by decide), hN 29 (by decide), hN 37 (by decide), hN 28 (by decide), hN 30 (by decide), hN 31 (by decide)]
    exact s3
  · unfold rO at hO ⊢
    rw [dk 4 (by decide) (by decide), hN 0 (by decide), hN 3 (by decide), hN 2 (by decide), ez 1 (by decide)]
    exact hO
  · unfold rK at hK ⊢
    rw [dk 6 (by decide) (by decide), hN 21 (by decide), hN 22 (by decide), hN 24 (by decide), hN 25 (by decide), ez 23 (by decide)]
    exact hK
  · intro p hp
    rw [hN6] at hp
    by_cases e : p = n
    · subst e; exact hq
    · have := hQ p (by omega)
      rw [hNn 8 p (by decide) e, hNn 7 p (by decide) e, hZn 10 p e, hNn 11 p (by decide) e, hNn 12 p (by decide) e, hNn 13 p (by decide) e, hNn 15 p (by decide) e, hNn 9 p (by decide) e, hZn 14 p e]
      have d3 : ∀ j, D' 3 p j = D 3 p j := fun j => hD 3 p j (by omega) (by omega)
      simp only [d3]
      exact this
  · intro p hp hs
    rw [hN6] at hp
    rw [hN 16 (by decide)] at hs
    have e : ¬ p = n := fun z => by rw [z] at hs; omega
    obtain ⟨a, b, c1, d1, ⟨cc, g1, g2, g3, g4⟩, f, g⟩ := hA' p (by omega) hs
    rw [hos p, hnd p, dk 0 (by decide) (by decide), hN 16 (by decide), hNn 15 p (by decide) e, hNn 7 p (by decide) e, hN 17 (by decide), hN 18 (by decide), ez 19 (by decide)]
    refine ⟨a, b, c1, d1, ⟨cc, g1, by rw [dk 0 (by decide) (by decide)]; exact g2, by rw [hnd]; exact g3, fun x hx => ?_⟩, f, g⟩
    rw [rft_ag (dk 18 (by decide) (by decide)), hN 20 (by decide)]
    exact g4 x hx
  · unfold rT at hT ⊢
    rw [haf, haf, dk 7 (by decide) (by decide), dk 1 (by decide) (by decide), dk 14 (by decide) (by decide), dk 15 (by decide) (by decide), hN 35 (by decide), hN 34 (by decide), hN 28 (by decide), hN 26 (by decide), ez 27 (by decide)]
    exact hT
  · unfold rF at hF ⊢
    rw [dk 2 (by decide) (by decide), dk 12 (by decide) (by decide), dk 13 (by decide) (by decide), hN 34 (by decide), hN 35 (by decide), hN 32 (by decide), hN 33 (by decide)]
    exact hF
  · obtain ⟨l1, l2, l3, l4⟩ := hL
    have eg : elig N' = elig N := by funext q; unfold elig; rw [hnd, hN 16 (by decide)]
    refine ⟨by rw [dk 7 (by decide) (by decide)]; exact l1, by rw [hN6]; omega, fun j hj => ?_, fun P => ?_⟩
    · obtain ⟨b1, b2, b3⟩ := l3 j hj
      rw [hN6, hN 16 (by decide), hE 16 0 j (by omega) (by omega), hA 0 (qa j) (by omega)]
      exact ⟨b1, by omega, b3⟩
    · rw [hN6, eg, l4 P, hn]
      simp only [cnt]
      have : (elig N n && P n) = false := by simp [elig, h16]
      rw [if_neg (show ¬ (elig N n && P n) = true by rw [this]; decide)]; rfl
  · intro p hp
    rw [hN6] at hp
    by_cases e : p = n
    · subst e
      rw [hN 16 (by decide), if_pos h16]
      exact ⟨hE17, hE3, fun z => by omega⟩
    · rw [hE 17 0 p (by omega) (by omega), hE 3 p 11 (by omega) (by omega), hE 0 p 1 (by omega) (by omega), hA 3 p (by omega), hA 0 p (by omega), hA 18 p (by omega), hN 16 (by decide)]
      exact hE' p (by omega)
theorem ak_J {N N' : Nat → Nat → Nat} {k n : Nat} (hn : N 6 0 = n) (hn60 : n < 60) (hN : ∀ k, kx k = false → N' k = N k) (hNn : ∀ k j, ¬ k = 6 → ¬ j = n → N' k j = N k j) (hN6 : N' 6 0 = n + 1) (h8 : N' 8 n < 6) (h7 : N' 7 n ≤ 1) (h15 : N' 15 n ≤ 1) (h9 : N' 9 n ≤ 8) (h159 : N' 15 n = 1 → N' 9 n = 0) (h13 : N' 13 n ≤ N 5 0) (h11 : N' 11 n ≤ 1000) (h : jI k N) : jI k N' := by
  obtain ⟨jq, jr, jw, jk, jk2⟩ := h
  have haf := fun i => aft_ag (hN 20 (by decide)) (hN 32 (by decide)) (hN 33 (by decide)) i
  have h16 : N 16 n = 0 := (jr.2.2.2 n (by omega)).2.2.2.2
  obtain ⟨w1, w2, w3, w4, w5, w6⟩ := jw
  have c16 : cnt (fun q => decide (0 < N 16 q)) (n + 1) = cnt (fun q => decide (0 < N 16 q)) n := by simp [cnt, h16]
  refine ⟨?_, ?_, ?_, ?_⟩
  · intro p hp
    rw [hN6] at hp
    rw [hN 16 (by decide), hN 36 (by decide), hN 38 (by decide), hN 34 (by decide), hN 32 (by decide), hN 33 (by decide), hN 5 (by decide), hN 18 (by decide), hN 17 (by decide)]
    by_cases e : p = n
    · subst e
      refine ⟨h8, h7, by omega, h9, fun z => ⟨h16, h159 z⟩, fun z => by omega, Or.inl h16, fun z => by omega, fun z => by omega, fun _ _ => h16, fun _ i hi h2 z => ?_, h13, h11, fun z => by omega⟩
      have := (w1 i hi).2 h2
      omega
    · rw [hNn 8 p (by decide) e, hNn 7 p (by decide) e, hNn 11 p (by decide) e, hNn 13 p (by decide) e, hNn 15 p (by decide) e, hNn 9 p (by decide) e]
      exact jq p (by omega)
  · obtain ⟨r1, r2, r3, r4⟩ := jr
    unfold jR
    rw [hN 20 (by decide), hN 28 (by decide), hN 26 (by decide), hN 16 (by decide), hN6]
    refine ⟨r1, r2, fun q hq => r3 q (by omega), fun q hq => ?_⟩
    rw [hNn 9 q (by decide) (by omega), hNn 12 q (by decide) (by omega), hNn 13 q (by decide) (by omega), hNn 15 q (by decide) (by omega)]
    exact r4 q (by omega)
  · unfold jW
    rw [hN 34 (by decide), hN 32 (by decide), hN 33 (by decide), hN 35 (by decide), haf, hN 29 (by decide), hN 28 (by decide), hN 16 (by decide), hN6, c16]
    have : cnt (fun q => !decide (N' 9 q = 0)) n = cnt (fun q => !decide (N 9 q = 0)) n := cnt_congr n (fun i hi => by rw [hNn 9 i (by decide) (by omega)])
    have c9 : cnt (fun q => !decide (N 9 q = 0)) n ≤ cnt (fun q => !decide (N' 9 q = 0)) (n + 1) := by
      simp only [cnt]; rw [this]; omega
    rw [hn] at w1 w3 w6
    exact ⟨fun i hi => ⟨(w1 i hi).1, fun h2 => by have := (w1 i hi).2 h2; omega⟩, w2, by omega, w4, w5, w6⟩
  · unfold jK
    rw [hN 4 (by decide), hN 5 (by decide), hN 30 (by decide), hN 31 (by decide), hN 16 (by decide), hN 36 (by decide), hN 37 (by decide), hN 38 (by decide), hN 39 (by decide), hN 0 (by decide), hN 3 (by decide), hN 2 (by decide), hN 21 (by decide), hN 22 (by decide), hN 24 (by decide), hN 25 (by decide), hN6, c16]
    obtain ⟨k1, k2, k3, k4, k5, k6, k7, k8, k9, k10⟩ := jk
    rw [hn] at k4 k9 k10
    refine ⟨⟨by omega, k2, k3, k4, k5, k6, k7, k8, by omega, fun z q hq hs => ?_⟩, fun r hr => ?_⟩
    · have : ¬ q = n := fun z => by rw [z] at hs; omega
      exact k10 z q (by omega) hs
    · obtain ⟨b1, b2, b3, b4, b5⟩ := jk2 r hr
      exact ⟨b1, b2, b3, by omega, b5⟩
theorem ak_facts (N : Nat → Nat → Nat) (v7 r l : Nat) : (∀ k, kx k = false → akN N v7 r l k = N k) ∧ (∀ k j, ¬ k = 6 → ¬ j = N 6 0 → akN N v7 r l k j = N k j) ∧ akN N v7 r l 6 0 = N 6 0 + 1 ∧ akN N v7 r l 8 (N 6 0) = r ∧ akN N v7 r l 7 (N 6 0) = v7 ∧ akN N v7 r l 11 (N 6 0) = l := by
  refine ⟨fun k hk => ?_, fun k j hk hj => ?_, ?_, ?_, ?_, ?_⟩
  · have : ¬ k = 6 ∧ ¬ k = 7 ∧ ¬ k = 8 ∧ ¬ k = 11 ∧ ¬ k = 9 ∧ ¬ k = 12 ∧ ¬ k = 13 ∧ ¬ k = 15 := by simp [kx] at hk; omega
    funext j
    unfold akN akB
    split
    · simp [un, this]
    · split <;> simp [un, this]
  · unfold akN akB
    split
    · simp [un, hk, hj]
    · split <;> simp [un, hk, hj]
  all_goals
    unfold akN akB
    split
    · simp [un]
    · split <;> simp [un]
theorem akZ_facts (N : Nat → Nat → Nat) (Z : Nat → Nat → Int32) (v7 r : Nat) (z : Int32) : (∀ k, ¬ (k = 10 ∨ k = 14) → akZ N Z v7 r z k = Z k) ∧ (∀ k j, ¬ j = N 6 0 → akZ N Z v7 r z k j = Z k j) ∧ akZ N Z v7 r z 10 (N 6 0) = z := by
  refine ⟨fun k hk => ?_, fun k j hj => ?_, ?_⟩
  · have : ¬ k = 10 ∧ ¬ k = 14 := by omega
    funext j
    unfold akZ
    split
    · simp [uz, this]
    · split <;> simp [uz, this]
  · unfold akZ
    split
    · simp [uz, hj]
    · split <;> simp [uz, hj]
  · unfold akZ
    split
    · simp [uz]
    · split <;> simp [uz]
