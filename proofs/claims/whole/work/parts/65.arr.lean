def arN (N : Nat → Nat → Nat) (q st x : Nat) : Nat → Nat → Nat := un (un (un N 16 q st) 15 q 2) 39 0 x
def kg (k : Nat) : Bool := k == 16 || k == 15 || k == 39
theorem arN_o {N : Nat → Nat → Nat} {q st x k : Nat} (hk : kg k = false) : arN N q st x k = N k := by
  have : ¬ k = 16 ∧ ¬ k = 15 ∧ ¬ k = 39 := by simp [kg] at hk; omega
  funext j; simp [arN, un, this]
theorem arN_15 {N : Nat → Nat → Nat} {q st x p : Nat} (hp : ¬ p = q) : arN N q st x 15 p = N 15 p := by simp [arN, un, hp]
theorem arN_16 {N : Nat → Nat → Nat} {q st x p : Nat} (hp : ¬ p = q) : arN N q st x 16 p = N 16 p := by simp [arN, un, hp]
theorem arN_15q {N : Nat → Nat → Nat} {q st x : Nat} : arN N q st x 15 q = 2 := by simp [arN, un]
theorem arN_16q {N : Nat → Nat → Nat} {q st x : Nat} : arN N q st x 16 q = st := by simp [arN, un]
theorem arN_39 {N : Nat → Nat → Nat} {q st x : Nat} : arN N q st x 39 0 = x := by simp [arN, un]
/-- what the fields leave of the numbers -/
def fk (q : Nat) (N N' : Nat → Nat → Nat) (Z Z' : Nat → Nat → Int32) : Prop := (∀ k, kf k = false → N' k = N k) ∧ (∀ x, ¬ x = 3 * q → ¬ x = 3 * q + 1 → ¬ x = 3 * q + 2 → N' 20 x = N 20 x) ∧ N 28 0 ≤ N' 28 0 ∧ ∀ k, ¬ k = 27 → Z' k = Z k
theorem fk_r (q : Nat) (N : Nat → Nat → Nat) (Z : Nat → Nat → Int32) : fk q N N Z Z := ⟨fun _ _ => rfl, fun _ _ _ _ => rfl, Nat.le_refl _, fun _ _ => rfl⟩
theorem fk_t {q : Nat} {N N' N'' : Nat → Nat → Nat} {Z Z' Z'' : Nat → Nat → Int32} (h : fk q N N' Z Z') (h' : fk q N' N'' Z' Z'') : fk q N N'' Z Z'' := ⟨fun k hk => by rw [h'.1 k hk, h.1 k hk], fun x a b c => by rw [h'.2.1 x a b c, h.2.1 x a b c], by have := h.2.2.1; have := h'.2.2.1; omega, fun k hk => by rw [h'.2.2.2 k hk, h.2.2.2 k hk]⟩
theorem fk_f {N : Nat → Nat → Nat} {Z : Nat → Nat → Int32} {q m o : Nat} {v : Int32} (ho : o ≤ N 28 0 + 1) (hm : m < 3) : fk q N (fN N q m o) Z (fZ N Z v o) := by
  obtain ⟨f1, f2, f3, f4, f5, f6, f7⟩ := fN_f (q := q) (m := m) ho
  refine ⟨f1, fun x a b c => ?_, ?_, fun k hk => ?_⟩
  · rw [f2, if_neg (fun z => by omega)]
  · rw [f3]; split <;> omega
  · unfold fZ; split
    · rfl
    · funext j; simp [uz, hk]
theorem fk_nd {q : Nat} {N N' : Nat → Nat → Nat} {Z Z' : Nat → Nat → Int32} (h : fk q N N' Z Z') : ∀ p, ¬ p = q → nd N' p = nd N p := by
  intro p hp
  unfold nd
  rw [h.2.1 _ (by omega) (by omega) (by omega), h.2.1 _ (by omega) (by omega) (by omega), h.2.1 _ (by omega) (by omega) (by omega)]
section AR
variable {ad ad' : Nat → Nat → Nat} {M M' : zM} {D D' : Nat → Nat → Nat → Int32} {E E' : Nat → Nat → Nat → Option Nat} {qa qa' : Nat → Nat} {c c' : Nat} {N Nm : Nat → Nat → Nat} {Z Zm : Nat → Nat → Int32}
theorem ar_rel {q st x : Nat} (hq : q < N 6 0) (h16 : N 16 q = 0) (h15 : N 15 q = 0) (hst : 0 < st) (hwd : ∀ i, i < N 34 0 → N 32 i ≠ 2 → N 33 i ≠ q) (h35 : N 35 0 ≤ N 34 0) (hk : fk q N Nm Z Zm)
    (hA : ∀ k i, ¬ ((k = 0 ∨ k = 18) ∧ i = q) → ad' k i = ad k i)
    (hD : ∀ k i j, ¬ ((k = 0 ∨ k = 18) ∧ i = q) → ¬ (k = 7 ∧ i = 0 ∧ (j = 3 ∨ j = 4 ∨ j = 6 ∨ j = 7)) → ¬ k = 14 → ¬ k = 15 → ¬ (k = 5 ∧ i = 0 ∧ j = 3) → D' k i j = D k i j)
    (hE : ∀ k i j, ¬ ((k = 0 ∨ k = 18) ∧ i = q) → ¬ k = 16 → ¬ (k = 3 ∧ i = q ∧ j = 11) → E' k i j = E k i j)
    (h5 : D' 5 0 3 = nI x) (hE3 : E' 3 q 11 = some (ad' 0 q)) (hE0 : E' 0 q 1 = some (ad' 18 q))
    (h7 : D' 7 0 4 = nI (Nm 28 0) ∧ D' 7 0 6 = nI (Nm 30 0) ∧ D' 7 0 7 = nI (Nm 31 0)) (hent : ∀ e, e < Nm 28 0 → Nm 28 0 ≤ e + 5 → D' 14 0 (e % 5) = nI (Nm 26 e) ∧ D' 15 0 (e % 5) = Zm 27 e)
    (hq0 : (D' 0 q 0 = nI st ∧ D' 0 q 3 = nI (nd Nm q)) ∧ D' 0 q 7 = 1 ∧ D' 0 q 8 = 0 ∧ D' 0 q 9 = bI (decide (0 < nd Nm q)) ∧ rG D' Nm q ∧ (N 7 q = 0 → st < 400 → D' 0 q 4 = nI (N 17 q) ∧ D' 0 q 5 = nI (N 18 q)) ∧ (N 7 q = 0 → st = 200 → D' 0 q 6 = Z 19 q))
    (hL : D' 7 0 3 = nI c' ∧ c' ≤ N 6 0 ∧ (∀ j, j < c' → E' 16 0 j = some (ad' 0 (qa' j)) ∧ qa' j < N 6 0 ∧ (0 < N 16 (qa' j) ∨ qa' j = q)) ∧ ∀ P : Nat → Bool, cnt (fun j => P (qa' j)) c' = cnt (fun p => (elig N p || (decide (p = q) && decide (0 < nd Nm q))) && P p) (N 6 0))
    (h : cR ad M D E qa c N Z) (hX : zX (V1 (V1 (cV N) 0 q) 18 q) ad' M' D' E') : cR ad' M' D' E' qa' c' (arN Nm q st x) Zm := by
  obtain ⟨-, hS, hO, hK, hQ, hA', hT, hF, hL', hE'⟩ := h
  obtain ⟨k1, k2, k3, k4⟩ := hk
  have hnd0 := fk_nd (q := q) (Z := Z) (Z' := Zm) ⟨k1, k2, k3, k4⟩
  have n : ∀ k, kf k = false → kg k = false → arN Nm q st x k = N k := fun k h1 h2 => by rw [arN_o h2, k1 k h1]
  have nm : ∀ k, kg k = false → arN Nm q st x k = Nm k := fun k h2 => arN_o h2
  have n16 : ∀ p, ¬ p = q → arN Nm q st x 16 p = N 16 p := fun p hp => by rw [arN_16 hp, k1 16 rfl]
  have n15 : ∀ p, ¬ p = q → arN Nm q st x 15 p = N 15 p := fun p hp => by rw [arN_15 hp, k1 15 rfl]
  have hndm : ∀ p, nd (arN Nm q st x) p = nd Nm p := fun p => nd_ag (nm 20 rfl) p
  have hnd : ∀ p, ¬ p = q → nd (arN Nm q st x) p = nd N p := fun p hp => by rw [hndm, hnd0 p hp]
  have haf : ∀ i, i ≤ N 34 0 → aft (arN Nm q st x) i = aft N i := fun i hi => aft_ex (n 32 rfl rfl) (n 33 rfl rfl) hnd i (fun j hj h2 => hwd j (by omega) h2)
  have hop : ∀ p i, opn (arN Nm q st x) p i = opn N p i := fun p i => opn_ag (n 32 rfl rfl) (n 33 rfl rfl) p i
  have hos : ∀ p, ¬ p = q → ost (arN Nm q st x) p = ost N p := fun p hp => by unfold ost; rw [n16 p hp, hnd p hp, n 35 rfl rfl, hop]
  have hopq : ∀ i, i ≤ N 34 0 → opn N q i = true := by
    intro i
    induction i with
    | zero => intro _; rfl
    | succ i ih =>
      intro hi
      simp only [opn]
      rw [ih (by omega)]
      by_cases h2 : N 32 i = 2
      · simp [h2]
      · simp [h2, hwd i (by omega) h2]
  have hoq : ost (arN Nm q st x) q = decide (0 < nd Nm q) := by
    unfold ost; rw [arN_16q, hndm, n 35 rfl rfl, hop, hopq _ h35]; simp [hst]
  have dk : ∀ k, ¬ (k = 0 ∨ k = 18 ∨ k = 7 ∨ k = 14 ∨ k = 15 ∨ k = 5) → D' k = D k := fun k hk => by funext i j; exact hD k i j (fun z => by omega) (fun z => by omega) (by omega) (by omega) (by omega)
  refine ⟨?_, ?_, ?_, ?_, ?_, ?_, ?_, ?_, ?_, ?_⟩
  · have : V1 (V1 (cV N) 0 q) 18 q = cV (arN Nm q st x) := by
      funext k i
      refine propext ?_
      unfold V1 cV
      rw [n 6 rfl rfl]
      by_cases h3 : k = 3
      · subst h3; simp
      · by_cases h0 : k = 0 ∨ k = 18
        · simp only [h3, if_false, if_pos h0]
          by_cases e : i = q
          · subst e
            rw [arN_16q]
            exact ⟨fun _ => ⟨hq, hst⟩, fun _ => by omega⟩
          · rw [n16 i e]
            exact ⟨fun z => by omega, fun z => by omega⟩
        · simp only [h3, if_false, if_neg h0]
          exact ⟨fun z => z.elim (fun y => y.elim id (fun w => absurd (Or.inl w.1) h0)) (fun w => absurd (Or.inr w.1) h0), fun z => Or.inl (Or.inl z)⟩
    rw [← this]; exact hX
  · obtain ⟨⟨s1, s2⟩, ⟨s3, s4, s5, s6⟩, s7, s8, s9, s10⟩ := hS
    have d5 : ∀ j, ¬ j = 3 → D' 5 0 j = D 5 0 j := fun j hj => hD 5 0 j (by omega) (by omega) (by omega) (by omega) (by omega)
    unfold rS
    rw [dk 8 (by decide), dk 1 (by decide), d5 2 (by decide), d5 4 (by decide), d5 5 (by decide), n 6 rfl rfl, n 5 rfl rfl, n 4 rfl rfl, arN_39, n 36 rfl rfl, n 38 rfl rfl, n 29 rfl rfl, n 37 rfl rfl, nm 28 rfl, nm 30 rfl, nm 31 rfl]
    exact ⟨⟨s1, s2⟩, ⟨s3, h5, s5, s6⟩, s7, h7⟩
  · unfold rO at hO ⊢
    rw [dk 4 (by decide), n 0 rfl rfl, n 3 rfl rfl, n 2 rfl rfl, k4 1 (by decide)]
    exact hO
  · unfold rK at hK ⊢
    rw [dk 6 (by decide), n 21 rfl rfl, n 22 rfl rfl, n 24 rfl rfl, n 25 rfl rfl, k4 23 (by decide)]
    exact hK
  · intro p hp
    rw [n 6 rfl rfl] at hp
    have := hQ p hp
    rw [dk 3 (by decide), n 8 rfl rfl, n 7 rfl rfl, n 11 rfl rfl, n 12 rfl rfl, n 13 rfl rfl, n 9 rfl rfl, k4 10 (by decide), k4 14 (by decide)]
    by_cases e : p = q
    · subst e
      rw [arN_15q, if_neg (by omega)]
      rw [h15, if_neg (by omega)] at this
      exact this
    · rw [n15 p e]; exact this
  · intro p hp hs
    rw [n 6 rfl rfl] at hp
    rw [n 7 rfl rfl, n 17 rfl rfl, n 18 rfl rfl, k4 19 (by decide)]
    by_cases e : p = q
    · subst e
      rw [arN_16q, arN_15q, hoq, hndm, if_pos rfl, if_neg (by omega)]
      obtain ⟨q1, q2, q3, q4, ⟨cc, g1, g2, g3, g4⟩, q6, q7⟩ := hq0
      refine ⟨q1, q2, q3, q4, ⟨cc, g1, g2, by rw [hndm]; exact g3, fun e he => ?_⟩, q6, q7⟩
      rw [nm 20 rfl]; exact g4 e he
    · rw [n16 p e] at hs
      obtain ⟨a, b, c1, d1, ⟨cc, g1, g2, g3, g4⟩, f, g⟩ := hA' p hp hs
      have d0 : ∀ j, D' 0 p j = D 0 p j := fun j => hD 0 p j (by omega) (by omega) (by omega) (by omega) (by omega)
      have d18 : ∀ j, D' 18 p j = D 18 p j := fun j => hD 18 p j (by omega) (by omega) (by omega) (by omega) (by omega)
      have rf : ∀ y cc, rft D' p y cc = rft D p y cc := by
        intro y cc
        induction cc with
        | zero => rfl
        | succ cc ih => simp only [rft]; rw [ih, d18]
      rw [n16 p e, n15 p e, hos p e, hnd p e]
      simp only [d0]
      refine ⟨a, b, c1, d1, ⟨cc, g1, by rw [d0]; exact g2, by rw [hnd p e]; exact g3, fun y hy => ?_⟩, f, g⟩
      rw [rf, nm 20 rfl, k2 _ (by omega) (by omega) (by omega), k2 _ (by omega) (by omega) (by omega), k2 _ (by omega) (by omega) (by omega)]
      exact g4 y hy
  · obtain ⟨t1, t2, t3⟩ := hT
    refine ⟨?_, ?_, ?_⟩
    · rw [n 35 rfl rfl, haf _ h35, hD 7 0 5 (by omega) (by omega) (by omega) (by omega) (by omega)]; exact t1
    · rw [n 34 rfl rfl, haf _ (Nat.le_refl _), dk 1 (by decide)]; exact t2
    · rw [nm 28 rfl, nm 26 rfl]; exact hent
  · unfold rF at hF ⊢
    rw [dk 2 (by decide), dk 12 (by decide), dk 13 (by decide), n 34 rfl rfl, n 35 rfl rfl, n 32 rfl rfl, n 33 rfl rfl]
    exact hF
  · obtain ⟨l1, l2, l3, l4⟩ := hL
    refine ⟨l1, by rw [n 6 rfl rfl]; exact l2, fun j hj => ?_, fun P => ?_⟩
    · obtain ⟨b1, b2, b3⟩ := l3 j hj
      refine ⟨b1, by rw [n 6 rfl rfl]; exact b2, ?_⟩
      by_cases e : qa' j = q
      · rw [e, arN_16q]; exact hst
      · rw [n16 _ e]; rcases b3 with b3 | b3
        · exact b3
        · exact absurd b3 e
    · rw [l4 P, n 6 rfl rfl]
      refine cnt_congr _ (fun i _ => ?_)
      have : elig (arN Nm q st x) i = (elig N i || (decide (i = q) && decide (0 < nd Nm q))) := by
        unfold elig
        by_cases e : i = q
        · subst e; rw [arN_16q, hndm]; simp [hst, h16]
        · rw [n16 i e, hnd i e]; simp [e]
      rw [this]
  · intro p hp
    rw [n 6 rfl rfl] at hp
    obtain ⟨e1, e2, e3⟩ := hE' p hp
    rw [hE 17 0 p (by omega) (by omega) (by omega), hA 3 p (by omega)]
    refine ⟨e1, ?_⟩
    by_cases e : p = q
    · subst e
      rw [arN_16q, if_neg (by omega)]
      exact ⟨hE3, fun _ => hE0⟩
    · rw [n16 p e, hE 3 p 11 (by omega) (by omega) (by omega), hE 0 p 1 (by omega) (by omega) (by omega), hA 0 p (by omega), hA 18 p (by omega)]
      exact ⟨e2, e3⟩
theorem ar_J {q st x m k : Nat} (hq : q < N 6 0) (h16 : N 16 q = 0) (h9 : N 9 q = 0) (hst : st = 200 ∨ st = 304 ∨ st = 404 ∨ st = 412) (h304 : st = 304 → N 7 q = 0) (h404 : st = 404 → N 7 q = 0) (h36 : N 36 0 = 1 → ¬ N 38 0 ≤ q) (h18 : N 18 q ≤ 1000) (h17 : N 7 q = 0 → st < 400 → 0 < N 17 q) (hx : x = max (N 39 0) (q + 1)) (hk : fk q N Nm Z Zm) (p : pI Nm q m (cnt (fun q => decide (0 < N 16 q)) (N 6 0))) (h : jI k N) : jI k (arN Nm q st x) := by
  have hst0 : 0 < st := by rcases hst with rfl | rfl | rfl | rfl <;> decide
  obtain ⟨jq, jr, ⟨w1, w2, w3, w4, w5, w6⟩, ⟨j1, j2, j3, j4, j5, j6, j7, j8, j9, j10⟩, jk2⟩ := h
  obtain ⟨⟨p1, p2, p3, p4⟩, p5, ⟨p6, p7, p8⟩, ⟨p9, p10, p11⟩, p12, p13, p14, p15⟩ := p
  have hk' := hk
  obtain ⟨k1, k2, k3, k4⟩ := hk
  have n : ∀ k, kf k = false → kg k = false → arN Nm q st x k = N k := fun k h1 h2 => by rw [arN_o h2, k1 k h1]
  have nm : ∀ k, kg k = false → arN Nm q st x k = Nm k := fun k h2 => arN_o h2
  have n16 : ∀ p, ¬ p = q → arN Nm q st x 16 p = N 16 p := fun p hp => by rw [arN_16 hp, k1 16 rfl]
  have n15 : ∀ p, ¬ p = q → arN Nm q st x 15 p = N 15 p := fun p hp => by rw [arN_15 hp, k1 15 rfl]
  have hnd : ∀ p, ¬ p = q → nd (arN Nm q st x) p = nd N p := fun p hp => by rw [nd_ag (nm 20 rfl), fk_nd hk' p hp]
  have hwq := (jq q hq).2.2.2.2.2.2.2.2.2.2.1 h9
  have haf : aft (arN Nm q st x) (N 34 0) = aft N (N 34 0) := aft_ex (n 32 rfl rfl) (n 33 rfl rfl) hnd _ (fun j hj h2 => hwq j hj h2)
  have c16 : cnt (fun p => decide (0 < arN Nm q st x 16 p)) (N 6 0) = cnt (fun p => decide (0 < N 16 p)) (N 6 0) + 1 := by
    refine cnt_up _ hq ?_ ?_ (fun i hi => ?_)
    · simp [h16]
    · rw [arN_16q]; simp [hst0]
    · rw [n16 i hi]
  refine ⟨?_, ?_, ?_, ?_⟩
  · intro p hp
    rw [n 6 rfl rfl] at hp
    obtain ⟨a1, a2, a3, a4, a5, a6, a7, a8, a9, a10, a11, a12, a13, a14⟩ := jq p hp
    rw [n 8 rfl rfl, n 7 rfl rfl, n 9 rfl rfl, n 36 rfl rfl, n 38 rfl rfl, n 34 rfl rfl, n 32 rfl rfl, n 33 rfl rfl, n 13 rfl rfl, n 5 rfl rfl, n 11 rfl rfl, n 18 rfl rfl, n 17 rfl rfl]
    by_cases e : p = q
    · subst e
      rw [arN_15q, arN_16q]
      exact ⟨a1, a2, by decide, a4, fun z => absurd z (by decide), fun _ => ⟨hst0, h9⟩, Or.inr hst, h304, h404, fun y z => absurd z (h36 y), a11, a12, a13, fun _ => ⟨h18, h17⟩⟩
    · rw [n15 p e, n16 p e]
      exact ⟨a1, a2, a3, a4, a5, a6, a7, a8, a9, a10, a11, a12, a13, a14⟩
  · unfold jR
    rw [nm 20 rfl, nm 28 rfl, nm 26 rfl, n 6 rfl rfl, n 9 rfl rfl, n 12 rfl rfl, n 13 rfl rfl]
    refine ⟨p12, p13, fun p hp => ?_, fun p hp => ?_⟩
    · have e : ¬ p = q := fun z => by
        subst z
        rw [arN_16q] at hp; omega
      rw [n16 p e] at hp
      refine p15 p ?_ e
      rw [k1 6 rfl, k1 16 rfl]; exact hp
    · have e : ¬ p = q := by omega
      rw [n15 p e, n16 p e]
      exact jr.2.2.2 p hp
  · unfold jW
    rw [n 34 rfl rfl, n 32 rfl rfl, n 33 rfl rfl, n 6 rfl rfl, n 35 rfl rfl, n 9 rfl rfl, haf, n 29 rfl rfl, nm 28 rfl, c16]
    exact ⟨w1, w2, w3, w4, by omega, by omega⟩
  · unfold jK
    rw [n 6 rfl rfl, n 4 rfl rfl, n 5 rfl rfl, nm 30 rfl, nm 31 rfl, c16, n 36 rfl rfl, n 37 rfl rfl, n 38 rfl rfl, arN_39, n 0 rfl rfl, n 3 rfl rfl, n 2 rfl rfl, n 21 rfl rfl, n 22 rfl rfl, n 24 rfl rfl, n 25 rfl rfl]
    refine ⟨⟨j1, j2, j3, by omega, j5, j6, j7, j8, by omega, fun h0 p hp hs => ?_⟩, jk2⟩
    by_cases e : p = q
    · omega
    · rw [n16 p e] at hs
      have := j10 h0 p hp hs
      omega
end AR
