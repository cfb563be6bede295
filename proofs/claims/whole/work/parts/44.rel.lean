/-! class and reference, side by side: N, Z are the reference's numbers -/
def rft (D : Nat → Nat → Nat → Int32) (q : Nat) (x : Int32) : Nat → Bool
  | 0 => false
  | k + 1 => rft D q x k || decide (D 18 q k = x)
def elig (N : Nat → Nat → Nat) (q : Nat) : Bool := decide (0 < N 16 q) && decide (0 < nd N q)
def cnt (P : Nat → Bool) : Nat → Nat
  | 0 => 0
  | k + 1 => cnt P k + (if P k = true then 1 else 0)
def cV (N : Nat → Nat → Nat) (k i : Nat) : Prop := if k = 3 then i < N 6 0 else if k = 0 ∨ k = 18 then i < N 6 0 ∧ 0 < N 16 i else if k = 4 ∨ k = 6 then i < 6 else k < 18 ∧ k ≠ 9 ∧ i = 0
def rS (D : Nat → Nat → Nat → Int32) (N : Nat → Nat → Nat) : Prop := (D 8 0 4 = nI (N 6 0) ∧ D 8 0 5 = nI (N 5 0)) ∧ (D 5 0 2 = nI (N 4 0) ∧ D 5 0 3 = nI (N 39 0) ∧ D 5 0 4 = nI (N 36 0) ∧ D 5 0 5 = nI (N 38 0)) ∧ (D 1 0 1 = nI (N 29 0) ∧ D 1 0 3 = nI (N 37 0)) ∧ D 7 0 4 = nI (N 28 0) ∧ D 7 0 6 = nI (N 30 0) ∧ D 7 0 7 = nI (N 31 0)
def rO (D : Nat → Nat → Nat → Int32) (N : Nat → Nat → Nat) (Z : Nat → Nat → Int32) : Prop := ∀ r, r < 6 → D 4 r 0 = nI (N 0 r) ∧ D 4 r 1 = nI (N 3 r) ∧ D 4 r 2 = Z 1 r ∧ D 4 r 3 = nI (N 2 r)
def rK (D : Nat → Nat → Nat → Int32) (N : Nat → Nat → Nat) (Z : Nat → Nat → Int32) : Prop := ∀ r, r < 6 → (N 21 r = 0 → D 6 r 0 = 0) ∧ (0 < N 21 r → D 6 r 0 = 1 ∧ D 6 r 1 = nI (N 22 r) ∧ D 6 r 2 = Z 23 r ∧ D 6 r 3 = nI (N 24 r) ∧ D 6 r 4 = nI (N 25 r) ∧ D 6 r 5 = nI (N 21 r - 1))
def rQ (D : Nat → Nat → Nat → Int32) (N : Nat → Nat → Nat) (Z : Nat → Nat → Int32) : Prop := ∀ q, q < N 6 0 → (D 3 q 0 = nI q ∧ D 3 q 1 = nI (N 8 q) ∧ D 3 q 2 = nI (N 7 q) ∧ D 3 q 3 = Z 10 q ∧ D 3 q 4 = nI (N 11 q) ∧ D 3 q 5 = nI (N 12 q) ∧ D 3 q 6 = nI (N 13 q)) ∧ D 3 q 8 = (if N 15 q = 1 then 1 else 0) ∧ D 3 q 9 = nI (N 9 q) ∧ D 3 q 10 = (if N 9 q = 1 ∨ N 9 q = 2 ∨ N 9 q = 8 then Z 14 q else 0) ∧ (N 9 q = 0 → D 3 q 7 = Z 14 q)
def rG (D : Nat → Nat → Nat → Int32) (N : Nat → Nat → Nat) (q : Nat) : Prop := ∃ c, c ≤ 3 ∧ D 0 q 2 = nI c ∧ (c = 0 ↔ nd N q = 0) ∧ ∀ e, e < 1073741823 → (rft D q (nI e) c = true ↔ (N 20 (3 * q) = e + 1 ∨ N 20 (3 * q + 1) = e + 1 ∨ N 20 (3 * q + 2) = e + 1))
def rA (D : Nat → Nat → Nat → Int32) (N : Nat → Nat → Nat) (Z : Nat → Nat → Int32) : Prop := ∀ q, q < N 6 0 → 0 < N 16 q → (D 0 q 0 = nI (N 16 q) ∧ D 0 q 3 = nI (nd N q)) ∧ D 0 q 7 = (if N 15 q = 2 then 1 else 0) ∧ D 0 q 8 = (if N 15 q = 3 then 1 else 0) ∧ D 0 q 9 = bI (ost N q) ∧ rG D N q ∧ (N 7 q = 0 → N 16 q < 400 → D 0 q 4 = nI (N 17 q) ∧ D 0 q 5 = nI (N 18 q)) ∧ (N 7 q = 0 → N 16 q = 200 → D 0 q 6 = Z 19 q)
def rT (D : Nat → Nat → Nat → Int32) (N : Nat → Nat → Nat) (Z : Nat → Nat → Int32) : Prop := D 7 0 5 = nI (aft N (N 35 0)) ∧ D 1 0 2 = nI (aft N (N 34 0)) ∧ ∀ e, e < N 28 0 → N 28 0 ≤ e + 5 → D 14 0 (e % 5) = nI (N 26 e) ∧ D 15 0 (e % 5) = Z 27 e
def rF (D : Nat → Nat → Nat → Int32) (N : Nat → Nat → Nat) : Prop := D 2 0 2 = nI (N 34 0) ∧ D 2 0 3 = nI (N 35 0) ∧ ∀ i, i < N 34 0 → D 12 0 i = nI (N 32 i) ∧ D 13 0 i = nI (N 33 i)
def rL (ad : Nat → Nat → Nat) (D : Nat → Nat → Nat → Int32) (E : Nat → Nat → Nat → Option Nat) (N : Nat → Nat → Nat) (qa : Nat → Nat) (c : Nat) : Prop := D 7 0 3 = nI c ∧ c ≤ N 6 0 ∧ (∀ j, j < c → E 16 0 j = some (ad 0 (qa j)) ∧ qa j < N 6 0 ∧ 0 < N 16 (qa j)) ∧ ∀ P : Nat → Bool, cnt (fun j => P (qa j)) c = cnt (fun q => elig N q && P q) (N 6 0)
def rE (ad : Nat → Nat → Nat) (E : Nat → Nat → Nat → Option Nat) (N : Nat → Nat → Nat) : Prop := ∀ q, q < N 6 0 → E 17 0 q = some (ad 3 q) ∧ E 3 q 11 = (if N 16 q = 0 then none else some (ad 0 q)) ∧ (0 < N 16 q → E 0 q 1 = some (ad 18 q))
def cR (ad : Nat → Nat → Nat) (M : zM) (D : Nat → Nat → Nat → Int32) (E : Nat → Nat → Nat → Option Nat) (qa : Nat → Nat) (c : Nat) (N : Nat → Nat → Nat) (Z : Nat → Nat → Int32) : Prop :=
  zX (cV N) ad M D E ∧ rS D N ∧ rO D N Z ∧ rK D N Z ∧ rQ D N Z ∧ rA D N Z ∧ rT D N Z ∧ rF D N ∧ rL ad D E N qa c ∧ rE ad E N
/-! what is always so -/
def jQ (N : Nat → Nat → Nat) : Prop := ∀ q, q < N 6 0 → N 8 q < 6 ∧ N 7 q ≤ 1 ∧ N 15 q ≤ 3 ∧ N 9 q ≤ 8 ∧ (N 15 q = 1 → N 16 q = 0 ∧ N 9 q = 0) ∧ (N 15 q = 2 ∨ N 15 q = 3 → 0 < N 16 q ∧ N 9 q = 0) ∧ (N 16 q = 0 ∨ N 16 q = 200 ∨ N 16 q = 304 ∨ N 16 q = 404 ∨ N 16 q = 412) ∧ (N 16 q = 304 → N 7 q = 0) ∧ (N 16 q = 404 → N 7 q = 0) ∧ (N 36 0 = 1 → N 38 0 ≤ q → N 16 q = 0) ∧ (N 9 q = 0 → ∀ i, i < N 34 0 → N 32 i ≠ 2 → N 33 i ≠ q) ∧ N 13 q ≤ N 5 0 ∧ N 11 q ≤ 1000 ∧ (0 < N 16 q → N 18 q ≤ 1000 ∧ (N 7 q = 0 → N 16 q < 400 → 0 < N 17 q))
def jR (N : Nat → Nat → Nat) : Prop := (∀ f, N 20 f ≤ N 28 0) ∧ (∀ q f, f < 3 → 0 < N 20 (3 * q + f) → N 26 (N 20 (3 * q + f) - 1) = f) ∧ (∀ q, N 6 0 ≤ q ∨ N 16 q = 0 → N 20 (3 * q) = 0 ∧ N 20 (3 * q + 1) = 0 ∧ N 20 (3 * q + 2) = 0) ∧ ∀ q, N 6 0 ≤ q → N 9 q = 0 ∧ N 12 q = 0 ∧ N 13 q = 0 ∧ N 15 q = 0 ∧ N 16 q = 0
def jW (N : Nat → Nat → Nat) : Prop := (∀ i, i < N 34 0 → N 32 i ≤ 2 ∧ (N 32 i ≠ 2 → N 33 i < N 6 0)) ∧ N 35 0 ≤ N 34 0 ∧ N 34 0 ≤ cnt (fun q => !decide (N 9 q = 0)) (N 6 0) + aft N (N 34 0) ∧ aft N (N 34 0) ≤ N 29 0 ∧ N 29 0 ≤ N 28 0 ∧ N 28 0 ≤ 3 * cnt (fun q => decide (0 < N 16 q)) (N 6 0)
def jK (N : Nat → Nat → Nat) (k : Nat) : Prop := (N 6 0 ≤ 60 ∧ N 4 0 ≤ k ∧ N 5 0 ≤ 1000 * k ∧ N 30 0 + N 31 0 ≤ 3 * cnt (fun q => decide (0 < N 16 q)) (N 6 0) ∧ N 36 0 ≤ 1 ∧ N 37 0 ≤ 1 ∧ (N 37 0 = 1 → N 36 0 = 1) ∧ N 38 0 ≤ 60 ∧ N 39 0 ≤ N 6 0 ∧ (N 36 0 = 0 → ∀ q, q < N 6 0 → 0 < N 16 q → q < N 39 0)) ∧ ∀ r, r < 6 → N 0 r ≤ 1 ∧ (N 0 r = 1 → 0 < N 3 r) ∧ N 2 r ≤ 1000 ∧ N 21 r ≤ N 6 0 ∧ (0 < N 21 r → 0 < N 22 r ∧ N 24 r ≤ 1000 ∧ N 25 r ≤ N 5 0)
def jI (k : Nat) (N : Nat → Nat → Nat) : Prop := jQ N ∧ jR N ∧ jW N ∧ jK N k
def zJ (k ax am : Nat) (M1 M2 : zM) : Prop := ∃ (ad : Nat → Nat → Nat) (ar : Nat → Nat) (D : Nat → Nat → Nat → Int32) (E : Nat → Nat → Nat → Option Nat) (qa : Nat → Nat) (c : Nat) (N : Nat → Nat → Nat) (Z : Nat → Nat → Int32), ax = ad 8 0 ∧ yR am ar M2 N Z ∧ cR ad M1 D E qa c N Z ∧ jI k N
theorem zJ_x {k ax am : Nat} {M1 M2 : zM} (h : zJ k ax am M1 M2) : zT M1 ax = some (8, 6) := by
  obtain ⟨ad, ar, D, E, qa, c, N, Z, rfl, hy, hc, hj⟩ := h
  exact hc.1.T hc.1.v8
theorem zJ_m {k ax am : Nat} {M1 M2 : zM} (h : zJ k ax am M1 M2) : zT M2 am = some (9, 40) := by
  obtain ⟨ad, ar, D, E, qa, c, N, Z, rfl, hy, hc, hj⟩ := h
  exact hy.T
theorem jI_up {k : Nat} {N : Nat → Nat → Nat} (h : jI k N) : jI (k + 1) N := by
  obtain ⟨h1, h2, h3, ⟨a1, a2, a3, a4⟩, h5⟩ := h
  exact ⟨h1, h2, h3, ⟨a1, by omega, by omega, a4⟩, h5⟩
theorem zJ_skip {k ax am : Nat} {M1 M2 : zM} (h : zJ k ax am M1 M2) (hk : k < 512) : zJ (k + 1) ax am M1 M2 := by
  obtain ⟨ad, ar, D, E, qa, c, N, Z, hx, hy, hc, hj⟩ := h
  exact ⟨ad, ar, D, E, qa, c, N, Z, hx, hy, hc, jI_up hj⟩
/-! what a change of one number leaves -/
theorem nd_un {N : Nat → Nat → Nat} {k j v : Nat} (hk : ¬ 20 = k) (q : Nat) : nd (un N k j v) q = nd N q := by simp [nd, un, hk]
theorem aft_un {N : Nat → Nat → Nat} {k j v : Nat} (h1 : ¬ 20 = k) (h2 : ¬ 32 = k) (h3 : ¬ 33 = k) : ∀ i, aft (un N k j v) i = aft N i
  | 0 => rfl
  | i + 1 => by
    simp only [aft, aft_un h1 h2 h3 i, nd_un h1]
    simp only [un, h2, h3, false_and, if_false]
theorem opn_un {N : Nat → Nat → Nat} {k j v : Nat} (h2 : ¬ 32 = k) (h3 : ¬ 33 = k) (q : Nat) : ∀ i, opn (un N k j v) q i = opn N q i
  | 0 => rfl
  | i + 1 => by
    simp only [opn, opn_un h2 h3 q i]
    simp only [un, h2, h3, false_and, if_false]
theorem ost_un {N : Nat → Nat → Nat} {k j v : Nat} (h0 : ¬ 16 = k) (h1 : ¬ 20 = k) (h2 : ¬ 32 = k) (h3 : ¬ 33 = k) (h4 : ¬ 35 = k) (q : Nat) : ost (un N k j v) q = ost N q := by
  simp only [ost, nd_un h1, opn_un h2 h3]
  simp only [un, h0, h4, false_and, if_false]
theorem elig_un {N : Nat → Nat → Nat} {k j v : Nat} (h0 : ¬ 16 = k) (h1 : ¬ 20 = k) (q : Nat) : elig (un N k j v) q = elig N q := by
  simp only [elig, nd_un h1]
  simp only [un, h0, false_and, if_false]
theorem rft_u3 {D : Nat → Nat → Nat → Int32} {k i j : Nat} {v : Int32} (h : ¬ 18 = k) (q : Nat) (x : Int32) : ∀ c, rft (u3 D k i j v) q x c = rft D q x c
  | 0 => rfl
  | c + 1 => by
    simp only [rft, rft_u3 h q x c]
    simp only [u3, h, false_and, if_false]
theorem cV_un {N : Nat → Nat → Nat} {k j v : Nat} (h0 : ¬ 16 = k) (h1 : ¬ 6 = k) : cV (un N k j v) = cV N := by
  funext a b
  simp only [cV]
  simp only [un, h0, h1, false_and, if_false]
theorem rG_un {D : Nat → Nat → Nat → Int32} {N : Nat → Nat → Nat} {q k j v : Nat} (h1 : ¬ 20 = k) (h : rG D N q) : rG D (un N k j v) q := by
  obtain ⟨c, a, b, d, e⟩ := h
  refine ⟨c, a, b, by rw [nd_un h1]; exact d, fun z hz => ?_⟩
  simp only [un, h1, false_and, if_false]
  exact e z hz
theorem rG_u3 {D : Nat → Nat → Nat → Int32} {N : Nat → Nat → Nat} {q k i j : Nat} {v : Int32} (h1 : ¬ 18 = k) (h2 : ¬ (0 = k ∧ q = i ∧ 2 = j)) (h : rG D N q) : rG (u3 D k i j v) N q := by
  obtain ⟨c, a, b, d, e⟩ := h
  refine ⟨c, a, by rw [u3_n D v h2]; exact b, d, fun z hz => ?_⟩
  rw [rft_u3 h1]
  exact e z hz
