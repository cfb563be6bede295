/-! the making -/
def sI (W : List (Nat × Nat)) (L : List (Nat × Nat × Nat × Nat × Nat)) (ad : Nat → Nat → Nat) (M : zM) : Prop := (∀ k i, (k, i) ∈ W → zT M (ad k i) = some (ct k)) ∧ (∀ x j, zI M x j = 0) ∧ (∀ k i j k2 i2, (k, i, j, k2, i2) ∈ L → zR M (ad k i) j = some (ad k2 i2) ∧ (k, i) ∈ W ∧ (k2, i2) ∈ W) ∧ ∀ k i k' i', (k, i) ∈ W → (k', i') ∈ W → ad k i = ad k' i' → k = k' ∧ i = i'
section MK
variable {W : List (Nat × Nat)} {L : List (Nat × Nat × Nat × Nat × Nat)} {ad : Nat → Nat → Nat} {M : zM}
theorem sI.T (s : sI W L ad M) (k i : Nat) (h : (k, i) ∈ W) : zT M (ad k i) = some (ct k) := s.1 k i h
theorem sI.R (s : sI W L ad M) (k i j k2 i2 : Nat) (h : (k, i, j, k2, i2) ∈ L) : zR M (ad k i) j = some (ad k2 i2) := (s.2.2.1 k i j k2 i2 h).1
theorem s_new (s : sI W L ad M) (a n : Nat) {q : Nat} {M' : zM} {t : Nat × Nat} (hn : ¬ (a, n) ∈ W) (hq : zT M q = none) (e : M' = znw M q t) (ht : t = ct a) : sI ((a, n) :: W) L (ad1 ad a n q) M' := by
  obtain ⟨h1, h2, h3, h4⟩ := s
  subst e ht
  have nv : ∀ {k i}, (k, i) ∈ W → ¬ (k = a ∧ i = n) := fun hv z => hn (by rw [← z.1, ← z.2]; exact hv)
  have nq : ∀ {k i}, (k, i) ∈ W → ¬ ad k i = q := fun hv z => by have := h1 _ _ hv; rw [z, hq] at this; cases this
  have cs : ∀ {k i}, (k, i) ∈ (a, n) :: W → (k, i) ∈ W ∨ (k = a ∧ i = n) := fun hv => by
    rcases List.mem_cons.mp hv with z | z
    · injection z with z1 z2; exact Or.inr ⟨z1, z2⟩
    · exact Or.inl z
  refine ⟨fun k i hv => ?_, fun x j => ?_, fun k i j k2 i2 ht => ?_, fun k i k' i' hv hv' => ?_⟩
  · rcases cs hv with hv | ⟨rfl, rfl⟩
    · rw [ad1, if_neg (nv hv), zT_nw, if_neg (nq hv), h1 k i hv]
    · rw [ad1, if_pos ⟨rfl, rfl⟩, zT_nw, if_pos rfl]
  · rw [zI_nw, h2]; split <;> rfl
  · obtain ⟨b1, b2, b3⟩ := h3 k i j k2 i2 ht
    refine ⟨?_, List.mem_cons_of_mem _ b2, List.mem_cons_of_mem _ b3⟩
    rw [ad1, if_neg (nv b2), ad1, if_neg (nv b3), zR_nw, if_neg (nq b2), b1]
  · unfold ad1
    rcases cs hv with hw | ⟨e1, e2⟩
    · rw [if_neg (nv hw)]
      rcases cs hv' with hw' | ⟨e3, e4⟩
      · rw [if_neg (nv hw')]; exact h4 _ _ _ _ hw hw'
      · rw [if_pos ⟨e3, e4⟩]; exact fun z => absurd z (nq hw)
    · rw [if_pos ⟨e1, e2⟩]
      rcases cs hv' with hw' | ⟨e3, e4⟩
      · rw [if_neg (nv hw')]; exact fun z => absurd z.symm (nq hw')
      · exact fun _ => ⟨by rw [e1, e3], by rw [e2, e4]⟩
theorem s_wR (s : sI W L ad M) (k i j k2 i2 : Nat) {x y : Nat} {M' : zM} (h1 : (k, i) ∈ W) (h2 : (k2, i2) ∈ W) (hk : ∀ t, t ∈ L → ¬ (t.1 = k ∧ t.2.1 = i ∧ t.2.2.1 = j)) (e : M' = zwR M x j (some y)) (hx : x = ad k i) (hy : y = ad k2 i2) : sI W ((k, i, j, k2, i2) :: L) ad M' := by
  obtain ⟨s1, s2, s3, s4⟩ := s
  subst e hx hy
  refine ⟨s1, s2, fun a b c d f ht => ?_, s4⟩
  rcases List.mem_cons.mp ht with z | z
  · injection z with z1 z; injection z with z2 z; injection z with z3 z; injection z with z4 z5
    subst z1 z2 z3 z4 z5
    exact ⟨by rw [zR_wR, if_pos ⟨rfl, rfl⟩], h1, h2⟩
  · obtain ⟨b1, b2, b3⟩ := s3 a b c d f z
    refine ⟨?_, b2, b3⟩
    rw [zR_wR, if_neg (fun y => ?_), b1]
    obtain ⟨y1, y2⟩ := s4 _ _ _ _ b2 h1 y.1
    exact hk _ z ⟨y1, y2, y.2⟩
theorem s_wI (s : sI W L ad M) {M' : zM} {a j : Nat} (e : M' = zwI M a j 0) : sI W L ad M' := by
  obtain ⟨s1, s2, s3, s4⟩ := s
  subst e
  refine ⟨s1, fun x j => ?_, s3, s4⟩
  rw [zI_wI, s2]; split <;> rfl
theorem S_step (s : sI W L ad M) {post : zM → Prop} (n r : Nat) {x : Int32} {a0 : Nat} (hx : x = nI r) (ha : a0 = ad 5 0) (hr : r < 6) (hL : (5, 0, 0, 10, 0) ∈ L) (hn : ¬ (4, r) ∈ W) (hk : ∀ t, t ∈ L → ¬ (t.1 = 10 ∧ t.2.1 = 0 ∧ t.2.2.1 = r)) (K : ∀ q M', sI ((4, r) :: W) ((10, 0, r, 4, r) :: L) (ad1 ad 4 r q) M' → w_S_init_15 post n M' a0 (nI (r + 1))) : w_S_init_15 post (n + 1) M a0 x := by
  subst hx ha
  obtain ⟨b1, b2, b3⟩ := s.2.2.1 _ _ _ _ _ hL
  rw [w_S_init_15]
  refine ⟨s.T 5 0 b2, ad 10 0, b1, 6, s.T 10 0 b3, n_not (by rw [n_le (by omega) (by omega)]; omega) (fun q hq M26 e => ?_)⟩
  have s1 := s_new s 4 r hn hq e rfl
  have e10 : ad1 ad 4 r q 10 0 = ad 10 0 := rfl
  unfold w_O_init
  refine ⟨ad 10 0, b1, 6, s1.T 10 0 (List.mem_cons_of_mem _ b3), ?_, (n_in (by omega) (by omega)).mpr hr, fun M36 e2 => ?_⟩
  · have := s1.T 4 r (List.mem_cons_self ..)
    rw [ad1_s] at this; exact this
  · rw [n_cl (by omega)] at e2
    rw [l1, n_add]
    exact K q M36 (s_wR s1 10 0 r 4 r (List.mem_cons_of_mem _ b3) (List.mem_cons_self ..) hk e2 rfl ad1_s.symm)
theorem S_last (s : sI W L ad M) {post : zM → Prop} (n : Nat) {x : Int32} {a0 : Nat} (hx : x = nI 6) (ha : a0 = ad 5 0) (hL : (5, 0, 0, 10, 0) ∈ L) (K : ∀ q15, zT M q15 = none → ∀ M17, M17 = znw M q15 (7, 8) → w_T_init M17 q15 (fun M20 => zT M20 a0 = some (5, 6) ∧ ∀ M22, M22 = zwR M20 a0 1 (some q15) → post M22)) : w_S_init_15 post (n + 1) M a0 x := by
  subst hx ha
  obtain ⟨b1, b2, b3⟩ := s.2.2.1 _ _ _ _ _ hL
  rw [w_S_init_15]
  exact ⟨s.T 5 0 b2, ad 10 0, b1, 6, s.T 10 0 b3, n_yes (by rw [n_le (by omega) (by omega)]; omega) K⟩
theorem C_step (s : sI W L ad M) {post : zM → Prop} (n r : Nat) {x : Int32} {a0 : Nat} (hx : x = nI r) (ha : a0 = ad 1 0) (hr : r < 6) (hL : (1, 0, 0, 11, 0) ∈ L) (hn : ¬ (6, r) ∈ W) (hk : ∀ t, t ∈ L → ¬ (t.1 = 11 ∧ t.2.1 = 0 ∧ t.2.2.1 = r)) (K : ∀ q M', sI ((6, r) :: W) ((11, 0, r, 6, r) :: L) (ad1 ad 6 r q) M' → w_C_init_15 post n M' a0 (nI (r + 1))) : w_C_init_15 post (n + 1) M a0 x := by
  subst hx ha
  obtain ⟨b1, b2, b3⟩ := s.2.2.1 _ _ _ _ _ hL
  rw [w_C_init_15]
  refine ⟨s.T 1 0 b2, ad 11 0, b1, 6, s.T 11 0 b3, n_not (by rw [n_le (by omega) (by omega)]; omega) (fun q hq M26 e => ?_)⟩
  have s1 := s_new s 6 r hn hq e rfl
  unfold w_K_init
  refine ⟨ad 11 0, b1, 6, s1.T 11 0 (List.mem_cons_of_mem _ b3), ?_, (n_in (by omega) (by omega)).mpr hr, fun M36 e2 => ?_⟩
  · have := s1.T 6 r (List.mem_cons_self ..)
    rw [ad1_s] at this; exact this
  · rw [n_cl (by omega)] at e2
    rw [l1, n_add]
    exact K q M36 (s_wR s1 11 0 r 6 r (List.mem_cons_of_mem _ b3) (List.mem_cons_self ..) hk e2 rfl ad1_s.symm)
theorem C_last (s : sI W L ad M) {post : zM → Prop} (n : Nat) {x : Int32} {a0 : Nat} (hx : x = nI 6) (ha : a0 = ad 1 0) (hL : (1, 0, 0, 11, 0) ∈ L) (K : post M) : w_C_init_15 post (n + 1) M a0 x := by
  subst hx ha
  obtain ⟨b1, b2, b3⟩ := s.2.2.1 _ _ _ _ _ hL
  rw [w_C_init_15]
  exact ⟨s.T 1 0 b2, ad 11 0, b1, 6, s.T 11 0 b3, n_yes (by rw [n_le (by omega) (by omega)]; omega) K⟩
def N0 : Nat → Nat → Nat := fun _ _ => 0
def Z0 : Nat → Nat → Int32 := fun _ _ => 0
theorem i_class (s : sI W L ad M) (hW : ∀ k i, cV N0 k i → (k, i) ∈ W) (h1 : (8, 0, 0, 5, 0) ∈ L ∧ (8, 0, 1, 1, 0) ∈ L ∧ (8, 0, 2, 2, 0) ∈ L ∧ (8, 0, 3, 17, 0) ∈ L) (h2 : (5, 0, 0, 10, 0) ∈ L ∧ (5, 0, 1, 7, 0) ∈ L) (h3 : (1, 0, 0, 11, 0) ∈ L) (h4 : (2, 0, 0, 12, 0) ∈ L ∧ (2, 0, 1, 13, 0) ∈ L) (h5 : (7, 0, 0, 14, 0) ∈ L ∧ (7, 0, 1, 15, 0) ∈ L ∧ (7, 0, 2, 16, 0) ∈ L) (h6 : ∀ r, r < 6 → (10, 0, r, 4, r) ∈ L) (h7 : ∀ r, r < 6 → (11, 0, r, 6, r) ∈ L) : cR ad M (fun _ _ _ => 0) (fun k i j => zR M (ad k i) j) (fun _ => 0) 0 N0 Z0 := by
  have v : ∀ k, k < 18 → ¬ (k = 3 ∨ k = 0 ∨ k = 4 ∨ k = 6 ∨ k = 9) → cV N0 k 0 := fun k h h2 => by unfold cV; rw [if_neg (by omega), if_neg (by omega), if_neg (by omega)]; exact ⟨h, by omega, rfl⟩
  have nd0 : ∀ q, nd N0 q = 0 := fun q => rfl
  refine ⟨⟨⟨fun k i hv => s.T k i (hW k i hv), fun k i j hv => s.2.1 _ _, fun k i j hv => rfl, fun k i k' i' hv hv' => s.2.2.2 k i k' i' (hW k i hv) (hW k' i' hv')⟩, ⟨v 1 (by omega) (by omega), v 2 (by omega) (by omega), v 5 (by omega) (by omega), v 7 (by omega) (by omega), v 8 (by omega) (by omega)⟩, ⟨v 10 (by omega) (by omega), v 11 (by omega) (by omega), v 12 (by omega) (by omega), v 13 (by omega) (by omega), v 14 (by omega) (by omega), v 15 (by omega) (by omega), v 16 (by omega) (by omega), v 17 (by omega) (by omega)⟩, fun r hr => by simp [cV]; exact hr, fun r hr => by simp [cV]; exact hr, ⟨s.R _ _ _ _ _ h1.1, s.R _ _ _ _ _ h1.2.1, s.R _ _ _ _ _ h1.2.2.1, s.R _ _ _ _ _ h1.2.2.2⟩, ⟨s.R _ _ _ _ _ h2.1, s.R _ _ _ _ _ h2.2⟩, s.R _ _ _ _ _ h3, ⟨s.R _ _ _ _ _ h4.1, s.R _ _ _ _ _ h4.2⟩, ⟨s.R _ _ _ _ _ h5.1, s.R _ _ _ _ _ h5.2.1, s.R _ _ _ _ _ h5.2.2⟩, fun r hr => s.R _ _ _ _ _ (h6 r hr), fun r hr => s.R _ _ _ _ _ (h7 r hr)⟩, ?_, ?_, ?_, ?_, ?_, ?_, ?_, ?_, ?_⟩
  · exact ⟨⟨rfl, rfl⟩, ⟨rfl, rfl, rfl, rfl⟩, ⟨rfl, rfl⟩, rfl, rfl, rfl⟩
  · exact fun r _ => ⟨rfl, rfl, rfl, rfl⟩
  · exact fun r _ => ⟨fun _ => rfl, fun h => absurd h (Nat.lt_irrefl 0)⟩
  · exact fun q h => absurd h (Nat.not_lt_zero q)
  · exact fun q h => absurd h (Nat.not_lt_zero q)
  · exact ⟨rfl, rfl, fun e h => absurd h (Nat.not_lt_zero e)⟩
  · exact ⟨rfl, rfl, fun e h => absurd h (Nat.not_lt_zero e)⟩
  · exact ⟨rfl, Nat.le_refl _, fun j h => absurd h (Nat.not_lt_zero j), fun P => rfl⟩
  · exact fun q h => absurd h (Nat.not_lt_zero q)
theorem jI_0 : jI 0 N0 := by
  refine ⟨fun q h => absurd h (Nat.not_lt_zero q), ⟨fun _ => Nat.le_refl _, fun q f _ h => absurd h (Nat.lt_irrefl 0), fun _ _ => ⟨rfl, rfl, rfl⟩, fun _ _ => ⟨rfl, rfl, rfl, rfl, rfl⟩⟩, ⟨fun i h => absurd h (Nat.not_lt_zero i), Nat.le_refl _, Nat.zero_le _, Nat.le_refl _, Nat.le_refl _, Nat.zero_le _⟩, ⟨Nat.zero_le _, Nat.le_refl _, Nat.zero_le _, Nat.zero_le _, Nat.zero_le _, Nat.zero_le _, fun h => absurd h (by decide), Nat.zero_le _, Nat.le_refl _, fun _ q h => absurd h (Nat.not_lt_zero q)⟩, fun r _ => ⟨Nat.zero_le _, fun h => absurd h (show ¬ 0 = 1 by decide), Nat.zero_le _, Nat.le_refl _, fun h => absurd h (Nat.lt_irrefl 0)⟩⟩
end MK
def yI (K : List Nat) (am : Nat) (ar : Nat → Nat) (M : zM) : Prop := zT M am = some (9, 40) ∧ (∀ k, k ∈ K → zR M am k = some (ar k) ∧ zT M (ar k) = some (yK k) ∧ ar k ≠ am) ∧ (∀ k k', k ∈ K → k' ∈ K → ar k = ar k' → k = k') ∧ ∀ x j, zI M x j = 0
def ar1 (ar : Nat → Nat) (k q : Nat) : Nat → Nat := fun x => if x = k then q else ar x
theorem ar1_s (ar : Nat → Nat) (k q : Nat) : ar1 ar k q k = q := if_pos rfl
theorem ar1_o {ar : Nat → Nat} {k q x : Nat} (h : ¬ x = k) : ar1 ar k q x = ar x := if_neg h
theorem yi_step {K : List Nat} {am : Nat} {ar : Nat → Nat} {M : zM} (h : yI K am ar M) (k : Nat) {t : Nat × Nat} (ht : t = yK k) (hk : ¬ k ∈ K) {P : zM → Prop} (C : ∀ ar' M', yI (k :: K) am ar' M' → P M') : ∀ q, zT M q = none → ∀ M1, M1 = znw M q t → zT M1 am = some (9, 40) ∧ ∀ M2, M2 = zwR M1 am k (some q) → P M2 := by
  intro q hq M1 e
  subst e ht
  obtain ⟨h1, h2, h3, h4⟩ := h
  have nam : ¬ am = q := fun z => by rw [z, hq] at h1; cases h1
  have nq : ∀ x, x ∈ K → ¬ ar x = q := fun x hx z => by have := (h2 x hx).2.1; rw [z, hq] at this; cases this
  have T1 : zT (znw M q (yK k)) am = some (9, 40) := by rw [zT_nw, if_neg nam, h1]
  refine ⟨T1, fun M2 e => ?_⟩
  subst e
  refine C (ar1 ar k q) _ ⟨T1, fun x hx => ?_, fun x y hx hy => ?_, fun x j => ?_⟩
  · by_cases ex : x = k
    · subst ex
      rw [ar1_s]
      exact ⟨by rw [zR_wR, if_pos ⟨rfl, rfl⟩], by show zT (znw M q (yK x)) q = _; rw [zT_nw, if_pos rfl], fun z => nam z.symm⟩
    · rw [ar1_o ex]
      have hx := (List.mem_cons.mp hx).resolve_left ex
      obtain ⟨a1, a2, a3⟩ := h2 x hx
      exact ⟨by rw [zR_wR, if_neg (fun z => ex z.2), zR_nw, if_neg nam, a1], by show zT (znw M q (yK k)) (ar x) = _; rw [zT_nw, if_neg (nq x hx), a2], a3⟩
  · by_cases ex : x = k
    · by_cases ey : y = k
      · intro _; rw [ex, ey]
      · rw [ex, ar1_s, ar1_o ey]
        exact fun z => absurd z.symm (nq y ((List.mem_cons.mp hy).resolve_left ey))
    · by_cases ey : y = k
      · rw [ey, ar1_s, ar1_o ex]
        exact fun z => absurd z (nq x ((List.mem_cons.mp hx).resolve_left ex))
      · rw [ar1_o ex, ar1_o ey]
        exact h3 x y ((List.mem_cons.mp hx).resolve_left ex) ((List.mem_cons.mp hy).resolve_left ey)
  · show zI (znw M q (yK k)) x j = 0
    rw [zI_nw, h4]; split <;> rfl
def NI (a b : Nat) : Nat → Nat → Nat := fun k j => if k = 20 ∧ a ≤ j ∧ j < 180 then 1 else if k = 21 ∧ b ≤ j ∧ j < 6 then 1 else 0
theorem yI_R {K : List Nat} {am : Nat} {ar : Nat → Nat} {M : zM} (h : yI K am ar M) (hK : ∀ k, yA k = true → k ∈ K) : yR am ar M (NI 0 0) Z0 := by
  obtain ⟨h1, h2, h3, h4⟩ := h
  refine ⟨h1, fun k hk => (h2 k (hK k hk)).1, fun k hk => (h2 k (hK k hk)).2.1, fun k k' hk hk' => h3 k k' (hK k hk) (hK k' hk'), fun k hk => (h2 k (hK k hk)).2.2, fun k j hk => ?_, fun k hk => ?_, fun k j => ?_⟩
  · rw [h4]
    unfold yv NI Z0
    by_cases hz : yZ k = true
    · rw [if_pos hz]
    · rw [if_neg hz]
      by_cases h20 : k = 20 ∧ j < 180
      · rw [if_pos (Or.inl h20), if_pos ⟨h20.1, by omega, h20.2⟩]; rfl
      · by_cases h21 : k = 21 ∧ j < 6
        · rw [if_pos (Or.inr h21), if_neg (by omega), if_pos ⟨h21.1, by omega, h21.2⟩]; rfl
        · rw [if_neg (by omega), if_neg (by omega), if_neg (by omega)]; rfl
  · rw [h4]
    unfold NI
    have : ¬ k = 20 ∧ ¬ k = 21 := ⟨fun z => by subst z; exact absurd hk (by decide), fun z => by subst z; exact absurd hk (by decide)⟩
    rw [if_neg (by omega), if_neg (by omega)]; rfl
  · unfold NI; split
    · omega
    · split <;> omega
theorem yi_249 {am : Nat} {ar : Nat → Nat} {post : zM → Prop} (K : ∀ M', yR am ar M' N0 Z0 → post M') : ∀ d i M, i + d = 6 → yR am ar M (NI 180 i) Z0 → w_Y_init_249 post (d + 1) M am (nI i) := by
  intro d
  induction d with
  | zero =>
    intro i M hi hy
    rw [w_Y_init_249, l6, n_le (by omega) (by omega)]
    refine n_yes (by omega) (K M ?_)
    have : NI 180 i = N0 := by funext k j; unfold NI N0; rw [if_neg (by omega), if_neg (by omega)]
    rw [← this]; exact hy
  | succ d ih =>
    intro i M hi hy
    rw [w_Y_init_249, l6, n_le (by omega) (by omega)]
    refine n_not (by omega) ⟨hy.T, y_get hy 21 20 6 rfl rfl ⟨(n_in (by omega) (by omega)).mpr (by omega), ?_⟩⟩
    rw [n_cl (by omega), l1, n_add]
    refine y_putR hy 21 i 0 rfl (by omega) rfl (by omega) (fun M' hy' => ih (i + 1) M' (by omega) ?_)
    have : un (NI 180 i) 21 i 0 = NI 180 (i + 1) := by
      funext k j
      rw [un_apply]
      unfold NI
      repeat' split
      all_goals first | rfl | (exfalso; omega)
    rw [← this]; exact hy'
theorem yi_227 {am : Nat} {ar : Nat → Nat} {post : zM → Prop} (K : ∀ M', yR am ar M' N0 Z0 → post M') : ∀ d i M, i + d = 180 → yR am ar M (NI i 0) Z0 → w_Y_init_227 post (d + 1) M am (nI i) := by
  intro d
  induction d with
  | zero =>
    intro i M hi hy
    have : i = 180 := by omega
    subst this
    rw [w_Y_init_227, show (180 : Int32) = nI 180 from rfl, n_le (by omega) (by omega)]
    exact n_yes (by omega) ⟨7, yi_249 K 6 0 M (by omega) hy⟩
  | succ d ih =>
    intro i M hi hy
    rw [w_Y_init_227, show (180 : Int32) = nI 180 from rfl, n_le (by omega) (by omega)]
    refine n_not (by omega) ⟨hy.T, y_get hy 20 20 180 rfl rfl ⟨(n_in (by omega) (by omega)).mpr (by omega), ?_⟩⟩
    rw [n_cl (by omega), l1, n_add]
    refine y_putR hy 20 i 0 rfl (by omega) rfl (by omega) (fun M' hy' => ih (i + 1) M' (by omega) ?_)
    have : un (NI i 0) 20 i 0 = NI (i + 1) 0 := by
      funext k j
      rw [un_apply]
      unfold NI
      repeat' split
      all_goals first | rfl | (exfalso; omega)
    rw [← this]; exact hy'
theorem i_ref {am : Nat} {M : zM} (h0 : yI [] am (fun _ => 0) M) {post : zM → Prop} (K : ∀ ar M', yR am ar M' N0 Z0 → post M') : w_Y_init M am post := by
  unfold w_Y_init
  refine yi_step h0 0 rfl (by decide) (fun ar1 M1 h1 => ?_)
  refine yi_step h1 1 rfl (by decide) (fun ar2 M2 h2 => ?_)
  refine yi_step h2 2 rfl (by decide) (fun ar3 M3 h3 => ?_)
  refine yi_step h3 3 rfl (by decide) (fun ar4 M4 h4 => ?_)
  refine yi_step h4 7 rfl (by decide) (fun ar5 M5 h5 => ?_)
  refine yi_step h5 8 rfl (by decide) (fun ar6 M6 h6 => ?_)
  refine yi_step h6 9 rfl (by decide) (fun ar7 M7 h7 => ?_)
  refine yi_step h7 10 rfl (by decide) (fun ar8 M8 h8 => ?_)
  refine yi_step h8 11 rfl (by decide) (fun ar9 M9 h9 => ?_)
  refine yi_step h9 12 rfl (by decide) (fun ar10 M10 h10 => ?_)
  refine yi_step h10 13 rfl (by decide) (fun ar11 M11 h11 => ?_)
  refine yi_step h11 14 rfl (by decide) (fun ar12 M12 h12 => ?_)
  refine yi_step h12 15 rfl (by decide) (fun ar13 M13 h13 => ?_)
  refine yi_step h13 16 rfl (by decide) (fun ar14 M14 h14 => ?_)
  refine yi_step h14 17 rfl (by decide) (fun ar15 M15 h15 => ?_)
  refine yi_step h15 18 rfl (by decide) (fun ar16 M16 h16 => ?_)
  refine yi_step h16 19 rfl (by decide) (fun ar17 M17 h17 => ?_)
  refine yi_step h17 20 rfl (by decide) (fun ar18 M18 h18 => ?_)
  refine yi_step h18 21 rfl (by decide) (fun ar19 M19 h19 => ?_)
  refine yi_step h19 22 rfl (by decide) (fun ar20 M20 h20 => ?_)
  refine yi_step h20 23 rfl (by decide) (fun ar21 M21 h21 => ?_)
  refine yi_step h21 24 rfl (by decide) (fun ar22 M22 h22 => ?_)
  refine yi_step h22 25 rfl (by decide) (fun ar23 M23 h23 => ?_)
  refine yi_step h23 26 rfl (by decide) (fun ar24 M24 h24 => ?_)
  refine yi_step h24 27 rfl (by decide) (fun ar25 M25 h25 => ?_)
  refine yi_step h25 32 rfl (by decide) (fun ar26 M26 h26 => ?_)
  refine yi_step h26 33 rfl (by decide) (fun ar27 M27 h27 => ?_)
  have hK : ∀ k, yA k = true → k ∈ ([33, 32, 27, 26, 25, 24, 23, 22, 21, 20, 19, 18, 17, 16, 15, 14, 13, 12, 11, 10, 9, 8, 7, 3, 2, 1, 0] : List Nat) := by
    intro k hk
    have h34 : k < 34 := by
      rcases Nat.lt_or_ge k 34 with h | h
      · exact h
      · simp [yA] at hk; omega
    exact (show ∀ k, k < 34 → yA k = true → k ∈ ([33, 32, 27, 26, 25, 24, 23, 22, 21, 20, 19, 18, 17, 16, 15, 14, 13, 12, 11, 10, 9, 8, 7, 3, 2, 1, 0] : List Nat) by decide) k h34 hk
  exact ⟨181, yi_227 (fun M' hy => K _ M' hy) 180 0 _ (by omega) (yI_R h27 hK)⟩
