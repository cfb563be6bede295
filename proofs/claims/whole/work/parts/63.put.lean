def kf (k : Nat) : Bool := k == 20 || k == 26 || k == 28 || k == 30 || k == 31
theorem fN_f {N : Nat → Nat → Nat} {q m o : Nat} (ho : o ≤ N 28 0 + 1) : (∀ k, kf k = false → fN N q m o k = N k) ∧ (∀ x, fN N q m o 20 x = if ¬ o = 0 ∧ x = 3 * q + m then o else N 20 x) ∧ (fN N q m o 28 0 = if o ≤ N 28 0 then N 28 0 else N 28 0 + 1) ∧ (∀ x, x < N 28 0 → fN N q m o 26 x = N 26 x) ∧ (o = N 28 0 + 1 → fN N q m o 26 (N 28 0) = m) ∧ fN N q m o 30 0 = (if o = 0 then N 30 0 + 1 else N 30 0) ∧ fN N q m o 31 0 = (if o = 0 then N 31 0 else N 31 0 + 1) := by
  unfold fN
  by_cases h0 : o = 0
  · subst h0
    simp only [if_true]
    refine ⟨fun k hk => ?_, ?_, ?_, ?_, ?_, ?_, ?_⟩
    · have : ¬ k = 20 ∧ ¬ k = 26 ∧ ¬ k = 28 ∧ ¬ k = 30 ∧ ¬ k = 31 := by simp [kf] at hk; omega
      funext j; simp [un, this]
    all_goals simp [un]
  · by_cases h1 : o ≤ N 28 0
    · simp only [h0, h1, if_false, if_true]
      refine ⟨fun k hk => ?_, ?_, ?_, ?_, ?_, ?_, ?_⟩
      · have : ¬ k = 20 ∧ ¬ k = 26 ∧ ¬ k = 28 ∧ ¬ k = 30 ∧ ¬ k = 31 := by simp [kf] at hk; omega
        funext j; simp [un, this]
      · simp [un]
      · simp [un]
      · simp [un]
      · intro z; omega
      · simp [un]
      · simp [un]
    · have : o = N 28 0 + 1 := by omega
      simp only [h0, h1, if_false]
      refine ⟨fun k hk => ?_, ?_, ?_, ?_, ?_, ?_, ?_⟩
      · have : ¬ k = 20 ∧ ¬ k = 26 ∧ ¬ k = 28 ∧ ¬ k = 30 ∧ ¬ k = 31 := by simp [kf] at hk; omega
        funext j; simp [un, this]
      · simp [un, this]
      · simp [un]
      · intro x hx; simp [un]; omega
      · simp [un]
      · simp [un]
      · simp [un]
theorem aft_ex {N N' : Nat → Nat → Nat} {q : Nat} (h32 : N' 32 = N 32) (h33 : N' 33 = N 33) (hnd : ∀ p, ¬ p = q → nd N' p = nd N p) : ∀ n, (∀ i, i < n → N 32 i ≠ 2 → N 33 i ≠ q) → aft N' n = aft N n
  | 0, _ => rfl
  | n + 1, h => by
    simp only [aft]
    rw [aft_ex h32 h33 hnd n (fun i hi => h i (by omega)), h32, h33]
    by_cases h2 : N 32 n = 2
    · rw [if_pos h2, if_pos h2]
    · rw [if_neg h2, if_neg h2, hnd _ (h n (by omega) h2)]
theorem fN_nd {N : Nat → Nat → Nat} {q m o : Nat} (ho : o ≤ N 28 0 + 1) (hm : m < 3) (h0 : N 20 (3 * q + m) = 0) : (∀ p, ¬ p = q → nd (fN N q m o) p = nd N p) ∧ nd (fN N q m o) q = if o = 0 then nd N q else max (nd N q) o := by
  obtain ⟨f1, f2, -⟩ := fN_f (q := q) (m := m) ho
  refine ⟨fun p hp => ?_, ?_⟩
  · unfold nd
    rw [f2, f2, f2, if_neg (fun z => by omega), if_neg (fun z => by omega), if_neg (fun z => by omega)]
  · unfold nd
    rw [f2, f2, f2]
    by_cases e0 : o = 0
    · simp [e0]
    · rcases (show m = 0 ∨ m = 1 ∨ m = 2 by omega) with rfl | rfl | rfl
      · simp [e0] at h0 ⊢; omega
      · simp [e0] at h0 ⊢; omega
      · simp [e0] at h0 ⊢; omega
theorem fO_26 {N : Nat → Nat → Nat} {Z : Nat → Nat → Int32} {q f : Nat} {v : Int32} {o : Nat} (h : fO N Z q f v o) (h0 : 0 < o) (h1 : o ≤ N 28 0) : N 26 (o - 1) = f := by
  rcases h with ⟨a1, a2, a3⟩ | ⟨a1, a2, a3, a4⟩ | ⟨a1, a2⟩
  · rw [a3]; exact fnd_26 _ _ _ _ _ _ a1
  · omega
  · omega
theorem pI_step {N : Nat → Nat → Nat} {Z : Nat → Nat → Int32} {q m C o : Nat} {v : Int32} (p : pI N q m C) (hm : m < 3) (hO : fO N Z q m v o) : pI (fN N q m o) q (m + 1) C := by
  have ho := fO_le hO
  obtain ⟨⟨p1, p2, p3, p4⟩, p5, ⟨p6, p7, p8⟩, ⟨p9, p10, p11⟩, p12, p13, p14, p15⟩ := p
  obtain ⟨f1, f2, f3, f4, f5, f6, f7⟩ := fN_f (q := q) (m := m) ho
  obtain ⟨g1, g2⟩ := fN_nd (q := q) (m := m) ho hm (p14 m (by omega) hm)
  have ha := aft_ex (f1 32 rfl) (f1 33 rfl) g1 (N 34 0) (fun i hi h2 => (p5 i hi h2).1)
  unfold pI
  rw [f1 6 rfl, f1 16 rfl, f1 34 rfl, f1 32 rfl, f1 33 rfl, f1 35 rfl, ha, f3, f6, f7]
  refine ⟨⟨p1, p2, p3, p4⟩, p5, ⟨p6, p7, p8⟩, ⟨by split <;> omega, by split <;> omega, by omega⟩, fun x => ?_, fun p f hf h => ?_, fun f h1 h2 => ?_, fun p hp hpq => ?_⟩
  · rw [f2]
    have := p12 x
    split <;> split <;> omega
  · rw [f2] at h ⊢
    by_cases e : ¬ o = 0 ∧ 3 * p + f = 3 * q + m
    · rw [if_pos e] at h ⊢
      have : f = m := by omega
      subst this
      by_cases h1 : o ≤ N 28 0
      · rw [f4 _ (by omega)]
        exact fO_26 hO (by omega) h1
      · have : o = N 28 0 + 1 := by omega
        rw [this, show N 28 0 + 1 - 1 = N 28 0 by omega, ← this]
        exact f5 this
    · rw [if_neg e] at h ⊢
      have := p12 (3 * p + f)
      rw [f4 _ (by omega)]
      exact p13 p f hf h
  · rw [f2, if_neg (fun z => by omega)]
    exact p14 f (by omega) h2
  · rw [f2, f2, f2, if_neg (fun z => by omega), if_neg (fun z => by omega), if_neg (fun z => by omega)]
    exact p15 p hp hpq
section PT
variable {V : Nat → Nat → Prop} {ad : Nat → Nat → Nat} {M : zM} {D : Nat → Nat → Nat → Int32} {E : Nat → Nat → Nat → Option Nat} {qa : Nat → Nat} {c : Nat} {N : Nat → Nat → Nat} {Z : Nat → Nat → Int32}
def fr (q : Nat) (D D' : Nat → Nat → Nat → Int32) : Prop := (∀ k i j, ¬ ((k = 0 ∨ k = 18) ∧ i = q) → ¬ (k = 7 ∧ i = 0 ∧ (j = 4 ∨ j = 6 ∨ j = 7)) → ¬ k = 14 → ¬ k = 15 → D' k i j = D k i j) ∧ ∀ j, ¬ j = 2 → ¬ j = 3 → D' 0 q j = D 0 q j
def mF (V : Nat → Nat → Prop) (ad : Nat → Nat → Nat) (D : Nat → Nat → Nat → Int32) (E : Nat → Nat → Nat → Option Nat) (qa : Nat → Nat) (c : Nat) (N : Nat → Nat → Nat) (Z : Nat → Nat → Int32) (q m : Nat) : Prop := tF V ad D E qa c N Z ∧ (V 0 q ∧ V 18 q ∧ E 0 q 1 = some (ad 18 q)) ∧ (∀ j, j < c → ¬ qa j = q) ∧ (∃ cc, cc ≤ m ∧ D 0 q 2 = nI cc ∧ (cc = 0 ↔ nd N q = 0) ∧ ∀ e, e < 1073741823 → (rft D q (nI e) cc = true ↔ (N 20 (3 * q) = e + 1 ∨ N 20 (3 * q + 1) = e + 1 ∨ N 20 (3 * q + 2) = e + 1))) ∧ D 0 q 3 = nI (nd N q) ∧ D 7 0 6 = nI (N 30 0) ∧ D 7 0 7 = nI (N 31 0)
theorem n_m (a : Nat) : nI a + (-1 : Int32) = nI a - nI 1 := (Int32.sub_eq_add_neg (nI a) (nI 1)).symm
theorem c_find_loop (h : zX V ad M D E) (t : tF V ad D E qa c N Z) (hb : ∀ k j, N k j < 1073741824) (h28 : N 28 0 ≤ 180) {post : Int32 → zM → Prop} {f : Nat} {v : Int32} (hf : f < 3) (K : post (nI (fg N Z f v) - nI 1) M) : ∀ d, d ≤ min (N 28 0) 5 → fg N Z f v = fnd N Z f v (N 28 0 - 5) d → w_T_findLive_18 post (d + 1) M (ad 7 0) (nI f) v (nI (N 28 0 - 5)) (nI (N 28 0 - 5 + d) - nI 1) := by
  intro d
  induction d with
  | zero =>
    intro _ hg
    rw [w_T_findLive_18]
    refine n_yes ?_ ?_
    · rw [Int32.lt_iff_toInt_lt, pk_sub_toInt (by omega) (by omega), nI_toInt (by omega)]; omega
    · rw [hg] at K; exact K
  | succ d ih =>
    intro hd hg
    rw [w_T_findLive_18, n_sub (by omega), show N 28 0 - 5 + (d + 1) - 1 = N 28 0 - 5 + d by omega]
    obtain ⟨e1, e2⟩ := t.2.2.1.2.2 (N 28 0 - 5 + d) (by omega) (by omega)
    have b := hb 26 (N 28 0 - 5 + d)
    simp only [fnd] at hg
    refine n_not (by rw [n_lt (by omega) (by omega)]; omega) ⟨h.T h.v7, c_name h (by omega) ?_⟩
    rw [e1, n_eq (by omega) (by omega), n_m]
    refine n_ite (fun h26 => ⟨h.T h.v7, c_value h (by omega) ?_⟩) (fun h26 => ih (by omega) (by rw [hg, if_neg (fun z => h26 z.1)]))
    rw [e2]
    refine n_ite (fun h27 => ?_) (fun h27 => ih (by omega) (by rw [hg, if_neg (fun z => h27 z.2)]))
    rw [hg, if_pos ⟨h26, h27⟩, n_sub (by omega), show N 28 0 - 5 + d + 1 - 1 = N 28 0 - 5 + d by omega] at K
    exact K
theorem c_find (h : zX V ad M D E) (t : tF V ad D E qa c N Z) (hb : ∀ k j, N k j < 1073741824) (h28 : N 28 0 ≤ 180) {post : Int32 → zM → Prop} {f : Nat} {v : Int32} (hf : f < 3) (K : post (nI (fg N Z f v) - nI 1) M) : w_T_findLive M (ad 7 0) (nI f) v post := by
  unfold w_T_findLive
  refine ⟨h.T h.v7, c_live h t hb ⟨h.T h.v7, min (N 28 0) 5 + 1, ?_⟩⟩
  rw [h.I h.v7, t.2.2.1.1, n_sub (by omega), show N 28 0 - min (N 28 0) 5 = N 28 0 - 5 by omega]
  have := c_find_loop h t hb h28 hf K (min (N 28 0) 5) (Nat.le_refl _) rfl
  rw [show N 28 0 - 5 + min (N 28 0) 5 = N 28 0 by omega] at this
  exact this
theorem c_room (h : zX V ad M D E) {q m C : Nat} (f : mF V ad D E qa c N Z q m) (hb : ∀ k j, N k j < 1073741824) (p : pI N q m C) {post : Int32 → zM → Prop} (K : ∀ x8 : Int32, ((¬ x8 = 0) ↔ frm N q) → post x8 M) : w_T_hasRoomFor M (ad 7 0) (ad 0 q) post := by
  obtain ⟨t, ⟨v0, v18, e01⟩, hqa, ⟨cc, g1, g2, g3, g4⟩, d3, d6, d7⟩ := f
  obtain ⟨⟨p1, p2, p3, p4⟩, p5, ⟨p6, p7, p8⟩, ⟨p9, p10, p11⟩, p12, p13, p14, p15⟩ := p
  have aL := aft_le N (j := N 35 0) (k := N 34 0) p6
  have oq : ost N q = false := by simp [ost, p3]
  unfold w_T_hasRoomFor
  refine ⟨h.T h.v7, c_live h t hb ?_⟩
  rw [l5, n_le (by omega) (by omega)]
  refine n_ite (fun h5 => ⟨h.T h.v7, ?_⟩) (fun h5 => K 1 ⟨fun _ => Or.inl (by omega), fun _ => by decide⟩)
  rw [h.I h.v7, h.I h.v7, t.2.2.1.1, t.2.2.1.2.1, n_sub (by omega), n_le (by omega) (by omega)]
  refine n_ite (fun ha => K 0 ⟨fun z => absurd rfl z, fun z => z.elim (fun y => by omega) (fun y => by omega)⟩) (fun ha => c_refs h t (by omega) ?_)
  have hu : use N (N 28 0 - 5) (some q) (N 6 0) = cnt (fun p => ost N p && refs N (N 28 0 - 5) p) (N 6 0) + if refs N (N 28 0 - 5) q = true then 1 else 0 := by rw [use_ex oq, use_cnt p13, if_pos p1, use1_refs (p13 q)]
  have cl := cnt_le (fun p => ost N p && refs N (N 28 0 - 5) p) (N 6 0)
  rw [l0, n_eq (by omega) (by omega)]
  refine n_ite (fun h0 => ⟨h.T v0, c_refers h v0 v18 e01 g2 (by omega) ?_⟩) (fun h0 => K 0 ⟨fun z => absurd rfl z, fun z => z.elim (fun y => by omega) (fun y => ?_)⟩)
  · rw [rG_refs (by omega) g4]
    by_cases hr : refs N (N 28 0 - 5) q = true
    · rw [hr]
      refine n_not (by decide) (K 0 ⟨fun z => absurd rfl z, fun z => z.elim (fun y => by omega) (fun y => ?_)⟩)
      have := y.2
      rw [hu, if_pos hr] at this
      omega
    · rw [show refs N (N 28 0 - 5) q = false by simpa using hr]
      refine n_yes rfl (K 1 ⟨fun _ => Or.inr ⟨by omega, ?_⟩, fun _ => by decide⟩)
      rw [hu, if_neg hr, h0]
  · have := y.2
    rw [hu] at this
    omega
theorem c_make (h : zX V ad M D E) (h4 : D 7 0 4 = nI (N 28 0)) (h28 : N 28 0 ≤ 180) {post : Int32 → zM → Prop} {f v : Int32} (K : ∀ M', zX V ad M' (u3 (u3 (u3 D 14 0 (N 28 0 % 5) f) 15 0 (N 28 0 % 5) v) 7 0 4 (nI (N 28 0 + 1))) E → post (nI (N 28 0)) M') : w_T_makeEntry M (ad 7 0) f v post := by
  unfold w_T_makeEntry
  rw [h.I h.v7, h4]
  refine ⟨h.T h.v7, c_floor (by omega) (c_arr h h.v7 h.v14 h.e70 rfl ⟨(n_in (by omega) (by omega)).mpr (by omega), c_setA h h.v14 (N 28 0 % 5) rfl (by omega) rfl (fun M1 h1 => ⟨h1.T h1.v7, c_floor (by omega) (c_arr h1 h1.v7 h1.v15 h1.e71 rfl ⟨(n_in (by omega) (by omega)).mpr (by omega), c_setA h1 h1.v15 (N 28 0 % 5) rfl (by omega) rfl (fun M2 h2 => ⟨h2.T h2.v7, ?_⟩)⟩)⟩)⟩)⟩
  rw [show zI M2 (ad 7 0) 4 = nI (N 28 0) from (h2.I h2.v7 4).trans h4, l1, n_add]
  exact c_setI h2 h2.v7 4 rfl (fun M3 h3 => K M3 h3)
def rfD (D : Nat → Nat → Nat → Int32) (q cc e b s : Nat) : Nat → Nat → Nat → Int32 := u3 (u3 (u3 (u3 D 18 q cc (nI e)) 0 q 2 (nI (cc + 1))) 0 q 3 (nI (max b (e + 1)))) 7 0 7 (nI (s + 1))
theorem c_refer (h : zX V ad M D E) {q cc e b s : Nat} (v0 : V 0 q) (v18 : V 18 q) (e01 : E 0 q 1 = some (ad 18 q)) (g2 : D 0 q 2 = nI cc) (hcc : cc < 3) (d3 : D 0 q 3 = nI b) (d7 : D 7 0 7 = nI s) (hb : b < 2 ^ 31) (he : e + 1 < 2 ^ 31) {post : zM → Prop} (K : ∀ M', zX V ad M' (rfD D q cc e b s) E → post M') : w_T_refer M (ad 7 0) (ad 0 q) (nI e) post := by
  unfold w_T_refer w_A_addReference
  rw [h.I v0, g2, l1, n_add]
  refine ⟨h.T v0, h.T v0, c_arr h v0 v18 e01 rfl (n_yes (by rw [n_lt (by omega) (by omega)]; exact hcc) (c_arr h v0 v18 e01 rfl ⟨(n_in (by omega) (by omega)).mpr hcc, c_setA h v18 cc rfl (by omega) rfl (fun M1 h1 => ?_)⟩))⟩
  rw [show zI M1 (ad 0 q) 2 = nI cc from (h1.I v0 2).trans (by simp [u3]; exact g2), n_add]
  refine c_setI h1 v0 2 rfl (fun M2 h2 => ?_)
  rw [show zI M2 (ad 0 q) 3 = nI b from (h2.I v0 3).trans (by simp [u3]; exact d3), n_max (by omega) (by omega)]
  refine c_setI h2 v0 3 rfl (fun M3 h3 => ⟨h3.T h3.v7, ?_⟩)
  rw [show zI M3 (ad 7 0) 7 = nI s from (h3.I h3.v7 7).trans (by simp [u3]; exact d7), n_add]
  exact c_setI h3 h3.v7 7 rfl (fun M4 h4 => K M4 h4)
theorem tF_step {D' : Nat → Nat → Nat → Int32} {q m C o : Nat} {v : Int32} (t : tF V ad D E qa c N Z) (p : pI N q m C) (hm : m < 3) (hO : fO N Z q m v o) (hqa : ∀ j, j < c → ¬ qa j = q) (hf : fr q D D') (h4 : D' 7 0 4 = nI (fN N q m o 28 0)) (hent : ∀ e, e < fN N q m o 28 0 → fN N q m o 28 0 ≤ e + 5 → D' 14 0 (e % 5) = nI (fN N q m o 26 e) ∧ D' 15 0 (e % 5) = fZ N Z v o 27 e) : tF V ad D' E qa c (fN N q m o) (fZ N Z v o) := by
  have ho := fO_le hO
  obtain ⟨⟨p1, p2, p3, p4⟩, p5, ⟨p6, p7, p8⟩, ⟨p9, p10, p11⟩, p12, p13, p14, p15⟩ := p
  obtain ⟨f1, f2, f3, f4, f5, f6, f7⟩ := fN_f (q := q) (m := m) ho
  obtain ⟨g1, g2⟩ := fN_nd (q := q) (m := m) ho hm (p14 m (by omega) hm)
  obtain ⟨⟨t1, t2⟩, t3, ⟨t4, t5, t6⟩, t7⟩ := t
  have hos : ∀ p, ¬ p = q → ost (fN N q m o) p = ost N p := fun p hp => by
    unfold ost; rw [f1 16 rfl, f1 35 rfl, g1 p hp, opn_ag (f1 32 rfl) (f1 33 rfl)]
  refine ⟨⟨by rw [hf.1 7 0 3 (by omega) (by omega) (by omega) (by omega)]; exact t1, t2⟩, fun j hj => ?_, ⟨h4, ?_, hent⟩, fun P => ?_⟩
  · obtain ⟨b1, b2, b3, b4, b5, b6, cc, r1, r2, r3, r4⟩ := t3 j hj
    have hn := hqa j hj
    have d0 : ∀ x, D' 0 (qa j) x = D 0 (qa j) x := fun x => hf.1 0 (qa j) x (fun z => hn z.2) (by omega) (by omega) (by omega)
    have d18 : ∀ x, D' 18 (qa j) x = D 18 (qa j) x := fun x => hf.1 18 (qa j) x (fun z => hn z.2) (by omega) (by omega) (by omega)
    have rf : ∀ x cc, rft D' (qa j) x cc = rft D (qa j) x cc := by
      intro x cc
      induction cc with
      | zero => rfl
      | succ cc ih => simp only [rft]; rw [ih, d18]
    refine ⟨b1, b2, b3, b4, by rw [d0, hos _ hn]; exact b5, by rw [d0, g1 _ hn]; exact b6, cc, r1, by rw [d0]; exact r2, by rw [g1 _ hn]; exact r3, fun e he => ?_⟩
    rw [rf, f2, f2, f2, if_neg (fun z => by omega), if_neg (fun z => by omega), if_neg (fun z => by omega)]
    exact r4 e he
  · rw [hf.1 7 0 5 (by omega) (by omega) (by omega) (by omega), f1 35 rfl, aft_ex (f1 32 rfl) (f1 33 rfl) g1 (N 35 0) (fun i hi h2 => (p5 i (by omega) h2).1)]
    exact t5
  · rw [t7 P, f1 6 rfl]
    refine cnt_congr _ (fun i _ => ?_)
    have : elig (fN N q m o) i = elig N i := by
      unfold elig
      rw [f1 16 rfl]
      by_cases e : i = q
      · subst e; simp [p3]
      · rw [g1 i e]
    rw [this]
theorem mF_ref {q m C e cc : Nat} {v : Int32} {D1' : Nat → Nat → Nat → Int32} (hd : ∀ x, D1' 18 q x = D 18 q x) (p : pI N q m C) (hm : m < 3) (he : e + 1 ≤ N 28 0 + 1) (hcc : cc ≤ m) (g3 : cc = 0 ↔ nd N q = 0) (g4 : ∀ e, e < 1073741823 → (rft D q (nI e) cc = true ↔ (N 20 (3 * q) = e + 1 ∨ N 20 (3 * q + 1) = e + 1 ∨ N 20 (3 * q + 2) = e + 1))) {s : Nat} : ∃ c', c' ≤ m + 1 ∧ rfD D1' q cc e (nd N q) s 0 q 2 = nI c' ∧ (c' = 0 ↔ nd (fN N q m (e + 1)) q = 0) ∧ ∀ x, x < 1073741823 → (rft (rfD D1' q cc e (nd N q) s) q (nI x) c' = true ↔ (fN N q m (e + 1) 20 (3 * q) = x + 1 ∨ fN N q m (e + 1) 20 (3 * q + 1) = x + 1 ∨ fN N q m (e + 1) 20 (3 * q + 2) = x + 1)) := by
  obtain ⟨⟨p1, p2, p3, p4⟩, p5, ⟨p6, p7, p8⟩, ⟨p9, p10, p11⟩, p12, p13, p14, p15⟩ := p
  obtain ⟨f1, f2, f3, f4, f5, f6, f7⟩ := fN_f (q := q) (m := m) he
  obtain ⟨g1, g2⟩ := fN_nd (q := q) (m := m) he hm (p14 m (by omega) hm)
  refine ⟨cc + 1, by omega, by simp [rfD, u3], by rw [g2, if_neg (by omega)]; constructor <;> intro <;> omega, fun x hx => ?_⟩
  have hr : ∀ d, d ≤ cc → rft (rfD D1' q cc e (nd N q) s) q (nI x) d = rft D q (nI x) d := by
    intro d
    induction d with
    | zero => intro _; rfl
    | succ d ih =>
      intro hd'
      simp only [rft]
      rw [ih (by omega)]
      have : rfD D1' q cc e (nd N q) s 18 q d = D 18 q d := by simp [rfD, u3, show ¬ d = cc by omega]; exact hd d
      rw [this]
  simp only [rft]
  rw [hr cc (Nat.le_refl _)]
  have : rfD D1' q cc e (nd N q) s 18 q cc = nI e := by simp [rfD, u3]
  rw [this, Bool.or_eq_true, g4 x hx, decide_eq_true_eq, n_eq (by omega) (by omega), f2, f2, f2]
  have h0 := p14 m (by omega) hm
  rcases (show m = 0 ∨ m = 1 ∨ m = 2 by omega) with rfl | rfl | rfl
  · simp at h0 ⊢; omega
  · simp at h0 ⊢; omega
  · simp at h0 ⊢; omega
end PT
