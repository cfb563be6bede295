/-! a field put down -/
def fnd (N : Nat → Nat → Nat) (Z : Nat → Nat → Int32) (f : Nat) (v : Int32) (lo : Nat) : Nat → Nat
  | 0 => 0
  | d + 1 => if N 26 (lo + d) = f ∧ Z 27 (lo + d) = v then lo + d + 1 else fnd N Z f v lo d
theorem fnd_le (N : Nat → Nat → Nat) (Z : Nat → Nat → Int32) (f : Nat) (v : Int32) (lo : Nat) : ∀ d, fnd N Z f v lo d ≤ lo + d
  | 0 => by simp [fnd]
  | d + 1 => by
    simp only [fnd]
    have := fnd_le N Z f v lo d
    split <;> omega
theorem fnd_26 (N : Nat → Nat → Nat) (Z : Nat → Nat → Int32) (f : Nat) (v : Int32) (lo : Nat) : ∀ d, 0 < fnd N Z f v lo d → N 26 (fnd N Z f v lo d - 1) = f
  | 0, h => by simp [fnd] at h
  | d + 1, h => by
    simp only [fnd] at h ⊢
    split at h
    · next hh => rw [if_pos hh]; exact hh.1
    · next hh => rw [if_neg hh]; exact fnd_26 N Z f v lo d h
def fg (N : Nat → Nat → Nat) (Z : Nat → Nat → Int32) (f : Nat) (v : Int32) : Nat := fnd N Z f v (N 28 0 - 5) (min (N 28 0) 5)
def fal (N : Nat → Nat → Nat) (q : Nat) : Prop := aft N (N 35 0) < nd N q ∨ rsk N (aft N (N 35 0)) (some q) (N 6 0) < 2
def frm (N : Nat → Nat → Nat) (q : Nat) : Prop := N 28 0 < 5 ∨ (N 28 0 - 5 < aft N (N 35 0) ∧ use N (N 28 0 - 5) (some q) (N 6 0) = 0)
/-- what the field becomes: no reference, an entry that is there, a new one -/
def fO (N : Nat → Nat → Nat) (Z : Nat → Nat → Int32) (q f : Nat) (v : Int32) (o : Nat) : Prop :=
  (0 < fg N Z f v ∧ (fg N Z f v ≤ aft N (N 35 0) ∨ fal N q) ∧ o = fg N Z f v) ∨ (fg N Z f v = 0 ∧ fal N q ∧ frm N q ∧ o = N 28 0 + 1) ∨ (o = 0 ∧ ((0 < fg N Z f v ∧ ¬ fg N Z f v ≤ aft N (N 35 0) ∧ ¬ fal N q) ∨ (fg N Z f v = 0 ∧ ¬ (fal N q ∧ frm N q))))
def fN (N : Nat → Nat → Nat) (q f o : Nat) : Nat → Nat → Nat := if o = 0 then un N 30 0 (N 30 0 + 1) else if o ≤ N 28 0 then un (un N 20 (3 * q + f) o) 31 0 (N 31 0 + 1) else un (un (un (un N 26 (N 28 0) f) 20 (3 * q + f) (N 28 0 + 1)) 28 0 (N 28 0 + 1)) 31 0 (N 31 0 + 1)
def fZ (N : Nat → Nat → Nat) (Z : Nat → Nat → Int32) (v : Int32) (o : Nat) : Nat → Nat → Int32 := if o ≤ N 28 0 then Z else uz Z 27 (N 28 0) v
theorem fO_un {N : Nat → Nat → Nat} {Z : Nat → Nat → Int32} {q f : Nat} {v : Int32} {o o' : Nat} (h : fO N Z q f v o) (h' : fO N Z q f v o') : o = o' := by
  rcases h with ⟨h1, h2, h3⟩ | ⟨h1, h2, h3, h4⟩ | ⟨h1, h2⟩ <;> rcases h' with ⟨g1, g2, g3⟩ | ⟨g1, g2, g3, g4⟩ | ⟨g1, g2⟩
  · omega
  · omega
  · rcases g2 with ⟨g2, g3, g4⟩ | ⟨g2, g3⟩
    · exact absurd h2 (fun z => z.elim g3 g4)
    · omega
  · omega
  · omega
  · rcases g2 with ⟨g2, g3, g4⟩ | ⟨g2, g3⟩
    · omega
    · exact absurd ⟨h2, h3⟩ g3
  · rcases h2 with ⟨h2, h3, h4⟩ | ⟨h2, h3⟩
    · exact absurd g2 (fun z => z.elim h3 h4)
    · omega
  · rcases h2 with ⟨h2, h3, h4⟩ | ⟨h2, h3⟩
    · omega
    · exact absurd ⟨g2, g3⟩ h3
  · omega
theorem fO_le {N : Nat → Nat → Nat} {Z : Nat → Nat → Int32} {q f : Nat} {v : Int32} {o : Nat} (h : fO N Z q f v o) : o ≤ N 28 0 + 1 := by
  have := fnd_le N Z f v (N 28 0 - 5) (min (N 28 0) 5)
  rcases h with ⟨h1, h2, h3⟩ | ⟨h1, h2, h3, h4⟩ | ⟨h1, h2⟩
  · unfold fg at h3; omega
  · omega
  · omega
def pI (N : Nat → Nat → Nat) (q m C : Nat) : Prop := (q < N 6 0 ∧ N 6 0 ≤ 60 ∧ N 16 q = 0 ∧ C < 60) ∧ (∀ i, i < N 34 0 → N 32 i ≠ 2 → N 33 i ≠ q ∧ N 33 i < 60) ∧ (N 35 0 ≤ N 34 0 ∧ N 34 0 ≤ 240 ∧ aft N (N 34 0) ≤ 180) ∧ (N 28 0 ≤ 3 * C + m ∧ N 30 0 + N 31 0 ≤ 3 * C + m ∧ m ≤ 3) ∧ (∀ x, N 20 x ≤ N 28 0) ∧ (∀ p f, f < 3 → 0 < N 20 (3 * p + f) → N 26 (N 20 (3 * p + f) - 1) = f) ∧ (∀ f, m ≤ f → f < 3 → N 20 (3 * q + f) = 0) ∧ ∀ p, N 6 0 ≤ p ∨ N 16 p = 0 → ¬ p = q → N 20 (3 * p) = 0 ∧ N 20 (3 * p + 1) = 0 ∧ N 20 (3 * p + 2) = 0
section FY
variable {am : Nat} {ar : Nat → Nat} {M : zM} {N : Nat → Nat → Nat} {Z : Nat → Nat → Int32}
theorem yo_f245 (hy : yR am ar M N Z) {post : zM → Prop} {q f : Nat} {v x4 x5 x6 x7 x8 : Int32} (h30 : N 30 0 < 1073741823) (K : ∀ M', yR am ar M' (fN N q f 0) (fZ N Z v 0) → post M') : w_Y_field_245 post M am (nI q) (nI f) v x4 x5 x6 x7 x8 := by
  unfold w_Y_field_245 w_Y_field_255
  rw [hy.sc 30 rfl, l1, n_add]
  refine ⟨hy.T, y_setS hy 30 (N 30 0 + 1) rfl rfl (by omega) (fun M hy => K M ?_)⟩
  unfold fN fZ
  rw [if_pos rfl, if_pos (by omega)]
  exact hy
theorem yo_f148 (hy : yR am ar M N Z) {post : zM → Prop} {q f o : Nat} {v x4 x5 x7 x8 : Int32} (hq : q < 60) (hf : f < 3) (h31 : N 31 0 < 1073741823) (ho : 0 < o) (ho2 : o ≤ N 28 0) (K : ∀ M', yR am ar M' (fN N q f o) (fZ N Z v o) → post M') : w_Y_field_148 post M am (nI q) (nI f) v x4 x5 (nI o - nI 1) x7 x8 := by
  unfold w_Y_field_148 w_Y_field_255
  rw [l3, n_mul, n_add]
  refine ⟨hy.T, y_get hy 20 20 180 rfl rfl ⟨(n_in (by omega) (by omega)).mpr (by omega), ?_⟩⟩
  rw [n_cl (by omega)]
  refine y_putR hy 20 (3 * q + f) o rfl (by omega) rfl (by have := hy.b30 28 0; omega) (fun M hy => ?_)
  rw [show zI M am 31 = nI (N 31 0) from (hy.sc 31 rfl).trans (by simp [un]), l1, n_add]
  refine y_setS hy 31 (N 31 0 + 1) rfl rfl (by omega) (fun M hy => K M ?_)
  unfold fN fZ
  rw [if_neg (by omega), if_pos ho2, if_pos ho2]
  exact hy
theorem yo_fnew (hy : yR am ar M N Z) {post : zM → Prop} {q f : Nat} {v x4 x5 x7 x8 : Int32} (hq : q < 60) (hf : f < 3) (h31 : N 31 0 < 1073741823) (h28 : N 28 0 < 180) (h5 : ¬ x5 = 0) (h8 : ¬ x8 = 0) (K : ∀ M', yR am ar M' (fN N q f (N 28 0 + 1)) (fZ N Z v (N 28 0 + 1)) → post M') : w_Y_field_173 post M am (nI q) (nI f) v x4 x5 (nI 0 - nI 1) x7 x8 := by
  unfold w_Y_field_173 w_Y_field_255
  refine n_not (by decide) (n_not h5 (n_not h8 ?_))
  rw [hy.sc 28 rfl, l3, n_mul, n_add, n_cl (by omega), n_cl (by omega)]
  refine ⟨hy.T, y_get hy 26 20 180 rfl rfl ⟨(n_in (by omega) (by omega)).mpr h28, y_putN hy 26 (N 28 0) f rfl rfl (by decide) rfl (by omega) (fun M hy => ?_)⟩⟩
  rw [show zI M am 28 = nI (N 28 0) from (hy.sc 28 rfl).trans (by simp [un]), n_cl (by omega)]
  refine y_get hy 27 20 180 rfl rfl ⟨(n_in (by omega) (by omega)).mpr h28, y_putZ hy 27 (N 28 0) v rfl rfl (fun M hy => y_get hy 20 20 180 rfl rfl ⟨(n_in (by omega) (by omega)).mpr (by omega), ?_⟩)⟩
  rw [show zI M am 28 = nI (N 28 0) from (hy.sc 28 rfl).trans (by simp [un])]
  refine y_putR hy 20 (3 * q + f) (N 28 0 + 1) rfl (by omega) (by rw [n_sub (by omega)]; rfl) (by omega) (fun M hy => ?_)
  rw [show zI M am 28 = nI (N 28 0) from (hy.sc 28 rfl).trans (by simp [un]), l1, n_add]
  refine y_setS hy 28 (N 28 0 + 1) rfl rfl (by omega) (fun M hy => ?_)
  rw [show zI M am 31 = nI (N 31 0) from (hy.sc 31 rfl).trans (by simp [un]), n_add]
  refine y_setS hy 31 (N 31 0 + 1) rfl rfl (by omega) (fun M hy => K M ?_)
  unfold fN fZ
  rw [if_neg (by omega), if_neg (by omega), if_neg (by omega)]
  exact hy
theorem yo_f129 (hy : yR am ar M N Z) {post : zM → Prop} {q f : Nat} {v x5 x7 x8 : Int32} (hq : q < 60) (hf : f < 3) (h31 : N 30 0 + N 31 0 < 1073741823) (h28 : N 28 0 < 180) (ha : aft N (N 35 0) < 1073741824) (h5 : (¬ x5 = 0) ↔ fal N q) (h8 : (¬ x8 = 0) ↔ frm N q) (K : ∀ o M', fO N Z q f v o → yR am ar M' (fN N q f o) (fZ N Z v o) → post M') : w_Y_field_129 post M am (nI q) (nI f) v (nI (aft N (N 35 0))) x5 (nI (fg N Z f v) - nI 1) x7 x8 := by
  have gl : fg N Z f v ≤ N 28 0 := by have := fnd_le N Z f v (N 28 0 - 5) (min (N 28 0) 5); unfold fg; omega
  unfold w_Y_field_129
  rcases Nat.eq_zero_or_pos (fg N Z f v) with h0 | h0
  · rw [h0]
    refine n_yes (by decide) ?_
    by_cases hh : fal N q ∧ frm N q
    · exact yo_fnew hy hq hf (by omega) h28 (h5.mpr hh.1) (h8.mpr hh.2) (fun M' hy' => K _ M' (Or.inr (Or.inl ⟨h0, hh.1, hh.2, rfl⟩)) hy')
    · have lit := fun x8 => yo_f245 (x4 := nI (aft N (N 35 0))) (x5 := x5) (x6 := nI 0 - nI 1) (x7 := x7) (x8 := x8) (q := q) (f := f) (v := v) hy (post := post) (by omega) (fun M' hy' => K 0 M' (Or.inr (Or.inr ⟨rfl, Or.inr ⟨h0, hh⟩⟩)) hy')
      unfold w_Y_field_173
      refine n_not (by decide) (n_ite (fun _ => lit _) (fun z5 => n_ite (fun _ => lit _) (fun z8 => absurd ⟨h5.mp z5, h8.mp z8⟩ hh)))
  · have e1 : nI (fg N Z f v) - nI 1 = nI (fg N Z f v - 1) := n_sub (by omega)
    refine n_not (by rw [e1, l0, n_lt (by omega) (by omega)]; omega) ?_
    have ref : (fg N Z f v ≤ aft N (N 35 0) ∨ fal N q) → ∀ x8, w_Y_field_148 post M am (nI q) (nI f) v (nI (aft N (N 35 0))) x5 (nI (fg N Z f v) - nI 1) x7 x8 := fun hh x8 => yo_f148 hy hq hf (by omega) h0 gl (fun M' hy' => K _ M' (Or.inl ⟨h0, hh, rfl⟩) hy')
    rw [show (nI (fg N Z f v) - nI 1 < nI (aft N (N 35 0))) = (fg N Z f v ≤ aft N (N 35 0)) from by rw [e1, n_lt (by omega) (by omega)]; exact propext ⟨fun _ => by omega, fun _ => by omega⟩]
    refine n_ite (fun hle => ref (Or.inl hle) _) (fun hle => n_ite (fun z5 => ?_) (fun z5 => ref (Or.inr (h5.mp z5)) _))
    unfold w_Y_field_173
    refine n_yes (by rw [e1, l0, n_le (by omega) (by omega)]; omega) (yo_f245 hy (by omega) (fun M' hy' => K 0 M' (Or.inr (Or.inr ⟨rfl, Or.inl ⟨h0, hle, fun z => absurd z5 (h5.mpr z)⟩⟩)) hy'))
theorem yo_f47 (hy : yR am ar M N Z) {post : zM → Prop} {q f m C : Nat} {v x5 : Int32} (p : pI N q m C) (hm : m < 3) (hf : f < 3) (h5 : (¬ x5 = 0) ↔ fal N q) (K : ∀ o M', fO N Z q f v o → yR am ar M' (fN N q f o) (fZ N Z v o) → post M') : ∀ d i, i + d = min (N 28 0) 5 → w_Y_field_47 post (d + 1) M am (nI q) (nI f) v (nI (aft N (N 35 0))) x5 (nI (fnd N Z f v (N 28 0 - 5) i) - nI 1) (nI (N 28 0 - 5 + i)) := by
  obtain ⟨⟨p1, p2, p3, p4⟩, p5, ⟨p6, p7, p8⟩, ⟨p9, p10, p11⟩, p12⟩ := p
  have aL := aft_le N (j := N 35 0) (k := N 34 0) p6
  intro d
  induction d with
  | zero =>
    intro i hi
    have : i = min (N 28 0) 5 := by omega
    subst this
    rw [w_Y_field_47, hy.sc 28 rfl, n_le (by omega) (by omega)]
    refine ⟨hy.T, n_yes (by omega) (y_oldest hy ⟨hy.T, ?_⟩)⟩
    rw [hy.sc 28 rfl, l5, n_lt (by omega) (by omega)]
    have go : ∀ x8 : Int32, ((¬ x8 = 0) ↔ frm N q) → w_Y_field_129 post M am (nI q) (nI f) v (nI (aft N (N 35 0))) x5 (nI (fg N Z f v) - nI 1) (nI (N 28 0 - 5)) x8 := fun x8 h8 => yo_f129 hy (by omega) hf (by omega) (by omega) (by omega) h5 h8 K
    refine n_ite (fun h => go 1 ⟨fun _ => Or.inl h, fun _ => by decide⟩) (fun h => ?_)
    rw [n_le (by omega) (by omega)]
    refine n_ite (fun h2 => go 0 ⟨fun z => absurd rfl z, fun z => z.elim (fun y => by omega) (fun y => by omega)⟩) (fun h2 => ?_)
    refine y_uses (e := N 28 0 - 5) (ex := some q) hy p2 (fun q' z => by injection z; omega) (by omega) (by omega) ?_
    have ub : use N (N 28 0 - 5) (some q) (N 6 0) < 2 ^ 31 := by
      have : ∀ n, use N (N 28 0 - 5) (some q) n ≤ 3 * n := by
        intro n
        induction n with
        | zero => simp [use]
        | succ n ih => simp only [use, use1]; split <;> (repeat' split) <;> omega
      have := this (N 6 0)
      omega
    rw [l0, n_eq ub (by omega)]
    exact n_ite (fun h3 => go 1 ⟨fun _ => Or.inr ⟨by omega, h3⟩, fun _ => by decide⟩) (fun h3 => go 0 ⟨fun z => absurd rfl z, fun z => z.elim (fun y => by omega) (fun y => absurd y.2 h3)⟩)
  | succ d ih =>
    intro i hi
    have nx := ih (i + 1) (by omega)
    simp only [fnd] at nx
    rw [w_Y_field_47, hy.sc 28 rfl, n_le (by omega) (by omega)]
    refine ⟨hy.T, n_not (by omega) (y_get hy 26 20 180 rfl rfl ⟨(n_in (by omega) (by omega)).mpr (by omega), ?_⟩)⟩
    rw [n_cl (by omega), hy.rn 26 _ rfl rfl (by decide), n_eq (hy.b _ _) (by omega), l1, n_add, show N 28 0 - 5 + i + 1 = N 28 0 - 5 + (i + 1) by omega]
    refine n_ite (fun h26 => y_get hy 27 20 180 rfl rfl ⟨(n_in (by omega) (by omega)).mpr (by omega), ?_⟩) (fun h26 => ?_)
    · rw [hy.rz 27 _ rfl rfl]
      refine n_ite (fun h27 => ?_) (fun h27 => ?_)
      · rw [if_pos ⟨h26, h27⟩, n_sub (by omega), show N 28 0 - 5 + i + 1 - 1 = N 28 0 - 5 + i by omega] at nx
        exact nx
      · rw [if_neg (fun z => h27 z.2)] at nx
        exact nx
    · rw [if_neg (fun z => h26 z.1)] at nx
      exact nx
theorem yo_field (hy : yR am ar M N Z) {post : zM → Prop} {q f m C : Nat} {v : Int32} (p : pI N q m C) (hm : m < 3) (hf : f < 3) (K : ∀ o M', fO N Z q f v o → yR am ar M' (fN N q f o) (fZ N Z v o) → post M') : w_Y_field M am (nI q) (nI f) v post := by
  have p' := p
  obtain ⟨⟨p1, p2, p3, p4⟩, p5, ⟨p6, p7, p8⟩, ⟨p9, p10, p11⟩, p12⟩ := p
  have aL := aft_le N (j := N 35 0) (k := N 34 0) p6
  have h36 : ∀ u0 : Int32, ((¬ u0 = 0) ↔ fal N q) → w_Y_field_36 post M am (nI q) (nI f) v (nI (aft N (N 35 0))) u0 := fun u0 h5 => ⟨hy.T, y_oldest hy ⟨min (N 28 0) 5 + 1, yo_f47 hy p' hm hf h5 K (min (N 28 0) 5) 0 (by omega)⟩⟩
  unfold w_Y_field w_Y_field_31
  rw [hy.sc 35 rfl]
  refine ⟨hy.T, y_after hy (by omega) (fun i hi h0 => (p5 i (by omega) (by omega)).2) (by omega) ⟨hy.T, y_need hy (by omega) ?_⟩⟩
  have ndb := nd_b hy q
  rw [n_lt (by omega) (by omega)]
  refine n_ite (fun h => h36 1 ⟨fun _ => Or.inl h, fun _ => by decide⟩) (fun h => ⟨hy.T, y_risky (ex := some q) hy p2 (fun q' z => by injection z; omega) (by omega) (by omega) ?_⟩)
  have := rsk_le N (aft N (N 35 0)) (some q) (N 6 0)
  rw [l2, n_le (by omega) (by omega)]
  exact n_ite (fun h2 => h36 0 ⟨fun z => absurd rfl z, fun z => z.elim (fun y => absurd y h) (fun y => by omega)⟩) (fun h2 => h36 1 ⟨fun _ => Or.inr (by omega), fun _ => by decide⟩)
end FY
