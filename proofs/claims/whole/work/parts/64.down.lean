section PD
variable {V : Nat → Nat → Prop} {ad : Nat → Nat → Nat} {M : zM} {D : Nat → Nat → Nat → Int32} {E : Nat → Nat → Nat → Option Nat} {qa : Nat → Nat} {c : Nat} {N : Nat → Nat → Nat} {Z : Nat → Nat → Int32}
theorem co_put (h : zX V ad M D E) {q m C : Nat} (f : mF V ad D E qa c N Z q m) (hb : ∀ k j, N k j < 1073741824) (p : pI N q m C) (hm : m < 3) {v : Int32} {post : zM → Prop} (K : ∀ o M' D', fO N Z q m v o → zX V ad M' D' E → mF V ad D' E qa c (fN N q m o) (fZ N Z v o) q (m + 1) → fr q D D' → post M') : w_T_putDown M (ad 7 0) (ad 0 q) (nI m) v post := by
  have f' := f
  have p' := p
  obtain ⟨t, ⟨v0, v18, e01⟩, hqa, ⟨cc, g1, g2, g3, g4⟩, d3, d6, d7⟩ := f
  obtain ⟨⟨p1, p2, p3, p4⟩, p5, ⟨p6, p7, p8⟩, ⟨p9, p10, p11⟩, p12, p13, p14, p15⟩ := p
  have aL := aft_le N (j := N 35 0) (k := N 34 0) p6
  have oq : ost N q = false := by simp [ost, p3]
  have gl : fg N Z m v ≤ N 28 0 := by have := fnd_le N Z m v (N 28 0 - 5) (min (N 28 0) 5); unfold fg; omega
  have ndb : nd N q < 1073741824 := by unfold nd; have := hb 20 (3 * q); have := hb 20 (3 * q + 1); have := hb 20 (3 * q + 2); omega
  have lit : fO N Z q m v 0 → ∀ x4 x5 : Int32, w_T_putDown_97 post M (ad 7 0) (ad 0 q) (nI m) v x4 x5 := by
    intro hO x4 x5
    obtain ⟨f1, f2, f3, f4, f5, f6, f7⟩ := fN_f (q := q) (m := m) (fO_le hO)
    obtain ⟨n1, n2⟩ := fN_nd (q := q) (m := m) (fO_le hO) hm (p14 m (by omega) hm)
    unfold w_T_putDown_97
    rw [h.I h.v7, d6, l1, n_add]
    refine ⟨h.T h.v7, c_setI h h.v7 6 rfl (fun M1 h1 => ?_)⟩
    have hfr : fr q D (u3 D 7 0 6 (nI (N 30 0 + 1))) := ⟨fun k i j a1 a2 a3 a4 => by rw [u3_n _ _ (fun z => a2 ⟨z.1, z.2.1, by omega⟩)], fun j _ _ => by rw [u3_n _ _ (by omega)]⟩
    refine K 0 M1 _ hO h1 ⟨tF_step t p' hm hO hqa hfr ?_ (fun e he1 he2 => ?_), ⟨v0, v18, e01⟩, hqa, ⟨cc, by omega, ?_, ?_, fun e he => ?_⟩, ?_, ?_, ?_⟩ hfr
    · rw [f3, if_pos (by omega), u3_n _ _ (by omega)]; exact t.2.2.1.1
    · rw [f3, if_pos (by omega)] at he1 he2
      rw [f4 e he1]
      unfold fZ
      rw [if_pos (by omega), u3_n _ _ (by omega), u3_n _ _ (by omega)]
      exact t.2.2.1.2.2 e he1 he2
    · rw [u3_n _ _ (by omega)]; exact g2
    · rw [n2, if_pos rfl]; exact g3
    · rw [rft_u3 (by decide), f2, f2, f2, if_neg (fun z => z.1 rfl), if_neg (fun z => z.1 rfl), if_neg (fun z => z.1 rfl)]
      exact g4 e he
    · rw [n2, if_pos rfl, u3_n _ _ (by omega)]; exact d3
    · rw [f6, if_pos rfl, u3_s]
    · rw [f7, if_pos rfl, u3_n _ _ (by omega)]; exact d7
  have ref : ∀ e, e + 1 ≤ N 28 0 → fO N Z q m v (e + 1) → w_T_refer M (ad 7 0) (ad 0 q) (nI e) post := by
    intro e he hO
    obtain ⟨f1, f2, f3, f4, f5, f6, f7⟩ := fN_f (q := q) (m := m) (fO_le hO)
    obtain ⟨n1, n2⟩ := fN_nd (q := q) (m := m) (fO_le hO) hm (p14 m (by omega) hm)
    refine c_refer h v0 v18 e01 g2 (by omega) d3 d7 (by omega) (by omega) (fun M1 h1 => ?_)
    have hfr : fr q D (rfD D q cc e (nd N q) (N 31 0)) := ⟨fun k i j a1 a2 a3 a4 => by
        unfold rfD
        rw [u3_n _ _ (fun z => a2 ⟨z.1, z.2.1, by omega⟩), u3_n _ _ (fun z => a1 ⟨Or.inl z.1, z.2.1⟩), u3_n _ _ (fun z => a1 ⟨Or.inl z.1, z.2.1⟩), u3_n _ _ (fun z => a1 ⟨Or.inr z.1, z.2.1⟩)], fun j j2 j3 => by
        unfold rfD
        rw [u3_n _ _ (by omega), u3_n _ _ (by omega), u3_n _ _ (by omega), u3_n _ _ (by omega)]⟩
    refine K (e + 1) M1 _ hO h1 ⟨tF_step t p' hm hO hqa hfr ?_ (fun x he1 he2 => ?_), ⟨v0, v18, e01⟩, hqa, mF_ref (v := v) (fun _ => rfl) p' hm (by omega) g1 g3 g4, ?_, ?_, ?_⟩ hfr
    · rw [f3, if_pos (by omega)]; simp [rfD, u3]; exact t.2.2.1.1
    · rw [f3, if_pos (by omega)] at he1 he2
      rw [f4 x he1]
      unfold fZ
      rw [if_pos (by omega)]
      simp [rfD, u3]
      exact t.2.2.1.2.2 x he1 he2
    · rw [n2, if_neg (by omega)]; simp [rfD, u3]
    · rw [f6, if_neg (by omega)]; simp [rfD, u3]; exact d6
    · rw [f7, if_neg (by omega)]; simp [rfD, u3]
  have new : fO N Z q m v (N 28 0 + 1) → zT M (ad 7 0) = some (7, 8) ∧ w_T_makeEntry M (ad 7 0) (nI m) v (fun r18 M19 => zT M19 (ad 7 0) = some (7, 8) ∧ w_T_refer M19 (ad 7 0) (ad 0 q) r18 (fun M21 => post M21)) := by
    intro hO
    obtain ⟨f1, f2, f3, f4, f5, f6, f7⟩ := fN_f (q := q) (m := m) (fO_le hO)
    obtain ⟨n1, n2⟩ := fN_nd (q := q) (m := m) (fO_le hO) hm (p14 m (by omega) hm)
    refine ⟨h.T h.v7, c_make h t.2.2.1.1 (by omega) (fun M1 h1 => ⟨h1.T h1.v7, ?_⟩)⟩
    refine c_refer (e := N 28 0) (cc := cc) (b := nd N q) (s := N 31 0) h1 v0 v18 e01 (by simp [u3]; exact g2) (by omega) (by simp [u3]; exact d3) (by simp [u3]; exact d7) (by omega) (by omega) (fun M2 h2 => ?_)
    have hfr : fr q D (rfD (u3 (u3 (u3 D 14 0 (N 28 0 % 5) (nI m)) 15 0 (N 28 0 % 5) v) 7 0 4 (nI (N 28 0 + 1))) q cc (N 28 0) (nd N q) (N 31 0)) := ⟨fun k i j a1 a2 a3 a4 => by
        unfold rfD
        rw [u3_n _ _ (fun z => a2 ⟨z.1, z.2.1, by omega⟩), u3_n _ _ (fun z => a1 ⟨Or.inl z.1, z.2.1⟩), u3_n _ _ (fun z => a1 ⟨Or.inl z.1, z.2.1⟩), u3_n _ _ (fun z => a1 ⟨Or.inr z.1, z.2.1⟩), u3_n _ _ (fun z => a2 ⟨z.1, z.2.1, by omega⟩), u3_n _ _ (fun z => a4 z.1), u3_n _ _ (fun z => a3 z.1)], fun j j2 j3 => by
        unfold rfD
        rw [u3_n _ _ (by omega), u3_n _ _ (by omega), u3_n _ _ (by omega), u3_n _ _ (by omega), u3_n _ _ (by omega), u3_n _ _ (by omega), u3_n _ _ (by omega)]⟩
    refine K (N 28 0 + 1) M2 _ hO h2 ⟨tF_step t p' hm hO hqa hfr ?_ (fun x he1 he2 => ?_), ⟨v0, v18, e01⟩, hqa, mF_ref (v := v) (fun x => by simp [u3]) p' hm (by omega) g1 g3 g4, ?_, ?_, ?_⟩ hfr
    · rw [f3, if_neg (by omega)]; simp [rfD, u3]
    · rw [f3, if_neg (by omega)] at he1 he2
      unfold fZ
      rw [if_neg (by omega)]
      by_cases ex : x = N 28 0
      · subst ex
        rw [f5 rfl]
        simp [rfD, u3, uz]
      · rw [f4 x (by omega)]
        have : ¬ x % 5 = N 28 0 % 5 := by omega
        simp [rfD, u3, uz, ex, this]
        exact t.2.2.1.2.2 x (by omega) (by omega)
    · rw [n2, if_neg (by omega)]; simp [rfD, u3]
    · rw [f6, if_neg (by omega)]; simp [rfD, u3]; exact d6
    · rw [f7, if_neg (by omega)]; simp [rfD, u3]
  have p24 : ∀ u0 : Int32, ((¬ u0 = 0) ↔ fal N q) → w_T_putDown_24 post M (ad 7 0) (ad 0 q) (nI m) v u0 := by
    intro u0 h5
    unfold w_T_putDown_24
    refine ⟨h.T h.v7, c_find h t hb (by omega) hm ?_⟩
    rcases Nat.eq_zero_or_pos (fg N Z m v) with h0 | h0
    · rw [h0]
      refine n_yes rfl (n_yes rfl (n_ite (fun z5 => lit (Or.inr (Or.inr ⟨rfl, Or.inr ⟨h0, fun y => absurd z5 (h5.mpr y.1)⟩⟩)) _ _) (fun z5 => ⟨h.T h.v7, c_room h f' hb p' (fun x8 h8 => ?_)⟩)))
      exact n_ite (fun z8 => lit (Or.inr (Or.inr ⟨rfl, Or.inr ⟨h0, fun y => absurd z8 (h8.mpr y.2)⟩⟩)) _ _) (fun z8 => new (Or.inr (Or.inl ⟨h0, h5.mp z5, h8.mp z8, rfl⟩)))
    · have e1 : nI (fg N Z m v) - nI 1 = nI (fg N Z m v - 1) := n_sub (by omega)
      have hne : ¬ nI (fg N Z m v - 1) = (-1 : Int32) := fun z => by
        have := congrArg Int32.toInt z
        rw [nI_toInt (by omega), show (-1 : Int32).toInt = -1 from rfl] at this
        omega
      have hr : (fg N Z m v ≤ aft N (N 35 0) ∨ fal N q) → w_T_refer M (ad 7 0) (ad 0 q) (nI (fg N Z m v - 1)) post := fun hh => ref (fg N Z m v - 1) (by omega) (by rw [show fg N Z m v - 1 + 1 = fg N Z m v by omega]; exact Or.inl ⟨h0, hh, rfl⟩)
      rw [e1, h.I h.v7, t.2.2.1.2.1, n_lt (by omega) (by omega)]
      refine n_not hne ⟨h.T h.v7, n_ite (fun hlt => hr (Or.inl (by omega))) (fun hlt => n_ite (fun z5 => n_not hne (lit (Or.inr (Or.inr ⟨rfl, Or.inl ⟨h0, by omega, fun y => absurd z5 (h5.mpr y)⟩⟩)) _ _)) (fun z5 => hr (Or.inr (h5.mp z5))))⟩
  unfold w_T_putDown
  rw [h.I h.v7, h.I v0, t.2.2.1.2.1, d3, n_lt (by omega) (by omega)]
  refine ⟨h.T v0, h.T h.v7, n_ite (fun hl => p24 1 ⟨fun _ => Or.inl hl, fun _ => by decide⟩) (fun hl => c_risk h t hb (by omega) (some q) (fun q' z => by injection z with z; subst z; exact oq) ?_)⟩
  have := rsk_le N (aft N (N 35 0)) (some q) (N 6 0)
  rw [l2, n_le (by omega) (by omega)]
  exact n_ite (fun h2 => p24 0 ⟨fun z => absurd rfl z, fun z => z.elim (fun y => absurd y hl) (fun y => by omega)⟩) (fun h2 => p24 1 ⟨fun _ => Or.inr (by omega), fun _ => by decide⟩)
theorem fr_t {q : Nat} {D D' D'' : Nat → Nat → Nat → Int32} (h : fr q D D') (h' : fr q D' D'') : fr q D D'' := ⟨fun k i j a1 a2 a3 a4 => by rw [h'.1 k i j a1 a2 a3 a4, h.1 k i j a1 a2 a3 a4], fun j a b => by rw [h'.2 j a b, h.2 j a b]⟩
end PD
