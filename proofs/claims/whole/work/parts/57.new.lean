/-! a new object of the class -/
def ad1 (ad : Nat → Nat → Nat) (a n q : Nat) : Nat → Nat → Nat := fun k i => if k = a ∧ i = n then q else ad k i
def D1 (D : Nat → Nat → Nat → Int32) (a n : Nat) : Nat → Nat → Nat → Int32 := fun k i j => if k = a ∧ i = n then 0 else D k i j
def E1 (E : Nat → Nat → Nat → Option Nat) (a n : Nat) : Nat → Nat → Nat → Option Nat := fun k i j => if k = a ∧ i = n then none else E k i j
def V1 (V : Nat → Nat → Prop) (a n : Nat) : Nat → Nat → Prop := fun k i => V k i ∨ (k = a ∧ i = n)
theorem zC_new {V : Nat → Nat → Prop} {ad : Nat → Nat → Nat} {M : zM} {D : Nat → Nat → Nat → Int32} {E : Nat → Nat → Nat → Option Nat} (h : zC V ad M D E) {a n q : Nat} (hn : ¬ V a n) (hq : zT M q = none) : zC (V1 V a n) (ad1 ad a n q) (znw M q (ct a)) (D1 D a n) (E1 E a n) := by
  obtain ⟨h1, h2, h3, h4⟩ := h
  have nv : ∀ {k i}, V k i → ¬ (k = a ∧ i = n) := fun hv z => hn (by rw [← z.1, ← z.2]; exact hv)
  have nq : ∀ {k i}, V k i → ¬ ad k i = q := fun hv z => by have := h1 _ _ hv; rw [z, hq] at this; cases this
  refine ⟨fun k i hv => ?_, fun k i j hv => ?_, fun k i j hv => ?_, fun k i k' i' hv hv' => ?_⟩
  · rcases hv with hv | ⟨rfl, rfl⟩
    · rw [ad1, if_neg (nv hv), zT_nw, if_neg (nq hv), h1 k i hv]
    · rw [ad1, if_pos ⟨rfl, rfl⟩, zT_nw, if_pos rfl]
  · rcases hv with hv | ⟨rfl, rfl⟩
    · rw [ad1, D1, if_neg (nv hv), if_neg (nv hv), zI_nw, if_neg (nq hv), h2 k i j hv]
    · rw [ad1, D1, if_pos ⟨rfl, rfl⟩, if_pos ⟨rfl, rfl⟩, zI_nw, if_pos rfl]
  · rcases hv with hv | ⟨rfl, rfl⟩
    · rw [ad1, E1, if_neg (nv hv), if_neg (nv hv), zR_nw, if_neg (nq hv), h3 k i j hv]
    · rw [ad1, E1, if_pos ⟨rfl, rfl⟩, if_pos ⟨rfl, rfl⟩, zR_nw, if_pos rfl]
  · unfold ad1
    rcases hv with hv | ⟨rfl, rfl⟩
    · rw [if_neg (nv hv)]
      rcases hv' with hv' | ⟨rfl, rfl⟩
      · rw [if_neg (nv hv')]; exact h4 _ _ _ _ hv hv'
      · rw [if_pos ⟨rfl, rfl⟩]; exact fun z => absurd z (nq hv)
    · rw [if_pos ⟨rfl, rfl⟩]
      rcases hv' with hv' | ⟨rfl, rfl⟩
      · rw [if_neg (nv hv')]; exact fun z => absurd z.symm (nq hv')
      · exact fun _ => ⟨rfl, rfl⟩
theorem zX_new {V : Nat → Nat → Prop} {ad : Nat → Nat → Nat} {M : zM} {D : Nat → Nat → Nat → Int32} {E : Nat → Nat → Nat → Option Nat} (h : zX V ad M D E) {a n q : Nat} (ha : a = 0 ∨ a = 3 ∨ a = 18) (hn : ¬ V a n) (hq : zT M q = none) : zX (V1 V a n) (ad1 ad a n q) (znw M q (ct a)) (D1 D a n) (E1 E a n) := by
  refine ⟨zC_new h.1 hn hq, ?_⟩
  obtain ⟨⟨a1, a2, a3, a4, a5⟩, ⟨b1, b2, b3, b4, b5, b6, b7, b8⟩, c, d, ⟨e1, e2, e3', e4⟩, ⟨e5, e6⟩, e7, ⟨e8, e9⟩, ⟨e10, e11, e12⟩, e13, e14⟩ := h.2
  have hE : ∀ {k' : Nat} (i' j' : Nat), ¬ (k' = 0 ∨ k' = 3 ∨ k' = 18) → E1 E a n k' i' j' = E k' i' j' := fun i' j' hh => if_neg (fun z => hh (by rw [z.1]; exact ha))
  have hA : ∀ {k' : Nat} (i' : Nat), ¬ (k' = 0 ∨ k' = 3 ∨ k' = 18) → ad1 ad a n q k' i' = ad k' i' := fun i' hh => if_neg (fun z => hh (by rw [z.1]; exact ha))
  refine ⟨⟨Or.inl a1, Or.inl a2, Or.inl a3, Or.inl a4, Or.inl a5⟩, ⟨Or.inl b1, Or.inl b2, Or.inl b3, Or.inl b4, Or.inl b5, Or.inl b6, Or.inl b7, Or.inl b8⟩, fun r hr => Or.inl (c r hr), fun r hr => Or.inl (d r hr), ⟨?_, ?_, ?_, ?_⟩, ⟨?_, ?_⟩, ?_, ⟨?_, ?_⟩, ⟨?_, ?_, ?_⟩, fun r hr => ?_, fun r hr => ?_⟩ <;> rw [hE _ _ (by decide), hA _ (by decide)]
  · exact e1
  · exact e2
  · exact e3'
  · exact e4
  · exact e5
  · exact e6
  · exact e7
  · exact e8
  · exact e9
  · exact e10
  · exact e11
  · exact e12
  · exact e13 r hr
  · exact e14 r hr
theorem ad1_o {ad : Nat → Nat → Nat} {a n q k i : Nat} (h : ¬ (k = a ∧ i = n)) : ad1 ad a n q k i = ad k i := if_neg h
theorem ad1_s {ad : Nat → Nat → Nat} {a n q : Nat} : ad1 ad a n q a n = q := if_pos ⟨rfl, rfl⟩
theorem D1_o {D : Nat → Nat → Nat → Int32} {a n k i j : Nat} (h : ¬ (k = a ∧ i = n)) : D1 D a n k i j = D k i j := if_neg h
theorem E1_o {E : Nat → Nat → Nat → Option Nat} {a n k i j : Nat} (h : ¬ (k = a ∧ i = n)) : E1 E a n k i j = E k i j := if_neg h
theorem D1_s {D : Nat → Nat → Nat → Int32} {a n j : Nat} : D1 D a n a n j = 0 := if_pos ⟨rfl, rfl⟩
theorem E1_s {E : Nat → Nat → Nat → Option Nat} {a n j : Nat} : E1 E a n a n j = none := if_pos ⟨rfl, rfl⟩
theorem u3_o {D : Nat → Nat → Nat → Int32} {k i j : Nat} {v : Int32} {k' i' j' : Nat} (h : ¬ (k' = k ∧ i' = i)) : u3 D k i j v k' i' j' = D k' i' j' := if_neg (fun z => h ⟨z.1, z.2.1⟩)
theorem e3_o {E : Nat → Nat → Nat → Option Nat} {k i j : Nat} {v : Option Nat} {k' i' j' : Nat} (h : ¬ (k' = k ∧ i' = i)) : e3 E k i j v k' i' j' = E k' i' j' := if_neg (fun z => h ⟨z.1, z.2.1⟩)
