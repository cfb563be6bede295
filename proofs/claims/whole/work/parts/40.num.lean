/-! numbers -/
theorem nl (n : Nat) : (OfNat.ofNat n : Int32) = nI n := rfl
theorem n_m1 : (-1 : Int32) = nI 0 - nI 1 := rfl
theorem n_le {a b : Nat} (ha : a < 2 ^ 31) (hb : b < 2 ^ 31) : nI a ≤ nI b ↔ a ≤ b := nI_leI ha hb
theorem n_lt {a b : Nat} (ha : a < 2 ^ 31) (hb : b < 2 ^ 31) : nI a < nI b ↔ a < b := nI_ltI ha hb
theorem n_eq {a b : Nat} (ha : a < 2 ^ 31) (hb : b < 2 ^ 31) : nI a = nI b ↔ a = b := nI_eq ha hb
theorem n_cl {a : Nat} (ha : a < 2 ^ 31) : (nI a).toNatClampNeg = a := nI_clamp ha
theorem n_in {a n : Nat} (ha : a < 2 ^ 31) (hn : n < 2 ^ 31) : vp_in (nI a) n ↔ a < n := by
  rw [vp_in_iff, nI_toInt ha]; omega
theorem n_mul (a b : Nat) : nI a * nI b = nI (a * b) := pk_mul a b
theorem n_add (a b : Nat) : nI a + nI b = nI (a + b) := nI_add a b
theorem n_sub {a b : Nat} (h : b ≤ a) : nI a - nI b = nI (a - b) := pk_sub h
theorem n_p1 (a : Nat) : nI a - nI 1 + nI 1 = nI a := by
  rw [Int32.sub_add_cancel]
/-- a number given from outside: in its range, or not -/
theorem n_ix (x : Int32) {n : Nat} (hn : n < 2 ^ 31) : (¬ (0 ≤ x ∧ x < nI n)) ∨ ∃ j : Nat, j < n ∧ x = nI j := by
  rcases pk_ix x hn with h | h | h
  · exact Or.inl fun q => absurd h (Int32.not_lt.mpr q.1)
  · exact Or.inl fun q => absurd q.2 (Int32.not_lt.mpr h)
  · exact Or.inr h
theorem n_not {c A B : Prop} (h : ¬ c) (b : B) : (c → A) ∧ (¬ c → B) := ⟨fun q => absurd q h, fun _ => b⟩
theorem n_yes {c A B : Prop} (h : c) (a : A) : (c → A) ∧ (¬ c → B) := ⟨fun _ => a, fun q => absurd h q⟩
theorem n_ite {c A B : Prop} (h1 : c → A) (h2 : ¬ c → B) : (c → A) ∧ (¬ c → B) := ⟨h1, h2⟩
theorem n_max {t a : Nat} (ht : t < 2 ^ 31) (ha : a < 2 ^ 31) : (if nI t < nI a then nI a else nI t) = nI (max t a) := by
  by_cases h : t < a
  · rw [if_pos ((n_lt ht ha).mpr h), show max t a = a by omega]
  · rw [if_neg (fun q => h ((n_lt ht ha).mp q)), show max t a = t by omega]
theorem n_min {t a : Nat} (ht : t < 2 ^ 31) (ha : a < 2 ^ 31) : (if nI a < nI t then nI a else nI t) = nI (min t a) := by
  by_cases h : a < t
  · rw [if_pos ((n_lt ha ht).mpr h), show min t a = a by omega]
  · rw [if_neg (fun q => h ((n_lt ha ht).mp q)), show min t a = t by omega]
theorem n_yesO {x : Option Nat} {A : Prop} {B : Nat → Prop} (h : x = none) (a : A) : (x = none → A) ∧ (∀ b, x = some b → B b) := ⟨fun _ => a, fun b q => by rw [h] at q; cases q⟩
theorem n_noO {x : Option Nat} {A : Prop} {B : Nat → Prop} {y : Nat} (h : x = some y) (b : B y) : (x = none → A) ∧ (∀ b, x = some b → B b) := by
  subst h
  refine ⟨fun q => (by cases q), fun z q => ?_⟩
  cases q
  exact b
