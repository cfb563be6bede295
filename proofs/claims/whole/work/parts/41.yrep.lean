/-! the reference's memory, read as numbers: N k j (arrays and, at j = 0, single numbers), Z k j (contents, any int) -/
theorem l0 : (0 : Int32) = nI 0 := rfl
theorem l1 : (1 : Int32) = nI 1 := rfl
theorem l2 : (2 : Int32) = nI 2 := rfl
theorem l3 : (3 : Int32) = nI 3 := rfl
theorem l4 : (4 : Int32) = nI 4 := rfl
theorem l5 : (5 : Int32) = nI 5 := rfl
theorem l6 : (6 : Int32) = nI 6 := rfl
theorem l7 : (7 : Int32) = nI 7 := rfl
theorem l8 : (8 : Int32) = nI 8 := rfl
theorem l60 : (60 : Int32) = nI 60 := rfl
theorem l200 : (200 : Int32) = nI 200 := rfl
theorem l304 : (304 : Int32) = nI 304 := rfl
theorem l400 : (400 : Int32) = nI 400 := rfl
theorem l404 : (404 : Int32) = nI 404 := rfl
theorem l412 : (412 : Int32) = nI 412 := rfl
theorem l1000 : (1000 : Int32) = nI 1000 := rfl
def yA (k : Nat) : Bool := decide (k < 4) || (decide (6 < k) && decide (k < 28)) || k == 32 || k == 33
def yK (k : Nat) : Nat × Nat := if k = 0 then (21, 6) else if k < 4 then (20, 6) else if k = 7 then (21, 60) else if k < 20 then (20, 60) else if k = 20 then (20, 180) else if k < 26 then (20, 6) else if k < 28 then (20, 180) else (20, 572)
def yZ (k : Nat) : Bool := k == 1 || k == 10 || k == 14 || k == 19 || k == 23 || k == 27
def yv (N : Nat → Nat → Nat) (Z : Nat → Nat → Int32) (k j : Nat) : Int32 := if yZ k = true then Z k j else if (k = 20 ∧ j < 180) ∨ (k = 21 ∧ j < 6) then nI (N k j) - nI 1 else nI (N k j)
def un (N : Nat → Nat → Nat) (k j v : Nat) : Nat → Nat → Nat := fun k' j' => if k' = k ∧ j' = j then v else N k' j'
def uz (Z : Nat → Nat → Int32) (k j : Nat) (v : Int32) : Nat → Nat → Int32 := fun k' j' => if k' = k ∧ j' = j then v else Z k' j'
theorem un_apply (N : Nat → Nat → Nat) (k j v k' j' : Nat) : un N k j v k' j' = if k' = k ∧ j' = j then v else N k' j' := rfl
theorem uz_apply (Z : Nat → Nat → Int32) (k j : Nat) (v : Int32) (k' j' : Nat) : uz Z k j v k' j' = if k' = k ∧ j' = j then v else Z k' j' := rfl
def yR (am : Nat) (ar : Nat → Nat) (M : zM) (N : Nat → Nat → Nat) (Z : Nat → Nat → Int32) : Prop :=
  zT M am = some (9, 40) ∧ (∀ k, yA k = true → zR M am k = some (ar k)) ∧ (∀ k, yA k = true → zT M (ar k) = some (yK k)) ∧ (∀ k k', yA k = true → yA k' = true → ar k = ar k' → k = k') ∧ (∀ k, yA k = true → ar k ≠ am) ∧ (∀ k j, yA k = true → zI M (ar k) j = yv N Z k j) ∧ (∀ k, yA k = false → zI M am k = nI (N k 0)) ∧ ∀ k j, N k j < 1073741824
section YR
variable {am : Nat} {ar : Nat → Nat} {M : zM} {N : Nat → Nat → Nat} {Z : Nat → Nat → Int32}
theorem yR.T (h : yR am ar M N Z) : zT M am = some (9, 40) := h.1
theorem yR.R (h : yR am ar M N Z) (k : Nat) (hk : yA k = true) : zR M am k = some (ar k) := h.2.1 k hk
theorem yR.TA (h : yR am ar M N Z) (k : Nat) (hk : yA k = true) : zT M (ar k) = some (yK k) := h.2.2.1 k hk
theorem yR.rd (h : yR am ar M N Z) (k j : Nat) (hk : yA k = true) : zI M (ar k) j = yv N Z k j := h.2.2.2.2.2.1 k j hk
theorem yR.sc (h : yR am ar M N Z) (k : Nat) (hk : yA k = false) : zI M am k = nI (N k 0) := h.2.2.2.2.2.2.1 k hk
theorem yR.b (h : yR am ar M N Z) (k j : Nat) : N k j < 2 ^ 31 := by have := h.2.2.2.2.2.2.2 k j; omega
theorem yR.b30 (h : yR am ar M N Z) (k j : Nat) : N k j < 1073741824 := h.2.2.2.2.2.2.2 k j
theorem yv_n {k : Nat} (j : Nat) (h1 : yZ k = false) (h2 : ¬ (k = 20 ∨ k = 21)) : yv N Z k j = nI (N k j) := by
  unfold yv; rw [if_neg (by rw [h1]; decide), if_neg (fun z => h2 (z.elim (fun y => Or.inl y.1) (fun y => Or.inr y.1)))]
theorem yv_z {k : Nat} (j : Nat) (h1 : yZ k = true) : yv N Z k j = Z k j := by
  unfold yv; rw [if_pos h1]
theorem yv_r {k : Nat} (j : Nat) (h2 : (k = 20 ∧ j < 180) ∨ (k = 21 ∧ j < 6)) : yv N Z k j = nI (N k j) - nI 1 := by
  unfold yv; rw [if_neg (by rcases h2 with ⟨rfl, _⟩ | ⟨rfl, _⟩ <;> decide), if_pos h2]
theorem yR.rn (h : yR am ar M N Z) (k j : Nat) (hk : yA k = true) (h1 : yZ k = false) (h2 : ¬ (k = 20 ∨ k = 21)) : zI M (ar k) j = nI (N k j) := by rw [h.rd k j hk, yv_n j h1 h2]
theorem yR.rz (h : yR am ar M N Z) (k j : Nat) (hk : yA k = true) (h1 : yZ k = true) : zI M (ar k) j = Z k j := by rw [h.rd k j hk, yv_z j h1]
theorem yR.rr (h : yR am ar M N Z) (k j : Nat) (hk : yA k = true) (h2 : (k = 20 ∧ j < 180) ∨ (k = 21 ∧ j < 6)) : zI M (ar k) j = nI (N k j) - nI 1 := by rw [h.rd k j hk, yv_r j h2]
/-- a store into an array -/
theorem yR.wA (h : yR am ar M N Z) {N' : Nat → Nat → Nat} {Z' : Nat → Nat → Int32} (k j : Nat) (v : Int32) (hk : yA k = true) (hv : yv N' Z' k j = v) (ho : ∀ k' j', ¬ (k' = k ∧ j' = j) → yv N' Z' k' j' = yv N Z k' j' ∧ (yA k' = false → N' k' 0 = N k' 0)) (hb : ∀ k j, N' k j < 1073741824) : yR am ar (zwI M (ar k) j v) N' Z' := by
  obtain ⟨h1, h2, h3, h4, h5, h6, h7, h8⟩ := h
  refine ⟨h1, h2, h3, h4, h5, fun k' j' hk' => ?_, fun k' hk' => ?_, hb⟩
  · rw [zI_wI]
    by_cases hh : k' = k ∧ j' = j
    · obtain ⟨rfl, rfl⟩ := hh
      rw [if_pos ⟨rfl, rfl⟩, hv]
    · rw [if_neg (fun q => hh ⟨h4 _ _ hk' hk q.1, q.2⟩), h6 k' j' hk', (ho k' j' hh).1]
  · rw [zI_wI, if_neg (fun q => h5 k hk q.1.symm), h7 k' hk', (ho k' (j + 1) (fun q => by omega)).2 hk']
theorem yR.wN (h : yR am ar M N Z) (k j v : Nat) (hk : yA k = true) (h1 : yZ k = false) (h2 : ¬ (k = 20 ∨ k = 21)) (hv : v < 1073741824) : yR am ar (zwI M (ar k) j (nI v)) (un N k j v) Z := by
  refine h.wA k j (nI v) hk (by rw [yv_n j h1 h2, un_apply, if_pos ⟨rfl, rfl⟩]) (fun k' j' hh => ⟨by unfold yv; rw [un_apply, if_neg hh], fun hf => by rw [un_apply, if_neg (fun q => by rw [q.1, hk] at hf; cases hf)]⟩) (fun a b => ?_)
  rw [un_apply]; split
  · exact hv
  · exact h.b30 a b
theorem yR.wR (h : yR am ar M N Z) (k j v : Nat) (hk : yA k = true) (h2 : (k = 20 ∧ j < 180) ∨ (k = 21 ∧ j < 6)) (hv : v < 1073741824) : yR am ar (zwI M (ar k) j (nI v - nI 1)) (un N k j v) Z := by
  refine h.wA k j _ hk (by rw [yv_r j h2, un_apply, if_pos ⟨rfl, rfl⟩]) (fun k' j' hh => ⟨by unfold yv; rw [un_apply, if_neg hh], fun hf => by rw [un_apply, if_neg (fun q => by rw [q.1, hk] at hf; cases hf)]⟩) (fun a b => ?_)
  rw [un_apply]; split
  · exact hv
  · exact h.b30 a b
theorem yR.wZ (h : yR am ar M N Z) (k j : Nat) (v : Int32) (hk : yA k = true) (h1 : yZ k = true) : yR am ar (zwI M (ar k) j v) N (uz Z k j v) := by
  refine h.wA k j v hk (by rw [yv_z j h1, uz_apply, if_pos ⟨rfl, rfl⟩]) (fun k' j' hh => ⟨?_, fun _ => rfl⟩) h.b30
  unfold yv; rw [uz_apply, if_neg hh]
theorem yR.wS (h : yR am ar M N Z) (k v : Nat) (hk : yA k = false) (hv : v < 1073741824) : yR am ar (zwI M am k (nI v)) (un N k 0 v) Z := by
  obtain ⟨h1, h2, h3, h4, h5, h6, h7, h8⟩ := h
  refine ⟨h1, h2, h3, h4, h5, fun k' j' hk' => ?_, fun k' hk' => ?_, fun a b => ?_⟩
  · rw [zI_wI, if_neg (fun q => h5 k' hk' q.1), h6 k' j' hk']
    have e : un N k 0 v k' j' = N k' j' := by rw [un_apply, if_neg (fun q => by rw [q.1, hk] at hk'; cases hk')]
    unfold yv
    rw [e]
  · rw [zI_wI, un_apply]
    by_cases hh : k' = k
    · rw [if_pos ⟨rfl, hh⟩, if_pos ⟨hh, rfl⟩]
    · rw [if_neg (fun q => hh q.2), if_neg (fun q => hh q.1), h7 k' hk']
  · rw [un_apply]; split
    · exact hv
    · exact h8 a b
theorem y_get {P : Nat → Nat → Prop} (h : yR am ar M N Z) (k kd n : Nat) (hk : yA k = true) (hkk : yK k = (kd, n)) (hp : P (ar k) n) : ∃ b, zR M am k = some b ∧ ∃ m, zT M b = some (kd, m) ∧ P b m := ⟨ar k, h.R k hk, n, by rw [h.TA k hk, hkk], hp⟩
theorem y_setN {P : zM → Prop} (h : yR am ar M N Z) (k q v : Nat) (hk : yA k = true) (h1 : yZ k = false) (h2 : ¬ (k = 20 ∨ k = 21)) {x w : Int32} (hx : x = nI q) (hq : q < 2 ^ 31) (hw : w = nI v) (hv : v < 1073741824) (K : ∀ M', yR am ar M' (un N k q v) Z → P M') : ∀ M', M' = zwI M (ar k) x.toNatClampNeg w → P M' := by
  intro M' e
  subst e hx hw
  rw [n_cl hq]
  exact K _ (h.wN k q v hk h1 h2 hv)
theorem y_setR {P : zM → Prop} (h : yR am ar M N Z) (k q v : Nat) (hk : yA k = true) (h2 : (k = 20 ∧ q < 180) ∨ (k = 21 ∧ q < 6)) {x w : Int32} (hx : x = nI q) (hq : q < 2 ^ 31) (hw : w = nI v - nI 1) (hv : v < 1073741824) (K : ∀ M', yR am ar M' (un N k q v) Z → P M') : ∀ M', M' = zwI M (ar k) x.toNatClampNeg w → P M' := by
  intro M' e
  subst e hx hw
  rw [n_cl hq]
  exact K _ (h.wR k q v hk h2 hv)
theorem y_setZ {P : zM → Prop} (h : yR am ar M N Z) (k q : Nat) (w : Int32) (hk : yA k = true) (h1 : yZ k = true) {x : Int32} (hx : x = nI q) (hq : q < 2 ^ 31) (K : ∀ M', yR am ar M' N (uz Z k q w) → P M') : ∀ M', M' = zwI M (ar k) x.toNatClampNeg w → P M' := by
  intro M' e
  subst e hx
  rw [n_cl hq]
  exact K _ (h.wZ k q w hk h1)
theorem y_setS {P : zM → Prop} (h : yR am ar M N Z) (k v : Nat) (hk : yA k = false) {w : Int32} (hw : w = nI v) (hv : v < 1073741824) (K : ∀ M', yR am ar M' (un N k 0 v) Z → P M') : ∀ M', M' = zwI M am k w → P M' := by
  intro M' e
  subst e hw
  exact K _ (h.wS k v hk hv)
/-! what the reference counts -/
def nd (N : Nat → Nat → Nat) (q : Nat) : Nat := max (max (N 20 (3 * q)) (N 20 (3 * q + 1))) (N 20 (3 * q + 2))
def aft (N : Nat → Nat → Nat) : Nat → Nat
  | 0 => 0
  | k + 1 => if N 32 k = 2 then aft N k + N 33 k else if N 32 k = 0 then max (aft N k) (nd N (N 33 k)) else aft N k
def opn (N : Nat → Nat → Nat) (q : Nat) : Nat → Bool
  | 0 => true
  | k + 1 => opn N q k && (decide (N 32 k = 2) || !decide (N 33 k = q))
def ost (N : Nat → Nat → Nat) (q : Nat) : Bool := decide (0 < N 16 q) && decide (0 < nd N q) && opn N q (N 35 0)
def xo (e : Option Nat) : Int32 := match e with
  | none => -1
  | some q => nI q
def rsk (N : Nat → Nat → Nat) (than : Nat) (ex : Option Nat) : Nat → Nat
  | 0 => 0
  | k + 1 => rsk N than ex k + (if ¬ some k = ex ∧ than < nd N k ∧ ost N k = true then 1 else 0)
def use1 (N : Nat → Nat → Nat) (e k : Nat) : Nat := (if N 20 (3 * k) = e + 1 then 1 else 0) + (if N 20 (3 * k + 1) = e + 1 then 1 else 0) + (if N 20 (3 * k + 2) = e + 1 then 1 else 0)
def use (N : Nat → Nat → Nat) (e : Nat) (ex : Option Nat) : Nat → Nat
  | 0 => 0
  | k + 1 => use N e ex k + (if some k = ex ∨ ost N k = true then use1 N e k else 0)
theorem nd_b (h : yR am ar M N Z) (q : Nat) : nd N q < 1073741824 := by
  unfold nd
  have := h.b30 20 (3 * q); have := h.b30 20 (3 * q + 1); have := h.b30 20 (3 * q + 2)
  omega
theorem aft_mono (N : Nat → Nat → Nat) (k : Nat) : aft N k ≤ aft N (k + 1) := by
  simp only [aft]
  split
  · omega
  · split <;> omega
theorem aft_le (N : Nat → Nat → Nat) {j k : Nat} (h : j ≤ k) : aft N j ≤ aft N k := by
  induction k with
  | zero => have : j = 0 := by omega
            subst this; exact Nat.le_refl _
  | succ k ih =>
    rcases Nat.lt_or_ge k j with h1 | h1
    · have : j = k + 1 := by omega
      subst this; exact Nat.le_refl _
    · exact Nat.le_trans (ih h1) (aft_mono N k)
theorem y_within {post : Int32 → zM → Prop} {x y : Int32} (K : post (if 0 ≤ x ∧ x ≤ y then 1 else 0) M) : w_Y_within M x y post := by
  unfold w_Y_within
  by_cases h : x < 0
  · rw [if_neg (fun q => absurd h (Int32.not_lt.mpr q.1))] at K
    exact n_yes h K
  · refine n_not h ?_
    by_cases h2 : y < x
    · rw [if_neg (fun q => absurd h2 (Int32.not_lt.mpr q.2))] at K
      exact n_yes h2 K
    · rw [if_pos ⟨Int32.not_lt.mp h, Int32.not_lt.mp h2⟩] at K
      exact n_not h2 K
theorem y_need_step (h : yR am ar M N Z) {post : Int32 → zM → Prop} {q f a n : Nat} (hq : q < 60) (hf : f < 3 * q + 3) (ha : a < 1073741824) (K : w_Y_need_6 post n M am (nI q) (nI (max a (N 20 f))) (nI (f + 1))) : w_Y_need_6 post (n + 1) M am (nI q) (nI a) (nI f) := by
  rw [w_Y_need_6]
  have hin : vp_in (nI f) 180 := (n_in (by omega) (by omega)).mpr (by omega)
  refine n_not (by rw [l3, n_mul, n_add, n_le (by omega) (by omega)]; omega) ⟨h.T, y_get h 20 20 180 rfl rfl ⟨hin, ?_⟩⟩
  rw [n_cl (by omega), h.rr 20 f rfl (by omega), l1, n_p1, n_add]
  refine n_ite (fun hc => ?_) (fun hc => ?_)
  · rw [n_le (h.b 20 f) (by omega)] at hc
    rw [show max a (N 20 f) = a by omega] at K
    exact K
  · rw [n_le (h.b 20 f) (by omega)] at hc
    rw [show max a (N 20 f) = N 20 f by omega] at K
    refine y_get h 20 20 180 rfl rfl ⟨hin, ?_⟩
    rw [h.rr 20 f rfl (by omega), n_p1]
    exact K
theorem y_need (h : yR am ar M N Z) {post : Int32 → zM → Prop} {q : Nat} (hq : q < 60) (K : post (nI (nd N q)) M) : w_Y_need M am (nI q) post := by
  refine ⟨4, ?_⟩
  rw [l3, n_mul, l0]
  have b0 := h.b30 20 (3 * q); have b1 := h.b30 20 (3 * q + 1); have b2 := h.b30 20 (3 * q + 2)
  refine y_need_step h hq (by omega) (by omega) (y_need_step h hq (by omega) (by omega) (y_need_step h hq (by omega) (by omega) ?_))
  rw [w_Y_need_6]
  refine n_yes (by rw [l3, n_mul, n_add, n_le (by omega) (by omega)]; omega) ?_
  rw [show max (max (max 0 (N 20 (3 * q))) (N 20 (3 * q + 1))) (N 20 (3 * q + 1 + 1)) = nd N q by unfold nd; rw [show 3 * q + 1 + 1 = 3 * q + 2 by omega]; omega]
  exact K
end YR
