section YH
variable {am : Nat} {ar : Nat → Nat} {M : zM} {N : Nat → Nat → Nat} {Z : Nat → Nat → Int32}
theorem y_after_loop (h : yR am ar M N Z) {post : Int32 → zM → Prop} {k : Nat} (hk : k ≤ 572) (hab : ∀ i, i < k → N 32 i = 0 → N 33 i < 60) (hb : aft N k < 1073741824) (K : post (nI (aft N k)) M) :
    ∀ d i, i + d = k → w_Y_after_4 post (d + 1) M am (nI k) (nI (aft N i)) (nI i) := by
  intro d
  induction d with
  | zero =>
    intro i hi
    obtain rfl : i = k := by omega
    rw [w_Y_after_4]
    exact n_yes (by rw [n_le (by omega) (by omega)]; omega) K
  | succ d ih =>
    intro i hi
    rw [w_Y_after_4]
    have hin : vp_in (nI i) 572 := (n_in (by omega) (by omega)).mpr (by omega)
    have ih := ih (i + 1) (by omega)
    have ha : aft N i < 1073741824 := Nat.lt_of_le_of_lt (aft_le N (by omega)) hb
    refine n_not (by rw [n_le (by omega) (by omega)]; omega) ⟨h.T, y_get h 32 20 572 rfl rfl ⟨hin, ?_⟩⟩
    rw [n_cl (by omega), h.rn 32 i rfl rfl (by decide), l1, n_add, l2, n_eq (h.b 32 i) (by omega)]
    refine n_ite (fun hc => ?_) (fun hc => ?_)
    · refine y_get h 33 20 572 rfl rfl ⟨hin, ?_⟩
      rw [h.rn 33 i rfl rfl (by decide), n_add]
      rw [show aft N (i + 1) = aft N i + N 33 i by simp [aft, hc]] at ih
      exact ih
    · refine y_get h 32 20 572 rfl rfl ⟨hin, ?_⟩
      rw [h.rn 32 i rfl rfl (by decide), l0, n_eq (h.b 32 i) (by omega)]
      refine n_ite (fun hc2 => ?_) (fun hc2 => ?_)
      · refine y_get h 33 20 572 rfl rfl ⟨hin, ?_⟩
        rw [h.rn 33 i rfl rfl (by decide)]
        refine y_need h (hab i (by omega) hc2) ?_
        rw [n_le (by have := nd_b h (N 33 i); omega) (by omega)]
        rw [show aft N (i + 1) = max (aft N i) (nd N (N 33 i)) by simp [aft, hc, hc2]] at ih
        refine n_ite (fun hc3 => ?_) (fun hc3 => ?_)
        · rw [show max (aft N i) (nd N (N 33 i)) = aft N i by omega] at ih
          exact ih
        · rw [show max (aft N i) (nd N (N 33 i)) = nd N (N 33 i) by omega] at ih
          exact ih
      · rw [show aft N (i + 1) = aft N i by simp [aft, hc, hc2]] at ih
        exact ih
theorem y_after (h : yR am ar M N Z) {post : Int32 → zM → Prop} {k : Nat} (hk : k ≤ 572) (hab : ∀ i, i < k → N 32 i = 0 → N 33 i < 60) (hb : aft N k < 1073741824) (K : post (nI (aft N k)) M) : w_Y_after M am (nI k) post :=
  ⟨k + 1, y_after_loop h hk hab hb K k 0 (by omega)⟩
def bI (b : Bool) : Int32 := if b then 1 else 0
theorem y_out_loop (h : yR am ar M N Z) {post : Int32 → zM → Prop} {q : Nat} (hq : q < 60) (hh : N 35 0 ≤ 572) (K : post (bI (opn N q (N 35 0))) M) (K0 : ∀ i, i ≤ N 35 0 → opn N q i = false → opn N q (N 35 0) = false) :
    ∀ d i, i + d = N 35 0 → w_Y_outstanding_25 post (d + 2) M am (nI q) (bI (opn N q i)) (nI i) := by
  intro d
  induction d with
  | zero =>
    intro i hi
    obtain rfl : i = N 35 0 := by omega
    rw [w_Y_outstanding_25, h.sc 35 rfl]
    refine ⟨h.T, n_yes (by rw [n_le (by omega) (by omega)]; omega) ⟨?_, K⟩⟩
    unfold bI; split
    · exact Or.inr rfl
    · exact Or.inl rfl
  | succ d ih =>
    intro i hi
    rw [w_Y_outstanding_25, h.sc 35 rfl]
    refine ⟨h.T, n_not (by rw [n_le (by omega) (by omega)]; omega) ?_⟩
    cases ho : opn N q i with
    | false =>
      rw [K0 i (by omega) ho] at K
      exact n_yes rfl ⟨Or.inl rfl, K⟩
    | true =>
      have hin : vp_in (nI i) 572 := (n_in (by omega) (by omega)).mpr (by omega)
      have ih := ih (i + 1) (by omega)
      refine n_not (by decide) (y_get h 32 20 572 rfl rfl ⟨hin, ?_⟩)
      rw [n_cl (by omega), h.rn 32 i rfl rfl (by decide), l1, n_add, l2, n_eq (h.b 32 i) (by omega)]
      refine n_ite (fun hc => ?_) (fun hc => ?_)
      · rw [show opn N q (i + 1) = true by simp [opn, ho, hc]] at ih
        exact ih
      · refine y_get h 33 20 572 rfl rfl ⟨hin, ?_⟩
        rw [h.rn 33 i rfl rfl (by decide), n_eq (h.b 33 i) (by omega)]
        refine n_ite (fun hc2 => ?_) (fun hc2 => ?_)
        · rw [show opn N q (i + 1) = false by simp [opn, ho, hc, hc2]] at ih
          exact ih
        · rw [show opn N q (i + 1) = true by simp [opn, ho, hc2]] at ih
          exact ih
theorem opn_mono (N : Nat → Nat → Nat) (q : Nat) {i k : Nat} (h : i ≤ k) (ho : opn N q i = false) : opn N q k = false := by
  induction k with
  | zero => have : i = 0 := by omega
            subst this; exact ho
  | succ k ih =>
    rcases Nat.lt_or_ge k i with h1 | h1
    · have : i = k + 1 := by omega
      subst this; exact ho
    · simp [opn, ih h1]
theorem y_out (h : yR am ar M N Z) {post : Int32 → zM → Prop} {q : Nat} (hq : q < 60) (hh : N 35 0 ≤ 572) (K : post (bI (ost N q)) M) : w_Y_outstanding M am (nI q) post := by
  have zero : ost N q = false → ∃ n, w_Y_outstanding_25 post n M am (nI q) (0 : Int32) (0 : Int32) := by
    intro ho
    rw [ho] at K
    refine ⟨1, ?_⟩
    rw [w_Y_outstanding_25, h.sc 35 rfl]
    refine ⟨h.T, n_ite (fun _ => ⟨Or.inl rfl, K⟩) (fun _ => n_yes rfl ⟨Or.inl rfl, K⟩)⟩
  unfold w_Y_outstanding
  refine ⟨h.T, y_get h 16 20 60 rfl rfl ⟨(n_in (by omega) (by omega)).mpr hq, ?_⟩⟩
  rw [n_cl (by omega), h.rn 16 q rfl rfl (by decide), l0, n_le (h.b 16 q) (by omega)]
  refine n_ite (fun hc => zero (by simp [ost]; omega)) (fun hc => y_need h hq ?_)
  rw [n_le (by have := nd_b h q; omega) (by omega)]
  refine n_ite (fun hc2 => zero (by simp [ost]; omega)) (fun hc2 => ⟨N 35 0 + 2, ?_⟩)
  have e : ost N q = opn N q (N 35 0) := by
    have h1 : decide (0 < N 16 q) = true := by simp; omega
    have h2 : decide (0 < nd N q) = true := by simp; omega
    simp [ost, h1, h2]
  rw [e] at K
  exact y_out_loop h hq hh K (fun i hi ho => opn_mono N q hi ho) (N 35 0) 0 (by omega)
theorem xo_eq {k : Nat} {ex : Option Nat} (hk : k < 60) (hx : ∀ q, ex = some q → q < 60) : nI k = xo ex ↔ some k = ex := by
  cases ex with
  | none =>
    refine ⟨fun q => ?_, fun q => by cases q⟩
    have := congrArg Int32.toInt q
    rw [nI_toInt (by omega), show (xo none).toInt = -1 from rfl] at this
    omega
  | some q =>
    show nI k = nI q ↔ _
    rw [n_eq (by omega) (by have := hx q rfl; omega)]
    exact ⟨fun q => by rw [q], fun q => Option.some.inj q⟩
theorem bI_z (b : Bool) : bI b = (0 : Int32) ↔ b = false := by cases b <;> simp [bI]
theorem rsk_le (N : Nat → Nat → Nat) (t : Nat) (ex : Option Nat) : ∀ k, rsk N t ex k ≤ k
  | 0 => Nat.le_refl _
  | k + 1 => by have := rsk_le N t ex k; simp only [rsk]; split <;> omega
theorem y_risky_loop (h : yR am ar M N Z) {post : Int32 → zM → Prop} {t : Nat} {ex : Option Nat} (hn : N 6 0 ≤ 60) (hx : ∀ q, ex = some q → q < 60) (ht : t < 1073741824) (hh : N 35 0 ≤ 572) (K : post (nI (rsk N t ex (N 6 0))) M) :
    ∀ d k, k + d = N 6 0 → w_Y_risky_5 post (d + 1) M am (nI t) (xo ex) (nI (rsk N t ex k)) (nI k) := by
  intro d
  induction d with
  | zero =>
    intro k hk
    obtain rfl : k = N 6 0 := by omega
    rw [w_Y_risky_5, h.sc 6 rfl]
    exact ⟨h.T, n_yes (by rw [n_le (by omega) (by omega)]; omega) K⟩
  | succ d ih =>
    intro k hk
    rw [w_Y_risky_5, h.sc 6 rfl]
    have ih := ih (k + 1) (by omega)
    refine ⟨h.T, n_not (by rw [n_le (by omega) (by omega)]; omega) ?_⟩
    rw [xo_eq (by omega) hx, l1, n_add, n_add]
    refine n_ite (fun hc => ?_) (fun hc => y_need h (by omega) ?_)
    · rw [show rsk N t ex (k + 1) = rsk N t ex k by simp [rsk, hc]] at ih
      exact ih
    · rw [n_le (by have := nd_b h k; omega) (by omega)]
      refine n_ite (fun hc2 => ?_) (fun hc2 => ⟨h.T, y_out h (by omega) hh ?_⟩)
      · rw [show rsk N t ex (k + 1) = rsk N t ex k by simp only [rsk]; rw [if_neg (fun q => by omega)]; omega] at ih
        exact ih
      · rw [bI_z]
        refine n_ite (fun hc3 => ?_) (fun hc3 => ?_)
        · rw [show rsk N t ex (k + 1) = rsk N t ex k by simp [rsk, hc3]] at ih
          exact ih
        · rw [show rsk N t ex (k + 1) = rsk N t ex k + 1 by simp only [rsk]; rw [if_pos ⟨hc, by omega, by simpa using hc3⟩]] at ih
          exact ih
theorem y_risky (h : yR am ar M N Z) {post : Int32 → zM → Prop} {t : Nat} {ex : Option Nat} (hn : N 6 0 ≤ 60) (hx : ∀ q, ex = some q → q < 60) (ht : t < 1073741824) (hh : N 35 0 ≤ 572) (K : post (nI (rsk N t ex (N 6 0))) M) : w_Y_risky M am (nI t) (xo ex) post :=
  ⟨N 6 0 + 1, y_risky_loop h hn hx ht hh K (N 6 0) 0 (by omega)⟩
theorem y_use_step (h : yR am ar M N Z) {post : Int32 → zM → Prop} {KK : zM → Nat → Int32 → Int32 → Int32 → Int32 → Int32 → Int32 → Prop} {x2 : Int32} {e c k f n : Nat} (hk : k < 60) (he : e < 1073741823) (hf : f < 3 * k + 3) (K : w_Y_uses_42 post KK n M am (nI e) x2 (nI (c + if N 20 f = e + 1 then 1 else 0)) (nI k) (1 : Int32) (nI (f + 1))) : w_Y_uses_42 post KK (n + 1) M am (nI e) x2 (nI c) (nI k) (1 : Int32) (nI f) := by
  rw [w_Y_uses_42]
  refine n_not (by rw [l3, n_mul, n_add, n_le (by omega) (by omega)]; omega) (n_not (by decide) ⟨h.T, y_get h 20 20 180 rfl rfl ⟨(n_in (by omega) (by omega)).mpr (by omega), ?_⟩⟩)
  have e1 : nI (N 20 f) - nI 1 = nI e ↔ N 20 f = e + 1 := by
    constructor
    · intro q
      have : nI (N 20 f) = nI (e + 1) := by rw [← n_add, ← q, n_p1]
      rw [n_eq (h.b 20 f) (by omega)] at this
      exact this
    · intro q
      rw [q, ← n_add, Int32.add_sub_cancel]
  rw [n_cl (by omega), h.rr 20 f rfl (by omega), e1]
  rw [show (1 : Int32) = nI 1 from rfl, n_add, n_add]
  refine n_ite (fun hc => ?_) (fun hc => ?_)
  · rw [if_pos hc] at K
    exact K
  · rw [if_neg hc] at K
    exact K
theorem y_use_loop (h : yR am ar M N Z) {post : Int32 → zM → Prop} {e : Nat} {ex : Option Nat} (hn : N 6 0 ≤ 60) (hx : ∀ q, ex = some q → q < 60) (he : e < 1073741823) (hh : N 35 0 ≤ 572) (K : post (nI (use N e ex (N 6 0))) M) :
    ∀ d k, k + d = N 6 0 → w_Y_uses_5 post (d + 1) M am (nI e) (xo ex) (nI (use N e ex k)) (nI k) := by
  intro d
  induction d with
  | zero =>
    intro k hk
    obtain rfl : k = N 6 0 := by omega
    rw [w_Y_uses_5, h.sc 6 rfl]
    exact ⟨h.T, n_yes (by rw [n_le (by omega) (by omega)]; omega) K⟩
  | succ d ih =>
    intro k hk
    rw [w_Y_uses_5, h.sc 6 rfl]
    have ih := ih (k + 1) (by omega)
    have one : some k = ex ∨ ost N k = true → ∃ n, w_Y_uses_42 post (fun M14 y15 y16 y17 y18 y19 y20 y21 => w_Y_uses_5 post (d + 1) M14 y15 y16 y17 y18 (y19 + (1 : Int32))) n M am (nI e) (xo ex) (nI (use N e ex k)) (nI k) (1 : Int32) ((3 : Int32) * nI k) := by
      intro ho
      refine ⟨4, ?_⟩
      rw [l3, n_mul]
      refine y_use_step h (by omega) he (by omega) (y_use_step h (by omega) he (by omega) (y_use_step h (by omega) he (by omega) ?_))
      rw [w_Y_uses_42]
      refine n_yes (by rw [l3, n_mul, n_add, n_le (by omega) (by omega)]; omega) ?_
      rw [show use N e ex (k + 1) = use N e ex k + use1 N e k by simp only [use]; rw [if_pos ho]] at ih
      rw [show (1 : Int32) = nI 1 from rfl, n_add]
      unfold use1 at ih
      rw [show 3 * k + 1 + 1 = 3 * k + 2 by omega]
      rw [← Nat.add_assoc, ← Nat.add_assoc] at ih
      exact ih
    have zer : ¬ (some k = ex ∨ ost N k = true) → ∃ n, w_Y_uses_42 post (fun M14 y15 y16 y17 y18 y19 y20 y21 => w_Y_uses_5 post (d + 1) M14 y15 y16 y17 y18 (y19 + (1 : Int32))) n M am (nI e) (xo ex) (nI (use N e ex k)) (nI k) (0 : Int32) ((3 : Int32) * nI k) := by
      intro ho
      refine ⟨1, ?_⟩
      rw [w_Y_uses_42]
      rw [show use N e ex (k + 1) = use N e ex k by simp only [use]; rw [if_neg ho]; omega] at ih
      have ih : w_Y_uses_5 post (d + 1) M am (nI e) (xo ex) (nI (use N e ex k)) (nI k + (1 : Int32)) := by rw [show (1 : Int32) = nI 1 from rfl, n_add]; exact ih
      exact n_ite (fun _ => ih) (fun _ => n_yes rfl ih)
    refine ⟨h.T, n_not (by rw [n_le (by omega) (by omega)]; omega) ?_⟩
    rw [xo_eq (by omega) hx]
    refine n_ite (fun hc => one (Or.inl hc)) (fun hc => y_out h (by omega) hh ?_)
    rw [bI_z]
    refine n_ite (fun hc2 => zer (fun q => q.elim hc (fun z => by rw [z] at hc2; cases hc2))) (fun hc2 => one (Or.inr (by simpa using hc2)))
theorem y_uses (h : yR am ar M N Z) {post : Int32 → zM → Prop} {e : Nat} {ex : Option Nat} (hn : N 6 0 ≤ 60) (hx : ∀ q, ex = some q → q < 60) (he : e < 1073741823) (hh : N 35 0 ≤ 572) (K : post (nI (use N e ex (N 6 0))) M) : w_Y_uses M am (nI e) (xo ex) post :=
  ⟨N 6 0 + 1, y_use_loop h hn hx he hh K (N 6 0) 0 (by omega)⟩
theorem y_oldest (h : yR am ar M N Z) {post : Int32 → zM → Prop} (K : post (nI (N 28 0 - 5)) M) : w_Y_oldest M am post := by
  unfold w_Y_oldest
  rw [h.sc 28 rfl, l5, n_le (h.b 28 0) (by omega)]
  refine ⟨h.T, n_ite (fun hc => ?_) (fun hc => ?_)⟩
  · rw [show N 28 0 - 5 = 0 by omega] at K; exact K
  · rw [n_sub (by omega)]; exact K
theorem y_putN {P : zM → Prop} (h : yR am ar M N Z) (k q v : Nat) (hk : yA k = true) (h1 : yZ k = false) (h2 : ¬ (k = 20 ∨ k = 21)) {w : Int32} (hw : w = nI v) (hv : v < 1073741824) (K : ∀ M', yR am ar M' (un N k q v) Z → P M') : ∀ M', M' = zwI M (ar k) q w → P M' := by
  intro M' e
  subst e hw
  exact K _ (h.wN k q v hk h1 h2 hv)
theorem y_putR {P : zM → Prop} (h : yR am ar M N Z) (k q v : Nat) (hk : yA k = true) (h2 : (k = 20 ∧ q < 180) ∨ (k = 21 ∧ q < 6)) {w : Int32} (hw : w = nI v - nI 1) (hv : v < 1073741824) (K : ∀ M', yR am ar M' (un N k q v) Z → P M') : ∀ M', M' = zwI M (ar k) q w → P M' := by
  intro M' e
  subst e hw
  exact K _ (h.wR k q v hk h2 hv)
theorem y_putZ {P : zM → Prop} (h : yR am ar M N Z) (k q : Nat) (w : Int32) (hk : yA k = true) (h1 : yZ k = true) (K : ∀ M', yR am ar M' N (uz Z k q w) → P M') : ∀ M', M' = zwI M (ar k) q w → P M' := by
  intro M' e
  subst e
  exact K _ (h.wZ k q w hk h1)
theorem y_tell (h : yR am ar M N Z) {post : zM → Prop} {a x : Nat} (ha : a < 1073741824) (hx : x < 1073741824) (hw : N 34 0 < 572) (K : ∀ M', yR am ar M' (un (un (un N 32 (N 34 0) a) 33 (N 34 0) x) 34 0 (N 34 0 + 1)) Z → post M') : w_Y_tell M am (nI a) (nI x) post := by
  unfold w_Y_tell
  rw [h.sc 34 rfl]
  refine ⟨h.T, y_get h 32 20 572 rfl rfl ⟨(n_in (by omega) (by omega)).mpr hw, ?_⟩⟩
  refine y_setN h 32 (N 34 0) a rfl rfl (by decide) rfl (by omega) rfl ha (fun M h => ?_)
  rw [h.sc 34 rfl]
  refine y_get h 33 20 572 rfl rfl ⟨(n_in (by simp [un]; omega) (by omega)).mpr (by simp [un]; omega), ?_⟩
  refine y_setN h 33 (N 34 0) x rfl rfl (by decide) (by simp [un]) (by omega) rfl hx (fun M h => ?_)
  rw [h.sc 34 rfl]
  refine y_setS h 34 (N 34 0 + 1) rfl (by simp only [un]; rw [l1, n_add]; simp) (by omega) (fun M h => K M h)
theorem vp_b1 : vp_nar .boolean (1 : Int32) = nI 1 := by decide
theorem vp_b0 : vp_nar .boolean (0 : Int32) = nI 0 := by decide
theorem y_write (h : yR am ar M N Z) {post : Int32 → zM → Prop} {r l : Nat} {c : Int32} (hr : r < 6) (hl : l < 1073741824) (ht : N 4 0 + 1 < 1073741824) (K : ∀ M', yR am ar M' (un (un (un (un N 4 0 (N 4 0 + 1)) 0 r 1) 2 r l) 3 r (N 4 0 + 1)) (uz Z 1 r c) → post (nI (N 4 0 + 1)) M') : w_Y_write M am (nI r) c (nI l) post := by
  unfold w_Y_write
  rw [h.sc 4 rfl, l1, n_add]
  have hin : vp_in (nI r) 6 := (n_in (by omega) (by omega)).mpr hr
  refine ⟨h.T, y_setS h 4 (N 4 0 + 1) rfl rfl ht (fun M h => ?_)⟩
  refine y_get h 0 21 6 rfl rfl ⟨hin, y_setN h 0 r 1 rfl rfl (by decide) rfl (by omega) vp_b1 (by omega) (fun M h => ?_)⟩
  refine y_get h 1 20 6 rfl rfl ⟨hin, y_setZ h 1 r c rfl rfl rfl (by omega) (fun M h => ?_)⟩
  refine y_get h 2 20 6 rfl rfl ⟨hin, y_setN h 2 r l rfl rfl (by decide) rfl (by omega) rfl hl (fun M h => ?_)⟩
  rw [h.sc 4 rfl]
  refine y_get h 3 20 6 rfl rfl ⟨hin, y_setN h 3 r (N 4 0 + 1) rfl rfl (by decide) rfl (by omega) (by simp [un]) ht (fun M h => ?_)⟩
  rw [h.sc 4 rfl]
  have := K M h
  simpa [un] using this
end YH
