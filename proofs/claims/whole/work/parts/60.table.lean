/-! the table's walks -/
theorem rft_iff (D : Nat → Nat → Nat → Int32) (q : Nat) (x : Int32) : ∀ c, rft D q x c = true ↔ ∃ i, i < c ∧ D 18 q i = x
  | 0 => by simp [rft]
  | c + 1 => by
    simp only [rft, Bool.or_eq_true, rft_iff D q x c, decide_eq_true_eq]
    constructor
    · rintro (⟨i, h1, h2⟩ | h)
      · exact ⟨i, by omega, h2⟩
      · exact ⟨c, by omega, h⟩
    · rintro ⟨i, h1, h2⟩
      by_cases e : i = c
      · subst e; exact Or.inr h2
      · exact Or.inl ⟨i, by omega, h2⟩
theorem cnt_f {P : Nat → Bool} {n : Nat} (h : P n = false) : cnt P (n + 1) = cnt P n := by simp [cnt, h]
theorem cnt_t {P : Nat → Bool} {n : Nat} (h : P n = true) : cnt P (n + 1) = cnt P n + 1 := by simp [cnt, h]
def refs (N : Nat → Nat → Nat) (e q : Nat) : Bool := decide (N 20 (3 * q) = e + 1 ∨ N 20 (3 * q + 1) = e + 1 ∨ N 20 (3 * q + 2) = e + 1)
section TB
variable {V : Nat → Nat → Prop} {ad : Nat → Nat → Nat} {M : zM} {D : Nat → Nat → Nat → Int32} {E : Nat → Nat → Nat → Option Nat}
theorem c_refers_loop (h : zX V ad M D E) {post : Int32 → zM → Prop} {q cc : Nat} {x : Int32} (hV0 : V 0 q) (hV18 : V 18 q) (hE : E 0 q 1 = some (ad 18 q)) (hc : D 0 q 2 = nI cc) (hc3 : cc ≤ 3) (K : post (bI (rft D q x cc)) M) : ∀ d i, i + d = cc → (∀ i', i' < i → ¬ D 18 q i' = x) → w_A_refersTo_2 post (d + 1) M (ad 0 q) x (nI i) := by
  intro d
  induction d with
  | zero =>
    intro i hi hno
    rw [w_A_refersTo_2, h.I hV0, hc, n_le (by omega) (by omega)]
    refine ⟨h.T hV0, n_yes (by omega) ?_⟩
    have : rft D q x cc = false := by
      rw [← Bool.not_eq_true, rft_iff]
      rintro ⟨j, h1, h2⟩
      exact hno j (by omega) h2
    rw [this] at K
    exact K
  | succ d ih =>
    intro i hi hno
    rw [w_A_refersTo_2, h.I hV0, hc, n_le (by omega) (by omega)]
    refine ⟨h.T hV0, n_not (by omega) (c_arr h hV0 hV18 hE rfl (n_not (by rw [n_le (by omega) (by omega)]; omega) (c_arr h hV0 hV18 hE rfl ⟨(n_in (by omega) (by omega)).mpr (by omega), ?_⟩)))⟩
    rw [n_cl (by omega), h.I hV18]
    refine n_ite (fun he => ?_) (fun he => ?_)
    · have : rft D q x cc = true := (rft_iff D q x cc).mpr ⟨i, by omega, he⟩
      rw [this] at K
      exact K
    · rw [l1, n_add]
      refine ih (i + 1) (by omega) (fun i' hi' => ?_)
      by_cases e : i' = i
      · subst e; exact he
      · exact hno i' (by omega)
theorem c_refers (h : zX V ad M D E) {post : Int32 → zM → Prop} {q cc : Nat} {x : Int32} (hV0 : V 0 q) (hV18 : V 18 q) (hE : E 0 q 1 = some (ad 18 q)) (hc : D 0 q 2 = nI cc) (hc3 : cc ≤ 3) (K : post (bI (rft D q x cc)) M) : w_A_refersTo M (ad 0 q) x post := ⟨cc + 1, c_refers_loop h hV0 hV18 hE hc hc3 K cc 0 (by omega) (fun i hi => by omega)⟩
theorem rG_refs {N : Nat → Nat → Nat} {q e : Nat} (he : e < 1073741823) {cc : Nat} (h4 : ∀ e, e < 1073741823 → (rft D q (nI e) cc = true ↔ (N 20 (3 * q) = e + 1 ∨ N 20 (3 * q + 1) = e + 1 ∨ N 20 (3 * q + 2) = e + 1))) : rft D q (nI e) cc = refs N e q := by
  have := h4 e he
  unfold refs
  by_cases hh : rft D q (nI e) cc = true
  · rw [hh]; exact (decide_eq_true (this.mp hh)).symm
  · rw [Bool.not_eq_true] at hh
    rw [hh]; exact (decide_eq_false (fun z => by rw [this.mpr z] at hh; cases hh)).symm
/-- what the walks need -/
def tF (V : Nat → Nat → Prop) (ad : Nat → Nat → Nat) (D : Nat → Nat → Nat → Int32) (E : Nat → Nat → Nat → Option Nat) (qa : Nat → Nat) (c : Nat) (N : Nat → Nat → Nat) (Z : Nat → Nat → Int32) : Prop :=
  (D 7 0 3 = nI c ∧ c ≤ 60) ∧ (∀ j, j < c → E 16 0 j = some (ad 0 (qa j)) ∧ V 0 (qa j) ∧ V 18 (qa j) ∧ E 0 (qa j) 1 = some (ad 18 (qa j)) ∧ D 0 (qa j) 9 = bI (ost N (qa j)) ∧ D 0 (qa j) 3 = nI (nd N (qa j)) ∧ rG D N (qa j)) ∧ (D 7 0 4 = nI (N 28 0) ∧ D 7 0 5 = nI (aft N (N 35 0)) ∧ ∀ e, e < N 28 0 → N 28 0 ≤ e + 5 → D 14 0 (e % 5) = nI (N 26 e) ∧ D 15 0 (e % 5) = Z 27 e) ∧ ∀ P : Nat → Bool, cnt (fun j => P (qa j)) c = cnt (fun q => elig N q && P q) (N 6 0)
variable {qa : Nat → Nat} {c : Nat} {N : Nat → Nat → Nat} {Z : Nat → Nat → Int32}
theorem c_outN_loop (h : zX V ad M D E) (t : tF V ad D E qa c N Z) (hb : ∀ k j, N k j < 1073741824) {post : Int32 → zM → Prop} {a : Nat} (ha : a < 2 ^ 31) {P : Nat → Bool} (hP : ∀ j, P j = (ost N (qa j) && decide (a ≤ nd N (qa j)))) (K : post (nI (cnt P c)) M) : ∀ d i, i + d = c → w_T_outstandingNeeding_4 post (d + 1) M (ad 7 0) (nI a) (nI (cnt P i)) (nI i) := by
  obtain ⟨⟨t1, t2⟩, t3, t4, t5⟩ := t
  intro d
  induction d with
  | zero =>
    intro i hi
    rw [w_T_outstandingNeeding_4, h.I h.v7, t1, n_le (by omega) (by omega)]
    have : i = c := by omega
    subst this
    exact ⟨h.T h.v7, n_yes (by omega) K⟩
  | succ d ih =>
    intro i hi
    obtain ⟨e16, v0, v18, e01, d9, d3, g⟩ := t3 i (by omega)
    rw [w_T_outstandingNeeding_4, h.I h.v7, t1, n_le (by omega) (by omega)]
    refine ⟨h.T h.v7, n_not (by omega) (c_arr h h.v7 h.v16 h.e72 rfl (n_not (by rw [n_le (by omega) (by omega)]; omega) (c_arr h h.v7 h.v16 h.e72 rfl ⟨(n_in (by omega) (by omega)).mpr (by omega), fun r hr => ?_⟩)))⟩
    rw [n_cl (by omega), h.R h.v16, e16] at hr
    subst hr
    refine n_noO rfl ⟨h.T v0, ?_⟩
    have ndb : nd N (qa i) < 1073741824 := by unfold nd; have := hb 20 (3 * qa i); have := hb 20 (3 * qa i + 1); have := hb 20 (3 * qa i + 2); omega
    have nx := ih (i + 1) (by omega)
    rw [h.I v0, h.I v0, d9, d3, n_lt (by omega) ha, bI_z, l1, n_add, n_add]
    refine n_ite (fun ho => ?_) (fun ho => n_ite (fun hc => ?_) (fun hc => ?_))
    · rw [cnt_f (show P i = false by rw [hP, ho]; rfl)] at nx
      exact nx
    · rw [cnt_f (show P i = false by rw [hP]; simp; omega)] at nx
      exact nx
    · rw [cnt_t (show P i = true by rw [hP]; simp at ho ⊢; exact ⟨ho, by omega⟩)] at nx
      exact nx
theorem cnt_ost (t : tF V ad D E qa c N Z) (Q : Nat → Bool) : cnt (fun j => ost N (qa j) && Q (qa j)) c = cnt (fun q => ost N q && Q q) (N 6 0) := by
  rw [t.2.2.2 (fun q => ost N q && Q q)]
  refine cnt_congr _ (fun i _ => ?_)
  unfold elig ost
  cases decide (0 < N 16 i) <;> cases decide (0 < nd N i) <;> simp
theorem c_outN (h : zX V ad M D E) (t : tF V ad D E qa c N Z) (hb : ∀ k j, N k j < 1073741824) {post : Int32 → zM → Prop} {a : Nat} (ha : a < 2 ^ 31) (K : post (nI (cnt (fun q => ost N q && decide (a ≤ nd N q)) (N 6 0))) M) : w_T_outstandingNeeding M (ad 7 0) (nI a) post := by
  refine ⟨c + 1, ?_⟩
  rw [← cnt_ost t] at K
  exact c_outN_loop h t hb ha (fun _ => rfl) K c 0 (by omega)
theorem rsk_cnt (N : Nat → Nat → Nat) (a : Nat) (ex : Option Nat) (hex : ∀ q, ex = some q → ost N q = false) : ∀ n, rsk N a ex n = cnt (fun q => ost N q && decide (a + 1 ≤ nd N q)) n
  | 0 => rfl
  | n + 1 => by
    simp only [rsk, cnt]
    rw [rsk_cnt N a ex hex n]
    by_cases h1 : ost N n = true
    · by_cases h2 : a < nd N n
      · rw [if_pos ⟨fun z => (by rw [hex n z.symm] at h1; cases h1), h2, h1⟩, if_pos (by rw [h1]; simp; omega)]
      · rw [if_neg (fun z => h2 z.2.1), if_neg (by rw [h1]; simp; omega)]
    · rw [if_neg (fun z => h1 z.2.2), if_neg (by simp; intro z; exact absurd z h1)]
theorem c_risk (h : zX V ad M D E) (t : tF V ad D E qa c N Z) (hb : ∀ k j, N k j < 1073741824) {post : Int32 → zM → Prop} (ha : aft N (N 35 0) < 1073741824) (ex : Option Nat) (hex : ∀ q, ex = some q → ost N q = false) (K : post (nI (rsk N (aft N (N 35 0)) ex (N 6 0))) M) : w_T_atRisk M (ad 7 0) post := by
  unfold w_T_atRisk
  rw [h.I h.v7, t.2.2.1.2.1, l1, n_add]
  exact ⟨h.T h.v7, c_outN h t hb (by omega) (by rw [← rsk_cnt N _ ex hex]; exact K)⟩
theorem c_refs_loop (h : zX V ad M D E) (t : tF V ad D E qa c N Z) {post : Int32 → zM → Prop} {e : Nat} (he : e < 1073741823) {P : Nat → Bool} (hP : ∀ j, P j = (ost N (qa j) && refs N e (qa j))) (K : post (nI (cnt P c)) M) : ∀ d i, i + d = c → w_T_referencesTo_4 post (d + 1) M (ad 7 0) (nI e) (nI (cnt P i)) (nI i) := by
  obtain ⟨⟨t1, t2⟩, t3, t4, t5⟩ := t
  intro d
  induction d with
  | zero =>
    intro i hi
    rw [w_T_referencesTo_4, h.I h.v7, t1, n_le (by omega) (by omega)]
    have : i = c := by omega
    subst this
    exact ⟨h.T h.v7, n_yes (by omega) K⟩
  | succ d ih =>
    intro i hi
    obtain ⟨e16, v0, v18, e01, d9, d3, ⟨cc, g1, g2, g3, g4⟩⟩ := t3 i (by omega)
    rw [w_T_referencesTo_4, h.I h.v7, t1, n_le (by omega) (by omega)]
    refine ⟨h.T h.v7, n_not (by omega) (c_arr h h.v7 h.v16 h.e72 rfl (n_not (by rw [n_le (by omega) (by omega)]; omega) (c_arr h h.v7 h.v16 h.e72 rfl ⟨(n_in (by omega) (by omega)).mpr (by omega), fun r hr => ?_⟩)))⟩
    rw [n_cl (by omega), h.R h.v16, e16] at hr
    subst hr
    refine n_noO rfl ⟨h.T v0, ?_⟩
    have nx := ih (i + 1) (by omega)
    rw [h.I v0, d9, bI_z, l1, n_add]
    refine n_ite (fun ho => ?_) (fun ho => c_refers h v0 v18 e01 g2 g1 ?_)
    · rw [cnt_f (show P i = false by rw [hP, ho]; rfl)] at nx
      exact nx
    · rw [rG_refs he g4, bI_z]
      refine n_ite (fun hr => ?_) (fun hr => ?_)
      · rw [cnt_f (show P i = false by rw [hP, hr]; simp)] at nx
        exact nx
      · rw [cnt_t (show P i = true by rw [hP]; simp at ho hr ⊢; exact ⟨ho, hr⟩)] at nx
        rw [n_add]
        exact nx
theorem c_refs (h : zX V ad M D E) (t : tF V ad D E qa c N Z) {post : Int32 → zM → Prop} {e : Nat} (he : e < 1073741823) (K : post (nI (cnt (fun q => ost N q && refs N e q) (N 6 0))) M) : w_T_referencesTo M (ad 7 0) (nI e) post := by
  refine ⟨c + 1, ?_⟩
  rw [← cnt_ost t] at K
  exact c_refs_loop h t he (fun _ => rfl) K c 0 (by omega)
theorem use1_refs {e q : Nat} (hR : ∀ f, f < 3 → 0 < N 20 (3 * q + f) → N 26 (N 20 (3 * q + f) - 1) = f) : use1 N e q = if refs N e q = true then 1 else 0 := by
  have h0 := hR 0 (by omega)
  have h1 := hR 1 (by omega)
  have h2 := hR 2 (by omega)
  simp only [Nat.add_zero] at h0
  unfold use1 refs
  simp only [decide_eq_true_eq]
  by_cases e0 : N 20 (3 * q) = e + 1
  · rw [e0] at h0
    have n1 : ¬ N 20 (3 * q + 1) = e + 1 := fun z => by rw [z] at h1; have := h0 (by omega); have := h1 (by omega); omega
    have n2 : ¬ N 20 (3 * q + 2) = e + 1 := fun z => by rw [z] at h2; have := h0 (by omega); have := h2 (by omega); omega
    rw [if_pos e0, if_neg n1, if_neg n2, if_pos (Or.inl e0)]
  · by_cases e1 : N 20 (3 * q + 1) = e + 1
    · rw [e1] at h1
      have n2 : ¬ N 20 (3 * q + 2) = e + 1 := fun z => by rw [z] at h2; have := h1 (by omega); have := h2 (by omega); omega
      rw [if_neg e0, if_pos e1, if_neg n2, if_pos (Or.inr (Or.inl e1))]
    · by_cases e2 : N 20 (3 * q + 2) = e + 1
      · rw [if_neg e0, if_neg e1, if_pos e2, if_pos (Or.inr (Or.inr e2))]
      · rw [if_neg e0, if_neg e1, if_neg e2, if_neg (fun z => by omega)]
theorem use_cnt {e : Nat} (hR : ∀ q f, f < 3 → 0 < N 20 (3 * q + f) → N 26 (N 20 (3 * q + f) - 1) = f) : ∀ n, use N e none n = cnt (fun q => ost N q && refs N e q) n
  | 0 => rfl
  | n + 1 => by
    simp only [use, cnt]
    rw [use_cnt hR n, use1_refs (hR n)]
    by_cases h1 : ost N n = true
    · by_cases h2 : refs N e n = true
      · rw [if_pos (Or.inr h1), if_pos h2, if_pos (by rw [h1, h2]; rfl)]
      · rw [if_pos (Or.inr h1), if_neg h2, if_neg (by rw [h1]; simpa using h2)]
    · rw [if_neg (fun z => z.elim (fun y => by cases y) h1), if_neg (by simp; intro z; exact absurd z h1)]
theorem use_ex {e q : Nat} (hq : ost N q = false) : ∀ n, use N e (some q) n = use N e none n + if q < n then use1 N e q else 0
  | 0 => rfl
  | n + 1 => by
    simp only [use]
    rw [use_ex hq n]
    by_cases h : n = q
    · subst h
      rw [if_pos (Or.inl rfl), if_neg (show ¬ (some n = none ∨ ost N n = true) by rw [hq]; simp), if_neg (by omega), if_pos (by omega)]
    · have : ¬ some n = some q := fun z => h (by injection z)
      by_cases ho : ost N n = true
      · rw [if_pos (Or.inr ho), if_pos (Or.inr ho)]
        by_cases hl : q < n
        · rw [if_pos hl, if_pos (by omega)]; omega
        · rw [if_neg hl, if_neg (by omega)]; omega
      · rw [if_neg (show ¬ (some n = some q ∨ ost N n = true) from fun z => z.elim this ho), if_neg (show ¬ (some n = none ∨ ost N n = true) from fun z => z.elim (fun y => by cases y) ho)]
        by_cases hl : q < n
        · rw [if_pos hl, if_pos (by omega)]; omega
        · rw [if_neg hl, if_neg (by omega)]
theorem n_fm : ∀ e, e < 185 → (0 : Int32) ≤ nI e ^^^ (5 : Int32) ∧ nI e - nI e / (5 : Int32) * (5 : Int32) = nI (e % 5) := by decide +kernel
theorem c_floor {post : Int32 → zM → Prop} {e : Nat} (he : e < 185) (K : post (nI (e % 5)) M) : w_M_floorMod M (nI e) (5 : Int32) post := by
  unfold w_M_floorMod
  obtain ⟨h1, h2⟩ := n_fm e he
  rw [h2]
  exact ⟨by decide, n_yes h1 K⟩
theorem c_name (h : zX V ad M D E) {post : Int32 → zM → Prop} {e : Nat} (he : e < 185) (K : post (D 14 0 (e % 5)) M) : w_T_nameOf M (ad 7 0) (nI e) post := by
  unfold w_T_nameOf
  refine ⟨h.T h.v7, c_floor he (c_arr h h.v7 h.v14 h.e70 rfl ⟨(n_in (by omega) (by omega)).mpr (by omega), ?_⟩)⟩
  rw [n_cl (by omega), h.I h.v14]
  exact K
theorem c_value (h : zX V ad M D E) {post : Int32 → zM → Prop} {e : Nat} (he : e < 185) (K : post (D 15 0 (e % 5)) M) : w_T_valueOf M (ad 7 0) (nI e) post := by
  unfold w_T_valueOf
  refine ⟨h.T h.v7, c_floor he (c_arr h h.v7 h.v15 h.e71 rfl ⟨(n_in (by omega) (by omega)).mpr (by omega), ?_⟩)⟩
  rw [n_cl (by omega), h.I h.v15]
  exact K
theorem c_live (h : zX V ad M D E) (t : tF V ad D E qa c N Z) (hb : ∀ k j, N k j < 1073741824) {post : Int32 → zM → Prop} (K : post (nI (min (N 28 0) 5)) M) : w_T_liveCount M (ad 7 0) post := by
  unfold w_T_liveCount
  rw [h.I h.v7, t.2.2.1.1, l5, n_min (by have := hb 28 0; omega) (by omega)]
  exact ⟨h.T h.v7, K⟩
end TB
theorem cR_tF {ad : Nat → Nat → Nat} {M : zM} {D : Nat → Nat → Nat → Int32} {E : Nat → Nat → Nat → Option Nat} {qa : Nat → Nat} {c : Nat} {N : Nat → Nat → Nat} {Z : Nat → Nat → Int32} (hn : N 6 0 ≤ 60) (h : cR ad M D E qa c N Z) : tF (cV N) ad D E qa c N Z := by
  obtain ⟨hX, hS, hO, hK, hQ, hA, hT, hF, ⟨l1, l2, l3, l4⟩, hE⟩ := h
  refine ⟨⟨l1, by omega⟩, fun j hj => ?_, ⟨hS.2.2.2.1, hT.1, hT.2.2⟩, l4⟩
  obtain ⟨b1, b2, b3⟩ := l3 j hj
  obtain ⟨⟨a0, a3⟩, a7, a8, a9, aG, a45, a6⟩ := hA _ b2 b3
  exact ⟨b1, by simp [cV]; exact ⟨b2, b3⟩, by simp [cV]; exact ⟨b2, b3⟩, (hE _ b2).2.2 b3, a9, a3, aG⟩
