def rd1 (N : Nat → Nat → Nat) (q : Nat) : Nat → Nat → Nat :=
  if N 16 q = 304 then (if 0 < N 21 (N 8 q) ∧ N 22 (N 8 q) = N 17 q ∧ N 21 (N 8 q) ≤ q then un (un (un (un N 9 q 2) 24 (N 8 q) (N 18 q)) 25 (N 8 q) (N 13 q)) 21 (N 8 q) (q + 1) else un N 9 q 2)
  else if N 16 q = 200 ∧ N 7 q = 0 then (if N 21 (N 8 q) ≤ q then un (un (un (un (un N 9 q 1) 22 (N 8 q) (N 17 q)) 24 (N 8 q) (N 18 q)) 25 (N 8 q) (N 13 q)) 21 (N 8 q) (q + 1) else un N 9 q 1)
  else if N 16 q = 412 then un N 9 q 5
  else un (un N 9 q (if N 16 q = 404 then 3 else 4)) 21 (N 8 q) (if N 21 (N 8 q) ≤ q then 0 else N 21 (N 8 q))
def rdZ (N : Nat → Nat → Nat) (Z : Nat → Nat → Int32) (q : Nat) : Nat → Nat → Int32 :=
  if N 16 q = 200 ∧ N 7 q = 0 then (if N 21 (N 8 q) ≤ q then uz (uz Z 14 q (Z 19 q)) 23 (N 8 q) (Z 19 q) else uz Z 14 q (Z 19 q)) else Z
def rdT (N : Nat → Nat → Nat) (q : Nat) : Nat → Nat → Nat := if 0 < nd N q then tlN (rd1 N q) 0 q else rd1 N q
theorem rd1_o {N : Nat → Nat → Nat} {q k : Nat} (h9 : ¬ k = 9) (h21 : ¬ k = 21) (h22 : ¬ k = 22) (h24 : ¬ k = 24) (h25 : ¬ k = 25) (j : Nat) : rd1 N q k j = N k j := by
  unfold rd1
  split
  · split <;> simp [un, h9, h21, h22, h24, h25]
  · split
    · split <;> simp [un, h9, h21, h22, h24, h25]
    · split <;> simp [un, h9, h21, h22, h24, h25]
theorem rd1_nd (N : Nat → Nat → Nat) (q p : Nat) : nd (rd1 N q) p = nd N p := by
  unfold nd
  rw [rd1_o (by decide) (by decide) (by decide) (by decide) (by decide), rd1_o (by decide) (by decide) (by decide) (by decide) (by decide), rd1_o (by decide) (by decide) (by decide) (by decide) (by decide)]
theorem n_kb {q a : Nat} (hq : q < 1073741824) (ha : a < 1073741824) : nI q ≤ nI a - nI 1 ↔ q < a := by
  rw [Int32.le_iff_toInt_le, pk_sub_toInt ha (by omega), nI_toInt (by omega)]
  omega
theorem n_kn {a : Nat} (ha : a < 1073741824) : nI a - nI 1 < nI 0 ↔ a = 0 := by
  rw [Int32.lt_iff_toInt_lt, pk_sub_toInt ha (by omega), nI_toInt (by omega)]
  omega
section YRD
variable {am : Nat} {ar : Nat → Nat} {M : zM} {N : Nat → Nat → Nat} {Z : Nat → Nat → Int32}
theorem yo_r283 (hy : yR am ar M N Z) {post : Int32 → zM → Prop} {q : Nat} (hq : q < 60) {x2 x3 x4 : Int32} (K : post (nI (N 9 q)) M) : w_Y_read_283 post M am (nI q) x2 x3 x4 := by
  unfold w_Y_read_283
  refine ⟨hy.T, y_get hy 9 20 60 rfl rfl ⟨(n_in (by omega) (by omega)).mpr hq, ?_⟩⟩
  rw [n_cl (by omega), hy.rn 9 q rfl rfl (by decide)]
  exact K
theorem yo_r269 (hy : yR am ar M N Z) {post : Int32 → zM → Prop} {q : Nat} (hq : q < 60) (hw : N 34 0 < 572) {x2 x3 x4 : Int32} (K : ∀ M', yR am ar M' (if 0 < nd N q then tlN N 0 q else N) Z → post (nI (N 9 q)) M') : w_Y_read_269 post M am (nI q) x2 x3 x4 := by
  unfold w_Y_read_269
  refine ⟨hy.T, y_need hy hq ?_⟩
  rw [l0, n_le (by have := nd_b hy q; omega) (by omega)]
  refine n_ite (fun hc => yo_r283 hy hq ?_) (fun hc => ⟨hy.T, y_tell (a := 0) hy (by omega) (by omega) hw (fun M hy2 => yo_r283 hy2 hq ?_)⟩)
  · exact K M (by rw [if_neg (by omega)]; exact hy)
  · have : (un (un (un N 32 (N 34 0) 0) 33 (N 34 0) q) 34 0 (N 34 0 + 1)) 9 q = N 9 q := by simp [un]
    rw [this]
    exact K M (by rw [if_pos (by omega)]; exact hy2)
theorem yo_read (hy0 : yR am ar M N Z) {post : Int32 → zM → Prop} {q : Nat} (hq : q < 60) (hr : N 8 q < 6) (hw : N 34 0 < 572) (K : ∀ M', yR am ar M' (rdT (un N 15 q 0) q) (rdZ (un N 15 q 0) Z q) → post (nI (rd1 (un N 15 q 0) q 9 q)) M') : w_Y_read M am (nI q) post := by
  have hinq : vp_in (nI q) 60 := (n_in (by omega) (by omega)).mpr hq
  have hinr : vp_in (nI (N 8 q)) 6 := (n_in (by omega) (by omega)).mpr hr
  unfold w_Y_read
  refine ⟨hy0.T, y_get hy0 8 20 60 rfl rfl ⟨hinq, y_get hy0 16 20 60 rfl rfl ⟨hinq, y_get hy0 21 20 6 rfl rfl ?_⟩⟩⟩
  rw [n_cl (by omega), hy0.rn 8 q rfl rfl (by decide), hy0.rn 16 q rfl rfl (by decide), n_cl (by omega), hy0.rr 21 (N 8 q) rfl (by omega), n_kb (by omega) (hy0.b30 _ _)]
  refine ⟨hinr, ?_⟩
  have main : ∀ u0 : Int32, ((u0 = 0 ∧ ¬ N 21 (N 8 q) ≤ q) ∨ (u0 = 1 ∧ N 21 (N 8 q) ≤ q)) → w_Y_read_29 post M am (nI q) (nI (N 8 q)) (nI (N 16 q)) u0 := by
    intro u0 hu
    unfold w_Y_read_29
    simp only [n_cl (show q < 2 ^ 31 by omega), n_cl (show N 8 q < 2 ^ 31 by omega)]
    refine ⟨hy0.T, y_get hy0 15 20 60 rfl rfl ⟨hinq, y_putN hy0 15 q 0 rfl rfl (by decide) rfl (by omega) (fun M hy => ?_)⟩⟩
    have e8 : N 8 q = un N 15 q 0 8 q := by simp [un]
    have e16 : N 16 q = un N 15 q 0 16 q := by simp [un]
    have e21 : ∀ r, N 21 r = un N 15 q 0 21 r := fun r => by simp [un]
    have e34 : N 34 0 = un N 15 q 0 34 0 := by simp [un]
    rw [e21] at hu
    rw [e34] at hw
    rw [e8] at hu hr hinr
    rw [e8, e16]
    clear hy0 e8 e16 e21 e34
    generalize un N 15 q 0 = N at *
    rw [l304, l200, n_eq (hy.b _ _) (by omega), n_eq (hy.b _ _) (by omega)]
    refine n_ite (fun h304 => ?_) (fun h304 => ?_)
    · refine y_get hy 9 20 60 rfl rfl ⟨hinq, y_putN hy 9 q 2 rfl rfl (by decide) rfl (by omega) (fun M hy => y_get hy 21 20 6 rfl rfl ⟨hinr, ?_⟩)⟩
      rw [show zI M (ar 21) (N 8 q) = nI (N 21 (N 8 q)) - nI 1 from (hy.rr 21 (N 8 q) rfl (by omega)).trans (by simp [un]), l0, n_kn (by have := hy.b30 21 (N 8 q); simpa [un] using this)]
      have fin : ∀ M', yR am ar M' (un N 9 q 2) Z → ¬ (0 < N 21 (N 8 q) ∧ N 22 (N 8 q) = N 17 q ∧ N 21 (N 8 q) ≤ q) → w_Y_read_269 post M' am (nI q) (nI (N 8 q)) (nI (N 16 q)) u0 := by
        intro M' hy' hn
        have er : rd1 N q = un N 9 q 2 := by unfold rd1; rw [if_pos h304, if_neg hn]
        have ez : rdZ N Z q = Z := by unfold rdZ; rw [if_neg (fun z => by omega)]
        refine yo_r269 hy' hq (by simp [un]; exact hw) (fun M2 hy2 => ?_)
        have := K M2 (by unfold rdT; rw [er, ez]; rw [nd_un (by decide)] at hy2; exact hy2)
        rw [er] at this
        exact this
      refine n_ite (fun h0 => fin M hy (fun z => by omega)) (fun h0 => y_get hy 22 20 6 rfl rfl ⟨hinr, y_get hy 17 20 60 rfl rfl ⟨hinq, ?_⟩⟩)
      rw [show zI M (ar 22) (N 8 q) = nI (N 22 (N 8 q)) from (hy.rn 22 _ rfl rfl (by decide)).trans (by simp [un]), show zI M (ar 17) q = nI (N 17 q) from (hy.rn 17 _ rfl rfl (by decide)).trans (by simp [un]), n_eq (by have := hy.b 22 (N 8 q); simpa [un] using this) (by have := hy.b 17 q; simpa [un] using this)]
      refine n_ite (fun h22 => ?_) (fun h22 => fin M hy (fun z => h22 z.2.1))
      rcases hu with ⟨rfl, hu⟩ | ⟨rfl, hu⟩
      · exact n_yes rfl (fin M hy (fun z => hu z.2.2))
      · refine n_not (by decide) (y_get hy 18 20 60 rfl rfl ⟨hinq, y_get hy 24 20 6 rfl rfl ⟨hinr, ?_⟩⟩)
        refine y_putN hy 24 (N 8 q) (N 18 q) rfl rfl (by decide) ((hy.rn 18 _ rfl rfl (by decide)).trans (by simp [un])) (by have := hy.b30 18 q; simpa [un] using this) (fun M hy => y_get hy 13 20 60 rfl rfl ⟨hinq, y_get hy 25 20 6 rfl rfl ⟨hinr, ?_⟩⟩)
        refine y_putN hy 25 (N 8 q) (N 13 q) rfl rfl (by decide) ((hy.rn 13 _ rfl rfl (by decide)).trans (by simp [un])) (by have := hy.b30 13 q; simpa [un] using this) (fun M hy => y_get hy 21 20 6 rfl rfl ⟨hinr, ?_⟩)
        refine y_putR hy 21 (N 8 q) (q + 1) rfl (by omega) (by rw [← n_add, Int32.add_sub_cancel]) (by omega) (fun M hy => ?_)
        have er : rd1 N q = un (un (un (un N 9 q 2) 24 (N 8 q) (N 18 q)) 25 (N 8 q) (N 13 q)) 21 (N 8 q) (q + 1) := by unfold rd1; rw [if_pos h304, if_pos ⟨by omega, h22, hu⟩]
        have ez : rdZ N Z q = Z := by unfold rdZ; rw [if_neg (fun z => by omega)]
        refine yo_r269 hy hq (by simp [un]; exact hw) (fun M2 hy2 => ?_)
        have := K M2 (by unfold rdT; rw [er, ez]; rw [nd_un (by decide), nd_un (by decide), nd_un (by decide), nd_un (by decide)] at hy2; exact hy2)
        rw [er] at this
        exact this
    · have r213 : ¬ (N 16 q = 200 ∧ N 7 q = 0) → w_Y_read_213 post M am (nI q) (nI (N 8 q)) (nI (N 16 q)) u0 := by
        intro hn
        have ez : rdZ N Z q = Z := by unfold rdZ; rw [if_neg hn]
        unfold w_Y_read_213 w_Y_read_247 w_Y_read_268
        simp only [n_cl (show q < 2 ^ 31 by omega), n_cl (show N 8 q < 2 ^ 31 by omega)]
        rw [l412, l404, n_eq (hy.b _ _) (by omega), n_eq (hy.b _ _) (by omega)]
        refine n_ite (fun h412 => ⟨hy.T, y_get hy 9 20 60 rfl rfl ⟨hinq, y_putN hy 9 q 5 rfl rfl (by decide) rfl (by omega) (fun M hy => ?_)⟩⟩) (fun h412 => ⟨hy.T, ?_⟩)
        · have er : rd1 N q = un N 9 q 5 := by unfold rd1; rw [if_neg h304, if_neg hn, if_pos h412]
          refine yo_r269 hy hq (by simp [un]; exact hw) (fun M2 hy2 => ?_)
          have := K M2 (by unfold rdT; rw [er, ez]; rw [nd_un (by decide)] at hy2; exact hy2)
          rw [er] at this
          exact this
        · have fin2 : ∀ v : Nat, v = (if N 16 q = 404 then 3 else 4) → ∀ w : Int32, w = nI v → ∃ b31, zR M am 9 = some b31 ∧ ∃ n34, zT M b31 = some (20, n34) ∧ vp_in (nI q) n34 ∧ ∀ M36, M36 = zwI M b31 q w → zT M36 am = some (9, 40) ∧ ((u0 = 0 → ∃ b40, zR M36 am 21 = some b40 ∧ ∃ n43, zT M36 b40 = some (20, n43) ∧ vp_in (nI (N 8 q)) n43 ∧ ∃ b45, some b40 = some b45 ∧ ∃ n48, zT M36 b45 = some (20, n48) ∧ vp_in (nI (N 8 q)) n48 ∧ ∀ M50, M50 = zwI M36 b45 (N 8 q) (zI M36 b40 (N 8 q)) → w_Y_read_269 post M50 am (nI q) (nI (N 8 q)) (nI (N 16 q)) u0) ∧ (¬ (u0 = 0) → ∃ b45, zR M36 am 21 = some b45 ∧ ∃ n48, zT M36 b45 = some (20, n48) ∧ vp_in (nI (N 8 q)) n48 ∧ ∀ M50, M50 = zwI M36 b45 (N 8 q) (-1 : Int32) → w_Y_read_269 post M50 am (nI q) (nI (N 8 q)) (nI (N 16 q)) u0)) := by
            intro v hv w hvw
            refine y_get hy 9 20 60 rfl rfl ⟨hinq, y_putN hy 9 q v rfl rfl (by decide) hvw (by split at hv <;> omega) (fun M hy => ⟨hy.T, ?_⟩)⟩
            have last : ∀ t, t = (if N 21 (N 8 q) ≤ q then 0 else N 21 (N 8 q)) → ∀ M', yR am ar M' (un (un N 9 q v) 21 (N 8 q) t) Z → w_Y_read_269 post M' am (nI q) (nI (N 8 q)) (nI (N 16 q)) u0 := by
              intro t ht M' hy'
              have er : rd1 N q = un (un N 9 q v) 21 (N 8 q) t := by unfold rd1; rw [if_neg h304, if_neg hn, if_neg h412, ← hv, ← ht]
              refine yo_r269 hy' hq (by simp [un]; exact hw) (fun M2 hy2 => ?_)
              have := K M2 (by unfold rdT; rw [er, ez]; rw [nd_un (by decide), nd_un (by decide)] at hy2; exact hy2)
              rw [er] at this
              exact this
            rcases hu with ⟨rfl, hu⟩ | ⟨rfl, hu⟩
            · refine n_yes rfl (y_get hy 21 20 6 rfl rfl ⟨hinr, ar 21, rfl, 6, hy.TA 21 rfl, hinr, ?_⟩)
              exact y_putR hy 21 (N 8 q) (N 21 (N 8 q)) rfl (by omega) ((hy.rr 21 (N 8 q) rfl (by omega)).trans (by simp [un])) (by have := hy.b30 21 (N 8 q); simpa [un] using this) (fun M hy => last _ (by rw [if_neg hu]) M hy)
            · refine n_not (by decide) (y_get hy 21 20 6 rfl rfl ⟨hinr, ?_⟩)
              exact y_putR hy 21 (N 8 q) 0 rfl (by omega) rfl (by omega) (fun M hy => last _ (by rw [if_pos hu]) M hy)
          refine n_ite (fun h404 => fin2 3 (by rw [if_pos h404]) _ rfl) (fun h404 => fin2 4 (by rw [if_neg h404]) _ rfl)
      refine n_ite (fun h200 => y_get hy 7 21 60 rfl rfl ⟨hinq, ?_⟩) (fun h200 => r213 (fun z => h200 z.1))
      rw [hy.rn 7 q rfl rfl (by decide), l0, n_eq (hy.b _ _) (by omega)]
      refine n_ite (fun h7 => ?_) (fun h7 => r213 (fun z => h7 z.2))
      refine y_get hy 9 20 60 rfl rfl ⟨hinq, y_putN hy 9 q 1 rfl rfl (by decide) rfl (by omega) (fun M hy => y_get hy 19 20 60 rfl rfl ⟨hinq, y_get hy 14 20 60 rfl rfl ⟨hinq, ?_⟩⟩)⟩
      rw [hy.rz 19 q rfl rfl]
      refine y_putZ hy 14 q (Z 19 q) rfl rfl (fun M hy => ?_)
      rcases hu with ⟨rfl, hu⟩ | ⟨rfl, hu⟩
      · refine n_yes rfl (yo_r269 hy hq (by simp [un]; exact hw) (fun M2 hy2 => ?_))
        have er : rd1 N q = un N 9 q 1 := by unfold rd1; rw [if_neg h304, if_pos ⟨h200, h7⟩, if_neg hu]
        have ez : rdZ N Z q = uz Z 14 q (Z 19 q) := by unfold rdZ; rw [if_pos ⟨h200, h7⟩, if_neg hu]
        have := K M2 (by unfold rdT; rw [er, ez]; rw [nd_un (by decide)] at hy2; exact hy2)
        rw [er] at this
        exact this
      · refine n_not (by decide) (y_get hy 17 20 60 rfl rfl ⟨hinq, y_get hy 22 20 6 rfl rfl ⟨hinr, ?_⟩⟩)
        refine y_putN hy 22 (N 8 q) (N 17 q) rfl rfl (by decide) ((hy.rn 17 _ rfl rfl (by decide)).trans (by simp [un])) (by have := hy.b30 17 q; simpa [un] using this) (fun M hy => y_get hy 19 20 60 rfl rfl ⟨hinq, y_get hy 23 20 6 rfl rfl ⟨hinr, ?_⟩⟩)
        rw [show zI M (ar 19) q = Z 19 q from (hy.rz 19 q rfl rfl).trans (by simp [uz])]
        refine y_putZ hy 23 (N 8 q) (Z 19 q) rfl rfl (fun M hy => y_get hy 18 20 60 rfl rfl ⟨hinq, y_get hy 24 20 6 rfl rfl ⟨hinr, ?_⟩⟩)
        refine y_putN hy 24 (N 8 q) (N 18 q) rfl rfl (by decide) ((hy.rn 18 _ rfl rfl (by decide)).trans (by simp [un])) (by have := hy.b30 18 q; simpa [un] using this) (fun M hy => y_get hy 13 20 60 rfl rfl ⟨hinq, y_get hy 25 20 6 rfl rfl ⟨hinr, ?_⟩⟩)
        refine y_putN hy 25 (N 8 q) (N 13 q) rfl rfl (by decide) ((hy.rn 13 _ rfl rfl (by decide)).trans (by simp [un])) (by have := hy.b30 13 q; simpa [un] using this) (fun M hy => y_get hy 21 20 6 rfl rfl ⟨hinr, ?_⟩)
        refine y_putR hy 21 (N 8 q) (q + 1) rfl (by omega) (by rw [← n_add, Int32.add_sub_cancel]) (by omega) (fun M hy => ?_)
        have er : rd1 N q = un (un (un (un (un N 9 q 1) 22 (N 8 q) (N 17 q)) 24 (N 8 q) (N 18 q)) 25 (N 8 q) (N 13 q)) 21 (N 8 q) (q + 1) := by unfold rd1; rw [if_neg h304, if_pos ⟨h200, h7⟩, if_pos hu]
        have ez : rdZ N Z q = uz (uz Z 14 q (Z 19 q)) 23 (N 8 q) (Z 19 q) := by unfold rdZ; rw [if_pos ⟨h200, h7⟩, if_pos hu]
        refine yo_r269 hy hq (by simp [un]; exact hw) (fun M2 hy2 => ?_)
        have := K M2 (by unfold rdT; rw [er, ez]; rw [nd_un (by decide), nd_un (by decide), nd_un (by decide), nd_un (by decide), nd_un (by decide)] at hy2; exact hy2)
        rw [er] at this
        exact this
  exact n_ite (fun h => main 0 (Or.inl ⟨rfl, by omega⟩)) (fun h => main 1 (Or.inr ⟨rfl, by omega⟩))
end YRD
