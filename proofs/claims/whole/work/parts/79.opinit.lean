theorem op_init (ax : Nat) : w_X_init (znw z0 ax (8, 6)) ax (fun M1 => ∀ am, w_Y_init (znw z0 am (9, 40)) am (fun M2 => zJ 0 ax am M1 M2)) := by
  have s0 : sI [(8, 0)] [] (fun _ _ => ax) (znw z0 ax (8, 6)) := by
    refine ⟨fun k i h => ?_, fun x j => ?_, fun k i j k2 i2 h => absurd h (List.not_mem_nil), fun k i k' i' h h' _ => ?_⟩
    · rw [List.mem_singleton] at h
      injection h with h1 h2
      subst h1
      rw [zT_nw, if_pos rfl]; rfl
    · rw [zI_nw]; split <;> rfl
    · rw [List.mem_singleton] at h h'
      injection h with h1 h2
      injection h' with h3 h4
      exact ⟨by rw [h1, h3], by rw [h2, h4]⟩
  unfold w_X_init
  intro q5 n5 M1 e1
  have s1 := s_new s0 5 0 (by decide) n5 e1 rfl
  unfold w_S_init
  intro q10 n10 M2 e2
  have s2 := s_new s1 10 0 (by decide) n10 e2 rfl
  refine ⟨s2.T 5 0 (by decide), fun M3 e3 => ?_⟩
  have t0 := s_wR s2 5 0 0 10 0 (by decide) (by decide) (by decide) e3 rfl rfl
  refine S_step t0 6 0 rfl rfl (by decide) (by decide) (by decide) (by decide) (fun q40 M40 t1 => ?_)
  refine S_step t1 5 1 rfl rfl (by decide) (by decide) (by decide) (by decide) (fun q41 M41 t2 => ?_)
  refine S_step t2 4 2 rfl rfl (by decide) (by decide) (by decide) (by decide) (fun q42 M42 t3 => ?_)
  refine S_step t3 3 3 rfl rfl (by decide) (by decide) (by decide) (by decide) (fun q43 M43 t4 => ?_)
  refine S_step t4 2 4 rfl rfl (by decide) (by decide) (by decide) (by decide) (fun q44 M44 t5 => ?_)
  refine S_step t5 1 5 rfl rfl (by decide) (by decide) (by decide) (by decide) (fun q45 M45 t6 => ?_)
  refine S_last t6 0 rfl rfl (by decide) (fun q7 n7 M5 e5 => ?_)
  have s3 := s_new t6 7 0 (by decide) n7 e5 rfl
  unfold w_T_init
  intro q14 n14 M6 e6
  have s4 := s_new s3 14 0 (by decide) n14 e6 rfl
  refine ⟨s4.T 7 0 (by decide), fun M7 e7 => ?_⟩
  have s5 := s_wR s4 7 0 0 14 0 (by decide) (by decide) (by decide) e7 rfl rfl
  intro q15 n15 M8 e8
  have s6 := s_new s5 15 0 (by decide) n15 e8 rfl
  refine ⟨s6.T 7 0 (by decide), fun M9 e9 => ?_⟩
  have s7 := s_wR s6 7 0 1 15 0 (by decide) (by decide) (by decide) e9 rfl rfl
  intro q16 n16 M10 e10
  have s8 := s_new s7 16 0 (by decide) n16 e10 rfl
  refine ⟨s8.T 7 0 (by decide), fun M11 e11 => ?_⟩
  have s9 := s_wR s8 7 0 2 16 0 (by decide) (by decide) (by decide) e11 rfl rfl
  refine ⟨s9.T 5 0 (by decide), fun M12 e12 => ?_⟩
  have s10 := s_wR s9 5 0 1 7 0 (by decide) (by decide) (by decide) e12 rfl rfl
  refine ⟨s10.T 8 0 (by decide), fun M13 e13 => ?_⟩
  have s11 := s_wR s10 8 0 0 5 0 (by decide) (by decide) (by decide) e13 rfl rfl
  intro q1 n1 M14 e14
  have s12 := s_new s11 1 0 (by decide) n1 e14 rfl
  unfold w_C_init
  intro q11 n11 M15 e15
  have s13 := s_new s12 11 0 (by decide) n11 e15 rfl
  refine ⟨s13.T 1 0 (by decide), fun M16 e16 => ?_⟩
  have u0 := s_wR s13 1 0 0 11 0 (by decide) (by decide) (by decide) e16 rfl rfl
  refine C_step u0 6 0 rfl rfl (by decide) (by decide) (by decide) (by decide) (fun q60 M60 u1 => ?_)
  refine C_step u1 5 1 rfl rfl (by decide) (by decide) (by decide) (by decide) (fun q61 M61 u2 => ?_)
  refine C_step u2 4 2 rfl rfl (by decide) (by decide) (by decide) (by decide) (fun q62 M62 u3 => ?_)
  refine C_step u3 3 3 rfl rfl (by decide) (by decide) (by decide) (by decide) (fun q63 M63 u4 => ?_)
  refine C_step u4 2 4 rfl rfl (by decide) (by decide) (by decide) (by decide) (fun q64 M64 u5 => ?_)
  refine C_step u5 1 5 rfl rfl (by decide) (by decide) (by decide) (by decide) (fun q65 M65 u6 => ?_)
  refine C_last u6 0 rfl rfl (by decide) ⟨u6.T 8 0 (by decide), fun M17 e17 => ?_⟩
  have s14 := s_wR u6 8 0 1 1 0 (by decide) (by decide) (by decide) e17 rfl rfl
  intro q2 n2 M18 e18
  have s15 := s_new s14 2 0 (by decide) n2 e18 rfl
  unfold w_F_init
  intro q12 n12 M19 e19
  have s16 := s_new s15 12 0 (by decide) n12 e19 rfl
  refine ⟨s16.T 2 0 (by decide), fun M20 e20 => ?_⟩
  have s17 := s_wR s16 2 0 0 12 0 (by decide) (by decide) (by decide) e20 rfl rfl
  intro q13 n13 M21 e21
  have s18 := s_new s17 13 0 (by decide) n13 e21 rfl
  refine ⟨s18.T 2 0 (by decide), fun M22 e22 => ?_⟩
  have s19 := s_wR s18 2 0 1 13 0 (by decide) (by decide) (by decide) e22 rfl rfl
  refine ⟨s19.T 8 0 (by decide), fun M23 e23 => ?_⟩
  have s20 := s_wR s19 8 0 2 2 0 (by decide) (by decide) (by decide) e23 rfl rfl
  intro q17 n17 M24 e24
  have s21 := s_new s20 17 0 (by decide) n17 e24 rfl
  refine ⟨s21.T 8 0 (by decide), fun M25 e25 => ?_⟩
  have s22 := s_wR s21 8 0 3 17 0 (by decide) (by decide) (by decide) e25 rfl rfl
  intro M26 e26 M27 e27
  have s23 := s_wI (s_wI s22 e26) e27
  intro am
  have y0 : yI [] am (fun _ => 0) (znw z0 am (9, 40)) := by
    refine ⟨by rw [zT_nw, if_pos rfl], fun k h => absurd h (List.not_mem_nil), fun k k' h => absurd h (List.not_mem_nil), fun x j => ?_⟩
    rw [zI_nw]; split <;> rfl
  refine i_ref y0 (fun ar M2' hy => ?_)
  refine ⟨_, ar, _, _, _, 0, N0, Z0, ?_, hy, i_class s23 (fun k i h => ?_) (by decide) (by decide) (by decide) (by decide) (by decide) (by decide) (by decide), jI_0⟩
  · rfl
  · unfold cV at h
    by_cases h3 : k = 3
    · rw [if_pos h3] at h; exact absurd h (Nat.not_lt_zero i)
    · rw [if_neg h3] at h
      by_cases h0 : k = 0 ∨ k = 18
      · rw [if_pos h0] at h; exact absurd h.1 (Nat.not_lt_zero i)
      · rw [if_neg h0] at h
        by_cases h4 : k = 4 ∨ k = 6
        · rw [if_pos h4] at h
          rcases h4 with rfl | rfl
          · revert i; decide
          · revert i; decide
        · rw [if_neg h4] at h
          obtain ⟨a, b, rfl⟩ := h
          rcases (show k = 1 ∨ k = 2 ∨ k = 5 ∨ k = 7 ∨ k = 8 ∨ k = 10 ∨ k = 11 ∨ k = 12 ∨ k = 13 ∨ k = 14 ∨ k = 15 ∨ k = 16 ∨ k = 17 by omega) with rfl | rfl | rfl | rfl | rfl | rfl | rfl | rfl | rfl | rfl | rfl | rfl | rfl <;> decide
