/-! pairs: fault, tear, seed, feed, doll, parcels -/
theorem Pr.same {L : Nat} {xs : Nat → Int32} {P Q : MM Int32} (h : ∀ (ra rb : Nat) (I : cM), Rel ra rb xs I → ∃ r, P (hp ra rb L I) = some (r, hp ra rb L I) ∧ Q (hp ra rb L I) = some (r, hp ra rb L I)) : Pr L xs P Q := by
  intro ra rb I hR
  obtain ⟨r, h1, h2⟩ := h ra rb I hR
  have hX : I 2 = xs := by
    obtain ⟨_, _, _, _, _, _, _, _, _, _, _, _, _, _, _, hX⟩ := hR
    exact hX.2.2
  exact ⟨r, ra, rb, I, I, h1, hX, h2, hR⟩
theorem pr_fault (L : Nat) (xs : Nat → Int32) (hL : L ≤ 192) : Pr L xs (pX9_fault 3) (pX10_fault 137) := by
  refine Pr.same fun ra rb I hR => ?_
  obtain ⟨C, D, v, kd, hm, pt, q, hab, hRo, ⟨T, tx, hT⟩, -⟩ := hR
  refine ⟨I 137 12, ?_, ?_⟩
  · rw [pX9_fault, g_3_0, g_4_3, hT.2.2.2.2]
    rfl
  · rw [pX10_fault, g_137_12]
    rfl
theorem pr_tear (L : Nat) (xs : Nat → Int32) (hL : L ≤ 192) : Pr L xs (pX9_tear 3) (pX10_tear 137) := by
  intro ra rb I hR
  obtain ⟨C, D, v, kd, hm, pt, q, hab, hRo, hT, hN, hP, hI, ⟨z2, bd, bc, hB⟩, hS, hX⟩ := hR
  obtain ⟨T, tx, hT⟩ := hT
  obtain ⟨z, nx, hP⟩ := hP
  obtain ⟨ch, hS⟩ := hS
  have hD : D ≤ 8 := hRo.2.2.1
  have hra : ra = 113 ∨ ra = 119 := by rcases hab with h | h <;> omega
  refine ⟨nI z2, ra, rb, u2 I 93 2 0, u2 (u2 I 93 2 0) 137 31 0, ?_, ?_, ?_, ?_⟩
  · rw [pX9_tear, g_3_3, g_93_2, g_3_3, p_93_2, hB.2.1]
    rfl
  · rw [u2_rown _ _ _ (by decide)]
    exact hX.2.2
  · rw [pX10_tear, g_137_31, p_137_31, u2_na _ _ (by decide), hB.2.2.1]
    rfl
  · refine ⟨C, D, v, kd, hm, pt, q, hab, hRo.fr ((Ag.rf.u ?_).u ?_), ⟨T, tx, hT.fr ((Ag.rf.u ?_).u ?_)⟩, hN.fr hD ((Ag.rf.u ?_).u ?_), ⟨z, nx, hP.fr hD ((Ag.rf.u ?_).u ?_)⟩, hI.fr hD ((Ag.rf.u ?_).u ?_), ⟨0, bd, bc, ?_⟩, ⟨ch, hS.fr ((Ag.rf.u ?_).u ?_)⟩, hX.fr ((Ag.rf.u ?_).u ?_)⟩
    rotate_left 10
    · exact ⟨by decide, by rw [u2_na _ _ (by decide), u2_s]; rfl, by rw [u2_s]; rfl, fun j hj => absurd hj (by omega)⟩
    all_goals simp only [fRol, fTxt, fScn, fPst, fImg, fSed, fSta]
    all_goals omega
theorem pr_seed (L : Nat) (xs : Nat → Int32) (hL : L ≤ 192) (x : Int32) : Pr L xs (pX9_seed 3 x) (pX10_seed 137 x) := by
  intro ra rb I hR
  have hR0 := hR
  obtain ⟨C, D, v, kd, hm, pt, q, hab, hRo, hT, hN, hP, hI, ⟨z2, bd, bc, hB⟩, hS, hX⟩ := hR
  obtain ⟨T, tx, hT⟩ := hT
  obtain ⟨z, nx, hP⟩ := hP
  obtain ⟨ch, hS⟩ := hS
  have hD : D ≤ 8 := hRo.2.2.1
  have hra : ra = 113 ∨ ra = 119 := by rcases hab with h | h <;> omega
  by_cases hx : 0 ≤ x
  · obtain ⟨k, hk, e⟩ := nI_of (Int32.not_lt.mpr hx)
    refine ⟨nI ch, ra, rb, u2 I 3 9 x, u2 (u2 I 3 9 x) 137 9 x, ?_, ?_, ?_, ?_⟩
    · rw [pX9_seed, if_pos hx, g_3_9, p_3_9, hS.2.1]
      rfl
    · rw [u2_rown _ _ _ (by decide)]
      exact hX.2.2
    · rw [pX10_seed, if_pos hx, g_137_9, p_137_9, u2_na _ _ (by decide), hS.2.2]
      rfl
    · refine ⟨C, D, v, kd, hm, pt, q, hab, hRo.fr ((Ag.rf.u ?_).u ?_), ⟨T, tx, hT.fr ((Ag.rf.u ?_).u ?_)⟩, hN.fr hD ((Ag.rf.u ?_).u ?_), ⟨z, nx, hP.fr hD ((Ag.rf.u ?_).u ?_)⟩, hI.fr hD ((Ag.rf.u ?_).u ?_), ⟨z2, bd, bc, hB.fr ((Ag.rf.u ?_).u ?_)⟩, ⟨k, ?_⟩, hX.fr ((Ag.rf.u ?_).u ?_)⟩
      rotate_left 12
      · exact ⟨hk, by rw [u2_na _ _ (by decide), u2_s, e], by rw [u2_s, e]⟩
      all_goals simp only [fRol, fTxt, fScn, fPst, fImg, fBok, fSta]
      all_goals omega
  · refine ⟨-1000000002, ra, rb, I, I, ?_, hX.2.2, ?_, hR0⟩
    · rw [pX9_seed, if_neg hx]
      rfl
    · rw [pX10_seed, if_neg hx]
      rfl
theorem pr_feed (L : Nat) (xs : Nat → Int32) (hL : L ≤ 192) (x : Int32) : Pr L xs (pX9_feed 3 x) (pX10_feed 137 x) := by
  intro ra rb I hR
  have hR0 := hR
  obtain ⟨C, D, v, kd, hm, pt, q, hab, hRo, hT, hN, hP, hI, ⟨z2, bd, bc, hB⟩, hS, hX⟩ := hR
  obtain ⟨T, tx, hT⟩ := hT
  obtain ⟨z, nx, hP⟩ := hP
  obtain ⟨ch, hS⟩ := hS
  have hD : D ≤ 8 := hRo.2.2.1
  have hra : ra = 113 ∨ ra = 119 := by rcases hab with h | h <;> omega
  obtain ⟨hT1, hT2, hT3, hT4, hT5⟩ := hT
  have e0 : (0 : Int64) = (0 : Int32).toInt64 := rfl
  have e5 : (255 : Int64) = (255 : Int32).toInt64 := rfl
  rcases pk_ix x (n := 256) (by decide) with h | h | ⟨k, hk, rfl⟩
  · refine ⟨-1000000002, ra, rb, I, I, ?_, hX.2.2, ?_, hR0⟩
    · rw [pX9_feed, if_pos h]
      rfl
    · rw [pX10_feed, e0, e5, m_bind_some (c_in_f (Or.inl h))]
      rfl
  · have h0 : ¬ x < 0 := by
      rw [t_le] at h
      rw [t_lt]
      have : (nI 256).toInt = 256 := by decide
      have e : (0 : Int32).toInt = 0 := by decide
      omega
    have h5 : 255 < x := by
      rw [t_le] at h
      rw [t_lt]
      have : (nI 256).toInt = 256 := by decide
      have e : (255 : Int32).toInt = 255 := by decide
      omega
    refine ⟨-1000000002, ra, rb, I, I, ?_, hX.2.2, ?_, hR0⟩
    · rw [pX9_feed, if_neg h0, if_neg (Int32.not_le.mpr h5)]
      rfl
    · rw [pX10_feed, e0, e5, m_bind_some (c_in_f (Or.inr h5))]
      rfl
  · have h5 : nI k ≤ 255 := nI_le (b := 255) (by omega) (by decide)
    have h0 : ¬ nI k < 0 := nI_pos (by omega)
    by_cases hf : T = 240
    · refine ⟨-1000000004, ra, rb, I, I, ?_, hX.2.2, ?_, hR0⟩
      · rw [pX9_feed, if_neg h0, if_pos h5, g_3_0, g_4_1, hT2, hf, if_neg (by decide)]
        rfl
      · rw [pX10_feed, e0, e5, m_bind_some (c_in_t (Int32.not_lt.mp h0) h5)]
        rw [if_neg (by decide), g_137_11, hT3, hf, if_pos (by decide)]
        rfl
    · have hlt : T < 240 := by omega
      have h24 : nI T < 240 := nI_lt (b := 240) hlt (by decide)
      have hne : ¬ nI T = 240 := fun e => hf ((nI_eq (by omega) (by decide)).mp (show nI T = nI 240 from e))
      refine ⟨nI T + 1, ra, rb, u2 (u2 I 5 T (nI k)) 4 1 (nI T + 1), u2 (u2 (u2 (u2 I 5 T (nI k)) 4 1 (nI T + 1)) 143 T (nI k)) 137 11 (nI T + 1), ?_, ?_, ?_, ?_⟩
      · rw [pX9_feed, if_neg h0, if_pos h5, g_3_0, g_4_1, hT2, if_pos h24, g_3_0, g_4_0, g_3_0, g_4_1, hT2, s_5 hlt, g_3_0, g_4_1, u2_na _ _ (by decide), hT2, p_4_1, g_3_0, g_4_1, u2_s]
        rfl
      · rw [u2_rown _ _ _ (by decide), u2_rown _ _ _ (by decide)]
        exact hX.2.2
      · rw [pX10_feed, e0, e5, m_bind_some (c_in_t (Int32.not_lt.mp h0) h5)]
        rw [if_neg (by decide), g_137_11, u2_na _ _ (by decide), u2_na _ _ (by decide), hT3, if_neg hne, g_137_10, g_137_11, u2_na _ _ (by decide), u2_na _ _ (by decide), hT3, s_143 hlt, g_137_11, u2_na _ _ (by decide), u2_na _ _ (by decide), u2_na _ _ (by decide), hT3, p_137_11, g_137_11, u2_s]
        rfl
      · refine ⟨C, D, v, kd, hm, pt, q, hab, hRo.fr ((((Ag.rf.u ?_).u ?_).u ?_).u ?_), ⟨T + 1, fun j => if j = T then k else tx j, ?_⟩, hN.fr hD ((((Ag.rf.u ?_).u ?_).u ?_).u ?_), ⟨z, nx, hP.fr hD ((((Ag.rf.u ?_).u ?_).u ?_).u ?_)⟩, hI.fr hD ((((Ag.rf.u ?_).u ?_).u ?_).u ?_), ⟨z2, bd, bc, hB.fr ((((Ag.rf.u ?_).u ?_).u ?_).u ?_)⟩, ⟨ch, hS.fr ((((Ag.rf.u ?_).u ?_).u ?_).u ?_)⟩, hX.fr ((((Ag.rf.u ?_).u ?_).u ?_).u ?_)⟩
        rotate_left 4
        · refine ⟨by omega, ?_, ?_, fun j hj => ?_, ?_⟩
          · rw [u2_na _ _ (by decide), u2_na _ _ (by decide), u2_s, nI_1]
          · rw [u2_s, nI_1]
          · rw [u2_na _ _ (show (5 : Nat) ≠ 137 by decide), u2_na _ _ (show (5 : Nat) ≠ 143 by decide), u2_na _ _ (show (5 : Nat) ≠ 4 by decide), u2_na _ _ (show (143 : Nat) ≠ 137 by decide)]
            by_cases hj2 : j = T
            · subst hj2
              dsimp only
              rw [u2_s, u2_s, if_pos rfl]
              exact ⟨hk, rfl, rfl⟩
            · dsimp only
              rw [u2_nk _ _ hj2, u2_nk _ _ hj2, u2_na _ _ (by decide), u2_na _ _ (by decide), if_neg hj2]
              exact hT4 j (by omega)
          · rw [u2_na _ _ (show (4 : Nat) ≠ 137 by decide), u2_na _ _ (show (4 : Nat) ≠ 143 by decide), u2_nk _ _ (show (3 : Nat) ≠ 1 by decide), u2_na _ _ (show (4 : Nat) ≠ 5 by decide), u2_nk _ _ (show (12 : Nat) ≠ 11 by decide), u2_na _ _ (show (137 : Nat) ≠ 143 by decide), u2_na _ _ (show (137 : Nat) ≠ 4 by decide), u2_na _ _ (show (137 : Nat) ≠ 5 by decide)]
            exact hT5
        all_goals simp only [fRol, fTxt, fScn, fPst, fImg, fBok, fSed, fSta]
        all_goals omega
