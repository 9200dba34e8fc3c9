/-! pairs: doll, write, judge, parcels -/
theorem ne10 : ¬ (1 : Int32) = 0 := by decide
theorem b01 (y : Int32) : y &&& 1 = 0 ∨ y &&& 1 = 1 := by
  obtain ⟨j, hj, e⟩ := pk_andE y (m := 1) 1 (by decide)
  match j, hj with
  | 0, _ => exact Or.inl e
  | 1, _ => exact Or.inr e
  | j + 2, hj => exact absurd hj (by omega)
theorem SC.z {I : cM} {C D a m : Nat} {t s w e : Nat → Nat} {u y : Nat} (h : SC I C D a m 0 t s w e u y) :
    (∀ d, d < D → t d < C ∧ I (a + 1) d = nI (t d) ∧ I m d = nI (t d)) ∧ (∀ d, d < D → s d < 64 ∧ I (a + 2) d = nI (s d) ∧ I m (17 + d) = nI (s d)) ∧ (∀ d, d < D → w d ≤ 99 ∧ I (a + 3) d = nI (w d) ∧ I m (9 + d) = nI (w d)) ∧ (∀ d, d < D → e d ≤ 999999 ∧ I (a + 4) d = nI (e d) ∧ I m (25 + d) = nI (e d)) ∧ u < 2 ^ D ∧ I a 4 = nI u ∧ I m 8 = nI u ∧ y ≤ 9060 ∧ I a 5 = nI y ∧ I m 33 = nI y ∧ I a 6 = I m 34 ∧ I a 7 = I m 35 := by
  have h2 := h
  unfold SC at h2
  simp only [Nat.zero_add] at h2
  exact h2
theorem q_isUp {ra rb L a : Nat} {I : cM} (h : c_sn a) (x : Int32) : pX5_isUp a x (hp ra rb L I) = some ((I a 4 >>> (x &&& 31)) &&& 1, hp ra rb L I) := by
  rw [pX5_isUp, sg_4 h]
  rcases b01 (I a 4 >>> (x &&& 31)) with e | e
  · rw [e, if_neg (by decide)]
    rfl
  · rw [e, if_pos rfl]
    rfl
theorem pr_doll (L : Nat) (xs : Nat → Int32) (hL : L ≤ 192) (x y : Int32) : Pr L xs (pX9_doll 3 x y) (pX10_doll 137 x y) := by
  refine Pr.same fun ra rb I hR => ?_
  obtain ⟨C, D, v, kd, hm, pt, q, hab, hRo, hT, ⟨t, s, w, e, u, yy, hN⟩, -⟩ := hR
  obtain ⟨n1, n2, n3, n4, n5, n6, n7, n8, n9, n10, n11, n12⟩ := hN.z
  obtain ⟨r1, r2, r3, r4, r5, r6, r7, r8, r9, r10, r11, -⟩ := hRo
  have hr := hab.rl
  rw [pX9_doll, g_3_7, rv hr, pX10_doll, v_137]
  rcases pk_ix x (n := D) (by omega) with h | h | ⟨d, hd, rfl⟩
  · rw [m_bind_some (q_hasDoll_f hr r7 (Or.inl h)), m_bind_some (q_isDoll_f r8 (Or.inl h) r3)]
    exact ⟨_, rfl, rfl⟩
  · rw [m_bind_some (q_hasDoll_f hr r7 (Or.inr h)), m_bind_some (q_isDoll_f r8 (Or.inr h) r3)]
    exact ⟨_, rfl, rfl⟩
  · have hd8 : d < 8 := by omega
    rw [m_bind_some (q_hasDoll_t hr r7 hd r3), m_bind_some (q_isDoll_t r8 hd r3), if_neg ne10, if_neg ne10]
    have e17 : (17 : Int32) + nI d = nI (17 + d) := nI_add 17 d
    have e9 : (9 : Int32) + nI d = nI (9 + d) := nI_add 9 d
    have e25 : (25 : Int32) + nI d = nI (25 + d) := nI_add 25 d
    have e8 : (8 : Int32) = nI 8 := rfl
    by_cases h0 : y = 0
    · rw [if_pos h0, if_pos h0, g_3_7, rg_1 hr, rl_2 hr hd8, g_137_3, l_139 hd8, (r10 d hd).2.1, (r10 d hd).2.2]
      exact ⟨_, rfl, rfl⟩
    rw [if_neg h0, if_neg h0]
    by_cases h1 : y = 1
    · rw [if_pos h1, if_pos h1, g_3_7, rg_2 hr, rl_3 hr hd8, g_137_4, l_140 hd8, (r11 d hd).2.1, (r11 d hd).2.2]
      exact ⟨_, rfl, rfl⟩
    rw [if_neg h1, if_neg h1]
    by_cases h2 : y = 2
    · rw [if_pos h2, if_pos h2, g_3_1, sg_0 sn_6, sl_1 sn_6 hd8, g_137_8, l_142 (by omega), (n1 d hd).2.1, (n1 d hd).2.2]
      exact ⟨_, rfl, rfl⟩
    rw [if_neg h2, if_neg h2]
    by_cases h3 : y = 3
    · rw [if_pos h3, if_pos h3, g_3_1, sg_1 sn_6, sl_2 sn_6 hd8, g_137_8, e17, l_142 (by omega), (n2 d hd).2.1, (n2 d hd).2.2]
      exact ⟨_, rfl, rfl⟩
    rw [if_neg h3, if_neg h3]
    by_cases h4 : y = 4
    · rw [if_pos h4, if_pos h4, g_3_1, sg_2 sn_6, sl_3 sn_6 hd8, g_137_8, e9, l_142 (by omega), (n3 d hd).2.1, (n3 d hd).2.2]
      exact ⟨_, rfl, rfl⟩
    rw [if_neg h4, if_neg h4]
    by_cases h5 : y = 5
    · rw [if_pos h5, if_pos h5, g_3_1, sv sn_6, m_bind_some (q_isUp sn_6 _), g_137_8, e8, l_142 (by omega), n6, n7]
      rcases b01 (nI u >>> (nI d &&& 31)) with e | e
      · rw [e, if_pos rfl]
        exact ⟨_, rfl, rfl⟩
      · rw [e, if_neg (by decide)]
        exact ⟨_, rfl, rfl⟩
    rw [if_neg h5, if_neg h5]
    by_cases h6 : y = 6
    · rw [if_pos h6, if_pos h6, g_3_1, sg_3 sn_6, sl_4 sn_6 hd8, g_137_8, e25, l_142 (by omega), (n4 d hd).2.1, (n4 d hd).2.2]
      exact ⟨_, rfl, rfl⟩
    rw [if_neg h6, if_neg h6]
    exact ⟨_, rfl, rfl⟩
theorem pr_write (L : Nat) (xs : Nat → Int32) (hL : L ≤ 192) (x y : Int32) : Pr L xs (pX9_write 3 x y) (pX10_write 137 x y) := by
  intro ra rb I hR
  have hR0 := hR
  obtain ⟨C, D, v, kd, hm, pt, q, hab, hRo, hT, hN, hP, hI, ⟨z2, bd, bc, hB⟩, hS, hX⟩ := hR
  obtain ⟨T, tx, hT⟩ := hT
  obtain ⟨z, nx, hP⟩ := hP
  obtain ⟨ch, hS⟩ := hS
  have hD : D ≤ 8 := hRo.2.2.1
  have hra : ra = 113 ∨ ra = 119 := by rcases hab with h | h <;> omega
  have hr := hab.rl
  have r1 := hRo.1
  have r5 := hRo.2.2.2.2.1
  have r6 := hRo.2.2.2.2.2.1
  have r7 := hRo.2.2.2.2.2.2.1
  have r8 := hRo.2.2.2.2.2.2.2.1
  have unk : ∀ {x y : Int32}, (x < 0 ∨ nI D ≤ x) → ∃ (r : Int32) (ra1 rb1 : Nat) (I1 I2 : cM), pX9_write 3 x y (hp ra rb L I) = some (r, hp ra1 rb1 L I1) ∧ I1 2 = xs ∧ pX10_write 137 x y (hp ra1 rb1 L I1) = some (r, hp ra1 rb1 L I2) ∧ Rel ra1 rb1 xs I2 := by
    intro x y h
    refine ⟨-1000000001, ra, rb, I, I, ?_, hX.2.2, ?_, hR0⟩
    · rw [pX9_write, g_3_7, rv hr, m_bind_some (q_hasDoll_f hr r7 h)]
      rfl
    · rw [pX10_write, v_137, m_bind_some (q_isDoll_f r8 h hD)]
      rfl
  have unk2 : ∀ {d : Nat} {y : Int32}, d < D → (y < 0 ∨ nI C ≤ y) → ∃ (r : Int32) (ra1 rb1 : Nat) (I1 I2 : cM), pX9_write 3 (nI d) y (hp ra rb L I) = some (r, hp ra1 rb1 L I1) ∧ I1 2 = xs ∧ pX10_write 137 (nI d) y (hp ra1 rb1 L I1) = some (r, hp ra1 rb1 L I2) ∧ Rel ra1 rb1 xs I2 := by
    intro d y hd h
    refine ⟨-1000000001, ra, rb, I, I, ?_, hX.2.2, ?_, hR0⟩
    · rw [pX9_write, g_3_7, rv hr, m_bind_some (q_hasDoll_t hr r7 hd hD), if_neg (by decide), g_3_7, rv hr, m_bind_some (q_hasCourt_f hr r5 h)]
      rfl
    · rw [pX10_write, v_137, m_bind_some (q_isDoll_t r8 hd hD), if_neg (by decide), v_137, m_bind_some (q_isCourt_f r6 h r1)]
      rfl
  rcases pk_ix x (n := D) (by omega) with h | h | ⟨d, hd, rfl⟩
  · exact unk (Or.inl h)
  · exact unk (Or.inr h)
  rcases pk_ix y (n := C) (by omega) with h | h | ⟨c, hc, rfl⟩
  · exact unk2 hd (Or.inl h)
  · exact unk2 hd (Or.inr h)
  obtain ⟨b1, b2, b3, b4⟩ := hB
  by_cases hf : z2 = 15
  · refine ⟨-1000000004, ra, rb, I, I, ?_, hX.2.2, ?_, hR0⟩
    · rw [pX9_write, g_3_7, rv hr, m_bind_some (q_hasDoll_t hr r7 hd hD), if_neg (by decide), g_3_7, rv hr, m_bind_some (q_hasCourt_t hr r5 hc r1), if_neg (by decide), g_3_3, g_93_2, b2, hf, if_neg (by decide)]
      rfl
    · rw [pX10_write, v_137, m_bind_some (q_isDoll_t r8 hd hD), if_neg (by decide), v_137, m_bind_some (q_isCourt_t r6 hc r1), if_neg (by decide), g_137_31, b3, hf, if_pos (by decide)]
      rfl
  · have hlt : z2 < 15 := by omega
    have h15 : nI z2 < 15 := nI_lt (b := 15) hlt (by decide)
    have h15b : ¬ 15 ≤ nI z2 := nI_ge (b := 15) hlt (by decide)
    have hne : ¬ nI z2 = 15 := fun e => hf ((nI_eq (by omega) (by decide)).mp (show nI z2 = nI 15 from e))
    refine ⟨nI z2 + 1, ra, rb, u2 (u2 (u2 I 94 z2 (nI d)) 95 z2 (nI c)) 93 2 (nI z2 + 1), u2 (u2 (u2 (u2 (u2 (u2 I 94 z2 (nI d)) 95 z2 (nI c)) 93 2 (nI z2 + 1)) 153 z2 (nI d)) 154 z2 (nI c)) 137 31 (nI z2 + 1), ?_, ?_, ?_, ?_⟩
    · rw [pX9_write, g_3_7, rv hr, m_bind_some (q_hasDoll_t hr r7 hd hD), if_neg (by decide), g_3_7, rv hr, m_bind_some (q_hasCourt_t hr r5 hc r1), if_neg (by decide), g_3_3, g_93_2, b2, if_pos h15, g_3_3, v_93]
      have ea : pX0_add 93 (nI d) (nI c) (hp ra rb L I) = some ((), hp ra rb L (u2 (u2 (u2 I 94 z2 (nI d)) 95 z2 (nI c)) 93 2 (nI z2 + 1))) := by
        rw [pX0_add, g_93_2, b2, if_neg h15b, g_93_0, g_93_2, b2, s_94 hlt, g_93_1, g_93_2, u2_na _ _ (by decide), b2, s_95 hlt, g_93_2, u2_na _ _ (by decide), u2_na _ _ (by decide), b2, p_93_2]
        rfl
      rw [m_bind_some ea, g_3_3, g_93_2, u2_s]
      rfl
    · rw [u2_rown _ _ _ (by decide), u2_rown _ _ _ (by decide), u2_rown _ _ _ (by decide)]
      exact hX.2.2
    · have er : (u2 (u2 (u2 I 94 z2 (nI d)) 95 z2 (nI c)) 93 2 (nI z2 + 1)) 137 = I 137 := by rw [u2_rown _ _ _ (by decide), u2_rown _ _ _ (by decide), u2_rown _ _ _ (by decide)]
      generalize hJ : u2 (u2 (u2 I 94 z2 (nI d)) 95 z2 (nI c)) 93 2 (nI z2 + 1) = J at er ⊢
      have b3' : J 137 31 = nI z2 := by rw [er]; exact b3
      rw [pX10_write, v_137, m_bind_some (q_isDoll_t (by rw [er]; exact r8) hd hD), if_neg (by decide), v_137, m_bind_some (q_isCourt_t (by rw [er]; exact r6) hc r1), if_neg (by decide), g_137_31, b3', if_neg hne, g_137_32, g_137_31, b3', s_153 hlt, g_137_33, g_137_31, u2_na _ _ (by decide), b3', s_154 hlt, g_137_31, u2_na _ _ (by decide), u2_na _ _ (by decide), b3', p_137_31, g_137_31, u2_s]
      rfl
    · refine ⟨C, D, v, kd, hm, pt, q, hab, hRo.fr ((((((Ag.rf.u ?_).u ?_).u ?_).u ?_).u ?_).u ?_), ⟨T, tx, hT.fr ((((((Ag.rf.u ?_).u ?_).u ?_).u ?_).u ?_).u ?_)⟩, hN.fr hD ((((((Ag.rf.u ?_).u ?_).u ?_).u ?_).u ?_).u ?_), ⟨z, nx, hP.fr hD ((((((Ag.rf.u ?_).u ?_).u ?_).u ?_).u ?_).u ?_)⟩, hI.fr hD ((((((Ag.rf.u ?_).u ?_).u ?_).u ?_).u ?_).u ?_), ⟨z2 + 1, fun j => if j = z2 then d else bd j, fun j => if j = z2 then c else bc j, ?_⟩, ⟨ch, hS.fr ((((((Ag.rf.u ?_).u ?_).u ?_).u ?_).u ?_).u ?_)⟩, hX.fr ((((((Ag.rf.u ?_).u ?_).u ?_).u ?_).u ?_).u ?_)⟩
      rotate_left 30
      · refine ⟨by omega, ?_, ?_, fun j hj => ?_⟩
        · simp [u2, nI_1]
        · simp [u2, nI_1]
        · by_cases hj2 : j = z2
          · subst hj2
            simp [u2, hd, hc]
          · have := b4 j (by omega)
            simp [u2, hj2, this]
      all_goals simp only [fRol, fTxt, fScn, fPst, fImg, fBok, fSed, fSta]
      all_goals omega
/-- a loop over 0, 1, .. D - 1 that may end ahead of it -/
theorem pr_judge (L : Nat) (xs : Nat → Int32) (hL : L ≤ 192) : Pr L xs (pX9_judge 3) (pX10_judge 137) := by
  refine Pr.same fun ra rb I hR => ?_
  obtain ⟨C, D, v, kd, hm, pt, q, hab, hRo, hT, ⟨t, s, w, e, u, yy, hN⟩, hP, hI, ⟨z, bd, bc, b1, b2, b3, b4⟩, hS, hX⟩ := hR
  obtain ⟨n1, -⟩ := hN.z
  have hD : D ≤ 8 := hRo.2.2.1
  have key : ∀ (n j : Nat), j ≤ z → z < j + n → ∃ r, fX0_firstWrong_2 n 93 6 (nI j) (hp ra rb L I) = some (r, hp ra rb L I) ∧ fX10_judge_2 n 137 (nI j) (hp ra rb L I) = some (r, hp ra rb L I) := by
    intro n
    induction n with
    | zero =>
      intro j h1 h2
      omega
    | succ n ih =>
      intro j h1 h2
      rw [fX0_firstWrong_2, fX10_judge_2, g_93_2, b2, g_137_31, b3]
      by_cases hj : j < z
      · obtain ⟨c1, c2, c3, c4, c5, c6⟩ := b4 j hj
        rw [if_neg (nI_ge hj (by omega)), if_neg (nI_ge hj (by omega)), sg_0 sn_6, g_93_0, l_94 (by omega), c3, sl_1 sn_6 (by omega), (n1 _ c1).2.1, g_93_1, l_95 (by omega), c5, g_137_8, g_137_32, l_153 (by omega), c4, l_142 (by omega), (n1 _ c1).2.2, g_137_33, l_154 (by omega), c6]
        by_cases he : nI (t (bd j)) = nI (bc j)
        · rw [if_pos he, if_pos he]
          unfold m_let
          rw [nI_1]
          exact ih (j + 1) (by omega) (by omega)
        · rw [if_neg he, if_neg he]
          exact ⟨_, rfl, rfl⟩
      · rw [if_pos (nI_le (by omega) (by omega)), if_pos (nI_le (by omega) (by omega))]
        exact ⟨_, rfl, rfl⟩
  obtain ⟨r, h1, h2⟩ := key c_fu 0 (by omega) (by show z < 0 + 1000; omega)
  refine ⟨r, ?_, ?_⟩
  · rw [pX9_judge, g_3_3, g_3_1, v_93, pX0_firstWrong]
    show m_bind (fX0_firstWrong_2 c_fu 93 6 (nI 0)) _ _ = _
    rw [m_bind_some h1]
    rfl
  · rw [pX10_judge]
    exact h2
theorem pr_parcels (L : Nat) (xs : Nat → Int32) (hL : L ≤ 192) (x y : Int32) : Pr L xs (pX9_parcels 3 x y) (pX10_parcels 137 x y) := by
  refine Pr.same fun ra rb I _ => ?_
  have e0 : (0 : Int64) = (0 : Int32).toInt64 := rfl
  have e6 : (60 : Int64) = (60 : Int32).toInt64 := rfl
  have e1 : (100 : Int64) = (100 : Int32).toInt64 := rfl
  rw [pX9_parcels, pX10_parcels]
  by_cases h1 : x < 0
  · rw [if_pos h1, e0, e6, m_bind_some (c_in_f (Or.inl h1))]
    exact ⟨_, rfl, rfl⟩
  rw [if_neg h1]
  by_cases h2 : 60 < x
  · rw [if_pos h2, e0, e6, m_bind_some (c_in_f (Or.inr h2))]
    exact ⟨_, rfl, rfl⟩
  have i1 : pX10_in x.toInt64 0 60 (hp ra rb L I) = some (1, hp ra rb L I) := c_in_t (a := 0) (b := 60) (Int32.not_lt.mp h1) (Int32.not_lt.mp h2)
  rw [if_neg h2, m_bind_some i1, if_neg ne10]
  by_cases h3 : y < 0
  · rw [if_pos h3, e0, e1, m_bind_some (c_in_f (Or.inl h3))]
    exact ⟨_, rfl, rfl⟩
  rw [if_neg h3]
  by_cases h4 : y ≤ 100
  · have i2 : pX10_in y.toInt64 0 100 (hp ra rb L I) = some (1, hp ra rb L I) := c_in_t (a := 0) (b := 100) (Int32.not_lt.mp h3) h4
    rw [if_pos h4, m_bind_some i2, if_neg ne10]
    obtain ⟨N, hN, rfl⟩ := nI_of2 (M := 60) (n := 60) (by decide) h1 (Int32.not_lt.mp h2)
    have key : ∀ (n j : Nat) (w : Int64), j ≤ N → N < j + n → ∃ r, fX9_parcels_30 fX9_parcels_54 n (nI N) y w (nI j) (hp ra rb L I) = some (r, hp ra rb L I) ∧ fX10_parcels_34 fX10_parcels_58 n (nI N) y w (nI j) (hp ra rb L I) = some (r, hp ra rb L I) := by
      intro n
      induction n with
      | zero =>
        intro j w a1 a2
        omega
      | succ n ih =>
        intro j w a1 a2
        rw [fX9_parcels_30, fX10_parcels_34]
        by_cases hj : j < N
        · rw [if_neg (nI_ge hj (by omega)), if_neg (nI_ge hj (by omega))]
          unfold m_nzl m_letl m_let
          rw [if_neg (by decide), if_neg (by decide), nI_1]
          exact ih (j + 1) _ (by omega) (by omega)
        · rw [if_pos (nI_le (by omega) (by omega)), if_pos (nI_le (by omega) (by omega))]
          exact ⟨_, rfl, rfl⟩
    exact key c_fu 0 1000000000 (by omega) (by show N < 0 + 1000; omega)
  · rw [if_neg h4, e0, e1, m_bind_some (c_in_f (Or.inr (Int32.not_le.mp h4)))]
    exact ⟨_, rfl, rfl⟩
