/-! pairs keep, goBack -/
def ptk (p q : Nat → Int32) (z j : Nat) : Nat → Int32 := fun k => if z ≤ k ∧ k < z + j then q (k - z) else p k
theorem ptk_0 (p q : Nat → Int32) (z : Nat) : ptk p q z 0 = p := by
  funext k
  unfold ptk
  rw [if_neg (by omega)]
theorem ptk_s (p q : Nat → Int32) (z j : Nat) : upd (ptk p q z j) (z + j) (q j) = ptk p q z (j + 1) := by
  funext k
  unfold upd ptk
  by_cases hk : k = z + j
  · rw [if_pos hk, if_pos (by omega)]
    exact congrArg q (by omega)
  · rw [if_neg hk]
    by_cases h9 : z ≤ k ∧ k < z + j
    · rw [if_pos h9, if_pos (by omega)]
    · rw [if_neg h9, if_neg (by omega)]
theorem keep_loop {ra rb L i : Nat} {J : cM} {p : Nat → Int32} {K : Nat → Int32 → MM Int32} (hi : i < 2) : ∀ (n j : Nat), j ≤ 36 → 36 < j + n → fX10_keep_15 K n 137 (nI i) (nI j) (hp ra rb L (u1 J 155 (ptk p (J 142) (37 * i) j))) = K 137 (nI i) (hp ra rb L (u1 J 155 (ptk p (J 142) (37 * i) 36))) := by
  intro n
  induction n with
  | zero =>
    intro j h2 h3
    omega
  | succ n ih =>
    intro j h2 h3
    rw [fX10_keep_15]
    by_cases hj : j < 36
    · have e37 : (37 : Int32) * nI i + nI j = nI (37 * i + j) := by
        rw [show (37 : Int32) * nI i = nI (37 * i) from pk_mul 37 i, nI_add]
      rw [if_neg (show ¬ (36 : Int32) ≤ nI j from nI_ge (b := 36) hj (by decide)), g_137_34, g_137_8, l_142 hj, u1_n _ _ (show (142 : Nat) ≠ 155 by decide), e37, s_155 (by omega), u2_u1, ptk_s]
      unfold m_let
      rw [nI_1]
      exact ih (j + 1) (by omega) (by omega)
    · have : j = 36 := by omega
      subst this
      rw [if_pos (by decide)]
theorem goBack_loop {ra rb L i : Nat} {J : cM} {p : Nat → Int32} {K : Nat → Int32 → MM Int32} (hi : i < 2) : ∀ (n j : Nat), j ≤ 36 → 36 < j + n → fX10_goBack_27 K n 137 (nI i) (nI j) (hp ra rb L (u1 J 142 (gtf p (J 155) (37 * i) j))) = K 137 (nI i) (hp ra rb L (u1 J 142 (gtf p (J 155) (37 * i) 36))) := by
  intro n
  induction n with
  | zero =>
    intro j h2 h3
    omega
  | succ n ih =>
    intro j h2 h3
    rw [fX10_goBack_27]
    by_cases hj : j < 36
    · have e37 : (37 : Int32) * nI i + nI j = nI (37 * i + j) := by
        rw [show (37 : Int32) * nI i = nI (37 * i) from pk_mul 37 i, nI_add]
      rw [if_neg (show ¬ (36 : Int32) ≤ nI j from nI_ge (b := 36) hj (by decide)), g_137_8, g_137_34, e37, l_155 (by omega), u1_n _ _ (show (155 : Nat) ≠ 142 by decide), s_142 (by omega), u2_u1, gtf_s]
      unfold m_let
      rw [nI_1]
      exact ih (j + 1) (by omega) (by omega)
    · have : j = 36 := by omega
      subst this
      rw [if_pos (by decide)]
/-- an image at any of its two addresses -/
theorem im_sh {i : Nat} (hi : i < 2) : 125 + 6 * i < 157 ∧ (∀ ra rb L : Nat, c_sh ra rb L (125 + 6 * i) = .inr (.inr (1, [some (125 + 6 * i + 1), none, none]))) ∧ c_sn (126 + 6 * i) := by
  match i, hi with
  | 0, _ => exact ⟨by decide, fun _ _ _ => rfl, sn_126⟩
  | 1, _ => exact ⟨by decide, fun _ _ _ => rfl, sn_132⟩
  | i + 2, hi => exact absurd hi (by omega)
theorem pr_keep (L : Nat) (xs : Nat → Int32) (hL : L ≤ 192) (x : Int32) : Pr L xs (pX9_keep 3 x) (pX10_keep 137 x) := by
  intro ra rb I hR
  have hR0 := hR
  obtain ⟨C, D, v, kd, hm, pt, q, hab, hRo, hT, hN, ⟨z, nx, hP⟩, hI, hB, ⟨ch, hS⟩, hX⟩ := hR
  have hD : D ≤ 8 := hRo.2.2.1
  have hra : ra = 113 ∨ ra = 119 := by rcases hab with h | h <;> omega
  rcases pk_ix x (n := 2) (by decide) with h | h | ⟨i, hi, rfl⟩
  · have i0 : pX10_in x.toInt64 0 1 (hp ra rb L I) = some (0, hp ra rb L I) := c_in_f (a := 0) (b := 1) (Or.inl h)
    refine ⟨-1000000001, ra, rb, I, I, ?_, hX.2.2, ?_, hR0⟩
    · rw [pX9_keep, if_pos h]
      rfl
    · rw [pX10_keep, m_bind_some i0]
      rfl
  · have h2 : (nI 2).toInt = 2 := by decide
    have h0 : ¬ x < 0 := by
      rw [t_le, h2] at h
      rw [t_lt]
      have : (0 : Int32).toInt = 0 := by decide
      omega
    have h1 : 1 < x := by
      rw [t_le, h2] at h
      rw [t_lt]
      have : (1 : Int32).toInt = 1 := by decide
      omega
    have i0 : pX10_in x.toInt64 0 1 (hp ra rb L I) = some (0, hp ra rb L I) := c_in_f (a := 0) (b := 1) (Or.inr h1)
    refine ⟨-1000000001, ra, rb, I, I, ?_, hX.2.2, ?_, hR0⟩
    · rw [pX9_keep, if_neg h0, if_neg (show ¬ x < 2 from Int32.not_lt.mpr h)]
      rfl
    · rw [pX10_keep, m_bind_some i0]
      rfl
  obtain ⟨s1, s2, s3⟩ := im_sh hi
  obtain ⟨p1, p2, p3, p4, p5, -⟩ := id hP
  obtain ⟨A, hA⟩ : ∃ A, A = u2 (u2 (u2 (cps I (126 + 6 * i) 6) (125 + 6 * i) 1 (nI ch)) (125 + 6 * i) 2 1) 11 2 0 := ⟨_, rfl⟩
  have fA : ∀ a k, (a < 125 + 6 * i ∨ 130 + 6 * i < a) → ¬ (a = 11 ∧ k = 2) → A a k = I a k := fun a k h1 h2 => by rw [hA, u2_n _ _ h2, u2_na _ _ (by omega), u2_na _ _ (by omega), cps_o (by omega)]
  obtain ⟨B0, hB0⟩ : ∃ B0, B0 = u1 A 155 (ptk (A 155) (A 142) (37 * i) 36) := ⟨_, rfl⟩
  obtain ⟨B, hBB⟩ : ∃ B, B = u2 (u2 (u2 B0 155 (37 * i + 36) (nI ch)) 156 i 1) 137 25 0 := ⟨_, rfl⟩
  have fB : ∀ a k, a ≠ 155 → ¬ (a = 156 ∧ k = i) → ¬ (a = 137 ∧ k = 25) → B a k = A a k := fun a k h1 h2 h3 => by rw [hBB, u2_n _ _ h3, u2_n _ _ h2, u2_na _ _ h1, hB0, u1_n _ _ h1]
  have i1 : pX10_in (nI i).toInt64 0 1 (hp ra rb L A) = some (1, hp ra rb L A) := c_in_t (a := 0) (b := 1) (nI_pos' (by omega)) (nI_le (b := 1) (by omega) (by decide))
  have e126 : 125 + 6 * i + 1 = 126 + 6 * i := by omega
  refine ⟨1, ra, rb, A, B, ?_, ?_, ?_, ?_⟩
  · rw [pX9_keep, if_neg (nI_pos (by omega)), if_pos (show nI i < 2 from nI_lt (b := 2) hi (by decide)), g_3_4, r_96 hi, h_gr s1 (s2 ra rb L) rfl, g_3_1, e126, sv s3, m_bind_some (q_copyFrom sn_6 s3 (by omega)), g_3_9, cps_o (by omega), hS.2.1, h_pi s1 (s2 ra rb L) rfl, h_pi s1 (s2 ra rb L) rfl, g_3_2, v_11]
    have : pX3_forget 11 (hp ra rb L (u2 (u2 (cps I (126 + 6 * i) 6) (125 + 6 * i) 1 (nI ch)) (125 + 6 * i) 2 1)) = some ((), hp ra rb L A) := by
      rw [pX3_forget, p_11_2, hA]
      rfl
    rw [m_bind_some this]
    rfl
  · funext k
    rw [fA _ _ (by omega) (by omega)]
    exact congrFun hX.2.2 k
  · have h := keep_loop (ra := ra) (rb := rb) (L := L) (J := A) (p := A 155) (K := fX10_keep_44) hi c_fu 0 (by decide) (by show 36 < 0 + 1000; decide)
    rw [ptk_0, u1_id, ← hB0] at h
    rw [pX10_keep, m_bind_some i1, if_neg ne10]
    show fX10_keep_15 fX10_keep_44 c_fu 137 (nI i) (nI 0) (hp ra rb L A) = _
    have e36 : (37 : Int32) * nI i + 36 = nI (37 * i + 36) := by
      rw [show (37 : Int32) * nI i = nI (37 * i) from pk_mul 37 i]
      exact nI_add (37 * i) 36
    have hch : B0 137 9 = nI ch := by rw [hB0, u1_n _ _ (by decide), fA _ _ (by omega) (by omega)]; exact hS.2.2
    rw [h, fX10_keep_44, g_137_34, g_137_9, hch, e36, s_155 (by omega), g_137_35, s_156 hi (by decide), p_137_25, ← hBB]
    rfl
  · obtain ⟨T, tx, hT⟩ := hT
    obtain ⟨z2, bd2, bc, hB⟩ := hB
    have fI : Ag (fun a k => (a < 125 + 6 * i ∨ 130 + 6 * i < a) ∧ ¬ (a = 11 ∧ k = 2) ∧ a ≠ 155 ∧ ¬ (a = 156 ∧ k = i) ∧ ¬ (a = 137 ∧ k = 25)) B I := fun a k h => by rw [fB _ _ h.2.2.1 h.2.2.2.1 h.2.2.2.2, fA _ _ h.1 h.2.1]
    refine ⟨C, D, v, kd, hm, pt, q, hab, hRo.fr (fI.m fun a k h => ?_), ⟨T, tx, hT.fr (fI.m fun a k h => ?_)⟩, hN.fr hD (fI.m fun a k h => ?_), ⟨0, nx, by omega, p2, ?_, ?_, ?_, fun j hj => absurd hj (by omega)⟩, fun j hj => ?_, ⟨z2, bd2, bc, hB.fr (fI.m fun a k h => ?_)⟩, ⟨ch, hS.fr (fI.m fun a k h => ?_)⟩, hX.fr (fI.m fun a k h => ?_)⟩
    · unfold fRol at h; omega
    · unfold fTxt at h; omega
    · unfold fScn at h; omega
    · rw [fI 11 1 (by omega)]; exact p3
    · rw [fB _ _ (by decide) (by omega) (by decide), hA, u2_s]; rfl
    · rw [hBB, u2_s]; rfl
    · by_cases hji : j = i
      · subst hji
        have b156 : B 156 j = 1 := by rw [hBB, u2_na _ _ (by decide), u2_s]
        refine ⟨?_, Or.inr b156, fun _ => ⟨?_, ch, hS.1, ?_, ?_⟩⟩
        · rw [b156, fB _ _ (by omega) (by omega) (by omega), hA, u2_na _ _ (by omega), u2_s]
        · obtain ⟨t, s, w, e, u, y, hSC⟩ := hN
          obtain ⟨n1, n2, n3, n4, n5, n6, n7, n8, n9, n10, n11, n12⟩ := hSC.z
          have cB : ∀ i k, 1 ≤ i → i ≤ 4 → k < 8 → B (126 + 6 * j + i) k = I (6 + i) k := by
            intro i k h1 h2 h3
            rw [fB _ _ (by omega) (by omega) (by omega), hA, u2_na _ _ (by omega), u2_na _ _ (by omega), u2_na _ _ (by omega), cps_r h1 h2 h3]
          have cF : ∀ k, 4 ≤ k → k < 8 → B (126 + 6 * j) k = I 6 k := by
            intro k h1 h2
            rw [fB _ _ (by omega) (by omega) (by omega), hA, u2_na _ _ (by omega), u2_na _ _ (by omega), u2_na _ _ (by omega), cps_f h1 h2]
          have mB : ∀ k, k < 36 → B 155 (37 * j + k) = I 142 k := by
            intro k hk
            rw [hBB, u2_na _ _ (by decide), u2_na _ _ (by decide), u2_nk _ _ (by omega), hB0, u1_s]
            unfold ptk
            rw [if_pos (by omega), Nat.add_sub_cancel_left, fA _ _ (by omega) (by omega)]
          refine ⟨t, s, w, e, u, y, fun d hd => ?_, fun d hd => ?_, fun d hd => ?_, fun d hd => ?_, n5, ?_, ?_, n8, ?_, ?_, ?_, ?_⟩
          · rw [cB 1 d (by decide) (by decide) (by omega), mB d (by omega)]; exact n1 d hd
          · rw [cB 2 d (by decide) (by decide) (by omega), mB _ (by omega)]; exact n2 d hd
          · rw [cB 3 d (by decide) (by decide) (by omega), mB _ (by omega)]; exact n3 d hd
          · rw [cB 4 d (by decide) (by decide) (by omega), mB _ (by omega)]; exact n4 d hd
          · rw [cF 4 (by decide) (by decide)]; exact n6
          · rw [mB 8 (by decide)]; exact n7
          · rw [cF 5 (by decide) (by decide)]; exact n9
          · rw [mB 33 (by decide)]; exact n10
          · rw [cF 6 (by decide) (by decide), mB 34 (by decide)]; exact n11
          · rw [cF 7 (by decide) (by decide), mB 35 (by decide)]; exact n12
        · rw [fB _ _ (by omega) (by omega) (by omega), hA, u2_na _ _ (by omega), u2_nk _ _ (by decide), u2_s]
        · rw [hBB, u2_na _ _ (by decide), u2_na _ _ (by decide), u2_s]
      · obtain ⟨g1, g2, g3⟩ := hI j hj
        have k1 : ∀ a k, 125 + 6 * j ≤ a → a ≤ 130 + 6 * j → B a k = I a k := fun a k h1 h2 => fI a k (by omega)
        have k2 : B 156 j = I 156 j := by rw [fB _ _ (by decide) (by omega) (by omega), fA _ _ (by omega) (by omega)]
        have k3 : ∀ k, k < 37 → B 155 (37 * j + k) = I 155 (37 * j + k) := by
          intro k hk
          rw [hBB, u2_na _ _ (by decide), u2_na _ _ (by decide), u2_nk _ _ (by omega), hB0, u1_s]
          unfold ptk
          rw [if_neg (by omega), fA _ _ (by omega) (by omega)]
        rw [k1 _ 2 (by omega) (by omega), k1 _ 1 (by omega) (by omega), k2, k3 36 (by decide)]
        refine ⟨g1, g2, fun hk => ⟨(g3 hk).1.fr hD (fun a k hf => ?_), (g3 hk).2⟩⟩
        unfold fScn at hf
        by_cases ha : a = 155
        · subst ha
          have hk2 : 37 * j ≤ k ∧ k < 37 * j + 36 := by omega
          have := k3 (k - 37 * j) (by omega)
          rw [show 37 * j + (k - 37 * j) = k by omega] at this
          exact this
        · exact k1 a k (by omega) (by omega)
    · unfold fBok at h; omega
    · unfold fSed at h; omega
    · unfold fSta at h; omega
theorem pr_goBack (L : Nat) (xs : Nat → Int32) (hL : L ≤ 192) (x : Int32) : Pr L xs (pX9_goBack 3 x) (pX10_goBack 137 x) := by
  intro ra rb I hR
  have hR0 := hR
  obtain ⟨C, D, v, kd, hm, pt, q, hab, hRo, hT, hN, ⟨z, nx, hP⟩, hI, hB, ⟨ch, hS⟩, hX⟩ := hR
  have hD : D ≤ 8 := hRo.2.2.1
  have hra : ra = 113 ∨ ra = 119 := by rcases hab with h | h <;> omega
  rcases pk_ix x (n := 2) (by decide) with h | h | ⟨i, hi, rfl⟩
  · have i0 : pX10_in x.toInt64 0 1 (hp ra rb L I) = some (0, hp ra rb L I) := c_in_f (a := 0) (b := 1) (Or.inl h)
    refine ⟨-1000000001, ra, rb, I, I, ?_, hX.2.2, ?_, hR0⟩
    · rw [pX9_goBack, if_pos h]
      rfl
    · rw [pX10_goBack, m_bind_some i0]
      rfl
  · have h2 : (nI 2).toInt = 2 := by decide
    have h0 : ¬ x < 0 := by
      rw [t_le, h2] at h
      rw [t_lt]
      have : (0 : Int32).toInt = 0 := by decide
      omega
    have h1 : 1 < x := by
      rw [t_le, h2] at h
      rw [t_lt]
      have : (1 : Int32).toInt = 1 := by decide
      omega
    have i0 : pX10_in x.toInt64 0 1 (hp ra rb L I) = some (0, hp ra rb L I) := c_in_f (a := 0) (b := 1) (Or.inr h1)
    refine ⟨-1000000001, ra, rb, I, I, ?_, hX.2.2, ?_, hR0⟩
    · rw [pX9_goBack, if_neg h0, if_neg (show ¬ x < 2 from Int32.not_lt.mpr h)]
      rfl
    · rw [pX10_goBack, m_bind_some i0]
      rfl
  obtain ⟨s1, s2, s3⟩ := im_sh hi
  obtain ⟨p1, p2, p3, p4, p5, -⟩ := id hP
  obtain ⟨g1, g2, g3⟩ := hI i hi
  have i1 : ∀ A : cM, pX10_in (nI i).toInt64 0 1 (hp ra rb L A) = some (1, hp ra rb L A) := fun A => c_in_t (a := 0) (b := 1) (nI_pos' (by omega)) (nI_le (b := 1) (by omega) (by decide))
  have e126 : 125 + 6 * i + 1 = 126 + 6 * i := by omega
  rcases g2 with g2 | g2
  · refine ⟨-1000000003, ra, rb, I, I, ?_, hX.2.2, ?_, hR0⟩
    · rw [pX9_goBack, if_neg (nI_pos (by omega)), if_pos (show nI i < 2 from nI_lt (b := 2) hi (by decide)), g_3_4, r_96 hi, h_gi s1 (s2 ra rb L) rfl, g1, g2, if_pos rfl]
      rfl
    · rw [pX10_goBack, m_bind_some (i1 I), if_neg ne10, g_137_35, l_156 hi, g2, if_pos rfl]
      rfl
  · obtain ⟨hSn, c2, hc2, hc3, hc4⟩ := g3 g2
    obtain ⟨A, hA⟩ : ∃ A, A = u2 (u2 (cps I 6 (126 + 6 * i)) 3 9 (nI c2)) 11 2 0 := ⟨_, rfl⟩
    have fA : ∀ a k, (a < 6 ∨ 10 < a) → ¬ (a = 11 ∧ k = 2) → ¬ (a = 3 ∧ k = 9) → A a k = I a k := fun a k h1 h2 h3 => by rw [hA, u2_n _ _ h2, u2_n _ _ h3, cps_o (by omega)]
    obtain ⟨B0, hB0⟩ : ∃ B0, B0 = u1 A 142 (gtf (A 142) (A 155) (37 * i) 36) := ⟨_, rfl⟩
    obtain ⟨B, hBB⟩ : ∃ B, B = u2 (u2 B0 137 9 (nI c2)) 137 25 0 := ⟨_, rfl⟩
    have fB : ∀ a k, a ≠ 142 → ¬ (a = 137 ∧ k = 9) → ¬ (a = 137 ∧ k = 25) → B a k = A a k := fun a k h1 h2 h3 => by rw [hBB, u2_n _ _ h3, u2_n _ _ h2, hB0, u1_n _ _ h1]
    refine ⟨1, ra, rb, A, B, ?_, ?_, ?_, ?_⟩
    · rw [pX9_goBack, if_neg (nI_pos (by omega)), if_pos (show nI i < 2 from nI_lt (b := 2) hi (by decide)), g_3_4, r_96 hi, h_gi s1 (s2 ra rb L) rfl, g1, g2, if_neg ne10, g_3_1, h_gr s1 (s2 ra rb L) rfl, e126, sv sn_6, m_bind_some (q_copyFrom s3 sn_6 (by omega)), h_gi s1 (s2 ra rb L) rfl, cps_o (by omega), hc3, p_3_9, g_3_2, v_11]
      have : pX3_forget 11 (hp ra rb L (u2 (cps I 6 (126 + 6 * i)) 3 9 (nI c2))) = some ((), hp ra rb L A) := by
        rw [pX3_forget, p_11_2, hA]
        rfl
      rw [m_bind_some this]
      rfl
    · funext k
      rw [fA _ _ (by omega) (by omega) (by omega)]
      exact congrFun hX.2.2 k
    · have h := goBack_loop (ra := ra) (rb := rb) (L := L) (J := A) (p := A 142) (K := fX10_goBack_56) hi c_fu 0 (by decide) (by show 36 < 0 + 1000; decide)
      rw [gtf_0, u1_id, ← hB0] at h
      have k156 : A 156 i = 1 := by rw [fA _ _ (by omega) (by omega) (by omega)]; exact g2
      rw [pX10_goBack, m_bind_some (i1 A), if_neg ne10, g_137_35, l_156 hi, k156, if_neg ne10]
      show fX10_goBack_27 fX10_goBack_56 c_fu 137 (nI i) (nI 0) (hp ra rb L A) = _
      have e36 : (37 : Int32) * nI i + 36 = nI (37 * i + 36) := by
        rw [show (37 : Int32) * nI i = nI (37 * i) from pk_mul 37 i]
        exact nI_add (37 * i) 36
      have hch : B0 155 (37 * i + 36) = nI c2 := by rw [hB0, u1_n _ _ (by decide), fA _ _ (by omega) (by omega) (by omega)]; exact hc4
      rw [h, fX10_goBack_56, g_137_34, e36, l_155 (by omega), hch, p_137_9, p_137_25, ← hBB]
      rfl
    · obtain ⟨T, tx, hT⟩ := hT
      obtain ⟨z2, bd2, bc, hB⟩ := hB
      have fI : Ag (fun a k => (a < 6 ∨ 10 < a) ∧ ¬ (a = 11 ∧ k = 2) ∧ ¬ (a = 3 ∧ k = 9) ∧ a ≠ 142 ∧ ¬ (a = 137 ∧ k = 9) ∧ ¬ (a = 137 ∧ k = 25)) B I := fun a k h => by rw [fB _ _ h.2.2.2.1 h.2.2.2.2.1 h.2.2.2.2.2, fA _ _ h.1 h.2.1 h.2.2.1]
      refine ⟨C, D, v, kd, hm, pt, q, hab, hRo.fr (fI.m fun a k h => ?_), ⟨T, tx, hT.fr (fI.m fun a k h => ?_)⟩, ?_, ⟨0, nx, by omega, p2, ?_, ?_, ?_, fun j hj => absurd hj (by omega)⟩, hI.fr hD (fI.m fun a k h => ?_), ⟨z2, bd2, bc, hB.fr (fI.m fun a k h => ?_)⟩, ⟨c2, hc2, ?_, ?_⟩, hX.fr (fI.m fun a k h => ?_)⟩
      · unfold fRol at h; omega
      · unfold fTxt at h; omega
      · obtain ⟨t, s, w, e, u, y, n1, n2, n3, n4, n5, n6, n7, n8, n9, n10, n11, n12⟩ := hSn
        have cB : ∀ j k, 1 ≤ j → j ≤ 4 → k < 8 → B (6 + j) k = I (126 + 6 * i + j) k := by
          intro j k h1 h2 h3
          rw [fB _ _ (by omega) (by omega) (by omega), hA, u2_na _ _ (by omega), u2_na _ _ (by omega), cps_r h1 h2 h3]
        have cF : ∀ k, 4 ≤ k → k < 8 → B 6 k = I (126 + 6 * i) k := by
          intro k h1 h2
          rw [fB _ _ (by omega) (by omega) (by omega), hA, u2_na _ _ (by omega), u2_na _ _ (by omega), cps_f h1 h2]
        have mB : ∀ k, k < 36 → B 142 k = I 155 (37 * i + k) := by
          intro k hk
          rw [hBB, u2_na _ _ (by decide), u2_na _ _ (by decide), hB0, u1_s]
          unfold gtf
          rw [if_pos hk, fA _ _ (by omega) (by omega) (by omega)]
        refine ⟨t, s, w, e, u, y, ?_⟩
        unfold SC
        simp only [Nat.zero_add]
        refine ⟨fun d hd => ?_, fun d hd => ?_, fun d hd => ?_, fun d hd => ?_, n5, ?_, ?_, n8, ?_, ?_, ?_, ?_⟩
        · rw [cB 1 d (by decide) (by decide) (by omega), mB d (by omega)]; exact n1 d hd
        · rw [cB 2 d (by decide) (by decide) (by omega), mB _ (by omega)]; exact n2 d hd
        · rw [cB 3 d (by decide) (by decide) (by omega), mB _ (by omega)]; exact n3 d hd
        · rw [cB 4 d (by decide) (by decide) (by omega), mB _ (by omega)]; exact n4 d hd
        · rw [cF 4 (by decide) (by decide)]; exact n6
        · rw [mB 8 (by decide)]; exact n7
        · rw [cF 5 (by decide) (by decide)]; exact n9
        · rw [mB 33 (by decide)]; exact n10
        · rw [cF 6 (by decide) (by decide), mB 34 (by decide)]; exact n11
        · rw [cF 7 (by decide) (by decide), mB 35 (by decide)]; exact n12
      · rw [fI 11 1 (by omega)]; exact p3
      · rw [fB _ _ (by decide) (by omega) (by decide), hA, u2_s]; rfl
      · rw [hBB, u2_s]; rfl
      · unfold fImg at h; omega
      · unfold fBok at h; omega
      · rw [fB _ _ (by decide) (by omega) (by decide), hA, u2_na _ _ (by decide), u2_s]
      · rw [hBB, u2_nk _ _ (by decide), u2_s]
      · unfold fSta at h; omega
