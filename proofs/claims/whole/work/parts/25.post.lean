/-! pairs: post, mix, mask -/
theorem cn_rem {I : cM} {D nx z : Nat} {t s w e : Nat → Nat} {u y : Nat} {au he : Int32} (h : CN I D t s w e u y au he) (hn : nx < 16) : CN (crem I nx z) D t s w e u y au he := h.fr fun a k h1 h2 => crem_o hn (by omega)
theorem mn_rem {I A : cM} {D z : Nat} {t s w e : Nat → Nat} {u y : Nat} {au he : Int32} (h : MN I D t s w e u y au he) (hA : ∀ k, A 142 k = I 142 k) : MN (mrem A z) D t s w e u y au he := h.fr fun k => by rw [mrem_o (by decide) (by omega)]; exact hA k
theorem pr_post (L : Nat) (xs : Nat → Int32) (hL : L ≤ 192) (x y : Int32) : Pr L xs (pX9_post 3 x y) (pX10_post 137 x y) := by
  intro ra rb I hR
  have hR0 := hR
  obtain ⟨C, D, v, kd, hm, pt, q, hab, hRo, hT, hN, ⟨z, nx, hP⟩, hI, hB, ⟨ch, hS⟩, hX⟩ := hR
  have hD : D ≤ 8 := hRo.2.2.1
  have hr := hab.rl
  have r1 := hRo.1
  have r5 := hRo.2.2.2.2.1
  have r6 := hRo.2.2.2.2.2.1
  have r7 := hRo.2.2.2.2.2.2.1
  have r8 := hRo.2.2.2.2.2.2.2.1
  have unk : ∀ {x : Int32}, (x < 0 ∨ nI D ≤ x) → ∃ (r : Int32) (ra1 rb1 : Nat) (I1 I2 : cM), pX9_post 3 x y (hp ra rb L I) = some (r, hp ra1 rb1 L I1) ∧ I1 2 = xs ∧ pX10_post 137 x y (hp ra1 rb1 L I1) = some (r, hp ra1 rb1 L I2) ∧ Rel ra1 rb1 xs I2 := by
    intro x h
    refine ⟨-1000000001, ra, rb, I, I, ?_, hX.2.2, ?_, hR0⟩
    · rw [pX9_post, g_3_7, rv hr, m_bind_some (q_hasDoll_f hr r7 h)]
      rfl
    · rw [pX10_post, v_137, m_bind_some (q_isDoll_f r8 h hD)]
      rfl
  have unk2 : ∀ {d : Nat} {y : Int32}, d < D → (y < 0 ∨ nI C ≤ y) → ∃ (r : Int32) (ra1 rb1 : Nat) (I1 I2 : cM), pX9_post 3 (nI d) y (hp ra rb L I) = some (r, hp ra1 rb1 L I1) ∧ I1 2 = xs ∧ pX10_post 137 (nI d) y (hp ra1 rb1 L I1) = some (r, hp ra1 rb1 L I2) ∧ Rel ra1 rb1 xs I2 := by
    intro d y hd h
    refine ⟨-1000000001, ra, rb, I, I, ?_, hX.2.2, ?_, hR0⟩
    · rw [pX9_post, g_3_7, rv hr, m_bind_some (q_hasDoll_t hr r7 hd hD), if_neg ne10, g_3_7, rv hr, m_bind_some (q_hasCourt_f hr r5 h)]
      rfl
    · rw [pX10_post, v_137, m_bind_some (q_isDoll_t r8 hd hD), if_neg ne10, v_137, m_bind_some (q_isCourt_f r6 h r1)]
      rfl
  rcases pk_ix x (n := D) (by omega) with h | h | ⟨d, hd, rfl⟩
  · exact unk (Or.inl h)
  · exact unk (Or.inr h)
  rcases pk_ix y (n := C) (by omega) with h | h | ⟨c, hc, rfl⟩
  · exact unk2 hd (Or.inl h)
  · exact unk2 hd (Or.inr h)
  obtain ⟨t, s, w, e, u, yy, au, he, hc1, hm1, hok⟩ := scn_to hN
  obtain ⟨p1, p2, p3, p4, p5, -⟩ := id hP
  by_cases heq : nI (t d) = nI c
  · refine ⟨-1000000003, ra, rb, I, I, ?_, hX.2.2, ?_, hR0⟩
    · rw [pX9_post, g_3_7, rv hr, m_bind_some (q_hasDoll_t hr r7 hd hD), if_neg ne10, g_3_7, rv hr, m_bind_some (q_hasCourt_t hr r5 hc r1), if_neg ne10, g_3_1, sg_0 sn_6, sl_1 sn_6 (by omega), hc1.1 d hd, if_pos heq]
      rfl
    · rw [pX10_post, v_137, m_bind_some (q_isDoll_t r8 hd hD), if_neg ne10, v_137, m_bind_some (q_isCourt_t r6 hc r1), if_neg ne10, g_137_8, l_142 (by omega), hm1.1 d hd, if_pos heq]
      rfl
  · obtain ⟨A, o1, o2, o3⟩ := op_send (ra := ra) (rb := rb) (L := L) (cn_rem (z := z) hc1 p2) (c := c) hd hD
    have hA : ∀ a k, 136 < a → A a k = I a k := fun a k h => by rw [o3 a k (by omega), crem_o p2 (by omega)]
    obtain ⟨B, o4, o5, o6⟩ := mo_send (ra := ra) (rb := rb) (L := L) (mn_rem (z := z) hm1 (fun k => hA 142 k (by decide))) (c := c) hd hD
    refine ⟨nI (t d), ra, rb, A, B, ?_, ?_, ?_, ?_⟩
    · rw [pX9_post, g_3_7, rv hr, m_bind_some (q_hasDoll_t hr r7 hd hD), if_neg ne10, g_3_7, rv hr, m_bind_some (q_hasCourt_t hr r5 hc r1), if_neg ne10, g_3_1, sg_0 sn_6, sl_1 sn_6 (by omega), hc1.1 d hd, if_neg heq, g_3_2, g_3_1, v_11, m_bind_some (q_remember p3 p4 p2 p1), g_3_1, sg_0 sn_6, sl_1 sn_6 (by omega), (cn_rem (z := z) hc1 p2).1 d hd, g_3_1, sv sn_6, m_bind_some o1]
      rfl
    · funext k
      rw [o3 _ _ (by decide), crem_o p2 (by decide)]
      exact congrFun hX.2.2 k
    · rw [pX10_post, v_137, m_bind_some (q_isDoll_t (by rw [hA _ _ (by decide)]; exact r8) hd hD), if_neg ne10, v_137, m_bind_some (q_isCourt_t (by rw [hA _ _ (by decide)]; exact r6) hc r1), if_neg ne10, g_137_8, l_142 (by omega), hA _ _ (by decide), hm1.1 d hd, if_neg heq, v_137, m_bind_some (q_mrem (by rw [hA _ _ (by decide)]; exact p5) p1), g_137_8, l_142 (by omega), (mn_rem (z := z) hm1 (fun k => hA 142 k (by decide))).1 d hd, v_137, m_bind_some o4]
      rfl
    · exact deed_fin hab hRo hT hN hP hI hB hX (fun a k h1 _ => o3 a k h1) o2 (fun a k h1 _ => o6 a k h1) o5 (ok_send hok hD hc) hS.1 (by rw [o3 _ _ (by decide), crem_o p2 (by decide)]; exact hS.2.1) (by rw [o6 _ _ (by decide), mrem_o (by decide) (by decide), hA _ _ (by decide)]; exact hS.2.2)
theorem pr_mix (L : Nat) (xs : Nat → Int32) (hL : L ≤ 192) (x y : Int32) : Pr L xs (pX9_mix 3 x y) (pX10_mix 137 x y) := by
  intro ra rb I hR
  have hR0 := hR
  obtain ⟨C, D, v, kd, hm, pt, q, hab, hRo, hT, hN, ⟨z, nx, hP⟩, hI, hB, ⟨ch, hS⟩, hX⟩ := hR
  have hD : D ≤ 8 := hRo.2.2.1
  have hr := hab.rl
  have r7 := hRo.2.2.2.2.2.2.1
  have r8 := hRo.2.2.2.2.2.2.2.1
  have unk : ∀ {x : Int32}, (x < 0 ∨ nI D ≤ x) → ∃ (r : Int32) (ra1 rb1 : Nat) (I1 I2 : cM), pX9_mix 3 x y (hp ra rb L I) = some (r, hp ra1 rb1 L I1) ∧ I1 2 = xs ∧ pX10_mix 137 x y (hp ra1 rb1 L I1) = some (r, hp ra1 rb1 L I2) ∧ Rel ra1 rb1 xs I2 := by
    intro x h
    refine ⟨-1000000001, ra, rb, I, I, ?_, hX.2.2, ?_, hR0⟩
    · rw [pX9_mix, g_3_7, rv hr, m_bind_some (q_hasDoll_f hr r7 h)]
      rfl
    · rw [pX10_mix, v_137, m_bind_some (q_isDoll_f r8 h hD)]
      rfl
  have unk2 : ∀ {d : Nat} {y : Int32}, d < D → (y < 0 ∨ nI D ≤ y) → ∃ (r : Int32) (ra1 rb1 : Nat) (I1 I2 : cM), pX9_mix 3 (nI d) y (hp ra rb L I) = some (r, hp ra1 rb1 L I1) ∧ I1 2 = xs ∧ pX10_mix 137 (nI d) y (hp ra1 rb1 L I1) = some (r, hp ra1 rb1 L I2) ∧ Rel ra1 rb1 xs I2 := by
    intro d y hd h
    refine ⟨-1000000001, ra, rb, I, I, ?_, hX.2.2, ?_, hR0⟩
    · rw [pX9_mix, g_3_7, rv hr, m_bind_some (q_hasDoll_t hr r7 hd hD), if_neg ne10, g_3_7, rv hr, m_bind_some (q_hasDoll_f hr r7 h)]
      rfl
    · rw [pX10_mix, v_137, m_bind_some (q_isDoll_t r8 hd hD), if_neg ne10, v_137, m_bind_some (q_isDoll_f r8 h hD)]
      rfl
  rcases pk_ix x (n := D) (by omega) with h | h | ⟨d, hd, rfl⟩
  · exact unk (Or.inl h)
  · exact unk (Or.inr h)
  rcases pk_ix y (n := D) (by omega) with h | h | ⟨c, hc, rfl⟩
  · exact unk2 hd (Or.inl h)
  · exact unk2 hd (Or.inr h)
  obtain ⟨t, s, w, e, u, yy, au, he, hc1, hm1, hok⟩ := scn_to hN
  obtain ⟨p1, p2, p3, p4, p5, -⟩ := id hP
  by_cases heq : d = c
  · subst heq
    refine ⟨-1000000001, ra, rb, I, I, ?_, hX.2.2, ?_, hR0⟩
    · rw [pX9_mix, g_3_7, rv hr, m_bind_some (q_hasDoll_t hr r7 hd hD), if_neg ne10, g_3_7, rv hr, m_bind_some (q_hasDoll_t hr r7 hc hD), if_neg ne10, if_pos rfl]
      rfl
    · rw [pX10_mix, v_137, m_bind_some (q_isDoll_t r8 hd hD), if_neg ne10, v_137, m_bind_some (q_isDoll_t r8 hc hD), if_neg ne10, if_pos rfl]
      rfl
  · have hne : ¬ nI d = nI c := fun h => heq ((nI_eq (by omega) (by omega)).mp h)
    obtain ⟨A, o1, o2, o3⟩ := op_exchange (ra := ra) (rb := rb) (L := L) (cn_rem (z := z) hc1 p2) hd hc heq hD
    have hA : ∀ a k, 136 < a → A a k = I a k := fun a k h => by rw [o3 a k (by omega), crem_o p2 (by omega)]
    obtain ⟨B, o4, o5, o6⟩ := mo_mix (ra := ra) (rb := rb) (L := L) (mn_rem (z := z) hm1 (fun k => hA 142 k (by decide))) hd hc heq hD
    refine ⟨nI (up1 (up1 t d (t c)) c (t d) d), ra, rb, A, B, ?_, ?_, ?_, ?_⟩
    · rw [pX9_mix, g_3_7, rv hr, m_bind_some (q_hasDoll_t hr r7 hd hD), if_neg ne10, g_3_7, rv hr, m_bind_some (q_hasDoll_t hr r7 hc hD), if_neg ne10, if_neg hne, g_3_2, g_3_1, v_11, m_bind_some (q_remember p3 p4 p2 p1), g_3_1, sv sn_6, m_bind_some o1, g_3_1, sg_0 sn_6, sl_1 sn_6 (by omega), o2.1 d hd]
      rfl
    · funext k
      rw [o3 _ _ (by decide), crem_o p2 (by decide)]
      exact congrFun hX.2.2 k
    · rw [pX10_mix, v_137, m_bind_some (q_isDoll_t (by rw [hA _ _ (by decide)]; exact r8) hd hD), if_neg ne10, v_137, m_bind_some (q_isDoll_t (by rw [hA _ _ (by decide)]; exact r8) hc hD), if_neg ne10, if_neg hne, v_137, m_bind_some (q_mrem (by rw [hA _ _ (by decide)]; exact p5) p1), v_137, m_bind_some o4, g_137_8, l_142 (by omega), o5.1 d hd]
      rfl
    · refine deed_fin hab hRo hT hN hP hI hB hX (fun a k h1 _ => o3 a k h1) o2 (fun a k h1 _ => o6 a k h1) o5 (ok_send (ok_send hok hD (hok.1 c hc).1) hD (hok.1 d hd).1) hS.1 (by rw [o3 _ _ (by decide), crem_o p2 (by decide)]; exact hS.2.1) (by rw [o6 _ _ (by decide), mrem_o (by decide) (by decide), hA _ _ (by decide)]; exact hS.2.2)
theorem pr_mask (L : Nat) (xs : Nat → Int32) (hL : L ≤ 192) (x y : Int32) : Pr L xs (pX9_mask 3 x y) (pX10_mask 137 x y) := by
  intro ra rb I hR
  have hR0 := hR
  obtain ⟨C, D, v, kd, hm, pt, q, hab, hRo, hT, hN, ⟨z, nx, hP⟩, hI, hB, ⟨ch, hS⟩, hX⟩ := hR
  have hD : D ≤ 8 := hRo.2.2.1
  have hr := hab.rl
  have r7 := hRo.2.2.2.2.2.2.1
  have r8 := hRo.2.2.2.2.2.2.2.1
  have unk : ∀ {x : Int32}, (x < 0 ∨ nI D ≤ x) → ∃ (r : Int32) (ra1 rb1 : Nat) (I1 I2 : cM), pX9_mask 3 x y (hp ra rb L I) = some (r, hp ra1 rb1 L I1) ∧ I1 2 = xs ∧ pX10_mask 137 x y (hp ra1 rb1 L I1) = some (r, hp ra1 rb1 L I2) ∧ Rel ra1 rb1 xs I2 := by
    intro x h
    refine ⟨-1000000001, ra, rb, I, I, ?_, hX.2.2, ?_, hR0⟩
    · rw [pX9_mask, g_3_7, rv hr, m_bind_some (q_hasDoll_f hr r7 h)]
      rfl
    · rw [pX10_mask, v_137, m_bind_some (q_isDoll_f r8 h hD)]
      rfl
  rcases pk_ix x (n := D) (by omega) with h | h | ⟨d, hd, rfl⟩
  · exact unk (Or.inl h)
  · exact unk (Or.inr h)
  have e17 : (17 : Int32) + nI d = nI (17 + d) := nI_add 17 d
  by_cases h0 : y < 0
  · have i0 : pX10_in y.toInt64 0 63 (hp ra rb L I) = some (0, hp ra rb L I) := c_in_f (a := 0) (b := 63) (Or.inl h0)
    refine ⟨-1000000002, ra, rb, I, I, ?_, hX.2.2, ?_, hR0⟩
    · rw [pX9_mask, g_3_7, rv hr, m_bind_some (q_hasDoll_t hr r7 hd hD), if_neg ne10, if_pos h0]
      rfl
    · rw [pX10_mask, v_137, m_bind_some (q_isDoll_t r8 hd hD), if_neg ne10, m_bind_some i0]
      rfl
  by_cases h6 : y ≤ 63
  · obtain ⟨c, hc, rfl⟩ := nI_of2 (M := 63) (n := 63) (by decide) h0 h6
    obtain ⟨t, s, w, e, u, yy, au, he, hc1, hm1, hok⟩ := scn_to hN
    obtain ⟨p1, p2, p3, p4, p5, -⟩ := id hP
    have cA := cn_rem (z := z) hc1 p2
    obtain ⟨a1, a2, a3, a4, a5, a6, a7, a8⟩ := id cA
    have o2 : CN (u2 (crem I nx z) (6 + 2) d (nI c)) D t (up1 s d c) w e u yy au he := by
      refine ⟨fun j hj => ?_, fun j hj => ?_, fun j hj => ?_, fun j hj => ?_, ?_, ?_, ?_, ?_⟩
      · rw [u2_na _ _ (by decide)]; exact a1 j hj
      · unfold up1
        by_cases hjd : j = d
        · rw [if_pos hjd, hjd, u2_s]
        · rw [if_neg hjd, u2_nk _ _ hjd]; exact a2 j hj
      · rw [u2_na _ _ (by decide)]; exact a3 j hj
      · rw [u2_na _ _ (by decide)]; exact a4 j hj
      · rw [u2_na _ _ (by decide)]; exact a5
      · rw [u2_na _ _ (by decide)]; exact a6
      · rw [u2_na _ _ (by decide)]; exact a7
      · rw [u2_na _ _ (by decide)]; exact a8
    obtain ⟨A, hAe⟩ : ∃ A, A = u2 (crem I nx z) (6 + 2) d (nI c) := ⟨_, rfl⟩
    rw [← hAe] at o2
    have o3 : ∀ a k, (a < 6 ∨ 10 < a) → A a k = crem I nx z a k := fun a k h => by rw [hAe, u2_na _ _ (by omega)]
    have hA : ∀ a k, 136 < a → A a k = I a k := fun a k h => by rw [o3 a k (by omega), crem_o p2 (by omega)]
    have mA := mn_rem (z := z) hm1 (fun k => hA 142 k (by decide))
    obtain ⟨b1, b2, b3, b4, b5, b6, b7, b8⟩ := id mA
    have o5 : MN (u2 (mrem A z) 142 (17 + d) (nI c)) D t (up1 s d c) w e u yy au he := by
      refine ⟨fun j hj => ?_, fun j hj => ?_, fun j hj => ?_, fun j hj => ?_, ?_, ?_, ?_, ?_⟩
      · rw [u2_nk _ _ (by omega)]; exact b1 j hj
      · unfold up1
        by_cases hjd : j = d
        · rw [if_pos hjd, hjd, u2_s]
        · rw [if_neg hjd, u2_nk _ _ (by omega)]; exact b2 j hj
      · rw [u2_nk _ _ (by omega)]; exact b3 j hj
      · rw [u2_nk _ _ (by omega)]; exact b4 j hj
      · rw [u2_nk _ _ (by omega)]; exact b5
      · rw [u2_nk _ _ (by omega)]; exact b6
      · rw [u2_nk _ _ (by omega)]; exact b7
      · rw [u2_nk _ _ (by omega)]; exact b8
    have i1 : pX10_in (nI c).toInt64 0 63 (hp ra rb L A) = some (1, hp ra rb L A) := c_in_t (a := 0) (b := 63) (Int32.not_lt.mp h0) h6
    refine ⟨nI (s d), ra, rb, A, u2 (mrem A z) 142 (17 + d) (nI c), ?_, ?_, ?_, ?_⟩
    · rw [pX9_mask, g_3_7, rv hr, m_bind_some (q_hasDoll_t hr r7 hd hD), if_neg ne10, if_neg h0, if_pos h6, g_3_2, g_3_1, v_11, m_bind_some (q_remember p3 p4 p2 p1), g_3_1, sg_1 sn_6, sl_2 sn_6 (by omega), a2 d hd, g_3_1, sg_1 sn_6, ss_2 sn_6 (by omega), hAe]
      rfl
    · funext k
      rw [o3 _ _ (by decide), crem_o p2 (by decide)]
      exact congrFun hX.2.2 k
    · rw [pX10_mask, v_137, m_bind_some (q_isDoll_t (by rw [hA _ _ (by decide)]; exact r8) hd hD), if_neg ne10, m_bind_some i1, if_neg ne10, v_137, m_bind_some (q_mrem (by rw [hA _ _ (by decide)]; exact p5) p1), g_137_8, e17, l_142 (by omega), b2 d hd, g_137_8, s_142 (by omega)]
      rfl
    · refine deed_fin hab hRo hT hN hP hI hB hX (fun a k h1 _ => o3 a k h1) o2 (fun a k h1 _ => u2_na _ _ h1) o5 ⟨fun j hj => ?_, hok.2⟩ hS.1 (by rw [o3 _ _ (by decide), crem_o p2 (by decide)]; exact hS.2.1) (by rw [u2_na _ _ (by decide), mrem_o (by decide) (by decide), hA _ _ (by decide)]; exact hS.2.2)
      obtain ⟨k1, k2, k3⟩ := hok.1 j hj
      refine ⟨k1, ?_, k3⟩
      unfold up1
      by_cases hjd : j = d
      · rw [if_pos hjd]; omega
      · rw [if_neg hjd]; exact k2
  · have i0 : pX10_in y.toInt64 0 63 (hp ra rb L I) = some (0, hp ra rb L I) := c_in_f (a := 0) (b := 63) (Or.inr (Int32.not_le.mp h6))
    refine ⟨-1000000002, ra, rb, I, I, ?_, hX.2.2, ?_, hR0⟩
    · rw [pX9_mask, g_3_7, rv hr, m_bind_some (q_hasDoll_t hr r7 hd hD), if_neg ne10, if_neg h0, if_neg h6]
      rfl
    · rw [pX10_mask, v_137, m_bind_some (q_isDoll_t r8 hd hD), if_neg ne10, m_bind_some i0]
      rfl
