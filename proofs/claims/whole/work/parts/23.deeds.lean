/-! deeds: what is remembered, then the scene changes -/
def fDeed (a k : Nat) : Prop := (a < 6 ∨ 92 < a) ∧ a ≠ 142 ∧ a ≠ 148 ∧ ¬ (a = 137 ∧ (k = 25 ∨ k = 9)) ∧ ¬ (a = 3 ∧ k = 9)
theorem rel_deed {ra rb : Nat} {xs : Nat → Int32} {I J : cM} {C D : Nat} {v kd hm : Nat → Nat} {pt q z nx : Nat} (hab : Ab ra rb) (hRo : Rol I ra C D v kd hm pt q) (hT : ∃ T tx, Txt I T tx) (hN : Scn I C D 6 142 0) (hP : Pst I C D z nx) (hI : Img I C D) (hB : ∃ z bd bc, Bok I C D z bd bc) (hX : Sta I xs)
    (hfr : Ag fDeed J I) (h1 : ∀ a k, 11 ≤ a → a ≤ 92 → J a k = crem I nx z a k) (h2 : J 148 = mpast I z) (h3 : J 137 25 = nI (min (z + 1) 16)) (hN' : Scn J C D 6 142 0) (hS' : ∃ ch, Sed J ch) : Rel ra rb xs J := by
  have hD : D ≤ 8 := hRo.2.2.1
  have hra : ra = 113 ∨ ra = 119 := by rcases hab with h | h <;> omega
  obtain ⟨T, tx, hT⟩ := hT
  obtain ⟨z2, bd, bc, hB⟩ := hB
  refine ⟨C, D, v, kd, hm, pt, q, hab, hRo.fr (hfr.m fun a k h => ?_), ⟨T, tx, hT.fr (hfr.m fun a k h => ?_)⟩, hN', ⟨_, _, pst_rem hD hP hN h1 h2 h3⟩, hI.fr hD (hfr.m fun a k h => ?_), ⟨z2, bd, bc, hB.fr (hfr.m fun a k h => ?_)⟩, hS', hX.fr (hfr.m fun a k h => ?_)⟩
  · unfold fRol at h; unfold fDeed; omega
  · unfold fTxt at h; unfold fDeed; omega
  · unfold fImg at h; unfold fDeed; omega
  · unfold fBok at h; unfold fDeed; omega
  · unfold fSta at h; unfold fDeed; omega
theorem sh_s : ∀ n, n < 31 → ((nI n &&& 31).toBitVec.smod 32).toNat = n := by decide
theorem sh1 {d : Nat} (hd : d < 31) : (1 : Int32) <<< (nI d &&& 31) = nI (2 ^ d) := by
  have h := pk_shlN (n := 1) (nI d &&& 31) d (sh_s d hd) (by
    have : 2 ^ d ≤ 2 ^ 30 := Nat.pow_le_pow_right (by decide) (by omega)
    omega)
  rw [Nat.one_mul] at h
  exact h
theorem and_n {u : Nat} (hu : u < 2 ^ 31) (m : Int32) : ∃ u', u' ≤ u ∧ nI u &&& m = nI u' := by
  refine ⟨(nI u &&& m).toBitVec.toNat, ?_, ?_⟩
  · show ((nI u).toBitVec &&& m.toBitVec).toNat ≤ u
    rw [BitVec.toNat_and, pk_tn (by omega)]
    exact Nat.and_le_left
  · apply Int32.toBitVec_inj.mp
    show _ = BitVec.ofNat 32 _
    rw [BitVec.ofNat_toNat]
    simp
theorem or_n (a b : Nat) : nI a ||| nI b = nI (a ||| b) := by
  apply Int32.toBitVec_inj.mp
  show BitVec.ofNat 32 a ||| BitVec.ofNat 32 b = BitVec.ofNat 32 (a ||| b)
  rw [BitVec.ofNat_or]
theorem raise_n {u d D : Nat} (hd : d < D) (hD : D ≤ 8) (hu : u < 2 ^ D) : ∃ u', u' < 2 ^ D ∧ nI u ||| ((1 : Int32) <<< (nI d &&& 31)) = nI u' := by
  refine ⟨u ||| 2 ^ d, Nat.or_lt_two_pow hu (Nat.pow_lt_pow_right (by decide) hd), ?_⟩
  rw [sh1 (by omega), or_n]
theorem lay_n {u d D : Nat} (hD : D ≤ 8) (hu : u < 2 ^ D) : ∃ u', u' < 2 ^ D ∧ nI u &&& (((1 : Int32) <<< (nI d &&& 31)) ^^^ (-1)) = nI u' := by
  have : 2 ^ D ≤ 2 ^ 8 := Nat.pow_le_pow_right (by decide) hD
  obtain ⟨u', h1, h2⟩ := and_n (u := u) (by omega) (((1 : Int32) <<< (nI d &&& 31)) ^^^ (-1))
  exact ⟨u', by omega, h2⟩
theorem q_has {σ : cH} (x k : Int32) : pX10_has x k σ = some ((x >>> (k &&& 31)) &&& 1, σ) := by
  rw [pX10_has]
  rcases b01 (x >>> (k &&& 31)) with e | e
  · rw [e, if_neg (by decide)]
    rfl
  · rw [e, if_pos rfl]
    rfl
theorem pr_lay (L : Nat) (xs : Nat → Int32) (hL : L ≤ 192) (x y : Int32) (hy : y = 0 ∨ y = 1) : Pr L xs (pX9_lay 3 x y) (pX10_lay 137 x y) := by
  intro ra rb I hR
  have hR0 := hR
  obtain ⟨C, D, v, kd, hm, pt, q, hab, hRo, hT, hN, ⟨z, nx, hP⟩, hI, hB, ⟨ch, hS⟩, hX⟩ := hR
  have hD : D ≤ 8 := hRo.2.2.1
  have hr := hab.rl
  have r7 := hRo.2.2.2.2.2.2.1
  have r8 := hRo.2.2.2.2.2.2.2.1
  have unk : ∀ {x : Int32}, (x < 0 ∨ nI D ≤ x) → ∃ (r : Int32) (ra1 rb1 : Nat) (I1 I2 : cM), pX9_lay 3 x y (hp ra rb L I) = some (r, hp ra1 rb1 L I1) ∧ I1 2 = xs ∧ pX10_lay 137 x y (hp ra1 rb1 L I1) = some (r, hp ra1 rb1 L I2) ∧ Rel ra1 rb1 xs I2 := by
    intro x h
    refine ⟨-1000000001, ra, rb, I, I, ?_, hX.2.2, ?_, hR0⟩
    · rw [pX9_lay, g_3_7, rv hr, m_bind_some (q_hasDoll_f hr r7 h)]
      rfl
    · rw [pX10_lay, v_137, m_bind_some (q_isDoll_f r8 h hD)]
      rfl
  rcases pk_ix x (n := D) (by omega) with h | h | ⟨d, hd, rfl⟩
  · exact unk (Or.inl h)
  · exact unk (Or.inr h)
  obtain ⟨p1, p2, p3, p4, p5, -⟩ := id hP
  obtain ⟨t, s, w, e, u, yy, hSC⟩ := id hN
  obtain ⟨n1, n2, n3, n4, n5, n6, n7, n8, n9, n10, n11, n12⟩ := hSC.z
  -- the new set of those who sit
  obtain ⟨u', hu', eu⟩ : ∃ u', u' < 2 ^ D ∧ (if y = 0 then nI u ||| ((1 : Int32) <<< (nI d &&& 31)) else nI u &&& (((1 : Int32) <<< (nI d &&& 31)) ^^^ (-1))) = nI u' := by
    by_cases h0 : y = 0
    · rw [if_pos h0]
      exact raise_n hd hD n5
    · rw [if_neg h0]
      exact lay_n hD n5
  have c6 : crem I nx z 6 4 = nI u := by rw [crem_o p2 (by omega)]; exact n6
  have body : ∀ r : Int32, fX9_lay_41 3 (nI d) y r (hp ra rb L (crem I nx z)) = some (r, hp ra rb L (u2 (crem I nx z) 6 4 (nI u'))) := by
    intro r
    rw [fX9_lay_41]
    by_cases h0 : y = 0
    · rw [if_pos h0] at eu
      rw [if_pos h0, g_3_1, sv sn_6]
      have : pX5_raise 6 (nI d) (hp ra rb L (crem I nx z)) = some ((), hp ra rb L (u2 (crem I nx z) 6 4 (nI u'))) := by
        rw [pX5_raise, sg_4 sn_6, c6, eu, sp_4 sn_6]
        rfl
      rw [m_bind_some this]
      rfl
    · rw [if_neg h0] at eu
      rw [if_neg h0, g_3_1, sv sn_6]
      have : pX5_layBack 6 (nI d) (hp ra rb L (crem I nx z)) = some ((), hp ra rb L (u2 (crem I nx z) 6 4 (nI u'))) := by
        rw [pX5_layBack, sg_4 sn_6, c6, eu, sp_4 sn_6]
        rfl
      rw [m_bind_some this]
      rfl
  obtain ⟨J, hJ⟩ : ∃ J, J = u2 (crem I nx z) 6 4 (nI u') := ⟨_, rfl⟩
  have j1 : ∀ a k, 136 < a → J a k = I a k := fun a k h => by rw [hJ, u2_na _ _ (by omega), crem_o p2 (by omega)]
  have bodyM : ∀ r : Int32, fX10_lay_34 137 (nI d) y r (hp ra rb L (mrem J z)) = some (r, hp ra rb L (u2 (mrem J z) 142 8 (nI u'))) := by
    intro r
    have e8 : (8 : Int32) = nI 8 := rfl
    have m8 : mrem J z 142 8 = nI u := by rw [mrem_o (by decide) (by decide), j1 _ _ (by decide)]; exact n7
    rw [fX10_lay_34, v_137]
    have : pX10_layNow 137 (nI d) y (hp ra rb L (mrem J z)) = some ((), hp ra rb L (u2 (mrem J z) 142 8 (nI u'))) := by
      rw [pX10_layNow, g_137_8]
      by_cases h0 : y = 0
      · rw [if_pos h0] at eu
        rw [if_pos h0, g_137_8, e8, l_142 (by decide), m8, fX10_layNow_37, eu, s_142 (by decide)]
        rfl
      · rw [if_neg h0] at eu
        rw [if_neg h0, g_137_8, e8, l_142 (by decide), m8, fX10_layNow_37, eu, s_142 (by decide)]
        rfl
    rw [m_bind_some this]
    rfl
  have hfin : Rel ra rb xs (u2 (mrem J z) 142 8 (nI u')) := by
    refine rel_deed hab hRo hT hN hP hI hB hX (J := u2 (mrem J z) 142 8 (nI u')) (fun a k hf => ?_) (fun a k h1 h2 => ?_) ?_ ?_ ?_ ⟨ch, hS.1, ?_, ?_⟩
    · unfold fDeed at hf
      rw [u2_na _ _ (by omega), mrem_o (by omega) (by omega), hJ, u2_na _ _ (by omega), crem_o p2 (by omega)]
    · rw [u2_na _ _ (by omega), mrem_o (by omega) (by omega), hJ, u2_na _ _ (by omega)]
    · rw [u2_rown _ _ _ (by decide)]
      unfold mrem
      rw [u2_rown _ _ _ (by decide), u1_s]
      unfold mpast
      have e1 : J 148 = I 148 := funext fun k => j1 _ _ (by decide)
      have e2 : J 142 = I 142 := funext fun k => j1 _ _ (by decide)
      rw [e1, e2]
    · rw [u2_na _ _ (by decide)]
      unfold mrem
      rw [u2_s]
    · have a1 : ∀ i k, 1 ≤ i → i ≤ 4 → u2 (mrem J z) 142 8 (nI u') (6 + i) k = I (6 + i) k := fun i k h1 h2 => by rw [u2_na _ _ (by omega), mrem_o (by omega) (by omega), hJ, u2_na _ _ (by omega), crem_o p2 (by omega)]
      have a2 : ∀ k, k ≠ 4 → u2 (mrem J z) 142 8 (nI u') 6 k = I 6 k := fun k h1 => by rw [u2_na _ _ (by omega), mrem_o (by omega) (by omega), hJ, u2_nk _ _ h1, crem_o p2 (by omega)]
      have a3 : ∀ k, k ≠ 8 → u2 (mrem J z) 142 8 (nI u') 142 k = I 142 k := fun k h1 => by rw [u2_nk _ _ h1, mrem_o (by omega) (by omega), j1 _ _ (by decide)]
      refine ⟨t, s, w, e, u', yy, ?_⟩
      unfold SC
      simp only [Nat.zero_add]
      refine ⟨fun d hd => ?_, fun d hd => ?_, fun d hd => ?_, fun d hd => ?_, hu', ?_, ?_, n8, ?_, ?_, ?_, ?_⟩
      · rw [a1 1 d (by decide) (by decide), a3 d (by omega)]; exact n1 d hd
      · rw [a1 2 d (by decide) (by decide), a3 _ (by omega)]; exact n2 d hd
      · rw [a1 3 d (by decide) (by decide), a3 _ (by omega)]; exact n3 d hd
      · rw [a1 4 d (by decide) (by decide), a3 _ (by omega)]; exact n4 d hd
      · rw [u2_na _ _ (by decide), mrem_o (by decide) (by decide), hJ, u2_s]
      · rw [u2_s]
      · rw [a2 5 (by decide)]; exact n9
      · rw [a3 33 (by decide)]; exact n10
      · rw [a2 6 (by decide), a3 34 (by decide)]; exact n11
      · rw [a2 7 (by decide), a3 35 (by decide)]; exact n12
    · rw [u2_na _ _ (by decide), mrem_o (by decide) (by decide), hJ, u2_na _ _ (by decide), crem_o p2 (by decide)]; exact hS.2.1
    · rw [u2_na _ _ (by decide), mrem_o (by decide) (by decide), j1 _ _ (by decide)]; exact hS.2.2
  have e8 : (8 : Int32) = nI 8 := rfl
  have hz25 : J 137 25 = nI z := by rw [j1 _ _ (by decide)]; exact p5
  have hmD : J 137 2 = nI D := by rw [j1 _ _ (by decide)]; exact r8
  refine ⟨if (nI u >>> (nI d &&& 31)) &&& 1 = 0 then 1 else 0, ra, rb, J, u2 (mrem J z) 142 8 (nI u'), ?_, ?_, ?_, hfin⟩
  · rw [pX9_lay, g_3_7, rv hr, m_bind_some (q_hasDoll_t hr r7 hd hD), if_neg ne10, g_3_2, g_3_1, v_11, m_bind_some (q_remember p3 p4 p2 p1), g_3_1, sv sn_6, m_bind_some (q_isUp sn_6 _), c6]
    by_cases hb : (nI u >>> (nI d &&& 31)) &&& 1 = 0
    · rw [if_pos hb, if_pos hb, body, hJ]
    · rw [if_neg hb, if_neg hb, body, hJ]
  · rw [hJ, u2_rown _ _ _ (by decide)]
    funext k
    rw [crem_o p2 (by decide)]
    exact congrFun hX.2.2 k
  · rw [pX10_lay, v_137, m_bind_some (q_isDoll_t hmD hd hD), if_neg ne10, v_137, m_bind_some (q_mrem hz25 p1), g_137_8, e8, l_142 (by decide), mrem_o (by decide) (by decide), j1 _ _ (by decide), n7, m_bind_some (q_has _ _)]
    by_cases hb : (nI u >>> (nI d &&& 31)) &&& 1 = 0
    · rw [if_pos hb, if_pos hb, bodyM]
    · rw [if_neg hb, if_neg hb, bodyM]
