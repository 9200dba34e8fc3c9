/-! pair undo -/
def gtf (p q : Nat → Int32) (z j : Nat) : Nat → Int32 := fun k => if k < j then q (z + k) else p k
theorem gtf_0 (p q : Nat → Int32) (z : Nat) : gtf p q z 0 = p := by
  funext k
  unfold gtf
  rw [if_neg (by omega)]
theorem gtf_s (p q : Nat → Int32) (z j : Nat) : upd (gtf p q z j) j (q (z + j)) = gtf p q z (j + 1) := by
  funext k
  unfold upd gtf
  by_cases hk : k = j
  · rw [if_pos hk, if_pos (by omega), hk]
  · rw [if_neg hk]
    by_cases h9 : k < j
    · rw [if_pos h9, if_pos (by omega)]
    · rw [if_neg h9, if_neg (by omega)]
theorem undo_loop {ra rb L z : Nat} {J : cM} {p : Nat → Int32} {K : Nat → MM Int32} (hz : J 137 25 = nI z) (hz15 : z ≤ 15) : ∀ (n j : Nat), j ≤ 36 → 36 < j + n → fX10_undo_22 K n 137 (nI j) (hp ra rb L (u1 J 142 (gtf p (J 148) (36 * z) j))) = K 137 (hp ra rb L (u1 J 142 (gtf p (J 148) (36 * z) 36))) := by
  intro n
  induction n with
  | zero =>
    intro j h2 h3
    omega
  | succ n ih =>
    intro j h2 h3
    rw [fX10_undo_22]
    by_cases hj : j < 36
    · have e36 : (36 : Int32) * nI z + nI j = nI (36 * z + j) := by
        rw [show (36 : Int32) * nI z = nI (36 * z) from pk_mul 36 z, nI_add]
      rw [if_neg (show ¬ (36 : Int32) ≤ nI j from nI_ge (b := 36) hj (by decide)), g_137_8, g_137_26, g_137_25, u1_n _ _ (show (137 : Nat) ≠ 142 by decide), hz, e36, l_148 (by omega), u1_n _ _ (show (148 : Nat) ≠ 142 by decide), s_142 (by omega), u2_u1, gtf_s]
      unfold m_let
      rw [nI_1]
      exact ih (j + 1) (by omega) (by omega)
    · have : j = 36 := by omega
      subst this
      rw [if_pos (by decide)]
theorem pr_undo (L : Nat) (xs : Nat → Int32) (hL : L ≤ 192) : Pr L xs (pX9_undo 3) (pX10_undo 137) := by
  intro ra rb I hR
  have hR0 := hR
  obtain ⟨C, D, v, kd, hm, pt, q, hab, hRo, hT, hN, ⟨z, nx, hP⟩, hI, hB, ⟨ch, hS⟩, hX⟩ := hR
  have hD : D ≤ 8 := hRo.2.2.1
  have hra : ra = 113 ∨ ra = 119 := by rcases hab with h | h <;> omega
  obtain ⟨p1, p2, p3, p4, p5, p6⟩ := id hP
  by_cases h0 : z = 0
  · refine ⟨-1000000003, ra, rb, I, I, ?_, hX.2.2, ?_, hR0⟩
    · rw [pX9_undo, g_3_2, g_11_2, p4, h0, if_pos (show nI 0 = 0 from rfl)]
      rfl
    · rw [pX10_undo, g_137_25, p5, h0, if_pos (show nI 0 = 0 from rfl)]
      rfl
  · have hz0 : ¬ nI z = 0 := nI_ne0 (by omega) (by omega)
    obtain ⟨n9, hn9⟩ : ∃ n9, n9 = (nx + 15) % 16 := ⟨_, rfl⟩
    have hn16 : n9 < 16 := by omega
    obtain ⟨A, hA⟩ : ∃ A, A = u2 (cps (u2 I 11 1 (nI n9)) 6 (13 + 5 * n9)) 11 2 (nI (z - 1)) := ⟨_, rfl⟩
    have ec : pX3_recall 11 6 (hp ra rb L I) = some ((), hp ra rb L A) := by
      have em : (nI nx + 16 - 1) - (nI nx + 16 - 1) / 16 * 16 = nI n9 := by
        have e1 : nI nx + 16 - 1 = nI (nx + 15) := by
          rw [show nI nx + 16 = nI (nx + 16) from nI_add nx 16]
          exact pk_sub (a := nx + 16) (b := 1) (by omega)
        rw [e1, hn9]
        exact nI_mod (d := 16) (by omega) (by decide) (by decide)
      rw [pX3_recall, g_11_1, p3]
      unfold m_nz
      rw [if_neg (by decide), em, p_11_1, g_11_0, g_11_1, u2_s, r_12 hn16, sv sn_6, m_bind_some (q_copyFrom (sn_p hn16) sn_6 (by omega)), g_11_2, cps_o (by decide), u2_nk _ _ (by decide), p4, p_11_2]
      have ez : c_mx (nI z - 1) 0 = nI (z - 1) := by
        rw [show nI z - 1 = nI (z - 1) from pk_sub (b := 1) (by omega)]
        have := c_mx_n (a := z - 1) (b := 0) (by omega) (by decide)
        rw [Nat.max_eq_left (by omega)] at this
        exact this
      rw [ez, hA]
      rfl
    have fA : ∀ a k, (a < 6 ∨ 11 < a) → A a k = I a k := fun a k h => by rw [hA, u2_na _ _ (by omega), cps_o (by omega), u2_na _ _ (by omega)]
    obtain ⟨J, hJ⟩ : ∃ J, J = u2 A 137 25 (nI (z - 1)) := ⟨_, rfl⟩
    obtain ⟨B, hB9⟩ : ∃ B, B = u1 J 142 (gtf (J 142) (J 148) (36 * (z - 1)) 36) := ⟨_, rfl⟩
    have fB : ∀ a k, a ≠ 142 → B a k = J a k := fun a k h => by rw [hB9, u1_n _ _ h]
    have fJ : ∀ a k, ¬ (a = 137 ∧ k = 25) → J a k = A a k := fun a k h => by rw [hJ, u2_n _ _ h]
    obtain ⟨bd, bb⟩ : Bool × Bool := (true, true)
    refine ⟨nI (z - 1), ra, rb, A, B, ?_, ?_, ?_, ?_⟩
    · rw [pX9_undo, g_3_2, g_11_2, p4, if_neg hz0, g_3_2, g_3_1, v_11, m_bind_some ec, g_3_2, g_11_2, hA, u2_s]
      rfl
    · funext k
      rw [fA _ _ (by decide)]
      exact congrFun hX.2.2 k
    · have hA25 : A 137 25 = nI z := by rw [fA _ _ (by decide)]; exact p5
      have h := undo_loop (ra := ra) (rb := rb) (L := L) (J := J) (p := J 142) (K := fX10_undo_54) (z := z - 1) (by rw [hJ, u2_s]) (by omega) c_fu 0 (by decide) (by show 36 < 0 + 1000; decide)
      rw [gtf_0, u1_id, ← hB9] at h
      rw [pX10_undo, g_137_25, hA25, if_neg hz0, g_137_25, hA25, show nI z - 1 = nI (z - 1) from pk_sub (b := 1) (by omega), p_137_25, ← hJ]
      show fX10_undo_22 fX10_undo_54 c_fu 137 (nI 0) (hp ra rb L J) = _
      rw [h, fX10_undo_54, g_137_25, fB _ _ (by decide), hJ, u2_s]
      rfl
    · -- the relation
      obtain ⟨T, tx, hT⟩ := hT
      obtain ⟨z2, bd2, bc, hB⟩ := hB
      have fI : ∀ a k, (a < 6 ∨ 11 < a) → a ≠ 142 → ¬ (a = 137 ∧ k = 25) → B a k = I a k := fun a k h1 h2 h3 => by rw [fB _ _ h2, fJ _ _ h3, fA _ _ h1]
      have fI2 : Ag (fun a k => (a < 6 ∨ 11 < a) ∧ a ≠ 142 ∧ ¬ (a = 137 ∧ k = 25)) B I := fun a k h => fI a k h.1 h.2.1 h.2.2
      obtain ⟨t, s, w, e, u, y, hS0⟩ := p6 0 (by omega)
      obtain ⟨n1, n2, n3, n4, n5, n6, n7, n8, n9', n10, n11, n12⟩ := hS0
      have eb : (nx + 15 - 0) % 16 = n9 := by rw [hn9, Nat.sub_zero]
      rw [eb] at n1 n2 n3 n4 n6 n9' n11 n12
      have ez : z - 1 - 0 = z - 1 := rfl
      rw [ez] at n1 n2 n3 n4 n7 n10 n11 n12
      have cB : ∀ i k, 1 ≤ i → i ≤ 4 → k < 8 → B (6 + i) k = I (13 + 5 * n9 + i) k := by
        intro i k h1 h2 h3
        rw [fB _ _ (by omega), fJ _ _ (by omega), hA, u2_na _ _ (by omega), cps_r h1 h2 h3, u2_na _ _ (by omega)]
      have cF : ∀ k, 4 ≤ k → k < 8 → B 6 k = I (13 + 5 * n9) k := by
        intro k h1 h2
        rw [fB _ _ (by omega), fJ _ _ (by omega), hA, u2_na _ _ (by omega), cps_f h1 h2, u2_na _ _ (by omega)]
      have mB : ∀ k, k < 36 → B 142 k = I 148 (36 * (z - 1) + k) := by
        intro k hk
        rw [hB9, u1_s]
        unfold gtf
        rw [if_pos hk, fJ _ _ (by omega), fA _ _ (by decide)]
      refine ⟨C, D, v, kd, hm, pt, q, hab, hRo.fr (fI2.m fun a k h => ?_), ⟨T, tx, hT.fr (fI2.m fun a k h => ?_)⟩, ⟨t, s, w, e, u, y, ?_⟩, ⟨z - 1, n9, ?_⟩, hI.fr hD (fI2.m fun a k h => ?_), ⟨z2, bd2, bc, hB.fr (fI2.m fun a k h => ?_)⟩, ⟨ch, hS.fr (fI2.m fun a k h => ?_)⟩, hX.fr (fI2.m fun a k h => ?_)⟩
      · unfold fRol at h; omega
      · unfold fTxt at h; omega
      · unfold SC
        simp only [Nat.zero_add]
        refine ⟨fun d hd => ?_, fun d hd => ?_, fun d hd => ?_, fun d hd => ?_, n5, ?_, ?_, n8, ?_, ?_, ?_, ?_⟩
        · rw [cB 1 d (by decide) (by decide) (by omega), mB d (by omega)]; exact n1 d hd
        · rw [cB 2 d (by decide) (by decide) (by omega), mB _ (by omega)]; exact n2 d hd
        · rw [cB 3 d (by decide) (by decide) (by omega), mB _ (by omega)]; exact n3 d hd
        · rw [cB 4 d (by decide) (by decide) (by omega), mB _ (by omega)]; exact n4 d hd
        · rw [cF 4 (by decide) (by decide)]; exact n6
        · rw [mB 8 (by decide)]; exact n7
        · rw [cF 5 (by decide) (by decide)]; exact n9'
        · rw [mB 33 (by decide)]; exact n10
        · rw [cF 6 (by decide) (by decide), mB 34 (by decide)]; exact n11
        · rw [cF 7 (by decide) (by decide), mB 35 (by decide)]; exact n12
      · refine ⟨by omega, hn16, ?_, ?_, ?_, fun i hi => ?_⟩
        · rw [fB _ _ (by decide), fJ _ _ (by decide), hA, u2_nk _ _ (by decide), cps_o (by decide), u2_s]
        · rw [fB _ _ (by decide), fJ _ _ (by decide), hA, u2_s]
        · rw [fB _ _ (by decide), hJ, u2_s]
        · have hp6 := p6 (i + 1) (by omega)
          have e1 : (nx + 15 - (i + 1)) % 16 = (n9 + 15 - i) % 16 := by omega
          have e2 : z - 1 - (i + 1) = z - 1 - 1 - i := by omega
          rw [e1, e2] at hp6
          refine hp6.fr hD (fun a k hf => fI a k ?_ ?_ ?_)
          · unfold fScn at hf; omega
          · unfold fScn at hf
            have : (n9 + 15 - i) % 16 < 16 := Nat.mod_lt _ (by decide)
            omega
          · unfold fScn at hf
            have : (n9 + 15 - i) % 16 < 16 := Nat.mod_lt _ (by decide)
            omega
      · unfold fImg at h; omega
      · unfold fBok at h; omega
      · unfold fSed at h; omega
      · unfold fSta at h; omega
