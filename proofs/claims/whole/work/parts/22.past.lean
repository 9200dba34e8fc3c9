/-! copies of scenes; what is remembered -/
def cps (I : cM) (b a : Nat) : cM := fun x k => if x = b then (if 4 ≤ k ∧ k < 8 then I a k else I b k) else if b + 1 ≤ x ∧ x ≤ b + 4 then (if k < 8 then I (a + (x - b)) k else I x k) else I x k
theorem cps_o {I : cM} {b a x k : Nat} (h : x < b ∨ b + 4 < x) : cps I b a x k = I x k := by
  unfold cps
  rw [if_neg (by omega), if_neg (by omega)]
theorem cps_f {I : cM} {b a k : Nat} (h : 4 ≤ k) (h2 : k < 8) : cps I b a b k = I a k := by
  unfold cps
  rw [if_pos rfl, if_pos ⟨h, h2⟩]
theorem cps_r {I : cM} {b a i k : Nat} (h1 : 1 ≤ i) (h4 : i ≤ 4) (h : k < 8) : cps I b a (b + i) k = I (a + i) k := by
  unfold cps
  rw [if_neg (by omega), if_pos (by omega), if_pos h, Nat.add_sub_cancel_left]
theorem cpy8 (f g : Nat → Int32) (k : Nat) : va_cpy f g 0 0 8 k = if k < 8 then f k else g k := by
  unfold va_cpy
  by_cases h : k < 8
  · rw [if_pos (by omega), if_pos h]
    simp
  · rw [if_neg (by omega), if_neg h]
theorem q_copyFrom {ra rb L a b : Nat} {I : cM} (ha : c_sn a) (hb : c_sn b) (hd : b + 5 ≤ a ∨ a + 5 ≤ b) : pX5_copyFrom b a (hp ra rb L I) = some ((), hp ra rb L (cps I b a)) := by
  have cp : ∀ (i : Nat) (J : cM) (K : MM Unit), 1 ≤ i → i ≤ 4 → m_cp (a + i) (b + i) 8 K (hp ra rb L J) = K (hp ra rb L (u1 J (b + i) (va_cpy (J (a + i)) (J (b + i)) 0 0 8))) := by
    intro i J K h1 h4
    have sa := (ha.2.2 ra rb L).2 (i - 1) (by omega)
    have sb := (hb.2.2 ra rb L).2 (i - 1) (by omega)
    rw [show a + 1 + (i - 1) = a + i by omega] at sa
    rw [show b + 1 + (i - 1) = b + i by omega] at sb
    exact h_cp (by have := ha.1; omega) (by have := hb.1; omega) sa sb (by have := ha.2.1; omega) (by have := hb.2.1; omega) (by decide) (by decide) (by decide)
  rw [pX5_copyFrom, sg_0 ha, sg_0 hb, cp 1 _ _ (by decide) (by decide), sg_1 ha, sg_1 hb, cp 2 _ _ (by decide) (by decide), sg_2 ha, sg_2 hb, cp 3 _ _ (by decide) (by decide), sg_3 ha, sg_3 hb, cp 4 _ _ (by decide) (by decide), sg_4 ha, sp_4 hb, sg_5 ha, sp_5 hb, sg_6 ha, sp_6 hb, sg_7 ha, sp_7 hb]
  show some ((), hp ra rb L _) = _
  congr 3
  funext x k
  have n4 : ∀ {J : cM} {f : Nat → Int32} {i j : Nat}, i ≤ 4 → j ≤ 4 → u1 J (b + i) f (a + j) = J (a + j) := fun h1 h2 => u1_n _ _ (by omega)
  simp only [u2_na _ _ (show a ≠ b by omega)]
  by_cases hx : x = b
  · subst hx
    unfold cps
    rw [if_pos rfl]
    by_cases h7 : k = 7
    · subst h7
      rw [u2_s, if_pos (by decide), u1_n _ _ (by omega), u1_n _ _ (by omega), u1_n _ _ (by omega), u1_n _ _ (by omega)]
    rw [u2_nk _ _ h7]
    by_cases h6 : k = 6
    · subst h6
      rw [u2_s, if_pos (by decide), u1_n _ _ (by omega), u1_n _ _ (by omega), u1_n _ _ (by omega), u1_n _ _ (by omega)]
    rw [u2_nk _ _ h6]
    by_cases h5 : k = 5
    · subst h5
      rw [u2_s, if_pos (by decide), u1_n _ _ (by omega), u1_n _ _ (by omega), u1_n _ _ (by omega), u1_n _ _ (by omega)]
    rw [u2_nk _ _ h5]
    by_cases h4 : k = 4
    · subst h4
      rw [u2_s, if_pos (by decide), u1_n _ _ (by omega), u1_n _ _ (by omega), u1_n _ _ (by omega), u1_n _ _ (by omega)]
    rw [u2_nk _ _ h4, if_neg (by omega), u1_n _ _ (by omega), u1_n _ _ (by omega), u1_n _ _ (by omega), u1_n _ _ (by omega)]
  · rw [u2_na _ _ hx, u2_na _ _ hx, u2_na _ _ hx, u2_na _ _ hx]
    unfold cps
    rw [if_neg hx]
    by_cases h4 : x = b + 4
    · subst h4
      rw [u1_s, cpy8, if_pos (show b + 1 ≤ b + 4 ∧ b + 4 ≤ b + 4 by omega), Nat.add_sub_cancel_left]
      repeat rw [u1_n _ _ (by omega)]
    rw [u1_n _ _ h4]
    by_cases h3 : x = b + 3
    · subst h3
      rw [u1_s, cpy8, if_pos (show b + 1 ≤ b + 3 ∧ b + 3 ≤ b + 4 by omega), Nat.add_sub_cancel_left]
      repeat rw [u1_n _ _ (by omega)]
    rw [u1_n _ _ h3]
    by_cases h2 : x = b + 2
    · subst h2
      rw [u1_s, cpy8, if_pos (show b + 1 ≤ b + 2 ∧ b + 2 ≤ b + 4 by omega), Nat.add_sub_cancel_left]
      repeat rw [u1_n _ _ (by omega)]
    rw [u1_n _ _ h2]
    by_cases h1 : x = b + 1
    · subst h1
      rw [u1_s, cpy8, if_pos (show b + 1 ≤ b + 1 ∧ b + 1 ≤ b + 4 by omega), Nat.add_sub_cancel_left]
      repeat rw [u1_n _ _ (by omega)]
    rw [u1_n _ _ h1, if_neg (by omega)]
theorem c_mn_n {a b : Nat} (ha : a < 2 ^ 31) (hb : b < 2 ^ 31) : c_mn (nI a) (nI b) = nI (min a b) := by
  unfold c_mn
  by_cases h : b < a
  · rw [if_pos (nI_lt h ha), Nat.min_eq_right (by omega)]
  · rw [if_neg (nI_nlt (by omega) hb), Nat.min_eq_left (by omega)]
theorem c_mx_n {a b : Nat} (ha : a < 2 ^ 31) (hb : b < 2 ^ 31) : c_mx (nI a) (nI b) = nI (max a b) := by
  unfold c_mx
  by_cases h : a < b
  · rw [if_pos (nI_lt h hb), Nat.max_eq_right (by omega)]
  · rw [if_neg (nI_nlt (by omega) ha), Nat.max_eq_left (by omega)]
/-- the class remembers -/
def crem (I : cM) (nx z : Nat) : cM := u2 (u2 (cps I (13 + 5 * nx) 6) 11 1 (nI ((nx + 1) % 16))) 11 2 (nI (min (z + 1) 16))
theorem nI_mod {a d : Nat} (ha : a < 2 ^ 31) (h0 : 0 < d) (hd : d < 2 ^ 31) : nI a - nI a / nI d * nI d = nI (a % d) := pk_rem ha h0 hd
theorem q_remember {ra rb L nx z : Nat} {I : cM} (h1 : I 11 1 = nI nx) (h2 : I 11 2 = nI z) (hn : nx < 16) (hz : z ≤ 16) : pX3_remember 11 6 (hp ra rb L I) = some ((), hp ra rb L (crem I nx z)) := by
  rw [pX3_remember, g_11_0, g_11_1, h1, r_12 hn, sv (sn_p hn), m_bind_some (q_copyFrom sn_6 (sn_p hn) (by omega)), g_11_1, cps_o (by omega), h1]
  have em : (nI nx + 1) - (nI nx + 1) / 16 * 16 = nI ((nx + 1) % 16) := by
    rw [nI_1]
    exact nI_mod (d := 16) (by omega) (by decide) (by decide)
  unfold m_nz
  rw [if_neg (by decide), em, p_11_1, g_11_2, u2_nk _ _ (by decide), cps_o (by omega), h2, p_11_2]
  have ez : c_mn (nI z + 1) 16 = nI (min (z + 1) 16) := by
    rw [nI_1]
    exact c_mn_n (b := 16) (by omega) (by decide)
  rw [ez]
  rfl
theorem crem_o {I : cM} {nx z a k : Nat} (hn : nx < 16) (h : a < 11 ∨ 92 < a) : crem I nx z a k = I a k := by
  unfold crem
  rw [u2_na _ _ (by omega), u2_na _ _ (by omega), cps_o (by omega)]
/-- the model remembers -/
def mpast (I : cM) (z : Nat) : Nat → Int32 := if z = 16 then (fun k => if k < 540 then I 148 (k + 36) else if k < 576 then I 142 (k - 540) else I 148 k) else (fun k => if 36 * z ≤ k ∧ k < 36 * z + 36 then I 142 (k - 36 * z) else I 148 k)
def mrem (I : cM) (z : Nat) : cM := u2 (u1 I 148 (mpast I z)) 137 25 (nI (min (z + 1) 16))
theorem mrem_o {I : cM} {z a k : Nat} (h1 : a ≠ 148) (h2 : ¬ (a = 137 ∧ k = 25)) : mrem I z a k = I a k := by
  unfold mrem
  rw [u2_n _ _ h2, u1_n _ _ h1]
theorem u2_u1 (J : cM) (a k : Nat) (f : Nat → Int32) (x : Int32) : u2 (u1 J a f) a k x = u1 J a (upd f k x) := by
  funext b j
  unfold u2 u1 upd
  by_cases hb : b = a
  · by_cases hj : j = k <;> simp [hb, hj]
  · simp [hb]
def shf (p : Nat → Int32) (j : Nat) : Nat → Int32 := fun k => if k + 36 < j then p (k + 36) else p k
def ptf (p q : Nat → Int32) (z j : Nat) : Nat → Int32 := fun k => if 36 * z ≤ k ∧ k < 36 * z + j then q (k - 36 * z) else p k
theorem rem_shift {ra rb L : Nat} {J : cM} {p : Nat → Int32} {K : Nat → MM Unit} : ∀ (n j : Nat), 36 ≤ j → j ≤ 576 → 576 < j + n → fX10_remember_12 K n 137 (nI j) (hp ra rb L (u1 J 148 (shf p j))) = K 137 (hp ra rb L (u1 J 148 (shf p 576))) := by
  intro n
  induction n with
  | zero =>
    intro j h1 h2 h3
    omega
  | succ n ih =>
    intro j h1 h2 h3
    rw [fX10_remember_12]
    by_cases hj : j < 576
    · have e36 : nI j - 36 = nI (j - 36) := pk_sub (b := 36) h1
      rw [if_neg (show ¬ (576 : Int32) ≤ nI j from nI_ge (b := 576) hj (by decide)), g_137_26, g_137_26, l_148 hj, u1_s, e36, s_148 (by omega), u2_u1]
      unfold m_let
      rw [nI_1]
      have e : upd (shf p j) (j - 36) (shf p j j) = shf p (j + 1) := by
        funext k
        unfold upd shf
        by_cases hk : k = j - 36
        · rw [if_pos hk, if_neg (by omega), if_pos (by omega)]
          exact congrArg p (by omega)
        · rw [if_neg hk]
          by_cases h9 : k + 36 < j
          · rw [if_pos h9, if_pos (by omega)]
          · rw [if_neg h9, if_neg (by omega)]
      rw [e]
      exact ih (j + 1) (by omega) (by omega) (by omega)
    · have : j = 576 := by omega
      subst this
      rw [if_pos (by decide)]
theorem rem_put {ra rb L z : Nat} {J : cM} {p : Nat → Int32} {K : Nat → MM Unit} (hz : J 137 25 = nI z) (hz15 : z ≤ 15) : ∀ (n j : Nat), j ≤ 36 → 36 < j + n → fX10_remember_52 K n 137 (nI j) (hp ra rb L (u1 J 148 (ptf p (J 142) z j))) = K 137 (hp ra rb L (u1 J 148 (ptf p (J 142) z 36))) := by
  intro n
  induction n with
  | zero =>
    intro j h2 h3
    omega
  | succ n ih =>
    intro j h2 h3
    rw [fX10_remember_52]
    by_cases hj : j < 36
    · have e36 : (36 : Int32) * nI z + nI j = nI (36 * z + j) := by
        rw [show (36 : Int32) * nI z = nI (36 * z) from pk_mul 36 z, nI_add]
      rw [if_neg (show ¬ (36 : Int32) ≤ nI j from nI_ge (b := 36) hj (by decide)), g_137_26, g_137_25, g_137_8, l_142 hj, u1_n _ _ (show (137 : Nat) ≠ 148 by decide), hz, e36, s_148 (by omega), u2_u1, u1_n _ _ (show (142 : Nat) ≠ 148 by decide)]
      unfold m_let
      rw [nI_1]
      have e : upd (ptf p (J 142) z j) (36 * z + j) (J 142 j) = ptf p (J 142) z (j + 1) := by
        funext k
        unfold upd ptf
        by_cases hk : k = 36 * z + j
        · rw [if_pos hk, if_pos (by omega)]
          exact congrArg (J 142) (by omega)
        · rw [if_neg hk]
          by_cases h9 : 36 * z ≤ k ∧ k < 36 * z + j
          · rw [if_pos h9, if_pos (by omega)]
          · rw [if_neg h9, if_neg (by omega)]
      rw [e]
      exact ih (j + 1) (by omega) (by omega)
    · have : j = 36 := by omega
      subst this
      rw [if_pos (by decide)]
theorem u1_id (J : cM) (a : Nat) : u1 J a (J a) = J := by
  funext b
  unfold u1
  by_cases h : b = a
  · rw [if_pos h, h]
  · rw [if_neg h]
theorem ptf_0 (p q : Nat → Int32) (z : Nat) : ptf p q z 0 = p := by
  funext k
  unfold ptf
  rw [if_neg (by omega)]
theorem shf_0 (p : Nat → Int32) : shf p 36 = p := by
  funext k
  unfold shf
  rw [if_neg (by omega)]
theorem q_mrem {ra rb L z : Nat} {J : cM} (hz : J 137 25 = nI z) (hz16 : z ≤ 16) : pX10_remember 137 (hp ra rb L J) = some ((), hp ra rb L (mrem J z)) := by
  have put : ∀ (J : cM) (z : Nat), J 137 25 = nI z → z ≤ 15 → fX10_remember_50 137 (hp ra rb L J) = some ((), hp ra rb L (u2 (u1 J 148 (ptf (J 148) (J 142) z 36)) 137 25 (nI (z + 1)))) := by
    intro J z h1 h2
    have h := rem_put (ra := ra) (rb := rb) (L := L) (J := J) (p := J 148) (K := fX10_remember_84) h1 h2 c_fu 0 (by decide) (by show 36 < 0 + 1000; decide)
    rw [ptf_0, u1_id] at h
    rw [fX10_remember_50]
    show fX10_remember_52 fX10_remember_84 c_fu 137 (nI 0) (hp ra rb L J) = _
    rw [h, fX10_remember_84, g_137_25, u1_n _ _ (by decide), h1, p_137_25, nI_1]
    rfl
  rw [pX10_remember, g_137_25, hz]
  by_cases h : z = 16
  · subst h
    have h2 := rem_shift (ra := ra) (rb := rb) (L := L) (J := J) (p := J 148) (K := fX10_remember_40 fX10_remember_50) c_fu 36 (by decide) (by decide) (by show 576 < 36 + 1000; decide)
    rw [shf_0, u1_id] at h2
    rw [if_pos (by decide)]
    show fX10_remember_12 (fX10_remember_40 fX10_remember_50) c_fu 137 (nI 36) (hp ra rb L J) = _
    rw [h2, fX10_remember_40, g_137_25, u1_n _ _ (by decide), hz, p_137_25, put _ 15 (by rw [u2_s]; rfl) (by decide)]
    refine congrArg (fun M => some ((), hp ra rb L M)) ?_
    funext a k
    unfold mrem
    by_cases hk : a = 137 ∧ k = 25
    · obtain ⟨rfl, rfl⟩ := hk
      rw [u2_s, u2_s]
      rfl
    · rw [u2_n _ _ hk, u2_n _ _ hk]
      by_cases ha : a = 148
      · subst ha
        rw [u1_s, u1_s, u2_rown _ _ _ (by decide), u1_s, u2_rown _ _ _ (by decide), u1_n _ _ (by decide)]
        unfold ptf mpast shf
        rw [if_pos rfl]
        by_cases h3 : k < 540
        · rw [if_neg (by omega), if_pos (by omega), if_pos h3]
        · rw [if_neg h3]
          by_cases h4 : k < 576
          · rw [if_pos (by omega), if_pos h4]
          · rw [if_neg (by omega), if_neg h4, if_neg (by omega)]
      · rw [u1_n _ _ ha, u1_n _ _ ha, u2_n _ _ hk, u1_n _ _ ha]
  · rw [if_neg (show ¬ nI z = 16 from fun e => h ((nI_eq (by omega) (by decide)).mp (show nI z = nI 16 from e))), put J z hz (by omega)]
    refine congrArg (fun M => some ((), hp ra rb L M)) ?_
    funext a k
    unfold mrem
    rw [Nat.min_eq_left (by omega)]
    have : mpast J z = ptf (J 148) (J 142) z 36 := by
      unfold mpast ptf
      rw [if_neg h]
    rw [this]
/-- what both remember is related again -/
theorem pst_rem {I J : cM} {C D z nx : Nat} (hD : D ≤ 8) (hP : Pst I C D z nx) (hN : Scn I C D 6 142 0) (h1 : ∀ a k, 11 ≤ a → a ≤ 92 → J a k = crem I nx z a k) (h2 : J 148 = mpast I z) (h3 : J 137 25 = nI (min (z + 1) 16)) : Pst J C D (min (z + 1) 16) ((nx + 1) % 16) := by
  obtain ⟨p1, p2, p3, p4, p5, p6⟩ := hP
  refine ⟨by omega, Nat.mod_lt _ (by decide), ?_, ?_, h3, fun i hi => ?_⟩
  · rw [h1 11 1 (by decide) (by decide)]
    unfold crem
    rw [u2_nk _ _ (by decide), u2_s]
  · rw [h1 11 2 (by decide) (by decide)]
    unfold crem
    rw [u2_s]
  · by_cases h0 : i = 0
    · subst h0
      obtain ⟨t, s, w, e, u, y, hS⟩ := hN
      refine ⟨t, s, w, e, u, y, ?_⟩
      obtain ⟨n1, n2, n3, n4, n5, n6, n7, n8, n9, n10, n11, n12⟩ := hS.z
      have eb : 13 + 5 * (((nx + 1) % 16 + 15 - 0) % 16) = 13 + 5 * nx := by
        have : ((nx + 1) % 16 + 15 - 0) % 16 = nx := by omega
        rw [this]
      rw [eb]
      have ea : ∀ i k, 1 ≤ i → i ≤ 4 → k < 8 → J (13 + 5 * nx + i) k = I (6 + i) k := by
        intro i k a1 a2 a3
        rw [h1 _ _ (by omega) (by omega)]
        unfold crem
        rw [u2_na _ _ (by omega), u2_na _ _ (by omega), cps_r a1 a2 a3]
      have ef : ∀ k, 4 ≤ k → k < 8 → J (13 + 5 * nx) k = I 6 k := by
        intro k a1 a2
        rw [h1 _ _ (by omega) (by omega)]
        unfold crem
        rw [u2_na _ _ (by omega), u2_na _ _ (by omega), cps_f a1 a2]
      have em : ∀ k, k < 36 → J 148 (36 * (min (z + 1) 16 - 1 - 0) + k) = I 142 k := by
        intro k hk
        rw [h2]
        unfold mpast
        by_cases hz : z = 16
        · rw [if_pos hz, hz]
          show (if 36 * 15 + k < 540 then _ else if 36 * 15 + k < 576 then I 142 (36 * 15 + k - 540) else _) = _
          rw [if_neg (by omega), if_pos (by omega)]
          exact congrArg (I 142) (by omega)
        · rw [if_neg hz]
          have : min (z + 1) 16 - 1 - 0 = z := by omega
          rw [this]
          show (if 36 * z ≤ 36 * z + k ∧ 36 * z + k < 36 * z + 36 then I 142 (36 * z + k - 36 * z) else _) = _
          rw [if_pos (by omega), Nat.add_sub_cancel_left]
      refine ⟨fun d hd => ?_, fun d hd => ?_, fun d hd => ?_, fun d hd => ?_, n5, ?_, ?_, n8, ?_, ?_, ?_, ?_⟩
      · rw [ea 1 d (by decide) (by decide) (by omega), em d (by omega)]; exact n1 d hd
      · rw [ea 2 d (by decide) (by decide) (by omega), em (17 + d) (by omega)]; exact n2 d hd
      · rw [ea 3 d (by decide) (by decide) (by omega), em (9 + d) (by omega)]; exact n3 d hd
      · rw [ea 4 d (by decide) (by decide) (by omega), em (25 + d) (by omega)]; exact n4 d hd
      · rw [ef 4 (by decide) (by decide)]; exact n6
      · rw [em 8 (by decide)]; exact n7
      · rw [ef 5 (by decide) (by decide)]; exact n9
      · rw [em 33 (by decide)]; exact n10
      · rw [ef 6 (by decide) (by decide), em 34 (by decide)]; exact n11
      · rw [ef 7 (by decide) (by decide), em 35 (by decide)]; exact n12
    · have hiz : i - 1 < z := by omega
      have hi15 : i ≤ 15 := by omega
      obtain ⟨t, s, w, e, u, y, hS⟩ := p6 (i - 1) hiz
      have eb : (nx + 15 - (i - 1)) % 16 = ((nx + 1) % 16 + 15 - i) % 16 := by omega
      have hne : ((nx + 1) % 16 + 15 - i) % 16 ≠ nx := by omega
      rw [eb] at hS
      generalize hb9 : ((nx + 1) % 16 + 15 - i) % 16 = b9 at hS hne ⊢
      have hb16 : b9 < 16 := by rw [← hb9]; exact Nat.mod_lt _ (by decide)
      obtain ⟨n1, n2, n3, n4, n5, n6, n7, n8, n9, n10, n11, n12⟩ := hS
      have ea : ∀ i k, i ≤ 4 → J (13 + 5 * b9 + i) k = I (13 + 5 * b9 + i) k := by
        intro i k a2
        rw [h1 _ _ (by omega) (by omega)]
        unfold crem
        rw [u2_na _ _ (by omega), u2_na _ _ (by omega), cps_o (by omega)]
      have em : ∀ k, k < 36 → J 148 (36 * (min (z + 1) 16 - 1 - i) + k) = I 148 (36 * (z - 1 - (i - 1)) + k) := by
        intro k hk
        rw [h2]
        unfold mpast
        by_cases hz : z = 16
        · rw [if_pos hz]
          show (if _ + k < 540 then I 148 (_ + k + 36) else _) = _
          rw [if_pos (by omega)]
          exact congrArg (I 148) (by omega)
        · rw [if_neg hz]
          show (if 36 * z ≤ _ + k ∧ _ + k < 36 * z + 36 then _ else I 148 (_ + k)) = _
          rw [if_neg (by omega)]
          exact congrArg (I 148) (by omega)
      refine ⟨t, s, w, e, u, y, fun d hd => ?_, fun d hd => ?_, fun d hd => ?_, fun d hd => ?_, n5, ?_, ?_, n8, ?_, ?_, ?_, ?_⟩
      · rw [ea 1 d (by decide), em d (by omega)]; exact n1 d hd
      · rw [ea 2 d (by decide), em (17 + d) (by omega)]; exact n2 d hd
      · rw [ea 3 d (by decide), em (9 + d) (by omega)]; exact n3 d hd
      · rw [ea 4 d (by decide), em (25 + d) (by omega)]; exact n4 d hd
      · have := ea 0 4 (by decide)
        rw [Nat.add_zero] at this
        rw [this]; exact n6
      · rw [em 8 (by decide)]; exact n7
      · have := ea 0 5 (by decide)
        rw [Nat.add_zero] at this
        rw [this]; exact n9
      · rw [em 33 (by decide)]; exact n10
      · have := ea 0 6 (by decide)
        rw [Nat.add_zero] at this
        rw [this, em 34 (by decide)]; exact n11
      · have := ea 0 7 (by decide)
        rw [Nat.add_zero] at this
        rw [this, em 35 (by decide)]; exact n12
