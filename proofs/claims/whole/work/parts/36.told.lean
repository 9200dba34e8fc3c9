/-! signs that tell, courts that block or agree; pair told -/
def al (p : Nat → Bool) (j : Nat) : Nat → Bool
  | 0 => true
  | m + 1 => p j && al p (j + 1) m
def okp (s : Nat → Nat) (x d e : Nat) : Bool := (s d ^^^ s e == 0) || !((s d ^^^ s e) &&& x == 0)
def tl (s : Nat → Nat) (x D : Nat) : Bool := al (fun d => al (okp s x d) (d + 1) (D - (d + 1))) 0 D
theorem wt_zero (v : Nat → Nat) : ∀ n, wt v n 0 = 0
  | 0 => rfl
  | n + 1 => by rw [wt_0 (Nat.zero_testBit n)]; exact wt_zero v n
section T2
variable {ra rb L ro : Nat} {A B : cM} {C D : Nat} {v kd hm : Nat → Nat} {pt q : Nat} {t s w e : Nat → Nat} {u y : Nat} {au he : Int32}
theorem tell_c (hro : c_rl ro) (h6 : A ro 6 = nI D) (hD : D ≤ 8) (hc : CN A D t s w e u y au he) (hs : ∀ d, d < D → s d < 64) {x d : Nat} (hx : x < 64) (hd : d < D) {K : Nat → Nat → Int32 → Int32 → MM Int32} : ∀ (m n j : Nat), j + m = D → m < n → fX6_tells_15 K n ro 6 (nI x) (nI d) (nI j) (hp ra rb L A) = if al (okp s x d) j m then K ro 6 (nI x) (nI d) (hp ra rb L A) else some (0, hp ra rb L A) := by
  intro m
  induction m with
  | zero =>
    intro n j a1 a2
    obtain ⟨n, rfl⟩ : ∃ n', n = n' + 1 := ⟨n - 1, by omega⟩
    rw [fX6_tells_15, rg_6 hro, h6, if_pos (nI_le (by omega) (by omega)), al, if_pos rfl]
  | succ m ih =>
    intro n j a1 a2
    obtain ⟨n, rfl⟩ : ∃ n', n = n' + 1 := ⟨n - 1, by omega⟩
    have hj : j < D := by omega
    have h1 := xor64 (hs d hd) (hs j hj)
    have h2 : (s d ^^^ s j) &&& x ≤ x := Nat.and_le_right
    have ih2 := ih n (j + 1) (by omega) (by omega)
    rw [fX6_tells_15, rg_6 hro, h6, if_neg (nI_ge hj (by omega)), sg_1 sn_6, sl_2 sn_6 (by omega), hc.2.1 d hd, sg_1 sn_6, sl_2 sn_6 (by omega), hc.2.1 j hj, mlet, nxor_n, nand_n, al]
    by_cases z1 : s d ^^^ s j = 0
    · rw [show okp s x d j = true by unfold okp; simp [z1], Bool.true_and, ← ih2]
      rw [z1, if_pos (show nI 0 = 0 from rfl), fX6_tells_54, mlet, nI_1]
    · rw [if_neg (nI_ne0 (by omega) (by omega))]
      by_cases z2 : (s d ^^^ s j) &&& x = 0
      · rw [show okp s x d j = false by unfold okp; simp [z1, z2], Bool.false_and, z2, if_pos (show nI 0 = 0 from rfl), if_neg (by decide)]
        rfl
      · rw [show okp s x d j = true by unfold okp; simp [z2], Bool.true_and, ← ih2, if_neg (nI_ne0 (by omega) (by omega)), fX6_tells_54, mlet, nI_1]
theorem q_tells (hro : c_rl ro) (h6 : A ro 6 = nI D) (hD : D ≤ 8) (hc : CN A D t s w e u y au he) (hs : ∀ d, d < D → s d < 64) {x : Nat} (hx : x < 64) : pX6_tells ro 6 (nI x) (hp ra rb L A) = some (bi (tl s x D), hp ra rb L A) := by
  have key : ∀ (m n j : Nat), j + m = D → m < n → fX6_tells_2 n ro 6 (nI x) (nI j) (hp ra rb L A) = some (bi (al (fun d => al (okp s x d) (d + 1) (D - (d + 1))) j m), hp ra rb L A) := by
    intro m
    induction m with
    | zero =>
      intro n j a1 a2
      obtain ⟨n, rfl⟩ : ∃ n', n = n' + 1 := ⟨n - 1, by omega⟩
      rw [fX6_tells_2, rg_6 hro, h6, if_pos (nI_le (by omega) (by omega))]
      rfl
    | succ m ih =>
      intro n j a1 a2
      obtain ⟨n, rfl⟩ : ∃ n', n = n' + 1 := ⟨n - 1, by omega⟩
      have hj : j < D := by omega
      rw [fX6_tells_2, rg_6 hro, h6, if_neg (nI_ge hj (by omega)), mlet, nI_1, tell_c hro h6 hD hc hs hx hj (D - (j + 1)) c_fu (j + 1) (by omega) (by show _ < 1000; omega), al]
      cases hb : al (okp s x j) (j + 1) (D - (j + 1))
      · rw [if_neg (by decide), Bool.false_and]
        rfl
      · rw [if_pos rfl, Bool.true_and, fX6_tells_60, mlet, nI_1]
        exact ih n (j + 1) (by omega) (by omega)
  rw [pX6_tells]
  exact key D c_fu 0 (by omega) (by show D < 1000; omega)
theorem tell_m (h2 : B 137 2 = nI D) (hD : D ≤ 8) (hc : MN B D t s w e u y au he) (hs : ∀ d, d < D → s d < 64) {x d : Nat} (hx : x < 64) (hd : d < D) {K : Nat → Int32 → Int32 → Int32 → MM Int32} : ∀ (m n j : Nat) (b : Bool), j + m = D → m < n → fX10_tells_17 K n 137 (nI x) (bi b) (nI d) (nI j) (hp ra rb L B) = K 137 (nI x) (bi (b && al (okp s x d) j m)) (nI d) (hp ra rb L B) := by
  intro m
  induction m with
  | zero =>
    intro n j b a1 a2
    obtain ⟨n, rfl⟩ : ∃ n', n = n' + 1 := ⟨n - 1, by omega⟩
    rw [fX10_tells_17, g_137_2, h2, if_pos (nI_le (by omega) (by omega)), al, Bool.and_true]
  | succ m ih =>
    intro n j b a1 a2
    obtain ⟨n, rfl⟩ : ∃ n', n = n' + 1 := ⟨n - 1, by omega⟩
    have hj : j < D := by omega
    have h1 := xor64 (hs d hd) (hs j hj)
    have h3 : (s d ^^^ s j) &&& x ≤ x := Nat.and_le_right
    have ih2 := fun b => ih n (j + 1) b (by omega) (by omega)
    have e17 : ∀ j, (17 : Int32) + nI j = nI (17 + j) := fun j => nI_add 17 j
    rw [fX10_tells_17, g_137_2, h2, if_neg (nI_ge hj (by omega)), g_137_8, e17, l_142 (by omega), hc.2.1 d hd, g_137_8, e17, l_142 (by omega), hc.2.1 j hj, mlet, nxor_n, nand_n, al]
    cases b
    · rw [if_pos (show bi false = 0 from rfl), fX10_tells_68, fX10_tells_69, mlet, nI_1, Bool.false_and]
      exact (ih2 false).trans (by rw [Bool.false_and])
    · rw [if_neg (show ¬ bi true = 0 by decide), Bool.true_and]
      by_cases z1 : s d ^^^ s j = 0
      · rw [show okp s x d j = true by unfold okp; simp [z1]]
        rw [z1, if_pos (show nI 0 = 0 from rfl), fX10_tells_64, fX10_tells_69, mlet, nI_1]
        exact ih2 true
      · rw [if_neg (nI_ne0 (by omega) (by omega))]
        by_cases z2 : (s d ^^^ s j) &&& x = 0
        · rw [show okp s x d j = false by unfold okp; simp [z1, z2], z2, if_pos (show nI 0 = 0 from rfl), fX10_tells_68, fX10_tells_69, mlet, nI_1]
          exact ih2 false
        · rw [show okp s x d j = true by unfold okp; simp [z2], if_neg (nI_ne0 (by omega) (by omega)), fX10_tells_64, fX10_tells_69, mlet, nI_1]
          exact ih2 true
theorem q_tellsM (h2 : B 137 2 = nI D) (hD : D ≤ 8) (hc : MN B D t s w e u y au he) (hs : ∀ d, d < D → s d < 64) {x : Nat} (hx : x < 64) : pX10_tells 137 (nI x) (hp ra rb L B) = some (bi (tl s x D), hp ra rb L B) := by
  have key : ∀ (m n j : Nat) (b : Bool), j + m = D → m < n → fX10_tells_4 n 137 (nI x) (bi b) (nI j) (hp ra rb L B) = some (bi (b && al (fun d => al (okp s x d) (d + 1) (D - (d + 1))) j m), hp ra rb L B) := by
    intro m
    induction m with
    | zero =>
      intro n j b a1 a2
      obtain ⟨n, rfl⟩ : ∃ n', n = n' + 1 := ⟨n - 1, by omega⟩
      rw [fX10_tells_4, g_137_2, h2, if_pos (nI_le (by omega) (by omega)), al, Bool.and_true]
      cases b <;> rfl
    | succ m ih =>
      intro n j b a1 a2
      obtain ⟨n, rfl⟩ : ∃ n', n = n' + 1 := ⟨n - 1, by omega⟩
      have hj : j < D := by omega
      rw [fX10_tells_4, g_137_2, h2, if_neg (nI_ge hj (by omega)), mlet, nI_1, tell_m h2 hD hc hs hx hj (D - (j + 1)) c_fu (j + 1) b (by omega) (by show _ < 1000; omega), al, fX10_tells_76, mlet, nI_1, ← Bool.and_assoc]
      exact ih n (j + 1) _ (by omega) (by omega)
  have := key D c_fu 0 true (by omega) (by show D < 1000; omega)
  rw [Bool.true_and] at this
  exact this
theorem pc_63 : ∀ b, b < 64 → pc b ≤ 6 := by decide +kernel
theorem q_telling (hro : c_rl ro) (h6 : A ro 6 = nI D) (h2 : A 137 2 = nI D) (hD : D ≤ 8) (hc : CN A D t s w e u y au he) (hc2 : MN A D t s w e u y au he) (hs : ∀ d, d < D → s d < 64) : ∃ r, pX6_telling ro 6 (hp ra rb L A) = some (r, hp ra rb L A) ∧ pX10_tellingOnes 137 (hp ra rb L A) = some (r, hp ra rb L A) := by
  have key : ∀ (n j b : Nat), b < 64 → j ≤ 63 → 64 < j + n → ∃ r, fX6_telling_5 n ro 6 (nI b) (nI j) (hp ra rb L A) = some (r, hp ra rb L A) ∧ fX10_tellingOnes_5 n 137 (nI b) (nI j) (hp ra rb L A) = some (r, hp ra rb L A) := by
    intro n
    induction n with
    | zero =>
      intro j b h1 h2 h3
      omega
    | succ n ih =>
      intro j b hb a1 a2
      have p1 := pc_le j
      have p2 := pc_le b
      rw [fX6_telling_5, fX10_tellingOnes_5, if_neg (show ¬ (64 : Int32) ≤ nI j from nI_ge (b := 64) (by omega) (by decide)), m_bind_some (q_bits (by omega)), m_bind_some (q_bits (by omega))]
      by_cases hj : j < 63
      · rw [if_neg (show ¬ (63 : Int32) ≤ nI j from nI_ge (b := 63) hj (by decide)), m_bind_some (q_bitCount (by omega)), m_bind_some (q_bitCount (by omega))]
        by_cases hl : pc b ≤ pc j
        · rw [if_pos (nI_le hl (by omega)), if_pos (nI_le hl (by omega)), fX6_telling_33, mlet, fX10_tellingOnes_34, fX10_tellingOnes_35, mlet, nI_1]
          exact ih (j + 1) b hb (by omega) (by omega)
        · rw [if_neg (nI_ge (by omega) (by omega)), if_neg (nI_ge (by omega) (by omega)), m_bind_some (q_tells hro h6 hD hc hs (by omega)), v_137, m_bind_some (q_tellsM h2 hD hc2 hs (by omega))]
          cases tl s j D
          · rw [if_pos (show bi false = 0 from rfl), if_pos (show bi false = 0 from rfl), fX6_telling_33, mlet, fX10_tellingOnes_34, fX10_tellingOnes_35, mlet, nI_1]
            exact ih (j + 1) b hb (by omega) (by omega)
          · rw [if_neg (show ¬ bi true = 0 by decide), if_neg (show ¬ bi true = 0 by decide), fX6_telling_33, mlet, fX10_tellingOnes_35, mlet, nI_1]
            exact ih (j + 1) j (by omega) (by omega) (by omega)
      · have : j = 63 := by omega
        subst this
        have p3 := pc_63 b hb
        have p4 : pc 63 = 6 := by decide
        obtain ⟨n, rfl⟩ : ∃ n', n = n' + 1 := ⟨n - 1, by omega⟩
        rw [if_pos (show (63 : Int32) ≤ nI 63 by decide), if_pos (nI_le (by omega) (by omega)), fX10_tellingOnes_34, fX10_tellingOnes_35, mlet, nI_1, fX10_tellingOnes_5, if_pos (show (64 : Int32) ≤ nI 64 by decide)]
        exact ⟨_, rfl, rfl⟩
  obtain ⟨r, k1, k2⟩ := key c_fu 0 63 (by decide) (by decide) (by decide)
  exact ⟨r, k1, k2⟩
theorem all_x {C j : Nat} (hC : C ≤ 7) (hj : j < 2 ^ C) : (2 ^ C - 1) ^^^ j < 2 ^ C ∧ nI (2 ^ C - 1) &&& (nI j ^^^ (-1)) = nI ((2 ^ C - 1) ^^^ j) := by
  refine ⟨Nat.xor_lt_two_pow (by have : 1 ≤ 2 ^ C := Nat.one_le_two_pow; omega) hj, ?_⟩
  apply andnot_n
  intro i _
  rw [Nat.testBit_xor, Nat.testBit_two_pow_sub_one]
  by_cases hi : i < C
  · simp [hi]
  · have : j.testBit i = false := Nat.testBit_lt_two_pow (by have : 2 ^ C ≤ 2 ^ i := Nat.pow_le_pow_right (by decide) (by omega)
                                                             omega)
    simp [hi, this]
theorem q_blocks0 (hm2 : MR A C D v kd hm pt q) (ho : OKR C D v kd hm pt q) (hC0 : C = 0) : pX10_blocks 137 (hp ra rb L A) = some (-1, hp ra rb L A) := by
  have hq0 : q = 0 := by
    have := ho.2.2.2.2.2.2.2.2.2.mpr
    omega
  have h0 := q_hasQuota (ra := ra) (rb := rb) (L := L) hm2 ho (x := 0) (by decide)
  rw [if_neg (by omega)] at h0
  rw [pX10_blocks, g_137_0, hm2.1, hC0, mlet]
  show fX10_blocks_13 (999 + 1) 137 (-1) 0 0 (hp ra rb L A) = _
  rw [fX10_blocks_13, if_neg (by decide), if_pos (by decide), fX10_blocks_33, fX10_blocks_38, if_neg ne10, v_137]
  rw [show (0 : Int32) &&& (0 ^^^ -1) = nI 0 by decide, m_bind_some h0, if_neg ne10, fX10_blocks_61, fX10_blocks_62, mlet]
  show fX10_blocks_13 (998 + 1) 137 (-1) 0 1 (hp ra rb L A) = _
  rw [fX10_blocks_13, if_pos (by decide)]
  rfl
theorem q_fewest0 (hm2 : MR A C D v kd hm pt q) (hC0 : C = 0) : pX10_fewest 137 (hp ra rb L A) = some (-1, hp ra rb L A) := by
  rw [pX10_fewest]
  show fX10_fewest_4 (999 + 1) 137 (-1) 0 (hp ra rb L A) = _
  rw [fX10_fewest_4, g_137_0, hm2.1, hC0, if_neg (by decide), g_137_0, hm2.1, hC0, if_pos (by decide)]
  rfl
theorem q_blocks (hro : c_rl ro) (h : CR A ro C D v kd hm pt q) (hm2 : MR A C D v kd hm pt q) (ho : OKR C D v kd hm pt q) (hC0 : 0 < C) : ∃ r, pX4_fewestBlocking ro (hp ra rb L A) = some (r, hp ra rb L A) ∧ pX10_blocks 137 (hp ra rb L A) = some (r, hp ra rb L A) := by
  have hC := ho.1
  have h27 := pw7 hC
  have h21 : 1 ≤ 2 ^ C := Nat.one_le_two_pow
  have hq := ho.2.2.2.2.2.2.2.2.1
  have hq1 := ho.2.2.2.2.2.2.2.2.2.mp hC0
  have pall := pc_all C (by omega)
  have key : ∀ (n j : Nat) (m c : Int32), j ≤ 2 ^ C → 2 ^ C < j + n → ((m = -1 ∧ c = nI (2 ^ C - 1) ∧ j < 2 ^ C) ∨ ∃ b, b < 2 ^ C ∧ m = nI b ∧ c = nI b) → ∃ r, fX4_fewestBlocking_9 n ro (nI (2 ^ C - 1)) c (nI j) (hp ra rb L A) = some (r, hp ra rb L A) ∧ fX10_blocks_13 n 137 m (nI (2 ^ C - 1)) (nI j) (hp ra rb L A) = some (r, hp ra rb L A) := by
    intro n
    induction n with
    | zero =>
      intro j m c h1 h2
      omega
    | succ n ih =>
      intro j m c a1 a2 hs
      rw [fX4_fewestBlocking_9, fX10_blocks_13]
      by_cases hj : j < 2 ^ C
      · obtain ⟨x1, x2⟩ := all_x hC hj
        have hwt := wt_le (v := v) (C := C) (fun c hc => (ho.2.2.2.2.1 c hc).2) ((2 ^ C - 1) ^^^ j)
        have pj := pc_le j
        have hjn := pc_lt7 C (by omega) j
        rw [if_neg (nI_nlt (by omega) (by omega)), if_neg (nI_nlt (by omega) (by omega)), nxor_n, rg_4 hro, rl_5 hro (by omega), h.2.2.2.2.2.2.2 _ x1, rg_8 hro, h.2.2.2.2.2.2.1]
        rcases hs with ⟨rfl, rfl, -⟩ | ⟨b, hb, rfl, rfl⟩
        · rw [if_pos (show (-1 : Int32) < 0 by decide), fX10_blocks_33, fX10_blocks_38, if_neg ne10, x2, v_137, m_bind_some (q_hasQuota hm2 ho (by omega))]
          by_cases hl : wt v C ((2 ^ C - 1) ^^^ j) < q
          · rw [if_neg (nI_ge hl (by omega)), if_pos hl, if_pos rfl, m_bind_some (q_bitCount (by omega)), m_bind_some (q_bitCount (by omega)), pall, fX10_blocks_62, mlet, nI_1]
            by_cases hja : j = 2 ^ C - 1
            · rw [if_pos (nI_le (by rw [hja, pall]; exact Nat.le_refl _) (by omega)), fX4_fewestBlocking_42, mlet, nI_1]
              exact ih (j + 1) _ _ (by omega) (by omega) (Or.inr ⟨j, hj, rfl, by rw [hja]⟩)
            · rw [if_neg (nI_ge (hjn (by omega)) (by omega)), fX4_fewestBlocking_42, mlet, nI_1]
              exact ih (j + 1) _ _ (by omega) (by omega) (Or.inr ⟨j, hj, rfl, rfl⟩)
          · have hja : j ≠ 2 ^ C - 1 := by
              intro z
              apply hl
              rw [z, Nat.xor_self, wt_zero]
              omega
            rw [if_pos (nI_le (by omega) (by omega)), if_neg hl, if_neg ne10, fX10_blocks_61, fX10_blocks_62, mlet, fX4_fewestBlocking_42, mlet, nI_1]
            exact ih (j + 1) _ _ (by omega) (by omega) (Or.inl ⟨rfl, rfl, by omega⟩)
        · have pb := pc_le b
          have ihb := ih (j + 1) (nI b) (nI b) (by omega) (by omega) (Or.inr ⟨b, hb, rfl, rfl⟩)
          rw [if_neg (nI_pos (by omega)), m_bind_some (q_bits (by omega)), m_bind_some (q_bits (by omega))]
          by_cases hl : wt v C ((2 ^ C - 1) ^^^ j) < q
          · rw [if_neg (nI_ge hl (by omega)), m_bind_some (q_bitCount (by omega)), m_bind_some (q_bitCount (by omega))]
            by_cases hpc : pc b ≤ pc j
            · rw [if_pos (nI_le hpc (by omega)), if_pos (nI_le hpc (by omega)), fX10_blocks_38, if_pos rfl, fX10_blocks_61, fX10_blocks_62, mlet, fX4_fewestBlocking_42, mlet, nI_1]
              exact ihb
            · rw [if_neg (nI_ge (by omega) (by omega)), if_neg (nI_ge (by omega) (by omega)), fX10_blocks_33, fX10_blocks_38, if_neg ne10, x2, v_137, m_bind_some (q_hasQuota hm2 ho (by omega)), if_pos hl, if_pos rfl, fX10_blocks_62, mlet, fX4_fewestBlocking_42, mlet, nI_1]
              exact ih (j + 1) _ _ (by omega) (by omega) (Or.inr ⟨j, hj, rfl, rfl⟩)
          · rw [if_pos (nI_le (by omega) (by omega)), fX4_fewestBlocking_42, mlet, nI_1]
            by_cases hpc : pc b ≤ pc j
            · rw [if_pos (nI_le hpc (by omega)), fX10_blocks_38, if_pos rfl, fX10_blocks_61, fX10_blocks_62, mlet, nI_1]
              exact ihb
            · rw [if_neg (nI_ge (by omega) (by omega)), fX10_blocks_33, fX10_blocks_38, if_neg ne10, x2, v_137, m_bind_some (q_hasQuota hm2 ho (by omega)), if_neg hl, if_neg ne10, fX10_blocks_61, fX10_blocks_62, mlet, nI_1]
              exact ihb
      · have : j = 2 ^ C := by omega
        subst this
        rw [if_pos (nI_lt (by omega) (by omega)), if_pos (nI_lt (by omega) (by omega))]
        rcases hs with ⟨-, -, h⟩ | ⟨b, hb, rfl, rfl⟩
        · omega
        · exact ⟨_, rfl, rfl⟩
  obtain ⟨r, k1, k2⟩ := key c_fu 0 (-1) (nI (2 ^ C - 1)) (by omega) (by show 2 ^ C < 0 + 1000; omega) (Or.inl ⟨rfl, rfl, by omega⟩)
  refine ⟨r, ?_, ?_⟩
  · rw [pX4_fewestBlocking, rv hro, m_bind_some (q_allCourts hro h.1 hC)]
    exact k1
  · rw [pX10_blocks, g_137_0, hm2.1, mlet, all_n (by omega)]
    exact k2
theorem q_fewest (hro : c_rl ro) (h : CR A ro C D v kd hm pt q) (hm2 : MR A C D v kd hm pt q) (ho : OKR C D v kd hm pt q) (hC0 : 0 < C) : ∃ r, pX4_fewestAgreeing ro (hp ra rb L A) = some (r, hp ra rb L A) ∧ pX10_fewest 137 (hp ra rb L A) = some (r, hp ra rb L A) := by
  have hC := ho.1
  have h27 := pw7 hC
  have h21 : 1 ≤ 2 ^ C := Nat.one_le_two_pow
  have hq := ho.2.2.2.2.2.2.2.2.1
  have key : ∀ (n j : Nat) (m : Int32), j ≤ 2 ^ C → 2 ^ C < j + n → (m = -1 ∨ ∃ b, b < 2 ^ C ∧ m = nI b) → ∃ r, fX4_fewestAgreeing_4 n ro m (nI j) (hp ra rb L A) = some (r, hp ra rb L A) ∧ fX10_fewest_4 n 137 m (nI j) (hp ra rb L A) = some (r, hp ra rb L A) := by
    intro n
    induction n with
    | zero =>
      intro j m h1 h2
      omega
    | succ n ih =>
      intro j m a1 a2 hs
      rw [fX4_fewestAgreeing_4, rv hro, m_bind_some (q_allCourts hro h.1 hC), fX10_fewest_4, g_137_0, hm2.1, sh1 (by omega)]
      by_cases hj : j < 2 ^ C
      · have hwt := wt_le (v := v) (C := C) (fun c hc => (ho.2.2.2.2.1 c hc).2) j
        have pj := pc_le j
        rw [if_neg (nI_nlt (by omega) (by omega)), if_neg (nI_ge hj (by omega)), g_137_0, hm2.1, if_neg (nI_nle hC0 (by omega)), rg_4 hro, rl_5 hro (by omega), h.2.2.2.2.2.2.2 _ hj, rg_8 hro, h.2.2.2.2.2.2.1]
        have ihs := fun m => ih (j + 1) m (by omega) (by omega)
        rcases hs with rfl | ⟨b, hb, rfl⟩
        · rw [if_pos (show (-1 : Int32) < 0 by decide), if_pos (show (-1 : Int32) = -1 from rfl), fX10_fewest_36, fX10_fewest_41, if_neg ne10, v_137, m_bind_some (q_hasQuota hm2 ho (by omega))]
          by_cases hl : wt v C j < q
          · rw [if_pos (nI_lt hl (by omega)), if_pos hl, if_pos rfl, fX4_fewestAgreeing_43, mlet, fX10_fewest_58, fX10_fewest_59, mlet, nI_1]
            exact ihs _ (Or.inl rfl)
          · rw [if_neg (nI_nlt (by omega) (by omega)), if_neg hl, if_neg ne10, fX4_fewestAgreeing_41, fX4_fewestAgreeing_43, mlet, fX10_fewest_59, mlet, nI_1]
            exact ihs _ (Or.inr ⟨j, hj, rfl⟩)
        · have pb := pc_le b
          have hne : ¬ nI b = -1 := fun z => nI_pos (n := b) (by omega) (by rw [z]; decide)
          have ihb := ihs (nI b) (Or.inr ⟨b, hb, rfl⟩)
          rw [if_neg (nI_pos (by omega)), if_neg hne, m_bind_some (q_bits (by omega)), m_bind_some (q_bits (by omega))]
          by_cases hl : wt v C j < q
          · rw [if_pos (nI_lt hl (by omega)), fX4_fewestAgreeing_43, mlet, nI_1]
            by_cases hpc : pc b ≤ pc j
            · rw [if_pos (nI_le hpc (by omega)), fX10_fewest_41, if_pos rfl, fX10_fewest_58, fX10_fewest_59, mlet, nI_1]
              exact ihb
            · rw [if_neg (nI_ge (by omega) (by omega)), fX10_fewest_36, fX10_fewest_41, if_neg ne10, v_137, m_bind_some (q_hasQuota hm2 ho (by omega)), if_pos hl, if_pos rfl, fX10_fewest_58, fX10_fewest_59, mlet, nI_1]
              exact ihb
          · rw [if_neg (nI_nlt (by omega) (by omega)), m_bind_some (q_bitCount (by omega)), m_bind_some (q_bitCount (by omega))]
            by_cases hpc : pc b ≤ pc j
            · rw [if_pos (nI_le hpc (by omega)), if_pos (nI_le hpc (by omega)), fX10_fewest_41, if_pos rfl, fX10_fewest_58, fX10_fewest_59, mlet, fX4_fewestAgreeing_43, mlet, nI_1]
              exact ihb
            · rw [if_neg (nI_ge (by omega) (by omega)), if_neg (nI_ge (by omega) (by omega)), fX10_fewest_36, fX10_fewest_41, if_neg ne10, v_137, m_bind_some (q_hasQuota hm2 ho (by omega)), if_neg hl, if_neg ne10, fX4_fewestAgreeing_41, fX4_fewestAgreeing_43, mlet, fX10_fewest_59, mlet, nI_1]
              exact ihs _ (Or.inr ⟨j, hj, rfl⟩)
      · have : j = 2 ^ C := by omega
        subst this
        rw [if_pos (nI_lt (by omega) (by omega)), if_pos (nI_le (by omega) (by omega))]
        exact ⟨_, rfl, rfl⟩
  obtain ⟨r, k1, k2⟩ := key c_fu 0 (-1) (by omega) (by show 2 ^ C < 0 + 1000; omega) (Or.inl rfl)
  exact ⟨r, k1, k2⟩
end T2
theorem pr_told (L : Nat) (xs : Nat → Int32) (hL : L ≤ 192) (x : Int32) : Pr L xs (pX9_told 3 x) (pX10_told 137 x) := by
  refine Pr.same fun ra rb I hR => ?_
  obtain ⟨C, D, v, kd, hm, pt, q, hab, hRo, ⟨T, tx, hT⟩, hN, ⟨z, nx, hP⟩, hI, ⟨z2, bd, bc, hB⟩, hS, hX⟩ := hR
  obtain ⟨t, s, w, e, u, yy, au, he, hc1, hm1, hok⟩ := scn_to hN
  have hr := hab.rl
  have hc := hRo.c
  have hm2 := hRo.m
  have ho := hRo.o
  have hC := ho.1
  have hD := ho.2.2.1
  have hs : ∀ d, d < D → s d < 64 := fun d hd => (hok.1 d hd).2.1
  have ht : ∀ d, d < D → t d < C := fun d hd => (hok.1 d hd).1
  have e8 : (8 : Int32) = nI 8 := rfl
  have e33 : (33 : Int32) = nI 33 := rfl
  have e34 : (34 : Int32) = nI 34 := rfl
  have e35 : (35 : Int32) = nI 35 := rfl
  rw [pX9_told, pX10_told]
  by_cases h0 : x = 0
  · rw [if_pos h0, if_pos h0, g_3_7, rg_5 hr, hc.1, g_137_0, hm2.1]
    exact ⟨_, rfl, rfl⟩
  rw [if_neg h0, if_neg h0]
  by_cases h1 : x = 1
  · rw [if_pos h1, if_pos h1, g_3_7, rg_6 hr, hc.2.1, g_137_2, hm2.2.1]
    exact ⟨_, rfl, rfl⟩
  rw [if_neg h1, if_neg h1]
  by_cases h2 : x = 2
  · rw [if_pos h2, if_pos h2, g_3_0, g_4_1, hT.2.1, g_137_11, hT.2.2.1]
    exact ⟨_, rfl, rfl⟩
  rw [if_neg h2, if_neg h2]
  by_cases h3 : x = 3
  · rw [if_pos h3, if_pos h3, g_3_7, rg_7 hr, hc.2.2.2.2.2.1, g_137_6, hm2.2.2.2.2.2.1]
    exact ⟨_, rfl, rfl⟩
  rw [if_neg h3, if_neg h3]
  by_cases h4 : x = 4
  · rw [if_pos h4, if_pos h4, g_3_7, rg_8 hr, hc.2.2.2.2.2.2.1, g_137_7, hm2.2.2.2.2.2.2]
    exact ⟨_, rfl, rfl⟩
  rw [if_neg h4, if_neg h4]
  by_cases h5 : x = 5
  · rw [if_pos h5, if_pos h5, g_3_1, sg_5 sn_6, hc1.2.2.2.2.2.1, g_137_8, e33, l_142 (by decide), hm1.2.2.2.2.2.1]
    exact ⟨_, rfl, rfl⟩
  rw [if_neg h5, if_neg h5]
  by_cases h6 : x = 6
  · rw [if_pos h6, if_pos h6, g_3_1, sg_4 sn_6, hc1.2.2.2.2.1, g_137_8, e8, l_142 (by decide), hm1.2.2.2.2.1]
    exact ⟨_, rfl, rfl⟩
  rw [if_neg h6, if_neg h6]
  by_cases h7 : x = 7
  · rw [if_pos h7, if_pos h7, g_3_1, g_3_7, sv sn_6, m_bind_some (q_strays hr hc hc1 ho ht), v_137, m_bind_some (q_wrongOnes hm2 hm1.1 ho ht)]
    exact ⟨_, rfl, rfl⟩
  rw [if_neg h7, if_neg h7]
  by_cases h8 : x = 8
  · have n0 : (0 : Int32) = nI 0 := rfl
    have k1 := q_within (ra := ra) (rb := rb) (L := L) hr hc hc1 ho hs (x := 0) (by decide)
    have k2 := q_closeOnes (ra := ra) (rb := rb) (L := L) hm2 hm1 ho hs (x := 0) (by decide)
    rw [if_pos h8, if_pos h8, g_3_7, g_3_1]
    refine ⟨nI (bs (fun d => decide (pc (s d ^^^ pt) ≤ 0)) D), ?_, ?_⟩
    · exact (m_bind_some k1).trans rfl
    · rw [v_137]
      exact (m_bind_some k2).trans rfl
  rw [if_neg h8, if_neg h8]
  by_cases h9 : x = 9
  · rw [if_pos h9, if_pos h9, g_3_1, g_3_7, sv sn_6, m_bind_some (q_nodding hr hc hc1 ho hok), v_137, m_bind_some (q_noddingOnes hm2 hm1 ho hok)]
    exact ⟨_, rfl, rfl⟩
  rw [if_neg h9, if_neg h9]
  by_cases h10 : x = 10
  · rw [if_pos h10, if_pos h10, g_3_1, sg_6 sn_6, hc1.2.2.2.2.2.2.1, g_137_8, e34, l_142 (by decide), hm1.2.2.2.2.2.2.1]
    exact ⟨_, rfl, rfl⟩
  rw [if_neg h10, if_neg h10]
  by_cases h11 : x = 11
  · rw [if_pos h11, if_pos h11, g_3_1, sg_7 sn_6, hc1.2.2.2.2.2.2.2, g_137_8, e35, l_142 (by decide), hm1.2.2.2.2.2.2.2]
    exact ⟨_, rfl, rfl⟩
  rw [if_neg h11, if_neg h11]
  by_cases h12 : x = 12
  · obtain ⟨r, k1, k2⟩ := q_telling (ra := ra) (rb := rb) (L := L) hr hc.2.1 hm2.2.1 hD hc1 hm1 hs
    rw [if_pos h12, if_pos h12, g_3_7, g_3_1, m_bind_some k1, v_137, m_bind_some k2]
    exact ⟨_, rfl, rfl⟩
  rw [if_neg h12, if_neg h12]
  by_cases h13 : x = 13
  · rw [if_pos h13, if_pos h13, v_3, m_bind_some (q_hasCongress hr hc.1 hC), v_137]
    by_cases hz : C = 0
    · rw [if_pos hz, if_pos rfl, m_bind_some (q_blocks0 hm2 ho hz)]
      exact ⟨_, rfl, rfl⟩
    · obtain ⟨r, k1, k2⟩ := q_blocks (ra := ra) (rb := rb) (L := L) hr hc hm2 ho (by omega)
      rw [if_neg hz, if_neg ne10, g_3_7, rv hr, m_bind_some k1, m_bind_some k2]
      exact ⟨_, rfl, rfl⟩
  rw [if_neg h13, if_neg h13]
  by_cases h14 : x = 14
  · rw [if_pos h14, if_pos h14, v_3, m_bind_some (q_hasCongress hr hc.1 hC), v_137]
    by_cases hz : C = 0
    · rw [if_pos hz, if_pos rfl, m_bind_some (q_fewest0 hm2 hz)]
      exact ⟨_, rfl, rfl⟩
    · obtain ⟨r, k1, k2⟩ := q_fewest (ra := ra) (rb := rb) (L := L) hr hc hm2 ho (by omega)
      rw [if_neg hz, if_neg ne10, g_3_7, rv hr, m_bind_some k1, m_bind_some k2]
      exact ⟨_, rfl, rfl⟩
  rw [if_neg h14, if_neg h14]
  by_cases h15 : x = 15
  · rw [if_pos h15, if_pos h15, g_3_3, g_93_2, hB.2.1, g_137_31, hB.2.2.1]
    exact ⟨_, rfl, rfl⟩
  rw [if_neg h15, if_neg h15]
  by_cases h16 : x = 16
  · rw [if_pos h16, if_pos h16, g_3_2, g_11_2, hP.2.2.2.1, g_137_25, hP.2.2.2.2.1]
    exact ⟨_, rfl, rfl⟩
  rw [if_neg h16, if_neg h16]
  exact ⟨_, rfl, rfl⟩
