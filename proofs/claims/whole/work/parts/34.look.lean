/-! sets of dolls by what they are; pairs close, look -/
section S1
variable {ra rb L ro : Nat} {A B : cM} {C D : Nat} {v kd hm : Nat → Nat} {pt q : Nat} {t s w e : Nat → Nat} {u y : Nat} {au he : Int32}
theorem q_strays (hro : c_rl ro) (h : CR A ro C D v kd hm pt q) (hc : CN A D t s w e u y au he) (ho : OKR C D v kd hm pt q) (hk : ∀ d, d < D → t d < C) : pX5_strays 6 ro (hp ra rb L A) = some (nI (bs (fun d => t d != hm d) D), hp ra rb L A) := by
  have hC := ho.1
  have hD := ho.2.2.1
  have key : ∀ (n j : Nat), j ≤ D → D < j + n → fX5_strays_4 n 6 ro (nI (bs (fun d => t d != hm d) j)) (nI j) (hp ra rb L A) = some (nI (bs (fun d => t d != hm d) D), hp ra rb L A) := by
    intro n
    induction n with
    | zero =>
      intro j h1 h2
      omega
    | succ n ih =>
      intro j a1 a2
      rw [fX5_strays_4, rg_6 hro, h.2.1]
      by_cases hj : j < D
      · have ih2 := ih (j + 1) (by omega) (by omega)
        have ht := hk j hj
        have hh := ho.2.2.2.2.2.2.1 j hj
        rw [if_neg (nI_ge hj (by omega)), sg_0 sn_6, sl_1 sn_6 (by omega), hc.1 j hj, rg_2 hro, rl_3 hro (by omega), h.2.2.2.2.1 j hj]
        by_cases hq : t j = hm j
        · rw [bs_0 (p := fun d => t d != hm d) (by simp [hq])] at ih2
          rw [hq, if_pos rfl, fX5_strays_33, mlet, nI_1]
          exact ih2
        · rw [bs_1 (p := fun d => t d != hm d) (by simp [hq])] at ih2
          rw [if_neg (n_ne (by omega) (by omega) hq), mlet, sh1 (by omega), or_n, fX5_strays_33, mlet, nI_1]
          exact ih2
      · have : j = D := by omega
        subst this
        rw [if_pos (nI_le (by omega) (by omega))]
        rfl
  rw [pX5_strays]
  exact key c_fu 0 (by omega) (by show D < 0 + 1000; omega)
theorem q_wrongOnes (h : MR B C D v kd hm pt q) (ht : ∀ d, d < D → B 142 d = nI (t d)) (ho : OKR C D v kd hm pt q) (hk : ∀ d, d < D → t d < C) : pX10_wrongOnes 137 (hp ra rb L B) = some (nI (bs (fun d => t d != hm d) D), hp ra rb L B) := by
  have hC := ho.1
  have hD := ho.2.2.1
  have key : ∀ (n j : Nat), j ≤ D → D < j + n → fX10_wrongOnes_4 n 137 (nI (bs (fun d => t d != hm d) j)) (nI j) (hp ra rb L B) = some (nI (bs (fun d => t d != hm d) D), hp ra rb L B) := by
    intro n
    induction n with
    | zero =>
      intro j h1 h2
      omega
    | succ n ih =>
      intro j a1 a2
      rw [fX10_wrongOnes_4, g_137_2, h.2.1]
      by_cases hj : j < D
      · have ih2 := ih (j + 1) (by omega) (by omega)
        have htj := hk j hj
        have hh := ho.2.2.2.2.2.2.1 j hj
        rw [if_neg (nI_ge hj (by omega)), g_137_8, l_142 (by omega), ht j hj, g_137_4, l_140 (by omega), h.2.2.2.2.1 j hj]
        by_cases hq : t j = hm j
        · rw [bs_0 (p := fun d => t d != hm d) (by simp [hq])] at ih2
          rw [hq, if_pos rfl, fX10_wrongOnes_35, mlet, mlet, or0, nI_1]
          exact ih2
        · rw [bs_1 (p := fun d => t d != hm d) (by simp [hq])] at ih2
          rw [if_neg (n_ne (by omega) (by omega) hq), fX10_wrongOnes_35, mlet, mlet, sh1 (by omega), or_n, nI_1]
          exact ih2
      · have : j = D := by omega
        subst this
        rw [if_pos (nI_le (by omega) (by omega))]
        rfl
  rw [pX10_wrongOnes]
  exact key c_fu 0 (by omega) (by show D < 0 + 1000; omega)
theorem q_dollsWith {a c : Nat} {f : Nat → Nat} (hr : c_rl ra) (h6 : A ra 6 = nI D) (hD : D ≤ 8) (hf : ∀ d, d < D → f d < 2 ^ 31) (hc : c < 2 ^ 31) (ha : ∀ d, d < D → ∀ K : Int32 → MM Int32, m_li 0 a (nI d) K (hp ra rb L A) = K (nI (f d)) (hp ra rb L A)) : pX9_dollsWith 3 a (nI c) (hp ra rb L A) = some (nI (bs (fun d => f d == c) D), hp ra rb L A) := by
  have key : ∀ (n j : Nat), j ≤ D → D < j + n → fX9_dollsWith_5 n 3 a (nI c) (nI (bs (fun d => f d == c) j)) (nI j) (hp ra rb L A) = some (nI (bs (fun d => f d == c) D), hp ra rb L A) := by
    intro n
    induction n with
    | zero =>
      intro j h1 h2
      omega
    | succ n ih =>
      intro j a1 a2
      rw [fX9_dollsWith_5, g_3_7, rg_6 hr, h6]
      by_cases hj : j < D
      · have ih2 := ih (j + 1) (by omega) (by omega)
        rw [if_neg (nI_ge hj (by omega)), ha j hj]
        by_cases hq : f j = c
        · rw [bs_1 (p := fun d => f d == c) (by simp [hq])] at ih2
          rw [hq, if_pos rfl, mlet, sh1 (by omega), or_n, fX9_dollsWith_32, mlet, nI_1]
          exact ih2
        · rw [bs_0 (p := fun d => f d == c) (by simp [hq])] at ih2
          rw [if_neg (n_ne (hf j hj) hc hq), fX9_dollsWith_32, mlet, nI_1]
          exact ih2
      · have : j = D := by omega
        subst this
        rw [if_pos (nI_le (by omega) (by omega))]
        rfl
  rw [pX9_dollsWith]
  exact key c_fu 0 (by omega) (by show D < 0 + 1000; omega)
theorem q_whoBelongsTo (h : MR B C D v kd hm pt q) (ho : OKR C D v kd hm pt q) {c : Nat} (hc31 : c < 2 ^ 31) : pX10_whoBelongsTo 137 (nI c) (hp ra rb L B) = some (nI (bs (fun d => hm d == c) D), hp ra rb L B) := by
  have hC := ho.1
  have hD := ho.2.2.1
  have key : ∀ (n j : Nat), j ≤ D → D < j + n → fX10_whoBelongsTo_4 n 137 (nI c) (nI (bs (fun d => hm d == c) j)) (nI j) (hp ra rb L B) = some (nI (bs (fun d => hm d == c) D), hp ra rb L B) := by
    intro n
    induction n with
    | zero =>
      intro j h1 h2
      omega
    | succ n ih =>
      intro j a1 a2
      rw [fX10_whoBelongsTo_4, g_137_2, h.2.1]
      by_cases hj : j < D
      · have ih2 := ih (j + 1) (by omega) (by omega)
        have hh := ho.2.2.2.2.2.2.1 j hj
        rw [if_neg (nI_ge hj (by omega)), g_137_4, l_140 (by omega), h.2.2.2.2.1 j hj]
        by_cases hq : hm j = c
        · rw [bs_1 (p := fun d => hm d == c) (by simp [hq])] at ih2
          rw [hq, if_pos rfl, fX10_whoBelongsTo_30, mlet, mlet, sh1 (by omega), or_n, nI_1]
          exact ih2
        · rw [bs_0 (p := fun d => hm d == c) (by simp [hq])] at ih2
          rw [if_neg (n_ne (by omega) hc31 hq), fX10_whoBelongsTo_30, mlet, mlet, or0, nI_1]
          exact ih2
      · have : j = D := by omega
        subst this
        rw [if_pos (nI_le (by omega) (by omega))]
        rfl
  rw [pX10_whoBelongsTo]
  exact key c_fu 0 (by omega) (by show D < 0 + 1000; omega)
theorem xor64 {a b : Nat} (ha : a < 64) (hb : b < 64) : a ^^^ b < 64 := Nat.xor_lt_two_pow (n := 6) ha hb
theorem q_within (hro : c_rl ro) (h : CR A ro C D v kd hm pt q) (hc : CN A D t s w e u y au he) (ho : OKR C D v kd hm pt q) (hk : ∀ d, d < D → s d < 64) {x : Nat} (hx : x < 2 ^ 31) : pX6_within ro 6 (nI x) (hp ra rb L A) = some (nI (bs (fun d => decide (pc (s d ^^^ pt) ≤ x)) D), hp ra rb L A) := by
  have hD := ho.2.2.1
  have hpt := ho.2.2.2.2.2.2.2.1
  have key : ∀ (n j : Nat), j ≤ D → D < j + n → fX6_within_5 n ro 6 (nI x) (nI (bs (fun d => decide (pc (s d ^^^ pt) ≤ x)) j)) (nI j) (hp ra rb L A) = some (nI (bs (fun d => decide (pc (s d ^^^ pt) ≤ x)) D), hp ra rb L A) := by
    intro n
    induction n with
    | zero =>
      intro j h1 h2
      omega
    | succ n ih =>
      intro j a1 a2
      rw [fX6_within_5, rg_6 hro, h.2.1]
      by_cases hj : j < D
      · have ih2 := ih (j + 1) (by omega) (by omega)
        have h6 := xor64 (hk j hj) hpt
        have h8 := pc_le (s j ^^^ pt)
        rw [if_neg (nI_ge hj (by omega)), sg_1 sn_6, sl_2 sn_6 (by omega), hc.2.1 j hj, rg_7 hro, h.2.2.2.2.2.1, nxor_n, m_bind_some (q_bitCount (by omega))]
        by_cases hq : pc (s j ^^^ pt) ≤ x
        · rw [bs_1 (p := fun d => decide (pc (s d ^^^ pt) ≤ x)) (by simp [hq])] at ih2
          rw [if_neg (nI_nlt hq hx), mlet, sh1 (by omega), or_n, fX6_within_40, mlet, nI_1]
          exact ih2
        · rw [bs_0 (p := fun d => decide (pc (s d ^^^ pt) ≤ x)) (by simp; omega)] at ih2
          rw [if_pos (nI_lt (by omega) (by omega)), fX6_within_40, mlet, nI_1]
          exact ih2
      · have : j = D := by omega
        subst this
        rw [if_pos (nI_le (by omega) (by omega))]
        rfl
  rw [pX6_within]
  exact key c_fu 0 (by omega) (by show D < 0 + 1000; omega)
theorem q_closeOnes (h : MR B C D v kd hm pt q) (hc : MN B D t s w e u y au he) (ho : OKR C D v kd hm pt q) (hk : ∀ d, d < D → s d < 64) {x : Nat} (hx : x < 2 ^ 31) : pX10_closeOnes 137 (nI x) (hp ra rb L B) = some (nI (bs (fun d => decide (pc (s d ^^^ pt) ≤ x)) D), hp ra rb L B) := by
  have hD := ho.2.2.1
  have hpt := ho.2.2.2.2.2.2.2.1
  have key : ∀ (n j : Nat), j ≤ D → D < j + n → fX10_closeOnes_4 n 137 (nI x) (nI (bs (fun d => decide (pc (s d ^^^ pt) ≤ x)) j)) (nI j) (hp ra rb L B) = some (nI (bs (fun d => decide (pc (s d ^^^ pt) ≤ x)) D), hp ra rb L B) := by
    intro n
    induction n with
    | zero =>
      intro j h1 h2
      omega
    | succ n ih =>
      intro j a1 a2
      rw [fX10_closeOnes_4, g_137_2, h.2.1]
      by_cases hj : j < D
      · have ih2 := ih (j + 1) (by omega) (by omega)
        have h6 := xor64 (hk j hj) hpt
        have h8 := pc_le (s j ^^^ pt)
        have e17 : (17 : Int32) + nI j = nI (17 + j) := nI_add 17 j
        rw [if_neg (nI_ge hj (by omega)), g_137_8, e17, l_142 (by omega), hc.2.1 j hj, g_137_6, h.2.2.2.2.2.1, nxor_n, m_bind_some (q_bits (by omega))]
        by_cases hq : pc (s j ^^^ pt) ≤ x
        · rw [bs_1 (p := fun d => decide (pc (s d ^^^ pt) ≤ x)) (by simp [hq])] at ih2
          rw [if_neg (nI_nlt hq hx), fX10_closeOnes_41, mlet, mlet, sh1 (by omega), or_n, nI_1]
          exact ih2
        · rw [bs_0 (p := fun d => decide (pc (s d ^^^ pt) ≤ x)) (by simp; omega)] at ih2
          rw [if_pos (nI_lt (by omega) (by omega)), fX10_closeOnes_41, mlet, mlet, or0, nI_1]
          exact ih2
      · have : j = D := by omega
        subst this
        rw [if_pos (nI_le (by omega) (by omega))]
        rfl
  rw [pX10_closeOnes]
  exact key c_fu 0 (by omega) (by show D < 0 + 1000; omega)
theorem q_fitting (hro : c_rl ro) (h : CR A ro C D v kd hm pt q) (hc : CN A D t s w e u y au he) (ho : OKR C D v kd hm pt q) (hk : ∀ d, d < D → s d < 64) {x : Nat} (hx : x < 64) : pX6_fitting ro 6 (nI x) (hp ra rb L A) = some (nI (bs (fun d => (s d ^^^ pt) &&& x == 0) D), hp ra rb L A) := by
  have hD := ho.2.2.1
  have hpt := ho.2.2.2.2.2.2.2.1
  have key : ∀ (n j : Nat), j ≤ D → D < j + n → fX6_fitting_5 n ro 6 (nI x) (nI (bs (fun d => (s d ^^^ pt) &&& x == 0) j)) (nI j) (hp ra rb L A) = some (nI (bs (fun d => (s d ^^^ pt) &&& x == 0) D), hp ra rb L A) := by
    intro n
    induction n with
    | zero =>
      intro j h1 h2
      omega
    | succ n ih =>
      intro j a1 a2
      rw [fX6_fitting_5, rg_6 hro, h.2.1]
      by_cases hj : j < D
      · have ih2 := ih (j + 1) (by omega) (by omega)
        have h6 : (s j ^^^ pt) &&& x ≤ x := Nat.and_le_right
        rw [if_neg (nI_ge hj (by omega)), sg_1 sn_6, sl_2 sn_6 (by omega), hc.2.1 j hj, rg_7 hro, h.2.2.2.2.2.1, nxor_n, nand_n]
        by_cases hq : (s j ^^^ pt) &&& x = 0
        · rw [bs_1 (p := fun d => (s d ^^^ pt) &&& x == 0) (by simp [hq])] at ih2
          rw [hq, if_pos (by decide), mlet, sh1 (by omega), or_n, fX6_fitting_38, mlet, nI_1]
          exact ih2
        · rw [bs_0 (p := fun d => (s d ^^^ pt) &&& x == 0) (by simp [hq])] at ih2
          rw [if_neg (nI_ne0 (by omega) (by omega)), fX6_fitting_38, mlet, nI_1]
          exact ih2
      · have : j = D := by omega
        subst this
        rw [if_pos (nI_le (by omega) (by omega))]
        rfl
  rw [pX6_fitting]
  exact key c_fu 0 (by omega) (by show D < 0 + 1000; omega)
theorem q_likeIn (h : MR B C D v kd hm pt q) (hc : MN B D t s w e u y au he) (ho : OKR C D v kd hm pt q) (hk : ∀ d, d < D → s d < 64) {x : Nat} (hx : x < 64) : pX10_likeIn 137 (nI x) (hp ra rb L B) = some (nI (bs (fun d => (s d ^^^ pt) &&& x == 0) D), hp ra rb L B) := by
  have hD := ho.2.2.1
  have hpt := ho.2.2.2.2.2.2.2.1
  have key : ∀ (n j : Nat), j ≤ D → D < j + n → fX10_likeIn_4 n 137 (nI x) (nI (bs (fun d => (s d ^^^ pt) &&& x == 0) j)) (nI j) (hp ra rb L B) = some (nI (bs (fun d => (s d ^^^ pt) &&& x == 0) D), hp ra rb L B) := by
    intro n
    induction n with
    | zero =>
      intro j h1 h2
      omega
    | succ n ih =>
      intro j a1 a2
      rw [fX10_likeIn_4, g_137_2, h.2.1]
      by_cases hj : j < D
      · have ih2 := ih (j + 1) (by omega) (by omega)
        have h6 : (s j ^^^ pt) &&& x ≤ x := Nat.and_le_right
        have e17 : (17 : Int32) + nI j = nI (17 + j) := nI_add 17 j
        rw [if_neg (nI_ge hj (by omega)), g_137_8, e17, l_142 (by omega), hc.2.1 j hj, g_137_6, h.2.2.2.2.2.1, nxor_n, nand_n]
        by_cases hq : (s j ^^^ pt) &&& x = 0
        · rw [bs_1 (p := fun d => (s d ^^^ pt) &&& x == 0) (by simp [hq])] at ih2
          rw [hq, if_pos (by decide), fX10_likeIn_39, mlet, mlet, sh1 (by omega), or_n, nI_1]
          exact ih2
        · rw [bs_0 (p := fun d => (s d ^^^ pt) &&& x == 0) (by simp [hq])] at ih2
          rw [if_neg (nI_ne0 (by omega) (by omega)), fX10_likeIn_39, mlet, mlet, or0, nI_1]
          exact ih2
      · have : j = D := by omega
        subst this
        rw [if_pos (nI_le (by omega) (by omega))]
        rfl
  rw [pX10_likeIn]
  exact key c_fu 0 (by omega) (by show D < 0 + 1000; omega)
/-- how many of the set have the sign -/
def hav (s : Nat → Nat) (x k : Nat) : Nat → Nat
  | 0 => 0
  | d + 1 => hav s x k d + tb x d * tb (s d) k
theorem tb_and {x y a b : Nat} (hx : x < 2 ^ 31) (hy : y < 2 ^ 31) (ha : a < 31) (hb : b < 31) : ((nI x >>> (nI a &&& 31)) &&& (nI y >>> (nI b &&& 31))) &&& 1 = nI (tb x a * tb y b) := by
  rw [Int32.and_assoc, show (1 : Int32) = 1 &&& 1 by decide, Int32.and_comm (nI y >>> (nI b &&& 31)) (1 &&& 1), Int32.and_assoc 1 1, Int32.and_comm 1 (nI y >>> (nI b &&& 31)), ← Int32.and_assoc _ 1, has_n hx ha, has_n hy hb, nand_n]
  rcases tb01 x a with ⟨e1, -⟩ | ⟨e1, -⟩ <;> rcases tb01 y b with ⟨e2, -⟩ | ⟨e2, -⟩ <;> rw [e1, e2] <;> rfl
theorem c_mx_le (a b : Int32) : (if a ≤ b then b else a) = c_mx a b := by
  unfold c_mx
  by_cases h : a < b
  · rw [if_pos h, if_pos (Int32.le_of_lt h)]
  · rw [if_neg h]
    by_cases h2 : a ≤ b
    · rw [if_pos h2]
      rw [t_lt] at h
      rw [t_le] at h2
      exact Int32.toInt_inj.mp (by omega)
    · rw [if_neg h2]
theorem part_in (hro : c_rl ro) (h : CR A ro C D v kd hm pt q) (hc : CN A D t s w e u y au he) (hD : D ≤ 8) (hk : ∀ d, d < D → s d < 64) {x k : Nat} (hx : x < 256) (hk6 : k < 6) {K : Nat → Nat → Int32 → Int32 → Int32 → Int32 → Int32 → Int32 → MM Int32} {x3 x4 x5 : Int32} : ∀ (n j : Nat), j ≤ D → D < j + n → fX6_parting_27 K n ro 6 (nI x) x3 x4 x5 (nI k) (nI (hav s x k j)) (nI j) (hp ra rb L A) = K ro 6 (nI x) x3 x4 x5 (nI k) (nI (hav s x k D)) (hp ra rb L A) := by
  intro n
  induction n with
  | zero =>
    intro j h1 h2
    omega
  | succ n ih =>
    intro j a1 a2
    rw [fX6_parting_27, rg_6 hro, h.2.1]
    by_cases hj : j < D
    · have hsj := hk j hj
      rw [if_neg (nI_ge hj (by omega)), sg_1 sn_6, sl_2 sn_6 (by omega), hc.2.1 j hj, mlet, mlet, tb_and (by omega) (by omega) (by omega) (by omega), nI_add, nI_1]
      exact ih (j + 1) (by omega) (by omega)
    · have : j = D := by omega
      subst this
      rw [if_pos (nI_le (by omega) (by omega))]
theorem next_in (h : MR B C D v kd hm pt q) (hc : MN B D t s w e u y au he) (hD : D ≤ 8) (hk : ∀ d, d < D → s d < 64) {x k : Nat} (hx : x < 256) (hk6 : k < 6) {K : Nat → Int32 → Int32 → Int32 → Int32 → Int32 → MM Int32} {x3 x4 : Int32} : ∀ (n j : Nat), j ≤ D → D < j + n → fX10_nextSign_23 K n 137 (nI x) x3 x4 (nI k) (nI (hav s x k j)) (nI j) (hp ra rb L B) = K 137 (nI x) x3 x4 (nI k) (nI (hav s x k D)) (hp ra rb L B) := by
  intro n
  induction n with
  | zero =>
    intro j h1 h2
    omega
  | succ n ih =>
    intro j a1 a2
    rw [fX10_nextSign_23, g_137_2, h.2.1]
    by_cases hj : j < D
    · have ih2 := ih (j + 1) (by omega) (by omega)
      have hsj := hk j hj
      rw [hav] at ih2
      have e17 : (17 : Int32) + nI j = nI (17 + j) := nI_add 17 j
      rw [if_neg (nI_ge hj (by omega)), m_bind_some (q_hasN (by omega) (by omega))]
      rcases tb01 x j with ⟨e1, -⟩ | ⟨e1, -⟩
      · rw [e1, Nat.zero_mul, Nat.add_zero] at ih2
        rw [e1, if_pos (by decide), fX10_nextSign_65, fX10_nextSign_66, mlet, mlet, add0, nI_1]
        exact ih2
      · rw [e1, Nat.one_mul] at ih2
        rw [e1, if_neg (by decide), g_137_8, e17, l_142 (by omega), hc.2.1 j hj, m_bind_some (q_hasN (by omega) (by omega))]
        rcases tb01 (s j) k with ⟨e2, -⟩ | ⟨e2, -⟩
        · rw [e2, Nat.add_zero] at ih2
          rw [e2, if_pos (by decide), fX10_nextSign_65, fX10_nextSign_66, mlet, mlet, add0, nI_1]
          exact ih2
        · rw [e2] at ih2
          rw [e2, if_neg (by decide), fX10_nextSign_66, mlet, mlet, nI_1, nI_1]
          exact ih2
    · have : j = D := by omega
      subst this
      rw [if_pos (nI_le (by omega) (by omega))]
theorem q_part (hro : c_rl ro) (h : CR A ro C D v kd hm pt q) (hc : CN A D t s w e u y au he) (h2 : MR A C D v kd hm pt q) (hc2 : MN A D t s w e u y au he) (hD : D ≤ 8) (hk : ∀ d, d < D → s d < 64) {x : Nat} (hx : x < 256) : ∃ r, pX6_parting ro 6 (nI x) (hp ra rb L A) = some (r, hp ra rb L A) ∧ pX10_nextSign 137 (nI x) (hp ra rb L A) = some (r, hp ra rb L A) := by
  have key : ∀ (n j : Nat) (b l : Int32), j ≤ 6 → 6 < j + n → ∃ r, fX6_parting_14 n ro 6 (nI x) (nI (pc x)) b l (nI j) (hp ra rb L A) = some (r, hp ra rb L A) ∧ fX10_nextSign_10 n 137 (nI x) b l (nI j) (hp ra rb L A) = some (r, hp ra rb L A) := by
    intro n
    induction n with
    | zero =>
      intro j b l h1 h2
      omega
    | succ n ih =>
      intro j b l a1 a2
      rw [fX6_parting_14, fX10_nextSign_10]
      by_cases hj : j < 6
      · rw [if_neg (show ¬ (6 : Int32) ≤ nI j from nI_ge (b := 6) hj (by decide)), if_neg (show ¬ (6 : Int32) ≤ nI j from nI_ge (b := 6) hj (by decide))]
        have p1 := part_in (ra := ra) (rb := rb) (L := L) hro h hc hD hk hx hj (K := fX6_parting_64 (fX6_parting_14 n)) (x3 := nI (pc x)) (x4 := b) (x5 := l) c_fu 0 (by omega) (by show D < 0 + 1000; omega)
        have p2 := next_in (ra := ra) (rb := rb) (L := L) h2 hc2 hD hk hx hj (K := fX10_nextSign_75 (fX10_nextSign_10 n)) (x3 := b) (x4 := l) c_fu 0 (by omega) (by show D < 0 + 1000; omega)
        rw [show (0 : Int32) = nI (hav s x j 0) from rfl, show nI (hav s x j 0) = nI 0 from rfl] at *
        rw [p1, p2, fX6_parting_64, fX10_nextSign_75, m_bind_some (q_bits (by omega)), mlet]
        obtain ⟨m, hm⟩ : ∃ m, m = c_mx (nI (hav s x j D)) (nI (pc x) - nI (hav s x j D)) := ⟨_, rfl⟩
        have e3 : (if nI (hav s x j D) ≤ nI (pc x) - nI (hav s x j D) then m_bind (pX10_bits (nI x)) (fun x2 => fX10_nextSign_99 (fX10_nextSign_10 n) 137 (nI x) b l (nI j) (x2 - nI (hav s x j D))) else fX10_nextSign_99 (fX10_nextSign_10 n) 137 (nI x) b l (nI j) (nI (hav s x j D))) (hp ra rb L A) = fX10_nextSign_99 (fX10_nextSign_10 n) 137 (nI x) b l (nI j) m (hp ra rb L A) := by
          rw [hm, ← c_mx_le]
          by_cases hle : nI (hav s x j D) ≤ nI (pc x) - nI (hav s x j D)
          · rw [if_pos hle, if_pos hle, m_bind_some (q_bits (by omega))]
          · rw [if_neg hle, if_neg hle]
        rw [e3, ← hm, fX10_nextSign_99]
        by_cases hl : l ≤ m
        · rw [if_pos hl, if_pos hl, fX6_parting_90, mlet, fX10_nextSign_113, if_pos hl, fX10_nextSign_126, mlet, nI_1]
          exact ih (j + 1) b l (by omega) (by omega)
        · rw [if_neg hl, if_neg hl, fX6_parting_90, mlet, fX10_nextSign_113, if_neg hl, fX10_nextSign_126, mlet, nI_1]
          exact ih (j + 1) (nI j) m (by omega) (by omega)
      · have : j = 6 := by omega
        subst this
        rw [if_pos (by decide), if_pos (by decide)]
        exact ⟨b, rfl, rfl⟩
  obtain ⟨r, k1, k2⟩ := key c_fu 0 (-1) (nI (pc x)) (by decide) (by decide)
  refine ⟨r, ?_, ?_⟩
  · rw [pX6_parting, m_bind_some (q_bitCount hx)]
    exact k1
  · rw [pX10_nextSign, m_bind_some (q_bits (by omega))]
    exact k2
end S1
theorem pr_close (L : Nat) (xs : Nat → Int32) (hL : L ≤ 192) (x : Int32) : Pr L xs (pX9_close 3 x) (pX10_close 137 x) := by
  refine Pr.same fun ra rb I hR => ?_
  obtain ⟨C, D, v, kd, hm, pt, q, hab, hRo, hT, hN, -⟩ := hR
  have hr := hab.rl
  obtain ⟨t, s, w, e, u, yy, au, he, hc1, hm1, hok⟩ := scn_to hN
  rw [pX9_close, pX10_close]
  have e0 : (0 : Int64) = (0 : Int32).toInt64 := rfl
  have e6 : (6 : Int64) = (6 : Int32).toInt64 := rfl
  by_cases h0 : x < 0
  · rw [if_pos h0, e0, e6, m_bind_some (c_in_f (Or.inl h0))]
    exact ⟨_, rfl, rfl⟩
  · by_cases h6 : x ≤ 6
    · obtain ⟨n, hn, rfl⟩ := nI_of2 (M := 6) (n := 6) (by decide) h0 h6
      rw [if_neg h0, if_pos h6, e0, e6, m_bind_some (c_in_t (Int32.not_lt.mp h0) h6), if_neg ne10, g_3_7, g_3_1, m_bind_some (q_within hr hRo.c hc1 hRo.o (fun d hd => (hok.1 d hd).2.1) (by omega)), v_137, m_bind_some (q_closeOnes hRo.m hm1 hRo.o (fun d hd => (hok.1 d hd).2.1) (by omega))]
      exact ⟨_, rfl, rfl⟩
    · rw [if_neg h0, if_neg h6, e0, e6, m_bind_some (c_in_f (Or.inr (Int32.not_le.mp h6)))]
      exact ⟨_, rfl, rfl⟩
theorem pr_look (L : Nat) (xs : Nat → Int32) (hL : L ≤ 192) (x y : Int32) : Pr L xs (pX9_look 3 x y) (pX10_look 137 x y) := by
  refine Pr.same fun ra rb I hR => ?_
  obtain ⟨C, D, v, kd, hm, pt, q, hab, hRo, hT, hN, -⟩ := hR
  have hr := hab.rl
  obtain ⟨t, s, w, e, u, yy, au, he, hc1, hm1, hok⟩ := scn_to hN
  rw [pX9_look, pX10_look]
  have e0 : (0 : Int64) = (0 : Int32).toInt64 := rfl
  have e6 : (63 : Int64) = (63 : Int32).toInt64 := rfl
  have e1 : (1 : Int64) = (1 : Int32).toInt64 := rfl
  by_cases h0 : x < 0
  · rw [if_pos h0, e0, e6, m_bind_some (c_in_f (Or.inl h0))]
    exact ⟨_, rfl, rfl⟩
  by_cases h6 : 63 < x
  · rw [if_neg h0, if_pos h6, e0, e6, m_bind_some (c_in_f (Or.inr h6))]
    exact ⟨_, rfl, rfl⟩
  have h66 := Int32.not_lt.mp h6
  by_cases h1 : y < 0
  · rw [if_neg h0, if_neg h6, if_pos h1, e0, e6, m_bind_some (c_in_t (Int32.not_lt.mp h0) h66), if_neg ne10, e1, m_bind_some (c_in_f (Or.inl h1))]
    exact ⟨_, rfl, rfl⟩
  by_cases h2 : y ≤ 1
  · obtain ⟨n, hn, rfl⟩ := nI_of2 (M := 63) (n := 63) (by decide) h0 h66
    have hD := hRo.o.2.2.1
    have hb := bs_lt (fun d => (s d ^^^ pt) &&& n == 0) D
    have hD2 := upw hD
    rw [if_neg h0, if_neg h6, if_neg h1, if_pos h2, e0, e6, m_bind_some (c_in_t (Int32.not_lt.mp h0) h66), if_neg ne10, e1, m_bind_some (c_in_t (Int32.not_lt.mp h1) h2), if_neg ne10, g_3_7, g_3_1, m_bind_some (q_fitting hr hRo.c hc1 hRo.o (fun d hd => (hok.1 d hd).2.1) (by omega)), v_137, m_bind_some (q_likeIn hRo.m hm1 hRo.o (fun d hd => (hok.1 d hd).2.1) (by omega))]
    by_cases hy : y = 0
    · rw [if_pos hy, if_pos hy]
      exact ⟨_, rfl, rfl⟩
    · obtain ⟨r, k1, k2⟩ := q_part (ra := ra) (rb := rb) (L := L) hr hRo.c hc1 hRo.m hm1 hD (fun d hd => (hok.1 d hd).2.1) (x := bs (fun d => (s d ^^^ pt) &&& n == 0) D) (by omega)
      rw [if_neg hy, if_neg hy, g_3_7, g_3_1, m_bind_some k1, v_137, m_bind_some k2]
      exact ⟨_, rfl, rfl⟩
  · rw [if_neg h0, if_neg h6, if_neg h1, if_neg h2, e0, e6, m_bind_some (c_in_t (Int32.not_lt.mp h0) h66), if_neg ne10, e1, m_bind_some (c_in_f (Or.inr (Int32.not_le.mp h2)))]
    exact ⟨_, rfl, rfl⟩
