/-! the class's mixings -/
def GS (A A0 : cM) (t h : Nat → Nat) (j : Nat) : Prop := A 97 4 = nI (sz (stray t h) j) ∧ (∀ d, d < j → stray t h d = true → A 98 (sz (stray t h) d) = nI d ∧ A 99 (sz (stray t h) d) = nI (16 ^ t d) - nI (16 ^ h d)) ∧ ∀ a k, ¬ (97 ≤ a ∧ a ≤ 101) → A a k = A0 a k
/-- rings and surplus of all sets below s -/
def RS (A : cM) (t h : Nat → Nat) (D s : Nat) : Prop := ∀ x, x < s → A 100 x = spl t h (exs (stray t h) x) D ∧ ∃ k, MaxR D t h (exs (stray t h) x) k ∧ A 101 x = nI k
theorem MaxR.le {n : Nat} {t h : Nat → Nat} {X : Nat → Bool} {k : Nat} (hr : MaxR n t h X k) : k ≤ n := by
  obtain ⟨⟨Y, h1, h2⟩, -⟩ := hr
  have := h2.le_sz
  have := sz_le Y n
  omega
theorem xor_lt {s i : Nat} (h : s.testBit i = true) : s ^^^ 2 ^ i < s := by
  have e : (s ^^^ 2 ^ i) ||| 2 ^ i = s := by
    apply Nat.eq_of_testBit_eq
    intro j
    rw [Nat.testBit_or, Nat.testBit_xor, Nat.testBit_two_pow]
    by_cases hj : i = j
    · subst hj
      rw [h]
      simp
    · simp [hj]
  have hle : s ^^^ 2 ^ i ≤ (s ^^^ 2 ^ i) ||| 2 ^ i := Nat.left_le_or
  have hne : s ^^^ 2 ^ i ≠ s := fun z => by
    have q := congrArg (fun x => x.testBit i) z
    simp only [Nat.testBit_xor, Nat.testBit_two_pow_self, h] at q
    exact absurd q (by decide)
  omega
section M1
variable {ra rb L ro : Nat} {A A0 : cM} {D : Nat} {t h : Nat → Nat}
theorem gat (hro : c_rl ro) (hro1 : 112 < ro) (h6 : A0 ro 6 = nI D) (h3 : ∀ d, d < D → A0 (ro + 3) d = nI (h d)) (ht : ∀ d, d < D → A0 (6 + 1) d = nI (t d)) (hD : D ≤ 8) (h7t : ∀ d, d < D → t d < 7) (h7h : ∀ d, d < D → h d < 7) : ∀ (n j : Nat) (A : cM), j ≤ D → D < j + n → GS A A0 t h j → ∃ A', fX2_gatherStrays_7 n 97 ro 6 (nI j) (hp ra rb L A) = some ((), hp ra rb L A') ∧ GS A' A0 t h D := by
  intro n
  induction n with
  | zero =>
    intro j A h1 h2
    omega
  | succ n ih =>
    intro j A a1 a2 hG
    obtain ⟨g1, g2, g3⟩ := hG
    rw [fX2_gatherStrays_7, rg_6 hro, g3 _ _ (by omega), h6]
    by_cases hj : j < D
    · have t7 := h7t j hj
      have hh7 := h7h j hj
      have hsz := sz_le (stray t h) j
      have ej : A (6 + 1) j = nI (t j) := by rw [g3 _ _ (by decide)]; exact ht j hj
      have eh : A (ro + 3) j = nI (h j) := by rw [g3 _ _ (by omega)]; exact h3 j hj
      rw [if_neg (nI_ge hj (by omega)), sg_0 sn_6, sl_1 sn_6 (by omega), ej, rg_2 hro, rl_3 hro (by omega), eh]
      by_cases hs : t j = h j
      · rw [if_pos (by rw [hs]), fX2_gatherStrays_80, mlet, nI_1]
        refine ih (j + 1) A (by omega) (by omega) ⟨?_, fun d hd hW => ?_, g3⟩
        · rw [sz, if_neg (fun z => stray_t.mp z hs), Nat.add_zero]
          exact g1
        · refine g2 d ?_ hW
          refine Nat.lt_of_le_of_ne (by omega) fun q => ?_
          rw [q] at hW
          exact stray_t.mp hW hs
      · have hst : stray t h j = true := stray_t.mpr hs
        obtain ⟨A1, hA1⟩ : ∃ A1, A1 = u2 A 98 (sz (stray t h) j) (nI j) := ⟨_, rfl⟩
        obtain ⟨A2, hA2⟩ : ∃ A2, A2 = u2 A1 99 (sz (stray t h) j) (nI (16 ^ t j) - nI (16 ^ h j)) := ⟨_, rfl⟩
        obtain ⟨A3, hA3⟩ : ∃ A3, A3 = u2 A2 97 4 (nI (sz (stray t h) j + 1)) := ⟨_, rfl⟩
        have f1 : ∀ a k, a ≠ 98 → A1 a k = A a k := fun a k b => by rw [hA1, u2_na _ _ b]
        have f2 : ∀ a k, a ≠ 98 → a ≠ 99 → A2 a k = A a k := fun a k b c => by rw [hA2, u2_na _ _ c, f1 a k b]
        have e16 : ∀ x : Nat, x < 7 → (1 : Int32) <<< (((4 : Int32) * nI x) &&& 31) = nI (16 ^ x) := fun x hx => by
          have e4 : (4 : Int32) * nI x = nI (4 * x) := pk_mul 4 x
          rw [e4, sh1 (by omega), Nat.pow_mul]
        have e3 : A1 (6 + 1) j = nI (t j) := by rw [f1 _ _ (by decide)]; exact ej
        have e5 : A1 (ro + 3) j = nI (h j) := by rw [f1 _ _ (by omega)]; exact eh
        rw [if_neg (n_ne (by omega) (by omega) hs), g_97_0, g_97_4, g1, s_98 (by omega), ← hA1, g_97_1, g_97_4, f1 _ _ (by decide), g1, sg_0 sn_6, sl_1 sn_6 (by omega), e3, rg_2 hro, rl_3 hro (by omega), e5, e16 _ t7, e16 _ hh7, s_99 (by omega), ← hA2, g_97_4, f2 _ _ (by decide) (by decide), g1, nI_1, p_97_4, ← hA3, fX2_gatherStrays_80, mlet, nI_1]
        refine ih (j + 1) A3 (by omega) (by omega) ⟨?_, fun d hd hW => ?_, fun a k b => ?_⟩
        · rw [hA3, u2_s, sz, if_pos hst]
        · by_cases hq : d = j
          · rw [hq, hA3, u2_na _ _ (by decide), u2_na _ _ (by decide), hA2, u2_na _ _ (by decide), u2_s, hA1, u2_s]
            exact ⟨rfl, rfl⟩
          · have := sz_lt hW (show d < j by omega)
            rw [hA3, u2_na _ _ (by decide), u2_na _ _ (by decide), hA2, u2_na _ _ (by decide), u2_nk _ _ (by omega), hA1, u2_nk _ _ (by omega), u2_na _ _ (by decide)]
            exact g2 d (by omega) hW
        · rw [hA3, u2_na _ _ (by omega), hA2, u2_na _ _ (by omega), hA1, u2_na _ _ (by omega)]
          exact g3 a k b
    · have : j = D := by omega
      subst this
      rw [if_pos (nI_le (by omega) (by omega))]
      exact ⟨A, rfl, g1, g2, g3⟩
/-- one set -/
theorem cnt_in (hD : D ≤ 8) (hG : GS A A0 t h D) {s : Nat} (hs : s < 2 ^ sz (stray t h) D) (hR : RS A t h D s) {K : Nat → Int32 → Int32 → Int32 → MM Unit} : ∀ (n i m : Nat) (sum : Int32), i ≤ sz (stray t h) D → sz (stray t h) D < i + n → m ≤ 8 → (∀ d, d < D → exs (stray t h) s d = true → sz (stray t h) d < i → ∃ k, MaxR D t h (dif (exs (stray t h) s) (sng d)) k ∧ k ≤ m) → ((∃ d, d < D ∧ exs (stray t h) s d = true ∧ MaxR D t h (dif (exs (stray t h) s) (sng d)) m ∧ sum = spl t h (exs (stray t h) s) D) ∨ (m = 0 ∧ ∀ d, d < D → exs (stray t h) s d = true → ¬ sz (stray t h) d < i)) → ∃ (m' : Nat) (sum' : Int32), fX2_countRings_7 K n 97 (nI s) (nI m) sum (nI i) (hp ra rb L A) = K 97 (nI s) (nI m') sum' (hp ra rb L A) ∧ m' ≤ 8 ∧ (∀ d, d < D → exs (stray t h) s d = true → ∃ k, MaxR D t h (dif (exs (stray t h) s) (sng d)) k ∧ k ≤ m') ∧ ((∃ d, d < D ∧ exs (stray t h) s d = true ∧ MaxR D t h (dif (exs (stray t h) s) (sng d)) m' ∧ sum' = spl t h (exs (stray t h) s) D) ∨ (m' = 0 ∧ ∀ d, d < D → ¬ exs (stray t h) s d = true)) := by
  obtain ⟨g1, g2, g3⟩ := hG
  have hc8 := sz_le (stray t h) D
  have h2c : 2 ^ sz (stray t h) D ≤ 256 := upw (by omega)
  intro n
  induction n with
  | zero =>
    intro i m sum h1 h2
    omega
  | succ n ih =>
    intro i m sum a1 a2 hm8 I1 I2
    rw [fX2_countRings_7, g_97_4, g1]
    by_cases hi : i < sz (stray t h) D
    · obtain ⟨d, hd, hW, hdi⟩ := sz_at hi
      rw [if_neg (nI_ge hi (by omega)), has_n (by omega) (by omega)]
      rcases tb01 s i with ⟨e1, e2⟩ | ⟨e1, e2⟩
      · rw [e1, if_neg (show ¬ nI 0 = 1 by decide), fX2_countRings_62, mlet, nI_1]
        have no : ∀ x, x < D → exs (stray t h) s x = true → sz (stray t h) x ≠ i := fun x _ hX q => by
          have := (exs_t.mp hX).2
          rw [q, e2] at this
          exact absurd this (by decide)
        refine ih (i + 1) m sum (by omega) (by omega) hm8 (fun x hx hX hl => I1 x hx hX ?_) (I2.imp id fun ⟨q1, q2⟩ => ⟨q1, fun x hx hX hl => q2 x hx hX ?_⟩)
        · have := no x hx hX
          omega
        · have := no x hx hX
          omega
      · have hX : exs (stray t h) s d = true := exs_t.mpr ⟨hW, by rw [hdi]; exact e2⟩
        have hlt : s ^^^ 2 ^ i < s := xor_lt e2
        obtain ⟨r1, k', r2, r3⟩ := hR (s ^^^ 2 ^ i) hlt
        have ex : ∀ x, x < D → exs (stray t h) (s ^^^ 2 ^ i) x = dif (exs (stray t h) s) (sng d) x := fun x _ => by
          rw [← hdi]
          exact exs_rm hW (by rw [hdi]; exact e2) x
        have r4 := r2.congr ex
        have k8 := r4.le
        rw [spl_congr ex] at r1
        have r5 : A 99 i = nI (16 ^ t d) - nI (16 ^ h d) := by rw [← hdi]; exact (g2 d hd hW).2
        rw [e1, if_pos (show nI 1 = 1 from rfl), sh1 (by omega), nxor_n, mlet, g_97_3, l_101 (by omega), r3, c_mx_n (by omega) (by omega), mlet, g_97_2, l_100 (by omega), r1, g_97_1, l_99 (by omega), r5, mlet, spl_rm hX hd, fX2_countRings_62, mlet, nI_1]
        refine ih (i + 1) (max m k') _ (by omega) (by omega) (by omega) (fun x hx hXx hl => ?_) (Or.inl ?_)
        · by_cases hq : sz (stray t h) x = i
          · have : x = d := sz_inj (exs_t.mp hXx).1 hW (by rw [hq, hdi])
            subst this
            exact ⟨k', r4, Nat.le_max_right _ _⟩
          · obtain ⟨k, q1, q2⟩ := I1 x hx hXx (by omega)
            exact ⟨k, q1, Nat.le_trans q2 (Nat.le_max_left _ _)⟩
        · by_cases hle : m ≤ k'
          · rw [Nat.max_eq_right hle]
            exact ⟨d, hd, hX, r4, rfl⟩
          · rw [Nat.max_eq_left (by omega)]
            rcases I2 with ⟨x, q1, q2, q3, q4⟩ | ⟨q1, q2⟩
            · exact ⟨x, q1, q2, q3, rfl⟩
            · omega
    · have : i = sz (stray t h) D := by omega
      subst this
      rw [if_pos (nI_le (by omega) (by omega))]
      refine ⟨m, sum, rfl, hm8, fun d hd hX => I1 d hd hX (sz_lt (exs_t.mp hX).1 hd), I2.imp id fun ⟨q1, q2⟩ => ⟨q1, fun d hd hX => q2 d hd hX (sz_lt (exs_t.mp hX).1 hd)⟩⟩
theorem q_countRings (hD : D ≤ 8) (h7t : ∀ d, d < D → t d < 7) (h7h : ∀ d, d < D → h d < 7) (hG : GS A A0 t h D) {s : Nat} (hs0 : 1 ≤ s) (hs : s < 2 ^ sz (stray t h) D) (hR : RS A t h D s) : ∃ A', pX2_countRings 97 (nI s) (hp ra rb L A) = some ((), hp ra rb L A') ∧ GS A' A0 t h D ∧ RS A' t h D (s + 1) := by
  have hc8 := sz_le (stray t h) D
  have h2c : 2 ^ sz (stray t h) D ≤ 256 := upw (by omega)
  obtain ⟨m, sum, k1, k2, k3, k4⟩ := cnt_in (ra := ra) (rb := rb) (L := L) hD hG hs hR (K := fX2_countRings_68) c_fu 0 0 0 (Nat.zero_le _) (by show sz (stray t h) D < 0 + 1000; omega) (by decide) (fun d _ _ z => by omega) (Or.inr ⟨rfl, fun d _ _ z => by omega⟩)
  -- the set isn't empty
  have hne : ∃ d, d < D ∧ exs (stray t h) s d = true := by
    obtain ⟨i, hi⟩ := Nat.exists_testBit_of_ne_zero (show s ≠ 0 by omega)
    have hlt : i < sz (stray t h) D := Nat.lt_of_not_le fun z => by
      rw [tb_ge hs z] at hi
      exact absurd hi (by decide)
    obtain ⟨d, hd, hW, hdi⟩ := sz_at hlt
    exact ⟨d, hd, exs_t.mpr ⟨hW, by rw [hdi]; exact hi⟩⟩
  obtain ⟨d0, hd0, hX0⟩ := hne
  rcases k4 with ⟨d, q1, q2, q3, q4⟩ | ⟨q1, q2⟩
  · have st := MaxR.step ⟨d0, hd0, hX0⟩ k3 ⟨d, q1, q2, q3⟩
    have z0 := spl_0 (X := exs (stray t h) s) hD h7t h7h
    have fin : ∀ k : Nat, MaxR D t h (exs (stray t h) s) k → GS (u2 (u2 A 100 s sum) 101 s (nI k)) A0 t h D ∧ RS (u2 (u2 A 100 s sum) 101 s (nI k)) t h D (s + 1) := by
      intro k hk
      obtain ⟨g1, g2, g3⟩ := hG
      refine ⟨⟨?_, fun d hd hW => ?_, fun a k b => ?_⟩, fun x hx => ?_⟩
      · rw [u2_na _ _ (by decide), u2_na _ _ (by decide)]; exact g1
      · rw [u2_na _ _ (by decide), u2_na _ _ (by decide), u2_na _ _ (by decide), u2_na _ _ (by decide)]; exact g2 d hd hW
      · rw [u2_na _ _ (by omega), u2_na _ _ (by omega)]; exact g3 a k b
      · by_cases hq : x = s
        · rw [hq, u2_na _ _ (by decide), u2_s, u2_s]
          exact ⟨q4, k, hk, rfl⟩
        · rw [u2_na _ _ (by decide), u2_nk _ _ hq, u2_nk _ _ hq, u2_na _ _ (by decide)]
          exact hR x (by omega)
    by_cases hb : Bal D t h (exs (stray t h) s)
    · refine ⟨_, ?_, fin (m + 1) (st.1 hb)⟩
      rw [pX2_countRings]
      refine k1.trans ?_
      rw [fX2_countRings_68, g_97_2, s_100 (by omega), g_97_3, if_pos (q4.trans (z0.mpr hb)), fX2_countRings_91, nI_1, s_101 (by omega)]
      rfl
    · refine ⟨_, ?_, fin m (st.2 hb)⟩
      rw [pX2_countRings]
      refine k1.trans ?_
      rw [fX2_countRings_68, g_97_2, s_100 (by omega), g_97_3, if_neg (fun z => hb (z0.mp (q4.symm.trans z))), fX2_countRings_91, s_101 (by omega)]
      rfl
  · exact absurd hX0 (q2 d0 hd0)
theorem few_in (hD : D ≤ 8) (h7t : ∀ d, d < D → t d < 7) (h7h : ∀ d, d < D → h d < 7) {K : Nat → Int32 → MM Int32} : ∀ (n s : Nat) (A : cM), 1 ≤ s → s ≤ 2 ^ sz (stray t h) D → 2 ^ sz (stray t h) D < s + n → GS A A0 t h D → RS A t h D s → ∃ A', fX2_fewest_32 K n 97 (nI (2 ^ sz (stray t h) D - 1)) (nI s) (hp ra rb L A) = K 97 (nI (2 ^ sz (stray t h) D - 1)) (hp ra rb L A') ∧ GS A' A0 t h D ∧ RS A' t h D (2 ^ sz (stray t h) D) := by
  have hc8 := sz_le (stray t h) D
  have h2c : 2 ^ sz (stray t h) D ≤ 256 := upw (by omega)
  intro n
  induction n with
  | zero =>
    intro s A h0 h1 h2
    omega
  | succ n ih =>
    intro s A a0 a1 a2 hG hR
    rw [fX2_fewest_32]
    by_cases hs : s < 2 ^ sz (stray t h) D
    · obtain ⟨A1, k1, k2, k3⟩ := q_countRings (ra := ra) (rb := rb) (L := L) hD h7t h7h hG a0 hs hR
      rw [if_neg (nI_nlt (by omega) (by omega)), v_97, m_bind_some k1, mlet, nI_1]
      exact ih (s + 1) A1 (by omega) (by omega) (by omega) k2 k3
    · have : s = 2 ^ sz (stray t h) D := by omega
      subst this
      rw [if_pos (nI_lt (by omega) (by omega))]
      exact ⟨A, rfl, hG, hR⟩
/-- the fewest mixings, in the class -/
theorem q_mixes (hro : c_rl ro) (hro1 : 112 < ro) (h6 : A0 ro 6 = nI D) (h3 : ∀ d, d < D → A0 (ro + 3) d = nI (h d)) (ht : ∀ d, d < D → A0 (6 + 1) d = nI (t d)) (hD : D ≤ 8) (h7t : ∀ d, d < D → t d < 7) (h7h : ∀ d, d < D → h d < 7) : ∃ (r : Int32) (A : cM), pX2_fewest 97 ro 6 (hp ra rb L A0) = some (r, hp ra rb L A) ∧ GS A A0 t h D ∧ RS A t h D (2 ^ sz (stray t h) D) ∧ (Bal D t h (stray t h) → ∃ k, MaxP D t h (stray t h) k ∧ r = nI (sz (stray t h) D - k)) ∧ (¬ Bal D t h (stray t h) → r = -1) := by
  have hc8 := sz_le (stray t h) D
  have h2c : 2 ^ sz (stray t h) D ≤ 256 := upw (by omega)
  have h21 : 1 ≤ 2 ^ sz (stray t h) D := Nat.one_le_two_pow
  obtain ⟨A1, k1, k2⟩ := gat (ra := ra) (rb := rb) (L := L) (A0 := A0) hro hro1 h6 h3 ht hD h7t h7h c_fu 0 (u2 A0 97 4 0) (Nat.zero_le _) (by show D < 0 + 1000; omega) ⟨by rw [u2_s]; rfl, fun d hd => by omega, fun a k b => by rw [u2_na _ _ (by omega)]⟩
  have e1 : pX2_gatherStrays 97 ro 6 (hp ra rb L A0) = some ((), hp ra rb L A1) := by
    rw [pX2_gatherStrays, p_97_4]
    exact k1
  obtain ⟨g1, g2, g3⟩ := k2
  obtain ⟨A2, hA2⟩ : ∃ A2, A2 = u2 (u2 A1 100 0 0) 101 0 0 := ⟨_, rfl⟩
  have ex0 : ∀ d, d < D → exs (stray t h) 0 d = false := fun d _ => bf fun z => by
    have := (exs_t.mp z).2
    rw [Nat.zero_testBit] at this
    exact absurd this (by decide)
  have G2 : GS A2 A0 t h D := by
    refine ⟨?_, fun d hd hW => ?_, fun a k b => ?_⟩
    · rw [hA2, u2_na _ _ (by decide), u2_na _ _ (by decide)]; exact g1
    · rw [hA2, u2_na _ _ (by decide), u2_na _ _ (by decide), u2_na _ _ (by decide), u2_na _ _ (by decide)]; exact g2 d hd hW
    · rw [hA2, u2_na _ _ (by omega), u2_na _ _ (by omega)]; exact g3 a k b
  have R2 : RS A2 t h D 1 := fun x hx => by
    have : x = 0 := by omega
    subst this
    rw [hA2, u2_na _ _ (by decide), u2_s, u2_s]
    refine ⟨?_, 0, MaxR.emp ex0, rfl⟩
    unfold spl
    rw [za_e ex0, za_e ex0]
    rfl
  obtain ⟨A3, k3, k4, k5⟩ := few_in (ra := ra) (rb := rb) (L := L) (A0 := A0) hD h7t h7h (K := fX2_fewest_50) c_fu 1 A2 (by decide) h21 (by show 2 ^ sz (stray t h) D < 1 + 1000; omega) G2 R2
  have e2 : pX2_fewest 97 ro 6 (hp ra rb L A0) = fX2_fewest_50 97 (nI (2 ^ sz (stray t h) D - 1)) (hp ra rb L A3) := by
    have s0 := s_100 (ra := ra) (rb := rb) (L := L) (I := A1) (x := 0) (j := 0) (K := m_gr 97 2 3 (fun a4 => m_si a4 (0 : Int32) (0 : Int32) (fX2_fewest_32 fX2_fewest_50 c_fu 97 (nI (2 ^ sz (stray t h) D - 1)) 1))) (by decide)
    have s1 := s_101 (ra := ra) (rb := rb) (L := L) (I := u2 A1 100 0 0) (x := 0) (j := 0) (K := fX2_fewest_32 fX2_fewest_50 c_fu 97 (nI (2 ^ sz (stray t h) D - 1)) 1) (by decide)
    rw [pX2_fewest, v_97, m_bind_some e1, g_97_4, g1, all_n (by omega), mlet, g_97_2]
    refine s0.trans ?_
    rw [g_97_3]
    refine s1.trans ?_
    rw [← hA2]
    exact k3
  obtain ⟨r1, k, r2, r3⟩ := k5 (2 ^ sz (stray t h) D - 1) (by omega)
  have ea : ∀ d, d < D → exs (stray t h) (2 ^ sz (stray t h) D - 1) d = stray t h d := fun d hd => exs_all hd
  rw [spl_congr ea] at r1
  have z0 := spl_0 (X := stray t h) hD h7t h7h
  by_cases hb : Bal D t h (stray t h)
  · have mp := (r2.congr ea).max hb
    have ks := mp.1.le_sz
    refine ⟨nI (sz (stray t h) D - k), A3, ?_, k4, k5, fun _ => ⟨k, mp, rfl⟩, fun z => absurd hb z⟩
    rw [e2, fX2_fewest_50, g_97_2, l_100 (by omega), r1, if_pos (z0.mpr hb), g_97_4, k4.1, g_97_3, l_101 (by omega), r3, pk_sub ks]
    rfl
  · refine ⟨-1, A3, ?_, k4, k5, fun z => absurd z hb, fun _ => rfl⟩
    rw [e2, fX2_fewest_50, g_97_2, l_100 (by omega), r1, if_neg (fun z => hb (z0.mp z))]
    rfl
end M1
