/-! the class's least first mixing -/
def LPr (X : Nat → Bool) (D m : Nat) : Prop := ∃ d e, d < e ∧ e < D ∧ X d = true ∧ X e = true ∧ (∀ x, x < D → X x = true → x = d ∨ e ≤ x) ∧ m = 10 * d + e
theorem LPr.uniq {X : Nat → Bool} {D m m' : Nat} (h1 : LPr X D m) (h2 : LPr X D m') : m = m' := by
  obtain ⟨d, e, a1, a2, a3, a4, a5, a6⟩ := h1
  obtain ⟨d', e', b1, b2, b3, b4, b5, b6⟩ := h2
  have c1 := a5 d' (by omega) b3
  have c2 := b5 d (by omega) a3
  have c3 := a5 e' b2 b4
  have c4 := b5 e a2 a4
  omega
/-- the sets that open a row of fewest mixings -/
def CD (D : Nat) (t h : Nat → Nat) (s : Nat) : Prop := Bal D t h (exs (stray t h) s) ∧ ∃ k1, MaxR D t h (dif (stray t h) (exs (stray t h) s)) k1 ∧ MaxR D t h (stray t h) (k1 + 1)
theorem MaxR.uniq {n : Nat} {t h : Nat → Nat} {X : Nat → Bool} {k k' : Nat} (h1 : MaxR n t h X k) (h2 : MaxR n t h X k') : k = k' := by
  obtain ⟨⟨Y, a1, a2⟩, a3⟩ := h1
  obtain ⟨⟨Z, b1, b2⟩, b3⟩ := h2
  have := a3 k' Z b1 b2
  have := b3 k Y a1 a2
  omega
section M2
variable {ra rb L ro : Nat} {A A0 : cM} {D : Nat} {t h : Nat → Nat}
theorem pair_in (hD : D ≤ 8) (hG : GS A A0 t h D) {s a b : Nat} (hs : s < 2 ^ sz (stray t h) D) (ha : a < D) (hb : b < D) (hab : a ≠ b) (hXa : exs (stray t h) s a = true) (hXb : exs (stray t h) s b = true) : ∀ (n i : Nat) (le : Int32), i ≤ sz (stray t h) D → sz (stray t h) D < i + n → ((le = -1 ∧ ∀ x, x < D → exs (stray t h) s x = true → ¬ sz (stray t h) x < i) ∨ (∃ d, le = nI d ∧ d < D ∧ exs (stray t h) s d = true ∧ sz (stray t h) d < i ∧ ∀ x, x < D → exs (stray t h) s x = true → sz (stray t h) x < i → x = d)) → ∃ m, LPr (exs (stray t h) s) D m ∧ fX2_leastPair_4 fX2_leastPair_26 n 97 (nI s) le (nI i) (hp ra rb L A) = some (nI m, hp ra rb L A) := by
  obtain ⟨g1, g2, g3⟩ := hG
  have hc8 := sz_le (stray t h) D
  have h2c : 2 ^ sz (stray t h) D ≤ 256 := upw (by omega)
  intro n
  induction n with
  | zero =>
    intro i le h1 h2
    omega
  | succ n ih =>
    intro i le a1 a2 hI
    rw [fX2_leastPair_4, g_97_4, g1]
    by_cases hi : i < sz (stray t h) D
    · obtain ⟨e, he, hW, hei⟩ := sz_at hi
      have e98 : A 98 i = nI e := by rw [← hei]; exact (g2 e he hW).1
      rw [if_neg (nI_ge hi (by omega)), has_n (by omega) (by omega)]
      rcases tb01 s i with ⟨e1, e2⟩ | ⟨e1, e2⟩
      · rw [e1, if_neg (show ¬ nI 0 = 1 by decide), fX2_leastPair_45, mlet, nI_1]
        have no : ∀ x, x < D → exs (stray t h) s x = true → sz (stray t h) x ≠ i := fun x _ hX q => by
          have := (exs_t.mp hX).2
          rw [q, e2] at this
          exact absurd this (by decide)
        refine ih (i + 1) le (by omega) (by omega) (hI.imp (fun ⟨q1, q2⟩ => ⟨q1, fun x hx hX hl => q2 x hx hX ?_⟩) fun ⟨d, q1, q2, q3, q4, q5⟩ => ⟨d, q1, q2, q3, by omega, fun x hx hX hl => q5 x hx hX ?_⟩)
        · have := no x hx hX
          omega
        · have := no x hx hX
          omega
      · have hX : exs (stray t h) s e = true := exs_t.mpr ⟨hW, by rw [hei]; exact e2⟩
        rw [e1, if_pos (show nI 1 = 1 from rfl)]
        rcases hI with ⟨q1, q2⟩ | ⟨d, q1, q2, q3, q4, q5⟩
        · rw [if_pos q1, g_97_0, l_98 (by omega), e98, fX2_leastPair_45, mlet, nI_1]
          refine ih (i + 1) (nI e) (by omega) (by omega) (Or.inr ⟨e, rfl, he, hX, by omega, fun x hx hXx hl => ?_⟩)
          have := q2 x hx hXx
          exact sz_inj (exs_t.mp hXx).1 hW (by omega)
        · have hne : ¬ le = -1 := fun z => by
            rw [q1] at z
            exact nI_pos (n := d) (by omega) (by rw [z]; decide)
          have e10 : (10 : Int32) * nI d = nI (10 * d) := pk_mul 10 d
          have hde : d < e := Nat.lt_of_not_le fun z => by
            have := sz_mono (stray t h) z
            omega
          refine ⟨10 * d + e, ⟨d, e, hde, he, q3, hX, fun x hx hXx => ?_, rfl⟩, ?_⟩
          · by_cases hl : sz (stray t h) x < i
            · exact Or.inl (q5 x hx hXx hl)
            · refine Or.inr (Nat.le_of_not_lt fun z => ?_)
              have := sz_lt (exs_t.mp hXx).1 z
              omega
          · rw [if_neg hne, fX2_leastPair_26, g_97_0, l_98 (by omega), e98, q1, e10, nI_add]
            rfl
    · exfalso
      have la := sz_lt (exs_t.mp hXa).1 ha
      have lb := sz_lt (exs_t.mp hXb).1 hb
      rcases hI with ⟨q1, q2⟩ | ⟨d, q1, q2, q3, q4, q5⟩
      · exact q2 a ha hXa (by omega)
      · have z1 := q5 a ha hXa (by omega)
        have z2 := q5 b hb hXb (by omega)
        omega
theorem q_leastPair (hD : D ≤ 8) (hG : GS A A0 t h D) {s : Nat} (hs0 : 1 ≤ s) (hs : s < 2 ^ sz (stray t h) D) (hb : Bal D t h (exs (stray t h) s)) : ∃ m, LPr (exs (stray t h) s) D m ∧ pX2_leastPair 97 (nI s) (hp ra rb L A) = some (nI m, hp ra rb L A) := by
  have hc8 := sz_le (stray t h) D
  obtain ⟨i, hi⟩ := Nat.exists_testBit_of_ne_zero (show s ≠ 0 by omega)
  have hlt : i < sz (stray t h) D := Nat.lt_of_not_le fun z => by
    rw [tb_ge hs z] at hi
    exact absurd hi (by decide)
  obtain ⟨d, hd, hW, hdi⟩ := sz_at hlt
  have hX : exs (stray t h) s d = true := exs_t.mpr ⟨hW, by rw [hdi]; exact hi⟩
  obtain ⟨e, he, hne, hXe⟩ := two_in (X := exs (stray t h) s) (fun x _ z => (exs_t.mp z).1) hb hd hX
  exact pair_in (ra := ra) (rb := rb) (L := L) hD hG hs hd he (fun z => hne z.symm) hX hXe c_fu 0 (-1) (Nat.zero_le _) (by show sz (stray t h) D < 0 + 1000; omega) (Or.inl ⟨rfl, fun x _ _ z => by omega⟩)
theorem open_in (hD : D ≤ 8) (h7t : ∀ d, d < D → t d < 7) (h7h : ∀ d, d < D → h d < 7) (hG : GS A A0 t h D) (hR : RS A t h D (2 ^ sz (stray t h) D)) : ∀ (n s : Nat) (le : Int32), 1 ≤ s → s ≤ 2 ^ sz (stray t h) D → 2 ^ sz (stray t h) D < s + n → ((le = -1 ∧ ∀ x, 1 ≤ x → x < s → ¬ CD D t h x) ∨ (∃ m, le = nI m ∧ m < 100 ∧ (∃ x, 1 ≤ x ∧ x < s ∧ CD D t h x ∧ LPr (exs (stray t h) x) D m) ∧ ∀ x, 1 ≤ x → x < s → CD D t h x → ∀ m', LPr (exs (stray t h) x) D m' → m ≤ m')) → ∃ r, fX2_leastOpening_26 n 97 (nI (2 ^ sz (stray t h) D - 1)) le (nI s) (hp ra rb L A) = some (r, hp ra rb L A) ∧ ((r = -1 ∧ ∀ x, 1 ≤ x → x < 2 ^ sz (stray t h) D → ¬ CD D t h x) ∨ (∃ m, r = nI m ∧ m < 100 ∧ (∃ x, 1 ≤ x ∧ x < 2 ^ sz (stray t h) D ∧ CD D t h x ∧ LPr (exs (stray t h) x) D m) ∧ ∀ x, 1 ≤ x → x < 2 ^ sz (stray t h) D → CD D t h x → ∀ m', LPr (exs (stray t h) x) D m' → m ≤ m')) := by
  have hc8 := sz_le (stray t h) D
  have h2c : 2 ^ sz (stray t h) D ≤ 256 := upw (by omega)
  obtain ⟨-, ka, ra2, ra3⟩ := hR (2 ^ sz (stray t h) D - 1) (by have : 1 ≤ 2 ^ sz (stray t h) D := Nat.one_le_two_pow; omega)
  have ra4 := ra2.congr (Y := stray t h) fun d hd => exs_all hd
  have ka8 := ra4.le
  intro n
  induction n with
  | zero =>
    intro s le h0 h1 h2
    omega
  | succ n ih =>
    intro s le a0 a1 a2 hI
    rw [fX2_leastOpening_26]
    by_cases hs : s < 2 ^ sz (stray t h) D
    · obtain ⟨r1, -⟩ := hR s hs
      have hx : (2 ^ sz (stray t h) D - 1) ^^^ s < 2 ^ sz (stray t h) D := Nat.xor_lt_two_pow (by have : 1 ≤ 2 ^ sz (stray t h) D := Nat.one_le_two_pow; omega) hs
      obtain ⟨-, k1, q2, q3⟩ := hR _ hx
      have q4 := q2.congr (Y := dif (stray t h) (exs (stray t h) s)) fun d hd => exs_not hd
      have k18 := q4.le
      have z0 := spl_0 (X := exs (stray t h) s) hD h7t h7h
      rw [if_neg (nI_nlt (by omega) (by omega)), g_97_2, l_100 (by omega), r1]
      have no : ¬ CD D t h s → ∀ X : MM Int32, X = fX2_leastOpening_90 (fX2_leastOpening_26 n) 97 (nI (2 ^ sz (stray t h) D - 1)) le (nI s) → ∃ r, X (hp ra rb L A) = some (r, hp ra rb L A) ∧ ((r = -1 ∧ ∀ x, 1 ≤ x → x < 2 ^ sz (stray t h) D → ¬ CD D t h x) ∨ (∃ m, r = nI m ∧ m < 100 ∧ (∃ x, 1 ≤ x ∧ x < 2 ^ sz (stray t h) D ∧ CD D t h x ∧ LPr (exs (stray t h) x) D m) ∧ ∀ x, 1 ≤ x → x < 2 ^ sz (stray t h) D → CD D t h x → ∀ m', LPr (exs (stray t h) x) D m' → m ≤ m')) := by
        intro hn X hX
        rw [hX, fX2_leastOpening_90, mlet, nI_1]
        refine ih (s + 1) le (by omega) (by omega) (by omega) (hI.imp (fun ⟨w1, w2⟩ => ⟨w1, fun x b1 b2 hc => ?_⟩) fun ⟨m, w1, w2, ⟨x, w3, w4, w5, w6⟩, w7⟩ => ⟨m, w1, w2, ⟨x, w3, by omega, w5, w6⟩, fun y b1 b2 hc => ?_⟩)
        · by_cases hq : x = s
          · rw [hq] at hc
            exact hn hc
          · exact w2 x b1 (by omega) hc
        · by_cases hq : y = s
          · rw [hq] at hc
            exact absurd hc hn
          · exact w7 y b1 (by omega) hc
      by_cases hb : Bal D t h (exs (stray t h) s)
      · rw [if_pos (z0.mpr hb), g_97_3, nxor_n, l_101 (by omega), q3, g_97_3, l_101 (by omega), ra3, nI_1]
        by_cases hk : k1 + 1 = ka
        · have hcd : CD D t h s := ⟨hb, k1, q4, by rw [hk]; exact ra4⟩
          obtain ⟨m, m1, m2⟩ := q_leastPair (ra := ra) (rb := rb) (L := L) hD hG a0 hs hb
          have m100 : m < 100 := by
            obtain ⟨d, e, c1, c2, c3, c4, c5, c6⟩ := m1
            omega
          rw [if_pos (by rw [hk]), v_97, m_bind_some m2]
          rcases hI with ⟨w1, w2⟩ | ⟨m0, w1, w2, ⟨x, w3, w4, w5, w6⟩, w7⟩
          · rw [if_pos w1, fX2_leastOpening_88, fX2_leastOpening_90, mlet, nI_1]
            refine ih (s + 1) (nI m) (by omega) (by omega) (by omega) (Or.inr ⟨m, rfl, m100, ⟨s, a0, by omega, hcd, m1⟩, fun x b1 b2 hc m' hm' => ?_⟩)
            by_cases hq : x = s
            · rw [hq] at hm'
              rw [m1.uniq hm']
              exact Nat.le_refl _
            · exact absurd hc (w2 x b1 (by omega))
          · have hne : ¬ le = -1 := fun z => by
              rw [w1] at z
              exact nI_pos (n := m0) (by omega) (by rw [z]; decide)
            rw [if_neg hne, w1, c_mn_n (by omega) (by omega), fX2_leastOpening_88, fX2_leastOpening_90, mlet, nI_1]
            refine ih (s + 1) (nI (min m0 m)) (by omega) (by omega) (by omega) (Or.inr ⟨min m0 m, rfl, by omega, ?_, fun y b1 b2 hc m' hm' => ?_⟩)
            · by_cases hle : m0 ≤ m
              · rw [Nat.min_eq_left hle]
                exact ⟨x, w3, by omega, w5, w6⟩
              · rw [Nat.min_eq_right (by omega)]
                exact ⟨s, a0, by omega, hcd, m1⟩
            · by_cases hq : y = s
              · rw [hq] at hm'
                rw [m1.uniq hm']
                exact Nat.min_le_right _ _
              · exact Nat.le_trans (Nat.min_le_left _ _) (w7 y b1 (by omega) hc m' hm')
        · rw [if_neg (n_ne (by omega) (by omega) hk)]
          refine no (fun ⟨c1, k2, c2, c3⟩ => hk ?_) _ rfl
          rw [q4.uniq c2, ra4.uniq c3]
      · rw [if_neg (fun z => hb (z0.mp z))]
        exact no (fun z => hb z.1) _ rfl
    · have : s = 2 ^ sz (stray t h) D := by omega
      subst this
      rw [if_pos (nI_lt (by omega) (by omega))]
      exact ⟨le, rfl, hI⟩
end M2
