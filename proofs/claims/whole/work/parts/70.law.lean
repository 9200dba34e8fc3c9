/-! the law: its loop out of the pairs -/
def c_pairs (L : Nat) (xs : Nat → Int32) : Prop := (∀ x : Int32, Pr L xs (pX9_feed 3 x) (pX10_feed 137 x)) ∧ (Pr L xs (pX9_congress 3) (pX10_congress 137)) ∧ (Pr L xs (pX9_fault 3) (pX10_fault 137)) ∧ (∀ x : Int32, Pr L xs (pX9_told 3 x) (pX10_told 137 x)) ∧ (∀ x y : Int32, Pr L xs (pX9_doll 3 x y) (pX10_doll 137 x y)) ∧ (∀ x y : Int32, Pr L xs (pX9_court 3 x y) (pX10_court 137 x y)) ∧ (∀ x y : Int32, Pr L xs (pX9_post 3 x y) (pX10_post 137 x y)) ∧ (∀ x y : Int32, Pr L xs (pX9_mix 3 x y) (pX10_mix 137 x y)) ∧ (∀ x y : Int32, (y = 0 ∨ y = 1) → Pr L xs (pX9_lay 3 x y) (pX10_lay 137 x y)) ∧ (∀ x y : Int32, Pr L xs (pX9_mask 3 x y) (pX10_mask 137 x y)) ∧ (Pr L xs (pX9_audience 3) (pX10_audience 137)) ∧ (∀ x : Int32, Pr L xs (pX9_year 3 x) (pX10_year 137 x)) ∧ (∀ x : Int32, Pr L xs (pX9_drift 3 x) (pX10_drift 137 x)) ∧ (Pr L xs (pX9_undo 3) (pX10_undo 137)) ∧ (∀ x y : Int32, Pr L xs (pX9_warm 3 x y) (pX10_warm 137 x y)) ∧ (∀ x : Int32, Pr L xs (pX9_warmest 3 x) (pX10_warmest 137 x)) ∧ (∀ x y : Int32, Pr L xs (pX9_first 3 x y) (pX10_first 137 x y)) ∧ (∀ x : Int32, Pr L xs (pX9_swaps 3 x) (pX10_swaps 137 x)) ∧ (∀ x : Int32, Pr L xs (pX9_close 3 x) (pX10_close 137 x)) ∧ (∀ x y : Int32, Pr L xs (pX9_look 3 x y) (pX10_look 137 x y)) ∧ (∀ x : Int32, Pr L xs (pX9_agreed 3 x) (pX10_agreed 137 x)) ∧ (∀ x y : Int32, Pr L xs (pX9_agenda 3 x y) (pX10_agenda 137 x y)) ∧ (∀ x : Int32, Pr L xs (pX9_agendaFor 3 x) (pX10_agendaFor 137 x)) ∧ (∀ x : Int32, Pr L xs (pX9_wanted 3 x) (pX10_wanted 137 x)) ∧ (∀ x y : Int32, Pr L xs (pX9_know 3 x y) (pX10_know 137 x y)) ∧ (∀ x y : Int32, Pr L xs (pX9_parcels 3 x y) (pX10_parcels 137 x y)) ∧ (∀ x y : Int32, Pr L xs (pX9_write 3 x y) (pX10_write 137 x y)) ∧ (Pr L xs (pX9_tear 3) (pX10_tear 137)) ∧ (Pr L xs (pX9_judge 3) (pX10_judge 137)) ∧ (∀ x : Int32, Pr L xs (pX9_seed 3 x) (pX10_seed 137 x)) ∧ (∀ x : Int32, Pr L xs (pX9_keep 3 x) (pX10_keep 137 x)) ∧ (∀ x : Int32, Pr L xs (pX9_goBack 3 x) (pX10_goBack 137 x))
theorem c_31 (x : Int32) : ∃ k, k < 32 ∧ x &&& 31 = nI k := by
  obtain ⟨j, hj, e⟩ := pk_andE x (m := 31) 5 (by decide)
  exact ⟨j, hj, e⟩
theorem law_step {L : Nat} {xs : Nat → Int32} (n : Nat) (i : Nat) (hL : L ≤ 192) (hi : i + 3 ≤ L) (hp9 : c_pairs L xs) {ra rb : Nat} {I : cM} (hR : Rel ra rb xs I) : ∃ (ra1 rb1 : Nat) (I1 : cM), Rel ra1 rb1 xs I1 ∧ fL_law_18 (n + 1) 2 3 137 (nI i) (hp ra rb L I) = fL_law_18 n 2 3 137 (nI (i + 3)) (hp ra1 rb1 L I1) := by
  obtain ⟨q_feed, q_congress, q_fault, q_told, q_doll, q_court, q_post, q_mix, q_lay, q_mask, q_audience, q_year, q_drift, q_undo, q_warm, q_warmest, q_first, q_swaps, q_close, q_look, q_agreed, q_agenda, q_agendaFor, q_wanted, q_know, q_parcels, q_write, q_tear, q_judge, q_seed, q_keep, q_goBack⟩ := hp9
  have hX : I 2 = xs := by
    obtain ⟨_, _, _, _, _, _, _, _, _, _, _, _, _, _, _, h⟩ := hR
    exact h.2.2
  have e1 : nI i + 1 = nI (i + 1) := nI_1 i
  have e2 : nI i + 2 = nI (i + 2) := nI_add i 2
  have e3 : nI i + 3 = nI (i + 3) := nI_add i 3
  have eL : ¬ (nI L - 3 < nI i) := by
    rw [show (3 : Int32) = nI 3 from rfl, pk_sub (show 3 ≤ L by omega)]
    exact nI_nlt (by omega) (by omega)
  rw [fL_law_18, n_2, if_neg eL, l_2 (show i < L by omega) (by omega)]
  obtain ⟨k, hk, ek⟩ := c_31 (I 2 i)
  unfold m_let
  dsimp only
  rw [ek]
  match k, hk with
  | 0, _ =>
    rw [if_pos (show nI 0 = 0 from rfl)]
    obtain ⟨r, ra1, rb1, I1, I2, h1, h2, h3, h4⟩ := q_feed (xs (i + 1)) ra rb I hR
    refine ⟨ra1, rb1, I2, h4, ?_⟩
    rw [e1, l_2 (show i + 1 < L by omega) (by omega), hX, v_3, m_bind_some h1, l_2 (show i + 1 < L by omega) (by omega), h2, v_137, m_bind_some h3, if_pos rfl, fL_law_998]
    unfold m_let
    rw [e3]
  | 1, _ =>
    rw [if_neg (show ¬ nI 1 = 0 by decide), if_pos (show nI 1 = 1 from rfl)]
    obtain ⟨r, ra1, rb1, I1, I2, h1, h2, h3, h4⟩ := q_congress  ra rb I hR
    refine ⟨ra1, rb1, I2, h4, ?_⟩
    rw [v_3, m_bind_some h1, v_137, m_bind_some h3, if_pos rfl, fL_law_998]
    unfold m_let
    rw [e3]
  | 2, _ =>
    rw [if_neg (show ¬ nI 2 = 0 by decide), if_neg (show ¬ nI 2 = 1 by decide), if_pos (show nI 2 = 2 from rfl)]
    obtain ⟨r, ra1, rb1, I1, I2, h1, h2, h3, h4⟩ := q_fault  ra rb I hR
    refine ⟨ra1, rb1, I2, h4, ?_⟩
    rw [v_3, m_bind_some h1, v_137, m_bind_some h3, if_pos rfl, fL_law_998]
    unfold m_let
    rw [e3]
  | 3, _ =>
    rw [if_neg (show ¬ nI 3 = 0 by decide), if_neg (show ¬ nI 3 = 1 by decide), if_neg (show ¬ nI 3 = 2 by decide), if_pos (show nI 3 = 3 from rfl)]
    obtain ⟨r, ra1, rb1, I1, I2, h1, h2, h3, h4⟩ := q_told (xs (i + 1)) ra rb I hR
    refine ⟨ra1, rb1, I2, h4, ?_⟩
    rw [e1, l_2 (show i + 1 < L by omega) (by omega), hX, v_3, m_bind_some h1, l_2 (show i + 1 < L by omega) (by omega), h2, v_137, m_bind_some h3, if_pos rfl, fL_law_998]
    unfold m_let
    rw [e3]
  | 4, _ =>
    rw [if_neg (show ¬ nI 4 = 0 by decide), if_neg (show ¬ nI 4 = 1 by decide), if_neg (show ¬ nI 4 = 2 by decide), if_neg (show ¬ nI 4 = 3 by decide), if_pos (show nI 4 = 4 from rfl)]
    obtain ⟨r, ra1, rb1, I1, I2, h1, h2, h3, h4⟩ := q_doll (xs (i + 1)) (xs (i + 2)) ra rb I hR
    refine ⟨ra1, rb1, I2, h4, ?_⟩
    rw [e1, l_2 (show i + 1 < L by omega) (by omega), hX, e2, l_2 (show i + 2 < L by omega) (by omega), hX, v_3, m_bind_some h1, l_2 (show i + 1 < L by omega) (by omega), h2, l_2 (show i + 2 < L by omega) (by omega), h2, v_137, m_bind_some h3, if_pos rfl, fL_law_998]
    unfold m_let
    rw [e3]
  | 5, _ =>
    rw [if_neg (show ¬ nI 5 = 0 by decide), if_neg (show ¬ nI 5 = 1 by decide), if_neg (show ¬ nI 5 = 2 by decide), if_neg (show ¬ nI 5 = 3 by decide), if_neg (show ¬ nI 5 = 4 by decide), if_pos (show nI 5 = 5 from rfl)]
    obtain ⟨r, ra1, rb1, I1, I2, h1, h2, h3, h4⟩ := q_court (xs (i + 1)) (xs (i + 2)) ra rb I hR
    refine ⟨ra1, rb1, I2, h4, ?_⟩
    rw [e1, l_2 (show i + 1 < L by omega) (by omega), hX, e2, l_2 (show i + 2 < L by omega) (by omega), hX, v_3, m_bind_some h1, l_2 (show i + 1 < L by omega) (by omega), h2, l_2 (show i + 2 < L by omega) (by omega), h2, v_137, m_bind_some h3, if_pos rfl, fL_law_998]
    unfold m_let
    rw [e3]
  | 6, _ =>
    rw [if_neg (show ¬ nI 6 = 0 by decide), if_neg (show ¬ nI 6 = 1 by decide), if_neg (show ¬ nI 6 = 2 by decide), if_neg (show ¬ nI 6 = 3 by decide), if_neg (show ¬ nI 6 = 4 by decide), if_neg (show ¬ nI 6 = 5 by decide), if_pos (show nI 6 = 6 from rfl)]
    obtain ⟨r, ra1, rb1, I1, I2, h1, h2, h3, h4⟩ := q_post (xs (i + 1)) (xs (i + 2)) ra rb I hR
    refine ⟨ra1, rb1, I2, h4, ?_⟩
    rw [e1, l_2 (show i + 1 < L by omega) (by omega), hX, e2, l_2 (show i + 2 < L by omega) (by omega), hX, v_3, m_bind_some h1, l_2 (show i + 1 < L by omega) (by omega), h2, l_2 (show i + 2 < L by omega) (by omega), h2, v_137, m_bind_some h3, if_pos rfl, fL_law_998]
    unfold m_let
    rw [e3]
  | 7, _ =>
    rw [if_neg (show ¬ nI 7 = 0 by decide), if_neg (show ¬ nI 7 = 1 by decide), if_neg (show ¬ nI 7 = 2 by decide), if_neg (show ¬ nI 7 = 3 by decide), if_neg (show ¬ nI 7 = 4 by decide), if_neg (show ¬ nI 7 = 5 by decide), if_neg (show ¬ nI 7 = 6 by decide), if_pos (show nI 7 = 7 from rfl)]
    obtain ⟨r, ra1, rb1, I1, I2, h1, h2, h3, h4⟩ := q_mix (xs (i + 1)) (xs (i + 2)) ra rb I hR
    refine ⟨ra1, rb1, I2, h4, ?_⟩
    rw [e1, l_2 (show i + 1 < L by omega) (by omega), hX, e2, l_2 (show i + 2 < L by omega) (by omega), hX, v_3, m_bind_some h1, l_2 (show i + 1 < L by omega) (by omega), h2, l_2 (show i + 2 < L by omega) (by omega), h2, v_137, m_bind_some h3, if_pos rfl, fL_law_998]
    unfold m_let
    rw [e3]
  | 8, _ =>
    rw [if_neg (show ¬ nI 8 = 0 by decide), if_neg (show ¬ nI 8 = 1 by decide), if_neg (show ¬ nI 8 = 2 by decide), if_neg (show ¬ nI 8 = 3 by decide), if_neg (show ¬ nI 8 = 4 by decide), if_neg (show ¬ nI 8 = 5 by decide), if_neg (show ¬ nI 8 = 6 by decide), if_neg (show ¬ nI 8 = 7 by decide), if_pos (show nI 8 = 8 from rfl)]
    have key : ∀ b : Int32, (b = 0 ∨ b = 1) → ((xs (i + 2) = 0 → b = 0) ∧ (¬ xs (i + 2) = 0 → b = 1)) → ∃ (ra1 rb1 : Nat) (I1 : cM), Rel ra1 rb1 xs I1 ∧ fL_law_399 (fL_law_998 (fL_law_18 n)) 2 3 137 (nI i) b (xs (i + 1)) 3 (hp ra rb L I) = fL_law_18 n 2 3 137 (nI (i + 3)) (hp ra1 rb1 L I1) := by
      intro b hb hb2
      obtain ⟨r, ra1, rb1, I1, I2, h1, h2, h3, h4⟩ := q_lay (xs (i + 1)) b hb ra rb I hR
      refine ⟨ra1, rb1, I2, h4, ?_⟩
      rw [fL_law_399, v_3, m_bind_some h1, e1, l_2 (show i + 1 < L by omega) (by omega), h2, e2, l_2 (show i + 2 < L by omega) (by omega), h2]
      have fin : fL_law_421 (fL_law_998 (fL_law_18 n)) 2 3 137 (nI i) b (xs (i + 1)) 137 r (hp ra1 rb1 L I1) = fL_law_18 n 2 3 137 (nI (i + 3)) (hp ra1 rb1 L I2) := by
        rw [fL_law_421, v_137, m_bind_some h3, if_pos rfl, fL_law_998]
        unfold m_let
        rw [e3]
      by_cases hz : xs (i + 2) = 0
      · rw [if_pos hz, ← hb2.1 hz]
        exact fin
      · rw [if_neg hz, ← hb2.2 hz]
        exact fin
    rw [e1, l_2 (show i + 1 < L by omega) (by omega), hX, e2, l_2 (show i + 2 < L by omega) (by omega), hX]
    by_cases hz : xs (i + 2) = 0
    · rw [if_pos hz]
      exact key 0 (Or.inl rfl) ⟨fun _ => rfl, fun h => absurd hz h⟩
    · rw [if_neg hz]
      exact key 1 (Or.inr rfl) ⟨fun h => absurd h hz, fun _ => rfl⟩
  | 9, _ =>
    rw [if_neg (show ¬ nI 9 = 0 by decide), if_neg (show ¬ nI 9 = 1 by decide), if_neg (show ¬ nI 9 = 2 by decide), if_neg (show ¬ nI 9 = 3 by decide), if_neg (show ¬ nI 9 = 4 by decide), if_neg (show ¬ nI 9 = 5 by decide), if_neg (show ¬ nI 9 = 6 by decide), if_neg (show ¬ nI 9 = 7 by decide), if_neg (show ¬ nI 9 = 8 by decide), if_pos (show nI 9 = 9 from rfl)]
    obtain ⟨r, ra1, rb1, I1, I2, h1, h2, h3, h4⟩ := q_mask (xs (i + 1)) (xs (i + 2)) ra rb I hR
    refine ⟨ra1, rb1, I2, h4, ?_⟩
    rw [e1, l_2 (show i + 1 < L by omega) (by omega), hX, e2, l_2 (show i + 2 < L by omega) (by omega), hX, v_3, m_bind_some h1, l_2 (show i + 1 < L by omega) (by omega), h2, l_2 (show i + 2 < L by omega) (by omega), h2, v_137, m_bind_some h3, if_pos rfl, fL_law_998]
    unfold m_let
    rw [e3]
  | 10, _ =>
    rw [if_neg (show ¬ nI 10 = 0 by decide), if_neg (show ¬ nI 10 = 1 by decide), if_neg (show ¬ nI 10 = 2 by decide), if_neg (show ¬ nI 10 = 3 by decide), if_neg (show ¬ nI 10 = 4 by decide), if_neg (show ¬ nI 10 = 5 by decide), if_neg (show ¬ nI 10 = 6 by decide), if_neg (show ¬ nI 10 = 7 by decide), if_neg (show ¬ nI 10 = 8 by decide), if_neg (show ¬ nI 10 = 9 by decide), if_pos (show nI 10 = 10 from rfl)]
    obtain ⟨r, ra1, rb1, I1, I2, h1, h2, h3, h4⟩ := q_audience  ra rb I hR
    refine ⟨ra1, rb1, I2, h4, ?_⟩
    rw [v_3, m_bind_some h1, v_137, m_bind_some h3, if_pos rfl, fL_law_998]
    unfold m_let
    rw [e3]
  | 11, _ =>
    rw [if_neg (show ¬ nI 11 = 0 by decide), if_neg (show ¬ nI 11 = 1 by decide), if_neg (show ¬ nI 11 = 2 by decide), if_neg (show ¬ nI 11 = 3 by decide), if_neg (show ¬ nI 11 = 4 by decide), if_neg (show ¬ nI 11 = 5 by decide), if_neg (show ¬ nI 11 = 6 by decide), if_neg (show ¬ nI 11 = 7 by decide), if_neg (show ¬ nI 11 = 8 by decide), if_neg (show ¬ nI 11 = 9 by decide), if_neg (show ¬ nI 11 = 10 by decide), if_pos (show nI 11 = 11 from rfl)]
    obtain ⟨r, ra1, rb1, I1, I2, h1, h2, h3, h4⟩ := q_year (xs (i + 1)) ra rb I hR
    refine ⟨ra1, rb1, I2, h4, ?_⟩
    rw [e1, l_2 (show i + 1 < L by omega) (by omega), hX, v_3, m_bind_some h1, l_2 (show i + 1 < L by omega) (by omega), h2, v_137, m_bind_some h3, if_pos rfl, fL_law_998]
    unfold m_let
    rw [e3]
  | 12, _ =>
    rw [if_neg (show ¬ nI 12 = 0 by decide), if_neg (show ¬ nI 12 = 1 by decide), if_neg (show ¬ nI 12 = 2 by decide), if_neg (show ¬ nI 12 = 3 by decide), if_neg (show ¬ nI 12 = 4 by decide), if_neg (show ¬ nI 12 = 5 by decide), if_neg (show ¬ nI 12 = 6 by decide), if_neg (show ¬ nI 12 = 7 by decide), if_neg (show ¬ nI 12 = 8 by decide), if_neg (show ¬ nI 12 = 9 by decide), if_neg (show ¬ nI 12 = 10 by decide), if_neg (show ¬ nI 12 = 11 by decide), if_pos (show nI 12 = 12 from rfl)]
    obtain ⟨r, ra1, rb1, I1, I2, h1, h2, h3, h4⟩ := q_drift (xs (i + 1)) ra rb I hR
    refine ⟨ra1, rb1, I2, h4, ?_⟩
    rw [e1, l_2 (show i + 1 < L by omega) (by omega), hX, v_3, m_bind_some h1, l_2 (show i + 1 < L by omega) (by omega), h2, v_137, m_bind_some h3, if_pos rfl, fL_law_998]
    unfold m_let
    rw [e3]
  | 13, _ =>
    rw [if_neg (show ¬ nI 13 = 0 by decide), if_neg (show ¬ nI 13 = 1 by decide), if_neg (show ¬ nI 13 = 2 by decide), if_neg (show ¬ nI 13 = 3 by decide), if_neg (show ¬ nI 13 = 4 by decide), if_neg (show ¬ nI 13 = 5 by decide), if_neg (show ¬ nI 13 = 6 by decide), if_neg (show ¬ nI 13 = 7 by decide), if_neg (show ¬ nI 13 = 8 by decide), if_neg (show ¬ nI 13 = 9 by decide), if_neg (show ¬ nI 13 = 10 by decide), if_neg (show ¬ nI 13 = 11 by decide), if_neg (show ¬ nI 13 = 12 by decide), if_pos (show nI 13 = 13 from rfl)]
    obtain ⟨r, ra1, rb1, I1, I2, h1, h2, h3, h4⟩ := q_undo  ra rb I hR
    refine ⟨ra1, rb1, I2, h4, ?_⟩
    rw [v_3, m_bind_some h1, v_137, m_bind_some h3, if_pos rfl, fL_law_998]
    unfold m_let
    rw [e3]
  | 14, _ =>
    rw [if_neg (show ¬ nI 14 = 0 by decide), if_neg (show ¬ nI 14 = 1 by decide), if_neg (show ¬ nI 14 = 2 by decide), if_neg (show ¬ nI 14 = 3 by decide), if_neg (show ¬ nI 14 = 4 by decide), if_neg (show ¬ nI 14 = 5 by decide), if_neg (show ¬ nI 14 = 6 by decide), if_neg (show ¬ nI 14 = 7 by decide), if_neg (show ¬ nI 14 = 8 by decide), if_neg (show ¬ nI 14 = 9 by decide), if_neg (show ¬ nI 14 = 10 by decide), if_neg (show ¬ nI 14 = 11 by decide), if_neg (show ¬ nI 14 = 12 by decide), if_neg (show ¬ nI 14 = 13 by decide), if_pos (show nI 14 = 14 from rfl)]
    obtain ⟨r, ra1, rb1, I1, I2, h1, h2, h3, h4⟩ := q_warm (xs (i + 1)) (xs (i + 2)) ra rb I hR
    refine ⟨ra1, rb1, I2, h4, ?_⟩
    rw [e1, l_2 (show i + 1 < L by omega) (by omega), hX, e2, l_2 (show i + 2 < L by omega) (by omega), hX, v_3, m_bind_some h1, l_2 (show i + 1 < L by omega) (by omega), h2, l_2 (show i + 2 < L by omega) (by omega), h2, v_137, m_bind_some h3, if_pos rfl, fL_law_998]
    unfold m_let
    rw [e3]
  | 15, _ =>
    rw [if_neg (show ¬ nI 15 = 0 by decide), if_neg (show ¬ nI 15 = 1 by decide), if_neg (show ¬ nI 15 = 2 by decide), if_neg (show ¬ nI 15 = 3 by decide), if_neg (show ¬ nI 15 = 4 by decide), if_neg (show ¬ nI 15 = 5 by decide), if_neg (show ¬ nI 15 = 6 by decide), if_neg (show ¬ nI 15 = 7 by decide), if_neg (show ¬ nI 15 = 8 by decide), if_neg (show ¬ nI 15 = 9 by decide), if_neg (show ¬ nI 15 = 10 by decide), if_neg (show ¬ nI 15 = 11 by decide), if_neg (show ¬ nI 15 = 12 by decide), if_neg (show ¬ nI 15 = 13 by decide), if_neg (show ¬ nI 15 = 14 by decide), if_pos (show nI 15 = 15 from rfl)]
    obtain ⟨r, ra1, rb1, I1, I2, h1, h2, h3, h4⟩ := q_warmest (xs (i + 1)) ra rb I hR
    refine ⟨ra1, rb1, I2, h4, ?_⟩
    rw [e1, l_2 (show i + 1 < L by omega) (by omega), hX, v_3, m_bind_some h1, l_2 (show i + 1 < L by omega) (by omega), h2, v_137, m_bind_some h3, if_pos rfl, fL_law_998]
    unfold m_let
    rw [e3]
  | 16, _ =>
    rw [if_neg (show ¬ nI 16 = 0 by decide), if_neg (show ¬ nI 16 = 1 by decide), if_neg (show ¬ nI 16 = 2 by decide), if_neg (show ¬ nI 16 = 3 by decide), if_neg (show ¬ nI 16 = 4 by decide), if_neg (show ¬ nI 16 = 5 by decide), if_neg (show ¬ nI 16 = 6 by decide), if_neg (show ¬ nI 16 = 7 by decide), if_neg (show ¬ nI 16 = 8 by decide), if_neg (show ¬ nI 16 = 9 by decide), if_neg (show ¬ nI 16 = 10 by decide), if_neg (show ¬ nI 16 = 11 by decide), if_neg (show ¬ nI 16 = 12 by decide), if_neg (show ¬ nI 16 = 13 by decide), if_neg (show ¬ nI 16 = 14 by decide), if_neg (show ¬ nI 16 = 15 by decide), if_pos (show nI 16 = 16 from rfl)]
    obtain ⟨r, ra1, rb1, I1, I2, h1, h2, h3, h4⟩ := q_first (xs (i + 1)) (xs (i + 2)) ra rb I hR
    refine ⟨ra1, rb1, I2, h4, ?_⟩
    rw [e1, l_2 (show i + 1 < L by omega) (by omega), hX, e2, l_2 (show i + 2 < L by omega) (by omega), hX, v_3, m_bind_some h1, l_2 (show i + 1 < L by omega) (by omega), h2, l_2 (show i + 2 < L by omega) (by omega), h2, v_137, m_bind_some h3, if_pos rfl, fL_law_998]
    unfold m_let
    rw [e3]
  | 17, _ =>
    rw [if_neg (show ¬ nI 17 = 0 by decide), if_neg (show ¬ nI 17 = 1 by decide), if_neg (show ¬ nI 17 = 2 by decide), if_neg (show ¬ nI 17 = 3 by decide), if_neg (show ¬ nI 17 = 4 by decide), if_neg (show ¬ nI 17 = 5 by decide), if_neg (show ¬ nI 17 = 6 by decide), if_neg (show ¬ nI 17 = 7 by decide), if_neg (show ¬ nI 17 = 8 by decide), if_neg (show ¬ nI 17 = 9 by decide), if_neg (show ¬ nI 17 = 10 by decide), if_neg (show ¬ nI 17 = 11 by decide), if_neg (show ¬ nI 17 = 12 by decide), if_neg (show ¬ nI 17 = 13 by decide), if_neg (show ¬ nI 17 = 14 by decide), if_neg (show ¬ nI 17 = 15 by decide), if_neg (show ¬ nI 17 = 16 by decide), if_pos (show nI 17 = 17 from rfl)]
    obtain ⟨r, ra1, rb1, I1, I2, h1, h2, h3, h4⟩ := q_swaps (xs (i + 1)) ra rb I hR
    refine ⟨ra1, rb1, I2, h4, ?_⟩
    rw [e1, l_2 (show i + 1 < L by omega) (by omega), hX, v_3, m_bind_some h1, l_2 (show i + 1 < L by omega) (by omega), h2, v_137, m_bind_some h3, if_pos rfl, fL_law_998]
    unfold m_let
    rw [e3]
  | 18, _ =>
    rw [if_neg (show ¬ nI 18 = 0 by decide), if_neg (show ¬ nI 18 = 1 by decide), if_neg (show ¬ nI 18 = 2 by decide), if_neg (show ¬ nI 18 = 3 by decide), if_neg (show ¬ nI 18 = 4 by decide), if_neg (show ¬ nI 18 = 5 by decide), if_neg (show ¬ nI 18 = 6 by decide), if_neg (show ¬ nI 18 = 7 by decide), if_neg (show ¬ nI 18 = 8 by decide), if_neg (show ¬ nI 18 = 9 by decide), if_neg (show ¬ nI 18 = 10 by decide), if_neg (show ¬ nI 18 = 11 by decide), if_neg (show ¬ nI 18 = 12 by decide), if_neg (show ¬ nI 18 = 13 by decide), if_neg (show ¬ nI 18 = 14 by decide), if_neg (show ¬ nI 18 = 15 by decide), if_neg (show ¬ nI 18 = 16 by decide), if_neg (show ¬ nI 18 = 17 by decide), if_pos (show nI 18 = 18 from rfl)]
    obtain ⟨r, ra1, rb1, I1, I2, h1, h2, h3, h4⟩ := q_close (xs (i + 1)) ra rb I hR
    refine ⟨ra1, rb1, I2, h4, ?_⟩
    rw [e1, l_2 (show i + 1 < L by omega) (by omega), hX, v_3, m_bind_some h1, l_2 (show i + 1 < L by omega) (by omega), h2, v_137, m_bind_some h3, if_pos rfl, fL_law_998]
    unfold m_let
    rw [e3]
  | 19, _ =>
    rw [if_neg (show ¬ nI 19 = 0 by decide), if_neg (show ¬ nI 19 = 1 by decide), if_neg (show ¬ nI 19 = 2 by decide), if_neg (show ¬ nI 19 = 3 by decide), if_neg (show ¬ nI 19 = 4 by decide), if_neg (show ¬ nI 19 = 5 by decide), if_neg (show ¬ nI 19 = 6 by decide), if_neg (show ¬ nI 19 = 7 by decide), if_neg (show ¬ nI 19 = 8 by decide), if_neg (show ¬ nI 19 = 9 by decide), if_neg (show ¬ nI 19 = 10 by decide), if_neg (show ¬ nI 19 = 11 by decide), if_neg (show ¬ nI 19 = 12 by decide), if_neg (show ¬ nI 19 = 13 by decide), if_neg (show ¬ nI 19 = 14 by decide), if_neg (show ¬ nI 19 = 15 by decide), if_neg (show ¬ nI 19 = 16 by decide), if_neg (show ¬ nI 19 = 17 by decide), if_neg (show ¬ nI 19 = 18 by decide), if_pos (show nI 19 = 19 from rfl)]
    obtain ⟨r, ra1, rb1, I1, I2, h1, h2, h3, h4⟩ := q_look (xs (i + 1)) (xs (i + 2)) ra rb I hR
    refine ⟨ra1, rb1, I2, h4, ?_⟩
    rw [e1, l_2 (show i + 1 < L by omega) (by omega), hX, e2, l_2 (show i + 2 < L by omega) (by omega), hX, v_3, m_bind_some h1, l_2 (show i + 1 < L by omega) (by omega), h2, l_2 (show i + 2 < L by omega) (by omega), h2, v_137, m_bind_some h3, if_pos rfl, fL_law_998]
    unfold m_let
    rw [e3]
  | 20, _ =>
    rw [if_neg (show ¬ nI 20 = 0 by decide), if_neg (show ¬ nI 20 = 1 by decide), if_neg (show ¬ nI 20 = 2 by decide), if_neg (show ¬ nI 20 = 3 by decide), if_neg (show ¬ nI 20 = 4 by decide), if_neg (show ¬ nI 20 = 5 by decide), if_neg (show ¬ nI 20 = 6 by decide), if_neg (show ¬ nI 20 = 7 by decide), if_neg (show ¬ nI 20 = 8 by decide), if_neg (show ¬ nI 20 = 9 by decide), if_neg (show ¬ nI 20 = 10 by decide), if_neg (show ¬ nI 20 = 11 by decide), if_neg (show ¬ nI 20 = 12 by decide), if_neg (show ¬ nI 20 = 13 by decide), if_neg (show ¬ nI 20 = 14 by decide), if_neg (show ¬ nI 20 = 15 by decide), if_neg (show ¬ nI 20 = 16 by decide), if_neg (show ¬ nI 20 = 17 by decide), if_neg (show ¬ nI 20 = 18 by decide), if_neg (show ¬ nI 20 = 19 by decide), if_pos (show nI 20 = 20 from rfl)]
    obtain ⟨r, ra1, rb1, I1, I2, h1, h2, h3, h4⟩ := q_agreed (xs (i + 1)) ra rb I hR
    refine ⟨ra1, rb1, I2, h4, ?_⟩
    rw [e1, l_2 (show i + 1 < L by omega) (by omega), hX, v_3, m_bind_some h1, l_2 (show i + 1 < L by omega) (by omega), h2, v_137, m_bind_some h3, if_pos rfl, fL_law_998]
    unfold m_let
    rw [e3]
  | 21, _ =>
    rw [if_neg (show ¬ nI 21 = 0 by decide), if_neg (show ¬ nI 21 = 1 by decide), if_neg (show ¬ nI 21 = 2 by decide), if_neg (show ¬ nI 21 = 3 by decide), if_neg (show ¬ nI 21 = 4 by decide), if_neg (show ¬ nI 21 = 5 by decide), if_neg (show ¬ nI 21 = 6 by decide), if_neg (show ¬ nI 21 = 7 by decide), if_neg (show ¬ nI 21 = 8 by decide), if_neg (show ¬ nI 21 = 9 by decide), if_neg (show ¬ nI 21 = 10 by decide), if_neg (show ¬ nI 21 = 11 by decide), if_neg (show ¬ nI 21 = 12 by decide), if_neg (show ¬ nI 21 = 13 by decide), if_neg (show ¬ nI 21 = 14 by decide), if_neg (show ¬ nI 21 = 15 by decide), if_neg (show ¬ nI 21 = 16 by decide), if_neg (show ¬ nI 21 = 17 by decide), if_neg (show ¬ nI 21 = 18 by decide), if_neg (show ¬ nI 21 = 19 by decide), if_neg (show ¬ nI 21 = 20 by decide), if_pos (show nI 21 = 21 from rfl)]
    obtain ⟨r, ra1, rb1, I1, I2, h1, h2, h3, h4⟩ := q_agenda (xs (i + 1)) (xs (i + 2)) ra rb I hR
    refine ⟨ra1, rb1, I2, h4, ?_⟩
    rw [e1, l_2 (show i + 1 < L by omega) (by omega), hX, e2, l_2 (show i + 2 < L by omega) (by omega), hX, v_3, m_bind_some h1, l_2 (show i + 1 < L by omega) (by omega), h2, l_2 (show i + 2 < L by omega) (by omega), h2, v_137, m_bind_some h3, if_pos rfl, fL_law_998]
    unfold m_let
    rw [e3]
  | 22, _ =>
    rw [if_neg (show ¬ nI 22 = 0 by decide), if_neg (show ¬ nI 22 = 1 by decide), if_neg (show ¬ nI 22 = 2 by decide), if_neg (show ¬ nI 22 = 3 by decide), if_neg (show ¬ nI 22 = 4 by decide), if_neg (show ¬ nI 22 = 5 by decide), if_neg (show ¬ nI 22 = 6 by decide), if_neg (show ¬ nI 22 = 7 by decide), if_neg (show ¬ nI 22 = 8 by decide), if_neg (show ¬ nI 22 = 9 by decide), if_neg (show ¬ nI 22 = 10 by decide), if_neg (show ¬ nI 22 = 11 by decide), if_neg (show ¬ nI 22 = 12 by decide), if_neg (show ¬ nI 22 = 13 by decide), if_neg (show ¬ nI 22 = 14 by decide), if_neg (show ¬ nI 22 = 15 by decide), if_neg (show ¬ nI 22 = 16 by decide), if_neg (show ¬ nI 22 = 17 by decide), if_neg (show ¬ nI 22 = 18 by decide), if_neg (show ¬ nI 22 = 19 by decide), if_neg (show ¬ nI 22 = 20 by decide), if_neg (show ¬ nI 22 = 21 by decide), if_pos (show nI 22 = 22 from rfl)]
    obtain ⟨r, ra1, rb1, I1, I2, h1, h2, h3, h4⟩ := q_agendaFor (xs (i + 1)) ra rb I hR
    refine ⟨ra1, rb1, I2, h4, ?_⟩
    rw [e1, l_2 (show i + 1 < L by omega) (by omega), hX, v_3, m_bind_some h1, l_2 (show i + 1 < L by omega) (by omega), h2, v_137, m_bind_some h3, if_pos rfl, fL_law_998]
    unfold m_let
    rw [e3]
  | 23, _ =>
    rw [if_neg (show ¬ nI 23 = 0 by decide), if_neg (show ¬ nI 23 = 1 by decide), if_neg (show ¬ nI 23 = 2 by decide), if_neg (show ¬ nI 23 = 3 by decide), if_neg (show ¬ nI 23 = 4 by decide), if_neg (show ¬ nI 23 = 5 by decide), if_neg (show ¬ nI 23 = 6 by decide), if_neg (show ¬ nI 23 = 7 by decide), if_neg (show ¬ nI 23 = 8 by decide), if_neg (show ¬ nI 23 = 9 by decide), if_neg (show ¬ nI 23 = 10 by decide), if_neg (show ¬ nI 23 = 11 by decide), if_neg (show ¬ nI 23 = 12 by decide), if_neg (show ¬ nI 23 = 13 by decide), if_neg (show ¬ nI 23 = 14 by decide), if_neg (show ¬ nI 23 = 15 by decide), if_neg (show ¬ nI 23 = 16 by decide), if_neg (show ¬ nI 23 = 17 by decide), if_neg (show ¬ nI 23 = 18 by decide), if_neg (show ¬ nI 23 = 19 by decide), if_neg (show ¬ nI 23 = 20 by decide), if_neg (show ¬ nI 23 = 21 by decide), if_neg (show ¬ nI 23 = 22 by decide), if_pos (show nI 23 = 23 from rfl)]
    obtain ⟨r, ra1, rb1, I1, I2, h1, h2, h3, h4⟩ := q_wanted (xs (i + 1)) ra rb I hR
    refine ⟨ra1, rb1, I2, h4, ?_⟩
    rw [e1, l_2 (show i + 1 < L by omega) (by omega), hX, v_3, m_bind_some h1, l_2 (show i + 1 < L by omega) (by omega), h2, v_137, m_bind_some h3, if_pos rfl, fL_law_998]
    unfold m_let
    rw [e3]
  | 24, _ =>
    rw [if_neg (show ¬ nI 24 = 0 by decide), if_neg (show ¬ nI 24 = 1 by decide), if_neg (show ¬ nI 24 = 2 by decide), if_neg (show ¬ nI 24 = 3 by decide), if_neg (show ¬ nI 24 = 4 by decide), if_neg (show ¬ nI 24 = 5 by decide), if_neg (show ¬ nI 24 = 6 by decide), if_neg (show ¬ nI 24 = 7 by decide), if_neg (show ¬ nI 24 = 8 by decide), if_neg (show ¬ nI 24 = 9 by decide), if_neg (show ¬ nI 24 = 10 by decide), if_neg (show ¬ nI 24 = 11 by decide), if_neg (show ¬ nI 24 = 12 by decide), if_neg (show ¬ nI 24 = 13 by decide), if_neg (show ¬ nI 24 = 14 by decide), if_neg (show ¬ nI 24 = 15 by decide), if_neg (show ¬ nI 24 = 16 by decide), if_neg (show ¬ nI 24 = 17 by decide), if_neg (show ¬ nI 24 = 18 by decide), if_neg (show ¬ nI 24 = 19 by decide), if_neg (show ¬ nI 24 = 20 by decide), if_neg (show ¬ nI 24 = 21 by decide), if_neg (show ¬ nI 24 = 22 by decide), if_neg (show ¬ nI 24 = 23 by decide), if_pos (show nI 24 = 24 from rfl)]
    obtain ⟨r, ra1, rb1, I1, I2, h1, h2, h3, h4⟩ := q_know (xs (i + 1)) (xs (i + 2)) ra rb I hR
    refine ⟨ra1, rb1, I2, h4, ?_⟩
    rw [e1, l_2 (show i + 1 < L by omega) (by omega), hX, e2, l_2 (show i + 2 < L by omega) (by omega), hX, v_3, m_bind_some h1, l_2 (show i + 1 < L by omega) (by omega), h2, l_2 (show i + 2 < L by omega) (by omega), h2, v_137, m_bind_some h3, if_pos rfl, fL_law_998]
    unfold m_let
    rw [e3]
  | 25, _ =>
    rw [if_neg (show ¬ nI 25 = 0 by decide), if_neg (show ¬ nI 25 = 1 by decide), if_neg (show ¬ nI 25 = 2 by decide), if_neg (show ¬ nI 25 = 3 by decide), if_neg (show ¬ nI 25 = 4 by decide), if_neg (show ¬ nI 25 = 5 by decide), if_neg (show ¬ nI 25 = 6 by decide), if_neg (show ¬ nI 25 = 7 by decide), if_neg (show ¬ nI 25 = 8 by decide), if_neg (show ¬ nI 25 = 9 by decide), if_neg (show ¬ nI 25 = 10 by decide), if_neg (show ¬ nI 25 = 11 by decide), if_neg (show ¬ nI 25 = 12 by decide), if_neg (show ¬ nI 25 = 13 by decide), if_neg (show ¬ nI 25 = 14 by decide), if_neg (show ¬ nI 25 = 15 by decide), if_neg (show ¬ nI 25 = 16 by decide), if_neg (show ¬ nI 25 = 17 by decide), if_neg (show ¬ nI 25 = 18 by decide), if_neg (show ¬ nI 25 = 19 by decide), if_neg (show ¬ nI 25 = 20 by decide), if_neg (show ¬ nI 25 = 21 by decide), if_neg (show ¬ nI 25 = 22 by decide), if_neg (show ¬ nI 25 = 23 by decide), if_neg (show ¬ nI 25 = 24 by decide), if_pos (show nI 25 = 25 from rfl)]
    obtain ⟨r, ra1, rb1, I1, I2, h1, h2, h3, h4⟩ := q_parcels (xs (i + 1)) (xs (i + 2)) ra rb I hR
    refine ⟨ra1, rb1, I2, h4, ?_⟩
    rw [e1, l_2 (show i + 1 < L by omega) (by omega), hX, e2, l_2 (show i + 2 < L by omega) (by omega), hX, v_3, m_bind_some h1, l_2 (show i + 1 < L by omega) (by omega), h2, l_2 (show i + 2 < L by omega) (by omega), h2, v_137, m_bind_some h3, if_pos rfl, fL_law_998]
    unfold m_let
    rw [e3]
  | 26, _ =>
    rw [if_neg (show ¬ nI 26 = 0 by decide), if_neg (show ¬ nI 26 = 1 by decide), if_neg (show ¬ nI 26 = 2 by decide), if_neg (show ¬ nI 26 = 3 by decide), if_neg (show ¬ nI 26 = 4 by decide), if_neg (show ¬ nI 26 = 5 by decide), if_neg (show ¬ nI 26 = 6 by decide), if_neg (show ¬ nI 26 = 7 by decide), if_neg (show ¬ nI 26 = 8 by decide), if_neg (show ¬ nI 26 = 9 by decide), if_neg (show ¬ nI 26 = 10 by decide), if_neg (show ¬ nI 26 = 11 by decide), if_neg (show ¬ nI 26 = 12 by decide), if_neg (show ¬ nI 26 = 13 by decide), if_neg (show ¬ nI 26 = 14 by decide), if_neg (show ¬ nI 26 = 15 by decide), if_neg (show ¬ nI 26 = 16 by decide), if_neg (show ¬ nI 26 = 17 by decide), if_neg (show ¬ nI 26 = 18 by decide), if_neg (show ¬ nI 26 = 19 by decide), if_neg (show ¬ nI 26 = 20 by decide), if_neg (show ¬ nI 26 = 21 by decide), if_neg (show ¬ nI 26 = 22 by decide), if_neg (show ¬ nI 26 = 23 by decide), if_neg (show ¬ nI 26 = 24 by decide), if_neg (show ¬ nI 26 = 25 by decide), if_pos (show nI 26 = 26 from rfl)]
    obtain ⟨r, ra1, rb1, I1, I2, h1, h2, h3, h4⟩ := q_write (xs (i + 1)) (xs (i + 2)) ra rb I hR
    refine ⟨ra1, rb1, I2, h4, ?_⟩
    rw [e1, l_2 (show i + 1 < L by omega) (by omega), hX, e2, l_2 (show i + 2 < L by omega) (by omega), hX, v_3, m_bind_some h1, l_2 (show i + 1 < L by omega) (by omega), h2, l_2 (show i + 2 < L by omega) (by omega), h2, v_137, m_bind_some h3, if_pos rfl, fL_law_998]
    unfold m_let
    rw [e3]
  | 27, _ =>
    rw [if_neg (show ¬ nI 27 = 0 by decide), if_neg (show ¬ nI 27 = 1 by decide), if_neg (show ¬ nI 27 = 2 by decide), if_neg (show ¬ nI 27 = 3 by decide), if_neg (show ¬ nI 27 = 4 by decide), if_neg (show ¬ nI 27 = 5 by decide), if_neg (show ¬ nI 27 = 6 by decide), if_neg (show ¬ nI 27 = 7 by decide), if_neg (show ¬ nI 27 = 8 by decide), if_neg (show ¬ nI 27 = 9 by decide), if_neg (show ¬ nI 27 = 10 by decide), if_neg (show ¬ nI 27 = 11 by decide), if_neg (show ¬ nI 27 = 12 by decide), if_neg (show ¬ nI 27 = 13 by decide), if_neg (show ¬ nI 27 = 14 by decide), if_neg (show ¬ nI 27 = 15 by decide), if_neg (show ¬ nI 27 = 16 by decide), if_neg (show ¬ nI 27 = 17 by decide), if_neg (show ¬ nI 27 = 18 by decide), if_neg (show ¬ nI 27 = 19 by decide), if_neg (show ¬ nI 27 = 20 by decide), if_neg (show ¬ nI 27 = 21 by decide), if_neg (show ¬ nI 27 = 22 by decide), if_neg (show ¬ nI 27 = 23 by decide), if_neg (show ¬ nI 27 = 24 by decide), if_neg (show ¬ nI 27 = 25 by decide), if_neg (show ¬ nI 27 = 26 by decide), if_pos (show nI 27 = 27 from rfl)]
    obtain ⟨r, ra1, rb1, I1, I2, h1, h2, h3, h4⟩ := q_tear  ra rb I hR
    refine ⟨ra1, rb1, I2, h4, ?_⟩
    rw [v_3, m_bind_some h1, v_137, m_bind_some h3, if_pos rfl, fL_law_998]
    unfold m_let
    rw [e3]
  | 28, _ =>
    rw [if_neg (show ¬ nI 28 = 0 by decide), if_neg (show ¬ nI 28 = 1 by decide), if_neg (show ¬ nI 28 = 2 by decide), if_neg (show ¬ nI 28 = 3 by decide), if_neg (show ¬ nI 28 = 4 by decide), if_neg (show ¬ nI 28 = 5 by decide), if_neg (show ¬ nI 28 = 6 by decide), if_neg (show ¬ nI 28 = 7 by decide), if_neg (show ¬ nI 28 = 8 by decide), if_neg (show ¬ nI 28 = 9 by decide), if_neg (show ¬ nI 28 = 10 by decide), if_neg (show ¬ nI 28 = 11 by decide), if_neg (show ¬ nI 28 = 12 by decide), if_neg (show ¬ nI 28 = 13 by decide), if_neg (show ¬ nI 28 = 14 by decide), if_neg (show ¬ nI 28 = 15 by decide), if_neg (show ¬ nI 28 = 16 by decide), if_neg (show ¬ nI 28 = 17 by decide), if_neg (show ¬ nI 28 = 18 by decide), if_neg (show ¬ nI 28 = 19 by decide), if_neg (show ¬ nI 28 = 20 by decide), if_neg (show ¬ nI 28 = 21 by decide), if_neg (show ¬ nI 28 = 22 by decide), if_neg (show ¬ nI 28 = 23 by decide), if_neg (show ¬ nI 28 = 24 by decide), if_neg (show ¬ nI 28 = 25 by decide), if_neg (show ¬ nI 28 = 26 by decide), if_neg (show ¬ nI 28 = 27 by decide), if_pos (show nI 28 = 28 from rfl)]
    obtain ⟨r, ra1, rb1, I1, I2, h1, h2, h3, h4⟩ := q_judge  ra rb I hR
    refine ⟨ra1, rb1, I2, h4, ?_⟩
    rw [v_3, m_bind_some h1, v_137, m_bind_some h3, if_pos rfl, fL_law_998]
    unfold m_let
    rw [e3]
  | 29, _ =>
    rw [if_neg (show ¬ nI 29 = 0 by decide), if_neg (show ¬ nI 29 = 1 by decide), if_neg (show ¬ nI 29 = 2 by decide), if_neg (show ¬ nI 29 = 3 by decide), if_neg (show ¬ nI 29 = 4 by decide), if_neg (show ¬ nI 29 = 5 by decide), if_neg (show ¬ nI 29 = 6 by decide), if_neg (show ¬ nI 29 = 7 by decide), if_neg (show ¬ nI 29 = 8 by decide), if_neg (show ¬ nI 29 = 9 by decide), if_neg (show ¬ nI 29 = 10 by decide), if_neg (show ¬ nI 29 = 11 by decide), if_neg (show ¬ nI 29 = 12 by decide), if_neg (show ¬ nI 29 = 13 by decide), if_neg (show ¬ nI 29 = 14 by decide), if_neg (show ¬ nI 29 = 15 by decide), if_neg (show ¬ nI 29 = 16 by decide), if_neg (show ¬ nI 29 = 17 by decide), if_neg (show ¬ nI 29 = 18 by decide), if_neg (show ¬ nI 29 = 19 by decide), if_neg (show ¬ nI 29 = 20 by decide), if_neg (show ¬ nI 29 = 21 by decide), if_neg (show ¬ nI 29 = 22 by decide), if_neg (show ¬ nI 29 = 23 by decide), if_neg (show ¬ nI 29 = 24 by decide), if_neg (show ¬ nI 29 = 25 by decide), if_neg (show ¬ nI 29 = 26 by decide), if_neg (show ¬ nI 29 = 27 by decide), if_neg (show ¬ nI 29 = 28 by decide), if_pos (show nI 29 = 29 from rfl)]
    obtain ⟨r, ra1, rb1, I1, I2, h1, h2, h3, h4⟩ := q_seed (xs (i + 1)) ra rb I hR
    refine ⟨ra1, rb1, I2, h4, ?_⟩
    rw [e1, l_2 (show i + 1 < L by omega) (by omega), hX, v_3, m_bind_some h1, l_2 (show i + 1 < L by omega) (by omega), h2, v_137, m_bind_some h3, if_pos rfl, fL_law_998]
    unfold m_let
    rw [e3]
  | 30, _ =>
    rw [if_neg (show ¬ nI 30 = 0 by decide), if_neg (show ¬ nI 30 = 1 by decide), if_neg (show ¬ nI 30 = 2 by decide), if_neg (show ¬ nI 30 = 3 by decide), if_neg (show ¬ nI 30 = 4 by decide), if_neg (show ¬ nI 30 = 5 by decide), if_neg (show ¬ nI 30 = 6 by decide), if_neg (show ¬ nI 30 = 7 by decide), if_neg (show ¬ nI 30 = 8 by decide), if_neg (show ¬ nI 30 = 9 by decide), if_neg (show ¬ nI 30 = 10 by decide), if_neg (show ¬ nI 30 = 11 by decide), if_neg (show ¬ nI 30 = 12 by decide), if_neg (show ¬ nI 30 = 13 by decide), if_neg (show ¬ nI 30 = 14 by decide), if_neg (show ¬ nI 30 = 15 by decide), if_neg (show ¬ nI 30 = 16 by decide), if_neg (show ¬ nI 30 = 17 by decide), if_neg (show ¬ nI 30 = 18 by decide), if_neg (show ¬ nI 30 = 19 by decide), if_neg (show ¬ nI 30 = 20 by decide), if_neg (show ¬ nI 30 = 21 by decide), if_neg (show ¬ nI 30 = 22 by decide), if_neg (show ¬ nI 30 = 23 by decide), if_neg (show ¬ nI 30 = 24 by decide), if_neg (show ¬ nI 30 = 25 by decide), if_neg (show ¬ nI 30 = 26 by decide), if_neg (show ¬ nI 30 = 27 by decide), if_neg (show ¬ nI 30 = 28 by decide), if_neg (show ¬ nI 30 = 29 by decide), if_pos (show nI 30 = 30 from rfl)]
    obtain ⟨r, ra1, rb1, I1, I2, h1, h2, h3, h4⟩ := q_keep (xs (i + 1)) ra rb I hR
    refine ⟨ra1, rb1, I2, h4, ?_⟩
    rw [e1, l_2 (show i + 1 < L by omega) (by omega), hX, v_3, m_bind_some h1, l_2 (show i + 1 < L by omega) (by omega), h2, v_137, m_bind_some h3, if_pos rfl, fL_law_998]
    unfold m_let
    rw [e3]
  | 31, _ =>
    rw [if_neg (show ¬ nI 31 = 0 by decide), if_neg (show ¬ nI 31 = 1 by decide), if_neg (show ¬ nI 31 = 2 by decide), if_neg (show ¬ nI 31 = 3 by decide), if_neg (show ¬ nI 31 = 4 by decide), if_neg (show ¬ nI 31 = 5 by decide), if_neg (show ¬ nI 31 = 6 by decide), if_neg (show ¬ nI 31 = 7 by decide), if_neg (show ¬ nI 31 = 8 by decide), if_neg (show ¬ nI 31 = 9 by decide), if_neg (show ¬ nI 31 = 10 by decide), if_neg (show ¬ nI 31 = 11 by decide), if_neg (show ¬ nI 31 = 12 by decide), if_neg (show ¬ nI 31 = 13 by decide), if_neg (show ¬ nI 31 = 14 by decide), if_neg (show ¬ nI 31 = 15 by decide), if_neg (show ¬ nI 31 = 16 by decide), if_neg (show ¬ nI 31 = 17 by decide), if_neg (show ¬ nI 31 = 18 by decide), if_neg (show ¬ nI 31 = 19 by decide), if_neg (show ¬ nI 31 = 20 by decide), if_neg (show ¬ nI 31 = 21 by decide), if_neg (show ¬ nI 31 = 22 by decide), if_neg (show ¬ nI 31 = 23 by decide), if_neg (show ¬ nI 31 = 24 by decide), if_neg (show ¬ nI 31 = 25 by decide), if_neg (show ¬ nI 31 = 26 by decide), if_neg (show ¬ nI 31 = 27 by decide), if_neg (show ¬ nI 31 = 28 by decide), if_neg (show ¬ nI 31 = 29 by decide), if_neg (show ¬ nI 31 = 30 by decide), if_pos (show nI 31 = 31 from rfl)]
    obtain ⟨r, ra1, rb1, I1, I2, h1, h2, h3, h4⟩ := q_goBack (xs (i + 1)) ra rb I hR
    refine ⟨ra1, rb1, I2, h4, ?_⟩
    rw [e1, l_2 (show i + 1 < L by omega) (by omega), hX, v_3, m_bind_some h1, l_2 (show i + 1 < L by omega) (by omega), h2, v_137, m_bind_some h3, if_pos rfl, fL_law_998]
    unfold m_let
    rw [e3]
  | k + 32, hk => exact absurd hk (by omega)
theorem law_loop {L : Nat} {xs : Nat → Int32} (hL : L ≤ 192) (hp9 : c_pairs L xs) : ∀ (n i ra rb : Nat) (I : cM), i ≤ L + 2 → L + 3 ≤ i + 3 * n → Rel ra rb xs I → ∃ σ', fL_law_18 n 2 3 137 (nI i) (hp ra rb L I) = some (1, σ') := by
  intro n
  induction n with
  | zero =>
    intro i ra rb I h1 h2
    omega
  | succ n ih =>
    intro i ra rb I h1 h2 hR
    rcases Nat.lt_or_ge L (i + 3) with h | h
    · refine ⟨hp ra rb L I, ?_⟩
      have : nI L - 3 < nI i := by
        have e : (nI L - nI 3).toInt = (L : Int) - 3 := pk_sub_toInt (by omega) (by omega)
        have e2 : (nI i).toInt = (i : Int) := nI_toInt (by omega)
        show nI L - nI 3 < nI i
        rw [Int32.lt_iff_toInt_lt, e, e2]
        omega
      rw [fL_law_18, n_2, if_pos this]
      rfl
    · obtain ⟨ra1, rb1, I1, hR1, e⟩ := law_step n i hL h hp9 hR
      rw [e]
      exact ih (i + 3) ra1 rb1 I1 (by omega) (by omega) hR1
theorem p_main_of (L : Nat) (xs : Nat → Int32) (hL : L ≤ 192) (hp9 : c_pairs L xs) : ∃ σ' : cH, pL_law 2 (c_s0 L xs) = some (1, σ') := by
  rw [law_ini]
  exact law_loop hL hp9 c_fu 0 113 119 (I0 xs) (by omega) (by show L + 3 ≤ 0 + 3 * 1000; omega) (rel_ini xs)
