/-! the model's first mixing; pair swaps -/
def GD (D : Nat) (t h : Nat → Nat) (k d e : Nat) : Prop := ∃ k', MaxP D (swt t d e) h (stray (swt t d e) h) k' ∧ sz (stray t h) D + k' = sz (stray (swt t d e) h) D + k + 1
theorem bal_swt {D : Nat} {t h : Nat → Nat} {d e : Nat} (hb : Bal D t h (stray t h)) (hd : d < D) (he : e < D) (hde : d ≠ e) : Bal D (swt t d e) h (stray (swt t d e) h) := by
  have h1 : Bal D t h allD := by
    refine hb.add (fun c => cn_congr (fun _ _ => rfl) fun x _ z => stray_f.mp (dif_t.mp z).2) fun _ _ _ => rfl
  refine ((h1.swap hd he hde rfl).cut (W := stray (swt t d e) h) fun x _ z => stray_f.mp z).congr fun x _ => ?_
  unfold itr allD
  cases stray (swt t d e) h x <;> rfl
section M4
variable {ra rb L ro : Nat} {B B0 : cM} {C D : Nat} {v kd h : Nat → Nat} {pt q : Nat} {t s' w e' : Nat → Nat} {u y : Nat} {au he' : Int32}
theorem sw_step (hm : MR B0 C D v kd h pt q) (hc : MN B0 D t s' w e' u y au he') (ho : OKR C D v kd h pt q) (ht : ∀ d, d < D → t d < C) {k : Nat} (hk : MaxP D t h (stray t h) k) (hf1 : 1 ≤ sz (stray t h) D - k) {d e : Nat} (hde : d < e) (he : e < D) (hfr : ∀ a i, a ≠ 150 → a ≠ 151 → B a i = B0 a i) {K92 : Int32 → Int32 → MM Int32} {K105 : Nat → Int32 → Int32 → MM Int32} (n : Nat) : ∃ B', (∀ a i, a ≠ 150 → a ≠ 151 → B' a i = B0 a i) ∧ (GD D t h k d e → fX10_firstSwap_14 K92 K105 (n + 1) 137 (nI (sz (stray t h) D - k)) (nI d) (nI e) (hp ra rb L B) = K92 (nI d) (nI e) (hp ra rb L B')) ∧ (¬ GD D t h k d e → fX10_firstSwap_14 K92 K105 (n + 1) 137 (nI (sz (stray t h) D - k)) (nI d) (nI e) (hp ra rb L B) = fX10_firstSwap_14 K92 K105 n 137 (nI (sz (stray t h) D - k)) (nI d) (nI (e + 1)) (hp ra rb L B')) := by
  have hD := ho.2.2.1
  have hne : d ≠ e := by omega
  have hks := hk.1.le_sz
  have hs8 := sz_le (stray t h) D
  have bm : MR B C D v kd h pt q := hm.fr fun a i b => hfr a i (by omega) (by omega)
  have r142 : ∀ i, B 142 i = B0 142 i := fun i => hfr 142 i (by decide) (by decide)
  have ed : B 142 d = nI (t d) := by rw [r142]; exact hc.1 d (by omega)
  have ee : B 142 e = nI (t e) := by rw [r142]; exact hc.1 e he
  obtain ⟨B1, hB1⟩ : ∃ B1, B1 = u2 (u2 B 142 d (nI (t e))) 142 e (nI (t d)) := ⟨_, rfl⟩
  have f1 : ∀ a i, ¬ (a = 142 ∧ (i = d ∨ i = e)) → B1 a i = B a i := fun a i b => by rw [hB1, u2_n _ _ (by omega), u2_n _ _ (by omega)]
  have m1 : MR B1 C D v kd h pt q := bm.fr fun a i b => f1 a i (by omega)
  have n1 : MN B1 D (swt t d e) s' w e' u y au he' := by
    obtain ⟨c1, c2, c3, c4, c5, c6, c7, c8⟩ := hc
    refine ⟨fun x hx => ?_, fun x hx => ?_, fun x hx => ?_, fun x hx => ?_, ?_, ?_, ?_, ?_⟩
    · by_cases h2 : x = e
      · rw [h2, swt_e, hB1, u2_s]
      · by_cases h1 : x = d
        · rw [h1, swt_d hne, hB1, u2_nk _ _ hne, u2_s]
        · rw [swt_o h1 h2, f1 _ _ (by omega), r142]
          exact c1 x hx
    · rw [f1 _ _ (by omega), r142]; exact c2 x hx
    · rw [f1 _ _ (by omega), r142]; exact c3 x hx
    · rw [f1 _ _ (by omega), r142]; exact c4 x hx
    · rw [f1 _ _ (by omega), r142]; exact c5
    · rw [f1 _ _ (by omega), r142]; exact c6
    · rw [f1 _ _ (by omega), r142]; exact c7
    · rw [f1 _ _ (by omega), r142]; exact c8
  have t1 : ∀ x, x < D → swt t d e x < C := fun x hx => by
    by_cases h2 : x = e
    · rw [h2, swt_e]
      exact ht d (by omega)
    · by_cases h1 : x = d
      · rw [h1, swt_d hne]
        exact ht e he
      · rw [swt_o h1 h2]
        exact ht x hx
  obtain ⟨r, B2, k1, k2, k3, -⟩ := q_fewestSwaps (ra := ra) (rb := rb) (L := L) m1 n1 ho t1
  obtain ⟨k', k4, k5⟩ := k3 (bal_swt hk.1.bal (by omega) he hne)
  have hks' := k4.1.le_sz
  have hs8' := sz_le (stray (swt t d e) h) D
  have ef : nI (sz (stray t h) D - k) - 1 = nI (sz (stray t h) D - k - 1) := pk_sub (b := 1) hf1
  have eq : r = nI (sz (stray t h) D - k) - 1 ↔ GD D t h k d e := by
    rw [ef, k5, nI_eq (by omega) (by omega)]
    constructor
    · intro z
      exact ⟨k', k4, by omega⟩
    · intro ⟨k2', z1, z2⟩
      have := k4.uniq z1
      omega
  obtain ⟨B3, hB3⟩ : ∃ B3, B3 = u2 (u2 B2 142 d (nI (t d))) 142 e (nI (t e)) := ⟨_, rfl⟩
  refine ⟨B3, fun a i b1 b2 => ?_, fun hg => ?_, fun hg => ?_⟩
  · rw [← hfr a i b1 b2, hB3]
    by_cases h2 : a = 142 ∧ i = e
    · rw [h2.1, h2.2, u2_s, ee]
    · rw [u2_n _ _ h2]
      by_cases h1 : a = 142 ∧ i = d
      · rw [h1.1, h1.2, u2_s, ed]
      · rw [u2_n _ _ h1, k2 a i b1 b2, f1 a i (by omega)]
  · rw [fX10_firstSwap_14, g_137_2, bm.2.1, if_neg (nI_ge he (by omega)), g_137_8, l_142 (by omega), ed, g_137_8, l_142 (by omega), ee, g_137_8, s_142 (by omega), g_137_8, s_142 (by omega), ← hB1, v_137, m_bind_some k1, if_pos (eq.mpr hg), fX10_firstSwap_69, g_137_8, s_142 (by omega), g_137_8, s_142 (by omega), ← hB3, if_neg ne10]
  · rw [fX10_firstSwap_14, g_137_2, bm.2.1, if_neg (nI_ge he (by omega)), g_137_8, l_142 (by omega), ed, g_137_8, l_142 (by omega), ee, g_137_8, s_142 (by omega), g_137_8, s_142 (by omega), ← hB1, v_137, m_bind_some k1, if_neg (fun z => hg (eq.mp z)), fX10_firstSwap_69, g_137_8, s_142 (by omega), g_137_8, s_142 (by omega), ← hB3, if_pos rfl, mlet, nI_1]
theorem sw_in (hm : MR B0 C D v kd h pt q) (hc : MN B0 D t s' w e' u y au he') (ho : OKR C D v kd h pt q) (ht : ∀ d, d < D → t d < C) {k : Nat} (hk : MaxP D t h (stray t h) k) (hf1 : 1 ≤ sz (stray t h) D - k) {d : Nat} {K92 : Int32 → Int32 → MM Int32} {K105 : Nat → Int32 → Int32 → MM Int32} : ∀ (n e : Nat) (B : cM), d < e → e ≤ D → D < e + n → (∀ a i, a ≠ 150 → a ≠ 151 → B a i = B0 a i) → ∃ B', (∀ a i, a ≠ 150 → a ≠ 151 → B' a i = B0 a i) ∧ ((∃ e0, e ≤ e0 ∧ e0 < D ∧ GD D t h k d e0 ∧ (∀ x, e ≤ x → x < e0 → ¬ GD D t h k d x) ∧ fX10_firstSwap_14 K92 K105 n 137 (nI (sz (stray t h) D - k)) (nI d) (nI e) (hp ra rb L B) = K92 (nI d) (nI e0) (hp ra rb L B')) ∨ ((∀ x, e ≤ x → x < D → ¬ GD D t h k d x) ∧ fX10_firstSwap_14 K92 K105 n 137 (nI (sz (stray t h) D - k)) (nI d) (nI e) (hp ra rb L B) = K105 137 (nI (sz (stray t h) D - k)) (nI d) (hp ra rb L B'))) := by
  have hD := ho.2.2.1
  intro n
  induction n with
  | zero =>
    intro e B h0 h1 h2
    omega
  | succ n ih =>
    intro e B a0 a1 a2 hfr
    by_cases he : e < D
    · obtain ⟨B1, g1, g2, g3⟩ := sw_step (ra := ra) (rb := rb) (L := L) hm hc ho ht hk hf1 a0 he hfr (K92 := K92) (K105 := K105) n
      by_cases hg : GD D t h k d e
      · exact ⟨B1, g1, Or.inl ⟨e, Nat.le_refl _, he, hg, fun x b1 b2 => by omega, g2 hg⟩⟩
      · obtain ⟨B2, c1, c2⟩ := ih (e + 1) B1 (by omega) (by omega) (by omega) g1
        refine ⟨B2, c1, c2.imp (fun ⟨e0, w1, w2, w3, w4, w5⟩ => ⟨e0, by omega, w2, w3, fun x b1 b2 => ?_, (g3 hg).trans w5⟩) fun ⟨w1, w2⟩ => ⟨fun x b1 b2 => ?_, (g3 hg).trans w2⟩⟩
        · by_cases hq : x = e
          · rw [hq]
            exact hg
          · exact w4 x (by omega) b2
        · by_cases hq : x = e
          · rw [hq]
            exact hg
          · exact w1 x (by omega) b2
    · have : e = D := by omega
      subst this
      refine ⟨B, hfr, Or.inr ⟨fun x b1 b2 => by omega, ?_⟩⟩
      rw [fX10_firstSwap_14, g_137_2, hfr _ _ (by decide) (by decide), hm.2.1, if_pos (nI_le (by omega) (by omega))]
theorem sw_out (hm : MR B0 C D v kd h pt q) (hc : MN B0 D t s' w e' u y au he') (ho : OKR C D v kd h pt q) (ht : ∀ d, d < D → t d < C) {k : Nat} (hk : MaxP D t h (stray t h) k) (hf1 : 1 ≤ sz (stray t h) D - k) : ∀ (n d : Nat) (B : cM), d ≤ D → D < d + n → (∀ a i, a ≠ 150 → a ≠ 151 → B a i = B0 a i) → ∃ r B', (∀ a i, a ≠ 150 → a ≠ 151 → B' a i = B0 a i) ∧ fX10_firstSwap_2 fX10_firstSwap_92 n 137 (nI (sz (stray t h) D - k)) (nI d) (hp ra rb L B) = some (r, hp ra rb L B') ∧ ((r = -1 ∧ ∀ x z, d ≤ x → x < z → z < D → ¬ GD D t h k x z) ∨ (∃ d0 e0, d ≤ d0 ∧ d0 < e0 ∧ e0 < D ∧ GD D t h k d0 e0 ∧ r = nI (10 * d0 + e0) ∧ ∀ x z, d ≤ x → x < z → z < D → GD D t h k x z → 10 * d0 + e0 ≤ 10 * x + z)) := by
  have hD := ho.2.2.1
  intro n
  induction n with
  | zero =>
    intro d B h1 h2
    omega
  | succ n ih =>
    intro d B a1 a2 hfr
    rw [fX10_firstSwap_2, g_137_2, hfr _ _ (by decide) (by decide), hm.2.1]
    by_cases hd : d < D
    · rw [if_neg (nI_ge hd (by omega)), mlet, nI_1]
      obtain ⟨B1, g1, g2⟩ := sw_in (ra := ra) (rb := rb) (L := L) hm hc ho ht hk hf1 (d := d) (K92 := fX10_firstSwap_92) (K105 := fX10_firstSwap_105 (fX10_firstSwap_2 fX10_firstSwap_92 n)) c_fu (d + 1) B (by omega) (by omega) (by show D < d + 1 + 1000; omega) hfr
      rcases g2 with ⟨e0, w1, w2, w3, w4, w5⟩ | ⟨w1, w2⟩
      · have e10 : (10 : Int32) * nI d = nI (10 * d) := pk_mul 10 d
        refine ⟨nI (10 * d + e0), B1, g1, ?_, Or.inr ⟨d, e0, Nat.le_refl _, by omega, w2, w3, rfl, fun x z b1 b2 b3 b4 => ?_⟩⟩
        · rw [w5, fX10_firstSwap_92, e10, nI_add]
          rfl
        · by_cases hq : x = d
          · subst hq
            have : ¬ z < e0 := fun zz => w4 z (by omega) zz b4
            omega
          · omega
      · obtain ⟨r, B2, c1, c2, c3⟩ := ih (d + 1) B1 (by omega) (by omega) g1
        refine ⟨r, B2, c1, ?_, c3.imp (fun ⟨q1, q2⟩ => ⟨q1, fun x z b1 b2 b3 => ?_⟩) fun ⟨d0, e0, q1, q2, q3, q4, q5, q6⟩ => ⟨d0, e0, by omega, q2, q3, q4, q5, fun x z b1 b2 b3 b4 => ?_⟩⟩
        · rw [w2, fX10_firstSwap_105, mlet, nI_1]
          exact c2
        · by_cases hq : x = d
          · rw [hq] at b2 ⊢
            exact w1 z (by omega) b3
          · exact q2 x z (by omega) b2 b3
        · by_cases hq : x = d
          · rw [hq] at b2 b4
            exact absurd b4 (w1 z (by omega) b3)
          · exact q6 x z (by omega) b2 b3 b4
    · have : d = D := by omega
      subst this
      rw [if_pos (nI_le (by omega) (by omega))]
      exact ⟨-1, B, hfr, rfl, Or.inl ⟨rfl, fun x z b1 b2 b3 => by omega⟩⟩
end M4
/-- both say the same of the first mixing -/
theorem open_eq {D : Nat} {t h : Nat → Nat} {k : Nat} {A : cM} (hD : D ≤ 8) (hk : MaxP D t h (stray t h) k) (hR : RS A t h D (2 ^ sz (stray t h) D)) {r1 r2 : Int32}
    (h1 : (r1 = -1 ∧ ∀ x, 1 ≤ x → x < 2 ^ sz (stray t h) D → ¬ CD D t h x) ∨ (∃ m, r1 = nI m ∧ m < 100 ∧ (∃ x, 1 ≤ x ∧ x < 2 ^ sz (stray t h) D ∧ CD D t h x ∧ LPr (exs (stray t h) x) D m) ∧ ∀ x, 1 ≤ x → x < 2 ^ sz (stray t h) D → CD D t h x → ∀ m', LPr (exs (stray t h) x) D m' → m ≤ m'))
    (h2 : (r2 = -1 ∧ ∀ x z, 0 ≤ x → x < z → z < D → ¬ GD D t h k x z) ∨ (∃ d0 e0, 0 ≤ d0 ∧ d0 < e0 ∧ e0 < D ∧ GD D t h k d0 e0 ∧ r2 = nI (10 * d0 + e0) ∧ ∀ x z, 0 ≤ x → x < z → z < D → GD D t h k x z → 10 * d0 + e0 ≤ 10 * x + z))
    (hlp : ∀ s, 1 ≤ s → s < 2 ^ sz (stray t h) D → Bal D t h (exs (stray t h) s) → ∃ m, LPr (exs (stray t h) s) D m) : r1 = r2 := by
  have hb := hk.1.bal
  have hc8 := sz_le (stray t h) D
  have h21 : 1 ≤ 2 ^ sz (stray t h) D := Nat.one_le_two_pow
  -- a mixing that brings one less is in a set that opens
  have toS : ∀ d e, d < e → e < D → GD D t h k d e → ∃ s, 1 ≤ s ∧ s < 2 ^ sz (stray t h) D ∧ CD D t h s ∧ exs (stray t h) s d = true ∧ exs (stray t h) s e = true := by
    intro d e hde he ⟨k', g1, g2⟩
    obtain ⟨S, f1, f2, f3, f4, f5⟩ := swB hk (by omega) he (by omega) g1 g2
    obtain ⟨s, s1, s2⟩ := exs_of f1
    have hd : d < D := by omega
    have xd : exs (stray t h) s d = true := by rw [s2 d hd]; exact f3
    have xe : exs (stray t h) s e = true := by rw [s2 e he]; exact f4
    have hs1 : 1 ≤ s := Nat.pos_of_ne_zero fun z => by
      have := (exs_t.mp xd).2
      rw [z, Nat.zero_testBit] at this
      exact absurd this (by decide)
    have hx : (2 ^ sz (stray t h) D - 1) ^^^ s < 2 ^ sz (stray t h) D := Nat.xor_lt_two_pow (by omega) s1
    obtain ⟨-, k1, q2, -⟩ := hR _ hx
    have q4 := q2.congr (Y := dif (stray t h) (exs (stray t h) s)) fun x hx => exs_not hx
    have hbs : Bal D t h (exs (stray t h) s) := f2.congr fun x hx => (s2 x hx).symm
    have q5 := q4.max (hb.sub hbs fun x _ z => (exs_t.mp z).1)
    have q6 := f5 k1 (q5.congr fun x hx => by unfold dif; rw [s2 x hx])
    obtain ⟨-, ka, p2, -⟩ := hR (2 ^ sz (stray t h) D - 1) (by omega)
    have p4 := p2.congr (Y := stray t h) fun x hx => exs_all hx
    have p5 := (p4.max hb).uniq hk
    exact ⟨s, hs1, s1, ⟨hbs, k1, q4, by rw [q6, ← p5]; exact p4⟩, xd, xe⟩
  -- two dolls of a set that opens are a mixing that brings one less
  have ofS : ∀ s d e, CD D t h s → d < e → e < D → exs (stray t h) s d = true → exs (stray t h) s e = true → GD D t h k d e := by
    intro s d e ⟨c1, k1, c2, c3⟩ hde he xd xe
    have hbd := hb.sub c1 fun x _ z => (exs_t.mp z).1
    have p1 := c2.max hbd
    have p2 := c3.max hb
    have hbw := bal_swt hb (d := d) (e := e) (by omega) he (by omega)
    have ex : ∃ k', MaxP D (swt t d e) h (stray (swt t d e) h) k' := by
      -- the most is reached: the number of parts is at most D
      have top : ∀ m, (∀ k', Pt D (swt t d e) h k' (stray (swt t d e) h) → k' ≤ m) → ∃ k', MaxP D (swt t d e) h (stray (swt t d e) h) k' := by
        intro m
        induction m with
        | zero =>
          intro hm
          by_cases hz : Pt D (swt t d e) h 0 (stray (swt t d e) h)
          · exact ⟨0, hz, hm⟩
          · exfalso
            have hne : Nem D (stray (swt t d e) h) := Classical.byContradiction fun hn => hz fun x hx => bf fun z => hn ⟨x, hx, z⟩
            have := hm 1 (Pt.cons (fun _ _ z => z) hne hbw (fun x _ => dif_f.mpr fun z => z))
            omega
        | succ m ih =>
          intro hm
          by_cases hz : Pt D (swt t d e) h (m + 1) (stray (swt t d e) h)
          · exact ⟨m + 1, hz, hm⟩
          · refine ih fun k' hk' => ?_
            have := hm k' hk'
            by_cases hq : k' = m + 1
            · rw [hq] at hk'
              exact absurd hk' hz
            · omega
      exact top D fun k' hk' => Nat.le_trans hk'.le_sz (sz_le _ _)
    obtain ⟨k', hk'⟩ := ex
    have e1 := swA (fun x _ z => (exs_t.mp z).1) c1 p1 p2 (by omega) he (by omega) xd xe hk'
    exact ⟨k', hk', by rw [hk.uniq p2]; omega⟩
  rcases h1 with ⟨a1, a2⟩ | ⟨m, a1, a2, ⟨x, a3, a4, a5, a6⟩, a7⟩
  · rcases h2 with ⟨b1, b2⟩ | ⟨d0, e0, b0, b1, b2, b3, b4, b5⟩
    · rw [a1, b1]
    · obtain ⟨s, c1, c2, c3, -⟩ := toS d0 e0 b1 b2 b3
      exact absurd c3 (a2 s c1 c2)
  · obtain ⟨d, e, c1, c2, c3, c4, c5, c6⟩ := a6
    have hg := ofS x d e a5 c1 c2 c3 c4
    rcases h2 with ⟨b1, b2⟩ | ⟨d0, e0, b0, b1, b2, b3, b4, b5⟩
    · exact absurd hg (b2 d e (Nat.zero_le _) c1 c2)
    · have u1 := b5 d e (Nat.zero_le _) c1 c2 hg
      obtain ⟨s, f1, f2, f3, f4, f5⟩ := toS d0 e0 b1 b2 b3
      obtain ⟨m', g1⟩ := hlp s f1 f2 f3.1
      have u2 := a7 s f1 f2 f3 m' g1
      obtain ⟨d', e', i1, i2, i3, i4, i5, i6⟩ := g1
      have j1 := i5 d0 (by omega) f4
      have j2 := i5 e0 b2 f5
      have : m = 10 * d0 + e0 := by omega
      rw [a1, b4, this]
theorem pr_swaps (L : Nat) (xs : Nat → Int32) (hL : L ≤ 192) (x : Int32) : Pr L xs (pX9_swaps 3 x) (pX10_swaps 137 x) := by
  intro ra rb I hR
  have hR0 := hR
  obtain ⟨C, D, v, kd, hm, pt, q, hab, hRo, hT, hN, hP, hI, hB, hS, hX⟩ := hR
  obtain ⟨t, s, w, e, u, yy, au, he, hc1, hm1, hok⟩ := scn_to hN
  have hr := hab.rl
  have hra : ra = 113 ∨ ra = 119 := by rcases hab with h | h <;> omega
  have hc := hRo.c
  have hm2 := hRo.m
  have ho := hRo.o
  have hC := ho.1
  have hD := ho.2.2.1
  have ht : ∀ d, d < D → t d < C := fun d hd => (hok.1 d hd).1
  have hh : ∀ d, d < D → hm d < C := ho.2.2.2.2.2.2.1
  have h7t : ∀ d, d < D → t d < 7 := fun d hd => by have := ht d hd; omega
  have h7h : ∀ d, d < D → hm d < 7 := fun d hd => by have := hh d hd; omega
  have hc8 := sz_le (stray t hm) D
  have h2c : 2 ^ sz (stray t hm) D ≤ 256 := upw (by omega)
  have h21 : 1 ≤ 2 ^ sz (stray t hm) D := Nat.one_le_two_pow
  rcases pk_ix x (n := 2) (by decide) with h | h | ⟨j, hj, rfl⟩
  · have i0 : pX10_in x.toInt64 0 1 (hp ra rb L I) = some (0, hp ra rb L I) := c_in_f (a := 0) (b := 1) (Or.inl h)
    refine ⟨-1000000002, ra, rb, I, I, ?_, hX.2.2, ?_, hR0⟩
    · rw [pX9_swaps, if_pos h]
      rfl
    · rw [pX10_swaps, m_bind_some i0]
      rfl
  · have h2 : (nI 2).toInt = 2 := by decide
    have h0 : ¬ x < 0 := by
      rw [t_le, h2] at h
      rw [t_lt]
      have : (0 : Int32).toInt = 0 := by decide
      omega
    have h1 : 1 < x := by
      rw [t_le, h2] at h
      rw [t_lt]
      have : (1 : Int32).toInt = 1 := by decide
      omega
    have i0 : pX10_in x.toInt64 0 1 (hp ra rb L I) = some (0, hp ra rb L I) := c_in_f (a := 0) (b := 1) (Or.inr h1)
    refine ⟨-1000000002, ra, rb, I, I, ?_, hX.2.2, ?_, hR0⟩
    · rw [pX9_swaps, if_neg h0, if_neg (Int32.not_le.mpr h1)]
      rfl
    · rw [pX10_swaps, m_bind_some i0]
      rfl
  obtain ⟨r, A, a1, a2, a3, a4, a5⟩ := q_mixes (ra := ra) (rb := rb) (L := L) (A0 := I) (D := D) (t := t) (h := hm) hr (by omega) hc.2.1 hc.2.2.2.2.1 hc1.1 hD h7t h7h
  have fA : ∀ a k, ¬ (97 ≤ a ∧ a ≤ 101) → A a k = I a k := a2.2.2
  have hmA : MR A C D v kd hm pt q := hm2.fr fun a k b => fA a k (by omega)
  have hnA : MN A D t s w e u yy au he := hm1.fr fun k => fA 142 k (by decide)
  have hX1 : A 2 = xs := by
    funext k
    rw [fA _ _ (by decide)]
    exact congrFun hX.2.2 k
  have i1 : ∀ σ, pX10_in (nI j).toInt64 0 1 σ = some (1, σ) := fun σ => c_in_t (a := 0) (b := 1) (nI_pos' (by omega)) (nI_le (b := 1) (by omega) (by decide))
  obtain ⟨r', B, b1, b2, b3, b4⟩ := q_fewestSwaps (ra := ra) (rb := rb) (L := L) hmA hnA ho ht
  have hrr : r = r' := by
    by_cases hb : Bal D t hm (stray t hm)
    · obtain ⟨k, k1, k2⟩ := a4 hb
      obtain ⟨k', k3, k4⟩ := b3 hb
      rw [k2, k4, k1.uniq k3]
    · rw [a5 hb, b4 hb]
  have fin : ∀ B' : cM, (∀ a k, a ≠ 150 → a ≠ 151 → B' a k = A a k) → Rel ra rb xs B' := by
    intro B' hf
    refine hR0.fr fun a k hfa => ?_
    have h1 : a ≠ 150 ∧ a ≠ 151 ∧ ¬ (97 ≤ a ∧ a ≤ 101) := by
      simp only [fAll, fRol, fTxt, fNow, fPst, fImg, fBok, fSed, fSta] at hfa
      omega
    rw [hf a k h1.1 h1.2.1, fA a k h1.2.2]
  have nj : ¬ nI j < 0 := nI_pos (by omega)
  have nj1 : nI j ≤ 1 := nI_le (b := 1) (by omega) (by decide)
  by_cases hj0 : j = 0
  · subst hj0
    refine ⟨r, ra, rb, A, B, ?_, hX1, ?_, fin B b2⟩
    · rw [pX9_swaps, if_neg nj, if_pos nj1, if_pos (show nI 0 = 0 from rfl), g_3_5, g_3_7, g_3_1, v_97, m_bind_some a1]
      rfl
    · rw [pX10_swaps, m_bind_some (i1 _), if_neg ne10, v_137, m_bind_some b1, if_pos (show nI 0 = 0 from rfl), fX10_swaps_27, if_pos (show nI 0 = 0 from rfl), hrr]
      rfl
  · have nj0 : ¬ nI j = 0 := nI_ne0 (by omega) (by omega)
    have cls : ∀ (r1 : Int32), pX2_leastOpening 97 ra 6 (hp ra rb L I) = some (r1, hp ra rb L A) → pX9_swaps 3 (nI j) (hp ra rb L I) = some (r1, hp ra rb L A) := by
      intro r1 hk
      rw [pX9_swaps, if_neg nj, if_pos nj1, if_neg nj0, g_3_5, g_3_7, g_3_1, v_97, m_bind_some hk]
      rfl
    -- nothing to be mixed, or nothing helps
    have none : ¬ (0 : Int32) < r → ∃ (r2 : Int32) (ra1 rb1 : Nat) (I1 I2 : cM), pX9_swaps 3 (nI j) (hp ra rb L I) = some (r2, hp ra1 rb1 L I1) ∧ I1 2 = xs ∧ pX10_swaps 137 (nI j) (hp ra1 rb1 L I1) = some (r2, hp ra1 rb1 L I2) ∧ Rel ra1 rb1 xs I2 := by
      intro hn
      have hn1 : ¬ (1 : Int32) ≤ r' := by
        rw [← hrr]
        intro z
        refine hn ?_
        rw [t_le, show (1 : Int32).toInt = 1 by decide] at z
        rw [t_lt, show (0 : Int32).toInt = 0 by decide]
        omega
      refine ⟨-1, ra, rb, A, B, cls (-1) ?_, hX1, ?_, fin B b2⟩
      · rw [pX2_leastOpening, v_97, m_bind_some a1, if_neg hn]
        rfl
      · rw [pX10_swaps, m_bind_some (i1 _), if_neg ne10, v_137, m_bind_some b1, if_neg nj0, if_neg hn1, fX10_swaps_27, if_neg nj0]
        rfl
    by_cases hb : Bal D t hm (stray t hm)
    · obtain ⟨k, k1, k2⟩ := a4 hb
      by_cases hf : 1 ≤ sz (stray t hm) D - k
      · have hpos : (0 : Int32) < r := by
          rw [k2]
          exact nI_lt (a := 0) (by omega) (by omega)
        have hpos1 : (1 : Int32) ≤ r' := by
          rw [← hrr, k2]
          exact nI_le (a := 1) hf (by omega)
        obtain ⟨r1, o1, o2⟩ := open_in (ra := ra) (rb := rb) (L := L) hD h7t h7h a2 a3 c_fu 1 (-1) (by decide) h21 (by show 2 ^ sz (stray t hm) D < 1 + 1000; omega) (Or.inl ⟨rfl, fun y c1 c2 => by omega⟩)
        obtain ⟨r2, B2, p1, p2, p3⟩ := sw_out (ra := ra) (rb := rb) (L := L) (B0 := A) hmA hnA ho ht k1 hf c_fu 0 B (Nat.zero_le _) (by show D < 0 + 1000; omega) b2
        have e12 : r1 = r2 := open_eq hD k1 a3 o2 p3 fun s' c1 c2 c3 => by
          obtain ⟨m, m1, -⟩ := q_leastPair (ra := ra) (rb := rb) (L := L) hD a2 c1 c2 c3
          exact ⟨m, m1⟩
        refine ⟨r1, ra, rb, A, B2, cls r1 ?_, hX1, ?_, fin B2 p1⟩
        · rw [pX2_leastOpening, v_97, m_bind_some a1, if_pos hpos, g_97_4, a2.1, all_n (by omega), mlet]
          exact o1
        · have k3 : pX10_firstSwap 137 r' (hp ra rb L B) = some (r1, hp ra rb L B2) := by
            rw [← hrr, k2, e12]
            exact p2
          rw [pX10_swaps, m_bind_some (i1 _), if_neg ne10, v_137, m_bind_some b1, if_neg nj0, if_pos hpos1, v_137, m_bind_some k3]
          rfl
      · refine none ?_
        rw [k2, show sz (stray t hm) D - k = 0 by omega]
        decide
    · refine none ?_
      rw [a5 hb]
      decide
