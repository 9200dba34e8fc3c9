/-! power; pair court -/
theorem wt_or_ge {v : Nat → Nat} {s c : Nat} : ∀ {n : Nat}, n ≤ c → wt v n (s ||| 2 ^ c) = wt v n s
  | 0, _ => rfl
  | n + 1, h => by
    have h1 := wt_or_ge (v := v) (s := s) (c := c) (n := n) (by omega)
    have h2 : (s ||| 2 ^ c).testBit n = s.testBit n := by
      rw [Nat.testBit_or, Nat.testBit_two_pow]
      simp [show ¬ c = n by omega]
    rw [wt, wt, h1, h2]
theorem wt_or {v : Nat → Nat} {s c : Nat} (hs : s.testBit c = false) : ∀ {n : Nat}, c < n → wt v n (s ||| 2 ^ c) = wt v n s + v c
  | 0, h => absurd h (by omega)
  | n + 1, h => by
    by_cases hc : c = n
    · subst hc
      have h2 : (s ||| 2 ^ c).testBit c = true := by
        rw [Nat.testBit_or, Nat.testBit_two_pow]
        simp
      rw [wt_1 h2, wt_0 hs, wt_or_ge (Nat.le_refl _)]
    · have h1 := wt_or (v := v) hs (n := n) (by omega)
      have h2 : (s ||| 2 ^ c).testBit n = s.testBit n := by
        rw [Nat.testBit_or, Nat.testBit_two_pow]
        simp [hc]
      rw [wt, wt, h1, h2]
      omega
theorem pc_lt7 : ∀ C, C < 9 → ∀ j, j < 2 ^ C - 1 → pc j < C := by decide +kernel
theorem pc_all : ∀ C, C < 9 → pc (2 ^ C - 1) = C := by decide +kernel
theorem pc_no {C c j : Nat} (hC : C ≤ 8) (hc : c < C) (hj : j < 2 ^ C) (hb : j.testBit c = false) : pc j < C := by
  refine pc_lt7 C (by omega) j ?_
  refine Nat.lt_of_le_of_ne (by omega) fun z => ?_
  rw [z, Nat.testBit_two_pow_sub_one] at hb
  simp at hb
  omega
theorem fact_s : ∀ j, j < 7 → 2 ≤ j → c_fact (j - 1) * nI j = c_fact j := by decide
theorem q_factorial {σ : cH} {k : Nat} (hk : k < 7) : pX10_factorial (nI k) σ = some (c_fact k, σ) := by
  have key : ∀ (n j : Nat), 2 ≤ j → (j ≤ k + 1 ∨ j = 2) → k + 2 < j + n → fX10_factorial_4 n (nI k) (c_fact (j - 1)) (nI j) σ = some (c_fact k, σ) := by
    intro n
    induction n with
    | zero =>
      intro j h1 h2 h3
      omega
    | succ n ih =>
      intro j h1 h2 h3
      rw [fX10_factorial_4]
      by_cases hj : k < j
      · rw [if_pos (nI_lt hj (by omega))]
        have : c_fact (j - 1) = c_fact k := by
          by_cases h4 : j = k + 1
          · rw [h4]; rfl
          · have : j = 2 := by omega
            have : k = 0 := by omega
            subst_vars
            rfl
        rw [this]
        rfl
      · rw [if_neg (nI_nlt (by omega) (by omega)), mlet, mlet, fact_s j (by omega) h1, nI_1]
        exact ih (j + 1) (by omega) (by omega) (by omega)
  rw [pX10_factorial]
  exact key c_fu 2 (by decide) (Or.inr rfl) (by show k + 2 < 2 + 1000; omega)
section W1
variable {ra rb L ro : Nat} {A B : cM} {C D : Nat} {v kd hm : Nat → Nat} {pt q : Nat}
theorem pow_skc {K : Nat → Int32 → Int32 → Int32 → MM Int32} {c acc j : Int32} : fX4_powerOf_50 K ro c acc j 0 (hp ra rb L A) = K ro c acc (j + 1) (hp ra rb L A) := by
  rw [fX4_powerOf_50]
  by_cases h : (j >>> (c &&& 31)) &&& 1 = 0
  · rw [if_pos h, if_pos rfl, fX4_powerOf_94, mlet]
  · rw [if_neg h, fX4_powerOf_94, mlet]
theorem pow_skm {K : Nat → Int32 → Int32 → Int32 → MM Int32} {c acc j : Int32} : fX10_power_46 (fX10_power_47 K) 137 c acc j (hp ra rb L A) = K 137 c acc (j + 1) (hp ra rb L A) := by
  rw [fX10_power_46, fX10_power_47, if_pos rfl, fX10_power_81, mlet, mlet, Int32.add_zero]
theorem q_power (hro : c_rl ro) (h : CR A ro C D v kd hm pt q) (hm2 : MR A C D v kd hm pt q) (ho : OKR C D v kd hm pt q) (hF : A 0 = c_fact) {c : Nat} (hc : c < C) : ∃ r, pX4_powerOf ro (nI c) (hp ra rb L A) = some (r, hp ra rb L A) ∧ pX10_power 137 (nI c) (hp ra rb L A) = some (r, hp ra rb L A) := by
  have hC := ho.1
  have h2 := pw7 hC
  have hq := ho.2.2.2.2.2.2.2.2.1
  have hvc := ho.2.2.2.2.1 c hc
  have h21 : 1 ≤ 2 ^ C := Nat.one_le_two_pow
  have key : ∀ (n j : Nat) (acc : Int32), j ≤ 2 ^ C → 2 ^ C < j + n → ∃ r, fX4_powerOf_4 n ro (nI c) acc (nI j) (hp ra rb L A) = some (r, hp ra rb L A) ∧ fX10_power_4 n 137 (nI c) acc (nI j) (hp ra rb L A) = some (r, hp ra rb L A) := by
    intro n
    induction n with
    | zero =>
      intro j acc h1 h2
      omega
    | succ n ih =>
      intro j acc a1 a2
      rw [fX4_powerOf_4, rv hro, m_bind_some (q_allCourts hro h.1 hC), fX10_power_4, g_137_0, hm2.1, sh1 (by omega)]
      by_cases hj : j < 2 ^ C
      · have hwt := wt_le (v := v) (C := C) (fun c hc => (ho.2.2.2.2.1 c hc).2) j
        rw [if_neg (nI_nlt (by omega) (by omega)), if_neg (nI_ge hj (by omega)), rg_4 hro, rl_5 hro (by omega), h.2.2.2.2.2.2.2 j hj, rg_8 hro, h.2.2.2.2.2.2.1, m_bind_some (q_hasN (by omega) (by omega))]
        have ihs := fun acc => ih (j + 1) acc (by omega) (by omega)
        have skip : ∀ (X Y : MM Int32), X (hp ra rb L A) = fX4_powerOf_4 n ro (nI c) acc (nI j + 1) (hp ra rb L A) → Y (hp ra rb L A) = fX10_power_4 n 137 (nI c) acc (nI j + 1) (hp ra rb L A) → ∃ r, X (hp ra rb L A) = some (r, hp ra rb L A) ∧ Y (hp ra rb L A) = some (r, hp ra rb L A) := by
          intro X Y e1 e2
          rw [e1, e2, nI_1]
          exact ihs acc
        by_cases hl : wt v C j < q
        · rw [if_neg (nI_ge hl (by omega)), rg_4 hro, rl_5 hro (by omega), h.2.2.2.2.2.2.2 j hj, rg_0 hro, rl_1 hro (by omega), h.2.2.1 c hc, rg_8 hro, h.2.2.2.2.2.2.1, nI_add]
          rcases tb01 j c with ⟨e1, e2⟩ | ⟨e1, e2⟩
          · have hor : j ||| 2 ^ c < 2 ^ 31 := by
              have : j ||| 2 ^ c < 2 ^ C := Nat.or_lt_two_pow hj (Nat.pow_lt_pow_right (by decide) hc)
              omega
            rw [e1, if_pos (show nI 0 = 0 from rfl), v_137, m_bind_some (q_hasQuota hm2 ho (by omega)), if_pos hl, if_pos rfl, sh1 (by omega), or_n, v_137, m_bind_some (q_hasQuota hm2 ho hor), wt_or e2 hc]
            by_cases hl2 : wt v C j + v c < q
            · rw [if_pos (nI_lt hl2 (by omega)), if_pos hl2, if_pos rfl]
              exact skip _ _ pow_skc pow_skm
            · rw [if_neg (nI_nlt (by omega) (by omega)), if_neg hl2, if_neg ne10]
              have hp1 := pc_no (by omega) hc hj e2
              have es : nI C - 1 - nI (pc j) = nI (C - 1 - pc j) := by
                have e3 : nI C - 1 = nI (C - 1) := pk_sub (a := C) (b := 1) (by omega)
                rw [e3, pk_sub (by omega)]
              have es2 : nI C - nI (pc j) - 1 = nI (C - 1 - pc j) := by
                have e3 : nI (C - pc j) - 1 = nI (C - pc j - 1) := pk_sub (b := 1) (by omega)
                rw [pk_sub (by omega), e3]
                congr 1
                omega
              rw [fX4_powerOf_50, has_n (by omega) (by omega), e1, if_pos (show nI 0 = 0 from rfl), if_neg ne10, m_bind_some (q_bitCount (by omega)), l_0 (by omega), rg_5 hro, h.1, es, l_0 (by omega), mlet, fX4_powerOf_94, mlet]
              rw [fX10_power_47, if_neg ne10, m_bind_some (q_bits (by omega)), m_bind_some (q_factorial (by omega)), g_137_0, hm2.1, m_bind_some (q_bits (by omega)), es2, m_bind_some (q_factorial (by omega)), fX10_power_81, mlet, mlet, hF, nI_1]
              exact ihs _
          · rw [e1, if_neg (show ¬ nI 1 = 0 by decide)]
            refine skip _ _ ?_ pow_skm
            by_cases hl2 : wt v C j + v c < q
            · rw [if_pos (nI_lt hl2 (by omega))]
              exact pow_skc
            · rw [if_neg (nI_nlt (by omega) (by omega)), fX4_powerOf_50, has_n (by omega) (by omega), e1, if_neg (show ¬ nI 1 = 0 by decide), fX4_powerOf_94, mlet]
        · rw [if_pos (nI_le (by omega) (by omega))]
          refine skip _ _ pow_skc ?_
          rcases tb01 j c with ⟨e1, e2⟩ | ⟨e1, e2⟩
          · rw [e1, if_pos (show nI 0 = 0 from rfl), v_137, m_bind_some (q_hasQuota hm2 ho (by omega)), if_neg hl, if_neg ne10]
            exact pow_skm
          · rw [e1, if_neg (show ¬ nI 1 = 0 by decide)]
            exact pow_skm
      · have : j = 2 ^ C := by omega
        subst this
        rw [if_pos (nI_lt (by omega) (by omega)), if_pos (nI_le (by omega) (by omega))]
        exact ⟨acc, rfl, rfl⟩
  obtain ⟨r, k1, k2⟩ := key c_fu 0 0 (by omega) (by show 2 ^ C < 0 + 1000; omega)
  exact ⟨r, k1, k2⟩
end W1
theorem pr_court (L : Nat) (xs : Nat → Int32) (hL : L ≤ 192) (x y : Int32) : Pr L xs (pX9_court 3 x y) (pX10_court 137 x y) := by
  refine Pr.same fun ra rb I hR => ?_
  obtain ⟨C, D, v, kd, hm, pt, q, hab, hRo, hT, hN, hP, hI, hB, hS, hX⟩ := hR
  obtain ⟨t, s, w, e, u, yy, au, he, hc1, hm1, hok⟩ := scn_to hN
  have hr := hab.rl
  have hc := hRo.c
  have hm2 := hRo.m
  have ho := hRo.o
  have hC := ho.1
  have hD := ho.2.2.1
  rw [pX9_court, g_3_7, rv hr, pX10_court, v_137]
  rcases pk_ix x (n := C) (by omega) with h | h | ⟨c, hcl, rfl⟩
  · rw [m_bind_some (q_hasCourt_f hr hc.1 (Or.inl h)), m_bind_some (q_isCourt_f hm2.1 (Or.inl h) hC)]
    exact ⟨_, rfl, rfl⟩
  · rw [m_bind_some (q_hasCourt_f hr hc.1 (Or.inr h)), m_bind_some (q_isCourt_f hm2.1 (Or.inr h) hC)]
    exact ⟨_, rfl, rfl⟩
  · rw [m_bind_some (q_hasCourt_t hr hc.1 hcl hC), m_bind_some (q_isCourt_t hm2.1 hcl hC), if_neg ne10, if_neg ne10]
    by_cases h0 : y = 0
    · rw [if_pos h0, if_pos h0, g_3_7, rg_0 hr, rl_1 hr (by omega), hc.2.2.1 c hcl, g_137_1, l_138 (by omega), hm2.2.2.1 c hcl]
      exact ⟨_, rfl, rfl⟩
    rw [if_neg h0, if_neg h0]
    by_cases h1 : y = 1
    · rw [if_pos h1, if_pos h1, g_3_1, sg_0 sn_6, v_3, m_bind_some (q_dollsWith (f := t) hr hc.2.1 hD (fun d hd => by have := (hok.1 d hd).1; omega) (by omega) (fun d hd K => by rw [sl_1 sn_6 (by omega), hc1.1 d hd])), v_137, m_bind_some (q_whoIsAt hm2 hm1 ho (fun d hd => (hok.1 d hd).1) (by omega))]
      exact ⟨_, rfl, rfl⟩
    rw [if_neg h1, if_neg h1]
    by_cases h2 : y = 2
    · rw [if_pos h2, if_pos h2, g_3_7, rg_2 hr, v_3, m_bind_some (q_dollsWith (f := hm) hr hc.2.1 hD (fun d hd => by have := ho.2.2.2.2.2.2.1 d hd; omega) (by omega) (fun d hd K => by rw [rl_3 hr (by omega), hc.2.2.2.2.1 d hd])), v_137, m_bind_some (q_whoBelongsTo hm2 ho (by omega))]
      exact ⟨_, rfl, rfl⟩
    rw [if_neg h2, if_neg h2]
    by_cases h3 : y = 3
    · have hnl : nods u t kd C D < 2 ^ C := bs_lt _ _
      have h27 := pw7 hC
      rw [if_pos h3, if_pos h3, g_3_1, g_3_7, sv sn_6, m_bind_some (q_nodding hr hc hc1 ho hok), v_137, m_bind_some (q_nods hm2 hm1 ho hok (by omega)), has_n (by omega) (by omega)]
      have eb : (nods u t kd C D).testBit c = nod1 u t kd D c := by
        unfold nods
        rw [bs_tb]
        simp [hcl]
      cases hb : nod1 u t kd D c
      · rw [tb_f (eb.trans hb), if_pos (show bi false = 0 from rfl)]
        exact ⟨_, rfl, rfl⟩
      · rw [tb_t (eb.trans hb), if_neg (show ¬ bi true = 0 by decide)]
        exact ⟨_, rfl, rfl⟩
    rw [if_neg h3, if_neg h3]
    by_cases h4 : y = 4
    · obtain ⟨r, k1, k2⟩ := q_power (ra := ra) (rb := rb) (L := L) hr hc hm2 ho hX.1 hcl
      rw [if_pos h4, if_pos h4, g_3_7, rv hr, m_bind_some k1, v_137, m_bind_some k2]
      exact ⟨_, rfl, rfl⟩
    rw [if_neg h4, if_neg h4]
    exact ⟨_, rfl, rfl⟩
