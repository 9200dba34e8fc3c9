/-! who knows; pair know -/
def toN (C x : Nat) : Nat → Nat
  | 0 => x
  | c + 1 => if x.testBit c then toN C x c ||| (2 ^ ((c + 1) % C) ||| 2 ^ ((c + 3) % C)) else toN C x c
theorem toN_1 {C x c : Nat} (h : x.testBit c = true) : toN C x (c + 1) = toN C x c ||| (2 ^ ((c + 1) % C) ||| 2 ^ ((c + 3) % C)) := by
  rw [toN, if_pos h]
theorem toN_0 {C x c : Nat} (h : x.testBit c = false) : toN C x (c + 1) = toN C x c := by
  rw [toN, if_neg (by rw [h]; decide)]
theorem toN_lt {C x : Nat} (hC : 0 < C) (hx : x < 2 ^ C) : ∀ c, toN C x c < 2 ^ C
  | 0 => hx
  | c + 1 => by
    have ih := toN_lt hC hx c
    cases h : x.testBit c
    · rw [toN_0 h]
      exact ih
    · rw [toN_1 h]
      exact Nat.or_lt_two_pow ih (Nat.or_lt_two_pow (Nat.pow_lt_pow_right (by decide) (Nat.mod_lt _ hC)) (Nat.pow_lt_pow_right (by decide) (Nat.mod_lt _ hC)))
def kn (C c : Nat) : Nat → Nat
  | 0 => 2 ^ c
  | n + 1 => toN C (kn C c n) C
theorem kn_lt {C c : Nat} (hc : c < C) : ∀ n, kn C c n < 2 ^ C
  | 0 => Nat.pow_lt_pow_right (by decide) hc
  | n + 1 => toN_lt (by omega) (kn_lt hc n) C
theorem kn_7 : ∀ C, C < 8 → ∀ c, c < C → kn C c 7 = 2 ^ C - 1 := by decide +kernel
section K1
variable {ra rb L ro : Nat} {A B : cM} {C D : Nat} {v kd hm : Nat → Nat} {pt q : Nat}
theorem q_toldOn (hro : c_rl ro) (h5 : A ro 5 = nI C) (hC : C ≤ 7) (hC0 : 0 < C) {x : Nat} (hx : x < 2 ^ C) : pX4_toldOn ro (nI x) (hp ra rb L A) = some (nI (toN C x C), hp ra rb L A) := by
  have h27 := pw7 hC
  have key : ∀ (n j : Nat), j ≤ C → C < j + n → fX4_toldOn_4 n ro (nI x) (nI (toN C x j)) (nI j) (hp ra rb L A) = some (nI (toN C x C), hp ra rb L A) := by
    intro n
    induction n with
    | zero =>
      intro j h1 h2
      omega
    | succ n ih =>
      intro j a1 a2
      rw [fX4_toldOn_4, rg_5 hro, h5]
      by_cases hj : j < C
      · have ih2 := ih (j + 1) (by omega) (by omega)
        have hm1 : (j + 1) % C < C := Nat.mod_lt _ hC0
        have hm3 : (j + 3) % C < C := Nat.mod_lt _ hC0
        have e1 : nI (j + 1) - nI (j + 1) / nI C * nI C = nI ((j + 1) % C) := nI_mod (by omega) hC0 (by omega)
        have e30 : nI j + 3 = nI (j + 3) := nI_add j 3
        have e3 : nI (j + 3) - nI (j + 3) / nI C * nI C = nI ((j + 3) % C) := nI_mod (by omega) hC0 (by omega)
        rw [if_neg (nI_ge hj (by omega)), has_n (by omega) (by omega)]
        rcases tb01 x j with ⟨t1, t2⟩ | ⟨t1, t2⟩
        · rw [toN_0 t2] at ih2
          rw [t1, if_neg (by decide), fX4_toldOn_45, mlet, nI_1]
          exact ih2
        · rw [toN_1 t2] at ih2
          rw [t1, if_pos (by decide), rg_5 hro, h5]
          unfold m_nz
          rw [if_neg (nI_ne0 hC0 (by omega)), rg_5 hro, h5]
          rw [if_neg (nI_ne0 hC0 (by omega)), mlet, fX4_toldOn_45, mlet, e30, e3, nI_1, e1, sh1 (by omega), sh1 (by omega), or_n, or_n]
          exact ih2
      · have : j = C := by omega
        subst this
        rw [if_pos (nI_le (by omega) (by omega))]
        rfl
  rw [pX4_toldOn]
  exact key c_fu 0 (by omega) (by show C < 0 + 1000; omega)
theorem know_in (h0 : B 137 0 = nI C) (hC : C ≤ 7) (hC0 : 0 < C) {x : Nat} (hx : x < 2 ^ C) {K : Nat → Int32 → Int32 → Int32 → MM Int32} {y z : Int32} : ∀ (n j : Nat), j ≤ C → C < j + n → fX10_whoKnows_19 K n 137 y (nI x) z (nI (toN C x j)) (nI j) (hp ra rb L B) = K 137 y z (nI (toN C x C)) (hp ra rb L B) := by
  have h27 := pw7 hC
  intro n
  induction n with
  | zero =>
    intro j h1 h2
    omega
  | succ n ih =>
    intro j a1 a2
    rw [fX10_whoKnows_19, g_137_0, h0]
    by_cases hj : j < C
    · have ih2 := ih (j + 1) (by omega) (by omega)
      have hm1 : (j + 1) % C < C := Nat.mod_lt _ hC0
      have hm3 : (j + 3) % C < C := Nat.mod_lt _ hC0
      have e1 : nI (j + 1) - nI (j + 1) / nI C * nI C = nI ((j + 1) % C) := nI_mod (by omega) hC0 (by omega)
      have e30 : nI j + 3 = nI (j + 3) := nI_add j 3
      have e3 : nI (j + 3) - nI (j + 3) / nI C * nI C = nI ((j + 3) % C) := nI_mod (by omega) hC0 (by omega)
      rw [if_neg (nI_ge hj (by omega)), m_bind_some (q_hasN (by omega) (by omega))]
      rcases tb01 x j with ⟨t1, t2⟩ | ⟨t1, t2⟩
      · rw [toN_0 t2] at ih2
        rw [t1, if_pos (by decide), fX10_whoKnows_66, mlet, mlet, or0, nI_1]
        exact ih2
      · rw [toN_1 t2] at ih2
        rw [t1, if_neg (by decide), g_137_0, h0]
        unfold m_nz
        rw [if_neg (nI_ne0 hC0 (by omega)), g_137_0, h0]
        rw [if_neg (nI_ne0 hC0 (by omega)), fX10_whoKnows_66, mlet, mlet, e30, e3, nI_1, e1, sh1 (by omega), sh1 (by omega), or_n, or_n]
        exact ih2
    · have : j = C := by omega
      subst this
      rw [if_pos (nI_le (by omega) (by omega))]
theorem q_whoKnows (h0 : B 137 0 = nI C) (hC : C ≤ 7) {c m : Nat} (hc : c < C) (hm : m ≤ 20) : pX10_whoKnows 137 (nI c) (nI m) (hp ra rb L B) = some (nI (kn C c m), hp ra rb L B) := by
  have key : ∀ (n j : Nat), j ≤ m → m < j + n → fX10_whoKnows_7 n 137 (nI m) (nI (kn C c j)) (nI j) (hp ra rb L B) = some (nI (kn C c m), hp ra rb L B) := by
    intro n
    induction n with
    | zero =>
      intro j h1 h2
      omega
    | succ n ih =>
      intro j a1 a2
      rw [fX10_whoKnows_7]
      by_cases hj : j < m
      · rw [if_neg (nI_ge hj (by omega))]
        have k := know_in (ra := ra) (rb := rb) (L := L) h0 hC (by omega) (kn_lt hc j) (K := fX10_whoKnows_75 (fX10_whoKnows_7 n)) (y := nI m) (z := nI j) c_fu 0 (by omega) (by show C < 0 + 1000; omega)
        refine k.trans ?_
        rw [fX10_whoKnows_75, mlet, nI_1]
        exact ih (j + 1) (by omega) (by omega)
      · have : j = m := by omega
        subst this
        rw [if_pos (nI_le (by omega) (by omega))]
        rfl
  rw [pX10_whoKnows, mlet, sh1 (by omega)]
  exact key c_fu 0 (by omega) (by show m < 0 + 1000; omega)
theorem know_c (hr : c_rl ra) (h5 : A ra 5 = nI C) (hC : C ≤ 7) {c m : Nat} (hc : c < C) (hm : m ≤ 20) : ∀ (n j : Nat), j ≤ m → m < j + n → fX9_know_50 n 3 (nI m) (nI (kn C c j)) (nI j) (hp ra rb L A) = some (nI (kn C c m), hp ra rb L A) := by
  intro n
  induction n with
  | zero =>
    intro j h1 h2
    omega
  | succ n ih =>
    intro j a1 a2
    rw [fX9_know_50]
    by_cases hj : j < m
    · rw [if_neg (nI_ge hj (by omega)), g_3_7, rv hr, m_bind_some (q_toldOn hr h5 hC (by omega) (kn_lt hc j)), mlet, nI_1]
      exact ih (j + 1) (by omega) (by omega)
    · have : j = m := by omega
      subst this
      rw [if_pos (nI_le (by omega) (by omega))]
      rfl
theorem know_all (hr : c_rl ra) (h5 : A ra 5 = nI C) (h0 : A 137 0 = nI C) (hC : C ≤ 7) {c : Nat} (hc : c < C) : ∀ (n j : Nat), j ≤ 7 → 7 < j + n → ∃ r, fX9_yearsUntilAllKnow_4 n 3 (nI (kn C c j)) (nI j) (hp ra rb L A) = some (r, hp ra rb L A) ∧ fX10_know_41 n 137 (nI c) (nI j) (hp ra rb L A) = some (r, hp ra rb L A) := by
  have h27 := pw7 hC
  intro n
  induction n with
  | zero =>
    intro j h1 h2
    omega
  | succ n ih =>
    intro j a1 a2
    have hk := kn_lt hc j
    rw [fX9_yearsUntilAllKnow_4, fX10_know_41, v_137, m_bind_some (q_whoKnows h0 hC hc (by omega)), g_137_0, h0, all_n (by omega)]
    by_cases hj : j < 7
    · rw [if_neg (show ¬ (7 : Int32) ≤ nI j from nI_ge (b := 7) hj (by decide)), g_3_7, rv hr, m_bind_some (q_allCourts hr h5 hC)]
      by_cases he : nI (kn C c j) = nI (2 ^ C - 1)
      · rw [if_pos he, if_pos he]
        exact ⟨_, rfl, rfl⟩
      · rw [if_neg he, if_neg he, g_3_7, rv hr, m_bind_some (q_toldOn hr h5 hC (by omega) hk), mlet, mlet, nI_1]
        exact ih (j + 1) (by omega) (by omega)
    · have : j = 7 := by omega
      subst this
      rw [if_pos (by decide), if_pos (by rw [kn_7 C (by omega) c hc])]
      exact ⟨_, rfl, rfl⟩
end K1
theorem pr_know (L : Nat) (xs : Nat → Int32) (hL : L ≤ 192) (x y : Int32) : Pr L xs (pX9_know 3 x y) (pX10_know 137 x y) := by
  refine Pr.same fun ra rb I hR => ?_
  obtain ⟨C, D, v, kd, hm, pt, q, hab, hRo, hT, hN, hP, hI, hB, hS, hX⟩ := hR
  have hr := hab.rl
  have hc := hRo.c
  have hm2 := hRo.m
  have ho := hRo.o
  have hC := ho.1
  rw [pX9_know, g_3_7, rv hr, pX10_know, v_137]
  rcases pk_ix x (n := C) (by omega) with h | h | ⟨c, hcl, rfl⟩
  · rw [m_bind_some (q_hasCourt_f hr hc.1 (Or.inl h)), m_bind_some (q_isCourt_f hm2.1 (Or.inl h) hC)]
    exact ⟨_, rfl, rfl⟩
  · rw [m_bind_some (q_hasCourt_f hr hc.1 (Or.inr h)), m_bind_some (q_isCourt_f hm2.1 (Or.inr h) hC)]
    exact ⟨_, rfl, rfl⟩
  rw [m_bind_some (q_hasCourt_t hr hc.1 hcl hC), m_bind_some (q_isCourt_t hm2.1 hcl hC), if_neg ne10, if_neg ne10]
  have em : (-1 : Int64) = (-1 : Int32).toInt64 := rfl
  have e20 : (20 : Int64) = (20 : Int32).toInt64 := rfl
  by_cases h1 : y = -1
  · subst h1
    have i1 : pX10_in (-1 : Int32).toInt64 (-1) 20 (hp ra rb L I) = some (1, hp ra rb L I) := c_in_t (a := -1) (b := 20) (by decide) (by decide)
    obtain ⟨r, k1, k2⟩ := know_all (rb := rb) (L := L) hr hc.1 hm2.1 hC hcl c_fu 0 (by decide) (by decide)
    rw [if_pos rfl, fX9_know_32, mlet, if_pos rfl, sh1 (by omega), v_3, pX9_yearsUntilAllKnow, m_bind_some i1, if_neg ne10, if_pos (by decide)]
    refine ⟨r, ?_, k2⟩
    exact (m_bind_some k1).trans rfl
  rw [if_neg h1]
  by_cases h0 : y < 0
  · have hlt : y < -1 := by
      rw [t_lt] at *
      have : (-1 : Int32).toInt = -1 := by decide
      have : (0 : Int32).toInt = 0 := by decide
      have : y.toInt ≠ (-1 : Int32).toInt := fun z => h1 (Int32.toInt_inj.mp z)
      omega
    have i1 : pX10_in y.toInt64 (-1) 20 (hp ra rb L I) = some (0, hp ra rb L I) := c_in_f (a := -1) (b := 20) (Or.inl hlt)
    rw [if_pos h0, m_bind_some i1]
    exact ⟨_, rfl, rfl⟩
  rw [if_neg h0]
  by_cases h2 : y ≤ 20
  · obtain ⟨m, hm, rfl⟩ := nI_of2 (M := 20) (n := 20) (by decide) h0 h2
    have i1 : pX10_in (nI m).toInt64 (-1) 20 (hp ra rb L I) = some (1, hp ra rb L I) := c_in_t (a := -1) (b := 20) (by rw [t_le, nI_toInt (by omega), show (-1 : Int32).toInt = -1 by decide]; omega) h2
    have k := know_c (rb := rb) (L := L) hr hc.1 hC hcl hm c_fu 0 (by omega) (by show m < 0 + 1000; omega)
    rw [if_pos h2, fX9_know_32, mlet, if_neg h1, sh1 (by omega), m_bind_some i1, if_neg ne10, if_neg h0, v_137, m_bind_some (q_whoKnows hm2.1 hC hcl hm)]
    exact ⟨_, k, rfl⟩
  · have i1 : pX10_in y.toInt64 (-1) 20 (hp ra rb L I) = some (0, hp ra rb L I) := c_in_f (a := -1) (b := 20) (Or.inr (Int32.not_le.mp h2))
    rw [if_neg h2, m_bind_some i1]
    exact ⟨_, rfl, rfl⟩
