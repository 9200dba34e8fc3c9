/-! the congress as numbers, the class's (CR) and the model's (MR); votes; who nods -/
def CR (A : cM) (ra C D : Nat) (v kd hm : Nat → Nat) (pt q : Nat) : Prop :=
  A ra 5 = nI C ∧ A ra 6 = nI D ∧ (∀ c, c < C → A (ra + 1) c = nI (v c)) ∧ (∀ d, d < D → A (ra + 2) d = nI (kd d)) ∧ (∀ d, d < D → A (ra + 3) d = nI (hm d)) ∧ A ra 7 = nI pt ∧ A ra 8 = nI q ∧ (∀ s, s < 2 ^ C → A (ra + 5) s = nI (wt v C s))
def MR (B : cM) (C D : Nat) (v kd hm : Nat → Nat) (pt q : Nat) : Prop :=
  B 137 0 = nI C ∧ B 137 2 = nI D ∧ (∀ c, c < C → B 138 c = nI (v c)) ∧ (∀ d, d < D → B 139 d = nI (kd d)) ∧ (∀ d, d < D → B 140 d = nI (hm d)) ∧ B 137 6 = nI pt ∧ B 137 7 = nI q
def OKR (C D : Nat) (v kd hm : Nat → Nat) (pt q : Nat) : Prop :=
  C ≤ 7 ∧ C ≠ 1 ∧ D ≤ 8 ∧ (C = 0 → D = 0) ∧ (∀ c, c < C → 1 ≤ v c ∧ v c ≤ 9) ∧ (∀ d, d < D → kd d ≤ 3) ∧ (∀ d, d < D → hm d < C) ∧ pt < 64 ∧ q ≤ 63 ∧ (0 < C ↔ 1 ≤ q)
theorem Rol.c {I : cM} {ra C D : Nat} {v kd hm : Nat → Nat} {pt q : Nat} (h : Rol I ra C D v kd hm pt q) : CR I ra C D v kd hm pt q := by
  obtain ⟨h1, h2, h3, h4, h5, h6, h7, h8, h9, h10, h11, h12, h13, h14, h15, h16, h17, h18, h19⟩ := h
  exact ⟨h5, h7, fun c hc => (h9 c hc).2.2.1, fun c hc => (h10 c hc).2.1, fun c hc => (h11 c hc).2.1, h13, h17, h19⟩
theorem Rol.m {I : cM} {ra C D : Nat} {v kd hm : Nat → Nat} {pt q : Nat} (h : Rol I ra C D v kd hm pt q) : MR I C D v kd hm pt q := by
  obtain ⟨h1, h2, h3, h4, h5, h6, h7, h8, h9, h10, h11, h12, h13, h14, h15, h16, h17, h18, h19⟩ := h
  exact ⟨h6, h8, fun c hc => (h9 c hc).2.2.2, fun c hc => (h10 c hc).2.2, fun c hc => (h11 c hc).2.2, h14, h18⟩
theorem Rol.o {I : cM} {ra C D : Nat} {v kd hm : Nat → Nat} {pt q : Nat} (h : Rol I ra C D v kd hm pt q) : OKR C D v kd hm pt q := by
  obtain ⟨h1, h2, h3, h4, h5, h6, h7, h8, h9, h10, h11, h12, h13, h14, h15, h16, h17, h18, h19⟩ := h
  exact ⟨h1, h2, h3, h4, fun c hc => ⟨(h9 c hc).1, (h9 c hc).2.1⟩, fun c hc => (h10 c hc).1, fun c hc => (h11 c hc).1, h12, h15, h16⟩
theorem CR.fr {A B : cM} {ra C D : Nat} {v kd hm : Nat → Nat} {pt q : Nat} (h : CR A ra C D v kd hm pt q) (hf : ∀ a k, ra ≤ a → a ≤ ra + 5 → B a k = A a k) : CR B ra C D v kd hm pt q := by
  obtain ⟨h1, h2, h3, h4, h5, h6, h7, h8⟩ := h
  refine ⟨?_, ?_, fun c hc => ?_, fun c hc => ?_, fun c hc => ?_, ?_, ?_, fun s hs => ?_⟩
  · rw [hf _ _ (by omega) (by omega)]; exact h1
  · rw [hf _ _ (by omega) (by omega)]; exact h2
  · rw [hf _ _ (by omega) (by omega)]; exact h3 c hc
  · rw [hf _ _ (by omega) (by omega)]; exact h4 c hc
  · rw [hf _ _ (by omega) (by omega)]; exact h5 c hc
  · rw [hf _ _ (by omega) (by omega)]; exact h6
  · rw [hf _ _ (by omega) (by omega)]; exact h7
  · rw [hf _ _ (by omega) (by omega)]; exact h8 s hs
theorem MR.fr {A B : cM} {C D : Nat} {v kd hm : Nat → Nat} {pt q : Nat} (h : MR A C D v kd hm pt q) (hf : ∀ a k, (a = 137 ∧ k < 8) ∨ (138 ≤ a ∧ a ≤ 140) → B a k = A a k) : MR B C D v kd hm pt q := by
  obtain ⟨h1, h2, h3, h4, h5, h6, h7⟩ := h
  refine ⟨?_, ?_, fun c hc => ?_, fun c hc => ?_, fun c hc => ?_, ?_, ?_⟩
  · rw [hf _ _ (by omega)]; exact h1
  · rw [hf _ _ (by omega)]; exact h2
  · rw [hf _ _ (by omega)]; exact h3 c hc
  · rw [hf _ _ (by omega)]; exact h4 c hc
  · rw [hf _ _ (by omega)]; exact h5 c hc
  · rw [hf _ _ (by omega)]; exact h6
  · rw [hf _ _ (by omega)]; exact h7
theorem wt_le {v : Nat → Nat} : ∀ {C : Nat} (_ : ∀ c, c < C → v c ≤ 9) (s : Nat), wt v C s ≤ 9 * C
  | 0, _, s => Nat.le_refl _
  | C + 1, h, s => by
    have h1 := wt_le (C := C) (fun c hc => h c (by omega)) s
    have h2 := h C (by omega)
    unfold wt
    by_cases hb : s.testBit C = true
    · rw [if_pos hb]; omega
    · rw [if_neg hb]; omega
section N1
variable {ra rb L ro : Nat} {A B : cM} {C D : Nat} {v kd hm : Nat → Nat} {pt q : Nat} {t s w e : Nat → Nat} {u y : Nat} {au he : Int32}
theorem q_votesOf (h : MR B C D v kd hm pt q) (hC : C ≤ 7) {x : Nat} (hx : x < 2 ^ 31) : pX10_votesOf 137 (nI x) (hp ra rb L B) = some (nI (wt v C x), hp ra rb L B) := by
  obtain ⟨h1, h2, h3, h4, h5, h6, h7⟩ := h
  have key : ∀ (n j : Nat), j ≤ C → C < j + n → fX10_votesOf_4 n 137 (nI x) (nI (wt v j x)) (nI j) (hp ra rb L B) = some (nI (wt v C x), hp ra rb L B) := by
    intro n
    induction n with
    | zero =>
      intro j h1 h2
      omega
    | succ n ih =>
      intro j a1 a2
      rw [fX10_votesOf_4, g_137_0, h1]
      by_cases hj : j < C
      · rw [if_neg (nI_ge hj (by omega)), m_bind_some (q_hasN hx (by omega))]
        have ih2 := ih (j + 1) (by omega) (by omega)
        rcases tb01 x j with ⟨e1, e2⟩ | ⟨e1, e2⟩
        · rw [wt_0 e2] at ih2
          rw [e1, if_pos (by decide), fX10_votesOf_31, mlet, mlet, add0, nI_1]
          exact ih2
        · rw [wt_1 e2] at ih2
          rw [e1, if_neg (by decide), g_137_1, l_138 (by omega), h3 j hj, fX10_votesOf_31, mlet, mlet, nI_add, nI_1]
          exact ih2
      · have : j = C := by omega
        subst this
        rw [if_pos (nI_le (by omega) (by omega))]
        rfl
  rw [pX10_votesOf]
  exact key c_fu 0 (by omega) (by show C < 0 + 1000; omega)
theorem q_hasQuota (h : MR B C D v kd hm pt q) (ho : OKR C D v kd hm pt q) {x : Nat} (hx : x < 2 ^ 31) : pX10_hasQuota 137 (nI x) (hp ra rb L B) = some (if wt v C x < q then 0 else 1, hp ra rb L B) := by
  have hw := wt_le (v := v) (C := C) (fun c hc => (ho.2.2.2.2.1 c hc).2) x
  have h7 := h.2.2.2.2.2.2
  have hC := ho.1
  have hq := ho.2.2.2.2.2.2.2.2.1
  rw [pX10_hasQuota, v_137, m_bind_some (q_votesOf h hC hx), g_137_7, h7]
  by_cases hl : wt v C x < q
  · rw [if_pos (nI_lt hl (by omega)), if_pos hl]
    rfl
  · rw [if_neg (nI_nlt (by omega) (by omega)), if_neg hl]
    rfl
/-- who nods -/
def attd (u : Nat) (t : Nat → Nat) (D : Nat) : Nat := os (fun d => u.testBit d) t D
def wood (u : Nat) (t kd : Nat → Nat) (D : Nat) : Nat := os (fun d => u.testBit d && kd d == 1) t D
def nod1 (u : Nat) (t kd : Nat → Nat) (D c : Nat) : Bool := (attd u t D).testBit c && !(wood u t kd D).testBit c
def nods (u : Nat) (t kd : Nat → Nat) (C D : Nat) : Nat := bs (nod1 u t kd D) C
theorem q_nodding (hro : c_rl ro) (h : CR A ro C D v kd hm pt q) (hc : CN A D t s w e u y au he) (ho : OKR C D v kd hm pt q) (hk : OKS C D t s w e u y) : pX5_nodding 6 ro (hp ra rb L A) = some (nI (nods u t kd C D), hp ra rb L A) := by
  obtain ⟨h1, h2, h3, h4, h5, h6, h7, h8⟩ := h
  obtain ⟨c1, c2, c3, c4, c5, c6, c7, c8⟩ := hc
  have hC := ho.1
  have hD := ho.2.2.1
  have hu : u < 2 ^ 31 := by have := hk.2.1; have := upw hD; omega
  have key : ∀ (n j : Nat), j ≤ D → D < j + n → fX5_nodding_7 fX5_nodding_66 n 6 ro (nI (attd u t j)) (nI (wood u t kd j)) (nI j) (hp ra rb L A) = fX5_nodding_66 (nI (attd u t D)) (nI (wood u t kd D)) (hp ra rb L A) := by
    intro n
    induction n with
    | zero =>
      intro j h1 h2
      omega
    | succ n ih =>
      intro j a1 a2
      rw [fX5_nodding_7, rg_6 hro, h2]
      by_cases hj : j < D
      · have ih2 := ih (j + 1) (by omega) (by omega)
        unfold attd wood at ih2
        have ht : t j < C := (hk.1 j hj).1
        rw [if_neg (nI_ge hj (by omega)), sv sn_6, m_bind_some (q_isUp sn_6 _), c5, has_n hu (by omega)]
        rcases tb01 u j with ⟨e1, e2⟩ | ⟨e1, e2⟩
        · rw [os_0 e2, os_0 (p := fun d => u.testBit d && kd d == 1) (by simp [e2])] at ih2
          rw [e1, if_pos (by decide), fX5_nodding_60, mlet, nI_1]
          exact ih2
        · rw [os_1 e2] at ih2
          rw [e1, if_neg (by decide), sg_0 sn_6, sl_1 sn_6 (by omega), c1 j hj, mlet, sh1 (by omega), or_n, rg_1 hro, rl_2 hro (by omega), h4 j hj]
          by_cases hw : kd j = 1
          · rw [os_1 (p := fun d => u.testBit d && kd d == 1) (by simp [e2, hw])] at ih2
            rw [hw, if_pos (by decide), sg_0 sn_6, sl_1 sn_6 (by omega), c1 j hj, mlet, sh1 (by omega), or_n, fX5_nodding_60, mlet, nI_1]
            exact ih2
          · have hne : ¬ nI (kd j) = 1 := fun z => hw ((nI_eq (by have := ho.2.2.2.2.2.1 j hj; omega) (by decide)).mp (show nI (kd j) = nI 1 from z))
            rw [os_0 (p := fun d => u.testBit d && kd d == 1) (by simp [hw])] at ih2
            rw [if_neg hne, fX5_nodding_60, mlet, nI_1]
            exact ih2
      · have : j = D := by omega
        subst this
        rw [if_pos (nI_le (by omega) (by omega))]
  have e1 : pX5_nodding 6 ro (hp ra rb L A) = _ := key c_fu 0 (by omega) (by show D < 0 + 1000; omega)
  rw [e1, fX5_nodding_66]
  have e2 : nI (attd u t D) &&& (nI (wood u t kd D) ^^^ (-1)) = nI (nods u t kd C D) := by
    apply andnot_n
    intro i _
    unfold nods
    rw [bs_tb]
    unfold nod1
    by_cases hi : i < C
    · simp [hi]
    · have : (attd u t D).testBit i = false := by
        apply Nat.testBit_lt_two_pow
        have := os_lt (p := fun d => u.testBit d) (f := t) (n := D) (m := C) (fun d hd => (hk.1 d hd).1)
        have h2 : 2 ^ C ≤ 2 ^ i := Nat.pow_le_pow_right (by decide) (by omega)
        unfold attd
        omega
      simp [this]
  rw [e2]
  rfl
theorem q_whoIsAt (h : MR B C D v kd hm pt q) (hc : MN B D t s w e u y au he) (ho : OKR C D v kd hm pt q) (hk : ∀ d, d < D → t d < C) {c : Nat} (hc31 : c < 2 ^ 31) : pX10_whoIsAt 137 (nI c) (hp ra rb L B) = some (nI (bs (fun d => t d == c) D), hp ra rb L B) := by
  obtain ⟨h1, h2, h3, h4, h5, h6, h7⟩ := h
  obtain ⟨c1, c2, c3, c4, c5, c6, c7, c8⟩ := hc
  have hC := ho.1
  have hD := ho.2.2.1
  have key : ∀ (n j : Nat), j ≤ D → D < j + n → fX10_whoIsAt_4 n 137 (nI c) (nI (bs (fun d => t d == c) j)) (nI j) (hp ra rb L B) = some (nI (bs (fun d => t d == c) D), hp ra rb L B) := by
    intro n
    induction n with
    | zero =>
      intro j h1 h2
      omega
    | succ n ih =>
      intro j a1 a2
      rw [fX10_whoIsAt_4, g_137_2, h2]
      by_cases hj : j < D
      · have ih2 := ih (j + 1) (by omega) (by omega)
        have ht : t j < C := hk j hj
        rw [if_neg (nI_ge hj (by omega)), g_137_8, l_142 (by omega), c1 j hj]
        by_cases he : t j = c
        · rw [bs_1 (p := fun d => t d == c) (by simp [he])] at ih2
          rw [he, if_pos rfl, fX10_whoIsAt_30, mlet, mlet, sh1 (by omega), or_n, nI_1]
          exact ih2
        · have hne : ¬ nI (t j) = nI c := fun z => he ((nI_eq (by omega) hc31).mp z)
          rw [bs_0 (p := fun d => t d == c) (by simp [he])] at ih2
          rw [if_neg hne, fX10_whoIsAt_30, mlet, mlet, or0, nI_1]
          exact ih2
      · have : j = D := by omega
        subst this
        rw [if_pos (nI_le (by omega) (by omega))]
        rfl
  rw [pX10_whoIsAt]
  exact key c_fu 0 (by omega) (by show D < 0 + 1000; omega)
def nb (up : Nat) (kd : Nat → Nat) : Nat → Bool
  | 0 => up != 0
  | j + 1 => nb up kd j && !(up.testBit j && kd j == 1)
theorem nb_iff (up : Nat) (kd : Nat → Nat) (n : Nat) : nb up kd n = true ↔ up ≠ 0 ∧ ∀ d, d < n → ¬ (up.testBit d = true ∧ kd d = 1) := by
  induction n with
  | zero => simp [nb]
  | succ n ih =>
    unfold nb
    rw [Bool.and_eq_true, ih]
    constructor
    · rintro ⟨⟨h1, h2⟩, h3⟩
      refine ⟨h1, fun d hd => ?_⟩
      by_cases e : d = n
      · subst e
        rintro ⟨h4, h5⟩
        simp [h4, h5] at h3
      · exact h2 d (by omega)
    · rintro ⟨h1, h2⟩
      refine ⟨⟨h1, fun d hd => h2 d (by omega)⟩, ?_⟩
      have := h2 n (by omega)
      cases hb : up.testBit n
      · simp
      · simp [hb] at this
        simp [this]
def bi (b : Bool) : Int32 := if b then 1 else 0
theorem nb_nod (u : Nat) (t kd : Nat → Nat) (D c : Nat) : nb (bs (fun d => t d == c) D &&& u) kd D = nod1 u t kd D c := by
  rw [Bool.eq_iff_iff, nb_iff]
  unfold nod1
  rw [Bool.and_eq_true]
  unfold attd wood
  rw [os_tb, Bool.not_eq_true', ← Bool.not_eq_true, os_tb]
  have tbu : ∀ d, (bs (fun d => t d == c) D &&& u).testBit d = true ↔ d < D ∧ t d = c ∧ u.testBit d = true := by
    intro d
    rw [Nat.testBit_and, bs_tb]
    simp [and_assoc]
  constructor
  · rintro ⟨h1, h2⟩
    constructor
    · obtain ⟨i, hi⟩ := Nat.exists_testBit_of_ne_zero h1
      obtain ⟨a, b, c⟩ := (tbu i).mp hi
      exact ⟨i, a, c, b⟩
    · rintro ⟨d, a, b, c⟩
      simp at b
      exact h2 d a ⟨(tbu d).mpr ⟨a, c, b.1⟩, b.2⟩
  · rintro ⟨⟨d, a, b, c⟩, h2⟩
    refine ⟨fun z => ?_, fun d hd hb => h2 ⟨d, hd, ?_, ((tbu d).mp hb.1).2.1⟩⟩
    · have := (tbu d).mpr ⟨a, c, b⟩
      rw [z] at this
      simp at this
    · simp [((tbu d).mp hb.1).2.2, hb.2]
theorem q_nods (h : MR B C D v kd hm pt q) (hc : MN B D t s w e u y au he) (ho : OKR C D v kd hm pt q) (hk : OKS C D t s w e u y) {c : Nat} (hc31 : c < 2 ^ 31) : pX10_nods 137 (nI c) (hp ra rb L B) = some (bi (nod1 u t kd D c), hp ra rb L B) := by
  have hw := q_whoIsAt (ra := ra) (rb := rb) (L := L) h hc ho (fun d hd => (hk.1 d hd).1) hc31
  obtain ⟨h1, h2, h3, h4, h5, h6, h7⟩ := h
  obtain ⟨c1, c2, c3, c4, c5, c6, c7, c8⟩ := hc
  have hC := ho.1
  have hD := ho.2.2.1
  have e8 : (8 : Int32) = nI 8 := rfl
  rw [pX10_nods, v_137, m_bind_some hw, g_137_8, e8, l_142 (by decide), c5, mlet, nand_n]
  obtain ⟨up, hup⟩ : ∃ up, up = bs (fun d => t d == c) D &&& u := ⟨_, rfl⟩
  rw [← nb_nod, ← hup]
  have hup2 : up < 2 ^ 31 := by
    have : up ≤ u := by rw [hup]; exact Nat.and_le_right
    have := hk.2.1
    have := upw hD
    omega
  have key : ∀ (n j : Nat), j ≤ D → D < j + n → fX10_nods_27 n 137 (nI up) (bi (nb up kd j)) (nI j) (hp ra rb L B) = some (bi (nb up kd D), hp ra rb L B) := by
    intro n
    induction n with
    | zero =>
      intro j h1 h2
      omega
    | succ n ih =>
      intro j a1 a2
      rw [fX10_nods_27, g_137_2, h2]
      by_cases hj : j < D
      · have ih2 := ih (j + 1) (by omega) (by omega)
        rw [nb] at ih2
        rw [if_neg (nI_ge hj (by omega))]
        cases hb : nb up kd j
        · rw [hb, Bool.false_and] at ih2
          rw [if_pos (show bi false = 0 from rfl), fX10_nods_64, fX10_nods_65, mlet, nI_1]
          exact ih2
        · rw [hb, Bool.true_and] at ih2
          rw [if_neg (show ¬ bi true = 0 by decide), m_bind_some (q_hasN hup2 (by omega))]
          rcases tb01 up j with ⟨e1, e2⟩ | ⟨e1, e2⟩
          · rw [e2, Bool.false_and] at ih2
            rw [e1, if_pos (by decide), fX10_nods_60, fX10_nods_65, mlet, nI_1]
            exact ih2
          · rw [e2, Bool.true_and] at ih2
            rw [e1, if_neg (by decide), g_137_3, l_139 (by omega), h4 j hj]
            by_cases hw : kd j = 1
            · rw [beq_iff_eq.mpr hw] at ih2
              rw [hw, if_pos (by decide), fX10_nods_64, fX10_nods_65, mlet, nI_1]
              exact ih2
            · have hne : ¬ nI (kd j) = 1 := fun z => hw ((nI_eq (by have := ho.2.2.2.2.2.1 j hj; omega) (by decide)).mp (show nI (kd j) = nI 1 from z))
              rw [beq_eq_false_iff_ne.mpr hw] at ih2
              rw [if_neg hne, fX10_nods_60, fX10_nods_65, mlet, nI_1]
              exact ih2
      · have : j = D := by omega
        subst this
        rw [if_pos (nI_le (by omega) (by omega))]
        cases nb up kd j <;> rfl
  have k0 := key c_fu 0 (by omega) (by show D < 0 + 1000; omega)
  by_cases h0 : up = 0
  · rw [if_pos (by rw [h0]; decide), fX10_nods_23]
    rw [show nb up kd 0 = false by rw [nb, h0]; decide] at k0
    exact k0
  · rw [if_neg (nI_ne0 (by omega) hup2), fX10_nods_23]
    rw [show nb up kd 0 = true by rw [nb]; simp [h0]] at k0
    exact k0
theorem q_noddingOnes (h : MR B C D v kd hm pt q) (hc : MN B D t s w e u y au he) (ho : OKR C D v kd hm pt q) (hk : OKS C D t s w e u y) : pX10_noddingOnes 137 (hp ra rb L B) = some (nI (nods u t kd C D), hp ra rb L B) := by
  have hC := ho.1
  have key : ∀ (n j : Nat), j ≤ C → C < j + n → fX10_noddingOnes_4 n 137 (nI (bs (nod1 u t kd D) j)) (nI j) (hp ra rb L B) = some (nI (nods u t kd C D), hp ra rb L B) := by
    intro n
    induction n with
    | zero =>
      intro j h1 h2
      omega
    | succ n ih =>
      intro j a1 a2
      rw [fX10_noddingOnes_4, g_137_0, h.1]
      by_cases hj : j < C
      · have ih2 := ih (j + 1) (by omega) (by omega)
        rw [if_neg (nI_ge hj (by omega)), v_137, m_bind_some (q_nods h hc ho hk (by omega))]
        cases hb : nod1 u t kd D j
        · rw [bs_0 hb] at ih2
          rw [if_pos (show bi false = 0 from rfl), fX10_noddingOnes_28, mlet, mlet, or0, nI_1]
          exact ih2
        · rw [bs_1 hb] at ih2
          rw [if_neg (show ¬ bi true = 0 by decide), fX10_noddingOnes_28, mlet, mlet, sh1 (by omega), or_n, nI_1]
          exact ih2
      · have : j = C := by omega
        subst this
        rw [if_pos (nI_le (by omega) (by omega))]
        rfl
  rw [pX10_noddingOnes]
  exact key c_fu 0 (by omega) (by show C < 0 + 1000; omega)
end N1
