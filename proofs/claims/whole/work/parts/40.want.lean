/-! heirs to courts: what is best, as numbers; the class's weighing -/
def lkn (s hm : Nat → Nat) (c : Nat) : Nat → Nat
  | 0 => 0
  | d + 1 => lkn s hm c d ||| if hm d = c then s d else 0
theorem lkn_1 {s hm : Nat → Nat} {c d : Nat} (h : hm d = c) : lkn s hm c (d + 1) = lkn s hm c d ||| s d := by
  rw [lkn, if_pos h]
theorem lkn_0 {s hm : Nat → Nat} {c d : Nat} (h : hm d ≠ c) : lkn s hm c (d + 1) = lkn s hm c d := by
  rw [lkn, if_neg h, Nat.or_zero]
theorem lkn_lt {s hm : Nat → Nat} {c : Nat} : ∀ {n : Nat}, (∀ d, d < n → s d < 64) → lkn s hm c n < 64
  | 0, _ => by rw [lkn]; decide
  | n + 1, h => by
    have ih := lkn_lt (s := s) (hm := hm) (c := c) (n := n) (fun d hd => h d (by omega))
    by_cases hq : hm n = c
    · rw [lkn_1 hq]
      exact Nat.or_lt_two_pow (n := 6) ih (h n (by omega))
    · rw [lkn_0 hq]
      exact ih
def ple (s hm : Nat → Nat) (D c d : Nat) : Nat := pc (s d &&& lkn s hm c D)
def mfr (p g : Nat → Nat) (x : Nat) : Nat → Nat
  | 0 => g x
  | d + 1 => if x.testBit d then mfr p g x d else max (mfr p g x d) (p d + g (x ||| 2 ^ d))
theorem mfr_1 {p g : Nat → Nat} {x d : Nat} (h : x.testBit d = true) : mfr p g x (d + 1) = mfr p g x d := by
  rw [mfr, if_pos h]
theorem mfr_0 {p g : Nat → Nat} {x d : Nat} (h : x.testBit d = false) : mfr p g x (d + 1) = max (mfr p g x d) (p d + g (x ||| 2 ^ d)) := by
  rw [mfr, if_neg (by rw [h]; decide)]
theorem mfr_le {p g : Nat → Nat} {b : Nat} (hp : ∀ d, p d ≤ 8) (hg : ∀ x, g x ≤ b) (x : Nat) : ∀ d, mfr p g x d ≤ b + 8
  | 0 => by have := hg x; rw [mfr]; omega
  | d + 1 => by
    have ih := mfr_le hp hg x d
    have h1 := hp d
    have h2 := hg (x ||| 2 ^ d)
    cases h : x.testBit d
    · rw [mfr_0 h]
      omega
    · rw [mfr_1 h]
      exact ih
def gm (s hm : Nat → Nat) (D C : Nat) : Nat → Nat → Nat
  | 0, _ => 0
  | m + 1, x => mfr (ple s hm D (C - (m + 1))) (gm s hm D C m) x D
theorem gm_s {s hm : Nat → Nat} {D C c : Nat} (h : c < C) (x : Nat) : gm s hm D C (C - c) x = mfr (ple s hm D c) (gm s hm D C (C - (c + 1))) x D := by
  obtain ⟨m, hm⟩ : ∃ m, m = C - (c + 1) := ⟨_, rfl⟩
  rw [show C - c = m + 1 by omega, ← hm, gm, show C - (m + 1) = c by omega]
theorem gm_le {s hm : Nat → Nat} {D C : Nat} : ∀ m x, gm s hm D C m x ≤ 8 * m
  | 0, x => Nat.le_refl _
  | m + 1, x => by
    have := mfr_le (p := ple s hm D (C - (m + 1))) (g := gm s hm D C m) (fun d => pc_le _) (fun x => gm_le m x) x D
    rw [gm]
    omega
theorem pcn_wt (k : Nat) : ∀ n, pcn k n = wt (fun _ => 1) n k
  | 0 => rfl
  | n + 1 => by rw [pcn, wt, pcn_wt k n]; rfl
theorem pc_or {g d : Nat} (hd : d < 8) (h : g.testBit d = false) : pc (g ||| 2 ^ d) = pc g + 1 := by
  unfold pc
  rw [pcn_wt, pcn_wt, wt_or h hd]
theorem lt8 {x : Nat} (h : x < 8) : x = 0 ∨ x = 1 ∨ x = 2 ∨ x = 3 ∨ x = 4 ∨ x = 5 ∨ x = 6 ∨ x = 7 := by omega
theorem sh_row {c : Nat} (hc : c < 8) (ra rb L : Nat) : c_sh ra rb L (105 + c) = .inl (0, 256) := by
  rcases lt8 hc with rfl | rfl | rfl | rfl | rfl | rfl | rfl | rfl <;> rfl
section R1
variable {ra rb L ro : Nat} {A A0 B B0 : cM} {C D : Nat} {v kd hm : Nat → Nat} {pt q : Nat} {t s w e : Nat → Nat} {u y : Nat} {au he : Int32} {α : Type}
theorem l_row {K : Int32 → MM α} {c j : Nat} (hc : c < 8) (hj : j < 256) : m_li 0 (105 + c) (nI j) K (hp ra rb L A) = K (A (105 + c) j) (hp ra rb L A) := h_l (by omega) (sh_row hc ra rb L) (by decide) hj
theorem s_row {K : MM α} {x : Int32} {c j : Nat} (hc : c < 8) (hj : j < 256) : m_si (105 + c) (nI j) x K (hp ra rb L A) = K (hp ra rb L (u2 A (105 + c) j x)) := h_s (by omega) (sh_row hc ra rb L) (by omega) (by decide) hj
/-- a row is filled with 0 -/
theorem q_fill {a N : Nat} (hN : N < 900) (hs : ∀ (J : cM) (j : Nat) (x : Int32) (K : MM Unit), j < N → m_si a (nI j) x K (hp ra rb L J) = K (hp ra rb L (u2 J a j x))) (hn : ∀ (J : cM) (K : Int32 → MM Unit), m_len a K (hp ra rb L J) = K (nI N) (hp ra rb L J)) (J : cM) : pJ7_fill_53178 a 0 (hp ra rb L J) = some ((), hp ra rb L (u1 J a (gtf (J a) (fun _ => 0) 0 N))) := by
  have key : ∀ (n j : Nat), j ≤ N → N < j + n → fJ7_fill_53178_5 n a 0 (nI j) (nI N) (hp ra rb L (u1 J a (gtf (J a) (fun _ => 0) 0 j))) = some ((), hp ra rb L (u1 J a (gtf (J a) (fun _ => 0) 0 N))) := by
    intro n
    induction n with
    | zero =>
      intro j h1 h2
      omega
    | succ n ih =>
      intro j a2 a3
      rw [fJ7_fill_53178_5]
      by_cases hj : j < N
      · have e := gtf_s (J a) (fun _ => (0 : Int32)) 0 j
        rw [if_neg (nI_ge hj (by omega)), hs _ _ _ _ hj, mlet, nI_1, u2_u1, e]
        exact ih (j + 1) (by omega) (by omega)
      · have : j = N := by omega
        subst this
        rw [if_pos (nI_le (by omega) (by omega))]
        rfl
  have k := key c_fu 0 (by omega) (by show N < 0 + 1000; omega)
  rw [gtf_0, u1_id] at k
  rw [pJ7_fill_53178, hn]
  exact k
theorem q_pleasure (hc : CN A D t s w e u y au he) {c d : Nat} (hD : D ≤ 8) (hc7 : c < 7) (hd : d < D) (hs : ∀ d, d < D → s d < 64) (hl : A 103 c = nI (lkn s hm c D)) : pX8_pleasure 102 6 (nI c) (nI d) (hp ra rb L A) = some (nI (ple s hm D c d), hp ra rb L A) := by
  have h1 : s d &&& lkn s hm c D ≤ s d := Nat.and_le_left
  have h2 := hs d hd
  rw [pX8_pleasure, sg_1 sn_6, sl_2 sn_6 (by omega), hc.2.1 d hd, g_102_0, l_103 hc7, hl, nand_n, m_bind_some (q_bitCount (by omega))]
  rfl
theorem q_mostFrom (hro : c_rl ro) (h6 : A ro 6 = nI D) (hc : CN A D t s w e u y au he) (hD : D ≤ 8) (hC : C ≤ 7) (hs : ∀ d, d < D → s d < 64) {c g : Nat} (hcl : c < C) (hg : g < 2 ^ D) (hpc : pc g ≤ c) (hl : A 103 c = nI (lkn s hm c D)) (hv : ∀ g, g < 2 ^ D → pc g ≤ c + 1 → A (105 + (c + 1)) g = nI (gm s hm D C (C - (c + 1)) g)) : pX8_mostFrom 102 ro 6 (nI c) (nI g) (hp ra rb L A) = some (nI (gm s hm D C (C - c) g), hp ra rb L A) := by
  have h2D := upw hD
  have key : ∀ (n j : Nat), j ≤ D → D < j + n → fX8_mostFrom_16 n 102 ro 6 (nI c) (nI g) (nI (mfr (ple s hm D c) (gm s hm D C (C - (c + 1))) g j)) (nI j) (hp ra rb L A) = some (nI (gm s hm D C (C - c) g), hp ra rb L A) := by
    intro n
    induction n with
    | zero =>
      intro j h1 h2
      omega
    | succ n ih =>
      intro j a1 a2
      rw [fX8_mostFrom_16, rg_6 hro, h6]
      by_cases hj : j < D
      · have ih2 := ih (j + 1) (by omega) (by omega)
        rw [if_neg (nI_ge hj (by omega)), has_n (by omega) (by omega)]
        rcases tb01 g j with ⟨e1, e2⟩ | ⟨e1, e2⟩
        · have hor : g ||| 2 ^ j < 2 ^ D := Nat.or_lt_two_pow hg (Nat.pow_lt_pow_right (by decide) hj)
          have hpo := pc_or (by omega) e2
          have hle := gm_le (s := s) (hm := hm) (D := D) (C := C) (C - (c + 1)) (g ||| 2 ^ j)
          have hle2 := mfr_le (p := ple s hm D c) (g := gm s hm D C (C - (c + 1))) (fun d => pc_le _) (fun x => gm_le _ x) g j
          have hle3 : ple s hm D c j ≤ 8 := pc_le _
          rw [mfr_0 e2] at ih2
          rw [e1, if_pos (show nI 0 = 0 from rfl), v_102, m_bind_some (q_pleasure hc hD (by omega) hj hs hl), g_102_1, nI_1, r_104 (by omega), sh1 (by omega), or_n, l_row (by omega) (by omega), hv _ hor (by omega), mlet, nI_add, c_mx_n (by omega) (by omega), fX8_mostFrom_67, mlet, nI_1]
          exact ih2
        · rw [mfr_1 e2] at ih2
          rw [e1, if_neg (show ¬ nI 1 = 0 by decide), fX8_mostFrom_67, mlet, nI_1]
          exact ih2
      · have : j = D := by omega
        subst this
        rw [if_pos (nI_le (by omega) (by omega)), gm_s hcl]
        rfl
  rw [pX8_mostFrom, g_102_1, nI_1, r_104 (by omega), l_row (by omega) (by omega), hv g hg (by omega)]
  exact key c_fu 0 (by omega) (by show D < 0 + 1000; omega)
/-- the class's rows from court c on -/
def VC (A A0 : cM) (s hm : Nat → Nat) (D C c : Nat) : Prop := (∀ c', c ≤ c' → c' ≤ C → ∀ g, g < 2 ^ D → pc g ≤ c' → A (105 + c') g = nI (gm s hm D C (C - c') g)) ∧ ∀ a k, a < 105 ∨ 112 < a → A a k = A0 a k
theorem weigh_in (hro : c_rl ro) (hro1 : 112 < ro) (h6 : A0 ro 6 = nI D) (hc : CN A0 D t s w e u y au he) (hD : D ≤ 8) (hC : C ≤ 7) (hs : ∀ d, d < D → s d < 64) {c : Nat} (hcl : c < C) (hl : A0 103 c = nI (lkn s hm c D)) {K : Nat → Nat → Nat → Int32 → MM Unit} : ∀ (n j : Nat) (A : cM), j ≤ 2 ^ D → 2 ^ D < j + n → VC A A0 s hm D C (c + 1) → (∀ g, g < j → pc g ≤ c → A (105 + c) g = nI (gm s hm D C (C - c) g)) → ∃ A', fX8_weigh_71 K n 102 ro 6 (nI c) (nI j) (hp ra rb L A) = K 102 ro 6 (nI c) (hp ra rb L A') ∧ VC A' A0 s hm D C c := by
  have h2D := upw hD
  have h21 : 1 ≤ 2 ^ D := Nat.one_le_two_pow
  intro n
  induction n with
  | zero =>
    intro j A h1 h2
    omega
  | succ n ih =>
    intro j A a1 a2 hV hr
    have a6 : A ro 6 = nI D := by rw [hV.2 _ _ (by omega)]; exact h6
    have ac : CN A D t s w e u y au he := hc.fr fun a k b1 b2 => hV.2 a k (by omega)
    have al1 : A 103 c = nI (lkn s hm c D) := by rw [hV.2 _ _ (by omega)]; exact hl
    rw [fX8_weigh_71, rg_6 hro, a6, sh1 (by omega)]
    by_cases hj : j < 2 ^ D
    · have pj := pc_le j
      rw [if_neg (nI_ge hj (by omega)), m_bind_some (q_bitCount (by omega))]
      by_cases hp : pc j ≤ c
      · rw [if_neg (nI_nlt hp (by omega)), g_102_1, r_104 (by omega), v_102, m_bind_some (q_mostFrom hro a6 ac hD hC hs hcl hj hp al1 (fun g hg hpg => hV.1 (c + 1) (by omega) (by omega) g hg hpg)), s_row (by omega) (by omega), fX8_weigh_109, mlet, nI_1]
        refine ih (j + 1) _ (by omega) (by omega) ⟨fun c' b1 b2 g b3 b4 => ?_, fun a k b1 => ?_⟩ fun g b1 b2 => ?_
        · rw [u2_na _ _ (by omega)]
          exact hV.1 c' b1 b2 g b3 b4
        · rw [u2_na _ _ (by omega)]
          exact hV.2 a k b1
        · by_cases hg : g = j
          · rw [hg, u2_s]
          · rw [u2_nk _ _ hg]
            exact hr g (by omega) b2
      · rw [if_pos (nI_lt (by omega) (by omega)), fX8_weigh_109, mlet, nI_1]
        refine ih (j + 1) A (by omega) (by omega) hV fun g b1 b2 => ?_
        by_cases hg : g = j
        · subst hg
          omega
        · exact hr g (by omega) b2
    · have : j = 2 ^ D := by omega
      subst this
      rw [if_pos (nI_le (by omega) (by omega))]
      refine ⟨A, rfl, fun c' b1 b2 g b3 b4 => ?_, hV.2⟩
      by_cases hq : c' = c
      · subst hq
        exact hr g b3 b4
      · exact hV.1 c' (by omega) b2 g b3 b4
theorem weigh_out (hro : c_rl ro) (hro1 : 112 < ro) (h6 : A0 ro 6 = nI D) (hc : CN A0 D t s w e u y au he) (hD : D ≤ 8) (hC : C ≤ 7) (hs : ∀ d, d < D → s d < 64) (hl : ∀ c, c < C → A0 103 c = nI (lkn s hm c D)) : ∀ (k n : Nat) (A : cM), k ≤ C → k < n → VC A A0 s hm D C k → ∃ A', fX8_weigh_64 n 102 ro 6 (nI k - 1) (hp ra rb L A) = some ((), hp ra rb L A') ∧ VC A' A0 s hm D C 0 := by
  have h2D := upw hD
  intro k
  induction k with
  | zero =>
    intro n A h1 h2 hV
    obtain ⟨n, rfl⟩ : ∃ n', n = n' + 1 := ⟨n - 1, by omega⟩
    rw [fX8_weigh_64, if_pos (by decide)]
    exact ⟨A, rfl, hV⟩
  | succ k ih =>
    intro n A h1 h2 hV
    obtain ⟨n, rfl⟩ : ∃ n', n = n' + 1 := ⟨n - 1, by omega⟩
    obtain ⟨A1, g1, g2⟩ := weigh_in (ra := ra) (rb := rb) (L := L) hro hro1 h6 hc hD hC hs (c := k) (by omega) (hl k (by omega)) (K := fX8_weigh_115 (fX8_weigh_64 n)) c_fu 0 A (Nat.zero_le _) (by show 2 ^ D < 0 + 1000; omega) hV (fun g b1 => by omega)
    obtain ⟨A2, g3, g4⟩ := ih n A1 (by omega) (by omega) g2
    refine ⟨A2, ?_, g4⟩
    rw [fX8_weigh_64, nI_pred, if_neg (nI_pos (by omega))]
    refine g1.trans ?_
    rw [fX8_weigh_115, mlet, ← Int32.sub_eq_add_neg]
    exact g3
theorem liked_in (hro : c_rl ro) (hro1 : 112 < ro) (h : CR A0 ro C D v kd hm pt q) (hc : CN A0 D t s w e u y au he) (ho : OKR C D v kd hm pt q) {K : Nat → Nat → Nat → MM Unit} : ∀ (n j : Nat) (A : cM), j ≤ D → D < j + n → (∀ c, c < 7 → A 103 c = nI (lkn s hm c j)) → (∀ a k, a ≠ 103 → A a k = A0 a k) → ∃ A', fX8_weigh_10 K n 102 ro 6 (nI j) (hp ra rb L A) = K 102 ro 6 (hp ra rb L A') ∧ (∀ c, c < 7 → A' 103 c = nI (lkn s hm c D)) ∧ ∀ a k, a ≠ 103 → A' a k = A0 a k := by
  have hC := ho.1
  have hD := ho.2.2.1
  intro n
  induction n with
  | zero =>
    intro j A h1 h2
    omega
  | succ n ih =>
    intro j A a1 a2 hk hf
    rw [fX8_weigh_10, rg_6 hro, hf _ _ (by omega), h.2.1]
    by_cases hj : j < D
    · have hh := ho.2.2.2.2.2.2.1 j hj
      rw [if_neg (nI_ge hj (by omega)), g_102_0, rg_2 hro, rl_3 hro (by omega), hf _ _ (by omega), h.2.2.2.2.1 j hj, l_103 (by omega), hk _ (by omega), sg_1 sn_6, sl_2 sn_6 (by omega), hf _ _ (by decide), hc.2.1 j hj, or_n, s_103 (by omega), mlet, nI_1]
      refine ih (j + 1) _ (by omega) (by omega) (fun c b1 => ?_) fun a k b1 => ?_
      · by_cases hq : hm j = c
        · rw [lkn_1 hq, hq, u2_s]
        · rw [lkn_0 hq, u2_nk _ _ (fun z => hq z.symm)]
          exact hk c b1
      · rw [u2_na _ _ b1]
        exact hf a k b1
    · have : j = D := by omega
      subst this
      rw [if_pos (nI_le (by omega) (by omega))]
      exact ⟨A, rfl, hk, hf⟩
/-- the class's weighing -/
theorem q_weigh (hro : c_rl ro) (hro1 : 112 < ro) (h : CR A ro C D v kd hm pt q) (hc : CN A D t s w e u y au he) (ho : OKR C D v kd hm pt q) (hs : ∀ d, d < D → s d < 64) : ∃ A', pX8_weigh 102 ro 6 (hp ra rb L A) = some ((), hp ra rb L A') ∧ (∀ c, c < 7 → A' 103 c = nI (lkn s hm c D)) ∧ (∀ c', c' ≤ C → ∀ g, g < 2 ^ D → pc g ≤ c' → A' (105 + c') g = nI (gm s hm D C (C - c') g)) ∧ ∀ a k, a < 103 ∨ 112 < a → A' a k = A a k := by
  have hC := ho.1
  have hD := ho.2.2.1
  have h2D := upw hD
  have f1 : pJ7_fill_53178 103 0 (hp ra rb L A) = _ := q_fill (N := 7) (by decide) (fun _ _ _ _ h => s_103 h) (fun _ _ => h_len (by decide) rfl (by decide)) A
  obtain ⟨A1, hA1⟩ : ∃ A1, A1 = u1 A 103 (gtf (A 103) (fun _ => 0) 0 7) := ⟨_, rfl⟩
  rw [← hA1] at f1
  have k1 : ∀ c, c < 7 → A1 103 c = nI (lkn s hm c 0) := fun c hc => by
    rw [hA1, u1_s]
    unfold gtf
    rw [if_pos hc]
    rfl
  have k2 : ∀ a k, a ≠ 103 → A1 a k = A a k := fun a k h => by rw [hA1, u1_n _ _ h]
  obtain ⟨A2, g1, g2, g3⟩ := liked_in (ra := ra) (rb := rb) (L := L) hro hro1 h hc ho (K := fX8_weigh_44) c_fu 0 A1 (by omega) (by show D < 0 + 1000; omega) k1 k2
  have f2 : pJ7_fill_53178 (105 + C) 0 (hp ra rb L A2) = _ := q_fill (N := 256) (by decide) (fun _ _ _ _ h => s_row (by omega) h) (fun _ _ => h_len (by omega) (sh_row (by omega) ra rb L) (by decide)) A2
  obtain ⟨A3, hA3⟩ : ∃ A3, A3 = u1 A2 (105 + C) (gtf (A2 (105 + C)) (fun _ => 0) 0 256) := ⟨_, rfl⟩
  rw [← hA3] at f2
  have k3 : ∀ a k, a < 103 ∨ 112 < a → A3 a k = A a k := fun a k h => by rw [hA3, u1_n _ _ (by omega)]; exact g3 a k (by omega)
  have V0 : VC A3 A3 s hm D C C := by
    refine ⟨fun c' b1 b2 g b3 b4 => ?_, fun a k _ => rfl⟩
    have : c' = C := by omega
    subst this
    rw [hA3, u1_s]
    unfold gtf
    rw [if_pos (by omega), Nat.sub_self]
    rfl
  have l3 : ∀ c, c < 7 → A3 103 c = nI (lkn s hm c D) := fun c hc => by rw [hA3, u1_n _ _ (by omega)]; exact g2 c hc
  obtain ⟨A4, g4, g5⟩ := weigh_out (ra := ra) (rb := rb) (L := L) hro hro1 (by rw [k3 _ _ (by omega)]; exact h.2.1) (hc.fr (B := A3) fun a k b1 b2 => k3 a k (by omega)) hD hC hs (fun c hc => l3 c (by omega)) C c_fu A3 (by omega) (by show C < 1000; omega) V0
  refine ⟨A4, ?_, fun c hc => ?_, fun c' b1 g b2 b3 => g5.1 c' (by omega) b1 g b2 b3, fun a k b1 => ?_⟩
  · rw [pX8_weigh, g_102_0, m_bind_some f1]
    refine g1.trans ?_
    rw [fX8_weigh_44, g_102_1, rg_5 hro, g3 _ _ (by omega), h.1, r_104 (by omega), m_bind_some f2, rg_5 hro, k3 _ _ (by omega), h.1, mlet]
    exact g4
  · rw [g5.2 _ _ (by omega)]
    exact l3 c hc
  · rw [g5.2 _ _ (by omega)]
    exact k3 a k b1
end R1
