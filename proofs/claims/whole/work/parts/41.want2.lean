/-! heirs to courts: who is taken; the model's weighing; pair wanted -/
def mayb (s hm : Nat → Nat) (D C c g d : Nat) : Bool := !g.testBit d && (ple s hm D c d + gm s hm D C (C - (c + 1)) (g ||| 2 ^ d) == gm s hm D C (C - c) g)
def fl (p : Nat → Bool) (j : Nat) : Nat → Int32
  | 0 => -1
  | m + 1 => if p j then nI j else fl p (j + 1) m
def lf (p : Nat → Bool) : Nat → Int32 → Int32
  | 0, a => a
  | j + 1, a => lf p j (if p j then nI j else a)
theorem lf_fl (p : Nat → Bool) : ∀ j m, lf p j (fl p j m) = fl p 0 (j + m)
  | 0, m => by rw [lf, Nat.zero_add]
  | j + 1, m => by
    have := lf_fl p j (m + 1)
    rw [lf, show j + 1 + m = j + (m + 1) by omega, ← this, fl]
theorem fl_or (p : Nat → Bool) : ∀ m j, fl p j m = -1 ∨ ∃ d, j ≤ d ∧ d < j + m ∧ p d = true ∧ fl p j m = nI d
  | 0, j => Or.inl rfl
  | m + 1, j => by
    rw [fl]
    cases h : p j
    · rw [if_neg (by decide)]
      rcases fl_or p m (j + 1) with h1 | ⟨d, h1, h2, h3, h4⟩
      · exact Or.inl h1
      · exact Or.inr ⟨d, by omega, by omega, h3, h4⟩
    · rw [if_pos rfl]
      exact Or.inr ⟨j, by omega, by omega, h, rfl⟩
section R2
variable {ra rb L ro : Nat} {A A0 B B0 : cM} {C D : Nat} {v kd hm : Nat → Nat} {pt q : Nat} {t s w e : Nat → Nat} {u y : Nat} {au he : Int32} {α : Type}
theorem q_leastTaken (hro : c_rl ro) (h6 : A ro 6 = nI D) (hc : CN A D t s w e u y au he) (hD : D ≤ 8) (hC : C ≤ 7) (hs : ∀ d, d < D → s d < 64) (hl : ∀ c, c < 7 → A 103 c = nI (lkn s hm c D)) (hv : ∀ c', c' ≤ C → ∀ g, g < 2 ^ D → pc g ≤ c' → A (105 + c') g = nI (gm s hm D C (C - c') g)) {c g : Nat} (hcl : c < C) (hg : g < 2 ^ D) (hpc : pc g ≤ c) : pX8_leastTaken 102 ro 6 (nI c) (nI g) (hp ra rb L A) = some (fl (mayb s hm D C c g) 0 D, hp ra rb L A) := by
  have h2D := upw hD
  have key : ∀ (m n j : Nat), j + m = D → m < n → fX8_leastTaken_3 n 102 ro 6 (nI c) (nI g) (nI j) (hp ra rb L A) = some (fl (mayb s hm D C c g) j m, hp ra rb L A) := by
    intro m
    induction m with
    | zero =>
      intro n j a1 a2
      obtain ⟨n, rfl⟩ : ∃ n', n = n' + 1 := ⟨n - 1, by omega⟩
      rw [fX8_leastTaken_3, rg_6 hro, h6, if_pos (nI_le (by omega) (by omega))]
      rfl
    | succ m ih =>
      intro n j a1 a2
      obtain ⟨n, rfl⟩ : ∃ n', n = n' + 1 := ⟨n - 1, by omega⟩
      have hj : j < D := by omega
      have ih2 := ih n (j + 1) (by omega) (by omega)
      rw [fX8_leastTaken_3, rg_6 hro, h6, if_neg (nI_ge hj (by omega)), has_n (by omega) (by omega), fl]
      rcases tb01 g j with ⟨e1, e2⟩ | ⟨e1, e2⟩
      · have hor : g ||| 2 ^ j < 2 ^ D := Nat.or_lt_two_pow hg (Nat.pow_lt_pow_right (by decide) hj)
        have hpo := pc_or (by omega) e2
        have hle := gm_le (s := s) (hm := hm) (D := D) (C := C) (C - (c + 1)) (g ||| 2 ^ j)
        have hle2 := gm_le (s := s) (hm := hm) (D := D) (C := C) (C - c) g
        have hle3 : ple s hm D c j ≤ 8 := pc_le _
        rw [e1, if_pos (show nI 0 = 0 from rfl), fX8_leastTaken_27, if_neg ne10, v_102, m_bind_some (q_pleasure hc hD (by omega) hj hs (hl c (by omega))), g_102_1, nI_1, r_104 (by omega), sh1 (by omega), or_n, l_row (by omega) (by omega), hv (c + 1) (by omega) _ hor (by omega), g_102_1, r_104 (by omega), l_row (by omega) (by omega), hv c (by omega) g hg hpc, nI_add]
        by_cases hq : ple s hm D c j + gm s hm D C (C - (c + 1)) (g ||| 2 ^ j) = gm s hm D C (C - c) g
        · rw [show mayb s hm D C c g j = true by unfold mayb; simp [e2, hq], if_pos rfl, hq, if_pos rfl]
          rfl
        · rw [show mayb s hm D C c g j = false by unfold mayb; simp [hq], if_neg (n_ne (by omega) (by omega) hq), if_neg (by decide), fX8_leastTaken_74, mlet, nI_1]
          exact ih2
      · rw [e1, if_neg (show ¬ nI 1 = 0 by decide), fX8_leastTaken_27, if_pos rfl, fX8_leastTaken_74, mlet, nI_1, show mayb s hm D C c g j = false by unfold mayb; simp [e2], if_neg (by decide)]
        exact ih2
  rw [pX8_leastTaken]
  exact key D c_fu 0 (by omega) (by show D < 1000; omega)
/-- the model's pleasure -/
theorem q_pleases (h : MR B C D v kd hm pt q) (hc : MN B D t s w e u y au he) (ho : OKR C D v kd hm pt q) (hs : ∀ d, d < D → s d < 64) {c d : Nat} (hc7 : c < 7) (hd : d < D) : pX10_pleases 137 (nI d) (nI c) (hp ra rb L B) = some (nI (ple s hm D c d), hp ra rb L B) := by
  have hC := ho.1
  have hD := ho.2.2.1
  have e17 : ∀ j, (17 : Int32) + nI j = nI (17 + j) := fun j => nI_add 17 j
  have key : ∀ (n j : Nat), j ≤ D → D < j + n → fX10_pleases_5 fX10_pleases_48 n 137 (nI d) (nI c) (nI (lkn s hm c j)) (nI j) (hp ra rb L B) = fX10_pleases_48 137 (nI d) (nI (lkn s hm c D)) (hp ra rb L B) := by
    intro n
    induction n with
    | zero =>
      intro j h1 h2
      omega
    | succ n ih =>
      intro j a1 a2
      rw [fX10_pleases_5, g_137_2, h.2.1]
      by_cases hj : j < D
      · have ih2 := ih (j + 1) (by omega) (by omega)
        have hh := ho.2.2.2.2.2.2.1 j hj
        rw [if_neg (nI_ge hj (by omega)), g_137_4, l_140 (by omega), h.2.2.2.2.1 j hj]
        by_cases hq : hm j = c
        · rw [lkn_1 hq] at ih2
          rw [hq, if_pos rfl, g_137_8, e17, l_142 (by omega), hc.2.1 j hj, fX10_pleases_40, mlet, mlet, or_n, nI_1]
          exact ih2
        · rw [lkn_0 hq] at ih2
          rw [if_neg (n_ne (by omega) (by omega) hq), fX10_pleases_40, mlet, mlet, or0, nI_1]
          exact ih2
      · have : j = D := by omega
        subst this
        rw [if_pos (nI_le (by omega) (by omega))]
  have k := key c_fu 0 (by omega) (by show D < 0 + 1000; omega)
  have h1 : s d &&& lkn s hm c D ≤ s d := Nat.and_le_left
  have h2 := hs d hd
  rw [pX10_pleases]
  refine k.trans ?_
  rw [fX10_pleases_48, g_137_8, e17, l_142 (by omega), hc.2.1 d hd, nand_n, m_bind_some (q_bits (by omega))]
  rfl
/-- the model's rows from court c on -/
def VM (B B0 : cM) (s hm : Nat → Nat) (D C c : Nat) : Prop := (∀ c', c ≤ c' → c' ≤ C → ∀ g, g < 2 ^ D → B 152 (256 * c' + g) = nI (gm s hm D C (C - c') g)) ∧ ∀ a k, a ≠ 152 → B a k = B0 a k
theorem e256 (c g : Nat) : (256 : Int32) * nI c + nI g = nI (256 * c + g) := by
  have e : (256 : Int32) * nI c = nI (256 * c) := pk_mul 256 c
  rw [e, nI_add]
theorem e257 (c g : Nat) : (256 : Int32) * nI c + 256 + nI g = nI (256 * (c + 1) + g) := by
  have e : (256 : Int32) * nI c = nI (256 * c) := pk_mul 256 c
  have e2 : nI (256 * c) + 256 = nI (256 * c + 256) := nI_add _ 256
  rw [e, e2, nI_add]
  rfl
theorem find_d (h : MR B C D v kd hm pt q) (hc : MN B D t s w e u y au he) (ho : OKR C D v kd hm pt q) (hs : ∀ d, d < D → s d < 64) {c g : Nat} (hcl : c < C) (hg : g < 2 ^ D) (hv : ∀ g, g < 2 ^ D → B 152 (256 * (c + 1) + g) = nI (gm s hm D C (C - (c + 1)) g)) {K : Nat → Int32 → Int32 → Int32 → MM Unit} : ∀ (n j : Nat), j ≤ D → D < j + n → fX10_findWanted_77 K n 137 (nI c) (nI g) (nI (mfr (ple s hm D c) (gm s hm D C (C - (c + 1))) g j)) (nI j) (hp ra rb L B) = K 137 (nI c) (nI g) (nI (gm s hm D C (C - c) g)) (hp ra rb L B) := by
  have hC := ho.1
  have hD := ho.2.2.1
  have h2D := upw hD
  intro n
  induction n with
  | zero =>
    intro j h1 h2
    omega
  | succ n ih =>
    intro j a1 a2
    rw [fX10_findWanted_77, g_137_2, h.2.1]
    by_cases hj : j < D
    · have ih2 := ih (j + 1) (by omega) (by omega)
      have hle2 := mfr_le (p := ple s hm D c) (g := gm s hm D C (C - (c + 1))) (fun d => pc_le _) (fun x => gm_le _ x) g j
      rw [if_neg (nI_ge hj (by omega)), m_bind_some (q_hasN (by omega) (by omega))]
      rcases tb01 g j with ⟨e1, e2⟩ | ⟨e1, e2⟩
      · have hor : g ||| 2 ^ j < 2 ^ D := Nat.or_lt_two_pow hg (Nat.pow_lt_pow_right (by decide) hj)
        have hle := gm_le (s := s) (hm := hm) (D := D) (C := C) (C - (c + 1)) (g ||| 2 ^ j)
        have hle3 : ple s hm D c j ≤ 8 := pc_le _
        rw [mfr_0 e2] at ih2
        rw [e1, if_pos (show nI 0 = 0 from rfl), v_137, m_bind_some (q_pleases h hc ho hs (by omega) hj), g_137_30, sh1 (by omega), or_n, e257, l_152 (by omega), hv _ hor, nI_add, fX10_findWanted_128]
        by_cases hl : ple s hm D c j + gm s hm D C (C - (c + 1)) (g ||| 2 ^ j) ≤ mfr (ple s hm D c) (gm s hm D C (C - (c + 1))) g j
        · rw [Nat.max_eq_left hl] at ih2
          rw [if_pos (nI_le hl (by omega)), fX10_findWanted_142, mlet, nI_1]
          exact ih2
        · rw [Nat.max_eq_right (by omega)] at ih2
          rw [if_neg (nI_ge (by omega) (by omega)), fX10_findWanted_142, mlet, nI_1]
          exact ih2
      · rw [mfr_1 e2] at ih2
        rw [e1, if_neg (show ¬ nI 1 = 0 by decide), fX10_findWanted_128, if_pos (show (-1 : Int32) ≤ nI (mfr (ple s hm D c) (gm s hm D C (C - (c + 1))) g j) by rw [t_le, nI_toInt (by omega), show (-1 : Int32).toInt = -1 by decide]; omega), fX10_findWanted_142, mlet, nI_1]
        exact ih2
    · have : j = D := by omega
      subst this
      rw [if_pos (nI_le (by omega) (by omega)), gm_s hcl]
theorem find_in (h : MR B0 C D v kd hm pt q) (hc : MN B0 D t s w e u y au he) (ho : OKR C D v kd hm pt q) (hs : ∀ d, d < D → s d < 64) {c : Nat} (hcl : c < C) {K : Nat → Int32 → MM Unit} : ∀ (n j : Nat) (B : cM), j ≤ 2 ^ D → 2 ^ D < j + n → VM B B0 s hm D C (c + 1) → (∀ g, g < j → B 152 (256 * c + g) = nI (gm s hm D C (C - c) g)) → ∃ B', fX10_findWanted_47 K n 137 (nI c) (nI j) (hp ra rb L B) = K 137 (nI c) (hp ra rb L B') ∧ VM B' B0 s hm D C c := by
  have hC := ho.1
  have hD := ho.2.2.1
  have h2D := upw hD
  have h21 : 1 ≤ 2 ^ D := Nat.one_le_two_pow
  intro n
  induction n with
  | zero =>
    intro j B h1 h2
    omega
  | succ n ih =>
    intro j B a1 a2 hV hr
    have b1 : MR B C D v kd hm pt q := h.fr fun a k b => hV.2 a k (by omega)
    have b2 : MN B D t s w e u y au he := hc.fr fun k => hV.2 142 k (by decide)
    rw [fX10_findWanted_47, g_137_2, b1.2.1, sh1 (by omega)]
    by_cases hj : j < 2 ^ D
    · have hv : ∀ g, g < 2 ^ D → B 152 (256 * (c + 1) + g) = nI (gm s hm D C (C - (c + 1)) g) := fun g hg => hV.1 (c + 1) (by omega) (by omega) g hg
      rw [if_neg (nI_ge hj (by omega)), g_137_30, e257, l_152 (by omega), hv j hj]
      have k := find_d (ra := ra) (rb := rb) (L := L) b1 b2 ho hs hcl hj hv (K := fX10_findWanted_149 (fX10_findWanted_47 K n)) c_fu 0 (by omega) (by show D < 0 + 1000; omega)
      rw [mfr] at k
      obtain ⟨B', g1, g2⟩ := ih (j + 1) (u2 B 152 (256 * c + j) (nI (gm s hm D C (C - c) j))) (by omega) (by omega) ⟨fun c' b1 b2 g b3 => by rw [u2_nk _ _ (by omega)]; exact hV.1 c' b1 b2 g b3, fun a k b1 => by rw [u2_na _ _ b1]; exact hV.2 a k b1⟩ (fun g b1 => by
        by_cases hg : g = j
        · rw [hg, u2_s]
        · rw [u2_nk _ _ (by omega)]
          exact hr g (by omega))
      refine ⟨B', ?_, g2⟩
      refine k.trans ?_
      rw [fX10_findWanted_149, g_137_30, e256, s_152 (by omega), mlet, nI_1]
      exact g1
    · have : j = 2 ^ D := by omega
      subst this
      rw [if_pos (nI_le (by omega) (by omega))]
      refine ⟨B, rfl, fun c' b1 b2 g b3 => ?_, hV.2⟩
      by_cases hq : c' = c
      · subst hq
        exact hr g b3
      · exact hV.1 c' (by omega) b2 g b3
theorem find_out (h : MR B0 C D v kd hm pt q) (hc : MN B0 D t s w e u y au he) (ho : OKR C D v kd hm pt q) (hs : ∀ d, d < D → s d < 64) : ∀ (k n : Nat) (B : cM), k ≤ C → k < n → VM B B0 s hm D C k → ∃ B', fX10_findWanted_41 n 137 (nI k - 1) (hp ra rb L B) = some ((), hp ra rb L B') ∧ VM B' B0 s hm D C 0 := by
  have hC := ho.1
  have hD := ho.2.2.1
  have h2D := upw hD
  intro k
  induction k with
  | zero =>
    intro n B h1 h2 hV
    obtain ⟨n, rfl⟩ : ∃ n', n = n' + 1 := ⟨n - 1, by omega⟩
    rw [fX10_findWanted_41, if_pos (by decide)]
    exact ⟨B, rfl, hV⟩
  | succ k ih =>
    intro n B h1 h2 hV
    obtain ⟨n, rfl⟩ : ∃ n', n = n' + 1 := ⟨n - 1, by omega⟩
    obtain ⟨B1, g1, g2⟩ := find_in (ra := ra) (rb := rb) (L := L) h hc ho hs (c := k) (by omega) (K := fX10_findWanted_168 (fX10_findWanted_41 n)) c_fu 0 B (Nat.zero_le _) (by show 2 ^ D < 0 + 1000; omega) hV (fun g b1 => by omega)
    obtain ⟨B2, g3, g4⟩ := ih n B1 (by omega) (by omega) g2
    refine ⟨B2, ?_, g4⟩
    rw [fX10_findWanted_41, nI_pred, if_neg (nI_pos (by omega))]
    refine g1.trans ?_
    rw [fX10_findWanted_168, mlet, ← Int32.sub_eq_add_neg]
    exact g3
theorem find_0 (h : MR B0 C D v kd hm pt q) (ho : OKR C D v kd hm pt q) {K : Nat → MM Unit} : ∀ (n j : Nat) (B : cM), j ≤ 2 ^ D → 2 ^ D < j + n → (∀ g, g < j → B 152 (256 * C + g) = 0) → (∀ a k, a ≠ 152 → B a k = B0 a k) → ∃ B', fX10_findWanted_2 K n 137 (nI j) (hp ra rb L B) = K 137 (hp ra rb L B') ∧ (∀ g, g < 2 ^ D → B' 152 (256 * C + g) = 0) ∧ ∀ a k, a ≠ 152 → B' a k = B0 a k := by
  have hC := ho.1
  have hD := ho.2.2.1
  have h2D := upw hD
  intro n
  induction n with
  | zero =>
    intro j B h1 h2
    omega
  | succ n ih =>
    intro j B a1 a2 hr hf
    rw [fX10_findWanted_2, g_137_2, hf _ _ (by decide), h.2.1, sh1 (by omega)]
    by_cases hj : j < 2 ^ D
    · rw [if_neg (nI_ge hj (by omega)), g_137_30, g_137_0, hf _ _ (by decide), h.1, e256, s_152 (by omega), mlet, nI_1]
      refine ih (j + 1) _ (by omega) (by omega) (fun g b1 => ?_) fun a k b1 => ?_
      · by_cases hg : g = j
        · rw [hg, u2_s]
        · rw [u2_nk _ _ (by omega)]
          exact hr g (by omega)
      · rw [u2_na _ _ b1]
        exact hf a k b1
    · have : j = 2 ^ D := by omega
      subst this
      rw [if_pos (nI_le (by omega) (by omega))]
      exact ⟨B, rfl, hr, hf⟩
/-- the model's weighing -/
theorem q_findWanted (h : MR B C D v kd hm pt q) (hc : MN B D t s w e u y au he) (ho : OKR C D v kd hm pt q) (hs : ∀ d, d < D → s d < 64) : ∃ B', pX10_findWanted 137 (hp ra rb L B) = some ((), hp ra rb L B') ∧ VM B' B s hm D C 0 := by
  have hC := ho.1
  have hD := ho.2.2.1
  have h2D := upw hD
  obtain ⟨B1, g1, g2, g3⟩ := find_0 (ra := ra) (rb := rb) (L := L) h ho (K := fX10_findWanted_34) c_fu 0 B (Nat.zero_le _) (by show 2 ^ D < 0 + 1000; omega) (fun g b1 => by omega) (fun _ _ _ => rfl)
  obtain ⟨B2, g4, g5⟩ := find_out (ra := ra) (rb := rb) (L := L) h hc ho hs C c_fu B1 (by omega) (by show C < 1000; omega) ⟨fun c' b1 b2 g b3 => by
    have : c' = C := by omega
    subst this
    rw [g2 g b3, Nat.sub_self]
    rfl, g3⟩
  refine ⟨B2, ?_, g5⟩
  rw [pX10_findWanted]
  refine g1.trans ?_
  rw [fX10_findWanted_34, g_137_0, g3 _ _ (by decide), h.1, mlet]
  exact g4
theorem by_in (h : MR B C D v kd hm pt q) (hc : MN B D t s w e u y au he) (ho : OKR C D v kd hm pt q) (hs : ∀ d, d < D → s d < 64) (hv : ∀ c', c' ≤ C → ∀ g, g < 2 ^ D → B 152 (256 * c' + g) = nI (gm s hm D C (C - c') g)) {c g : Nat} (hcl : c < C) (hg : g < 2 ^ D) {x : Int32} {K : Nat → Int32 → Int32 → Int32 → Int32 → MM Int32} : ∀ (j n : Nat) (who : Int32), j ≤ D → j < n → fX10_wantedBy_23 K n 137 x (nI g) who (nI c) (nI j - 1) (hp ra rb L B) = K 137 x (nI g) (lf (mayb s hm D C c g) j who) (nI c) (hp ra rb L B) := by
  have hC := ho.1
  have hD := ho.2.2.1
  have h2D := upw hD
  intro j
  induction j with
  | zero =>
    intro n who h1 h2
    obtain ⟨n, rfl⟩ : ∃ n', n = n' + 1 := ⟨n - 1, by omega⟩
    rw [fX10_wantedBy_23, if_pos (by decide)]
    rfl
  | succ j ih =>
    intro n who h1 h2
    obtain ⟨n, rfl⟩ : ∃ n', n = n' + 1 := ⟨n - 1, by omega⟩
    have hj : j < D := by omega
    rw [fX10_wantedBy_23, nI_pred, if_neg (nI_pos (by omega)), m_bind_some (q_hasN (by omega) (by omega)), lf]
    have no : ∀ X : MM Int32, X = fX10_wantedBy_88 (fX10_wantedBy_89 (fX10_wantedBy_23 K n)) 137 x (nI g) who (nI c) (nI j) → mayb s hm D C c g j = false → X (hp ra rb L B) = K 137 x (nI g) (lf (mayb s hm D C c g) j (if mayb s hm D C c g j = true then nI j else who)) (nI c) (hp ra rb L B) := by
      intro X e1 e2
      rw [e1, e2, if_neg (by decide), fX10_wantedBy_88, fX10_wantedBy_89, if_pos rfl, fX10_wantedBy_102, mlet, ← Int32.sub_eq_add_neg]
      exact ih n who (by omega) (by omega)
    rcases tb01 g j with ⟨e1, e2⟩ | ⟨e1, e2⟩
    · have hor : g ||| 2 ^ j < 2 ^ D := Nat.or_lt_two_pow hg (Nat.pow_lt_pow_right (by decide) hj)
      have hle := gm_le (s := s) (hm := hm) (D := D) (C := C) (C - (c + 1)) (g ||| 2 ^ j)
      have hle2 := gm_le (s := s) (hm := hm) (D := D) (C := C) (C - c) g
      have hle3 : ple s hm D c j ≤ 8 := pc_le _
      rw [e1, if_pos (show nI 0 = 0 from rfl), v_137, m_bind_some (q_pleases h hc ho hs (by omega) hj), g_137_30, sh1 (by omega), or_n, e257, l_152 (by omega), hv (c + 1) (by omega) _ hor, g_137_30, e256, l_152 (by omega), hv c (by omega) g hg, nI_add]
      by_cases hq : ple s hm D c j + gm s hm D C (C - (c + 1)) (g ||| 2 ^ j) = gm s hm D C (C - c) g
      · rw [show mayb s hm D C c g j = true by unfold mayb; simp [e2, hq], if_pos rfl, hq, if_pos rfl, fX10_wantedBy_89, if_neg ne10, fX10_wantedBy_102, mlet, ← Int32.sub_eq_add_neg]
        exact ih n (nI j) (by omega) (by omega)
      · rw [if_neg (n_ne (by omega) (by omega) hq)]
        exact no _ rfl (by unfold mayb; simp [hq])
    · rw [e1, if_neg (show ¬ nI 1 = 0 by decide)]
      exact no _ rfl (by unfold mayb; simp [e2])
/-- who is taken by the courts in turn -/
theorem by_out (hro : c_rl ro) (h6 : A ro 6 = nI D) (hc : CN A D t s w e u y au he) (hl : ∀ c, c < 7 → A 103 c = nI (lkn s hm c D)) (hv : ∀ c', c' ≤ C → ∀ g, g < 2 ^ D → pc g ≤ c' → A (105 + c') g = nI (gm s hm D C (C - c') g)) (h2 : MR B C D v kd hm pt q) (hc2 : MN B D t s w e u y au he) (ho : OKR C D v kd hm pt q) (hs : ∀ d, d < D → s d < 64) (hv2 : ∀ c', c' ≤ C → ∀ g, g < 2 ^ D → B 152 (256 * c' + g) = nI (gm s hm D C (C - c') g)) {x : Nat} (hx : x < C) : ∀ (n j g : Nat) (who : Int32), j ≤ x + 1 → x + 1 < j + n → g < 2 ^ D → pc g ≤ j → ∃ r, fX8_dollOf_9 n 102 ro 6 (nI x) (nI g) who (nI j) (hp ra rb L A) = some (r, hp ra rb L A) ∧ fX10_wantedBy_7 n 137 (nI x) (nI g) who (nI j) (hp ra rb L B) = some (r, hp ra rb L B) := by
  have hC := ho.1
  have hD := ho.2.2.1
  have h2D := upw hD
  intro n
  induction n with
  | zero =>
    intro j g who h1 h2
    omega
  | succ n ih =>
    intro j g who a1 a2 hg hpc
    rw [fX8_dollOf_9, fX10_wantedBy_7]
    by_cases hj : j ≤ x
    · have k := by_in (ra := ra) (rb := rb) (L := L) h2 hc2 ho hs hv2 (c := j) (by omega) hg (x := nI x) (K := fX10_wantedBy_109 (fX10_wantedBy_7 n)) D c_fu (-1) (by omega) (by show D < 1000; omega)
      have e := lf_fl (mayb s hm D C j g) D 0
      rw [fl, Nat.add_zero] at e
      rw [e] at k
      rw [if_neg (nI_nlt hj (by omega)), if_neg (nI_nlt hj (by omega)), v_102, m_bind_some (q_leastTaken hro h6 hc hD hC hs hl hv (by omega) hg hpc), g_137_2, h2.2.1, mlet, k, fX10_wantedBy_109]
      rcases fl_or (mayb s hm D C j g) D 0 with e1 | ⟨d, d1, d2, d3, e1⟩
      · rw [e1, if_pos rfl, if_neg (show ¬ (0 : Int32) ≤ -1 by decide), fX8_dollOf_42, mlet, fX10_wantedBy_121, mlet, mlet, or0, nI_1]
        exact ih (j + 1) g (-1) (by omega) (by omega) hg (by omega)
      · have hd : d < D := by omega
        have hb : g.testBit d = false := by
          unfold mayb at d3
          simp at d3
          exact d3.1
        have hpo := pc_or (g := g) (by omega) hb
        rw [e1, if_neg (fun z => nI_pos (n := d) (by omega) (by rw [z]; decide)), if_pos (nI_pos' (by omega)), mlet, sh1 (by omega), or_n, fX8_dollOf_42, mlet, fX10_wantedBy_121, mlet, mlet, or_n, nI_1]
        exact ih (j + 1) (g ||| 2 ^ d) (nI d) (by omega) (by omega) (Nat.or_lt_two_pow hg (Nat.pow_lt_pow_right (by decide) hd)) (by omega)
    · rw [if_pos (nI_lt (by omega) (by omega)), if_pos (nI_lt (by omega) (by omega))]
      exact ⟨who, rfl, rfl⟩
end R2
theorem pr_wanted (L : Nat) (xs : Nat → Int32) (hL : L ≤ 192) (x : Int32) : Pr L xs (pX9_wanted 3 x) (pX10_wanted 137 x) := by
  intro ra rb I hR
  have hR0 := hR
  obtain ⟨C, D, v, kd, hm, pt, q, hab, hRo, hT, hN, hP, hI, hB, hS, hX⟩ := hR
  obtain ⟨t, s, w, e, u, yy, au, he, hc1, hm1, hok⟩ := scn_to hN
  have hr := hab.rl
  have hra : ra = 113 ∨ ra = 119 := by rcases hab with h | h <;> omega
  have hc := hRo.c
  have hm2 := hRo.m
  have ho := hRo.o
  have hC := ho.1
  have hD := ho.2.2.1
  have hs : ∀ d, d < D → s d < 64 := fun d hd => (hok.1 d hd).2.1
  have h21 : 1 ≤ 2 ^ D := Nat.one_le_two_pow
  obtain ⟨A, a1, a2, a3, a4⟩ := q_weigh (ra := ra) (rb := rb) (L := L) hr (by omega) hc hc1 ho hs
  have hmA : MR A C D v kd hm pt q := hm2.fr fun a k b => a4 a k (by omega)
  have hnA : MN A D t s w e u yy au he := hm1.fr fun k => a4 142 k (by decide)
  obtain ⟨B, b1, b2, b3⟩ := q_findWanted (ra := ra) (rb := rb) (L := L) hmA hnA ho hs
  have hX1 : A 2 = xs := by
    funext k
    rw [a4 _ _ (by decide)]
    exact congrFun hX.2.2 k
  have hfin : Rel ra rb xs B := by
    refine hR0.fr fun a k hf => ?_
    have h1 : a ≠ 152 ∧ (a < 103 ∨ 112 < a) := by
      simp only [fAll, fRol, fTxt, fNow, fPst, fImg, fBok, fSed, fSta] at hf
      omega
    rw [b3 _ _ h1.1, a4 _ _ h1.2]
  by_cases h1 : x = -1
  · subst h1
    refine ⟨nI (gm s hm D C C 0), ra, rb, A, B, ?_, hX1, ?_, hfin⟩
    · have k : pX8_most 102 (hp ra rb L A) = some (nI (gm s hm D C C 0), hp ra rb L A) := by
        have e0 : (0 : Int32) = nI 0 := rfl
        rw [pX8_most, g_102_1, e0, r_104 (by decide), l_row (by decide) (by decide), a3 0 (by omega) 0 (by omega) (by decide)]
        rfl
      rw [pX9_wanted, if_pos rfl, fX9_wanted_19, g_3_6, g_3_7, g_3_1, v_102, m_bind_some a1, if_pos rfl, g_3_6, v_102, m_bind_some k]
      rfl
    · have e0 : (0 : Int32) = nI 0 := rfl
      rw [pX10_wanted, if_pos rfl, fX10_wanted_16, v_137, m_bind_some b1, if_pos rfl, g_137_30, e0, l_152 (by decide), show (0 : Nat) = 256 * 0 + 0 from rfl, b2 0 (by omega) (by omega) 0 (by omega)]
      rfl
  · rcases pk_ix x (n := C) (by omega) with h | h | ⟨c, hcl, rfl⟩
    · refine ⟨-1000000001, ra, rb, I, I, ?_, hX.2.2, ?_, hR0⟩
      · rw [pX9_wanted, if_neg h1, g_3_7, rv hr, m_bind_some (q_hasCourt_f hr hc.1 (Or.inl h))]
        rfl
      · rw [pX10_wanted, if_neg h1, v_137, m_bind_some (q_isCourt_f hm2.1 (Or.inl h) hC)]
        rfl
    · refine ⟨-1000000001, ra, rb, I, I, ?_, hX.2.2, ?_, hR0⟩
      · rw [pX9_wanted, if_neg h1, g_3_7, rv hr, m_bind_some (q_hasCourt_f hr hc.1 (Or.inr h))]
        rfl
      · rw [pX10_wanted, if_neg h1, v_137, m_bind_some (q_isCourt_f hm2.1 (Or.inr h) hC)]
        rfl
    · obtain ⟨r, k1, k2⟩ := by_out (ra := ra) (rb := rb) (L := L) (A := A) (B := B) hr (by rw [a4 _ _ (by omega)]; exact hc.2.1) (hc1.fr fun a k c1 c2 => a4 a k (by omega)) a2 a3 (hmA.fr fun a k b => b3 a k (by omega)) (hnA.fr fun k => b3 142 k (by decide)) ho hs (fun c' d1 g d2 => b2 c' (by omega) d1 g d2) hcl c_fu 0 0 (-1) (by omega) (by show c + 1 < 0 + 1000; omega) (by omega) (by decide)
      refine ⟨r, ra, rb, A, B, ?_, hX1, ?_, hfin⟩
      · have k : pX8_dollOf 102 ra 6 (nI c) (hp ra rb L A) = some (r, hp ra rb L A) := k1
        rw [pX9_wanted, if_neg h1, g_3_7, rv hr, m_bind_some (q_hasCourt_t hr hc.1 hcl hC), if_neg ne10, fX9_wanted_19, g_3_6, g_3_7, g_3_1, v_102, m_bind_some a1, if_neg h1, g_3_6, g_3_7, g_3_1, v_102, m_bind_some k]
        rfl
      · have k : pX10_wantedBy 137 (nI c) (hp ra rb L B) = some (r, hp ra rb L B) := k2
        rw [pX10_wanted, if_neg h1, v_137, m_bind_some (q_isCourt_t hmA.1 hcl hC), if_neg ne10, fX10_wanted_16, v_137, m_bind_some b1, if_neg h1, v_137, m_bind_some k]
        rfl
