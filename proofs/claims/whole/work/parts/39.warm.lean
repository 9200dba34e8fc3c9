/-! years that are tried: pairs warm, warmest, first -/
theorem q_copyRow {ra rb L a0 a1 N : Nat} (hN : N < 900) (hl : ∀ (J : cM) (j : Nat) (K : Int32 → MM Unit), j < N → m_li 0 a0 (nI j) K (hp ra rb L J) = K (J a0 j) (hp ra rb L J)) (hs : ∀ (J : cM) (j : Nat) (x : Int32) (K : MM Unit), j < N → m_si a1 (nI j) x K (hp ra rb L J) = K (hp ra rb L (u2 J a1 j x))) (hne : a0 ≠ a1) (J : cM) : pX10_copyRow a0 a1 (nI N) (hp ra rb L J) = some ((), hp ra rb L (u1 J a1 (gtf (J a1) (J a0) 0 N))) := by
  have key : ∀ (n j : Nat), j ≤ N → N < j + n → fX10_copyRow_2 n a0 a1 (nI N) (nI j) (hp ra rb L (u1 J a1 (gtf (J a1) (J a0) 0 j))) = some ((), hp ra rb L (u1 J a1 (gtf (J a1) (J a0) 0 N))) := by
    intro n
    induction n with
    | zero =>
      intro j h1 h2
      omega
    | succ n ih =>
      intro j a2 a3
      rw [fX10_copyRow_2]
      by_cases hj : j < N
      · have e := gtf_s (J a1) (J a0) 0 j
        rw [Nat.zero_add] at e
        rw [if_neg (nI_ge hj (by omega)), hl _ _ _ hj, hs _ _ _ _ hj, mlet, nI_1, u1_n _ _ hne, u2_u1, e]
        exact ih (j + 1) (by omega) (by omega)
      · have : j = N := by omega
        subst this
        rw [if_pos (nI_le (by omega) (by omega))]
        rfl
  have k := key c_fu 0 (by omega) (by show N < 0 + 1000; omega)
  rw [gtf_0, u1_id] at k
  exact k
theorem cp_out {ra rb L : Nat} (J : cM) : pX10_copyRow 142 149 (36 : Int32) (hp ra rb L J) = some ((), hp ra rb L (u1 J 149 (gtf (J 149) (J 142) 0 36))) := q_copyRow (N := 36) (by decide) (fun _ _ _ h => l_142 h) (fun _ _ _ _ h => s_149 h) (by decide) J
theorem cp_back {ra rb L : Nat} (J : cM) : pX10_copyRow 149 142 (36 : Int32) (hp ra rb L J) = some ((), hp ra rb L (u1 J 142 (gtf (J 142) (J 149) 0 36))) := q_copyRow (N := 36) (by decide) (fun _ _ _ h => l_149 h) (fun _ _ _ _ h => s_142 h) (by decide) J
/-- what was put away and taken back is as it was -/
theorem back_rel {ra rb : Nat} {xs : Nat → Int32} {I B : cM} (h : Rel ra rb xs I) (hB : ∀ a k, a ≠ 142 → B a k = (u1 I 149 (gtf (I 149) (I 142) 0 36)) a k) : Rel ra rb xs (u1 B 142 (gtf (B 142) (B 149) 0 36)) := by
  have hra : ra = 113 ∨ ra = 119 := by
    obtain ⟨C, D, v, kd, hm, pt, q, hab, -⟩ := h
    rcases hab with h | h <;> omega
  refine h.fr fun a k hf => ?_
  by_cases h1 : a = 142
  · subst h1
    have hk : k < 36 := by
      simp only [fAll, fRol, fTxt, fNow, fPst, fImg, fBok, fSed, fSta] at hf
      omega
    rw [u1_s]
    unfold gtf
    rw [if_pos hk, hB _ _ (by decide), u1_s, Nat.zero_add]
    unfold gtf
    rw [if_pos hk, Nat.zero_add]
  · have h2 : a ≠ 149 := by
      simp only [fAll, fRol, fTxt, fNow, fPst, fImg, fBok, fSed, fSta] at hf
      omega
    rw [u1_n _ _ h1, hB _ _ h1, u1_n _ _ h2]
def wi (kd : Nat → Nat) (u y : Nat) (w : Nat → Nat) : Nat → Nat → Nat
  | 0 => w
  | n + 1 => fw kd u (y + n) (wi kd u y w n)
def ei (kd : Nat → Nat) (u y : Nat) (w e : Nat → Nat) : Nat → Nat → Nat
  | 0 => e
  | n + 1 => fe kd u (y + n) (wi kd u y w n) (ei kd u y w e n)
section Y1
variable {ra rb L ro : Nat} {A B B0 : cM} {C D : Nat} {v kd hm : Nat → Nat} {pt q : Nat} {t s w e : Nat → Nat} {u y : Nat} {au he : Int32}
theorem wi_le (h : ∀ d, d < D → w d ≤ 99) : ∀ n d, d < D → wi kd u y w n d ≤ 99
  | 0, d, hd => h d hd
  | n + 1, d, hd => wn_le (wi_le h n d hd)
theorem ei_le (h : ∀ d, d < D → e d ≤ 999999) : ∀ n d, d < D → ei kd u y w e n d ≤ 999999
  | 0, d, hd => h d hd
  | n + 1, d, hd => en_le (ei_le h n d hd)
/-- the model after n tried years -/
def PS (B B0 : cM) (D : Nat) (kd t s w e : Nat → Nat) (u y : Nat) (au he : Int32) (n : Nat) : Prop := MN B D t s (wi kd u y w n) (ei kd u y w e n) u (y + n) au he ∧ B 137 2 = nI D ∧ (∀ d, d < D → B 139 d = nI (kd d)) ∧ ∀ a k, a ≠ 142 → B a k = B0 a k
theorem ps_step (hD : D ≤ 8) (hk : ∀ d, d < D → kd d ≤ 3) (hok : OKS C D t s w e u y) {n : Nat} (hn : n ≤ 1000) (h : PS B B0 D kd t s w e u y au he n) : ∃ B', pX10_pass 137 (hp ra rb L B) = some ((), hp ra rb L B') ∧ PS B' B0 D kd t s w e u y au he (n + 1) := by
  obtain ⟨h1, h2, h3, h4⟩ := h
  have hy := hok.2.2
  obtain ⟨B', g1, g2, g3⟩ := mo_pass (ra := ra) (rb := rb) (L := L) hD hk (fun d hd => wi_le (fun d hd => (hok.1 d hd).2.2.1) n d hd) (fun d hd => ei_le (fun d hd => (hok.1 d hd).2.2.2) n d hd) (by omega) h2 h3 h1
  refine ⟨B', g1, g2, by rw [g3 _ _ (by decide)]; exact h2, fun d hd => by rw [g3 _ _ (by decide)]; exact h3 d hd, fun a k ha => by rw [g3 a k ha]; exact h4 a k ha⟩
theorem behind (hro : c_rl ro) (h : CR A ro C D v kd hm pt q) (hc : CN A D t s w e u y au he) (ho : OKR C D v kd hm pt q) (hok : OKS C D t s w e u y) {d N : Nat} (hd : d < D) (hN : N ≤ 100) : pX5_warmthBehind 6 ro (nI d) (nI N) (hp ra rb L A) = some (nI (wi kd u y w N d), hp ra rb L A) := by
  have hD := ho.2.2.1
  have hy := hok.2.2
  have hw : ∀ d, d < D → w d ≤ 99 := fun d hd => (hok.1 d hd).2.2.1
  have key : ∀ (n j : Nat), j ≤ N → N < j + n → fX5_warmthBehind_11 n 6 ro (nI d) (nI N) (nI (wi kd u y w j d)) (nI j) (hp ra rb L A) = some (nI (wi kd u y w N d), hp ra rb L A) := by
    intro n
    induction n with
    | zero =>
      intro j h1 h2
      omega
    | succ n ih =>
      intro j a1 a2
      rw [fX5_warmthBehind_11]
      by_cases hj : j < N
      · rw [if_neg (nI_ge hj (by omega)), rg_1 hro, rl_2 hro (by omega), h.2.2.2.1 d hd, sv sn_6, m_bind_some (q_isUp sn_6 _), sg_5 sn_6, hc.2.2.2.2.2.1, nI_add, m_bind_some (q_warmthNext (ho.2.2.2.2.2.1 d hd) (wi_le hw j d hd) (by omega)), mlet, nI_1, hc.2.2.2.2.1]
        exact ih (j + 1) (by omega) (by omega)
      · have : j = N := by omega
        subst this
        rw [if_pos (nI_le (by omega) (by omega))]
        rfl
  rw [pX5_warmthBehind, sg_2 sn_6, sl_3 sn_6 (by omega), hc.2.2.1 d hd]
  exact key c_fu 0 (by omega) (by show N < 0 + 1000; omega)
theorem warm_m (hD : D ≤ 8) (hk : ∀ d, d < D → kd d ≤ 3) (hok : OKS C D t s w e u y) {N : Nat} (hN : N ≤ 100) {d : Int32} {K : Nat → Int32 → MM Int32} : ∀ (n j : Nat) (B : cM), j ≤ N → N < j + n → PS B B0 D kd t s w e u y au he j → ∃ B', fX10_warm_41 K n 137 d (nI N) (nI j) (hp ra rb L B) = K 137 d (hp ra rb L B') ∧ PS B' B0 D kd t s w e u y au he N := by
  intro n
  induction n with
  | zero =>
    intro j B h1 h2
    omega
  | succ n ih =>
    intro j B a1 a2 hps
    rw [fX10_warm_41]
    by_cases hj : j < N
    · obtain ⟨B', g1, g2⟩ := ps_step (ra := ra) (rb := rb) (L := L) hD hk hok (by omega) hps
      rw [if_neg (nI_ge hj (by omega)), v_137, m_bind_some g1, mlet, nI_1]
      exact ih (j + 1) B' (by omega) (by omega) g2
    · have : j = N := by omega
      subst this
      rw [if_pos (nI_le (by omega) (by omega))]
      exact ⟨B, rfl, hps⟩
theorem warmest_m (hD : D ≤ 8) (hk : ∀ d, d < D → kd d ≤ 3) (hok : OKS C D t s w e u y) {N : Nat} (hN : N ≤ 100) {K : Nat → MM Int32} : ∀ (n j : Nat) (B : cM), j ≤ N → N < j + n → PS B B0 D kd t s w e u y au he j → ∃ B', fX10_warmest_30 K n 137 (nI N) (nI j) (hp ra rb L B) = K 137 (hp ra rb L B') ∧ PS B' B0 D kd t s w e u y au he N := by
  intro n
  induction n with
  | zero =>
    intro j B h1 h2
    omega
  | succ n ih =>
    intro j B a1 a2 hps
    rw [fX10_warmest_30]
    by_cases hj : j < N
    · obtain ⟨B', g1, g2⟩ := ps_step (ra := ra) (rb := rb) (L := L) hD hk hok (by omega) hps
      rw [if_neg (nI_ge hj (by omega)), v_137, m_bind_some g1, mlet, nI_1]
      exact ih (j + 1) B' (by omega) (by omega) g2
    · have : j = N := by omega
      subst this
      rw [if_pos (nI_le (by omega) (by omega))]
      exact ⟨B, rfl, hps⟩
/-- the warmest after N years -/
theorem warmest_in (hr : c_rl ra) (h : CR A ra C D v kd hm pt q) (hc : CN A D t s w e u y au he) (ho : OKR C D v kd hm pt q) (hok : OKS C D t s w e u y) {N : Nat} (hN : N ≤ 100) (hB : PS B B0 D kd t s w e u y au he N) {K : Nat → Int32 → MM Int32} : ∀ (n j : Nat) (b c : Int32), j ≤ D → D < j + n → ((b = -1 ∧ c = -1) ∨ ∃ k, k < D ∧ b = nI k ∧ c = nI (wi kd u y w N k)) → ∃ r, fX9_warmest_20 n 3 (nI N) b c (nI j) (hp ra rb L A) = some (r, hp ra rb L A) ∧ fX10_warmest_49 K n 137 b (nI j) (hp ra rb L B) = K 137 r (hp ra rb L B) := by
  have hD := ho.2.2.1
  obtain ⟨m1, m2, m3, m4⟩ := hB
  intro n
  induction n with
  | zero =>
    intro j b c h1 h2
    omega
  | succ n ih =>
    intro j b c a1 a2 hs
    rw [fX9_warmest_20, g_3_7, rg_6 hr, h.2.1, fX10_warmest_49, g_137_2, m2]
    by_cases hj : j < D
    · have hwj := wi_le (kd := kd) (u := u) (y := y) (D := D) (w := w) (fun d hd => (hok.1 d hd).2.2.1) N j hj
      have e9 : ∀ j, (9 : Int32) + nI j = nI (9 + j) := fun j => nI_add 9 j
      rw [if_neg (nI_ge hj (by omega)), if_neg (nI_ge hj (by omega)), g_3_1, g_3_7, sv sn_6, m_bind_some (behind hr h hc ho hok hj hN)]
      have nx := ih (j + 1) (nI j) (nI (wi kd u y w N j)) (by omega) (by omega) (Or.inr ⟨j, hj, rfl, rfl⟩)
      rcases hs with ⟨rfl, rfl⟩ | ⟨k, hk, rfl, rfl⟩
      · rw [if_neg (show ¬ nI (wi kd u y w N j) ≤ -1 by rw [t_le, nI_toInt (by omega), show (-1 : Int32).toInt = -1 by decide]; omega), if_pos (by decide), fX9_warmest_60, mlet, fX10_warmest_82, fX10_warmest_87, mlet, nI_1]
        exact nx
      · have hwk := wi_le (kd := kd) (u := u) (y := y) (D := D) (w := w) (fun d hd => (hok.1 d hd).2.2.1) N k hk
        rw [if_neg (nI_pos (by omega)), g_137_8, e9, l_142 (by omega), m1.2.2.1 j hj, g_137_8, e9, l_142 (by omega), m1.2.2.1 k hk]
        by_cases hle : nI (wi kd u y w N j) ≤ nI (wi kd u y w N k)
        · rw [if_pos hle, if_pos hle, fX9_warmest_60, mlet, fX10_warmest_87, mlet, nI_1]
          exact ih (j + 1) _ _ (by omega) (by omega) (Or.inr ⟨k, hk, rfl, rfl⟩)
        · rw [if_neg hle, if_neg hle, fX9_warmest_60, mlet, fX10_warmest_82, fX10_warmest_87, mlet, nI_1]
          exact nx
    · have : j = D := by omega
      subst this
      rw [if_pos (nI_le (by omega) (by omega)), if_pos (nI_le (by omega) (by omega))]
      exact ⟨b, rfl, rfl⟩
theorem first_in (hro : c_rl ro) (h : CR A ro C D v kd hm pt q) (hc : CN A D t s w e u y au he) (ho : OKR C D v kd hm pt q) (hok : OKS C D t s w e u y) {d x : Nat} (hd : d < D) (hx : x ≤ 99) : ∀ (n j : Nat) (B : cM), j ≤ 200 → 202 < j + n → PS B B0 D kd t s w e u y au he j → ∃ r B', fX5_yearsUntilWarm_11 n 6 ro (nI d) (nI x) (nI (wi kd u y w j d)) (nI j) (hp ra rb L A) = some (r, hp ra rb L A) ∧ fX10_first_41 fX10_first_71 n 137 (nI d) (nI x) (nI j) (hp ra rb L B) = fX10_first_89 137 r (hp ra rb L B') ∧ ∀ a k, a ≠ 142 → B' a k = B0 a k := by
  have hD := ho.2.2.1
  have hy := hok.2.2
  have hw : ∀ d, d < D → w d ≤ 99 := fun d hd => (hok.1 d hd).2.2.1
  have e9 : (9 : Int32) + nI d = nI (9 + d) := nI_add 9 d
  intro n
  induction n with
  | zero =>
    intro j B h1 h2
    omega
  | succ n ih =>
    intro j B a1 a2 hps
    obtain ⟨m1, m2, m3, m4⟩ := id hps
    have hwj := wi_le (kd := kd) (u := u) (y := y) (D := D) (w := w) hw j d hd
    have st : ∀ (F : MM Int32) , (if nI (wi kd u y w j d) < nI x then (m_gr ro 4 1 (fun a1 => m_li 0 a1 (nI d) (fun x2 => m_cv 6 5 (pX5_isUp 6 (nI d)) (fun x3 => m_gi 6 5 5 (fun x4 => m_bind (pX5_warmthNext x2 x3 (nI (wi kd u y w j d)) (x4 + nI j)) (fun x5 => m_let (nI j + 1) (fun x6 => fX5_yearsUntilWarm_11 n 6 ro (nI d) (nI x) x5 x6))))))) else F) (hp ra rb L A) = if wi kd u y w j d < x then fX5_yearsUntilWarm_11 n 6 ro (nI d) (nI x) (nI (wi kd u y w (j + 1) d)) (nI (j + 1)) (hp ra rb L A) else F (hp ra rb L A) := by
      intro F
      by_cases hl : wi kd u y w j d < x
      · rw [if_pos (nI_lt hl (by omega)), if_pos hl, rg_1 hro, rl_2 hro (by omega), h.2.2.2.1 d hd, sv sn_6, m_bind_some (q_isUp sn_6 _), sg_5 sn_6, hc.2.2.2.2.2.1, nI_add, m_bind_some (q_warmthNext (ho.2.2.2.2.2.1 d hd) hwj (by omega)), mlet, nI_1, hc.2.2.2.2.1]
        rfl
      · rw [if_neg (nI_nlt (by omega) (by omega)), if_neg hl]
    rw [fX5_yearsUntilWarm_11, if_neg (show ¬ (200 : Int32) < nI j from by rw [t_lt, nI_toInt (by omega), show (200 : Int32).toInt = 200 by decide]; omega), st, fX10_first_41]
    by_cases hj : j < 200
    · rw [if_neg (show ¬ (200 : Int32) ≤ nI j from nI_ge (b := 200) hj (by decide)), g_137_8, e9, l_142 (by omega), m1.2.2.1 d hd]
      by_cases hl : wi kd u y w j d < x
      · obtain ⟨B', g1, g2⟩ := ps_step (ra := ra) (rb := rb) (L := L) hD ho.2.2.2.2.2.1 hok (by omega) hps
        rw [if_pos hl, if_neg (nI_ge hl (by omega)), v_137, m_bind_some g1, mlet, nI_1]
        exact ih (j + 1) B' (by omega) (by omega) g2
      · rw [if_neg hl, if_pos (nI_le (by omega) (by omega)), fX10_first_71, g_137_8, e9, l_142 (by omega), m1.2.2.1 d hd, if_pos (nI_le (by omega) (by omega))]
        exact ⟨nI j, B, rfl, rfl, m4⟩
    · have : j = 200 := by omega
      subst this
      rw [if_pos (show (200 : Int32) ≤ nI 200 by decide), fX10_first_71, g_137_8, e9, l_142 (by omega), m1.2.2.1 d hd]
      by_cases hl : wi kd u y w 200 d < x
      · obtain ⟨n, rfl⟩ : ∃ n', n = n' + 1 := ⟨n - 1, by omega⟩
        rw [if_pos hl, if_neg (nI_ge hl (by omega)), fX5_yearsUntilWarm_11, if_pos (show (200 : Int32) < nI (200 + 1) by decide)]
        exact ⟨-1, B, rfl, rfl, m4⟩
      · rw [if_neg hl, if_pos (nI_le (by omega) (by omega))]
        exact ⟨nI 200, B, rfl, rfl, m4⟩
end Y1
theorem ps_0 {I : cM} {ra C D : Nat} {v kd hm : Nat → Nat} {pt q : Nat} {t s w e : Nat → Nat} {u y : Nat} {au he : Int32} (hRo : Rol I ra C D v kd hm pt q) (hm1 : MN I D t s w e u y au he) : PS (u1 I 149 (gtf (I 149) (I 142) 0 36)) (u1 I 149 (gtf (I 149) (I 142) 0 36)) D kd t s w e u y au he 0 := by
  have h2 := hRo.m
  refine ⟨hm1.fr fun k => ?_, ?_, fun d hd => ?_, fun a k _ => rfl⟩
  · rw [u1_n _ _ (by decide)]
  · rw [u1_n _ _ (by decide)]; exact h2.2.1
  · rw [u1_n _ _ (by decide)]; exact h2.2.2.2.1 d hd
theorem pr_warm (L : Nat) (xs : Nat → Int32) (hL : L ≤ 192) (x y : Int32) : Pr L xs (pX9_warm 3 x y) (pX10_warm 137 x y) := by
  intro ra rb I hR
  have hR0 := hR
  obtain ⟨C, D, v, kd, hm, pt, q, hab, hRo, hT, hN, hP, hI, hB, hS, hX⟩ := hR
  obtain ⟨t, s, w, e, u, yy, au, he, hc1, hm1, hok⟩ := scn_to hN
  have hr := hab.rl
  have hc := hRo.c
  have hm2 := hRo.m
  have ho := hRo.o
  have hD := ho.2.2.1
  have unk : ∀ {x : Int32}, (x < 0 ∨ nI D ≤ x) → ∃ (r : Int32) (ra1 rb1 : Nat) (I1 I2 : cM), pX9_warm 3 x y (hp ra rb L I) = some (r, hp ra1 rb1 L I1) ∧ I1 2 = xs ∧ pX10_warm 137 x y (hp ra1 rb1 L I1) = some (r, hp ra1 rb1 L I2) ∧ Rel ra1 rb1 xs I2 := by
    intro x h
    refine ⟨-1000000001, ra, rb, I, I, ?_, hX.2.2, ?_, hR0⟩
    · rw [pX9_warm, g_3_7, rv hr, m_bind_some (q_hasDoll_f hr hc.2.1 h)]
      rfl
    · rw [pX10_warm, v_137, m_bind_some (q_isDoll_f hm2.2.1 h hD)]
      rfl
  rcases pk_ix x (n := D) (by omega) with h | h | ⟨d, hd, rfl⟩
  · exact unk (Or.inl h)
  · exact unk (Or.inr h)
  have out : (y < 0 ∨ 100 < y) → ∃ (r : Int32) (ra1 rb1 : Nat) (I1 I2 : cM), pX9_warm 3 (nI d) y (hp ra rb L I) = some (r, hp ra1 rb1 L I1) ∧ I1 2 = xs ∧ pX10_warm 137 (nI d) y (hp ra1 rb1 L I1) = some (r, hp ra1 rb1 L I2) ∧ Rel ra1 rb1 xs I2 := by
    intro h
    have i0 : pX10_in y.toInt64 0 100 (hp ra rb L I) = some (0, hp ra rb L I) := c_in_f (a := 0) (b := 100) h
    refine ⟨-1000000002, ra, rb, I, I, ?_, hX.2.2, ?_, hR0⟩
    · rw [pX9_warm, g_3_7, rv hr, m_bind_some (q_hasDoll_t hr hc.2.1 hd hD), if_neg ne10]
      by_cases h0 : y < 0
      · rw [if_pos h0]
        rfl
      · rw [if_neg h0, if_neg (Int32.not_le.mpr (h.resolve_left h0))]
        rfl
    · rw [pX10_warm, v_137, m_bind_some (q_isDoll_t hm2.2.1 hd hD), if_neg ne10, m_bind_some i0]
      rfl
  by_cases h0 : y < 0
  · exact out (Or.inl h0)
  by_cases h6 : y ≤ 100
  · obtain ⟨N, hN1, rfl⟩ := nI_of2 (M := 100) (n := 100) (by decide) h0 h6
    have i1 : pX10_in (nI N).toInt64 0 100 (hp ra rb L I) = some (1, hp ra rb L I) := c_in_t (a := 0) (b := 100) (Int32.not_lt.mp h0) h6
    obtain ⟨B', g1, g2⟩ := warm_m (ra := ra) (rb := rb) (L := L) hD ho.2.2.2.2.2.1 hok hN1 (d := nI d) (K := fX10_warm_56) c_fu 0 _ (by omega) (by show N < 0 + 1000; omega) (ps_0 hRo hm1)
    have e9 : (9 : Int32) + nI d = nI (9 + d) := nI_add 9 d
    refine ⟨nI (wi kd u yy w N d), ra, rb, I, u1 B' 142 (gtf (B' 142) (B' 149) 0 36), ?_, hX.2.2, ?_, back_rel hR0 g2.2.2.2⟩
    · rw [pX9_warm, g_3_7, rv hr, m_bind_some (q_hasDoll_t hr hc.2.1 hd hD), if_neg ne10, if_neg h0, if_pos h6, g_3_1, g_3_7, sv sn_6, m_bind_some (behind hr hc hc1 ho hok hd hN1)]
      rfl
    · rw [pX10_warm, v_137, m_bind_some (q_isDoll_t hm2.2.1 hd hD), if_neg ne10, m_bind_some i1, if_neg ne10, g_137_8, g_137_27, m_bind_some (cp_out I)]
      refine g1.trans ?_
      rw [fX10_warm_56, g_137_8, e9, l_142 (by omega), g2.1.2.2.1 d hd, g_137_27, g_137_8, m_bind_some (cp_back B')]
      rfl
  · exact out (Or.inr (Int32.not_le.mp h6))
theorem pr_warmest (L : Nat) (xs : Nat → Int32) (hL : L ≤ 192) (y : Int32) : Pr L xs (pX9_warmest 3 y) (pX10_warmest 137 y) := by
  intro ra rb I hR
  have hR0 := hR
  obtain ⟨C, D, v, kd, hm, pt, q, hab, hRo, hT, hN, hP, hI, hB, hS, hX⟩ := hR
  obtain ⟨t, s, w, e, u, yy, au, he, hc1, hm1, hok⟩ := scn_to hN
  have hr := hab.rl
  have hc := hRo.c
  have hm2 := hRo.m
  have ho := hRo.o
  have hD := ho.2.2.1
  have out : (y < 0 ∨ 100 < y) → ∃ (r : Int32) (ra1 rb1 : Nat) (I1 I2 : cM), pX9_warmest 3 y (hp ra rb L I) = some (r, hp ra1 rb1 L I1) ∧ I1 2 = xs ∧ pX10_warmest 137 y (hp ra1 rb1 L I1) = some (r, hp ra1 rb1 L I2) ∧ Rel ra1 rb1 xs I2 := by
    intro h
    have i0 : pX10_in y.toInt64 0 100 (hp ra rb L I) = some (0, hp ra rb L I) := c_in_f (a := 0) (b := 100) h
    refine ⟨-1000000002, ra, rb, I, I, ?_, hX.2.2, ?_, hR0⟩
    · rw [pX9_warmest]
      by_cases h0 : y < 0
      · rw [if_pos h0]
        rfl
      · rw [if_neg h0, if_neg (Int32.not_le.mpr (h.resolve_left h0))]
        rfl
    · rw [pX10_warmest, m_bind_some i0]
      rfl
  by_cases h0 : y < 0
  · exact out (Or.inl h0)
  by_cases h6 : y ≤ 100
  · obtain ⟨N, hN1, rfl⟩ := nI_of2 (M := 100) (n := 100) (by decide) h0 h6
    have i1 : pX10_in (nI N).toInt64 0 100 (hp ra rb L I) = some (1, hp ra rb L I) := c_in_t (a := 0) (b := 100) (Int32.not_lt.mp h0) h6
    obtain ⟨B', g1, g2⟩ := warmest_m (ra := ra) (rb := rb) (L := L) hD ho.2.2.2.2.2.1 hok hN1 (K := fX10_warmest_45) c_fu 0 _ (by omega) (by show N < 0 + 1000; omega) (ps_0 hRo hm1)
    obtain ⟨r, k1, k2⟩ := warmest_in (rb := rb) (L := L) hr hc hc1 ho hok hN1 g2 (K := fX10_warmest_94) c_fu 0 (-1) (-1) (by omega) (by show D < 0 + 1000; omega) (Or.inl ⟨rfl, rfl⟩)
    refine ⟨r, ra, rb, I, u1 B' 142 (gtf (B' 142) (B' 149) 0 36), ?_, hX.2.2, ?_, back_rel hR0 g2.2.2.2⟩
    · rw [pX9_warmest, if_neg h0, if_pos h6]
      exact k1
    · rw [pX10_warmest, m_bind_some i1, if_neg ne10, g_137_8, g_137_27, m_bind_some (cp_out I)]
      refine g1.trans ?_
      rw [fX10_warmest_45]
      refine k2.trans ?_
      rw [fX10_warmest_94, g_137_27, g_137_8, m_bind_some (cp_back B')]
      rfl
  · exact out (Or.inr (Int32.not_le.mp h6))
theorem pr_first (L : Nat) (xs : Nat → Int32) (hL : L ≤ 192) (x y : Int32) : Pr L xs (pX9_first 3 x y) (pX10_first 137 x y) := by
  intro ra rb I hR
  have hR0 := hR
  obtain ⟨C, D, v, kd, hm, pt, q, hab, hRo, hT, hN, hP, hI, hB, hS, hX⟩ := hR
  obtain ⟨t, s, w, e, u, yy, au, he, hc1, hm1, hok⟩ := scn_to hN
  have hr := hab.rl
  have hc := hRo.c
  have hm2 := hRo.m
  have ho := hRo.o
  have hD := ho.2.2.1
  have unk : ∀ {x : Int32}, (x < 0 ∨ nI D ≤ x) → ∃ (r : Int32) (ra1 rb1 : Nat) (I1 I2 : cM), pX9_first 3 x y (hp ra rb L I) = some (r, hp ra1 rb1 L I1) ∧ I1 2 = xs ∧ pX10_first 137 x y (hp ra1 rb1 L I1) = some (r, hp ra1 rb1 L I2) ∧ Rel ra1 rb1 xs I2 := by
    intro x h
    refine ⟨-1000000001, ra, rb, I, I, ?_, hX.2.2, ?_, hR0⟩
    · rw [pX9_first, g_3_7, rv hr, m_bind_some (q_hasDoll_f hr hc.2.1 h)]
      rfl
    · rw [pX10_first, v_137, m_bind_some (q_isDoll_f hm2.2.1 h hD)]
      rfl
  rcases pk_ix x (n := D) (by omega) with h | h | ⟨d, hd, rfl⟩
  · exact unk (Or.inl h)
  · exact unk (Or.inr h)
  have out : (y < 0 ∨ 99 < y) → ∃ (r : Int32) (ra1 rb1 : Nat) (I1 I2 : cM), pX9_first 3 (nI d) y (hp ra rb L I) = some (r, hp ra1 rb1 L I1) ∧ I1 2 = xs ∧ pX10_first 137 (nI d) y (hp ra1 rb1 L I1) = some (r, hp ra1 rb1 L I2) ∧ Rel ra1 rb1 xs I2 := by
    intro h
    have i0 : pX10_in y.toInt64 0 99 (hp ra rb L I) = some (0, hp ra rb L I) := c_in_f (a := 0) (b := 99) h
    refine ⟨-1000000002, ra, rb, I, I, ?_, hX.2.2, ?_, hR0⟩
    · rw [pX9_first, g_3_7, rv hr, m_bind_some (q_hasDoll_t hr hc.2.1 hd hD), if_neg ne10]
      by_cases h0 : y < 0
      · rw [if_pos h0]
        rfl
      · rw [if_neg h0, if_neg (Int32.not_le.mpr (h.resolve_left h0))]
        rfl
    · rw [pX10_first, v_137, m_bind_some (q_isDoll_t hm2.2.1 hd hD), if_neg ne10, m_bind_some i0]
      rfl
  by_cases h0 : y < 0
  · exact out (Or.inl h0)
  by_cases h6 : y ≤ 99
  · obtain ⟨N, hN1, rfl⟩ := nI_of2 (M := 99) (n := 99) (by decide) h0 h6
    have i1 : pX10_in (nI N).toInt64 0 99 (hp ra rb L I) = some (1, hp ra rb L I) := c_in_t (a := 0) (b := 99) (Int32.not_lt.mp h0) h6
    obtain ⟨r, B', g1, g2, g3⟩ := first_in (ra := ra) (rb := rb) (L := L) hr hc hc1 ho hok hd hN1 c_fu 0 _ (by omega) (by decide) (ps_0 hRo hm1)
    refine ⟨r, ra, rb, I, u1 B' 142 (gtf (B' 142) (B' 149) 0 36), ?_, hX.2.2, ?_, back_rel hR0 g3⟩
    · have k : pX5_yearsUntilWarm 6 ra (nI d) (nI N) (hp ra rb L I) = some (r, hp ra rb L I) := by
        rw [pX5_yearsUntilWarm, sg_2 sn_6, sl_3 sn_6 (by omega), hc1.2.2.1 d hd]
        exact g1
      rw [pX9_first, g_3_7, rv hr, m_bind_some (q_hasDoll_t hr hc.2.1 hd hD), if_neg ne10, if_neg h0, if_pos h6, g_3_1, g_3_7, sv sn_6, m_bind_some k]
      rfl
    · rw [pX10_first, v_137, m_bind_some (q_isDoll_t hm2.2.1 hd hD), if_neg ne10, m_bind_some i1, if_neg ne10, g_137_8, g_137_27, m_bind_some (cp_out I)]
      refine g2.trans ?_
      rw [fX10_first_89, g_137_27, g_137_8, m_bind_some (cp_back B')]
      rfl
  · exact out (Or.inr (Int32.not_le.mp h6))
