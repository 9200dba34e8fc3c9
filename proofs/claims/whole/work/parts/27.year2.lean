/-! a year in the model; pair year -/
def fw (kd : Nat → Nat) (u y : Nat) (w : Nat → Nat) : Nat → Nat := fun d => wn (kd d) (ub u d) (w d) y
def fe (kd : Nat → Nat) (u y : Nat) (w e : Nat → Nat) : Nat → Nat := fun d => en (kd d) (ub u d) (wn (kd d) (ub u d) (w d) y) (e d)
theorem op_pass {ra rb L ro D : Nat} {A : cM} {kd t s w e : Nat → Nat} {u y : Nat} {au he : Int32} (hro : c_rl ro) (hro2 : 100 < ro) (hD : D ≤ 8) (hk : ∀ d, d < D → kd d ≤ 3) (hw : ∀ d, d < D → w d ≤ 99) (he9 : ∀ d, d < D → e d ≤ 999999) (hy : y < 2 ^ 30) (h6 : A ro 6 = nI D) (hAk : ∀ d, d < D → A (ro + 2) d = nI (kd d)) (hC : CN A D t s w e u y au he) : ∃ A', pX5_passYear 6 ro (hp ra rb L A) = some ((), hp ra rb L A') ∧ CN A' D t s (fw kd u y w) (fe kd u y w e) u (y + 1) au he ∧ ∀ a k, (a < 6 ∨ 10 < a) → A' a k = A a k := by
  have h0 : CN A D t s (wj kd u y w 0) (ej kd u y w e 0) u y au he := by
    have e1 : wj kd u y w 0 = w := by funext d; unfold wj; rw [if_neg (by omega)]
    have e2 : ej kd u y w e 0 = e := by funext d; unfold ej; rw [if_neg (by omega)]
    rw [e1, e2]
    exact hC
  obtain ⟨A', g1, g2, g3⟩ := op_pass_loop (ra := ra) (rb := rb) (L := L) (K := fX5_passYear_106) hro hro2 hD hk hw he9 hy c_fu 0 A (by omega) (by show D < 0 + 1000; omega) h6 hAk h0
  obtain ⟨a1, a2, a3, a4, a5, a6, a7, a8⟩ := g2
  refine ⟨u2 A' 6 5 (nI (y + 1)), ?_, ⟨fun d hd => ?_, fun d hd => ?_, fun d hd => ?_, fun d hd => ?_, ?_, ?_, ?_, ?_⟩, fun a k h => ?_⟩
  · rw [pX5_passYear]
    show fX5_passYear_2 fX5_passYear_106 c_fu 6 ro (nI 0) (hp ra rb L A) = _
    rw [g1, fX5_passYear_106, sg_5 sn_6, a6, nI_1, sp_5 sn_6]
    rfl
  · rw [u2_na _ _ (by decide)]; exact a1 d hd
  · rw [u2_na _ _ (by decide)]; exact a2 d hd
  · rw [u2_na _ _ (by decide), a3 d hd]
    unfold wj fw
    rw [if_pos hd]
  · rw [u2_na _ _ (by decide), a4 d hd]
    unfold ej fe
    rw [if_pos hd]
  · rw [u2_nk _ _ (by decide)]; exact a5
  · rw [u2_s]
  · rw [u2_nk _ _ (by decide)]; exact a7
  · rw [u2_nk _ _ (by decide)]; exact a8
  · rw [u2_na _ _ (by omega)]; exact g3 a k h
theorem q_moreWarm {ra rb L d k u y : Nat} {B : cM} (hu : B 142 8 = nI u) (hk : B 139 d = nI k) (hk3 : k ≤ 3) (hy : B 142 33 = nI y) (hy2 : y < 2 ^ 31) (hd : d < 8) : pX10_moreWarm 137 (nI d) (hp ra rb L B) = some (if ub u d = 0 then -1 else nI (gn k y), hp ra rb L B) := by
  have e8 : (8 : Int32) = nI 8 := rfl
  have e33 : (33 : Int32) = nI 33 := rfl
  rw [pX10_moreWarm, g_137_8, e8, l_142 (by decide), hu, m_bind_some (q_has _ _), show (nI u >>> (nI d &&& 31)) &&& 1 = ub u d from rfl]
  by_cases hb : ub u d = 0
  · rw [if_pos hb, if_pos hb]
    rfl
  · rw [if_neg hb, if_neg hb, g_137_3, l_139 hd, hk]
    match k, hk3 with
    | 0, _ => rfl
    | 1, _ => rfl
    | 2, _ => rfl
    | 3, _ =>
      rw [if_neg (show ¬ nI 3 = 0 by decide), if_neg (show ¬ nI 3 = 1 by decide), if_neg (show ¬ nI 3 = 2 by decide), if_pos (show nI 3 = 3 from rfl), g_137_8, e33, l_142 (by decide), hy]
      unfold m_nz
      rw [if_neg (by decide)]
      by_cases he : y % 2 = 0
      · rw [if_pos ((even_n hy2).mpr he)]
        have e : gn 3 y = 2 := by simp [gn, he]
        rw [e]
        rfl
      · rw [if_neg (fun q => he ((even_n hy2).mp q))]
        have e : gn 3 y = 0 := by simp [gn, he]
        rw [e]
        rfl
theorem mo_pass_loop {ra rb L D : Nat} {kd t s w e : Nat → Nat} {u y : Nat} {au he : Int32} {K : Nat → MM Unit} (hD : D ≤ 8) (hk : ∀ d, d < D → kd d ≤ 3) (hw : ∀ d, d < D → w d ≤ 99) (he9 : ∀ d, d < D → e d ≤ 999999) (hy : y < 2 ^ 30) : ∀ (n j : Nat) (B : cM), j ≤ D → D < j + n → B 137 2 = nI D → (∀ d, d < D → B 139 d = nI (kd d)) → MN B D t s (wj kd u y w j) (ej kd u y w e j) u y au he → ∃ B', fX10_pass_2 K n 137 (nI j) (hp ra rb L B) = K 137 (hp ra rb L B') ∧ MN B' D t s (wj kd u y w D) (ej kd u y w e D) u y au he ∧ ∀ a k, a ≠ 142 → B' a k = B a k := by
  intro n
  induction n with
  | zero =>
    intro j B h1 h2
    omega
  | succ n ih =>
    intro j B h1 h2 hB2 hBk hM
    rw [fX10_pass_2, g_137_2, hB2]
    by_cases hj : j < D
    · obtain ⟨a1, a2, a3, a4, a5, a6, a7, a8⟩ := id hM
      have hj8 : j < 8 := by omega
      have e9 : (9 : Int32) + nI j = nI (9 + j) := nI_add 9 j
      have e25 : (25 : Int32) + nI j = nI (25 + j) := nI_add 25 j
      have e8 : (8 : Int32) = nI 8 := rfl
      obtain ⟨W, hW⟩ : ∃ W, W = wn (kd j) (ub u j) (w j) y := ⟨_, rfl⟩
      have hwj := hw j hj
      have hW99 : W ≤ 99 := by rw [hW]; exact wn_le hwj
      rw [if_neg (nI_ge hj (by omega)), g_137_8, e9, l_142 (by omega), a3 j hj, wj_e, v_137, m_bind_some (q_moreWarm a5 (hBk j hj) (hk j hj) a6 (by omega) hj8)]
      unfold m_let
      dsimp only
      rw [g_137_8]
      -- behind the year's warmth
      have step : ∃ B', fX10_pass_54 (fX10_pass_2 K n) 137 (nI j) (nI W) (nI (9 + j)) 142 (hp ra rb L B) = K 137 (hp ra rb L B') ∧ MN B' D t s (wj kd u y w D) (ej kd u y w e D) u y au he ∧ ∀ a k, a ≠ 142 → B' a k = B a k := by
        rw [fX10_pass_54, s_142 (by omega), g_137_3, l_139 hj8, u2_na _ _ (by decide), hBk j hj]
        obtain ⟨B1, hB1⟩ : ∃ B1, B1 = u2 B 142 (9 + j) (nI W) := ⟨_, rfl⟩
        rw [← hB1]
        have hM1 : MN B1 D t s (wj kd u y w (j + 1)) (ej kd u y w e j) u y au he := by
          rw [hB1]
          refine ⟨fun d hd => ?_, fun d hd => ?_, fun d hd => ?_, fun d hd => ?_, ?_, ?_, ?_, ?_⟩
          · rw [u2_nk _ _ (by omega)]; exact a1 d hd
          · rw [u2_nk _ _ (by omega)]; exact a2 d hd
          · by_cases hdj : d = j
            · rw [hdj, u2_s, wj_n, hW]
            · rw [u2_nk _ _ (by omega), wj_s hdj]; exact a3 d hd
          · rw [u2_nk _ _ (by omega)]; exact a4 d hd
          · rw [u2_nk _ _ (by omega)]; exact a5
          · rw [u2_nk _ _ (by omega)]; exact a6
          · rw [u2_nk _ _ (by omega)]; exact a7
          · rw [u2_nk _ _ (by omega)]; exact a8
        have fr1 : ∀ a k, a ≠ 142 → B1 a k = B a k := fun a k h => by rw [hB1, u2_na _ _ h]
        have hE : e j ≤ 999999 := he9 j hj
        -- the tears are written, grown or not
        have go : ∀ g : Nat, en (kd j) (ub u j) W (e j) = e j + g → g ≤ 1 → ∃ B', fX10_pass_132 (fX10_pass_2 K n) 137 (nI j) (nI g) (nI (e j)) (nI (25 + j)) 142 (hp ra rb L B1) = K 137 (hp ra rb L B') ∧ MN B' D t s (wj kd u y w D) (ej kd u y w e D) u y au he ∧ ∀ a k, a ≠ 142 → B' a k = B a k := by
          intro g hg hg1
          have hM2 : MN (u2 B1 142 (25 + j) (nI (e j + g))) D t s (wj kd u y w (j + 1)) (ej kd u y w e (j + 1)) u y au he := by
            obtain ⟨c1, c2, c3, c4, c5, c6, c7, c8⟩ := hM1
            refine ⟨fun d hd => ?_, fun d hd => ?_, fun d hd => ?_, fun d hd => ?_, ?_, ?_, ?_, ?_⟩
            · rw [u2_nk _ _ (by omega)]; exact c1 d hd
            · rw [u2_nk _ _ (by omega)]; exact c2 d hd
            · rw [u2_nk _ _ (by omega)]; exact c3 d hd
            · by_cases hdj : d = j
              · rw [hdj, u2_s, ej_n, ← hW, hg]
              · rw [u2_nk _ _ (by omega), ej_s hdj]; exact c4 d hd
            · rw [u2_nk _ _ (by omega)]; exact c5
            · rw [u2_nk _ _ (by omega)]; exact c6
            · rw [u2_nk _ _ (by omega)]; exact c7
            · rw [u2_nk _ _ (by omega)]; exact c8
          have fr2 : ∀ a k, a ≠ 142 → u2 B1 142 (25 + j) (nI (e j + g)) a k = B a k := fun a k h => by rw [u2_na _ _ h]; exact fr1 a k h
          obtain ⟨B', g1, g2, g3⟩ := ih (j + 1) _ (by omega) (by omega) (by rw [fr2 _ _ (by decide)]; exact hB2) (fun d hd => by rw [fr2 _ _ (by decide)]; exact hBk d hd) hM2
          refine ⟨B', ?_, g2, fun a k h => (g3 a k h).trans (fr2 a k h)⟩
          rw [fX10_pass_132, nI_add, s_142 (by omega)]
          unfold m_let
          rw [nI_1]
          exact g1
        have no : en (kd j) (ub u j) W (e j) = e j → ∃ B', fX10_pass_97 (fX10_pass_98 (fX10_pass_2 K n)) 137 (nI j) (hp ra rb L B1) = K 137 (hp ra rb L B') ∧ MN B' D t s (wj kd u y w D) (ej kd u y w e D) u y au he ∧ ∀ a k, a ≠ 142 → B' a k = B a k := by
          intro hno
          rw [fX10_pass_97, fX10_pass_98, g_137_8, e25, l_142 (by omega), hM1.2.2.2.1 j hj, ej_e, if_pos rfl, fX10_pass_131]
          exact go 0 (by rw [hno]; rfl) (by decide)
        by_cases hk2 : kd j = 2
        · rw [if_pos (show nI (kd j) = 2 by rw [hk2]; rfl), g_137_8, e8, l_142 (by decide), hM1.2.2.2.2.1, m_bind_some (q_has _ _), show (nI u >>> (nI j &&& 31)) &&& 1 = ub u j from rfl]
          by_cases hb0 : ub u j = 0
          · rw [if_pos hb0]
            exact no (by unfold en; rw [if_neg (fun q => q.2.1 hb0)])
          · rw [if_neg hb0, g_137_8, e9, l_142 (by omega), hM1.2.2.1 j hj, wj_n, ← hW]
            by_cases h20 : W < 20
            · rw [if_pos (show nI W < 20 from nI_lt (b := 20) h20 (by decide))]
              exact no (by unfold en; rw [if_neg (fun q => by omega)])
            · rw [if_neg (show ¬ nI W < 20 from nI_nlt (b := 20) (by omega) (by omega)), fX10_pass_98, g_137_8, e25, l_142 (by omega), hM1.2.2.2.1 j hj, ej_e, if_neg ne10, g_137_8, l_142 (by omega), hM1.2.2.2.1 j hj, ej_e]
              by_cases h9 : e j < 999999
              · rw [if_neg (show ¬ (999999 : Int32) ≤ nI (e j) from nI_ge (b := 999999) h9 (by decide))]
                exact go 1 (by unfold en; rw [if_pos ⟨hk2, hb0, by omega, h9⟩]) (by decide)
              · rw [if_pos (show (999999 : Int32) ≤ nI (e j) from nI_le (a := 999999) (by omega) (by omega)), fX10_pass_131]
                exact go 0 (by unfold en; rw [if_neg (fun q => h9 q.2.2.2)]; rfl) (by decide)
        · rw [if_neg (show ¬ nI (kd j) = 2 from fun q => hk2 ((nI_eq (by have := hk j hj; omega) (by decide)).mp (show nI (kd j) = nI 2 from q)))]
          exact no (by unfold en; rw [if_neg (fun q => hk2 q.1)])
      by_cases hb0 : ub u j = 0
      · rw [if_pos hb0]
        have hW1 : W = w j - 1 := by rw [hW]; unfold wn; rw [if_pos hb0]
        by_cases h0 : w j = 0
        · rw [if_neg (show ¬ (0 : Int32) ≤ nI (w j) + -1 by rw [h0]; decide)]
          rw [hW1, h0] at step
          exact step
        · have ev : nI (w j) + -1 = nI (w j - 1) := sb_m1 (by omega)
          rw [ev, if_pos (nI_pos' (by omega)), if_pos (show nI (w j - 1) ≤ 99 from nI_le (b := 99) (by omega) (by decide)), ← hW1]
          exact step
      · rw [if_neg hb0, nI_add]
        have hg := gn_le (kd j) y
        have hW1 : W = min (w j + gn (kd j) y) 99 := by rw [hW]; unfold wn; rw [if_neg hb0]
        rw [if_pos (nI_pos' (by omega))]
        by_cases h99 : w j + gn (kd j) y ≤ 99
        · rw [if_pos (show nI (w j + gn (kd j) y) ≤ 99 from nI_le (b := 99) h99 (by decide))]
          have : W = w j + gn (kd j) y := by omega
          rw [← this]
          exact step
        · rw [if_neg (show ¬ nI (w j + gn (kd j) y) ≤ 99 from nI_ge (a := 99) (by omega) (by omega))]
          have : W = 99 := by omega
          rw [this] at step
          exact step
    · have : j = D := by omega
      subst this
      rw [if_pos (nI_le (by omega) (by omega))]
      exact ⟨B, rfl, hM, fun _ _ _ => rfl⟩
theorem mo_pass {ra rb L D : Nat} {B : cM} {kd t s w e : Nat → Nat} {u y : Nat} {au he : Int32} (hD : D ≤ 8) (hk : ∀ d, d < D → kd d ≤ 3) (hw : ∀ d, d < D → w d ≤ 99) (he9 : ∀ d, d < D → e d ≤ 999999) (hy : y < 2 ^ 30) (h2 : B 137 2 = nI D) (hBk : ∀ d, d < D → B 139 d = nI (kd d)) (hM : MN B D t s w e u y au he) : ∃ B', pX10_pass 137 (hp ra rb L B) = some ((), hp ra rb L B') ∧ MN B' D t s (fw kd u y w) (fe kd u y w e) u (y + 1) au he ∧ ∀ a k, a ≠ 142 → B' a k = B a k := by
  have h0 : MN B D t s (wj kd u y w 0) (ej kd u y w e 0) u y au he := by
    have e1 : wj kd u y w 0 = w := by funext d; unfold wj; rw [if_neg (by omega)]
    have e2 : ej kd u y w e 0 = e := by funext d; unfold ej; rw [if_neg (by omega)]
    rw [e1, e2]
    exact hM
  obtain ⟨B', g1, g2, g3⟩ := mo_pass_loop (ra := ra) (rb := rb) (L := L) (K := fX10_pass_140) hD hk hw he9 hy c_fu 0 B (by omega) (by show D < 0 + 1000; omega) h2 hBk h0
  obtain ⟨a1, a2, a3, a4, a5, a6, a7, a8⟩ := g2
  have e33 : (33 : Int32) = nI 33 := rfl
  refine ⟨u2 B' 142 33 (nI (y + 1)), ?_, ⟨fun d hd => ?_, fun d hd => ?_, fun d hd => ?_, fun d hd => ?_, ?_, ?_, ?_, ?_⟩, fun a k h => ?_⟩
  · rw [pX10_pass]
    show fX10_pass_2 fX10_pass_140 c_fu 137 (nI 0) (hp ra rb L B) = _
    rw [g1, fX10_pass_140, g_137_8, e33, l_142 (by decide), a6, nI_1, s_142 (by decide)]
    rfl
  · rw [u2_nk _ _ (by omega)]; exact a1 d hd
  · rw [u2_nk _ _ (by omega)]; exact a2 d hd
  · rw [u2_nk _ _ (by omega), a3 d hd]
    unfold wj fw
    rw [if_pos hd]
  · rw [u2_nk _ _ (by omega), a4 d hd]
    unfold ej fe
    rw [if_pos hd]
  · rw [u2_nk _ _ (by omega)]; exact a5
  · rw [u2_s]
  · rw [u2_nk _ _ (by omega)]; exact a7
  · rw [u2_nk _ _ (by omega)]; exact a8
  · rw [u2_na _ _ h]; exact g3 a k h
theorem ok_pass {C D : Nat} {kd t s w e : Nat → Nat} {u y : Nat} (h : OKS C D t s w e u y) (hy : y + 1 ≤ 9060) : OKS C D t s (fw kd u y w) (fe kd u y w e) u (y + 1) := by
  refine ⟨fun d hd => ?_, h.2.1, hy⟩
  obtain ⟨b1, b2, b3, b4⟩ := h.1 d hd
  exact ⟨b1, b2, wn_le b3, en_le b4⟩
/-- years in the class and years in the model come to the same numbers -/
theorem year_loops {rb L ro C D : Nat} {kd : Nat → Nat} {t s : Nat → Nat} {u : Nat} {au he : Int32} (hro : c_rl ro) (hro2 : 100 < ro) (hD : D ≤ 8) (hk : ∀ d, d < D → kd d ≤ 3) (N : Nat) (hN : N ≤ 60) :
    ∀ (m j : Nat) (w e : Nat → Nat) (y : Nat), j + m = N → y + m ≤ 9060 → OKS C D t s w e u y → ∃ (w' e' : Nat → Nat), OKS C D t s w' e' u (y + m) ∧
      (∀ (n : Nat) (A : cM), m < n → A 3 9 = A 3 9 → CN A D t s w e u y au he → A ro 6 = nI D → (∀ d, d < D → A (ro + 2) d = nI (kd d)) → ∀ K : Nat → MM Int32, ∃ A', fX9_year_25 K n 3 (nI N) (nI j) (hp ro rb L A) = K 3 (hp ro rb L A') ∧ CN A' D t s w' e' u (y + m) au he ∧ ∀ a k, (a < 6 ∨ 10 < a) → A' a k = A a k) ∧
      (∀ (n : Nat) (B : cM), m < n → MN B D t s w e u y au he → B 137 2 = nI D → (∀ d, d < D → B 139 d = nI (kd d)) → ∀ K : Nat → MM Int32, ∃ B', fX10_year_18 K n 137 (nI N) (nI j) (hp ro rb L B) = K 137 (hp ro rb L B') ∧ MN B' D t s w' e' u (y + m) au he ∧ ∀ a k, a ≠ 142 → B' a k = B a k) := by
  intro m
  induction m with
  | zero =>
    intro j w e y hj hy hok
    refine ⟨w, e, hok, fun n A hn _ hC _ _ K => ⟨A, ?_, hC, fun _ _ _ => rfl⟩, fun n B hn hM _ _ K => ⟨B, ?_, hM, fun _ _ _ => rfl⟩⟩
    · obtain ⟨n, rfl⟩ : ∃ n', n = n' + 1 := ⟨n - 1, by omega⟩
      rw [fX9_year_25, if_pos (nI_le (by omega) (by omega))]
    · obtain ⟨n, rfl⟩ : ∃ n', n = n' + 1 := ⟨n - 1, by omega⟩
      rw [fX10_year_18, if_pos (nI_le (by omega) (by omega))]
  | succ m ih =>
    intro j w e y hj hy hok
    have hw : ∀ d, d < D → w d ≤ 99 := fun d hd => (hok.1 d hd).2.2.1
    have he9 : ∀ d, d < D → e d ≤ 999999 := fun d hd => (hok.1 d hd).2.2.2
    obtain ⟨w', e', o1, o2, o3⟩ := ih (j + 1) (fw kd u y w) (fe kd u y w e) (y + 1) (by omega) (by omega) (ok_pass hok (by omega))
    rw [show y + 1 + m = y + (m + 1) by omega] at o1 o2 o3
    refine ⟨w', e', o1, fun n A hn _ hC h6 hAk K => ?_, fun n B hn hM h2 hBk K => ?_⟩
    · obtain ⟨n, rfl⟩ : ∃ n', n = n' + 1 := ⟨n - 1, by omega⟩
      obtain ⟨A1, p1, p2, p3⟩ := op_pass (ra := ro) (rb := rb) (L := L) hro hro2 hD hk hw he9 (by omega) h6 hAk hC
      obtain ⟨A2, q1, q2, q3⟩ := o2 n A1 (by omega) rfl p2 (by rw [p3 _ _ (by omega)]; exact h6) (fun d hd => by rw [p3 _ _ (by omega)]; exact hAk d hd) K
      refine ⟨A2, ?_, q2, fun a k h => (q3 a k h).trans (p3 a k h)⟩
      rw [fX9_year_25, if_neg (nI_ge (by omega) (by omega)), g_3_1, g_3_7, sv sn_6, m_bind_some p1]
      unfold m_let
      rw [nI_1]
      exact q1
    · obtain ⟨n, rfl⟩ : ∃ n', n = n' + 1 := ⟨n - 1, by omega⟩
      obtain ⟨B1, p1, p2, p3⟩ := mo_pass (ra := ro) (rb := rb) (L := L) hD hk hw he9 (by omega) h2 hBk hM
      obtain ⟨B2, q1, q2, q3⟩ := o3 n B1 (by omega) p2 (by rw [p3 _ _ (by omega)]; exact h2) (fun d hd => by rw [p3 _ _ (by omega)]; exact hBk d hd) K
      refine ⟨B2, ?_, q2, fun a k h => (q3 a k h).trans (p3 a k h)⟩
      rw [fX10_year_18, if_neg (nI_ge (by omega) (by omega)), v_137, m_bind_some p1]
      unfold m_let
      rw [nI_1]
      exact q1
theorem q_hasCongress {ra rb L C : Nat} {I : cM} (hr : c_rl ra) (hC : I ra 5 = nI C) (hC7 : C ≤ 7) : pX9_hasCongress 3 (hp ra rb L I) = some (if C = 0 then 0 else 1, hp ra rb L I) := by
  rw [pX9_hasCongress, g_3_7, rg_5 hr, hC]
  by_cases h : C = 0
  · rw [if_pos h, if_pos (show nI C ≤ 0 by rw [h]; decide)]
    rfl
  · rw [if_neg h, if_neg (nI_nle (by omega) (by omega))]
    rfl
/-- both refuse years alike; where neither does, what is asked is in bounds -/
theorem years_ref {ra rb L C y : Nat} {I : cM} {x : Int32} (hr : c_rl ra) (hC : I ra 5 = nI C) (hC2 : I 137 0 = nI C) (hC7 : C ≤ 7) (hy : I 6 5 = nI y) (hy2 : I 142 33 = nI y) (hy3 : y ≤ 9060) : (∃ r : Int32, r ≠ 0 ∧ pX9_refusalOfYears 3 x (hp ra rb L I) = some (r, hp ra rb L I) ∧ ∀ J : cM, J 137 0 = nI C → J 142 33 = nI y → pX10_yearsRefused 137 x (hp ra rb L J) = some (r, hp ra rb L J)) ∨ (∃ n, 1 ≤ n ∧ n ≤ 60 ∧ x = nI n ∧ 0 < C ∧ y ≤ 9000 ∧ pX9_refusalOfYears 3 x (hp ra rb L I) = some (0, hp ra rb L I) ∧ ∀ J : cM, J 137 0 = nI C → J 142 33 = nI y → pX10_yearsRefused 137 x (hp ra rb L J) = some (0, hp ra rb L J)) := by
  have e33 : (33 : Int32) = nI 33 := rfl
  by_cases h1 : x < 1
  · refine Or.inl ⟨-1000000002, by decide, ?_, fun J _ _ => ?_⟩
    · rw [pX9_refusalOfYears, if_pos h1]
      rfl
    · have i0 : pX10_in x.toInt64 1 60 (hp ra rb L J) = some (0, hp ra rb L J) := c_in_f (a := 1) (b := 60) (Or.inl h1)
      rw [pX10_yearsRefused, m_bind_some i0]
      rfl
  by_cases h6 : x ≤ 60
  · have h0 : ¬ x < 0 := fun q => h1 (by rw [t_lt] at *; have : (0 : Int32).toInt = 0 := by decide
                                         have : (1 : Int32).toInt = 1 := by decide
                                         omega)
    obtain ⟨n, hn, rfl⟩ := nI_of2 (M := 60) (n := 60) (by decide) h0 h6
    have hn1 : 1 ≤ n := by
      refine Nat.not_lt.mp fun q => h1 ?_
      have : n = 0 := by omega
      rw [this]
      decide
    have i1 : ∀ J : cM, pX10_in (nI n).toInt64 1 60 (hp ra rb L J) = some (1, hp ra rb L J) := fun J => c_in_t (a := 1) (b := 60) (Int32.not_lt.mp h1) h6
    by_cases hc : C = 0
    · refine Or.inl ⟨-1000000003, by decide, ?_, fun J j1 j2 => ?_⟩
      · rw [pX9_refusalOfYears, if_neg h1, if_pos h6, v_3, m_bind_some (q_hasCongress hr hC hC7), if_pos hc]
        rfl
      · rw [pX10_yearsRefused, m_bind_some (i1 J), if_neg ne10, g_137_0, j1, hc, if_pos (show nI 0 = 0 from rfl)]
        rfl
    · have hc2 : ¬ nI C = 0 := nI_ne0 (by omega) (by omega)
      by_cases h9 : y ≤ 9000
      · refine Or.inr ⟨n, hn1, hn, rfl, by omega, h9, ?_, fun J j1 j2 => ?_⟩
        · rw [pX9_refusalOfYears, if_neg h1, if_pos h6, v_3, m_bind_some (q_hasCongress hr hC hC7), if_neg hc, if_neg ne10, g_3_1, sg_5 sn_6, hy, if_pos (show nI y ≤ 9000 from nI_le (b := 9000) h9 (by decide))]
          rfl
        · rw [pX10_yearsRefused, m_bind_some (i1 J), if_neg ne10, g_137_0, j1, if_neg hc2, g_137_8, e33, l_142 (by decide), j2, if_pos (show nI y ≤ 9000 from nI_le (b := 9000) h9 (by decide))]
          rfl
      · refine Or.inl ⟨-1000000004, by decide, ?_, fun J j1 j2 => ?_⟩
        · rw [pX9_refusalOfYears, if_neg h1, if_pos h6, v_3, m_bind_some (q_hasCongress hr hC hC7), if_neg hc, if_neg ne10, g_3_1, sg_5 sn_6, hy, if_neg (show ¬ nI y ≤ 9000 from nI_ge (a := 9000) (by omega) (by omega))]
          rfl
        · rw [pX10_yearsRefused, m_bind_some (i1 J), if_neg ne10, g_137_0, j1, if_neg hc2, g_137_8, e33, l_142 (by decide), j2, if_neg (show ¬ nI y ≤ 9000 from nI_ge (a := 9000) (by omega) (by omega))]
          rfl
  · refine Or.inl ⟨-1000000002, by decide, ?_, fun J _ _ => ?_⟩
    · rw [pX9_refusalOfYears, if_neg h1, if_neg h6]
      rfl
    · have i0 : pX10_in x.toInt64 1 60 (hp ra rb L J) = some (0, hp ra rb L J) := c_in_f (a := 1) (b := 60) (Or.inr (Int32.not_le.mp h6))
      rw [pX10_yearsRefused, m_bind_some i0]
      rfl
theorem pr_year (L : Nat) (xs : Nat → Int32) (hL : L ≤ 192) (x : Int32) : Pr L xs (pX9_year 3 x) (pX10_year 137 x) := by
  intro ra rb I hR
  have hR0 := hR
  obtain ⟨C, D, v, kd, hm, pt, q, hab, hRo, hT, hN, ⟨z, nx, hP⟩, hI, hB, ⟨ch, hS⟩, hX⟩ := hR
  have hD : D ≤ 8 := hRo.2.2.1
  have hr := hab.rl
  have hra : 100 < ra := by rcases hab with h | h <;> omega
  obtain ⟨r1, r2, r3, r4, r5, r6, r7, r8, r9, r10, r11, -⟩ := id hRo
  obtain ⟨t, s, w, e, u, yy, au, he, hc1, hm1, hok⟩ := scn_to hN
  obtain ⟨p1, p2, p3, p4, p5, -⟩ := id hP
  rcases years_ref (ra := ra) (rb := rb) (L := L) (x := x) hr r5 r6 r1 hc1.2.2.2.2.2.1 hm1.2.2.2.2.2.1 hok.2.2 with ⟨r, hr0, h1, h2⟩ | ⟨n, hn1, hn, rfl, hC0, hy9, h1, h2⟩
  · refine ⟨r, ra, rb, I, I, ?_, hX.2.2, ?_, hR0⟩
    · rw [pX9_year, v_3, m_bind_some h1, if_neg hr0]
      rfl
    · rw [pX10_year, v_137, m_bind_some (h2 I r6 hm1.2.2.2.2.2.1), if_neg hr0]
      rfl
  · obtain ⟨w', e', o1, o2, o3⟩ := year_loops (rb := rb) (L := L) (C := C) (t := t) (s := s) (u := u) (au := au) (he := he) hr hra hD (fun d hd => (r10 d hd).1) n hn n 0 w e yy (by omega) (by omega) hok
    obtain ⟨A, a1, a2, a3⟩ := o2 c_fu (crem I nx z) (by show n < 1000; omega) rfl (cn_rem hc1 p2) (by rw [crem_o p2 (by omega)]; exact r7) (fun d hd => by rw [crem_o p2 (by omega)]; exact (r10 d hd).2.1) fX9_year_47
    have hA : ∀ a k, 136 < a → A a k = I a k := fun a k h => by rw [a3 a k (by omega), crem_o p2 (by omega)]
    obtain ⟨B, b1, b2, b3⟩ := o3 c_fu (mrem A z) (by show n < 1000; omega) (mn_rem hm1 (fun k => hA 142 k (by decide))) (by rw [mrem_o (by decide) (by decide), hA _ _ (by decide)]; exact r8) (fun d hd => by rw [mrem_o (by decide) (by omega), hA _ _ (by decide)]; exact (r10 d hd).2.2) fX10_year_33
    refine ⟨nI (yy + n), ra, rb, A, B, ?_, ?_, ?_, ?_⟩
    · rw [pX9_year, v_3, m_bind_some h1, if_pos rfl, g_3_2, g_3_1, v_11, m_bind_some (q_remember p3 p4 p2 p1)]
      show fX9_year_25 fX9_year_47 c_fu 3 (nI n) (nI 0) (hp ra rb L (crem I nx z)) = _
      rw [a1, fX9_year_47, g_3_1, sg_5 sn_6, a2.2.2.2.2.2.1]
      rfl
    · funext k
      rw [a3 _ _ (by decide), crem_o p2 (by decide)]
      exact congrFun hX.2.2 k
    · have e33 : (33 : Int32) = nI 33 := rfl
      rw [pX10_year, v_137, m_bind_some (h2 A (by rw [hA _ _ (by decide)]; exact r6) (by rw [hA _ _ (by decide)]; exact hm1.2.2.2.2.2.1)), if_pos rfl, v_137, m_bind_some (q_mrem (by rw [hA _ _ (by decide)]; exact p5) p1)]
      show fX10_year_18 fX10_year_33 c_fu 137 (nI n) (nI 0) (hp ra rb L (mrem A z)) = _
      rw [b1, fX10_year_33, g_137_8, e33, l_142 (by decide), b2.2.2.2.2.2.1]
      rfl
    · exact deed_fin hab hRo hT hN hP hI hB hX (fun a k h1 _ => a3 a k h1) a2 (fun a k h1 _ => b3 a k h1) b2 o1 hS.1 (by rw [a3 _ _ (by decide), crem_o p2 (by decide)]; exact hS.2.1) (by rw [b3 _ _ (by decide), mrem_o (by decide) (by decide), hA _ _ (by decide)]; exact hS.2.2)
