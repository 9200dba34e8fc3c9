/-! a year passes, in the class and in the model -/
def gn (k y : Nat) : Nat := if k = 0 then 1 else if k = 2 then 3 else if k = 3 then (if y % 2 = 0 then 2 else 0) else 0
def wn (k : Nat) (b : Int32) (w y : Nat) : Nat := if b = 0 then w - 1 else min (w + gn k y) 99
def en (k : Nat) (b : Int32) (w e : Nat) : Nat := if k = 2 ∧ b ≠ 0 ∧ 20 ≤ w ∧ e < 999999 then e + 1 else e
def ub (u d : Nat) : Int32 := (nI u >>> (nI d &&& 31)) &&& 1
theorem ub01 (u d : Nat) : ub u d = 0 ∨ ub u d = 1 := b01 _
theorem gn_le (k y : Nat) : gn k y ≤ 3 := by
  unfold gn
  split
  · omega
  · split
    · omega
    · split
      · split <;> omega
      · omega
theorem wn_le {k : Nat} {b : Int32} {w y : Nat} (h : w ≤ 99) : wn k b w y ≤ 99 := by
  unfold wn
  split
  · omega
  · exact Nat.min_le_right _ _
theorem en_le {k : Nat} {b : Int32} {w e : Nat} (h : e ≤ 999999) : en k b w e ≤ 999999 := by
  unfold en
  split
  · omega
  · exact h
theorem even_n {y : Nat} (hy : y < 2 ^ 31) : (nI y - nI y / 2 * 2 = 0) ↔ y % 2 = 0 := by
  have h : nI y - nI y / 2 * 2 = nI (y % 2) := nI_mod (d := 2) hy (by decide) (by decide)
  rw [h]
  have : y % 2 < 2 := Nat.mod_lt _ (by decide)
  constructor
  · intro e
    exact (nI_eq (by omega) (by decide)).mp (show nI (y % 2) = nI 0 from e)
  · intro e
    rw [e]
    rfl
theorem q_warmthNext {σ : cH} {k w y : Nat} {b : Int32} (hk : k ≤ 3) (hw : w ≤ 99) (hy : y < 2 ^ 31) : pX5_warmthNext (nI k) b (nI w) (nI y) σ = some (nI (wn k b w y), σ) := by
  rw [pX5_warmthNext]
  unfold wn
  by_cases hb : b = 0
  · rw [if_pos hb, if_pos hb]
    show some (c_mx (nI w - 1) 0, σ) = _
    congr 2
    by_cases h0 : w = 0
    · subst h0
      decide
    · rw [show nI w - 1 = nI (w - 1) from pk_sub (b := 1) (by omega)]
      have := c_mx_n (a := w - 1) (b := 0) (by omega) (by decide)
      rw [Nat.max_eq_left (by omega)] at this
      exact this
  · rw [if_neg hb, if_neg hb]
    have fin : ∀ g : Nat, g ≤ 3 → fX5_warmthNext_76 (nI w) (nI g) σ = some (nI (min (w + g) 99), σ) := by
      intro g hg
      rw [fX5_warmthNext_76]
      show some (c_mn (nI w + nI g) (nI 99), σ) = _
      rw [nI_add, c_mn_n (by omega) (by decide)]
    match k, hk with
    | 0, _ => exact fin 1 (by decide)
    | 1, _ => exact fin 0 (by decide)
    | 2, _ => exact fin 3 (by decide)
    | 3, _ =>
      rw [if_neg (show ¬ nI 3 = 0 by decide), if_neg (show ¬ nI 3 = 1 by decide), if_neg (show ¬ nI 3 = 2 by decide), if_pos (show nI 3 = 3 from rfl)]
      unfold m_nz
      rw [if_neg (by decide)]
      by_cases he : y % 2 = 0
      · rw [if_pos ((even_n hy).mpr he), fX5_warmthNext_71]
        have h := fin 2 (by decide)
        have e : gn 3 y = 2 := by simp [gn, he]
        rw [e]
        exact h
      · rw [if_neg (fun q => he ((even_n hy).mp q)), fX5_warmthNext_71]
        have h := fin 0 (by decide)
        have e : gn 3 y = 0 := by simp [gn, he]
        rw [e]
        exact h
def wj (kd : Nat → Nat) (u y : Nat) (w : Nat → Nat) (j : Nat) : Nat → Nat := fun d => if d < j then wn (kd d) (ub u d) (w d) y else w d
def ej (kd : Nat → Nat) (u y : Nat) (w e : Nat → Nat) (j : Nat) : Nat → Nat := fun d => if d < j then en (kd d) (ub u d) (wn (kd d) (ub u d) (w d) y) (e d) else e d
theorem wj_s {kd : Nat → Nat} {u y : Nat} {w : Nat → Nat} {j d : Nat} (h : d ≠ j) : wj kd u y w (j + 1) d = wj kd u y w j d := by
  unfold wj
  by_cases h1 : d < j
  · rw [if_pos h1, if_pos (by omega)]
  · rw [if_neg h1, if_neg (by omega)]
theorem ej_s {kd : Nat → Nat} {u y : Nat} {w e : Nat → Nat} {j d : Nat} (h : d ≠ j) : ej kd u y w e (j + 1) d = ej kd u y w e j d := by
  unfold ej
  by_cases h1 : d < j
  · rw [if_pos h1, if_pos (by omega)]
  · rw [if_neg h1, if_neg (by omega)]
theorem wj_e {kd : Nat → Nat} {u y : Nat} {w : Nat → Nat} {j : Nat} : wj kd u y w j j = w j := by
  unfold wj
  rw [if_neg (by omega)]
theorem wj_n {kd : Nat → Nat} {u y : Nat} {w : Nat → Nat} {j : Nat} : wj kd u y w (j + 1) j = wn (kd j) (ub u j) (w j) y := by
  unfold wj
  rw [if_pos (by omega)]
theorem ej_e {kd : Nat → Nat} {u y : Nat} {w e : Nat → Nat} {j : Nat} : ej kd u y w e j j = e j := by
  unfold ej
  rw [if_neg (by omega)]
theorem ej_n {kd : Nat → Nat} {u y : Nat} {w e : Nat → Nat} {j : Nat} : ej kd u y w e (j + 1) j = en (kd j) (ub u j) (wn (kd j) (ub u j) (w j) y) (e j) := by
  unfold ej
  rw [if_pos (by omega)]
theorem op_pass_loop {ra rb L ro D : Nat} {kd t s w e : Nat → Nat} {u y : Nat} {au he : Int32} {K : Nat → MM Unit} (hro : c_rl ro) (hro2 : 100 < ro) (hD : D ≤ 8) (hk : ∀ d, d < D → kd d ≤ 3) (hw : ∀ d, d < D → w d ≤ 99) (he9 : ∀ d, d < D → e d ≤ 999999) (hy : y < 2 ^ 30) : ∀ (n j : Nat) (A : cM), j ≤ D → D < j + n → A ro 6 = nI D → (∀ d, d < D → A (ro + 2) d = nI (kd d)) → CN A D t s (wj kd u y w j) (ej kd u y w e j) u y au he → ∃ A', fX5_passYear_2 K n 6 ro (nI j) (hp ra rb L A) = K 6 (hp ra rb L A') ∧ CN A' D t s (wj kd u y w D) (ej kd u y w e D) u y au he ∧ ∀ a k, (a < 6 ∨ 10 < a) → A' a k = A a k := by
  intro n
  induction n with
  | zero =>
    intro j A h1 h2
    omega
  | succ n ih =>
    intro j A h1 h2 hA6 hAk hC
    rw [fX5_passYear_2, rg_6 hro, hA6]
    by_cases hj : j < D
    · obtain ⟨a1, a2, a3, a4, a5, a6, a7, a8⟩ := id hC
      have hj8 : j < 8 := by omega
      rw [if_neg (nI_ge hj (by omega)), sg_2 sn_6, rg_1 hro, rl_2 hro hj8, hAk j hj, sv sn_6, m_bind_some (q_isUp sn_6 _), sg_2 sn_6, sl_3 sn_6 hj8, a3 j hj, wj_e, sg_5 sn_6, a6, m_bind_some (q_warmthNext (hk j hj) (hw j hj) (by omega)), a5, ss_3 sn_6 hj8, rg_1 hro, rl_2 hro hj8, u2_na _ _ (by omega), hAk j hj]
      obtain ⟨b, hbd⟩ : ∃ b, b = ub u j := ⟨_, rfl⟩
      obtain ⟨W, hW⟩ : ∃ W, W = wn (kd j) (ub u j) (w j) y := ⟨_, rfl⟩
      rw [show (nI u >>> (nI j &&& 31)) &&& 1 = ub u j from rfl, ← hW]
      have hW99 : W ≤ 99 := by rw [hW]; exact wn_le (hw j hj)
      obtain ⟨A1, hA1⟩ : ∃ A1, A1 = u2 A (6 + 3) j (nI W) := ⟨_, rfl⟩
      rw [← hA1]
      have hC1 : CN A1 D t s (wj kd u y w (j + 1)) (ej kd u y w e j) u y au he := by
        rw [hA1]
        refine ⟨fun d hd => ?_, fun d hd => ?_, fun d hd => ?_, fun d hd => ?_, ?_, ?_, ?_, ?_⟩
        · rw [u2_na _ _ (by decide)]; exact a1 d hd
        · rw [u2_na _ _ (by decide)]; exact a2 d hd
        · by_cases hdj : d = j
          · rw [hdj, u2_s, wj_n, hW]
          · rw [u2_nk _ _ hdj, wj_s hdj]; exact a3 d hd
        · rw [u2_na _ _ (by decide)]; exact a4 d hd
        · rw [u2_na _ _ (by decide)]; exact a5
        · rw [u2_na _ _ (by decide)]; exact a6
        · rw [u2_na _ _ (by decide)]; exact a7
        · rw [u2_na _ _ (by decide)]; exact a8
      have fr1 : ∀ a k, (a < 6 ∨ 10 < a) → A1 a k = A a k := fun a k h => by rw [hA1, u2_na _ _ (by omega)]
      have hE : e j ≤ 999999 := he9 j hj
      have go : ∀ A2 : cM, CN A2 D t s (wj kd u y w (j + 1)) (ej kd u y w e (j + 1)) u y au he → (∀ a k, (a < 6 ∨ 10 < a) → A2 a k = A a k) → ∃ A', fX5_passYear_100 (fX5_passYear_2 K n) 6 ro (nI j) (hp ra rb L A2) = K 6 (hp ra rb L A') ∧ CN A' D t s (wj kd u y w D) (ej kd u y w e D) u y au he ∧ ∀ a k, (a < 6 ∨ 10 < a) → A' a k = A a k := by
        intro A2 hC2 fr2
        obtain ⟨A', g1, g2, g3⟩ := ih (j + 1) A2 (by omega) (by omega) (by rw [fr2 _ _ (by omega)]; exact hA6) (fun d hd => by rw [fr2 _ _ (by omega)]; exact hAk d hd) hC2
        refine ⟨A', ?_, g2, fun a k h => (g3 a k h).trans (fr2 a k h)⟩
        rw [fX5_passYear_100]
        unfold m_let
        rw [nI_1]
        exact g1
      have no : en (kd j) (ub u j) W (e j) = e j → CN A1 D t s (wj kd u y w (j + 1)) (ej kd u y w e (j + 1)) u y au he := by
        intro hno
        obtain ⟨c1, c2, c3, c4, c5⟩ := hC1
        refine ⟨c1, c2, c3, fun d hd => ?_, c5⟩
        by_cases hdj : d = j
        · rw [hdj, ej_n, ← hW, hno, c4 j hj, ej_e]
        · rw [ej_s hdj]; exact c4 d hd
      have nk : ∀ {k2 : Nat → Nat → Int32 → MM Unit}, fX5_passYear_73 (fX5_passYear_74 k2) 6 ro (nI j) = fX5_passYear_100 k2 6 ro (nI j) := by
        intro k2
        rw [fX5_passYear_73, fX5_passYear_74, if_pos rfl]
      by_cases hk2 : kd j = 2
      · rw [if_pos (show nI (kd j) = 2 by rw [hk2]; rfl), sv sn_6, m_bind_some (q_isUp sn_6 _), hC1.2.2.2.2.1, show (nI u >>> (nI j &&& 31)) &&& 1 = ub u j from rfl]
        by_cases hb0 : ub u j = 0
        · rw [if_pos hb0, nk]
          exact go A1 (no (by unfold en; rw [if_neg (fun q => q.2.1 hb0)])) fr1
        · rw [if_neg hb0, sg_2 sn_6, sl_3 sn_6 hj8, hC1.2.2.1 j hj, wj_n, ← hW]
          by_cases h20 : W < 20
          · rw [if_pos (show nI W < 20 from nI_lt (b := 20) h20 (by decide)), nk]
            exact go A1 (no (by unfold en; rw [if_neg (fun q => by omega)])) fr1
          · rw [if_neg (show ¬ nI W < 20 from nI_nlt (b := 20) (by omega) (by omega)), fX5_passYear_74, if_neg ne10, sg_3 sn_6, sl_4 sn_6 hj8, hC1.2.2.2.1 j hj, ej_e]
            by_cases h9 : e j < 999999
            · rw [if_neg (show ¬ (999999 : Int32) ≤ nI (e j) from nI_ge (b := 999999) h9 (by decide)), sg_3 sn_6, sl_4 sn_6 hj8, hC1.2.2.2.1 j hj, ej_e, ss_4 sn_6 hj8, nI_1]
              refine go _ ?_ (fun a k h => by rw [u2_na _ _ (by omega)]; exact fr1 a k h)
              obtain ⟨c1, c2, c3, c4, c5, c6, c7, c8⟩ := hC1
              refine ⟨fun d hd => ?_, fun d hd => ?_, fun d hd => ?_, fun d hd => ?_, ?_, ?_, ?_, ?_⟩
              · rw [u2_na _ _ (by decide)]; exact c1 d hd
              · rw [u2_na _ _ (by decide)]; exact c2 d hd
              · rw [u2_na _ _ (by decide)]; exact c3 d hd
              · by_cases hdj : d = j
                · rw [hdj, u2_s, ej_n, ← hW]
                  unfold en
                  rw [if_pos ⟨hk2, hb0, by omega, h9⟩]
                · rw [u2_nk _ _ hdj, ej_s hdj]; exact c4 d hd
              · rw [u2_na _ _ (by decide)]; exact c5
              · rw [u2_na _ _ (by decide)]; exact c6
              · rw [u2_na _ _ (by decide)]; exact c7
              · rw [u2_na _ _ (by decide)]; exact c8
            · rw [if_pos (show (999999 : Int32) ≤ nI (e j) from nI_le (a := 999999) (by omega) (by omega))]
              exact go A1 (no (by unfold en; rw [if_neg (fun q => h9 q.2.2.2)])) fr1
      · rw [if_neg (show ¬ nI (kd j) = 2 from fun q => hk2 ((nI_eq (by have := hk j hj; omega) (by decide)).mp (show nI (kd j) = nI 2 from q))), nk]
        exact go A1 (no (by unfold en; rw [if_neg (fun q => hk2 q.1)])) fr1
    · have : j = D := by omega
      subst this
      rw [if_pos (nI_le (by omega) (by omega))]
      exact ⟨A, rfl, hC, fun _ _ _ => rfl⟩
