/-! a clause, in class and model -/
section Z3
variable {ra rb L : Nat} {A A' A0 B B' B0 : cM} {T : Nat} {tx : Nat → Nat} {p p' C D : Nat} {v kd hm sg : Nat → Nat} {pt q : Nat} {hpt hq : Bool}
/-- the model's doll clause behind its letter -/
theorem dollM (hT : T ≤ 240) (htx : ∀ j, j < T → tx j < 256) (hp1 : p < T) (hC0 : 1 ≤ C) (hC : C ≤ 7) (hD : D < 8) (h : GM B B0 T tx (p + 1) C D v kd hm sg pt hpt q) {n1 n2 n3 p1 p2 p3 : Nat} (e1 : n1 = nc T tx 0 3 (p + 1)) (e2 : p1 = pe T tx (p + 1)) (e3 : n2 = nc T tx 0 (C - 1) p1) (e4 : p2 = pe T tx p1) (e5 : n3 = nc T tx 0 63 p2) (e6 : p3 = pe T tx p2) :
    (n1 = 0 → n2 = 0 → n3 = 0 → ∃ B', pX10_takeDoll 137 (hp ra rb L B) = some (0, hp ra rb L B') ∧ GM B' B0 T tx p3 C (D + 1) v (up1 kd D (val T tx (p + 1))) (up1 hm D (val T tx p1)) (up1 sg D (val T tx p2)) pt hpt q) ∧ (n1 ≠ 0 → ∃ B', pX10_takeDoll 137 (hp ra rb L B) = some (nI n1, hp ra rb L B') ∧ FM B' B0 (sk T tx (p + 1))) ∧ (n1 = 0 → n2 ≠ 0 → ∃ B', pX10_takeDoll 137 (hp ra rb L B) = some (nI n2, hp ra rb L B') ∧ FM B' B0 (sk T tx p1)) ∧ (n1 = 0 → n2 = 0 → n3 ≠ 0 → ∃ B', pX10_takeDoll 137 (hp ra rb L B) = some (nI n3, hp ra rb L B') ∧ FM B' B0 (sk T tx p2)) := by
  have l1 : n1 ≤ 2 := by rw [e1]; exact nc_le _ _ _
  have l2 : n2 ≤ 2 := by rw [e3]; exact nc_le _ _ _
  have l3 : n3 ≤ 2 := by rw [e5]; exact nc_le _ _ _
  have b1 : p1 ≤ T := by rw [e2]; exact (pe_b (by omega)).2.1
  have b2 : p2 ≤ T := by rw [e4]; exact (pe_b b1).2.1
  have eC : nI C - 1 = nI (C - 1) := pk_sub (a := C) (b := 1) hC0
  obtain ⟨h1, h2, h3, h4, h5, h6, ⟨h7, h8, h9⟩, h10⟩ := h
  obtain ⟨B1, hB1⟩ : ∃ B1, B1 = u2 B 137 18 (nI (D + 1)) := ⟨_, rfl⟩
  have f1 : ∀ a k, ¬ (a = 137 ∧ k = 18) → B1 a k = B a k := fun a k b => by rw [hB1, u2_n _ _ b]
  have t1 : TM B1 T tx (p + 1) := h1.fr (f1 _ _ (by decide)) (f1 _ _ (by decide)) (fun k => f1 _ _ (by omega))
  obtain ⟨B2, i1, i2, i3, i4, i5⟩ := into_m (ra := ra) (rb := rb) (L := L) hT htx t1 (by omega) (lo := 0) (hi := 3) (a := 145) (k := D) (by decide) (by decide) (by decide) (fun _ _ _ => s_145 hD)
  rw [← e1] at i1 i4 i5
  rw [← e2] at i2
  have pre : pX10_takeDoll 137 (hp ra rb L B) = (if nI n1 ≤ 0 then (m_gr 137 9 20 (fun a5 => m_gi 137 9 16 (fun x6 => m_cv 137 9 (pX10_into 137 a5 (nI D) (0 : Int32) (x6 - 1)) (fun x7 => fX10_takeDoll_51 137 (nI D) x7)))) else (fX10_takeDoll_51 137 (nI D) (nI n1))) (hp ra rb L B2) := by
    rw [pX10_takeDoll, g_137_18, h4, g_137_18, h4, nI_1, p_137_18, ← hB1, g_137_19, v_137]
    exact m_bind_some i1
  have c16 : B2 137 16 = nI C := by rw [i3 _ _ (by decide) (by omega), f1 _ _ (by decide)]; exact h3
  obtain ⟨B3, j1, j2, j3, j4, j5⟩ := into_m (ra := ra) (rb := rb) (L := L) hT htx i2 b1 (lo := 0) (hi := C - 1) (a := 146) (k := D) (by decide) (by omega) (by decide) (fun _ _ _ => s_146 hD)
  rw [← e3] at j1 j4 j5
  rw [← e4] at j2
  have pre2 : n1 = 0 → pX10_takeDoll 137 (hp ra rb L B) = fX10_takeDoll_51 137 (nI D) (nI n2) (hp ra rb L B3) := by
    intro z
    rw [pre, z, if_pos (show nI 0 ≤ 0 by decide), g_137_20, g_137_16, c16, eC, v_137]
    exact m_bind_some j1
  obtain ⟨B4, k1, k2, k3, k4, k5⟩ := into_m (ra := ra) (rb := rb) (L := L) hT htx j2 b2 (lo := 0) (hi := 63) (a := 147) (k := D) (by decide) (by decide) (by decide) (fun _ _ _ => s_147 hD)
  rw [← e5] at k1 k4 k5
  rw [← e6] at k2
  have pre3 : n1 = 0 → n2 = 0 → pX10_takeDoll 137 (hp ra rb L B) = some (nI n3, hp ra rb L B4) := by
    intro z1 z2
    rw [pre2 z1, z2, fX10_takeDoll_51, if_pos (show nI 0 ≤ 0 by decide), g_137_21, v_137]
    exact (m_bind_some k1).trans rfl
  have F2 : frM B2 B0 := fun a k b1 b2 => by
    rw [i3 a k (by omega) (by omega), f1 a k (by omega)]; exact h10 a k b1 b2
  have F3 : frM B3 B0 := fun a k b1 b2 => by
    rw [j3 a k (by omega) (by omega)]; exact F2 a k b1 b2
  have F4 : frM B4 B0 := fun a k b1 b2 => by
    rw [k3 a k (by omega) (by omega)]; exact F3 a k b1 b2
  have all : ∀ a k, ¬ (a = 137 ∧ (12 ≤ k ∧ k ≤ 15 ∨ k = 18)) → ¬ (145 ≤ a ∧ a ≤ 147 ∧ k = D) → B4 a k = B a k := fun a k c1 c2 => by
    rw [k3 a k (by omega) (by omega), j3 a k (by omega) (by omega), i3 a k (by omega) (by omega), f1 a k (by omega)]
  refine ⟨fun z1 z2 z3 => ⟨B4, ?_, k2, ?_, ?_, ?_, fun c hc => ?_, fun d hd => ?_, ⟨?_, ?_, ?_⟩, F4⟩, fun z1 => ⟨B2, ?_, i5 z1, F2⟩, fun z1 z2 => ⟨B3, ?_, j5 z2, F3⟩, fun z1 z2 z3 => ⟨B4, pre3 z1 z2, k5 z3, F4⟩⟩
  · rw [pre3 z1 z2, z3]
    rfl
  · rw [(k4 z3).2, (j4 z2).2, (i4 z1).2, f1 _ _ (by decide)]; exact h2
  · rw [all _ _ (by decide) (by omega)]; exact h3
  · rw [k3 _ _ (by decide) (by omega), j3 _ _ (by decide) (by omega), i3 _ _ (by decide) (by omega), hB1, u2_s]
  · rw [all _ _ (by omega) (by omega)]; exact h5 c hc
  · unfold up1
    by_cases hq : d = D
    · rw [if_pos hq, if_pos hq, if_pos hq, hq]
      refine ⟨?_, ?_, (k4 z3).1⟩
      · rw [k3 _ _ (by omega) (by omega), j3 _ _ (by omega) (by omega)]; exact (i4 z1).1
      · rw [k3 _ _ (by omega) (by omega)]; exact (j4 z2).1
    · rw [if_neg hq, if_neg hq, if_neg hq, all _ _ (by omega) (by omega), all _ _ (by omega) (by omega), all _ _ (by omega) (by omega)]
      exact h6 d (by omega)
  · rw [all _ _ (by decide) (by omega)]; exact h7
  · rw [all _ _ (by decide) (by omega)]; exact h8
  · rw [all _ _ (by decide) (by omega)]; exact h9
  · rw [pre, if_neg (show ¬ nI n1 ≤ 0 from nI_ge (a := 0) (by omega) (by omega)), fX10_takeDoll_51, if_neg (show ¬ nI n1 ≤ 0 from nI_ge (a := 0) (by omega) (by omega))]
    rfl
  · rw [pre2 z1, fX10_takeDoll_51, if_neg (show ¬ nI n2 ≤ 0 from nI_ge (a := 0) (by omega) (by omega))]
    rfl
/-- the model's part of a clause behind its letter: what is full, the letter, the rest -/
theorem isF0 (h : B 137 16 = nI C) (hC : C ≤ 7) : pX10_isFull 137 0 (hp ra rb L B) = some (bi (decide (0 < C)), hp ra rb L B) := by
  rw [pX10_isFull, if_pos rfl, g_137_16, h]
  by_cases hz : C = 0
  · subst hz
    rfl
  · rw [if_neg (show ¬ nI C ≤ 0 from nI_ge (a := 0) (by omega) (by omega)), show decide (0 < C) = true from decide_eq_true (by omega)]
    rfl
theorem isF1 (h : B 137 18 = nI D) (hD : D ≤ 8) : pX10_isFull 137 1 (hp ra rb L B) = some (bi (decide (D = 8)), hp ra rb L B) := by
  rw [pX10_isFull, if_neg ne10, if_pos rfl, g_137_18, h]
  by_cases hz : D = 8
  · subst hz
    rfl
  · rw [if_neg (show ¬ nI D = 8 from n_ne (b := 8) (by omega) (by decide) hz), show decide (D = 8) = false from decide_eq_false hz]
    rfl
theorem isF2 (h : B 137 22 = bi hpt) : pX10_isFull 137 2 (hp ra rb L B) = some (bi hpt, hp ra rb L B) := by
  rw [pX10_isFull, if_neg (by decide), if_neg (by decide), if_pos rfl, g_137_22, h]
  cases hpt <;> rfl
theorem isF3 (h : B 137 24 = nI q) (hq : q ≤ 63) : pX10_isFull 137 3 (hp ra rb L B) = some (bi (decide (1 ≤ q)), hp ra rb L B) := by
  rw [pX10_isFull, if_neg (by decide), if_neg (by decide), if_neg (by decide), g_137_24, h]
  by_cases hz : q = 0
  · subst hz
    rfl
  · rw [if_neg (show ¬ nI q ≤ 0 from nI_ge (a := 0) (by omega) (by omega)), show decide (1 ≤ q) = true from decide_eq_true (by omega)]
    rfl
/-- too often -/
theorem full_c (hpT : p ≤ T) (h : GC A A0 rb T tx p C D v kd hm sg pt hpt q hq) (n : Nat) : ∃ A', m_gi 4 6 4 (fun x4 => m_cv 4 6 (pX7_fail 4 (nI n) x4) (fun _ => m_ret ())) (hp ra rb L A) = some ((), hp ra rb L A') ∧ FC A' A0 rb T tx n p := by
  obtain ⟨A', f1, f2⟩ := gc_fail (ra := ra) (L := L) h hpT n p
  refine ⟨A', ?_, f2⟩
  rw [g_4_4, h.1.2.1, v_4]
  exact (m_bind_some f1).trans rfl
theorem full_m (h : GM B B0 T tx p C D v kd hm sg pt hpt q) (n : Nat) : ∃ B', m_gi 137 9 13 (fun x7 => m_cv 137 9 (pX10_fails 137 (nI n) x7) (fun x8 => m_ret x8)) (hp ra rb L B) = some (nI n, hp ra rb L B') ∧ FM B' B0 p := by
  obtain ⟨f1, f2⟩ := gm_fail (ra := ra) (rb := rb) (L := L) h n p
  refine ⟨_, ?_, f2⟩
  rw [g_137_13, h.1.2.1, v_137]
  exact (m_bind_some f1).trans rfl
theorem two_doll (hr : c_rl rb) (hrb : 100 < rb) (hT : T ≤ 240) (htx : ∀ j, j < T → tx j < 256) (hp1 : p < T) (hC0 : 1 ≤ C) (ho : OKT C D v kd hm sg pt q hq) : Two ra rb L A0 T tx p C D v kd hm sg pt hpt q hq (pX7_readDoll 4 rb) (fX10_takeClause_72 137 1) := by
  obtain ⟨o1, o2, o3, o4, o5, o6, o7, o8, o9⟩ := ho
  by_cases hD : D = 8
  · refine Or.inr ⟨3, p, by decide, by decide, by omega, fun A h => ?_, fun B B0 ra rb h => ?_⟩
    · obtain ⟨A', f1, f2⟩ := full_c (ra := ra) (L := L) (by omega) h 3
      refine ⟨A', ?_, f2⟩
      rw [pX7_readDoll, rg_6 hr, h.2.2.2.2.1, if_neg (show ¬ nI D < 8 from nI_nlt (b := 8) (by omega) (by omega))]
      exact f1
    · obtain ⟨B', f1, f2⟩ := full_m (ra := ra) (rb := rb) (L := L) h 3
      refine ⟨B', ?_, f2⟩
      rw [fX10_takeClause_72, v_137, m_bind_some (isF1 h.2.2.2.1 o3), show decide (D = 8) = true from decide_eq_true hD, if_neg (show ¬ bi true = 0 by decide)]
      exact f1
  · obtain ⟨n1, e1⟩ : ∃ n1, n1 = nc T tx 0 3 (p + 1) := ⟨_, rfl⟩
    obtain ⟨p1, e2⟩ : ∃ p1, p1 = pe T tx (p + 1) := ⟨_, rfl⟩
    obtain ⟨n2, e3⟩ : ∃ n2, n2 = nc T tx 0 (C - 1) p1 := ⟨_, rfl⟩
    obtain ⟨p2, e4⟩ : ∃ p2, p2 = pe T tx p1 := ⟨_, rfl⟩
    obtain ⟨n3, e5⟩ : ∃ n3, n3 = nc T tx 0 63 p2 := ⟨_, rfl⟩
    obtain ⟨p3, e6⟩ : ∃ p3, p3 = pe T tx p2 := ⟨_, rfl⟩
    have l1 : n1 ≤ 2 := by rw [e1]; exact nc_le _ _ _
    have l2 : n2 ≤ 2 := by rw [e3]; exact nc_le _ _ _
    have l3 : n3 ≤ 2 := by rw [e5]; exact nc_le _ _ _
    have b0 := pe_b (T := T) (tx := tx) (p := p + 1) (by omega)
    rw [← e2] at b0
    have b1 := pe_b (tx := tx) b0.2.1
    rw [← e4] at b1
    have b2 := pe_b (tx := tx) b1.2.1
    rw [← e6] at b2
    have s0 := sk_b (T := T) (tx := tx) (p := p + 1) (by omega)
    have s1 := sk_b (tx := tx) b0.2.1
    have s2 := sk_b (tx := tx) b1.2.1
    have s3 := sk_b (tx := tx) b2.2.1
    have mp : ∀ (B B0 : cM) (ra rb : Nat), GM B B0 T tx p C D v kd hm sg pt hpt q → fX10_takeClause_72 137 1 (hp ra rb L B) = m_cv 137 9 (pX10_takeDoll 137) (fun x5 => fX10_takeClause_139 137 x5) (hp ra rb L (u2 B 137 13 (nI (p + 1)))) := by
      intro B B0 ra rb h
      rw [fX10_takeClause_72, v_137, m_bind_some (isF1 h.2.2.2.1 o3), show decide (D = 8) = false from decide_eq_false hD, if_pos (show bi false = 0 by decide), g_137_13, h.1.2.1, nI_1, p_137_13, if_neg ne10, if_pos rfl]
    have mF : ∀ (B B0 B1 : cM) (ra rb : Nat) (n w : Nat), 1 ≤ n → n ≤ 3 → GM B B0 T tx p C D v kd hm sg pt hpt q → pX10_takeDoll 137 (hp ra rb L (u2 B 137 13 (nI (p + 1)))) = some (nI n, hp ra rb L B1) → FM B1 B0 w → ∃ B', fX10_takeClause_72 137 1 (hp ra rb L B) = some (nI n, hp ra rb L B') ∧ FM B' B0 w := by
      intro B B0 B1 ra rb n w c1 c2 h k1 k2
      obtain ⟨B', f1, f2⟩ := fm_tail (ra := ra) (rb := rb) (L := L) c1 c2 k2
      refine ⟨B', ?_, f2⟩
      rw [mp B B0 ra rb h, v_137, m_bind_some k1]
      exact f1
    by_cases z1 : n1 = 0
    · by_cases z2 : n2 = 0
      · by_cases z3 : n3 = 0
        · by_cases h59 : lh T tx (sk T tx p3) = 59
          · have hlt : sk T tx p3 < T := ((lh_32 (c := 59) htx (by decide)).mp h59).1
            have y1 := nc_0 (e1 ▸ z1)
            have y2 := nc_0 (e3 ▸ z2)
            have y3 := nc_0 (e5 ▸ z3)
            refine Or.inl ⟨sk T tx p3 + 1, C, D + 1, v, up1 kd D (val T tx (p + 1)), up1 hm D (val T tx p1), up1 sg D (val T tx p2), pt, hpt, q, hq, by omega, by omega, ⟨o1, o2, by omega, fun z => by omega, o5, fun d hd => ?_, o7, o8, o9⟩, fun A h => ?_, fun B B0 ra rb h => ?_⟩
            · unfold up1
              by_cases hq : d = D
              · rw [if_pos hq, if_pos hq, if_pos hq]
                exact ⟨y1.2.1, by omega, by omega⟩
              · rw [if_neg hq, if_neg hq, if_neg hq]
                exact o6 d (by omega)
            · obtain ⟨A', k1, k2, -⟩ := dollC (ra := ra) (L := L) hr hrb hT htx hp1 hC0 o1 (by omega) h e1 e2 e3 e4 e5 e6
              exact ⟨A', k1, k2 z1 z2 z3 h59⟩
            · obtain ⟨B1, k1, k2⟩ := (dollM (ra := ra) (rb := rb) (L := L) hT htx hp1 hC0 o1 (by omega) (h.at (p + 1)) e1 e2 e3 e4 e5 e6).1 z1 z2 z3
              obtain ⟨B', f1, f2⟩ := (gm_tail (ra := ra) (rb := rb) (L := L) hT htx b2.2.1 k2).1 h59
              refine ⟨B', ?_, f2⟩
              rw [mp B B0 ra rb h, v_137, m_bind_some k1]
              exact f1
          · refine Or.inr ⟨1, sk T tx p3, by decide, by decide, s3.2, fun A h => ?_, fun B B0 ra rb h => ?_⟩
            · obtain ⟨A', k1, -, -, -, -, k2⟩ := dollC (ra := ra) (L := L) hr hrb hT htx hp1 hC0 o1 (by omega) h e1 e2 e3 e4 e5 e6
              exact ⟨A', k1, k2 z1 z2 z3 h59⟩
            · obtain ⟨B1, k1, k2⟩ := (dollM (ra := ra) (rb := rb) (L := L) hT htx hp1 hC0 o1 (by omega) (h.at (p + 1)) e1 e2 e3 e4 e5 e6).1 z1 z2 z3
              obtain ⟨B', f1, f2⟩ := (gm_tail (ra := ra) (rb := rb) (L := L) hT htx b2.2.1 k2).2 h59
              refine ⟨B', ?_, f2⟩
              rw [mp B B0 ra rb h, v_137, m_bind_some k1]
              exact f1
        · refine Or.inr ⟨n3, sk T tx p2, by omega, by omega, s2.2, fun A h => ?_, fun B B0 ra rb h => ?_⟩
          · obtain ⟨A', k1, -, -, -, k2, -⟩ := dollC (ra := ra) (L := L) hr hrb hT htx hp1 hC0 o1 (by omega) h e1 e2 e3 e4 e5 e6
            exact ⟨A', k1, k2 z1 z2 z3⟩
          · obtain ⟨B1, k1, k2⟩ := (dollM (ra := ra) (rb := rb) (L := L) hT htx hp1 hC0 o1 (by omega) (h.at (p + 1)) e1 e2 e3 e4 e5 e6).2.2.2 z1 z2 z3
            exact mF B B0 B1 ra rb n3 _ (by omega) (by omega) h k1 k2
      · refine Or.inr ⟨n2, sk T tx p1, by omega, by omega, s1.2, fun A h => ?_, fun B B0 ra rb h => ?_⟩
        · obtain ⟨A', k1, -, -, k2, -, -⟩ := dollC (ra := ra) (L := L) hr hrb hT htx hp1 hC0 o1 (by omega) h e1 e2 e3 e4 e5 e6
          exact ⟨A', k1, k2 z1 z2⟩
        · obtain ⟨B1, k1, k2⟩ := (dollM (ra := ra) (rb := rb) (L := L) hT htx hp1 hC0 o1 (by omega) (h.at (p + 1)) e1 e2 e3 e4 e5 e6).2.2.1 z1 z2
          exact mF B B0 B1 ra rb n2 _ (by omega) (by omega) h k1 k2
    · refine Or.inr ⟨n1, sk T tx (p + 1), by omega, by omega, s0.2, fun A h => ?_, fun B B0 ra rb h => ?_⟩
      · obtain ⟨A', k1, -, k2, -, -, -⟩ := dollC (ra := ra) (L := L) hr hrb hT htx hp1 hC0 o1 (by omega) h e1 e2 e3 e4 e5 e6
        exact ⟨A', k1, k2 z1⟩
      · obtain ⟨B1, k1, k2⟩ := (dollM (ra := ra) (rb := rb) (L := L) hT htx hp1 hC0 o1 (by omega) (h.at (p + 1)) e1 e2 e3 e4 e5 e6).2.1 z1
        exact mF B B0 B1 ra rb n1 _ (by omega) (by omega) h k1 k2
/-- pattern and quota are read -/
theorem gc_pat (hrb : 100 < rb) (h : GC A A0 rb T tx p C D v kd hm sg pt hpt q hq) (x : Nat) : GC (u2 (u2 A rb 7 (nI x)) rb 9 1) A0 rb T tx p C D v kd hm sg x true q hq := by
  obtain ⟨h1, h2, h3, h4, h5, h6, h7, ⟨h8, h9, h10, h11⟩, h12⟩ := h
  obtain ⟨A1, hA1⟩ : ∃ A1, A1 = u2 (u2 A rb 7 (nI x)) rb 9 1 := ⟨_, rfl⟩
  have f : ∀ a k, a ≠ rb ∨ (k ≠ 7 ∧ k ≠ 9) → A1 a k = A a k := fun a k b => by rw [hA1, u2_n _ _ (by omega), u2_n _ _ (by omega)]
  rw [← hA1]
  refine ⟨h1.fr (f _ _ (by omega)) (f _ _ (by omega)) (fun j => f _ _ (by omega)), ?_, ?_, ?_, ?_, fun c hc => ?_, fun d hd => ?_, ⟨?_, ?_, ?_, ?_⟩, fun a k b1 b2 => ?_⟩
  · rw [f _ _ (by omega)]; exact h2
  · rw [f _ _ (by omega)]; exact h3
  · rw [f _ _ (by omega)]; exact h4
  · rw [f _ _ (by omega)]; exact h5
  · rw [f _ _ (by omega)]; exact h6 c hc
  · rw [f _ _ (by omega), f _ _ (by omega), f _ _ (by omega)]; exact h7 d hd
  · rw [hA1, u2_nk _ _ (by decide), u2_s]
  · rw [hA1, u2_s]; rfl
  · rw [f _ _ (by omega)]; exact h10
  · rw [f _ _ (by omega)]; exact h11
  · rw [f _ _ (by omega)]; exact h12 a k b1 b2
theorem gc_quo (hrb : 100 < rb) (h : GC A A0 rb T tx p C D v kd hm sg pt hpt q hq) (x : Nat) : GC (u2 (u2 A rb 8 (nI x)) rb 10 1) A0 rb T tx p C D v kd hm sg pt hpt x true := by
  obtain ⟨h1, h2, h3, h4, h5, h6, h7, ⟨h8, h9, h10, h11⟩, h12⟩ := h
  obtain ⟨A1, hA1⟩ : ∃ A1, A1 = u2 (u2 A rb 8 (nI x)) rb 10 1 := ⟨_, rfl⟩
  have f : ∀ a k, a ≠ rb ∨ (k ≠ 8 ∧ k ≠ 10) → A1 a k = A a k := fun a k b => by rw [hA1, u2_n _ _ (by omega), u2_n _ _ (by omega)]
  rw [← hA1]
  refine ⟨h1.fr (f _ _ (by omega)) (f _ _ (by omega)) (fun j => f _ _ (by omega)), ?_, ?_, ?_, ?_, fun c hc => ?_, fun d hd => ?_, ⟨?_, ?_, ?_, ?_⟩, fun a k b1 b2 => ?_⟩
  · rw [f _ _ (by omega)]; exact h2
  · rw [f _ _ (by omega)]; exact h3
  · rw [f _ _ (by omega)]; exact h4
  · rw [f _ _ (by omega)]; exact h5
  · rw [f _ _ (by omega)]; exact h6 c hc
  · rw [f _ _ (by omega), f _ _ (by omega), f _ _ (by omega)]; exact h7 d hd
  · rw [f _ _ (by omega)]; exact h8
  · rw [f _ _ (by omega)]; exact h9
  · rw [hA1, u2_nk _ _ (by decide), u2_s]
  · rw [hA1, u2_s]; rfl
  · rw [f _ _ (by omega)]; exact h12 a k b1 b2
/-- what follows a number of the class that is put away: the end of the clause -/
theorem endC (hrb : 100 < rb) (hT : T ≤ 240) (htx : ∀ j, j < T → tx j < 256) (hpT : p ≤ T) (h : GC A A0 rb T tx p C D v kd hm sg pt hpt q hq) : ∃ A', m_cv 4 6 (pX7_readEnd 4) (fun _ => m_ret ()) (hp ra rb L A) = some ((), hp ra rb L A') ∧ (lh T tx (sk T tx p) = 59 → GC A' A0 rb T tx (sk T tx p + 1) C D v kd hm sg pt hpt q hq) ∧ (lh T tx (sk T tx p) ≠ 59 → FC A' A0 rb T tx 1 (sk T tx p)) := by
  obtain ⟨A', k1, k2, k3⟩ := gc_end (ra := ra) (L := L) hrb hT htx hpT h
  refine ⟨A', ?_, k2, k3⟩
  rw [v_4, m_bind_some k1]
  rfl
theorem endF (hT : T ≤ 240) (htx : ∀ j, j < T → tx j < 256) {n w : Nat} (hn : 1 ≤ n) (hn3 : n ≤ 3) (h : FC A A0 rb T tx n w) : ∃ A', m_cv 4 6 (pX7_readEnd 4) (fun _ => m_ret ()) (hp ra rb L A) = some ((), hp ra rb L A') ∧ FC A' A0 rb T tx n w := by
  obtain ⟨A', k1, k2⟩ := fc_end (ra := ra) (L := L) hT htx hn hn3 h
  refine ⟨A', ?_, k2⟩
  rw [v_4, m_bind_some k1]
  rfl
theorem patM (hT : T ≤ 240) (htx : ∀ j, j < T → tx j < 256) (hpT : p ≤ T) (h : GM B B0 T tx p C D v kd hm sg pt hpt q) : ∃ B', pX10_takePattern 137 (hp ra rb L B) = some (nI (nc T tx 0 63 p), hp ra rb L B') ∧ (nc T tx 0 63 p = 0 → GM B' B0 T tx (pe T tx p) C D v kd hm sg (val T tx p) true q) ∧ (nc T tx 0 63 p ≠ 0 → FM B' B0 (sk T tx p)) := by
  obtain ⟨h1, h2, h3, h4, h5, h6, ⟨h7, h8, h9⟩, h10⟩ := h
  obtain ⟨B1, hB1⟩ : ∃ B1, B1 = u2 B 137 22 1 := ⟨_, rfl⟩
  have f1 : ∀ a k, ¬ (a = 137 ∧ k = 22) → B1 a k = B a k := fun a k b => by rw [hB1, u2_n _ _ b]
  have t1 : TM B1 T tx p := h1.fr (f1 _ _ (by decide)) (f1 _ _ (by decide)) (fun k => f1 _ _ (by omega))
  obtain ⟨B2, i1, i2, i3, i4, i5⟩ := num_m (ra := ra) (rb := rb) (L := L) hT htx t1 hpT (lo := 0) (hi := 63) (by decide) (by decide)
  obtain ⟨B3, hB3⟩ : ∃ B3, B3 = u2 B2 137 23 (B2 137 14) := ⟨_, rfl⟩
  have f3 : ∀ a k, ¬ (a = 137 ∧ k = 23) → B3 a k = B2 a k := fun a k b => by rw [hB3, u2_n _ _ b]
  have all : ∀ a k, ¬ (a = 137 ∧ (12 ≤ k ∧ k ≤ 15 ∨ k = 22 ∨ k = 23)) → B3 a k = B a k := fun a k b => by
    rw [f3 a k (by omega), i3 a k (by omega), f1 a k (by omega)]
  have F : frM B3 B0 := fun a k b1 b2 => by rw [all a k (by omega)]; exact h10 a k b1 b2
  refine ⟨B3, ?_, fun z => ⟨i2.fr (f3 _ _ (by decide)) (f3 _ _ (by decide)) (fun k => f3 _ _ (by omega)), ?_, ?_, ?_, fun c hc => ?_, fun d hd => ?_, ⟨?_, ?_, ?_⟩, F⟩, fun z => ⟨?_, F⟩⟩
  · rw [pX10_takePattern, p_137_22, ← hB1, v_137]
    refine (m_bind_some i1).trans ?_
    rw [g_137_14, p_137_23, hB3]
    rfl
  · rw [f3 _ _ (by decide), (i4 z).2, f1 _ _ (by decide)]; exact h2
  · rw [all _ _ (by decide)]; exact h3
  · rw [all _ _ (by decide)]; exact h4
  · rw [all _ _ (by omega)]; exact h5 c hc
  · rw [all _ _ (by omega), all _ _ (by omega), all _ _ (by omega)]; exact h6 d hd
  · rw [f3 _ _ (by decide), i3 _ _ (by decide), hB1, u2_s]; rfl
  · rw [hB3, u2_s]; exact (i4 z).1
  · rw [all _ _ (by decide)]; exact h9
  · rw [f3 _ _ (by decide)]; exact i5 z
theorem quoM (hT : T ≤ 240) (htx : ∀ j, j < T → tx j < 256) (hpT : p ≤ T) (h : GM B B0 T tx p C D v kd hm sg pt hpt q) : ∃ B', pX10_takeQuota 137 (hp ra rb L B) = some (nI (nc T tx 1 63 p), hp ra rb L B') ∧ (nc T tx 1 63 p = 0 → GM B' B0 T tx (pe T tx p) C D v kd hm sg pt hpt (val T tx p)) ∧ (nc T tx 1 63 p ≠ 0 → FM B' B0 (sk T tx p)) := by
  obtain ⟨h1, h2, h3, h4, h5, h6, ⟨h7, h8, h9⟩, h10⟩ := h
  obtain ⟨B2, i1, i2, i3, i4, i5⟩ := num_m (ra := ra) (rb := rb) (L := L) hT htx h1 hpT (lo := 1) (hi := 63) (by decide) (by decide)
  obtain ⟨B3, hB3⟩ : ∃ B3, B3 = u2 B2 137 24 (B2 137 14) := ⟨_, rfl⟩
  have f3 : ∀ a k, ¬ (a = 137 ∧ k = 24) → B3 a k = B2 a k := fun a k b => by rw [hB3, u2_n _ _ b]
  have all : ∀ a k, ¬ (a = 137 ∧ (12 ≤ k ∧ k ≤ 15 ∨ k = 24)) → B3 a k = B a k := fun a k b => by
    rw [f3 a k (by omega), i3 a k (by omega)]
  have F : frM B3 B0 := fun a k b1 b2 => by rw [all a k (by omega)]; exact h10 a k b1 b2
  refine ⟨B3, ?_, fun z => ⟨i2.fr (f3 _ _ (by decide)) (f3 _ _ (by decide)) (fun k => f3 _ _ (by omega)), ?_, ?_, ?_, fun c hc => ?_, fun d hd => ?_, ⟨?_, ?_, ?_⟩, F⟩, fun z => ⟨?_, F⟩⟩
  · rw [pX10_takeQuota, v_137]
    refine (m_bind_some i1).trans ?_
    rw [g_137_14, p_137_24, hB3]
    rfl
  · rw [f3 _ _ (by decide), (i4 z).2]; exact h2
  · rw [all _ _ (by decide)]; exact h3
  · rw [all _ _ (by decide)]; exact h4
  · rw [all _ _ (by omega)]; exact h5 c hc
  · rw [all _ _ (by omega), all _ _ (by omega), all _ _ (by omega)]; exact h6 d hd
  · rw [all _ _ (by decide)]; exact h7
  · rw [all _ _ (by decide)]; exact h8
  · rw [hB3, u2_s]; exact (i4 z).1
  · rw [f3 _ _ (by decide)]; exact i5 z
theorem two_pat (hr : c_rl rb) (hrb : 100 < rb) (hT : T ≤ 240) (htx : ∀ j, j < T → tx j < 256) (hp1 : p < T) (ho : OKT C D v kd hm sg pt q hq) : Two ra rb L A0 T tx p C D v kd hm sg pt hpt q hq (pX7_readPattern 4 rb) (fX10_takeClause_72 137 2) := by
  obtain ⟨o1, o2, o3, o4, o5, o6, o7, o8, o9⟩ := ho
  cases hpt with
  | true =>
    refine Or.inr ⟨3, p, by decide, by decide, by omega, fun A h => ?_, fun B B0 ra rb h => ?_⟩
    · obtain ⟨A', f1, f2⟩ := full_c (ra := ra) (L := L) (by omega) h 3
      refine ⟨A', ?_, f2⟩
      rw [pX7_readPattern, rg_9 hr, h.2.2.2.2.2.2.2.1.2.1, if_neg (show ¬ bi true = 0 by decide)]
      exact f1
    · obtain ⟨B', f1, f2⟩ := full_m (ra := ra) (rb := rb) (L := L) h 3
      refine ⟨B', ?_, f2⟩
      rw [fX10_takeClause_72, v_137, m_bind_some (isF2 h.2.2.2.2.2.2.1.1), if_neg (show ¬ bi true = 0 by decide)]
      exact f1
  | false =>
    have b0 := pe_b (T := T) (tx := tx) (p := p + 1) (by omega)
    have s0 := sk_b (T := T) (tx := tx) (p := p + 1) (by omega)
    have s1 := sk_b (tx := tx) b0.2.1
    have l1 := nc_le (T := T) (tx := tx) 0 63 (p + 1)
    have cP : ∀ A, GC A A0 rb T tx p C D v kd hm sg pt false q hq → ∃ A1, pX7_readPattern 4 rb (hp ra rb L A) = m_cv 4 6 (pX7_readEnd 4) (fun _ => m_ret ()) (hp ra rb L A1) ∧ (nc T tx 0 63 (p + 1) = 0 → GC A1 A0 rb T tx (pe T tx (p + 1)) C D v kd hm sg (val T tx (p + 1)) true q hq) ∧ (nc T tx 0 63 (p + 1) ≠ 0 → FC A1 A0 rb T tx (nc T tx 0 63 (p + 1)) (sk T tx (p + 1))) := by
      intro A h
      obtain ⟨A1, k1, k2, k3⟩ := gc_num (ra := ra) (L := L) hrb hT htx (by omega) (h.at hrb (p + 1)) (lo := 0) (hi := 63) (by decide) (by decide)
      refine ⟨u2 (u2 A1 rb 7 (nI (val T tx (p + 1)))) rb 9 1, ?_, fun z => gc_pat hrb (k2 z) _, fun z => fc_put hrb (fc_put hrb (k3 z) 7 _) 9 1⟩
      rw [pX7_readPattern, rg_9 hr, h.2.2.2.2.2.2.2.1.2.1, if_pos (show bi false = 0 by decide), g_4_4, h.1.2.1, nI_1, p_4_4, v_4]
      refine (m_bind_some k1).trans ?_
      rw [rp_7_ hr, rp_9_ hr]
    have mP : ∀ (B B0 : cM) (ra rb : Nat), GM B B0 T tx p C D v kd hm sg pt false q → ∃ B1, fX10_takeClause_72 137 2 (hp ra rb L B) = fX10_takeClause_139 137 (nI (nc T tx 0 63 (p + 1))) (hp ra rb L B1) ∧ (nc T tx 0 63 (p + 1) = 0 → GM B1 B0 T tx (pe T tx (p + 1)) C D v kd hm sg (val T tx (p + 1)) true q) ∧ (nc T tx 0 63 (p + 1) ≠ 0 → FM B1 B0 (sk T tx (p + 1))) := by
      intro B B0 ra rb h
      obtain ⟨B1, k1, k2, k3⟩ := patM (ra := ra) (rb := rb) (L := L) hT htx (by omega) (h.at (p + 1))
      refine ⟨B1, ?_, k2, k3⟩
      rw [fX10_takeClause_72, v_137, m_bind_some (isF2 h.2.2.2.2.2.2.1.1), if_pos (show bi false = 0 by decide), g_137_13, h.1.2.1, nI_1, p_137_13, if_neg (by decide), if_neg (by decide), if_pos rfl, v_137]
      exact m_bind_some k1
    by_cases z1 : nc T tx 0 63 (p + 1) = 0
    · have y1 := nc_0 z1
      by_cases h59 : lh T tx (sk T tx (pe T tx (p + 1))) = 59
      · have hlt : sk T tx (pe T tx (p + 1)) < T := ((lh_32 (c := 59) htx (by decide)).mp h59).1
        refine Or.inl ⟨sk T tx (pe T tx (p + 1)) + 1, C, D, v, kd, hm, sg, val T tx (p + 1), true, q, hq, by omega, by omega, ⟨o1, o2, o3, o4, o5, o6, by omega, o8, o9⟩, fun A h => ?_, fun B B0 ra rb h => ?_⟩
        · obtain ⟨A1, k1, k2, -⟩ := cP A h
          obtain ⟨A2, k3, k4, -⟩ := endC (ra := ra) (L := L) hrb hT htx b0.2.1 (k2 z1)
          exact ⟨A2, k1.trans k3, k4 h59⟩
        · obtain ⟨B1, k1, k2, -⟩ := mP B B0 ra rb h
          obtain ⟨B2, k3, k4⟩ := (gm_tail (ra := ra) (rb := rb) (L := L) hT htx b0.2.1 (k2 z1)).1 h59
          rw [z1] at k1
          exact ⟨B2, k1.trans k3, k4⟩
      · refine Or.inr ⟨1, sk T tx (pe T tx (p + 1)), by decide, by decide, s1.2, fun A h => ?_, fun B B0 ra rb h => ?_⟩
        · obtain ⟨A1, k1, k2, -⟩ := cP A h
          obtain ⟨A2, k3, -, k4⟩ := endC (ra := ra) (L := L) hrb hT htx b0.2.1 (k2 z1)
          exact ⟨A2, k1.trans k3, k4 h59⟩
        · obtain ⟨B1, k1, k2, -⟩ := mP B B0 ra rb h
          obtain ⟨B2, k3, k4⟩ := (gm_tail (ra := ra) (rb := rb) (L := L) hT htx b0.2.1 (k2 z1)).2 h59
          rw [z1] at k1
          exact ⟨B2, k1.trans k3, k4⟩
    · refine Or.inr ⟨nc T tx 0 63 (p + 1), sk T tx (p + 1), by omega, by omega, s0.2, fun A h => ?_, fun B B0 ra rb h => ?_⟩
      · obtain ⟨A1, k1, -, k2⟩ := cP A h
        obtain ⟨A2, k3, k4⟩ := endF (ra := ra) (L := L) hT htx (by omega) (by omega) (k2 z1)
        exact ⟨A2, k1.trans k3, k4⟩
      · obtain ⟨B1, k1, -, k2⟩ := mP B B0 ra rb h
        obtain ⟨B2, k3, k4⟩ := fm_tail (ra := ra) (rb := rb) (L := L) (n := nc T tx 0 63 (p + 1)) (by omega) (by omega) (k2 z1)
        exact ⟨B2, k1.trans k3, k4⟩
theorem two_quo (hr : c_rl rb) (hrb : 100 < rb) (hT : T ≤ 240) (htx : ∀ j, j < T → tx j < 256) (hp1 : p < T) (hC0 : 1 ≤ C) (ho : OKT C D v kd hm sg pt q hq) : Two ra rb L A0 T tx p C D v kd hm sg pt hpt q hq (pX7_readQuota 4 rb) (fX10_takeClause_72 137 3) := by
  obtain ⟨o1, o2, o3, o4, o5, o6, o7, o8, o9⟩ := ho
  cases hq with
  | true =>
    have hq1 : 1 ≤ q := o9.mp rfl
    refine Or.inr ⟨3, p, by decide, by decide, by omega, fun A h => ?_, fun B B0 ra rb h => ?_⟩
    · obtain ⟨A', f1, f2⟩ := full_c (ra := ra) (L := L) (by omega) h 3
      refine ⟨A', ?_, f2⟩
      rw [pX7_readQuota, rg_10 hr, h.2.2.2.2.2.2.2.1.2.2.2, if_neg (show ¬ bi true = 0 by decide)]
      exact f1
    · obtain ⟨B', f1, f2⟩ := full_m (ra := ra) (rb := rb) (L := L) h 3
      refine ⟨B', ?_, f2⟩
      rw [fX10_takeClause_72, v_137, m_bind_some (isF3 h.2.2.2.2.2.2.1.2.2 o8), show decide (1 ≤ q) = true from decide_eq_true hq1, if_neg (show ¬ bi true = 0 by decide)]
      exact f1
  | false =>
    have hq0 : ¬ 1 ≤ q := fun z => absurd (o9.mpr z) (by decide)
    have b0 := pe_b (T := T) (tx := tx) (p := p + 1) (by omega)
    have s0 := sk_b (T := T) (tx := tx) (p := p + 1) (by omega)
    have s1 := sk_b (tx := tx) b0.2.1
    have l1 := nc_le (T := T) (tx := tx) 1 63 (p + 1)
    have cP : ∀ A, GC A A0 rb T tx p C D v kd hm sg pt hpt q false → ∃ A1, pX7_readQuota 4 rb (hp ra rb L A) = m_cv 4 6 (pX7_readEnd 4) (fun _ => m_ret ()) (hp ra rb L A1) ∧ (nc T tx 1 63 (p + 1) = 0 → GC A1 A0 rb T tx (pe T tx (p + 1)) C D v kd hm sg pt hpt (val T tx (p + 1)) true) ∧ (nc T tx 1 63 (p + 1) ≠ 0 → FC A1 A0 rb T tx (nc T tx 1 63 (p + 1)) (sk T tx (p + 1))) := by
      intro A h
      obtain ⟨A1, k1, k2, k3⟩ := gc_num (ra := ra) (L := L) hrb hT htx (by omega) (h.at hrb (p + 1)) (lo := 1) (hi := 63) (by decide) (by decide)
      refine ⟨u2 (u2 A1 rb 8 (nI (val T tx (p + 1)))) rb 10 1, ?_, fun z => gc_quo hrb (k2 z) _, fun z => fc_put hrb (fc_put hrb (k3 z) 8 _) 10 1⟩
      rw [pX7_readQuota, rg_10 hr, h.2.2.2.2.2.2.2.1.2.2.2, if_pos (show bi false = 0 by decide), g_4_4, h.1.2.1, nI_1, p_4_4, v_4]
      refine (m_bind_some k1).trans ?_
      rw [rp_8_ hr, rp_10_ hr]
    have mP : ∀ (B B0 : cM) (ra rb : Nat), GM B B0 T tx p C D v kd hm sg pt hpt q → ∃ B1, fX10_takeClause_72 137 3 (hp ra rb L B) = fX10_takeClause_139 137 (nI (nc T tx 1 63 (p + 1))) (hp ra rb L B1) ∧ (nc T tx 1 63 (p + 1) = 0 → GM B1 B0 T tx (pe T tx (p + 1)) C D v kd hm sg pt hpt (val T tx (p + 1))) ∧ (nc T tx 1 63 (p + 1) ≠ 0 → FM B1 B0 (sk T tx (p + 1))) := by
      intro B B0 ra rb h
      obtain ⟨B1, k1, k2, k3⟩ := quoM (ra := ra) (rb := rb) (L := L) hT htx (by omega) (h.at (p + 1))
      refine ⟨B1, ?_, k2, k3⟩
      rw [fX10_takeClause_72, v_137, m_bind_some (isF3 h.2.2.2.2.2.2.1.2.2 o8), show decide (1 ≤ q) = false from decide_eq_false hq0, if_pos (show bi false = 0 by decide), g_137_13, h.1.2.1, nI_1, p_137_13, if_neg (by decide), if_neg (by decide), if_neg (by decide), v_137]
      exact m_bind_some k1
    by_cases z1 : nc T tx 1 63 (p + 1) = 0
    · have y1 := nc_0 z1
      by_cases h59 : lh T tx (sk T tx (pe T tx (p + 1))) = 59
      · have hlt : sk T tx (pe T tx (p + 1)) < T := ((lh_32 (c := 59) htx (by decide)).mp h59).1
        refine Or.inl ⟨sk T tx (pe T tx (p + 1)) + 1, C, D, v, kd, hm, sg, pt, hpt, val T tx (p + 1), true, by omega, by omega, ⟨o1, o2, o3, fun z => by omega, o5, o6, o7, by omega, ⟨fun _ => y1.1, fun _ => rfl⟩⟩, fun A h => ?_, fun B B0 ra rb h => ?_⟩
        · obtain ⟨A1, k1, k2, -⟩ := cP A h
          obtain ⟨A2, k3, k4, -⟩ := endC (ra := ra) (L := L) hrb hT htx b0.2.1 (k2 z1)
          exact ⟨A2, k1.trans k3, k4 h59⟩
        · obtain ⟨B1, k1, k2, -⟩ := mP B B0 ra rb h
          obtain ⟨B2, k3, k4⟩ := (gm_tail (ra := ra) (rb := rb) (L := L) hT htx b0.2.1 (k2 z1)).1 h59
          rw [z1] at k1
          exact ⟨B2, k1.trans k3, k4⟩
      · refine Or.inr ⟨1, sk T tx (pe T tx (p + 1)), by decide, by decide, s1.2, fun A h => ?_, fun B B0 ra rb h => ?_⟩
        · obtain ⟨A1, k1, k2, -⟩ := cP A h
          obtain ⟨A2, k3, -, k4⟩ := endC (ra := ra) (L := L) hrb hT htx b0.2.1 (k2 z1)
          exact ⟨A2, k1.trans k3, k4 h59⟩
        · obtain ⟨B1, k1, k2, -⟩ := mP B B0 ra rb h
          obtain ⟨B2, k3, k4⟩ := (gm_tail (ra := ra) (rb := rb) (L := L) hT htx b0.2.1 (k2 z1)).2 h59
          rw [z1] at k1
          exact ⟨B2, k1.trans k3, k4⟩
    · refine Or.inr ⟨nc T tx 1 63 (p + 1), sk T tx (p + 1), by omega, by omega, s0.2, fun A h => ?_, fun B B0 ra rb h => ?_⟩
      · obtain ⟨A1, k1, -, k2⟩ := cP A h
        obtain ⟨A2, k3, k4⟩ := endF (ra := ra) (L := L) hT htx (by omega) (by omega) (k2 z1)
        exact ⟨A2, k1.trans k3, k4⟩
      · obtain ⟨B1, k1, -, k2⟩ := mP B B0 ra rb h
        obtain ⟨B2, k3, k4⟩ := fm_tail (ra := ra) (rb := rb) (L := L) (n := nc T tx 1 63 (p + 1)) (by omega) (by omega) (k2 z1)
        exact ⟨B2, k1.trans k3, k4⟩
end Z3
