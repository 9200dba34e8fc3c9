/-! the courts' clause; any clause; all clauses -/
section Z4
variable {ra rb L : Nat} {A A' A0 B B' B0 : cM} {T : Nat} {tx : Nat → Nat} {p p' C D : Nat} {v kd hm sg : Nat → Nat} {pt q : Nat} {hpt hq : Bool}
theorem takeCourts_mct (hT : T ≤ 240) (htx : ∀ j, j < T → tx j < 256) (hpT : p ≤ T) (h : TM B T tx p) : pX10_takeCourts 137 (hp ra rb L B) = mct 0 c_fu (hp ra rb L B) := by
  obtain ⟨B1, g1, -⟩ := into_m (ra := ra) (rb := rb) (L := L) hT htx h hpT (lo := 1) (hi := 9) (a := 144) (k := 0) (by decide) (by decide) (by decide) (fun _ _ _ => s_144 (by decide))
  rw [pX10_takeCourts, g_137_17]
  unfold mct
  rw [v_137, v_137]
  refine (m_bind_some g1).trans ((m_bind_some g1).trans ?_).symm
  rw [g_137_16]
  rfl
theorem two_crt (hr : c_rl rb) (hrb : 100 < rb) (hT : T ≤ 240) (htx : ∀ j, j < T → tx j < 256) (hp1 : p < T) (ho : OKT C D v kd hm sg pt q hq) : Two ra rb L A0 T tx p C D v kd hm sg pt hpt q hq (pX7_readCourts 4 rb) (fX10_takeClause_72 137 0) := by
  obtain ⟨o1, o2, o3, o4, o5, o6, o7, o8, o9⟩ := ho
  by_cases hC : C = 0
  · subst hC
    have cP : ∀ A, GC A A0 rb T tx p 0 D v kd hm sg pt hpt q hq → pX7_readCourts 4 rb (hp ra rb L A) = fX7_readCourts_31 c_fu 4 rb 1 (nI 0) (hp ra rb L (u2 A 4 4 (nI (p + 1)))) := by
      intro A h
      rw [pX7_readCourts, rg_5 hr, h.2.2.2.1, if_pos (show nI 0 ≤ 0 by decide), g_4_4, h.1.2.1, nI_1, p_4_4]
      rfl
    have mP : ∀ (B B0 B1 : cM) (ra rb : Nat) (x : Int32), GM B B0 T tx p 0 D v kd hm sg pt hpt q → mct 0 c_fu (hp ra rb L (u2 B 137 13 (nI (p + 1)))) = some (x, hp ra rb L B1) → fX10_takeClause_72 137 0 (hp ra rb L B) = fX10_takeClause_139 137 x (hp ra rb L B1) := by
      intro B B0 B1 ra rb x h hk
      rw [← takeCourts_mct hT htx (p := p + 1) (by omega) (h.at (p + 1)).1] at hk
      rw [fX10_takeClause_72, v_137, m_bind_some (isF0 h.2.2.1 (by decide)), if_pos (show bi (decide (0 < 0)) = 0 by decide), g_137_13, h.1.2.1, nI_1, p_137_13, if_pos rfl, v_137]
      exact m_bind_some hk
    rcases crt (ra := ra) (L := L) (A0 := A0) (D := D) (kd := kd) (hm := hm) (sg := sg) (pt := pt) (hpt := hpt) (q := q) (hq := hq) hr hrb hT htx 7 0 (p + 1) v (by omega) (by omega) (by omega) (fun c hc => by omega) with ⟨C', p1, v', d1, d2, d3, d4, d5, d6, d7, d8⟩ | ⟨n0, w, d1, d2, d3, d7, d8⟩
    · by_cases h59 : lh T tx p1 = 59
      · have hlt : p1 < T := ((lh_32 (c := 59) htx (by decide)).mp h59).1
        refine Or.inl ⟨p1 + 1, C', D, v', kd, hm, sg, pt, hpt, q, hq, by omega, by omega, ⟨d2, by omega, o3, fun z => by omega, d3, fun d hd => ?_, o7, o8, o9⟩, fun A h => ?_, fun B B0 ra rb h => ?_⟩
        · have := (o4 rfl).1
          omega
        · obtain ⟨A', k1, k2, -⟩ := d7 c_fu _ (by show 7 < 1000; omega) (h.at hrb (p + 1))
          exact ⟨A', (cP A h).trans k1, k2 h59⟩
        · obtain ⟨B1, k1, k2⟩ := d8 c_fu _ _ _ _ (by show 7 < 1000; omega) (h.at (p + 1))
          have k3 := (gm_tail (ra := ra) (rb := rb) (L := L) hT htx d5 k2).1
          rw [d6] at k3
          obtain ⟨B2, k4, k5⟩ := k3 h59
          exact ⟨B2, (mP B B0 B1 ra rb 0 h k1).trans k4, k5⟩
      · refine Or.inr ⟨1, p1, by decide, by decide, d5, fun A h => ?_, fun B B0 ra rb h => ?_⟩
        · obtain ⟨A', k1, -, k2⟩ := d7 c_fu _ (by show 7 < 1000; omega) (h.at hrb (p + 1))
          exact ⟨A', (cP A h).trans k1, k2 h59⟩
        · obtain ⟨B1, k1, k2⟩ := d8 c_fu _ _ _ _ (by show 7 < 1000; omega) (h.at (p + 1))
          have k3 := (gm_tail (ra := ra) (rb := rb) (L := L) hT htx d5 k2).2
          rw [d6] at k3
          obtain ⟨B2, k4, k5⟩ := k3 h59
          exact ⟨B2, (mP B B0 B1 ra rb 0 h k1).trans k4, k5⟩
    · refine Or.inr ⟨n0, w, d1, d2, d3, fun A h => ?_, fun B B0 ra rb h => ?_⟩
      · obtain ⟨A', k1, k2⟩ := d7 c_fu _ (by show 7 < 1000; omega) (h.at hrb (p + 1))
        exact ⟨A', (cP A h).trans k1, k2⟩
      · obtain ⟨B1, k1, k2⟩ := d8 c_fu _ _ _ _ (by show 7 < 1000; omega) (h.at (p + 1))
        obtain ⟨B2, k3, k4⟩ := fm_tail (ra := ra) (rb := rb) (L := L) d1 d2 k2
        exact ⟨B2, (mP B B0 B1 ra rb _ h k1).trans k3, k4⟩
  · refine Or.inr ⟨3, p, by decide, by decide, by omega, fun A h => ?_, fun B B0 ra rb h => ?_⟩
    · obtain ⟨A', f1, f2⟩ := full_c (ra := ra) (L := L) (by omega) h 3
      refine ⟨A', ?_, f2⟩
      rw [pX7_readCourts, rg_5 hr, h.2.2.2.1, if_neg (show ¬ nI C ≤ 0 from nI_ge (a := 0) (by omega) (by omega))]
      exact f1
    · obtain ⟨B', f1, f2⟩ := full_m (ra := ra) (rb := rb) (L := L) h 3
      refine ⟨B', ?_, f2⟩
      rw [fX10_takeClause_72, v_137, m_bind_some (isF0 h.2.2.1 o1), show decide (0 < C) = true from decide_eq_true (by omega), if_neg (show ¬ bi true = 0 by decide)]
      exact f1
theorem Two.to {P P' : MM Unit} {Q Q' : MM Int32} (h : Two ra rb L A0 T tx p C D v kd hm sg pt hpt q hq P Q) (h1 : ∀ A, GC A A0 rb T tx p C D v kd hm sg pt hpt q hq → ∀ A', P (hp ra rb L A) = some ((), hp ra rb L A') → P' (hp ra rb L A) = some ((), hp ra rb L A')) (h2 : ∀ (B B0 : cM) (ra rb : Nat), GM B B0 T tx p C D v kd hm sg pt hpt q → ∀ x, Q (hp ra rb L B) = some x → Q' (hp ra rb L B) = some x) : Two ra rb L A0 T tx p C D v kd hm sg pt hpt q hq P' Q' := by
  rcases h with ⟨p', C', D', v', kd', hm', sg', pt', hpt', q', hq', a1, a2, a3, a4, a5⟩ | ⟨n0, w, a1, a2, a3, a4, a5⟩
  · refine Or.inl ⟨p', C', D', v', kd', hm', sg', pt', hpt', q', hq', a1, a2, a3, fun A h => ?_, fun B B0 ra rb h => ?_⟩
    · obtain ⟨A', k1, k2⟩ := a4 A h
      exact ⟨A', h1 A h A' k1, k2⟩
    · obtain ⟨B', k1, k2⟩ := a5 B B0 ra rb h
      exact ⟨B', h2 B B0 ra rb h _ k1, k2⟩
  · refine Or.inr ⟨n0, w, a1, a2, a3, fun A h => ?_, fun B B0 ra rb h => ?_⟩
    · obtain ⟨A', k1, k2⟩ := a4 A h
      exact ⟨A', h1 A h A' k1, k2⟩
    · obtain ⟨B', k1, k2⟩ := a5 B B0 ra rb h
      exact ⟨B', h2 B B0 ra rb h _ k1, k2⟩
theorem m_unit {P : MM Unit} {σ σ' : cH} (h : P σ = some ((), σ')) : m_bind P (fun _ => m_ret ()) σ = some ((), σ') := by
  rw [m_bind_some h]
  rfl
/-- a clause -/
theorem two_clause (hr : c_rl rb) (hrb : 100 < rb) (hT : T ≤ 240) (htx : ∀ j, j < T → tx j < 256) (hp1 : p < T) (hsk : sk T tx p = p) (ho : OKT C D v kd hm sg pt q hq) : Two ra rb L A0 T tx p C D v kd hm sg pt hpt q hq (pX7_readClause 4 rb) (pX10_takeClause 137) := by
  have hC := ho.1
  have hlt := htx p hp1
  have elh : lh T tx p = nI (tx p) := if_pos hp1
  have mh : ∀ (B B0 : cM) (ra rb : Nat), GM B B0 T tx p C D v kd hm sg pt hpt q → pX10_here 137 (hp ra rb L B) = some (nI (tx p), hp ra rb L B) := by
    intro B B0 ra rb h
    rw [q_here hT htx h.1 (by omega), hsk, elh, u2_id h.1.2.1]
  have cl : ∀ A, GC A A0 rb T tx p C D v kd hm sg pt hpt q hq → pX7_letterHere 4 (hp ra rb L A) = some (nI (tx p), hp ra rb L A) := by
    intro A h
    rw [q_letter hT h.1 (by omega), elh]
  have ne : ∀ c : Nat, c < 256 → tx p ≠ c → ¬ nI (tx p) = nI c := fun c hc hz => n_ne (by omega) (by omega) hz
  -- it can't stand there
  have bad : (∀ A, GC A A0 rb T tx p C D v kd hm sg pt hpt q hq → pX7_readClause 4 rb (hp ra rb L A) = m_gi 4 6 4 (fun x4 => m_cv 4 6 (pX7_fail 4 (nI 1) x4) (fun _ => m_ret ())) (hp ra rb L A)) → (∀ (B B0 : cM) (ra rb : Nat), GM B B0 T tx p C D v kd hm sg pt hpt q → pX10_takeClause 137 (hp ra rb L B) = fX10_takeClause_62 137 (hp ra rb L B)) → Two ra rb L A0 T tx p C D v kd hm sg pt hpt q hq (pX7_readClause 4 rb) (pX10_takeClause 137) := by
    intro k1 k2
    refine Or.inr ⟨1, p, by decide, by decide, by omega, fun A h => ?_, fun B B0 ra rb h => ?_⟩
    · obtain ⟨A', f1, f2⟩ := full_c (ra := ra) (L := L) (by omega) h 1
      exact ⟨A', (k1 A h).trans f1, f2⟩
    · obtain ⟨B', f1, f2⟩ := full_m (ra := ra) (rb := rb) (L := L) h 1
      exact ⟨B', (k2 B B0 ra rb h).trans f1, f2⟩
  by_cases l99 : tx p = 99
  · refine (two_crt (ra := ra) (L := L) (A0 := A0) (hpt := hpt) hr hrb hT htx hp1 ho).to (fun A h A' k => ?_) (fun B B0 ra rb h x k => ?_)
    · rw [pX7_readClause, v_4, m_bind_some (cl A h), l99, if_pos (show nI 99 = 99 from rfl), fX7_readClause_28, if_pos (show nI 99 = 99 from rfl), v_4]
      exact m_unit k
    · rw [pX10_takeClause, v_137, m_bind_some (mh B B0 ra rb h), l99, if_pos (show nI 99 = 99 from rfl), fX10_takeClause_46, if_neg (by decide), if_pos (by decide)]
      exact k
  · have n99 : ¬ nI (tx p) = 99 := ne 99 (by decide) l99
    by_cases hC0 : C = 0
    · refine bad (fun A h => ?_) (fun B B0 ra rb h => ?_)
      · rw [pX7_readClause, v_4, m_bind_some (cl A h), if_neg n99, rg_5 hr, h.2.2.2.1, hC0, if_pos (show nI 0 = 0 from rfl)]
        rfl
      · have h16 : B 137 16 = nI 0 := by rw [← hC0]; exact h.2.2.1
        rw [pX10_takeClause, v_137, m_bind_some (mh B B0 ra rb h), if_neg n99]
        by_cases l100 : nI (tx p) = 100
        · rw [if_pos l100, fX10_takeClause_46, if_neg (by decide), if_neg (by decide), g_137_16, h16, if_pos (show nI 0 = 0 from rfl)]
        · rw [if_neg l100]
          by_cases l115 : nI (tx p) = 115
          · rw [if_pos l115, fX10_takeClause_46, if_neg (by decide), if_neg (by decide), g_137_16, h16, if_pos (show nI 0 = 0 from rfl)]
          · rw [if_neg l115]
            by_cases l113 : nI (tx p) = 113
            · rw [if_pos l113, fX10_takeClause_46, if_neg (by decide), if_neg (by decide), g_137_16, h16, if_pos (show nI 0 = 0 from rfl)]
            · rw [if_neg l113, fX10_takeClause_46, if_pos (by decide)]
    · have nz : ¬ nI C = 0 := nI_ne0 (by omega) (by omega)
      have cc : ∀ A, GC A A0 rb T tx p C D v kd hm sg pt hpt q hq → pX7_readClause 4 rb (hp ra rb L A) = fX7_readClause_28 4 rb (nI (tx p)) (hp ra rb L A) := by
        intro A h
        rw [pX7_readClause, v_4, m_bind_some (cl A h), if_neg n99, rg_5 hr, h.2.2.2.1, if_neg nz]
      have m46 : ∀ (B B0 : cM) (ra rb : Nat) (k : Nat), 1 ≤ k → k < 9 → GM B B0 T tx p C D v kd hm sg pt hpt q → fX10_takeClause_46 137 (nI k) (hp ra rb L B) = fX10_takeClause_72 137 (nI k) (hp ra rb L B) := by
        intro B B0 ra rb k c1 c2 h
        rw [fX10_takeClause_46, if_neg (nI_pos (by omega)), if_neg (show ¬ nI k ≤ 0 from nI_ge (a := 0) (by omega) (by omega)), g_137_16, h.2.2.1, if_neg nz]
      by_cases l100 : tx p = 100
      · refine (two_doll (ra := ra) (L := L) (A0 := A0) (hpt := hpt) hr hrb hT htx hp1 (by omega) ho).to (fun A h A' k => ?_) (fun B B0 ra rb h x k => ?_)
        · rw [cc A h, l100, fX7_readClause_28, if_neg (by decide), if_pos (show nI 100 = 100 from rfl), v_4]
          exact m_unit k
        · rw [pX10_takeClause, v_137, m_bind_some (mh B B0 ra rb h), if_neg n99, l100, if_pos (show nI 100 = 100 from rfl)]
          exact (m46 B B0 ra rb 1 (by decide) (by decide) h).trans k
      · have n100 : ¬ nI (tx p) = 100 := ne 100 (by decide) l100
        by_cases l115 : tx p = 115
        · refine (two_pat (ra := ra) (L := L) (A0 := A0) (hpt := hpt) hr hrb hT htx hp1 ho).to (fun A h A' k => ?_) (fun B B0 ra rb h x k => ?_)
          · rw [cc A h, l115, fX7_readClause_28, if_neg (by decide), if_neg (by decide), if_neg (by decide), if_pos (show nI 115 = 115 from rfl), v_4]
            exact m_unit k
          · rw [pX10_takeClause, v_137, m_bind_some (mh B B0 ra rb h), if_neg n99, if_neg n100, l115, if_pos (show nI 115 = 115 from rfl)]
            exact (m46 B B0 ra rb 2 (by decide) (by decide) h).trans k
        · have n115 : ¬ nI (tx p) = 115 := ne 115 (by decide) l115
          by_cases l113 : tx p = 113
          · refine (two_quo (ra := ra) (L := L) (A0 := A0) (hpt := hpt) hr hrb hT htx hp1 (by omega) ho).to (fun A h A' k => ?_) (fun B B0 ra rb h x k => ?_)
            · rw [cc A h, l113, fX7_readClause_28, if_neg (by decide), if_neg (by decide), if_pos (show nI 113 = 113 from rfl), v_4]
              exact m_unit k
            · rw [pX10_takeClause, v_137, m_bind_some (mh B B0 ra rb h), if_neg n99, if_neg n100, if_neg n115, l113, if_pos (show nI 113 = 113 from rfl)]
              exact (m46 B B0 ra rb 3 (by decide) (by decide) h).trans k
          · have n113 : ¬ nI (tx p) = 113 := ne 113 (by decide) l113
            refine bad (fun A h => ?_) (fun B B0 ra rb h => ?_)
            · rw [cc A h, fX7_readClause_28, if_neg n99, if_neg n100, if_neg n113, if_neg n115]
              rfl
            · rw [pX10_takeClause, v_137, m_bind_some (mh B B0 ra rb h), if_neg n99, if_neg n100, if_neg n115, if_neg n113, fX10_takeClause_46, if_pos (by decide)]
/-- all clauses -/
theorem two_all (hr : c_rl rb) (hrb : 100 < rb) (hT : T ≤ 240) (htx : ∀ j, j < T → tx j < 256) (K : Nat → Nat → MM Int32) (K2 : Nat → Int32 → MM Int32) : ∀ (m p j : Nat) (C D : Nat) (v kd hm sg : Nat → Nat) (pt : Nat) (hpt : Bool) (q : Nat) (hq : Bool), T ≤ p + m → p ≤ T → j ≤ p → sk T tx p = p → OKT C D v kd hm sg pt q hq →
    (∃ (C' D' : Nat) (v' kd' hm' sg' : Nat → Nat) (pt' : Nat) (hpt' : Bool) (q' : Nat) (hq' : Bool), OKT C' D' v' kd' hm' sg' pt' q' hq' ∧
      (∀ (n : Nat) (A : cM), m + 1 < n → GC A A0 rb T tx p C D v kd hm sg pt hpt q hq → ∃ A', fX7_readInto_25 K n 4 rb (nI j) (hp ra rb L A) = K 4 rb (hp ra rb L A') ∧ GC A' A0 rb T tx T C' D' v' kd' hm' sg' pt' hpt' q' hq') ∧
      (∀ (n : Nat) (B B0 : cM) (ra rb : Nat), m + 1 < n → GM B B0 T tx p C D v kd hm sg pt hpt q → ∃ B', fX10_congress_37 K2 n 137 0 (hp ra rb L B) = K2 137 0 (hp ra rb L B') ∧ GM B' B0 T tx T C' D' v' kd' hm' sg' pt' hpt' q')) ∨
    (∃ n0 w : Nat, 1 ≤ n0 ∧ n0 ≤ 3 ∧ w ≤ T ∧
      (∀ (n : Nat) (A : cM), m + 1 < n → GC A A0 rb T tx p C D v kd hm sg pt hpt q hq → ∃ A', fX7_readInto_25 K n 4 rb (nI j) (hp ra rb L A) = K 4 rb (hp ra rb L A') ∧ FC A' A0 rb T tx n0 w) ∧
      (∀ (n : Nat) (B B0 : cM) (ra rb : Nat), m + 1 < n → GM B B0 T tx p C D v kd hm sg pt hpt q → ∃ B', fX10_congress_37 K2 n 137 0 (hp ra rb L B) = K2 137 (nI n0) (hp ra rb L B') ∧ FM B' B0 w)) := by
  intro m
  induction m with
  | zero =>
    intro p j C D v kd hm sg pt hpt q hq h1 h2 h3 h4 ho
    have : p = T := by omega
    subst this
    refine Or.inl ⟨C, D, v, kd, hm, sg, pt, hpt, q, hq, ho, fun n A hn h => ⟨A, ?_, h⟩, fun n B B0 ra rb hn h => ⟨B, ?_, h⟩⟩
    · obtain ⟨n, rfl⟩ : ∃ n', n = n' + 1 := ⟨n - 1, by omega⟩
      rw [fX7_readInto_25]
      by_cases h240 : j < 240
      · rw [if_neg (show ¬ (240 : Int32) ≤ nI j from nI_ge (b := 240) h240 (by decide)), g_4_2, h.2.1, if_pos rfl, g_4_4, h.1.2.1, g_4_1, h.1.1, if_pos (nI_le (by omega) (by omega))]
      · rw [if_pos (show (240 : Int32) ≤ nI j from nI_le (a := 240) (by omega) (by omega))]
    · obtain ⟨n, rfl⟩ : ∃ n', n = n' + 1 := ⟨n - 1, by omega⟩
      have eh : pX10_here 137 (hp ra rb L B) = some (-1, hp ra rb L B) := by
        rw [q_here hT htx h.1 (by omega), h4, u2_id h.1.2.1, show lh p tx p = -1 from if_neg (by omega)]
      rw [fX10_congress_37, if_pos rfl, v_137, m_bind_some eh, if_pos (by decide)]
  | succ m ih =>
    intro p j C D v kd hm sg pt hpt q hq h1 h2 h3 h4 ho
    by_cases hpT : p = T
    · subst hpT
      refine Or.inl ⟨C, D, v, kd, hm, sg, pt, hpt, q, hq, ho, fun n A hn h => ⟨A, ?_, h⟩, fun n B B0 ra rb hn h => ⟨B, ?_, h⟩⟩
      · obtain ⟨n, rfl⟩ : ∃ n', n = n' + 1 := ⟨n - 1, by omega⟩
        rw [fX7_readInto_25]
        by_cases h240 : j < 240
        · rw [if_neg (show ¬ (240 : Int32) ≤ nI j from nI_ge (b := 240) h240 (by decide)), g_4_2, h.2.1, if_pos rfl, g_4_4, h.1.2.1, g_4_1, h.1.1, if_pos (nI_le (by omega) (by omega))]
        · rw [if_pos (show (240 : Int32) ≤ nI j from nI_le (a := 240) (by omega) (by omega))]
      · obtain ⟨n, rfl⟩ : ∃ n', n = n' + 1 := ⟨n - 1, by omega⟩
        have eh : pX10_here 137 (hp ra rb L B) = some (-1, hp ra rb L B) := by
          rw [q_here hT htx h.1 (by omega), h4, u2_id h.1.2.1, show lh p tx p = -1 from if_neg (by omega)]
        rw [fX10_congress_37, if_pos rfl, v_137, m_bind_some eh, if_pos (by decide)]
    · have hlt : p < T := by omega
      have hl256 := htx p hlt
      have cs : ∀ (n : Nat) (A : cM), GC A A0 rb T tx p C D v kd hm sg pt hpt q hq → fX7_readInto_25 K (n + 1) 4 rb (nI j) (hp ra rb L A) = m_cv 4 6 (pX7_readClause 4 rb) (fun _ => m_cv 4 6 (pX7_skipBlanks 4) (fun _ => m_let (nI j + 1) (fun x4 => fX7_readInto_25 K n 4 rb x4))) (hp ra rb L A) := by
        intro n A h
        rw [fX7_readInto_25, if_neg (show ¬ (240 : Int32) ≤ nI j from nI_ge (b := 240) (by omega) (by decide)), g_4_2, h.2.1, if_pos rfl, g_4_4, h.1.2.1, g_4_1, h.1.1, if_neg (nI_ge hlt (by omega))]
      have ms : ∀ (n : Nat) (B B0 : cM) (ra rb : Nat), GM B B0 T tx p C D v kd hm sg pt hpt q → fX10_congress_37 K2 (n + 1) 137 0 (hp ra rb L B) = m_cv 137 9 (pX10_takeClause 137) (fun x2 => fX10_congress_37 K2 n 137 x2) (hp ra rb L B) := by
        intro n B B0 ra rb h
        have eh : pX10_here 137 (hp ra rb L B) = some (nI (tx p), hp ra rb L B) := by
          rw [q_here hT htx h.1 (by omega), h4, u2_id h.1.2.1, show lh T tx p = nI (tx p) from if_pos hlt]
        rw [fX10_congress_37, if_pos rfl, v_137, m_bind_some eh, if_neg (nI_pos (by omega))]
      rcases two_clause (ra := ra) (L := L) (A0 := A0) (hpt := hpt) hr hrb hT htx hlt h4 ho with ⟨p', C', D', v', kd', hm', sg', pt', hpt', q', hq', a1, a2, a3, a4, a5⟩ | ⟨n0, w, a1, a2, a3, a4, a5⟩
      · have hb := sk_b (tx := tx) a2
        have cs2 : ∀ (n : Nat) (A : cM), GC A A0 rb T tx p C D v kd hm sg pt hpt q hq → ∃ A1, fX7_readInto_25 K (n + 1) 4 rb (nI j) (hp ra rb L A) = fX7_readInto_25 K n 4 rb (nI (j + 1)) (hp ra rb L A1) ∧ GC A1 A0 rb T tx (sk T tx p') C' D' v' kd' hm' sg' pt' hpt' q' hq' := by
          intro n A h
          obtain ⟨A1, k1, k2⟩ := a4 A h
          refine ⟨_, ?_, k2.at hrb (sk T tx p')⟩
          rw [cs n A h, v_4, m_bind_some k1, v_4, m_bind_some (q_skip hT htx k2.1 a2), mlet, nI_1]
        -- the model skips the blanks at its next look
        have skm : ∀ (n : Nat) (B1 B0 : cM) (ra rb : Nat), GM B1 B0 T tx p' C' D' v' kd' hm' sg' pt' hpt' q' → fX10_congress_37 K2 (n + 1) 137 0 (hp ra rb L B1) = fX10_congress_37 K2 (n + 1) 137 0 (hp ra rb L (u2 B1 137 13 (nI (sk T tx p')))) := by
          intro n B1 B0 ra rb k2
          have g := k2.at (sk T tx p')
          have e2 := q_here (ra := ra) (rb := rb) (L := L) hT htx g.1 hb.2
          rw [sk_sk a2, u2_u2] at e2
          rw [fX10_congress_37, if_pos rfl, v_137, v_137, m_bind_some (q_here hT htx k2.1 a2), m_bind_some e2]
        have ms2 : ∀ (n : Nat) (B B0 : cM) (ra rb : Nat), GM B B0 T tx p C D v kd hm sg pt hpt q → ∃ B1, fX10_congress_37 K2 (n + 1 + 1) 137 0 (hp ra rb L B) = fX10_congress_37 K2 (n + 1) 137 0 (hp ra rb L B1) ∧ GM B1 B0 T tx (sk T tx p') C' D' v' kd' hm' sg' pt' hpt' q' := by
          intro n B B0 ra rb h
          obtain ⟨B1, k1, k2⟩ := a5 B B0 ra rb h
          refine ⟨_, ?_, k2.at (sk T tx p')⟩
          rw [ms (n + 1) B B0 ra rb h, v_137, m_bind_some k1, skm n B1 B0 ra rb k2]
        rcases ih (sk T tx p') (j + 1) C' D' v' kd' hm' sg' pt' hpt' q' hq' (by omega) hb.2 (by omega) (sk_sk a2) a3 with ⟨C2, D2, v2, kd2, hm2, sg2, pt2, hpt2, q2, hq2, b1, b2, b3⟩ | ⟨n0, w, b1, b2, b3, b4, b5⟩
        · refine Or.inl ⟨C2, D2, v2, kd2, hm2, sg2, pt2, hpt2, q2, hq2, b1, fun n A hn h => ?_, fun n B B0 ra rb hn h => ?_⟩
          · obtain ⟨n, rfl⟩ : ∃ n', n = n' + 1 := ⟨n - 1, by omega⟩
            obtain ⟨A1, k1, k2⟩ := cs2 n A h
            obtain ⟨A2, k3, k4⟩ := b2 n A1 (by omega) k2
            exact ⟨A2, k1.trans k3, k4⟩
          · obtain ⟨n, rfl⟩ : ∃ n', n = n' + 1 + 1 := ⟨n - 2, by omega⟩
            obtain ⟨B1, k1, k2⟩ := ms2 n B B0 ra rb h
            obtain ⟨B2, k3, k4⟩ := b3 (n + 1) B1 B0 ra rb (by omega) k2
            exact ⟨B2, k1.trans k3, k4⟩
        · refine Or.inr ⟨n0, w, b1, b2, b3, fun n A hn h => ?_, fun n B B0 ra rb hn h => ?_⟩
          · obtain ⟨n, rfl⟩ : ∃ n', n = n' + 1 := ⟨n - 1, by omega⟩
            obtain ⟨A1, k1, k2⟩ := cs2 n A h
            obtain ⟨A2, k3, k4⟩ := b4 n A1 (by omega) k2
            exact ⟨A2, k1.trans k3, k4⟩
          · obtain ⟨n, rfl⟩ : ∃ n', n = n' + 1 + 1 := ⟨n - 2, by omega⟩
            obtain ⟨B1, k1, k2⟩ := ms2 n B B0 ra rb h
            obtain ⟨B2, k3, k4⟩ := b5 (n + 1) B1 B0 ra rb (by omega) k2
            exact ⟨B2, k1.trans k3, k4⟩
      · refine Or.inr ⟨n0, w, a1, a2, a3, fun n A hn h => ?_, fun n B B0 ra rb hn h => ?_⟩
        · obtain ⟨n, rfl⟩ : ∃ n', n = n' + 1 + 1 := ⟨n - 2, by omega⟩
          obtain ⟨A1, k1, k2⟩ := a4 A h
          obtain ⟨A2, k3, k4⟩ := fc_skip (ra := ra) (L := L) hT htx k2
          refine ⟨A2, ?_, k4⟩
          rw [cs (n + 1) A h, v_4, m_bind_some k1, v_4, m_bind_some k3, mlet, nI_1, fX7_readInto_25]
          by_cases h240 : j + 1 < 240
          · rw [if_neg (show ¬ (240 : Int32) ≤ nI (j + 1) from nI_ge (b := 240) h240 (by decide)), g_4_2, k4.2.1, if_neg (nI_ne0 (by omega) (by omega))]
          · rw [if_pos (show (240 : Int32) ≤ nI (j + 1) from nI_le (a := 240) (by omega) (by omega))]
        · obtain ⟨n, rfl⟩ : ∃ n', n = n' + 1 + 1 := ⟨n - 2, by omega⟩
          obtain ⟨B1, k1, k2⟩ := a5 B B0 ra rb h
          refine ⟨B1, ?_, k2⟩
          rw [ms (n + 1) B B0 ra rb h, v_137, m_bind_some k1, fX10_congress_37, if_neg (nI_ne0 (by omega) (by omega))]
end Z4
