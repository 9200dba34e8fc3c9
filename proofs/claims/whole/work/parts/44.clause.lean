/-! the other clauses -/
def OKT (C D : Nat) (v kd hm sg : Nat → Nat) (pt q : Nat) (hq : Bool) : Prop := C ≤ 7 ∧ C ≠ 1 ∧ D ≤ 8 ∧ (C = 0 → D = 0 ∧ hq = false) ∧ (∀ c, c < C → 1 ≤ v c ∧ v c ≤ 9) ∧ (∀ d, d < D → kd d ≤ 3 ∧ hm d < C ∧ sg d < 64) ∧ pt < 64 ∧ q ≤ 63 ∧ (hq = true ↔ 1 ≤ q)
def Two (ra rb L : Nat) (A0 : cM) (T : Nat) (tx : Nat → Nat) (p C D : Nat) (v kd hm sg : Nat → Nat) (pt : Nat) (hpt : Bool) (q : Nat) (hq : Bool) (P : MM Unit) (Q : MM Int32) : Prop :=
  (∃ (p' C' D' : Nat) (v' kd' hm' sg' : Nat → Nat) (pt' : Nat) (hpt' : Bool) (q' : Nat) (hq' : Bool), p < p' ∧ p' ≤ T ∧ OKT C' D' v' kd' hm' sg' pt' q' hq' ∧
    (∀ A, GC A A0 rb T tx p C D v kd hm sg pt hpt q hq → ∃ A', P (hp ra rb L A) = some ((), hp ra rb L A') ∧ GC A' A0 rb T tx p' C' D' v' kd' hm' sg' pt' hpt' q' hq') ∧
    (∀ (B B0 : cM) (ra rb : Nat), GM B B0 T tx p C D v kd hm sg pt hpt q → ∃ B', Q (hp ra rb L B) = some (0, hp ra rb L B') ∧ GM B' B0 T tx p' C' D' v' kd' hm' sg' pt' hpt' q')) ∨
  (∃ n0 w : Nat, 1 ≤ n0 ∧ n0 ≤ 3 ∧ w ≤ T ∧
    (∀ A, GC A A0 rb T tx p C D v kd hm sg pt hpt q hq → ∃ A', P (hp ra rb L A) = some ((), hp ra rb L A') ∧ FC A' A0 rb T tx n0 w) ∧
    (∀ (B B0 : cM) (ra rb : Nat), GM B B0 T tx p C D v kd hm sg pt hpt q → ∃ B', Q (hp ra rb L B) = some (nI n0, hp ra rb L B') ∧ FM B' B0 w))
section Z2
variable {ra rb L : Nat} {A A' A0 B B' B0 : cM} {T : Nat} {tx : Nat → Nat} {p p' C D : Nat} {v kd hm sg : Nat → Nat} {pt q : Nat} {hpt hq : Bool}
theorem fc_put {n w : Nat} (hrb : 100 < rb) (h : FC A A0 rb T tx n w) (k : Nat) (x : Int32) : FC (u2 A rb k x) A0 rb T tx n w := by
  obtain ⟨⟨p, h0, h1⟩, h2, h3, h4⟩ := h
  refine ⟨⟨p, h0, h1.fr ?_ ?_ fun j => ?_⟩, ?_, ?_, fun a k' b1 b2 => ?_⟩
  · rw [u2_na _ _ (by omega)]
  · rw [u2_na _ _ (by omega)]
  · rw [u2_na _ _ (by omega)]
  · rw [u2_na _ _ (by omega)]; exact h2
  · rw [u2_na _ _ (by omega)]; exact h3
  · rw [u2_na _ _ (by omega)]; exact h4 a k' b1 b2
theorem fc_at {n w : Nat} (h : FC A A0 rb T tx n w) (hp' : p' ≤ T) : FC (u2 A 4 4 (nI p')) A0 rb T tx n w := by
  obtain ⟨⟨p, h0, h1⟩, h2, h3, h4⟩ := h
  refine ⟨⟨p', hp', h1.mv p'⟩, ?_, ?_, fun a k' b1 b2 => ?_⟩
  · rw [u2_nk _ _ (by decide)]; exact h2
  · rw [u2_nk _ _ (by decide)]; exact h3
  · rw [u2_n _ _ (by omega)]; exact h4 a k' b1 b2
theorem fc_num (hT : T ≤ 240) (htx : ∀ j, j < T → tx j < 256) {n w : Nat} (hn : 1 ≤ n) (hn3 : n ≤ 3) (h : FC A A0 rb T tx n w) {lo hi : Nat} (hlo : lo ≤ 1000) (hhi : hi ≤ 1000) : ∃ A' x, pX7_readNumber 4 (nI lo) (nI hi) (hp ra rb L A) = some (x, hp ra rb L A') ∧ FC A' A0 rb T tx n w := by
  obtain ⟨⟨p, h0, h1⟩, h2, h3, h4⟩ := h
  obtain ⟨A1, g1, g2, g3, g4, g5⟩ := num_c (ra := ra) (rb := rb) (L := L) hT htx h1 h0 hlo hhi
  have e := g4 (Or.inr (by rw [h2]; exact nI_ne0 (by omega) (by omega)))
  exact ⟨A1, _, g1, ⟨_, (pe_b h0).2.1, g2⟩, e.1.trans h2, e.2.trans h3, fun a k b1 b2 => (g3 a k b1).trans (h4 a k b1 b2)⟩
theorem fc_skip (hT : T ≤ 240) (htx : ∀ j, j < T → tx j < 256) {n w : Nat} (h : FC A A0 rb T tx n w) : ∃ A', pX7_skipBlanks 4 (hp ra rb L A) = some ((), hp ra rb L A') ∧ FC A' A0 rb T tx n w := by
  have h9 := h
  obtain ⟨⟨p, h0, h1⟩, h2, h3, h4⟩ := h
  exact ⟨_, q_skip hT htx h1 h0, fc_at h9 (sk_b h0).2⟩
theorem fc_end (hT : T ≤ 240) (htx : ∀ j, j < T → tx j < 256) {n w : Nat} (hn : 1 ≤ n) (hn3 : n ≤ 3) (h : FC A A0 rb T tx n w) : ∃ A', pX7_readEnd 4 (hp ra rb L A) = some ((), hp ra rb L A') ∧ FC A' A0 rb T tx n w := by
  have h9 := h
  obtain ⟨⟨p, h0, h1⟩, h2, h3, h4⟩ := h
  have hb := sk_b (tx := tx) h0
  have t1 := h1.mv (sk T tx p)
  have f1 := fc_at h9 hb.2
  rw [pX7_readEnd, v_4, m_bind_some (q_skip hT htx h1 h0), v_4, m_bind_some (q_letter hT t1 hb.2)]
  by_cases h59 : lh T tx (sk T tx p) = 59
  · have hlt : sk T tx p < T := ((lh_32 (c := 59) htx (by decide)).mp h59).1
    refine ⟨_, ?_, fc_at f1 (p' := sk T tx p + 1) (by omega)⟩
    rw [if_pos h59, g_4_4, t1.2.1, nI_1, p_4_4]
    rfl
  · refine ⟨_, ?_, f1⟩
    rw [if_neg h59, g_4_4, v_4, m_bind_some (q_fail1 (by rw [f1.2.1]; exact nI_ne0 (by omega) (by omega)) _ _)]
    rfl
theorem gc_num (hrb : 100 < rb) (hT : T ≤ 240) (htx : ∀ j, j < T → tx j < 256) (hpT : p ≤ T) (h : GC A A0 rb T tx p C D v kd hm sg pt hpt q hq) {lo hi : Nat} (hlo : lo ≤ 1000) (hhi : hi ≤ 1000) : ∃ A', pX7_readNumber 4 (nI lo) (nI hi) (hp ra rb L A) = some (nI (val T tx p), hp ra rb L A') ∧ (nc T tx lo hi p = 0 → GC A' A0 rb T tx (pe T tx p) C D v kd hm sg pt hpt q hq) ∧ (nc T tx lo hi p ≠ 0 → FC A' A0 rb T tx (nc T tx lo hi p) (sk T tx p)) := by
  obtain ⟨A1, g1, g2, g3, g4, g5⟩ := num_c (ra := ra) (rb := rb) (L := L) hT htx h.1 hpT hlo hhi
  exact ⟨A1, g1, fun z => h.mv hrb g2 (g4 (Or.inl z)).1 (g4 (Or.inl z)).2 g3, fun z => ⟨⟨_, (pe_b hpT).2.1, g2⟩, (g5 z h.2.1).1, (g5 z h.2.1).2, fun a k b1 b2 => (g3 a k b1).trans (h.2.2.2.2.2.2.2.2 a k b1 b2)⟩⟩
theorem gc_end (hrb : 100 < rb) (hT : T ≤ 240) (htx : ∀ j, j < T → tx j < 256) (hpT : p ≤ T) (h : GC A A0 rb T tx p C D v kd hm sg pt hpt q hq) : ∃ A', pX7_readEnd 4 (hp ra rb L A) = some ((), hp ra rb L A') ∧ (lh T tx (sk T tx p) = 59 → GC A' A0 rb T tx (sk T tx p + 1) C D v kd hm sg pt hpt q hq) ∧ (lh T tx (sk T tx p) ≠ 59 → FC A' A0 rb T tx 1 (sk T tx p)) := by
  have hb := sk_b (tx := tx) hpT
  have g := h.at hrb (sk T tx p)
  rw [pX7_readEnd, v_4, m_bind_some (q_skip hT htx h.1 hpT), v_4, m_bind_some (q_letter hT g.1 hb.2)]
  by_cases h59 : lh T tx (sk T tx p) = 59
  · refine ⟨_, ?_, fun _ => g.at hrb (sk T tx p + 1), fun z => absurd h59 z⟩
    rw [if_pos h59, g_4_4, g.1.2.1, nI_1, p_4_4]
    rfl
  · obtain ⟨A', f1, f2⟩ := gc_fail (ra := ra) (L := L) g hb.2 1 (sk T tx p)
    refine ⟨A', ?_, fun z => absurd z h59, fun _ => f2⟩
    rw [if_neg h59, g_4_4, g.1.2.1, v_4]
    exact (m_bind_some f1).trans rfl
theorem gm_tail (hT : T ≤ 240) (htx : ∀ j, j < T → tx j < 256) (hpT : p ≤ T) (h : GM B B0 T tx p C D v kd hm sg pt hpt q) : (lh T tx (sk T tx p) = 59 → ∃ B', fX10_takeClause_139 137 0 (hp ra rb L B) = some (0, hp ra rb L B') ∧ GM B' B0 T tx (sk T tx p + 1) C D v kd hm sg pt hpt q) ∧ (lh T tx (sk T tx p) ≠ 59 → ∃ B', fX10_takeClause_139 137 0 (hp ra rb L B) = some (nI 1, hp ra rb L B') ∧ FM B' B0 (sk T tx p)) := by
  have g := h.at (sk T tx p)
  refine ⟨fun h59 => ?_, fun h59 => ?_⟩
  · refine ⟨_, ?_, g.at (sk T tx p + 1)⟩
    rw [fX10_takeClause_139, if_pos rfl, v_137, m_bind_some (q_here hT htx h.1 hpT), if_pos h59, fX10_takeClause_163, g_137_13, g.1.2.1, nI_1, p_137_13]
    rfl
  · obtain ⟨f1, f2⟩ := gm_fail (ra := ra) (rb := rb) (L := L) g 1 (sk T tx p)
    refine ⟨_, ?_, f2⟩
    rw [fX10_takeClause_139, if_pos rfl, v_137, m_bind_some (q_here hT htx h.1 hpT), if_neg h59, g_137_13, g.1.2.1, v_137]
    exact (m_bind_some f1).trans rfl
theorem fm_tail {n w : Nat} (hn : 1 ≤ n) (hn3 : n ≤ 3) (h : FM B B0 w) : ∃ B', fX10_takeClause_139 137 (nI n) (hp ra rb L B) = some (nI n, hp ra rb L B') ∧ FM B' B0 w := by
  refine ⟨u2 B 137 13 (B 137 13 + 1), ?_, ?_, fun a k b1 b2 => ?_⟩
  · rw [fX10_takeClause_139, if_neg (nI_ne0 (by omega) (by omega)), fX10_takeClause_163, g_137_13, p_137_13]
    rfl
  · rw [u2_nk _ _ (by decide)]
    exact h.1
  · rw [u2_n _ _ (by omega)]
    exact h.2 a k b1 b2
theorem gc_doll (hr : c_rl rb) (hrb : 100 < rb) (hD : D < 8) (h : GC A A0 rb T tx p C D v kd hm sg pt hpt q hq) (x y z : Nat) : ∃ A', pX4_addDoll rb (nI x) (nI y) (nI z) (hp ra rb L A) = some ((), hp ra rb L A') ∧ GC A' A0 rb T tx p C (D + 1) v (up1 kd D x) (up1 hm D y) (up1 sg D z) pt hpt q hq := by
  obtain ⟨h1, h2, h3, h4, h5, h6, h7, ⟨h8, h9, h10, h11⟩, h12⟩ := h
  obtain ⟨A1, hA1⟩ : ∃ A1, A1 = u2 (u2 (u2 (u2 A (rb + 2) D (nI x)) (rb + 3) D (nI y)) (rb + 4) D (nI z)) rb 6 (nI (D + 1)) := ⟨_, rfl⟩
  have f : ∀ a k, a < rb ∨ rb + 4 < a ∨ a = rb + 1 ∨ (a = rb ∧ k ≠ 6) ∨ (a ≠ rb ∧ k ≠ D) → A1 a k = A a k := fun a k b => by
    rw [hA1, u2_n _ _ (by omega), u2_n _ _ (by omega), u2_n _ _ (by omega), u2_n _ _ (by omega)]
  refine ⟨A1, ?_, h1.fr ?_ ?_ fun j => ?_, ?_, ?_, ?_, ?_, fun c hc => ?_, fun d hd => ?_, ⟨?_, ?_, ?_, ?_⟩, fun a k' b1 b2 => ?_⟩
  · rw [pX4_addDoll, rg_6 hr, h5, if_neg (show ¬ (8 : Int32) ≤ nI D from nI_ge (b := 8) hD (by decide)), rg_1 hr, rg_6 hr, h5, rs_2 hr hD, rg_2 hr, rg_6 hr, u2_na _ _ (by omega), h5, rs_3 hr hD, rg_3 hr, rg_6 hr, u2_na _ _ (by omega), u2_na _ _ (by omega), h5, rs_4 hr hD, rg_6 hr, u2_na _ _ (by omega), u2_na _ _ (by omega), u2_na _ _ (by omega), h5, nI_1, rp_6_ hr, hA1]
    rfl
  · exact f _ _ (by omega)
  · exact f _ _ (by omega)
  · exact f _ _ (by omega)
  · rw [f _ _ (by omega)]; exact h2
  · rw [f _ _ (by omega)]; exact h3
  · rw [f _ _ (by omega)]; exact h4
  · rw [hA1, u2_s]
  · rw [f _ _ (by omega)]; exact h6 c hc
  · unfold up1
    by_cases hq : d = D
    · rw [if_pos hq, if_pos hq, if_pos hq, hq, hA1]
      refine ⟨?_, ?_, ?_⟩
      · rw [u2_na _ _ (by omega), u2_na _ _ (by omega), u2_na _ _ (by omega), u2_s]
      · rw [u2_na _ _ (by omega), u2_na _ _ (by omega), u2_s]
      · rw [u2_na _ _ (by omega), u2_s]
    · rw [if_neg hq, if_neg hq, if_neg hq, f _ _ (by omega), f _ _ (by omega), f _ _ (by omega)]
      exact h7 d (by omega)
  · rw [f _ _ (by omega)]; exact h8
  · rw [f _ _ (by omega)]; exact h9
  · rw [f _ _ (by omega)]; exact h10
  · rw [f _ _ (by omega)]; exact h11
  · rw [f _ _ (by omega)]; exact h12 a k' b1 b2
/-- the class's doll clause behind its letter -/
theorem dollC (hr : c_rl rb) (hrb : 100 < rb) (hT : T ≤ 240) (htx : ∀ j, j < T → tx j < 256) (hp1 : p < T) (hC0 : 1 ≤ C) (hC : C ≤ 7) (hD : D < 8) (h : GC A A0 rb T tx p C D v kd hm sg pt hpt q hq) {n1 n2 n3 p1 p2 p3 : Nat} (e1 : n1 = nc T tx 0 3 (p + 1)) (e2 : p1 = pe T tx (p + 1)) (e3 : n2 = nc T tx 0 (C - 1) p1) (e4 : p2 = pe T tx p1) (e5 : n3 = nc T tx 0 63 p2) (e6 : p3 = pe T tx p2) :
    ∃ A', pX7_readDoll 4 rb (hp ra rb L A) = some ((), hp ra rb L A') ∧ (n1 = 0 → n2 = 0 → n3 = 0 → lh T tx (sk T tx p3) = 59 → GC A' A0 rb T tx (sk T tx p3 + 1) C (D + 1) v (up1 kd D (val T tx (p + 1))) (up1 hm D (val T tx p1)) (up1 sg D (val T tx p2)) pt hpt q hq) ∧ (n1 ≠ 0 → FC A' A0 rb T tx n1 (sk T tx (p + 1))) ∧ (n1 = 0 → n2 ≠ 0 → FC A' A0 rb T tx n2 (sk T tx p1)) ∧ (n1 = 0 → n2 = 0 → n3 ≠ 0 → FC A' A0 rb T tx n3 (sk T tx p2)) ∧ (n1 = 0 → n2 = 0 → n3 = 0 → lh T tx (sk T tx p3) ≠ 59 → FC A' A0 rb T tx 1 (sk T tx p3)) := by
  have l1 : n1 ≤ 2 := by rw [e1]; exact nc_le _ _ _
  have l2 : n2 ≤ 2 := by rw [e3]; exact nc_le _ _ _
  have l3 : n3 ≤ 2 := by rw [e5]; exact nc_le _ _ _
  have b1 : p1 ≤ T := by rw [e2]; exact (pe_b (by omega)).2.1
  have b2 : p2 ≤ T := by rw [e4]; exact (pe_b b1).2.1
  have b3 : p3 ≤ T := by rw [e6]; exact (pe_b b2).2.1
  have g0 := h.at hrb (p + 1)
  have eC : nI C - 1 = nI (C - 1) := pk_sub (a := C) (b := 1) hC0
  -- what the rest does, from a fault on
  have fin : ∀ (A : cM) (x3 x5 x6 : Int32) (n w : Nat), 1 ≤ n → n ≤ 3 → FC A A0 rb T tx n w → ∃ A', m_cv 4 6 (pX7_readEnd 4) (fun _ => m_gi 4 6 2 (fun x7 => if x7 = 0 then (m_cv rb 4 (pX4_addDoll rb x3 x5 x6) (fun _ => m_ret ())) else (m_ret ()))) (hp ra rb L A) = some ((), hp ra rb L A') ∧ FC A' A0 rb T tx n w := by
    intro A x3 x5 x6 n w c1 c2 hF
    obtain ⟨A1, k1, k2⟩ := fc_end (ra := ra) (L := L) hT htx c1 c2 hF
    refine ⟨A1, ?_, k2⟩
    rw [v_4, m_bind_some k1, g_4_2, k2.2.1, if_neg (nI_ne0 (by omega) (by omega))]
    rfl
  obtain ⟨A1, k1, k2, k3⟩ := gc_num (ra := ra) (L := L) hrb hT htx (by omega) g0 (lo := 0) (hi := 3) (by decide) (by decide)
  rw [← e1] at k2 k3
  rw [← e2] at k2
  have c5 : A1 rb 5 = nI C := by
    by_cases z : n1 = 0
    · exact (k2 z).2.2.2.1
    · obtain ⟨A1', j1, j2, j3, j4, j5⟩ := num_c (ra := ra) (rb := rb) (L := L) hT htx g0.1 (by omega) (lo := 0) (hi := 3) (by decide) (by decide)
      rw [k1] at j1
      have e := congrArg Prod.snd (Option.some.inj j1)
      have e' : hp ra rb L A1 = hp ra rb L A1' := e
      have q1 : A1 rb 5 = A1' rb 5 := by
        have o1 := rg_5 (I := A1) (ra := ra) (rb := rb) (L := L) (K := fun x => m_ret x) hr
        have o2 := rg_5 (I := A1') (ra := ra) (rb := rb) (L := L) (K := fun x => m_ret x) hr
        rw [e'] at o1
        exact congrArg Prod.fst (Option.some.inj (o1.symm.trans o2))
      rw [q1, j3 _ _ (by omega)]
      exact g0.2.2.2.1
  have pre : pX7_readDoll 4 rb (hp ra rb L A) = m_cv 4 6 (pX7_readNumber 4 (0 : Int32) (nI (C - 1))) (fun x5 => m_cv 4 6 (pX7_readNumber 4 (0 : Int32) (63 : Int32)) (fun x6 => m_cv 4 6 (pX7_readEnd 4) (fun _ => m_gi 4 6 2 (fun x7 => if x7 = 0 then (m_cv rb 4 (pX4_addDoll rb (nI (val T tx (p + 1))) x5 x6) (fun _ => m_ret ())) else (m_ret ()))))) (hp ra rb L A1) := by
    rw [pX7_readDoll, rg_6 hr, h.2.2.2.2.1, if_pos (show nI D < 8 from nI_lt (b := 8) hD (by decide)), g_4_4, h.1.2.1, nI_1, p_4_4, v_4]
    refine (m_bind_some k1).trans ?_
    rw [rg_5 hr, c5, eC]
  rw [pre]
  by_cases z1 : n1 = 0
  · obtain ⟨A2, k4, k5, k6⟩ := gc_num (ra := ra) (L := L) hrb hT htx b1 (k2 z1) (lo := 0) (hi := C - 1) (by decide) (by omega)
    rw [← e3] at k5 k6
    rw [← e4] at k5
    rw [v_4]
    rw [show m_bind (pX7_readNumber 4 (0 : Int32) (nI (C - 1))) (fun x5 => m_cv 4 6 (pX7_readNumber 4 (0 : Int32) (63 : Int32)) (fun x6 => m_cv 4 6 (pX7_readEnd 4) (fun _ => m_gi 4 6 2 (fun x7 => if x7 = 0 then (m_cv rb 4 (pX4_addDoll rb (nI (val T tx (p + 1))) x5 x6) (fun _ => m_ret ())) else (m_ret ()))))) (hp ra rb L A1) = _ from m_bind_some k4, v_4]
    by_cases z2 : n2 = 0
    · obtain ⟨A3, k7, k8, k9⟩ := gc_num (ra := ra) (L := L) hrb hT htx b2 (k5 z2) (lo := 0) (hi := 63) (by decide) (by decide)
      rw [← e5] at k8 k9
      rw [← e6] at k8
      rw [show m_bind (pX7_readNumber 4 (0 : Int32) (63 : Int32)) (fun x6 => m_cv 4 6 (pX7_readEnd 4) (fun _ => m_gi 4 6 2 (fun x7 => if x7 = 0 then (m_cv rb 4 (pX4_addDoll rb (nI (val T tx (p + 1))) (nI (val T tx p1)) x6) (fun _ => m_ret ())) else (m_ret ())))) (hp ra rb L A2) = _ from m_bind_some k7]
      by_cases z3 : n3 = 0
      · obtain ⟨A4, m1, m2, m3⟩ := gc_end (ra := ra) (L := L) hrb hT htx b3 (k8 z3)
        rw [v_4, m_bind_some m1, g_4_2]
        by_cases h59 : lh T tx (sk T tx p3) = 59
        · obtain ⟨A5, m4, m5⟩ := gc_doll (ra := ra) (L := L) hr hrb hD (m2 h59) (val T tx (p + 1)) (val T tx p1) (val T tx p2)
          refine ⟨A5, ?_, fun _ _ _ _ => m5, fun z => absurd z1 z, fun _ z => absurd z2 z, fun _ _ z => absurd z3 z, fun _ _ _ z => absurd h59 z⟩
          rw [(m2 h59).2.1, if_pos rfl, rv hr, m_bind_some m4]
          rfl
        · refine ⟨A4, ?_, fun _ _ _ z => absurd z h59, fun z => absurd z1 z, fun _ z => absurd z2 z, fun _ _ z => absurd z3 z, fun _ _ _ _ => m3 h59⟩
          rw [(m3 h59).2.1, if_neg (nI_ne0 (by decide) (by decide))]
          rfl
      · obtain ⟨A4, m1, m2⟩ := fin A3 (nI (val T tx (p + 1))) (nI (val T tx p1)) (nI (val T tx p2)) n3 (sk T tx p2) (by omega) (by omega) (k9 z3)
        exact ⟨A4, m1, fun _ _ z => absurd z z3, fun z => absurd z1 z, fun _ z => absurd z2 z, fun _ _ _ => m2, fun _ _ z => absurd z z3⟩
    · obtain ⟨A3, x, j1, j2⟩ := fc_num (ra := ra) (L := L) hT htx (by omega) (by omega) (k6 z2) (lo := 0) (hi := 63) (by decide) (by decide)
      obtain ⟨A4, m1, m2⟩ := fin A3 (nI (val T tx (p + 1))) (nI (val T tx p1)) x n2 (sk T tx p1) (by omega) (by omega) j2
      exact ⟨A4, (m_bind_some j1).trans m1, fun _ z => absurd z z2, fun z => absurd z1 z, fun _ _ => m2, fun _ z => absurd z z2, fun _ z => absurd z z2⟩
  · obtain ⟨A2, x, j1, j2⟩ := fc_num (ra := ra) (L := L) hT htx (by omega) (by omega) (k3 z1) (lo := 0) (hi := C - 1) (by decide) (by omega)
    obtain ⟨A3, x', j3, j4⟩ := fc_num (ra := ra) (L := L) hT htx (by omega) (by omega) j2 (lo := 0) (hi := 63) (by decide) (by decide)
    obtain ⟨A4, m1, m2⟩ := fin A3 (nI (val T tx (p + 1))) x x' n1 (sk T tx (p + 1)) (by omega) (by omega) j4
    refine ⟨A4, ?_, fun z => absurd z z1, fun _ => m2, fun z => absurd z z1, fun z => absurd z z1, fun z => absurd z z1⟩
    rw [v_4]
    refine (m_bind_some j1).trans ?_
    rw [v_4]
    exact (m_bind_some j3).trans m1
end Z2
