/-! reading courts -/
def frC (A A0 : cM) (rb : Nat) : Prop := ∀ a k, ¬ (a = 4 ∧ 2 ≤ k) → ¬ (rb ≤ a ∧ a ≤ rb + 5) → A a k = A0 a k
def frM (B B0 : cM) : Prop := ∀ a k, ¬ (a = 137 ∧ 12 ≤ k ∧ k ≤ 24) → ¬ (144 ≤ a ∧ a ≤ 147) → B a k = B0 a k
def GC (A A0 : cM) (rb T : Nat) (tx : Nat → Nat) (p C D : Nat) (v kd hm sg : Nat → Nat) (pt : Nat) (hpt : Bool) (q : Nat) (hq : Bool) : Prop :=
  TC A T tx p ∧ A 4 2 = 0 ∧ A 4 3 = -1 ∧ A rb 5 = nI C ∧ A rb 6 = nI D ∧ (∀ c, c < C → A (rb + 1) c = nI (v c)) ∧ (∀ d, d < D → A (rb + 2) d = nI (kd d) ∧ A (rb + 3) d = nI (hm d) ∧ A (rb + 4) d = nI (sg d)) ∧ (A rb 7 = nI pt ∧ A rb 9 = bi hpt ∧ A rb 8 = nI q ∧ A rb 10 = bi hq) ∧ frC A A0 rb
def FC (A A0 : cM) (rb T : Nat) (tx : Nat → Nat) (n w : Nat) : Prop := (∃ p, p ≤ T ∧ TC A T tx p) ∧ A 4 2 = nI n ∧ A 4 3 = nI w ∧ frC A A0 rb
def GM (B B0 : cM) (T : Nat) (tx : Nat → Nat) (p C D : Nat) (v kd hm sg : Nat → Nat) (pt : Nat) (hpt : Bool) (q : Nat) : Prop :=
  TM B T tx p ∧ B 137 12 = -1 ∧ B 137 16 = nI C ∧ B 137 18 = nI D ∧ (∀ c, c < C → B 144 c = nI (v c)) ∧ (∀ d, d < D → B 145 d = nI (kd d) ∧ B 146 d = nI (hm d) ∧ B 147 d = nI (sg d)) ∧ (B 137 22 = bi hpt ∧ B 137 23 = nI pt ∧ B 137 24 = nI q) ∧ frM B B0
def FM (B B0 : cM) (w : Nat) : Prop := B 137 12 = nI w ∧ frM B B0
section Z1
variable {ra rb L : Nat} {A A' A0 B B' B0 : cM} {T : Nat} {tx : Nat → Nat} {p p' C D : Nat} {v kd hm sg : Nat → Nat} {pt q : Nat} {hpt hq : Bool}
theorem GC.mv (h : GC A A0 rb T tx p C D v kd hm sg pt hpt q hq) (hrb : 100 < rb) (t : TC A' T tx p') (e2 : A' 4 2 = A 4 2) (e3 : A' 4 3 = A 4 3) (f : ∀ a k, ¬ (a = 4 ∧ 2 ≤ k) → A' a k = A a k) : GC A' A0 rb T tx p' C D v kd hm sg pt hpt q hq := by
  obtain ⟨h1, h2, h3, h4, h5, h6, h7, ⟨h8, h9, h10, h11⟩, h12⟩ := h
  refine ⟨t, e2.trans h2, e3.trans h3, ?_, ?_, fun c hc => ?_, fun d hd => ⟨?_, ?_, ?_⟩, ⟨?_, ?_, ?_, ?_⟩, fun a k b1 b2 => (f a k b1).trans (h12 a k b1 b2)⟩
  · rw [f _ _ (by omega)]; exact h4
  · rw [f _ _ (by omega)]; exact h5
  · rw [f _ _ (by omega)]; exact h6 c hc
  · rw [f _ _ (by omega)]; exact (h7 d hd).1
  · rw [f _ _ (by omega)]; exact (h7 d hd).2.1
  · rw [f _ _ (by omega)]; exact (h7 d hd).2.2
  · rw [f _ _ (by omega)]; exact h8
  · rw [f _ _ (by omega)]; exact h9
  · rw [f _ _ (by omega)]; exact h10
  · rw [f _ _ (by omega)]; exact h11
theorem GM.mv (h : GM B B0 T tx p C D v kd hm sg pt hpt q) (t : TM B' T tx p') (e : B' 137 12 = B 137 12) (f : ∀ a k, ¬ (a = 137 ∧ 12 ≤ k ∧ k ≤ 15) → B' a k = B a k) : GM B' B0 T tx p' C D v kd hm sg pt hpt q := by
  obtain ⟨h1, h2, h3, h4, h5, h6, ⟨h7, h8, h9⟩, h10⟩ := h
  refine ⟨t, e.trans h2, ?_, ?_, fun c hc => ?_, fun d hd => ⟨?_, ?_, ?_⟩, ⟨?_, ?_, ?_⟩, fun a k b1 b2 => (f a k (by omega)).trans (h10 a k b1 b2)⟩
  · rw [f _ _ (by omega)]; exact h3
  · rw [f _ _ (by omega)]; exact h4
  · rw [f _ _ (by omega)]; exact h5 c hc
  · rw [f _ _ (by omega)]; exact (h6 d hd).1
  · rw [f _ _ (by omega)]; exact (h6 d hd).2.1
  · rw [f _ _ (by omega)]; exact (h6 d hd).2.2
  · rw [f _ _ (by omega)]; exact h7
  · rw [f _ _ (by omega)]; exact h8
  · rw [f _ _ (by omega)]; exact h9
/-- the class moves on -/
theorem GC.at (h : GC A A0 rb T tx p C D v kd hm sg pt hpt q hq) (hrb : 100 < rb) (p' : Nat) : GC (u2 A 4 4 (nI p')) A0 rb T tx p' C D v kd hm sg pt hpt q hq := h.mv hrb (h.1.mv p') (by rw [u2_nk _ _ (by decide)]) (by rw [u2_nk _ _ (by decide)]) (fun a k b => by rw [u2_n _ _ (by omega)])
theorem GM.at (h : GM B B0 T tx p C D v kd hm sg pt hpt q) (p' : Nat) : GM (u2 B 137 13 (nI p')) B0 T tx p' C D v kd hm sg pt hpt q := h.mv (h.1.mv p') (by rw [u2_nk _ _ (by decide)]) (fun a k b => by rw [u2_n _ _ (by omega)])
/-- the class fails -/
theorem gc_fail (h : GC A A0 rb T tx p C D v kd hm sg pt hpt q hq) (hpT : p ≤ T) (n w : Nat) : ∃ A', pX7_fail 4 (nI n) (nI w) (hp ra rb L A) = some ((), hp ra rb L A') ∧ FC A' A0 rb T tx n w := by
  obtain ⟨A', g1, g2, g3, g4, g5⟩ := fail_c (ra := ra) (rb := rb) (L := L) h.1 (nI n) (nI w)
  exact ⟨A', g1, ⟨p, hpT, g2⟩, (g5 h.2.1).1, (g5 h.2.1).2, fun a k b1 b2 => (g3 a k b1).trans (h.2.2.2.2.2.2.2.2 a k b1 b2)⟩
theorem gm_fail (h : GM B B0 T tx p C D v kd hm sg pt hpt q) (n w : Nat) : pX10_fails 137 (nI n) (nI w) (hp ra rb L B) = some (nI n, hp ra rb L (u2 B 137 12 (nI w))) ∧ FM (u2 B 137 12 (nI w)) B0 w := by
  refine ⟨?_, u2_s _ _ _ _, fun a k b1 b2 => by rw [u2_n _ _ (by omega)]; exact h.2.2.2.2.2.2.2 a k b1 b2⟩
  rw [pX10_fails, p_137_12]
  rfl
/-- a number goes into a row of the model -/
theorem into_m (hT : T ≤ 240) (htx : ∀ j, j < T → tx j < 256) (h : TM B T tx p) (hpT : p ≤ T) {lo hi a k : Nat} (hlo : lo ≤ 1000) (hhi : hi ≤ 1000) (ha : 144 ≤ a) (hs : ∀ (J : cM) (x : Int32) (K : MM Int32), m_si a (nI k) x K (hp ra rb L J) = K (hp ra rb L (u2 J a k x))) : ∃ B', pX10_into 137 a (nI k) (nI lo) (nI hi) (hp ra rb L B) = some (nI (nc T tx lo hi p), hp ra rb L B') ∧ TM B' T tx (pe T tx p) ∧ (∀ a' k', ¬ (a' = 137 ∧ 12 ≤ k' ∧ k' ≤ 15) → ¬ (a' = a ∧ k' = k) → B' a' k' = B a' k') ∧ (nc T tx lo hi p = 0 → B' a k = nI (val T tx p) ∧ B' 137 12 = B 137 12) ∧ (nc T tx lo hi p ≠ 0 → B' 137 12 = nI (sk T tx p)) := by
  obtain ⟨B1, g1, g2, g3, g4, g5⟩ := num_m (ra := ra) (rb := rb) (L := L) hT htx h hpT hlo hhi
  refine ⟨u2 B1 a k (B1 137 14), ?_, g2.fr ?_ ?_ fun j => ?_, fun a' k' b1 b2 => ?_, fun z => ⟨?_, ?_⟩, fun z => ?_⟩
  · rw [pX10_into, v_137, m_bind_some g1, g_137_14, hs]
    rfl
  · rw [u2_na _ _ (by omega)]
  · rw [u2_na _ _ (by omega)]
  · rw [u2_na _ _ (by omega)]
  · rw [u2_n _ _ b2]
    exact g3 a' k' b1
  · rw [u2_s]
    exact (g4 z).1
  · rw [u2_na _ _ (by omega)]
    exact (g4 z).2
  · rw [u2_na _ _ (by omega)]
    exact g5 z
/-- a court's votes are added -/
theorem gc_court (hr : c_rl rb) (hrb : 100 < rb) {k : Nat} (hk : k < 7) (h : GC A A0 rb T tx p k D v kd hm sg pt hpt q hq) (x : Nat) : ∃ A', pX4_addCourt rb (nI x) (hp ra rb L A) = some ((), hp ra rb L A') ∧ GC A' A0 rb T tx p (k + 1) D (up1 v k x) kd hm sg pt hpt q hq := by
  obtain ⟨h1, h2, h3, h4, h5, h6, h7, ⟨h8, h9, h10, h11⟩, h12⟩ := h
  refine ⟨u2 (u2 A (rb + 1) k (nI x)) rb 5 (nI (k + 1)), ?_, h1.fr ?_ ?_ fun j => ?_, ?_, ?_, u2_s _ _ _ _, ?_, fun c hc => ?_, fun d hd => ⟨?_, ?_, ?_⟩, ⟨?_, ?_, ?_, ?_⟩, fun a k' b1 b2 => ?_⟩
  · rw [pX4_addCourt, rg_5 hr, h4, if_neg (show ¬ (7 : Int32) ≤ nI k from nI_ge (b := 7) hk (by decide)), rg_0 hr, rg_5 hr, h4, rs_1 hr hk, rg_5 hr, u2_na _ _ (by omega), h4, nI_1, rp_5_ hr]
    rfl
  · rw [u2_na _ _ (by omega), u2_na _ _ (by omega)]
  · rw [u2_na _ _ (by omega), u2_na _ _ (by omega)]
  · rw [u2_na _ _ (by omega), u2_na _ _ (by omega)]
  · rw [u2_na _ _ (by omega), u2_na _ _ (by omega)]; exact h2
  · rw [u2_na _ _ (by omega), u2_na _ _ (by omega)]; exact h3
  · rw [u2_nk _ _ (by omega), u2_na _ _ (by omega)]; exact h5
  · rw [u2_na _ _ (by omega)]
    unfold up1
    by_cases hq : c = k
    · rw [if_pos hq, hq, u2_s]
    · rw [if_neg hq, u2_nk _ _ hq]
      exact h6 c (by omega)
  · rw [u2_na _ _ (by omega), u2_na _ _ (by omega)]; exact (h7 d hd).1
  · rw [u2_na _ _ (by omega), u2_na _ _ (by omega)]; exact (h7 d hd).2.1
  · rw [u2_na _ _ (by omega), u2_na _ _ (by omega)]; exact (h7 d hd).2.2
  · rw [u2_nk _ _ (by omega), u2_na _ _ (by omega)]; exact h8
  · rw [u2_nk _ _ (by omega), u2_na _ _ (by omega)]; exact h9
  · rw [u2_nk _ _ (by omega), u2_na _ _ (by omega)]; exact h10
  · rw [u2_nk _ _ (by omega), u2_na _ _ (by omega)]; exact h11
  · rw [u2_n _ _ (by omega), u2_n _ _ (by omega)]
    exact h12 a k' b1 b2
/-- what stands behind the votes of a court, in the class -/
theorem mark_c (hr : c_rl rb) (hrb : 100 < rb) (hT : T ≤ 240) (htx : ∀ j, j < T → tx j < 256) (hpT : p ≤ T) {k : Nat} (hk : k < 7) (h : GC A A0 rb T tx p (k + 1) D v kd hm sg pt hpt q hq) :
    (lh T tx (sk T tx p) = 44 ∧ k + 1 < 7 → ∃ A', pX7_readCourtsMark 4 rb (hp ra rb L A) = some (1, hp ra rb L A') ∧ GC A' A0 rb T tx (sk T tx p + 1) (k + 1) D v kd hm sg pt hpt q hq) ∧
    (lh T tx (sk T tx p) = 59 ∧ 1 ≤ k → ∃ A', pX7_readCourtsMark 4 rb (hp ra rb L A) = some (0, hp ra rb L A') ∧ GC A' A0 rb T tx (sk T tx p + 1) (k + 1) D v kd hm sg pt hpt q hq) ∧
    (¬ (lh T tx (sk T tx p) = 44 ∧ k + 1 < 7) → ¬ (lh T tx (sk T tx p) = 59 ∧ 1 ≤ k) → ∃ A', pX7_readCourtsMark 4 rb (hp ra rb L A) = some (0, hp ra rb L A') ∧ FC A' A0 rb T tx 1 (sk T tx p)) := by
  have hb := sk_b (tx := tx) hpT
  have g := h.at hrb (sk T tx p)
  have e0 : pX7_readCourtsMark 4 rb (hp ra rb L A) = (if lh T tx (sk T tx p) = (44 : Int32) then (m_gi rb 4 5 (fun x2 => if (7 : Int32) ≤ x2 then (fX7_readCourtsMark_28 fX7_readCourtsMark_29 4 rb (lh T tx (sk T tx p))) else (fX7_readCourtsMark_29 4 rb (lh T tx (sk T tx p)) 1))) else (fX7_readCourtsMark_28 fX7_readCourtsMark_29 4 rb (lh T tx (sk T tx p)))) (hp ra rb L (u2 A 4 4 (nI (sk T tx p)))) := by
    rw [pX7_readCourtsMark, v_4, m_bind_some (q_skip hT htx h.1 hpT), v_4, m_bind_some (q_letter hT g.1 hb.2)]
  obtain ⟨A1, hA1⟩ : ∃ A1, A1 = u2 A 4 4 (nI (sk T tx p)) := ⟨_, rfl⟩
  rw [← hA1] at g e0
  have g5 := g.2.2.2.1
  have fin : ∀ x : Int32, (x = 0 ∨ x = 1) → ∃ A', fX7_readCourtsMark_71 4 x (hp ra rb L A1) = some (x, hp ra rb L A') ∧ GC A' A0 rb T tx (sk T tx p + 1) (k + 1) D v kd hm sg pt hpt q hq := by
    intro x hx
    refine ⟨_, ?_, g.at hrb (sk T tx p + 1)⟩
    rw [fX7_readCourtsMark_71, g_4_4, g.1.2.1, nI_1, p_4_4]
    rcases hx with rfl | rfl <;> rfl
  have bad : ∃ A', fX7_readCourtsMark_49 4 0 0 (hp ra rb L A1) = some (0, hp ra rb L A') ∧ FC A' A0 rb T tx 1 (sk T tx p) := by
    obtain ⟨A', f1, f2⟩ := gc_fail (ra := ra) (L := L) g hb.2 1 (sk T tx p)
    refine ⟨A', ?_, f2⟩
    rw [fX7_readCourtsMark_49, if_pos rfl, if_pos rfl, g_4_4, g.1.2.1, v_4]
    exact (m_bind_some f1).trans rfl
  refine ⟨fun ⟨h1, h2⟩ => ?_, fun ⟨h1, h2⟩ => ?_, fun h1 h2 => ?_⟩
  · obtain ⟨A', f1, f2⟩ := fin 1 (Or.inr rfl)
    refine ⟨A', ?_, f2⟩
    rw [e0, if_pos h1, rg_5 hr, g5, if_neg (show ¬ (7 : Int32) ≤ nI (k + 1) from nI_ge (b := 7) h2 (by decide)), fX7_readCourtsMark_29, h1, if_neg (by decide), fX7_readCourtsMark_48, fX7_readCourtsMark_49, if_neg ne10]
    exact f1
  · obtain ⟨A', f1, f2⟩ := fin 0 (Or.inl rfl)
    refine ⟨A', ?_, f2⟩
    rw [e0, h1, if_neg (by decide), fX7_readCourtsMark_28, fX7_readCourtsMark_29, if_pos rfl, rg_5 hr, g5, if_neg (show ¬ nI (k + 1) ≤ 1 from nI_ge (a := 1) (by omega) (by omega)), fX7_readCourtsMark_49, if_pos rfl, if_neg ne10]
    exact f1
  · obtain ⟨A', f1, f2⟩ := bad
    refine ⟨A', ?_, f2⟩
    have e29 : fX7_readCourtsMark_29 4 rb (lh T tx (sk T tx p)) 0 (hp ra rb L A1) = fX7_readCourtsMark_49 4 0 0 (hp ra rb L A1) := by
      rw [fX7_readCourtsMark_29]
      by_cases h59 : lh T tx (sk T tx p) = 59
      · have hk0 : k = 0 := Nat.eq_zero_of_not_pos fun z => h2 ⟨h59, z⟩
        rw [if_pos h59, rg_5 hr, g5, if_pos (show nI (k + 1) ≤ 1 from nI_le (b := 1) (by omega) (by decide)), fX7_readCourtsMark_48]
      · rw [if_neg h59, fX7_readCourtsMark_48]
    rw [e0]
    by_cases h44 : lh T tx (sk T tx p) = 44
    · have hk7 : ¬ k + 1 < 7 := fun z => h1 ⟨h44, z⟩
      rw [if_pos h44, rg_5 hr, g5, if_pos (show (7 : Int32) ≤ nI (k + 1) from nI_le (a := 7) (by omega) (by omega)), fX7_readCourtsMark_28, e29]
      exact f1
    · rw [if_neg h44, fX7_readCourtsMark_28, e29]
      exact f1
/-- the model's courts, from the k-th number on -/
def mct (k n : Nat) : MM Int32 := m_cv 137 9 (pX10_into 137 144 (nI k) (1 : Int32) (9 : Int32)) (fun x6 => m_gi 137 9 16 (fun _ => m_pv 137 9 16 (.int (nI (k + 1))) (fX10_takeCourts_18 fX10_takeCourts_40 fX10_takeCourts_89 n 137 x6)))
theorem crt (hr : c_rl rb) (hrb : 100 < rb) (hT : T ≤ 240) (htx : ∀ j, j < T → tx j < 256) : ∀ (m k p : Nat) (v : Nat → Nat), k + m = 7 → k < 7 → p ≤ T → (∀ c, c < k → 1 ≤ v c ∧ v c ≤ 9) →
    (∃ (C' p1 : Nat) (v' : Nat → Nat), 2 ≤ C' ∧ C' ≤ 7 ∧ (∀ c, c < C' → 1 ≤ v' c ∧ v' c ≤ 9) ∧ p ≤ p1 ∧ p1 ≤ T ∧ sk T tx p1 = p1 ∧
      (∀ (n : Nat) (A : cM), m < n → GC A A0 rb T tx p k D v kd hm sg pt hpt q hq → ∃ A', fX7_readCourts_31 n 4 rb 1 (nI k) (hp ra rb L A) = some ((), hp ra rb L A') ∧ (lh T tx p1 = 59 → GC A' A0 rb T tx (p1 + 1) C' D v' kd hm sg pt hpt q hq) ∧ (lh T tx p1 ≠ 59 → FC A' A0 rb T tx 1 p1)) ∧
      (∀ (n : Nat) (B B0 : cM) (ra rb : Nat), m < n → GM B B0 T tx p k D v kd hm sg pt hpt q → ∃ B', mct k n (hp ra rb L B) = some (0, hp ra rb L B') ∧ GM B' B0 T tx p1 C' D v' kd hm sg pt hpt q)) ∨
    (∃ (n0 w : Nat), 1 ≤ n0 ∧ n0 ≤ 3 ∧ w ≤ T ∧
      (∀ (n : Nat) (A : cM), m < n → GC A A0 rb T tx p k D v kd hm sg pt hpt q hq → ∃ A', fX7_readCourts_31 n 4 rb 1 (nI k) (hp ra rb L A) = some ((), hp ra rb L A') ∧ FC A' A0 rb T tx n0 w) ∧
      (∀ (n : Nat) (B B0 : cM) (ra rb : Nat), m < n → GM B B0 T tx p k D v kd hm sg pt hpt q → ∃ B', mct k n (hp ra rb L B) = some (nI n0, hp ra rb L B') ∧ FM B' B0 w)) := by
  intro m
  induction m with
  | zero =>
    intro k p v h1 h2
    omega
  | succ m ih =>
    intro k p v hkm hk hpT hv
    have hb := sk_b (tx := tx) hpT
    have hpe := pe_b (tx := tx) hpT
    have hb2 := sk_b (tx := tx) hpe.2.1
    have hle := nc_le (T := T) (tx := tx) 1 9 p
    -- the number, in both
    have cN : ∀ (n : Nat) (A : cM), GC A A0 rb T tx p k D v kd hm sg pt hpt q hq → ∃ A1, fX7_readCourts_31 (n + 1) 4 rb 1 (nI k) (hp ra rb L A) = (m_gi 4 6 2 (fun x2 => if x2 = 0 then (m_cv rb 4 (pX4_addCourt rb (nI (val T tx p))) (fun _ => m_cv 4 6 (pX7_readCourtsMark 4 rb) (fun x3 => m_let (nI k + 1) (fun x4 => fX7_readCourts_31 n 4 rb x3 x4)))) else (m_ret ()))) (hp ra rb L A1) ∧ (nc T tx 1 9 p = 0 → GC A1 A0 rb T tx (pe T tx p) k D v kd hm sg pt hpt q hq) ∧ (nc T tx 1 9 p ≠ 0 → FC A1 A0 rb T tx (nc T tx 1 9 p) (sk T tx p)) := by
      intro n A hG
      obtain ⟨A1, g1, g2, g3, g4, g5⟩ := num_c (ra := ra) (rb := rb) (L := L) hT htx hG.1 hpT (lo := 1) (hi := 9) (by decide) (by decide)
      refine ⟨A1, ?_, fun z => hG.mv hrb g2 (g4 (Or.inl z)).1 (g4 (Or.inl z)).2 g3, fun z => ⟨⟨_, hpe.2.1, g2⟩, (g5 z hG.2.1).1, (g5 z hG.2.1).2, fun a k b1 b2 => (g3 a k b1).trans (hG.2.2.2.2.2.2.2.2 a k b1 b2)⟩⟩
      rw [fX7_readCourts_31, if_neg ne10, if_neg (show ¬ (7 : Int32) ≤ nI k from nI_ge (b := 7) hk (by decide)), v_4]
      exact m_bind_some g1
    have mN : ∀ (n : Nat) (B B0 : cM) (ra rb : Nat), GM B B0 T tx p k D v kd hm sg pt hpt q → ∃ B1, mct k n (hp ra rb L B) = fX10_takeCourts_18 fX10_takeCourts_40 fX10_takeCourts_89 n 137 (nI (nc T tx 1 9 p)) (hp ra rb L B1) ∧ (nc T tx 1 9 p = 0 → GM B1 B0 T tx (pe T tx p) (k + 1) D (up1 v k (val T tx p)) kd hm sg pt hpt q) ∧ (nc T tx 1 9 p ≠ 0 → FM B1 B0 (sk T tx p)) := by
      intro n B B0 ra rb hG
      obtain ⟨B1, g1, g2, g3, g4, g5⟩ := into_m (ra := ra) (rb := rb) (L := L) hT htx hG.1 hpT (lo := 1) (hi := 9) (a := 144) (k := k) (by decide) (by decide) (by decide) (fun _ _ _ => s_144 hk)
      obtain ⟨h1, h2, h3, h4, h5, h6, ⟨h7, h8, h9⟩, h10⟩ := hG
      refine ⟨u2 B1 137 16 (nI (k + 1)), ?_, fun z => ⟨g2.fr ?_ ?_ fun j => ?_, ?_, u2_s _ _ _ _, ?_, fun c hc => ?_, fun d hd => ⟨?_, ?_, ?_⟩, ⟨?_, ?_, ?_⟩, fun a k' b1 b2 => ?_⟩, fun z => ⟨?_, fun a k' b1 b2 => ?_⟩⟩
      · unfold mct
        rw [v_137]
        refine (m_bind_some g1).trans ?_
        rw [g_137_16, p_137_16]
      · rw [u2_nk _ _ (by decide)]
      · rw [u2_nk _ _ (by decide)]
      · rw [u2_na _ _ (by decide)]
      · rw [u2_nk _ _ (by decide)]; exact (g4 z).2.trans h2
      · rw [u2_nk _ _ (by decide), g3 _ _ (by omega) (by omega)]; exact h4
      · rw [u2_na _ _ (by decide)]
        unfold up1
        by_cases hq : c = k
        · rw [if_pos hq, hq]; exact (g4 z).1
        · rw [if_neg hq, g3 _ _ (by omega) (by omega)]
          exact h5 c (by omega)
      · rw [u2_na _ _ (by decide), g3 _ _ (by omega) (by omega)]; exact (h6 d hd).1
      · rw [u2_na _ _ (by decide), g3 _ _ (by omega) (by omega)]; exact (h6 d hd).2.1
      · rw [u2_na _ _ (by decide), g3 _ _ (by omega) (by omega)]; exact (h6 d hd).2.2
      · rw [u2_nk _ _ (by decide), g3 _ _ (by omega) (by omega)]; exact h7
      · rw [u2_nk _ _ (by decide), g3 _ _ (by omega) (by omega)]; exact h8
      · rw [u2_nk _ _ (by decide), g3 _ _ (by omega) (by omega)]; exact h9
      · rw [u2_n _ _ (by omega), g3 _ _ (by omega) (by omega)]; exact h10 a k' b1 b2
      · rw [u2_nk _ _ (by decide)]; exact g5 z
      · rw [u2_n _ _ (by omega), g3 _ _ (by omega) (by omega)]; exact h10 a k' b1 b2
    by_cases hn : nc T tx 1 9 p = 0
    · have hvv := nc_0 hn
      have hv' : ∀ c, c < k + 1 → 1 ≤ up1 v k (val T tx p) c ∧ up1 v k (val T tx p) c ≤ 9 := by
        intro c hc
        unfold up1
        by_cases hq : c = k
        · rw [if_pos hq]
          exact ⟨hvv.1, hvv.2.1⟩
        · rw [if_neg hq]
          exact hv c (by omega)
      -- the mark, in both
      have cM2 : ∀ (n : Nat) (A : cM), GC A A0 rb T tx p k D v kd hm sg pt hpt q hq → ∃ A1, fX7_readCourts_31 (n + 1) 4 rb 1 (nI k) (hp ra rb L A) = m_cv 4 6 (pX7_readCourtsMark 4 rb) (fun x3 => m_let (nI k + 1) (fun x4 => fX7_readCourts_31 n 4 rb x3 x4)) (hp ra rb L A1) ∧ GC A1 A0 rb T tx (pe T tx p) (k + 1) D (up1 v k (val T tx p)) kd hm sg pt hpt q hq := by
        intro n A hG
        obtain ⟨A1, g1, g2, -⟩ := cN n A hG
        obtain ⟨A2, g3, g4⟩ := gc_court (ra := ra) (L := L) hr hrb hk (g2 hn) (val T tx p)
        refine ⟨A2, ?_, g4⟩
        rw [g1, g_4_2, (g2 hn).2.1, if_pos rfl, rv hr, m_bind_some g3]
      have mM2 : ∀ (n : Nat) (B B0 : cM) (ra rb : Nat), 0 < n → GM B B0 T tx p k D v kd hm sg pt hpt q → ∃ B1, (∃ n', n = n' + 1 ∧ mct k n (hp ra rb L B) = (if lh T tx (sk T tx (pe T tx p)) = (44 : Int32) then (m_gi 137 9 16 (fun x2 => if x2 = (7 : Int32) then (fX10_takeCourts_40 137) else (m_gi 137 9 13 (fun x3 => m_pv 137 9 13 (.int (x3 + 1)) (m_gr 137 9 17 (fun a4 => m_gi 137 9 16 (fun x5 => m_cv 137 9 (pX10_into 137 a4 x5 (1 : Int32) (9 : Int32)) (fun x6 => m_gi 137 9 16 (fun x7 => m_pv 137 9 16 (.int (x7 + 1)) (fX10_takeCourts_18 fX10_takeCourts_40 fX10_takeCourts_89 n' 137 x6)))))))))) else (fX10_takeCourts_89 137 0)) (hp ra rb L B1)) ∧ GM B1 B0 T tx (sk T tx (pe T tx p)) (k + 1) D (up1 v k (val T tx p)) kd hm sg pt hpt q := by
        intro n B B0 ra rb hn0 hG
        obtain ⟨n, rfl⟩ : ∃ n', n = n' + 1 := ⟨n - 1, by omega⟩
        obtain ⟨B1, g1, g2, -⟩ := mN (n + 1) B B0 ra rb hG
        refine ⟨_, ⟨n, rfl, ?_⟩, (g2 hn).at (sk T tx (pe T tx p))⟩
        rw [g1, hn, fX10_takeCourts_18, if_pos (show nI 0 = 0 from rfl), v_137, m_bind_some (q_here hT htx (g2 hn).1 hpe.2.1)]
        rfl
      have ss := sk_sk (tx := tx) hpe.2.1
      obtain ⟨p1, hp1⟩ : ∃ p1, p1 = sk T tx (pe T tx p) := ⟨_, rfl⟩
      rw [← hp1] at mM2 ss hb2
      -- the class ends its loop
      have cE : ∀ (n : Nat) (X : Int32), fX7_readCourts_31 (n + 1) 4 rb 0 X = m_ret () := fun n X => by
        rw [fX7_readCourts_31, if_pos rfl]
      by_cases h44 : lh T tx p1 = 44
      · have hp1T : p1 < T := ((lh_32 (c := 44) htx (by decide)).mp h44).1
        by_cases h7 : k + 1 < 7
        · -- another court
          have nextC : ∀ (n : Nat) (A : cM), GC A A0 rb T tx p k D v kd hm sg pt hpt q hq → ∃ A1, fX7_readCourts_31 (n + 1) 4 rb 1 (nI k) (hp ra rb L A) = fX7_readCourts_31 n 4 rb 1 (nI (k + 1)) (hp ra rb L A1) ∧ GC A1 A0 rb T tx (p1 + 1) (k + 1) D (up1 v k (val T tx p)) kd hm sg pt hpt q hq := by
            intro n A hG
            obtain ⟨A1, g1, g2⟩ := cM2 n A hG
            obtain ⟨A2, g3, g4⟩ := (mark_c (ra := ra) (L := L) hr hrb hT htx hpe.2.1 hk g2).1 ⟨by rw [← hp1]; exact h44, h7⟩
            refine ⟨A2, ?_, by rw [hp1]; exact g4⟩
            rw [g1, v_4, m_bind_some g3, mlet, nI_1]
          have nextM : ∀ (n : Nat) (B B0 : cM) (ra rb : Nat), 0 < n → GM B B0 T tx p k D v kd hm sg pt hpt q → ∃ B1 n', n = n' + 1 ∧ mct k n (hp ra rb L B) = mct (k + 1) n' (hp ra rb L B1) ∧ GM B1 B0 T tx (p1 + 1) (k + 1) D (up1 v k (val T tx p)) kd hm sg pt hpt q := by
            intro n B B0 ra rb hn0 hG
            obtain ⟨B1, ⟨n', e1, g1⟩, g2⟩ := mM2 n B B0 ra rb hn0 hG
            have g3 := g2.at (p1 + 1)
            have e7 : ¬ nI (k + 1) = 7 := n_ne (b := 7) (by omega) (by decide) (by omega)
            refine ⟨_, n', e1, ?_, g3⟩
            rw [g1, if_pos h44, g_137_16, g2.2.2.1, if_neg e7, g_137_13, g2.1.2.1, nI_1, p_137_13, g_137_17, g_137_16, g3.2.2.1]
            unfold mct
            obtain ⟨B2, i1, i2, i3, i4, i5⟩ := into_m (ra := ra) (rb := rb) (L := L) hT htx g3.1 (by omega) (lo := 1) (hi := 9) (a := 144) (k := k + 1) (by decide) (by decide) (by decide) (fun _ _ _ => s_144 h7)
            have e16 : B2 137 16 = nI (k + 1) := by rw [i3 _ _ (by omega) (by omega)]; exact g3.2.2.1
            rw [v_137, v_137]
            refine (m_bind_some i1).trans ((m_bind_some i1).trans ?_).symm
            rw [g_137_16, g_137_16, e16, nI_1]
          rcases ih (k + 1) (p1 + 1) (up1 v k (val T tx p)) (by omega) h7 (by omega) hv' with ⟨C', p2, v', d1, d2, d3, d4, d5, d6, d7, d8⟩ | ⟨n0, w, d1, d2, d3, d7, d8⟩
          · refine Or.inl ⟨C', p2, v', d1, d2, d3, by omega, d5, d6, fun n A hn1 hG => ?_, fun n B B0 ra rb hn1 hG => ?_⟩
            · obtain ⟨n, rfl⟩ : ∃ n', n = n' + 1 := ⟨n - 1, by omega⟩
              obtain ⟨A1, g1, g2⟩ := nextC n A hG
              obtain ⟨A2, g3, g4⟩ := d7 n A1 (by omega) g2
              exact ⟨A2, g1.trans g3, g4⟩
            · obtain ⟨B1, n', e1, g1, g2⟩ := nextM n B B0 ra rb (by omega) hG
              obtain ⟨B2, g3, g4⟩ := d8 n' B1 B0 ra rb (by omega) g2
              exact ⟨B2, g1.trans g3, g4⟩
          · refine Or.inr ⟨n0, w, d1, d2, d3, fun n A hn1 hG => ?_, fun n B B0 ra rb hn1 hG => ?_⟩
            · obtain ⟨n, rfl⟩ : ∃ n', n = n' + 1 := ⟨n - 1, by omega⟩
              obtain ⟨A1, g1, g2⟩ := nextC n A hG
              obtain ⟨A2, g3, g4⟩ := d7 n A1 (by omega) g2
              exact ⟨A2, g1.trans g3, g4⟩
            · obtain ⟨B1, n', e1, g1, g2⟩ := nextM n B B0 ra rb (by omega) hG
              obtain ⟨B2, g3, g4⟩ := d8 n' B1 B0 ra rb (by omega) g2
              exact ⟨B2, g1.trans g3, g4⟩
        · -- an eighth court
          refine Or.inr ⟨1, p1, by decide, by decide, hb2.2, fun n A hn1 hG => ?_, fun n B B0 ra rb hn1 hG => ?_⟩
          · obtain ⟨n, rfl⟩ : ∃ n', n = n' + 1 + 1 := ⟨n - 2, by omega⟩
            obtain ⟨A1, g1, g2⟩ := cM2 (n + 1) A hG
            obtain ⟨A2, g3, g4⟩ := (mark_c (ra := ra) (L := L) hr hrb hT htx hpe.2.1 hk g2).2.2 (fun z => h7 z.2) (fun z => by rw [← hp1, h44] at z; exact absurd z.1 (by decide))
            refine ⟨A2, ?_, by rw [hp1]; exact g4⟩
            rw [g1, v_4, m_bind_some g3, mlet, cE]
            rfl
          · obtain ⟨B1, ⟨n', e1, g1⟩, g2⟩ := mM2 n B B0 ra rb (by omega) hG
            have e7 : nI (k + 1) = 7 := by rw [show k + 1 = 7 by omega]; rfl
            obtain ⟨f1, f2⟩ := gm_fail (ra := ra) (rb := rb) (L := L) g2 1 p1
            refine ⟨_, ?_, f2⟩
            rw [g1, if_pos h44, g_137_16, g2.2.2.1, if_pos e7, fX10_takeCourts_40, g_137_13, g2.1.2.1, v_137]
            exact (m_bind_some f1).trans rfl
      · by_cases hk0 : k = 0
        · -- one court alone
          refine Or.inr ⟨1, p1, by decide, by decide, hb2.2, fun n A hn1 hG => ?_, fun n B B0 ra rb hn1 hG => ?_⟩
          · obtain ⟨n, rfl⟩ : ∃ n', n = n' + 1 + 1 := ⟨n - 2, by omega⟩
            obtain ⟨A1, g1, g2⟩ := cM2 (n + 1) A hG
            obtain ⟨A2, g3, g4⟩ := (mark_c (ra := ra) (L := L) hr hrb hT htx hpe.2.1 hk g2).2.2 (fun z => h44 (by rw [hp1]; exact z.1)) (fun z => by omega)
            refine ⟨A2, ?_, by rw [hp1]; exact g4⟩
            rw [g1, v_4, m_bind_some g3, mlet, cE]
            rfl
          · obtain ⟨B1, ⟨n', e1, g1⟩, g2⟩ := mM2 n B B0 ra rb (by omega) hG
            have e1' : nI (k + 1) = 1 := by rw [hk0]; rfl
            obtain ⟨f1, f2⟩ := gm_fail (ra := ra) (rb := rb) (L := L) g2 1 p1
            refine ⟨_, ?_, f2⟩
            rw [g1, if_neg h44, fX10_takeCourts_89, if_pos rfl, g_137_16, g2.2.2.1, if_pos e1', g_137_13, g2.1.2.1, v_137]
            exact (m_bind_some f1).trans rfl
        · refine Or.inl ⟨k + 1, p1, up1 v k (val T tx p), by omega, by omega, hv', by omega, hb2.2, ss, fun n A hn1 hG => ?_, fun n B B0 ra rb hn1 hG => ?_⟩
          · obtain ⟨n, rfl⟩ : ∃ n', n = n' + 1 + 1 := ⟨n - 2, by omega⟩
            obtain ⟨A1, g1, g2⟩ := cM2 (n + 1) A hG
            have mk := mark_c (ra := ra) (L := L) hr hrb hT htx hpe.2.1 hk g2
            rw [← hp1] at mk
            by_cases h59 : lh T tx p1 = 59
            · obtain ⟨A2, g3, g4⟩ := mk.2.1 ⟨h59, by omega⟩
              refine ⟨A2, ?_, fun _ => g4, fun z => absurd h59 z⟩
              rw [g1, v_4, m_bind_some g3, mlet, cE]
              rfl
            · obtain ⟨A2, g3, g4⟩ := mk.2.2 (fun z => h44 z.1) (fun z => h59 z.1)
              refine ⟨A2, ?_, fun z => absurd z h59, fun _ => g4⟩
              rw [g1, v_4, m_bind_some g3, mlet, cE]
              rfl
          · obtain ⟨B1, ⟨n', e1, g1⟩, g2⟩ := mM2 n B B0 ra rb (by omega) hG
            have e1' : ¬ nI (k + 1) = 1 := n_ne (b := 1) (by omega) (by decide) (by omega)
            refine ⟨B1, ?_, g2⟩
            rw [g1, if_neg h44, fX10_takeCourts_89, if_pos rfl, g_137_16, g2.2.2.1, if_neg e1']
            rfl
    · refine Or.inr ⟨nc T tx 1 9 p, sk T tx p, by omega, by omega, hb.2, fun n A hn1 hG => ?_, fun n B B0 ra rb hn1 hG => ?_⟩
      · obtain ⟨n, rfl⟩ : ∃ n', n = n' + 1 := ⟨n - 1, by omega⟩
        obtain ⟨A1, g1, -, g2⟩ := cN n A hG
        refine ⟨A1, ?_, g2 hn⟩
        rw [g1, g_4_2, (g2 hn).2.1, if_neg (nI_ne0 (by omega) (by omega))]
        rfl
      · obtain ⟨n, rfl⟩ : ∃ n', n = n' + 1 := ⟨n - 1, by omega⟩
        obtain ⟨B1, g1, -, g2⟩ := mN (n + 1) B B0 ra rb hG
        refine ⟨B1, ?_, g2 hn⟩
        rw [g1, fX10_takeCourts_18, if_neg (nI_ne0 (by omega) (by omega)), fX10_takeCourts_89, if_neg (nI_ne0 (by omega) (by omega))]
        rfl
end Z1
