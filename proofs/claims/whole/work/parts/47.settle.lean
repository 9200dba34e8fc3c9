/-! what follows from the clauses: weights, quota, the first scene, the model's own -/
def qsl (C : Nat) (v : Nat → Nat) (q : Nat) (hq : Bool) : Nat := if 0 < C ∧ hq = false then wt v C (2 ^ C - 1) / 2 + 1 else q
theorem or_two {s c : Nat} (h : s < 2 ^ c) : s ||| 2 ^ c = s + 2 ^ c := by
  have := Nat.two_pow_add_eq_or_of_lt h 1
  rw [Nat.mul_one] at this
  rw [Nat.or_comm, ← this, Nat.add_comm]
section S1
variable {ra rb L ro : Nat} {A A0 B B0 : cM} {C D : Nat} {v kd hm sg : Nat → Nat} {pt q : Nat} {hpt hq : Bool}
theorem settle_in (hr : c_rl ro) {c : Nat} (hc : c < 7) (hvc : A0 (ro + 1) c = nI (v c)) {K : Nat → Int32 → MM Unit} : ∀ (n j : Nat) (A : cM), j ≤ 2 ^ c → 2 ^ c < j + n → (∀ s, s < 2 ^ c → A (ro + 5) s = nI (wt v c s)) → (∀ s, s < j → A (ro + 5) (s + 2 ^ c) = nI (wt v c s + v c)) → (∀ a k, a ≠ ro + 5 → A a k = A0 a k) → ∃ A', fX4_settle_23 K n ro (nI c) (nI (2 ^ c)) (nI j) (hp ra rb L A) = K ro (nI c) (hp ra rb L A') ∧ (∀ s, s < 2 ^ (c + 1) → A' (ro + 5) s = nI (wt v (c + 1) s)) ∧ (∀ a k, a ≠ ro + 5 → A' a k = A0 a k) := by
  have h6 : 2 ^ c ≤ 2 ^ 6 := Nat.pow_le_pow_right (by decide) (by omega)
  have h6' : (2 : Nat) ^ 6 = 64 := rfl
  have h2s : 2 ^ (c + 1) = 2 ^ c + 2 ^ c := by rw [Nat.pow_succ]; omega
  intro n
  induction n with
  | zero =>
    intro j A h1 h2
    omega
  | succ n ih =>
    intro j A a1 a2 hw hd hf
    rw [fX4_settle_23]
    by_cases hj : j < 2 ^ c
    · have e5 : A (ro + 1) c = nI (v c) := by rw [hf _ _ (by omega)]; exact hvc
      rw [if_neg (nI_ge hj (by omega)), rg_4 hr, rg_4 hr, rl_5 hr (by omega), hw j hj, rg_0 hr, rl_1 hr hc, e5, or_n, or_two hj, nI_add, rs_5 hr (by omega), mlet, nI_1]
      refine ih (j + 1) _ (by omega) (by omega) (fun s hs => ?_) (fun s hs => ?_) (fun a k b => ?_)
      · rw [u2_nk _ _ (by omega)]
        exact hw s hs
      · by_cases hq : s = j
        · rw [hq, u2_s]
        · rw [u2_nk _ _ (by omega)]
          exact hd s (by omega)
      · rw [u2_na _ _ b]
        exact hf a k b
    · have : j = 2 ^ c := by omega
      subst this
      rw [if_pos (nI_le (by omega) (by omega))]
      refine ⟨A, rfl, fun s hs => ?_, hf⟩
      by_cases hq : s < 2 ^ c
      · rw [wt_0 (Nat.testBit_lt_two_pow hq)]
        exact hw s hq
      · have hs2 : s - 2 ^ c < 2 ^ c := by omega
        have tb := Nat.testBit_lt_two_pow hs2
        have e := hd (s - 2 ^ c) hs2
        have e2 : s - 2 ^ c + 2 ^ c = s := by omega
        have e3 := wt_or (v := v) tb (n := c + 1) (by omega)
        rw [or_two hs2, e2, wt_0 tb] at e3
        rw [e2] at e
        rw [e, e3]
theorem settle_out (hr : c_rl ro) (h5 : A0 ro 5 = nI C) (hv : ∀ c, c < C → A0 (ro + 1) c = nI (v c)) (hC : C ≤ 7) {K : Nat → MM Unit} : ∀ (n c : Nat) (A : cM), c ≤ C → C < c + n → (∀ s, s < 2 ^ c → A (ro + 5) s = nI (wt v c s)) → (∀ a k, a ≠ ro + 5 → A a k = A0 a k) → ∃ A', fX4_settle_9 K n ro (nI c) (hp ra rb L A) = K ro (hp ra rb L A') ∧ (∀ s, s < 2 ^ C → A' (ro + 5) s = nI (wt v C s)) ∧ (∀ a k, a ≠ ro + 5 → A' a k = A0 a k) := by
  intro n
  induction n with
  | zero =>
    intro c A h1 h2
    omega
  | succ n ih =>
    intro c A a1 a2 hw hf
    rw [fX4_settle_9, rg_5 hr, hf _ _ (by omega), h5]
    by_cases hj : c < C
    · have h6 : 2 ^ c ≤ 2 ^ 6 := Nat.pow_le_pow_right (by decide) (by omega)
      have h6' : (2 : Nat) ^ 6 = 64 := rfl
      obtain ⟨A1, g1, g2, g3⟩ := settle_in (ra := ra) (rb := rb) (L := L) hr (c := c) (by omega) (hv c hj) (K := fX4_settle_55 (fX4_settle_9 K n)) c_fu 0 A (Nat.zero_le _) (by show 2 ^ c < 0 + 1000; omega) hw (fun s hs => by omega) hf
      obtain ⟨A2, g4, g5, g6⟩ := ih (c + 1) A1 (by omega) (by omega) g2 g3
      refine ⟨A2, ?_, g5, g6⟩
      rw [if_neg (nI_ge hj (by omega)), mlet, sh1 (by omega)]
      refine g1.trans ?_
      rw [fX4_settle_55, mlet, nI_1]
      exact g4
    · have : c = C := by omega
      subst this
      rw [if_pos (nI_le (by omega) (by omega))]
      exact ⟨A, rfl, hw, hf⟩
theorem q_settle (hr : c_rl ro) (h5 : A ro 5 = nI C) (hv : ∀ c, c < C → A (ro + 1) c = nI (v c)) (hv9 : ∀ c, c < C → v c ≤ 9) (hC : C ≤ 7) (h8 : A ro 8 = nI q) (h10 : A ro 10 = bi hq) : ∃ A', pX4_settle ro (hp ra rb L A) = some ((), hp ra rb L A') ∧ (∀ s, s < 2 ^ C → A' (ro + 5) s = nI (wt v C s)) ∧ A' ro 8 = nI (qsl C v q hq) ∧ ∀ a k, a ≠ ro + 5 → ¬ (a = ro ∧ k = 8) → A' a k = A a k := by
  have h7 : 2 ^ C ≤ 2 ^ 7 := Nat.pow_le_pow_right (by decide) hC
  have h7' : (2 : Nat) ^ 7 = 128 := rfl
  have h21 : 1 ≤ 2 ^ C := Nat.one_le_two_pow
  have e0 : (0 : Int32) = nI 0 := rfl
  obtain ⟨A1, g1, g2, g3⟩ := settle_out (ra := ra) (rb := rb) (L := L) (A0 := u2 A (ro + 5) 0 0) (K := fX4_settle_61) hr (by rw [u2_na _ _ (by omega)]; exact h5) (fun c hc => by rw [u2_na _ _ (by omega)]; exact hv c hc) hC c_fu 0 (u2 A (ro + 5) 0 0) (by omega) (by show C < 0 + 1000; omega) (fun s hs => by
    have : s = 0 := by simp at hs; exact hs
    subst this
    rw [u2_s]
    rfl) (fun _ _ _ => rfl)
  have f1 : ∀ a k, a ≠ ro + 5 → A1 a k = A a k := fun a k b => by rw [g3 a k b, u2_na _ _ b]
  have e1 : pX4_settle ro (hp ra rb L A) = fX4_settle_61 ro (hp ra rb L A1) := by
    have s0 := rs_5 (ra := ra) (rb := rb) (L := L) (I := A) (x := 0) (j := 0) (K := fX4_settle_9 fX4_settle_61 c_fu ro 0) hr (by decide)
    rw [pX4_settle, rg_4 hr]
    exact s0.trans g1
  have a5 : A1 ro 5 = nI C := by rw [f1 _ _ (by omega)]; exact h5
  have a10 : A1 ro 10 = bi hq := by rw [f1 _ _ (by omega)]; exact h10
  rw [e1, fX4_settle_61, rg_5 hr, a5]
  by_cases hz : C = 0
  · refine ⟨A1, ?_, g2, ?_, fun a k b _ => f1 a k b⟩
    · rw [hz, if_pos (show nI 0 ≤ 0 by decide)]
      rfl
    · unfold qsl
      rw [if_neg (by omega), f1 _ _ (by omega)]
      exact h8
  · rw [if_neg (nI_nle (by omega) (by omega)), rg_10 hr, a10]
    cases hq with
    | true =>
      refine ⟨A1, ?_, g2, ?_, fun a k b _ => f1 a k b⟩
      · rw [if_neg (show ¬ bi true = 0 by decide)]
        rfl
      · unfold qsl
        rw [if_neg (by simp), f1 _ _ (by omega)]
        exact h8
    | false =>
      have hw := wt_le hv9 (2 ^ C - 1)
      have ed : nI (wt v C (2 ^ C - 1)) / 2 = nI (wt v C (2 ^ C - 1) / 2) := pk_div (d := 2) (by omega) (by decide) (by decide)
      refine ⟨u2 A1 ro 8 (nI (wt v C (2 ^ C - 1) / 2 + 1)), ?_, fun s hs => ?_, ?_, fun a k b1 b2 => ?_⟩
      · rw [if_pos (show bi false = 0 by decide), rg_4 hr, rv hr, m_bind_some (q_allCourts hr a5 hC), rl_5 hr (by omega), g2 _ (by omega), ed, nI_1]
        unfold m_nz
        rw [if_neg (by decide), rp_8_ hr]
        rfl
      · rw [u2_na _ _ (by omega)]
        exact g2 s hs
      · unfold qsl
        rw [if_pos ⟨by omega, rfl⟩, u2_s]
      · rw [u2_n _ _ b2]
        exact f1 a k b1
/-- the scene begins -/
theorem q_begin (hr : c_rl ro) (hro : 112 < ro) (hD : D ≤ 8) (h6 : A ro 6 = nI D) (h3 : ∀ d, d < D → A (ro + 3) d = nI (hm d)) (h4 : ∀ d, d < D → A (ro + 4) d = nI (sg d)) : ∃ A', pX5_begin 6 ro (hp ra rb L A) = some ((), hp ra rb L A') ∧ CN A' D hm sg (fun _ => 0) (fun _ => 0) (2 ^ D - 1) 0 0 0 ∧ ∀ a k, (a < 6 ∨ 10 < a) → A' a k = A a k := by
  have r3 := (hr.2.2 ra rb L).2.2.2.1
  have r4 := (hr.2.2 ra rb L).2.2.2.2.1
  have hlt := hr.1
  have cp1 : ∀ (J : cM) (K : MM Unit), m_cp (ro + 3) (6 + 1) 8 K (hp ra rb L J) = K (hp ra rb L (u1 J (6 + 1) (va_cpy (J (ro + 3)) (J (6 + 1)) 0 0 8))) := fun J K => h_cp (by omega) (by decide) r3 rfl (by omega) (by decide) (by decide) (by decide) (by decide)
  have cp2 : ∀ (J : cM) (K : MM Unit), m_cp (ro + 4) (6 + 2) 8 K (hp ra rb L J) = K (hp ra rb L (u1 J (6 + 2) (va_cpy (J (ro + 4)) (J (6 + 2)) 0 0 8))) := fun J K => h_cp (by omega) (by decide) r4 rfl (by omega) (by decide) (by decide) (by decide) (by decide)
  have fl3 : ∀ J : cM, pJ7_fill_53178 (6 + 3) 0 (hp ra rb L J) = some ((), hp ra rb L (u1 J (6 + 3) (gtf (J (6 + 3)) (fun _ => 0) 0 8))) := fun J => q_fill (N := 8) (by decide) (fun _ _ _ _ h => ss_3 sn_6 h) (fun _ _ => h_len (by decide) rfl (by decide)) J
  have fl4 : ∀ J : cM, pJ7_fill_53178 (6 + 4) 0 (hp ra rb L J) = some ((), hp ra rb L (u1 J (6 + 4) (gtf (J (6 + 4)) (fun _ => 0) 0 8))) := fun J => q_fill (N := 8) (by decide) (fun _ _ _ _ h => ss_4 sn_6 h) (fun _ _ => h_len (by decide) rfl (by decide)) J
  obtain ⟨A1, hA1⟩ : ∃ A1, A1 = u1 A (6 + 1) (va_cpy (A (ro + 3)) (A (6 + 1)) 0 0 8) := ⟨_, rfl⟩
  obtain ⟨A2, hA2⟩ : ∃ A2, A2 = u1 A1 (6 + 2) (va_cpy (A1 (ro + 4)) (A1 (6 + 2)) 0 0 8) := ⟨_, rfl⟩
  obtain ⟨A3, hA3⟩ : ∃ A3, A3 = u1 A2 (6 + 3) (gtf (A2 (6 + 3)) (fun _ => 0) 0 8) := ⟨_, rfl⟩
  obtain ⟨A4, hA4⟩ : ∃ A4, A4 = u1 A3 (6 + 4) (gtf (A3 (6 + 4)) (fun _ => 0) 0 8) := ⟨_, rfl⟩
  obtain ⟨A5, hA5⟩ : ∃ A5, A5 = u2 (u2 (u2 (u2 A4 6 4 (nI (2 ^ D - 1))) 6 5 0) 6 6 0) 6 7 0 := ⟨_, rfl⟩
  have d6 : A4 ro 6 = nI D := by rw [hA4, u1_n _ _ (by omega), hA3, u1_n _ _ (by omega), hA2, u1_n _ _ (by omega), hA1, u1_n _ _ (by omega)]; exact h6
  have row : ∀ a k, a ≠ 6 → A5 a k = A4 a k := fun a k b => by rw [hA5, u2_na _ _ b, u2_na _ _ b, u2_na _ _ b, u2_na _ _ b]
  refine ⟨A5, ?_, ⟨fun d hd => ?_, fun d hd => ?_, fun d hd => ?_, fun d hd => ?_, ?_, ?_, ?_, ?_⟩, fun a k b => ?_⟩
  · rw [pX5_begin, rg_2 hr, sg_0 sn_6, cp1, ← hA1, rg_3 hr, sg_1 sn_6, cp2, ← hA2, sg_2 sn_6, m_bind_some (fl3 _), ← hA3, sg_3 sn_6, m_bind_some (fl4 _), ← hA4, rg_6 hr, d6, all_n (by omega), sp_4 sn_6, sp_5 sn_6, sp_6 sn_6, sp_7 sn_6, hA5]
    rfl
  · rw [row _ _ (by decide), hA4, u1_n _ _ (by decide), hA3, u1_n _ _ (by decide), hA2, u1_n _ _ (by decide), hA1, u1_s, cpy8, if_pos (by omega)]
    exact h3 d hd
  · rw [row _ _ (by decide), hA4, u1_n _ _ (by decide), hA3, u1_n _ _ (by decide), hA2, u1_s, cpy8, if_pos (by omega), hA1, u1_n _ _ (by omega)]
    exact h4 d hd
  · rw [row _ _ (by decide), hA4, u1_n _ _ (by decide), hA3, u1_s]
    unfold gtf
    rw [if_pos (by omega)]
    rfl
  · rw [row _ _ (by decide), hA4, u1_s]
    unfold gtf
    rw [if_pos (by omega)]
    rfl
  · rw [hA5, u2_nk _ _ (by decide), u2_nk _ _ (by decide), u2_nk _ _ (by decide), u2_s]
  · rw [hA5, u2_nk _ _ (by decide), u2_nk _ _ (by decide), u2_s]
    rfl
  · rw [hA5, u2_nk _ _ (by decide), u2_s]
  · rw [hA5, u2_s]
  · rw [row _ _ (by omega), hA4, u1_n _ _ (by omega), hA3, u1_n _ _ (by omega), hA2, u1_n _ _ (by omega), hA1, u1_n _ _ (by omega)]
/-- the model takes what was read -/
theorem read_0 {K : Nat → MM Unit} (J : cM) : ∀ (n j : Nat), j ≤ 36 → 36 < j + n → fX10_takeRead_131 K n 137 (nI j) (hp ra rb L (u1 J 142 (gtf (J 142) (fun _ => 0) 0 j))) = K 137 (hp ra rb L (u1 J 142 (gtf (J 142) (fun _ => 0) 0 36))) := by
  intro n
  induction n with
  | zero =>
    intro j h1 h2
    omega
  | succ n ih =>
    intro j a2 a3
    rw [fX10_takeRead_131]
    by_cases hj : j < 36
    · have e := gtf_s (J 142) (fun _ => (0 : Int32)) 0 j
      rw [if_neg (show ¬ (36 : Int32) ≤ nI j from nI_ge (b := 36) hj (by decide)), g_137_8, s_142 hj, mlet, nI_1, u2_u1, e]
      exact ih (j + 1) (by omega) (by omega)
    · have : j = 36 := by omega
      subst this
      rw [if_pos (show (36 : Int32) ≤ nI 36 by decide)]
theorem read_1 {K : Nat → MM Unit} (hD : D ≤ 8) (h2 : B0 137 2 = nI D) (h40 : ∀ d, d < D → B0 140 d = nI (hm d)) (h41 : ∀ d, d < D → B0 141 d = nI (sg d)) : ∀ (n j : Nat) (B : cM), j ≤ D → D < j + n → (∀ a k, a ≠ 142 → B a k = B0 a k) → (∀ d, d < j → B 142 d = nI (hm d) ∧ B 142 (17 + d) = nI (sg d)) → (∀ k, (8 ≤ k ∧ k < 17) ∨ (25 ≤ k ∧ k < 36) → B 142 k = 0) → ∃ B', fX10_takeRead_152 K n 137 (nI j) (hp ra rb L B) = K 137 (hp ra rb L B') ∧ (∀ a k, a ≠ 142 → B' a k = B0 a k) ∧ (∀ d, d < D → B' 142 d = nI (hm d) ∧ B' 142 (17 + d) = nI (sg d)) ∧ (∀ k, (8 ≤ k ∧ k < 17) ∨ (25 ≤ k ∧ k < 36) → B' 142 k = 0) := by
  intro n
  induction n with
  | zero =>
    intro j B h1 h2
    omega
  | succ n ih =>
    intro j B a1 a2 hf hd hz
    rw [fX10_takeRead_152, g_137_2, hf _ _ (by decide), h2]
    by_cases hj : j < D
    · have e17 : (17 : Int32) + nI j = nI (17 + j) := nI_add 17 j
      rw [if_neg (nI_ge hj (by omega)), g_137_8, g_137_4, l_140 (by omega), hf _ _ (by decide), h40 j hj, s_142 (by omega), g_137_8, g_137_5, l_141 (by omega), u2_na _ _ (by decide), hf _ _ (by decide), h41 j hj, e17, s_142 (by omega), mlet, nI_1]
      refine ih (j + 1) _ (by omega) (by omega) (fun a k b => ?_) (fun d b => ?_) (fun k b => ?_)
      · rw [u2_na _ _ b, u2_na _ _ b]
        exact hf a k b
      · by_cases hq : d = j
        · subst hq
          refine ⟨?_, u2_s _ _ _ _⟩
          rw [u2_nk _ _ (by omega), u2_s]
        · rw [u2_nk _ _ (by omega), u2_nk _ _ (by omega), u2_nk _ _ (by omega), u2_nk _ _ (by omega)]
          exact hd d (by omega)
      · rw [u2_nk _ _ (by omega), u2_nk _ _ (by omega)]
        exact hz k b
    · have : j = D := by omega
      subst this
      rw [if_pos (nI_le (by omega) (by omega))]
      exact ⟨B, rfl, hf, hd, hz⟩
theorem q_takeRead {T : Nat} {tx : Nat → Nat} {p : Nat} (h : GM B B0 T tx p C D v kd hm sg pt hpt q) (ho : OKT C D v kd hm sg pt q hq) : ∃ B', pX10_takeRead 137 (hp ra rb L B) = some ((), hp ra rb L B') ∧ MR B' C D v kd hm pt (qsl C v q hq) ∧ MN B' D hm sg (fun _ => 0) (fun _ => 0) (2 ^ D - 1) 0 0 0 ∧ ∀ a k, ¬ (a = 137 ∧ k < 8) → ¬ (138 ≤ a ∧ a ≤ 142) → B' a k = B a k := by
  obtain ⟨o1, o2, o3, o4, o5, o6, o7, o8, o9⟩ := ho
  obtain ⟨g1, g2, g3, g4, g5, g6, ⟨g7, g8, g9⟩, g10⟩ := h
  have h7 : 2 ^ C ≤ 2 ^ 7 := Nat.pow_le_pow_right (by decide) o1
  have h7' : (2 : Nat) ^ 7 = 128 := rfl
  have h21 : 1 ≤ 2 ^ C := Nat.one_le_two_pow
  obtain ⟨B1, hB1⟩ : ∃ B1, B1 = u2 (u2 (u2 B 137 0 (nI C)) 137 2 (nI D)) 137 6 (nI pt) := ⟨_, rfl⟩
  have f1 : ∀ a k, ¬ (a = 137 ∧ k < 8) → B1 a k = B a k := fun a k b => by rw [hB1, u2_n _ _ (by omega), u2_n _ _ (by omega), u2_n _ _ (by omega)]
  have c1 : pX10_copyRow 144 138 (nI C) (hp ra rb L B1) = _ := q_copyRow (N := C) (by omega) (fun _ _ _ h => l_144 (by omega)) (fun _ _ _ _ h => s_138 (by omega)) (by decide) B1
  obtain ⟨B2, hB2⟩ : ∃ B2, B2 = u1 B1 138 (gtf (B1 138) (B1 144) 0 C) := ⟨_, rfl⟩
  rw [← hB2] at c1
  have c2 : pX10_copyRow 145 139 (nI D) (hp ra rb L B2) = _ := q_copyRow (N := D) (by omega) (fun _ _ _ h => l_145 (by omega)) (fun _ _ _ _ h => s_139 (by omega)) (by decide) B2
  obtain ⟨B3, hB3⟩ : ∃ B3, B3 = u1 B2 139 (gtf (B2 139) (B2 145) 0 D) := ⟨_, rfl⟩
  rw [← hB3] at c2
  have c3 : pX10_copyRow 146 140 (nI D) (hp ra rb L B3) = _ := q_copyRow (N := D) (by omega) (fun _ _ _ h => l_146 (by omega)) (fun _ _ _ _ h => s_140 (by omega)) (by decide) B3
  obtain ⟨B4, hB4⟩ : ∃ B4, B4 = u1 B3 140 (gtf (B3 140) (B3 146) 0 D) := ⟨_, rfl⟩
  rw [← hB4] at c3
  have c4 : pX10_copyRow 147 141 (nI D) (hp ra rb L B4) = _ := q_copyRow (N := D) (by omega) (fun _ _ _ h => l_147 (by omega)) (fun _ _ _ _ h => s_141 (by omega)) (by decide) B4
  obtain ⟨B5, hB5⟩ : ∃ B5, B5 = u1 B4 141 (gtf (B4 141) (B4 147) 0 D) := ⟨_, rfl⟩
  rw [← hB5] at c4
  have f2 : ∀ a k, a ≠ 138 → B2 a k = B1 a k := fun a k b => by rw [hB2, u1_n _ _ b]
  have f3 : ∀ a k, a ≠ 138 → a ≠ 139 → B3 a k = B1 a k := fun a k b b' => by rw [hB3, u1_n _ _ b']; exact f2 a k b
  have f4 : ∀ a k, a ≠ 138 → a ≠ 139 → a ≠ 140 → B4 a k = B1 a k := fun a k b b' b3 => by rw [hB4, u1_n _ _ b3]; exact f3 a k b b'
  have f5 : ∀ a k, ¬ (138 ≤ a ∧ a ≤ 141) → B5 a k = B1 a k := fun a k b => by rw [hB5, u1_n _ _ (by omega)]; exact f4 a k (by omega) (by omega) (by omega)
  have v5 : ∀ c, c < C → B5 138 c = nI (v c) := fun c hc => by
    rw [hB5, u1_n _ _ (by decide), hB4, u1_n _ _ (by decide), hB3, u1_n _ _ (by decide), hB2, u1_s]
    unfold gtf
    rw [if_pos hc, Nat.zero_add, f1 _ _ (by omega)]
    exact g5 c hc
  have k5 : ∀ d, d < D → B5 139 d = nI (kd d) := fun d hd => by
    rw [hB5, u1_n _ _ (by decide), hB4, u1_n _ _ (by decide), hB3, u1_s]
    unfold gtf
    rw [if_pos hd, Nat.zero_add, f2 _ _ (by decide), f1 _ _ (by omega)]
    exact (g6 d hd).1
  have m5 : ∀ d, d < D → B5 140 d = nI (hm d) := fun d hd => by
    rw [hB5, u1_n _ _ (by decide), hB4, u1_s]
    unfold gtf
    rw [if_pos hd, Nat.zero_add, f3 _ _ (by decide) (by decide), f1 _ _ (by omega)]
    exact (g6 d hd).2.1
  have s5 : ∀ d, d < D → B5 141 d = nI (sg d) := fun d hd => by
    rw [hB5, u1_s]
    unfold gtf
    rw [if_pos hd, Nat.zero_add, f4 _ _ (by decide) (by decide) (by decide), f1 _ _ (by omega)]
    exact (g6 d hd).2.2
  have z0 : B1 137 0 = nI C := by rw [hB1, u2_nk _ _ (by decide), u2_nk _ _ (by decide), u2_s]
  have z2 : B1 137 2 = nI D := by rw [hB1, u2_nk _ _ (by decide), u2_s]
  have z6 : B1 137 6 = nI pt := by rw [hB1, u2_s]
  have y0 : B5 137 0 = nI C := by rw [f5 _ _ (by decide)]; exact z0
  have y24 : B5 137 24 = nI q := by rw [f5 _ _ (by decide), f1 _ _ (by decide)]; exact g9
  have mr : ∀ qo, B5 137 7 = nI qo → MR B5 C D v kd hm pt qo := fun qo hq => ⟨y0, by rw [f5 _ _ (by decide)]; exact z2, v5, k5, m5, by rw [f5 _ _ (by decide)]; exact z6, hq⟩
  -- the quota
  have e1 : pX10_takeRead 137 (hp ra rb L B) = fX10_takeRead_126 137 (nI (qsl C v q hq)) 137 (hp ra rb L B5) := by
    rw [pX10_takeRead, g_137_16, g3, p_137_0, g_137_18, u2_nk _ _ (by decide), g4, p_137_2, g_137_23, u2_nk _ _ (by decide), u2_nk _ _ (by decide), g8, p_137_6, ← hB1, g_137_17, g_137_1, g_137_0, z0, m_bind_some c1, g_137_19, g_137_3, g_137_2, f2 _ _ (by decide), z2, m_bind_some c2, g_137_20, g_137_4, g_137_2, f3 _ _ (by decide) (by decide), z2, m_bind_some c3, g_137_21, g_137_5, g_137_2, f4 _ _ (by decide) (by decide) (by decide), z2, m_bind_some c4, g_137_0, y0]
    by_cases hz : C = 0
    · have q0 : q = 0 := by
        have := (o4 hz).2
        by_cases hh : 1 ≤ q
        · rw [o9.mpr hh] at this
          exact absurd this (by decide)
        · omega
      rw [hz, if_pos (show nI 0 = 0 from rfl)]
      unfold qsl
      rw [if_neg (by omega), q0]
      rfl
    · rw [if_neg (nI_ne0 (by omega) (by omega)), g_137_24, y24]
      unfold qsl
      cases hq with
      | true =>
        have : 1 ≤ q := o9.mp rfl
        rw [if_neg (nI_nle (by omega) (by omega)), g_137_24, y24, if_neg (by simp)]
      | false =>
        have q0 : q = 0 := by
          by_cases hh : 1 ≤ q
          · exact absurd (o9.mpr hh) (by decide)
          · omega
        have hw := wt_le (v := v) (C := C) (fun c hc => (o5 c hc).2) (2 ^ C - 1)
        have ed : nI (wt v C (2 ^ C - 1)) / 2 = nI (wt v C (2 ^ C - 1) / 2) := pk_div (d := 2) (by omega) (by decide) (by decide)
        rw [q0, if_pos (show nI 0 ≤ 0 by decide), g_137_0, y0, all_n (by omega), v_137, m_bind_some (q_votesOf (mr _ (nI_bv _).symm) o1 (by omega)), ed, nI_1, if_pos ⟨by omega, rfl⟩]
        unfold m_nz
        rw [if_neg (by decide)]
  obtain ⟨B6, hB6⟩ : ∃ B6, B6 = u2 B5 137 7 (nI (qsl C v q hq)) := ⟨_, rfl⟩
  have f6 : ∀ a k, ¬ (a = 137 ∧ k = 7) → B6 a k = B5 a k := fun a k b => by rw [hB6, u2_n _ _ b]
  have k0 := read_0 (ra := ra) (rb := rb) (L := L) (K := fX10_takeRead_150) B6 c_fu 0 (by decide) (by decide)
  rw [gtf_0, u1_id] at k0
  obtain ⟨B7, hB7⟩ : ∃ B7, B7 = u1 B6 142 (gtf (B6 142) (fun _ => 0) 0 36) := ⟨_, rfl⟩
  rw [← hB7] at k0
  have f7 : ∀ a k, a ≠ 142 → B7 a k = B6 a k := fun a k b => by rw [hB7, u1_n _ _ b]
  have y2 : B7 137 2 = nI D := by rw [f7 _ _ (by decide), f6 _ _ (by decide), f5 _ _ (by decide)]; exact z2
  obtain ⟨B8, k1, k2, k3, k4⟩ := read_1 (ra := ra) (rb := rb) (L := L) (K := fX10_takeRead_193) (hm := hm) (sg := sg) (B0 := B7) o3 y2 (fun d hd => by rw [f7 _ _ (by decide), f6 _ _ (by omega)]; exact m5 d hd) (fun d hd => by rw [f7 _ _ (by decide), f6 _ _ (by omega)]; exact s5 d hd) c_fu 0 B7 (by omega) (by show D < 0 + 1000; omega) (fun _ _ _ => rfl) (fun d hd => by omega) (fun k hk => by
    rw [hB7, u1_s]
    unfold gtf
    rw [if_pos (by omega)])
  have all : ∀ a k, a ≠ 142 → ¬ (a = 137 ∧ k = 7) → B8 a k = B5 a k := fun a k b b' => by rw [k2 a k b, f7 a k b, f6 a k b']
  refine ⟨u2 B8 142 8 (nI (2 ^ D - 1)), ?_, ⟨?_, ?_, fun c hc => ?_, fun d hd => ?_, fun d hd => ?_, ?_, ?_⟩, ⟨fun d hd => ?_, fun d hd => ?_, fun d hd => ?_, fun d hd => ?_, u2_s _ _ _ _, ?_, ?_, ?_⟩, fun a k b1 b2 => ?_⟩
  · rw [e1, fX10_takeRead_126, p_137_7, ← hB6]
    refine k0.trans ?_
    rw [fX10_takeRead_150]
    refine k1.trans ?_
    have e8 : (8 : Int32) = nI 8 := rfl
    rw [fX10_takeRead_193, g_137_8, g_137_2, k2 _ _ (by decide), y2, all_n (by omega), e8, s_142 (by decide)]
    rfl
  · rw [u2_na _ _ (by decide), all _ _ (by decide) (by decide)]; exact y0
  · rw [u2_na _ _ (by decide), all _ _ (by decide) (by decide), f5 _ _ (by decide)]; exact z2
  · rw [u2_na _ _ (by decide), all _ _ (by decide) (by omega)]; exact v5 c hc
  · rw [u2_na _ _ (by decide), all _ _ (by decide) (by omega)]; exact k5 d hd
  · rw [u2_na _ _ (by decide), all _ _ (by decide) (by omega)]; exact m5 d hd
  · rw [u2_na _ _ (by decide), all _ _ (by decide) (by decide), f5 _ _ (by decide)]; exact z6
  · rw [u2_na _ _ (by decide), k2 _ _ (by decide), f7 _ _ (by decide), hB6, u2_s]
  · rw [u2_nk _ _ (by omega)]; exact (k3 d hd).1
  · rw [u2_nk _ _ (by omega)]; exact (k3 d hd).2
  · rw [u2_nk _ _ (by omega), k4 _ (by omega)]; rfl
  · rw [u2_nk _ _ (by omega), k4 _ (by omega)]; rfl
  · rw [u2_nk _ _ (by decide), k4 _ (by omega)]; rfl
  · rw [u2_nk _ _ (by decide), k4 _ (by omega)]
  · rw [u2_nk _ _ (by decide), k4 _ (by omega)]
  · rw [u2_na _ _ (by omega), all _ _ (by omega) (by omega), f5 _ _ (by omega), f1 _ _ b1]
end S1
