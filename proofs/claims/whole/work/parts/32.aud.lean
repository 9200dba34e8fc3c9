/-! pairs agreed, audience, drift -/
theorem pw7 {C : Nat} (h : C ≤ 7) : 2 ^ C ≤ 128 := Nat.pow_le_pow_right (by decide) h
theorem all_n {C : Nat} (h : C ≤ 8) : (1 : Int32) <<< (nI C &&& 31) - 1 = nI (2 ^ C - 1) := by
  rw [sh1 (by omega)]
  exact pk_sub (a := 2 ^ C) (b := 1) Nat.one_le_two_pow
theorem q_allCourts {ra rb L ro C : Nat} {A : cM} (hro : c_rl ro) (h : A ro 5 = nI C) (hC : C ≤ 7) : pX4_allCourts ro (hp ra rb L A) = some (nI (2 ^ C - 1), hp ra rb L A) := by
  rw [pX4_allCourts, rg_5 hro, h, all_n (by omega)]
  rfl
theorem pr_agreed (L : Nat) (xs : Nat → Int32) (hL : L ≤ 192) (x : Int32) : Pr L xs (pX9_agreed 3 x) (pX10_agreed 137 x) := by
  refine Pr.same fun ra rb I hR => ?_
  obtain ⟨C, D, v, kd, hm, pt, q, hab, hRo, -⟩ := hR
  have hr := hab.rl
  have hc := hRo.c
  have hm2 := hRo.m
  have ho := hRo.o
  have hC := ho.1
  have h2 := pw7 hC
  have h1 : 1 ≤ 2 ^ C := Nat.one_le_two_pow
  have hq := ho.2.2.2.2.2.2.2.2.1
  rw [pX9_agreed, pX10_agreed, g_137_0, hm2.1, sh1 (by omega)]
  rcases pk_ix x (n := 2 ^ C) (by omega) with h | h | ⟨k, hk, rfl⟩
  · rw [if_pos h, m_bind_some (c_in_nf (Or.inl h) (by omega))]
    exact ⟨_, rfl, rfl⟩
  · have h0 : ¬ x < 0 := fun z => by
      rw [t_lt, show (0 : Int32).toInt = 0 by decide] at z
      rw [t_le, nI_toInt (by omega)] at h
      omega
    have h3 : ¬ x ≤ nI (2 ^ C - 1) := fun z => by
      rw [t_le, nI_toInt (by omega)] at z
      rw [t_le, nI_toInt (by omega)] at h
      omega
    rw [if_neg h0, g_3_7, rv hr, m_bind_some (q_allCourts hr hc.1 hC), if_neg h3, m_bind_some (c_in_nf (Or.inr h) (by omega))]
    exact ⟨_, rfl, rfl⟩
  · have hwt := wt_le (v := v) (C := C) (fun c hc => (ho.2.2.2.2.1 c hc).2) k
    rw [if_neg (nI_pos (by omega)), g_3_7, rv hr, m_bind_some (q_allCourts hr hc.1 hC), if_pos (nI_le (by omega) (by omega)), v_3, m_bind_some (q_hasCongress hr hc.1 hC), m_bind_some (c_in_nt hk (by omega)), if_neg ne10, g_137_0, hm2.1]
    by_cases hz : C = 0
    · rw [if_pos hz, if_pos rfl, if_pos (show nI C ≤ 0 by rw [hz]; decide)]
      exact ⟨_, rfl, rfl⟩
    · rw [if_neg hz, if_neg ne10, if_neg (nI_nle (by omega) (by omega)), g_3_7, rg_4 hr, rl_5 hr (by omega), hc.2.2.2.2.2.2.2 k hk, g_3_7, rg_8 hr, hc.2.2.2.2.2.2.1, v_137, m_bind_some (q_hasQuota hm2 ho (by omega))]
      by_cases hl : wt v C k < q
      · rw [if_pos (nI_lt hl (by omega)), if_pos hl, if_pos rfl]
        exact ⟨_, rfl, rfl⟩
      · rw [if_neg (nI_nlt (by omega) (by omega)), if_neg hl, if_neg ne10]
        exact ⟨_, rfl, rfl⟩
section A1
variable {ra rb L ro : Nat} {A B : cM} {C D : Nat} {v kd hm : Nat → Nat} {pt q : Nat} {t s w e : Nat → Nat} {u y : Nat} {au he : Int32}
def hv (C D : Nat) (v kd t : Nat → Nat) (q u : Nat) : Int32 := if wt v C (nods u t kd C D) < q then 0 else 1
theorem op_hold (hro : c_rl ro) (h : CR A ro C D v kd hm pt q) (hc : CN A D t s w e u y au he) (ho : OKR C D v kd hm pt q) (hk : OKS C D t s w e u y) : ∃ A', pX5_holdAudience 6 ro (hp ra rb L A) = some (hv C D v kd t q u, hp ra rb L A') ∧ CN A' D t s w e u y (au + 1) (he + hv C D v kd t q u) ∧ ∀ a k, (a < 6 ∨ 10 < a) → A' a k = A a k := by
  have hC := ho.1
  have hq := ho.2.2.2.2.2.2.2.2.1
  have hnl : nods u t kd C D < 2 ^ C := bs_lt _ _
  have h2 := pw7 hC
  have hwt := wt_le (v := v) (C := C) (fun c hc => (ho.2.2.2.2.1 c hc).2) (nods u t kd C D)
  have hn := q_nodding (ra := ra) (rb := rb) (L := L) hro h hc ho hk
  obtain ⟨c1, c2, c3, c4, c5, c6, c7, c8⟩ := hc
  have e0 : pX5_holdAudience 6 ro (hp ra rb L A) = fX5_holdAudience_22 6 (hv C D v kd t q u) (hp ra rb L A) := by
    rw [pX5_holdAudience, rg_4 hro, sv sn_6, m_bind_some hn, rl_5 hro (by omega), h.2.2.2.2.2.2.2 _ hnl, rg_8 hro, h.2.2.2.2.2.2.1]
    unfold hv
    by_cases hl : wt v C (nods u t kd C D) < q
    · rw [if_pos (nI_lt hl (by omega)), if_pos hl]
    · rw [if_neg (nI_nlt (by omega) (by omega)), if_neg hl]
  rw [e0]
  have hh : hv C D v kd t q u = 0 ∨ hv C D v kd t q u = 1 := by
    unfold hv
    by_cases hl : wt v C (nods u t kd C D) < q
    · exact Or.inl (if_pos hl)
    · exact Or.inr (if_neg hl)
  rcases hh with hh | hh
  · rw [hh]
    refine ⟨u2 A 6 6 (au + 1), ?_, ⟨fun d hd => ?_, fun d hd => ?_, fun d hd => ?_, fun d hd => ?_, ?_, ?_, ?_, ?_⟩, fun a k h => u2_na _ _ (by omega)⟩
    · rw [fX5_holdAudience_22, sg_6 sn_6, c7, sp_6 sn_6, if_pos rfl]
      rfl
    · rw [u2_na _ _ (by decide)]; exact c1 d hd
    · rw [u2_na _ _ (by decide)]; exact c2 d hd
    · rw [u2_na _ _ (by decide)]; exact c3 d hd
    · rw [u2_na _ _ (by decide)]; exact c4 d hd
    · rw [u2_nk _ _ (by decide)]; exact c5
    · rw [u2_nk _ _ (by decide)]; exact c6
    · rw [u2_s]
    · rw [u2_nk _ _ (by decide), c8, Int32.add_zero]
  · rw [hh]
    refine ⟨u2 (u2 A 6 6 (au + 1)) 6 7 (he + 1), ?_, ⟨fun d hd => ?_, fun d hd => ?_, fun d hd => ?_, fun d hd => ?_, ?_, ?_, ?_, ?_⟩, fun a k h => by rw [u2_na _ _ (by omega), u2_na _ _ (by omega)]⟩
    · rw [fX5_holdAudience_22, sg_6 sn_6, c7, sp_6 sn_6, if_neg ne10, sg_7 sn_6, u2_nk _ _ (by decide), c8, sp_7 sn_6]
      rfl
    · rw [u2_na _ _ (by decide), u2_na _ _ (by decide)]; exact c1 d hd
    · rw [u2_na _ _ (by decide), u2_na _ _ (by decide)]; exact c2 d hd
    · rw [u2_na _ _ (by decide), u2_na _ _ (by decide)]; exact c3 d hd
    · rw [u2_na _ _ (by decide), u2_na _ _ (by decide)]; exact c4 d hd
    · rw [u2_nk _ _ (by decide), u2_nk _ _ (by decide)]; exact c5
    · rw [u2_nk _ _ (by decide), u2_nk _ _ (by decide)]; exact c6
    · rw [u2_nk _ _ (by decide), u2_s]
    · rw [u2_s]
theorem mo_hold (h : MR B C D v kd hm pt q) (hc : MN B D t s w e u y au he) (ho : OKR C D v kd hm pt q) (hk : OKS C D t s w e u y) : ∃ B', pX10_audienceNow 137 (hp ra rb L B) = some (hv C D v kd t q u, hp ra rb L B') ∧ MN B' D t s w e u y (au + 1) (he + hv C D v kd t q u) ∧ ∀ a k, a ≠ 142 → B' a k = B a k := by
  have hC := ho.1
  have hD := ho.2.2.1
  have hq := ho.2.2.2.2.2.2.2.2.1
  have hnl : nods u t kd C D < 2 ^ C := bs_lt _ _
  have h2 := pw7 hC
  have hn := q_noddingOnes (ra := ra) (rb := rb) (L := L) h hc ho hk
  have e34 : (34 : Int32) = nI 34 := rfl
  have e35 : (35 : Int32) = nI 35 := rfl
  have hh : hv C D v kd t q u = 0 ∨ hv C D v kd t q u = 1 := by
    unfold hv
    by_cases hl : wt v C (nods u t kd C D) < q
    · exact Or.inl (if_pos hl)
    · exact Or.inr (if_neg hl)
  have e0 : pX10_audienceNow 137 (hp ra rb L B) = fX10_audienceNow_16 137 (hv C D v kd t q u) (hp ra rb L B) := by
    rw [pX10_audienceNow, v_137, m_bind_some hn, v_137, m_bind_some (q_hasQuota h ho (by omega))]
    rw [show (if wt v C (nods u t kd C D) < q then (0 : Int32) else 1) = hv C D v kd t q u from rfl]
    rcases hh with hh | hh
    · rw [hh, if_pos rfl]
    · rw [hh, if_neg ne10]
  obtain ⟨c1, c2, c3, c4, c5, c6, c7, c8⟩ := hc
  refine ⟨u2 (u2 B 142 34 (au + 1)) 142 35 (he + hv C D v kd t q u), ?_, ⟨fun d hd => ?_, fun d hd => ?_, fun d hd => ?_, fun d hd => ?_, ?_, ?_, ?_, ?_⟩, fun a k h => by rw [u2_na _ _ h, u2_na _ _ h]⟩
  · rw [e0, fX10_audienceNow_16, g_137_8, e34, l_142 (by decide), c7, s_142 (by decide), g_137_8, e35, l_142 (by decide), u2_nk _ _ (by decide), c8, s_142 (by decide)]
    rfl
  · rw [u2_nk _ _ (by omega), u2_nk _ _ (by omega)]; exact c1 d hd
  · rw [u2_nk _ _ (by omega), u2_nk _ _ (by omega)]; exact c2 d hd
  · rw [u2_nk _ _ (by omega), u2_nk _ _ (by omega)]; exact c3 d hd
  · rw [u2_nk _ _ (by omega), u2_nk _ _ (by omega)]; exact c4 d hd
  · rw [u2_nk _ _ (by decide), u2_nk _ _ (by decide)]; exact c5
  · rw [u2_nk _ _ (by decide), u2_nk _ _ (by decide)]; exact c6
  · rw [u2_nk _ _ (by decide), u2_s]
  · rw [u2_s]
end A1
theorem pr_audience (L : Nat) (xs : Nat → Int32) (hL : L ≤ 192) : Pr L xs (pX9_audience 3) (pX10_audience 137) := by
  intro ra rb I hR
  have hR0 := hR
  obtain ⟨C, D, v, kd, hm, pt, q, hab, hRo, hT, hN, ⟨z, nx, hP⟩, hI, hB, ⟨ch, hS⟩, hX⟩ := hR
  have hr := hab.rl
  have hra : 100 < ra := by rcases hab with h | h <;> omega
  have hc := hRo.c
  have hm2 := hRo.m
  have ho := hRo.o
  have hC := ho.1
  obtain ⟨t, s, w, e, u, yy, au, he, hc1, hm1, hok⟩ := scn_to hN
  obtain ⟨p1, p2, p3, p4, p5, -⟩ := id hP
  by_cases hz : C = 0
  · refine ⟨-1000000003, ra, rb, I, I, ?_, hX.2.2, ?_, hR0⟩
    · rw [pX9_audience, v_3, m_bind_some (q_hasCongress hr hc.1 hC), if_pos hz]
      rfl
    · rw [pX10_audience, g_137_0, hm2.1, hz, if_pos (show nI 0 = 0 from rfl)]
      rfl
  · obtain ⟨A, a1, a2, a3⟩ := op_hold (ra := ra) (rb := rb) (L := L) hr (hc.fr (B := crem I nx z) fun a k h1 h2 => crem_o p2 (by omega)) (cn_rem hc1 p2) ho hok
    have hA : ∀ a k, 136 < a → A a k = I a k := fun a k h => by rw [a3 a k (by omega), crem_o p2 (by omega)]
    obtain ⟨B, b1, b2, b3⟩ := mo_hold (ra := ra) (rb := rb) (L := L) (hm2.fr (B := mrem A z) fun a k h => by rw [mrem_o (by omega) (by omega), hA _ _ (by omega)]) (mn_rem hm1 (fun k => hA 142 k (by decide))) ho hok
    have hh : hv C D v kd t q u = 0 ∨ hv C D v kd t q u = 1 := by
      unfold hv
      by_cases hl : wt v C (nods u t kd C D) < q
      · exact Or.inl (if_pos hl)
      · exact Or.inr (if_neg hl)
    refine ⟨hv C D v kd t q u, ra, rb, A, B, ?_, ?_, ?_, ?_⟩
    · rw [pX9_audience, v_3, m_bind_some (q_hasCongress hr hc.1 hC), if_neg hz, if_neg ne10, g_3_2, g_3_1, v_11, m_bind_some (q_remember p3 p4 p2 p1), g_3_1, g_3_7, sv sn_6, m_bind_some a1]
      rcases hh with hh | hh
      · rw [hh, if_pos rfl]
        rfl
      · rw [hh, if_neg ne10]
        rfl
    · funext k
      rw [a3 _ _ (by decide), crem_o p2 (by decide)]
      exact congrFun hX.2.2 k
    · rw [pX10_audience, g_137_0, hA _ _ (by decide), hm2.1, if_neg (nI_ne0 (by omega) (by omega)), v_137, m_bind_some (q_mrem (by rw [hA _ _ (by decide)]; exact p5) p1), v_137, m_bind_some b1]
      rfl
    · exact deed_fin hab hRo hT hN hP hI hB hX (fun a k h1 _ => a3 a k h1) a2 (fun a k h1 _ => b3 a k h1) b2 hok hS.1 (by rw [a3 _ _ (by decide), crem_o p2 (by decide)]; exact hS.2.1) (by rw [b3 _ _ (by decide), mrem_o (by decide) (by decide), hA _ _ (by decide)]; exact hS.2.2)
