/-! pair congress -/
theorem cong_sk {ra rb L T : Nat} {tx : Nat → Nat} {p : Nat} {B : cM} (hT : T ≤ 240) (htx : ∀ j, j < T → tx j < 256) (h : TM B T tx p) (hpT : p ≤ T) (K2 : Nat → Int32 → MM Int32) (n : Nat) : fX10_congress_37 K2 (n + 1) 137 0 (hp ra rb L B) = fX10_congress_37 K2 (n + 1) 137 0 (hp ra rb L (u2 B 137 13 (nI (sk T tx p)))) := by
  have g := h.mv (sk T tx p)
  have hb := sk_b (tx := tx) hpT
  have e2 := q_here (ra := ra) (rb := rb) (L := L) hT htx g hb.2
  rw [sk_sk hpT, u2_u2] at e2
  rw [fX10_congress_37, if_pos rfl, v_137, v_137, m_bind_some (q_here hT htx h hpT), m_bind_some e2]
theorem cg71 {ra rb L : Nat} {J : cM} {K : Nat → MM Int32} (n : Nat) : fX9_congress_71 K (n + 1 + 1 + 1) 3 0 (hp ra rb L J) = K 3 (hp ra rb L (u2 (u2 J 125 2 0) 131 2 0)) := by
  have e0 : (0 : Int32) = nI 0 := rfl
  have e1 : (1 : Int32) = nI 1 := rfl
  have st : ∀ (i n : Nat) (J : cM), i < 2 → fX9_congress_71 K (n + 1) 3 (nI i) (hp ra rb L J) = fX9_congress_71 K n 3 (nI (i + 1)) (hp ra rb L (u2 J (125 + 6 * i) 2 0)) := by
    intro i n J hi
    obtain ⟨s1, s2, s3⟩ := im_sh hi
    rw [fX9_congress_71, if_neg (show ¬ (2 : Int32) ≤ nI i from nI_ge (b := 2) hi (by decide)), g_3_4, r_96 hi, h_pi s1 (s2 ra rb L) rfl, mlet, nI_1]
  have k1 := st 0 (n + 1 + 1) J (by decide)
  have k2 := st 1 (n + 1) (u2 J (125 + 6 * 0) 2 0) (by decide)
  refine k1.trans (k2.trans ?_)
  rw [fX9_congress_71, if_pos (show (2 : Int32) ≤ nI (1 + 1) by decide)]
/-- the model's start on a text -/
theorem cong_m {ra rb L T : Nat} {tx : Nat → Nat} {A : cM} (v kd hm sg : Nat → Nat) (h1 : A 137 11 = nI T) (h2 : ∀ j, j < T → A 143 j = nI (tx j)) : ∃ B, pX10_congress 137 (hp ra rb L A) = fX10_congress_37 fX10_congress_56 c_fu 137 0 (hp ra rb L B) ∧ GM B A T tx 0 0 0 v kd hm sg 0 false 0 := by
  obtain ⟨B, hB⟩ : ∃ B, B = u2 (u2 (u2 (u2 (u2 (u2 (u2 A 137 12 (-1)) 137 13 0) 137 16 0) 137 18 0) 137 22 0) 137 23 0) 137 24 0 := ⟨_, rfl⟩
  have f : ∀ a k, ¬ (a = 137 ∧ 12 ≤ k ∧ k ≤ 24) → B a k = A a k := fun a k b => by
    rw [hB, u2_n _ _ (by omega), u2_n _ _ (by omega), u2_n _ _ (by omega), u2_n _ _ (by omega), u2_n _ _ (by omega), u2_n _ _ (by omega), u2_n _ _ (by omega)]
  refine ⟨B, ?_, ⟨?_, ?_, fun j hj => ?_⟩, ?_, ?_, ?_, fun c hc => by omega, fun c hc => by omega, ⟨?_, ?_, ?_⟩, fun a k b1 b2 => f a k b1⟩
  · rw [pX10_congress, p_137_12, p_137_13, p_137_16, p_137_18, p_137_22, p_137_23, p_137_24, hB]
  · rw [f _ _ (by decide)]; exact h1
  · rw [hB, u2_nk _ _ (by decide), u2_nk _ _ (by decide), u2_nk _ _ (by decide), u2_nk _ _ (by decide), u2_nk _ _ (by decide), u2_s]; rfl
  · rw [f _ _ (by omega)]; exact h2 j hj
  · rw [hB, u2_nk _ _ (by decide), u2_nk _ _ (by decide), u2_nk _ _ (by decide), u2_nk _ _ (by decide), u2_nk _ _ (by decide), u2_nk _ _ (by decide), u2_s]
  · rw [hB, u2_nk _ _ (by decide), u2_nk _ _ (by decide), u2_nk _ _ (by decide), u2_nk _ _ (by decide), u2_s]; rfl
  · rw [hB, u2_nk _ _ (by decide), u2_nk _ _ (by decide), u2_nk _ _ (by decide), u2_s]; rfl
  · rw [hB, u2_nk _ _ (by decide), u2_nk _ _ (by decide), u2_s]; rfl
  · rw [hB, u2_nk _ _ (by decide), u2_s]; rfl
  · rw [hB, u2_s]; rfl
theorem cong_c {ra rb L T : Nat} {tx : Nat → Nat} {I : cM} (v kd hm sg : Nat → Nat) (hr : c_rl rb) (hrb : 112 < rb) (hT : T ≤ 240) (htx : ∀ j, j < T → tx j < 256) (h1 : I 4 1 = nI T) (h2 : ∀ j, j < T → I 5 j = nI (tx j)) : ∃ A, pX7_readInto 4 rb (hp ra rb L I) = fX7_readInto_25 fX7_readInto_65 c_fu 4 rb (nI 0) (hp ra rb L A) ∧ GC A I rb T tx (sk T tx 0) 0 0 v kd hm sg 0 false 0 false := by
  obtain ⟨A, hA⟩ : ∃ A, A = u2 (u2 (u2 (u2 (u2 (u2 (u2 (u2 (u2 I 4 4 0) 4 2 0) 4 3 (-1)) rb 5 0) rb 6 0) rb 7 0) rb 8 0) rb 9 0) rb 10 0 := ⟨_, rfl⟩
  have f : ∀ a k, ¬ (a = 4 ∧ 2 ≤ k) → ¬ (a = rb) → A a k = I a k := fun a k b b' => by
    rw [hA, u2_na _ _ b', u2_na _ _ b', u2_na _ _ b', u2_na _ _ b', u2_na _ _ b', u2_na _ _ b', u2_n _ _ (by omega), u2_n _ _ (by omega), u2_n _ _ (by omega)]
  have f4 : ∀ k, A 4 k = u2 (u2 (u2 I 4 4 0) 4 2 0) 4 3 (-1) 4 k := fun k => by
    rw [hA, u2_na _ _ (by omega), u2_na _ _ (by omega), u2_na _ _ (by omega), u2_na _ _ (by omega), u2_na _ _ (by omega), u2_na _ _ (by omega)]
  have G : GC A I rb T tx 0 0 0 v kd hm sg 0 false 0 false := by
    refine ⟨⟨?_, ?_, fun j hj => ?_⟩, ?_, ?_, ?_, ?_, fun c hc => by omega, fun c hc => by omega, ⟨?_, ?_, ?_, ?_⟩, fun a k b1 b2 => f a k b1 (by omega)⟩
    · rw [f _ _ (by decide) (by omega)]; exact h1
    · rw [f4, u2_nk _ _ (by decide), u2_nk _ _ (by decide), u2_s]; rfl
    · rw [f _ _ (by omega) (by omega)]; exact h2 j hj
    · rw [f4, u2_nk _ _ (by decide), u2_s]
    · rw [f4, u2_s]
    · rw [hA, u2_nk _ _ (by decide), u2_nk _ _ (by decide), u2_nk _ _ (by decide), u2_nk _ _ (by decide), u2_nk _ _ (by decide), u2_s]; rfl
    · rw [hA, u2_nk _ _ (by decide), u2_nk _ _ (by decide), u2_nk _ _ (by decide), u2_nk _ _ (by decide), u2_s]; rfl
    · rw [hA, u2_nk _ _ (by decide), u2_nk _ _ (by decide), u2_nk _ _ (by decide), u2_s]; rfl
    · rw [hA, u2_nk _ _ (by decide), u2_s]; rfl
    · rw [hA, u2_nk _ _ (by decide), u2_nk _ _ (by decide), u2_s]; rfl
    · rw [hA, u2_s]; rfl
  refine ⟨_, ?_, G.at (by omega) (sk T tx 0)⟩
  have cl : pX4_clear rb (hp ra rb L (u2 (u2 (u2 I 4 4 0) 4 2 0) 4 3 (-1))) = some ((), hp ra rb L A) := by
    rw [pX4_clear, rp_5_ hr, rp_6_ hr, rp_7_ hr, rp_8_ hr, rp_9_ hr, rp_10_ hr, hA]
    rfl
  rw [pX7_readInto, p_4_4, p_4_2, p_4_3, rv hr, m_bind_some cl, v_4, m_bind_some (q_skip hT htx G.1 (Nat.zero_le _))]
  rfl
theorem pr_congress (L : Nat) (xs : Nat → Int32) (hL : L ≤ 192) : Pr L xs (pX9_congress 3) (pX10_congress 137) := by
  intro ra rb I hR
  obtain ⟨C0, D0, v0, kd0, hm0, pt0, q0, hab, hRo, ⟨T, tx, hT⟩, hN, ⟨z, nx, hP⟩, hI, hB, ⟨ch, hS⟩, hX⟩ := hR
  have hr2 := hab.rl2
  have hrab : (ra = 113 ∧ rb = 119) ∨ (ra = 119 ∧ rb = 113) := hab
  have hrb : 112 < rb := by omega
  obtain ⟨t1, t2, t3, t4, t5⟩ := hT
  have htx : ∀ j, j < T → tx j < 256 := fun j hj => (t4 j hj).1
  have hD0 : D0 ≤ 8 := hRo.2.2.1
  have hb := sk_b (T := T) (tx := tx) (p := 0) (Nat.zero_le _)
  obtain ⟨A1, e1, G1⟩ := cong_c (ra := ra) (L := L) v0 kd0 hm0 hm0 hr2 hrb t1 htx t2 (fun j hj => (t4 j hj).2.1)
  have ok0 : OKT 0 0 v0 kd0 hm0 hm0 0 0 false := ⟨by decide, by decide, by decide, fun _ => ⟨rfl, rfl⟩, fun c hc => by omega, fun c hc => by omega, by decide, by decide, ⟨fun h => absurd h (by decide), fun h => by omega⟩⟩
  rcases two_all (ra := ra) (L := L) (A0 := I) hr2 (by omega) t1 htx fX7_readInto_65 fX10_congress_56 (T - sk T tx 0) (sk T tx 0) 0 0 0 v0 kd0 hm0 hm0 0 false 0 false (by omega) hb.2 (by omega) (sk_sk (Nat.zero_le _)) ok0 with ⟨C, D, v, kd, hm, sg, pt, hpt, q, hq, ho, k1, k2⟩ | ⟨n0, w, o1, o2, o3, k1, k2⟩
  · obtain ⟨A2, g1, g2⟩ := k1 c_fu A1 (by show T - sk T tx 0 + 1 < 1000; omega) G1
    have ho' := ho
    obtain ⟨u1', u2', u3', u4', u5', u6', u7', u8', u9'⟩ := ho'
    obtain ⟨y1, y2, y3, y4, y5, y6, y7, ⟨y8, y9, y10, y11⟩, y12⟩ := g2
    obtain ⟨A3, hA3⟩ : ∃ A3, A3 = u2 A2 4 1 0 := ⟨_, rfl⟩
    have f3 : ∀ a k, ¬ (a = 4 ∧ k = 1) → A3 a k = A2 a k := fun a k b => by rw [hA3, u2_n _ _ b]
    obtain ⟨A4, s1, s2, s3, s4⟩ := q_settle (ra := ra) (rb := rb) (L := L) (A := A3) (hq := hq) (q := q) hr2 (by rw [f3 _ _ (by omega)]; exact y4) (fun c hc => by rw [f3 _ _ (by omega)]; exact y6 c hc) (fun c hc => (u5' c hc).2) u1' (by rw [f3 _ _ (by omega)]; exact y10) (by rw [f3 _ _ (by omega)]; exact y11)
    have e2 : pX7_readInto 4 rb (hp ra rb L I) = some (1, hp ra rb L A4) := by
      rw [e1, g1, fX7_readInto_65, p_4_1, g_4_2, ← hA3, f3 _ _ (by decide), y2, if_pos rfl, rv hr2, m_bind_some s1]
      rfl
    have f4 : ∀ a k, ¬ (a = 4 ∧ k = 1) → a ≠ rb + 5 → ¬ (a = rb ∧ k = 8) → A4 a k = A2 a k := fun a k b1 b2 b3 => by rw [s4 a k b2 b3]; exact f3 a k b1
    obtain ⟨A5, b1, b2, b3⟩ := q_begin (ra := rb) (rb := ra) (L := L) (A := A4) (hm := hm) (sg := sg) hr2 hrb u3' (by rw [f4 _ _ (by omega) (by omega) (by omega)]; exact y5) (fun d hd => by rw [f4 _ _ (by omega) (by omega) (by omega)]; exact (y7 d hd).2.1) (fun d hd => by rw [f4 _ _ (by omega) (by omega) (by omega)]; exact (y7 d hd).2.2)
    obtain ⟨A6, hA6⟩ : ∃ A6, A6 = u2 (u2 (u2 (u2 A5 11 2 0) 93 2 0) 125 2 0) 131 2 0 := ⟨_, rfl⟩
    have f6 : ∀ a k, ¬ ((a = 11 ∨ a = 93 ∨ a = 125 ∨ a = 131) ∧ k = 2) → A6 a k = A5 a k := fun a k b => by
      rw [hA6, u2_n _ _ (by omega), u2_n _ _ (by omega), u2_n _ _ (by omega), u2_n _ _ (by omega)]
    have d6 : A6 rb 6 = nI D := by rw [f6 _ _ (by omega), b3 _ _ (by omega), f4 _ _ (by omega) (by omega) (by omega)]; exact y5
    have all1 : ∀ a k, ¬ (a = 4 ∧ 1 ≤ k) → ¬ (rb ≤ a ∧ a ≤ rb + 5) → ¬ (6 ≤ a ∧ a ≤ 10) → ¬ ((a = 11 ∨ a = 93 ∨ a = 125 ∨ a = 131) ∧ k = 2) → A6 a k = I a k := fun a k c1 c2 c3 c4 => by
      rw [f6 a k c4, b3 a k (by omega), f4 a k (by omega) (by omega) (by omega)]
      exact y12 a k (by omega) c2
    have cr : pX9_congress 3 (hp ra rb L I) = some (nI D, hp rb ra L A6) := by
      have fg : pX3_forget 11 (hp rb ra L A5) = some ((), hp rb ra L (u2 A5 11 2 0)) := by
        rw [pX3_forget, p_11_2]
        rfl
      have lp : fX9_congress_71 fX9_congress_92 c_fu 3 0 (hp rb ra L (u2 (u2 A5 11 2 0) 93 2 0)) = fX9_congress_92 3 (hp rb ra L A6) := by
        rw [hA6]
        exact cg71 (ra := rb) (rb := ra) (L := L) (K := fX9_congress_92) 997
      rw [pX9_congress, g_3_0, g_3_8, v_4, m_bind_some e2, if_neg ne10, g_3_7, g_3_8, sw_7, sw_8, g_3_1, g_3_7, sv sn_6, m_bind_some b1, g_3_2, v_11, m_bind_some fg, g_3_3, p_93_2, lp, fX9_congress_92, g_3_7, rg_6 hr2, d6]
      rfl
    -- the model
    obtain ⟨B1, m1, M1⟩ := cong_m (ra := rb) (rb := ra) (L := L) (T := T) (tx := tx) (A := A6) v0 kd0 hm0 hm0 (by rw [all1 _ _ (by decide) (by omega) (by decide) (by decide)]; exact t3) (fun j hj => by rw [all1 _ _ (by omega) (by omega) (by omega) (by omega)]; exact (t4 j hj).2.2)
    obtain ⟨B2, m2, M2⟩ := k2 c_fu _ A6 rb ra (by show T - sk T tx 0 + 1 < 1000; omega) (M1.at (sk T tx 0))
    have m3 : pX10_congress 137 (hp rb ra L A6) = fX10_congress_56 137 0 (hp rb ra L B2) := by
      rw [m1, ← m2]
      exact cong_sk t1 htx M1.1 (Nat.zero_le _) fX10_congress_56 999
    obtain ⟨w1, w2, w3, w4, w5, w6, ⟨w7, w8, w9⟩, w10⟩ := M2
    obtain ⟨B3, hB3⟩ : ∃ B3, B3 = u2 B2 137 11 0 := ⟨_, rfl⟩
    have h3 : ∀ a k, ¬ (a = 137 ∧ k = 11) → B3 a k = B2 a k := fun a k b => by rw [hB3, u2_n _ _ b]
    have M3 : GM B3 B3 0 tx T C D v kd hm sg pt hpt q := by
      refine ⟨⟨?_, ?_, fun j hj => by omega⟩, ?_, ?_, ?_, fun c hc => ?_, fun d hd => ?_, ⟨?_, ?_, ?_⟩, fun _ _ _ _ => rfl⟩
      · rw [hB3, u2_s]; rfl
      · rw [h3 _ _ (by decide)]; exact w1.2.1
      · rw [h3 _ _ (by decide)]; exact w2
      · rw [h3 _ _ (by decide)]; exact w3
      · rw [h3 _ _ (by decide)]; exact w4
      · rw [h3 _ _ (by omega)]; exact w5 c hc
      · rw [h3 _ _ (by omega), h3 _ _ (by omega), h3 _ _ (by omega)]; exact w6 d hd
      · rw [h3 _ _ (by decide)]; exact w7
      · rw [h3 _ _ (by decide)]; exact w8
      · rw [h3 _ _ (by decide)]; exact w9
    obtain ⟨B4, r1, r2, r3, r4⟩ := q_takeRead (ra := rb) (rb := ra) (L := L) M3 ho
    obtain ⟨B5, hB5⟩ : ∃ B5, B5 = u2 (u2 (u2 (u2 B4 137 31 0) 137 25 0) 156 0 0) 156 1 0 := ⟨_, rfl⟩
    have h5 : ∀ a k, ¬ (a = 137 ∧ (k = 25 ∨ k = 31)) → ¬ (a = 156 ∧ k < 2) → B5 a k = B4 a k := fun a k c1 c2 => by
      rw [hB5, u2_n _ _ (by omega), u2_n _ _ (by omega), u2_n _ _ (by omega), u2_n _ _ (by omega)]
    have d5 : B5 137 2 = nI D := by rw [h5 _ _ (by decide) (by decide)]; exact r2.2.1
    have all2 : ∀ a k, ¬ (a = 137 ∧ (k < 8 ∨ (11 ≤ k ∧ k ≤ 25) ∨ k = 31)) → ¬ (138 ≤ a ∧ a ≤ 142) → ¬ (144 ≤ a ∧ a ≤ 147) → ¬ (a = 156 ∧ k < 2) → B5 a k = A6 a k := fun a k c1 c2 c3 c4 => by
      rw [h5 a k (by omega) c4, r4 a k (by omega) c2, h3 a k (by omega)]
      exact w10 a k (by omega) c3
    have all3 : ∀ a k, ¬ (a = 137 ∧ (k < 8 ∨ (11 ≤ k ∧ k ≤ 25) ∨ k = 31)) → ¬ (138 ≤ a ∧ a ≤ 142) → ¬ (144 ≤ a ∧ a ≤ 147) → ¬ (a = 156 ∧ k < 2) → ¬ (a = 4 ∧ 1 ≤ k) → ¬ (rb ≤ a ∧ a ≤ rb + 5) → ¬ (6 ≤ a ∧ a ≤ 10) → ¬ ((a = 11 ∨ a = 93 ∨ a = 125 ∨ a = 131) ∧ k = 2) → B5 a k = I a k := fun a k c1 c2 c3 c4 c5 c6 c7 c8 => (all2 a k c1 c2 c3 c4).trans (all1 a k c5 c6 c7 c8)
    have mr : pX10_congress 137 (hp rb ra L A6) = some (nI D, hp rb ra L B5) := by
      have e0 : (0 : Int32) = nI 0 := rfl
      have z0 := s_156 (ra := rb) (rb := ra) (L := L) (I := u2 (u2 B4 137 31 0) 137 25 0) (x := 0) (j := 0) (K := m_gr 137 9 35 (fun a2 => m_sz a2 (1 : Int32) (0 : Int32) (m_gi 137 9 2 (fun x3 => m_ret x3)))) (by decide) (by decide)
      have z1 := s_156 (ra := rb) (rb := ra) (L := L) (I := u2 (u2 (u2 B4 137 31 0) 137 25 0) 156 0 0) (x := 0) (j := 1) (K := m_gi 137 9 2 (fun x3 => m_ret x3)) (by decide) (by decide)
      rw [m3, fX10_congress_56, p_137_11, ← hB3, if_pos (by decide), v_137, m_bind_some r1, p_137_31, p_137_25, g_137_35]
      refine z0.trans ?_
      rw [g_137_35]
      refine z1.trans ?_
      rw [← hB5, g_137_2, d5]
      rfl
    have hro : ∀ a k, rb ≤ a → a ≤ rb + 5 → B5 a k = A4 a k := fun a k c1 c2 => by
      rw [all2 a k (by omega) (by omega) (by omega) (by omega), f6 a k (by omega), b3 a k (by omega)]
    have hro2 : ∀ a k, rb ≤ a → a ≤ rb + 4 → ¬ (a = rb ∧ k = 8) → B5 a k = A2 a k := fun a k c1 c2 c3 => by
      rw [hro a k c1 (by omega), f4 a k (by omega) (by omega) c3]
    have hw9 := wt_le (v := v) (C := C) (fun c hc => (u5' c hc).2) (2 ^ C - 1)
    have hq63 : qsl C v q hq ≤ 63 := by
      unfold qsl
      by_cases hz : 0 < C ∧ hq = false
      · rw [if_pos hz]; omega
      · rw [if_neg hz]; exact u8'
    have hqC : 0 < C ↔ 1 ≤ qsl C v q hq := by
      unfold qsl
      by_cases hz : 0 < C ∧ hq = false
      · rw [if_pos hz]; omega
      · rw [if_neg hz]
        cases hq with
        | true =>
          have : 1 ≤ q := u9'.mp rfl
          have : C ≠ 0 := fun z => absurd (u4' z).2 (by decide)
          omega
        | false =>
          have : ¬ 1 ≤ q := fun z => absurd (u9'.mpr z) (by decide)
          have : ¬ 0 < C := fun z => hz ⟨z, rfl⟩
          omega
    refine ⟨nI D, rb, ra, A6, B5, cr, ?_, mr, C, D, v, kd, hm, pt, qsl C v q hq, ?_, ?_, ⟨0, tx, ?_⟩, ?_, ⟨0, nx, ?_⟩, ?_, ⟨0, fun _ => 0, fun _ => 0, ?_⟩, ⟨ch, ?_⟩, ?_⟩
    · funext k
      rw [all1 _ _ (by omega) (by omega) (by omega) (by omega)]
      exact congrFun hX.2.2 k
    · rcases hab with h | h
      · exact Or.inr ⟨h.2, h.1⟩
      · exact Or.inl ⟨h.2, h.1⟩
    · refine ⟨u1', u2', u3', fun z => (u4' z).1, ?_, ?_, ?_, ?_, fun c hc => ⟨(u5' c hc).1, (u5' c hc).2, ?_, ?_⟩, fun d hd => ⟨(u6' d hd).1, ?_, ?_⟩, fun d hd => ⟨(u6' d hd).2.1, ?_, ?_⟩, u7', ?_, ?_, hq63, hqC, ?_, ?_, fun s hs => ?_⟩
      · rw [hro2 _ _ (by omega) (by omega) (by omega)]; exact y4
      · rw [h5 _ _ (by decide) (by decide)]; exact r2.1
      · rw [hro2 _ _ (by omega) (by omega) (by omega)]; exact y5
      · exact d5
      · rw [hro2 _ _ (by omega) (by omega) (by omega)]; exact y6 c hc
      · rw [h5 _ _ (by omega) (by omega)]; exact r2.2.2.1 c hc
      · rw [hro2 _ _ (by omega) (by omega) (by omega)]; exact (y7 d hd).1
      · rw [h5 _ _ (by omega) (by omega)]; exact r2.2.2.2.1 d hd
      · rw [hro2 _ _ (by omega) (by omega) (by omega)]; exact (y7 d hd).2.1
      · rw [h5 _ _ (by omega) (by omega)]; exact r2.2.2.2.2.1 d hd
      · rw [hro2 _ _ (by omega) (by omega) (by omega)]; exact y8
      · rw [h5 _ _ (by decide) (by decide)]; exact r2.2.2.2.2.2.1
      · rw [hro _ _ (by omega) (by omega)]; exact s3
      · rw [h5 _ _ (by decide) (by decide)]; exact r2.2.2.2.2.2.2
      · rw [hro _ _ (by omega) (by omega)]; exact s2 s hs
    · refine ⟨by decide, ?_, ?_, fun j hj => by omega, ?_⟩
      · rw [all2 _ _ (by decide) (by decide) (by decide) (by decide), f6 _ _ (by decide), b3 _ _ (by omega), s4 _ _ (by omega) (by omega), hA3, u2_s]; rfl
      · rw [h5 _ _ (by decide) (by decide), r4 _ _ (by decide) (by decide), hB3, u2_s]; rfl
      · rw [all2 4 3 (by decide) (by decide) (by decide) (by decide), f6 _ _ (by decide), b3 _ _ (by omega), f4 _ _ (by decide) (by omega) (by omega), y3, h5 _ _ (by decide) (by decide), r4 _ _ (by decide) (by decide), h3 _ _ (by decide), w2]
    · have hcn : CN B5 D hm sg (fun _ => 0) (fun _ => 0) (2 ^ D - 1) 0 0 0 := b2.fr fun a k c1 c2 => by
        rw [all2 a k (by omega) (by omega) (by omega) (by omega), f6 a k (by omega)]
      have hmn : MN B5 D hm sg (fun _ => 0) (fun _ => 0) (2 ^ D - 1) 0 0 0 := r3.fr fun k => h5 142 k (by omega) (by omega)
      have h21 : 1 ≤ 2 ^ D := Nat.one_le_two_pow
      exact scn_of hcn hmn ⟨fun d hd => ⟨(u6' d hd).2.1, (u6' d hd).2.2, Nat.zero_le _, Nat.zero_le _⟩, by omega, by decide⟩
    · refine ⟨by decide, hP.2.1, ?_, ?_, ?_, fun i hi => by omega⟩
      · rw [all3 _ _ (by decide) (by decide) (by decide) (by decide) (by decide) (by omega) (by decide) (by decide)]; exact hP.2.2.1
      · rw [all2 _ _ (by decide) (by decide) (by decide) (by decide), hA6, u2_na _ _ (by decide), u2_na _ _ (by decide), u2_na _ _ (by decide), u2_s]; rfl
      · rw [hB5, u2_na _ _ (by decide), u2_na _ _ (by decide), u2_s]; rfl
    · intro i hi
      have e156 : B5 156 i = 0 := by
        rw [hB5]
        by_cases hi1 : i = 1
        · rw [hi1, u2_s]
        · have : i = 0 := by omega
          rw [this, u2_nk _ _ (by decide), u2_s]
      have e125 : B5 (125 + 6 * i) 2 = 0 := by
        rw [all2 _ _ (by omega) (by omega) (by omega) (by omega), hA6]
        by_cases hi1 : i = 1
        · rw [hi1, u2_s]
        · have : i = 0 := by omega
          rw [this, u2_na _ _ (by decide), u2_s]
      exact ⟨e125.trans e156.symm, Or.inl e156, fun z => absurd (e156.symm.trans z) (by decide)⟩
    · refine ⟨by decide, ?_, ?_, fun j hj => by omega⟩
      · rw [all2 _ _ (by decide) (by decide) (by decide) (by decide), hA6, u2_na _ _ (by decide), u2_na _ _ (by decide), u2_s]; rfl
      · rw [hB5, u2_na _ _ (by decide), u2_na _ _ (by decide), u2_nk _ _ (by decide), u2_s]; rfl
    · refine hS.fr fun a k hf => ?_
      unfold fSed at hf
      exact all3 a k (by omega) (by omega) (by omega) (by omega) (by omega) (by omega) (by omega) (by omega)
    · refine hX.fr fun a k hf => ?_
      unfold fSta at hf
      exact all3 a k (by omega) (by omega) (by omega) (by omega) (by omega) (by omega) (by omega) (by omega)
  · obtain ⟨A2, g1, ⟨-, g2, g3, g4⟩⟩ := k1 c_fu A1 (by show T - sk T tx 0 + 1 < 1000; omega) G1
    have nz : ¬ nI n0 = 0 := nI_ne0 (by omega) (by omega)
    obtain ⟨A3, hA3⟩ : ∃ A3, A3 = u2 A2 4 1 0 := ⟨_, rfl⟩
    have f3 : ∀ a k, ¬ (a = 4 ∧ k = 1) → A3 a k = A2 a k := fun a k b => by rw [hA3, u2_n _ _ b]
    have e2 : pX7_readInto 4 rb (hp ra rb L I) = some (0, hp ra rb L A3) := by
      rw [e1, g1, fX7_readInto_65, p_4_1, g_4_2, ← hA3, f3 _ _ (by decide), g2, if_neg nz]
      rfl
    have all1 : ∀ a k, ¬ (a = 4 ∧ 1 ≤ k) → ¬ (rb ≤ a ∧ a ≤ rb + 5) → A3 a k = I a k := fun a k c1 c2 => by
      rw [f3 a k (by omega)]
      exact g4 a k (by omega) c2
    obtain ⟨B1, m1, M1⟩ := cong_m (ra := ra) (rb := rb) (L := L) (T := T) (tx := tx) (A := A3) v0 kd0 hm0 hm0 (by rw [all1 _ _ (by decide) (by omega)]; exact t3) (fun j hj => by rw [all1 _ _ (by omega) (by omega)]; exact (t4 j hj).2.2)
    obtain ⟨B2, m2, w1, w2⟩ := k2 c_fu _ A3 ra rb (by show T - sk T tx 0 + 1 < 1000; omega) (M1.at (sk T tx 0))
    have m3 : pX10_congress 137 (hp ra rb L A3) = fX10_congress_56 137 (nI n0) (hp ra rb L B2) := by
      rw [m1, ← m2]
      exact cong_sk t1 htx M1.1 (Nat.zero_le _) fX10_congress_56 999
    obtain ⟨B3, hB3⟩ : ∃ B3, B3 = u2 B2 137 11 0 := ⟨_, rfl⟩
    have h3 : ∀ a k, ¬ (a = 137 ∧ k = 11) → B3 a k = B2 a k := fun a k b => by rw [hB3, u2_n _ _ b]
    have all : ∀ a k, ¬ (a = 4 ∧ 1 ≤ k) → ¬ (rb ≤ a ∧ a ≤ rb + 5) → ¬ (a = 137 ∧ 11 ≤ k ∧ k ≤ 24) → ¬ (144 ≤ a ∧ a ≤ 147) → B3 a k = I a k := fun a k c1 c2 c3 c4 => by
      rw [h3 a k (by omega), w2 a k (by omega) c4]
      exact all1 a k c1 c2
    refine ⟨-10 - nI n0, ra, rb, A3, B3, ?_, ?_, ?_, C0, D0, v0, kd0, hm0, pt0, q0, hab, hRo.fr ?_, ⟨0, tx, ?_⟩, hN.fr hD0 ?_, ⟨z, nx, hP.fr hD0 ?_⟩, hI.fr hD0 ?_, ?_, ⟨ch, hS.fr ?_⟩, hX.fr ?_⟩
    · rw [pX9_congress, g_3_0, g_3_8, v_4, m_bind_some e2, if_pos rfl, g_3_0, g_4_2, f3 _ _ (by decide), g2]
      rfl
    · funext k
      rw [all1 _ _ (by omega) (by omega)]
      exact congrFun hX.2.2 k
    · rw [m3, fX10_congress_56, p_137_11, ← hB3, if_neg (nI_nle (by omega) (by omega))]
      rfl
    · intro a k hf
      unfold fRol at hf
      exact all a k (by omega) (by omega) (by omega) (by omega)
    · refine ⟨by decide, ?_, ?_, fun j hj => by omega, ?_⟩
      · rw [h3 _ _ (by decide), w2 _ _ (by decide) (by decide), hA3, u2_s]; rfl
      · rw [hB3, u2_s]; rfl
      · rw [h3 4 3 (by decide), w2 4 3 (by decide) (by decide), f3 _ _ (by decide), g3, h3 _ _ (by decide), w1]
    · intro a k hf
      unfold fScn at hf
      exact all a k (by omega) (by omega) (by omega) (by omega)
    · intro a k hf
      unfold fPst at hf
      exact all a k (by omega) (by omega) (by omega) (by omega)
    · intro a k hf
      unfold fImg at hf
      exact all a k (by omega) (by omega) (by omega) (by omega)
    · obtain ⟨z2, bd, bc, hB⟩ := hB
      refine ⟨z2, bd, bc, hB.fr fun a k hf => ?_⟩
      unfold fBok at hf
      exact all a k (by omega) (by omega) (by omega) (by omega)
    · intro a k hf
      unfold fSed at hf
      exact all a k (by omega) (by omega) (by omega) (by omega)
    · intro a k hf
      unfold fSta at hf
      exact all a k (by omega) (by omega) (by omega) (by omega)
