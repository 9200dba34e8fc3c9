/-! the scene as numbers: the class's (CN) and the model's (MN) hold the same; deeds end in a relation -/
def CN (A : cM) (D : Nat) (t s w e : Nat → Nat) (u y : Nat) (au he : Int32) : Prop :=
  (∀ d, d < D → A (6 + 1) d = nI (t d)) ∧ (∀ d, d < D → A (6 + 2) d = nI (s d)) ∧ (∀ d, d < D → A (6 + 3) d = nI (w d)) ∧ (∀ d, d < D → A (6 + 4) d = nI (e d)) ∧ A 6 4 = nI u ∧ A 6 5 = nI y ∧ A 6 6 = au ∧ A 6 7 = he
def MN (B : cM) (D : Nat) (t s w e : Nat → Nat) (u y : Nat) (au he : Int32) : Prop :=
  (∀ d, d < D → B 142 d = nI (t d)) ∧ (∀ d, d < D → B 142 (17 + d) = nI (s d)) ∧ (∀ d, d < D → B 142 (9 + d) = nI (w d)) ∧ (∀ d, d < D → B 142 (25 + d) = nI (e d)) ∧ B 142 8 = nI u ∧ B 142 33 = nI y ∧ B 142 34 = au ∧ B 142 35 = he
def OKS (C D : Nat) (t s w e : Nat → Nat) (u y : Nat) : Prop :=
  (∀ d, d < D → t d < C ∧ s d < 64 ∧ w d ≤ 99 ∧ e d ≤ 999999) ∧ u < 2 ^ D ∧ y ≤ 9060
theorem scn_of {I : cM} {C D : Nat} {t s w e : Nat → Nat} {u y : Nat} {au he : Int32} (h1 : CN I D t s w e u y au he) (h2 : MN I D t s w e u y au he) (h3 : OKS C D t s w e u y) : Scn I C D 6 142 0 := by
  obtain ⟨a1, a2, a3, a4, a5, a6, a7, a8⟩ := h1
  obtain ⟨b1, b2, b3, b4, b5, b6, b7, b8⟩ := h2
  refine ⟨t, s, w, e, u, y, ?_⟩
  unfold SC
  simp only [Nat.zero_add]
  exact ⟨fun d hd => ⟨(h3.1 d hd).1, a1 d hd, b1 d hd⟩, fun d hd => ⟨(h3.1 d hd).2.1, a2 d hd, b2 d hd⟩, fun d hd => ⟨(h3.1 d hd).2.2.1, a3 d hd, b3 d hd⟩, fun d hd => ⟨(h3.1 d hd).2.2.2, a4 d hd, b4 d hd⟩, h3.2.1, a5, b5, h3.2.2, a6, b6, a7.trans b7.symm, a8.trans b8.symm⟩
theorem scn_to {I : cM} {C D : Nat} (h : Scn I C D 6 142 0) : ∃ (t s w e : Nat → Nat) (u y : Nat) (au he : Int32), CN I D t s w e u y au he ∧ MN I D t s w e u y au he ∧ OKS C D t s w e u y := by
  obtain ⟨t, s, w, e, u, y, h⟩ := h
  obtain ⟨n1, n2, n3, n4, n5, n6, n7, n8, n9, n10, n11, n12⟩ := h.z
  exact ⟨t, s, w, e, u, y, I 6 6, I 6 7, ⟨fun d hd => (n1 d hd).2.1, fun d hd => (n2 d hd).2.1, fun d hd => (n3 d hd).2.1, fun d hd => (n4 d hd).2.1, n6, n9, rfl, rfl⟩, ⟨fun d hd => (n1 d hd).2.2, fun d hd => (n2 d hd).2.2, fun d hd => (n3 d hd).2.2, fun d hd => (n4 d hd).2.2, n7, n10, n11.symm, n12.symm⟩, fun d hd => ⟨(n1 d hd).1, (n2 d hd).1, (n3 d hd).1, (n4 d hd).1⟩, n5, n8⟩
theorem CN.fr {A B : cM} {D : Nat} {t s w e : Nat → Nat} {u y : Nat} {au he : Int32} (h : CN A D t s w e u y au he) (hf : ∀ a k, 6 ≤ a → a ≤ 10 → B a k = A a k) : CN B D t s w e u y au he := by
  obtain ⟨a1, a2, a3, a4, a5, a6, a7, a8⟩ := h
  refine ⟨fun d hd => ?_, fun d hd => ?_, fun d hd => ?_, fun d hd => ?_, ?_, ?_, ?_, ?_⟩
  · rw [hf _ _ (by decide) (by decide)]; exact a1 d hd
  · rw [hf _ _ (by decide) (by decide)]; exact a2 d hd
  · rw [hf _ _ (by decide) (by decide)]; exact a3 d hd
  · rw [hf _ _ (by decide) (by decide)]; exact a4 d hd
  · rw [hf _ _ (by decide) (by decide)]; exact a5
  · rw [hf _ _ (by decide) (by decide)]; exact a6
  · rw [hf _ _ (by decide) (by decide)]; exact a7
  · rw [hf _ _ (by decide) (by decide)]; exact a8
theorem MN.fr {A B : cM} {D : Nat} {t s w e : Nat → Nat} {u y : Nat} {au he : Int32} (h : MN A D t s w e u y au he) (hf : ∀ k, B 142 k = A 142 k) : MN B D t s w e u y au he := by
  have e9 : B 142 = A 142 := funext hf
  unfold MN
  rw [e9]
  exact h
theorem deed_fin {ra rb : Nat} {xs : Nat → Int32} {I A B : cM} {C D : Nat} {v kd hm : Nat → Nat} {pt q z nx : Nat} {t s w e : Nat → Nat} {u y : Nat} {au he : Int32} {ch : Nat} (hab : Ab ra rb) (hRo : Rol I ra C D v kd hm pt q) (hT : ∃ T tx, Txt I T tx) (hN : Scn I C D 6 142 0) (hP : Pst I C D z nx) (hI : Img I C D) (hB : ∃ z bd bc, Bok I C D z bd bc) (hX : Sta I xs)
    (fA : ∀ a k, (a < 6 ∨ 10 < a) → ¬ (a = 3 ∧ k = 9) → A a k = crem I nx z a k) (cA : CN A D t s w e u y au he) (fB : ∀ a k, a ≠ 142 → ¬ (a = 137 ∧ k = 9) → B a k = mrem A z a k) (mB : MN B D t s w e u y au he) (hok : OKS C D t s w e u y) (hch : ch < 2 ^ 31) (s1 : A 3 9 = nI ch) (s2 : B 137 9 = nI ch) : Rel ra rb xs B := by
  have p2 : nx < 16 := hP.2.1
  refine rel_deed hab hRo hT hN hP hI hB hX (fun a k hf => ?_) (fun a k h1 h2 => ?_) ?_ ?_ (scn_of (cA.fr fun a k h1 h2 => ?_) mB hok) ⟨ch, hch, ?_, s2⟩
  · unfold fDeed at hf
    rw [fB _ _ (by omega) (by omega), mrem_o (by omega) (by omega), fA _ _ (by omega) (by omega), crem_o p2 (by omega)]
  · rw [fB _ _ (by omega) (by omega), mrem_o (by omega) (by omega), fA _ _ (by omega) (by omega)]
  · have : B 148 = mrem A z 148 := funext fun k => fB _ _ (by decide) (by omega)
    rw [this]
    unfold mrem
    rw [u2_rown _ _ _ (by decide), u1_s]
    have e1 : A 148 = I 148 := funext fun k => by rw [fA _ _ (by omega) (by omega), crem_o p2 (by omega)]
    have e2 : A 142 = I 142 := funext fun k => by rw [fA _ _ (by omega) (by omega), crem_o p2 (by omega)]
    unfold mpast
    rw [e1, e2]
  · rw [fB _ _ (by decide) (by decide)]
    unfold mrem
    rw [u2_s]
  · rw [fB _ _ (by omega) (by omega), mrem_o (by omega) (by omega)]
  · rw [fB _ _ (by decide) (by decide), mrem_o (by decide) (by decide)]
    exact s1
/-! single steps on the scene -/
def lb (u d : Nat) : Nat := ((nI u) &&& (((1 : Int32) <<< (nI d &&& 31)) ^^^ (-1))).toBitVec.toNat
theorem nI_bv (x : Int32) : nI x.toBitVec.toNat = x := by
  apply Int32.toBitVec_inj.mp
  show BitVec.ofNat 32 _ = _
  rw [BitVec.ofNat_toNat]
  simp
theorem lb_eq (u d : Nat) : nI u &&& (((1 : Int32) <<< (nI d &&& 31)) ^^^ (-1)) = nI (lb u d) := (nI_bv _).symm
theorem lb_le {u d : Nat} (hu : u < 2 ^ 31) : lb u d ≤ u := by
  unfold lb
  show ((nI u).toBitVec &&& _).toNat ≤ u
  rw [BitVec.toNat_and, pk_tn (by omega)]
  exact Nat.and_le_left
theorem upw {D : Nat} (h : D ≤ 8) : 2 ^ D ≤ 256 := Nat.pow_le_pow_right (by decide) h
section OPS
variable {ra rb L D : Nat} {A : cM} {t s w e : Nat → Nat} {u y : Nat} {au he : Int32}
theorem op_layBack (h : CN A D t s w e u y au he) (d : Nat) : pX5_layBack 6 (nI d) (hp ra rb L A) = some ((), hp ra rb L (u2 A 6 4 (nI (lb u d)))) ∧ CN (u2 A 6 4 (nI (lb u d))) D t s w e (lb u d) y au he := by
  obtain ⟨a1, a2, a3, a4, a5, a6, a7, a8⟩ := h
  refine ⟨?_, fun d hd => ?_, fun d hd => ?_, fun d hd => ?_, fun d hd => ?_, ?_, ?_, ?_, ?_⟩
  · rw [pX5_layBack, sg_4 sn_6, a5, lb_eq, sp_4 sn_6]
    rfl
  · rw [u2_na _ _ (by decide)]; exact a1 d hd
  · rw [u2_na _ _ (by decide)]; exact a2 d hd
  · rw [u2_na _ _ (by decide)]; exact a3 d hd
  · rw [u2_na _ _ (by decide)]; exact a4 d hd
  · rw [u2_s]
  · rw [u2_nk _ _ (by decide)]; exact a6
  · rw [u2_nk _ _ (by decide)]; exact a7
  · rw [u2_nk _ _ (by decide)]; exact a8
theorem op_raise (h : CN A D t s w e u y au he) {d : Nat} (hd : d < 31) : pX5_raise 6 (nI d) (hp ra rb L A) = some ((), hp ra rb L (u2 A 6 4 (nI (u ||| 2 ^ d)))) ∧ CN (u2 A 6 4 (nI (u ||| 2 ^ d))) D t s w e (u ||| 2 ^ d) y au he := by
  obtain ⟨a1, a2, a3, a4, a5, a6, a7, a8⟩ := h
  refine ⟨?_, fun d hd => ?_, fun d hd => ?_, fun d hd => ?_, fun d hd => ?_, ?_, ?_, ?_, ?_⟩
  · rw [pX5_raise, sg_4 sn_6, a5, sh1 hd, or_n, sp_4 sn_6]
    rfl
  · rw [u2_na _ _ (by decide)]; exact a1 d hd
  · rw [u2_na _ _ (by decide)]; exact a2 d hd
  · rw [u2_na _ _ (by decide)]; exact a3 d hd
  · rw [u2_na _ _ (by decide)]; exact a4 d hd
  · rw [u2_s]
  · rw [u2_nk _ _ (by decide)]; exact a6
  · rw [u2_nk _ _ (by decide)]; exact a7
  · rw [u2_nk _ _ (by decide)]; exact a8
def up1 (t : Nat → Nat) (d c : Nat) : Nat → Nat := fun j => if j = d then c else t j
theorem op_send (h : CN A D t s w e u y au he) {d c : Nat} (hd : d < D) (hD : D ≤ 8) : ∃ A', pX5_send 6 (nI d) (nI c) (hp ra rb L A) = some ((), hp ra rb L A') ∧ CN A' D (up1 t d c) s w e (lb u d) y au he ∧ ∀ a k, (a < 6 ∨ 10 < a) → A' a k = A a k := by
  obtain ⟨a1, a2, a3, a4, a5, a6, a7, a8⟩ := id h
  have h2 : CN (u2 A (6 + 1) d (nI c)) D (up1 t d c) s w e u y au he := by
    refine ⟨fun j hj => ?_, fun j hj => ?_, fun j hj => ?_, fun j hj => ?_, ?_, ?_, ?_, ?_⟩
    · unfold up1
      by_cases hjd : j = d
      · rw [if_pos hjd, hjd, u2_s]
      · rw [if_neg hjd, u2_nk _ _ hjd]; exact a1 j hj
    · rw [u2_na _ _ (by decide)]; exact a2 j hj
    · rw [u2_na _ _ (by decide)]; exact a3 j hj
    · rw [u2_na _ _ (by decide)]; exact a4 j hj
    · rw [u2_na _ _ (by decide)]; exact a5
    · rw [u2_na _ _ (by decide)]; exact a6
    · rw [u2_na _ _ (by decide)]; exact a7
    · rw [u2_na _ _ (by decide)]; exact a8
  obtain ⟨h3, h4⟩ := op_layBack (ra := ra) (rb := rb) (L := L) h2 d
  refine ⟨_, ?_, h4, fun a k ha => ?_⟩
  · rw [pX5_send, sg_0 sn_6, ss_1 sn_6 (by omega), sv sn_6, m_bind_some h3]
    rfl
  · rw [u2_na _ _ (by omega), u2_na _ _ (by omega)]
theorem mo_lay1 (h : MN A D t s w e u y au he) (hD : D ≤ 8) (d : Nat) : pX10_layNow 137 (nI d) 1 (hp ra rb L A) = some ((), hp ra rb L (u2 A 142 8 (nI (lb u d)))) ∧ MN (u2 A 142 8 (nI (lb u d))) D t s w e (lb u d) y au he := by
  obtain ⟨a1, a2, a3, a4, a5, a6, a7, a8⟩ := h
  have e8 : (8 : Int32) = nI 8 := rfl
  refine ⟨?_, fun d hd => ?_, fun d hd => ?_, fun d hd => ?_, fun d hd => ?_, ?_, ?_, ?_, ?_⟩
  · rw [pX10_layNow, g_137_8, if_neg ne10, g_137_8, e8, l_142 (by decide), a5, fX10_layNow_37, lb_eq, s_142 (by decide)]
    rfl
  · rw [u2_nk _ _ (by omega)]; exact a1 d hd
  · rw [u2_nk _ _ (by omega)]; exact a2 d hd
  · rw [u2_nk _ _ (by omega)]; exact a3 d hd
  · rw [u2_nk _ _ (by omega)]; exact a4 d hd
  · rw [u2_s]
  · rw [u2_nk _ _ (by decide)]; exact a6
  · rw [u2_nk _ _ (by decide)]; exact a7
  · rw [u2_nk _ _ (by decide)]; exact a8
theorem mo_lay0 (h : MN A D t s w e u y au he) (hD : D ≤ 8) {d : Nat} (hd : d < 31) : pX10_layNow 137 (nI d) 0 (hp ra rb L A) = some ((), hp ra rb L (u2 A 142 8 (nI (u ||| 2 ^ d)))) ∧ MN (u2 A 142 8 (nI (u ||| 2 ^ d))) D t s w e (u ||| 2 ^ d) y au he := by
  obtain ⟨a1, a2, a3, a4, a5, a6, a7, a8⟩ := h
  have e8 : (8 : Int32) = nI 8 := rfl
  refine ⟨?_, fun d hd => ?_, fun d hd => ?_, fun d hd => ?_, fun d hd => ?_, ?_, ?_, ?_, ?_⟩
  · rw [pX10_layNow, g_137_8, if_pos rfl, g_137_8, e8, l_142 (by decide), a5, fX10_layNow_37, sh1 hd, or_n, s_142 (by decide)]
    rfl
  · rw [u2_nk _ _ (by omega)]; exact a1 d hd
  · rw [u2_nk _ _ (by omega)]; exact a2 d hd
  · rw [u2_nk _ _ (by omega)]; exact a3 d hd
  · rw [u2_nk _ _ (by omega)]; exact a4 d hd
  · rw [u2_s]
  · rw [u2_nk _ _ (by decide)]; exact a6
  · rw [u2_nk _ _ (by decide)]; exact a7
  · rw [u2_nk _ _ (by decide)]; exact a8
theorem mo_send (h : MN A D t s w e u y au he) {d c : Nat} (hd : d < D) (hD : D ≤ 8) : ∃ A', pX10_sendNow 137 (nI d) (nI c) (hp ra rb L A) = some ((), hp ra rb L A') ∧ MN A' D (up1 t d c) s w e (lb u d) y au he ∧ ∀ a k, a ≠ 142 → A' a k = A a k := by
  obtain ⟨a1, a2, a3, a4, a5, a6, a7, a8⟩ := id h
  have h2 : MN (u2 A 142 d (nI c)) D (up1 t d c) s w e u y au he := by
    refine ⟨fun j hj => ?_, fun j hj => ?_, fun j hj => ?_, fun j hj => ?_, ?_, ?_, ?_, ?_⟩
    · unfold up1
      by_cases hjd : j = d
      · rw [if_pos hjd, hjd, u2_s]
      · rw [if_neg hjd, u2_nk _ _ hjd]; exact a1 j hj
    · rw [u2_nk _ _ (by omega)]; exact a2 j hj
    · rw [u2_nk _ _ (by omega)]; exact a3 j hj
    · rw [u2_nk _ _ (by omega)]; exact a4 j hj
    · rw [u2_nk _ _ (by omega)]; exact a5
    · rw [u2_nk _ _ (by omega)]; exact a6
    · rw [u2_nk _ _ (by omega)]; exact a7
    · rw [u2_nk _ _ (by omega)]; exact a8
  obtain ⟨h3, h4⟩ := mo_lay1 (ra := ra) (rb := rb) (L := L) h2 hD d
  refine ⟨_, ?_, h4, fun a k ha => ?_⟩
  · rw [pX10_sendNow, g_137_8, s_142 (by omega), v_137, m_bind_some h3]
    rfl
  · rw [u2_na _ _ (by omega), u2_na _ _ (by omega)]
theorem op_exchange (h : CN A D t s w e u y au he) {d c : Nat} (hd : d < D) (hc : c < D) (hdc : d ≠ c) (hD : D ≤ 8) : ∃ A', pX5_exchange 6 (nI d) (nI c) (hp ra rb L A) = some ((), hp ra rb L A') ∧ CN A' D (up1 (up1 t d (t c)) c (t d)) s w e (lb (lb u d) c) y au he ∧ ∀ a k, (a < 6 ∨ 10 < a) → A' a k = A a k := by
  obtain ⟨a1, -⟩ := id h
  obtain ⟨A1, h1, h2, h3⟩ := op_send (ra := ra) (rb := rb) (L := L) h (c := t c) hd hD
  obtain ⟨A2, h4, h5, h6⟩ := op_send (ra := ra) (rb := rb) (L := L) h2 (c := t d) hc hD
  refine ⟨A2, ?_, h5, fun a k ha => (h6 a k ha).trans (h3 a k ha)⟩
  rw [pX5_exchange, sg_0 sn_6, sl_1 sn_6 (by omega), a1 d hd, sg_0 sn_6, sl_1 sn_6 (by omega), a1 c hc, sv sn_6, m_bind_some h1, sv sn_6, m_bind_some h4]
  rfl
theorem mo_mix (h : MN A D t s w e u y au he) {d c : Nat} (hd : d < D) (hc : c < D) (hdc : d ≠ c) (hD : D ≤ 8) : ∃ A', pX10_mixNow 137 (nI d) (nI c) (hp ra rb L A) = some ((), hp ra rb L A') ∧ MN A' D (up1 (up1 t d (t c)) c (t d)) s w e (lb (lb u d) c) y au he ∧ ∀ a k, a ≠ 142 → A' a k = A a k := by
  obtain ⟨a1, -⟩ := id h
  obtain ⟨A1, h1, h2, h3⟩ := mo_send (ra := ra) (rb := rb) (L := L) h (c := t c) hd hD
  obtain ⟨A2, h4, h5, h6⟩ := mo_send (ra := ra) (rb := rb) (L := L) h2 (c := t d) hc hD
  refine ⟨A2, ?_, h5, fun a k ha => (h6 a k ha).trans (h3 a k ha)⟩
  rw [pX10_mixNow, g_137_8, l_142 (by omega), a1 d hd, g_137_8, l_142 (by omega), a1 c hc, v_137, m_bind_some h1, v_137, m_bind_some h4]
  rfl
end OPS
theorem ok_send {C D : Nat} {t s w e : Nat → Nat} {u y d c : Nat} (h : OKS C D t s w e u y) (hD : D ≤ 8) (hc : c < C) : OKS C D (up1 t d c) s w e (lb u d) y := by
  have := upw hD
  have h2 := h.2.1
  refine ⟨fun j hj => ?_, Nat.lt_of_le_of_lt (lb_le (by omega)) h2, h.2.2⟩
  obtain ⟨b1, b2⟩ := h.1 j hj
  refine ⟨?_, b2⟩
  unfold up1
  by_cases hjd : j = d
  · rw [if_pos hjd]; exact hc
  · rw [if_neg hjd]; exact b1
