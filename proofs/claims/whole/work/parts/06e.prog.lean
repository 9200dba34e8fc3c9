/-! DollCongress$Signs.telling(LDollCongress$Roll;LDollCongress$Scene;)I -/
def fX6_telling_33 (k5 : Nat → Nat → Int32 → Int32 → MM Int32) (aL0 : Nat) (aL1 : Nat) (xL2 : Int32) (xL3 : Int32) : MM Int32 := m_let (xL3 + 1) (fun x1 => k5 aL0 aL1 xL2 x1)
def fX6_telling_5  : Nat → Nat → Nat → Int32 → Int32 → MM Int32
  | 0, _, _, _, _ => m_bad
  | n + 1, aL0, aL1, xL2, xL3 => if (63 : Int32) ≤ xL3 then (m_ret xL2) else (m_bind (pJ6_bitCount_0f7a4 xL3) (fun x1 => m_bind (pJ6_bitCount_0f7a4 xL2) (fun x2 => if x2 ≤ x1 then (fX6_telling_33 (fX6_telling_5 n) aL0 aL1 xL2 xL3) else (m_bind (pX6_tells aL0 aL1 xL3) (fun x3 => if x3 = 0 then (fX6_telling_33 (fX6_telling_5 n) aL0 aL1 xL2 xL3) else (fX6_telling_33 (fX6_telling_5 n) aL0 aL1 xL3 xL3))))))
def pX6_telling (a0_ : Nat) (a1_ : Nat) : MM Int32 := fX6_telling_5 c_fu a0_ a1_ 63 0
set_option maxRecDepth 100000 in
set_option maxHeartbeats 4000000 in
theorem tX6_telling_33 {p : Program} {l : Launch} {e : Env} {s : State} {m : MethodId} {args : Array Value} {below : List Frame} {meth : Method} {c : Code} {G : cG} (hO : c_Ok p s m c cX6_telling 4 RX6 G) (hr : meth.sig.returnType = (some .int)) (hk : meth.locks = false) (k5 : Nat → Nat → Int32 → Int32 → MM Int32) (hk5 : ∀ (aL0 : Nat) (aL1 : Nat) (xL2 : Int32) (xL3 : Int32), Sm p l e { frames := 1, cells := 0, slots := 0, locals := 25 } s m args below meth c G 4 (c_Q G c_vi below args s 0 0) 0 0 5 [(0, .ref aL0), (1, .ref aL1), (2, .int xL2), (3, .int xL3)] [] (k5 aL0 aL1 xL2 xL3))  : ∀ (aL0 : Nat) (aL1 : Nat) (xL2 : Int32) (xL3 : Int32), Sm p l e { frames := 1, cells := 0, slots := 0, locals := 25 } s m args below meth c G 4 (c_Q G c_vi below args s 0 0) 0 0 33 [(0, .ref aL0), (1, .ref aL1), (2, .int xL2), (3, .int xL3)] [] (fX6_telling_33 k5 aL0 aL1 xL2 xL3) := by
  intro aL0 aL1 xL2 xL3
  rw [fX6_telling_33]
  refine sm_iincL (v := xL3 + 1) hO 3 (fun x1 => [(3, .int x1), (0, .ref aL0), (1, .ref aL1), (2, .int xL2)]) dX6_telling_33 rfl rfl (by decide) (fun _ => rfl) (fun x1 => ?_)
  refine sm_goto (tgt := 5) hO dX6_telling_36 (by decide) ?_
  exact sm_sub [1, 2, 3, 0] rfl (hk5 aL0 aL1 xL2 x1)
set_option maxRecDepth 100000 in
set_option maxHeartbeats 4000000 in
theorem tX6_telling_5 {p : Program} {l : Launch} {e : Env} {s : State} {m : MethodId} {args : Array Value} {below : List Frame} {meth : Method} {c : Code} {G : cG} (hO : c_Ok p s m c cX6_telling 4 RX6 G) (hr : meth.sig.returnType = (some .int)) (hk : meth.locks = false) : ∀ (n : Nat) (aL0 : Nat) (aL1 : Nat) (xL2 : Int32) (xL3 : Int32), Sm p l e { frames := 1, cells := 0, slots := 0, locals := 25 } s m args below meth c G 4 (c_Q G c_vi below args s 0 0) 0 0 5 [(0, .ref aL0), (1, .ref aL1), (2, .int xL2), (3, .int xL3)] [] (fX6_telling_5 n aL0 aL1 xL2 xL3) := by
  intro n
  induction n with
  | zero =>
    intro aL0 aL1 xL2 xL3
    exact sm_bad
  | succ n ih =>
    intro aL0 aL1 xL2 xL3
    rw [fX6_telling_5]
    refine sm_iload_n hO 3 dX6_telling_5 rfl rfl ?_
    refine sm_bipush (v := 63) hO dX6_telling_6 rfl ?_
    refine sm_icmp_ge (tgt := 39) hO dX6_telling_8 (by decide) ?_ ?_
    · refine sm_iload_n hO 2 dX6_telling_39 rfl rfl ?_
      exact sm_iret hO hr hk (Nat.le_of_ble_eq_true rfl) (Nat.le_of_ble_eq_true rfl) dX6_telling_40
    · refine sm_iload_n hO 3 dX6_telling_11 rfl rfl ?_
      refine sm_csi hO (ctJ6_bitCount_0f7a4 l G xL3) cw_RX6_24 kw_472 [] rfl rfl ⟨(Nat.le_of_ble_eq_true rfl), (Nat.le_of_ble_eq_true rfl)⟩ ⟨(Nat.le_of_ble_eq_true rfl), (Nat.le_of_ble_eq_true rfl)⟩ (Nat.le_of_ble_eq_true rfl) dX6_telling_12 (fun x1 => ?_)
      refine sm_iload_n hO 2 dX6_telling_15 rfl rfl ?_
      refine sm_csi hO (ctJ6_bitCount_0f7a4 l G xL2) cw_RX6_24 kw_472 [.int x1] rfl rfl ⟨(Nat.le_of_ble_eq_true rfl), (Nat.le_of_ble_eq_true rfl)⟩ ⟨(Nat.le_of_ble_eq_true rfl), (Nat.le_of_ble_eq_true rfl)⟩ (Nat.le_of_ble_eq_true rfl) dX6_telling_16 (fun x2 => ?_)
      refine sm_icmp_ge (tgt := 33) hO dX6_telling_19 (by decide) ?_ ?_
      · exact sm_sub [0, 1, 2, 3] rfl (tX6_telling_33 hO hr hk (fX6_telling_5 n) ih aL0 aL1 xL2 xL3)
      · refine sm_aload_n hO 0 dX6_telling_22 rfl rfl ?_
        refine sm_aload_n hO 1 dX6_telling_23 rfl rfl ?_
        refine sm_iload_n hO 3 dX6_telling_24 rfl rfl ?_
        refine sm_csi hO (ctX6_tells l G aL0 aL1 xL3) cw_RX6_36 kw_489 [] rfl rfl ⟨(Nat.le_of_ble_eq_true rfl), (Nat.le_of_ble_eq_true rfl)⟩ ⟨(Nat.le_of_ble_eq_true rfl), (Nat.le_of_ble_eq_true rfl)⟩ (Nat.le_of_ble_eq_true rfl) dX6_telling_25 (fun x3 => ?_)
        refine sm_if_eq (tgt := 33) hO dX6_telling_28 (by decide) ?_ ?_
        · exact sm_sub [0, 1, 2, 3] rfl (tX6_telling_33 hO hr hk (fX6_telling_5 n) ih aL0 aL1 xL2 xL3)
        · refine sm_iload_n hO 3 dX6_telling_31 rfl rfl ?_
          refine sm_istore_n hO [(2, .int xL3), (0, .ref aL0), (1, .ref aL1), (3, .int xL3)] dX6_telling_32 rfl (by decide) rfl ?_
          exact sm_sub [1, 2, 0, 3] rfl (tX6_telling_33 hO hr hk (fX6_telling_5 n) ih aL0 aL1 xL3 xL3)
set_option maxRecDepth 100000 in
set_option maxHeartbeats 4000000 in
theorem ctX6_telling (l : Launch) (G : cG) (a0_ : Nat) (a1_ : Nat) : Ct l G yX6_telling cX6_telling 4 (some .int) 1 25 0 0 [.ref a0_, .ref a1_] c_vi (pX6_telling a0_ a1_) := by
  refine Ct.of (lv := [(0, .ref a0_), (1, .ref a1_)]) (by decide) (Nat.le_of_ble_eq_true rfl) rfl (fun p e s m args below meth c hO hr hk hin => ?_)
  rw [pX6_telling]
  refine sm_bipush (v := 63) hO dX6_telling_0 rfl ?_
  refine sm_istore_n hO [(2, .int 63), (0, .ref a0_), (1, .ref a1_)] dX6_telling_2 rfl (by decide) rfl ?_
  refine sm_iconst (v := 0) hO dX6_telling_3 rfl ?_
  refine sm_istore_n hO [(3, .int 0), (2, .int 63), (0, .ref a0_), (1, .ref a1_)] dX6_telling_4 rfl (by decide) rfl ?_
  exact sm_sub [2, 3, 1, 0] rfl (tX6_telling_5 hO hr hk c_fu a0_ a1_ 63 0)
/-! DollCongress.hasCongress()Z -/
def pX9_hasCongress (a0_ : Nat) : MM Int32 := m_gr a0_ 8 7 (fun a1 => m_gi a1 4 5 (fun x2 => if x2 ≤ 0 then (m_ret 0) else (m_ret 1)))
set_option maxRecDepth 100000 in
set_option maxHeartbeats 4000000 in
theorem ctX9_hasCongress (l : Launch) (G : cG) (a0_ : Nat) : Ct l G yX9_hasCongress cX9_hasCongress 1 (some .boolean) 0 0 0 0 [.ref a0_] c_vi (pX9_hasCongress a0_) := by
  refine Ct.of (lv := [(0, .ref a0_)]) (by decide) (Nat.le_of_ble_eq_true rfl) rfl (fun p e s m args below meth c hO hr hk hin => ?_)
  rw [pX9_hasCongress]
  refine sm_aload_n hO 0 dX9_hasCongress_0 rfl rfl ?_
  refine sm_gr hO fl_RX9_60 dX9_hasCongress_1 (fun a1 => ?_)
  refine sm_gi hO fl_RX9_103 dX9_hasCongress_4 (fun x2 => ?_)
  refine sm_if_le (tgt := 14) hO dX9_hasCongress_7 (by decide) ?_ ?_
  · refine sm_iconst (v := 0) hO dX9_hasCongress_14 rfl ?_
    exact sm_zret hO hr hk rfl (Nat.le_of_ble_eq_true rfl) (Nat.le_of_ble_eq_true rfl) dX9_hasCongress_15
  · refine sm_iconst (v := 1) hO dX9_hasCongress_10 rfl ?_
    refine sm_goto (tgt := 15) hO dX9_hasCongress_11 (by decide) ?_
    exact sm_zret hO hr hk rfl (Nat.le_of_ble_eq_true rfl) (Nat.le_of_ble_eq_true rfl) dX9_hasCongress_15
/-! DollCongress$Roll.fewestBlocking()I -/
def fX4_fewestBlocking_42 (k9 : Nat → Int32 → Int32 → Int32 → MM Int32) (aL0 : Nat) (xL1 : Int32) (xL2 : Int32) (xL3 : Int32) : MM Int32 := m_let (xL3 + 1) (fun x1 => k9 aL0 xL1 xL2 x1)
def fX4_fewestBlocking_9  : Nat → Nat → Int32 → Int32 → Int32 → MM Int32
  | 0, _, _, _, _ => m_bad
  | n + 1, aL0, xL1, xL2, xL3 => if xL1 < xL3 then (m_ret xL2) else (m_gr aL0 4 4 (fun a1 => m_li 0 a1 (xL1 ^^^ xL3) (fun x2 => m_gi aL0 4 8 (fun x3 => if x3 ≤ x2 then (fX4_fewestBlocking_42 (fX4_fewestBlocking_9 n) aL0 xL1 xL2 xL3) else (m_bind (pJ6_bitCount_0f7a4 xL3) (fun x4 => m_bind (pJ6_bitCount_0f7a4 xL2) (fun x5 => if x5 ≤ x4 then (fX4_fewestBlocking_42 (fX4_fewestBlocking_9 n) aL0 xL1 xL2 xL3) else (fX4_fewestBlocking_42 (fX4_fewestBlocking_9 n) aL0 xL1 xL3 xL3))))))))
def pX4_fewestBlocking (a0_ : Nat) : MM Int32 := m_cv a0_ 4 (pX4_allCourts a0_) (fun x1 => fX4_fewestBlocking_9 c_fu a0_ x1 x1 0)
set_option maxRecDepth 100000 in
set_option maxHeartbeats 4000000 in
theorem tX4_fewestBlocking_42 {p : Program} {l : Launch} {e : Env} {s : State} {m : MethodId} {args : Array Value} {below : List Frame} {meth : Method} {c : Code} {G : cG} (hO : c_Ok p s m c cX4_fewestBlocking 4 RX4 G) (hr : meth.sig.returnType = (some .int)) (hk : meth.locks = false) (k9 : Nat → Int32 → Int32 → Int32 → MM Int32) (hk9 : ∀ (aL0 : Nat) (xL1 : Int32) (xL2 : Int32) (xL3 : Int32), Sm p l e { frames := 1, cells := 0, slots := 0, locals := 20 } s m args below meth c G 4 (c_Q G c_vi below args s 0 0) 0 0 9 [(0, .ref aL0), (1, .int xL1), (2, .int xL2), (3, .int xL3)] [] (k9 aL0 xL1 xL2 xL3))  : ∀ (aL0 : Nat) (xL1 : Int32) (xL2 : Int32) (xL3 : Int32), Sm p l e { frames := 1, cells := 0, slots := 0, locals := 20 } s m args below meth c G 4 (c_Q G c_vi below args s 0 0) 0 0 42 [(0, .ref aL0), (1, .int xL1), (2, .int xL2), (3, .int xL3)] [] (fX4_fewestBlocking_42 k9 aL0 xL1 xL2 xL3) := by
  intro aL0 xL1 xL2 xL3
  rw [fX4_fewestBlocking_42]
  refine sm_iincL (v := xL3 + 1) hO 3 (fun x1 => [(3, .int x1), (0, .ref aL0), (1, .int xL1), (2, .int xL2)]) dX4_fewestBlocking_42 rfl rfl (by decide) (fun _ => rfl) (fun x1 => ?_)
  refine sm_goto (tgt := 9) hO dX4_fewestBlocking_45 (by decide) ?_
  exact sm_sub [1, 2, 3, 0] rfl (hk9 aL0 xL1 xL2 x1)
set_option maxRecDepth 100000 in
set_option maxHeartbeats 4000000 in
theorem tX4_fewestBlocking_9 {p : Program} {l : Launch} {e : Env} {s : State} {m : MethodId} {args : Array Value} {below : List Frame} {meth : Method} {c : Code} {G : cG} (hO : c_Ok p s m c cX4_fewestBlocking 4 RX4 G) (hr : meth.sig.returnType = (some .int)) (hk : meth.locks = false) : ∀ (n : Nat) (aL0 : Nat) (xL1 : Int32) (xL2 : Int32) (xL3 : Int32), Sm p l e { frames := 1, cells := 0, slots := 0, locals := 20 } s m args below meth c G 4 (c_Q G c_vi below args s 0 0) 0 0 9 [(0, .ref aL0), (1, .int xL1), (2, .int xL2), (3, .int xL3)] [] (fX4_fewestBlocking_9 n aL0 xL1 xL2 xL3) := by
  intro n
  induction n with
  | zero =>
    intro aL0 xL1 xL2 xL3
    exact sm_bad
  | succ n ih =>
    intro aL0 xL1 xL2 xL3
    rw [fX4_fewestBlocking_9]
    refine sm_iload_n hO 3 dX4_fewestBlocking_9 rfl rfl ?_
    refine sm_iload_n hO 1 dX4_fewestBlocking_10 rfl rfl ?_
    refine sm_icmp_gt (tgt := 48) hO dX4_fewestBlocking_11 (by decide) ?_ ?_
    · refine sm_iload_n hO 2 dX4_fewestBlocking_48 rfl rfl ?_
      exact sm_iret hO hr hk (Nat.le_of_ble_eq_true rfl) (Nat.le_of_ble_eq_true rfl) dX4_fewestBlocking_49
    · refine sm_aload_n hO 0 dX4_fewestBlocking_14 rfl rfl ?_
      refine sm_gr hO fl_RX4_24 dX4_fewestBlocking_15 (fun a1 => ?_)
      refine sm_iload_n hO 1 dX4_fewestBlocking_18 rfl rfl ?_
      refine sm_iload_n hO 3 dX4_fewestBlocking_19 rfl rfl ?_
      refine sm_ixor hO dX4_fewestBlocking_20 ?_
      refine sm_li hO dX4_fewestBlocking_21 (fun x2 => ?_)
      refine sm_aload_n hO 0 dX4_fewestBlocking_22 rfl rfl ?_
      refine sm_gi hO fl_RX4_37 dX4_fewestBlocking_23 (fun x3 => ?_)
      refine sm_icmp_ge (tgt := 42) hO dX4_fewestBlocking_26 (by decide) ?_ ?_
      · exact sm_sub [0, 1, 2, 3] rfl (tX4_fewestBlocking_42 hO hr hk (fX4_fewestBlocking_9 n) ih aL0 xL1 xL2 xL3)
      · refine sm_iload_n hO 3 dX4_fewestBlocking_29 rfl rfl ?_
        refine sm_csi hO (ctJ6_bitCount_0f7a4 l G xL3) cw_RX4_51 kw_472 [] rfl rfl ⟨(Nat.le_of_ble_eq_true rfl), (Nat.le_of_ble_eq_true rfl)⟩ ⟨(Nat.le_of_ble_eq_true rfl), (Nat.le_of_ble_eq_true rfl)⟩ (Nat.le_of_ble_eq_true rfl) dX4_fewestBlocking_30 (fun x4 => ?_)
        refine sm_iload_n hO 2 dX4_fewestBlocking_33 rfl rfl ?_
        refine sm_csi hO (ctJ6_bitCount_0f7a4 l G xL2) cw_RX4_51 kw_472 [.int x4] rfl rfl ⟨(Nat.le_of_ble_eq_true rfl), (Nat.le_of_ble_eq_true rfl)⟩ ⟨(Nat.le_of_ble_eq_true rfl), (Nat.le_of_ble_eq_true rfl)⟩ (Nat.le_of_ble_eq_true rfl) dX4_fewestBlocking_34 (fun x5 => ?_)
        refine sm_icmp_ge (tgt := 42) hO dX4_fewestBlocking_37 (by decide) ?_ ?_
        · exact sm_sub [0, 1, 2, 3] rfl (tX4_fewestBlocking_42 hO hr hk (fX4_fewestBlocking_9 n) ih aL0 xL1 xL2 xL3)
        · refine sm_iload_n hO 3 dX4_fewestBlocking_40 rfl rfl ?_
          refine sm_istore_n hO [(2, .int xL3), (0, .ref aL0), (1, .int xL1), (3, .int xL3)] dX4_fewestBlocking_41 rfl (by decide) rfl ?_
          exact sm_sub [1, 2, 0, 3] rfl (tX4_fewestBlocking_42 hO hr hk (fX4_fewestBlocking_9 n) ih aL0 xL1 xL3 xL3)
set_option maxRecDepth 100000 in
set_option maxHeartbeats 4000000 in
theorem ctX4_fewestBlocking (l : Launch) (G : cG) (a0_ : Nat) : Ct l G yX4_fewestBlocking cX4_fewestBlocking 4 (some .int) 1 20 0 0 [.ref a0_] c_vi (pX4_fewestBlocking a0_) := by
  refine Ct.of (lv := [(0, .ref a0_)]) (by decide) (Nat.le_of_ble_eq_true rfl) rfl (fun p e s m args below meth c hO hr hk hin => ?_)
  rw [pX4_fewestBlocking]
  refine sm_aload_n hO 0 dX4_fewestBlocking_0 rfl rfl ?_
  refine sm_cvi hO (ctX4_allCourts l G a0_) cw_RX4_47 cv_X4_allCourts [] rfl rfl ⟨(Nat.le_of_ble_eq_true rfl), (Nat.le_of_ble_eq_true rfl)⟩ ⟨(Nat.le_of_ble_eq_true rfl), (Nat.le_of_ble_eq_true rfl)⟩ (Nat.le_of_ble_eq_true rfl) dX4_fewestBlocking_1 (fun x1 => ?_)
  refine sm_istore_n hO [(1, .int x1), (0, .ref a0_)] dX4_fewestBlocking_4 rfl (by decide) rfl ?_
  refine sm_iload_n hO 0 dX4_fewestBlocking_5 rfl rfl ?_
  refine sm_istore_n hO [(2, .int x1), (1, .int x1), (0, .ref a0_)] dX4_fewestBlocking_6 rfl (by decide) rfl ?_
  refine sm_iconst (v := 0) hO dX4_fewestBlocking_7 rfl ?_
  refine sm_istore_n hO [(3, .int 0), (2, .int x1), (1, .int x1), (0, .ref a0_)] dX4_fewestBlocking_8 rfl (by decide) rfl ?_
  exact sm_sub [3, 2, 1, 0] rfl (tX4_fewestBlocking_9 hO hr hk c_fu a0_ x1 x1 0)
/-! DollCongress$Roll.fewestAgreeing()I -/
def fX4_fewestAgreeing_41 (k43 : Nat → Int32 → Int32 → MM Int32) (aL0 : Nat) (xL2 : Int32) : MM Int32 := k43 aL0 xL2 xL2
def fX4_fewestAgreeing_43 (k4 : Nat → Int32 → Int32 → MM Int32) (aL0 : Nat) (xL1 : Int32) (xL2 : Int32) : MM Int32 := m_let (xL2 + 1) (fun x1 => k4 aL0 xL1 x1)
def fX4_fewestAgreeing_4  : Nat → Nat → Int32 → Int32 → MM Int32
  | 0, _, _, _ => m_bad
  | n + 1, aL0, xL1, xL2 => m_cv aL0 4 (pX4_allCourts aL0) (fun x1 => if x1 < xL2 then (m_ret xL1) else (m_gr aL0 4 4 (fun a2 => m_li 0 a2 xL2 (fun x3 => m_gi aL0 4 8 (fun x4 => if x3 < x4 then (fX4_fewestAgreeing_43 (fX4_fewestAgreeing_4 n) aL0 xL1 xL2) else (if xL1 = ((-1) : Int32) then (fX4_fewestAgreeing_41 (fX4_fewestAgreeing_43 (fX4_fewestAgreeing_4 n)) aL0 xL2) else (m_bind (pJ6_bitCount_0f7a4 xL2) (fun x5 => m_bind (pJ6_bitCount_0f7a4 xL1) (fun x6 => if x6 ≤ x5 then (fX4_fewestAgreeing_43 (fX4_fewestAgreeing_4 n) aL0 xL1 xL2) else (fX4_fewestAgreeing_41 (fX4_fewestAgreeing_43 (fX4_fewestAgreeing_4 n)) aL0 xL2))))))))))
def pX4_fewestAgreeing (a0_ : Nat) : MM Int32 := fX4_fewestAgreeing_4 c_fu a0_ ((-1)) 0
set_option maxRecDepth 100000 in
set_option maxHeartbeats 4000000 in
theorem tX4_fewestAgreeing_41 {p : Program} {l : Launch} {e : Env} {s : State} {m : MethodId} {args : Array Value} {below : List Frame} {meth : Method} {c : Code} {G : cG} (hO : c_Ok p s m c cX4_fewestAgreeing 3 RX4 G) (hr : meth.sig.returnType = (some .int)) (hk : meth.locks = false) (k43 : Nat → Int32 → Int32 → MM Int32) (hk43 : ∀ (aL0 : Nat) (xL1 : Int32) (xL2 : Int32), Sm p l e { frames := 1, cells := 0, slots := 0, locals := 20 } s m args below meth c G 3 (c_Q G c_vi below args s 0 0) 0 0 43 [(0, .ref aL0), (1, .int xL1), (2, .int xL2)] [] (k43 aL0 xL1 xL2))  : ∀ (aL0 : Nat) (xL2 : Int32), Sm p l e { frames := 1, cells := 0, slots := 0, locals := 20 } s m args below meth c G 3 (c_Q G c_vi below args s 0 0) 0 0 41 [(0, .ref aL0), (2, .int xL2)] [] (fX4_fewestAgreeing_41 k43 aL0 xL2) := by
  intro aL0 xL2
  rw [fX4_fewestAgreeing_41]
  refine sm_iload_n hO 1 dX4_fewestAgreeing_41 rfl rfl ?_
  refine sm_istore_n hO [(1, .int xL2), (0, .ref aL0), (2, .int xL2)] dX4_fewestAgreeing_42 rfl (by decide) rfl ?_
  exact sm_sub [1, 0, 2] rfl (hk43 aL0 xL2 xL2)
set_option maxRecDepth 100000 in
set_option maxHeartbeats 4000000 in
theorem tX4_fewestAgreeing_43 {p : Program} {l : Launch} {e : Env} {s : State} {m : MethodId} {args : Array Value} {below : List Frame} {meth : Method} {c : Code} {G : cG} (hO : c_Ok p s m c cX4_fewestAgreeing 3 RX4 G) (hr : meth.sig.returnType = (some .int)) (hk : meth.locks = false) (k4 : Nat → Int32 → Int32 → MM Int32) (hk4 : ∀ (aL0 : Nat) (xL1 : Int32) (xL2 : Int32), Sm p l e { frames := 1, cells := 0, slots := 0, locals := 20 } s m args below meth c G 3 (c_Q G c_vi below args s 0 0) 0 0 4 [(0, .ref aL0), (1, .int xL1), (2, .int xL2)] [] (k4 aL0 xL1 xL2))  : ∀ (aL0 : Nat) (xL1 : Int32) (xL2 : Int32), Sm p l e { frames := 1, cells := 0, slots := 0, locals := 20 } s m args below meth c G 3 (c_Q G c_vi below args s 0 0) 0 0 43 [(0, .ref aL0), (1, .int xL1), (2, .int xL2)] [] (fX4_fewestAgreeing_43 k4 aL0 xL1 xL2) := by
  intro aL0 xL1 xL2
  rw [fX4_fewestAgreeing_43]
  refine sm_iincL (v := xL2 + 1) hO 2 (fun x1 => [(2, .int x1), (0, .ref aL0), (1, .int xL1)]) dX4_fewestAgreeing_43 rfl rfl (by decide) (fun _ => rfl) (fun x1 => ?_)
  refine sm_goto (tgt := 4) hO dX4_fewestAgreeing_46 (by decide) ?_
  exact sm_sub [1, 2, 0] rfl (hk4 aL0 xL1 x1)
set_option maxRecDepth 100000 in
set_option maxHeartbeats 4000000 in
theorem tX4_fewestAgreeing_4 {p : Program} {l : Launch} {e : Env} {s : State} {m : MethodId} {args : Array Value} {below : List Frame} {meth : Method} {c : Code} {G : cG} (hO : c_Ok p s m c cX4_fewestAgreeing 3 RX4 G) (hr : meth.sig.returnType = (some .int)) (hk : meth.locks = false) : ∀ (n : Nat) (aL0 : Nat) (xL1 : Int32) (xL2 : Int32), Sm p l e { frames := 1, cells := 0, slots := 0, locals := 20 } s m args below meth c G 3 (c_Q G c_vi below args s 0 0) 0 0 4 [(0, .ref aL0), (1, .int xL1), (2, .int xL2)] [] (fX4_fewestAgreeing_4 n aL0 xL1 xL2) := by
  intro n
  induction n with
  | zero =>
    intro aL0 xL1 xL2
    exact sm_bad
  | succ n ih =>
    intro aL0 xL1 xL2
    rw [fX4_fewestAgreeing_4]
    refine sm_iload_n hO 2 dX4_fewestAgreeing_4 rfl rfl ?_
    refine sm_aload_n hO 0 dX4_fewestAgreeing_5 rfl rfl ?_
    refine sm_cvi hO (ctX4_allCourts l G aL0) cw_RX4_47 cv_X4_allCourts [.int xL2] rfl rfl ⟨(Nat.le_of_ble_eq_true rfl), (Nat.le_of_ble_eq_true rfl)⟩ ⟨(Nat.le_of_ble_eq_true rfl), (Nat.le_of_ble_eq_true rfl)⟩ (Nat.le_of_ble_eq_true rfl) dX4_fewestAgreeing_6 (fun x1 => ?_)
    refine sm_icmp_gt (tgt := 49) hO dX4_fewestAgreeing_9 (by decide) ?_ ?_
    · refine sm_iload_n hO 1 dX4_fewestAgreeing_49 rfl rfl ?_
      exact sm_iret hO hr hk (Nat.le_of_ble_eq_true rfl) (Nat.le_of_ble_eq_true rfl) dX4_fewestAgreeing_50
    · refine sm_aload_n hO 0 dX4_fewestAgreeing_12 rfl rfl ?_
      refine sm_gr hO fl_RX4_24 dX4_fewestAgreeing_13 (fun a2 => ?_)
      refine sm_iload_n hO 2 dX4_fewestAgreeing_16 rfl rfl ?_
      refine sm_li hO dX4_fewestAgreeing_17 (fun x3 => ?_)
      refine sm_aload_n hO 0 dX4_fewestAgreeing_18 rfl rfl ?_
      refine sm_gi hO fl_RX4_37 dX4_fewestAgreeing_19 (fun x4 => ?_)
      refine sm_icmp_lt (tgt := 43) hO dX4_fewestAgreeing_22 (by decide) ?_ ?_
      · exact sm_sub [0, 1, 2] rfl (tX4_fewestAgreeing_43 hO hr hk (fX4_fewestAgreeing_4 n) ih aL0 xL1 xL2)
      · refine sm_iload_n hO 1 dX4_fewestAgreeing_25 rfl rfl ?_
        refine sm_iconst (v := (-1)) hO dX4_fewestAgreeing_26 rfl ?_
        refine sm_icmp_eq (tgt := 41) hO dX4_fewestAgreeing_27 (by decide) ?_ ?_
        · exact sm_sub [0, 2] rfl (tX4_fewestAgreeing_41 hO hr hk (fX4_fewestAgreeing_43 (fX4_fewestAgreeing_4 n)) (tX4_fewestAgreeing_43 hO hr hk (fX4_fewestAgreeing_4 n) ih) aL0 xL2)
        · refine sm_iload_n hO 2 dX4_fewestAgreeing_30 rfl rfl ?_
          refine sm_csi hO (ctJ6_bitCount_0f7a4 l G xL2) cw_RX4_51 kw_472 [] rfl rfl ⟨(Nat.le_of_ble_eq_true rfl), (Nat.le_of_ble_eq_true rfl)⟩ ⟨(Nat.le_of_ble_eq_true rfl), (Nat.le_of_ble_eq_true rfl)⟩ (Nat.le_of_ble_eq_true rfl) dX4_fewestAgreeing_31 (fun x5 => ?_)
          refine sm_iload_n hO 1 dX4_fewestAgreeing_34 rfl rfl ?_
          refine sm_csi hO (ctJ6_bitCount_0f7a4 l G xL1) cw_RX4_51 kw_472 [.int x5] rfl rfl ⟨(Nat.le_of_ble_eq_true rfl), (Nat.le_of_ble_eq_true rfl)⟩ ⟨(Nat.le_of_ble_eq_true rfl), (Nat.le_of_ble_eq_true rfl)⟩ (Nat.le_of_ble_eq_true rfl) dX4_fewestAgreeing_35 (fun x6 => ?_)
          refine sm_icmp_ge (tgt := 43) hO dX4_fewestAgreeing_38 (by decide) ?_ ?_
          · exact sm_sub [0, 1, 2] rfl (tX4_fewestAgreeing_43 hO hr hk (fX4_fewestAgreeing_4 n) ih aL0 xL1 xL2)
          · exact sm_sub [0, 2] rfl (tX4_fewestAgreeing_41 hO hr hk (fX4_fewestAgreeing_43 (fX4_fewestAgreeing_4 n)) (tX4_fewestAgreeing_43 hO hr hk (fX4_fewestAgreeing_4 n) ih) aL0 xL2)
set_option maxRecDepth 100000 in
set_option maxHeartbeats 4000000 in
theorem ctX4_fewestAgreeing (l : Launch) (G : cG) (a0_ : Nat) : Ct l G yX4_fewestAgreeing cX4_fewestAgreeing 3 (some .int) 1 20 0 0 [.ref a0_] c_vi (pX4_fewestAgreeing a0_) := by
  refine Ct.of (lv := [(0, .ref a0_)]) (by decide) (Nat.le_of_ble_eq_true rfl) rfl (fun p e s m args below meth c hO hr hk hin => ?_)
  rw [pX4_fewestAgreeing]
  refine sm_iconst (v := (-1)) hO dX4_fewestAgreeing_0 rfl ?_
  refine sm_istore_n hO [(1, .int ((-1))), (0, .ref a0_)] dX4_fewestAgreeing_1 rfl (by decide) rfl ?_
  refine sm_iconst (v := 0) hO dX4_fewestAgreeing_2 rfl ?_
  refine sm_istore_n hO [(2, .int 0), (1, .int ((-1))), (0, .ref a0_)] dX4_fewestAgreeing_3 rfl (by decide) rfl ?_
  exact sm_sub [2, 1, 0] rfl (tX4_fewestAgreeing_4 hO hr hk c_fu a0_ ((-1)) 0)
/-! DollCongress.told(I)I -/
def pX9_told (a0_ : Nat) (x1_ : Int32) : MM Int32 := if x1_ = 0 then (m_gr a0_ 8 7 (fun a39 => m_gi a39 4 5 (fun x40 => m_ret x40))) else (if x1_ = 1 then (m_gr a0_ 8 7 (fun a37 => m_gi a37 4 6 (fun x38 => m_ret x38))) else (if x1_ = 2 then (m_gr a0_ 8 0 (fun a35 => m_gi a35 6 1 (fun x36 => m_ret x36))) else (if x1_ = 3 then (m_gr a0_ 8 7 (fun a33 => m_gi a33 4 7 (fun x34 => m_ret x34))) else (if x1_ = 4 then (m_gr a0_ 8 7 (fun a31 => m_gi a31 4 8 (fun x32 => m_ret x32))) else (if x1_ = 5 then (m_gr a0_ 8 1 (fun a29 => m_gi a29 5 5 (fun x30 => m_ret x30))) else (if x1_ = 6 then (m_gr a0_ 8 1 (fun a27 => m_gi a27 5 4 (fun x28 => m_ret x28))) else (if x1_ = 7 then (m_gr a0_ 8 1 (fun a24 => m_gr a0_ 8 7 (fun a25 => m_cv a24 5 (pX5_strays a24 a25) (fun x26 => m_ret x26)))) else (if x1_ = 8 then (m_gr a0_ 8 7 (fun a21 => m_gr a0_ 8 1 (fun a22 => m_bind (pX6_within a21 a22 (0 : Int32)) (fun x23 => m_ret x23)))) else (if x1_ = 9 then (m_gr a0_ 8 1 (fun a18 => m_gr a0_ 8 7 (fun a19 => m_cv a18 5 (pX5_nodding a18 a19) (fun x20 => m_ret x20)))) else (if x1_ = 10 then (m_gr a0_ 8 1 (fun a16 => m_gi a16 5 6 (fun x17 => m_ret x17))) else (if x1_ = 11 then (m_gr a0_ 8 1 (fun a14 => m_gi a14 5 7 (fun x15 => m_ret x15))) else (if x1_ = 12 then (m_gr a0_ 8 7 (fun a11 => m_gr a0_ 8 1 (fun a12 => m_bind (pX6_telling a11 a12) (fun x13 => m_ret x13)))) else (if x1_ = 13 then (m_cv a0_ 8 (pX9_hasCongress a0_) (fun x8 => if x8 = 0 then (m_ret ((-1) : Int32)) else (m_gr a0_ 8 7 (fun a9 => m_cv a9 4 (pX4_fewestBlocking a9) (fun x10 => m_ret x10))))) else (if x1_ = 14 then (m_cv a0_ 8 (pX9_hasCongress a0_) (fun x5 => if x5 = 0 then (m_ret ((-1) : Int32)) else (m_gr a0_ 8 7 (fun a6 => m_cv a6 4 (pX4_fewestAgreeing a6) (fun x7 => m_ret x7))))) else (if x1_ = 15 then (m_gr a0_ 8 3 (fun a3 => m_gi a3 0 2 (fun x4 => m_ret x4))) else (if x1_ = 16 then (m_gr a0_ 8 2 (fun a1 => m_gi a1 3 2 (fun x2 => m_ret x2))) else (m_ret ((-1000000002) : Int32))))))))))))))))))
set_option maxRecDepth 100000 in
set_option maxHeartbeats 4000000 in
theorem ctX9_told (l : Launch) (G : cG) (a0_ : Nat) (x1_ : Int32) : Ct l G yX9_told cX9_told 2 (some .int) 2 48 0 0 [.ref a0_, .int x1_] c_vi (pX9_told a0_ x1_) := by
  refine Ct.of (lv := [(0, .ref a0_), (1, .int x1_)]) (by decide) (Nat.le_of_ble_eq_true rfl) rfl (fun p e s m args below meth c hO hr hk hin => ?_)
  rw [pX9_told]
  refine sm_iload_n hO 1 dX9_told_0 rfl rfl ?_
  refine sm_ite (fun q1_0 => ?_) (fun q1_0 => ?_)
  · refine sm_tabIn (tgt := 84) hO dX9_told_1 q1_0 (by decide) (by decide) rfl (by decide) ?_
    refine sm_aload_n hO 0 dX9_told_84 rfl rfl ?_
    refine sm_gr hO fl_RX9_60 dX9_told_85 (fun a39 => ?_)
    refine sm_gi hO fl_RX9_103 dX9_told_88 (fun x40 => ?_)
    exact sm_iret hO hr hk (Nat.le_of_ble_eq_true rfl) (Nat.le_of_ble_eq_true rfl) dX9_told_91
  · refine sm_ite (fun q1_1 => ?_) (fun q1_1 => ?_)
    · refine sm_tabIn (tgt := 92) hO dX9_told_1 q1_1 (by decide) (by decide) rfl (by decide) ?_
      refine sm_aload_n hO 0 dX9_told_92 rfl rfl ?_
      refine sm_gr hO fl_RX9_60 dX9_told_93 (fun a37 => ?_)
      refine sm_gi hO fl_RX9_97 dX9_told_96 (fun x38 => ?_)
      exact sm_iret hO hr hk (Nat.le_of_ble_eq_true rfl) (Nat.le_of_ble_eq_true rfl) dX9_told_99
    · refine sm_ite (fun q1_2 => ?_) (fun q1_2 => ?_)
      · refine sm_tabIn (tgt := 100) hO dX9_told_1 q1_2 (by decide) (by decide) rfl (by decide) ?_
        refine sm_aload_n hO 0 dX9_told_100 rfl rfl ?_
        refine sm_gr hO fl_RX9_10 dX9_told_101 (fun a35 => ?_)
        refine sm_gi hO fl_RX9_69 dX9_told_104 (fun x36 => ?_)
        exact sm_iret hO hr hk (Nat.le_of_ble_eq_true rfl) (Nat.le_of_ble_eq_true rfl) dX9_told_107
      · refine sm_ite (fun q1_3 => ?_) (fun q1_3 => ?_)
        · refine sm_tabIn (tgt := 108) hO dX9_told_1 q1_3 (by decide) (by decide) rfl (by decide) ?_
          refine sm_aload_n hO 0 dX9_told_108 rfl rfl ?_
          refine sm_gr hO fl_RX9_60 dX9_told_109 (fun a33 => ?_)
          refine sm_gi hO fl_RX9_106 dX9_told_112 (fun x34 => ?_)
          exact sm_iret hO hr hk (Nat.le_of_ble_eq_true rfl) (Nat.le_of_ble_eq_true rfl) dX9_told_115
        · refine sm_ite (fun q1_4 => ?_) (fun q1_4 => ?_)
          · refine sm_tabIn (tgt := 116) hO dX9_told_1 q1_4 (by decide) (by decide) rfl (by decide) ?_
            refine sm_aload_n hO 0 dX9_told_116 rfl rfl ?_
            refine sm_gr hO fl_RX9_60 dX9_told_117 (fun a31 => ?_)
            refine sm_gi hO fl_RX9_109 dX9_told_120 (fun x32 => ?_)
            exact sm_iret hO hr hk (Nat.le_of_ble_eq_true rfl) (Nat.le_of_ble_eq_true rfl) dX9_told_123
          · refine sm_ite (fun q1_5 => ?_) (fun q1_5 => ?_)
            · refine sm_tabIn (tgt := 124) hO dX9_told_1 q1_5 (by decide) (by decide) rfl (by decide) ?_
              refine sm_aload_n hO 0 dX9_told_124 rfl rfl ?_
              refine sm_gr hO fl_RX9_19 dX9_told_125 (fun a29 => ?_)
              refine sm_gi hO fl_RX9_112 dX9_told_128 (fun x30 => ?_)
              exact sm_iret hO hr hk (Nat.le_of_ble_eq_true rfl) (Nat.le_of_ble_eq_true rfl) dX9_told_131
            · refine sm_ite (fun q1_6 => ?_) (fun q1_6 => ?_)
              · refine sm_tabIn (tgt := 132) hO dX9_told_1 q1_6 (by decide) (by decide) rfl (by decide) ?_
                refine sm_aload_n hO 0 dX9_told_132 rfl rfl ?_
                refine sm_gr hO fl_RX9_19 dX9_told_133 (fun a27 => ?_)
                refine sm_gi hO fl_RX9_115 dX9_told_136 (fun x28 => ?_)
                exact sm_iret hO hr hk (Nat.le_of_ble_eq_true rfl) (Nat.le_of_ble_eq_true rfl) dX9_told_139
              · refine sm_ite (fun q1_7 => ?_) (fun q1_7 => ?_)
                · refine sm_tabIn (tgt := 140) hO dX9_told_1 q1_7 (by decide) (by decide) rfl (by decide) ?_
                  refine sm_aload_n hO 0 dX9_told_140 rfl rfl ?_
                  refine sm_gr hO fl_RX9_19 dX9_told_141 (fun a24 => ?_)
                  refine sm_aload_n hO 0 dX9_told_144 rfl rfl ?_
                  refine sm_gr hO fl_RX9_60 dX9_told_145 (fun a25 => ?_)
                  refine sm_cvi hO (ctX5_strays l G a24 a25) cw_RX9_118 cv_X5_strays [] rfl rfl ⟨(Nat.le_of_ble_eq_true rfl), (Nat.le_of_ble_eq_true rfl)⟩ ⟨(Nat.le_of_ble_eq_true rfl), (Nat.le_of_ble_eq_true rfl)⟩ (Nat.le_of_ble_eq_true rfl) dX9_told_148 (fun x26 => ?_)
                  exact sm_iret hO hr hk (Nat.le_of_ble_eq_true rfl) (Nat.le_of_ble_eq_true rfl) dX9_told_151
                · refine sm_ite (fun q1_8 => ?_) (fun q1_8 => ?_)
                  · refine sm_tabIn (tgt := 152) hO dX9_told_1 q1_8 (by decide) (by decide) rfl (by decide) ?_
                    refine sm_aload_n hO 0 dX9_told_152 rfl rfl ?_
                    refine sm_gr hO fl_RX9_60 dX9_told_153 (fun a21 => ?_)
                    refine sm_aload_n hO 0 dX9_told_156 rfl rfl ?_
                    refine sm_gr hO fl_RX9_19 dX9_told_157 (fun a22 => ?_)
                    refine sm_iconst (v := 0) hO dX9_told_160 rfl ?_
                    refine sm_csi hO (ctX6_within l G a21 a22 (0 : Int32)) cw_RX9_122 kw_469 [] rfl rfl ⟨(Nat.le_of_ble_eq_true rfl), (Nat.le_of_ble_eq_true rfl)⟩ ⟨(Nat.le_of_ble_eq_true rfl), (Nat.le_of_ble_eq_true rfl)⟩ (Nat.le_of_ble_eq_true rfl) dX9_told_161 (fun x23 => ?_)
                    exact sm_iret hO hr hk (Nat.le_of_ble_eq_true rfl) (Nat.le_of_ble_eq_true rfl) dX9_told_164
                  · refine sm_ite (fun q1_9 => ?_) (fun q1_9 => ?_)
                    · refine sm_tabIn (tgt := 165) hO dX9_told_1 q1_9 (by decide) (by decide) rfl (by decide) ?_
                      refine sm_aload_n hO 0 dX9_told_165 rfl rfl ?_
                      refine sm_gr hO fl_RX9_19 dX9_told_166 (fun a18 => ?_)
                      refine sm_aload_n hO 0 dX9_told_169 rfl rfl ?_
                      refine sm_gr hO fl_RX9_60 dX9_told_170 (fun a19 => ?_)
                      refine sm_cvi hO (ctX5_nodding l G a18 a19) cw_RX9_128 cv_X5_nodding [] rfl rfl ⟨(Nat.le_of_ble_eq_true rfl), (Nat.le_of_ble_eq_true rfl)⟩ ⟨(Nat.le_of_ble_eq_true rfl), (Nat.le_of_ble_eq_true rfl)⟩ (Nat.le_of_ble_eq_true rfl) dX9_told_173 (fun x20 => ?_)
                      exact sm_iret hO hr hk (Nat.le_of_ble_eq_true rfl) (Nat.le_of_ble_eq_true rfl) dX9_told_176
                    · refine sm_ite (fun q1_10 => ?_) (fun q1_10 => ?_)
                      · refine sm_tabIn (tgt := 177) hO dX9_told_1 q1_10 (by decide) (by decide) rfl (by decide) ?_
                        refine sm_aload_n hO 0 dX9_told_177 rfl rfl ?_
                        refine sm_gr hO fl_RX9_19 dX9_told_178 (fun a16 => ?_)
                        refine sm_gi hO fl_RX9_131 dX9_told_181 (fun x17 => ?_)
                        exact sm_iret hO hr hk (Nat.le_of_ble_eq_true rfl) (Nat.le_of_ble_eq_true rfl) dX9_told_184
                      · refine sm_ite (fun q1_11 => ?_) (fun q1_11 => ?_)
                        · refine sm_tabIn (tgt := 185) hO dX9_told_1 q1_11 (by decide) (by decide) rfl (by decide) ?_
                          refine sm_aload_n hO 0 dX9_told_185 rfl rfl ?_
                          refine sm_gr hO fl_RX9_19 dX9_told_186 (fun a14 => ?_)
                          refine sm_gi hO fl_RX9_134 dX9_told_189 (fun x15 => ?_)
                          exact sm_iret hO hr hk (Nat.le_of_ble_eq_true rfl) (Nat.le_of_ble_eq_true rfl) dX9_told_192
                        · refine sm_ite (fun q1_12 => ?_) (fun q1_12 => ?_)
                          · refine sm_tabIn (tgt := 193) hO dX9_told_1 q1_12 (by decide) (by decide) rfl (by decide) ?_
                            refine sm_aload_n hO 0 dX9_told_193 rfl rfl ?_
                            refine sm_gr hO fl_RX9_60 dX9_told_194 (fun a11 => ?_)
                            refine sm_aload_n hO 0 dX9_told_197 rfl rfl ?_
                            refine sm_gr hO fl_RX9_19 dX9_told_198 (fun a12 => ?_)
                            refine sm_csi hO (ctX6_telling l G a11 a12) cw_RX9_137 kw_486 [] rfl rfl ⟨(Nat.le_of_ble_eq_true rfl), (Nat.le_of_ble_eq_true rfl)⟩ ⟨(Nat.le_of_ble_eq_true rfl), (Nat.le_of_ble_eq_true rfl)⟩ (Nat.le_of_ble_eq_true rfl) dX9_told_201 (fun x13 => ?_)
                            exact sm_iret hO hr hk (Nat.le_of_ble_eq_true rfl) (Nat.le_of_ble_eq_true rfl) dX9_told_204
                          · refine sm_ite (fun q1_13 => ?_) (fun q1_13 => ?_)
                            · refine sm_tabIn (tgt := 205) hO dX9_told_1 q1_13 (by decide) (by decide) rfl (by decide) ?_
                              refine sm_aload_n hO 0 dX9_told_205 rfl rfl ?_
                              refine sm_cvi hO (ctX9_hasCongress l G a0_) cw_RX9_141 cv_X9_hasCongress [] rfl rfl ⟨(Nat.le_of_ble_eq_true rfl), (Nat.le_of_ble_eq_true rfl)⟩ ⟨(Nat.le_of_ble_eq_true rfl), (Nat.le_of_ble_eq_true rfl)⟩ (Nat.le_of_ble_eq_true rfl) dX9_told_206 (fun x8 => ?_)
                              refine sm_if_eq (tgt := 222) hO dX9_told_209 (by decide) ?_ ?_
                              · refine sm_iconst (v := (-1)) hO dX9_told_222 rfl ?_
                                exact sm_iret hO hr hk (Nat.le_of_ble_eq_true rfl) (Nat.le_of_ble_eq_true rfl) dX9_told_223
                              · refine sm_aload_n hO 0 dX9_told_212 rfl rfl ?_
                                refine sm_gr hO fl_RX9_60 dX9_told_213 (fun a9 => ?_)
                                refine sm_cvi hO (ctX4_fewestBlocking l G a9) cw_RX9_145 cv_X4_fewestBlocking [] rfl rfl ⟨(Nat.le_of_ble_eq_true rfl), (Nat.le_of_ble_eq_true rfl)⟩ ⟨(Nat.le_of_ble_eq_true rfl), (Nat.le_of_ble_eq_true rfl)⟩ (Nat.le_of_ble_eq_true rfl) dX9_told_216 (fun x10 => ?_)
                                refine sm_goto (tgt := 223) hO dX9_told_219 (by decide) ?_
                                exact sm_iret hO hr hk (Nat.le_of_ble_eq_true rfl) (Nat.le_of_ble_eq_true rfl) dX9_told_223
                            · refine sm_ite (fun q1_14 => ?_) (fun q1_14 => ?_)
                              · refine sm_tabIn (tgt := 224) hO dX9_told_1 q1_14 (by decide) (by decide) rfl (by decide) ?_
                                refine sm_aload_n hO 0 dX9_told_224 rfl rfl ?_
                                refine sm_cvi hO (ctX9_hasCongress l G a0_) cw_RX9_141 cv_X9_hasCongress [] rfl rfl ⟨(Nat.le_of_ble_eq_true rfl), (Nat.le_of_ble_eq_true rfl)⟩ ⟨(Nat.le_of_ble_eq_true rfl), (Nat.le_of_ble_eq_true rfl)⟩ (Nat.le_of_ble_eq_true rfl) dX9_told_225 (fun x5 => ?_)
                                refine sm_if_eq (tgt := 241) hO dX9_told_228 (by decide) ?_ ?_
                                · refine sm_iconst (v := (-1)) hO dX9_told_241 rfl ?_
                                  exact sm_iret hO hr hk (Nat.le_of_ble_eq_true rfl) (Nat.le_of_ble_eq_true rfl) dX9_told_242
                                · refine sm_aload_n hO 0 dX9_told_231 rfl rfl ?_
                                  refine sm_gr hO fl_RX9_60 dX9_told_232 (fun a6 => ?_)
                                  refine sm_cvi hO (ctX4_fewestAgreeing l G a6) cw_RX9_149 cv_X4_fewestAgreeing [] rfl rfl ⟨(Nat.le_of_ble_eq_true rfl), (Nat.le_of_ble_eq_true rfl)⟩ ⟨(Nat.le_of_ble_eq_true rfl), (Nat.le_of_ble_eq_true rfl)⟩ (Nat.le_of_ble_eq_true rfl) dX9_told_235 (fun x7 => ?_)
                                  refine sm_goto (tgt := 242) hO dX9_told_238 (by decide) ?_
                                  exact sm_iret hO hr hk (Nat.le_of_ble_eq_true rfl) (Nat.le_of_ble_eq_true rfl) dX9_told_242
                              · refine sm_ite (fun q1_15 => ?_) (fun q1_15 => ?_)
                                · refine sm_tabIn (tgt := 243) hO dX9_told_1 q1_15 (by decide) (by decide) rfl (by decide) ?_
                                  refine sm_aload_n hO 0 dX9_told_243 rfl rfl ?_
                                  refine sm_gr hO fl_RX9_33 dX9_told_244 (fun a3 => ?_)
                                  refine sm_gi hO fl_RX9_92 dX9_told_247 (fun x4 => ?_)
                                  exact sm_iret hO hr hk (Nat.le_of_ble_eq_true rfl) (Nat.le_of_ble_eq_true rfl) dX9_told_250
                                · refine sm_ite (fun q1_16 => ?_) (fun q1_16 => ?_)
                                  · refine sm_tabIn (tgt := 251) hO dX9_told_1 q1_16 (by decide) (by decide) rfl (by decide) ?_
                                    refine sm_aload_n hO 0 dX9_told_251 rfl rfl ?_
                                    refine sm_gr hO fl_RX9_26 dX9_told_252 (fun a1 => ?_)
                                    refine sm_gi hO fl_RX9_152 dX9_told_255 (fun x2 => ?_)
                                    exact sm_iret hO hr hk (Nat.le_of_ble_eq_true rfl) (Nat.le_of_ble_eq_true rfl) dX9_told_258
                                  · refine sm_tabOut (tgt := 259) hO dX9_told_1 (c_ne_lo (n := 17) (by decide) (fun k hk => match k, hk with | 0, _ => q1_0 | 1, _ => q1_1 | 2, _ => q1_2 | 3, _ => q1_3 | 4, _ => q1_4 | 5, _ => q1_5 | 6, _ => q1_6 | 7, _ => q1_7 | 8, _ => q1_8 | 9, _ => q1_9 | 10, _ => q1_10 | 11, _ => q1_11 | 12, _ => q1_12 | 13, _ => q1_13 | 14, _ => q1_14 | 15, _ => q1_15 | 16, _ => q1_16 | k + 17, hk => absurd hk (by omega))) (by decide) ?_
                                    refine sm_ldc (v := (-1000000002)) hO kw_362 dX9_told_259 ?_
                                    exact sm_iret hO hr hk (Nat.le_of_ble_eq_true rfl) (Nat.le_of_ble_eq_true rfl) dX9_told_261
/-! DollCongressModel.wrongOnes()I -/
def fX10_wrongOnes_35 (k4 : Nat → Int32 → Int32 → MM Int32) (aL0 : Nat) (xL2 : Int32) (xS0 : Int32) (xS1 : Int32) : MM Int32 := m_let (xS1 ||| xS0) (fun x1 => m_let (xL2 + 1) (fun x2 => k4 aL0 x1 x2))
def fX10_wrongOnes_4  : Nat → Nat → Int32 → Int32 → MM Int32
  | 0, _, _, _ => m_bad
  | n + 1, aL0, xL1, xL2 => m_gi aL0 9 2 (fun x1 => if x1 ≤ xL2 then (m_ret xL1) else (m_gr aL0 9 8 (fun a2 => m_li 0 a2 xL2 (fun x3 => m_gr aL0 9 4 (fun a4 => m_li 0 a4 xL2 (fun x5 => if x3 = x5 then (fX10_wrongOnes_35 (fX10_wrongOnes_4 n) aL0 xL2 0 xL1) else (fX10_wrongOnes_35 (fX10_wrongOnes_4 n) aL0 xL2 ((1 : Int32) <<< (xL2 &&& 31)) xL1)))))))
def pX10_wrongOnes (a0_ : Nat) : MM Int32 := fX10_wrongOnes_4 c_fu a0_ 0 0
set_option maxRecDepth 100000 in
set_option maxHeartbeats 4000000 in
theorem tX10_wrongOnes_35 {p : Program} {l : Launch} {e : Env} {s : State} {m : MethodId} {args : Array Value} {below : List Frame} {meth : Method} {c : Code} {G : cG} (hO : c_Ok p s m c cX10_wrongOnes 3 RX10 G) (hr : meth.sig.returnType = (some .int)) (hk : meth.locks = false) (k4 : Nat → Int32 → Int32 → MM Int32) (hk4 : ∀ (aL0 : Nat) (xL1 : Int32) (xL2 : Int32), Sm p l e { frames := 0, cells := 0, slots := 0, locals := 0 } s m args below meth c G 3 (c_Q G c_vi below args s 0 0) 0 0 4 [(0, .ref aL0), (1, .int xL1), (2, .int xL2)] [] (k4 aL0 xL1 xL2))  : ∀ (aL0 : Nat) (xL2 : Int32) (xS0 : Int32) (xS1 : Int32), Sm p l e { frames := 0, cells := 0, slots := 0, locals := 0 } s m args below meth c G 3 (c_Q G c_vi below args s 0 0) 0 0 35 [(0, .ref aL0), (2, .int xL2)] [.int xS0, .int xS1] (fX10_wrongOnes_35 k4 aL0 xL2 xS0 xS1) := by
  intro aL0 xL2 xS0 xS1
  rw [fX10_wrongOnes_35]
  refine sm_ior hO dX10_wrongOnes_35 ?_
  refine sm_topi (fun x1 => ?_)
  refine sm_istore_n hO [(1, .int x1), (0, .ref aL0), (2, .int xL2)] dX10_wrongOnes_36 rfl (by decide) rfl ?_
  refine sm_iincL (v := xL2 + 1) hO 2 (fun x2 => [(2, .int x2), (1, .int x1), (0, .ref aL0)]) dX10_wrongOnes_37 rfl rfl (by decide) (fun _ => rfl) (fun x2 => ?_)
  refine sm_goto (tgt := 4) hO dX10_wrongOnes_40 (by decide) ?_
  exact sm_sub [2, 1, 0] rfl (hk4 aL0 x1 x2)
set_option maxRecDepth 100000 in
set_option maxHeartbeats 4000000 in
theorem tX10_wrongOnes_4 {p : Program} {l : Launch} {e : Env} {s : State} {m : MethodId} {args : Array Value} {below : List Frame} {meth : Method} {c : Code} {G : cG} (hO : c_Ok p s m c cX10_wrongOnes 3 RX10 G) (hr : meth.sig.returnType = (some .int)) (hk : meth.locks = false) : ∀ (n : Nat) (aL0 : Nat) (xL1 : Int32) (xL2 : Int32), Sm p l e { frames := 0, cells := 0, slots := 0, locals := 0 } s m args below meth c G 3 (c_Q G c_vi below args s 0 0) 0 0 4 [(0, .ref aL0), (1, .int xL1), (2, .int xL2)] [] (fX10_wrongOnes_4 n aL0 xL1 xL2) := by
  intro n
  induction n with
  | zero =>
    intro aL0 xL1 xL2
    exact sm_bad
  | succ n ih =>
    intro aL0 xL1 xL2
    rw [fX10_wrongOnes_4]
    refine sm_iload_n hO 2 dX10_wrongOnes_4 rfl rfl ?_
    refine sm_aload_n hO 0 dX10_wrongOnes_5 rfl rfl ?_
    refine sm_gi hO fl_RX10_79 dX10_wrongOnes_6 (fun x1 => ?_)
    refine sm_icmp_ge (tgt := 43) hO dX10_wrongOnes_9 (by decide) ?_ ?_
    · refine sm_iload_n hO 1 dX10_wrongOnes_43 rfl rfl ?_
      exact sm_iret hO hr hk (Nat.le_of_ble_eq_true rfl) (Nat.le_of_ble_eq_true rfl) dX10_wrongOnes_44
    · refine sm_iload_n hO 1 dX10_wrongOnes_12 rfl rfl ?_
      refine sm_aload_n hO 0 dX10_wrongOnes_13 rfl rfl ?_
      refine sm_gr hO fl_RX10_22 dX10_wrongOnes_14 (fun a2 => ?_)
      refine sm_iload_n hO 2 dX10_wrongOnes_17 rfl rfl ?_
      refine sm_li hO dX10_wrongOnes_18 (fun x3 => ?_)
      refine sm_aload_n hO 0 dX10_wrongOnes_19 rfl rfl ?_
      refine sm_gr hO fl_RX10_16 dX10_wrongOnes_20 (fun a4 => ?_)
      refine sm_iload_n hO 2 dX10_wrongOnes_23 rfl rfl ?_
      refine sm_li hO dX10_wrongOnes_24 (fun x5 => ?_)
      refine sm_icmp_eq (tgt := 34) hO dX10_wrongOnes_25 (by decide) ?_ ?_
      · refine sm_iconst (v := 0) hO dX10_wrongOnes_34 rfl ?_
        exact sm_sub [0, 2] rfl (tX10_wrongOnes_35 hO hr hk (fX10_wrongOnes_4 n) ih aL0 xL2 0 xL1)
      · refine sm_iconst (v := 1) hO dX10_wrongOnes_28 rfl ?_
        refine sm_iload_n hO 2 dX10_wrongOnes_29 rfl rfl ?_
        refine sm_ishl hO dX10_wrongOnes_30 ?_
        refine sm_goto (tgt := 35) hO dX10_wrongOnes_31 (by decide) ?_
        exact sm_sub [0, 2] rfl (tX10_wrongOnes_35 hO hr hk (fX10_wrongOnes_4 n) ih aL0 xL2 ((1 : Int32) <<< (xL2 &&& 31)) xL1)
set_option maxRecDepth 100000 in
set_option maxHeartbeats 4000000 in
theorem ctX10_wrongOnes (l : Launch) (G : cG) (a0_ : Nat) : Ct l G yX10_wrongOnes cX10_wrongOnes 3 (some .int) 0 0 0 0 [.ref a0_] c_vi (pX10_wrongOnes a0_) := by
  refine Ct.of (lv := [(0, .ref a0_)]) (by decide) (Nat.le_of_ble_eq_true rfl) rfl (fun p e s m args below meth c hO hr hk hin => ?_)
  rw [pX10_wrongOnes]
  refine sm_iconst (v := 0) hO dX10_wrongOnes_0 rfl ?_
  refine sm_istore_n hO [(1, .int 0), (0, .ref a0_)] dX10_wrongOnes_1 rfl (by decide) rfl ?_
  refine sm_iconst (v := 0) hO dX10_wrongOnes_2 rfl ?_
  refine sm_istore_n hO [(2, .int 0), (1, .int 0), (0, .ref a0_)] dX10_wrongOnes_3 rfl (by decide) rfl ?_
  exact sm_sub [2, 1, 0] rfl (tX10_wrongOnes_4 hO hr hk c_fu a0_ 0 0)
/-! DollCongressModel.bits(I)I -/
def fX10_bits_4  : Nat → Int32 → Int32 → Int32 → MM Int32
  | 0, _, _, _ => m_bad
  | n + 1, xL0, xL1, xL2 => if (8 : Int32) ≤ xL2 then (m_ret xL1) else (m_let (xL1 + ((xL0 >>> (xL2 &&& 31)) &&& 1)) (fun x1 => m_let (xL2 + 1) (fun x2 => fX10_bits_4 n xL0 x1 x2)))
def pX10_bits (x0_ : Int32) : MM Int32 := fX10_bits_4 c_fu x0_ 0 0
set_option maxRecDepth 100000 in
set_option maxHeartbeats 4000000 in
theorem tX10_bits_4 {p : Program} {l : Launch} {e : Env} {s : State} {m : MethodId} {args : Array Value} {below : List Frame} {meth : Method} {c : Code} {G : cG} (hO : c_Ok p s m c cX10_bits 3 RX10 G) (hr : meth.sig.returnType = (some .int)) (hk : meth.locks = false) : ∀ (n : Nat) (xL0 : Int32) (xL1 : Int32) (xL2 : Int32), Sm p l e { frames := 0, cells := 0, slots := 0, locals := 0 } s m args below meth c G 3 (c_Q G c_vi below args s 0 0) 0 0 4 [(0, .int xL0), (1, .int xL1), (2, .int xL2)] [] (fX10_bits_4 n xL0 xL1 xL2) := by
  intro n
  induction n with
  | zero =>
    intro xL0 xL1 xL2
    exact sm_bad
  | succ n ih =>
    intro xL0 xL1 xL2
    rw [fX10_bits_4]
    refine sm_iload_n hO 2 dX10_bits_4 rfl rfl ?_
    refine sm_bipush (v := 8) hO dX10_bits_5 rfl ?_
    refine sm_icmp_ge (tgt := 24) hO dX10_bits_7 (by decide) ?_ ?_
    · refine sm_iload_n hO 1 dX10_bits_24 rfl rfl ?_
      exact sm_iret hO hr hk (Nat.le_of_ble_eq_true rfl) (Nat.le_of_ble_eq_true rfl) dX10_bits_25
    · refine sm_iload_n hO 1 dX10_bits_10 rfl rfl ?_
      refine sm_iload_n hO 0 dX10_bits_11 rfl rfl ?_
      refine sm_iload_n hO 2 dX10_bits_12 rfl rfl ?_
      refine sm_ishr hO dX10_bits_13 ?_
      refine sm_iconst (v := 1) hO dX10_bits_14 rfl ?_
      refine sm_iand hO dX10_bits_15 ?_
      refine sm_iadd hO dX10_bits_16 ?_
      refine sm_topi (fun x1 => ?_)
      refine sm_istore_n hO [(1, .int x1), (0, .int xL0), (2, .int xL2)] dX10_bits_17 rfl (by decide) rfl ?_
      refine sm_iincL (v := xL2 + 1) hO 2 (fun x2 => [(2, .int x2), (1, .int x1), (0, .int xL0)]) dX10_bits_18 rfl rfl (by decide) (fun _ => rfl) (fun x2 => ?_)
      refine sm_goto (tgt := 4) hO dX10_bits_21 (by decide) ?_
      exact sm_sub [2, 1, 0] rfl (ih xL0 x1 x2)
set_option maxRecDepth 100000 in
set_option maxHeartbeats 4000000 in
theorem ctX10_bits (l : Launch) (G : cG) (x0_ : Int32) : Ct l G yX10_bits cX10_bits 3 (some .int) 0 0 0 0 [.int x0_] c_vi (pX10_bits x0_) := by
  refine Ct.of (lv := [(0, .int x0_)]) (by decide) (Nat.le_of_ble_eq_true rfl) rfl (fun p e s m args below meth c hO hr hk hin => ?_)
  rw [pX10_bits]
  refine sm_iconst (v := 0) hO dX10_bits_0 rfl ?_
  refine sm_istore_n hO [(1, .int 0), (0, .int x0_)] dX10_bits_1 rfl (by decide) rfl ?_
  refine sm_iconst (v := 0) hO dX10_bits_2 rfl ?_
  refine sm_istore_n hO [(2, .int 0), (1, .int 0), (0, .int x0_)] dX10_bits_3 rfl (by decide) rfl ?_
  exact sm_sub [2, 1, 0] rfl (tX10_bits_4 hO hr hk c_fu x0_ 0 0)
/-! DollCongressModel.closeOnes(I)I -/
def fX10_closeOnes_41 (k4 : Nat → Int32 → Int32 → Int32 → MM Int32) (aL0 : Nat) (xL1 : Int32) (xL3 : Int32) (xS0 : Int32) (xS1 : Int32) : MM Int32 := m_let (xS1 ||| xS0) (fun x1 => m_let (xL3 + 1) (fun x2 => k4 aL0 xL1 x1 x2))
def fX10_closeOnes_4  : Nat → Nat → Int32 → Int32 → Int32 → MM Int32
  | 0, _, _, _, _ => m_bad
  | n + 1, aL0, xL1, xL2, xL3 => m_gi aL0 9 2 (fun x1 => if x1 ≤ xL3 then (m_ret xL2) else (m_gr aL0 9 8 (fun a2 => m_li 0 a2 ((17 : Int32) + xL3) (fun x3 => m_gi aL0 9 6 (fun x4 => m_bind (pX10_bits (x3 ^^^ x4)) (fun x5 => if xL1 < x5 then (fX10_closeOnes_41 (fX10_closeOnes_4 n) aL0 xL1 xL3 0 xL2) else (fX10_closeOnes_41 (fX10_closeOnes_4 n) aL0 xL1 xL3 ((1 : Int32) <<< (xL3 &&& 31)) xL2)))))))
def pX10_closeOnes (a0_ : Nat) (x1_ : Int32) : MM Int32 := fX10_closeOnes_4 c_fu a0_ x1_ 0 0
set_option maxRecDepth 100000 in
set_option maxHeartbeats 4000000 in
theorem tX10_closeOnes_41 {p : Program} {l : Launch} {e : Env} {s : State} {m : MethodId} {args : Array Value} {below : List Frame} {meth : Method} {c : Code} {G : cG} (hO : c_Ok p s m c cX10_closeOnes 4 RX10 G) (hr : meth.sig.returnType = (some .int)) (hk : meth.locks = false) (k4 : Nat → Int32 → Int32 → Int32 → MM Int32) (hk4 : ∀ (aL0 : Nat) (xL1 : Int32) (xL2 : Int32) (xL3 : Int32), Sm p l e { frames := 1, cells := 0, slots := 0, locals := 22 } s m args below meth c G 4 (c_Q G c_vi below args s 0 0) 0 0 4 [(0, .ref aL0), (1, .int xL1), (2, .int xL2), (3, .int xL3)] [] (k4 aL0 xL1 xL2 xL3))  : ∀ (aL0 : Nat) (xL1 : Int32) (xL3 : Int32) (xS0 : Int32) (xS1 : Int32), Sm p l e { frames := 1, cells := 0, slots := 0, locals := 22 } s m args below meth c G 4 (c_Q G c_vi below args s 0 0) 0 0 41 [(0, .ref aL0), (1, .int xL1), (3, .int xL3)] [.int xS0, .int xS1] (fX10_closeOnes_41 k4 aL0 xL1 xL3 xS0 xS1) := by
  intro aL0 xL1 xL3 xS0 xS1
  rw [fX10_closeOnes_41]
  refine sm_ior hO dX10_closeOnes_41 ?_
  refine sm_topi (fun x1 => ?_)
  refine sm_istore_n hO [(2, .int x1), (0, .ref aL0), (1, .int xL1), (3, .int xL3)] dX10_closeOnes_42 rfl (by decide) rfl ?_
  refine sm_iincL (v := xL3 + 1) hO 3 (fun x2 => [(3, .int x2), (2, .int x1), (0, .ref aL0), (1, .int xL1)]) dX10_closeOnes_43 rfl rfl (by decide) (fun _ => rfl) (fun x2 => ?_)
  refine sm_goto (tgt := 4) hO dX10_closeOnes_46 (by decide) ?_
  exact sm_sub [2, 3, 1, 0] rfl (hk4 aL0 xL1 x1 x2)
set_option maxRecDepth 100000 in
set_option maxHeartbeats 4000000 in
theorem tX10_closeOnes_4 {p : Program} {l : Launch} {e : Env} {s : State} {m : MethodId} {args : Array Value} {below : List Frame} {meth : Method} {c : Code} {G : cG} (hO : c_Ok p s m c cX10_closeOnes 4 RX10 G) (hr : meth.sig.returnType = (some .int)) (hk : meth.locks = false) : ∀ (n : Nat) (aL0 : Nat) (xL1 : Int32) (xL2 : Int32) (xL3 : Int32), Sm p l e { frames := 1, cells := 0, slots := 0, locals := 22 } s m args below meth c G 4 (c_Q G c_vi below args s 0 0) 0 0 4 [(0, .ref aL0), (1, .int xL1), (2, .int xL2), (3, .int xL3)] [] (fX10_closeOnes_4 n aL0 xL1 xL2 xL3) := by
  intro n
  induction n with
  | zero =>
    intro aL0 xL1 xL2 xL3
    exact sm_bad
  | succ n ih =>
    intro aL0 xL1 xL2 xL3
    rw [fX10_closeOnes_4]
    refine sm_iload_n hO 3 dX10_closeOnes_4 rfl rfl ?_
    refine sm_aload_n hO 0 dX10_closeOnes_5 rfl rfl ?_
    refine sm_gi hO fl_RX10_79 dX10_closeOnes_6 (fun x1 => ?_)
    refine sm_icmp_ge (tgt := 49) hO dX10_closeOnes_9 (by decide) ?_ ?_
    · refine sm_iload_n hO 2 dX10_closeOnes_49 rfl rfl ?_
      exact sm_iret hO hr hk (Nat.le_of_ble_eq_true rfl) (Nat.le_of_ble_eq_true rfl) dX10_closeOnes_50
    · refine sm_iload_n hO 2 dX10_closeOnes_12 rfl rfl ?_
      refine sm_aload_n hO 0 dX10_closeOnes_13 rfl rfl ?_
      refine sm_gr hO fl_RX10_22 dX10_closeOnes_14 (fun a2 => ?_)
      refine sm_bipush (v := 17) hO dX10_closeOnes_17 rfl ?_
      refine sm_iload_n hO 3 dX10_closeOnes_19 rfl rfl ?_
      refine sm_iadd hO dX10_closeOnes_20 ?_
      refine sm_li hO dX10_closeOnes_21 (fun x3 => ?_)
      refine sm_aload_n hO 0 dX10_closeOnes_22 rfl rfl ?_
      refine sm_gi hO fl_RX10_149 dX10_closeOnes_23 (fun x4 => ?_)
      refine sm_ixor hO dX10_closeOnes_26 ?_
      refine sm_csi hO (ctX10_bits l G (x3 ^^^ x4)) cw_RX10_188 kw_1004 [.int xL2] rfl rfl ⟨(Nat.le_of_ble_eq_true rfl), (Nat.le_of_ble_eq_true rfl)⟩ ⟨(Nat.le_of_ble_eq_true rfl), (Nat.le_of_ble_eq_true rfl)⟩ (Nat.le_of_ble_eq_true rfl) dX10_closeOnes_27 (fun x5 => ?_)
      refine sm_iload_n hO 1 dX10_closeOnes_30 rfl rfl ?_
      refine sm_icmp_gt (tgt := 40) hO dX10_closeOnes_31 (by decide) ?_ ?_
      · refine sm_iconst (v := 0) hO dX10_closeOnes_40 rfl ?_
        exact sm_sub [0, 1, 3] rfl (tX10_closeOnes_41 hO hr hk (fX10_closeOnes_4 n) ih aL0 xL1 xL3 0 xL2)
      · refine sm_iconst (v := 1) hO dX10_closeOnes_34 rfl ?_
        refine sm_iload_n hO 3 dX10_closeOnes_35 rfl rfl ?_
        refine sm_ishl hO dX10_closeOnes_36 ?_
        refine sm_goto (tgt := 41) hO dX10_closeOnes_37 (by decide) ?_
        exact sm_sub [0, 1, 3] rfl (tX10_closeOnes_41 hO hr hk (fX10_closeOnes_4 n) ih aL0 xL1 xL3 ((1 : Int32) <<< (xL3 &&& 31)) xL2)
set_option maxRecDepth 100000 in
set_option maxHeartbeats 4000000 in
theorem ctX10_closeOnes (l : Launch) (G : cG) (a0_ : Nat) (x1_ : Int32) : Ct l G yX10_closeOnes cX10_closeOnes 4 (some .int) 1 22 0 0 [.ref a0_, .int x1_] c_vi (pX10_closeOnes a0_ x1_) := by
  refine Ct.of (lv := [(0, .ref a0_), (1, .int x1_)]) (by decide) (Nat.le_of_ble_eq_true rfl) rfl (fun p e s m args below meth c hO hr hk hin => ?_)
  rw [pX10_closeOnes]
  refine sm_iconst (v := 0) hO dX10_closeOnes_0 rfl ?_
  refine sm_istore_n hO [(2, .int 0), (0, .ref a0_), (1, .int x1_)] dX10_closeOnes_1 rfl (by decide) rfl ?_
  refine sm_iconst (v := 0) hO dX10_closeOnes_2 rfl ?_
  refine sm_istore_n hO [(3, .int 0), (2, .int 0), (0, .ref a0_), (1, .int x1_)] dX10_closeOnes_3 rfl (by decide) rfl ?_
  exact sm_sub [2, 3, 1, 0] rfl (tX10_closeOnes_4 hO hr hk c_fu a0_ x1_ 0 0)
/-! DollCongressModel.whoIsAt(I)I -/
def fX10_whoIsAt_30 (k4 : Nat → Int32 → Int32 → Int32 → MM Int32) (aL0 : Nat) (xL1 : Int32) (xL3 : Int32) (xS0 : Int32) (xS1 : Int32) : MM Int32 := m_let (xS1 ||| xS0) (fun x1 => m_let (xL3 + 1) (fun x2 => k4 aL0 xL1 x1 x2))
def fX10_whoIsAt_4  : Nat → Nat → Int32 → Int32 → Int32 → MM Int32
  | 0, _, _, _, _ => m_bad
  | n + 1, aL0, xL1, xL2, xL3 => m_gi aL0 9 2 (fun x1 => if x1 ≤ xL3 then (m_ret xL2) else (m_gr aL0 9 8 (fun a2 => m_li 0 a2 xL3 (fun x3 => if x3 = xL1 then (fX10_whoIsAt_30 (fX10_whoIsAt_4 n) aL0 xL1 xL3 ((1 : Int32) <<< (xL3 &&& 31)) xL2) else (fX10_whoIsAt_30 (fX10_whoIsAt_4 n) aL0 xL1 xL3 0 xL2)))))
def pX10_whoIsAt (a0_ : Nat) (x1_ : Int32) : MM Int32 := fX10_whoIsAt_4 c_fu a0_ x1_ 0 0
set_option maxRecDepth 100000 in
set_option maxHeartbeats 4000000 in
theorem tX10_whoIsAt_30 {p : Program} {l : Launch} {e : Env} {s : State} {m : MethodId} {args : Array Value} {below : List Frame} {meth : Method} {c : Code} {G : cG} (hO : c_Ok p s m c cX10_whoIsAt 4 RX10 G) (hr : meth.sig.returnType = (some .int)) (hk : meth.locks = false) (k4 : Nat → Int32 → Int32 → Int32 → MM Int32) (hk4 : ∀ (aL0 : Nat) (xL1 : Int32) (xL2 : Int32) (xL3 : Int32), Sm p l e { frames := 0, cells := 0, slots := 0, locals := 0 } s m args below meth c G 4 (c_Q G c_vi below args s 0 0) 0 0 4 [(0, .ref aL0), (1, .int xL1), (2, .int xL2), (3, .int xL3)] [] (k4 aL0 xL1 xL2 xL3))  : ∀ (aL0 : Nat) (xL1 : Int32) (xL3 : Int32) (xS0 : Int32) (xS1 : Int32), Sm p l e { frames := 0, cells := 0, slots := 0, locals := 0 } s m args below meth c G 4 (c_Q G c_vi below args s 0 0) 0 0 30 [(0, .ref aL0), (1, .int xL1), (3, .int xL3)] [.int xS0, .int xS1] (fX10_whoIsAt_30 k4 aL0 xL1 xL3 xS0 xS1) := by
  intro aL0 xL1 xL3 xS0 xS1
  rw [fX10_whoIsAt_30]
  refine sm_ior hO dX10_whoIsAt_30 ?_
  refine sm_topi (fun x1 => ?_)
  refine sm_istore_n hO [(2, .int x1), (0, .ref aL0), (1, .int xL1), (3, .int xL3)] dX10_whoIsAt_31 rfl (by decide) rfl ?_
  refine sm_iincL (v := xL3 + 1) hO 3 (fun x2 => [(3, .int x2), (2, .int x1), (0, .ref aL0), (1, .int xL1)]) dX10_whoIsAt_32 rfl rfl (by decide) (fun _ => rfl) (fun x2 => ?_)
  refine sm_goto (tgt := 4) hO dX10_whoIsAt_35 (by decide) ?_
  exact sm_sub [2, 3, 1, 0] rfl (hk4 aL0 xL1 x1 x2)
set_option maxRecDepth 100000 in
set_option maxHeartbeats 4000000 in
theorem tX10_whoIsAt_4 {p : Program} {l : Launch} {e : Env} {s : State} {m : MethodId} {args : Array Value} {below : List Frame} {meth : Method} {c : Code} {G : cG} (hO : c_Ok p s m c cX10_whoIsAt 4 RX10 G) (hr : meth.sig.returnType = (some .int)) (hk : meth.locks = false) : ∀ (n : Nat) (aL0 : Nat) (xL1 : Int32) (xL2 : Int32) (xL3 : Int32), Sm p l e { frames := 0, cells := 0, slots := 0, locals := 0 } s m args below meth c G 4 (c_Q G c_vi below args s 0 0) 0 0 4 [(0, .ref aL0), (1, .int xL1), (2, .int xL2), (3, .int xL3)] [] (fX10_whoIsAt_4 n aL0 xL1 xL2 xL3) := by
  intro n
  induction n with
  | zero =>
    intro aL0 xL1 xL2 xL3
    exact sm_bad
  | succ n ih =>
    intro aL0 xL1 xL2 xL3
    rw [fX10_whoIsAt_4]
    refine sm_iload_n hO 3 dX10_whoIsAt_4 rfl rfl ?_
    refine sm_aload_n hO 0 dX10_whoIsAt_5 rfl rfl ?_
    refine sm_gi hO fl_RX10_79 dX10_whoIsAt_6 (fun x1 => ?_)
    refine sm_icmp_ge (tgt := 38) hO dX10_whoIsAt_9 (by decide) ?_ ?_
    · refine sm_iload_n hO 2 dX10_whoIsAt_38 rfl rfl ?_
      exact sm_iret hO hr hk (Nat.le_of_ble_eq_true rfl) (Nat.le_of_ble_eq_true rfl) dX10_whoIsAt_39
    · refine sm_iload_n hO 2 dX10_whoIsAt_12 rfl rfl ?_
      refine sm_aload_n hO 0 dX10_whoIsAt_13 rfl rfl ?_
      refine sm_gr hO fl_RX10_22 dX10_whoIsAt_14 (fun a2 => ?_)
      refine sm_iload_n hO 3 dX10_whoIsAt_17 rfl rfl ?_
      refine sm_li hO dX10_whoIsAt_18 (fun x3 => ?_)
      refine sm_iload_n hO 1 dX10_whoIsAt_19 rfl rfl ?_
      refine sm_icmp_ne (tgt := 29) hO dX10_whoIsAt_20 (by decide) ?_ ?_
      · refine sm_iconst (v := 0) hO dX10_whoIsAt_29 rfl ?_
        exact sm_sub [0, 1, 3] rfl (tX10_whoIsAt_30 hO hr hk (fX10_whoIsAt_4 n) ih aL0 xL1 xL3 0 xL2)
      · refine sm_iconst (v := 1) hO dX10_whoIsAt_23 rfl ?_
        refine sm_iload_n hO 3 dX10_whoIsAt_24 rfl rfl ?_
        refine sm_ishl hO dX10_whoIsAt_25 ?_
        refine sm_goto (tgt := 30) hO dX10_whoIsAt_26 (by decide) ?_
        exact sm_sub [0, 1, 3] rfl (tX10_whoIsAt_30 hO hr hk (fX10_whoIsAt_4 n) ih aL0 xL1 xL3 ((1 : Int32) <<< (xL3 &&& 31)) xL2)
set_option maxRecDepth 100000 in
set_option maxHeartbeats 4000000 in
theorem ctX10_whoIsAt (l : Launch) (G : cG) (a0_ : Nat) (x1_ : Int32) : Ct l G yX10_whoIsAt cX10_whoIsAt 4 (some .int) 0 0 0 0 [.ref a0_, .int x1_] c_vi (pX10_whoIsAt a0_ x1_) := by
  refine Ct.of (lv := [(0, .ref a0_), (1, .int x1_)]) (by decide) (Nat.le_of_ble_eq_true rfl) rfl (fun p e s m args below meth c hO hr hk hin => ?_)
  rw [pX10_whoIsAt]
  refine sm_iconst (v := 0) hO dX10_whoIsAt_0 rfl ?_
  refine sm_istore_n hO [(2, .int 0), (0, .ref a0_), (1, .int x1_)] dX10_whoIsAt_1 rfl (by decide) rfl ?_
  refine sm_iconst (v := 0) hO dX10_whoIsAt_2 rfl ?_
  refine sm_istore_n hO [(3, .int 0), (2, .int 0), (0, .ref a0_), (1, .int x1_)] dX10_whoIsAt_3 rfl (by decide) rfl ?_
  exact sm_sub [2, 3, 1, 0] rfl (tX10_whoIsAt_4 hO hr hk c_fu a0_ x1_ 0 0)
/-! DollCongressModel.nods(I)Z -/
def fX10_nods_60 (k65 : Nat → Int32 → Int32 → Int32 → MM Int32) (aL0 : Nat) (xL2 : Int32) (xL4 : Int32) : MM Int32 := k65 aL0 xL2 xL4 1
def fX10_nods_64 (k65 : Nat → Int32 → Int32 → Int32 → MM Int32) (aL0 : Nat) (xL2 : Int32) (xL4 : Int32) : MM Int32 := k65 aL0 xL2 xL4 0
def fX10_nods_65 (k27 : Nat → Int32 → Int32 → Int32 → MM Int32) (aL0 : Nat) (xL2 : Int32) (xL4 : Int32) (xS0 : Int32) : MM Int32 := m_let (xL4 + 1) (fun x1 => k27 aL0 xL2 xS0 x1)
def fX10_nods_27  : Nat → Nat → Int32 → Int32 → Int32 → MM Int32
  | 0, _, _, _, _ => m_bad
  | n + 1, aL0, xL2, xL3, xL4 => m_gi aL0 9 2 (fun x1 => if x1 ≤ xL4 then (m_rz xL3) else (if xL3 = 0 then (fX10_nods_64 (fX10_nods_65 (fX10_nods_27 n)) aL0 xL2 xL4) else (m_bind (pX10_has xL2 xL4) (fun x2 => if x2 = 0 then (fX10_nods_60 (fX10_nods_65 (fX10_nods_27 n)) aL0 xL2 xL4) else (m_gr aL0 9 3 (fun a3 => m_li 0 a3 xL4 (fun x4 => if x4 = (1 : Int32) then (fX10_nods_64 (fX10_nods_65 (fX10_nods_27 n)) aL0 xL2 xL4) else (fX10_nods_60 (fX10_nods_65 (fX10_nods_27 n)) aL0 xL2 xL4))))))))
def fX10_nods_23  (aL0 : Nat) (xL2 : Int32) (xS0 : Int32) : MM Int32 := fX10_nods_27 c_fu aL0 xL2 xS0 0
def pX10_nods (a0_ : Nat) (x1_ : Int32) : MM Int32 := m_cv a0_ 9 (pX10_whoIsAt a0_ x1_) (fun x1 => m_gr a0_ 9 8 (fun a2 => m_li 0 a2 (8 : Int32) (fun x3 => m_let (x1 &&& x3) (fun x4 => if x4 = 0 then (fX10_nods_23 a0_ x4 0) else (fX10_nods_23 a0_ x4 1)))))
set_option maxRecDepth 100000 in
set_option maxHeartbeats 4000000 in
theorem tX10_nods_60 {p : Program} {l : Launch} {e : Env} {s : State} {m : MethodId} {args : Array Value} {below : List Frame} {meth : Method} {c : Code} {G : cG} (hO : c_Ok p s m c cX10_nods 5 RX10 G) (hr : meth.sig.returnType = (some .boolean)) (hk : meth.locks = false) (k65 : Nat → Int32 → Int32 → Int32 → MM Int32) (hk65 : ∀ (aL0 : Nat) (xL2 : Int32) (xL4 : Int32) (xS0 : Int32), Sm p l e { frames := 1, cells := 0, slots := 0, locals := 23 } s m args below meth c G 5 (c_Q G c_vi below args s 0 0) 0 0 65 [(0, .ref aL0), (2, .int xL2), (4, .int xL4)] [.int xS0] (k65 aL0 xL2 xL4 xS0))  : ∀ (aL0 : Nat) (xL2 : Int32) (xL4 : Int32), Sm p l e { frames := 1, cells := 0, slots := 0, locals := 23 } s m args below meth c G 5 (c_Q G c_vi below args s 0 0) 0 0 60 [(0, .ref aL0), (2, .int xL2), (4, .int xL4)] [] (fX10_nods_60 k65 aL0 xL2 xL4) := by
  intro aL0 xL2 xL4
  rw [fX10_nods_60]
  refine sm_iconst (v := 1) hO dX10_nods_60 rfl ?_
  refine sm_goto (tgt := 65) hO dX10_nods_61 (by decide) ?_
  exact sm_sub [0, 1, 2] rfl (hk65 aL0 xL2 xL4 1)
set_option maxRecDepth 100000 in
set_option maxHeartbeats 4000000 in
theorem tX10_nods_64 {p : Program} {l : Launch} {e : Env} {s : State} {m : MethodId} {args : Array Value} {below : List Frame} {meth : Method} {c : Code} {G : cG} (hO : c_Ok p s m c cX10_nods 5 RX10 G) (hr : meth.sig.returnType = (some .boolean)) (hk : meth.locks = false) (k65 : Nat → Int32 → Int32 → Int32 → MM Int32) (hk65 : ∀ (aL0 : Nat) (xL2 : Int32) (xL4 : Int32) (xS0 : Int32), Sm p l e { frames := 1, cells := 0, slots := 0, locals := 23 } s m args below meth c G 5 (c_Q G c_vi below args s 0 0) 0 0 65 [(0, .ref aL0), (2, .int xL2), (4, .int xL4)] [.int xS0] (k65 aL0 xL2 xL4 xS0))  : ∀ (aL0 : Nat) (xL2 : Int32) (xL4 : Int32), Sm p l e { frames := 1, cells := 0, slots := 0, locals := 23 } s m args below meth c G 5 (c_Q G c_vi below args s 0 0) 0 0 64 [(0, .ref aL0), (2, .int xL2), (4, .int xL4)] [] (fX10_nods_64 k65 aL0 xL2 xL4) := by
  intro aL0 xL2 xL4
  rw [fX10_nods_64]
  refine sm_iconst (v := 0) hO dX10_nods_64 rfl ?_
  exact sm_sub [0, 1, 2] rfl (hk65 aL0 xL2 xL4 0)
set_option maxRecDepth 100000 in
set_option maxHeartbeats 4000000 in
theorem tX10_nods_65 {p : Program} {l : Launch} {e : Env} {s : State} {m : MethodId} {args : Array Value} {below : List Frame} {meth : Method} {c : Code} {G : cG} (hO : c_Ok p s m c cX10_nods 5 RX10 G) (hr : meth.sig.returnType = (some .boolean)) (hk : meth.locks = false) (k27 : Nat → Int32 → Int32 → Int32 → MM Int32) (hk27 : ∀ (aL0 : Nat) (xL2 : Int32) (xL3 : Int32) (xL4 : Int32), Sm p l e { frames := 1, cells := 0, slots := 0, locals := 23 } s m args below meth c G 5 (c_Q G c_vi below args s 0 0) 0 0 27 [(0, .ref aL0), (2, .int xL2), (3, .int xL3), (4, .int xL4)] [] (k27 aL0 xL2 xL3 xL4))  : ∀ (aL0 : Nat) (xL2 : Int32) (xL4 : Int32) (xS0 : Int32), Sm p l e { frames := 1, cells := 0, slots := 0, locals := 23 } s m args below meth c G 5 (c_Q G c_vi below args s 0 0) 0 0 65 [(0, .ref aL0), (2, .int xL2), (4, .int xL4)] [.int xS0] (fX10_nods_65 k27 aL0 xL2 xL4 xS0) := by
  intro aL0 xL2 xL4 xS0
  rw [fX10_nods_65]
  refine sm_istore_n hO [(3, .int xS0), (0, .ref aL0), (2, .int xL2), (4, .int xL4)] dX10_nods_65 rfl (by decide) rfl ?_
  refine sm_iincL (v := xL4 + 1) hO 3 (fun x1 => [(4, .int x1), (3, .int xS0), (0, .ref aL0), (2, .int xL2)]) dX10_nods_66 rfl rfl (by decide) (fun _ => rfl) (fun x1 => ?_)
  refine sm_goto (tgt := 27) hO dX10_nods_69 (by decide) ?_
  exact sm_sub [2, 3, 1, 0] rfl (hk27 aL0 xL2 xS0 x1)
set_option maxRecDepth 100000 in
set_option maxHeartbeats 4000000 in
theorem tX10_nods_27 {p : Program} {l : Launch} {e : Env} {s : State} {m : MethodId} {args : Array Value} {below : List Frame} {meth : Method} {c : Code} {G : cG} (hO : c_Ok p s m c cX10_nods 5 RX10 G) (hr : meth.sig.returnType = (some .boolean)) (hk : meth.locks = false) : ∀ (n : Nat) (aL0 : Nat) (xL2 : Int32) (xL3 : Int32) (xL4 : Int32), Sm p l e { frames := 1, cells := 0, slots := 0, locals := 23 } s m args below meth c G 5 (c_Q G c_vi below args s 0 0) 0 0 27 [(0, .ref aL0), (2, .int xL2), (3, .int xL3), (4, .int xL4)] [] (fX10_nods_27 n aL0 xL2 xL3 xL4) := by
  intro n
  induction n with
  | zero =>
    intro aL0 xL2 xL3 xL4
    exact sm_bad
  | succ n ih =>
    intro aL0 xL2 xL3 xL4
    rw [fX10_nods_27]
    refine sm_iload hO 3 dX10_nods_27 rfl ?_
    refine sm_aload_n hO 0 dX10_nods_29 rfl rfl ?_
    refine sm_gi hO fl_RX10_79 dX10_nods_30 (fun x1 => ?_)
    refine sm_icmp_ge (tgt := 72) hO dX10_nods_33 (by decide) ?_ ?_
    · refine sm_iload_n hO 2 dX10_nods_72 rfl rfl ?_
      exact sm_rz hO hr hk (Nat.le_of_ble_eq_true rfl) (Nat.le_of_ble_eq_true rfl) dX10_nods_73
    · refine sm_iload_n hO 2 dX10_nods_36 rfl rfl ?_
      refine sm_if_eq (tgt := 64) hO dX10_nods_37 (by decide) ?_ ?_
      · exact sm_sub [0, 1, 3] rfl (tX10_nods_64 hO hr hk (fX10_nods_65 (fX10_nods_27 n)) (tX10_nods_65 hO hr hk (fX10_nods_27 n) ih) aL0 xL2 xL4)
      · refine sm_iload_n hO 1 dX10_nods_40 rfl rfl ?_
        refine sm_iload hO 3 dX10_nods_41 rfl ?_
        refine sm_csi hO (ctX10_has l G xL2 xL4) cw_RX10_175 kw_985 [] rfl rfl ⟨(Nat.le_of_ble_eq_true rfl), (Nat.le_of_ble_eq_true rfl)⟩ ⟨(Nat.le_of_ble_eq_true rfl), (Nat.le_of_ble_eq_true rfl)⟩ (Nat.le_of_ble_eq_true rfl) dX10_nods_43 (fun x2 => ?_)
        refine sm_if_eq (tgt := 60) hO dX10_nods_46 (by decide) ?_ ?_
        · exact sm_sub [0, 1, 3] rfl (tX10_nods_60 hO hr hk (fX10_nods_65 (fX10_nods_27 n)) (tX10_nods_65 hO hr hk (fX10_nods_27 n) ih) aL0 xL2 xL4)
        · refine sm_aload_n hO 0 dX10_nods_49 rfl rfl ?_
          refine sm_gr hO fl_RX10_13 dX10_nods_50 (fun a3 => ?_)
          refine sm_iload hO 3 dX10_nods_53 rfl ?_
          refine sm_li hO dX10_nods_55 (fun x4 => ?_)
          refine sm_iconst (v := 1) hO dX10_nods_56 rfl ?_
          refine sm_icmp_eq (tgt := 64) hO dX10_nods_57 (by decide) ?_ ?_
          · exact sm_sub [0, 1, 3] rfl (tX10_nods_64 hO hr hk (fX10_nods_65 (fX10_nods_27 n)) (tX10_nods_65 hO hr hk (fX10_nods_27 n) ih) aL0 xL2 xL4)
          · exact sm_sub [0, 1, 3] rfl (tX10_nods_60 hO hr hk (fX10_nods_65 (fX10_nods_27 n)) (tX10_nods_65 hO hr hk (fX10_nods_27 n) ih) aL0 xL2 xL4)
set_option maxRecDepth 100000 in
set_option maxHeartbeats 4000000 in
theorem tX10_nods_23 {p : Program} {l : Launch} {e : Env} {s : State} {m : MethodId} {args : Array Value} {below : List Frame} {meth : Method} {c : Code} {G : cG} (hO : c_Ok p s m c cX10_nods 5 RX10 G) (hr : meth.sig.returnType = (some .boolean)) (hk : meth.locks = false) : ∀ (aL0 : Nat) (xL2 : Int32) (xS0 : Int32), Sm p l e { frames := 1, cells := 0, slots := 0, locals := 23 } s m args below meth c G 5 (c_Q G c_vi below args s 0 0) 0 0 23 [(0, .ref aL0), (2, .int xL2)] [.int xS0] (fX10_nods_23 aL0 xL2 xS0) := by
  intro aL0 xL2 xS0
  rw [fX10_nods_23]
  refine sm_istore_n hO [(3, .int xS0), (0, .ref aL0), (2, .int xL2)] dX10_nods_23 rfl (by decide) rfl ?_
  refine sm_iconst (v := 0) hO dX10_nods_24 rfl ?_
  refine sm_istore hO [(4, .int 0), (3, .int xS0), (0, .ref aL0), (2, .int xL2)] dX10_nods_25 (by decide) rfl ?_
  exact sm_sub [2, 3, 1, 0] rfl (tX10_nods_27 hO hr hk c_fu aL0 xL2 xS0 0)
set_option maxRecDepth 100000 in
set_option maxHeartbeats 4000000 in
theorem ctX10_nods (l : Launch) (G : cG) (a0_ : Nat) (x1_ : Int32) : Ct l G yX10_nods cX10_nods 5 (some .boolean) 1 23 0 0 [.ref a0_, .int x1_] c_vi (pX10_nods a0_ x1_) := by
  refine Ct.of (lv := [(0, .ref a0_), (1, .int x1_)]) (by decide) (Nat.le_of_ble_eq_true rfl) rfl (fun p e s m args below meth c hO hr hk hin => ?_)
  rw [pX10_nods]
  refine sm_aload_n hO 0 dX10_nods_0 rfl rfl ?_
  refine sm_iload_n hO 1 dX10_nods_1 rfl rfl ?_
  refine sm_cvi hO (ctX10_whoIsAt l G a0_ x1_) cw_RX10_179 cv_X10_whoIsAt [] rfl rfl ⟨(Nat.le_of_ble_eq_true rfl), (Nat.le_of_ble_eq_true rfl)⟩ ⟨(Nat.le_of_ble_eq_true rfl), (Nat.le_of_ble_eq_true rfl)⟩ (Nat.le_of_ble_eq_true rfl) dX10_nods_2 (fun x1 => ?_)
  refine sm_aload_n hO 0 dX10_nods_5 rfl rfl ?_
  refine sm_gr hO fl_RX10_22 dX10_nods_6 (fun a2 => ?_)
  refine sm_bipush (v := 8) hO dX10_nods_9 rfl ?_
  refine sm_li hO dX10_nods_11 (fun x3 => ?_)
  refine sm_iand hO dX10_nods_12 ?_
  refine sm_topi (fun x4 => ?_)
  refine sm_istore_n hO [(2, .int x4), (0, .ref a0_), (1, .int x1_)] dX10_nods_13 rfl (by decide) rfl ?_
  refine sm_iload_n hO 0 dX10_nods_14 rfl rfl ?_
  refine sm_if_eq (tgt := 22) hO dX10_nods_15 (by decide) ?_ ?_
  · refine sm_iconst (v := 0) hO dX10_nods_22 rfl ?_
    exact sm_sub [1, 0] rfl (tX10_nods_23 hO hr hk a0_ x4 0)
  · refine sm_iconst (v := 1) hO dX10_nods_18 rfl ?_
    refine sm_goto (tgt := 23) hO dX10_nods_19 (by decide) ?_
    exact sm_sub [1, 0] rfl (tX10_nods_23 hO hr hk a0_ x4 1)
/-! DollCongressModel.noddingOnes()I -/
def fX10_noddingOnes_28 (k4 : Nat → Int32 → Int32 → MM Int32) (aL0 : Nat) (xL2 : Int32) (xS0 : Int32) (xS1 : Int32) : MM Int32 := m_let (xS1 ||| xS0) (fun x1 => m_let (xL2 + 1) (fun x2 => k4 aL0 x1 x2))
def fX10_noddingOnes_4  : Nat → Nat → Int32 → Int32 → MM Int32
  | 0, _, _, _ => m_bad
  | n + 1, aL0, xL1, xL2 => m_gi aL0 9 0 (fun x1 => if x1 ≤ xL2 then (m_ret xL1) else (m_cv aL0 9 (pX10_nods aL0 xL2) (fun x2 => if x2 = 0 then (fX10_noddingOnes_28 (fX10_noddingOnes_4 n) aL0 xL2 0 xL1) else (fX10_noddingOnes_28 (fX10_noddingOnes_4 n) aL0 xL2 ((1 : Int32) <<< (xL2 &&& 31)) xL1))))
def pX10_noddingOnes (a0_ : Nat) : MM Int32 := fX10_noddingOnes_4 c_fu a0_ 0 0
set_option maxRecDepth 100000 in
set_option maxHeartbeats 4000000 in
theorem tX10_noddingOnes_28 {p : Program} {l : Launch} {e : Env} {s : State} {m : MethodId} {args : Array Value} {below : List Frame} {meth : Method} {c : Code} {G : cG} (hO : c_Ok p s m c cX10_noddingOnes 3 RX10 G) (hr : meth.sig.returnType = (some .int)) (hk : meth.locks = false) (k4 : Nat → Int32 → Int32 → MM Int32) (hk4 : ∀ (aL0 : Nat) (xL1 : Int32) (xL2 : Int32), Sm p l e { frames := 2, cells := 0, slots := 0, locals := 47 } s m args below meth c G 3 (c_Q G c_vi below args s 0 0) 0 0 4 [(0, .ref aL0), (1, .int xL1), (2, .int xL2)] [] (k4 aL0 xL1 xL2))  : ∀ (aL0 : Nat) (xL2 : Int32) (xS0 : Int32) (xS1 : Int32), Sm p l e { frames := 2, cells := 0, slots := 0, locals := 47 } s m args below meth c G 3 (c_Q G c_vi below args s 0 0) 0 0 28 [(0, .ref aL0), (2, .int xL2)] [.int xS0, .int xS1] (fX10_noddingOnes_28 k4 aL0 xL2 xS0 xS1) := by
  intro aL0 xL2 xS0 xS1
  rw [fX10_noddingOnes_28]
  refine sm_ior hO dX10_noddingOnes_28 ?_
  refine sm_topi (fun x1 => ?_)
  refine sm_istore_n hO [(1, .int x1), (0, .ref aL0), (2, .int xL2)] dX10_noddingOnes_29 rfl (by decide) rfl ?_
  refine sm_iincL (v := xL2 + 1) hO 2 (fun x2 => [(2, .int x2), (1, .int x1), (0, .ref aL0)]) dX10_noddingOnes_30 rfl rfl (by decide) (fun _ => rfl) (fun x2 => ?_)
  refine sm_goto (tgt := 4) hO dX10_noddingOnes_33 (by decide) ?_
  exact sm_sub [2, 1, 0] rfl (hk4 aL0 x1 x2)
set_option maxRecDepth 100000 in
set_option maxHeartbeats 4000000 in
theorem tX10_noddingOnes_4 {p : Program} {l : Launch} {e : Env} {s : State} {m : MethodId} {args : Array Value} {below : List Frame} {meth : Method} {c : Code} {G : cG} (hO : c_Ok p s m c cX10_noddingOnes 3 RX10 G) (hr : meth.sig.returnType = (some .int)) (hk : meth.locks = false) : ∀ (n : Nat) (aL0 : Nat) (xL1 : Int32) (xL2 : Int32), Sm p l e { frames := 2, cells := 0, slots := 0, locals := 47 } s m args below meth c G 3 (c_Q G c_vi below args s 0 0) 0 0 4 [(0, .ref aL0), (1, .int xL1), (2, .int xL2)] [] (fX10_noddingOnes_4 n aL0 xL1 xL2) := by
  intro n
  induction n with
  | zero =>
    intro aL0 xL1 xL2
    exact sm_bad
  | succ n ih =>
    intro aL0 xL1 xL2
    rw [fX10_noddingOnes_4]
    refine sm_iload_n hO 2 dX10_noddingOnes_4 rfl rfl ?_
    refine sm_aload_n hO 0 dX10_noddingOnes_5 rfl rfl ?_
    refine sm_gi hO fl_RX10_72 dX10_noddingOnes_6 (fun x1 => ?_)
    refine sm_icmp_ge (tgt := 36) hO dX10_noddingOnes_9 (by decide) ?_ ?_
    · refine sm_iload_n hO 1 dX10_noddingOnes_36 rfl rfl ?_
      exact sm_iret hO hr hk (Nat.le_of_ble_eq_true rfl) (Nat.le_of_ble_eq_true rfl) dX10_noddingOnes_37
    · refine sm_iload_n hO 1 dX10_noddingOnes_12 rfl rfl ?_
      refine sm_aload_n hO 0 dX10_noddingOnes_13 rfl rfl ?_
      refine sm_iload_n hO 2 dX10_noddingOnes_14 rfl rfl ?_
      refine sm_cvi hO (ctX10_nods l G aL0 xL2) cw_RX10_182 cv_X10_nods [.int xL1] rfl rfl ⟨(Nat.le_of_ble_eq_true rfl), (Nat.le_of_ble_eq_true rfl)⟩ ⟨(Nat.le_of_ble_eq_true rfl), (Nat.le_of_ble_eq_true rfl)⟩ (Nat.le_of_ble_eq_true rfl) dX10_noddingOnes_15 (fun x2 => ?_)
      refine sm_if_eq (tgt := 27) hO dX10_noddingOnes_18 (by decide) ?_ ?_
      · refine sm_iconst (v := 0) hO dX10_noddingOnes_27 rfl ?_
        exact sm_sub [0, 2] rfl (tX10_noddingOnes_28 hO hr hk (fX10_noddingOnes_4 n) ih aL0 xL2 0 xL1)
      · refine sm_iconst (v := 1) hO dX10_noddingOnes_21 rfl ?_
        refine sm_iload_n hO 2 dX10_noddingOnes_22 rfl rfl ?_
        refine sm_ishl hO dX10_noddingOnes_23 ?_
        refine sm_goto (tgt := 28) hO dX10_noddingOnes_24 (by decide) ?_
        exact sm_sub [0, 2] rfl (tX10_noddingOnes_28 hO hr hk (fX10_noddingOnes_4 n) ih aL0 xL2 ((1 : Int32) <<< (xL2 &&& 31)) xL1)
set_option maxRecDepth 100000 in
set_option maxHeartbeats 4000000 in
theorem ctX10_noddingOnes (l : Launch) (G : cG) (a0_ : Nat) : Ct l G yX10_noddingOnes cX10_noddingOnes 3 (some .int) 2 47 0 0 [.ref a0_] c_vi (pX10_noddingOnes a0_) := by
  refine Ct.of (lv := [(0, .ref a0_)]) (by decide) (Nat.le_of_ble_eq_true rfl) rfl (fun p e s m args below meth c hO hr hk hin => ?_)
  rw [pX10_noddingOnes]
  refine sm_iconst (v := 0) hO dX10_noddingOnes_0 rfl ?_
  refine sm_istore_n hO [(1, .int 0), (0, .ref a0_)] dX10_noddingOnes_1 rfl (by decide) rfl ?_
  refine sm_iconst (v := 0) hO dX10_noddingOnes_2 rfl ?_
  refine sm_istore_n hO [(2, .int 0), (1, .int 0), (0, .ref a0_)] dX10_noddingOnes_3 rfl (by decide) rfl ?_
  exact sm_sub [2, 1, 0] rfl (tX10_noddingOnes_4 hO hr hk c_fu a0_ 0 0)
/-! DollCongressModel.tells(I)Z -/
def fX10_tells_64 (k69 : Nat → Int32 → Int32 → Int32 → Int32 → MM Int32) (aL0 : Nat) (xL1 : Int32) (xL3 : Int32) (xL4 : Int32) : MM Int32 := k69 aL0 xL1 xL3 xL4 1
def fX10_tells_68 (k69 : Nat → Int32 → Int32 → Int32 → Int32 → MM Int32) (aL0 : Nat) (xL1 : Int32) (xL3 : Int32) (xL4 : Int32) : MM Int32 := k69 aL0 xL1 xL3 xL4 0
def fX10_tells_69 (k17 : Nat → Int32 → Int32 → Int32 → Int32 → MM Int32) (aL0 : Nat) (xL1 : Int32) (xL3 : Int32) (xL4 : Int32) (xS0 : Int32) : MM Int32 := m_let (xL4 + 1) (fun x1 => k17 aL0 xL1 xS0 xL3 x1)
def fX10_tells_17 (k76 : Nat → Int32 → Int32 → Int32 → MM Int32) : Nat → Nat → Int32 → Int32 → Int32 → Int32 → MM Int32
  | 0, _, _, _, _, _ => m_bad
  | n + 1, aL0, xL1, xL2, xL3, xL4 => m_gi aL0 9 2 (fun x1 => if x1 ≤ xL4 then (k76 aL0 xL1 xL2 xL3) else (m_gr aL0 9 8 (fun a2 => m_li 0 a2 ((17 : Int32) + xL3) (fun x3 => m_gr aL0 9 8 (fun a4 => m_li 0 a4 ((17 : Int32) + xL4) (fun x5 => m_let (x3 ^^^ x5) (fun x6 => if xL2 = 0 then (fX10_tells_68 (fX10_tells_69 (fX10_tells_17 k76 n)) aL0 xL1 xL3 xL4) else (if x6 = 0 then (fX10_tells_64 (fX10_tells_69 (fX10_tells_17 k76 n)) aL0 xL1 xL3 xL4) else (if (x6 &&& xL1) = 0 then (fX10_tells_68 (fX10_tells_69 (fX10_tells_17 k76 n)) aL0 xL1 xL3 xL4) else (fX10_tells_64 (fX10_tells_69 (fX10_tells_17 k76 n)) aL0 xL1 xL3 xL4))))))))))
def fX10_tells_76 (k4 : Nat → Int32 → Int32 → Int32 → MM Int32) (aL0 : Nat) (xL1 : Int32) (xL2 : Int32) (xL3 : Int32) : MM Int32 := m_let (xL3 + 1) (fun x1 => k4 aL0 xL1 xL2 x1)
def fX10_tells_4  : Nat → Nat → Int32 → Int32 → Int32 → MM Int32
  | 0, _, _, _, _ => m_bad
  | n + 1, aL0, xL1, xL2, xL3 => m_gi aL0 9 2 (fun x1 => if x1 ≤ xL3 then (m_rz xL2) else (m_let (xL3 + 1) (fun x2 => fX10_tells_17 (fX10_tells_76 (fX10_tells_4 n)) c_fu aL0 xL1 xL2 xL3 x2)))
def pX10_tells (a0_ : Nat) (x1_ : Int32) : MM Int32 := fX10_tells_4 c_fu a0_ x1_ 1 0
set_option maxRecDepth 100000 in
set_option maxHeartbeats 4000000 in
theorem tX10_tells_64 {p : Program} {l : Launch} {e : Env} {s : State} {m : MethodId} {args : Array Value} {below : List Frame} {meth : Method} {c : Code} {G : cG} (hO : c_Ok p s m c cX10_tells 6 RX10 G) (hr : meth.sig.returnType = (some .boolean)) (hk : meth.locks = false) (k69 : Nat → Int32 → Int32 → Int32 → Int32 → MM Int32) (hk69 : ∀ (aL0 : Nat) (xL1 : Int32) (xL3 : Int32) (xL4 : Int32) (xS0 : Int32), Sm p l e { frames := 0, cells := 0, slots := 0, locals := 0 } s m args below meth c G 6 (c_Q G c_vi below args s 0 0) 0 0 69 [(0, .ref aL0), (1, .int xL1), (3, .int xL3), (4, .int xL4)] [.int xS0] (k69 aL0 xL1 xL3 xL4 xS0))  : ∀ (aL0 : Nat) (xL1 : Int32) (xL3 : Int32) (xL4 : Int32), Sm p l e { frames := 0, cells := 0, slots := 0, locals := 0 } s m args below meth c G 6 (c_Q G c_vi below args s 0 0) 0 0 64 [(0, .ref aL0), (1, .int xL1), (3, .int xL3), (4, .int xL4)] [] (fX10_tells_64 k69 aL0 xL1 xL3 xL4) := by
  intro aL0 xL1 xL3 xL4
  rw [fX10_tells_64]
  refine sm_iconst (v := 1) hO dX10_tells_64 rfl ?_
  refine sm_goto (tgt := 69) hO dX10_tells_65 (by decide) ?_
  exact sm_sub [0, 1, 2, 3] rfl (hk69 aL0 xL1 xL3 xL4 1)
set_option maxRecDepth 100000 in
set_option maxHeartbeats 4000000 in
theorem tX10_tells_68 {p : Program} {l : Launch} {e : Env} {s : State} {m : MethodId} {args : Array Value} {below : List Frame} {meth : Method} {c : Code} {G : cG} (hO : c_Ok p s m c cX10_tells 6 RX10 G) (hr : meth.sig.returnType = (some .boolean)) (hk : meth.locks = false) (k69 : Nat → Int32 → Int32 → Int32 → Int32 → MM Int32) (hk69 : ∀ (aL0 : Nat) (xL1 : Int32) (xL3 : Int32) (xL4 : Int32) (xS0 : Int32), Sm p l e { frames := 0, cells := 0, slots := 0, locals := 0 } s m args below meth c G 6 (c_Q G c_vi below args s 0 0) 0 0 69 [(0, .ref aL0), (1, .int xL1), (3, .int xL3), (4, .int xL4)] [.int xS0] (k69 aL0 xL1 xL3 xL4 xS0))  : ∀ (aL0 : Nat) (xL1 : Int32) (xL3 : Int32) (xL4 : Int32), Sm p l e { frames := 0, cells := 0, slots := 0, locals := 0 } s m args below meth c G 6 (c_Q G c_vi below args s 0 0) 0 0 68 [(0, .ref aL0), (1, .int xL1), (3, .int xL3), (4, .int xL4)] [] (fX10_tells_68 k69 aL0 xL1 xL3 xL4) := by
  intro aL0 xL1 xL3 xL4
  rw [fX10_tells_68]
  refine sm_iconst (v := 0) hO dX10_tells_68 rfl ?_
  exact sm_sub [0, 1, 2, 3] rfl (hk69 aL0 xL1 xL3 xL4 0)
set_option maxRecDepth 100000 in
set_option maxHeartbeats 4000000 in
theorem tX10_tells_69 {p : Program} {l : Launch} {e : Env} {s : State} {m : MethodId} {args : Array Value} {below : List Frame} {meth : Method} {c : Code} {G : cG} (hO : c_Ok p s m c cX10_tells 6 RX10 G) (hr : meth.sig.returnType = (some .boolean)) (hk : meth.locks = false) (k17 : Nat → Int32 → Int32 → Int32 → Int32 → MM Int32) (hk17 : ∀ (aL0 : Nat) (xL1 : Int32) (xL2 : Int32) (xL3 : Int32) (xL4 : Int32), Sm p l e { frames := 0, cells := 0, slots := 0, locals := 0 } s m args below meth c G 6 (c_Q G c_vi below args s 0 0) 0 0 17 [(0, .ref aL0), (1, .int xL1), (2, .int xL2), (3, .int xL3), (4, .int xL4)] [] (k17 aL0 xL1 xL2 xL3 xL4))  : ∀ (aL0 : Nat) (xL1 : Int32) (xL3 : Int32) (xL4 : Int32) (xS0 : Int32), Sm p l e { frames := 0, cells := 0, slots := 0, locals := 0 } s m args below meth c G 6 (c_Q G c_vi below args s 0 0) 0 0 69 [(0, .ref aL0), (1, .int xL1), (3, .int xL3), (4, .int xL4)] [.int xS0] (fX10_tells_69 k17 aL0 xL1 xL3 xL4 xS0) := by
  intro aL0 xL1 xL3 xL4 xS0
  rw [fX10_tells_69]
  refine sm_istore_n hO [(2, .int xS0), (0, .ref aL0), (1, .int xL1), (3, .int xL3), (4, .int xL4)] dX10_tells_69 rfl (by decide) rfl ?_
  refine sm_iincL (v := xL4 + 1) hO 4 (fun x1 => [(4, .int x1), (2, .int xS0), (0, .ref aL0), (1, .int xL1), (3, .int xL3)]) dX10_tells_70 rfl rfl (by decide) (fun _ => rfl) (fun x1 => ?_)
  refine sm_goto (tgt := 17) hO dX10_tells_73 (by decide) ?_
  exact sm_sub [2, 3, 1, 4, 0] rfl (hk17 aL0 xL1 xS0 xL3 x1)
set_option maxRecDepth 100000 in
set_option maxHeartbeats 4000000 in
theorem tX10_tells_17 {p : Program} {l : Launch} {e : Env} {s : State} {m : MethodId} {args : Array Value} {below : List Frame} {meth : Method} {c : Code} {G : cG} (hO : c_Ok p s m c cX10_tells 6 RX10 G) (hr : meth.sig.returnType = (some .boolean)) (hk : meth.locks = false) (k76 : Nat → Int32 → Int32 → Int32 → MM Int32) (hk76 : ∀ (aL0 : Nat) (xL1 : Int32) (xL2 : Int32) (xL3 : Int32), Sm p l e { frames := 0, cells := 0, slots := 0, locals := 0 } s m args below meth c G 6 (c_Q G c_vi below args s 0 0) 0 0 76 [(0, .ref aL0), (1, .int xL1), (2, .int xL2), (3, .int xL3)] [] (k76 aL0 xL1 xL2 xL3))  : ∀ (n : Nat) (aL0 : Nat) (xL1 : Int32) (xL2 : Int32) (xL3 : Int32) (xL4 : Int32), Sm p l e { frames := 0, cells := 0, slots := 0, locals := 0 } s m args below meth c G 6 (c_Q G c_vi below args s 0 0) 0 0 17 [(0, .ref aL0), (1, .int xL1), (2, .int xL2), (3, .int xL3), (4, .int xL4)] [] (fX10_tells_17 k76 n aL0 xL1 xL2 xL3 xL4) := by
  intro n
  induction n with
  | zero =>
    intro aL0 xL1 xL2 xL3 xL4
    exact sm_bad
  | succ n ih =>
    intro aL0 xL1 xL2 xL3 xL4
    rw [fX10_tells_17]
    refine sm_iload hO 4 dX10_tells_17 rfl ?_
    refine sm_aload_n hO 0 dX10_tells_19 rfl rfl ?_
    refine sm_gi hO fl_RX10_79 dX10_tells_20 (fun x1 => ?_)
    refine sm_icmp_ge (tgt := 76) hO dX10_tells_23 (by decide) ?_ ?_
    · exact sm_sub [0, 1, 2, 3] rfl (hk76 aL0 xL1 xL2 xL3)
    · refine sm_aload_n hO 0 dX10_tells_26 rfl rfl ?_
      refine sm_gr hO fl_RX10_22 dX10_tells_27 (fun a2 => ?_)
      refine sm_bipush (v := 17) hO dX10_tells_30 rfl ?_
      refine sm_iload_n hO 3 dX10_tells_32 rfl rfl ?_
      refine sm_iadd hO dX10_tells_33 ?_
      refine sm_li hO dX10_tells_34 (fun x3 => ?_)
      refine sm_aload_n hO 0 dX10_tells_35 rfl rfl ?_
      refine sm_gr hO fl_RX10_22 dX10_tells_36 (fun a4 => ?_)
      refine sm_bipush (v := 17) hO dX10_tells_39 rfl ?_
      refine sm_iload hO 4 dX10_tells_41 rfl ?_
      refine sm_iadd hO dX10_tells_43 ?_
      refine sm_li hO dX10_tells_44 (fun x5 => ?_)
      refine sm_ixor hO dX10_tells_45 ?_
      refine sm_topi (fun x6 => ?_)
      refine sm_istore hO [(5, .int x6), (0, .ref aL0), (1, .int xL1), (2, .int xL2), (3, .int xL3), (4, .int xL4)] dX10_tells_46 (by decide) rfl ?_
      refine sm_iload_n hO 3 dX10_tells_48 rfl rfl ?_
      refine sm_if_eq (tgt := 68) hO dX10_tells_49 (by decide) ?_ ?_
      · exact sm_sub [1, 2, 4, 5] rfl (tX10_tells_68 hO hr hk (fX10_tells_69 (fX10_tells_17 k76 n)) (tX10_tells_69 hO hr hk (fX10_tells_17 k76 n) ih) aL0 xL1 xL3 xL4)
      · refine sm_iload hO 0 dX10_tells_52 rfl ?_
        refine sm_if_eq (tgt := 64) hO dX10_tells_54 (by decide) ?_ ?_
        · exact sm_sub [1, 2, 4, 5] rfl (tX10_tells_64 hO hr hk (fX10_tells_69 (fX10_tells_17 k76 n)) (tX10_tells_69 hO hr hk (fX10_tells_17 k76 n) ih) aL0 xL1 xL3 xL4)
        · refine sm_iload hO 0 dX10_tells_57 rfl ?_
          refine sm_iload_n hO 2 dX10_tells_59 rfl rfl ?_
          refine sm_iand hO dX10_tells_60 ?_
          refine sm_if_eq (tgt := 68) hO dX10_tells_61 (by decide) ?_ ?_
          · exact sm_sub [1, 2, 4, 5] rfl (tX10_tells_68 hO hr hk (fX10_tells_69 (fX10_tells_17 k76 n)) (tX10_tells_69 hO hr hk (fX10_tells_17 k76 n) ih) aL0 xL1 xL3 xL4)
          · exact sm_sub [1, 2, 4, 5] rfl (tX10_tells_64 hO hr hk (fX10_tells_69 (fX10_tells_17 k76 n)) (tX10_tells_69 hO hr hk (fX10_tells_17 k76 n) ih) aL0 xL1 xL3 xL4)
set_option maxRecDepth 100000 in
set_option maxHeartbeats 4000000 in
theorem tX10_tells_76 {p : Program} {l : Launch} {e : Env} {s : State} {m : MethodId} {args : Array Value} {below : List Frame} {meth : Method} {c : Code} {G : cG} (hO : c_Ok p s m c cX10_tells 6 RX10 G) (hr : meth.sig.returnType = (some .boolean)) (hk : meth.locks = false) (k4 : Nat → Int32 → Int32 → Int32 → MM Int32) (hk4 : ∀ (aL0 : Nat) (xL1 : Int32) (xL2 : Int32) (xL3 : Int32), Sm p l e { frames := 0, cells := 0, slots := 0, locals := 0 } s m args below meth c G 6 (c_Q G c_vi below args s 0 0) 0 0 4 [(0, .ref aL0), (1, .int xL1), (2, .int xL2), (3, .int xL3)] [] (k4 aL0 xL1 xL2 xL3))  : ∀ (aL0 : Nat) (xL1 : Int32) (xL2 : Int32) (xL3 : Int32), Sm p l e { frames := 0, cells := 0, slots := 0, locals := 0 } s m args below meth c G 6 (c_Q G c_vi below args s 0 0) 0 0 76 [(0, .ref aL0), (1, .int xL1), (2, .int xL2), (3, .int xL3)] [] (fX10_tells_76 k4 aL0 xL1 xL2 xL3) := by
  intro aL0 xL1 xL2 xL3
  rw [fX10_tells_76]
  refine sm_iincL (v := xL3 + 1) hO 3 (fun x1 => [(3, .int x1), (0, .ref aL0), (1, .int xL1), (2, .int xL2)]) dX10_tells_76 rfl rfl (by decide) (fun _ => rfl) (fun x1 => ?_)
  refine sm_goto (tgt := 4) hO dX10_tells_79 (by decide) ?_
  exact sm_sub [1, 2, 3, 0] rfl (hk4 aL0 xL1 xL2 x1)
set_option maxRecDepth 100000 in
set_option maxHeartbeats 4000000 in
theorem tX10_tells_4 {p : Program} {l : Launch} {e : Env} {s : State} {m : MethodId} {args : Array Value} {below : List Frame} {meth : Method} {c : Code} {G : cG} (hO : c_Ok p s m c cX10_tells 6 RX10 G) (hr : meth.sig.returnType = (some .boolean)) (hk : meth.locks = false) : ∀ (n : Nat) (aL0 : Nat) (xL1 : Int32) (xL2 : Int32) (xL3 : Int32), Sm p l e { frames := 0, cells := 0, slots := 0, locals := 0 } s m args below meth c G 6 (c_Q G c_vi below args s 0 0) 0 0 4 [(0, .ref aL0), (1, .int xL1), (2, .int xL2), (3, .int xL3)] [] (fX10_tells_4 n aL0 xL1 xL2 xL3) := by
  intro n
  induction n with
  | zero =>
    intro aL0 xL1 xL2 xL3
    exact sm_bad
  | succ n ih =>
    intro aL0 xL1 xL2 xL3
    rw [fX10_tells_4]
    refine sm_iload_n hO 3 dX10_tells_4 rfl rfl ?_
    refine sm_aload_n hO 0 dX10_tells_5 rfl rfl ?_
    refine sm_gi hO fl_RX10_79 dX10_tells_6 (fun x1 => ?_)
    refine sm_icmp_ge (tgt := 82) hO dX10_tells_9 (by decide) ?_ ?_
    · refine sm_iload_n hO 2 dX10_tells_82 rfl rfl ?_
      exact sm_rz hO hr hk (Nat.le_of_ble_eq_true rfl) (Nat.le_of_ble_eq_true rfl) dX10_tells_83
    · refine sm_iload_n hO 3 dX10_tells_12 rfl rfl ?_
      refine sm_iconst (v := 1) hO dX10_tells_13 rfl ?_
      refine sm_iadd hO dX10_tells_14 ?_
      refine sm_topi (fun x2 => ?_)
      refine sm_istore hO [(4, .int x2), (0, .ref aL0), (1, .int xL1), (2, .int xL2), (3, .int xL3)] dX10_tells_15 (by decide) rfl ?_
      exact sm_sub [1, 2, 3, 4, 0] rfl (tX10_tells_17 hO hr hk (fX10_tells_76 (fX10_tells_4 n)) (tX10_tells_76 hO hr hk (fX10_tells_4 n) ih) c_fu aL0 xL1 xL2 xL3 x2)
set_option maxRecDepth 100000 in
set_option maxHeartbeats 4000000 in
theorem ctX10_tells (l : Launch) (G : cG) (a0_ : Nat) (x1_ : Int32) : Ct l G yX10_tells cX10_tells 6 (some .boolean) 0 0 0 0 [.ref a0_, .int x1_] c_vi (pX10_tells a0_ x1_) := by
  refine Ct.of (lv := [(0, .ref a0_), (1, .int x1_)]) (by decide) (Nat.le_of_ble_eq_true rfl) rfl (fun p e s m args below meth c hO hr hk hin => ?_)
  rw [pX10_tells]
  refine sm_iconst (v := 1) hO dX10_tells_0 rfl ?_
  refine sm_istore_n hO [(2, .int 1), (0, .ref a0_), (1, .int x1_)] dX10_tells_1 rfl (by decide) rfl ?_
  refine sm_iconst (v := 0) hO dX10_tells_2 rfl ?_
  refine sm_istore_n hO [(3, .int 0), (2, .int 1), (0, .ref a0_), (1, .int x1_)] dX10_tells_3 rfl (by decide) rfl ?_
  exact sm_sub [2, 3, 1, 0] rfl (tX10_tells_4 hO hr hk c_fu a0_ x1_ 1 0)
/-! DollCongressModel.tellingOnes()I -/
def fX10_tellingOnes_34 (k35 : Nat → Int32 → Int32 → MM Int32) (aL0 : Nat) (xL1 : Int32) (xL2 : Int32) : MM Int32 := k35 aL0 xL2 xL1
def fX10_tellingOnes_35 (k5 : Nat → Int32 → Int32 → MM Int32) (aL0 : Nat) (xL2 : Int32) (xS0 : Int32) : MM Int32 := m_let (xL2 + 1) (fun x1 => k5 aL0 xS0 x1)
def fX10_tellingOnes_5  : Nat → Nat → Int32 → Int32 → MM Int32
  | 0, _, _, _ => m_bad
  | n + 1, aL0, xL1, xL2 => if (64 : Int32) ≤ xL2 then (m_ret xL1) else (m_bind (pX10_bits xL2) (fun x1 => m_bind (pX10_bits xL1) (fun x2 => if x2 ≤ x1 then (fX10_tellingOnes_34 (fX10_tellingOnes_35 (fX10_tellingOnes_5 n)) aL0 xL1 xL2) else (m_cv aL0 9 (pX10_tells aL0 xL2) (fun x3 => if x3 = 0 then (fX10_tellingOnes_34 (fX10_tellingOnes_35 (fX10_tellingOnes_5 n)) aL0 xL1 xL2) else (fX10_tellingOnes_35 (fX10_tellingOnes_5 n) aL0 xL2 xL2))))))
def pX10_tellingOnes (a0_ : Nat) : MM Int32 := fX10_tellingOnes_5 c_fu a0_ 63 0
set_option maxRecDepth 100000 in
set_option maxHeartbeats 4000000 in
theorem tX10_tellingOnes_34 {p : Program} {l : Launch} {e : Env} {s : State} {m : MethodId} {args : Array Value} {below : List Frame} {meth : Method} {c : Code} {G : cG} (hO : c_Ok p s m c cX10_tellingOnes 3 RX10 G) (hr : meth.sig.returnType = (some .int)) (hk : meth.locks = false) (k35 : Nat → Int32 → Int32 → MM Int32) (hk35 : ∀ (aL0 : Nat) (xL2 : Int32) (xS0 : Int32), Sm p l e { frames := 1, cells := 0, slots := 0, locals := 25 } s m args below meth c G 3 (c_Q G c_vi below args s 0 0) 0 0 35 [(0, .ref aL0), (2, .int xL2)] [.int xS0] (k35 aL0 xL2 xS0))  : ∀ (aL0 : Nat) (xL1 : Int32) (xL2 : Int32), Sm p l e { frames := 1, cells := 0, slots := 0, locals := 25 } s m args below meth c G 3 (c_Q G c_vi below args s 0 0) 0 0 34 [(0, .ref aL0), (1, .int xL1), (2, .int xL2)] [] (fX10_tellingOnes_34 k35 aL0 xL1 xL2) := by
  intro aL0 xL1 xL2
  rw [fX10_tellingOnes_34]
  refine sm_iload_n hO 1 dX10_tellingOnes_34 rfl rfl ?_
  exact sm_sub [0, 2] rfl (hk35 aL0 xL2 xL1)
set_option maxRecDepth 100000 in
set_option maxHeartbeats 4000000 in
theorem tX10_tellingOnes_35 {p : Program} {l : Launch} {e : Env} {s : State} {m : MethodId} {args : Array Value} {below : List Frame} {meth : Method} {c : Code} {G : cG} (hO : c_Ok p s m c cX10_tellingOnes 3 RX10 G) (hr : meth.sig.returnType = (some .int)) (hk : meth.locks = false) (k5 : Nat → Int32 → Int32 → MM Int32) (hk5 : ∀ (aL0 : Nat) (xL1 : Int32) (xL2 : Int32), Sm p l e { frames := 1, cells := 0, slots := 0, locals := 25 } s m args below meth c G 3 (c_Q G c_vi below args s 0 0) 0 0 5 [(0, .ref aL0), (1, .int xL1), (2, .int xL2)] [] (k5 aL0 xL1 xL2))  : ∀ (aL0 : Nat) (xL2 : Int32) (xS0 : Int32), Sm p l e { frames := 1, cells := 0, slots := 0, locals := 25 } s m args below meth c G 3 (c_Q G c_vi below args s 0 0) 0 0 35 [(0, .ref aL0), (2, .int xL2)] [.int xS0] (fX10_tellingOnes_35 k5 aL0 xL2 xS0) := by
  intro aL0 xL2 xS0
  rw [fX10_tellingOnes_35]
  refine sm_istore_n hO [(1, .int xS0), (0, .ref aL0), (2, .int xL2)] dX10_tellingOnes_35 rfl (by decide) rfl ?_
  refine sm_iincL (v := xL2 + 1) hO 2 (fun x1 => [(2, .int x1), (1, .int xS0), (0, .ref aL0)]) dX10_tellingOnes_36 rfl rfl (by decide) (fun _ => rfl) (fun x1 => ?_)
  refine sm_goto (tgt := 5) hO dX10_tellingOnes_39 (by decide) ?_
  exact sm_sub [2, 1, 0] rfl (hk5 aL0 xS0 x1)
set_option maxRecDepth 100000 in
set_option maxHeartbeats 4000000 in
theorem tX10_tellingOnes_5 {p : Program} {l : Launch} {e : Env} {s : State} {m : MethodId} {args : Array Value} {below : List Frame} {meth : Method} {c : Code} {G : cG} (hO : c_Ok p s m c cX10_tellingOnes 3 RX10 G) (hr : meth.sig.returnType = (some .int)) (hk : meth.locks = false) : ∀ (n : Nat) (aL0 : Nat) (xL1 : Int32) (xL2 : Int32), Sm p l e { frames := 1, cells := 0, slots := 0, locals := 25 } s m args below meth c G 3 (c_Q G c_vi below args s 0 0) 0 0 5 [(0, .ref aL0), (1, .int xL1), (2, .int xL2)] [] (fX10_tellingOnes_5 n aL0 xL1 xL2) := by
  intro n
  induction n with
  | zero =>
    intro aL0 xL1 xL2
    exact sm_bad
  | succ n ih =>
    intro aL0 xL1 xL2
    rw [fX10_tellingOnes_5]
    refine sm_iload_n hO 2 dX10_tellingOnes_5 rfl rfl ?_
    refine sm_bipush (v := 64) hO dX10_tellingOnes_6 rfl ?_
    refine sm_icmp_ge (tgt := 42) hO dX10_tellingOnes_8 (by decide) ?_ ?_
    · refine sm_iload_n hO 1 dX10_tellingOnes_42 rfl rfl ?_
      exact sm_iret hO hr hk (Nat.le_of_ble_eq_true rfl) (Nat.le_of_ble_eq_true rfl) dX10_tellingOnes_43
    · refine sm_iload_n hO 2 dX10_tellingOnes_11 rfl rfl ?_
      refine sm_csi hO (ctX10_bits l G xL2) cw_RX10_188 kw_1004 [] rfl rfl ⟨(Nat.le_of_ble_eq_true rfl), (Nat.le_of_ble_eq_true rfl)⟩ ⟨(Nat.le_of_ble_eq_true rfl), (Nat.le_of_ble_eq_true rfl)⟩ (Nat.le_of_ble_eq_true rfl) dX10_tellingOnes_12 (fun x1 => ?_)
      refine sm_iload_n hO 1 dX10_tellingOnes_15 rfl rfl ?_
      refine sm_csi hO (ctX10_bits l G xL1) cw_RX10_188 kw_1004 [.int x1] rfl rfl ⟨(Nat.le_of_ble_eq_true rfl), (Nat.le_of_ble_eq_true rfl)⟩ ⟨(Nat.le_of_ble_eq_true rfl), (Nat.le_of_ble_eq_true rfl)⟩ (Nat.le_of_ble_eq_true rfl) dX10_tellingOnes_16 (fun x2 => ?_)
      refine sm_icmp_ge (tgt := 34) hO dX10_tellingOnes_19 (by decide) ?_ ?_
      · exact sm_sub [0, 1, 2] rfl (tX10_tellingOnes_34 hO hr hk (fX10_tellingOnes_35 (fX10_tellingOnes_5 n)) (tX10_tellingOnes_35 hO hr hk (fX10_tellingOnes_5 n) ih) aL0 xL1 xL2)
      · refine sm_aload_n hO 0 dX10_tellingOnes_22 rfl rfl ?_
        refine sm_iload_n hO 2 dX10_tellingOnes_23 rfl rfl ?_
        refine sm_cvi hO (ctX10_tells l G aL0 xL2) cw_RX10_194 cv_X10_tells [] rfl rfl ⟨(Nat.le_of_ble_eq_true rfl), (Nat.le_of_ble_eq_true rfl)⟩ ⟨(Nat.le_of_ble_eq_true rfl), (Nat.le_of_ble_eq_true rfl)⟩ (Nat.le_of_ble_eq_true rfl) dX10_tellingOnes_24 (fun x3 => ?_)
        refine sm_if_eq (tgt := 34) hO dX10_tellingOnes_27 (by decide) ?_ ?_
        · exact sm_sub [0, 1, 2] rfl (tX10_tellingOnes_34 hO hr hk (fX10_tellingOnes_35 (fX10_tellingOnes_5 n)) (tX10_tellingOnes_35 hO hr hk (fX10_tellingOnes_5 n) ih) aL0 xL1 xL2)
        · refine sm_iload_n hO 2 dX10_tellingOnes_30 rfl rfl ?_
          refine sm_goto (tgt := 35) hO dX10_tellingOnes_31 (by decide) ?_
          exact sm_sub [0, 2] rfl (tX10_tellingOnes_35 hO hr hk (fX10_tellingOnes_5 n) ih aL0 xL2 xL2)
set_option maxRecDepth 100000 in
set_option maxHeartbeats 4000000 in
theorem ctX10_tellingOnes (l : Launch) (G : cG) (a0_ : Nat) : Ct l G yX10_tellingOnes cX10_tellingOnes 3 (some .int) 1 25 0 0 [.ref a0_] c_vi (pX10_tellingOnes a0_) := by
  refine Ct.of (lv := [(0, .ref a0_)]) (by decide) (Nat.le_of_ble_eq_true rfl) rfl (fun p e s m args below meth c hO hr hk hin => ?_)
  rw [pX10_tellingOnes]
  refine sm_bipush (v := 63) hO dX10_tellingOnes_0 rfl ?_
  refine sm_istore_n hO [(1, .int 63), (0, .ref a0_)] dX10_tellingOnes_2 rfl (by decide) rfl ?_
  refine sm_iconst (v := 0) hO dX10_tellingOnes_3 rfl ?_
  refine sm_istore_n hO [(2, .int 0), (1, .int 63), (0, .ref a0_)] dX10_tellingOnes_4 rfl (by decide) rfl ?_
  exact sm_sub [2, 1, 0] rfl (tX10_tellingOnes_5 hO hr hk c_fu a0_ 63 0)
