/-! DollCongress$Mixings.leastPair(I)I -/
def fX2_leastPair_45 (k4 : Nat → Int32 → Int32 → Int32 → MM Int32) (aL0 : Nat) (xL1 : Int32) (xL2 : Int32) (xL3 : Int32) : MM Int32 := m_let (xL3 + 1) (fun x1 => k4 aL0 xL1 xL2 x1)
def fX2_leastPair_4 (k26 : Nat → Int32 → Int32 → MM Int32) : Nat → Nat → Int32 → Int32 → Int32 → MM Int32
  | 0, _, _, _, _ => m_bad
  | n + 1, aL0, xL1, xL2, xL3 => m_gi aL0 2 4 (fun x1 => if x1 ≤ xL3 then (m_ret ((-1) : Int32)) else (if ((xL1 >>> (xL3 &&& 31)) &&& 1) = (1 : Int32) then (if xL2 = ((-1) : Int32) then (m_gr aL0 2 0 (fun a2 => m_li 0 a2 xL3 (fun x3 => fX2_leastPair_45 (fX2_leastPair_4 k26 n) aL0 xL1 x3 xL3))) else (k26 aL0 xL2 xL3)) else (fX2_leastPair_45 (fX2_leastPair_4 k26 n) aL0 xL1 xL2 xL3)))
def fX2_leastPair_26  (aL0 : Nat) (xL2 : Int32) (xL3 : Int32) : MM Int32 := m_gr aL0 2 0 (fun a1 => m_li 0 a1 xL3 (fun x2 => m_ret (((10 : Int32) * xL2) + x2)))
def pX2_leastPair (a0_ : Nat) (x1_ : Int32) : MM Int32 := fX2_leastPair_4 fX2_leastPair_26 c_fu a0_ x1_ ((-1)) 0
set_option maxRecDepth 100000 in
set_option maxHeartbeats 4000000 in
theorem tX2_leastPair_45 {p : Program} {l : Launch} {e : Env} {s : State} {m : MethodId} {args : Array Value} {below : List Frame} {meth : Method} {c : Code} {G : cG} (hO : c_Ok p s m c cX2_leastPair 4 RX2 G) (hr : meth.sig.returnType = (some .int)) (hk : meth.locks = false) (k4 : Nat → Int32 → Int32 → Int32 → MM Int32) (hk4 : ∀ (aL0 : Nat) (xL1 : Int32) (xL2 : Int32) (xL3 : Int32), Sm p l e { frames := 0, cells := 0, slots := 0, locals := 0 } s m args below meth c G 4 (c_Q G c_vi below args s 0 0) 0 0 4 [(0, .ref aL0), (1, .int xL1), (2, .int xL2), (3, .int xL3)] [] (k4 aL0 xL1 xL2 xL3))  : ∀ (aL0 : Nat) (xL1 : Int32) (xL2 : Int32) (xL3 : Int32), Sm p l e { frames := 0, cells := 0, slots := 0, locals := 0 } s m args below meth c G 4 (c_Q G c_vi below args s 0 0) 0 0 45 [(0, .ref aL0), (1, .int xL1), (2, .int xL2), (3, .int xL3)] [] (fX2_leastPair_45 k4 aL0 xL1 xL2 xL3) := by
  intro aL0 xL1 xL2 xL3
  rw [fX2_leastPair_45]
  refine sm_iincL (v := xL3 + 1) hO 3 (fun x1 => [(3, .int x1), (0, .ref aL0), (1, .int xL1), (2, .int xL2)]) dX2_leastPair_45 rfl rfl (by decide) (fun _ => rfl) (fun x1 => ?_)
  refine sm_goto (tgt := 4) hO dX2_leastPair_48 (by decide) ?_
  exact sm_sub [1, 2, 3, 0] rfl (hk4 aL0 xL1 xL2 x1)
set_option maxRecDepth 100000 in
set_option maxHeartbeats 4000000 in
theorem tX2_leastPair_4 {p : Program} {l : Launch} {e : Env} {s : State} {m : MethodId} {args : Array Value} {below : List Frame} {meth : Method} {c : Code} {G : cG} (hO : c_Ok p s m c cX2_leastPair 4 RX2 G) (hr : meth.sig.returnType = (some .int)) (hk : meth.locks = false) (k26 : Nat → Int32 → Int32 → MM Int32) (hk26 : ∀ (aL0 : Nat) (xL2 : Int32) (xL3 : Int32), Sm p l e { frames := 0, cells := 0, slots := 0, locals := 0 } s m args below meth c G 4 (c_Q G c_vi below args s 0 0) 0 0 26 [(0, .ref aL0), (2, .int xL2), (3, .int xL3)] [] (k26 aL0 xL2 xL3))  : ∀ (n : Nat) (aL0 : Nat) (xL1 : Int32) (xL2 : Int32) (xL3 : Int32), Sm p l e { frames := 0, cells := 0, slots := 0, locals := 0 } s m args below meth c G 4 (c_Q G c_vi below args s 0 0) 0 0 4 [(0, .ref aL0), (1, .int xL1), (2, .int xL2), (3, .int xL3)] [] (fX2_leastPair_4 k26 n aL0 xL1 xL2 xL3) := by
  intro n
  induction n with
  | zero =>
    intro aL0 xL1 xL2 xL3
    exact sm_bad
  | succ n ih =>
    intro aL0 xL1 xL2 xL3
    rw [fX2_leastPair_4]
    refine sm_iload_n hO 3 dX2_leastPair_4 rfl rfl ?_
    refine sm_aload_n hO 0 dX2_leastPair_5 rfl rfl ?_
    refine sm_gi hO fl_RX2_28 dX2_leastPair_6 (fun x1 => ?_)
    refine sm_icmp_ge (tgt := 51) hO dX2_leastPair_9 (by decide) ?_ ?_
    · refine sm_iconst (v := (-1)) hO dX2_leastPair_51 rfl ?_
      exact sm_iret hO hr hk (Nat.le_of_ble_eq_true rfl) (Nat.le_of_ble_eq_true rfl) dX2_leastPair_52
    · refine sm_iload_n hO 1 dX2_leastPair_12 rfl rfl ?_
      refine sm_iload_n hO 3 dX2_leastPair_13 rfl rfl ?_
      refine sm_ishr hO dX2_leastPair_14 ?_
      refine sm_iconst (v := 1) hO dX2_leastPair_15 rfl ?_
      refine sm_iand hO dX2_leastPair_16 ?_
      refine sm_iconst (v := 1) hO dX2_leastPair_17 rfl ?_
      refine sm_icmp_ne (tgt := 45) hO dX2_leastPair_18 (by decide) ?_ ?_
      · exact sm_sub [0, 1, 2, 3] rfl (tX2_leastPair_45 hO hr hk (fX2_leastPair_4 k26 n) ih aL0 xL1 xL2 xL3)
      · refine sm_iload_n hO 2 dX2_leastPair_21 rfl rfl ?_
        refine sm_iconst (v := (-1)) hO dX2_leastPair_22 rfl ?_
        refine sm_icmp_eq (tgt := 38) hO dX2_leastPair_23 (by decide) ?_ ?_
        · refine sm_aload_n hO 0 dX2_leastPair_38 rfl rfl ?_
          refine sm_gr hO fl_RX2_9 dX2_leastPair_39 (fun a2 => ?_)
          refine sm_iload_n hO 3 dX2_leastPair_42 rfl rfl ?_
          refine sm_li hO dX2_leastPair_43 (fun x3 => ?_)
          refine sm_istore_n hO [(2, .int x3), (0, .ref aL0), (1, .int xL1), (3, .int xL3)] dX2_leastPair_44 rfl (by decide) rfl ?_
          exact sm_sub [1, 2, 0, 3] rfl (tX2_leastPair_45 hO hr hk (fX2_leastPair_4 k26 n) ih aL0 xL1 x3 xL3)
        · exact sm_sub [0, 2, 3] rfl (hk26 aL0 xL2 xL3)
set_option maxRecDepth 100000 in
set_option maxHeartbeats 4000000 in
theorem tX2_leastPair_26 {p : Program} {l : Launch} {e : Env} {s : State} {m : MethodId} {args : Array Value} {below : List Frame} {meth : Method} {c : Code} {G : cG} (hO : c_Ok p s m c cX2_leastPair 4 RX2 G) (hr : meth.sig.returnType = (some .int)) (hk : meth.locks = false) : ∀ (aL0 : Nat) (xL2 : Int32) (xL3 : Int32), Sm p l e { frames := 0, cells := 0, slots := 0, locals := 0 } s m args below meth c G 4 (c_Q G c_vi below args s 0 0) 0 0 26 [(0, .ref aL0), (2, .int xL2), (3, .int xL3)] [] (fX2_leastPair_26 aL0 xL2 xL3) := by
  intro aL0 xL2 xL3
  rw [fX2_leastPair_26]
  refine sm_bipush (v := 10) hO dX2_leastPair_26 rfl ?_
  refine sm_iload_n hO 1 dX2_leastPair_28 rfl rfl ?_
  refine sm_imul hO dX2_leastPair_29 ?_
  refine sm_aload_n hO 0 dX2_leastPair_30 rfl rfl ?_
  refine sm_gr hO fl_RX2_9 dX2_leastPair_31 (fun a1 => ?_)
  refine sm_iload_n hO 2 dX2_leastPair_34 rfl rfl ?_
  refine sm_li hO dX2_leastPair_35 (fun x2 => ?_)
  refine sm_iadd hO dX2_leastPair_36 ?_
  exact sm_iret hO hr hk (Nat.le_of_ble_eq_true rfl) (Nat.le_of_ble_eq_true rfl) dX2_leastPair_37
set_option maxRecDepth 100000 in
set_option maxHeartbeats 4000000 in
theorem ctX2_leastPair (l : Launch) (G : cG) (a0_ : Nat) (x1_ : Int32) : Ct l G yX2_leastPair cX2_leastPair 4 (some .int) 0 0 0 0 [.ref a0_, .int x1_] c_vi (pX2_leastPair a0_ x1_) := by
  refine Ct.of (lv := [(0, .ref a0_), (1, .int x1_)]) (by decide) (Nat.le_of_ble_eq_true rfl) rfl (fun p e s m args below meth c hO hr hk hin => ?_)
  rw [pX2_leastPair]
  refine sm_iconst (v := (-1)) hO dX2_leastPair_0 rfl ?_
  refine sm_istore_n hO [(2, .int ((-1))), (0, .ref a0_), (1, .int x1_)] dX2_leastPair_1 rfl (by decide) rfl ?_
  refine sm_iconst (v := 0) hO dX2_leastPair_2 rfl ?_
  refine sm_istore_n hO [(3, .int 0), (2, .int ((-1))), (0, .ref a0_), (1, .int x1_)] dX2_leastPair_3 rfl (by decide) rfl ?_
  exact sm_sub [2, 3, 1, 0] rfl (tX2_leastPair_4 hO hr hk fX2_leastPair_26 (tX2_leastPair_26 hO hr hk) c_fu a0_ x1_ ((-1)) 0)
/-! DollCongress$Mixings.leastOpening(LDollCongress$Roll;LDollCongress$Scene;)I -/
def fX2_leastOpening_88 (k90 : Nat → Int32 → Int32 → Int32 → MM Int32) (aL0 : Nat) (xL3 : Int32) (xL5 : Int32) (xS0 : Int32) : MM Int32 := k90 aL0 xL3 xS0 xL5
def fX2_leastOpening_90 (k26 : Nat → Int32 → Int32 → Int32 → MM Int32) (aL0 : Nat) (xL3 : Int32) (xL4 : Int32) (xL5 : Int32) : MM Int32 := m_let (xL5 + 1) (fun x1 => k26 aL0 xL3 xL4 x1)
def fX2_leastOpening_26  : Nat → Nat → Int32 → Int32 → Int32 → MM Int32
  | 0, _, _, _, _ => m_bad
  | n + 1, aL0, xL3, xL4, xL5 => if xL3 < xL5 then (m_ret xL4) else (m_gr aL0 2 2 (fun a1 => m_li 0 a1 xL5 (fun x2 => if x2 = 0 then (m_gr aL0 2 3 (fun a3 => m_li 0 a3 (xL3 ^^^ xL5) (fun x4 => m_gr aL0 2 3 (fun a5 => m_li 0 a5 xL3 (fun x6 => if (x4 + 1) = x6 then (m_cv aL0 2 (pX2_leastPair aL0 xL5) (fun x7 => if xL4 = ((-1) : Int32) then (fX2_leastOpening_88 (fX2_leastOpening_90 (fX2_leastOpening_26 n)) aL0 xL3 xL5 x7) else (fX2_leastOpening_88 (fX2_leastOpening_90 (fX2_leastOpening_26 n)) aL0 xL3 xL5 (c_mn xL4 x7)))) else (fX2_leastOpening_90 (fX2_leastOpening_26 n) aL0 xL3 xL4 xL5)))))) else (fX2_leastOpening_90 (fX2_leastOpening_26 n) aL0 xL3 xL4 xL5))))
def pX2_leastOpening (a0_ : Nat) (a1_ : Nat) (a2_ : Nat) : MM Int32 := m_cv a0_ 2 (pX2_fewest a0_ a1_ a2_) (fun x1 => if 0 < x1 then (m_gi a0_ 2 4 (fun x2 => m_let (((1 : Int32) <<< (x2 &&& 31)) - 1) (fun x3 => fX2_leastOpening_26 c_fu a0_ x3 ((-1)) 1))) else (m_ret ((-1) : Int32)))
set_option maxRecDepth 100000 in
set_option maxHeartbeats 4000000 in
theorem tX2_leastOpening_88 {p : Program} {l : Launch} {e : Env} {s : State} {m : MethodId} {args : Array Value} {below : List Frame} {meth : Method} {c : Code} {G : cG} (hO : c_Ok p s m c cX2_leastOpening 7 RX2 G) (hr : meth.sig.returnType = (some .int)) (hk : meth.locks = false) (k90 : Nat → Int32 → Int32 → Int32 → MM Int32) (hk90 : ∀ (aL0 : Nat) (xL3 : Int32) (xL4 : Int32) (xL5 : Int32), Sm p l e { frames := 3, cells := 0, slots := 0, locals := 62 } s m args below meth c G 7 (c_Q G c_vi below args s 0 0) 0 0 90 [(0, .ref aL0), (3, .int xL3), (4, .int xL4), (5, .int xL5)] [] (k90 aL0 xL3 xL4 xL5))  : ∀ (aL0 : Nat) (xL3 : Int32) (xL5 : Int32) (xS0 : Int32), Sm p l e { frames := 3, cells := 0, slots := 0, locals := 62 } s m args below meth c G 7 (c_Q G c_vi below args s 0 0) 0 0 88 [(0, .ref aL0), (3, .int xL3), (5, .int xL5)] [.int xS0] (fX2_leastOpening_88 k90 aL0 xL3 xL5 xS0) := by
  intro aL0 xL3 xL5 xS0
  rw [fX2_leastOpening_88]
  refine sm_istore hO [(4, .int xS0), (0, .ref aL0), (3, .int xL3), (5, .int xL5)] dX2_leastOpening_88 (by decide) rfl ?_
  exact sm_sub [1, 2, 0, 3] rfl (hk90 aL0 xL3 xS0 xL5)
set_option maxRecDepth 100000 in
set_option maxHeartbeats 4000000 in
theorem tX2_leastOpening_90 {p : Program} {l : Launch} {e : Env} {s : State} {m : MethodId} {args : Array Value} {below : List Frame} {meth : Method} {c : Code} {G : cG} (hO : c_Ok p s m c cX2_leastOpening 7 RX2 G) (hr : meth.sig.returnType = (some .int)) (hk : meth.locks = false) (k26 : Nat → Int32 → Int32 → Int32 → MM Int32) (hk26 : ∀ (aL0 : Nat) (xL3 : Int32) (xL4 : Int32) (xL5 : Int32), Sm p l e { frames := 3, cells := 0, slots := 0, locals := 62 } s m args below meth c G 7 (c_Q G c_vi below args s 0 0) 0 0 26 [(0, .ref aL0), (3, .int xL3), (4, .int xL4), (5, .int xL5)] [] (k26 aL0 xL3 xL4 xL5))  : ∀ (aL0 : Nat) (xL3 : Int32) (xL4 : Int32) (xL5 : Int32), Sm p l e { frames := 3, cells := 0, slots := 0, locals := 62 } s m args below meth c G 7 (c_Q G c_vi below args s 0 0) 0 0 90 [(0, .ref aL0), (3, .int xL3), (4, .int xL4), (5, .int xL5)] [] (fX2_leastOpening_90 k26 aL0 xL3 xL4 xL5) := by
  intro aL0 xL3 xL4 xL5
  rw [fX2_leastOpening_90]
  refine sm_iincL (v := xL5 + 1) hO 3 (fun x1 => [(5, .int x1), (0, .ref aL0), (3, .int xL3), (4, .int xL4)]) dX2_leastOpening_90 rfl rfl (by decide) (fun _ => rfl) (fun x1 => ?_)
  refine sm_goto (tgt := 26) hO dX2_leastOpening_93 (by decide) ?_
  exact sm_sub [1, 2, 3, 0] rfl (hk26 aL0 xL3 xL4 x1)
set_option maxRecDepth 100000 in
set_option maxHeartbeats 4000000 in
theorem tX2_leastOpening_26 {p : Program} {l : Launch} {e : Env} {s : State} {m : MethodId} {args : Array Value} {below : List Frame} {meth : Method} {c : Code} {G : cG} (hO : c_Ok p s m c cX2_leastOpening 7 RX2 G) (hr : meth.sig.returnType = (some .int)) (hk : meth.locks = false) : ∀ (n : Nat) (aL0 : Nat) (xL3 : Int32) (xL4 : Int32) (xL5 : Int32), Sm p l e { frames := 3, cells := 0, slots := 0, locals := 62 } s m args below meth c G 7 (c_Q G c_vi below args s 0 0) 0 0 26 [(0, .ref aL0), (3, .int xL3), (4, .int xL4), (5, .int xL5)] [] (fX2_leastOpening_26 n aL0 xL3 xL4 xL5) := by
  intro n
  induction n with
  | zero =>
    intro aL0 xL3 xL4 xL5
    exact sm_bad
  | succ n ih =>
    intro aL0 xL3 xL4 xL5
    rw [fX2_leastOpening_26]
    refine sm_iload hO 3 dX2_leastOpening_26 rfl ?_
    refine sm_iload_n hO 1 dX2_leastOpening_28 rfl rfl ?_
    refine sm_icmp_gt (tgt := 96) hO dX2_leastOpening_29 (by decide) ?_ ?_
    · refine sm_iload hO 2 dX2_leastOpening_96 rfl ?_
      exact sm_iret hO hr hk (Nat.le_of_ble_eq_true rfl) (Nat.le_of_ble_eq_true rfl) dX2_leastOpening_98
    · refine sm_aload_n hO 0 dX2_leastOpening_32 rfl rfl ?_
      refine sm_gr hO fl_RX2_18 dX2_leastOpening_33 (fun a1 => ?_)
      refine sm_iload hO 3 dX2_leastOpening_36 rfl ?_
      refine sm_li hO dX2_leastOpening_38 (fun x2 => ?_)
      refine sm_if_ne (tgt := 90) hO dX2_leastOpening_39 (by decide) ?_ ?_
      · exact sm_sub [0, 1, 2, 3] rfl (tX2_leastOpening_90 hO hr hk (fX2_leastOpening_26 n) ih aL0 xL3 xL4 xL5)
      · refine sm_aload_n hO 0 dX2_leastOpening_42 rfl rfl ?_
        refine sm_gr hO fl_RX2_21 dX2_leastOpening_43 (fun a3 => ?_)
        refine sm_iload_n hO 1 dX2_leastOpening_46 rfl rfl ?_
        refine sm_iload hO 3 dX2_leastOpening_47 rfl ?_
        refine sm_ixor hO dX2_leastOpening_49 ?_
        refine sm_li hO dX2_leastOpening_50 (fun x4 => ?_)
        refine sm_iconst (v := 1) hO dX2_leastOpening_51 rfl ?_
        refine sm_iadd hO dX2_leastOpening_52 ?_
        refine sm_aload_n hO 0 dX2_leastOpening_53 rfl rfl ?_
        refine sm_gr hO fl_RX2_21 dX2_leastOpening_54 (fun a5 => ?_)
        refine sm_iload_n hO 1 dX2_leastOpening_57 rfl rfl ?_
        refine sm_li hO dX2_leastOpening_58 (fun x6 => ?_)
        refine sm_icmp_ne (tgt := 90) hO dX2_leastOpening_59 (by decide) ?_ ?_
        · exact sm_sub [0, 1, 2, 3] rfl (tX2_leastOpening_90 hO hr hk (fX2_leastOpening_26 n) ih aL0 xL3 xL4 xL5)
        · refine sm_aload_n hO 0 dX2_leastOpening_62 rfl rfl ?_
          refine sm_iload hO 3 dX2_leastOpening_63 rfl ?_
          refine sm_cvi hO (ctX2_leastPair l G aL0 xL5) cw_RX2_40 cv_X2_leastPair [] rfl rfl ⟨(Nat.le_of_ble_eq_true rfl), (Nat.le_of_ble_eq_true rfl)⟩ ⟨(Nat.le_of_ble_eq_true rfl), (Nat.le_of_ble_eq_true rfl)⟩ (Nat.le_of_ble_eq_true rfl) dX2_leastOpening_65 (fun x7 => ?_)
          refine sm_istore hO [(6, .int x7), (0, .ref aL0), (3, .int xL3), (4, .int xL4), (5, .int xL5)] dX2_leastOpening_68 (by decide) rfl ?_
          refine sm_iload hO 3 dX2_leastOpening_70 rfl ?_
          refine sm_iconst (v := (-1)) hO dX2_leastOpening_72 rfl ?_
          refine sm_icmp_ne (tgt := 81) hO dX2_leastOpening_73 (by decide) ?_ ?_
          · refine sm_iload hO 3 dX2_leastOpening_81 rfl ?_
            refine sm_iload hO 0 dX2_leastOpening_83 rfl ?_
            refine sm_min hO kw_675 kw_404 kw_83 kw_405 (Nat.le_of_ble_eq_true rfl) (Nat.le_of_ble_eq_true rfl) (Nat.le_of_ble_eq_true rfl) (Nat.le_of_ble_eq_true rfl) dX2_leastOpening_85 ?_
            exact sm_sub [1, 2, 4] rfl (tX2_leastOpening_88 hO hr hk (fX2_leastOpening_90 (fX2_leastOpening_26 n)) (tX2_leastOpening_90 hO hr hk (fX2_leastOpening_26 n) ih) aL0 xL3 xL5 (c_mn xL4 x7))
          · refine sm_iload hO 0 dX2_leastOpening_76 rfl ?_
            refine sm_goto (tgt := 88) hO dX2_leastOpening_78 (by decide) ?_
            exact sm_sub [1, 2, 4] rfl (tX2_leastOpening_88 hO hr hk (fX2_leastOpening_90 (fX2_leastOpening_26 n)) (tX2_leastOpening_90 hO hr hk (fX2_leastOpening_26 n) ih) aL0 xL3 xL5 x7)
set_option maxRecDepth 100000 in
set_option maxHeartbeats 4000000 in
theorem ctX2_leastOpening (l : Launch) (G : cG) (a0_ : Nat) (a1_ : Nat) (a2_ : Nat) : Ct l G yX2_leastOpening cX2_leastOpening 7 (some .int) 3 62 0 0 [.ref a0_, .ref a1_, .ref a2_] c_vi (pX2_leastOpening a0_ a1_ a2_) := by
  refine Ct.of (lv := [(0, .ref a0_), (1, .ref a1_), (2, .ref a2_)]) (by decide) (Nat.le_of_ble_eq_true rfl) rfl (fun p e s m args below meth c hO hr hk hin => ?_)
  rw [pX2_leastOpening]
  refine sm_aload_n hO 0 dX2_leastOpening_0 rfl rfl ?_
  refine sm_aload_n hO 1 dX2_leastOpening_1 rfl rfl ?_
  refine sm_aload_n hO 2 dX2_leastOpening_2 rfl rfl ?_
  refine sm_cvi hO (ctX2_fewest l G a0_ a1_ a2_) cw_RX2_36 cv_X2_fewest [] rfl rfl ⟨(Nat.le_of_ble_eq_true rfl), (Nat.le_of_ble_eq_true rfl)⟩ ⟨(Nat.le_of_ble_eq_true rfl), (Nat.le_of_ble_eq_true rfl)⟩ (Nat.le_of_ble_eq_true rfl) dX2_leastOpening_3 (fun x1 => ?_)
  refine sm_if_gt (tgt := 11) hO dX2_leastOpening_6 (by decide) ?_ ?_
  · refine sm_iconst (v := 1) hO dX2_leastOpening_11 rfl ?_
    refine sm_aload_n hO 0 dX2_leastOpening_12 rfl rfl ?_
    refine sm_gi hO fl_RX2_28 dX2_leastOpening_13 (fun x2 => ?_)
    refine sm_ishl hO dX2_leastOpening_16 ?_
    refine sm_iconst (v := 1) hO dX2_leastOpening_17 rfl ?_
    refine sm_isub hO dX2_leastOpening_18 ?_
    refine sm_topi (fun x3 => ?_)
    refine sm_istore_n hO [(3, .int x3), (0, .ref a0_), (1, .ref a1_), (2, .ref a2_)] dX2_leastOpening_19 rfl (by decide) rfl ?_
    refine sm_iconst (v := (-1)) hO dX2_leastOpening_20 rfl ?_
    refine sm_istore hO [(4, .int ((-1))), (3, .int x3), (0, .ref a0_), (1, .ref a1_), (2, .ref a2_)] dX2_leastOpening_21 (by decide) rfl ?_
    refine sm_iconst (v := 1) hO dX2_leastOpening_23 rfl ?_
    refine sm_istore hO [(5, .int 1), (4, .int ((-1))), (3, .int x3), (0, .ref a0_), (1, .ref a1_), (2, .ref a2_)] dX2_leastOpening_24 (by decide) rfl ?_
    exact sm_sub [3, 2, 1, 0] rfl (tX2_leastOpening_26 hO hr hk c_fu a0_ x3 ((-1)) 1)
  · refine sm_iconst (v := (-1)) hO dX2_leastOpening_9 rfl ?_
    exact sm_iret hO hr hk (Nat.le_of_ble_eq_true rfl) (Nat.le_of_ble_eq_true rfl) dX2_leastOpening_10
/-! DollCongress.swaps(I)I -/
def pX9_swaps (a0_ : Nat) (x1_ : Int32) : MM Int32 := if x1_ < 0 then (m_ret ((-1000000002) : Int32)) else (if x1_ ≤ (1 : Int32) then (if x1_ = 0 then (m_gr a0_ 8 5 (fun a5 => m_gr a0_ 8 7 (fun a6 => m_gr a0_ 8 1 (fun a7 => m_cv a5 2 (pX2_fewest a5 a6 a7) (fun x8 => m_ret x8))))) else (m_gr a0_ 8 5 (fun a1 => m_gr a0_ 8 7 (fun a2 => m_gr a0_ 8 1 (fun a3 => m_cv a1 2 (pX2_leastOpening a1 a2 a3) (fun x4 => m_ret x4)))))) else (m_ret ((-1000000002) : Int32)))
set_option maxRecDepth 100000 in
set_option maxHeartbeats 4000000 in
theorem ctX9_swaps (l : Launch) (G : cG) (a0_ : Nat) (x1_ : Int32) : Ct l G yX9_swaps cX9_swaps 2 (some .int) 4 88 0 0 [.ref a0_, .int x1_] c_vi (pX9_swaps a0_ x1_) := by
  refine Ct.of (lv := [(0, .ref a0_), (1, .int x1_)]) (by decide) (Nat.le_of_ble_eq_true rfl) rfl (fun p e s m args below meth c hO hr hk hin => ?_)
  rw [pX9_swaps]
  refine sm_iload_n hO 1 dX9_swaps_0 rfl rfl ?_
  refine sm_if_lt (tgt := 9) hO dX9_swaps_1 (by decide) ?_ ?_
  · refine sm_ldc (v := (-1000000002)) hO kw_362 dX9_swaps_9 ?_
    exact sm_iret hO hr hk (Nat.le_of_ble_eq_true rfl) (Nat.le_of_ble_eq_true rfl) dX9_swaps_11
  · refine sm_iload_n hO 1 dX9_swaps_4 rfl rfl ?_
    refine sm_iconst (v := 1) hO dX9_swaps_5 rfl ?_
    refine sm_icmp_le (tgt := 12) hO dX9_swaps_6 (by decide) ?_ ?_
    · refine sm_iload_n hO 1 dX9_swaps_12 rfl rfl ?_
      refine sm_if_ne (tgt := 34) hO dX9_swaps_13 (by decide) ?_ ?_
      · refine sm_aload_n hO 0 dX9_swaps_34 rfl rfl ?_
        refine sm_gr hO fl_RX9_46 dX9_swaps_35 (fun a1 => ?_)
        refine sm_aload_n hO 0 dX9_swaps_38 rfl rfl ?_
        refine sm_gr hO fl_RX9_60 dX9_swaps_39 (fun a2 => ?_)
        refine sm_aload_n hO 0 dX9_swaps_42 rfl rfl ?_
        refine sm_gr hO fl_RX9_19 dX9_swaps_43 (fun a3 => ?_)
        refine sm_cvi hO (ctX2_leastOpening l G a1 a2 a3) cw_RX9_237 cv_X2_leastOpening [] rfl rfl ⟨(Nat.le_of_ble_eq_true rfl), (Nat.le_of_ble_eq_true rfl)⟩ ⟨(Nat.le_of_ble_eq_true rfl), (Nat.le_of_ble_eq_true rfl)⟩ (Nat.le_of_ble_eq_true rfl) dX9_swaps_46 (fun x4 => ?_)
        exact sm_iret hO hr hk (Nat.le_of_ble_eq_true rfl) (Nat.le_of_ble_eq_true rfl) dX9_swaps_49
      · refine sm_aload_n hO 0 dX9_swaps_16 rfl rfl ?_
        refine sm_gr hO fl_RX9_46 dX9_swaps_17 (fun a5 => ?_)
        refine sm_aload_n hO 0 dX9_swaps_20 rfl rfl ?_
        refine sm_gr hO fl_RX9_60 dX9_swaps_21 (fun a6 => ?_)
        refine sm_aload_n hO 0 dX9_swaps_24 rfl rfl ?_
        refine sm_gr hO fl_RX9_19 dX9_swaps_25 (fun a7 => ?_)
        refine sm_cvi hO (ctX2_fewest l G a5 a6 a7) cw_RX9_234 cv_X2_fewest [] rfl rfl ⟨(Nat.le_of_ble_eq_true rfl), (Nat.le_of_ble_eq_true rfl)⟩ ⟨(Nat.le_of_ble_eq_true rfl), (Nat.le_of_ble_eq_true rfl)⟩ (Nat.le_of_ble_eq_true rfl) dX9_swaps_28 (fun x8 => ?_)
        refine sm_goto (tgt := 49) hO dX9_swaps_31 (by decide) ?_
        exact sm_iret hO hr hk (Nat.le_of_ble_eq_true rfl) (Nat.le_of_ble_eq_true rfl) dX9_swaps_49
    · refine sm_ldc (v := (-1000000002)) hO kw_362 dX9_swaps_9 ?_
      exact sm_iret hO hr hk (Nat.le_of_ble_eq_true rfl) (Nat.le_of_ble_eq_true rfl) dX9_swaps_11
/-! DollCongressModel.isBalanced(I)Z -/
def fX10_isBalanced_43 (k44 : Nat → Int32 → Int32 → Int32 → MM Int32) (aL0 : Nat) (xL1 : Int32) (xL3 : Int32) : MM Int32 := k44 aL0 xL1 xL3 0
def fX10_isBalanced_44 (k4 : Nat → Int32 → Int32 → Int32 → MM Int32) (aL0 : Nat) (xL1 : Int32) (xL3 : Int32) (xS0 : Int32) : MM Int32 := m_let (xL3 + 1) (fun x1 => k4 aL0 xL1 xS0 x1)
def fX10_isBalanced_4  : Nat → Nat → Int32 → Int32 → Int32 → MM Int32
  | 0, _, _, _, _ => m_bad
  | n + 1, aL0, xL1, xL2, xL3 => m_gi aL0 9 0 (fun x1 => if x1 ≤ xL3 then (m_rz xL2) else (if xL2 = 0 then (fX10_isBalanced_43 (fX10_isBalanced_44 (fX10_isBalanced_4 n)) aL0 xL1 xL3) else (m_cv aL0 9 (pX10_whoIsAt aL0 xL3) (fun x2 => m_bind (pX10_bits (xL1 &&& x2)) (fun x3 => m_cv aL0 9 (pX10_whoBelongsTo aL0 xL3) (fun x4 => m_bind (pX10_bits (xL1 &&& x4)) (fun x5 => if x3 = x5 then (fX10_isBalanced_44 (fX10_isBalanced_4 n) aL0 xL1 xL3 1) else (fX10_isBalanced_43 (fX10_isBalanced_44 (fX10_isBalanced_4 n)) aL0 xL1 xL3))))))))
def pX10_isBalanced (a0_ : Nat) (x1_ : Int32) : MM Int32 := fX10_isBalanced_4 c_fu a0_ x1_ 1 0
set_option maxRecDepth 100000 in
set_option maxHeartbeats 4000000 in
theorem tX10_isBalanced_43 {p : Program} {l : Launch} {e : Env} {s : State} {m : MethodId} {args : Array Value} {below : List Frame} {meth : Method} {c : Code} {G : cG} (hO : c_Ok p s m c cX10_isBalanced 4 RX10 G) (hr : meth.sig.returnType = (some .boolean)) (hk : meth.locks = false) (k44 : Nat → Int32 → Int32 → Int32 → MM Int32) (hk44 : ∀ (aL0 : Nat) (xL1 : Int32) (xL3 : Int32) (xS0 : Int32), Sm p l e { frames := 1, cells := 0, slots := 0, locals := 23 } s m args below meth c G 4 (c_Q G c_vi below args s 0 0) 0 0 44 [(0, .ref aL0), (1, .int xL1), (3, .int xL3)] [.int xS0] (k44 aL0 xL1 xL3 xS0))  : ∀ (aL0 : Nat) (xL1 : Int32) (xL3 : Int32), Sm p l e { frames := 1, cells := 0, slots := 0, locals := 23 } s m args below meth c G 4 (c_Q G c_vi below args s 0 0) 0 0 43 [(0, .ref aL0), (1, .int xL1), (3, .int xL3)] [] (fX10_isBalanced_43 k44 aL0 xL1 xL3) := by
  intro aL0 xL1 xL3
  rw [fX10_isBalanced_43]
  refine sm_iconst (v := 0) hO dX10_isBalanced_43 rfl ?_
  exact sm_sub [0, 1, 2] rfl (hk44 aL0 xL1 xL3 0)
set_option maxRecDepth 100000 in
set_option maxHeartbeats 4000000 in
theorem tX10_isBalanced_44 {p : Program} {l : Launch} {e : Env} {s : State} {m : MethodId} {args : Array Value} {below : List Frame} {meth : Method} {c : Code} {G : cG} (hO : c_Ok p s m c cX10_isBalanced 4 RX10 G) (hr : meth.sig.returnType = (some .boolean)) (hk : meth.locks = false) (k4 : Nat → Int32 → Int32 → Int32 → MM Int32) (hk4 : ∀ (aL0 : Nat) (xL1 : Int32) (xL2 : Int32) (xL3 : Int32), Sm p l e { frames := 1, cells := 0, slots := 0, locals := 23 } s m args below meth c G 4 (c_Q G c_vi below args s 0 0) 0 0 4 [(0, .ref aL0), (1, .int xL1), (2, .int xL2), (3, .int xL3)] [] (k4 aL0 xL1 xL2 xL3))  : ∀ (aL0 : Nat) (xL1 : Int32) (xL3 : Int32) (xS0 : Int32), Sm p l e { frames := 1, cells := 0, slots := 0, locals := 23 } s m args below meth c G 4 (c_Q G c_vi below args s 0 0) 0 0 44 [(0, .ref aL0), (1, .int xL1), (3, .int xL3)] [.int xS0] (fX10_isBalanced_44 k4 aL0 xL1 xL3 xS0) := by
  intro aL0 xL1 xL3 xS0
  rw [fX10_isBalanced_44]
  refine sm_istore_n hO [(2, .int xS0), (0, .ref aL0), (1, .int xL1), (3, .int xL3)] dX10_isBalanced_44 rfl (by decide) rfl ?_
  refine sm_iincL (v := xL3 + 1) hO 3 (fun x1 => [(3, .int x1), (2, .int xS0), (0, .ref aL0), (1, .int xL1)]) dX10_isBalanced_45 rfl rfl (by decide) (fun _ => rfl) (fun x1 => ?_)
  refine sm_goto (tgt := 4) hO dX10_isBalanced_48 (by decide) ?_
  exact sm_sub [2, 3, 1, 0] rfl (hk4 aL0 xL1 xS0 x1)
set_option maxRecDepth 100000 in
set_option maxHeartbeats 4000000 in
theorem tX10_isBalanced_4 {p : Program} {l : Launch} {e : Env} {s : State} {m : MethodId} {args : Array Value} {below : List Frame} {meth : Method} {c : Code} {G : cG} (hO : c_Ok p s m c cX10_isBalanced 4 RX10 G) (hr : meth.sig.returnType = (some .boolean)) (hk : meth.locks = false) : ∀ (n : Nat) (aL0 : Nat) (xL1 : Int32) (xL2 : Int32) (xL3 : Int32), Sm p l e { frames := 1, cells := 0, slots := 0, locals := 23 } s m args below meth c G 4 (c_Q G c_vi below args s 0 0) 0 0 4 [(0, .ref aL0), (1, .int xL1), (2, .int xL2), (3, .int xL3)] [] (fX10_isBalanced_4 n aL0 xL1 xL2 xL3) := by
  intro n
  induction n with
  | zero =>
    intro aL0 xL1 xL2 xL3
    exact sm_bad
  | succ n ih =>
    intro aL0 xL1 xL2 xL3
    rw [fX10_isBalanced_4]
    refine sm_iload_n hO 3 dX10_isBalanced_4 rfl rfl ?_
    refine sm_aload_n hO 0 dX10_isBalanced_5 rfl rfl ?_
    refine sm_gi hO fl_RX10_72 dX10_isBalanced_6 (fun x1 => ?_)
    refine sm_icmp_ge (tgt := 51) hO dX10_isBalanced_9 (by decide) ?_ ?_
    · refine sm_iload_n hO 2 dX10_isBalanced_51 rfl rfl ?_
      exact sm_rz hO hr hk (Nat.le_of_ble_eq_true rfl) (Nat.le_of_ble_eq_true rfl) dX10_isBalanced_52
    · refine sm_iload_n hO 2 dX10_isBalanced_12 rfl rfl ?_
      refine sm_if_eq (tgt := 43) hO dX10_isBalanced_13 (by decide) ?_ ?_
      · exact sm_sub [0, 1, 3] rfl (tX10_isBalanced_43 hO hr hk (fX10_isBalanced_44 (fX10_isBalanced_4 n)) (tX10_isBalanced_44 hO hr hk (fX10_isBalanced_4 n) ih) aL0 xL1 xL3)
      · refine sm_iload_n hO 1 dX10_isBalanced_16 rfl rfl ?_
        refine sm_aload_n hO 0 dX10_isBalanced_17 rfl rfl ?_
        refine sm_iload_n hO 3 dX10_isBalanced_18 rfl rfl ?_
        refine sm_cvi hO (ctX10_whoIsAt l G aL0 xL3) cw_RX10_179 cv_X10_whoIsAt [.int xL1] rfl rfl ⟨(Nat.le_of_ble_eq_true rfl), (Nat.le_of_ble_eq_true rfl)⟩ ⟨(Nat.le_of_ble_eq_true rfl), (Nat.le_of_ble_eq_true rfl)⟩ (Nat.le_of_ble_eq_true rfl) dX10_isBalanced_19 (fun x2 => ?_)
        refine sm_iand hO dX10_isBalanced_22 ?_
        refine sm_csi hO (ctX10_bits l G (xL1 &&& x2)) cw_RX10_188 kw_1004 [] rfl rfl ⟨(Nat.le_of_ble_eq_true rfl), (Nat.le_of_ble_eq_true rfl)⟩ ⟨(Nat.le_of_ble_eq_true rfl), (Nat.le_of_ble_eq_true rfl)⟩ (Nat.le_of_ble_eq_true rfl) dX10_isBalanced_23 (fun x3 => ?_)
        refine sm_iload_n hO 1 dX10_isBalanced_26 rfl rfl ?_
        refine sm_aload_n hO 0 dX10_isBalanced_27 rfl rfl ?_
        refine sm_iload_n hO 3 dX10_isBalanced_28 rfl rfl ?_
        refine sm_cvi hO (ctX10_whoBelongsTo l G aL0 xL3) cw_RX10_222 cv_X10_whoBelongsTo [.int xL1, .int x3] rfl rfl ⟨(Nat.le_of_ble_eq_true rfl), (Nat.le_of_ble_eq_true rfl)⟩ ⟨(Nat.le_of_ble_eq_true rfl), (Nat.le_of_ble_eq_true rfl)⟩ (Nat.le_of_ble_eq_true rfl) dX10_isBalanced_29 (fun x4 => ?_)
        refine sm_iand hO dX10_isBalanced_32 ?_
        refine sm_csi hO (ctX10_bits l G (xL1 &&& x4)) cw_RX10_188 kw_1004 [.int x3] rfl rfl ⟨(Nat.le_of_ble_eq_true rfl), (Nat.le_of_ble_eq_true rfl)⟩ ⟨(Nat.le_of_ble_eq_true rfl), (Nat.le_of_ble_eq_true rfl)⟩ (Nat.le_of_ble_eq_true rfl) dX10_isBalanced_33 (fun x5 => ?_)
        refine sm_icmp_ne (tgt := 43) hO dX10_isBalanced_36 (by decide) ?_ ?_
        · exact sm_sub [0, 1, 3] rfl (tX10_isBalanced_43 hO hr hk (fX10_isBalanced_44 (fX10_isBalanced_4 n)) (tX10_isBalanced_44 hO hr hk (fX10_isBalanced_4 n) ih) aL0 xL1 xL3)
        · refine sm_iconst (v := 1) hO dX10_isBalanced_39 rfl ?_
          refine sm_goto (tgt := 44) hO dX10_isBalanced_40 (by decide) ?_
          exact sm_sub [0, 1, 3] rfl (tX10_isBalanced_44 hO hr hk (fX10_isBalanced_4 n) ih aL0 xL1 xL3 1)
set_option maxRecDepth 100000 in
set_option maxHeartbeats 4000000 in
theorem ctX10_isBalanced (l : Launch) (G : cG) (a0_ : Nat) (x1_ : Int32) : Ct l G yX10_isBalanced cX10_isBalanced 4 (some .boolean) 1 23 0 0 [.ref a0_, .int x1_] c_vi (pX10_isBalanced a0_ x1_) := by
  refine Ct.of (lv := [(0, .ref a0_), (1, .int x1_)]) (by decide) (Nat.le_of_ble_eq_true rfl) rfl (fun p e s m args below meth c hO hr hk hin => ?_)
  rw [pX10_isBalanced]
  refine sm_iconst (v := 1) hO dX10_isBalanced_0 rfl ?_
  refine sm_istore_n hO [(2, .int 1), (0, .ref a0_), (1, .int x1_)] dX10_isBalanced_1 rfl (by decide) rfl ?_
  refine sm_iconst (v := 0) hO dX10_isBalanced_2 rfl ?_
  refine sm_istore_n hO [(3, .int 0), (2, .int 1), (0, .ref a0_), (1, .int x1_)] dX10_isBalanced_3 rfl (by decide) rfl ?_
  exact sm_sub [2, 3, 1, 0] rfl (tX10_isBalanced_4 hO hr hk c_fu a0_ x1_ 1 0)
/-! DollCongressModel.findRings()V -/
def fX10_findRings_2 (k29 : Nat → MM Unit) : Nat → Nat → Int32 → MM Unit
  | 0, _, _ => m_bad
  | n + 1, aL0, xL1 => m_gi aL0 9 2 (fun x1 => if ((1 : Int32) <<< (x1 &&& 31)) ≤ xL1 then (k29 aL0) else (m_gr aL0 9 29 (fun a2 => m_cv aL0 9 (pX10_isBalanced aL0 xL1) (fun x3 => m_sz a2 xL1 x3 (m_let (xL1 + 1) (fun x4 => fX10_findRings_2 k29 n aL0 x4))))))
def fX10_findRings_91 (k92 : Nat → Int32 → Int32 → Int32 → Int32 → MM Unit) (aL0 : Nat) (xL1 : Int32) (xL2 : Int32) (xL3 : Int32) : MM Unit := k92 aL0 xL1 xL2 xL3 0
def fX10_findRings_130 (k131 : Nat → Int32 → Int32 → Int32 → MM Unit) (aL0 : Nat) (xL1 : Int32) (xL2 : Int32) (xL3 : Int32) : MM Unit := k131 aL0 xL1 xL3 xL2
def fX10_findRings_131 (k52 : Nat → Int32 → Int32 → Int32 → MM Unit) (aL0 : Nat) (xL1 : Int32) (xL3 : Int32) (xS0 : Int32) : MM Unit := m_let (xL3 + 1) (fun x1 => k52 aL0 xL1 xS0 x1)
def fX10_findRings_92 (k52 : Nat → Int32 → Int32 → Int32 → MM Unit) (aL0 : Nat) (xL1 : Int32) (xL2 : Int32) (xL3 : Int32) (xS0 : Int32) : MM Unit := if xS0 = 0 then (fX10_findRings_130 (fX10_findRings_131 k52) aL0 xL1 xL2 xL3) else (m_gr aL0 9 28 (fun a1 => m_li 0 a1 (xL1 &&& (xL3 ^^^ ((-1)))) (fun x2 => if (x2 + 1) ≤ xL2 then (fX10_findRings_130 (fX10_findRings_131 k52) aL0 xL1 xL2 xL3) else (m_gr aL0 9 28 (fun a3 => m_li 0 a3 (xL1 &&& (xL3 ^^^ ((-1)))) (fun x4 => fX10_findRings_131 k52 aL0 xL1 xL3 (x4 + 1)))))))
def fX10_findRings_52 (k138 : Nat → Int32 → Int32 → MM Unit) : Nat → Nat → Int32 → Int32 → Int32 → MM Unit
  | 0, _, _, _, _ => m_bad
  | n + 1, aL0, xL1, xL2, xL3 => if xL1 < xL3 then (k138 aL0 xL1 xL2) else (if (xL3 &&& (xL1 ^^^ ((-1)))) = 0 then (m_gr aL0 9 29 (fun a1 => m_li 1 a1 xL3 (fun x2 => if x2 = 0 then (fX10_findRings_91 (fX10_findRings_92 (fX10_findRings_52 k138 n)) aL0 xL1 xL2 xL3) else (m_gr aL0 9 28 (fun a3 => m_li 0 a3 (xL1 &&& (xL3 ^^^ ((-1)))) (fun x4 => if x4 < 0 then (fX10_findRings_91 (fX10_findRings_92 (fX10_findRings_52 k138 n)) aL0 xL1 xL2 xL3) else (fX10_findRings_92 (fX10_findRings_52 k138 n) aL0 xL1 xL2 xL3 1))))))) else (fX10_findRings_91 (fX10_findRings_92 (fX10_findRings_52 k138 n)) aL0 xL1 xL2 xL3))
def fX10_findRings_138 (k38 : Nat → Int32 → MM Unit) (aL0 : Nat) (xL1 : Int32) (xL2 : Int32) : MM Unit := m_gr aL0 9 28 (fun a1 => m_si a1 xL1 xL2 (m_let (xL1 + 1) (fun x2 => k38 aL0 x2)))
def fX10_findRings_38  : Nat → Nat → Int32 → MM Unit
  | 0, _, _ => m_bad
  | n + 1, aL0, xL1 => m_gi aL0 9 2 (fun x1 => if ((1 : Int32) <<< (x1 &&& 31)) ≤ xL1 then (m_ret ()) else (fX10_findRings_52 (fX10_findRings_138 (fX10_findRings_38 n)) c_fu aL0 xL1 ((-1)) 1))
def fX10_findRings_29  (aL0 : Nat) : MM Unit := m_gr aL0 9 28 (fun a1 => m_si a1 (0 : Int32) (0 : Int32) (fX10_findRings_38 c_fu aL0 1))
def pX10_findRings (a0_ : Nat) : MM Unit := fX10_findRings_2 fX10_findRings_29 c_fu a0_ 0
set_option maxRecDepth 100000 in
set_option maxHeartbeats 4000000 in
theorem tX10_findRings_2 {p : Program} {l : Launch} {e : Env} {s : State} {m : MethodId} {args : Array Value} {below : List Frame} {meth : Method} {c : Code} {G : cG} (hO : c_Ok p s m c cX10_findRings 5 RX10 G) (hr : meth.sig.returnType = none) (hk : meth.locks = false) (k29 : Nat → MM Unit) (hk29 : ∀ (aL0 : Nat), Sm p l e { frames := 2, cells := 0, slots := 0, locals := 46 } s m args below meth c G 5 (c_Q G c_vv below args s 0 0) 0 0 29 [(0, .ref aL0)] [] (k29 aL0))  : ∀ (n : Nat) (aL0 : Nat) (xL1 : Int32), Sm p l e { frames := 2, cells := 0, slots := 0, locals := 46 } s m args below meth c G 5 (c_Q G c_vv below args s 0 0) 0 0 2 [(0, .ref aL0), (1, .int xL1)] [] (fX10_findRings_2 k29 n aL0 xL1) := by
  intro n
  induction n with
  | zero =>
    intro aL0 xL1
    exact sm_bad
  | succ n ih =>
    intro aL0 xL1
    rw [fX10_findRings_2]
    refine sm_iload_n hO 1 dX10_findRings_2 rfl rfl ?_
    refine sm_iconst (v := 1) hO dX10_findRings_3 rfl ?_
    refine sm_aload_n hO 0 dX10_findRings_4 rfl rfl ?_
    refine sm_gi hO fl_RX10_79 dX10_findRings_5 (fun x1 => ?_)
    refine sm_ishl hO dX10_findRings_8 ?_
    refine sm_icmp_ge (tgt := 29) hO dX10_findRings_9 (by decide) ?_ ?_
    · exact sm_sub [0] rfl (hk29 aL0)
    · refine sm_aload_n hO 0 dX10_findRings_12 rfl rfl ?_
      refine sm_gr hO fl_RX10_53 dX10_findRings_13 (fun a2 => ?_)
      refine sm_iload_n hO 1 dX10_findRings_16 rfl rfl ?_
      refine sm_aload_n hO 0 dX10_findRings_17 rfl rfl ?_
      refine sm_iload_n hO 1 dX10_findRings_18 rfl rfl ?_
      refine sm_cvi hO (ctX10_isBalanced l G aL0 xL1) cw_RX10_280 cv_X10_isBalanced [.int xL1, .ref a2] rfl rfl ⟨(Nat.le_of_ble_eq_true rfl), (Nat.le_of_ble_eq_true rfl)⟩ ⟨(Nat.le_of_ble_eq_true rfl), (Nat.le_of_ble_eq_true rfl)⟩ (Nat.le_of_ble_eq_true rfl) dX10_findRings_19 (fun x3 => ?_)
      refine sm_sz hO dX10_findRings_22 ?_
      refine sm_iincL (v := xL1 + 1) hO 1 (fun x4 => [(1, .int x4), (0, .ref aL0)]) dX10_findRings_23 rfl rfl (by decide) (fun _ => rfl) (fun x4 => ?_)
      refine sm_goto (tgt := 2) hO dX10_findRings_26 (by decide) ?_
      exact sm_sub [1, 0] rfl (ih aL0 x4)
set_option maxRecDepth 100000 in
set_option maxHeartbeats 4000000 in
theorem tX10_findRings_91 {p : Program} {l : Launch} {e : Env} {s : State} {m : MethodId} {args : Array Value} {below : List Frame} {meth : Method} {c : Code} {G : cG} (hO : c_Ok p s m c cX10_findRings 5 RX10 G) (hr : meth.sig.returnType = none) (hk : meth.locks = false) (k92 : Nat → Int32 → Int32 → Int32 → Int32 → MM Unit) (hk92 : ∀ (aL0 : Nat) (xL1 : Int32) (xL2 : Int32) (xL3 : Int32) (xS0 : Int32), Sm p l e { frames := 2, cells := 0, slots := 0, locals := 46 } s m args below meth c G 5 (c_Q G c_vv below args s 0 0) 0 0 92 [(0, .ref aL0), (1, .int xL1), (2, .int xL2), (3, .int xL3)] [.int xS0] (k92 aL0 xL1 xL2 xL3 xS0))  : ∀ (aL0 : Nat) (xL1 : Int32) (xL2 : Int32) (xL3 : Int32), Sm p l e { frames := 2, cells := 0, slots := 0, locals := 46 } s m args below meth c G 5 (c_Q G c_vv below args s 0 0) 0 0 91 [(0, .ref aL0), (1, .int xL1), (2, .int xL2), (3, .int xL3)] [] (fX10_findRings_91 k92 aL0 xL1 xL2 xL3) := by
  intro aL0 xL1 xL2 xL3
  rw [fX10_findRings_91]
  refine sm_iconst (v := 0) hO dX10_findRings_91 rfl ?_
  exact sm_sub [0, 1, 2, 3] rfl (hk92 aL0 xL1 xL2 xL3 0)
set_option maxRecDepth 100000 in
set_option maxHeartbeats 4000000 in
theorem tX10_findRings_130 {p : Program} {l : Launch} {e : Env} {s : State} {m : MethodId} {args : Array Value} {below : List Frame} {meth : Method} {c : Code} {G : cG} (hO : c_Ok p s m c cX10_findRings 5 RX10 G) (hr : meth.sig.returnType = none) (hk : meth.locks = false) (k131 : Nat → Int32 → Int32 → Int32 → MM Unit) (hk131 : ∀ (aL0 : Nat) (xL1 : Int32) (xL3 : Int32) (xS0 : Int32), Sm p l e { frames := 2, cells := 0, slots := 0, locals := 46 } s m args below meth c G 5 (c_Q G c_vv below args s 0 0) 0 0 131 [(0, .ref aL0), (1, .int xL1), (3, .int xL3)] [.int xS0] (k131 aL0 xL1 xL3 xS0))  : ∀ (aL0 : Nat) (xL1 : Int32) (xL2 : Int32) (xL3 : Int32), Sm p l e { frames := 2, cells := 0, slots := 0, locals := 46 } s m args below meth c G 5 (c_Q G c_vv below args s 0 0) 0 0 130 [(0, .ref aL0), (1, .int xL1), (2, .int xL2), (3, .int xL3)] [] (fX10_findRings_130 k131 aL0 xL1 xL2 xL3) := by
  intro aL0 xL1 xL2 xL3
  rw [fX10_findRings_130]
  refine sm_iload_n hO 2 dX10_findRings_130 rfl rfl ?_
  exact sm_sub [0, 1, 3] rfl (hk131 aL0 xL1 xL3 xL2)
set_option maxRecDepth 100000 in
set_option maxHeartbeats 4000000 in
theorem tX10_findRings_131 {p : Program} {l : Launch} {e : Env} {s : State} {m : MethodId} {args : Array Value} {below : List Frame} {meth : Method} {c : Code} {G : cG} (hO : c_Ok p s m c cX10_findRings 5 RX10 G) (hr : meth.sig.returnType = none) (hk : meth.locks = false) (k52 : Nat → Int32 → Int32 → Int32 → MM Unit) (hk52 : ∀ (aL0 : Nat) (xL1 : Int32) (xL2 : Int32) (xL3 : Int32), Sm p l e { frames := 2, cells := 0, slots := 0, locals := 46 } s m args below meth c G 5 (c_Q G c_vv below args s 0 0) 0 0 52 [(0, .ref aL0), (1, .int xL1), (2, .int xL2), (3, .int xL3)] [] (k52 aL0 xL1 xL2 xL3))  : ∀ (aL0 : Nat) (xL1 : Int32) (xL3 : Int32) (xS0 : Int32), Sm p l e { frames := 2, cells := 0, slots := 0, locals := 46 } s m args below meth c G 5 (c_Q G c_vv below args s 0 0) 0 0 131 [(0, .ref aL0), (1, .int xL1), (3, .int xL3)] [.int xS0] (fX10_findRings_131 k52 aL0 xL1 xL3 xS0) := by
  intro aL0 xL1 xL3 xS0
  rw [fX10_findRings_131]
  refine sm_istore_n hO [(2, .int xS0), (0, .ref aL0), (1, .int xL1), (3, .int xL3)] dX10_findRings_131 rfl (by decide) rfl ?_
  refine sm_iincL (v := xL3 + 1) hO 3 (fun x1 => [(3, .int x1), (2, .int xS0), (0, .ref aL0), (1, .int xL1)]) dX10_findRings_132 rfl rfl (by decide) (fun _ => rfl) (fun x1 => ?_)
  refine sm_goto (tgt := 52) hO dX10_findRings_135 (by decide) ?_
  exact sm_sub [2, 3, 1, 0] rfl (hk52 aL0 xL1 xS0 x1)
set_option maxRecDepth 100000 in
set_option maxHeartbeats 4000000 in
theorem tX10_findRings_92 {p : Program} {l : Launch} {e : Env} {s : State} {m : MethodId} {args : Array Value} {below : List Frame} {meth : Method} {c : Code} {G : cG} (hO : c_Ok p s m c cX10_findRings 5 RX10 G) (hr : meth.sig.returnType = none) (hk : meth.locks = false) (k52 : Nat → Int32 → Int32 → Int32 → MM Unit) (hk52 : ∀ (aL0 : Nat) (xL1 : Int32) (xL2 : Int32) (xL3 : Int32), Sm p l e { frames := 2, cells := 0, slots := 0, locals := 46 } s m args below meth c G 5 (c_Q G c_vv below args s 0 0) 0 0 52 [(0, .ref aL0), (1, .int xL1), (2, .int xL2), (3, .int xL3)] [] (k52 aL0 xL1 xL2 xL3))  : ∀ (aL0 : Nat) (xL1 : Int32) (xL2 : Int32) (xL3 : Int32) (xS0 : Int32), Sm p l e { frames := 2, cells := 0, slots := 0, locals := 46 } s m args below meth c G 5 (c_Q G c_vv below args s 0 0) 0 0 92 [(0, .ref aL0), (1, .int xL1), (2, .int xL2), (3, .int xL3)] [.int xS0] (fX10_findRings_92 k52 aL0 xL1 xL2 xL3 xS0) := by
  intro aL0 xL1 xL2 xL3 xS0
  rw [fX10_findRings_92]
  refine sm_istore hO [(4, .int xS0), (0, .ref aL0), (1, .int xL1), (2, .int xL2), (3, .int xL3)] dX10_findRings_92 (by decide) rfl ?_
  refine sm_iload hO 0 dX10_findRings_94 rfl ?_
  refine sm_if_eq (tgt := 130) hO dX10_findRings_96 (by decide) ?_ ?_
  · exact sm_sub [1, 2, 3, 4] rfl (tX10_findRings_130 hO hr hk (fX10_findRings_131 k52) (tX10_findRings_131 hO hr hk k52 hk52) aL0 xL1 xL2 xL3)
  · refine sm_aload_n hO 1 dX10_findRings_99 rfl rfl ?_
    refine sm_gr hO fl_RX10_50 dX10_findRings_100 (fun a1 => ?_)
    refine sm_iload_n hO 2 dX10_findRings_103 rfl rfl ?_
    refine sm_iload_n hO 4 dX10_findRings_104 rfl rfl ?_
    refine sm_iconst (v := (-1)) hO dX10_findRings_105 rfl ?_
    refine sm_ixor hO dX10_findRings_106 ?_
    refine sm_iand hO dX10_findRings_107 ?_
    refine sm_li hO dX10_findRings_108 (fun x2 => ?_)
    refine sm_iconst (v := 1) hO dX10_findRings_109 rfl ?_
    refine sm_iadd hO dX10_findRings_110 ?_
    refine sm_iload_n hO 3 dX10_findRings_111 rfl rfl ?_
    refine sm_icmp_le (tgt := 130) hO dX10_findRings_112 (by decide) ?_ ?_
    · exact sm_sub [1, 2, 3, 4] rfl (tX10_findRings_130 hO hr hk (fX10_findRings_131 k52) (tX10_findRings_131 hO hr hk k52 hk52) aL0 xL1 xL2 xL3)
    · refine sm_aload_n hO 1 dX10_findRings_115 rfl rfl ?_
      refine sm_gr hO fl_RX10_50 dX10_findRings_116 (fun a3 => ?_)
      refine sm_iload_n hO 2 dX10_findRings_119 rfl rfl ?_
      refine sm_iload_n hO 4 dX10_findRings_120 rfl rfl ?_
      refine sm_iconst (v := (-1)) hO dX10_findRings_121 rfl ?_
      refine sm_ixor hO dX10_findRings_122 ?_
      refine sm_iand hO dX10_findRings_123 ?_
      refine sm_li hO dX10_findRings_124 (fun x4 => ?_)
      refine sm_iconst (v := 1) hO dX10_findRings_125 rfl ?_
      refine sm_iadd hO dX10_findRings_126 ?_
      refine sm_goto (tgt := 131) hO dX10_findRings_127 (by decide) ?_
      exact sm_sub [1, 2, 4] rfl (tX10_findRings_131 hO hr hk k52 hk52 aL0 xL1 xL3 (x4 + 1))
set_option maxRecDepth 100000 in
set_option maxHeartbeats 4000000 in
theorem tX10_findRings_52 {p : Program} {l : Launch} {e : Env} {s : State} {m : MethodId} {args : Array Value} {below : List Frame} {meth : Method} {c : Code} {G : cG} (hO : c_Ok p s m c cX10_findRings 5 RX10 G) (hr : meth.sig.returnType = none) (hk : meth.locks = false) (k138 : Nat → Int32 → Int32 → MM Unit) (hk138 : ∀ (aL0 : Nat) (xL1 : Int32) (xL2 : Int32), Sm p l e { frames := 2, cells := 0, slots := 0, locals := 46 } s m args below meth c G 5 (c_Q G c_vv below args s 0 0) 0 0 138 [(0, .ref aL0), (1, .int xL1), (2, .int xL2)] [] (k138 aL0 xL1 xL2))  : ∀ (n : Nat) (aL0 : Nat) (xL1 : Int32) (xL2 : Int32) (xL3 : Int32), Sm p l e { frames := 2, cells := 0, slots := 0, locals := 46 } s m args below meth c G 5 (c_Q G c_vv below args s 0 0) 0 0 52 [(0, .ref aL0), (1, .int xL1), (2, .int xL2), (3, .int xL3)] [] (fX10_findRings_52 k138 n aL0 xL1 xL2 xL3) := by
  intro n
  induction n with
  | zero =>
    intro aL0 xL1 xL2 xL3
    exact sm_bad
  | succ n ih =>
    intro aL0 xL1 xL2 xL3
    rw [fX10_findRings_52]
    refine sm_iload_n hO 3 dX10_findRings_52 rfl rfl ?_
    refine sm_iload_n hO 1 dX10_findRings_53 rfl rfl ?_
    refine sm_icmp_gt (tgt := 138) hO dX10_findRings_54 (by decide) ?_ ?_
    · exact sm_sub [0, 1, 2] rfl (hk138 aL0 xL1 xL2)
    · refine sm_iload_n hO 3 dX10_findRings_57 rfl rfl ?_
      refine sm_iload_n hO 1 dX10_findRings_58 rfl rfl ?_
      refine sm_iconst (v := (-1)) hO dX10_findRings_59 rfl ?_
      refine sm_ixor hO dX10_findRings_60 ?_
      refine sm_iand hO dX10_findRings_61 ?_
      refine sm_if_ne (tgt := 91) hO dX10_findRings_62 (by decide) ?_ ?_
      · exact sm_sub [0, 1, 2, 3] rfl (tX10_findRings_91 hO hr hk (fX10_findRings_92 (fX10_findRings_52 k138 n)) (tX10_findRings_92 hO hr hk (fX10_findRings_52 k138 n) ih) aL0 xL1 xL2 xL3)
      · refine sm_aload_n hO 0 dX10_findRings_65 rfl rfl ?_
        refine sm_gr hO fl_RX10_53 dX10_findRings_66 (fun a1 => ?_)
        refine sm_iload_n hO 3 dX10_findRings_69 rfl rfl ?_
        refine sm_lz hO dX10_findRings_70 (fun x2 => ?_)
        refine sm_if_eq (tgt := 91) hO dX10_findRings_71 (by decide) ?_ ?_
        · exact sm_sub [0, 1, 2, 3] rfl (tX10_findRings_91 hO hr hk (fX10_findRings_92 (fX10_findRings_52 k138 n)) (tX10_findRings_92 hO hr hk (fX10_findRings_52 k138 n) ih) aL0 xL1 xL2 xL3)
        · refine sm_aload_n hO 0 dX10_findRings_74 rfl rfl ?_
          refine sm_gr hO fl_RX10_50 dX10_findRings_75 (fun a3 => ?_)
          refine sm_iload_n hO 1 dX10_findRings_78 rfl rfl ?_
          refine sm_iload_n hO 3 dX10_findRings_79 rfl rfl ?_
          refine sm_iconst (v := (-1)) hO dX10_findRings_80 rfl ?_
          refine sm_ixor hO dX10_findRings_81 ?_
          refine sm_iand hO dX10_findRings_82 ?_
          refine sm_li hO dX10_findRings_83 (fun x4 => ?_)
          refine sm_if_lt (tgt := 91) hO dX10_findRings_84 (by decide) ?_ ?_
          · exact sm_sub [0, 1, 2, 3] rfl (tX10_findRings_91 hO hr hk (fX10_findRings_92 (fX10_findRings_52 k138 n)) (tX10_findRings_92 hO hr hk (fX10_findRings_52 k138 n) ih) aL0 xL1 xL2 xL3)
          · refine sm_iconst (v := 1) hO dX10_findRings_87 rfl ?_
            refine sm_goto (tgt := 92) hO dX10_findRings_88 (by decide) ?_
            exact sm_sub [0, 1, 2, 3] rfl (tX10_findRings_92 hO hr hk (fX10_findRings_52 k138 n) ih aL0 xL1 xL2 xL3 1)
set_option maxRecDepth 100000 in
set_option maxHeartbeats 4000000 in
theorem tX10_findRings_138 {p : Program} {l : Launch} {e : Env} {s : State} {m : MethodId} {args : Array Value} {below : List Frame} {meth : Method} {c : Code} {G : cG} (hO : c_Ok p s m c cX10_findRings 5 RX10 G) (hr : meth.sig.returnType = none) (hk : meth.locks = false) (k38 : Nat → Int32 → MM Unit) (hk38 : ∀ (aL0 : Nat) (xL1 : Int32), Sm p l e { frames := 2, cells := 0, slots := 0, locals := 46 } s m args below meth c G 5 (c_Q G c_vv below args s 0 0) 0 0 38 [(0, .ref aL0), (1, .int xL1)] [] (k38 aL0 xL1))  : ∀ (aL0 : Nat) (xL1 : Int32) (xL2 : Int32), Sm p l e { frames := 2, cells := 0, slots := 0, locals := 46 } s m args below meth c G 5 (c_Q G c_vv below args s 0 0) 0 0 138 [(0, .ref aL0), (1, .int xL1), (2, .int xL2)] [] (fX10_findRings_138 k38 aL0 xL1 xL2) := by
  intro aL0 xL1 xL2
  rw [fX10_findRings_138]
  refine sm_aload_n hO 0 dX10_findRings_138 rfl rfl ?_
  refine sm_gr hO fl_RX10_50 dX10_findRings_139 (fun a1 => ?_)
  refine sm_iload_n hO 1 dX10_findRings_142 rfl rfl ?_
  refine sm_iload_n hO 2 dX10_findRings_143 rfl rfl ?_
  refine sm_si hO dX10_findRings_144 ?_
  refine sm_iincL (v := xL1 + 1) hO 1 (fun x2 => [(1, .int x2), (0, .ref aL0), (2, .int xL2)]) dX10_findRings_145 rfl rfl (by decide) (fun _ => rfl) (fun x2 => ?_)
  refine sm_goto (tgt := 38) hO dX10_findRings_148 (by decide) ?_
  exact sm_sub [1, 0] rfl (hk38 aL0 x2)
set_option maxRecDepth 100000 in
set_option maxHeartbeats 4000000 in
theorem tX10_findRings_38 {p : Program} {l : Launch} {e : Env} {s : State} {m : MethodId} {args : Array Value} {below : List Frame} {meth : Method} {c : Code} {G : cG} (hO : c_Ok p s m c cX10_findRings 5 RX10 G) (hr : meth.sig.returnType = none) (hk : meth.locks = false) : ∀ (n : Nat) (aL0 : Nat) (xL1 : Int32), Sm p l e { frames := 2, cells := 0, slots := 0, locals := 46 } s m args below meth c G 5 (c_Q G c_vv below args s 0 0) 0 0 38 [(0, .ref aL0), (1, .int xL1)] [] (fX10_findRings_38 n aL0 xL1) := by
  intro n
  induction n with
  | zero =>
    intro aL0 xL1
    exact sm_bad
  | succ n ih =>
    intro aL0 xL1
    rw [fX10_findRings_38]
    refine sm_iload_n hO 1 dX10_findRings_38 rfl rfl ?_
    refine sm_iconst (v := 1) hO dX10_findRings_39 rfl ?_
    refine sm_aload_n hO 0 dX10_findRings_40 rfl rfl ?_
    refine sm_gi hO fl_RX10_79 dX10_findRings_41 (fun x1 => ?_)
    refine sm_ishl hO dX10_findRings_44 ?_
    refine sm_icmp_ge (tgt := 151) hO dX10_findRings_45 (by decide) ?_ ?_
    · exact sm_vret hO hr hk (Nat.le_of_ble_eq_true rfl) (Nat.le_of_ble_eq_true rfl) dX10_findRings_151
    · refine sm_iconst (v := (-1)) hO dX10_findRings_48 rfl ?_
      refine sm_istore_n hO [(2, .int ((-1))), (0, .ref aL0), (1, .int xL1)] dX10_findRings_49 rfl (by decide) rfl ?_
      refine sm_iconst (v := 1) hO dX10_findRings_50 rfl ?_
      refine sm_istore_n hO [(3, .int 1), (2, .int ((-1))), (0, .ref aL0), (1, .int xL1)] dX10_findRings_51 rfl (by decide) rfl ?_
      exact sm_sub [2, 3, 1, 0] rfl (tX10_findRings_52 hO hr hk (fX10_findRings_138 (fX10_findRings_38 n)) (tX10_findRings_138 hO hr hk (fX10_findRings_38 n) ih) c_fu aL0 xL1 ((-1)) 1)
set_option maxRecDepth 100000 in
set_option maxHeartbeats 4000000 in
theorem tX10_findRings_29 {p : Program} {l : Launch} {e : Env} {s : State} {m : MethodId} {args : Array Value} {below : List Frame} {meth : Method} {c : Code} {G : cG} (hO : c_Ok p s m c cX10_findRings 5 RX10 G) (hr : meth.sig.returnType = none) (hk : meth.locks = false) : ∀ (aL0 : Nat), Sm p l e { frames := 2, cells := 0, slots := 0, locals := 46 } s m args below meth c G 5 (c_Q G c_vv below args s 0 0) 0 0 29 [(0, .ref aL0)] [] (fX10_findRings_29 aL0) := by
  intro aL0
  rw [fX10_findRings_29]
  refine sm_aload_n hO 0 dX10_findRings_29 rfl rfl ?_
  refine sm_gr hO fl_RX10_50 dX10_findRings_30 (fun a1 => ?_)
  refine sm_iconst (v := 0) hO dX10_findRings_33 rfl ?_
  refine sm_iconst (v := 0) hO dX10_findRings_34 rfl ?_
  refine sm_si hO dX10_findRings_35 ?_
  refine sm_iconst (v := 1) hO dX10_findRings_36 rfl ?_
  refine sm_istore_n hO [(1, .int 1), (0, .ref aL0)] dX10_findRings_37 rfl (by decide) rfl ?_
  exact sm_sub [1, 0] rfl (tX10_findRings_38 hO hr hk c_fu aL0 1)
set_option maxRecDepth 100000 in
set_option maxHeartbeats 4000000 in
theorem ctX10_findRings (l : Launch) (G : cG) (a0_ : Nat) : Ct l G yX10_findRings cX10_findRings 5 none 2 46 0 0 [.ref a0_] c_vv (pX10_findRings a0_) := by
  refine Ct.of (lv := [(0, .ref a0_)]) (by decide) (Nat.le_of_ble_eq_true rfl) rfl (fun p e s m args below meth c hO hr hk hin => ?_)
  rw [pX10_findRings]
  refine sm_iconst (v := 0) hO dX10_findRings_0 rfl ?_
  refine sm_istore_n hO [(1, .int 0), (0, .ref a0_)] dX10_findRings_1 rfl (by decide) rfl ?_
  exact sm_sub [1, 0] rfl (tX10_findRings_2 hO hr hk fX10_findRings_29 (tX10_findRings_29 hO hr hk) c_fu a0_ 0)
/-! DollCongressModel.fewestSwaps()I -/
def pX10_fewestSwaps (a0_ : Nat) : MM Int32 := m_cv a0_ 9 (pX10_findRings a0_) (fun _ => m_cv a0_ 9 (pX10_wrongOnes a0_) (fun x1 => m_gr a0_ 9 28 (fun a2 => m_li 0 a2 x1 (fun x3 => if 0 ≤ x3 then (m_bind (pX10_bits x1) (fun x4 => m_gr a0_ 9 28 (fun a5 => m_li 0 a5 x1 (fun x6 => m_ret (x4 - x6))))) else (m_ret ((-1) : Int32))))))
set_option maxRecDepth 100000 in
set_option maxHeartbeats 4000000 in
theorem ctX10_fewestSwaps (l : Launch) (G : cG) (a0_ : Nat) : Ct l G yX10_fewestSwaps cX10_fewestSwaps 2 (some .int) 3 70 0 0 [.ref a0_] c_vi (pX10_fewestSwaps a0_) := by
  refine Ct.of (lv := [(0, .ref a0_)]) (by decide) (Nat.le_of_ble_eq_true rfl) rfl (fun p e s m args below meth c hO hr hk hin => ?_)
  rw [pX10_fewestSwaps]
  refine sm_aload_n hO 0 dX10_fewestSwaps_0 rfl rfl ?_
  refine sm_cvv hO (ctX10_findRings l G a0_) cw_RX10_283 cv_X10_findRings [] rfl rfl ⟨(Nat.le_of_ble_eq_true rfl), (Nat.le_of_ble_eq_true rfl)⟩ ⟨(Nat.le_of_ble_eq_true rfl), (Nat.le_of_ble_eq_true rfl)⟩ (Nat.le_of_ble_eq_true rfl) dX10_fewestSwaps_1 (fun _ => ?_)
  refine sm_aload_n hO 0 dX10_fewestSwaps_4 rfl rfl ?_
  refine sm_cvi hO (ctX10_wrongOnes l G a0_) cw_RX10_197 cv_X10_wrongOnes [] rfl rfl ⟨(Nat.le_of_ble_eq_true rfl), (Nat.le_of_ble_eq_true rfl)⟩ ⟨(Nat.le_of_ble_eq_true rfl), (Nat.le_of_ble_eq_true rfl)⟩ (Nat.le_of_ble_eq_true rfl) dX10_fewestSwaps_5 (fun x1 => ?_)
  refine sm_istore_n hO [(1, .int x1), (0, .ref a0_)] dX10_fewestSwaps_8 rfl (by decide) rfl ?_
  refine sm_aload_n hO 1 dX10_fewestSwaps_9 rfl rfl ?_
  refine sm_gr hO fl_RX10_50 dX10_fewestSwaps_10 (fun a2 => ?_)
  refine sm_iload_n hO 0 dX10_fewestSwaps_13 rfl rfl ?_
  refine sm_li hO dX10_fewestSwaps_14 (fun x3 => ?_)
  refine sm_if_ge (tgt := 22) hO dX10_fewestSwaps_15 (by decide) ?_ ?_
  · refine sm_iload_n hO 0 dX10_fewestSwaps_22 rfl rfl ?_
    refine sm_csi hO (ctX10_bits l G x1) cw_RX10_188 kw_1004 [] rfl rfl ⟨(Nat.le_of_ble_eq_true rfl), (Nat.le_of_ble_eq_true rfl)⟩ ⟨(Nat.le_of_ble_eq_true rfl), (Nat.le_of_ble_eq_true rfl)⟩ (Nat.le_of_ble_eq_true rfl) dX10_fewestSwaps_23 (fun x4 => ?_)
    refine sm_aload_n hO 1 dX10_fewestSwaps_26 rfl rfl ?_
    refine sm_gr hO fl_RX10_50 dX10_fewestSwaps_27 (fun a5 => ?_)
    refine sm_iload_n hO 0 dX10_fewestSwaps_30 rfl rfl ?_
    refine sm_li hO dX10_fewestSwaps_31 (fun x6 => ?_)
    refine sm_isub hO dX10_fewestSwaps_32 ?_
    exact sm_iret hO hr hk (Nat.le_of_ble_eq_true rfl) (Nat.le_of_ble_eq_true rfl) dX10_fewestSwaps_33
  · refine sm_iconst (v := (-1)) hO dX10_fewestSwaps_18 rfl ?_
    refine sm_goto (tgt := 33) hO dX10_fewestSwaps_19 (by decide) ?_
    exact sm_iret hO hr hk (Nat.le_of_ble_eq_true rfl) (Nat.le_of_ble_eq_true rfl) dX10_fewestSwaps_33
/-! DollCongressModel.firstSwap(I)I -/
def fX10_firstSwap_69 (k14 : Nat → Int32 → Int32 → Int32 → MM Int32) (k92 : Int32 → Int32 → MM Int32) (aL0 : Nat) (xL1 : Int32) (xL2 : Int32) (xL3 : Int32) (xL4 : Int32) (xL5 : Int32) (xS0 : Int32) : MM Int32 := m_gr aL0 9 8 (fun a1 => m_si a1 xL2 xL4 (m_gr aL0 9 8 (fun a2 => m_si a2 xL3 xL5 (if xS0 = 0 then (m_let (xL3 + 1) (fun x3 => k14 aL0 xL1 xL2 x3)) else (k92 xL2 xL3)))))
def fX10_firstSwap_14 (k92 : Int32 → Int32 → MM Int32) (k105 : Nat → Int32 → Int32 → MM Int32) : Nat → Nat → Int32 → Int32 → Int32 → MM Int32
  | 0, _, _, _, _ => m_bad
  | n + 1, aL0, xL1, xL2, xL3 => m_gi aL0 9 2 (fun x1 => if x1 ≤ xL3 then (k105 aL0 xL1 xL2) else (m_gr aL0 9 8 (fun a2 => m_li 0 a2 xL2 (fun x3 => m_gr aL0 9 8 (fun a4 => m_li 0 a4 xL3 (fun x5 => m_gr aL0 9 8 (fun a6 => m_si a6 xL2 x5 (m_gr aL0 9 8 (fun a7 => m_si a7 xL3 x3 (m_cv aL0 9 (pX10_fewestSwaps aL0) (fun x8 => if x8 = (xL1 - 1) then (fX10_firstSwap_69 (fX10_firstSwap_14 k92 k105 n) k92 aL0 xL1 xL2 xL3 x3 x5 1) else (fX10_firstSwap_69 (fX10_firstSwap_14 k92 k105 n) k92 aL0 xL1 xL2 xL3 x3 x5 0))))))))))))
def fX10_firstSwap_105 (k2 : Nat → Int32 → Int32 → MM Int32) (aL0 : Nat) (xL1 : Int32) (xL2 : Int32) : MM Int32 := m_let (xL2 + 1) (fun x1 => k2 aL0 xL1 x1)
def fX10_firstSwap_2 (k92 : Int32 → Int32 → MM Int32) : Nat → Nat → Int32 → Int32 → MM Int32
  | 0, _, _, _ => m_bad
  | n + 1, aL0, xL1, xL2 => m_gi aL0 9 2 (fun x1 => if x1 ≤ xL2 then (m_ret ((-1) : Int32)) else (m_let (xL2 + 1) (fun x2 => fX10_firstSwap_14 k92 (fX10_firstSwap_105 (fX10_firstSwap_2 k92 n)) c_fu aL0 xL1 xL2 x2)))
def fX10_firstSwap_92  (xL2 : Int32) (xL3 : Int32) : MM Int32 := m_ret (((10 : Int32) * xL2) + xL3)
def pX10_firstSwap (a0_ : Nat) (x1_ : Int32) : MM Int32 := fX10_firstSwap_2 fX10_firstSwap_92 c_fu a0_ x1_ 0
set_option maxRecDepth 100000 in
set_option maxHeartbeats 4000000 in
theorem tX10_firstSwap_69 {p : Program} {l : Launch} {e : Env} {s : State} {m : MethodId} {args : Array Value} {below : List Frame} {meth : Method} {c : Code} {G : cG} (hO : c_Ok p s m c cX10_firstSwap 7 RX10 G) (hr : meth.sig.returnType = (some .int)) (hk : meth.locks = false) (k14 : Nat → Int32 → Int32 → Int32 → MM Int32)  (k92 : Int32 → Int32 → MM Int32) (hk14 : ∀ (aL0 : Nat) (xL1 : Int32) (xL2 : Int32) (xL3 : Int32), Sm p l e { frames := 4, cells := 0, slots := 0, locals := 91 } s m args below meth c G 7 (c_Q G c_vi below args s 0 0) 0 0 14 [(0, .ref aL0), (1, .int xL1), (2, .int xL2), (3, .int xL3)] [] (k14 aL0 xL1 xL2 xL3)) (hk92 : ∀ (xL2 : Int32) (xL3 : Int32), Sm p l e { frames := 4, cells := 0, slots := 0, locals := 91 } s m args below meth c G 7 (c_Q G c_vi below args s 0 0) 0 0 92 [(2, .int xL2), (3, .int xL3)] [] (k92 xL2 xL3))  : ∀ (aL0 : Nat) (xL1 : Int32) (xL2 : Int32) (xL3 : Int32) (xL4 : Int32) (xL5 : Int32) (xS0 : Int32), Sm p l e { frames := 4, cells := 0, slots := 0, locals := 91 } s m args below meth c G 7 (c_Q G c_vi below args s 0 0) 0 0 69 [(0, .ref aL0), (1, .int xL1), (2, .int xL2), (3, .int xL3), (4, .int xL4), (5, .int xL5)] [.int xS0] (fX10_firstSwap_69 k14 k92 aL0 xL1 xL2 xL3 xL4 xL5 xS0) := by
  intro aL0 xL1 xL2 xL3 xL4 xL5 xS0
  rw [fX10_firstSwap_69]
  refine sm_istore hO [(6, .int xS0), (0, .ref aL0), (1, .int xL1), (2, .int xL2), (3, .int xL3), (4, .int xL4), (5, .int xL5)] dX10_firstSwap_69 (by decide) rfl ?_
  refine sm_aload_n hO 1 dX10_firstSwap_71 rfl rfl ?_
  refine sm_gr hO fl_RX10_22 dX10_firstSwap_72 (fun a1 => ?_)
  refine sm_iload_n hO 3 dX10_firstSwap_75 rfl rfl ?_
  refine sm_iload hO 5 dX10_firstSwap_76 rfl ?_
  refine sm_si hO dX10_firstSwap_78 ?_
  refine sm_aload_n hO 1 dX10_firstSwap_79 rfl rfl ?_
  refine sm_gr hO fl_RX10_22 dX10_firstSwap_80 (fun a2 => ?_)
  refine sm_iload_n hO 4 dX10_firstSwap_83 rfl rfl ?_
  refine sm_iload hO 6 dX10_firstSwap_84 rfl ?_
  refine sm_si hO dX10_firstSwap_86 ?_
  refine sm_iload hO 0 dX10_firstSwap_87 rfl ?_
  refine sm_if_eq (tgt := 99) hO dX10_firstSwap_89 (by decide) ?_ ?_
  · refine sm_iincL (v := xL3 + 1) hO 4 (fun x3 => [(3, .int x3), (6, .int xS0), (0, .ref aL0), (1, .int xL1), (2, .int xL2), (4, .int xL4), (5, .int xL5)]) dX10_firstSwap_99 rfl rfl (by decide) (fun _ => rfl) (fun x3 => ?_)
    refine sm_goto (tgt := 14) hO dX10_firstSwap_102 (by decide) ?_
    exact sm_sub [2, 3, 4, 0] rfl (hk14 aL0 xL1 xL2 x3)
  · exact sm_sub [3, 4] rfl (hk92 xL2 xL3)
set_option maxRecDepth 100000 in
set_option maxHeartbeats 4000000 in
theorem tX10_firstSwap_14 {p : Program} {l : Launch} {e : Env} {s : State} {m : MethodId} {args : Array Value} {below : List Frame} {meth : Method} {c : Code} {G : cG} (hO : c_Ok p s m c cX10_firstSwap 7 RX10 G) (hr : meth.sig.returnType = (some .int)) (hk : meth.locks = false) (k92 : Int32 → Int32 → MM Int32)  (k105 : Nat → Int32 → Int32 → MM Int32) (hk92 : ∀ (xL2 : Int32) (xL3 : Int32), Sm p l e { frames := 4, cells := 0, slots := 0, locals := 91 } s m args below meth c G 7 (c_Q G c_vi below args s 0 0) 0 0 92 [(2, .int xL2), (3, .int xL3)] [] (k92 xL2 xL3)) (hk105 : ∀ (aL0 : Nat) (xL1 : Int32) (xL2 : Int32), Sm p l e { frames := 4, cells := 0, slots := 0, locals := 91 } s m args below meth c G 7 (c_Q G c_vi below args s 0 0) 0 0 105 [(0, .ref aL0), (1, .int xL1), (2, .int xL2)] [] (k105 aL0 xL1 xL2))  : ∀ (n : Nat) (aL0 : Nat) (xL1 : Int32) (xL2 : Int32) (xL3 : Int32), Sm p l e { frames := 4, cells := 0, slots := 0, locals := 91 } s m args below meth c G 7 (c_Q G c_vi below args s 0 0) 0 0 14 [(0, .ref aL0), (1, .int xL1), (2, .int xL2), (3, .int xL3)] [] (fX10_firstSwap_14 k92 k105 n aL0 xL1 xL2 xL3) := by
  intro n
  induction n with
  | zero =>
    intro aL0 xL1 xL2 xL3
    exact sm_bad
  | succ n ih =>
    intro aL0 xL1 xL2 xL3
    rw [fX10_firstSwap_14]
    refine sm_iload_n hO 3 dX10_firstSwap_14 rfl rfl ?_
    refine sm_aload_n hO 0 dX10_firstSwap_15 rfl rfl ?_
    refine sm_gi hO fl_RX10_79 dX10_firstSwap_16 (fun x1 => ?_)
    refine sm_icmp_ge (tgt := 105) hO dX10_firstSwap_19 (by decide) ?_ ?_
    · exact sm_sub [0, 1, 2] rfl (hk105 aL0 xL1 xL2)
    · refine sm_aload_n hO 0 dX10_firstSwap_22 rfl rfl ?_
      refine sm_gr hO fl_RX10_22 dX10_firstSwap_23 (fun a2 => ?_)
      refine sm_iload_n hO 2 dX10_firstSwap_26 rfl rfl ?_
      refine sm_li hO dX10_firstSwap_27 (fun x3 => ?_)
      refine sm_istore hO [(4, .int x3), (0, .ref aL0), (1, .int xL1), (2, .int xL2), (3, .int xL3)] dX10_firstSwap_28 (by decide) rfl ?_
      refine sm_aload_n hO 1 dX10_firstSwap_30 rfl rfl ?_
      refine sm_gr hO fl_RX10_22 dX10_firstSwap_31 (fun a4 => ?_)
      refine sm_iload_n hO 4 dX10_firstSwap_34 rfl rfl ?_
      refine sm_li hO dX10_firstSwap_35 (fun x5 => ?_)
      refine sm_istore hO [(5, .int x5), (4, .int x3), (0, .ref aL0), (1, .int xL1), (2, .int xL2), (3, .int xL3)] dX10_firstSwap_36 (by decide) rfl ?_
      refine sm_aload_n hO 2 dX10_firstSwap_38 rfl rfl ?_
      refine sm_gr hO fl_RX10_22 dX10_firstSwap_39 (fun a6 => ?_)
      refine sm_iload_n hO 4 dX10_firstSwap_42 rfl rfl ?_
      refine sm_iload hO 0 dX10_firstSwap_43 rfl ?_
      refine sm_si hO dX10_firstSwap_45 ?_
      refine sm_aload_n hO 2 dX10_firstSwap_46 rfl rfl ?_
      refine sm_gr hO fl_RX10_22 dX10_firstSwap_47 (fun a7 => ?_)
      refine sm_iload_n hO 5 dX10_firstSwap_50 rfl rfl ?_
      refine sm_iload hO 1 dX10_firstSwap_51 rfl ?_
      refine sm_si hO dX10_firstSwap_53 ?_
      refine sm_aload_n hO 2 dX10_firstSwap_54 rfl rfl ?_
      refine sm_cvi hO (ctX10_fewestSwaps l G aL0) cw_RX10_286 cv_X10_fewestSwaps [] rfl rfl ⟨(Nat.le_of_ble_eq_true rfl), (Nat.le_of_ble_eq_true rfl)⟩ ⟨(Nat.le_of_ble_eq_true rfl), (Nat.le_of_ble_eq_true rfl)⟩ (Nat.le_of_ble_eq_true rfl) dX10_firstSwap_55 (fun x8 => ?_)
      refine sm_iload_n hO 3 dX10_firstSwap_58 rfl rfl ?_
      refine sm_iconst (v := 1) hO dX10_firstSwap_59 rfl ?_
      refine sm_isub hO dX10_firstSwap_60 ?_
      refine sm_icmp_ne (tgt := 68) hO dX10_firstSwap_61 (by decide) ?_ ?_
      · refine sm_iconst (v := 0) hO dX10_firstSwap_68 rfl ?_
        exact sm_sub [2, 3, 4, 5, 1, 0] rfl (tX10_firstSwap_69 hO hr hk (fX10_firstSwap_14 k92 k105 n) k92 ih hk92 aL0 xL1 xL2 xL3 x3 x5 0)
      · refine sm_iconst (v := 1) hO dX10_firstSwap_64 rfl ?_
        refine sm_goto (tgt := 69) hO dX10_firstSwap_65 (by decide) ?_
        exact sm_sub [2, 3, 4, 5, 1, 0] rfl (tX10_firstSwap_69 hO hr hk (fX10_firstSwap_14 k92 k105 n) k92 ih hk92 aL0 xL1 xL2 xL3 x3 x5 1)
set_option maxRecDepth 100000 in
set_option maxHeartbeats 4000000 in
theorem tX10_firstSwap_105 {p : Program} {l : Launch} {e : Env} {s : State} {m : MethodId} {args : Array Value} {below : List Frame} {meth : Method} {c : Code} {G : cG} (hO : c_Ok p s m c cX10_firstSwap 7 RX10 G) (hr : meth.sig.returnType = (some .int)) (hk : meth.locks = false) (k2 : Nat → Int32 → Int32 → MM Int32) (hk2 : ∀ (aL0 : Nat) (xL1 : Int32) (xL2 : Int32), Sm p l e { frames := 4, cells := 0, slots := 0, locals := 91 } s m args below meth c G 7 (c_Q G c_vi below args s 0 0) 0 0 2 [(0, .ref aL0), (1, .int xL1), (2, .int xL2)] [] (k2 aL0 xL1 xL2))  : ∀ (aL0 : Nat) (xL1 : Int32) (xL2 : Int32), Sm p l e { frames := 4, cells := 0, slots := 0, locals := 91 } s m args below meth c G 7 (c_Q G c_vi below args s 0 0) 0 0 105 [(0, .ref aL0), (1, .int xL1), (2, .int xL2)] [] (fX10_firstSwap_105 k2 aL0 xL1 xL2) := by
  intro aL0 xL1 xL2
  rw [fX10_firstSwap_105]
  refine sm_iincL (v := xL2 + 1) hO 2 (fun x1 => [(2, .int x1), (0, .ref aL0), (1, .int xL1)]) dX10_firstSwap_105 rfl rfl (by decide) (fun _ => rfl) (fun x1 => ?_)
  refine sm_goto (tgt := 2) hO dX10_firstSwap_108 (by decide) ?_
  exact sm_sub [1, 2, 0] rfl (hk2 aL0 xL1 x1)
set_option maxRecDepth 100000 in
set_option maxHeartbeats 4000000 in
theorem tX10_firstSwap_2 {p : Program} {l : Launch} {e : Env} {s : State} {m : MethodId} {args : Array Value} {below : List Frame} {meth : Method} {c : Code} {G : cG} (hO : c_Ok p s m c cX10_firstSwap 7 RX10 G) (hr : meth.sig.returnType = (some .int)) (hk : meth.locks = false) (k92 : Int32 → Int32 → MM Int32) (hk92 : ∀ (xL2 : Int32) (xL3 : Int32), Sm p l e { frames := 4, cells := 0, slots := 0, locals := 91 } s m args below meth c G 7 (c_Q G c_vi below args s 0 0) 0 0 92 [(2, .int xL2), (3, .int xL3)] [] (k92 xL2 xL3))  : ∀ (n : Nat) (aL0 : Nat) (xL1 : Int32) (xL2 : Int32), Sm p l e { frames := 4, cells := 0, slots := 0, locals := 91 } s m args below meth c G 7 (c_Q G c_vi below args s 0 0) 0 0 2 [(0, .ref aL0), (1, .int xL1), (2, .int xL2)] [] (fX10_firstSwap_2 k92 n aL0 xL1 xL2) := by
  intro n
  induction n with
  | zero =>
    intro aL0 xL1 xL2
    exact sm_bad
  | succ n ih =>
    intro aL0 xL1 xL2
    rw [fX10_firstSwap_2]
    refine sm_iload_n hO 2 dX10_firstSwap_2 rfl rfl ?_
    refine sm_aload_n hO 0 dX10_firstSwap_3 rfl rfl ?_
    refine sm_gi hO fl_RX10_79 dX10_firstSwap_4 (fun x1 => ?_)
    refine sm_icmp_ge (tgt := 111) hO dX10_firstSwap_7 (by decide) ?_ ?_
    · refine sm_iconst (v := (-1)) hO dX10_firstSwap_111 rfl ?_
      exact sm_iret hO hr hk (Nat.le_of_ble_eq_true rfl) (Nat.le_of_ble_eq_true rfl) dX10_firstSwap_112
    · refine sm_iload_n hO 2 dX10_firstSwap_10 rfl rfl ?_
      refine sm_iconst (v := 1) hO dX10_firstSwap_11 rfl ?_
      refine sm_iadd hO dX10_firstSwap_12 ?_
      refine sm_topi (fun x2 => ?_)
      refine sm_istore_n hO [(3, .int x2), (0, .ref aL0), (1, .int xL1), (2, .int xL2)] dX10_firstSwap_13 rfl (by decide) rfl ?_
      exact sm_sub [1, 2, 3, 0] rfl (tX10_firstSwap_14 hO hr hk k92 (fX10_firstSwap_105 (fX10_firstSwap_2 k92 n)) hk92 (tX10_firstSwap_105 hO hr hk (fX10_firstSwap_2 k92 n) ih) c_fu aL0 xL1 xL2 x2)
set_option maxRecDepth 100000 in
set_option maxHeartbeats 4000000 in
theorem tX10_firstSwap_92 {p : Program} {l : Launch} {e : Env} {s : State} {m : MethodId} {args : Array Value} {below : List Frame} {meth : Method} {c : Code} {G : cG} (hO : c_Ok p s m c cX10_firstSwap 7 RX10 G) (hr : meth.sig.returnType = (some .int)) (hk : meth.locks = false) : ∀ (xL2 : Int32) (xL3 : Int32), Sm p l e { frames := 4, cells := 0, slots := 0, locals := 91 } s m args below meth c G 7 (c_Q G c_vi below args s 0 0) 0 0 92 [(2, .int xL2), (3, .int xL3)] [] (fX10_firstSwap_92 xL2 xL3) := by
  intro xL2 xL3
  rw [fX10_firstSwap_92]
  refine sm_bipush (v := 10) hO dX10_firstSwap_92 rfl ?_
  refine sm_iload_n hO 0 dX10_firstSwap_94 rfl rfl ?_
  refine sm_imul hO dX10_firstSwap_95 ?_
  refine sm_iload_n hO 1 dX10_firstSwap_96 rfl rfl ?_
  refine sm_iadd hO dX10_firstSwap_97 ?_
  exact sm_iret hO hr hk (Nat.le_of_ble_eq_true rfl) (Nat.le_of_ble_eq_true rfl) dX10_firstSwap_98
set_option maxRecDepth 100000 in
set_option maxHeartbeats 4000000 in
theorem ctX10_firstSwap (l : Launch) (G : cG) (a0_ : Nat) (x1_ : Int32) : Ct l G yX10_firstSwap cX10_firstSwap 7 (some .int) 4 91 0 0 [.ref a0_, .int x1_] c_vi (pX10_firstSwap a0_ x1_) := by
  refine Ct.of (lv := [(0, .ref a0_), (1, .int x1_)]) (by decide) (Nat.le_of_ble_eq_true rfl) rfl (fun p e s m args below meth c hO hr hk hin => ?_)
  rw [pX10_firstSwap]
  refine sm_iconst (v := 0) hO dX10_firstSwap_0 rfl ?_
  refine sm_istore_n hO [(2, .int 0), (0, .ref a0_), (1, .int x1_)] dX10_firstSwap_1 rfl (by decide) rfl ?_
  exact sm_sub [1, 2, 0] rfl (tX10_firstSwap_2 hO hr hk fX10_firstSwap_92 (tX10_firstSwap_92 hO hr hk) c_fu a0_ x1_ 0)
/-! DollCongressModel.swaps(I)I -/
def fX10_swaps_27  (xL1 : Int32) (xL2 : Int32) : MM Int32 := if xL1 = 0 then (m_ret xL2) else (m_ret ((-1) : Int32))
def pX10_swaps (a0_ : Nat) (x1_ : Int32) : MM Int32 := m_bind (pX10_in (x1_.toInt64) 0 1) (fun x1 => if x1 = 0 then (m_ret ((-1000000002) : Int32)) else (m_cv a0_ 9 (pX10_fewestSwaps a0_) (fun x2 => if x1_ = 0 then (fX10_swaps_27 x1_ x2) else (if (1 : Int32) ≤ x2 then (m_cv a0_ 9 (pX10_firstSwap a0_ x2) (fun x3 => m_ret x3)) else (fX10_swaps_27 x1_ x2)))))
set_option maxRecDepth 100000 in
set_option maxHeartbeats 4000000 in
theorem tX10_swaps_27 {p : Program} {l : Launch} {e : Env} {s : State} {m : MethodId} {args : Array Value} {below : List Frame} {meth : Method} {c : Code} {G : cG} (hO : c_Ok p s m c cX10_swaps 3 RX10 G) (hr : meth.sig.returnType = (some .int)) (hk : meth.locks = false) : ∀ (xL1 : Int32) (xL2 : Int32), Sm p l e { frames := 5, cells := 0, slots := 0, locals := 117 } s m args below meth c G 3 (c_Q G c_vi below args s 0 0) 0 0 27 [(1, .int xL1), (2, .int xL2)] [] (fX10_swaps_27 xL1 xL2) := by
  intro xL1 xL2
  rw [fX10_swaps_27]
  refine sm_iload_n hO 0 dX10_swaps_27 rfl rfl ?_
  refine sm_if_ne (tgt := 35) hO dX10_swaps_28 (by decide) ?_ ?_
  · refine sm_iconst (v := (-1)) hO dX10_swaps_35 rfl ?_
    refine sm_goto (tgt := 44) hO dX10_swaps_36 (by decide) ?_
    exact sm_iret hO hr hk (Nat.le_of_ble_eq_true rfl) (Nat.le_of_ble_eq_true rfl) dX10_swaps_44
  · refine sm_iload_n hO 1 dX10_swaps_31 rfl rfl ?_
    refine sm_goto (tgt := 44) hO dX10_swaps_32 (by decide) ?_
    exact sm_iret hO hr hk (Nat.le_of_ble_eq_true rfl) (Nat.le_of_ble_eq_true rfl) dX10_swaps_44
set_option maxRecDepth 100000 in
set_option maxHeartbeats 4000000 in
theorem ctX10_swaps (l : Launch) (G : cG) (a0_ : Nat) (x1_ : Int32) : Ct l G yX10_swaps cX10_swaps 3 (some .int) 5 117 0 0 [.ref a0_, .int x1_] c_vi (pX10_swaps a0_ x1_) := by
  refine Ct.of (lv := [(0, .ref a0_), (1, .int x1_)]) (by decide) (Nat.le_of_ble_eq_true rfl) rfl (fun p e s m args below meth c hO hr hk hin => ?_)
  rw [pX10_swaps]
  refine sm_iload_n hO 1 dX10_swaps_0 rfl rfl ?_
  refine sm_i2l (v := x1_.toInt64) hO dX10_swaps_1 rfl ?_
  refine sm_lconst (v := 0) hO dX10_swaps_2 rfl ?_
  refine sm_lconst (v := 1) hO dX10_swaps_3 rfl ?_
  refine sm_csi hO (ctX10_in l G (x1_.toInt64) 0 1) cw_RX10_75 kw_923 [] rfl rfl ⟨(Nat.le_of_ble_eq_true rfl), (Nat.le_of_ble_eq_true rfl)⟩ ⟨(Nat.le_of_ble_eq_true rfl), (Nat.le_of_ble_eq_true rfl)⟩ (Nat.le_of_ble_eq_true rfl) dX10_swaps_4 (fun x1 => ?_)
  refine sm_if_ne (tgt := 13) hO dX10_swaps_7 (by decide) ?_ ?_
  · refine sm_aload_n hO 0 dX10_swaps_13 rfl rfl ?_
    refine sm_cvi hO (ctX10_fewestSwaps l G a0_) cw_RX10_286 cv_X10_fewestSwaps [] rfl rfl ⟨(Nat.le_of_ble_eq_true rfl), (Nat.le_of_ble_eq_true rfl)⟩ ⟨(Nat.le_of_ble_eq_true rfl), (Nat.le_of_ble_eq_true rfl)⟩ (Nat.le_of_ble_eq_true rfl) dX10_swaps_14 (fun x2 => ?_)
    refine sm_istore_n hO [(2, .int x2), (0, .ref a0_), (1, .int x1_)] dX10_swaps_17 rfl (by decide) rfl ?_
    refine sm_iload_n hO 2 dX10_swaps_18 rfl rfl ?_
    refine sm_if_eq (tgt := 27) hO dX10_swaps_19 (by decide) ?_ ?_
    · exact sm_sub [2, 0] rfl (tX10_swaps_27 hO hr hk x1_ x2)
    · refine sm_iload_n hO 0 dX10_swaps_22 rfl rfl ?_
      refine sm_iconst (v := 1) hO dX10_swaps_23 rfl ?_
      refine sm_icmp_ge (tgt := 39) hO dX10_swaps_24 (by decide) ?_ ?_
      · refine sm_aload_n hO 1 dX10_swaps_39 rfl rfl ?_
        refine sm_iload_n hO 0 dX10_swaps_40 rfl rfl ?_
        refine sm_cvi hO (ctX10_firstSwap l G a0_ x2) cw_RX10_289 cv_X10_firstSwap [] rfl rfl ⟨(Nat.le_of_ble_eq_true rfl), (Nat.le_of_ble_eq_true rfl)⟩ ⟨(Nat.le_of_ble_eq_true rfl), (Nat.le_of_ble_eq_true rfl)⟩ (Nat.le_of_ble_eq_true rfl) dX10_swaps_41 (fun x3 => ?_)
        exact sm_iret hO hr hk (Nat.le_of_ble_eq_true rfl) (Nat.le_of_ble_eq_true rfl) dX10_swaps_44
      · exact sm_sub [2, 0] rfl (tX10_swaps_27 hO hr hk x1_ x2)
  · refine sm_ldc (v := (-1000000002)) hO kw_925 dX10_swaps_10 ?_
    exact sm_iret hO hr hk (Nat.le_of_ble_eq_true rfl) (Nat.le_of_ble_eq_true rfl) dX10_swaps_12
/-! DollCongress.close(I)I -/
def pX9_close (a0_ : Nat) (x1_ : Int32) : MM Int32 := if x1_ < 0 then (m_ret ((-1000000002) : Int32)) else (if x1_ ≤ (6 : Int32) then (m_gr a0_ 8 7 (fun a1 => m_gr a0_ 8 1 (fun a2 => m_bind (pX6_within a1 a2 x1_) (fun x3 => m_ret x3)))) else (m_ret ((-1000000002) : Int32)))
set_option maxRecDepth 100000 in
set_option maxHeartbeats 4000000 in
theorem ctX9_close (l : Launch) (G : cG) (a0_ : Nat) (x1_ : Int32) : Ct l G yX9_close cX9_close 2 (some .int) 2 44 0 0 [.ref a0_, .int x1_] c_vi (pX9_close a0_ x1_) := by
  refine Ct.of (lv := [(0, .ref a0_), (1, .int x1_)]) (by decide) (Nat.le_of_ble_eq_true rfl) rfl (fun p e s m args below meth c hO hr hk hin => ?_)
  rw [pX9_close]
  refine sm_iload_n hO 1 dX9_close_0 rfl rfl ?_
  refine sm_if_lt (tgt := 10) hO dX9_close_1 (by decide) ?_ ?_
  · refine sm_ldc (v := (-1000000002)) hO kw_362 dX9_close_10 ?_
    exact sm_iret hO hr hk (Nat.le_of_ble_eq_true rfl) (Nat.le_of_ble_eq_true rfl) dX9_close_12
  · refine sm_iload_n hO 1 dX9_close_4 rfl rfl ?_
    refine sm_bipush (v := 6) hO dX9_close_5 rfl ?_
    refine sm_icmp_le (tgt := 13) hO dX9_close_7 (by decide) ?_ ?_
    · refine sm_aload_n hO 0 dX9_close_13 rfl rfl ?_
      refine sm_gr hO fl_RX9_60 dX9_close_14 (fun a1 => ?_)
      refine sm_aload_n hO 0 dX9_close_17 rfl rfl ?_
      refine sm_gr hO fl_RX9_19 dX9_close_18 (fun a2 => ?_)
      refine sm_iload_n hO 1 dX9_close_21 rfl rfl ?_
      refine sm_csi hO (ctX6_within l G a1 a2 x1_) cw_RX9_122 kw_469 [] rfl rfl ⟨(Nat.le_of_ble_eq_true rfl), (Nat.le_of_ble_eq_true rfl)⟩ ⟨(Nat.le_of_ble_eq_true rfl), (Nat.le_of_ble_eq_true rfl)⟩ (Nat.le_of_ble_eq_true rfl) dX9_close_22 (fun x3 => ?_)
      exact sm_iret hO hr hk (Nat.le_of_ble_eq_true rfl) (Nat.le_of_ble_eq_true rfl) dX9_close_25
    · refine sm_ldc (v := (-1000000002)) hO kw_362 dX9_close_10 ?_
      exact sm_iret hO hr hk (Nat.le_of_ble_eq_true rfl) (Nat.le_of_ble_eq_true rfl) dX9_close_12
/-! DollCongressModel.close(I)I -/
def pX10_close (a0_ : Nat) (x1_ : Int32) : MM Int32 := m_bind (pX10_in (x1_.toInt64) 0 6) (fun x1 => if x1 = 0 then (m_ret ((-1000000002) : Int32)) else (m_cv a0_ 9 (pX10_closeOnes a0_ x1_) (fun x2 => m_ret x2)))
set_option maxRecDepth 100000 in
set_option maxHeartbeats 4000000 in
theorem ctX10_close (l : Launch) (G : cG) (a0_ : Nat) (x1_ : Int32) : Ct l G yX10_close cX10_close 2 (some .int) 2 45 0 0 [.ref a0_, .int x1_] c_vi (pX10_close a0_ x1_) := by
  refine Ct.of (lv := [(0, .ref a0_), (1, .int x1_)]) (by decide) (Nat.le_of_ble_eq_true rfl) rfl (fun p e s m args below meth c hO hr hk hin => ?_)
  rw [pX10_close]
  refine sm_iload_n hO 1 dX10_close_0 rfl rfl ?_
  refine sm_i2l (v := x1_.toInt64) hO dX10_close_1 rfl ?_
  refine sm_lconst (v := 0) hO dX10_close_2 rfl ?_
  refine sm_ldc2 (v := 6) hO kw_1184 dX10_close_3 ?_
  refine sm_csi hO (ctX10_in l G (x1_.toInt64) 0 6) cw_RX10_75 kw_923 [] rfl rfl ⟨(Nat.le_of_ble_eq_true rfl), (Nat.le_of_ble_eq_true rfl)⟩ ⟨(Nat.le_of_ble_eq_true rfl), (Nat.le_of_ble_eq_true rfl)⟩ (Nat.le_of_ble_eq_true rfl) dX10_close_6 (fun x1 => ?_)
  refine sm_if_eq (tgt := 20) hO dX10_close_9 (by decide) ?_ ?_
  · refine sm_ldc (v := (-1000000002)) hO kw_925 dX10_close_20 ?_
    exact sm_iret hO hr hk (Nat.le_of_ble_eq_true rfl) (Nat.le_of_ble_eq_true rfl) dX10_close_22
  · refine sm_aload_n hO 0 dX10_close_12 rfl rfl ?_
    refine sm_iload_n hO 1 dX10_close_13 rfl rfl ?_
    refine sm_cvi hO (ctX10_closeOnes l G a0_ x1_) cw_RX10_200 cv_X10_closeOnes [] rfl rfl ⟨(Nat.le_of_ble_eq_true rfl), (Nat.le_of_ble_eq_true rfl)⟩ ⟨(Nat.le_of_ble_eq_true rfl), (Nat.le_of_ble_eq_true rfl)⟩ (Nat.le_of_ble_eq_true rfl) dX10_close_14 (fun x2 => ?_)
    refine sm_goto (tgt := 22) hO dX10_close_17 (by decide) ?_
    exact sm_iret hO hr hk (Nat.le_of_ble_eq_true rfl) (Nat.le_of_ble_eq_true rfl) dX10_close_22
/-! DollCongress$Signs.fitting(LDollCongress$Roll;LDollCongress$Scene;I)I -/
def fX6_fitting_38 (k5 : Nat → Nat → Int32 → Int32 → Int32 → MM Int32) (aL0 : Nat) (aL1 : Nat) (xL2 : Int32) (xL3 : Int32) (xL4 : Int32) : MM Int32 := m_let (xL4 + 1) (fun x1 => k5 aL0 aL1 xL2 xL3 x1)
def fX6_fitting_5  : Nat → Nat → Nat → Int32 → Int32 → Int32 → MM Int32
  | 0, _, _, _, _, _ => m_bad
  | n + 1, aL0, aL1, xL2, xL3, xL4 => m_gi aL0 4 6 (fun x1 => if x1 ≤ xL4 then (m_ret xL3) else (m_gr aL1 5 1 (fun a2 => m_li 0 a2 xL4 (fun x3 => m_gi aL0 4 7 (fun x4 => if ((x3 ^^^ x4) &&& xL2) = 0 then (m_let (xL3 ||| ((1 : Int32) <<< (xL4 &&& 31))) (fun x5 => fX6_fitting_38 (fX6_fitting_5 n) aL0 aL1 xL2 x5 xL4)) else (fX6_fitting_38 (fX6_fitting_5 n) aL0 aL1 xL2 xL3 xL4))))))
def pX6_fitting (a0_ : Nat) (a1_ : Nat) (x2_ : Int32) : MM Int32 := fX6_fitting_5 c_fu a0_ a1_ x2_ 0 0
set_option maxRecDepth 100000 in
set_option maxHeartbeats 4000000 in
theorem tX6_fitting_38 {p : Program} {l : Launch} {e : Env} {s : State} {m : MethodId} {args : Array Value} {below : List Frame} {meth : Method} {c : Code} {G : cG} (hO : c_Ok p s m c cX6_fitting 5 RX6 G) (hr : meth.sig.returnType = (some .int)) (hk : meth.locks = false) (k5 : Nat → Nat → Int32 → Int32 → Int32 → MM Int32) (hk5 : ∀ (aL0 : Nat) (aL1 : Nat) (xL2 : Int32) (xL3 : Int32) (xL4 : Int32), Sm p l e { frames := 0, cells := 0, slots := 0, locals := 0 } s m args below meth c G 5 (c_Q G c_vi below args s 0 0) 0 0 5 [(0, .ref aL0), (1, .ref aL1), (2, .int xL2), (3, .int xL3), (4, .int xL4)] [] (k5 aL0 aL1 xL2 xL3 xL4))  : ∀ (aL0 : Nat) (aL1 : Nat) (xL2 : Int32) (xL3 : Int32) (xL4 : Int32), Sm p l e { frames := 0, cells := 0, slots := 0, locals := 0 } s m args below meth c G 5 (c_Q G c_vi below args s 0 0) 0 0 38 [(0, .ref aL0), (1, .ref aL1), (2, .int xL2), (3, .int xL3), (4, .int xL4)] [] (fX6_fitting_38 k5 aL0 aL1 xL2 xL3 xL4) := by
  intro aL0 aL1 xL2 xL3 xL4
  rw [fX6_fitting_38]
  refine sm_iincL (v := xL4 + 1) hO 4 (fun x1 => [(4, .int x1), (0, .ref aL0), (1, .ref aL1), (2, .int xL2), (3, .int xL3)]) dX6_fitting_38 rfl rfl (by decide) (fun _ => rfl) (fun x1 => ?_)
  refine sm_goto (tgt := 5) hO dX6_fitting_41 (by decide) ?_
  exact sm_sub [1, 2, 3, 4, 0] rfl (hk5 aL0 aL1 xL2 xL3 x1)
set_option maxRecDepth 100000 in
set_option maxHeartbeats 4000000 in
theorem tX6_fitting_5 {p : Program} {l : Launch} {e : Env} {s : State} {m : MethodId} {args : Array Value} {below : List Frame} {meth : Method} {c : Code} {G : cG} (hO : c_Ok p s m c cX6_fitting 5 RX6 G) (hr : meth.sig.returnType = (some .int)) (hk : meth.locks = false) : ∀ (n : Nat) (aL0 : Nat) (aL1 : Nat) (xL2 : Int32) (xL3 : Int32) (xL4 : Int32), Sm p l e { frames := 0, cells := 0, slots := 0, locals := 0 } s m args below meth c G 5 (c_Q G c_vi below args s 0 0) 0 0 5 [(0, .ref aL0), (1, .ref aL1), (2, .int xL2), (3, .int xL3), (4, .int xL4)] [] (fX6_fitting_5 n aL0 aL1 xL2 xL3 xL4) := by
  intro n
  induction n with
  | zero =>
    intro aL0 aL1 xL2 xL3 xL4
    exact sm_bad
  | succ n ih =>
    intro aL0 aL1 xL2 xL3 xL4
    rw [fX6_fitting_5]
    refine sm_iload hO 4 dX6_fitting_5 rfl ?_
    refine sm_aload_n hO 0 dX6_fitting_7 rfl rfl ?_
    refine sm_gi hO fl_RX6_9 dX6_fitting_8 (fun x1 => ?_)
    refine sm_icmp_ge (tgt := 44) hO dX6_fitting_11 (by decide) ?_ ?_
    · refine sm_iload_n hO 3 dX6_fitting_44 rfl rfl ?_
      exact sm_iret hO hr hk (Nat.le_of_ble_eq_true rfl) (Nat.le_of_ble_eq_true rfl) dX6_fitting_45
    · refine sm_aload_n hO 1 dX6_fitting_14 rfl rfl ?_
      refine sm_gr hO fl_RX6_15 dX6_fitting_15 (fun a2 => ?_)
      refine sm_iload hO 4 dX6_fitting_18 rfl ?_
      refine sm_li hO dX6_fitting_20 (fun x3 => ?_)
      refine sm_aload_n hO 0 dX6_fitting_21 rfl rfl ?_
      refine sm_gi hO fl_RX6_21 dX6_fitting_22 (fun x4 => ?_)
      refine sm_ixor hO dX6_fitting_25 ?_
      refine sm_iload_n hO 2 dX6_fitting_26 rfl rfl ?_
      refine sm_iand hO dX6_fitting_27 ?_
      refine sm_if_ne (tgt := 38) hO dX6_fitting_28 (by decide) ?_ ?_
      · exact sm_sub [0, 1, 2, 3, 4] rfl (tX6_fitting_38 hO hr hk (fX6_fitting_5 n) ih aL0 aL1 xL2 xL3 xL4)
      · refine sm_iload_n hO 3 dX6_fitting_31 rfl rfl ?_
        refine sm_iconst (v := 1) hO dX6_fitting_32 rfl ?_
        refine sm_iload hO 4 dX6_fitting_33 rfl ?_
        refine sm_ishl hO dX6_fitting_35 ?_
        refine sm_ior hO dX6_fitting_36 ?_
        refine sm_topi (fun x5 => ?_)
        refine sm_istore_n hO [(3, .int x5), (0, .ref aL0), (1, .ref aL1), (2, .int xL2), (4, .int xL4)] dX6_fitting_37 rfl (by decide) rfl ?_
        exact sm_sub [1, 2, 3, 0, 4] rfl (tX6_fitting_38 hO hr hk (fX6_fitting_5 n) ih aL0 aL1 xL2 x5 xL4)
set_option maxRecDepth 100000 in
set_option maxHeartbeats 4000000 in
theorem ctX6_fitting (l : Launch) (G : cG) (a0_ : Nat) (a1_ : Nat) (x2_ : Int32) : Ct l G yX6_fitting cX6_fitting 5 (some .int) 0 0 0 0 [.ref a0_, .ref a1_, .int x2_] c_vi (pX6_fitting a0_ a1_ x2_) := by
  refine Ct.of (lv := [(0, .ref a0_), (1, .ref a1_), (2, .int x2_)]) (by decide) (Nat.le_of_ble_eq_true rfl) rfl (fun p e s m args below meth c hO hr hk hin => ?_)
  rw [pX6_fitting]
  refine sm_iconst (v := 0) hO dX6_fitting_0 rfl ?_
  refine sm_istore_n hO [(3, .int 0), (0, .ref a0_), (1, .ref a1_), (2, .int x2_)] dX6_fitting_1 rfl (by decide) rfl ?_
  refine sm_iconst (v := 0) hO dX6_fitting_2 rfl ?_
  refine sm_istore hO [(4, .int 0), (3, .int 0), (0, .ref a0_), (1, .ref a1_), (2, .int x2_)] dX6_fitting_3 (by decide) rfl ?_
  exact sm_sub [2, 3, 4, 1, 0] rfl (tX6_fitting_5 hO hr hk c_fu a0_ a1_ x2_ 0 0)
/-! DollCongress$Signs.parting(LDollCongress$Roll;LDollCongress$Scene;I)I -/
def fX6_parting_27 (k64 : Nat → Nat → Int32 → Int32 → Int32 → Int32 → Int32 → Int32 → MM Int32) : Nat → Nat → Nat → Int32 → Int32 → Int32 → Int32 → Int32 → Int32 → Int32 → MM Int32
  | 0, _, _, _, _, _, _, _, _, _ => m_bad
  | n + 1, aL0, aL1, xL2, xL3, xL4, xL5, xL6, xL7, xL8 => m_gi aL0 4 6 (fun x1 => if x1 ≤ xL8 then (k64 aL0 aL1 xL2 xL3 xL4 xL5 xL6 xL7) else (m_gr aL1 5 1 (fun a2 => m_li 0 a2 xL8 (fun x3 => m_let (xL7 + (((xL2 >>> (xL8 &&& 31)) &&& (x3 >>> (xL6 &&& 31))) &&& 1)) (fun x4 => m_let (xL8 + 1) (fun x5 => fX6_parting_27 k64 n aL0 aL1 xL2 xL3 xL4 xL5 xL6 x4 x5))))))
def fX6_parting_90 (k14 : Nat → Nat → Int32 → Int32 → Int32 → Int32 → Int32 → MM Int32) (aL0 : Nat) (aL1 : Nat) (xL2 : Int32) (xL3 : Int32) (xL4 : Int32) (xL5 : Int32) (xL6 : Int32) : MM Int32 := m_let (xL6 + 1) (fun x1 => k14 aL0 aL1 xL2 xL3 xL4 xL5 x1)
def fX6_parting_64 (k14 : Nat → Nat → Int32 → Int32 → Int32 → Int32 → Int32 → MM Int32) (aL0 : Nat) (aL1 : Nat) (xL2 : Int32) (xL3 : Int32) (xL4 : Int32) (xL5 : Int32) (xL6 : Int32) (xL7 : Int32) : MM Int32 := m_let (c_mx xL7 (xL3 - xL7)) (fun x1 => if xL5 ≤ x1 then (fX6_parting_90 k14 aL0 aL1 xL2 xL3 xL4 xL5 xL6) else (fX6_parting_90 k14 aL0 aL1 xL2 xL3 xL6 x1 xL6))
def fX6_parting_14  : Nat → Nat → Nat → Int32 → Int32 → Int32 → Int32 → Int32 → MM Int32
  | 0, _, _, _, _, _, _, _ => m_bad
  | n + 1, aL0, aL1, xL2, xL3, xL4, xL5, xL6 => if (6 : Int32) ≤ xL6 then (m_ret xL4) else (fX6_parting_27 (fX6_parting_64 (fX6_parting_14 n)) c_fu aL0 aL1 xL2 xL3 xL4 xL5 xL6 0 0)
def pX6_parting (a0_ : Nat) (a1_ : Nat) (x2_ : Int32) : MM Int32 := m_bind (pJ6_bitCount_0f7a4 x2_) (fun x1 => fX6_parting_14 c_fu a0_ a1_ x2_ x1 ((-1)) x1 0)
set_option maxRecDepth 100000 in
set_option maxHeartbeats 4000000 in
theorem tX6_parting_27 {p : Program} {l : Launch} {e : Env} {s : State} {m : MethodId} {args : Array Value} {below : List Frame} {meth : Method} {c : Code} {G : cG} (hO : c_Ok p s m c cX6_parting 9 RX6 G) (hr : meth.sig.returnType = (some .int)) (hk : meth.locks = false) (k64 : Nat → Nat → Int32 → Int32 → Int32 → Int32 → Int32 → Int32 → MM Int32) (hk64 : ∀ (aL0 : Nat) (aL1 : Nat) (xL2 : Int32) (xL3 : Int32) (xL4 : Int32) (xL5 : Int32) (xL6 : Int32) (xL7 : Int32), Sm p l e { frames := 1, cells := 0, slots := 0, locals := 20 } s m args below meth c G 9 (c_Q G c_vi below args s 0 0) 0 0 64 [(0, .ref aL0), (1, .ref aL1), (2, .int xL2), (3, .int xL3), (4, .int xL4), (5, .int xL5), (6, .int xL6), (7, .int xL7)] [] (k64 aL0 aL1 xL2 xL3 xL4 xL5 xL6 xL7))  : ∀ (n : Nat) (aL0 : Nat) (aL1 : Nat) (xL2 : Int32) (xL3 : Int32) (xL4 : Int32) (xL5 : Int32) (xL6 : Int32) (xL7 : Int32) (xL8 : Int32), Sm p l e { frames := 1, cells := 0, slots := 0, locals := 20 } s m args below meth c G 9 (c_Q G c_vi below args s 0 0) 0 0 27 [(0, .ref aL0), (1, .ref aL1), (2, .int xL2), (3, .int xL3), (4, .int xL4), (5, .int xL5), (6, .int xL6), (7, .int xL7), (8, .int xL8)] [] (fX6_parting_27 k64 n aL0 aL1 xL2 xL3 xL4 xL5 xL6 xL7 xL8) := by
  intro n
  induction n with
  | zero =>
    intro aL0 aL1 xL2 xL3 xL4 xL5 xL6 xL7 xL8
    exact sm_bad
  | succ n ih =>
    intro aL0 aL1 xL2 xL3 xL4 xL5 xL6 xL7 xL8
    rw [fX6_parting_27]
    refine sm_iload hO 8 dX6_parting_27 rfl ?_
    refine sm_aload_n hO 0 dX6_parting_29 rfl rfl ?_
    refine sm_gi hO fl_RX6_9 dX6_parting_30 (fun x1 => ?_)
    refine sm_icmp_ge (tgt := 64) hO dX6_parting_33 (by decide) ?_ ?_
    · exact sm_sub [0, 1, 2, 3, 4, 5, 6, 7] rfl (hk64 aL0 aL1 xL2 xL3 xL4 xL5 xL6 xL7)
    · refine sm_iload hO 7 dX6_parting_36 rfl ?_
      refine sm_iload_n hO 2 dX6_parting_38 rfl rfl ?_
      refine sm_iload hO 8 dX6_parting_39 rfl ?_
      refine sm_ishr hO dX6_parting_41 ?_
      refine sm_aload_n hO 1 dX6_parting_42 rfl rfl ?_
      refine sm_gr hO fl_RX6_15 dX6_parting_43 (fun a2 => ?_)
      refine sm_iload hO 8 dX6_parting_46 rfl ?_
      refine sm_li hO dX6_parting_48 (fun x3 => ?_)
      refine sm_iload hO 6 dX6_parting_49 rfl ?_
      refine sm_ishr hO dX6_parting_51 ?_
      refine sm_iand hO dX6_parting_52 ?_
      refine sm_iconst (v := 1) hO dX6_parting_53 rfl ?_
      refine sm_iand hO dX6_parting_54 ?_
      refine sm_iadd hO dX6_parting_55 ?_
      refine sm_topi (fun x4 => ?_)
      refine sm_istore hO [(7, .int x4), (0, .ref aL0), (1, .ref aL1), (2, .int xL2), (3, .int xL3), (4, .int xL4), (5, .int xL5), (6, .int xL6), (8, .int xL8)] dX6_parting_56 (by decide) rfl ?_
      refine sm_iincL (v := xL8 + 1) hO 8 (fun x5 => [(8, .int x5), (7, .int x4), (0, .ref aL0), (1, .ref aL1), (2, .int xL2), (3, .int xL3), (4, .int xL4), (5, .int xL5), (6, .int xL6)]) dX6_parting_58 rfl rfl (by decide) (fun _ => rfl) (fun x5 => ?_)
      refine sm_goto (tgt := 27) hO dX6_parting_61 (by decide) ?_
      exact sm_sub [2, 3, 4, 5, 6, 7, 8, 1, 0] rfl (ih aL0 aL1 xL2 xL3 xL4 xL5 xL6 x4 x5)
set_option maxRecDepth 100000 in
set_option maxHeartbeats 4000000 in
theorem tX6_parting_90 {p : Program} {l : Launch} {e : Env} {s : State} {m : MethodId} {args : Array Value} {below : List Frame} {meth : Method} {c : Code} {G : cG} (hO : c_Ok p s m c cX6_parting 9 RX6 G) (hr : meth.sig.returnType = (some .int)) (hk : meth.locks = false) (k14 : Nat → Nat → Int32 → Int32 → Int32 → Int32 → Int32 → MM Int32) (hk14 : ∀ (aL0 : Nat) (aL1 : Nat) (xL2 : Int32) (xL3 : Int32) (xL4 : Int32) (xL5 : Int32) (xL6 : Int32), Sm p l e { frames := 1, cells := 0, slots := 0, locals := 20 } s m args below meth c G 9 (c_Q G c_vi below args s 0 0) 0 0 14 [(0, .ref aL0), (1, .ref aL1), (2, .int xL2), (3, .int xL3), (4, .int xL4), (5, .int xL5), (6, .int xL6)] [] (k14 aL0 aL1 xL2 xL3 xL4 xL5 xL6))  : ∀ (aL0 : Nat) (aL1 : Nat) (xL2 : Int32) (xL3 : Int32) (xL4 : Int32) (xL5 : Int32) (xL6 : Int32), Sm p l e { frames := 1, cells := 0, slots := 0, locals := 20 } s m args below meth c G 9 (c_Q G c_vi below args s 0 0) 0 0 90 [(0, .ref aL0), (1, .ref aL1), (2, .int xL2), (3, .int xL3), (4, .int xL4), (5, .int xL5), (6, .int xL6)] [] (fX6_parting_90 k14 aL0 aL1 xL2 xL3 xL4 xL5 xL6) := by
  intro aL0 aL1 xL2 xL3 xL4 xL5 xL6
  rw [fX6_parting_90]
  refine sm_iincL (v := xL6 + 1) hO 6 (fun x1 => [(6, .int x1), (0, .ref aL0), (1, .ref aL1), (2, .int xL2), (3, .int xL3), (4, .int xL4), (5, .int xL5)]) dX6_parting_90 rfl rfl (by decide) (fun _ => rfl) (fun x1 => ?_)
  refine sm_goto (tgt := 14) hO dX6_parting_93 (by decide) ?_
  exact sm_sub [1, 2, 3, 4, 5, 6, 0] rfl (hk14 aL0 aL1 xL2 xL3 xL4 xL5 x1)
set_option maxRecDepth 100000 in
set_option maxHeartbeats 4000000 in
theorem tX6_parting_64 {p : Program} {l : Launch} {e : Env} {s : State} {m : MethodId} {args : Array Value} {below : List Frame} {meth : Method} {c : Code} {G : cG} (hO : c_Ok p s m c cX6_parting 9 RX6 G) (hr : meth.sig.returnType = (some .int)) (hk : meth.locks = false) (k14 : Nat → Nat → Int32 → Int32 → Int32 → Int32 → Int32 → MM Int32) (hk14 : ∀ (aL0 : Nat) (aL1 : Nat) (xL2 : Int32) (xL3 : Int32) (xL4 : Int32) (xL5 : Int32) (xL6 : Int32), Sm p l e { frames := 1, cells := 0, slots := 0, locals := 20 } s m args below meth c G 9 (c_Q G c_vi below args s 0 0) 0 0 14 [(0, .ref aL0), (1, .ref aL1), (2, .int xL2), (3, .int xL3), (4, .int xL4), (5, .int xL5), (6, .int xL6)] [] (k14 aL0 aL1 xL2 xL3 xL4 xL5 xL6))  : ∀ (aL0 : Nat) (aL1 : Nat) (xL2 : Int32) (xL3 : Int32) (xL4 : Int32) (xL5 : Int32) (xL6 : Int32) (xL7 : Int32), Sm p l e { frames := 1, cells := 0, slots := 0, locals := 20 } s m args below meth c G 9 (c_Q G c_vi below args s 0 0) 0 0 64 [(0, .ref aL0), (1, .ref aL1), (2, .int xL2), (3, .int xL3), (4, .int xL4), (5, .int xL5), (6, .int xL6), (7, .int xL7)] [] (fX6_parting_64 k14 aL0 aL1 xL2 xL3 xL4 xL5 xL6 xL7) := by
  intro aL0 aL1 xL2 xL3 xL4 xL5 xL6 xL7
  rw [fX6_parting_64]
  refine sm_iload hO 7 dX6_parting_64 rfl ?_
  refine sm_iload_n hO 3 dX6_parting_66 rfl rfl ?_
  refine sm_iload hO 7 dX6_parting_67 rfl ?_
  refine sm_isub hO dX6_parting_69 ?_
  refine sm_max hO kw_690 kw_601 kw_83 kw_602 (Nat.le_of_ble_eq_true rfl) (Nat.le_of_ble_eq_true rfl) (Nat.le_of_ble_eq_true rfl) (Nat.le_of_ble_eq_true rfl) dX6_parting_70 ?_
  refine sm_topi (fun x1 => ?_)
  refine sm_istore hO [(8, .int x1), (0, .ref aL0), (1, .ref aL1), (2, .int xL2), (3, .int xL3), (4, .int xL4), (5, .int xL5), (6, .int xL6), (7, .int xL7)] dX6_parting_73 (by decide) rfl ?_
  refine sm_iload hO 0 dX6_parting_75 rfl ?_
  refine sm_iload hO 6 dX6_parting_77 rfl ?_
  refine sm_icmp_ge (tgt := 90) hO dX6_parting_79 (by decide) ?_ ?_
  · exact sm_sub [1, 2, 3, 4, 5, 6, 7] rfl (tX6_parting_90 hO hr hk k14 hk14 aL0 aL1 xL2 xL3 xL4 xL5 xL6)
  · refine sm_iload hO 7 dX6_parting_82 rfl ?_
    refine sm_istore hO [(4, .int xL6), (8, .int x1), (0, .ref aL0), (1, .ref aL1), (2, .int xL2), (3, .int xL3), (5, .int xL5), (6, .int xL6), (7, .int xL7)] dX6_parting_84 (by decide) rfl ?_
    refine sm_iload hO 1 dX6_parting_86 rfl ?_
    refine sm_istore hO [(5, .int x1), (4, .int xL6), (8, .int x1), (0, .ref aL0), (1, .ref aL1), (2, .int xL2), (3, .int xL3), (6, .int xL6), (7, .int xL7)] dX6_parting_88 (by decide) rfl ?_
    exact sm_sub [3, 4, 5, 6, 1, 0, 7] rfl (tX6_parting_90 hO hr hk k14 hk14 aL0 aL1 xL2 xL3 xL6 x1 xL6)
set_option maxRecDepth 100000 in
set_option maxHeartbeats 4000000 in
theorem tX6_parting_14 {p : Program} {l : Launch} {e : Env} {s : State} {m : MethodId} {args : Array Value} {below : List Frame} {meth : Method} {c : Code} {G : cG} (hO : c_Ok p s m c cX6_parting 9 RX6 G) (hr : meth.sig.returnType = (some .int)) (hk : meth.locks = false) : ∀ (n : Nat) (aL0 : Nat) (aL1 : Nat) (xL2 : Int32) (xL3 : Int32) (xL4 : Int32) (xL5 : Int32) (xL6 : Int32), Sm p l e { frames := 1, cells := 0, slots := 0, locals := 20 } s m args below meth c G 9 (c_Q G c_vi below args s 0 0) 0 0 14 [(0, .ref aL0), (1, .ref aL1), (2, .int xL2), (3, .int xL3), (4, .int xL4), (5, .int xL5), (6, .int xL6)] [] (fX6_parting_14 n aL0 aL1 xL2 xL3 xL4 xL5 xL6) := by
  intro n
  induction n with
  | zero =>
    intro aL0 aL1 xL2 xL3 xL4 xL5 xL6
    exact sm_bad
  | succ n ih =>
    intro aL0 aL1 xL2 xL3 xL4 xL5 xL6
    rw [fX6_parting_14]
    refine sm_iload hO 6 dX6_parting_14 rfl ?_
    refine sm_bipush (v := 6) hO dX6_parting_16 rfl ?_
    refine sm_icmp_ge (tgt := 96) hO dX6_parting_18 (by decide) ?_ ?_
    · refine sm_iload hO 4 dX6_parting_96 rfl ?_
      exact sm_iret hO hr hk (Nat.le_of_ble_eq_true rfl) (Nat.le_of_ble_eq_true rfl) dX6_parting_98
    · refine sm_iconst (v := 0) hO dX6_parting_21 rfl ?_
      refine sm_istore hO [(7, .int 0), (0, .ref aL0), (1, .ref aL1), (2, .int xL2), (3, .int xL3), (4, .int xL4), (5, .int xL5), (6, .int xL6)] dX6_parting_22 (by decide) rfl ?_
      refine sm_iconst (v := 0) hO dX6_parting_24 rfl ?_
      refine sm_istore hO [(8, .int 0), (7, .int 0), (0, .ref aL0), (1, .ref aL1), (2, .int xL2), (3, .int xL3), (4, .int xL4), (5, .int xL5), (6, .int xL6)] dX6_parting_25 (by decide) rfl ?_
      exact sm_sub [2, 3, 4, 5, 6, 7, 8, 1, 0] rfl (tX6_parting_27 hO hr hk (fX6_parting_64 (fX6_parting_14 n)) (tX6_parting_64 hO hr hk (fX6_parting_14 n) ih) c_fu aL0 aL1 xL2 xL3 xL4 xL5 xL6 0 0)
set_option maxRecDepth 100000 in
set_option maxHeartbeats 4000000 in
theorem ctX6_parting (l : Launch) (G : cG) (a0_ : Nat) (a1_ : Nat) (x2_ : Int32) : Ct l G yX6_parting cX6_parting 9 (some .int) 1 20 0 0 [.ref a0_, .ref a1_, .int x2_] c_vi (pX6_parting a0_ a1_ x2_) := by
  refine Ct.of (lv := [(0, .ref a0_), (1, .ref a1_), (2, .int x2_)]) (by decide) (Nat.le_of_ble_eq_true rfl) rfl (fun p e s m args below meth c hO hr hk hin => ?_)
  rw [pX6_parting]
  refine sm_iload_n hO 2 dX6_parting_0 rfl rfl ?_
  refine sm_csi hO (ctJ6_bitCount_0f7a4 l G x2_) cw_RX6_24 kw_472 [] rfl rfl ⟨(Nat.le_of_ble_eq_true rfl), (Nat.le_of_ble_eq_true rfl)⟩ ⟨(Nat.le_of_ble_eq_true rfl), (Nat.le_of_ble_eq_true rfl)⟩ (Nat.le_of_ble_eq_true rfl) dX6_parting_1 (fun x1 => ?_)
  refine sm_istore_n hO [(3, .int x1), (0, .ref a0_), (1, .ref a1_), (2, .int x2_)] dX6_parting_4 rfl (by decide) rfl ?_
  refine sm_iconst (v := (-1)) hO dX6_parting_5 rfl ?_
  refine sm_istore hO [(4, .int ((-1))), (3, .int x1), (0, .ref a0_), (1, .ref a1_), (2, .int x2_)] dX6_parting_6 (by decide) rfl ?_
  refine sm_iload_n hO 1 dX6_parting_8 rfl rfl ?_
  refine sm_istore hO [(5, .int x1), (4, .int ((-1))), (3, .int x1), (0, .ref a0_), (1, .ref a1_), (2, .int x2_)] dX6_parting_9 (by decide) rfl ?_
  refine sm_iconst (v := 0) hO dX6_parting_11 rfl ?_
  refine sm_istore hO [(6, .int 0), (5, .int x1), (4, .int ((-1))), (3, .int x1), (0, .ref a0_), (1, .ref a1_), (2, .int x2_)] dX6_parting_12 (by decide) rfl ?_
  exact sm_sub [4, 5, 6, 3, 2, 1, 0] rfl (tX6_parting_14 hO hr hk c_fu a0_ a1_ x2_ x1 ((-1)) x1 0)
