/-! DollCongress.agendaFor(I)I -/
def fX9_agendaFor_31 (k49 : Int32 → Int32 → MM Int32) (k62 : Nat → Int32 → Int32 → MM Int32) : Nat → Nat → Int32 → Int32 → Int32 → MM Int32
  | 0, _, _, _, _ => m_bad
  | n + 1, aL0, xL1, xL2, xL3 => if (3 : Int32) ≤ xL3 then (k62 aL0 xL1 xL2) else (m_gr aL0 8 7 (fun a1 => m_cv a1 4 (pX4_winnerFrom a1 xL2 xL3) (fun x2 => if x2 = xL1 then (k49 xL2 xL3) else (m_let (xL3 + 1) (fun x3 => fX9_agendaFor_31 k49 k62 n aL0 xL1 xL2 x3)))))
def fX9_agendaFor_62 (k22 : Nat → Int32 → Int32 → MM Int32) (aL0 : Nat) (xL1 : Int32) (xL2 : Int32) : MM Int32 := m_let (xL2 + 1) (fun x1 => k22 aL0 xL1 x1)
def fX9_agendaFor_22 (k49 : Int32 → Int32 → MM Int32) : Nat → Nat → Int32 → Int32 → MM Int32
  | 0, _, _, _ => m_bad
  | n + 1, aL0, xL1, xL2 => if (3 : Int32) ≤ xL2 then (m_ret ((-1) : Int32)) else (m_let (xL2 + 1) (fun x1 => fX9_agendaFor_31 k49 (fX9_agendaFor_62 (fX9_agendaFor_22 k49 n)) c_fu aL0 xL1 xL2 x1))
def fX9_agendaFor_49  (xL2 : Int32) (xL3 : Int32) : MM Int32 := m_ret (((10 : Int32) * xL2) + xL3)
def pX9_agendaFor (a0_ : Nat) (x1_ : Int32) : MM Int32 := m_bind (pX9_isThing x1_) (fun x1 => if x1 = 0 then (m_ret ((-1000000002) : Int32)) else (m_cv a0_ 8 (pX9_hasCongress a0_) (fun x2 => if x2 = 0 then (m_ret ((-1000000003) : Int32)) else (fX9_agendaFor_22 fX9_agendaFor_49 c_fu a0_ x1_ 0))))
set_option maxRecDepth 100000 in
set_option maxHeartbeats 4000000 in
theorem tX9_agendaFor_31 {p : Program} {l : Launch} {e : Env} {s : State} {m : MethodId} {args : Array Value} {below : List Frame} {meth : Method} {c : Code} {G : cG} (hO : c_Ok p s m c cX9_agendaFor 4 RX9 G) (hr : meth.sig.returnType = (some .int)) (hk : meth.locks = false) (k49 : Int32 → Int32 → MM Int32)  (k62 : Nat → Int32 → Int32 → MM Int32) (hk49 : ∀ (xL2 : Int32) (xL3 : Int32), Sm p l e { frames := 3, cells := 0, slots := 0, locals := 64 } s m args below meth c G 4 (c_Q G c_vi below args s 0 0) 0 0 49 [(2, .int xL2), (3, .int xL3)] [] (k49 xL2 xL3)) (hk62 : ∀ (aL0 : Nat) (xL1 : Int32) (xL2 : Int32), Sm p l e { frames := 3, cells := 0, slots := 0, locals := 64 } s m args below meth c G 4 (c_Q G c_vi below args s 0 0) 0 0 62 [(0, .ref aL0), (1, .int xL1), (2, .int xL2)] [] (k62 aL0 xL1 xL2))  : ∀ (n : Nat) (aL0 : Nat) (xL1 : Int32) (xL2 : Int32) (xL3 : Int32), Sm p l e { frames := 3, cells := 0, slots := 0, locals := 64 } s m args below meth c G 4 (c_Q G c_vi below args s 0 0) 0 0 31 [(0, .ref aL0), (1, .int xL1), (2, .int xL2), (3, .int xL3)] [] (fX9_agendaFor_31 k49 k62 n aL0 xL1 xL2 xL3) := by
  intro n
  induction n with
  | zero =>
    intro aL0 xL1 xL2 xL3
    exact sm_bad
  | succ n ih =>
    intro aL0 xL1 xL2 xL3
    rw [fX9_agendaFor_31]
    refine sm_iload_n hO 3 dX9_agendaFor_31 rfl rfl ?_
    refine sm_iconst (v := 3) hO dX9_agendaFor_32 rfl ?_
    refine sm_icmp_ge (tgt := 62) hO dX9_agendaFor_33 (by decide) ?_ ?_
    · exact sm_sub [0, 1, 2] rfl (hk62 aL0 xL1 xL2)
    · refine sm_aload_n hO 0 dX9_agendaFor_36 rfl rfl ?_
      refine sm_gr hO fl_RX9_60 dX9_agendaFor_37 (fun a1 => ?_)
      refine sm_iload_n hO 2 dX9_agendaFor_40 rfl rfl ?_
      refine sm_iload_n hO 3 dX9_agendaFor_41 rfl rfl ?_
      refine sm_cvi hO (ctX4_winnerFrom l G a1 xL2 xL3) cw_RX9_255 cv_X4_winnerFrom [] rfl rfl ⟨(Nat.le_of_ble_eq_true rfl), (Nat.le_of_ble_eq_true rfl)⟩ ⟨(Nat.le_of_ble_eq_true rfl), (Nat.le_of_ble_eq_true rfl)⟩ (Nat.le_of_ble_eq_true rfl) dX9_agendaFor_42 (fun x2 => ?_)
      refine sm_iload_n hO 1 dX9_agendaFor_45 rfl rfl ?_
      refine sm_icmp_ne (tgt := 56) hO dX9_agendaFor_46 (by decide) ?_ ?_
      · refine sm_iincL (v := xL3 + 1) hO 3 (fun x3 => [(3, .int x3), (0, .ref aL0), (1, .int xL1), (2, .int xL2)]) dX9_agendaFor_56 rfl rfl (by decide) (fun _ => rfl) (fun x3 => ?_)
        refine sm_goto (tgt := 31) hO dX9_agendaFor_59 (by decide) ?_
        exact sm_sub [1, 2, 3, 0] rfl (ih aL0 xL1 xL2 x3)
      · exact sm_sub [2, 3] rfl (hk49 xL2 xL3)
set_option maxRecDepth 100000 in
set_option maxHeartbeats 4000000 in
theorem tX9_agendaFor_62 {p : Program} {l : Launch} {e : Env} {s : State} {m : MethodId} {args : Array Value} {below : List Frame} {meth : Method} {c : Code} {G : cG} (hO : c_Ok p s m c cX9_agendaFor 4 RX9 G) (hr : meth.sig.returnType = (some .int)) (hk : meth.locks = false) (k22 : Nat → Int32 → Int32 → MM Int32) (hk22 : ∀ (aL0 : Nat) (xL1 : Int32) (xL2 : Int32), Sm p l e { frames := 3, cells := 0, slots := 0, locals := 64 } s m args below meth c G 4 (c_Q G c_vi below args s 0 0) 0 0 22 [(0, .ref aL0), (1, .int xL1), (2, .int xL2)] [] (k22 aL0 xL1 xL2))  : ∀ (aL0 : Nat) (xL1 : Int32) (xL2 : Int32), Sm p l e { frames := 3, cells := 0, slots := 0, locals := 64 } s m args below meth c G 4 (c_Q G c_vi below args s 0 0) 0 0 62 [(0, .ref aL0), (1, .int xL1), (2, .int xL2)] [] (fX9_agendaFor_62 k22 aL0 xL1 xL2) := by
  intro aL0 xL1 xL2
  rw [fX9_agendaFor_62]
  refine sm_iincL (v := xL2 + 1) hO 2 (fun x1 => [(2, .int x1), (0, .ref aL0), (1, .int xL1)]) dX9_agendaFor_62 rfl rfl (by decide) (fun _ => rfl) (fun x1 => ?_)
  refine sm_goto (tgt := 22) hO dX9_agendaFor_65 (by decide) ?_
  exact sm_sub [1, 2, 0] rfl (hk22 aL0 xL1 x1)
set_option maxRecDepth 100000 in
set_option maxHeartbeats 4000000 in
theorem tX9_agendaFor_22 {p : Program} {l : Launch} {e : Env} {s : State} {m : MethodId} {args : Array Value} {below : List Frame} {meth : Method} {c : Code} {G : cG} (hO : c_Ok p s m c cX9_agendaFor 4 RX9 G) (hr : meth.sig.returnType = (some .int)) (hk : meth.locks = false) (k49 : Int32 → Int32 → MM Int32) (hk49 : ∀ (xL2 : Int32) (xL3 : Int32), Sm p l e { frames := 3, cells := 0, slots := 0, locals := 64 } s m args below meth c G 4 (c_Q G c_vi below args s 0 0) 0 0 49 [(2, .int xL2), (3, .int xL3)] [] (k49 xL2 xL3))  : ∀ (n : Nat) (aL0 : Nat) (xL1 : Int32) (xL2 : Int32), Sm p l e { frames := 3, cells := 0, slots := 0, locals := 64 } s m args below meth c G 4 (c_Q G c_vi below args s 0 0) 0 0 22 [(0, .ref aL0), (1, .int xL1), (2, .int xL2)] [] (fX9_agendaFor_22 k49 n aL0 xL1 xL2) := by
  intro n
  induction n with
  | zero =>
    intro aL0 xL1 xL2
    exact sm_bad
  | succ n ih =>
    intro aL0 xL1 xL2
    rw [fX9_agendaFor_22]
    refine sm_iload_n hO 2 dX9_agendaFor_22 rfl rfl ?_
    refine sm_iconst (v := 3) hO dX9_agendaFor_23 rfl ?_
    refine sm_icmp_ge (tgt := 68) hO dX9_agendaFor_24 (by decide) ?_ ?_
    · refine sm_iconst (v := (-1)) hO dX9_agendaFor_68 rfl ?_
      exact sm_iret hO hr hk (Nat.le_of_ble_eq_true rfl) (Nat.le_of_ble_eq_true rfl) dX9_agendaFor_69
    · refine sm_iload_n hO 2 dX9_agendaFor_27 rfl rfl ?_
      refine sm_iconst (v := 1) hO dX9_agendaFor_28 rfl ?_
      refine sm_iadd hO dX9_agendaFor_29 ?_
      refine sm_topi (fun x1 => ?_)
      refine sm_istore_n hO [(3, .int x1), (0, .ref aL0), (1, .int xL1), (2, .int xL2)] dX9_agendaFor_30 rfl (by decide) rfl ?_
      exact sm_sub [1, 2, 3, 0] rfl (tX9_agendaFor_31 hO hr hk k49 (fX9_agendaFor_62 (fX9_agendaFor_22 k49 n)) hk49 (tX9_agendaFor_62 hO hr hk (fX9_agendaFor_22 k49 n) ih) c_fu aL0 xL1 xL2 x1)
set_option maxRecDepth 100000 in
set_option maxHeartbeats 4000000 in
theorem tX9_agendaFor_49 {p : Program} {l : Launch} {e : Env} {s : State} {m : MethodId} {args : Array Value} {below : List Frame} {meth : Method} {c : Code} {G : cG} (hO : c_Ok p s m c cX9_agendaFor 4 RX9 G) (hr : meth.sig.returnType = (some .int)) (hk : meth.locks = false) : ∀ (xL2 : Int32) (xL3 : Int32), Sm p l e { frames := 3, cells := 0, slots := 0, locals := 64 } s m args below meth c G 4 (c_Q G c_vi below args s 0 0) 0 0 49 [(2, .int xL2), (3, .int xL3)] [] (fX9_agendaFor_49 xL2 xL3) := by
  intro xL2 xL3
  rw [fX9_agendaFor_49]
  refine sm_bipush (v := 10) hO dX9_agendaFor_49 rfl ?_
  refine sm_iload_n hO 0 dX9_agendaFor_51 rfl rfl ?_
  refine sm_imul hO dX9_agendaFor_52 ?_
  refine sm_iload_n hO 1 dX9_agendaFor_53 rfl rfl ?_
  refine sm_iadd hO dX9_agendaFor_54 ?_
  exact sm_iret hO hr hk (Nat.le_of_ble_eq_true rfl) (Nat.le_of_ble_eq_true rfl) dX9_agendaFor_55
set_option maxRecDepth 100000 in
set_option maxHeartbeats 4000000 in
theorem ctX9_agendaFor (l : Launch) (G : cG) (a0_ : Nat) (x1_ : Int32) : Ct l G yX9_agendaFor cX9_agendaFor 4 (some .int) 3 64 0 0 [.ref a0_, .int x1_] c_vi (pX9_agendaFor a0_ x1_) := by
  refine Ct.of (lv := [(0, .ref a0_), (1, .int x1_)]) (by decide) (Nat.le_of_ble_eq_true rfl) rfl (fun p e s m args below meth c hO hr hk hin => ?_)
  rw [pX9_agendaFor]
  refine sm_iload_n hO 1 dX9_agendaFor_0 rfl rfl ?_
  refine sm_csi hO (ctX9_isThing l G x1_) cw_RX9_252 kw_701 [] rfl rfl ⟨(Nat.le_of_ble_eq_true rfl), (Nat.le_of_ble_eq_true rfl)⟩ ⟨(Nat.le_of_ble_eq_true rfl), (Nat.le_of_ble_eq_true rfl)⟩ (Nat.le_of_ble_eq_true rfl) dX9_agendaFor_1 (fun x1 => ?_)
  refine sm_if_ne (tgt := 10) hO dX9_agendaFor_4 (by decide) ?_ ?_
  · refine sm_aload_n hO 0 dX9_agendaFor_10 rfl rfl ?_
    refine sm_cvi hO (ctX9_hasCongress l G a0_) cw_RX9_141 cv_X9_hasCongress [] rfl rfl ⟨(Nat.le_of_ble_eq_true rfl), (Nat.le_of_ble_eq_true rfl)⟩ ⟨(Nat.le_of_ble_eq_true rfl), (Nat.le_of_ble_eq_true rfl)⟩ (Nat.le_of_ble_eq_true rfl) dX9_agendaFor_11 (fun x2 => ?_)
    refine sm_if_ne (tgt := 20) hO dX9_agendaFor_14 (by decide) ?_ ?_
    · refine sm_iconst (v := 0) hO dX9_agendaFor_20 rfl ?_
      refine sm_istore_n hO [(2, .int 0), (0, .ref a0_), (1, .int x1_)] dX9_agendaFor_21 rfl (by decide) rfl ?_
      exact sm_sub [1, 2, 0] rfl (tX9_agendaFor_22 hO hr hk fX9_agendaFor_49 (tX9_agendaFor_49 hO hr hk) c_fu a0_ x1_ 0)
    · refine sm_ldc (v := (-1000000003)) hO kw_536 dX9_agendaFor_17 ?_
      exact sm_iret hO hr hk (Nat.le_of_ble_eq_true rfl) (Nat.le_of_ble_eq_true rfl) dX9_agendaFor_19
  · refine sm_ldc (v := (-1000000002)) hO kw_362 dX9_agendaFor_7 ?_
    exact sm_iret hO hr hk (Nat.le_of_ble_eq_true rfl) (Nat.le_of_ble_eq_true rfl) dX9_agendaFor_9
/-! DollCongressModel.agendaFor(I)I -/
def pX10_agendaFor (a0_ : Nat) (x1_ : Int32) : MM Int32 := m_bind (pX10_in (x1_.toInt64) 0 2) (fun x1 => if x1 = 0 then (m_ret ((-1000000002) : Int32)) else (m_gi a0_ 9 0 (fun x2 => if x2 = 0 then (m_ret ((-1000000003) : Int32)) else (m_cv a0_ 9 (pX10_agendaOf a0_ (0 : Int32) (1 : Int32)) (fun x3 => if x3 = x1_ then (m_ret (1 : Int32)) else (m_cv a0_ 9 (pX10_agendaOf a0_ (0 : Int32) (2 : Int32)) (fun x4 => if x4 = x1_ then (m_ret (2 : Int32)) else (m_cv a0_ 9 (pX10_agendaOf a0_ (1 : Int32) (2 : Int32)) (fun x5 => if x5 = x1_ then (m_ret (12 : Int32)) else (m_ret ((-1) : Int32)))))))))))
set_option maxRecDepth 100000 in
set_option maxHeartbeats 4000000 in
theorem ctX10_agendaFor (l : Launch) (G : cG) (a0_ : Nat) (x1_ : Int32) : Ct l G yX10_agendaFor cX10_agendaFor 2 (some .int) 3 71 0 0 [.ref a0_, .int x1_] c_vi (pX10_agendaFor a0_ x1_) := by
  refine Ct.of (lv := [(0, .ref a0_), (1, .int x1_)]) (by decide) (Nat.le_of_ble_eq_true rfl) rfl (fun p e s m args below meth c hO hr hk hin => ?_)
  rw [pX10_agendaFor]
  refine sm_iload_n hO 1 dX10_agendaFor_0 rfl rfl ?_
  refine sm_i2l (v := x1_.toInt64) hO dX10_agendaFor_1 rfl ?_
  refine sm_lconst (v := 0) hO dX10_agendaFor_2 rfl ?_
  refine sm_ldc2 (v := 2) hO kw_1205 dX10_agendaFor_3 ?_
  refine sm_csi hO (ctX10_in l G (x1_.toInt64) 0 2) cw_RX10_75 kw_923 [] rfl rfl ⟨(Nat.le_of_ble_eq_true rfl), (Nat.le_of_ble_eq_true rfl)⟩ ⟨(Nat.le_of_ble_eq_true rfl), (Nat.le_of_ble_eq_true rfl)⟩ (Nat.le_of_ble_eq_true rfl) dX10_agendaFor_6 (fun x1 => ?_)
  refine sm_if_ne (tgt := 15) hO dX10_agendaFor_9 (by decide) ?_ ?_
  · refine sm_aload_n hO 0 dX10_agendaFor_15 rfl rfl ?_
    refine sm_gi hO fl_RX10_72 dX10_agendaFor_16 (fun x2 => ?_)
    refine sm_if_ne (tgt := 25) hO dX10_agendaFor_19 (by decide) ?_ ?_
    · refine sm_aload_n hO 0 dX10_agendaFor_25 rfl rfl ?_
      refine sm_iconst (v := 0) hO dX10_agendaFor_26 rfl ?_
      refine sm_iconst (v := 1) hO dX10_agendaFor_27 rfl ?_
      refine sm_cvi hO (ctX10_agendaOf l G a0_ (0 : Int32) (1 : Int32)) cw_RX10_308 cv_X10_agendaOf [] rfl rfl ⟨(Nat.le_of_ble_eq_true rfl), (Nat.le_of_ble_eq_true rfl)⟩ ⟨(Nat.le_of_ble_eq_true rfl), (Nat.le_of_ble_eq_true rfl)⟩ (Nat.le_of_ble_eq_true rfl) dX10_agendaFor_28 (fun x3 => ?_)
      refine sm_iload_n hO 1 dX10_agendaFor_31 rfl rfl ?_
      refine sm_icmp_ne (tgt := 39) hO dX10_agendaFor_32 (by decide) ?_ ?_
      · refine sm_aload_n hO 0 dX10_agendaFor_39 rfl rfl ?_
        refine sm_iconst (v := 0) hO dX10_agendaFor_40 rfl ?_
        refine sm_iconst (v := 2) hO dX10_agendaFor_41 rfl ?_
        refine sm_cvi hO (ctX10_agendaOf l G a0_ (0 : Int32) (2 : Int32)) cw_RX10_308 cv_X10_agendaOf [] rfl rfl ⟨(Nat.le_of_ble_eq_true rfl), (Nat.le_of_ble_eq_true rfl)⟩ ⟨(Nat.le_of_ble_eq_true rfl), (Nat.le_of_ble_eq_true rfl)⟩ (Nat.le_of_ble_eq_true rfl) dX10_agendaFor_42 (fun x4 => ?_)
        refine sm_iload_n hO 1 dX10_agendaFor_45 rfl rfl ?_
        refine sm_icmp_ne (tgt := 53) hO dX10_agendaFor_46 (by decide) ?_ ?_
        · refine sm_aload_n hO 0 dX10_agendaFor_53 rfl rfl ?_
          refine sm_iconst (v := 1) hO dX10_agendaFor_54 rfl ?_
          refine sm_iconst (v := 2) hO dX10_agendaFor_55 rfl ?_
          refine sm_cvi hO (ctX10_agendaOf l G a0_ (1 : Int32) (2 : Int32)) cw_RX10_308 cv_X10_agendaOf [] rfl rfl ⟨(Nat.le_of_ble_eq_true rfl), (Nat.le_of_ble_eq_true rfl)⟩ ⟨(Nat.le_of_ble_eq_true rfl), (Nat.le_of_ble_eq_true rfl)⟩ (Nat.le_of_ble_eq_true rfl) dX10_agendaFor_56 (fun x5 => ?_)
          refine sm_iload_n hO 1 dX10_agendaFor_59 rfl rfl ?_
          refine sm_icmp_ne (tgt := 68) hO dX10_agendaFor_60 (by decide) ?_ ?_
          · refine sm_iconst (v := (-1)) hO dX10_agendaFor_68 rfl ?_
            exact sm_iret hO hr hk (Nat.le_of_ble_eq_true rfl) (Nat.le_of_ble_eq_true rfl) dX10_agendaFor_69
          · refine sm_bipush (v := 12) hO dX10_agendaFor_63 rfl ?_
            refine sm_goto (tgt := 69) hO dX10_agendaFor_65 (by decide) ?_
            exact sm_iret hO hr hk (Nat.le_of_ble_eq_true rfl) (Nat.le_of_ble_eq_true rfl) dX10_agendaFor_69
        · refine sm_iconst (v := 2) hO dX10_agendaFor_49 rfl ?_
          refine sm_goto (tgt := 69) hO dX10_agendaFor_50 (by decide) ?_
          exact sm_iret hO hr hk (Nat.le_of_ble_eq_true rfl) (Nat.le_of_ble_eq_true rfl) dX10_agendaFor_69
      · refine sm_iconst (v := 1) hO dX10_agendaFor_35 rfl ?_
        refine sm_goto (tgt := 69) hO dX10_agendaFor_36 (by decide) ?_
        exact sm_iret hO hr hk (Nat.le_of_ble_eq_true rfl) (Nat.le_of_ble_eq_true rfl) dX10_agendaFor_69
    · refine sm_ldc (v := (-1000000003)) hO kw_1070 dX10_agendaFor_22 ?_
      exact sm_iret hO hr hk (Nat.le_of_ble_eq_true rfl) (Nat.le_of_ble_eq_true rfl) dX10_agendaFor_24
  · refine sm_ldc (v := (-1000000002)) hO kw_925 dX10_agendaFor_12 ?_
    exact sm_iret hO hr hk (Nat.le_of_ble_eq_true rfl) (Nat.le_of_ble_eq_true rfl) dX10_agendaFor_14
/-! DollCongress$Wants.pleasure(LDollCongress$Scene;II)I -/
def pX8_pleasure (a0_ : Nat) (a1_ : Nat) (x2_ : Int32) (x3_ : Int32) : MM Int32 := m_gr a1_ 5 1 (fun a1 => m_li 0 a1 x3_ (fun x2 => m_gr a0_ 7 0 (fun a3 => m_li 0 a3 x2_ (fun x4 => m_bind (pJ6_bitCount_0f7a4 (x2 &&& x4)) (fun x5 => m_ret x5)))))
set_option maxRecDepth 100000 in
set_option maxHeartbeats 4000000 in
theorem ctX8_pleasure (l : Launch) (G : cG) (a0_ : Nat) (a1_ : Nat) (x2_ : Int32) (x3_ : Int32) : Ct l G yX8_pleasure cX8_pleasure 4 (some .int) 1 20 0 0 [.ref a0_, .ref a1_, .int x2_, .int x3_] c_vi (pX8_pleasure a0_ a1_ x2_ x3_) := by
  refine Ct.of (lv := [(0, .ref a0_), (1, .ref a1_), (2, .int x2_), (3, .int x3_)]) (by decide) (Nat.le_of_ble_eq_true rfl) rfl (fun p e s m args below meth c hO hr hk hin => ?_)
  rw [pX8_pleasure]
  refine sm_aload_n hO 1 dX8_pleasure_0 rfl rfl ?_
  refine sm_gr hO fl_RX8_35 dX8_pleasure_1 (fun a1 => ?_)
  refine sm_iload_n hO 3 dX8_pleasure_4 rfl rfl ?_
  refine sm_li hO dX8_pleasure_5 (fun x2 => ?_)
  refine sm_aload_n hO 0 dX8_pleasure_6 rfl rfl ?_
  refine sm_gr hO fl_RX8_9 dX8_pleasure_7 (fun a3 => ?_)
  refine sm_iload_n hO 2 dX8_pleasure_10 rfl rfl ?_
  refine sm_li hO dX8_pleasure_11 (fun x4 => ?_)
  refine sm_iand hO dX8_pleasure_12 ?_
  refine sm_csi hO (ctJ6_bitCount_0f7a4 l G (x2 &&& x4)) cw_RX8_43 kw_472 [] rfl rfl ⟨(Nat.le_of_ble_eq_true rfl), (Nat.le_of_ble_eq_true rfl)⟩ ⟨(Nat.le_of_ble_eq_true rfl), (Nat.le_of_ble_eq_true rfl)⟩ (Nat.le_of_ble_eq_true rfl) dX8_pleasure_13 (fun x5 => ?_)
  exact sm_iret hO hr hk (Nat.le_of_ble_eq_true rfl) (Nat.le_of_ble_eq_true rfl) dX8_pleasure_16
/-! DollCongress$Wants.mostFrom(LDollCongress$Roll;LDollCongress$Scene;II)I -/
def fX8_mostFrom_67 (k16 : Nat → Nat → Nat → Int32 → Int32 → Int32 → Int32 → MM Int32) (aL0 : Nat) (aL1 : Nat) (aL2 : Nat) (xL3 : Int32) (xL4 : Int32) (xL5 : Int32) (xL6 : Int32) : MM Int32 := m_let (xL6 + 1) (fun x1 => k16 aL0 aL1 aL2 xL3 xL4 xL5 x1)
def fX8_mostFrom_16  : Nat → Nat → Nat → Nat → Int32 → Int32 → Int32 → Int32 → MM Int32
  | 0, _, _, _, _, _, _, _ => m_bad
  | n + 1, aL0, aL1, aL2, xL3, xL4, xL5, xL6 => m_gi aL1 4 6 (fun x1 => if x1 ≤ xL6 then (m_ret xL5) else (if ((xL4 >>> (xL6 &&& 31)) &&& 1) = 0 then (m_cv aL0 7 (pX8_pleasure aL0 aL2 xL3 xL6) (fun x2 => m_gr aL0 7 1 (fun a3 => m_lr 4 a3 (xL3 + 1) (fun a4 => m_li 0 a4 (xL4 ||| ((1 : Int32) <<< (xL6 &&& 31))) (fun x5 => m_let (c_mx xL5 (x2 + x5)) (fun x6 => fX8_mostFrom_67 (fX8_mostFrom_16 n) aL0 aL1 aL2 xL3 xL4 x6 xL6)))))) else (fX8_mostFrom_67 (fX8_mostFrom_16 n) aL0 aL1 aL2 xL3 xL4 xL5 xL6)))
def pX8_mostFrom (a0_ : Nat) (a1_ : Nat) (a2_ : Nat) (x3_ : Int32) (x4_ : Int32) : MM Int32 := m_gr a0_ 7 1 (fun a1 => m_lr 4 a1 (x3_ + 1) (fun a2 => m_li 0 a2 x4_ (fun x3 => fX8_mostFrom_16 c_fu a0_ a1_ a2_ x3_ x4_ x3 0)))
set_option maxRecDepth 100000 in
set_option maxHeartbeats 4000000 in
theorem tX8_mostFrom_67 {p : Program} {l : Launch} {e : Env} {s : State} {m : MethodId} {args : Array Value} {below : List Frame} {meth : Method} {c : Code} {G : cG} (hO : c_Ok p s m c cX8_mostFrom 7 RX8 G) (hr : meth.sig.returnType = (some .int)) (hk : meth.locks = false) (k16 : Nat → Nat → Nat → Int32 → Int32 → Int32 → Int32 → MM Int32) (hk16 : ∀ (aL0 : Nat) (aL1 : Nat) (aL2 : Nat) (xL3 : Int32) (xL4 : Int32) (xL5 : Int32) (xL6 : Int32), Sm p l e { frames := 2, cells := 0, slots := 0, locals := 43 } s m args below meth c G 7 (c_Q G c_vi below args s 0 0) 0 0 16 [(0, .ref aL0), (1, .ref aL1), (2, .ref aL2), (3, .int xL3), (4, .int xL4), (5, .int xL5), (6, .int xL6)] [] (k16 aL0 aL1 aL2 xL3 xL4 xL5 xL6))  : ∀ (aL0 : Nat) (aL1 : Nat) (aL2 : Nat) (xL3 : Int32) (xL4 : Int32) (xL5 : Int32) (xL6 : Int32), Sm p l e { frames := 2, cells := 0, slots := 0, locals := 43 } s m args below meth c G 7 (c_Q G c_vi below args s 0 0) 0 0 67 [(0, .ref aL0), (1, .ref aL1), (2, .ref aL2), (3, .int xL3), (4, .int xL4), (5, .int xL5), (6, .int xL6)] [] (fX8_mostFrom_67 k16 aL0 aL1 aL2 xL3 xL4 xL5 xL6) := by
  intro aL0 aL1 aL2 xL3 xL4 xL5 xL6
  rw [fX8_mostFrom_67]
  refine sm_iincL (v := xL6 + 1) hO 6 (fun x1 => [(6, .int x1), (0, .ref aL0), (1, .ref aL1), (2, .ref aL2), (3, .int xL3), (4, .int xL4), (5, .int xL5)]) dX8_mostFrom_67 rfl rfl (by decide) (fun _ => rfl) (fun x1 => ?_)
  refine sm_goto (tgt := 16) hO dX8_mostFrom_70 (by decide) ?_
  exact sm_sub [1, 2, 3, 4, 5, 6, 0] rfl (hk16 aL0 aL1 aL2 xL3 xL4 xL5 x1)
set_option maxRecDepth 100000 in
set_option maxHeartbeats 4000000 in
theorem tX8_mostFrom_16 {p : Program} {l : Launch} {e : Env} {s : State} {m : MethodId} {args : Array Value} {below : List Frame} {meth : Method} {c : Code} {G : cG} (hO : c_Ok p s m c cX8_mostFrom 7 RX8 G) (hr : meth.sig.returnType = (some .int)) (hk : meth.locks = false) : ∀ (n : Nat) (aL0 : Nat) (aL1 : Nat) (aL2 : Nat) (xL3 : Int32) (xL4 : Int32) (xL5 : Int32) (xL6 : Int32), Sm p l e { frames := 2, cells := 0, slots := 0, locals := 43 } s m args below meth c G 7 (c_Q G c_vi below args s 0 0) 0 0 16 [(0, .ref aL0), (1, .ref aL1), (2, .ref aL2), (3, .int xL3), (4, .int xL4), (5, .int xL5), (6, .int xL6)] [] (fX8_mostFrom_16 n aL0 aL1 aL2 xL3 xL4 xL5 xL6) := by
  intro n
  induction n with
  | zero =>
    intro aL0 aL1 aL2 xL3 xL4 xL5 xL6
    exact sm_bad
  | succ n ih =>
    intro aL0 aL1 aL2 xL3 xL4 xL5 xL6
    rw [fX8_mostFrom_16]
    refine sm_iload hO 6 dX8_mostFrom_16 rfl ?_
    refine sm_aload_n hO 1 dX8_mostFrom_18 rfl rfl ?_
    refine sm_gi hO fl_RX8_26 dX8_mostFrom_19 (fun x1 => ?_)
    refine sm_icmp_ge (tgt := 73) hO dX8_mostFrom_22 (by decide) ?_ ?_
    · refine sm_iload hO 5 dX8_mostFrom_73 rfl ?_
      exact sm_iret hO hr hk (Nat.le_of_ble_eq_true rfl) (Nat.le_of_ble_eq_true rfl) dX8_mostFrom_75
    · refine sm_iload hO 4 dX8_mostFrom_25 rfl ?_
      refine sm_iload hO 6 dX8_mostFrom_27 rfl ?_
      refine sm_ishr hO dX8_mostFrom_29 ?_
      refine sm_iconst (v := 1) hO dX8_mostFrom_30 rfl ?_
      refine sm_iand hO dX8_mostFrom_31 ?_
      refine sm_if_ne (tgt := 67) hO dX8_mostFrom_32 (by decide) ?_ ?_
      · exact sm_sub [0, 1, 2, 3, 4, 5, 6] rfl (tX8_mostFrom_67 hO hr hk (fX8_mostFrom_16 n) ih aL0 aL1 aL2 xL3 xL4 xL5 xL6)
      · refine sm_iload hO 5 dX8_mostFrom_35 rfl ?_
        refine sm_aload_n hO 0 dX8_mostFrom_37 rfl rfl ?_
        refine sm_aload_n hO 2 dX8_mostFrom_38 rfl rfl ?_
        refine sm_iload_n hO 3 dX8_mostFrom_39 rfl rfl ?_
        refine sm_iload hO 6 dX8_mostFrom_40 rfl ?_
        refine sm_cvi hO (ctX8_pleasure l G aL0 aL2 xL3 xL6) cw_RX8_53 cv_X8_pleasure [.int xL5] rfl rfl ⟨(Nat.le_of_ble_eq_true rfl), (Nat.le_of_ble_eq_true rfl)⟩ ⟨(Nat.le_of_ble_eq_true rfl), (Nat.le_of_ble_eq_true rfl)⟩ (Nat.le_of_ble_eq_true rfl) dX8_mostFrom_42 (fun x2 => ?_)
        refine sm_aload_n hO 0 dX8_mostFrom_45 rfl rfl ?_
        refine sm_gr hO fl_RX8_17 dX8_mostFrom_46 (fun a3 => ?_)
        refine sm_iload_n hO 3 dX8_mostFrom_49 rfl rfl ?_
        refine sm_iconst (v := 1) hO dX8_mostFrom_50 rfl ?_
        refine sm_iadd hO dX8_mostFrom_51 ?_
        refine sm_lr hO rfl dX8_mostFrom_52 (by decide) (fun a4 => ?_)
        refine sm_iload hO 4 dX8_mostFrom_53 rfl ?_
        refine sm_iconst (v := 1) hO dX8_mostFrom_55 rfl ?_
        refine sm_iload hO 6 dX8_mostFrom_56 rfl ?_
        refine sm_ishl hO dX8_mostFrom_58 ?_
        refine sm_ior hO dX8_mostFrom_59 ?_
        refine sm_li hO dX8_mostFrom_60 (fun x5 => ?_)
        refine sm_iadd hO dX8_mostFrom_61 ?_
        refine sm_max hO kw_737 kw_601 kw_83 kw_602 (Nat.le_of_ble_eq_true rfl) (Nat.le_of_ble_eq_true rfl) (Nat.le_of_ble_eq_true rfl) (Nat.le_of_ble_eq_true rfl) dX8_mostFrom_62 ?_
        refine sm_topi (fun x6 => ?_)
        refine sm_istore hO [(5, .int x6), (0, .ref aL0), (1, .ref aL1), (2, .ref aL2), (3, .int xL3), (4, .int xL4), (6, .int xL6)] dX8_mostFrom_65 (by decide) rfl ?_
        exact sm_sub [1, 2, 3, 4, 5, 0, 6] rfl (tX8_mostFrom_67 hO hr hk (fX8_mostFrom_16 n) ih aL0 aL1 aL2 xL3 xL4 x6 xL6)
set_option maxRecDepth 100000 in
set_option maxHeartbeats 4000000 in
theorem ctX8_mostFrom (l : Launch) (G : cG) (a0_ : Nat) (a1_ : Nat) (a2_ : Nat) (x3_ : Int32) (x4_ : Int32) : Ct l G yX8_mostFrom cX8_mostFrom 7 (some .int) 2 43 0 0 [.ref a0_, .ref a1_, .ref a2_, .int x3_, .int x4_] c_vi (pX8_mostFrom a0_ a1_ a2_ x3_ x4_) := by
  refine Ct.of (lv := [(0, .ref a0_), (1, .ref a1_), (2, .ref a2_), (3, .int x3_), (4, .int x4_)]) (by decide) (Nat.le_of_ble_eq_true rfl) rfl (fun p e s m args below meth c hO hr hk hin => ?_)
  rw [pX8_mostFrom]
  refine sm_aload_n hO 0 dX8_mostFrom_0 rfl rfl ?_
  refine sm_gr hO fl_RX8_17 dX8_mostFrom_1 (fun a1 => ?_)
  refine sm_iload_n hO 3 dX8_mostFrom_4 rfl rfl ?_
  refine sm_iconst (v := 1) hO dX8_mostFrom_5 rfl ?_
  refine sm_iadd hO dX8_mostFrom_6 ?_
  refine sm_lr hO rfl dX8_mostFrom_7 (by decide) (fun a2 => ?_)
  refine sm_iload hO 4 dX8_mostFrom_8 rfl ?_
  refine sm_li hO dX8_mostFrom_10 (fun x3 => ?_)
  refine sm_istore hO [(5, .int x3), (0, .ref a0_), (1, .ref a1_), (2, .ref a2_), (3, .int x3_), (4, .int x4_)] dX8_mostFrom_11 (by decide) rfl ?_
  refine sm_iconst (v := 0) hO dX8_mostFrom_13 rfl ?_
  refine sm_istore hO [(6, .int 0), (5, .int x3), (0, .ref a0_), (1, .ref a1_), (2, .ref a2_), (3, .int x3_), (4, .int x4_)] dX8_mostFrom_14 (by decide) rfl ?_
  exact sm_sub [2, 3, 4, 5, 6, 1, 0] rfl (tX8_mostFrom_16 hO hr hk c_fu a0_ a1_ a2_ x3_ x4_ x3 0)
/-! DollCongress$Wants.weigh(LDollCongress$Roll;LDollCongress$Scene;)V -/
def fX8_weigh_10 (k44 : Nat → Nat → Nat → MM Unit) : Nat → Nat → Nat → Nat → Int32 → MM Unit
  | 0, _, _, _, _ => m_bad
  | n + 1, aL0, aL1, aL2, xL3 => m_gi aL1 4 6 (fun x1 => if x1 ≤ xL3 then (k44 aL0 aL1 aL2) else (m_gr aL0 7 0 (fun a2 => m_gr aL1 4 2 (fun a3 => m_li 0 a3 xL3 (fun x4 => m_li 0 a2 x4 (fun x5 => m_gr aL2 5 1 (fun a6 => m_li 0 a6 xL3 (fun x7 => m_si a2 x4 (x5 ||| x7) (m_let (xL3 + 1) (fun x8 => fX8_weigh_10 k44 n aL0 aL1 aL2 x8))))))))))
def fX8_weigh_109 (k71 : Nat → Nat → Nat → Int32 → Int32 → MM Unit) (aL0 : Nat) (aL1 : Nat) (aL2 : Nat) (xL3 : Int32) (xL4 : Int32) : MM Unit := m_let (xL4 + 1) (fun x1 => k71 aL0 aL1 aL2 xL3 x1)
def fX8_weigh_71 (k115 : Nat → Nat → Nat → Int32 → MM Unit) : Nat → Nat → Nat → Nat → Int32 → Int32 → MM Unit
  | 0, _, _, _, _, _ => m_bad
  | n + 1, aL0, aL1, aL2, xL3, xL4 => m_gi aL1 4 6 (fun x1 => if ((1 : Int32) <<< (x1 &&& 31)) ≤ xL4 then (k115 aL0 aL1 aL2 xL3) else (m_bind (pJ6_bitCount_0f7a4 xL4) (fun x2 => if xL3 < x2 then (fX8_weigh_109 (fX8_weigh_71 k115 n) aL0 aL1 aL2 xL3 xL4) else (m_gr aL0 7 1 (fun a3 => m_lr 4 a3 xL3 (fun a4 => m_cv aL0 7 (pX8_mostFrom aL0 aL1 aL2 xL3 xL4) (fun x5 => m_si a4 xL4 x5 (fX8_weigh_109 (fX8_weigh_71 k115 n) aL0 aL1 aL2 xL3 xL4))))))))
def fX8_weigh_115 (k64 : Nat → Nat → Nat → Int32 → MM Unit) (aL0 : Nat) (aL1 : Nat) (aL2 : Nat) (xL3 : Int32) : MM Unit := m_let (xL3 + (-1)) (fun x1 => k64 aL0 aL1 aL2 x1)
def fX8_weigh_64  : Nat → Nat → Nat → Nat → Int32 → MM Unit
  | 0, _, _, _, _ => m_bad
  | n + 1, aL0, aL1, aL2, xL3 => if xL3 < 0 then (m_ret ()) else (fX8_weigh_71 (fX8_weigh_115 (fX8_weigh_64 n)) c_fu aL0 aL1 aL2 xL3 0)
def fX8_weigh_44  (aL0 : Nat) (aL1 : Nat) (aL2 : Nat) : MM Unit := m_gr aL0 7 1 (fun a1 => m_gi aL1 4 5 (fun x2 => m_lr 4 a1 x2 (fun a3 => m_bind (pJ7_fill_53178 a3 (0 : Int32)) (fun _ => m_gi aL1 4 5 (fun x4 => m_let (x4 - 1) (fun x5 => fX8_weigh_64 c_fu aL0 aL1 aL2 x5))))))
def pX8_weigh (a0_ : Nat) (a1_ : Nat) (a2_ : Nat) : MM Unit := m_gr a0_ 7 0 (fun a1 => m_bind (pJ7_fill_53178 a1 (0 : Int32)) (fun _ => fX8_weigh_10 fX8_weigh_44 c_fu a0_ a1_ a2_ 0))
set_option maxRecDepth 100000 in
set_option maxHeartbeats 4000000 in
theorem tX8_weigh_10 {p : Program} {l : Launch} {e : Env} {s : State} {m : MethodId} {args : Array Value} {below : List Frame} {meth : Method} {c : Code} {G : cG} (hO : c_Ok p s m c cX8_weigh 5 RX8 G) (hr : meth.sig.returnType = none) (hk : meth.locks = false) (k44 : Nat → Nat → Nat → MM Unit) (hk44 : ∀ (aL0 : Nat) (aL1 : Nat) (aL2 : Nat), Sm p l e { frames := 3, cells := 0, slots := 0, locals := 69 } s m args below meth c G 5 (c_Q G c_vv below args s 0 0) 0 0 44 [(0, .ref aL0), (1, .ref aL1), (2, .ref aL2)] [] (k44 aL0 aL1 aL2))  : ∀ (n : Nat) (aL0 : Nat) (aL1 : Nat) (aL2 : Nat) (xL3 : Int32), Sm p l e { frames := 3, cells := 0, slots := 0, locals := 69 } s m args below meth c G 5 (c_Q G c_vv below args s 0 0) 0 0 10 [(0, .ref aL0), (1, .ref aL1), (2, .ref aL2), (3, .int xL3)] [] (fX8_weigh_10 k44 n aL0 aL1 aL2 xL3) := by
  intro n
  induction n with
  | zero =>
    intro aL0 aL1 aL2 xL3
    exact sm_bad
  | succ n ih =>
    intro aL0 aL1 aL2 xL3
    rw [fX8_weigh_10]
    refine sm_iload_n hO 3 dX8_weigh_10 rfl rfl ?_
    refine sm_aload_n hO 1 dX8_weigh_11 rfl rfl ?_
    refine sm_gi hO fl_RX8_26 dX8_weigh_12 (fun x1 => ?_)
    refine sm_icmp_ge (tgt := 44) hO dX8_weigh_15 (by decide) ?_ ?_
    · exact sm_sub [0, 1, 2] rfl (hk44 aL0 aL1 aL2)
    · refine sm_aload_n hO 0 dX8_weigh_18 rfl rfl ?_
      refine sm_gr hO fl_RX8_9 dX8_weigh_19 (fun a2 => ?_)
      refine sm_aload_n hO 1 dX8_weigh_22 rfl rfl ?_
      refine sm_gr hO fl_RX8_32 dX8_weigh_23 (fun a3 => ?_)
      refine sm_iload_n hO 3 dX8_weigh_26 rfl rfl ?_
      refine sm_li hO dX8_weigh_27 (fun x4 => ?_)
      refine sm_dup2 hO dX8_weigh_28 rfl rfl ?_
      refine sm_li hO dX8_weigh_29 (fun x5 => ?_)
      refine sm_aload_n hO 2 dX8_weigh_30 rfl rfl ?_
      refine sm_gr hO fl_RX8_35 dX8_weigh_31 (fun a6 => ?_)
      refine sm_iload_n hO 3 dX8_weigh_34 rfl rfl ?_
      refine sm_li hO dX8_weigh_35 (fun x7 => ?_)
      refine sm_ior hO dX8_weigh_36 ?_
      refine sm_si hO dX8_weigh_37 ?_
      refine sm_iincL (v := xL3 + 1) hO 3 (fun x8 => [(3, .int x8), (0, .ref aL0), (1, .ref aL1), (2, .ref aL2)]) dX8_weigh_38 rfl rfl (by decide) (fun _ => rfl) (fun x8 => ?_)
      refine sm_goto (tgt := 10) hO dX8_weigh_41 (by decide) ?_
      exact sm_sub [1, 2, 3, 0] rfl (ih aL0 aL1 aL2 x8)
set_option maxRecDepth 100000 in
set_option maxHeartbeats 4000000 in
theorem tX8_weigh_109 {p : Program} {l : Launch} {e : Env} {s : State} {m : MethodId} {args : Array Value} {below : List Frame} {meth : Method} {c : Code} {G : cG} (hO : c_Ok p s m c cX8_weigh 5 RX8 G) (hr : meth.sig.returnType = none) (hk : meth.locks = false) (k71 : Nat → Nat → Nat → Int32 → Int32 → MM Unit) (hk71 : ∀ (aL0 : Nat) (aL1 : Nat) (aL2 : Nat) (xL3 : Int32) (xL4 : Int32), Sm p l e { frames := 3, cells := 0, slots := 0, locals := 69 } s m args below meth c G 5 (c_Q G c_vv below args s 0 0) 0 0 71 [(0, .ref aL0), (1, .ref aL1), (2, .ref aL2), (3, .int xL3), (4, .int xL4)] [] (k71 aL0 aL1 aL2 xL3 xL4))  : ∀ (aL0 : Nat) (aL1 : Nat) (aL2 : Nat) (xL3 : Int32) (xL4 : Int32), Sm p l e { frames := 3, cells := 0, slots := 0, locals := 69 } s m args below meth c G 5 (c_Q G c_vv below args s 0 0) 0 0 109 [(0, .ref aL0), (1, .ref aL1), (2, .ref aL2), (3, .int xL3), (4, .int xL4)] [] (fX8_weigh_109 k71 aL0 aL1 aL2 xL3 xL4) := by
  intro aL0 aL1 aL2 xL3 xL4
  rw [fX8_weigh_109]
  refine sm_iincL (v := xL4 + 1) hO 4 (fun x1 => [(4, .int x1), (0, .ref aL0), (1, .ref aL1), (2, .ref aL2), (3, .int xL3)]) dX8_weigh_109 rfl rfl (by decide) (fun _ => rfl) (fun x1 => ?_)
  refine sm_goto (tgt := 71) hO dX8_weigh_112 (by decide) ?_
  exact sm_sub [1, 2, 3, 4, 0] rfl (hk71 aL0 aL1 aL2 xL3 x1)
set_option maxRecDepth 100000 in
set_option maxHeartbeats 4000000 in
theorem tX8_weigh_71 {p : Program} {l : Launch} {e : Env} {s : State} {m : MethodId} {args : Array Value} {below : List Frame} {meth : Method} {c : Code} {G : cG} (hO : c_Ok p s m c cX8_weigh 5 RX8 G) (hr : meth.sig.returnType = none) (hk : meth.locks = false) (k115 : Nat → Nat → Nat → Int32 → MM Unit) (hk115 : ∀ (aL0 : Nat) (aL1 : Nat) (aL2 : Nat) (xL3 : Int32), Sm p l e { frames := 3, cells := 0, slots := 0, locals := 69 } s m args below meth c G 5 (c_Q G c_vv below args s 0 0) 0 0 115 [(0, .ref aL0), (1, .ref aL1), (2, .ref aL2), (3, .int xL3)] [] (k115 aL0 aL1 aL2 xL3))  : ∀ (n : Nat) (aL0 : Nat) (aL1 : Nat) (aL2 : Nat) (xL3 : Int32) (xL4 : Int32), Sm p l e { frames := 3, cells := 0, slots := 0, locals := 69 } s m args below meth c G 5 (c_Q G c_vv below args s 0 0) 0 0 71 [(0, .ref aL0), (1, .ref aL1), (2, .ref aL2), (3, .int xL3), (4, .int xL4)] [] (fX8_weigh_71 k115 n aL0 aL1 aL2 xL3 xL4) := by
  intro n
  induction n with
  | zero =>
    intro aL0 aL1 aL2 xL3 xL4
    exact sm_bad
  | succ n ih =>
    intro aL0 aL1 aL2 xL3 xL4
    rw [fX8_weigh_71]
    refine sm_iload hO 4 dX8_weigh_71 rfl ?_
    refine sm_iconst (v := 1) hO dX8_weigh_73 rfl ?_
    refine sm_aload_n hO 1 dX8_weigh_74 rfl rfl ?_
    refine sm_gi hO fl_RX8_26 dX8_weigh_75 (fun x1 => ?_)
    refine sm_ishl hO dX8_weigh_78 ?_
    refine sm_icmp_ge (tgt := 115) hO dX8_weigh_79 (by decide) ?_ ?_
    · exact sm_sub [0, 1, 2, 3] rfl (hk115 aL0 aL1 aL2 xL3)
    · refine sm_iload hO 4 dX8_weigh_82 rfl ?_
      refine sm_csi hO (ctJ6_bitCount_0f7a4 l G xL4) cw_RX8_43 kw_472 [] rfl rfl ⟨(Nat.le_of_ble_eq_true rfl), (Nat.le_of_ble_eq_true rfl)⟩ ⟨(Nat.le_of_ble_eq_true rfl), (Nat.le_of_ble_eq_true rfl)⟩ (Nat.le_of_ble_eq_true rfl) dX8_weigh_84 (fun x2 => ?_)
      refine sm_iload_n hO 3 dX8_weigh_87 rfl rfl ?_
      refine sm_icmp_gt (tgt := 109) hO dX8_weigh_88 (by decide) ?_ ?_
      · exact sm_sub [0, 1, 2, 3, 4] rfl (tX8_weigh_109 hO hr hk (fX8_weigh_71 k115 n) ih aL0 aL1 aL2 xL3 xL4)
      · refine sm_aload_n hO 0 dX8_weigh_91 rfl rfl ?_
        refine sm_gr hO fl_RX8_17 dX8_weigh_92 (fun a3 => ?_)
        refine sm_iload_n hO 3 dX8_weigh_95 rfl rfl ?_
        refine sm_lr hO rfl dX8_weigh_96 (by decide) (fun a4 => ?_)
        refine sm_iload hO 4 dX8_weigh_97 rfl ?_
        refine sm_aload_n hO 0 dX8_weigh_99 rfl rfl ?_
        refine sm_aload_n hO 1 dX8_weigh_100 rfl rfl ?_
        refine sm_aload_n hO 2 dX8_weigh_101 rfl rfl ?_
        refine sm_iload_n hO 3 dX8_weigh_102 rfl rfl ?_
        refine sm_iload hO 4 dX8_weigh_103 rfl ?_
        refine sm_cvi hO (ctX8_mostFrom l G aL0 aL1 aL2 xL3 xL4) cw_RX8_49 cv_X8_mostFrom [.int xL4, .ref a4] rfl rfl ⟨(Nat.le_of_ble_eq_true rfl), (Nat.le_of_ble_eq_true rfl)⟩ ⟨(Nat.le_of_ble_eq_true rfl), (Nat.le_of_ble_eq_true rfl)⟩ (Nat.le_of_ble_eq_true rfl) dX8_weigh_105 (fun x5 => ?_)
        refine sm_si hO dX8_weigh_108 ?_
        exact sm_sub [0, 1, 2, 3, 4] rfl (tX8_weigh_109 hO hr hk (fX8_weigh_71 k115 n) ih aL0 aL1 aL2 xL3 xL4)
set_option maxRecDepth 100000 in
set_option maxHeartbeats 4000000 in
theorem tX8_weigh_115 {p : Program} {l : Launch} {e : Env} {s : State} {m : MethodId} {args : Array Value} {below : List Frame} {meth : Method} {c : Code} {G : cG} (hO : c_Ok p s m c cX8_weigh 5 RX8 G) (hr : meth.sig.returnType = none) (hk : meth.locks = false) (k64 : Nat → Nat → Nat → Int32 → MM Unit) (hk64 : ∀ (aL0 : Nat) (aL1 : Nat) (aL2 : Nat) (xL3 : Int32), Sm p l e { frames := 3, cells := 0, slots := 0, locals := 69 } s m args below meth c G 5 (c_Q G c_vv below args s 0 0) 0 0 64 [(0, .ref aL0), (1, .ref aL1), (2, .ref aL2), (3, .int xL3)] [] (k64 aL0 aL1 aL2 xL3))  : ∀ (aL0 : Nat) (aL1 : Nat) (aL2 : Nat) (xL3 : Int32), Sm p l e { frames := 3, cells := 0, slots := 0, locals := 69 } s m args below meth c G 5 (c_Q G c_vv below args s 0 0) 0 0 115 [(0, .ref aL0), (1, .ref aL1), (2, .ref aL2), (3, .int xL3)] [] (fX8_weigh_115 k64 aL0 aL1 aL2 xL3) := by
  intro aL0 aL1 aL2 xL3
  rw [fX8_weigh_115]
  refine sm_iincL (v := xL3 + (-1)) hO 3 (fun x1 => [(3, .int x1), (0, .ref aL0), (1, .ref aL1), (2, .ref aL2)]) dX8_weigh_115 rfl rfl (by decide) (fun _ => rfl) (fun x1 => ?_)
  refine sm_goto (tgt := 64) hO dX8_weigh_118 (by decide) ?_
  exact sm_sub [1, 2, 3, 0] rfl (hk64 aL0 aL1 aL2 x1)
set_option maxRecDepth 100000 in
set_option maxHeartbeats 4000000 in
theorem tX8_weigh_64 {p : Program} {l : Launch} {e : Env} {s : State} {m : MethodId} {args : Array Value} {below : List Frame} {meth : Method} {c : Code} {G : cG} (hO : c_Ok p s m c cX8_weigh 5 RX8 G) (hr : meth.sig.returnType = none) (hk : meth.locks = false) : ∀ (n : Nat) (aL0 : Nat) (aL1 : Nat) (aL2 : Nat) (xL3 : Int32), Sm p l e { frames := 3, cells := 0, slots := 0, locals := 69 } s m args below meth c G 5 (c_Q G c_vv below args s 0 0) 0 0 64 [(0, .ref aL0), (1, .ref aL1), (2, .ref aL2), (3, .int xL3)] [] (fX8_weigh_64 n aL0 aL1 aL2 xL3) := by
  intro n
  induction n with
  | zero =>
    intro aL0 aL1 aL2 xL3
    exact sm_bad
  | succ n ih =>
    intro aL0 aL1 aL2 xL3
    rw [fX8_weigh_64]
    refine sm_iload_n hO 3 dX8_weigh_64 rfl rfl ?_
    refine sm_if_lt (tgt := 121) hO dX8_weigh_65 (by decide) ?_ ?_
    · exact sm_vret hO hr hk (Nat.le_of_ble_eq_true rfl) (Nat.le_of_ble_eq_true rfl) dX8_weigh_121
    · refine sm_iconst (v := 0) hO dX8_weigh_68 rfl ?_
      refine sm_istore hO [(4, .int 0), (0, .ref aL0), (1, .ref aL1), (2, .ref aL2), (3, .int xL3)] dX8_weigh_69 (by decide) rfl ?_
      exact sm_sub [1, 2, 3, 4, 0] rfl (tX8_weigh_71 hO hr hk (fX8_weigh_115 (fX8_weigh_64 n)) (tX8_weigh_115 hO hr hk (fX8_weigh_64 n) ih) c_fu aL0 aL1 aL2 xL3 0)
set_option maxRecDepth 100000 in
set_option maxHeartbeats 4000000 in
theorem tX8_weigh_44 {p : Program} {l : Launch} {e : Env} {s : State} {m : MethodId} {args : Array Value} {below : List Frame} {meth : Method} {c : Code} {G : cG} (hO : c_Ok p s m c cX8_weigh 5 RX8 G) (hr : meth.sig.returnType = none) (hk : meth.locks = false) : ∀ (aL0 : Nat) (aL1 : Nat) (aL2 : Nat), Sm p l e { frames := 3, cells := 0, slots := 0, locals := 69 } s m args below meth c G 5 (c_Q G c_vv below args s 0 0) 0 0 44 [(0, .ref aL0), (1, .ref aL1), (2, .ref aL2)] [] (fX8_weigh_44 aL0 aL1 aL2) := by
  intro aL0 aL1 aL2
  rw [fX8_weigh_44]
  refine sm_aload_n hO 0 dX8_weigh_44 rfl rfl ?_
  refine sm_gr hO fl_RX8_17 dX8_weigh_45 (fun a1 => ?_)
  refine sm_aload_n hO 1 dX8_weigh_48 rfl rfl ?_
  refine sm_gi hO fl_RX8_40 dX8_weigh_49 (fun x2 => ?_)
  refine sm_lr hO rfl dX8_weigh_52 (by decide) (fun a3 => ?_)
  refine sm_iconst (v := 0) hO dX8_weigh_53 rfl ?_
  refine sm_csv hO (ctJ7_fill_53178 l G a3 (0 : Int32)) cw_RX8_20 kw_450 [] rfl rfl ⟨(Nat.le_of_ble_eq_true rfl), (Nat.le_of_ble_eq_true rfl)⟩ ⟨(Nat.le_of_ble_eq_true rfl), (Nat.le_of_ble_eq_true rfl)⟩ (Nat.le_of_ble_eq_true rfl) dX8_weigh_54 (fun _ => ?_)
  refine sm_aload_n hO 1 dX8_weigh_57 rfl rfl ?_
  refine sm_gi hO fl_RX8_40 dX8_weigh_58 (fun x4 => ?_)
  refine sm_iconst (v := 1) hO dX8_weigh_61 rfl ?_
  refine sm_isub hO dX8_weigh_62 ?_
  refine sm_topi (fun x5 => ?_)
  refine sm_istore_n hO [(3, .int x5), (0, .ref aL0), (1, .ref aL1), (2, .ref aL2)] dX8_weigh_63 rfl (by decide) rfl ?_
  exact sm_sub [1, 2, 3, 0] rfl (tX8_weigh_64 hO hr hk c_fu aL0 aL1 aL2 x5)
set_option maxRecDepth 100000 in
set_option maxHeartbeats 4000000 in
theorem ctX8_weigh (l : Launch) (G : cG) (a0_ : Nat) (a1_ : Nat) (a2_ : Nat) : Ct l G yX8_weigh cX8_weigh 5 none 3 69 0 0 [.ref a0_, .ref a1_, .ref a2_] c_vv (pX8_weigh a0_ a1_ a2_) := by
  refine Ct.of (lv := [(0, .ref a0_), (1, .ref a1_), (2, .ref a2_)]) (by decide) (Nat.le_of_ble_eq_true rfl) rfl (fun p e s m args below meth c hO hr hk hin => ?_)
  rw [pX8_weigh]
  refine sm_aload_n hO 0 dX8_weigh_0 rfl rfl ?_
  refine sm_gr hO fl_RX8_9 dX8_weigh_1 (fun a1 => ?_)
  refine sm_iconst (v := 0) hO dX8_weigh_4 rfl ?_
  refine sm_csv hO (ctJ7_fill_53178 l G a1 (0 : Int32)) cw_RX8_20 kw_450 [] rfl rfl ⟨(Nat.le_of_ble_eq_true rfl), (Nat.le_of_ble_eq_true rfl)⟩ ⟨(Nat.le_of_ble_eq_true rfl), (Nat.le_of_ble_eq_true rfl)⟩ (Nat.le_of_ble_eq_true rfl) dX8_weigh_5 (fun _ => ?_)
  refine sm_iconst (v := 0) hO dX8_weigh_8 rfl ?_
  refine sm_istore_n hO [(3, .int 0), (0, .ref a0_), (1, .ref a1_), (2, .ref a2_)] dX8_weigh_9 rfl (by decide) rfl ?_
  exact sm_sub [1, 2, 3, 0] rfl (tX8_weigh_10 hO hr hk fX8_weigh_44 (tX8_weigh_44 hO hr hk) c_fu a0_ a1_ a2_ 0)
/-! DollCongress$Wants.most()I -/
def pX8_most (a0_ : Nat) : MM Int32 := m_gr a0_ 7 1 (fun a1 => m_lr 4 a1 (0 : Int32) (fun a2 => m_li 0 a2 (0 : Int32) (fun x3 => m_ret x3)))
set_option maxRecDepth 100000 in
set_option maxHeartbeats 4000000 in
theorem ctX8_most (l : Launch) (G : cG) (a0_ : Nat) : Ct l G yX8_most cX8_most 1 (some .int) 0 0 0 0 [.ref a0_] c_vi (pX8_most a0_) := by
  refine Ct.of (lv := [(0, .ref a0_)]) (by decide) (Nat.le_of_ble_eq_true rfl) rfl (fun p e s m args below meth c hO hr hk hin => ?_)
  rw [pX8_most]
  refine sm_aload_n hO 0 dX8_most_0 rfl rfl ?_
  refine sm_gr hO fl_RX8_17 dX8_most_1 (fun a1 => ?_)
  refine sm_iconst (v := 0) hO dX8_most_4 rfl ?_
  refine sm_lr hO rfl dX8_most_5 (by decide) (fun a2 => ?_)
  refine sm_iconst (v := 0) hO dX8_most_6 rfl ?_
  refine sm_li hO dX8_most_7 (fun x3 => ?_)
  exact sm_iret hO hr hk (Nat.le_of_ble_eq_true rfl) (Nat.le_of_ble_eq_true rfl) dX8_most_8
/-! DollCongress$Wants.leastTaken(LDollCongress$Roll;LDollCongress$Scene;II)I -/
def fX8_leastTaken_74 (k3 : Nat → Nat → Nat → Int32 → Int32 → Int32 → MM Int32) (aL0 : Nat) (aL1 : Nat) (aL2 : Nat) (xL3 : Int32) (xL4 : Int32) (xL5 : Int32) : MM Int32 := m_let (xL5 + 1) (fun x1 => k3 aL0 aL1 aL2 xL3 xL4 x1)
def fX8_leastTaken_27 (k3 : Nat → Nat → Nat → Int32 → Int32 → Int32 → MM Int32) (aL0 : Nat) (aL1 : Nat) (aL2 : Nat) (xL3 : Int32) (xL4 : Int32) (xL5 : Int32) (xS0 : Int32) : MM Int32 := if xS0 = 0 then (fX8_leastTaken_74 k3 aL0 aL1 aL2 xL3 xL4 xL5) else (m_cv aL0 7 (pX8_pleasure aL0 aL2 xL3 xL5) (fun x1 => m_gr aL0 7 1 (fun a2 => m_lr 4 a2 (xL3 + 1) (fun a3 => m_li 0 a3 (xL4 ||| ((1 : Int32) <<< (xL5 &&& 31))) (fun x4 => m_gr aL0 7 1 (fun a5 => m_lr 4 a5 xL3 (fun a6 => m_li 0 a6 xL4 (fun x7 => if (x1 + x4) = x7 then (m_ret xL5) else (fX8_leastTaken_74 k3 aL0 aL1 aL2 xL3 xL4 xL5)))))))))
def fX8_leastTaken_3  : Nat → Nat → Nat → Nat → Int32 → Int32 → Int32 → MM Int32
  | 0, _, _, _, _, _, _ => m_bad
  | n + 1, aL0, aL1, aL2, xL3, xL4, xL5 => m_gi aL1 4 6 (fun x1 => if x1 ≤ xL5 then (m_ret ((-1) : Int32)) else (if ((xL4 >>> (xL5 &&& 31)) &&& 1) = 0 then (fX8_leastTaken_27 (fX8_leastTaken_3 n) aL0 aL1 aL2 xL3 xL4 xL5 1) else (fX8_leastTaken_27 (fX8_leastTaken_3 n) aL0 aL1 aL2 xL3 xL4 xL5 0)))
def pX8_leastTaken (a0_ : Nat) (a1_ : Nat) (a2_ : Nat) (x3_ : Int32) (x4_ : Int32) : MM Int32 := fX8_leastTaken_3 c_fu a0_ a1_ a2_ x3_ x4_ 0
set_option maxRecDepth 100000 in
set_option maxHeartbeats 4000000 in
theorem tX8_leastTaken_74 {p : Program} {l : Launch} {e : Env} {s : State} {m : MethodId} {args : Array Value} {below : List Frame} {meth : Method} {c : Code} {G : cG} (hO : c_Ok p s m c cX8_leastTaken 7 RX8 G) (hr : meth.sig.returnType = (some .int)) (hk : meth.locks = false) (k3 : Nat → Nat → Nat → Int32 → Int32 → Int32 → MM Int32) (hk3 : ∀ (aL0 : Nat) (aL1 : Nat) (aL2 : Nat) (xL3 : Int32) (xL4 : Int32) (xL5 : Int32), Sm p l e { frames := 2, cells := 0, slots := 0, locals := 43 } s m args below meth c G 7 (c_Q G c_vi below args s 0 0) 0 0 3 [(0, .ref aL0), (1, .ref aL1), (2, .ref aL2), (3, .int xL3), (4, .int xL4), (5, .int xL5)] [] (k3 aL0 aL1 aL2 xL3 xL4 xL5))  : ∀ (aL0 : Nat) (aL1 : Nat) (aL2 : Nat) (xL3 : Int32) (xL4 : Int32) (xL5 : Int32), Sm p l e { frames := 2, cells := 0, slots := 0, locals := 43 } s m args below meth c G 7 (c_Q G c_vi below args s 0 0) 0 0 74 [(0, .ref aL0), (1, .ref aL1), (2, .ref aL2), (3, .int xL3), (4, .int xL4), (5, .int xL5)] [] (fX8_leastTaken_74 k3 aL0 aL1 aL2 xL3 xL4 xL5) := by
  intro aL0 aL1 aL2 xL3 xL4 xL5
  rw [fX8_leastTaken_74]
  refine sm_iincL (v := xL5 + 1) hO 5 (fun x1 => [(5, .int x1), (0, .ref aL0), (1, .ref aL1), (2, .ref aL2), (3, .int xL3), (4, .int xL4)]) dX8_leastTaken_74 rfl rfl (by decide) (fun _ => rfl) (fun x1 => ?_)
  refine sm_goto (tgt := 3) hO dX8_leastTaken_77 (by decide) ?_
  exact sm_sub [1, 2, 3, 4, 5, 0] rfl (hk3 aL0 aL1 aL2 xL3 xL4 x1)
set_option maxRecDepth 100000 in
set_option maxHeartbeats 4000000 in
theorem tX8_leastTaken_27 {p : Program} {l : Launch} {e : Env} {s : State} {m : MethodId} {args : Array Value} {below : List Frame} {meth : Method} {c : Code} {G : cG} (hO : c_Ok p s m c cX8_leastTaken 7 RX8 G) (hr : meth.sig.returnType = (some .int)) (hk : meth.locks = false) (k3 : Nat → Nat → Nat → Int32 → Int32 → Int32 → MM Int32) (hk3 : ∀ (aL0 : Nat) (aL1 : Nat) (aL2 : Nat) (xL3 : Int32) (xL4 : Int32) (xL5 : Int32), Sm p l e { frames := 2, cells := 0, slots := 0, locals := 43 } s m args below meth c G 7 (c_Q G c_vi below args s 0 0) 0 0 3 [(0, .ref aL0), (1, .ref aL1), (2, .ref aL2), (3, .int xL3), (4, .int xL4), (5, .int xL5)] [] (k3 aL0 aL1 aL2 xL3 xL4 xL5))  : ∀ (aL0 : Nat) (aL1 : Nat) (aL2 : Nat) (xL3 : Int32) (xL4 : Int32) (xL5 : Int32) (xS0 : Int32), Sm p l e { frames := 2, cells := 0, slots := 0, locals := 43 } s m args below meth c G 7 (c_Q G c_vi below args s 0 0) 0 0 27 [(0, .ref aL0), (1, .ref aL1), (2, .ref aL2), (3, .int xL3), (4, .int xL4), (5, .int xL5)] [.int xS0] (fX8_leastTaken_27 k3 aL0 aL1 aL2 xL3 xL4 xL5 xS0) := by
  intro aL0 aL1 aL2 xL3 xL4 xL5 xS0
  rw [fX8_leastTaken_27]
  refine sm_istore hO [(6, .int xS0), (0, .ref aL0), (1, .ref aL1), (2, .ref aL2), (3, .int xL3), (4, .int xL4), (5, .int xL5)] dX8_leastTaken_27 (by decide) rfl ?_
  refine sm_iload hO 0 dX8_leastTaken_29 rfl ?_
  refine sm_if_eq (tgt := 74) hO dX8_leastTaken_31 (by decide) ?_ ?_
  · exact sm_sub [1, 2, 3, 4, 5, 6] rfl (tX8_leastTaken_74 hO hr hk k3 hk3 aL0 aL1 aL2 xL3 xL4 xL5)
  · refine sm_aload_n hO 1 dX8_leastTaken_34 rfl rfl ?_
    refine sm_aload_n hO 3 dX8_leastTaken_35 rfl rfl ?_
    refine sm_iload_n hO 4 dX8_leastTaken_36 rfl rfl ?_
    refine sm_iload hO 6 dX8_leastTaken_37 rfl ?_
    refine sm_cvi hO (ctX8_pleasure l G aL0 aL2 xL3 xL5) cw_RX8_53 cv_X8_pleasure [] rfl rfl ⟨(Nat.le_of_ble_eq_true rfl), (Nat.le_of_ble_eq_true rfl)⟩ ⟨(Nat.le_of_ble_eq_true rfl), (Nat.le_of_ble_eq_true rfl)⟩ (Nat.le_of_ble_eq_true rfl) dX8_leastTaken_39 (fun x1 => ?_)
    refine sm_aload_n hO 1 dX8_leastTaken_42 rfl rfl ?_
    refine sm_gr hO fl_RX8_17 dX8_leastTaken_43 (fun a2 => ?_)
    refine sm_iload_n hO 4 dX8_leastTaken_46 rfl rfl ?_
    refine sm_iconst (v := 1) hO dX8_leastTaken_47 rfl ?_
    refine sm_iadd hO dX8_leastTaken_48 ?_
    refine sm_lr hO rfl dX8_leastTaken_49 (by decide) (fun a3 => ?_)
    refine sm_iload hO 5 dX8_leastTaken_50 rfl ?_
    refine sm_iconst (v := 1) hO dX8_leastTaken_52 rfl ?_
    refine sm_iload hO 6 dX8_leastTaken_53 rfl ?_
    refine sm_ishl hO dX8_leastTaken_55 ?_
    refine sm_ior hO dX8_leastTaken_56 ?_
    refine sm_li hO dX8_leastTaken_57 (fun x4 => ?_)
    refine sm_iadd hO dX8_leastTaken_58 ?_
    refine sm_aload_n hO 1 dX8_leastTaken_59 rfl rfl ?_
    refine sm_gr hO fl_RX8_17 dX8_leastTaken_60 (fun a5 => ?_)
    refine sm_iload_n hO 4 dX8_leastTaken_63 rfl rfl ?_
    refine sm_lr hO rfl dX8_leastTaken_64 (by decide) (fun a6 => ?_)
    refine sm_iload hO 5 dX8_leastTaken_65 rfl ?_
    refine sm_li hO dX8_leastTaken_67 (fun x7 => ?_)
    refine sm_icmp_ne (tgt := 74) hO dX8_leastTaken_68 (by decide) ?_ ?_
    · exact sm_sub [1, 2, 3, 4, 5, 6] rfl (tX8_leastTaken_74 hO hr hk k3 hk3 aL0 aL1 aL2 xL3 xL4 xL5)
    · refine sm_iload hO 6 dX8_leastTaken_71 rfl ?_
      exact sm_iret hO hr hk (Nat.le_of_ble_eq_true rfl) (Nat.le_of_ble_eq_true rfl) dX8_leastTaken_73
set_option maxRecDepth 100000 in
set_option maxHeartbeats 4000000 in
theorem tX8_leastTaken_3 {p : Program} {l : Launch} {e : Env} {s : State} {m : MethodId} {args : Array Value} {below : List Frame} {meth : Method} {c : Code} {G : cG} (hO : c_Ok p s m c cX8_leastTaken 7 RX8 G) (hr : meth.sig.returnType = (some .int)) (hk : meth.locks = false) : ∀ (n : Nat) (aL0 : Nat) (aL1 : Nat) (aL2 : Nat) (xL3 : Int32) (xL4 : Int32) (xL5 : Int32), Sm p l e { frames := 2, cells := 0, slots := 0, locals := 43 } s m args below meth c G 7 (c_Q G c_vi below args s 0 0) 0 0 3 [(0, .ref aL0), (1, .ref aL1), (2, .ref aL2), (3, .int xL3), (4, .int xL4), (5, .int xL5)] [] (fX8_leastTaken_3 n aL0 aL1 aL2 xL3 xL4 xL5) := by
  intro n
  induction n with
  | zero =>
    intro aL0 aL1 aL2 xL3 xL4 xL5
    exact sm_bad
  | succ n ih =>
    intro aL0 aL1 aL2 xL3 xL4 xL5
    rw [fX8_leastTaken_3]
    refine sm_iload hO 5 dX8_leastTaken_3 rfl ?_
    refine sm_aload_n hO 1 dX8_leastTaken_5 rfl rfl ?_
    refine sm_gi hO fl_RX8_26 dX8_leastTaken_6 (fun x1 => ?_)
    refine sm_icmp_ge (tgt := 80) hO dX8_leastTaken_9 (by decide) ?_ ?_
    · refine sm_iconst (v := (-1)) hO dX8_leastTaken_80 rfl ?_
      exact sm_iret hO hr hk (Nat.le_of_ble_eq_true rfl) (Nat.le_of_ble_eq_true rfl) dX8_leastTaken_81
    · refine sm_iload hO 4 dX8_leastTaken_12 rfl ?_
      refine sm_iload hO 5 dX8_leastTaken_14 rfl ?_
      refine sm_ishr hO dX8_leastTaken_16 ?_
      refine sm_iconst (v := 1) hO dX8_leastTaken_17 rfl ?_
      refine sm_iand hO dX8_leastTaken_18 ?_
      refine sm_if_ne (tgt := 26) hO dX8_leastTaken_19 (by decide) ?_ ?_
      · refine sm_iconst (v := 0) hO dX8_leastTaken_26 rfl ?_
        exact sm_sub [0, 1, 2, 3, 4, 5] rfl (tX8_leastTaken_27 hO hr hk (fX8_leastTaken_3 n) ih aL0 aL1 aL2 xL3 xL4 xL5 0)
      · refine sm_iconst (v := 1) hO dX8_leastTaken_22 rfl ?_
        refine sm_goto (tgt := 27) hO dX8_leastTaken_23 (by decide) ?_
        exact sm_sub [0, 1, 2, 3, 4, 5] rfl (tX8_leastTaken_27 hO hr hk (fX8_leastTaken_3 n) ih aL0 aL1 aL2 xL3 xL4 xL5 1)
set_option maxRecDepth 100000 in
set_option maxHeartbeats 4000000 in
theorem ctX8_leastTaken (l : Launch) (G : cG) (a0_ : Nat) (a1_ : Nat) (a2_ : Nat) (x3_ : Int32) (x4_ : Int32) : Ct l G yX8_leastTaken cX8_leastTaken 7 (some .int) 2 43 0 0 [.ref a0_, .ref a1_, .ref a2_, .int x3_, .int x4_] c_vi (pX8_leastTaken a0_ a1_ a2_ x3_ x4_) := by
  refine Ct.of (lv := [(0, .ref a0_), (1, .ref a1_), (2, .ref a2_), (3, .int x3_), (4, .int x4_)]) (by decide) (Nat.le_of_ble_eq_true rfl) rfl (fun p e s m args below meth c hO hr hk hin => ?_)
  rw [pX8_leastTaken]
  refine sm_iconst (v := 0) hO dX8_leastTaken_0 rfl ?_
  refine sm_istore hO [(5, .int 0), (0, .ref a0_), (1, .ref a1_), (2, .ref a2_), (3, .int x3_), (4, .int x4_)] dX8_leastTaken_1 (by decide) rfl ?_
  exact sm_sub [1, 2, 3, 4, 5, 0] rfl (tX8_leastTaken_3 hO hr hk c_fu a0_ a1_ a2_ x3_ x4_ 0)
/-! DollCongress$Wants.dollOf(LDollCongress$Roll;LDollCongress$Scene;I)I -/
def fX8_dollOf_42 (k9 : Nat → Nat → Nat → Int32 → Int32 → Int32 → Int32 → MM Int32) (aL0 : Nat) (aL1 : Nat) (aL2 : Nat) (xL3 : Int32) (xL4 : Int32) (xL5 : Int32) (xL6 : Int32) : MM Int32 := m_let (xL6 + 1) (fun x1 => k9 aL0 aL1 aL2 xL3 xL4 xL5 x1)
def fX8_dollOf_9  : Nat → Nat → Nat → Nat → Int32 → Int32 → Int32 → Int32 → MM Int32
  | 0, _, _, _, _, _, _, _ => m_bad
  | n + 1, aL0, aL1, aL2, xL3, xL4, xL5, xL6 => if xL3 < xL6 then (m_ret xL5) else (m_cv aL0 7 (pX8_leastTaken aL0 aL1 aL2 xL6 xL4) (fun x1 => if x1 = ((-1) : Int32) then (fX8_dollOf_42 (fX8_dollOf_9 n) aL0 aL1 aL2 xL3 xL4 x1 xL6) else (m_let (xL4 ||| ((1 : Int32) <<< (x1 &&& 31))) (fun x2 => fX8_dollOf_42 (fX8_dollOf_9 n) aL0 aL1 aL2 xL3 x2 x1 xL6))))
def pX8_dollOf (a0_ : Nat) (a1_ : Nat) (a2_ : Nat) (x3_ : Int32) : MM Int32 := fX8_dollOf_9 c_fu a0_ a1_ a2_ x3_ 0 ((-1)) 0
set_option maxRecDepth 100000 in
set_option maxHeartbeats 4000000 in
theorem tX8_dollOf_42 {p : Program} {l : Launch} {e : Env} {s : State} {m : MethodId} {args : Array Value} {below : List Frame} {meth : Method} {c : Code} {G : cG} (hO : c_Ok p s m c cX8_dollOf 7 RX8 G) (hr : meth.sig.returnType = (some .int)) (hk : meth.locks = false) (k9 : Nat → Nat → Nat → Int32 → Int32 → Int32 → Int32 → MM Int32) (hk9 : ∀ (aL0 : Nat) (aL1 : Nat) (aL2 : Nat) (xL3 : Int32) (xL4 : Int32) (xL5 : Int32) (xL6 : Int32), Sm p l e { frames := 3, cells := 0, slots := 0, locals := 69 } s m args below meth c G 7 (c_Q G c_vi below args s 0 0) 0 0 9 [(0, .ref aL0), (1, .ref aL1), (2, .ref aL2), (3, .int xL3), (4, .int xL4), (5, .int xL5), (6, .int xL6)] [] (k9 aL0 aL1 aL2 xL3 xL4 xL5 xL6))  : ∀ (aL0 : Nat) (aL1 : Nat) (aL2 : Nat) (xL3 : Int32) (xL4 : Int32) (xL5 : Int32) (xL6 : Int32), Sm p l e { frames := 3, cells := 0, slots := 0, locals := 69 } s m args below meth c G 7 (c_Q G c_vi below args s 0 0) 0 0 42 [(0, .ref aL0), (1, .ref aL1), (2, .ref aL2), (3, .int xL3), (4, .int xL4), (5, .int xL5), (6, .int xL6)] [] (fX8_dollOf_42 k9 aL0 aL1 aL2 xL3 xL4 xL5 xL6) := by
  intro aL0 aL1 aL2 xL3 xL4 xL5 xL6
  rw [fX8_dollOf_42]
  refine sm_iincL (v := xL6 + 1) hO 6 (fun x1 => [(6, .int x1), (0, .ref aL0), (1, .ref aL1), (2, .ref aL2), (3, .int xL3), (4, .int xL4), (5, .int xL5)]) dX8_dollOf_42 rfl rfl (by decide) (fun _ => rfl) (fun x1 => ?_)
  refine sm_goto (tgt := 9) hO dX8_dollOf_45 (by decide) ?_
  exact sm_sub [1, 2, 3, 4, 5, 6, 0] rfl (hk9 aL0 aL1 aL2 xL3 xL4 xL5 x1)
set_option maxRecDepth 100000 in
set_option maxHeartbeats 4000000 in
theorem tX8_dollOf_9 {p : Program} {l : Launch} {e : Env} {s : State} {m : MethodId} {args : Array Value} {below : List Frame} {meth : Method} {c : Code} {G : cG} (hO : c_Ok p s m c cX8_dollOf 7 RX8 G) (hr : meth.sig.returnType = (some .int)) (hk : meth.locks = false) : ∀ (n : Nat) (aL0 : Nat) (aL1 : Nat) (aL2 : Nat) (xL3 : Int32) (xL4 : Int32) (xL5 : Int32) (xL6 : Int32), Sm p l e { frames := 3, cells := 0, slots := 0, locals := 69 } s m args below meth c G 7 (c_Q G c_vi below args s 0 0) 0 0 9 [(0, .ref aL0), (1, .ref aL1), (2, .ref aL2), (3, .int xL3), (4, .int xL4), (5, .int xL5), (6, .int xL6)] [] (fX8_dollOf_9 n aL0 aL1 aL2 xL3 xL4 xL5 xL6) := by
  intro n
  induction n with
  | zero =>
    intro aL0 aL1 aL2 xL3 xL4 xL5 xL6
    exact sm_bad
  | succ n ih =>
    intro aL0 aL1 aL2 xL3 xL4 xL5 xL6
    rw [fX8_dollOf_9]
    refine sm_iload hO 6 dX8_dollOf_9 rfl ?_
    refine sm_iload_n hO 3 dX8_dollOf_11 rfl rfl ?_
    refine sm_icmp_gt (tgt := 48) hO dX8_dollOf_12 (by decide) ?_ ?_
    · refine sm_iload hO 5 dX8_dollOf_48 rfl ?_
      exact sm_iret hO hr hk (Nat.le_of_ble_eq_true rfl) (Nat.le_of_ble_eq_true rfl) dX8_dollOf_50
    · refine sm_aload_n hO 0 dX8_dollOf_15 rfl rfl ?_
      refine sm_aload_n hO 1 dX8_dollOf_16 rfl rfl ?_
      refine sm_aload_n hO 2 dX8_dollOf_17 rfl rfl ?_
      refine sm_iload hO 6 dX8_dollOf_18 rfl ?_
      refine sm_iload hO 4 dX8_dollOf_20 rfl ?_
      refine sm_cvi hO (ctX8_leastTaken l G aL0 aL1 aL2 xL6 xL4) cw_RX8_63 cv_X8_leastTaken [] rfl rfl ⟨(Nat.le_of_ble_eq_true rfl), (Nat.le_of_ble_eq_true rfl)⟩ ⟨(Nat.le_of_ble_eq_true rfl), (Nat.le_of_ble_eq_true rfl)⟩ (Nat.le_of_ble_eq_true rfl) dX8_dollOf_22 (fun x1 => ?_)
      refine sm_istore hO [(5, .int x1), (0, .ref aL0), (1, .ref aL1), (2, .ref aL2), (3, .int xL3), (4, .int xL4), (6, .int xL6)] dX8_dollOf_25 (by decide) rfl ?_
      refine sm_iload hO 0 dX8_dollOf_27 rfl ?_
      refine sm_iconst (v := (-1)) hO dX8_dollOf_29 rfl ?_
      refine sm_icmp_eq (tgt := 42) hO dX8_dollOf_30 (by decide) ?_ ?_
      · exact sm_sub [1, 2, 3, 4, 5, 0, 6] rfl (tX8_dollOf_42 hO hr hk (fX8_dollOf_9 n) ih aL0 aL1 aL2 xL3 xL4 x1 xL6)
      · refine sm_iload hO 5 dX8_dollOf_33 rfl ?_
        refine sm_iconst (v := 1) hO dX8_dollOf_35 rfl ?_
        refine sm_iload hO 0 dX8_dollOf_36 rfl ?_
        refine sm_ishl hO dX8_dollOf_38 ?_
        refine sm_ior hO dX8_dollOf_39 ?_
        refine sm_topi (fun x2 => ?_)
        refine sm_istore hO [(4, .int x2), (5, .int x1), (0, .ref aL0), (1, .ref aL1), (2, .ref aL2), (3, .int xL3), (6, .int xL6)] dX8_dollOf_40 (by decide) rfl ?_
        exact sm_sub [2, 3, 4, 5, 0, 1, 6] rfl (tX8_dollOf_42 hO hr hk (fX8_dollOf_9 n) ih aL0 aL1 aL2 xL3 x2 x1 xL6)
set_option maxRecDepth 100000 in
set_option maxHeartbeats 4000000 in
theorem ctX8_dollOf (l : Launch) (G : cG) (a0_ : Nat) (a1_ : Nat) (a2_ : Nat) (x3_ : Int32) : Ct l G yX8_dollOf cX8_dollOf 7 (some .int) 3 69 0 0 [.ref a0_, .ref a1_, .ref a2_, .int x3_] c_vi (pX8_dollOf a0_ a1_ a2_ x3_) := by
  refine Ct.of (lv := [(0, .ref a0_), (1, .ref a1_), (2, .ref a2_), (3, .int x3_)]) (by decide) (Nat.le_of_ble_eq_true rfl) rfl (fun p e s m args below meth c hO hr hk hin => ?_)
  rw [pX8_dollOf]
  refine sm_iconst (v := 0) hO dX8_dollOf_0 rfl ?_
  refine sm_istore hO [(4, .int 0), (0, .ref a0_), (1, .ref a1_), (2, .ref a2_), (3, .int x3_)] dX8_dollOf_1 (by decide) rfl ?_
  refine sm_iconst (v := (-1)) hO dX8_dollOf_3 rfl ?_
  refine sm_istore hO [(5, .int ((-1))), (4, .int 0), (0, .ref a0_), (1, .ref a1_), (2, .ref a2_), (3, .int x3_)] dX8_dollOf_4 (by decide) rfl ?_
  refine sm_iconst (v := 0) hO dX8_dollOf_6 rfl ?_
  refine sm_istore hO [(6, .int 0), (5, .int ((-1))), (4, .int 0), (0, .ref a0_), (1, .ref a1_), (2, .ref a2_), (3, .int x3_)] dX8_dollOf_7 (by decide) rfl ?_
  exact sm_sub [3, 4, 5, 6, 2, 1, 0] rfl (tX8_dollOf_9 hO hr hk c_fu a0_ a1_ a2_ x3_ 0 ((-1)) 0)
/-! DollCongress.wanted(I)I -/
def fX9_wanted_19  (aL0 : Nat) (xL1 : Int32) : MM Int32 := m_gr aL0 8 6 (fun a1 => m_gr aL0 8 7 (fun a2 => m_gr aL0 8 1 (fun a3 => m_cv a1 7 (pX8_weigh a1 a2 a3) (fun _ => if xL1 = ((-1) : Int32) then (m_gr aL0 8 6 (fun a8 => m_cv a8 7 (pX8_most a8) (fun x9 => m_ret x9))) else (m_gr aL0 8 6 (fun a4 => m_gr aL0 8 7 (fun a5 => m_gr aL0 8 1 (fun a6 => m_cv a4 7 (pX8_dollOf a4 a5 a6 xL1) (fun x7 => m_ret x7)))))))))
def pX9_wanted (a0_ : Nat) (x1_ : Int32) : MM Int32 := if x1_ = ((-1) : Int32) then (fX9_wanted_19 a0_ x1_) else (m_gr a0_ 8 7 (fun a1 => m_cv a1 4 (pX4_hasCourt a1 x1_) (fun x2 => if x2 = 0 then (m_ret ((-1000000001) : Int32)) else (fX9_wanted_19 a0_ x1_))))
set_option maxRecDepth 100000 in
set_option maxHeartbeats 4000000 in
theorem tX9_wanted_19 {p : Program} {l : Launch} {e : Env} {s : State} {m : MethodId} {args : Array Value} {below : List Frame} {meth : Method} {c : Code} {G : cG} (hO : c_Ok p s m c cX9_wanted 2 RX9 G) (hr : meth.sig.returnType = (some .int)) (hk : meth.locks = false) : ∀ (aL0 : Nat) (xL1 : Int32), Sm p l e { frames := 4, cells := 0, slots := 0, locals := 95 } s m args below meth c G 2 (c_Q G c_vi below args s 0 0) 0 0 19 [(0, .ref aL0), (1, .int xL1)] [] (fX9_wanted_19 aL0 xL1) := by
  intro aL0 xL1
  rw [fX9_wanted_19]
  refine sm_aload_n hO 0 dX9_wanted_19 rfl rfl ?_
  refine sm_gr hO fl_RX9_53 dX9_wanted_20 (fun a1 => ?_)
  refine sm_aload_n hO 0 dX9_wanted_23 rfl rfl ?_
  refine sm_gr hO fl_RX9_60 dX9_wanted_24 (fun a2 => ?_)
  refine sm_aload_n hO 0 dX9_wanted_27 rfl rfl ?_
  refine sm_gr hO fl_RX9_19 dX9_wanted_28 (fun a3 => ?_)
  refine sm_cvv hO (ctX8_weigh l G a1 a2 a3) cw_RX9_259 cv_X8_weigh [] rfl rfl ⟨(Nat.le_of_ble_eq_true rfl), (Nat.le_of_ble_eq_true rfl)⟩ ⟨(Nat.le_of_ble_eq_true rfl), (Nat.le_of_ble_eq_true rfl)⟩ (Nat.le_of_ble_eq_true rfl) dX9_wanted_31 (fun _ => ?_)
  refine sm_iload_n hO 1 dX9_wanted_34 rfl rfl ?_
  refine sm_iconst (v := (-1)) hO dX9_wanted_35 rfl ?_
  refine sm_icmp_ne (tgt := 49) hO dX9_wanted_36 (by decide) ?_ ?_
  · refine sm_aload_n hO 0 dX9_wanted_49 rfl rfl ?_
    refine sm_gr hO fl_RX9_53 dX9_wanted_50 (fun a4 => ?_)
    refine sm_aload_n hO 0 dX9_wanted_53 rfl rfl ?_
    refine sm_gr hO fl_RX9_60 dX9_wanted_54 (fun a5 => ?_)
    refine sm_aload_n hO 0 dX9_wanted_57 rfl rfl ?_
    refine sm_gr hO fl_RX9_19 dX9_wanted_58 (fun a6 => ?_)
    refine sm_iload_n hO 1 dX9_wanted_61 rfl rfl ?_
    refine sm_cvi hO (ctX8_dollOf l G a4 a5 a6 xL1) cw_RX9_266 cv_X8_dollOf [] rfl rfl ⟨(Nat.le_of_ble_eq_true rfl), (Nat.le_of_ble_eq_true rfl)⟩ ⟨(Nat.le_of_ble_eq_true rfl), (Nat.le_of_ble_eq_true rfl)⟩ (Nat.le_of_ble_eq_true rfl) dX9_wanted_62 (fun x7 => ?_)
    exact sm_iret hO hr hk (Nat.le_of_ble_eq_true rfl) (Nat.le_of_ble_eq_true rfl) dX9_wanted_65
  · refine sm_aload_n hO 0 dX9_wanted_39 rfl rfl ?_
    refine sm_gr hO fl_RX9_53 dX9_wanted_40 (fun a8 => ?_)
    refine sm_cvi hO (ctX8_most l G a8) cw_RX9_263 cv_X8_most [] rfl rfl ⟨(Nat.le_of_ble_eq_true rfl), (Nat.le_of_ble_eq_true rfl)⟩ ⟨(Nat.le_of_ble_eq_true rfl), (Nat.le_of_ble_eq_true rfl)⟩ (Nat.le_of_ble_eq_true rfl) dX9_wanted_43 (fun x9 => ?_)
    refine sm_goto (tgt := 65) hO dX9_wanted_46 (by decide) ?_
    exact sm_iret hO hr hk (Nat.le_of_ble_eq_true rfl) (Nat.le_of_ble_eq_true rfl) dX9_wanted_65
set_option maxRecDepth 100000 in
set_option maxHeartbeats 4000000 in
theorem ctX9_wanted (l : Launch) (G : cG) (a0_ : Nat) (x1_ : Int32) : Ct l G yX9_wanted cX9_wanted 2 (some .int) 4 95 0 0 [.ref a0_, .int x1_] c_vi (pX9_wanted a0_ x1_) := by
  refine Ct.of (lv := [(0, .ref a0_), (1, .int x1_)]) (by decide) (Nat.le_of_ble_eq_true rfl) rfl (fun p e s m args below meth c hO hr hk hin => ?_)
  rw [pX9_wanted]
  refine sm_iload_n hO 1 dX9_wanted_0 rfl rfl ?_
  refine sm_iconst (v := (-1)) hO dX9_wanted_1 rfl ?_
  refine sm_icmp_eq (tgt := 19) hO dX9_wanted_2 (by decide) ?_ ?_
  · exact sm_sub [0, 1] rfl (tX9_wanted_19 hO hr hk a0_ x1_)
  · refine sm_aload_n hO 0 dX9_wanted_5 rfl rfl ?_
    refine sm_gr hO fl_RX9_60 dX9_wanted_6 (fun a1 => ?_)
    refine sm_iload_n hO 1 dX9_wanted_9 rfl rfl ?_
    refine sm_cvi hO (ctX4_hasCourt l G a1 x1_) cw_RX9_179 cv_X4_hasCourt [] rfl rfl ⟨(Nat.le_of_ble_eq_true rfl), (Nat.le_of_ble_eq_true rfl)⟩ ⟨(Nat.le_of_ble_eq_true rfl), (Nat.le_of_ble_eq_true rfl)⟩ (Nat.le_of_ble_eq_true rfl) dX9_wanted_10 (fun x2 => ?_)
    refine sm_if_ne (tgt := 19) hO dX9_wanted_13 (by decide) ?_ ?_
    · exact sm_sub [0, 1] rfl (tX9_wanted_19 hO hr hk a0_ x1_)
    · refine sm_ldc (v := (-1000000001)) hO kw_512 dX9_wanted_16 ?_
      exact sm_iret hO hr hk (Nat.le_of_ble_eq_true rfl) (Nat.le_of_ble_eq_true rfl) dX9_wanted_18
/-! DollCongressModel.pleases(II)I -/
def fX10_pleases_40 (k5 : Nat → Int32 → Int32 → Int32 → Int32 → MM Int32) (aL0 : Nat) (xL1 : Int32) (xL2 : Int32) (xL4 : Int32) (xS0 : Int32) (xS1 : Int32) : MM Int32 := m_let (xS1 ||| xS0) (fun x1 => m_let (xL4 + 1) (fun x2 => k5 aL0 xL1 xL2 x1 x2))
def fX10_pleases_5 (k48 : Nat → Int32 → Int32 → MM Int32) : Nat → Nat → Int32 → Int32 → Int32 → Int32 → MM Int32
  | 0, _, _, _, _, _ => m_bad
  | n + 1, aL0, xL1, xL2, xL3, xL4 => m_gi aL0 9 2 (fun x1 => if x1 ≤ xL4 then (k48 aL0 xL1 xL3) else (m_gr aL0 9 4 (fun a2 => m_li 0 a2 xL4 (fun x3 => if x3 = xL2 then (m_gr aL0 9 8 (fun a4 => m_li 0 a4 ((17 : Int32) + xL4) (fun x5 => fX10_pleases_40 (fX10_pleases_5 k48 n) aL0 xL1 xL2 xL4 x5 xL3))) else (fX10_pleases_40 (fX10_pleases_5 k48 n) aL0 xL1 xL2 xL4 0 xL3)))))
def fX10_pleases_48  (aL0 : Nat) (xL1 : Int32) (xL3 : Int32) : MM Int32 := m_gr aL0 9 8 (fun a1 => m_li 0 a1 ((17 : Int32) + xL1) (fun x2 => m_bind (pX10_bits (x2 &&& xL3)) (fun x3 => m_ret x3)))
def pX10_pleases (a0_ : Nat) (x1_ : Int32) (x2_ : Int32) : MM Int32 := fX10_pleases_5 fX10_pleases_48 c_fu a0_ x1_ x2_ 0 0
set_option maxRecDepth 100000 in
set_option maxHeartbeats 4000000 in
theorem tX10_pleases_40 {p : Program} {l : Launch} {e : Env} {s : State} {m : MethodId} {args : Array Value} {below : List Frame} {meth : Method} {c : Code} {G : cG} (hO : c_Ok p s m c cX10_pleases 5 RX10 G) (hr : meth.sig.returnType = (some .int)) (hk : meth.locks = false) (k5 : Nat → Int32 → Int32 → Int32 → Int32 → MM Int32) (hk5 : ∀ (aL0 : Nat) (xL1 : Int32) (xL2 : Int32) (xL3 : Int32) (xL4 : Int32), Sm p l e { frames := 1, cells := 0, slots := 0, locals := 22 } s m args below meth c G 5 (c_Q G c_vi below args s 0 0) 0 0 5 [(0, .ref aL0), (1, .int xL1), (2, .int xL2), (3, .int xL3), (4, .int xL4)] [] (k5 aL0 xL1 xL2 xL3 xL4))  : ∀ (aL0 : Nat) (xL1 : Int32) (xL2 : Int32) (xL4 : Int32) (xS0 : Int32) (xS1 : Int32), Sm p l e { frames := 1, cells := 0, slots := 0, locals := 22 } s m args below meth c G 5 (c_Q G c_vi below args s 0 0) 0 0 40 [(0, .ref aL0), (1, .int xL1), (2, .int xL2), (4, .int xL4)] [.int xS0, .int xS1] (fX10_pleases_40 k5 aL0 xL1 xL2 xL4 xS0 xS1) := by
  intro aL0 xL1 xL2 xL4 xS0 xS1
  rw [fX10_pleases_40]
  refine sm_ior hO dX10_pleases_40 ?_
  refine sm_topi (fun x1 => ?_)
  refine sm_istore_n hO [(3, .int x1), (0, .ref aL0), (1, .int xL1), (2, .int xL2), (4, .int xL4)] dX10_pleases_41 rfl (by decide) rfl ?_
  refine sm_iincL (v := xL4 + 1) hO 4 (fun x2 => [(4, .int x2), (3, .int x1), (0, .ref aL0), (1, .int xL1), (2, .int xL2)]) dX10_pleases_42 rfl rfl (by decide) (fun _ => rfl) (fun x2 => ?_)
  refine sm_goto (tgt := 5) hO dX10_pleases_45 (by decide) ?_
  exact sm_sub [2, 3, 4, 1, 0] rfl (hk5 aL0 xL1 xL2 x1 x2)
set_option maxRecDepth 100000 in
set_option maxHeartbeats 4000000 in
theorem tX10_pleases_5 {p : Program} {l : Launch} {e : Env} {s : State} {m : MethodId} {args : Array Value} {below : List Frame} {meth : Method} {c : Code} {G : cG} (hO : c_Ok p s m c cX10_pleases 5 RX10 G) (hr : meth.sig.returnType = (some .int)) (hk : meth.locks = false) (k48 : Nat → Int32 → Int32 → MM Int32) (hk48 : ∀ (aL0 : Nat) (xL1 : Int32) (xL3 : Int32), Sm p l e { frames := 1, cells := 0, slots := 0, locals := 22 } s m args below meth c G 5 (c_Q G c_vi below args s 0 0) 0 0 48 [(0, .ref aL0), (1, .int xL1), (3, .int xL3)] [] (k48 aL0 xL1 xL3))  : ∀ (n : Nat) (aL0 : Nat) (xL1 : Int32) (xL2 : Int32) (xL3 : Int32) (xL4 : Int32), Sm p l e { frames := 1, cells := 0, slots := 0, locals := 22 } s m args below meth c G 5 (c_Q G c_vi below args s 0 0) 0 0 5 [(0, .ref aL0), (1, .int xL1), (2, .int xL2), (3, .int xL3), (4, .int xL4)] [] (fX10_pleases_5 k48 n aL0 xL1 xL2 xL3 xL4) := by
  intro n
  induction n with
  | zero =>
    intro aL0 xL1 xL2 xL3 xL4
    exact sm_bad
  | succ n ih =>
    intro aL0 xL1 xL2 xL3 xL4
    rw [fX10_pleases_5]
    refine sm_iload hO 4 dX10_pleases_5 rfl ?_
    refine sm_aload_n hO 0 dX10_pleases_7 rfl rfl ?_
    refine sm_gi hO fl_RX10_79 dX10_pleases_8 (fun x1 => ?_)
    refine sm_icmp_ge (tgt := 48) hO dX10_pleases_11 (by decide) ?_ ?_
    · exact sm_sub [0, 1, 3] rfl (hk48 aL0 xL1 xL3)
    · refine sm_iload_n hO 3 dX10_pleases_14 rfl rfl ?_
      refine sm_aload_n hO 0 dX10_pleases_15 rfl rfl ?_
      refine sm_gr hO fl_RX10_16 dX10_pleases_16 (fun a2 => ?_)
      refine sm_iload hO 4 dX10_pleases_19 rfl ?_
      refine sm_li hO dX10_pleases_21 (fun x3 => ?_)
      refine sm_iload_n hO 2 dX10_pleases_22 rfl rfl ?_
      refine sm_icmp_ne (tgt := 39) hO dX10_pleases_23 (by decide) ?_ ?_
      · refine sm_iconst (v := 0) hO dX10_pleases_39 rfl ?_
        exact sm_sub [0, 1, 2, 4] rfl (tX10_pleases_40 hO hr hk (fX10_pleases_5 k48 n) ih aL0 xL1 xL2 xL4 0 xL3)
      · refine sm_aload_n hO 0 dX10_pleases_26 rfl rfl ?_
        refine sm_gr hO fl_RX10_22 dX10_pleases_27 (fun a4 => ?_)
        refine sm_bipush (v := 17) hO dX10_pleases_30 rfl ?_
        refine sm_iload hO 4 dX10_pleases_32 rfl ?_
        refine sm_iadd hO dX10_pleases_34 ?_
        refine sm_li hO dX10_pleases_35 (fun x5 => ?_)
        refine sm_goto (tgt := 40) hO dX10_pleases_36 (by decide) ?_
        exact sm_sub [0, 1, 2, 4] rfl (tX10_pleases_40 hO hr hk (fX10_pleases_5 k48 n) ih aL0 xL1 xL2 xL4 x5 xL3)
set_option maxRecDepth 100000 in
set_option maxHeartbeats 4000000 in
theorem tX10_pleases_48 {p : Program} {l : Launch} {e : Env} {s : State} {m : MethodId} {args : Array Value} {below : List Frame} {meth : Method} {c : Code} {G : cG} (hO : c_Ok p s m c cX10_pleases 5 RX10 G) (hr : meth.sig.returnType = (some .int)) (hk : meth.locks = false) : ∀ (aL0 : Nat) (xL1 : Int32) (xL3 : Int32), Sm p l e { frames := 1, cells := 0, slots := 0, locals := 22 } s m args below meth c G 5 (c_Q G c_vi below args s 0 0) 0 0 48 [(0, .ref aL0), (1, .int xL1), (3, .int xL3)] [] (fX10_pleases_48 aL0 xL1 xL3) := by
  intro aL0 xL1 xL3
  rw [fX10_pleases_48]
  refine sm_aload_n hO 0 dX10_pleases_48 rfl rfl ?_
  refine sm_gr hO fl_RX10_22 dX10_pleases_49 (fun a1 => ?_)
  refine sm_bipush (v := 17) hO dX10_pleases_52 rfl ?_
  refine sm_iload_n hO 1 dX10_pleases_54 rfl rfl ?_
  refine sm_iadd hO dX10_pleases_55 ?_
  refine sm_li hO dX10_pleases_56 (fun x2 => ?_)
  refine sm_iload_n hO 2 dX10_pleases_57 rfl rfl ?_
  refine sm_iand hO dX10_pleases_58 ?_
  refine sm_csi hO (ctX10_bits l G (x2 &&& xL3)) cw_RX10_188 kw_1004 [] rfl rfl ⟨(Nat.le_of_ble_eq_true rfl), (Nat.le_of_ble_eq_true rfl)⟩ ⟨(Nat.le_of_ble_eq_true rfl), (Nat.le_of_ble_eq_true rfl)⟩ (Nat.le_of_ble_eq_true rfl) dX10_pleases_59 (fun x3 => ?_)
  exact sm_iret hO hr hk (Nat.le_of_ble_eq_true rfl) (Nat.le_of_ble_eq_true rfl) dX10_pleases_62
set_option maxRecDepth 100000 in
set_option maxHeartbeats 4000000 in
theorem ctX10_pleases (l : Launch) (G : cG) (a0_ : Nat) (x1_ : Int32) (x2_ : Int32) : Ct l G yX10_pleases cX10_pleases 5 (some .int) 1 22 0 0 [.ref a0_, .int x1_, .int x2_] c_vi (pX10_pleases a0_ x1_ x2_) := by
  refine Ct.of (lv := [(0, .ref a0_), (1, .int x1_), (2, .int x2_)]) (by decide) (Nat.le_of_ble_eq_true rfl) rfl (fun p e s m args below meth c hO hr hk hin => ?_)
  rw [pX10_pleases]
  refine sm_iconst (v := 0) hO dX10_pleases_0 rfl ?_
  refine sm_istore_n hO [(3, .int 0), (0, .ref a0_), (1, .int x1_), (2, .int x2_)] dX10_pleases_1 rfl (by decide) rfl ?_
  refine sm_iconst (v := 0) hO dX10_pleases_2 rfl ?_
  refine sm_istore hO [(4, .int 0), (3, .int 0), (0, .ref a0_), (1, .int x1_), (2, .int x2_)] dX10_pleases_3 (by decide) rfl ?_
  exact sm_sub [2, 3, 4, 1, 0] rfl (tX10_pleases_5 hO hr hk fX10_pleases_48 (tX10_pleases_48 hO hr hk) c_fu a0_ x1_ x2_ 0 0)
/-! DollCongressModel.findWanted()V -/
def fX10_findWanted_2 (k34 : Nat → MM Unit) : Nat → Nat → Int32 → MM Unit
  | 0, _, _ => m_bad
  | n + 1, aL0, xL1 => m_gi aL0 9 2 (fun x1 => if ((1 : Int32) <<< (x1 &&& 31)) ≤ xL1 then (k34 aL0) else (m_gr aL0 9 30 (fun a2 => m_gi aL0 9 0 (fun x3 => m_si a2 (((256 : Int32) * x3) + xL1) (0 : Int32) (m_let (xL1 + 1) (fun x4 => fX10_findWanted_2 k34 n aL0 x4))))))
def fX10_findWanted_142 (k77 : Nat → Int32 → Int32 → Int32 → Int32 → MM Unit) (aL0 : Nat) (xL1 : Int32) (xL2 : Int32) (xL4 : Int32) (xS0 : Int32) : MM Unit := m_let (xL4 + 1) (fun x1 => k77 aL0 xL1 xL2 xS0 x1)
def fX10_findWanted_128 (k77 : Nat → Int32 → Int32 → Int32 → Int32 → MM Unit) (aL0 : Nat) (xL1 : Int32) (xL2 : Int32) (xL3 : Int32) (xL4 : Int32) (xS0 : Int32) : MM Unit := if xS0 ≤ xL3 then (fX10_findWanted_142 k77 aL0 xL1 xL2 xL4 xL3) else (fX10_findWanted_142 k77 aL0 xL1 xL2 xL4 xS0)
def fX10_findWanted_77 (k149 : Nat → Int32 → Int32 → Int32 → MM Unit) : Nat → Nat → Int32 → Int32 → Int32 → Int32 → MM Unit
  | 0, _, _, _, _, _ => m_bad
  | n + 1, aL0, xL1, xL2, xL3, xL4 => m_gi aL0 9 2 (fun x1 => if x1 ≤ xL4 then (k149 aL0 xL1 xL2 xL3) else (m_bind (pX10_has xL2 xL4) (fun x2 => if x2 = 0 then (m_cv aL0 9 (pX10_pleases aL0 xL4 xL1) (fun x3 => m_gr aL0 9 30 (fun a4 => m_li 0 a4 ((((256 : Int32) * xL1) + 256) + (xL2 ||| ((1 : Int32) <<< (xL4 &&& 31)))) (fun x5 => fX10_findWanted_128 (fX10_findWanted_77 k149 n) aL0 xL1 xL2 xL3 xL4 (x3 + x5))))) else (fX10_findWanted_128 (fX10_findWanted_77 k149 n) aL0 xL1 xL2 xL3 xL4 ((-1))))))
def fX10_findWanted_149 (k47 : Nat → Int32 → Int32 → MM Unit) (aL0 : Nat) (xL1 : Int32) (xL2 : Int32) (xL3 : Int32) : MM Unit := m_gr aL0 9 30 (fun a1 => m_si a1 (((256 : Int32) * xL1) + xL2) xL3 (m_let (xL2 + 1) (fun x2 => k47 aL0 xL1 x2)))
def fX10_findWanted_47 (k168 : Nat → Int32 → MM Unit) : Nat → Nat → Int32 → Int32 → MM Unit
  | 0, _, _, _ => m_bad
  | n + 1, aL0, xL1, xL2 => m_gi aL0 9 2 (fun x1 => if ((1 : Int32) <<< (x1 &&& 31)) ≤ xL2 then (k168 aL0 xL1) else (m_gr aL0 9 30 (fun a2 => m_li 0 a2 ((((256 : Int32) * xL1) + 256) + xL2) (fun x3 => fX10_findWanted_77 (fX10_findWanted_149 (fX10_findWanted_47 k168 n)) c_fu aL0 xL1 xL2 x3 0))))
def fX10_findWanted_168 (k41 : Nat → Int32 → MM Unit) (aL0 : Nat) (xL1 : Int32) : MM Unit := m_let (xL1 + (-1)) (fun x1 => k41 aL0 x1)
def fX10_findWanted_41  : Nat → Nat → Int32 → MM Unit
  | 0, _, _ => m_bad
  | n + 1, aL0, xL1 => if xL1 < 0 then (m_ret ()) else (fX10_findWanted_47 (fX10_findWanted_168 (fX10_findWanted_41 n)) c_fu aL0 xL1 0)
def fX10_findWanted_34  (aL0 : Nat) : MM Unit := m_gi aL0 9 0 (fun x1 => m_let (x1 - 1) (fun x2 => fX10_findWanted_41 c_fu aL0 x2))
def pX10_findWanted (a0_ : Nat) : MM Unit := fX10_findWanted_2 fX10_findWanted_34 c_fu a0_ 0
set_option maxRecDepth 100000 in
set_option maxHeartbeats 4000000 in
theorem tX10_findWanted_2 {p : Program} {l : Launch} {e : Env} {s : State} {m : MethodId} {args : Array Value} {below : List Frame} {meth : Method} {c : Code} {G : cG} (hO : c_Ok p s m c cX10_findWanted 6 RX10 G) (hr : meth.sig.returnType = none) (hk : meth.locks = false) (k34 : Nat → MM Unit) (hk34 : ∀ (aL0 : Nat), Sm p l e { frames := 2, cells := 0, slots := 0, locals := 46 } s m args below meth c G 6 (c_Q G c_vv below args s 0 0) 0 0 34 [(0, .ref aL0)] [] (k34 aL0))  : ∀ (n : Nat) (aL0 : Nat) (xL1 : Int32), Sm p l e { frames := 2, cells := 0, slots := 0, locals := 46 } s m args below meth c G 6 (c_Q G c_vv below args s 0 0) 0 0 2 [(0, .ref aL0), (1, .int xL1)] [] (fX10_findWanted_2 k34 n aL0 xL1) := by
  intro n
  induction n with
  | zero =>
    intro aL0 xL1
    exact sm_bad
  | succ n ih =>
    intro aL0 xL1
    rw [fX10_findWanted_2]
    refine sm_iload_n hO 1 dX10_findWanted_2 rfl rfl ?_
    refine sm_iconst (v := 1) hO dX10_findWanted_3 rfl ?_
    refine sm_aload_n hO 0 dX10_findWanted_4 rfl rfl ?_
    refine sm_gi hO fl_RX10_79 dX10_findWanted_5 (fun x1 => ?_)
    refine sm_ishl hO dX10_findWanted_8 ?_
    refine sm_icmp_ge (tgt := 34) hO dX10_findWanted_9 (by decide) ?_ ?_
    · exact sm_sub [0] rfl (hk34 aL0)
    · refine sm_aload_n hO 0 dX10_findWanted_12 rfl rfl ?_
      refine sm_gr hO fl_RX10_57 dX10_findWanted_13 (fun a2 => ?_)
      refine sm_sipush (v := 256) hO dX10_findWanted_16 rfl ?_
      refine sm_aload_n hO 0 dX10_findWanted_19 rfl rfl ?_
      refine sm_gi hO fl_RX10_72 dX10_findWanted_20 (fun x3 => ?_)
      refine sm_imul hO dX10_findWanted_23 ?_
      refine sm_iload_n hO 1 dX10_findWanted_24 rfl rfl ?_
      refine sm_iadd hO dX10_findWanted_25 ?_
      refine sm_iconst (v := 0) hO dX10_findWanted_26 rfl ?_
      refine sm_si hO dX10_findWanted_27 ?_
      refine sm_iincL (v := xL1 + 1) hO 1 (fun x4 => [(1, .int x4), (0, .ref aL0)]) dX10_findWanted_28 rfl rfl (by decide) (fun _ => rfl) (fun x4 => ?_)
      refine sm_goto (tgt := 2) hO dX10_findWanted_31 (by decide) ?_
      exact sm_sub [1, 0] rfl (ih aL0 x4)
set_option maxRecDepth 100000 in
set_option maxHeartbeats 4000000 in
theorem tX10_findWanted_142 {p : Program} {l : Launch} {e : Env} {s : State} {m : MethodId} {args : Array Value} {below : List Frame} {meth : Method} {c : Code} {G : cG} (hO : c_Ok p s m c cX10_findWanted 6 RX10 G) (hr : meth.sig.returnType = none) (hk : meth.locks = false) (k77 : Nat → Int32 → Int32 → Int32 → Int32 → MM Unit) (hk77 : ∀ (aL0 : Nat) (xL1 : Int32) (xL2 : Int32) (xL3 : Int32) (xL4 : Int32), Sm p l e { frames := 2, cells := 0, slots := 0, locals := 46 } s m args below meth c G 6 (c_Q G c_vv below args s 0 0) 0 0 77 [(0, .ref aL0), (1, .int xL1), (2, .int xL2), (3, .int xL3), (4, .int xL4)] [] (k77 aL0 xL1 xL2 xL3 xL4))  : ∀ (aL0 : Nat) (xL1 : Int32) (xL2 : Int32) (xL4 : Int32) (xS0 : Int32), Sm p l e { frames := 2, cells := 0, slots := 0, locals := 46 } s m args below meth c G 6 (c_Q G c_vv below args s 0 0) 0 0 142 [(0, .ref aL0), (1, .int xL1), (2, .int xL2), (4, .int xL4)] [.int xS0] (fX10_findWanted_142 k77 aL0 xL1 xL2 xL4 xS0) := by
  intro aL0 xL1 xL2 xL4 xS0
  rw [fX10_findWanted_142]
  refine sm_istore_n hO [(3, .int xS0), (0, .ref aL0), (1, .int xL1), (2, .int xL2), (4, .int xL4)] dX10_findWanted_142 rfl (by decide) rfl ?_
  refine sm_iincL (v := xL4 + 1) hO 4 (fun x1 => [(4, .int x1), (3, .int xS0), (0, .ref aL0), (1, .int xL1), (2, .int xL2)]) dX10_findWanted_143 rfl rfl (by decide) (fun _ => rfl) (fun x1 => ?_)
  refine sm_goto (tgt := 77) hO dX10_findWanted_146 (by decide) ?_
  exact sm_sub [2, 3, 4, 1, 0] rfl (hk77 aL0 xL1 xL2 xS0 x1)
set_option maxRecDepth 100000 in
set_option maxHeartbeats 4000000 in
theorem tX10_findWanted_128 {p : Program} {l : Launch} {e : Env} {s : State} {m : MethodId} {args : Array Value} {below : List Frame} {meth : Method} {c : Code} {G : cG} (hO : c_Ok p s m c cX10_findWanted 6 RX10 G) (hr : meth.sig.returnType = none) (hk : meth.locks = false) (k77 : Nat → Int32 → Int32 → Int32 → Int32 → MM Unit) (hk77 : ∀ (aL0 : Nat) (xL1 : Int32) (xL2 : Int32) (xL3 : Int32) (xL4 : Int32), Sm p l e { frames := 2, cells := 0, slots := 0, locals := 46 } s m args below meth c G 6 (c_Q G c_vv below args s 0 0) 0 0 77 [(0, .ref aL0), (1, .int xL1), (2, .int xL2), (3, .int xL3), (4, .int xL4)] [] (k77 aL0 xL1 xL2 xL3 xL4))  : ∀ (aL0 : Nat) (xL1 : Int32) (xL2 : Int32) (xL3 : Int32) (xL4 : Int32) (xS0 : Int32), Sm p l e { frames := 2, cells := 0, slots := 0, locals := 46 } s m args below meth c G 6 (c_Q G c_vv below args s 0 0) 0 0 128 [(0, .ref aL0), (1, .int xL1), (2, .int xL2), (3, .int xL3), (4, .int xL4)] [.int xS0] (fX10_findWanted_128 k77 aL0 xL1 xL2 xL3 xL4 xS0) := by
  intro aL0 xL1 xL2 xL3 xL4 xS0
  rw [fX10_findWanted_128]
  refine sm_istore hO [(5, .int xS0), (0, .ref aL0), (1, .int xL1), (2, .int xL2), (3, .int xL3), (4, .int xL4)] dX10_findWanted_128 (by decide) rfl ?_
  refine sm_iload hO 0 dX10_findWanted_130 rfl ?_
  refine sm_iload_n hO 4 dX10_findWanted_132 rfl rfl ?_
  refine sm_icmp_le (tgt := 141) hO dX10_findWanted_133 (by decide) ?_ ?_
  · refine sm_iload_n hO 4 dX10_findWanted_141 rfl rfl ?_
    exact sm_sub [1, 2, 3, 5] rfl (tX10_findWanted_142 hO hr hk k77 hk77 aL0 xL1 xL2 xL4 xL3)
  · refine sm_iload hO 0 dX10_findWanted_136 rfl ?_
    refine sm_goto (tgt := 142) hO dX10_findWanted_138 (by decide) ?_
    exact sm_sub [1, 2, 3, 5] rfl (tX10_findWanted_142 hO hr hk k77 hk77 aL0 xL1 xL2 xL4 xS0)
set_option maxRecDepth 100000 in
set_option maxHeartbeats 4000000 in
theorem tX10_findWanted_77 {p : Program} {l : Launch} {e : Env} {s : State} {m : MethodId} {args : Array Value} {below : List Frame} {meth : Method} {c : Code} {G : cG} (hO : c_Ok p s m c cX10_findWanted 6 RX10 G) (hr : meth.sig.returnType = none) (hk : meth.locks = false) (k149 : Nat → Int32 → Int32 → Int32 → MM Unit) (hk149 : ∀ (aL0 : Nat) (xL1 : Int32) (xL2 : Int32) (xL3 : Int32), Sm p l e { frames := 2, cells := 0, slots := 0, locals := 46 } s m args below meth c G 6 (c_Q G c_vv below args s 0 0) 0 0 149 [(0, .ref aL0), (1, .int xL1), (2, .int xL2), (3, .int xL3)] [] (k149 aL0 xL1 xL2 xL3))  : ∀ (n : Nat) (aL0 : Nat) (xL1 : Int32) (xL2 : Int32) (xL3 : Int32) (xL4 : Int32), Sm p l e { frames := 2, cells := 0, slots := 0, locals := 46 } s m args below meth c G 6 (c_Q G c_vv below args s 0 0) 0 0 77 [(0, .ref aL0), (1, .int xL1), (2, .int xL2), (3, .int xL3), (4, .int xL4)] [] (fX10_findWanted_77 k149 n aL0 xL1 xL2 xL3 xL4) := by
  intro n
  induction n with
  | zero =>
    intro aL0 xL1 xL2 xL3 xL4
    exact sm_bad
  | succ n ih =>
    intro aL0 xL1 xL2 xL3 xL4
    rw [fX10_findWanted_77]
    refine sm_iload hO 4 dX10_findWanted_77 rfl ?_
    refine sm_aload_n hO 0 dX10_findWanted_79 rfl rfl ?_
    refine sm_gi hO fl_RX10_79 dX10_findWanted_80 (fun x1 => ?_)
    refine sm_icmp_ge (tgt := 149) hO dX10_findWanted_83 (by decide) ?_ ?_
    · exact sm_sub [0, 1, 2, 3] rfl (hk149 aL0 xL1 xL2 xL3)
    · refine sm_iload_n hO 2 dX10_findWanted_86 rfl rfl ?_
      refine sm_iload hO 4 dX10_findWanted_87 rfl ?_
      refine sm_csi hO (ctX10_has l G xL2 xL4) cw_RX10_175 kw_985 [] rfl rfl ⟨(Nat.le_of_ble_eq_true rfl), (Nat.le_of_ble_eq_true rfl)⟩ ⟨(Nat.le_of_ble_eq_true rfl), (Nat.le_of_ble_eq_true rfl)⟩ (Nat.le_of_ble_eq_true rfl) dX10_findWanted_89 (fun x2 => ?_)
      refine sm_if_eq (tgt := 99) hO dX10_findWanted_92 (by decide) ?_ ?_
      · refine sm_aload_n hO 0 dX10_findWanted_99 rfl rfl ?_
        refine sm_iload hO 4 dX10_findWanted_100 rfl ?_
        refine sm_iload_n hO 1 dX10_findWanted_102 rfl rfl ?_
        refine sm_cvi hO (ctX10_pleases l G aL0 xL4 xL1) cw_RX10_311 cv_X10_pleases [] rfl rfl ⟨(Nat.le_of_ble_eq_true rfl), (Nat.le_of_ble_eq_true rfl)⟩ ⟨(Nat.le_of_ble_eq_true rfl), (Nat.le_of_ble_eq_true rfl)⟩ (Nat.le_of_ble_eq_true rfl) dX10_findWanted_103 (fun x3 => ?_)
        refine sm_aload_n hO 0 dX10_findWanted_106 rfl rfl ?_
        refine sm_gr hO fl_RX10_57 dX10_findWanted_107 (fun a4 => ?_)
        refine sm_sipush (v := 256) hO dX10_findWanted_110 rfl ?_
        refine sm_iload_n hO 1 dX10_findWanted_113 rfl rfl ?_
        refine sm_imul hO dX10_findWanted_114 ?_
        refine sm_sipush (v := 256) hO dX10_findWanted_115 rfl ?_
        refine sm_iadd hO dX10_findWanted_118 ?_
        refine sm_iload_n hO 2 dX10_findWanted_119 rfl rfl ?_
        refine sm_iconst (v := 1) hO dX10_findWanted_120 rfl ?_
        refine sm_iload hO 4 dX10_findWanted_121 rfl ?_
        refine sm_ishl hO dX10_findWanted_123 ?_
        refine sm_ior hO dX10_findWanted_124 ?_
        refine sm_iadd hO dX10_findWanted_125 ?_
        refine sm_li hO dX10_findWanted_126 (fun x5 => ?_)
        refine sm_iadd hO dX10_findWanted_127 ?_
        exact sm_sub [0, 1, 2, 3, 4] rfl (tX10_findWanted_128 hO hr hk (fX10_findWanted_77 k149 n) ih aL0 xL1 xL2 xL3 xL4 (x3 + x5))
      · refine sm_iconst (v := (-1)) hO dX10_findWanted_95 rfl ?_
        refine sm_goto (tgt := 128) hO dX10_findWanted_96 (by decide) ?_
        exact sm_sub [0, 1, 2, 3, 4] rfl (tX10_findWanted_128 hO hr hk (fX10_findWanted_77 k149 n) ih aL0 xL1 xL2 xL3 xL4 ((-1)))
set_option maxRecDepth 100000 in
set_option maxHeartbeats 4000000 in
theorem tX10_findWanted_149 {p : Program} {l : Launch} {e : Env} {s : State} {m : MethodId} {args : Array Value} {below : List Frame} {meth : Method} {c : Code} {G : cG} (hO : c_Ok p s m c cX10_findWanted 6 RX10 G) (hr : meth.sig.returnType = none) (hk : meth.locks = false) (k47 : Nat → Int32 → Int32 → MM Unit) (hk47 : ∀ (aL0 : Nat) (xL1 : Int32) (xL2 : Int32), Sm p l e { frames := 2, cells := 0, slots := 0, locals := 46 } s m args below meth c G 6 (c_Q G c_vv below args s 0 0) 0 0 47 [(0, .ref aL0), (1, .int xL1), (2, .int xL2)] [] (k47 aL0 xL1 xL2))  : ∀ (aL0 : Nat) (xL1 : Int32) (xL2 : Int32) (xL3 : Int32), Sm p l e { frames := 2, cells := 0, slots := 0, locals := 46 } s m args below meth c G 6 (c_Q G c_vv below args s 0 0) 0 0 149 [(0, .ref aL0), (1, .int xL1), (2, .int xL2), (3, .int xL3)] [] (fX10_findWanted_149 k47 aL0 xL1 xL2 xL3) := by
  intro aL0 xL1 xL2 xL3
  rw [fX10_findWanted_149]
  refine sm_aload_n hO 0 dX10_findWanted_149 rfl rfl ?_
  refine sm_gr hO fl_RX10_57 dX10_findWanted_150 (fun a1 => ?_)
  refine sm_sipush (v := 256) hO dX10_findWanted_153 rfl ?_
  refine sm_iload_n hO 1 dX10_findWanted_156 rfl rfl ?_
  refine sm_imul hO dX10_findWanted_157 ?_
  refine sm_iload_n hO 2 dX10_findWanted_158 rfl rfl ?_
  refine sm_iadd hO dX10_findWanted_159 ?_
  refine sm_iload_n hO 3 dX10_findWanted_160 rfl rfl ?_
  refine sm_si hO dX10_findWanted_161 ?_
  refine sm_iincL (v := xL2 + 1) hO 2 (fun x2 => [(2, .int x2), (0, .ref aL0), (1, .int xL1), (3, .int xL3)]) dX10_findWanted_162 rfl rfl (by decide) (fun _ => rfl) (fun x2 => ?_)
  refine sm_goto (tgt := 47) hO dX10_findWanted_165 (by decide) ?_
  exact sm_sub [1, 2, 0] rfl (hk47 aL0 xL1 x2)
set_option maxRecDepth 100000 in
set_option maxHeartbeats 4000000 in
theorem tX10_findWanted_47 {p : Program} {l : Launch} {e : Env} {s : State} {m : MethodId} {args : Array Value} {below : List Frame} {meth : Method} {c : Code} {G : cG} (hO : c_Ok p s m c cX10_findWanted 6 RX10 G) (hr : meth.sig.returnType = none) (hk : meth.locks = false) (k168 : Nat → Int32 → MM Unit) (hk168 : ∀ (aL0 : Nat) (xL1 : Int32), Sm p l e { frames := 2, cells := 0, slots := 0, locals := 46 } s m args below meth c G 6 (c_Q G c_vv below args s 0 0) 0 0 168 [(0, .ref aL0), (1, .int xL1)] [] (k168 aL0 xL1))  : ∀ (n : Nat) (aL0 : Nat) (xL1 : Int32) (xL2 : Int32), Sm p l e { frames := 2, cells := 0, slots := 0, locals := 46 } s m args below meth c G 6 (c_Q G c_vv below args s 0 0) 0 0 47 [(0, .ref aL0), (1, .int xL1), (2, .int xL2)] [] (fX10_findWanted_47 k168 n aL0 xL1 xL2) := by
  intro n
  induction n with
  | zero =>
    intro aL0 xL1 xL2
    exact sm_bad
  | succ n ih =>
    intro aL0 xL1 xL2
    rw [fX10_findWanted_47]
    refine sm_iload_n hO 2 dX10_findWanted_47 rfl rfl ?_
    refine sm_iconst (v := 1) hO dX10_findWanted_48 rfl ?_
    refine sm_aload_n hO 0 dX10_findWanted_49 rfl rfl ?_
    refine sm_gi hO fl_RX10_79 dX10_findWanted_50 (fun x1 => ?_)
    refine sm_ishl hO dX10_findWanted_53 ?_
    refine sm_icmp_ge (tgt := 168) hO dX10_findWanted_54 (by decide) ?_ ?_
    · exact sm_sub [0, 1] rfl (hk168 aL0 xL1)
    · refine sm_aload_n hO 0 dX10_findWanted_57 rfl rfl ?_
      refine sm_gr hO fl_RX10_57 dX10_findWanted_58 (fun a2 => ?_)
      refine sm_sipush (v := 256) hO dX10_findWanted_61 rfl ?_
      refine sm_iload_n hO 1 dX10_findWanted_64 rfl rfl ?_
      refine sm_imul hO dX10_findWanted_65 ?_
      refine sm_sipush (v := 256) hO dX10_findWanted_66 rfl ?_
      refine sm_iadd hO dX10_findWanted_69 ?_
      refine sm_iload_n hO 2 dX10_findWanted_70 rfl rfl ?_
      refine sm_iadd hO dX10_findWanted_71 ?_
      refine sm_li hO dX10_findWanted_72 (fun x3 => ?_)
      refine sm_istore_n hO [(3, .int x3), (0, .ref aL0), (1, .int xL1), (2, .int xL2)] dX10_findWanted_73 rfl (by decide) rfl ?_
      refine sm_iconst (v := 0) hO dX10_findWanted_74 rfl ?_
      refine sm_istore hO [(4, .int 0), (3, .int x3), (0, .ref aL0), (1, .int xL1), (2, .int xL2)] dX10_findWanted_75 (by decide) rfl ?_
      exact sm_sub [2, 3, 4, 1, 0] rfl (tX10_findWanted_77 hO hr hk (fX10_findWanted_149 (fX10_findWanted_47 k168 n)) (tX10_findWanted_149 hO hr hk (fX10_findWanted_47 k168 n) ih) c_fu aL0 xL1 xL2 x3 0)
set_option maxRecDepth 100000 in
set_option maxHeartbeats 4000000 in
theorem tX10_findWanted_168 {p : Program} {l : Launch} {e : Env} {s : State} {m : MethodId} {args : Array Value} {below : List Frame} {meth : Method} {c : Code} {G : cG} (hO : c_Ok p s m c cX10_findWanted 6 RX10 G) (hr : meth.sig.returnType = none) (hk : meth.locks = false) (k41 : Nat → Int32 → MM Unit) (hk41 : ∀ (aL0 : Nat) (xL1 : Int32), Sm p l e { frames := 2, cells := 0, slots := 0, locals := 46 } s m args below meth c G 6 (c_Q G c_vv below args s 0 0) 0 0 41 [(0, .ref aL0), (1, .int xL1)] [] (k41 aL0 xL1))  : ∀ (aL0 : Nat) (xL1 : Int32), Sm p l e { frames := 2, cells := 0, slots := 0, locals := 46 } s m args below meth c G 6 (c_Q G c_vv below args s 0 0) 0 0 168 [(0, .ref aL0), (1, .int xL1)] [] (fX10_findWanted_168 k41 aL0 xL1) := by
  intro aL0 xL1
  rw [fX10_findWanted_168]
  refine sm_iincL (v := xL1 + (-1)) hO 1 (fun x1 => [(1, .int x1), (0, .ref aL0)]) dX10_findWanted_168 rfl rfl (by decide) (fun _ => rfl) (fun x1 => ?_)
  refine sm_goto (tgt := 41) hO dX10_findWanted_171 (by decide) ?_
  exact sm_sub [1, 0] rfl (hk41 aL0 x1)
set_option maxRecDepth 100000 in
set_option maxHeartbeats 4000000 in
theorem tX10_findWanted_41 {p : Program} {l : Launch} {e : Env} {s : State} {m : MethodId} {args : Array Value} {below : List Frame} {meth : Method} {c : Code} {G : cG} (hO : c_Ok p s m c cX10_findWanted 6 RX10 G) (hr : meth.sig.returnType = none) (hk : meth.locks = false) : ∀ (n : Nat) (aL0 : Nat) (xL1 : Int32), Sm p l e { frames := 2, cells := 0, slots := 0, locals := 46 } s m args below meth c G 6 (c_Q G c_vv below args s 0 0) 0 0 41 [(0, .ref aL0), (1, .int xL1)] [] (fX10_findWanted_41 n aL0 xL1) := by
  intro n
  induction n with
  | zero =>
    intro aL0 xL1
    exact sm_bad
  | succ n ih =>
    intro aL0 xL1
    rw [fX10_findWanted_41]
    refine sm_iload_n hO 1 dX10_findWanted_41 rfl rfl ?_
    refine sm_if_lt (tgt := 174) hO dX10_findWanted_42 (by decide) ?_ ?_
    · exact sm_vret hO hr hk (Nat.le_of_ble_eq_true rfl) (Nat.le_of_ble_eq_true rfl) dX10_findWanted_174
    · refine sm_iconst (v := 0) hO dX10_findWanted_45 rfl ?_
      refine sm_istore_n hO [(2, .int 0), (0, .ref aL0), (1, .int xL1)] dX10_findWanted_46 rfl (by decide) rfl ?_
      exact sm_sub [1, 2, 0] rfl (tX10_findWanted_47 hO hr hk (fX10_findWanted_168 (fX10_findWanted_41 n)) (tX10_findWanted_168 hO hr hk (fX10_findWanted_41 n) ih) c_fu aL0 xL1 0)
set_option maxRecDepth 100000 in
set_option maxHeartbeats 4000000 in
theorem tX10_findWanted_34 {p : Program} {l : Launch} {e : Env} {s : State} {m : MethodId} {args : Array Value} {below : List Frame} {meth : Method} {c : Code} {G : cG} (hO : c_Ok p s m c cX10_findWanted 6 RX10 G) (hr : meth.sig.returnType = none) (hk : meth.locks = false) : ∀ (aL0 : Nat), Sm p l e { frames := 2, cells := 0, slots := 0, locals := 46 } s m args below meth c G 6 (c_Q G c_vv below args s 0 0) 0 0 34 [(0, .ref aL0)] [] (fX10_findWanted_34 aL0) := by
  intro aL0
  rw [fX10_findWanted_34]
  refine sm_aload_n hO 0 dX10_findWanted_34 rfl rfl ?_
  refine sm_gi hO fl_RX10_72 dX10_findWanted_35 (fun x1 => ?_)
  refine sm_iconst (v := 1) hO dX10_findWanted_38 rfl ?_
  refine sm_isub hO dX10_findWanted_39 ?_
  refine sm_topi (fun x2 => ?_)
  refine sm_istore_n hO [(1, .int x2), (0, .ref aL0)] dX10_findWanted_40 rfl (by decide) rfl ?_
  exact sm_sub [1, 0] rfl (tX10_findWanted_41 hO hr hk c_fu aL0 x2)
set_option maxRecDepth 100000 in
set_option maxHeartbeats 4000000 in
theorem ctX10_findWanted (l : Launch) (G : cG) (a0_ : Nat) : Ct l G yX10_findWanted cX10_findWanted 6 none 2 46 0 0 [.ref a0_] c_vv (pX10_findWanted a0_) := by
  refine Ct.of (lv := [(0, .ref a0_)]) (by decide) (Nat.le_of_ble_eq_true rfl) rfl (fun p e s m args below meth c hO hr hk hin => ?_)
  rw [pX10_findWanted]
  refine sm_iconst (v := 0) hO dX10_findWanted_0 rfl ?_
  refine sm_istore_n hO [(1, .int 0), (0, .ref a0_)] dX10_findWanted_1 rfl (by decide) rfl ?_
  exact sm_sub [1, 0] rfl (tX10_findWanted_2 hO hr hk fX10_findWanted_34 (tX10_findWanted_34 hO hr hk) c_fu a0_ 0)
