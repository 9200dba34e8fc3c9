/-! DollCongress$Roll.addCourt(I)V -/
def pX4_addCourt (a0_ : Nat) (x1_ : Int32) : MM Unit := m_gi a0_ 4 5 (fun x1 => if (7 : Int32) ≤ x1 then (m_ret ()) else (m_gr a0_ 4 0 (fun a2 => m_gi a0_ 4 5 (fun x3 => m_si a2 x3 x1_ (m_gi a0_ 4 5 (fun x4 => m_pv a0_ 4 5 (.int (x4 + 1)) (m_ret ())))))))
set_option maxRecDepth 100000 in
set_option maxHeartbeats 4000000 in
theorem ctX4_addCourt (l : Launch) (G : cG) (a0_ : Nat) (x1_ : Int32) : Ct l G yX4_addCourt cX4_addCourt 2 none 0 0 0 0 [.ref a0_, .int x1_] c_vv (pX4_addCourt a0_ x1_) := by
  refine Ct.of (lv := [(0, .ref a0_), (1, .int x1_)]) (by decide) (Nat.le_of_ble_eq_true rfl) rfl (fun p e s m args below meth c hO hr hk hin => ?_)
  rw [pX4_addCourt]
  refine sm_aload_n hO 0 dX4_addCourt_0 rfl rfl ?_
  refine sm_gi hO fl_RX4_27 dX4_addCourt_1 (fun x1 => ?_)
  refine sm_bipush (v := 7) hO dX4_addCourt_4 rfl ?_
  refine sm_icmp_ge (tgt := 29) hO dX4_addCourt_6 (by decide) ?_ ?_
  · exact sm_vret hO hr hk (Nat.le_of_ble_eq_true rfl) (Nat.le_of_ble_eq_true rfl) dX4_addCourt_29
  · refine sm_aload_n hO 0 dX4_addCourt_9 rfl rfl ?_
    refine sm_gr hO fl_RX4_9 dX4_addCourt_10 (fun a2 => ?_)
    refine sm_aload_n hO 0 dX4_addCourt_13 rfl rfl ?_
    refine sm_gi hO fl_RX4_27 dX4_addCourt_14 (fun x3 => ?_)
    refine sm_iload_n hO 1 dX4_addCourt_17 rfl rfl ?_
    refine sm_si hO dX4_addCourt_18 ?_
    refine sm_aload_n hO 0 dX4_addCourt_19 rfl rfl ?_
    refine sm_dup hO dX4_addCourt_20 rfl ?_
    refine sm_gi hO fl_RX4_27 dX4_addCourt_21 (fun x4 => ?_)
    refine sm_iconst (v := 1) hO dX4_addCourt_24 rfl ?_
    refine sm_iadd hO dX4_addCourt_25 ?_
    refine sm_pv hO fl_RX4_27 fp_4_5 rfl rfl dX4_addCourt_26 ?_
    exact sm_vret hO hr hk (Nat.le_of_ble_eq_true rfl) (Nat.le_of_ble_eq_true rfl) dX4_addCourt_29
/-! DollCongress$Text.readCourtsMark(LDollCongress$Roll;)Z -/
def fX7_readCourtsMark_28 (k29 : Nat → Nat → Int32 → Int32 → MM Int32) (aL0 : Nat) (aL1 : Nat) (xL2 : Int32) : MM Int32 := k29 aL0 aL1 xL2 0
def fX7_readCourtsMark_48 (k49 : Nat → Int32 → Int32 → MM Int32) (aL0 : Nat) (xL3 : Int32) : MM Int32 := k49 aL0 xL3 0
def fX7_readCourtsMark_71  (aL0 : Nat) (xL3 : Int32) : MM Int32 := m_gi aL0 6 4 (fun x1 => m_pv aL0 6 4 (.int (x1 + 1)) (m_rz xL3))
def fX7_readCourtsMark_49  (aL0 : Nat) (xL3 : Int32) (xS0 : Int32) : MM Int32 := if xL3 = 0 then (if xS0 = 0 then (m_gi aL0 6 4 (fun x1 => m_cv aL0 6 (pX7_fail aL0 (1 : Int32) x1) (fun _ => m_ret 0))) else (fX7_readCourtsMark_71 aL0 xL3)) else (fX7_readCourtsMark_71 aL0 xL3)
def fX7_readCourtsMark_29  (aL0 : Nat) (aL1 : Nat) (xL2 : Int32) (xS0 : Int32) : MM Int32 := if xL2 = (59 : Int32) then (m_gi aL1 4 5 (fun x1 => if x1 ≤ (1 : Int32) then (fX7_readCourtsMark_48 fX7_readCourtsMark_49 aL0 xS0) else (fX7_readCourtsMark_49 aL0 xS0 1))) else (fX7_readCourtsMark_48 fX7_readCourtsMark_49 aL0 xS0)
def pX7_readCourtsMark (a0_ : Nat) (a1_ : Nat) : MM Int32 := m_cv a0_ 6 (pX7_skipBlanks a0_) (fun _ => m_cv a0_ 6 (pX7_letterHere a0_) (fun x1 => if x1 = (44 : Int32) then (m_gi a1_ 4 5 (fun x2 => if (7 : Int32) ≤ x2 then (fX7_readCourtsMark_28 fX7_readCourtsMark_29 a0_ a1_ x1) else (fX7_readCourtsMark_29 a0_ a1_ x1 1))) else (fX7_readCourtsMark_28 fX7_readCourtsMark_29 a0_ a1_ x1)))
set_option maxRecDepth 100000 in
set_option maxHeartbeats 4000000 in
theorem tX7_readCourtsMark_28 {p : Program} {l : Launch} {e : Env} {s : State} {m : MethodId} {args : Array Value} {below : List Frame} {meth : Method} {c : Code} {G : cG} (hO : c_Ok p s m c cX7_readCourtsMark 5 RX7 G) (hr : meth.sig.returnType = (some .boolean)) (hk : meth.locks = false) (k29 : Nat → Nat → Int32 → Int32 → MM Int32) (hk29 : ∀ (aL0 : Nat) (aL1 : Nat) (xL2 : Int32) (xS0 : Int32), Sm p l e { frames := 2, cells := 0, slots := 0, locals := 40 } s m args below meth c G 5 (c_Q G c_vi below args s 0 0) 0 0 29 [(0, .ref aL0), (1, .ref aL1), (2, .int xL2)] [.int xS0] (k29 aL0 aL1 xL2 xS0))  : ∀ (aL0 : Nat) (aL1 : Nat) (xL2 : Int32), Sm p l e { frames := 2, cells := 0, slots := 0, locals := 40 } s m args below meth c G 5 (c_Q G c_vi below args s 0 0) 0 0 28 [(0, .ref aL0), (1, .ref aL1), (2, .int xL2)] [] (fX7_readCourtsMark_28 k29 aL0 aL1 xL2) := by
  intro aL0 aL1 xL2
  rw [fX7_readCourtsMark_28]
  refine sm_iconst (v := 0) hO dX7_readCourtsMark_28 rfl ?_
  exact sm_sub [0, 1, 2] rfl (hk29 aL0 aL1 xL2 0)
set_option maxRecDepth 100000 in
set_option maxHeartbeats 4000000 in
theorem tX7_readCourtsMark_48 {p : Program} {l : Launch} {e : Env} {s : State} {m : MethodId} {args : Array Value} {below : List Frame} {meth : Method} {c : Code} {G : cG} (hO : c_Ok p s m c cX7_readCourtsMark 5 RX7 G) (hr : meth.sig.returnType = (some .boolean)) (hk : meth.locks = false) (k49 : Nat → Int32 → Int32 → MM Int32) (hk49 : ∀ (aL0 : Nat) (xL3 : Int32) (xS0 : Int32), Sm p l e { frames := 2, cells := 0, slots := 0, locals := 40 } s m args below meth c G 5 (c_Q G c_vi below args s 0 0) 0 0 49 [(0, .ref aL0), (3, .int xL3)] [.int xS0] (k49 aL0 xL3 xS0))  : ∀ (aL0 : Nat) (xL3 : Int32), Sm p l e { frames := 2, cells := 0, slots := 0, locals := 40 } s m args below meth c G 5 (c_Q G c_vi below args s 0 0) 0 0 48 [(0, .ref aL0), (3, .int xL3)] [] (fX7_readCourtsMark_48 k49 aL0 xL3) := by
  intro aL0 xL3
  rw [fX7_readCourtsMark_48]
  refine sm_iconst (v := 0) hO dX7_readCourtsMark_48 rfl ?_
  exact sm_sub [0, 1] rfl (hk49 aL0 xL3 0)
set_option maxRecDepth 100000 in
set_option maxHeartbeats 4000000 in
theorem tX7_readCourtsMark_71 {p : Program} {l : Launch} {e : Env} {s : State} {m : MethodId} {args : Array Value} {below : List Frame} {meth : Method} {c : Code} {G : cG} (hO : c_Ok p s m c cX7_readCourtsMark 5 RX7 G) (hr : meth.sig.returnType = (some .boolean)) (hk : meth.locks = false) : ∀ (aL0 : Nat) (xL3 : Int32), Sm p l e { frames := 2, cells := 0, slots := 0, locals := 40 } s m args below meth c G 5 (c_Q G c_vi below args s 0 0) 0 0 71 [(0, .ref aL0), (3, .int xL3)] [] (fX7_readCourtsMark_71 aL0 xL3) := by
  intro aL0 xL3
  rw [fX7_readCourtsMark_71]
  refine sm_aload_n hO 0 dX7_readCourtsMark_71 rfl rfl ?_
  refine sm_dup hO dX7_readCourtsMark_72 rfl ?_
  refine sm_gi hO fl_RX7_19 dX7_readCourtsMark_73 (fun x1 => ?_)
  refine sm_iconst (v := 1) hO dX7_readCourtsMark_76 rfl ?_
  refine sm_iadd hO dX7_readCourtsMark_77 ?_
  refine sm_pv hO fl_RX7_19 fp_6_4 rfl rfl dX7_readCourtsMark_78 ?_
  refine sm_iload_n hO 1 dX7_readCourtsMark_81 rfl rfl ?_
  exact sm_rz hO hr hk (Nat.le_of_ble_eq_true rfl) (Nat.le_of_ble_eq_true rfl) dX7_readCourtsMark_82
set_option maxRecDepth 100000 in
set_option maxHeartbeats 4000000 in
theorem tX7_readCourtsMark_49 {p : Program} {l : Launch} {e : Env} {s : State} {m : MethodId} {args : Array Value} {below : List Frame} {meth : Method} {c : Code} {G : cG} (hO : c_Ok p s m c cX7_readCourtsMark 5 RX7 G) (hr : meth.sig.returnType = (some .boolean)) (hk : meth.locks = false) : ∀ (aL0 : Nat) (xL3 : Int32) (xS0 : Int32), Sm p l e { frames := 2, cells := 0, slots := 0, locals := 40 } s m args below meth c G 5 (c_Q G c_vi below args s 0 0) 0 0 49 [(0, .ref aL0), (3, .int xL3)] [.int xS0] (fX7_readCourtsMark_49 aL0 xL3 xS0) := by
  intro aL0 xL3 xS0
  rw [fX7_readCourtsMark_49]
  refine sm_istore hO [(4, .int xS0), (0, .ref aL0), (3, .int xL3)] dX7_readCourtsMark_49 (by decide) rfl ?_
  refine sm_iload_n hO 2 dX7_readCourtsMark_51 rfl rfl ?_
  refine sm_if_ne (tgt := 71) hO dX7_readCourtsMark_52 (by decide) ?_ ?_
  · exact sm_sub [1, 2] rfl (tX7_readCourtsMark_71 hO hr hk aL0 xL3)
  · refine sm_iload hO 0 dX7_readCourtsMark_55 rfl ?_
    refine sm_if_ne (tgt := 71) hO dX7_readCourtsMark_57 (by decide) ?_ ?_
    · exact sm_sub [1, 2] rfl (tX7_readCourtsMark_71 hO hr hk aL0 xL3)
    · refine sm_aload_n hO 1 dX7_readCourtsMark_60 rfl rfl ?_
      refine sm_iconst (v := 1) hO dX7_readCourtsMark_61 rfl ?_
      refine sm_aload_n hO 1 dX7_readCourtsMark_62 rfl rfl ?_
      refine sm_gi hO fl_RX7_19 dX7_readCourtsMark_63 (fun x1 => ?_)
      refine sm_cvv hO (ctX7_fail l G aL0 (1 : Int32) x1) cw_RX7_50 cv_X7_fail [] rfl rfl ⟨(Nat.le_of_ble_eq_true rfl), (Nat.le_of_ble_eq_true rfl)⟩ ⟨(Nat.le_of_ble_eq_true rfl), (Nat.le_of_ble_eq_true rfl)⟩ (Nat.le_of_ble_eq_true rfl) dX7_readCourtsMark_66 (fun _ => ?_)
      refine sm_iconst (v := 0) hO dX7_readCourtsMark_69 rfl ?_
      exact sm_zret hO hr hk rfl (Nat.le_of_ble_eq_true rfl) (Nat.le_of_ble_eq_true rfl) dX7_readCourtsMark_70
set_option maxRecDepth 100000 in
set_option maxHeartbeats 4000000 in
theorem tX7_readCourtsMark_29 {p : Program} {l : Launch} {e : Env} {s : State} {m : MethodId} {args : Array Value} {below : List Frame} {meth : Method} {c : Code} {G : cG} (hO : c_Ok p s m c cX7_readCourtsMark 5 RX7 G) (hr : meth.sig.returnType = (some .boolean)) (hk : meth.locks = false) : ∀ (aL0 : Nat) (aL1 : Nat) (xL2 : Int32) (xS0 : Int32), Sm p l e { frames := 2, cells := 0, slots := 0, locals := 40 } s m args below meth c G 5 (c_Q G c_vi below args s 0 0) 0 0 29 [(0, .ref aL0), (1, .ref aL1), (2, .int xL2)] [.int xS0] (fX7_readCourtsMark_29 aL0 aL1 xL2 xS0) := by
  intro aL0 aL1 xL2 xS0
  rw [fX7_readCourtsMark_29]
  refine sm_istore_n hO [(3, .int xS0), (0, .ref aL0), (1, .ref aL1), (2, .int xL2)] dX7_readCourtsMark_29 rfl (by decide) rfl ?_
  refine sm_iload_n hO 3 dX7_readCourtsMark_30 rfl rfl ?_
  refine sm_bipush (v := 59) hO dX7_readCourtsMark_31 rfl ?_
  refine sm_icmp_ne (tgt := 48) hO dX7_readCourtsMark_33 (by decide) ?_ ?_
  · exact sm_sub [1, 0] rfl (tX7_readCourtsMark_48 hO hr hk fX7_readCourtsMark_49 (tX7_readCourtsMark_49 hO hr hk) aL0 xS0)
  · refine sm_aload_n hO 2 dX7_readCourtsMark_36 rfl rfl ?_
    refine sm_gi hO fl_RX7_47 dX7_readCourtsMark_37 (fun x1 => ?_)
    refine sm_iconst (v := 1) hO dX7_readCourtsMark_40 rfl ?_
    refine sm_icmp_le (tgt := 48) hO dX7_readCourtsMark_41 (by decide) ?_ ?_
    · exact sm_sub [1, 0] rfl (tX7_readCourtsMark_48 hO hr hk fX7_readCourtsMark_49 (tX7_readCourtsMark_49 hO hr hk) aL0 xS0)
    · refine sm_iconst (v := 1) hO dX7_readCourtsMark_44 rfl ?_
      refine sm_goto (tgt := 49) hO dX7_readCourtsMark_45 (by decide) ?_
      exact sm_sub [1, 0] rfl (tX7_readCourtsMark_49 hO hr hk aL0 xS0 1)
set_option maxRecDepth 100000 in
set_option maxHeartbeats 4000000 in
theorem ctX7_readCourtsMark (l : Launch) (G : cG) (a0_ : Nat) (a1_ : Nat) : Ct l G yX7_readCourtsMark cX7_readCourtsMark 5 (some .boolean) 2 40 0 0 [.ref a0_, .ref a1_] c_vi (pX7_readCourtsMark a0_ a1_) := by
  refine Ct.of (lv := [(0, .ref a0_), (1, .ref a1_)]) (by decide) (Nat.le_of_ble_eq_true rfl) rfl (fun p e s m args below meth c hO hr hk hin => ?_)
  rw [pX7_readCourtsMark]
  refine sm_aload_n hO 0 dX7_readCourtsMark_0 rfl rfl ?_
  refine sm_cvv hO (ctX7_skipBlanks l G a0_) cw_RX7_30 cv_X7_skipBlanks [] rfl rfl ⟨(Nat.le_of_ble_eq_true rfl), (Nat.le_of_ble_eq_true rfl)⟩ ⟨(Nat.le_of_ble_eq_true rfl), (Nat.le_of_ble_eq_true rfl)⟩ (Nat.le_of_ble_eq_true rfl) dX7_readCourtsMark_1 (fun _ => ?_)
  refine sm_aload_n hO 0 dX7_readCourtsMark_4 rfl rfl ?_
  refine sm_cvi hO (ctX7_letterHere l G a0_) cw_RX7_43 cv_X7_letterHere [] rfl rfl ⟨(Nat.le_of_ble_eq_true rfl), (Nat.le_of_ble_eq_true rfl)⟩ ⟨(Nat.le_of_ble_eq_true rfl), (Nat.le_of_ble_eq_true rfl)⟩ (Nat.le_of_ble_eq_true rfl) dX7_readCourtsMark_5 (fun x1 => ?_)
  refine sm_istore_n hO [(2, .int x1), (0, .ref a0_), (1, .ref a1_)] dX7_readCourtsMark_8 rfl (by decide) rfl ?_
  refine sm_iload_n hO 0 dX7_readCourtsMark_9 rfl rfl ?_
  refine sm_bipush (v := 44) hO dX7_readCourtsMark_10 rfl ?_
  refine sm_icmp_ne (tgt := 28) hO dX7_readCourtsMark_12 (by decide) ?_ ?_
  · exact sm_sub [1, 2, 0] rfl (tX7_readCourtsMark_28 hO hr hk fX7_readCourtsMark_29 (tX7_readCourtsMark_29 hO hr hk) a0_ a1_ x1)
  · refine sm_aload_n hO 2 dX7_readCourtsMark_15 rfl rfl ?_
    refine sm_gi hO fl_RX7_47 dX7_readCourtsMark_16 (fun x2 => ?_)
    refine sm_bipush (v := 7) hO dX7_readCourtsMark_19 rfl ?_
    refine sm_icmp_ge (tgt := 28) hO dX7_readCourtsMark_21 (by decide) ?_ ?_
    · exact sm_sub [1, 2, 0] rfl (tX7_readCourtsMark_28 hO hr hk fX7_readCourtsMark_29 (tX7_readCourtsMark_29 hO hr hk) a0_ a1_ x1)
    · refine sm_iconst (v := 1) hO dX7_readCourtsMark_24 rfl ?_
      refine sm_goto (tgt := 29) hO dX7_readCourtsMark_25 (by decide) ?_
      exact sm_sub [1, 2, 0] rfl (tX7_readCourtsMark_29 hO hr hk a0_ a1_ x1 1)
/-! DollCongress$Text.readCourts(LDollCongress$Roll;)V -/
def fX7_readCourts_31  : Nat → Nat → Nat → Int32 → Int32 → MM Unit
  | 0, _, _, _, _ => m_bad
  | n + 1, aL0, aL1, xL2, xL3 => if xL2 = 0 then (m_ret ()) else (if (7 : Int32) ≤ xL3 then (m_ret ()) else (m_cv aL0 6 (pX7_readNumber aL0 (1 : Int32) (9 : Int32)) (fun x1 => m_gi aL0 6 2 (fun x2 => if x2 = 0 then (m_cv aL1 4 (pX4_addCourt aL1 x1) (fun _ => m_cv aL0 6 (pX7_readCourtsMark aL0 aL1) (fun x3 => m_let (xL3 + 1) (fun x4 => fX7_readCourts_31 n aL0 aL1 x3 x4)))) else (m_ret ())))))
def pX7_readCourts (a0_ : Nat) (a1_ : Nat) : MM Unit := m_gi a1_ 4 5 (fun x1 => if x1 ≤ 0 then (m_gi a0_ 6 4 (fun x2 => m_pv a0_ 6 4 (.int (x2 + 1)) (fX7_readCourts_31 c_fu a0_ a1_ 1 0))) else (m_gi a0_ 6 4 (fun x3 => m_cv a0_ 6 (pX7_fail a0_ (3 : Int32) x3) (fun _ => m_ret ()))))
set_option maxRecDepth 100000 in
set_option maxHeartbeats 4000000 in
theorem tX7_readCourts_31 {p : Program} {l : Launch} {e : Env} {s : State} {m : MethodId} {args : Array Value} {below : List Frame} {meth : Method} {c : Code} {G : cG} (hO : c_Ok p s m c cX7_readCourts 5 RX7 G) (hr : meth.sig.returnType = none) (hk : meth.locks = false) : ∀ (n : Nat) (aL0 : Nat) (aL1 : Nat) (xL2 : Int32) (xL3 : Int32), Sm p l e { frames := 3, cells := 0, slots := 0, locals := 64 } s m args below meth c G 5 (c_Q G c_vv below args s 0 0) 0 0 31 [(0, .ref aL0), (1, .ref aL1), (2, .int xL2), (3, .int xL3)] [] (fX7_readCourts_31 n aL0 aL1 xL2 xL3) := by
  intro n
  induction n with
  | zero =>
    intro aL0 aL1 xL2 xL3
    exact sm_bad
  | succ n ih =>
    intro aL0 aL1 xL2 xL3
    rw [fX7_readCourts_31]
    refine sm_iload_n hO 2 dX7_readCourts_31 rfl rfl ?_
    refine sm_if_eq (tgt := 76) hO dX7_readCourts_32 (by decide) ?_ ?_
    · exact sm_vret hO hr hk (Nat.le_of_ble_eq_true rfl) (Nat.le_of_ble_eq_true rfl) dX7_readCourts_76
    · refine sm_iload_n hO 3 dX7_readCourts_35 rfl rfl ?_
      refine sm_bipush (v := 7) hO dX7_readCourts_36 rfl ?_
      refine sm_icmp_ge (tgt := 76) hO dX7_readCourts_38 (by decide) ?_ ?_
      · exact sm_vret hO hr hk (Nat.le_of_ble_eq_true rfl) (Nat.le_of_ble_eq_true rfl) dX7_readCourts_76
      · refine sm_aload_n hO 0 dX7_readCourts_41 rfl rfl ?_
        refine sm_iconst (v := 1) hO dX7_readCourts_42 rfl ?_
        refine sm_bipush (v := 9) hO dX7_readCourts_43 rfl ?_
        refine sm_cvi hO (ctX7_readNumber l G aL0 (1 : Int32) (9 : Int32)) cw_RX7_66 cv_X7_readNumber [] rfl rfl ⟨(Nat.le_of_ble_eq_true rfl), (Nat.le_of_ble_eq_true rfl)⟩ ⟨(Nat.le_of_ble_eq_true rfl), (Nat.le_of_ble_eq_true rfl)⟩ (Nat.le_of_ble_eq_true rfl) dX7_readCourts_45 (fun x1 => ?_)
        refine sm_istore hO [(4, .int x1), (0, .ref aL0), (1, .ref aL1), (2, .int xL2), (3, .int xL3)] dX7_readCourts_48 (by decide) rfl ?_
        refine sm_aload_n hO 1 dX7_readCourts_50 rfl rfl ?_
        refine sm_gi hO fl_RX7_22 dX7_readCourts_51 (fun x2 => ?_)
        refine sm_if_eq (tgt := 58) hO dX7_readCourts_54 (by decide) ?_ ?_
        · refine sm_aload_n hO 2 dX7_readCourts_58 rfl rfl ?_
          refine sm_iload hO 0 dX7_readCourts_59 rfl ?_
          refine sm_cvv hO (ctX4_addCourt l G aL1 x1) cw_RX7_70 cv_X4_addCourt [] rfl rfl ⟨(Nat.le_of_ble_eq_true rfl), (Nat.le_of_ble_eq_true rfl)⟩ ⟨(Nat.le_of_ble_eq_true rfl), (Nat.le_of_ble_eq_true rfl)⟩ (Nat.le_of_ble_eq_true rfl) dX7_readCourts_61 (fun _ => ?_)
          refine sm_aload_n hO 1 dX7_readCourts_64 rfl rfl ?_
          refine sm_aload_n hO 2 dX7_readCourts_65 rfl rfl ?_
          refine sm_cvi hO (ctX7_readCourtsMark l G aL0 aL1) cw_RX7_74 cv_X7_readCourtsMark [] rfl rfl ⟨(Nat.le_of_ble_eq_true rfl), (Nat.le_of_ble_eq_true rfl)⟩ ⟨(Nat.le_of_ble_eq_true rfl), (Nat.le_of_ble_eq_true rfl)⟩ (Nat.le_of_ble_eq_true rfl) dX7_readCourts_66 (fun x3 => ?_)
          refine sm_istore_n hO [(2, .int x3), (4, .int x1), (0, .ref aL0), (1, .ref aL1), (3, .int xL3)] dX7_readCourts_69 rfl (by decide) rfl ?_
          refine sm_iincL (v := xL3 + 1) hO 4 (fun x4 => [(3, .int x4), (2, .int x3), (4, .int x1), (0, .ref aL0), (1, .ref aL1)]) dX7_readCourts_70 rfl rfl (by decide) (fun _ => rfl) (fun x4 => ?_)
          refine sm_goto (tgt := 31) hO dX7_readCourts_73 (by decide) ?_
          exact sm_sub [3, 4, 1, 0] rfl (ih aL0 aL1 x3 x4)
        · exact sm_vret hO hr hk (Nat.le_of_ble_eq_true rfl) (Nat.le_of_ble_eq_true rfl) dX7_readCourts_57
set_option maxRecDepth 100000 in
set_option maxHeartbeats 4000000 in
theorem ctX7_readCourts (l : Launch) (G : cG) (a0_ : Nat) (a1_ : Nat) : Ct l G yX7_readCourts cX7_readCourts 5 none 3 64 0 0 [.ref a0_, .ref a1_] c_vv (pX7_readCourts a0_ a1_) := by
  refine Ct.of (lv := [(0, .ref a0_), (1, .ref a1_)]) (by decide) (Nat.le_of_ble_eq_true rfl) rfl (fun p e s m args below meth c hO hr hk hin => ?_)
  rw [pX7_readCourts]
  refine sm_aload_n hO 1 dX7_readCourts_0 rfl rfl ?_
  refine sm_gi hO fl_RX7_47 dX7_readCourts_1 (fun x1 => ?_)
  refine sm_if_le (tgt := 17) hO dX7_readCourts_4 (by decide) ?_ ?_
  · refine sm_aload_n hO 0 dX7_readCourts_17 rfl rfl ?_
    refine sm_dup hO dX7_readCourts_18 rfl ?_
    refine sm_gi hO fl_RX7_19 dX7_readCourts_19 (fun x2 => ?_)
    refine sm_iconst (v := 1) hO dX7_readCourts_22 rfl ?_
    refine sm_iadd hO dX7_readCourts_23 ?_
    refine sm_pv hO fl_RX7_19 fp_6_4 rfl rfl dX7_readCourts_24 ?_
    refine sm_iconst (v := 1) hO dX7_readCourts_27 rfl ?_
    refine sm_istore_n hO [(2, .int 1), (0, .ref a0_), (1, .ref a1_)] dX7_readCourts_28 rfl (by decide) rfl ?_
    refine sm_iconst (v := 0) hO dX7_readCourts_29 rfl ?_
    refine sm_istore_n hO [(3, .int 0), (2, .int 1), (0, .ref a0_), (1, .ref a1_)] dX7_readCourts_30 rfl (by decide) rfl ?_
    exact sm_sub [2, 3, 1, 0] rfl (tX7_readCourts_31 hO hr hk c_fu a0_ a1_ 1 0)
  · refine sm_aload_n hO 0 dX7_readCourts_7 rfl rfl ?_
    refine sm_iconst (v := 3) hO dX7_readCourts_8 rfl ?_
    refine sm_aload_n hO 0 dX7_readCourts_9 rfl rfl ?_
    refine sm_gi hO fl_RX7_19 dX7_readCourts_10 (fun x3 => ?_)
    refine sm_cvv hO (ctX7_fail l G a0_ (3 : Int32) x3) cw_RX7_50 cv_X7_fail [] rfl rfl ⟨(Nat.le_of_ble_eq_true rfl), (Nat.le_of_ble_eq_true rfl)⟩ ⟨(Nat.le_of_ble_eq_true rfl), (Nat.le_of_ble_eq_true rfl)⟩ (Nat.le_of_ble_eq_true rfl) dX7_readCourts_13 (fun _ => ?_)
    exact sm_vret hO hr hk (Nat.le_of_ble_eq_true rfl) (Nat.le_of_ble_eq_true rfl) dX7_readCourts_16
/-! DollCongress$Text.readEnd()V -/
def pX7_readEnd (a0_ : Nat) : MM Unit := m_cv a0_ 6 (pX7_skipBlanks a0_) (fun _ => m_cv a0_ 6 (pX7_letterHere a0_) (fun x1 => if x1 = (59 : Int32) then (m_gi a0_ 6 4 (fun x2 => m_pv a0_ 6 4 (.int (x2 + 1)) (m_ret ()))) else (m_gi a0_ 6 4 (fun x3 => m_cv a0_ 6 (pX7_fail a0_ (1 : Int32) x3) (fun _ => m_ret ())))))
set_option maxRecDepth 100000 in
set_option maxHeartbeats 4000000 in
theorem ctX7_readEnd (l : Launch) (G : cG) (a0_ : Nat) : Ct l G yX7_readEnd cX7_readEnd 1 none 2 40 0 0 [.ref a0_] c_vv (pX7_readEnd a0_) := by
  refine Ct.of (lv := [(0, .ref a0_)]) (by decide) (Nat.le_of_ble_eq_true rfl) rfl (fun p e s m args below meth c hO hr hk hin => ?_)
  rw [pX7_readEnd]
  refine sm_aload_n hO 0 dX7_readEnd_0 rfl rfl ?_
  refine sm_cvv hO (ctX7_skipBlanks l G a0_) cw_RX7_30 cv_X7_skipBlanks [] rfl rfl ⟨(Nat.le_of_ble_eq_true rfl), (Nat.le_of_ble_eq_true rfl)⟩ ⟨(Nat.le_of_ble_eq_true rfl), (Nat.le_of_ble_eq_true rfl)⟩ (Nat.le_of_ble_eq_true rfl) dX7_readEnd_1 (fun _ => ?_)
  refine sm_aload_n hO 0 dX7_readEnd_4 rfl rfl ?_
  refine sm_cvi hO (ctX7_letterHere l G a0_) cw_RX7_43 cv_X7_letterHere [] rfl rfl ⟨(Nat.le_of_ble_eq_true rfl), (Nat.le_of_ble_eq_true rfl)⟩ ⟨(Nat.le_of_ble_eq_true rfl), (Nat.le_of_ble_eq_true rfl)⟩ (Nat.le_of_ble_eq_true rfl) dX7_readEnd_5 (fun x1 => ?_)
  refine sm_bipush (v := 59) hO dX7_readEnd_8 rfl ?_
  refine sm_icmp_eq (tgt := 23) hO dX7_readEnd_10 (by decide) ?_ ?_
  · refine sm_aload_n hO 0 dX7_readEnd_23 rfl rfl ?_
    refine sm_dup hO dX7_readEnd_24 rfl ?_
    refine sm_gi hO fl_RX7_19 dX7_readEnd_25 (fun x2 => ?_)
    refine sm_iconst (v := 1) hO dX7_readEnd_28 rfl ?_
    refine sm_iadd hO dX7_readEnd_29 ?_
    refine sm_pv hO fl_RX7_19 fp_6_4 rfl rfl dX7_readEnd_30 ?_
    exact sm_vret hO hr hk (Nat.le_of_ble_eq_true rfl) (Nat.le_of_ble_eq_true rfl) dX7_readEnd_33
  · refine sm_aload_n hO 0 dX7_readEnd_13 rfl rfl ?_
    refine sm_iconst (v := 1) hO dX7_readEnd_14 rfl ?_
    refine sm_aload_n hO 0 dX7_readEnd_15 rfl rfl ?_
    refine sm_gi hO fl_RX7_19 dX7_readEnd_16 (fun x3 => ?_)
    refine sm_cvv hO (ctX7_fail l G a0_ (1 : Int32) x3) cw_RX7_50 cv_X7_fail [] rfl rfl ⟨(Nat.le_of_ble_eq_true rfl), (Nat.le_of_ble_eq_true rfl)⟩ ⟨(Nat.le_of_ble_eq_true rfl), (Nat.le_of_ble_eq_true rfl)⟩ (Nat.le_of_ble_eq_true rfl) dX7_readEnd_19 (fun _ => ?_)
    exact sm_vret hO hr hk (Nat.le_of_ble_eq_true rfl) (Nat.le_of_ble_eq_true rfl) dX7_readEnd_22
/-! DollCongress$Roll.addDoll(III)V -/
def pX4_addDoll (a0_ : Nat) (x1_ : Int32) (x2_ : Int32) (x3_ : Int32) : MM Unit := m_gi a0_ 4 6 (fun x1 => if (8 : Int32) ≤ x1 then (m_ret ()) else (m_gr a0_ 4 1 (fun a2 => m_gi a0_ 4 6 (fun x3 => m_si a2 x3 x1_ (m_gr a0_ 4 2 (fun a4 => m_gi a0_ 4 6 (fun x5 => m_si a4 x5 x2_ (m_gr a0_ 4 3 (fun a6 => m_gi a0_ 4 6 (fun x7 => m_si a6 x7 x3_ (m_gi a0_ 4 6 (fun x8 => m_pv a0_ 4 6 (.int (x8 + 1)) (m_ret ())))))))))))))
set_option maxRecDepth 100000 in
set_option maxHeartbeats 4000000 in
theorem ctX4_addDoll (l : Launch) (G : cG) (a0_ : Nat) (x1_ : Int32) (x2_ : Int32) (x3_ : Int32) : Ct l G yX4_addDoll cX4_addDoll 4 none 0 0 0 0 [.ref a0_, .int x1_, .int x2_, .int x3_] c_vv (pX4_addDoll a0_ x1_ x2_ x3_) := by
  refine Ct.of (lv := [(0, .ref a0_), (1, .int x1_), (2, .int x2_), (3, .int x3_)]) (by decide) (Nat.le_of_ble_eq_true rfl) rfl (fun p e s m args below meth c hO hr hk hin => ?_)
  rw [pX4_addDoll]
  refine sm_aload_n hO 0 dX4_addDoll_0 rfl rfl ?_
  refine sm_gi hO fl_RX4_31 dX4_addDoll_1 (fun x1 => ?_)
  refine sm_bipush (v := 8) hO dX4_addDoll_4 rfl ?_
  refine sm_icmp_ge (tgt := 49) hO dX4_addDoll_6 (by decide) ?_ ?_
  · exact sm_vret hO hr hk (Nat.le_of_ble_eq_true rfl) (Nat.le_of_ble_eq_true rfl) dX4_addDoll_49
  · refine sm_aload_n hO 0 dX4_addDoll_9 rfl rfl ?_
    refine sm_gr hO fl_RX4_15 dX4_addDoll_10 (fun a2 => ?_)
    refine sm_aload_n hO 0 dX4_addDoll_13 rfl rfl ?_
    refine sm_gi hO fl_RX4_31 dX4_addDoll_14 (fun x3 => ?_)
    refine sm_iload_n hO 1 dX4_addDoll_17 rfl rfl ?_
    refine sm_si hO dX4_addDoll_18 ?_
    refine sm_aload_n hO 0 dX4_addDoll_19 rfl rfl ?_
    refine sm_gr hO fl_RX4_18 dX4_addDoll_20 (fun a4 => ?_)
    refine sm_aload_n hO 0 dX4_addDoll_23 rfl rfl ?_
    refine sm_gi hO fl_RX4_31 dX4_addDoll_24 (fun x5 => ?_)
    refine sm_iload_n hO 2 dX4_addDoll_27 rfl rfl ?_
    refine sm_si hO dX4_addDoll_28 ?_
    refine sm_aload_n hO 0 dX4_addDoll_29 rfl rfl ?_
    refine sm_gr hO fl_RX4_21 dX4_addDoll_30 (fun a6 => ?_)
    refine sm_aload_n hO 0 dX4_addDoll_33 rfl rfl ?_
    refine sm_gi hO fl_RX4_31 dX4_addDoll_34 (fun x7 => ?_)
    refine sm_iload_n hO 3 dX4_addDoll_37 rfl rfl ?_
    refine sm_si hO dX4_addDoll_38 ?_
    refine sm_aload_n hO 0 dX4_addDoll_39 rfl rfl ?_
    refine sm_dup hO dX4_addDoll_40 rfl ?_
    refine sm_gi hO fl_RX4_31 dX4_addDoll_41 (fun x8 => ?_)
    refine sm_iconst (v := 1) hO dX4_addDoll_44 rfl ?_
    refine sm_iadd hO dX4_addDoll_45 ?_
    refine sm_pv hO fl_RX4_31 fp_4_6 rfl rfl dX4_addDoll_46 ?_
    exact sm_vret hO hr hk (Nat.le_of_ble_eq_true rfl) (Nat.le_of_ble_eq_true rfl) dX4_addDoll_49
/-! DollCongress$Text.readDoll(LDollCongress$Roll;)V -/
def pX7_readDoll (a0_ : Nat) (a1_ : Nat) : MM Unit := m_gi a1_ 4 6 (fun x1 => if x1 < (8 : Int32) then (m_gi a0_ 6 4 (fun x2 => m_pv a0_ 6 4 (.int (x2 + 1)) (m_cv a0_ 6 (pX7_readNumber a0_ (0 : Int32) (3 : Int32)) (fun x3 => m_gi a1_ 4 5 (fun x4 => m_cv a0_ 6 (pX7_readNumber a0_ (0 : Int32) (x4 - 1)) (fun x5 => m_cv a0_ 6 (pX7_readNumber a0_ (0 : Int32) (63 : Int32)) (fun x6 => m_cv a0_ 6 (pX7_readEnd a0_) (fun _ => m_gi a0_ 6 2 (fun x7 => if x7 = 0 then (m_cv a1_ 4 (pX4_addDoll a1_ x3 x5 x6) (fun _ => m_ret ())) else (m_ret ())))))))))) else (m_gi a0_ 6 4 (fun x8 => m_cv a0_ 6 (pX7_fail a0_ (3 : Int32) x8) (fun _ => m_ret ()))))
set_option maxRecDepth 100000 in
set_option maxHeartbeats 4000000 in
theorem ctX7_readDoll (l : Launch) (G : cG) (a0_ : Nat) (a1_ : Nat) : Ct l G yX7_readDoll cX7_readDoll 5 none 3 64 0 0 [.ref a0_, .ref a1_] c_vv (pX7_readDoll a0_ a1_) := by
  refine Ct.of (lv := [(0, .ref a0_), (1, .ref a1_)]) (by decide) (Nat.le_of_ble_eq_true rfl) rfl (fun p e s m args below meth c hO hr hk hin => ?_)
  rw [pX7_readDoll]
  refine sm_aload_n hO 1 dX7_readDoll_0 rfl rfl ?_
  refine sm_gi hO fl_RX7_78 dX7_readDoll_1 (fun x1 => ?_)
  refine sm_bipush (v := 8) hO dX7_readDoll_4 rfl ?_
  refine sm_icmp_lt (tgt := 19) hO dX7_readDoll_6 (by decide) ?_ ?_
  · refine sm_aload_n hO 0 dX7_readDoll_19 rfl rfl ?_
    refine sm_dup hO dX7_readDoll_20 rfl ?_
    refine sm_gi hO fl_RX7_19 dX7_readDoll_21 (fun x2 => ?_)
    refine sm_iconst (v := 1) hO dX7_readDoll_24 rfl ?_
    refine sm_iadd hO dX7_readDoll_25 ?_
    refine sm_pv hO fl_RX7_19 fp_6_4 rfl rfl dX7_readDoll_26 ?_
    refine sm_aload_n hO 0 dX7_readDoll_29 rfl rfl ?_
    refine sm_iconst (v := 0) hO dX7_readDoll_30 rfl ?_
    refine sm_iconst (v := 3) hO dX7_readDoll_31 rfl ?_
    refine sm_cvi hO (ctX7_readNumber l G a0_ (0 : Int32) (3 : Int32)) cw_RX7_66 cv_X7_readNumber [] rfl rfl ⟨(Nat.le_of_ble_eq_true rfl), (Nat.le_of_ble_eq_true rfl)⟩ ⟨(Nat.le_of_ble_eq_true rfl), (Nat.le_of_ble_eq_true rfl)⟩ (Nat.le_of_ble_eq_true rfl) dX7_readDoll_32 (fun x3 => ?_)
    refine sm_istore_n hO [(2, .int x3), (0, .ref a0_), (1, .ref a1_)] dX7_readDoll_35 rfl (by decide) rfl ?_
    refine sm_aload_n hO 1 dX7_readDoll_36 rfl rfl ?_
    refine sm_iconst (v := 0) hO dX7_readDoll_37 rfl ?_
    refine sm_aload_n hO 2 dX7_readDoll_38 rfl rfl ?_
    refine sm_gi hO fl_RX7_47 dX7_readDoll_39 (fun x4 => ?_)
    refine sm_iconst (v := 1) hO dX7_readDoll_42 rfl ?_
    refine sm_isub hO dX7_readDoll_43 ?_
    refine sm_cvi hO (ctX7_readNumber l G a0_ (0 : Int32) (x4 - 1)) cw_RX7_66 cv_X7_readNumber [] rfl rfl ⟨(Nat.le_of_ble_eq_true rfl), (Nat.le_of_ble_eq_true rfl)⟩ ⟨(Nat.le_of_ble_eq_true rfl), (Nat.le_of_ble_eq_true rfl)⟩ (Nat.le_of_ble_eq_true rfl) dX7_readDoll_44 (fun x5 => ?_)
    refine sm_istore_n hO [(3, .int x5), (2, .int x3), (0, .ref a0_), (1, .ref a1_)] dX7_readDoll_47 rfl (by decide) rfl ?_
    refine sm_aload_n hO 2 dX7_readDoll_48 rfl rfl ?_
    refine sm_iconst (v := 0) hO dX7_readDoll_49 rfl ?_
    refine sm_bipush (v := 63) hO dX7_readDoll_50 rfl ?_
    refine sm_cvi hO (ctX7_readNumber l G a0_ (0 : Int32) (63 : Int32)) cw_RX7_66 cv_X7_readNumber [] rfl rfl ⟨(Nat.le_of_ble_eq_true rfl), (Nat.le_of_ble_eq_true rfl)⟩ ⟨(Nat.le_of_ble_eq_true rfl), (Nat.le_of_ble_eq_true rfl)⟩ (Nat.le_of_ble_eq_true rfl) dX7_readDoll_52 (fun x6 => ?_)
    refine sm_istore hO [(4, .int x6), (3, .int x5), (2, .int x3), (0, .ref a0_), (1, .ref a1_)] dX7_readDoll_55 (by decide) rfl ?_
    refine sm_aload_n hO 3 dX7_readDoll_57 rfl rfl ?_
    refine sm_cvv hO (ctX7_readEnd l G a0_) cw_RX7_81 cv_X7_readEnd [] rfl rfl ⟨(Nat.le_of_ble_eq_true rfl), (Nat.le_of_ble_eq_true rfl)⟩ ⟨(Nat.le_of_ble_eq_true rfl), (Nat.le_of_ble_eq_true rfl)⟩ (Nat.le_of_ble_eq_true rfl) dX7_readDoll_58 (fun _ => ?_)
    refine sm_aload_n hO 3 dX7_readDoll_61 rfl rfl ?_
    refine sm_gi hO fl_RX7_22 dX7_readDoll_62 (fun x7 => ?_)
    refine sm_if_ne (tgt := 76) hO dX7_readDoll_65 (by decide) ?_ ?_
    · exact sm_vret hO hr hk (Nat.le_of_ble_eq_true rfl) (Nat.le_of_ble_eq_true rfl) dX7_readDoll_76
    · refine sm_aload_n hO 4 dX7_readDoll_68 rfl rfl ?_
      refine sm_iload_n hO 2 dX7_readDoll_69 rfl rfl ?_
      refine sm_iload_n hO 1 dX7_readDoll_70 rfl rfl ?_
      refine sm_iload hO 0 dX7_readDoll_71 rfl ?_
      refine sm_cvv hO (ctX4_addDoll l G a1_ x3 x5 x6) cw_RX7_84 cv_X4_addDoll [] rfl rfl ⟨(Nat.le_of_ble_eq_true rfl), (Nat.le_of_ble_eq_true rfl)⟩ ⟨(Nat.le_of_ble_eq_true rfl), (Nat.le_of_ble_eq_true rfl)⟩ (Nat.le_of_ble_eq_true rfl) dX7_readDoll_73 (fun _ => ?_)
      exact sm_vret hO hr hk (Nat.le_of_ble_eq_true rfl) (Nat.le_of_ble_eq_true rfl) dX7_readDoll_76
  · refine sm_aload_n hO 0 dX7_readDoll_9 rfl rfl ?_
    refine sm_iconst (v := 3) hO dX7_readDoll_10 rfl ?_
    refine sm_aload_n hO 0 dX7_readDoll_11 rfl rfl ?_
    refine sm_gi hO fl_RX7_19 dX7_readDoll_12 (fun x8 => ?_)
    refine sm_cvv hO (ctX7_fail l G a0_ (3 : Int32) x8) cw_RX7_50 cv_X7_fail [] rfl rfl ⟨(Nat.le_of_ble_eq_true rfl), (Nat.le_of_ble_eq_true rfl)⟩ ⟨(Nat.le_of_ble_eq_true rfl), (Nat.le_of_ble_eq_true rfl)⟩ (Nat.le_of_ble_eq_true rfl) dX7_readDoll_15 (fun _ => ?_)
    exact sm_vret hO hr hk (Nat.le_of_ble_eq_true rfl) (Nat.le_of_ble_eq_true rfl) dX7_readDoll_18
/-! DollCongress$Text.readPattern(LDollCongress$Roll;)V -/
def pX7_readPattern (a0_ : Nat) (a1_ : Nat) : MM Unit := m_gi a1_ 4 9 (fun x1 => if x1 = 0 then (m_gi a0_ 6 4 (fun x2 => m_pv a0_ 6 4 (.int (x2 + 1)) (m_cv a0_ 6 (pX7_readNumber a0_ (0 : Int32) (63 : Int32)) (fun x3 => m_pv a1_ 4 7 (.int x3) (m_pv a1_ 4 9 (.int 1) (m_cv a0_ 6 (pX7_readEnd a0_) (fun _ => m_ret ()))))))) else (m_gi a0_ 6 4 (fun x4 => m_cv a0_ 6 (pX7_fail a0_ (3 : Int32) x4) (fun _ => m_ret ()))))
set_option maxRecDepth 100000 in
set_option maxHeartbeats 4000000 in
theorem ctX7_readPattern (l : Launch) (G : cG) (a0_ : Nat) (a1_ : Nat) : Ct l G yX7_readPattern cX7_readPattern 2 none 3 64 0 0 [.ref a0_, .ref a1_] c_vv (pX7_readPattern a0_ a1_) := by
  refine Ct.of (lv := [(0, .ref a0_), (1, .ref a1_)]) (by decide) (Nat.le_of_ble_eq_true rfl) rfl (fun p e s m args below meth c hO hr hk hin => ?_)
  rw [pX7_readPattern]
  refine sm_aload_n hO 1 dX7_readPattern_0 rfl rfl ?_
  refine sm_gi hO fl_RX7_88 dX7_readPattern_1 (fun x1 => ?_)
  refine sm_if_eq (tgt := 17) hO dX7_readPattern_4 (by decide) ?_ ?_
  · refine sm_aload_n hO 0 dX7_readPattern_17 rfl rfl ?_
    refine sm_dup hO dX7_readPattern_18 rfl ?_
    refine sm_gi hO fl_RX7_19 dX7_readPattern_19 (fun x2 => ?_)
    refine sm_iconst (v := 1) hO dX7_readPattern_22 rfl ?_
    refine sm_iadd hO dX7_readPattern_23 ?_
    refine sm_pv hO fl_RX7_19 fp_6_4 rfl rfl dX7_readPattern_24 ?_
    refine sm_aload_n hO 1 dX7_readPattern_27 rfl rfl ?_
    refine sm_aload_n hO 0 dX7_readPattern_28 rfl rfl ?_
    refine sm_iconst (v := 0) hO dX7_readPattern_29 rfl ?_
    refine sm_bipush (v := 63) hO dX7_readPattern_30 rfl ?_
    refine sm_cvi hO (ctX7_readNumber l G a0_ (0 : Int32) (63 : Int32)) cw_RX7_66 cv_X7_readNumber [.ref a1_] rfl rfl ⟨(Nat.le_of_ble_eq_true rfl), (Nat.le_of_ble_eq_true rfl)⟩ ⟨(Nat.le_of_ble_eq_true rfl), (Nat.le_of_ble_eq_true rfl)⟩ (Nat.le_of_ble_eq_true rfl) dX7_readPattern_32 (fun x3 => ?_)
    refine sm_pv hO fl_RX7_92 fp_4_7 rfl rfl dX7_readPattern_35 ?_
    refine sm_aload_n hO 1 dX7_readPattern_38 rfl rfl ?_
    refine sm_iconst (v := 1) hO dX7_readPattern_39 rfl ?_
    refine sm_pv hO fl_RX7_88 fp_4_9 rfl rfl dX7_readPattern_40 ?_
    refine sm_aload_n hO 0 dX7_readPattern_43 rfl rfl ?_
    refine sm_cvv hO (ctX7_readEnd l G a0_) cw_RX7_81 cv_X7_readEnd [] rfl rfl ⟨(Nat.le_of_ble_eq_true rfl), (Nat.le_of_ble_eq_true rfl)⟩ ⟨(Nat.le_of_ble_eq_true rfl), (Nat.le_of_ble_eq_true rfl)⟩ (Nat.le_of_ble_eq_true rfl) dX7_readPattern_44 (fun _ => ?_)
    exact sm_vret hO hr hk (Nat.le_of_ble_eq_true rfl) (Nat.le_of_ble_eq_true rfl) dX7_readPattern_47
  · refine sm_aload_n hO 0 dX7_readPattern_7 rfl rfl ?_
    refine sm_iconst (v := 3) hO dX7_readPattern_8 rfl ?_
    refine sm_aload_n hO 0 dX7_readPattern_9 rfl rfl ?_
    refine sm_gi hO fl_RX7_19 dX7_readPattern_10 (fun x4 => ?_)
    refine sm_cvv hO (ctX7_fail l G a0_ (3 : Int32) x4) cw_RX7_50 cv_X7_fail [] rfl rfl ⟨(Nat.le_of_ble_eq_true rfl), (Nat.le_of_ble_eq_true rfl)⟩ ⟨(Nat.le_of_ble_eq_true rfl), (Nat.le_of_ble_eq_true rfl)⟩ (Nat.le_of_ble_eq_true rfl) dX7_readPattern_13 (fun _ => ?_)
    exact sm_vret hO hr hk (Nat.le_of_ble_eq_true rfl) (Nat.le_of_ble_eq_true rfl) dX7_readPattern_16
/-! DollCongress$Text.readQuota(LDollCongress$Roll;)V -/
def pX7_readQuota (a0_ : Nat) (a1_ : Nat) : MM Unit := m_gi a1_ 4 10 (fun x1 => if x1 = 0 then (m_gi a0_ 6 4 (fun x2 => m_pv a0_ 6 4 (.int (x2 + 1)) (m_cv a0_ 6 (pX7_readNumber a0_ (1 : Int32) (63 : Int32)) (fun x3 => m_pv a1_ 4 8 (.int x3) (m_pv a1_ 4 10 (.int 1) (m_cv a0_ 6 (pX7_readEnd a0_) (fun _ => m_ret ()))))))) else (m_gi a0_ 6 4 (fun x4 => m_cv a0_ 6 (pX7_fail a0_ (3 : Int32) x4) (fun _ => m_ret ()))))
set_option maxRecDepth 100000 in
set_option maxHeartbeats 4000000 in
theorem ctX7_readQuota (l : Launch) (G : cG) (a0_ : Nat) (a1_ : Nat) : Ct l G yX7_readQuota cX7_readQuota 2 none 3 64 0 0 [.ref a0_, .ref a1_] c_vv (pX7_readQuota a0_ a1_) := by
  refine Ct.of (lv := [(0, .ref a0_), (1, .ref a1_)]) (by decide) (Nat.le_of_ble_eq_true rfl) rfl (fun p e s m args below meth c hO hr hk hin => ?_)
  rw [pX7_readQuota]
  refine sm_aload_n hO 1 dX7_readQuota_0 rfl rfl ?_
  refine sm_gi hO fl_RX7_95 dX7_readQuota_1 (fun x1 => ?_)
  refine sm_if_eq (tgt := 17) hO dX7_readQuota_4 (by decide) ?_ ?_
  · refine sm_aload_n hO 0 dX7_readQuota_17 rfl rfl ?_
    refine sm_dup hO dX7_readQuota_18 rfl ?_
    refine sm_gi hO fl_RX7_19 dX7_readQuota_19 (fun x2 => ?_)
    refine sm_iconst (v := 1) hO dX7_readQuota_22 rfl ?_
    refine sm_iadd hO dX7_readQuota_23 ?_
    refine sm_pv hO fl_RX7_19 fp_6_4 rfl rfl dX7_readQuota_24 ?_
    refine sm_aload_n hO 1 dX7_readQuota_27 rfl rfl ?_
    refine sm_aload_n hO 0 dX7_readQuota_28 rfl rfl ?_
    refine sm_iconst (v := 1) hO dX7_readQuota_29 rfl ?_
    refine sm_bipush (v := 63) hO dX7_readQuota_30 rfl ?_
    refine sm_cvi hO (ctX7_readNumber l G a0_ (1 : Int32) (63 : Int32)) cw_RX7_66 cv_X7_readNumber [.ref a1_] rfl rfl ⟨(Nat.le_of_ble_eq_true rfl), (Nat.le_of_ble_eq_true rfl)⟩ ⟨(Nat.le_of_ble_eq_true rfl), (Nat.le_of_ble_eq_true rfl)⟩ (Nat.le_of_ble_eq_true rfl) dX7_readQuota_32 (fun x3 => ?_)
    refine sm_pv hO fl_RX7_98 fp_4_8 rfl rfl dX7_readQuota_35 ?_
    refine sm_aload_n hO 1 dX7_readQuota_38 rfl rfl ?_
    refine sm_iconst (v := 1) hO dX7_readQuota_39 rfl ?_
    refine sm_pv hO fl_RX7_95 fp_4_10 rfl rfl dX7_readQuota_40 ?_
    refine sm_aload_n hO 0 dX7_readQuota_43 rfl rfl ?_
    refine sm_cvv hO (ctX7_readEnd l G a0_) cw_RX7_81 cv_X7_readEnd [] rfl rfl ⟨(Nat.le_of_ble_eq_true rfl), (Nat.le_of_ble_eq_true rfl)⟩ ⟨(Nat.le_of_ble_eq_true rfl), (Nat.le_of_ble_eq_true rfl)⟩ (Nat.le_of_ble_eq_true rfl) dX7_readQuota_44 (fun _ => ?_)
    exact sm_vret hO hr hk (Nat.le_of_ble_eq_true rfl) (Nat.le_of_ble_eq_true rfl) dX7_readQuota_47
  · refine sm_aload_n hO 0 dX7_readQuota_7 rfl rfl ?_
    refine sm_iconst (v := 3) hO dX7_readQuota_8 rfl ?_
    refine sm_aload_n hO 0 dX7_readQuota_9 rfl rfl ?_
    refine sm_gi hO fl_RX7_19 dX7_readQuota_10 (fun x4 => ?_)
    refine sm_cvv hO (ctX7_fail l G a0_ (3 : Int32) x4) cw_RX7_50 cv_X7_fail [] rfl rfl ⟨(Nat.le_of_ble_eq_true rfl), (Nat.le_of_ble_eq_true rfl)⟩ ⟨(Nat.le_of_ble_eq_true rfl), (Nat.le_of_ble_eq_true rfl)⟩ (Nat.le_of_ble_eq_true rfl) dX7_readQuota_13 (fun _ => ?_)
    exact sm_vret hO hr hk (Nat.le_of_ble_eq_true rfl) (Nat.le_of_ble_eq_true rfl) dX7_readQuota_16
/-! DollCongress$Text.readClause(LDollCongress$Roll;)V -/
def fX7_readClause_28  (aL0 : Nat) (aL1 : Nat) (xL2 : Int32) : MM Unit := if xL2 = 99 then (m_cv aL0 6 (pX7_readCourts aL0 aL1) (fun _ => m_ret ())) else (if xL2 = 100 then (m_cv aL0 6 (pX7_readDoll aL0 aL1) (fun _ => m_ret ())) else (if xL2 = 113 then (m_cv aL0 6 (pX7_readQuota aL0 aL1) (fun _ => m_ret ())) else (if xL2 = 115 then (m_cv aL0 6 (pX7_readPattern aL0 aL1) (fun _ => m_ret ())) else (m_gi aL0 6 4 (fun x1 => m_cv aL0 6 (pX7_fail aL0 (1 : Int32) x1) (fun _ => m_ret ()))))))
def pX7_readClause (a0_ : Nat) (a1_ : Nat) : MM Unit := m_cv a0_ 6 (pX7_letterHere a0_) (fun x1 => if x1 = (99 : Int32) then (fX7_readClause_28 a0_ a1_ x1) else (m_gi a1_ 4 5 (fun x2 => if x2 = 0 then (m_gi a0_ 6 4 (fun x3 => m_cv a0_ 6 (pX7_fail a0_ (1 : Int32) x3) (fun _ => m_ret ()))) else (fX7_readClause_28 a0_ a1_ x1))))
set_option maxRecDepth 100000 in
set_option maxHeartbeats 4000000 in
theorem tX7_readClause_28 {p : Program} {l : Launch} {e : Env} {s : State} {m : MethodId} {args : Array Value} {below : List Frame} {meth : Method} {c : Code} {G : cG} (hO : c_Ok p s m c cX7_readClause 3 RX7 G) (hr : meth.sig.returnType = none) (hk : meth.locks = false) : ∀ (aL0 : Nat) (aL1 : Nat) (xL2 : Int32), Sm p l e { frames := 4, cells := 0, slots := 0, locals := 88 } s m args below meth c G 3 (c_Q G c_vv below args s 0 0) 0 0 28 [(0, .ref aL0), (1, .ref aL1), (2, .int xL2)] [] (fX7_readClause_28 aL0 aL1 xL2) := by
  intro aL0 aL1 xL2
  rw [fX7_readClause_28]
  refine sm_iload_n hO 2 dX7_readClause_28 rfl rfl ?_
  refine sm_ite (fun q29_99 => ?_) (fun q29_99 => ?_)
  · refine sm_lookup (tgt := 72) hO dX7_readClause_29 (by decide) (by rw [q29_99]) (by decide) ?_
    refine sm_aload_n hO 0 dX7_readClause_72 rfl rfl ?_
    refine sm_aload_n hO 1 dX7_readClause_73 rfl rfl ?_
    refine sm_cvv hO (ctX7_readCourts l G aL0 aL1) cw_RX7_54 cv_X7_readCourts [] rfl rfl ⟨(Nat.le_of_ble_eq_true rfl), (Nat.le_of_ble_eq_true rfl)⟩ ⟨(Nat.le_of_ble_eq_true rfl), (Nat.le_of_ble_eq_true rfl)⟩ (Nat.le_of_ble_eq_true rfl) dX7_readClause_74 (fun _ => ?_)
    refine sm_goto (tgt := 113) hO dX7_readClause_77 (by decide) ?_
    exact sm_vret hO hr hk (Nat.le_of_ble_eq_true rfl) (Nat.le_of_ble_eq_true rfl) dX7_readClause_113
  · refine sm_ite (fun q29_100 => ?_) (fun q29_100 => ?_)
    · refine sm_lookup (tgt := 80) hO dX7_readClause_29 (by decide) (by rw [q29_100]) (by decide) ?_
      refine sm_aload_n hO 0 dX7_readClause_80 rfl rfl ?_
      refine sm_aload_n hO 1 dX7_readClause_81 rfl rfl ?_
      refine sm_cvv hO (ctX7_readDoll l G aL0 aL1) cw_RX7_57 cv_X7_readDoll [] rfl rfl ⟨(Nat.le_of_ble_eq_true rfl), (Nat.le_of_ble_eq_true rfl)⟩ ⟨(Nat.le_of_ble_eq_true rfl), (Nat.le_of_ble_eq_true rfl)⟩ (Nat.le_of_ble_eq_true rfl) dX7_readClause_82 (fun _ => ?_)
      refine sm_goto (tgt := 113) hO dX7_readClause_85 (by decide) ?_
      exact sm_vret hO hr hk (Nat.le_of_ble_eq_true rfl) (Nat.le_of_ble_eq_true rfl) dX7_readClause_113
    · refine sm_ite (fun q29_113 => ?_) (fun q29_113 => ?_)
      · refine sm_lookup (tgt := 96) hO dX7_readClause_29 (by decide) (by rw [q29_113]) (by decide) ?_
        refine sm_aload_n hO 0 dX7_readClause_96 rfl rfl ?_
        refine sm_aload_n hO 1 dX7_readClause_97 rfl rfl ?_
        refine sm_cvv hO (ctX7_readQuota l G aL0 aL1) cw_RX7_63 cv_X7_readQuota [] rfl rfl ⟨(Nat.le_of_ble_eq_true rfl), (Nat.le_of_ble_eq_true rfl)⟩ ⟨(Nat.le_of_ble_eq_true rfl), (Nat.le_of_ble_eq_true rfl)⟩ (Nat.le_of_ble_eq_true rfl) dX7_readClause_98 (fun _ => ?_)
        refine sm_goto (tgt := 113) hO dX7_readClause_101 (by decide) ?_
        exact sm_vret hO hr hk (Nat.le_of_ble_eq_true rfl) (Nat.le_of_ble_eq_true rfl) dX7_readClause_113
      · refine sm_ite (fun q29_115 => ?_) (fun q29_115 => ?_)
        · refine sm_lookup (tgt := 88) hO dX7_readClause_29 (by decide) (by rw [q29_115]) (by decide) ?_
          refine sm_aload_n hO 0 dX7_readClause_88 rfl rfl ?_
          refine sm_aload_n hO 1 dX7_readClause_89 rfl rfl ?_
          refine sm_cvv hO (ctX7_readPattern l G aL0 aL1) cw_RX7_60 cv_X7_readPattern [] rfl rfl ⟨(Nat.le_of_ble_eq_true rfl), (Nat.le_of_ble_eq_true rfl)⟩ ⟨(Nat.le_of_ble_eq_true rfl), (Nat.le_of_ble_eq_true rfl)⟩ (Nat.le_of_ble_eq_true rfl) dX7_readClause_90 (fun _ => ?_)
          refine sm_goto (tgt := 113) hO dX7_readClause_93 (by decide) ?_
          exact sm_vret hO hr hk (Nat.le_of_ble_eq_true rfl) (Nat.le_of_ble_eq_true rfl) dX7_readClause_113
        · refine sm_lookup (off := 75) (tgt := 104) hO dX7_readClause_29 (by decide) ((lv_osw (a := 99) q29_99 rfl).trans ((lv_osw (a := 100) q29_100 rfl).trans ((lv_osw (a := 113) q29_113 rfl).trans ((lv_osw (a := 115) q29_115 rfl).trans rfl)))) (by decide) ?_
          refine sm_aload_n hO 0 dX7_readClause_104 rfl rfl ?_
          refine sm_iconst (v := 1) hO dX7_readClause_105 rfl ?_
          refine sm_aload_n hO 0 dX7_readClause_106 rfl rfl ?_
          refine sm_gi hO fl_RX7_19 dX7_readClause_107 (fun x1 => ?_)
          refine sm_cvv hO (ctX7_fail l G aL0 (1 : Int32) x1) cw_RX7_50 cv_X7_fail [] rfl rfl ⟨(Nat.le_of_ble_eq_true rfl), (Nat.le_of_ble_eq_true rfl)⟩ ⟨(Nat.le_of_ble_eq_true rfl), (Nat.le_of_ble_eq_true rfl)⟩ (Nat.le_of_ble_eq_true rfl) dX7_readClause_110 (fun _ => ?_)
          exact sm_vret hO hr hk (Nat.le_of_ble_eq_true rfl) (Nat.le_of_ble_eq_true rfl) dX7_readClause_113
set_option maxRecDepth 100000 in
set_option maxHeartbeats 4000000 in
theorem ctX7_readClause (l : Launch) (G : cG) (a0_ : Nat) (a1_ : Nat) : Ct l G yX7_readClause cX7_readClause 3 none 4 88 0 0 [.ref a0_, .ref a1_] c_vv (pX7_readClause a0_ a1_) := by
  refine Ct.of (lv := [(0, .ref a0_), (1, .ref a1_)]) (by decide) (Nat.le_of_ble_eq_true rfl) rfl (fun p e s m args below meth c hO hr hk hin => ?_)
  rw [pX7_readClause]
  refine sm_aload_n hO 0 dX7_readClause_0 rfl rfl ?_
  refine sm_cvi hO (ctX7_letterHere l G a0_) cw_RX7_43 cv_X7_letterHere [] rfl rfl ⟨(Nat.le_of_ble_eq_true rfl), (Nat.le_of_ble_eq_true rfl)⟩ ⟨(Nat.le_of_ble_eq_true rfl), (Nat.le_of_ble_eq_true rfl)⟩ (Nat.le_of_ble_eq_true rfl) dX7_readClause_1 (fun x1 => ?_)
  refine sm_istore_n hO [(2, .int x1), (0, .ref a0_), (1, .ref a1_)] dX7_readClause_4 rfl (by decide) rfl ?_
  refine sm_iload_n hO 0 dX7_readClause_5 rfl rfl ?_
  refine sm_bipush (v := 99) hO dX7_readClause_6 rfl ?_
  refine sm_icmp_eq (tgt := 28) hO dX7_readClause_8 (by decide) ?_ ?_
  · exact sm_sub [1, 2, 0] rfl (tX7_readClause_28 hO hr hk a0_ a1_ x1)
  · refine sm_aload_n hO 2 dX7_readClause_11 rfl rfl ?_
    refine sm_gi hO fl_RX7_47 dX7_readClause_12 (fun x2 => ?_)
    refine sm_if_ne (tgt := 28) hO dX7_readClause_15 (by decide) ?_ ?_
    · exact sm_sub [1, 2, 0] rfl (tX7_readClause_28 hO hr hk a0_ a1_ x1)
    · refine sm_aload_n hO 1 dX7_readClause_18 rfl rfl ?_
      refine sm_iconst (v := 1) hO dX7_readClause_19 rfl ?_
      refine sm_aload_n hO 1 dX7_readClause_20 rfl rfl ?_
      refine sm_gi hO fl_RX7_19 dX7_readClause_21 (fun x3 => ?_)
      refine sm_cvv hO (ctX7_fail l G a0_ (1 : Int32) x3) cw_RX7_50 cv_X7_fail [] rfl rfl ⟨(Nat.le_of_ble_eq_true rfl), (Nat.le_of_ble_eq_true rfl)⟩ ⟨(Nat.le_of_ble_eq_true rfl), (Nat.le_of_ble_eq_true rfl)⟩ (Nat.le_of_ble_eq_true rfl) dX7_readClause_24 (fun _ => ?_)
      exact sm_vret hO hr hk (Nat.le_of_ble_eq_true rfl) (Nat.le_of_ble_eq_true rfl) dX7_readClause_27
/-! DollCongress$Roll.allCourts()I -/
def pX4_allCourts (a0_ : Nat) : MM Int32 := m_gi a0_ 4 5 (fun x1 => m_ret (((1 : Int32) <<< (x1 &&& 31)) - 1))
set_option maxRecDepth 100000 in
set_option maxHeartbeats 4000000 in
theorem ctX4_allCourts (l : Launch) (G : cG) (a0_ : Nat) : Ct l G yX4_allCourts cX4_allCourts 1 (some .int) 0 0 0 0 [.ref a0_] c_vi (pX4_allCourts a0_) := by
  refine Ct.of (lv := [(0, .ref a0_)]) (by decide) (Nat.le_of_ble_eq_true rfl) rfl (fun p e s m args below meth c hO hr hk hin => ?_)
  rw [pX4_allCourts]
  refine sm_iconst (v := 1) hO dX4_allCourts_0 rfl ?_
  refine sm_aload_n hO 0 dX4_allCourts_1 rfl rfl ?_
  refine sm_gi hO fl_RX4_27 dX4_allCourts_2 (fun x1 => ?_)
  refine sm_ishl hO dX4_allCourts_5 ?_
  refine sm_iconst (v := 1) hO dX4_allCourts_6 rfl ?_
  refine sm_isub hO dX4_allCourts_7 ?_
  exact sm_iret hO hr hk (Nat.le_of_ble_eq_true rfl) (Nat.le_of_ble_eq_true rfl) dX4_allCourts_8
/-! DollCongress$Roll.settle()V -/
def fX4_settle_23 (k55 : Nat → Int32 → MM Unit) : Nat → Nat → Int32 → Int32 → Int32 → MM Unit
  | 0, _, _, _, _ => m_bad
  | n + 1, aL0, xL1, xL2, xL3 => if xL2 ≤ xL3 then (k55 aL0 xL1) else (m_gr aL0 4 4 (fun a1 => m_gr aL0 4 4 (fun a2 => m_li 0 a2 xL3 (fun x3 => m_gr aL0 4 0 (fun a4 => m_li 0 a4 xL1 (fun x5 => m_si a1 (xL3 ||| xL2) (x3 + x5) (m_let (xL3 + 1) (fun x6 => fX4_settle_23 k55 n aL0 xL1 xL2 x6))))))))
def fX4_settle_55 (k9 : Nat → Int32 → MM Unit) (aL0 : Nat) (xL1 : Int32) : MM Unit := m_let (xL1 + 1) (fun x1 => k9 aL0 x1)
def fX4_settle_9 (k61 : Nat → MM Unit) : Nat → Nat → Int32 → MM Unit
  | 0, _, _ => m_bad
  | n + 1, aL0, xL1 => m_gi aL0 4 5 (fun x1 => if x1 ≤ xL1 then (k61 aL0) else (m_let ((1 : Int32) <<< (xL1 &&& 31)) (fun x2 => fX4_settle_23 (fX4_settle_55 (fX4_settle_9 k61 n)) c_fu aL0 xL1 x2 0)))
def fX4_settle_61  (aL0 : Nat) : MM Unit := m_gi aL0 4 5 (fun x1 => if x1 ≤ 0 then (m_ret ()) else (m_gi aL0 4 10 (fun x2 => if x2 = 0 then (m_gr aL0 4 4 (fun a3 => m_cv aL0 4 (pX4_allCourts aL0) (fun x4 => m_li 0 a3 x4 (fun x5 => m_nz (2 : Int32) (m_pv aL0 4 8 (.int ((x5 / 2) + 1)) (m_ret ())))))) else (m_ret ()))))
def pX4_settle (a0_ : Nat) : MM Unit := m_gr a0_ 4 4 (fun a1 => m_si a1 (0 : Int32) (0 : Int32) (fX4_settle_9 fX4_settle_61 c_fu a0_ 0))
set_option maxRecDepth 100000 in
set_option maxHeartbeats 4000000 in
theorem tX4_settle_23 {p : Program} {l : Launch} {e : Env} {s : State} {m : MethodId} {args : Array Value} {below : List Frame} {meth : Method} {c : Code} {G : cG} (hO : c_Ok p s m c cX4_settle 4 RX4 G) (hr : meth.sig.returnType = none) (hk : meth.locks = false) (k55 : Nat → Int32 → MM Unit) (hk55 : ∀ (aL0 : Nat) (xL1 : Int32), Sm p l e { frames := 1, cells := 0, slots := 0, locals := 20 } s m args below meth c G 4 (c_Q G c_vv below args s 0 0) 0 0 55 [(0, .ref aL0), (1, .int xL1)] [] (k55 aL0 xL1))  : ∀ (n : Nat) (aL0 : Nat) (xL1 : Int32) (xL2 : Int32) (xL3 : Int32), Sm p l e { frames := 1, cells := 0, slots := 0, locals := 20 } s m args below meth c G 4 (c_Q G c_vv below args s 0 0) 0 0 23 [(0, .ref aL0), (1, .int xL1), (2, .int xL2), (3, .int xL3)] [] (fX4_settle_23 k55 n aL0 xL1 xL2 xL3) := by
  intro n
  induction n with
  | zero =>
    intro aL0 xL1 xL2 xL3
    exact sm_bad
  | succ n ih =>
    intro aL0 xL1 xL2 xL3
    rw [fX4_settle_23]
    refine sm_iload_n hO 3 dX4_settle_23 rfl rfl ?_
    refine sm_iload_n hO 2 dX4_settle_24 rfl rfl ?_
    refine sm_icmp_ge (tgt := 55) hO dX4_settle_25 (by decide) ?_ ?_
    · exact sm_sub [0, 1] rfl (hk55 aL0 xL1)
    · refine sm_aload_n hO 0 dX4_settle_28 rfl rfl ?_
      refine sm_gr hO fl_RX4_24 dX4_settle_29 (fun a1 => ?_)
      refine sm_iload_n hO 3 dX4_settle_32 rfl rfl ?_
      refine sm_iload_n hO 2 dX4_settle_33 rfl rfl ?_
      refine sm_ior hO dX4_settle_34 ?_
      refine sm_aload_n hO 0 dX4_settle_35 rfl rfl ?_
      refine sm_gr hO fl_RX4_24 dX4_settle_36 (fun a2 => ?_)
      refine sm_iload_n hO 3 dX4_settle_39 rfl rfl ?_
      refine sm_li hO dX4_settle_40 (fun x3 => ?_)
      refine sm_aload_n hO 0 dX4_settle_41 rfl rfl ?_
      refine sm_gr hO fl_RX4_9 dX4_settle_42 (fun a4 => ?_)
      refine sm_iload_n hO 1 dX4_settle_45 rfl rfl ?_
      refine sm_li hO dX4_settle_46 (fun x5 => ?_)
      refine sm_iadd hO dX4_settle_47 ?_
      refine sm_si hO dX4_settle_48 ?_
      refine sm_iincL (v := xL3 + 1) hO 3 (fun x6 => [(3, .int x6), (0, .ref aL0), (1, .int xL1), (2, .int xL2)]) dX4_settle_49 rfl rfl (by decide) (fun _ => rfl) (fun x6 => ?_)
      refine sm_goto (tgt := 23) hO dX4_settle_52 (by decide) ?_
      exact sm_sub [1, 2, 3, 0] rfl (ih aL0 xL1 xL2 x6)
set_option maxRecDepth 100000 in
set_option maxHeartbeats 4000000 in
theorem tX4_settle_55 {p : Program} {l : Launch} {e : Env} {s : State} {m : MethodId} {args : Array Value} {below : List Frame} {meth : Method} {c : Code} {G : cG} (hO : c_Ok p s m c cX4_settle 4 RX4 G) (hr : meth.sig.returnType = none) (hk : meth.locks = false) (k9 : Nat → Int32 → MM Unit) (hk9 : ∀ (aL0 : Nat) (xL1 : Int32), Sm p l e { frames := 1, cells := 0, slots := 0, locals := 20 } s m args below meth c G 4 (c_Q G c_vv below args s 0 0) 0 0 9 [(0, .ref aL0), (1, .int xL1)] [] (k9 aL0 xL1))  : ∀ (aL0 : Nat) (xL1 : Int32), Sm p l e { frames := 1, cells := 0, slots := 0, locals := 20 } s m args below meth c G 4 (c_Q G c_vv below args s 0 0) 0 0 55 [(0, .ref aL0), (1, .int xL1)] [] (fX4_settle_55 k9 aL0 xL1) := by
  intro aL0 xL1
  rw [fX4_settle_55]
  refine sm_iincL (v := xL1 + 1) hO 1 (fun x1 => [(1, .int x1), (0, .ref aL0)]) dX4_settle_55 rfl rfl (by decide) (fun _ => rfl) (fun x1 => ?_)
  refine sm_goto (tgt := 9) hO dX4_settle_58 (by decide) ?_
  exact sm_sub [1, 0] rfl (hk9 aL0 x1)
set_option maxRecDepth 100000 in
set_option maxHeartbeats 4000000 in
theorem tX4_settle_9 {p : Program} {l : Launch} {e : Env} {s : State} {m : MethodId} {args : Array Value} {below : List Frame} {meth : Method} {c : Code} {G : cG} (hO : c_Ok p s m c cX4_settle 4 RX4 G) (hr : meth.sig.returnType = none) (hk : meth.locks = false) (k61 : Nat → MM Unit) (hk61 : ∀ (aL0 : Nat), Sm p l e { frames := 1, cells := 0, slots := 0, locals := 20 } s m args below meth c G 4 (c_Q G c_vv below args s 0 0) 0 0 61 [(0, .ref aL0)] [] (k61 aL0))  : ∀ (n : Nat) (aL0 : Nat) (xL1 : Int32), Sm p l e { frames := 1, cells := 0, slots := 0, locals := 20 } s m args below meth c G 4 (c_Q G c_vv below args s 0 0) 0 0 9 [(0, .ref aL0), (1, .int xL1)] [] (fX4_settle_9 k61 n aL0 xL1) := by
  intro n
  induction n with
  | zero =>
    intro aL0 xL1
    exact sm_bad
  | succ n ih =>
    intro aL0 xL1
    rw [fX4_settle_9]
    refine sm_iload_n hO 1 dX4_settle_9 rfl rfl ?_
    refine sm_aload_n hO 0 dX4_settle_10 rfl rfl ?_
    refine sm_gi hO fl_RX4_27 dX4_settle_11 (fun x1 => ?_)
    refine sm_icmp_ge (tgt := 61) hO dX4_settle_14 (by decide) ?_ ?_
    · exact sm_sub [0] rfl (hk61 aL0)
    · refine sm_iconst (v := 1) hO dX4_settle_17 rfl ?_
      refine sm_iload_n hO 1 dX4_settle_18 rfl rfl ?_
      refine sm_ishl hO dX4_settle_19 ?_
      refine sm_topi (fun x2 => ?_)
      refine sm_istore_n hO [(2, .int x2), (0, .ref aL0), (1, .int xL1)] dX4_settle_20 rfl (by decide) rfl ?_
      refine sm_iconst (v := 0) hO dX4_settle_21 rfl ?_
      refine sm_istore_n hO [(3, .int 0), (2, .int x2), (0, .ref aL0), (1, .int xL1)] dX4_settle_22 rfl (by decide) rfl ?_
      exact sm_sub [2, 3, 1, 0] rfl (tX4_settle_23 hO hr hk (fX4_settle_55 (fX4_settle_9 k61 n)) (tX4_settle_55 hO hr hk (fX4_settle_9 k61 n) ih) c_fu aL0 xL1 x2 0)
set_option maxRecDepth 100000 in
set_option maxHeartbeats 4000000 in
theorem tX4_settle_61 {p : Program} {l : Launch} {e : Env} {s : State} {m : MethodId} {args : Array Value} {below : List Frame} {meth : Method} {c : Code} {G : cG} (hO : c_Ok p s m c cX4_settle 4 RX4 G) (hr : meth.sig.returnType = none) (hk : meth.locks = false) : ∀ (aL0 : Nat), Sm p l e { frames := 1, cells := 0, slots := 0, locals := 20 } s m args below meth c G 4 (c_Q G c_vv below args s 0 0) 0 0 61 [(0, .ref aL0)] [] (fX4_settle_61 aL0) := by
  intro aL0
  rw [fX4_settle_61]
  refine sm_aload_n hO 0 dX4_settle_61 rfl rfl ?_
  refine sm_gi hO fl_RX4_27 dX4_settle_62 (fun x1 => ?_)
  refine sm_if_le (tgt := 92) hO dX4_settle_65 (by decide) ?_ ?_
  · exact sm_vret hO hr hk (Nat.le_of_ble_eq_true rfl) (Nat.le_of_ble_eq_true rfl) dX4_settle_92
  · refine sm_aload_n hO 0 dX4_settle_68 rfl rfl ?_
    refine sm_gi hO fl_RX4_44 dX4_settle_69 (fun x2 => ?_)
    refine sm_if_ne (tgt := 92) hO dX4_settle_72 (by decide) ?_ ?_
    · exact sm_vret hO hr hk (Nat.le_of_ble_eq_true rfl) (Nat.le_of_ble_eq_true rfl) dX4_settle_92
    · refine sm_aload_n hO 0 dX4_settle_75 rfl rfl ?_
      refine sm_aload_n hO 0 dX4_settle_76 rfl rfl ?_
      refine sm_gr hO fl_RX4_24 dX4_settle_77 (fun a3 => ?_)
      refine sm_aload_n hO 0 dX4_settle_80 rfl rfl ?_
      refine sm_cvi hO (ctX4_allCourts l G aL0) cw_RX4_47 cv_X4_allCourts [.ref a3, .ref aL0] rfl rfl ⟨(Nat.le_of_ble_eq_true rfl), (Nat.le_of_ble_eq_true rfl)⟩ ⟨(Nat.le_of_ble_eq_true rfl), (Nat.le_of_ble_eq_true rfl)⟩ (Nat.le_of_ble_eq_true rfl) dX4_settle_81 (fun x4 => ?_)
      refine sm_li hO dX4_settle_84 (fun x5 => ?_)
      refine sm_iconst (v := 2) hO dX4_settle_85 rfl ?_
      refine sm_idiv hO dX4_settle_86 ?_
      refine sm_iconst (v := 1) hO dX4_settle_87 rfl ?_
      refine sm_iadd hO dX4_settle_88 ?_
      refine sm_pv hO fl_RX4_37 fp_4_8 rfl rfl dX4_settle_89 ?_
      exact sm_vret hO hr hk (Nat.le_of_ble_eq_true rfl) (Nat.le_of_ble_eq_true rfl) dX4_settle_92
set_option maxRecDepth 100000 in
set_option maxHeartbeats 4000000 in
theorem ctX4_settle (l : Launch) (G : cG) (a0_ : Nat) : Ct l G yX4_settle cX4_settle 4 none 1 20 0 0 [.ref a0_] c_vv (pX4_settle a0_) := by
  refine Ct.of (lv := [(0, .ref a0_)]) (by decide) (Nat.le_of_ble_eq_true rfl) rfl (fun p e s m args below meth c hO hr hk hin => ?_)
  rw [pX4_settle]
  refine sm_aload_n hO 0 dX4_settle_0 rfl rfl ?_
  refine sm_gr hO fl_RX4_24 dX4_settle_1 (fun a1 => ?_)
  refine sm_iconst (v := 0) hO dX4_settle_4 rfl ?_
  refine sm_iconst (v := 0) hO dX4_settle_5 rfl ?_
  refine sm_si hO dX4_settle_6 ?_
  refine sm_iconst (v := 0) hO dX4_settle_7 rfl ?_
  refine sm_istore_n hO [(1, .int 0), (0, .ref a0_)] dX4_settle_8 rfl (by decide) rfl ?_
  exact sm_sub [1, 0] rfl (tX4_settle_9 hO hr hk fX4_settle_61 (tX4_settle_61 hO hr hk) c_fu a0_ 0)
/-! DollCongress$Text.readInto(LDollCongress$Roll;)Z -/
def fX7_readInto_25 (k65 : Nat → Nat → MM Int32) : Nat → Nat → Nat → Int32 → MM Int32
  | 0, _, _, _ => m_bad
  | n + 1, aL0, aL1, xL2 => if (240 : Int32) ≤ xL2 then (k65 aL0 aL1) else (m_gi aL0 6 2 (fun x1 => if x1 = 0 then (m_gi aL0 6 4 (fun x2 => m_gi aL0 6 1 (fun x3 => if x3 ≤ x2 then (k65 aL0 aL1) else (m_cv aL0 6 (pX7_readClause aL0 aL1) (fun _ => m_cv aL0 6 (pX7_skipBlanks aL0) (fun _ => m_let (xL2 + 1) (fun x4 => fX7_readInto_25 k65 n aL0 aL1 x4))))))) else (k65 aL0 aL1)))
def fX7_readInto_65  (aL0 : Nat) (aL1 : Nat) : MM Int32 := m_pv aL0 6 1 (.int 0) (m_gi aL0 6 2 (fun x1 => if x1 = 0 then (m_cv aL1 4 (pX4_settle aL1) (fun _ => m_ret 1)) else (m_ret 0)))
def pX7_readInto (a0_ : Nat) (a1_ : Nat) : MM Int32 := m_pv a0_ 6 4 (.int 0) (m_pv a0_ 6 2 (.int 0) (m_pv a0_ 6 3 (.int ((-1))) (m_cv a1_ 4 (pX4_clear a1_) (fun _ => m_cv a0_ 6 (pX7_skipBlanks a0_) (fun _ => fX7_readInto_25 fX7_readInto_65 c_fu a0_ a1_ 0)))))
set_option maxRecDepth 100000 in
set_option maxHeartbeats 4000000 in
theorem tX7_readInto_25 {p : Program} {l : Launch} {e : Env} {s : State} {m : MethodId} {args : Array Value} {below : List Frame} {meth : Method} {c : Code} {G : cG} (hO : c_Ok p s m c cX7_readInto 3 RX7 G) (hr : meth.sig.returnType = (some .boolean)) (hk : meth.locks = false) (k65 : Nat → Nat → MM Int32) (hk65 : ∀ (aL0 : Nat) (aL1 : Nat), Sm p l e { frames := 5, cells := 0, slots := 0, locals := 110 } s m args below meth c G 3 (c_Q G c_vi below args s 0 0) 0 0 65 [(0, .ref aL0), (1, .ref aL1)] [] (k65 aL0 aL1))  : ∀ (n : Nat) (aL0 : Nat) (aL1 : Nat) (xL2 : Int32), Sm p l e { frames := 5, cells := 0, slots := 0, locals := 110 } s m args below meth c G 3 (c_Q G c_vi below args s 0 0) 0 0 25 [(0, .ref aL0), (1, .ref aL1), (2, .int xL2)] [] (fX7_readInto_25 k65 n aL0 aL1 xL2) := by
  intro n
  induction n with
  | zero =>
    intro aL0 aL1 xL2
    exact sm_bad
  | succ n ih =>
    intro aL0 aL1 xL2
    rw [fX7_readInto_25]
    refine sm_iload_n hO 2 dX7_readInto_25 rfl rfl ?_
    refine sm_sipush (v := 240) hO dX7_readInto_26 rfl ?_
    refine sm_icmp_ge (tgt := 65) hO dX7_readInto_29 (by decide) ?_ ?_
    · exact sm_sub [0, 1] rfl (hk65 aL0 aL1)
    · refine sm_aload_n hO 0 dX7_readInto_32 rfl rfl ?_
      refine sm_gi hO fl_RX7_22 dX7_readInto_33 (fun x1 => ?_)
      refine sm_if_ne (tgt := 65) hO dX7_readInto_36 (by decide) ?_ ?_
      · exact sm_sub [0, 1] rfl (hk65 aL0 aL1)
      · refine sm_aload_n hO 0 dX7_readInto_39 rfl rfl ?_
        refine sm_gi hO fl_RX7_19 dX7_readInto_40 (fun x2 => ?_)
        refine sm_aload_n hO 0 dX7_readInto_43 rfl rfl ?_
        refine sm_gi hO fl_RX7_33 dX7_readInto_44 (fun x3 => ?_)
        refine sm_icmp_ge (tgt := 65) hO dX7_readInto_47 (by decide) ?_ ?_
        · exact sm_sub [0, 1] rfl (hk65 aL0 aL1)
        · refine sm_aload_n hO 0 dX7_readInto_50 rfl rfl ?_
          refine sm_aload_n hO 1 dX7_readInto_51 rfl rfl ?_
          refine sm_cvv hO (ctX7_readClause l G aL0 aL1) cw_RX7_36 cv_X7_readClause [] rfl rfl ⟨(Nat.le_of_ble_eq_true rfl), (Nat.le_of_ble_eq_true rfl)⟩ ⟨(Nat.le_of_ble_eq_true rfl), (Nat.le_of_ble_eq_true rfl)⟩ (Nat.le_of_ble_eq_true rfl) dX7_readInto_52 (fun _ => ?_)
          refine sm_aload_n hO 0 dX7_readInto_55 rfl rfl ?_
          refine sm_cvv hO (ctX7_skipBlanks l G aL0) cw_RX7_30 cv_X7_skipBlanks [] rfl rfl ⟨(Nat.le_of_ble_eq_true rfl), (Nat.le_of_ble_eq_true rfl)⟩ ⟨(Nat.le_of_ble_eq_true rfl), (Nat.le_of_ble_eq_true rfl)⟩ (Nat.le_of_ble_eq_true rfl) dX7_readInto_56 (fun _ => ?_)
          refine sm_iincL (v := xL2 + 1) hO 2 (fun x4 => [(2, .int x4), (0, .ref aL0), (1, .ref aL1)]) dX7_readInto_59 rfl rfl (by decide) (fun _ => rfl) (fun x4 => ?_)
          refine sm_goto (tgt := 25) hO dX7_readInto_62 (by decide) ?_
          exact sm_sub [1, 2, 0] rfl (ih aL0 aL1 x4)
set_option maxRecDepth 100000 in
set_option maxHeartbeats 4000000 in
theorem tX7_readInto_65 {p : Program} {l : Launch} {e : Env} {s : State} {m : MethodId} {args : Array Value} {below : List Frame} {meth : Method} {c : Code} {G : cG} (hO : c_Ok p s m c cX7_readInto 3 RX7 G) (hr : meth.sig.returnType = (some .boolean)) (hk : meth.locks = false) : ∀ (aL0 : Nat) (aL1 : Nat), Sm p l e { frames := 5, cells := 0, slots := 0, locals := 110 } s m args below meth c G 3 (c_Q G c_vi below args s 0 0) 0 0 65 [(0, .ref aL0), (1, .ref aL1)] [] (fX7_readInto_65 aL0 aL1) := by
  intro aL0 aL1
  rw [fX7_readInto_65]
  refine sm_aload_n hO 0 dX7_readInto_65 rfl rfl ?_
  refine sm_iconst (v := 0) hO dX7_readInto_66 rfl ?_
  refine sm_pv hO fl_RX7_33 fp_6_1 rfl rfl dX7_readInto_67 ?_
  refine sm_aload_n hO 0 dX7_readInto_70 rfl rfl ?_
  refine sm_gi hO fl_RX7_22 dX7_readInto_71 (fun x1 => ?_)
  refine sm_if_eq (tgt := 79) hO dX7_readInto_74 (by decide) ?_ ?_
  · refine sm_aload_n hO 1 dX7_readInto_79 rfl rfl ?_
    refine sm_cvv hO (ctX4_settle l G aL1) cw_RX7_40 cv_X4_settle [] rfl rfl ⟨(Nat.le_of_ble_eq_true rfl), (Nat.le_of_ble_eq_true rfl)⟩ ⟨(Nat.le_of_ble_eq_true rfl), (Nat.le_of_ble_eq_true rfl)⟩ (Nat.le_of_ble_eq_true rfl) dX7_readInto_80 (fun _ => ?_)
    refine sm_iconst (v := 1) hO dX7_readInto_83 rfl ?_
    exact sm_zret hO hr hk rfl (Nat.le_of_ble_eq_true rfl) (Nat.le_of_ble_eq_true rfl) dX7_readInto_84
  · refine sm_iconst (v := 0) hO dX7_readInto_77 rfl ?_
    exact sm_zret hO hr hk rfl (Nat.le_of_ble_eq_true rfl) (Nat.le_of_ble_eq_true rfl) dX7_readInto_78
set_option maxRecDepth 100000 in
set_option maxHeartbeats 4000000 in
theorem ctX7_readInto (l : Launch) (G : cG) (a0_ : Nat) (a1_ : Nat) : Ct l G yX7_readInto cX7_readInto 3 (some .boolean) 5 110 0 0 [.ref a0_, .ref a1_] c_vi (pX7_readInto a0_ a1_) := by
  refine Ct.of (lv := [(0, .ref a0_), (1, .ref a1_)]) (by decide) (Nat.le_of_ble_eq_true rfl) rfl (fun p e s m args below meth c hO hr hk hin => ?_)
  rw [pX7_readInto]
  refine sm_aload_n hO 0 dX7_readInto_0 rfl rfl ?_
  refine sm_iconst (v := 0) hO dX7_readInto_1 rfl ?_
  refine sm_pv hO fl_RX7_19 fp_6_4 rfl rfl dX7_readInto_2 ?_
  refine sm_aload_n hO 0 dX7_readInto_5 rfl rfl ?_
  refine sm_iconst (v := 0) hO dX7_readInto_6 rfl ?_
  refine sm_pv hO fl_RX7_22 fp_6_2 rfl rfl dX7_readInto_7 ?_
  refine sm_aload_n hO 0 dX7_readInto_10 rfl rfl ?_
  refine sm_iconst (v := (-1)) hO dX7_readInto_11 rfl ?_
  refine sm_pv hO fl_RX7_15 fp_6_3 rfl rfl dX7_readInto_12 ?_
  refine sm_aload_n hO 1 dX7_readInto_15 rfl rfl ?_
  refine sm_cvv hO (ctX4_clear l G a1_) cw_RX7_25 cv_X4_clear [] rfl rfl ⟨(Nat.le_of_ble_eq_true rfl), (Nat.le_of_ble_eq_true rfl)⟩ ⟨(Nat.le_of_ble_eq_true rfl), (Nat.le_of_ble_eq_true rfl)⟩ (Nat.le_of_ble_eq_true rfl) dX7_readInto_16 (fun _ => ?_)
  refine sm_aload_n hO 0 dX7_readInto_19 rfl rfl ?_
  refine sm_cvv hO (ctX7_skipBlanks l G a0_) cw_RX7_30 cv_X7_skipBlanks [] rfl rfl ⟨(Nat.le_of_ble_eq_true rfl), (Nat.le_of_ble_eq_true rfl)⟩ ⟨(Nat.le_of_ble_eq_true rfl), (Nat.le_of_ble_eq_true rfl)⟩ (Nat.le_of_ble_eq_true rfl) dX7_readInto_20 (fun _ => ?_)
  refine sm_iconst (v := 0) hO dX7_readInto_23 rfl ?_
  refine sm_istore_n hO [(2, .int 0), (0, .ref a0_), (1, .ref a1_)] dX7_readInto_24 rfl (by decide) rfl ?_
  exact sm_sub [1, 2, 0] rfl (tX7_readInto_25 hO hr hk fX7_readInto_65 (tX7_readInto_65 hO hr hk) c_fu a0_ a1_ 0)
/-! java/util/Arrays.fill([II)V -/
def fJ7_fill_53178_5  : Nat → Nat → Int32 → Int32 → Int32 → MM Unit
  | 0, _, _, _, _ => m_bad
  | n + 1, aL0, xL1, xL2, xL3 => if xL3 ≤ xL2 then (m_ret ()) else (m_si aL0 xL2 xL1 (m_let (xL2 + 1) (fun x1 => fJ7_fill_53178_5 n aL0 xL1 x1 xL3)))
def pJ7_fill_53178 (a0_ : Nat) (x1_ : Int32) : MM Unit := m_len a0_ (fun x1 => fJ7_fill_53178_5 c_fu a0_ x1_ 0 x1)
set_option maxRecDepth 100000 in
set_option maxHeartbeats 4000000 in
theorem tJ7_fill_53178_5 {p : Program} {l : Launch} {e : Env} {s : State} {m : MethodId} {args : Array Value} {below : List Frame} {meth : Method} {c : Code} {G : cG} (hO : c_Ok p s m c cJ7_fill_53178 4 RJ7 G) (hr : meth.sig.returnType = none) (hk : meth.locks = false) : ∀ (n : Nat) (aL0 : Nat) (xL1 : Int32) (xL2 : Int32) (xL3 : Int32), Sm p l e { frames := 0, cells := 0, slots := 0, locals := 0 } s m args below meth c G 4 (c_Q G c_vv below args s 0 0) 0 0 5 [(0, .ref aL0), (1, .int xL1), (2, .int xL2), (3, .int xL3)] [] (fJ7_fill_53178_5 n aL0 xL1 xL2 xL3) := by
  intro n
  induction n with
  | zero =>
    intro aL0 xL1 xL2 xL3
    exact sm_bad
  | succ n ih =>
    intro aL0 xL1 xL2 xL3
    rw [fJ7_fill_53178_5]
    refine sm_iload_n hO 2 dJ7_fill_53178_5 rfl rfl ?_
    refine sm_iload_n hO 3 dJ7_fill_53178_6 rfl rfl ?_
    refine sm_icmp_ge (tgt := 20) hO dJ7_fill_53178_7 (by decide) ?_ ?_
    · exact sm_vret hO hr hk (Nat.le_of_ble_eq_true rfl) (Nat.le_of_ble_eq_true rfl) dJ7_fill_53178_20
    · refine sm_aload_n hO 0 dJ7_fill_53178_10 rfl rfl ?_
      refine sm_iload_n hO 2 dJ7_fill_53178_11 rfl rfl ?_
      refine sm_iload_n hO 1 dJ7_fill_53178_12 rfl rfl ?_
      refine sm_si hO dJ7_fill_53178_13 ?_
      refine sm_iincL (v := xL2 + 1) hO 2 (fun x1 => [(2, .int x1), (0, .ref aL0), (1, .int xL1), (3, .int xL3)]) dJ7_fill_53178_14 rfl rfl (by decide) (fun _ => rfl) (fun x1 => ?_)
      refine sm_goto (tgt := 5) hO dJ7_fill_53178_17 (by decide) ?_
      exact sm_sub [1, 2, 0, 3] rfl (ih aL0 xL1 x1 xL3)
set_option maxRecDepth 100000 in
set_option maxHeartbeats 4000000 in
theorem ctJ7_fill_53178 (l : Launch) (G : cG) (a0_ : Nat) (x1_ : Int32) : Ct l G yJ7_fill_53178 cJ7_fill_53178 4 none 0 0 0 0 [.ref a0_, .int x1_] c_vv (pJ7_fill_53178 a0_ x1_) := by
  refine Ct.of (lv := [(0, .ref a0_), (1, .int x1_)]) (by decide) (Nat.le_of_ble_eq_true rfl) rfl (fun p e s m args below meth c hO hr hk hin => ?_)
  rw [pJ7_fill_53178]
  refine sm_iconst (v := 0) hO dJ7_fill_53178_0 rfl ?_
  refine sm_istore_n hO [(2, .int 0), (0, .ref a0_), (1, .int x1_)] dJ7_fill_53178_1 rfl (by decide) rfl ?_
  refine sm_aload_n hO 1 dJ7_fill_53178_2 rfl rfl ?_
  refine sm_len hO dJ7_fill_53178_3 (fun x1 => ?_)
  refine sm_istore_n hO [(3, .int x1), (2, .int 0), (0, .ref a0_), (1, .int x1_)] dJ7_fill_53178_4 rfl (by decide) rfl ?_
  exact sm_sub [2, 3, 1, 0] rfl (tJ7_fill_53178_5 hO hr hk c_fu a0_ x1_ 0 x1)
/-! DollCongress$Scene.begin(LDollCongress$Roll;)V -/
def pX5_begin (a0_ : Nat) (a1_ : Nat) : MM Unit := m_gr a1_ 4 2 (fun a1 => m_gr a0_ 5 0 (fun a2 => m_cp a1 a2 (8 : Int32) (m_gr a1_ 4 3 (fun a3 => m_gr a0_ 5 1 (fun a4 => m_cp a3 a4 (8 : Int32) (m_gr a0_ 5 2 (fun a5 => m_bind (pJ7_fill_53178 a5 (0 : Int32)) (fun _ => m_gr a0_ 5 3 (fun a6 => m_bind (pJ7_fill_53178 a6 (0 : Int32)) (fun _ => m_gi a1_ 4 6 (fun x7 => m_pv a0_ 5 4 (.int (((1 : Int32) <<< (x7 &&& 31)) - 1)) (m_pv a0_ 5 5 (.int 0) (m_pv a0_ 5 6 (.int 0) (m_pv a0_ 5 7 (.int 0) (m_ret ())))))))))))))))
set_option maxRecDepth 100000 in
set_option maxHeartbeats 4000000 in
theorem ctX5_begin (l : Launch) (G : cG) (a0_ : Nat) (a1_ : Nat) : Ct l G yX5_begin cX5_begin 2 none 1 40 0 0 [.ref a0_, .ref a1_] c_vv (pX5_begin a0_ a1_) := by
  refine Ct.of (lv := [(0, .ref a0_), (1, .ref a1_)]) (by decide) (Nat.le_of_ble_eq_true rfl) rfl (fun p e s m args below meth c hO hr hk hin => ?_)
  rw [pX5_begin]
  refine sm_aload_n hO 1 dX5_begin_0 rfl rfl ?_
  refine sm_gr hO fl_RX5_24 dX5_begin_1 (fun a1 => ?_)
  refine sm_iconst (v := 0) hO dX5_begin_4 rfl ?_
  refine sm_aload_n hO 0 dX5_begin_5 rfl rfl ?_
  refine sm_gr hO fl_RX5_9 dX5_begin_6 (fun a2 => ?_)
  refine sm_iconst (v := 0) hO dX5_begin_9 rfl ?_
  refine sm_bipush (v := 8) hO dX5_begin_10 rfl ?_
  refine sm_cp hO kw_446 kw_448 kw_447 kw_84 (Nat.le_of_ble_eq_true rfl) (Nat.le_of_ble_eq_true rfl) dX5_begin_12 ?_
  refine sm_aload_n hO 1 dX5_begin_15 rfl rfl ?_
  refine sm_gr hO fl_RX5_35 dX5_begin_16 (fun a3 => ?_)
  refine sm_iconst (v := 0) hO dX5_begin_19 rfl ?_
  refine sm_aload_n hO 0 dX5_begin_20 rfl rfl ?_
  refine sm_gr hO fl_RX5_15 dX5_begin_21 (fun a4 => ?_)
  refine sm_iconst (v := 0) hO dX5_begin_24 rfl ?_
  refine sm_bipush (v := 8) hO dX5_begin_25 rfl ?_
  refine sm_cp hO kw_446 kw_448 kw_447 kw_84 (Nat.le_of_ble_eq_true rfl) (Nat.le_of_ble_eq_true rfl) dX5_begin_27 ?_
  refine sm_aload_n hO 0 dX5_begin_30 rfl rfl ?_
  refine sm_gr hO fl_RX5_18 dX5_begin_31 (fun a5 => ?_)
  refine sm_iconst (v := 0) hO dX5_begin_34 rfl ?_
  refine sm_csv hO (ctJ7_fill_53178 l G a5 (0 : Int32)) cw_RX5_36 kw_450 [] rfl rfl ⟨(Nat.le_of_ble_eq_true rfl), (Nat.le_of_ble_eq_true rfl)⟩ ⟨(Nat.le_of_ble_eq_true rfl), (Nat.le_of_ble_eq_true rfl)⟩ (Nat.le_of_ble_eq_true rfl) dX5_begin_35 (fun _ => ?_)
  refine sm_aload_n hO 0 dX5_begin_38 rfl rfl ?_
  refine sm_gr hO fl_RX5_21 dX5_begin_39 (fun a6 => ?_)
  refine sm_iconst (v := 0) hO dX5_begin_42 rfl ?_
  refine sm_csv hO (ctJ7_fill_53178 l G a6 (0 : Int32)) cw_RX5_36 kw_450 [] rfl rfl ⟨(Nat.le_of_ble_eq_true rfl), (Nat.le_of_ble_eq_true rfl)⟩ ⟨(Nat.le_of_ble_eq_true rfl), (Nat.le_of_ble_eq_true rfl)⟩ (Nat.le_of_ble_eq_true rfl) dX5_begin_43 (fun _ => ?_)
  refine sm_aload_n hO 0 dX5_begin_46 rfl rfl ?_
  refine sm_iconst (v := 1) hO dX5_begin_47 rfl ?_
  refine sm_aload_n hO 1 dX5_begin_48 rfl rfl ?_
  refine sm_gi hO fl_RX5_42 dX5_begin_49 (fun x7 => ?_)
  refine sm_ishl hO dX5_begin_52 ?_
  refine sm_iconst (v := 1) hO dX5_begin_53 rfl ?_
  refine sm_isub hO dX5_begin_54 ?_
  refine sm_pv hO fl_RX5_46 fp_5_4 rfl rfl dX5_begin_55 ?_
  refine sm_aload_n hO 0 dX5_begin_58 rfl rfl ?_
  refine sm_iconst (v := 0) hO dX5_begin_59 rfl ?_
  refine sm_pv hO fl_RX5_49 fp_5_5 rfl rfl dX5_begin_60 ?_
  refine sm_aload_n hO 0 dX5_begin_63 rfl rfl ?_
  refine sm_iconst (v := 0) hO dX5_begin_64 rfl ?_
  refine sm_pv hO fl_RX5_52 fp_5_6 rfl rfl dX5_begin_65 ?_
  refine sm_aload_n hO 0 dX5_begin_68 rfl rfl ?_
  refine sm_iconst (v := 0) hO dX5_begin_69 rfl ?_
  refine sm_pv hO fl_RX5_55 fp_5_7 rfl rfl dX5_begin_70 ?_
  exact sm_vret hO hr hk (Nat.le_of_ble_eq_true rfl) (Nat.le_of_ble_eq_true rfl) dX5_begin_73
