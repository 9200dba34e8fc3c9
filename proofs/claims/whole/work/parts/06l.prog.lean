/-! DollCongress.look(II)I -/
def pX9_look (a0_ : Nat) (x1_ : Int32) (x2_ : Int32) : MM Int32 := if x1_ < 0 then (m_ret ((-1000000002) : Int32)) else (if (63 : Int32) < x1_ then (m_ret ((-1000000002) : Int32)) else (if x2_ < 0 then (m_ret ((-1000000002) : Int32)) else (if x2_ ≤ (1 : Int32) then (m_gr a0_ 8 7 (fun a1 => m_gr a0_ 8 1 (fun a2 => m_bind (pX6_fitting a1 a2 x1_) (fun x3 => if x2_ = 0 then (m_ret x3) else (m_gr a0_ 8 7 (fun a4 => m_gr a0_ 8 1 (fun a5 => m_bind (pX6_parting a4 a5 x3) (fun x6 => m_ret x6)))))))) else (m_ret ((-1000000002) : Int32)))))
set_option maxRecDepth 100000 in
set_option maxHeartbeats 4000000 in
theorem ctX9_look (l : Launch) (G : cG) (a0_ : Nat) (x1_ : Int32) (x2_ : Int32) : Ct l G yX9_look cX9_look 4 (some .int) 2 48 0 0 [.ref a0_, .int x1_, .int x2_] c_vi (pX9_look a0_ x1_ x2_) := by
  refine Ct.of (lv := [(0, .ref a0_), (1, .int x1_), (2, .int x2_)]) (by decide) (Nat.le_of_ble_eq_true rfl) rfl (fun p e s m args below meth c hO hr hk hin => ?_)
  rw [pX9_look]
  refine sm_iload_n hO 1 dX9_look_0 rfl rfl ?_
  refine sm_if_lt (tgt := 19) hO dX9_look_1 (by decide) ?_ ?_
  · refine sm_ldc (v := (-1000000002)) hO kw_362 dX9_look_19 ?_
    exact sm_iret hO hr hk (Nat.le_of_ble_eq_true rfl) (Nat.le_of_ble_eq_true rfl) dX9_look_21
  · refine sm_iload_n hO 1 dX9_look_4 rfl rfl ?_
    refine sm_bipush (v := 63) hO dX9_look_5 rfl ?_
    refine sm_icmp_gt (tgt := 19) hO dX9_look_7 (by decide) ?_ ?_
    · refine sm_ldc (v := (-1000000002)) hO kw_362 dX9_look_19 ?_
      exact sm_iret hO hr hk (Nat.le_of_ble_eq_true rfl) (Nat.le_of_ble_eq_true rfl) dX9_look_21
    · refine sm_iload_n hO 2 dX9_look_10 rfl rfl ?_
      refine sm_if_lt (tgt := 19) hO dX9_look_11 (by decide) ?_ ?_
      · refine sm_ldc (v := (-1000000002)) hO kw_362 dX9_look_19 ?_
        exact sm_iret hO hr hk (Nat.le_of_ble_eq_true rfl) (Nat.le_of_ble_eq_true rfl) dX9_look_21
      · refine sm_iload_n hO 2 dX9_look_14 rfl rfl ?_
        refine sm_iconst (v := 1) hO dX9_look_15 rfl ?_
        refine sm_icmp_le (tgt := 22) hO dX9_look_16 (by decide) ?_ ?_
        · refine sm_aload_n hO 0 dX9_look_22 rfl rfl ?_
          refine sm_gr hO fl_RX9_60 dX9_look_23 (fun a1 => ?_)
          refine sm_aload_n hO 0 dX9_look_26 rfl rfl ?_
          refine sm_gr hO fl_RX9_19 dX9_look_27 (fun a2 => ?_)
          refine sm_iload_n hO 1 dX9_look_30 rfl rfl ?_
          refine sm_csi hO (ctX6_fitting l G a1 a2 x1_) cw_RX9_240 kw_685 [] rfl rfl ⟨(Nat.le_of_ble_eq_true rfl), (Nat.le_of_ble_eq_true rfl)⟩ ⟨(Nat.le_of_ble_eq_true rfl), (Nat.le_of_ble_eq_true rfl)⟩ (Nat.le_of_ble_eq_true rfl) dX9_look_31 (fun x3 => ?_)
          refine sm_istore_n hO [(3, .int x3), (0, .ref a0_), (1, .int x1_), (2, .int x2_)] dX9_look_34 rfl (by decide) rfl ?_
          refine sm_iload_n hO 3 dX9_look_35 rfl rfl ?_
          refine sm_if_ne (tgt := 43) hO dX9_look_36 (by decide) ?_ ?_
          · refine sm_aload_n hO 1 dX9_look_43 rfl rfl ?_
            refine sm_gr hO fl_RX9_60 dX9_look_44 (fun a4 => ?_)
            refine sm_aload_n hO 1 dX9_look_47 rfl rfl ?_
            refine sm_gr hO fl_RX9_19 dX9_look_48 (fun a5 => ?_)
            refine sm_iload_n hO 0 dX9_look_51 rfl rfl ?_
            refine sm_csi hO (ctX6_parting l G a4 a5 x3) cw_RX9_243 kw_688 [] rfl rfl ⟨(Nat.le_of_ble_eq_true rfl), (Nat.le_of_ble_eq_true rfl)⟩ ⟨(Nat.le_of_ble_eq_true rfl), (Nat.le_of_ble_eq_true rfl)⟩ (Nat.le_of_ble_eq_true rfl) dX9_look_52 (fun x6 => ?_)
            exact sm_iret hO hr hk (Nat.le_of_ble_eq_true rfl) (Nat.le_of_ble_eq_true rfl) dX9_look_55
          · refine sm_iload_n hO 0 dX9_look_39 rfl rfl ?_
            refine sm_goto (tgt := 55) hO dX9_look_40 (by decide) ?_
            exact sm_iret hO hr hk (Nat.le_of_ble_eq_true rfl) (Nat.le_of_ble_eq_true rfl) dX9_look_55
        · refine sm_ldc (v := (-1000000002)) hO kw_362 dX9_look_19 ?_
          exact sm_iret hO hr hk (Nat.le_of_ble_eq_true rfl) (Nat.le_of_ble_eq_true rfl) dX9_look_21
/-! DollCongressModel.likeIn(I)I -/
def fX10_likeIn_39 (k4 : Nat → Int32 → Int32 → Int32 → MM Int32) (aL0 : Nat) (xL1 : Int32) (xL3 : Int32) (xS0 : Int32) (xS1 : Int32) : MM Int32 := m_let (xS1 ||| xS0) (fun x1 => m_let (xL3 + 1) (fun x2 => k4 aL0 xL1 x1 x2))
def fX10_likeIn_4  : Nat → Nat → Int32 → Int32 → Int32 → MM Int32
  | 0, _, _, _, _ => m_bad
  | n + 1, aL0, xL1, xL2, xL3 => m_gi aL0 9 2 (fun x1 => if x1 ≤ xL3 then (m_ret xL2) else (m_gr aL0 9 8 (fun a2 => m_li 0 a2 ((17 : Int32) + xL3) (fun x3 => m_gi aL0 9 6 (fun x4 => if ((x3 ^^^ x4) &&& xL1) = 0 then (fX10_likeIn_39 (fX10_likeIn_4 n) aL0 xL1 xL3 ((1 : Int32) <<< (xL3 &&& 31)) xL2) else (fX10_likeIn_39 (fX10_likeIn_4 n) aL0 xL1 xL3 0 xL2))))))
def pX10_likeIn (a0_ : Nat) (x1_ : Int32) : MM Int32 := fX10_likeIn_4 c_fu a0_ x1_ 0 0
set_option maxRecDepth 100000 in
set_option maxHeartbeats 4000000 in
theorem tX10_likeIn_39 {p : Program} {l : Launch} {e : Env} {s : State} {m : MethodId} {args : Array Value} {below : List Frame} {meth : Method} {c : Code} {G : cG} (hO : c_Ok p s m c cX10_likeIn 4 RX10 G) (hr : meth.sig.returnType = (some .int)) (hk : meth.locks = false) (k4 : Nat → Int32 → Int32 → Int32 → MM Int32) (hk4 : ∀ (aL0 : Nat) (xL1 : Int32) (xL2 : Int32) (xL3 : Int32), Sm p l e { frames := 0, cells := 0, slots := 0, locals := 0 } s m args below meth c G 4 (c_Q G c_vi below args s 0 0) 0 0 4 [(0, .ref aL0), (1, .int xL1), (2, .int xL2), (3, .int xL3)] [] (k4 aL0 xL1 xL2 xL3))  : ∀ (aL0 : Nat) (xL1 : Int32) (xL3 : Int32) (xS0 : Int32) (xS1 : Int32), Sm p l e { frames := 0, cells := 0, slots := 0, locals := 0 } s m args below meth c G 4 (c_Q G c_vi below args s 0 0) 0 0 39 [(0, .ref aL0), (1, .int xL1), (3, .int xL3)] [.int xS0, .int xS1] (fX10_likeIn_39 k4 aL0 xL1 xL3 xS0 xS1) := by
  intro aL0 xL1 xL3 xS0 xS1
  rw [fX10_likeIn_39]
  refine sm_ior hO dX10_likeIn_39 ?_
  refine sm_topi (fun x1 => ?_)
  refine sm_istore_n hO [(2, .int x1), (0, .ref aL0), (1, .int xL1), (3, .int xL3)] dX10_likeIn_40 rfl (by decide) rfl ?_
  refine sm_iincL (v := xL3 + 1) hO 3 (fun x2 => [(3, .int x2), (2, .int x1), (0, .ref aL0), (1, .int xL1)]) dX10_likeIn_41 rfl rfl (by decide) (fun _ => rfl) (fun x2 => ?_)
  refine sm_goto (tgt := 4) hO dX10_likeIn_44 (by decide) ?_
  exact sm_sub [2, 3, 1, 0] rfl (hk4 aL0 xL1 x1 x2)
set_option maxRecDepth 100000 in
set_option maxHeartbeats 4000000 in
theorem tX10_likeIn_4 {p : Program} {l : Launch} {e : Env} {s : State} {m : MethodId} {args : Array Value} {below : List Frame} {meth : Method} {c : Code} {G : cG} (hO : c_Ok p s m c cX10_likeIn 4 RX10 G) (hr : meth.sig.returnType = (some .int)) (hk : meth.locks = false) : ∀ (n : Nat) (aL0 : Nat) (xL1 : Int32) (xL2 : Int32) (xL3 : Int32), Sm p l e { frames := 0, cells := 0, slots := 0, locals := 0 } s m args below meth c G 4 (c_Q G c_vi below args s 0 0) 0 0 4 [(0, .ref aL0), (1, .int xL1), (2, .int xL2), (3, .int xL3)] [] (fX10_likeIn_4 n aL0 xL1 xL2 xL3) := by
  intro n
  induction n with
  | zero =>
    intro aL0 xL1 xL2 xL3
    exact sm_bad
  | succ n ih =>
    intro aL0 xL1 xL2 xL3
    rw [fX10_likeIn_4]
    refine sm_iload_n hO 3 dX10_likeIn_4 rfl rfl ?_
    refine sm_aload_n hO 0 dX10_likeIn_5 rfl rfl ?_
    refine sm_gi hO fl_RX10_79 dX10_likeIn_6 (fun x1 => ?_)
    refine sm_icmp_ge (tgt := 47) hO dX10_likeIn_9 (by decide) ?_ ?_
    · refine sm_iload_n hO 2 dX10_likeIn_47 rfl rfl ?_
      exact sm_iret hO hr hk (Nat.le_of_ble_eq_true rfl) (Nat.le_of_ble_eq_true rfl) dX10_likeIn_48
    · refine sm_iload_n hO 2 dX10_likeIn_12 rfl rfl ?_
      refine sm_aload_n hO 0 dX10_likeIn_13 rfl rfl ?_
      refine sm_gr hO fl_RX10_22 dX10_likeIn_14 (fun a2 => ?_)
      refine sm_bipush (v := 17) hO dX10_likeIn_17 rfl ?_
      refine sm_iload_n hO 3 dX10_likeIn_19 rfl rfl ?_
      refine sm_iadd hO dX10_likeIn_20 ?_
      refine sm_li hO dX10_likeIn_21 (fun x3 => ?_)
      refine sm_aload_n hO 0 dX10_likeIn_22 rfl rfl ?_
      refine sm_gi hO fl_RX10_149 dX10_likeIn_23 (fun x4 => ?_)
      refine sm_ixor hO dX10_likeIn_26 ?_
      refine sm_iload_n hO 1 dX10_likeIn_27 rfl rfl ?_
      refine sm_iand hO dX10_likeIn_28 ?_
      refine sm_if_ne (tgt := 38) hO dX10_likeIn_29 (by decide) ?_ ?_
      · refine sm_iconst (v := 0) hO dX10_likeIn_38 rfl ?_
        exact sm_sub [0, 1, 3] rfl (tX10_likeIn_39 hO hr hk (fX10_likeIn_4 n) ih aL0 xL1 xL3 0 xL2)
      · refine sm_iconst (v := 1) hO dX10_likeIn_32 rfl ?_
        refine sm_iload_n hO 3 dX10_likeIn_33 rfl rfl ?_
        refine sm_ishl hO dX10_likeIn_34 ?_
        refine sm_goto (tgt := 39) hO dX10_likeIn_35 (by decide) ?_
        exact sm_sub [0, 1, 3] rfl (tX10_likeIn_39 hO hr hk (fX10_likeIn_4 n) ih aL0 xL1 xL3 ((1 : Int32) <<< (xL3 &&& 31)) xL2)
set_option maxRecDepth 100000 in
set_option maxHeartbeats 4000000 in
theorem ctX10_likeIn (l : Launch) (G : cG) (a0_ : Nat) (x1_ : Int32) : Ct l G yX10_likeIn cX10_likeIn 4 (some .int) 0 0 0 0 [.ref a0_, .int x1_] c_vi (pX10_likeIn a0_ x1_) := by
  refine Ct.of (lv := [(0, .ref a0_), (1, .int x1_)]) (by decide) (Nat.le_of_ble_eq_true rfl) rfl (fun p e s m args below meth c hO hr hk hin => ?_)
  rw [pX10_likeIn]
  refine sm_iconst (v := 0) hO dX10_likeIn_0 rfl ?_
  refine sm_istore_n hO [(2, .int 0), (0, .ref a0_), (1, .int x1_)] dX10_likeIn_1 rfl (by decide) rfl ?_
  refine sm_iconst (v := 0) hO dX10_likeIn_2 rfl ?_
  refine sm_istore_n hO [(3, .int 0), (2, .int 0), (0, .ref a0_), (1, .int x1_)] dX10_likeIn_3 rfl (by decide) rfl ?_
  exact sm_sub [2, 3, 1, 0] rfl (tX10_likeIn_4 hO hr hk c_fu a0_ x1_ 0 0)
/-! DollCongressModel.nextSign(I)I -/
def fX10_nextSign_65 (k66 : Nat → Int32 → Int32 → Int32 → Int32 → Int32 → Int32 → Int32 → MM Int32) (aL0 : Nat) (xL1 : Int32) (xL2 : Int32) (xL3 : Int32) (xL4 : Int32) (xL6 : Int32) (xS0 : Int32) : MM Int32 := k66 aL0 xL1 xL2 xL3 xL4 xL6 0 xS0
def fX10_nextSign_66 (k23 : Nat → Int32 → Int32 → Int32 → Int32 → Int32 → Int32 → MM Int32) (aL0 : Nat) (xL1 : Int32) (xL2 : Int32) (xL3 : Int32) (xL4 : Int32) (xL6 : Int32) (xS0 : Int32) (xS1 : Int32) : MM Int32 := m_let (xS1 + xS0) (fun x1 => m_let (xL6 + 1) (fun x2 => k23 aL0 xL1 xL2 xL3 xL4 x1 x2))
def fX10_nextSign_23 (k75 : Nat → Int32 → Int32 → Int32 → Int32 → Int32 → MM Int32) : Nat → Nat → Int32 → Int32 → Int32 → Int32 → Int32 → Int32 → MM Int32
  | 0, _, _, _, _, _, _, _ => m_bad
  | n + 1, aL0, xL1, xL2, xL3, xL4, xL5, xL6 => m_gi aL0 9 2 (fun x1 => if x1 ≤ xL6 then (k75 aL0 xL1 xL2 xL3 xL4 xL5) else (m_bind (pX10_has xL1 xL6) (fun x2 => if x2 = 0 then (fX10_nextSign_65 (fX10_nextSign_66 (fX10_nextSign_23 k75 n)) aL0 xL1 xL2 xL3 xL4 xL6 xL5) else (m_gr aL0 9 8 (fun a3 => m_li 0 a3 ((17 : Int32) + xL6) (fun x4 => m_bind (pX10_has x4 xL4) (fun x5 => if x5 = 0 then (fX10_nextSign_65 (fX10_nextSign_66 (fX10_nextSign_23 k75 n)) aL0 xL1 xL2 xL3 xL4 xL6 xL5) else (fX10_nextSign_66 (fX10_nextSign_23 k75 n) aL0 xL1 xL2 xL3 xL4 xL6 1 xL5))))))))
def fX10_nextSign_126 (k10 : Nat → Int32 → Int32 → Int32 → Int32 → MM Int32) (aL0 : Nat) (xL1 : Int32) (xL2 : Int32) (xL4 : Int32) (xS0 : Int32) : MM Int32 := m_let (xL4 + 1) (fun x1 => k10 aL0 xL1 xL2 xS0 x1)
def fX10_nextSign_113 (k10 : Nat → Int32 → Int32 → Int32 → Int32 → MM Int32) (aL0 : Nat) (xL1 : Int32) (xL3 : Int32) (xL4 : Int32) (xL6 : Int32) (xS0 : Int32) : MM Int32 := if xL3 ≤ xL6 then (fX10_nextSign_126 k10 aL0 xL1 xS0 xL4 xL3) else (fX10_nextSign_126 k10 aL0 xL1 xS0 xL4 xL6)
def fX10_nextSign_99 (k10 : Nat → Int32 → Int32 → Int32 → Int32 → MM Int32) (aL0 : Nat) (xL1 : Int32) (xL2 : Int32) (xL3 : Int32) (xL4 : Int32) (xS0 : Int32) : MM Int32 := if xL3 ≤ xS0 then (fX10_nextSign_113 k10 aL0 xL1 xL3 xL4 xS0 xL2) else (fX10_nextSign_113 k10 aL0 xL1 xL3 xL4 xS0 xL4)
def fX10_nextSign_75 (k10 : Nat → Int32 → Int32 → Int32 → Int32 → MM Int32) (aL0 : Nat) (xL1 : Int32) (xL2 : Int32) (xL3 : Int32) (xL4 : Int32) (xL5 : Int32) : MM Int32 := m_bind (pX10_bits xL1) (fun x1 => if xL5 ≤ (x1 - xL5) then (m_bind (pX10_bits xL1) (fun x2 => fX10_nextSign_99 k10 aL0 xL1 xL2 xL3 xL4 (x2 - xL5))) else (fX10_nextSign_99 k10 aL0 xL1 xL2 xL3 xL4 xL5))
def fX10_nextSign_10  : Nat → Nat → Int32 → Int32 → Int32 → Int32 → MM Int32
  | 0, _, _, _, _, _ => m_bad
  | n + 1, aL0, xL1, xL2, xL3, xL4 => if (6 : Int32) ≤ xL4 then (m_ret xL2) else (fX10_nextSign_23 (fX10_nextSign_75 (fX10_nextSign_10 n)) c_fu aL0 xL1 xL2 xL3 xL4 0 0)
def pX10_nextSign (a0_ : Nat) (x1_ : Int32) : MM Int32 := m_bind (pX10_bits x1_) (fun x1 => fX10_nextSign_10 c_fu a0_ x1_ ((-1)) x1 0)
set_option maxRecDepth 100000 in
set_option maxHeartbeats 4000000 in
theorem tX10_nextSign_65 {p : Program} {l : Launch} {e : Env} {s : State} {m : MethodId} {args : Array Value} {below : List Frame} {meth : Method} {c : Code} {G : cG} (hO : c_Ok p s m c cX10_nextSign 7 RX10 G) (hr : meth.sig.returnType = (some .int)) (hk : meth.locks = false) (k66 : Nat → Int32 → Int32 → Int32 → Int32 → Int32 → Int32 → Int32 → MM Int32) (hk66 : ∀ (aL0 : Nat) (xL1 : Int32) (xL2 : Int32) (xL3 : Int32) (xL4 : Int32) (xL6 : Int32) (xS0 : Int32) (xS1 : Int32), Sm p l e { frames := 1, cells := 0, slots := 0, locals := 22 } s m args below meth c G 7 (c_Q G c_vi below args s 0 0) 0 0 66 [(0, .ref aL0), (1, .int xL1), (2, .int xL2), (3, .int xL3), (4, .int xL4), (6, .int xL6)] [.int xS0, .int xS1] (k66 aL0 xL1 xL2 xL3 xL4 xL6 xS0 xS1))  : ∀ (aL0 : Nat) (xL1 : Int32) (xL2 : Int32) (xL3 : Int32) (xL4 : Int32) (xL6 : Int32) (xS0 : Int32), Sm p l e { frames := 1, cells := 0, slots := 0, locals := 22 } s m args below meth c G 7 (c_Q G c_vi below args s 0 0) 0 0 65 [(0, .ref aL0), (1, .int xL1), (2, .int xL2), (3, .int xL3), (4, .int xL4), (6, .int xL6)] [.int xS0] (fX10_nextSign_65 k66 aL0 xL1 xL2 xL3 xL4 xL6 xS0) := by
  intro aL0 xL1 xL2 xL3 xL4 xL6 xS0
  rw [fX10_nextSign_65]
  refine sm_iconst (v := 0) hO dX10_nextSign_65 rfl ?_
  exact sm_sub [0, 1, 2, 3, 4, 5] rfl (hk66 aL0 xL1 xL2 xL3 xL4 xL6 0 xS0)
set_option maxRecDepth 100000 in
set_option maxHeartbeats 4000000 in
theorem tX10_nextSign_66 {p : Program} {l : Launch} {e : Env} {s : State} {m : MethodId} {args : Array Value} {below : List Frame} {meth : Method} {c : Code} {G : cG} (hO : c_Ok p s m c cX10_nextSign 7 RX10 G) (hr : meth.sig.returnType = (some .int)) (hk : meth.locks = false) (k23 : Nat → Int32 → Int32 → Int32 → Int32 → Int32 → Int32 → MM Int32) (hk23 : ∀ (aL0 : Nat) (xL1 : Int32) (xL2 : Int32) (xL3 : Int32) (xL4 : Int32) (xL5 : Int32) (xL6 : Int32), Sm p l e { frames := 1, cells := 0, slots := 0, locals := 22 } s m args below meth c G 7 (c_Q G c_vi below args s 0 0) 0 0 23 [(0, .ref aL0), (1, .int xL1), (2, .int xL2), (3, .int xL3), (4, .int xL4), (5, .int xL5), (6, .int xL6)] [] (k23 aL0 xL1 xL2 xL3 xL4 xL5 xL6))  : ∀ (aL0 : Nat) (xL1 : Int32) (xL2 : Int32) (xL3 : Int32) (xL4 : Int32) (xL6 : Int32) (xS0 : Int32) (xS1 : Int32), Sm p l e { frames := 1, cells := 0, slots := 0, locals := 22 } s m args below meth c G 7 (c_Q G c_vi below args s 0 0) 0 0 66 [(0, .ref aL0), (1, .int xL1), (2, .int xL2), (3, .int xL3), (4, .int xL4), (6, .int xL6)] [.int xS0, .int xS1] (fX10_nextSign_66 k23 aL0 xL1 xL2 xL3 xL4 xL6 xS0 xS1) := by
  intro aL0 xL1 xL2 xL3 xL4 xL6 xS0 xS1
  rw [fX10_nextSign_66]
  refine sm_iadd hO dX10_nextSign_66 ?_
  refine sm_topi (fun x1 => ?_)
  refine sm_istore hO [(5, .int x1), (0, .ref aL0), (1, .int xL1), (2, .int xL2), (3, .int xL3), (4, .int xL4), (6, .int xL6)] dX10_nextSign_67 (by decide) rfl ?_
  refine sm_iincL (v := xL6 + 1) hO 6 (fun x2 => [(6, .int x2), (5, .int x1), (0, .ref aL0), (1, .int xL1), (2, .int xL2), (3, .int xL3), (4, .int xL4)]) dX10_nextSign_69 rfl rfl (by decide) (fun _ => rfl) (fun x2 => ?_)
  refine sm_goto (tgt := 23) hO dX10_nextSign_72 (by decide) ?_
  exact sm_sub [2, 3, 4, 5, 6, 1, 0] rfl (hk23 aL0 xL1 xL2 xL3 xL4 x1 x2)
set_option maxRecDepth 100000 in
set_option maxHeartbeats 4000000 in
theorem tX10_nextSign_23 {p : Program} {l : Launch} {e : Env} {s : State} {m : MethodId} {args : Array Value} {below : List Frame} {meth : Method} {c : Code} {G : cG} (hO : c_Ok p s m c cX10_nextSign 7 RX10 G) (hr : meth.sig.returnType = (some .int)) (hk : meth.locks = false) (k75 : Nat → Int32 → Int32 → Int32 → Int32 → Int32 → MM Int32) (hk75 : ∀ (aL0 : Nat) (xL1 : Int32) (xL2 : Int32) (xL3 : Int32) (xL4 : Int32) (xL5 : Int32), Sm p l e { frames := 1, cells := 0, slots := 0, locals := 22 } s m args below meth c G 7 (c_Q G c_vi below args s 0 0) 0 0 75 [(0, .ref aL0), (1, .int xL1), (2, .int xL2), (3, .int xL3), (4, .int xL4), (5, .int xL5)] [] (k75 aL0 xL1 xL2 xL3 xL4 xL5))  : ∀ (n : Nat) (aL0 : Nat) (xL1 : Int32) (xL2 : Int32) (xL3 : Int32) (xL4 : Int32) (xL5 : Int32) (xL6 : Int32), Sm p l e { frames := 1, cells := 0, slots := 0, locals := 22 } s m args below meth c G 7 (c_Q G c_vi below args s 0 0) 0 0 23 [(0, .ref aL0), (1, .int xL1), (2, .int xL2), (3, .int xL3), (4, .int xL4), (5, .int xL5), (6, .int xL6)] [] (fX10_nextSign_23 k75 n aL0 xL1 xL2 xL3 xL4 xL5 xL6) := by
  intro n
  induction n with
  | zero =>
    intro aL0 xL1 xL2 xL3 xL4 xL5 xL6
    exact sm_bad
  | succ n ih =>
    intro aL0 xL1 xL2 xL3 xL4 xL5 xL6
    rw [fX10_nextSign_23]
    refine sm_iload hO 6 dX10_nextSign_23 rfl ?_
    refine sm_aload_n hO 0 dX10_nextSign_25 rfl rfl ?_
    refine sm_gi hO fl_RX10_79 dX10_nextSign_26 (fun x1 => ?_)
    refine sm_icmp_ge (tgt := 75) hO dX10_nextSign_29 (by decide) ?_ ?_
    · exact sm_sub [0, 1, 2, 3, 4, 5] rfl (hk75 aL0 xL1 xL2 xL3 xL4 xL5)
    · refine sm_iload hO 5 dX10_nextSign_32 rfl ?_
      refine sm_iload_n hO 1 dX10_nextSign_34 rfl rfl ?_
      refine sm_iload hO 6 dX10_nextSign_35 rfl ?_
      refine sm_csi hO (ctX10_has l G xL1 xL6) cw_RX10_175 kw_985 [.int xL5] rfl rfl ⟨(Nat.le_of_ble_eq_true rfl), (Nat.le_of_ble_eq_true rfl)⟩ ⟨(Nat.le_of_ble_eq_true rfl), (Nat.le_of_ble_eq_true rfl)⟩ (Nat.le_of_ble_eq_true rfl) dX10_nextSign_37 (fun x2 => ?_)
      refine sm_if_eq (tgt := 65) hO dX10_nextSign_40 (by decide) ?_ ?_
      · exact sm_sub [0, 1, 2, 3, 4, 6] rfl (tX10_nextSign_65 hO hr hk (fX10_nextSign_66 (fX10_nextSign_23 k75 n)) (tX10_nextSign_66 hO hr hk (fX10_nextSign_23 k75 n) ih) aL0 xL1 xL2 xL3 xL4 xL6 xL5)
      · refine sm_aload_n hO 0 dX10_nextSign_43 rfl rfl ?_
        refine sm_gr hO fl_RX10_22 dX10_nextSign_44 (fun a3 => ?_)
        refine sm_bipush (v := 17) hO dX10_nextSign_47 rfl ?_
        refine sm_iload hO 6 dX10_nextSign_49 rfl ?_
        refine sm_iadd hO dX10_nextSign_51 ?_
        refine sm_li hO dX10_nextSign_52 (fun x4 => ?_)
        refine sm_iload hO 4 dX10_nextSign_53 rfl ?_
        refine sm_csi hO (ctX10_has l G x4 xL4) cw_RX10_175 kw_985 [.int xL5] rfl rfl ⟨(Nat.le_of_ble_eq_true rfl), (Nat.le_of_ble_eq_true rfl)⟩ ⟨(Nat.le_of_ble_eq_true rfl), (Nat.le_of_ble_eq_true rfl)⟩ (Nat.le_of_ble_eq_true rfl) dX10_nextSign_55 (fun x5 => ?_)
        refine sm_if_eq (tgt := 65) hO dX10_nextSign_58 (by decide) ?_ ?_
        · exact sm_sub [0, 1, 2, 3, 4, 6] rfl (tX10_nextSign_65 hO hr hk (fX10_nextSign_66 (fX10_nextSign_23 k75 n)) (tX10_nextSign_66 hO hr hk (fX10_nextSign_23 k75 n) ih) aL0 xL1 xL2 xL3 xL4 xL6 xL5)
        · refine sm_iconst (v := 1) hO dX10_nextSign_61 rfl ?_
          refine sm_goto (tgt := 66) hO dX10_nextSign_62 (by decide) ?_
          exact sm_sub [0, 1, 2, 3, 4, 6] rfl (tX10_nextSign_66 hO hr hk (fX10_nextSign_23 k75 n) ih aL0 xL1 xL2 xL3 xL4 xL6 1 xL5)
set_option maxRecDepth 100000 in
set_option maxHeartbeats 4000000 in
theorem tX10_nextSign_126 {p : Program} {l : Launch} {e : Env} {s : State} {m : MethodId} {args : Array Value} {below : List Frame} {meth : Method} {c : Code} {G : cG} (hO : c_Ok p s m c cX10_nextSign 7 RX10 G) (hr : meth.sig.returnType = (some .int)) (hk : meth.locks = false) (k10 : Nat → Int32 → Int32 → Int32 → Int32 → MM Int32) (hk10 : ∀ (aL0 : Nat) (xL1 : Int32) (xL2 : Int32) (xL3 : Int32) (xL4 : Int32), Sm p l e { frames := 1, cells := 0, slots := 0, locals := 22 } s m args below meth c G 7 (c_Q G c_vi below args s 0 0) 0 0 10 [(0, .ref aL0), (1, .int xL1), (2, .int xL2), (3, .int xL3), (4, .int xL4)] [] (k10 aL0 xL1 xL2 xL3 xL4))  : ∀ (aL0 : Nat) (xL1 : Int32) (xL2 : Int32) (xL4 : Int32) (xS0 : Int32), Sm p l e { frames := 1, cells := 0, slots := 0, locals := 22 } s m args below meth c G 7 (c_Q G c_vi below args s 0 0) 0 0 126 [(0, .ref aL0), (1, .int xL1), (2, .int xL2), (4, .int xL4)] [.int xS0] (fX10_nextSign_126 k10 aL0 xL1 xL2 xL4 xS0) := by
  intro aL0 xL1 xL2 xL4 xS0
  rw [fX10_nextSign_126]
  refine sm_istore_n hO [(3, .int xS0), (0, .ref aL0), (1, .int xL1), (2, .int xL2), (4, .int xL4)] dX10_nextSign_126 rfl (by decide) rfl ?_
  refine sm_iincL (v := xL4 + 1) hO 4 (fun x1 => [(4, .int x1), (3, .int xS0), (0, .ref aL0), (1, .int xL1), (2, .int xL2)]) dX10_nextSign_127 rfl rfl (by decide) (fun _ => rfl) (fun x1 => ?_)
  refine sm_goto (tgt := 10) hO dX10_nextSign_130 (by decide) ?_
  exact sm_sub [2, 3, 4, 1, 0] rfl (hk10 aL0 xL1 xL2 xS0 x1)
set_option maxRecDepth 100000 in
set_option maxHeartbeats 4000000 in
theorem tX10_nextSign_113 {p : Program} {l : Launch} {e : Env} {s : State} {m : MethodId} {args : Array Value} {below : List Frame} {meth : Method} {c : Code} {G : cG} (hO : c_Ok p s m c cX10_nextSign 7 RX10 G) (hr : meth.sig.returnType = (some .int)) (hk : meth.locks = false) (k10 : Nat → Int32 → Int32 → Int32 → Int32 → MM Int32) (hk10 : ∀ (aL0 : Nat) (xL1 : Int32) (xL2 : Int32) (xL3 : Int32) (xL4 : Int32), Sm p l e { frames := 1, cells := 0, slots := 0, locals := 22 } s m args below meth c G 7 (c_Q G c_vi below args s 0 0) 0 0 10 [(0, .ref aL0), (1, .int xL1), (2, .int xL2), (3, .int xL3), (4, .int xL4)] [] (k10 aL0 xL1 xL2 xL3 xL4))  : ∀ (aL0 : Nat) (xL1 : Int32) (xL3 : Int32) (xL4 : Int32) (xL6 : Int32) (xS0 : Int32), Sm p l e { frames := 1, cells := 0, slots := 0, locals := 22 } s m args below meth c G 7 (c_Q G c_vi below args s 0 0) 0 0 113 [(0, .ref aL0), (1, .int xL1), (3, .int xL3), (4, .int xL4), (6, .int xL6)] [.int xS0] (fX10_nextSign_113 k10 aL0 xL1 xL3 xL4 xL6 xS0) := by
  intro aL0 xL1 xL3 xL4 xL6 xS0
  rw [fX10_nextSign_113]
  refine sm_istore_n hO [(2, .int xS0), (0, .ref aL0), (1, .int xL1), (3, .int xL3), (4, .int xL4), (6, .int xL6)] dX10_nextSign_113 rfl (by decide) rfl ?_
  refine sm_iload hO 5 dX10_nextSign_114 rfl ?_
  refine sm_iload_n hO 3 dX10_nextSign_116 rfl rfl ?_
  refine sm_icmp_ge (tgt := 125) hO dX10_nextSign_117 (by decide) ?_ ?_
  · refine sm_iload_n hO 3 dX10_nextSign_125 rfl rfl ?_
    exact sm_sub [1, 2, 0, 4] rfl (tX10_nextSign_126 hO hr hk k10 hk10 aL0 xL1 xS0 xL4 xL3)
  · refine sm_iload hO 5 dX10_nextSign_120 rfl ?_
    refine sm_goto (tgt := 126) hO dX10_nextSign_122 (by decide) ?_
    exact sm_sub [1, 2, 0, 4] rfl (tX10_nextSign_126 hO hr hk k10 hk10 aL0 xL1 xS0 xL4 xL6)
set_option maxRecDepth 100000 in
set_option maxHeartbeats 4000000 in
theorem tX10_nextSign_99 {p : Program} {l : Launch} {e : Env} {s : State} {m : MethodId} {args : Array Value} {below : List Frame} {meth : Method} {c : Code} {G : cG} (hO : c_Ok p s m c cX10_nextSign 7 RX10 G) (hr : meth.sig.returnType = (some .int)) (hk : meth.locks = false) (k10 : Nat → Int32 → Int32 → Int32 → Int32 → MM Int32) (hk10 : ∀ (aL0 : Nat) (xL1 : Int32) (xL2 : Int32) (xL3 : Int32) (xL4 : Int32), Sm p l e { frames := 1, cells := 0, slots := 0, locals := 22 } s m args below meth c G 7 (c_Q G c_vi below args s 0 0) 0 0 10 [(0, .ref aL0), (1, .int xL1), (2, .int xL2), (3, .int xL3), (4, .int xL4)] [] (k10 aL0 xL1 xL2 xL3 xL4))  : ∀ (aL0 : Nat) (xL1 : Int32) (xL2 : Int32) (xL3 : Int32) (xL4 : Int32) (xS0 : Int32), Sm p l e { frames := 1, cells := 0, slots := 0, locals := 22 } s m args below meth c G 7 (c_Q G c_vi below args s 0 0) 0 0 99 [(0, .ref aL0), (1, .int xL1), (2, .int xL2), (3, .int xL3), (4, .int xL4)] [.int xS0] (fX10_nextSign_99 k10 aL0 xL1 xL2 xL3 xL4 xS0) := by
  intro aL0 xL1 xL2 xL3 xL4 xS0
  rw [fX10_nextSign_99]
  refine sm_istore hO [(6, .int xS0), (0, .ref aL0), (1, .int xL1), (2, .int xL2), (3, .int xL3), (4, .int xL4)] dX10_nextSign_99 (by decide) rfl ?_
  refine sm_iload hO 0 dX10_nextSign_101 rfl ?_
  refine sm_iload_n hO 4 dX10_nextSign_103 rfl rfl ?_
  refine sm_icmp_ge (tgt := 112) hO dX10_nextSign_104 (by decide) ?_ ?_
  · refine sm_iload_n hO 3 dX10_nextSign_112 rfl rfl ?_
    exact sm_sub [1, 2, 4, 5, 0] rfl (tX10_nextSign_113 hO hr hk k10 hk10 aL0 xL1 xL3 xL4 xS0 xL2)
  · refine sm_iload hO 5 dX10_nextSign_107 rfl ?_
    refine sm_goto (tgt := 113) hO dX10_nextSign_109 (by decide) ?_
    exact sm_sub [1, 2, 4, 5, 0] rfl (tX10_nextSign_113 hO hr hk k10 hk10 aL0 xL1 xL3 xL4 xS0 xL4)
set_option maxRecDepth 100000 in
set_option maxHeartbeats 4000000 in
theorem tX10_nextSign_75 {p : Program} {l : Launch} {e : Env} {s : State} {m : MethodId} {args : Array Value} {below : List Frame} {meth : Method} {c : Code} {G : cG} (hO : c_Ok p s m c cX10_nextSign 7 RX10 G) (hr : meth.sig.returnType = (some .int)) (hk : meth.locks = false) (k10 : Nat → Int32 → Int32 → Int32 → Int32 → MM Int32) (hk10 : ∀ (aL0 : Nat) (xL1 : Int32) (xL2 : Int32) (xL3 : Int32) (xL4 : Int32), Sm p l e { frames := 1, cells := 0, slots := 0, locals := 22 } s m args below meth c G 7 (c_Q G c_vi below args s 0 0) 0 0 10 [(0, .ref aL0), (1, .int xL1), (2, .int xL2), (3, .int xL3), (4, .int xL4)] [] (k10 aL0 xL1 xL2 xL3 xL4))  : ∀ (aL0 : Nat) (xL1 : Int32) (xL2 : Int32) (xL3 : Int32) (xL4 : Int32) (xL5 : Int32), Sm p l e { frames := 1, cells := 0, slots := 0, locals := 22 } s m args below meth c G 7 (c_Q G c_vi below args s 0 0) 0 0 75 [(0, .ref aL0), (1, .int xL1), (2, .int xL2), (3, .int xL3), (4, .int xL4), (5, .int xL5)] [] (fX10_nextSign_75 k10 aL0 xL1 xL2 xL3 xL4 xL5) := by
  intro aL0 xL1 xL2 xL3 xL4 xL5
  rw [fX10_nextSign_75]
  refine sm_iload hO 5 dX10_nextSign_75 rfl ?_
  refine sm_iload_n hO 1 dX10_nextSign_77 rfl rfl ?_
  refine sm_csi hO (ctX10_bits l G xL1) cw_RX10_188 kw_1004 [.int xL5] rfl rfl ⟨(Nat.le_of_ble_eq_true rfl), (Nat.le_of_ble_eq_true rfl)⟩ ⟨(Nat.le_of_ble_eq_true rfl), (Nat.le_of_ble_eq_true rfl)⟩ (Nat.le_of_ble_eq_true rfl) dX10_nextSign_78 (fun x1 => ?_)
  refine sm_iload hO 5 dX10_nextSign_81 rfl ?_
  refine sm_isub hO dX10_nextSign_83 ?_
  refine sm_icmp_le (tgt := 92) hO dX10_nextSign_84 (by decide) ?_ ?_
  · refine sm_iload_n hO 1 dX10_nextSign_92 rfl rfl ?_
    refine sm_csi hO (ctX10_bits l G xL1) cw_RX10_188 kw_1004 [] rfl rfl ⟨(Nat.le_of_ble_eq_true rfl), (Nat.le_of_ble_eq_true rfl)⟩ ⟨(Nat.le_of_ble_eq_true rfl), (Nat.le_of_ble_eq_true rfl)⟩ (Nat.le_of_ble_eq_true rfl) dX10_nextSign_93 (fun x2 => ?_)
    refine sm_iload hO 5 dX10_nextSign_96 rfl ?_
    refine sm_isub hO dX10_nextSign_98 ?_
    exact sm_sub [0, 1, 2, 3, 4] rfl (tX10_nextSign_99 hO hr hk k10 hk10 aL0 xL1 xL2 xL3 xL4 (x2 - xL5))
  · refine sm_iload hO 5 dX10_nextSign_87 rfl ?_
    refine sm_goto (tgt := 99) hO dX10_nextSign_89 (by decide) ?_
    exact sm_sub [0, 1, 2, 3, 4] rfl (tX10_nextSign_99 hO hr hk k10 hk10 aL0 xL1 xL2 xL3 xL4 xL5)
set_option maxRecDepth 100000 in
set_option maxHeartbeats 4000000 in
theorem tX10_nextSign_10 {p : Program} {l : Launch} {e : Env} {s : State} {m : MethodId} {args : Array Value} {below : List Frame} {meth : Method} {c : Code} {G : cG} (hO : c_Ok p s m c cX10_nextSign 7 RX10 G) (hr : meth.sig.returnType = (some .int)) (hk : meth.locks = false) : ∀ (n : Nat) (aL0 : Nat) (xL1 : Int32) (xL2 : Int32) (xL3 : Int32) (xL4 : Int32), Sm p l e { frames := 1, cells := 0, slots := 0, locals := 22 } s m args below meth c G 7 (c_Q G c_vi below args s 0 0) 0 0 10 [(0, .ref aL0), (1, .int xL1), (2, .int xL2), (3, .int xL3), (4, .int xL4)] [] (fX10_nextSign_10 n aL0 xL1 xL2 xL3 xL4) := by
  intro n
  induction n with
  | zero =>
    intro aL0 xL1 xL2 xL3 xL4
    exact sm_bad
  | succ n ih =>
    intro aL0 xL1 xL2 xL3 xL4
    rw [fX10_nextSign_10]
    refine sm_iload hO 4 dX10_nextSign_10 rfl ?_
    refine sm_bipush (v := 6) hO dX10_nextSign_12 rfl ?_
    refine sm_icmp_ge (tgt := 133) hO dX10_nextSign_14 (by decide) ?_ ?_
    · refine sm_iload_n hO 2 dX10_nextSign_133 rfl rfl ?_
      exact sm_iret hO hr hk (Nat.le_of_ble_eq_true rfl) (Nat.le_of_ble_eq_true rfl) dX10_nextSign_134
    · refine sm_iconst (v := 0) hO dX10_nextSign_17 rfl ?_
      refine sm_istore hO [(5, .int 0), (0, .ref aL0), (1, .int xL1), (2, .int xL2), (3, .int xL3), (4, .int xL4)] dX10_nextSign_18 (by decide) rfl ?_
      refine sm_iconst (v := 0) hO dX10_nextSign_20 rfl ?_
      refine sm_istore hO [(6, .int 0), (5, .int 0), (0, .ref aL0), (1, .int xL1), (2, .int xL2), (3, .int xL3), (4, .int xL4)] dX10_nextSign_21 (by decide) rfl ?_
      exact sm_sub [2, 3, 4, 5, 6, 1, 0] rfl (tX10_nextSign_23 hO hr hk (fX10_nextSign_75 (fX10_nextSign_10 n)) (tX10_nextSign_75 hO hr hk (fX10_nextSign_10 n) ih) c_fu aL0 xL1 xL2 xL3 xL4 0 0)
set_option maxRecDepth 100000 in
set_option maxHeartbeats 4000000 in
theorem ctX10_nextSign (l : Launch) (G : cG) (a0_ : Nat) (x1_ : Int32) : Ct l G yX10_nextSign cX10_nextSign 7 (some .int) 1 22 0 0 [.ref a0_, .int x1_] c_vi (pX10_nextSign a0_ x1_) := by
  refine Ct.of (lv := [(0, .ref a0_), (1, .int x1_)]) (by decide) (Nat.le_of_ble_eq_true rfl) rfl (fun p e s m args below meth c hO hr hk hin => ?_)
  rw [pX10_nextSign]
  refine sm_iconst (v := (-1)) hO dX10_nextSign_0 rfl ?_
  refine sm_istore_n hO [(2, .int ((-1))), (0, .ref a0_), (1, .int x1_)] dX10_nextSign_1 rfl (by decide) rfl ?_
  refine sm_iload_n hO 2 dX10_nextSign_2 rfl rfl ?_
  refine sm_csi hO (ctX10_bits l G x1_) cw_RX10_188 kw_1004 [] rfl rfl ⟨(Nat.le_of_ble_eq_true rfl), (Nat.le_of_ble_eq_true rfl)⟩ ⟨(Nat.le_of_ble_eq_true rfl), (Nat.le_of_ble_eq_true rfl)⟩ (Nat.le_of_ble_eq_true rfl) dX10_nextSign_3 (fun x1 => ?_)
  refine sm_istore_n hO [(3, .int x1), (2, .int ((-1))), (0, .ref a0_), (1, .int x1_)] dX10_nextSign_6 rfl (by decide) rfl ?_
  refine sm_iconst (v := 0) hO dX10_nextSign_7 rfl ?_
  refine sm_istore hO [(4, .int 0), (3, .int x1), (2, .int ((-1))), (0, .ref a0_), (1, .int x1_)] dX10_nextSign_8 (by decide) rfl ?_
  exact sm_sub [3, 4, 2, 1, 0] rfl (tX10_nextSign_10 hO hr hk c_fu a0_ x1_ ((-1)) x1 0)
/-! DollCongressModel.look(II)I -/
def pX10_look (a0_ : Nat) (x1_ : Int32) (x2_ : Int32) : MM Int32 := m_bind (pX10_in (x1_.toInt64) 0 63) (fun x1 => if x1 = 0 then (m_ret ((-1000000002) : Int32)) else (m_bind (pX10_in (x2_.toInt64) 0 1) (fun x2 => if x2 = 0 then (m_ret ((-1000000002) : Int32)) else (m_cv a0_ 9 (pX10_likeIn a0_ x1_) (fun x3 => if x2_ = 0 then (m_ret x3) else (m_cv a0_ 9 (pX10_nextSign a0_ x3) (fun x4 => m_ret x4)))))))
set_option maxRecDepth 100000 in
set_option maxHeartbeats 4000000 in
theorem ctX10_look (l : Launch) (G : cG) (a0_ : Nat) (x1_ : Int32) (x2_ : Int32) : Ct l G yX10_look cX10_look 4 (some .int) 2 48 0 0 [.ref a0_, .int x1_, .int x2_] c_vi (pX10_look a0_ x1_ x2_) := by
  refine Ct.of (lv := [(0, .ref a0_), (1, .int x1_), (2, .int x2_)]) (by decide) (Nat.le_of_ble_eq_true rfl) rfl (fun p e s m args below meth c hO hr hk hin => ?_)
  rw [pX10_look]
  refine sm_iload_n hO 1 dX10_look_0 rfl rfl ?_
  refine sm_i2l (v := x1_.toInt64) hO dX10_look_1 rfl ?_
  refine sm_lconst (v := 0) hO dX10_look_2 rfl ?_
  refine sm_ldc2 (v := 63) hO kw_1099 dX10_look_3 ?_
  refine sm_csi hO (ctX10_in l G (x1_.toInt64) 0 63) cw_RX10_75 kw_923 [] rfl rfl ⟨(Nat.le_of_ble_eq_true rfl), (Nat.le_of_ble_eq_true rfl)⟩ ⟨(Nat.le_of_ble_eq_true rfl), (Nat.le_of_ble_eq_true rfl)⟩ (Nat.le_of_ble_eq_true rfl) dX10_look_6 (fun x1 => ?_)
  refine sm_if_eq (tgt := 22) hO dX10_look_9 (by decide) ?_ ?_
  · refine sm_ldc (v := (-1000000002)) hO kw_925 dX10_look_22 ?_
    exact sm_iret hO hr hk (Nat.le_of_ble_eq_true rfl) (Nat.le_of_ble_eq_true rfl) dX10_look_24
  · refine sm_iload_n hO 2 dX10_look_12 rfl rfl ?_
    refine sm_i2l (v := x2_.toInt64) hO dX10_look_13 rfl ?_
    refine sm_lconst (v := 0) hO dX10_look_14 rfl ?_
    refine sm_lconst (v := 1) hO dX10_look_15 rfl ?_
    refine sm_csi hO (ctX10_in l G (x2_.toInt64) 0 1) cw_RX10_75 kw_923 [] rfl rfl ⟨(Nat.le_of_ble_eq_true rfl), (Nat.le_of_ble_eq_true rfl)⟩ ⟨(Nat.le_of_ble_eq_true rfl), (Nat.le_of_ble_eq_true rfl)⟩ (Nat.le_of_ble_eq_true rfl) dX10_look_16 (fun x2 => ?_)
    refine sm_if_ne (tgt := 25) hO dX10_look_19 (by decide) ?_ ?_
    · refine sm_aload_n hO 0 dX10_look_25 rfl rfl ?_
      refine sm_iload_n hO 1 dX10_look_26 rfl rfl ?_
      refine sm_cvi hO (ctX10_likeIn l G a0_ x1_) cw_RX10_294 cv_X10_likeIn [] rfl rfl ⟨(Nat.le_of_ble_eq_true rfl), (Nat.le_of_ble_eq_true rfl)⟩ ⟨(Nat.le_of_ble_eq_true rfl), (Nat.le_of_ble_eq_true rfl)⟩ (Nat.le_of_ble_eq_true rfl) dX10_look_27 (fun x3 => ?_)
      refine sm_istore_n hO [(3, .int x3), (0, .ref a0_), (1, .int x1_), (2, .int x2_)] dX10_look_30 rfl (by decide) rfl ?_
      refine sm_iload_n hO 3 dX10_look_31 rfl rfl ?_
      refine sm_if_ne (tgt := 39) hO dX10_look_32 (by decide) ?_ ?_
      · refine sm_aload_n hO 1 dX10_look_39 rfl rfl ?_
        refine sm_iload_n hO 0 dX10_look_40 rfl rfl ?_
        refine sm_cvi hO (ctX10_nextSign l G a0_ x3) cw_RX10_297 cv_X10_nextSign [] rfl rfl ⟨(Nat.le_of_ble_eq_true rfl), (Nat.le_of_ble_eq_true rfl)⟩ ⟨(Nat.le_of_ble_eq_true rfl), (Nat.le_of_ble_eq_true rfl)⟩ (Nat.le_of_ble_eq_true rfl) dX10_look_41 (fun x4 => ?_)
        exact sm_iret hO hr hk (Nat.le_of_ble_eq_true rfl) (Nat.le_of_ble_eq_true rfl) dX10_look_44
      · refine sm_iload_n hO 0 dX10_look_35 rfl rfl ?_
        refine sm_goto (tgt := 44) hO dX10_look_36 (by decide) ?_
        exact sm_iret hO hr hk (Nat.le_of_ble_eq_true rfl) (Nat.le_of_ble_eq_true rfl) dX10_look_44
    · refine sm_ldc (v := (-1000000002)) hO kw_925 dX10_look_22 ?_
      exact sm_iret hO hr hk (Nat.le_of_ble_eq_true rfl) (Nat.le_of_ble_eq_true rfl) dX10_look_24
/-! DollCongress.agreed(I)I -/
def pX9_agreed (a0_ : Nat) (x1_ : Int32) : MM Int32 := if x1_ < 0 then (m_ret ((-1000000001) : Int32)) else (m_gr a0_ 8 7 (fun a1 => m_cv a1 4 (pX4_allCourts a1) (fun x2 => if x1_ ≤ x2 then (m_cv a0_ 8 (pX9_hasCongress a0_) (fun x3 => if x3 = 0 then (m_ret (0 : Int32)) else (m_gr a0_ 8 7 (fun a4 => m_gr a4 4 4 (fun a5 => m_li 0 a5 x1_ (fun x6 => m_gr a0_ 8 7 (fun a7 => m_gi a7 4 8 (fun x8 => if x6 < x8 then (m_ret (0 : Int32)) else (m_ret (1 : Int32)))))))))) else (m_ret ((-1000000001) : Int32)))))
set_option maxRecDepth 100000 in
set_option maxHeartbeats 4000000 in
theorem ctX9_agreed (l : Launch) (G : cG) (a0_ : Nat) (x1_ : Int32) : Ct l G yX9_agreed cX9_agreed 2 (some .int) 1 20 0 0 [.ref a0_, .int x1_] c_vi (pX9_agreed a0_ x1_) := by
  refine Ct.of (lv := [(0, .ref a0_), (1, .int x1_)]) (by decide) (Nat.le_of_ble_eq_true rfl) rfl (fun p e s m args below meth c hO hr hk hin => ?_)
  rw [pX9_agreed]
  refine sm_iload_n hO 1 dX9_agreed_0 rfl rfl ?_
  refine sm_if_lt (tgt := 15) hO dX9_agreed_1 (by decide) ?_ ?_
  · refine sm_ldc (v := (-1000000001)) hO kw_512 dX9_agreed_15 ?_
    exact sm_iret hO hr hk (Nat.le_of_ble_eq_true rfl) (Nat.le_of_ble_eq_true rfl) dX9_agreed_17
  · refine sm_iload_n hO 1 dX9_agreed_4 rfl rfl ?_
    refine sm_aload_n hO 0 dX9_agreed_5 rfl rfl ?_
    refine sm_gr hO fl_RX9_60 dX9_agreed_6 (fun a1 => ?_)
    refine sm_cvi hO (ctX4_allCourts l G a1) cw_RX9_246 cv_X4_allCourts [.int x1_] rfl rfl ⟨(Nat.le_of_ble_eq_true rfl), (Nat.le_of_ble_eq_true rfl)⟩ ⟨(Nat.le_of_ble_eq_true rfl), (Nat.le_of_ble_eq_true rfl)⟩ (Nat.le_of_ble_eq_true rfl) dX9_agreed_9 (fun x2 => ?_)
    refine sm_icmp_le (tgt := 18) hO dX9_agreed_12 (by decide) ?_ ?_
    · refine sm_aload_n hO 0 dX9_agreed_18 rfl rfl ?_
      refine sm_cvi hO (ctX9_hasCongress l G a0_) cw_RX9_141 cv_X9_hasCongress [] rfl rfl ⟨(Nat.le_of_ble_eq_true rfl), (Nat.le_of_ble_eq_true rfl)⟩ ⟨(Nat.le_of_ble_eq_true rfl), (Nat.le_of_ble_eq_true rfl)⟩ (Nat.le_of_ble_eq_true rfl) dX9_agreed_19 (fun x3 => ?_)
      refine sm_if_eq (tgt := 48) hO dX9_agreed_22 (by decide) ?_ ?_
      · refine sm_iconst (v := 0) hO dX9_agreed_48 rfl ?_
        exact sm_iret hO hr hk (Nat.le_of_ble_eq_true rfl) (Nat.le_of_ble_eq_true rfl) dX9_agreed_49
      · refine sm_aload_n hO 0 dX9_agreed_25 rfl rfl ?_
        refine sm_gr hO fl_RX9_60 dX9_agreed_26 (fun a4 => ?_)
        refine sm_gr hO fl_RX9_249 dX9_agreed_29 (fun a5 => ?_)
        refine sm_iload_n hO 1 dX9_agreed_32 rfl rfl ?_
        refine sm_li hO dX9_agreed_33 (fun x6 => ?_)
        refine sm_aload_n hO 0 dX9_agreed_34 rfl rfl ?_
        refine sm_gr hO fl_RX9_60 dX9_agreed_35 (fun a7 => ?_)
        refine sm_gi hO fl_RX9_109 dX9_agreed_38 (fun x8 => ?_)
        refine sm_icmp_lt (tgt := 48) hO dX9_agreed_41 (by decide) ?_ ?_
        · refine sm_iconst (v := 0) hO dX9_agreed_48 rfl ?_
          exact sm_iret hO hr hk (Nat.le_of_ble_eq_true rfl) (Nat.le_of_ble_eq_true rfl) dX9_agreed_49
        · refine sm_iconst (v := 1) hO dX9_agreed_44 rfl ?_
          refine sm_goto (tgt := 49) hO dX9_agreed_45 (by decide) ?_
          exact sm_iret hO hr hk (Nat.le_of_ble_eq_true rfl) (Nat.le_of_ble_eq_true rfl) dX9_agreed_49
    · refine sm_ldc (v := (-1000000001)) hO kw_512 dX9_agreed_15 ?_
      exact sm_iret hO hr hk (Nat.le_of_ble_eq_true rfl) (Nat.le_of_ble_eq_true rfl) dX9_agreed_17
/-! DollCongressModel.agreed(I)I -/
def pX10_agreed (a0_ : Nat) (x1_ : Int32) : MM Int32 := m_gi a0_ 9 0 (fun x1 => m_bind (pX10_in (x1_.toInt64) 0 ((((1 : Int32) <<< (x1 &&& 31)) - 1).toInt64)) (fun x2 => if x2 = 0 then (m_ret ((-1000000001) : Int32)) else (m_gi a0_ 9 0 (fun x3 => if x3 ≤ 0 then (m_ret (0 : Int32)) else (m_cv a0_ 9 (pX10_hasQuota a0_ x1_) (fun x4 => if x4 = 0 then (m_ret (0 : Int32)) else (m_ret (1 : Int32))))))))
set_option maxRecDepth 100000 in
set_option maxHeartbeats 4000000 in
theorem ctX10_agreed (l : Launch) (G : cG) (a0_ : Nat) (x1_ : Int32) : Ct l G yX10_agreed cX10_agreed 2 (some .int) 3 65 0 0 [.ref a0_, .int x1_] c_vi (pX10_agreed a0_ x1_) := by
  refine Ct.of (lv := [(0, .ref a0_), (1, .int x1_)]) (by decide) (Nat.le_of_ble_eq_true rfl) rfl (fun p e s m args below meth c hO hr hk hin => ?_)
  rw [pX10_agreed]
  refine sm_iload_n hO 1 dX10_agreed_0 rfl rfl ?_
  refine sm_i2l (v := x1_.toInt64) hO dX10_agreed_1 rfl ?_
  refine sm_lconst (v := 0) hO dX10_agreed_2 rfl ?_
  refine sm_iconst (v := 1) hO dX10_agreed_3 rfl ?_
  refine sm_aload_n hO 0 dX10_agreed_4 rfl rfl ?_
  refine sm_gi hO fl_RX10_72 dX10_agreed_5 (fun x1 => ?_)
  refine sm_ishl hO dX10_agreed_8 ?_
  refine sm_iconst (v := 1) hO dX10_agreed_9 rfl ?_
  refine sm_isub hO dX10_agreed_10 ?_
  refine sm_i2l (v := (((1 : Int32) <<< (x1 &&& 31)) - 1).toInt64) hO dX10_agreed_11 rfl ?_
  refine sm_csi hO (ctX10_in l G (x1_.toInt64) 0 ((((1 : Int32) <<< (x1 &&& 31)) - 1).toInt64)) cw_RX10_75 kw_923 [] rfl rfl ⟨(Nat.le_of_ble_eq_true rfl), (Nat.le_of_ble_eq_true rfl)⟩ ⟨(Nat.le_of_ble_eq_true rfl), (Nat.le_of_ble_eq_true rfl)⟩ (Nat.le_of_ble_eq_true rfl) dX10_agreed_12 (fun x2 => ?_)
  refine sm_if_ne (tgt := 21) hO dX10_agreed_15 (by decide) ?_ ?_
  · refine sm_aload_n hO 0 dX10_agreed_21 rfl rfl ?_
    refine sm_gi hO fl_RX10_72 dX10_agreed_22 (fun x3 => ?_)
    refine sm_if_le (tgt := 40) hO dX10_agreed_25 (by decide) ?_ ?_
    · refine sm_iconst (v := 0) hO dX10_agreed_40 rfl ?_
      exact sm_iret hO hr hk (Nat.le_of_ble_eq_true rfl) (Nat.le_of_ble_eq_true rfl) dX10_agreed_41
    · refine sm_aload_n hO 0 dX10_agreed_28 rfl rfl ?_
      refine sm_iload_n hO 1 dX10_agreed_29 rfl rfl ?_
      refine sm_cvi hO (ctX10_hasQuota l G a0_ x1_) cw_RX10_185 cv_X10_hasQuota [] rfl rfl ⟨(Nat.le_of_ble_eq_true rfl), (Nat.le_of_ble_eq_true rfl)⟩ ⟨(Nat.le_of_ble_eq_true rfl), (Nat.le_of_ble_eq_true rfl)⟩ (Nat.le_of_ble_eq_true rfl) dX10_agreed_30 (fun x4 => ?_)
      refine sm_if_eq (tgt := 40) hO dX10_agreed_33 (by decide) ?_ ?_
      · refine sm_iconst (v := 0) hO dX10_agreed_40 rfl ?_
        exact sm_iret hO hr hk (Nat.le_of_ble_eq_true rfl) (Nat.le_of_ble_eq_true rfl) dX10_agreed_41
      · refine sm_iconst (v := 1) hO dX10_agreed_36 rfl ?_
        refine sm_goto (tgt := 41) hO dX10_agreed_37 (by decide) ?_
        exact sm_iret hO hr hk (Nat.le_of_ble_eq_true rfl) (Nat.le_of_ble_eq_true rfl) dX10_agreed_41
  · refine sm_ldc (v := (-1000000001)) hO kw_1046 dX10_agreed_18 ?_
    exact sm_iret hO hr hk (Nat.le_of_ble_eq_true rfl) (Nat.le_of_ble_eq_true rfl) dX10_agreed_20
/-! DollCongress.isThing(I)Z -/
def pX9_isThing (x0_ : Int32) : MM Int32 := if x0_ < 0 then (m_ret 0) else (if (3 : Int32) ≤ x0_ then (m_ret 0) else (m_ret 1))
set_option maxRecDepth 100000 in
set_option maxHeartbeats 4000000 in
theorem ctX9_isThing (l : Launch) (G : cG) (x0_ : Int32) : Ct l G yX9_isThing cX9_isThing 1 (some .boolean) 0 0 0 0 [.int x0_] c_vi (pX9_isThing x0_) := by
  refine Ct.of (lv := [(0, .int x0_)]) (by decide) (Nat.le_of_ble_eq_true rfl) rfl (fun p e s m args below meth c hO hr hk hin => ?_)
  rw [pX9_isThing]
  refine sm_iload_n hO 0 dX9_isThing_0 rfl rfl ?_
  refine sm_if_lt (tgt := 13) hO dX9_isThing_1 (by decide) ?_ ?_
  · refine sm_iconst (v := 0) hO dX9_isThing_13 rfl ?_
    exact sm_zret hO hr hk rfl (Nat.le_of_ble_eq_true rfl) (Nat.le_of_ble_eq_true rfl) dX9_isThing_14
  · refine sm_iload_n hO 0 dX9_isThing_4 rfl rfl ?_
    refine sm_iconst (v := 3) hO dX9_isThing_5 rfl ?_
    refine sm_icmp_ge (tgt := 13) hO dX9_isThing_6 (by decide) ?_ ?_
    · refine sm_iconst (v := 0) hO dX9_isThing_13 rfl ?_
      exact sm_zret hO hr hk rfl (Nat.le_of_ble_eq_true rfl) (Nat.le_of_ble_eq_true rfl) dX9_isThing_14
    · refine sm_iconst (v := 1) hO dX9_isThing_9 rfl ?_
      refine sm_goto (tgt := 14) hO dX9_isThing_10 (by decide) ?_
      exact sm_zret hO hr hk rfl (Nat.le_of_ble_eq_true rfl) (Nat.le_of_ble_eq_true rfl) dX9_isThing_14
/-! DollCongress$Roll.winnerOf(II)I -/
def fX4_winnerOf_89 (k19 : Nat → Int32 → Int32 → Int32 → Int32 → MM Int32) (aL0 : Nat) (xL3 : Int32) (xL4 : Int32) (xL6 : Int32) (xS0 : Int32) (xS1 : Int32) : MM Int32 := m_let (xS1 + xS0) (fun x1 => m_let (xL6 + 1) (fun x2 => k19 aL0 xL3 xL4 x1 x2))
def fX4_winnerOf_62 (k19 : Nat → Int32 → Int32 → Int32 → Int32 → MM Int32) (aL0 : Nat) (xL3 : Int32) (xL4 : Int32) (xL5 : Int32) (xL6 : Int32) (xS0 : Int32) : MM Int32 := if xS0 = 0 then (m_gr aL0 4 0 (fun a1 => m_li 0 a1 xL6 (fun x2 => fX4_winnerOf_89 k19 aL0 xL3 xL4 xL6 (-x2) xL5))) else (m_gr aL0 4 0 (fun a3 => m_li 0 a3 xL6 (fun x4 => fX4_winnerOf_89 k19 aL0 xL3 xL4 xL6 x4 xL5)))
def fX4_winnerOf_19 (k98 : Int32 → Int32 → Int32 → MM Int32) : Nat → Nat → Int32 → Int32 → Int32 → Int32 → MM Int32
  | 0, _, _, _, _, _ => m_bad
  | n + 1, aL0, xL3, xL4, xL5, xL6 => m_gi aL0 4 5 (fun x1 => if x1 ≤ xL6 then (k98 xL3 xL4 xL5) else (m_nz (6 : Int32) (m_let ((xL6 - xL6 / 6 * 6) * 3) (fun x2 => m_li 0 1 (x2 + xL3) (fun x3 => m_li 0 1 (x2 + xL4) (fun x4 => if x4 ≤ x3 then (fX4_winnerOf_62 (fX4_winnerOf_19 k98 n) aL0 xL3 xL4 xL5 xL6 0) else (fX4_winnerOf_62 (fX4_winnerOf_19 k98 n) aL0 xL3 xL4 xL5 xL6 1)))))))
def fX4_winnerOf_98  (xL3 : Int32) (xL4 : Int32) (xL5 : Int32) : MM Int32 := if xL5 < 0 then (m_ret xL4) else (m_ret xL3)
def pX4_winnerOf (a0_ : Nat) (x1_ : Int32) (x2_ : Int32) : MM Int32 := m_let (c_mn x1_ x2_) (fun x1 => m_let (c_mx x1_ x2_) (fun x2 => fX4_winnerOf_19 fX4_winnerOf_98 c_fu a0_ x1 x2 0 0))
set_option maxRecDepth 100000 in
set_option maxHeartbeats 4000000 in
theorem tX4_winnerOf_89 {p : Program} {l : Launch} {e : Env} {s : State} {m : MethodId} {args : Array Value} {below : List Frame} {meth : Method} {c : Code} {G : cG} (hO : c_Ok p s m c cX4_winnerOf 9 RX4 G) (hr : meth.sig.returnType = (some .int)) (hk : meth.locks = false) (k19 : Nat → Int32 → Int32 → Int32 → Int32 → MM Int32) (hk19 : ∀ (aL0 : Nat) (xL3 : Int32) (xL4 : Int32) (xL5 : Int32) (xL6 : Int32), Sm p l e { frames := 1, cells := 0, slots := 0, locals := 13 } s m args below meth c G 9 (c_Q G c_vi below args s 0 0) 0 0 19 [(0, .ref aL0), (3, .int xL3), (4, .int xL4), (5, .int xL5), (6, .int xL6)] [] (k19 aL0 xL3 xL4 xL5 xL6))  : ∀ (aL0 : Nat) (xL3 : Int32) (xL4 : Int32) (xL6 : Int32) (xS0 : Int32) (xS1 : Int32), Sm p l e { frames := 1, cells := 0, slots := 0, locals := 13 } s m args below meth c G 9 (c_Q G c_vi below args s 0 0) 0 0 89 [(0, .ref aL0), (3, .int xL3), (4, .int xL4), (6, .int xL6)] [.int xS0, .int xS1] (fX4_winnerOf_89 k19 aL0 xL3 xL4 xL6 xS0 xS1) := by
  intro aL0 xL3 xL4 xL6 xS0 xS1
  rw [fX4_winnerOf_89]
  refine sm_iadd hO dX4_winnerOf_89 ?_
  refine sm_topi (fun x1 => ?_)
  refine sm_istore hO [(5, .int x1), (0, .ref aL0), (3, .int xL3), (4, .int xL4), (6, .int xL6)] dX4_winnerOf_90 (by decide) rfl ?_
  refine sm_iincL (v := xL6 + 1) hO 4 (fun x2 => [(6, .int x2), (5, .int x1), (0, .ref aL0), (3, .int xL3), (4, .int xL4)]) dX4_winnerOf_92 rfl rfl (by decide) (fun _ => rfl) (fun x2 => ?_)
  refine sm_goto (tgt := 19) hO dX4_winnerOf_95 (by decide) ?_
  exact sm_sub [2, 3, 4, 1, 0] rfl (hk19 aL0 xL3 xL4 x1 x2)
set_option maxRecDepth 100000 in
set_option maxHeartbeats 4000000 in
theorem tX4_winnerOf_62 {p : Program} {l : Launch} {e : Env} {s : State} {m : MethodId} {args : Array Value} {below : List Frame} {meth : Method} {c : Code} {G : cG} (hO : c_Ok p s m c cX4_winnerOf 9 RX4 G) (hr : meth.sig.returnType = (some .int)) (hk : meth.locks = false) (k19 : Nat → Int32 → Int32 → Int32 → Int32 → MM Int32) (hk19 : ∀ (aL0 : Nat) (xL3 : Int32) (xL4 : Int32) (xL5 : Int32) (xL6 : Int32), Sm p l e { frames := 1, cells := 0, slots := 0, locals := 13 } s m args below meth c G 9 (c_Q G c_vi below args s 0 0) 0 0 19 [(0, .ref aL0), (3, .int xL3), (4, .int xL4), (5, .int xL5), (6, .int xL6)] [] (k19 aL0 xL3 xL4 xL5 xL6))  : ∀ (aL0 : Nat) (xL3 : Int32) (xL4 : Int32) (xL5 : Int32) (xL6 : Int32) (xS0 : Int32), Sm p l e { frames := 1, cells := 0, slots := 0, locals := 13 } s m args below meth c G 9 (c_Q G c_vi below args s 0 0) 0 0 62 [(0, .ref aL0), (3, .int xL3), (4, .int xL4), (5, .int xL5), (6, .int xL6)] [.int xS0] (fX4_winnerOf_62 k19 aL0 xL3 xL4 xL5 xL6 xS0) := by
  intro aL0 xL3 xL4 xL5 xL6 xS0
  rw [fX4_winnerOf_62]
  refine sm_istore hO [(8, .int xS0), (0, .ref aL0), (3, .int xL3), (4, .int xL4), (5, .int xL5), (6, .int xL6)] dX4_winnerOf_62 (by decide) rfl ?_
  refine sm_iload hO 4 dX4_winnerOf_64 rfl ?_
  refine sm_iload hO 0 dX4_winnerOf_66 rfl ?_
  refine sm_if_eq (tgt := 81) hO dX4_winnerOf_68 (by decide) ?_ ?_
  · refine sm_aload_n hO 1 dX4_winnerOf_81 rfl rfl ?_
    refine sm_gr hO fl_RX4_9 dX4_winnerOf_82 (fun a1 => ?_)
    refine sm_iload hO 5 dX4_winnerOf_85 rfl ?_
    refine sm_li hO dX4_winnerOf_87 (fun x2 => ?_)
    refine sm_ineg hO dX4_winnerOf_88 ?_
    exact sm_sub [1, 2, 3, 5] rfl (tX4_winnerOf_89 hO hr hk k19 hk19 aL0 xL3 xL4 xL6 (-x2) xL5)
  · refine sm_aload_n hO 1 dX4_winnerOf_71 rfl rfl ?_
    refine sm_gr hO fl_RX4_9 dX4_winnerOf_72 (fun a3 => ?_)
    refine sm_iload hO 5 dX4_winnerOf_75 rfl ?_
    refine sm_li hO dX4_winnerOf_77 (fun x4 => ?_)
    refine sm_goto (tgt := 89) hO dX4_winnerOf_78 (by decide) ?_
    exact sm_sub [1, 2, 3, 5] rfl (tX4_winnerOf_89 hO hr hk k19 hk19 aL0 xL3 xL4 xL6 x4 xL5)
set_option maxRecDepth 100000 in
set_option maxHeartbeats 4000000 in
theorem tX4_winnerOf_19 {p : Program} {l : Launch} {e : Env} {s : State} {m : MethodId} {args : Array Value} {below : List Frame} {meth : Method} {c : Code} {G : cG} (hO : c_Ok p s m c cX4_winnerOf 9 RX4 G) (hr : meth.sig.returnType = (some .int)) (hk : meth.locks = false) (k98 : Int32 → Int32 → Int32 → MM Int32) (hk98 : ∀ (xL3 : Int32) (xL4 : Int32) (xL5 : Int32), Sm p l e { frames := 1, cells := 0, slots := 0, locals := 13 } s m args below meth c G 9 (c_Q G c_vi below args s 0 0) 0 0 98 [(3, .int xL3), (4, .int xL4), (5, .int xL5)] [] (k98 xL3 xL4 xL5))  : ∀ (n : Nat) (aL0 : Nat) (xL3 : Int32) (xL4 : Int32) (xL5 : Int32) (xL6 : Int32), Sm p l e { frames := 1, cells := 0, slots := 0, locals := 13 } s m args below meth c G 9 (c_Q G c_vi below args s 0 0) 0 0 19 [(0, .ref aL0), (3, .int xL3), (4, .int xL4), (5, .int xL5), (6, .int xL6)] [] (fX4_winnerOf_19 k98 n aL0 xL3 xL4 xL5 xL6) := by
  intro n
  induction n with
  | zero =>
    intro aL0 xL3 xL4 xL5 xL6
    exact sm_bad
  | succ n ih =>
    intro aL0 xL3 xL4 xL5 xL6
    rw [fX4_winnerOf_19]
    refine sm_iload hO 4 dX4_winnerOf_19 rfl ?_
    refine sm_aload_n hO 0 dX4_winnerOf_21 rfl rfl ?_
    refine sm_gi hO fl_RX4_27 dX4_winnerOf_22 (fun x1 => ?_)
    refine sm_icmp_ge (tgt := 98) hO dX4_winnerOf_25 (by decide) ?_ ?_
    · exact sm_sub [1, 2, 3] rfl (hk98 xL3 xL4 xL5)
    · refine sm_iload hO 4 dX4_winnerOf_28 rfl ?_
      refine sm_bipush (v := 6) hO dX4_winnerOf_30 rfl ?_
      refine sm_irem hO dX4_winnerOf_32 ?_
      refine sm_iconst (v := 3) hO dX4_winnerOf_33 rfl ?_
      refine sm_imul hO dX4_winnerOf_34 ?_
      refine sm_topi (fun x2 => ?_)
      refine sm_istore hO [(7, .int x2), (0, .ref aL0), (3, .int xL3), (4, .int xL4), (5, .int xL5), (6, .int xL6)] dX4_winnerOf_35 (by decide) rfl ?_
      refine sm_gets hO 1 (Or.inr ⟨rfl, rfl⟩) kw_713 dX4_winnerOf_37 ?_
      refine sm_iload hO 0 dX4_winnerOf_40 rfl ?_
      refine sm_iload_n hO 2 dX4_winnerOf_42 rfl rfl ?_
      refine sm_iadd hO dX4_winnerOf_43 ?_
      refine sm_li hO dX4_winnerOf_44 (fun x3 => ?_)
      refine sm_gets hO 1 (Or.inr ⟨rfl, rfl⟩) kw_713 dX4_winnerOf_45 ?_
      refine sm_iload hO 0 dX4_winnerOf_48 rfl ?_
      refine sm_iload hO 3 dX4_winnerOf_50 rfl ?_
      refine sm_iadd hO dX4_winnerOf_52 ?_
      refine sm_li hO dX4_winnerOf_53 (fun x4 => ?_)
      refine sm_icmp_ge (tgt := 61) hO dX4_winnerOf_54 (by decide) ?_ ?_
      · refine sm_iconst (v := 0) hO dX4_winnerOf_61 rfl ?_
        exact sm_sub [1, 2, 3, 4, 5] rfl (tX4_winnerOf_62 hO hr hk (fX4_winnerOf_19 k98 n) ih aL0 xL3 xL4 xL5 xL6 0)
      · refine sm_iconst (v := 1) hO dX4_winnerOf_57 rfl ?_
        refine sm_goto (tgt := 62) hO dX4_winnerOf_58 (by decide) ?_
        exact sm_sub [1, 2, 3, 4, 5] rfl (tX4_winnerOf_62 hO hr hk (fX4_winnerOf_19 k98 n) ih aL0 xL3 xL4 xL5 xL6 1)
set_option maxRecDepth 100000 in
set_option maxHeartbeats 4000000 in
theorem tX4_winnerOf_98 {p : Program} {l : Launch} {e : Env} {s : State} {m : MethodId} {args : Array Value} {below : List Frame} {meth : Method} {c : Code} {G : cG} (hO : c_Ok p s m c cX4_winnerOf 9 RX4 G) (hr : meth.sig.returnType = (some .int)) (hk : meth.locks = false) : ∀ (xL3 : Int32) (xL4 : Int32) (xL5 : Int32), Sm p l e { frames := 1, cells := 0, slots := 0, locals := 13 } s m args below meth c G 9 (c_Q G c_vi below args s 0 0) 0 0 98 [(3, .int xL3), (4, .int xL4), (5, .int xL5)] [] (fX4_winnerOf_98 xL3 xL4 xL5) := by
  intro xL3 xL4 xL5
  rw [fX4_winnerOf_98]
  refine sm_iload hO 2 dX4_winnerOf_98 rfl ?_
  refine sm_if_lt (tgt := 107) hO dX4_winnerOf_100 (by decide) ?_ ?_
  · refine sm_iload hO 1 dX4_winnerOf_107 rfl ?_
    exact sm_iret hO hr hk (Nat.le_of_ble_eq_true rfl) (Nat.le_of_ble_eq_true rfl) dX4_winnerOf_109
  · refine sm_iload_n hO 0 dX4_winnerOf_103 rfl rfl ?_
    refine sm_goto (tgt := 109) hO dX4_winnerOf_104 (by decide) ?_
    exact sm_iret hO hr hk (Nat.le_of_ble_eq_true rfl) (Nat.le_of_ble_eq_true rfl) dX4_winnerOf_109
set_option maxRecDepth 100000 in
set_option maxHeartbeats 4000000 in
theorem ctX4_winnerOf (l : Launch) (G : cG) (a0_ : Nat) (x1_ : Int32) (x2_ : Int32) : Ct l G yX4_winnerOf cX4_winnerOf 9 (some .int) 1 13 0 0 [.ref a0_, .int x1_, .int x2_] c_vi (pX4_winnerOf a0_ x1_ x2_) := by
  refine Ct.of (lv := [(0, .ref a0_), (1, .int x1_), (2, .int x2_)]) (by decide) (Nat.le_of_ble_eq_true rfl) rfl (fun p e s m args below meth c hO hr hk hin => ?_)
  rw [pX4_winnerOf]
  refine sm_iload_n hO 1 dX4_winnerOf_0 rfl rfl ?_
  refine sm_iload_n hO 2 dX4_winnerOf_1 rfl rfl ?_
  refine sm_min hO kw_711 kw_404 kw_83 kw_405 (Nat.le_of_ble_eq_true rfl) (Nat.le_of_ble_eq_true rfl) (Nat.le_of_ble_eq_true rfl) (Nat.le_of_ble_eq_true rfl) dX4_winnerOf_2 ?_
  refine sm_topi (fun x1 => ?_)
  refine sm_istore_n hO [(3, .int x1), (0, .ref a0_), (1, .int x1_), (2, .int x2_)] dX4_winnerOf_5 rfl (by decide) rfl ?_
  refine sm_iload_n hO 2 dX4_winnerOf_6 rfl rfl ?_
  refine sm_iload_n hO 3 dX4_winnerOf_7 rfl rfl ?_
  refine sm_max hO kw_712 kw_601 kw_83 kw_602 (Nat.le_of_ble_eq_true rfl) (Nat.le_of_ble_eq_true rfl) (Nat.le_of_ble_eq_true rfl) (Nat.le_of_ble_eq_true rfl) dX4_winnerOf_8 ?_
  refine sm_topi (fun x2 => ?_)
  refine sm_istore hO [(4, .int x2), (3, .int x1), (0, .ref a0_), (1, .int x1_), (2, .int x2_)] dX4_winnerOf_11 (by decide) rfl ?_
  refine sm_iconst (v := 0) hO dX4_winnerOf_13 rfl ?_
  refine sm_istore hO [(5, .int 0), (4, .int x2), (3, .int x1), (0, .ref a0_), (1, .int x1_), (2, .int x2_)] dX4_winnerOf_14 (by decide) rfl ?_
  refine sm_iconst (v := 0) hO dX4_winnerOf_16 rfl ?_
  refine sm_istore hO [(6, .int 0), (5, .int 0), (4, .int x2), (3, .int x1), (0, .ref a0_), (1, .int x1_), (2, .int x2_)] dX4_winnerOf_17 (by decide) rfl ?_
  exact sm_sub [4, 3, 2, 1, 0] rfl (tX4_winnerOf_19 hO hr hk fX4_winnerOf_98 (tX4_winnerOf_98 hO hr hk) c_fu a0_ x1 x2 0 0)
/-! DollCongress$Roll.winnerFrom(II)I -/
def pX4_winnerFrom (a0_ : Nat) (x1_ : Int32) (x2_ : Int32) : MM Int32 := m_let (((3 : Int32) - x1_) - x2_) (fun x1 => m_cv a0_ 4 (pX4_winnerOf a0_ x1_ x2_) (fun x2 => m_cv a0_ 4 (pX4_winnerOf a0_ x2 x1) (fun x3 => m_ret x3)))
set_option maxRecDepth 100000 in
set_option maxHeartbeats 4000000 in
theorem ctX4_winnerFrom (l : Launch) (G : cG) (a0_ : Nat) (x1_ : Int32) (x2_ : Int32) : Ct l G yX4_winnerFrom cX4_winnerFrom 4 (some .int) 2 41 0 0 [.ref a0_, .int x1_, .int x2_] c_vi (pX4_winnerFrom a0_ x1_ x2_) := by
  refine Ct.of (lv := [(0, .ref a0_), (1, .int x1_), (2, .int x2_)]) (by decide) (Nat.le_of_ble_eq_true rfl) rfl (fun p e s m args below meth c hO hr hk hin => ?_)
  rw [pX4_winnerFrom]
  refine sm_iconst (v := 3) hO dX4_winnerFrom_0 rfl ?_
  refine sm_iload_n hO 1 dX4_winnerFrom_1 rfl rfl ?_
  refine sm_isub hO dX4_winnerFrom_2 ?_
  refine sm_iload_n hO 2 dX4_winnerFrom_3 rfl rfl ?_
  refine sm_isub hO dX4_winnerFrom_4 ?_
  refine sm_topi (fun x1 => ?_)
  refine sm_istore_n hO [(3, .int x1), (0, .ref a0_), (1, .int x1_), (2, .int x2_)] dX4_winnerFrom_5 rfl (by decide) rfl ?_
  refine sm_aload_n hO 1 dX4_winnerFrom_6 rfl rfl ?_
  refine sm_aload_n hO 1 dX4_winnerFrom_7 rfl rfl ?_
  refine sm_iload_n hO 2 dX4_winnerFrom_8 rfl rfl ?_
  refine sm_iload_n hO 3 dX4_winnerFrom_9 rfl rfl ?_
  refine sm_cvi hO (ctX4_winnerOf l G a0_ x1_ x2_) cw_RX4_60 cv_X4_winnerOf [.ref a0_] rfl rfl ⟨(Nat.le_of_ble_eq_true rfl), (Nat.le_of_ble_eq_true rfl)⟩ ⟨(Nat.le_of_ble_eq_true rfl), (Nat.le_of_ble_eq_true rfl)⟩ (Nat.le_of_ble_eq_true rfl) dX4_winnerFrom_10 (fun x2 => ?_)
  refine sm_iload_n hO 0 dX4_winnerFrom_13 rfl rfl ?_
  refine sm_cvi hO (ctX4_winnerOf l G a0_ x2 x1) cw_RX4_60 cv_X4_winnerOf [] rfl rfl ⟨(Nat.le_of_ble_eq_true rfl), (Nat.le_of_ble_eq_true rfl)⟩ ⟨(Nat.le_of_ble_eq_true rfl), (Nat.le_of_ble_eq_true rfl)⟩ (Nat.le_of_ble_eq_true rfl) dX4_winnerFrom_14 (fun x3 => ?_)
  exact sm_iret hO hr hk (Nat.le_of_ble_eq_true rfl) (Nat.le_of_ble_eq_true rfl) dX4_winnerFrom_17
/-! DollCongress.agenda(II)I -/
def pX9_agenda (a0_ : Nat) (x1_ : Int32) (x2_ : Int32) : MM Int32 := m_bind (pX9_isThing x1_) (fun x1 => if x1 = 0 then (m_ret ((-1000000002) : Int32)) else (m_bind (pX9_isThing x2_) (fun x2 => if x2 = 0 then (m_ret ((-1000000002) : Int32)) else (if x1_ = x2_ then (m_ret ((-1000000002) : Int32)) else (m_cv a0_ 8 (pX9_hasCongress a0_) (fun x3 => if x3 = 0 then (m_ret ((-1000000003) : Int32)) else (m_gr a0_ 8 7 (fun a4 => m_cv a4 4 (pX4_winnerFrom a4 x1_ x2_) (fun x5 => m_ret x5)))))))))
set_option maxRecDepth 100000 in
set_option maxHeartbeats 4000000 in
theorem ctX9_agenda (l : Launch) (G : cG) (a0_ : Nat) (x1_ : Int32) (x2_ : Int32) : Ct l G yX9_agenda cX9_agenda 3 (some .int) 3 64 0 0 [.ref a0_, .int x1_, .int x2_] c_vi (pX9_agenda a0_ x1_ x2_) := by
  refine Ct.of (lv := [(0, .ref a0_), (1, .int x1_), (2, .int x2_)]) (by decide) (Nat.le_of_ble_eq_true rfl) rfl (fun p e s m args below meth c hO hr hk hin => ?_)
  rw [pX9_agenda]
  refine sm_iload_n hO 1 dX9_agenda_0 rfl rfl ?_
  refine sm_csi hO (ctX9_isThing l G x1_) cw_RX9_252 kw_701 [] rfl rfl ⟨(Nat.le_of_ble_eq_true rfl), (Nat.le_of_ble_eq_true rfl)⟩ ⟨(Nat.le_of_ble_eq_true rfl), (Nat.le_of_ble_eq_true rfl)⟩ (Nat.le_of_ble_eq_true rfl) dX9_agenda_1 (fun x1 => ?_)
  refine sm_if_eq (tgt := 19) hO dX9_agenda_4 (by decide) ?_ ?_
  · refine sm_ldc (v := (-1000000002)) hO kw_362 dX9_agenda_19 ?_
    exact sm_iret hO hr hk (Nat.le_of_ble_eq_true rfl) (Nat.le_of_ble_eq_true rfl) dX9_agenda_21
  · refine sm_iload_n hO 2 dX9_agenda_7 rfl rfl ?_
    refine sm_csi hO (ctX9_isThing l G x2_) cw_RX9_252 kw_701 [] rfl rfl ⟨(Nat.le_of_ble_eq_true rfl), (Nat.le_of_ble_eq_true rfl)⟩ ⟨(Nat.le_of_ble_eq_true rfl), (Nat.le_of_ble_eq_true rfl)⟩ (Nat.le_of_ble_eq_true rfl) dX9_agenda_8 (fun x2 => ?_)
    refine sm_if_eq (tgt := 19) hO dX9_agenda_11 (by decide) ?_ ?_
    · refine sm_ldc (v := (-1000000002)) hO kw_362 dX9_agenda_19 ?_
      exact sm_iret hO hr hk (Nat.le_of_ble_eq_true rfl) (Nat.le_of_ble_eq_true rfl) dX9_agenda_21
    · refine sm_iload_n hO 1 dX9_agenda_14 rfl rfl ?_
      refine sm_iload_n hO 2 dX9_agenda_15 rfl rfl ?_
      refine sm_icmp_ne (tgt := 22) hO dX9_agenda_16 (by decide) ?_ ?_
      · refine sm_aload_n hO 0 dX9_agenda_22 rfl rfl ?_
        refine sm_cvi hO (ctX9_hasCongress l G a0_) cw_RX9_141 cv_X9_hasCongress [] rfl rfl ⟨(Nat.le_of_ble_eq_true rfl), (Nat.le_of_ble_eq_true rfl)⟩ ⟨(Nat.le_of_ble_eq_true rfl), (Nat.le_of_ble_eq_true rfl)⟩ (Nat.le_of_ble_eq_true rfl) dX9_agenda_23 (fun x3 => ?_)
        refine sm_if_ne (tgt := 32) hO dX9_agenda_26 (by decide) ?_ ?_
        · refine sm_aload_n hO 0 dX9_agenda_32 rfl rfl ?_
          refine sm_gr hO fl_RX9_60 dX9_agenda_33 (fun a4 => ?_)
          refine sm_iload_n hO 1 dX9_agenda_36 rfl rfl ?_
          refine sm_iload_n hO 2 dX9_agenda_37 rfl rfl ?_
          refine sm_cvi hO (ctX4_winnerFrom l G a4 x1_ x2_) cw_RX9_255 cv_X4_winnerFrom [] rfl rfl ⟨(Nat.le_of_ble_eq_true rfl), (Nat.le_of_ble_eq_true rfl)⟩ ⟨(Nat.le_of_ble_eq_true rfl), (Nat.le_of_ble_eq_true rfl)⟩ (Nat.le_of_ble_eq_true rfl) dX9_agenda_38 (fun x5 => ?_)
          exact sm_iret hO hr hk (Nat.le_of_ble_eq_true rfl) (Nat.le_of_ble_eq_true rfl) dX9_agenda_41
        · refine sm_ldc (v := (-1000000003)) hO kw_536 dX9_agenda_29 ?_
          exact sm_iret hO hr hk (Nat.le_of_ble_eq_true rfl) (Nat.le_of_ble_eq_true rfl) dX9_agenda_31
      · refine sm_ldc (v := (-1000000002)) hO kw_362 dX9_agenda_19 ?_
        exact sm_iret hO hr hk (Nat.le_of_ble_eq_true rfl) (Nat.le_of_ble_eq_true rfl) dX9_agenda_21
/-! DollCongressModel.placeOf(II)I -/
def fX10_placeOf_39  (xL1 : Int32) (xL2 : Int32) (xS0 : Int32) : MM Int32 := if xL1 = xL2 then (m_ret (0 : Int32)) else (if xL1 = xS0 then (m_ret (1 : Int32)) else (m_ret (2 : Int32)))
def fX10_placeOf_16  (xL0 : Int32) (xL1 : Int32) (xL2 : Int32) (xS0 : Int32) : MM Int32 := m_let (((3 : Int32) - xL2) - xS0) (fun x1 => m_nz (6 : Int32) (m_nz (2 : Int32) (if ((xL0 - xL0 / 6 * 6) - (xL0 - xL0 / 6 * 6) / 2 * 2) = 0 then (fX10_placeOf_39 xL1 xL2 xS0) else (fX10_placeOf_39 xL1 xL2 x1))))
def pX10_placeOf (x0_ : Int32) (x1_ : Int32) : MM Int32 := m_nz (6 : Int32) (m_nz (2 : Int32) (m_let ((x0_ - x0_ / 6 * 6) / 2) (fun x1 => if x1 = 0 then (fX10_placeOf_16 x0_ x1_ x1 1) else (fX10_placeOf_16 x0_ x1_ x1 0))))
set_option maxRecDepth 100000 in
set_option maxHeartbeats 4000000 in
theorem tX10_placeOf_39 {p : Program} {l : Launch} {e : Env} {s : State} {m : MethodId} {args : Array Value} {below : List Frame} {meth : Method} {c : Code} {G : cG} (hO : c_Ok p s m c cX10_placeOf 6 RX10 G) (hr : meth.sig.returnType = (some .int)) (hk : meth.locks = false) : ∀ (xL1 : Int32) (xL2 : Int32) (xS0 : Int32), Sm p l e { frames := 0, cells := 0, slots := 0, locals := 0 } s m args below meth c G 6 (c_Q G c_vi below args s 0 0) 0 0 39 [(1, .int xL1), (2, .int xL2)] [.int xS0] (fX10_placeOf_39 xL1 xL2 xS0) := by
  intro xL1 xL2 xS0
  rw [fX10_placeOf_39]
  refine sm_istore hO [(5, .int xS0), (1, .int xL1), (2, .int xL2)] dX10_placeOf_39 (by decide) rfl ?_
  refine sm_iload_n hO 1 dX10_placeOf_41 rfl rfl ?_
  refine sm_iload_n hO 2 dX10_placeOf_42 rfl rfl ?_
  refine sm_icmp_ne (tgt := 50) hO dX10_placeOf_43 (by decide) ?_ ?_
  · refine sm_iload_n hO 1 dX10_placeOf_50 rfl rfl ?_
    refine sm_iload hO 0 dX10_placeOf_51 rfl ?_
    refine sm_icmp_ne (tgt := 60) hO dX10_placeOf_53 (by decide) ?_ ?_
    · refine sm_iconst (v := 2) hO dX10_placeOf_60 rfl ?_
      exact sm_iret hO hr hk (Nat.le_of_ble_eq_true rfl) (Nat.le_of_ble_eq_true rfl) dX10_placeOf_61
    · refine sm_iconst (v := 1) hO dX10_placeOf_56 rfl ?_
      refine sm_goto (tgt := 61) hO dX10_placeOf_57 (by decide) ?_
      exact sm_iret hO hr hk (Nat.le_of_ble_eq_true rfl) (Nat.le_of_ble_eq_true rfl) dX10_placeOf_61
  · refine sm_iconst (v := 0) hO dX10_placeOf_46 rfl ?_
    refine sm_goto (tgt := 61) hO dX10_placeOf_47 (by decide) ?_
    exact sm_iret hO hr hk (Nat.le_of_ble_eq_true rfl) (Nat.le_of_ble_eq_true rfl) dX10_placeOf_61
set_option maxRecDepth 100000 in
set_option maxHeartbeats 4000000 in
theorem tX10_placeOf_16 {p : Program} {l : Launch} {e : Env} {s : State} {m : MethodId} {args : Array Value} {below : List Frame} {meth : Method} {c : Code} {G : cG} (hO : c_Ok p s m c cX10_placeOf 6 RX10 G) (hr : meth.sig.returnType = (some .int)) (hk : meth.locks = false) : ∀ (xL0 : Int32) (xL1 : Int32) (xL2 : Int32) (xS0 : Int32), Sm p l e { frames := 0, cells := 0, slots := 0, locals := 0 } s m args below meth c G 6 (c_Q G c_vi below args s 0 0) 0 0 16 [(0, .int xL0), (1, .int xL1), (2, .int xL2)] [.int xS0] (fX10_placeOf_16 xL0 xL1 xL2 xS0) := by
  intro xL0 xL1 xL2 xS0
  rw [fX10_placeOf_16]
  refine sm_istore_n hO [(3, .int xS0), (0, .int xL0), (1, .int xL1), (2, .int xL2)] dX10_placeOf_16 rfl (by decide) rfl ?_
  refine sm_iconst (v := 3) hO dX10_placeOf_17 rfl ?_
  refine sm_iload_n hO 3 dX10_placeOf_18 rfl rfl ?_
  refine sm_isub hO dX10_placeOf_19 ?_
  refine sm_iload_n hO 0 dX10_placeOf_20 rfl rfl ?_
  refine sm_isub hO dX10_placeOf_21 ?_
  refine sm_topi (fun x1 => ?_)
  refine sm_istore hO [(4, .int x1), (3, .int xS0), (0, .int xL0), (1, .int xL1), (2, .int xL2)] dX10_placeOf_22 (by decide) rfl ?_
  refine sm_iload_n hO 2 dX10_placeOf_24 rfl rfl ?_
  refine sm_bipush (v := 6) hO dX10_placeOf_25 rfl ?_
  refine sm_irem hO dX10_placeOf_27 ?_
  refine sm_iconst (v := 2) hO dX10_placeOf_28 rfl ?_
  refine sm_irem hO dX10_placeOf_29 ?_
  refine sm_if_ne (tgt := 37) hO dX10_placeOf_30 (by decide) ?_ ?_
  · refine sm_iload hO 0 dX10_placeOf_37 rfl ?_
    exact sm_sub [3, 4] rfl (tX10_placeOf_39 hO hr hk xL1 xL2 x1)
  · refine sm_iload_n hO 1 dX10_placeOf_33 rfl rfl ?_
    refine sm_goto (tgt := 39) hO dX10_placeOf_34 (by decide) ?_
    exact sm_sub [3, 4] rfl (tX10_placeOf_39 hO hr hk xL1 xL2 xS0)
set_option maxRecDepth 100000 in
set_option maxHeartbeats 4000000 in
theorem ctX10_placeOf (l : Launch) (G : cG) (x0_ : Int32) (x1_ : Int32) : Ct l G yX10_placeOf cX10_placeOf 6 (some .int) 0 0 0 0 [.int x0_, .int x1_] c_vi (pX10_placeOf x0_ x1_) := by
  refine Ct.of (lv := [(0, .int x0_), (1, .int x1_)]) (by decide) (Nat.le_of_ble_eq_true rfl) rfl (fun p e s m args below meth c hO hr hk hin => ?_)
  rw [pX10_placeOf]
  refine sm_iload_n hO 0 dX10_placeOf_0 rfl rfl ?_
  refine sm_bipush (v := 6) hO dX10_placeOf_1 rfl ?_
  refine sm_irem hO dX10_placeOf_3 ?_
  refine sm_iconst (v := 2) hO dX10_placeOf_4 rfl ?_
  refine sm_idiv hO dX10_placeOf_5 ?_
  refine sm_topi (fun x1 => ?_)
  refine sm_istore_n hO [(2, .int x1), (0, .int x0_), (1, .int x1_)] dX10_placeOf_6 rfl (by decide) rfl ?_
  refine sm_iload_n hO 0 dX10_placeOf_7 rfl rfl ?_
  refine sm_if_ne (tgt := 15) hO dX10_placeOf_8 (by decide) ?_ ?_
  · refine sm_iconst (v := 0) hO dX10_placeOf_15 rfl ?_
    exact sm_sub [1, 2, 0] rfl (tX10_placeOf_16 hO hr hk x0_ x1_ x1 0)
  · refine sm_iconst (v := 1) hO dX10_placeOf_11 rfl ?_
    refine sm_goto (tgt := 16) hO dX10_placeOf_12 (by decide) ?_
    exact sm_sub [1, 2, 0] rfl (tX10_placeOf_16 hO hr hk x0_ x1_ x1 1)
/-! DollCongressModel.winnerOf(II)I -/
def fX10_winnerOf_48 (k5 : Nat → Int32 → Int32 → Int32 → Int32 → MM Int32) (aL0 : Nat) (xL1 : Int32) (xL2 : Int32) (xL4 : Int32) (xS0 : Int32) (xS1 : Int32) : MM Int32 := m_let (xS1 + xS0) (fun x1 => m_let (xL4 + 1) (fun x2 => k5 aL0 xL1 xL2 x1 x2))
def fX10_winnerOf_5 (k56 : Int32 → Int32 → Int32 → MM Int32) : Nat → Nat → Int32 → Int32 → Int32 → Int32 → MM Int32
  | 0, _, _, _, _, _ => m_bad
  | n + 1, aL0, xL1, xL2, xL3, xL4 => m_gi aL0 9 0 (fun x1 => if x1 ≤ xL4 then (k56 xL1 xL2 xL3) else (m_bind (pX10_placeOf xL4 xL1) (fun x2 => m_bind (pX10_placeOf xL4 xL2) (fun x3 => if x3 ≤ x2 then (m_gr aL0 9 1 (fun a4 => m_li 0 a4 xL4 (fun x5 => fX10_winnerOf_48 (fX10_winnerOf_5 k56 n) aL0 xL1 xL2 xL4 (-x5) xL3))) else (m_gr aL0 9 1 (fun a6 => m_li 0 a6 xL4 (fun x7 => fX10_winnerOf_48 (fX10_winnerOf_5 k56 n) aL0 xL1 xL2 xL4 x7 xL3)))))))
def fX10_winnerOf_56  (xL1 : Int32) (xL2 : Int32) (xL3 : Int32) : MM Int32 := if xL3 ≤ 0 then (if 0 ≤ xL3 then (if xL2 ≤ xL1 then (m_ret xL2) else (m_ret xL1)) else (m_ret xL2)) else (m_ret xL1)
def pX10_winnerOf (a0_ : Nat) (x1_ : Int32) (x2_ : Int32) : MM Int32 := fX10_winnerOf_5 fX10_winnerOf_56 c_fu a0_ x1_ x2_ 0 0
set_option maxRecDepth 100000 in
set_option maxHeartbeats 4000000 in
theorem tX10_winnerOf_48 {p : Program} {l : Launch} {e : Env} {s : State} {m : MethodId} {args : Array Value} {below : List Frame} {meth : Method} {c : Code} {G : cG} (hO : c_Ok p s m c cX10_winnerOf 5 RX10 G) (hr : meth.sig.returnType = (some .int)) (hk : meth.locks = false) (k5 : Nat → Int32 → Int32 → Int32 → Int32 → MM Int32) (hk5 : ∀ (aL0 : Nat) (xL1 : Int32) (xL2 : Int32) (xL3 : Int32) (xL4 : Int32), Sm p l e { frames := 1, cells := 0, slots := 0, locals := 25 } s m args below meth c G 5 (c_Q G c_vi below args s 0 0) 0 0 5 [(0, .ref aL0), (1, .int xL1), (2, .int xL2), (3, .int xL3), (4, .int xL4)] [] (k5 aL0 xL1 xL2 xL3 xL4))  : ∀ (aL0 : Nat) (xL1 : Int32) (xL2 : Int32) (xL4 : Int32) (xS0 : Int32) (xS1 : Int32), Sm p l e { frames := 1, cells := 0, slots := 0, locals := 25 } s m args below meth c G 5 (c_Q G c_vi below args s 0 0) 0 0 48 [(0, .ref aL0), (1, .int xL1), (2, .int xL2), (4, .int xL4)] [.int xS0, .int xS1] (fX10_winnerOf_48 k5 aL0 xL1 xL2 xL4 xS0 xS1) := by
  intro aL0 xL1 xL2 xL4 xS0 xS1
  rw [fX10_winnerOf_48]
  refine sm_iadd hO dX10_winnerOf_48 ?_
  refine sm_topi (fun x1 => ?_)
  refine sm_istore_n hO [(3, .int x1), (0, .ref aL0), (1, .int xL1), (2, .int xL2), (4, .int xL4)] dX10_winnerOf_49 rfl (by decide) rfl ?_
  refine sm_iincL (v := xL4 + 1) hO 4 (fun x2 => [(4, .int x2), (3, .int x1), (0, .ref aL0), (1, .int xL1), (2, .int xL2)]) dX10_winnerOf_50 rfl rfl (by decide) (fun _ => rfl) (fun x2 => ?_)
  refine sm_goto (tgt := 5) hO dX10_winnerOf_53 (by decide) ?_
  exact sm_sub [2, 3, 4, 1, 0] rfl (hk5 aL0 xL1 xL2 x1 x2)
set_option maxRecDepth 100000 in
set_option maxHeartbeats 4000000 in
theorem tX10_winnerOf_5 {p : Program} {l : Launch} {e : Env} {s : State} {m : MethodId} {args : Array Value} {below : List Frame} {meth : Method} {c : Code} {G : cG} (hO : c_Ok p s m c cX10_winnerOf 5 RX10 G) (hr : meth.sig.returnType = (some .int)) (hk : meth.locks = false) (k56 : Int32 → Int32 → Int32 → MM Int32) (hk56 : ∀ (xL1 : Int32) (xL2 : Int32) (xL3 : Int32), Sm p l e { frames := 1, cells := 0, slots := 0, locals := 25 } s m args below meth c G 5 (c_Q G c_vi below args s 0 0) 0 0 56 [(1, .int xL1), (2, .int xL2), (3, .int xL3)] [] (k56 xL1 xL2 xL3))  : ∀ (n : Nat) (aL0 : Nat) (xL1 : Int32) (xL2 : Int32) (xL3 : Int32) (xL4 : Int32), Sm p l e { frames := 1, cells := 0, slots := 0, locals := 25 } s m args below meth c G 5 (c_Q G c_vi below args s 0 0) 0 0 5 [(0, .ref aL0), (1, .int xL1), (2, .int xL2), (3, .int xL3), (4, .int xL4)] [] (fX10_winnerOf_5 k56 n aL0 xL1 xL2 xL3 xL4) := by
  intro n
  induction n with
  | zero =>
    intro aL0 xL1 xL2 xL3 xL4
    exact sm_bad
  | succ n ih =>
    intro aL0 xL1 xL2 xL3 xL4
    rw [fX10_winnerOf_5]
    refine sm_iload hO 4 dX10_winnerOf_5 rfl ?_
    refine sm_aload_n hO 0 dX10_winnerOf_7 rfl rfl ?_
    refine sm_gi hO fl_RX10_72 dX10_winnerOf_8 (fun x1 => ?_)
    refine sm_icmp_ge (tgt := 56) hO dX10_winnerOf_11 (by decide) ?_ ?_
    · exact sm_sub [1, 2, 3] rfl (hk56 xL1 xL2 xL3)
    · refine sm_iload_n hO 3 dX10_winnerOf_14 rfl rfl ?_
      refine sm_iload hO 4 dX10_winnerOf_15 rfl ?_
      refine sm_iload_n hO 1 dX10_winnerOf_17 rfl rfl ?_
      refine sm_csi hO (ctX10_placeOf l G xL4 xL1) cw_RX10_300 kw_1215 [.int xL3] rfl rfl ⟨(Nat.le_of_ble_eq_true rfl), (Nat.le_of_ble_eq_true rfl)⟩ ⟨(Nat.le_of_ble_eq_true rfl), (Nat.le_of_ble_eq_true rfl)⟩ (Nat.le_of_ble_eq_true rfl) dX10_winnerOf_18 (fun x2 => ?_)
      refine sm_iload hO 4 dX10_winnerOf_21 rfl ?_
      refine sm_iload_n hO 2 dX10_winnerOf_23 rfl rfl ?_
      refine sm_csi hO (ctX10_placeOf l G xL4 xL2) cw_RX10_300 kw_1215 [.int x2, .int xL3] rfl rfl ⟨(Nat.le_of_ble_eq_true rfl), (Nat.le_of_ble_eq_true rfl)⟩ ⟨(Nat.le_of_ble_eq_true rfl), (Nat.le_of_ble_eq_true rfl)⟩ (Nat.le_of_ble_eq_true rfl) dX10_winnerOf_24 (fun x3 => ?_)
      refine sm_icmp_ge (tgt := 40) hO dX10_winnerOf_27 (by decide) ?_ ?_
      · refine sm_aload_n hO 0 dX10_winnerOf_40 rfl rfl ?_
        refine sm_gr hO fl_RX10_7 dX10_winnerOf_41 (fun a4 => ?_)
        refine sm_iload hO 4 dX10_winnerOf_44 rfl ?_
        refine sm_li hO dX10_winnerOf_46 (fun x5 => ?_)
        refine sm_ineg hO dX10_winnerOf_47 ?_
        exact sm_sub [0, 1, 2, 4] rfl (tX10_winnerOf_48 hO hr hk (fX10_winnerOf_5 k56 n) ih aL0 xL1 xL2 xL4 (-x5) xL3)
      · refine sm_aload_n hO 0 dX10_winnerOf_30 rfl rfl ?_
        refine sm_gr hO fl_RX10_7 dX10_winnerOf_31 (fun a6 => ?_)
        refine sm_iload hO 4 dX10_winnerOf_34 rfl ?_
        refine sm_li hO dX10_winnerOf_36 (fun x7 => ?_)
        refine sm_goto (tgt := 48) hO dX10_winnerOf_37 (by decide) ?_
        exact sm_sub [0, 1, 2, 4] rfl (tX10_winnerOf_48 hO hr hk (fX10_winnerOf_5 k56 n) ih aL0 xL1 xL2 xL4 x7 xL3)
set_option maxRecDepth 100000 in
set_option maxHeartbeats 4000000 in
theorem tX10_winnerOf_56 {p : Program} {l : Launch} {e : Env} {s : State} {m : MethodId} {args : Array Value} {below : List Frame} {meth : Method} {c : Code} {G : cG} (hO : c_Ok p s m c cX10_winnerOf 5 RX10 G) (hr : meth.sig.returnType = (some .int)) (hk : meth.locks = false) : ∀ (xL1 : Int32) (xL2 : Int32) (xL3 : Int32), Sm p l e { frames := 1, cells := 0, slots := 0, locals := 25 } s m args below meth c G 5 (c_Q G c_vi below args s 0 0) 0 0 56 [(1, .int xL1), (2, .int xL2), (3, .int xL3)] [] (fX10_winnerOf_56 xL1 xL2 xL3) := by
  intro xL1 xL2 xL3
  rw [fX10_winnerOf_56]
  refine sm_iload_n hO 2 dX10_winnerOf_56 rfl rfl ?_
  refine sm_if_le (tgt := 64) hO dX10_winnerOf_57 (by decide) ?_ ?_
  · refine sm_iload_n hO 2 dX10_winnerOf_64 rfl rfl ?_
    refine sm_if_ge (tgt := 72) hO dX10_winnerOf_65 (by decide) ?_ ?_
    · refine sm_iload_n hO 0 dX10_winnerOf_72 rfl rfl ?_
      refine sm_iload_n hO 1 dX10_winnerOf_73 rfl rfl ?_
      refine sm_icmp_ge (tgt := 81) hO dX10_winnerOf_74 (by decide) ?_ ?_
      · refine sm_iload_n hO 1 dX10_winnerOf_81 rfl rfl ?_
        exact sm_iret hO hr hk (Nat.le_of_ble_eq_true rfl) (Nat.le_of_ble_eq_true rfl) dX10_winnerOf_82
      · refine sm_iload_n hO 0 dX10_winnerOf_77 rfl rfl ?_
        refine sm_goto (tgt := 82) hO dX10_winnerOf_78 (by decide) ?_
        exact sm_iret hO hr hk (Nat.le_of_ble_eq_true rfl) (Nat.le_of_ble_eq_true rfl) dX10_winnerOf_82
    · refine sm_iload_n hO 1 dX10_winnerOf_68 rfl rfl ?_
      refine sm_goto (tgt := 82) hO dX10_winnerOf_69 (by decide) ?_
      exact sm_iret hO hr hk (Nat.le_of_ble_eq_true rfl) (Nat.le_of_ble_eq_true rfl) dX10_winnerOf_82
  · refine sm_iload_n hO 0 dX10_winnerOf_60 rfl rfl ?_
    refine sm_goto (tgt := 82) hO dX10_winnerOf_61 (by decide) ?_
    exact sm_iret hO hr hk (Nat.le_of_ble_eq_true rfl) (Nat.le_of_ble_eq_true rfl) dX10_winnerOf_82
set_option maxRecDepth 100000 in
set_option maxHeartbeats 4000000 in
theorem ctX10_winnerOf (l : Launch) (G : cG) (a0_ : Nat) (x1_ : Int32) (x2_ : Int32) : Ct l G yX10_winnerOf cX10_winnerOf 5 (some .int) 1 25 0 0 [.ref a0_, .int x1_, .int x2_] c_vi (pX10_winnerOf a0_ x1_ x2_) := by
  refine Ct.of (lv := [(0, .ref a0_), (1, .int x1_), (2, .int x2_)]) (by decide) (Nat.le_of_ble_eq_true rfl) rfl (fun p e s m args below meth c hO hr hk hin => ?_)
  rw [pX10_winnerOf]
  refine sm_iconst (v := 0) hO dX10_winnerOf_0 rfl ?_
  refine sm_istore_n hO [(3, .int 0), (0, .ref a0_), (1, .int x1_), (2, .int x2_)] dX10_winnerOf_1 rfl (by decide) rfl ?_
  refine sm_iconst (v := 0) hO dX10_winnerOf_2 rfl ?_
  refine sm_istore hO [(4, .int 0), (3, .int 0), (0, .ref a0_), (1, .int x1_), (2, .int x2_)] dX10_winnerOf_3 (by decide) rfl ?_
  exact sm_sub [2, 3, 4, 1, 0] rfl (tX10_winnerOf_5 hO hr hk fX10_winnerOf_56 (tX10_winnerOf_56 hO hr hk) c_fu a0_ x1_ x2_ 0 0)
/-! DollCongressModel.agendaOf(II)I -/
def pX10_agendaOf (a0_ : Nat) (x1_ : Int32) (x2_ : Int32) : MM Int32 := m_cv a0_ 9 (pX10_winnerOf a0_ x1_ x2_) (fun x1 => m_cv a0_ 9 (pX10_winnerOf a0_ x1 (((3 : Int32) - x1_) - x2_)) (fun x2 => m_ret x2))
set_option maxRecDepth 100000 in
set_option maxHeartbeats 4000000 in
theorem ctX10_agendaOf (l : Launch) (G : cG) (a0_ : Nat) (x1_ : Int32) (x2_ : Int32) : Ct l G yX10_agendaOf cX10_agendaOf 3 (some .int) 2 49 0 0 [.ref a0_, .int x1_, .int x2_] c_vi (pX10_agendaOf a0_ x1_ x2_) := by
  refine Ct.of (lv := [(0, .ref a0_), (1, .int x1_), (2, .int x2_)]) (by decide) (Nat.le_of_ble_eq_true rfl) rfl (fun p e s m args below meth c hO hr hk hin => ?_)
  rw [pX10_agendaOf]
  refine sm_aload_n hO 0 dX10_agendaOf_0 rfl rfl ?_
  refine sm_aload_n hO 0 dX10_agendaOf_1 rfl rfl ?_
  refine sm_iload_n hO 1 dX10_agendaOf_2 rfl rfl ?_
  refine sm_iload_n hO 2 dX10_agendaOf_3 rfl rfl ?_
  refine sm_cvi hO (ctX10_winnerOf l G a0_ x1_ x2_) cw_RX10_303 cv_X10_winnerOf [.ref a0_] rfl rfl ⟨(Nat.le_of_ble_eq_true rfl), (Nat.le_of_ble_eq_true rfl)⟩ ⟨(Nat.le_of_ble_eq_true rfl), (Nat.le_of_ble_eq_true rfl)⟩ (Nat.le_of_ble_eq_true rfl) dX10_agendaOf_4 (fun x1 => ?_)
  refine sm_iconst (v := 3) hO dX10_agendaOf_7 rfl ?_
  refine sm_iload_n hO 1 dX10_agendaOf_8 rfl rfl ?_
  refine sm_isub hO dX10_agendaOf_9 ?_
  refine sm_iload_n hO 2 dX10_agendaOf_10 rfl rfl ?_
  refine sm_isub hO dX10_agendaOf_11 ?_
  refine sm_cvi hO (ctX10_winnerOf l G a0_ x1 (((3 : Int32) - x1_) - x2_)) cw_RX10_303 cv_X10_winnerOf [] rfl rfl ⟨(Nat.le_of_ble_eq_true rfl), (Nat.le_of_ble_eq_true rfl)⟩ ⟨(Nat.le_of_ble_eq_true rfl), (Nat.le_of_ble_eq_true rfl)⟩ (Nat.le_of_ble_eq_true rfl) dX10_agendaOf_12 (fun x2 => ?_)
  exact sm_iret hO hr hk (Nat.le_of_ble_eq_true rfl) (Nat.le_of_ble_eq_true rfl) dX10_agendaOf_15
/-! DollCongressModel.agenda(II)I -/
def pX10_agenda (a0_ : Nat) (x1_ : Int32) (x2_ : Int32) : MM Int32 := m_bind (pX10_in (x1_.toInt64) 0 2) (fun x1 => if x1 = 0 then (m_ret ((-1000000002) : Int32)) else (m_bind (pX10_in (x2_.toInt64) 0 2) (fun x2 => if x2 = 0 then (m_ret ((-1000000002) : Int32)) else (if x1_ = x2_ then (m_ret ((-1000000002) : Int32)) else (m_gi a0_ 9 0 (fun x3 => if x3 = 0 then (m_ret ((-1000000003) : Int32)) else (m_cv a0_ 9 (pX10_agendaOf a0_ x1_ x2_) (fun x4 => m_ret x4))))))))
set_option maxRecDepth 100000 in
set_option maxHeartbeats 4000000 in
theorem ctX10_agenda (l : Launch) (G : cG) (a0_ : Nat) (x1_ : Int32) (x2_ : Int32) : Ct l G yX10_agenda cX10_agenda 3 (some .int) 3 71 0 0 [.ref a0_, .int x1_, .int x2_] c_vi (pX10_agenda a0_ x1_ x2_) := by
  refine Ct.of (lv := [(0, .ref a0_), (1, .int x1_), (2, .int x2_)]) (by decide) (Nat.le_of_ble_eq_true rfl) rfl (fun p e s m args below meth c hO hr hk hin => ?_)
  rw [pX10_agenda]
  refine sm_iload_n hO 1 dX10_agenda_0 rfl rfl ?_
  refine sm_i2l (v := x1_.toInt64) hO dX10_agenda_1 rfl ?_
  refine sm_lconst (v := 0) hO dX10_agenda_2 rfl ?_
  refine sm_ldc2 (v := 2) hO kw_1205 dX10_agenda_3 ?_
  refine sm_csi hO (ctX10_in l G (x1_.toInt64) 0 2) cw_RX10_75 kw_923 [] rfl rfl ⟨(Nat.le_of_ble_eq_true rfl), (Nat.le_of_ble_eq_true rfl)⟩ ⟨(Nat.le_of_ble_eq_true rfl), (Nat.le_of_ble_eq_true rfl)⟩ (Nat.le_of_ble_eq_true rfl) dX10_agenda_6 (fun x1 => ?_)
  refine sm_if_eq (tgt := 29) hO dX10_agenda_9 (by decide) ?_ ?_
  · refine sm_ldc (v := (-1000000002)) hO kw_925 dX10_agenda_29 ?_
    exact sm_iret hO hr hk (Nat.le_of_ble_eq_true rfl) (Nat.le_of_ble_eq_true rfl) dX10_agenda_31
  · refine sm_iload_n hO 2 dX10_agenda_12 rfl rfl ?_
    refine sm_i2l (v := x2_.toInt64) hO dX10_agenda_13 rfl ?_
    refine sm_lconst (v := 0) hO dX10_agenda_14 rfl ?_
    refine sm_ldc2 (v := 2) hO kw_1205 dX10_agenda_15 ?_
    refine sm_csi hO (ctX10_in l G (x2_.toInt64) 0 2) cw_RX10_75 kw_923 [] rfl rfl ⟨(Nat.le_of_ble_eq_true rfl), (Nat.le_of_ble_eq_true rfl)⟩ ⟨(Nat.le_of_ble_eq_true rfl), (Nat.le_of_ble_eq_true rfl)⟩ (Nat.le_of_ble_eq_true rfl) dX10_agenda_18 (fun x2 => ?_)
    refine sm_if_eq (tgt := 29) hO dX10_agenda_21 (by decide) ?_ ?_
    · refine sm_ldc (v := (-1000000002)) hO kw_925 dX10_agenda_29 ?_
      exact sm_iret hO hr hk (Nat.le_of_ble_eq_true rfl) (Nat.le_of_ble_eq_true rfl) dX10_agenda_31
    · refine sm_iload_n hO 1 dX10_agenda_24 rfl rfl ?_
      refine sm_iload_n hO 2 dX10_agenda_25 rfl rfl ?_
      refine sm_icmp_ne (tgt := 32) hO dX10_agenda_26 (by decide) ?_ ?_
      · refine sm_aload_n hO 0 dX10_agenda_32 rfl rfl ?_
        refine sm_gi hO fl_RX10_72 dX10_agenda_33 (fun x3 => ?_)
        refine sm_if_ne (tgt := 44) hO dX10_agenda_36 (by decide) ?_ ?_
        · refine sm_aload_n hO 0 dX10_agenda_44 rfl rfl ?_
          refine sm_iload_n hO 1 dX10_agenda_45 rfl rfl ?_
          refine sm_iload_n hO 2 dX10_agenda_46 rfl rfl ?_
          refine sm_cvi hO (ctX10_agendaOf l G a0_ x1_ x2_) cw_RX10_308 cv_X10_agendaOf [] rfl rfl ⟨(Nat.le_of_ble_eq_true rfl), (Nat.le_of_ble_eq_true rfl)⟩ ⟨(Nat.le_of_ble_eq_true rfl), (Nat.le_of_ble_eq_true rfl)⟩ (Nat.le_of_ble_eq_true rfl) dX10_agenda_47 (fun x4 => ?_)
          exact sm_iret hO hr hk (Nat.le_of_ble_eq_true rfl) (Nat.le_of_ble_eq_true rfl) dX10_agenda_50
        · refine sm_ldc (v := (-1000000003)) hO kw_1070 dX10_agenda_39 ?_
          refine sm_goto (tgt := 50) hO dX10_agenda_41 (by decide) ?_
          exact sm_iret hO hr hk (Nat.le_of_ble_eq_true rfl) (Nat.le_of_ble_eq_true rfl) dX10_agenda_50
      · refine sm_ldc (v := (-1000000002)) hO kw_925 dX10_agenda_29 ?_
        exact sm_iret hO hr hk (Nat.le_of_ble_eq_true rfl) (Nat.le_of_ble_eq_true rfl) dX10_agenda_31
