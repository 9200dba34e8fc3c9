/-! DollCongress$Scene.warmthBehind(LDollCongress$Roll;II)I -/
def fX5_warmthBehind_11  : Nat → Nat → Nat → Int32 → Int32 → Int32 → Int32 → MM Int32
  | 0, _, _, _, _, _, _ => m_bad
  | n + 1, aL0, aL1, xL2, xL3, xL4, xL5 => if xL3 ≤ xL5 then (m_ret xL4) else (m_gr aL1 4 1 (fun a1 => m_li 0 a1 xL2 (fun x2 => m_cv aL0 5 (pX5_isUp aL0 xL2) (fun x3 => m_gi aL0 5 5 (fun x4 => m_bind (pX5_warmthNext x2 x3 xL4 (x4 + xL5)) (fun x5 => m_let (xL5 + 1) (fun x6 => fX5_warmthBehind_11 n aL0 aL1 xL2 xL3 x5 x6)))))))
def pX5_warmthBehind (a0_ : Nat) (a1_ : Nat) (x2_ : Int32) (x3_ : Int32) : MM Int32 := m_gr a0_ 5 2 (fun a1 => m_li 0 a1 x2_ (fun x2 => fX5_warmthBehind_11 c_fu a0_ a1_ x2_ x3_ x2 0))
set_option maxRecDepth 100000 in
set_option maxHeartbeats 4000000 in
theorem tX5_warmthBehind_11 {p : Program} {l : Launch} {e : Env} {s : State} {m : MethodId} {args : Array Value} {below : List Frame} {meth : Method} {c : Code} {G : cG} (hO : c_Ok p s m c cX5_warmthBehind 6 RX5 G) (hr : meth.sig.returnType = (some .int)) (hk : meth.locks = false) : ∀ (n : Nat) (aL0 : Nat) (aL1 : Nat) (xL2 : Int32) (xL3 : Int32) (xL4 : Int32) (xL5 : Int32), Sm p l e { frames := 2, cells := 0, slots := 0, locals := 37 } s m args below meth c G 6 (c_Q G c_vi below args s 0 0) 0 0 11 [(0, .ref aL0), (1, .ref aL1), (2, .int xL2), (3, .int xL3), (4, .int xL4), (5, .int xL5)] [] (fX5_warmthBehind_11 n aL0 aL1 xL2 xL3 xL4 xL5) := by
  intro n
  induction n with
  | zero =>
    intro aL0 aL1 xL2 xL3 xL4 xL5
    exact sm_bad
  | succ n ih =>
    intro aL0 aL1 xL2 xL3 xL4 xL5
    rw [fX5_warmthBehind_11]
    refine sm_iload hO 5 dX5_warmthBehind_11 rfl ?_
    refine sm_iload_n hO 3 dX5_warmthBehind_13 rfl rfl ?_
    refine sm_icmp_ge (tgt := 48) hO dX5_warmthBehind_14 (by decide) ?_ ?_
    · refine sm_iload hO 4 dX5_warmthBehind_48 rfl ?_
      exact sm_iret hO hr hk (Nat.le_of_ble_eq_true rfl) (Nat.le_of_ble_eq_true rfl) dX5_warmthBehind_50
    · refine sm_aload_n hO 1 dX5_warmthBehind_17 rfl rfl ?_
      refine sm_gr hO fl_RX5_70 dX5_warmthBehind_18 (fun a1 => ?_)
      refine sm_iload_n hO 2 dX5_warmthBehind_21 rfl rfl ?_
      refine sm_li hO dX5_warmthBehind_22 (fun x2 => ?_)
      refine sm_aload_n hO 0 dX5_warmthBehind_23 rfl rfl ?_
      refine sm_iload_n hO 2 dX5_warmthBehind_24 rfl rfl ?_
      refine sm_cvi hO (ctX5_isUp l G aL0 xL2) cw_RX5_66 cv_X5_isUp [.int x2] rfl rfl ⟨(Nat.le_of_ble_eq_true rfl), (Nat.le_of_ble_eq_true rfl)⟩ ⟨(Nat.le_of_ble_eq_true rfl), (Nat.le_of_ble_eq_true rfl)⟩ (Nat.le_of_ble_eq_true rfl) dX5_warmthBehind_25 (fun x3 => ?_)
      refine sm_iload hO 4 dX5_warmthBehind_28 rfl ?_
      refine sm_aload_n hO 0 dX5_warmthBehind_30 rfl rfl ?_
      refine sm_gi hO fl_RX5_49 dX5_warmthBehind_31 (fun x4 => ?_)
      refine sm_iload hO 5 dX5_warmthBehind_34 rfl ?_
      refine sm_iadd hO dX5_warmthBehind_36 ?_
      refine sm_csi hO (ctX5_warmthNext l G x2 x3 xL4 (x4 + xL5)) cw_RX5_83 kw_598 [] rfl rfl ⟨(Nat.le_of_ble_eq_true rfl), (Nat.le_of_ble_eq_true rfl)⟩ ⟨(Nat.le_of_ble_eq_true rfl), (Nat.le_of_ble_eq_true rfl)⟩ (Nat.le_of_ble_eq_true rfl) dX5_warmthBehind_37 (fun x5 => ?_)
      refine sm_istore hO [(4, .int x5), (0, .ref aL0), (1, .ref aL1), (2, .int xL2), (3, .int xL3), (5, .int xL5)] dX5_warmthBehind_40 (by decide) rfl ?_
      refine sm_iincL (v := xL5 + 1) hO 5 (fun x6 => [(5, .int x6), (4, .int x5), (0, .ref aL0), (1, .ref aL1), (2, .int xL2), (3, .int xL3)]) dX5_warmthBehind_42 rfl rfl (by decide) (fun _ => rfl) (fun x6 => ?_)
      refine sm_goto (tgt := 11) hO dX5_warmthBehind_45 (by decide) ?_
      exact sm_sub [2, 3, 4, 5, 1, 0] rfl (ih aL0 aL1 xL2 xL3 x5 x6)
set_option maxRecDepth 100000 in
set_option maxHeartbeats 4000000 in
theorem ctX5_warmthBehind (l : Launch) (G : cG) (a0_ : Nat) (a1_ : Nat) (x2_ : Int32) (x3_ : Int32) : Ct l G yX5_warmthBehind cX5_warmthBehind 6 (some .int) 2 37 0 0 [.ref a0_, .ref a1_, .int x2_, .int x3_] c_vi (pX5_warmthBehind a0_ a1_ x2_ x3_) := by
  refine Ct.of (lv := [(0, .ref a0_), (1, .ref a1_), (2, .int x2_), (3, .int x3_)]) (by decide) (Nat.le_of_ble_eq_true rfl) rfl (fun p e s m args below meth c hO hr hk hin => ?_)
  rw [pX5_warmthBehind]
  refine sm_aload_n hO 0 dX5_warmthBehind_0 rfl rfl ?_
  refine sm_gr hO fl_RX5_18 dX5_warmthBehind_1 (fun a1 => ?_)
  refine sm_iload_n hO 2 dX5_warmthBehind_4 rfl rfl ?_
  refine sm_li hO dX5_warmthBehind_5 (fun x2 => ?_)
  refine sm_istore hO [(4, .int x2), (0, .ref a0_), (1, .ref a1_), (2, .int x2_), (3, .int x3_)] dX5_warmthBehind_6 (by decide) rfl ?_
  refine sm_iconst (v := 0) hO dX5_warmthBehind_8 rfl ?_
  refine sm_istore hO [(5, .int 0), (4, .int x2), (0, .ref a0_), (1, .ref a1_), (2, .int x2_), (3, .int x3_)] dX5_warmthBehind_9 (by decide) rfl ?_
  exact sm_sub [2, 3, 4, 5, 1, 0] rfl (tX5_warmthBehind_11 hO hr hk c_fu a0_ a1_ x2_ x3_ x2 0)
/-! DollCongress.warm(II)I -/
def pX9_warm (a0_ : Nat) (x1_ : Int32) (x2_ : Int32) : MM Int32 := m_gr a0_ 8 7 (fun a1 => m_cv a1 4 (pX4_hasDoll a1 x1_) (fun x2 => if x2 = 0 then (m_ret ((-1000000001) : Int32)) else (if x2_ < 0 then (m_ret ((-1000000002) : Int32)) else (if x2_ ≤ (100 : Int32) then (m_gr a0_ 8 1 (fun a3 => m_gr a0_ 8 7 (fun a4 => m_cv a3 5 (pX5_warmthBehind a3 a4 x1_ x2_) (fun x5 => m_ret x5)))) else (m_ret ((-1000000002) : Int32))))))
set_option maxRecDepth 100000 in
set_option maxHeartbeats 4000000 in
theorem ctX9_warm (l : Launch) (G : cG) (a0_ : Nat) (x1_ : Int32) (x2_ : Int32) : Ct l G yX9_warm cX9_warm 3 (some .int) 3 62 0 0 [.ref a0_, .int x1_, .int x2_] c_vi (pX9_warm a0_ x1_ x2_) := by
  refine Ct.of (lv := [(0, .ref a0_), (1, .int x1_), (2, .int x2_)]) (by decide) (Nat.le_of_ble_eq_true rfl) rfl (fun p e s m args below meth c hO hr hk hin => ?_)
  rw [pX9_warm]
  refine sm_aload_n hO 0 dX9_warm_0 rfl rfl ?_
  refine sm_gr hO fl_RX9_60 dX9_warm_1 (fun a1 => ?_)
  refine sm_iload_n hO 1 dX9_warm_4 rfl rfl ?_
  refine sm_cvi hO (ctX4_hasDoll l G a1 x1_) cw_RX9_153 cv_X4_hasDoll [] rfl rfl ⟨(Nat.le_of_ble_eq_true rfl), (Nat.le_of_ble_eq_true rfl)⟩ ⟨(Nat.le_of_ble_eq_true rfl), (Nat.le_of_ble_eq_true rfl)⟩ (Nat.le_of_ble_eq_true rfl) dX9_warm_5 (fun x2 => ?_)
  refine sm_if_ne (tgt := 14) hO dX9_warm_8 (by decide) ?_ ?_
  · refine sm_iload_n hO 2 dX9_warm_14 rfl rfl ?_
    refine sm_if_lt (tgt := 24) hO dX9_warm_15 (by decide) ?_ ?_
    · refine sm_ldc (v := (-1000000002)) hO kw_362 dX9_warm_24 ?_
      exact sm_iret hO hr hk (Nat.le_of_ble_eq_true rfl) (Nat.le_of_ble_eq_true rfl) dX9_warm_26
    · refine sm_iload_n hO 2 dX9_warm_18 rfl rfl ?_
      refine sm_bipush (v := 100) hO dX9_warm_19 rfl ?_
      refine sm_icmp_le (tgt := 27) hO dX9_warm_21 (by decide) ?_ ?_
      · refine sm_aload_n hO 0 dX9_warm_27 rfl rfl ?_
        refine sm_gr hO fl_RX9_19 dX9_warm_28 (fun a3 => ?_)
        refine sm_aload_n hO 0 dX9_warm_31 rfl rfl ?_
        refine sm_gr hO fl_RX9_60 dX9_warm_32 (fun a4 => ?_)
        refine sm_iload_n hO 1 dX9_warm_35 rfl rfl ?_
        refine sm_iload_n hO 2 dX9_warm_36 rfl rfl ?_
        refine sm_cvi hO (ctX5_warmthBehind l G a3 a4 x1_ x2_) cw_RX9_227 cv_X5_warmthBehind [] rfl rfl ⟨(Nat.le_of_ble_eq_true rfl), (Nat.le_of_ble_eq_true rfl)⟩ ⟨(Nat.le_of_ble_eq_true rfl), (Nat.le_of_ble_eq_true rfl)⟩ (Nat.le_of_ble_eq_true rfl) dX9_warm_37 (fun x5 => ?_)
        exact sm_iret hO hr hk (Nat.le_of_ble_eq_true rfl) (Nat.le_of_ble_eq_true rfl) dX9_warm_40
      · refine sm_ldc (v := (-1000000002)) hO kw_362 dX9_warm_24 ?_
        exact sm_iret hO hr hk (Nat.le_of_ble_eq_true rfl) (Nat.le_of_ble_eq_true rfl) dX9_warm_26
  · refine sm_ldc (v := (-1000000001)) hO kw_512 dX9_warm_11 ?_
    exact sm_iret hO hr hk (Nat.le_of_ble_eq_true rfl) (Nat.le_of_ble_eq_true rfl) dX9_warm_13
/-! DollCongressModel.warm(II)I -/
def fX10_warm_41 (k56 : Nat → Int32 → MM Int32) : Nat → Nat → Int32 → Int32 → Int32 → MM Int32
  | 0, _, _, _, _ => m_bad
  | n + 1, aL0, xL1, xL2, xL3 => if xL2 ≤ xL3 then (k56 aL0 xL1) else (m_cv aL0 9 (pX10_pass aL0) (fun _ => m_let (xL3 + 1) (fun x1 => fX10_warm_41 k56 n aL0 xL1 xL2 x1)))
def fX10_warm_56  (aL0 : Nat) (xL1 : Int32) : MM Int32 := m_gr aL0 9 8 (fun a1 => m_li 0 a1 ((9 : Int32) + xL1) (fun x2 => m_gr aL0 9 27 (fun a3 => m_gr aL0 9 8 (fun a4 => m_bind (pX10_copyRow a3 a4 (36 : Int32)) (fun _ => m_ret x2)))))
def pX10_warm (a0_ : Nat) (x1_ : Int32) (x2_ : Int32) : MM Int32 := m_cv a0_ 9 (pX10_isDoll a0_ x1_) (fun x1 => if x1 = 0 then (m_ret ((-1000000001) : Int32)) else (m_bind (pX10_in (x2_.toInt64) 0 100) (fun x2 => if x2 = 0 then (m_ret ((-1000000002) : Int32)) else (m_gr a0_ 9 8 (fun a3 => m_gr a0_ 9 27 (fun a4 => m_bind (pX10_copyRow a3 a4 (36 : Int32)) (fun _ => fX10_warm_41 fX10_warm_56 c_fu a0_ x1_ x2_ 0)))))))
set_option maxRecDepth 100000 in
set_option maxHeartbeats 4000000 in
theorem tX10_warm_41 {p : Program} {l : Launch} {e : Env} {s : State} {m : MethodId} {args : Array Value} {below : List Frame} {meth : Method} {c : Code} {G : cG} (hO : c_Ok p s m c cX10_warm 4 RX10 G) (hr : meth.sig.returnType = (some .int)) (hk : meth.locks = false) (k56 : Nat → Int32 → MM Int32) (hk56 : ∀ (aL0 : Nat) (xL1 : Int32), Sm p l e { frames := 3, cells := 0, slots := 0, locals := 65 } s m args below meth c G 4 (c_Q G c_vi below args s 0 0) 0 0 56 [(0, .ref aL0), (1, .int xL1)] [] (k56 aL0 xL1))  : ∀ (n : Nat) (aL0 : Nat) (xL1 : Int32) (xL2 : Int32) (xL3 : Int32), Sm p l e { frames := 3, cells := 0, slots := 0, locals := 65 } s m args below meth c G 4 (c_Q G c_vi below args s 0 0) 0 0 41 [(0, .ref aL0), (1, .int xL1), (2, .int xL2), (3, .int xL3)] [] (fX10_warm_41 k56 n aL0 xL1 xL2 xL3) := by
  intro n
  induction n with
  | zero =>
    intro aL0 xL1 xL2 xL3
    exact sm_bad
  | succ n ih =>
    intro aL0 xL1 xL2 xL3
    rw [fX10_warm_41]
    refine sm_iload_n hO 3 dX10_warm_41 rfl rfl ?_
    refine sm_iload_n hO 2 dX10_warm_42 rfl rfl ?_
    refine sm_icmp_ge (tgt := 56) hO dX10_warm_43 (by decide) ?_ ?_
    · exact sm_sub [0, 1] rfl (hk56 aL0 xL1)
    · refine sm_aload_n hO 0 dX10_warm_46 rfl rfl ?_
      refine sm_cvv hO (ctX10_pass l G aL0) cw_RX10_257 cv_X10_pass [] rfl rfl ⟨(Nat.le_of_ble_eq_true rfl), (Nat.le_of_ble_eq_true rfl)⟩ ⟨(Nat.le_of_ble_eq_true rfl), (Nat.le_of_ble_eq_true rfl)⟩ (Nat.le_of_ble_eq_true rfl) dX10_warm_47 (fun _ => ?_)
      refine sm_iincL (v := xL3 + 1) hO 3 (fun x1 => [(3, .int x1), (0, .ref aL0), (1, .int xL1), (2, .int xL2)]) dX10_warm_50 rfl rfl (by decide) (fun _ => rfl) (fun x1 => ?_)
      refine sm_goto (tgt := 41) hO dX10_warm_53 (by decide) ?_
      exact sm_sub [1, 2, 3, 0] rfl (ih aL0 xL1 xL2 x1)
set_option maxRecDepth 100000 in
set_option maxHeartbeats 4000000 in
theorem tX10_warm_56 {p : Program} {l : Launch} {e : Env} {s : State} {m : MethodId} {args : Array Value} {below : List Frame} {meth : Method} {c : Code} {G : cG} (hO : c_Ok p s m c cX10_warm 4 RX10 G) (hr : meth.sig.returnType = (some .int)) (hk : meth.locks = false) : ∀ (aL0 : Nat) (xL1 : Int32), Sm p l e { frames := 3, cells := 0, slots := 0, locals := 65 } s m args below meth c G 4 (c_Q G c_vi below args s 0 0) 0 0 56 [(0, .ref aL0), (1, .int xL1)] [] (fX10_warm_56 aL0 xL1) := by
  intro aL0 xL1
  rw [fX10_warm_56]
  refine sm_aload_n hO 0 dX10_warm_56 rfl rfl ?_
  refine sm_gr hO fl_RX10_22 dX10_warm_57 (fun a1 => ?_)
  refine sm_bipush (v := 9) hO dX10_warm_60 rfl ?_
  refine sm_iload_n hO 1 dX10_warm_62 rfl rfl ?_
  refine sm_iadd hO dX10_warm_63 ?_
  refine sm_li hO dX10_warm_64 (fun x2 => ?_)
  refine sm_istore_n hO [(3, .int x2), (0, .ref aL0), (1, .int xL1)] dX10_warm_65 rfl (by decide) rfl ?_
  refine sm_aload_n hO 1 dX10_warm_66 rfl rfl ?_
  refine sm_gr hO fl_RX10_47 dX10_warm_67 (fun a3 => ?_)
  refine sm_aload_n hO 1 dX10_warm_70 rfl rfl ?_
  refine sm_gr hO fl_RX10_22 dX10_warm_71 (fun a4 => ?_)
  refine sm_bipush (v := 36) hO dX10_warm_74 rfl ?_
  refine sm_csv hO (ctX10_copyRow l G a3 a4 (36 : Int32)) cw_RX10_152 kw_978 [] rfl rfl ⟨(Nat.le_of_ble_eq_true rfl), (Nat.le_of_ble_eq_true rfl)⟩ ⟨(Nat.le_of_ble_eq_true rfl), (Nat.le_of_ble_eq_true rfl)⟩ (Nat.le_of_ble_eq_true rfl) dX10_warm_76 (fun _ => ?_)
  refine sm_iload_n hO 0 dX10_warm_79 rfl rfl ?_
  exact sm_iret hO hr hk (Nat.le_of_ble_eq_true rfl) (Nat.le_of_ble_eq_true rfl) dX10_warm_80
set_option maxRecDepth 100000 in
set_option maxHeartbeats 4000000 in
theorem ctX10_warm (l : Launch) (G : cG) (a0_ : Nat) (x1_ : Int32) (x2_ : Int32) : Ct l G yX10_warm cX10_warm 4 (some .int) 3 65 0 0 [.ref a0_, .int x1_, .int x2_] c_vi (pX10_warm a0_ x1_ x2_) := by
  refine Ct.of (lv := [(0, .ref a0_), (1, .int x1_), (2, .int x2_)]) (by decide) (Nat.le_of_ble_eq_true rfl) rfl (fun p e s m args below meth c hO hr hk hin => ?_)
  rw [pX10_warm]
  refine sm_aload_n hO 0 dX10_warm_0 rfl rfl ?_
  refine sm_iload_n hO 1 dX10_warm_1 rfl rfl ?_
  refine sm_cvi hO (ctX10_isDoll l G a0_ x1_) cw_RX10_215 cv_X10_isDoll [] rfl rfl ⟨(Nat.le_of_ble_eq_true rfl), (Nat.le_of_ble_eq_true rfl)⟩ ⟨(Nat.le_of_ble_eq_true rfl), (Nat.le_of_ble_eq_true rfl)⟩ (Nat.le_of_ble_eq_true rfl) dX10_warm_2 (fun x1 => ?_)
  refine sm_if_ne (tgt := 11) hO dX10_warm_5 (by decide) ?_ ?_
  · refine sm_iload_n hO 2 dX10_warm_11 rfl rfl ?_
    refine sm_i2l (v := x2_.toInt64) hO dX10_warm_12 rfl ?_
    refine sm_lconst (v := 0) hO dX10_warm_13 rfl ?_
    refine sm_ldc2 (v := 100) hO kw_1150 dX10_warm_14 ?_
    refine sm_csi hO (ctX10_in l G (x2_.toInt64) 0 100) cw_RX10_75 kw_923 [] rfl rfl ⟨(Nat.le_of_ble_eq_true rfl), (Nat.le_of_ble_eq_true rfl)⟩ ⟨(Nat.le_of_ble_eq_true rfl), (Nat.le_of_ble_eq_true rfl)⟩ (Nat.le_of_ble_eq_true rfl) dX10_warm_17 (fun x2 => ?_)
    refine sm_if_ne (tgt := 26) hO dX10_warm_20 (by decide) ?_ ?_
    · refine sm_aload_n hO 0 dX10_warm_26 rfl rfl ?_
      refine sm_gr hO fl_RX10_22 dX10_warm_27 (fun a3 => ?_)
      refine sm_aload_n hO 0 dX10_warm_30 rfl rfl ?_
      refine sm_gr hO fl_RX10_47 dX10_warm_31 (fun a4 => ?_)
      refine sm_bipush (v := 36) hO dX10_warm_34 rfl ?_
      refine sm_csv hO (ctX10_copyRow l G a3 a4 (36 : Int32)) cw_RX10_152 kw_978 [] rfl rfl ⟨(Nat.le_of_ble_eq_true rfl), (Nat.le_of_ble_eq_true rfl)⟩ ⟨(Nat.le_of_ble_eq_true rfl), (Nat.le_of_ble_eq_true rfl)⟩ (Nat.le_of_ble_eq_true rfl) dX10_warm_36 (fun _ => ?_)
      refine sm_iconst (v := 0) hO dX10_warm_39 rfl ?_
      refine sm_istore_n hO [(3, .int 0), (0, .ref a0_), (1, .int x1_), (2, .int x2_)] dX10_warm_40 rfl (by decide) rfl ?_
      exact sm_sub [1, 2, 3, 0] rfl (tX10_warm_41 hO hr hk fX10_warm_56 (tX10_warm_56 hO hr hk) c_fu a0_ x1_ x2_ 0)
    · refine sm_ldc (v := (-1000000002)) hO kw_925 dX10_warm_23 ?_
      exact sm_iret hO hr hk (Nat.le_of_ble_eq_true rfl) (Nat.le_of_ble_eq_true rfl) dX10_warm_25
  · refine sm_ldc (v := (-1000000001)) hO kw_1046 dX10_warm_8 ?_
    exact sm_iret hO hr hk (Nat.le_of_ble_eq_true rfl) (Nat.le_of_ble_eq_true rfl) dX10_warm_10
/-! DollCongress.warmest(I)I -/
def fX9_warmest_60 (k20 : Nat → Int32 → Int32 → Int32 → Int32 → MM Int32) (aL0 : Nat) (xL1 : Int32) (xL2 : Int32) (xL3 : Int32) (xL4 : Int32) : MM Int32 := m_let (xL4 + 1) (fun x1 => k20 aL0 xL1 xL2 xL3 x1)
def fX9_warmest_20  : Nat → Nat → Int32 → Int32 → Int32 → Int32 → MM Int32
  | 0, _, _, _, _, _ => m_bad
  | n + 1, aL0, xL1, xL2, xL3, xL4 => m_gr aL0 8 7 (fun a1 => m_gi a1 4 6 (fun x2 => if x2 ≤ xL4 then (m_ret xL2) else (m_gr aL0 8 1 (fun a3 => m_gr aL0 8 7 (fun a4 => m_cv a3 5 (pX5_warmthBehind a3 a4 xL4 xL1) (fun x5 => if x5 ≤ xL3 then (fX9_warmest_60 (fX9_warmest_20 n) aL0 xL1 xL2 xL3 xL4) else (fX9_warmest_60 (fX9_warmest_20 n) aL0 xL1 xL4 x5 xL4)))))))
def pX9_warmest (a0_ : Nat) (x1_ : Int32) : MM Int32 := if x1_ < 0 then (m_ret ((-1000000002) : Int32)) else (if x1_ ≤ (100 : Int32) then (fX9_warmest_20 c_fu a0_ x1_ ((-1)) ((-1)) 0) else (m_ret ((-1000000002) : Int32)))
set_option maxRecDepth 100000 in
set_option maxHeartbeats 4000000 in
theorem tX9_warmest_60 {p : Program} {l : Launch} {e : Env} {s : State} {m : MethodId} {args : Array Value} {below : List Frame} {meth : Method} {c : Code} {G : cG} (hO : c_Ok p s m c cX9_warmest 6 RX9 G) (hr : meth.sig.returnType = (some .int)) (hk : meth.locks = false) (k20 : Nat → Int32 → Int32 → Int32 → Int32 → MM Int32) (hk20 : ∀ (aL0 : Nat) (xL1 : Int32) (xL2 : Int32) (xL3 : Int32) (xL4 : Int32), Sm p l e { frames := 3, cells := 0, slots := 0, locals := 62 } s m args below meth c G 6 (c_Q G c_vi below args s 0 0) 0 0 20 [(0, .ref aL0), (1, .int xL1), (2, .int xL2), (3, .int xL3), (4, .int xL4)] [] (k20 aL0 xL1 xL2 xL3 xL4))  : ∀ (aL0 : Nat) (xL1 : Int32) (xL2 : Int32) (xL3 : Int32) (xL4 : Int32), Sm p l e { frames := 3, cells := 0, slots := 0, locals := 62 } s m args below meth c G 6 (c_Q G c_vi below args s 0 0) 0 0 60 [(0, .ref aL0), (1, .int xL1), (2, .int xL2), (3, .int xL3), (4, .int xL4)] [] (fX9_warmest_60 k20 aL0 xL1 xL2 xL3 xL4) := by
  intro aL0 xL1 xL2 xL3 xL4
  rw [fX9_warmest_60]
  refine sm_iincL (v := xL4 + 1) hO 4 (fun x1 => [(4, .int x1), (0, .ref aL0), (1, .int xL1), (2, .int xL2), (3, .int xL3)]) dX9_warmest_60 rfl rfl (by decide) (fun _ => rfl) (fun x1 => ?_)
  refine sm_goto (tgt := 20) hO dX9_warmest_63 (by decide) ?_
  exact sm_sub [1, 2, 3, 4, 0] rfl (hk20 aL0 xL1 xL2 xL3 x1)
set_option maxRecDepth 100000 in
set_option maxHeartbeats 4000000 in
theorem tX9_warmest_20 {p : Program} {l : Launch} {e : Env} {s : State} {m : MethodId} {args : Array Value} {below : List Frame} {meth : Method} {c : Code} {G : cG} (hO : c_Ok p s m c cX9_warmest 6 RX9 G) (hr : meth.sig.returnType = (some .int)) (hk : meth.locks = false) : ∀ (n : Nat) (aL0 : Nat) (xL1 : Int32) (xL2 : Int32) (xL3 : Int32) (xL4 : Int32), Sm p l e { frames := 3, cells := 0, slots := 0, locals := 62 } s m args below meth c G 6 (c_Q G c_vi below args s 0 0) 0 0 20 [(0, .ref aL0), (1, .int xL1), (2, .int xL2), (3, .int xL3), (4, .int xL4)] [] (fX9_warmest_20 n aL0 xL1 xL2 xL3 xL4) := by
  intro n
  induction n with
  | zero =>
    intro aL0 xL1 xL2 xL3 xL4
    exact sm_bad
  | succ n ih =>
    intro aL0 xL1 xL2 xL3 xL4
    rw [fX9_warmest_20]
    refine sm_iload hO 4 dX9_warmest_20 rfl ?_
    refine sm_aload_n hO 0 dX9_warmest_22 rfl rfl ?_
    refine sm_gr hO fl_RX9_60 dX9_warmest_23 (fun a1 => ?_)
    refine sm_gi hO fl_RX9_97 dX9_warmest_26 (fun x2 => ?_)
    refine sm_icmp_ge (tgt := 66) hO dX9_warmest_29 (by decide) ?_ ?_
    · refine sm_iload_n hO 2 dX9_warmest_66 rfl rfl ?_
      exact sm_iret hO hr hk (Nat.le_of_ble_eq_true rfl) (Nat.le_of_ble_eq_true rfl) dX9_warmest_67
    · refine sm_aload_n hO 0 dX9_warmest_32 rfl rfl ?_
      refine sm_gr hO fl_RX9_19 dX9_warmest_33 (fun a3 => ?_)
      refine sm_aload_n hO 0 dX9_warmest_36 rfl rfl ?_
      refine sm_gr hO fl_RX9_60 dX9_warmest_37 (fun a4 => ?_)
      refine sm_iload hO 4 dX9_warmest_40 rfl ?_
      refine sm_iload_n hO 1 dX9_warmest_42 rfl rfl ?_
      refine sm_cvi hO (ctX5_warmthBehind l G a3 a4 xL4 xL1) cw_RX9_227 cv_X5_warmthBehind [] rfl rfl ⟨(Nat.le_of_ble_eq_true rfl), (Nat.le_of_ble_eq_true rfl)⟩ ⟨(Nat.le_of_ble_eq_true rfl), (Nat.le_of_ble_eq_true rfl)⟩ (Nat.le_of_ble_eq_true rfl) dX9_warmest_43 (fun x5 => ?_)
      refine sm_istore hO [(5, .int x5), (0, .ref aL0), (1, .int xL1), (2, .int xL2), (3, .int xL3), (4, .int xL4)] dX9_warmest_46 (by decide) rfl ?_
      refine sm_iload hO 0 dX9_warmest_48 rfl ?_
      refine sm_iload_n hO 4 dX9_warmest_50 rfl rfl ?_
      refine sm_icmp_le (tgt := 60) hO dX9_warmest_51 (by decide) ?_ ?_
      · exact sm_sub [1, 2, 3, 4, 5] rfl (tX9_warmest_60 hO hr hk (fX9_warmest_20 n) ih aL0 xL1 xL2 xL3 xL4)
      · refine sm_iload hO 5 dX9_warmest_54 rfl ?_
        refine sm_istore_n hO [(2, .int xL4), (5, .int x5), (0, .ref aL0), (1, .int xL1), (3, .int xL3), (4, .int xL4)] dX9_warmest_56 rfl (by decide) rfl ?_
        refine sm_iload hO 1 dX9_warmest_57 rfl ?_
        refine sm_istore_n hO [(3, .int x5), (2, .int xL4), (5, .int x5), (0, .ref aL0), (1, .int xL1), (4, .int xL4)] dX9_warmest_59 rfl (by decide) rfl ?_
        exact sm_sub [3, 4, 1, 0, 5] rfl (tX9_warmest_60 hO hr hk (fX9_warmest_20 n) ih aL0 xL1 xL4 x5 xL4)
set_option maxRecDepth 100000 in
set_option maxHeartbeats 4000000 in
theorem ctX9_warmest (l : Launch) (G : cG) (a0_ : Nat) (x1_ : Int32) : Ct l G yX9_warmest cX9_warmest 6 (some .int) 3 62 0 0 [.ref a0_, .int x1_] c_vi (pX9_warmest a0_ x1_) := by
  refine Ct.of (lv := [(0, .ref a0_), (1, .int x1_)]) (by decide) (Nat.le_of_ble_eq_true rfl) rfl (fun p e s m args below meth c hO hr hk hin => ?_)
  rw [pX9_warmest]
  refine sm_iload_n hO 1 dX9_warmest_0 rfl rfl ?_
  refine sm_if_lt (tgt := 10) hO dX9_warmest_1 (by decide) ?_ ?_
  · refine sm_ldc (v := (-1000000002)) hO kw_362 dX9_warmest_10 ?_
    exact sm_iret hO hr hk (Nat.le_of_ble_eq_true rfl) (Nat.le_of_ble_eq_true rfl) dX9_warmest_12
  · refine sm_iload_n hO 1 dX9_warmest_4 rfl rfl ?_
    refine sm_bipush (v := 100) hO dX9_warmest_5 rfl ?_
    refine sm_icmp_le (tgt := 13) hO dX9_warmest_7 (by decide) ?_ ?_
    · refine sm_iconst (v := (-1)) hO dX9_warmest_13 rfl ?_
      refine sm_istore_n hO [(2, .int ((-1))), (0, .ref a0_), (1, .int x1_)] dX9_warmest_14 rfl (by decide) rfl ?_
      refine sm_iconst (v := (-1)) hO dX9_warmest_15 rfl ?_
      refine sm_istore_n hO [(3, .int ((-1))), (2, .int ((-1))), (0, .ref a0_), (1, .int x1_)] dX9_warmest_16 rfl (by decide) rfl ?_
      refine sm_iconst (v := 0) hO dX9_warmest_17 rfl ?_
      refine sm_istore hO [(4, .int 0), (3, .int ((-1))), (2, .int ((-1))), (0, .ref a0_), (1, .int x1_)] dX9_warmest_18 (by decide) rfl ?_
      exact sm_sub [3, 4, 2, 1, 0] rfl (tX9_warmest_20 hO hr hk c_fu a0_ x1_ ((-1)) ((-1)) 0)
    · refine sm_ldc (v := (-1000000002)) hO kw_362 dX9_warmest_10 ?_
      exact sm_iret hO hr hk (Nat.le_of_ble_eq_true rfl) (Nat.le_of_ble_eq_true rfl) dX9_warmest_12
/-! DollCongressModel.warmest(I)I -/
def fX10_warmest_30 (k45 : Nat → MM Int32) : Nat → Nat → Int32 → Int32 → MM Int32
  | 0, _, _, _ => m_bad
  | n + 1, aL0, xL1, xL2 => if xL1 ≤ xL2 then (k45 aL0) else (m_cv aL0 9 (pX10_pass aL0) (fun _ => m_let (xL2 + 1) (fun x1 => fX10_warmest_30 k45 n aL0 xL1 x1)))
def fX10_warmest_82 (k87 : Nat → Int32 → Int32 → MM Int32) (aL0 : Nat) (xL3 : Int32) : MM Int32 := k87 aL0 xL3 xL3
def fX10_warmest_87 (k49 : Nat → Int32 → Int32 → MM Int32) (aL0 : Nat) (xL3 : Int32) (xS0 : Int32) : MM Int32 := m_let (xL3 + 1) (fun x1 => k49 aL0 xS0 x1)
def fX10_warmest_49 (k94 : Nat → Int32 → MM Int32) : Nat → Nat → Int32 → Int32 → MM Int32
  | 0, _, _, _ => m_bad
  | n + 1, aL0, xL2, xL3 => m_gi aL0 9 2 (fun x1 => if x1 ≤ xL3 then (k94 aL0 xL2) else (if xL2 < 0 then (fX10_warmest_82 (fX10_warmest_87 (fX10_warmest_49 k94 n)) aL0 xL3) else (m_gr aL0 9 8 (fun a2 => m_li 0 a2 ((9 : Int32) + xL3) (fun x3 => m_gr aL0 9 8 (fun a4 => m_li 0 a4 ((9 : Int32) + xL2) (fun x5 => if x3 ≤ x5 then (fX10_warmest_87 (fX10_warmest_49 k94 n) aL0 xL3 xL2) else (fX10_warmest_82 (fX10_warmest_87 (fX10_warmest_49 k94 n)) aL0 xL3))))))))
def fX10_warmest_94  (aL0 : Nat) (xL2 : Int32) : MM Int32 := m_gr aL0 9 27 (fun a1 => m_gr aL0 9 8 (fun a2 => m_bind (pX10_copyRow a1 a2 (36 : Int32)) (fun _ => m_ret xL2)))
def fX10_warmest_45  (aL0 : Nat) : MM Int32 := fX10_warmest_49 fX10_warmest_94 c_fu aL0 ((-1)) 0
def pX10_warmest (a0_ : Nat) (x1_ : Int32) : MM Int32 := m_bind (pX10_in (x1_.toInt64) 0 100) (fun x1 => if x1 = 0 then (m_ret ((-1000000002) : Int32)) else (m_gr a0_ 9 8 (fun a2 => m_gr a0_ 9 27 (fun a3 => m_bind (pX10_copyRow a2 a3 (36 : Int32)) (fun _ => fX10_warmest_30 fX10_warmest_45 c_fu a0_ x1_ 0)))))
set_option maxRecDepth 100000 in
set_option maxHeartbeats 4000000 in
theorem tX10_warmest_30 {p : Program} {l : Launch} {e : Env} {s : State} {m : MethodId} {args : Array Value} {below : List Frame} {meth : Method} {c : Code} {G : cG} (hO : c_Ok p s m c cX10_warmest 4 RX10 G) (hr : meth.sig.returnType = (some .int)) (hk : meth.locks = false) (k45 : Nat → MM Int32) (hk45 : ∀ (aL0 : Nat), Sm p l e { frames := 3, cells := 0, slots := 0, locals := 65 } s m args below meth c G 4 (c_Q G c_vi below args s 0 0) 0 0 45 [(0, .ref aL0)] [] (k45 aL0))  : ∀ (n : Nat) (aL0 : Nat) (xL1 : Int32) (xL2 : Int32), Sm p l e { frames := 3, cells := 0, slots := 0, locals := 65 } s m args below meth c G 4 (c_Q G c_vi below args s 0 0) 0 0 30 [(0, .ref aL0), (1, .int xL1), (2, .int xL2)] [] (fX10_warmest_30 k45 n aL0 xL1 xL2) := by
  intro n
  induction n with
  | zero =>
    intro aL0 xL1 xL2
    exact sm_bad
  | succ n ih =>
    intro aL0 xL1 xL2
    rw [fX10_warmest_30]
    refine sm_iload_n hO 2 dX10_warmest_30 rfl rfl ?_
    refine sm_iload_n hO 1 dX10_warmest_31 rfl rfl ?_
    refine sm_icmp_ge (tgt := 45) hO dX10_warmest_32 (by decide) ?_ ?_
    · exact sm_sub [0] rfl (hk45 aL0)
    · refine sm_aload_n hO 0 dX10_warmest_35 rfl rfl ?_
      refine sm_cvv hO (ctX10_pass l G aL0) cw_RX10_257 cv_X10_pass [] rfl rfl ⟨(Nat.le_of_ble_eq_true rfl), (Nat.le_of_ble_eq_true rfl)⟩ ⟨(Nat.le_of_ble_eq_true rfl), (Nat.le_of_ble_eq_true rfl)⟩ (Nat.le_of_ble_eq_true rfl) dX10_warmest_36 (fun _ => ?_)
      refine sm_iincL (v := xL2 + 1) hO 2 (fun x1 => [(2, .int x1), (0, .ref aL0), (1, .int xL1)]) dX10_warmest_39 rfl rfl (by decide) (fun _ => rfl) (fun x1 => ?_)
      refine sm_goto (tgt := 30) hO dX10_warmest_42 (by decide) ?_
      exact sm_sub [1, 2, 0] rfl (ih aL0 xL1 x1)
set_option maxRecDepth 100000 in
set_option maxHeartbeats 4000000 in
theorem tX10_warmest_82 {p : Program} {l : Launch} {e : Env} {s : State} {m : MethodId} {args : Array Value} {below : List Frame} {meth : Method} {c : Code} {G : cG} (hO : c_Ok p s m c cX10_warmest 4 RX10 G) (hr : meth.sig.returnType = (some .int)) (hk : meth.locks = false) (k87 : Nat → Int32 → Int32 → MM Int32) (hk87 : ∀ (aL0 : Nat) (xL3 : Int32) (xS0 : Int32), Sm p l e { frames := 3, cells := 0, slots := 0, locals := 65 } s m args below meth c G 4 (c_Q G c_vi below args s 0 0) 0 0 87 [(0, .ref aL0), (3, .int xL3)] [.int xS0] (k87 aL0 xL3 xS0))  : ∀ (aL0 : Nat) (xL3 : Int32), Sm p l e { frames := 3, cells := 0, slots := 0, locals := 65 } s m args below meth c G 4 (c_Q G c_vi below args s 0 0) 0 0 82 [(0, .ref aL0), (3, .int xL3)] [] (fX10_warmest_82 k87 aL0 xL3) := by
  intro aL0 xL3
  rw [fX10_warmest_82]
  refine sm_iload_n hO 1 dX10_warmest_82 rfl rfl ?_
  refine sm_goto (tgt := 87) hO dX10_warmest_83 (by decide) ?_
  exact sm_sub [0, 1] rfl (hk87 aL0 xL3 xL3)
set_option maxRecDepth 100000 in
set_option maxHeartbeats 4000000 in
theorem tX10_warmest_87 {p : Program} {l : Launch} {e : Env} {s : State} {m : MethodId} {args : Array Value} {below : List Frame} {meth : Method} {c : Code} {G : cG} (hO : c_Ok p s m c cX10_warmest 4 RX10 G) (hr : meth.sig.returnType = (some .int)) (hk : meth.locks = false) (k49 : Nat → Int32 → Int32 → MM Int32) (hk49 : ∀ (aL0 : Nat) (xL2 : Int32) (xL3 : Int32), Sm p l e { frames := 3, cells := 0, slots := 0, locals := 65 } s m args below meth c G 4 (c_Q G c_vi below args s 0 0) 0 0 49 [(0, .ref aL0), (2, .int xL2), (3, .int xL3)] [] (k49 aL0 xL2 xL3))  : ∀ (aL0 : Nat) (xL3 : Int32) (xS0 : Int32), Sm p l e { frames := 3, cells := 0, slots := 0, locals := 65 } s m args below meth c G 4 (c_Q G c_vi below args s 0 0) 0 0 87 [(0, .ref aL0), (3, .int xL3)] [.int xS0] (fX10_warmest_87 k49 aL0 xL3 xS0) := by
  intro aL0 xL3 xS0
  rw [fX10_warmest_87]
  refine sm_istore_n hO [(2, .int xS0), (0, .ref aL0), (3, .int xL3)] dX10_warmest_87 rfl (by decide) rfl ?_
  refine sm_iincL (v := xL3 + 1) hO 2 (fun x1 => [(3, .int x1), (2, .int xS0), (0, .ref aL0)]) dX10_warmest_88 rfl rfl (by decide) (fun _ => rfl) (fun x1 => ?_)
  refine sm_goto (tgt := 49) hO dX10_warmest_91 (by decide) ?_
  exact sm_sub [2, 1, 0] rfl (hk49 aL0 xS0 x1)
set_option maxRecDepth 100000 in
set_option maxHeartbeats 4000000 in
theorem tX10_warmest_49 {p : Program} {l : Launch} {e : Env} {s : State} {m : MethodId} {args : Array Value} {below : List Frame} {meth : Method} {c : Code} {G : cG} (hO : c_Ok p s m c cX10_warmest 4 RX10 G) (hr : meth.sig.returnType = (some .int)) (hk : meth.locks = false) (k94 : Nat → Int32 → MM Int32) (hk94 : ∀ (aL0 : Nat) (xL2 : Int32), Sm p l e { frames := 3, cells := 0, slots := 0, locals := 65 } s m args below meth c G 4 (c_Q G c_vi below args s 0 0) 0 0 94 [(0, .ref aL0), (2, .int xL2)] [] (k94 aL0 xL2))  : ∀ (n : Nat) (aL0 : Nat) (xL2 : Int32) (xL3 : Int32), Sm p l e { frames := 3, cells := 0, slots := 0, locals := 65 } s m args below meth c G 4 (c_Q G c_vi below args s 0 0) 0 0 49 [(0, .ref aL0), (2, .int xL2), (3, .int xL3)] [] (fX10_warmest_49 k94 n aL0 xL2 xL3) := by
  intro n
  induction n with
  | zero =>
    intro aL0 xL2 xL3
    exact sm_bad
  | succ n ih =>
    intro aL0 xL2 xL3
    rw [fX10_warmest_49]
    refine sm_iload_n hO 2 dX10_warmest_49 rfl rfl ?_
    refine sm_aload_n hO 0 dX10_warmest_50 rfl rfl ?_
    refine sm_gi hO fl_RX10_79 dX10_warmest_51 (fun x1 => ?_)
    refine sm_icmp_ge (tgt := 94) hO dX10_warmest_54 (by decide) ?_ ?_
    · exact sm_sub [0, 1] rfl (hk94 aL0 xL2)
    · refine sm_iload_n hO 1 dX10_warmest_57 rfl rfl ?_
      refine sm_if_lt (tgt := 82) hO dX10_warmest_58 (by decide) ?_ ?_
      · exact sm_sub [0, 2] rfl (tX10_warmest_82 hO hr hk (fX10_warmest_87 (fX10_warmest_49 k94 n)) (tX10_warmest_87 hO hr hk (fX10_warmest_49 k94 n) ih) aL0 xL3)
      · refine sm_aload_n hO 0 dX10_warmest_61 rfl rfl ?_
        refine sm_gr hO fl_RX10_22 dX10_warmest_62 (fun a2 => ?_)
        refine sm_bipush (v := 9) hO dX10_warmest_65 rfl ?_
        refine sm_iload_n hO 2 dX10_warmest_67 rfl rfl ?_
        refine sm_iadd hO dX10_warmest_68 ?_
        refine sm_li hO dX10_warmest_69 (fun x3 => ?_)
        refine sm_aload_n hO 0 dX10_warmest_70 rfl rfl ?_
        refine sm_gr hO fl_RX10_22 dX10_warmest_71 (fun a4 => ?_)
        refine sm_bipush (v := 9) hO dX10_warmest_74 rfl ?_
        refine sm_iload_n hO 1 dX10_warmest_76 rfl rfl ?_
        refine sm_iadd hO dX10_warmest_77 ?_
        refine sm_li hO dX10_warmest_78 (fun x5 => ?_)
        refine sm_icmp_le (tgt := 86) hO dX10_warmest_79 (by decide) ?_ ?_
        · refine sm_iload_n hO 1 dX10_warmest_86 rfl rfl ?_
          exact sm_sub [0, 2] rfl (tX10_warmest_87 hO hr hk (fX10_warmest_49 k94 n) ih aL0 xL3 xL2)
        · exact sm_sub [0, 2] rfl (tX10_warmest_82 hO hr hk (fX10_warmest_87 (fX10_warmest_49 k94 n)) (tX10_warmest_87 hO hr hk (fX10_warmest_49 k94 n) ih) aL0 xL3)
set_option maxRecDepth 100000 in
set_option maxHeartbeats 4000000 in
theorem tX10_warmest_94 {p : Program} {l : Launch} {e : Env} {s : State} {m : MethodId} {args : Array Value} {below : List Frame} {meth : Method} {c : Code} {G : cG} (hO : c_Ok p s m c cX10_warmest 4 RX10 G) (hr : meth.sig.returnType = (some .int)) (hk : meth.locks = false) : ∀ (aL0 : Nat) (xL2 : Int32), Sm p l e { frames := 3, cells := 0, slots := 0, locals := 65 } s m args below meth c G 4 (c_Q G c_vi below args s 0 0) 0 0 94 [(0, .ref aL0), (2, .int xL2)] [] (fX10_warmest_94 aL0 xL2) := by
  intro aL0 xL2
  rw [fX10_warmest_94]
  refine sm_aload_n hO 0 dX10_warmest_94 rfl rfl ?_
  refine sm_gr hO fl_RX10_47 dX10_warmest_95 (fun a1 => ?_)
  refine sm_aload_n hO 0 dX10_warmest_98 rfl rfl ?_
  refine sm_gr hO fl_RX10_22 dX10_warmest_99 (fun a2 => ?_)
  refine sm_bipush (v := 36) hO dX10_warmest_102 rfl ?_
  refine sm_csv hO (ctX10_copyRow l G a1 a2 (36 : Int32)) cw_RX10_152 kw_978 [] rfl rfl ⟨(Nat.le_of_ble_eq_true rfl), (Nat.le_of_ble_eq_true rfl)⟩ ⟨(Nat.le_of_ble_eq_true rfl), (Nat.le_of_ble_eq_true rfl)⟩ (Nat.le_of_ble_eq_true rfl) dX10_warmest_104 (fun _ => ?_)
  refine sm_iload_n hO 1 dX10_warmest_107 rfl rfl ?_
  exact sm_iret hO hr hk (Nat.le_of_ble_eq_true rfl) (Nat.le_of_ble_eq_true rfl) dX10_warmest_108
set_option maxRecDepth 100000 in
set_option maxHeartbeats 4000000 in
theorem tX10_warmest_45 {p : Program} {l : Launch} {e : Env} {s : State} {m : MethodId} {args : Array Value} {below : List Frame} {meth : Method} {c : Code} {G : cG} (hO : c_Ok p s m c cX10_warmest 4 RX10 G) (hr : meth.sig.returnType = (some .int)) (hk : meth.locks = false) : ∀ (aL0 : Nat), Sm p l e { frames := 3, cells := 0, slots := 0, locals := 65 } s m args below meth c G 4 (c_Q G c_vi below args s 0 0) 0 0 45 [(0, .ref aL0)] [] (fX10_warmest_45 aL0) := by
  intro aL0
  rw [fX10_warmest_45]
  refine sm_iconst (v := (-1)) hO dX10_warmest_45 rfl ?_
  refine sm_istore_n hO [(2, .int ((-1))), (0, .ref aL0)] dX10_warmest_46 rfl (by decide) rfl ?_
  refine sm_iconst (v := 0) hO dX10_warmest_47 rfl ?_
  refine sm_istore_n hO [(3, .int 0), (2, .int ((-1))), (0, .ref aL0)] dX10_warmest_48 rfl (by decide) rfl ?_
  exact sm_sub [2, 1, 0] rfl (tX10_warmest_49 hO hr hk fX10_warmest_94 (tX10_warmest_94 hO hr hk) c_fu aL0 ((-1)) 0)
set_option maxRecDepth 100000 in
set_option maxHeartbeats 4000000 in
theorem ctX10_warmest (l : Launch) (G : cG) (a0_ : Nat) (x1_ : Int32) : Ct l G yX10_warmest cX10_warmest 4 (some .int) 3 65 0 0 [.ref a0_, .int x1_] c_vi (pX10_warmest a0_ x1_) := by
  refine Ct.of (lv := [(0, .ref a0_), (1, .int x1_)]) (by decide) (Nat.le_of_ble_eq_true rfl) rfl (fun p e s m args below meth c hO hr hk hin => ?_)
  rw [pX10_warmest]
  refine sm_iload_n hO 1 dX10_warmest_0 rfl rfl ?_
  refine sm_i2l (v := x1_.toInt64) hO dX10_warmest_1 rfl ?_
  refine sm_lconst (v := 0) hO dX10_warmest_2 rfl ?_
  refine sm_ldc2 (v := 100) hO kw_1150 dX10_warmest_3 ?_
  refine sm_csi hO (ctX10_in l G (x1_.toInt64) 0 100) cw_RX10_75 kw_923 [] rfl rfl ⟨(Nat.le_of_ble_eq_true rfl), (Nat.le_of_ble_eq_true rfl)⟩ ⟨(Nat.le_of_ble_eq_true rfl), (Nat.le_of_ble_eq_true rfl)⟩ (Nat.le_of_ble_eq_true rfl) dX10_warmest_6 (fun x1 => ?_)
  refine sm_if_ne (tgt := 15) hO dX10_warmest_9 (by decide) ?_ ?_
  · refine sm_aload_n hO 0 dX10_warmest_15 rfl rfl ?_
    refine sm_gr hO fl_RX10_22 dX10_warmest_16 (fun a2 => ?_)
    refine sm_aload_n hO 0 dX10_warmest_19 rfl rfl ?_
    refine sm_gr hO fl_RX10_47 dX10_warmest_20 (fun a3 => ?_)
    refine sm_bipush (v := 36) hO dX10_warmest_23 rfl ?_
    refine sm_csv hO (ctX10_copyRow l G a2 a3 (36 : Int32)) cw_RX10_152 kw_978 [] rfl rfl ⟨(Nat.le_of_ble_eq_true rfl), (Nat.le_of_ble_eq_true rfl)⟩ ⟨(Nat.le_of_ble_eq_true rfl), (Nat.le_of_ble_eq_true rfl)⟩ (Nat.le_of_ble_eq_true rfl) dX10_warmest_25 (fun _ => ?_)
    refine sm_iconst (v := 0) hO dX10_warmest_28 rfl ?_
    refine sm_istore_n hO [(2, .int 0), (0, .ref a0_), (1, .int x1_)] dX10_warmest_29 rfl (by decide) rfl ?_
    exact sm_sub [1, 2, 0] rfl (tX10_warmest_30 hO hr hk fX10_warmest_45 (tX10_warmest_45 hO hr hk) c_fu a0_ x1_ 0)
  · refine sm_ldc (v := (-1000000002)) hO kw_925 dX10_warmest_12 ?_
    exact sm_iret hO hr hk (Nat.le_of_ble_eq_true rfl) (Nat.le_of_ble_eq_true rfl) dX10_warmest_14
/-! DollCongress$Scene.yearsUntilWarm(LDollCongress$Roll;II)I -/
def fX5_yearsUntilWarm_11  : Nat → Nat → Nat → Int32 → Int32 → Int32 → Int32 → MM Int32
  | 0, _, _, _, _, _, _ => m_bad
  | n + 1, aL0, aL1, xL2, xL3, xL4, xL5 => if (200 : Int32) < xL5 then (m_ret ((-1) : Int32)) else (if xL4 < xL3 then (m_gr aL1 4 1 (fun a1 => m_li 0 a1 xL2 (fun x2 => m_cv aL0 5 (pX5_isUp aL0 xL2) (fun x3 => m_gi aL0 5 5 (fun x4 => m_bind (pX5_warmthNext x2 x3 xL4 (x4 + xL5)) (fun x5 => m_let (xL5 + 1) (fun x6 => fX5_yearsUntilWarm_11 n aL0 aL1 xL2 xL3 x5 x6))))))) else (m_ret xL5))
def pX5_yearsUntilWarm (a0_ : Nat) (a1_ : Nat) (x2_ : Int32) (x3_ : Int32) : MM Int32 := m_gr a0_ 5 2 (fun a1 => m_li 0 a1 x2_ (fun x2 => fX5_yearsUntilWarm_11 c_fu a0_ a1_ x2_ x3_ x2 0))
set_option maxRecDepth 100000 in
set_option maxHeartbeats 4000000 in
theorem tX5_yearsUntilWarm_11 {p : Program} {l : Launch} {e : Env} {s : State} {m : MethodId} {args : Array Value} {below : List Frame} {meth : Method} {c : Code} {G : cG} (hO : c_Ok p s m c cX5_yearsUntilWarm 6 RX5 G) (hr : meth.sig.returnType = (some .int)) (hk : meth.locks = false) : ∀ (n : Nat) (aL0 : Nat) (aL1 : Nat) (xL2 : Int32) (xL3 : Int32) (xL4 : Int32) (xL5 : Int32), Sm p l e { frames := 2, cells := 0, slots := 0, locals := 37 } s m args below meth c G 6 (c_Q G c_vi below args s 0 0) 0 0 11 [(0, .ref aL0), (1, .ref aL1), (2, .int xL2), (3, .int xL3), (4, .int xL4), (5, .int xL5)] [] (fX5_yearsUntilWarm_11 n aL0 aL1 xL2 xL3 xL4 xL5) := by
  intro n
  induction n with
  | zero =>
    intro aL0 aL1 xL2 xL3 xL4 xL5
    exact sm_bad
  | succ n ih =>
    intro aL0 aL1 xL2 xL3 xL4 xL5
    rw [fX5_yearsUntilWarm_11]
    refine sm_iload hO 5 dX5_yearsUntilWarm_11 rfl ?_
    refine sm_sipush (v := 200) hO dX5_yearsUntilWarm_13 rfl ?_
    refine sm_icmp_gt (tgt := 59) hO dX5_yearsUntilWarm_16 (by decide) ?_ ?_
    · refine sm_iconst (v := (-1)) hO dX5_yearsUntilWarm_59 rfl ?_
      exact sm_iret hO hr hk (Nat.le_of_ble_eq_true rfl) (Nat.le_of_ble_eq_true rfl) dX5_yearsUntilWarm_60
    · refine sm_iload hO 4 dX5_yearsUntilWarm_19 rfl ?_
      refine sm_iload_n hO 3 dX5_yearsUntilWarm_21 rfl rfl ?_
      refine sm_icmp_lt (tgt := 28) hO dX5_yearsUntilWarm_22 (by decide) ?_ ?_
      · refine sm_aload_n hO 1 dX5_yearsUntilWarm_28 rfl rfl ?_
        refine sm_gr hO fl_RX5_70 dX5_yearsUntilWarm_29 (fun a1 => ?_)
        refine sm_iload_n hO 2 dX5_yearsUntilWarm_32 rfl rfl ?_
        refine sm_li hO dX5_yearsUntilWarm_33 (fun x2 => ?_)
        refine sm_aload_n hO 0 dX5_yearsUntilWarm_34 rfl rfl ?_
        refine sm_iload_n hO 2 dX5_yearsUntilWarm_35 rfl rfl ?_
        refine sm_cvi hO (ctX5_isUp l G aL0 xL2) cw_RX5_66 cv_X5_isUp [.int x2] rfl rfl ⟨(Nat.le_of_ble_eq_true rfl), (Nat.le_of_ble_eq_true rfl)⟩ ⟨(Nat.le_of_ble_eq_true rfl), (Nat.le_of_ble_eq_true rfl)⟩ (Nat.le_of_ble_eq_true rfl) dX5_yearsUntilWarm_36 (fun x3 => ?_)
        refine sm_iload hO 4 dX5_yearsUntilWarm_39 rfl ?_
        refine sm_aload_n hO 0 dX5_yearsUntilWarm_41 rfl rfl ?_
        refine sm_gi hO fl_RX5_49 dX5_yearsUntilWarm_42 (fun x4 => ?_)
        refine sm_iload hO 5 dX5_yearsUntilWarm_45 rfl ?_
        refine sm_iadd hO dX5_yearsUntilWarm_47 ?_
        refine sm_csi hO (ctX5_warmthNext l G x2 x3 xL4 (x4 + xL5)) cw_RX5_83 kw_598 [] rfl rfl ⟨(Nat.le_of_ble_eq_true rfl), (Nat.le_of_ble_eq_true rfl)⟩ ⟨(Nat.le_of_ble_eq_true rfl), (Nat.le_of_ble_eq_true rfl)⟩ (Nat.le_of_ble_eq_true rfl) dX5_yearsUntilWarm_48 (fun x5 => ?_)
        refine sm_istore hO [(4, .int x5), (0, .ref aL0), (1, .ref aL1), (2, .int xL2), (3, .int xL3), (5, .int xL5)] dX5_yearsUntilWarm_51 (by decide) rfl ?_
        refine sm_iincL (v := xL5 + 1) hO 5 (fun x6 => [(5, .int x6), (4, .int x5), (0, .ref aL0), (1, .ref aL1), (2, .int xL2), (3, .int xL3)]) dX5_yearsUntilWarm_53 rfl rfl (by decide) (fun _ => rfl) (fun x6 => ?_)
        refine sm_goto (tgt := 11) hO dX5_yearsUntilWarm_56 (by decide) ?_
        exact sm_sub [2, 3, 4, 5, 1, 0] rfl (ih aL0 aL1 xL2 xL3 x5 x6)
      · refine sm_iload hO 5 dX5_yearsUntilWarm_25 rfl ?_
        exact sm_iret hO hr hk (Nat.le_of_ble_eq_true rfl) (Nat.le_of_ble_eq_true rfl) dX5_yearsUntilWarm_27
set_option maxRecDepth 100000 in
set_option maxHeartbeats 4000000 in
theorem ctX5_yearsUntilWarm (l : Launch) (G : cG) (a0_ : Nat) (a1_ : Nat) (x2_ : Int32) (x3_ : Int32) : Ct l G yX5_yearsUntilWarm cX5_yearsUntilWarm 6 (some .int) 2 37 0 0 [.ref a0_, .ref a1_, .int x2_, .int x3_] c_vi (pX5_yearsUntilWarm a0_ a1_ x2_ x3_) := by
  refine Ct.of (lv := [(0, .ref a0_), (1, .ref a1_), (2, .int x2_), (3, .int x3_)]) (by decide) (Nat.le_of_ble_eq_true rfl) rfl (fun p e s m args below meth c hO hr hk hin => ?_)
  rw [pX5_yearsUntilWarm]
  refine sm_aload_n hO 0 dX5_yearsUntilWarm_0 rfl rfl ?_
  refine sm_gr hO fl_RX5_18 dX5_yearsUntilWarm_1 (fun a1 => ?_)
  refine sm_iload_n hO 2 dX5_yearsUntilWarm_4 rfl rfl ?_
  refine sm_li hO dX5_yearsUntilWarm_5 (fun x2 => ?_)
  refine sm_istore hO [(4, .int x2), (0, .ref a0_), (1, .ref a1_), (2, .int x2_), (3, .int x3_)] dX5_yearsUntilWarm_6 (by decide) rfl ?_
  refine sm_iconst (v := 0) hO dX5_yearsUntilWarm_8 rfl ?_
  refine sm_istore hO [(5, .int 0), (4, .int x2), (0, .ref a0_), (1, .ref a1_), (2, .int x2_), (3, .int x3_)] dX5_yearsUntilWarm_9 (by decide) rfl ?_
  exact sm_sub [2, 3, 4, 5, 1, 0] rfl (tX5_yearsUntilWarm_11 hO hr hk c_fu a0_ a1_ x2_ x3_ x2 0)
/-! DollCongress.first(II)I -/
def pX9_first (a0_ : Nat) (x1_ : Int32) (x2_ : Int32) : MM Int32 := m_gr a0_ 8 7 (fun a1 => m_cv a1 4 (pX4_hasDoll a1 x1_) (fun x2 => if x2 = 0 then (m_ret ((-1000000001) : Int32)) else (if x2_ < 0 then (m_ret ((-1000000002) : Int32)) else (if x2_ ≤ (99 : Int32) then (m_gr a0_ 8 1 (fun a3 => m_gr a0_ 8 7 (fun a4 => m_cv a3 5 (pX5_yearsUntilWarm a3 a4 x1_ x2_) (fun x5 => m_ret x5)))) else (m_ret ((-1000000002) : Int32))))))
set_option maxRecDepth 100000 in
set_option maxHeartbeats 4000000 in
theorem ctX9_first (l : Launch) (G : cG) (a0_ : Nat) (x1_ : Int32) (x2_ : Int32) : Ct l G yX9_first cX9_first 3 (some .int) 3 62 0 0 [.ref a0_, .int x1_, .int x2_] c_vi (pX9_first a0_ x1_ x2_) := by
  refine Ct.of (lv := [(0, .ref a0_), (1, .int x1_), (2, .int x2_)]) (by decide) (Nat.le_of_ble_eq_true rfl) rfl (fun p e s m args below meth c hO hr hk hin => ?_)
  rw [pX9_first]
  refine sm_aload_n hO 0 dX9_first_0 rfl rfl ?_
  refine sm_gr hO fl_RX9_60 dX9_first_1 (fun a1 => ?_)
  refine sm_iload_n hO 1 dX9_first_4 rfl rfl ?_
  refine sm_cvi hO (ctX4_hasDoll l G a1 x1_) cw_RX9_153 cv_X4_hasDoll [] rfl rfl ⟨(Nat.le_of_ble_eq_true rfl), (Nat.le_of_ble_eq_true rfl)⟩ ⟨(Nat.le_of_ble_eq_true rfl), (Nat.le_of_ble_eq_true rfl)⟩ (Nat.le_of_ble_eq_true rfl) dX9_first_5 (fun x2 => ?_)
  refine sm_if_ne (tgt := 14) hO dX9_first_8 (by decide) ?_ ?_
  · refine sm_iload_n hO 2 dX9_first_14 rfl rfl ?_
    refine sm_if_lt (tgt := 24) hO dX9_first_15 (by decide) ?_ ?_
    · refine sm_ldc (v := (-1000000002)) hO kw_362 dX9_first_24 ?_
      exact sm_iret hO hr hk (Nat.le_of_ble_eq_true rfl) (Nat.le_of_ble_eq_true rfl) dX9_first_26
    · refine sm_iload_n hO 2 dX9_first_18 rfl rfl ?_
      refine sm_bipush (v := 99) hO dX9_first_19 rfl ?_
      refine sm_icmp_le (tgt := 27) hO dX9_first_21 (by decide) ?_ ?_
      · refine sm_aload_n hO 0 dX9_first_27 rfl rfl ?_
        refine sm_gr hO fl_RX9_19 dX9_first_28 (fun a3 => ?_)
        refine sm_aload_n hO 0 dX9_first_31 rfl rfl ?_
        refine sm_gr hO fl_RX9_60 dX9_first_32 (fun a4 => ?_)
        refine sm_iload_n hO 1 dX9_first_35 rfl rfl ?_
        refine sm_iload_n hO 2 dX9_first_36 rfl rfl ?_
        refine sm_cvi hO (ctX5_yearsUntilWarm l G a3 a4 x1_ x2_) cw_RX9_231 cv_X5_yearsUntilWarm [] rfl rfl ⟨(Nat.le_of_ble_eq_true rfl), (Nat.le_of_ble_eq_true rfl)⟩ ⟨(Nat.le_of_ble_eq_true rfl), (Nat.le_of_ble_eq_true rfl)⟩ (Nat.le_of_ble_eq_true rfl) dX9_first_37 (fun x5 => ?_)
        exact sm_iret hO hr hk (Nat.le_of_ble_eq_true rfl) (Nat.le_of_ble_eq_true rfl) dX9_first_40
      · refine sm_ldc (v := (-1000000002)) hO kw_362 dX9_first_24 ?_
        exact sm_iret hO hr hk (Nat.le_of_ble_eq_true rfl) (Nat.le_of_ble_eq_true rfl) dX9_first_26
  · refine sm_ldc (v := (-1000000001)) hO kw_512 dX9_first_11 ?_
    exact sm_iret hO hr hk (Nat.le_of_ble_eq_true rfl) (Nat.le_of_ble_eq_true rfl) dX9_first_13
/-! DollCongressModel.first(II)I -/
def fX10_first_41 (k71 : Nat → Int32 → Int32 → Int32 → MM Int32) : Nat → Nat → Int32 → Int32 → Int32 → MM Int32
  | 0, _, _, _, _ => m_bad
  | n + 1, aL0, xL1, xL2, xL3 => if (200 : Int32) ≤ xL3 then (k71 aL0 xL1 xL2 xL3) else (m_gr aL0 9 8 (fun a1 => m_li 0 a1 ((9 : Int32) + xL1) (fun x2 => if xL2 ≤ x2 then (k71 aL0 xL1 xL2 xL3) else (m_cv aL0 9 (pX10_pass aL0) (fun _ => m_let (xL3 + 1) (fun x3 => fX10_first_41 k71 n aL0 xL1 xL2 x3))))))
def fX10_first_89  (aL0 : Nat) (xS0 : Int32) : MM Int32 := m_gr aL0 9 27 (fun a1 => m_gr aL0 9 8 (fun a2 => m_bind (pX10_copyRow a1 a2 (36 : Int32)) (fun _ => m_ret xS0)))
def fX10_first_71  (aL0 : Nat) (xL1 : Int32) (xL2 : Int32) (xL3 : Int32) : MM Int32 := m_gr aL0 9 8 (fun a1 => m_li 0 a1 ((9 : Int32) + xL1) (fun x2 => if xL2 ≤ x2 then (fX10_first_89 aL0 xL3) else (fX10_first_89 aL0 ((-1)))))
def pX10_first (a0_ : Nat) (x1_ : Int32) (x2_ : Int32) : MM Int32 := m_cv a0_ 9 (pX10_isDoll a0_ x1_) (fun x1 => if x1 = 0 then (m_ret ((-1000000001) : Int32)) else (m_bind (pX10_in (x2_.toInt64) 0 99) (fun x2 => if x2 = 0 then (m_ret ((-1000000002) : Int32)) else (m_gr a0_ 9 8 (fun a3 => m_gr a0_ 9 27 (fun a4 => m_bind (pX10_copyRow a3 a4 (36 : Int32)) (fun _ => fX10_first_41 fX10_first_71 c_fu a0_ x1_ x2_ 0)))))))
set_option maxRecDepth 100000 in
set_option maxHeartbeats 4000000 in
theorem tX10_first_41 {p : Program} {l : Launch} {e : Env} {s : State} {m : MethodId} {args : Array Value} {below : List Frame} {meth : Method} {c : Code} {G : cG} (hO : c_Ok p s m c cX10_first 5 RX10 G) (hr : meth.sig.returnType = (some .int)) (hk : meth.locks = false) (k71 : Nat → Int32 → Int32 → Int32 → MM Int32) (hk71 : ∀ (aL0 : Nat) (xL1 : Int32) (xL2 : Int32) (xL3 : Int32), Sm p l e { frames := 3, cells := 0, slots := 0, locals := 65 } s m args below meth c G 5 (c_Q G c_vi below args s 0 0) 0 0 71 [(0, .ref aL0), (1, .int xL1), (2, .int xL2), (3, .int xL3)] [] (k71 aL0 xL1 xL2 xL3))  : ∀ (n : Nat) (aL0 : Nat) (xL1 : Int32) (xL2 : Int32) (xL3 : Int32), Sm p l e { frames := 3, cells := 0, slots := 0, locals := 65 } s m args below meth c G 5 (c_Q G c_vi below args s 0 0) 0 0 41 [(0, .ref aL0), (1, .int xL1), (2, .int xL2), (3, .int xL3)] [] (fX10_first_41 k71 n aL0 xL1 xL2 xL3) := by
  intro n
  induction n with
  | zero =>
    intro aL0 xL1 xL2 xL3
    exact sm_bad
  | succ n ih =>
    intro aL0 xL1 xL2 xL3
    rw [fX10_first_41]
    refine sm_iload_n hO 3 dX10_first_41 rfl rfl ?_
    refine sm_sipush (v := 200) hO dX10_first_42 rfl ?_
    refine sm_icmp_ge (tgt := 71) hO dX10_first_45 (by decide) ?_ ?_
    · exact sm_sub [0, 1, 2, 3] rfl (hk71 aL0 xL1 xL2 xL3)
    · refine sm_aload_n hO 0 dX10_first_48 rfl rfl ?_
      refine sm_gr hO fl_RX10_22 dX10_first_49 (fun a1 => ?_)
      refine sm_bipush (v := 9) hO dX10_first_52 rfl ?_
      refine sm_iload_n hO 1 dX10_first_54 rfl rfl ?_
      refine sm_iadd hO dX10_first_55 ?_
      refine sm_li hO dX10_first_56 (fun x2 => ?_)
      refine sm_iload_n hO 2 dX10_first_57 rfl rfl ?_
      refine sm_icmp_ge (tgt := 71) hO dX10_first_58 (by decide) ?_ ?_
      · exact sm_sub [0, 1, 2, 3] rfl (hk71 aL0 xL1 xL2 xL3)
      · refine sm_aload_n hO 0 dX10_first_61 rfl rfl ?_
        refine sm_cvv hO (ctX10_pass l G aL0) cw_RX10_257 cv_X10_pass [] rfl rfl ⟨(Nat.le_of_ble_eq_true rfl), (Nat.le_of_ble_eq_true rfl)⟩ ⟨(Nat.le_of_ble_eq_true rfl), (Nat.le_of_ble_eq_true rfl)⟩ (Nat.le_of_ble_eq_true rfl) dX10_first_62 (fun _ => ?_)
        refine sm_iincL (v := xL3 + 1) hO 3 (fun x3 => [(3, .int x3), (0, .ref aL0), (1, .int xL1), (2, .int xL2)]) dX10_first_65 rfl rfl (by decide) (fun _ => rfl) (fun x3 => ?_)
        refine sm_goto (tgt := 41) hO dX10_first_68 (by decide) ?_
        exact sm_sub [1, 2, 3, 0] rfl (ih aL0 xL1 xL2 x3)
set_option maxRecDepth 100000 in
set_option maxHeartbeats 4000000 in
theorem tX10_first_89 {p : Program} {l : Launch} {e : Env} {s : State} {m : MethodId} {args : Array Value} {below : List Frame} {meth : Method} {c : Code} {G : cG} (hO : c_Ok p s m c cX10_first 5 RX10 G) (hr : meth.sig.returnType = (some .int)) (hk : meth.locks = false) : ∀ (aL0 : Nat) (xS0 : Int32), Sm p l e { frames := 3, cells := 0, slots := 0, locals := 65 } s m args below meth c G 5 (c_Q G c_vi below args s 0 0) 0 0 89 [(0, .ref aL0)] [.int xS0] (fX10_first_89 aL0 xS0) := by
  intro aL0 xS0
  rw [fX10_first_89]
  refine sm_istore hO [(4, .int xS0), (0, .ref aL0)] dX10_first_89 (by decide) rfl ?_
  refine sm_aload_n hO 1 dX10_first_91 rfl rfl ?_
  refine sm_gr hO fl_RX10_47 dX10_first_92 (fun a1 => ?_)
  refine sm_aload_n hO 1 dX10_first_95 rfl rfl ?_
  refine sm_gr hO fl_RX10_22 dX10_first_96 (fun a2 => ?_)
  refine sm_bipush (v := 36) hO dX10_first_99 rfl ?_
  refine sm_csv hO (ctX10_copyRow l G a1 a2 (36 : Int32)) cw_RX10_152 kw_978 [] rfl rfl ⟨(Nat.le_of_ble_eq_true rfl), (Nat.le_of_ble_eq_true rfl)⟩ ⟨(Nat.le_of_ble_eq_true rfl), (Nat.le_of_ble_eq_true rfl)⟩ (Nat.le_of_ble_eq_true rfl) dX10_first_101 (fun _ => ?_)
  refine sm_iload hO 0 dX10_first_104 rfl ?_
  exact sm_iret hO hr hk (Nat.le_of_ble_eq_true rfl) (Nat.le_of_ble_eq_true rfl) dX10_first_106
set_option maxRecDepth 100000 in
set_option maxHeartbeats 4000000 in
theorem tX10_first_71 {p : Program} {l : Launch} {e : Env} {s : State} {m : MethodId} {args : Array Value} {below : List Frame} {meth : Method} {c : Code} {G : cG} (hO : c_Ok p s m c cX10_first 5 RX10 G) (hr : meth.sig.returnType = (some .int)) (hk : meth.locks = false) : ∀ (aL0 : Nat) (xL1 : Int32) (xL2 : Int32) (xL3 : Int32), Sm p l e { frames := 3, cells := 0, slots := 0, locals := 65 } s m args below meth c G 5 (c_Q G c_vi below args s 0 0) 0 0 71 [(0, .ref aL0), (1, .int xL1), (2, .int xL2), (3, .int xL3)] [] (fX10_first_71 aL0 xL1 xL2 xL3) := by
  intro aL0 xL1 xL2 xL3
  rw [fX10_first_71]
  refine sm_aload_n hO 0 dX10_first_71 rfl rfl ?_
  refine sm_gr hO fl_RX10_22 dX10_first_72 (fun a1 => ?_)
  refine sm_bipush (v := 9) hO dX10_first_75 rfl ?_
  refine sm_iload_n hO 1 dX10_first_77 rfl rfl ?_
  refine sm_iadd hO dX10_first_78 ?_
  refine sm_li hO dX10_first_79 (fun x2 => ?_)
  refine sm_iload_n hO 2 dX10_first_80 rfl rfl ?_
  refine sm_icmp_ge (tgt := 88) hO dX10_first_81 (by decide) ?_ ?_
  · refine sm_iload_n hO 3 dX10_first_88 rfl rfl ?_
    exact sm_sub [0] rfl (tX10_first_89 hO hr hk aL0 xL3)
  · refine sm_iconst (v := (-1)) hO dX10_first_84 rfl ?_
    refine sm_goto (tgt := 89) hO dX10_first_85 (by decide) ?_
    exact sm_sub [0] rfl (tX10_first_89 hO hr hk aL0 ((-1)))
set_option maxRecDepth 100000 in
set_option maxHeartbeats 4000000 in
theorem ctX10_first (l : Launch) (G : cG) (a0_ : Nat) (x1_ : Int32) (x2_ : Int32) : Ct l G yX10_first cX10_first 5 (some .int) 3 65 0 0 [.ref a0_, .int x1_, .int x2_] c_vi (pX10_first a0_ x1_ x2_) := by
  refine Ct.of (lv := [(0, .ref a0_), (1, .int x1_), (2, .int x2_)]) (by decide) (Nat.le_of_ble_eq_true rfl) rfl (fun p e s m args below meth c hO hr hk hin => ?_)
  rw [pX10_first]
  refine sm_aload_n hO 0 dX10_first_0 rfl rfl ?_
  refine sm_iload_n hO 1 dX10_first_1 rfl rfl ?_
  refine sm_cvi hO (ctX10_isDoll l G a0_ x1_) cw_RX10_215 cv_X10_isDoll [] rfl rfl ⟨(Nat.le_of_ble_eq_true rfl), (Nat.le_of_ble_eq_true rfl)⟩ ⟨(Nat.le_of_ble_eq_true rfl), (Nat.le_of_ble_eq_true rfl)⟩ (Nat.le_of_ble_eq_true rfl) dX10_first_2 (fun x1 => ?_)
  refine sm_if_ne (tgt := 11) hO dX10_first_5 (by decide) ?_ ?_
  · refine sm_iload_n hO 2 dX10_first_11 rfl rfl ?_
    refine sm_i2l (v := x2_.toInt64) hO dX10_first_12 rfl ?_
    refine sm_lconst (v := 0) hO dX10_first_13 rfl ?_
    refine sm_ldc2 (v := 99) hO kw_1159 dX10_first_14 ?_
    refine sm_csi hO (ctX10_in l G (x2_.toInt64) 0 99) cw_RX10_75 kw_923 [] rfl rfl ⟨(Nat.le_of_ble_eq_true rfl), (Nat.le_of_ble_eq_true rfl)⟩ ⟨(Nat.le_of_ble_eq_true rfl), (Nat.le_of_ble_eq_true rfl)⟩ (Nat.le_of_ble_eq_true rfl) dX10_first_17 (fun x2 => ?_)
    refine sm_if_ne (tgt := 26) hO dX10_first_20 (by decide) ?_ ?_
    · refine sm_aload_n hO 0 dX10_first_26 rfl rfl ?_
      refine sm_gr hO fl_RX10_22 dX10_first_27 (fun a3 => ?_)
      refine sm_aload_n hO 0 dX10_first_30 rfl rfl ?_
      refine sm_gr hO fl_RX10_47 dX10_first_31 (fun a4 => ?_)
      refine sm_bipush (v := 36) hO dX10_first_34 rfl ?_
      refine sm_csv hO (ctX10_copyRow l G a3 a4 (36 : Int32)) cw_RX10_152 kw_978 [] rfl rfl ⟨(Nat.le_of_ble_eq_true rfl), (Nat.le_of_ble_eq_true rfl)⟩ ⟨(Nat.le_of_ble_eq_true rfl), (Nat.le_of_ble_eq_true rfl)⟩ (Nat.le_of_ble_eq_true rfl) dX10_first_36 (fun _ => ?_)
      refine sm_iconst (v := 0) hO dX10_first_39 rfl ?_
      refine sm_istore_n hO [(3, .int 0), (0, .ref a0_), (1, .int x1_), (2, .int x2_)] dX10_first_40 rfl (by decide) rfl ?_
      exact sm_sub [1, 2, 3, 0] rfl (tX10_first_41 hO hr hk fX10_first_71 (tX10_first_71 hO hr hk) c_fu a0_ x1_ x2_ 0)
    · refine sm_ldc (v := (-1000000002)) hO kw_925 dX10_first_23 ?_
      exact sm_iret hO hr hk (Nat.le_of_ble_eq_true rfl) (Nat.le_of_ble_eq_true rfl) dX10_first_25
  · refine sm_ldc (v := (-1000000001)) hO kw_1046 dX10_first_8 ?_
    exact sm_iret hO hr hk (Nat.le_of_ble_eq_true rfl) (Nat.le_of_ble_eq_true rfl) dX10_first_10
/-! DollCongress$Mixings.gatherStrays(LDollCongress$Roll;LDollCongress$Scene;)V -/
def fX2_gatherStrays_80 (k7 : Nat → Nat → Nat → Int32 → MM Unit) (aL0 : Nat) (aL1 : Nat) (aL2 : Nat) (xL3 : Int32) : MM Unit := m_let (xL3 + 1) (fun x1 => k7 aL0 aL1 aL2 x1)
def fX2_gatherStrays_7  : Nat → Nat → Nat → Nat → Int32 → MM Unit
  | 0, _, _, _, _ => m_bad
  | n + 1, aL0, aL1, aL2, xL3 => m_gi aL1 4 6 (fun x1 => if x1 ≤ xL3 then (m_ret ()) else (m_gr aL2 5 0 (fun a2 => m_li 0 a2 xL3 (fun x3 => m_gr aL1 4 2 (fun a4 => m_li 0 a4 xL3 (fun x5 => if x3 = x5 then (fX2_gatherStrays_80 (fX2_gatherStrays_7 n) aL0 aL1 aL2 xL3) else (m_gr aL0 2 0 (fun a6 => m_gi aL0 2 4 (fun x7 => m_si a6 x7 xL3 (m_gr aL0 2 1 (fun a8 => m_gi aL0 2 4 (fun x9 => m_gr aL2 5 0 (fun a10 => m_li 0 a10 xL3 (fun x11 => m_gr aL1 4 2 (fun a12 => m_li 0 a12 xL3 (fun x13 => m_si a8 x9 (((1 : Int32) <<< (((4 : Int32) * x11) &&& 31)) - ((1 : Int32) <<< (((4 : Int32) * x13) &&& 31))) (m_gi aL0 2 4 (fun x14 => m_pv aL0 2 4 (.int (x14 + 1)) (fX2_gatherStrays_80 (fX2_gatherStrays_7 n) aL0 aL1 aL2 xL3)))))))))))))))))))
def pX2_gatherStrays (a0_ : Nat) (a1_ : Nat) (a2_ : Nat) : MM Unit := m_pv a0_ 2 4 (.int 0) (fX2_gatherStrays_7 c_fu a0_ a1_ a2_ 0)
set_option maxRecDepth 100000 in
set_option maxHeartbeats 4000000 in
theorem tX2_gatherStrays_80 {p : Program} {l : Launch} {e : Env} {s : State} {m : MethodId} {args : Array Value} {below : List Frame} {meth : Method} {c : Code} {G : cG} (hO : c_Ok p s m c cX2_gatherStrays 4 RX2 G) (hr : meth.sig.returnType = none) (hk : meth.locks = false) (k7 : Nat → Nat → Nat → Int32 → MM Unit) (hk7 : ∀ (aL0 : Nat) (aL1 : Nat) (aL2 : Nat) (xL3 : Int32), Sm p l e { frames := 0, cells := 0, slots := 0, locals := 0 } s m args below meth c G 4 (c_Q G c_vv below args s 0 0) 0 0 7 [(0, .ref aL0), (1, .ref aL1), (2, .ref aL2), (3, .int xL3)] [] (k7 aL0 aL1 aL2 xL3))  : ∀ (aL0 : Nat) (aL1 : Nat) (aL2 : Nat) (xL3 : Int32), Sm p l e { frames := 0, cells := 0, slots := 0, locals := 0 } s m args below meth c G 4 (c_Q G c_vv below args s 0 0) 0 0 80 [(0, .ref aL0), (1, .ref aL1), (2, .ref aL2), (3, .int xL3)] [] (fX2_gatherStrays_80 k7 aL0 aL1 aL2 xL3) := by
  intro aL0 aL1 aL2 xL3
  rw [fX2_gatherStrays_80]
  refine sm_iincL (v := xL3 + 1) hO 3 (fun x1 => [(3, .int x1), (0, .ref aL0), (1, .ref aL1), (2, .ref aL2)]) dX2_gatherStrays_80 rfl rfl (by decide) (fun _ => rfl) (fun x1 => ?_)
  refine sm_goto (tgt := 7) hO dX2_gatherStrays_83 (by decide) ?_
  exact sm_sub [1, 2, 3, 0] rfl (hk7 aL0 aL1 aL2 x1)
set_option maxRecDepth 100000 in
set_option maxHeartbeats 4000000 in
theorem tX2_gatherStrays_7 {p : Program} {l : Launch} {e : Env} {s : State} {m : MethodId} {args : Array Value} {below : List Frame} {meth : Method} {c : Code} {G : cG} (hO : c_Ok p s m c cX2_gatherStrays 4 RX2 G) (hr : meth.sig.returnType = none) (hk : meth.locks = false) : ∀ (n : Nat) (aL0 : Nat) (aL1 : Nat) (aL2 : Nat) (xL3 : Int32), Sm p l e { frames := 0, cells := 0, slots := 0, locals := 0 } s m args below meth c G 4 (c_Q G c_vv below args s 0 0) 0 0 7 [(0, .ref aL0), (1, .ref aL1), (2, .ref aL2), (3, .int xL3)] [] (fX2_gatherStrays_7 n aL0 aL1 aL2 xL3) := by
  intro n
  induction n with
  | zero =>
    intro aL0 aL1 aL2 xL3
    exact sm_bad
  | succ n ih =>
    intro aL0 aL1 aL2 xL3
    rw [fX2_gatherStrays_7]
    refine sm_iload_n hO 3 dX2_gatherStrays_7 rfl rfl ?_
    refine sm_aload_n hO 1 dX2_gatherStrays_8 rfl rfl ?_
    refine sm_gi hO fl_RX2_50 dX2_gatherStrays_9 (fun x1 => ?_)
    refine sm_icmp_ge (tgt := 86) hO dX2_gatherStrays_12 (by decide) ?_ ?_
    · exact sm_vret hO hr hk (Nat.le_of_ble_eq_true rfl) (Nat.le_of_ble_eq_true rfl) dX2_gatherStrays_86
    · refine sm_aload_n hO 2 dX2_gatherStrays_15 rfl rfl ?_
      refine sm_gr hO fl_RX2_55 dX2_gatherStrays_16 (fun a2 => ?_)
      refine sm_iload_n hO 3 dX2_gatherStrays_19 rfl rfl ?_
      refine sm_li hO dX2_gatherStrays_20 (fun x3 => ?_)
      refine sm_aload_n hO 1 dX2_gatherStrays_21 rfl rfl ?_
      refine sm_gr hO fl_RX2_60 dX2_gatherStrays_22 (fun a4 => ?_)
      refine sm_iload_n hO 3 dX2_gatherStrays_25 rfl rfl ?_
      refine sm_li hO dX2_gatherStrays_26 (fun x5 => ?_)
      refine sm_icmp_eq (tgt := 80) hO dX2_gatherStrays_27 (by decide) ?_ ?_
      · exact sm_sub [0, 1, 2, 3] rfl (tX2_gatherStrays_80 hO hr hk (fX2_gatherStrays_7 n) ih aL0 aL1 aL2 xL3)
      · refine sm_aload_n hO 0 dX2_gatherStrays_30 rfl rfl ?_
        refine sm_gr hO fl_RX2_9 dX2_gatherStrays_31 (fun a6 => ?_)
        refine sm_aload_n hO 0 dX2_gatherStrays_34 rfl rfl ?_
        refine sm_gi hO fl_RX2_28 dX2_gatherStrays_35 (fun x7 => ?_)
        refine sm_iload_n hO 3 dX2_gatherStrays_38 rfl rfl ?_
        refine sm_si hO dX2_gatherStrays_39 ?_
        refine sm_aload_n hO 0 dX2_gatherStrays_40 rfl rfl ?_
        refine sm_gr hO fl_RX2_15 dX2_gatherStrays_41 (fun a8 => ?_)
        refine sm_aload_n hO 0 dX2_gatherStrays_44 rfl rfl ?_
        refine sm_gi hO fl_RX2_28 dX2_gatherStrays_45 (fun x9 => ?_)
        refine sm_iconst (v := 1) hO dX2_gatherStrays_48 rfl ?_
        refine sm_iconst (v := 4) hO dX2_gatherStrays_49 rfl ?_
        refine sm_aload_n hO 2 dX2_gatherStrays_50 rfl rfl ?_
        refine sm_gr hO fl_RX2_55 dX2_gatherStrays_51 (fun a10 => ?_)
        refine sm_iload_n hO 3 dX2_gatherStrays_54 rfl rfl ?_
        refine sm_li hO dX2_gatherStrays_55 (fun x11 => ?_)
        refine sm_imul hO dX2_gatherStrays_56 ?_
        refine sm_ishl hO dX2_gatherStrays_57 ?_
        refine sm_iconst (v := 1) hO dX2_gatherStrays_58 rfl ?_
        refine sm_iconst (v := 4) hO dX2_gatherStrays_59 rfl ?_
        refine sm_aload_n hO 1 dX2_gatherStrays_60 rfl rfl ?_
        refine sm_gr hO fl_RX2_60 dX2_gatherStrays_61 (fun a12 => ?_)
        refine sm_iload_n hO 3 dX2_gatherStrays_64 rfl rfl ?_
        refine sm_li hO dX2_gatherStrays_65 (fun x13 => ?_)
        refine sm_imul hO dX2_gatherStrays_66 ?_
        refine sm_ishl hO dX2_gatherStrays_67 ?_
        refine sm_isub hO dX2_gatherStrays_68 ?_
        refine sm_si hO dX2_gatherStrays_69 ?_
        refine sm_aload_n hO 0 dX2_gatherStrays_70 rfl rfl ?_
        refine sm_dup hO dX2_gatherStrays_71 rfl ?_
        refine sm_gi hO fl_RX2_28 dX2_gatherStrays_72 (fun x14 => ?_)
        refine sm_iconst (v := 1) hO dX2_gatherStrays_75 rfl ?_
        refine sm_iadd hO dX2_gatherStrays_76 ?_
        refine sm_pv hO fl_RX2_28 fp_2_4 rfl rfl dX2_gatherStrays_77 ?_
        exact sm_sub [0, 1, 2, 3] rfl (tX2_gatherStrays_80 hO hr hk (fX2_gatherStrays_7 n) ih aL0 aL1 aL2 xL3)
set_option maxRecDepth 100000 in
set_option maxHeartbeats 4000000 in
theorem ctX2_gatherStrays (l : Launch) (G : cG) (a0_ : Nat) (a1_ : Nat) (a2_ : Nat) : Ct l G yX2_gatherStrays cX2_gatherStrays 4 none 0 0 0 0 [.ref a0_, .ref a1_, .ref a2_] c_vv (pX2_gatherStrays a0_ a1_ a2_) := by
  refine Ct.of (lv := [(0, .ref a0_), (1, .ref a1_), (2, .ref a2_)]) (by decide) (Nat.le_of_ble_eq_true rfl) rfl (fun p e s m args below meth c hO hr hk hin => ?_)
  rw [pX2_gatherStrays]
  refine sm_aload_n hO 0 dX2_gatherStrays_0 rfl rfl ?_
  refine sm_iconst (v := 0) hO dX2_gatherStrays_1 rfl ?_
  refine sm_pv hO fl_RX2_28 fp_2_4 rfl rfl dX2_gatherStrays_2 ?_
  refine sm_iconst (v := 0) hO dX2_gatherStrays_5 rfl ?_
  refine sm_istore_n hO [(3, .int 0), (0, .ref a0_), (1, .ref a1_), (2, .ref a2_)] dX2_gatherStrays_6 rfl (by decide) rfl ?_
  exact sm_sub [1, 2, 3, 0] rfl (tX2_gatherStrays_7 hO hr hk c_fu a0_ a1_ a2_ 0)
/-! DollCongress$Mixings.countRings(I)V -/
def fX2_countRings_62 (k7 : Nat → Int32 → Int32 → Int32 → Int32 → MM Unit) (aL0 : Nat) (xL1 : Int32) (xL2 : Int32) (xL3 : Int32) (xL4 : Int32) : MM Unit := m_let (xL4 + 1) (fun x1 => k7 aL0 xL1 xL2 xL3 x1)
def fX2_countRings_7 (k68 : Nat → Int32 → Int32 → Int32 → MM Unit) : Nat → Nat → Int32 → Int32 → Int32 → Int32 → MM Unit
  | 0, _, _, _, _, _ => m_bad
  | n + 1, aL0, xL1, xL2, xL3, xL4 => m_gi aL0 2 4 (fun x1 => if x1 ≤ xL4 then (k68 aL0 xL1 xL2 xL3) else (if ((xL1 >>> (xL4 &&& 31)) &&& 1) = (1 : Int32) then (m_let (xL1 ^^^ ((1 : Int32) <<< (xL4 &&& 31))) (fun x2 => m_gr aL0 2 3 (fun a3 => m_li 0 a3 x2 (fun x4 => m_let (c_mx xL2 x4) (fun x5 => m_gr aL0 2 2 (fun a6 => m_li 0 a6 x2 (fun x7 => m_gr aL0 2 1 (fun a8 => m_li 0 a8 xL4 (fun x9 => m_let (x7 + x9) (fun x10 => fX2_countRings_62 (fX2_countRings_7 k68 n) aL0 xL1 x5 x10 xL4)))))))))) else (fX2_countRings_62 (fX2_countRings_7 k68 n) aL0 xL1 xL2 xL3 xL4)))
def fX2_countRings_91  (xS0 : Int32) (xS1 : Int32) (aS2 : Nat) : MM Unit := m_si aS2 xS1 xS0 (m_ret ())
def fX2_countRings_68  (aL0 : Nat) (xL1 : Int32) (xL2 : Int32) (xL3 : Int32) : MM Unit := m_gr aL0 2 2 (fun a1 => m_si a1 xL1 xL3 (m_gr aL0 2 3 (fun a2 => if xL3 = 0 then (fX2_countRings_91 (xL2 + 1) xL1 a2) else (fX2_countRings_91 xL2 xL1 a2))))
def pX2_countRings (a0_ : Nat) (x1_ : Int32) : MM Unit := fX2_countRings_7 fX2_countRings_68 c_fu a0_ x1_ 0 0 0
set_option maxRecDepth 100000 in
set_option maxHeartbeats 4000000 in
theorem tX2_countRings_62 {p : Program} {l : Launch} {e : Env} {s : State} {m : MethodId} {args : Array Value} {below : List Frame} {meth : Method} {c : Code} {G : cG} (hO : c_Ok p s m c cX2_countRings 6 RX2 G) (hr : meth.sig.returnType = none) (hk : meth.locks = false) (k7 : Nat → Int32 → Int32 → Int32 → Int32 → MM Unit) (hk7 : ∀ (aL0 : Nat) (xL1 : Int32) (xL2 : Int32) (xL3 : Int32) (xL4 : Int32), Sm p l e { frames := 1, cells := 0, slots := 0, locals := 13 } s m args below meth c G 6 (c_Q G c_vv below args s 0 0) 0 0 7 [(0, .ref aL0), (1, .int xL1), (2, .int xL2), (3, .int xL3), (4, .int xL4)] [] (k7 aL0 xL1 xL2 xL3 xL4))  : ∀ (aL0 : Nat) (xL1 : Int32) (xL2 : Int32) (xL3 : Int32) (xL4 : Int32), Sm p l e { frames := 1, cells := 0, slots := 0, locals := 13 } s m args below meth c G 6 (c_Q G c_vv below args s 0 0) 0 0 62 [(0, .ref aL0), (1, .int xL1), (2, .int xL2), (3, .int xL3), (4, .int xL4)] [] (fX2_countRings_62 k7 aL0 xL1 xL2 xL3 xL4) := by
  intro aL0 xL1 xL2 xL3 xL4
  rw [fX2_countRings_62]
  refine sm_iincL (v := xL4 + 1) hO 4 (fun x1 => [(4, .int x1), (0, .ref aL0), (1, .int xL1), (2, .int xL2), (3, .int xL3)]) dX2_countRings_62 rfl rfl (by decide) (fun _ => rfl) (fun x1 => ?_)
  refine sm_goto (tgt := 7) hO dX2_countRings_65 (by decide) ?_
  exact sm_sub [1, 2, 3, 4, 0] rfl (hk7 aL0 xL1 xL2 xL3 x1)
set_option maxRecDepth 100000 in
set_option maxHeartbeats 4000000 in
theorem tX2_countRings_7 {p : Program} {l : Launch} {e : Env} {s : State} {m : MethodId} {args : Array Value} {below : List Frame} {meth : Method} {c : Code} {G : cG} (hO : c_Ok p s m c cX2_countRings 6 RX2 G) (hr : meth.sig.returnType = none) (hk : meth.locks = false) (k68 : Nat → Int32 → Int32 → Int32 → MM Unit) (hk68 : ∀ (aL0 : Nat) (xL1 : Int32) (xL2 : Int32) (xL3 : Int32), Sm p l e { frames := 1, cells := 0, slots := 0, locals := 13 } s m args below meth c G 6 (c_Q G c_vv below args s 0 0) 0 0 68 [(0, .ref aL0), (1, .int xL1), (2, .int xL2), (3, .int xL3)] [] (k68 aL0 xL1 xL2 xL3))  : ∀ (n : Nat) (aL0 : Nat) (xL1 : Int32) (xL2 : Int32) (xL3 : Int32) (xL4 : Int32), Sm p l e { frames := 1, cells := 0, slots := 0, locals := 13 } s m args below meth c G 6 (c_Q G c_vv below args s 0 0) 0 0 7 [(0, .ref aL0), (1, .int xL1), (2, .int xL2), (3, .int xL3), (4, .int xL4)] [] (fX2_countRings_7 k68 n aL0 xL1 xL2 xL3 xL4) := by
  intro n
  induction n with
  | zero =>
    intro aL0 xL1 xL2 xL3 xL4
    exact sm_bad
  | succ n ih =>
    intro aL0 xL1 xL2 xL3 xL4
    rw [fX2_countRings_7]
    refine sm_iload hO 4 dX2_countRings_7 rfl ?_
    refine sm_aload_n hO 0 dX2_countRings_9 rfl rfl ?_
    refine sm_gi hO fl_RX2_28 dX2_countRings_10 (fun x1 => ?_)
    refine sm_icmp_ge (tgt := 68) hO dX2_countRings_13 (by decide) ?_ ?_
    · exact sm_sub [0, 1, 2, 3] rfl (hk68 aL0 xL1 xL2 xL3)
    · refine sm_iload_n hO 1 dX2_countRings_16 rfl rfl ?_
      refine sm_iload hO 4 dX2_countRings_17 rfl ?_
      refine sm_ishr hO dX2_countRings_19 ?_
      refine sm_iconst (v := 1) hO dX2_countRings_20 rfl ?_
      refine sm_iand hO dX2_countRings_21 ?_
      refine sm_iconst (v := 1) hO dX2_countRings_22 rfl ?_
      refine sm_icmp_ne (tgt := 62) hO dX2_countRings_23 (by decide) ?_ ?_
      · exact sm_sub [0, 1, 2, 3, 4] rfl (tX2_countRings_62 hO hr hk (fX2_countRings_7 k68 n) ih aL0 xL1 xL2 xL3 xL4)
      · refine sm_iload_n hO 1 dX2_countRings_26 rfl rfl ?_
        refine sm_iconst (v := 1) hO dX2_countRings_27 rfl ?_
        refine sm_iload hO 4 dX2_countRings_28 rfl ?_
        refine sm_ishl hO dX2_countRings_30 ?_
        refine sm_ixor hO dX2_countRings_31 ?_
        refine sm_topi (fun x2 => ?_)
        refine sm_istore hO [(5, .int x2), (0, .ref aL0), (1, .int xL1), (2, .int xL2), (3, .int xL3), (4, .int xL4)] dX2_countRings_32 (by decide) rfl ?_
        refine sm_iload_n hO 3 dX2_countRings_34 rfl rfl ?_
        refine sm_aload_n hO 1 dX2_countRings_35 rfl rfl ?_
        refine sm_gr hO fl_RX2_21 dX2_countRings_36 (fun a3 => ?_)
        refine sm_iload hO 0 dX2_countRings_39 rfl ?_
        refine sm_li hO dX2_countRings_41 (fun x4 => ?_)
        refine sm_max hO kw_665 kw_601 kw_83 kw_602 (Nat.le_of_ble_eq_true rfl) (Nat.le_of_ble_eq_true rfl) (Nat.le_of_ble_eq_true rfl) (Nat.le_of_ble_eq_true rfl) dX2_countRings_42 ?_
        refine sm_topi (fun x5 => ?_)
        refine sm_istore_n hO [(2, .int x5), (5, .int x2), (0, .ref aL0), (1, .int xL1), (3, .int xL3), (4, .int xL4)] dX2_countRings_45 rfl (by decide) rfl ?_
        refine sm_aload_n hO 2 dX2_countRings_46 rfl rfl ?_
        refine sm_gr hO fl_RX2_18 dX2_countRings_47 (fun a6 => ?_)
        refine sm_iload hO 1 dX2_countRings_50 rfl ?_
        refine sm_li hO dX2_countRings_52 (fun x7 => ?_)
        refine sm_aload_n hO 2 dX2_countRings_53 rfl rfl ?_
        refine sm_gr hO fl_RX2_15 dX2_countRings_54 (fun a8 => ?_)
        refine sm_iload hO 5 dX2_countRings_57 rfl ?_
        refine sm_li hO dX2_countRings_59 (fun x9 => ?_)
        refine sm_iadd hO dX2_countRings_60 ?_
        refine sm_topi (fun x10 => ?_)
        refine sm_istore_n hO [(3, .int x10), (2, .int x5), (5, .int x2), (0, .ref aL0), (1, .int xL1), (4, .int xL4)] dX2_countRings_61 rfl (by decide) rfl ?_
        exact sm_sub [3, 4, 1, 0, 5] rfl (tX2_countRings_62 hO hr hk (fX2_countRings_7 k68 n) ih aL0 xL1 x5 x10 xL4)
set_option maxRecDepth 100000 in
set_option maxHeartbeats 4000000 in
theorem tX2_countRings_91 {p : Program} {l : Launch} {e : Env} {s : State} {m : MethodId} {args : Array Value} {below : List Frame} {meth : Method} {c : Code} {G : cG} (hO : c_Ok p s m c cX2_countRings 6 RX2 G) (hr : meth.sig.returnType = none) (hk : meth.locks = false) : ∀ (xS0 : Int32) (xS1 : Int32) (aS2 : Nat), Sm p l e { frames := 1, cells := 0, slots := 0, locals := 13 } s m args below meth c G 6 (c_Q G c_vv below args s 0 0) 0 0 91 [] [.int xS0, .int xS1, .ref aS2] (fX2_countRings_91 xS0 xS1 aS2) := by
  intro xS0 xS1 aS2
  rw [fX2_countRings_91]
  refine sm_si hO dX2_countRings_91 ?_
  exact sm_vret hO hr hk (Nat.le_of_ble_eq_true rfl) (Nat.le_of_ble_eq_true rfl) dX2_countRings_92
set_option maxRecDepth 100000 in
set_option maxHeartbeats 4000000 in
theorem tX2_countRings_68 {p : Program} {l : Launch} {e : Env} {s : State} {m : MethodId} {args : Array Value} {below : List Frame} {meth : Method} {c : Code} {G : cG} (hO : c_Ok p s m c cX2_countRings 6 RX2 G) (hr : meth.sig.returnType = none) (hk : meth.locks = false) : ∀ (aL0 : Nat) (xL1 : Int32) (xL2 : Int32) (xL3 : Int32), Sm p l e { frames := 1, cells := 0, slots := 0, locals := 13 } s m args below meth c G 6 (c_Q G c_vv below args s 0 0) 0 0 68 [(0, .ref aL0), (1, .int xL1), (2, .int xL2), (3, .int xL3)] [] (fX2_countRings_68 aL0 xL1 xL2 xL3) := by
  intro aL0 xL1 xL2 xL3
  rw [fX2_countRings_68]
  refine sm_aload_n hO 0 dX2_countRings_68 rfl rfl ?_
  refine sm_gr hO fl_RX2_18 dX2_countRings_69 (fun a1 => ?_)
  refine sm_iload_n hO 1 dX2_countRings_72 rfl rfl ?_
  refine sm_iload_n hO 3 dX2_countRings_73 rfl rfl ?_
  refine sm_si hO dX2_countRings_74 ?_
  refine sm_aload_n hO 0 dX2_countRings_75 rfl rfl ?_
  refine sm_gr hO fl_RX2_21 dX2_countRings_76 (fun a2 => ?_)
  refine sm_iload_n hO 1 dX2_countRings_79 rfl rfl ?_
  refine sm_iload_n hO 3 dX2_countRings_80 rfl rfl ?_
  refine sm_if_ne (tgt := 90) hO dX2_countRings_81 (by decide) ?_ ?_
  · refine sm_iload_n hO 2 dX2_countRings_90 rfl rfl ?_
    exact sm_sub [] rfl (tX2_countRings_91 hO hr hk xL2 xL1 a2)
  · refine sm_iload_n hO 2 dX2_countRings_84 rfl rfl ?_
    refine sm_iconst (v := 1) hO dX2_countRings_85 rfl ?_
    refine sm_iadd hO dX2_countRings_86 ?_
    refine sm_goto (tgt := 91) hO dX2_countRings_87 (by decide) ?_
    exact sm_sub [] rfl (tX2_countRings_91 hO hr hk (xL2 + 1) xL1 a2)
set_option maxRecDepth 100000 in
set_option maxHeartbeats 4000000 in
theorem ctX2_countRings (l : Launch) (G : cG) (a0_ : Nat) (x1_ : Int32) : Ct l G yX2_countRings cX2_countRings 6 none 1 13 0 0 [.ref a0_, .int x1_] c_vv (pX2_countRings a0_ x1_) := by
  refine Ct.of (lv := [(0, .ref a0_), (1, .int x1_)]) (by decide) (Nat.le_of_ble_eq_true rfl) rfl (fun p e s m args below meth c hO hr hk hin => ?_)
  rw [pX2_countRings]
  refine sm_iconst (v := 0) hO dX2_countRings_0 rfl ?_
  refine sm_istore_n hO [(2, .int 0), (0, .ref a0_), (1, .int x1_)] dX2_countRings_1 rfl (by decide) rfl ?_
  refine sm_iconst (v := 0) hO dX2_countRings_2 rfl ?_
  refine sm_istore_n hO [(3, .int 0), (2, .int 0), (0, .ref a0_), (1, .int x1_)] dX2_countRings_3 rfl (by decide) rfl ?_
  refine sm_iconst (v := 0) hO dX2_countRings_4 rfl ?_
  refine sm_istore hO [(4, .int 0), (3, .int 0), (2, .int 0), (0, .ref a0_), (1, .int x1_)] dX2_countRings_5 (by decide) rfl ?_
  exact sm_sub [3, 4, 2, 1, 0] rfl (tX2_countRings_7 hO hr hk fX2_countRings_68 (tX2_countRings_68 hO hr hk) c_fu a0_ x1_ 0 0 0)
/-! DollCongress$Mixings.fewest(LDollCongress$Roll;LDollCongress$Scene;)I -/
def fX2_fewest_32 (k50 : Nat → Int32 → MM Int32) : Nat → Nat → Int32 → Int32 → MM Int32
  | 0, _, _, _ => m_bad
  | n + 1, aL0, xL3, xL4 => if xL3 < xL4 then (k50 aL0 xL3) else (m_cv aL0 2 (pX2_countRings aL0 xL4) (fun _ => m_let (xL4 + 1) (fun x1 => fX2_fewest_32 k50 n aL0 xL3 x1)))
def fX2_fewest_50  (aL0 : Nat) (xL3 : Int32) : MM Int32 := m_gr aL0 2 2 (fun a1 => m_li 0 a1 xL3 (fun x2 => if x2 = 0 then (m_gi aL0 2 4 (fun x3 => m_gr aL0 2 3 (fun a4 => m_li 0 a4 xL3 (fun x5 => m_ret (x3 - x5))))) else (m_ret ((-1) : Int32))))
def pX2_fewest (a0_ : Nat) (a1_ : Nat) (a2_ : Nat) : MM Int32 := m_cv a0_ 2 (pX2_gatherStrays a0_ a1_ a2_) (fun _ => m_gi a0_ 2 4 (fun x1 => m_let (((1 : Int32) <<< (x1 &&& 31)) - 1) (fun x2 => m_gr a0_ 2 2 (fun a3 => m_si a3 (0 : Int32) (0 : Int32) (m_gr a0_ 2 3 (fun a4 => m_si a4 (0 : Int32) (0 : Int32) (fX2_fewest_32 fX2_fewest_50 c_fu a0_ x2 1)))))))
set_option maxRecDepth 100000 in
set_option maxHeartbeats 4000000 in
theorem tX2_fewest_32 {p : Program} {l : Launch} {e : Env} {s : State} {m : MethodId} {args : Array Value} {below : List Frame} {meth : Method} {c : Code} {G : cG} (hO : c_Ok p s m c cX2_fewest 5 RX2 G) (hr : meth.sig.returnType = (some .int)) (hk : meth.locks = false) (k50 : Nat → Int32 → MM Int32) (hk50 : ∀ (aL0 : Nat) (xL3 : Int32), Sm p l e { frames := 2, cells := 0, slots := 0, locals := 38 } s m args below meth c G 5 (c_Q G c_vi below args s 0 0) 0 0 50 [(0, .ref aL0), (3, .int xL3)] [] (k50 aL0 xL3))  : ∀ (n : Nat) (aL0 : Nat) (xL3 : Int32) (xL4 : Int32), Sm p l e { frames := 2, cells := 0, slots := 0, locals := 38 } s m args below meth c G 5 (c_Q G c_vi below args s 0 0) 0 0 32 [(0, .ref aL0), (3, .int xL3), (4, .int xL4)] [] (fX2_fewest_32 k50 n aL0 xL3 xL4) := by
  intro n
  induction n with
  | zero =>
    intro aL0 xL3 xL4
    exact sm_bad
  | succ n ih =>
    intro aL0 xL3 xL4
    rw [fX2_fewest_32]
    refine sm_iload hO 2 dX2_fewest_32 rfl ?_
    refine sm_iload_n hO 1 dX2_fewest_34 rfl rfl ?_
    refine sm_icmp_gt (tgt := 50) hO dX2_fewest_35 (by decide) ?_ ?_
    · exact sm_sub [0, 1] rfl (hk50 aL0 xL3)
    · refine sm_aload_n hO 0 dX2_fewest_38 rfl rfl ?_
      refine sm_iload hO 2 dX2_fewest_39 rfl ?_
      refine sm_cvv hO (ctX2_countRings l G aL0 xL4) cw_RX2_32 cv_X2_countRings [] rfl rfl ⟨(Nat.le_of_ble_eq_true rfl), (Nat.le_of_ble_eq_true rfl)⟩ ⟨(Nat.le_of_ble_eq_true rfl), (Nat.le_of_ble_eq_true rfl)⟩ (Nat.le_of_ble_eq_true rfl) dX2_fewest_41 (fun _ => ?_)
      refine sm_iincL (v := xL4 + 1) hO 2 (fun x1 => [(4, .int x1), (0, .ref aL0), (3, .int xL3)]) dX2_fewest_44 rfl rfl (by decide) (fun _ => rfl) (fun x1 => ?_)
      refine sm_goto (tgt := 32) hO dX2_fewest_47 (by decide) ?_
      exact sm_sub [1, 2, 0] rfl (ih aL0 xL3 x1)
set_option maxRecDepth 100000 in
set_option maxHeartbeats 4000000 in
theorem tX2_fewest_50 {p : Program} {l : Launch} {e : Env} {s : State} {m : MethodId} {args : Array Value} {below : List Frame} {meth : Method} {c : Code} {G : cG} (hO : c_Ok p s m c cX2_fewest 5 RX2 G) (hr : meth.sig.returnType = (some .int)) (hk : meth.locks = false) : ∀ (aL0 : Nat) (xL3 : Int32), Sm p l e { frames := 2, cells := 0, slots := 0, locals := 38 } s m args below meth c G 5 (c_Q G c_vi below args s 0 0) 0 0 50 [(0, .ref aL0), (3, .int xL3)] [] (fX2_fewest_50 aL0 xL3) := by
  intro aL0 xL3
  rw [fX2_fewest_50]
  refine sm_aload_n hO 0 dX2_fewest_50 rfl rfl ?_
  refine sm_gr hO fl_RX2_18 dX2_fewest_51 (fun a1 => ?_)
  refine sm_iload_n hO 1 dX2_fewest_54 rfl rfl ?_
  refine sm_li hO dX2_fewest_55 (fun x2 => ?_)
  refine sm_if_ne (tgt := 73) hO dX2_fewest_56 (by decide) ?_ ?_
  · refine sm_iconst (v := (-1)) hO dX2_fewest_73 rfl ?_
    exact sm_iret hO hr hk (Nat.le_of_ble_eq_true rfl) (Nat.le_of_ble_eq_true rfl) dX2_fewest_74
  · refine sm_aload_n hO 0 dX2_fewest_59 rfl rfl ?_
    refine sm_gi hO fl_RX2_28 dX2_fewest_60 (fun x3 => ?_)
    refine sm_aload_n hO 0 dX2_fewest_63 rfl rfl ?_
    refine sm_gr hO fl_RX2_21 dX2_fewest_64 (fun a4 => ?_)
    refine sm_iload_n hO 1 dX2_fewest_67 rfl rfl ?_
    refine sm_li hO dX2_fewest_68 (fun x5 => ?_)
    refine sm_isub hO dX2_fewest_69 ?_
    refine sm_goto (tgt := 74) hO dX2_fewest_70 (by decide) ?_
    exact sm_iret hO hr hk (Nat.le_of_ble_eq_true rfl) (Nat.le_of_ble_eq_true rfl) dX2_fewest_74
set_option maxRecDepth 100000 in
set_option maxHeartbeats 4000000 in
theorem ctX2_fewest (l : Launch) (G : cG) (a0_ : Nat) (a1_ : Nat) (a2_ : Nat) : Ct l G yX2_fewest cX2_fewest 5 (some .int) 2 38 0 0 [.ref a0_, .ref a1_, .ref a2_] c_vi (pX2_fewest a0_ a1_ a2_) := by
  refine Ct.of (lv := [(0, .ref a0_), (1, .ref a1_), (2, .ref a2_)]) (by decide) (Nat.le_of_ble_eq_true rfl) rfl (fun p e s m args below meth c hO hr hk hin => ?_)
  rw [pX2_fewest]
  refine sm_aload_n hO 0 dX2_fewest_0 rfl rfl ?_
  refine sm_aload_n hO 1 dX2_fewest_1 rfl rfl ?_
  refine sm_aload_n hO 2 dX2_fewest_2 rfl rfl ?_
  refine sm_cvv hO (ctX2_gatherStrays l G a0_ a1_ a2_) cw_RX2_24 cv_X2_gatherStrays [] rfl rfl ⟨(Nat.le_of_ble_eq_true rfl), (Nat.le_of_ble_eq_true rfl)⟩ ⟨(Nat.le_of_ble_eq_true rfl), (Nat.le_of_ble_eq_true rfl)⟩ (Nat.le_of_ble_eq_true rfl) dX2_fewest_3 (fun _ => ?_)
  refine sm_iconst (v := 1) hO dX2_fewest_6 rfl ?_
  refine sm_aload_n hO 0 dX2_fewest_7 rfl rfl ?_
  refine sm_gi hO fl_RX2_28 dX2_fewest_8 (fun x1 => ?_)
  refine sm_ishl hO dX2_fewest_11 ?_
  refine sm_iconst (v := 1) hO dX2_fewest_12 rfl ?_
  refine sm_isub hO dX2_fewest_13 ?_
  refine sm_topi (fun x2 => ?_)
  refine sm_istore_n hO [(3, .int x2), (0, .ref a0_), (1, .ref a1_), (2, .ref a2_)] dX2_fewest_14 rfl (by decide) rfl ?_
  refine sm_aload_n hO 1 dX2_fewest_15 rfl rfl ?_
  refine sm_gr hO fl_RX2_18 dX2_fewest_16 (fun a3 => ?_)
  refine sm_iconst (v := 0) hO dX2_fewest_19 rfl ?_
  refine sm_iconst (v := 0) hO dX2_fewest_20 rfl ?_
  refine sm_si hO dX2_fewest_21 ?_
  refine sm_aload_n hO 1 dX2_fewest_22 rfl rfl ?_
  refine sm_gr hO fl_RX2_21 dX2_fewest_23 (fun a4 => ?_)
  refine sm_iconst (v := 0) hO dX2_fewest_26 rfl ?_
  refine sm_iconst (v := 0) hO dX2_fewest_27 rfl ?_
  refine sm_si hO dX2_fewest_28 ?_
  refine sm_iconst (v := 1) hO dX2_fewest_29 rfl ?_
  refine sm_istore hO [(4, .int 1), (3, .int x2), (0, .ref a0_), (1, .ref a1_), (2, .ref a2_)] dX2_fewest_30 (by decide) rfl ?_
  exact sm_sub [2, 1, 0] rfl (tX2_fewest_32 hO hr hk fX2_fewest_50 (tX2_fewest_50 hO hr hk) c_fu a0_ x2 1)
