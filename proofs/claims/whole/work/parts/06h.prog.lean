/-! DollCongressModel.mixNow(II)V -/
def pX10_mixNow (a0_ : Nat) (x1_ : Int32) (x2_ : Int32) : MM Unit := m_gr a0_ 9 8 (fun a1 => m_li 0 a1 x1_ (fun x2 => m_gr a0_ 9 8 (fun a3 => m_li 0 a3 x2_ (fun x4 => m_cv a0_ 9 (pX10_sendNow a0_ x1_ x4) (fun _ => m_cv a0_ 9 (pX10_sendNow a0_ x2_ x2) (fun _ => m_ret ()))))))
set_option maxRecDepth 100000 in
set_option maxHeartbeats 4000000 in
theorem ctX10_mixNow (l : Launch) (G : cG) (a0_ : Nat) (x1_ : Int32) (x2_ : Int32) : Ct l G yX10_mixNow cX10_mixNow 4 none 2 44 0 0 [.ref a0_, .int x1_, .int x2_] c_vv (pX10_mixNow a0_ x1_ x2_) := by
  refine Ct.of (lv := [(0, .ref a0_), (1, .int x1_), (2, .int x2_)]) (by decide) (Nat.le_of_ble_eq_true rfl) rfl (fun p e s m args below meth c hO hr hk hin => ?_)
  rw [pX10_mixNow]
  refine sm_aload_n hO 0 dX10_mixNow_0 rfl rfl ?_
  refine sm_gr hO fl_RX10_22 dX10_mixNow_1 (fun a1 => ?_)
  refine sm_iload_n hO 1 dX10_mixNow_4 rfl rfl ?_
  refine sm_li hO dX10_mixNow_5 (fun x2 => ?_)
  refine sm_istore_n hO [(3, .int x2), (0, .ref a0_), (1, .int x1_), (2, .int x2_)] dX10_mixNow_6 rfl (by decide) rfl ?_
  refine sm_aload_n hO 1 dX10_mixNow_7 rfl rfl ?_
  refine sm_iload_n hO 2 dX10_mixNow_8 rfl rfl ?_
  refine sm_aload_n hO 1 dX10_mixNow_9 rfl rfl ?_
  refine sm_gr hO fl_RX10_22 dX10_mixNow_10 (fun a3 => ?_)
  refine sm_iload_n hO 3 dX10_mixNow_13 rfl rfl ?_
  refine sm_li hO dX10_mixNow_14 (fun x4 => ?_)
  refine sm_cvv hO (ctX10_sendNow l G a0_ x1_ x4) cw_RX10_240 cv_X10_sendNow [] rfl rfl ⟨(Nat.le_of_ble_eq_true rfl), (Nat.le_of_ble_eq_true rfl)⟩ ⟨(Nat.le_of_ble_eq_true rfl), (Nat.le_of_ble_eq_true rfl)⟩ (Nat.le_of_ble_eq_true rfl) dX10_mixNow_15 (fun _ => ?_)
  refine sm_aload_n hO 1 dX10_mixNow_18 rfl rfl ?_
  refine sm_iload_n hO 3 dX10_mixNow_19 rfl rfl ?_
  refine sm_iload_n hO 0 dX10_mixNow_20 rfl rfl ?_
  refine sm_cvv hO (ctX10_sendNow l G a0_ x2_ x2) cw_RX10_240 cv_X10_sendNow [] rfl rfl ⟨(Nat.le_of_ble_eq_true rfl), (Nat.le_of_ble_eq_true rfl)⟩ ⟨(Nat.le_of_ble_eq_true rfl), (Nat.le_of_ble_eq_true rfl)⟩ (Nat.le_of_ble_eq_true rfl) dX10_mixNow_21 (fun _ => ?_)
  exact sm_vret hO hr hk (Nat.le_of_ble_eq_true rfl) (Nat.le_of_ble_eq_true rfl) dX10_mixNow_24
/-! DollCongressModel.mix(II)I -/
def pX10_mix (a0_ : Nat) (x1_ : Int32) (x2_ : Int32) : MM Int32 := m_cv a0_ 9 (pX10_isDoll a0_ x1_) (fun x1 => if x1 = 0 then (m_ret ((-1000000001) : Int32)) else (m_cv a0_ 9 (pX10_isDoll a0_ x2_) (fun x2 => if x2 = 0 then (m_ret ((-1000000001) : Int32)) else (if x1_ = x2_ then (m_ret ((-1000000001) : Int32)) else (m_cv a0_ 9 (pX10_remember a0_) (fun _ => m_cv a0_ 9 (pX10_mixNow a0_ x1_ x2_) (fun _ => m_gr a0_ 9 8 (fun a3 => m_li 0 a3 x1_ (fun x4 => m_ret x4)))))))))
set_option maxRecDepth 100000 in
set_option maxHeartbeats 4000000 in
theorem ctX10_mix (l : Launch) (G : cG) (a0_ : Nat) (x1_ : Int32) (x2_ : Int32) : Ct l G yX10_mix cX10_mix 3 (some .int) 3 67 0 0 [.ref a0_, .int x1_, .int x2_] c_vi (pX10_mix a0_ x1_ x2_) := by
  refine Ct.of (lv := [(0, .ref a0_), (1, .int x1_), (2, .int x2_)]) (by decide) (Nat.le_of_ble_eq_true rfl) rfl (fun p e s m args below meth c hO hr hk hin => ?_)
  rw [pX10_mix]
  refine sm_aload_n hO 0 dX10_mix_0 rfl rfl ?_
  refine sm_iload_n hO 1 dX10_mix_1 rfl rfl ?_
  refine sm_cvi hO (ctX10_isDoll l G a0_ x1_) cw_RX10_215 cv_X10_isDoll [] rfl rfl ⟨(Nat.le_of_ble_eq_true rfl), (Nat.le_of_ble_eq_true rfl)⟩ ⟨(Nat.le_of_ble_eq_true rfl), (Nat.le_of_ble_eq_true rfl)⟩ (Nat.le_of_ble_eq_true rfl) dX10_mix_2 (fun x1 => ?_)
  refine sm_if_eq (tgt := 21) hO dX10_mix_5 (by decide) ?_ ?_
  · refine sm_ldc (v := (-1000000001)) hO kw_1046 dX10_mix_21 ?_
    exact sm_iret hO hr hk (Nat.le_of_ble_eq_true rfl) (Nat.le_of_ble_eq_true rfl) dX10_mix_23
  · refine sm_aload_n hO 0 dX10_mix_8 rfl rfl ?_
    refine sm_iload_n hO 2 dX10_mix_9 rfl rfl ?_
    refine sm_cvi hO (ctX10_isDoll l G a0_ x2_) cw_RX10_215 cv_X10_isDoll [] rfl rfl ⟨(Nat.le_of_ble_eq_true rfl), (Nat.le_of_ble_eq_true rfl)⟩ ⟨(Nat.le_of_ble_eq_true rfl), (Nat.le_of_ble_eq_true rfl)⟩ (Nat.le_of_ble_eq_true rfl) dX10_mix_10 (fun x2 => ?_)
    refine sm_if_eq (tgt := 21) hO dX10_mix_13 (by decide) ?_ ?_
    · refine sm_ldc (v := (-1000000001)) hO kw_1046 dX10_mix_21 ?_
      exact sm_iret hO hr hk (Nat.le_of_ble_eq_true rfl) (Nat.le_of_ble_eq_true rfl) dX10_mix_23
    · refine sm_iload_n hO 1 dX10_mix_16 rfl rfl ?_
      refine sm_iload_n hO 2 dX10_mix_17 rfl rfl ?_
      refine sm_icmp_ne (tgt := 24) hO dX10_mix_18 (by decide) ?_ ?_
      · refine sm_aload_n hO 0 dX10_mix_24 rfl rfl ?_
        refine sm_cvv hO (ctX10_remember l G a0_) cw_RX10_237 cv_X10_remember [] rfl rfl ⟨(Nat.le_of_ble_eq_true rfl), (Nat.le_of_ble_eq_true rfl)⟩ ⟨(Nat.le_of_ble_eq_true rfl), (Nat.le_of_ble_eq_true rfl)⟩ (Nat.le_of_ble_eq_true rfl) dX10_mix_25 (fun _ => ?_)
        refine sm_aload_n hO 0 dX10_mix_28 rfl rfl ?_
        refine sm_iload_n hO 1 dX10_mix_29 rfl rfl ?_
        refine sm_iload_n hO 2 dX10_mix_30 rfl rfl ?_
        refine sm_cvv hO (ctX10_mixNow l G a0_ x1_ x2_) cw_RX10_244 cv_X10_mixNow [] rfl rfl ⟨(Nat.le_of_ble_eq_true rfl), (Nat.le_of_ble_eq_true rfl)⟩ ⟨(Nat.le_of_ble_eq_true rfl), (Nat.le_of_ble_eq_true rfl)⟩ (Nat.le_of_ble_eq_true rfl) dX10_mix_31 (fun _ => ?_)
        refine sm_aload_n hO 0 dX10_mix_34 rfl rfl ?_
        refine sm_gr hO fl_RX10_22 dX10_mix_35 (fun a3 => ?_)
        refine sm_iload_n hO 1 dX10_mix_38 rfl rfl ?_
        refine sm_li hO dX10_mix_39 (fun x4 => ?_)
        exact sm_iret hO hr hk (Nat.le_of_ble_eq_true rfl) (Nat.le_of_ble_eq_true rfl) dX10_mix_40
      · refine sm_ldc (v := (-1000000001)) hO kw_1046 dX10_mix_21 ?_
        exact sm_iret hO hr hk (Nat.le_of_ble_eq_true rfl) (Nat.le_of_ble_eq_true rfl) dX10_mix_23
/-! DollCongress$Scene.raise(I)V -/
def pX5_raise (a0_ : Nat) (x1_ : Int32) : MM Unit := m_gi a0_ 5 4 (fun x1 => m_pv a0_ 5 4 (.int (x1 ||| ((1 : Int32) <<< (x1_ &&& 31)))) (m_ret ()))
set_option maxRecDepth 100000 in
set_option maxHeartbeats 4000000 in
theorem ctX5_raise (l : Launch) (G : cG) (a0_ : Nat) (x1_ : Int32) : Ct l G yX5_raise cX5_raise 2 none 0 0 0 0 [.ref a0_, .int x1_] c_vv (pX5_raise a0_ x1_) := by
  refine Ct.of (lv := [(0, .ref a0_), (1, .int x1_)]) (by decide) (Nat.le_of_ble_eq_true rfl) rfl (fun p e s m args below meth c hO hr hk hin => ?_)
  rw [pX5_raise]
  refine sm_aload_n hO 0 dX5_raise_0 rfl rfl ?_
  refine sm_dup hO dX5_raise_1 rfl ?_
  refine sm_gi hO fl_RX5_46 dX5_raise_2 (fun x1 => ?_)
  refine sm_iconst (v := 1) hO dX5_raise_5 rfl ?_
  refine sm_iload_n hO 1 dX5_raise_6 rfl rfl ?_
  refine sm_ishl hO dX5_raise_7 ?_
  refine sm_ior hO dX5_raise_8 ?_
  refine sm_pv hO fl_RX5_46 fp_5_4 rfl rfl dX5_raise_9 ?_
  exact sm_vret hO hr hk (Nat.le_of_ble_eq_true rfl) (Nat.le_of_ble_eq_true rfl) dX5_raise_12
/-! DollCongress.lay(IZ)I -/
def fX9_lay_41  (aL0 : Nat) (xL1 : Int32) (xL2 : Int32) (xS0 : Int32) : MM Int32 := if xL2 = 0 then (m_gr aL0 8 1 (fun a1 => m_cv a1 5 (pX5_raise a1 xL1) (fun _ => m_ret xS0))) else (m_gr aL0 8 1 (fun a2 => m_cv a2 5 (pX5_layBack a2 xL1) (fun _ => m_ret xS0)))
def pX9_lay (a0_ : Nat) (x1_ : Int32) (x2_ : Int32) : MM Int32 := m_gr a0_ 8 7 (fun a1 => m_cv a1 4 (pX4_hasDoll a1 x1_) (fun x2 => if x2 = 0 then (m_ret ((-1000000001) : Int32)) else (m_gr a0_ 8 2 (fun a3 => m_gr a0_ 8 1 (fun a4 => m_cv a3 3 (pX3_remember a3 a4) (fun _ => m_gr a0_ 8 1 (fun a5 => m_cv a5 5 (pX5_isUp a5 x1_) (fun x6 => if x6 = 0 then (fX9_lay_41 a0_ x1_ x2_ 1) else (fX9_lay_41 a0_ x1_ x2_ 0)))))))))
set_option maxRecDepth 100000 in
set_option maxHeartbeats 4000000 in
theorem tX9_lay_41 {p : Program} {l : Launch} {e : Env} {s : State} {m : MethodId} {args : Array Value} {below : List Frame} {meth : Method} {c : Code} {G : cG} (hO : c_Ok p s m c cX9_lay 4 RX9 G) (hr : meth.sig.returnType = (some .int)) (hk : meth.locks = false) : ∀ (aL0 : Nat) (xL1 : Int32) (xL2 : Int32) (xS0 : Int32), Sm p l e { frames := 3, cells := 0, slots := 0, locals := 82 } s m args below meth c G 4 (c_Q G c_vi below args s 0 0) 0 0 41 [(0, .ref aL0), (1, .int xL1), (2, .int xL2)] [.int xS0] (fX9_lay_41 aL0 xL1 xL2 xS0) := by
  intro aL0 xL1 xL2 xS0
  rw [fX9_lay_41]
  refine sm_istore_n hO [(3, .int xS0), (0, .ref aL0), (1, .int xL1), (2, .int xL2)] dX9_lay_41 rfl (by decide) rfl ?_
  refine sm_iload_n hO 3 dX9_lay_42 rfl rfl ?_
  refine sm_if_eq (tgt := 57) hO dX9_lay_43 (by decide) ?_ ?_
  · refine sm_aload_n hO 1 dX9_lay_57 rfl rfl ?_
    refine sm_gr hO fl_RX9_19 dX9_lay_58 (fun a1 => ?_)
    refine sm_iload_n hO 2 dX9_lay_61 rfl rfl ?_
    refine sm_cvv hO (ctX5_raise l G a1 xL1) cw_RX9_209 cv_X5_raise [] rfl rfl ⟨(Nat.le_of_ble_eq_true rfl), (Nat.le_of_ble_eq_true rfl)⟩ ⟨(Nat.le_of_ble_eq_true rfl), (Nat.le_of_ble_eq_true rfl)⟩ (Nat.le_of_ble_eq_true rfl) dX9_lay_62 (fun _ => ?_)
    refine sm_iload_n hO 0 dX9_lay_65 rfl rfl ?_
    exact sm_iret hO hr hk (Nat.le_of_ble_eq_true rfl) (Nat.le_of_ble_eq_true rfl) dX9_lay_66
  · refine sm_aload_n hO 1 dX9_lay_46 rfl rfl ?_
    refine sm_gr hO fl_RX9_19 dX9_lay_47 (fun a2 => ?_)
    refine sm_iload_n hO 2 dX9_lay_50 rfl rfl ?_
    refine sm_cvv hO (ctX5_layBack l G a2 xL1) cw_RX9_205 cv_X5_layBack [] rfl rfl ⟨(Nat.le_of_ble_eq_true rfl), (Nat.le_of_ble_eq_true rfl)⟩ ⟨(Nat.le_of_ble_eq_true rfl), (Nat.le_of_ble_eq_true rfl)⟩ (Nat.le_of_ble_eq_true rfl) dX9_lay_51 (fun _ => ?_)
    refine sm_goto (tgt := 65) hO dX9_lay_54 (by decide) ?_
    refine sm_iload_n hO 0 dX9_lay_65 rfl rfl ?_
    exact sm_iret hO hr hk (Nat.le_of_ble_eq_true rfl) (Nat.le_of_ble_eq_true rfl) dX9_lay_66
set_option maxRecDepth 100000 in
set_option maxHeartbeats 4000000 in
theorem ctX9_lay (l : Launch) (G : cG) (a0_ : Nat) (x1_ : Int32) (x2_ : Int32) : Ct l G yX9_lay cX9_lay 4 (some .int) 3 82 0 0 [.ref a0_, .int x1_, .int x2_] c_vi (pX9_lay a0_ x1_ x2_) := by
  refine Ct.of (lv := [(0, .ref a0_), (1, .int x1_), (2, .int x2_)]) (by decide) (Nat.le_of_ble_eq_true rfl) rfl (fun p e s m args below meth c hO hr hk hin => ?_)
  rw [pX9_lay]
  refine sm_aload_n hO 0 dX9_lay_0 rfl rfl ?_
  refine sm_gr hO fl_RX9_60 dX9_lay_1 (fun a1 => ?_)
  refine sm_iload_n hO 1 dX9_lay_4 rfl rfl ?_
  refine sm_cvi hO (ctX4_hasDoll l G a1 x1_) cw_RX9_153 cv_X4_hasDoll [] rfl rfl ⟨(Nat.le_of_ble_eq_true rfl), (Nat.le_of_ble_eq_true rfl)⟩ ⟨(Nat.le_of_ble_eq_true rfl), (Nat.le_of_ble_eq_true rfl)⟩ (Nat.le_of_ble_eq_true rfl) dX9_lay_5 (fun x2 => ?_)
  refine sm_if_ne (tgt := 14) hO dX9_lay_8 (by decide) ?_ ?_
  · refine sm_aload_n hO 0 dX9_lay_14 rfl rfl ?_
    refine sm_gr hO fl_RX9_26 dX9_lay_15 (fun a3 => ?_)
    refine sm_aload_n hO 0 dX9_lay_18 rfl rfl ?_
    refine sm_gr hO fl_RX9_19 dX9_lay_19 (fun a4 => ?_)
    refine sm_cvv hO (ctX3_remember l G a3 a4) cw_RX9_194 cv_X3_remember [] rfl rfl ⟨(Nat.le_of_ble_eq_true rfl), (Nat.le_of_ble_eq_true rfl)⟩ ⟨(Nat.le_of_ble_eq_true rfl), (Nat.le_of_ble_eq_true rfl)⟩ (Nat.le_of_ble_eq_true rfl) dX9_lay_22 (fun _ => ?_)
    refine sm_aload_n hO 0 dX9_lay_25 rfl rfl ?_
    refine sm_gr hO fl_RX9_19 dX9_lay_26 (fun a5 => ?_)
    refine sm_iload_n hO 1 dX9_lay_29 rfl rfl ?_
    refine sm_cvi hO (ctX5_isUp l G a5 x1_) cw_RX9_173 cv_X5_isUp [] rfl rfl ⟨(Nat.le_of_ble_eq_true rfl), (Nat.le_of_ble_eq_true rfl)⟩ ⟨(Nat.le_of_ble_eq_true rfl), (Nat.le_of_ble_eq_true rfl)⟩ (Nat.le_of_ble_eq_true rfl) dX9_lay_30 (fun x6 => ?_)
    refine sm_if_eq (tgt := 40) hO dX9_lay_33 (by decide) ?_ ?_
    · refine sm_iconst (v := 1) hO dX9_lay_40 rfl ?_
      exact sm_sub [0, 1, 2] rfl (tX9_lay_41 hO hr hk a0_ x1_ x2_ 1)
    · refine sm_iconst (v := 0) hO dX9_lay_36 rfl ?_
      refine sm_goto (tgt := 41) hO dX9_lay_37 (by decide) ?_
      exact sm_sub [0, 1, 2] rfl (tX9_lay_41 hO hr hk a0_ x1_ x2_ 0)
  · refine sm_ldc (v := (-1000000001)) hO kw_512 dX9_lay_11 ?_
    exact sm_iret hO hr hk (Nat.le_of_ble_eq_true rfl) (Nat.le_of_ble_eq_true rfl) dX9_lay_13
/-! DollCongressModel.lay(IZ)I -/
def fX10_lay_34  (aL0 : Nat) (xL1 : Int32) (xL2 : Int32) (xS0 : Int32) : MM Int32 := m_cv aL0 9 (pX10_layNow aL0 xL1 xL2) (fun _ => m_ret xS0)
def pX10_lay (a0_ : Nat) (x1_ : Int32) (x2_ : Int32) : MM Int32 := m_cv a0_ 9 (pX10_isDoll a0_ x1_) (fun x1 => if x1 = 0 then (m_ret ((-1000000001) : Int32)) else (m_cv a0_ 9 (pX10_remember a0_) (fun _ => m_gr a0_ 9 8 (fun a2 => m_li 0 a2 (8 : Int32) (fun x3 => m_bind (pX10_has x3 x1_) (fun x4 => if x4 = 0 then (fX10_lay_34 a0_ x1_ x2_ 1) else (fX10_lay_34 a0_ x1_ x2_ 0)))))))
set_option maxRecDepth 100000 in
set_option maxHeartbeats 4000000 in
theorem tX10_lay_34 {p : Program} {l : Launch} {e : Env} {s : State} {m : MethodId} {args : Array Value} {below : List Frame} {meth : Method} {c : Code} {G : cG} (hO : c_Ok p s m c cX10_lay 4 RX10 G) (hr : meth.sig.returnType = (some .int)) (hk : meth.locks = false) : ∀ (aL0 : Nat) (xL1 : Int32) (xL2 : Int32) (xS0 : Int32), Sm p l e { frames := 2, cells := 0, slots := 0, locals := 46 } s m args below meth c G 4 (c_Q G c_vi below args s 0 0) 0 0 34 [(0, .ref aL0), (1, .int xL1), (2, .int xL2)] [.int xS0] (fX10_lay_34 aL0 xL1 xL2 xS0) := by
  intro aL0 xL1 xL2 xS0
  rw [fX10_lay_34]
  refine sm_istore_n hO [(3, .int xS0), (0, .ref aL0), (1, .int xL1), (2, .int xL2)] dX10_lay_34 rfl (by decide) rfl ?_
  refine sm_aload_n hO 1 dX10_lay_35 rfl rfl ?_
  refine sm_iload_n hO 2 dX10_lay_36 rfl rfl ?_
  refine sm_iload_n hO 3 dX10_lay_37 rfl rfl ?_
  refine sm_cvv hO (ctX10_layNow l G aL0 xL1 xL2) cw_RX10_232 cv_X10_layNow [] rfl rfl ⟨(Nat.le_of_ble_eq_true rfl), (Nat.le_of_ble_eq_true rfl)⟩ ⟨(Nat.le_of_ble_eq_true rfl), (Nat.le_of_ble_eq_true rfl)⟩ (Nat.le_of_ble_eq_true rfl) dX10_lay_38 (fun _ => ?_)
  refine sm_iload_n hO 0 dX10_lay_41 rfl rfl ?_
  exact sm_iret hO hr hk (Nat.le_of_ble_eq_true rfl) (Nat.le_of_ble_eq_true rfl) dX10_lay_42
set_option maxRecDepth 100000 in
set_option maxHeartbeats 4000000 in
theorem ctX10_lay (l : Launch) (G : cG) (a0_ : Nat) (x1_ : Int32) (x2_ : Int32) : Ct l G yX10_lay cX10_lay 4 (some .int) 2 46 0 0 [.ref a0_, .int x1_, .int x2_] c_vi (pX10_lay a0_ x1_ x2_) := by
  refine Ct.of (lv := [(0, .ref a0_), (1, .int x1_), (2, .int x2_)]) (by decide) (Nat.le_of_ble_eq_true rfl) rfl (fun p e s m args below meth c hO hr hk hin => ?_)
  rw [pX10_lay]
  refine sm_aload_n hO 0 dX10_lay_0 rfl rfl ?_
  refine sm_iload_n hO 1 dX10_lay_1 rfl rfl ?_
  refine sm_cvi hO (ctX10_isDoll l G a0_ x1_) cw_RX10_215 cv_X10_isDoll [] rfl rfl ⟨(Nat.le_of_ble_eq_true rfl), (Nat.le_of_ble_eq_true rfl)⟩ ⟨(Nat.le_of_ble_eq_true rfl), (Nat.le_of_ble_eq_true rfl)⟩ (Nat.le_of_ble_eq_true rfl) dX10_lay_2 (fun x1 => ?_)
  refine sm_if_ne (tgt := 11) hO dX10_lay_5 (by decide) ?_ ?_
  · refine sm_aload_n hO 0 dX10_lay_11 rfl rfl ?_
    refine sm_cvv hO (ctX10_remember l G a0_) cw_RX10_237 cv_X10_remember [] rfl rfl ⟨(Nat.le_of_ble_eq_true rfl), (Nat.le_of_ble_eq_true rfl)⟩ ⟨(Nat.le_of_ble_eq_true rfl), (Nat.le_of_ble_eq_true rfl)⟩ (Nat.le_of_ble_eq_true rfl) dX10_lay_12 (fun _ => ?_)
    refine sm_aload_n hO 0 dX10_lay_15 rfl rfl ?_
    refine sm_gr hO fl_RX10_22 dX10_lay_16 (fun a2 => ?_)
    refine sm_bipush (v := 8) hO dX10_lay_19 rfl ?_
    refine sm_li hO dX10_lay_21 (fun x3 => ?_)
    refine sm_iload_n hO 1 dX10_lay_22 rfl rfl ?_
    refine sm_csi hO (ctX10_has l G x3 x1_) cw_RX10_175 kw_985 [] rfl rfl ⟨(Nat.le_of_ble_eq_true rfl), (Nat.le_of_ble_eq_true rfl)⟩ ⟨(Nat.le_of_ble_eq_true rfl), (Nat.le_of_ble_eq_true rfl)⟩ (Nat.le_of_ble_eq_true rfl) dX10_lay_23 (fun x4 => ?_)
    refine sm_if_eq (tgt := 33) hO dX10_lay_26 (by decide) ?_ ?_
    · refine sm_iconst (v := 1) hO dX10_lay_33 rfl ?_
      exact sm_sub [0, 1, 2] rfl (tX10_lay_34 hO hr hk a0_ x1_ x2_ 1)
    · refine sm_iconst (v := 0) hO dX10_lay_29 rfl ?_
      refine sm_goto (tgt := 34) hO dX10_lay_30 (by decide) ?_
      exact sm_sub [0, 1, 2] rfl (tX10_lay_34 hO hr hk a0_ x1_ x2_ 0)
  · refine sm_ldc (v := (-1000000001)) hO kw_1046 dX10_lay_8 ?_
    exact sm_iret hO hr hk (Nat.le_of_ble_eq_true rfl) (Nat.le_of_ble_eq_true rfl) dX10_lay_10
/-! DollCongress.mask(II)I -/
def pX9_mask (a0_ : Nat) (x1_ : Int32) (x2_ : Int32) : MM Int32 := m_gr a0_ 8 7 (fun a1 => m_cv a1 4 (pX4_hasDoll a1 x1_) (fun x2 => if x2 = 0 then (m_ret ((-1000000001) : Int32)) else (if x2_ < 0 then (m_ret ((-1000000002) : Int32)) else (if x2_ ≤ (63 : Int32) then (m_gr a0_ 8 2 (fun a3 => m_gr a0_ 8 1 (fun a4 => m_cv a3 3 (pX3_remember a3 a4) (fun _ => m_gr a0_ 8 1 (fun a5 => m_gr a5 5 1 (fun a6 => m_li 0 a6 x1_ (fun x7 => m_gr a0_ 8 1 (fun a8 => m_gr a8 5 1 (fun a9 => m_si a9 x1_ x2_ (m_ret x7)))))))))) else (m_ret ((-1000000002) : Int32))))))
set_option maxRecDepth 100000 in
set_option maxHeartbeats 4000000 in
theorem ctX9_mask (l : Launch) (G : cG) (a0_ : Nat) (x1_ : Int32) (x2_ : Int32) : Ct l G yX9_mask cX9_mask 4 (some .int) 3 82 0 0 [.ref a0_, .int x1_, .int x2_] c_vi (pX9_mask a0_ x1_ x2_) := by
  refine Ct.of (lv := [(0, .ref a0_), (1, .int x1_), (2, .int x2_)]) (by decide) (Nat.le_of_ble_eq_true rfl) rfl (fun p e s m args below meth c hO hr hk hin => ?_)
  rw [pX9_mask]
  refine sm_aload_n hO 0 dX9_mask_0 rfl rfl ?_
  refine sm_gr hO fl_RX9_60 dX9_mask_1 (fun a1 => ?_)
  refine sm_iload_n hO 1 dX9_mask_4 rfl rfl ?_
  refine sm_cvi hO (ctX4_hasDoll l G a1 x1_) cw_RX9_153 cv_X4_hasDoll [] rfl rfl ⟨(Nat.le_of_ble_eq_true rfl), (Nat.le_of_ble_eq_true rfl)⟩ ⟨(Nat.le_of_ble_eq_true rfl), (Nat.le_of_ble_eq_true rfl)⟩ (Nat.le_of_ble_eq_true rfl) dX9_mask_5 (fun x2 => ?_)
  refine sm_if_ne (tgt := 14) hO dX9_mask_8 (by decide) ?_ ?_
  · refine sm_iload_n hO 2 dX9_mask_14 rfl rfl ?_
    refine sm_if_lt (tgt := 24) hO dX9_mask_15 (by decide) ?_ ?_
    · refine sm_ldc (v := (-1000000002)) hO kw_362 dX9_mask_24 ?_
      exact sm_iret hO hr hk (Nat.le_of_ble_eq_true rfl) (Nat.le_of_ble_eq_true rfl) dX9_mask_26
    · refine sm_iload_n hO 2 dX9_mask_18 rfl rfl ?_
      refine sm_bipush (v := 63) hO dX9_mask_19 rfl ?_
      refine sm_icmp_le (tgt := 27) hO dX9_mask_21 (by decide) ?_ ?_
      · refine sm_aload_n hO 0 dX9_mask_27 rfl rfl ?_
        refine sm_gr hO fl_RX9_26 dX9_mask_28 (fun a3 => ?_)
        refine sm_aload_n hO 0 dX9_mask_31 rfl rfl ?_
        refine sm_gr hO fl_RX9_19 dX9_mask_32 (fun a4 => ?_)
        refine sm_cvv hO (ctX3_remember l G a3 a4) cw_RX9_194 cv_X3_remember [] rfl rfl ⟨(Nat.le_of_ble_eq_true rfl), (Nat.le_of_ble_eq_true rfl)⟩ ⟨(Nat.le_of_ble_eq_true rfl), (Nat.le_of_ble_eq_true rfl)⟩ (Nat.le_of_ble_eq_true rfl) dX9_mask_35 (fun _ => ?_)
        refine sm_aload_n hO 0 dX9_mask_38 rfl rfl ?_
        refine sm_gr hO fl_RX9_19 dX9_mask_39 (fun a5 => ?_)
        refine sm_gr hO fl_RX9_167 dX9_mask_42 (fun a6 => ?_)
        refine sm_iload_n hO 1 dX9_mask_45 rfl rfl ?_
        refine sm_li hO dX9_mask_46 (fun x7 => ?_)
        refine sm_istore_n hO [(3, .int x7), (0, .ref a0_), (1, .int x1_), (2, .int x2_)] dX9_mask_47 rfl (by decide) rfl ?_
        refine sm_aload_n hO 1 dX9_mask_48 rfl rfl ?_
        refine sm_gr hO fl_RX9_19 dX9_mask_49 (fun a8 => ?_)
        refine sm_gr hO fl_RX9_167 dX9_mask_52 (fun a9 => ?_)
        refine sm_iload_n hO 2 dX9_mask_55 rfl rfl ?_
        refine sm_iload_n hO 3 dX9_mask_56 rfl rfl ?_
        refine sm_si hO dX9_mask_57 ?_
        refine sm_iload_n hO 0 dX9_mask_58 rfl rfl ?_
        exact sm_iret hO hr hk (Nat.le_of_ble_eq_true rfl) (Nat.le_of_ble_eq_true rfl) dX9_mask_59
      · refine sm_ldc (v := (-1000000002)) hO kw_362 dX9_mask_24 ?_
        exact sm_iret hO hr hk (Nat.le_of_ble_eq_true rfl) (Nat.le_of_ble_eq_true rfl) dX9_mask_26
  · refine sm_ldc (v := (-1000000001)) hO kw_512 dX9_mask_11 ?_
    exact sm_iret hO hr hk (Nat.le_of_ble_eq_true rfl) (Nat.le_of_ble_eq_true rfl) dX9_mask_13
/-! DollCongressModel.mask(II)I -/
def pX10_mask (a0_ : Nat) (x1_ : Int32) (x2_ : Int32) : MM Int32 := m_cv a0_ 9 (pX10_isDoll a0_ x1_) (fun x1 => if x1 = 0 then (m_ret ((-1000000001) : Int32)) else (m_bind (pX10_in (x2_.toInt64) 0 63) (fun x2 => if x2 = 0 then (m_ret ((-1000000002) : Int32)) else (m_cv a0_ 9 (pX10_remember a0_) (fun _ => m_gr a0_ 9 8 (fun a3 => m_li 0 a3 ((17 : Int32) + x1_) (fun x4 => m_gr a0_ 9 8 (fun a5 => m_si a5 ((17 : Int32) + x1_) x2_ (m_ret x4)))))))))
set_option maxRecDepth 100000 in
set_option maxHeartbeats 4000000 in
theorem ctX10_mask (l : Launch) (G : cG) (a0_ : Nat) (x1_ : Int32) (x2_ : Int32) : Ct l G yX10_mask cX10_mask 4 (some .int) 2 46 0 0 [.ref a0_, .int x1_, .int x2_] c_vi (pX10_mask a0_ x1_ x2_) := by
  refine Ct.of (lv := [(0, .ref a0_), (1, .int x1_), (2, .int x2_)]) (by decide) (Nat.le_of_ble_eq_true rfl) rfl (fun p e s m args below meth c hO hr hk hin => ?_)
  rw [pX10_mask]
  refine sm_aload_n hO 0 dX10_mask_0 rfl rfl ?_
  refine sm_iload_n hO 1 dX10_mask_1 rfl rfl ?_
  refine sm_cvi hO (ctX10_isDoll l G a0_ x1_) cw_RX10_215 cv_X10_isDoll [] rfl rfl ⟨(Nat.le_of_ble_eq_true rfl), (Nat.le_of_ble_eq_true rfl)⟩ ⟨(Nat.le_of_ble_eq_true rfl), (Nat.le_of_ble_eq_true rfl)⟩ (Nat.le_of_ble_eq_true rfl) dX10_mask_2 (fun x1 => ?_)
  refine sm_if_ne (tgt := 11) hO dX10_mask_5 (by decide) ?_ ?_
  · refine sm_iload_n hO 2 dX10_mask_11 rfl rfl ?_
    refine sm_i2l (v := x2_.toInt64) hO dX10_mask_12 rfl ?_
    refine sm_lconst (v := 0) hO dX10_mask_13 rfl ?_
    refine sm_ldc2 (v := 63) hO kw_1099 dX10_mask_14 ?_
    refine sm_csi hO (ctX10_in l G (x2_.toInt64) 0 63) cw_RX10_75 kw_923 [] rfl rfl ⟨(Nat.le_of_ble_eq_true rfl), (Nat.le_of_ble_eq_true rfl)⟩ ⟨(Nat.le_of_ble_eq_true rfl), (Nat.le_of_ble_eq_true rfl)⟩ (Nat.le_of_ble_eq_true rfl) dX10_mask_17 (fun x2 => ?_)
    refine sm_if_ne (tgt := 26) hO dX10_mask_20 (by decide) ?_ ?_
    · refine sm_aload_n hO 0 dX10_mask_26 rfl rfl ?_
      refine sm_cvv hO (ctX10_remember l G a0_) cw_RX10_237 cv_X10_remember [] rfl rfl ⟨(Nat.le_of_ble_eq_true rfl), (Nat.le_of_ble_eq_true rfl)⟩ ⟨(Nat.le_of_ble_eq_true rfl), (Nat.le_of_ble_eq_true rfl)⟩ (Nat.le_of_ble_eq_true rfl) dX10_mask_27 (fun _ => ?_)
      refine sm_aload_n hO 0 dX10_mask_30 rfl rfl ?_
      refine sm_gr hO fl_RX10_22 dX10_mask_31 (fun a3 => ?_)
      refine sm_bipush (v := 17) hO dX10_mask_34 rfl ?_
      refine sm_iload_n hO 1 dX10_mask_36 rfl rfl ?_
      refine sm_iadd hO dX10_mask_37 ?_
      refine sm_li hO dX10_mask_38 (fun x4 => ?_)
      refine sm_istore_n hO [(3, .int x4), (0, .ref a0_), (1, .int x1_), (2, .int x2_)] dX10_mask_39 rfl (by decide) rfl ?_
      refine sm_aload_n hO 1 dX10_mask_40 rfl rfl ?_
      refine sm_gr hO fl_RX10_22 dX10_mask_41 (fun a5 => ?_)
      refine sm_bipush (v := 17) hO dX10_mask_44 rfl ?_
      refine sm_iload_n hO 2 dX10_mask_46 rfl rfl ?_
      refine sm_iadd hO dX10_mask_47 ?_
      refine sm_iload_n hO 3 dX10_mask_48 rfl rfl ?_
      refine sm_si hO dX10_mask_49 ?_
      refine sm_iload_n hO 0 dX10_mask_50 rfl rfl ?_
      exact sm_iret hO hr hk (Nat.le_of_ble_eq_true rfl) (Nat.le_of_ble_eq_true rfl) dX10_mask_51
    · refine sm_ldc (v := (-1000000002)) hO kw_925 dX10_mask_23 ?_
      exact sm_iret hO hr hk (Nat.le_of_ble_eq_true rfl) (Nat.le_of_ble_eq_true rfl) dX10_mask_25
  · refine sm_ldc (v := (-1000000001)) hO kw_1046 dX10_mask_8 ?_
    exact sm_iret hO hr hk (Nat.le_of_ble_eq_true rfl) (Nat.le_of_ble_eq_true rfl) dX10_mask_10
/-! DollCongress$Scene.holdAudience(LDollCongress$Roll;)Z -/
def fX5_holdAudience_22  (aL0 : Nat) (xS0 : Int32) : MM Int32 := m_gi aL0 5 6 (fun x1 => m_pv aL0 5 6 (.int (x1 + 1)) (if xS0 = 0 then (m_rz xS0) else (m_gi aL0 5 7 (fun x2 => m_pv aL0 5 7 (.int (x2 + 1)) (m_rz xS0)))))
def pX5_holdAudience (a0_ : Nat) (a1_ : Nat) : MM Int32 := m_gr a1_ 4 4 (fun a1 => m_cv a0_ 5 (pX5_nodding a0_ a1_) (fun x2 => m_li 0 a1 x2 (fun x3 => m_gi a1_ 4 8 (fun x4 => if x3 < x4 then (fX5_holdAudience_22 a0_ 0) else (fX5_holdAudience_22 a0_ 1)))))
set_option maxRecDepth 100000 in
set_option maxHeartbeats 4000000 in
theorem tX5_holdAudience_22 {p : Program} {l : Launch} {e : Env} {s : State} {m : MethodId} {args : Array Value} {below : List Frame} {meth : Method} {c : Code} {G : cG} (hO : c_Ok p s m c cX5_holdAudience 3 RX5 G) (hr : meth.sig.returnType = (some .boolean)) (hk : meth.locks = false) : ∀ (aL0 : Nat) (xS0 : Int32), Sm p l e { frames := 2, cells := 0, slots := 0, locals := 45 } s m args below meth c G 3 (c_Q G c_vi below args s 0 0) 0 0 22 [(0, .ref aL0)] [.int xS0] (fX5_holdAudience_22 aL0 xS0) := by
  intro aL0 xS0
  rw [fX5_holdAudience_22]
  refine sm_istore_n hO [(2, .int xS0), (0, .ref aL0)] dX5_holdAudience_22 rfl (by decide) rfl ?_
  refine sm_aload_n hO 1 dX5_holdAudience_23 rfl rfl ?_
  refine sm_dup hO dX5_holdAudience_24 rfl ?_
  refine sm_gi hO fl_RX5_52 dX5_holdAudience_25 (fun x1 => ?_)
  refine sm_iconst (v := 1) hO dX5_holdAudience_28 rfl ?_
  refine sm_iadd hO dX5_holdAudience_29 ?_
  refine sm_pv hO fl_RX5_52 fp_5_6 rfl rfl dX5_holdAudience_30 ?_
  refine sm_iload_n hO 0 dX5_holdAudience_33 rfl rfl ?_
  refine sm_if_eq (tgt := 47) hO dX5_holdAudience_34 (by decide) ?_ ?_
  · refine sm_iload_n hO 0 dX5_holdAudience_47 rfl rfl ?_
    exact sm_rz hO hr hk (Nat.le_of_ble_eq_true rfl) (Nat.le_of_ble_eq_true rfl) dX5_holdAudience_48
  · refine sm_aload_n hO 1 dX5_holdAudience_37 rfl rfl ?_
    refine sm_dup hO dX5_holdAudience_38 rfl ?_
    refine sm_gi hO fl_RX5_55 dX5_holdAudience_39 (fun x2 => ?_)
    refine sm_iconst (v := 1) hO dX5_holdAudience_42 rfl ?_
    refine sm_iadd hO dX5_holdAudience_43 ?_
    refine sm_pv hO fl_RX5_55 fp_5_7 rfl rfl dX5_holdAudience_44 ?_
    refine sm_iload_n hO 0 dX5_holdAudience_47 rfl rfl ?_
    exact sm_rz hO hr hk (Nat.le_of_ble_eq_true rfl) (Nat.le_of_ble_eq_true rfl) dX5_holdAudience_48
set_option maxRecDepth 100000 in
set_option maxHeartbeats 4000000 in
theorem ctX5_holdAudience (l : Launch) (G : cG) (a0_ : Nat) (a1_ : Nat) : Ct l G yX5_holdAudience cX5_holdAudience 3 (some .boolean) 2 45 0 0 [.ref a0_, .ref a1_] c_vi (pX5_holdAudience a0_ a1_) := by
  refine Ct.of (lv := [(0, .ref a0_), (1, .ref a1_)]) (by decide) (Nat.le_of_ble_eq_true rfl) rfl (fun p e s m args below meth c hO hr hk hin => ?_)
  rw [pX5_holdAudience]
  refine sm_aload_n hO 1 dX5_holdAudience_0 rfl rfl ?_
  refine sm_gr hO fl_RX5_73 dX5_holdAudience_1 (fun a1 => ?_)
  refine sm_aload_n hO 0 dX5_holdAudience_4 rfl rfl ?_
  refine sm_aload_n hO 1 dX5_holdAudience_5 rfl rfl ?_
  refine sm_cvi hO (ctX5_nodding l G a0_ a1_) cw_RX5_76 cv_X5_nodding [.ref a1] rfl rfl ⟨(Nat.le_of_ble_eq_true rfl), (Nat.le_of_ble_eq_true rfl)⟩ ⟨(Nat.le_of_ble_eq_true rfl), (Nat.le_of_ble_eq_true rfl)⟩ (Nat.le_of_ble_eq_true rfl) dX5_holdAudience_6 (fun x2 => ?_)
  refine sm_li hO dX5_holdAudience_9 (fun x3 => ?_)
  refine sm_aload_n hO 1 dX5_holdAudience_10 rfl rfl ?_
  refine sm_gi hO fl_RX5_80 dX5_holdAudience_11 (fun x4 => ?_)
  refine sm_icmp_lt (tgt := 21) hO dX5_holdAudience_14 (by decide) ?_ ?_
  · refine sm_iconst (v := 0) hO dX5_holdAudience_21 rfl ?_
    exact sm_sub [0] rfl (tX5_holdAudience_22 hO hr hk a0_ 0)
  · refine sm_iconst (v := 1) hO dX5_holdAudience_17 rfl ?_
    refine sm_goto (tgt := 22) hO dX5_holdAudience_18 (by decide) ?_
    exact sm_sub [0] rfl (tX5_holdAudience_22 hO hr hk a0_ 1)
/-! DollCongress.audience()I -/
def pX9_audience (a0_ : Nat) : MM Int32 := m_cv a0_ 8 (pX9_hasCongress a0_) (fun x1 => if x1 = 0 then (m_ret ((-1000000003) : Int32)) else (m_gr a0_ 8 2 (fun a2 => m_gr a0_ 8 1 (fun a3 => m_cv a2 3 (pX3_remember a2 a3) (fun _ => m_gr a0_ 8 1 (fun a4 => m_gr a0_ 8 7 (fun a5 => m_cv a4 5 (pX5_holdAudience a4 a5) (fun x6 => if x6 = 0 then (m_ret (0 : Int32)) else (m_ret (1 : Int32))))))))))
set_option maxRecDepth 100000 in
set_option maxHeartbeats 4000000 in
theorem ctX9_audience (l : Launch) (G : cG) (a0_ : Nat) : Ct l G yX9_audience cX9_audience 1 (some .int) 3 82 0 0 [.ref a0_] c_vi (pX9_audience a0_) := by
  refine Ct.of (lv := [(0, .ref a0_)]) (by decide) (Nat.le_of_ble_eq_true rfl) rfl (fun p e s m args below meth c hO hr hk hin => ?_)
  rw [pX9_audience]
  refine sm_aload_n hO 0 dX9_audience_0 rfl rfl ?_
  refine sm_cvi hO (ctX9_hasCongress l G a0_) cw_RX9_141 cv_X9_hasCongress [] rfl rfl ⟨(Nat.le_of_ble_eq_true rfl), (Nat.le_of_ble_eq_true rfl)⟩ ⟨(Nat.le_of_ble_eq_true rfl), (Nat.le_of_ble_eq_true rfl)⟩ (Nat.le_of_ble_eq_true rfl) dX9_audience_1 (fun x1 => ?_)
  refine sm_if_ne (tgt := 10) hO dX9_audience_4 (by decide) ?_ ?_
  · refine sm_aload_n hO 0 dX9_audience_10 rfl rfl ?_
    refine sm_gr hO fl_RX9_26 dX9_audience_11 (fun a2 => ?_)
    refine sm_aload_n hO 0 dX9_audience_14 rfl rfl ?_
    refine sm_gr hO fl_RX9_19 dX9_audience_15 (fun a3 => ?_)
    refine sm_cvv hO (ctX3_remember l G a2 a3) cw_RX9_194 cv_X3_remember [] rfl rfl ⟨(Nat.le_of_ble_eq_true rfl), (Nat.le_of_ble_eq_true rfl)⟩ ⟨(Nat.le_of_ble_eq_true rfl), (Nat.le_of_ble_eq_true rfl)⟩ (Nat.le_of_ble_eq_true rfl) dX9_audience_18 (fun _ => ?_)
    refine sm_aload_n hO 0 dX9_audience_21 rfl rfl ?_
    refine sm_gr hO fl_RX9_19 dX9_audience_22 (fun a4 => ?_)
    refine sm_aload_n hO 0 dX9_audience_25 rfl rfl ?_
    refine sm_gr hO fl_RX9_60 dX9_audience_26 (fun a5 => ?_)
    refine sm_cvi hO (ctX5_holdAudience l G a4 a5) cw_RX9_212 cv_X5_holdAudience [] rfl rfl ⟨(Nat.le_of_ble_eq_true rfl), (Nat.le_of_ble_eq_true rfl)⟩ ⟨(Nat.le_of_ble_eq_true rfl), (Nat.le_of_ble_eq_true rfl)⟩ (Nat.le_of_ble_eq_true rfl) dX9_audience_29 (fun x6 => ?_)
    refine sm_if_eq (tgt := 39) hO dX9_audience_32 (by decide) ?_ ?_
    · refine sm_iconst (v := 0) hO dX9_audience_39 rfl ?_
      exact sm_iret hO hr hk (Nat.le_of_ble_eq_true rfl) (Nat.le_of_ble_eq_true rfl) dX9_audience_40
    · refine sm_iconst (v := 1) hO dX9_audience_35 rfl ?_
      refine sm_goto (tgt := 40) hO dX9_audience_36 (by decide) ?_
      exact sm_iret hO hr hk (Nat.le_of_ble_eq_true rfl) (Nat.le_of_ble_eq_true rfl) dX9_audience_40
  · refine sm_ldc (v := (-1000000003)) hO kw_536 dX9_audience_7 ?_
    exact sm_iret hO hr hk (Nat.le_of_ble_eq_true rfl) (Nat.le_of_ble_eq_true rfl) dX9_audience_9
/-! DollCongressModel.audienceNow()I -/
def fX10_audienceNow_16  (aL0 : Nat) (xS0 : Int32) : MM Int32 := m_gr aL0 9 8 (fun a1 => m_li 0 a1 (34 : Int32) (fun x2 => m_si a1 (34 : Int32) (x2 + 1) (m_gr aL0 9 8 (fun a3 => m_li 0 a3 (35 : Int32) (fun x4 => m_si a3 (35 : Int32) (x4 + xS0) (m_ret xS0))))))
def pX10_audienceNow (a0_ : Nat) : MM Int32 := m_cv a0_ 9 (pX10_noddingOnes a0_) (fun x1 => m_cv a0_ 9 (pX10_hasQuota a0_ x1) (fun x2 => if x2 = 0 then (fX10_audienceNow_16 a0_ 0) else (fX10_audienceNow_16 a0_ 1)))
set_option maxRecDepth 100000 in
set_option maxHeartbeats 4000000 in
theorem tX10_audienceNow_16 {p : Program} {l : Launch} {e : Env} {s : State} {m : MethodId} {args : Array Value} {below : List Frame} {meth : Method} {c : Code} {G : cG} (hO : c_Ok p s m c cX10_audienceNow 2 RX10 G) (hr : meth.sig.returnType = (some .int)) (hk : meth.locks = false) : ∀ (aL0 : Nat) (xS0 : Int32), Sm p l e { frames := 3, cells := 0, slots := 0, locals := 69 } s m args below meth c G 2 (c_Q G c_vi below args s 0 0) 0 0 16 [(0, .ref aL0)] [.int xS0] (fX10_audienceNow_16 aL0 xS0) := by
  intro aL0 xS0
  rw [fX10_audienceNow_16]
  refine sm_istore_n hO [(1, .int xS0), (0, .ref aL0)] dX10_audienceNow_16 rfl (by decide) rfl ?_
  refine sm_aload_n hO 1 dX10_audienceNow_17 rfl rfl ?_
  refine sm_gr hO fl_RX10_22 dX10_audienceNow_18 (fun a1 => ?_)
  refine sm_bipush (v := 34) hO dX10_audienceNow_21 rfl ?_
  refine sm_dup2 hO dX10_audienceNow_23 rfl rfl ?_
  refine sm_li hO dX10_audienceNow_24 (fun x2 => ?_)
  refine sm_iconst (v := 1) hO dX10_audienceNow_25 rfl ?_
  refine sm_iadd hO dX10_audienceNow_26 ?_
  refine sm_si hO dX10_audienceNow_27 ?_
  refine sm_aload_n hO 1 dX10_audienceNow_28 rfl rfl ?_
  refine sm_gr hO fl_RX10_22 dX10_audienceNow_29 (fun a3 => ?_)
  refine sm_bipush (v := 35) hO dX10_audienceNow_32 rfl ?_
  refine sm_dup2 hO dX10_audienceNow_34 rfl rfl ?_
  refine sm_li hO dX10_audienceNow_35 (fun x4 => ?_)
  refine sm_iload_n hO 0 dX10_audienceNow_36 rfl rfl ?_
  refine sm_iadd hO dX10_audienceNow_37 ?_
  refine sm_si hO dX10_audienceNow_38 ?_
  refine sm_iload_n hO 0 dX10_audienceNow_39 rfl rfl ?_
  exact sm_iret hO hr hk (Nat.le_of_ble_eq_true rfl) (Nat.le_of_ble_eq_true rfl) dX10_audienceNow_40
set_option maxRecDepth 100000 in
set_option maxHeartbeats 4000000 in
theorem ctX10_audienceNow (l : Launch) (G : cG) (a0_ : Nat) : Ct l G yX10_audienceNow cX10_audienceNow 2 (some .int) 3 69 0 0 [.ref a0_] c_vi (pX10_audienceNow a0_) := by
  refine Ct.of (lv := [(0, .ref a0_)]) (by decide) (Nat.le_of_ble_eq_true rfl) rfl (fun p e s m args below meth c hO hr hk hin => ?_)
  rw [pX10_audienceNow]
  refine sm_aload_n hO 0 dX10_audienceNow_0 rfl rfl ?_
  refine sm_aload_n hO 0 dX10_audienceNow_1 rfl rfl ?_
  refine sm_cvi hO (ctX10_noddingOnes l G a0_) cw_RX10_203 cv_X10_noddingOnes [.ref a0_] rfl rfl ⟨(Nat.le_of_ble_eq_true rfl), (Nat.le_of_ble_eq_true rfl)⟩ ⟨(Nat.le_of_ble_eq_true rfl), (Nat.le_of_ble_eq_true rfl)⟩ (Nat.le_of_ble_eq_true rfl) dX10_audienceNow_2 (fun x1 => ?_)
  refine sm_cvi hO (ctX10_hasQuota l G a0_ x1) cw_RX10_185 cv_X10_hasQuota [] rfl rfl ⟨(Nat.le_of_ble_eq_true rfl), (Nat.le_of_ble_eq_true rfl)⟩ ⟨(Nat.le_of_ble_eq_true rfl), (Nat.le_of_ble_eq_true rfl)⟩ (Nat.le_of_ble_eq_true rfl) dX10_audienceNow_5 (fun x2 => ?_)
  refine sm_if_eq (tgt := 15) hO dX10_audienceNow_8 (by decide) ?_ ?_
  · refine sm_iconst (v := 0) hO dX10_audienceNow_15 rfl ?_
    exact sm_sub [0] rfl (tX10_audienceNow_16 hO hr hk a0_ 0)
  · refine sm_iconst (v := 1) hO dX10_audienceNow_11 rfl ?_
    refine sm_goto (tgt := 16) hO dX10_audienceNow_12 (by decide) ?_
    exact sm_sub [0] rfl (tX10_audienceNow_16 hO hr hk a0_ 1)
/-! DollCongressModel.audience()I -/
def pX10_audience (a0_ : Nat) : MM Int32 := m_gi a0_ 9 0 (fun x1 => if x1 = 0 then (m_ret ((-1000000003) : Int32)) else (m_cv a0_ 9 (pX10_remember a0_) (fun _ => m_cv a0_ 9 (pX10_audienceNow a0_) (fun x2 => m_ret x2))))
set_option maxRecDepth 100000 in
set_option maxHeartbeats 4000000 in
theorem ctX10_audience (l : Launch) (G : cG) (a0_ : Nat) : Ct l G yX10_audience cX10_audience 1 (some .int) 4 90 0 0 [.ref a0_] c_vi (pX10_audience a0_) := by
  refine Ct.of (lv := [(0, .ref a0_)]) (by decide) (Nat.le_of_ble_eq_true rfl) rfl (fun p e s m args below meth c hO hr hk hin => ?_)
  rw [pX10_audience]
  refine sm_aload_n hO 0 dX10_audience_0 rfl rfl ?_
  refine sm_gi hO fl_RX10_72 dX10_audience_1 (fun x1 => ?_)
  refine sm_if_ne (tgt := 10) hO dX10_audience_4 (by decide) ?_ ?_
  · refine sm_aload_n hO 0 dX10_audience_10 rfl rfl ?_
    refine sm_cvv hO (ctX10_remember l G a0_) cw_RX10_237 cv_X10_remember [] rfl rfl ⟨(Nat.le_of_ble_eq_true rfl), (Nat.le_of_ble_eq_true rfl)⟩ ⟨(Nat.le_of_ble_eq_true rfl), (Nat.le_of_ble_eq_true rfl)⟩ (Nat.le_of_ble_eq_true rfl) dX10_audience_11 (fun _ => ?_)
    refine sm_aload_n hO 0 dX10_audience_14 rfl rfl ?_
    refine sm_cvi hO (ctX10_audienceNow l G a0_) cw_RX10_249 cv_X10_audienceNow [] rfl rfl ⟨(Nat.le_of_ble_eq_true rfl), (Nat.le_of_ble_eq_true rfl)⟩ ⟨(Nat.le_of_ble_eq_true rfl), (Nat.le_of_ble_eq_true rfl)⟩ (Nat.le_of_ble_eq_true rfl) dX10_audience_15 (fun x2 => ?_)
    exact sm_iret hO hr hk (Nat.le_of_ble_eq_true rfl) (Nat.le_of_ble_eq_true rfl) dX10_audience_18
  · refine sm_ldc (v := (-1000000003)) hO kw_1070 dX10_audience_7 ?_
    exact sm_iret hO hr hk (Nat.le_of_ble_eq_true rfl) (Nat.le_of_ble_eq_true rfl) dX10_audience_9
/-! DollCongress.refusalOfYears(I)I -/
def pX9_refusalOfYears (a0_ : Nat) (x1_ : Int32) : MM Int32 := if x1_ < (1 : Int32) then (m_ret ((-1000000002) : Int32)) else (if x1_ ≤ (60 : Int32) then (m_cv a0_ 8 (pX9_hasCongress a0_) (fun x1 => if x1 = 0 then (m_ret ((-1000000003) : Int32)) else (m_gr a0_ 8 1 (fun a2 => m_gi a2 5 5 (fun x3 => if x3 ≤ (9000 : Int32) then (m_ret (0 : Int32)) else (m_ret ((-1000000004) : Int32))))))) else (m_ret ((-1000000002) : Int32)))
set_option maxRecDepth 100000 in
set_option maxHeartbeats 4000000 in
theorem ctX9_refusalOfYears (l : Launch) (G : cG) (a0_ : Nat) (x1_ : Int32) : Ct l G yX9_refusalOfYears cX9_refusalOfYears 2 (some .int) 1 20 0 0 [.ref a0_, .int x1_] c_vi (pX9_refusalOfYears a0_ x1_) := by
  refine Ct.of (lv := [(0, .ref a0_), (1, .int x1_)]) (by decide) (Nat.le_of_ble_eq_true rfl) rfl (fun p e s m args below meth c hO hr hk hin => ?_)
  rw [pX9_refusalOfYears]
  refine sm_iload_n hO 1 dX9_refusalOfYears_0 rfl rfl ?_
  refine sm_iconst (v := 1) hO dX9_refusalOfYears_1 rfl ?_
  refine sm_icmp_lt (tgt := 11) hO dX9_refusalOfYears_2 (by decide) ?_ ?_
  · refine sm_ldc (v := (-1000000002)) hO kw_362 dX9_refusalOfYears_11 ?_
    exact sm_iret hO hr hk (Nat.le_of_ble_eq_true rfl) (Nat.le_of_ble_eq_true rfl) dX9_refusalOfYears_13
  · refine sm_iload_n hO 1 dX9_refusalOfYears_5 rfl rfl ?_
    refine sm_bipush (v := 60) hO dX9_refusalOfYears_6 rfl ?_
    refine sm_icmp_le (tgt := 14) hO dX9_refusalOfYears_8 (by decide) ?_ ?_
    · refine sm_aload_n hO 0 dX9_refusalOfYears_14 rfl rfl ?_
      refine sm_cvi hO (ctX9_hasCongress l G a0_) cw_RX9_141 cv_X9_hasCongress [] rfl rfl ⟨(Nat.le_of_ble_eq_true rfl), (Nat.le_of_ble_eq_true rfl)⟩ ⟨(Nat.le_of_ble_eq_true rfl), (Nat.le_of_ble_eq_true rfl)⟩ (Nat.le_of_ble_eq_true rfl) dX9_refusalOfYears_15 (fun x1 => ?_)
      refine sm_if_ne (tgt := 24) hO dX9_refusalOfYears_18 (by decide) ?_ ?_
      · refine sm_aload_n hO 0 dX9_refusalOfYears_24 rfl rfl ?_
        refine sm_gr hO fl_RX9_19 dX9_refusalOfYears_25 (fun a2 => ?_)
        refine sm_gi hO fl_RX9_112 dX9_refusalOfYears_28 (fun x3 => ?_)
        refine sm_sipush (v := 9000) hO dX9_refusalOfYears_31 rfl ?_
        refine sm_icmp_le (tgt := 42) hO dX9_refusalOfYears_34 (by decide) ?_ ?_
        · refine sm_iconst (v := 0) hO dX9_refusalOfYears_42 rfl ?_
          exact sm_iret hO hr hk (Nat.le_of_ble_eq_true rfl) (Nat.le_of_ble_eq_true rfl) dX9_refusalOfYears_43
        · refine sm_ldc (v := (-1000000004)) hO kw_363 dX9_refusalOfYears_37 ?_
          refine sm_goto (tgt := 43) hO dX9_refusalOfYears_39 (by decide) ?_
          exact sm_iret hO hr hk (Nat.le_of_ble_eq_true rfl) (Nat.le_of_ble_eq_true rfl) dX9_refusalOfYears_43
      · refine sm_ldc (v := (-1000000003)) hO kw_536 dX9_refusalOfYears_21 ?_
        exact sm_iret hO hr hk (Nat.le_of_ble_eq_true rfl) (Nat.le_of_ble_eq_true rfl) dX9_refusalOfYears_23
    · refine sm_ldc (v := (-1000000002)) hO kw_362 dX9_refusalOfYears_11 ?_
      exact sm_iret hO hr hk (Nat.le_of_ble_eq_true rfl) (Nat.le_of_ble_eq_true rfl) dX9_refusalOfYears_13
/-! DollCongress$Scene.warmthNext(IZII)I -/
def fX5_warmthNext_71 (k76 : Int32 → Int32 → MM Int32) (xL2 : Int32) (xS0 : Int32) : MM Int32 := k76 xL2 xS0
def fX5_warmthNext_76  (xL2 : Int32) (xL4 : Int32) : MM Int32 := m_ret (c_mn (xL2 + xL4) (99 : Int32))
def pX5_warmthNext (x0_ : Int32) (x1_ : Int32) (x2_ : Int32) (x3_ : Int32) : MM Int32 := if x1_ = 0 then (m_ret (c_mx (x2_ - 1) (0 : Int32))) else (if x0_ = 0 then (fX5_warmthNext_76 x2_ 1) else (if x0_ = 1 then (fX5_warmthNext_76 x2_ 0) else (if x0_ = 2 then (fX5_warmthNext_76 x2_ 3) else (if x0_ = 3 then (m_nz (2 : Int32) (if (x3_ - x3_ / 2 * 2) = 0 then (fX5_warmthNext_71 fX5_warmthNext_76 x2_ 2) else (fX5_warmthNext_71 fX5_warmthNext_76 x2_ 0))) else (fX5_warmthNext_76 x2_ 0)))))
set_option maxRecDepth 100000 in
set_option maxHeartbeats 4000000 in
theorem tX5_warmthNext_71 {p : Program} {l : Launch} {e : Env} {s : State} {m : MethodId} {args : Array Value} {below : List Frame} {meth : Method} {c : Code} {G : cG} (hO : c_Ok p s m c cX5_warmthNext 5 RX5 G) (hr : meth.sig.returnType = (some .int)) (hk : meth.locks = false) (k76 : Int32 → Int32 → MM Int32) (hk76 : ∀ (xL2 : Int32) (xL4 : Int32), Sm p l e { frames := 1, cells := 0, slots := 0, locals := 13 } s m args below meth c G 5 (c_Q G c_vi below args s 0 0) 0 0 76 [(2, .int xL2), (4, .int xL4)] [] (k76 xL2 xL4))  : ∀ (xL2 : Int32) (xS0 : Int32), Sm p l e { frames := 1, cells := 0, slots := 0, locals := 13 } s m args below meth c G 5 (c_Q G c_vi below args s 0 0) 0 0 71 [(2, .int xL2)] [.int xS0] (fX5_warmthNext_71 k76 xL2 xS0) := by
  intro xL2 xS0
  rw [fX5_warmthNext_71]
  refine sm_istore hO [(4, .int xS0), (2, .int xL2)] dX5_warmthNext_71 (by decide) rfl ?_
  refine sm_goto (tgt := 76) hO dX5_warmthNext_73 (by decide) ?_
  exact sm_sub [1, 0] rfl (hk76 xL2 xS0)
set_option maxRecDepth 100000 in
set_option maxHeartbeats 4000000 in
theorem tX5_warmthNext_76 {p : Program} {l : Launch} {e : Env} {s : State} {m : MethodId} {args : Array Value} {below : List Frame} {meth : Method} {c : Code} {G : cG} (hO : c_Ok p s m c cX5_warmthNext 5 RX5 G) (hr : meth.sig.returnType = (some .int)) (hk : meth.locks = false) : ∀ (xL2 : Int32) (xL4 : Int32), Sm p l e { frames := 1, cells := 0, slots := 0, locals := 13 } s m args below meth c G 5 (c_Q G c_vi below args s 0 0) 0 0 76 [(2, .int xL2), (4, .int xL4)] [] (fX5_warmthNext_76 xL2 xL4) := by
  intro xL2 xL4
  rw [fX5_warmthNext_76]
  refine sm_iload_n hO 0 dX5_warmthNext_76 rfl rfl ?_
  refine sm_iload hO 1 dX5_warmthNext_77 rfl ?_
  refine sm_iadd hO dX5_warmthNext_79 ?_
  refine sm_bipush (v := 99) hO dX5_warmthNext_80 rfl ?_
  refine sm_min hO kw_603 kw_404 kw_83 kw_405 (Nat.le_of_ble_eq_true rfl) (Nat.le_of_ble_eq_true rfl) (Nat.le_of_ble_eq_true rfl) (Nat.le_of_ble_eq_true rfl) dX5_warmthNext_82 ?_
  exact sm_iret hO hr hk (Nat.le_of_ble_eq_true rfl) (Nat.le_of_ble_eq_true rfl) dX5_warmthNext_85
set_option maxRecDepth 100000 in
set_option maxHeartbeats 4000000 in
theorem ctX5_warmthNext (l : Launch) (G : cG) (x0_ : Int32) (x1_ : Int32) (x2_ : Int32) (x3_ : Int32) : Ct l G yX5_warmthNext cX5_warmthNext 5 (some .int) 1 13 0 0 [.int x0_, .int x1_, .int x2_, .int x3_] c_vi (pX5_warmthNext x0_ x1_ x2_ x3_) := by
  refine Ct.of (lv := [(0, .int x0_), (1, .int x1_), (2, .int x2_), (3, .int x3_)]) (by decide) (Nat.le_of_ble_eq_true rfl) rfl (fun p e s m args below meth c hO hr hk hin => ?_)
  rw [pX5_warmthNext]
  refine sm_iload_n hO 1 dX5_warmthNext_0 rfl rfl ?_
  refine sm_if_ne (tgt := 12) hO dX5_warmthNext_1 (by decide) ?_ ?_
  · refine sm_iconst (v := 0) hO dX5_warmthNext_12 rfl ?_
    refine sm_istore hO [(4, .int 0), (0, .int x0_), (1, .int x1_), (2, .int x2_), (3, .int x3_)] dX5_warmthNext_13 (by decide) rfl ?_
    refine sm_iload_n hO 1 dX5_warmthNext_15 rfl rfl ?_
    refine sm_ite (fun q16_0 => ?_) (fun q16_0 => ?_)
    · refine sm_tabIn (tgt := 48) hO dX5_warmthNext_16 q16_0 (by decide) (by decide) rfl (by decide) ?_
      refine sm_iconst (v := 1) hO dX5_warmthNext_48 rfl ?_
      refine sm_istore hO [(4, .int 1), (0, .int x0_), (1, .int x1_), (2, .int x2_), (3, .int x3_)] dX5_warmthNext_49 (by decide) rfl ?_
      refine sm_goto (tgt := 76) hO dX5_warmthNext_51 (by decide) ?_
      exact sm_sub [3, 0] rfl (tX5_warmthNext_76 hO hr hk x2_ 1)
    · refine sm_ite (fun q16_1 => ?_) (fun q16_1 => ?_)
      · refine sm_tabIn (tgt := 76) hO dX5_warmthNext_16 q16_1 (by decide) (by decide) rfl (by decide) ?_
        exact sm_sub [3, 0] rfl (tX5_warmthNext_76 hO hr hk x2_ 0)
      · refine sm_ite (fun q16_2 => ?_) (fun q16_2 => ?_)
        · refine sm_tabIn (tgt := 54) hO dX5_warmthNext_16 q16_2 (by decide) (by decide) rfl (by decide) ?_
          refine sm_iconst (v := 3) hO dX5_warmthNext_54 rfl ?_
          refine sm_istore hO [(4, .int 3), (0, .int x0_), (1, .int x1_), (2, .int x2_), (3, .int x3_)] dX5_warmthNext_55 (by decide) rfl ?_
          refine sm_goto (tgt := 76) hO dX5_warmthNext_57 (by decide) ?_
          exact sm_sub [3, 0] rfl (tX5_warmthNext_76 hO hr hk x2_ 3)
        · refine sm_ite (fun q16_3 => ?_) (fun q16_3 => ?_)
          · refine sm_tabIn (tgt := 60) hO dX5_warmthNext_16 q16_3 (by decide) (by decide) rfl (by decide) ?_
            refine sm_iload_n hO 4 dX5_warmthNext_60 rfl rfl ?_
            refine sm_iconst (v := 2) hO dX5_warmthNext_61 rfl ?_
            refine sm_irem hO dX5_warmthNext_62 ?_
            refine sm_if_ne (tgt := 70) hO dX5_warmthNext_63 (by decide) ?_ ?_
            · refine sm_iconst (v := 0) hO dX5_warmthNext_70 rfl ?_
              exact sm_sub [3] rfl (tX5_warmthNext_71 hO hr hk fX5_warmthNext_76 (tX5_warmthNext_76 hO hr hk) x2_ 0)
            · refine sm_iconst (v := 2) hO dX5_warmthNext_66 rfl ?_
              refine sm_goto (tgt := 71) hO dX5_warmthNext_67 (by decide) ?_
              exact sm_sub [3] rfl (tX5_warmthNext_71 hO hr hk fX5_warmthNext_76 (tX5_warmthNext_76 hO hr hk) x2_ 2)
          · refine sm_tabOut (tgt := 76) hO dX5_warmthNext_16 (c_ne_lo (n := 4) (by decide) (fun k hk => match k, hk with | 0, _ => q16_0 | 1, _ => q16_1 | 2, _ => q16_2 | 3, _ => q16_3 | k + 4, hk => absurd hk (by omega))) (by decide) ?_
            exact sm_sub [3, 0] rfl (tX5_warmthNext_76 hO hr hk x2_ 0)
  · refine sm_iload_n hO 2 dX5_warmthNext_4 rfl rfl ?_
    refine sm_iconst (v := 1) hO dX5_warmthNext_5 rfl ?_
    refine sm_isub hO dX5_warmthNext_6 ?_
    refine sm_iconst (v := 0) hO dX5_warmthNext_7 rfl ?_
    refine sm_max hO kw_600 kw_601 kw_83 kw_602 (Nat.le_of_ble_eq_true rfl) (Nat.le_of_ble_eq_true rfl) (Nat.le_of_ble_eq_true rfl) (Nat.le_of_ble_eq_true rfl) dX5_warmthNext_8 ?_
    exact sm_iret hO hr hk (Nat.le_of_ble_eq_true rfl) (Nat.le_of_ble_eq_true rfl) dX5_warmthNext_11
/-! DollCongress$Scene.passYear(LDollCongress$Roll;)V -/
def fX5_passYear_73 (k74 : Nat → Nat → Int32 → Int32 → MM Unit) (aL0 : Nat) (aL1 : Nat) (xL2 : Int32) : MM Unit := k74 aL0 aL1 xL2 0
def fX5_passYear_100 (k2 : Nat → Nat → Int32 → MM Unit) (aL0 : Nat) (aL1 : Nat) (xL2 : Int32) : MM Unit := m_let (xL2 + 1) (fun x1 => k2 aL0 aL1 x1)
def fX5_passYear_74 (k2 : Nat → Nat → Int32 → MM Unit) (aL0 : Nat) (aL1 : Nat) (xL2 : Int32) (xS0 : Int32) : MM Unit := if xS0 = 0 then (fX5_passYear_100 k2 aL0 aL1 xL2) else (m_gr aL0 5 3 (fun a1 => m_li 0 a1 xL2 (fun x2 => if (999999 : Int32) ≤ x2 then (fX5_passYear_100 k2 aL0 aL1 xL2) else (m_gr aL0 5 3 (fun a3 => m_li 0 a3 xL2 (fun x4 => m_si a3 xL2 (x4 + 1) (fX5_passYear_100 k2 aL0 aL1 xL2)))))))
def fX5_passYear_2 (k106 : Nat → MM Unit) : Nat → Nat → Nat → Int32 → MM Unit
  | 0, _, _, _ => m_bad
  | n + 1, aL0, aL1, xL2 => m_gi aL1 4 6 (fun x1 => if x1 ≤ xL2 then (k106 aL0) else (m_gr aL0 5 2 (fun a2 => m_gr aL1 4 1 (fun a3 => m_li 0 a3 xL2 (fun x4 => m_cv aL0 5 (pX5_isUp aL0 xL2) (fun x5 => m_gr aL0 5 2 (fun a6 => m_li 0 a6 xL2 (fun x7 => m_gi aL0 5 5 (fun x8 => m_bind (pX5_warmthNext x4 x5 x7 x8) (fun x9 => m_si a2 xL2 x9 (m_gr aL1 4 1 (fun a10 => m_li 0 a10 xL2 (fun x11 => if x11 = (2 : Int32) then (m_cv aL0 5 (pX5_isUp aL0 xL2) (fun x12 => if x12 = 0 then (fX5_passYear_73 (fX5_passYear_74 (fX5_passYear_2 k106 n)) aL0 aL1 xL2) else (m_gr aL0 5 2 (fun a13 => m_li 0 a13 xL2 (fun x14 => if x14 < (20 : Int32) then (fX5_passYear_73 (fX5_passYear_74 (fX5_passYear_2 k106 n)) aL0 aL1 xL2) else (fX5_passYear_74 (fX5_passYear_2 k106 n) aL0 aL1 xL2 1)))))) else (fX5_passYear_73 (fX5_passYear_74 (fX5_passYear_2 k106 n)) aL0 aL1 xL2))))))))))))))
def fX5_passYear_106  (aL0 : Nat) : MM Unit := m_gi aL0 5 5 (fun x1 => m_pv aL0 5 5 (.int (x1 + 1)) (m_ret ()))
def pX5_passYear (a0_ : Nat) (a1_ : Nat) : MM Unit := fX5_passYear_2 fX5_passYear_106 c_fu a0_ a1_ 0
set_option maxRecDepth 100000 in
set_option maxHeartbeats 4000000 in
theorem tX5_passYear_73 {p : Program} {l : Launch} {e : Env} {s : State} {m : MethodId} {args : Array Value} {below : List Frame} {meth : Method} {c : Code} {G : cG} (hO : c_Ok p s m c cX5_passYear 4 RX5 G) (hr : meth.sig.returnType = none) (hk : meth.locks = false) (k74 : Nat → Nat → Int32 → Int32 → MM Unit) (hk74 : ∀ (aL0 : Nat) (aL1 : Nat) (xL2 : Int32) (xS0 : Int32), Sm p l e { frames := 2, cells := 0, slots := 0, locals := 37 } s m args below meth c G 4 (c_Q G c_vv below args s 0 0) 0 0 74 [(0, .ref aL0), (1, .ref aL1), (2, .int xL2)] [.int xS0] (k74 aL0 aL1 xL2 xS0))  : ∀ (aL0 : Nat) (aL1 : Nat) (xL2 : Int32), Sm p l e { frames := 2, cells := 0, slots := 0, locals := 37 } s m args below meth c G 4 (c_Q G c_vv below args s 0 0) 0 0 73 [(0, .ref aL0), (1, .ref aL1), (2, .int xL2)] [] (fX5_passYear_73 k74 aL0 aL1 xL2) := by
  intro aL0 aL1 xL2
  rw [fX5_passYear_73]
  refine sm_iconst (v := 0) hO dX5_passYear_73 rfl ?_
  exact sm_sub [0, 1, 2] rfl (hk74 aL0 aL1 xL2 0)
set_option maxRecDepth 100000 in
set_option maxHeartbeats 4000000 in
theorem tX5_passYear_100 {p : Program} {l : Launch} {e : Env} {s : State} {m : MethodId} {args : Array Value} {below : List Frame} {meth : Method} {c : Code} {G : cG} (hO : c_Ok p s m c cX5_passYear 4 RX5 G) (hr : meth.sig.returnType = none) (hk : meth.locks = false) (k2 : Nat → Nat → Int32 → MM Unit) (hk2 : ∀ (aL0 : Nat) (aL1 : Nat) (xL2 : Int32), Sm p l e { frames := 2, cells := 0, slots := 0, locals := 37 } s m args below meth c G 4 (c_Q G c_vv below args s 0 0) 0 0 2 [(0, .ref aL0), (1, .ref aL1), (2, .int xL2)] [] (k2 aL0 aL1 xL2))  : ∀ (aL0 : Nat) (aL1 : Nat) (xL2 : Int32), Sm p l e { frames := 2, cells := 0, slots := 0, locals := 37 } s m args below meth c G 4 (c_Q G c_vv below args s 0 0) 0 0 100 [(0, .ref aL0), (1, .ref aL1), (2, .int xL2)] [] (fX5_passYear_100 k2 aL0 aL1 xL2) := by
  intro aL0 aL1 xL2
  rw [fX5_passYear_100]
  refine sm_iincL (v := xL2 + 1) hO 2 (fun x1 => [(2, .int x1), (0, .ref aL0), (1, .ref aL1)]) dX5_passYear_100 rfl rfl (by decide) (fun _ => rfl) (fun x1 => ?_)
  refine sm_goto (tgt := 2) hO dX5_passYear_103 (by decide) ?_
  exact sm_sub [1, 2, 0] rfl (hk2 aL0 aL1 x1)
set_option maxRecDepth 100000 in
set_option maxHeartbeats 4000000 in
theorem tX5_passYear_74 {p : Program} {l : Launch} {e : Env} {s : State} {m : MethodId} {args : Array Value} {below : List Frame} {meth : Method} {c : Code} {G : cG} (hO : c_Ok p s m c cX5_passYear 4 RX5 G) (hr : meth.sig.returnType = none) (hk : meth.locks = false) (k2 : Nat → Nat → Int32 → MM Unit) (hk2 : ∀ (aL0 : Nat) (aL1 : Nat) (xL2 : Int32), Sm p l e { frames := 2, cells := 0, slots := 0, locals := 37 } s m args below meth c G 4 (c_Q G c_vv below args s 0 0) 0 0 2 [(0, .ref aL0), (1, .ref aL1), (2, .int xL2)] [] (k2 aL0 aL1 xL2))  : ∀ (aL0 : Nat) (aL1 : Nat) (xL2 : Int32) (xS0 : Int32), Sm p l e { frames := 2, cells := 0, slots := 0, locals := 37 } s m args below meth c G 4 (c_Q G c_vv below args s 0 0) 0 0 74 [(0, .ref aL0), (1, .ref aL1), (2, .int xL2)] [.int xS0] (fX5_passYear_74 k2 aL0 aL1 xL2 xS0) := by
  intro aL0 aL1 xL2 xS0
  rw [fX5_passYear_74]
  refine sm_istore_n hO [(3, .int xS0), (0, .ref aL0), (1, .ref aL1), (2, .int xL2)] dX5_passYear_74 rfl (by decide) rfl ?_
  refine sm_iload_n hO 0 dX5_passYear_75 rfl rfl ?_
  refine sm_if_eq (tgt := 100) hO dX5_passYear_76 (by decide) ?_ ?_
  · exact sm_sub [1, 2, 3] rfl (tX5_passYear_100 hO hr hk k2 hk2 aL0 aL1 xL2)
  · refine sm_aload_n hO 1 dX5_passYear_79 rfl rfl ?_
    refine sm_gr hO fl_RX5_21 dX5_passYear_80 (fun a1 => ?_)
    refine sm_iload_n hO 3 dX5_passYear_83 rfl rfl ?_
    refine sm_li hO dX5_passYear_84 (fun x2 => ?_)
    refine sm_ldc (v := 999999) hO kw_604 dX5_passYear_85 ?_
    refine sm_icmp_ge (tgt := 100) hO dX5_passYear_87 (by decide) ?_ ?_
    · exact sm_sub [1, 2, 3] rfl (tX5_passYear_100 hO hr hk k2 hk2 aL0 aL1 xL2)
    · refine sm_aload_n hO 1 dX5_passYear_90 rfl rfl ?_
      refine sm_gr hO fl_RX5_21 dX5_passYear_91 (fun a3 => ?_)
      refine sm_iload_n hO 3 dX5_passYear_94 rfl rfl ?_
      refine sm_dup2 hO dX5_passYear_95 rfl rfl ?_
      refine sm_li hO dX5_passYear_96 (fun x4 => ?_)
      refine sm_iconst (v := 1) hO dX5_passYear_97 rfl ?_
      refine sm_iadd hO dX5_passYear_98 ?_
      refine sm_si hO dX5_passYear_99 ?_
      exact sm_sub [1, 2, 3] rfl (tX5_passYear_100 hO hr hk k2 hk2 aL0 aL1 xL2)
set_option maxRecDepth 100000 in
set_option maxHeartbeats 4000000 in
theorem tX5_passYear_2 {p : Program} {l : Launch} {e : Env} {s : State} {m : MethodId} {args : Array Value} {below : List Frame} {meth : Method} {c : Code} {G : cG} (hO : c_Ok p s m c cX5_passYear 4 RX5 G) (hr : meth.sig.returnType = none) (hk : meth.locks = false) (k106 : Nat → MM Unit) (hk106 : ∀ (aL0 : Nat), Sm p l e { frames := 2, cells := 0, slots := 0, locals := 37 } s m args below meth c G 4 (c_Q G c_vv below args s 0 0) 0 0 106 [(0, .ref aL0)] [] (k106 aL0))  : ∀ (n : Nat) (aL0 : Nat) (aL1 : Nat) (xL2 : Int32), Sm p l e { frames := 2, cells := 0, slots := 0, locals := 37 } s m args below meth c G 4 (c_Q G c_vv below args s 0 0) 0 0 2 [(0, .ref aL0), (1, .ref aL1), (2, .int xL2)] [] (fX5_passYear_2 k106 n aL0 aL1 xL2) := by
  intro n
  induction n with
  | zero =>
    intro aL0 aL1 xL2
    exact sm_bad
  | succ n ih =>
    intro aL0 aL1 xL2
    rw [fX5_passYear_2]
    refine sm_iload_n hO 2 dX5_passYear_2 rfl rfl ?_
    refine sm_aload_n hO 1 dX5_passYear_3 rfl rfl ?_
    refine sm_gi hO fl_RX5_42 dX5_passYear_4 (fun x1 => ?_)
    refine sm_icmp_ge (tgt := 106) hO dX5_passYear_7 (by decide) ?_ ?_
    · exact sm_sub [0] rfl (hk106 aL0)
    · refine sm_aload_n hO 0 dX5_passYear_10 rfl rfl ?_
      refine sm_gr hO fl_RX5_18 dX5_passYear_11 (fun a2 => ?_)
      refine sm_iload_n hO 2 dX5_passYear_14 rfl rfl ?_
      refine sm_aload_n hO 1 dX5_passYear_15 rfl rfl ?_
      refine sm_gr hO fl_RX5_70 dX5_passYear_16 (fun a3 => ?_)
      refine sm_iload_n hO 2 dX5_passYear_19 rfl rfl ?_
      refine sm_li hO dX5_passYear_20 (fun x4 => ?_)
      refine sm_aload_n hO 0 dX5_passYear_21 rfl rfl ?_
      refine sm_iload_n hO 2 dX5_passYear_22 rfl rfl ?_
      refine sm_cvi hO (ctX5_isUp l G aL0 xL2) cw_RX5_66 cv_X5_isUp [.int x4, .int xL2, .ref a2] rfl rfl ⟨(Nat.le_of_ble_eq_true rfl), (Nat.le_of_ble_eq_true rfl)⟩ ⟨(Nat.le_of_ble_eq_true rfl), (Nat.le_of_ble_eq_true rfl)⟩ (Nat.le_of_ble_eq_true rfl) dX5_passYear_23 (fun x5 => ?_)
      refine sm_aload_n hO 0 dX5_passYear_26 rfl rfl ?_
      refine sm_gr hO fl_RX5_18 dX5_passYear_27 (fun a6 => ?_)
      refine sm_iload_n hO 2 dX5_passYear_30 rfl rfl ?_
      refine sm_li hO dX5_passYear_31 (fun x7 => ?_)
      refine sm_aload_n hO 0 dX5_passYear_32 rfl rfl ?_
      refine sm_gi hO fl_RX5_49 dX5_passYear_33 (fun x8 => ?_)
      refine sm_csi hO (ctX5_warmthNext l G x4 x5 x7 x8) cw_RX5_83 kw_598 [.int xL2, .ref a2] rfl rfl ⟨(Nat.le_of_ble_eq_true rfl), (Nat.le_of_ble_eq_true rfl)⟩ ⟨(Nat.le_of_ble_eq_true rfl), (Nat.le_of_ble_eq_true rfl)⟩ (Nat.le_of_ble_eq_true rfl) dX5_passYear_36 (fun x9 => ?_)
      refine sm_si hO dX5_passYear_39 ?_
      refine sm_aload_n hO 1 dX5_passYear_40 rfl rfl ?_
      refine sm_gr hO fl_RX5_70 dX5_passYear_41 (fun a10 => ?_)
      refine sm_iload_n hO 2 dX5_passYear_44 rfl rfl ?_
      refine sm_li hO dX5_passYear_45 (fun x11 => ?_)
      refine sm_iconst (v := 2) hO dX5_passYear_46 rfl ?_
      refine sm_icmp_ne (tgt := 73) hO dX5_passYear_47 (by decide) ?_ ?_
      · exact sm_sub [0, 1, 2] rfl (tX5_passYear_73 hO hr hk (fX5_passYear_74 (fX5_passYear_2 k106 n)) (tX5_passYear_74 hO hr hk (fX5_passYear_2 k106 n) ih) aL0 aL1 xL2)
      · refine sm_aload_n hO 0 dX5_passYear_50 rfl rfl ?_
        refine sm_iload_n hO 2 dX5_passYear_51 rfl rfl ?_
        refine sm_cvi hO (ctX5_isUp l G aL0 xL2) cw_RX5_66 cv_X5_isUp [] rfl rfl ⟨(Nat.le_of_ble_eq_true rfl), (Nat.le_of_ble_eq_true rfl)⟩ ⟨(Nat.le_of_ble_eq_true rfl), (Nat.le_of_ble_eq_true rfl)⟩ (Nat.le_of_ble_eq_true rfl) dX5_passYear_52 (fun x12 => ?_)
        refine sm_if_eq (tgt := 73) hO dX5_passYear_55 (by decide) ?_ ?_
        · exact sm_sub [0, 1, 2] rfl (tX5_passYear_73 hO hr hk (fX5_passYear_74 (fX5_passYear_2 k106 n)) (tX5_passYear_74 hO hr hk (fX5_passYear_2 k106 n) ih) aL0 aL1 xL2)
        · refine sm_aload_n hO 0 dX5_passYear_58 rfl rfl ?_
          refine sm_gr hO fl_RX5_18 dX5_passYear_59 (fun a13 => ?_)
          refine sm_iload_n hO 2 dX5_passYear_62 rfl rfl ?_
          refine sm_li hO dX5_passYear_63 (fun x14 => ?_)
          refine sm_bipush (v := 20) hO dX5_passYear_64 rfl ?_
          refine sm_icmp_lt (tgt := 73) hO dX5_passYear_66 (by decide) ?_ ?_
          · exact sm_sub [0, 1, 2] rfl (tX5_passYear_73 hO hr hk (fX5_passYear_74 (fX5_passYear_2 k106 n)) (tX5_passYear_74 hO hr hk (fX5_passYear_2 k106 n) ih) aL0 aL1 xL2)
          · refine sm_iconst (v := 1) hO dX5_passYear_69 rfl ?_
            refine sm_goto (tgt := 74) hO dX5_passYear_70 (by decide) ?_
            exact sm_sub [0, 1, 2] rfl (tX5_passYear_74 hO hr hk (fX5_passYear_2 k106 n) ih aL0 aL1 xL2 1)
set_option maxRecDepth 100000 in
set_option maxHeartbeats 4000000 in
theorem tX5_passYear_106 {p : Program} {l : Launch} {e : Env} {s : State} {m : MethodId} {args : Array Value} {below : List Frame} {meth : Method} {c : Code} {G : cG} (hO : c_Ok p s m c cX5_passYear 4 RX5 G) (hr : meth.sig.returnType = none) (hk : meth.locks = false) : ∀ (aL0 : Nat), Sm p l e { frames := 2, cells := 0, slots := 0, locals := 37 } s m args below meth c G 4 (c_Q G c_vv below args s 0 0) 0 0 106 [(0, .ref aL0)] [] (fX5_passYear_106 aL0) := by
  intro aL0
  rw [fX5_passYear_106]
  refine sm_aload_n hO 0 dX5_passYear_106 rfl rfl ?_
  refine sm_dup hO dX5_passYear_107 rfl ?_
  refine sm_gi hO fl_RX5_49 dX5_passYear_108 (fun x1 => ?_)
  refine sm_iconst (v := 1) hO dX5_passYear_111 rfl ?_
  refine sm_iadd hO dX5_passYear_112 ?_
  refine sm_pv hO fl_RX5_49 fp_5_5 rfl rfl dX5_passYear_113 ?_
  exact sm_vret hO hr hk (Nat.le_of_ble_eq_true rfl) (Nat.le_of_ble_eq_true rfl) dX5_passYear_116
set_option maxRecDepth 100000 in
set_option maxHeartbeats 4000000 in
theorem ctX5_passYear (l : Launch) (G : cG) (a0_ : Nat) (a1_ : Nat) : Ct l G yX5_passYear cX5_passYear 4 none 2 37 0 0 [.ref a0_, .ref a1_] c_vv (pX5_passYear a0_ a1_) := by
  refine Ct.of (lv := [(0, .ref a0_), (1, .ref a1_)]) (by decide) (Nat.le_of_ble_eq_true rfl) rfl (fun p e s m args below meth c hO hr hk hin => ?_)
  rw [pX5_passYear]
  refine sm_iconst (v := 0) hO dX5_passYear_0 rfl ?_
  refine sm_istore_n hO [(2, .int 0), (0, .ref a0_), (1, .ref a1_)] dX5_passYear_1 rfl (by decide) rfl ?_
  exact sm_sub [1, 2, 0] rfl (tX5_passYear_2 hO hr hk fX5_passYear_106 (tX5_passYear_106 hO hr hk) c_fu a0_ a1_ 0)
/-! DollCongress.year(I)I -/
def fX9_year_25 (k47 : Nat → MM Int32) : Nat → Nat → Int32 → Int32 → MM Int32
  | 0, _, _, _ => m_bad
  | n + 1, aL0, xL1, xL3 => if xL1 ≤ xL3 then (k47 aL0) else (m_gr aL0 8 1 (fun a1 => m_gr aL0 8 7 (fun a2 => m_cv a1 5 (pX5_passYear a1 a2) (fun _ => m_let (xL3 + 1) (fun x3 => fX9_year_25 k47 n aL0 xL1 x3)))))
def fX9_year_47  (aL0 : Nat) : MM Int32 := m_gr aL0 8 1 (fun a1 => m_gi a1 5 5 (fun x2 => m_ret x2))
def pX9_year (a0_ : Nat) (x1_ : Int32) : MM Int32 := m_cv a0_ 8 (pX9_refusalOfYears a0_ x1_) (fun x1 => if x1 = 0 then (m_gr a0_ 8 2 (fun a2 => m_gr a0_ 8 1 (fun a3 => m_cv a2 3 (pX3_remember a2 a3) (fun _ => fX9_year_25 fX9_year_47 c_fu a0_ x1_ 0)))) else (m_ret x1))
set_option maxRecDepth 100000 in
set_option maxHeartbeats 4000000 in
theorem tX9_year_25 {p : Program} {l : Launch} {e : Env} {s : State} {m : MethodId} {args : Array Value} {below : List Frame} {meth : Method} {c : Code} {G : cG} (hO : c_Ok p s m c cX9_year 4 RX9 G) (hr : meth.sig.returnType = (some .int)) (hk : meth.locks = false) (k47 : Nat → MM Int32) (hk47 : ∀ (aL0 : Nat), Sm p l e { frames := 3, cells := 0, slots := 0, locals := 82 } s m args below meth c G 4 (c_Q G c_vi below args s 0 0) 0 0 47 [(0, .ref aL0)] [] (k47 aL0))  : ∀ (n : Nat) (aL0 : Nat) (xL1 : Int32) (xL3 : Int32), Sm p l e { frames := 3, cells := 0, slots := 0, locals := 82 } s m args below meth c G 4 (c_Q G c_vi below args s 0 0) 0 0 25 [(0, .ref aL0), (1, .int xL1), (3, .int xL3)] [] (fX9_year_25 k47 n aL0 xL1 xL3) := by
  intro n
  induction n with
  | zero =>
    intro aL0 xL1 xL3
    exact sm_bad
  | succ n ih =>
    intro aL0 xL1 xL3
    rw [fX9_year_25]
    refine sm_iload_n hO 2 dX9_year_25 rfl rfl ?_
    refine sm_iload_n hO 1 dX9_year_26 rfl rfl ?_
    refine sm_icmp_ge (tgt := 47) hO dX9_year_27 (by decide) ?_ ?_
    · exact sm_sub [0] rfl (hk47 aL0)
    · refine sm_aload_n hO 0 dX9_year_30 rfl rfl ?_
      refine sm_gr hO fl_RX9_19 dX9_year_31 (fun a1 => ?_)
      refine sm_aload_n hO 0 dX9_year_34 rfl rfl ?_
      refine sm_gr hO fl_RX9_60 dX9_year_35 (fun a2 => ?_)
      refine sm_cvv hO (ctX5_passYear l G a1 a2) cw_RX9_218 cv_X5_passYear [] rfl rfl ⟨(Nat.le_of_ble_eq_true rfl), (Nat.le_of_ble_eq_true rfl)⟩ ⟨(Nat.le_of_ble_eq_true rfl), (Nat.le_of_ble_eq_true rfl)⟩ (Nat.le_of_ble_eq_true rfl) dX9_year_38 (fun _ => ?_)
      refine sm_iincL (v := xL3 + 1) hO 2 (fun x3 => [(3, .int x3), (0, .ref aL0), (1, .int xL1)]) dX9_year_41 rfl rfl (by decide) (fun _ => rfl) (fun x3 => ?_)
      refine sm_goto (tgt := 25) hO dX9_year_44 (by decide) ?_
      exact sm_sub [1, 2, 0] rfl (ih aL0 xL1 x3)
set_option maxRecDepth 100000 in
set_option maxHeartbeats 4000000 in
theorem tX9_year_47 {p : Program} {l : Launch} {e : Env} {s : State} {m : MethodId} {args : Array Value} {below : List Frame} {meth : Method} {c : Code} {G : cG} (hO : c_Ok p s m c cX9_year 4 RX9 G) (hr : meth.sig.returnType = (some .int)) (hk : meth.locks = false) : ∀ (aL0 : Nat), Sm p l e { frames := 3, cells := 0, slots := 0, locals := 82 } s m args below meth c G 4 (c_Q G c_vi below args s 0 0) 0 0 47 [(0, .ref aL0)] [] (fX9_year_47 aL0) := by
  intro aL0
  rw [fX9_year_47]
  refine sm_aload_n hO 0 dX9_year_47 rfl rfl ?_
  refine sm_gr hO fl_RX9_19 dX9_year_48 (fun a1 => ?_)
  refine sm_gi hO fl_RX9_112 dX9_year_51 (fun x2 => ?_)
  exact sm_iret hO hr hk (Nat.le_of_ble_eq_true rfl) (Nat.le_of_ble_eq_true rfl) dX9_year_54
set_option maxRecDepth 100000 in
set_option maxHeartbeats 4000000 in
theorem ctX9_year (l : Launch) (G : cG) (a0_ : Nat) (x1_ : Int32) : Ct l G yX9_year cX9_year 4 (some .int) 3 82 0 0 [.ref a0_, .int x1_] c_vi (pX9_year a0_ x1_) := by
  refine Ct.of (lv := [(0, .ref a0_), (1, .int x1_)]) (by decide) (Nat.le_of_ble_eq_true rfl) rfl (fun p e s m args below meth c hO hr hk hin => ?_)
  rw [pX9_year]
  refine sm_aload_n hO 0 dX9_year_0 rfl rfl ?_
  refine sm_iload_n hO 1 dX9_year_1 rfl rfl ?_
  refine sm_cvi hO (ctX9_refusalOfYears l G a0_ x1_) cw_RX9_215 cv_X9_refusalOfYears [] rfl rfl ⟨(Nat.le_of_ble_eq_true rfl), (Nat.le_of_ble_eq_true rfl)⟩ ⟨(Nat.le_of_ble_eq_true rfl), (Nat.le_of_ble_eq_true rfl)⟩ (Nat.le_of_ble_eq_true rfl) dX9_year_2 (fun x1 => ?_)
  refine sm_istore_n hO [(2, .int x1), (0, .ref a0_), (1, .int x1_)] dX9_year_5 rfl (by decide) rfl ?_
  refine sm_iload_n hO 0 dX9_year_6 rfl rfl ?_
  refine sm_if_eq (tgt := 12) hO dX9_year_7 (by decide) ?_ ?_
  · refine sm_aload_n hO 1 dX9_year_12 rfl rfl ?_
    refine sm_gr hO fl_RX9_26 dX9_year_13 (fun a2 => ?_)
    refine sm_aload_n hO 1 dX9_year_16 rfl rfl ?_
    refine sm_gr hO fl_RX9_19 dX9_year_17 (fun a3 => ?_)
    refine sm_cvv hO (ctX3_remember l G a2 a3) cw_RX9_194 cv_X3_remember [] rfl rfl ⟨(Nat.le_of_ble_eq_true rfl), (Nat.le_of_ble_eq_true rfl)⟩ ⟨(Nat.le_of_ble_eq_true rfl), (Nat.le_of_ble_eq_true rfl)⟩ (Nat.le_of_ble_eq_true rfl) dX9_year_20 (fun _ => ?_)
    refine sm_iconst (v := 0) hO dX9_year_23 rfl ?_
    refine sm_istore_n hO [(3, .int 0), (2, .int x1), (0, .ref a0_), (1, .int x1_)] dX9_year_24 rfl (by decide) rfl ?_
    exact sm_sub [2, 3, 0] rfl (tX9_year_25 hO hr hk fX9_year_47 (tX9_year_47 hO hr hk) c_fu a0_ x1_ 0)
  · refine sm_iload_n hO 0 dX9_year_10 rfl rfl ?_
    exact sm_iret hO hr hk (Nat.le_of_ble_eq_true rfl) (Nat.le_of_ble_eq_true rfl) dX9_year_11
/-! DollCongressModel.yearsRefused(I)I -/
def pX10_yearsRefused (a0_ : Nat) (x1_ : Int32) : MM Int32 := m_bind (pX10_in (x1_.toInt64) 1 60) (fun x1 => if x1 = 0 then (m_ret ((-1000000002) : Int32)) else (m_gi a0_ 9 0 (fun x2 => if x2 = 0 then (m_ret ((-1000000003) : Int32)) else (m_gr a0_ 9 8 (fun a3 => m_li 0 a3 (33 : Int32) (fun x4 => if x4 ≤ (9000 : Int32) then (m_ret (0 : Int32)) else (m_ret ((-1000000004) : Int32))))))))
set_option maxRecDepth 100000 in
set_option maxHeartbeats 4000000 in
theorem ctX10_yearsRefused (l : Launch) (G : cG) (a0_ : Nat) (x1_ : Int32) : Ct l G yX10_yearsRefused cX10_yearsRefused 2 (some .int) 1 25 0 0 [.ref a0_, .int x1_] c_vi (pX10_yearsRefused a0_ x1_) := by
  refine Ct.of (lv := [(0, .ref a0_), (1, .int x1_)]) (by decide) (Nat.le_of_ble_eq_true rfl) rfl (fun p e s m args below meth c hO hr hk hin => ?_)
  rw [pX10_yearsRefused]
  refine sm_iload_n hO 1 dX10_yearsRefused_0 rfl rfl ?_
  refine sm_i2l (v := x1_.toInt64) hO dX10_yearsRefused_1 rfl ?_
  refine sm_lconst (v := 1) hO dX10_yearsRefused_2 rfl ?_
  refine sm_ldc2 (v := 60) hO kw_1116 dX10_yearsRefused_3 ?_
  refine sm_csi hO (ctX10_in l G (x1_.toInt64) 1 60) cw_RX10_75 kw_923 [] rfl rfl ⟨(Nat.le_of_ble_eq_true rfl), (Nat.le_of_ble_eq_true rfl)⟩ ⟨(Nat.le_of_ble_eq_true rfl), (Nat.le_of_ble_eq_true rfl)⟩ (Nat.le_of_ble_eq_true rfl) dX10_yearsRefused_6 (fun x1 => ?_)
  refine sm_if_ne (tgt := 15) hO dX10_yearsRefused_9 (by decide) ?_ ?_
  · refine sm_aload_n hO 0 dX10_yearsRefused_15 rfl rfl ?_
    refine sm_gi hO fl_RX10_72 dX10_yearsRefused_16 (fun x2 => ?_)
    refine sm_if_ne (tgt := 27) hO dX10_yearsRefused_19 (by decide) ?_ ?_
    · refine sm_aload_n hO 0 dX10_yearsRefused_27 rfl rfl ?_
      refine sm_gr hO fl_RX10_22 dX10_yearsRefused_28 (fun a3 => ?_)
      refine sm_bipush (v := 33) hO dX10_yearsRefused_31 rfl ?_
      refine sm_li hO dX10_yearsRefused_33 (fun x4 => ?_)
      refine sm_sipush (v := 9000) hO dX10_yearsRefused_34 rfl ?_
      refine sm_icmp_le (tgt := 45) hO dX10_yearsRefused_37 (by decide) ?_ ?_
      · refine sm_iconst (v := 0) hO dX10_yearsRefused_45 rfl ?_
        exact sm_iret hO hr hk (Nat.le_of_ble_eq_true rfl) (Nat.le_of_ble_eq_true rfl) dX10_yearsRefused_46
      · refine sm_ldc (v := (-1000000004)) hO kw_926 dX10_yearsRefused_40 ?_
        refine sm_goto (tgt := 46) hO dX10_yearsRefused_42 (by decide) ?_
        exact sm_iret hO hr hk (Nat.le_of_ble_eq_true rfl) (Nat.le_of_ble_eq_true rfl) dX10_yearsRefused_46
    · refine sm_ldc (v := (-1000000003)) hO kw_1070 dX10_yearsRefused_22 ?_
      refine sm_goto (tgt := 46) hO dX10_yearsRefused_24 (by decide) ?_
      exact sm_iret hO hr hk (Nat.le_of_ble_eq_true rfl) (Nat.le_of_ble_eq_true rfl) dX10_yearsRefused_46
  · refine sm_ldc (v := (-1000000002)) hO kw_925 dX10_yearsRefused_12 ?_
    exact sm_iret hO hr hk (Nat.le_of_ble_eq_true rfl) (Nat.le_of_ble_eq_true rfl) dX10_yearsRefused_14
