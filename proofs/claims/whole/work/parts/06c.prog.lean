/-! DollCongress$Past.forget()V -/
def pX3_forget (a0_ : Nat) : MM Unit := m_pv a0_ 3 2 (.int 0) (m_ret ())
set_option maxRecDepth 100000 in
set_option maxHeartbeats 4000000 in
theorem ctX3_forget (l : Launch) (G : cG) (a0_ : Nat) : Ct l G yX3_forget cX3_forget 1 none 0 0 0 0 [.ref a0_] c_vv (pX3_forget a0_) := by
  refine Ct.of (lv := [(0, .ref a0_)]) (by decide) (Nat.le_of_ble_eq_true rfl) rfl (fun p e s m args below meth c hO hr hk hin => ?_)
  rw [pX3_forget]
  refine sm_aload_n hO 0 dX3_forget_0 rfl rfl ?_
  refine sm_iconst (v := 0) hO dX3_forget_1 rfl ?_
  refine sm_pv hO fl_RX3_18 fp_3_2 rfl rfl dX3_forget_2 ?_
  exact sm_vret hO hr hk (Nat.le_of_ble_eq_true rfl) (Nat.le_of_ble_eq_true rfl) dX3_forget_5
/-! DollCongress.congress()I -/
def fX9_congress_71 (k92 : Nat → MM Int32) : Nat → Nat → Int32 → MM Int32
  | 0, _, _ => m_bad
  | n + 1, aL0, xL2 => if (2 : Int32) ≤ xL2 then (k92 aL0) else (m_gr aL0 8 4 (fun a1 => m_lr 2 a1 xL2 (fun a2 => m_pv a2 1 2 (.int 0) (m_let (xL2 + 1) (fun x3 => fX9_congress_71 k92 n aL0 x3)))))
def fX9_congress_92  (aL0 : Nat) : MM Int32 := m_gr aL0 8 7 (fun a1 => m_gi a1 4 6 (fun x2 => m_ret x2))
def pX9_congress (a0_ : Nat) : MM Int32 := m_gr a0_ 8 0 (fun a1 => m_gr a0_ 8 8 (fun a2 => m_cv a1 6 (pX7_readInto a1 a2) (fun x3 => if x3 = 0 then (m_gr a0_ 8 0 (fun a10 => m_gi a10 6 2 (fun x11 => m_ret (((-10) : Int32) - x11)))) else (m_gr a0_ 8 7 (fun a4 => m_gr a0_ 8 8 (fun a5 => m_pv a0_ 8 7 (.ref a5) (m_pv a0_ 8 8 (.ref a4) (m_gr a0_ 8 1 (fun a6 => m_gr a0_ 8 7 (fun a7 => m_cv a6 5 (pX5_begin a6 a7) (fun _ => m_gr a0_ 8 2 (fun a8 => m_cv a8 3 (pX3_forget a8) (fun _ => m_gr a0_ 8 3 (fun a9 => m_pv a9 0 2 (.int 0) (fX9_congress_71 fX9_congress_92 c_fu a0_ 0)))))))))))))))
set_option maxRecDepth 100000 in
set_option maxHeartbeats 4000000 in
theorem tX9_congress_71 {p : Program} {l : Launch} {e : Env} {s : State} {m : MethodId} {args : Array Value} {below : List Frame} {meth : Method} {c : Code} {G : cG} (hO : c_Ok p s m c cX9_congress 3 RX9 G) (hr : meth.sig.returnType = (some .int)) (hk : meth.locks = false) (k92 : Nat → MM Int32) (hk92 : ∀ (aL0 : Nat), Sm p l e { frames := 6, cells := 0, slots := 0, locals := 132 } s m args below meth c G 3 (c_Q G c_vi below args s 0 0) 0 0 92 [(0, .ref aL0)] [] (k92 aL0))  : ∀ (n : Nat) (aL0 : Nat) (xL2 : Int32), Sm p l e { frames := 6, cells := 0, slots := 0, locals := 132 } s m args below meth c G 3 (c_Q G c_vi below args s 0 0) 0 0 71 [(0, .ref aL0), (2, .int xL2)] [] (fX9_congress_71 k92 n aL0 xL2) := by
  intro n
  induction n with
  | zero =>
    intro aL0 xL2
    exact sm_bad
  | succ n ih =>
    intro aL0 xL2
    rw [fX9_congress_71]
    refine sm_iload_n hO 1 dX9_congress_71 rfl rfl ?_
    refine sm_iconst (v := 2) hO dX9_congress_72 rfl ?_
    refine sm_icmp_ge (tgt := 92) hO dX9_congress_73 (by decide) ?_ ?_
    · exact sm_sub [0] rfl (hk92 aL0)
    · refine sm_aload_n hO 0 dX9_congress_76 rfl rfl ?_
      refine sm_gr hO fl_RX9_39 dX9_congress_77 (fun a1 => ?_)
      refine sm_iload_n hO 1 dX9_congress_80 rfl rfl ?_
      refine sm_lr hO rfl dX9_congress_81 (by decide) (fun a2 => ?_)
      refine sm_iconst (v := 0) hO dX9_congress_82 rfl ?_
      refine sm_pv hO fl_RX9_93 fp_1_2 rfl rfl dX9_congress_83 ?_
      refine sm_iincL (v := xL2 + 1) hO 1 (fun x3 => [(2, .int x3), (0, .ref aL0)]) dX9_congress_86 rfl rfl (by decide) (fun _ => rfl) (fun x3 => ?_)
      refine sm_goto (tgt := 71) hO dX9_congress_89 (by decide) ?_
      exact sm_sub [1, 0] rfl (ih aL0 x3)
set_option maxRecDepth 100000 in
set_option maxHeartbeats 4000000 in
theorem tX9_congress_92 {p : Program} {l : Launch} {e : Env} {s : State} {m : MethodId} {args : Array Value} {below : List Frame} {meth : Method} {c : Code} {G : cG} (hO : c_Ok p s m c cX9_congress 3 RX9 G) (hr : meth.sig.returnType = (some .int)) (hk : meth.locks = false) : ∀ (aL0 : Nat), Sm p l e { frames := 6, cells := 0, slots := 0, locals := 132 } s m args below meth c G 3 (c_Q G c_vi below args s 0 0) 0 0 92 [(0, .ref aL0)] [] (fX9_congress_92 aL0) := by
  intro aL0
  rw [fX9_congress_92]
  refine sm_aload_n hO 0 dX9_congress_92 rfl rfl ?_
  refine sm_gr hO fl_RX9_60 dX9_congress_93 (fun a1 => ?_)
  refine sm_gi hO fl_RX9_97 dX9_congress_96 (fun x2 => ?_)
  exact sm_iret hO hr hk (Nat.le_of_ble_eq_true rfl) (Nat.le_of_ble_eq_true rfl) dX9_congress_99
set_option maxRecDepth 100000 in
set_option maxHeartbeats 4000000 in
theorem ctX9_congress (l : Launch) (G : cG) (a0_ : Nat) : Ct l G yX9_congress cX9_congress 3 (some .int) 6 132 0 0 [.ref a0_] c_vi (pX9_congress a0_) := by
  refine Ct.of (lv := [(0, .ref a0_)]) (by decide) (Nat.le_of_ble_eq_true rfl) rfl (fun p e s m args below meth c hO hr hk hin => ?_)
  rw [pX9_congress]
  refine sm_aload_n hO 0 dX9_congress_0 rfl rfl ?_
  refine sm_gr hO fl_RX9_10 dX9_congress_1 (fun a1 => ?_)
  refine sm_aload_n hO 0 dX9_congress_4 rfl rfl ?_
  refine sm_gr hO fl_RX9_64 dX9_congress_5 (fun a2 => ?_)
  refine sm_cvi hO (ctX7_readInto l G a1 a2) cw_RX9_78 cv_X7_readInto [] rfl rfl ⟨(Nat.le_of_ble_eq_true rfl), (Nat.le_of_ble_eq_true rfl)⟩ ⟨(Nat.le_of_ble_eq_true rfl), (Nat.le_of_ble_eq_true rfl)⟩ (Nat.le_of_ble_eq_true rfl) dX9_congress_8 (fun x3 => ?_)
  refine sm_if_ne (tgt := 25) hO dX9_congress_11 (by decide) ?_ ?_
  · refine sm_aload_n hO 0 dX9_congress_25 rfl rfl ?_
    refine sm_gr hO fl_RX9_60 dX9_congress_26 (fun a4 => ?_)
    refine sm_astore_n hO [(1, .ref a4), (0, .ref a0_)] dX9_congress_29 rfl (by decide) rfl ?_
    refine sm_aload_n hO 1 dX9_congress_30 rfl rfl ?_
    refine sm_aload_n hO 1 dX9_congress_31 rfl rfl ?_
    refine sm_gr hO fl_RX9_64 dX9_congress_32 (fun a5 => ?_)
    refine sm_pv hO fl_RX9_60 fp_8_7 rfl rfl dX9_congress_35 ?_
    refine sm_aload_n hO 1 dX9_congress_38 rfl rfl ?_
    refine sm_aload_n hO 0 dX9_congress_39 rfl rfl ?_
    refine sm_pv hO fl_RX9_64 fp_8_8 rfl rfl dX9_congress_40 ?_
    refine sm_aload_n hO 1 dX9_congress_43 rfl rfl ?_
    refine sm_gr hO fl_RX9_19 dX9_congress_44 (fun a6 => ?_)
    refine sm_aload_n hO 1 dX9_congress_47 rfl rfl ?_
    refine sm_gr hO fl_RX9_60 dX9_congress_48 (fun a7 => ?_)
    refine sm_cvv hO (ctX5_begin l G a6 a7) cw_RX9_85 cv_X5_begin [] rfl rfl ⟨(Nat.le_of_ble_eq_true rfl), (Nat.le_of_ble_eq_true rfl)⟩ ⟨(Nat.le_of_ble_eq_true rfl), (Nat.le_of_ble_eq_true rfl)⟩ (Nat.le_of_ble_eq_true rfl) dX9_congress_51 (fun _ => ?_)
    refine sm_aload_n hO 1 dX9_congress_54 rfl rfl ?_
    refine sm_gr hO fl_RX9_26 dX9_congress_55 (fun a8 => ?_)
    refine sm_cvv hO (ctX3_forget l G a8) cw_RX9_89 cv_X3_forget [] rfl rfl ⟨(Nat.le_of_ble_eq_true rfl), (Nat.le_of_ble_eq_true rfl)⟩ ⟨(Nat.le_of_ble_eq_true rfl), (Nat.le_of_ble_eq_true rfl)⟩ (Nat.le_of_ble_eq_true rfl) dX9_congress_58 (fun _ => ?_)
    refine sm_aload_n hO 1 dX9_congress_61 rfl rfl ?_
    refine sm_gr hO fl_RX9_33 dX9_congress_62 (fun a9 => ?_)
    refine sm_iconst (v := 0) hO dX9_congress_65 rfl ?_
    refine sm_pv hO fl_RX9_92 fp_0_2 rfl rfl dX9_congress_66 ?_
    refine sm_iconst (v := 0) hO dX9_congress_69 rfl ?_
    refine sm_istore_n hO [(2, .int 0), (1, .ref a4), (0, .ref a0_)] dX9_congress_70 rfl (by decide) rfl ?_
    exact sm_sub [2, 0] rfl (tX9_congress_71 hO hr hk fX9_congress_92 (tX9_congress_92 hO hr hk) c_fu a0_ 0)
  · refine sm_bipush (v := (-10)) hO dX9_congress_14 rfl ?_
    refine sm_aload_n hO 0 dX9_congress_16 rfl rfl ?_
    refine sm_gr hO fl_RX9_10 dX9_congress_17 (fun a10 => ?_)
    refine sm_gi hO fl_RX9_82 dX9_congress_20 (fun x11 => ?_)
    refine sm_isub hO dX9_congress_23 ?_
    exact sm_iret hO hr hk (Nat.le_of_ble_eq_true rfl) (Nat.le_of_ble_eq_true rfl) dX9_congress_24
/-! DollCongressModel.here()I -/
def fX10_here_0 (k38 : Nat → MM Int32) : Nat → Nat → MM Int32
  | 0, _ => m_bad
  | n + 1, aL0 => m_gi aL0 9 13 (fun x1 => m_gi aL0 9 11 (fun x2 => if x2 ≤ x1 then (k38 aL0) else (m_gr aL0 9 10 (fun a3 => m_gi aL0 9 13 (fun x4 => m_li 0 a3 x4 (fun x5 => if x5 = (32 : Int32) then (m_gi aL0 9 13 (fun x6 => m_pv aL0 9 13 (.int (x6 + 1)) (fX10_here_0 k38 n aL0))) else (k38 aL0)))))))
def fX10_here_38  (aL0 : Nat) : MM Int32 := m_gi aL0 9 13 (fun x1 => m_gi aL0 9 11 (fun x2 => if x2 ≤ x1 then (m_ret ((-1) : Int32)) else (m_gr aL0 9 10 (fun a3 => m_gi aL0 9 13 (fun x4 => m_li 0 a3 x4 (fun x5 => m_ret x5))))))
def pX10_here (a0_ : Nat) : MM Int32 := fX10_here_0 fX10_here_38 c_fu a0_
set_option maxRecDepth 100000 in
set_option maxHeartbeats 4000000 in
theorem tX10_here_0 {p : Program} {l : Launch} {e : Env} {s : State} {m : MethodId} {args : Array Value} {below : List Frame} {meth : Method} {c : Code} {G : cG} (hO : c_Ok p s m c cX10_here 1 RX10 G) (hr : meth.sig.returnType = (some .int)) (hk : meth.locks = false) (k38 : Nat → MM Int32) (hk38 : ∀ (aL0 : Nat), Sm p l e { frames := 0, cells := 0, slots := 0, locals := 0 } s m args below meth c G 1 (c_Q G c_vi below args s 0 0) 0 0 38 [(0, .ref aL0)] [] (k38 aL0))  : ∀ (n : Nat) (aL0 : Nat), Sm p l e { frames := 0, cells := 0, slots := 0, locals := 0 } s m args below meth c G 1 (c_Q G c_vi below args s 0 0) 0 0 0 [(0, .ref aL0)] [] (fX10_here_0 k38 n aL0) := by
  intro n
  induction n with
  | zero =>
    intro aL0
    exact sm_bad
  | succ n ih =>
    intro aL0
    rw [fX10_here_0]
    refine sm_aload_n hO 0 dX10_here_0 rfl rfl ?_
    refine sm_gi hO fl_RX10_89 dX10_here_1 (fun x1 => ?_)
    refine sm_aload_n hO 0 dX10_here_4 rfl rfl ?_
    refine sm_gi hO fl_RX10_85 dX10_here_5 (fun x2 => ?_)
    refine sm_icmp_ge (tgt := 38) hO dX10_here_8 (by decide) ?_ ?_
    · exact sm_sub [0] rfl (hk38 aL0)
    · refine sm_aload_n hO 0 dX10_here_11 rfl rfl ?_
      refine sm_gr hO fl_RX10_25 dX10_here_12 (fun a3 => ?_)
      refine sm_aload_n hO 0 dX10_here_15 rfl rfl ?_
      refine sm_gi hO fl_RX10_89 dX10_here_16 (fun x4 => ?_)
      refine sm_li hO dX10_here_19 (fun x5 => ?_)
      refine sm_bipush (v := 32) hO dX10_here_20 rfl ?_
      refine sm_icmp_ne (tgt := 38) hO dX10_here_22 (by decide) ?_ ?_
      · exact sm_sub [0] rfl (hk38 aL0)
      · refine sm_aload_n hO 0 dX10_here_25 rfl rfl ?_
        refine sm_dup hO dX10_here_26 rfl ?_
        refine sm_gi hO fl_RX10_89 dX10_here_27 (fun x6 => ?_)
        refine sm_iconst (v := 1) hO dX10_here_30 rfl ?_
        refine sm_iadd hO dX10_here_31 ?_
        refine sm_pv hO fl_RX10_89 fp_9_13 rfl rfl dX10_here_32 ?_
        refine sm_goto (tgt := 0) hO dX10_here_35 (by decide) ?_
        exact sm_sub [0] rfl (ih aL0)
set_option maxRecDepth 100000 in
set_option maxHeartbeats 4000000 in
theorem tX10_here_38 {p : Program} {l : Launch} {e : Env} {s : State} {m : MethodId} {args : Array Value} {below : List Frame} {meth : Method} {c : Code} {G : cG} (hO : c_Ok p s m c cX10_here 1 RX10 G) (hr : meth.sig.returnType = (some .int)) (hk : meth.locks = false) : ∀ (aL0 : Nat), Sm p l e { frames := 0, cells := 0, slots := 0, locals := 0 } s m args below meth c G 1 (c_Q G c_vi below args s 0 0) 0 0 38 [(0, .ref aL0)] [] (fX10_here_38 aL0) := by
  intro aL0
  rw [fX10_here_38]
  refine sm_aload_n hO 0 dX10_here_38 rfl rfl ?_
  refine sm_gi hO fl_RX10_89 dX10_here_39 (fun x1 => ?_)
  refine sm_aload_n hO 0 dX10_here_42 rfl rfl ?_
  refine sm_gi hO fl_RX10_85 dX10_here_43 (fun x2 => ?_)
  refine sm_icmp_ge (tgt := 61) hO dX10_here_46 (by decide) ?_ ?_
  · refine sm_iconst (v := (-1)) hO dX10_here_61 rfl ?_
    exact sm_iret hO hr hk (Nat.le_of_ble_eq_true rfl) (Nat.le_of_ble_eq_true rfl) dX10_here_62
  · refine sm_aload_n hO 0 dX10_here_49 rfl rfl ?_
    refine sm_gr hO fl_RX10_25 dX10_here_50 (fun a3 => ?_)
    refine sm_aload_n hO 0 dX10_here_53 rfl rfl ?_
    refine sm_gi hO fl_RX10_89 dX10_here_54 (fun x4 => ?_)
    refine sm_li hO dX10_here_57 (fun x5 => ?_)
    refine sm_goto (tgt := 62) hO dX10_here_58 (by decide) ?_
    exact sm_iret hO hr hk (Nat.le_of_ble_eq_true rfl) (Nat.le_of_ble_eq_true rfl) dX10_here_62
set_option maxRecDepth 100000 in
set_option maxHeartbeats 4000000 in
theorem ctX10_here (l : Launch) (G : cG) (a0_ : Nat) : Ct l G yX10_here cX10_here 1 (some .int) 0 0 0 0 [.ref a0_] c_vi (pX10_here a0_) := by
  refine Ct.of (lv := [(0, .ref a0_)]) (by decide) (Nat.le_of_ble_eq_true rfl) rfl (fun p e s m args below meth c hO hr hk hin => ?_)
  rw [pX10_here]
  exact sm_sub [0] rfl (tX10_here_0 hO hr hk fX10_here_38 (tX10_here_38 hO hr hk) c_fu a0_)
/-! DollCongressModel.fails(II)I -/
def pX10_fails (a0_ : Nat) (x1_ : Int32) (x2_ : Int32) : MM Int32 := m_pv a0_ 9 12 (.int x2_) (m_ret x1_)
set_option maxRecDepth 100000 in
set_option maxHeartbeats 4000000 in
theorem ctX10_fails (l : Launch) (G : cG) (a0_ : Nat) (x1_ : Int32) (x2_ : Int32) : Ct l G yX10_fails cX10_fails 3 (some .int) 0 0 0 0 [.ref a0_, .int x1_, .int x2_] c_vi (pX10_fails a0_ x1_ x2_) := by
  refine Ct.of (lv := [(0, .ref a0_), (1, .int x1_), (2, .int x2_)]) (by decide) (Nat.le_of_ble_eq_true rfl) rfl (fun p e s m args below meth c hO hr hk hin => ?_)
  rw [pX10_fails]
  refine sm_aload_n hO 0 dX10_fails_0 rfl rfl ?_
  refine sm_iload_n hO 2 dX10_fails_1 rfl rfl ?_
  refine sm_pv hO fl_RX10_28 fp_9_12 rfl rfl dX10_fails_2 ?_
  refine sm_iload_n hO 1 dX10_fails_5 rfl rfl ?_
  exact sm_iret hO hr hk (Nat.le_of_ble_eq_true rfl) (Nat.le_of_ble_eq_true rfl) dX10_fails_6
/-! DollCongressModel.isFull(I)Z -/
def pX10_isFull (a0_ : Nat) (x1_ : Int32) : MM Int32 := if x1_ = 0 then (m_gi a0_ 9 16 (fun x4 => if x4 ≤ 0 then (m_ret 0) else (m_ret 1))) else (if x1_ = 1 then (m_gi a0_ 9 18 (fun x3 => if x3 = (8 : Int32) then (m_ret 1) else (m_ret 0))) else (if x1_ = 2 then (m_gi a0_ 9 22 (fun x2 => m_rz x2)) else (m_gi a0_ 9 24 (fun x1 => if x1 ≤ 0 then (m_ret 0) else (m_ret 1)))))
set_option maxRecDepth 100000 in
set_option maxHeartbeats 4000000 in
theorem ctX10_isFull (l : Launch) (G : cG) (a0_ : Nat) (x1_ : Int32) : Ct l G yX10_isFull cX10_isFull 2 (some .boolean) 0 0 0 0 [.ref a0_, .int x1_] c_vi (pX10_isFull a0_ x1_) := by
  refine Ct.of (lv := [(0, .ref a0_), (1, .int x1_)]) (by decide) (Nat.le_of_ble_eq_true rfl) rfl (fun p e s m args below meth c hO hr hk hin => ?_)
  rw [pX10_isFull]
  refine sm_iload_n hO 1 dX10_isFull_0 rfl rfl ?_
  refine sm_ite (fun q1_0 => ?_) (fun q1_0 => ?_)
  · refine sm_tabIn (tgt := 28) hO dX10_isFull_1 q1_0 (by decide) (by decide) rfl (by decide) ?_
    refine sm_aload_n hO 0 dX10_isFull_28 rfl rfl ?_
    refine sm_gi hO fl_RX10_117 dX10_isFull_29 (fun x4 => ?_)
    refine sm_if_le (tgt := 39) hO dX10_isFull_32 (by decide) ?_ ?_
    · refine sm_iconst (v := 0) hO dX10_isFull_39 rfl ?_
      exact sm_zret hO hr hk rfl (Nat.le_of_ble_eq_true rfl) (Nat.le_of_ble_eq_true rfl) dX10_isFull_40
    · refine sm_iconst (v := 1) hO dX10_isFull_35 rfl ?_
      refine sm_goto (tgt := 40) hO dX10_isFull_36 (by decide) ?_
      exact sm_zret hO hr hk rfl (Nat.le_of_ble_eq_true rfl) (Nat.le_of_ble_eq_true rfl) dX10_isFull_40
  · refine sm_ite (fun q1_1 => ?_) (fun q1_1 => ?_)
    · refine sm_tabIn (tgt := 41) hO dX10_isFull_1 q1_1 (by decide) (by decide) rfl (by decide) ?_
      refine sm_aload_n hO 0 dX10_isFull_41 rfl rfl ?_
      refine sm_gi hO fl_RX10_120 dX10_isFull_42 (fun x3 => ?_)
      refine sm_bipush (v := 8) hO dX10_isFull_45 rfl ?_
      refine sm_icmp_ne (tgt := 54) hO dX10_isFull_47 (by decide) ?_ ?_
      · refine sm_iconst (v := 0) hO dX10_isFull_54 rfl ?_
        exact sm_zret hO hr hk rfl (Nat.le_of_ble_eq_true rfl) (Nat.le_of_ble_eq_true rfl) dX10_isFull_55
      · refine sm_iconst (v := 1) hO dX10_isFull_50 rfl ?_
        refine sm_goto (tgt := 55) hO dX10_isFull_51 (by decide) ?_
        exact sm_zret hO hr hk rfl (Nat.le_of_ble_eq_true rfl) (Nat.le_of_ble_eq_true rfl) dX10_isFull_55
    · refine sm_ite (fun q1_2 => ?_) (fun q1_2 => ?_)
      · refine sm_tabIn (tgt := 56) hO dX10_isFull_1 q1_2 (by decide) (by decide) rfl (by decide) ?_
        refine sm_aload_n hO 0 dX10_isFull_56 rfl rfl ?_
        refine sm_gi hO fl_RX10_123 dX10_isFull_57 (fun x2 => ?_)
        exact sm_rz hO hr hk (Nat.le_of_ble_eq_true rfl) (Nat.le_of_ble_eq_true rfl) dX10_isFull_60
      · refine sm_tabOut (tgt := 61) hO dX10_isFull_1 (c_ne_lo (n := 3) (by decide) (fun k hk => match k, hk with | 0, _ => q1_0 | 1, _ => q1_1 | 2, _ => q1_2 | k + 3, hk => absurd hk (by omega))) (by decide) ?_
        refine sm_aload_n hO 0 dX10_isFull_61 rfl rfl ?_
        refine sm_gi hO fl_RX10_130 dX10_isFull_62 (fun x1 => ?_)
        refine sm_if_le (tgt := 72) hO dX10_isFull_65 (by decide) ?_ ?_
        · refine sm_iconst (v := 0) hO dX10_isFull_72 rfl ?_
          exact sm_zret hO hr hk rfl (Nat.le_of_ble_eq_true rfl) (Nat.le_of_ble_eq_true rfl) dX10_isFull_73
        · refine sm_iconst (v := 1) hO dX10_isFull_68 rfl ?_
          refine sm_goto (tgt := 73) hO dX10_isFull_69 (by decide) ?_
          exact sm_zret hO hr hk rfl (Nat.le_of_ble_eq_true rfl) (Nat.le_of_ble_eq_true rfl) dX10_isFull_73
/-! DollCongressModel.takeNumber(II)I -/
def fX10_takeNumber_113 (k42 : Nat → Int32 → Int32 → MM Int32) (aL0 : Nat) (xL1 : Int32) (xL2 : Int32) (xS0 : Int32) (aS1 : Nat) : MM Int32 := m_pv aS1 9 14 (.int xS0) (m_gi aL0 9 13 (fun x1 => m_pv aL0 9 13 (.int (x1 + 1)) (k42 aL0 xL1 xL2)))
def fX10_takeNumber_42 (k129 : Nat → Int32 → Int32 → MM Int32) : Nat → Nat → Int32 → Int32 → MM Int32
  | 0, _, _, _ => m_bad
  | n + 1, aL0, xL1, xL2 => m_gi aL0 9 13 (fun x1 => m_gi aL0 9 11 (fun x2 => if x2 ≤ x1 then (k129 aL0 xL1 xL2) else (m_gr aL0 9 10 (fun a3 => m_gi aL0 9 13 (fun x4 => m_li 0 a3 x4 (fun x5 => m_bind (pX10_in (x5.toInt64) 48 57) (fun x6 => if x6 = 0 then (k129 aL0 xL1 xL2) else (m_gi aL0 9 14 (fun x7 => if x7 ≤ (10000 : Int32) then (m_gi aL0 9 14 (fun x8 => m_gr aL0 9 10 (fun a9 => m_gi aL0 9 13 (fun x10 => m_li 0 a9 x10 (fun x11 => fX10_takeNumber_113 (fX10_takeNumber_42 k129 n) aL0 xL1 xL2 ((((10 : Int32) * x8) + x11) - 48) aL0))))) else (m_gi aL0 9 14 (fun x12 => fX10_takeNumber_113 (fX10_takeNumber_42 k129 n) aL0 xL1 xL2 x12 aL0)))))))))))
def fX10_takeNumber_157  (aL0 : Nat) : MM Int32 := m_gi aL0 9 15 (fun x1 => m_cv aL0 9 (pX10_fails aL0 (2 : Int32) x1) (fun x2 => m_ret x2))
def fX10_takeNumber_129  (aL0 : Nat) (xL1 : Int32) (xL2 : Int32) : MM Int32 := m_gi aL0 9 13 (fun x1 => m_gi aL0 9 15 (fun x2 => if (3 : Int32) < (x1 - x2) then (fX10_takeNumber_157 aL0) else (m_gi aL0 9 14 (fun x3 => m_bind (pX10_in (x3.toInt64) (xL1.toInt64) (xL2.toInt64)) (fun x4 => if x4 = 0 then (fX10_takeNumber_157 aL0) else (m_ret (0 : Int32)))))))
def pX10_takeNumber (a0_ : Nat) (x1_ : Int32) (x2_ : Int32) : MM Int32 := m_cv a0_ 9 (pX10_here a0_) (fun x1 => m_bind (pX10_in (x1.toInt64) 48 57) (fun x2 => if x2 = 0 then (m_gi a0_ 9 13 (fun x4 => m_cv a0_ 9 (pX10_fails a0_ (1 : Int32) x4) (fun x5 => m_ret x5))) else (m_gi a0_ 9 13 (fun x3 => m_pv a0_ 9 15 (.int x3) (m_pv a0_ 9 14 (.int 0) (fX10_takeNumber_42 fX10_takeNumber_129 c_fu a0_ x1_ x2_))))))
set_option maxRecDepth 100000 in
set_option maxHeartbeats 4000000 in
theorem tX10_takeNumber_113 {p : Program} {l : Launch} {e : Env} {s : State} {m : MethodId} {args : Array Value} {below : List Frame} {meth : Method} {c : Code} {G : cG} (hO : c_Ok p s m c cX10_takeNumber 4 RX10 G) (hr : meth.sig.returnType = (some .int)) (hk : meth.locks = false) (k42 : Nat → Int32 → Int32 → MM Int32) (hk42 : ∀ (aL0 : Nat) (xL1 : Int32) (xL2 : Int32), Sm p l e { frames := 1, cells := 0, slots := 0, locals := 25 } s m args below meth c G 4 (c_Q G c_vi below args s 0 0) 0 0 42 [(0, .ref aL0), (1, .int xL1), (2, .int xL2)] [] (k42 aL0 xL1 xL2))  : ∀ (aL0 : Nat) (xL1 : Int32) (xL2 : Int32) (xS0 : Int32) (aS1 : Nat), Sm p l e { frames := 1, cells := 0, slots := 0, locals := 25 } s m args below meth c G 4 (c_Q G c_vi below args s 0 0) 0 0 113 [(0, .ref aL0), (1, .int xL1), (2, .int xL2)] [.int xS0, .ref aS1] (fX10_takeNumber_113 k42 aL0 xL1 xL2 xS0 aS1) := by
  intro aL0 xL1 xL2 xS0 aS1
  rw [fX10_takeNumber_113]
  refine sm_pv hO fl_RX10_107 fp_9_14 rfl rfl dX10_takeNumber_113 ?_
  refine sm_aload_n hO 0 dX10_takeNumber_116 rfl rfl ?_
  refine sm_dup hO dX10_takeNumber_117 rfl ?_
  refine sm_gi hO fl_RX10_89 dX10_takeNumber_118 (fun x1 => ?_)
  refine sm_iconst (v := 1) hO dX10_takeNumber_121 rfl ?_
  refine sm_iadd hO dX10_takeNumber_122 ?_
  refine sm_pv hO fl_RX10_89 fp_9_13 rfl rfl dX10_takeNumber_123 ?_
  refine sm_goto (tgt := 42) hO dX10_takeNumber_126 (by decide) ?_
  exact sm_sub [0, 1, 2] rfl (hk42 aL0 xL1 xL2)
set_option maxRecDepth 100000 in
set_option maxHeartbeats 4000000 in
theorem tX10_takeNumber_42 {p : Program} {l : Launch} {e : Env} {s : State} {m : MethodId} {args : Array Value} {below : List Frame} {meth : Method} {c : Code} {G : cG} (hO : c_Ok p s m c cX10_takeNumber 4 RX10 G) (hr : meth.sig.returnType = (some .int)) (hk : meth.locks = false) (k129 : Nat → Int32 → Int32 → MM Int32) (hk129 : ∀ (aL0 : Nat) (xL1 : Int32) (xL2 : Int32), Sm p l e { frames := 1, cells := 0, slots := 0, locals := 25 } s m args below meth c G 4 (c_Q G c_vi below args s 0 0) 0 0 129 [(0, .ref aL0), (1, .int xL1), (2, .int xL2)] [] (k129 aL0 xL1 xL2))  : ∀ (n : Nat) (aL0 : Nat) (xL1 : Int32) (xL2 : Int32), Sm p l e { frames := 1, cells := 0, slots := 0, locals := 25 } s m args below meth c G 4 (c_Q G c_vi below args s 0 0) 0 0 42 [(0, .ref aL0), (1, .int xL1), (2, .int xL2)] [] (fX10_takeNumber_42 k129 n aL0 xL1 xL2) := by
  intro n
  induction n with
  | zero =>
    intro aL0 xL1 xL2
    exact sm_bad
  | succ n ih =>
    intro aL0 xL1 xL2
    rw [fX10_takeNumber_42]
    refine sm_aload_n hO 0 dX10_takeNumber_42 rfl rfl ?_
    refine sm_gi hO fl_RX10_89 dX10_takeNumber_43 (fun x1 => ?_)
    refine sm_aload_n hO 0 dX10_takeNumber_46 rfl rfl ?_
    refine sm_gi hO fl_RX10_85 dX10_takeNumber_47 (fun x2 => ?_)
    refine sm_icmp_ge (tgt := 129) hO dX10_takeNumber_50 (by decide) ?_ ?_
    · exact sm_sub [0, 1, 2] rfl (hk129 aL0 xL1 xL2)
    · refine sm_aload_n hO 0 dX10_takeNumber_53 rfl rfl ?_
      refine sm_gr hO fl_RX10_25 dX10_takeNumber_54 (fun a3 => ?_)
      refine sm_aload_n hO 0 dX10_takeNumber_57 rfl rfl ?_
      refine sm_gi hO fl_RX10_89 dX10_takeNumber_58 (fun x4 => ?_)
      refine sm_li hO dX10_takeNumber_61 (fun x5 => ?_)
      refine sm_i2l (v := x5.toInt64) hO dX10_takeNumber_62 rfl ?_
      refine sm_ldc2 (v := 48) hO kw_959 dX10_takeNumber_63 ?_
      refine sm_ldc2 (v := 57) hO kw_960 dX10_takeNumber_66 ?_
      refine sm_csi hO (ctX10_in l G (x5.toInt64) 48 57) cw_RX10_75 kw_923 [] rfl rfl ⟨(Nat.le_of_ble_eq_true rfl), (Nat.le_of_ble_eq_true rfl)⟩ ⟨(Nat.le_of_ble_eq_true rfl), (Nat.le_of_ble_eq_true rfl)⟩ (Nat.le_of_ble_eq_true rfl) dX10_takeNumber_69 (fun x6 => ?_)
      refine sm_if_eq (tgt := 129) hO dX10_takeNumber_72 (by decide) ?_ ?_
      · exact sm_sub [0, 1, 2] rfl (hk129 aL0 xL1 xL2)
      · refine sm_aload_n hO 0 dX10_takeNumber_75 rfl rfl ?_
        refine sm_aload_n hO 0 dX10_takeNumber_76 rfl rfl ?_
        refine sm_gi hO fl_RX10_107 dX10_takeNumber_77 (fun x7 => ?_)
        refine sm_sipush (v := 10000) hO dX10_takeNumber_80 rfl ?_
        refine sm_icmp_le (tgt := 93) hO dX10_takeNumber_83 (by decide) ?_ ?_
        · refine sm_bipush (v := 10) hO dX10_takeNumber_93 rfl ?_
          refine sm_aload_n hO 0 dX10_takeNumber_95 rfl rfl ?_
          refine sm_gi hO fl_RX10_107 dX10_takeNumber_96 (fun x8 => ?_)
          refine sm_imul hO dX10_takeNumber_99 ?_
          refine sm_aload_n hO 0 dX10_takeNumber_100 rfl rfl ?_
          refine sm_gr hO fl_RX10_25 dX10_takeNumber_101 (fun a9 => ?_)
          refine sm_aload_n hO 0 dX10_takeNumber_104 rfl rfl ?_
          refine sm_gi hO fl_RX10_89 dX10_takeNumber_105 (fun x10 => ?_)
          refine sm_li hO dX10_takeNumber_108 (fun x11 => ?_)
          refine sm_iadd hO dX10_takeNumber_109 ?_
          refine sm_bipush (v := 48) hO dX10_takeNumber_110 rfl ?_
          refine sm_isub hO dX10_takeNumber_112 ?_
          exact sm_sub [0, 1, 2] rfl (tX10_takeNumber_113 hO hr hk (fX10_takeNumber_42 k129 n) ih aL0 xL1 xL2 ((((10 : Int32) * x8) + x11) - 48) aL0)
        · refine sm_aload_n hO 0 dX10_takeNumber_86 rfl rfl ?_
          refine sm_gi hO fl_RX10_107 dX10_takeNumber_87 (fun x12 => ?_)
          refine sm_goto (tgt := 113) hO dX10_takeNumber_90 (by decide) ?_
          exact sm_sub [0, 1, 2] rfl (tX10_takeNumber_113 hO hr hk (fX10_takeNumber_42 k129 n) ih aL0 xL1 xL2 x12 aL0)
set_option maxRecDepth 100000 in
set_option maxHeartbeats 4000000 in
theorem tX10_takeNumber_157 {p : Program} {l : Launch} {e : Env} {s : State} {m : MethodId} {args : Array Value} {below : List Frame} {meth : Method} {c : Code} {G : cG} (hO : c_Ok p s m c cX10_takeNumber 4 RX10 G) (hr : meth.sig.returnType = (some .int)) (hk : meth.locks = false) : ∀ (aL0 : Nat), Sm p l e { frames := 1, cells := 0, slots := 0, locals := 25 } s m args below meth c G 4 (c_Q G c_vi below args s 0 0) 0 0 157 [(0, .ref aL0)] [] (fX10_takeNumber_157 aL0) := by
  intro aL0
  rw [fX10_takeNumber_157]
  refine sm_aload_n hO 0 dX10_takeNumber_157 rfl rfl ?_
  refine sm_iconst (v := 2) hO dX10_takeNumber_158 rfl ?_
  refine sm_aload_n hO 0 dX10_takeNumber_159 rfl rfl ?_
  refine sm_gi hO fl_RX10_104 dX10_takeNumber_160 (fun x1 => ?_)
  refine sm_cvi hO (ctX10_fails l G aL0 (2 : Int32) x1) cw_RX10_100 cv_X10_fails [] rfl rfl ⟨(Nat.le_of_ble_eq_true rfl), (Nat.le_of_ble_eq_true rfl)⟩ ⟨(Nat.le_of_ble_eq_true rfl), (Nat.le_of_ble_eq_true rfl)⟩ (Nat.le_of_ble_eq_true rfl) dX10_takeNumber_163 (fun x2 => ?_)
  refine sm_goto (tgt := 170) hO dX10_takeNumber_166 (by decide) ?_
  exact sm_iret hO hr hk (Nat.le_of_ble_eq_true rfl) (Nat.le_of_ble_eq_true rfl) dX10_takeNumber_170
set_option maxRecDepth 100000 in
set_option maxHeartbeats 4000000 in
theorem tX10_takeNumber_129 {p : Program} {l : Launch} {e : Env} {s : State} {m : MethodId} {args : Array Value} {below : List Frame} {meth : Method} {c : Code} {G : cG} (hO : c_Ok p s m c cX10_takeNumber 4 RX10 G) (hr : meth.sig.returnType = (some .int)) (hk : meth.locks = false) : ∀ (aL0 : Nat) (xL1 : Int32) (xL2 : Int32), Sm p l e { frames := 1, cells := 0, slots := 0, locals := 25 } s m args below meth c G 4 (c_Q G c_vi below args s 0 0) 0 0 129 [(0, .ref aL0), (1, .int xL1), (2, .int xL2)] [] (fX10_takeNumber_129 aL0 xL1 xL2) := by
  intro aL0 xL1 xL2
  rw [fX10_takeNumber_129]
  refine sm_aload_n hO 0 dX10_takeNumber_129 rfl rfl ?_
  refine sm_gi hO fl_RX10_89 dX10_takeNumber_130 (fun x1 => ?_)
  refine sm_aload_n hO 0 dX10_takeNumber_133 rfl rfl ?_
  refine sm_gi hO fl_RX10_104 dX10_takeNumber_134 (fun x2 => ?_)
  refine sm_isub hO dX10_takeNumber_137 ?_
  refine sm_iconst (v := 3) hO dX10_takeNumber_138 rfl ?_
  refine sm_icmp_gt (tgt := 157) hO dX10_takeNumber_139 (by decide) ?_ ?_
  · exact sm_sub [0] rfl (tX10_takeNumber_157 hO hr hk aL0)
  · refine sm_aload_n hO 0 dX10_takeNumber_142 rfl rfl ?_
    refine sm_gi hO fl_RX10_107 dX10_takeNumber_143 (fun x3 => ?_)
    refine sm_i2l (v := x3.toInt64) hO dX10_takeNumber_146 rfl ?_
    refine sm_iload_n hO 1 dX10_takeNumber_147 rfl rfl ?_
    refine sm_i2l (v := xL1.toInt64) hO dX10_takeNumber_148 rfl ?_
    refine sm_iload_n hO 2 dX10_takeNumber_149 rfl rfl ?_
    refine sm_i2l (v := xL2.toInt64) hO dX10_takeNumber_150 rfl ?_
    refine sm_csi hO (ctX10_in l G (x3.toInt64) (xL1.toInt64) (xL2.toInt64)) cw_RX10_75 kw_923 [] rfl rfl ⟨(Nat.le_of_ble_eq_true rfl), (Nat.le_of_ble_eq_true rfl)⟩ ⟨(Nat.le_of_ble_eq_true rfl), (Nat.le_of_ble_eq_true rfl)⟩ (Nat.le_of_ble_eq_true rfl) dX10_takeNumber_151 (fun x4 => ?_)
    refine sm_if_ne (tgt := 169) hO dX10_takeNumber_154 (by decide) ?_ ?_
    · refine sm_iconst (v := 0) hO dX10_takeNumber_169 rfl ?_
      exact sm_iret hO hr hk (Nat.le_of_ble_eq_true rfl) (Nat.le_of_ble_eq_true rfl) dX10_takeNumber_170
    · exact sm_sub [0] rfl (tX10_takeNumber_157 hO hr hk aL0)
set_option maxRecDepth 100000 in
set_option maxHeartbeats 4000000 in
theorem ctX10_takeNumber (l : Launch) (G : cG) (a0_ : Nat) (x1_ : Int32) (x2_ : Int32) : Ct l G yX10_takeNumber cX10_takeNumber 4 (some .int) 1 25 0 0 [.ref a0_, .int x1_, .int x2_] c_vi (pX10_takeNumber a0_ x1_ x2_) := by
  refine Ct.of (lv := [(0, .ref a0_), (1, .int x1_), (2, .int x2_)]) (by decide) (Nat.le_of_ble_eq_true rfl) rfl (fun p e s m args below meth c hO hr hk hin => ?_)
  rw [pX10_takeNumber]
  refine sm_aload_n hO 0 dX10_takeNumber_0 rfl rfl ?_
  refine sm_cvi hO (ctX10_here l G a0_) cw_RX10_92 cv_X10_here [] rfl rfl ⟨(Nat.le_of_ble_eq_true rfl), (Nat.le_of_ble_eq_true rfl)⟩ ⟨(Nat.le_of_ble_eq_true rfl), (Nat.le_of_ble_eq_true rfl)⟩ (Nat.le_of_ble_eq_true rfl) dX10_takeNumber_1 (fun x1 => ?_)
  refine sm_istore_n hO [(3, .int x1), (0, .ref a0_), (1, .int x1_), (2, .int x2_)] dX10_takeNumber_4 rfl (by decide) rfl ?_
  refine sm_iload_n hO 0 dX10_takeNumber_5 rfl rfl ?_
  refine sm_i2l (v := x1.toInt64) hO dX10_takeNumber_6 rfl ?_
  refine sm_ldc2 (v := 48) hO kw_959 dX10_takeNumber_7 ?_
  refine sm_ldc2 (v := 57) hO kw_960 dX10_takeNumber_10 ?_
  refine sm_csi hO (ctX10_in l G (x1.toInt64) 48 57) cw_RX10_75 kw_923 [] rfl rfl ⟨(Nat.le_of_ble_eq_true rfl), (Nat.le_of_ble_eq_true rfl)⟩ ⟨(Nat.le_of_ble_eq_true rfl), (Nat.le_of_ble_eq_true rfl)⟩ (Nat.le_of_ble_eq_true rfl) dX10_takeNumber_13 (fun x2 => ?_)
  refine sm_if_ne (tgt := 29) hO dX10_takeNumber_16 (by decide) ?_ ?_
  · refine sm_aload_n hO 1 dX10_takeNumber_29 rfl rfl ?_
    refine sm_aload_n hO 1 dX10_takeNumber_30 rfl rfl ?_
    refine sm_gi hO fl_RX10_89 dX10_takeNumber_31 (fun x3 => ?_)
    refine sm_pv hO fl_RX10_104 fp_9_15 rfl rfl dX10_takeNumber_34 ?_
    refine sm_aload_n hO 1 dX10_takeNumber_37 rfl rfl ?_
    refine sm_iconst (v := 0) hO dX10_takeNumber_38 rfl ?_
    refine sm_pv hO fl_RX10_107 fp_9_14 rfl rfl dX10_takeNumber_39 ?_
    exact sm_sub [1, 2, 3] rfl (tX10_takeNumber_42 hO hr hk fX10_takeNumber_129 (tX10_takeNumber_129 hO hr hk) c_fu a0_ x1_ x2_)
  · refine sm_aload_n hO 1 dX10_takeNumber_19 rfl rfl ?_
    refine sm_iconst (v := 1) hO dX10_takeNumber_20 rfl ?_
    refine sm_aload_n hO 1 dX10_takeNumber_21 rfl rfl ?_
    refine sm_gi hO fl_RX10_89 dX10_takeNumber_22 (fun x4 => ?_)
    refine sm_cvi hO (ctX10_fails l G a0_ (1 : Int32) x4) cw_RX10_100 cv_X10_fails [] rfl rfl ⟨(Nat.le_of_ble_eq_true rfl), (Nat.le_of_ble_eq_true rfl)⟩ ⟨(Nat.le_of_ble_eq_true rfl), (Nat.le_of_ble_eq_true rfl)⟩ (Nat.le_of_ble_eq_true rfl) dX10_takeNumber_25 (fun x5 => ?_)
    exact sm_iret hO hr hk (Nat.le_of_ble_eq_true rfl) (Nat.le_of_ble_eq_true rfl) dX10_takeNumber_28
/-! DollCongressModel.into([IIII)I -/
def pX10_into (a0_ : Nat) (a1_ : Nat) (x2_ : Int32) (x3_ : Int32) (x4_ : Int32) : MM Int32 := m_cv a0_ 9 (pX10_takeNumber a0_ x3_ x4_) (fun x1 => m_gi a0_ 9 14 (fun x2 => m_si a1_ x2_ x2 (m_ret x1)))
set_option maxRecDepth 100000 in
set_option maxHeartbeats 4000000 in
theorem ctX10_into (l : Launch) (G : cG) (a0_ : Nat) (a1_ : Nat) (x2_ : Int32) (x3_ : Int32) (x4_ : Int32) : Ct l G yX10_into cX10_into 6 (some .int) 2 48 0 0 [.ref a0_, .ref a1_, .int x2_, .int x3_, .int x4_] c_vi (pX10_into a0_ a1_ x2_ x3_ x4_) := by
  refine Ct.of (lv := [(0, .ref a0_), (1, .ref a1_), (2, .int x2_), (3, .int x3_), (4, .int x4_)]) (by decide) (Nat.le_of_ble_eq_true rfl) rfl (fun p e s m args below meth c hO hr hk hin => ?_)
  rw [pX10_into]
  refine sm_aload_n hO 0 dX10_into_0 rfl rfl ?_
  refine sm_iload_n hO 3 dX10_into_1 rfl rfl ?_
  refine sm_iload hO 4 dX10_into_2 rfl ?_
  refine sm_cvi hO (ctX10_takeNumber l G a0_ x3_ x4_) cw_RX10_110 cv_X10_takeNumber [] rfl rfl ⟨(Nat.le_of_ble_eq_true rfl), (Nat.le_of_ble_eq_true rfl)⟩ ⟨(Nat.le_of_ble_eq_true rfl), (Nat.le_of_ble_eq_true rfl)⟩ (Nat.le_of_ble_eq_true rfl) dX10_into_4 (fun x1 => ?_)
  refine sm_istore hO [(5, .int x1), (0, .ref a0_), (1, .ref a1_), (2, .int x2_), (3, .int x3_), (4, .int x4_)] dX10_into_7 (by decide) rfl ?_
  refine sm_aload_n hO 2 dX10_into_9 rfl rfl ?_
  refine sm_iload_n hO 3 dX10_into_10 rfl rfl ?_
  refine sm_aload_n hO 1 dX10_into_11 rfl rfl ?_
  refine sm_gi hO fl_RX10_107 dX10_into_12 (fun x2 => ?_)
  refine sm_si hO dX10_into_15 ?_
  refine sm_iload hO 0 dX10_into_16 rfl ?_
  exact sm_iret hO hr hk (Nat.le_of_ble_eq_true rfl) (Nat.le_of_ble_eq_true rfl) dX10_into_18
/-! DollCongressModel.takeCourts()I -/
def fX10_takeCourts_18 (k40 : Nat → MM Int32) (k89 : Nat → Int32 → MM Int32) : Nat → Nat → Int32 → MM Int32
  | 0, _, _ => m_bad
  | n + 1, aL0, xL1 => if xL1 = 0 then (m_cv aL0 9 (pX10_here aL0) (fun x1 => if x1 = (44 : Int32) then (m_gi aL0 9 16 (fun x2 => if x2 = (7 : Int32) then (k40 aL0) else (m_gi aL0 9 13 (fun x3 => m_pv aL0 9 13 (.int (x3 + 1)) (m_gr aL0 9 17 (fun a4 => m_gi aL0 9 16 (fun x5 => m_cv aL0 9 (pX10_into aL0 a4 x5 (1 : Int32) (9 : Int32)) (fun x6 => m_gi aL0 9 16 (fun x7 => m_pv aL0 9 16 (.int (x7 + 1)) (fX10_takeCourts_18 k40 k89 n aL0 x6)))))))))) else (k89 aL0 xL1))) else (k89 aL0 xL1)
def fX10_takeCourts_40  (aL0 : Nat) : MM Int32 := m_gi aL0 9 13 (fun x1 => m_cv aL0 9 (pX10_fails aL0 (1 : Int32) x1) (fun x2 => m_ret x2))
def fX10_takeCourts_89  (aL0 : Nat) (xL1 : Int32) : MM Int32 := if xL1 = 0 then (m_gi aL0 9 16 (fun x1 => if x1 = (1 : Int32) then (m_gi aL0 9 13 (fun x2 => m_cv aL0 9 (pX10_fails aL0 (1 : Int32) x2) (fun x3 => m_ret x3))) else (m_ret xL1))) else (m_ret xL1)
def pX10_takeCourts (a0_ : Nat) : MM Int32 := m_gr a0_ 9 17 (fun a1 => m_cv a0_ 9 (pX10_into a0_ a1 (0 : Int32) (1 : Int32) (9 : Int32)) (fun x2 => m_pv a0_ 9 16 (.int 1) (fX10_takeCourts_18 fX10_takeCourts_40 fX10_takeCourts_89 c_fu a0_ x2)))
set_option maxRecDepth 100000 in
set_option maxHeartbeats 4000000 in
theorem tX10_takeCourts_18 {p : Program} {l : Launch} {e : Env} {s : State} {m : MethodId} {args : Array Value} {below : List Frame} {meth : Method} {c : Code} {G : cG} (hO : c_Ok p s m c cX10_takeCourts 2 RX10 G) (hr : meth.sig.returnType = (some .int)) (hk : meth.locks = false) (k40 : Nat → MM Int32)  (k89 : Nat → Int32 → MM Int32) (hk40 : ∀ (aL0 : Nat), Sm p l e { frames := 3, cells := 0, slots := 0, locals := 73 } s m args below meth c G 2 (c_Q G c_vi below args s 0 0) 0 0 40 [(0, .ref aL0)] [] (k40 aL0)) (hk89 : ∀ (aL0 : Nat) (xL1 : Int32), Sm p l e { frames := 3, cells := 0, slots := 0, locals := 73 } s m args below meth c G 2 (c_Q G c_vi below args s 0 0) 0 0 89 [(0, .ref aL0), (1, .int xL1)] [] (k89 aL0 xL1))  : ∀ (n : Nat) (aL0 : Nat) (xL1 : Int32), Sm p l e { frames := 3, cells := 0, slots := 0, locals := 73 } s m args below meth c G 2 (c_Q G c_vi below args s 0 0) 0 0 18 [(0, .ref aL0), (1, .int xL1)] [] (fX10_takeCourts_18 k40 k89 n aL0 xL1) := by
  intro n
  induction n with
  | zero =>
    intro aL0 xL1
    exact sm_bad
  | succ n ih =>
    intro aL0 xL1
    rw [fX10_takeCourts_18]
    refine sm_iload_n hO 1 dX10_takeCourts_18 rfl rfl ?_
    refine sm_if_ne (tgt := 89) hO dX10_takeCourts_19 (by decide) ?_ ?_
    · exact sm_sub [0, 1] rfl (hk89 aL0 xL1)
    · refine sm_aload_n hO 0 dX10_takeCourts_22 rfl rfl ?_
      refine sm_cvi hO (ctX10_here l G aL0) cw_RX10_92 cv_X10_here [] rfl rfl ⟨(Nat.le_of_ble_eq_true rfl), (Nat.le_of_ble_eq_true rfl)⟩ ⟨(Nat.le_of_ble_eq_true rfl), (Nat.le_of_ble_eq_true rfl)⟩ (Nat.le_of_ble_eq_true rfl) dX10_takeCourts_23 (fun x1 => ?_)
      refine sm_bipush (v := 44) hO dX10_takeCourts_26 rfl ?_
      refine sm_icmp_ne (tgt := 89) hO dX10_takeCourts_28 (by decide) ?_ ?_
      · exact sm_sub [0, 1] rfl (hk89 aL0 xL1)
      · refine sm_aload_n hO 0 dX10_takeCourts_31 rfl rfl ?_
        refine sm_gi hO fl_RX10_117 dX10_takeCourts_32 (fun x2 => ?_)
        refine sm_bipush (v := 7) hO dX10_takeCourts_35 rfl ?_
        refine sm_icmp_ne (tgt := 50) hO dX10_takeCourts_37 (by decide) ?_ ?_
        · refine sm_aload_n hO 0 dX10_takeCourts_50 rfl rfl ?_
          refine sm_dup hO dX10_takeCourts_51 rfl ?_
          refine sm_gi hO fl_RX10_89 dX10_takeCourts_52 (fun x3 => ?_)
          refine sm_iconst (v := 1) hO dX10_takeCourts_55 rfl ?_
          refine sm_iadd hO dX10_takeCourts_56 ?_
          refine sm_pv hO fl_RX10_89 fp_9_13 rfl rfl dX10_takeCourts_57 ?_
          refine sm_aload_n hO 0 dX10_takeCourts_60 rfl rfl ?_
          refine sm_aload_n hO 0 dX10_takeCourts_61 rfl rfl ?_
          refine sm_gr hO fl_RX10_32 dX10_takeCourts_62 (fun a4 => ?_)
          refine sm_aload_n hO 0 dX10_takeCourts_65 rfl rfl ?_
          refine sm_gi hO fl_RX10_117 dX10_takeCourts_66 (fun x5 => ?_)
          refine sm_iconst (v := 1) hO dX10_takeCourts_69 rfl ?_
          refine sm_bipush (v := 9) hO dX10_takeCourts_70 rfl ?_
          refine sm_cvi hO (ctX10_into l G aL0 a4 x5 (1 : Int32) (9 : Int32)) cw_RX10_113 cv_X10_into [] rfl rfl ⟨(Nat.le_of_ble_eq_true rfl), (Nat.le_of_ble_eq_true rfl)⟩ ⟨(Nat.le_of_ble_eq_true rfl), (Nat.le_of_ble_eq_true rfl)⟩ (Nat.le_of_ble_eq_true rfl) dX10_takeCourts_72 (fun x6 => ?_)
          refine sm_istore_n hO [(1, .int x6), (0, .ref aL0)] dX10_takeCourts_75 rfl (by decide) rfl ?_
          refine sm_aload_n hO 1 dX10_takeCourts_76 rfl rfl ?_
          refine sm_dup hO dX10_takeCourts_77 rfl ?_
          refine sm_gi hO fl_RX10_117 dX10_takeCourts_78 (fun x7 => ?_)
          refine sm_iconst (v := 1) hO dX10_takeCourts_81 rfl ?_
          refine sm_iadd hO dX10_takeCourts_82 ?_
          refine sm_pv hO fl_RX10_117 fp_9_16 rfl rfl dX10_takeCourts_83 ?_
          refine sm_goto (tgt := 18) hO dX10_takeCourts_86 (by decide) ?_
          exact sm_sub [1, 0] rfl (ih aL0 x6)
        · exact sm_sub [0] rfl (hk40 aL0)
set_option maxRecDepth 100000 in
set_option maxHeartbeats 4000000 in
theorem tX10_takeCourts_40 {p : Program} {l : Launch} {e : Env} {s : State} {m : MethodId} {args : Array Value} {below : List Frame} {meth : Method} {c : Code} {G : cG} (hO : c_Ok p s m c cX10_takeCourts 2 RX10 G) (hr : meth.sig.returnType = (some .int)) (hk : meth.locks = false) : ∀ (aL0 : Nat), Sm p l e { frames := 3, cells := 0, slots := 0, locals := 73 } s m args below meth c G 2 (c_Q G c_vi below args s 0 0) 0 0 40 [(0, .ref aL0)] [] (fX10_takeCourts_40 aL0) := by
  intro aL0
  rw [fX10_takeCourts_40]
  refine sm_aload_n hO 0 dX10_takeCourts_40 rfl rfl ?_
  refine sm_iconst (v := 1) hO dX10_takeCourts_41 rfl ?_
  refine sm_aload_n hO 0 dX10_takeCourts_42 rfl rfl ?_
  refine sm_gi hO fl_RX10_89 dX10_takeCourts_43 (fun x1 => ?_)
  refine sm_cvi hO (ctX10_fails l G aL0 (1 : Int32) x1) cw_RX10_100 cv_X10_fails [] rfl rfl ⟨(Nat.le_of_ble_eq_true rfl), (Nat.le_of_ble_eq_true rfl)⟩ ⟨(Nat.le_of_ble_eq_true rfl), (Nat.le_of_ble_eq_true rfl)⟩ (Nat.le_of_ble_eq_true rfl) dX10_takeCourts_46 (fun x2 => ?_)
  exact sm_iret hO hr hk (Nat.le_of_ble_eq_true rfl) (Nat.le_of_ble_eq_true rfl) dX10_takeCourts_49
set_option maxRecDepth 100000 in
set_option maxHeartbeats 4000000 in
theorem tX10_takeCourts_89 {p : Program} {l : Launch} {e : Env} {s : State} {m : MethodId} {args : Array Value} {below : List Frame} {meth : Method} {c : Code} {G : cG} (hO : c_Ok p s m c cX10_takeCourts 2 RX10 G) (hr : meth.sig.returnType = (some .int)) (hk : meth.locks = false) : ∀ (aL0 : Nat) (xL1 : Int32), Sm p l e { frames := 3, cells := 0, slots := 0, locals := 73 } s m args below meth c G 2 (c_Q G c_vi below args s 0 0) 0 0 89 [(0, .ref aL0), (1, .int xL1)] [] (fX10_takeCourts_89 aL0 xL1) := by
  intro aL0 xL1
  rw [fX10_takeCourts_89]
  refine sm_iload_n hO 1 dX10_takeCourts_89 rfl rfl ?_
  refine sm_if_ne (tgt := 113) hO dX10_takeCourts_90 (by decide) ?_ ?_
  · refine sm_iload_n hO 1 dX10_takeCourts_113 rfl rfl ?_
    exact sm_iret hO hr hk (Nat.le_of_ble_eq_true rfl) (Nat.le_of_ble_eq_true rfl) dX10_takeCourts_114
  · refine sm_aload_n hO 0 dX10_takeCourts_93 rfl rfl ?_
    refine sm_gi hO fl_RX10_117 dX10_takeCourts_94 (fun x1 => ?_)
    refine sm_iconst (v := 1) hO dX10_takeCourts_97 rfl ?_
    refine sm_icmp_ne (tgt := 113) hO dX10_takeCourts_98 (by decide) ?_ ?_
    · refine sm_iload_n hO 1 dX10_takeCourts_113 rfl rfl ?_
      exact sm_iret hO hr hk (Nat.le_of_ble_eq_true rfl) (Nat.le_of_ble_eq_true rfl) dX10_takeCourts_114
    · refine sm_aload_n hO 0 dX10_takeCourts_101 rfl rfl ?_
      refine sm_iconst (v := 1) hO dX10_takeCourts_102 rfl ?_
      refine sm_aload_n hO 0 dX10_takeCourts_103 rfl rfl ?_
      refine sm_gi hO fl_RX10_89 dX10_takeCourts_104 (fun x2 => ?_)
      refine sm_cvi hO (ctX10_fails l G aL0 (1 : Int32) x2) cw_RX10_100 cv_X10_fails [] rfl rfl ⟨(Nat.le_of_ble_eq_true rfl), (Nat.le_of_ble_eq_true rfl)⟩ ⟨(Nat.le_of_ble_eq_true rfl), (Nat.le_of_ble_eq_true rfl)⟩ (Nat.le_of_ble_eq_true rfl) dX10_takeCourts_107 (fun x3 => ?_)
      refine sm_goto (tgt := 114) hO dX10_takeCourts_110 (by decide) ?_
      exact sm_iret hO hr hk (Nat.le_of_ble_eq_true rfl) (Nat.le_of_ble_eq_true rfl) dX10_takeCourts_114
set_option maxRecDepth 100000 in
set_option maxHeartbeats 4000000 in
theorem ctX10_takeCourts (l : Launch) (G : cG) (a0_ : Nat) : Ct l G yX10_takeCourts cX10_takeCourts 2 (some .int) 3 73 0 0 [.ref a0_] c_vi (pX10_takeCourts a0_) := by
  refine Ct.of (lv := [(0, .ref a0_)]) (by decide) (Nat.le_of_ble_eq_true rfl) rfl (fun p e s m args below meth c hO hr hk hin => ?_)
  rw [pX10_takeCourts]
  refine sm_aload_n hO 0 dX10_takeCourts_0 rfl rfl ?_
  refine sm_aload_n hO 0 dX10_takeCourts_1 rfl rfl ?_
  refine sm_gr hO fl_RX10_32 dX10_takeCourts_2 (fun a1 => ?_)
  refine sm_iconst (v := 0) hO dX10_takeCourts_5 rfl ?_
  refine sm_iconst (v := 1) hO dX10_takeCourts_6 rfl ?_
  refine sm_bipush (v := 9) hO dX10_takeCourts_7 rfl ?_
  refine sm_cvi hO (ctX10_into l G a0_ a1 (0 : Int32) (1 : Int32) (9 : Int32)) cw_RX10_113 cv_X10_into [] rfl rfl ⟨(Nat.le_of_ble_eq_true rfl), (Nat.le_of_ble_eq_true rfl)⟩ ⟨(Nat.le_of_ble_eq_true rfl), (Nat.le_of_ble_eq_true rfl)⟩ (Nat.le_of_ble_eq_true rfl) dX10_takeCourts_9 (fun x2 => ?_)
  refine sm_istore_n hO [(1, .int x2), (0, .ref a0_)] dX10_takeCourts_12 rfl (by decide) rfl ?_
  refine sm_aload_n hO 1 dX10_takeCourts_13 rfl rfl ?_
  refine sm_iconst (v := 1) hO dX10_takeCourts_14 rfl ?_
  refine sm_pv hO fl_RX10_117 fp_9_16 rfl rfl dX10_takeCourts_15 ?_
  exact sm_sub [1, 0] rfl (tX10_takeCourts_18 hO hr hk fX10_takeCourts_40 fX10_takeCourts_89 (tX10_takeCourts_40 hO hr hk) (tX10_takeCourts_89 hO hr hk) c_fu a0_ x2)
/-! DollCongressModel.takeDoll()I -/
def fX10_takeDoll_51  (aL0 : Nat) (xL1 : Int32) (xS0 : Int32) : MM Int32 := if xS0 ≤ 0 then (m_gr aL0 9 21 (fun a1 => m_cv aL0 9 (pX10_into aL0 a1 xL1 (0 : Int32) (63 : Int32)) (fun x2 => m_ret x2))) else (m_ret xS0)
def pX10_takeDoll (a0_ : Nat) : MM Int32 := m_gi a0_ 9 18 (fun x1 => m_gi a0_ 9 18 (fun x2 => m_pv a0_ 9 18 (.int (x2 + 1)) (m_gr a0_ 9 19 (fun a3 => m_cv a0_ 9 (pX10_into a0_ a3 x1 (0 : Int32) (3 : Int32)) (fun x4 => if x4 ≤ 0 then (m_gr a0_ 9 20 (fun a5 => m_gi a0_ 9 16 (fun x6 => m_cv a0_ 9 (pX10_into a0_ a5 x1 (0 : Int32) (x6 - 1)) (fun x7 => fX10_takeDoll_51 a0_ x1 x7)))) else (fX10_takeDoll_51 a0_ x1 x4))))))
set_option maxRecDepth 100000 in
set_option maxHeartbeats 4000000 in
theorem tX10_takeDoll_51 {p : Program} {l : Launch} {e : Env} {s : State} {m : MethodId} {args : Array Value} {below : List Frame} {meth : Method} {c : Code} {G : cG} (hO : c_Ok p s m c cX10_takeDoll 3 RX10 G) (hr : meth.sig.returnType = (some .int)) (hk : meth.locks = false) : ∀ (aL0 : Nat) (xL1 : Int32) (xS0 : Int32), Sm p l e { frames := 3, cells := 0, slots := 0, locals := 73 } s m args below meth c G 3 (c_Q G c_vi below args s 0 0) 0 0 51 [(0, .ref aL0), (1, .int xL1)] [.int xS0] (fX10_takeDoll_51 aL0 xL1 xS0) := by
  intro aL0 xL1 xS0
  rw [fX10_takeDoll_51]
  refine sm_istore_n hO [(2, .int xS0), (0, .ref aL0), (1, .int xL1)] dX10_takeDoll_51 rfl (by decide) rfl ?_
  refine sm_iload_n hO 0 dX10_takeDoll_52 rfl rfl ?_
  refine sm_if_le (tgt := 60) hO dX10_takeDoll_53 (by decide) ?_ ?_
  · refine sm_aload_n hO 1 dX10_takeDoll_60 rfl rfl ?_
    refine sm_aload_n hO 1 dX10_takeDoll_61 rfl rfl ?_
    refine sm_gr hO fl_RX10_41 dX10_takeDoll_62 (fun a1 => ?_)
    refine sm_iload_n hO 2 dX10_takeDoll_65 rfl rfl ?_
    refine sm_iconst (v := 0) hO dX10_takeDoll_66 rfl ?_
    refine sm_bipush (v := 63) hO dX10_takeDoll_67 rfl ?_
    refine sm_cvi hO (ctX10_into l G aL0 a1 xL1 (0 : Int32) (63 : Int32)) cw_RX10_113 cv_X10_into [] rfl rfl ⟨(Nat.le_of_ble_eq_true rfl), (Nat.le_of_ble_eq_true rfl)⟩ ⟨(Nat.le_of_ble_eq_true rfl), (Nat.le_of_ble_eq_true rfl)⟩ (Nat.le_of_ble_eq_true rfl) dX10_takeDoll_69 (fun x2 => ?_)
    exact sm_iret hO hr hk (Nat.le_of_ble_eq_true rfl) (Nat.le_of_ble_eq_true rfl) dX10_takeDoll_72
  · refine sm_iload_n hO 0 dX10_takeDoll_56 rfl rfl ?_
    refine sm_goto (tgt := 72) hO dX10_takeDoll_57 (by decide) ?_
    exact sm_iret hO hr hk (Nat.le_of_ble_eq_true rfl) (Nat.le_of_ble_eq_true rfl) dX10_takeDoll_72
set_option maxRecDepth 100000 in
set_option maxHeartbeats 4000000 in
theorem ctX10_takeDoll (l : Launch) (G : cG) (a0_ : Nat) : Ct l G yX10_takeDoll cX10_takeDoll 3 (some .int) 3 73 0 0 [.ref a0_] c_vi (pX10_takeDoll a0_) := by
  refine Ct.of (lv := [(0, .ref a0_)]) (by decide) (Nat.le_of_ble_eq_true rfl) rfl (fun p e s m args below meth c hO hr hk hin => ?_)
  rw [pX10_takeDoll]
  refine sm_aload_n hO 0 dX10_takeDoll_0 rfl rfl ?_
  refine sm_gi hO fl_RX10_120 dX10_takeDoll_1 (fun x1 => ?_)
  refine sm_istore_n hO [(1, .int x1), (0, .ref a0_)] dX10_takeDoll_4 rfl (by decide) rfl ?_
  refine sm_aload_n hO 1 dX10_takeDoll_5 rfl rfl ?_
  refine sm_dup hO dX10_takeDoll_6 rfl ?_
  refine sm_gi hO fl_RX10_120 dX10_takeDoll_7 (fun x2 => ?_)
  refine sm_iconst (v := 1) hO dX10_takeDoll_10 rfl ?_
  refine sm_iadd hO dX10_takeDoll_11 ?_
  refine sm_pv hO fl_RX10_120 fp_9_18 rfl rfl dX10_takeDoll_12 ?_
  refine sm_aload_n hO 1 dX10_takeDoll_15 rfl rfl ?_
  refine sm_aload_n hO 1 dX10_takeDoll_16 rfl rfl ?_
  refine sm_gr hO fl_RX10_35 dX10_takeDoll_17 (fun a3 => ?_)
  refine sm_iload_n hO 0 dX10_takeDoll_20 rfl rfl ?_
  refine sm_iconst (v := 0) hO dX10_takeDoll_21 rfl ?_
  refine sm_iconst (v := 3) hO dX10_takeDoll_22 rfl ?_
  refine sm_cvi hO (ctX10_into l G a0_ a3 x1 (0 : Int32) (3 : Int32)) cw_RX10_113 cv_X10_into [] rfl rfl ⟨(Nat.le_of_ble_eq_true rfl), (Nat.le_of_ble_eq_true rfl)⟩ ⟨(Nat.le_of_ble_eq_true rfl), (Nat.le_of_ble_eq_true rfl)⟩ (Nat.le_of_ble_eq_true rfl) dX10_takeDoll_23 (fun x4 => ?_)
  refine sm_istore_n hO [(2, .int x4), (1, .int x1), (0, .ref a0_)] dX10_takeDoll_26 rfl (by decide) rfl ?_
  refine sm_iload_n hO 0 dX10_takeDoll_27 rfl rfl ?_
  refine sm_if_le (tgt := 35) hO dX10_takeDoll_28 (by decide) ?_ ?_
  · refine sm_aload_n hO 2 dX10_takeDoll_35 rfl rfl ?_
    refine sm_aload_n hO 2 dX10_takeDoll_36 rfl rfl ?_
    refine sm_gr hO fl_RX10_38 dX10_takeDoll_37 (fun a5 => ?_)
    refine sm_iload_n hO 1 dX10_takeDoll_40 rfl rfl ?_
    refine sm_iconst (v := 0) hO dX10_takeDoll_41 rfl ?_
    refine sm_aload_n hO 2 dX10_takeDoll_42 rfl rfl ?_
    refine sm_gi hO fl_RX10_117 dX10_takeDoll_43 (fun x6 => ?_)
    refine sm_iconst (v := 1) hO dX10_takeDoll_46 rfl ?_
    refine sm_isub hO dX10_takeDoll_47 ?_
    refine sm_cvi hO (ctX10_into l G a0_ a5 x1 (0 : Int32) (x6 - 1)) cw_RX10_113 cv_X10_into [] rfl rfl ⟨(Nat.le_of_ble_eq_true rfl), (Nat.le_of_ble_eq_true rfl)⟩ ⟨(Nat.le_of_ble_eq_true rfl), (Nat.le_of_ble_eq_true rfl)⟩ (Nat.le_of_ble_eq_true rfl) dX10_takeDoll_48 (fun x7 => ?_)
    exact sm_sub [2, 1] rfl (tX10_takeDoll_51 hO hr hk a0_ x1 x7)
  · refine sm_iload_n hO 0 dX10_takeDoll_31 rfl rfl ?_
    refine sm_goto (tgt := 51) hO dX10_takeDoll_32 (by decide) ?_
    exact sm_sub [2, 1] rfl (tX10_takeDoll_51 hO hr hk a0_ x1 x4)
/-! DollCongressModel.takePattern()I -/
def pX10_takePattern (a0_ : Nat) : MM Int32 := m_pv a0_ 9 22 (.int 1) (m_cv a0_ 9 (pX10_takeNumber a0_ (0 : Int32) (63 : Int32)) (fun x1 => m_gi a0_ 9 14 (fun x2 => m_pv a0_ 9 23 (.int x2) (m_ret x1))))
set_option maxRecDepth 100000 in
set_option maxHeartbeats 4000000 in
theorem ctX10_takePattern (l : Launch) (G : cG) (a0_ : Nat) : Ct l G yX10_takePattern cX10_takePattern 2 (some .int) 2 48 0 0 [.ref a0_] c_vi (pX10_takePattern a0_) := by
  refine Ct.of (lv := [(0, .ref a0_)]) (by decide) (Nat.le_of_ble_eq_true rfl) rfl (fun p e s m args below meth c hO hr hk hin => ?_)
  rw [pX10_takePattern]
  refine sm_aload_n hO 0 dX10_takePattern_0 rfl rfl ?_
  refine sm_iconst (v := 1) hO dX10_takePattern_1 rfl ?_
  refine sm_pv hO fl_RX10_123 fp_9_22 rfl rfl dX10_takePattern_2 ?_
  refine sm_aload_n hO 0 dX10_takePattern_5 rfl rfl ?_
  refine sm_iconst (v := 0) hO dX10_takePattern_6 rfl ?_
  refine sm_bipush (v := 63) hO dX10_takePattern_7 rfl ?_
  refine sm_cvi hO (ctX10_takeNumber l G a0_ (0 : Int32) (63 : Int32)) cw_RX10_110 cv_X10_takeNumber [] rfl rfl ⟨(Nat.le_of_ble_eq_true rfl), (Nat.le_of_ble_eq_true rfl)⟩ ⟨(Nat.le_of_ble_eq_true rfl), (Nat.le_of_ble_eq_true rfl)⟩ (Nat.le_of_ble_eq_true rfl) dX10_takePattern_9 (fun x1 => ?_)
  refine sm_istore_n hO [(1, .int x1), (0, .ref a0_)] dX10_takePattern_12 rfl (by decide) rfl ?_
  refine sm_aload_n hO 1 dX10_takePattern_13 rfl rfl ?_
  refine sm_aload_n hO 1 dX10_takePattern_14 rfl rfl ?_
  refine sm_gi hO fl_RX10_107 dX10_takePattern_15 (fun x2 => ?_)
  refine sm_pv hO fl_RX10_127 fp_9_23 rfl rfl dX10_takePattern_18 ?_
  refine sm_iload_n hO 0 dX10_takePattern_21 rfl rfl ?_
  exact sm_iret hO hr hk (Nat.le_of_ble_eq_true rfl) (Nat.le_of_ble_eq_true rfl) dX10_takePattern_22
/-! DollCongressModel.takeQuota()I -/
def pX10_takeQuota (a0_ : Nat) : MM Int32 := m_cv a0_ 9 (pX10_takeNumber a0_ (1 : Int32) (63 : Int32)) (fun x1 => m_gi a0_ 9 14 (fun x2 => m_pv a0_ 9 24 (.int x2) (m_ret x1)))
set_option maxRecDepth 100000 in
set_option maxHeartbeats 4000000 in
theorem ctX10_takeQuota (l : Launch) (G : cG) (a0_ : Nat) : Ct l G yX10_takeQuota cX10_takeQuota 2 (some .int) 2 48 0 0 [.ref a0_] c_vi (pX10_takeQuota a0_) := by
  refine Ct.of (lv := [(0, .ref a0_)]) (by decide) (Nat.le_of_ble_eq_true rfl) rfl (fun p e s m args below meth c hO hr hk hin => ?_)
  rw [pX10_takeQuota]
  refine sm_aload_n hO 0 dX10_takeQuota_0 rfl rfl ?_
  refine sm_iconst (v := 1) hO dX10_takeQuota_1 rfl ?_
  refine sm_bipush (v := 63) hO dX10_takeQuota_2 rfl ?_
  refine sm_cvi hO (ctX10_takeNumber l G a0_ (1 : Int32) (63 : Int32)) cw_RX10_110 cv_X10_takeNumber [] rfl rfl ⟨(Nat.le_of_ble_eq_true rfl), (Nat.le_of_ble_eq_true rfl)⟩ ⟨(Nat.le_of_ble_eq_true rfl), (Nat.le_of_ble_eq_true rfl)⟩ (Nat.le_of_ble_eq_true rfl) dX10_takeQuota_4 (fun x1 => ?_)
  refine sm_istore_n hO [(1, .int x1), (0, .ref a0_)] dX10_takeQuota_7 rfl (by decide) rfl ?_
  refine sm_aload_n hO 1 dX10_takeQuota_8 rfl rfl ?_
  refine sm_aload_n hO 1 dX10_takeQuota_9 rfl rfl ?_
  refine sm_gi hO fl_RX10_107 dX10_takeQuota_10 (fun x2 => ?_)
  refine sm_pv hO fl_RX10_130 fp_9_24 rfl rfl dX10_takeQuota_13 ?_
  refine sm_iload_n hO 0 dX10_takeQuota_16 rfl rfl ?_
  exact sm_iret hO hr hk (Nat.le_of_ble_eq_true rfl) (Nat.le_of_ble_eq_true rfl) dX10_takeQuota_17
/-! DollCongressModel.takeClause()I -/
def fX10_takeClause_62  (aL0 : Nat) : MM Int32 := m_gi aL0 9 13 (fun x1 => m_cv aL0 9 (pX10_fails aL0 (1 : Int32) x1) (fun x2 => m_ret x2))
def fX10_takeClause_163  (aL0 : Nat) (xL3 : Int32) : MM Int32 := m_gi aL0 9 13 (fun x1 => m_pv aL0 9 13 (.int (x1 + 1)) (m_ret xL3))
def fX10_takeClause_139  (aL0 : Nat) (xS0 : Int32) : MM Int32 := if xS0 = 0 then (m_cv aL0 9 (pX10_here aL0) (fun x1 => if x1 = (59 : Int32) then (fX10_takeClause_163 aL0 xS0) else (m_gi aL0 9 13 (fun x2 => m_cv aL0 9 (pX10_fails aL0 (1 : Int32) x2) (fun x3 => m_ret x3))))) else (fX10_takeClause_163 aL0 xS0)
def fX10_takeClause_72  (aL0 : Nat) (xL2 : Int32) : MM Int32 := m_cv aL0 9 (pX10_isFull aL0 xL2) (fun x1 => if x1 = 0 then (m_gi aL0 9 13 (fun x2 => m_pv aL0 9 13 (.int (x2 + 1)) (if xL2 = 0 then (m_cv aL0 9 (pX10_takeCourts aL0) (fun x6 => fX10_takeClause_139 aL0 x6)) else (if xL2 = (1 : Int32) then (m_cv aL0 9 (pX10_takeDoll aL0) (fun x5 => fX10_takeClause_139 aL0 x5)) else (if xL2 = (2 : Int32) then (m_cv aL0 9 (pX10_takePattern aL0) (fun x4 => fX10_takeClause_139 aL0 x4)) else (m_cv aL0 9 (pX10_takeQuota aL0) (fun x3 => fX10_takeClause_139 aL0 x3))))))) else (m_gi aL0 9 13 (fun x7 => m_cv aL0 9 (pX10_fails aL0 (3 : Int32) x7) (fun x8 => m_ret x8))))
def fX10_takeClause_46  (aL0 : Nat) (xS0 : Int32) : MM Int32 := if xS0 < 0 then (fX10_takeClause_62 aL0) else (if xS0 ≤ 0 then (fX10_takeClause_72 aL0 xS0) else (m_gi aL0 9 16 (fun x1 => if x1 = 0 then (fX10_takeClause_62 aL0) else (fX10_takeClause_72 aL0 xS0))))
def pX10_takeClause (a0_ : Nat) : MM Int32 := m_cv a0_ 9 (pX10_here a0_) (fun x1 => if x1 = (99 : Int32) then (fX10_takeClause_46 a0_ 0) else (if x1 = (100 : Int32) then (fX10_takeClause_46 a0_ 1) else (if x1 = (115 : Int32) then (fX10_takeClause_46 a0_ 2) else (if x1 = (113 : Int32) then (fX10_takeClause_46 a0_ 3) else (fX10_takeClause_46 a0_ ((-1)))))))
set_option maxRecDepth 100000 in
set_option maxHeartbeats 4000000 in
theorem tX10_takeClause_62 {p : Program} {l : Launch} {e : Env} {s : State} {m : MethodId} {args : Array Value} {below : List Frame} {meth : Method} {c : Code} {G : cG} (hO : c_Ok p s m c cX10_takeClause 4 RX10 G) (hr : meth.sig.returnType = (some .int)) (hk : meth.locks = false) : ∀ (aL0 : Nat), Sm p l e { frames := 4, cells := 0, slots := 0, locals := 95 } s m args below meth c G 4 (c_Q G c_vi below args s 0 0) 0 0 62 [(0, .ref aL0)] [] (fX10_takeClause_62 aL0) := by
  intro aL0
  rw [fX10_takeClause_62]
  refine sm_aload_n hO 0 dX10_takeClause_62 rfl rfl ?_
  refine sm_iconst (v := 1) hO dX10_takeClause_63 rfl ?_
  refine sm_aload_n hO 0 dX10_takeClause_64 rfl rfl ?_
  refine sm_gi hO fl_RX10_89 dX10_takeClause_65 (fun x1 => ?_)
  refine sm_cvi hO (ctX10_fails l G aL0 (1 : Int32) x1) cw_RX10_100 cv_X10_fails [] rfl rfl ⟨(Nat.le_of_ble_eq_true rfl), (Nat.le_of_ble_eq_true rfl)⟩ ⟨(Nat.le_of_ble_eq_true rfl), (Nat.le_of_ble_eq_true rfl)⟩ (Nat.le_of_ble_eq_true rfl) dX10_takeClause_68 (fun x2 => ?_)
  exact sm_iret hO hr hk (Nat.le_of_ble_eq_true rfl) (Nat.le_of_ble_eq_true rfl) dX10_takeClause_71
set_option maxRecDepth 100000 in
set_option maxHeartbeats 4000000 in
theorem tX10_takeClause_163 {p : Program} {l : Launch} {e : Env} {s : State} {m : MethodId} {args : Array Value} {below : List Frame} {meth : Method} {c : Code} {G : cG} (hO : c_Ok p s m c cX10_takeClause 4 RX10 G) (hr : meth.sig.returnType = (some .int)) (hk : meth.locks = false) : ∀ (aL0 : Nat) (xL3 : Int32), Sm p l e { frames := 4, cells := 0, slots := 0, locals := 95 } s m args below meth c G 4 (c_Q G c_vi below args s 0 0) 0 0 163 [(0, .ref aL0), (3, .int xL3)] [] (fX10_takeClause_163 aL0 xL3) := by
  intro aL0 xL3
  rw [fX10_takeClause_163]
  refine sm_aload_n hO 0 dX10_takeClause_163 rfl rfl ?_
  refine sm_dup hO dX10_takeClause_164 rfl ?_
  refine sm_gi hO fl_RX10_89 dX10_takeClause_165 (fun x1 => ?_)
  refine sm_iconst (v := 1) hO dX10_takeClause_168 rfl ?_
  refine sm_iadd hO dX10_takeClause_169 ?_
  refine sm_pv hO fl_RX10_89 fp_9_13 rfl rfl dX10_takeClause_170 ?_
  refine sm_iload_n hO 1 dX10_takeClause_173 rfl rfl ?_
  exact sm_iret hO hr hk (Nat.le_of_ble_eq_true rfl) (Nat.le_of_ble_eq_true rfl) dX10_takeClause_174
set_option maxRecDepth 100000 in
set_option maxHeartbeats 4000000 in
theorem tX10_takeClause_139 {p : Program} {l : Launch} {e : Env} {s : State} {m : MethodId} {args : Array Value} {below : List Frame} {meth : Method} {c : Code} {G : cG} (hO : c_Ok p s m c cX10_takeClause 4 RX10 G) (hr : meth.sig.returnType = (some .int)) (hk : meth.locks = false) : ∀ (aL0 : Nat) (xS0 : Int32), Sm p l e { frames := 4, cells := 0, slots := 0, locals := 95 } s m args below meth c G 4 (c_Q G c_vi below args s 0 0) 0 0 139 [(0, .ref aL0)] [.int xS0] (fX10_takeClause_139 aL0 xS0) := by
  intro aL0 xS0
  rw [fX10_takeClause_139]
  refine sm_istore_n hO [(3, .int xS0), (0, .ref aL0)] dX10_takeClause_139 rfl (by decide) rfl ?_
  refine sm_iload_n hO 0 dX10_takeClause_140 rfl rfl ?_
  refine sm_if_ne (tgt := 163) hO dX10_takeClause_141 (by decide) ?_ ?_
  · exact sm_sub [1, 0] rfl (tX10_takeClause_163 hO hr hk aL0 xS0)
  · refine sm_aload_n hO 1 dX10_takeClause_144 rfl rfl ?_
    refine sm_cvi hO (ctX10_here l G aL0) cw_RX10_92 cv_X10_here [] rfl rfl ⟨(Nat.le_of_ble_eq_true rfl), (Nat.le_of_ble_eq_true rfl)⟩ ⟨(Nat.le_of_ble_eq_true rfl), (Nat.le_of_ble_eq_true rfl)⟩ (Nat.le_of_ble_eq_true rfl) dX10_takeClause_145 (fun x1 => ?_)
    refine sm_bipush (v := 59) hO dX10_takeClause_148 rfl ?_
    refine sm_icmp_eq (tgt := 163) hO dX10_takeClause_150 (by decide) ?_ ?_
    · exact sm_sub [1, 0] rfl (tX10_takeClause_163 hO hr hk aL0 xS0)
    · refine sm_aload_n hO 1 dX10_takeClause_153 rfl rfl ?_
      refine sm_iconst (v := 1) hO dX10_takeClause_154 rfl ?_
      refine sm_aload_n hO 1 dX10_takeClause_155 rfl rfl ?_
      refine sm_gi hO fl_RX10_89 dX10_takeClause_156 (fun x2 => ?_)
      refine sm_cvi hO (ctX10_fails l G aL0 (1 : Int32) x2) cw_RX10_100 cv_X10_fails [] rfl rfl ⟨(Nat.le_of_ble_eq_true rfl), (Nat.le_of_ble_eq_true rfl)⟩ ⟨(Nat.le_of_ble_eq_true rfl), (Nat.le_of_ble_eq_true rfl)⟩ (Nat.le_of_ble_eq_true rfl) dX10_takeClause_159 (fun x3 => ?_)
      exact sm_iret hO hr hk (Nat.le_of_ble_eq_true rfl) (Nat.le_of_ble_eq_true rfl) dX10_takeClause_162
set_option maxRecDepth 100000 in
set_option maxHeartbeats 4000000 in
theorem tX10_takeClause_72 {p : Program} {l : Launch} {e : Env} {s : State} {m : MethodId} {args : Array Value} {below : List Frame} {meth : Method} {c : Code} {G : cG} (hO : c_Ok p s m c cX10_takeClause 4 RX10 G) (hr : meth.sig.returnType = (some .int)) (hk : meth.locks = false) : ∀ (aL0 : Nat) (xL2 : Int32), Sm p l e { frames := 4, cells := 0, slots := 0, locals := 95 } s m args below meth c G 4 (c_Q G c_vi below args s 0 0) 0 0 72 [(0, .ref aL0), (2, .int xL2)] [] (fX10_takeClause_72 aL0 xL2) := by
  intro aL0 xL2
  rw [fX10_takeClause_72]
  refine sm_aload_n hO 0 dX10_takeClause_72 rfl rfl ?_
  refine sm_iload_n hO 1 dX10_takeClause_73 rfl rfl ?_
  refine sm_cvi hO (ctX10_isFull l G aL0 xL2) cw_RX10_133 cv_X10_isFull [] rfl rfl ⟨(Nat.le_of_ble_eq_true rfl), (Nat.le_of_ble_eq_true rfl)⟩ ⟨(Nat.le_of_ble_eq_true rfl), (Nat.le_of_ble_eq_true rfl)⟩ (Nat.le_of_ble_eq_true rfl) dX10_takeClause_74 (fun x1 => ?_)
  refine sm_if_eq (tgt := 90) hO dX10_takeClause_77 (by decide) ?_ ?_
  · refine sm_aload_n hO 0 dX10_takeClause_90 rfl rfl ?_
    refine sm_dup hO dX10_takeClause_91 rfl ?_
    refine sm_gi hO fl_RX10_89 dX10_takeClause_92 (fun x2 => ?_)
    refine sm_iconst (v := 1) hO dX10_takeClause_95 rfl ?_
    refine sm_iadd hO dX10_takeClause_96 ?_
    refine sm_pv hO fl_RX10_89 fp_9_13 rfl rfl dX10_takeClause_97 ?_
    refine sm_iload_n hO 1 dX10_takeClause_100 rfl rfl ?_
    refine sm_if_ne (tgt := 111) hO dX10_takeClause_101 (by decide) ?_ ?_
    · refine sm_iload_n hO 1 dX10_takeClause_111 rfl rfl ?_
      refine sm_iconst (v := 1) hO dX10_takeClause_112 rfl ?_
      refine sm_icmp_ne (tgt := 123) hO dX10_takeClause_113 (by decide) ?_ ?_
      · refine sm_iload_n hO 1 dX10_takeClause_123 rfl rfl ?_
        refine sm_iconst (v := 2) hO dX10_takeClause_124 rfl ?_
        refine sm_icmp_ne (tgt := 135) hO dX10_takeClause_125 (by decide) ?_ ?_
        · refine sm_aload_n hO 0 dX10_takeClause_135 rfl rfl ?_
          refine sm_cvi hO (ctX10_takeQuota l G aL0) cw_RX10_146 cv_X10_takeQuota [] rfl rfl ⟨(Nat.le_of_ble_eq_true rfl), (Nat.le_of_ble_eq_true rfl)⟩ ⟨(Nat.le_of_ble_eq_true rfl), (Nat.le_of_ble_eq_true rfl)⟩ (Nat.le_of_ble_eq_true rfl) dX10_takeClause_136 (fun x3 => ?_)
          exact sm_sub [0] rfl (tX10_takeClause_139 hO hr hk aL0 x3)
        · refine sm_aload_n hO 0 dX10_takeClause_128 rfl rfl ?_
          refine sm_cvi hO (ctX10_takePattern l G aL0) cw_RX10_143 cv_X10_takePattern [] rfl rfl ⟨(Nat.le_of_ble_eq_true rfl), (Nat.le_of_ble_eq_true rfl)⟩ ⟨(Nat.le_of_ble_eq_true rfl), (Nat.le_of_ble_eq_true rfl)⟩ (Nat.le_of_ble_eq_true rfl) dX10_takeClause_129 (fun x4 => ?_)
          refine sm_goto (tgt := 139) hO dX10_takeClause_132 (by decide) ?_
          exact sm_sub [0] rfl (tX10_takeClause_139 hO hr hk aL0 x4)
      · refine sm_aload_n hO 0 dX10_takeClause_116 rfl rfl ?_
        refine sm_cvi hO (ctX10_takeDoll l G aL0) cw_RX10_140 cv_X10_takeDoll [] rfl rfl ⟨(Nat.le_of_ble_eq_true rfl), (Nat.le_of_ble_eq_true rfl)⟩ ⟨(Nat.le_of_ble_eq_true rfl), (Nat.le_of_ble_eq_true rfl)⟩ (Nat.le_of_ble_eq_true rfl) dX10_takeClause_117 (fun x5 => ?_)
        refine sm_goto (tgt := 139) hO dX10_takeClause_120 (by decide) ?_
        exact sm_sub [0] rfl (tX10_takeClause_139 hO hr hk aL0 x5)
    · refine sm_aload_n hO 0 dX10_takeClause_104 rfl rfl ?_
      refine sm_cvi hO (ctX10_takeCourts l G aL0) cw_RX10_137 cv_X10_takeCourts [] rfl rfl ⟨(Nat.le_of_ble_eq_true rfl), (Nat.le_of_ble_eq_true rfl)⟩ ⟨(Nat.le_of_ble_eq_true rfl), (Nat.le_of_ble_eq_true rfl)⟩ (Nat.le_of_ble_eq_true rfl) dX10_takeClause_105 (fun x6 => ?_)
      refine sm_goto (tgt := 139) hO dX10_takeClause_108 (by decide) ?_
      exact sm_sub [0] rfl (tX10_takeClause_139 hO hr hk aL0 x6)
  · refine sm_aload_n hO 0 dX10_takeClause_80 rfl rfl ?_
    refine sm_iconst (v := 3) hO dX10_takeClause_81 rfl ?_
    refine sm_aload_n hO 0 dX10_takeClause_82 rfl rfl ?_
    refine sm_gi hO fl_RX10_89 dX10_takeClause_83 (fun x7 => ?_)
    refine sm_cvi hO (ctX10_fails l G aL0 (3 : Int32) x7) cw_RX10_100 cv_X10_fails [] rfl rfl ⟨(Nat.le_of_ble_eq_true rfl), (Nat.le_of_ble_eq_true rfl)⟩ ⟨(Nat.le_of_ble_eq_true rfl), (Nat.le_of_ble_eq_true rfl)⟩ (Nat.le_of_ble_eq_true rfl) dX10_takeClause_86 (fun x8 => ?_)
    exact sm_iret hO hr hk (Nat.le_of_ble_eq_true rfl) (Nat.le_of_ble_eq_true rfl) dX10_takeClause_89
set_option maxRecDepth 100000 in
set_option maxHeartbeats 4000000 in
theorem tX10_takeClause_46 {p : Program} {l : Launch} {e : Env} {s : State} {m : MethodId} {args : Array Value} {below : List Frame} {meth : Method} {c : Code} {G : cG} (hO : c_Ok p s m c cX10_takeClause 4 RX10 G) (hr : meth.sig.returnType = (some .int)) (hk : meth.locks = false) : ∀ (aL0 : Nat) (xS0 : Int32), Sm p l e { frames := 4, cells := 0, slots := 0, locals := 95 } s m args below meth c G 4 (c_Q G c_vi below args s 0 0) 0 0 46 [(0, .ref aL0)] [.int xS0] (fX10_takeClause_46 aL0 xS0) := by
  intro aL0 xS0
  rw [fX10_takeClause_46]
  refine sm_istore_n hO [(2, .int xS0), (0, .ref aL0)] dX10_takeClause_46 rfl (by decide) rfl ?_
  refine sm_iload_n hO 0 dX10_takeClause_47 rfl rfl ?_
  refine sm_if_lt (tgt := 62) hO dX10_takeClause_48 (by decide) ?_ ?_
  · exact sm_sub [1] rfl (tX10_takeClause_62 hO hr hk aL0)
  · refine sm_iload_n hO 0 dX10_takeClause_51 rfl rfl ?_
    refine sm_if_le (tgt := 72) hO dX10_takeClause_52 (by decide) ?_ ?_
    · exact sm_sub [1, 0] rfl (tX10_takeClause_72 hO hr hk aL0 xS0)
    · refine sm_aload_n hO 1 dX10_takeClause_55 rfl rfl ?_
      refine sm_gi hO fl_RX10_117 dX10_takeClause_56 (fun x1 => ?_)
      refine sm_if_ne (tgt := 72) hO dX10_takeClause_59 (by decide) ?_ ?_
      · exact sm_sub [1, 0] rfl (tX10_takeClause_72 hO hr hk aL0 xS0)
      · exact sm_sub [1] rfl (tX10_takeClause_62 hO hr hk aL0)
set_option maxRecDepth 100000 in
set_option maxHeartbeats 4000000 in
theorem ctX10_takeClause (l : Launch) (G : cG) (a0_ : Nat) : Ct l G yX10_takeClause cX10_takeClause 4 (some .int) 4 95 0 0 [.ref a0_] c_vi (pX10_takeClause a0_) := by
  refine Ct.of (lv := [(0, .ref a0_)]) (by decide) (Nat.le_of_ble_eq_true rfl) rfl (fun p e s m args below meth c hO hr hk hin => ?_)
  rw [pX10_takeClause]
  refine sm_aload_n hO 0 dX10_takeClause_0 rfl rfl ?_
  refine sm_cvi hO (ctX10_here l G a0_) cw_RX10_92 cv_X10_here [] rfl rfl ⟨(Nat.le_of_ble_eq_true rfl), (Nat.le_of_ble_eq_true rfl)⟩ ⟨(Nat.le_of_ble_eq_true rfl), (Nat.le_of_ble_eq_true rfl)⟩ (Nat.le_of_ble_eq_true rfl) dX10_takeClause_1 (fun x1 => ?_)
  refine sm_istore_n hO [(1, .int x1), (0, .ref a0_)] dX10_takeClause_4 rfl (by decide) rfl ?_
  refine sm_iload_n hO 0 dX10_takeClause_5 rfl rfl ?_
  refine sm_bipush (v := 99) hO dX10_takeClause_6 rfl ?_
  refine sm_icmp_ne (tgt := 15) hO dX10_takeClause_8 (by decide) ?_ ?_
  · refine sm_iload_n hO 0 dX10_takeClause_15 rfl rfl ?_
    refine sm_bipush (v := 100) hO dX10_takeClause_16 rfl ?_
    refine sm_icmp_ne (tgt := 25) hO dX10_takeClause_18 (by decide) ?_ ?_
    · refine sm_iload_n hO 0 dX10_takeClause_25 rfl rfl ?_
      refine sm_bipush (v := 115) hO dX10_takeClause_26 rfl ?_
      refine sm_icmp_ne (tgt := 35) hO dX10_takeClause_28 (by decide) ?_ ?_
      · refine sm_iload_n hO 0 dX10_takeClause_35 rfl rfl ?_
        refine sm_bipush (v := 113) hO dX10_takeClause_36 rfl ?_
        refine sm_icmp_ne (tgt := 45) hO dX10_takeClause_38 (by decide) ?_ ?_
        · refine sm_iconst (v := (-1)) hO dX10_takeClause_45 rfl ?_
          exact sm_sub [1] rfl (tX10_takeClause_46 hO hr hk a0_ ((-1)))
        · refine sm_iconst (v := 3) hO dX10_takeClause_41 rfl ?_
          refine sm_goto (tgt := 46) hO dX10_takeClause_42 (by decide) ?_
          exact sm_sub [1] rfl (tX10_takeClause_46 hO hr hk a0_ 3)
      · refine sm_iconst (v := 2) hO dX10_takeClause_31 rfl ?_
        refine sm_goto (tgt := 46) hO dX10_takeClause_32 (by decide) ?_
        exact sm_sub [1] rfl (tX10_takeClause_46 hO hr hk a0_ 2)
    · refine sm_iconst (v := 1) hO dX10_takeClause_21 rfl ?_
      refine sm_goto (tgt := 46) hO dX10_takeClause_22 (by decide) ?_
      exact sm_sub [1] rfl (tX10_takeClause_46 hO hr hk a0_ 1)
  · refine sm_iconst (v := 0) hO dX10_takeClause_11 rfl ?_
    refine sm_goto (tgt := 46) hO dX10_takeClause_12 (by decide) ?_
    exact sm_sub [1] rfl (tX10_takeClause_46 hO hr hk a0_ 0)
