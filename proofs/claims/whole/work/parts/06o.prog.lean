/-! DollCongress.tear()I -/
def pX9_tear (a0_ : Nat) : MM Int32 := m_gr a0_ 8 3 (fun a1 => m_gi a1 0 2 (fun x2 => m_gr a0_ 8 3 (fun a3 => m_pv a3 0 2 (.int 0) (m_ret x2))))
set_option maxRecDepth 100000 in
set_option maxHeartbeats 4000000 in
theorem ctX9_tear (l : Launch) (G : cG) (a0_ : Nat) : Ct l G yX9_tear cX9_tear 2 (some .int) 0 0 0 0 [.ref a0_] c_vi (pX9_tear a0_) := by
  refine Ct.of (lv := [(0, .ref a0_)]) (by decide) (Nat.le_of_ble_eq_true rfl) rfl (fun p e s m args below meth c hO hr hk hin => ?_)
  rw [pX9_tear]
  refine sm_aload_n hO 0 dX9_tear_0 rfl rfl ?_
  refine sm_gr hO fl_RX9_33 dX9_tear_1 (fun a1 => ?_)
  refine sm_gi hO fl_RX9_92 dX9_tear_4 (fun x2 => ?_)
  refine sm_istore_n hO [(1, .int x2), (0, .ref a0_)] dX9_tear_7 rfl (by decide) rfl ?_
  refine sm_aload_n hO 1 dX9_tear_8 rfl rfl ?_
  refine sm_gr hO fl_RX9_33 dX9_tear_9 (fun a3 => ?_)
  refine sm_iconst (v := 0) hO dX9_tear_12 rfl ?_
  refine sm_pv hO fl_RX9_92 fp_0_2 rfl rfl dX9_tear_13 ?_
  refine sm_iload_n hO 0 dX9_tear_16 rfl rfl ?_
  exact sm_iret hO hr hk (Nat.le_of_ble_eq_true rfl) (Nat.le_of_ble_eq_true rfl) dX9_tear_17
/-! DollCongressModel.tear()I -/
def pX10_tear (a0_ : Nat) : MM Int32 := m_gi a0_ 9 31 (fun x1 => m_pv a0_ 9 31 (.int 0) (m_ret x1))
set_option maxRecDepth 100000 in
set_option maxHeartbeats 4000000 in
theorem ctX10_tear (l : Launch) (G : cG) (a0_ : Nat) : Ct l G yX10_tear cX10_tear 2 (some .int) 0 0 0 0 [.ref a0_] c_vi (pX10_tear a0_) := by
  refine Ct.of (lv := [(0, .ref a0_)]) (by decide) (Nat.le_of_ble_eq_true rfl) rfl (fun p e s m args below meth c hO hr hk hin => ?_)
  rw [pX10_tear]
  refine sm_aload_n hO 0 dX10_tear_0 rfl rfl ?_
  refine sm_gi hO fl_RX10_169 dX10_tear_1 (fun x1 => ?_)
  refine sm_istore_n hO [(1, .int x1), (0, .ref a0_)] dX10_tear_4 rfl (by decide) rfl ?_
  refine sm_aload_n hO 1 dX10_tear_5 rfl rfl ?_
  refine sm_iconst (v := 0) hO dX10_tear_6 rfl ?_
  refine sm_pv hO fl_RX10_169 fp_9_31 rfl rfl dX10_tear_7 ?_
  refine sm_iload_n hO 0 dX10_tear_10 rfl rfl ?_
  exact sm_iret hO hr hk (Nat.le_of_ble_eq_true rfl) (Nat.le_of_ble_eq_true rfl) dX10_tear_11
/-! DollCongress$Book.firstWrong(LDollCongress$Scene;)I -/
def fX0_firstWrong_2  : Nat → Nat → Nat → Int32 → MM Int32
  | 0, _, _, _ => m_bad
  | n + 1, aL0, aL1, xL2 => m_gi aL0 0 2 (fun x1 => if x1 ≤ xL2 then (m_ret ((-1) : Int32)) else (m_gr aL1 5 0 (fun a2 => m_gr aL0 0 0 (fun a3 => m_li 0 a3 xL2 (fun x4 => m_li 0 a2 x4 (fun x5 => m_gr aL0 0 1 (fun a6 => m_li 0 a6 xL2 (fun x7 => if x5 = x7 then (m_let (xL2 + 1) (fun x8 => fX0_firstWrong_2 n aL0 aL1 x8)) else (m_ret xL2)))))))))
def pX0_firstWrong (a0_ : Nat) (a1_ : Nat) : MM Int32 := fX0_firstWrong_2 c_fu a0_ a1_ 0
set_option maxRecDepth 100000 in
set_option maxHeartbeats 4000000 in
theorem tX0_firstWrong_2 {p : Program} {l : Launch} {e : Env} {s : State} {m : MethodId} {args : Array Value} {below : List Frame} {meth : Method} {c : Code} {G : cG} (hO : c_Ok p s m c cX0_firstWrong 3 RX0 G) (hr : meth.sig.returnType = (some .int)) (hk : meth.locks = false) : ∀ (n : Nat) (aL0 : Nat) (aL1 : Nat) (xL2 : Int32), Sm p l e { frames := 0, cells := 0, slots := 0, locals := 0 } s m args below meth c G 3 (c_Q G c_vi below args s 0 0) 0 0 2 [(0, .ref aL0), (1, .ref aL1), (2, .int xL2)] [] (fX0_firstWrong_2 n aL0 aL1 xL2) := by
  intro n
  induction n with
  | zero =>
    intro aL0 aL1 xL2
    exact sm_bad
  | succ n ih =>
    intro aL0 aL1 xL2
    rw [fX0_firstWrong_2]
    refine sm_iload_n hO 2 dX0_firstWrong_2 rfl rfl ?_
    refine sm_aload_n hO 0 dX0_firstWrong_3 rfl rfl ?_
    refine sm_gi hO fl_RX0_18 dX0_firstWrong_4 (fun x1 => ?_)
    refine sm_icmp_ge (tgt := 38) hO dX0_firstWrong_7 (by decide) ?_ ?_
    · refine sm_iconst (v := (-1)) hO dX0_firstWrong_38 rfl ?_
      exact sm_iret hO hr hk (Nat.le_of_ble_eq_true rfl) (Nat.le_of_ble_eq_true rfl) dX0_firstWrong_39
    · refine sm_aload_n hO 1 dX0_firstWrong_10 rfl rfl ?_
      refine sm_gr hO fl_RX0_22 dX0_firstWrong_11 (fun a2 => ?_)
      refine sm_aload_n hO 0 dX0_firstWrong_14 rfl rfl ?_
      refine sm_gr hO fl_RX0_9 dX0_firstWrong_15 (fun a3 => ?_)
      refine sm_iload_n hO 2 dX0_firstWrong_18 rfl rfl ?_
      refine sm_li hO dX0_firstWrong_19 (fun x4 => ?_)
      refine sm_li hO dX0_firstWrong_20 (fun x5 => ?_)
      refine sm_aload_n hO 0 dX0_firstWrong_21 rfl rfl ?_
      refine sm_gr hO fl_RX0_15 dX0_firstWrong_22 (fun a6 => ?_)
      refine sm_iload_n hO 2 dX0_firstWrong_25 rfl rfl ?_
      refine sm_li hO dX0_firstWrong_26 (fun x7 => ?_)
      refine sm_icmp_eq (tgt := 32) hO dX0_firstWrong_27 (by decide) ?_ ?_
      · refine sm_iincL (v := xL2 + 1) hO 2 (fun x8 => [(2, .int x8), (0, .ref aL0), (1, .ref aL1)]) dX0_firstWrong_32 rfl rfl (by decide) (fun _ => rfl) (fun x8 => ?_)
        refine sm_goto (tgt := 2) hO dX0_firstWrong_35 (by decide) ?_
        exact sm_sub [1, 2, 0] rfl (ih aL0 aL1 x8)
      · refine sm_iload_n hO 2 dX0_firstWrong_30 rfl rfl ?_
        exact sm_iret hO hr hk (Nat.le_of_ble_eq_true rfl) (Nat.le_of_ble_eq_true rfl) dX0_firstWrong_31
set_option maxRecDepth 100000 in
set_option maxHeartbeats 4000000 in
theorem ctX0_firstWrong (l : Launch) (G : cG) (a0_ : Nat) (a1_ : Nat) : Ct l G yX0_firstWrong cX0_firstWrong 3 (some .int) 0 0 0 0 [.ref a0_, .ref a1_] c_vi (pX0_firstWrong a0_ a1_) := by
  refine Ct.of (lv := [(0, .ref a0_), (1, .ref a1_)]) (by decide) (Nat.le_of_ble_eq_true rfl) rfl (fun p e s m args below meth c hO hr hk hin => ?_)
  rw [pX0_firstWrong]
  refine sm_iconst (v := 0) hO dX0_firstWrong_0 rfl ?_
  refine sm_istore_n hO [(2, .int 0), (0, .ref a0_), (1, .ref a1_)] dX0_firstWrong_1 rfl (by decide) rfl ?_
  exact sm_sub [1, 2, 0] rfl (tX0_firstWrong_2 hO hr hk c_fu a0_ a1_ 0)
/-! DollCongress.judge()I -/
def pX9_judge (a0_ : Nat) : MM Int32 := m_gr a0_ 8 3 (fun a1 => m_gr a0_ 8 1 (fun a2 => m_cv a1 0 (pX0_firstWrong a1 a2) (fun x3 => m_ret x3)))
set_option maxRecDepth 100000 in
set_option maxHeartbeats 4000000 in
theorem ctX9_judge (l : Launch) (G : cG) (a0_ : Nat) : Ct l G yX9_judge cX9_judge 1 (some .int) 1 22 0 0 [.ref a0_] c_vi (pX9_judge a0_) := by
  refine Ct.of (lv := [(0, .ref a0_)]) (by decide) (Nat.le_of_ble_eq_true rfl) rfl (fun p e s m args below meth c hO hr hk hin => ?_)
  rw [pX9_judge]
  refine sm_aload_n hO 0 dX9_judge_0 rfl rfl ?_
  refine sm_gr hO fl_RX9_33 dX9_judge_1 (fun a1 => ?_)
  refine sm_aload_n hO 0 dX9_judge_4 rfl rfl ?_
  refine sm_gr hO fl_RX9_19 dX9_judge_5 (fun a2 => ?_)
  refine sm_cvi hO (ctX0_firstWrong l G a1 a2) cw_RX9_282 cv_X0_firstWrong [] rfl rfl ⟨(Nat.le_of_ble_eq_true rfl), (Nat.le_of_ble_eq_true rfl)⟩ ⟨(Nat.le_of_ble_eq_true rfl), (Nat.le_of_ble_eq_true rfl)⟩ (Nat.le_of_ble_eq_true rfl) dX9_judge_8 (fun x3 => ?_)
  exact sm_iret hO hr hk (Nat.le_of_ble_eq_true rfl) (Nat.le_of_ble_eq_true rfl) dX9_judge_11
/-! DollCongressModel.judge()I -/
def fX10_judge_2  : Nat → Nat → Int32 → MM Int32
  | 0, _, _ => m_bad
  | n + 1, aL0, xL1 => m_gi aL0 9 31 (fun x1 => if x1 ≤ xL1 then (m_ret ((-1) : Int32)) else (m_gr aL0 9 8 (fun a2 => m_gr aL0 9 32 (fun a3 => m_li 0 a3 xL1 (fun x4 => m_li 0 a2 x4 (fun x5 => m_gr aL0 9 33 (fun a6 => m_li 0 a6 xL1 (fun x7 => if x5 = x7 then (m_let (xL1 + 1) (fun x8 => fX10_judge_2 n aL0 x8)) else (m_ret xL1)))))))))
def pX10_judge (a0_ : Nat) : MM Int32 := fX10_judge_2 c_fu a0_ 0
set_option maxRecDepth 100000 in
set_option maxHeartbeats 4000000 in
theorem tX10_judge_2 {p : Program} {l : Launch} {e : Env} {s : State} {m : MethodId} {args : Array Value} {below : List Frame} {meth : Method} {c : Code} {G : cG} (hO : c_Ok p s m c cX10_judge 2 RX10 G) (hr : meth.sig.returnType = (some .int)) (hk : meth.locks = false) : ∀ (n : Nat) (aL0 : Nat) (xL1 : Int32), Sm p l e { frames := 0, cells := 0, slots := 0, locals := 0 } s m args below meth c G 2 (c_Q G c_vi below args s 0 0) 0 0 2 [(0, .ref aL0), (1, .int xL1)] [] (fX10_judge_2 n aL0 xL1) := by
  intro n
  induction n with
  | zero =>
    intro aL0 xL1
    exact sm_bad
  | succ n ih =>
    intro aL0 xL1
    rw [fX10_judge_2]
    refine sm_iload_n hO 1 dX10_judge_2 rfl rfl ?_
    refine sm_aload_n hO 0 dX10_judge_3 rfl rfl ?_
    refine sm_gi hO fl_RX10_169 dX10_judge_4 (fun x1 => ?_)
    refine sm_icmp_ge (tgt := 38) hO dX10_judge_7 (by decide) ?_ ?_
    · refine sm_iconst (v := (-1)) hO dX10_judge_38 rfl ?_
      exact sm_iret hO hr hk (Nat.le_of_ble_eq_true rfl) (Nat.le_of_ble_eq_true rfl) dX10_judge_39
    · refine sm_aload_n hO 0 dX10_judge_10 rfl rfl ?_
      refine sm_gr hO fl_RX10_22 dX10_judge_11 (fun a2 => ?_)
      refine sm_aload_n hO 0 dX10_judge_14 rfl rfl ?_
      refine sm_gr hO fl_RX10_60 dX10_judge_15 (fun a3 => ?_)
      refine sm_iload_n hO 1 dX10_judge_18 rfl rfl ?_
      refine sm_li hO dX10_judge_19 (fun x4 => ?_)
      refine sm_li hO dX10_judge_20 (fun x5 => ?_)
      refine sm_aload_n hO 0 dX10_judge_21 rfl rfl ?_
      refine sm_gr hO fl_RX10_63 dX10_judge_22 (fun a6 => ?_)
      refine sm_iload_n hO 1 dX10_judge_25 rfl rfl ?_
      refine sm_li hO dX10_judge_26 (fun x7 => ?_)
      refine sm_icmp_eq (tgt := 32) hO dX10_judge_27 (by decide) ?_ ?_
      · refine sm_iincL (v := xL1 + 1) hO 1 (fun x8 => [(1, .int x8), (0, .ref aL0)]) dX10_judge_32 rfl rfl (by decide) (fun _ => rfl) (fun x8 => ?_)
        refine sm_goto (tgt := 2) hO dX10_judge_35 (by decide) ?_
        exact sm_sub [1, 0] rfl (ih aL0 x8)
      · refine sm_iload_n hO 1 dX10_judge_30 rfl rfl ?_
        exact sm_iret hO hr hk (Nat.le_of_ble_eq_true rfl) (Nat.le_of_ble_eq_true rfl) dX10_judge_31
set_option maxRecDepth 100000 in
set_option maxHeartbeats 4000000 in
theorem ctX10_judge (l : Launch) (G : cG) (a0_ : Nat) : Ct l G yX10_judge cX10_judge 2 (some .int) 0 0 0 0 [.ref a0_] c_vi (pX10_judge a0_) := by
  refine Ct.of (lv := [(0, .ref a0_)]) (by decide) (Nat.le_of_ble_eq_true rfl) rfl (fun p e s m args below meth c hO hr hk hin => ?_)
  rw [pX10_judge]
  refine sm_iconst (v := 0) hO dX10_judge_0 rfl ?_
  refine sm_istore_n hO [(1, .int 0), (0, .ref a0_)] dX10_judge_1 rfl (by decide) rfl ?_
  exact sm_sub [1, 0] rfl (tX10_judge_2 hO hr hk c_fu a0_ 0)
/-! DollCongress.seed(I)I -/
def pX9_seed (a0_ : Nat) (x1_ : Int32) : MM Int32 := if 0 ≤ x1_ then (m_gi a0_ 8 9 (fun x1 => m_pv a0_ 8 9 (.int x1_) (m_ret x1))) else (m_ret ((-1000000002) : Int32))
set_option maxRecDepth 100000 in
set_option maxHeartbeats 4000000 in
theorem ctX9_seed (l : Launch) (G : cG) (a0_ : Nat) (x1_ : Int32) : Ct l G yX9_seed cX9_seed 3 (some .int) 0 0 0 0 [.ref a0_, .int x1_] c_vi (pX9_seed a0_ x1_) := by
  refine Ct.of (lv := [(0, .ref a0_), (1, .int x1_)]) (by decide) (Nat.le_of_ble_eq_true rfl) rfl (fun p e s m args below meth c hO hr hk hin => ?_)
  rw [pX9_seed]
  refine sm_iload_n hO 1 dX9_seed_0 rfl rfl ?_
  refine sm_if_ge (tgt := 7) hO dX9_seed_1 (by decide) ?_ ?_
  · refine sm_aload_n hO 0 dX9_seed_7 rfl rfl ?_
    refine sm_gi hO fl_RX9_286 dX9_seed_8 (fun x1 => ?_)
    refine sm_istore_n hO [(2, .int x1), (0, .ref a0_), (1, .int x1_)] dX9_seed_11 rfl (by decide) rfl ?_
    refine sm_aload_n hO 1 dX9_seed_12 rfl rfl ?_
    refine sm_iload_n hO 2 dX9_seed_13 rfl rfl ?_
    refine sm_pv hO fl_RX9_286 fp_8_9 rfl rfl dX9_seed_14 ?_
    refine sm_iload_n hO 0 dX9_seed_17 rfl rfl ?_
    exact sm_iret hO hr hk (Nat.le_of_ble_eq_true rfl) (Nat.le_of_ble_eq_true rfl) dX9_seed_18
  · refine sm_ldc (v := (-1000000002)) hO kw_362 dX9_seed_4 ?_
    exact sm_iret hO hr hk (Nat.le_of_ble_eq_true rfl) (Nat.le_of_ble_eq_true rfl) dX9_seed_6
/-! DollCongressModel.seed(I)I -/
def pX10_seed (a0_ : Nat) (x1_ : Int32) : MM Int32 := if 0 ≤ x1_ then (m_gi a0_ 9 9 (fun x1 => m_pv a0_ 9 9 (.int x1_) (m_ret x1))) else (m_ret ((-1000000002) : Int32))
set_option maxRecDepth 100000 in
set_option maxHeartbeats 4000000 in
theorem ctX10_seed (l : Launch) (G : cG) (a0_ : Nat) (x1_ : Int32) : Ct l G yX10_seed cX10_seed 3 (some .int) 0 0 0 0 [.ref a0_, .int x1_] c_vi (pX10_seed a0_ x1_) := by
  refine Ct.of (lv := [(0, .ref a0_), (1, .int x1_)]) (by decide) (Nat.le_of_ble_eq_true rfl) rfl (fun p e s m args below meth c hO hr hk hin => ?_)
  rw [pX10_seed]
  refine sm_iload_n hO 1 dX10_seed_0 rfl rfl ?_
  refine sm_if_ge (tgt := 7) hO dX10_seed_1 (by decide) ?_ ?_
  · refine sm_aload_n hO 0 dX10_seed_7 rfl rfl ?_
    refine sm_gi hO fl_RX10_260 dX10_seed_8 (fun x1 => ?_)
    refine sm_istore_n hO [(2, .int x1), (0, .ref a0_), (1, .int x1_)] dX10_seed_11 rfl (by decide) rfl ?_
    refine sm_aload_n hO 1 dX10_seed_12 rfl rfl ?_
    refine sm_iload_n hO 2 dX10_seed_13 rfl rfl ?_
    refine sm_pv hO fl_RX10_260 fp_9_9 rfl rfl dX10_seed_14 ?_
    refine sm_iload_n hO 0 dX10_seed_17 rfl rfl ?_
    exact sm_iret hO hr hk (Nat.le_of_ble_eq_true rfl) (Nat.le_of_ble_eq_true rfl) dX10_seed_18
  · refine sm_ldc (v := (-1000000002)) hO kw_925 dX10_seed_4 ?_
    exact sm_iret hO hr hk (Nat.le_of_ble_eq_true rfl) (Nat.le_of_ble_eq_true rfl) dX10_seed_6
/-! DollCongress.keep(I)I -/
def pX9_keep (a0_ : Nat) (x1_ : Int32) : MM Int32 := if x1_ < 0 then (m_ret ((-1000000001) : Int32)) else (if x1_ < (2 : Int32) then (m_gr a0_ 8 4 (fun a1 => m_lr 2 a1 x1_ (fun a2 => m_gr a2 1 0 (fun a3 => m_gr a0_ 8 1 (fun a4 => m_cv a3 5 (pX5_copyFrom a3 a4) (fun _ => m_gi a0_ 8 9 (fun x5 => m_pv a2 1 1 (.int x5) (m_pv a2 1 2 (.int 1) (m_gr a0_ 8 2 (fun a6 => m_cv a6 3 (pX3_forget a6) (fun _ => m_ret (1 : Int32)))))))))))) else (m_ret ((-1000000001) : Int32)))
set_option maxRecDepth 100000 in
set_option maxHeartbeats 4000000 in
theorem ctX9_keep (l : Launch) (G : cG) (a0_ : Nat) (x1_ : Int32) : Ct l G yX9_keep cX9_keep 3 (some .int) 2 61 0 0 [.ref a0_, .int x1_] c_vi (pX9_keep a0_ x1_) := by
  refine Ct.of (lv := [(0, .ref a0_), (1, .int x1_)]) (by decide) (Nat.le_of_ble_eq_true rfl) rfl (fun p e s m args below meth c hO hr hk hin => ?_)
  rw [pX9_keep]
  refine sm_iload_n hO 1 dX9_keep_0 rfl rfl ?_
  refine sm_if_lt (tgt := 9) hO dX9_keep_1 (by decide) ?_ ?_
  · refine sm_ldc (v := (-1000000001)) hO kw_512 dX9_keep_9 ?_
    exact sm_iret hO hr hk (Nat.le_of_ble_eq_true rfl) (Nat.le_of_ble_eq_true rfl) dX9_keep_11
  · refine sm_iload_n hO 1 dX9_keep_4 rfl rfl ?_
    refine sm_iconst (v := 2) hO dX9_keep_5 rfl ?_
    refine sm_icmp_lt (tgt := 12) hO dX9_keep_6 (by decide) ?_ ?_
    · refine sm_aload_n hO 0 dX9_keep_12 rfl rfl ?_
      refine sm_gr hO fl_RX9_39 dX9_keep_13 (fun a1 => ?_)
      refine sm_iload_n hO 1 dX9_keep_16 rfl rfl ?_
      refine sm_lr hO rfl dX9_keep_17 (by decide) (fun a2 => ?_)
      refine sm_astore_n hO [(2, .ref a2), (0, .ref a0_), (1, .int x1_)] dX9_keep_18 rfl (by decide) rfl ?_
      refine sm_aload_n hO 0 dX9_keep_19 rfl rfl ?_
      refine sm_gr hO fl_RX9_289 dX9_keep_20 (fun a3 => ?_)
      refine sm_aload_n hO 1 dX9_keep_23 rfl rfl ?_
      refine sm_gr hO fl_RX9_19 dX9_keep_24 (fun a4 => ?_)
      refine sm_cvv hO (ctX5_copyFrom l G a3 a4) cw_RX9_292 cv_X5_copyFrom [] rfl rfl ⟨(Nat.le_of_ble_eq_true rfl), (Nat.le_of_ble_eq_true rfl)⟩ ⟨(Nat.le_of_ble_eq_true rfl), (Nat.le_of_ble_eq_true rfl)⟩ (Nat.le_of_ble_eq_true rfl) dX9_keep_27 (fun _ => ?_)
      refine sm_aload_n hO 0 dX9_keep_30 rfl rfl ?_
      refine sm_aload_n hO 1 dX9_keep_31 rfl rfl ?_
      refine sm_gi hO fl_RX9_286 dX9_keep_32 (fun x5 => ?_)
      refine sm_pv hO fl_RX9_295 fp_1_1 rfl rfl dX9_keep_35 ?_
      refine sm_aload_n hO 0 dX9_keep_38 rfl rfl ?_
      refine sm_iconst (v := 1) hO dX9_keep_39 rfl ?_
      refine sm_pv hO fl_RX9_93 fp_1_2 rfl rfl dX9_keep_40 ?_
      refine sm_aload_n hO 1 dX9_keep_43 rfl rfl ?_
      refine sm_gr hO fl_RX9_26 dX9_keep_44 (fun a6 => ?_)
      refine sm_cvv hO (ctX3_forget l G a6) cw_RX9_89 cv_X3_forget [] rfl rfl ⟨(Nat.le_of_ble_eq_true rfl), (Nat.le_of_ble_eq_true rfl)⟩ ⟨(Nat.le_of_ble_eq_true rfl), (Nat.le_of_ble_eq_true rfl)⟩ (Nat.le_of_ble_eq_true rfl) dX9_keep_47 (fun _ => ?_)
      refine sm_iconst (v := 1) hO dX9_keep_50 rfl ?_
      exact sm_iret hO hr hk (Nat.le_of_ble_eq_true rfl) (Nat.le_of_ble_eq_true rfl) dX9_keep_51
    · refine sm_ldc (v := (-1000000001)) hO kw_512 dX9_keep_9 ?_
      exact sm_iret hO hr hk (Nat.le_of_ble_eq_true rfl) (Nat.le_of_ble_eq_true rfl) dX9_keep_11
/-! DollCongressModel.keep(I)I -/
def fX10_keep_15 (k44 : Nat → Int32 → MM Int32) : Nat → Nat → Int32 → Int32 → MM Int32
  | 0, _, _, _ => m_bad
  | n + 1, aL0, xL1, xL2 => if (36 : Int32) ≤ xL2 then (k44 aL0 xL1) else (m_gr aL0 9 34 (fun a1 => m_gr aL0 9 8 (fun a2 => m_li 0 a2 xL2 (fun x3 => m_si a1 (((37 : Int32) * xL1) + xL2) x3 (m_let (xL2 + 1) (fun x4 => fX10_keep_15 k44 n aL0 xL1 x4))))))
def fX10_keep_44  (aL0 : Nat) (xL1 : Int32) : MM Int32 := m_gr aL0 9 34 (fun a1 => m_gi aL0 9 9 (fun x2 => m_si a1 (((37 : Int32) * xL1) + 36) x2 (m_gr aL0 9 35 (fun a3 => m_sz a3 xL1 (1 : Int32) (m_pv aL0 9 25 (.int 0) (m_ret (1 : Int32)))))))
def pX10_keep (a0_ : Nat) (x1_ : Int32) : MM Int32 := m_bind (pX10_in (x1_.toInt64) 0 1) (fun x1 => if x1 = 0 then (m_ret ((-1000000001) : Int32)) else (fX10_keep_15 fX10_keep_44 c_fu a0_ x1_ 0))
set_option maxRecDepth 100000 in
set_option maxHeartbeats 4000000 in
theorem tX10_keep_15 {p : Program} {l : Launch} {e : Env} {s : State} {m : MethodId} {args : Array Value} {below : List Frame} {meth : Method} {c : Code} {G : cG} (hO : c_Ok p s m c cX10_keep 3 RX10 G) (hr : meth.sig.returnType = (some .int)) (hk : meth.locks = false) (k44 : Nat → Int32 → MM Int32) (hk44 : ∀ (aL0 : Nat) (xL1 : Int32), Sm p l e { frames := 1, cells := 0, slots := 0, locals := 25 } s m args below meth c G 3 (c_Q G c_vi below args s 0 0) 0 0 44 [(0, .ref aL0), (1, .int xL1)] [] (k44 aL0 xL1))  : ∀ (n : Nat) (aL0 : Nat) (xL1 : Int32) (xL2 : Int32), Sm p l e { frames := 1, cells := 0, slots := 0, locals := 25 } s m args below meth c G 3 (c_Q G c_vi below args s 0 0) 0 0 15 [(0, .ref aL0), (1, .int xL1), (2, .int xL2)] [] (fX10_keep_15 k44 n aL0 xL1 xL2) := by
  intro n
  induction n with
  | zero =>
    intro aL0 xL1 xL2
    exact sm_bad
  | succ n ih =>
    intro aL0 xL1 xL2
    rw [fX10_keep_15]
    refine sm_iload_n hO 2 dX10_keep_15 rfl rfl ?_
    refine sm_bipush (v := 36) hO dX10_keep_16 rfl ?_
    refine sm_icmp_ge (tgt := 44) hO dX10_keep_18 (by decide) ?_ ?_
    · exact sm_sub [0, 1] rfl (hk44 aL0 xL1)
    · refine sm_aload_n hO 0 dX10_keep_21 rfl rfl ?_
      refine sm_gr hO fl_RX10_66 dX10_keep_22 (fun a1 => ?_)
      refine sm_bipush (v := 37) hO dX10_keep_25 rfl ?_
      refine sm_iload_n hO 1 dX10_keep_27 rfl rfl ?_
      refine sm_imul hO dX10_keep_28 ?_
      refine sm_iload_n hO 2 dX10_keep_29 rfl rfl ?_
      refine sm_iadd hO dX10_keep_30 ?_
      refine sm_aload_n hO 0 dX10_keep_31 rfl rfl ?_
      refine sm_gr hO fl_RX10_22 dX10_keep_32 (fun a2 => ?_)
      refine sm_iload_n hO 2 dX10_keep_35 rfl rfl ?_
      refine sm_li hO dX10_keep_36 (fun x3 => ?_)
      refine sm_si hO dX10_keep_37 ?_
      refine sm_iincL (v := xL2 + 1) hO 2 (fun x4 => [(2, .int x4), (0, .ref aL0), (1, .int xL1)]) dX10_keep_38 rfl rfl (by decide) (fun _ => rfl) (fun x4 => ?_)
      refine sm_goto (tgt := 15) hO dX10_keep_41 (by decide) ?_
      exact sm_sub [1, 2, 0] rfl (ih aL0 xL1 x4)
set_option maxRecDepth 100000 in
set_option maxHeartbeats 4000000 in
theorem tX10_keep_44 {p : Program} {l : Launch} {e : Env} {s : State} {m : MethodId} {args : Array Value} {below : List Frame} {meth : Method} {c : Code} {G : cG} (hO : c_Ok p s m c cX10_keep 3 RX10 G) (hr : meth.sig.returnType = (some .int)) (hk : meth.locks = false) : ∀ (aL0 : Nat) (xL1 : Int32), Sm p l e { frames := 1, cells := 0, slots := 0, locals := 25 } s m args below meth c G 3 (c_Q G c_vi below args s 0 0) 0 0 44 [(0, .ref aL0), (1, .int xL1)] [] (fX10_keep_44 aL0 xL1) := by
  intro aL0 xL1
  rw [fX10_keep_44]
  refine sm_aload_n hO 0 dX10_keep_44 rfl rfl ?_
  refine sm_gr hO fl_RX10_66 dX10_keep_45 (fun a1 => ?_)
  refine sm_bipush (v := 37) hO dX10_keep_48 rfl ?_
  refine sm_iload_n hO 1 dX10_keep_50 rfl rfl ?_
  refine sm_imul hO dX10_keep_51 ?_
  refine sm_bipush (v := 36) hO dX10_keep_52 rfl ?_
  refine sm_iadd hO dX10_keep_54 ?_
  refine sm_aload_n hO 0 dX10_keep_55 rfl rfl ?_
  refine sm_gi hO fl_RX10_260 dX10_keep_56 (fun x2 => ?_)
  refine sm_si hO dX10_keep_59 ?_
  refine sm_aload_n hO 0 dX10_keep_60 rfl rfl ?_
  refine sm_gr hO fl_RX10_69 dX10_keep_61 (fun a3 => ?_)
  refine sm_iload_n hO 1 dX10_keep_64 rfl rfl ?_
  refine sm_iconst (v := 1) hO dX10_keep_65 rfl ?_
  refine sm_sz hO dX10_keep_66 ?_
  refine sm_aload_n hO 0 dX10_keep_67 rfl rfl ?_
  refine sm_iconst (v := 0) hO dX10_keep_68 rfl ?_
  refine sm_pv hO fl_RX10_172 fp_9_25 rfl rfl dX10_keep_69 ?_
  refine sm_iconst (v := 1) hO dX10_keep_72 rfl ?_
  exact sm_iret hO hr hk (Nat.le_of_ble_eq_true rfl) (Nat.le_of_ble_eq_true rfl) dX10_keep_73
set_option maxRecDepth 100000 in
set_option maxHeartbeats 4000000 in
theorem ctX10_keep (l : Launch) (G : cG) (a0_ : Nat) (x1_ : Int32) : Ct l G yX10_keep cX10_keep 3 (some .int) 1 25 0 0 [.ref a0_, .int x1_] c_vi (pX10_keep a0_ x1_) := by
  refine Ct.of (lv := [(0, .ref a0_), (1, .int x1_)]) (by decide) (Nat.le_of_ble_eq_true rfl) rfl (fun p e s m args below meth c hO hr hk hin => ?_)
  rw [pX10_keep]
  refine sm_iload_n hO 1 dX10_keep_0 rfl rfl ?_
  refine sm_i2l (v := x1_.toInt64) hO dX10_keep_1 rfl ?_
  refine sm_lconst (v := 0) hO dX10_keep_2 rfl ?_
  refine sm_lconst (v := 1) hO dX10_keep_3 rfl ?_
  refine sm_csi hO (ctX10_in l G (x1_.toInt64) 0 1) cw_RX10_75 kw_923 [] rfl rfl ⟨(Nat.le_of_ble_eq_true rfl), (Nat.le_of_ble_eq_true rfl)⟩ ⟨(Nat.le_of_ble_eq_true rfl), (Nat.le_of_ble_eq_true rfl)⟩ (Nat.le_of_ble_eq_true rfl) dX10_keep_4 (fun x1 => ?_)
  refine sm_if_ne (tgt := 13) hO dX10_keep_7 (by decide) ?_ ?_
  · refine sm_iconst (v := 0) hO dX10_keep_13 rfl ?_
    refine sm_istore_n hO [(2, .int 0), (0, .ref a0_), (1, .int x1_)] dX10_keep_14 rfl (by decide) rfl ?_
    exact sm_sub [1, 2, 0] rfl (tX10_keep_15 hO hr hk fX10_keep_44 (tX10_keep_44 hO hr hk) c_fu a0_ x1_ 0)
  · refine sm_ldc (v := (-1000000001)) hO kw_1046 dX10_keep_10 ?_
    exact sm_iret hO hr hk (Nat.le_of_ble_eq_true rfl) (Nat.le_of_ble_eq_true rfl) dX10_keep_12
/-! DollCongress.goBack(I)I -/
def pX9_goBack (a0_ : Nat) (x1_ : Int32) : MM Int32 := if x1_ < 0 then (m_ret ((-1000000001) : Int32)) else (if x1_ < (2 : Int32) then (m_gr a0_ 8 4 (fun a1 => m_lr 2 a1 x1_ (fun a2 => m_gi a2 1 2 (fun x3 => if x3 = 0 then (m_ret ((-1000000003) : Int32)) else (m_gr a0_ 8 1 (fun a4 => m_gr a2 1 0 (fun a5 => m_cv a4 5 (pX5_copyFrom a4 a5) (fun _ => m_gi a2 1 1 (fun x6 => m_pv a0_ 8 9 (.int x6) (m_gr a0_ 8 2 (fun a7 => m_cv a7 3 (pX3_forget a7) (fun _ => m_ret (1 : Int32))))))))))))) else (m_ret ((-1000000001) : Int32)))
set_option maxRecDepth 100000 in
set_option maxHeartbeats 4000000 in
theorem ctX9_goBack (l : Launch) (G : cG) (a0_ : Nat) (x1_ : Int32) : Ct l G yX9_goBack cX9_goBack 3 (some .int) 2 61 0 0 [.ref a0_, .int x1_] c_vi (pX9_goBack a0_ x1_) := by
  refine Ct.of (lv := [(0, .ref a0_), (1, .int x1_)]) (by decide) (Nat.le_of_ble_eq_true rfl) rfl (fun p e s m args below meth c hO hr hk hin => ?_)
  rw [pX9_goBack]
  refine sm_iload_n hO 1 dX9_goBack_0 rfl rfl ?_
  refine sm_if_lt (tgt := 9) hO dX9_goBack_1 (by decide) ?_ ?_
  · refine sm_ldc (v := (-1000000001)) hO kw_512 dX9_goBack_9 ?_
    exact sm_iret hO hr hk (Nat.le_of_ble_eq_true rfl) (Nat.le_of_ble_eq_true rfl) dX9_goBack_11
  · refine sm_iload_n hO 1 dX9_goBack_4 rfl rfl ?_
    refine sm_iconst (v := 2) hO dX9_goBack_5 rfl ?_
    refine sm_icmp_lt (tgt := 12) hO dX9_goBack_6 (by decide) ?_ ?_
    · refine sm_aload_n hO 0 dX9_goBack_12 rfl rfl ?_
      refine sm_gr hO fl_RX9_39 dX9_goBack_13 (fun a1 => ?_)
      refine sm_iload_n hO 1 dX9_goBack_16 rfl rfl ?_
      refine sm_lr hO rfl dX9_goBack_17 (by decide) (fun a2 => ?_)
      refine sm_astore_n hO [(2, .ref a2), (0, .ref a0_), (1, .int x1_)] dX9_goBack_18 rfl (by decide) rfl ?_
      refine sm_aload_n hO 0 dX9_goBack_19 rfl rfl ?_
      refine sm_gi hO fl_RX9_93 dX9_goBack_20 (fun x3 => ?_)
      refine sm_if_ne (tgt := 29) hO dX9_goBack_23 (by decide) ?_ ?_
      · refine sm_aload_n hO 1 dX9_goBack_29 rfl rfl ?_
        refine sm_gr hO fl_RX9_19 dX9_goBack_30 (fun a4 => ?_)
        refine sm_aload_n hO 0 dX9_goBack_33 rfl rfl ?_
        refine sm_gr hO fl_RX9_289 dX9_goBack_34 (fun a5 => ?_)
        refine sm_cvv hO (ctX5_copyFrom l G a4 a5) cw_RX9_292 cv_X5_copyFrom [] rfl rfl ⟨(Nat.le_of_ble_eq_true rfl), (Nat.le_of_ble_eq_true rfl)⟩ ⟨(Nat.le_of_ble_eq_true rfl), (Nat.le_of_ble_eq_true rfl)⟩ (Nat.le_of_ble_eq_true rfl) dX9_goBack_37 (fun _ => ?_)
        refine sm_aload_n hO 1 dX9_goBack_40 rfl rfl ?_
        refine sm_aload_n hO 0 dX9_goBack_41 rfl rfl ?_
        refine sm_gi hO fl_RX9_295 dX9_goBack_42 (fun x6 => ?_)
        refine sm_pv hO fl_RX9_286 fp_8_9 rfl rfl dX9_goBack_45 ?_
        refine sm_aload_n hO 1 dX9_goBack_48 rfl rfl ?_
        refine sm_gr hO fl_RX9_26 dX9_goBack_49 (fun a7 => ?_)
        refine sm_cvv hO (ctX3_forget l G a7) cw_RX9_89 cv_X3_forget [] rfl rfl ⟨(Nat.le_of_ble_eq_true rfl), (Nat.le_of_ble_eq_true rfl)⟩ ⟨(Nat.le_of_ble_eq_true rfl), (Nat.le_of_ble_eq_true rfl)⟩ (Nat.le_of_ble_eq_true rfl) dX9_goBack_52 (fun _ => ?_)
        refine sm_iconst (v := 1) hO dX9_goBack_55 rfl ?_
        exact sm_iret hO hr hk (Nat.le_of_ble_eq_true rfl) (Nat.le_of_ble_eq_true rfl) dX9_goBack_56
      · refine sm_ldc (v := (-1000000003)) hO kw_536 dX9_goBack_26 ?_
        exact sm_iret hO hr hk (Nat.le_of_ble_eq_true rfl) (Nat.le_of_ble_eq_true rfl) dX9_goBack_28
    · refine sm_ldc (v := (-1000000001)) hO kw_512 dX9_goBack_9 ?_
      exact sm_iret hO hr hk (Nat.le_of_ble_eq_true rfl) (Nat.le_of_ble_eq_true rfl) dX9_goBack_11
/-! DollCongressModel.goBack(I)I -/
def fX10_goBack_27 (k56 : Nat → Int32 → MM Int32) : Nat → Nat → Int32 → Int32 → MM Int32
  | 0, _, _, _ => m_bad
  | n + 1, aL0, xL1, xL2 => if (36 : Int32) ≤ xL2 then (k56 aL0 xL1) else (m_gr aL0 9 8 (fun a1 => m_gr aL0 9 34 (fun a2 => m_li 0 a2 (((37 : Int32) * xL1) + xL2) (fun x3 => m_si a1 xL2 x3 (m_let (xL2 + 1) (fun x4 => fX10_goBack_27 k56 n aL0 xL1 x4))))))
def fX10_goBack_56  (aL0 : Nat) (xL1 : Int32) : MM Int32 := m_gr aL0 9 34 (fun a1 => m_li 0 a1 (((37 : Int32) * xL1) + 36) (fun x2 => m_pv aL0 9 9 (.int x2) (m_pv aL0 9 25 (.int 0) (m_ret (1 : Int32)))))
def pX10_goBack (a0_ : Nat) (x1_ : Int32) : MM Int32 := m_bind (pX10_in (x1_.toInt64) 0 1) (fun x1 => if x1 = 0 then (m_ret ((-1000000001) : Int32)) else (m_gr a0_ 9 35 (fun a2 => m_li 1 a2 x1_ (fun x3 => if x3 = 0 then (m_ret ((-1000000003) : Int32)) else (fX10_goBack_27 fX10_goBack_56 c_fu a0_ x1_ 0)))))
set_option maxRecDepth 100000 in
set_option maxHeartbeats 4000000 in
theorem tX10_goBack_27 {p : Program} {l : Launch} {e : Env} {s : State} {m : MethodId} {args : Array Value} {below : List Frame} {meth : Method} {c : Code} {G : cG} (hO : c_Ok p s m c cX10_goBack 3 RX10 G) (hr : meth.sig.returnType = (some .int)) (hk : meth.locks = false) (k56 : Nat → Int32 → MM Int32) (hk56 : ∀ (aL0 : Nat) (xL1 : Int32), Sm p l e { frames := 1, cells := 0, slots := 0, locals := 25 } s m args below meth c G 3 (c_Q G c_vi below args s 0 0) 0 0 56 [(0, .ref aL0), (1, .int xL1)] [] (k56 aL0 xL1))  : ∀ (n : Nat) (aL0 : Nat) (xL1 : Int32) (xL2 : Int32), Sm p l e { frames := 1, cells := 0, slots := 0, locals := 25 } s m args below meth c G 3 (c_Q G c_vi below args s 0 0) 0 0 27 [(0, .ref aL0), (1, .int xL1), (2, .int xL2)] [] (fX10_goBack_27 k56 n aL0 xL1 xL2) := by
  intro n
  induction n with
  | zero =>
    intro aL0 xL1 xL2
    exact sm_bad
  | succ n ih =>
    intro aL0 xL1 xL2
    rw [fX10_goBack_27]
    refine sm_iload_n hO 2 dX10_goBack_27 rfl rfl ?_
    refine sm_bipush (v := 36) hO dX10_goBack_28 rfl ?_
    refine sm_icmp_ge (tgt := 56) hO dX10_goBack_30 (by decide) ?_ ?_
    · exact sm_sub [0, 1] rfl (hk56 aL0 xL1)
    · refine sm_aload_n hO 0 dX10_goBack_33 rfl rfl ?_
      refine sm_gr hO fl_RX10_22 dX10_goBack_34 (fun a1 => ?_)
      refine sm_iload_n hO 2 dX10_goBack_37 rfl rfl ?_
      refine sm_aload_n hO 0 dX10_goBack_38 rfl rfl ?_
      refine sm_gr hO fl_RX10_66 dX10_goBack_39 (fun a2 => ?_)
      refine sm_bipush (v := 37) hO dX10_goBack_42 rfl ?_
      refine sm_iload_n hO 1 dX10_goBack_44 rfl rfl ?_
      refine sm_imul hO dX10_goBack_45 ?_
      refine sm_iload_n hO 2 dX10_goBack_46 rfl rfl ?_
      refine sm_iadd hO dX10_goBack_47 ?_
      refine sm_li hO dX10_goBack_48 (fun x3 => ?_)
      refine sm_si hO dX10_goBack_49 ?_
      refine sm_iincL (v := xL2 + 1) hO 2 (fun x4 => [(2, .int x4), (0, .ref aL0), (1, .int xL1)]) dX10_goBack_50 rfl rfl (by decide) (fun _ => rfl) (fun x4 => ?_)
      refine sm_goto (tgt := 27) hO dX10_goBack_53 (by decide) ?_
      exact sm_sub [1, 2, 0] rfl (ih aL0 xL1 x4)
set_option maxRecDepth 100000 in
set_option maxHeartbeats 4000000 in
theorem tX10_goBack_56 {p : Program} {l : Launch} {e : Env} {s : State} {m : MethodId} {args : Array Value} {below : List Frame} {meth : Method} {c : Code} {G : cG} (hO : c_Ok p s m c cX10_goBack 3 RX10 G) (hr : meth.sig.returnType = (some .int)) (hk : meth.locks = false) : ∀ (aL0 : Nat) (xL1 : Int32), Sm p l e { frames := 1, cells := 0, slots := 0, locals := 25 } s m args below meth c G 3 (c_Q G c_vi below args s 0 0) 0 0 56 [(0, .ref aL0), (1, .int xL1)] [] (fX10_goBack_56 aL0 xL1) := by
  intro aL0 xL1
  rw [fX10_goBack_56]
  refine sm_aload_n hO 0 dX10_goBack_56 rfl rfl ?_
  refine sm_aload_n hO 0 dX10_goBack_57 rfl rfl ?_
  refine sm_gr hO fl_RX10_66 dX10_goBack_58 (fun a1 => ?_)
  refine sm_bipush (v := 37) hO dX10_goBack_61 rfl ?_
  refine sm_iload_n hO 1 dX10_goBack_63 rfl rfl ?_
  refine sm_imul hO dX10_goBack_64 ?_
  refine sm_bipush (v := 36) hO dX10_goBack_65 rfl ?_
  refine sm_iadd hO dX10_goBack_67 ?_
  refine sm_li hO dX10_goBack_68 (fun x2 => ?_)
  refine sm_pv hO fl_RX10_260 fp_9_9 rfl rfl dX10_goBack_69 ?_
  refine sm_aload_n hO 0 dX10_goBack_72 rfl rfl ?_
  refine sm_iconst (v := 0) hO dX10_goBack_73 rfl ?_
  refine sm_pv hO fl_RX10_172 fp_9_25 rfl rfl dX10_goBack_74 ?_
  refine sm_iconst (v := 1) hO dX10_goBack_77 rfl ?_
  exact sm_iret hO hr hk (Nat.le_of_ble_eq_true rfl) (Nat.le_of_ble_eq_true rfl) dX10_goBack_78
set_option maxRecDepth 100000 in
set_option maxHeartbeats 4000000 in
theorem ctX10_goBack (l : Launch) (G : cG) (a0_ : Nat) (x1_ : Int32) : Ct l G yX10_goBack cX10_goBack 3 (some .int) 1 25 0 0 [.ref a0_, .int x1_] c_vi (pX10_goBack a0_ x1_) := by
  refine Ct.of (lv := [(0, .ref a0_), (1, .int x1_)]) (by decide) (Nat.le_of_ble_eq_true rfl) rfl (fun p e s m args below meth c hO hr hk hin => ?_)
  rw [pX10_goBack]
  refine sm_iload_n hO 1 dX10_goBack_0 rfl rfl ?_
  refine sm_i2l (v := x1_.toInt64) hO dX10_goBack_1 rfl ?_
  refine sm_lconst (v := 0) hO dX10_goBack_2 rfl ?_
  refine sm_lconst (v := 1) hO dX10_goBack_3 rfl ?_
  refine sm_csi hO (ctX10_in l G (x1_.toInt64) 0 1) cw_RX10_75 kw_923 [] rfl rfl ⟨(Nat.le_of_ble_eq_true rfl), (Nat.le_of_ble_eq_true rfl)⟩ ⟨(Nat.le_of_ble_eq_true rfl), (Nat.le_of_ble_eq_true rfl)⟩ (Nat.le_of_ble_eq_true rfl) dX10_goBack_4 (fun x1 => ?_)
  refine sm_if_ne (tgt := 13) hO dX10_goBack_7 (by decide) ?_ ?_
  · refine sm_aload_n hO 0 dX10_goBack_13 rfl rfl ?_
    refine sm_gr hO fl_RX10_69 dX10_goBack_14 (fun a2 => ?_)
    refine sm_iload_n hO 1 dX10_goBack_17 rfl rfl ?_
    refine sm_lz hO dX10_goBack_18 (fun x3 => ?_)
    refine sm_if_ne (tgt := 25) hO dX10_goBack_19 (by decide) ?_ ?_
    · refine sm_iconst (v := 0) hO dX10_goBack_25 rfl ?_
      refine sm_istore_n hO [(2, .int 0), (0, .ref a0_), (1, .int x1_)] dX10_goBack_26 rfl (by decide) rfl ?_
      exact sm_sub [1, 2, 0] rfl (tX10_goBack_27 hO hr hk fX10_goBack_56 (tX10_goBack_56 hO hr hk) c_fu a0_ x1_ 0)
    · refine sm_ldc (v := (-1000000003)) hO kw_1070 dX10_goBack_22 ?_
      exact sm_iret hO hr hk (Nat.le_of_ble_eq_true rfl) (Nat.le_of_ble_eq_true rfl) dX10_goBack_24
  · refine sm_ldc (v := (-1000000001)) hO kw_1046 dX10_goBack_10 ?_
    exact sm_iret hO hr hk (Nat.le_of_ble_eq_true rfl) (Nat.le_of_ble_eq_true rfl) dX10_goBack_12
