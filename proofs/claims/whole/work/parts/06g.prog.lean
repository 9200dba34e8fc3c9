/-! DollCongressModel.isCourt(I)Z -/
def pX10_isCourt (a0_ : Nat) (x1_ : Int32) : MM Int32 := m_gi a0_ 9 0 (fun x1 => m_bind (pX10_in (x1_.toInt64) 0 ((x1 - 1).toInt64)) (fun x2 => m_rz x2))
set_option maxRecDepth 100000 in
set_option maxHeartbeats 4000000 in
theorem ctX10_isCourt (l : Launch) (G : cG) (a0_ : Nat) (x1_ : Int32) : Ct l G yX10_isCourt cX10_isCourt 2 (some .boolean) 1 25 0 0 [.ref a0_, .int x1_] c_vi (pX10_isCourt a0_ x1_) := by
  refine Ct.of (lv := [(0, .ref a0_), (1, .int x1_)]) (by decide) (Nat.le_of_ble_eq_true rfl) rfl (fun p e s m args below meth c hO hr hk hin => ?_)
  rw [pX10_isCourt]
  refine sm_iload_n hO 1 dX10_isCourt_0 rfl rfl ?_
  refine sm_i2l (v := x1_.toInt64) hO dX10_isCourt_1 rfl ?_
  refine sm_lconst (v := 0) hO dX10_isCourt_2 rfl ?_
  refine sm_aload_n hO 0 dX10_isCourt_3 rfl rfl ?_
  refine sm_gi hO fl_RX10_72 dX10_isCourt_4 (fun x1 => ?_)
  refine sm_iconst (v := 1) hO dX10_isCourt_7 rfl ?_
  refine sm_isub hO dX10_isCourt_8 ?_
  refine sm_i2l (v := (x1 - 1).toInt64) hO dX10_isCourt_9 rfl ?_
  refine sm_csi hO (ctX10_in l G (x1_.toInt64) 0 ((x1 - 1).toInt64)) cw_RX10_75 kw_923 [] rfl rfl ⟨(Nat.le_of_ble_eq_true rfl), (Nat.le_of_ble_eq_true rfl)⟩ ⟨(Nat.le_of_ble_eq_true rfl), (Nat.le_of_ble_eq_true rfl)⟩ (Nat.le_of_ble_eq_true rfl) dX10_isCourt_10 (fun x2 => ?_)
  exact sm_rz hO hr hk (Nat.le_of_ble_eq_true rfl) (Nat.le_of_ble_eq_true rfl) dX10_isCourt_13
/-! DollCongressModel.whoBelongsTo(I)I -/
def fX10_whoBelongsTo_30 (k4 : Nat → Int32 → Int32 → Int32 → MM Int32) (aL0 : Nat) (xL1 : Int32) (xL3 : Int32) (xS0 : Int32) (xS1 : Int32) : MM Int32 := m_let (xS1 ||| xS0) (fun x1 => m_let (xL3 + 1) (fun x2 => k4 aL0 xL1 x1 x2))
def fX10_whoBelongsTo_4  : Nat → Nat → Int32 → Int32 → Int32 → MM Int32
  | 0, _, _, _, _ => m_bad
  | n + 1, aL0, xL1, xL2, xL3 => m_gi aL0 9 2 (fun x1 => if x1 ≤ xL3 then (m_ret xL2) else (m_gr aL0 9 4 (fun a2 => m_li 0 a2 xL3 (fun x3 => if x3 = xL1 then (fX10_whoBelongsTo_30 (fX10_whoBelongsTo_4 n) aL0 xL1 xL3 ((1 : Int32) <<< (xL3 &&& 31)) xL2) else (fX10_whoBelongsTo_30 (fX10_whoBelongsTo_4 n) aL0 xL1 xL3 0 xL2)))))
def pX10_whoBelongsTo (a0_ : Nat) (x1_ : Int32) : MM Int32 := fX10_whoBelongsTo_4 c_fu a0_ x1_ 0 0
set_option maxRecDepth 100000 in
set_option maxHeartbeats 4000000 in
theorem tX10_whoBelongsTo_30 {p : Program} {l : Launch} {e : Env} {s : State} {m : MethodId} {args : Array Value} {below : List Frame} {meth : Method} {c : Code} {G : cG} (hO : c_Ok p s m c cX10_whoBelongsTo 4 RX10 G) (hr : meth.sig.returnType = (some .int)) (hk : meth.locks = false) (k4 : Nat → Int32 → Int32 → Int32 → MM Int32) (hk4 : ∀ (aL0 : Nat) (xL1 : Int32) (xL2 : Int32) (xL3 : Int32), Sm p l e { frames := 0, cells := 0, slots := 0, locals := 0 } s m args below meth c G 4 (c_Q G c_vi below args s 0 0) 0 0 4 [(0, .ref aL0), (1, .int xL1), (2, .int xL2), (3, .int xL3)] [] (k4 aL0 xL1 xL2 xL3))  : ∀ (aL0 : Nat) (xL1 : Int32) (xL3 : Int32) (xS0 : Int32) (xS1 : Int32), Sm p l e { frames := 0, cells := 0, slots := 0, locals := 0 } s m args below meth c G 4 (c_Q G c_vi below args s 0 0) 0 0 30 [(0, .ref aL0), (1, .int xL1), (3, .int xL3)] [.int xS0, .int xS1] (fX10_whoBelongsTo_30 k4 aL0 xL1 xL3 xS0 xS1) := by
  intro aL0 xL1 xL3 xS0 xS1
  rw [fX10_whoBelongsTo_30]
  refine sm_ior hO dX10_whoBelongsTo_30 ?_
  refine sm_topi (fun x1 => ?_)
  refine sm_istore_n hO [(2, .int x1), (0, .ref aL0), (1, .int xL1), (3, .int xL3)] dX10_whoBelongsTo_31 rfl (by decide) rfl ?_
  refine sm_iincL (v := xL3 + 1) hO 3 (fun x2 => [(3, .int x2), (2, .int x1), (0, .ref aL0), (1, .int xL1)]) dX10_whoBelongsTo_32 rfl rfl (by decide) (fun _ => rfl) (fun x2 => ?_)
  refine sm_goto (tgt := 4) hO dX10_whoBelongsTo_35 (by decide) ?_
  exact sm_sub [2, 3, 1, 0] rfl (hk4 aL0 xL1 x1 x2)
set_option maxRecDepth 100000 in
set_option maxHeartbeats 4000000 in
theorem tX10_whoBelongsTo_4 {p : Program} {l : Launch} {e : Env} {s : State} {m : MethodId} {args : Array Value} {below : List Frame} {meth : Method} {c : Code} {G : cG} (hO : c_Ok p s m c cX10_whoBelongsTo 4 RX10 G) (hr : meth.sig.returnType = (some .int)) (hk : meth.locks = false) : ∀ (n : Nat) (aL0 : Nat) (xL1 : Int32) (xL2 : Int32) (xL3 : Int32), Sm p l e { frames := 0, cells := 0, slots := 0, locals := 0 } s m args below meth c G 4 (c_Q G c_vi below args s 0 0) 0 0 4 [(0, .ref aL0), (1, .int xL1), (2, .int xL2), (3, .int xL3)] [] (fX10_whoBelongsTo_4 n aL0 xL1 xL2 xL3) := by
  intro n
  induction n with
  | zero =>
    intro aL0 xL1 xL2 xL3
    exact sm_bad
  | succ n ih =>
    intro aL0 xL1 xL2 xL3
    rw [fX10_whoBelongsTo_4]
    refine sm_iload_n hO 3 dX10_whoBelongsTo_4 rfl rfl ?_
    refine sm_aload_n hO 0 dX10_whoBelongsTo_5 rfl rfl ?_
    refine sm_gi hO fl_RX10_79 dX10_whoBelongsTo_6 (fun x1 => ?_)
    refine sm_icmp_ge (tgt := 38) hO dX10_whoBelongsTo_9 (by decide) ?_ ?_
    · refine sm_iload_n hO 2 dX10_whoBelongsTo_38 rfl rfl ?_
      exact sm_iret hO hr hk (Nat.le_of_ble_eq_true rfl) (Nat.le_of_ble_eq_true rfl) dX10_whoBelongsTo_39
    · refine sm_iload_n hO 2 dX10_whoBelongsTo_12 rfl rfl ?_
      refine sm_aload_n hO 0 dX10_whoBelongsTo_13 rfl rfl ?_
      refine sm_gr hO fl_RX10_16 dX10_whoBelongsTo_14 (fun a2 => ?_)
      refine sm_iload_n hO 3 dX10_whoBelongsTo_17 rfl rfl ?_
      refine sm_li hO dX10_whoBelongsTo_18 (fun x3 => ?_)
      refine sm_iload_n hO 1 dX10_whoBelongsTo_19 rfl rfl ?_
      refine sm_icmp_ne (tgt := 29) hO dX10_whoBelongsTo_20 (by decide) ?_ ?_
      · refine sm_iconst (v := 0) hO dX10_whoBelongsTo_29 rfl ?_
        exact sm_sub [0, 1, 3] rfl (tX10_whoBelongsTo_30 hO hr hk (fX10_whoBelongsTo_4 n) ih aL0 xL1 xL3 0 xL2)
      · refine sm_iconst (v := 1) hO dX10_whoBelongsTo_23 rfl ?_
        refine sm_iload_n hO 3 dX10_whoBelongsTo_24 rfl rfl ?_
        refine sm_ishl hO dX10_whoBelongsTo_25 ?_
        refine sm_goto (tgt := 30) hO dX10_whoBelongsTo_26 (by decide) ?_
        exact sm_sub [0, 1, 3] rfl (tX10_whoBelongsTo_30 hO hr hk (fX10_whoBelongsTo_4 n) ih aL0 xL1 xL3 ((1 : Int32) <<< (xL3 &&& 31)) xL2)
set_option maxRecDepth 100000 in
set_option maxHeartbeats 4000000 in
theorem ctX10_whoBelongsTo (l : Launch) (G : cG) (a0_ : Nat) (x1_ : Int32) : Ct l G yX10_whoBelongsTo cX10_whoBelongsTo 4 (some .int) 0 0 0 0 [.ref a0_, .int x1_] c_vi (pX10_whoBelongsTo a0_ x1_) := by
  refine Ct.of (lv := [(0, .ref a0_), (1, .int x1_)]) (by decide) (Nat.le_of_ble_eq_true rfl) rfl (fun p e s m args below meth c hO hr hk hin => ?_)
  rw [pX10_whoBelongsTo]
  refine sm_iconst (v := 0) hO dX10_whoBelongsTo_0 rfl ?_
  refine sm_istore_n hO [(2, .int 0), (0, .ref a0_), (1, .int x1_)] dX10_whoBelongsTo_1 rfl (by decide) rfl ?_
  refine sm_iconst (v := 0) hO dX10_whoBelongsTo_2 rfl ?_
  refine sm_istore_n hO [(3, .int 0), (2, .int 0), (0, .ref a0_), (1, .int x1_)] dX10_whoBelongsTo_3 rfl (by decide) rfl ?_
  exact sm_sub [2, 3, 1, 0] rfl (tX10_whoBelongsTo_4 hO hr hk c_fu a0_ x1_ 0 0)
/-! DollCongressModel.factorial(I)I -/
def fX10_factorial_4  : Nat → Int32 → Int32 → Int32 → MM Int32
  | 0, _, _, _ => m_bad
  | n + 1, xL0, xL1, xL2 => if xL0 < xL2 then (m_ret xL1) else (m_let (xL1 * xL2) (fun x1 => m_let (xL2 + 1) (fun x2 => fX10_factorial_4 n xL0 x1 x2)))
def pX10_factorial (x0_ : Int32) : MM Int32 := fX10_factorial_4 c_fu x0_ 1 2
set_option maxRecDepth 100000 in
set_option maxHeartbeats 4000000 in
theorem tX10_factorial_4 {p : Program} {l : Launch} {e : Env} {s : State} {m : MethodId} {args : Array Value} {below : List Frame} {meth : Method} {c : Code} {G : cG} (hO : c_Ok p s m c cX10_factorial 3 RX10 G) (hr : meth.sig.returnType = (some .int)) (hk : meth.locks = false) : ∀ (n : Nat) (xL0 : Int32) (xL1 : Int32) (xL2 : Int32), Sm p l e { frames := 0, cells := 0, slots := 0, locals := 0 } s m args below meth c G 3 (c_Q G c_vi below args s 0 0) 0 0 4 [(0, .int xL0), (1, .int xL1), (2, .int xL2)] [] (fX10_factorial_4 n xL0 xL1 xL2) := by
  intro n
  induction n with
  | zero =>
    intro xL0 xL1 xL2
    exact sm_bad
  | succ n ih =>
    intro xL0 xL1 xL2
    rw [fX10_factorial_4]
    refine sm_iload_n hO 2 dX10_factorial_4 rfl rfl ?_
    refine sm_iload_n hO 0 dX10_factorial_5 rfl rfl ?_
    refine sm_icmp_gt (tgt := 19) hO dX10_factorial_6 (by decide) ?_ ?_
    · refine sm_iload_n hO 1 dX10_factorial_19 rfl rfl ?_
      exact sm_iret hO hr hk (Nat.le_of_ble_eq_true rfl) (Nat.le_of_ble_eq_true rfl) dX10_factorial_20
    · refine sm_iload_n hO 1 dX10_factorial_9 rfl rfl ?_
      refine sm_iload_n hO 2 dX10_factorial_10 rfl rfl ?_
      refine sm_imul hO dX10_factorial_11 ?_
      refine sm_topi (fun x1 => ?_)
      refine sm_istore_n hO [(1, .int x1), (0, .int xL0), (2, .int xL2)] dX10_factorial_12 rfl (by decide) rfl ?_
      refine sm_iincL (v := xL2 + 1) hO 2 (fun x2 => [(2, .int x2), (1, .int x1), (0, .int xL0)]) dX10_factorial_13 rfl rfl (by decide) (fun _ => rfl) (fun x2 => ?_)
      refine sm_goto (tgt := 4) hO dX10_factorial_16 (by decide) ?_
      exact sm_sub [2, 1, 0] rfl (ih xL0 x1 x2)
set_option maxRecDepth 100000 in
set_option maxHeartbeats 4000000 in
theorem ctX10_factorial (l : Launch) (G : cG) (x0_ : Int32) : Ct l G yX10_factorial cX10_factorial 3 (some .int) 0 0 0 0 [.int x0_] c_vi (pX10_factorial x0_) := by
  refine Ct.of (lv := [(0, .int x0_)]) (by decide) (Nat.le_of_ble_eq_true rfl) rfl (fun p e s m args below meth c hO hr hk hin => ?_)
  rw [pX10_factorial]
  refine sm_iconst (v := 1) hO dX10_factorial_0 rfl ?_
  refine sm_istore_n hO [(1, .int 1), (0, .int x0_)] dX10_factorial_1 rfl (by decide) rfl ?_
  refine sm_iconst (v := 2) hO dX10_factorial_2 rfl ?_
  refine sm_istore_n hO [(2, .int 2), (1, .int 1), (0, .int x0_)] dX10_factorial_3 rfl (by decide) rfl ?_
  exact sm_sub [2, 1, 0] rfl (tX10_factorial_4 hO hr hk c_fu x0_ 1 2)
/-! DollCongressModel.power(I)I -/
def fX10_power_46 (k47 : Nat → Int32 → Int32 → Int32 → Int32 → MM Int32) (aL0 : Nat) (xL1 : Int32) (xL2 : Int32) (xL3 : Int32) : MM Int32 := k47 aL0 xL1 xL2 xL3 0
def fX10_power_81 (k4 : Nat → Int32 → Int32 → Int32 → MM Int32) (aL0 : Nat) (xL1 : Int32) (xL3 : Int32) (xS0 : Int32) (xS1 : Int32) : MM Int32 := m_let (xS1 + xS0) (fun x1 => m_let (xL3 + 1) (fun x2 => k4 aL0 xL1 x1 x2))
def fX10_power_47 (k4 : Nat → Int32 → Int32 → Int32 → MM Int32) (aL0 : Nat) (xL1 : Int32) (xL2 : Int32) (xL3 : Int32) (xS0 : Int32) : MM Int32 := if xS0 = 0 then (fX10_power_81 k4 aL0 xL1 xL3 0 xL2) else (m_bind (pX10_bits xL3) (fun x1 => m_bind (pX10_factorial x1) (fun x2 => m_gi aL0 9 0 (fun x3 => m_bind (pX10_bits xL3) (fun x4 => m_bind (pX10_factorial ((x3 - x4) - 1)) (fun x5 => fX10_power_81 k4 aL0 xL1 xL3 (x2 * x5) xL2))))))
def fX10_power_4  : Nat → Nat → Int32 → Int32 → Int32 → MM Int32
  | 0, _, _, _, _ => m_bad
  | n + 1, aL0, xL1, xL2, xL3 => m_gi aL0 9 0 (fun x1 => if ((1 : Int32) <<< (x1 &&& 31)) ≤ xL3 then (m_ret xL2) else (m_bind (pX10_has xL3 xL1) (fun x2 => if x2 = 0 then (m_cv aL0 9 (pX10_hasQuota aL0 xL3) (fun x3 => if x3 = 0 then (m_cv aL0 9 (pX10_hasQuota aL0 (xL3 ||| ((1 : Int32) <<< (xL1 &&& 31)))) (fun x4 => if x4 = 0 then (fX10_power_46 (fX10_power_47 (fX10_power_4 n)) aL0 xL1 xL2 xL3) else (fX10_power_47 (fX10_power_4 n) aL0 xL1 xL2 xL3 1))) else (fX10_power_46 (fX10_power_47 (fX10_power_4 n)) aL0 xL1 xL2 xL3))) else (fX10_power_46 (fX10_power_47 (fX10_power_4 n)) aL0 xL1 xL2 xL3))))
def pX10_power (a0_ : Nat) (x1_ : Int32) : MM Int32 := fX10_power_4 c_fu a0_ x1_ 0 0
set_option maxRecDepth 100000 in
set_option maxHeartbeats 4000000 in
theorem tX10_power_46 {p : Program} {l : Launch} {e : Env} {s : State} {m : MethodId} {args : Array Value} {below : List Frame} {meth : Method} {c : Code} {G : cG} (hO : c_Ok p s m c cX10_power 5 RX10 G) (hr : meth.sig.returnType = (some .int)) (hk : meth.locks = false) (k47 : Nat → Int32 → Int32 → Int32 → Int32 → MM Int32) (hk47 : ∀ (aL0 : Nat) (xL1 : Int32) (xL2 : Int32) (xL3 : Int32) (xS0 : Int32), Sm p l e { frames := 3, cells := 0, slots := 0, locals := 65 } s m args below meth c G 5 (c_Q G c_vi below args s 0 0) 0 0 47 [(0, .ref aL0), (1, .int xL1), (2, .int xL2), (3, .int xL3)] [.int xS0] (k47 aL0 xL1 xL2 xL3 xS0))  : ∀ (aL0 : Nat) (xL1 : Int32) (xL2 : Int32) (xL3 : Int32), Sm p l e { frames := 3, cells := 0, slots := 0, locals := 65 } s m args below meth c G 5 (c_Q G c_vi below args s 0 0) 0 0 46 [(0, .ref aL0), (1, .int xL1), (2, .int xL2), (3, .int xL3)] [] (fX10_power_46 k47 aL0 xL1 xL2 xL3) := by
  intro aL0 xL1 xL2 xL3
  rw [fX10_power_46]
  refine sm_iconst (v := 0) hO dX10_power_46 rfl ?_
  exact sm_sub [0, 1, 2, 3] rfl (hk47 aL0 xL1 xL2 xL3 0)
set_option maxRecDepth 100000 in
set_option maxHeartbeats 4000000 in
theorem tX10_power_81 {p : Program} {l : Launch} {e : Env} {s : State} {m : MethodId} {args : Array Value} {below : List Frame} {meth : Method} {c : Code} {G : cG} (hO : c_Ok p s m c cX10_power 5 RX10 G) (hr : meth.sig.returnType = (some .int)) (hk : meth.locks = false) (k4 : Nat → Int32 → Int32 → Int32 → MM Int32) (hk4 : ∀ (aL0 : Nat) (xL1 : Int32) (xL2 : Int32) (xL3 : Int32), Sm p l e { frames := 3, cells := 0, slots := 0, locals := 65 } s m args below meth c G 5 (c_Q G c_vi below args s 0 0) 0 0 4 [(0, .ref aL0), (1, .int xL1), (2, .int xL2), (3, .int xL3)] [] (k4 aL0 xL1 xL2 xL3))  : ∀ (aL0 : Nat) (xL1 : Int32) (xL3 : Int32) (xS0 : Int32) (xS1 : Int32), Sm p l e { frames := 3, cells := 0, slots := 0, locals := 65 } s m args below meth c G 5 (c_Q G c_vi below args s 0 0) 0 0 81 [(0, .ref aL0), (1, .int xL1), (3, .int xL3)] [.int xS0, .int xS1] (fX10_power_81 k4 aL0 xL1 xL3 xS0 xS1) := by
  intro aL0 xL1 xL3 xS0 xS1
  rw [fX10_power_81]
  refine sm_iadd hO dX10_power_81 ?_
  refine sm_topi (fun x1 => ?_)
  refine sm_istore_n hO [(2, .int x1), (0, .ref aL0), (1, .int xL1), (3, .int xL3)] dX10_power_82 rfl (by decide) rfl ?_
  refine sm_iincL (v := xL3 + 1) hO 3 (fun x2 => [(3, .int x2), (2, .int x1), (0, .ref aL0), (1, .int xL1)]) dX10_power_83 rfl rfl (by decide) (fun _ => rfl) (fun x2 => ?_)
  refine sm_goto (tgt := 4) hO dX10_power_86 (by decide) ?_
  exact sm_sub [2, 3, 1, 0] rfl (hk4 aL0 xL1 x1 x2)
set_option maxRecDepth 100000 in
set_option maxHeartbeats 4000000 in
theorem tX10_power_47 {p : Program} {l : Launch} {e : Env} {s : State} {m : MethodId} {args : Array Value} {below : List Frame} {meth : Method} {c : Code} {G : cG} (hO : c_Ok p s m c cX10_power 5 RX10 G) (hr : meth.sig.returnType = (some .int)) (hk : meth.locks = false) (k4 : Nat → Int32 → Int32 → Int32 → MM Int32) (hk4 : ∀ (aL0 : Nat) (xL1 : Int32) (xL2 : Int32) (xL3 : Int32), Sm p l e { frames := 3, cells := 0, slots := 0, locals := 65 } s m args below meth c G 5 (c_Q G c_vi below args s 0 0) 0 0 4 [(0, .ref aL0), (1, .int xL1), (2, .int xL2), (3, .int xL3)] [] (k4 aL0 xL1 xL2 xL3))  : ∀ (aL0 : Nat) (xL1 : Int32) (xL2 : Int32) (xL3 : Int32) (xS0 : Int32), Sm p l e { frames := 3, cells := 0, slots := 0, locals := 65 } s m args below meth c G 5 (c_Q G c_vi below args s 0 0) 0 0 47 [(0, .ref aL0), (1, .int xL1), (2, .int xL2), (3, .int xL3)] [.int xS0] (fX10_power_47 k4 aL0 xL1 xL2 xL3 xS0) := by
  intro aL0 xL1 xL2 xL3 xS0
  rw [fX10_power_47]
  refine sm_istore hO [(4, .int xS0), (0, .ref aL0), (1, .int xL1), (2, .int xL2), (3, .int xL3)] dX10_power_47 (by decide) rfl ?_
  refine sm_iload_n hO 3 dX10_power_49 rfl rfl ?_
  refine sm_iload hO 0 dX10_power_50 rfl ?_
  refine sm_if_eq (tgt := 80) hO dX10_power_52 (by decide) ?_ ?_
  · refine sm_iconst (v := 0) hO dX10_power_80 rfl ?_
    exact sm_sub [1, 2, 4] rfl (tX10_power_81 hO hr hk k4 hk4 aL0 xL1 xL3 0 xL2)
  · refine sm_iload_n hO 4 dX10_power_55 rfl rfl ?_
    refine sm_csi hO (ctX10_bits l G xL3) cw_RX10_188 kw_1004 [.int xL2] rfl rfl ⟨(Nat.le_of_ble_eq_true rfl), (Nat.le_of_ble_eq_true rfl)⟩ ⟨(Nat.le_of_ble_eq_true rfl), (Nat.le_of_ble_eq_true rfl)⟩ (Nat.le_of_ble_eq_true rfl) dX10_power_56 (fun x1 => ?_)
    refine sm_csi hO (ctX10_factorial l G x1) cw_RX10_191 kw_1064 [.int xL2] rfl rfl ⟨(Nat.le_of_ble_eq_true rfl), (Nat.le_of_ble_eq_true rfl)⟩ ⟨(Nat.le_of_ble_eq_true rfl), (Nat.le_of_ble_eq_true rfl)⟩ (Nat.le_of_ble_eq_true rfl) dX10_power_59 (fun x2 => ?_)
    refine sm_aload_n hO 1 dX10_power_62 rfl rfl ?_
    refine sm_gi hO fl_RX10_72 dX10_power_63 (fun x3 => ?_)
    refine sm_iload_n hO 4 dX10_power_66 rfl rfl ?_
    refine sm_csi hO (ctX10_bits l G xL3) cw_RX10_188 kw_1004 [.int x3, .int x2, .int xL2] rfl rfl ⟨(Nat.le_of_ble_eq_true rfl), (Nat.le_of_ble_eq_true rfl)⟩ ⟨(Nat.le_of_ble_eq_true rfl), (Nat.le_of_ble_eq_true rfl)⟩ (Nat.le_of_ble_eq_true rfl) dX10_power_67 (fun x4 => ?_)
    refine sm_isub hO dX10_power_70 ?_
    refine sm_iconst (v := 1) hO dX10_power_71 rfl ?_
    refine sm_isub hO dX10_power_72 ?_
    refine sm_csi hO (ctX10_factorial l G ((x3 - x4) - 1)) cw_RX10_191 kw_1064 [.int x2, .int xL2] rfl rfl ⟨(Nat.le_of_ble_eq_true rfl), (Nat.le_of_ble_eq_true rfl)⟩ ⟨(Nat.le_of_ble_eq_true rfl), (Nat.le_of_ble_eq_true rfl)⟩ (Nat.le_of_ble_eq_true rfl) dX10_power_73 (fun x5 => ?_)
    refine sm_imul hO dX10_power_76 ?_
    refine sm_goto (tgt := 81) hO dX10_power_77 (by decide) ?_
    exact sm_sub [1, 2, 4] rfl (tX10_power_81 hO hr hk k4 hk4 aL0 xL1 xL3 (x2 * x5) xL2)
set_option maxRecDepth 100000 in
set_option maxHeartbeats 4000000 in
theorem tX10_power_4 {p : Program} {l : Launch} {e : Env} {s : State} {m : MethodId} {args : Array Value} {below : List Frame} {meth : Method} {c : Code} {G : cG} (hO : c_Ok p s m c cX10_power 5 RX10 G) (hr : meth.sig.returnType = (some .int)) (hk : meth.locks = false) : ∀ (n : Nat) (aL0 : Nat) (xL1 : Int32) (xL2 : Int32) (xL3 : Int32), Sm p l e { frames := 3, cells := 0, slots := 0, locals := 65 } s m args below meth c G 5 (c_Q G c_vi below args s 0 0) 0 0 4 [(0, .ref aL0), (1, .int xL1), (2, .int xL2), (3, .int xL3)] [] (fX10_power_4 n aL0 xL1 xL2 xL3) := by
  intro n
  induction n with
  | zero =>
    intro aL0 xL1 xL2 xL3
    exact sm_bad
  | succ n ih =>
    intro aL0 xL1 xL2 xL3
    rw [fX10_power_4]
    refine sm_iload_n hO 3 dX10_power_4 rfl rfl ?_
    refine sm_iconst (v := 1) hO dX10_power_5 rfl ?_
    refine sm_aload_n hO 0 dX10_power_6 rfl rfl ?_
    refine sm_gi hO fl_RX10_72 dX10_power_7 (fun x1 => ?_)
    refine sm_ishl hO dX10_power_10 ?_
    refine sm_icmp_ge (tgt := 89) hO dX10_power_11 (by decide) ?_ ?_
    · refine sm_iload_n hO 2 dX10_power_89 rfl rfl ?_
      exact sm_iret hO hr hk (Nat.le_of_ble_eq_true rfl) (Nat.le_of_ble_eq_true rfl) dX10_power_90
    · refine sm_iload_n hO 3 dX10_power_14 rfl rfl ?_
      refine sm_iload_n hO 1 dX10_power_15 rfl rfl ?_
      refine sm_csi hO (ctX10_has l G xL3 xL1) cw_RX10_175 kw_985 [] rfl rfl ⟨(Nat.le_of_ble_eq_true rfl), (Nat.le_of_ble_eq_true rfl)⟩ ⟨(Nat.le_of_ble_eq_true rfl), (Nat.le_of_ble_eq_true rfl)⟩ (Nat.le_of_ble_eq_true rfl) dX10_power_16 (fun x2 => ?_)
      refine sm_if_ne (tgt := 46) hO dX10_power_19 (by decide) ?_ ?_
      · exact sm_sub [0, 1, 2, 3] rfl (tX10_power_46 hO hr hk (fX10_power_47 (fX10_power_4 n)) (tX10_power_47 hO hr hk (fX10_power_4 n) ih) aL0 xL1 xL2 xL3)
      · refine sm_aload_n hO 0 dX10_power_22 rfl rfl ?_
        refine sm_iload_n hO 3 dX10_power_23 rfl rfl ?_
        refine sm_cvi hO (ctX10_hasQuota l G aL0 xL3) cw_RX10_185 cv_X10_hasQuota [] rfl rfl ⟨(Nat.le_of_ble_eq_true rfl), (Nat.le_of_ble_eq_true rfl)⟩ ⟨(Nat.le_of_ble_eq_true rfl), (Nat.le_of_ble_eq_true rfl)⟩ (Nat.le_of_ble_eq_true rfl) dX10_power_24 (fun x3 => ?_)
        refine sm_if_ne (tgt := 46) hO dX10_power_27 (by decide) ?_ ?_
        · exact sm_sub [0, 1, 2, 3] rfl (tX10_power_46 hO hr hk (fX10_power_47 (fX10_power_4 n)) (tX10_power_47 hO hr hk (fX10_power_4 n) ih) aL0 xL1 xL2 xL3)
        · refine sm_aload_n hO 0 dX10_power_30 rfl rfl ?_
          refine sm_iload_n hO 3 dX10_power_31 rfl rfl ?_
          refine sm_iconst (v := 1) hO dX10_power_32 rfl ?_
          refine sm_iload_n hO 1 dX10_power_33 rfl rfl ?_
          refine sm_ishl hO dX10_power_34 ?_
          refine sm_ior hO dX10_power_35 ?_
          refine sm_cvi hO (ctX10_hasQuota l G aL0 (xL3 ||| ((1 : Int32) <<< (xL1 &&& 31)))) cw_RX10_185 cv_X10_hasQuota [] rfl rfl ⟨(Nat.le_of_ble_eq_true rfl), (Nat.le_of_ble_eq_true rfl)⟩ ⟨(Nat.le_of_ble_eq_true rfl), (Nat.le_of_ble_eq_true rfl)⟩ (Nat.le_of_ble_eq_true rfl) dX10_power_36 (fun x4 => ?_)
          refine sm_if_eq (tgt := 46) hO dX10_power_39 (by decide) ?_ ?_
          · exact sm_sub [0, 1, 2, 3] rfl (tX10_power_46 hO hr hk (fX10_power_47 (fX10_power_4 n)) (tX10_power_47 hO hr hk (fX10_power_4 n) ih) aL0 xL1 xL2 xL3)
          · refine sm_iconst (v := 1) hO dX10_power_42 rfl ?_
            refine sm_goto (tgt := 47) hO dX10_power_43 (by decide) ?_
            exact sm_sub [0, 1, 2, 3] rfl (tX10_power_47 hO hr hk (fX10_power_4 n) ih aL0 xL1 xL2 xL3 1)
set_option maxRecDepth 100000 in
set_option maxHeartbeats 4000000 in
theorem ctX10_power (l : Launch) (G : cG) (a0_ : Nat) (x1_ : Int32) : Ct l G yX10_power cX10_power 5 (some .int) 3 65 0 0 [.ref a0_, .int x1_] c_vi (pX10_power a0_ x1_) := by
  refine Ct.of (lv := [(0, .ref a0_), (1, .int x1_)]) (by decide) (Nat.le_of_ble_eq_true rfl) rfl (fun p e s m args below meth c hO hr hk hin => ?_)
  rw [pX10_power]
  refine sm_iconst (v := 0) hO dX10_power_0 rfl ?_
  refine sm_istore_n hO [(2, .int 0), (0, .ref a0_), (1, .int x1_)] dX10_power_1 rfl (by decide) rfl ?_
  refine sm_iconst (v := 0) hO dX10_power_2 rfl ?_
  refine sm_istore_n hO [(3, .int 0), (2, .int 0), (0, .ref a0_), (1, .int x1_)] dX10_power_3 rfl (by decide) rfl ?_
  exact sm_sub [2, 3, 1, 0] rfl (tX10_power_4 hO hr hk c_fu a0_ x1_ 0 0)
/-! DollCongressModel.court(II)I -/
def pX10_court (a0_ : Nat) (x1_ : Int32) (x2_ : Int32) : MM Int32 := m_cv a0_ 9 (pX10_isCourt a0_ x1_) (fun x1 => if x1 = 0 then (m_ret ((-1000000001) : Int32)) else (if x2_ = 0 then (m_gr a0_ 9 1 (fun a6 => m_li 0 a6 x1_ (fun x7 => m_ret x7))) else (if x2_ = 1 then (m_cv a0_ 9 (pX10_whoIsAt a0_ x1_) (fun x5 => m_ret x5)) else (if x2_ = 2 then (m_cv a0_ 9 (pX10_whoBelongsTo a0_ x1_) (fun x4 => m_ret x4)) else (if x2_ = 3 then (m_cv a0_ 9 (pX10_nods a0_ x1_) (fun x3 => if x3 = 0 then (m_ret (0 : Int32)) else (m_ret (1 : Int32)))) else (if x2_ = 4 then (m_cv a0_ 9 (pX10_power a0_ x1_) (fun x2 => m_ret x2)) else (m_ret ((-1000000002) : Int32))))))))
set_option maxRecDepth 100000 in
set_option maxHeartbeats 4000000 in
theorem ctX10_court (l : Launch) (G : cG) (a0_ : Nat) (x1_ : Int32) (x2_ : Int32) : Ct l G yX10_court cX10_court 3 (some .int) 4 89 0 0 [.ref a0_, .int x1_, .int x2_] c_vi (pX10_court a0_ x1_ x2_) := by
  refine Ct.of (lv := [(0, .ref a0_), (1, .int x1_), (2, .int x2_)]) (by decide) (Nat.le_of_ble_eq_true rfl) rfl (fun p e s m args below meth c hO hr hk hin => ?_)
  rw [pX10_court]
  refine sm_aload_n hO 0 dX10_court_0 rfl rfl ?_
  refine sm_iload_n hO 1 dX10_court_1 rfl rfl ?_
  refine sm_cvi hO (ctX10_isCourt l G a0_ x1_) cw_RX10_219 cv_X10_isCourt [] rfl rfl ⟨(Nat.le_of_ble_eq_true rfl), (Nat.le_of_ble_eq_true rfl)⟩ ⟨(Nat.le_of_ble_eq_true rfl), (Nat.le_of_ble_eq_true rfl)⟩ (Nat.le_of_ble_eq_true rfl) dX10_court_2 (fun x1 => ?_)
  refine sm_if_ne (tgt := 11) hO dX10_court_5 (by decide) ?_ ?_
  · refine sm_iload_n hO 2 dX10_court_11 rfl rfl ?_
    refine sm_ite (fun q12_0 => ?_) (fun q12_0 => ?_)
    · refine sm_tabIn (tgt := 48) hO dX10_court_12 q12_0 (by decide) (by decide) rfl (by decide) ?_
      refine sm_aload_n hO 0 dX10_court_48 rfl rfl ?_
      refine sm_gr hO fl_RX10_7 dX10_court_49 (fun a6 => ?_)
      refine sm_iload_n hO 1 dX10_court_52 rfl rfl ?_
      refine sm_li hO dX10_court_53 (fun x7 => ?_)
      exact sm_iret hO hr hk (Nat.le_of_ble_eq_true rfl) (Nat.le_of_ble_eq_true rfl) dX10_court_54
    · refine sm_ite (fun q12_1 => ?_) (fun q12_1 => ?_)
      · refine sm_tabIn (tgt := 55) hO dX10_court_12 q12_1 (by decide) (by decide) rfl (by decide) ?_
        refine sm_aload_n hO 0 dX10_court_55 rfl rfl ?_
        refine sm_iload_n hO 1 dX10_court_56 rfl rfl ?_
        refine sm_cvi hO (ctX10_whoIsAt l G a0_ x1_) cw_RX10_179 cv_X10_whoIsAt [] rfl rfl ⟨(Nat.le_of_ble_eq_true rfl), (Nat.le_of_ble_eq_true rfl)⟩ ⟨(Nat.le_of_ble_eq_true rfl), (Nat.le_of_ble_eq_true rfl)⟩ (Nat.le_of_ble_eq_true rfl) dX10_court_57 (fun x5 => ?_)
        exact sm_iret hO hr hk (Nat.le_of_ble_eq_true rfl) (Nat.le_of_ble_eq_true rfl) dX10_court_60
      · refine sm_ite (fun q12_2 => ?_) (fun q12_2 => ?_)
        · refine sm_tabIn (tgt := 61) hO dX10_court_12 q12_2 (by decide) (by decide) rfl (by decide) ?_
          refine sm_aload_n hO 0 dX10_court_61 rfl rfl ?_
          refine sm_iload_n hO 1 dX10_court_62 rfl rfl ?_
          refine sm_cvi hO (ctX10_whoBelongsTo l G a0_ x1_) cw_RX10_222 cv_X10_whoBelongsTo [] rfl rfl ⟨(Nat.le_of_ble_eq_true rfl), (Nat.le_of_ble_eq_true rfl)⟩ ⟨(Nat.le_of_ble_eq_true rfl), (Nat.le_of_ble_eq_true rfl)⟩ (Nat.le_of_ble_eq_true rfl) dX10_court_63 (fun x4 => ?_)
          exact sm_iret hO hr hk (Nat.le_of_ble_eq_true rfl) (Nat.le_of_ble_eq_true rfl) dX10_court_66
        · refine sm_ite (fun q12_3 => ?_) (fun q12_3 => ?_)
          · refine sm_tabIn (tgt := 67) hO dX10_court_12 q12_3 (by decide) (by decide) rfl (by decide) ?_
            refine sm_aload_n hO 0 dX10_court_67 rfl rfl ?_
            refine sm_iload_n hO 1 dX10_court_68 rfl rfl ?_
            refine sm_cvi hO (ctX10_nods l G a0_ x1_) cw_RX10_182 cv_X10_nods [] rfl rfl ⟨(Nat.le_of_ble_eq_true rfl), (Nat.le_of_ble_eq_true rfl)⟩ ⟨(Nat.le_of_ble_eq_true rfl), (Nat.le_of_ble_eq_true rfl)⟩ (Nat.le_of_ble_eq_true rfl) dX10_court_69 (fun x3 => ?_)
            refine sm_if_eq (tgt := 79) hO dX10_court_72 (by decide) ?_ ?_
            · refine sm_iconst (v := 0) hO dX10_court_79 rfl ?_
              exact sm_iret hO hr hk (Nat.le_of_ble_eq_true rfl) (Nat.le_of_ble_eq_true rfl) dX10_court_80
            · refine sm_iconst (v := 1) hO dX10_court_75 rfl ?_
              refine sm_goto (tgt := 80) hO dX10_court_76 (by decide) ?_
              exact sm_iret hO hr hk (Nat.le_of_ble_eq_true rfl) (Nat.le_of_ble_eq_true rfl) dX10_court_80
          · refine sm_ite (fun q12_4 => ?_) (fun q12_4 => ?_)
            · refine sm_tabIn (tgt := 81) hO dX10_court_12 q12_4 (by decide) (by decide) rfl (by decide) ?_
              refine sm_aload_n hO 0 dX10_court_81 rfl rfl ?_
              refine sm_iload_n hO 1 dX10_court_82 rfl rfl ?_
              refine sm_cvi hO (ctX10_power l G a0_ x1_) cw_RX10_225 cv_X10_power [] rfl rfl ⟨(Nat.le_of_ble_eq_true rfl), (Nat.le_of_ble_eq_true rfl)⟩ ⟨(Nat.le_of_ble_eq_true rfl), (Nat.le_of_ble_eq_true rfl)⟩ (Nat.le_of_ble_eq_true rfl) dX10_court_83 (fun x2 => ?_)
              exact sm_iret hO hr hk (Nat.le_of_ble_eq_true rfl) (Nat.le_of_ble_eq_true rfl) dX10_court_86
            · refine sm_tabOut (tgt := 87) hO dX10_court_12 (c_ne_lo (n := 5) (by decide) (fun k hk => match k, hk with | 0, _ => q12_0 | 1, _ => q12_1 | 2, _ => q12_2 | 3, _ => q12_3 | 4, _ => q12_4 | k + 5, hk => absurd hk (by omega))) (by decide) ?_
              refine sm_ldc (v := (-1000000002)) hO kw_925 dX10_court_87 ?_
              exact sm_iret hO hr hk (Nat.le_of_ble_eq_true rfl) (Nat.le_of_ble_eq_true rfl) dX10_court_89
  · refine sm_ldc (v := (-1000000001)) hO kw_1046 dX10_court_8 ?_
    exact sm_iret hO hr hk (Nat.le_of_ble_eq_true rfl) (Nat.le_of_ble_eq_true rfl) dX10_court_10
/-! DollCongress$Scene.copyFrom(LDollCongress$Scene;)V -/
def pX5_copyFrom (a0_ : Nat) (a1_ : Nat) : MM Unit := m_gr a1_ 5 0 (fun a1 => m_gr a0_ 5 0 (fun a2 => m_cp a1 a2 (8 : Int32) (m_gr a1_ 5 1 (fun a3 => m_gr a0_ 5 1 (fun a4 => m_cp a3 a4 (8 : Int32) (m_gr a1_ 5 2 (fun a5 => m_gr a0_ 5 2 (fun a6 => m_cp a5 a6 (8 : Int32) (m_gr a1_ 5 3 (fun a7 => m_gr a0_ 5 3 (fun a8 => m_cp a7 a8 (8 : Int32) (m_gi a1_ 5 4 (fun x9 => m_pv a0_ 5 4 (.int x9) (m_gi a1_ 5 5 (fun x10 => m_pv a0_ 5 5 (.int x10) (m_gi a1_ 5 6 (fun x11 => m_pv a0_ 5 6 (.int x11) (m_gi a1_ 5 7 (fun x12 => m_pv a0_ 5 7 (.int x12) (m_ret ()))))))))))))))))))))
set_option maxRecDepth 100000 in
set_option maxHeartbeats 4000000 in
theorem ctX5_copyFrom (l : Launch) (G : cG) (a0_ : Nat) (a1_ : Nat) : Ct l G yX5_copyFrom cX5_copyFrom 2 none 1 40 0 0 [.ref a0_, .ref a1_] c_vv (pX5_copyFrom a0_ a1_) := by
  refine Ct.of (lv := [(0, .ref a0_), (1, .ref a1_)]) (by decide) (Nat.le_of_ble_eq_true rfl) rfl (fun p e s m args below meth c hO hr hk hin => ?_)
  rw [pX5_copyFrom]
  refine sm_aload_n hO 1 dX5_copyFrom_0 rfl rfl ?_
  refine sm_gr hO fl_RX5_9 dX5_copyFrom_1 (fun a1 => ?_)
  refine sm_iconst (v := 0) hO dX5_copyFrom_4 rfl ?_
  refine sm_aload_n hO 0 dX5_copyFrom_5 rfl rfl ?_
  refine sm_gr hO fl_RX5_9 dX5_copyFrom_6 (fun a2 => ?_)
  refine sm_iconst (v := 0) hO dX5_copyFrom_9 rfl ?_
  refine sm_bipush (v := 8) hO dX5_copyFrom_10 rfl ?_
  refine sm_cp hO kw_446 kw_448 kw_447 kw_84 (Nat.le_of_ble_eq_true rfl) (Nat.le_of_ble_eq_true rfl) dX5_copyFrom_12 ?_
  refine sm_aload_n hO 1 dX5_copyFrom_15 rfl rfl ?_
  refine sm_gr hO fl_RX5_15 dX5_copyFrom_16 (fun a3 => ?_)
  refine sm_iconst (v := 0) hO dX5_copyFrom_19 rfl ?_
  refine sm_aload_n hO 0 dX5_copyFrom_20 rfl rfl ?_
  refine sm_gr hO fl_RX5_15 dX5_copyFrom_21 (fun a4 => ?_)
  refine sm_iconst (v := 0) hO dX5_copyFrom_24 rfl ?_
  refine sm_bipush (v := 8) hO dX5_copyFrom_25 rfl ?_
  refine sm_cp hO kw_446 kw_448 kw_447 kw_84 (Nat.le_of_ble_eq_true rfl) (Nat.le_of_ble_eq_true rfl) dX5_copyFrom_27 ?_
  refine sm_aload_n hO 1 dX5_copyFrom_30 rfl rfl ?_
  refine sm_gr hO fl_RX5_18 dX5_copyFrom_31 (fun a5 => ?_)
  refine sm_iconst (v := 0) hO dX5_copyFrom_34 rfl ?_
  refine sm_aload_n hO 0 dX5_copyFrom_35 rfl rfl ?_
  refine sm_gr hO fl_RX5_18 dX5_copyFrom_36 (fun a6 => ?_)
  refine sm_iconst (v := 0) hO dX5_copyFrom_39 rfl ?_
  refine sm_bipush (v := 8) hO dX5_copyFrom_40 rfl ?_
  refine sm_cp hO kw_446 kw_448 kw_447 kw_84 (Nat.le_of_ble_eq_true rfl) (Nat.le_of_ble_eq_true rfl) dX5_copyFrom_42 ?_
  refine sm_aload_n hO 1 dX5_copyFrom_45 rfl rfl ?_
  refine sm_gr hO fl_RX5_21 dX5_copyFrom_46 (fun a7 => ?_)
  refine sm_iconst (v := 0) hO dX5_copyFrom_49 rfl ?_
  refine sm_aload_n hO 0 dX5_copyFrom_50 rfl rfl ?_
  refine sm_gr hO fl_RX5_21 dX5_copyFrom_51 (fun a8 => ?_)
  refine sm_iconst (v := 0) hO dX5_copyFrom_54 rfl ?_
  refine sm_bipush (v := 8) hO dX5_copyFrom_55 rfl ?_
  refine sm_cp hO kw_446 kw_448 kw_447 kw_84 (Nat.le_of_ble_eq_true rfl) (Nat.le_of_ble_eq_true rfl) dX5_copyFrom_57 ?_
  refine sm_aload_n hO 0 dX5_copyFrom_60 rfl rfl ?_
  refine sm_aload_n hO 1 dX5_copyFrom_61 rfl rfl ?_
  refine sm_gi hO fl_RX5_46 dX5_copyFrom_62 (fun x9 => ?_)
  refine sm_pv hO fl_RX5_46 fp_5_4 rfl rfl dX5_copyFrom_65 ?_
  refine sm_aload_n hO 0 dX5_copyFrom_68 rfl rfl ?_
  refine sm_aload_n hO 1 dX5_copyFrom_69 rfl rfl ?_
  refine sm_gi hO fl_RX5_49 dX5_copyFrom_70 (fun x10 => ?_)
  refine sm_pv hO fl_RX5_49 fp_5_5 rfl rfl dX5_copyFrom_73 ?_
  refine sm_aload_n hO 0 dX5_copyFrom_76 rfl rfl ?_
  refine sm_aload_n hO 1 dX5_copyFrom_77 rfl rfl ?_
  refine sm_gi hO fl_RX5_52 dX5_copyFrom_78 (fun x11 => ?_)
  refine sm_pv hO fl_RX5_52 fp_5_6 rfl rfl dX5_copyFrom_81 ?_
  refine sm_aload_n hO 0 dX5_copyFrom_84 rfl rfl ?_
  refine sm_aload_n hO 1 dX5_copyFrom_85 rfl rfl ?_
  refine sm_gi hO fl_RX5_55 dX5_copyFrom_86 (fun x12 => ?_)
  refine sm_pv hO fl_RX5_55 fp_5_7 rfl rfl dX5_copyFrom_89 ?_
  exact sm_vret hO hr hk (Nat.le_of_ble_eq_true rfl) (Nat.le_of_ble_eq_true rfl) dX5_copyFrom_92
/-! DollCongress$Past.remember(LDollCongress$Scene;)V -/
def pX3_remember (a0_ : Nat) (a1_ : Nat) : MM Unit := m_gr a0_ 3 0 (fun a1 => m_gi a0_ 3 1 (fun x2 => m_lr 3 a1 x2 (fun a3 => m_cv a3 5 (pX5_copyFrom a3 a1_) (fun _ => m_gi a0_ 3 1 (fun x4 => m_nz (16 : Int32) (m_pv a0_ 3 1 (.int ((x4 + 1) - (x4 + 1) / 16 * 16)) (m_gi a0_ 3 2 (fun x5 => m_pv a0_ 3 2 (.int (c_mn (x5 + 1) (16 : Int32))) (m_ret ())))))))))
set_option maxRecDepth 100000 in
set_option maxHeartbeats 4000000 in
theorem ctX3_remember (l : Launch) (G : cG) (a0_ : Nat) (a1_ : Nat) : Ct l G yX3_remember cX3_remember 2 none 2 61 0 0 [.ref a0_, .ref a1_] c_vv (pX3_remember a0_ a1_) := by
  refine Ct.of (lv := [(0, .ref a0_), (1, .ref a1_)]) (by decide) (Nat.le_of_ble_eq_true rfl) rfl (fun p e s m args below meth c hO hr hk hin => ?_)
  rw [pX3_remember]
  refine sm_aload_n hO 0 dX3_remember_0 rfl rfl ?_
  refine sm_gr hO fl_RX3_11 dX3_remember_1 (fun a1 => ?_)
  refine sm_aload_n hO 0 dX3_remember_4 rfl rfl ?_
  refine sm_gi hO fl_RX3_22 dX3_remember_5 (fun x2 => ?_)
  refine sm_lr hO rfl dX3_remember_8 (by decide) (fun a3 => ?_)
  refine sm_aload_n hO 1 dX3_remember_9 rfl rfl ?_
  refine sm_cvv hO (ctX5_copyFrom l G a3 a1_) cw_RX3_25 cv_X5_copyFrom [] rfl rfl ⟨(Nat.le_of_ble_eq_true rfl), (Nat.le_of_ble_eq_true rfl)⟩ ⟨(Nat.le_of_ble_eq_true rfl), (Nat.le_of_ble_eq_true rfl)⟩ (Nat.le_of_ble_eq_true rfl) dX3_remember_10 (fun _ => ?_)
  refine sm_aload_n hO 0 dX3_remember_13 rfl rfl ?_
  refine sm_aload_n hO 0 dX3_remember_14 rfl rfl ?_
  refine sm_gi hO fl_RX3_22 dX3_remember_15 (fun x4 => ?_)
  refine sm_iconst (v := 1) hO dX3_remember_18 rfl ?_
  refine sm_iadd hO dX3_remember_19 ?_
  refine sm_bipush (v := 16) hO dX3_remember_20 rfl ?_
  refine sm_irem hO dX3_remember_22 ?_
  refine sm_pv hO fl_RX3_22 fp_3_1 rfl rfl dX3_remember_23 ?_
  refine sm_aload_n hO 0 dX3_remember_26 rfl rfl ?_
  refine sm_aload_n hO 0 dX3_remember_27 rfl rfl ?_
  refine sm_gi hO fl_RX3_18 dX3_remember_28 (fun x5 => ?_)
  refine sm_iconst (v := 1) hO dX3_remember_31 rfl ?_
  refine sm_iadd hO dX3_remember_32 ?_
  refine sm_bipush (v := 16) hO dX3_remember_33 rfl ?_
  refine sm_min hO kw_545 kw_404 kw_83 kw_405 (Nat.le_of_ble_eq_true rfl) (Nat.le_of_ble_eq_true rfl) (Nat.le_of_ble_eq_true rfl) (Nat.le_of_ble_eq_true rfl) dX3_remember_35 ?_
  refine sm_pv hO fl_RX3_18 fp_3_2 rfl rfl dX3_remember_38 ?_
  exact sm_vret hO hr hk (Nat.le_of_ble_eq_true rfl) (Nat.le_of_ble_eq_true rfl) dX3_remember_41
/-! DollCongress$Scene.layBack(I)V -/
def pX5_layBack (a0_ : Nat) (x1_ : Int32) : MM Unit := m_gi a0_ 5 4 (fun x1 => m_pv a0_ 5 4 (.int (x1 &&& (((1 : Int32) <<< (x1_ &&& 31)) ^^^ ((-1))))) (m_ret ()))
set_option maxRecDepth 100000 in
set_option maxHeartbeats 4000000 in
theorem ctX5_layBack (l : Launch) (G : cG) (a0_ : Nat) (x1_ : Int32) : Ct l G yX5_layBack cX5_layBack 2 none 0 0 0 0 [.ref a0_, .int x1_] c_vv (pX5_layBack a0_ x1_) := by
  refine Ct.of (lv := [(0, .ref a0_), (1, .int x1_)]) (by decide) (Nat.le_of_ble_eq_true rfl) rfl (fun p e s m args below meth c hO hr hk hin => ?_)
  rw [pX5_layBack]
  refine sm_aload_n hO 0 dX5_layBack_0 rfl rfl ?_
  refine sm_dup hO dX5_layBack_1 rfl ?_
  refine sm_gi hO fl_RX5_46 dX5_layBack_2 (fun x1 => ?_)
  refine sm_iconst (v := 1) hO dX5_layBack_5 rfl ?_
  refine sm_iload_n hO 1 dX5_layBack_6 rfl rfl ?_
  refine sm_ishl hO dX5_layBack_7 ?_
  refine sm_iconst (v := (-1)) hO dX5_layBack_8 rfl ?_
  refine sm_ixor hO dX5_layBack_9 ?_
  refine sm_iand hO dX5_layBack_10 ?_
  refine sm_pv hO fl_RX5_46 fp_5_4 rfl rfl dX5_layBack_11 ?_
  exact sm_vret hO hr hk (Nat.le_of_ble_eq_true rfl) (Nat.le_of_ble_eq_true rfl) dX5_layBack_14
/-! DollCongress$Scene.send(II)V -/
def pX5_send (a0_ : Nat) (x1_ : Int32) (x2_ : Int32) : MM Unit := m_gr a0_ 5 0 (fun a1 => m_si a1 x1_ x2_ (m_cv a0_ 5 (pX5_layBack a0_ x1_) (fun _ => m_ret ())))
set_option maxRecDepth 100000 in
set_option maxHeartbeats 4000000 in
theorem ctX5_send (l : Launch) (G : cG) (a0_ : Nat) (x1_ : Int32) (x2_ : Int32) : Ct l G yX5_send cX5_send 3 none 1 21 0 0 [.ref a0_, .int x1_, .int x2_] c_vv (pX5_send a0_ x1_ x2_) := by
  refine Ct.of (lv := [(0, .ref a0_), (1, .int x1_), (2, .int x2_)]) (by decide) (Nat.le_of_ble_eq_true rfl) rfl (fun p e s m args below meth c hO hr hk hin => ?_)
  rw [pX5_send]
  refine sm_aload_n hO 0 dX5_send_0 rfl rfl ?_
  refine sm_gr hO fl_RX5_9 dX5_send_1 (fun a1 => ?_)
  refine sm_iload_n hO 1 dX5_send_4 rfl rfl ?_
  refine sm_iload_n hO 2 dX5_send_5 rfl rfl ?_
  refine sm_si hO dX5_send_6 ?_
  refine sm_aload_n hO 0 dX5_send_7 rfl rfl ?_
  refine sm_iload_n hO 1 dX5_send_8 rfl rfl ?_
  refine sm_cvv hO (ctX5_layBack l G a0_ x1_) cw_RX5_58 cv_X5_layBack [] rfl rfl ⟨(Nat.le_of_ble_eq_true rfl), (Nat.le_of_ble_eq_true rfl)⟩ ⟨(Nat.le_of_ble_eq_true rfl), (Nat.le_of_ble_eq_true rfl)⟩ (Nat.le_of_ble_eq_true rfl) dX5_send_9 (fun _ => ?_)
  exact sm_vret hO hr hk (Nat.le_of_ble_eq_true rfl) (Nat.le_of_ble_eq_true rfl) dX5_send_12
/-! DollCongress.post(II)I -/
def pX9_post (a0_ : Nat) (x1_ : Int32) (x2_ : Int32) : MM Int32 := m_gr a0_ 8 7 (fun a1 => m_cv a1 4 (pX4_hasDoll a1 x1_) (fun x2 => if x2 = 0 then (m_ret ((-1000000001) : Int32)) else (m_gr a0_ 8 7 (fun a3 => m_cv a3 4 (pX4_hasCourt a3 x2_) (fun x4 => if x4 = 0 then (m_ret ((-1000000001) : Int32)) else (m_gr a0_ 8 1 (fun a5 => m_gr a5 5 0 (fun a6 => m_li 0 a6 x1_ (fun x7 => if x7 = x2_ then (m_ret ((-1000000003) : Int32)) else (m_gr a0_ 8 2 (fun a8 => m_gr a0_ 8 1 (fun a9 => m_cv a8 3 (pX3_remember a8 a9) (fun _ => m_gr a0_ 8 1 (fun a10 => m_gr a10 5 0 (fun a11 => m_li 0 a11 x1_ (fun x12 => m_gr a0_ 8 1 (fun a13 => m_cv a13 5 (pX5_send a13 x1_ x2_) (fun _ => m_ret x12))))))))))))))))))
set_option maxRecDepth 100000 in
set_option maxHeartbeats 4000000 in
theorem ctX9_post (l : Launch) (G : cG) (a0_ : Nat) (x1_ : Int32) (x2_ : Int32) : Ct l G yX9_post cX9_post 4 (some .int) 3 82 0 0 [.ref a0_, .int x1_, .int x2_] c_vi (pX9_post a0_ x1_ x2_) := by
  refine Ct.of (lv := [(0, .ref a0_), (1, .int x1_), (2, .int x2_)]) (by decide) (Nat.le_of_ble_eq_true rfl) rfl (fun p e s m args below meth c hO hr hk hin => ?_)
  rw [pX9_post]
  refine sm_aload_n hO 0 dX9_post_0 rfl rfl ?_
  refine sm_gr hO fl_RX9_60 dX9_post_1 (fun a1 => ?_)
  refine sm_iload_n hO 1 dX9_post_4 rfl rfl ?_
  refine sm_cvi hO (ctX4_hasDoll l G a1 x1_) cw_RX9_153 cv_X4_hasDoll [] rfl rfl ⟨(Nat.le_of_ble_eq_true rfl), (Nat.le_of_ble_eq_true rfl)⟩ ⟨(Nat.le_of_ble_eq_true rfl), (Nat.le_of_ble_eq_true rfl)⟩ (Nat.le_of_ble_eq_true rfl) dX9_post_5 (fun x2 => ?_)
  refine sm_if_eq (tgt := 22) hO dX9_post_8 (by decide) ?_ ?_
  · refine sm_ldc (v := (-1000000001)) hO kw_512 dX9_post_22 ?_
    exact sm_iret hO hr hk (Nat.le_of_ble_eq_true rfl) (Nat.le_of_ble_eq_true rfl) dX9_post_24
  · refine sm_aload_n hO 0 dX9_post_11 rfl rfl ?_
    refine sm_gr hO fl_RX9_60 dX9_post_12 (fun a3 => ?_)
    refine sm_iload_n hO 2 dX9_post_15 rfl rfl ?_
    refine sm_cvi hO (ctX4_hasCourt l G a3 x2_) cw_RX9_179 cv_X4_hasCourt [] rfl rfl ⟨(Nat.le_of_ble_eq_true rfl), (Nat.le_of_ble_eq_true rfl)⟩ ⟨(Nat.le_of_ble_eq_true rfl), (Nat.le_of_ble_eq_true rfl)⟩ (Nat.le_of_ble_eq_true rfl) dX9_post_16 (fun x4 => ?_)
    refine sm_if_ne (tgt := 25) hO dX9_post_19 (by decide) ?_ ?_
    · refine sm_aload_n hO 0 dX9_post_25 rfl rfl ?_
      refine sm_gr hO fl_RX9_19 dX9_post_26 (fun a5 => ?_)
      refine sm_gr hO fl_RX9_164 dX9_post_29 (fun a6 => ?_)
      refine sm_iload_n hO 1 dX9_post_32 rfl rfl ?_
      refine sm_li hO dX9_post_33 (fun x7 => ?_)
      refine sm_iload_n hO 2 dX9_post_34 rfl rfl ?_
      refine sm_icmp_ne (tgt := 41) hO dX9_post_35 (by decide) ?_ ?_
      · refine sm_aload_n hO 0 dX9_post_41 rfl rfl ?_
        refine sm_gr hO fl_RX9_26 dX9_post_42 (fun a8 => ?_)
        refine sm_aload_n hO 0 dX9_post_45 rfl rfl ?_
        refine sm_gr hO fl_RX9_19 dX9_post_46 (fun a9 => ?_)
        refine sm_cvv hO (ctX3_remember l G a8 a9) cw_RX9_194 cv_X3_remember [] rfl rfl ⟨(Nat.le_of_ble_eq_true rfl), (Nat.le_of_ble_eq_true rfl)⟩ ⟨(Nat.le_of_ble_eq_true rfl), (Nat.le_of_ble_eq_true rfl)⟩ (Nat.le_of_ble_eq_true rfl) dX9_post_49 (fun _ => ?_)
        refine sm_aload_n hO 0 dX9_post_52 rfl rfl ?_
        refine sm_gr hO fl_RX9_19 dX9_post_53 (fun a10 => ?_)
        refine sm_gr hO fl_RX9_164 dX9_post_56 (fun a11 => ?_)
        refine sm_iload_n hO 1 dX9_post_59 rfl rfl ?_
        refine sm_li hO dX9_post_60 (fun x12 => ?_)
        refine sm_istore_n hO [(3, .int x12), (0, .ref a0_), (1, .int x1_), (2, .int x2_)] dX9_post_61 rfl (by decide) rfl ?_
        refine sm_aload_n hO 1 dX9_post_62 rfl rfl ?_
        refine sm_gr hO fl_RX9_19 dX9_post_63 (fun a13 => ?_)
        refine sm_iload_n hO 2 dX9_post_66 rfl rfl ?_
        refine sm_iload_n hO 3 dX9_post_67 rfl rfl ?_
        refine sm_cvv hO (ctX5_send l G a13 x1_ x2_) cw_RX9_198 cv_X5_send [] rfl rfl ⟨(Nat.le_of_ble_eq_true rfl), (Nat.le_of_ble_eq_true rfl)⟩ ⟨(Nat.le_of_ble_eq_true rfl), (Nat.le_of_ble_eq_true rfl)⟩ (Nat.le_of_ble_eq_true rfl) dX9_post_68 (fun _ => ?_)
        refine sm_iload_n hO 0 dX9_post_71 rfl rfl ?_
        exact sm_iret hO hr hk (Nat.le_of_ble_eq_true rfl) (Nat.le_of_ble_eq_true rfl) dX9_post_72
      · refine sm_ldc (v := (-1000000003)) hO kw_536 dX9_post_38 ?_
        exact sm_iret hO hr hk (Nat.le_of_ble_eq_true rfl) (Nat.le_of_ble_eq_true rfl) dX9_post_40
    · refine sm_ldc (v := (-1000000001)) hO kw_512 dX9_post_22 ?_
      exact sm_iret hO hr hk (Nat.le_of_ble_eq_true rfl) (Nat.le_of_ble_eq_true rfl) dX9_post_24
/-! DollCongressModel.remember()V -/
def fX10_remember_12 (k40 : Nat → MM Unit) : Nat → Nat → Int32 → MM Unit
  | 0, _, _ => m_bad
  | n + 1, aL0, xL1 => if (576 : Int32) ≤ xL1 then (k40 aL0) else (m_gr aL0 9 26 (fun a1 => m_gr aL0 9 26 (fun a2 => m_li 0 a2 xL1 (fun x3 => m_si a1 (xL1 - 36) x3 (m_let (xL1 + 1) (fun x4 => fX10_remember_12 k40 n aL0 x4))))))
def fX10_remember_40 (k50 : Nat → MM Unit) (aL0 : Nat) : MM Unit := m_gi aL0 9 25 (fun x1 => m_pv aL0 9 25 (.int (x1 - 1)) (k50 aL0))
def fX10_remember_52 (k84 : Nat → MM Unit) : Nat → Nat → Int32 → MM Unit
  | 0, _, _ => m_bad
  | n + 1, aL0, xL1 => if (36 : Int32) ≤ xL1 then (k84 aL0) else (m_gr aL0 9 26 (fun a1 => m_gi aL0 9 25 (fun x2 => m_gr aL0 9 8 (fun a3 => m_li 0 a3 xL1 (fun x4 => m_si a1 (((36 : Int32) * x2) + xL1) x4 (m_let (xL1 + 1) (fun x5 => fX10_remember_52 k84 n aL0 x5)))))))
def fX10_remember_84  (aL0 : Nat) : MM Unit := m_gi aL0 9 25 (fun x1 => m_pv aL0 9 25 (.int (x1 + 1)) (m_ret ()))
def fX10_remember_50  (aL0 : Nat) : MM Unit := fX10_remember_52 fX10_remember_84 c_fu aL0 0
def pX10_remember (a0_ : Nat) : MM Unit := m_gi a0_ 9 25 (fun x1 => if x1 = (16 : Int32) then (fX10_remember_12 (fX10_remember_40 fX10_remember_50) c_fu a0_ 36) else (fX10_remember_50 a0_))
set_option maxRecDepth 100000 in
set_option maxHeartbeats 4000000 in
theorem tX10_remember_12 {p : Program} {l : Launch} {e : Env} {s : State} {m : MethodId} {args : Array Value} {below : List Frame} {meth : Method} {c : Code} {G : cG} (hO : c_Ok p s m c cX10_remember 2 RX10 G) (hr : meth.sig.returnType = none) (hk : meth.locks = false) (k40 : Nat → MM Unit) (hk40 : ∀ (aL0 : Nat), Sm p l e { frames := 0, cells := 0, slots := 0, locals := 0 } s m args below meth c G 2 (c_Q G c_vv below args s 0 0) 0 0 40 [(0, .ref aL0)] [] (k40 aL0))  : ∀ (n : Nat) (aL0 : Nat) (xL1 : Int32), Sm p l e { frames := 0, cells := 0, slots := 0, locals := 0 } s m args below meth c G 2 (c_Q G c_vv below args s 0 0) 0 0 12 [(0, .ref aL0), (1, .int xL1)] [] (fX10_remember_12 k40 n aL0 xL1) := by
  intro n
  induction n with
  | zero =>
    intro aL0 xL1
    exact sm_bad
  | succ n ih =>
    intro aL0 xL1
    rw [fX10_remember_12]
    refine sm_iload_n hO 1 dX10_remember_12 rfl rfl ?_
    refine sm_sipush (v := 576) hO dX10_remember_13 rfl ?_
    refine sm_icmp_ge (tgt := 40) hO dX10_remember_16 (by decide) ?_ ?_
    · exact sm_sub [0] rfl (hk40 aL0)
    · refine sm_aload_n hO 0 dX10_remember_19 rfl rfl ?_
      refine sm_gr hO fl_RX10_44 dX10_remember_20 (fun a1 => ?_)
      refine sm_iload_n hO 1 dX10_remember_23 rfl rfl ?_
      refine sm_bipush (v := 36) hO dX10_remember_24 rfl ?_
      refine sm_isub hO dX10_remember_26 ?_
      refine sm_aload_n hO 0 dX10_remember_27 rfl rfl ?_
      refine sm_gr hO fl_RX10_44 dX10_remember_28 (fun a2 => ?_)
      refine sm_iload_n hO 1 dX10_remember_31 rfl rfl ?_
      refine sm_li hO dX10_remember_32 (fun x3 => ?_)
      refine sm_si hO dX10_remember_33 ?_
      refine sm_iincL (v := xL1 + 1) hO 1 (fun x4 => [(1, .int x4), (0, .ref aL0)]) dX10_remember_34 rfl rfl (by decide) (fun _ => rfl) (fun x4 => ?_)
      refine sm_goto (tgt := 12) hO dX10_remember_37 (by decide) ?_
      exact sm_sub [1, 0] rfl (ih aL0 x4)
set_option maxRecDepth 100000 in
set_option maxHeartbeats 4000000 in
theorem tX10_remember_40 {p : Program} {l : Launch} {e : Env} {s : State} {m : MethodId} {args : Array Value} {below : List Frame} {meth : Method} {c : Code} {G : cG} (hO : c_Ok p s m c cX10_remember 2 RX10 G) (hr : meth.sig.returnType = none) (hk : meth.locks = false) (k50 : Nat → MM Unit) (hk50 : ∀ (aL0 : Nat), Sm p l e { frames := 0, cells := 0, slots := 0, locals := 0 } s m args below meth c G 2 (c_Q G c_vv below args s 0 0) 0 0 50 [(0, .ref aL0)] [] (k50 aL0))  : ∀ (aL0 : Nat), Sm p l e { frames := 0, cells := 0, slots := 0, locals := 0 } s m args below meth c G 2 (c_Q G c_vv below args s 0 0) 0 0 40 [(0, .ref aL0)] [] (fX10_remember_40 k50 aL0) := by
  intro aL0
  rw [fX10_remember_40]
  refine sm_aload_n hO 0 dX10_remember_40 rfl rfl ?_
  refine sm_dup hO dX10_remember_41 rfl ?_
  refine sm_gi hO fl_RX10_172 dX10_remember_42 (fun x1 => ?_)
  refine sm_iconst (v := 1) hO dX10_remember_45 rfl ?_
  refine sm_isub hO dX10_remember_46 ?_
  refine sm_pv hO fl_RX10_172 fp_9_25 rfl rfl dX10_remember_47 ?_
  exact sm_sub [0] rfl (hk50 aL0)
set_option maxRecDepth 100000 in
set_option maxHeartbeats 4000000 in
theorem tX10_remember_52 {p : Program} {l : Launch} {e : Env} {s : State} {m : MethodId} {args : Array Value} {below : List Frame} {meth : Method} {c : Code} {G : cG} (hO : c_Ok p s m c cX10_remember 2 RX10 G) (hr : meth.sig.returnType = none) (hk : meth.locks = false) (k84 : Nat → MM Unit) (hk84 : ∀ (aL0 : Nat), Sm p l e { frames := 0, cells := 0, slots := 0, locals := 0 } s m args below meth c G 2 (c_Q G c_vv below args s 0 0) 0 0 84 [(0, .ref aL0)] [] (k84 aL0))  : ∀ (n : Nat) (aL0 : Nat) (xL1 : Int32), Sm p l e { frames := 0, cells := 0, slots := 0, locals := 0 } s m args below meth c G 2 (c_Q G c_vv below args s 0 0) 0 0 52 [(0, .ref aL0), (1, .int xL1)] [] (fX10_remember_52 k84 n aL0 xL1) := by
  intro n
  induction n with
  | zero =>
    intro aL0 xL1
    exact sm_bad
  | succ n ih =>
    intro aL0 xL1
    rw [fX10_remember_52]
    refine sm_iload_n hO 1 dX10_remember_52 rfl rfl ?_
    refine sm_bipush (v := 36) hO dX10_remember_53 rfl ?_
    refine sm_icmp_ge (tgt := 84) hO dX10_remember_55 (by decide) ?_ ?_
    · exact sm_sub [0] rfl (hk84 aL0)
    · refine sm_aload_n hO 0 dX10_remember_58 rfl rfl ?_
      refine sm_gr hO fl_RX10_44 dX10_remember_59 (fun a1 => ?_)
      refine sm_bipush (v := 36) hO dX10_remember_62 rfl ?_
      refine sm_aload_n hO 0 dX10_remember_64 rfl rfl ?_
      refine sm_gi hO fl_RX10_172 dX10_remember_65 (fun x2 => ?_)
      refine sm_imul hO dX10_remember_68 ?_
      refine sm_iload_n hO 1 dX10_remember_69 rfl rfl ?_
      refine sm_iadd hO dX10_remember_70 ?_
      refine sm_aload_n hO 0 dX10_remember_71 rfl rfl ?_
      refine sm_gr hO fl_RX10_22 dX10_remember_72 (fun a3 => ?_)
      refine sm_iload_n hO 1 dX10_remember_75 rfl rfl ?_
      refine sm_li hO dX10_remember_76 (fun x4 => ?_)
      refine sm_si hO dX10_remember_77 ?_
      refine sm_iincL (v := xL1 + 1) hO 1 (fun x5 => [(1, .int x5), (0, .ref aL0)]) dX10_remember_78 rfl rfl (by decide) (fun _ => rfl) (fun x5 => ?_)
      refine sm_goto (tgt := 52) hO dX10_remember_81 (by decide) ?_
      exact sm_sub [1, 0] rfl (ih aL0 x5)
set_option maxRecDepth 100000 in
set_option maxHeartbeats 4000000 in
theorem tX10_remember_84 {p : Program} {l : Launch} {e : Env} {s : State} {m : MethodId} {args : Array Value} {below : List Frame} {meth : Method} {c : Code} {G : cG} (hO : c_Ok p s m c cX10_remember 2 RX10 G) (hr : meth.sig.returnType = none) (hk : meth.locks = false) : ∀ (aL0 : Nat), Sm p l e { frames := 0, cells := 0, slots := 0, locals := 0 } s m args below meth c G 2 (c_Q G c_vv below args s 0 0) 0 0 84 [(0, .ref aL0)] [] (fX10_remember_84 aL0) := by
  intro aL0
  rw [fX10_remember_84]
  refine sm_aload_n hO 0 dX10_remember_84 rfl rfl ?_
  refine sm_dup hO dX10_remember_85 rfl ?_
  refine sm_gi hO fl_RX10_172 dX10_remember_86 (fun x1 => ?_)
  refine sm_iconst (v := 1) hO dX10_remember_89 rfl ?_
  refine sm_iadd hO dX10_remember_90 ?_
  refine sm_pv hO fl_RX10_172 fp_9_25 rfl rfl dX10_remember_91 ?_
  exact sm_vret hO hr hk (Nat.le_of_ble_eq_true rfl) (Nat.le_of_ble_eq_true rfl) dX10_remember_94
set_option maxRecDepth 100000 in
set_option maxHeartbeats 4000000 in
theorem tX10_remember_50 {p : Program} {l : Launch} {e : Env} {s : State} {m : MethodId} {args : Array Value} {below : List Frame} {meth : Method} {c : Code} {G : cG} (hO : c_Ok p s m c cX10_remember 2 RX10 G) (hr : meth.sig.returnType = none) (hk : meth.locks = false) : ∀ (aL0 : Nat), Sm p l e { frames := 0, cells := 0, slots := 0, locals := 0 } s m args below meth c G 2 (c_Q G c_vv below args s 0 0) 0 0 50 [(0, .ref aL0)] [] (fX10_remember_50 aL0) := by
  intro aL0
  rw [fX10_remember_50]
  refine sm_iconst (v := 0) hO dX10_remember_50 rfl ?_
  refine sm_istore_n hO [(1, .int 0), (0, .ref aL0)] dX10_remember_51 rfl (by decide) rfl ?_
  exact sm_sub [1, 0] rfl (tX10_remember_52 hO hr hk fX10_remember_84 (tX10_remember_84 hO hr hk) c_fu aL0 0)
set_option maxRecDepth 100000 in
set_option maxHeartbeats 4000000 in
theorem ctX10_remember (l : Launch) (G : cG) (a0_ : Nat) : Ct l G yX10_remember cX10_remember 2 none 0 0 0 0 [.ref a0_] c_vv (pX10_remember a0_) := by
  refine Ct.of (lv := [(0, .ref a0_)]) (by decide) (Nat.le_of_ble_eq_true rfl) rfl (fun p e s m args below meth c hO hr hk hin => ?_)
  rw [pX10_remember]
  refine sm_aload_n hO 0 dX10_remember_0 rfl rfl ?_
  refine sm_gi hO fl_RX10_172 dX10_remember_1 (fun x1 => ?_)
  refine sm_bipush (v := 16) hO dX10_remember_4 rfl ?_
  refine sm_icmp_ne (tgt := 50) hO dX10_remember_6 (by decide) ?_ ?_
  · exact sm_sub [0] rfl (tX10_remember_50 hO hr hk a0_)
  · refine sm_bipush (v := 36) hO dX10_remember_9 rfl ?_
    refine sm_istore_n hO [(1, .int 36), (0, .ref a0_)] dX10_remember_11 rfl (by decide) rfl ?_
    exact sm_sub [1, 0] rfl (tX10_remember_12 hO hr hk (fX10_remember_40 fX10_remember_50) (tX10_remember_40 hO hr hk fX10_remember_50 (tX10_remember_50 hO hr hk)) c_fu a0_ 36)
/-! DollCongressModel.layNow(IZ)V -/
def fX10_layNow_37  (xS0 : Int32) (xS1 : Int32) (aS2 : Nat) : MM Unit := m_si aS2 xS1 xS0 (m_ret ())
def pX10_layNow (a0_ : Nat) (x1_ : Int32) (x2_ : Int32) : MM Unit := m_gr a0_ 9 8 (fun a1 => if x2_ = 0 then (m_gr a0_ 9 8 (fun a2 => m_li 0 a2 (8 : Int32) (fun x3 => fX10_layNow_37 (x3 ||| ((1 : Int32) <<< (x1_ &&& 31))) 8 a1))) else (m_gr a0_ 9 8 (fun a4 => m_li 0 a4 (8 : Int32) (fun x5 => fX10_layNow_37 (x5 &&& (((1 : Int32) <<< (x1_ &&& 31)) ^^^ ((-1)))) 8 a1))))
set_option maxRecDepth 100000 in
set_option maxHeartbeats 4000000 in
theorem tX10_layNow_37 {p : Program} {l : Launch} {e : Env} {s : State} {m : MethodId} {args : Array Value} {below : List Frame} {meth : Method} {c : Code} {G : cG} (hO : c_Ok p s m c cX10_layNow 3 RX10 G) (hr : meth.sig.returnType = none) (hk : meth.locks = false) : ∀ (xS0 : Int32) (xS1 : Int32) (aS2 : Nat), Sm p l e { frames := 0, cells := 0, slots := 0, locals := 0 } s m args below meth c G 3 (c_Q G c_vv below args s 0 0) 0 0 37 [] [.int xS0, .int xS1, .ref aS2] (fX10_layNow_37 xS0 xS1 aS2) := by
  intro xS0 xS1 aS2
  rw [fX10_layNow_37]
  refine sm_si hO dX10_layNow_37 ?_
  exact sm_vret hO hr hk (Nat.le_of_ble_eq_true rfl) (Nat.le_of_ble_eq_true rfl) dX10_layNow_38
set_option maxRecDepth 100000 in
set_option maxHeartbeats 4000000 in
theorem ctX10_layNow (l : Launch) (G : cG) (a0_ : Nat) (x1_ : Int32) (x2_ : Int32) : Ct l G yX10_layNow cX10_layNow 3 none 0 0 0 0 [.ref a0_, .int x1_, .int x2_] c_vv (pX10_layNow a0_ x1_ x2_) := by
  refine Ct.of (lv := [(0, .ref a0_), (1, .int x1_), (2, .int x2_)]) (by decide) (Nat.le_of_ble_eq_true rfl) rfl (fun p e s m args below meth c hO hr hk hin => ?_)
  rw [pX10_layNow]
  refine sm_aload_n hO 0 dX10_layNow_0 rfl rfl ?_
  refine sm_gr hO fl_RX10_22 dX10_layNow_1 (fun a1 => ?_)
  refine sm_bipush (v := 8) hO dX10_layNow_4 rfl ?_
  refine sm_iload_n hO 2 dX10_layNow_6 rfl rfl ?_
  refine sm_if_eq (tgt := 26) hO dX10_layNow_7 (by decide) ?_ ?_
  · refine sm_aload_n hO 0 dX10_layNow_26 rfl rfl ?_
    refine sm_gr hO fl_RX10_22 dX10_layNow_27 (fun a2 => ?_)
    refine sm_bipush (v := 8) hO dX10_layNow_30 rfl ?_
    refine sm_li hO dX10_layNow_32 (fun x3 => ?_)
    refine sm_iconst (v := 1) hO dX10_layNow_33 rfl ?_
    refine sm_iload_n hO 1 dX10_layNow_34 rfl rfl ?_
    refine sm_ishl hO dX10_layNow_35 ?_
    refine sm_ior hO dX10_layNow_36 ?_
    exact sm_sub [] rfl (tX10_layNow_37 hO hr hk (x3 ||| ((1 : Int32) <<< (x1_ &&& 31))) 8 a1)
  · refine sm_aload_n hO 0 dX10_layNow_10 rfl rfl ?_
    refine sm_gr hO fl_RX10_22 dX10_layNow_11 (fun a4 => ?_)
    refine sm_bipush (v := 8) hO dX10_layNow_14 rfl ?_
    refine sm_li hO dX10_layNow_16 (fun x5 => ?_)
    refine sm_iconst (v := 1) hO dX10_layNow_17 rfl ?_
    refine sm_iload_n hO 1 dX10_layNow_18 rfl rfl ?_
    refine sm_ishl hO dX10_layNow_19 ?_
    refine sm_iconst (v := (-1)) hO dX10_layNow_20 rfl ?_
    refine sm_ixor hO dX10_layNow_21 ?_
    refine sm_iand hO dX10_layNow_22 ?_
    refine sm_goto (tgt := 37) hO dX10_layNow_23 (by decide) ?_
    exact sm_sub [] rfl (tX10_layNow_37 hO hr hk (x5 &&& (((1 : Int32) <<< (x1_ &&& 31)) ^^^ ((-1)))) 8 a1)
/-! DollCongressModel.sendNow(II)V -/
def pX10_sendNow (a0_ : Nat) (x1_ : Int32) (x2_ : Int32) : MM Unit := m_gr a0_ 9 8 (fun a1 => m_si a1 x1_ x2_ (m_cv a0_ 9 (pX10_layNow a0_ x1_ (1 : Int32)) (fun _ => m_ret ())))
set_option maxRecDepth 100000 in
set_option maxHeartbeats 4000000 in
theorem ctX10_sendNow (l : Launch) (G : cG) (a0_ : Nat) (x1_ : Int32) (x2_ : Int32) : Ct l G yX10_sendNow cX10_sendNow 3 none 1 22 0 0 [.ref a0_, .int x1_, .int x2_] c_vv (pX10_sendNow a0_ x1_ x2_) := by
  refine Ct.of (lv := [(0, .ref a0_), (1, .int x1_), (2, .int x2_)]) (by decide) (Nat.le_of_ble_eq_true rfl) rfl (fun p e s m args below meth c hO hr hk hin => ?_)
  rw [pX10_sendNow]
  refine sm_aload_n hO 0 dX10_sendNow_0 rfl rfl ?_
  refine sm_gr hO fl_RX10_22 dX10_sendNow_1 (fun a1 => ?_)
  refine sm_iload_n hO 1 dX10_sendNow_4 rfl rfl ?_
  refine sm_iload_n hO 2 dX10_sendNow_5 rfl rfl ?_
  refine sm_si hO dX10_sendNow_6 ?_
  refine sm_aload_n hO 0 dX10_sendNow_7 rfl rfl ?_
  refine sm_iload_n hO 1 dX10_sendNow_8 rfl rfl ?_
  refine sm_iconst (v := 1) hO dX10_sendNow_9 rfl ?_
  refine sm_cvv hO (ctX10_layNow l G a0_ x1_ (1 : Int32)) cw_RX10_232 cv_X10_layNow [] rfl rfl ⟨(Nat.le_of_ble_eq_true rfl), (Nat.le_of_ble_eq_true rfl)⟩ ⟨(Nat.le_of_ble_eq_true rfl), (Nat.le_of_ble_eq_true rfl)⟩ (Nat.le_of_ble_eq_true rfl) dX10_sendNow_10 (fun _ => ?_)
  exact sm_vret hO hr hk (Nat.le_of_ble_eq_true rfl) (Nat.le_of_ble_eq_true rfl) dX10_sendNow_13
/-! DollCongressModel.post(II)I -/
def pX10_post (a0_ : Nat) (x1_ : Int32) (x2_ : Int32) : MM Int32 := m_cv a0_ 9 (pX10_isDoll a0_ x1_) (fun x1 => if x1 = 0 then (m_ret ((-1000000001) : Int32)) else (m_cv a0_ 9 (pX10_isCourt a0_ x2_) (fun x2 => if x2 = 0 then (m_ret ((-1000000001) : Int32)) else (m_gr a0_ 9 8 (fun a3 => m_li 0 a3 x1_ (fun x4 => if x4 = x2_ then (m_ret ((-1000000003) : Int32)) else (m_cv a0_ 9 (pX10_remember a0_) (fun _ => m_gr a0_ 9 8 (fun a5 => m_li 0 a5 x1_ (fun x6 => m_cv a0_ 9 (pX10_sendNow a0_ x1_ x2_) (fun _ => m_ret x6)))))))))))
set_option maxRecDepth 100000 in
set_option maxHeartbeats 4000000 in
theorem ctX10_post (l : Launch) (G : cG) (a0_ : Nat) (x1_ : Int32) (x2_ : Int32) : Ct l G yX10_post cX10_post 4 (some .int) 2 46 0 0 [.ref a0_, .int x1_, .int x2_] c_vi (pX10_post a0_ x1_ x2_) := by
  refine Ct.of (lv := [(0, .ref a0_), (1, .int x1_), (2, .int x2_)]) (by decide) (Nat.le_of_ble_eq_true rfl) rfl (fun p e s m args below meth c hO hr hk hin => ?_)
  rw [pX10_post]
  refine sm_aload_n hO 0 dX10_post_0 rfl rfl ?_
  refine sm_iload_n hO 1 dX10_post_1 rfl rfl ?_
  refine sm_cvi hO (ctX10_isDoll l G a0_ x1_) cw_RX10_215 cv_X10_isDoll [] rfl rfl ⟨(Nat.le_of_ble_eq_true rfl), (Nat.le_of_ble_eq_true rfl)⟩ ⟨(Nat.le_of_ble_eq_true rfl), (Nat.le_of_ble_eq_true rfl)⟩ (Nat.le_of_ble_eq_true rfl) dX10_post_2 (fun x1 => ?_)
  refine sm_if_eq (tgt := 16) hO dX10_post_5 (by decide) ?_ ?_
  · refine sm_ldc (v := (-1000000001)) hO kw_1046 dX10_post_16 ?_
    exact sm_iret hO hr hk (Nat.le_of_ble_eq_true rfl) (Nat.le_of_ble_eq_true rfl) dX10_post_18
  · refine sm_aload_n hO 0 dX10_post_8 rfl rfl ?_
    refine sm_iload_n hO 2 dX10_post_9 rfl rfl ?_
    refine sm_cvi hO (ctX10_isCourt l G a0_ x2_) cw_RX10_219 cv_X10_isCourt [] rfl rfl ⟨(Nat.le_of_ble_eq_true rfl), (Nat.le_of_ble_eq_true rfl)⟩ ⟨(Nat.le_of_ble_eq_true rfl), (Nat.le_of_ble_eq_true rfl)⟩ (Nat.le_of_ble_eq_true rfl) dX10_post_10 (fun x2 => ?_)
    refine sm_if_ne (tgt := 19) hO dX10_post_13 (by decide) ?_ ?_
    · refine sm_aload_n hO 0 dX10_post_19 rfl rfl ?_
      refine sm_gr hO fl_RX10_22 dX10_post_20 (fun a3 => ?_)
      refine sm_iload_n hO 1 dX10_post_23 rfl rfl ?_
      refine sm_li hO dX10_post_24 (fun x4 => ?_)
      refine sm_iload_n hO 2 dX10_post_25 rfl rfl ?_
      refine sm_icmp_ne (tgt := 32) hO dX10_post_26 (by decide) ?_ ?_
      · refine sm_aload_n hO 0 dX10_post_32 rfl rfl ?_
        refine sm_cvv hO (ctX10_remember l G a0_) cw_RX10_237 cv_X10_remember [] rfl rfl ⟨(Nat.le_of_ble_eq_true rfl), (Nat.le_of_ble_eq_true rfl)⟩ ⟨(Nat.le_of_ble_eq_true rfl), (Nat.le_of_ble_eq_true rfl)⟩ (Nat.le_of_ble_eq_true rfl) dX10_post_33 (fun _ => ?_)
        refine sm_aload_n hO 0 dX10_post_36 rfl rfl ?_
        refine sm_gr hO fl_RX10_22 dX10_post_37 (fun a5 => ?_)
        refine sm_iload_n hO 1 dX10_post_40 rfl rfl ?_
        refine sm_li hO dX10_post_41 (fun x6 => ?_)
        refine sm_istore_n hO [(3, .int x6), (0, .ref a0_), (1, .int x1_), (2, .int x2_)] dX10_post_42 rfl (by decide) rfl ?_
        refine sm_aload_n hO 1 dX10_post_43 rfl rfl ?_
        refine sm_iload_n hO 2 dX10_post_44 rfl rfl ?_
        refine sm_iload_n hO 3 dX10_post_45 rfl rfl ?_
        refine sm_cvv hO (ctX10_sendNow l G a0_ x1_ x2_) cw_RX10_240 cv_X10_sendNow [] rfl rfl ⟨(Nat.le_of_ble_eq_true rfl), (Nat.le_of_ble_eq_true rfl)⟩ ⟨(Nat.le_of_ble_eq_true rfl), (Nat.le_of_ble_eq_true rfl)⟩ (Nat.le_of_ble_eq_true rfl) dX10_post_46 (fun _ => ?_)
        refine sm_iload_n hO 0 dX10_post_49 rfl rfl ?_
        exact sm_iret hO hr hk (Nat.le_of_ble_eq_true rfl) (Nat.le_of_ble_eq_true rfl) dX10_post_50
      · refine sm_ldc (v := (-1000000003)) hO kw_1070 dX10_post_29 ?_
        exact sm_iret hO hr hk (Nat.le_of_ble_eq_true rfl) (Nat.le_of_ble_eq_true rfl) dX10_post_31
    · refine sm_ldc (v := (-1000000001)) hO kw_1046 dX10_post_16 ?_
      exact sm_iret hO hr hk (Nat.le_of_ble_eq_true rfl) (Nat.le_of_ble_eq_true rfl) dX10_post_18
/-! DollCongress$Scene.exchange(II)V -/
def pX5_exchange (a0_ : Nat) (x1_ : Int32) (x2_ : Int32) : MM Unit := m_gr a0_ 5 0 (fun a1 => m_li 0 a1 x1_ (fun x2 => m_gr a0_ 5 0 (fun a3 => m_li 0 a3 x2_ (fun x4 => m_cv a0_ 5 (pX5_send a0_ x1_ x4) (fun _ => m_cv a0_ 5 (pX5_send a0_ x2_ x2) (fun _ => m_ret ()))))))
set_option maxRecDepth 100000 in
set_option maxHeartbeats 4000000 in
theorem ctX5_exchange (l : Launch) (G : cG) (a0_ : Nat) (x1_ : Int32) (x2_ : Int32) : Ct l G yX5_exchange cX5_exchange 4 none 2 43 0 0 [.ref a0_, .int x1_, .int x2_] c_vv (pX5_exchange a0_ x1_ x2_) := by
  refine Ct.of (lv := [(0, .ref a0_), (1, .int x1_), (2, .int x2_)]) (by decide) (Nat.le_of_ble_eq_true rfl) rfl (fun p e s m args below meth c hO hr hk hin => ?_)
  rw [pX5_exchange]
  refine sm_aload_n hO 0 dX5_exchange_0 rfl rfl ?_
  refine sm_gr hO fl_RX5_9 dX5_exchange_1 (fun a1 => ?_)
  refine sm_iload_n hO 1 dX5_exchange_4 rfl rfl ?_
  refine sm_li hO dX5_exchange_5 (fun x2 => ?_)
  refine sm_istore_n hO [(3, .int x2), (0, .ref a0_), (1, .int x1_), (2, .int x2_)] dX5_exchange_6 rfl (by decide) rfl ?_
  refine sm_aload_n hO 1 dX5_exchange_7 rfl rfl ?_
  refine sm_iload_n hO 2 dX5_exchange_8 rfl rfl ?_
  refine sm_aload_n hO 1 dX5_exchange_9 rfl rfl ?_
  refine sm_gr hO fl_RX5_9 dX5_exchange_10 (fun a3 => ?_)
  refine sm_iload_n hO 3 dX5_exchange_13 rfl rfl ?_
  refine sm_li hO dX5_exchange_14 (fun x4 => ?_)
  refine sm_cvv hO (ctX5_send l G a0_ x1_ x4) cw_RX5_62 cv_X5_send [] rfl rfl ⟨(Nat.le_of_ble_eq_true rfl), (Nat.le_of_ble_eq_true rfl)⟩ ⟨(Nat.le_of_ble_eq_true rfl), (Nat.le_of_ble_eq_true rfl)⟩ (Nat.le_of_ble_eq_true rfl) dX5_exchange_15 (fun _ => ?_)
  refine sm_aload_n hO 1 dX5_exchange_18 rfl rfl ?_
  refine sm_iload_n hO 3 dX5_exchange_19 rfl rfl ?_
  refine sm_iload_n hO 0 dX5_exchange_20 rfl rfl ?_
  refine sm_cvv hO (ctX5_send l G a0_ x2_ x2) cw_RX5_62 cv_X5_send [] rfl rfl ⟨(Nat.le_of_ble_eq_true rfl), (Nat.le_of_ble_eq_true rfl)⟩ ⟨(Nat.le_of_ble_eq_true rfl), (Nat.le_of_ble_eq_true rfl)⟩ (Nat.le_of_ble_eq_true rfl) dX5_exchange_21 (fun _ => ?_)
  exact sm_vret hO hr hk (Nat.le_of_ble_eq_true rfl) (Nat.le_of_ble_eq_true rfl) dX5_exchange_24
/-! DollCongress.mix(II)I -/
def pX9_mix (a0_ : Nat) (x1_ : Int32) (x2_ : Int32) : MM Int32 := m_gr a0_ 8 7 (fun a1 => m_cv a1 4 (pX4_hasDoll a1 x1_) (fun x2 => if x2 = 0 then (m_ret ((-1000000001) : Int32)) else (m_gr a0_ 8 7 (fun a3 => m_cv a3 4 (pX4_hasDoll a3 x2_) (fun x4 => if x4 = 0 then (m_ret ((-1000000001) : Int32)) else (if x1_ = x2_ then (m_ret ((-1000000001) : Int32)) else (m_gr a0_ 8 2 (fun a5 => m_gr a0_ 8 1 (fun a6 => m_cv a5 3 (pX3_remember a5 a6) (fun _ => m_gr a0_ 8 1 (fun a7 => m_cv a7 5 (pX5_exchange a7 x1_ x2_) (fun _ => m_gr a0_ 8 1 (fun a8 => m_gr a8 5 0 (fun a9 => m_li 0 a9 x1_ (fun x10 => m_ret x10)))))))))))))))
set_option maxRecDepth 100000 in
set_option maxHeartbeats 4000000 in
theorem ctX9_mix (l : Launch) (G : cG) (a0_ : Nat) (x1_ : Int32) (x2_ : Int32) : Ct l G yX9_mix cX9_mix 3 (some .int) 3 82 0 0 [.ref a0_, .int x1_, .int x2_] c_vi (pX9_mix a0_ x1_ x2_) := by
  refine Ct.of (lv := [(0, .ref a0_), (1, .int x1_), (2, .int x2_)]) (by decide) (Nat.le_of_ble_eq_true rfl) rfl (fun p e s m args below meth c hO hr hk hin => ?_)
  rw [pX9_mix]
  refine sm_aload_n hO 0 dX9_mix_0 rfl rfl ?_
  refine sm_gr hO fl_RX9_60 dX9_mix_1 (fun a1 => ?_)
  refine sm_iload_n hO 1 dX9_mix_4 rfl rfl ?_
  refine sm_cvi hO (ctX4_hasDoll l G a1 x1_) cw_RX9_153 cv_X4_hasDoll [] rfl rfl ⟨(Nat.le_of_ble_eq_true rfl), (Nat.le_of_ble_eq_true rfl)⟩ ⟨(Nat.le_of_ble_eq_true rfl), (Nat.le_of_ble_eq_true rfl)⟩ (Nat.le_of_ble_eq_true rfl) dX9_mix_5 (fun x2 => ?_)
  refine sm_if_eq (tgt := 27) hO dX9_mix_8 (by decide) ?_ ?_
  · refine sm_ldc (v := (-1000000001)) hO kw_512 dX9_mix_27 ?_
    exact sm_iret hO hr hk (Nat.le_of_ble_eq_true rfl) (Nat.le_of_ble_eq_true rfl) dX9_mix_29
  · refine sm_aload_n hO 0 dX9_mix_11 rfl rfl ?_
    refine sm_gr hO fl_RX9_60 dX9_mix_12 (fun a3 => ?_)
    refine sm_iload_n hO 2 dX9_mix_15 rfl rfl ?_
    refine sm_cvi hO (ctX4_hasDoll l G a3 x2_) cw_RX9_153 cv_X4_hasDoll [] rfl rfl ⟨(Nat.le_of_ble_eq_true rfl), (Nat.le_of_ble_eq_true rfl)⟩ ⟨(Nat.le_of_ble_eq_true rfl), (Nat.le_of_ble_eq_true rfl)⟩ (Nat.le_of_ble_eq_true rfl) dX9_mix_16 (fun x4 => ?_)
    refine sm_if_eq (tgt := 27) hO dX9_mix_19 (by decide) ?_ ?_
    · refine sm_ldc (v := (-1000000001)) hO kw_512 dX9_mix_27 ?_
      exact sm_iret hO hr hk (Nat.le_of_ble_eq_true rfl) (Nat.le_of_ble_eq_true rfl) dX9_mix_29
    · refine sm_iload_n hO 1 dX9_mix_22 rfl rfl ?_
      refine sm_iload_n hO 2 dX9_mix_23 rfl rfl ?_
      refine sm_icmp_ne (tgt := 30) hO dX9_mix_24 (by decide) ?_ ?_
      · refine sm_aload_n hO 0 dX9_mix_30 rfl rfl ?_
        refine sm_gr hO fl_RX9_26 dX9_mix_31 (fun a5 => ?_)
        refine sm_aload_n hO 0 dX9_mix_34 rfl rfl ?_
        refine sm_gr hO fl_RX9_19 dX9_mix_35 (fun a6 => ?_)
        refine sm_cvv hO (ctX3_remember l G a5 a6) cw_RX9_194 cv_X3_remember [] rfl rfl ⟨(Nat.le_of_ble_eq_true rfl), (Nat.le_of_ble_eq_true rfl)⟩ ⟨(Nat.le_of_ble_eq_true rfl), (Nat.le_of_ble_eq_true rfl)⟩ (Nat.le_of_ble_eq_true rfl) dX9_mix_38 (fun _ => ?_)
        refine sm_aload_n hO 0 dX9_mix_41 rfl rfl ?_
        refine sm_gr hO fl_RX9_19 dX9_mix_42 (fun a7 => ?_)
        refine sm_iload_n hO 1 dX9_mix_45 rfl rfl ?_
        refine sm_iload_n hO 2 dX9_mix_46 rfl rfl ?_
        refine sm_cvv hO (ctX5_exchange l G a7 x1_ x2_) cw_RX9_202 cv_X5_exchange [] rfl rfl ⟨(Nat.le_of_ble_eq_true rfl), (Nat.le_of_ble_eq_true rfl)⟩ ⟨(Nat.le_of_ble_eq_true rfl), (Nat.le_of_ble_eq_true rfl)⟩ (Nat.le_of_ble_eq_true rfl) dX9_mix_47 (fun _ => ?_)
        refine sm_aload_n hO 0 dX9_mix_50 rfl rfl ?_
        refine sm_gr hO fl_RX9_19 dX9_mix_51 (fun a8 => ?_)
        refine sm_gr hO fl_RX9_164 dX9_mix_54 (fun a9 => ?_)
        refine sm_iload_n hO 1 dX9_mix_57 rfl rfl ?_
        refine sm_li hO dX9_mix_58 (fun x10 => ?_)
        exact sm_iret hO hr hk (Nat.le_of_ble_eq_true rfl) (Nat.le_of_ble_eq_true rfl) dX9_mix_59
      · refine sm_ldc (v := (-1000000001)) hO kw_512 dX9_mix_27 ?_
        exact sm_iret hO hr hk (Nat.le_of_ble_eq_true rfl) (Nat.le_of_ble_eq_true rfl) dX9_mix_29
