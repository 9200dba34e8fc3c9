/-! DollCongressModel.copyRow([I[II)V -/
def fX10_copyRow_2  : Nat → Nat → Nat → Int32 → Int32 → MM Unit
  | 0, _, _, _, _ => m_bad
  | n + 1, aL0, aL1, xL2, xL3 => if xL2 ≤ xL3 then (m_ret ()) else (m_li 0 aL0 xL3 (fun x1 => m_si aL1 xL3 x1 (m_let (xL3 + 1) (fun x2 => fX10_copyRow_2 n aL0 aL1 xL2 x2))))
def pX10_copyRow (a0_ : Nat) (a1_ : Nat) (x2_ : Int32) : MM Unit := fX10_copyRow_2 c_fu a0_ a1_ x2_ 0
set_option maxRecDepth 100000 in
set_option maxHeartbeats 4000000 in
theorem tX10_copyRow_2 {p : Program} {l : Launch} {e : Env} {s : State} {m : MethodId} {args : Array Value} {below : List Frame} {meth : Method} {c : Code} {G : cG} (hO : c_Ok p s m c cX10_copyRow 4 RX10 G) (hr : meth.sig.returnType = none) (hk : meth.locks = false) : ∀ (n : Nat) (aL0 : Nat) (aL1 : Nat) (xL2 : Int32) (xL3 : Int32), Sm p l e { frames := 0, cells := 0, slots := 0, locals := 0 } s m args below meth c G 4 (c_Q G c_vv below args s 0 0) 0 0 2 [(0, .ref aL0), (1, .ref aL1), (2, .int xL2), (3, .int xL3)] [] (fX10_copyRow_2 n aL0 aL1 xL2 xL3) := by
  intro n
  induction n with
  | zero =>
    intro aL0 aL1 xL2 xL3
    exact sm_bad
  | succ n ih =>
    intro aL0 aL1 xL2 xL3
    rw [fX10_copyRow_2]
    refine sm_iload_n hO 3 dX10_copyRow_2 rfl rfl ?_
    refine sm_iload_n hO 2 dX10_copyRow_3 rfl rfl ?_
    refine sm_icmp_ge (tgt := 19) hO dX10_copyRow_4 (by decide) ?_ ?_
    · exact sm_vret hO hr hk (Nat.le_of_ble_eq_true rfl) (Nat.le_of_ble_eq_true rfl) dX10_copyRow_19
    · refine sm_aload_n hO 1 dX10_copyRow_7 rfl rfl ?_
      refine sm_iload_n hO 3 dX10_copyRow_8 rfl rfl ?_
      refine sm_aload_n hO 0 dX10_copyRow_9 rfl rfl ?_
      refine sm_iload_n hO 3 dX10_copyRow_10 rfl rfl ?_
      refine sm_li hO dX10_copyRow_11 (fun x1 => ?_)
      refine sm_si hO dX10_copyRow_12 ?_
      refine sm_iincL (v := xL3 + 1) hO 3 (fun x2 => [(3, .int x2), (0, .ref aL0), (1, .ref aL1), (2, .int xL2)]) dX10_copyRow_13 rfl rfl (by decide) (fun _ => rfl) (fun x2 => ?_)
      refine sm_goto (tgt := 2) hO dX10_copyRow_16 (by decide) ?_
      exact sm_sub [1, 2, 3, 0] rfl (ih aL0 aL1 xL2 x2)
set_option maxRecDepth 100000 in
set_option maxHeartbeats 4000000 in
theorem ctX10_copyRow (l : Launch) (G : cG) (a0_ : Nat) (a1_ : Nat) (x2_ : Int32) : Ct l G yX10_copyRow cX10_copyRow 4 none 0 0 0 0 [.ref a0_, .ref a1_, .int x2_] c_vv (pX10_copyRow a0_ a1_ x2_) := by
  refine Ct.of (lv := [(0, .ref a0_), (1, .ref a1_), (2, .int x2_)]) (by decide) (Nat.le_of_ble_eq_true rfl) rfl (fun p e s m args below meth c hO hr hk hin => ?_)
  rw [pX10_copyRow]
  refine sm_iconst (v := 0) hO dX10_copyRow_0 rfl ?_
  refine sm_istore_n hO [(3, .int 0), (0, .ref a0_), (1, .ref a1_), (2, .int x2_)] dX10_copyRow_1 rfl (by decide) rfl ?_
  exact sm_sub [1, 2, 3, 0] rfl (tX10_copyRow_2 hO hr hk c_fu a0_ a1_ x2_ 0)
/-! DollCongressModel.has(II)Z -/
def pX10_has (x0_ : Int32) (x1_ : Int32) : MM Int32 := if ((x0_ >>> (x1_ &&& 31)) &&& 1) = (1 : Int32) then (m_ret 1) else (m_ret 0)
set_option maxRecDepth 100000 in
set_option maxHeartbeats 4000000 in
theorem ctX10_has (l : Launch) (G : cG) (x0_ : Int32) (x1_ : Int32) : Ct l G yX10_has cX10_has 2 (some .boolean) 0 0 0 0 [.int x0_, .int x1_] c_vi (pX10_has x0_ x1_) := by
  refine Ct.of (lv := [(0, .int x0_), (1, .int x1_)]) (by decide) (Nat.le_of_ble_eq_true rfl) rfl (fun p e s m args below meth c hO hr hk hin => ?_)
  rw [pX10_has]
  refine sm_iload_n hO 0 dX10_has_0 rfl rfl ?_
  refine sm_iload_n hO 1 dX10_has_1 rfl rfl ?_
  refine sm_ishr hO dX10_has_2 ?_
  refine sm_iconst (v := 1) hO dX10_has_3 rfl ?_
  refine sm_iand hO dX10_has_4 ?_
  refine sm_iconst (v := 1) hO dX10_has_5 rfl ?_
  refine sm_icmp_ne (tgt := 13) hO dX10_has_6 (by decide) ?_ ?_
  · refine sm_iconst (v := 0) hO dX10_has_13 rfl ?_
    exact sm_zret hO hr hk rfl (Nat.le_of_ble_eq_true rfl) (Nat.le_of_ble_eq_true rfl) dX10_has_14
  · refine sm_iconst (v := 1) hO dX10_has_9 rfl ?_
    refine sm_goto (tgt := 14) hO dX10_has_10 (by decide) ?_
    exact sm_zret hO hr hk rfl (Nat.le_of_ble_eq_true rfl) (Nat.le_of_ble_eq_true rfl) dX10_has_14
/-! DollCongressModel.votesOf(I)I -/
def fX10_votesOf_31 (k4 : Nat → Int32 → Int32 → Int32 → MM Int32) (aL0 : Nat) (xL1 : Int32) (xL3 : Int32) (xS0 : Int32) (xS1 : Int32) : MM Int32 := m_let (xS1 + xS0) (fun x1 => m_let (xL3 + 1) (fun x2 => k4 aL0 xL1 x1 x2))
def fX10_votesOf_4  : Nat → Nat → Int32 → Int32 → Int32 → MM Int32
  | 0, _, _, _, _ => m_bad
  | n + 1, aL0, xL1, xL2, xL3 => m_gi aL0 9 0 (fun x1 => if x1 ≤ xL3 then (m_ret xL2) else (m_bind (pX10_has xL1 xL3) (fun x2 => if x2 = 0 then (fX10_votesOf_31 (fX10_votesOf_4 n) aL0 xL1 xL3 0 xL2) else (m_gr aL0 9 1 (fun a3 => m_li 0 a3 xL3 (fun x4 => fX10_votesOf_31 (fX10_votesOf_4 n) aL0 xL1 xL3 x4 xL2))))))
def pX10_votesOf (a0_ : Nat) (x1_ : Int32) : MM Int32 := fX10_votesOf_4 c_fu a0_ x1_ 0 0
set_option maxRecDepth 100000 in
set_option maxHeartbeats 4000000 in
theorem tX10_votesOf_31 {p : Program} {l : Launch} {e : Env} {s : State} {m : MethodId} {args : Array Value} {below : List Frame} {meth : Method} {c : Code} {G : cG} (hO : c_Ok p s m c cX10_votesOf 4 RX10 G) (hr : meth.sig.returnType = (some .int)) (hk : meth.locks = false) (k4 : Nat → Int32 → Int32 → Int32 → MM Int32) (hk4 : ∀ (aL0 : Nat) (xL1 : Int32) (xL2 : Int32) (xL3 : Int32), Sm p l e { frames := 1, cells := 0, slots := 0, locals := 21 } s m args below meth c G 4 (c_Q G c_vi below args s 0 0) 0 0 4 [(0, .ref aL0), (1, .int xL1), (2, .int xL2), (3, .int xL3)] [] (k4 aL0 xL1 xL2 xL3))  : ∀ (aL0 : Nat) (xL1 : Int32) (xL3 : Int32) (xS0 : Int32) (xS1 : Int32), Sm p l e { frames := 1, cells := 0, slots := 0, locals := 21 } s m args below meth c G 4 (c_Q G c_vi below args s 0 0) 0 0 31 [(0, .ref aL0), (1, .int xL1), (3, .int xL3)] [.int xS0, .int xS1] (fX10_votesOf_31 k4 aL0 xL1 xL3 xS0 xS1) := by
  intro aL0 xL1 xL3 xS0 xS1
  rw [fX10_votesOf_31]
  refine sm_iadd hO dX10_votesOf_31 ?_
  refine sm_topi (fun x1 => ?_)
  refine sm_istore_n hO [(2, .int x1), (0, .ref aL0), (1, .int xL1), (3, .int xL3)] dX10_votesOf_32 rfl (by decide) rfl ?_
  refine sm_iincL (v := xL3 + 1) hO 3 (fun x2 => [(3, .int x2), (2, .int x1), (0, .ref aL0), (1, .int xL1)]) dX10_votesOf_33 rfl rfl (by decide) (fun _ => rfl) (fun x2 => ?_)
  refine sm_goto (tgt := 4) hO dX10_votesOf_36 (by decide) ?_
  exact sm_sub [2, 3, 1, 0] rfl (hk4 aL0 xL1 x1 x2)
set_option maxRecDepth 100000 in
set_option maxHeartbeats 4000000 in
theorem tX10_votesOf_4 {p : Program} {l : Launch} {e : Env} {s : State} {m : MethodId} {args : Array Value} {below : List Frame} {meth : Method} {c : Code} {G : cG} (hO : c_Ok p s m c cX10_votesOf 4 RX10 G) (hr : meth.sig.returnType = (some .int)) (hk : meth.locks = false) : ∀ (n : Nat) (aL0 : Nat) (xL1 : Int32) (xL2 : Int32) (xL3 : Int32), Sm p l e { frames := 1, cells := 0, slots := 0, locals := 21 } s m args below meth c G 4 (c_Q G c_vi below args s 0 0) 0 0 4 [(0, .ref aL0), (1, .int xL1), (2, .int xL2), (3, .int xL3)] [] (fX10_votesOf_4 n aL0 xL1 xL2 xL3) := by
  intro n
  induction n with
  | zero =>
    intro aL0 xL1 xL2 xL3
    exact sm_bad
  | succ n ih =>
    intro aL0 xL1 xL2 xL3
    rw [fX10_votesOf_4]
    refine sm_iload_n hO 3 dX10_votesOf_4 rfl rfl ?_
    refine sm_aload_n hO 0 dX10_votesOf_5 rfl rfl ?_
    refine sm_gi hO fl_RX10_72 dX10_votesOf_6 (fun x1 => ?_)
    refine sm_icmp_ge (tgt := 39) hO dX10_votesOf_9 (by decide) ?_ ?_
    · refine sm_iload_n hO 2 dX10_votesOf_39 rfl rfl ?_
      exact sm_iret hO hr hk (Nat.le_of_ble_eq_true rfl) (Nat.le_of_ble_eq_true rfl) dX10_votesOf_40
    · refine sm_iload_n hO 2 dX10_votesOf_12 rfl rfl ?_
      refine sm_iload_n hO 1 dX10_votesOf_13 rfl rfl ?_
      refine sm_iload_n hO 3 dX10_votesOf_14 rfl rfl ?_
      refine sm_csi hO (ctX10_has l G xL1 xL3) cw_RX10_175 kw_985 [.int xL2] rfl rfl ⟨(Nat.le_of_ble_eq_true rfl), (Nat.le_of_ble_eq_true rfl)⟩ ⟨(Nat.le_of_ble_eq_true rfl), (Nat.le_of_ble_eq_true rfl)⟩ (Nat.le_of_ble_eq_true rfl) dX10_votesOf_15 (fun x2 => ?_)
      refine sm_if_eq (tgt := 30) hO dX10_votesOf_18 (by decide) ?_ ?_
      · refine sm_iconst (v := 0) hO dX10_votesOf_30 rfl ?_
        exact sm_sub [0, 1, 3] rfl (tX10_votesOf_31 hO hr hk (fX10_votesOf_4 n) ih aL0 xL1 xL3 0 xL2)
      · refine sm_aload_n hO 0 dX10_votesOf_21 rfl rfl ?_
        refine sm_gr hO fl_RX10_7 dX10_votesOf_22 (fun a3 => ?_)
        refine sm_iload_n hO 3 dX10_votesOf_25 rfl rfl ?_
        refine sm_li hO dX10_votesOf_26 (fun x4 => ?_)
        refine sm_goto (tgt := 31) hO dX10_votesOf_27 (by decide) ?_
        exact sm_sub [0, 1, 3] rfl (tX10_votesOf_31 hO hr hk (fX10_votesOf_4 n) ih aL0 xL1 xL3 x4 xL2)
set_option maxRecDepth 100000 in
set_option maxHeartbeats 4000000 in
theorem ctX10_votesOf (l : Launch) (G : cG) (a0_ : Nat) (x1_ : Int32) : Ct l G yX10_votesOf cX10_votesOf 4 (some .int) 1 21 0 0 [.ref a0_, .int x1_] c_vi (pX10_votesOf a0_ x1_) := by
  refine Ct.of (lv := [(0, .ref a0_), (1, .int x1_)]) (by decide) (Nat.le_of_ble_eq_true rfl) rfl (fun p e s m args below meth c hO hr hk hin => ?_)
  rw [pX10_votesOf]
  refine sm_iconst (v := 0) hO dX10_votesOf_0 rfl ?_
  refine sm_istore_n hO [(2, .int 0), (0, .ref a0_), (1, .int x1_)] dX10_votesOf_1 rfl (by decide) rfl ?_
  refine sm_iconst (v := 0) hO dX10_votesOf_2 rfl ?_
  refine sm_istore_n hO [(3, .int 0), (2, .int 0), (0, .ref a0_), (1, .int x1_)] dX10_votesOf_3 rfl (by decide) rfl ?_
  exact sm_sub [2, 3, 1, 0] rfl (tX10_votesOf_4 hO hr hk c_fu a0_ x1_ 0 0)
/-! DollCongressModel.takeRead()V -/
def fX10_takeRead_131 (k150 : Nat → MM Unit) : Nat → Nat → Int32 → MM Unit
  | 0, _, _ => m_bad
  | n + 1, aL0, xL1 => if (36 : Int32) ≤ xL1 then (k150 aL0) else (m_gr aL0 9 8 (fun a1 => m_si a1 xL1 (0 : Int32) (m_let (xL1 + 1) (fun x2 => fX10_takeRead_131 k150 n aL0 x2))))
def fX10_takeRead_152 (k193 : Nat → MM Unit) : Nat → Nat → Int32 → MM Unit
  | 0, _, _ => m_bad
  | n + 1, aL0, xL1 => m_gi aL0 9 2 (fun x1 => if x1 ≤ xL1 then (k193 aL0) else (m_gr aL0 9 8 (fun a2 => m_gr aL0 9 4 (fun a3 => m_li 0 a3 xL1 (fun x4 => m_si a2 xL1 x4 (m_gr aL0 9 8 (fun a5 => m_gr aL0 9 5 (fun a6 => m_li 0 a6 xL1 (fun x7 => m_si a5 ((17 : Int32) + xL1) x7 (m_let (xL1 + 1) (fun x8 => fX10_takeRead_152 k193 n aL0 x8)))))))))))
def fX10_takeRead_193  (aL0 : Nat) : MM Unit := m_gr aL0 9 8 (fun a1 => m_gi aL0 9 2 (fun x2 => m_si a1 (8 : Int32) (((1 : Int32) <<< (x2 &&& 31)) - 1) (m_ret ())))
def fX10_takeRead_150  (aL0 : Nat) : MM Unit := fX10_takeRead_152 fX10_takeRead_193 c_fu aL0 0
def fX10_takeRead_126  (aL0 : Nat) (xS0 : Int32) (aS1 : Nat) : MM Unit := m_pv aS1 9 7 (.int xS0) (fX10_takeRead_131 fX10_takeRead_150 c_fu aL0 0)
def pX10_takeRead (a0_ : Nat) : MM Unit := m_gi a0_ 9 16 (fun x1 => m_pv a0_ 9 0 (.int x1) (m_gi a0_ 9 18 (fun x2 => m_pv a0_ 9 2 (.int x2) (m_gi a0_ 9 23 (fun x3 => m_pv a0_ 9 6 (.int x3) (m_gr a0_ 9 17 (fun a4 => m_gr a0_ 9 1 (fun a5 => m_gi a0_ 9 0 (fun x6 => m_bind (pX10_copyRow a4 a5 x6) (fun _ => m_gr a0_ 9 19 (fun a7 => m_gr a0_ 9 3 (fun a8 => m_gi a0_ 9 2 (fun x9 => m_bind (pX10_copyRow a7 a8 x9) (fun _ => m_gr a0_ 9 20 (fun a10 => m_gr a0_ 9 4 (fun a11 => m_gi a0_ 9 2 (fun x12 => m_bind (pX10_copyRow a10 a11 x12) (fun _ => m_gr a0_ 9 21 (fun a13 => m_gr a0_ 9 5 (fun a14 => m_gi a0_ 9 2 (fun x15 => m_bind (pX10_copyRow a13 a14 x15) (fun _ => m_gi a0_ 9 0 (fun x16 => if x16 = 0 then (fX10_takeRead_126 a0_ 0 a0_) else (m_gi a0_ 9 24 (fun x17 => if x17 ≤ 0 then (m_gi a0_ 9 0 (fun x18 => m_cv a0_ 9 (pX10_votesOf a0_ (((1 : Int32) <<< (x18 &&& 31)) - 1)) (fun x19 => m_nz (2 : Int32) (fX10_takeRead_126 a0_ ((x19 / 2) + 1) a0_)))) else (m_gi a0_ 9 24 (fun x20 => fX10_takeRead_126 a0_ x20 a0_)))))))))))))))))))))))))))
set_option maxRecDepth 100000 in
set_option maxHeartbeats 4000000 in
theorem tX10_takeRead_131 {p : Program} {l : Launch} {e : Env} {s : State} {m : MethodId} {args : Array Value} {below : List Frame} {meth : Method} {c : Code} {G : cG} (hO : c_Ok p s m c cX10_takeRead 2 RX10 G) (hr : meth.sig.returnType = none) (hk : meth.locks = false) (k150 : Nat → MM Unit) (hk150 : ∀ (aL0 : Nat), Sm p l e { frames := 2, cells := 0, slots := 0, locals := 44 } s m args below meth c G 2 (c_Q G c_vv below args s 0 0) 0 0 150 [(0, .ref aL0)] [] (k150 aL0))  : ∀ (n : Nat) (aL0 : Nat) (xL1 : Int32), Sm p l e { frames := 2, cells := 0, slots := 0, locals := 44 } s m args below meth c G 2 (c_Q G c_vv below args s 0 0) 0 0 131 [(0, .ref aL0), (1, .int xL1)] [] (fX10_takeRead_131 k150 n aL0 xL1) := by
  intro n
  induction n with
  | zero =>
    intro aL0 xL1
    exact sm_bad
  | succ n ih =>
    intro aL0 xL1
    rw [fX10_takeRead_131]
    refine sm_iload_n hO 1 dX10_takeRead_131 rfl rfl ?_
    refine sm_bipush (v := 36) hO dX10_takeRead_132 rfl ?_
    refine sm_icmp_ge (tgt := 150) hO dX10_takeRead_134 (by decide) ?_ ?_
    · exact sm_sub [0] rfl (hk150 aL0)
    · refine sm_aload_n hO 0 dX10_takeRead_137 rfl rfl ?_
      refine sm_gr hO fl_RX10_22 dX10_takeRead_138 (fun a1 => ?_)
      refine sm_iload_n hO 1 dX10_takeRead_141 rfl rfl ?_
      refine sm_iconst (v := 0) hO dX10_takeRead_142 rfl ?_
      refine sm_si hO dX10_takeRead_143 ?_
      refine sm_iincL (v := xL1 + 1) hO 1 (fun x2 => [(1, .int x2), (0, .ref aL0)]) dX10_takeRead_144 rfl rfl (by decide) (fun _ => rfl) (fun x2 => ?_)
      refine sm_goto (tgt := 131) hO dX10_takeRead_147 (by decide) ?_
      exact sm_sub [1, 0] rfl (ih aL0 x2)
set_option maxRecDepth 100000 in
set_option maxHeartbeats 4000000 in
theorem tX10_takeRead_152 {p : Program} {l : Launch} {e : Env} {s : State} {m : MethodId} {args : Array Value} {below : List Frame} {meth : Method} {c : Code} {G : cG} (hO : c_Ok p s m c cX10_takeRead 2 RX10 G) (hr : meth.sig.returnType = none) (hk : meth.locks = false) (k193 : Nat → MM Unit) (hk193 : ∀ (aL0 : Nat), Sm p l e { frames := 2, cells := 0, slots := 0, locals := 44 } s m args below meth c G 2 (c_Q G c_vv below args s 0 0) 0 0 193 [(0, .ref aL0)] [] (k193 aL0))  : ∀ (n : Nat) (aL0 : Nat) (xL1 : Int32), Sm p l e { frames := 2, cells := 0, slots := 0, locals := 44 } s m args below meth c G 2 (c_Q G c_vv below args s 0 0) 0 0 152 [(0, .ref aL0), (1, .int xL1)] [] (fX10_takeRead_152 k193 n aL0 xL1) := by
  intro n
  induction n with
  | zero =>
    intro aL0 xL1
    exact sm_bad
  | succ n ih =>
    intro aL0 xL1
    rw [fX10_takeRead_152]
    refine sm_iload_n hO 1 dX10_takeRead_152 rfl rfl ?_
    refine sm_aload_n hO 0 dX10_takeRead_153 rfl rfl ?_
    refine sm_gi hO fl_RX10_79 dX10_takeRead_154 (fun x1 => ?_)
    refine sm_icmp_ge (tgt := 193) hO dX10_takeRead_157 (by decide) ?_ ?_
    · exact sm_sub [0] rfl (hk193 aL0)
    · refine sm_aload_n hO 0 dX10_takeRead_160 rfl rfl ?_
      refine sm_gr hO fl_RX10_22 dX10_takeRead_161 (fun a2 => ?_)
      refine sm_iload_n hO 1 dX10_takeRead_164 rfl rfl ?_
      refine sm_aload_n hO 0 dX10_takeRead_165 rfl rfl ?_
      refine sm_gr hO fl_RX10_16 dX10_takeRead_166 (fun a3 => ?_)
      refine sm_iload_n hO 1 dX10_takeRead_169 rfl rfl ?_
      refine sm_li hO dX10_takeRead_170 (fun x4 => ?_)
      refine sm_si hO dX10_takeRead_171 ?_
      refine sm_aload_n hO 0 dX10_takeRead_172 rfl rfl ?_
      refine sm_gr hO fl_RX10_22 dX10_takeRead_173 (fun a5 => ?_)
      refine sm_bipush (v := 17) hO dX10_takeRead_176 rfl ?_
      refine sm_iload_n hO 1 dX10_takeRead_178 rfl rfl ?_
      refine sm_iadd hO dX10_takeRead_179 ?_
      refine sm_aload_n hO 0 dX10_takeRead_180 rfl rfl ?_
      refine sm_gr hO fl_RX10_19 dX10_takeRead_181 (fun a6 => ?_)
      refine sm_iload_n hO 1 dX10_takeRead_184 rfl rfl ?_
      refine sm_li hO dX10_takeRead_185 (fun x7 => ?_)
      refine sm_si hO dX10_takeRead_186 ?_
      refine sm_iincL (v := xL1 + 1) hO 1 (fun x8 => [(1, .int x8), (0, .ref aL0)]) dX10_takeRead_187 rfl rfl (by decide) (fun _ => rfl) (fun x8 => ?_)
      refine sm_goto (tgt := 152) hO dX10_takeRead_190 (by decide) ?_
      exact sm_sub [1, 0] rfl (ih aL0 x8)
set_option maxRecDepth 100000 in
set_option maxHeartbeats 4000000 in
theorem tX10_takeRead_193 {p : Program} {l : Launch} {e : Env} {s : State} {m : MethodId} {args : Array Value} {below : List Frame} {meth : Method} {c : Code} {G : cG} (hO : c_Ok p s m c cX10_takeRead 2 RX10 G) (hr : meth.sig.returnType = none) (hk : meth.locks = false) : ∀ (aL0 : Nat), Sm p l e { frames := 2, cells := 0, slots := 0, locals := 44 } s m args below meth c G 2 (c_Q G c_vv below args s 0 0) 0 0 193 [(0, .ref aL0)] [] (fX10_takeRead_193 aL0) := by
  intro aL0
  rw [fX10_takeRead_193]
  refine sm_aload_n hO 0 dX10_takeRead_193 rfl rfl ?_
  refine sm_gr hO fl_RX10_22 dX10_takeRead_194 (fun a1 => ?_)
  refine sm_bipush (v := 8) hO dX10_takeRead_197 rfl ?_
  refine sm_iconst (v := 1) hO dX10_takeRead_199 rfl ?_
  refine sm_aload_n hO 0 dX10_takeRead_200 rfl rfl ?_
  refine sm_gi hO fl_RX10_79 dX10_takeRead_201 (fun x2 => ?_)
  refine sm_ishl hO dX10_takeRead_204 ?_
  refine sm_iconst (v := 1) hO dX10_takeRead_205 rfl ?_
  refine sm_isub hO dX10_takeRead_206 ?_
  refine sm_si hO dX10_takeRead_207 ?_
  exact sm_vret hO hr hk (Nat.le_of_ble_eq_true rfl) (Nat.le_of_ble_eq_true rfl) dX10_takeRead_208
set_option maxRecDepth 100000 in
set_option maxHeartbeats 4000000 in
theorem tX10_takeRead_150 {p : Program} {l : Launch} {e : Env} {s : State} {m : MethodId} {args : Array Value} {below : List Frame} {meth : Method} {c : Code} {G : cG} (hO : c_Ok p s m c cX10_takeRead 2 RX10 G) (hr : meth.sig.returnType = none) (hk : meth.locks = false) : ∀ (aL0 : Nat), Sm p l e { frames := 2, cells := 0, slots := 0, locals := 44 } s m args below meth c G 2 (c_Q G c_vv below args s 0 0) 0 0 150 [(0, .ref aL0)] [] (fX10_takeRead_150 aL0) := by
  intro aL0
  rw [fX10_takeRead_150]
  refine sm_iconst (v := 0) hO dX10_takeRead_150 rfl ?_
  refine sm_istore_n hO [(1, .int 0), (0, .ref aL0)] dX10_takeRead_151 rfl (by decide) rfl ?_
  exact sm_sub [1, 0] rfl (tX10_takeRead_152 hO hr hk fX10_takeRead_193 (tX10_takeRead_193 hO hr hk) c_fu aL0 0)
set_option maxRecDepth 100000 in
set_option maxHeartbeats 4000000 in
theorem tX10_takeRead_126 {p : Program} {l : Launch} {e : Env} {s : State} {m : MethodId} {args : Array Value} {below : List Frame} {meth : Method} {c : Code} {G : cG} (hO : c_Ok p s m c cX10_takeRead 2 RX10 G) (hr : meth.sig.returnType = none) (hk : meth.locks = false) : ∀ (aL0 : Nat) (xS0 : Int32) (aS1 : Nat), Sm p l e { frames := 2, cells := 0, slots := 0, locals := 44 } s m args below meth c G 2 (c_Q G c_vv below args s 0 0) 0 0 126 [(0, .ref aL0)] [.int xS0, .ref aS1] (fX10_takeRead_126 aL0 xS0 aS1) := by
  intro aL0 xS0 aS1
  rw [fX10_takeRead_126]
  refine sm_pv hO fl_RX10_160 fp_9_7 rfl rfl dX10_takeRead_126 ?_
  refine sm_iconst (v := 0) hO dX10_takeRead_129 rfl ?_
  refine sm_istore_n hO [(1, .int 0), (0, .ref aL0)] dX10_takeRead_130 rfl (by decide) rfl ?_
  exact sm_sub [1, 0] rfl (tX10_takeRead_131 hO hr hk fX10_takeRead_150 (tX10_takeRead_150 hO hr hk) c_fu aL0 0)
set_option maxRecDepth 100000 in
set_option maxHeartbeats 4000000 in
theorem ctX10_takeRead (l : Launch) (G : cG) (a0_ : Nat) : Ct l G yX10_takeRead cX10_takeRead 2 none 2 44 0 0 [.ref a0_] c_vv (pX10_takeRead a0_) := by
  refine Ct.of (lv := [(0, .ref a0_)]) (by decide) (Nat.le_of_ble_eq_true rfl) rfl (fun p e s m args below meth c hO hr hk hin => ?_)
  rw [pX10_takeRead]
  refine sm_aload_n hO 0 dX10_takeRead_0 rfl rfl ?_
  refine sm_aload_n hO 0 dX10_takeRead_1 rfl rfl ?_
  refine sm_gi hO fl_RX10_117 dX10_takeRead_2 (fun x1 => ?_)
  refine sm_pv hO fl_RX10_72 fp_9_0 rfl rfl dX10_takeRead_5 ?_
  refine sm_aload_n hO 0 dX10_takeRead_8 rfl rfl ?_
  refine sm_aload_n hO 0 dX10_takeRead_9 rfl rfl ?_
  refine sm_gi hO fl_RX10_120 dX10_takeRead_10 (fun x2 => ?_)
  refine sm_pv hO fl_RX10_79 fp_9_2 rfl rfl dX10_takeRead_13 ?_
  refine sm_aload_n hO 0 dX10_takeRead_16 rfl rfl ?_
  refine sm_aload_n hO 0 dX10_takeRead_17 rfl rfl ?_
  refine sm_gi hO fl_RX10_127 dX10_takeRead_18 (fun x3 => ?_)
  refine sm_pv hO fl_RX10_149 fp_9_6 rfl rfl dX10_takeRead_21 ?_
  refine sm_aload_n hO 0 dX10_takeRead_24 rfl rfl ?_
  refine sm_gr hO fl_RX10_32 dX10_takeRead_25 (fun a4 => ?_)
  refine sm_aload_n hO 0 dX10_takeRead_28 rfl rfl ?_
  refine sm_gr hO fl_RX10_7 dX10_takeRead_29 (fun a5 => ?_)
  refine sm_aload_n hO 0 dX10_takeRead_32 rfl rfl ?_
  refine sm_gi hO fl_RX10_72 dX10_takeRead_33 (fun x6 => ?_)
  refine sm_csv hO (ctX10_copyRow l G a4 a5 x6) cw_RX10_152 kw_978 [] rfl rfl ⟨(Nat.le_of_ble_eq_true rfl), (Nat.le_of_ble_eq_true rfl)⟩ ⟨(Nat.le_of_ble_eq_true rfl), (Nat.le_of_ble_eq_true rfl)⟩ (Nat.le_of_ble_eq_true rfl) dX10_takeRead_36 (fun _ => ?_)
  refine sm_aload_n hO 0 dX10_takeRead_39 rfl rfl ?_
  refine sm_gr hO fl_RX10_35 dX10_takeRead_40 (fun a7 => ?_)
  refine sm_aload_n hO 0 dX10_takeRead_43 rfl rfl ?_
  refine sm_gr hO fl_RX10_13 dX10_takeRead_44 (fun a8 => ?_)
  refine sm_aload_n hO 0 dX10_takeRead_47 rfl rfl ?_
  refine sm_gi hO fl_RX10_79 dX10_takeRead_48 (fun x9 => ?_)
  refine sm_csv hO (ctX10_copyRow l G a7 a8 x9) cw_RX10_152 kw_978 [] rfl rfl ⟨(Nat.le_of_ble_eq_true rfl), (Nat.le_of_ble_eq_true rfl)⟩ ⟨(Nat.le_of_ble_eq_true rfl), (Nat.le_of_ble_eq_true rfl)⟩ (Nat.le_of_ble_eq_true rfl) dX10_takeRead_51 (fun _ => ?_)
  refine sm_aload_n hO 0 dX10_takeRead_54 rfl rfl ?_
  refine sm_gr hO fl_RX10_38 dX10_takeRead_55 (fun a10 => ?_)
  refine sm_aload_n hO 0 dX10_takeRead_58 rfl rfl ?_
  refine sm_gr hO fl_RX10_16 dX10_takeRead_59 (fun a11 => ?_)
  refine sm_aload_n hO 0 dX10_takeRead_62 rfl rfl ?_
  refine sm_gi hO fl_RX10_79 dX10_takeRead_63 (fun x12 => ?_)
  refine sm_csv hO (ctX10_copyRow l G a10 a11 x12) cw_RX10_152 kw_978 [] rfl rfl ⟨(Nat.le_of_ble_eq_true rfl), (Nat.le_of_ble_eq_true rfl)⟩ ⟨(Nat.le_of_ble_eq_true rfl), (Nat.le_of_ble_eq_true rfl)⟩ (Nat.le_of_ble_eq_true rfl) dX10_takeRead_66 (fun _ => ?_)
  refine sm_aload_n hO 0 dX10_takeRead_69 rfl rfl ?_
  refine sm_gr hO fl_RX10_41 dX10_takeRead_70 (fun a13 => ?_)
  refine sm_aload_n hO 0 dX10_takeRead_73 rfl rfl ?_
  refine sm_gr hO fl_RX10_19 dX10_takeRead_74 (fun a14 => ?_)
  refine sm_aload_n hO 0 dX10_takeRead_77 rfl rfl ?_
  refine sm_gi hO fl_RX10_79 dX10_takeRead_78 (fun x15 => ?_)
  refine sm_csv hO (ctX10_copyRow l G a13 a14 x15) cw_RX10_152 kw_978 [] rfl rfl ⟨(Nat.le_of_ble_eq_true rfl), (Nat.le_of_ble_eq_true rfl)⟩ ⟨(Nat.le_of_ble_eq_true rfl), (Nat.le_of_ble_eq_true rfl)⟩ (Nat.le_of_ble_eq_true rfl) dX10_takeRead_81 (fun _ => ?_)
  refine sm_aload_n hO 0 dX10_takeRead_84 rfl rfl ?_
  refine sm_aload_n hO 0 dX10_takeRead_85 rfl rfl ?_
  refine sm_gi hO fl_RX10_72 dX10_takeRead_86 (fun x16 => ?_)
  refine sm_if_ne (tgt := 96) hO dX10_takeRead_89 (by decide) ?_ ?_
  · refine sm_aload_n hO 0 dX10_takeRead_96 rfl rfl ?_
    refine sm_gi hO fl_RX10_130 dX10_takeRead_97 (fun x17 => ?_)
    refine sm_if_le (tgt := 110) hO dX10_takeRead_100 (by decide) ?_ ?_
    · refine sm_aload_n hO 0 dX10_takeRead_110 rfl rfl ?_
      refine sm_iconst (v := 1) hO dX10_takeRead_111 rfl ?_
      refine sm_aload_n hO 0 dX10_takeRead_112 rfl rfl ?_
      refine sm_gi hO fl_RX10_72 dX10_takeRead_113 (fun x18 => ?_)
      refine sm_ishl hO dX10_takeRead_116 ?_
      refine sm_iconst (v := 1) hO dX10_takeRead_117 rfl ?_
      refine sm_isub hO dX10_takeRead_118 ?_
      refine sm_cvi hO (ctX10_votesOf l G a0_ (((1 : Int32) <<< (x18 &&& 31)) - 1)) cw_RX10_156 cv_X10_votesOf [.ref a0_] rfl rfl ⟨(Nat.le_of_ble_eq_true rfl), (Nat.le_of_ble_eq_true rfl)⟩ ⟨(Nat.le_of_ble_eq_true rfl), (Nat.le_of_ble_eq_true rfl)⟩ (Nat.le_of_ble_eq_true rfl) dX10_takeRead_119 (fun x19 => ?_)
      refine sm_iconst (v := 2) hO dX10_takeRead_122 rfl ?_
      refine sm_idiv hO dX10_takeRead_123 ?_
      refine sm_iconst (v := 1) hO dX10_takeRead_124 rfl ?_
      refine sm_iadd hO dX10_takeRead_125 ?_
      exact sm_sub [0] rfl (tX10_takeRead_126 hO hr hk a0_ ((x19 / 2) + 1) a0_)
    · refine sm_aload_n hO 0 dX10_takeRead_103 rfl rfl ?_
      refine sm_gi hO fl_RX10_130 dX10_takeRead_104 (fun x20 => ?_)
      refine sm_goto (tgt := 126) hO dX10_takeRead_107 (by decide) ?_
      exact sm_sub [0] rfl (tX10_takeRead_126 hO hr hk a0_ x20 a0_)
  · refine sm_iconst (v := 0) hO dX10_takeRead_92 rfl ?_
    refine sm_goto (tgt := 126) hO dX10_takeRead_93 (by decide) ?_
    exact sm_sub [0] rfl (tX10_takeRead_126 hO hr hk a0_ 0 a0_)
/-! DollCongressModel.congress()I -/
def fX10_congress_37 (k56 : Nat → Int32 → MM Int32) : Nat → Nat → Int32 → MM Int32
  | 0, _, _ => m_bad
  | n + 1, aL0, xL1 => if xL1 = 0 then (m_cv aL0 9 (pX10_here aL0) (fun x1 => if x1 < 0 then (k56 aL0 xL1) else (m_cv aL0 9 (pX10_takeClause aL0) (fun x2 => fX10_congress_37 k56 n aL0 x2)))) else (k56 aL0 xL1)
def fX10_congress_56  (aL0 : Nat) (xL1 : Int32) : MM Int32 := m_pv aL0 9 11 (.int 0) (if xL1 ≤ 0 then (m_cv aL0 9 (pX10_takeRead aL0) (fun _ => m_pv aL0 9 31 (.int 0) (m_pv aL0 9 25 (.int 0) (m_gr aL0 9 35 (fun a1 => m_sz a1 (0 : Int32) (0 : Int32) (m_gr aL0 9 35 (fun a2 => m_sz a2 (1 : Int32) (0 : Int32) (m_gi aL0 9 2 (fun x3 => m_ret x3))))))))) else (m_ret (((-10) : Int32) - xL1)))
def pX10_congress (a0_ : Nat) : MM Int32 := m_pv a0_ 9 12 (.int ((-1))) (m_pv a0_ 9 13 (.int 0) (m_pv a0_ 9 16 (.int 0) (m_pv a0_ 9 18 (.int 0) (m_pv a0_ 9 22 (.int 0) (m_pv a0_ 9 23 (.int 0) (m_pv a0_ 9 24 (.int 0) (fX10_congress_37 fX10_congress_56 c_fu a0_ 0)))))))
set_option maxRecDepth 100000 in
set_option maxHeartbeats 4000000 in
theorem tX10_congress_37 {p : Program} {l : Launch} {e : Env} {s : State} {m : MethodId} {args : Array Value} {below : List Frame} {meth : Method} {c : Code} {G : cG} (hO : c_Ok p s m c cX10_congress 2 RX10 G) (hr : meth.sig.returnType = (some .int)) (hk : meth.locks = false) (k56 : Nat → Int32 → MM Int32) (hk56 : ∀ (aL0 : Nat) (xL1 : Int32), Sm p l e { frames := 5, cells := 0, slots := 0, locals := 118 } s m args below meth c G 2 (c_Q G c_vi below args s 0 0) 0 0 56 [(0, .ref aL0), (1, .int xL1)] [] (k56 aL0 xL1))  : ∀ (n : Nat) (aL0 : Nat) (xL1 : Int32), Sm p l e { frames := 5, cells := 0, slots := 0, locals := 118 } s m args below meth c G 2 (c_Q G c_vi below args s 0 0) 0 0 37 [(0, .ref aL0), (1, .int xL1)] [] (fX10_congress_37 k56 n aL0 xL1) := by
  intro n
  induction n with
  | zero =>
    intro aL0 xL1
    exact sm_bad
  | succ n ih =>
    intro aL0 xL1
    rw [fX10_congress_37]
    refine sm_iload_n hO 1 dX10_congress_37 rfl rfl ?_
    refine sm_if_ne (tgt := 56) hO dX10_congress_38 (by decide) ?_ ?_
    · exact sm_sub [0, 1] rfl (hk56 aL0 xL1)
    · refine sm_aload_n hO 0 dX10_congress_41 rfl rfl ?_
      refine sm_cvi hO (ctX10_here l G aL0) cw_RX10_92 cv_X10_here [] rfl rfl ⟨(Nat.le_of_ble_eq_true rfl), (Nat.le_of_ble_eq_true rfl)⟩ ⟨(Nat.le_of_ble_eq_true rfl), (Nat.le_of_ble_eq_true rfl)⟩ (Nat.le_of_ble_eq_true rfl) dX10_congress_42 (fun x1 => ?_)
      refine sm_if_lt (tgt := 56) hO dX10_congress_45 (by decide) ?_ ?_
      · exact sm_sub [0, 1] rfl (hk56 aL0 xL1)
      · refine sm_aload_n hO 0 dX10_congress_48 rfl rfl ?_
        refine sm_cvi hO (ctX10_takeClause l G aL0) cw_RX10_163 cv_X10_takeClause [] rfl rfl ⟨(Nat.le_of_ble_eq_true rfl), (Nat.le_of_ble_eq_true rfl)⟩ ⟨(Nat.le_of_ble_eq_true rfl), (Nat.le_of_ble_eq_true rfl)⟩ (Nat.le_of_ble_eq_true rfl) dX10_congress_49 (fun x2 => ?_)
        refine sm_istore_n hO [(1, .int x2), (0, .ref aL0)] dX10_congress_52 rfl (by decide) rfl ?_
        refine sm_goto (tgt := 37) hO dX10_congress_53 (by decide) ?_
        exact sm_sub [1, 0] rfl (ih aL0 x2)
set_option maxRecDepth 100000 in
set_option maxHeartbeats 4000000 in
theorem tX10_congress_56 {p : Program} {l : Launch} {e : Env} {s : State} {m : MethodId} {args : Array Value} {below : List Frame} {meth : Method} {c : Code} {G : cG} (hO : c_Ok p s m c cX10_congress 2 RX10 G) (hr : meth.sig.returnType = (some .int)) (hk : meth.locks = false) : ∀ (aL0 : Nat) (xL1 : Int32), Sm p l e { frames := 5, cells := 0, slots := 0, locals := 118 } s m args below meth c G 2 (c_Q G c_vi below args s 0 0) 0 0 56 [(0, .ref aL0), (1, .int xL1)] [] (fX10_congress_56 aL0 xL1) := by
  intro aL0 xL1
  rw [fX10_congress_56]
  refine sm_aload_n hO 0 dX10_congress_56 rfl rfl ?_
  refine sm_iconst (v := 0) hO dX10_congress_57 rfl ?_
  refine sm_pv hO fl_RX10_85 fp_9_11 rfl rfl dX10_congress_58 ?_
  refine sm_iload_n hO 1 dX10_congress_61 rfl rfl ?_
  refine sm_if_le (tgt := 70) hO dX10_congress_62 (by decide) ?_ ?_
  · refine sm_aload_n hO 0 dX10_congress_70 rfl rfl ?_
    refine sm_cvv hO (ctX10_takeRead l G aL0) cw_RX10_166 cv_X10_takeRead [] rfl rfl ⟨(Nat.le_of_ble_eq_true rfl), (Nat.le_of_ble_eq_true rfl)⟩ ⟨(Nat.le_of_ble_eq_true rfl), (Nat.le_of_ble_eq_true rfl)⟩ (Nat.le_of_ble_eq_true rfl) dX10_congress_71 (fun _ => ?_)
    refine sm_aload_n hO 0 dX10_congress_74 rfl rfl ?_
    refine sm_iconst (v := 0) hO dX10_congress_75 rfl ?_
    refine sm_pv hO fl_RX10_169 fp_9_31 rfl rfl dX10_congress_76 ?_
    refine sm_aload_n hO 0 dX10_congress_79 rfl rfl ?_
    refine sm_iconst (v := 0) hO dX10_congress_80 rfl ?_
    refine sm_pv hO fl_RX10_172 fp_9_25 rfl rfl dX10_congress_81 ?_
    refine sm_aload_n hO 0 dX10_congress_84 rfl rfl ?_
    refine sm_gr hO fl_RX10_69 dX10_congress_85 (fun a1 => ?_)
    refine sm_iconst (v := 0) hO dX10_congress_88 rfl ?_
    refine sm_iconst (v := 0) hO dX10_congress_89 rfl ?_
    refine sm_sz hO dX10_congress_90 ?_
    refine sm_aload_n hO 0 dX10_congress_91 rfl rfl ?_
    refine sm_gr hO fl_RX10_69 dX10_congress_92 (fun a2 => ?_)
    refine sm_iconst (v := 1) hO dX10_congress_95 rfl ?_
    refine sm_iconst (v := 0) hO dX10_congress_96 rfl ?_
    refine sm_sz hO dX10_congress_97 ?_
    refine sm_aload_n hO 0 dX10_congress_98 rfl rfl ?_
    refine sm_gi hO fl_RX10_79 dX10_congress_99 (fun x3 => ?_)
    exact sm_iret hO hr hk (Nat.le_of_ble_eq_true rfl) (Nat.le_of_ble_eq_true rfl) dX10_congress_102
  · refine sm_bipush (v := (-10)) hO dX10_congress_65 rfl ?_
    refine sm_iload_n hO 1 dX10_congress_67 rfl rfl ?_
    refine sm_isub hO dX10_congress_68 ?_
    exact sm_iret hO hr hk (Nat.le_of_ble_eq_true rfl) (Nat.le_of_ble_eq_true rfl) dX10_congress_69
set_option maxRecDepth 100000 in
set_option maxHeartbeats 4000000 in
theorem ctX10_congress (l : Launch) (G : cG) (a0_ : Nat) : Ct l G yX10_congress cX10_congress 2 (some .int) 5 118 0 0 [.ref a0_] c_vi (pX10_congress a0_) := by
  refine Ct.of (lv := [(0, .ref a0_)]) (by decide) (Nat.le_of_ble_eq_true rfl) rfl (fun p e s m args below meth c hO hr hk hin => ?_)
  rw [pX10_congress]
  refine sm_aload_n hO 0 dX10_congress_0 rfl rfl ?_
  refine sm_iconst (v := (-1)) hO dX10_congress_1 rfl ?_
  refine sm_pv hO fl_RX10_28 fp_9_12 rfl rfl dX10_congress_2 ?_
  refine sm_aload_n hO 0 dX10_congress_5 rfl rfl ?_
  refine sm_iconst (v := 0) hO dX10_congress_6 rfl ?_
  refine sm_pv hO fl_RX10_89 fp_9_13 rfl rfl dX10_congress_7 ?_
  refine sm_aload_n hO 0 dX10_congress_10 rfl rfl ?_
  refine sm_iconst (v := 0) hO dX10_congress_11 rfl ?_
  refine sm_pv hO fl_RX10_117 fp_9_16 rfl rfl dX10_congress_12 ?_
  refine sm_aload_n hO 0 dX10_congress_15 rfl rfl ?_
  refine sm_iconst (v := 0) hO dX10_congress_16 rfl ?_
  refine sm_pv hO fl_RX10_120 fp_9_18 rfl rfl dX10_congress_17 ?_
  refine sm_aload_n hO 0 dX10_congress_20 rfl rfl ?_
  refine sm_iconst (v := 0) hO dX10_congress_21 rfl ?_
  refine sm_pv hO fl_RX10_123 fp_9_22 rfl rfl dX10_congress_22 ?_
  refine sm_aload_n hO 0 dX10_congress_25 rfl rfl ?_
  refine sm_iconst (v := 0) hO dX10_congress_26 rfl ?_
  refine sm_pv hO fl_RX10_127 fp_9_23 rfl rfl dX10_congress_27 ?_
  refine sm_aload_n hO 0 dX10_congress_30 rfl rfl ?_
  refine sm_iconst (v := 0) hO dX10_congress_31 rfl ?_
  refine sm_pv hO fl_RX10_130 fp_9_24 rfl rfl dX10_congress_32 ?_
  refine sm_iconst (v := 0) hO dX10_congress_35 rfl ?_
  refine sm_istore_n hO [(1, .int 0), (0, .ref a0_)] dX10_congress_36 rfl (by decide) rfl ?_
  exact sm_sub [1, 0] rfl (tX10_congress_37 hO hr hk fX10_congress_56 (tX10_congress_56 hO hr hk) c_fu a0_ 0)
/-! DollCongress.fault()I -/
def pX9_fault (a0_ : Nat) : MM Int32 := m_gr a0_ 8 0 (fun a1 => m_gi a1 6 3 (fun x2 => m_ret x2))
set_option maxRecDepth 100000 in
set_option maxHeartbeats 4000000 in
theorem ctX9_fault (l : Launch) (G : cG) (a0_ : Nat) : Ct l G yX9_fault cX9_fault 1 (some .int) 0 0 0 0 [.ref a0_] c_vi (pX9_fault a0_) := by
  refine Ct.of (lv := [(0, .ref a0_)]) (by decide) (Nat.le_of_ble_eq_true rfl) rfl (fun p e s m args below meth c hO hr hk hin => ?_)
  rw [pX9_fault]
  refine sm_aload_n hO 0 dX9_fault_0 rfl rfl ?_
  refine sm_gr hO fl_RX9_10 dX9_fault_1 (fun a1 => ?_)
  refine sm_gi hO fl_RX9_100 dX9_fault_4 (fun x2 => ?_)
  exact sm_iret hO hr hk (Nat.le_of_ble_eq_true rfl) (Nat.le_of_ble_eq_true rfl) dX9_fault_7
/-! DollCongressModel.fault()I -/
def pX10_fault (a0_ : Nat) : MM Int32 := m_gi a0_ 9 12 (fun x1 => m_ret x1)
set_option maxRecDepth 100000 in
set_option maxHeartbeats 4000000 in
theorem ctX10_fault (l : Launch) (G : cG) (a0_ : Nat) : Ct l G yX10_fault cX10_fault 1 (some .int) 0 0 0 0 [.ref a0_] c_vi (pX10_fault a0_) := by
  refine Ct.of (lv := [(0, .ref a0_)]) (by decide) (Nat.le_of_ble_eq_true rfl) rfl (fun p e s m args below meth c hO hr hk hin => ?_)
  rw [pX10_fault]
  refine sm_aload_n hO 0 dX10_fault_0 rfl rfl ?_
  refine sm_gi hO fl_RX10_28 dX10_fault_1 (fun x1 => ?_)
  exact sm_iret hO hr hk (Nat.le_of_ble_eq_true rfl) (Nat.le_of_ble_eq_true rfl) dX10_fault_4
/-! DollCongress$Scene.strays(LDollCongress$Roll;)I -/
def fX5_strays_33 (k4 : Nat → Nat → Int32 → Int32 → MM Int32) (aL0 : Nat) (aL1 : Nat) (xL2 : Int32) (xL3 : Int32) : MM Int32 := m_let (xL3 + 1) (fun x1 => k4 aL0 aL1 xL2 x1)
def fX5_strays_4  : Nat → Nat → Nat → Int32 → Int32 → MM Int32
  | 0, _, _, _, _ => m_bad
  | n + 1, aL0, aL1, xL2, xL3 => m_gi aL1 4 6 (fun x1 => if x1 ≤ xL3 then (m_ret xL2) else (m_gr aL0 5 0 (fun a2 => m_li 0 a2 xL3 (fun x3 => m_gr aL1 4 2 (fun a4 => m_li 0 a4 xL3 (fun x5 => if x3 = x5 then (fX5_strays_33 (fX5_strays_4 n) aL0 aL1 xL2 xL3) else (m_let (xL2 ||| ((1 : Int32) <<< (xL3 &&& 31))) (fun x6 => fX5_strays_33 (fX5_strays_4 n) aL0 aL1 x6 xL3))))))))
def pX5_strays (a0_ : Nat) (a1_ : Nat) : MM Int32 := fX5_strays_4 c_fu a0_ a1_ 0 0
set_option maxRecDepth 100000 in
set_option maxHeartbeats 4000000 in
theorem tX5_strays_33 {p : Program} {l : Launch} {e : Env} {s : State} {m : MethodId} {args : Array Value} {below : List Frame} {meth : Method} {c : Code} {G : cG} (hO : c_Ok p s m c cX5_strays 4 RX5 G) (hr : meth.sig.returnType = (some .int)) (hk : meth.locks = false) (k4 : Nat → Nat → Int32 → Int32 → MM Int32) (hk4 : ∀ (aL0 : Nat) (aL1 : Nat) (xL2 : Int32) (xL3 : Int32), Sm p l e { frames := 0, cells := 0, slots := 0, locals := 0 } s m args below meth c G 4 (c_Q G c_vi below args s 0 0) 0 0 4 [(0, .ref aL0), (1, .ref aL1), (2, .int xL2), (3, .int xL3)] [] (k4 aL0 aL1 xL2 xL3))  : ∀ (aL0 : Nat) (aL1 : Nat) (xL2 : Int32) (xL3 : Int32), Sm p l e { frames := 0, cells := 0, slots := 0, locals := 0 } s m args below meth c G 4 (c_Q G c_vi below args s 0 0) 0 0 33 [(0, .ref aL0), (1, .ref aL1), (2, .int xL2), (3, .int xL3)] [] (fX5_strays_33 k4 aL0 aL1 xL2 xL3) := by
  intro aL0 aL1 xL2 xL3
  rw [fX5_strays_33]
  refine sm_iincL (v := xL3 + 1) hO 3 (fun x1 => [(3, .int x1), (0, .ref aL0), (1, .ref aL1), (2, .int xL2)]) dX5_strays_33 rfl rfl (by decide) (fun _ => rfl) (fun x1 => ?_)
  refine sm_goto (tgt := 4) hO dX5_strays_36 (by decide) ?_
  exact sm_sub [1, 2, 3, 0] rfl (hk4 aL0 aL1 xL2 x1)
set_option maxRecDepth 100000 in
set_option maxHeartbeats 4000000 in
theorem tX5_strays_4 {p : Program} {l : Launch} {e : Env} {s : State} {m : MethodId} {args : Array Value} {below : List Frame} {meth : Method} {c : Code} {G : cG} (hO : c_Ok p s m c cX5_strays 4 RX5 G) (hr : meth.sig.returnType = (some .int)) (hk : meth.locks = false) : ∀ (n : Nat) (aL0 : Nat) (aL1 : Nat) (xL2 : Int32) (xL3 : Int32), Sm p l e { frames := 0, cells := 0, slots := 0, locals := 0 } s m args below meth c G 4 (c_Q G c_vi below args s 0 0) 0 0 4 [(0, .ref aL0), (1, .ref aL1), (2, .int xL2), (3, .int xL3)] [] (fX5_strays_4 n aL0 aL1 xL2 xL3) := by
  intro n
  induction n with
  | zero =>
    intro aL0 aL1 xL2 xL3
    exact sm_bad
  | succ n ih =>
    intro aL0 aL1 xL2 xL3
    rw [fX5_strays_4]
    refine sm_iload_n hO 3 dX5_strays_4 rfl rfl ?_
    refine sm_aload_n hO 1 dX5_strays_5 rfl rfl ?_
    refine sm_gi hO fl_RX5_42 dX5_strays_6 (fun x1 => ?_)
    refine sm_icmp_ge (tgt := 39) hO dX5_strays_9 (by decide) ?_ ?_
    · refine sm_iload_n hO 2 dX5_strays_39 rfl rfl ?_
      exact sm_iret hO hr hk (Nat.le_of_ble_eq_true rfl) (Nat.le_of_ble_eq_true rfl) dX5_strays_40
    · refine sm_aload_n hO 0 dX5_strays_12 rfl rfl ?_
      refine sm_gr hO fl_RX5_9 dX5_strays_13 (fun a2 => ?_)
      refine sm_iload_n hO 3 dX5_strays_16 rfl rfl ?_
      refine sm_li hO dX5_strays_17 (fun x3 => ?_)
      refine sm_aload_n hO 1 dX5_strays_18 rfl rfl ?_
      refine sm_gr hO fl_RX5_24 dX5_strays_19 (fun a4 => ?_)
      refine sm_iload_n hO 3 dX5_strays_22 rfl rfl ?_
      refine sm_li hO dX5_strays_23 (fun x5 => ?_)
      refine sm_icmp_eq (tgt := 33) hO dX5_strays_24 (by decide) ?_ ?_
      · exact sm_sub [0, 1, 2, 3] rfl (tX5_strays_33 hO hr hk (fX5_strays_4 n) ih aL0 aL1 xL2 xL3)
      · refine sm_iload_n hO 2 dX5_strays_27 rfl rfl ?_
        refine sm_iconst (v := 1) hO dX5_strays_28 rfl ?_
        refine sm_iload_n hO 3 dX5_strays_29 rfl rfl ?_
        refine sm_ishl hO dX5_strays_30 ?_
        refine sm_ior hO dX5_strays_31 ?_
        refine sm_topi (fun x6 => ?_)
        refine sm_istore_n hO [(2, .int x6), (0, .ref aL0), (1, .ref aL1), (3, .int xL3)] dX5_strays_32 rfl (by decide) rfl ?_
        exact sm_sub [1, 2, 0, 3] rfl (tX5_strays_33 hO hr hk (fX5_strays_4 n) ih aL0 aL1 x6 xL3)
set_option maxRecDepth 100000 in
set_option maxHeartbeats 4000000 in
theorem ctX5_strays (l : Launch) (G : cG) (a0_ : Nat) (a1_ : Nat) : Ct l G yX5_strays cX5_strays 4 (some .int) 0 0 0 0 [.ref a0_, .ref a1_] c_vi (pX5_strays a0_ a1_) := by
  refine Ct.of (lv := [(0, .ref a0_), (1, .ref a1_)]) (by decide) (Nat.le_of_ble_eq_true rfl) rfl (fun p e s m args below meth c hO hr hk hin => ?_)
  rw [pX5_strays]
  refine sm_iconst (v := 0) hO dX5_strays_0 rfl ?_
  refine sm_istore_n hO [(2, .int 0), (0, .ref a0_), (1, .ref a1_)] dX5_strays_1 rfl (by decide) rfl ?_
  refine sm_iconst (v := 0) hO dX5_strays_2 rfl ?_
  refine sm_istore_n hO [(3, .int 0), (2, .int 0), (0, .ref a0_), (1, .ref a1_)] dX5_strays_3 rfl (by decide) rfl ?_
  exact sm_sub [2, 3, 1, 0] rfl (tX5_strays_4 hO hr hk c_fu a0_ a1_ 0 0)
/-! java/lang/Integer.bitCount(I)I -/
def pJ6_bitCount_0f7a4 (x0_ : Int32) : MM Int32 := m_let (x0_ - (((x0_.toUInt32 >>> ((1 : Int32).toUInt32 &&& Int32.toUInt32 31)).toInt32) &&& 1431655765)) (fun x1 => m_let ((x1 &&& 858993459) + (((x1.toUInt32 >>> ((2 : Int32).toUInt32 &&& Int32.toUInt32 31)).toInt32) &&& 858993459)) (fun x2 => m_let ((x2 + ((x2.toUInt32 >>> ((4 : Int32).toUInt32 &&& Int32.toUInt32 31)).toInt32)) &&& 252645135) (fun x3 => m_let (x3 + ((x3.toUInt32 >>> ((8 : Int32).toUInt32 &&& Int32.toUInt32 31)).toInt32)) (fun x4 => m_let (x4 + ((x4.toUInt32 >>> ((16 : Int32).toUInt32 &&& Int32.toUInt32 31)).toInt32)) (fun x5 => m_ret (x5 &&& 63))))))
set_option maxRecDepth 100000 in
set_option maxHeartbeats 4000000 in
theorem ctJ6_bitCount_0f7a4 (l : Launch) (G : cG) (x0_ : Int32) : Ct l G yJ6_bitCount_0f7a4 cJ6_bitCount_0f7a4 1 (some .int) 0 0 0 0 [.int x0_] c_vi (pJ6_bitCount_0f7a4 x0_) := by
  refine Ct.of (lv := [(0, .int x0_)]) (by decide) (Nat.le_of_ble_eq_true rfl) rfl (fun p e s m args below meth c hO hr hk hin => ?_)
  rw [pJ6_bitCount_0f7a4]
  refine sm_iload_n hO 0 dJ6_bitCount_0f7a4_0 rfl rfl ?_
  refine sm_iload_n hO 0 dJ6_bitCount_0f7a4_1 rfl rfl ?_
  refine sm_iconst (v := 1) hO dJ6_bitCount_0f7a4_2 rfl ?_
  refine sm_iushr hO dJ6_bitCount_0f7a4_3 rfl ?_
  refine sm_ldcw (v := 1431655765) hO kw_474 dJ6_bitCount_0f7a4_4 ?_
  refine sm_iand hO dJ6_bitCount_0f7a4_7 ?_
  refine sm_isub hO dJ6_bitCount_0f7a4_8 ?_
  refine sm_topi (fun x1 => ?_)
  refine sm_istore_n hO [(0, .int x1)] dJ6_bitCount_0f7a4_9 rfl (by decide) rfl ?_
  refine sm_iload_n hO 0 dJ6_bitCount_0f7a4_10 rfl rfl ?_
  refine sm_ldcw (v := 858993459) hO kw_475 dJ6_bitCount_0f7a4_11 ?_
  refine sm_iand hO dJ6_bitCount_0f7a4_14 ?_
  refine sm_iload_n hO 0 dJ6_bitCount_0f7a4_15 rfl rfl ?_
  refine sm_iconst (v := 2) hO dJ6_bitCount_0f7a4_16 rfl ?_
  refine sm_iushr hO dJ6_bitCount_0f7a4_17 rfl ?_
  refine sm_ldcw (v := 858993459) hO kw_475 dJ6_bitCount_0f7a4_18 ?_
  refine sm_iand hO dJ6_bitCount_0f7a4_21 ?_
  refine sm_iadd hO dJ6_bitCount_0f7a4_22 ?_
  refine sm_topi (fun x2 => ?_)
  refine sm_istore_n hO [(0, .int x2)] dJ6_bitCount_0f7a4_23 rfl (by decide) rfl ?_
  refine sm_iload_n hO 0 dJ6_bitCount_0f7a4_24 rfl rfl ?_
  refine sm_iload_n hO 0 dJ6_bitCount_0f7a4_25 rfl rfl ?_
  refine sm_iconst (v := 4) hO dJ6_bitCount_0f7a4_26 rfl ?_
  refine sm_iushr hO dJ6_bitCount_0f7a4_27 rfl ?_
  refine sm_iadd hO dJ6_bitCount_0f7a4_28 ?_
  refine sm_ldcw (v := 252645135) hO kw_476 dJ6_bitCount_0f7a4_29 ?_
  refine sm_iand hO dJ6_bitCount_0f7a4_32 ?_
  refine sm_topi (fun x3 => ?_)
  refine sm_istore_n hO [(0, .int x3)] dJ6_bitCount_0f7a4_33 rfl (by decide) rfl ?_
  refine sm_iload_n hO 0 dJ6_bitCount_0f7a4_34 rfl rfl ?_
  refine sm_iload_n hO 0 dJ6_bitCount_0f7a4_35 rfl rfl ?_
  refine sm_bipush (v := 8) hO dJ6_bitCount_0f7a4_36 rfl ?_
  refine sm_iushr hO dJ6_bitCount_0f7a4_38 rfl ?_
  refine sm_iadd hO dJ6_bitCount_0f7a4_39 ?_
  refine sm_topi (fun x4 => ?_)
  refine sm_istore_n hO [(0, .int x4)] dJ6_bitCount_0f7a4_40 rfl (by decide) rfl ?_
  refine sm_iload_n hO 0 dJ6_bitCount_0f7a4_41 rfl rfl ?_
  refine sm_iload_n hO 0 dJ6_bitCount_0f7a4_42 rfl rfl ?_
  refine sm_bipush (v := 16) hO dJ6_bitCount_0f7a4_43 rfl ?_
  refine sm_iushr hO dJ6_bitCount_0f7a4_45 rfl ?_
  refine sm_iadd hO dJ6_bitCount_0f7a4_46 ?_
  refine sm_topi (fun x5 => ?_)
  refine sm_istore_n hO [(0, .int x5)] dJ6_bitCount_0f7a4_47 rfl (by decide) rfl ?_
  refine sm_iload_n hO 0 dJ6_bitCount_0f7a4_48 rfl rfl ?_
  refine sm_bipush (v := 63) hO dJ6_bitCount_0f7a4_49 rfl ?_
  refine sm_iand hO dJ6_bitCount_0f7a4_51 ?_
  exact sm_iret hO hr hk (Nat.le_of_ble_eq_true rfl) (Nat.le_of_ble_eq_true rfl) dJ6_bitCount_0f7a4_52
/-! DollCongress$Signs.within(LDollCongress$Roll;LDollCongress$Scene;I)I -/
def fX6_within_40 (k5 : Nat → Nat → Int32 → Int32 → Int32 → MM Int32) (aL0 : Nat) (aL1 : Nat) (xL2 : Int32) (xL3 : Int32) (xL4 : Int32) : MM Int32 := m_let (xL4 + 1) (fun x1 => k5 aL0 aL1 xL2 xL3 x1)
def fX6_within_5  : Nat → Nat → Nat → Int32 → Int32 → Int32 → MM Int32
  | 0, _, _, _, _, _ => m_bad
  | n + 1, aL0, aL1, xL2, xL3, xL4 => m_gi aL0 4 6 (fun x1 => if x1 ≤ xL4 then (m_ret xL3) else (m_gr aL1 5 1 (fun a2 => m_li 0 a2 xL4 (fun x3 => m_gi aL0 4 7 (fun x4 => m_bind (pJ6_bitCount_0f7a4 (x3 ^^^ x4)) (fun x5 => if xL2 < x5 then (fX6_within_40 (fX6_within_5 n) aL0 aL1 xL2 xL3 xL4) else (m_let (xL3 ||| ((1 : Int32) <<< (xL4 &&& 31))) (fun x6 => fX6_within_40 (fX6_within_5 n) aL0 aL1 xL2 x6 xL4))))))))
def pX6_within (a0_ : Nat) (a1_ : Nat) (x2_ : Int32) : MM Int32 := fX6_within_5 c_fu a0_ a1_ x2_ 0 0
set_option maxRecDepth 100000 in
set_option maxHeartbeats 4000000 in
theorem tX6_within_40 {p : Program} {l : Launch} {e : Env} {s : State} {m : MethodId} {args : Array Value} {below : List Frame} {meth : Method} {c : Code} {G : cG} (hO : c_Ok p s m c cX6_within 5 RX6 G) (hr : meth.sig.returnType = (some .int)) (hk : meth.locks = false) (k5 : Nat → Nat → Int32 → Int32 → Int32 → MM Int32) (hk5 : ∀ (aL0 : Nat) (aL1 : Nat) (xL2 : Int32) (xL3 : Int32) (xL4 : Int32), Sm p l e { frames := 1, cells := 0, slots := 0, locals := 20 } s m args below meth c G 5 (c_Q G c_vi below args s 0 0) 0 0 5 [(0, .ref aL0), (1, .ref aL1), (2, .int xL2), (3, .int xL3), (4, .int xL4)] [] (k5 aL0 aL1 xL2 xL3 xL4))  : ∀ (aL0 : Nat) (aL1 : Nat) (xL2 : Int32) (xL3 : Int32) (xL4 : Int32), Sm p l e { frames := 1, cells := 0, slots := 0, locals := 20 } s m args below meth c G 5 (c_Q G c_vi below args s 0 0) 0 0 40 [(0, .ref aL0), (1, .ref aL1), (2, .int xL2), (3, .int xL3), (4, .int xL4)] [] (fX6_within_40 k5 aL0 aL1 xL2 xL3 xL4) := by
  intro aL0 aL1 xL2 xL3 xL4
  rw [fX6_within_40]
  refine sm_iincL (v := xL4 + 1) hO 4 (fun x1 => [(4, .int x1), (0, .ref aL0), (1, .ref aL1), (2, .int xL2), (3, .int xL3)]) dX6_within_40 rfl rfl (by decide) (fun _ => rfl) (fun x1 => ?_)
  refine sm_goto (tgt := 5) hO dX6_within_43 (by decide) ?_
  exact sm_sub [1, 2, 3, 4, 0] rfl (hk5 aL0 aL1 xL2 xL3 x1)
set_option maxRecDepth 100000 in
set_option maxHeartbeats 4000000 in
theorem tX6_within_5 {p : Program} {l : Launch} {e : Env} {s : State} {m : MethodId} {args : Array Value} {below : List Frame} {meth : Method} {c : Code} {G : cG} (hO : c_Ok p s m c cX6_within 5 RX6 G) (hr : meth.sig.returnType = (some .int)) (hk : meth.locks = false) : ∀ (n : Nat) (aL0 : Nat) (aL1 : Nat) (xL2 : Int32) (xL3 : Int32) (xL4 : Int32), Sm p l e { frames := 1, cells := 0, slots := 0, locals := 20 } s m args below meth c G 5 (c_Q G c_vi below args s 0 0) 0 0 5 [(0, .ref aL0), (1, .ref aL1), (2, .int xL2), (3, .int xL3), (4, .int xL4)] [] (fX6_within_5 n aL0 aL1 xL2 xL3 xL4) := by
  intro n
  induction n with
  | zero =>
    intro aL0 aL1 xL2 xL3 xL4
    exact sm_bad
  | succ n ih =>
    intro aL0 aL1 xL2 xL3 xL4
    rw [fX6_within_5]
    refine sm_iload hO 4 dX6_within_5 rfl ?_
    refine sm_aload_n hO 0 dX6_within_7 rfl rfl ?_
    refine sm_gi hO fl_RX6_9 dX6_within_8 (fun x1 => ?_)
    refine sm_icmp_ge (tgt := 46) hO dX6_within_11 (by decide) ?_ ?_
    · refine sm_iload_n hO 3 dX6_within_46 rfl rfl ?_
      exact sm_iret hO hr hk (Nat.le_of_ble_eq_true rfl) (Nat.le_of_ble_eq_true rfl) dX6_within_47
    · refine sm_aload_n hO 1 dX6_within_14 rfl rfl ?_
      refine sm_gr hO fl_RX6_15 dX6_within_15 (fun a2 => ?_)
      refine sm_iload hO 4 dX6_within_18 rfl ?_
      refine sm_li hO dX6_within_20 (fun x3 => ?_)
      refine sm_aload_n hO 0 dX6_within_21 rfl rfl ?_
      refine sm_gi hO fl_RX6_21 dX6_within_22 (fun x4 => ?_)
      refine sm_ixor hO dX6_within_25 ?_
      refine sm_csi hO (ctJ6_bitCount_0f7a4 l G (x3 ^^^ x4)) cw_RX6_24 kw_472 [] rfl rfl ⟨(Nat.le_of_ble_eq_true rfl), (Nat.le_of_ble_eq_true rfl)⟩ ⟨(Nat.le_of_ble_eq_true rfl), (Nat.le_of_ble_eq_true rfl)⟩ (Nat.le_of_ble_eq_true rfl) dX6_within_26 (fun x5 => ?_)
      refine sm_iload_n hO 2 dX6_within_29 rfl rfl ?_
      refine sm_icmp_gt (tgt := 40) hO dX6_within_30 (by decide) ?_ ?_
      · exact sm_sub [0, 1, 2, 3, 4] rfl (tX6_within_40 hO hr hk (fX6_within_5 n) ih aL0 aL1 xL2 xL3 xL4)
      · refine sm_iload_n hO 3 dX6_within_33 rfl rfl ?_
        refine sm_iconst (v := 1) hO dX6_within_34 rfl ?_
        refine sm_iload hO 4 dX6_within_35 rfl ?_
        refine sm_ishl hO dX6_within_37 ?_
        refine sm_ior hO dX6_within_38 ?_
        refine sm_topi (fun x6 => ?_)
        refine sm_istore_n hO [(3, .int x6), (0, .ref aL0), (1, .ref aL1), (2, .int xL2), (4, .int xL4)] dX6_within_39 rfl (by decide) rfl ?_
        exact sm_sub [1, 2, 3, 0, 4] rfl (tX6_within_40 hO hr hk (fX6_within_5 n) ih aL0 aL1 xL2 x6 xL4)
set_option maxRecDepth 100000 in
set_option maxHeartbeats 4000000 in
theorem ctX6_within (l : Launch) (G : cG) (a0_ : Nat) (a1_ : Nat) (x2_ : Int32) : Ct l G yX6_within cX6_within 5 (some .int) 1 20 0 0 [.ref a0_, .ref a1_, .int x2_] c_vi (pX6_within a0_ a1_ x2_) := by
  refine Ct.of (lv := [(0, .ref a0_), (1, .ref a1_), (2, .int x2_)]) (by decide) (Nat.le_of_ble_eq_true rfl) rfl (fun p e s m args below meth c hO hr hk hin => ?_)
  rw [pX6_within]
  refine sm_iconst (v := 0) hO dX6_within_0 rfl ?_
  refine sm_istore_n hO [(3, .int 0), (0, .ref a0_), (1, .ref a1_), (2, .int x2_)] dX6_within_1 rfl (by decide) rfl ?_
  refine sm_iconst (v := 0) hO dX6_within_2 rfl ?_
  refine sm_istore hO [(4, .int 0), (3, .int 0), (0, .ref a0_), (1, .ref a1_), (2, .int x2_)] dX6_within_3 (by decide) rfl ?_
  exact sm_sub [2, 3, 4, 1, 0] rfl (tX6_within_5 hO hr hk c_fu a0_ a1_ x2_ 0 0)
/-! DollCongress$Scene.isUp(I)Z -/
def pX5_isUp (a0_ : Nat) (x1_ : Int32) : MM Int32 := m_gi a0_ 5 4 (fun x1 => if ((x1 >>> (x1_ &&& 31)) &&& 1) = (1 : Int32) then (m_ret 1) else (m_ret 0))
set_option maxRecDepth 100000 in
set_option maxHeartbeats 4000000 in
theorem ctX5_isUp (l : Launch) (G : cG) (a0_ : Nat) (x1_ : Int32) : Ct l G yX5_isUp cX5_isUp 2 (some .boolean) 0 0 0 0 [.ref a0_, .int x1_] c_vi (pX5_isUp a0_ x1_) := by
  refine Ct.of (lv := [(0, .ref a0_), (1, .int x1_)]) (by decide) (Nat.le_of_ble_eq_true rfl) rfl (fun p e s m args below meth c hO hr hk hin => ?_)
  rw [pX5_isUp]
  refine sm_aload_n hO 0 dX5_isUp_0 rfl rfl ?_
  refine sm_gi hO fl_RX5_46 dX5_isUp_1 (fun x1 => ?_)
  refine sm_iload_n hO 1 dX5_isUp_4 rfl rfl ?_
  refine sm_ishr hO dX5_isUp_5 ?_
  refine sm_iconst (v := 1) hO dX5_isUp_6 rfl ?_
  refine sm_iand hO dX5_isUp_7 ?_
  refine sm_iconst (v := 1) hO dX5_isUp_8 rfl ?_
  refine sm_icmp_ne (tgt := 16) hO dX5_isUp_9 (by decide) ?_ ?_
  · refine sm_iconst (v := 0) hO dX5_isUp_16 rfl ?_
    exact sm_zret hO hr hk rfl (Nat.le_of_ble_eq_true rfl) (Nat.le_of_ble_eq_true rfl) dX5_isUp_17
  · refine sm_iconst (v := 1) hO dX5_isUp_12 rfl ?_
    refine sm_goto (tgt := 17) hO dX5_isUp_13 (by decide) ?_
    exact sm_zret hO hr hk rfl (Nat.le_of_ble_eq_true rfl) (Nat.le_of_ble_eq_true rfl) dX5_isUp_17
/-! DollCongress$Scene.nodding(LDollCongress$Roll;)I -/
def fX5_nodding_60 (k7 : Nat → Nat → Int32 → Int32 → Int32 → MM Int32) (aL0 : Nat) (aL1 : Nat) (xL2 : Int32) (xL3 : Int32) (xL4 : Int32) : MM Int32 := m_let (xL4 + 1) (fun x1 => k7 aL0 aL1 xL2 xL3 x1)
def fX5_nodding_7 (k66 : Int32 → Int32 → MM Int32) : Nat → Nat → Nat → Int32 → Int32 → Int32 → MM Int32
  | 0, _, _, _, _, _ => m_bad
  | n + 1, aL0, aL1, xL2, xL3, xL4 => m_gi aL1 4 6 (fun x1 => if x1 ≤ xL4 then (k66 xL2 xL3) else (m_cv aL0 5 (pX5_isUp aL0 xL4) (fun x2 => if x2 = 0 then (fX5_nodding_60 (fX5_nodding_7 k66 n) aL0 aL1 xL2 xL3 xL4) else (m_gr aL0 5 0 (fun a3 => m_li 0 a3 xL4 (fun x4 => m_let (xL2 ||| ((1 : Int32) <<< (x4 &&& 31))) (fun x5 => m_gr aL1 4 1 (fun a6 => m_li 0 a6 xL4 (fun x7 => if x7 = (1 : Int32) then (m_gr aL0 5 0 (fun a8 => m_li 0 a8 xL4 (fun x9 => m_let (xL3 ||| ((1 : Int32) <<< (x9 &&& 31))) (fun x10 => fX5_nodding_60 (fX5_nodding_7 k66 n) aL0 aL1 x5 x10 xL4)))) else (fX5_nodding_60 (fX5_nodding_7 k66 n) aL0 aL1 x5 xL3 xL4))))))))))
def fX5_nodding_66  (xL2 : Int32) (xL3 : Int32) : MM Int32 := m_ret (xL2 &&& (xL3 ^^^ ((-1))))
def pX5_nodding (a0_ : Nat) (a1_ : Nat) : MM Int32 := fX5_nodding_7 fX5_nodding_66 c_fu a0_ a1_ 0 0 0
set_option maxRecDepth 100000 in
set_option maxHeartbeats 4000000 in
theorem tX5_nodding_60 {p : Program} {l : Launch} {e : Env} {s : State} {m : MethodId} {args : Array Value} {below : List Frame} {meth : Method} {c : Code} {G : cG} (hO : c_Ok p s m c cX5_nodding 5 RX5 G) (hr : meth.sig.returnType = (some .int)) (hk : meth.locks = false) (k7 : Nat → Nat → Int32 → Int32 → Int32 → MM Int32) (hk7 : ∀ (aL0 : Nat) (aL1 : Nat) (xL2 : Int32) (xL3 : Int32) (xL4 : Int32), Sm p l e { frames := 1, cells := 0, slots := 0, locals := 21 } s m args below meth c G 5 (c_Q G c_vi below args s 0 0) 0 0 7 [(0, .ref aL0), (1, .ref aL1), (2, .int xL2), (3, .int xL3), (4, .int xL4)] [] (k7 aL0 aL1 xL2 xL3 xL4))  : ∀ (aL0 : Nat) (aL1 : Nat) (xL2 : Int32) (xL3 : Int32) (xL4 : Int32), Sm p l e { frames := 1, cells := 0, slots := 0, locals := 21 } s m args below meth c G 5 (c_Q G c_vi below args s 0 0) 0 0 60 [(0, .ref aL0), (1, .ref aL1), (2, .int xL2), (3, .int xL3), (4, .int xL4)] [] (fX5_nodding_60 k7 aL0 aL1 xL2 xL3 xL4) := by
  intro aL0 aL1 xL2 xL3 xL4
  rw [fX5_nodding_60]
  refine sm_iincL (v := xL4 + 1) hO 4 (fun x1 => [(4, .int x1), (0, .ref aL0), (1, .ref aL1), (2, .int xL2), (3, .int xL3)]) dX5_nodding_60 rfl rfl (by decide) (fun _ => rfl) (fun x1 => ?_)
  refine sm_goto (tgt := 7) hO dX5_nodding_63 (by decide) ?_
  exact sm_sub [1, 2, 3, 4, 0] rfl (hk7 aL0 aL1 xL2 xL3 x1)
set_option maxRecDepth 100000 in
set_option maxHeartbeats 4000000 in
theorem tX5_nodding_7 {p : Program} {l : Launch} {e : Env} {s : State} {m : MethodId} {args : Array Value} {below : List Frame} {meth : Method} {c : Code} {G : cG} (hO : c_Ok p s m c cX5_nodding 5 RX5 G) (hr : meth.sig.returnType = (some .int)) (hk : meth.locks = false) (k66 : Int32 → Int32 → MM Int32) (hk66 : ∀ (xL2 : Int32) (xL3 : Int32), Sm p l e { frames := 1, cells := 0, slots := 0, locals := 21 } s m args below meth c G 5 (c_Q G c_vi below args s 0 0) 0 0 66 [(2, .int xL2), (3, .int xL3)] [] (k66 xL2 xL3))  : ∀ (n : Nat) (aL0 : Nat) (aL1 : Nat) (xL2 : Int32) (xL3 : Int32) (xL4 : Int32), Sm p l e { frames := 1, cells := 0, slots := 0, locals := 21 } s m args below meth c G 5 (c_Q G c_vi below args s 0 0) 0 0 7 [(0, .ref aL0), (1, .ref aL1), (2, .int xL2), (3, .int xL3), (4, .int xL4)] [] (fX5_nodding_7 k66 n aL0 aL1 xL2 xL3 xL4) := by
  intro n
  induction n with
  | zero =>
    intro aL0 aL1 xL2 xL3 xL4
    exact sm_bad
  | succ n ih =>
    intro aL0 aL1 xL2 xL3 xL4
    rw [fX5_nodding_7]
    refine sm_iload hO 4 dX5_nodding_7 rfl ?_
    refine sm_aload_n hO 1 dX5_nodding_9 rfl rfl ?_
    refine sm_gi hO fl_RX5_42 dX5_nodding_10 (fun x1 => ?_)
    refine sm_icmp_ge (tgt := 66) hO dX5_nodding_13 (by decide) ?_ ?_
    · exact sm_sub [2, 3] rfl (hk66 xL2 xL3)
    · refine sm_aload_n hO 0 dX5_nodding_16 rfl rfl ?_
      refine sm_iload hO 4 dX5_nodding_17 rfl ?_
      refine sm_cvi hO (ctX5_isUp l G aL0 xL4) cw_RX5_66 cv_X5_isUp [] rfl rfl ⟨(Nat.le_of_ble_eq_true rfl), (Nat.le_of_ble_eq_true rfl)⟩ ⟨(Nat.le_of_ble_eq_true rfl), (Nat.le_of_ble_eq_true rfl)⟩ (Nat.le_of_ble_eq_true rfl) dX5_nodding_19 (fun x2 => ?_)
      refine sm_if_eq (tgt := 60) hO dX5_nodding_22 (by decide) ?_ ?_
      · exact sm_sub [0, 1, 2, 3, 4] rfl (tX5_nodding_60 hO hr hk (fX5_nodding_7 k66 n) ih aL0 aL1 xL2 xL3 xL4)
      · refine sm_iload_n hO 2 dX5_nodding_25 rfl rfl ?_
        refine sm_iconst (v := 1) hO dX5_nodding_26 rfl ?_
        refine sm_aload_n hO 0 dX5_nodding_27 rfl rfl ?_
        refine sm_gr hO fl_RX5_9 dX5_nodding_28 (fun a3 => ?_)
        refine sm_iload hO 4 dX5_nodding_31 rfl ?_
        refine sm_li hO dX5_nodding_33 (fun x4 => ?_)
        refine sm_ishl hO dX5_nodding_34 ?_
        refine sm_ior hO dX5_nodding_35 ?_
        refine sm_topi (fun x5 => ?_)
        refine sm_istore_n hO [(2, .int x5), (0, .ref aL0), (1, .ref aL1), (3, .int xL3), (4, .int xL4)] dX5_nodding_36 rfl (by decide) rfl ?_
        refine sm_aload_n hO 2 dX5_nodding_37 rfl rfl ?_
        refine sm_gr hO fl_RX5_70 dX5_nodding_38 (fun a6 => ?_)
        refine sm_iload hO 4 dX5_nodding_41 rfl ?_
        refine sm_li hO dX5_nodding_43 (fun x7 => ?_)
        refine sm_iconst (v := 1) hO dX5_nodding_44 rfl ?_
        refine sm_icmp_ne (tgt := 60) hO dX5_nodding_45 (by decide) ?_ ?_
        · exact sm_sub [1, 2, 0, 3, 4] rfl (tX5_nodding_60 hO hr hk (fX5_nodding_7 k66 n) ih aL0 aL1 x5 xL3 xL4)
        · refine sm_iload_n hO 3 dX5_nodding_48 rfl rfl ?_
          refine sm_iconst (v := 1) hO dX5_nodding_49 rfl ?_
          refine sm_aload_n hO 1 dX5_nodding_50 rfl rfl ?_
          refine sm_gr hO fl_RX5_9 dX5_nodding_51 (fun a8 => ?_)
          refine sm_iload hO 4 dX5_nodding_54 rfl ?_
          refine sm_li hO dX5_nodding_56 (fun x9 => ?_)
          refine sm_ishl hO dX5_nodding_57 ?_
          refine sm_ior hO dX5_nodding_58 ?_
          refine sm_topi (fun x10 => ?_)
          refine sm_istore_n hO [(3, .int x10), (2, .int x5), (0, .ref aL0), (1, .ref aL1), (4, .int xL4)] dX5_nodding_59 rfl (by decide) rfl ?_
          exact sm_sub [2, 3, 1, 0, 4] rfl (tX5_nodding_60 hO hr hk (fX5_nodding_7 k66 n) ih aL0 aL1 x5 x10 xL4)
set_option maxRecDepth 100000 in
set_option maxHeartbeats 4000000 in
theorem tX5_nodding_66 {p : Program} {l : Launch} {e : Env} {s : State} {m : MethodId} {args : Array Value} {below : List Frame} {meth : Method} {c : Code} {G : cG} (hO : c_Ok p s m c cX5_nodding 5 RX5 G) (hr : meth.sig.returnType = (some .int)) (hk : meth.locks = false) : ∀ (xL2 : Int32) (xL3 : Int32), Sm p l e { frames := 1, cells := 0, slots := 0, locals := 21 } s m args below meth c G 5 (c_Q G c_vi below args s 0 0) 0 0 66 [(2, .int xL2), (3, .int xL3)] [] (fX5_nodding_66 xL2 xL3) := by
  intro xL2 xL3
  rw [fX5_nodding_66]
  refine sm_iload_n hO 0 dX5_nodding_66 rfl rfl ?_
  refine sm_iload_n hO 1 dX5_nodding_67 rfl rfl ?_
  refine sm_iconst (v := (-1)) hO dX5_nodding_68 rfl ?_
  refine sm_ixor hO dX5_nodding_69 ?_
  refine sm_iand hO dX5_nodding_70 ?_
  exact sm_iret hO hr hk (Nat.le_of_ble_eq_true rfl) (Nat.le_of_ble_eq_true rfl) dX5_nodding_71
set_option maxRecDepth 100000 in
set_option maxHeartbeats 4000000 in
theorem ctX5_nodding (l : Launch) (G : cG) (a0_ : Nat) (a1_ : Nat) : Ct l G yX5_nodding cX5_nodding 5 (some .int) 1 21 0 0 [.ref a0_, .ref a1_] c_vi (pX5_nodding a0_ a1_) := by
  refine Ct.of (lv := [(0, .ref a0_), (1, .ref a1_)]) (by decide) (Nat.le_of_ble_eq_true rfl) rfl (fun p e s m args below meth c hO hr hk hin => ?_)
  rw [pX5_nodding]
  refine sm_iconst (v := 0) hO dX5_nodding_0 rfl ?_
  refine sm_istore_n hO [(2, .int 0), (0, .ref a0_), (1, .ref a1_)] dX5_nodding_1 rfl (by decide) rfl ?_
  refine sm_iconst (v := 0) hO dX5_nodding_2 rfl ?_
  refine sm_istore_n hO [(3, .int 0), (2, .int 0), (0, .ref a0_), (1, .ref a1_)] dX5_nodding_3 rfl (by decide) rfl ?_
  refine sm_iconst (v := 0) hO dX5_nodding_4 rfl ?_
  refine sm_istore hO [(4, .int 0), (3, .int 0), (2, .int 0), (0, .ref a0_), (1, .ref a1_)] dX5_nodding_5 (by decide) rfl ?_
  exact sm_sub [3, 4, 2, 1, 0] rfl (tX5_nodding_7 hO hr hk fX5_nodding_66 (tX5_nodding_66 hO hr hk) c_fu a0_ a1_ 0 0 0)
/-! DollCongress$Signs.tells(LDollCongress$Roll;LDollCongress$Scene;I)Z -/
def fX6_tells_54 (k15 : Nat → Nat → Int32 → Int32 → Int32 → MM Int32) (aL0 : Nat) (aL1 : Nat) (xL2 : Int32) (xL3 : Int32) (xL4 : Int32) : MM Int32 := m_let (xL4 + 1) (fun x1 => k15 aL0 aL1 xL2 xL3 x1)
def fX6_tells_15 (k60 : Nat → Nat → Int32 → Int32 → MM Int32) : Nat → Nat → Nat → Int32 → Int32 → Int32 → MM Int32
  | 0, _, _, _, _, _ => m_bad
  | n + 1, aL0, aL1, xL2, xL3, xL4 => m_gi aL0 4 6 (fun x1 => if x1 ≤ xL4 then (k60 aL0 aL1 xL2 xL3) else (m_gr aL1 5 1 (fun a2 => m_li 0 a2 xL3 (fun x3 => m_gr aL1 5 1 (fun a4 => m_li 0 a4 xL4 (fun x5 => m_let (x3 ^^^ x5) (fun x6 => if x6 = 0 then (fX6_tells_54 (fX6_tells_15 k60 n) aL0 aL1 xL2 xL3 xL4) else (if (x6 &&& xL2) = 0 then (m_ret 0) else (fX6_tells_54 (fX6_tells_15 k60 n) aL0 aL1 xL2 xL3 xL4)))))))))
def fX6_tells_60 (k2 : Nat → Nat → Int32 → Int32 → MM Int32) (aL0 : Nat) (aL1 : Nat) (xL2 : Int32) (xL3 : Int32) : MM Int32 := m_let (xL3 + 1) (fun x1 => k2 aL0 aL1 xL2 x1)
def fX6_tells_2  : Nat → Nat → Nat → Int32 → Int32 → MM Int32
  | 0, _, _, _, _ => m_bad
  | n + 1, aL0, aL1, xL2, xL3 => m_gi aL0 4 6 (fun x1 => if x1 ≤ xL3 then (m_ret 1) else (m_let (xL3 + 1) (fun x2 => fX6_tells_15 (fX6_tells_60 (fX6_tells_2 n)) c_fu aL0 aL1 xL2 xL3 x2)))
def pX6_tells (a0_ : Nat) (a1_ : Nat) (x2_ : Int32) : MM Int32 := fX6_tells_2 c_fu a0_ a1_ x2_ 0
set_option maxRecDepth 100000 in
set_option maxHeartbeats 4000000 in
theorem tX6_tells_54 {p : Program} {l : Launch} {e : Env} {s : State} {m : MethodId} {args : Array Value} {below : List Frame} {meth : Method} {c : Code} {G : cG} (hO : c_Ok p s m c cX6_tells 6 RX6 G) (hr : meth.sig.returnType = (some .boolean)) (hk : meth.locks = false) (k15 : Nat → Nat → Int32 → Int32 → Int32 → MM Int32) (hk15 : ∀ (aL0 : Nat) (aL1 : Nat) (xL2 : Int32) (xL3 : Int32) (xL4 : Int32), Sm p l e { frames := 0, cells := 0, slots := 0, locals := 0 } s m args below meth c G 6 (c_Q G c_vi below args s 0 0) 0 0 15 [(0, .ref aL0), (1, .ref aL1), (2, .int xL2), (3, .int xL3), (4, .int xL4)] [] (k15 aL0 aL1 xL2 xL3 xL4))  : ∀ (aL0 : Nat) (aL1 : Nat) (xL2 : Int32) (xL3 : Int32) (xL4 : Int32), Sm p l e { frames := 0, cells := 0, slots := 0, locals := 0 } s m args below meth c G 6 (c_Q G c_vi below args s 0 0) 0 0 54 [(0, .ref aL0), (1, .ref aL1), (2, .int xL2), (3, .int xL3), (4, .int xL4)] [] (fX6_tells_54 k15 aL0 aL1 xL2 xL3 xL4) := by
  intro aL0 aL1 xL2 xL3 xL4
  rw [fX6_tells_54]
  refine sm_iincL (v := xL4 + 1) hO 4 (fun x1 => [(4, .int x1), (0, .ref aL0), (1, .ref aL1), (2, .int xL2), (3, .int xL3)]) dX6_tells_54 rfl rfl (by decide) (fun _ => rfl) (fun x1 => ?_)
  refine sm_goto (tgt := 15) hO dX6_tells_57 (by decide) ?_
  exact sm_sub [1, 2, 3, 4, 0] rfl (hk15 aL0 aL1 xL2 xL3 x1)
set_option maxRecDepth 100000 in
set_option maxHeartbeats 4000000 in
theorem tX6_tells_15 {p : Program} {l : Launch} {e : Env} {s : State} {m : MethodId} {args : Array Value} {below : List Frame} {meth : Method} {c : Code} {G : cG} (hO : c_Ok p s m c cX6_tells 6 RX6 G) (hr : meth.sig.returnType = (some .boolean)) (hk : meth.locks = false) (k60 : Nat → Nat → Int32 → Int32 → MM Int32) (hk60 : ∀ (aL0 : Nat) (aL1 : Nat) (xL2 : Int32) (xL3 : Int32), Sm p l e { frames := 0, cells := 0, slots := 0, locals := 0 } s m args below meth c G 6 (c_Q G c_vi below args s 0 0) 0 0 60 [(0, .ref aL0), (1, .ref aL1), (2, .int xL2), (3, .int xL3)] [] (k60 aL0 aL1 xL2 xL3))  : ∀ (n : Nat) (aL0 : Nat) (aL1 : Nat) (xL2 : Int32) (xL3 : Int32) (xL4 : Int32), Sm p l e { frames := 0, cells := 0, slots := 0, locals := 0 } s m args below meth c G 6 (c_Q G c_vi below args s 0 0) 0 0 15 [(0, .ref aL0), (1, .ref aL1), (2, .int xL2), (3, .int xL3), (4, .int xL4)] [] (fX6_tells_15 k60 n aL0 aL1 xL2 xL3 xL4) := by
  intro n
  induction n with
  | zero =>
    intro aL0 aL1 xL2 xL3 xL4
    exact sm_bad
  | succ n ih =>
    intro aL0 aL1 xL2 xL3 xL4
    rw [fX6_tells_15]
    refine sm_iload hO 4 dX6_tells_15 rfl ?_
    refine sm_aload_n hO 0 dX6_tells_17 rfl rfl ?_
    refine sm_gi hO fl_RX6_9 dX6_tells_18 (fun x1 => ?_)
    refine sm_icmp_ge (tgt := 60) hO dX6_tells_21 (by decide) ?_ ?_
    · exact sm_sub [0, 1, 2, 3] rfl (hk60 aL0 aL1 xL2 xL3)
    · refine sm_aload_n hO 1 dX6_tells_24 rfl rfl ?_
      refine sm_gr hO fl_RX6_15 dX6_tells_25 (fun a2 => ?_)
      refine sm_iload_n hO 3 dX6_tells_28 rfl rfl ?_
      refine sm_li hO dX6_tells_29 (fun x3 => ?_)
      refine sm_aload_n hO 1 dX6_tells_30 rfl rfl ?_
      refine sm_gr hO fl_RX6_15 dX6_tells_31 (fun a4 => ?_)
      refine sm_iload hO 4 dX6_tells_34 rfl ?_
      refine sm_li hO dX6_tells_36 (fun x5 => ?_)
      refine sm_ixor hO dX6_tells_37 ?_
      refine sm_topi (fun x6 => ?_)
      refine sm_istore hO [(5, .int x6), (0, .ref aL0), (1, .ref aL1), (2, .int xL2), (3, .int xL3), (4, .int xL4)] dX6_tells_38 (by decide) rfl ?_
      refine sm_iload hO 0 dX6_tells_40 rfl ?_
      refine sm_if_eq (tgt := 54) hO dX6_tells_42 (by decide) ?_ ?_
      · exact sm_sub [1, 2, 3, 4, 5] rfl (tX6_tells_54 hO hr hk (fX6_tells_15 k60 n) ih aL0 aL1 xL2 xL3 xL4)
      · refine sm_iload hO 0 dX6_tells_45 rfl ?_
        refine sm_iload_n hO 3 dX6_tells_47 rfl rfl ?_
        refine sm_iand hO dX6_tells_48 ?_
        refine sm_if_ne (tgt := 54) hO dX6_tells_49 (by decide) ?_ ?_
        · exact sm_sub [1, 2, 3, 4, 5] rfl (tX6_tells_54 hO hr hk (fX6_tells_15 k60 n) ih aL0 aL1 xL2 xL3 xL4)
        · refine sm_iconst (v := 0) hO dX6_tells_52 rfl ?_
          exact sm_zret hO hr hk rfl (Nat.le_of_ble_eq_true rfl) (Nat.le_of_ble_eq_true rfl) dX6_tells_53
set_option maxRecDepth 100000 in
set_option maxHeartbeats 4000000 in
theorem tX6_tells_60 {p : Program} {l : Launch} {e : Env} {s : State} {m : MethodId} {args : Array Value} {below : List Frame} {meth : Method} {c : Code} {G : cG} (hO : c_Ok p s m c cX6_tells 6 RX6 G) (hr : meth.sig.returnType = (some .boolean)) (hk : meth.locks = false) (k2 : Nat → Nat → Int32 → Int32 → MM Int32) (hk2 : ∀ (aL0 : Nat) (aL1 : Nat) (xL2 : Int32) (xL3 : Int32), Sm p l e { frames := 0, cells := 0, slots := 0, locals := 0 } s m args below meth c G 6 (c_Q G c_vi below args s 0 0) 0 0 2 [(0, .ref aL0), (1, .ref aL1), (2, .int xL2), (3, .int xL3)] [] (k2 aL0 aL1 xL2 xL3))  : ∀ (aL0 : Nat) (aL1 : Nat) (xL2 : Int32) (xL3 : Int32), Sm p l e { frames := 0, cells := 0, slots := 0, locals := 0 } s m args below meth c G 6 (c_Q G c_vi below args s 0 0) 0 0 60 [(0, .ref aL0), (1, .ref aL1), (2, .int xL2), (3, .int xL3)] [] (fX6_tells_60 k2 aL0 aL1 xL2 xL3) := by
  intro aL0 aL1 xL2 xL3
  rw [fX6_tells_60]
  refine sm_iincL (v := xL3 + 1) hO 3 (fun x1 => [(3, .int x1), (0, .ref aL0), (1, .ref aL1), (2, .int xL2)]) dX6_tells_60 rfl rfl (by decide) (fun _ => rfl) (fun x1 => ?_)
  refine sm_goto (tgt := 2) hO dX6_tells_63 (by decide) ?_
  exact sm_sub [1, 2, 3, 0] rfl (hk2 aL0 aL1 xL2 x1)
set_option maxRecDepth 100000 in
set_option maxHeartbeats 4000000 in
theorem tX6_tells_2 {p : Program} {l : Launch} {e : Env} {s : State} {m : MethodId} {args : Array Value} {below : List Frame} {meth : Method} {c : Code} {G : cG} (hO : c_Ok p s m c cX6_tells 6 RX6 G) (hr : meth.sig.returnType = (some .boolean)) (hk : meth.locks = false) : ∀ (n : Nat) (aL0 : Nat) (aL1 : Nat) (xL2 : Int32) (xL3 : Int32), Sm p l e { frames := 0, cells := 0, slots := 0, locals := 0 } s m args below meth c G 6 (c_Q G c_vi below args s 0 0) 0 0 2 [(0, .ref aL0), (1, .ref aL1), (2, .int xL2), (3, .int xL3)] [] (fX6_tells_2 n aL0 aL1 xL2 xL3) := by
  intro n
  induction n with
  | zero =>
    intro aL0 aL1 xL2 xL3
    exact sm_bad
  | succ n ih =>
    intro aL0 aL1 xL2 xL3
    rw [fX6_tells_2]
    refine sm_iload_n hO 3 dX6_tells_2 rfl rfl ?_
    refine sm_aload_n hO 0 dX6_tells_3 rfl rfl ?_
    refine sm_gi hO fl_RX6_9 dX6_tells_4 (fun x1 => ?_)
    refine sm_icmp_ge (tgt := 66) hO dX6_tells_7 (by decide) ?_ ?_
    · refine sm_iconst (v := 1) hO dX6_tells_66 rfl ?_
      exact sm_zret hO hr hk rfl (Nat.le_of_ble_eq_true rfl) (Nat.le_of_ble_eq_true rfl) dX6_tells_67
    · refine sm_iload_n hO 3 dX6_tells_10 rfl rfl ?_
      refine sm_iconst (v := 1) hO dX6_tells_11 rfl ?_
      refine sm_iadd hO dX6_tells_12 ?_
      refine sm_topi (fun x2 => ?_)
      refine sm_istore hO [(4, .int x2), (0, .ref aL0), (1, .ref aL1), (2, .int xL2), (3, .int xL3)] dX6_tells_13 (by decide) rfl ?_
      exact sm_sub [1, 2, 3, 4, 0] rfl (tX6_tells_15 hO hr hk (fX6_tells_60 (fX6_tells_2 n)) (tX6_tells_60 hO hr hk (fX6_tells_2 n) ih) c_fu aL0 aL1 xL2 xL3 x2)
set_option maxRecDepth 100000 in
set_option maxHeartbeats 4000000 in
theorem ctX6_tells (l : Launch) (G : cG) (a0_ : Nat) (a1_ : Nat) (x2_ : Int32) : Ct l G yX6_tells cX6_tells 6 (some .boolean) 0 0 0 0 [.ref a0_, .ref a1_, .int x2_] c_vi (pX6_tells a0_ a1_ x2_) := by
  refine Ct.of (lv := [(0, .ref a0_), (1, .ref a1_), (2, .int x2_)]) (by decide) (Nat.le_of_ble_eq_true rfl) rfl (fun p e s m args below meth c hO hr hk hin => ?_)
  rw [pX6_tells]
  refine sm_iconst (v := 0) hO dX6_tells_0 rfl ?_
  refine sm_istore_n hO [(3, .int 0), (0, .ref a0_), (1, .ref a1_), (2, .int x2_)] dX6_tells_1 rfl (by decide) rfl ?_
  exact sm_sub [1, 2, 3, 0] rfl (tX6_tells_2 hO hr hk c_fu a0_ a1_ x2_ 0)
