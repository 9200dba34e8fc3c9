/-! DollCongressModel.hasQuota(I)Z -/
def pX10_hasQuota (a0_ : Nat) (x1_ : Int32) : MM Int32 := m_cv a0_ 9 (pX10_votesOf a0_ x1_) (fun x1 => m_gi a0_ 9 7 (fun x2 => if x1 < x2 then (m_ret 0) else (m_ret 1)))
set_option maxRecDepth 100000 in
set_option maxHeartbeats 4000000 in
theorem ctX10_hasQuota (l : Launch) (G : cG) (a0_ : Nat) (x1_ : Int32) : Ct l G yX10_hasQuota cX10_hasQuota 2 (some .boolean) 2 44 0 0 [.ref a0_, .int x1_] c_vi (pX10_hasQuota a0_ x1_) := by
  refine Ct.of (lv := [(0, .ref a0_), (1, .int x1_)]) (by decide) (Nat.le_of_ble_eq_true rfl) rfl (fun p e s m args below meth c hO hr hk hin => ?_)
  rw [pX10_hasQuota]
  refine sm_aload_n hO 0 dX10_hasQuota_0 rfl rfl ?_
  refine sm_iload_n hO 1 dX10_hasQuota_1 rfl rfl ?_
  refine sm_cvi hO (ctX10_votesOf l G a0_ x1_) cw_RX10_156 cv_X10_votesOf [] rfl rfl ⟨(Nat.le_of_ble_eq_true rfl), (Nat.le_of_ble_eq_true rfl)⟩ ⟨(Nat.le_of_ble_eq_true rfl), (Nat.le_of_ble_eq_true rfl)⟩ (Nat.le_of_ble_eq_true rfl) dX10_hasQuota_2 (fun x1 => ?_)
  refine sm_aload_n hO 0 dX10_hasQuota_5 rfl rfl ?_
  refine sm_gi hO fl_RX10_160 dX10_hasQuota_6 (fun x2 => ?_)
  refine sm_icmp_lt (tgt := 16) hO dX10_hasQuota_9 (by decide) ?_ ?_
  · refine sm_iconst (v := 0) hO dX10_hasQuota_16 rfl ?_
    exact sm_zret hO hr hk rfl (Nat.le_of_ble_eq_true rfl) (Nat.le_of_ble_eq_true rfl) dX10_hasQuota_17
  · refine sm_iconst (v := 1) hO dX10_hasQuota_12 rfl ?_
    refine sm_goto (tgt := 17) hO dX10_hasQuota_13 (by decide) ?_
    exact sm_zret hO hr hk rfl (Nat.le_of_ble_eq_true rfl) (Nat.le_of_ble_eq_true rfl) dX10_hasQuota_17
/-! DollCongressModel.blocks()I -/
def fX10_blocks_33 (k38 : Nat → Int32 → Int32 → Int32 → Int32 → MM Int32) (aL0 : Nat) (xL1 : Int32) (xL2 : Int32) (xL3 : Int32) : MM Int32 := k38 aL0 xL1 xL2 xL3 1
def fX10_blocks_61 (k62 : Nat → Int32 → Int32 → Int32 → MM Int32) (aL0 : Nat) (xL1 : Int32) (xL2 : Int32) (xL3 : Int32) : MM Int32 := k62 aL0 xL2 xL3 xL1
def fX10_blocks_62 (k13 : Nat → Int32 → Int32 → Int32 → MM Int32) (aL0 : Nat) (xL2 : Int32) (xL3 : Int32) (xS0 : Int32) : MM Int32 := m_let (xL3 + 1) (fun x1 => k13 aL0 xS0 xL2 x1)
def fX10_blocks_38 (k13 : Nat → Int32 → Int32 → Int32 → MM Int32) (aL0 : Nat) (xL1 : Int32) (xL2 : Int32) (xL3 : Int32) (xS0 : Int32) : MM Int32 := if xS0 = 0 then (fX10_blocks_61 (fX10_blocks_62 k13) aL0 xL1 xL2 xL3) else (m_cv aL0 9 (pX10_hasQuota aL0 (xL2 &&& (xL3 ^^^ ((-1))))) (fun x1 => if x1 = 0 then (fX10_blocks_62 k13 aL0 xL2 xL3 xL3) else (fX10_blocks_61 (fX10_blocks_62 k13) aL0 xL1 xL2 xL3)))
def fX10_blocks_13  : Nat → Nat → Int32 → Int32 → Int32 → MM Int32
  | 0, _, _, _, _ => m_bad
  | n + 1, aL0, xL1, xL2, xL3 => if xL2 < xL3 then (m_ret xL1) else (if xL1 < 0 then (fX10_blocks_33 (fX10_blocks_38 (fX10_blocks_13 n)) aL0 xL1 xL2 xL3) else (m_bind (pX10_bits xL3) (fun x1 => m_bind (pX10_bits xL1) (fun x2 => if x2 ≤ x1 then (fX10_blocks_38 (fX10_blocks_13 n) aL0 xL1 xL2 xL3 0) else (fX10_blocks_33 (fX10_blocks_38 (fX10_blocks_13 n)) aL0 xL1 xL2 xL3)))))
def pX10_blocks (a0_ : Nat) : MM Int32 := m_gi a0_ 9 0 (fun x1 => m_let (((1 : Int32) <<< (x1 &&& 31)) - 1) (fun x2 => fX10_blocks_13 c_fu a0_ ((-1)) x2 0))
set_option maxRecDepth 100000 in
set_option maxHeartbeats 4000000 in
theorem tX10_blocks_33 {p : Program} {l : Launch} {e : Env} {s : State} {m : MethodId} {args : Array Value} {below : List Frame} {meth : Method} {c : Code} {G : cG} (hO : c_Ok p s m c cX10_blocks 5 RX10 G) (hr : meth.sig.returnType = (some .int)) (hk : meth.locks = false) (k38 : Nat → Int32 → Int32 → Int32 → Int32 → MM Int32) (hk38 : ∀ (aL0 : Nat) (xL1 : Int32) (xL2 : Int32) (xL3 : Int32) (xS0 : Int32), Sm p l e { frames := 3, cells := 0, slots := 0, locals := 65 } s m args below meth c G 5 (c_Q G c_vi below args s 0 0) 0 0 38 [(0, .ref aL0), (1, .int xL1), (2, .int xL2), (3, .int xL3)] [.int xS0] (k38 aL0 xL1 xL2 xL3 xS0))  : ∀ (aL0 : Nat) (xL1 : Int32) (xL2 : Int32) (xL3 : Int32), Sm p l e { frames := 3, cells := 0, slots := 0, locals := 65 } s m args below meth c G 5 (c_Q G c_vi below args s 0 0) 0 0 33 [(0, .ref aL0), (1, .int xL1), (2, .int xL2), (3, .int xL3)] [] (fX10_blocks_33 k38 aL0 xL1 xL2 xL3) := by
  intro aL0 xL1 xL2 xL3
  rw [fX10_blocks_33]
  refine sm_iconst (v := 1) hO dX10_blocks_33 rfl ?_
  refine sm_goto (tgt := 38) hO dX10_blocks_34 (by decide) ?_
  exact sm_sub [0, 1, 2, 3] rfl (hk38 aL0 xL1 xL2 xL3 1)
set_option maxRecDepth 100000 in
set_option maxHeartbeats 4000000 in
theorem tX10_blocks_61 {p : Program} {l : Launch} {e : Env} {s : State} {m : MethodId} {args : Array Value} {below : List Frame} {meth : Method} {c : Code} {G : cG} (hO : c_Ok p s m c cX10_blocks 5 RX10 G) (hr : meth.sig.returnType = (some .int)) (hk : meth.locks = false) (k62 : Nat → Int32 → Int32 → Int32 → MM Int32) (hk62 : ∀ (aL0 : Nat) (xL2 : Int32) (xL3 : Int32) (xS0 : Int32), Sm p l e { frames := 3, cells := 0, slots := 0, locals := 65 } s m args below meth c G 5 (c_Q G c_vi below args s 0 0) 0 0 62 [(0, .ref aL0), (2, .int xL2), (3, .int xL3)] [.int xS0] (k62 aL0 xL2 xL3 xS0))  : ∀ (aL0 : Nat) (xL1 : Int32) (xL2 : Int32) (xL3 : Int32), Sm p l e { frames := 3, cells := 0, slots := 0, locals := 65 } s m args below meth c G 5 (c_Q G c_vi below args s 0 0) 0 0 61 [(0, .ref aL0), (1, .int xL1), (2, .int xL2), (3, .int xL3)] [] (fX10_blocks_61 k62 aL0 xL1 xL2 xL3) := by
  intro aL0 xL1 xL2 xL3
  rw [fX10_blocks_61]
  refine sm_iload_n hO 1 dX10_blocks_61 rfl rfl ?_
  exact sm_sub [0, 2, 3] rfl (hk62 aL0 xL2 xL3 xL1)
set_option maxRecDepth 100000 in
set_option maxHeartbeats 4000000 in
theorem tX10_blocks_62 {p : Program} {l : Launch} {e : Env} {s : State} {m : MethodId} {args : Array Value} {below : List Frame} {meth : Method} {c : Code} {G : cG} (hO : c_Ok p s m c cX10_blocks 5 RX10 G) (hr : meth.sig.returnType = (some .int)) (hk : meth.locks = false) (k13 : Nat → Int32 → Int32 → Int32 → MM Int32) (hk13 : ∀ (aL0 : Nat) (xL1 : Int32) (xL2 : Int32) (xL3 : Int32), Sm p l e { frames := 3, cells := 0, slots := 0, locals := 65 } s m args below meth c G 5 (c_Q G c_vi below args s 0 0) 0 0 13 [(0, .ref aL0), (1, .int xL1), (2, .int xL2), (3, .int xL3)] [] (k13 aL0 xL1 xL2 xL3))  : ∀ (aL0 : Nat) (xL2 : Int32) (xL3 : Int32) (xS0 : Int32), Sm p l e { frames := 3, cells := 0, slots := 0, locals := 65 } s m args below meth c G 5 (c_Q G c_vi below args s 0 0) 0 0 62 [(0, .ref aL0), (2, .int xL2), (3, .int xL3)] [.int xS0] (fX10_blocks_62 k13 aL0 xL2 xL3 xS0) := by
  intro aL0 xL2 xL3 xS0
  rw [fX10_blocks_62]
  refine sm_istore_n hO [(1, .int xS0), (0, .ref aL0), (2, .int xL2), (3, .int xL3)] dX10_blocks_62 rfl (by decide) rfl ?_
  refine sm_iincL (v := xL3 + 1) hO 3 (fun x1 => [(3, .int x1), (1, .int xS0), (0, .ref aL0), (2, .int xL2)]) dX10_blocks_63 rfl rfl (by decide) (fun _ => rfl) (fun x1 => ?_)
  refine sm_goto (tgt := 13) hO dX10_blocks_66 (by decide) ?_
  exact sm_sub [2, 1, 3, 0] rfl (hk13 aL0 xS0 xL2 x1)
set_option maxRecDepth 100000 in
set_option maxHeartbeats 4000000 in
theorem tX10_blocks_38 {p : Program} {l : Launch} {e : Env} {s : State} {m : MethodId} {args : Array Value} {below : List Frame} {meth : Method} {c : Code} {G : cG} (hO : c_Ok p s m c cX10_blocks 5 RX10 G) (hr : meth.sig.returnType = (some .int)) (hk : meth.locks = false) (k13 : Nat → Int32 → Int32 → Int32 → MM Int32) (hk13 : ∀ (aL0 : Nat) (xL1 : Int32) (xL2 : Int32) (xL3 : Int32), Sm p l e { frames := 3, cells := 0, slots := 0, locals := 65 } s m args below meth c G 5 (c_Q G c_vi below args s 0 0) 0 0 13 [(0, .ref aL0), (1, .int xL1), (2, .int xL2), (3, .int xL3)] [] (k13 aL0 xL1 xL2 xL3))  : ∀ (aL0 : Nat) (xL1 : Int32) (xL2 : Int32) (xL3 : Int32) (xS0 : Int32), Sm p l e { frames := 3, cells := 0, slots := 0, locals := 65 } s m args below meth c G 5 (c_Q G c_vi below args s 0 0) 0 0 38 [(0, .ref aL0), (1, .int xL1), (2, .int xL2), (3, .int xL3)] [.int xS0] (fX10_blocks_38 k13 aL0 xL1 xL2 xL3 xS0) := by
  intro aL0 xL1 xL2 xL3 xS0
  rw [fX10_blocks_38]
  refine sm_istore hO [(4, .int xS0), (0, .ref aL0), (1, .int xL1), (2, .int xL2), (3, .int xL3)] dX10_blocks_38 (by decide) rfl ?_
  refine sm_iload hO 0 dX10_blocks_40 rfl ?_
  refine sm_if_eq (tgt := 61) hO dX10_blocks_42 (by decide) ?_ ?_
  · exact sm_sub [1, 2, 3, 4] rfl (tX10_blocks_61 hO hr hk (fX10_blocks_62 k13) (tX10_blocks_62 hO hr hk k13 hk13) aL0 xL1 xL2 xL3)
  · refine sm_aload_n hO 1 dX10_blocks_45 rfl rfl ?_
    refine sm_iload_n hO 3 dX10_blocks_46 rfl rfl ?_
    refine sm_iload_n hO 4 dX10_blocks_47 rfl rfl ?_
    refine sm_iconst (v := (-1)) hO dX10_blocks_48 rfl ?_
    refine sm_ixor hO dX10_blocks_49 ?_
    refine sm_iand hO dX10_blocks_50 ?_
    refine sm_cvi hO (ctX10_hasQuota l G aL0 (xL2 &&& (xL3 ^^^ ((-1))))) cw_RX10_185 cv_X10_hasQuota [] rfl rfl ⟨(Nat.le_of_ble_eq_true rfl), (Nat.le_of_ble_eq_true rfl)⟩ ⟨(Nat.le_of_ble_eq_true rfl), (Nat.le_of_ble_eq_true rfl)⟩ (Nat.le_of_ble_eq_true rfl) dX10_blocks_51 (fun x1 => ?_)
    refine sm_if_ne (tgt := 61) hO dX10_blocks_54 (by decide) ?_ ?_
    · exact sm_sub [1, 2, 3, 4] rfl (tX10_blocks_61 hO hr hk (fX10_blocks_62 k13) (tX10_blocks_62 hO hr hk k13 hk13) aL0 xL1 xL2 xL3)
    · refine sm_iload_n hO 4 dX10_blocks_57 rfl rfl ?_
      refine sm_goto (tgt := 62) hO dX10_blocks_58 (by decide) ?_
      exact sm_sub [1, 3, 4] rfl (tX10_blocks_62 hO hr hk k13 hk13 aL0 xL2 xL3 xL3)
set_option maxRecDepth 100000 in
set_option maxHeartbeats 4000000 in
theorem tX10_blocks_13 {p : Program} {l : Launch} {e : Env} {s : State} {m : MethodId} {args : Array Value} {below : List Frame} {meth : Method} {c : Code} {G : cG} (hO : c_Ok p s m c cX10_blocks 5 RX10 G) (hr : meth.sig.returnType = (some .int)) (hk : meth.locks = false) : ∀ (n : Nat) (aL0 : Nat) (xL1 : Int32) (xL2 : Int32) (xL3 : Int32), Sm p l e { frames := 3, cells := 0, slots := 0, locals := 65 } s m args below meth c G 5 (c_Q G c_vi below args s 0 0) 0 0 13 [(0, .ref aL0), (1, .int xL1), (2, .int xL2), (3, .int xL3)] [] (fX10_blocks_13 n aL0 xL1 xL2 xL3) := by
  intro n
  induction n with
  | zero =>
    intro aL0 xL1 xL2 xL3
    exact sm_bad
  | succ n ih =>
    intro aL0 xL1 xL2 xL3
    rw [fX10_blocks_13]
    refine sm_iload_n hO 3 dX10_blocks_13 rfl rfl ?_
    refine sm_iload_n hO 2 dX10_blocks_14 rfl rfl ?_
    refine sm_icmp_gt (tgt := 69) hO dX10_blocks_15 (by decide) ?_ ?_
    · refine sm_iload_n hO 1 dX10_blocks_69 rfl rfl ?_
      exact sm_iret hO hr hk (Nat.le_of_ble_eq_true rfl) (Nat.le_of_ble_eq_true rfl) dX10_blocks_70
    · refine sm_iload_n hO 1 dX10_blocks_18 rfl rfl ?_
      refine sm_if_lt (tgt := 33) hO dX10_blocks_19 (by decide) ?_ ?_
      · exact sm_sub [0, 1, 2, 3] rfl (tX10_blocks_33 hO hr hk (fX10_blocks_38 (fX10_blocks_13 n)) (tX10_blocks_38 hO hr hk (fX10_blocks_13 n) ih) aL0 xL1 xL2 xL3)
      · refine sm_iload_n hO 3 dX10_blocks_22 rfl rfl ?_
        refine sm_csi hO (ctX10_bits l G xL3) cw_RX10_188 kw_1004 [] rfl rfl ⟨(Nat.le_of_ble_eq_true rfl), (Nat.le_of_ble_eq_true rfl)⟩ ⟨(Nat.le_of_ble_eq_true rfl), (Nat.le_of_ble_eq_true rfl)⟩ (Nat.le_of_ble_eq_true rfl) dX10_blocks_23 (fun x1 => ?_)
        refine sm_iload_n hO 1 dX10_blocks_26 rfl rfl ?_
        refine sm_csi hO (ctX10_bits l G xL1) cw_RX10_188 kw_1004 [.int x1] rfl rfl ⟨(Nat.le_of_ble_eq_true rfl), (Nat.le_of_ble_eq_true rfl)⟩ ⟨(Nat.le_of_ble_eq_true rfl), (Nat.le_of_ble_eq_true rfl)⟩ (Nat.le_of_ble_eq_true rfl) dX10_blocks_27 (fun x2 => ?_)
        refine sm_icmp_ge (tgt := 37) hO dX10_blocks_30 (by decide) ?_ ?_
        · refine sm_iconst (v := 0) hO dX10_blocks_37 rfl ?_
          exact sm_sub [0, 1, 2, 3] rfl (tX10_blocks_38 hO hr hk (fX10_blocks_13 n) ih aL0 xL1 xL2 xL3 0)
        · exact sm_sub [0, 1, 2, 3] rfl (tX10_blocks_33 hO hr hk (fX10_blocks_38 (fX10_blocks_13 n)) (tX10_blocks_38 hO hr hk (fX10_blocks_13 n) ih) aL0 xL1 xL2 xL3)
set_option maxRecDepth 100000 in
set_option maxHeartbeats 4000000 in
theorem ctX10_blocks (l : Launch) (G : cG) (a0_ : Nat) : Ct l G yX10_blocks cX10_blocks 5 (some .int) 3 65 0 0 [.ref a0_] c_vi (pX10_blocks a0_) := by
  refine Ct.of (lv := [(0, .ref a0_)]) (by decide) (Nat.le_of_ble_eq_true rfl) rfl (fun p e s m args below meth c hO hr hk hin => ?_)
  rw [pX10_blocks]
  refine sm_iconst (v := (-1)) hO dX10_blocks_0 rfl ?_
  refine sm_istore_n hO [(1, .int ((-1))), (0, .ref a0_)] dX10_blocks_1 rfl (by decide) rfl ?_
  refine sm_iconst (v := 1) hO dX10_blocks_2 rfl ?_
  refine sm_aload_n hO 1 dX10_blocks_3 rfl rfl ?_
  refine sm_gi hO fl_RX10_72 dX10_blocks_4 (fun x1 => ?_)
  refine sm_ishl hO dX10_blocks_7 ?_
  refine sm_iconst (v := 1) hO dX10_blocks_8 rfl ?_
  refine sm_isub hO dX10_blocks_9 ?_
  refine sm_topi (fun x2 => ?_)
  refine sm_istore_n hO [(2, .int x2), (1, .int ((-1))), (0, .ref a0_)] dX10_blocks_10 rfl (by decide) rfl ?_
  refine sm_iconst (v := 0) hO dX10_blocks_11 rfl ?_
  refine sm_istore_n hO [(3, .int 0), (2, .int x2), (1, .int ((-1))), (0, .ref a0_)] dX10_blocks_12 rfl (by decide) rfl ?_
  exact sm_sub [3, 2, 1, 0] rfl (tX10_blocks_13 hO hr hk c_fu a0_ ((-1)) x2 0)
/-! DollCongressModel.fewest()I -/
def fX10_fewest_36 (k41 : Nat → Int32 → Int32 → Int32 → MM Int32) (aL0 : Nat) (xL1 : Int32) (xL2 : Int32) : MM Int32 := k41 aL0 xL1 xL2 1
def fX10_fewest_58 (k59 : Nat → Int32 → Int32 → MM Int32) (aL0 : Nat) (xL1 : Int32) (xL2 : Int32) : MM Int32 := k59 aL0 xL2 xL1
def fX10_fewest_59 (k4 : Nat → Int32 → Int32 → MM Int32) (aL0 : Nat) (xL2 : Int32) (xS0 : Int32) : MM Int32 := m_let (xL2 + 1) (fun x1 => k4 aL0 xS0 x1)
def fX10_fewest_41 (k4 : Nat → Int32 → Int32 → MM Int32) (aL0 : Nat) (xL1 : Int32) (xL2 : Int32) (xS0 : Int32) : MM Int32 := if xS0 = 0 then (fX10_fewest_58 (fX10_fewest_59 k4) aL0 xL1 xL2) else (m_cv aL0 9 (pX10_hasQuota aL0 xL2) (fun x1 => if x1 = 0 then (fX10_fewest_58 (fX10_fewest_59 k4) aL0 xL1 xL2) else (fX10_fewest_59 k4 aL0 xL2 xL2)))
def fX10_fewest_4  : Nat → Nat → Int32 → Int32 → MM Int32
  | 0, _, _, _ => m_bad
  | n + 1, aL0, xL1, xL2 => m_gi aL0 9 0 (fun x1 => if ((1 : Int32) <<< (x1 &&& 31)) ≤ xL2 then (m_ret xL1) else (m_gi aL0 9 0 (fun x2 => if x2 ≤ 0 then (m_ret xL1) else (if xL1 < 0 then (fX10_fewest_36 (fX10_fewest_41 (fX10_fewest_4 n)) aL0 xL1 xL2) else (m_bind (pX10_bits xL2) (fun x3 => m_bind (pX10_bits xL1) (fun x4 => if x4 ≤ x3 then (fX10_fewest_41 (fX10_fewest_4 n) aL0 xL1 xL2 0) else (fX10_fewest_36 (fX10_fewest_41 (fX10_fewest_4 n)) aL0 xL1 xL2))))))))
def pX10_fewest (a0_ : Nat) : MM Int32 := fX10_fewest_4 c_fu a0_ ((-1)) 0
set_option maxRecDepth 100000 in
set_option maxHeartbeats 4000000 in
theorem tX10_fewest_36 {p : Program} {l : Launch} {e : Env} {s : State} {m : MethodId} {args : Array Value} {below : List Frame} {meth : Method} {c : Code} {G : cG} (hO : c_Ok p s m c cX10_fewest 4 RX10 G) (hr : meth.sig.returnType = (some .int)) (hk : meth.locks = false) (k41 : Nat → Int32 → Int32 → Int32 → MM Int32) (hk41 : ∀ (aL0 : Nat) (xL1 : Int32) (xL2 : Int32) (xS0 : Int32), Sm p l e { frames := 3, cells := 0, slots := 0, locals := 65 } s m args below meth c G 4 (c_Q G c_vi below args s 0 0) 0 0 41 [(0, .ref aL0), (1, .int xL1), (2, .int xL2)] [.int xS0] (k41 aL0 xL1 xL2 xS0))  : ∀ (aL0 : Nat) (xL1 : Int32) (xL2 : Int32), Sm p l e { frames := 3, cells := 0, slots := 0, locals := 65 } s m args below meth c G 4 (c_Q G c_vi below args s 0 0) 0 0 36 [(0, .ref aL0), (1, .int xL1), (2, .int xL2)] [] (fX10_fewest_36 k41 aL0 xL1 xL2) := by
  intro aL0 xL1 xL2
  rw [fX10_fewest_36]
  refine sm_iconst (v := 1) hO dX10_fewest_36 rfl ?_
  refine sm_goto (tgt := 41) hO dX10_fewest_37 (by decide) ?_
  exact sm_sub [0, 1, 2] rfl (hk41 aL0 xL1 xL2 1)
set_option maxRecDepth 100000 in
set_option maxHeartbeats 4000000 in
theorem tX10_fewest_58 {p : Program} {l : Launch} {e : Env} {s : State} {m : MethodId} {args : Array Value} {below : List Frame} {meth : Method} {c : Code} {G : cG} (hO : c_Ok p s m c cX10_fewest 4 RX10 G) (hr : meth.sig.returnType = (some .int)) (hk : meth.locks = false) (k59 : Nat → Int32 → Int32 → MM Int32) (hk59 : ∀ (aL0 : Nat) (xL2 : Int32) (xS0 : Int32), Sm p l e { frames := 3, cells := 0, slots := 0, locals := 65 } s m args below meth c G 4 (c_Q G c_vi below args s 0 0) 0 0 59 [(0, .ref aL0), (2, .int xL2)] [.int xS0] (k59 aL0 xL2 xS0))  : ∀ (aL0 : Nat) (xL1 : Int32) (xL2 : Int32), Sm p l e { frames := 3, cells := 0, slots := 0, locals := 65 } s m args below meth c G 4 (c_Q G c_vi below args s 0 0) 0 0 58 [(0, .ref aL0), (1, .int xL1), (2, .int xL2)] [] (fX10_fewest_58 k59 aL0 xL1 xL2) := by
  intro aL0 xL1 xL2
  rw [fX10_fewest_58]
  refine sm_iload_n hO 1 dX10_fewest_58 rfl rfl ?_
  exact sm_sub [0, 2] rfl (hk59 aL0 xL2 xL1)
set_option maxRecDepth 100000 in
set_option maxHeartbeats 4000000 in
theorem tX10_fewest_59 {p : Program} {l : Launch} {e : Env} {s : State} {m : MethodId} {args : Array Value} {below : List Frame} {meth : Method} {c : Code} {G : cG} (hO : c_Ok p s m c cX10_fewest 4 RX10 G) (hr : meth.sig.returnType = (some .int)) (hk : meth.locks = false) (k4 : Nat → Int32 → Int32 → MM Int32) (hk4 : ∀ (aL0 : Nat) (xL1 : Int32) (xL2 : Int32), Sm p l e { frames := 3, cells := 0, slots := 0, locals := 65 } s m args below meth c G 4 (c_Q G c_vi below args s 0 0) 0 0 4 [(0, .ref aL0), (1, .int xL1), (2, .int xL2)] [] (k4 aL0 xL1 xL2))  : ∀ (aL0 : Nat) (xL2 : Int32) (xS0 : Int32), Sm p l e { frames := 3, cells := 0, slots := 0, locals := 65 } s m args below meth c G 4 (c_Q G c_vi below args s 0 0) 0 0 59 [(0, .ref aL0), (2, .int xL2)] [.int xS0] (fX10_fewest_59 k4 aL0 xL2 xS0) := by
  intro aL0 xL2 xS0
  rw [fX10_fewest_59]
  refine sm_istore_n hO [(1, .int xS0), (0, .ref aL0), (2, .int xL2)] dX10_fewest_59 rfl (by decide) rfl ?_
  refine sm_iincL (v := xL2 + 1) hO 2 (fun x1 => [(2, .int x1), (1, .int xS0), (0, .ref aL0)]) dX10_fewest_60 rfl rfl (by decide) (fun _ => rfl) (fun x1 => ?_)
  refine sm_goto (tgt := 4) hO dX10_fewest_63 (by decide) ?_
  exact sm_sub [2, 1, 0] rfl (hk4 aL0 xS0 x1)
set_option maxRecDepth 100000 in
set_option maxHeartbeats 4000000 in
theorem tX10_fewest_41 {p : Program} {l : Launch} {e : Env} {s : State} {m : MethodId} {args : Array Value} {below : List Frame} {meth : Method} {c : Code} {G : cG} (hO : c_Ok p s m c cX10_fewest 4 RX10 G) (hr : meth.sig.returnType = (some .int)) (hk : meth.locks = false) (k4 : Nat → Int32 → Int32 → MM Int32) (hk4 : ∀ (aL0 : Nat) (xL1 : Int32) (xL2 : Int32), Sm p l e { frames := 3, cells := 0, slots := 0, locals := 65 } s m args below meth c G 4 (c_Q G c_vi below args s 0 0) 0 0 4 [(0, .ref aL0), (1, .int xL1), (2, .int xL2)] [] (k4 aL0 xL1 xL2))  : ∀ (aL0 : Nat) (xL1 : Int32) (xL2 : Int32) (xS0 : Int32), Sm p l e { frames := 3, cells := 0, slots := 0, locals := 65 } s m args below meth c G 4 (c_Q G c_vi below args s 0 0) 0 0 41 [(0, .ref aL0), (1, .int xL1), (2, .int xL2)] [.int xS0] (fX10_fewest_41 k4 aL0 xL1 xL2 xS0) := by
  intro aL0 xL1 xL2 xS0
  rw [fX10_fewest_41]
  refine sm_istore_n hO [(3, .int xS0), (0, .ref aL0), (1, .int xL1), (2, .int xL2)] dX10_fewest_41 rfl (by decide) rfl ?_
  refine sm_iload_n hO 0 dX10_fewest_42 rfl rfl ?_
  refine sm_if_eq (tgt := 58) hO dX10_fewest_43 (by decide) ?_ ?_
  · exact sm_sub [1, 2, 3] rfl (tX10_fewest_58 hO hr hk (fX10_fewest_59 k4) (tX10_fewest_59 hO hr hk k4 hk4) aL0 xL1 xL2)
  · refine sm_aload_n hO 1 dX10_fewest_46 rfl rfl ?_
    refine sm_iload_n hO 3 dX10_fewest_47 rfl rfl ?_
    refine sm_cvi hO (ctX10_hasQuota l G aL0 xL2) cw_RX10_185 cv_X10_hasQuota [] rfl rfl ⟨(Nat.le_of_ble_eq_true rfl), (Nat.le_of_ble_eq_true rfl)⟩ ⟨(Nat.le_of_ble_eq_true rfl), (Nat.le_of_ble_eq_true rfl)⟩ (Nat.le_of_ble_eq_true rfl) dX10_fewest_48 (fun x1 => ?_)
    refine sm_if_eq (tgt := 58) hO dX10_fewest_51 (by decide) ?_ ?_
    · exact sm_sub [1, 2, 3] rfl (tX10_fewest_58 hO hr hk (fX10_fewest_59 k4) (tX10_fewest_59 hO hr hk k4 hk4) aL0 xL1 xL2)
    · refine sm_iload_n hO 3 dX10_fewest_54 rfl rfl ?_
      refine sm_goto (tgt := 59) hO dX10_fewest_55 (by decide) ?_
      exact sm_sub [1, 3] rfl (tX10_fewest_59 hO hr hk k4 hk4 aL0 xL2 xL2)
set_option maxRecDepth 100000 in
set_option maxHeartbeats 4000000 in
theorem tX10_fewest_4 {p : Program} {l : Launch} {e : Env} {s : State} {m : MethodId} {args : Array Value} {below : List Frame} {meth : Method} {c : Code} {G : cG} (hO : c_Ok p s m c cX10_fewest 4 RX10 G) (hr : meth.sig.returnType = (some .int)) (hk : meth.locks = false) : ∀ (n : Nat) (aL0 : Nat) (xL1 : Int32) (xL2 : Int32), Sm p l e { frames := 3, cells := 0, slots := 0, locals := 65 } s m args below meth c G 4 (c_Q G c_vi below args s 0 0) 0 0 4 [(0, .ref aL0), (1, .int xL1), (2, .int xL2)] [] (fX10_fewest_4 n aL0 xL1 xL2) := by
  intro n
  induction n with
  | zero =>
    intro aL0 xL1 xL2
    exact sm_bad
  | succ n ih =>
    intro aL0 xL1 xL2
    rw [fX10_fewest_4]
    refine sm_iload_n hO 2 dX10_fewest_4 rfl rfl ?_
    refine sm_iconst (v := 1) hO dX10_fewest_5 rfl ?_
    refine sm_aload_n hO 0 dX10_fewest_6 rfl rfl ?_
    refine sm_gi hO fl_RX10_72 dX10_fewest_7 (fun x1 => ?_)
    refine sm_ishl hO dX10_fewest_10 ?_
    refine sm_icmp_ge (tgt := 66) hO dX10_fewest_11 (by decide) ?_ ?_
    · refine sm_iload_n hO 1 dX10_fewest_66 rfl rfl ?_
      exact sm_iret hO hr hk (Nat.le_of_ble_eq_true rfl) (Nat.le_of_ble_eq_true rfl) dX10_fewest_67
    · refine sm_aload_n hO 0 dX10_fewest_14 rfl rfl ?_
      refine sm_gi hO fl_RX10_72 dX10_fewest_15 (fun x2 => ?_)
      refine sm_if_le (tgt := 66) hO dX10_fewest_18 (by decide) ?_ ?_
      · refine sm_iload_n hO 1 dX10_fewest_66 rfl rfl ?_
        exact sm_iret hO hr hk (Nat.le_of_ble_eq_true rfl) (Nat.le_of_ble_eq_true rfl) dX10_fewest_67
      · refine sm_iload_n hO 1 dX10_fewest_21 rfl rfl ?_
        refine sm_if_lt (tgt := 36) hO dX10_fewest_22 (by decide) ?_ ?_
        · exact sm_sub [0, 1, 2] rfl (tX10_fewest_36 hO hr hk (fX10_fewest_41 (fX10_fewest_4 n)) (tX10_fewest_41 hO hr hk (fX10_fewest_4 n) ih) aL0 xL1 xL2)
        · refine sm_iload_n hO 2 dX10_fewest_25 rfl rfl ?_
          refine sm_csi hO (ctX10_bits l G xL2) cw_RX10_188 kw_1004 [] rfl rfl ⟨(Nat.le_of_ble_eq_true rfl), (Nat.le_of_ble_eq_true rfl)⟩ ⟨(Nat.le_of_ble_eq_true rfl), (Nat.le_of_ble_eq_true rfl)⟩ (Nat.le_of_ble_eq_true rfl) dX10_fewest_26 (fun x3 => ?_)
          refine sm_iload_n hO 1 dX10_fewest_29 rfl rfl ?_
          refine sm_csi hO (ctX10_bits l G xL1) cw_RX10_188 kw_1004 [.int x3] rfl rfl ⟨(Nat.le_of_ble_eq_true rfl), (Nat.le_of_ble_eq_true rfl)⟩ ⟨(Nat.le_of_ble_eq_true rfl), (Nat.le_of_ble_eq_true rfl)⟩ (Nat.le_of_ble_eq_true rfl) dX10_fewest_30 (fun x4 => ?_)
          refine sm_icmp_ge (tgt := 40) hO dX10_fewest_33 (by decide) ?_ ?_
          · refine sm_iconst (v := 0) hO dX10_fewest_40 rfl ?_
            exact sm_sub [0, 1, 2] rfl (tX10_fewest_41 hO hr hk (fX10_fewest_4 n) ih aL0 xL1 xL2 0)
          · exact sm_sub [0, 1, 2] rfl (tX10_fewest_36 hO hr hk (fX10_fewest_41 (fX10_fewest_4 n)) (tX10_fewest_41 hO hr hk (fX10_fewest_4 n) ih) aL0 xL1 xL2)
set_option maxRecDepth 100000 in
set_option maxHeartbeats 4000000 in
theorem ctX10_fewest (l : Launch) (G : cG) (a0_ : Nat) : Ct l G yX10_fewest cX10_fewest 4 (some .int) 3 65 0 0 [.ref a0_] c_vi (pX10_fewest a0_) := by
  refine Ct.of (lv := [(0, .ref a0_)]) (by decide) (Nat.le_of_ble_eq_true rfl) rfl (fun p e s m args below meth c hO hr hk hin => ?_)
  rw [pX10_fewest]
  refine sm_iconst (v := (-1)) hO dX10_fewest_0 rfl ?_
  refine sm_istore_n hO [(1, .int ((-1))), (0, .ref a0_)] dX10_fewest_1 rfl (by decide) rfl ?_
  refine sm_iconst (v := 0) hO dX10_fewest_2 rfl ?_
  refine sm_istore_n hO [(2, .int 0), (1, .int ((-1))), (0, .ref a0_)] dX10_fewest_3 rfl (by decide) rfl ?_
  exact sm_sub [2, 1, 0] rfl (tX10_fewest_4 hO hr hk c_fu a0_ ((-1)) 0)
/-! DollCongressModel.told(I)I -/
def pX10_told (a0_ : Nat) (x1_ : Int32) : MM Int32 := if x1_ = 0 then (m_gi a0_ 9 0 (fun x21 => m_ret x21)) else (if x1_ = 1 then (m_gi a0_ 9 2 (fun x20 => m_ret x20)) else (if x1_ = 2 then (m_gi a0_ 9 11 (fun x19 => m_ret x19)) else (if x1_ = 3 then (m_gi a0_ 9 6 (fun x18 => m_ret x18)) else (if x1_ = 4 then (m_gi a0_ 9 7 (fun x17 => m_ret x17)) else (if x1_ = 5 then (m_gr a0_ 9 8 (fun a15 => m_li 0 a15 (33 : Int32) (fun x16 => m_ret x16))) else (if x1_ = 6 then (m_gr a0_ 9 8 (fun a13 => m_li 0 a13 (8 : Int32) (fun x14 => m_ret x14))) else (if x1_ = 7 then (m_cv a0_ 9 (pX10_wrongOnes a0_) (fun x12 => m_ret x12)) else (if x1_ = 8 then (m_cv a0_ 9 (pX10_closeOnes a0_ (0 : Int32)) (fun x11 => m_ret x11)) else (if x1_ = 9 then (m_cv a0_ 9 (pX10_noddingOnes a0_) (fun x10 => m_ret x10)) else (if x1_ = 10 then (m_gr a0_ 9 8 (fun a8 => m_li 0 a8 (34 : Int32) (fun x9 => m_ret x9))) else (if x1_ = 11 then (m_gr a0_ 9 8 (fun a6 => m_li 0 a6 (35 : Int32) (fun x7 => m_ret x7))) else (if x1_ = 12 then (m_cv a0_ 9 (pX10_tellingOnes a0_) (fun x5 => m_ret x5)) else (if x1_ = 13 then (m_cv a0_ 9 (pX10_blocks a0_) (fun x4 => m_ret x4)) else (if x1_ = 14 then (m_cv a0_ 9 (pX10_fewest a0_) (fun x3 => m_ret x3)) else (if x1_ = 15 then (m_gi a0_ 9 31 (fun x2 => m_ret x2)) else (if x1_ = 16 then (m_gi a0_ 9 25 (fun x1 => m_ret x1)) else (m_ret ((-1000000002) : Int32))))))))))))))))))
set_option maxRecDepth 100000 in
set_option maxHeartbeats 4000000 in
theorem ctX10_told (l : Launch) (G : cG) (a0_ : Nat) (x1_ : Int32) : Ct l G yX10_told cX10_told 2 (some .int) 4 89 0 0 [.ref a0_, .int x1_] c_vi (pX10_told a0_ x1_) := by
  refine Ct.of (lv := [(0, .ref a0_), (1, .int x1_)]) (by decide) (Nat.le_of_ble_eq_true rfl) rfl (fun p e s m args below meth c hO hr hk hin => ?_)
  rw [pX10_told]
  refine sm_iload_n hO 1 dX10_told_0 rfl rfl ?_
  refine sm_ite (fun q1_0 => ?_) (fun q1_0 => ?_)
  · refine sm_tabIn (tgt := 84) hO dX10_told_1 q1_0 (by decide) (by decide) rfl (by decide) ?_
    refine sm_aload_n hO 0 dX10_told_84 rfl rfl ?_
    refine sm_gi hO fl_RX10_72 dX10_told_85 (fun x21 => ?_)
    exact sm_iret hO hr hk (Nat.le_of_ble_eq_true rfl) (Nat.le_of_ble_eq_true rfl) dX10_told_88
  · refine sm_ite (fun q1_1 => ?_) (fun q1_1 => ?_)
    · refine sm_tabIn (tgt := 89) hO dX10_told_1 q1_1 (by decide) (by decide) rfl (by decide) ?_
      refine sm_aload_n hO 0 dX10_told_89 rfl rfl ?_
      refine sm_gi hO fl_RX10_79 dX10_told_90 (fun x20 => ?_)
      exact sm_iret hO hr hk (Nat.le_of_ble_eq_true rfl) (Nat.le_of_ble_eq_true rfl) dX10_told_93
    · refine sm_ite (fun q1_2 => ?_) (fun q1_2 => ?_)
      · refine sm_tabIn (tgt := 94) hO dX10_told_1 q1_2 (by decide) (by decide) rfl (by decide) ?_
        refine sm_aload_n hO 0 dX10_told_94 rfl rfl ?_
        refine sm_gi hO fl_RX10_85 dX10_told_95 (fun x19 => ?_)
        exact sm_iret hO hr hk (Nat.le_of_ble_eq_true rfl) (Nat.le_of_ble_eq_true rfl) dX10_told_98
      · refine sm_ite (fun q1_3 => ?_) (fun q1_3 => ?_)
        · refine sm_tabIn (tgt := 99) hO dX10_told_1 q1_3 (by decide) (by decide) rfl (by decide) ?_
          refine sm_aload_n hO 0 dX10_told_99 rfl rfl ?_
          refine sm_gi hO fl_RX10_149 dX10_told_100 (fun x18 => ?_)
          exact sm_iret hO hr hk (Nat.le_of_ble_eq_true rfl) (Nat.le_of_ble_eq_true rfl) dX10_told_103
        · refine sm_ite (fun q1_4 => ?_) (fun q1_4 => ?_)
          · refine sm_tabIn (tgt := 104) hO dX10_told_1 q1_4 (by decide) (by decide) rfl (by decide) ?_
            refine sm_aload_n hO 0 dX10_told_104 rfl rfl ?_
            refine sm_gi hO fl_RX10_160 dX10_told_105 (fun x17 => ?_)
            exact sm_iret hO hr hk (Nat.le_of_ble_eq_true rfl) (Nat.le_of_ble_eq_true rfl) dX10_told_108
          · refine sm_ite (fun q1_5 => ?_) (fun q1_5 => ?_)
            · refine sm_tabIn (tgt := 109) hO dX10_told_1 q1_5 (by decide) (by decide) rfl (by decide) ?_
              refine sm_aload_n hO 0 dX10_told_109 rfl rfl ?_
              refine sm_gr hO fl_RX10_22 dX10_told_110 (fun a15 => ?_)
              refine sm_bipush (v := 33) hO dX10_told_113 rfl ?_
              refine sm_li hO dX10_told_115 (fun x16 => ?_)
              exact sm_iret hO hr hk (Nat.le_of_ble_eq_true rfl) (Nat.le_of_ble_eq_true rfl) dX10_told_116
            · refine sm_ite (fun q1_6 => ?_) (fun q1_6 => ?_)
              · refine sm_tabIn (tgt := 117) hO dX10_told_1 q1_6 (by decide) (by decide) rfl (by decide) ?_
                refine sm_aload_n hO 0 dX10_told_117 rfl rfl ?_
                refine sm_gr hO fl_RX10_22 dX10_told_118 (fun a13 => ?_)
                refine sm_bipush (v := 8) hO dX10_told_121 rfl ?_
                refine sm_li hO dX10_told_123 (fun x14 => ?_)
                exact sm_iret hO hr hk (Nat.le_of_ble_eq_true rfl) (Nat.le_of_ble_eq_true rfl) dX10_told_124
              · refine sm_ite (fun q1_7 => ?_) (fun q1_7 => ?_)
                · refine sm_tabIn (tgt := 125) hO dX10_told_1 q1_7 (by decide) (by decide) rfl (by decide) ?_
                  refine sm_aload_n hO 0 dX10_told_125 rfl rfl ?_
                  refine sm_cvi hO (ctX10_wrongOnes l G a0_) cw_RX10_197 cv_X10_wrongOnes [] rfl rfl ⟨(Nat.le_of_ble_eq_true rfl), (Nat.le_of_ble_eq_true rfl)⟩ ⟨(Nat.le_of_ble_eq_true rfl), (Nat.le_of_ble_eq_true rfl)⟩ (Nat.le_of_ble_eq_true rfl) dX10_told_126 (fun x12 => ?_)
                  exact sm_iret hO hr hk (Nat.le_of_ble_eq_true rfl) (Nat.le_of_ble_eq_true rfl) dX10_told_129
                · refine sm_ite (fun q1_8 => ?_) (fun q1_8 => ?_)
                  · refine sm_tabIn (tgt := 130) hO dX10_told_1 q1_8 (by decide) (by decide) rfl (by decide) ?_
                    refine sm_aload_n hO 0 dX10_told_130 rfl rfl ?_
                    refine sm_iconst (v := 0) hO dX10_told_131 rfl ?_
                    refine sm_cvi hO (ctX10_closeOnes l G a0_ (0 : Int32)) cw_RX10_200 cv_X10_closeOnes [] rfl rfl ⟨(Nat.le_of_ble_eq_true rfl), (Nat.le_of_ble_eq_true rfl)⟩ ⟨(Nat.le_of_ble_eq_true rfl), (Nat.le_of_ble_eq_true rfl)⟩ (Nat.le_of_ble_eq_true rfl) dX10_told_132 (fun x11 => ?_)
                    exact sm_iret hO hr hk (Nat.le_of_ble_eq_true rfl) (Nat.le_of_ble_eq_true rfl) dX10_told_135
                  · refine sm_ite (fun q1_9 => ?_) (fun q1_9 => ?_)
                    · refine sm_tabIn (tgt := 136) hO dX10_told_1 q1_9 (by decide) (by decide) rfl (by decide) ?_
                      refine sm_aload_n hO 0 dX10_told_136 rfl rfl ?_
                      refine sm_cvi hO (ctX10_noddingOnes l G a0_) cw_RX10_203 cv_X10_noddingOnes [] rfl rfl ⟨(Nat.le_of_ble_eq_true rfl), (Nat.le_of_ble_eq_true rfl)⟩ ⟨(Nat.le_of_ble_eq_true rfl), (Nat.le_of_ble_eq_true rfl)⟩ (Nat.le_of_ble_eq_true rfl) dX10_told_137 (fun x10 => ?_)
                      exact sm_iret hO hr hk (Nat.le_of_ble_eq_true rfl) (Nat.le_of_ble_eq_true rfl) dX10_told_140
                    · refine sm_ite (fun q1_10 => ?_) (fun q1_10 => ?_)
                      · refine sm_tabIn (tgt := 141) hO dX10_told_1 q1_10 (by decide) (by decide) rfl (by decide) ?_
                        refine sm_aload_n hO 0 dX10_told_141 rfl rfl ?_
                        refine sm_gr hO fl_RX10_22 dX10_told_142 (fun a8 => ?_)
                        refine sm_bipush (v := 34) hO dX10_told_145 rfl ?_
                        refine sm_li hO dX10_told_147 (fun x9 => ?_)
                        exact sm_iret hO hr hk (Nat.le_of_ble_eq_true rfl) (Nat.le_of_ble_eq_true rfl) dX10_told_148
                      · refine sm_ite (fun q1_11 => ?_) (fun q1_11 => ?_)
                        · refine sm_tabIn (tgt := 149) hO dX10_told_1 q1_11 (by decide) (by decide) rfl (by decide) ?_
                          refine sm_aload_n hO 0 dX10_told_149 rfl rfl ?_
                          refine sm_gr hO fl_RX10_22 dX10_told_150 (fun a6 => ?_)
                          refine sm_bipush (v := 35) hO dX10_told_153 rfl ?_
                          refine sm_li hO dX10_told_155 (fun x7 => ?_)
                          exact sm_iret hO hr hk (Nat.le_of_ble_eq_true rfl) (Nat.le_of_ble_eq_true rfl) dX10_told_156
                        · refine sm_ite (fun q1_12 => ?_) (fun q1_12 => ?_)
                          · refine sm_tabIn (tgt := 157) hO dX10_told_1 q1_12 (by decide) (by decide) rfl (by decide) ?_
                            refine sm_aload_n hO 0 dX10_told_157 rfl rfl ?_
                            refine sm_cvi hO (ctX10_tellingOnes l G a0_) cw_RX10_206 cv_X10_tellingOnes [] rfl rfl ⟨(Nat.le_of_ble_eq_true rfl), (Nat.le_of_ble_eq_true rfl)⟩ ⟨(Nat.le_of_ble_eq_true rfl), (Nat.le_of_ble_eq_true rfl)⟩ (Nat.le_of_ble_eq_true rfl) dX10_told_158 (fun x5 => ?_)
                            exact sm_iret hO hr hk (Nat.le_of_ble_eq_true rfl) (Nat.le_of_ble_eq_true rfl) dX10_told_161
                          · refine sm_ite (fun q1_13 => ?_) (fun q1_13 => ?_)
                            · refine sm_tabIn (tgt := 162) hO dX10_told_1 q1_13 (by decide) (by decide) rfl (by decide) ?_
                              refine sm_aload_n hO 0 dX10_told_162 rfl rfl ?_
                              refine sm_cvi hO (ctX10_blocks l G a0_) cw_RX10_209 cv_X10_blocks [] rfl rfl ⟨(Nat.le_of_ble_eq_true rfl), (Nat.le_of_ble_eq_true rfl)⟩ ⟨(Nat.le_of_ble_eq_true rfl), (Nat.le_of_ble_eq_true rfl)⟩ (Nat.le_of_ble_eq_true rfl) dX10_told_163 (fun x4 => ?_)
                              exact sm_iret hO hr hk (Nat.le_of_ble_eq_true rfl) (Nat.le_of_ble_eq_true rfl) dX10_told_166
                            · refine sm_ite (fun q1_14 => ?_) (fun q1_14 => ?_)
                              · refine sm_tabIn (tgt := 167) hO dX10_told_1 q1_14 (by decide) (by decide) rfl (by decide) ?_
                                refine sm_aload_n hO 0 dX10_told_167 rfl rfl ?_
                                refine sm_cvi hO (ctX10_fewest l G a0_) cw_RX10_212 cv_X10_fewest [] rfl rfl ⟨(Nat.le_of_ble_eq_true rfl), (Nat.le_of_ble_eq_true rfl)⟩ ⟨(Nat.le_of_ble_eq_true rfl), (Nat.le_of_ble_eq_true rfl)⟩ (Nat.le_of_ble_eq_true rfl) dX10_told_168 (fun x3 => ?_)
                                exact sm_iret hO hr hk (Nat.le_of_ble_eq_true rfl) (Nat.le_of_ble_eq_true rfl) dX10_told_171
                              · refine sm_ite (fun q1_15 => ?_) (fun q1_15 => ?_)
                                · refine sm_tabIn (tgt := 172) hO dX10_told_1 q1_15 (by decide) (by decide) rfl (by decide) ?_
                                  refine sm_aload_n hO 0 dX10_told_172 rfl rfl ?_
                                  refine sm_gi hO fl_RX10_169 dX10_told_173 (fun x2 => ?_)
                                  exact sm_iret hO hr hk (Nat.le_of_ble_eq_true rfl) (Nat.le_of_ble_eq_true rfl) dX10_told_176
                                · refine sm_ite (fun q1_16 => ?_) (fun q1_16 => ?_)
                                  · refine sm_tabIn (tgt := 177) hO dX10_told_1 q1_16 (by decide) (by decide) rfl (by decide) ?_
                                    refine sm_aload_n hO 0 dX10_told_177 rfl rfl ?_
                                    refine sm_gi hO fl_RX10_172 dX10_told_178 (fun x1 => ?_)
                                    exact sm_iret hO hr hk (Nat.le_of_ble_eq_true rfl) (Nat.le_of_ble_eq_true rfl) dX10_told_181
                                  · refine sm_tabOut (tgt := 182) hO dX10_told_1 (c_ne_lo (n := 17) (by decide) (fun k hk => match k, hk with | 0, _ => q1_0 | 1, _ => q1_1 | 2, _ => q1_2 | 3, _ => q1_3 | 4, _ => q1_4 | 5, _ => q1_5 | 6, _ => q1_6 | 7, _ => q1_7 | 8, _ => q1_8 | 9, _ => q1_9 | 10, _ => q1_10 | 11, _ => q1_11 | 12, _ => q1_12 | 13, _ => q1_13 | 14, _ => q1_14 | 15, _ => q1_15 | 16, _ => q1_16 | k + 17, hk => absurd hk (by omega))) (by decide) ?_
                                    refine sm_ldc (v := (-1000000002)) hO kw_925 dX10_told_182 ?_
                                    exact sm_iret hO hr hk (Nat.le_of_ble_eq_true rfl) (Nat.le_of_ble_eq_true rfl) dX10_told_184
/-! DollCongress$Roll.hasDoll(I)Z -/
def pX4_hasDoll (a0_ : Nat) (x1_ : Int32) : MM Int32 := if x1_ < 0 then (m_ret 0) else (m_gi a0_ 4 6 (fun x1 => if x1 ≤ x1_ then (m_ret 0) else (m_ret 1)))
set_option maxRecDepth 100000 in
set_option maxHeartbeats 4000000 in
theorem ctX4_hasDoll (l : Launch) (G : cG) (a0_ : Nat) (x1_ : Int32) : Ct l G yX4_hasDoll cX4_hasDoll 2 (some .boolean) 0 0 0 0 [.ref a0_, .int x1_] c_vi (pX4_hasDoll a0_ x1_) := by
  refine Ct.of (lv := [(0, .ref a0_), (1, .int x1_)]) (by decide) (Nat.le_of_ble_eq_true rfl) rfl (fun p e s m args below meth c hO hr hk hin => ?_)
  rw [pX4_hasDoll]
  refine sm_iload_n hO 1 dX4_hasDoll_0 rfl rfl ?_
  refine sm_if_lt (tgt := 16) hO dX4_hasDoll_1 (by decide) ?_ ?_
  · refine sm_iconst (v := 0) hO dX4_hasDoll_16 rfl ?_
    exact sm_zret hO hr hk rfl (Nat.le_of_ble_eq_true rfl) (Nat.le_of_ble_eq_true rfl) dX4_hasDoll_17
  · refine sm_iload_n hO 1 dX4_hasDoll_4 rfl rfl ?_
    refine sm_aload_n hO 0 dX4_hasDoll_5 rfl rfl ?_
    refine sm_gi hO fl_RX4_31 dX4_hasDoll_6 (fun x1 => ?_)
    refine sm_icmp_ge (tgt := 16) hO dX4_hasDoll_9 (by decide) ?_ ?_
    · refine sm_iconst (v := 0) hO dX4_hasDoll_16 rfl ?_
      exact sm_zret hO hr hk rfl (Nat.le_of_ble_eq_true rfl) (Nat.le_of_ble_eq_true rfl) dX4_hasDoll_17
    · refine sm_iconst (v := 1) hO dX4_hasDoll_12 rfl ?_
      refine sm_goto (tgt := 17) hO dX4_hasDoll_13 (by decide) ?_
      exact sm_zret hO hr hk rfl (Nat.le_of_ble_eq_true rfl) (Nat.le_of_ble_eq_true rfl) dX4_hasDoll_17
/-! DollCongress.doll(II)I -/
def pX9_doll (a0_ : Nat) (x1_ : Int32) (x2_ : Int32) : MM Int32 := m_gr a0_ 8 7 (fun a1 => m_cv a1 4 (pX4_hasDoll a1 x1_) (fun x2 => if x2 = 0 then (m_ret ((-1000000001) : Int32)) else (if x2_ = 0 then (m_gr a0_ 8 7 (fun a20 => m_gr a20 4 1 (fun a21 => m_li 0 a21 x1_ (fun x22 => m_ret x22)))) else (if x2_ = 1 then (m_gr a0_ 8 7 (fun a17 => m_gr a17 4 2 (fun a18 => m_li 0 a18 x1_ (fun x19 => m_ret x19)))) else (if x2_ = 2 then (m_gr a0_ 8 1 (fun a14 => m_gr a14 5 0 (fun a15 => m_li 0 a15 x1_ (fun x16 => m_ret x16)))) else (if x2_ = 3 then (m_gr a0_ 8 1 (fun a11 => m_gr a11 5 1 (fun a12 => m_li 0 a12 x1_ (fun x13 => m_ret x13)))) else (if x2_ = 4 then (m_gr a0_ 8 1 (fun a8 => m_gr a8 5 2 (fun a9 => m_li 0 a9 x1_ (fun x10 => m_ret x10)))) else (if x2_ = 5 then (m_gr a0_ 8 1 (fun a6 => m_cv a6 5 (pX5_isUp a6 x1_) (fun x7 => if x7 = 0 then (m_ret (0 : Int32)) else (m_ret (1 : Int32))))) else (if x2_ = 6 then (m_gr a0_ 8 1 (fun a3 => m_gr a3 5 3 (fun a4 => m_li 0 a4 x1_ (fun x5 => m_ret x5)))) else (m_ret ((-1000000002) : Int32)))))))))))
set_option maxRecDepth 100000 in
set_option maxHeartbeats 4000000 in
theorem ctX9_doll (l : Launch) (G : cG) (a0_ : Nat) (x1_ : Int32) (x2_ : Int32) : Ct l G yX9_doll cX9_doll 3 (some .int) 1 21 0 0 [.ref a0_, .int x1_, .int x2_] c_vi (pX9_doll a0_ x1_ x2_) := by
  refine Ct.of (lv := [(0, .ref a0_), (1, .int x1_), (2, .int x2_)]) (by decide) (Nat.le_of_ble_eq_true rfl) rfl (fun p e s m args below meth c hO hr hk hin => ?_)
  rw [pX9_doll]
  refine sm_aload_n hO 0 dX9_doll_0 rfl rfl ?_
  refine sm_gr hO fl_RX9_60 dX9_doll_1 (fun a1 => ?_)
  refine sm_iload_n hO 1 dX9_doll_4 rfl rfl ?_
  refine sm_cvi hO (ctX4_hasDoll l G a1 x1_) cw_RX9_153 cv_X4_hasDoll [] rfl rfl ⟨(Nat.le_of_ble_eq_true rfl), (Nat.le_of_ble_eq_true rfl)⟩ ⟨(Nat.le_of_ble_eq_true rfl), (Nat.le_of_ble_eq_true rfl)⟩ (Nat.le_of_ble_eq_true rfl) dX9_doll_5 (fun x2 => ?_)
  refine sm_if_ne (tgt := 14) hO dX9_doll_8 (by decide) ?_ ?_
  · refine sm_iload_n hO 2 dX9_doll_14 rfl rfl ?_
    refine sm_ite (fun q15_0 => ?_) (fun q15_0 => ?_)
    · refine sm_tabIn (tgt := 56) hO dX9_doll_15 q15_0 (by decide) (by decide) rfl (by decide) ?_
      refine sm_aload_n hO 0 dX9_doll_56 rfl rfl ?_
      refine sm_gr hO fl_RX9_60 dX9_doll_57 (fun a20 => ?_)
      refine sm_gr hO fl_RX9_158 dX9_doll_60 (fun a21 => ?_)
      refine sm_iload_n hO 1 dX9_doll_63 rfl rfl ?_
      refine sm_li hO dX9_doll_64 (fun x22 => ?_)
      exact sm_iret hO hr hk (Nat.le_of_ble_eq_true rfl) (Nat.le_of_ble_eq_true rfl) dX9_doll_65
    · refine sm_ite (fun q15_1 => ?_) (fun q15_1 => ?_)
      · refine sm_tabIn (tgt := 66) hO dX9_doll_15 q15_1 (by decide) (by decide) rfl (by decide) ?_
        refine sm_aload_n hO 0 dX9_doll_66 rfl rfl ?_
        refine sm_gr hO fl_RX9_60 dX9_doll_67 (fun a17 => ?_)
        refine sm_gr hO fl_RX9_161 dX9_doll_70 (fun a18 => ?_)
        refine sm_iload_n hO 1 dX9_doll_73 rfl rfl ?_
        refine sm_li hO dX9_doll_74 (fun x19 => ?_)
        exact sm_iret hO hr hk (Nat.le_of_ble_eq_true rfl) (Nat.le_of_ble_eq_true rfl) dX9_doll_75
      · refine sm_ite (fun q15_2 => ?_) (fun q15_2 => ?_)
        · refine sm_tabIn (tgt := 76) hO dX9_doll_15 q15_2 (by decide) (by decide) rfl (by decide) ?_
          refine sm_aload_n hO 0 dX9_doll_76 rfl rfl ?_
          refine sm_gr hO fl_RX9_19 dX9_doll_77 (fun a14 => ?_)
          refine sm_gr hO fl_RX9_164 dX9_doll_80 (fun a15 => ?_)
          refine sm_iload_n hO 1 dX9_doll_83 rfl rfl ?_
          refine sm_li hO dX9_doll_84 (fun x16 => ?_)
          exact sm_iret hO hr hk (Nat.le_of_ble_eq_true rfl) (Nat.le_of_ble_eq_true rfl) dX9_doll_85
        · refine sm_ite (fun q15_3 => ?_) (fun q15_3 => ?_)
          · refine sm_tabIn (tgt := 86) hO dX9_doll_15 q15_3 (by decide) (by decide) rfl (by decide) ?_
            refine sm_aload_n hO 0 dX9_doll_86 rfl rfl ?_
            refine sm_gr hO fl_RX9_19 dX9_doll_87 (fun a11 => ?_)
            refine sm_gr hO fl_RX9_167 dX9_doll_90 (fun a12 => ?_)
            refine sm_iload_n hO 1 dX9_doll_93 rfl rfl ?_
            refine sm_li hO dX9_doll_94 (fun x13 => ?_)
            exact sm_iret hO hr hk (Nat.le_of_ble_eq_true rfl) (Nat.le_of_ble_eq_true rfl) dX9_doll_95
          · refine sm_ite (fun q15_4 => ?_) (fun q15_4 => ?_)
            · refine sm_tabIn (tgt := 96) hO dX9_doll_15 q15_4 (by decide) (by decide) rfl (by decide) ?_
              refine sm_aload_n hO 0 dX9_doll_96 rfl rfl ?_
              refine sm_gr hO fl_RX9_19 dX9_doll_97 (fun a8 => ?_)
              refine sm_gr hO fl_RX9_170 dX9_doll_100 (fun a9 => ?_)
              refine sm_iload_n hO 1 dX9_doll_103 rfl rfl ?_
              refine sm_li hO dX9_doll_104 (fun x10 => ?_)
              exact sm_iret hO hr hk (Nat.le_of_ble_eq_true rfl) (Nat.le_of_ble_eq_true rfl) dX9_doll_105
            · refine sm_ite (fun q15_5 => ?_) (fun q15_5 => ?_)
              · refine sm_tabIn (tgt := 106) hO dX9_doll_15 q15_5 (by decide) (by decide) rfl (by decide) ?_
                refine sm_aload_n hO 0 dX9_doll_106 rfl rfl ?_
                refine sm_gr hO fl_RX9_19 dX9_doll_107 (fun a6 => ?_)
                refine sm_iload_n hO 1 dX9_doll_110 rfl rfl ?_
                refine sm_cvi hO (ctX5_isUp l G a6 x1_) cw_RX9_173 cv_X5_isUp [] rfl rfl ⟨(Nat.le_of_ble_eq_true rfl), (Nat.le_of_ble_eq_true rfl)⟩ ⟨(Nat.le_of_ble_eq_true rfl), (Nat.le_of_ble_eq_true rfl)⟩ (Nat.le_of_ble_eq_true rfl) dX9_doll_111 (fun x7 => ?_)
                refine sm_if_eq (tgt := 121) hO dX9_doll_114 (by decide) ?_ ?_
                · refine sm_iconst (v := 0) hO dX9_doll_121 rfl ?_
                  exact sm_iret hO hr hk (Nat.le_of_ble_eq_true rfl) (Nat.le_of_ble_eq_true rfl) dX9_doll_122
                · refine sm_iconst (v := 1) hO dX9_doll_117 rfl ?_
                  refine sm_goto (tgt := 122) hO dX9_doll_118 (by decide) ?_
                  exact sm_iret hO hr hk (Nat.le_of_ble_eq_true rfl) (Nat.le_of_ble_eq_true rfl) dX9_doll_122
              · refine sm_ite (fun q15_6 => ?_) (fun q15_6 => ?_)
                · refine sm_tabIn (tgt := 123) hO dX9_doll_15 q15_6 (by decide) (by decide) rfl (by decide) ?_
                  refine sm_aload_n hO 0 dX9_doll_123 rfl rfl ?_
                  refine sm_gr hO fl_RX9_19 dX9_doll_124 (fun a3 => ?_)
                  refine sm_gr hO fl_RX9_176 dX9_doll_127 (fun a4 => ?_)
                  refine sm_iload_n hO 1 dX9_doll_130 rfl rfl ?_
                  refine sm_li hO dX9_doll_131 (fun x5 => ?_)
                  exact sm_iret hO hr hk (Nat.le_of_ble_eq_true rfl) (Nat.le_of_ble_eq_true rfl) dX9_doll_132
                · refine sm_tabOut (tgt := 133) hO dX9_doll_15 (c_ne_lo (n := 7) (by decide) (fun k hk => match k, hk with | 0, _ => q15_0 | 1, _ => q15_1 | 2, _ => q15_2 | 3, _ => q15_3 | 4, _ => q15_4 | 5, _ => q15_5 | 6, _ => q15_6 | k + 7, hk => absurd hk (by omega))) (by decide) ?_
                  refine sm_ldc (v := (-1000000002)) hO kw_362 dX9_doll_133 ?_
                  exact sm_iret hO hr hk (Nat.le_of_ble_eq_true rfl) (Nat.le_of_ble_eq_true rfl) dX9_doll_135
  · refine sm_ldc (v := (-1000000001)) hO kw_512 dX9_doll_11 ?_
    exact sm_iret hO hr hk (Nat.le_of_ble_eq_true rfl) (Nat.le_of_ble_eq_true rfl) dX9_doll_13
/-! DollCongressModel.isDoll(I)Z -/
def pX10_isDoll (a0_ : Nat) (x1_ : Int32) : MM Int32 := m_gi a0_ 9 2 (fun x1 => m_bind (pX10_in (x1_.toInt64) 0 ((x1 - 1).toInt64)) (fun x2 => m_rz x2))
set_option maxRecDepth 100000 in
set_option maxHeartbeats 4000000 in
theorem ctX10_isDoll (l : Launch) (G : cG) (a0_ : Nat) (x1_ : Int32) : Ct l G yX10_isDoll cX10_isDoll 2 (some .boolean) 1 25 0 0 [.ref a0_, .int x1_] c_vi (pX10_isDoll a0_ x1_) := by
  refine Ct.of (lv := [(0, .ref a0_), (1, .int x1_)]) (by decide) (Nat.le_of_ble_eq_true rfl) rfl (fun p e s m args below meth c hO hr hk hin => ?_)
  rw [pX10_isDoll]
  refine sm_iload_n hO 1 dX10_isDoll_0 rfl rfl ?_
  refine sm_i2l (v := x1_.toInt64) hO dX10_isDoll_1 rfl ?_
  refine sm_lconst (v := 0) hO dX10_isDoll_2 rfl ?_
  refine sm_aload_n hO 0 dX10_isDoll_3 rfl rfl ?_
  refine sm_gi hO fl_RX10_79 dX10_isDoll_4 (fun x1 => ?_)
  refine sm_iconst (v := 1) hO dX10_isDoll_7 rfl ?_
  refine sm_isub hO dX10_isDoll_8 ?_
  refine sm_i2l (v := (x1 - 1).toInt64) hO dX10_isDoll_9 rfl ?_
  refine sm_csi hO (ctX10_in l G (x1_.toInt64) 0 ((x1 - 1).toInt64)) cw_RX10_75 kw_923 [] rfl rfl ⟨(Nat.le_of_ble_eq_true rfl), (Nat.le_of_ble_eq_true rfl)⟩ ⟨(Nat.le_of_ble_eq_true rfl), (Nat.le_of_ble_eq_true rfl)⟩ (Nat.le_of_ble_eq_true rfl) dX10_isDoll_10 (fun x2 => ?_)
  exact sm_rz hO hr hk (Nat.le_of_ble_eq_true rfl) (Nat.le_of_ble_eq_true rfl) dX10_isDoll_13
/-! DollCongressModel.doll(II)I -/
def pX10_doll (a0_ : Nat) (x1_ : Int32) (x2_ : Int32) : MM Int32 := m_cv a0_ 9 (pX10_isDoll a0_ x1_) (fun x1 => if x1 = 0 then (m_ret ((-1000000001) : Int32)) else (if x2_ = 0 then (m_gr a0_ 9 3 (fun a14 => m_li 0 a14 x1_ (fun x15 => m_ret x15))) else (if x2_ = 1 then (m_gr a0_ 9 4 (fun a12 => m_li 0 a12 x1_ (fun x13 => m_ret x13))) else (if x2_ = 2 then (m_gr a0_ 9 8 (fun a10 => m_li 0 a10 x1_ (fun x11 => m_ret x11))) else (if x2_ = 3 then (m_gr a0_ 9 8 (fun a8 => m_li 0 a8 ((17 : Int32) + x1_) (fun x9 => m_ret x9))) else (if x2_ = 4 then (m_gr a0_ 9 8 (fun a6 => m_li 0 a6 ((9 : Int32) + x1_) (fun x7 => m_ret x7))) else (if x2_ = 5 then (m_gr a0_ 9 8 (fun a4 => m_li 0 a4 (8 : Int32) (fun x5 => m_ret ((x5 >>> (x1_ &&& 31)) &&& 1)))) else (if x2_ = 6 then (m_gr a0_ 9 8 (fun a2 => m_li 0 a2 ((25 : Int32) + x1_) (fun x3 => m_ret x3))) else (m_ret ((-1000000002) : Int32))))))))))
set_option maxRecDepth 100000 in
set_option maxHeartbeats 4000000 in
theorem ctX10_doll (l : Launch) (G : cG) (a0_ : Nat) (x1_ : Int32) (x2_ : Int32) : Ct l G yX10_doll cX10_doll 3 (some .int) 2 46 0 0 [.ref a0_, .int x1_, .int x2_] c_vi (pX10_doll a0_ x1_ x2_) := by
  refine Ct.of (lv := [(0, .ref a0_), (1, .int x1_), (2, .int x2_)]) (by decide) (Nat.le_of_ble_eq_true rfl) rfl (fun p e s m args below meth c hO hr hk hin => ?_)
  rw [pX10_doll]
  refine sm_aload_n hO 0 dX10_doll_0 rfl rfl ?_
  refine sm_iload_n hO 1 dX10_doll_1 rfl rfl ?_
  refine sm_cvi hO (ctX10_isDoll l G a0_ x1_) cw_RX10_215 cv_X10_isDoll [] rfl rfl ⟨(Nat.le_of_ble_eq_true rfl), (Nat.le_of_ble_eq_true rfl)⟩ ⟨(Nat.le_of_ble_eq_true rfl), (Nat.le_of_ble_eq_true rfl)⟩ (Nat.le_of_ble_eq_true rfl) dX10_doll_2 (fun x1 => ?_)
  refine sm_if_ne (tgt := 11) hO dX10_doll_5 (by decide) ?_ ?_
  · refine sm_iload_n hO 2 dX10_doll_11 rfl rfl ?_
    refine sm_ite (fun q12_0 => ?_) (fun q12_0 => ?_)
    · refine sm_tabIn (tgt := 56) hO dX10_doll_12 q12_0 (by decide) (by decide) rfl (by decide) ?_
      refine sm_aload_n hO 0 dX10_doll_56 rfl rfl ?_
      refine sm_gr hO fl_RX10_13 dX10_doll_57 (fun a14 => ?_)
      refine sm_iload_n hO 1 dX10_doll_60 rfl rfl ?_
      refine sm_li hO dX10_doll_61 (fun x15 => ?_)
      exact sm_iret hO hr hk (Nat.le_of_ble_eq_true rfl) (Nat.le_of_ble_eq_true rfl) dX10_doll_62
    · refine sm_ite (fun q12_1 => ?_) (fun q12_1 => ?_)
      · refine sm_tabIn (tgt := 63) hO dX10_doll_12 q12_1 (by decide) (by decide) rfl (by decide) ?_
        refine sm_aload_n hO 0 dX10_doll_63 rfl rfl ?_
        refine sm_gr hO fl_RX10_16 dX10_doll_64 (fun a12 => ?_)
        refine sm_iload_n hO 1 dX10_doll_67 rfl rfl ?_
        refine sm_li hO dX10_doll_68 (fun x13 => ?_)
        exact sm_iret hO hr hk (Nat.le_of_ble_eq_true rfl) (Nat.le_of_ble_eq_true rfl) dX10_doll_69
      · refine sm_ite (fun q12_2 => ?_) (fun q12_2 => ?_)
        · refine sm_tabIn (tgt := 70) hO dX10_doll_12 q12_2 (by decide) (by decide) rfl (by decide) ?_
          refine sm_aload_n hO 0 dX10_doll_70 rfl rfl ?_
          refine sm_gr hO fl_RX10_22 dX10_doll_71 (fun a10 => ?_)
          refine sm_iload_n hO 1 dX10_doll_74 rfl rfl ?_
          refine sm_li hO dX10_doll_75 (fun x11 => ?_)
          exact sm_iret hO hr hk (Nat.le_of_ble_eq_true rfl) (Nat.le_of_ble_eq_true rfl) dX10_doll_76
        · refine sm_ite (fun q12_3 => ?_) (fun q12_3 => ?_)
          · refine sm_tabIn (tgt := 77) hO dX10_doll_12 q12_3 (by decide) (by decide) rfl (by decide) ?_
            refine sm_aload_n hO 0 dX10_doll_77 rfl rfl ?_
            refine sm_gr hO fl_RX10_22 dX10_doll_78 (fun a8 => ?_)
            refine sm_bipush (v := 17) hO dX10_doll_81 rfl ?_
            refine sm_iload_n hO 1 dX10_doll_83 rfl rfl ?_
            refine sm_iadd hO dX10_doll_84 ?_
            refine sm_li hO dX10_doll_85 (fun x9 => ?_)
            exact sm_iret hO hr hk (Nat.le_of_ble_eq_true rfl) (Nat.le_of_ble_eq_true rfl) dX10_doll_86
          · refine sm_ite (fun q12_4 => ?_) (fun q12_4 => ?_)
            · refine sm_tabIn (tgt := 87) hO dX10_doll_12 q12_4 (by decide) (by decide) rfl (by decide) ?_
              refine sm_aload_n hO 0 dX10_doll_87 rfl rfl ?_
              refine sm_gr hO fl_RX10_22 dX10_doll_88 (fun a6 => ?_)
              refine sm_bipush (v := 9) hO dX10_doll_91 rfl ?_
              refine sm_iload_n hO 1 dX10_doll_93 rfl rfl ?_
              refine sm_iadd hO dX10_doll_94 ?_
              refine sm_li hO dX10_doll_95 (fun x7 => ?_)
              exact sm_iret hO hr hk (Nat.le_of_ble_eq_true rfl) (Nat.le_of_ble_eq_true rfl) dX10_doll_96
            · refine sm_ite (fun q12_5 => ?_) (fun q12_5 => ?_)
              · refine sm_tabIn (tgt := 97) hO dX10_doll_12 q12_5 (by decide) (by decide) rfl (by decide) ?_
                refine sm_aload_n hO 0 dX10_doll_97 rfl rfl ?_
                refine sm_gr hO fl_RX10_22 dX10_doll_98 (fun a4 => ?_)
                refine sm_bipush (v := 8) hO dX10_doll_101 rfl ?_
                refine sm_li hO dX10_doll_103 (fun x5 => ?_)
                refine sm_iload_n hO 1 dX10_doll_104 rfl rfl ?_
                refine sm_ishr hO dX10_doll_105 ?_
                refine sm_iconst (v := 1) hO dX10_doll_106 rfl ?_
                refine sm_iand hO dX10_doll_107 ?_
                exact sm_iret hO hr hk (Nat.le_of_ble_eq_true rfl) (Nat.le_of_ble_eq_true rfl) dX10_doll_108
              · refine sm_ite (fun q12_6 => ?_) (fun q12_6 => ?_)
                · refine sm_tabIn (tgt := 109) hO dX10_doll_12 q12_6 (by decide) (by decide) rfl (by decide) ?_
                  refine sm_aload_n hO 0 dX10_doll_109 rfl rfl ?_
                  refine sm_gr hO fl_RX10_22 dX10_doll_110 (fun a2 => ?_)
                  refine sm_bipush (v := 25) hO dX10_doll_113 rfl ?_
                  refine sm_iload_n hO 1 dX10_doll_115 rfl rfl ?_
                  refine sm_iadd hO dX10_doll_116 ?_
                  refine sm_li hO dX10_doll_117 (fun x3 => ?_)
                  exact sm_iret hO hr hk (Nat.le_of_ble_eq_true rfl) (Nat.le_of_ble_eq_true rfl) dX10_doll_118
                · refine sm_tabOut (tgt := 119) hO dX10_doll_12 (c_ne_lo (n := 7) (by decide) (fun k hk => match k, hk with | 0, _ => q12_0 | 1, _ => q12_1 | 2, _ => q12_2 | 3, _ => q12_3 | 4, _ => q12_4 | 5, _ => q12_5 | 6, _ => q12_6 | k + 7, hk => absurd hk (by omega))) (by decide) ?_
                  refine sm_ldc (v := (-1000000002)) hO kw_925 dX10_doll_119 ?_
                  exact sm_iret hO hr hk (Nat.le_of_ble_eq_true rfl) (Nat.le_of_ble_eq_true rfl) dX10_doll_121
  · refine sm_ldc (v := (-1000000001)) hO kw_1046 dX10_doll_8 ?_
    exact sm_iret hO hr hk (Nat.le_of_ble_eq_true rfl) (Nat.le_of_ble_eq_true rfl) dX10_doll_10
/-! DollCongress$Roll.hasCourt(I)Z -/
def pX4_hasCourt (a0_ : Nat) (x1_ : Int32) : MM Int32 := if x1_ < 0 then (m_ret 0) else (m_gi a0_ 4 5 (fun x1 => if x1 ≤ x1_ then (m_ret 0) else (m_ret 1)))
set_option maxRecDepth 100000 in
set_option maxHeartbeats 4000000 in
theorem ctX4_hasCourt (l : Launch) (G : cG) (a0_ : Nat) (x1_ : Int32) : Ct l G yX4_hasCourt cX4_hasCourt 2 (some .boolean) 0 0 0 0 [.ref a0_, .int x1_] c_vi (pX4_hasCourt a0_ x1_) := by
  refine Ct.of (lv := [(0, .ref a0_), (1, .int x1_)]) (by decide) (Nat.le_of_ble_eq_true rfl) rfl (fun p e s m args below meth c hO hr hk hin => ?_)
  rw [pX4_hasCourt]
  refine sm_iload_n hO 1 dX4_hasCourt_0 rfl rfl ?_
  refine sm_if_lt (tgt := 16) hO dX4_hasCourt_1 (by decide) ?_ ?_
  · refine sm_iconst (v := 0) hO dX4_hasCourt_16 rfl ?_
    exact sm_zret hO hr hk rfl (Nat.le_of_ble_eq_true rfl) (Nat.le_of_ble_eq_true rfl) dX4_hasCourt_17
  · refine sm_iload_n hO 1 dX4_hasCourt_4 rfl rfl ?_
    refine sm_aload_n hO 0 dX4_hasCourt_5 rfl rfl ?_
    refine sm_gi hO fl_RX4_27 dX4_hasCourt_6 (fun x1 => ?_)
    refine sm_icmp_ge (tgt := 16) hO dX4_hasCourt_9 (by decide) ?_ ?_
    · refine sm_iconst (v := 0) hO dX4_hasCourt_16 rfl ?_
      exact sm_zret hO hr hk rfl (Nat.le_of_ble_eq_true rfl) (Nat.le_of_ble_eq_true rfl) dX4_hasCourt_17
    · refine sm_iconst (v := 1) hO dX4_hasCourt_12 rfl ?_
      refine sm_goto (tgt := 17) hO dX4_hasCourt_13 (by decide) ?_
      exact sm_zret hO hr hk rfl (Nat.le_of_ble_eq_true rfl) (Nat.le_of_ble_eq_true rfl) dX4_hasCourt_17
/-! DollCongress.dollsWith([II)I -/
def fX9_dollsWith_32 (k5 : Nat → Nat → Int32 → Int32 → Int32 → MM Int32) (aL0 : Nat) (aL1 : Nat) (xL2 : Int32) (xL3 : Int32) (xL4 : Int32) : MM Int32 := m_let (xL4 + 1) (fun x1 => k5 aL0 aL1 xL2 xL3 x1)
def fX9_dollsWith_5  : Nat → Nat → Nat → Int32 → Int32 → Int32 → MM Int32
  | 0, _, _, _, _, _ => m_bad
  | n + 1, aL0, aL1, xL2, xL3, xL4 => m_gr aL0 8 7 (fun a1 => m_gi a1 4 6 (fun x2 => if x2 ≤ xL4 then (m_ret xL3) else (m_li 0 aL1 xL4 (fun x3 => if x3 = xL2 then (m_let (xL3 ||| ((1 : Int32) <<< (xL4 &&& 31))) (fun x4 => fX9_dollsWith_32 (fX9_dollsWith_5 n) aL0 aL1 xL2 x4 xL4)) else (fX9_dollsWith_32 (fX9_dollsWith_5 n) aL0 aL1 xL2 xL3 xL4)))))
def pX9_dollsWith (a0_ : Nat) (a1_ : Nat) (x2_ : Int32) : MM Int32 := fX9_dollsWith_5 c_fu a0_ a1_ x2_ 0 0
set_option maxRecDepth 100000 in
set_option maxHeartbeats 4000000 in
theorem tX9_dollsWith_32 {p : Program} {l : Launch} {e : Env} {s : State} {m : MethodId} {args : Array Value} {below : List Frame} {meth : Method} {c : Code} {G : cG} (hO : c_Ok p s m c cX9_dollsWith 5 RX9 G) (hr : meth.sig.returnType = (some .int)) (hk : meth.locks = false) (k5 : Nat → Nat → Int32 → Int32 → Int32 → MM Int32) (hk5 : ∀ (aL0 : Nat) (aL1 : Nat) (xL2 : Int32) (xL3 : Int32) (xL4 : Int32), Sm p l e { frames := 0, cells := 0, slots := 0, locals := 0 } s m args below meth c G 5 (c_Q G c_vi below args s 0 0) 0 0 5 [(0, .ref aL0), (1, .ref aL1), (2, .int xL2), (3, .int xL3), (4, .int xL4)] [] (k5 aL0 aL1 xL2 xL3 xL4))  : ∀ (aL0 : Nat) (aL1 : Nat) (xL2 : Int32) (xL3 : Int32) (xL4 : Int32), Sm p l e { frames := 0, cells := 0, slots := 0, locals := 0 } s m args below meth c G 5 (c_Q G c_vi below args s 0 0) 0 0 32 [(0, .ref aL0), (1, .ref aL1), (2, .int xL2), (3, .int xL3), (4, .int xL4)] [] (fX9_dollsWith_32 k5 aL0 aL1 xL2 xL3 xL4) := by
  intro aL0 aL1 xL2 xL3 xL4
  rw [fX9_dollsWith_32]
  refine sm_iincL (v := xL4 + 1) hO 4 (fun x1 => [(4, .int x1), (0, .ref aL0), (1, .ref aL1), (2, .int xL2), (3, .int xL3)]) dX9_dollsWith_32 rfl rfl (by decide) (fun _ => rfl) (fun x1 => ?_)
  refine sm_goto (tgt := 5) hO dX9_dollsWith_35 (by decide) ?_
  exact sm_sub [1, 2, 3, 4, 0] rfl (hk5 aL0 aL1 xL2 xL3 x1)
set_option maxRecDepth 100000 in
set_option maxHeartbeats 4000000 in
theorem tX9_dollsWith_5 {p : Program} {l : Launch} {e : Env} {s : State} {m : MethodId} {args : Array Value} {below : List Frame} {meth : Method} {c : Code} {G : cG} (hO : c_Ok p s m c cX9_dollsWith 5 RX9 G) (hr : meth.sig.returnType = (some .int)) (hk : meth.locks = false) : ∀ (n : Nat) (aL0 : Nat) (aL1 : Nat) (xL2 : Int32) (xL3 : Int32) (xL4 : Int32), Sm p l e { frames := 0, cells := 0, slots := 0, locals := 0 } s m args below meth c G 5 (c_Q G c_vi below args s 0 0) 0 0 5 [(0, .ref aL0), (1, .ref aL1), (2, .int xL2), (3, .int xL3), (4, .int xL4)] [] (fX9_dollsWith_5 n aL0 aL1 xL2 xL3 xL4) := by
  intro n
  induction n with
  | zero =>
    intro aL0 aL1 xL2 xL3 xL4
    exact sm_bad
  | succ n ih =>
    intro aL0 aL1 xL2 xL3 xL4
    rw [fX9_dollsWith_5]
    refine sm_iload hO 4 dX9_dollsWith_5 rfl ?_
    refine sm_aload_n hO 0 dX9_dollsWith_7 rfl rfl ?_
    refine sm_gr hO fl_RX9_60 dX9_dollsWith_8 (fun a1 => ?_)
    refine sm_gi hO fl_RX9_97 dX9_dollsWith_11 (fun x2 => ?_)
    refine sm_icmp_ge (tgt := 38) hO dX9_dollsWith_14 (by decide) ?_ ?_
    · refine sm_iload_n hO 3 dX9_dollsWith_38 rfl rfl ?_
      exact sm_iret hO hr hk (Nat.le_of_ble_eq_true rfl) (Nat.le_of_ble_eq_true rfl) dX9_dollsWith_39
    · refine sm_aload_n hO 1 dX9_dollsWith_17 rfl rfl ?_
      refine sm_iload hO 4 dX9_dollsWith_18 rfl ?_
      refine sm_li hO dX9_dollsWith_20 (fun x3 => ?_)
      refine sm_iload_n hO 2 dX9_dollsWith_21 rfl rfl ?_
      refine sm_icmp_ne (tgt := 32) hO dX9_dollsWith_22 (by decide) ?_ ?_
      · exact sm_sub [0, 1, 2, 3, 4] rfl (tX9_dollsWith_32 hO hr hk (fX9_dollsWith_5 n) ih aL0 aL1 xL2 xL3 xL4)
      · refine sm_iload_n hO 3 dX9_dollsWith_25 rfl rfl ?_
        refine sm_iconst (v := 1) hO dX9_dollsWith_26 rfl ?_
        refine sm_iload hO 4 dX9_dollsWith_27 rfl ?_
        refine sm_ishl hO dX9_dollsWith_29 ?_
        refine sm_ior hO dX9_dollsWith_30 ?_
        refine sm_topi (fun x4 => ?_)
        refine sm_istore_n hO [(3, .int x4), (0, .ref aL0), (1, .ref aL1), (2, .int xL2), (4, .int xL4)] dX9_dollsWith_31 rfl (by decide) rfl ?_
        exact sm_sub [1, 2, 3, 0, 4] rfl (tX9_dollsWith_32 hO hr hk (fX9_dollsWith_5 n) ih aL0 aL1 xL2 x4 xL4)
set_option maxRecDepth 100000 in
set_option maxHeartbeats 4000000 in
theorem ctX9_dollsWith (l : Launch) (G : cG) (a0_ : Nat) (a1_ : Nat) (x2_ : Int32) : Ct l G yX9_dollsWith cX9_dollsWith 5 (some .int) 0 0 0 0 [.ref a0_, .ref a1_, .int x2_] c_vi (pX9_dollsWith a0_ a1_ x2_) := by
  refine Ct.of (lv := [(0, .ref a0_), (1, .ref a1_), (2, .int x2_)]) (by decide) (Nat.le_of_ble_eq_true rfl) rfl (fun p e s m args below meth c hO hr hk hin => ?_)
  rw [pX9_dollsWith]
  refine sm_iconst (v := 0) hO dX9_dollsWith_0 rfl ?_
  refine sm_istore_n hO [(3, .int 0), (0, .ref a0_), (1, .ref a1_), (2, .int x2_)] dX9_dollsWith_1 rfl (by decide) rfl ?_
  refine sm_iconst (v := 0) hO dX9_dollsWith_2 rfl ?_
  refine sm_istore hO [(4, .int 0), (3, .int 0), (0, .ref a0_), (1, .ref a1_), (2, .int x2_)] dX9_dollsWith_3 (by decide) rfl ?_
  exact sm_sub [2, 3, 4, 1, 0] rfl (tX9_dollsWith_5 hO hr hk c_fu a0_ a1_ x2_ 0 0)
/-! DollCongress$Roll.powerOf(I)I -/
def fX4_powerOf_49 (k50 : Nat → Int32 → Int32 → Int32 → Int32 → MM Int32) (aL0 : Nat) (xL1 : Int32) (xL2 : Int32) (xL3 : Int32) : MM Int32 := k50 aL0 xL1 xL2 xL3 0
def fX4_powerOf_94 (k4 : Nat → Int32 → Int32 → Int32 → MM Int32) (aL0 : Nat) (xL1 : Int32) (xL2 : Int32) (xL3 : Int32) : MM Int32 := m_let (xL3 + 1) (fun x1 => k4 aL0 xL1 xL2 x1)
def fX4_powerOf_50 (k4 : Nat → Int32 → Int32 → Int32 → MM Int32) (aL0 : Nat) (xL1 : Int32) (xL2 : Int32) (xL3 : Int32) (xS0 : Int32) : MM Int32 := if ((xL3 >>> (xL1 &&& 31)) &&& 1) = 0 then (if xS0 = 0 then (fX4_powerOf_94 k4 aL0 xL1 xL2 xL3) else (m_bind (pJ6_bitCount_0f7a4 xL3) (fun x1 => m_li 0 0 x1 (fun x2 => m_gi aL0 4 5 (fun x3 => m_li 0 0 ((x3 - 1) - x1) (fun x4 => m_let (xL2 + (x2 * x4)) (fun x5 => fX4_powerOf_94 k4 aL0 xL1 x5 xL3))))))) else (fX4_powerOf_94 k4 aL0 xL1 xL2 xL3)
def fX4_powerOf_4  : Nat → Nat → Int32 → Int32 → Int32 → MM Int32
  | 0, _, _, _, _ => m_bad
  | n + 1, aL0, xL1, xL2, xL3 => m_cv aL0 4 (pX4_allCourts aL0) (fun x1 => if x1 < xL3 then (m_ret xL2) else (m_gr aL0 4 4 (fun a2 => m_li 0 a2 xL3 (fun x3 => m_gi aL0 4 8 (fun x4 => if x4 ≤ x3 then (fX4_powerOf_49 (fX4_powerOf_50 (fX4_powerOf_4 n)) aL0 xL1 xL2 xL3) else (m_gr aL0 4 4 (fun a5 => m_li 0 a5 xL3 (fun x6 => m_gr aL0 4 0 (fun a7 => m_li 0 a7 xL1 (fun x8 => m_gi aL0 4 8 (fun x9 => if (x6 + x8) < x9 then (fX4_powerOf_49 (fX4_powerOf_50 (fX4_powerOf_4 n)) aL0 xL1 xL2 xL3) else (fX4_powerOf_50 (fX4_powerOf_4 n) aL0 xL1 xL2 xL3 1))))))))))))
def pX4_powerOf (a0_ : Nat) (x1_ : Int32) : MM Int32 := fX4_powerOf_4 c_fu a0_ x1_ 0 0
set_option maxRecDepth 100000 in
set_option maxHeartbeats 4000000 in
theorem tX4_powerOf_49 {p : Program} {l : Launch} {e : Env} {s : State} {m : MethodId} {args : Array Value} {below : List Frame} {meth : Method} {c : Code} {G : cG} (hO : c_Ok p s m c cX4_powerOf 6 RX4 G) (hr : meth.sig.returnType = (some .int)) (hk : meth.locks = false) (k50 : Nat → Int32 → Int32 → Int32 → Int32 → MM Int32) (hk50 : ∀ (aL0 : Nat) (xL1 : Int32) (xL2 : Int32) (xL3 : Int32) (xS0 : Int32), Sm p l e { frames := 1, cells := 0, slots := 0, locals := 20 } s m args below meth c G 6 (c_Q G c_vi below args s 0 0) 0 0 50 [(0, .ref aL0), (1, .int xL1), (2, .int xL2), (3, .int xL3)] [.int xS0] (k50 aL0 xL1 xL2 xL3 xS0))  : ∀ (aL0 : Nat) (xL1 : Int32) (xL2 : Int32) (xL3 : Int32), Sm p l e { frames := 1, cells := 0, slots := 0, locals := 20 } s m args below meth c G 6 (c_Q G c_vi below args s 0 0) 0 0 49 [(0, .ref aL0), (1, .int xL1), (2, .int xL2), (3, .int xL3)] [] (fX4_powerOf_49 k50 aL0 xL1 xL2 xL3) := by
  intro aL0 xL1 xL2 xL3
  rw [fX4_powerOf_49]
  refine sm_iconst (v := 0) hO dX4_powerOf_49 rfl ?_
  exact sm_sub [0, 1, 2, 3] rfl (hk50 aL0 xL1 xL2 xL3 0)
set_option maxRecDepth 100000 in
set_option maxHeartbeats 4000000 in
theorem tX4_powerOf_94 {p : Program} {l : Launch} {e : Env} {s : State} {m : MethodId} {args : Array Value} {below : List Frame} {meth : Method} {c : Code} {G : cG} (hO : c_Ok p s m c cX4_powerOf 6 RX4 G) (hr : meth.sig.returnType = (some .int)) (hk : meth.locks = false) (k4 : Nat → Int32 → Int32 → Int32 → MM Int32) (hk4 : ∀ (aL0 : Nat) (xL1 : Int32) (xL2 : Int32) (xL3 : Int32), Sm p l e { frames := 1, cells := 0, slots := 0, locals := 20 } s m args below meth c G 6 (c_Q G c_vi below args s 0 0) 0 0 4 [(0, .ref aL0), (1, .int xL1), (2, .int xL2), (3, .int xL3)] [] (k4 aL0 xL1 xL2 xL3))  : ∀ (aL0 : Nat) (xL1 : Int32) (xL2 : Int32) (xL3 : Int32), Sm p l e { frames := 1, cells := 0, slots := 0, locals := 20 } s m args below meth c G 6 (c_Q G c_vi below args s 0 0) 0 0 94 [(0, .ref aL0), (1, .int xL1), (2, .int xL2), (3, .int xL3)] [] (fX4_powerOf_94 k4 aL0 xL1 xL2 xL3) := by
  intro aL0 xL1 xL2 xL3
  rw [fX4_powerOf_94]
  refine sm_iincL (v := xL3 + 1) hO 3 (fun x1 => [(3, .int x1), (0, .ref aL0), (1, .int xL1), (2, .int xL2)]) dX4_powerOf_94 rfl rfl (by decide) (fun _ => rfl) (fun x1 => ?_)
  refine sm_goto (tgt := 4) hO dX4_powerOf_97 (by decide) ?_
  exact sm_sub [1, 2, 3, 0] rfl (hk4 aL0 xL1 xL2 x1)
set_option maxRecDepth 100000 in
set_option maxHeartbeats 4000000 in
theorem tX4_powerOf_50 {p : Program} {l : Launch} {e : Env} {s : State} {m : MethodId} {args : Array Value} {below : List Frame} {meth : Method} {c : Code} {G : cG} (hO : c_Ok p s m c cX4_powerOf 6 RX4 G) (hr : meth.sig.returnType = (some .int)) (hk : meth.locks = false) (k4 : Nat → Int32 → Int32 → Int32 → MM Int32) (hk4 : ∀ (aL0 : Nat) (xL1 : Int32) (xL2 : Int32) (xL3 : Int32), Sm p l e { frames := 1, cells := 0, slots := 0, locals := 20 } s m args below meth c G 6 (c_Q G c_vi below args s 0 0) 0 0 4 [(0, .ref aL0), (1, .int xL1), (2, .int xL2), (3, .int xL3)] [] (k4 aL0 xL1 xL2 xL3))  : ∀ (aL0 : Nat) (xL1 : Int32) (xL2 : Int32) (xL3 : Int32) (xS0 : Int32), Sm p l e { frames := 1, cells := 0, slots := 0, locals := 20 } s m args below meth c G 6 (c_Q G c_vi below args s 0 0) 0 0 50 [(0, .ref aL0), (1, .int xL1), (2, .int xL2), (3, .int xL3)] [.int xS0] (fX4_powerOf_50 k4 aL0 xL1 xL2 xL3 xS0) := by
  intro aL0 xL1 xL2 xL3 xS0
  rw [fX4_powerOf_50]
  refine sm_istore hO [(4, .int xS0), (0, .ref aL0), (1, .int xL1), (2, .int xL2), (3, .int xL3)] dX4_powerOf_50 (by decide) rfl ?_
  refine sm_iload_n hO 4 dX4_powerOf_52 rfl rfl ?_
  refine sm_iload_n hO 2 dX4_powerOf_53 rfl rfl ?_
  refine sm_ishr hO dX4_powerOf_54 ?_
  refine sm_iconst (v := 1) hO dX4_powerOf_55 rfl ?_
  refine sm_iand hO dX4_powerOf_56 ?_
  refine sm_if_ne (tgt := 94) hO dX4_powerOf_57 (by decide) ?_ ?_
  · exact sm_sub [1, 2, 3, 4] rfl (tX4_powerOf_94 hO hr hk k4 hk4 aL0 xL1 xL2 xL3)
  · refine sm_iload hO 0 dX4_powerOf_60 rfl ?_
    refine sm_if_eq (tgt := 94) hO dX4_powerOf_62 (by decide) ?_ ?_
    · exact sm_sub [1, 2, 3, 4] rfl (tX4_powerOf_94 hO hr hk k4 hk4 aL0 xL1 xL2 xL3)
    · refine sm_iload_n hO 4 dX4_powerOf_65 rfl rfl ?_
      refine sm_csi hO (ctJ6_bitCount_0f7a4 l G xL3) cw_RX4_51 kw_472 [] rfl rfl ⟨(Nat.le_of_ble_eq_true rfl), (Nat.le_of_ble_eq_true rfl)⟩ ⟨(Nat.le_of_ble_eq_true rfl), (Nat.le_of_ble_eq_true rfl)⟩ (Nat.le_of_ble_eq_true rfl) dX4_powerOf_66 (fun x1 => ?_)
      refine sm_istore hO [(5, .int x1), (4, .int xS0), (0, .ref aL0), (1, .int xL1), (2, .int xL2), (3, .int xL3)] dX4_powerOf_69 (by decide) rfl ?_
      refine sm_iload_n hO 4 dX4_powerOf_71 rfl rfl ?_
      refine sm_gets hO 0 (Or.inl ⟨rfl, rfl⟩) kw_530 dX4_powerOf_72 ?_
      refine sm_iload hO 0 dX4_powerOf_75 rfl ?_
      refine sm_li hO dX4_powerOf_77 (fun x2 => ?_)
      refine sm_gets hO 0 (Or.inl ⟨rfl, rfl⟩) kw_530 dX4_powerOf_78 ?_
      refine sm_aload_n hO 2 dX4_powerOf_81 rfl rfl ?_
      refine sm_gi hO fl_RX4_27 dX4_powerOf_82 (fun x3 => ?_)
      refine sm_iconst (v := 1) hO dX4_powerOf_85 rfl ?_
      refine sm_isub hO dX4_powerOf_86 ?_
      refine sm_iload hO 0 dX4_powerOf_87 rfl ?_
      refine sm_isub hO dX4_powerOf_89 ?_
      refine sm_li hO dX4_powerOf_90 (fun x4 => ?_)
      refine sm_imul hO dX4_powerOf_91 ?_
      refine sm_iadd hO dX4_powerOf_92 ?_
      refine sm_topi (fun x5 => ?_)
      refine sm_istore_n hO [(2, .int x5), (5, .int x1), (4, .int xS0), (0, .ref aL0), (1, .int xL1), (3, .int xL3)] dX4_powerOf_93 rfl (by decide) rfl ?_
      exact sm_sub [3, 4, 0, 5] rfl (tX4_powerOf_94 hO hr hk k4 hk4 aL0 xL1 x5 xL3)
set_option maxRecDepth 100000 in
set_option maxHeartbeats 4000000 in
theorem tX4_powerOf_4 {p : Program} {l : Launch} {e : Env} {s : State} {m : MethodId} {args : Array Value} {below : List Frame} {meth : Method} {c : Code} {G : cG} (hO : c_Ok p s m c cX4_powerOf 6 RX4 G) (hr : meth.sig.returnType = (some .int)) (hk : meth.locks = false) : ∀ (n : Nat) (aL0 : Nat) (xL1 : Int32) (xL2 : Int32) (xL3 : Int32), Sm p l e { frames := 1, cells := 0, slots := 0, locals := 20 } s m args below meth c G 6 (c_Q G c_vi below args s 0 0) 0 0 4 [(0, .ref aL0), (1, .int xL1), (2, .int xL2), (3, .int xL3)] [] (fX4_powerOf_4 n aL0 xL1 xL2 xL3) := by
  intro n
  induction n with
  | zero =>
    intro aL0 xL1 xL2 xL3
    exact sm_bad
  | succ n ih =>
    intro aL0 xL1 xL2 xL3
    rw [fX4_powerOf_4]
    refine sm_iload_n hO 3 dX4_powerOf_4 rfl rfl ?_
    refine sm_aload_n hO 0 dX4_powerOf_5 rfl rfl ?_
    refine sm_cvi hO (ctX4_allCourts l G aL0) cw_RX4_47 cv_X4_allCourts [.int xL3] rfl rfl ⟨(Nat.le_of_ble_eq_true rfl), (Nat.le_of_ble_eq_true rfl)⟩ ⟨(Nat.le_of_ble_eq_true rfl), (Nat.le_of_ble_eq_true rfl)⟩ (Nat.le_of_ble_eq_true rfl) dX4_powerOf_6 (fun x1 => ?_)
    refine sm_icmp_gt (tgt := 100) hO dX4_powerOf_9 (by decide) ?_ ?_
    · refine sm_iload_n hO 2 dX4_powerOf_100 rfl rfl ?_
      exact sm_iret hO hr hk (Nat.le_of_ble_eq_true rfl) (Nat.le_of_ble_eq_true rfl) dX4_powerOf_101
    · refine sm_aload_n hO 0 dX4_powerOf_12 rfl rfl ?_
      refine sm_gr hO fl_RX4_24 dX4_powerOf_13 (fun a2 => ?_)
      refine sm_iload_n hO 3 dX4_powerOf_16 rfl rfl ?_
      refine sm_li hO dX4_powerOf_17 (fun x3 => ?_)
      refine sm_aload_n hO 0 dX4_powerOf_18 rfl rfl ?_
      refine sm_gi hO fl_RX4_37 dX4_powerOf_19 (fun x4 => ?_)
      refine sm_icmp_ge (tgt := 49) hO dX4_powerOf_22 (by decide) ?_ ?_
      · exact sm_sub [0, 1, 2, 3] rfl (tX4_powerOf_49 hO hr hk (fX4_powerOf_50 (fX4_powerOf_4 n)) (tX4_powerOf_50 hO hr hk (fX4_powerOf_4 n) ih) aL0 xL1 xL2 xL3)
      · refine sm_aload_n hO 0 dX4_powerOf_25 rfl rfl ?_
        refine sm_gr hO fl_RX4_24 dX4_powerOf_26 (fun a5 => ?_)
        refine sm_iload_n hO 3 dX4_powerOf_29 rfl rfl ?_
        refine sm_li hO dX4_powerOf_30 (fun x6 => ?_)
        refine sm_aload_n hO 0 dX4_powerOf_31 rfl rfl ?_
        refine sm_gr hO fl_RX4_9 dX4_powerOf_32 (fun a7 => ?_)
        refine sm_iload_n hO 1 dX4_powerOf_35 rfl rfl ?_
        refine sm_li hO dX4_powerOf_36 (fun x8 => ?_)
        refine sm_iadd hO dX4_powerOf_37 ?_
        refine sm_aload_n hO 0 dX4_powerOf_38 rfl rfl ?_
        refine sm_gi hO fl_RX4_37 dX4_powerOf_39 (fun x9 => ?_)
        refine sm_icmp_lt (tgt := 49) hO dX4_powerOf_42 (by decide) ?_ ?_
        · exact sm_sub [0, 1, 2, 3] rfl (tX4_powerOf_49 hO hr hk (fX4_powerOf_50 (fX4_powerOf_4 n)) (tX4_powerOf_50 hO hr hk (fX4_powerOf_4 n) ih) aL0 xL1 xL2 xL3)
        · refine sm_iconst (v := 1) hO dX4_powerOf_45 rfl ?_
          refine sm_goto (tgt := 50) hO dX4_powerOf_46 (by decide) ?_
          exact sm_sub [0, 1, 2, 3] rfl (tX4_powerOf_50 hO hr hk (fX4_powerOf_4 n) ih aL0 xL1 xL2 xL3 1)
set_option maxRecDepth 100000 in
set_option maxHeartbeats 4000000 in
theorem ctX4_powerOf (l : Launch) (G : cG) (a0_ : Nat) (x1_ : Int32) : Ct l G yX4_powerOf cX4_powerOf 6 (some .int) 1 20 0 0 [.ref a0_, .int x1_] c_vi (pX4_powerOf a0_ x1_) := by
  refine Ct.of (lv := [(0, .ref a0_), (1, .int x1_)]) (by decide) (Nat.le_of_ble_eq_true rfl) rfl (fun p e s m args below meth c hO hr hk hin => ?_)
  rw [pX4_powerOf]
  refine sm_iconst (v := 0) hO dX4_powerOf_0 rfl ?_
  refine sm_istore_n hO [(2, .int 0), (0, .ref a0_), (1, .int x1_)] dX4_powerOf_1 rfl (by decide) rfl ?_
  refine sm_iconst (v := 0) hO dX4_powerOf_2 rfl ?_
  refine sm_istore_n hO [(3, .int 0), (2, .int 0), (0, .ref a0_), (1, .int x1_)] dX4_powerOf_3 rfl (by decide) rfl ?_
  exact sm_sub [2, 3, 1, 0] rfl (tX4_powerOf_4 hO hr hk c_fu a0_ x1_ 0 0)
/-! DollCongress.court(II)I -/
def pX9_court (a0_ : Nat) (x1_ : Int32) (x2_ : Int32) : MM Int32 := m_gr a0_ 8 7 (fun a1 => m_cv a1 4 (pX4_hasCourt a1 x1_) (fun x2 => if x2 = 0 then (m_ret ((-1000000001) : Int32)) else (if x2_ = 0 then (m_gr a0_ 8 7 (fun a14 => m_gr a14 4 0 (fun a15 => m_li 0 a15 x1_ (fun x16 => m_ret x16)))) else (if x2_ = 1 then (m_gr a0_ 8 1 (fun a11 => m_gr a11 5 0 (fun a12 => m_cv a0_ 8 (pX9_dollsWith a0_ a12 x1_) (fun x13 => m_ret x13)))) else (if x2_ = 2 then (m_gr a0_ 8 7 (fun a8 => m_gr a8 4 2 (fun a9 => m_cv a0_ 8 (pX9_dollsWith a0_ a9 x1_) (fun x10 => m_ret x10)))) else (if x2_ = 3 then (m_gr a0_ 8 1 (fun a5 => m_gr a0_ 8 7 (fun a6 => m_cv a5 5 (pX5_nodding a5 a6) (fun x7 => m_ret ((x7 >>> (x1_ &&& 31)) &&& 1))))) else (if x2_ = 4 then (m_gr a0_ 8 7 (fun a3 => m_cv a3 4 (pX4_powerOf a3 x1_) (fun x4 => m_ret x4))) else (m_ret ((-1000000002) : Int32)))))))))
set_option maxRecDepth 100000 in
set_option maxHeartbeats 4000000 in
theorem ctX9_court (l : Launch) (G : cG) (a0_ : Nat) (x1_ : Int32) (x2_ : Int32) : Ct l G yX9_court cX9_court 3 (some .int) 2 45 0 0 [.ref a0_, .int x1_, .int x2_] c_vi (pX9_court a0_ x1_ x2_) := by
  refine Ct.of (lv := [(0, .ref a0_), (1, .int x1_), (2, .int x2_)]) (by decide) (Nat.le_of_ble_eq_true rfl) rfl (fun p e s m args below meth c hO hr hk hin => ?_)
  rw [pX9_court]
  refine sm_aload_n hO 0 dX9_court_0 rfl rfl ?_
  refine sm_gr hO fl_RX9_60 dX9_court_1 (fun a1 => ?_)
  refine sm_iload_n hO 1 dX9_court_4 rfl rfl ?_
  refine sm_cvi hO (ctX4_hasCourt l G a1 x1_) cw_RX9_179 cv_X4_hasCourt [] rfl rfl ⟨(Nat.le_of_ble_eq_true rfl), (Nat.le_of_ble_eq_true rfl)⟩ ⟨(Nat.le_of_ble_eq_true rfl), (Nat.le_of_ble_eq_true rfl)⟩ (Nat.le_of_ble_eq_true rfl) dX9_court_5 (fun x2 => ?_)
  refine sm_if_ne (tgt := 14) hO dX9_court_8 (by decide) ?_ ?_
  · refine sm_iload_n hO 2 dX9_court_14 rfl rfl ?_
    refine sm_ite (fun q15_0 => ?_) (fun q15_0 => ?_)
    · refine sm_tabIn (tgt := 48) hO dX9_court_15 q15_0 (by decide) (by decide) rfl (by decide) ?_
      refine sm_aload_n hO 0 dX9_court_48 rfl rfl ?_
      refine sm_gr hO fl_RX9_60 dX9_court_49 (fun a14 => ?_)
      refine sm_gr hO fl_RX9_182 dX9_court_52 (fun a15 => ?_)
      refine sm_iload_n hO 1 dX9_court_55 rfl rfl ?_
      refine sm_li hO dX9_court_56 (fun x16 => ?_)
      exact sm_iret hO hr hk (Nat.le_of_ble_eq_true rfl) (Nat.le_of_ble_eq_true rfl) dX9_court_57
    · refine sm_ite (fun q15_1 => ?_) (fun q15_1 => ?_)
      · refine sm_tabIn (tgt := 58) hO dX9_court_15 q15_1 (by decide) (by decide) rfl (by decide) ?_
        refine sm_aload_n hO 0 dX9_court_58 rfl rfl ?_
        refine sm_aload_n hO 0 dX9_court_59 rfl rfl ?_
        refine sm_gr hO fl_RX9_19 dX9_court_60 (fun a11 => ?_)
        refine sm_gr hO fl_RX9_164 dX9_court_63 (fun a12 => ?_)
        refine sm_iload_n hO 1 dX9_court_66 rfl rfl ?_
        refine sm_cvi hO (ctX9_dollsWith l G a0_ a12 x1_) cw_RX9_185 cv_X9_dollsWith [] rfl rfl ⟨(Nat.le_of_ble_eq_true rfl), (Nat.le_of_ble_eq_true rfl)⟩ ⟨(Nat.le_of_ble_eq_true rfl), (Nat.le_of_ble_eq_true rfl)⟩ (Nat.le_of_ble_eq_true rfl) dX9_court_67 (fun x13 => ?_)
        exact sm_iret hO hr hk (Nat.le_of_ble_eq_true rfl) (Nat.le_of_ble_eq_true rfl) dX9_court_70
      · refine sm_ite (fun q15_2 => ?_) (fun q15_2 => ?_)
        · refine sm_tabIn (tgt := 71) hO dX9_court_15 q15_2 (by decide) (by decide) rfl (by decide) ?_
          refine sm_aload_n hO 0 dX9_court_71 rfl rfl ?_
          refine sm_aload_n hO 0 dX9_court_72 rfl rfl ?_
          refine sm_gr hO fl_RX9_60 dX9_court_73 (fun a8 => ?_)
          refine sm_gr hO fl_RX9_161 dX9_court_76 (fun a9 => ?_)
          refine sm_iload_n hO 1 dX9_court_79 rfl rfl ?_
          refine sm_cvi hO (ctX9_dollsWith l G a0_ a9 x1_) cw_RX9_185 cv_X9_dollsWith [] rfl rfl ⟨(Nat.le_of_ble_eq_true rfl), (Nat.le_of_ble_eq_true rfl)⟩ ⟨(Nat.le_of_ble_eq_true rfl), (Nat.le_of_ble_eq_true rfl)⟩ (Nat.le_of_ble_eq_true rfl) dX9_court_80 (fun x10 => ?_)
          exact sm_iret hO hr hk (Nat.le_of_ble_eq_true rfl) (Nat.le_of_ble_eq_true rfl) dX9_court_83
        · refine sm_ite (fun q15_3 => ?_) (fun q15_3 => ?_)
          · refine sm_tabIn (tgt := 84) hO dX9_court_15 q15_3 (by decide) (by decide) rfl (by decide) ?_
            refine sm_aload_n hO 0 dX9_court_84 rfl rfl ?_
            refine sm_gr hO fl_RX9_19 dX9_court_85 (fun a5 => ?_)
            refine sm_aload_n hO 0 dX9_court_88 rfl rfl ?_
            refine sm_gr hO fl_RX9_60 dX9_court_89 (fun a6 => ?_)
            refine sm_cvi hO (ctX5_nodding l G a5 a6) cw_RX9_128 cv_X5_nodding [] rfl rfl ⟨(Nat.le_of_ble_eq_true rfl), (Nat.le_of_ble_eq_true rfl)⟩ ⟨(Nat.le_of_ble_eq_true rfl), (Nat.le_of_ble_eq_true rfl)⟩ (Nat.le_of_ble_eq_true rfl) dX9_court_92 (fun x7 => ?_)
            refine sm_iload_n hO 1 dX9_court_95 rfl rfl ?_
            refine sm_ishr hO dX9_court_96 ?_
            refine sm_iconst (v := 1) hO dX9_court_97 rfl ?_
            refine sm_iand hO dX9_court_98 ?_
            exact sm_iret hO hr hk (Nat.le_of_ble_eq_true rfl) (Nat.le_of_ble_eq_true rfl) dX9_court_99
          · refine sm_ite (fun q15_4 => ?_) (fun q15_4 => ?_)
            · refine sm_tabIn (tgt := 100) hO dX9_court_15 q15_4 (by decide) (by decide) rfl (by decide) ?_
              refine sm_aload_n hO 0 dX9_court_100 rfl rfl ?_
              refine sm_gr hO fl_RX9_60 dX9_court_101 (fun a3 => ?_)
              refine sm_iload_n hO 1 dX9_court_104 rfl rfl ?_
              refine sm_cvi hO (ctX4_powerOf l G a3 x1_) cw_RX9_189 cv_X4_powerOf [] rfl rfl ⟨(Nat.le_of_ble_eq_true rfl), (Nat.le_of_ble_eq_true rfl)⟩ ⟨(Nat.le_of_ble_eq_true rfl), (Nat.le_of_ble_eq_true rfl)⟩ (Nat.le_of_ble_eq_true rfl) dX9_court_105 (fun x4 => ?_)
              exact sm_iret hO hr hk (Nat.le_of_ble_eq_true rfl) (Nat.le_of_ble_eq_true rfl) dX9_court_108
            · refine sm_tabOut (tgt := 109) hO dX9_court_15 (c_ne_lo (n := 5) (by decide) (fun k hk => match k, hk with | 0, _ => q15_0 | 1, _ => q15_1 | 2, _ => q15_2 | 3, _ => q15_3 | 4, _ => q15_4 | k + 5, hk => absurd hk (by omega))) (by decide) ?_
              refine sm_ldc (v := (-1000000002)) hO kw_362 dX9_court_109 ?_
              exact sm_iret hO hr hk (Nat.le_of_ble_eq_true rfl) (Nat.le_of_ble_eq_true rfl) dX9_court_111
  · refine sm_ldc (v := (-1000000001)) hO kw_512 dX9_court_11 ?_
    exact sm_iret hO hr hk (Nat.le_of_ble_eq_true rfl) (Nat.le_of_ble_eq_true rfl) dX9_court_13
