/-! DollCongressModel.wantedBy(I)I -/
def fX10_wantedBy_88 (k89 : Nat → Int32 → Int32 → Int32 → Int32 → Int32 → Int32 → MM Int32) (aL0 : Nat) (xL1 : Int32) (xL2 : Int32) (xL3 : Int32) (xL4 : Int32) (xL5 : Int32) : MM Int32 := k89 aL0 xL1 xL2 xL3 xL4 xL5 0
def fX10_wantedBy_102 (k23 : Nat → Int32 → Int32 → Int32 → Int32 → Int32 → MM Int32) (aL0 : Nat) (xL1 : Int32) (xL2 : Int32) (xL4 : Int32) (xL5 : Int32) (xS0 : Int32) : MM Int32 := m_let (xL5 + (-1)) (fun x1 => k23 aL0 xL1 xL2 xS0 xL4 x1)
def fX10_wantedBy_89 (k23 : Nat → Int32 → Int32 → Int32 → Int32 → Int32 → MM Int32) (aL0 : Nat) (xL1 : Int32) (xL2 : Int32) (xL3 : Int32) (xL4 : Int32) (xL5 : Int32) (xS0 : Int32) : MM Int32 := if xS0 = 0 then (fX10_wantedBy_102 k23 aL0 xL1 xL2 xL4 xL5 xL3) else (fX10_wantedBy_102 k23 aL0 xL1 xL2 xL4 xL5 xL5)
def fX10_wantedBy_23 (k109 : Nat → Int32 → Int32 → Int32 → Int32 → MM Int32) : Nat → Nat → Int32 → Int32 → Int32 → Int32 → Int32 → MM Int32
  | 0, _, _, _, _, _, _ => m_bad
  | n + 1, aL0, xL1, xL2, xL3, xL4, xL5 => if xL5 < 0 then (k109 aL0 xL1 xL2 xL3 xL4) else (m_bind (pX10_has xL2 xL5) (fun x1 => if x1 = 0 then (m_cv aL0 9 (pX10_pleases aL0 xL5 xL4) (fun x2 => m_gr aL0 9 30 (fun a3 => m_li 0 a3 ((((256 : Int32) * xL4) + 256) + (xL2 ||| ((1 : Int32) <<< (xL5 &&& 31)))) (fun x4 => m_gr aL0 9 30 (fun a5 => m_li 0 a5 (((256 : Int32) * xL4) + xL2) (fun x6 => if (x2 + x4) = x6 then (fX10_wantedBy_89 (fX10_wantedBy_23 k109 n) aL0 xL1 xL2 xL3 xL4 xL5 1) else (fX10_wantedBy_88 (fX10_wantedBy_89 (fX10_wantedBy_23 k109 n)) aL0 xL1 xL2 xL3 xL4 xL5))))))) else (fX10_wantedBy_88 (fX10_wantedBy_89 (fX10_wantedBy_23 k109 n)) aL0 xL1 xL2 xL3 xL4 xL5)))
def fX10_wantedBy_121 (k7 : Nat → Int32 → Int32 → Int32 → Int32 → MM Int32) (aL0 : Nat) (xL1 : Int32) (xL3 : Int32) (xL4 : Int32) (xS0 : Int32) (xS1 : Int32) : MM Int32 := m_let (xS1 ||| xS0) (fun x1 => m_let (xL4 + 1) (fun x2 => k7 aL0 xL1 x1 xL3 x2))
def fX10_wantedBy_109 (k7 : Nat → Int32 → Int32 → Int32 → Int32 → MM Int32) (aL0 : Nat) (xL1 : Int32) (xL2 : Int32) (xL3 : Int32) (xL4 : Int32) : MM Int32 := if 0 ≤ xL3 then (fX10_wantedBy_121 k7 aL0 xL1 xL3 xL4 ((1 : Int32) <<< (xL3 &&& 31)) xL2) else (fX10_wantedBy_121 k7 aL0 xL1 xL3 xL4 0 xL2)
def fX10_wantedBy_7  : Nat → Nat → Int32 → Int32 → Int32 → Int32 → MM Int32
  | 0, _, _, _, _, _ => m_bad
  | n + 1, aL0, xL1, xL2, xL3, xL4 => if xL1 < xL4 then (m_ret xL3) else (m_gi aL0 9 2 (fun x1 => m_let (x1 - 1) (fun x2 => fX10_wantedBy_23 (fX10_wantedBy_109 (fX10_wantedBy_7 n)) c_fu aL0 xL1 xL2 ((-1)) xL4 x2)))
def pX10_wantedBy (a0_ : Nat) (x1_ : Int32) : MM Int32 := fX10_wantedBy_7 c_fu a0_ x1_ 0 ((-1)) 0
set_option maxRecDepth 100000 in
set_option maxHeartbeats 4000000 in
theorem tX10_wantedBy_88 {p : Program} {l : Launch} {e : Env} {s : State} {m : MethodId} {args : Array Value} {below : List Frame} {meth : Method} {c : Code} {G : cG} (hO : c_Ok p s m c cX10_wantedBy 7 RX10 G) (hr : meth.sig.returnType = (some .int)) (hk : meth.locks = false) (k89 : Nat → Int32 → Int32 → Int32 → Int32 → Int32 → Int32 → MM Int32) (hk89 : ∀ (aL0 : Nat) (xL1 : Int32) (xL2 : Int32) (xL3 : Int32) (xL4 : Int32) (xL5 : Int32) (xS0 : Int32), Sm p l e { frames := 2, cells := 0, slots := 0, locals := 46 } s m args below meth c G 7 (c_Q G c_vi below args s 0 0) 0 0 89 [(0, .ref aL0), (1, .int xL1), (2, .int xL2), (3, .int xL3), (4, .int xL4), (5, .int xL5)] [.int xS0] (k89 aL0 xL1 xL2 xL3 xL4 xL5 xS0))  : ∀ (aL0 : Nat) (xL1 : Int32) (xL2 : Int32) (xL3 : Int32) (xL4 : Int32) (xL5 : Int32), Sm p l e { frames := 2, cells := 0, slots := 0, locals := 46 } s m args below meth c G 7 (c_Q G c_vi below args s 0 0) 0 0 88 [(0, .ref aL0), (1, .int xL1), (2, .int xL2), (3, .int xL3), (4, .int xL4), (5, .int xL5)] [] (fX10_wantedBy_88 k89 aL0 xL1 xL2 xL3 xL4 xL5) := by
  intro aL0 xL1 xL2 xL3 xL4 xL5
  rw [fX10_wantedBy_88]
  refine sm_iconst (v := 0) hO dX10_wantedBy_88 rfl ?_
  exact sm_sub [0, 1, 2, 3, 4, 5] rfl (hk89 aL0 xL1 xL2 xL3 xL4 xL5 0)
set_option maxRecDepth 100000 in
set_option maxHeartbeats 4000000 in
theorem tX10_wantedBy_102 {p : Program} {l : Launch} {e : Env} {s : State} {m : MethodId} {args : Array Value} {below : List Frame} {meth : Method} {c : Code} {G : cG} (hO : c_Ok p s m c cX10_wantedBy 7 RX10 G) (hr : meth.sig.returnType = (some .int)) (hk : meth.locks = false) (k23 : Nat → Int32 → Int32 → Int32 → Int32 → Int32 → MM Int32) (hk23 : ∀ (aL0 : Nat) (xL1 : Int32) (xL2 : Int32) (xL3 : Int32) (xL4 : Int32) (xL5 : Int32), Sm p l e { frames := 2, cells := 0, slots := 0, locals := 46 } s m args below meth c G 7 (c_Q G c_vi below args s 0 0) 0 0 23 [(0, .ref aL0), (1, .int xL1), (2, .int xL2), (3, .int xL3), (4, .int xL4), (5, .int xL5)] [] (k23 aL0 xL1 xL2 xL3 xL4 xL5))  : ∀ (aL0 : Nat) (xL1 : Int32) (xL2 : Int32) (xL4 : Int32) (xL5 : Int32) (xS0 : Int32), Sm p l e { frames := 2, cells := 0, slots := 0, locals := 46 } s m args below meth c G 7 (c_Q G c_vi below args s 0 0) 0 0 102 [(0, .ref aL0), (1, .int xL1), (2, .int xL2), (4, .int xL4), (5, .int xL5)] [.int xS0] (fX10_wantedBy_102 k23 aL0 xL1 xL2 xL4 xL5 xS0) := by
  intro aL0 xL1 xL2 xL4 xL5 xS0
  rw [fX10_wantedBy_102]
  refine sm_istore_n hO [(3, .int xS0), (0, .ref aL0), (1, .int xL1), (2, .int xL2), (4, .int xL4), (5, .int xL5)] dX10_wantedBy_102 rfl (by decide) rfl ?_
  refine sm_iincL (v := xL5 + (-1)) hO 5 (fun x1 => [(5, .int x1), (3, .int xS0), (0, .ref aL0), (1, .int xL1), (2, .int xL2), (4, .int xL4)]) dX10_wantedBy_103 rfl rfl (by decide) (fun _ => rfl) (fun x1 => ?_)
  refine sm_goto (tgt := 23) hO dX10_wantedBy_106 (by decide) ?_
  exact sm_sub [2, 3, 4, 1, 5, 0] rfl (hk23 aL0 xL1 xL2 xS0 xL4 x1)
set_option maxRecDepth 100000 in
set_option maxHeartbeats 4000000 in
theorem tX10_wantedBy_89 {p : Program} {l : Launch} {e : Env} {s : State} {m : MethodId} {args : Array Value} {below : List Frame} {meth : Method} {c : Code} {G : cG} (hO : c_Ok p s m c cX10_wantedBy 7 RX10 G) (hr : meth.sig.returnType = (some .int)) (hk : meth.locks = false) (k23 : Nat → Int32 → Int32 → Int32 → Int32 → Int32 → MM Int32) (hk23 : ∀ (aL0 : Nat) (xL1 : Int32) (xL2 : Int32) (xL3 : Int32) (xL4 : Int32) (xL5 : Int32), Sm p l e { frames := 2, cells := 0, slots := 0, locals := 46 } s m args below meth c G 7 (c_Q G c_vi below args s 0 0) 0 0 23 [(0, .ref aL0), (1, .int xL1), (2, .int xL2), (3, .int xL3), (4, .int xL4), (5, .int xL5)] [] (k23 aL0 xL1 xL2 xL3 xL4 xL5))  : ∀ (aL0 : Nat) (xL1 : Int32) (xL2 : Int32) (xL3 : Int32) (xL4 : Int32) (xL5 : Int32) (xS0 : Int32), Sm p l e { frames := 2, cells := 0, slots := 0, locals := 46 } s m args below meth c G 7 (c_Q G c_vi below args s 0 0) 0 0 89 [(0, .ref aL0), (1, .int xL1), (2, .int xL2), (3, .int xL3), (4, .int xL4), (5, .int xL5)] [.int xS0] (fX10_wantedBy_89 k23 aL0 xL1 xL2 xL3 xL4 xL5 xS0) := by
  intro aL0 xL1 xL2 xL3 xL4 xL5 xS0
  rw [fX10_wantedBy_89]
  refine sm_istore hO [(6, .int xS0), (0, .ref aL0), (1, .int xL1), (2, .int xL2), (3, .int xL3), (4, .int xL4), (5, .int xL5)] dX10_wantedBy_89 (by decide) rfl ?_
  refine sm_iload hO 0 dX10_wantedBy_91 rfl ?_
  refine sm_if_eq (tgt := 101) hO dX10_wantedBy_93 (by decide) ?_ ?_
  · refine sm_iload_n hO 4 dX10_wantedBy_101 rfl rfl ?_
    exact sm_sub [1, 2, 3, 5, 6] rfl (tX10_wantedBy_102 hO hr hk k23 hk23 aL0 xL1 xL2 xL4 xL5 xL3)
  · refine sm_iload hO 6 dX10_wantedBy_96 rfl ?_
    refine sm_goto (tgt := 102) hO dX10_wantedBy_98 (by decide) ?_
    exact sm_sub [1, 2, 3, 5, 6] rfl (tX10_wantedBy_102 hO hr hk k23 hk23 aL0 xL1 xL2 xL4 xL5 xL5)
set_option maxRecDepth 100000 in
set_option maxHeartbeats 4000000 in
theorem tX10_wantedBy_23 {p : Program} {l : Launch} {e : Env} {s : State} {m : MethodId} {args : Array Value} {below : List Frame} {meth : Method} {c : Code} {G : cG} (hO : c_Ok p s m c cX10_wantedBy 7 RX10 G) (hr : meth.sig.returnType = (some .int)) (hk : meth.locks = false) (k109 : Nat → Int32 → Int32 → Int32 → Int32 → MM Int32) (hk109 : ∀ (aL0 : Nat) (xL1 : Int32) (xL2 : Int32) (xL3 : Int32) (xL4 : Int32), Sm p l e { frames := 2, cells := 0, slots := 0, locals := 46 } s m args below meth c G 7 (c_Q G c_vi below args s 0 0) 0 0 109 [(0, .ref aL0), (1, .int xL1), (2, .int xL2), (3, .int xL3), (4, .int xL4)] [] (k109 aL0 xL1 xL2 xL3 xL4))  : ∀ (n : Nat) (aL0 : Nat) (xL1 : Int32) (xL2 : Int32) (xL3 : Int32) (xL4 : Int32) (xL5 : Int32), Sm p l e { frames := 2, cells := 0, slots := 0, locals := 46 } s m args below meth c G 7 (c_Q G c_vi below args s 0 0) 0 0 23 [(0, .ref aL0), (1, .int xL1), (2, .int xL2), (3, .int xL3), (4, .int xL4), (5, .int xL5)] [] (fX10_wantedBy_23 k109 n aL0 xL1 xL2 xL3 xL4 xL5) := by
  intro n
  induction n with
  | zero =>
    intro aL0 xL1 xL2 xL3 xL4 xL5
    exact sm_bad
  | succ n ih =>
    intro aL0 xL1 xL2 xL3 xL4 xL5
    rw [fX10_wantedBy_23]
    refine sm_iload hO 5 dX10_wantedBy_23 rfl ?_
    refine sm_if_lt (tgt := 109) hO dX10_wantedBy_25 (by decide) ?_ ?_
    · exact sm_sub [0, 1, 2, 3, 4] rfl (hk109 aL0 xL1 xL2 xL3 xL4)
    · refine sm_iload_n hO 2 dX10_wantedBy_28 rfl rfl ?_
      refine sm_iload hO 5 dX10_wantedBy_29 rfl ?_
      refine sm_csi hO (ctX10_has l G xL2 xL5) cw_RX10_175 kw_985 [] rfl rfl ⟨(Nat.le_of_ble_eq_true rfl), (Nat.le_of_ble_eq_true rfl)⟩ ⟨(Nat.le_of_ble_eq_true rfl), (Nat.le_of_ble_eq_true rfl)⟩ (Nat.le_of_ble_eq_true rfl) dX10_wantedBy_31 (fun x1 => ?_)
      refine sm_if_ne (tgt := 88) hO dX10_wantedBy_34 (by decide) ?_ ?_
      · exact sm_sub [0, 1, 2, 3, 4, 5] rfl (tX10_wantedBy_88 hO hr hk (fX10_wantedBy_89 (fX10_wantedBy_23 k109 n)) (tX10_wantedBy_89 hO hr hk (fX10_wantedBy_23 k109 n) ih) aL0 xL1 xL2 xL3 xL4 xL5)
      · refine sm_aload_n hO 0 dX10_wantedBy_37 rfl rfl ?_
        refine sm_iload hO 5 dX10_wantedBy_38 rfl ?_
        refine sm_iload hO 4 dX10_wantedBy_40 rfl ?_
        refine sm_cvi hO (ctX10_pleases l G aL0 xL5 xL4) cw_RX10_311 cv_X10_pleases [] rfl rfl ⟨(Nat.le_of_ble_eq_true rfl), (Nat.le_of_ble_eq_true rfl)⟩ ⟨(Nat.le_of_ble_eq_true rfl), (Nat.le_of_ble_eq_true rfl)⟩ (Nat.le_of_ble_eq_true rfl) dX10_wantedBy_42 (fun x2 => ?_)
        refine sm_aload_n hO 0 dX10_wantedBy_45 rfl rfl ?_
        refine sm_gr hO fl_RX10_57 dX10_wantedBy_46 (fun a3 => ?_)
        refine sm_sipush (v := 256) hO dX10_wantedBy_49 rfl ?_
        refine sm_iload hO 4 dX10_wantedBy_52 rfl ?_
        refine sm_imul hO dX10_wantedBy_54 ?_
        refine sm_sipush (v := 256) hO dX10_wantedBy_55 rfl ?_
        refine sm_iadd hO dX10_wantedBy_58 ?_
        refine sm_iload_n hO 2 dX10_wantedBy_59 rfl rfl ?_
        refine sm_iconst (v := 1) hO dX10_wantedBy_60 rfl ?_
        refine sm_iload hO 5 dX10_wantedBy_61 rfl ?_
        refine sm_ishl hO dX10_wantedBy_63 ?_
        refine sm_ior hO dX10_wantedBy_64 ?_
        refine sm_iadd hO dX10_wantedBy_65 ?_
        refine sm_li hO dX10_wantedBy_66 (fun x4 => ?_)
        refine sm_iadd hO dX10_wantedBy_67 ?_
        refine sm_aload_n hO 0 dX10_wantedBy_68 rfl rfl ?_
        refine sm_gr hO fl_RX10_57 dX10_wantedBy_69 (fun a5 => ?_)
        refine sm_sipush (v := 256) hO dX10_wantedBy_72 rfl ?_
        refine sm_iload hO 4 dX10_wantedBy_75 rfl ?_
        refine sm_imul hO dX10_wantedBy_77 ?_
        refine sm_iload_n hO 2 dX10_wantedBy_78 rfl rfl ?_
        refine sm_iadd hO dX10_wantedBy_79 ?_
        refine sm_li hO dX10_wantedBy_80 (fun x6 => ?_)
        refine sm_icmp_ne (tgt := 88) hO dX10_wantedBy_81 (by decide) ?_ ?_
        · exact sm_sub [0, 1, 2, 3, 4, 5] rfl (tX10_wantedBy_88 hO hr hk (fX10_wantedBy_89 (fX10_wantedBy_23 k109 n)) (tX10_wantedBy_89 hO hr hk (fX10_wantedBy_23 k109 n) ih) aL0 xL1 xL2 xL3 xL4 xL5)
        · refine sm_iconst (v := 1) hO dX10_wantedBy_84 rfl ?_
          refine sm_goto (tgt := 89) hO dX10_wantedBy_85 (by decide) ?_
          exact sm_sub [0, 1, 2, 3, 4, 5] rfl (tX10_wantedBy_89 hO hr hk (fX10_wantedBy_23 k109 n) ih aL0 xL1 xL2 xL3 xL4 xL5 1)
set_option maxRecDepth 100000 in
set_option maxHeartbeats 4000000 in
theorem tX10_wantedBy_121 {p : Program} {l : Launch} {e : Env} {s : State} {m : MethodId} {args : Array Value} {below : List Frame} {meth : Method} {c : Code} {G : cG} (hO : c_Ok p s m c cX10_wantedBy 7 RX10 G) (hr : meth.sig.returnType = (some .int)) (hk : meth.locks = false) (k7 : Nat → Int32 → Int32 → Int32 → Int32 → MM Int32) (hk7 : ∀ (aL0 : Nat) (xL1 : Int32) (xL2 : Int32) (xL3 : Int32) (xL4 : Int32), Sm p l e { frames := 2, cells := 0, slots := 0, locals := 46 } s m args below meth c G 7 (c_Q G c_vi below args s 0 0) 0 0 7 [(0, .ref aL0), (1, .int xL1), (2, .int xL2), (3, .int xL3), (4, .int xL4)] [] (k7 aL0 xL1 xL2 xL3 xL4))  : ∀ (aL0 : Nat) (xL1 : Int32) (xL3 : Int32) (xL4 : Int32) (xS0 : Int32) (xS1 : Int32), Sm p l e { frames := 2, cells := 0, slots := 0, locals := 46 } s m args below meth c G 7 (c_Q G c_vi below args s 0 0) 0 0 121 [(0, .ref aL0), (1, .int xL1), (3, .int xL3), (4, .int xL4)] [.int xS0, .int xS1] (fX10_wantedBy_121 k7 aL0 xL1 xL3 xL4 xS0 xS1) := by
  intro aL0 xL1 xL3 xL4 xS0 xS1
  rw [fX10_wantedBy_121]
  refine sm_ior hO dX10_wantedBy_121 ?_
  refine sm_topi (fun x1 => ?_)
  refine sm_istore_n hO [(2, .int x1), (0, .ref aL0), (1, .int xL1), (3, .int xL3), (4, .int xL4)] dX10_wantedBy_122 rfl (by decide) rfl ?_
  refine sm_iincL (v := xL4 + 1) hO 4 (fun x2 => [(4, .int x2), (2, .int x1), (0, .ref aL0), (1, .int xL1), (3, .int xL3)]) dX10_wantedBy_123 rfl rfl (by decide) (fun _ => rfl) (fun x2 => ?_)
  refine sm_goto (tgt := 7) hO dX10_wantedBy_126 (by decide) ?_
  exact sm_sub [2, 3, 1, 4, 0] rfl (hk7 aL0 xL1 x1 xL3 x2)
set_option maxRecDepth 100000 in
set_option maxHeartbeats 4000000 in
theorem tX10_wantedBy_109 {p : Program} {l : Launch} {e : Env} {s : State} {m : MethodId} {args : Array Value} {below : List Frame} {meth : Method} {c : Code} {G : cG} (hO : c_Ok p s m c cX10_wantedBy 7 RX10 G) (hr : meth.sig.returnType = (some .int)) (hk : meth.locks = false) (k7 : Nat → Int32 → Int32 → Int32 → Int32 → MM Int32) (hk7 : ∀ (aL0 : Nat) (xL1 : Int32) (xL2 : Int32) (xL3 : Int32) (xL4 : Int32), Sm p l e { frames := 2, cells := 0, slots := 0, locals := 46 } s m args below meth c G 7 (c_Q G c_vi below args s 0 0) 0 0 7 [(0, .ref aL0), (1, .int xL1), (2, .int xL2), (3, .int xL3), (4, .int xL4)] [] (k7 aL0 xL1 xL2 xL3 xL4))  : ∀ (aL0 : Nat) (xL1 : Int32) (xL2 : Int32) (xL3 : Int32) (xL4 : Int32), Sm p l e { frames := 2, cells := 0, slots := 0, locals := 46 } s m args below meth c G 7 (c_Q G c_vi below args s 0 0) 0 0 109 [(0, .ref aL0), (1, .int xL1), (2, .int xL2), (3, .int xL3), (4, .int xL4)] [] (fX10_wantedBy_109 k7 aL0 xL1 xL2 xL3 xL4) := by
  intro aL0 xL1 xL2 xL3 xL4
  rw [fX10_wantedBy_109]
  refine sm_iload_n hO 2 dX10_wantedBy_109 rfl rfl ?_
  refine sm_iload_n hO 3 dX10_wantedBy_110 rfl rfl ?_
  refine sm_if_ge (tgt := 118) hO dX10_wantedBy_111 (by decide) ?_ ?_
  · refine sm_iconst (v := 1) hO dX10_wantedBy_118 rfl ?_
    refine sm_iload_n hO 3 dX10_wantedBy_119 rfl rfl ?_
    refine sm_ishl hO dX10_wantedBy_120 ?_
    exact sm_sub [0, 1, 3, 4] rfl (tX10_wantedBy_121 hO hr hk k7 hk7 aL0 xL1 xL3 xL4 ((1 : Int32) <<< (xL3 &&& 31)) xL2)
  · refine sm_iconst (v := 0) hO dX10_wantedBy_114 rfl ?_
    refine sm_goto (tgt := 121) hO dX10_wantedBy_115 (by decide) ?_
    exact sm_sub [0, 1, 3, 4] rfl (tX10_wantedBy_121 hO hr hk k7 hk7 aL0 xL1 xL3 xL4 0 xL2)
set_option maxRecDepth 100000 in
set_option maxHeartbeats 4000000 in
theorem tX10_wantedBy_7 {p : Program} {l : Launch} {e : Env} {s : State} {m : MethodId} {args : Array Value} {below : List Frame} {meth : Method} {c : Code} {G : cG} (hO : c_Ok p s m c cX10_wantedBy 7 RX10 G) (hr : meth.sig.returnType = (some .int)) (hk : meth.locks = false) : ∀ (n : Nat) (aL0 : Nat) (xL1 : Int32) (xL2 : Int32) (xL3 : Int32) (xL4 : Int32), Sm p l e { frames := 2, cells := 0, slots := 0, locals := 46 } s m args below meth c G 7 (c_Q G c_vi below args s 0 0) 0 0 7 [(0, .ref aL0), (1, .int xL1), (2, .int xL2), (3, .int xL3), (4, .int xL4)] [] (fX10_wantedBy_7 n aL0 xL1 xL2 xL3 xL4) := by
  intro n
  induction n with
  | zero =>
    intro aL0 xL1 xL2 xL3 xL4
    exact sm_bad
  | succ n ih =>
    intro aL0 xL1 xL2 xL3 xL4
    rw [fX10_wantedBy_7]
    refine sm_iload hO 4 dX10_wantedBy_7 rfl ?_
    refine sm_iload_n hO 1 dX10_wantedBy_9 rfl rfl ?_
    refine sm_icmp_gt (tgt := 129) hO dX10_wantedBy_10 (by decide) ?_ ?_
    · refine sm_iload_n hO 3 dX10_wantedBy_129 rfl rfl ?_
      exact sm_iret hO hr hk (Nat.le_of_ble_eq_true rfl) (Nat.le_of_ble_eq_true rfl) dX10_wantedBy_130
    · refine sm_iconst (v := (-1)) hO dX10_wantedBy_13 rfl ?_
      refine sm_istore_n hO [(3, .int ((-1))), (0, .ref aL0), (1, .int xL1), (2, .int xL2), (4, .int xL4)] dX10_wantedBy_14 rfl (by decide) rfl ?_
      refine sm_aload_n hO 1 dX10_wantedBy_15 rfl rfl ?_
      refine sm_gi hO fl_RX10_79 dX10_wantedBy_16 (fun x1 => ?_)
      refine sm_iconst (v := 1) hO dX10_wantedBy_19 rfl ?_
      refine sm_isub hO dX10_wantedBy_20 ?_
      refine sm_topi (fun x2 => ?_)
      refine sm_istore hO [(5, .int x2), (3, .int ((-1))), (0, .ref aL0), (1, .int xL1), (2, .int xL2), (4, .int xL4)] dX10_wantedBy_21 (by decide) rfl ?_
      exact sm_sub [2, 3, 4, 1, 5, 0] rfl (tX10_wantedBy_23 hO hr hk (fX10_wantedBy_109 (fX10_wantedBy_7 n)) (tX10_wantedBy_109 hO hr hk (fX10_wantedBy_7 n) ih) c_fu aL0 xL1 xL2 ((-1)) xL4 x2)
set_option maxRecDepth 100000 in
set_option maxHeartbeats 4000000 in
theorem ctX10_wantedBy (l : Launch) (G : cG) (a0_ : Nat) (x1_ : Int32) : Ct l G yX10_wantedBy cX10_wantedBy 7 (some .int) 2 46 0 0 [.ref a0_, .int x1_] c_vi (pX10_wantedBy a0_ x1_) := by
  refine Ct.of (lv := [(0, .ref a0_), (1, .int x1_)]) (by decide) (Nat.le_of_ble_eq_true rfl) rfl (fun p e s m args below meth c hO hr hk hin => ?_)
  rw [pX10_wantedBy]
  refine sm_iconst (v := 0) hO dX10_wantedBy_0 rfl ?_
  refine sm_istore_n hO [(2, .int 0), (0, .ref a0_), (1, .int x1_)] dX10_wantedBy_1 rfl (by decide) rfl ?_
  refine sm_iconst (v := (-1)) hO dX10_wantedBy_2 rfl ?_
  refine sm_istore_n hO [(3, .int ((-1))), (2, .int 0), (0, .ref a0_), (1, .int x1_)] dX10_wantedBy_3 rfl (by decide) rfl ?_
  refine sm_iconst (v := 0) hO dX10_wantedBy_4 rfl ?_
  refine sm_istore hO [(4, .int 0), (3, .int ((-1))), (2, .int 0), (0, .ref a0_), (1, .int x1_)] dX10_wantedBy_5 (by decide) rfl ?_
  exact sm_sub [3, 4, 2, 1, 0] rfl (tX10_wantedBy_7 hO hr hk c_fu a0_ x1_ 0 ((-1)) 0)
/-! DollCongressModel.wanted(I)I -/
def fX10_wanted_16  (aL0 : Nat) (xL1 : Int32) : MM Int32 := m_cv aL0 9 (pX10_findWanted aL0) (fun _ => if xL1 = ((-1) : Int32) then (m_gr aL0 9 30 (fun a2 => m_li 0 a2 (0 : Int32) (fun x3 => m_ret x3))) else (m_cv aL0 9 (pX10_wantedBy aL0 xL1) (fun x1 => m_ret x1)))
def pX10_wanted (a0_ : Nat) (x1_ : Int32) : MM Int32 := if x1_ = ((-1) : Int32) then (fX10_wanted_16 a0_ x1_) else (m_cv a0_ 9 (pX10_isCourt a0_ x1_) (fun x1 => if x1 = 0 then (m_ret ((-1000000001) : Int32)) else (fX10_wanted_16 a0_ x1_)))
set_option maxRecDepth 100000 in
set_option maxHeartbeats 4000000 in
theorem tX10_wanted_16 {p : Program} {l : Launch} {e : Env} {s : State} {m : MethodId} {args : Array Value} {below : List Frame} {meth : Method} {c : Code} {G : cG} (hO : c_Ok p s m c cX10_wanted 2 RX10 G) (hr : meth.sig.returnType = (some .int)) (hk : meth.locks = false) : ∀ (aL0 : Nat) (xL1 : Int32), Sm p l e { frames := 3, cells := 0, slots := 0, locals := 72 } s m args below meth c G 2 (c_Q G c_vi below args s 0 0) 0 0 16 [(0, .ref aL0), (1, .int xL1)] [] (fX10_wanted_16 aL0 xL1) := by
  intro aL0 xL1
  rw [fX10_wanted_16]
  refine sm_aload_n hO 0 dX10_wanted_16 rfl rfl ?_
  refine sm_cvv hO (ctX10_findWanted l G aL0) cw_RX10_314 cv_X10_findWanted [] rfl rfl ⟨(Nat.le_of_ble_eq_true rfl), (Nat.le_of_ble_eq_true rfl)⟩ ⟨(Nat.le_of_ble_eq_true rfl), (Nat.le_of_ble_eq_true rfl)⟩ (Nat.le_of_ble_eq_true rfl) dX10_wanted_17 (fun _ => ?_)
  refine sm_iload_n hO 1 dX10_wanted_20 rfl rfl ?_
  refine sm_iconst (v := (-1)) hO dX10_wanted_21 rfl ?_
  refine sm_icmp_ne (tgt := 34) hO dX10_wanted_22 (by decide) ?_ ?_
  · refine sm_aload_n hO 0 dX10_wanted_34 rfl rfl ?_
    refine sm_iload_n hO 1 dX10_wanted_35 rfl rfl ?_
    refine sm_cvi hO (ctX10_wantedBy l G aL0 xL1) cw_RX10_317 cv_X10_wantedBy [] rfl rfl ⟨(Nat.le_of_ble_eq_true rfl), (Nat.le_of_ble_eq_true rfl)⟩ ⟨(Nat.le_of_ble_eq_true rfl), (Nat.le_of_ble_eq_true rfl)⟩ (Nat.le_of_ble_eq_true rfl) dX10_wanted_36 (fun x1 => ?_)
    exact sm_iret hO hr hk (Nat.le_of_ble_eq_true rfl) (Nat.le_of_ble_eq_true rfl) dX10_wanted_39
  · refine sm_aload_n hO 0 dX10_wanted_25 rfl rfl ?_
    refine sm_gr hO fl_RX10_57 dX10_wanted_26 (fun a2 => ?_)
    refine sm_iconst (v := 0) hO dX10_wanted_29 rfl ?_
    refine sm_li hO dX10_wanted_30 (fun x3 => ?_)
    refine sm_goto (tgt := 39) hO dX10_wanted_31 (by decide) ?_
    exact sm_iret hO hr hk (Nat.le_of_ble_eq_true rfl) (Nat.le_of_ble_eq_true rfl) dX10_wanted_39
set_option maxRecDepth 100000 in
set_option maxHeartbeats 4000000 in
theorem ctX10_wanted (l : Launch) (G : cG) (a0_ : Nat) (x1_ : Int32) : Ct l G yX10_wanted cX10_wanted 2 (some .int) 3 72 0 0 [.ref a0_, .int x1_] c_vi (pX10_wanted a0_ x1_) := by
  refine Ct.of (lv := [(0, .ref a0_), (1, .int x1_)]) (by decide) (Nat.le_of_ble_eq_true rfl) rfl (fun p e s m args below meth c hO hr hk hin => ?_)
  rw [pX10_wanted]
  refine sm_iload_n hO 1 dX10_wanted_0 rfl rfl ?_
  refine sm_iconst (v := (-1)) hO dX10_wanted_1 rfl ?_
  refine sm_icmp_eq (tgt := 16) hO dX10_wanted_2 (by decide) ?_ ?_
  · exact sm_sub [0, 1] rfl (tX10_wanted_16 hO hr hk a0_ x1_)
  · refine sm_aload_n hO 0 dX10_wanted_5 rfl rfl ?_
    refine sm_iload_n hO 1 dX10_wanted_6 rfl rfl ?_
    refine sm_cvi hO (ctX10_isCourt l G a0_ x1_) cw_RX10_219 cv_X10_isCourt [] rfl rfl ⟨(Nat.le_of_ble_eq_true rfl), (Nat.le_of_ble_eq_true rfl)⟩ ⟨(Nat.le_of_ble_eq_true rfl), (Nat.le_of_ble_eq_true rfl)⟩ (Nat.le_of_ble_eq_true rfl) dX10_wanted_7 (fun x1 => ?_)
    refine sm_if_ne (tgt := 16) hO dX10_wanted_10 (by decide) ?_ ?_
    · exact sm_sub [0, 1] rfl (tX10_wanted_16 hO hr hk a0_ x1_)
    · refine sm_ldc (v := (-1000000001)) hO kw_1046 dX10_wanted_13 ?_
      exact sm_iret hO hr hk (Nat.le_of_ble_eq_true rfl) (Nat.le_of_ble_eq_true rfl) dX10_wanted_15
/-! DollCongress$Roll.toldOn(I)I -/
def fX4_toldOn_45 (k4 : Nat → Int32 → Int32 → Int32 → MM Int32) (aL0 : Nat) (xL1 : Int32) (xL2 : Int32) (xL3 : Int32) : MM Int32 := m_let (xL3 + 1) (fun x1 => k4 aL0 xL1 xL2 x1)
def fX4_toldOn_4  : Nat → Nat → Int32 → Int32 → Int32 → MM Int32
  | 0, _, _, _, _ => m_bad
  | n + 1, aL0, xL1, xL2, xL3 => m_gi aL0 4 5 (fun x1 => if x1 ≤ xL3 then (m_ret xL2) else (if ((xL1 >>> (xL3 &&& 31)) &&& 1) = (1 : Int32) then (m_gi aL0 4 5 (fun x2 => m_nz x2 (m_gi aL0 4 5 (fun x3 => m_nz x3 (m_let (xL2 ||| (((1 : Int32) <<< (((xL3 + 1) - (xL3 + 1) / x2 * x2) &&& 31)) ||| ((1 : Int32) <<< (((xL3 + 3) - (xL3 + 3) / x3 * x3) &&& 31)))) (fun x4 => fX4_toldOn_45 (fX4_toldOn_4 n) aL0 xL1 x4 xL3)))))) else (fX4_toldOn_45 (fX4_toldOn_4 n) aL0 xL1 xL2 xL3)))
def pX4_toldOn (a0_ : Nat) (x1_ : Int32) : MM Int32 := fX4_toldOn_4 c_fu a0_ x1_ x1_ 0
set_option maxRecDepth 100000 in
set_option maxHeartbeats 4000000 in
theorem tX4_toldOn_45 {p : Program} {l : Launch} {e : Env} {s : State} {m : MethodId} {args : Array Value} {below : List Frame} {meth : Method} {c : Code} {G : cG} (hO : c_Ok p s m c cX4_toldOn 4 RX4 G) (hr : meth.sig.returnType = (some .int)) (hk : meth.locks = false) (k4 : Nat → Int32 → Int32 → Int32 → MM Int32) (hk4 : ∀ (aL0 : Nat) (xL1 : Int32) (xL2 : Int32) (xL3 : Int32), Sm p l e { frames := 0, cells := 0, slots := 0, locals := 0 } s m args below meth c G 4 (c_Q G c_vi below args s 0 0) 0 0 4 [(0, .ref aL0), (1, .int xL1), (2, .int xL2), (3, .int xL3)] [] (k4 aL0 xL1 xL2 xL3))  : ∀ (aL0 : Nat) (xL1 : Int32) (xL2 : Int32) (xL3 : Int32), Sm p l e { frames := 0, cells := 0, slots := 0, locals := 0 } s m args below meth c G 4 (c_Q G c_vi below args s 0 0) 0 0 45 [(0, .ref aL0), (1, .int xL1), (2, .int xL2), (3, .int xL3)] [] (fX4_toldOn_45 k4 aL0 xL1 xL2 xL3) := by
  intro aL0 xL1 xL2 xL3
  rw [fX4_toldOn_45]
  refine sm_iincL (v := xL3 + 1) hO 3 (fun x1 => [(3, .int x1), (0, .ref aL0), (1, .int xL1), (2, .int xL2)]) dX4_toldOn_45 rfl rfl (by decide) (fun _ => rfl) (fun x1 => ?_)
  refine sm_goto (tgt := 4) hO dX4_toldOn_48 (by decide) ?_
  exact sm_sub [1, 2, 3, 0] rfl (hk4 aL0 xL1 xL2 x1)
set_option maxRecDepth 100000 in
set_option maxHeartbeats 4000000 in
theorem tX4_toldOn_4 {p : Program} {l : Launch} {e : Env} {s : State} {m : MethodId} {args : Array Value} {below : List Frame} {meth : Method} {c : Code} {G : cG} (hO : c_Ok p s m c cX4_toldOn 4 RX4 G) (hr : meth.sig.returnType = (some .int)) (hk : meth.locks = false) : ∀ (n : Nat) (aL0 : Nat) (xL1 : Int32) (xL2 : Int32) (xL3 : Int32), Sm p l e { frames := 0, cells := 0, slots := 0, locals := 0 } s m args below meth c G 4 (c_Q G c_vi below args s 0 0) 0 0 4 [(0, .ref aL0), (1, .int xL1), (2, .int xL2), (3, .int xL3)] [] (fX4_toldOn_4 n aL0 xL1 xL2 xL3) := by
  intro n
  induction n with
  | zero =>
    intro aL0 xL1 xL2 xL3
    exact sm_bad
  | succ n ih =>
    intro aL0 xL1 xL2 xL3
    rw [fX4_toldOn_4]
    refine sm_iload_n hO 3 dX4_toldOn_4 rfl rfl ?_
    refine sm_aload_n hO 0 dX4_toldOn_5 rfl rfl ?_
    refine sm_gi hO fl_RX4_27 dX4_toldOn_6 (fun x1 => ?_)
    refine sm_icmp_ge (tgt := 51) hO dX4_toldOn_9 (by decide) ?_ ?_
    · refine sm_iload_n hO 2 dX4_toldOn_51 rfl rfl ?_
      exact sm_iret hO hr hk (Nat.le_of_ble_eq_true rfl) (Nat.le_of_ble_eq_true rfl) dX4_toldOn_52
    · refine sm_iload_n hO 1 dX4_toldOn_12 rfl rfl ?_
      refine sm_iload_n hO 3 dX4_toldOn_13 rfl rfl ?_
      refine sm_ishr hO dX4_toldOn_14 ?_
      refine sm_iconst (v := 1) hO dX4_toldOn_15 rfl ?_
      refine sm_iand hO dX4_toldOn_16 ?_
      refine sm_iconst (v := 1) hO dX4_toldOn_17 rfl ?_
      refine sm_icmp_ne (tgt := 45) hO dX4_toldOn_18 (by decide) ?_ ?_
      · exact sm_sub [0, 1, 2, 3] rfl (tX4_toldOn_45 hO hr hk (fX4_toldOn_4 n) ih aL0 xL1 xL2 xL3)
      · refine sm_iload_n hO 2 dX4_toldOn_21 rfl rfl ?_
        refine sm_iconst (v := 1) hO dX4_toldOn_22 rfl ?_
        refine sm_iload_n hO 3 dX4_toldOn_23 rfl rfl ?_
        refine sm_iconst (v := 1) hO dX4_toldOn_24 rfl ?_
        refine sm_iadd hO dX4_toldOn_25 ?_
        refine sm_aload_n hO 0 dX4_toldOn_26 rfl rfl ?_
        refine sm_gi hO fl_RX4_27 dX4_toldOn_27 (fun x2 => ?_)
        refine sm_irem hO dX4_toldOn_30 ?_
        refine sm_ishl hO dX4_toldOn_31 ?_
        refine sm_iconst (v := 1) hO dX4_toldOn_32 rfl ?_
        refine sm_iload_n hO 3 dX4_toldOn_33 rfl rfl ?_
        refine sm_iconst (v := 3) hO dX4_toldOn_34 rfl ?_
        refine sm_iadd hO dX4_toldOn_35 ?_
        refine sm_aload_n hO 0 dX4_toldOn_36 rfl rfl ?_
        refine sm_gi hO fl_RX4_27 dX4_toldOn_37 (fun x3 => ?_)
        refine sm_irem hO dX4_toldOn_40 ?_
        refine sm_ishl hO dX4_toldOn_41 ?_
        refine sm_ior hO dX4_toldOn_42 ?_
        refine sm_ior hO dX4_toldOn_43 ?_
        refine sm_topi (fun x4 => ?_)
        refine sm_istore_n hO [(2, .int x4), (0, .ref aL0), (1, .int xL1), (3, .int xL3)] dX4_toldOn_44 rfl (by decide) rfl ?_
        exact sm_sub [1, 2, 0, 3] rfl (tX4_toldOn_45 hO hr hk (fX4_toldOn_4 n) ih aL0 xL1 x4 xL3)
set_option maxRecDepth 100000 in
set_option maxHeartbeats 4000000 in
theorem ctX4_toldOn (l : Launch) (G : cG) (a0_ : Nat) (x1_ : Int32) : Ct l G yX4_toldOn cX4_toldOn 4 (some .int) 0 0 0 0 [.ref a0_, .int x1_] c_vi (pX4_toldOn a0_ x1_) := by
  refine Ct.of (lv := [(0, .ref a0_), (1, .int x1_)]) (by decide) (Nat.le_of_ble_eq_true rfl) rfl (fun p e s m args below meth c hO hr hk hin => ?_)
  rw [pX4_toldOn]
  refine sm_iload_n hO 1 dX4_toldOn_0 rfl rfl ?_
  refine sm_istore_n hO [(2, .int x1_), (0, .ref a0_), (1, .int x1_)] dX4_toldOn_1 rfl (by decide) rfl ?_
  refine sm_iconst (v := 0) hO dX4_toldOn_2 rfl ?_
  refine sm_istore_n hO [(3, .int 0), (2, .int x1_), (0, .ref a0_), (1, .int x1_)] dX4_toldOn_3 rfl (by decide) rfl ?_
  exact sm_sub [2, 3, 1, 0] rfl (tX4_toldOn_4 hO hr hk c_fu a0_ x1_ x1_ 0)
/-! DollCongress.yearsUntilAllKnow(I)I -/
def fX9_yearsUntilAllKnow_4  : Nat → Nat → Int32 → Int32 → MM Int32
  | 0, _, _, _ => m_bad
  | n + 1, aL0, xL2, xL3 => if (7 : Int32) ≤ xL3 then (m_ret xL3) else (m_gr aL0 8 7 (fun a1 => m_cv a1 4 (pX4_allCourts a1) (fun x2 => if xL2 = x2 then (m_ret xL3) else (m_gr aL0 8 7 (fun a3 => m_cv a3 4 (pX4_toldOn a3 xL2) (fun x4 => m_let (xL3 + 1) (fun x5 => fX9_yearsUntilAllKnow_4 n aL0 x4 x5)))))))
def pX9_yearsUntilAllKnow (a0_ : Nat) (x1_ : Int32) : MM Int32 := fX9_yearsUntilAllKnow_4 c_fu a0_ x1_ 0
set_option maxRecDepth 100000 in
set_option maxHeartbeats 4000000 in
theorem tX9_yearsUntilAllKnow_4 {p : Program} {l : Launch} {e : Env} {s : State} {m : MethodId} {args : Array Value} {below : List Frame} {meth : Method} {c : Code} {G : cG} (hO : c_Ok p s m c cX9_yearsUntilAllKnow 4 RX9 G) (hr : meth.sig.returnType = (some .int)) (hk : meth.locks = false) : ∀ (n : Nat) (aL0 : Nat) (xL2 : Int32) (xL3 : Int32), Sm p l e { frames := 1, cells := 0, slots := 0, locals := 23 } s m args below meth c G 4 (c_Q G c_vi below args s 0 0) 0 0 4 [(0, .ref aL0), (2, .int xL2), (3, .int xL3)] [] (fX9_yearsUntilAllKnow_4 n aL0 xL2 xL3) := by
  intro n
  induction n with
  | zero =>
    intro aL0 xL2 xL3
    exact sm_bad
  | succ n ih =>
    intro aL0 xL2 xL3
    rw [fX9_yearsUntilAllKnow_4]
    refine sm_iload_n hO 2 dX9_yearsUntilAllKnow_4 rfl rfl ?_
    refine sm_bipush (v := 7) hO dX9_yearsUntilAllKnow_5 rfl ?_
    refine sm_icmp_ge (tgt := 36) hO dX9_yearsUntilAllKnow_7 (by decide) ?_ ?_
    · refine sm_iload_n hO 2 dX9_yearsUntilAllKnow_36 rfl rfl ?_
      exact sm_iret hO hr hk (Nat.le_of_ble_eq_true rfl) (Nat.le_of_ble_eq_true rfl) dX9_yearsUntilAllKnow_37
    · refine sm_iload_n hO 1 dX9_yearsUntilAllKnow_10 rfl rfl ?_
      refine sm_aload_n hO 0 dX9_yearsUntilAllKnow_11 rfl rfl ?_
      refine sm_gr hO fl_RX9_60 dX9_yearsUntilAllKnow_12 (fun a1 => ?_)
      refine sm_cvi hO (ctX4_allCourts l G a1) cw_RX9_246 cv_X4_allCourts [.int xL2] rfl rfl ⟨(Nat.le_of_ble_eq_true rfl), (Nat.le_of_ble_eq_true rfl)⟩ ⟨(Nat.le_of_ble_eq_true rfl), (Nat.le_of_ble_eq_true rfl)⟩ (Nat.le_of_ble_eq_true rfl) dX9_yearsUntilAllKnow_15 (fun x2 => ?_)
      refine sm_icmp_eq (tgt := 36) hO dX9_yearsUntilAllKnow_18 (by decide) ?_ ?_
      · refine sm_iload_n hO 2 dX9_yearsUntilAllKnow_36 rfl rfl ?_
        exact sm_iret hO hr hk (Nat.le_of_ble_eq_true rfl) (Nat.le_of_ble_eq_true rfl) dX9_yearsUntilAllKnow_37
      · refine sm_aload_n hO 0 dX9_yearsUntilAllKnow_21 rfl rfl ?_
        refine sm_gr hO fl_RX9_60 dX9_yearsUntilAllKnow_22 (fun a3 => ?_)
        refine sm_iload_n hO 1 dX9_yearsUntilAllKnow_25 rfl rfl ?_
        refine sm_cvi hO (ctX4_toldOn l G a3 xL2) cw_RX9_272 cv_X4_toldOn [] rfl rfl ⟨(Nat.le_of_ble_eq_true rfl), (Nat.le_of_ble_eq_true rfl)⟩ ⟨(Nat.le_of_ble_eq_true rfl), (Nat.le_of_ble_eq_true rfl)⟩ (Nat.le_of_ble_eq_true rfl) dX9_yearsUntilAllKnow_26 (fun x4 => ?_)
        refine sm_istore_n hO [(2, .int x4), (0, .ref aL0), (3, .int xL3)] dX9_yearsUntilAllKnow_29 rfl (by decide) rfl ?_
        refine sm_iincL (v := xL3 + 1) hO 2 (fun x5 => [(3, .int x5), (2, .int x4), (0, .ref aL0)]) dX9_yearsUntilAllKnow_30 rfl rfl (by decide) (fun _ => rfl) (fun x5 => ?_)
        refine sm_goto (tgt := 4) hO dX9_yearsUntilAllKnow_33 (by decide) ?_
        exact sm_sub [2, 1, 0] rfl (ih aL0 x4 x5)
set_option maxRecDepth 100000 in
set_option maxHeartbeats 4000000 in
theorem ctX9_yearsUntilAllKnow (l : Launch) (G : cG) (a0_ : Nat) (x1_ : Int32) : Ct l G yX9_yearsUntilAllKnow cX9_yearsUntilAllKnow 4 (some .int) 1 23 0 0 [.ref a0_, .int x1_] c_vi (pX9_yearsUntilAllKnow a0_ x1_) := by
  refine Ct.of (lv := [(0, .ref a0_), (1, .int x1_)]) (by decide) (Nat.le_of_ble_eq_true rfl) rfl (fun p e s m args below meth c hO hr hk hin => ?_)
  rw [pX9_yearsUntilAllKnow]
  refine sm_iload_n hO 1 dX9_yearsUntilAllKnow_0 rfl rfl ?_
  refine sm_istore_n hO [(2, .int x1_), (0, .ref a0_), (1, .int x1_)] dX9_yearsUntilAllKnow_1 rfl (by decide) rfl ?_
  refine sm_iconst (v := 0) hO dX9_yearsUntilAllKnow_2 rfl ?_
  refine sm_istore_n hO [(3, .int 0), (2, .int x1_), (0, .ref a0_), (1, .int x1_)] dX9_yearsUntilAllKnow_3 rfl (by decide) rfl ?_
  exact sm_sub [2, 1, 0] rfl (tX9_yearsUntilAllKnow_4 hO hr hk c_fu a0_ x1_ 0)
/-! DollCongress.know(II)I -/
def fX9_know_50  : Nat → Nat → Int32 → Int32 → Int32 → MM Int32
  | 0, _, _, _, _ => m_bad
  | n + 1, aL0, xL2, xL3, xL4 => if xL2 ≤ xL4 then (m_ret xL3) else (m_gr aL0 8 7 (fun a1 => m_cv a1 4 (pX4_toldOn a1 xL3) (fun x2 => m_let (xL4 + 1) (fun x3 => fX9_know_50 n aL0 xL2 x2 x3))))
def fX9_know_32  (aL0 : Nat) (xL1 : Int32) (xL2 : Int32) : MM Int32 := m_let ((1 : Int32) <<< (xL1 &&& 31)) (fun x1 => if xL2 = ((-1) : Int32) then (m_cv aL0 8 (pX9_yearsUntilAllKnow aL0 x1) (fun x2 => m_ret x2)) else (fX9_know_50 c_fu aL0 xL2 x1 0))
def pX9_know (a0_ : Nat) (x1_ : Int32) (x2_ : Int32) : MM Int32 := m_gr a0_ 8 7 (fun a1 => m_cv a1 4 (pX4_hasCourt a1 x1_) (fun x2 => if x2 = 0 then (m_ret ((-1000000001) : Int32)) else (if x2_ = ((-1) : Int32) then (fX9_know_32 a0_ x1_ x2_) else (if x2_ < 0 then (m_ret ((-1000000002) : Int32)) else (if x2_ ≤ (20 : Int32) then (fX9_know_32 a0_ x1_ x2_) else (m_ret ((-1000000002) : Int32)))))))
set_option maxRecDepth 100000 in
set_option maxHeartbeats 4000000 in
theorem tX9_know_50 {p : Program} {l : Launch} {e : Env} {s : State} {m : MethodId} {args : Array Value} {below : List Frame} {meth : Method} {c : Code} {G : cG} (hO : c_Ok p s m c cX9_know 5 RX9 G) (hr : meth.sig.returnType = (some .int)) (hk : meth.locks = false) : ∀ (n : Nat) (aL0 : Nat) (xL2 : Int32) (xL3 : Int32) (xL4 : Int32), Sm p l e { frames := 2, cells := 0, slots := 0, locals := 46 } s m args below meth c G 5 (c_Q G c_vi below args s 0 0) 0 0 50 [(0, .ref aL0), (2, .int xL2), (3, .int xL3), (4, .int xL4)] [] (fX9_know_50 n aL0 xL2 xL3 xL4) := by
  intro n
  induction n with
  | zero =>
    intro aL0 xL2 xL3 xL4
    exact sm_bad
  | succ n ih =>
    intro aL0 xL2 xL3 xL4
    rw [fX9_know_50]
    refine sm_iload hO 3 dX9_know_50 rfl ?_
    refine sm_iload_n hO 1 dX9_know_52 rfl rfl ?_
    refine sm_icmp_ge (tgt := 71) hO dX9_know_53 (by decide) ?_ ?_
    · refine sm_iload_n hO 2 dX9_know_71 rfl rfl ?_
      exact sm_iret hO hr hk (Nat.le_of_ble_eq_true rfl) (Nat.le_of_ble_eq_true rfl) dX9_know_72
    · refine sm_aload_n hO 0 dX9_know_56 rfl rfl ?_
      refine sm_gr hO fl_RX9_60 dX9_know_57 (fun a1 => ?_)
      refine sm_iload_n hO 2 dX9_know_60 rfl rfl ?_
      refine sm_cvi hO (ctX4_toldOn l G a1 xL3) cw_RX9_272 cv_X4_toldOn [] rfl rfl ⟨(Nat.le_of_ble_eq_true rfl), (Nat.le_of_ble_eq_true rfl)⟩ ⟨(Nat.le_of_ble_eq_true rfl), (Nat.le_of_ble_eq_true rfl)⟩ (Nat.le_of_ble_eq_true rfl) dX9_know_61 (fun x2 => ?_)
      refine sm_istore_n hO [(3, .int x2), (0, .ref aL0), (2, .int xL2), (4, .int xL4)] dX9_know_64 rfl (by decide) rfl ?_
      refine sm_iincL (v := xL4 + 1) hO 3 (fun x3 => [(4, .int x3), (3, .int x2), (0, .ref aL0), (2, .int xL2)]) dX9_know_65 rfl rfl (by decide) (fun _ => rfl) (fun x3 => ?_)
      refine sm_goto (tgt := 50) hO dX9_know_68 (by decide) ?_
      exact sm_sub [2, 3, 1, 0] rfl (ih aL0 xL2 x2 x3)
set_option maxRecDepth 100000 in
set_option maxHeartbeats 4000000 in
theorem tX9_know_32 {p : Program} {l : Launch} {e : Env} {s : State} {m : MethodId} {args : Array Value} {below : List Frame} {meth : Method} {c : Code} {G : cG} (hO : c_Ok p s m c cX9_know 5 RX9 G) (hr : meth.sig.returnType = (some .int)) (hk : meth.locks = false) : ∀ (aL0 : Nat) (xL1 : Int32) (xL2 : Int32), Sm p l e { frames := 2, cells := 0, slots := 0, locals := 46 } s m args below meth c G 5 (c_Q G c_vi below args s 0 0) 0 0 32 [(0, .ref aL0), (1, .int xL1), (2, .int xL2)] [] (fX9_know_32 aL0 xL1 xL2) := by
  intro aL0 xL1 xL2
  rw [fX9_know_32]
  refine sm_iconst (v := 1) hO dX9_know_32 rfl ?_
  refine sm_iload_n hO 1 dX9_know_33 rfl rfl ?_
  refine sm_ishl hO dX9_know_34 ?_
  refine sm_topi (fun x1 => ?_)
  refine sm_istore_n hO [(3, .int x1), (0, .ref aL0), (1, .int xL1), (2, .int xL2)] dX9_know_35 rfl (by decide) rfl ?_
  refine sm_iload_n hO 3 dX9_know_36 rfl rfl ?_
  refine sm_iconst (v := (-1)) hO dX9_know_37 rfl ?_
  refine sm_icmp_ne (tgt := 47) hO dX9_know_38 (by decide) ?_ ?_
  · refine sm_iconst (v := 0) hO dX9_know_47 rfl ?_
    refine sm_istore hO [(4, .int 0), (3, .int x1), (0, .ref aL0), (1, .int xL1), (2, .int xL2)] dX9_know_48 (by decide) rfl ?_
    exact sm_sub [2, 4, 1, 0] rfl (tX9_know_50 hO hr hk c_fu aL0 xL2 x1 0)
  · refine sm_aload_n hO 1 dX9_know_41 rfl rfl ?_
    refine sm_iload_n hO 0 dX9_know_42 rfl rfl ?_
    refine sm_cvi hO (ctX9_yearsUntilAllKnow l G aL0 x1) cw_RX9_269 cv_X9_yearsUntilAllKnow [] rfl rfl ⟨(Nat.le_of_ble_eq_true rfl), (Nat.le_of_ble_eq_true rfl)⟩ ⟨(Nat.le_of_ble_eq_true rfl), (Nat.le_of_ble_eq_true rfl)⟩ (Nat.le_of_ble_eq_true rfl) dX9_know_43 (fun x2 => ?_)
    exact sm_iret hO hr hk (Nat.le_of_ble_eq_true rfl) (Nat.le_of_ble_eq_true rfl) dX9_know_46
set_option maxRecDepth 100000 in
set_option maxHeartbeats 4000000 in
theorem ctX9_know (l : Launch) (G : cG) (a0_ : Nat) (x1_ : Int32) (x2_ : Int32) : Ct l G yX9_know cX9_know 5 (some .int) 2 46 0 0 [.ref a0_, .int x1_, .int x2_] c_vi (pX9_know a0_ x1_ x2_) := by
  refine Ct.of (lv := [(0, .ref a0_), (1, .int x1_), (2, .int x2_)]) (by decide) (Nat.le_of_ble_eq_true rfl) rfl (fun p e s m args below meth c hO hr hk hin => ?_)
  rw [pX9_know]
  refine sm_aload_n hO 0 dX9_know_0 rfl rfl ?_
  refine sm_gr hO fl_RX9_60 dX9_know_1 (fun a1 => ?_)
  refine sm_iload_n hO 1 dX9_know_4 rfl rfl ?_
  refine sm_cvi hO (ctX4_hasCourt l G a1 x1_) cw_RX9_179 cv_X4_hasCourt [] rfl rfl ⟨(Nat.le_of_ble_eq_true rfl), (Nat.le_of_ble_eq_true rfl)⟩ ⟨(Nat.le_of_ble_eq_true rfl), (Nat.le_of_ble_eq_true rfl)⟩ (Nat.le_of_ble_eq_true rfl) dX9_know_5 (fun x2 => ?_)
  refine sm_if_ne (tgt := 14) hO dX9_know_8 (by decide) ?_ ?_
  · refine sm_iload_n hO 2 dX9_know_14 rfl rfl ?_
    refine sm_iconst (v := (-1)) hO dX9_know_15 rfl ?_
    refine sm_icmp_eq (tgt := 32) hO dX9_know_16 (by decide) ?_ ?_
    · exact sm_sub [0, 1, 2] rfl (tX9_know_32 hO hr hk a0_ x1_ x2_)
    · refine sm_iload_n hO 2 dX9_know_19 rfl rfl ?_
      refine sm_if_lt (tgt := 29) hO dX9_know_20 (by decide) ?_ ?_
      · refine sm_ldc (v := (-1000000002)) hO kw_362 dX9_know_29 ?_
        exact sm_iret hO hr hk (Nat.le_of_ble_eq_true rfl) (Nat.le_of_ble_eq_true rfl) dX9_know_31
      · refine sm_iload_n hO 2 dX9_know_23 rfl rfl ?_
        refine sm_bipush (v := 20) hO dX9_know_24 rfl ?_
        refine sm_icmp_le (tgt := 32) hO dX9_know_26 (by decide) ?_ ?_
        · exact sm_sub [0, 1, 2] rfl (tX9_know_32 hO hr hk a0_ x1_ x2_)
        · refine sm_ldc (v := (-1000000002)) hO kw_362 dX9_know_29 ?_
          exact sm_iret hO hr hk (Nat.le_of_ble_eq_true rfl) (Nat.le_of_ble_eq_true rfl) dX9_know_31
  · refine sm_ldc (v := (-1000000001)) hO kw_512 dX9_know_11 ?_
    exact sm_iret hO hr hk (Nat.le_of_ble_eq_true rfl) (Nat.le_of_ble_eq_true rfl) dX9_know_13
/-! DollCongressModel.whoKnows(II)I -/
def fX10_whoKnows_66 (k19 : Nat → Int32 → Int32 → Int32 → Int32 → Int32 → MM Int32) (aL0 : Nat) (xL2 : Int32) (xL3 : Int32) (xL4 : Int32) (xL6 : Int32) (xS0 : Int32) (xS1 : Int32) : MM Int32 := m_let (xS1 ||| xS0) (fun x1 => m_let (xL6 + 1) (fun x2 => k19 aL0 xL2 xL3 xL4 x1 x2))
def fX10_whoKnows_19 (k75 : Nat → Int32 → Int32 → Int32 → MM Int32) : Nat → Nat → Int32 → Int32 → Int32 → Int32 → Int32 → MM Int32
  | 0, _, _, _, _, _, _ => m_bad
  | n + 1, aL0, xL2, xL3, xL4, xL5, xL6 => m_gi aL0 9 0 (fun x1 => if x1 ≤ xL6 then (k75 aL0 xL2 xL4 xL5) else (m_bind (pX10_has xL3 xL6) (fun x2 => if x2 = 0 then (fX10_whoKnows_66 (fX10_whoKnows_19 k75 n) aL0 xL2 xL3 xL4 xL6 0 xL5) else (m_gi aL0 9 0 (fun x3 => m_nz x3 (m_gi aL0 9 0 (fun x4 => m_nz x4 (fX10_whoKnows_66 (fX10_whoKnows_19 k75 n) aL0 xL2 xL3 xL4 xL6 (((1 : Int32) <<< (((xL6 + 1) - (xL6 + 1) / x3 * x3) &&& 31)) ||| ((1 : Int32) <<< (((xL6 + 3) - (xL6 + 3) / x4 * x4) &&& 31))) xL5))))))))
def fX10_whoKnows_75 (k7 : Nat → Int32 → Int32 → Int32 → MM Int32) (aL0 : Nat) (xL2 : Int32) (xL4 : Int32) (xL5 : Int32) : MM Int32 := m_let (xL4 + 1) (fun x1 => k7 aL0 xL2 xL5 x1)
def fX10_whoKnows_7  : Nat → Nat → Int32 → Int32 → Int32 → MM Int32
  | 0, _, _, _, _ => m_bad
  | n + 1, aL0, xL2, xL3, xL4 => if xL2 ≤ xL4 then (m_ret xL3) else (fX10_whoKnows_19 (fX10_whoKnows_75 (fX10_whoKnows_7 n)) c_fu aL0 xL2 xL3 xL4 xL3 0)
def pX10_whoKnows (a0_ : Nat) (x1_ : Int32) (x2_ : Int32) : MM Int32 := m_let ((1 : Int32) <<< (x1_ &&& 31)) (fun x1 => fX10_whoKnows_7 c_fu a0_ x2_ x1 0)
set_option maxRecDepth 100000 in
set_option maxHeartbeats 4000000 in
theorem tX10_whoKnows_66 {p : Program} {l : Launch} {e : Env} {s : State} {m : MethodId} {args : Array Value} {below : List Frame} {meth : Method} {c : Code} {G : cG} (hO : c_Ok p s m c cX10_whoKnows 7 RX10 G) (hr : meth.sig.returnType = (some .int)) (hk : meth.locks = false) (k19 : Nat → Int32 → Int32 → Int32 → Int32 → Int32 → MM Int32) (hk19 : ∀ (aL0 : Nat) (xL2 : Int32) (xL3 : Int32) (xL4 : Int32) (xL5 : Int32) (xL6 : Int32), Sm p l e { frames := 1, cells := 0, slots := 0, locals := 21 } s m args below meth c G 7 (c_Q G c_vi below args s 0 0) 0 0 19 [(0, .ref aL0), (2, .int xL2), (3, .int xL3), (4, .int xL4), (5, .int xL5), (6, .int xL6)] [] (k19 aL0 xL2 xL3 xL4 xL5 xL6))  : ∀ (aL0 : Nat) (xL2 : Int32) (xL3 : Int32) (xL4 : Int32) (xL6 : Int32) (xS0 : Int32) (xS1 : Int32), Sm p l e { frames := 1, cells := 0, slots := 0, locals := 21 } s m args below meth c G 7 (c_Q G c_vi below args s 0 0) 0 0 66 [(0, .ref aL0), (2, .int xL2), (3, .int xL3), (4, .int xL4), (6, .int xL6)] [.int xS0, .int xS1] (fX10_whoKnows_66 k19 aL0 xL2 xL3 xL4 xL6 xS0 xS1) := by
  intro aL0 xL2 xL3 xL4 xL6 xS0 xS1
  rw [fX10_whoKnows_66]
  refine sm_ior hO dX10_whoKnows_66 ?_
  refine sm_topi (fun x1 => ?_)
  refine sm_istore hO [(5, .int x1), (0, .ref aL0), (2, .int xL2), (3, .int xL3), (4, .int xL4), (6, .int xL6)] dX10_whoKnows_67 (by decide) rfl ?_
  refine sm_iincL (v := xL6 + 1) hO 5 (fun x2 => [(6, .int x2), (5, .int x1), (0, .ref aL0), (2, .int xL2), (3, .int xL3), (4, .int xL4)]) dX10_whoKnows_69 rfl rfl (by decide) (fun _ => rfl) (fun x2 => ?_)
  refine sm_goto (tgt := 19) hO dX10_whoKnows_72 (by decide) ?_
  exact sm_sub [2, 3, 4, 5, 1, 0] rfl (hk19 aL0 xL2 xL3 xL4 x1 x2)
set_option maxRecDepth 100000 in
set_option maxHeartbeats 4000000 in
theorem tX10_whoKnows_19 {p : Program} {l : Launch} {e : Env} {s : State} {m : MethodId} {args : Array Value} {below : List Frame} {meth : Method} {c : Code} {G : cG} (hO : c_Ok p s m c cX10_whoKnows 7 RX10 G) (hr : meth.sig.returnType = (some .int)) (hk : meth.locks = false) (k75 : Nat → Int32 → Int32 → Int32 → MM Int32) (hk75 : ∀ (aL0 : Nat) (xL2 : Int32) (xL4 : Int32) (xL5 : Int32), Sm p l e { frames := 1, cells := 0, slots := 0, locals := 21 } s m args below meth c G 7 (c_Q G c_vi below args s 0 0) 0 0 75 [(0, .ref aL0), (2, .int xL2), (4, .int xL4), (5, .int xL5)] [] (k75 aL0 xL2 xL4 xL5))  : ∀ (n : Nat) (aL0 : Nat) (xL2 : Int32) (xL3 : Int32) (xL4 : Int32) (xL5 : Int32) (xL6 : Int32), Sm p l e { frames := 1, cells := 0, slots := 0, locals := 21 } s m args below meth c G 7 (c_Q G c_vi below args s 0 0) 0 0 19 [(0, .ref aL0), (2, .int xL2), (3, .int xL3), (4, .int xL4), (5, .int xL5), (6, .int xL6)] [] (fX10_whoKnows_19 k75 n aL0 xL2 xL3 xL4 xL5 xL6) := by
  intro n
  induction n with
  | zero =>
    intro aL0 xL2 xL3 xL4 xL5 xL6
    exact sm_bad
  | succ n ih =>
    intro aL0 xL2 xL3 xL4 xL5 xL6
    rw [fX10_whoKnows_19]
    refine sm_iload hO 5 dX10_whoKnows_19 rfl ?_
    refine sm_aload_n hO 0 dX10_whoKnows_21 rfl rfl ?_
    refine sm_gi hO fl_RX10_72 dX10_whoKnows_22 (fun x1 => ?_)
    refine sm_icmp_ge (tgt := 75) hO dX10_whoKnows_25 (by decide) ?_ ?_
    · exact sm_sub [0, 1, 3, 4] rfl (hk75 aL0 xL2 xL4 xL5)
    · refine sm_iload hO 4 dX10_whoKnows_28 rfl ?_
      refine sm_iload_n hO 2 dX10_whoKnows_30 rfl rfl ?_
      refine sm_iload hO 5 dX10_whoKnows_31 rfl ?_
      refine sm_csi hO (ctX10_has l G xL3 xL6) cw_RX10_175 kw_985 [.int xL5] rfl rfl ⟨(Nat.le_of_ble_eq_true rfl), (Nat.le_of_ble_eq_true rfl)⟩ ⟨(Nat.le_of_ble_eq_true rfl), (Nat.le_of_ble_eq_true rfl)⟩ (Nat.le_of_ble_eq_true rfl) dX10_whoKnows_33 (fun x2 => ?_)
      refine sm_if_eq (tgt := 65) hO dX10_whoKnows_36 (by decide) ?_ ?_
      · refine sm_iconst (v := 0) hO dX10_whoKnows_65 rfl ?_
        exact sm_sub [0, 1, 2, 3, 5] rfl (tX10_whoKnows_66 hO hr hk (fX10_whoKnows_19 k75 n) ih aL0 xL2 xL3 xL4 xL6 0 xL5)
      · refine sm_iconst (v := 1) hO dX10_whoKnows_39 rfl ?_
        refine sm_iload hO 5 dX10_whoKnows_40 rfl ?_
        refine sm_iconst (v := 1) hO dX10_whoKnows_42 rfl ?_
        refine sm_iadd hO dX10_whoKnows_43 ?_
        refine sm_aload_n hO 0 dX10_whoKnows_44 rfl rfl ?_
        refine sm_gi hO fl_RX10_72 dX10_whoKnows_45 (fun x3 => ?_)
        refine sm_irem hO dX10_whoKnows_48 ?_
        refine sm_ishl hO dX10_whoKnows_49 ?_
        refine sm_iconst (v := 1) hO dX10_whoKnows_50 rfl ?_
        refine sm_iload hO 5 dX10_whoKnows_51 rfl ?_
        refine sm_iconst (v := 3) hO dX10_whoKnows_53 rfl ?_
        refine sm_iadd hO dX10_whoKnows_54 ?_
        refine sm_aload_n hO 0 dX10_whoKnows_55 rfl rfl ?_
        refine sm_gi hO fl_RX10_72 dX10_whoKnows_56 (fun x4 => ?_)
        refine sm_irem hO dX10_whoKnows_59 ?_
        refine sm_ishl hO dX10_whoKnows_60 ?_
        refine sm_ior hO dX10_whoKnows_61 ?_
        refine sm_goto (tgt := 66) hO dX10_whoKnows_62 (by decide) ?_
        exact sm_sub [0, 1, 2, 3, 5] rfl (tX10_whoKnows_66 hO hr hk (fX10_whoKnows_19 k75 n) ih aL0 xL2 xL3 xL4 xL6 (((1 : Int32) <<< (((xL6 + 1) - (xL6 + 1) / x3 * x3) &&& 31)) ||| ((1 : Int32) <<< (((xL6 + 3) - (xL6 + 3) / x4 * x4) &&& 31))) xL5)
set_option maxRecDepth 100000 in
set_option maxHeartbeats 4000000 in
theorem tX10_whoKnows_75 {p : Program} {l : Launch} {e : Env} {s : State} {m : MethodId} {args : Array Value} {below : List Frame} {meth : Method} {c : Code} {G : cG} (hO : c_Ok p s m c cX10_whoKnows 7 RX10 G) (hr : meth.sig.returnType = (some .int)) (hk : meth.locks = false) (k7 : Nat → Int32 → Int32 → Int32 → MM Int32) (hk7 : ∀ (aL0 : Nat) (xL2 : Int32) (xL3 : Int32) (xL4 : Int32), Sm p l e { frames := 1, cells := 0, slots := 0, locals := 21 } s m args below meth c G 7 (c_Q G c_vi below args s 0 0) 0 0 7 [(0, .ref aL0), (2, .int xL2), (3, .int xL3), (4, .int xL4)] [] (k7 aL0 xL2 xL3 xL4))  : ∀ (aL0 : Nat) (xL2 : Int32) (xL4 : Int32) (xL5 : Int32), Sm p l e { frames := 1, cells := 0, slots := 0, locals := 21 } s m args below meth c G 7 (c_Q G c_vi below args s 0 0) 0 0 75 [(0, .ref aL0), (2, .int xL2), (4, .int xL4), (5, .int xL5)] [] (fX10_whoKnows_75 k7 aL0 xL2 xL4 xL5) := by
  intro aL0 xL2 xL4 xL5
  rw [fX10_whoKnows_75]
  refine sm_iload hO 3 dX10_whoKnows_75 rfl ?_
  refine sm_istore_n hO [(3, .int xL5), (0, .ref aL0), (2, .int xL2), (4, .int xL4), (5, .int xL5)] dX10_whoKnows_77 rfl (by decide) rfl ?_
  refine sm_iincL (v := xL4 + 1) hO 3 (fun x1 => [(4, .int x1), (3, .int xL5), (0, .ref aL0), (2, .int xL2), (5, .int xL5)]) dX10_whoKnows_78 rfl rfl (by decide) (fun _ => rfl) (fun x1 => ?_)
  refine sm_goto (tgt := 7) hO dX10_whoKnows_81 (by decide) ?_
  exact sm_sub [2, 3, 1, 0] rfl (hk7 aL0 xL2 xL5 x1)
set_option maxRecDepth 100000 in
set_option maxHeartbeats 4000000 in
theorem tX10_whoKnows_7 {p : Program} {l : Launch} {e : Env} {s : State} {m : MethodId} {args : Array Value} {below : List Frame} {meth : Method} {c : Code} {G : cG} (hO : c_Ok p s m c cX10_whoKnows 7 RX10 G) (hr : meth.sig.returnType = (some .int)) (hk : meth.locks = false) : ∀ (n : Nat) (aL0 : Nat) (xL2 : Int32) (xL3 : Int32) (xL4 : Int32), Sm p l e { frames := 1, cells := 0, slots := 0, locals := 21 } s m args below meth c G 7 (c_Q G c_vi below args s 0 0) 0 0 7 [(0, .ref aL0), (2, .int xL2), (3, .int xL3), (4, .int xL4)] [] (fX10_whoKnows_7 n aL0 xL2 xL3 xL4) := by
  intro n
  induction n with
  | zero =>
    intro aL0 xL2 xL3 xL4
    exact sm_bad
  | succ n ih =>
    intro aL0 xL2 xL3 xL4
    rw [fX10_whoKnows_7]
    refine sm_iload hO 3 dX10_whoKnows_7 rfl ?_
    refine sm_iload_n hO 1 dX10_whoKnows_9 rfl rfl ?_
    refine sm_icmp_ge (tgt := 84) hO dX10_whoKnows_10 (by decide) ?_ ?_
    · refine sm_iload_n hO 2 dX10_whoKnows_84 rfl rfl ?_
      exact sm_iret hO hr hk (Nat.le_of_ble_eq_true rfl) (Nat.le_of_ble_eq_true rfl) dX10_whoKnows_85
    · refine sm_iload_n hO 2 dX10_whoKnows_13 rfl rfl ?_
      refine sm_istore hO [(5, .int xL3), (0, .ref aL0), (2, .int xL2), (3, .int xL3), (4, .int xL4)] dX10_whoKnows_14 (by decide) rfl ?_
      refine sm_iconst (v := 0) hO dX10_whoKnows_16 rfl ?_
      refine sm_istore hO [(6, .int 0), (5, .int xL3), (0, .ref aL0), (2, .int xL2), (3, .int xL3), (4, .int xL4)] dX10_whoKnows_17 (by decide) rfl ?_
      exact sm_sub [2, 3, 4, 5, 1, 0] rfl (tX10_whoKnows_19 hO hr hk (fX10_whoKnows_75 (fX10_whoKnows_7 n)) (tX10_whoKnows_75 hO hr hk (fX10_whoKnows_7 n) ih) c_fu aL0 xL2 xL3 xL4 xL3 0)
set_option maxRecDepth 100000 in
set_option maxHeartbeats 4000000 in
theorem ctX10_whoKnows (l : Launch) (G : cG) (a0_ : Nat) (x1_ : Int32) (x2_ : Int32) : Ct l G yX10_whoKnows cX10_whoKnows 7 (some .int) 1 21 0 0 [.ref a0_, .int x1_, .int x2_] c_vi (pX10_whoKnows a0_ x1_ x2_) := by
  refine Ct.of (lv := [(0, .ref a0_), (1, .int x1_), (2, .int x2_)]) (by decide) (Nat.le_of_ble_eq_true rfl) rfl (fun p e s m args below meth c hO hr hk hin => ?_)
  rw [pX10_whoKnows]
  refine sm_iconst (v := 1) hO dX10_whoKnows_0 rfl ?_
  refine sm_iload_n hO 1 dX10_whoKnows_1 rfl rfl ?_
  refine sm_ishl hO dX10_whoKnows_2 ?_
  refine sm_topi (fun x1 => ?_)
  refine sm_istore_n hO [(3, .int x1), (0, .ref a0_), (1, .int x1_), (2, .int x2_)] dX10_whoKnows_3 rfl (by decide) rfl ?_
  refine sm_iconst (v := 0) hO dX10_whoKnows_4 rfl ?_
  refine sm_istore hO [(4, .int 0), (3, .int x1), (0, .ref a0_), (1, .int x1_), (2, .int x2_)] dX10_whoKnows_5 (by decide) rfl ?_
  exact sm_sub [2, 4, 1, 0] rfl (tX10_whoKnows_7 hO hr hk c_fu a0_ x2_ x1 0)
/-! DollCongressModel.know(II)I -/
def fX10_know_41  : Nat → Nat → Int32 → Int32 → MM Int32
  | 0, _, _, _ => m_bad
  | n + 1, aL0, xL1, xL3 => m_cv aL0 9 (pX10_whoKnows aL0 xL1 xL3) (fun x1 => m_gi aL0 9 0 (fun x2 => if x1 = (((1 : Int32) <<< (x2 &&& 31)) - 1) then (m_ret xL3) else (m_let (xL3 + 1) (fun x3 => fX10_know_41 n aL0 xL1 x3))))
def pX10_know (a0_ : Nat) (x1_ : Int32) (x2_ : Int32) : MM Int32 := m_cv a0_ 9 (pX10_isCourt a0_ x1_) (fun x1 => if x1 = 0 then (m_ret ((-1000000001) : Int32)) else (m_bind (pX10_in (x2_.toInt64) ((-1)) 20) (fun x2 => if x2 = 0 then (m_ret ((-1000000002) : Int32)) else (if x2_ < 0 then (fX10_know_41 c_fu a0_ x1_ 0) else (m_cv a0_ 9 (pX10_whoKnows a0_ x1_ x2_) (fun x3 => m_ret x3))))))
set_option maxRecDepth 100000 in
set_option maxHeartbeats 4000000 in
theorem tX10_know_41 {p : Program} {l : Launch} {e : Env} {s : State} {m : MethodId} {args : Array Value} {below : List Frame} {meth : Method} {c : Code} {G : cG} (hO : c_Ok p s m c cX10_know 4 RX10 G) (hr : meth.sig.returnType = (some .int)) (hk : meth.locks = false) : ∀ (n : Nat) (aL0 : Nat) (xL1 : Int32) (xL3 : Int32), Sm p l e { frames := 2, cells := 0, slots := 0, locals := 47 } s m args below meth c G 4 (c_Q G c_vi below args s 0 0) 0 0 41 [(0, .ref aL0), (1, .int xL1), (3, .int xL3)] [] (fX10_know_41 n aL0 xL1 xL3) := by
  intro n
  induction n with
  | zero =>
    intro aL0 xL1 xL3
    exact sm_bad
  | succ n ih =>
    intro aL0 xL1 xL3
    rw [fX10_know_41]
    refine sm_aload_n hO 0 dX10_know_41 rfl rfl ?_
    refine sm_iload_n hO 1 dX10_know_42 rfl rfl ?_
    refine sm_iload_n hO 2 dX10_know_43 rfl rfl ?_
    refine sm_cvi hO (ctX10_whoKnows l G aL0 xL1 xL3) cw_RX10_324 cv_X10_whoKnows [] rfl rfl ⟨(Nat.le_of_ble_eq_true rfl), (Nat.le_of_ble_eq_true rfl)⟩ ⟨(Nat.le_of_ble_eq_true rfl), (Nat.le_of_ble_eq_true rfl)⟩ (Nat.le_of_ble_eq_true rfl) dX10_know_44 (fun x1 => ?_)
    refine sm_iconst (v := 1) hO dX10_know_47 rfl ?_
    refine sm_aload_n hO 0 dX10_know_48 rfl rfl ?_
    refine sm_gi hO fl_RX10_72 dX10_know_49 (fun x2 => ?_)
    refine sm_ishl hO dX10_know_52 ?_
    refine sm_iconst (v := 1) hO dX10_know_53 rfl ?_
    refine sm_isub hO dX10_know_54 ?_
    refine sm_icmp_eq (tgt := 64) hO dX10_know_55 (by decide) ?_ ?_
    · refine sm_iload_n hO 2 dX10_know_64 rfl rfl ?_
      exact sm_iret hO hr hk (Nat.le_of_ble_eq_true rfl) (Nat.le_of_ble_eq_true rfl) dX10_know_65
    · refine sm_iincL (v := xL3 + 1) hO 2 (fun x3 => [(3, .int x3), (0, .ref aL0), (1, .int xL1)]) dX10_know_58 rfl rfl (by decide) (fun _ => rfl) (fun x3 => ?_)
      refine sm_goto (tgt := 41) hO dX10_know_61 (by decide) ?_
      exact sm_sub [1, 2, 0] rfl (ih aL0 xL1 x3)
set_option maxRecDepth 100000 in
set_option maxHeartbeats 4000000 in
theorem ctX10_know (l : Launch) (G : cG) (a0_ : Nat) (x1_ : Int32) (x2_ : Int32) : Ct l G yX10_know cX10_know 4 (some .int) 2 47 0 0 [.ref a0_, .int x1_, .int x2_] c_vi (pX10_know a0_ x1_ x2_) := by
  refine Ct.of (lv := [(0, .ref a0_), (1, .int x1_), (2, .int x2_)]) (by decide) (Nat.le_of_ble_eq_true rfl) rfl (fun p e s m args below meth c hO hr hk hin => ?_)
  rw [pX10_know]
  refine sm_aload_n hO 0 dX10_know_0 rfl rfl ?_
  refine sm_iload_n hO 1 dX10_know_1 rfl rfl ?_
  refine sm_cvi hO (ctX10_isCourt l G a0_ x1_) cw_RX10_219 cv_X10_isCourt [] rfl rfl ⟨(Nat.le_of_ble_eq_true rfl), (Nat.le_of_ble_eq_true rfl)⟩ ⟨(Nat.le_of_ble_eq_true rfl), (Nat.le_of_ble_eq_true rfl)⟩ (Nat.le_of_ble_eq_true rfl) dX10_know_2 (fun x1 => ?_)
  refine sm_if_ne (tgt := 11) hO dX10_know_5 (by decide) ?_ ?_
  · refine sm_iload_n hO 2 dX10_know_11 rfl rfl ?_
    refine sm_i2l (v := x2_.toInt64) hO dX10_know_12 rfl ?_
    refine sm_ldc2 (v := (-1)) hO kw_1241 dX10_know_13 ?_
    refine sm_ldc2 (v := 20) hO kw_1242 dX10_know_16 ?_
    refine sm_csi hO (ctX10_in l G (x2_.toInt64) ((-1)) 20) cw_RX10_75 kw_923 [] rfl rfl ⟨(Nat.le_of_ble_eq_true rfl), (Nat.le_of_ble_eq_true rfl)⟩ ⟨(Nat.le_of_ble_eq_true rfl), (Nat.le_of_ble_eq_true rfl)⟩ (Nat.le_of_ble_eq_true rfl) dX10_know_19 (fun x2 => ?_)
    refine sm_if_ne (tgt := 28) hO dX10_know_22 (by decide) ?_ ?_
    · refine sm_iload_n hO 2 dX10_know_28 rfl rfl ?_
      refine sm_if_lt (tgt := 39) hO dX10_know_29 (by decide) ?_ ?_
      · refine sm_iconst (v := 0) hO dX10_know_39 rfl ?_
        refine sm_istore_n hO [(3, .int 0), (0, .ref a0_), (1, .int x1_), (2, .int x2_)] dX10_know_40 rfl (by decide) rfl ?_
        exact sm_sub [1, 2, 0] rfl (tX10_know_41 hO hr hk c_fu a0_ x1_ 0)
      · refine sm_aload_n hO 0 dX10_know_32 rfl rfl ?_
        refine sm_iload_n hO 1 dX10_know_33 rfl rfl ?_
        refine sm_iload_n hO 2 dX10_know_34 rfl rfl ?_
        refine sm_cvi hO (ctX10_whoKnows l G a0_ x1_ x2_) cw_RX10_324 cv_X10_whoKnows [] rfl rfl ⟨(Nat.le_of_ble_eq_true rfl), (Nat.le_of_ble_eq_true rfl)⟩ ⟨(Nat.le_of_ble_eq_true rfl), (Nat.le_of_ble_eq_true rfl)⟩ (Nat.le_of_ble_eq_true rfl) dX10_know_35 (fun x3 => ?_)
        exact sm_iret hO hr hk (Nat.le_of_ble_eq_true rfl) (Nat.le_of_ble_eq_true rfl) dX10_know_38
    · refine sm_ldc (v := (-1000000002)) hO kw_925 dX10_know_25 ?_
      exact sm_iret hO hr hk (Nat.le_of_ble_eq_true rfl) (Nat.le_of_ble_eq_true rfl) dX10_know_27
  · refine sm_ldc (v := (-1000000001)) hO kw_1046 dX10_know_8 ?_
    exact sm_iret hO hr hk (Nat.le_of_ble_eq_true rfl) (Nat.le_of_ble_eq_true rfl) dX10_know_10
/-! DollCongress.parcels(II)I -/
def fX9_parcels_30 (k54 : Int64 → MM Int32) : Nat → Int32 → Int32 → Int64 → Int32 → MM Int32
  | 0, _, _, _, _ => m_bad
  | n + 1, xL1, xL2, wL3, xL5 => if xL1 ≤ xL5 then (k54 wL3) else (m_nzl (100 : Int64) (m_letl ((wL3 * (((100 : Int32) - xL2).toInt64)) / 100) (fun w1 => m_let (xL5 + 1) (fun x2 => fX9_parcels_30 k54 n xL1 xL2 w1 x2))))
def fX9_parcels_54  (wL3 : Int64) : MM Int32 := m_ret (wL3.toInt32)
def pX9_parcels (a0_ : Nat) (x1_ : Int32) (x2_ : Int32) : MM Int32 := if x1_ < 0 then (m_ret ((-1000000002) : Int32)) else (if (60 : Int32) < x1_ then (m_ret ((-1000000002) : Int32)) else (if x2_ < 0 then (m_ret ((-1000000002) : Int32)) else (if x2_ ≤ (100 : Int32) then (fX9_parcels_30 fX9_parcels_54 c_fu x1_ x2_ 1000000000 0) else (m_ret ((-1000000002) : Int32)))))
set_option maxRecDepth 100000 in
set_option maxHeartbeats 4000000 in
theorem tX9_parcels_30 {p : Program} {l : Launch} {e : Env} {s : State} {m : MethodId} {args : Array Value} {below : List Frame} {meth : Method} {c : Code} {G : cG} (hO : c_Ok p s m c cX9_parcels 6 RX9 G) (hr : meth.sig.returnType = (some .int)) (hk : meth.locks = false) (k54 : Int64 → MM Int32) (hk54 : ∀ (wL3 : Int64), Sm p l e { frames := 0, cells := 0, slots := 0, locals := 0 } s m args below meth c G 6 (c_Q G c_vi below args s 0 0) 0 0 54 [(3, .long wL3)] [] (k54 wL3))  : ∀ (n : Nat) (xL1 : Int32) (xL2 : Int32) (wL3 : Int64) (xL5 : Int32), Sm p l e { frames := 0, cells := 0, slots := 0, locals := 0 } s m args below meth c G 6 (c_Q G c_vi below args s 0 0) 0 0 30 [(1, .int xL1), (2, .int xL2), (3, .long wL3), (5, .int xL5)] [] (fX9_parcels_30 k54 n xL1 xL2 wL3 xL5) := by
  intro n
  induction n with
  | zero =>
    intro xL1 xL2 wL3 xL5
    exact sm_bad
  | succ n ih =>
    intro xL1 xL2 wL3 xL5
    rw [fX9_parcels_30]
    refine sm_iload hO 3 dX9_parcels_30 rfl ?_
    refine sm_iload_n hO 0 dX9_parcels_32 rfl rfl ?_
    refine sm_icmp_ge (tgt := 54) hO dX9_parcels_33 (by decide) ?_ ?_
    · exact sm_sub [2] rfl (hk54 wL3)
    · refine sm_lload_n hO 2 dX9_parcels_36 rfl rfl ?_
      refine sm_bipush (v := 100) hO dX9_parcels_37 rfl ?_
      refine sm_iload_n hO 1 dX9_parcels_39 rfl rfl ?_
      refine sm_isub hO dX9_parcels_40 ?_
      refine sm_i2l (v := ((100 : Int32) - xL2).toInt64) hO dX9_parcels_41 rfl ?_
      refine sm_lmul hO dX9_parcels_42 ?_
      refine sm_ldc2 (v := 100) hO kw_767 dX9_parcels_43 ?_
      refine sm_ldiv hO dX9_parcels_46 ?_
      refine sm_topl (fun w1 => ?_)
      refine sm_lstore_n hO [(3, .long w1), (1, .int xL1), (2, .int xL2), (5, .int xL5)] dX9_parcels_47 rfl (by decide) rfl ?_
      refine sm_iincL (v := xL5 + 1) hO 3 (fun x2 => [(5, .int x2), (3, .long w1), (1, .int xL1), (2, .int xL2)]) dX9_parcels_48 rfl rfl (by decide) (fun _ => rfl) (fun x2 => ?_)
      refine sm_goto (tgt := 30) hO dX9_parcels_51 (by decide) ?_
      exact sm_sub [2, 3, 1, 0] rfl (ih xL1 xL2 w1 x2)
set_option maxRecDepth 100000 in
set_option maxHeartbeats 4000000 in
theorem tX9_parcels_54 {p : Program} {l : Launch} {e : Env} {s : State} {m : MethodId} {args : Array Value} {below : List Frame} {meth : Method} {c : Code} {G : cG} (hO : c_Ok p s m c cX9_parcels 6 RX9 G) (hr : meth.sig.returnType = (some .int)) (hk : meth.locks = false) : ∀ (wL3 : Int64), Sm p l e { frames := 0, cells := 0, slots := 0, locals := 0 } s m args below meth c G 6 (c_Q G c_vi below args s 0 0) 0 0 54 [(3, .long wL3)] [] (fX9_parcels_54 wL3) := by
  intro wL3
  rw [fX9_parcels_54]
  refine sm_lload_n hO 0 dX9_parcels_54 rfl rfl ?_
  refine sm_l2i (v := wL3.toInt32) hO dX9_parcels_55 rfl ?_
  exact sm_iret hO hr hk (Nat.le_of_ble_eq_true rfl) (Nat.le_of_ble_eq_true rfl) dX9_parcels_56
set_option maxRecDepth 100000 in
set_option maxHeartbeats 4000000 in
theorem ctX9_parcels (l : Launch) (G : cG) (a0_ : Nat) (x1_ : Int32) (x2_ : Int32) : Ct l G yX9_parcels cX9_parcels 6 (some .int) 0 0 0 0 [.ref a0_, .int x1_, .int x2_] c_vi (pX9_parcels a0_ x1_ x2_) := by
  refine Ct.of (lv := [(0, .ref a0_), (1, .int x1_), (2, .int x2_)]) (by decide) (Nat.le_of_ble_eq_true rfl) rfl (fun p e s m args below meth c hO hr hk hin => ?_)
  rw [pX9_parcels]
  refine sm_iload_n hO 1 dX9_parcels_0 rfl rfl ?_
  refine sm_if_lt (tgt := 20) hO dX9_parcels_1 (by decide) ?_ ?_
  · refine sm_ldc (v := (-1000000002)) hO kw_362 dX9_parcels_20 ?_
    exact sm_iret hO hr hk (Nat.le_of_ble_eq_true rfl) (Nat.le_of_ble_eq_true rfl) dX9_parcels_22
  · refine sm_iload_n hO 1 dX9_parcels_4 rfl rfl ?_
    refine sm_bipush (v := 60) hO dX9_parcels_5 rfl ?_
    refine sm_icmp_gt (tgt := 20) hO dX9_parcels_7 (by decide) ?_ ?_
    · refine sm_ldc (v := (-1000000002)) hO kw_362 dX9_parcels_20 ?_
      exact sm_iret hO hr hk (Nat.le_of_ble_eq_true rfl) (Nat.le_of_ble_eq_true rfl) dX9_parcels_22
    · refine sm_iload_n hO 2 dX9_parcels_10 rfl rfl ?_
      refine sm_if_lt (tgt := 20) hO dX9_parcels_11 (by decide) ?_ ?_
      · refine sm_ldc (v := (-1000000002)) hO kw_362 dX9_parcels_20 ?_
        exact sm_iret hO hr hk (Nat.le_of_ble_eq_true rfl) (Nat.le_of_ble_eq_true rfl) dX9_parcels_22
      · refine sm_iload_n hO 2 dX9_parcels_14 rfl rfl ?_
        refine sm_bipush (v := 100) hO dX9_parcels_15 rfl ?_
        refine sm_icmp_le (tgt := 23) hO dX9_parcels_17 (by decide) ?_ ?_
        · refine sm_ldc2 (v := 1000000000) hO kw_766 dX9_parcels_23 ?_
          refine sm_lstore_n hO [(3, .long 1000000000), (0, .ref a0_), (1, .int x1_), (2, .int x2_)] dX9_parcels_26 rfl (by decide) rfl ?_
          refine sm_iconst (v := 0) hO dX9_parcels_27 rfl ?_
          refine sm_istore hO [(5, .int 0), (3, .long 1000000000), (0, .ref a0_), (1, .int x1_), (2, .int x2_)] dX9_parcels_28 (by decide) rfl ?_
          exact sm_sub [3, 4, 1, 0] rfl (tX9_parcels_30 hO hr hk fX9_parcels_54 (tX9_parcels_54 hO hr hk) c_fu x1_ x2_ 1000000000 0)
        · refine sm_ldc (v := (-1000000002)) hO kw_362 dX9_parcels_20 ?_
          exact sm_iret hO hr hk (Nat.le_of_ble_eq_true rfl) (Nat.le_of_ble_eq_true rfl) dX9_parcels_22
/-! DollCongressModel.parcels(II)I -/
def fX10_parcels_34 (k58 : Int64 → MM Int32) : Nat → Int32 → Int32 → Int64 → Int32 → MM Int32
  | 0, _, _, _, _ => m_bad
  | n + 1, xL1, xL2, wL3, xL5 => if xL1 ≤ xL5 then (k58 wL3) else (m_nzl (100 : Int64) (m_letl ((wL3 * (((100 : Int32) - xL2).toInt64)) / 100) (fun w1 => m_let (xL5 + 1) (fun x2 => fX10_parcels_34 k58 n xL1 xL2 w1 x2))))
def fX10_parcels_58  (wL3 : Int64) : MM Int32 := m_ret (wL3.toInt32)
def pX10_parcels (a0_ : Nat) (x1_ : Int32) (x2_ : Int32) : MM Int32 := m_bind (pX10_in (x1_.toInt64) 0 60) (fun x1 => if x1 = 0 then (m_ret ((-1000000002) : Int32)) else (m_bind (pX10_in (x2_.toInt64) 0 100) (fun x2 => if x2 = 0 then (m_ret ((-1000000002) : Int32)) else (fX10_parcels_34 fX10_parcels_58 c_fu x1_ x2_ 1000000000 0))))
set_option maxRecDepth 100000 in
set_option maxHeartbeats 4000000 in
theorem tX10_parcels_34 {p : Program} {l : Launch} {e : Env} {s : State} {m : MethodId} {args : Array Value} {below : List Frame} {meth : Method} {c : Code} {G : cG} (hO : c_Ok p s m c cX10_parcels 6 RX10 G) (hr : meth.sig.returnType = (some .int)) (hk : meth.locks = false) (k58 : Int64 → MM Int32) (hk58 : ∀ (wL3 : Int64), Sm p l e { frames := 1, cells := 0, slots := 0, locals := 25 } s m args below meth c G 6 (c_Q G c_vi below args s 0 0) 0 0 58 [(3, .long wL3)] [] (k58 wL3))  : ∀ (n : Nat) (xL1 : Int32) (xL2 : Int32) (wL3 : Int64) (xL5 : Int32), Sm p l e { frames := 1, cells := 0, slots := 0, locals := 25 } s m args below meth c G 6 (c_Q G c_vi below args s 0 0) 0 0 34 [(1, .int xL1), (2, .int xL2), (3, .long wL3), (5, .int xL5)] [] (fX10_parcels_34 k58 n xL1 xL2 wL3 xL5) := by
  intro n
  induction n with
  | zero =>
    intro xL1 xL2 wL3 xL5
    exact sm_bad
  | succ n ih =>
    intro xL1 xL2 wL3 xL5
    rw [fX10_parcels_34]
    refine sm_iload hO 3 dX10_parcels_34 rfl ?_
    refine sm_iload_n hO 0 dX10_parcels_36 rfl rfl ?_
    refine sm_icmp_ge (tgt := 58) hO dX10_parcels_37 (by decide) ?_ ?_
    · exact sm_sub [2] rfl (hk58 wL3)
    · refine sm_lload_n hO 2 dX10_parcels_40 rfl rfl ?_
      refine sm_bipush (v := 100) hO dX10_parcels_41 rfl ?_
      refine sm_iload_n hO 1 dX10_parcels_43 rfl rfl ?_
      refine sm_isub hO dX10_parcels_44 ?_
      refine sm_i2l (v := ((100 : Int32) - xL2).toInt64) hO dX10_parcels_45 rfl ?_
      refine sm_lmul hO dX10_parcels_46 ?_
      refine sm_ldc2 (v := 100) hO kw_1150 dX10_parcels_47 ?_
      refine sm_ldiv hO dX10_parcels_50 ?_
      refine sm_topl (fun w1 => ?_)
      refine sm_lstore_n hO [(3, .long w1), (1, .int xL1), (2, .int xL2), (5, .int xL5)] dX10_parcels_51 rfl (by decide) rfl ?_
      refine sm_iincL (v := xL5 + 1) hO 3 (fun x2 => [(5, .int x2), (3, .long w1), (1, .int xL1), (2, .int xL2)]) dX10_parcels_52 rfl rfl (by decide) (fun _ => rfl) (fun x2 => ?_)
      refine sm_goto (tgt := 34) hO dX10_parcels_55 (by decide) ?_
      exact sm_sub [2, 3, 1, 0] rfl (ih xL1 xL2 w1 x2)
set_option maxRecDepth 100000 in
set_option maxHeartbeats 4000000 in
theorem tX10_parcels_58 {p : Program} {l : Launch} {e : Env} {s : State} {m : MethodId} {args : Array Value} {below : List Frame} {meth : Method} {c : Code} {G : cG} (hO : c_Ok p s m c cX10_parcels 6 RX10 G) (hr : meth.sig.returnType = (some .int)) (hk : meth.locks = false) : ∀ (wL3 : Int64), Sm p l e { frames := 1, cells := 0, slots := 0, locals := 25 } s m args below meth c G 6 (c_Q G c_vi below args s 0 0) 0 0 58 [(3, .long wL3)] [] (fX10_parcels_58 wL3) := by
  intro wL3
  rw [fX10_parcels_58]
  refine sm_lload_n hO 0 dX10_parcels_58 rfl rfl ?_
  refine sm_l2i (v := wL3.toInt32) hO dX10_parcels_59 rfl ?_
  exact sm_iret hO hr hk (Nat.le_of_ble_eq_true rfl) (Nat.le_of_ble_eq_true rfl) dX10_parcels_60
set_option maxRecDepth 100000 in
set_option maxHeartbeats 4000000 in
theorem ctX10_parcels (l : Launch) (G : cG) (a0_ : Nat) (x1_ : Int32) (x2_ : Int32) : Ct l G yX10_parcels cX10_parcels 6 (some .int) 1 25 0 0 [.ref a0_, .int x1_, .int x2_] c_vi (pX10_parcels a0_ x1_ x2_) := by
  refine Ct.of (lv := [(0, .ref a0_), (1, .int x1_), (2, .int x2_)]) (by decide) (Nat.le_of_ble_eq_true rfl) rfl (fun p e s m args below meth c hO hr hk hin => ?_)
  rw [pX10_parcels]
  refine sm_iload_n hO 1 dX10_parcels_0 rfl rfl ?_
  refine sm_i2l (v := x1_.toInt64) hO dX10_parcels_1 rfl ?_
  refine sm_lconst (v := 0) hO dX10_parcels_2 rfl ?_
  refine sm_ldc2 (v := 60) hO kw_1116 dX10_parcels_3 ?_
  refine sm_csi hO (ctX10_in l G (x1_.toInt64) 0 60) cw_RX10_75 kw_923 [] rfl rfl ⟨(Nat.le_of_ble_eq_true rfl), (Nat.le_of_ble_eq_true rfl)⟩ ⟨(Nat.le_of_ble_eq_true rfl), (Nat.le_of_ble_eq_true rfl)⟩ (Nat.le_of_ble_eq_true rfl) dX10_parcels_6 (fun x1 => ?_)
  refine sm_if_eq (tgt := 24) hO dX10_parcels_9 (by decide) ?_ ?_
  · refine sm_ldc (v := (-1000000002)) hO kw_925 dX10_parcels_24 ?_
    exact sm_iret hO hr hk (Nat.le_of_ble_eq_true rfl) (Nat.le_of_ble_eq_true rfl) dX10_parcels_26
  · refine sm_iload_n hO 2 dX10_parcels_12 rfl rfl ?_
    refine sm_i2l (v := x2_.toInt64) hO dX10_parcels_13 rfl ?_
    refine sm_lconst (v := 0) hO dX10_parcels_14 rfl ?_
    refine sm_ldc2 (v := 100) hO kw_1150 dX10_parcels_15 ?_
    refine sm_csi hO (ctX10_in l G (x2_.toInt64) 0 100) cw_RX10_75 kw_923 [] rfl rfl ⟨(Nat.le_of_ble_eq_true rfl), (Nat.le_of_ble_eq_true rfl)⟩ ⟨(Nat.le_of_ble_eq_true rfl), (Nat.le_of_ble_eq_true rfl)⟩ (Nat.le_of_ble_eq_true rfl) dX10_parcels_18 (fun x2 => ?_)
    refine sm_if_ne (tgt := 27) hO dX10_parcels_21 (by decide) ?_ ?_
    · refine sm_ldc2 (v := 1000000000) hO kw_1251 dX10_parcels_27 ?_
      refine sm_lstore_n hO [(3, .long 1000000000), (0, .ref a0_), (1, .int x1_), (2, .int x2_)] dX10_parcels_30 rfl (by decide) rfl ?_
      refine sm_iconst (v := 0) hO dX10_parcels_31 rfl ?_
      refine sm_istore hO [(5, .int 0), (3, .long 1000000000), (0, .ref a0_), (1, .int x1_), (2, .int x2_)] dX10_parcels_32 (by decide) rfl ?_
      exact sm_sub [3, 4, 1, 0] rfl (tX10_parcels_34 hO hr hk fX10_parcels_58 (tX10_parcels_58 hO hr hk) c_fu x1_ x2_ 1000000000 0)
    · refine sm_ldc (v := (-1000000002)) hO kw_925 dX10_parcels_24 ?_
      exact sm_iret hO hr hk (Nat.le_of_ble_eq_true rfl) (Nat.le_of_ble_eq_true rfl) dX10_parcels_26
/-! DollCongress$Book.add(II)V -/
def pX0_add (a0_ : Nat) (x1_ : Int32) (x2_ : Int32) : MM Unit := m_gi a0_ 0 2 (fun x1 => if (15 : Int32) ≤ x1 then (m_ret ()) else (m_gr a0_ 0 0 (fun a2 => m_gi a0_ 0 2 (fun x3 => m_si a2 x3 x1_ (m_gr a0_ 0 1 (fun a4 => m_gi a0_ 0 2 (fun x5 => m_si a4 x5 x2_ (m_gi a0_ 0 2 (fun x6 => m_pv a0_ 0 2 (.int (x6 + 1)) (m_ret ()))))))))))
set_option maxRecDepth 100000 in
set_option maxHeartbeats 4000000 in
theorem ctX0_add (l : Launch) (G : cG) (a0_ : Nat) (x1_ : Int32) (x2_ : Int32) : Ct l G yX0_add cX0_add 3 none 0 0 0 0 [.ref a0_, .int x1_, .int x2_] c_vv (pX0_add a0_ x1_ x2_) := by
  refine Ct.of (lv := [(0, .ref a0_), (1, .int x1_), (2, .int x2_)]) (by decide) (Nat.le_of_ble_eq_true rfl) rfl (fun p e s m args below meth c hO hr hk hin => ?_)
  rw [pX0_add]
  refine sm_aload_n hO 0 dX0_add_0 rfl rfl ?_
  refine sm_gi hO fl_RX0_18 dX0_add_1 (fun x1 => ?_)
  refine sm_bipush (v := 15) hO dX0_add_4 rfl ?_
  refine sm_icmp_ge (tgt := 39) hO dX0_add_6 (by decide) ?_ ?_
  · exact sm_vret hO hr hk (Nat.le_of_ble_eq_true rfl) (Nat.le_of_ble_eq_true rfl) dX0_add_39
  · refine sm_aload_n hO 0 dX0_add_9 rfl rfl ?_
    refine sm_gr hO fl_RX0_9 dX0_add_10 (fun a2 => ?_)
    refine sm_aload_n hO 0 dX0_add_13 rfl rfl ?_
    refine sm_gi hO fl_RX0_18 dX0_add_14 (fun x3 => ?_)
    refine sm_iload_n hO 1 dX0_add_17 rfl rfl ?_
    refine sm_si hO dX0_add_18 ?_
    refine sm_aload_n hO 0 dX0_add_19 rfl rfl ?_
    refine sm_gr hO fl_RX0_15 dX0_add_20 (fun a4 => ?_)
    refine sm_aload_n hO 0 dX0_add_23 rfl rfl ?_
    refine sm_gi hO fl_RX0_18 dX0_add_24 (fun x5 => ?_)
    refine sm_iload_n hO 2 dX0_add_27 rfl rfl ?_
    refine sm_si hO dX0_add_28 ?_
    refine sm_aload_n hO 0 dX0_add_29 rfl rfl ?_
    refine sm_dup hO dX0_add_30 rfl ?_
    refine sm_gi hO fl_RX0_18 dX0_add_31 (fun x6 => ?_)
    refine sm_iconst (v := 1) hO dX0_add_34 rfl ?_
    refine sm_iadd hO dX0_add_35 ?_
    refine sm_pv hO fl_RX0_18 fp_0_2 rfl rfl dX0_add_36 ?_
    exact sm_vret hO hr hk (Nat.le_of_ble_eq_true rfl) (Nat.le_of_ble_eq_true rfl) dX0_add_39
/-! DollCongress.write(II)I -/
def pX9_write (a0_ : Nat) (x1_ : Int32) (x2_ : Int32) : MM Int32 := m_gr a0_ 8 7 (fun a1 => m_cv a1 4 (pX4_hasDoll a1 x1_) (fun x2 => if x2 = 0 then (m_ret ((-1000000001) : Int32)) else (m_gr a0_ 8 7 (fun a3 => m_cv a3 4 (pX4_hasCourt a3 x2_) (fun x4 => if x4 = 0 then (m_ret ((-1000000001) : Int32)) else (m_gr a0_ 8 3 (fun a5 => m_gi a5 0 2 (fun x6 => if x6 < (15 : Int32) then (m_gr a0_ 8 3 (fun a7 => m_cv a7 0 (pX0_add a7 x1_ x2_) (fun _ => m_gr a0_ 8 3 (fun a8 => m_gi a8 0 2 (fun x9 => m_ret x9))))) else (m_ret ((-1000000004) : Int32))))))))))
set_option maxRecDepth 100000 in
set_option maxHeartbeats 4000000 in
theorem ctX9_write (l : Launch) (G : cG) (a0_ : Nat) (x1_ : Int32) (x2_ : Int32) : Ct l G yX9_write cX9_write 3 (some .int) 1 22 0 0 [.ref a0_, .int x1_, .int x2_] c_vi (pX9_write a0_ x1_ x2_) := by
  refine Ct.of (lv := [(0, .ref a0_), (1, .int x1_), (2, .int x2_)]) (by decide) (Nat.le_of_ble_eq_true rfl) rfl (fun p e s m args below meth c hO hr hk hin => ?_)
  rw [pX9_write]
  refine sm_aload_n hO 0 dX9_write_0 rfl rfl ?_
  refine sm_gr hO fl_RX9_60 dX9_write_1 (fun a1 => ?_)
  refine sm_iload_n hO 1 dX9_write_4 rfl rfl ?_
  refine sm_cvi hO (ctX4_hasDoll l G a1 x1_) cw_RX9_153 cv_X4_hasDoll [] rfl rfl ⟨(Nat.le_of_ble_eq_true rfl), (Nat.le_of_ble_eq_true rfl)⟩ ⟨(Nat.le_of_ble_eq_true rfl), (Nat.le_of_ble_eq_true rfl)⟩ (Nat.le_of_ble_eq_true rfl) dX9_write_5 (fun x2 => ?_)
  refine sm_if_eq (tgt := 22) hO dX9_write_8 (by decide) ?_ ?_
  · refine sm_ldc (v := (-1000000001)) hO kw_512 dX9_write_22 ?_
    exact sm_iret hO hr hk (Nat.le_of_ble_eq_true rfl) (Nat.le_of_ble_eq_true rfl) dX9_write_24
  · refine sm_aload_n hO 0 dX9_write_11 rfl rfl ?_
    refine sm_gr hO fl_RX9_60 dX9_write_12 (fun a3 => ?_)
    refine sm_iload_n hO 2 dX9_write_15 rfl rfl ?_
    refine sm_cvi hO (ctX4_hasCourt l G a3 x2_) cw_RX9_179 cv_X4_hasCourt [] rfl rfl ⟨(Nat.le_of_ble_eq_true rfl), (Nat.le_of_ble_eq_true rfl)⟩ ⟨(Nat.le_of_ble_eq_true rfl), (Nat.le_of_ble_eq_true rfl)⟩ (Nat.le_of_ble_eq_true rfl) dX9_write_16 (fun x4 => ?_)
    refine sm_if_ne (tgt := 25) hO dX9_write_19 (by decide) ?_ ?_
    · refine sm_aload_n hO 0 dX9_write_25 rfl rfl ?_
      refine sm_gr hO fl_RX9_33 dX9_write_26 (fun a5 => ?_)
      refine sm_gi hO fl_RX9_92 dX9_write_29 (fun x6 => ?_)
      refine sm_bipush (v := 15) hO dX9_write_32 rfl ?_
      refine sm_icmp_lt (tgt := 40) hO dX9_write_34 (by decide) ?_ ?_
      · refine sm_aload_n hO 0 dX9_write_40 rfl rfl ?_
        refine sm_gr hO fl_RX9_33 dX9_write_41 (fun a7 => ?_)
        refine sm_iload_n hO 1 dX9_write_44 rfl rfl ?_
        refine sm_iload_n hO 2 dX9_write_45 rfl rfl ?_
        refine sm_cvv hO (ctX0_add l G a7 x1_ x2_) cw_RX9_279 cv_X0_add [] rfl rfl ⟨(Nat.le_of_ble_eq_true rfl), (Nat.le_of_ble_eq_true rfl)⟩ ⟨(Nat.le_of_ble_eq_true rfl), (Nat.le_of_ble_eq_true rfl)⟩ (Nat.le_of_ble_eq_true rfl) dX9_write_46 (fun _ => ?_)
        refine sm_aload_n hO 0 dX9_write_49 rfl rfl ?_
        refine sm_gr hO fl_RX9_33 dX9_write_50 (fun a8 => ?_)
        refine sm_gi hO fl_RX9_92 dX9_write_53 (fun x9 => ?_)
        exact sm_iret hO hr hk (Nat.le_of_ble_eq_true rfl) (Nat.le_of_ble_eq_true rfl) dX9_write_56
      · refine sm_ldc (v := (-1000000004)) hO kw_363 dX9_write_37 ?_
        exact sm_iret hO hr hk (Nat.le_of_ble_eq_true rfl) (Nat.le_of_ble_eq_true rfl) dX9_write_39
    · refine sm_ldc (v := (-1000000001)) hO kw_512 dX9_write_22 ?_
      exact sm_iret hO hr hk (Nat.le_of_ble_eq_true rfl) (Nat.le_of_ble_eq_true rfl) dX9_write_24
/-! DollCongressModel.write(II)I -/
def pX10_write (a0_ : Nat) (x1_ : Int32) (x2_ : Int32) : MM Int32 := m_cv a0_ 9 (pX10_isDoll a0_ x1_) (fun x1 => if x1 = 0 then (m_ret ((-1000000001) : Int32)) else (m_cv a0_ 9 (pX10_isCourt a0_ x2_) (fun x2 => if x2 = 0 then (m_ret ((-1000000001) : Int32)) else (m_gi a0_ 9 31 (fun x3 => if x3 = (15 : Int32) then (m_ret ((-1000000004) : Int32)) else (m_gr a0_ 9 32 (fun a4 => m_gi a0_ 9 31 (fun x5 => m_si a4 x5 x1_ (m_gr a0_ 9 33 (fun a6 => m_gi a0_ 9 31 (fun x7 => m_si a6 x7 x2_ (m_gi a0_ 9 31 (fun x8 => m_pv a0_ 9 31 (.int (x8 + 1)) (m_gi a0_ 9 31 (fun x9 => m_ret x9)))))))))))))))
set_option maxRecDepth 100000 in
set_option maxHeartbeats 4000000 in
theorem ctX10_write (l : Launch) (G : cG) (a0_ : Nat) (x1_ : Int32) (x2_ : Int32) : Ct l G yX10_write cX10_write 3 (some .int) 2 46 0 0 [.ref a0_, .int x1_, .int x2_] c_vi (pX10_write a0_ x1_ x2_) := by
  refine Ct.of (lv := [(0, .ref a0_), (1, .int x1_), (2, .int x2_)]) (by decide) (Nat.le_of_ble_eq_true rfl) rfl (fun p e s m args below meth c hO hr hk hin => ?_)
  rw [pX10_write]
  refine sm_aload_n hO 0 dX10_write_0 rfl rfl ?_
  refine sm_iload_n hO 1 dX10_write_1 rfl rfl ?_
  refine sm_cvi hO (ctX10_isDoll l G a0_ x1_) cw_RX10_215 cv_X10_isDoll [] rfl rfl ⟨(Nat.le_of_ble_eq_true rfl), (Nat.le_of_ble_eq_true rfl)⟩ ⟨(Nat.le_of_ble_eq_true rfl), (Nat.le_of_ble_eq_true rfl)⟩ (Nat.le_of_ble_eq_true rfl) dX10_write_2 (fun x1 => ?_)
  refine sm_if_eq (tgt := 16) hO dX10_write_5 (by decide) ?_ ?_
  · refine sm_ldc (v := (-1000000001)) hO kw_1046 dX10_write_16 ?_
    exact sm_iret hO hr hk (Nat.le_of_ble_eq_true rfl) (Nat.le_of_ble_eq_true rfl) dX10_write_18
  · refine sm_aload_n hO 0 dX10_write_8 rfl rfl ?_
    refine sm_iload_n hO 2 dX10_write_9 rfl rfl ?_
    refine sm_cvi hO (ctX10_isCourt l G a0_ x2_) cw_RX10_219 cv_X10_isCourt [] rfl rfl ⟨(Nat.le_of_ble_eq_true rfl), (Nat.le_of_ble_eq_true rfl)⟩ ⟨(Nat.le_of_ble_eq_true rfl), (Nat.le_of_ble_eq_true rfl)⟩ (Nat.le_of_ble_eq_true rfl) dX10_write_10 (fun x2 => ?_)
    refine sm_if_ne (tgt := 19) hO dX10_write_13 (by decide) ?_ ?_
    · refine sm_aload_n hO 0 dX10_write_19 rfl rfl ?_
      refine sm_gi hO fl_RX10_169 dX10_write_20 (fun x3 => ?_)
      refine sm_bipush (v := 15) hO dX10_write_23 rfl ?_
      refine sm_icmp_ne (tgt := 31) hO dX10_write_25 (by decide) ?_ ?_
      · refine sm_aload_n hO 0 dX10_write_31 rfl rfl ?_
        refine sm_gr hO fl_RX10_60 dX10_write_32 (fun a4 => ?_)
        refine sm_aload_n hO 0 dX10_write_35 rfl rfl ?_
        refine sm_gi hO fl_RX10_169 dX10_write_36 (fun x5 => ?_)
        refine sm_iload_n hO 1 dX10_write_39 rfl rfl ?_
        refine sm_si hO dX10_write_40 ?_
        refine sm_aload_n hO 0 dX10_write_41 rfl rfl ?_
        refine sm_gr hO fl_RX10_63 dX10_write_42 (fun a6 => ?_)
        refine sm_aload_n hO 0 dX10_write_45 rfl rfl ?_
        refine sm_gi hO fl_RX10_169 dX10_write_46 (fun x7 => ?_)
        refine sm_iload_n hO 2 dX10_write_49 rfl rfl ?_
        refine sm_si hO dX10_write_50 ?_
        refine sm_aload_n hO 0 dX10_write_51 rfl rfl ?_
        refine sm_dup hO dX10_write_52 rfl ?_
        refine sm_gi hO fl_RX10_169 dX10_write_53 (fun x8 => ?_)
        refine sm_iconst (v := 1) hO dX10_write_56 rfl ?_
        refine sm_iadd hO dX10_write_57 ?_
        refine sm_pv hO fl_RX10_169 fp_9_31 rfl rfl dX10_write_58 ?_
        refine sm_aload_n hO 0 dX10_write_61 rfl rfl ?_
        refine sm_gi hO fl_RX10_169 dX10_write_62 (fun x9 => ?_)
        exact sm_iret hO hr hk (Nat.le_of_ble_eq_true rfl) (Nat.le_of_ble_eq_true rfl) dX10_write_65
      · refine sm_ldc (v := (-1000000004)) hO kw_926 dX10_write_28 ?_
        exact sm_iret hO hr hk (Nat.le_of_ble_eq_true rfl) (Nat.le_of_ble_eq_true rfl) dX10_write_30
    · refine sm_ldc (v := (-1000000001)) hO kw_1046 dX10_write_16 ?_
      exact sm_iret hO hr hk (Nat.le_of_ble_eq_true rfl) (Nat.le_of_ble_eq_true rfl) dX10_write_18
