/-! DollCongressModel.moreWarm(I)I -/
def pX10_moreWarm (a0_ : Nat) (x1_ : Int32) : MM Int32 := m_gr a0_ 9 8 (fun a1 => m_li 0 a1 (8 : Int32) (fun x2 => m_bind (pX10_has x2 x1_) (fun x3 => if x3 = 0 then (m_ret ((-1) : Int32)) else (m_gr a0_ 9 3 (fun a4 => m_li 0 a4 x1_ (fun x5 => if x5 = 0 then (m_ret (1 : Int32)) else (if x5 = 1 then (m_ret (0 : Int32)) else (if x5 = 2 then (m_ret (3 : Int32)) else (if x5 = 3 then (m_gr a0_ 9 8 (fun a6 => m_li 0 a6 (33 : Int32) (fun x7 => m_nz (2 : Int32) (if (x7 - x7 / 2 * 2) = 0 then (m_ret (2 : Int32)) else (m_ret (0 : Int32)))))) else (m_ret (0 : Int32)))))))))))
set_option maxRecDepth 100000 in
set_option maxHeartbeats 4000000 in
theorem ctX10_moreWarm (l : Launch) (G : cG) (a0_ : Nat) (x1_ : Int32) : Ct l G yX10_moreWarm cX10_moreWarm 2 (some .int) 1 21 0 0 [.ref a0_, .int x1_] c_vi (pX10_moreWarm a0_ x1_) := by
  refine Ct.of (lv := [(0, .ref a0_), (1, .int x1_)]) (by decide) (Nat.le_of_ble_eq_true rfl) rfl (fun p e s m args below meth c hO hr hk hin => ?_)
  rw [pX10_moreWarm]
  refine sm_aload_n hO 0 dX10_moreWarm_0 rfl rfl ?_
  refine sm_gr hO fl_RX10_22 dX10_moreWarm_1 (fun a1 => ?_)
  refine sm_bipush (v := 8) hO dX10_moreWarm_4 rfl ?_
  refine sm_li hO dX10_moreWarm_6 (fun x2 => ?_)
  refine sm_iload_n hO 1 dX10_moreWarm_7 rfl rfl ?_
  refine sm_csi hO (ctX10_has l G x2 x1_) cw_RX10_175 kw_985 [] rfl rfl ⟨(Nat.le_of_ble_eq_true rfl), (Nat.le_of_ble_eq_true rfl)⟩ ⟨(Nat.le_of_ble_eq_true rfl), (Nat.le_of_ble_eq_true rfl)⟩ (Nat.le_of_ble_eq_true rfl) dX10_moreWarm_8 (fun x3 => ?_)
  refine sm_if_ne (tgt := 16) hO dX10_moreWarm_11 (by decide) ?_ ?_
  · refine sm_aload_n hO 0 dX10_moreWarm_16 rfl rfl ?_
    refine sm_gr hO fl_RX10_13 dX10_moreWarm_17 (fun a4 => ?_)
    refine sm_iload_n hO 1 dX10_moreWarm_20 rfl rfl ?_
    refine sm_li hO dX10_moreWarm_21 (fun x5 => ?_)
    refine sm_ite (fun q22_0 => ?_) (fun q22_0 => ?_)
    · refine sm_tabIn (tgt := 52) hO dX10_moreWarm_22 q22_0 (by decide) (by decide) rfl (by decide) ?_
      refine sm_iconst (v := 1) hO dX10_moreWarm_52 rfl ?_
      exact sm_iret hO hr hk (Nat.le_of_ble_eq_true rfl) (Nat.le_of_ble_eq_true rfl) dX10_moreWarm_53
    · refine sm_ite (fun q22_1 => ?_) (fun q22_1 => ?_)
      · refine sm_tabIn (tgt := 74) hO dX10_moreWarm_22 q22_1 (by decide) (by decide) rfl (by decide) ?_
        refine sm_iconst (v := 0) hO dX10_moreWarm_74 rfl ?_
        exact sm_iret hO hr hk (Nat.le_of_ble_eq_true rfl) (Nat.le_of_ble_eq_true rfl) dX10_moreWarm_75
      · refine sm_ite (fun q22_2 => ?_) (fun q22_2 => ?_)
        · refine sm_tabIn (tgt := 54) hO dX10_moreWarm_22 q22_2 (by decide) (by decide) rfl (by decide) ?_
          refine sm_iconst (v := 3) hO dX10_moreWarm_54 rfl ?_
          exact sm_iret hO hr hk (Nat.le_of_ble_eq_true rfl) (Nat.le_of_ble_eq_true rfl) dX10_moreWarm_55
        · refine sm_ite (fun q22_3 => ?_) (fun q22_3 => ?_)
          · refine sm_tabIn (tgt := 56) hO dX10_moreWarm_22 q22_3 (by decide) (by decide) rfl (by decide) ?_
            refine sm_aload_n hO 0 dX10_moreWarm_56 rfl rfl ?_
            refine sm_gr hO fl_RX10_22 dX10_moreWarm_57 (fun a6 => ?_)
            refine sm_bipush (v := 33) hO dX10_moreWarm_60 rfl ?_
            refine sm_li hO dX10_moreWarm_62 (fun x7 => ?_)
            refine sm_iconst (v := 2) hO dX10_moreWarm_63 rfl ?_
            refine sm_irem hO dX10_moreWarm_64 ?_
            refine sm_if_ne (tgt := 72) hO dX10_moreWarm_65 (by decide) ?_ ?_
            · refine sm_iconst (v := 0) hO dX10_moreWarm_72 rfl ?_
              exact sm_iret hO hr hk (Nat.le_of_ble_eq_true rfl) (Nat.le_of_ble_eq_true rfl) dX10_moreWarm_73
            · refine sm_iconst (v := 2) hO dX10_moreWarm_68 rfl ?_
              refine sm_goto (tgt := 73) hO dX10_moreWarm_69 (by decide) ?_
              exact sm_iret hO hr hk (Nat.le_of_ble_eq_true rfl) (Nat.le_of_ble_eq_true rfl) dX10_moreWarm_73
          · refine sm_tabOut (tgt := 74) hO dX10_moreWarm_22 (c_ne_lo (n := 4) (by decide) (fun k hk => match k, hk with | 0, _ => q22_0 | 1, _ => q22_1 | 2, _ => q22_2 | 3, _ => q22_3 | k + 4, hk => absurd hk (by omega))) (by decide) ?_
            refine sm_iconst (v := 0) hO dX10_moreWarm_74 rfl ?_
            exact sm_iret hO hr hk (Nat.le_of_ble_eq_true rfl) (Nat.le_of_ble_eq_true rfl) dX10_moreWarm_75
  · refine sm_iconst (v := (-1)) hO dX10_moreWarm_14 rfl ?_
    exact sm_iret hO hr hk (Nat.le_of_ble_eq_true rfl) (Nat.le_of_ble_eq_true rfl) dX10_moreWarm_15
/-! DollCongressModel.pass()V -/
def fX10_pass_97 (k98 : Nat → Int32 → Int32 → MM Unit) (aL0 : Nat) (xL1 : Int32) : MM Unit := k98 aL0 xL1 0
def fX10_pass_131 (k132 : Nat → Int32 → Int32 → Int32 → Int32 → Nat → MM Unit) (aL0 : Nat) (xL1 : Int32) (xS0 : Int32) (xS1 : Int32) (aS2 : Nat) : MM Unit := k132 aL0 xL1 0 xS0 xS1 aS2
def fX10_pass_132 (k2 : Nat → Int32 → MM Unit) (aL0 : Nat) (xL1 : Int32) (xS0 : Int32) (xS1 : Int32) (xS2 : Int32) (aS3 : Nat) : MM Unit := m_si aS3 xS2 (xS1 + xS0) (m_let (xL1 + 1) (fun x1 => k2 aL0 x1))
def fX10_pass_98 (k2 : Nat → Int32 → MM Unit) (aL0 : Nat) (xL1 : Int32) (xS0 : Int32) : MM Unit := m_gr aL0 9 8 (fun a1 => m_li 0 a1 ((25 : Int32) + xL1) (fun x2 => if xS0 = 0 then (fX10_pass_131 (fX10_pass_132 k2) aL0 xL1 x2 ((25 : Int32) + xL1) a1) else (m_gr aL0 9 8 (fun a3 => m_li 0 a3 ((25 : Int32) + xL1) (fun x4 => if (999999 : Int32) ≤ x4 then (fX10_pass_131 (fX10_pass_132 k2) aL0 xL1 x2 ((25 : Int32) + xL1) a1) else (fX10_pass_132 k2 aL0 xL1 1 x2 ((25 : Int32) + xL1) a1))))))
def fX10_pass_54 (k2 : Nat → Int32 → MM Unit) (aL0 : Nat) (xL1 : Int32) (xS0 : Int32) (xS1 : Int32) (aS2 : Nat) : MM Unit := m_si aS2 xS1 xS0 (m_gr aL0 9 3 (fun a1 => m_li 0 a1 xL1 (fun x2 => if x2 = (2 : Int32) then (m_gr aL0 9 8 (fun a3 => m_li 0 a3 (8 : Int32) (fun x4 => m_bind (pX10_has x4 xL1) (fun x5 => if x5 = 0 then (fX10_pass_97 (fX10_pass_98 k2) aL0 xL1) else (m_gr aL0 9 8 (fun a6 => m_li 0 a6 ((9 : Int32) + xL1) (fun x7 => if x7 < (20 : Int32) then (fX10_pass_97 (fX10_pass_98 k2) aL0 xL1) else (fX10_pass_98 k2 aL0 xL1 1)))))))) else (fX10_pass_97 (fX10_pass_98 k2) aL0 xL1))))
def fX10_pass_2 (k140 : Nat → MM Unit) : Nat → Nat → Int32 → MM Unit
  | 0, _, _ => m_bad
  | n + 1, aL0, xL1 => m_gi aL0 9 2 (fun x1 => if x1 ≤ xL1 then (k140 aL0) else (m_gr aL0 9 8 (fun a2 => m_li 0 a2 ((9 : Int32) + xL1) (fun x3 => m_cv aL0 9 (pX10_moreWarm aL0 xL1) (fun x4 => m_let (x3 + x4) (fun x5 => m_gr aL0 9 8 (fun a6 => if 0 ≤ x5 then (if x5 ≤ (99 : Int32) then (fX10_pass_54 (fX10_pass_2 k140 n) aL0 xL1 x5 ((9 : Int32) + xL1) a6) else (fX10_pass_54 (fX10_pass_2 k140 n) aL0 xL1 99 ((9 : Int32) + xL1) a6)) else (fX10_pass_54 (fX10_pass_2 k140 n) aL0 xL1 0 ((9 : Int32) + xL1) a6))))))))
def fX10_pass_140  (aL0 : Nat) : MM Unit := m_gr aL0 9 8 (fun a1 => m_li 0 a1 (33 : Int32) (fun x2 => m_si a1 (33 : Int32) (x2 + 1) (m_ret ())))
def pX10_pass (a0_ : Nat) : MM Unit := fX10_pass_2 fX10_pass_140 c_fu a0_ 0
set_option maxRecDepth 100000 in
set_option maxHeartbeats 4000000 in
theorem tX10_pass_97 {p : Program} {l : Launch} {e : Env} {s : State} {m : MethodId} {args : Array Value} {below : List Frame} {meth : Method} {c : Code} {G : cG} (hO : c_Ok p s m c cX10_pass 4 RX10 G) (hr : meth.sig.returnType = none) (hk : meth.locks = false) (k98 : Nat → Int32 → Int32 → MM Unit) (hk98 : ∀ (aL0 : Nat) (xL1 : Int32) (xS0 : Int32), Sm p l e { frames := 2, cells := 0, slots := 0, locals := 42 } s m args below meth c G 4 (c_Q G c_vv below args s 0 0) 0 0 98 [(0, .ref aL0), (1, .int xL1)] [.int xS0] (k98 aL0 xL1 xS0))  : ∀ (aL0 : Nat) (xL1 : Int32), Sm p l e { frames := 2, cells := 0, slots := 0, locals := 42 } s m args below meth c G 4 (c_Q G c_vv below args s 0 0) 0 0 97 [(0, .ref aL0), (1, .int xL1)] [] (fX10_pass_97 k98 aL0 xL1) := by
  intro aL0 xL1
  rw [fX10_pass_97]
  refine sm_iconst (v := 0) hO dX10_pass_97 rfl ?_
  exact sm_sub [0, 1] rfl (hk98 aL0 xL1 0)
set_option maxRecDepth 100000 in
set_option maxHeartbeats 4000000 in
theorem tX10_pass_131 {p : Program} {l : Launch} {e : Env} {s : State} {m : MethodId} {args : Array Value} {below : List Frame} {meth : Method} {c : Code} {G : cG} (hO : c_Ok p s m c cX10_pass 4 RX10 G) (hr : meth.sig.returnType = none) (hk : meth.locks = false) (k132 : Nat → Int32 → Int32 → Int32 → Int32 → Nat → MM Unit) (hk132 : ∀ (aL0 : Nat) (xL1 : Int32) (xS0 : Int32) (xS1 : Int32) (xS2 : Int32) (aS3 : Nat), Sm p l e { frames := 2, cells := 0, slots := 0, locals := 42 } s m args below meth c G 4 (c_Q G c_vv below args s 0 0) 0 0 132 [(0, .ref aL0), (1, .int xL1)] [.int xS0, .int xS1, .int xS2, .ref aS3] (k132 aL0 xL1 xS0 xS1 xS2 aS3))  : ∀ (aL0 : Nat) (xL1 : Int32) (xS0 : Int32) (xS1 : Int32) (aS2 : Nat), Sm p l e { frames := 2, cells := 0, slots := 0, locals := 42 } s m args below meth c G 4 (c_Q G c_vv below args s 0 0) 0 0 131 [(0, .ref aL0), (1, .int xL1)] [.int xS0, .int xS1, .ref aS2] (fX10_pass_131 k132 aL0 xL1 xS0 xS1 aS2) := by
  intro aL0 xL1 xS0 xS1 aS2
  rw [fX10_pass_131]
  refine sm_iconst (v := 0) hO dX10_pass_131 rfl ?_
  exact sm_sub [0, 1] rfl (hk132 aL0 xL1 0 xS0 xS1 aS2)
set_option maxRecDepth 100000 in
set_option maxHeartbeats 4000000 in
theorem tX10_pass_132 {p : Program} {l : Launch} {e : Env} {s : State} {m : MethodId} {args : Array Value} {below : List Frame} {meth : Method} {c : Code} {G : cG} (hO : c_Ok p s m c cX10_pass 4 RX10 G) (hr : meth.sig.returnType = none) (hk : meth.locks = false) (k2 : Nat → Int32 → MM Unit) (hk2 : ∀ (aL0 : Nat) (xL1 : Int32), Sm p l e { frames := 2, cells := 0, slots := 0, locals := 42 } s m args below meth c G 4 (c_Q G c_vv below args s 0 0) 0 0 2 [(0, .ref aL0), (1, .int xL1)] [] (k2 aL0 xL1))  : ∀ (aL0 : Nat) (xL1 : Int32) (xS0 : Int32) (xS1 : Int32) (xS2 : Int32) (aS3 : Nat), Sm p l e { frames := 2, cells := 0, slots := 0, locals := 42 } s m args below meth c G 4 (c_Q G c_vv below args s 0 0) 0 0 132 [(0, .ref aL0), (1, .int xL1)] [.int xS0, .int xS1, .int xS2, .ref aS3] (fX10_pass_132 k2 aL0 xL1 xS0 xS1 xS2 aS3) := by
  intro aL0 xL1 xS0 xS1 xS2 aS3
  rw [fX10_pass_132]
  refine sm_iadd hO dX10_pass_132 ?_
  refine sm_si hO dX10_pass_133 ?_
  refine sm_iincL (v := xL1 + 1) hO 1 (fun x1 => [(1, .int x1), (0, .ref aL0)]) dX10_pass_134 rfl rfl (by decide) (fun _ => rfl) (fun x1 => ?_)
  refine sm_goto (tgt := 2) hO dX10_pass_137 (by decide) ?_
  exact sm_sub [1, 0] rfl (hk2 aL0 x1)
set_option maxRecDepth 100000 in
set_option maxHeartbeats 4000000 in
theorem tX10_pass_98 {p : Program} {l : Launch} {e : Env} {s : State} {m : MethodId} {args : Array Value} {below : List Frame} {meth : Method} {c : Code} {G : cG} (hO : c_Ok p s m c cX10_pass 4 RX10 G) (hr : meth.sig.returnType = none) (hk : meth.locks = false) (k2 : Nat → Int32 → MM Unit) (hk2 : ∀ (aL0 : Nat) (xL1 : Int32), Sm p l e { frames := 2, cells := 0, slots := 0, locals := 42 } s m args below meth c G 4 (c_Q G c_vv below args s 0 0) 0 0 2 [(0, .ref aL0), (1, .int xL1)] [] (k2 aL0 xL1))  : ∀ (aL0 : Nat) (xL1 : Int32) (xS0 : Int32), Sm p l e { frames := 2, cells := 0, slots := 0, locals := 42 } s m args below meth c G 4 (c_Q G c_vv below args s 0 0) 0 0 98 [(0, .ref aL0), (1, .int xL1)] [.int xS0] (fX10_pass_98 k2 aL0 xL1 xS0) := by
  intro aL0 xL1 xS0
  rw [fX10_pass_98]
  refine sm_istore_n hO [(3, .int xS0), (0, .ref aL0), (1, .int xL1)] dX10_pass_98 rfl (by decide) rfl ?_
  refine sm_aload_n hO 1 dX10_pass_99 rfl rfl ?_
  refine sm_gr hO fl_RX10_22 dX10_pass_100 (fun a1 => ?_)
  refine sm_bipush (v := 25) hO dX10_pass_103 rfl ?_
  refine sm_iload_n hO 2 dX10_pass_105 rfl rfl ?_
  refine sm_iadd hO dX10_pass_106 ?_
  refine sm_dup2 hO dX10_pass_107 rfl rfl ?_
  refine sm_li hO dX10_pass_108 (fun x2 => ?_)
  refine sm_iload_n hO 0 dX10_pass_109 rfl rfl ?_
  refine sm_if_eq (tgt := 131) hO dX10_pass_110 (by decide) ?_ ?_
  · exact sm_sub [1, 2] rfl (tX10_pass_131 hO hr hk (fX10_pass_132 k2) (tX10_pass_132 hO hr hk k2 hk2) aL0 xL1 x2 ((25 : Int32) + xL1) a1)
  · refine sm_aload_n hO 1 dX10_pass_113 rfl rfl ?_
    refine sm_gr hO fl_RX10_22 dX10_pass_114 (fun a3 => ?_)
    refine sm_bipush (v := 25) hO dX10_pass_117 rfl ?_
    refine sm_iload_n hO 2 dX10_pass_119 rfl rfl ?_
    refine sm_iadd hO dX10_pass_120 ?_
    refine sm_li hO dX10_pass_121 (fun x4 => ?_)
    refine sm_ldc (v := 999999) hO kw_1125 dX10_pass_122 ?_
    refine sm_icmp_ge (tgt := 131) hO dX10_pass_124 (by decide) ?_ ?_
    · exact sm_sub [1, 2] rfl (tX10_pass_131 hO hr hk (fX10_pass_132 k2) (tX10_pass_132 hO hr hk k2 hk2) aL0 xL1 x2 ((25 : Int32) + xL1) a1)
    · refine sm_iconst (v := 1) hO dX10_pass_127 rfl ?_
      refine sm_goto (tgt := 132) hO dX10_pass_128 (by decide) ?_
      exact sm_sub [1, 2] rfl (tX10_pass_132 hO hr hk k2 hk2 aL0 xL1 1 x2 ((25 : Int32) + xL1) a1)
set_option maxRecDepth 100000 in
set_option maxHeartbeats 4000000 in
theorem tX10_pass_54 {p : Program} {l : Launch} {e : Env} {s : State} {m : MethodId} {args : Array Value} {below : List Frame} {meth : Method} {c : Code} {G : cG} (hO : c_Ok p s m c cX10_pass 4 RX10 G) (hr : meth.sig.returnType = none) (hk : meth.locks = false) (k2 : Nat → Int32 → MM Unit) (hk2 : ∀ (aL0 : Nat) (xL1 : Int32), Sm p l e { frames := 2, cells := 0, slots := 0, locals := 42 } s m args below meth c G 4 (c_Q G c_vv below args s 0 0) 0 0 2 [(0, .ref aL0), (1, .int xL1)] [] (k2 aL0 xL1))  : ∀ (aL0 : Nat) (xL1 : Int32) (xS0 : Int32) (xS1 : Int32) (aS2 : Nat), Sm p l e { frames := 2, cells := 0, slots := 0, locals := 42 } s m args below meth c G 4 (c_Q G c_vv below args s 0 0) 0 0 54 [(0, .ref aL0), (1, .int xL1)] [.int xS0, .int xS1, .ref aS2] (fX10_pass_54 k2 aL0 xL1 xS0 xS1 aS2) := by
  intro aL0 xL1 xS0 xS1 aS2
  rw [fX10_pass_54]
  refine sm_si hO dX10_pass_54 ?_
  refine sm_aload_n hO 0 dX10_pass_55 rfl rfl ?_
  refine sm_gr hO fl_RX10_13 dX10_pass_56 (fun a1 => ?_)
  refine sm_iload_n hO 1 dX10_pass_59 rfl rfl ?_
  refine sm_li hO dX10_pass_60 (fun x2 => ?_)
  refine sm_iconst (v := 2) hO dX10_pass_61 rfl ?_
  refine sm_icmp_ne (tgt := 97) hO dX10_pass_62 (by decide) ?_ ?_
  · exact sm_sub [0, 1] rfl (tX10_pass_97 hO hr hk (fX10_pass_98 k2) (tX10_pass_98 hO hr hk k2 hk2) aL0 xL1)
  · refine sm_aload_n hO 0 dX10_pass_65 rfl rfl ?_
    refine sm_gr hO fl_RX10_22 dX10_pass_66 (fun a3 => ?_)
    refine sm_bipush (v := 8) hO dX10_pass_69 rfl ?_
    refine sm_li hO dX10_pass_71 (fun x4 => ?_)
    refine sm_iload_n hO 1 dX10_pass_72 rfl rfl ?_
    refine sm_csi hO (ctX10_has l G x4 xL1) cw_RX10_175 kw_985 [] rfl rfl ⟨(Nat.le_of_ble_eq_true rfl), (Nat.le_of_ble_eq_true rfl)⟩ ⟨(Nat.le_of_ble_eq_true rfl), (Nat.le_of_ble_eq_true rfl)⟩ (Nat.le_of_ble_eq_true rfl) dX10_pass_73 (fun x5 => ?_)
    refine sm_if_eq (tgt := 97) hO dX10_pass_76 (by decide) ?_ ?_
    · exact sm_sub [0, 1] rfl (tX10_pass_97 hO hr hk (fX10_pass_98 k2) (tX10_pass_98 hO hr hk k2 hk2) aL0 xL1)
    · refine sm_aload_n hO 0 dX10_pass_79 rfl rfl ?_
      refine sm_gr hO fl_RX10_22 dX10_pass_80 (fun a6 => ?_)
      refine sm_bipush (v := 9) hO dX10_pass_83 rfl ?_
      refine sm_iload_n hO 1 dX10_pass_85 rfl rfl ?_
      refine sm_iadd hO dX10_pass_86 ?_
      refine sm_li hO dX10_pass_87 (fun x7 => ?_)
      refine sm_bipush (v := 20) hO dX10_pass_88 rfl ?_
      refine sm_icmp_lt (tgt := 97) hO dX10_pass_90 (by decide) ?_ ?_
      · exact sm_sub [0, 1] rfl (tX10_pass_97 hO hr hk (fX10_pass_98 k2) (tX10_pass_98 hO hr hk k2 hk2) aL0 xL1)
      · refine sm_iconst (v := 1) hO dX10_pass_93 rfl ?_
        refine sm_goto (tgt := 98) hO dX10_pass_94 (by decide) ?_
        exact sm_sub [0, 1] rfl (tX10_pass_98 hO hr hk k2 hk2 aL0 xL1 1)
set_option maxRecDepth 100000 in
set_option maxHeartbeats 4000000 in
theorem tX10_pass_2 {p : Program} {l : Launch} {e : Env} {s : State} {m : MethodId} {args : Array Value} {below : List Frame} {meth : Method} {c : Code} {G : cG} (hO : c_Ok p s m c cX10_pass 4 RX10 G) (hr : meth.sig.returnType = none) (hk : meth.locks = false) (k140 : Nat → MM Unit) (hk140 : ∀ (aL0 : Nat), Sm p l e { frames := 2, cells := 0, slots := 0, locals := 42 } s m args below meth c G 4 (c_Q G c_vv below args s 0 0) 0 0 140 [(0, .ref aL0)] [] (k140 aL0))  : ∀ (n : Nat) (aL0 : Nat) (xL1 : Int32), Sm p l e { frames := 2, cells := 0, slots := 0, locals := 42 } s m args below meth c G 4 (c_Q G c_vv below args s 0 0) 0 0 2 [(0, .ref aL0), (1, .int xL1)] [] (fX10_pass_2 k140 n aL0 xL1) := by
  intro n
  induction n with
  | zero =>
    intro aL0 xL1
    exact sm_bad
  | succ n ih =>
    intro aL0 xL1
    rw [fX10_pass_2]
    refine sm_iload_n hO 1 dX10_pass_2 rfl rfl ?_
    refine sm_aload_n hO 0 dX10_pass_3 rfl rfl ?_
    refine sm_gi hO fl_RX10_79 dX10_pass_4 (fun x1 => ?_)
    refine sm_icmp_ge (tgt := 140) hO dX10_pass_7 (by decide) ?_ ?_
    · exact sm_sub [0] rfl (hk140 aL0)
    · refine sm_aload_n hO 0 dX10_pass_10 rfl rfl ?_
      refine sm_gr hO fl_RX10_22 dX10_pass_11 (fun a2 => ?_)
      refine sm_bipush (v := 9) hO dX10_pass_14 rfl ?_
      refine sm_iload_n hO 1 dX10_pass_16 rfl rfl ?_
      refine sm_iadd hO dX10_pass_17 ?_
      refine sm_li hO dX10_pass_18 (fun x3 => ?_)
      refine sm_aload_n hO 0 dX10_pass_19 rfl rfl ?_
      refine sm_iload_n hO 1 dX10_pass_20 rfl rfl ?_
      refine sm_cvi hO (ctX10_moreWarm l G aL0 xL1) cw_RX10_228 cv_X10_moreWarm [.int x3] rfl rfl ⟨(Nat.le_of_ble_eq_true rfl), (Nat.le_of_ble_eq_true rfl)⟩ ⟨(Nat.le_of_ble_eq_true rfl), (Nat.le_of_ble_eq_true rfl)⟩ (Nat.le_of_ble_eq_true rfl) dX10_pass_21 (fun x4 => ?_)
      refine sm_iadd hO dX10_pass_24 ?_
      refine sm_topi (fun x5 => ?_)
      refine sm_istore_n hO [(2, .int x5), (0, .ref aL0), (1, .int xL1)] dX10_pass_25 rfl (by decide) rfl ?_
      refine sm_aload_n hO 1 dX10_pass_26 rfl rfl ?_
      refine sm_gr hO fl_RX10_22 dX10_pass_27 (fun a6 => ?_)
      refine sm_bipush (v := 9) hO dX10_pass_30 rfl ?_
      refine sm_iload_n hO 2 dX10_pass_32 rfl rfl ?_
      refine sm_iadd hO dX10_pass_33 ?_
      refine sm_iload_n hO 0 dX10_pass_34 rfl rfl ?_
      refine sm_if_ge (tgt := 42) hO dX10_pass_35 (by decide) ?_ ?_
      · refine sm_iload_n hO 0 dX10_pass_42 rfl rfl ?_
        refine sm_bipush (v := 99) hO dX10_pass_43 rfl ?_
        refine sm_icmp_le (tgt := 53) hO dX10_pass_45 (by decide) ?_ ?_
        · refine sm_iload_n hO 0 dX10_pass_53 rfl rfl ?_
          exact sm_sub [1, 2] rfl (tX10_pass_54 hO hr hk (fX10_pass_2 k140 n) ih aL0 xL1 x5 ((9 : Int32) + xL1) a6)
        · refine sm_bipush (v := 99) hO dX10_pass_48 rfl ?_
          refine sm_goto (tgt := 54) hO dX10_pass_50 (by decide) ?_
          exact sm_sub [1, 2] rfl (tX10_pass_54 hO hr hk (fX10_pass_2 k140 n) ih aL0 xL1 99 ((9 : Int32) + xL1) a6)
      · refine sm_iconst (v := 0) hO dX10_pass_38 rfl ?_
        refine sm_goto (tgt := 54) hO dX10_pass_39 (by decide) ?_
        exact sm_sub [1, 2] rfl (tX10_pass_54 hO hr hk (fX10_pass_2 k140 n) ih aL0 xL1 0 ((9 : Int32) + xL1) a6)
set_option maxRecDepth 100000 in
set_option maxHeartbeats 4000000 in
theorem tX10_pass_140 {p : Program} {l : Launch} {e : Env} {s : State} {m : MethodId} {args : Array Value} {below : List Frame} {meth : Method} {c : Code} {G : cG} (hO : c_Ok p s m c cX10_pass 4 RX10 G) (hr : meth.sig.returnType = none) (hk : meth.locks = false) : ∀ (aL0 : Nat), Sm p l e { frames := 2, cells := 0, slots := 0, locals := 42 } s m args below meth c G 4 (c_Q G c_vv below args s 0 0) 0 0 140 [(0, .ref aL0)] [] (fX10_pass_140 aL0) := by
  intro aL0
  rw [fX10_pass_140]
  refine sm_aload_n hO 0 dX10_pass_140 rfl rfl ?_
  refine sm_gr hO fl_RX10_22 dX10_pass_141 (fun a1 => ?_)
  refine sm_bipush (v := 33) hO dX10_pass_144 rfl ?_
  refine sm_dup2 hO dX10_pass_146 rfl rfl ?_
  refine sm_li hO dX10_pass_147 (fun x2 => ?_)
  refine sm_iconst (v := 1) hO dX10_pass_148 rfl ?_
  refine sm_iadd hO dX10_pass_149 ?_
  refine sm_si hO dX10_pass_150 ?_
  exact sm_vret hO hr hk (Nat.le_of_ble_eq_true rfl) (Nat.le_of_ble_eq_true rfl) dX10_pass_151
set_option maxRecDepth 100000 in
set_option maxHeartbeats 4000000 in
theorem ctX10_pass (l : Launch) (G : cG) (a0_ : Nat) : Ct l G yX10_pass cX10_pass 4 none 2 42 0 0 [.ref a0_] c_vv (pX10_pass a0_) := by
  refine Ct.of (lv := [(0, .ref a0_)]) (by decide) (Nat.le_of_ble_eq_true rfl) rfl (fun p e s m args below meth c hO hr hk hin => ?_)
  rw [pX10_pass]
  refine sm_iconst (v := 0) hO dX10_pass_0 rfl ?_
  refine sm_istore_n hO [(1, .int 0), (0, .ref a0_)] dX10_pass_1 rfl (by decide) rfl ?_
  exact sm_sub [1, 0] rfl (tX10_pass_2 hO hr hk fX10_pass_140 (tX10_pass_140 hO hr hk) c_fu a0_ 0)
/-! DollCongressModel.year(I)I -/
def fX10_year_18 (k33 : Nat → MM Int32) : Nat → Nat → Int32 → Int32 → MM Int32
  | 0, _, _, _ => m_bad
  | n + 1, aL0, xL1, xL3 => if xL1 ≤ xL3 then (k33 aL0) else (m_cv aL0 9 (pX10_pass aL0) (fun _ => m_let (xL3 + 1) (fun x1 => fX10_year_18 k33 n aL0 xL1 x1)))
def fX10_year_33  (aL0 : Nat) : MM Int32 := m_gr aL0 9 8 (fun a1 => m_li 0 a1 (33 : Int32) (fun x2 => m_ret x2))
def pX10_year (a0_ : Nat) (x1_ : Int32) : MM Int32 := m_cv a0_ 9 (pX10_yearsRefused a0_ x1_) (fun x1 => if x1 = 0 then (m_cv a0_ 9 (pX10_remember a0_) (fun _ => fX10_year_18 fX10_year_33 c_fu a0_ x1_ 0)) else (m_ret x1))
set_option maxRecDepth 100000 in
set_option maxHeartbeats 4000000 in
theorem tX10_year_18 {p : Program} {l : Launch} {e : Env} {s : State} {m : MethodId} {args : Array Value} {below : List Frame} {meth : Method} {c : Code} {G : cG} (hO : c_Ok p s m c cX10_year 4 RX10 G) (hr : meth.sig.returnType = (some .int)) (hk : meth.locks = false) (k33 : Nat → MM Int32) (hk33 : ∀ (aL0 : Nat), Sm p l e { frames := 3, cells := 0, slots := 0, locals := 65 } s m args below meth c G 4 (c_Q G c_vi below args s 0 0) 0 0 33 [(0, .ref aL0)] [] (k33 aL0))  : ∀ (n : Nat) (aL0 : Nat) (xL1 : Int32) (xL3 : Int32), Sm p l e { frames := 3, cells := 0, slots := 0, locals := 65 } s m args below meth c G 4 (c_Q G c_vi below args s 0 0) 0 0 18 [(0, .ref aL0), (1, .int xL1), (3, .int xL3)] [] (fX10_year_18 k33 n aL0 xL1 xL3) := by
  intro n
  induction n with
  | zero =>
    intro aL0 xL1 xL3
    exact sm_bad
  | succ n ih =>
    intro aL0 xL1 xL3
    rw [fX10_year_18]
    refine sm_iload_n hO 2 dX10_year_18 rfl rfl ?_
    refine sm_iload_n hO 1 dX10_year_19 rfl rfl ?_
    refine sm_icmp_ge (tgt := 33) hO dX10_year_20 (by decide) ?_ ?_
    · exact sm_sub [0] rfl (hk33 aL0)
    · refine sm_aload_n hO 0 dX10_year_23 rfl rfl ?_
      refine sm_cvv hO (ctX10_pass l G aL0) cw_RX10_257 cv_X10_pass [] rfl rfl ⟨(Nat.le_of_ble_eq_true rfl), (Nat.le_of_ble_eq_true rfl)⟩ ⟨(Nat.le_of_ble_eq_true rfl), (Nat.le_of_ble_eq_true rfl)⟩ (Nat.le_of_ble_eq_true rfl) dX10_year_24 (fun _ => ?_)
      refine sm_iincL (v := xL3 + 1) hO 2 (fun x1 => [(3, .int x1), (0, .ref aL0), (1, .int xL1)]) dX10_year_27 rfl rfl (by decide) (fun _ => rfl) (fun x1 => ?_)
      refine sm_goto (tgt := 18) hO dX10_year_30 (by decide) ?_
      exact sm_sub [1, 2, 0] rfl (ih aL0 xL1 x1)
set_option maxRecDepth 100000 in
set_option maxHeartbeats 4000000 in
theorem tX10_year_33 {p : Program} {l : Launch} {e : Env} {s : State} {m : MethodId} {args : Array Value} {below : List Frame} {meth : Method} {c : Code} {G : cG} (hO : c_Ok p s m c cX10_year 4 RX10 G) (hr : meth.sig.returnType = (some .int)) (hk : meth.locks = false) : ∀ (aL0 : Nat), Sm p l e { frames := 3, cells := 0, slots := 0, locals := 65 } s m args below meth c G 4 (c_Q G c_vi below args s 0 0) 0 0 33 [(0, .ref aL0)] [] (fX10_year_33 aL0) := by
  intro aL0
  rw [fX10_year_33]
  refine sm_aload_n hO 0 dX10_year_33 rfl rfl ?_
  refine sm_gr hO fl_RX10_22 dX10_year_34 (fun a1 => ?_)
  refine sm_bipush (v := 33) hO dX10_year_37 rfl ?_
  refine sm_li hO dX10_year_39 (fun x2 => ?_)
  exact sm_iret hO hr hk (Nat.le_of_ble_eq_true rfl) (Nat.le_of_ble_eq_true rfl) dX10_year_40
set_option maxRecDepth 100000 in
set_option maxHeartbeats 4000000 in
theorem ctX10_year (l : Launch) (G : cG) (a0_ : Nat) (x1_ : Int32) : Ct l G yX10_year cX10_year 4 (some .int) 3 65 0 0 [.ref a0_, .int x1_] c_vi (pX10_year a0_ x1_) := by
  refine Ct.of (lv := [(0, .ref a0_), (1, .int x1_)]) (by decide) (Nat.le_of_ble_eq_true rfl) rfl (fun p e s m args below meth c hO hr hk hin => ?_)
  rw [pX10_year]
  refine sm_aload_n hO 0 dX10_year_0 rfl rfl ?_
  refine sm_iload_n hO 1 dX10_year_1 rfl rfl ?_
  refine sm_cvi hO (ctX10_yearsRefused l G a0_ x1_) cw_RX10_254 cv_X10_yearsRefused [] rfl rfl ⟨(Nat.le_of_ble_eq_true rfl), (Nat.le_of_ble_eq_true rfl)⟩ ⟨(Nat.le_of_ble_eq_true rfl), (Nat.le_of_ble_eq_true rfl)⟩ (Nat.le_of_ble_eq_true rfl) dX10_year_2 (fun x1 => ?_)
  refine sm_istore_n hO [(2, .int x1), (0, .ref a0_), (1, .int x1_)] dX10_year_5 rfl (by decide) rfl ?_
  refine sm_iload_n hO 0 dX10_year_6 rfl rfl ?_
  refine sm_if_eq (tgt := 12) hO dX10_year_7 (by decide) ?_ ?_
  · refine sm_aload_n hO 1 dX10_year_12 rfl rfl ?_
    refine sm_cvv hO (ctX10_remember l G a0_) cw_RX10_237 cv_X10_remember [] rfl rfl ⟨(Nat.le_of_ble_eq_true rfl), (Nat.le_of_ble_eq_true rfl)⟩ ⟨(Nat.le_of_ble_eq_true rfl), (Nat.le_of_ble_eq_true rfl)⟩ (Nat.le_of_ble_eq_true rfl) dX10_year_13 (fun _ => ?_)
    refine sm_iconst (v := 0) hO dX10_year_16 rfl ?_
    refine sm_istore_n hO [(3, .int 0), (2, .int x1), (0, .ref a0_), (1, .int x1_)] dX10_year_17 rfl (by decide) rfl ?_
    exact sm_sub [2, 3, 0] rfl (tX10_year_18 hO hr hk fX10_year_33 (tX10_year_33 hO hr hk) c_fu a0_ x1_ 0)
  · refine sm_iload_n hO 0 dX10_year_10 rfl rfl ?_
    exact sm_iret hO hr hk (Nat.le_of_ble_eq_true rfl) (Nat.le_of_ble_eq_true rfl) dX10_year_11
/-! DollCongress.draw(I)I -/
def pX9_draw (a0_ : Nat) (x1_ : Int32) : MM Int32 := m_gi a0_ 8 9 (fun x1 => m_pv a0_ 8 9 (.int (((x1 * 1103515245) + 12345) &&& 2147483647)) (if x1_ ≤ 0 then (m_ret (0 : Int32)) else (m_gi a0_ 8 9 (fun x2 => m_nz (65536 : Int32) (m_nz x1_ (m_ret ((x2 / 65536) - (x2 / 65536) / x1_ * x1_)))))))
set_option maxRecDepth 100000 in
set_option maxHeartbeats 4000000 in
theorem ctX9_draw (l : Launch) (G : cG) (a0_ : Nat) (x1_ : Int32) : Ct l G yX9_draw cX9_draw 2 (some .int) 0 0 0 0 [.ref a0_, .int x1_] c_vi (pX9_draw a0_ x1_) := by
  refine Ct.of (lv := [(0, .ref a0_), (1, .int x1_)]) (by decide) (Nat.le_of_ble_eq_true rfl) rfl (fun p e s m args below meth c hO hr hk hin => ?_)
  rw [pX9_draw]
  refine sm_aload_n hO 0 dX9_draw_0 rfl rfl ?_
  refine sm_aload_n hO 0 dX9_draw_1 rfl rfl ?_
  refine sm_gi hO fl_RX9_286 dX9_draw_2 (fun x1 => ?_)
  refine sm_ldcw (v := 1103515245) hO kw_617 dX9_draw_5 ?_
  refine sm_imul hO dX9_draw_8 ?_
  refine sm_sipush (v := 12345) hO dX9_draw_9 rfl ?_
  refine sm_iadd hO dX9_draw_12 ?_
  refine sm_ldcw (v := 2147483647) hO kw_618 dX9_draw_13 ?_
  refine sm_iand hO dX9_draw_16 ?_
  refine sm_pv hO fl_RX9_286 fp_8_9 rfl rfl dX9_draw_17 ?_
  refine sm_iload_n hO 1 dX9_draw_20 rfl rfl ?_
  refine sm_if_le (tgt := 37) hO dX9_draw_21 (by decide) ?_ ?_
  · refine sm_iconst (v := 0) hO dX9_draw_37 rfl ?_
    exact sm_iret hO hr hk (Nat.le_of_ble_eq_true rfl) (Nat.le_of_ble_eq_true rfl) dX9_draw_38
  · refine sm_aload_n hO 0 dX9_draw_24 rfl rfl ?_
    refine sm_gi hO fl_RX9_286 dX9_draw_25 (fun x2 => ?_)
    refine sm_ldcw (v := 65536) hO kw_619 dX9_draw_28 ?_
    refine sm_idiv hO dX9_draw_31 ?_
    refine sm_iload_n hO 1 dX9_draw_32 rfl rfl ?_
    refine sm_irem hO dX9_draw_33 ?_
    refine sm_goto (tgt := 38) hO dX9_draw_34 (by decide) ?_
    exact sm_iret hO hr hk (Nat.le_of_ble_eq_true rfl) (Nat.le_of_ble_eq_true rfl) dX9_draw_38
/-! DollCongress.meddle()V -/
def pX9_meddle (a0_ : Nat) : MM Unit := m_cv a0_ 8 (pX9_draw a0_ (5 : Int32)) (fun x1 => m_gr a0_ 8 7 (fun a2 => m_gi a2 4 6 (fun x3 => m_cv a0_ 8 (pX9_draw a0_ x3) (fun x4 => if x1 = 0 then (m_gr a0_ 8 7 (fun a14 => m_gi a14 4 5 (fun x15 => m_cv a0_ 8 (pX9_draw a0_ x15) (fun x16 => m_gr a0_ 8 1 (fun a17 => m_gr a17 5 0 (fun a18 => m_li 0 a18 x4 (fun x19 => if x19 = x16 then (m_ret ()) else (m_gr a0_ 8 1 (fun a20 => m_cv a20 5 (pX5_send a20 x4 x16) (fun _ => m_ret ())))))))))) else (if x1 = 1 then (m_gr a0_ 8 7 (fun a10 => m_gi a10 4 6 (fun x11 => m_cv a0_ 8 (pX9_draw a0_ x11) (fun x12 => if x12 = x4 then (m_ret ()) else (m_gr a0_ 8 1 (fun a13 => m_cv a13 5 (pX5_exchange a13 x4 x12) (fun _ => m_ret ()))))))) else (if x1 = 2 then (m_gr a0_ 8 1 (fun a9 => m_cv a9 5 (pX5_raise a9 x4) (fun _ => m_ret ()))) else (if x1 = 3 then (m_gr a0_ 8 1 (fun a8 => m_cv a8 5 (pX5_layBack a8 x4) (fun _ => m_ret ()))) else (m_gr a0_ 8 1 (fun a5 => m_gr a0_ 8 7 (fun a6 => m_cv a5 5 (pX5_holdAudience a5 a6) (fun x7 => m_ret ())))))))))))
set_option maxRecDepth 100000 in
set_option maxHeartbeats 4000000 in
theorem ctX9_meddle (l : Launch) (G : cG) (a0_ : Nat) : Ct l G yX9_meddle cX9_meddle 5 none 3 67 0 0 [.ref a0_] c_vv (pX9_meddle a0_) := by
  refine Ct.of (lv := [(0, .ref a0_)]) (by decide) (Nat.le_of_ble_eq_true rfl) rfl (fun p e s m args below meth c hO hr hk hin => ?_)
  rw [pX9_meddle]
  refine sm_aload_n hO 0 dX9_meddle_0 rfl rfl ?_
  refine sm_iconst (v := 5) hO dX9_meddle_1 rfl ?_
  refine sm_cvi hO (ctX9_draw l G a0_ (5 : Int32)) cw_RX9_299 cv_X9_draw [] rfl rfl ⟨(Nat.le_of_ble_eq_true rfl), (Nat.le_of_ble_eq_true rfl)⟩ ⟨(Nat.le_of_ble_eq_true rfl), (Nat.le_of_ble_eq_true rfl)⟩ (Nat.le_of_ble_eq_true rfl) dX9_meddle_2 (fun x1 => ?_)
  refine sm_istore_n hO [(1, .int x1), (0, .ref a0_)] dX9_meddle_5 rfl (by decide) rfl ?_
  refine sm_aload_n hO 1 dX9_meddle_6 rfl rfl ?_
  refine sm_aload_n hO 1 dX9_meddle_7 rfl rfl ?_
  refine sm_gr hO fl_RX9_60 dX9_meddle_8 (fun a2 => ?_)
  refine sm_gi hO fl_RX9_97 dX9_meddle_11 (fun x3 => ?_)
  refine sm_cvi hO (ctX9_draw l G a0_ x3) cw_RX9_299 cv_X9_draw [] rfl rfl ⟨(Nat.le_of_ble_eq_true rfl), (Nat.le_of_ble_eq_true rfl)⟩ ⟨(Nat.le_of_ble_eq_true rfl), (Nat.le_of_ble_eq_true rfl)⟩ (Nat.le_of_ble_eq_true rfl) dX9_meddle_14 (fun x4 => ?_)
  refine sm_istore_n hO [(2, .int x4), (1, .int x1), (0, .ref a0_)] dX9_meddle_17 rfl (by decide) rfl ?_
  refine sm_iload_n hO 1 dX9_meddle_18 rfl rfl ?_
  refine sm_ite (fun q19_0 => ?_) (fun q19_0 => ?_)
  · refine sm_tabIn (tgt := 48) hO dX9_meddle_19 q19_0 (by decide) (by decide) rfl (by decide) ?_
    refine sm_aload_n hO 2 dX9_meddle_48 rfl rfl ?_
    refine sm_aload_n hO 2 dX9_meddle_49 rfl rfl ?_
    refine sm_gr hO fl_RX9_60 dX9_meddle_50 (fun a14 => ?_)
    refine sm_gi hO fl_RX9_103 dX9_meddle_53 (fun x15 => ?_)
    refine sm_cvi hO (ctX9_draw l G a0_ x15) cw_RX9_299 cv_X9_draw [] rfl rfl ⟨(Nat.le_of_ble_eq_true rfl), (Nat.le_of_ble_eq_true rfl)⟩ ⟨(Nat.le_of_ble_eq_true rfl), (Nat.le_of_ble_eq_true rfl)⟩ (Nat.le_of_ble_eq_true rfl) dX9_meddle_56 (fun x16 => ?_)
    refine sm_istore_n hO [(3, .int x16), (2, .int x4), (1, .int x1), (0, .ref a0_)] dX9_meddle_59 rfl (by decide) rfl ?_
    refine sm_aload_n hO 3 dX9_meddle_60 rfl rfl ?_
    refine sm_gr hO fl_RX9_19 dX9_meddle_61 (fun a17 => ?_)
    refine sm_gr hO fl_RX9_164 dX9_meddle_64 (fun a18 => ?_)
    refine sm_iload_n hO 1 dX9_meddle_67 rfl rfl ?_
    refine sm_li hO dX9_meddle_68 (fun x19 => ?_)
    refine sm_iload_n hO 0 dX9_meddle_69 rfl rfl ?_
    refine sm_icmp_eq (tgt := 151) hO dX9_meddle_70 (by decide) ?_ ?_
    · exact sm_vret hO hr hk (Nat.le_of_ble_eq_true rfl) (Nat.le_of_ble_eq_true rfl) dX9_meddle_151
    · refine sm_aload_n hO 3 dX9_meddle_73 rfl rfl ?_
      refine sm_gr hO fl_RX9_19 dX9_meddle_74 (fun a20 => ?_)
      refine sm_iload_n hO 1 dX9_meddle_77 rfl rfl ?_
      refine sm_iload_n hO 0 dX9_meddle_78 rfl rfl ?_
      refine sm_cvv hO (ctX5_send l G a20 x4 x16) cw_RX9_198 cv_X5_send [] rfl rfl ⟨(Nat.le_of_ble_eq_true rfl), (Nat.le_of_ble_eq_true rfl)⟩ ⟨(Nat.le_of_ble_eq_true rfl), (Nat.le_of_ble_eq_true rfl)⟩ (Nat.le_of_ble_eq_true rfl) dX9_meddle_79 (fun _ => ?_)
      refine sm_goto (tgt := 151) hO dX9_meddle_82 (by decide) ?_
      exact sm_vret hO hr hk (Nat.le_of_ble_eq_true rfl) (Nat.le_of_ble_eq_true rfl) dX9_meddle_151
  · refine sm_ite (fun q19_1 => ?_) (fun q19_1 => ?_)
    · refine sm_tabIn (tgt := 85) hO dX9_meddle_19 q19_1 (by decide) (by decide) rfl (by decide) ?_
      refine sm_aload_n hO 2 dX9_meddle_85 rfl rfl ?_
      refine sm_aload_n hO 2 dX9_meddle_86 rfl rfl ?_
      refine sm_gr hO fl_RX9_60 dX9_meddle_87 (fun a10 => ?_)
      refine sm_gi hO fl_RX9_97 dX9_meddle_90 (fun x11 => ?_)
      refine sm_cvi hO (ctX9_draw l G a0_ x11) cw_RX9_299 cv_X9_draw [] rfl rfl ⟨(Nat.le_of_ble_eq_true rfl), (Nat.le_of_ble_eq_true rfl)⟩ ⟨(Nat.le_of_ble_eq_true rfl), (Nat.le_of_ble_eq_true rfl)⟩ (Nat.le_of_ble_eq_true rfl) dX9_meddle_93 (fun x12 => ?_)
      refine sm_istore hO [(4, .int x12), (2, .int x4), (1, .int x1), (0, .ref a0_)] dX9_meddle_96 (by decide) rfl ?_
      refine sm_iload hO 0 dX9_meddle_98 rfl ?_
      refine sm_iload_n hO 1 dX9_meddle_100 rfl rfl ?_
      refine sm_icmp_eq (tgt := 151) hO dX9_meddle_101 (by decide) ?_ ?_
      · exact sm_vret hO hr hk (Nat.le_of_ble_eq_true rfl) (Nat.le_of_ble_eq_true rfl) dX9_meddle_151
      · refine sm_aload_n hO 3 dX9_meddle_104 rfl rfl ?_
        refine sm_gr hO fl_RX9_19 dX9_meddle_105 (fun a13 => ?_)
        refine sm_iload_n hO 1 dX9_meddle_108 rfl rfl ?_
        refine sm_iload hO 0 dX9_meddle_109 rfl ?_
        refine sm_cvv hO (ctX5_exchange l G a13 x4 x12) cw_RX9_202 cv_X5_exchange [] rfl rfl ⟨(Nat.le_of_ble_eq_true rfl), (Nat.le_of_ble_eq_true rfl)⟩ ⟨(Nat.le_of_ble_eq_true rfl), (Nat.le_of_ble_eq_true rfl)⟩ (Nat.le_of_ble_eq_true rfl) dX9_meddle_111 (fun _ => ?_)
        refine sm_goto (tgt := 151) hO dX9_meddle_114 (by decide) ?_
        exact sm_vret hO hr hk (Nat.le_of_ble_eq_true rfl) (Nat.le_of_ble_eq_true rfl) dX9_meddle_151
    · refine sm_ite (fun q19_2 => ?_) (fun q19_2 => ?_)
      · refine sm_tabIn (tgt := 117) hO dX9_meddle_19 q19_2 (by decide) (by decide) rfl (by decide) ?_
        refine sm_aload_n hO 2 dX9_meddle_117 rfl rfl ?_
        refine sm_gr hO fl_RX9_19 dX9_meddle_118 (fun a9 => ?_)
        refine sm_iload_n hO 0 dX9_meddle_121 rfl rfl ?_
        refine sm_cvv hO (ctX5_raise l G a9 x4) cw_RX9_209 cv_X5_raise [] rfl rfl ⟨(Nat.le_of_ble_eq_true rfl), (Nat.le_of_ble_eq_true rfl)⟩ ⟨(Nat.le_of_ble_eq_true rfl), (Nat.le_of_ble_eq_true rfl)⟩ (Nat.le_of_ble_eq_true rfl) dX9_meddle_122 (fun _ => ?_)
        refine sm_goto (tgt := 151) hO dX9_meddle_125 (by decide) ?_
        exact sm_vret hO hr hk (Nat.le_of_ble_eq_true rfl) (Nat.le_of_ble_eq_true rfl) dX9_meddle_151
      · refine sm_ite (fun q19_3 => ?_) (fun q19_3 => ?_)
        · refine sm_tabIn (tgt := 128) hO dX9_meddle_19 q19_3 (by decide) (by decide) rfl (by decide) ?_
          refine sm_aload_n hO 2 dX9_meddle_128 rfl rfl ?_
          refine sm_gr hO fl_RX9_19 dX9_meddle_129 (fun a8 => ?_)
          refine sm_iload_n hO 0 dX9_meddle_132 rfl rfl ?_
          refine sm_cvv hO (ctX5_layBack l G a8 x4) cw_RX9_205 cv_X5_layBack [] rfl rfl ⟨(Nat.le_of_ble_eq_true rfl), (Nat.le_of_ble_eq_true rfl)⟩ ⟨(Nat.le_of_ble_eq_true rfl), (Nat.le_of_ble_eq_true rfl)⟩ (Nat.le_of_ble_eq_true rfl) dX9_meddle_133 (fun _ => ?_)
          refine sm_goto (tgt := 151) hO dX9_meddle_136 (by decide) ?_
          exact sm_vret hO hr hk (Nat.le_of_ble_eq_true rfl) (Nat.le_of_ble_eq_true rfl) dX9_meddle_151
        · refine sm_tabOut (tgt := 139) hO dX9_meddle_19 (c_ne_lo (n := 4) (by decide) (fun k hk => match k, hk with | 0, _ => q19_0 | 1, _ => q19_1 | 2, _ => q19_2 | 3, _ => q19_3 | k + 4, hk => absurd hk (by omega))) (by decide) ?_
          refine sm_aload_n hO 2 dX9_meddle_139 rfl rfl ?_
          refine sm_gr hO fl_RX9_19 dX9_meddle_140 (fun a5 => ?_)
          refine sm_aload_n hO 2 dX9_meddle_143 rfl rfl ?_
          refine sm_gr hO fl_RX9_60 dX9_meddle_144 (fun a6 => ?_)
          refine sm_cvi hO (ctX5_holdAudience l G a5 a6) cw_RX9_212 cv_X5_holdAudience [] rfl rfl ⟨(Nat.le_of_ble_eq_true rfl), (Nat.le_of_ble_eq_true rfl)⟩ ⟨(Nat.le_of_ble_eq_true rfl), (Nat.le_of_ble_eq_true rfl)⟩ (Nat.le_of_ble_eq_true rfl) dX9_meddle_147 (fun x7 => ?_)
          refine sm_pop hO dX9_meddle_150 rfl ?_
          exact sm_vret hO hr hk (Nat.le_of_ble_eq_true rfl) (Nat.le_of_ble_eq_true rfl) dX9_meddle_151
/-! DollCongress.drift(I)I -/
def fX9_drift_44 (k25 : Nat → Int32 → Int32 → MM Int32) (aL0 : Nat) (xL1 : Int32) (xL3 : Int32) : MM Int32 := m_gr aL0 8 1 (fun a1 => m_gr aL0 8 7 (fun a2 => m_cv a1 5 (pX5_passYear a1 a2) (fun _ => m_let (xL3 + 1) (fun x3 => k25 aL0 xL1 x3))))
def fX9_drift_25 (k61 : Nat → MM Int32) : Nat → Nat → Int32 → Int32 → MM Int32
  | 0, _, _, _ => m_bad
  | n + 1, aL0, xL1, xL3 => if xL1 ≤ xL3 then (k61 aL0) else (m_gr aL0 8 7 (fun a1 => m_gi a1 4 6 (fun x2 => if x2 ≤ 0 then (fX9_drift_44 (fX9_drift_25 k61 n) aL0 xL1 xL3) else (m_cv aL0 8 (pX9_meddle aL0) (fun _ => fX9_drift_44 (fX9_drift_25 k61 n) aL0 xL1 xL3)))))
def fX9_drift_61  (aL0 : Nat) : MM Int32 := m_gr aL0 8 1 (fun a1 => m_gi a1 5 5 (fun x2 => m_ret x2))
def pX9_drift (a0_ : Nat) (x1_ : Int32) : MM Int32 := m_cv a0_ 8 (pX9_refusalOfYears a0_ x1_) (fun x1 => if x1 = 0 then (m_gr a0_ 8 2 (fun a2 => m_gr a0_ 8 1 (fun a3 => m_cv a2 3 (pX3_remember a2 a3) (fun _ => fX9_drift_25 fX9_drift_61 c_fu a0_ x1_ 0)))) else (m_ret x1))
set_option maxRecDepth 100000 in
set_option maxHeartbeats 4000000 in
theorem tX9_drift_44 {p : Program} {l : Launch} {e : Env} {s : State} {m : MethodId} {args : Array Value} {below : List Frame} {meth : Method} {c : Code} {G : cG} (hO : c_Ok p s m c cX9_drift 4 RX9 G) (hr : meth.sig.returnType = (some .int)) (hk : meth.locks = false) (k25 : Nat → Int32 → Int32 → MM Int32) (hk25 : ∀ (aL0 : Nat) (xL1 : Int32) (xL3 : Int32), Sm p l e { frames := 4, cells := 0, slots := 0, locals := 91 } s m args below meth c G 4 (c_Q G c_vi below args s 0 0) 0 0 25 [(0, .ref aL0), (1, .int xL1), (3, .int xL3)] [] (k25 aL0 xL1 xL3))  : ∀ (aL0 : Nat) (xL1 : Int32) (xL3 : Int32), Sm p l e { frames := 4, cells := 0, slots := 0, locals := 91 } s m args below meth c G 4 (c_Q G c_vi below args s 0 0) 0 0 44 [(0, .ref aL0), (1, .int xL1), (3, .int xL3)] [] (fX9_drift_44 k25 aL0 xL1 xL3) := by
  intro aL0 xL1 xL3
  rw [fX9_drift_44]
  refine sm_aload_n hO 0 dX9_drift_44 rfl rfl ?_
  refine sm_gr hO fl_RX9_19 dX9_drift_45 (fun a1 => ?_)
  refine sm_aload_n hO 0 dX9_drift_48 rfl rfl ?_
  refine sm_gr hO fl_RX9_60 dX9_drift_49 (fun a2 => ?_)
  refine sm_cvv hO (ctX5_passYear l G a1 a2) cw_RX9_218 cv_X5_passYear [] rfl rfl ⟨(Nat.le_of_ble_eq_true rfl), (Nat.le_of_ble_eq_true rfl)⟩ ⟨(Nat.le_of_ble_eq_true rfl), (Nat.le_of_ble_eq_true rfl)⟩ (Nat.le_of_ble_eq_true rfl) dX9_drift_52 (fun _ => ?_)
  refine sm_iincL (v := xL3 + 1) hO 2 (fun x3 => [(3, .int x3), (0, .ref aL0), (1, .int xL1)]) dX9_drift_55 rfl rfl (by decide) (fun _ => rfl) (fun x3 => ?_)
  refine sm_goto (tgt := 25) hO dX9_drift_58 (by decide) ?_
  exact sm_sub [1, 2, 0] rfl (hk25 aL0 xL1 x3)
set_option maxRecDepth 100000 in
set_option maxHeartbeats 4000000 in
theorem tX9_drift_25 {p : Program} {l : Launch} {e : Env} {s : State} {m : MethodId} {args : Array Value} {below : List Frame} {meth : Method} {c : Code} {G : cG} (hO : c_Ok p s m c cX9_drift 4 RX9 G) (hr : meth.sig.returnType = (some .int)) (hk : meth.locks = false) (k61 : Nat → MM Int32) (hk61 : ∀ (aL0 : Nat), Sm p l e { frames := 4, cells := 0, slots := 0, locals := 91 } s m args below meth c G 4 (c_Q G c_vi below args s 0 0) 0 0 61 [(0, .ref aL0)] [] (k61 aL0))  : ∀ (n : Nat) (aL0 : Nat) (xL1 : Int32) (xL3 : Int32), Sm p l e { frames := 4, cells := 0, slots := 0, locals := 91 } s m args below meth c G 4 (c_Q G c_vi below args s 0 0) 0 0 25 [(0, .ref aL0), (1, .int xL1), (3, .int xL3)] [] (fX9_drift_25 k61 n aL0 xL1 xL3) := by
  intro n
  induction n with
  | zero =>
    intro aL0 xL1 xL3
    exact sm_bad
  | succ n ih =>
    intro aL0 xL1 xL3
    rw [fX9_drift_25]
    refine sm_iload_n hO 2 dX9_drift_25 rfl rfl ?_
    refine sm_iload_n hO 1 dX9_drift_26 rfl rfl ?_
    refine sm_icmp_ge (tgt := 61) hO dX9_drift_27 (by decide) ?_ ?_
    · exact sm_sub [0] rfl (hk61 aL0)
    · refine sm_aload_n hO 0 dX9_drift_30 rfl rfl ?_
      refine sm_gr hO fl_RX9_60 dX9_drift_31 (fun a1 => ?_)
      refine sm_gi hO fl_RX9_97 dX9_drift_34 (fun x2 => ?_)
      refine sm_if_le (tgt := 44) hO dX9_drift_37 (by decide) ?_ ?_
      · exact sm_sub [0, 1, 2] rfl (tX9_drift_44 hO hr hk (fX9_drift_25 k61 n) ih aL0 xL1 xL3)
      · refine sm_aload_n hO 0 dX9_drift_40 rfl rfl ?_
        refine sm_cvv hO (ctX9_meddle l G aL0) cw_RX9_221 cv_X9_meddle [] rfl rfl ⟨(Nat.le_of_ble_eq_true rfl), (Nat.le_of_ble_eq_true rfl)⟩ ⟨(Nat.le_of_ble_eq_true rfl), (Nat.le_of_ble_eq_true rfl)⟩ (Nat.le_of_ble_eq_true rfl) dX9_drift_41 (fun _ => ?_)
        exact sm_sub [0, 1, 2] rfl (tX9_drift_44 hO hr hk (fX9_drift_25 k61 n) ih aL0 xL1 xL3)
set_option maxRecDepth 100000 in
set_option maxHeartbeats 4000000 in
theorem tX9_drift_61 {p : Program} {l : Launch} {e : Env} {s : State} {m : MethodId} {args : Array Value} {below : List Frame} {meth : Method} {c : Code} {G : cG} (hO : c_Ok p s m c cX9_drift 4 RX9 G) (hr : meth.sig.returnType = (some .int)) (hk : meth.locks = false) : ∀ (aL0 : Nat), Sm p l e { frames := 4, cells := 0, slots := 0, locals := 91 } s m args below meth c G 4 (c_Q G c_vi below args s 0 0) 0 0 61 [(0, .ref aL0)] [] (fX9_drift_61 aL0) := by
  intro aL0
  rw [fX9_drift_61]
  refine sm_aload_n hO 0 dX9_drift_61 rfl rfl ?_
  refine sm_gr hO fl_RX9_19 dX9_drift_62 (fun a1 => ?_)
  refine sm_gi hO fl_RX9_112 dX9_drift_65 (fun x2 => ?_)
  exact sm_iret hO hr hk (Nat.le_of_ble_eq_true rfl) (Nat.le_of_ble_eq_true rfl) dX9_drift_68
set_option maxRecDepth 100000 in
set_option maxHeartbeats 4000000 in
theorem ctX9_drift (l : Launch) (G : cG) (a0_ : Nat) (x1_ : Int32) : Ct l G yX9_drift cX9_drift 4 (some .int) 4 91 0 0 [.ref a0_, .int x1_] c_vi (pX9_drift a0_ x1_) := by
  refine Ct.of (lv := [(0, .ref a0_), (1, .int x1_)]) (by decide) (Nat.le_of_ble_eq_true rfl) rfl (fun p e s m args below meth c hO hr hk hin => ?_)
  rw [pX9_drift]
  refine sm_aload_n hO 0 dX9_drift_0 rfl rfl ?_
  refine sm_iload_n hO 1 dX9_drift_1 rfl rfl ?_
  refine sm_cvi hO (ctX9_refusalOfYears l G a0_ x1_) cw_RX9_215 cv_X9_refusalOfYears [] rfl rfl ⟨(Nat.le_of_ble_eq_true rfl), (Nat.le_of_ble_eq_true rfl)⟩ ⟨(Nat.le_of_ble_eq_true rfl), (Nat.le_of_ble_eq_true rfl)⟩ (Nat.le_of_ble_eq_true rfl) dX9_drift_2 (fun x1 => ?_)
  refine sm_istore_n hO [(2, .int x1), (0, .ref a0_), (1, .int x1_)] dX9_drift_5 rfl (by decide) rfl ?_
  refine sm_iload_n hO 0 dX9_drift_6 rfl rfl ?_
  refine sm_if_eq (tgt := 12) hO dX9_drift_7 (by decide) ?_ ?_
  · refine sm_aload_n hO 1 dX9_drift_12 rfl rfl ?_
    refine sm_gr hO fl_RX9_26 dX9_drift_13 (fun a2 => ?_)
    refine sm_aload_n hO 1 dX9_drift_16 rfl rfl ?_
    refine sm_gr hO fl_RX9_19 dX9_drift_17 (fun a3 => ?_)
    refine sm_cvv hO (ctX3_remember l G a2 a3) cw_RX9_194 cv_X3_remember [] rfl rfl ⟨(Nat.le_of_ble_eq_true rfl), (Nat.le_of_ble_eq_true rfl)⟩ ⟨(Nat.le_of_ble_eq_true rfl), (Nat.le_of_ble_eq_true rfl)⟩ (Nat.le_of_ble_eq_true rfl) dX9_drift_20 (fun _ => ?_)
    refine sm_iconst (v := 0) hO dX9_drift_23 rfl ?_
    refine sm_istore_n hO [(3, .int 0), (2, .int x1), (0, .ref a0_), (1, .int x1_)] dX9_drift_24 rfl (by decide) rfl ?_
    exact sm_sub [2, 3, 0] rfl (tX9_drift_25 hO hr hk fX9_drift_61 (tX9_drift_61 hO hr hk) c_fu a0_ x1_ 0)
  · refine sm_iload_n hO 0 dX9_drift_10 rfl rfl ?_
    exact sm_iret hO hr hk (Nat.le_of_ble_eq_true rfl) (Nat.le_of_ble_eq_true rfl) dX9_drift_11
/-! DollCongressModel.draw(I)I -/
def pX10_draw (a0_ : Nat) (x1_ : Int32) : MM Int32 := m_gi a0_ 9 9 (fun x1 => m_nzl (2147483648 : Int64) (m_pv a0_ 9 9 (.int (((((x1.toInt64) * 1103515245) + 12345) - (((x1.toInt64) * 1103515245) + 12345) / 2147483648 * 2147483648).toInt32)) (m_gi a0_ 9 9 (fun x2 => m_nz (65536 : Int32) (m_nz x1_ (m_ret ((x2 / 65536) - (x2 / 65536) / x1_ * x1_)))))))
set_option maxRecDepth 100000 in
set_option maxHeartbeats 4000000 in
theorem ctX10_draw (l : Launch) (G : cG) (a0_ : Nat) (x1_ : Int32) : Ct l G yX10_draw cX10_draw 2 (some .int) 0 0 0 0 [.ref a0_, .int x1_] c_vi (pX10_draw a0_ x1_) := by
  refine Ct.of (lv := [(0, .ref a0_), (1, .int x1_)]) (by decide) (Nat.le_of_ble_eq_true rfl) rfl (fun p e s m args below meth c hO hr hk hin => ?_)
  rw [pX10_draw]
  refine sm_aload_n hO 0 dX10_draw_0 rfl rfl ?_
  refine sm_aload_n hO 0 dX10_draw_1 rfl rfl ?_
  refine sm_gi hO fl_RX10_260 dX10_draw_2 (fun x1 => ?_)
  refine sm_i2l (v := x1.toInt64) hO dX10_draw_5 rfl ?_
  refine sm_ldc2 (v := 1103515245) hO kw_1138 dX10_draw_6 ?_
  refine sm_lmul hO dX10_draw_9 ?_
  refine sm_ldc2 (v := 12345) hO kw_1139 dX10_draw_10 ?_
  refine sm_ladd hO dX10_draw_13 ?_
  refine sm_ldc2 (v := 2147483648) hO kw_1140 dX10_draw_14 ?_
  refine sm_lrem hO dX10_draw_17 ?_
  refine sm_l2i (v := ((((x1.toInt64) * 1103515245) + 12345) - (((x1.toInt64) * 1103515245) + 12345) / 2147483648 * 2147483648).toInt32) hO dX10_draw_18 rfl ?_
  refine sm_pv hO fl_RX10_260 fp_9_9 rfl rfl dX10_draw_19 ?_
  refine sm_aload_n hO 0 dX10_draw_22 rfl rfl ?_
  refine sm_gi hO fl_RX10_260 dX10_draw_23 (fun x2 => ?_)
  refine sm_ldcw (v := 65536) hO kw_1141 dX10_draw_26 ?_
  refine sm_idiv hO dX10_draw_29 ?_
  refine sm_iload_n hO 1 dX10_draw_30 rfl rfl ?_
  refine sm_irem hO dX10_draw_31 ?_
  exact sm_iret hO hr hk (Nat.le_of_ble_eq_true rfl) (Nat.le_of_ble_eq_true rfl) dX10_draw_32
/-! DollCongressModel.chance()V -/
def fX10_chance_100  (xS0 : Int32) (xS1 : Int32) (aS2 : Nat) : MM Unit := m_cv aS2 9 (pX10_layNow aS2 xS1 xS0) (fun _ => m_ret ())
def pX10_chance (a0_ : Nat) : MM Unit := m_cv a0_ 9 (pX10_draw a0_ (5 : Int32)) (fun x1 => m_gi a0_ 9 2 (fun x2 => m_cv a0_ 9 (pX10_draw a0_ x2) (fun x3 => if x1 = 0 then (m_gi a0_ 9 0 (fun x7 => m_cv a0_ 9 (pX10_draw a0_ x7) (fun x8 => m_gr a0_ 9 8 (fun a9 => m_li 0 a9 x3 (fun x10 => if x10 = x8 then (m_ret ()) else (m_cv a0_ 9 (pX10_sendNow a0_ x3 x8) (fun _ => m_ret ()))))))) else (if x1 = (1 : Int32) then (m_gi a0_ 9 2 (fun x5 => m_cv a0_ 9 (pX10_draw a0_ x5) (fun x6 => if x3 = x6 then (m_ret ()) else (m_cv a0_ 9 (pX10_mixNow a0_ x3 x6) (fun _ => m_ret ()))))) else (if x1 = (4 : Int32) then (m_cv a0_ 9 (pX10_audienceNow a0_) (fun x4 => m_ret ())) else (if x1 = (3 : Int32) then (fX10_chance_100 1 x3 a0_) else (fX10_chance_100 0 x3 a0_)))))))
set_option maxRecDepth 100000 in
set_option maxHeartbeats 4000000 in
theorem tX10_chance_100 {p : Program} {l : Launch} {e : Env} {s : State} {m : MethodId} {args : Array Value} {below : List Frame} {meth : Method} {c : Code} {G : cG} (hO : c_Ok p s m c cX10_chance 4 RX10 G) (hr : meth.sig.returnType = none) (hk : meth.locks = false) : ∀ (xS0 : Int32) (xS1 : Int32) (aS2 : Nat), Sm p l e { frames := 4, cells := 0, slots := 0, locals := 90 } s m args below meth c G 4 (c_Q G c_vv below args s 0 0) 0 0 100 [] [.int xS0, .int xS1, .ref aS2] (fX10_chance_100 xS0 xS1 aS2) := by
  intro xS0 xS1 aS2
  rw [fX10_chance_100]
  refine sm_cvv hO (ctX10_layNow l G aS2 xS1 xS0) cw_RX10_232 cv_X10_layNow [] rfl rfl ⟨(Nat.le_of_ble_eq_true rfl), (Nat.le_of_ble_eq_true rfl)⟩ ⟨(Nat.le_of_ble_eq_true rfl), (Nat.le_of_ble_eq_true rfl)⟩ (Nat.le_of_ble_eq_true rfl) dX10_chance_100 (fun _ => ?_)
  exact sm_vret hO hr hk (Nat.le_of_ble_eq_true rfl) (Nat.le_of_ble_eq_true rfl) dX10_chance_103
set_option maxRecDepth 100000 in
set_option maxHeartbeats 4000000 in
theorem ctX10_chance (l : Launch) (G : cG) (a0_ : Nat) : Ct l G yX10_chance cX10_chance 4 none 4 90 0 0 [.ref a0_] c_vv (pX10_chance a0_) := by
  refine Ct.of (lv := [(0, .ref a0_)]) (by decide) (Nat.le_of_ble_eq_true rfl) rfl (fun p e s m args below meth c hO hr hk hin => ?_)
  rw [pX10_chance]
  refine sm_aload_n hO 0 dX10_chance_0 rfl rfl ?_
  refine sm_iconst (v := 5) hO dX10_chance_1 rfl ?_
  refine sm_cvi hO (ctX10_draw l G a0_ (5 : Int32)) cw_RX10_270 cv_X10_draw [] rfl rfl ⟨(Nat.le_of_ble_eq_true rfl), (Nat.le_of_ble_eq_true rfl)⟩ ⟨(Nat.le_of_ble_eq_true rfl), (Nat.le_of_ble_eq_true rfl)⟩ (Nat.le_of_ble_eq_true rfl) dX10_chance_2 (fun x1 => ?_)
  refine sm_istore_n hO [(1, .int x1), (0, .ref a0_)] dX10_chance_5 rfl (by decide) rfl ?_
  refine sm_aload_n hO 1 dX10_chance_6 rfl rfl ?_
  refine sm_aload_n hO 1 dX10_chance_7 rfl rfl ?_
  refine sm_gi hO fl_RX10_79 dX10_chance_8 (fun x2 => ?_)
  refine sm_cvi hO (ctX10_draw l G a0_ x2) cw_RX10_270 cv_X10_draw [] rfl rfl ⟨(Nat.le_of_ble_eq_true rfl), (Nat.le_of_ble_eq_true rfl)⟩ ⟨(Nat.le_of_ble_eq_true rfl), (Nat.le_of_ble_eq_true rfl)⟩ (Nat.le_of_ble_eq_true rfl) dX10_chance_11 (fun x3 => ?_)
  refine sm_istore_n hO [(2, .int x3), (1, .int x1), (0, .ref a0_)] dX10_chance_14 rfl (by decide) rfl ?_
  refine sm_iload_n hO 1 dX10_chance_15 rfl rfl ?_
  refine sm_if_ne (tgt := 47) hO dX10_chance_16 (by decide) ?_ ?_
  · refine sm_iload_n hO 1 dX10_chance_47 rfl rfl ?_
    refine sm_iconst (v := 1) hO dX10_chance_48 rfl ?_
    refine sm_icmp_ne (tgt := 75) hO dX10_chance_49 (by decide) ?_ ?_
    · refine sm_iload_n hO 1 dX10_chance_75 rfl rfl ?_
      refine sm_iconst (v := 4) hO dX10_chance_76 rfl ?_
      refine sm_icmp_ne (tgt := 88) hO dX10_chance_77 (by decide) ?_ ?_
      · refine sm_aload_n hO 2 dX10_chance_88 rfl rfl ?_
        refine sm_iload_n hO 0 dX10_chance_89 rfl rfl ?_
        refine sm_iload_n hO 1 dX10_chance_90 rfl rfl ?_
        refine sm_iconst (v := 3) hO dX10_chance_91 rfl ?_
        refine sm_icmp_ne (tgt := 99) hO dX10_chance_92 (by decide) ?_ ?_
        · refine sm_iconst (v := 0) hO dX10_chance_99 rfl ?_
          exact sm_sub [] rfl (tX10_chance_100 hO hr hk 0 x3 a0_)
        · refine sm_iconst (v := 1) hO dX10_chance_95 rfl ?_
          refine sm_goto (tgt := 100) hO dX10_chance_96 (by decide) ?_
          exact sm_sub [] rfl (tX10_chance_100 hO hr hk 1 x3 a0_)
      · refine sm_aload_n hO 2 dX10_chance_80 rfl rfl ?_
        refine sm_cvi hO (ctX10_audienceNow l G a0_) cw_RX10_249 cv_X10_audienceNow [] rfl rfl ⟨(Nat.le_of_ble_eq_true rfl), (Nat.le_of_ble_eq_true rfl)⟩ ⟨(Nat.le_of_ble_eq_true rfl), (Nat.le_of_ble_eq_true rfl)⟩ (Nat.le_of_ble_eq_true rfl) dX10_chance_81 (fun x4 => ?_)
        refine sm_istore_n hO [(3, .int x4), (2, .int x3), (1, .int x1), (0, .ref a0_)] dX10_chance_84 rfl (by decide) rfl ?_
        refine sm_goto (tgt := 103) hO dX10_chance_85 (by decide) ?_
        exact sm_vret hO hr hk (Nat.le_of_ble_eq_true rfl) (Nat.le_of_ble_eq_true rfl) dX10_chance_103
    · refine sm_aload_n hO 2 dX10_chance_52 rfl rfl ?_
      refine sm_aload_n hO 2 dX10_chance_53 rfl rfl ?_
      refine sm_gi hO fl_RX10_79 dX10_chance_54 (fun x5 => ?_)
      refine sm_cvi hO (ctX10_draw l G a0_ x5) cw_RX10_270 cv_X10_draw [] rfl rfl ⟨(Nat.le_of_ble_eq_true rfl), (Nat.le_of_ble_eq_true rfl)⟩ ⟨(Nat.le_of_ble_eq_true rfl), (Nat.le_of_ble_eq_true rfl)⟩ (Nat.le_of_ble_eq_true rfl) dX10_chance_57 (fun x6 => ?_)
      refine sm_istore_n hO [(3, .int x6), (2, .int x3), (1, .int x1), (0, .ref a0_)] dX10_chance_60 rfl (by decide) rfl ?_
      refine sm_iload_n hO 1 dX10_chance_61 rfl rfl ?_
      refine sm_iload_n hO 0 dX10_chance_62 rfl rfl ?_
      refine sm_icmp_eq (tgt := 72) hO dX10_chance_63 (by decide) ?_ ?_
      · refine sm_goto (tgt := 103) hO dX10_chance_72 (by decide) ?_
        exact sm_vret hO hr hk (Nat.le_of_ble_eq_true rfl) (Nat.le_of_ble_eq_true rfl) dX10_chance_103
      · refine sm_aload_n hO 3 dX10_chance_66 rfl rfl ?_
        refine sm_iload_n hO 1 dX10_chance_67 rfl rfl ?_
        refine sm_iload_n hO 0 dX10_chance_68 rfl rfl ?_
        refine sm_cvv hO (ctX10_mixNow l G a0_ x3 x6) cw_RX10_244 cv_X10_mixNow [] rfl rfl ⟨(Nat.le_of_ble_eq_true rfl), (Nat.le_of_ble_eq_true rfl)⟩ ⟨(Nat.le_of_ble_eq_true rfl), (Nat.le_of_ble_eq_true rfl)⟩ (Nat.le_of_ble_eq_true rfl) dX10_chance_69 (fun _ => ?_)
        refine sm_goto (tgt := 103) hO dX10_chance_72 (by decide) ?_
        exact sm_vret hO hr hk (Nat.le_of_ble_eq_true rfl) (Nat.le_of_ble_eq_true rfl) dX10_chance_103
  · refine sm_aload_n hO 2 dX10_chance_19 rfl rfl ?_
    refine sm_aload_n hO 2 dX10_chance_20 rfl rfl ?_
    refine sm_gi hO fl_RX10_72 dX10_chance_21 (fun x7 => ?_)
    refine sm_cvi hO (ctX10_draw l G a0_ x7) cw_RX10_270 cv_X10_draw [] rfl rfl ⟨(Nat.le_of_ble_eq_true rfl), (Nat.le_of_ble_eq_true rfl)⟩ ⟨(Nat.le_of_ble_eq_true rfl), (Nat.le_of_ble_eq_true rfl)⟩ (Nat.le_of_ble_eq_true rfl) dX10_chance_24 (fun x8 => ?_)
    refine sm_istore_n hO [(3, .int x8), (2, .int x3), (1, .int x1), (0, .ref a0_)] dX10_chance_27 rfl (by decide) rfl ?_
    refine sm_aload_n hO 3 dX10_chance_28 rfl rfl ?_
    refine sm_gr hO fl_RX10_22 dX10_chance_29 (fun a9 => ?_)
    refine sm_iload_n hO 1 dX10_chance_32 rfl rfl ?_
    refine sm_li hO dX10_chance_33 (fun x10 => ?_)
    refine sm_iload_n hO 0 dX10_chance_34 rfl rfl ?_
    refine sm_icmp_eq (tgt := 44) hO dX10_chance_35 (by decide) ?_ ?_
    · refine sm_goto (tgt := 103) hO dX10_chance_44 (by decide) ?_
      exact sm_vret hO hr hk (Nat.le_of_ble_eq_true rfl) (Nat.le_of_ble_eq_true rfl) dX10_chance_103
    · refine sm_aload_n hO 3 dX10_chance_38 rfl rfl ?_
      refine sm_iload_n hO 1 dX10_chance_39 rfl rfl ?_
      refine sm_iload_n hO 0 dX10_chance_40 rfl rfl ?_
      refine sm_cvv hO (ctX10_sendNow l G a0_ x3 x8) cw_RX10_240 cv_X10_sendNow [] rfl rfl ⟨(Nat.le_of_ble_eq_true rfl), (Nat.le_of_ble_eq_true rfl)⟩ ⟨(Nat.le_of_ble_eq_true rfl), (Nat.le_of_ble_eq_true rfl)⟩ (Nat.le_of_ble_eq_true rfl) dX10_chance_41 (fun _ => ?_)
      refine sm_goto (tgt := 103) hO dX10_chance_44 (by decide) ?_
      exact sm_vret hO hr hk (Nat.le_of_ble_eq_true rfl) (Nat.le_of_ble_eq_true rfl) dX10_chance_103
/-! DollCongressModel.drift(I)I -/
def fX10_drift_34 (k18 : Nat → Int32 → Int32 → MM Int32) (aL0 : Nat) (xL1 : Int32) (xL3 : Int32) : MM Int32 := m_cv aL0 9 (pX10_pass aL0) (fun _ => m_let (xL3 + 1) (fun x1 => k18 aL0 xL1 x1))
def fX10_drift_18 (k44 : Nat → MM Int32) : Nat → Nat → Int32 → Int32 → MM Int32
  | 0, _, _, _ => m_bad
  | n + 1, aL0, xL1, xL3 => if xL1 ≤ xL3 then (k44 aL0) else (m_gi aL0 9 2 (fun x1 => if x1 ≤ 0 then (fX10_drift_34 (fX10_drift_18 k44 n) aL0 xL1 xL3) else (m_cv aL0 9 (pX10_chance aL0) (fun _ => fX10_drift_34 (fX10_drift_18 k44 n) aL0 xL1 xL3))))
def fX10_drift_44  (aL0 : Nat) : MM Int32 := m_gr aL0 9 8 (fun a1 => m_li 0 a1 (33 : Int32) (fun x2 => m_ret x2))
def pX10_drift (a0_ : Nat) (x1_ : Int32) : MM Int32 := m_cv a0_ 9 (pX10_yearsRefused a0_ x1_) (fun x1 => if x1 = 0 then (m_cv a0_ 9 (pX10_remember a0_) (fun _ => fX10_drift_18 fX10_drift_44 c_fu a0_ x1_ 0)) else (m_ret x1))
set_option maxRecDepth 100000 in
set_option maxHeartbeats 4000000 in
theorem tX10_drift_34 {p : Program} {l : Launch} {e : Env} {s : State} {m : MethodId} {args : Array Value} {below : List Frame} {meth : Method} {c : Code} {G : cG} (hO : c_Ok p s m c cX10_drift 4 RX10 G) (hr : meth.sig.returnType = (some .int)) (hk : meth.locks = false) (k18 : Nat → Int32 → Int32 → MM Int32) (hk18 : ∀ (aL0 : Nat) (xL1 : Int32) (xL3 : Int32), Sm p l e { frames := 5, cells := 0, slots := 0, locals := 113 } s m args below meth c G 4 (c_Q G c_vi below args s 0 0) 0 0 18 [(0, .ref aL0), (1, .int xL1), (3, .int xL3)] [] (k18 aL0 xL1 xL3))  : ∀ (aL0 : Nat) (xL1 : Int32) (xL3 : Int32), Sm p l e { frames := 5, cells := 0, slots := 0, locals := 113 } s m args below meth c G 4 (c_Q G c_vi below args s 0 0) 0 0 34 [(0, .ref aL0), (1, .int xL1), (3, .int xL3)] [] (fX10_drift_34 k18 aL0 xL1 xL3) := by
  intro aL0 xL1 xL3
  rw [fX10_drift_34]
  refine sm_aload_n hO 0 dX10_drift_34 rfl rfl ?_
  refine sm_cvv hO (ctX10_pass l G aL0) cw_RX10_257 cv_X10_pass [] rfl rfl ⟨(Nat.le_of_ble_eq_true rfl), (Nat.le_of_ble_eq_true rfl)⟩ ⟨(Nat.le_of_ble_eq_true rfl), (Nat.le_of_ble_eq_true rfl)⟩ (Nat.le_of_ble_eq_true rfl) dX10_drift_35 (fun _ => ?_)
  refine sm_iincL (v := xL3 + 1) hO 2 (fun x1 => [(3, .int x1), (0, .ref aL0), (1, .int xL1)]) dX10_drift_38 rfl rfl (by decide) (fun _ => rfl) (fun x1 => ?_)
  refine sm_goto (tgt := 18) hO dX10_drift_41 (by decide) ?_
  exact sm_sub [1, 2, 0] rfl (hk18 aL0 xL1 x1)
set_option maxRecDepth 100000 in
set_option maxHeartbeats 4000000 in
theorem tX10_drift_18 {p : Program} {l : Launch} {e : Env} {s : State} {m : MethodId} {args : Array Value} {below : List Frame} {meth : Method} {c : Code} {G : cG} (hO : c_Ok p s m c cX10_drift 4 RX10 G) (hr : meth.sig.returnType = (some .int)) (hk : meth.locks = false) (k44 : Nat → MM Int32) (hk44 : ∀ (aL0 : Nat), Sm p l e { frames := 5, cells := 0, slots := 0, locals := 113 } s m args below meth c G 4 (c_Q G c_vi below args s 0 0) 0 0 44 [(0, .ref aL0)] [] (k44 aL0))  : ∀ (n : Nat) (aL0 : Nat) (xL1 : Int32) (xL3 : Int32), Sm p l e { frames := 5, cells := 0, slots := 0, locals := 113 } s m args below meth c G 4 (c_Q G c_vi below args s 0 0) 0 0 18 [(0, .ref aL0), (1, .int xL1), (3, .int xL3)] [] (fX10_drift_18 k44 n aL0 xL1 xL3) := by
  intro n
  induction n with
  | zero =>
    intro aL0 xL1 xL3
    exact sm_bad
  | succ n ih =>
    intro aL0 xL1 xL3
    rw [fX10_drift_18]
    refine sm_iload_n hO 2 dX10_drift_18 rfl rfl ?_
    refine sm_iload_n hO 1 dX10_drift_19 rfl rfl ?_
    refine sm_icmp_ge (tgt := 44) hO dX10_drift_20 (by decide) ?_ ?_
    · exact sm_sub [0] rfl (hk44 aL0)
    · refine sm_aload_n hO 0 dX10_drift_23 rfl rfl ?_
      refine sm_gi hO fl_RX10_79 dX10_drift_24 (fun x1 => ?_)
      refine sm_if_le (tgt := 34) hO dX10_drift_27 (by decide) ?_ ?_
      · exact sm_sub [0, 1, 2] rfl (tX10_drift_34 hO hr hk (fX10_drift_18 k44 n) ih aL0 xL1 xL3)
      · refine sm_aload_n hO 0 dX10_drift_30 rfl rfl ?_
        refine sm_cvv hO (ctX10_chance l G aL0) cw_RX10_273 cv_X10_chance [] rfl rfl ⟨(Nat.le_of_ble_eq_true rfl), (Nat.le_of_ble_eq_true rfl)⟩ ⟨(Nat.le_of_ble_eq_true rfl), (Nat.le_of_ble_eq_true rfl)⟩ (Nat.le_of_ble_eq_true rfl) dX10_drift_31 (fun _ => ?_)
        exact sm_sub [0, 1, 2] rfl (tX10_drift_34 hO hr hk (fX10_drift_18 k44 n) ih aL0 xL1 xL3)
set_option maxRecDepth 100000 in
set_option maxHeartbeats 4000000 in
theorem tX10_drift_44 {p : Program} {l : Launch} {e : Env} {s : State} {m : MethodId} {args : Array Value} {below : List Frame} {meth : Method} {c : Code} {G : cG} (hO : c_Ok p s m c cX10_drift 4 RX10 G) (hr : meth.sig.returnType = (some .int)) (hk : meth.locks = false) : ∀ (aL0 : Nat), Sm p l e { frames := 5, cells := 0, slots := 0, locals := 113 } s m args below meth c G 4 (c_Q G c_vi below args s 0 0) 0 0 44 [(0, .ref aL0)] [] (fX10_drift_44 aL0) := by
  intro aL0
  rw [fX10_drift_44]
  refine sm_aload_n hO 0 dX10_drift_44 rfl rfl ?_
  refine sm_gr hO fl_RX10_22 dX10_drift_45 (fun a1 => ?_)
  refine sm_bipush (v := 33) hO dX10_drift_48 rfl ?_
  refine sm_li hO dX10_drift_50 (fun x2 => ?_)
  exact sm_iret hO hr hk (Nat.le_of_ble_eq_true rfl) (Nat.le_of_ble_eq_true rfl) dX10_drift_51
set_option maxRecDepth 100000 in
set_option maxHeartbeats 4000000 in
theorem ctX10_drift (l : Launch) (G : cG) (a0_ : Nat) (x1_ : Int32) : Ct l G yX10_drift cX10_drift 4 (some .int) 5 113 0 0 [.ref a0_, .int x1_] c_vi (pX10_drift a0_ x1_) := by
  refine Ct.of (lv := [(0, .ref a0_), (1, .int x1_)]) (by decide) (Nat.le_of_ble_eq_true rfl) rfl (fun p e s m args below meth c hO hr hk hin => ?_)
  rw [pX10_drift]
  refine sm_aload_n hO 0 dX10_drift_0 rfl rfl ?_
  refine sm_iload_n hO 1 dX10_drift_1 rfl rfl ?_
  refine sm_cvi hO (ctX10_yearsRefused l G a0_ x1_) cw_RX10_254 cv_X10_yearsRefused [] rfl rfl ⟨(Nat.le_of_ble_eq_true rfl), (Nat.le_of_ble_eq_true rfl)⟩ ⟨(Nat.le_of_ble_eq_true rfl), (Nat.le_of_ble_eq_true rfl)⟩ (Nat.le_of_ble_eq_true rfl) dX10_drift_2 (fun x1 => ?_)
  refine sm_istore_n hO [(2, .int x1), (0, .ref a0_), (1, .int x1_)] dX10_drift_5 rfl (by decide) rfl ?_
  refine sm_iload_n hO 0 dX10_drift_6 rfl rfl ?_
  refine sm_if_eq (tgt := 12) hO dX10_drift_7 (by decide) ?_ ?_
  · refine sm_aload_n hO 1 dX10_drift_12 rfl rfl ?_
    refine sm_cvv hO (ctX10_remember l G a0_) cw_RX10_237 cv_X10_remember [] rfl rfl ⟨(Nat.le_of_ble_eq_true rfl), (Nat.le_of_ble_eq_true rfl)⟩ ⟨(Nat.le_of_ble_eq_true rfl), (Nat.le_of_ble_eq_true rfl)⟩ (Nat.le_of_ble_eq_true rfl) dX10_drift_13 (fun _ => ?_)
    refine sm_iconst (v := 0) hO dX10_drift_16 rfl ?_
    refine sm_istore_n hO [(3, .int 0), (2, .int x1), (0, .ref a0_), (1, .int x1_)] dX10_drift_17 rfl (by decide) rfl ?_
    exact sm_sub [2, 3, 0] rfl (tX10_drift_18 hO hr hk fX10_drift_44 (tX10_drift_44 hO hr hk) c_fu a0_ x1_ 0)
  · refine sm_iload_n hO 0 dX10_drift_10 rfl rfl ?_
    exact sm_iret hO hr hk (Nat.le_of_ble_eq_true rfl) (Nat.le_of_ble_eq_true rfl) dX10_drift_11
/-! DollCongress$Past.recall(LDollCongress$Scene;)V -/
def pX3_recall (a0_ : Nat) (a1_ : Nat) : MM Unit := m_gi a0_ 3 1 (fun x1 => m_nz (16 : Int32) (m_pv a0_ 3 1 (.int (((x1 + 16) - 1) - ((x1 + 16) - 1) / 16 * 16)) (m_gr a0_ 3 0 (fun a2 => m_gi a0_ 3 1 (fun x3 => m_lr 3 a2 x3 (fun a4 => m_cv a1_ 5 (pX5_copyFrom a1_ a4) (fun _ => m_gi a0_ 3 2 (fun x5 => m_pv a0_ 3 2 (.int (c_mx (x5 - 1) (0 : Int32))) (m_ret ())))))))))
set_option maxRecDepth 100000 in
set_option maxHeartbeats 4000000 in
theorem ctX3_recall (l : Launch) (G : cG) (a0_ : Nat) (a1_ : Nat) : Ct l G yX3_recall cX3_recall 2 none 2 61 0 0 [.ref a0_, .ref a1_] c_vv (pX3_recall a0_ a1_) := by
  refine Ct.of (lv := [(0, .ref a0_), (1, .ref a1_)]) (by decide) (Nat.le_of_ble_eq_true rfl) rfl (fun p e s m args below meth c hO hr hk hin => ?_)
  rw [pX3_recall]
  refine sm_aload_n hO 0 dX3_recall_0 rfl rfl ?_
  refine sm_aload_n hO 0 dX3_recall_1 rfl rfl ?_
  refine sm_gi hO fl_RX3_22 dX3_recall_2 (fun x1 => ?_)
  refine sm_bipush (v := 16) hO dX3_recall_5 rfl ?_
  refine sm_iadd hO dX3_recall_7 ?_
  refine sm_iconst (v := 1) hO dX3_recall_8 rfl ?_
  refine sm_isub hO dX3_recall_9 ?_
  refine sm_bipush (v := 16) hO dX3_recall_10 rfl ?_
  refine sm_irem hO dX3_recall_12 ?_
  refine sm_pv hO fl_RX3_22 fp_3_1 rfl rfl dX3_recall_13 ?_
  refine sm_aload_n hO 1 dX3_recall_16 rfl rfl ?_
  refine sm_aload_n hO 0 dX3_recall_17 rfl rfl ?_
  refine sm_gr hO fl_RX3_11 dX3_recall_18 (fun a2 => ?_)
  refine sm_aload_n hO 0 dX3_recall_21 rfl rfl ?_
  refine sm_gi hO fl_RX3_22 dX3_recall_22 (fun x3 => ?_)
  refine sm_lr hO rfl dX3_recall_25 (by decide) (fun a4 => ?_)
  refine sm_cvv hO (ctX5_copyFrom l G a1_ a4) cw_RX3_25 cv_X5_copyFrom [] rfl rfl ⟨(Nat.le_of_ble_eq_true rfl), (Nat.le_of_ble_eq_true rfl)⟩ ⟨(Nat.le_of_ble_eq_true rfl), (Nat.le_of_ble_eq_true rfl)⟩ (Nat.le_of_ble_eq_true rfl) dX3_recall_26 (fun _ => ?_)
  refine sm_aload_n hO 0 dX3_recall_29 rfl rfl ?_
  refine sm_aload_n hO 0 dX3_recall_30 rfl rfl ?_
  refine sm_gi hO fl_RX3_18 dX3_recall_31 (fun x5 => ?_)
  refine sm_iconst (v := 1) hO dX3_recall_34 rfl ?_
  refine sm_isub hO dX3_recall_35 ?_
  refine sm_iconst (v := 0) hO dX3_recall_36 rfl ?_
  refine sm_max hO kw_628 kw_601 kw_83 kw_602 (Nat.le_of_ble_eq_true rfl) (Nat.le_of_ble_eq_true rfl) (Nat.le_of_ble_eq_true rfl) (Nat.le_of_ble_eq_true rfl) dX3_recall_37 ?_
  refine sm_pv hO fl_RX3_18 fp_3_2 rfl rfl dX3_recall_40 ?_
  exact sm_vret hO hr hk (Nat.le_of_ble_eq_true rfl) (Nat.le_of_ble_eq_true rfl) dX3_recall_43
/-! DollCongress.undo()I -/
def pX9_undo (a0_ : Nat) : MM Int32 := m_gr a0_ 8 2 (fun a1 => m_gi a1 3 2 (fun x2 => if x2 = 0 then (m_ret ((-1000000003) : Int32)) else (m_gr a0_ 8 2 (fun a3 => m_gr a0_ 8 1 (fun a4 => m_cv a3 3 (pX3_recall a3 a4) (fun _ => m_gr a0_ 8 2 (fun a5 => m_gi a5 3 2 (fun x6 => m_ret x6))))))))
set_option maxRecDepth 100000 in
set_option maxHeartbeats 4000000 in
theorem ctX9_undo (l : Launch) (G : cG) (a0_ : Nat) : Ct l G yX9_undo cX9_undo 1 (some .int) 3 82 0 0 [.ref a0_] c_vi (pX9_undo a0_) := by
  refine Ct.of (lv := [(0, .ref a0_)]) (by decide) (Nat.le_of_ble_eq_true rfl) rfl (fun p e s m args below meth c hO hr hk hin => ?_)
  rw [pX9_undo]
  refine sm_aload_n hO 0 dX9_undo_0 rfl rfl ?_
  refine sm_gr hO fl_RX9_26 dX9_undo_1 (fun a1 => ?_)
  refine sm_gi hO fl_RX9_152 dX9_undo_4 (fun x2 => ?_)
  refine sm_if_ne (tgt := 13) hO dX9_undo_7 (by decide) ?_ ?_
  · refine sm_aload_n hO 0 dX9_undo_13 rfl rfl ?_
    refine sm_gr hO fl_RX9_26 dX9_undo_14 (fun a3 => ?_)
    refine sm_aload_n hO 0 dX9_undo_17 rfl rfl ?_
    refine sm_gr hO fl_RX9_19 dX9_undo_18 (fun a4 => ?_)
    refine sm_cvv hO (ctX3_recall l G a3 a4) cw_RX9_224 cv_X3_recall [] rfl rfl ⟨(Nat.le_of_ble_eq_true rfl), (Nat.le_of_ble_eq_true rfl)⟩ ⟨(Nat.le_of_ble_eq_true rfl), (Nat.le_of_ble_eq_true rfl)⟩ (Nat.le_of_ble_eq_true rfl) dX9_undo_21 (fun _ => ?_)
    refine sm_aload_n hO 0 dX9_undo_24 rfl rfl ?_
    refine sm_gr hO fl_RX9_26 dX9_undo_25 (fun a5 => ?_)
    refine sm_gi hO fl_RX9_152 dX9_undo_28 (fun x6 => ?_)
    exact sm_iret hO hr hk (Nat.le_of_ble_eq_true rfl) (Nat.le_of_ble_eq_true rfl) dX9_undo_31
  · refine sm_ldc (v := (-1000000003)) hO kw_536 dX9_undo_10 ?_
    exact sm_iret hO hr hk (Nat.le_of_ble_eq_true rfl) (Nat.le_of_ble_eq_true rfl) dX9_undo_12
/-! DollCongressModel.undo()I -/
def fX10_undo_22 (k54 : Nat → MM Int32) : Nat → Nat → Int32 → MM Int32
  | 0, _, _ => m_bad
  | n + 1, aL0, xL1 => if (36 : Int32) ≤ xL1 then (k54 aL0) else (m_gr aL0 9 8 (fun a1 => m_gr aL0 9 26 (fun a2 => m_gi aL0 9 25 (fun x3 => m_li 0 a2 (((36 : Int32) * x3) + xL1) (fun x4 => m_si a1 xL1 x4 (m_let (xL1 + 1) (fun x5 => fX10_undo_22 k54 n aL0 x5)))))))
def fX10_undo_54  (aL0 : Nat) : MM Int32 := m_gi aL0 9 25 (fun x1 => m_ret x1)
def pX10_undo (a0_ : Nat) : MM Int32 := m_gi a0_ 9 25 (fun x1 => if x1 = 0 then (m_ret ((-1000000003) : Int32)) else (m_gi a0_ 9 25 (fun x2 => m_pv a0_ 9 25 (.int (x2 - 1)) (fX10_undo_22 fX10_undo_54 c_fu a0_ 0))))
set_option maxRecDepth 100000 in
set_option maxHeartbeats 4000000 in
theorem tX10_undo_22 {p : Program} {l : Launch} {e : Env} {s : State} {m : MethodId} {args : Array Value} {below : List Frame} {meth : Method} {c : Code} {G : cG} (hO : c_Ok p s m c cX10_undo 2 RX10 G) (hr : meth.sig.returnType = (some .int)) (hk : meth.locks = false) (k54 : Nat → MM Int32) (hk54 : ∀ (aL0 : Nat), Sm p l e { frames := 0, cells := 0, slots := 0, locals := 0 } s m args below meth c G 2 (c_Q G c_vi below args s 0 0) 0 0 54 [(0, .ref aL0)] [] (k54 aL0))  : ∀ (n : Nat) (aL0 : Nat) (xL1 : Int32), Sm p l e { frames := 0, cells := 0, slots := 0, locals := 0 } s m args below meth c G 2 (c_Q G c_vi below args s 0 0) 0 0 22 [(0, .ref aL0), (1, .int xL1)] [] (fX10_undo_22 k54 n aL0 xL1) := by
  intro n
  induction n with
  | zero =>
    intro aL0 xL1
    exact sm_bad
  | succ n ih =>
    intro aL0 xL1
    rw [fX10_undo_22]
    refine sm_iload_n hO 1 dX10_undo_22 rfl rfl ?_
    refine sm_bipush (v := 36) hO dX10_undo_23 rfl ?_
    refine sm_icmp_ge (tgt := 54) hO dX10_undo_25 (by decide) ?_ ?_
    · exact sm_sub [0] rfl (hk54 aL0)
    · refine sm_aload_n hO 0 dX10_undo_28 rfl rfl ?_
      refine sm_gr hO fl_RX10_22 dX10_undo_29 (fun a1 => ?_)
      refine sm_iload_n hO 1 dX10_undo_32 rfl rfl ?_
      refine sm_aload_n hO 0 dX10_undo_33 rfl rfl ?_
      refine sm_gr hO fl_RX10_44 dX10_undo_34 (fun a2 => ?_)
      refine sm_bipush (v := 36) hO dX10_undo_37 rfl ?_
      refine sm_aload_n hO 0 dX10_undo_39 rfl rfl ?_
      refine sm_gi hO fl_RX10_172 dX10_undo_40 (fun x3 => ?_)
      refine sm_imul hO dX10_undo_43 ?_
      refine sm_iload_n hO 1 dX10_undo_44 rfl rfl ?_
      refine sm_iadd hO dX10_undo_45 ?_
      refine sm_li hO dX10_undo_46 (fun x4 => ?_)
      refine sm_si hO dX10_undo_47 ?_
      refine sm_iincL (v := xL1 + 1) hO 1 (fun x5 => [(1, .int x5), (0, .ref aL0)]) dX10_undo_48 rfl rfl (by decide) (fun _ => rfl) (fun x5 => ?_)
      refine sm_goto (tgt := 22) hO dX10_undo_51 (by decide) ?_
      exact sm_sub [1, 0] rfl (ih aL0 x5)
set_option maxRecDepth 100000 in
set_option maxHeartbeats 4000000 in
theorem tX10_undo_54 {p : Program} {l : Launch} {e : Env} {s : State} {m : MethodId} {args : Array Value} {below : List Frame} {meth : Method} {c : Code} {G : cG} (hO : c_Ok p s m c cX10_undo 2 RX10 G) (hr : meth.sig.returnType = (some .int)) (hk : meth.locks = false) : ∀ (aL0 : Nat), Sm p l e { frames := 0, cells := 0, slots := 0, locals := 0 } s m args below meth c G 2 (c_Q G c_vi below args s 0 0) 0 0 54 [(0, .ref aL0)] [] (fX10_undo_54 aL0) := by
  intro aL0
  rw [fX10_undo_54]
  refine sm_aload_n hO 0 dX10_undo_54 rfl rfl ?_
  refine sm_gi hO fl_RX10_172 dX10_undo_55 (fun x1 => ?_)
  exact sm_iret hO hr hk (Nat.le_of_ble_eq_true rfl) (Nat.le_of_ble_eq_true rfl) dX10_undo_58
set_option maxRecDepth 100000 in
set_option maxHeartbeats 4000000 in
theorem ctX10_undo (l : Launch) (G : cG) (a0_ : Nat) : Ct l G yX10_undo cX10_undo 2 (some .int) 0 0 0 0 [.ref a0_] c_vi (pX10_undo a0_) := by
  refine Ct.of (lv := [(0, .ref a0_)]) (by decide) (Nat.le_of_ble_eq_true rfl) rfl (fun p e s m args below meth c hO hr hk hin => ?_)
  rw [pX10_undo]
  refine sm_aload_n hO 0 dX10_undo_0 rfl rfl ?_
  refine sm_gi hO fl_RX10_172 dX10_undo_1 (fun x1 => ?_)
  refine sm_if_ne (tgt := 10) hO dX10_undo_4 (by decide) ?_ ?_
  · refine sm_aload_n hO 0 dX10_undo_10 rfl rfl ?_
    refine sm_dup hO dX10_undo_11 rfl ?_
    refine sm_gi hO fl_RX10_172 dX10_undo_12 (fun x2 => ?_)
    refine sm_iconst (v := 1) hO dX10_undo_15 rfl ?_
    refine sm_isub hO dX10_undo_16 ?_
    refine sm_pv hO fl_RX10_172 fp_9_25 rfl rfl dX10_undo_17 ?_
    refine sm_iconst (v := 0) hO dX10_undo_20 rfl ?_
    refine sm_istore_n hO [(1, .int 0), (0, .ref a0_)] dX10_undo_21 rfl (by decide) rfl ?_
    exact sm_sub [1, 0] rfl (tX10_undo_22 hO hr hk fX10_undo_54 (tX10_undo_54 hO hr hk) c_fu a0_ 0)
  · refine sm_ldc (v := (-1000000003)) hO kw_1070 dX10_undo_7 ?_
    exact sm_iret hO hr hk (Nat.le_of_ble_eq_true rfl) (Nat.le_of_ble_eq_true rfl) dX10_undo_9
