/-! DollCongress$Text.<init>()V -/
def pX7_init (a0_ : Nat) : MM Unit := m_na 0 240 (fun a1 => m_pv a0_ 6 0 (.ref a1) (m_pv a0_ 6 3 (.int ((-1))) (m_ret ())))
set_option maxRecDepth 100000 in
set_option maxHeartbeats 4000000 in
theorem ctX7_init (l : Launch) (G : cG) (a0_ : Nat) : Ct l G yX7_init cX7_init 1 none 1 12 1 240 [.ref a0_] c_vv (pX7_init a0_) := by
  refine Ct.of (lv := [(0, .ref a0_)]) (by decide) (Nat.le_of_ble_eq_true rfl) rfl (fun p e s m args below meth c hO hr hk hin => ?_)
  rw [pX7_init]
  refine sm_aload_n hO 0 dX7_init_0 rfl rfl ?_
  refine sm_objInit hO kw_101 kw_94 kw_95 (Nat.le_of_ble_eq_true rfl) (Nat.le_of_ble_eq_true rfl) dX7_init_1 ?_
  refine sm_aload_n hO 0 dX7_init_4 rfl rfl ?_
  refine sm_sipush (v := 240) hO dX7_init_5 rfl ?_
  refine sm_na (atype := .int) hO rfl rfl kw_122 (by decide) (by decide) (Nat.le_of_ble_eq_true rfl) (Nat.le_of_ble_eq_true rfl) (Nat.le_of_ble_eq_true rfl) dX7_init_8 (fun a1 => ?_)
  refine sm_pvF hO hin fl_RX7_9 fp_6_0 ⟨TX7, 5, rfl⟩ rfl rfl dX7_init_10 ?_
  refine sm_aload_n hO 0 dX7_init_13 rfl rfl ?_
  refine sm_iconst (v := (-1)) hO dX7_init_14 rfl ?_
  refine sm_pv hO fl_RX7_15 fp_6_3 rfl rfl dX7_init_15 ?_
  exact sm_vret hO hr hk (Nat.le_of_ble_eq_true rfl) (Nat.le_of_ble_eq_true rfl) dX7_init_18
/-! DollCongress$Scene.<init>()V -/
def pX5_init (a0_ : Nat) : MM Unit := m_na 0 8 (fun a1 => m_pv a0_ 5 0 (.ref a1) (m_na 0 8 (fun a2 => m_pv a0_ 5 1 (.ref a2) (m_na 0 8 (fun a3 => m_pv a0_ 5 2 (.ref a3) (m_na 0 8 (fun a4 => m_pv a0_ 5 3 (.ref a4) (m_ret ()))))))))
set_option maxRecDepth 100000 in
set_option maxHeartbeats 4000000 in
theorem ctX5_init (l : Launch) (G : cG) (a0_ : Nat) : Ct l G yX5_init cX5_init 1 none 1 12 4 32 [.ref a0_] c_vv (pX5_init a0_) := by
  refine Ct.of (lv := [(0, .ref a0_)]) (by decide) (Nat.le_of_ble_eq_true rfl) rfl (fun p e s m args below meth c hO hr hk hin => ?_)
  rw [pX5_init]
  refine sm_aload_n hO 0 dX5_init_0 rfl rfl ?_
  refine sm_objInit hO kw_128 kw_94 kw_95 (Nat.le_of_ble_eq_true rfl) (Nat.le_of_ble_eq_true rfl) dX5_init_1 ?_
  refine sm_aload_n hO 0 dX5_init_4 rfl rfl ?_
  refine sm_bipush (v := 8) hO dX5_init_5 rfl ?_
  refine sm_na (atype := .int) hO rfl rfl kw_122 (by decide) (by decide) (Nat.le_of_ble_eq_true rfl) (Nat.le_of_ble_eq_true rfl) (Nat.le_of_ble_eq_true rfl) dX5_init_7 (fun a1 => ?_)
  refine sm_pvF hO hin fl_RX5_9 fp_5_0 ⟨TX5, 8, rfl⟩ rfl rfl dX5_init_9 ?_
  refine sm_aload_n hO 0 dX5_init_12 rfl rfl ?_
  refine sm_bipush (v := 8) hO dX5_init_13 rfl ?_
  refine sm_na (atype := .int) hO rfl rfl kw_122 (by decide) (by decide) (Nat.le_of_ble_eq_true rfl) (Nat.le_of_ble_eq_true rfl) (Nat.le_of_ble_eq_true rfl) dX5_init_15 (fun a2 => ?_)
  refine sm_pvF hO hin fl_RX5_15 fp_5_1 ⟨TX5, 8, rfl⟩ rfl rfl dX5_init_17 ?_
  refine sm_aload_n hO 0 dX5_init_20 rfl rfl ?_
  refine sm_bipush (v := 8) hO dX5_init_21 rfl ?_
  refine sm_na (atype := .int) hO rfl rfl kw_122 (by decide) (by decide) (Nat.le_of_ble_eq_true rfl) (Nat.le_of_ble_eq_true rfl) (Nat.le_of_ble_eq_true rfl) dX5_init_23 (fun a3 => ?_)
  refine sm_pvF hO hin fl_RX5_18 fp_5_2 ⟨TX5, 8, rfl⟩ rfl rfl dX5_init_25 ?_
  refine sm_aload_n hO 0 dX5_init_28 rfl rfl ?_
  refine sm_bipush (v := 8) hO dX5_init_29 rfl ?_
  refine sm_na (atype := .int) hO rfl rfl kw_122 (by decide) (by decide) (Nat.le_of_ble_eq_true rfl) (Nat.le_of_ble_eq_true rfl) (Nat.le_of_ble_eq_true rfl) dX5_init_31 (fun a4 => ?_)
  refine sm_pvF hO hin fl_RX5_21 fp_5_3 ⟨TX5, 8, rfl⟩ rfl rfl dX5_init_33 ?_
  exact sm_vret hO hr hk (Nat.le_of_ble_eq_true rfl) (Nat.le_of_ble_eq_true rfl) dX5_init_36
/-! DollCongress$Past.<init>()V -/
def pX3_init (a0_ : Nat) : MM Unit := m_nr 3 16 (fun a1 => m_pv a0_ 3 0 (.ref a1) (m_gr a0_ 3 0 (fun a2 => m_new 5 [.null, .null, .null, .null, .int 0, .int 0, .int 0, .int 0] (fun a3 => m_bind (pX5_init a3) (fun _ => m_sr 3 a2 (0 : Int32) a3 5 (m_gr a0_ 3 0 (fun a4 => m_new 5 [.null, .null, .null, .null, .int 0, .int 0, .int 0, .int 0] (fun a5 => m_bind (pX5_init a5) (fun _ => m_sr 3 a4 (1 : Int32) a5 5 (m_gr a0_ 3 0 (fun a6 => m_new 5 [.null, .null, .null, .null, .int 0, .int 0, .int 0, .int 0] (fun a7 => m_bind (pX5_init a7) (fun _ => m_sr 3 a6 (2 : Int32) a7 5 (m_gr a0_ 3 0 (fun a8 => m_new 5 [.null, .null, .null, .null, .int 0, .int 0, .int 0, .int 0] (fun a9 => m_bind (pX5_init a9) (fun _ => m_sr 3 a8 (3 : Int32) a9 5 (m_gr a0_ 3 0 (fun a10 => m_new 5 [.null, .null, .null, .null, .int 0, .int 0, .int 0, .int 0] (fun a11 => m_bind (pX5_init a11) (fun _ => m_sr 3 a10 (4 : Int32) a11 5 (m_gr a0_ 3 0 (fun a12 => m_new 5 [.null, .null, .null, .null, .int 0, .int 0, .int 0, .int 0] (fun a13 => m_bind (pX5_init a13) (fun _ => m_sr 3 a12 (5 : Int32) a13 5 (m_gr a0_ 3 0 (fun a14 => m_new 5 [.null, .null, .null, .null, .int 0, .int 0, .int 0, .int 0] (fun a15 => m_bind (pX5_init a15) (fun _ => m_sr 3 a14 (6 : Int32) a15 5 (m_gr a0_ 3 0 (fun a16 => m_new 5 [.null, .null, .null, .null, .int 0, .int 0, .int 0, .int 0] (fun a17 => m_bind (pX5_init a17) (fun _ => m_sr 3 a16 (7 : Int32) a17 5 (m_gr a0_ 3 0 (fun a18 => m_new 5 [.null, .null, .null, .null, .int 0, .int 0, .int 0, .int 0] (fun a19 => m_bind (pX5_init a19) (fun _ => m_sr 3 a18 (8 : Int32) a19 5 (m_gr a0_ 3 0 (fun a20 => m_new 5 [.null, .null, .null, .null, .int 0, .int 0, .int 0, .int 0] (fun a21 => m_bind (pX5_init a21) (fun _ => m_sr 3 a20 (9 : Int32) a21 5 (m_gr a0_ 3 0 (fun a22 => m_new 5 [.null, .null, .null, .null, .int 0, .int 0, .int 0, .int 0] (fun a23 => m_bind (pX5_init a23) (fun _ => m_sr 3 a22 (10 : Int32) a23 5 (m_gr a0_ 3 0 (fun a24 => m_new 5 [.null, .null, .null, .null, .int 0, .int 0, .int 0, .int 0] (fun a25 => m_bind (pX5_init a25) (fun _ => m_sr 3 a24 (11 : Int32) a25 5 (m_gr a0_ 3 0 (fun a26 => m_new 5 [.null, .null, .null, .null, .int 0, .int 0, .int 0, .int 0] (fun a27 => m_bind (pX5_init a27) (fun _ => m_sr 3 a26 (12 : Int32) a27 5 (m_gr a0_ 3 0 (fun a28 => m_new 5 [.null, .null, .null, .null, .int 0, .int 0, .int 0, .int 0] (fun a29 => m_bind (pX5_init a29) (fun _ => m_sr 3 a28 (13 : Int32) a29 5 (m_gr a0_ 3 0 (fun a30 => m_new 5 [.null, .null, .null, .null, .int 0, .int 0, .int 0, .int 0] (fun a31 => m_bind (pX5_init a31) (fun _ => m_sr 3 a30 (14 : Int32) a31 5 (m_gr a0_ 3 0 (fun a32 => m_new 5 [.null, .null, .null, .null, .int 0, .int 0, .int 0, .int 0] (fun a33 => m_bind (pX5_init a33) (fun _ => m_sr 3 a32 (15 : Int32) a33 5 (m_ret ()))))))))))))))))))))))))))))))))))))))))))))))))))))))))))))))))))
set_option maxRecDepth 100000 in
set_option maxHeartbeats 4000000 in
theorem ctX3_init (l : Launch) (G : cG) (a0_ : Nat) : Ct l G yX3_init cX3_init 2 none 2 32 81 656 [.ref a0_] c_vv (pX3_init a0_) := by
  refine Ct.of (lv := [(0, .ref a0_)]) (by decide) (Nat.le_of_ble_eq_true rfl) rfl (fun p e s m args below meth c hO hr hk hin => ?_)
  rw [pX3_init]
  refine sm_aload_n hO 0 dX3_init_0 rfl rfl ?_
  refine sm_objInit hO kw_171 kw_94 kw_95 (Nat.le_of_ble_eq_true rfl) (Nat.le_of_ble_eq_true rfl) dX3_init_1 ?_
  refine sm_aload_n hO 0 dX3_init_4 rfl rfl ?_
  refine sm_bipush (v := 16) hO dX3_init_5 rfl ?_
  refine sm_nr hO (C := RX5) rfl hO.2.2.2.2.2.2.2.2.1 kw_172 (by decide) (by decide) (Nat.le_of_ble_eq_true rfl) (Nat.le_of_ble_eq_true rfl) (Nat.le_of_ble_eq_true rfl) dX3_init_7 (fun a1 => ?_)
  refine sm_pvF hO hin fl_RX3_11 fp_3_0 ⟨TX3, 3, rfl⟩ rfl rfl dX3_init_10 ?_
  refine sm_iconst (v := 0) hO dX3_init_13 rfl ?_
  refine sm_istore_n hO [(1, .int 0), (0, .ref a0_)] dX3_init_14 rfl (by decide) rfl ?_
  refine sm_iload_n hO 0 dX3_init_15 rfl rfl ?_
  refine sm_bipush (v := 16) hO dX3_init_16 rfl ?_
  refine sm_eq (if_neg (by decide : ¬ ((16 : Int32) ≤ (0 : Int32)))).symm (sm_icmp_ge (tgt := 40) hO dX3_init_18 (by decide) sm_bad ?_)
  refine sm_aload_n hO 1 dX3_init_21 rfl rfl ?_
  refine sm_gr hO fl_RX3_11 dX3_init_22 (fun a2 => ?_)
  refine sm_iload_n hO 0 dX3_init_25 rfl rfl ?_
  refine sm_new hO cn_RX3_9 (Nat.le_of_ble_eq_true rfl) (Nat.le_of_ble_eq_true rfl) dX3_init_26 (fun a3 => ?_)
  refine sm_dup hO dX3_init_29 rfl ?_
  refine sm_cn hO (ctX5_init l G a3) (by decide +kernel) kw_127 kw_75 ⟨by decide, by decide⟩ (by decide +kernel) kw_126 rfl rfl ⟨(Nat.le_of_ble_eq_true rfl), (Nat.le_of_ble_eq_true rfl)⟩ ⟨(Nat.le_of_ble_eq_true rfl), (Nat.le_of_ble_eq_true rfl)⟩ (Nat.le_of_ble_eq_true rfl) dX3_init_30 ?_
  refine sm_sr hO (C := RX5) (T := TX5) (n := 8) rfl (by decide) rfl dX3_init_33 ?_
  refine sm_iinc (v := 1) hO 0 [(1, .int 1), (0, .ref a0_)] dX3_init_34 rfl rfl (by decide) rfl ?_
  refine sm_goto (tgt := 15) hO dX3_init_37 (by decide) ?_
  refine sm_iload_n hO 0 dX3_init_15 rfl rfl ?_
  refine sm_bipush (v := 16) hO dX3_init_16 rfl ?_
  refine sm_eq (if_neg (by decide : ¬ ((16 : Int32) ≤ (1 : Int32)))).symm (sm_icmp_ge (tgt := 40) hO dX3_init_18 (by decide) sm_bad ?_)
  refine sm_aload_n hO 1 dX3_init_21 rfl rfl ?_
  refine sm_gr hO fl_RX3_11 dX3_init_22 (fun a4 => ?_)
  refine sm_iload_n hO 0 dX3_init_25 rfl rfl ?_
  refine sm_new hO cn_RX3_9 (Nat.le_of_ble_eq_true rfl) (Nat.le_of_ble_eq_true rfl) dX3_init_26 (fun a5 => ?_)
  refine sm_dup hO dX3_init_29 rfl ?_
  refine sm_cn hO (ctX5_init l G a5) (by decide +kernel) kw_127 kw_75 ⟨by decide, by decide⟩ (by decide +kernel) kw_126 rfl rfl ⟨(Nat.le_of_ble_eq_true rfl), (Nat.le_of_ble_eq_true rfl)⟩ ⟨(Nat.le_of_ble_eq_true rfl), (Nat.le_of_ble_eq_true rfl)⟩ (Nat.le_of_ble_eq_true rfl) dX3_init_30 ?_
  refine sm_sr hO (C := RX5) (T := TX5) (n := 8) rfl (by decide) rfl dX3_init_33 ?_
  refine sm_iinc (v := 2) hO 0 [(1, .int 2), (0, .ref a0_)] dX3_init_34 rfl rfl (by decide) rfl ?_
  refine sm_goto (tgt := 15) hO dX3_init_37 (by decide) ?_
  refine sm_iload_n hO 0 dX3_init_15 rfl rfl ?_
  refine sm_bipush (v := 16) hO dX3_init_16 rfl ?_
  refine sm_eq (if_neg (by decide : ¬ ((16 : Int32) ≤ (2 : Int32)))).symm (sm_icmp_ge (tgt := 40) hO dX3_init_18 (by decide) sm_bad ?_)
  refine sm_aload_n hO 1 dX3_init_21 rfl rfl ?_
  refine sm_gr hO fl_RX3_11 dX3_init_22 (fun a6 => ?_)
  refine sm_iload_n hO 0 dX3_init_25 rfl rfl ?_
  refine sm_new hO cn_RX3_9 (Nat.le_of_ble_eq_true rfl) (Nat.le_of_ble_eq_true rfl) dX3_init_26 (fun a7 => ?_)
  refine sm_dup hO dX3_init_29 rfl ?_
  refine sm_cn hO (ctX5_init l G a7) (by decide +kernel) kw_127 kw_75 ⟨by decide, by decide⟩ (by decide +kernel) kw_126 rfl rfl ⟨(Nat.le_of_ble_eq_true rfl), (Nat.le_of_ble_eq_true rfl)⟩ ⟨(Nat.le_of_ble_eq_true rfl), (Nat.le_of_ble_eq_true rfl)⟩ (Nat.le_of_ble_eq_true rfl) dX3_init_30 ?_
  refine sm_sr hO (C := RX5) (T := TX5) (n := 8) rfl (by decide) rfl dX3_init_33 ?_
  refine sm_iinc (v := 3) hO 0 [(1, .int 3), (0, .ref a0_)] dX3_init_34 rfl rfl (by decide) rfl ?_
  refine sm_goto (tgt := 15) hO dX3_init_37 (by decide) ?_
  refine sm_iload_n hO 0 dX3_init_15 rfl rfl ?_
  refine sm_bipush (v := 16) hO dX3_init_16 rfl ?_
  refine sm_eq (if_neg (by decide : ¬ ((16 : Int32) ≤ (3 : Int32)))).symm (sm_icmp_ge (tgt := 40) hO dX3_init_18 (by decide) sm_bad ?_)
  refine sm_aload_n hO 1 dX3_init_21 rfl rfl ?_
  refine sm_gr hO fl_RX3_11 dX3_init_22 (fun a8 => ?_)
  refine sm_iload_n hO 0 dX3_init_25 rfl rfl ?_
  refine sm_new hO cn_RX3_9 (Nat.le_of_ble_eq_true rfl) (Nat.le_of_ble_eq_true rfl) dX3_init_26 (fun a9 => ?_)
  refine sm_dup hO dX3_init_29 rfl ?_
  refine sm_cn hO (ctX5_init l G a9) (by decide +kernel) kw_127 kw_75 ⟨by decide, by decide⟩ (by decide +kernel) kw_126 rfl rfl ⟨(Nat.le_of_ble_eq_true rfl), (Nat.le_of_ble_eq_true rfl)⟩ ⟨(Nat.le_of_ble_eq_true rfl), (Nat.le_of_ble_eq_true rfl)⟩ (Nat.le_of_ble_eq_true rfl) dX3_init_30 ?_
  refine sm_sr hO (C := RX5) (T := TX5) (n := 8) rfl (by decide) rfl dX3_init_33 ?_
  refine sm_iinc (v := 4) hO 0 [(1, .int 4), (0, .ref a0_)] dX3_init_34 rfl rfl (by decide) rfl ?_
  refine sm_goto (tgt := 15) hO dX3_init_37 (by decide) ?_
  refine sm_iload_n hO 0 dX3_init_15 rfl rfl ?_
  refine sm_bipush (v := 16) hO dX3_init_16 rfl ?_
  refine sm_eq (if_neg (by decide : ¬ ((16 : Int32) ≤ (4 : Int32)))).symm (sm_icmp_ge (tgt := 40) hO dX3_init_18 (by decide) sm_bad ?_)
  refine sm_aload_n hO 1 dX3_init_21 rfl rfl ?_
  refine sm_gr hO fl_RX3_11 dX3_init_22 (fun a10 => ?_)
  refine sm_iload_n hO 0 dX3_init_25 rfl rfl ?_
  refine sm_new hO cn_RX3_9 (Nat.le_of_ble_eq_true rfl) (Nat.le_of_ble_eq_true rfl) dX3_init_26 (fun a11 => ?_)
  refine sm_dup hO dX3_init_29 rfl ?_
  refine sm_cn hO (ctX5_init l G a11) (by decide +kernel) kw_127 kw_75 ⟨by decide, by decide⟩ (by decide +kernel) kw_126 rfl rfl ⟨(Nat.le_of_ble_eq_true rfl), (Nat.le_of_ble_eq_true rfl)⟩ ⟨(Nat.le_of_ble_eq_true rfl), (Nat.le_of_ble_eq_true rfl)⟩ (Nat.le_of_ble_eq_true rfl) dX3_init_30 ?_
  refine sm_sr hO (C := RX5) (T := TX5) (n := 8) rfl (by decide) rfl dX3_init_33 ?_
  refine sm_iinc (v := 5) hO 0 [(1, .int 5), (0, .ref a0_)] dX3_init_34 rfl rfl (by decide) rfl ?_
  refine sm_goto (tgt := 15) hO dX3_init_37 (by decide) ?_
  refine sm_iload_n hO 0 dX3_init_15 rfl rfl ?_
  refine sm_bipush (v := 16) hO dX3_init_16 rfl ?_
  refine sm_eq (if_neg (by decide : ¬ ((16 : Int32) ≤ (5 : Int32)))).symm (sm_icmp_ge (tgt := 40) hO dX3_init_18 (by decide) sm_bad ?_)
  refine sm_aload_n hO 1 dX3_init_21 rfl rfl ?_
  refine sm_gr hO fl_RX3_11 dX3_init_22 (fun a12 => ?_)
  refine sm_iload_n hO 0 dX3_init_25 rfl rfl ?_
  refine sm_new hO cn_RX3_9 (Nat.le_of_ble_eq_true rfl) (Nat.le_of_ble_eq_true rfl) dX3_init_26 (fun a13 => ?_)
  refine sm_dup hO dX3_init_29 rfl ?_
  refine sm_cn hO (ctX5_init l G a13) (by decide +kernel) kw_127 kw_75 ⟨by decide, by decide⟩ (by decide +kernel) kw_126 rfl rfl ⟨(Nat.le_of_ble_eq_true rfl), (Nat.le_of_ble_eq_true rfl)⟩ ⟨(Nat.le_of_ble_eq_true rfl), (Nat.le_of_ble_eq_true rfl)⟩ (Nat.le_of_ble_eq_true rfl) dX3_init_30 ?_
  refine sm_sr hO (C := RX5) (T := TX5) (n := 8) rfl (by decide) rfl dX3_init_33 ?_
  refine sm_iinc (v := 6) hO 0 [(1, .int 6), (0, .ref a0_)] dX3_init_34 rfl rfl (by decide) rfl ?_
  refine sm_goto (tgt := 15) hO dX3_init_37 (by decide) ?_
  refine sm_iload_n hO 0 dX3_init_15 rfl rfl ?_
  refine sm_bipush (v := 16) hO dX3_init_16 rfl ?_
  refine sm_eq (if_neg (by decide : ¬ ((16 : Int32) ≤ (6 : Int32)))).symm (sm_icmp_ge (tgt := 40) hO dX3_init_18 (by decide) sm_bad ?_)
  refine sm_aload_n hO 1 dX3_init_21 rfl rfl ?_
  refine sm_gr hO fl_RX3_11 dX3_init_22 (fun a14 => ?_)
  refine sm_iload_n hO 0 dX3_init_25 rfl rfl ?_
  refine sm_new hO cn_RX3_9 (Nat.le_of_ble_eq_true rfl) (Nat.le_of_ble_eq_true rfl) dX3_init_26 (fun a15 => ?_)
  refine sm_dup hO dX3_init_29 rfl ?_
  refine sm_cn hO (ctX5_init l G a15) (by decide +kernel) kw_127 kw_75 ⟨by decide, by decide⟩ (by decide +kernel) kw_126 rfl rfl ⟨(Nat.le_of_ble_eq_true rfl), (Nat.le_of_ble_eq_true rfl)⟩ ⟨(Nat.le_of_ble_eq_true rfl), (Nat.le_of_ble_eq_true rfl)⟩ (Nat.le_of_ble_eq_true rfl) dX3_init_30 ?_
  refine sm_sr hO (C := RX5) (T := TX5) (n := 8) rfl (by decide) rfl dX3_init_33 ?_
  refine sm_iinc (v := 7) hO 0 [(1, .int 7), (0, .ref a0_)] dX3_init_34 rfl rfl (by decide) rfl ?_
  refine sm_goto (tgt := 15) hO dX3_init_37 (by decide) ?_
  refine sm_iload_n hO 0 dX3_init_15 rfl rfl ?_
  refine sm_bipush (v := 16) hO dX3_init_16 rfl ?_
  refine sm_eq (if_neg (by decide : ¬ ((16 : Int32) ≤ (7 : Int32)))).symm (sm_icmp_ge (tgt := 40) hO dX3_init_18 (by decide) sm_bad ?_)
  refine sm_aload_n hO 1 dX3_init_21 rfl rfl ?_
  refine sm_gr hO fl_RX3_11 dX3_init_22 (fun a16 => ?_)
  refine sm_iload_n hO 0 dX3_init_25 rfl rfl ?_
  refine sm_new hO cn_RX3_9 (Nat.le_of_ble_eq_true rfl) (Nat.le_of_ble_eq_true rfl) dX3_init_26 (fun a17 => ?_)
  refine sm_dup hO dX3_init_29 rfl ?_
  refine sm_cn hO (ctX5_init l G a17) (by decide +kernel) kw_127 kw_75 ⟨by decide, by decide⟩ (by decide +kernel) kw_126 rfl rfl ⟨(Nat.le_of_ble_eq_true rfl), (Nat.le_of_ble_eq_true rfl)⟩ ⟨(Nat.le_of_ble_eq_true rfl), (Nat.le_of_ble_eq_true rfl)⟩ (Nat.le_of_ble_eq_true rfl) dX3_init_30 ?_
  refine sm_sr hO (C := RX5) (T := TX5) (n := 8) rfl (by decide) rfl dX3_init_33 ?_
  refine sm_iinc (v := 8) hO 0 [(1, .int 8), (0, .ref a0_)] dX3_init_34 rfl rfl (by decide) rfl ?_
  refine sm_goto (tgt := 15) hO dX3_init_37 (by decide) ?_
  refine sm_iload_n hO 0 dX3_init_15 rfl rfl ?_
  refine sm_bipush (v := 16) hO dX3_init_16 rfl ?_
  refine sm_eq (if_neg (by decide : ¬ ((16 : Int32) ≤ (8 : Int32)))).symm (sm_icmp_ge (tgt := 40) hO dX3_init_18 (by decide) sm_bad ?_)
  refine sm_aload_n hO 1 dX3_init_21 rfl rfl ?_
  refine sm_gr hO fl_RX3_11 dX3_init_22 (fun a18 => ?_)
  refine sm_iload_n hO 0 dX3_init_25 rfl rfl ?_
  refine sm_new hO cn_RX3_9 (Nat.le_of_ble_eq_true rfl) (Nat.le_of_ble_eq_true rfl) dX3_init_26 (fun a19 => ?_)
  refine sm_dup hO dX3_init_29 rfl ?_
  refine sm_cn hO (ctX5_init l G a19) (by decide +kernel) kw_127 kw_75 ⟨by decide, by decide⟩ (by decide +kernel) kw_126 rfl rfl ⟨(Nat.le_of_ble_eq_true rfl), (Nat.le_of_ble_eq_true rfl)⟩ ⟨(Nat.le_of_ble_eq_true rfl), (Nat.le_of_ble_eq_true rfl)⟩ (Nat.le_of_ble_eq_true rfl) dX3_init_30 ?_
  refine sm_sr hO (C := RX5) (T := TX5) (n := 8) rfl (by decide) rfl dX3_init_33 ?_
  refine sm_iinc (v := 9) hO 0 [(1, .int 9), (0, .ref a0_)] dX3_init_34 rfl rfl (by decide) rfl ?_
  refine sm_goto (tgt := 15) hO dX3_init_37 (by decide) ?_
  refine sm_iload_n hO 0 dX3_init_15 rfl rfl ?_
  refine sm_bipush (v := 16) hO dX3_init_16 rfl ?_
  refine sm_eq (if_neg (by decide : ¬ ((16 : Int32) ≤ (9 : Int32)))).symm (sm_icmp_ge (tgt := 40) hO dX3_init_18 (by decide) sm_bad ?_)
  refine sm_aload_n hO 1 dX3_init_21 rfl rfl ?_
  refine sm_gr hO fl_RX3_11 dX3_init_22 (fun a20 => ?_)
  refine sm_iload_n hO 0 dX3_init_25 rfl rfl ?_
  refine sm_new hO cn_RX3_9 (Nat.le_of_ble_eq_true rfl) (Nat.le_of_ble_eq_true rfl) dX3_init_26 (fun a21 => ?_)
  refine sm_dup hO dX3_init_29 rfl ?_
  refine sm_cn hO (ctX5_init l G a21) (by decide +kernel) kw_127 kw_75 ⟨by decide, by decide⟩ (by decide +kernel) kw_126 rfl rfl ⟨(Nat.le_of_ble_eq_true rfl), (Nat.le_of_ble_eq_true rfl)⟩ ⟨(Nat.le_of_ble_eq_true rfl), (Nat.le_of_ble_eq_true rfl)⟩ (Nat.le_of_ble_eq_true rfl) dX3_init_30 ?_
  refine sm_sr hO (C := RX5) (T := TX5) (n := 8) rfl (by decide) rfl dX3_init_33 ?_
  refine sm_iinc (v := 10) hO 0 [(1, .int 10), (0, .ref a0_)] dX3_init_34 rfl rfl (by decide) rfl ?_
  refine sm_goto (tgt := 15) hO dX3_init_37 (by decide) ?_
  refine sm_iload_n hO 0 dX3_init_15 rfl rfl ?_
  refine sm_bipush (v := 16) hO dX3_init_16 rfl ?_
  refine sm_eq (if_neg (by decide : ¬ ((16 : Int32) ≤ (10 : Int32)))).symm (sm_icmp_ge (tgt := 40) hO dX3_init_18 (by decide) sm_bad ?_)
  refine sm_aload_n hO 1 dX3_init_21 rfl rfl ?_
  refine sm_gr hO fl_RX3_11 dX3_init_22 (fun a22 => ?_)
  refine sm_iload_n hO 0 dX3_init_25 rfl rfl ?_
  refine sm_new hO cn_RX3_9 (Nat.le_of_ble_eq_true rfl) (Nat.le_of_ble_eq_true rfl) dX3_init_26 (fun a23 => ?_)
  refine sm_dup hO dX3_init_29 rfl ?_
  refine sm_cn hO (ctX5_init l G a23) (by decide +kernel) kw_127 kw_75 ⟨by decide, by decide⟩ (by decide +kernel) kw_126 rfl rfl ⟨(Nat.le_of_ble_eq_true rfl), (Nat.le_of_ble_eq_true rfl)⟩ ⟨(Nat.le_of_ble_eq_true rfl), (Nat.le_of_ble_eq_true rfl)⟩ (Nat.le_of_ble_eq_true rfl) dX3_init_30 ?_
  refine sm_sr hO (C := RX5) (T := TX5) (n := 8) rfl (by decide) rfl dX3_init_33 ?_
  refine sm_iinc (v := 11) hO 0 [(1, .int 11), (0, .ref a0_)] dX3_init_34 rfl rfl (by decide) rfl ?_
  refine sm_goto (tgt := 15) hO dX3_init_37 (by decide) ?_
  refine sm_iload_n hO 0 dX3_init_15 rfl rfl ?_
  refine sm_bipush (v := 16) hO dX3_init_16 rfl ?_
  refine sm_eq (if_neg (by decide : ¬ ((16 : Int32) ≤ (11 : Int32)))).symm (sm_icmp_ge (tgt := 40) hO dX3_init_18 (by decide) sm_bad ?_)
  refine sm_aload_n hO 1 dX3_init_21 rfl rfl ?_
  refine sm_gr hO fl_RX3_11 dX3_init_22 (fun a24 => ?_)
  refine sm_iload_n hO 0 dX3_init_25 rfl rfl ?_
  refine sm_new hO cn_RX3_9 (Nat.le_of_ble_eq_true rfl) (Nat.le_of_ble_eq_true rfl) dX3_init_26 (fun a25 => ?_)
  refine sm_dup hO dX3_init_29 rfl ?_
  refine sm_cn hO (ctX5_init l G a25) (by decide +kernel) kw_127 kw_75 ⟨by decide, by decide⟩ (by decide +kernel) kw_126 rfl rfl ⟨(Nat.le_of_ble_eq_true rfl), (Nat.le_of_ble_eq_true rfl)⟩ ⟨(Nat.le_of_ble_eq_true rfl), (Nat.le_of_ble_eq_true rfl)⟩ (Nat.le_of_ble_eq_true rfl) dX3_init_30 ?_
  refine sm_sr hO (C := RX5) (T := TX5) (n := 8) rfl (by decide) rfl dX3_init_33 ?_
  refine sm_iinc (v := 12) hO 0 [(1, .int 12), (0, .ref a0_)] dX3_init_34 rfl rfl (by decide) rfl ?_
  refine sm_goto (tgt := 15) hO dX3_init_37 (by decide) ?_
  refine sm_iload_n hO 0 dX3_init_15 rfl rfl ?_
  refine sm_bipush (v := 16) hO dX3_init_16 rfl ?_
  refine sm_eq (if_neg (by decide : ¬ ((16 : Int32) ≤ (12 : Int32)))).symm (sm_icmp_ge (tgt := 40) hO dX3_init_18 (by decide) sm_bad ?_)
  refine sm_aload_n hO 1 dX3_init_21 rfl rfl ?_
  refine sm_gr hO fl_RX3_11 dX3_init_22 (fun a26 => ?_)
  refine sm_iload_n hO 0 dX3_init_25 rfl rfl ?_
  refine sm_new hO cn_RX3_9 (Nat.le_of_ble_eq_true rfl) (Nat.le_of_ble_eq_true rfl) dX3_init_26 (fun a27 => ?_)
  refine sm_dup hO dX3_init_29 rfl ?_
  refine sm_cn hO (ctX5_init l G a27) (by decide +kernel) kw_127 kw_75 ⟨by decide, by decide⟩ (by decide +kernel) kw_126 rfl rfl ⟨(Nat.le_of_ble_eq_true rfl), (Nat.le_of_ble_eq_true rfl)⟩ ⟨(Nat.le_of_ble_eq_true rfl), (Nat.le_of_ble_eq_true rfl)⟩ (Nat.le_of_ble_eq_true rfl) dX3_init_30 ?_
  refine sm_sr hO (C := RX5) (T := TX5) (n := 8) rfl (by decide) rfl dX3_init_33 ?_
  refine sm_iinc (v := 13) hO 0 [(1, .int 13), (0, .ref a0_)] dX3_init_34 rfl rfl (by decide) rfl ?_
  refine sm_goto (tgt := 15) hO dX3_init_37 (by decide) ?_
  refine sm_iload_n hO 0 dX3_init_15 rfl rfl ?_
  refine sm_bipush (v := 16) hO dX3_init_16 rfl ?_
  refine sm_eq (if_neg (by decide : ¬ ((16 : Int32) ≤ (13 : Int32)))).symm (sm_icmp_ge (tgt := 40) hO dX3_init_18 (by decide) sm_bad ?_)
  refine sm_aload_n hO 1 dX3_init_21 rfl rfl ?_
  refine sm_gr hO fl_RX3_11 dX3_init_22 (fun a28 => ?_)
  refine sm_iload_n hO 0 dX3_init_25 rfl rfl ?_
  refine sm_new hO cn_RX3_9 (Nat.le_of_ble_eq_true rfl) (Nat.le_of_ble_eq_true rfl) dX3_init_26 (fun a29 => ?_)
  refine sm_dup hO dX3_init_29 rfl ?_
  refine sm_cn hO (ctX5_init l G a29) (by decide +kernel) kw_127 kw_75 ⟨by decide, by decide⟩ (by decide +kernel) kw_126 rfl rfl ⟨(Nat.le_of_ble_eq_true rfl), (Nat.le_of_ble_eq_true rfl)⟩ ⟨(Nat.le_of_ble_eq_true rfl), (Nat.le_of_ble_eq_true rfl)⟩ (Nat.le_of_ble_eq_true rfl) dX3_init_30 ?_
  refine sm_sr hO (C := RX5) (T := TX5) (n := 8) rfl (by decide) rfl dX3_init_33 ?_
  refine sm_iinc (v := 14) hO 0 [(1, .int 14), (0, .ref a0_)] dX3_init_34 rfl rfl (by decide) rfl ?_
  refine sm_goto (tgt := 15) hO dX3_init_37 (by decide) ?_
  refine sm_iload_n hO 0 dX3_init_15 rfl rfl ?_
  refine sm_bipush (v := 16) hO dX3_init_16 rfl ?_
  refine sm_eq (if_neg (by decide : ¬ ((16 : Int32) ≤ (14 : Int32)))).symm (sm_icmp_ge (tgt := 40) hO dX3_init_18 (by decide) sm_bad ?_)
  refine sm_aload_n hO 1 dX3_init_21 rfl rfl ?_
  refine sm_gr hO fl_RX3_11 dX3_init_22 (fun a30 => ?_)
  refine sm_iload_n hO 0 dX3_init_25 rfl rfl ?_
  refine sm_new hO cn_RX3_9 (Nat.le_of_ble_eq_true rfl) (Nat.le_of_ble_eq_true rfl) dX3_init_26 (fun a31 => ?_)
  refine sm_dup hO dX3_init_29 rfl ?_
  refine sm_cn hO (ctX5_init l G a31) (by decide +kernel) kw_127 kw_75 ⟨by decide, by decide⟩ (by decide +kernel) kw_126 rfl rfl ⟨(Nat.le_of_ble_eq_true rfl), (Nat.le_of_ble_eq_true rfl)⟩ ⟨(Nat.le_of_ble_eq_true rfl), (Nat.le_of_ble_eq_true rfl)⟩ (Nat.le_of_ble_eq_true rfl) dX3_init_30 ?_
  refine sm_sr hO (C := RX5) (T := TX5) (n := 8) rfl (by decide) rfl dX3_init_33 ?_
  refine sm_iinc (v := 15) hO 0 [(1, .int 15), (0, .ref a0_)] dX3_init_34 rfl rfl (by decide) rfl ?_
  refine sm_goto (tgt := 15) hO dX3_init_37 (by decide) ?_
  refine sm_iload_n hO 0 dX3_init_15 rfl rfl ?_
  refine sm_bipush (v := 16) hO dX3_init_16 rfl ?_
  refine sm_eq (if_neg (by decide : ¬ ((16 : Int32) ≤ (15 : Int32)))).symm (sm_icmp_ge (tgt := 40) hO dX3_init_18 (by decide) sm_bad ?_)
  refine sm_aload_n hO 1 dX3_init_21 rfl rfl ?_
  refine sm_gr hO fl_RX3_11 dX3_init_22 (fun a32 => ?_)
  refine sm_iload_n hO 0 dX3_init_25 rfl rfl ?_
  refine sm_new hO cn_RX3_9 (Nat.le_of_ble_eq_true rfl) (Nat.le_of_ble_eq_true rfl) dX3_init_26 (fun a33 => ?_)
  refine sm_dup hO dX3_init_29 rfl ?_
  refine sm_cn hO (ctX5_init l G a33) (by decide +kernel) kw_127 kw_75 ⟨by decide, by decide⟩ (by decide +kernel) kw_126 rfl rfl ⟨(Nat.le_of_ble_eq_true rfl), (Nat.le_of_ble_eq_true rfl)⟩ ⟨(Nat.le_of_ble_eq_true rfl), (Nat.le_of_ble_eq_true rfl)⟩ (Nat.le_of_ble_eq_true rfl) dX3_init_30 ?_
  refine sm_sr hO (C := RX5) (T := TX5) (n := 8) rfl (by decide) rfl dX3_init_33 ?_
  refine sm_iinc (v := 16) hO 0 [(1, .int 16), (0, .ref a0_)] dX3_init_34 rfl rfl (by decide) rfl ?_
  refine sm_goto (tgt := 15) hO dX3_init_37 (by decide) ?_
  refine sm_iload_n hO 0 dX3_init_15 rfl rfl ?_
  refine sm_bipush (v := 16) hO dX3_init_16 rfl ?_
  refine sm_eq (if_pos (by decide : ((16 : Int32) ≤ (16 : Int32)))).symm (sm_icmp_ge (tgt := 40) hO dX3_init_18 (by decide) ?_ sm_bad)
  exact sm_vret hO hr hk (Nat.le_of_ble_eq_true rfl) (Nat.le_of_ble_eq_true rfl) dX3_init_40
/-! DollCongress$Book.<init>()V -/
def pX0_init (a0_ : Nat) : MM Unit := m_na 0 15 (fun a1 => m_pv a0_ 0 0 (.ref a1) (m_na 0 15 (fun a2 => m_pv a0_ 0 1 (.ref a2) (m_ret ()))))
set_option maxRecDepth 100000 in
set_option maxHeartbeats 4000000 in
theorem ctX0_init (l : Launch) (G : cG) (a0_ : Nat) : Ct l G yX0_init cX0_init 1 none 1 12 2 30 [.ref a0_] c_vv (pX0_init a0_) := by
  refine Ct.of (lv := [(0, .ref a0_)]) (by decide) (Nat.le_of_ble_eq_true rfl) rfl (fun p e s m args below meth c hO hr hk hin => ?_)
  rw [pX0_init]
  refine sm_aload_n hO 0 dX0_init_0 rfl rfl ?_
  refine sm_objInit hO kw_191 kw_94 kw_95 (Nat.le_of_ble_eq_true rfl) (Nat.le_of_ble_eq_true rfl) dX0_init_1 ?_
  refine sm_aload_n hO 0 dX0_init_4 rfl rfl ?_
  refine sm_bipush (v := 15) hO dX0_init_5 rfl ?_
  refine sm_na (atype := .int) hO rfl rfl kw_122 (by decide) (by decide) (Nat.le_of_ble_eq_true rfl) (Nat.le_of_ble_eq_true rfl) (Nat.le_of_ble_eq_true rfl) dX0_init_7 (fun a1 => ?_)
  refine sm_pvF hO hin fl_RX0_9 fp_0_0 ⟨TX0, 3, rfl⟩ rfl rfl dX0_init_9 ?_
  refine sm_aload_n hO 0 dX0_init_12 rfl rfl ?_
  refine sm_bipush (v := 15) hO dX0_init_13 rfl ?_
  refine sm_na (atype := .int) hO rfl rfl kw_122 (by decide) (by decide) (Nat.le_of_ble_eq_true rfl) (Nat.le_of_ble_eq_true rfl) (Nat.le_of_ble_eq_true rfl) dX0_init_15 (fun a2 => ?_)
  refine sm_pvF hO hin fl_RX0_15 fp_0_1 ⟨TX0, 3, rfl⟩ rfl rfl dX0_init_17 ?_
  exact sm_vret hO hr hk (Nat.le_of_ble_eq_true rfl) (Nat.le_of_ble_eq_true rfl) dX0_init_20
/-! DollCongress$Mixings.<init>()V -/
def pX2_init (a0_ : Nat) : MM Unit := m_na 0 8 (fun a1 => m_pv a0_ 2 0 (.ref a1) (m_na 0 8 (fun a2 => m_pv a0_ 2 1 (.ref a2) (m_na 0 256 (fun a3 => m_pv a0_ 2 2 (.ref a3) (m_na 0 256 (fun a4 => m_pv a0_ 2 3 (.ref a4) (m_ret ()))))))))
set_option maxRecDepth 100000 in
set_option maxHeartbeats 4000000 in
theorem ctX2_init (l : Launch) (G : cG) (a0_ : Nat) : Ct l G yX2_init cX2_init 1 none 1 12 4 528 [.ref a0_] c_vv (pX2_init a0_) := by
  refine Ct.of (lv := [(0, .ref a0_)]) (by decide) (Nat.le_of_ble_eq_true rfl) rfl (fun p e s m args below meth c hO hr hk hin => ?_)
  rw [pX2_init]
  refine sm_aload_n hO 0 dX2_init_0 rfl rfl ?_
  refine sm_objInit hO kw_210 kw_94 kw_95 (Nat.le_of_ble_eq_true rfl) (Nat.le_of_ble_eq_true rfl) dX2_init_1 ?_
  refine sm_aload_n hO 0 dX2_init_4 rfl rfl ?_
  refine sm_bipush (v := 8) hO dX2_init_5 rfl ?_
  refine sm_na (atype := .int) hO rfl rfl kw_122 (by decide) (by decide) (Nat.le_of_ble_eq_true rfl) (Nat.le_of_ble_eq_true rfl) (Nat.le_of_ble_eq_true rfl) dX2_init_7 (fun a1 => ?_)
  refine sm_pvF hO hin fl_RX2_9 fp_2_0 ⟨TX2, 5, rfl⟩ rfl rfl dX2_init_9 ?_
  refine sm_aload_n hO 0 dX2_init_12 rfl rfl ?_
  refine sm_bipush (v := 8) hO dX2_init_13 rfl ?_
  refine sm_na (atype := .int) hO rfl rfl kw_122 (by decide) (by decide) (Nat.le_of_ble_eq_true rfl) (Nat.le_of_ble_eq_true rfl) (Nat.le_of_ble_eq_true rfl) dX2_init_15 (fun a2 => ?_)
  refine sm_pvF hO hin fl_RX2_15 fp_2_1 ⟨TX2, 5, rfl⟩ rfl rfl dX2_init_17 ?_
  refine sm_aload_n hO 0 dX2_init_20 rfl rfl ?_
  refine sm_sipush (v := 256) hO dX2_init_21 rfl ?_
  refine sm_na (atype := .int) hO rfl rfl kw_122 (by decide) (by decide) (Nat.le_of_ble_eq_true rfl) (Nat.le_of_ble_eq_true rfl) (Nat.le_of_ble_eq_true rfl) dX2_init_24 (fun a3 => ?_)
  refine sm_pvF hO hin fl_RX2_18 fp_2_2 ⟨TX2, 5, rfl⟩ rfl rfl dX2_init_26 ?_
  refine sm_aload_n hO 0 dX2_init_29 rfl rfl ?_
  refine sm_sipush (v := 256) hO dX2_init_30 rfl ?_
  refine sm_na (atype := .int) hO rfl rfl kw_122 (by decide) (by decide) (Nat.le_of_ble_eq_true rfl) (Nat.le_of_ble_eq_true rfl) (Nat.le_of_ble_eq_true rfl) dX2_init_33 (fun a4 => ?_)
  refine sm_pvF hO hin fl_RX2_21 fp_2_3 ⟨TX2, 5, rfl⟩ rfl rfl dX2_init_35 ?_
  exact sm_vret hO hr hk (Nat.le_of_ble_eq_true rfl) (Nat.le_of_ble_eq_true rfl) dX2_init_38
/-! DollCongress$Wants.<init>()V -/
def pX8_init (a0_ : Nat) : MM Unit := m_na 0 7 (fun a1 => m_pv a0_ 7 0 (.ref a1) (m_nm 8 256 (fun a2 => m_pv a0_ 7 1 (.ref a2) (m_ret ()))))
set_option maxRecDepth 100000 in
set_option maxHeartbeats 4000000 in
theorem ctX8_init (l : Launch) (G : cG) (a0_ : Nat) : Ct l G yX8_init cX8_init 1 none 1 12 10 2063 [.ref a0_] c_vv (pX8_init a0_) := by
  refine Ct.of (lv := [(0, .ref a0_)]) (by decide) (Nat.le_of_ble_eq_true rfl) rfl (fun p e s m args below meth c hO hr hk hin => ?_)
  rw [pX8_init]
  refine sm_aload_n hO 0 dX8_init_0 rfl rfl ?_
  refine sm_objInit hO kw_232 kw_94 kw_95 (Nat.le_of_ble_eq_true rfl) (Nat.le_of_ble_eq_true rfl) dX8_init_1 ?_
  refine sm_aload_n hO 0 dX8_init_4 rfl rfl ?_
  refine sm_bipush (v := 7) hO dX8_init_5 rfl ?_
  refine sm_na (atype := .int) hO rfl rfl kw_122 (by decide) (by decide) (Nat.le_of_ble_eq_true rfl) (Nat.le_of_ble_eq_true rfl) (Nat.le_of_ble_eq_true rfl) dX8_init_7 (fun a1 => ?_)
  refine sm_pvF hO hin fl_RX8_9 fp_7_0 ⟨TX8, 2, rfl⟩ rfl rfl dX8_init_9 ?_
  refine sm_aload_n hO 0 dX8_init_12 rfl rfl ?_
  refine sm_bipush (v := 8) hO dX8_init_13 rfl ?_
  refine sm_sipush (v := 256) hO dX8_init_15 rfl ?_
  refine sm_nm hO (n := 8) (k := 256) kw_233 kw_122 (by decide) (by decide) (by decide) (by decide) (Nat.le_of_ble_eq_true rfl) (Nat.le_of_ble_eq_true rfl) (Nat.le_of_ble_eq_true rfl) (Nat.le_of_ble_eq_true rfl) dX8_init_18 (fun a2 => ?_)
  refine sm_pvF hO hin fl_RX8_17 fp_7_1 ⟨TX8, 2, rfl⟩ rfl rfl dX8_init_22 ?_
  exact sm_vret hO hr hk (Nat.le_of_ble_eq_true rfl) (Nat.le_of_ble_eq_true rfl) dX8_init_25
/-! DollCongress$Roll.<init>()V -/
def pX4_init (a0_ : Nat) : MM Unit := m_na 0 7 (fun a1 => m_pv a0_ 4 0 (.ref a1) (m_na 0 8 (fun a2 => m_pv a0_ 4 1 (.ref a2) (m_na 0 8 (fun a3 => m_pv a0_ 4 2 (.ref a3) (m_na 0 8 (fun a4 => m_pv a0_ 4 3 (.ref a4) (m_na 0 128 (fun a5 => m_pv a0_ 4 4 (.ref a5) (m_ret ()))))))))))
set_option maxRecDepth 100000 in
set_option maxHeartbeats 4000000 in
theorem ctX4_init (l : Launch) (G : cG) (a0_ : Nat) : Ct l G yX4_init cX4_init 1 none 1 12 5 159 [.ref a0_] c_vv (pX4_init a0_) := by
  refine Ct.of (lv := [(0, .ref a0_)]) (by decide) (Nat.le_of_ble_eq_true rfl) rfl (fun p e s m args below meth c hO hr hk hin => ?_)
  rw [pX4_init]
  refine sm_aload_n hO 0 dX4_init_0 rfl rfl ?_
  refine sm_objInit hO kw_247 kw_94 kw_95 (Nat.le_of_ble_eq_true rfl) (Nat.le_of_ble_eq_true rfl) dX4_init_1 ?_
  refine sm_aload_n hO 0 dX4_init_4 rfl rfl ?_
  refine sm_bipush (v := 7) hO dX4_init_5 rfl ?_
  refine sm_na (atype := .int) hO rfl rfl kw_122 (by decide) (by decide) (Nat.le_of_ble_eq_true rfl) (Nat.le_of_ble_eq_true rfl) (Nat.le_of_ble_eq_true rfl) dX4_init_7 (fun a1 => ?_)
  refine sm_pvF hO hin fl_RX4_9 fp_4_0 ⟨TX4, 11, rfl⟩ rfl rfl dX4_init_9 ?_
  refine sm_aload_n hO 0 dX4_init_12 rfl rfl ?_
  refine sm_bipush (v := 8) hO dX4_init_13 rfl ?_
  refine sm_na (atype := .int) hO rfl rfl kw_122 (by decide) (by decide) (Nat.le_of_ble_eq_true rfl) (Nat.le_of_ble_eq_true rfl) (Nat.le_of_ble_eq_true rfl) dX4_init_15 (fun a2 => ?_)
  refine sm_pvF hO hin fl_RX4_15 fp_4_1 ⟨TX4, 11, rfl⟩ rfl rfl dX4_init_17 ?_
  refine sm_aload_n hO 0 dX4_init_20 rfl rfl ?_
  refine sm_bipush (v := 8) hO dX4_init_21 rfl ?_
  refine sm_na (atype := .int) hO rfl rfl kw_122 (by decide) (by decide) (Nat.le_of_ble_eq_true rfl) (Nat.le_of_ble_eq_true rfl) (Nat.le_of_ble_eq_true rfl) dX4_init_23 (fun a3 => ?_)
  refine sm_pvF hO hin fl_RX4_18 fp_4_2 ⟨TX4, 11, rfl⟩ rfl rfl dX4_init_25 ?_
  refine sm_aload_n hO 0 dX4_init_28 rfl rfl ?_
  refine sm_bipush (v := 8) hO dX4_init_29 rfl ?_
  refine sm_na (atype := .int) hO rfl rfl kw_122 (by decide) (by decide) (Nat.le_of_ble_eq_true rfl) (Nat.le_of_ble_eq_true rfl) (Nat.le_of_ble_eq_true rfl) dX4_init_31 (fun a4 => ?_)
  refine sm_pvF hO hin fl_RX4_21 fp_4_3 ⟨TX4, 11, rfl⟩ rfl rfl dX4_init_33 ?_
  refine sm_aload_n hO 0 dX4_init_36 rfl rfl ?_
  refine sm_sipush (v := 128) hO dX4_init_37 rfl ?_
  refine sm_na (atype := .int) hO rfl rfl kw_122 (by decide) (by decide) (Nat.le_of_ble_eq_true rfl) (Nat.le_of_ble_eq_true rfl) (Nat.le_of_ble_eq_true rfl) dX4_init_40 (fun a5 => ?_)
  refine sm_pvF hO hin fl_RX4_24 fp_4_4 ⟨TX4, 11, rfl⟩ rfl rfl dX4_init_42 ?_
  exact sm_vret hO hr hk (Nat.le_of_ble_eq_true rfl) (Nat.le_of_ble_eq_true rfl) dX4_init_45
/-! DollCongress$Image.<init>()V -/
def pX1_init (a0_ : Nat) : MM Unit := m_new 5 [.null, .null, .null, .null, .int 0, .int 0, .int 0, .int 0] (fun a1 => m_bind (pX5_init a1) (fun _ => m_pv a0_ 1 0 (.ref a1) (m_ret ())))
set_option maxRecDepth 100000 in
set_option maxHeartbeats 4000000 in
theorem ctX1_init (l : Launch) (G : cG) (a0_ : Nat) : Ct l G yX1_init cX1_init 1 none 2 32 5 40 [.ref a0_] c_vv (pX1_init a0_) := by
  refine Ct.of (lv := [(0, .ref a0_)]) (by decide) (Nat.le_of_ble_eq_true rfl) rfl (fun p e s m args below meth c hO hr hk hin => ?_)
  rw [pX1_init]
  refine sm_aload_n hO 0 dX1_init_0 rfl rfl ?_
  refine sm_objInit hO kw_313 kw_94 kw_95 (Nat.le_of_ble_eq_true rfl) (Nat.le_of_ble_eq_true rfl) dX1_init_1 ?_
  refine sm_aload_n hO 0 dX1_init_4 rfl rfl ?_
  refine sm_new hO cn_RX1_7 (Nat.le_of_ble_eq_true rfl) (Nat.le_of_ble_eq_true rfl) dX1_init_5 (fun a1 => ?_)
  refine sm_dup hO dX1_init_8 rfl ?_
  refine sm_cn hO (ctX5_init l G a1) (by decide +kernel) kw_127 kw_75 ⟨by decide, by decide⟩ (by decide +kernel) kw_126 rfl rfl ⟨(Nat.le_of_ble_eq_true rfl), (Nat.le_of_ble_eq_true rfl)⟩ ⟨(Nat.le_of_ble_eq_true rfl), (Nat.le_of_ble_eq_true rfl)⟩ (Nat.le_of_ble_eq_true rfl) dX1_init_9 ?_
  refine sm_pvF hO hin fl_RX1_10 fp_1_0 ⟨TX1, 3, rfl⟩ rfl rfl dX1_init_12 ?_
  exact sm_vret hO hr hk (Nat.le_of_ble_eq_true rfl) (Nat.le_of_ble_eq_true rfl) dX1_init_15
/-! DollCongress.<init>()V -/
def pX9_init (a0_ : Nat) : MM Unit := m_new 6 [.null, .int 0, .int 0, .int 0, .int 0] (fun a1 => m_bind (pX7_init a1) (fun _ => m_pv a0_ 8 0 (.ref a1) (m_new 5 [.null, .null, .null, .null, .int 0, .int 0, .int 0, .int 0] (fun a2 => m_bind (pX5_init a2) (fun _ => m_pv a0_ 8 1 (.ref a2) (m_new 3 [.null, .int 0, .int 0] (fun a3 => m_bind (pX3_init a3) (fun _ => m_pv a0_ 8 2 (.ref a3) (m_new 0 [.null, .null, .int 0] (fun a4 => m_bind (pX0_init a4) (fun _ => m_pv a0_ 8 3 (.ref a4) (m_nr 2 2 (fun a5 => m_pv a0_ 8 4 (.ref a5) (m_new 2 [.null, .null, .null, .null, .int 0] (fun a6 => m_bind (pX2_init a6) (fun _ => m_pv a0_ 8 5 (.ref a6) (m_new 7 [.null, .null] (fun a7 => m_bind (pX8_init a7) (fun _ => m_pv a0_ 8 6 (.ref a7) (m_new 4 [.null, .null, .null, .null, .null, .int 0, .int 0, .int 0, .int 0, .int 0, .int 0] (fun a8 => m_bind (pX4_init a8) (fun _ => m_pv a0_ 8 7 (.ref a8) (m_new 4 [.null, .null, .null, .null, .null, .int 0, .int 0, .int 0, .int 0, .int 0, .int 0] (fun a9 => m_bind (pX4_init a9) (fun _ => m_pv a0_ 8 8 (.ref a9) (m_gr a0_ 8 4 (fun a10 => m_new 1 [.null, .int 0, .int 0] (fun a11 => m_bind (pX1_init a11) (fun _ => m_sr 2 a10 (0 : Int32) a11 1 (m_gr a0_ 8 4 (fun a12 => m_new 1 [.null, .int 0, .int 0] (fun a13 => m_bind (pX1_init a13) (fun _ => m_sr 2 a12 (1 : Int32) a13 1 (m_ret ()))))))))))))))))))))))))))))))))))
set_option maxRecDepth 100000 in
set_option maxHeartbeats 4000000 in
theorem ctX9_init (l : Launch) (G : cG) (a0_ : Nat) : Ct l G yX9_init cX9_init 2 none 3 53 133 4003 [.ref a0_] c_vv (pX9_init a0_) := by
  refine Ct.of (lv := [(0, .ref a0_)]) (by decide) (Nat.le_of_ble_eq_true rfl) rfl (fun p e s m args below meth c hO hr hk hin => ?_)
  rw [pX9_init]
  refine sm_aload_n hO 0 dX9_init_0 rfl rfl ?_
  refine sm_objInit hO kw_93 kw_94 kw_95 (Nat.le_of_ble_eq_true rfl) (Nat.le_of_ble_eq_true rfl) dX9_init_1 ?_
  refine sm_aload_n hO 0 dX9_init_4 rfl rfl ?_
  refine sm_new hO cn_RX9_7 (Nat.le_of_ble_eq_true rfl) (Nat.le_of_ble_eq_true rfl) dX9_init_5 (fun a1 => ?_)
  refine sm_dup hO dX9_init_8 rfl ?_
  refine sm_cn hO (ctX7_init l G a1) (by decide +kernel) kw_100 kw_74 ⟨by decide, by decide⟩ (by decide +kernel) kw_99 rfl rfl ⟨(Nat.le_of_ble_eq_true rfl), (Nat.le_of_ble_eq_true rfl)⟩ ⟨(Nat.le_of_ble_eq_true rfl), (Nat.le_of_ble_eq_true rfl)⟩ (Nat.le_of_ble_eq_true rfl) dX9_init_9 ?_
  refine sm_pvF hO hin fl_RX9_10 fp_8_0 ⟨TX9, 10, rfl⟩ rfl rfl dX9_init_12 ?_
  refine sm_aload_n hO 0 dX9_init_15 rfl rfl ?_
  refine sm_new hO cn_RX9_16 (Nat.le_of_ble_eq_true rfl) (Nat.le_of_ble_eq_true rfl) dX9_init_16 (fun a2 => ?_)
  refine sm_dup hO dX9_init_19 rfl ?_
  refine sm_cn hO (ctX5_init l G a2) (by decide +kernel) kw_127 kw_75 ⟨by decide, by decide⟩ (by decide +kernel) kw_126 rfl rfl ⟨(Nat.le_of_ble_eq_true rfl), (Nat.le_of_ble_eq_true rfl)⟩ ⟨(Nat.le_of_ble_eq_true rfl), (Nat.le_of_ble_eq_true rfl)⟩ (Nat.le_of_ble_eq_true rfl) dX9_init_20 ?_
  refine sm_pvF hO hin fl_RX9_19 fp_8_1 ⟨TX9, 10, rfl⟩ rfl rfl dX9_init_23 ?_
  refine sm_aload_n hO 0 dX9_init_26 rfl rfl ?_
  refine sm_new hO cn_RX9_23 (Nat.le_of_ble_eq_true rfl) (Nat.le_of_ble_eq_true rfl) dX9_init_27 (fun a3 => ?_)
  refine sm_dup hO dX9_init_30 rfl ?_
  refine sm_ci hO (ctX3_init l G a3) cw_RX9_25 kw_169 rfl rfl rfl ⟨(Nat.le_of_ble_eq_true rfl), (Nat.le_of_ble_eq_true rfl)⟩ ⟨(Nat.le_of_ble_eq_true rfl), (Nat.le_of_ble_eq_true rfl)⟩ (Nat.le_of_ble_eq_true rfl) dX9_init_31 ?_
  refine sm_pvF hO hin fl_RX9_26 fp_8_2 ⟨TX9, 10, rfl⟩ rfl rfl dX9_init_34 ?_
  refine sm_aload_n hO 0 dX9_init_37 rfl rfl ?_
  refine sm_new hO cn_RX9_30 (Nat.le_of_ble_eq_true rfl) (Nat.le_of_ble_eq_true rfl) dX9_init_38 (fun a4 => ?_)
  refine sm_dup hO dX9_init_41 rfl ?_
  refine sm_cn hO (ctX0_init l G a4) (by decide +kernel) kw_190 kw_77 ⟨by decide, by decide⟩ (by decide +kernel) kw_189 rfl rfl ⟨(Nat.le_of_ble_eq_true rfl), (Nat.le_of_ble_eq_true rfl)⟩ ⟨(Nat.le_of_ble_eq_true rfl), (Nat.le_of_ble_eq_true rfl)⟩ (Nat.le_of_ble_eq_true rfl) dX9_init_42 ?_
  refine sm_pvF hO hin fl_RX9_33 fp_8_3 ⟨TX9, 10, rfl⟩ rfl rfl dX9_init_45 ?_
  refine sm_aload_n hO 0 dX9_init_48 rfl rfl ?_
  refine sm_iconst (v := 2) hO dX9_init_49 rfl ?_
  refine sm_nr hO (C := RX1) rfl hO.2.2.2.2.2.2.2.1 kw_203 (by decide) (by decide) (Nat.le_of_ble_eq_true rfl) (Nat.le_of_ble_eq_true rfl) (Nat.le_of_ble_eq_true rfl) dX9_init_50 (fun a5 => ?_)
  refine sm_pvF hO hin fl_RX9_39 fp_8_4 ⟨TX9, 10, rfl⟩ rfl rfl dX9_init_53 ?_
  refine sm_aload_n hO 0 dX9_init_56 rfl rfl ?_
  refine sm_new hO cn_RX9_43 (Nat.le_of_ble_eq_true rfl) (Nat.le_of_ble_eq_true rfl) dX9_init_57 (fun a6 => ?_)
  refine sm_dup hO dX9_init_60 rfl ?_
  refine sm_cn hO (ctX2_init l G a6) (by decide +kernel) kw_209 kw_78 ⟨by decide, by decide⟩ (by decide +kernel) kw_208 rfl rfl ⟨(Nat.le_of_ble_eq_true rfl), (Nat.le_of_ble_eq_true rfl)⟩ ⟨(Nat.le_of_ble_eq_true rfl), (Nat.le_of_ble_eq_true rfl)⟩ (Nat.le_of_ble_eq_true rfl) dX9_init_61 ?_
  refine sm_pvF hO hin fl_RX9_46 fp_8_5 ⟨TX9, 10, rfl⟩ rfl rfl dX9_init_64 ?_
  refine sm_aload_n hO 0 dX9_init_67 rfl rfl ?_
  refine sm_new hO cn_RX9_50 (Nat.le_of_ble_eq_true rfl) (Nat.le_of_ble_eq_true rfl) dX9_init_68 (fun a7 => ?_)
  refine sm_dup hO dX9_init_71 rfl ?_
  refine sm_cn hO (ctX8_init l G a7) (by decide +kernel) kw_231 kw_79 ⟨by decide, by decide⟩ (by decide +kernel) kw_230 rfl rfl ⟨(Nat.le_of_ble_eq_true rfl), (Nat.le_of_ble_eq_true rfl)⟩ ⟨(Nat.le_of_ble_eq_true rfl), (Nat.le_of_ble_eq_true rfl)⟩ (Nat.le_of_ble_eq_true rfl) dX9_init_72 ?_
  refine sm_pvF hO hin fl_RX9_53 fp_8_6 ⟨TX9, 10, rfl⟩ rfl rfl dX9_init_75 ?_
  refine sm_aload_n hO 0 dX9_init_78 rfl rfl ?_
  refine sm_new hO cn_RX9_57 (Nat.le_of_ble_eq_true rfl) (Nat.le_of_ble_eq_true rfl) dX9_init_79 (fun a8 => ?_)
  refine sm_dup hO dX9_init_82 rfl ?_
  refine sm_cn hO (ctX4_init l G a8) (by decide +kernel) kw_246 kw_80 ⟨by decide, by decide⟩ (by decide +kernel) kw_245 rfl rfl ⟨(Nat.le_of_ble_eq_true rfl), (Nat.le_of_ble_eq_true rfl)⟩ ⟨(Nat.le_of_ble_eq_true rfl), (Nat.le_of_ble_eq_true rfl)⟩ (Nat.le_of_ble_eq_true rfl) dX9_init_83 ?_
  refine sm_pv hO fl_RX9_60 fp_8_7 rfl rfl dX9_init_86 ?_
  refine sm_aload_n hO 0 dX9_init_89 rfl rfl ?_
  refine sm_new hO cn_RX9_57 (Nat.le_of_ble_eq_true rfl) (Nat.le_of_ble_eq_true rfl) dX9_init_90 (fun a9 => ?_)
  refine sm_dup hO dX9_init_93 rfl ?_
  refine sm_cn hO (ctX4_init l G a9) (by decide +kernel) kw_246 kw_80 ⟨by decide, by decide⟩ (by decide +kernel) kw_245 rfl rfl ⟨(Nat.le_of_ble_eq_true rfl), (Nat.le_of_ble_eq_true rfl)⟩ ⟨(Nat.le_of_ble_eq_true rfl), (Nat.le_of_ble_eq_true rfl)⟩ (Nat.le_of_ble_eq_true rfl) dX9_init_94 ?_
  refine sm_pv hO fl_RX9_64 fp_8_8 rfl rfl dX9_init_97 ?_
  refine sm_iconst (v := 0) hO dX9_init_100 rfl ?_
  refine sm_istore_n hO [(1, .int 0), (0, .ref a0_)] dX9_init_101 rfl (by decide) rfl ?_
  refine sm_iload_n hO 0 dX9_init_102 rfl rfl ?_
  refine sm_iconst (v := 2) hO dX9_init_103 rfl ?_
  refine sm_eq (if_neg (by decide : ¬ ((2 : Int32) ≤ (0 : Int32)))).symm (sm_icmp_ge (tgt := 126) hO dX9_init_104 (by decide) sm_bad ?_)
  refine sm_aload_n hO 1 dX9_init_107 rfl rfl ?_
  refine sm_gr hO fl_RX9_39 dX9_init_108 (fun a10 => ?_)
  refine sm_iload_n hO 0 dX9_init_111 rfl rfl ?_
  refine sm_new hO cn_RX9_37 (Nat.le_of_ble_eq_true rfl) (Nat.le_of_ble_eq_true rfl) dX9_init_112 (fun a11 => ?_)
  refine sm_dup hO dX9_init_115 rfl ?_
  refine sm_cn hO (ctX1_init l G a11) (by decide +kernel) kw_312 kw_81 ⟨by decide, by decide⟩ (by decide +kernel) kw_311 rfl rfl ⟨(Nat.le_of_ble_eq_true rfl), (Nat.le_of_ble_eq_true rfl)⟩ ⟨(Nat.le_of_ble_eq_true rfl), (Nat.le_of_ble_eq_true rfl)⟩ (Nat.le_of_ble_eq_true rfl) dX9_init_116 ?_
  refine sm_sr hO (C := RX1) (T := TX1) (n := 3) rfl (by decide) rfl dX9_init_119 ?_
  refine sm_iinc (v := 1) hO 0 [(1, .int 1), (0, .ref a0_)] dX9_init_120 rfl rfl (by decide) rfl ?_
  refine sm_goto (tgt := 102) hO dX9_init_123 (by decide) ?_
  refine sm_iload_n hO 0 dX9_init_102 rfl rfl ?_
  refine sm_iconst (v := 2) hO dX9_init_103 rfl ?_
  refine sm_eq (if_neg (by decide : ¬ ((2 : Int32) ≤ (1 : Int32)))).symm (sm_icmp_ge (tgt := 126) hO dX9_init_104 (by decide) sm_bad ?_)
  refine sm_aload_n hO 1 dX9_init_107 rfl rfl ?_
  refine sm_gr hO fl_RX9_39 dX9_init_108 (fun a12 => ?_)
  refine sm_iload_n hO 0 dX9_init_111 rfl rfl ?_
  refine sm_new hO cn_RX9_37 (Nat.le_of_ble_eq_true rfl) (Nat.le_of_ble_eq_true rfl) dX9_init_112 (fun a13 => ?_)
  refine sm_dup hO dX9_init_115 rfl ?_
  refine sm_cn hO (ctX1_init l G a13) (by decide +kernel) kw_312 kw_81 ⟨by decide, by decide⟩ (by decide +kernel) kw_311 rfl rfl ⟨(Nat.le_of_ble_eq_true rfl), (Nat.le_of_ble_eq_true rfl)⟩ ⟨(Nat.le_of_ble_eq_true rfl), (Nat.le_of_ble_eq_true rfl)⟩ (Nat.le_of_ble_eq_true rfl) dX9_init_116 ?_
  refine sm_sr hO (C := RX1) (T := TX1) (n := 3) rfl (by decide) rfl dX9_init_119 ?_
  refine sm_iinc (v := 2) hO 0 [(1, .int 2), (0, .ref a0_)] dX9_init_120 rfl rfl (by decide) rfl ?_
  refine sm_goto (tgt := 102) hO dX9_init_123 (by decide) ?_
  refine sm_iload_n hO 0 dX9_init_102 rfl rfl ?_
  refine sm_iconst (v := 2) hO dX9_init_103 rfl ?_
  refine sm_eq (if_pos (by decide : ((2 : Int32) ≤ (2 : Int32)))).symm (sm_icmp_ge (tgt := 126) hO dX9_init_104 (by decide) ?_ sm_bad)
  exact sm_vret hO hr hk (Nat.le_of_ble_eq_true rfl) (Nat.le_of_ble_eq_true rfl) dX9_init_126
/-! DollCongressModel.<init>()V -/
def pX10_init (a0_ : Nat) : MM Unit := m_na 0 7 (fun a1 => m_pv a0_ 9 1 (.ref a1) (m_na 0 8 (fun a2 => m_pv a0_ 9 3 (.ref a2) (m_na 0 8 (fun a3 => m_pv a0_ 9 4 (.ref a3) (m_na 0 8 (fun a4 => m_pv a0_ 9 5 (.ref a4) (m_na 0 36 (fun a5 => m_pv a0_ 9 8 (.ref a5) (m_na 0 240 (fun a6 => m_pv a0_ 9 10 (.ref a6) (m_pv a0_ 9 12 (.int ((-1))) (m_na 0 7 (fun a7 => m_pv a0_ 9 17 (.ref a7) (m_na 0 8 (fun a8 => m_pv a0_ 9 19 (.ref a8) (m_na 0 8 (fun a9 => m_pv a0_ 9 20 (.ref a9) (m_na 0 8 (fun a10 => m_pv a0_ 9 21 (.ref a10) (m_na 0 576 (fun a11 => m_pv a0_ 9 26 (.ref a11) (m_na 0 36 (fun a12 => m_pv a0_ 9 27 (.ref a12) (m_na 0 256 (fun a13 => m_pv a0_ 9 28 (.ref a13) (m_na 1 256 (fun a14 => m_pv a0_ 9 29 (.ref a14) (m_na 0 2048 (fun a15 => m_pv a0_ 9 30 (.ref a15) (m_na 0 15 (fun a16 => m_pv a0_ 9 32 (.ref a16) (m_na 0 15 (fun a17 => m_pv a0_ 9 33 (.ref a17) (m_na 0 74 (fun a18 => m_pv a0_ 9 34 (.ref a18) (m_na 1 2 (fun a19 => m_pv a0_ 9 35 (.ref a19) (m_pv a0_ 9 0 (.int 0) (m_ret ()))))))))))))))))))))))))))))))))))))))))
set_option maxRecDepth 100000 in
set_option maxHeartbeats 4000000 in
theorem ctX10_init (l : Launch) (G : cG) (a0_ : Nat) : Ct l G yX10_init cX10_init 1 none 1 12 19 3616 [.ref a0_] c_vv (pX10_init a0_) := by
  refine Ct.of (lv := [(0, .ref a0_)]) (by decide) (Nat.le_of_ble_eq_true rfl) rfl (fun p e s m args below meth c hO hr hk hin => ?_)
  rw [pX10_init]
  refine sm_aload_n hO 0 dX10_init_0 rfl rfl ?_
  refine sm_objInit hO kw_806 kw_94 kw_95 (Nat.le_of_ble_eq_true rfl) (Nat.le_of_ble_eq_true rfl) dX10_init_1 ?_
  refine sm_aload_n hO 0 dX10_init_4 rfl rfl ?_
  refine sm_bipush (v := 7) hO dX10_init_5 rfl ?_
  refine sm_na (atype := .int) hO rfl rfl kw_122 (by decide) (by decide) (Nat.le_of_ble_eq_true rfl) (Nat.le_of_ble_eq_true rfl) (Nat.le_of_ble_eq_true rfl) dX10_init_7 (fun a1 => ?_)
  refine sm_pvF hO hin fl_RX10_7 fp_9_1 ⟨TX10, 36, rfl⟩ rfl rfl dX10_init_9 ?_
  refine sm_aload_n hO 0 dX10_init_12 rfl rfl ?_
  refine sm_bipush (v := 8) hO dX10_init_13 rfl ?_
  refine sm_na (atype := .int) hO rfl rfl kw_122 (by decide) (by decide) (Nat.le_of_ble_eq_true rfl) (Nat.le_of_ble_eq_true rfl) (Nat.le_of_ble_eq_true rfl) dX10_init_15 (fun a2 => ?_)
  refine sm_pvF hO hin fl_RX10_13 fp_9_3 ⟨TX10, 36, rfl⟩ rfl rfl dX10_init_17 ?_
  refine sm_aload_n hO 0 dX10_init_20 rfl rfl ?_
  refine sm_bipush (v := 8) hO dX10_init_21 rfl ?_
  refine sm_na (atype := .int) hO rfl rfl kw_122 (by decide) (by decide) (Nat.le_of_ble_eq_true rfl) (Nat.le_of_ble_eq_true rfl) (Nat.le_of_ble_eq_true rfl) dX10_init_23 (fun a3 => ?_)
  refine sm_pvF hO hin fl_RX10_16 fp_9_4 ⟨TX10, 36, rfl⟩ rfl rfl dX10_init_25 ?_
  refine sm_aload_n hO 0 dX10_init_28 rfl rfl ?_
  refine sm_bipush (v := 8) hO dX10_init_29 rfl ?_
  refine sm_na (atype := .int) hO rfl rfl kw_122 (by decide) (by decide) (Nat.le_of_ble_eq_true rfl) (Nat.le_of_ble_eq_true rfl) (Nat.le_of_ble_eq_true rfl) dX10_init_31 (fun a4 => ?_)
  refine sm_pvF hO hin fl_RX10_19 fp_9_5 ⟨TX10, 36, rfl⟩ rfl rfl dX10_init_33 ?_
  refine sm_aload_n hO 0 dX10_init_36 rfl rfl ?_
  refine sm_bipush (v := 36) hO dX10_init_37 rfl ?_
  refine sm_na (atype := .int) hO rfl rfl kw_122 (by decide) (by decide) (Nat.le_of_ble_eq_true rfl) (Nat.le_of_ble_eq_true rfl) (Nat.le_of_ble_eq_true rfl) dX10_init_39 (fun a5 => ?_)
  refine sm_pvF hO hin fl_RX10_22 fp_9_8 ⟨TX10, 36, rfl⟩ rfl rfl dX10_init_41 ?_
  refine sm_aload_n hO 0 dX10_init_44 rfl rfl ?_
  refine sm_sipush (v := 240) hO dX10_init_45 rfl ?_
  refine sm_na (atype := .int) hO rfl rfl kw_122 (by decide) (by decide) (Nat.le_of_ble_eq_true rfl) (Nat.le_of_ble_eq_true rfl) (Nat.le_of_ble_eq_true rfl) dX10_init_48 (fun a6 => ?_)
  refine sm_pvF hO hin fl_RX10_25 fp_9_10 ⟨TX10, 36, rfl⟩ rfl rfl dX10_init_50 ?_
  refine sm_aload_n hO 0 dX10_init_53 rfl rfl ?_
  refine sm_iconst (v := (-1)) hO dX10_init_54 rfl ?_
  refine sm_pv hO fl_RX10_28 fp_9_12 rfl rfl dX10_init_55 ?_
  refine sm_aload_n hO 0 dX10_init_58 rfl rfl ?_
  refine sm_bipush (v := 7) hO dX10_init_59 rfl ?_
  refine sm_na (atype := .int) hO rfl rfl kw_122 (by decide) (by decide) (Nat.le_of_ble_eq_true rfl) (Nat.le_of_ble_eq_true rfl) (Nat.le_of_ble_eq_true rfl) dX10_init_61 (fun a7 => ?_)
  refine sm_pvF hO hin fl_RX10_32 fp_9_17 ⟨TX10, 36, rfl⟩ rfl rfl dX10_init_63 ?_
  refine sm_aload_n hO 0 dX10_init_66 rfl rfl ?_
  refine sm_bipush (v := 8) hO dX10_init_67 rfl ?_
  refine sm_na (atype := .int) hO rfl rfl kw_122 (by decide) (by decide) (Nat.le_of_ble_eq_true rfl) (Nat.le_of_ble_eq_true rfl) (Nat.le_of_ble_eq_true rfl) dX10_init_69 (fun a8 => ?_)
  refine sm_pvF hO hin fl_RX10_35 fp_9_19 ⟨TX10, 36, rfl⟩ rfl rfl dX10_init_71 ?_
  refine sm_aload_n hO 0 dX10_init_74 rfl rfl ?_
  refine sm_bipush (v := 8) hO dX10_init_75 rfl ?_
  refine sm_na (atype := .int) hO rfl rfl kw_122 (by decide) (by decide) (Nat.le_of_ble_eq_true rfl) (Nat.le_of_ble_eq_true rfl) (Nat.le_of_ble_eq_true rfl) dX10_init_77 (fun a9 => ?_)
  refine sm_pvF hO hin fl_RX10_38 fp_9_20 ⟨TX10, 36, rfl⟩ rfl rfl dX10_init_79 ?_
  refine sm_aload_n hO 0 dX10_init_82 rfl rfl ?_
  refine sm_bipush (v := 8) hO dX10_init_83 rfl ?_
  refine sm_na (atype := .int) hO rfl rfl kw_122 (by decide) (by decide) (Nat.le_of_ble_eq_true rfl) (Nat.le_of_ble_eq_true rfl) (Nat.le_of_ble_eq_true rfl) dX10_init_85 (fun a10 => ?_)
  refine sm_pvF hO hin fl_RX10_41 fp_9_21 ⟨TX10, 36, rfl⟩ rfl rfl dX10_init_87 ?_
  refine sm_aload_n hO 0 dX10_init_90 rfl rfl ?_
  refine sm_sipush (v := 576) hO dX10_init_91 rfl ?_
  refine sm_na (atype := .int) hO rfl rfl kw_122 (by decide) (by decide) (Nat.le_of_ble_eq_true rfl) (Nat.le_of_ble_eq_true rfl) (Nat.le_of_ble_eq_true rfl) dX10_init_94 (fun a11 => ?_)
  refine sm_pvF hO hin fl_RX10_44 fp_9_26 ⟨TX10, 36, rfl⟩ rfl rfl dX10_init_96 ?_
  refine sm_aload_n hO 0 dX10_init_99 rfl rfl ?_
  refine sm_bipush (v := 36) hO dX10_init_100 rfl ?_
  refine sm_na (atype := .int) hO rfl rfl kw_122 (by decide) (by decide) (Nat.le_of_ble_eq_true rfl) (Nat.le_of_ble_eq_true rfl) (Nat.le_of_ble_eq_true rfl) dX10_init_102 (fun a12 => ?_)
  refine sm_pvF hO hin fl_RX10_47 fp_9_27 ⟨TX10, 36, rfl⟩ rfl rfl dX10_init_104 ?_
  refine sm_aload_n hO 0 dX10_init_107 rfl rfl ?_
  refine sm_sipush (v := 256) hO dX10_init_108 rfl ?_
  refine sm_na (atype := .int) hO rfl rfl kw_122 (by decide) (by decide) (Nat.le_of_ble_eq_true rfl) (Nat.le_of_ble_eq_true rfl) (Nat.le_of_ble_eq_true rfl) dX10_init_111 (fun a13 => ?_)
  refine sm_pvF hO hin fl_RX10_50 fp_9_28 ⟨TX10, 36, rfl⟩ rfl rfl dX10_init_113 ?_
  refine sm_aload_n hO 0 dX10_init_116 rfl rfl ?_
  refine sm_sipush (v := 256) hO dX10_init_117 rfl ?_
  refine sm_na (atype := .boolean) hO rfl rfl kw_916 (by decide) (by decide) (Nat.le_of_ble_eq_true rfl) (Nat.le_of_ble_eq_true rfl) (Nat.le_of_ble_eq_true rfl) dX10_init_120 (fun a14 => ?_)
  refine sm_pvF hO hin fl_RX10_53 fp_9_29 ⟨TX10, 36, rfl⟩ rfl rfl dX10_init_122 ?_
  refine sm_aload_n hO 0 dX10_init_125 rfl rfl ?_
  refine sm_sipush (v := 2048) hO dX10_init_126 rfl ?_
  refine sm_na (atype := .int) hO rfl rfl kw_122 (by decide) (by decide) (Nat.le_of_ble_eq_true rfl) (Nat.le_of_ble_eq_true rfl) (Nat.le_of_ble_eq_true rfl) dX10_init_129 (fun a15 => ?_)
  refine sm_pvF hO hin fl_RX10_57 fp_9_30 ⟨TX10, 36, rfl⟩ rfl rfl dX10_init_131 ?_
  refine sm_aload_n hO 0 dX10_init_134 rfl rfl ?_
  refine sm_bipush (v := 15) hO dX10_init_135 rfl ?_
  refine sm_na (atype := .int) hO rfl rfl kw_122 (by decide) (by decide) (Nat.le_of_ble_eq_true rfl) (Nat.le_of_ble_eq_true rfl) (Nat.le_of_ble_eq_true rfl) dX10_init_137 (fun a16 => ?_)
  refine sm_pvF hO hin fl_RX10_60 fp_9_32 ⟨TX10, 36, rfl⟩ rfl rfl dX10_init_139 ?_
  refine sm_aload_n hO 0 dX10_init_142 rfl rfl ?_
  refine sm_bipush (v := 15) hO dX10_init_143 rfl ?_
  refine sm_na (atype := .int) hO rfl rfl kw_122 (by decide) (by decide) (Nat.le_of_ble_eq_true rfl) (Nat.le_of_ble_eq_true rfl) (Nat.le_of_ble_eq_true rfl) dX10_init_145 (fun a17 => ?_)
  refine sm_pvF hO hin fl_RX10_63 fp_9_33 ⟨TX10, 36, rfl⟩ rfl rfl dX10_init_147 ?_
  refine sm_aload_n hO 0 dX10_init_150 rfl rfl ?_
  refine sm_bipush (v := 74) hO dX10_init_151 rfl ?_
  refine sm_na (atype := .int) hO rfl rfl kw_122 (by decide) (by decide) (Nat.le_of_ble_eq_true rfl) (Nat.le_of_ble_eq_true rfl) (Nat.le_of_ble_eq_true rfl) dX10_init_153 (fun a18 => ?_)
  refine sm_pvF hO hin fl_RX10_66 fp_9_34 ⟨TX10, 36, rfl⟩ rfl rfl dX10_init_155 ?_
  refine sm_aload_n hO 0 dX10_init_158 rfl rfl ?_
  refine sm_iconst (v := 2) hO dX10_init_159 rfl ?_
  refine sm_na (atype := .boolean) hO rfl rfl kw_916 (by decide) (by decide) (Nat.le_of_ble_eq_true rfl) (Nat.le_of_ble_eq_true rfl) (Nat.le_of_ble_eq_true rfl) dX10_init_160 (fun a19 => ?_)
  refine sm_pvF hO hin fl_RX10_69 fp_9_35 ⟨TX10, 36, rfl⟩ rfl rfl dX10_init_162 ?_
  refine sm_aload_n hO 0 dX10_init_165 rfl rfl ?_
  refine sm_iconst (v := 0) hO dX10_init_166 rfl ?_
  refine sm_pv hO fl_RX10_72 fp_9_0 rfl rfl dX10_init_167 ?_
  exact sm_vret hO hr hk (Nat.le_of_ble_eq_true rfl) (Nat.le_of_ble_eq_true rfl) dX10_init_170
/-! DollCongress.feed(I)I -/
def pX9_feed (a0_ : Nat) (x1_ : Int32) : MM Int32 := if x1_ < 0 then (m_ret ((-1000000002) : Int32)) else (if x1_ ≤ (255 : Int32) then (m_gr a0_ 8 0 (fun a1 => m_gi a1 6 1 (fun x2 => if x2 < (240 : Int32) then (m_gr a0_ 8 0 (fun a3 => m_gr a3 6 0 (fun a4 => m_gr a0_ 8 0 (fun a5 => m_gi a5 6 1 (fun x6 => m_si a4 x6 x1_ (m_gr a0_ 8 0 (fun a7 => m_gi a7 6 1 (fun x8 => m_pv a7 6 1 (.int (x8 + 1)) (m_gr a0_ 8 0 (fun a9 => m_gi a9 6 1 (fun x10 => m_ret x10))))))))))) else (m_ret ((-1000000004) : Int32))))) else (m_ret ((-1000000002) : Int32)))
set_option maxRecDepth 100000 in
set_option maxHeartbeats 4000000 in
theorem ctX9_feed (l : Launch) (G : cG) (a0_ : Nat) (x1_ : Int32) : Ct l G yX9_feed cX9_feed 2 (some .int) 0 0 0 0 [.ref a0_, .int x1_] c_vi (pX9_feed a0_ x1_) := by
  refine Ct.of (lv := [(0, .ref a0_), (1, .int x1_)]) (by decide) (Nat.le_of_ble_eq_true rfl) rfl (fun p e s m args below meth c hO hr hk hin => ?_)
  rw [pX9_feed]
  refine sm_iload_n hO 1 dX9_feed_0 rfl rfl ?_
  refine sm_if_lt (tgt := 11) hO dX9_feed_1 (by decide) ?_ ?_
  · refine sm_ldc (v := (-1000000002)) hO kw_362 dX9_feed_11 ?_
    exact sm_iret hO hr hk (Nat.le_of_ble_eq_true rfl) (Nat.le_of_ble_eq_true rfl) dX9_feed_13
  · refine sm_iload_n hO 1 dX9_feed_4 rfl rfl ?_
    refine sm_sipush (v := 255) hO dX9_feed_5 rfl ?_
    refine sm_icmp_le (tgt := 14) hO dX9_feed_8 (by decide) ?_ ?_
    · refine sm_aload_n hO 0 dX9_feed_14 rfl rfl ?_
      refine sm_gr hO fl_RX9_10 dX9_feed_15 (fun a1 => ?_)
      refine sm_gi hO fl_RX9_69 dX9_feed_18 (fun x2 => ?_)
      refine sm_sipush (v := 240) hO dX9_feed_21 rfl ?_
      refine sm_icmp_lt (tgt := 30) hO dX9_feed_24 (by decide) ?_ ?_
      · refine sm_aload_n hO 0 dX9_feed_30 rfl rfl ?_
        refine sm_gr hO fl_RX9_10 dX9_feed_31 (fun a3 => ?_)
        refine sm_gr hO fl_RX9_74 dX9_feed_34 (fun a4 => ?_)
        refine sm_aload_n hO 0 dX9_feed_37 rfl rfl ?_
        refine sm_gr hO fl_RX9_10 dX9_feed_38 (fun a5 => ?_)
        refine sm_gi hO fl_RX9_69 dX9_feed_41 (fun x6 => ?_)
        refine sm_iload_n hO 1 dX9_feed_44 rfl rfl ?_
        refine sm_si hO dX9_feed_45 ?_
        refine sm_aload_n hO 0 dX9_feed_46 rfl rfl ?_
        refine sm_gr hO fl_RX9_10 dX9_feed_47 (fun a7 => ?_)
        refine sm_dup hO dX9_feed_50 rfl ?_
        refine sm_gi hO fl_RX9_69 dX9_feed_51 (fun x8 => ?_)
        refine sm_iconst (v := 1) hO dX9_feed_54 rfl ?_
        refine sm_iadd hO dX9_feed_55 ?_
        refine sm_pv hO fl_RX9_69 fp_6_1 rfl rfl dX9_feed_56 ?_
        refine sm_aload_n hO 0 dX9_feed_59 rfl rfl ?_
        refine sm_gr hO fl_RX9_10 dX9_feed_60 (fun a9 => ?_)
        refine sm_gi hO fl_RX9_69 dX9_feed_63 (fun x10 => ?_)
        exact sm_iret hO hr hk (Nat.le_of_ble_eq_true rfl) (Nat.le_of_ble_eq_true rfl) dX9_feed_66
      · refine sm_ldc (v := (-1000000004)) hO kw_363 dX9_feed_27 ?_
        exact sm_iret hO hr hk (Nat.le_of_ble_eq_true rfl) (Nat.le_of_ble_eq_true rfl) dX9_feed_29
    · refine sm_ldc (v := (-1000000002)) hO kw_362 dX9_feed_11 ?_
      exact sm_iret hO hr hk (Nat.le_of_ble_eq_true rfl) (Nat.le_of_ble_eq_true rfl) dX9_feed_13
/-! DollCongressModel.in(JJJ)Z -/
def pX10_in (w0_ : Int64) (w2_ : Int64) (w4_ : Int64) : MM Int32 := if (lg_cmp w0_ w2_) < 0 then (m_ret 0) else (if 0 < (lg_cmp w0_ w4_) then (m_ret 0) else (m_ret 1))
set_option maxRecDepth 100000 in
set_option maxHeartbeats 4000000 in
theorem ctX10_in (l : Launch) (G : cG) (w0_ : Int64) (w2_ : Int64) (w4_ : Int64) : Ct l G yX10_in cX10_in 6 (some .boolean) 0 0 0 0 [.long w0_, .long w2_, .long w4_] c_vi (pX10_in w0_ w2_ w4_) := by
  refine Ct.of (lv := [(0, .long w0_), (2, .long w2_), (4, .long w4_)]) (by decide) (Nat.le_of_ble_eq_true rfl) rfl (fun p e s m args below meth c hO hr hk hin => ?_)
  rw [pX10_in]
  refine sm_lload_n hO 0 dX10_in_0 rfl rfl ?_
  refine sm_lload_n hO 1 dX10_in_1 rfl rfl ?_
  refine sm_lcmp hO dX10_in_2 ?_
  refine sm_if_lt (tgt := 17) hO dX10_in_3 (by decide) ?_ ?_
  · refine sm_iconst (v := 0) hO dX10_in_17 rfl ?_
    exact sm_zret hO hr hk rfl (Nat.le_of_ble_eq_true rfl) (Nat.le_of_ble_eq_true rfl) dX10_in_18
  · refine sm_lload_n hO 0 dX10_in_6 rfl rfl ?_
    refine sm_lload hO 2 dX10_in_7 rfl ?_
    refine sm_lcmp hO dX10_in_9 ?_
    refine sm_if_gt (tgt := 17) hO dX10_in_10 (by decide) ?_ ?_
    · refine sm_iconst (v := 0) hO dX10_in_17 rfl ?_
      exact sm_zret hO hr hk rfl (Nat.le_of_ble_eq_true rfl) (Nat.le_of_ble_eq_true rfl) dX10_in_18
    · refine sm_iconst (v := 1) hO dX10_in_13 rfl ?_
      refine sm_goto (tgt := 18) hO dX10_in_14 (by decide) ?_
      exact sm_zret hO hr hk rfl (Nat.le_of_ble_eq_true rfl) (Nat.le_of_ble_eq_true rfl) dX10_in_18
/-! DollCongressModel.feed(I)I -/
def pX10_feed (a0_ : Nat) (x1_ : Int32) : MM Int32 := m_bind (pX10_in (x1_.toInt64) 0 255) (fun x1 => if x1 = 0 then (m_ret ((-1000000002) : Int32)) else (m_gi a0_ 9 11 (fun x2 => if x2 = (240 : Int32) then (m_ret ((-1000000004) : Int32)) else (m_gr a0_ 9 10 (fun a3 => m_gi a0_ 9 11 (fun x4 => m_si a3 x4 x1_ (m_gi a0_ 9 11 (fun x5 => m_pv a0_ 9 11 (.int (x5 + 1)) (m_gi a0_ 9 11 (fun x6 => m_ret x6))))))))))
set_option maxRecDepth 100000 in
set_option maxHeartbeats 4000000 in
theorem ctX10_feed (l : Launch) (G : cG) (a0_ : Nat) (x1_ : Int32) : Ct l G yX10_feed cX10_feed 2 (some .int) 1 25 0 0 [.ref a0_, .int x1_] c_vi (pX10_feed a0_ x1_) := by
  refine Ct.of (lv := [(0, .ref a0_), (1, .int x1_)]) (by decide) (Nat.le_of_ble_eq_true rfl) rfl (fun p e s m args below meth c hO hr hk hin => ?_)
  rw [pX10_feed]
  refine sm_iload_n hO 1 dX10_feed_0 rfl rfl ?_
  refine sm_i2l (v := x1_.toInt64) hO dX10_feed_1 rfl ?_
  refine sm_lconst (v := 0) hO dX10_feed_2 rfl ?_
  refine sm_ldc2 (v := 255) hO kw_921 dX10_feed_3 ?_
  refine sm_csi hO (ctX10_in l G (x1_.toInt64) 0 255) cw_RX10_75 kw_923 [] rfl rfl ⟨(Nat.le_of_ble_eq_true rfl), (Nat.le_of_ble_eq_true rfl)⟩ ⟨(Nat.le_of_ble_eq_true rfl), (Nat.le_of_ble_eq_true rfl)⟩ (Nat.le_of_ble_eq_true rfl) dX10_feed_6 (fun x1 => ?_)
  refine sm_if_ne (tgt := 15) hO dX10_feed_9 (by decide) ?_ ?_
  · refine sm_aload_n hO 0 dX10_feed_15 rfl rfl ?_
    refine sm_gi hO fl_RX10_85 dX10_feed_16 (fun x2 => ?_)
    refine sm_sipush (v := 240) hO dX10_feed_19 rfl ?_
    refine sm_icmp_ne (tgt := 28) hO dX10_feed_22 (by decide) ?_ ?_
    · refine sm_aload_n hO 0 dX10_feed_28 rfl rfl ?_
      refine sm_gr hO fl_RX10_25 dX10_feed_29 (fun a3 => ?_)
      refine sm_aload_n hO 0 dX10_feed_32 rfl rfl ?_
      refine sm_gi hO fl_RX10_85 dX10_feed_33 (fun x4 => ?_)
      refine sm_iload_n hO 1 dX10_feed_36 rfl rfl ?_
      refine sm_si hO dX10_feed_37 ?_
      refine sm_aload_n hO 0 dX10_feed_38 rfl rfl ?_
      refine sm_dup hO dX10_feed_39 rfl ?_
      refine sm_gi hO fl_RX10_85 dX10_feed_40 (fun x5 => ?_)
      refine sm_iconst (v := 1) hO dX10_feed_43 rfl ?_
      refine sm_iadd hO dX10_feed_44 ?_
      refine sm_pv hO fl_RX10_85 fp_9_11 rfl rfl dX10_feed_45 ?_
      refine sm_aload_n hO 0 dX10_feed_48 rfl rfl ?_
      refine sm_gi hO fl_RX10_85 dX10_feed_49 (fun x6 => ?_)
      exact sm_iret hO hr hk (Nat.le_of_ble_eq_true rfl) (Nat.le_of_ble_eq_true rfl) dX10_feed_52
    · refine sm_ldc (v := (-1000000004)) hO kw_926 dX10_feed_25 ?_
      exact sm_iret hO hr hk (Nat.le_of_ble_eq_true rfl) (Nat.le_of_ble_eq_true rfl) dX10_feed_27
  · refine sm_ldc (v := (-1000000002)) hO kw_925 dX10_feed_12 ?_
    exact sm_iret hO hr hk (Nat.le_of_ble_eq_true rfl) (Nat.le_of_ble_eq_true rfl) dX10_feed_14
/-! DollCongress$Roll.clear()V -/
def pX4_clear (a0_ : Nat) : MM Unit := m_pv a0_ 4 5 (.int 0) (m_pv a0_ 4 6 (.int 0) (m_pv a0_ 4 7 (.int 0) (m_pv a0_ 4 8 (.int 0) (m_pv a0_ 4 9 (.int 0) (m_pv a0_ 4 10 (.int 0) (m_ret ()))))))
set_option maxRecDepth 100000 in
set_option maxHeartbeats 4000000 in
theorem ctX4_clear (l : Launch) (G : cG) (a0_ : Nat) : Ct l G yX4_clear cX4_clear 1 none 0 0 0 0 [.ref a0_] c_vv (pX4_clear a0_) := by
  refine Ct.of (lv := [(0, .ref a0_)]) (by decide) (Nat.le_of_ble_eq_true rfl) rfl (fun p e s m args below meth c hO hr hk hin => ?_)
  rw [pX4_clear]
  refine sm_aload_n hO 0 dX4_clear_0 rfl rfl ?_
  refine sm_iconst (v := 0) hO dX4_clear_1 rfl ?_
  refine sm_pv hO fl_RX4_27 fp_4_5 rfl rfl dX4_clear_2 ?_
  refine sm_aload_n hO 0 dX4_clear_5 rfl rfl ?_
  refine sm_iconst (v := 0) hO dX4_clear_6 rfl ?_
  refine sm_pv hO fl_RX4_31 fp_4_6 rfl rfl dX4_clear_7 ?_
  refine sm_aload_n hO 0 dX4_clear_10 rfl rfl ?_
  refine sm_iconst (v := 0) hO dX4_clear_11 rfl ?_
  refine sm_pv hO fl_RX4_34 fp_4_7 rfl rfl dX4_clear_12 ?_
  refine sm_aload_n hO 0 dX4_clear_15 rfl rfl ?_
  refine sm_iconst (v := 0) hO dX4_clear_16 rfl ?_
  refine sm_pv hO fl_RX4_37 fp_4_8 rfl rfl dX4_clear_17 ?_
  refine sm_aload_n hO 0 dX4_clear_20 rfl rfl ?_
  refine sm_iconst (v := 0) hO dX4_clear_21 rfl ?_
  refine sm_pv hO fl_RX4_40 fp_4_9 rfl rfl dX4_clear_22 ?_
  refine sm_aload_n hO 0 dX4_clear_25 rfl rfl ?_
  refine sm_iconst (v := 0) hO dX4_clear_26 rfl ?_
  refine sm_pv hO fl_RX4_44 fp_4_10 rfl rfl dX4_clear_27 ?_
  exact sm_vret hO hr hk (Nat.le_of_ble_eq_true rfl) (Nat.le_of_ble_eq_true rfl) dX4_clear_30
/-! DollCongress$Text.letterHere()I -/
def pX7_letterHere (a0_ : Nat) : MM Int32 := m_gi a0_ 6 4 (fun x1 => if x1 < 0 then (m_ret ((-1) : Int32)) else (m_gi a0_ 6 4 (fun x2 => m_gi a0_ 6 1 (fun x3 => if x3 ≤ x2 then (m_ret ((-1) : Int32)) else (m_gi a0_ 6 4 (fun x4 => if (240 : Int32) ≤ x4 then (m_ret ((-1) : Int32)) else (m_gr a0_ 6 0 (fun a5 => m_gi a0_ 6 4 (fun x6 => m_li 0 a5 x6 (fun x7 => m_ret x7))))))))))
set_option maxRecDepth 100000 in
set_option maxHeartbeats 4000000 in
theorem ctX7_letterHere (l : Launch) (G : cG) (a0_ : Nat) : Ct l G yX7_letterHere cX7_letterHere 1 (some .int) 0 0 0 0 [.ref a0_] c_vi (pX7_letterHere a0_) := by
  refine Ct.of (lv := [(0, .ref a0_)]) (by decide) (Nat.le_of_ble_eq_true rfl) rfl (fun p e s m args below meth c hO hr hk hin => ?_)
  rw [pX7_letterHere]
  refine sm_aload_n hO 0 dX7_letterHere_0 rfl rfl ?_
  refine sm_gi hO fl_RX7_19 dX7_letterHere_1 (fun x1 => ?_)
  refine sm_if_lt (tgt := 40) hO dX7_letterHere_4 (by decide) ?_ ?_
  · refine sm_iconst (v := (-1)) hO dX7_letterHere_40 rfl ?_
    exact sm_iret hO hr hk (Nat.le_of_ble_eq_true rfl) (Nat.le_of_ble_eq_true rfl) dX7_letterHere_41
  · refine sm_aload_n hO 0 dX7_letterHere_7 rfl rfl ?_
    refine sm_gi hO fl_RX7_19 dX7_letterHere_8 (fun x2 => ?_)
    refine sm_aload_n hO 0 dX7_letterHere_11 rfl rfl ?_
    refine sm_gi hO fl_RX7_33 dX7_letterHere_12 (fun x3 => ?_)
    refine sm_icmp_ge (tgt := 40) hO dX7_letterHere_15 (by decide) ?_ ?_
    · refine sm_iconst (v := (-1)) hO dX7_letterHere_40 rfl ?_
      exact sm_iret hO hr hk (Nat.le_of_ble_eq_true rfl) (Nat.le_of_ble_eq_true rfl) dX7_letterHere_41
    · refine sm_aload_n hO 0 dX7_letterHere_18 rfl rfl ?_
      refine sm_gi hO fl_RX7_19 dX7_letterHere_19 (fun x4 => ?_)
      refine sm_sipush (v := 240) hO dX7_letterHere_22 rfl ?_
      refine sm_icmp_ge (tgt := 40) hO dX7_letterHere_25 (by decide) ?_ ?_
      · refine sm_iconst (v := (-1)) hO dX7_letterHere_40 rfl ?_
        exact sm_iret hO hr hk (Nat.le_of_ble_eq_true rfl) (Nat.le_of_ble_eq_true rfl) dX7_letterHere_41
      · refine sm_aload_n hO 0 dX7_letterHere_28 rfl rfl ?_
        refine sm_gr hO fl_RX7_9 dX7_letterHere_29 (fun a5 => ?_)
        refine sm_aload_n hO 0 dX7_letterHere_32 rfl rfl ?_
        refine sm_gi hO fl_RX7_19 dX7_letterHere_33 (fun x6 => ?_)
        refine sm_li hO dX7_letterHere_36 (fun x7 => ?_)
        refine sm_goto (tgt := 41) hO dX7_letterHere_37 (by decide) ?_
        exact sm_iret hO hr hk (Nat.le_of_ble_eq_true rfl) (Nat.le_of_ble_eq_true rfl) dX7_letterHere_41
/-! DollCongress$Text.skipBlanks()V -/
def fX7_skipBlanks_0  : Nat → Nat → MM Unit
  | 0, _ => m_bad
  | n + 1, aL0 => m_gi aL0 6 4 (fun x1 => m_gi aL0 6 1 (fun x2 => if x2 ≤ x1 then (m_ret ()) else (m_cv aL0 6 (pX7_letterHere aL0) (fun x3 => if x3 = (32 : Int32) then (m_gi aL0 6 4 (fun x4 => m_pv aL0 6 4 (.int (x4 + 1)) (fX7_skipBlanks_0 n aL0))) else (m_ret ())))))
def pX7_skipBlanks (a0_ : Nat) : MM Unit := fX7_skipBlanks_0 c_fu a0_
set_option maxRecDepth 100000 in
set_option maxHeartbeats 4000000 in
theorem tX7_skipBlanks_0 {p : Program} {l : Launch} {e : Env} {s : State} {m : MethodId} {args : Array Value} {below : List Frame} {meth : Method} {c : Code} {G : cG} (hO : c_Ok p s m c cX7_skipBlanks 1 RX7 G) (hr : meth.sig.returnType = none) (hk : meth.locks = false) : ∀ (n : Nat) (aL0 : Nat), Sm p l e { frames := 1, cells := 0, slots := 0, locals := 20 } s m args below meth c G 1 (c_Q G c_vv below args s 0 0) 0 0 0 [(0, .ref aL0)] [] (fX7_skipBlanks_0 n aL0) := by
  intro n
  induction n with
  | zero =>
    intro aL0
    exact sm_bad
  | succ n ih =>
    intro aL0
    rw [fX7_skipBlanks_0]
    refine sm_aload_n hO 0 dX7_skipBlanks_0 rfl rfl ?_
    refine sm_gi hO fl_RX7_19 dX7_skipBlanks_1 (fun x1 => ?_)
    refine sm_aload_n hO 0 dX7_skipBlanks_4 rfl rfl ?_
    refine sm_gi hO fl_RX7_33 dX7_skipBlanks_5 (fun x2 => ?_)
    refine sm_icmp_ge (tgt := 33) hO dX7_skipBlanks_8 (by decide) ?_ ?_
    · exact sm_vret hO hr hk (Nat.le_of_ble_eq_true rfl) (Nat.le_of_ble_eq_true rfl) dX7_skipBlanks_33
    · refine sm_aload_n hO 0 dX7_skipBlanks_11 rfl rfl ?_
      refine sm_cvi hO (ctX7_letterHere l G aL0) cw_RX7_43 cv_X7_letterHere [] rfl rfl ⟨(Nat.le_of_ble_eq_true rfl), (Nat.le_of_ble_eq_true rfl)⟩ ⟨(Nat.le_of_ble_eq_true rfl), (Nat.le_of_ble_eq_true rfl)⟩ (Nat.le_of_ble_eq_true rfl) dX7_skipBlanks_12 (fun x3 => ?_)
      refine sm_bipush (v := 32) hO dX7_skipBlanks_15 rfl ?_
      refine sm_icmp_ne (tgt := 33) hO dX7_skipBlanks_17 (by decide) ?_ ?_
      · exact sm_vret hO hr hk (Nat.le_of_ble_eq_true rfl) (Nat.le_of_ble_eq_true rfl) dX7_skipBlanks_33
      · refine sm_aload_n hO 0 dX7_skipBlanks_20 rfl rfl ?_
        refine sm_dup hO dX7_skipBlanks_21 rfl ?_
        refine sm_gi hO fl_RX7_19 dX7_skipBlanks_22 (fun x4 => ?_)
        refine sm_iconst (v := 1) hO dX7_skipBlanks_25 rfl ?_
        refine sm_iadd hO dX7_skipBlanks_26 ?_
        refine sm_pv hO fl_RX7_19 fp_6_4 rfl rfl dX7_skipBlanks_27 ?_
        refine sm_goto (tgt := 0) hO dX7_skipBlanks_30 (by decide) ?_
        exact sm_sub [0] rfl (ih aL0)
set_option maxRecDepth 100000 in
set_option maxHeartbeats 4000000 in
theorem ctX7_skipBlanks (l : Launch) (G : cG) (a0_ : Nat) : Ct l G yX7_skipBlanks cX7_skipBlanks 1 none 1 20 0 0 [.ref a0_] c_vv (pX7_skipBlanks a0_) := by
  refine Ct.of (lv := [(0, .ref a0_)]) (by decide) (Nat.le_of_ble_eq_true rfl) rfl (fun p e s m args below meth c hO hr hk hin => ?_)
  rw [pX7_skipBlanks]
  exact sm_sub [0] rfl (tX7_skipBlanks_0 hO hr hk c_fu a0_)
/-! DollCongress$Text.fail(II)V -/
def pX7_fail (a0_ : Nat) (x1_ : Int32) (x2_ : Int32) : MM Unit := m_gi a0_ 6 2 (fun x1 => if x1 = 0 then (m_pv a0_ 6 2 (.int x1_) (m_pv a0_ 6 3 (.int x2_) (m_ret ()))) else (m_ret ()))
set_option maxRecDepth 100000 in
set_option maxHeartbeats 4000000 in
theorem ctX7_fail (l : Launch) (G : cG) (a0_ : Nat) (x1_ : Int32) (x2_ : Int32) : Ct l G yX7_fail cX7_fail 3 none 0 0 0 0 [.ref a0_, .int x1_, .int x2_] c_vv (pX7_fail a0_ x1_ x2_) := by
  refine Ct.of (lv := [(0, .ref a0_), (1, .int x1_), (2, .int x2_)]) (by decide) (Nat.le_of_ble_eq_true rfl) rfl (fun p e s m args below meth c hO hr hk hin => ?_)
  rw [pX7_fail]
  refine sm_aload_n hO 0 dX7_fail_0 rfl rfl ?_
  refine sm_gi hO fl_RX7_22 dX7_fail_1 (fun x1 => ?_)
  refine sm_if_ne (tgt := 17) hO dX7_fail_4 (by decide) ?_ ?_
  · exact sm_vret hO hr hk (Nat.le_of_ble_eq_true rfl) (Nat.le_of_ble_eq_true rfl) dX7_fail_17
  · refine sm_aload_n hO 0 dX7_fail_7 rfl rfl ?_
    refine sm_iload_n hO 1 dX7_fail_8 rfl rfl ?_
    refine sm_pv hO fl_RX7_22 fp_6_2 rfl rfl dX7_fail_9 ?_
    refine sm_aload_n hO 0 dX7_fail_12 rfl rfl ?_
    refine sm_iload_n hO 2 dX7_fail_13 rfl rfl ?_
    refine sm_pv hO fl_RX7_15 fp_6_3 rfl rfl dX7_fail_14 ?_
    exact sm_vret hO hr hk (Nat.le_of_ble_eq_true rfl) (Nat.le_of_ble_eq_true rfl) dX7_fail_17
/-! DollCongress$Text.isFigure(I)Z -/
def pX7_isFigure (x0_ : Int32) : MM Int32 := if x0_ < (48 : Int32) then (m_ret 0) else (if (57 : Int32) < x0_ then (m_ret 0) else (m_ret 1))
set_option maxRecDepth 100000 in
set_option maxHeartbeats 4000000 in
theorem ctX7_isFigure (l : Launch) (G : cG) (x0_ : Int32) : Ct l G yX7_isFigure cX7_isFigure 1 (some .boolean) 0 0 0 0 [.int x0_] c_vi (pX7_isFigure x0_) := by
  refine Ct.of (lv := [(0, .int x0_)]) (by decide) (Nat.le_of_ble_eq_true rfl) rfl (fun p e s m args below meth c hO hr hk hin => ?_)
  rw [pX7_isFigure]
  refine sm_iload_n hO 0 dX7_isFigure_0 rfl rfl ?_
  refine sm_bipush (v := 48) hO dX7_isFigure_1 rfl ?_
  refine sm_icmp_lt (tgt := 16) hO dX7_isFigure_3 (by decide) ?_ ?_
  · refine sm_iconst (v := 0) hO dX7_isFigure_16 rfl ?_
    exact sm_zret hO hr hk rfl (Nat.le_of_ble_eq_true rfl) (Nat.le_of_ble_eq_true rfl) dX7_isFigure_17
  · refine sm_iload_n hO 0 dX7_isFigure_6 rfl rfl ?_
    refine sm_bipush (v := 57) hO dX7_isFigure_7 rfl ?_
    refine sm_icmp_gt (tgt := 16) hO dX7_isFigure_9 (by decide) ?_ ?_
    · refine sm_iconst (v := 0) hO dX7_isFigure_16 rfl ?_
      exact sm_zret hO hr hk rfl (Nat.le_of_ble_eq_true rfl) (Nat.le_of_ble_eq_true rfl) dX7_isFigure_17
    · refine sm_iconst (v := 1) hO dX7_isFigure_12 rfl ?_
      refine sm_goto (tgt := 17) hO dX7_isFigure_13 (by decide) ?_
      exact sm_zret hO hr hk rfl (Nat.le_of_ble_eq_true rfl) (Nat.le_of_ble_eq_true rfl) dX7_isFigure_17
/-! DollCongress$Text.readNumber(II)I -/
def fX7_readNumber_12 (k67 : Nat → Int32 → Int32 → Int32 → Int32 → MM Int32) : Nat → Nat → Int32 → Int32 → Int32 → Int32 → MM Int32
  | 0, _, _, _, _, _ => m_bad
  | n + 1, aL0, xL1, xL2, xL3, xL4 => m_gi aL0 6 4 (fun x1 => m_gi aL0 6 1 (fun x2 => if x2 ≤ x1 then (k67 aL0 xL1 xL2 xL3 xL4) else (m_cv aL0 6 (pX7_letterHere aL0) (fun x3 => m_bind (pX7_isFigure x3) (fun x4 => if x4 = 0 then (k67 aL0 xL1 xL2 xL3 xL4) else (m_cv aL0 6 (pX7_letterHere aL0) (fun x5 => m_let (c_mn (((xL4 * 10) + x5) - 48) (1000 : Int32)) (fun x6 => m_gi aL0 6 4 (fun x7 => m_pv aL0 6 4 (.int (x7 + 1)) (fX7_readNumber_12 k67 n aL0 xL1 xL2 xL3 x6))))))))))
def fX7_readNumber_106  (aL0 : Nat) (xL3 : Int32) (xL4 : Int32) : MM Int32 := m_cv aL0 6 (pX7_fail aL0 (2 : Int32) xL3) (fun _ => m_ret xL4)
def fX7_readNumber_67  (aL0 : Nat) (xL1 : Int32) (xL2 : Int32) (xL3 : Int32) (xL4 : Int32) : MM Int32 := m_gi aL0 6 4 (fun x1 => if x1 = xL3 then (m_cv aL0 6 (pX7_fail aL0 (1 : Int32) xL3) (fun _ => m_ret xL4)) else (m_gi aL0 6 4 (fun x2 => if (3 : Int32) < (x2 - xL3) then (fX7_readNumber_106 aL0 xL3 xL4) else (if xL4 < xL1 then (fX7_readNumber_106 aL0 xL3 xL4) else (if xL4 ≤ xL2 then (m_ret xL4) else (fX7_readNumber_106 aL0 xL3 xL4))))))
def pX7_readNumber (a0_ : Nat) (x1_ : Int32) (x2_ : Int32) : MM Int32 := m_cv a0_ 6 (pX7_skipBlanks a0_) (fun _ => m_gi a0_ 6 4 (fun x1 => fX7_readNumber_12 fX7_readNumber_67 c_fu a0_ x1_ x2_ x1 0))
set_option maxRecDepth 100000 in
set_option maxHeartbeats 4000000 in
theorem tX7_readNumber_12 {p : Program} {l : Launch} {e : Env} {s : State} {m : MethodId} {args : Array Value} {below : List Frame} {meth : Method} {c : Code} {G : cG} (hO : c_Ok p s m c cX7_readNumber 5 RX7 G) (hr : meth.sig.returnType = (some .int)) (hk : meth.locks = false) (k67 : Nat → Int32 → Int32 → Int32 → Int32 → MM Int32) (hk67 : ∀ (aL0 : Nat) (xL1 : Int32) (xL2 : Int32) (xL3 : Int32) (xL4 : Int32), Sm p l e { frames := 2, cells := 0, slots := 0, locals := 40 } s m args below meth c G 5 (c_Q G c_vi below args s 0 0) 0 0 67 [(0, .ref aL0), (1, .int xL1), (2, .int xL2), (3, .int xL3), (4, .int xL4)] [] (k67 aL0 xL1 xL2 xL3 xL4))  : ∀ (n : Nat) (aL0 : Nat) (xL1 : Int32) (xL2 : Int32) (xL3 : Int32) (xL4 : Int32), Sm p l e { frames := 2, cells := 0, slots := 0, locals := 40 } s m args below meth c G 5 (c_Q G c_vi below args s 0 0) 0 0 12 [(0, .ref aL0), (1, .int xL1), (2, .int xL2), (3, .int xL3), (4, .int xL4)] [] (fX7_readNumber_12 k67 n aL0 xL1 xL2 xL3 xL4) := by
  intro n
  induction n with
  | zero =>
    intro aL0 xL1 xL2 xL3 xL4
    exact sm_bad
  | succ n ih =>
    intro aL0 xL1 xL2 xL3 xL4
    rw [fX7_readNumber_12]
    refine sm_aload_n hO 0 dX7_readNumber_12 rfl rfl ?_
    refine sm_gi hO fl_RX7_19 dX7_readNumber_13 (fun x1 => ?_)
    refine sm_aload_n hO 0 dX7_readNumber_16 rfl rfl ?_
    refine sm_gi hO fl_RX7_33 dX7_readNumber_17 (fun x2 => ?_)
    refine sm_icmp_ge (tgt := 67) hO dX7_readNumber_20 (by decide) ?_ ?_
    · exact sm_sub [0, 1, 2, 3, 4] rfl (hk67 aL0 xL1 xL2 xL3 xL4)
    · refine sm_aload_n hO 0 dX7_readNumber_23 rfl rfl ?_
      refine sm_cvi hO (ctX7_letterHere l G aL0) cw_RX7_43 cv_X7_letterHere [] rfl rfl ⟨(Nat.le_of_ble_eq_true rfl), (Nat.le_of_ble_eq_true rfl)⟩ ⟨(Nat.le_of_ble_eq_true rfl), (Nat.le_of_ble_eq_true rfl)⟩ (Nat.le_of_ble_eq_true rfl) dX7_readNumber_24 (fun x3 => ?_)
      refine sm_csi hO (ctX7_isFigure l G x3) cw_RX7_101 kw_401 [] rfl rfl ⟨(Nat.le_of_ble_eq_true rfl), (Nat.le_of_ble_eq_true rfl)⟩ ⟨(Nat.le_of_ble_eq_true rfl), (Nat.le_of_ble_eq_true rfl)⟩ (Nat.le_of_ble_eq_true rfl) dX7_readNumber_27 (fun x4 => ?_)
      refine sm_if_eq (tgt := 67) hO dX7_readNumber_30 (by decide) ?_ ?_
      · exact sm_sub [0, 1, 2, 3, 4] rfl (hk67 aL0 xL1 xL2 xL3 xL4)
      · refine sm_iload hO 4 dX7_readNumber_33 rfl ?_
        refine sm_bipush (v := 10) hO dX7_readNumber_35 rfl ?_
        refine sm_imul hO dX7_readNumber_37 ?_
        refine sm_aload_n hO 0 dX7_readNumber_38 rfl rfl ?_
        refine sm_cvi hO (ctX7_letterHere l G aL0) cw_RX7_43 cv_X7_letterHere [.int (xL4 * 10)] rfl rfl ⟨(Nat.le_of_ble_eq_true rfl), (Nat.le_of_ble_eq_true rfl)⟩ ⟨(Nat.le_of_ble_eq_true rfl), (Nat.le_of_ble_eq_true rfl)⟩ (Nat.le_of_ble_eq_true rfl) dX7_readNumber_39 (fun x5 => ?_)
        refine sm_iadd hO dX7_readNumber_42 ?_
        refine sm_bipush (v := 48) hO dX7_readNumber_43 rfl ?_
        refine sm_isub hO dX7_readNumber_45 ?_
        refine sm_sipush (v := 1000) hO dX7_readNumber_46 rfl ?_
        refine sm_min hO kw_403 kw_404 kw_83 kw_405 (Nat.le_of_ble_eq_true rfl) (Nat.le_of_ble_eq_true rfl) (Nat.le_of_ble_eq_true rfl) (Nat.le_of_ble_eq_true rfl) dX7_readNumber_49 ?_
        refine sm_topi (fun x6 => ?_)
        refine sm_istore hO [(4, .int x6), (0, .ref aL0), (1, .int xL1), (2, .int xL2), (3, .int xL3)] dX7_readNumber_52 (by decide) rfl ?_
        refine sm_aload_n hO 1 dX7_readNumber_54 rfl rfl ?_
        refine sm_dup hO dX7_readNumber_55 rfl ?_
        refine sm_gi hO fl_RX7_19 dX7_readNumber_56 (fun x7 => ?_)
        refine sm_iconst (v := 1) hO dX7_readNumber_59 rfl ?_
        refine sm_iadd hO dX7_readNumber_60 ?_
        refine sm_pv hO fl_RX7_19 fp_6_4 rfl rfl dX7_readNumber_61 ?_
        refine sm_goto (tgt := 12) hO dX7_readNumber_64 (by decide) ?_
        exact sm_sub [1, 2, 3, 4, 0] rfl (ih aL0 xL1 xL2 xL3 x6)
set_option maxRecDepth 100000 in
set_option maxHeartbeats 4000000 in
theorem tX7_readNumber_106 {p : Program} {l : Launch} {e : Env} {s : State} {m : MethodId} {args : Array Value} {below : List Frame} {meth : Method} {c : Code} {G : cG} (hO : c_Ok p s m c cX7_readNumber 5 RX7 G) (hr : meth.sig.returnType = (some .int)) (hk : meth.locks = false) : ∀ (aL0 : Nat) (xL3 : Int32) (xL4 : Int32), Sm p l e { frames := 2, cells := 0, slots := 0, locals := 40 } s m args below meth c G 5 (c_Q G c_vi below args s 0 0) 0 0 106 [(0, .ref aL0), (3, .int xL3), (4, .int xL4)] [] (fX7_readNumber_106 aL0 xL3 xL4) := by
  intro aL0 xL3 xL4
  rw [fX7_readNumber_106]
  refine sm_aload_n hO 0 dX7_readNumber_106 rfl rfl ?_
  refine sm_iconst (v := 2) hO dX7_readNumber_107 rfl ?_
  refine sm_iload_n hO 1 dX7_readNumber_108 rfl rfl ?_
  refine sm_cvv hO (ctX7_fail l G aL0 (2 : Int32) xL3) cw_RX7_50 cv_X7_fail [] rfl rfl ⟨(Nat.le_of_ble_eq_true rfl), (Nat.le_of_ble_eq_true rfl)⟩ ⟨(Nat.le_of_ble_eq_true rfl), (Nat.le_of_ble_eq_true rfl)⟩ (Nat.le_of_ble_eq_true rfl) dX7_readNumber_109 (fun _ => ?_)
  refine sm_iload hO 2 dX7_readNumber_112 rfl ?_
  exact sm_iret hO hr hk (Nat.le_of_ble_eq_true rfl) (Nat.le_of_ble_eq_true rfl) dX7_readNumber_114
set_option maxRecDepth 100000 in
set_option maxHeartbeats 4000000 in
theorem tX7_readNumber_67 {p : Program} {l : Launch} {e : Env} {s : State} {m : MethodId} {args : Array Value} {below : List Frame} {meth : Method} {c : Code} {G : cG} (hO : c_Ok p s m c cX7_readNumber 5 RX7 G) (hr : meth.sig.returnType = (some .int)) (hk : meth.locks = false) : ∀ (aL0 : Nat) (xL1 : Int32) (xL2 : Int32) (xL3 : Int32) (xL4 : Int32), Sm p l e { frames := 2, cells := 0, slots := 0, locals := 40 } s m args below meth c G 5 (c_Q G c_vi below args s 0 0) 0 0 67 [(0, .ref aL0), (1, .int xL1), (2, .int xL2), (3, .int xL3), (4, .int xL4)] [] (fX7_readNumber_67 aL0 xL1 xL2 xL3 xL4) := by
  intro aL0 xL1 xL2 xL3 xL4
  rw [fX7_readNumber_67]
  refine sm_aload_n hO 0 dX7_readNumber_67 rfl rfl ?_
  refine sm_gi hO fl_RX7_19 dX7_readNumber_68 (fun x1 => ?_)
  refine sm_iload_n hO 3 dX7_readNumber_71 rfl rfl ?_
  refine sm_icmp_ne (tgt := 84) hO dX7_readNumber_72 (by decide) ?_ ?_
  · refine sm_aload_n hO 0 dX7_readNumber_84 rfl rfl ?_
    refine sm_gi hO fl_RX7_19 dX7_readNumber_85 (fun x2 => ?_)
    refine sm_iload_n hO 3 dX7_readNumber_88 rfl rfl ?_
    refine sm_isub hO dX7_readNumber_89 ?_
    refine sm_iconst (v := 3) hO dX7_readNumber_90 rfl ?_
    refine sm_icmp_gt (tgt := 106) hO dX7_readNumber_91 (by decide) ?_ ?_
    · exact sm_sub [0, 3, 4] rfl (tX7_readNumber_106 hO hr hk aL0 xL3 xL4)
    · refine sm_iload hO 4 dX7_readNumber_94 rfl ?_
      refine sm_iload_n hO 1 dX7_readNumber_96 rfl rfl ?_
      refine sm_icmp_lt (tgt := 106) hO dX7_readNumber_97 (by decide) ?_ ?_
      · exact sm_sub [0, 3, 4] rfl (tX7_readNumber_106 hO hr hk aL0 xL3 xL4)
      · refine sm_iload hO 4 dX7_readNumber_100 rfl ?_
        refine sm_iload_n hO 2 dX7_readNumber_102 rfl rfl ?_
        refine sm_icmp_le (tgt := 112) hO dX7_readNumber_103 (by decide) ?_ ?_
        · refine sm_iload hO 4 dX7_readNumber_112 rfl ?_
          exact sm_iret hO hr hk (Nat.le_of_ble_eq_true rfl) (Nat.le_of_ble_eq_true rfl) dX7_readNumber_114
        · exact sm_sub [0, 3, 4] rfl (tX7_readNumber_106 hO hr hk aL0 xL3 xL4)
  · refine sm_aload_n hO 0 dX7_readNumber_75 rfl rfl ?_
    refine sm_iconst (v := 1) hO dX7_readNumber_76 rfl ?_
    refine sm_iload_n hO 3 dX7_readNumber_77 rfl rfl ?_
    refine sm_cvv hO (ctX7_fail l G aL0 (1 : Int32) xL3) cw_RX7_50 cv_X7_fail [] rfl rfl ⟨(Nat.le_of_ble_eq_true rfl), (Nat.le_of_ble_eq_true rfl)⟩ ⟨(Nat.le_of_ble_eq_true rfl), (Nat.le_of_ble_eq_true rfl)⟩ (Nat.le_of_ble_eq_true rfl) dX7_readNumber_78 (fun _ => ?_)
    refine sm_goto (tgt := 112) hO dX7_readNumber_81 (by decide) ?_
    refine sm_iload hO 4 dX7_readNumber_112 rfl ?_
    exact sm_iret hO hr hk (Nat.le_of_ble_eq_true rfl) (Nat.le_of_ble_eq_true rfl) dX7_readNumber_114
set_option maxRecDepth 100000 in
set_option maxHeartbeats 4000000 in
theorem ctX7_readNumber (l : Launch) (G : cG) (a0_ : Nat) (x1_ : Int32) (x2_ : Int32) : Ct l G yX7_readNumber cX7_readNumber 5 (some .int) 2 40 0 0 [.ref a0_, .int x1_, .int x2_] c_vi (pX7_readNumber a0_ x1_ x2_) := by
  refine Ct.of (lv := [(0, .ref a0_), (1, .int x1_), (2, .int x2_)]) (by decide) (Nat.le_of_ble_eq_true rfl) rfl (fun p e s m args below meth c hO hr hk hin => ?_)
  rw [pX7_readNumber]
  refine sm_aload_n hO 0 dX7_readNumber_0 rfl rfl ?_
  refine sm_cvv hO (ctX7_skipBlanks l G a0_) cw_RX7_30 cv_X7_skipBlanks [] rfl rfl ⟨(Nat.le_of_ble_eq_true rfl), (Nat.le_of_ble_eq_true rfl)⟩ ⟨(Nat.le_of_ble_eq_true rfl), (Nat.le_of_ble_eq_true rfl)⟩ (Nat.le_of_ble_eq_true rfl) dX7_readNumber_1 (fun _ => ?_)
  refine sm_aload_n hO 0 dX7_readNumber_4 rfl rfl ?_
  refine sm_gi hO fl_RX7_19 dX7_readNumber_5 (fun x1 => ?_)
  refine sm_istore_n hO [(3, .int x1), (0, .ref a0_), (1, .int x1_), (2, .int x2_)] dX7_readNumber_8 rfl (by decide) rfl ?_
  refine sm_iconst (v := 0) hO dX7_readNumber_9 rfl ?_
  refine sm_istore hO [(4, .int 0), (3, .int x1), (0, .ref a0_), (1, .int x1_), (2, .int x2_)] dX7_readNumber_10 (by decide) rfl ?_
  exact sm_sub [2, 3, 4, 1, 0] rfl (tX7_readNumber_12 hO hr hk fX7_readNumber_67 (tX7_readNumber_67 hO hr hk) c_fu a0_ x1_ x2_ x1 0)
