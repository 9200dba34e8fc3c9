def fL_law_421 (k998 : Nat → Nat → Nat → Int32 → MM Int32) (aL0 : Nat) (aL1 : Nat) (aL2 : Nat) (xL3 : Int32) (xS0 : Int32) (xS1 : Int32) (aS2 : Nat) (xS3 : Int32) : MM Int32 := m_cv aS2 9 (pX10_lay aS2 xS1 xS0) (fun x1 => if xS3 = x1 then (k998 aL0 aL1 aL2 xL3) else (m_ret (0 : Int32)))
def fL_law_399 (k998 : Nat → Nat → Nat → Int32 → MM Int32) (aL0 : Nat) (aL1 : Nat) (aL2 : Nat) (xL3 : Int32) (xS0 : Int32) (xS1 : Int32) (aS2 : Nat) : MM Int32 := m_cv aS2 8 (pX9_lay aS2 xS1 xS0) (fun x1 => m_li 0 aL0 (xL3 + 1) (fun x2 => m_li 0 aL0 (xL3 + 2) (fun x3 => if x3 = 0 then (fL_law_421 k998 aL0 aL1 aL2 xL3 0 x2 aL2 x1) else (fL_law_421 k998 aL0 aL1 aL2 xL3 1 x2 aL2 x1))))
def fL_law_998 (k18 : Nat → Nat → Nat → Int32 → MM Int32) (aL0 : Nat) (aL1 : Nat) (aL2 : Nat) (xL3 : Int32) : MM Int32 := m_let (xL3 + 3) (fun x1 => k18 aL0 aL1 aL2 x1)
def fL_law_18  : Nat → Nat → Nat → Nat → Int32 → MM Int32
  | 0, _, _, _, _ => m_bad
  | n + 1, aL0, aL1, aL2, xL3 => m_len aL0 (fun x1 => if (x1 - 3) < xL3 then (m_ret (1 : Int32)) else (m_li 0 aL0 xL3 (fun x2 => m_let (x2 &&& 31) (fun x3 => if x3 = 0 then (m_li 0 aL0 (xL3 + 1) (fun x138 => m_cv aL1 8 (pX9_feed aL1 x138) (fun x139 => m_li 0 aL0 (xL3 + 1) (fun x140 => m_cv aL2 9 (pX10_feed aL2 x140) (fun x141 => if x139 = x141 then (fL_law_998 (fL_law_18 n) aL0 aL1 aL2 xL3) else (m_ret (0 : Int32))))))) else (if x3 = 1 then (m_cv aL1 8 (pX9_congress aL1) (fun x136 => m_cv aL2 9 (pX10_congress aL2) (fun x137 => if x136 = x137 then (fL_law_998 (fL_law_18 n) aL0 aL1 aL2 xL3) else (m_ret (0 : Int32))))) else (if x3 = 2 then (m_cv aL1 8 (pX9_fault aL1) (fun x134 => m_cv aL2 9 (pX10_fault aL2) (fun x135 => if x134 = x135 then (fL_law_998 (fL_law_18 n) aL0 aL1 aL2 xL3) else (m_ret (0 : Int32))))) else (if x3 = 3 then (m_li 0 aL0 (xL3 + 1) (fun x130 => m_cv aL1 8 (pX9_told aL1 x130) (fun x131 => m_li 0 aL0 (xL3 + 1) (fun x132 => m_cv aL2 9 (pX10_told aL2 x132) (fun x133 => if x131 = x133 then (fL_law_998 (fL_law_18 n) aL0 aL1 aL2 xL3) else (m_ret (0 : Int32))))))) else (if x3 = 4 then (m_li 0 aL0 (xL3 + 1) (fun x124 => m_li 0 aL0 (xL3 + 2) (fun x125 => m_cv aL1 8 (pX9_doll aL1 x124 x125) (fun x126 => m_li 0 aL0 (xL3 + 1) (fun x127 => m_li 0 aL0 (xL3 + 2) (fun x128 => m_cv aL2 9 (pX10_doll aL2 x127 x128) (fun x129 => if x126 = x129 then (fL_law_998 (fL_law_18 n) aL0 aL1 aL2 xL3) else (m_ret (0 : Int32))))))))) else (if x3 = 5 then (m_li 0 aL0 (xL3 + 1) (fun x118 => m_li 0 aL0 (xL3 + 2) (fun x119 => m_cv aL1 8 (pX9_court aL1 x118 x119) (fun x120 => m_li 0 aL0 (xL3 + 1) (fun x121 => m_li 0 aL0 (xL3 + 2) (fun x122 => m_cv aL2 9 (pX10_court aL2 x121 x122) (fun x123 => if x120 = x123 then (fL_law_998 (fL_law_18 n) aL0 aL1 aL2 xL3) else (m_ret (0 : Int32))))))))) else (if x3 = 6 then (m_li 0 aL0 (xL3 + 1) (fun x112 => m_li 0 aL0 (xL3 + 2) (fun x113 => m_cv aL1 8 (pX9_post aL1 x112 x113) (fun x114 => m_li 0 aL0 (xL3 + 1) (fun x115 => m_li 0 aL0 (xL3 + 2) (fun x116 => m_cv aL2 9 (pX10_post aL2 x115 x116) (fun x117 => if x114 = x117 then (fL_law_998 (fL_law_18 n) aL0 aL1 aL2 xL3) else (m_ret (0 : Int32))))))))) else (if x3 = 7 then (m_li 0 aL0 (xL3 + 1) (fun x106 => m_li 0 aL0 (xL3 + 2) (fun x107 => m_cv aL1 8 (pX9_mix aL1 x106 x107) (fun x108 => m_li 0 aL0 (xL3 + 1) (fun x109 => m_li 0 aL0 (xL3 + 2) (fun x110 => m_cv aL2 9 (pX10_mix aL2 x109 x110) (fun x111 => if x108 = x111 then (fL_law_998 (fL_law_18 n) aL0 aL1 aL2 xL3) else (m_ret (0 : Int32))))))))) else (if x3 = 8 then (m_li 0 aL0 (xL3 + 1) (fun x104 => m_li 0 aL0 (xL3 + 2) (fun x105 => if x105 = 0 then (fL_law_399 (fL_law_998 (fL_law_18 n)) aL0 aL1 aL2 xL3 0 x104 aL1) else (fL_law_399 (fL_law_998 (fL_law_18 n)) aL0 aL1 aL2 xL3 1 x104 aL1)))) else (if x3 = 9 then (m_li 0 aL0 (xL3 + 1) (fun x98 => m_li 0 aL0 (xL3 + 2) (fun x99 => m_cv aL1 8 (pX9_mask aL1 x98 x99) (fun x100 => m_li 0 aL0 (xL3 + 1) (fun x101 => m_li 0 aL0 (xL3 + 2) (fun x102 => m_cv aL2 9 (pX10_mask aL2 x101 x102) (fun x103 => if x100 = x103 then (fL_law_998 (fL_law_18 n) aL0 aL1 aL2 xL3) else (m_ret (0 : Int32))))))))) else (if x3 = 10 then (m_cv aL1 8 (pX9_audience aL1) (fun x96 => m_cv aL2 9 (pX10_audience aL2) (fun x97 => if x96 = x97 then (fL_law_998 (fL_law_18 n) aL0 aL1 aL2 xL3) else (m_ret (0 : Int32))))) else (if x3 = 11 then (m_li 0 aL0 (xL3 + 1) (fun x92 => m_cv aL1 8 (pX9_year aL1 x92) (fun x93 => m_li 0 aL0 (xL3 + 1) (fun x94 => m_cv aL2 9 (pX10_year aL2 x94) (fun x95 => if x93 = x95 then (fL_law_998 (fL_law_18 n) aL0 aL1 aL2 xL3) else (m_ret (0 : Int32))))))) else (if x3 = 12 then (m_li 0 aL0 (xL3 + 1) (fun x88 => m_cv aL1 8 (pX9_drift aL1 x88) (fun x89 => m_li 0 aL0 (xL3 + 1) (fun x90 => m_cv aL2 9 (pX10_drift aL2 x90) (fun x91 => if x89 = x91 then (fL_law_998 (fL_law_18 n) aL0 aL1 aL2 xL3) else (m_ret (0 : Int32))))))) else (if x3 = 13 then (m_cv aL1 8 (pX9_undo aL1) (fun x86 => m_cv aL2 9 (pX10_undo aL2) (fun x87 => if x86 = x87 then (fL_law_998 (fL_law_18 n) aL0 aL1 aL2 xL3) else (m_ret (0 : Int32))))) else (if x3 = 14 then (m_li 0 aL0 (xL3 + 1) (fun x80 => m_li 0 aL0 (xL3 + 2) (fun x81 => m_cv aL1 8 (pX9_warm aL1 x80 x81) (fun x82 => m_li 0 aL0 (xL3 + 1) (fun x83 => m_li 0 aL0 (xL3 + 2) (fun x84 => m_cv aL2 9 (pX10_warm aL2 x83 x84) (fun x85 => if x82 = x85 then (fL_law_998 (fL_law_18 n) aL0 aL1 aL2 xL3) else (m_ret (0 : Int32))))))))) else (if x3 = 15 then (m_li 0 aL0 (xL3 + 1) (fun x76 => m_cv aL1 8 (pX9_warmest aL1 x76) (fun x77 => m_li 0 aL0 (xL3 + 1) (fun x78 => m_cv aL2 9 (pX10_warmest aL2 x78) (fun x79 => if x77 = x79 then (fL_law_998 (fL_law_18 n) aL0 aL1 aL2 xL3) else (m_ret (0 : Int32))))))) else (if x3 = 16 then (m_li 0 aL0 (xL3 + 1) (fun x70 => m_li 0 aL0 (xL3 + 2) (fun x71 => m_cv aL1 8 (pX9_first aL1 x70 x71) (fun x72 => m_li 0 aL0 (xL3 + 1) (fun x73 => m_li 0 aL0 (xL3 + 2) (fun x74 => m_cv aL2 9 (pX10_first aL2 x73 x74) (fun x75 => if x72 = x75 then (fL_law_998 (fL_law_18 n) aL0 aL1 aL2 xL3) else (m_ret (0 : Int32))))))))) else (if x3 = 17 then (m_li 0 aL0 (xL3 + 1) (fun x66 => m_cv aL1 8 (pX9_swaps aL1 x66) (fun x67 => m_li 0 aL0 (xL3 + 1) (fun x68 => m_cv aL2 9 (pX10_swaps aL2 x68) (fun x69 => if x67 = x69 then (fL_law_998 (fL_law_18 n) aL0 aL1 aL2 xL3) else (m_ret (0 : Int32))))))) else (if x3 = 18 then (m_li 0 aL0 (xL3 + 1) (fun x62 => m_cv aL1 8 (pX9_close aL1 x62) (fun x63 => m_li 0 aL0 (xL3 + 1) (fun x64 => m_cv aL2 9 (pX10_close aL2 x64) (fun x65 => if x63 = x65 then (fL_law_998 (fL_law_18 n) aL0 aL1 aL2 xL3) else (m_ret (0 : Int32))))))) else (if x3 = 19 then (m_li 0 aL0 (xL3 + 1) (fun x56 => m_li 0 aL0 (xL3 + 2) (fun x57 => m_cv aL1 8 (pX9_look aL1 x56 x57) (fun x58 => m_li 0 aL0 (xL3 + 1) (fun x59 => m_li 0 aL0 (xL3 + 2) (fun x60 => m_cv aL2 9 (pX10_look aL2 x59 x60) (fun x61 => if x58 = x61 then (fL_law_998 (fL_law_18 n) aL0 aL1 aL2 xL3) else (m_ret (0 : Int32))))))))) else (if x3 = 20 then (m_li 0 aL0 (xL3 + 1) (fun x52 => m_cv aL1 8 (pX9_agreed aL1 x52) (fun x53 => m_li 0 aL0 (xL3 + 1) (fun x54 => m_cv aL2 9 (pX10_agreed aL2 x54) (fun x55 => if x53 = x55 then (fL_law_998 (fL_law_18 n) aL0 aL1 aL2 xL3) else (m_ret (0 : Int32))))))) else (if x3 = 21 then (m_li 0 aL0 (xL3 + 1) (fun x46 => m_li 0 aL0 (xL3 + 2) (fun x47 => m_cv aL1 8 (pX9_agenda aL1 x46 x47) (fun x48 => m_li 0 aL0 (xL3 + 1) (fun x49 => m_li 0 aL0 (xL3 + 2) (fun x50 => m_cv aL2 9 (pX10_agenda aL2 x49 x50) (fun x51 => if x48 = x51 then (fL_law_998 (fL_law_18 n) aL0 aL1 aL2 xL3) else (m_ret (0 : Int32))))))))) else (if x3 = 22 then (m_li 0 aL0 (xL3 + 1) (fun x42 => m_cv aL1 8 (pX9_agendaFor aL1 x42) (fun x43 => m_li 0 aL0 (xL3 + 1) (fun x44 => m_cv aL2 9 (pX10_agendaFor aL2 x44) (fun x45 => if x43 = x45 then (fL_law_998 (fL_law_18 n) aL0 aL1 aL2 xL3) else (m_ret (0 : Int32))))))) else (if x3 = 23 then (m_li 0 aL0 (xL3 + 1) (fun x38 => m_cv aL1 8 (pX9_wanted aL1 x38) (fun x39 => m_li 0 aL0 (xL3 + 1) (fun x40 => m_cv aL2 9 (pX10_wanted aL2 x40) (fun x41 => if x39 = x41 then (fL_law_998 (fL_law_18 n) aL0 aL1 aL2 xL3) else (m_ret (0 : Int32))))))) else (if x3 = 24 then (m_li 0 aL0 (xL3 + 1) (fun x32 => m_li 0 aL0 (xL3 + 2) (fun x33 => m_cv aL1 8 (pX9_know aL1 x32 x33) (fun x34 => m_li 0 aL0 (xL3 + 1) (fun x35 => m_li 0 aL0 (xL3 + 2) (fun x36 => m_cv aL2 9 (pX10_know aL2 x35 x36) (fun x37 => if x34 = x37 then (fL_law_998 (fL_law_18 n) aL0 aL1 aL2 xL3) else (m_ret (0 : Int32))))))))) else (if x3 = 25 then (m_li 0 aL0 (xL3 + 1) (fun x26 => m_li 0 aL0 (xL3 + 2) (fun x27 => m_cv aL1 8 (pX9_parcels aL1 x26 x27) (fun x28 => m_li 0 aL0 (xL3 + 1) (fun x29 => m_li 0 aL0 (xL3 + 2) (fun x30 => m_cv aL2 9 (pX10_parcels aL2 x29 x30) (fun x31 => if x28 = x31 then (fL_law_998 (fL_law_18 n) aL0 aL1 aL2 xL3) else (m_ret (0 : Int32))))))))) else (if x3 = 26 then (m_li 0 aL0 (xL3 + 1) (fun x20 => m_li 0 aL0 (xL3 + 2) (fun x21 => m_cv aL1 8 (pX9_write aL1 x20 x21) (fun x22 => m_li 0 aL0 (xL3 + 1) (fun x23 => m_li 0 aL0 (xL3 + 2) (fun x24 => m_cv aL2 9 (pX10_write aL2 x23 x24) (fun x25 => if x22 = x25 then (fL_law_998 (fL_law_18 n) aL0 aL1 aL2 xL3) else (m_ret (0 : Int32))))))))) else (if x3 = 27 then (m_cv aL1 8 (pX9_tear aL1) (fun x18 => m_cv aL2 9 (pX10_tear aL2) (fun x19 => if x18 = x19 then (fL_law_998 (fL_law_18 n) aL0 aL1 aL2 xL3) else (m_ret (0 : Int32))))) else (if x3 = 28 then (m_cv aL1 8 (pX9_judge aL1) (fun x16 => m_cv aL2 9 (pX10_judge aL2) (fun x17 => if x16 = x17 then (fL_law_998 (fL_law_18 n) aL0 aL1 aL2 xL3) else (m_ret (0 : Int32))))) else (if x3 = 29 then (m_li 0 aL0 (xL3 + 1) (fun x12 => m_cv aL1 8 (pX9_seed aL1 x12) (fun x13 => m_li 0 aL0 (xL3 + 1) (fun x14 => m_cv aL2 9 (pX10_seed aL2 x14) (fun x15 => if x13 = x15 then (fL_law_998 (fL_law_18 n) aL0 aL1 aL2 xL3) else (m_ret (0 : Int32))))))) else (if x3 = 30 then (m_li 0 aL0 (xL3 + 1) (fun x8 => m_cv aL1 8 (pX9_keep aL1 x8) (fun x9 => m_li 0 aL0 (xL3 + 1) (fun x10 => m_cv aL2 9 (pX10_keep aL2 x10) (fun x11 => if x9 = x11 then (fL_law_998 (fL_law_18 n) aL0 aL1 aL2 xL3) else (m_ret (0 : Int32))))))) else (if x3 = 31 then (m_li 0 aL0 (xL3 + 1) (fun x4 => m_cv aL1 8 (pX9_goBack aL1 x4) (fun x5 => m_li 0 aL0 (xL3 + 1) (fun x6 => m_cv aL2 9 (pX10_goBack aL2 x6) (fun x7 => if x5 = x7 then (fL_law_998 (fL_law_18 n) aL0 aL1 aL2 xL3) else (m_ret (0 : Int32))))))) else (fL_law_998 (fL_law_18 n) aL0 aL1 aL2 xL3))))))))))))))))))))))))))))))))))))
def pL_law (a0_ : Nat) : MM Int32 := m_new 8 [.null, .null, .null, .null, .null, .null, .null, .null, .null, .int 0] (fun a1 => m_bind (pX9_init a1) (fun _ => m_new 9 [.int 0, .null, .int 0, .null, .null, .null, .int 0, .int 0, .null, .int 0, .null, .int 0, .int 0, .int 0, .int 0, .int 0, .int 0, .null, .int 0, .null, .null, .null, .int 0, .int 0, .int 0, .int 0, .null, .null, .null, .null, .null, .int 0, .null, .null, .null, .null] (fun a2 => m_bind (pX10_init a2) (fun _ => fL_law_18 c_fu a0_ a1 a2 0))))
set_option maxRecDepth 100000 in
set_option maxHeartbeats 4000000 in
theorem tL_law_421 {p : Program} {l : Launch} {e : Env} {s : State} {m : MethodId} {args : Array Value} {below : List Frame} {meth : Method} {c : Code} {G : cG} {Q : Int32 → cH → State → Prop} (hO : c_Ok p s m c cL_law 4 RL G) (hR1 : ∀ (pc : Nat) (lv : List (Nat × Value)) (x : Int32), decode cL_law pc = .ok (.ireturn, 1) → Sm p l e room_1 s m args below meth c G 4 Q 154 7665 pc lv [.int x] (m_ret x)) (k998 : Nat → Nat → Nat → Int32 → MM Int32) (hk998 : ∀ (aL0 : Nat) (aL1 : Nat) (aL2 : Nat) (xL3 : Int32), Sm p l e room_1 s m args below meth c G 4 Q 154 7665 998 [(0, .ref aL0), (1, .ref aL1), (2, .ref aL2), (3, .int xL3)] [] (k998 aL0 aL1 aL2 xL3))  : ∀ (aL0 : Nat) (aL1 : Nat) (aL2 : Nat) (xL3 : Int32) (xS0 : Int32) (xS1 : Int32) (aS2 : Nat) (xS3 : Int32), Sm p l e room_1 s m args below meth c G 4 Q 154 7665 421 [(0, .ref aL0), (1, .ref aL1), (2, .ref aL2), (3, .int xL3)] [.int xS0, .int xS1, .ref aS2, .int xS3] (fL_law_421 k998 aL0 aL1 aL2 xL3 xS0 xS1 aS2 xS3) := by
  intro aL0 aL1 aL2 xL3 xS0 xS1 aS2 xS3
  rw [fL_law_421]
  refine sm_cvi hO (ctX10_lay l G aS2 xS1 xS0) cw_RL_52 cv_X10_lay [.int xS3] rfl rfl ⟨(Nat.le_of_ble_eq_true rfl), (Nat.le_of_ble_eq_true rfl)⟩ ⟨(Nat.le_of_ble_eq_true rfl), (Nat.le_of_ble_eq_true rfl)⟩ (Nat.le_of_ble_eq_true rfl) dL_law_421 (fun x1 => ?_)
  refine sm_icmp_eq (tgt := 998) hO dL_law_424 (by decide) ?_ ?_
  · exact sm_sub [0, 1, 2, 3] rfl (hk998 aL0 aL1 aL2 xL3)
  · refine sm_iconst (v := 0) hO dL_law_427 rfl ?_
    exact hR1 _ _ _ dL_law_428
set_option maxRecDepth 100000 in
set_option maxHeartbeats 4000000 in
theorem tL_law_399 {p : Program} {l : Launch} {e : Env} {s : State} {m : MethodId} {args : Array Value} {below : List Frame} {meth : Method} {c : Code} {G : cG} {Q : Int32 → cH → State → Prop} (hO : c_Ok p s m c cL_law 4 RL G) (hR1 : ∀ (pc : Nat) (lv : List (Nat × Value)) (x : Int32), decode cL_law pc = .ok (.ireturn, 1) → Sm p l e room_1 s m args below meth c G 4 Q 154 7665 pc lv [.int x] (m_ret x)) (k998 : Nat → Nat → Nat → Int32 → MM Int32) (hk998 : ∀ (aL0 : Nat) (aL1 : Nat) (aL2 : Nat) (xL3 : Int32), Sm p l e room_1 s m args below meth c G 4 Q 154 7665 998 [(0, .ref aL0), (1, .ref aL1), (2, .ref aL2), (3, .int xL3)] [] (k998 aL0 aL1 aL2 xL3))  : ∀ (aL0 : Nat) (aL1 : Nat) (aL2 : Nat) (xL3 : Int32) (xS0 : Int32) (xS1 : Int32) (aS2 : Nat), Sm p l e room_1 s m args below meth c G 4 Q 154 7665 399 [(0, .ref aL0), (1, .ref aL1), (2, .ref aL2), (3, .int xL3)] [.int xS0, .int xS1, .ref aS2] (fL_law_399 k998 aL0 aL1 aL2 xL3 xS0 xS1 aS2) := by
  intro aL0 aL1 aL2 xL3 xS0 xS1 aS2
  rw [fL_law_399]
  refine sm_cvi hO (ctX9_lay l G aS2 xS1 xS0) cw_RL_48 cv_X9_lay [] rfl rfl ⟨(Nat.le_of_ble_eq_true rfl), (Nat.le_of_ble_eq_true rfl)⟩ ⟨(Nat.le_of_ble_eq_true rfl), (Nat.le_of_ble_eq_true rfl)⟩ (Nat.le_of_ble_eq_true rfl) dL_law_399 (fun x1 => ?_)
  refine sm_aload_n hO 2 dL_law_402 rfl rfl ?_
  refine sm_aload_n hO 0 dL_law_403 rfl rfl ?_
  refine sm_iload_n hO 3 dL_law_404 rfl rfl ?_
  refine sm_iconst (v := 1) hO dL_law_405 rfl ?_
  refine sm_iadd hO dL_law_406 ?_
  refine sm_li hO dL_law_407 (fun x2 => ?_)
  refine sm_aload_n hO 0 dL_law_408 rfl rfl ?_
  refine sm_iload_n hO 3 dL_law_409 rfl rfl ?_
  refine sm_iconst (v := 2) hO dL_law_410 rfl ?_
  refine sm_iadd hO dL_law_411 ?_
  refine sm_li hO dL_law_412 (fun x3 => ?_)
  refine sm_if_eq (tgt := 420) hO dL_law_413 (by decide) ?_ ?_
  · refine sm_iconst (v := 0) hO dL_law_420 rfl ?_
    exact sm_sub [0, 1, 2, 3] rfl (tL_law_421 hO hR1 k998 hk998 aL0 aL1 aL2 xL3 0 x2 aL2 x1)
  · refine sm_iconst (v := 1) hO dL_law_416 rfl ?_
    refine sm_goto (tgt := 421) hO dL_law_417 (by decide) ?_
    exact sm_sub [0, 1, 2, 3] rfl (tL_law_421 hO hR1 k998 hk998 aL0 aL1 aL2 xL3 1 x2 aL2 x1)
set_option maxRecDepth 100000 in
set_option maxHeartbeats 4000000 in
theorem tL_law_998 {p : Program} {l : Launch} {e : Env} {s : State} {m : MethodId} {args : Array Value} {below : List Frame} {meth : Method} {c : Code} {G : cG} {Q : Int32 → cH → State → Prop} (hO : c_Ok p s m c cL_law 4 RL G) (hR1 : ∀ (pc : Nat) (lv : List (Nat × Value)) (x : Int32), decode cL_law pc = .ok (.ireturn, 1) → Sm p l e room_1 s m args below meth c G 4 Q 154 7665 pc lv [.int x] (m_ret x)) (k18 : Nat → Nat → Nat → Int32 → MM Int32) (hk18 : ∀ (aL0 : Nat) (aL1 : Nat) (aL2 : Nat) (xL3 : Int32), Sm p l e room_1 s m args below meth c G 4 Q 154 7665 18 [(0, .ref aL0), (1, .ref aL1), (2, .ref aL2), (3, .int xL3)] [] (k18 aL0 aL1 aL2 xL3))  : ∀ (aL0 : Nat) (aL1 : Nat) (aL2 : Nat) (xL3 : Int32), Sm p l e room_1 s m args below meth c G 4 Q 154 7665 998 [(0, .ref aL0), (1, .ref aL1), (2, .ref aL2), (3, .int xL3)] [] (fL_law_998 k18 aL0 aL1 aL2 xL3) := by
  intro aL0 aL1 aL2 xL3
  rw [fL_law_998]
  refine sm_iincL (v := xL3 + 3) hO 3 (fun x1 => [(3, .int x1), (0, .ref aL0), (1, .ref aL1), (2, .ref aL2)]) dL_law_998 rfl rfl (by decide) (fun _ => rfl) (fun x1 => ?_)
  refine sm_goto (tgt := 18) hO dL_law_1001 (by decide) ?_
  exact sm_sub [1, 2, 3, 0] rfl (hk18 aL0 aL1 aL2 x1)
set_option maxRecDepth 100000 in
set_option maxHeartbeats 4000000 in
theorem tL_law_18 {p : Program} {l : Launch} {e : Env} {s : State} {m : MethodId} {args : Array Value} {below : List Frame} {meth : Method} {c : Code} {G : cG} {Q : Int32 → cH → State → Prop} (hO : c_Ok p s m c cL_law 4 RL G) (hR1 : ∀ (pc : Nat) (lv : List (Nat × Value)) (x : Int32), decode cL_law pc = .ok (.ireturn, 1) → Sm p l e room_1 s m args below meth c G 4 Q 154 7665 pc lv [.int x] (m_ret x)) : ∀ (n : Nat) (aL0 : Nat) (aL1 : Nat) (aL2 : Nat) (xL3 : Int32), Sm p l e room_1 s m args below meth c G 4 Q 154 7665 18 [(0, .ref aL0), (1, .ref aL1), (2, .ref aL2), (3, .int xL3)] [] (fL_law_18 n aL0 aL1 aL2 xL3) := by
  intro n
  induction n with
  | zero =>
    intro aL0 aL1 aL2 xL3
    exact sm_bad
  | succ n ih =>
    intro aL0 aL1 aL2 xL3
    rw [fL_law_18]
    refine sm_iload_n hO 3 dL_law_18 rfl rfl ?_
    refine sm_aload_n hO 0 dL_law_19 rfl rfl ?_
    refine sm_len hO dL_law_20 (fun x1 => ?_)
    refine sm_iconst (v := 3) hO dL_law_21 rfl ?_
    refine sm_isub hO dL_law_22 ?_
    refine sm_icmp_gt (tgt := 1004) hO dL_law_23 (by decide) ?_ ?_
    · refine sm_iconst (v := 1) hO dL_law_1004 rfl ?_
      exact hR1 _ _ _ dL_law_1005
    · refine sm_aload_n hO 0 dL_law_26 rfl rfl ?_
      refine sm_iload_n hO 3 dL_law_27 rfl rfl ?_
      refine sm_li hO dL_law_28 (fun x2 => ?_)
      refine sm_bipush (v := 31) hO dL_law_29 rfl ?_
      refine sm_iand hO dL_law_31 ?_
      refine sm_topi (fun x3 => ?_)
      refine sm_ite (fun q32_0 => ?_) (fun q32_0 => ?_)
      · refine sm_tabIn (tgt := 176) hO dL_law_32 q32_0 (by decide) (by decide) rfl (by decide) ?_
        refine sm_aload_n hO 1 dL_law_176 rfl rfl ?_
        refine sm_aload_n hO 0 dL_law_177 rfl rfl ?_
        refine sm_iload_n hO 3 dL_law_178 rfl rfl ?_
        refine sm_iconst (v := 1) hO dL_law_179 rfl ?_
        refine sm_iadd hO dL_law_180 ?_
        refine sm_li hO dL_law_181 (fun x138 => ?_)
        refine sm_cvi hO (ctX9_feed l G aL1 x138) cw_RL_13 cv_X9_feed [] rfl rfl ⟨(Nat.le_of_ble_eq_true rfl), (Nat.le_of_ble_eq_true rfl)⟩ ⟨(Nat.le_of_ble_eq_true rfl), (Nat.le_of_ble_eq_true rfl)⟩ (Nat.le_of_ble_eq_true rfl) dL_law_182 (fun x139 => ?_)
        refine sm_aload_n hO 2 dL_law_185 rfl rfl ?_
        refine sm_aload_n hO 0 dL_law_186 rfl rfl ?_
        refine sm_iload_n hO 3 dL_law_187 rfl rfl ?_
        refine sm_iconst (v := 1) hO dL_law_188 rfl ?_
        refine sm_iadd hO dL_law_189 ?_
        refine sm_li hO dL_law_190 (fun x140 => ?_)
        refine sm_cvi hO (ctX10_feed l G aL2 x140) cw_RL_17 cv_X10_feed [.int x139] rfl rfl ⟨(Nat.le_of_ble_eq_true rfl), (Nat.le_of_ble_eq_true rfl)⟩ ⟨(Nat.le_of_ble_eq_true rfl), (Nat.le_of_ble_eq_true rfl)⟩ (Nat.le_of_ble_eq_true rfl) dL_law_191 (fun x141 => ?_)
        refine sm_icmp_eq (tgt := 998) hO dL_law_194 (by decide) ?_ ?_
        · exact sm_sub [0, 1, 2, 3] rfl (tL_law_998 hO hR1 (fL_law_18 n) ih aL0 aL1 aL2 xL3)
        · refine sm_iconst (v := 0) hO dL_law_197 rfl ?_
          exact hR1 _ _ _ dL_law_198
      · refine sm_ite (fun q32_1 => ?_) (fun q32_1 => ?_)
        · refine sm_tabIn (tgt := 199) hO dL_law_32 q32_1 (by decide) (by decide) rfl (by decide) ?_
          refine sm_aload_n hO 1 dL_law_199 rfl rfl ?_
          refine sm_cvi hO (ctX9_congress l G aL1) cw_RL_18 cv_X9_congress [] rfl rfl ⟨(Nat.le_of_ble_eq_true rfl), (Nat.le_of_ble_eq_true rfl)⟩ ⟨(Nat.le_of_ble_eq_true rfl), (Nat.le_of_ble_eq_true rfl)⟩ (Nat.le_of_ble_eq_true rfl) dL_law_200 (fun x136 => ?_)
          refine sm_aload_n hO 2 dL_law_203 rfl rfl ?_
          refine sm_cvi hO (ctX10_congress l G aL2) cw_RL_22 cv_X10_congress [.int x136] rfl rfl ⟨(Nat.le_of_ble_eq_true rfl), (Nat.le_of_ble_eq_true rfl)⟩ ⟨(Nat.le_of_ble_eq_true rfl), (Nat.le_of_ble_eq_true rfl)⟩ (Nat.le_of_ble_eq_true rfl) dL_law_204 (fun x137 => ?_)
          refine sm_icmp_eq (tgt := 998) hO dL_law_207 (by decide) ?_ ?_
          · exact sm_sub [0, 1, 2, 3] rfl (tL_law_998 hO hR1 (fL_law_18 n) ih aL0 aL1 aL2 xL3)
          · refine sm_iconst (v := 0) hO dL_law_210 rfl ?_
            exact hR1 _ _ _ dL_law_211
        · refine sm_ite (fun q32_2 => ?_) (fun q32_2 => ?_)
          · refine sm_tabIn (tgt := 212) hO dL_law_32 q32_2 (by decide) (by decide) rfl (by decide) ?_
            refine sm_aload_n hO 1 dL_law_212 rfl rfl ?_
            refine sm_cvi hO (ctX9_fault l G aL1) cw_RL_23 cv_X9_fault [] rfl rfl ⟨(Nat.le_of_ble_eq_true rfl), (Nat.le_of_ble_eq_true rfl)⟩ ⟨(Nat.le_of_ble_eq_true rfl), (Nat.le_of_ble_eq_true rfl)⟩ (Nat.le_of_ble_eq_true rfl) dL_law_213 (fun x134 => ?_)
            refine sm_aload_n hO 2 dL_law_216 rfl rfl ?_
            refine sm_cvi hO (ctX10_fault l G aL2) cw_RL_26 cv_X10_fault [.int x134] rfl rfl ⟨(Nat.le_of_ble_eq_true rfl), (Nat.le_of_ble_eq_true rfl)⟩ ⟨(Nat.le_of_ble_eq_true rfl), (Nat.le_of_ble_eq_true rfl)⟩ (Nat.le_of_ble_eq_true rfl) dL_law_217 (fun x135 => ?_)
            refine sm_icmp_eq (tgt := 998) hO dL_law_220 (by decide) ?_ ?_
            · exact sm_sub [0, 1, 2, 3] rfl (tL_law_998 hO hR1 (fL_law_18 n) ih aL0 aL1 aL2 xL3)
            · refine sm_iconst (v := 0) hO dL_law_223 rfl ?_
              exact hR1 _ _ _ dL_law_224
          · refine sm_ite (fun q32_3 => ?_) (fun q32_3 => ?_)
            · refine sm_tabIn (tgt := 225) hO dL_law_32 q32_3 (by decide) (by decide) rfl (by decide) ?_
              refine sm_aload_n hO 1 dL_law_225 rfl rfl ?_
              refine sm_aload_n hO 0 dL_law_226 rfl rfl ?_
              refine sm_iload_n hO 3 dL_law_227 rfl rfl ?_
              refine sm_iconst (v := 1) hO dL_law_228 rfl ?_
              refine sm_iadd hO dL_law_229 ?_
              refine sm_li hO dL_law_230 (fun x130 => ?_)
              refine sm_cvi hO (ctX9_told l G aL1 x130) cw_RL_27 cv_X9_told [] rfl rfl ⟨(Nat.le_of_ble_eq_true rfl), (Nat.le_of_ble_eq_true rfl)⟩ ⟨(Nat.le_of_ble_eq_true rfl), (Nat.le_of_ble_eq_true rfl)⟩ (Nat.le_of_ble_eq_true rfl) dL_law_231 (fun x131 => ?_)
              refine sm_aload_n hO 2 dL_law_234 rfl rfl ?_
              refine sm_aload_n hO 0 dL_law_235 rfl rfl ?_
              refine sm_iload_n hO 3 dL_law_236 rfl rfl ?_
              refine sm_iconst (v := 1) hO dL_law_237 rfl ?_
              refine sm_iadd hO dL_law_238 ?_
              refine sm_li hO dL_law_239 (fun x132 => ?_)
              refine sm_cvi hO (ctX10_told l G aL2 x132) cw_RL_30 cv_X10_told [.int x131] rfl rfl ⟨(Nat.le_of_ble_eq_true rfl), (Nat.le_of_ble_eq_true rfl)⟩ ⟨(Nat.le_of_ble_eq_true rfl), (Nat.le_of_ble_eq_true rfl)⟩ (Nat.le_of_ble_eq_true rfl) dL_law_240 (fun x133 => ?_)
              refine sm_icmp_eq (tgt := 998) hO dL_law_243 (by decide) ?_ ?_
              · exact sm_sub [0, 1, 2, 3] rfl (tL_law_998 hO hR1 (fL_law_18 n) ih aL0 aL1 aL2 xL3)
              · refine sm_iconst (v := 0) hO dL_law_246 rfl ?_
                exact hR1 _ _ _ dL_law_247
            · refine sm_ite (fun q32_4 => ?_) (fun q32_4 => ?_)
              · refine sm_tabIn (tgt := 248) hO dL_law_32 q32_4 (by decide) (by decide) rfl (by decide) ?_
                refine sm_aload_n hO 1 dL_law_248 rfl rfl ?_
                refine sm_aload_n hO 0 dL_law_249 rfl rfl ?_
                refine sm_iload_n hO 3 dL_law_250 rfl rfl ?_
                refine sm_iconst (v := 1) hO dL_law_251 rfl ?_
                refine sm_iadd hO dL_law_252 ?_
                refine sm_li hO dL_law_253 (fun x124 => ?_)
                refine sm_aload_n hO 0 dL_law_254 rfl rfl ?_
                refine sm_iload_n hO 3 dL_law_255 rfl rfl ?_
                refine sm_iconst (v := 2) hO dL_law_256 rfl ?_
                refine sm_iadd hO dL_law_257 ?_
                refine sm_li hO dL_law_258 (fun x125 => ?_)
                refine sm_cvi hO (ctX9_doll l G aL1 x124 x125) cw_RL_31 cv_X9_doll [] rfl rfl ⟨(Nat.le_of_ble_eq_true rfl), (Nat.le_of_ble_eq_true rfl)⟩ ⟨(Nat.le_of_ble_eq_true rfl), (Nat.le_of_ble_eq_true rfl)⟩ (Nat.le_of_ble_eq_true rfl) dL_law_259 (fun x126 => ?_)
                refine sm_aload_n hO 2 dL_law_262 rfl rfl ?_
                refine sm_aload_n hO 0 dL_law_263 rfl rfl ?_
                refine sm_iload_n hO 3 dL_law_264 rfl rfl ?_
                refine sm_iconst (v := 1) hO dL_law_265 rfl ?_
                refine sm_iadd hO dL_law_266 ?_
                refine sm_li hO dL_law_267 (fun x127 => ?_)
                refine sm_aload_n hO 0 dL_law_268 rfl rfl ?_
                refine sm_iload_n hO 3 dL_law_269 rfl rfl ?_
                refine sm_iconst (v := 2) hO dL_law_270 rfl ?_
                refine sm_iadd hO dL_law_271 ?_
                refine sm_li hO dL_law_272 (fun x128 => ?_)
                refine sm_cvi hO (ctX10_doll l G aL2 x127 x128) cw_RL_35 cv_X10_doll [.int x126] rfl rfl ⟨(Nat.le_of_ble_eq_true rfl), (Nat.le_of_ble_eq_true rfl)⟩ ⟨(Nat.le_of_ble_eq_true rfl), (Nat.le_of_ble_eq_true rfl)⟩ (Nat.le_of_ble_eq_true rfl) dL_law_273 (fun x129 => ?_)
                refine sm_icmp_eq (tgt := 998) hO dL_law_276 (by decide) ?_ ?_
                · exact sm_sub [0, 1, 2, 3] rfl (tL_law_998 hO hR1 (fL_law_18 n) ih aL0 aL1 aL2 xL3)
                · refine sm_iconst (v := 0) hO dL_law_279 rfl ?_
                  exact hR1 _ _ _ dL_law_280
              · refine sm_ite (fun q32_5 => ?_) (fun q32_5 => ?_)
                · refine sm_tabIn (tgt := 281) hO dL_law_32 q32_5 (by decide) (by decide) rfl (by decide) ?_
                  refine sm_aload_n hO 1 dL_law_281 rfl rfl ?_
                  refine sm_aload_n hO 0 dL_law_282 rfl rfl ?_
                  refine sm_iload_n hO 3 dL_law_283 rfl rfl ?_
                  refine sm_iconst (v := 1) hO dL_law_284 rfl ?_
                  refine sm_iadd hO dL_law_285 ?_
                  refine sm_li hO dL_law_286 (fun x118 => ?_)
                  refine sm_aload_n hO 0 dL_law_287 rfl rfl ?_
                  refine sm_iload_n hO 3 dL_law_288 rfl rfl ?_
                  refine sm_iconst (v := 2) hO dL_law_289 rfl ?_
                  refine sm_iadd hO dL_law_290 ?_
                  refine sm_li hO dL_law_291 (fun x119 => ?_)
                  refine sm_cvi hO (ctX9_court l G aL1 x118 x119) cw_RL_36 cv_X9_court [] rfl rfl ⟨(Nat.le_of_ble_eq_true rfl), (Nat.le_of_ble_eq_true rfl)⟩ ⟨(Nat.le_of_ble_eq_true rfl), (Nat.le_of_ble_eq_true rfl)⟩ (Nat.le_of_ble_eq_true rfl) dL_law_292 (fun x120 => ?_)
                  refine sm_aload_n hO 2 dL_law_295 rfl rfl ?_
                  refine sm_aload_n hO 0 dL_law_296 rfl rfl ?_
                  refine sm_iload_n hO 3 dL_law_297 rfl rfl ?_
                  refine sm_iconst (v := 1) hO dL_law_298 rfl ?_
                  refine sm_iadd hO dL_law_299 ?_
                  refine sm_li hO dL_law_300 (fun x121 => ?_)
                  refine sm_aload_n hO 0 dL_law_301 rfl rfl ?_
                  refine sm_iload_n hO 3 dL_law_302 rfl rfl ?_
                  refine sm_iconst (v := 2) hO dL_law_303 rfl ?_
                  refine sm_iadd hO dL_law_304 ?_
                  refine sm_li hO dL_law_305 (fun x122 => ?_)
                  refine sm_cvi hO (ctX10_court l G aL2 x121 x122) cw_RL_39 cv_X10_court [.int x120] rfl rfl ⟨(Nat.le_of_ble_eq_true rfl), (Nat.le_of_ble_eq_true rfl)⟩ ⟨(Nat.le_of_ble_eq_true rfl), (Nat.le_of_ble_eq_true rfl)⟩ (Nat.le_of_ble_eq_true rfl) dL_law_306 (fun x123 => ?_)
                  refine sm_icmp_eq (tgt := 998) hO dL_law_309 (by decide) ?_ ?_
                  · exact sm_sub [0, 1, 2, 3] rfl (tL_law_998 hO hR1 (fL_law_18 n) ih aL0 aL1 aL2 xL3)
                  · refine sm_iconst (v := 0) hO dL_law_312 rfl ?_
                    exact hR1 _ _ _ dL_law_313
                · refine sm_ite (fun q32_6 => ?_) (fun q32_6 => ?_)
                  · refine sm_tabIn (tgt := 314) hO dL_law_32 q32_6 (by decide) (by decide) rfl (by decide) ?_
                    refine sm_aload_n hO 1 dL_law_314 rfl rfl ?_
                    refine sm_aload_n hO 0 dL_law_315 rfl rfl ?_
                    refine sm_iload_n hO 3 dL_law_316 rfl rfl ?_
                    refine sm_iconst (v := 1) hO dL_law_317 rfl ?_
                    refine sm_iadd hO dL_law_318 ?_
                    refine sm_li hO dL_law_319 (fun x112 => ?_)
                    refine sm_aload_n hO 0 dL_law_320 rfl rfl ?_
                    refine sm_iload_n hO 3 dL_law_321 rfl rfl ?_
                    refine sm_iconst (v := 2) hO dL_law_322 rfl ?_
                    refine sm_iadd hO dL_law_323 ?_
                    refine sm_li hO dL_law_324 (fun x113 => ?_)
                    refine sm_cvi hO (ctX9_post l G aL1 x112 x113) cw_RL_40 cv_X9_post [] rfl rfl ⟨(Nat.le_of_ble_eq_true rfl), (Nat.le_of_ble_eq_true rfl)⟩ ⟨(Nat.le_of_ble_eq_true rfl), (Nat.le_of_ble_eq_true rfl)⟩ (Nat.le_of_ble_eq_true rfl) dL_law_325 (fun x114 => ?_)
                    refine sm_aload_n hO 2 dL_law_328 rfl rfl ?_
                    refine sm_aload_n hO 0 dL_law_329 rfl rfl ?_
                    refine sm_iload_n hO 3 dL_law_330 rfl rfl ?_
                    refine sm_iconst (v := 1) hO dL_law_331 rfl ?_
                    refine sm_iadd hO dL_law_332 ?_
                    refine sm_li hO dL_law_333 (fun x115 => ?_)
                    refine sm_aload_n hO 0 dL_law_334 rfl rfl ?_
                    refine sm_iload_n hO 3 dL_law_335 rfl rfl ?_
                    refine sm_iconst (v := 2) hO dL_law_336 rfl ?_
                    refine sm_iadd hO dL_law_337 ?_
                    refine sm_li hO dL_law_338 (fun x116 => ?_)
                    refine sm_cvi hO (ctX10_post l G aL2 x115 x116) cw_RL_43 cv_X10_post [.int x114] rfl rfl ⟨(Nat.le_of_ble_eq_true rfl), (Nat.le_of_ble_eq_true rfl)⟩ ⟨(Nat.le_of_ble_eq_true rfl), (Nat.le_of_ble_eq_true rfl)⟩ (Nat.le_of_ble_eq_true rfl) dL_law_339 (fun x117 => ?_)
                    refine sm_icmp_eq (tgt := 998) hO dL_law_342 (by decide) ?_ ?_
                    · exact sm_sub [0, 1, 2, 3] rfl (tL_law_998 hO hR1 (fL_law_18 n) ih aL0 aL1 aL2 xL3)
                    · refine sm_iconst (v := 0) hO dL_law_345 rfl ?_
                      exact hR1 _ _ _ dL_law_346
                  · refine sm_ite (fun q32_7 => ?_) (fun q32_7 => ?_)
                    · refine sm_tabIn (tgt := 347) hO dL_law_32 q32_7 (by decide) (by decide) rfl (by decide) ?_
                      refine sm_aload_n hO 1 dL_law_347 rfl rfl ?_
                      refine sm_aload_n hO 0 dL_law_348 rfl rfl ?_
                      refine sm_iload_n hO 3 dL_law_349 rfl rfl ?_
                      refine sm_iconst (v := 1) hO dL_law_350 rfl ?_
                      refine sm_iadd hO dL_law_351 ?_
                      refine sm_li hO dL_law_352 (fun x106 => ?_)
                      refine sm_aload_n hO 0 dL_law_353 rfl rfl ?_
                      refine sm_iload_n hO 3 dL_law_354 rfl rfl ?_
                      refine sm_iconst (v := 2) hO dL_law_355 rfl ?_
                      refine sm_iadd hO dL_law_356 ?_
                      refine sm_li hO dL_law_357 (fun x107 => ?_)
                      refine sm_cvi hO (ctX9_mix l G aL1 x106 x107) cw_RL_44 cv_X9_mix [] rfl rfl ⟨(Nat.le_of_ble_eq_true rfl), (Nat.le_of_ble_eq_true rfl)⟩ ⟨(Nat.le_of_ble_eq_true rfl), (Nat.le_of_ble_eq_true rfl)⟩ (Nat.le_of_ble_eq_true rfl) dL_law_358 (fun x108 => ?_)
                      refine sm_aload_n hO 2 dL_law_361 rfl rfl ?_
                      refine sm_aload_n hO 0 dL_law_362 rfl rfl ?_
                      refine sm_iload_n hO 3 dL_law_363 rfl rfl ?_
                      refine sm_iconst (v := 1) hO dL_law_364 rfl ?_
                      refine sm_iadd hO dL_law_365 ?_
                      refine sm_li hO dL_law_366 (fun x109 => ?_)
                      refine sm_aload_n hO 0 dL_law_367 rfl rfl ?_
                      refine sm_iload_n hO 3 dL_law_368 rfl rfl ?_
                      refine sm_iconst (v := 2) hO dL_law_369 rfl ?_
                      refine sm_iadd hO dL_law_370 ?_
                      refine sm_li hO dL_law_371 (fun x110 => ?_)
                      refine sm_cvi hO (ctX10_mix l G aL2 x109 x110) cw_RL_47 cv_X10_mix [.int x108] rfl rfl ⟨(Nat.le_of_ble_eq_true rfl), (Nat.le_of_ble_eq_true rfl)⟩ ⟨(Nat.le_of_ble_eq_true rfl), (Nat.le_of_ble_eq_true rfl)⟩ (Nat.le_of_ble_eq_true rfl) dL_law_372 (fun x111 => ?_)
                      refine sm_icmp_eq (tgt := 998) hO dL_law_375 (by decide) ?_ ?_
                      · exact sm_sub [0, 1, 2, 3] rfl (tL_law_998 hO hR1 (fL_law_18 n) ih aL0 aL1 aL2 xL3)
                      · refine sm_iconst (v := 0) hO dL_law_378 rfl ?_
                        exact hR1 _ _ _ dL_law_379
                    · refine sm_ite (fun q32_8 => ?_) (fun q32_8 => ?_)
                      · refine sm_tabIn (tgt := 380) hO dL_law_32 q32_8 (by decide) (by decide) rfl (by decide) ?_
                        refine sm_aload_n hO 1 dL_law_380 rfl rfl ?_
                        refine sm_aload_n hO 0 dL_law_381 rfl rfl ?_
                        refine sm_iload_n hO 3 dL_law_382 rfl rfl ?_
                        refine sm_iconst (v := 1) hO dL_law_383 rfl ?_
                        refine sm_iadd hO dL_law_384 ?_
                        refine sm_li hO dL_law_385 (fun x104 => ?_)
                        refine sm_aload_n hO 0 dL_law_386 rfl rfl ?_
                        refine sm_iload_n hO 3 dL_law_387 rfl rfl ?_
                        refine sm_iconst (v := 2) hO dL_law_388 rfl ?_
                        refine sm_iadd hO dL_law_389 ?_
                        refine sm_li hO dL_law_390 (fun x105 => ?_)
                        refine sm_if_eq (tgt := 398) hO dL_law_391 (by decide) ?_ ?_
                        · refine sm_iconst (v := 0) hO dL_law_398 rfl ?_
                          exact sm_sub [0, 1, 2, 3] rfl (tL_law_399 hO hR1 (fL_law_998 (fL_law_18 n)) (tL_law_998 hO hR1 (fL_law_18 n) ih) aL0 aL1 aL2 xL3 0 x104 aL1)
                        · refine sm_iconst (v := 1) hO dL_law_394 rfl ?_
                          refine sm_goto (tgt := 399) hO dL_law_395 (by decide) ?_
                          exact sm_sub [0, 1, 2, 3] rfl (tL_law_399 hO hR1 (fL_law_998 (fL_law_18 n)) (tL_law_998 hO hR1 (fL_law_18 n) ih) aL0 aL1 aL2 xL3 1 x104 aL1)
                      · refine sm_ite (fun q32_9 => ?_) (fun q32_9 => ?_)
                        · refine sm_tabIn (tgt := 429) hO dL_law_32 q32_9 (by decide) (by decide) rfl (by decide) ?_
                          refine sm_aload_n hO 1 dL_law_429 rfl rfl ?_
                          refine sm_aload_n hO 0 dL_law_430 rfl rfl ?_
                          refine sm_iload_n hO 3 dL_law_431 rfl rfl ?_
                          refine sm_iconst (v := 1) hO dL_law_432 rfl ?_
                          refine sm_iadd hO dL_law_433 ?_
                          refine sm_li hO dL_law_434 (fun x98 => ?_)
                          refine sm_aload_n hO 0 dL_law_435 rfl rfl ?_
                          refine sm_iload_n hO 3 dL_law_436 rfl rfl ?_
                          refine sm_iconst (v := 2) hO dL_law_437 rfl ?_
                          refine sm_iadd hO dL_law_438 ?_
                          refine sm_li hO dL_law_439 (fun x99 => ?_)
                          refine sm_cvi hO (ctX9_mask l G aL1 x98 x99) cw_RL_53 cv_X9_mask [] rfl rfl ⟨(Nat.le_of_ble_eq_true rfl), (Nat.le_of_ble_eq_true rfl)⟩ ⟨(Nat.le_of_ble_eq_true rfl), (Nat.le_of_ble_eq_true rfl)⟩ (Nat.le_of_ble_eq_true rfl) dL_law_440 (fun x100 => ?_)
                          refine sm_aload_n hO 2 dL_law_443 rfl rfl ?_
                          refine sm_aload_n hO 0 dL_law_444 rfl rfl ?_
                          refine sm_iload_n hO 3 dL_law_445 rfl rfl ?_
                          refine sm_iconst (v := 1) hO dL_law_446 rfl ?_
                          refine sm_iadd hO dL_law_447 ?_
                          refine sm_li hO dL_law_448 (fun x101 => ?_)
                          refine sm_aload_n hO 0 dL_law_449 rfl rfl ?_
                          refine sm_iload_n hO 3 dL_law_450 rfl rfl ?_
                          refine sm_iconst (v := 2) hO dL_law_451 rfl ?_
                          refine sm_iadd hO dL_law_452 ?_
                          refine sm_li hO dL_law_453 (fun x102 => ?_)
                          refine sm_cvi hO (ctX10_mask l G aL2 x101 x102) cw_RL_56 cv_X10_mask [.int x100] rfl rfl ⟨(Nat.le_of_ble_eq_true rfl), (Nat.le_of_ble_eq_true rfl)⟩ ⟨(Nat.le_of_ble_eq_true rfl), (Nat.le_of_ble_eq_true rfl)⟩ (Nat.le_of_ble_eq_true rfl) dL_law_454 (fun x103 => ?_)
                          refine sm_icmp_eq (tgt := 998) hO dL_law_457 (by decide) ?_ ?_
                          · exact sm_sub [0, 1, 2, 3] rfl (tL_law_998 hO hR1 (fL_law_18 n) ih aL0 aL1 aL2 xL3)
                          · refine sm_iconst (v := 0) hO dL_law_460 rfl ?_
                            exact hR1 _ _ _ dL_law_461
                        · refine sm_ite (fun q32_10 => ?_) (fun q32_10 => ?_)
                          · refine sm_tabIn (tgt := 462) hO dL_law_32 q32_10 (by decide) (by decide) rfl (by decide) ?_
                            refine sm_aload_n hO 1 dL_law_462 rfl rfl ?_
                            refine sm_cvi hO (ctX9_audience l G aL1) cw_RL_57 cv_X9_audience [] rfl rfl ⟨(Nat.le_of_ble_eq_true rfl), (Nat.le_of_ble_eq_true rfl)⟩ ⟨(Nat.le_of_ble_eq_true rfl), (Nat.le_of_ble_eq_true rfl)⟩ (Nat.le_of_ble_eq_true rfl) dL_law_463 (fun x96 => ?_)
                            refine sm_aload_n hO 2 dL_law_466 rfl rfl ?_
                            refine sm_cvi hO (ctX10_audience l G aL2) cw_RL_60 cv_X10_audience [.int x96] rfl rfl ⟨(Nat.le_of_ble_eq_true rfl), (Nat.le_of_ble_eq_true rfl)⟩ ⟨(Nat.le_of_ble_eq_true rfl), (Nat.le_of_ble_eq_true rfl)⟩ (Nat.le_of_ble_eq_true rfl) dL_law_467 (fun x97 => ?_)
                            refine sm_icmp_eq (tgt := 998) hO dL_law_470 (by decide) ?_ ?_
                            · exact sm_sub [0, 1, 2, 3] rfl (tL_law_998 hO hR1 (fL_law_18 n) ih aL0 aL1 aL2 xL3)
                            · refine sm_iconst (v := 0) hO dL_law_473 rfl ?_
                              exact hR1 _ _ _ dL_law_474
                          · refine sm_ite (fun q32_11 => ?_) (fun q32_11 => ?_)
                            · refine sm_tabIn (tgt := 475) hO dL_law_32 q32_11 (by decide) (by decide) rfl (by decide) ?_
                              refine sm_aload_n hO 1 dL_law_475 rfl rfl ?_
                              refine sm_aload_n hO 0 dL_law_476 rfl rfl ?_
                              refine sm_iload_n hO 3 dL_law_477 rfl rfl ?_
                              refine sm_iconst (v := 1) hO dL_law_478 rfl ?_
                              refine sm_iadd hO dL_law_479 ?_
                              refine sm_li hO dL_law_480 (fun x92 => ?_)
                              refine sm_cvi hO (ctX9_year l G aL1 x92) cw_RL_61 cv_X9_year [] rfl rfl ⟨(Nat.le_of_ble_eq_true rfl), (Nat.le_of_ble_eq_true rfl)⟩ ⟨(Nat.le_of_ble_eq_true rfl), (Nat.le_of_ble_eq_true rfl)⟩ (Nat.le_of_ble_eq_true rfl) dL_law_481 (fun x93 => ?_)
                              refine sm_aload_n hO 2 dL_law_484 rfl rfl ?_
                              refine sm_aload_n hO 0 dL_law_485 rfl rfl ?_
                              refine sm_iload_n hO 3 dL_law_486 rfl rfl ?_
                              refine sm_iconst (v := 1) hO dL_law_487 rfl ?_
                              refine sm_iadd hO dL_law_488 ?_
                              refine sm_li hO dL_law_489 (fun x94 => ?_)
                              refine sm_cvi hO (ctX10_year l G aL2 x94) cw_RL_64 cv_X10_year [.int x93] rfl rfl ⟨(Nat.le_of_ble_eq_true rfl), (Nat.le_of_ble_eq_true rfl)⟩ ⟨(Nat.le_of_ble_eq_true rfl), (Nat.le_of_ble_eq_true rfl)⟩ (Nat.le_of_ble_eq_true rfl) dL_law_490 (fun x95 => ?_)
                              refine sm_icmp_eq (tgt := 998) hO dL_law_493 (by decide) ?_ ?_
                              · exact sm_sub [0, 1, 2, 3] rfl (tL_law_998 hO hR1 (fL_law_18 n) ih aL0 aL1 aL2 xL3)
                              · refine sm_iconst (v := 0) hO dL_law_496 rfl ?_
                                exact hR1 _ _ _ dL_law_497
                            · refine sm_ite (fun q32_12 => ?_) (fun q32_12 => ?_)
                              · refine sm_tabIn (tgt := 498) hO dL_law_32 q32_12 (by decide) (by decide) rfl (by decide) ?_
                                refine sm_aload_n hO 1 dL_law_498 rfl rfl ?_
                                refine sm_aload_n hO 0 dL_law_499 rfl rfl ?_
                                refine sm_iload_n hO 3 dL_law_500 rfl rfl ?_
                                refine sm_iconst (v := 1) hO dL_law_501 rfl ?_
                                refine sm_iadd hO dL_law_502 ?_
                                refine sm_li hO dL_law_503 (fun x88 => ?_)
                                refine sm_cvi hO (ctX9_drift l G aL1 x88) cw_RL_65 cv_X9_drift [] rfl rfl ⟨(Nat.le_of_ble_eq_true rfl), (Nat.le_of_ble_eq_true rfl)⟩ ⟨(Nat.le_of_ble_eq_true rfl), (Nat.le_of_ble_eq_true rfl)⟩ (Nat.le_of_ble_eq_true rfl) dL_law_504 (fun x89 => ?_)
                                refine sm_aload_n hO 2 dL_law_507 rfl rfl ?_
                                refine sm_aload_n hO 0 dL_law_508 rfl rfl ?_
                                refine sm_iload_n hO 3 dL_law_509 rfl rfl ?_
                                refine sm_iconst (v := 1) hO dL_law_510 rfl ?_
                                refine sm_iadd hO dL_law_511 ?_
                                refine sm_li hO dL_law_512 (fun x90 => ?_)
                                refine sm_cvi hO (ctX10_drift l G aL2 x90) cw_RL_68 cv_X10_drift [.int x89] rfl rfl ⟨(Nat.le_of_ble_eq_true rfl), (Nat.le_of_ble_eq_true rfl)⟩ ⟨(Nat.le_of_ble_eq_true rfl), (Nat.le_of_ble_eq_true rfl)⟩ (Nat.le_of_ble_eq_true rfl) dL_law_513 (fun x91 => ?_)
                                refine sm_icmp_eq (tgt := 998) hO dL_law_516 (by decide) ?_ ?_
                                · exact sm_sub [0, 1, 2, 3] rfl (tL_law_998 hO hR1 (fL_law_18 n) ih aL0 aL1 aL2 xL3)
                                · refine sm_iconst (v := 0) hO dL_law_519 rfl ?_
                                  exact hR1 _ _ _ dL_law_520
                              · refine sm_ite (fun q32_13 => ?_) (fun q32_13 => ?_)
                                · refine sm_tabIn (tgt := 521) hO dL_law_32 q32_13 (by decide) (by decide) rfl (by decide) ?_
                                  refine sm_aload_n hO 1 dL_law_521 rfl rfl ?_
                                  refine sm_cvi hO (ctX9_undo l G aL1) cw_RL_69 cv_X9_undo [] rfl rfl ⟨(Nat.le_of_ble_eq_true rfl), (Nat.le_of_ble_eq_true rfl)⟩ ⟨(Nat.le_of_ble_eq_true rfl), (Nat.le_of_ble_eq_true rfl)⟩ (Nat.le_of_ble_eq_true rfl) dL_law_522 (fun x86 => ?_)
                                  refine sm_aload_n hO 2 dL_law_525 rfl rfl ?_
                                  refine sm_cvi hO (ctX10_undo l G aL2) cw_RL_72 cv_X10_undo [.int x86] rfl rfl ⟨(Nat.le_of_ble_eq_true rfl), (Nat.le_of_ble_eq_true rfl)⟩ ⟨(Nat.le_of_ble_eq_true rfl), (Nat.le_of_ble_eq_true rfl)⟩ (Nat.le_of_ble_eq_true rfl) dL_law_526 (fun x87 => ?_)
                                  refine sm_icmp_eq (tgt := 998) hO dL_law_529 (by decide) ?_ ?_
                                  · exact sm_sub [0, 1, 2, 3] rfl (tL_law_998 hO hR1 (fL_law_18 n) ih aL0 aL1 aL2 xL3)
                                  · refine sm_iconst (v := 0) hO dL_law_532 rfl ?_
                                    exact hR1 _ _ _ dL_law_533
                                · refine sm_ite (fun q32_14 => ?_) (fun q32_14 => ?_)
                                  · refine sm_tabIn (tgt := 534) hO dL_law_32 q32_14 (by decide) (by decide) rfl (by decide) ?_
                                    refine sm_aload_n hO 1 dL_law_534 rfl rfl ?_
                                    refine sm_aload_n hO 0 dL_law_535 rfl rfl ?_
                                    refine sm_iload_n hO 3 dL_law_536 rfl rfl ?_
                                    refine sm_iconst (v := 1) hO dL_law_537 rfl ?_
                                    refine sm_iadd hO dL_law_538 ?_
                                    refine sm_li hO dL_law_539 (fun x80 => ?_)
                                    refine sm_aload_n hO 0 dL_law_540 rfl rfl ?_
                                    refine sm_iload_n hO 3 dL_law_541 rfl rfl ?_
                                    refine sm_iconst (v := 2) hO dL_law_542 rfl ?_
                                    refine sm_iadd hO dL_law_543 ?_
                                    refine sm_li hO dL_law_544 (fun x81 => ?_)
                                    refine sm_cvi hO (ctX9_warm l G aL1 x80 x81) cw_RL_73 cv_X9_warm [] rfl rfl ⟨(Nat.le_of_ble_eq_true rfl), (Nat.le_of_ble_eq_true rfl)⟩ ⟨(Nat.le_of_ble_eq_true rfl), (Nat.le_of_ble_eq_true rfl)⟩ (Nat.le_of_ble_eq_true rfl) dL_law_545 (fun x82 => ?_)
                                    refine sm_aload_n hO 2 dL_law_548 rfl rfl ?_
                                    refine sm_aload_n hO 0 dL_law_549 rfl rfl ?_
                                    refine sm_iload_n hO 3 dL_law_550 rfl rfl ?_
                                    refine sm_iconst (v := 1) hO dL_law_551 rfl ?_
                                    refine sm_iadd hO dL_law_552 ?_
                                    refine sm_li hO dL_law_553 (fun x83 => ?_)
                                    refine sm_aload_n hO 0 dL_law_554 rfl rfl ?_
                                    refine sm_iload_n hO 3 dL_law_555 rfl rfl ?_
                                    refine sm_iconst (v := 2) hO dL_law_556 rfl ?_
                                    refine sm_iadd hO dL_law_557 ?_
                                    refine sm_li hO dL_law_558 (fun x84 => ?_)
                                    refine sm_cvi hO (ctX10_warm l G aL2 x83 x84) cw_RL_76 cv_X10_warm [.int x82] rfl rfl ⟨(Nat.le_of_ble_eq_true rfl), (Nat.le_of_ble_eq_true rfl)⟩ ⟨(Nat.le_of_ble_eq_true rfl), (Nat.le_of_ble_eq_true rfl)⟩ (Nat.le_of_ble_eq_true rfl) dL_law_559 (fun x85 => ?_)
                                    refine sm_icmp_eq (tgt := 998) hO dL_law_562 (by decide) ?_ ?_
                                    · exact sm_sub [0, 1, 2, 3] rfl (tL_law_998 hO hR1 (fL_law_18 n) ih aL0 aL1 aL2 xL3)
                                    · refine sm_iconst (v := 0) hO dL_law_565 rfl ?_
                                      exact hR1 _ _ _ dL_law_566
                                  · refine sm_ite (fun q32_15 => ?_) (fun q32_15 => ?_)
                                    · refine sm_tabIn (tgt := 567) hO dL_law_32 q32_15 (by decide) (by decide) rfl (by decide) ?_
                                      refine sm_aload_n hO 1 dL_law_567 rfl rfl ?_
                                      refine sm_aload_n hO 0 dL_law_568 rfl rfl ?_
                                      refine sm_iload_n hO 3 dL_law_569 rfl rfl ?_
                                      refine sm_iconst (v := 1) hO dL_law_570 rfl ?_
                                      refine sm_iadd hO dL_law_571 ?_
                                      refine sm_li hO dL_law_572 (fun x76 => ?_)
                                      refine sm_cvi hO (ctX9_warmest l G aL1 x76) cw_RL_77 cv_X9_warmest [] rfl rfl ⟨(Nat.le_of_ble_eq_true rfl), (Nat.le_of_ble_eq_true rfl)⟩ ⟨(Nat.le_of_ble_eq_true rfl), (Nat.le_of_ble_eq_true rfl)⟩ (Nat.le_of_ble_eq_true rfl) dL_law_573 (fun x77 => ?_)
                                      refine sm_aload_n hO 2 dL_law_576 rfl rfl ?_
                                      refine sm_aload_n hO 0 dL_law_577 rfl rfl ?_
                                      refine sm_iload_n hO 3 dL_law_578 rfl rfl ?_
                                      refine sm_iconst (v := 1) hO dL_law_579 rfl ?_
                                      refine sm_iadd hO dL_law_580 ?_
                                      refine sm_li hO dL_law_581 (fun x78 => ?_)
                                      refine sm_cvi hO (ctX10_warmest l G aL2 x78) cw_RL_80 cv_X10_warmest [.int x77] rfl rfl ⟨(Nat.le_of_ble_eq_true rfl), (Nat.le_of_ble_eq_true rfl)⟩ ⟨(Nat.le_of_ble_eq_true rfl), (Nat.le_of_ble_eq_true rfl)⟩ (Nat.le_of_ble_eq_true rfl) dL_law_582 (fun x79 => ?_)
                                      refine sm_icmp_eq (tgt := 998) hO dL_law_585 (by decide) ?_ ?_
                                      · exact sm_sub [0, 1, 2, 3] rfl (tL_law_998 hO hR1 (fL_law_18 n) ih aL0 aL1 aL2 xL3)
                                      · refine sm_iconst (v := 0) hO dL_law_588 rfl ?_
                                        exact hR1 _ _ _ dL_law_589
                                    · refine sm_ite (fun q32_16 => ?_) (fun q32_16 => ?_)
                                      · refine sm_tabIn (tgt := 590) hO dL_law_32 q32_16 (by decide) (by decide) rfl (by decide) ?_
                                        refine sm_aload_n hO 1 dL_law_590 rfl rfl ?_
                                        refine sm_aload_n hO 0 dL_law_591 rfl rfl ?_
                                        refine sm_iload_n hO 3 dL_law_592 rfl rfl ?_
                                        refine sm_iconst (v := 1) hO dL_law_593 rfl ?_
                                        refine sm_iadd hO dL_law_594 ?_
                                        refine sm_li hO dL_law_595 (fun x70 => ?_)
                                        refine sm_aload_n hO 0 dL_law_596 rfl rfl ?_
                                        refine sm_iload_n hO 3 dL_law_597 rfl rfl ?_
                                        refine sm_iconst (v := 2) hO dL_law_598 rfl ?_
                                        refine sm_iadd hO dL_law_599 ?_
                                        refine sm_li hO dL_law_600 (fun x71 => ?_)
                                        refine sm_cvi hO (ctX9_first l G aL1 x70 x71) cw_RL_81 cv_X9_first [] rfl rfl ⟨(Nat.le_of_ble_eq_true rfl), (Nat.le_of_ble_eq_true rfl)⟩ ⟨(Nat.le_of_ble_eq_true rfl), (Nat.le_of_ble_eq_true rfl)⟩ (Nat.le_of_ble_eq_true rfl) dL_law_601 (fun x72 => ?_)
                                        refine sm_aload_n hO 2 dL_law_604 rfl rfl ?_
                                        refine sm_aload_n hO 0 dL_law_605 rfl rfl ?_
                                        refine sm_iload_n hO 3 dL_law_606 rfl rfl ?_
                                        refine sm_iconst (v := 1) hO dL_law_607 rfl ?_
                                        refine sm_iadd hO dL_law_608 ?_
                                        refine sm_li hO dL_law_609 (fun x73 => ?_)
                                        refine sm_aload_n hO 0 dL_law_610 rfl rfl ?_
                                        refine sm_iload_n hO 3 dL_law_611 rfl rfl ?_
                                        refine sm_iconst (v := 2) hO dL_law_612 rfl ?_
                                        refine sm_iadd hO dL_law_613 ?_
                                        refine sm_li hO dL_law_614 (fun x74 => ?_)
                                        refine sm_cvi hO (ctX10_first l G aL2 x73 x74) cw_RL_84 cv_X10_first [.int x72] rfl rfl ⟨(Nat.le_of_ble_eq_true rfl), (Nat.le_of_ble_eq_true rfl)⟩ ⟨(Nat.le_of_ble_eq_true rfl), (Nat.le_of_ble_eq_true rfl)⟩ (Nat.le_of_ble_eq_true rfl) dL_law_615 (fun x75 => ?_)
                                        refine sm_icmp_eq (tgt := 998) hO dL_law_618 (by decide) ?_ ?_
                                        · exact sm_sub [0, 1, 2, 3] rfl (tL_law_998 hO hR1 (fL_law_18 n) ih aL0 aL1 aL2 xL3)
                                        · refine sm_iconst (v := 0) hO dL_law_621 rfl ?_
                                          exact hR1 _ _ _ dL_law_622
                                      · refine sm_ite (fun q32_17 => ?_) (fun q32_17 => ?_)
                                        · refine sm_tabIn (tgt := 623) hO dL_law_32 q32_17 (by decide) (by decide) rfl (by decide) ?_
                                          refine sm_aload_n hO 1 dL_law_623 rfl rfl ?_
                                          refine sm_aload_n hO 0 dL_law_624 rfl rfl ?_
                                          refine sm_iload_n hO 3 dL_law_625 rfl rfl ?_
                                          refine sm_iconst (v := 1) hO dL_law_626 rfl ?_
                                          refine sm_iadd hO dL_law_627 ?_
                                          refine sm_li hO dL_law_628 (fun x66 => ?_)
                                          refine sm_cvi hO (ctX9_swaps l G aL1 x66) cw_RL_85 cv_X9_swaps [] rfl rfl ⟨(Nat.le_of_ble_eq_true rfl), (Nat.le_of_ble_eq_true rfl)⟩ ⟨(Nat.le_of_ble_eq_true rfl), (Nat.le_of_ble_eq_true rfl)⟩ (Nat.le_of_ble_eq_true rfl) dL_law_629 (fun x67 => ?_)
                                          refine sm_aload_n hO 2 dL_law_632 rfl rfl ?_
                                          refine sm_aload_n hO 0 dL_law_633 rfl rfl ?_
                                          refine sm_iload_n hO 3 dL_law_634 rfl rfl ?_
                                          refine sm_iconst (v := 1) hO dL_law_635 rfl ?_
                                          refine sm_iadd hO dL_law_636 ?_
                                          refine sm_li hO dL_law_637 (fun x68 => ?_)
                                          refine sm_cvi hO (ctX10_swaps l G aL2 x68) cw_RL_88 cv_X10_swaps [.int x67] rfl rfl ⟨(Nat.le_of_ble_eq_true rfl), (Nat.le_of_ble_eq_true rfl)⟩ ⟨(Nat.le_of_ble_eq_true rfl), (Nat.le_of_ble_eq_true rfl)⟩ (Nat.le_of_ble_eq_true rfl) dL_law_638 (fun x69 => ?_)
                                          refine sm_icmp_eq (tgt := 998) hO dL_law_641 (by decide) ?_ ?_
                                          · exact sm_sub [0, 1, 2, 3] rfl (tL_law_998 hO hR1 (fL_law_18 n) ih aL0 aL1 aL2 xL3)
                                          · refine sm_iconst (v := 0) hO dL_law_644 rfl ?_
                                            exact hR1 _ _ _ dL_law_645
                                        · refine sm_ite (fun q32_18 => ?_) (fun q32_18 => ?_)
                                          · refine sm_tabIn (tgt := 646) hO dL_law_32 q32_18 (by decide) (by decide) rfl (by decide) ?_
                                            refine sm_aload_n hO 1 dL_law_646 rfl rfl ?_
                                            refine sm_aload_n hO 0 dL_law_647 rfl rfl ?_
                                            refine sm_iload_n hO 3 dL_law_648 rfl rfl ?_
                                            refine sm_iconst (v := 1) hO dL_law_649 rfl ?_
                                            refine sm_iadd hO dL_law_650 ?_
                                            refine sm_li hO dL_law_651 (fun x62 => ?_)
                                            refine sm_cvi hO (ctX9_close l G aL1 x62) cw_RL_89 cv_X9_close [] rfl rfl ⟨(Nat.le_of_ble_eq_true rfl), (Nat.le_of_ble_eq_true rfl)⟩ ⟨(Nat.le_of_ble_eq_true rfl), (Nat.le_of_ble_eq_true rfl)⟩ (Nat.le_of_ble_eq_true rfl) dL_law_652 (fun x63 => ?_)
                                            refine sm_aload_n hO 2 dL_law_655 rfl rfl ?_
                                            refine sm_aload_n hO 0 dL_law_656 rfl rfl ?_
                                            refine sm_iload_n hO 3 dL_law_657 rfl rfl ?_
                                            refine sm_iconst (v := 1) hO dL_law_658 rfl ?_
                                            refine sm_iadd hO dL_law_659 ?_
                                            refine sm_li hO dL_law_660 (fun x64 => ?_)
                                            refine sm_cvi hO (ctX10_close l G aL2 x64) cw_RL_92 cv_X10_close [.int x63] rfl rfl ⟨(Nat.le_of_ble_eq_true rfl), (Nat.le_of_ble_eq_true rfl)⟩ ⟨(Nat.le_of_ble_eq_true rfl), (Nat.le_of_ble_eq_true rfl)⟩ (Nat.le_of_ble_eq_true rfl) dL_law_661 (fun x65 => ?_)
                                            refine sm_icmp_eq (tgt := 998) hO dL_law_664 (by decide) ?_ ?_
                                            · exact sm_sub [0, 1, 2, 3] rfl (tL_law_998 hO hR1 (fL_law_18 n) ih aL0 aL1 aL2 xL3)
                                            · refine sm_iconst (v := 0) hO dL_law_667 rfl ?_
                                              exact hR1 _ _ _ dL_law_668
                                          · refine sm_ite (fun q32_19 => ?_) (fun q32_19 => ?_)
                                            · refine sm_tabIn (tgt := 669) hO dL_law_32 q32_19 (by decide) (by decide) rfl (by decide) ?_
                                              refine sm_aload_n hO 1 dL_law_669 rfl rfl ?_
                                              refine sm_aload_n hO 0 dL_law_670 rfl rfl ?_
                                              refine sm_iload_n hO 3 dL_law_671 rfl rfl ?_
                                              refine sm_iconst (v := 1) hO dL_law_672 rfl ?_
                                              refine sm_iadd hO dL_law_673 ?_
                                              refine sm_li hO dL_law_674 (fun x56 => ?_)
                                              refine sm_aload_n hO 0 dL_law_675 rfl rfl ?_
                                              refine sm_iload_n hO 3 dL_law_676 rfl rfl ?_
                                              refine sm_iconst (v := 2) hO dL_law_677 rfl ?_
                                              refine sm_iadd hO dL_law_678 ?_
                                              refine sm_li hO dL_law_679 (fun x57 => ?_)
                                              refine sm_cvi hO (ctX9_look l G aL1 x56 x57) cw_RL_93 cv_X9_look [] rfl rfl ⟨(Nat.le_of_ble_eq_true rfl), (Nat.le_of_ble_eq_true rfl)⟩ ⟨(Nat.le_of_ble_eq_true rfl), (Nat.le_of_ble_eq_true rfl)⟩ (Nat.le_of_ble_eq_true rfl) dL_law_680 (fun x58 => ?_)
                                              refine sm_aload_n hO 2 dL_law_683 rfl rfl ?_
                                              refine sm_aload_n hO 0 dL_law_684 rfl rfl ?_
                                              refine sm_iload_n hO 3 dL_law_685 rfl rfl ?_
                                              refine sm_iconst (v := 1) hO dL_law_686 rfl ?_
                                              refine sm_iadd hO dL_law_687 ?_
                                              refine sm_li hO dL_law_688 (fun x59 => ?_)
                                              refine sm_aload_n hO 0 dL_law_689 rfl rfl ?_
                                              refine sm_iload_n hO 3 dL_law_690 rfl rfl ?_
                                              refine sm_iconst (v := 2) hO dL_law_691 rfl ?_
                                              refine sm_iadd hO dL_law_692 ?_
                                              refine sm_li hO dL_law_693 (fun x60 => ?_)
                                              refine sm_cvi hO (ctX10_look l G aL2 x59 x60) cw_RL_96 cv_X10_look [.int x58] rfl rfl ⟨(Nat.le_of_ble_eq_true rfl), (Nat.le_of_ble_eq_true rfl)⟩ ⟨(Nat.le_of_ble_eq_true rfl), (Nat.le_of_ble_eq_true rfl)⟩ (Nat.le_of_ble_eq_true rfl) dL_law_694 (fun x61 => ?_)
                                              refine sm_icmp_eq (tgt := 998) hO dL_law_697 (by decide) ?_ ?_
                                              · exact sm_sub [0, 1, 2, 3] rfl (tL_law_998 hO hR1 (fL_law_18 n) ih aL0 aL1 aL2 xL3)
                                              · refine sm_iconst (v := 0) hO dL_law_700 rfl ?_
                                                exact hR1 _ _ _ dL_law_701
                                            · refine sm_ite (fun q32_20 => ?_) (fun q32_20 => ?_)
                                              · refine sm_tabIn (tgt := 702) hO dL_law_32 q32_20 (by decide) (by decide) rfl (by decide) ?_
                                                refine sm_aload_n hO 1 dL_law_702 rfl rfl ?_
                                                refine sm_aload_n hO 0 dL_law_703 rfl rfl ?_
                                                refine sm_iload_n hO 3 dL_law_704 rfl rfl ?_
                                                refine sm_iconst (v := 1) hO dL_law_705 rfl ?_
                                                refine sm_iadd hO dL_law_706 ?_
                                                refine sm_li hO dL_law_707 (fun x52 => ?_)
                                                refine sm_cvi hO (ctX9_agreed l G aL1 x52) cw_RL_97 cv_X9_agreed [] rfl rfl ⟨(Nat.le_of_ble_eq_true rfl), (Nat.le_of_ble_eq_true rfl)⟩ ⟨(Nat.le_of_ble_eq_true rfl), (Nat.le_of_ble_eq_true rfl)⟩ (Nat.le_of_ble_eq_true rfl) dL_law_708 (fun x53 => ?_)
                                                refine sm_aload_n hO 2 dL_law_711 rfl rfl ?_
                                                refine sm_aload_n hO 0 dL_law_712 rfl rfl ?_
                                                refine sm_iload_n hO 3 dL_law_713 rfl rfl ?_
                                                refine sm_iconst (v := 1) hO dL_law_714 rfl ?_
                                                refine sm_iadd hO dL_law_715 ?_
                                                refine sm_li hO dL_law_716 (fun x54 => ?_)
                                                refine sm_cvi hO (ctX10_agreed l G aL2 x54) cw_RL_100 cv_X10_agreed [.int x53] rfl rfl ⟨(Nat.le_of_ble_eq_true rfl), (Nat.le_of_ble_eq_true rfl)⟩ ⟨(Nat.le_of_ble_eq_true rfl), (Nat.le_of_ble_eq_true rfl)⟩ (Nat.le_of_ble_eq_true rfl) dL_law_717 (fun x55 => ?_)
                                                refine sm_icmp_eq (tgt := 998) hO dL_law_720 (by decide) ?_ ?_
                                                · exact sm_sub [0, 1, 2, 3] rfl (tL_law_998 hO hR1 (fL_law_18 n) ih aL0 aL1 aL2 xL3)
                                                · refine sm_iconst (v := 0) hO dL_law_723 rfl ?_
                                                  exact hR1 _ _ _ dL_law_724
                                              · refine sm_ite (fun q32_21 => ?_) (fun q32_21 => ?_)
                                                · refine sm_tabIn (tgt := 725) hO dL_law_32 q32_21 (by decide) (by decide) rfl (by decide) ?_
                                                  refine sm_aload_n hO 1 dL_law_725 rfl rfl ?_
                                                  refine sm_aload_n hO 0 dL_law_726 rfl rfl ?_
                                                  refine sm_iload_n hO 3 dL_law_727 rfl rfl ?_
                                                  refine sm_iconst (v := 1) hO dL_law_728 rfl ?_
                                                  refine sm_iadd hO dL_law_729 ?_
                                                  refine sm_li hO dL_law_730 (fun x46 => ?_)
                                                  refine sm_aload_n hO 0 dL_law_731 rfl rfl ?_
                                                  refine sm_iload_n hO 3 dL_law_732 rfl rfl ?_
                                                  refine sm_iconst (v := 2) hO dL_law_733 rfl ?_
                                                  refine sm_iadd hO dL_law_734 ?_
                                                  refine sm_li hO dL_law_735 (fun x47 => ?_)
                                                  refine sm_cvi hO (ctX9_agenda l G aL1 x46 x47) cw_RL_101 cv_X9_agenda [] rfl rfl ⟨(Nat.le_of_ble_eq_true rfl), (Nat.le_of_ble_eq_true rfl)⟩ ⟨(Nat.le_of_ble_eq_true rfl), (Nat.le_of_ble_eq_true rfl)⟩ (Nat.le_of_ble_eq_true rfl) dL_law_736 (fun x48 => ?_)
                                                  refine sm_aload_n hO 2 dL_law_739 rfl rfl ?_
                                                  refine sm_aload_n hO 0 dL_law_740 rfl rfl ?_
                                                  refine sm_iload_n hO 3 dL_law_741 rfl rfl ?_
                                                  refine sm_iconst (v := 1) hO dL_law_742 rfl ?_
                                                  refine sm_iadd hO dL_law_743 ?_
                                                  refine sm_li hO dL_law_744 (fun x49 => ?_)
                                                  refine sm_aload_n hO 0 dL_law_745 rfl rfl ?_
                                                  refine sm_iload_n hO 3 dL_law_746 rfl rfl ?_
                                                  refine sm_iconst (v := 2) hO dL_law_747 rfl ?_
                                                  refine sm_iadd hO dL_law_748 ?_
                                                  refine sm_li hO dL_law_749 (fun x50 => ?_)
                                                  refine sm_cvi hO (ctX10_agenda l G aL2 x49 x50) cw_RL_104 cv_X10_agenda [.int x48] rfl rfl ⟨(Nat.le_of_ble_eq_true rfl), (Nat.le_of_ble_eq_true rfl)⟩ ⟨(Nat.le_of_ble_eq_true rfl), (Nat.le_of_ble_eq_true rfl)⟩ (Nat.le_of_ble_eq_true rfl) dL_law_750 (fun x51 => ?_)
                                                  refine sm_icmp_eq (tgt := 998) hO dL_law_753 (by decide) ?_ ?_
                                                  · exact sm_sub [0, 1, 2, 3] rfl (tL_law_998 hO hR1 (fL_law_18 n) ih aL0 aL1 aL2 xL3)
                                                  · refine sm_iconst (v := 0) hO dL_law_756 rfl ?_
                                                    exact hR1 _ _ _ dL_law_757
                                                · refine sm_ite (fun q32_22 => ?_) (fun q32_22 => ?_)
                                                  · refine sm_tabIn (tgt := 758) hO dL_law_32 q32_22 (by decide) (by decide) rfl (by decide) ?_
                                                    refine sm_aload_n hO 1 dL_law_758 rfl rfl ?_
                                                    refine sm_aload_n hO 0 dL_law_759 rfl rfl ?_
                                                    refine sm_iload_n hO 3 dL_law_760 rfl rfl ?_
                                                    refine sm_iconst (v := 1) hO dL_law_761 rfl ?_
                                                    refine sm_iadd hO dL_law_762 ?_
                                                    refine sm_li hO dL_law_763 (fun x42 => ?_)
                                                    refine sm_cvi hO (ctX9_agendaFor l G aL1 x42) cw_RL_105 cv_X9_agendaFor [] rfl rfl ⟨(Nat.le_of_ble_eq_true rfl), (Nat.le_of_ble_eq_true rfl)⟩ ⟨(Nat.le_of_ble_eq_true rfl), (Nat.le_of_ble_eq_true rfl)⟩ (Nat.le_of_ble_eq_true rfl) dL_law_764 (fun x43 => ?_)
                                                    refine sm_aload_n hO 2 dL_law_767 rfl rfl ?_
                                                    refine sm_aload_n hO 0 dL_law_768 rfl rfl ?_
                                                    refine sm_iload_n hO 3 dL_law_769 rfl rfl ?_
                                                    refine sm_iconst (v := 1) hO dL_law_770 rfl ?_
                                                    refine sm_iadd hO dL_law_771 ?_
                                                    refine sm_li hO dL_law_772 (fun x44 => ?_)
                                                    refine sm_cvi hO (ctX10_agendaFor l G aL2 x44) cw_RL_108 cv_X10_agendaFor [.int x43] rfl rfl ⟨(Nat.le_of_ble_eq_true rfl), (Nat.le_of_ble_eq_true rfl)⟩ ⟨(Nat.le_of_ble_eq_true rfl), (Nat.le_of_ble_eq_true rfl)⟩ (Nat.le_of_ble_eq_true rfl) dL_law_773 (fun x45 => ?_)
                                                    refine sm_icmp_eq (tgt := 998) hO dL_law_776 (by decide) ?_ ?_
                                                    · exact sm_sub [0, 1, 2, 3] rfl (tL_law_998 hO hR1 (fL_law_18 n) ih aL0 aL1 aL2 xL3)
                                                    · refine sm_iconst (v := 0) hO dL_law_779 rfl ?_
                                                      exact hR1 _ _ _ dL_law_780
                                                  · refine sm_ite (fun q32_23 => ?_) (fun q32_23 => ?_)
                                                    · refine sm_tabIn (tgt := 781) hO dL_law_32 q32_23 (by decide) (by decide) rfl (by decide) ?_
                                                      refine sm_aload_n hO 1 dL_law_781 rfl rfl ?_
                                                      refine sm_aload_n hO 0 dL_law_782 rfl rfl ?_
                                                      refine sm_iload_n hO 3 dL_law_783 rfl rfl ?_
                                                      refine sm_iconst (v := 1) hO dL_law_784 rfl ?_
                                                      refine sm_iadd hO dL_law_785 ?_
                                                      refine sm_li hO dL_law_786 (fun x38 => ?_)
                                                      refine sm_cvi hO (ctX9_wanted l G aL1 x38) cw_RL_109 cv_X9_wanted [] rfl rfl ⟨(Nat.le_of_ble_eq_true rfl), (Nat.le_of_ble_eq_true rfl)⟩ ⟨(Nat.le_of_ble_eq_true rfl), (Nat.le_of_ble_eq_true rfl)⟩ (Nat.le_of_ble_eq_true rfl) dL_law_787 (fun x39 => ?_)
                                                      refine sm_aload_n hO 2 dL_law_790 rfl rfl ?_
                                                      refine sm_aload_n hO 0 dL_law_791 rfl rfl ?_
                                                      refine sm_iload_n hO 3 dL_law_792 rfl rfl ?_
                                                      refine sm_iconst (v := 1) hO dL_law_793 rfl ?_
                                                      refine sm_iadd hO dL_law_794 ?_
                                                      refine sm_li hO dL_law_795 (fun x40 => ?_)
                                                      refine sm_cvi hO (ctX10_wanted l G aL2 x40) cw_RL_112 cv_X10_wanted [.int x39] rfl rfl ⟨(Nat.le_of_ble_eq_true rfl), (Nat.le_of_ble_eq_true rfl)⟩ ⟨(Nat.le_of_ble_eq_true rfl), (Nat.le_of_ble_eq_true rfl)⟩ (Nat.le_of_ble_eq_true rfl) dL_law_796 (fun x41 => ?_)
                                                      refine sm_icmp_eq (tgt := 998) hO dL_law_799 (by decide) ?_ ?_
                                                      · exact sm_sub [0, 1, 2, 3] rfl (tL_law_998 hO hR1 (fL_law_18 n) ih aL0 aL1 aL2 xL3)
                                                      · refine sm_iconst (v := 0) hO dL_law_802 rfl ?_
                                                        exact hR1 _ _ _ dL_law_803
                                                    · refine sm_ite (fun q32_24 => ?_) (fun q32_24 => ?_)
                                                      · refine sm_tabIn (tgt := 804) hO dL_law_32 q32_24 (by decide) (by decide) rfl (by decide) ?_
                                                        refine sm_aload_n hO 1 dL_law_804 rfl rfl ?_
                                                        refine sm_aload_n hO 0 dL_law_805 rfl rfl ?_
                                                        refine sm_iload_n hO 3 dL_law_806 rfl rfl ?_
                                                        refine sm_iconst (v := 1) hO dL_law_807 rfl ?_
                                                        refine sm_iadd hO dL_law_808 ?_
                                                        refine sm_li hO dL_law_809 (fun x32 => ?_)
                                                        refine sm_aload_n hO 0 dL_law_810 rfl rfl ?_
                                                        refine sm_iload_n hO 3 dL_law_811 rfl rfl ?_
                                                        refine sm_iconst (v := 2) hO dL_law_812 rfl ?_
                                                        refine sm_iadd hO dL_law_813 ?_
                                                        refine sm_li hO dL_law_814 (fun x33 => ?_)
                                                        refine sm_cvi hO (ctX9_know l G aL1 x32 x33) cw_RL_113 cv_X9_know [] rfl rfl ⟨(Nat.le_of_ble_eq_true rfl), (Nat.le_of_ble_eq_true rfl)⟩ ⟨(Nat.le_of_ble_eq_true rfl), (Nat.le_of_ble_eq_true rfl)⟩ (Nat.le_of_ble_eq_true rfl) dL_law_815 (fun x34 => ?_)
                                                        refine sm_aload_n hO 2 dL_law_818 rfl rfl ?_
                                                        refine sm_aload_n hO 0 dL_law_819 rfl rfl ?_
                                                        refine sm_iload_n hO 3 dL_law_820 rfl rfl ?_
                                                        refine sm_iconst (v := 1) hO dL_law_821 rfl ?_
                                                        refine sm_iadd hO dL_law_822 ?_
                                                        refine sm_li hO dL_law_823 (fun x35 => ?_)
                                                        refine sm_aload_n hO 0 dL_law_824 rfl rfl ?_
                                                        refine sm_iload_n hO 3 dL_law_825 rfl rfl ?_
                                                        refine sm_iconst (v := 2) hO dL_law_826 rfl ?_
                                                        refine sm_iadd hO dL_law_827 ?_
                                                        refine sm_li hO dL_law_828 (fun x36 => ?_)
                                                        refine sm_cvi hO (ctX10_know l G aL2 x35 x36) cw_RL_116 cv_X10_know [.int x34] rfl rfl ⟨(Nat.le_of_ble_eq_true rfl), (Nat.le_of_ble_eq_true rfl)⟩ ⟨(Nat.le_of_ble_eq_true rfl), (Nat.le_of_ble_eq_true rfl)⟩ (Nat.le_of_ble_eq_true rfl) dL_law_829 (fun x37 => ?_)
                                                        refine sm_icmp_eq (tgt := 998) hO dL_law_832 (by decide) ?_ ?_
                                                        · exact sm_sub [0, 1, 2, 3] rfl (tL_law_998 hO hR1 (fL_law_18 n) ih aL0 aL1 aL2 xL3)
                                                        · refine sm_iconst (v := 0) hO dL_law_835 rfl ?_
                                                          exact hR1 _ _ _ dL_law_836
                                                      · refine sm_ite (fun q32_25 => ?_) (fun q32_25 => ?_)
                                                        · refine sm_tabIn (tgt := 837) hO dL_law_32 q32_25 (by decide) (by decide) rfl (by decide) ?_
                                                          refine sm_aload_n hO 1 dL_law_837 rfl rfl ?_
                                                          refine sm_aload_n hO 0 dL_law_838 rfl rfl ?_
                                                          refine sm_iload_n hO 3 dL_law_839 rfl rfl ?_
                                                          refine sm_iconst (v := 1) hO dL_law_840 rfl ?_
                                                          refine sm_iadd hO dL_law_841 ?_
                                                          refine sm_li hO dL_law_842 (fun x26 => ?_)
                                                          refine sm_aload_n hO 0 dL_law_843 rfl rfl ?_
                                                          refine sm_iload_n hO 3 dL_law_844 rfl rfl ?_
                                                          refine sm_iconst (v := 2) hO dL_law_845 rfl ?_
                                                          refine sm_iadd hO dL_law_846 ?_
                                                          refine sm_li hO dL_law_847 (fun x27 => ?_)
                                                          refine sm_cvi hO (ctX9_parcels l G aL1 x26 x27) cw_RL_117 cv_X9_parcels [] rfl rfl ⟨(Nat.le_of_ble_eq_true rfl), (Nat.le_of_ble_eq_true rfl)⟩ ⟨(Nat.le_of_ble_eq_true rfl), (Nat.le_of_ble_eq_true rfl)⟩ (Nat.le_of_ble_eq_true rfl) dL_law_848 (fun x28 => ?_)
                                                          refine sm_aload_n hO 2 dL_law_851 rfl rfl ?_
                                                          refine sm_aload_n hO 0 dL_law_852 rfl rfl ?_
                                                          refine sm_iload_n hO 3 dL_law_853 rfl rfl ?_
                                                          refine sm_iconst (v := 1) hO dL_law_854 rfl ?_
                                                          refine sm_iadd hO dL_law_855 ?_
                                                          refine sm_li hO dL_law_856 (fun x29 => ?_)
                                                          refine sm_aload_n hO 0 dL_law_857 rfl rfl ?_
                                                          refine sm_iload_n hO 3 dL_law_858 rfl rfl ?_
                                                          refine sm_iconst (v := 2) hO dL_law_859 rfl ?_
                                                          refine sm_iadd hO dL_law_860 ?_
                                                          refine sm_li hO dL_law_861 (fun x30 => ?_)
                                                          refine sm_cvi hO (ctX10_parcels l G aL2 x29 x30) cw_RL_120 cv_X10_parcels [.int x28] rfl rfl ⟨(Nat.le_of_ble_eq_true rfl), (Nat.le_of_ble_eq_true rfl)⟩ ⟨(Nat.le_of_ble_eq_true rfl), (Nat.le_of_ble_eq_true rfl)⟩ (Nat.le_of_ble_eq_true rfl) dL_law_862 (fun x31 => ?_)
                                                          refine sm_icmp_eq (tgt := 998) hO dL_law_865 (by decide) ?_ ?_
                                                          · exact sm_sub [0, 1, 2, 3] rfl (tL_law_998 hO hR1 (fL_law_18 n) ih aL0 aL1 aL2 xL3)
                                                          · refine sm_iconst (v := 0) hO dL_law_868 rfl ?_
                                                            exact hR1 _ _ _ dL_law_869
                                                        · refine sm_ite (fun q32_26 => ?_) (fun q32_26 => ?_)
                                                          · refine sm_tabIn (tgt := 870) hO dL_law_32 q32_26 (by decide) (by decide) rfl (by decide) ?_
                                                            refine sm_aload_n hO 1 dL_law_870 rfl rfl ?_
                                                            refine sm_aload_n hO 0 dL_law_871 rfl rfl ?_
                                                            refine sm_iload_n hO 3 dL_law_872 rfl rfl ?_
                                                            refine sm_iconst (v := 1) hO dL_law_873 rfl ?_
                                                            refine sm_iadd hO dL_law_874 ?_
                                                            refine sm_li hO dL_law_875 (fun x20 => ?_)
                                                            refine sm_aload_n hO 0 dL_law_876 rfl rfl ?_
                                                            refine sm_iload_n hO 3 dL_law_877 rfl rfl ?_
                                                            refine sm_iconst (v := 2) hO dL_law_878 rfl ?_
                                                            refine sm_iadd hO dL_law_879 ?_
                                                            refine sm_li hO dL_law_880 (fun x21 => ?_)
                                                            refine sm_cvi hO (ctX9_write l G aL1 x20 x21) cw_RL_121 cv_X9_write [] rfl rfl ⟨(Nat.le_of_ble_eq_true rfl), (Nat.le_of_ble_eq_true rfl)⟩ ⟨(Nat.le_of_ble_eq_true rfl), (Nat.le_of_ble_eq_true rfl)⟩ (Nat.le_of_ble_eq_true rfl) dL_law_881 (fun x22 => ?_)
                                                            refine sm_aload_n hO 2 dL_law_884 rfl rfl ?_
                                                            refine sm_aload_n hO 0 dL_law_885 rfl rfl ?_
                                                            refine sm_iload_n hO 3 dL_law_886 rfl rfl ?_
                                                            refine sm_iconst (v := 1) hO dL_law_887 rfl ?_
                                                            refine sm_iadd hO dL_law_888 ?_
                                                            refine sm_li hO dL_law_889 (fun x23 => ?_)
                                                            refine sm_aload_n hO 0 dL_law_890 rfl rfl ?_
                                                            refine sm_iload_n hO 3 dL_law_891 rfl rfl ?_
                                                            refine sm_iconst (v := 2) hO dL_law_892 rfl ?_
                                                            refine sm_iadd hO dL_law_893 ?_
                                                            refine sm_li hO dL_law_894 (fun x24 => ?_)
                                                            refine sm_cvi hO (ctX10_write l G aL2 x23 x24) cw_RL_124 cv_X10_write [.int x22] rfl rfl ⟨(Nat.le_of_ble_eq_true rfl), (Nat.le_of_ble_eq_true rfl)⟩ ⟨(Nat.le_of_ble_eq_true rfl), (Nat.le_of_ble_eq_true rfl)⟩ (Nat.le_of_ble_eq_true rfl) dL_law_895 (fun x25 => ?_)
                                                            refine sm_icmp_eq (tgt := 998) hO dL_law_898 (by decide) ?_ ?_
                                                            · exact sm_sub [0, 1, 2, 3] rfl (tL_law_998 hO hR1 (fL_law_18 n) ih aL0 aL1 aL2 xL3)
                                                            · refine sm_iconst (v := 0) hO dL_law_901 rfl ?_
                                                              exact hR1 _ _ _ dL_law_902
                                                          · refine sm_ite (fun q32_27 => ?_) (fun q32_27 => ?_)
                                                            · refine sm_tabIn (tgt := 903) hO dL_law_32 q32_27 (by decide) (by decide) rfl (by decide) ?_
                                                              refine sm_aload_n hO 1 dL_law_903 rfl rfl ?_
                                                              refine sm_cvi hO (ctX9_tear l G aL1) cw_RL_125 cv_X9_tear [] rfl rfl ⟨(Nat.le_of_ble_eq_true rfl), (Nat.le_of_ble_eq_true rfl)⟩ ⟨(Nat.le_of_ble_eq_true rfl), (Nat.le_of_ble_eq_true rfl)⟩ (Nat.le_of_ble_eq_true rfl) dL_law_904 (fun x18 => ?_)
                                                              refine sm_aload_n hO 2 dL_law_907 rfl rfl ?_
                                                              refine sm_cvi hO (ctX10_tear l G aL2) cw_RL_128 cv_X10_tear [.int x18] rfl rfl ⟨(Nat.le_of_ble_eq_true rfl), (Nat.le_of_ble_eq_true rfl)⟩ ⟨(Nat.le_of_ble_eq_true rfl), (Nat.le_of_ble_eq_true rfl)⟩ (Nat.le_of_ble_eq_true rfl) dL_law_908 (fun x19 => ?_)
                                                              refine sm_icmp_eq (tgt := 998) hO dL_law_911 (by decide) ?_ ?_
                                                              · exact sm_sub [0, 1, 2, 3] rfl (tL_law_998 hO hR1 (fL_law_18 n) ih aL0 aL1 aL2 xL3)
                                                              · refine sm_iconst (v := 0) hO dL_law_914 rfl ?_
                                                                exact hR1 _ _ _ dL_law_915
                                                            · refine sm_ite (fun q32_28 => ?_) (fun q32_28 => ?_)
                                                              · refine sm_tabIn (tgt := 916) hO dL_law_32 q32_28 (by decide) (by decide) rfl (by decide) ?_
                                                                refine sm_aload_n hO 1 dL_law_916 rfl rfl ?_
                                                                refine sm_cvi hO (ctX9_judge l G aL1) cw_RL_129 cv_X9_judge [] rfl rfl ⟨(Nat.le_of_ble_eq_true rfl), (Nat.le_of_ble_eq_true rfl)⟩ ⟨(Nat.le_of_ble_eq_true rfl), (Nat.le_of_ble_eq_true rfl)⟩ (Nat.le_of_ble_eq_true rfl) dL_law_917 (fun x16 => ?_)
                                                                refine sm_aload_n hO 2 dL_law_920 rfl rfl ?_
                                                                refine sm_cvi hO (ctX10_judge l G aL2) cw_RL_132 cv_X10_judge [.int x16] rfl rfl ⟨(Nat.le_of_ble_eq_true rfl), (Nat.le_of_ble_eq_true rfl)⟩ ⟨(Nat.le_of_ble_eq_true rfl), (Nat.le_of_ble_eq_true rfl)⟩ (Nat.le_of_ble_eq_true rfl) dL_law_921 (fun x17 => ?_)
                                                                refine sm_icmp_eq (tgt := 998) hO dL_law_924 (by decide) ?_ ?_
                                                                · exact sm_sub [0, 1, 2, 3] rfl (tL_law_998 hO hR1 (fL_law_18 n) ih aL0 aL1 aL2 xL3)
                                                                · refine sm_iconst (v := 0) hO dL_law_927 rfl ?_
                                                                  exact hR1 _ _ _ dL_law_928
                                                              · refine sm_ite (fun q32_29 => ?_) (fun q32_29 => ?_)
                                                                · refine sm_tabIn (tgt := 929) hO dL_law_32 q32_29 (by decide) (by decide) rfl (by decide) ?_
                                                                  refine sm_aload_n hO 1 dL_law_929 rfl rfl ?_
                                                                  refine sm_aload_n hO 0 dL_law_930 rfl rfl ?_
                                                                  refine sm_iload_n hO 3 dL_law_931 rfl rfl ?_
                                                                  refine sm_iconst (v := 1) hO dL_law_932 rfl ?_
                                                                  refine sm_iadd hO dL_law_933 ?_
                                                                  refine sm_li hO dL_law_934 (fun x12 => ?_)
                                                                  refine sm_cvi hO (ctX9_seed l G aL1 x12) cw_RL_133 cv_X9_seed [] rfl rfl ⟨(Nat.le_of_ble_eq_true rfl), (Nat.le_of_ble_eq_true rfl)⟩ ⟨(Nat.le_of_ble_eq_true rfl), (Nat.le_of_ble_eq_true rfl)⟩ (Nat.le_of_ble_eq_true rfl) dL_law_935 (fun x13 => ?_)
                                                                  refine sm_aload_n hO 2 dL_law_938 rfl rfl ?_
                                                                  refine sm_aload_n hO 0 dL_law_939 rfl rfl ?_
                                                                  refine sm_iload_n hO 3 dL_law_940 rfl rfl ?_
                                                                  refine sm_iconst (v := 1) hO dL_law_941 rfl ?_
                                                                  refine sm_iadd hO dL_law_942 ?_
                                                                  refine sm_li hO dL_law_943 (fun x14 => ?_)
                                                                  refine sm_cvi hO (ctX10_seed l G aL2 x14) cw_RL_136 cv_X10_seed [.int x13] rfl rfl ⟨(Nat.le_of_ble_eq_true rfl), (Nat.le_of_ble_eq_true rfl)⟩ ⟨(Nat.le_of_ble_eq_true rfl), (Nat.le_of_ble_eq_true rfl)⟩ (Nat.le_of_ble_eq_true rfl) dL_law_944 (fun x15 => ?_)
                                                                  refine sm_icmp_eq (tgt := 998) hO dL_law_947 (by decide) ?_ ?_
                                                                  · exact sm_sub [0, 1, 2, 3] rfl (tL_law_998 hO hR1 (fL_law_18 n) ih aL0 aL1 aL2 xL3)
                                                                  · refine sm_iconst (v := 0) hO dL_law_950 rfl ?_
                                                                    exact hR1 _ _ _ dL_law_951
                                                                · refine sm_ite (fun q32_30 => ?_) (fun q32_30 => ?_)
                                                                  · refine sm_tabIn (tgt := 952) hO dL_law_32 q32_30 (by decide) (by decide) rfl (by decide) ?_
                                                                    refine sm_aload_n hO 1 dL_law_952 rfl rfl ?_
                                                                    refine sm_aload_n hO 0 dL_law_953 rfl rfl ?_
                                                                    refine sm_iload_n hO 3 dL_law_954 rfl rfl ?_
                                                                    refine sm_iconst (v := 1) hO dL_law_955 rfl ?_
                                                                    refine sm_iadd hO dL_law_956 ?_
                                                                    refine sm_li hO dL_law_957 (fun x8 => ?_)
                                                                    refine sm_cvi hO (ctX9_keep l G aL1 x8) cw_RL_137 cv_X9_keep [] rfl rfl ⟨(Nat.le_of_ble_eq_true rfl), (Nat.le_of_ble_eq_true rfl)⟩ ⟨(Nat.le_of_ble_eq_true rfl), (Nat.le_of_ble_eq_true rfl)⟩ (Nat.le_of_ble_eq_true rfl) dL_law_958 (fun x9 => ?_)
                                                                    refine sm_aload_n hO 2 dL_law_961 rfl rfl ?_
                                                                    refine sm_aload_n hO 0 dL_law_962 rfl rfl ?_
                                                                    refine sm_iload_n hO 3 dL_law_963 rfl rfl ?_
                                                                    refine sm_iconst (v := 1) hO dL_law_964 rfl ?_
                                                                    refine sm_iadd hO dL_law_965 ?_
                                                                    refine sm_li hO dL_law_966 (fun x10 => ?_)
                                                                    refine sm_cvi hO (ctX10_keep l G aL2 x10) cw_RL_140 cv_X10_keep [.int x9] rfl rfl ⟨(Nat.le_of_ble_eq_true rfl), (Nat.le_of_ble_eq_true rfl)⟩ ⟨(Nat.le_of_ble_eq_true rfl), (Nat.le_of_ble_eq_true rfl)⟩ (Nat.le_of_ble_eq_true rfl) dL_law_967 (fun x11 => ?_)
                                                                    refine sm_icmp_eq (tgt := 998) hO dL_law_970 (by decide) ?_ ?_
                                                                    · exact sm_sub [0, 1, 2, 3] rfl (tL_law_998 hO hR1 (fL_law_18 n) ih aL0 aL1 aL2 xL3)
                                                                    · refine sm_iconst (v := 0) hO dL_law_973 rfl ?_
                                                                      exact hR1 _ _ _ dL_law_974
                                                                  · refine sm_ite (fun q32_31 => ?_) (fun q32_31 => ?_)
                                                                    · refine sm_tabIn (tgt := 975) hO dL_law_32 q32_31 (by decide) (by decide) rfl (by decide) ?_
                                                                      refine sm_aload_n hO 1 dL_law_975 rfl rfl ?_
                                                                      refine sm_aload_n hO 0 dL_law_976 rfl rfl ?_
                                                                      refine sm_iload_n hO 3 dL_law_977 rfl rfl ?_
                                                                      refine sm_iconst (v := 1) hO dL_law_978 rfl ?_
                                                                      refine sm_iadd hO dL_law_979 ?_
                                                                      refine sm_li hO dL_law_980 (fun x4 => ?_)
                                                                      refine sm_cvi hO (ctX9_goBack l G aL1 x4) cw_RL_141 cv_X9_goBack [] rfl rfl ⟨(Nat.le_of_ble_eq_true rfl), (Nat.le_of_ble_eq_true rfl)⟩ ⟨(Nat.le_of_ble_eq_true rfl), (Nat.le_of_ble_eq_true rfl)⟩ (Nat.le_of_ble_eq_true rfl) dL_law_981 (fun x5 => ?_)
                                                                      refine sm_aload_n hO 2 dL_law_984 rfl rfl ?_
                                                                      refine sm_aload_n hO 0 dL_law_985 rfl rfl ?_
                                                                      refine sm_iload_n hO 3 dL_law_986 rfl rfl ?_
                                                                      refine sm_iconst (v := 1) hO dL_law_987 rfl ?_
                                                                      refine sm_iadd hO dL_law_988 ?_
                                                                      refine sm_li hO dL_law_989 (fun x6 => ?_)
                                                                      refine sm_cvi hO (ctX10_goBack l G aL2 x6) cw_RL_144 cv_X10_goBack [.int x5] rfl rfl ⟨(Nat.le_of_ble_eq_true rfl), (Nat.le_of_ble_eq_true rfl)⟩ ⟨(Nat.le_of_ble_eq_true rfl), (Nat.le_of_ble_eq_true rfl)⟩ (Nat.le_of_ble_eq_true rfl) dL_law_990 (fun x7 => ?_)
                                                                      refine sm_icmp_eq (tgt := 998) hO dL_law_993 (by decide) ?_ ?_
                                                                      · exact sm_sub [0, 1, 2, 3] rfl (tL_law_998 hO hR1 (fL_law_18 n) ih aL0 aL1 aL2 xL3)
                                                                      · refine sm_iconst (v := 0) hO dL_law_996 rfl ?_
                                                                        exact hR1 _ _ _ dL_law_997
                                                                    · refine sm_tabOut (tgt := 998) hO dL_law_32 (c_ne_lo (n := 32) (by decide) (fun k hk => match k, hk with | 0, _ => q32_0 | 1, _ => q32_1 | 2, _ => q32_2 | 3, _ => q32_3 | 4, _ => q32_4 | 5, _ => q32_5 | 6, _ => q32_6 | 7, _ => q32_7 | 8, _ => q32_8 | 9, _ => q32_9 | 10, _ => q32_10 | 11, _ => q32_11 | 12, _ => q32_12 | 13, _ => q32_13 | 14, _ => q32_14 | 15, _ => q32_15 | 16, _ => q32_16 | 17, _ => q32_17 | 18, _ => q32_18 | 19, _ => q32_19 | 20, _ => q32_20 | 21, _ => q32_21 | 22, _ => q32_22 | 23, _ => q32_23 | 24, _ => q32_24 | 25, _ => q32_25 | 26, _ => q32_26 | 27, _ => q32_27 | 28, _ => q32_28 | 29, _ => q32_29 | 30, _ => q32_30 | 31, _ => q32_31 | k + 32, hk => absurd hk (by omega))) (by decide) ?_
                                                                      exact sm_sub [0, 1, 2, 3] rfl (tL_law_998 hO hR1 (fL_law_18 n) ih aL0 aL1 aL2 xL3)
set_option maxRecDepth 100000 in
set_option maxHeartbeats 4000000 in
theorem wkL_law {p : Program} {l : Launch} {e : Env} {s : State} {m : MethodId} {args : Array Value} {below : List Frame} {meth : Method} {c : Code} {G : cG} {Q : Int32 → cH → State → Prop} (hO : c_Ok p s m c cL_law 4 RL G) (hR1 : ∀ (pc : Nat) (lv : List (Nat × Value)) (x : Int32), decode cL_law pc = .ok (.ireturn, 1) → Sm p l e room_1 s m args below meth c G 4 Q 154 7665 pc lv [.int x] (m_ret x)) (a0_ : Nat) : Sm p l e room_1 s m args below meth c G 4 Q 0 0 0 [(0, .ref a0_)] [] (pL_law a0_) := by
  rw [pL_law]
  refine sm_new hO cn_RL_7 (Nat.le_of_ble_eq_true rfl) (Nat.le_of_ble_eq_true rfl) dL_law_0 (fun a1 => ?_)
  refine sm_dup hO dL_law_3 rfl ?_
  refine sm_ci hO (ctX9_init l G a1) cw_RL_9 kw_91 rfl rfl rfl ⟨(Nat.le_of_ble_eq_true rfl), (Nat.le_of_ble_eq_true rfl)⟩ ⟨(Nat.le_of_ble_eq_true rfl), (Nat.le_of_ble_eq_true rfl)⟩ (Nat.le_of_ble_eq_true rfl) dL_law_4 ?_
  refine sm_astore_n hO [(1, .ref a1), (0, .ref a0_)] dL_law_7 rfl (by decide) rfl ?_
  refine sm_new hO cn_RL_10 (Nat.le_of_ble_eq_true rfl) (Nat.le_of_ble_eq_true rfl) dL_law_8 (fun a2 => ?_)
  refine sm_dup hO dL_law_11 rfl ?_
  refine sm_ci hO (ctX10_init l G a2) cw_RL_12 kw_804 rfl rfl rfl ⟨(Nat.le_of_ble_eq_true rfl), (Nat.le_of_ble_eq_true rfl)⟩ ⟨(Nat.le_of_ble_eq_true rfl), (Nat.le_of_ble_eq_true rfl)⟩ (Nat.le_of_ble_eq_true rfl) dL_law_12 ?_
  refine sm_astore_n hO [(2, .ref a2), (1, .ref a1), (0, .ref a0_)] dL_law_15 rfl (by decide) rfl ?_
  refine sm_iconst (v := 0) hO dL_law_16 rfl ?_
  refine sm_istore_n hO [(3, .int 0), (2, .ref a2), (1, .ref a1), (0, .ref a0_)] dL_law_17 rfl (by decide) rfl ?_
  exact sm_sub [3, 2, 1, 0] rfl (tL_law_18 hO hR1 c_fu a0_ a1 a2 0)
