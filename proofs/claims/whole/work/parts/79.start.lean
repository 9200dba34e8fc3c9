theorem st_i0 : Cond.instantiable RX0 3 ∈ c_gw := c_in 187 (by decide +kernel) (by decide +kernel)
theorem st_i1 : Cond.instantiable RX1 3 ∈ c_gw := c_in 309 (by decide +kernel) (by decide +kernel)
theorem st_i2 : Cond.instantiable RX2 5 ∈ c_gw := c_in 206 (by decide +kernel) (by decide +kernel)
theorem st_i3 : Cond.instantiable RX3 3 ∈ c_gw := c_in 167 (by decide +kernel) (by decide +kernel)
theorem st_i4 : Cond.instantiable RX4 11 ∈ c_gw := c_in 243 (by decide +kernel) (by decide +kernel)
theorem st_i5 : Cond.instantiable RX5 8 ∈ c_gw := c_in 124 (by decide +kernel) (by decide +kernel)
theorem st_i6 : Cond.instantiable RX7 5 ∈ c_gw := c_in 97 (by decide +kernel) (by decide +kernel)
theorem st_i7 : Cond.instantiable RX8 2 ∈ c_gw := c_in 228 (by decide +kernel) (by decide +kernel)
theorem st_i8 : Cond.instantiable RX9 10 ∈ c_gw := c_in 89 (by decide +kernel) (by decide +kernel)
theorem st_i9 : Cond.instantiable RX10 36 ∈ c_gw := c_in 802 (by decide +kernel) (by decide +kernel)
set_option maxRecDepth 100000 in
set_option maxHeartbeats 4000000 in
theorem st_K {s : State} {a : Array Value} (hts : ∀ w ∈ lw_tbl, w.before a s = true) : ∃ (dC : Nat → ClassId) (dI : Nat → Nat → Nat), va_K (dC, dI) vwCl [] s := by
  have hg : ∀ w ∈ c_gw, w.before a s = true := fun w hw => hts w (List.mem_filter.mp hw).1
  obtain ⟨c0, i0, hk0⟩ := u_known (C := RX0) (T := TX0) (N := 3) (n := 3) hg in_RX0 (hg (.instantiable RX0 3) st_i0)
  obtain ⟨c1, i1, hk1⟩ := u_known (C := RX1) (T := TX1) (N := 3) (n := 3) hg in_RX1 (hg (.instantiable RX1 3) st_i1)
  obtain ⟨c2, i2, hk2⟩ := u_known (C := RX2) (T := TX2) (N := 5) (n := 5) hg in_RX2 (hg (.instantiable RX2 5) st_i2)
  obtain ⟨c3, i3, hk3⟩ := u_known (C := RX3) (T := TX3) (N := 3) (n := 3) hg in_RX3 (hg (.instantiable RX3 3) st_i3)
  obtain ⟨c4, i4, hk4⟩ := u_known (C := RX4) (T := TX4) (N := 11) (n := 11) hg in_RX4 (hg (.instantiable RX4 11) st_i4)
  obtain ⟨c5, i5, hk5⟩ := u_known (C := RX5) (T := TX5) (N := 8) (n := 8) hg in_RX5 (hg (.instantiable RX5 8) st_i5)
  obtain ⟨c6, i6, hk6⟩ := u_known (C := RX7) (T := TX7) (N := 5) (n := 5) hg in_RX7 (hg (.instantiable RX7 5) st_i6)
  obtain ⟨c7, i7, hk7⟩ := u_known (C := RX8) (T := TX8) (N := 2) (n := 2) hg in_RX8 (hg (.instantiable RX8 2) st_i7)
  obtain ⟨c8, i8, hk8⟩ := u_known (C := RX9) (T := TX9) (N := 10) (n := 10) hg in_RX9 (hg (.instantiable RX9 10) st_i8)
  obtain ⟨c9, i9, hk9⟩ := u_known (C := RX10) (T := TX10) (N := 36) (n := 36) hg in_RX10 (hg (.instantiable RX10 36) st_i9)
  refine ⟨fun k => if k = 0 then c0 else if k = 1 then c1 else if k = 2 then c2 else if k = 3 then c3 else if k = 4 then c4 else if k = 5 then c5 else if k = 6 then c6 else if k = 7 then c7 else if k = 8 then c8 else c9, fun k => if k = 0 then i0 else if k = 1 then i1 else if k = 2 then i2 else if k = 3 then i3 else if k = 4 then i4 else if k = 5 then i5 else if k = 6 then i6 else if k = 7 then i7 else if k = 8 then i8 else i9, fun k q hq => ?_, fun k q h => by simp at h⟩
  match k, hq with
  | 0, hq => cases hq; exact hk0
  | 1, hq => cases hq; exact hk1
  | 2, hq => cases hq; exact hk2
  | 3, hq => cases hq; exact hk3
  | 4, hq => cases hq; exact hk4
  | 5, hq => cases hq; exact hk5
  | 6, hq => cases hq; exact hk6
  | 7, hq => cases hq; exact hk7
  | 8, hq => cases hq; exact hk8
  | 9, hq => cases hq; exact hk9
  | k + 10, hq => simp [vwCl] at hq
theorem st_nw {s : State} {a : Array Value} (hts : ∀ w ∈ lw_tbl, w.before a s = true) : ∀ q ∈ c_nw, va_Nw (.methodLinkNest q.1 q.2.1 q.2.2 RX9) s := by
  intro q hq
  simp only [c_nw, List.mem_cons, List.not_mem_nil, or_false] at hq
  rcases hq with rfl | rfl | rfl | rfl | rfl | rfl | rfl | rfl | rfl
  · exact va_Nw.of rfl (hts (.methodLinkNest RX9 9 yX7_init RX9) (List.mem_of_getElem? (i := 98) (by decide +kernel)))
  · exact va_Nw.of rfl (hts (.methodLinkNest RX9 18 yX5_init RX9) (List.mem_of_getElem? (i := 125) (by decide +kernel)))
  · exact va_Nw.of rfl (hts (.methodLinkNest RX9 32 yX0_init RX9) (List.mem_of_getElem? (i := 188) (by decide +kernel)))
  · exact va_Nw.of rfl (hts (.methodLinkNest RX9 45 yX2_init RX9) (List.mem_of_getElem? (i := 207) (by decide +kernel)))
  · exact va_Nw.of rfl (hts (.methodLinkNest RX9 52 yX8_init RX9) (List.mem_of_getElem? (i := 229) (by decide +kernel)))
  · exact va_Nw.of rfl (hts (.methodLinkNest RX9 59 yX4_init RX9) (List.mem_of_getElem? (i := 244) (by decide +kernel)))
  · exact va_Nw.of rfl (hts (.methodLinkNest RX9 67 yX1_init RX9) (List.mem_of_getElem? (i := 310) (by decide +kernel)))
  · exact va_Nw.of rfl (hts (.methodLinkNest RX1 9 yX5_init RX9) (List.mem_of_getElem? (i := 315) (by decide +kernel)))
  · exact va_Nw.of rfl (hts (.methodLinkNest RX3 17 yX5_init RX9) (List.mem_of_getElem? (i := 174) (by decide +kernel)))
set_option maxRecDepth 100000 in
set_option maxHeartbeats 4000000 in
theorem st_c_fact {s : State} {a : Array Value} {A : Nat → Prop} (hgv : (Jvm.Cond.and given_1 narrow_1).before a s = true) (hA : ∀ q : Nat, q < s.heap.size → ¬ A q) : ∃ t : Nat, (Term.static RX4 "FACTORIAL" "[I").eval a s none [] s = some (.ref t) ∧ va_T .int t 7 (fun j => .int (c_fact j)) A s s.heap := by
  have hs := flat_of_before _ hgv
  refine va_Tof (N := 7) (by decide) (hs (.arrayOf (.static RX4 "FACTORIAL" "[I") .int) (by decide +kernel)) (va_eqt (hs (.eq (.length (.static RX4 "FACTORIAL" "[I")) (.int 7)) (by decide +kernel))) (fun j hj => ?_) hA
  match j, hj with
  | 0, _ => exact va_eqt (hs (.eq (.elem (.static RX4 "FACTORIAL" "[I") (.int 0)) (.int 1)) (by decide +kernel))
  | 1, _ => exact va_eqt (hs (.eq (.elem (.static RX4 "FACTORIAL" "[I") (.int 1)) (.int 1)) (by decide +kernel))
  | 2, _ => exact va_eqt (hs (.eq (.elem (.static RX4 "FACTORIAL" "[I") (.int 2)) (.int 2)) (by decide +kernel))
  | 3, _ => exact va_eqt (hs (.eq (.elem (.static RX4 "FACTORIAL" "[I") (.int 3)) (.int 6)) (by decide +kernel))
  | 4, _ => exact va_eqt (hs (.eq (.elem (.static RX4 "FACTORIAL" "[I") (.int 4)) (.int 24)) (by decide +kernel))
  | 5, _ => exact va_eqt (hs (.eq (.elem (.static RX4 "FACTORIAL" "[I") (.int 5)) (.int 120)) (by decide +kernel))
  | 6, _ => exact va_eqt (hs (.eq (.elem (.static RX4 "FACTORIAL" "[I") (.int 6)) (.int 720)) (by decide +kernel))
  | j + 7, hj => exact absurd hj (by omega)
set_option maxRecDepth 100000 in
set_option maxHeartbeats 4000000 in
theorem st_c_like {s : State} {a : Array Value} {A : Nat → Prop} (hgv : (Jvm.Cond.and given_1 narrow_1).before a s = true) (hA : ∀ q : Nat, q < s.heap.size → ¬ A q) : ∃ t : Nat, (Term.static RX4 "LIKING_PLACE" "[I").eval a s none [] s = some (.ref t) ∧ va_T .int t 18 (fun j => .int (c_like j)) A s s.heap := by
  have hs := flat_of_before _ hgv
  refine va_Tof (N := 18) (by decide) (hs (.arrayOf (.static RX4 "LIKING_PLACE" "[I") .int) (by decide +kernel)) (va_eqt (hs (.eq (.length (.static RX4 "LIKING_PLACE" "[I")) (.int 18)) (by decide +kernel))) (fun j hj => ?_) hA
  match j, hj with
  | 0, _ => exact va_eqt (hs (.eq (.elem (.static RX4 "LIKING_PLACE" "[I") (.int 0)) (.int 0)) (by decide +kernel))
  | 1, _ => exact va_eqt (hs (.eq (.elem (.static RX4 "LIKING_PLACE" "[I") (.int 1)) (.int 1)) (by decide +kernel))
  | 2, _ => exact va_eqt (hs (.eq (.elem (.static RX4 "LIKING_PLACE" "[I") (.int 2)) (.int 2)) (by decide +kernel))
  | 3, _ => exact va_eqt (hs (.eq (.elem (.static RX4 "LIKING_PLACE" "[I") (.int 3)) (.int 0)) (by decide +kernel))
  | 4, _ => exact va_eqt (hs (.eq (.elem (.static RX4 "LIKING_PLACE" "[I") (.int 4)) (.int 2)) (by decide +kernel))
  | 5, _ => exact va_eqt (hs (.eq (.elem (.static RX4 "LIKING_PLACE" "[I") (.int 5)) (.int 1)) (by decide +kernel))
  | 6, _ => exact va_eqt (hs (.eq (.elem (.static RX4 "LIKING_PLACE" "[I") (.int 6)) (.int 1)) (by decide +kernel))
  | 7, _ => exact va_eqt (hs (.eq (.elem (.static RX4 "LIKING_PLACE" "[I") (.int 7)) (.int 0)) (by decide +kernel))
  | 8, _ => exact va_eqt (hs (.eq (.elem (.static RX4 "LIKING_PLACE" "[I") (.int 8)) (.int 2)) (by decide +kernel))
  | 9, _ => exact va_eqt (hs (.eq (.elem (.static RX4 "LIKING_PLACE" "[I") (.int 9)) (.int 2)) (by decide +kernel))
  | 10, _ => exact va_eqt (hs (.eq (.elem (.static RX4 "LIKING_PLACE" "[I") (.int 10)) (.int 0)) (by decide +kernel))
  | 11, _ => exact va_eqt (hs (.eq (.elem (.static RX4 "LIKING_PLACE" "[I") (.int 11)) (.int 1)) (by decide +kernel))
  | 12, _ => exact va_eqt (hs (.eq (.elem (.static RX4 "LIKING_PLACE" "[I") (.int 12)) (.int 1)) (by decide +kernel))
  | 13, _ => exact va_eqt (hs (.eq (.elem (.static RX4 "LIKING_PLACE" "[I") (.int 13)) (.int 2)) (by decide +kernel))
  | 14, _ => exact va_eqt (hs (.eq (.elem (.static RX4 "LIKING_PLACE" "[I") (.int 14)) (.int 0)) (by decide +kernel))
  | 15, _ => exact va_eqt (hs (.eq (.elem (.static RX4 "LIKING_PLACE" "[I") (.int 15)) (.int 2)) (by decide +kernel))
  | 16, _ => exact va_eqt (hs (.eq (.elem (.static RX4 "LIKING_PLACE" "[I") (.int 16)) (.int 1)) (by decide +kernel))
  | 17, _ => exact va_eqt (hs (.eq (.elem (.static RX4 "LIKING_PLACE" "[I") (.int 17)) (.int 0)) (by decide +kernel))
  | j + 18, hj => exact absurd hj (by omega)
