set_option maxRecDepth 100000 in
set_option maxHeartbeats 4000000 in
theorem whole_start {p : Program} {e : Env} {s : State} {m : MethodId} {below : List Frame} {meth : Method} {c : Code} (l : Launch) {b L : Nat} {xs : Nat → Int32} (hL : L ≤ 192) (C0 : lw_At p s m meth c b L xs) : W p l e room_1 s m #[Value.ref b] below meth c s.heap [] 0 0 (lw_Z below #[Value.ref b] s) (entryFrame m ([Value.ref b] : List Value).toArray 4) := by
  obtain ⟨hx, hb, hr, hml, hown, hts, hX, hbl, hlocks, hgv⟩ := C0
  obtain ⟨dC, dI, hK⟩ := st_K hts
  have hA : ∀ q : Nat, q < s.heap.size → ¬ (s.heap.size ≤ q) := fun q h => Nat.not_le.mpr h
  obtain ⟨t0, ht0, hT0⟩ := st_c_fact (A := fun q => s.heap.size ≤ q) hgv hA
  obtain ⟨t1, ht1, hT1⟩ := st_c_like (A := fun q => s.heap.size ≤ q) hgv hA
  have hZ0 : va_Z RX4 "FACTORIAL" "[I" (.ref t0) (fun q => s.heap.size ≤ q) s s.heap := va_Zof (hts (.laysStatic RX4 "FACTORIAL" "[I") (List.mem_of_getElem? (i := 531) (by decide +kernel))) (hts (.initialized RX4) (List.mem_of_getElem? (i := 80) (by decide +kernel))) ht0 hA
  have hZ1 : va_Z RX4 "LIKING_PLACE" "[I" (.ref t1) (fun q => s.heap.size ≤ q) s s.heap := va_Zof (hts (.laysStatic RX4 "LIKING_PLACE" "[I") (List.mem_of_getElem? (i := 714) (by decide +kernel))) (hts (.initialized RX4) (List.mem_of_getElem? (i := 80) (by decide +kernel))) ht1 hA
  obtain ⟨G, hG⟩ : ∃ G : cG, G = (s.heap.size, (fun k => if k = 0 then t0 else if k = 1 then t1 else b), (dC, dI)) := ⟨_, rfl⟩
  have g1 : G.1 = s.heap.size := by rw [hG]
  have g20 : G.2.1 0 = t0 := by rw [hG]; rfl
  have g21 : G.2.1 1 = t1 := by rw [hG]; rfl
  have g22 : G.2.1 2 = b := by rw [hG]; rfl
  have a0 : c_ad G 0 = t0 := g20
  have a1 : c_ad G 1 = t1 := g21
  have a2 : c_ad G 2 = b := g22
  have gA : c_A G = fun q => s.heap.size ≤ q := by funext q; show (G.1 ≤ q) = _; rw [g1]
  have hH : c_Hd G (c_s0 L xs) s s.heap := by
    refine ⟨Nat.le_refl 3, by rw [g1]; rfl, fun k h3 hk => ?_, fun k hk => ?_, fun k hk => ?_, ?_, ?_⟩
    · have hk2 : k < 3 := hk
      omega
    · match k, hk with
      | 0, _ =>
        refine ⟨rfl, ?_⟩
        rw [a0, gA]
        exact hT0
      | 1, _ =>
        refine ⟨rfl, ?_⟩
        rw [a1, gA]
        exact hT1
      | 2, _ =>
        refine ⟨rfl, ?_⟩
        rw [a2, gA]
        obtain ⟨scr, h1, h2, h3, h4, h5⟩ := hX
        exact ⟨scr, h1, h2, h3, Nat.le_of_eq h4.symm, by rw [h4] <;> rfl, h5, hA b hbl⟩
      | k + 3, hk => exact absurd hk (by omega)
    · have hk2 : 3 ≤ k := hk
      show (if k = 0 then _ else if k = 1 then _ else if k = 2 then _ else cJ) = cJ
      rw [if_neg (by omega), if_neg (by omega), if_neg (by omega)]
    · show va_Z RX4 "FACTORIAL" "[I" (.ref (G.2.1 0)) (c_A G) s s.heap
      rw [g20, gA]
      exact hZ0
    · show va_Z RX4 "LIKING_PLACE" "[I" (.ref (G.2.1 1)) (c_A G) s s.heap
      rw [g21, gA]
      exact hZ1
  have hC : c_Cx G s := by
    refine ⟨fun w hw a => word_at (State.WarmedH.refl s) (c_good hw) (hts w (List.mem_filter.mp hw).1), ?_, st_nw hts, ?_, ?_, ?_⟩
    · rw [hG]
      exact hK
    · exact va_AO.of (hts (.arrayOver (.object RX1)) (List.mem_of_getElem? (i := 204) (by decide +kernel)))
    · exact va_AO.of (hts (.arrayOver (.object RX5)) (List.mem_of_getElem? (i := 173) (by decide +kernel)))
    · exact over_moved (Vm.Alike.refl s.vm) (hts (.arrayOver (.array .int)) (List.mem_of_getElem? (i := 234) (by decide +kernel)))
  have hO : c_Ok p s m c cL_law 4 RL G := ⟨hx, hb, hml, hown, hC⟩
  obtain ⟨σ', hP⟩ := p_main L xs hL
  have hl := lv_entry ([.ref b]) (n := 4) (Nat.le_of_ble_eq_true rfl)
  rw [lg_entry_eq]
  generalize (lg_sl ([.ref b]) ++ List.replicate (4 - (lg_sl ([.ref b])).length) Slot.unset).toArray = ls at hl ⊢
  have hl : lv_has ls 4 [(0, .ref b)] := hl
  have key := wkL_law (p := p) (l := l) (e := e) (s := s) (m := m) (args := #[Value.ref b]) (below := below) (meth := meth) (c := c) (G := G) (Q := fun r _ t => r = 1 → lw_Z below #[Value.ref b] s t) hO (fun pc lv x hd => ?_) 2 (c_s0 L xs) 1 σ' hP s.heap [] ls hH (fun q hq => absurd hq List.not_mem_nil) (by
    show lv_has ls 4 [(0, .ref (c_ad G 2))]
    rw [a2]
    exact hl)
  · intro T hT X
    obtain ⟨t, k1, k2⟩ := key T hT X
    exact ⟨t, k1, k2 rfl⟩
  · intro σ r σ2 hP2 H locs ls2 hH2 hL2 hl2
    cases hP2
    by_cases hx1 : x = 1
    · subst hx1
      refine va_forget (fun q hq => by have := hL2 q hq; rw [gA] at this; exact this) ?_
      refine W.widen (k := 600000) (n := 7302249) (by decide) (by decide) ?_
      intro T hT X
      obtain ⟨t, k1, k2⟩ := lw_ret (b := b) hx hb hr hlocks hd T hT X
      exact ⟨t, k1, fun _ => k2⟩
    · intro T hT X
      exact ⟨_, Steps.refl _, fun h => absurd h hx1⟩
