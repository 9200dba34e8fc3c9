/-! cells made, arrays copied, statics, calls, returns -/
section SMN
variable {α β : Type} {p : Program} {l : Launch} {e : Env} {R : Room} {s : State} {m : MethodId} {args : Array Value} {below : List Frame} {meth : Method} {c : Code} {G : cG} {nL : Nat} {Q : α → cH → State → Prop} {cells slots pc : Nat} {lv lv' : List (Nat × Value)} {st : List Value} {P : MM α} {cc : ByteArray} {own : String}
def c_Cn (own : String) (index ci n : Nat) (fs : List Value) : Prop := ∃ (C : String) (T : u_T) (ty : Nat → FieldType), vwCl[ci]? = some (C, T, n) ∧ (∀ k, k < n → parseFieldDescriptor (T k).2.2.1 = some (ty k)) ∧ (∀ w ∈ u_ws C T n, w ∈ c_gw) ∧ Cond.classLink own index C ∈ c_gw ∧ Cond.instantiable C n ∈ c_gw ∧ Cond.initialized C ∈ c_gw ∧ (∀ j, j < n → defaultValue (ty j) = vp_V fs j) ∧ (∀ G : cG, fs.map (c_v G) = fs)
theorem sm_new (h : c_Ok p s m c cc nL own G) {index ci n : Nat} {fs : List Value} {K : Nat → MM α} (hn : c_Cn own index ci n fs) (hcells : cells + 1 ≤ R.cells) (hslots : slots + n ≤ R.slots) (hd : decode cc pc = .ok (.new index, 3)) (kk : ∀ a : Nat, Sm p l e R s m args below meth c G nL Q (cells + 1) (slots + n) (pc + 3) lv (.ref a :: st) (K a)) : Sm p l e R s m args below meth c G nL Q cells slots pc lv st (m_new ci fs K) := by
  intro σ r σ' hP H locs ls hH hL hl
  obtain ⟨C, T, ty, hc, hty, hin, w1, w2, w3, hfs, hcl⟩ := hn
  have hts : ∀ w ∈ c_gw, w.before args s = true := fun w hw => h.2.2.2.2.1 w hw args
  have hKn := h.2.2.2.2.2.1.1 ci _ hc
  refine W.newcK h.1 h.2.1 h.2.2.2.1 (hts _ w1) (hts _ w2) (hts _ w3) rfl hd hcells hslots hKn.2.1 hH.new fun H1 kC hkC e1 z1 o1 => ?_
  refine kk σ.1 _ r σ' hP H1 locs ls (hH.push (by rw [z1, hH.new]) (fun q hq => o1 q (by rw [← hH.new]; exact hq)) ⟨_, hc, ?_⟩) hL hl
  rw [hcl]
  exact (u_born ty hts hin hKn hkC e1 hty).to hfs
theorem sm_na (h : c_Ok p s m c cc nL own G) {t n : Nat} {N : Int32} {atype : ArrayType} {K : Nat → MM α} (ht : newarray.typeOf atype = c_ty t) (hdv : defaultValue (newarray.typeOf atype) = .int 0) (hw : Cond.arrayClass (newarray.typeOf atype) ∈ c_gw) (hN0 : ¬ N < 0) (hN : N.toNatClampNeg = n) (hb : n * componentBytes (newarray.typeOf atype) ≤ 536870912) (hcells : cells + 1 ≤ R.cells) (hslots : slots + n ≤ R.slots) (hd : decode cc pc = .ok (.newarray atype, 2)) (kk : ∀ a : Nat, Sm p l e R s m args below meth c G nL Q (cells + 1) (slots + n) (pc + 2) lv (.ref a :: st) (K a)) : Sm p l e R s m args below meth c G nL Q cells slots pc lv (.int N :: st) (m_na t n K) := by
  intro σ r σ' hP H locs ls hH hL hl
  refine W.newaK h.1 h.2.1 (h.2.2.2.2.1 _ hw _) rfl hd rfl hN0 hN hb hcells hslots hH.new fun H1 cA e1 z1 o1 hA => ?_
  refine kk σ.1 _ r σ' hP H1 locs ls (hH.push (by rw [z1, hH.new]) (fun q hq => o1 q (by rw [← hH.new]; exact hq)) ⟨cA, ?_, ht ▸ hA⟩) hL hl
  rw [e1, hdv]
theorem sm_nr (h : c_Ok p s m c cc nL own G) {t n index : Nat} {N : Int32} {C : String} {K : Nat → MM α} (ht : c_ty t = .object C) (hover : va_AO C s) (hw : Cond.classLink own index C ∈ c_gw) (hN0 : ¬ N < 0) (hN : N.toNatClampNeg = n) (hb : n * 4 ≤ 536870912) (hcells : cells + 1 ≤ R.cells) (hslots : slots + n ≤ R.slots) (hd : decode cc pc = .ok (.anewarray index, 3)) (kk : ∀ a : Nat, Sm p l e R s m args below meth c G nL Q (cells + 1) (slots + n) (pc + 3) lv (.ref a :: st) (K a)) : Sm p l e R s m args below meth c G nL Q cells slots pc lv (.int N :: st) (m_nr t n K) := by
  intro σ r σ' hP H locs ls hH hL hl
  subst hN
  refine W.anew h.1 h.2.1 h.2.2.2.1 (h.2.2.2.2.1 _ hw _) (va_AO.use hover) rfl hd rfl hN0 hb hcells hslots fun cA kA comp h1 h2 h3 h4 => ?_
  rw [show (Value.ref H.size) = c_v G (.ref σ.1) by show _ = Value.ref _; rw [hH.new]]
  refine kk σ.1 _ r σ' hP _ locs ls (hH.push (by simp) (fun q hq => by rw [Array.getElem?_push, if_neg (Nat.ne_of_lt hq)]) ⟨cA, ?_, ?_, ?_⟩) hL hl
  · rw [← hH.new, arrV_new, Array.getElem?_push, if_pos rfl]
    rfl
  · rw [ht]
    exact fun n z => ⟨fun k h => (by cases h), kA, h2, comp, h3⟩
  · rw [ht]
    exact ⟨kA, comp, h2, h3, h4, h1⟩
theorem sm_sr (h : c_Ok p s m c cc nL own G) {t a : Nat} {i : Int32} {v ci : Nat} {C : String} {T : u_T} {n : Nat} (ht : c_ty t = .object C) (h9 : t < 99) (hc : vwCl[ci]? = some (C, T, n)) (hd : decode cc pc = .ok (.aastore, 1)) (kk : Sm p l e R s m args below meth c G nL Q cells slots (pc + 1) lv st P) : Sm p l e R s m args below meth c G nL Q cells slots pc lv (.ref v :: .int i :: .ref a :: st) (m_sr t a i v ci P) := by
  intro σ r σ' hP H locs ls hH hL hl
  obtain ⟨N, f, fs, h1, hv, h2, h3⟩ := m_sr_inv hP
  have ha : 3 ≤ a := by
    refine Nat.not_lt.mp fun z => ?_
    have := hH.2.2.2.1 a z
    rw [h1] at this
    exact this
  have hlt : i.toNatClampNeg < N := Nat.not_le.mp fun q => h2 (Or.inr q)
  have h0 : ¬ i < 0 := fun q => h2 (Or.inl q)
  obtain ⟨hlt9, cA, g1, g2, g3⟩ := hH.arr h1 h9 ha
  obtain ⟨-, -, r', hr', cellV, k1, k2, k3, -⟩ := hH.obj hv
  cases hc.symm.trans hr'
  have hcls := (h.2.2.2.2.2.1.1 ci _ hc).2
  have g4 := g3
  rw [ht] at g3
  obtain ⟨kA, comp, j1, j2, j3, -⟩ := g3
  have hcomp : comp = G.2.2.1 ci := Option.some.inj (j3.symm.trans hcls.1)
  subst hcomp
  obtain ⟨kC, hkC, -⟩ := hcls.2
  refine W.aast h.1 h.2.1 g1 (fun q h => by cases h) (fun h => by cases h) j1 j2 rfl hkC ⟨h0, by rw [arrV_size]; exact hlt⟩ k1 (fun q h => by rw [k3] at h; cases h) (by rw [k2]; exact hkC) (by rw [k2]; exact va_assign hcls) rfl rfl hd fun H1 e z oq => ?_
  refine kk _ r σ' h3 H1 _ ls (hH.set ha hlt9 z oq ⟨cA, ?_, g2, g4⟩) (c_L1 hL ha) hl
  rw [e, arrV_store]
  congr 2
  funext q
  by_cases hq : q = i.toNatClampNeg <;> simp [updV, va_up, va_rf, hq]
theorem sm_cp (h : c_Ok p s m c cc nL own G) {index a0 a1 : Nat} {n : Int32} (w1 : Cond.methodLink own index arraycopyName ∈ c_gw) (w2 : Cond.native arraycopyName ∈ c_gw) (w3 : Cond.static arraycopyName ∈ c_gw) (w4 : Cond.initialized "java/lang/System" ∈ c_gw) (hframes : 1 ≤ R.frames) (hlocals : (st.map fun v => v.category).sum + (nativeFrameWords "java/lang/System" "arraycopy" 5 + 11) ≤ R.locals) (hd : decode cc pc = .ok (.invokestatic index, 3)) (kk : Sm p l e R s m args below meth c G nL Q cells slots (pc + 3) lv st P) : Sm p l e R s m args below meth c G nL Q cells slots pc lv (.int n :: .int 0 :: .ref a1 :: .int 0 :: .ref a0 :: st) (m_cp a0 a1 n P) := by
  intro σ r σ' hP H locs ls hH hL hl T hT X
  obtain ⟨N0, N1, f, g, h1, h2, h3, h4, h5, h6, h7, h8⟩ := m_cp_inv hP
  have nn : ∀ z : Int32, ¬ z < 0 → z.toInt = (z.toNatClampNeg : Int) := by
    intro z hz
    have hz0 : (0 : Int) ≤ z.toInt := by
      have := Int32.not_lt.mp hz
      simpa using Int32.le_iff_toInt_le.mp this
    show z.toInt = ((z.toInt.toNat : Nat) : Int)
    omega
  obtain ⟨-, c0, hc0, hA0⟩ := hH.arr h1 (by decide) h3
  obtain ⟨hlt1, c1, hc1, hA1⟩ := hH.arr h2 (by decide) h4
  obtain ⟨-, k0, hk0, cm0, hkk0⟩ := hA0 N0 (fun j => .int (f j))
  obtain ⟨-, k1, hk1, cm1, hkk1⟩ := hA1 N1 (fun j => .int (g j))
  have hs : ((st.map (c_v G)).map fun v => v.category).sum = (st.map fun v => v.category).sum := by
    rw [List.map_map]
    congr 2
    funext v
    exact c_cat G v
  obtain ⟨vm', X', step⟩ := X.arraycopy h.1 h.2.2.2.1 (h.2.2.2.2.1 _ w1 _) (h.2.2.2.2.1 _ w2 _) (h.2.2.2.2.1 _ w3 _) (h.2.2.2.2.1 _ w4 _) (src := c_ad G a0) (dst := c_ad G a1) (cs := arrV c0 N0 (fun j => .int (f j))) (cd := arrV c1 N1 (fun j => .int (g j))) (srcPos := 0) (destPos := 0) (n := n) (by rw [hT]; exact hc0) (by rw [hT]; exact hc1)
    (fun _ h => by cases h) (fun _ h => by cases h) (fun h => by cases h) (fun h => by cases h) hk0 hk1 hkk0 hkk1 (by simp [c_ty, refKind]) (by decide) (by decide) h5
    (by rw [nn n h5, arrV_size]; show ¬ (0 : Int) + _ > _; omega)
    (by rw [nn n h5, arrV_size]; show ¬ (0 : Int) + _ > _; omega)
    (fun vm₁ _ i hi => by
      have e : (arrV c0 N0 (fun j => .int (f j))).slots.getD ((0 : Int32).toNatClampNeg + i) .null = .int (f ((0 : Int32).toNatClampNeg + i)) := by
        rw [Array.getD_eq_getD_getElem?, arrV_read _ _ (by show 0 + i < N0; omega)]
        rfl
      refine ⟨?_, ?_⟩
      · rw [e]
        rfl
      · rw [e]
        exact trivial)
    (g := F0 m pc ls (.int n :: .int 0 :: .ref (c_ad G a1) :: .int 0 :: .ref (c_ad G a0) :: st.map (c_v G))) rfl (by rw [h.2.2.1]; exact hl.1) (rest := st.map (c_v G)) rfl (by rw [h.2.1]; exact hd) hframes (by show 2 * 0 + _ + _ ≤ _; rw [hs]; omega)
  have e1 : copied (arrV c0 N0 (fun j => .int (f j))) (arrV c1 N1 (fun j => .int (g j))) 0 0 n = arrV c1 N1 (fun j => .int (va_cpy f g 0 0 n.toNatClampNeg j)) := va_copied (fun z => .int z) c0 c1 (sp := 0) (dp := 0) f g (by omega)
  rw [e1] at X' step
  have hlH : c_ad G a1 < H.size := (Array.getElem?_eq_some_iff.mp hc1).1
  have hheap : ((T.setVm vm').setCell (c_ad G a1) (arrV c1 N1 (fun j => .int (va_cpy f g 0 0 n.toNatClampNeg j)))).heap = H.setIfInBounds (c_ad G a1) (arrV c1 N1 (fun j => .int (va_cpy f g 0 0 n.toNatClampNeg j))) := by rw [← hT]; rfl
  obtain ⟨t, a9, b9⟩ := kk _ r σ' h8 _ _ ls (hH.set h4 hlt1 (H1 := H.setIfInBounds (c_ad G a1) (arrV c1 N1 (fun j => .int (va_cpy f g 0 0 n.toNatClampNeg j)))) (by simp) (fun q hq => by simp [Array.getElem?_setIfInBounds, Ne.symm hq]) ⟨c1, by simp [Array.getElem?_setIfInBounds, hlH], hA1⟩) (fun q hq => by
      rcases List.mem_append.mp hq with z | z
      · exact hL q z
      · obtain ⟨z9, -, hz9⟩ := List.mem_map.mp z
        rw [← hz9]
        exact c_ad_A h4) hl _ hheap X'
  exact ⟨t, step t a9, b9⟩
theorem sm_gets (h : c_Ok p s m c cc nL own G) {index : Nat} {n : String} (k : Nat) (hk : (k = 0 ∧ n = "FACTORIAL") ∨ (k = 1 ∧ n = "LIKING_PLACE")) (hw : Cond.fieldLink own index RX4 n "[I" ∈ c_gw) (hd : decode cc pc = .ok (.getstatic index, 3)) (kk : Sm p l e R s m args below meth c G nL Q cells slots (pc + 3) lv (.ref k :: st) P) : Sm p l e R s m args below meth c G nL Q cells slots pc lv st P := by
  intro σ r σ' hP H locs ls hH hL hl
  have key : va_Z RX4 n "[I" (.ref (G.2.1 k)) (c_A G) s H := by
    rcases hk with ⟨rfl, rfl⟩ | ⟨rfl, rfl⟩
    · exact hH.2.2.2.2.2.1
    · exact hH.2.2.2.2.2.2
  obtain ⟨cf, kf, fi, f, a, cell, h1, h2, h3, h4, h5, h6, h7, h8⟩ := key
  have e1 : c_ad G k = G.2.1 k := if_pos (by omega)
  refine W.gets h.1 h.2.1 h.2.2.2.1 (h.2.2.2.2.1 _ hw _) h1 h2 h3 h4 h5 (fun e => by rw [e] at h6; cases h6) h7 rfl hd ?_
  have := kk σ r σ' hP H locs ls hH hL hl
  rw [← e1]
  exact this
theorem sm_objInit (h : c_Ok p s m c cc nL own G) {index a : Nat} (w1 : Cond.methodLink own index Lib.objectInit ∈ c_gw) (w2 : Cond.instanceMethod Lib.objectInit ∈ c_gw) (w3 : Cond.code Lib.objectInit ⟨#[0xb1]⟩ 1 none ∈ c_gw) (hframes : 1 ≤ R.frames) (hlocals : (st.map fun v => v.category).sum + 12 ≤ R.locals) (hd : decode cc pc = .ok (.invokespecial index, 3)) (kk : Sm p l e R s m args below meth c G nL Q cells slots (pc + 3) lv st P) : Sm p l e R s m args below meth c G nL Q cells slots pc lv (.ref a :: st) P := by
  intro σ r σ' hP H locs ls hH hL hl
  have hs : ((st.map (c_v G)).map fun v => v.category).sum = (st.map fun v => v.category).sum := by
    rw [List.map_map]
    congr 2
    funext v
    exact c_cat G v
  exact W.objInit h.1 h.2.1 h.2.2.2.1 (h.2.2.2.2.1 _ w1 _) (h.2.2.2.2.1 _ w2 _) (h.2.2.2.2.1 _ w3 _) rfl (by rw [h.2.2.1]; exact hl.1) rfl hd hframes (by show 2 * 0 + _ + 12 ≤ _; rw [hs]; omega) (kk σ r σ' hP H locs ls hH hL hl)
end SMN
