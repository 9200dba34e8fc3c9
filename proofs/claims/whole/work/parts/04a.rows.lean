/-! the words of the tables that stay, what the law's state holds of them, and Sm: the machine follows a program -/
def c_gw : List Cond := lw_tbl.filter goodWord
theorem c_in {w : Cond} (i : Nat) (h : lw_tbl[i]? = some w) (hg : goodWord w = true) : w ∈ c_gw := List.mem_filter.mpr ⟨List.mem_of_getElem? h, hg⟩
theorem c_good {w : Cond} (h : w ∈ c_gw) : (w.onTables && w.keeps) = true ∨ ∃ ty, w = .arrayClass ty := good_of_word (List.mem_filter.mp h).2
def c_nw : List (String × Nat × MethodName) := [(RX9, 9, yX7_init), (RX9, 18, yX5_init), (RX9, 32, yX0_init), (RX9, 45, yX2_init), (RX9, 52, yX8_init), (RX9, 59, yX4_init), (RX9, 67, yX1_init), (RX1, 9, yX5_init), (RX3, 17, yX5_init)]
def c_Cx (G : cG) (U : State) : Prop := (∀ w ∈ c_gw, ∀ a : Array Value, w.before a U = true) ∧ va_K G.2.2 vwCl [] U ∧ (∀ q ∈ c_nw, va_Nw (.methodLinkNest q.1 q.2.1 q.2.2 RX9) U) ∧ va_AO RX1 U ∧ va_AO RX5 U ∧ va_Nw (.arrayOver (.array .int)) U
theorem c_Cx.moved {G : cG} {s U : State} (hW : s.WarmedH U.vm) (h : c_Cx G s) : c_Cx G U := by
  obtain ⟨h1, h2, h3, h4, h5, h6⟩ := h
  exact ⟨fun w hw a => word_at hW (c_good hw) (h1 w hw a), va_K.moved hW.alike h2, fun q hq => va_Nw.warmM hW (h3 q hq), va_AO.moved hW.alike h4, va_AO.moved hW.alike h5, over_moved hW.alike h6⟩
def c_Ok (p : Program) (s : State) (m : MethodId) (c : Code) (cc : ByteArray) (nL : Nat) (own : String) (G : cG) : Prop := p.tables.exec = Jvm.exec ∧ c.code = cc ∧ c.maxLocals = nL ∧ s.vm.findClass own = some m.cls ∧ c_Cx G s
def Sm {α : Type} (p : Program) (l : Launch) (e : Env) (R : Room) (s : State) (m : MethodId) (args : Array Value) (below : List Frame) (meth : Method) (c : Code) (G : cG) (nL : Nat) (Q : α → cH → State → Prop) (cells slots pc : Nat) (lv : List (Nat × Value)) (st : List Value) (P : MM α) : Prop :=
  ∀ (σ : cH) (r : α) (σ' : cH), P σ = some (r, σ') → ∀ (H : Heap) (locs : List Loc) (ls : Array Slot), c_Hd G σ s H → (∀ q ∈ locs, c_A G q.base) → lv_has ls nL (c_lv G lv) → W p l e R s m args below meth c H locs cells slots (Q r σ') (F0 m pc ls (st.map (c_v G)))
theorem c_lv_at {G : cG} {lv : List (Nat × Value)} {k i : Nat} {v : Value} (h : lv[k]? = some (i, v)) : (c_lv G lv)[k]? = some (i, c_v G v) := by
  unfold c_lv
  rw [List.getElem?_map, h]
  rfl
section SM
variable {α β : Type} {p : Program} {l : Launch} {e : Env} {R : Room} {s : State} {m : MethodId} {args : Array Value} {below : List Frame} {meth : Method} {c : Code} {G : cG} {nL : Nat} {Q : α → cH → State → Prop} {cells slots pc : Nat} {lv lv' : List (Nat × Value)} {st : List Value} {P : MM α} {cc : ByteArray} {own : String}
/-! constants -/
theorem sm_iconst (h : c_Ok p s m c cc nL own G) {n : Int} {v : Int32} (hd : decode cc pc = .ok (.iconst n, 1)) (hv : Int32.ofInt n = v) (k : Sm p l e R s m args below meth c G nL Q cells slots (pc + 1) lv (.int v :: st) P) : Sm p l e R s m args below meth c G nL Q cells slots pc lv st P :=
  fun σ r σ' hP H locs ls hH hL hl => lv_iconst h.1 h.2.1 hd hv (k σ r σ' hP H locs ls hH hL hl)
theorem sm_bipush (h : c_Ok p s m c cc nL own G) {n : Int} {v : Int32} (hd : decode cc pc = .ok (.bipush n, 2)) (hv : (Int8.ofInt n).toInt32 = v) (k : Sm p l e R s m args below meth c G nL Q cells slots (pc + 2) lv (.int v :: st) P) : Sm p l e R s m args below meth c G nL Q cells slots pc lv st P :=
  fun σ r σ' hP H locs ls hH hL hl => lv_bipush h.1 h.2.1 hd hv (k σ r σ' hP H locs ls hH hL hl)
theorem sm_sipush (h : c_Ok p s m c cc nL own G) {n : Int} {v : Int32} (hd : decode cc pc = .ok (.sipush n, 3)) (hv : (Int16.ofInt n).toInt32 = v) (k : Sm p l e R s m args below meth c G nL Q cells slots (pc + 3) lv (.int v :: st) P) : Sm p l e R s m args below meth c G nL Q cells slots pc lv st P :=
  fun σ r σ' hP H locs ls hH hL hl => lv_sipush h.1 h.2.1 hd hv (k σ r σ' hP H locs ls hH hL hl)
theorem sm_lconst (h : c_Ok p s m c cc nL own G) {n : Fin 2} {v : Int64} (hd : decode cc pc = .ok (.lconst n, 1)) (hv : Int64.ofNat (n : Nat) = v) (k : Sm p l e R s m args below meth c G nL Q cells slots (pc + 1) lv (.long v :: st) P) : Sm p l e R s m args below meth c G nL Q cells slots pc lv st P :=
  fun σ r σ' hP H locs ls hH hL hl => lv_lconst h.1 h.2.1 hd hv (k σ r σ' hP H locs ls hH hL hl)
theorem sm_ldc (h : c_Ok p s m c cc nL own G) {index : Nat} {v : Int32} (hw : Cond.constant own index v ∈ c_gw) (hd : decode cc pc = .ok (.ldc index, 2)) (k : Sm p l e R s m args below meth c G nL Q cells slots (pc + 2) lv (.int v :: st) P) : Sm p l e R s m args below meth c G nL Q cells slots pc lv st P :=
  fun σ r σ' hP H locs ls hH hL hl => lv_ldc h.1 h.2.1 h.2.2.2.1 (h.2.2.2.2.1 _ hw _) hd (k σ r σ' hP H locs ls hH hL hl)
theorem sm_ldcw (h : c_Ok p s m c cc nL own G) {index : Nat} {v : Int32} (hw : Cond.constant own index v ∈ c_gw) (hd : decode cc pc = .ok (.ldc_w index, 3)) (k : Sm p l e R s m args below meth c G nL Q cells slots (pc + 3) lv (.int v :: st) P) : Sm p l e R s m args below meth c G nL Q cells slots pc lv st P :=
  fun σ r σ' hP H locs ls hH hL hl => lv_ldcw h.1 h.2.1 h.2.2.2.1 (h.2.2.2.2.1 _ hw _) hd (k σ r σ' hP H locs ls hH hL hl)
theorem sm_ldc2 (h : c_Ok p s m c cc nL own G) {index : Nat} {v : Int64} (hw : Cond.constantLong own index v ∈ c_gw) (hd : decode cc pc = .ok (.ldc2_w index, 3)) (k : Sm p l e R s m args below meth c G nL Q cells slots (pc + 3) lv (.long v :: st) P) : Sm p l e R s m args below meth c G nL Q cells slots pc lv st P :=
  fun σ r σ' hP H locs ls hH hL hl => lv_ldc2 h.1 h.2.1 h.2.2.2.1 (h.2.2.2.2.1 _ hw _) hd (k σ r σ' hP H locs ls hH hL hl)
/-! locals -/
theorem sm_iload_n (h : c_Ok p s m c cc nL own G) {n : Fin 4} {i : Nat} {x : Int32} (j : Nat) (hd : decode cc pc = .ok (.iload_n n, 1)) (hi : (n : Nat) = i) (hj : lv[j]? = some (i, .int x)) (k : Sm p l e R s m args below meth c G nL Q cells slots (pc + 1) lv (.int x :: st) P) : Sm p l e R s m args below meth c G nL Q cells slots pc lv st P :=
  fun σ r σ' hP H locs ls hH hL hl => lv_iload_n h.1 h.2.1 hd hi (lv_at hl j (c_lv_at hj)) (k σ r σ' hP H locs ls hH hL hl)
theorem sm_iload (h : c_Ok p s m c cc nL own G) {i : Nat} {x : Int32} (j : Nat) (hd : decode cc pc = .ok (.iload i, 2)) (hj : lv[j]? = some (i, .int x)) (k : Sm p l e R s m args below meth c G nL Q cells slots (pc + 2) lv (.int x :: st) P) : Sm p l e R s m args below meth c G nL Q cells slots pc lv st P :=
  fun σ r σ' hP H locs ls hH hL hl => lv_iload h.1 h.2.1 hd (lv_at hl j (c_lv_at hj)) (k σ r σ' hP H locs ls hH hL hl)
theorem sm_lload_n (h : c_Ok p s m c cc nL own G) {n : Fin 4} {i : Nat} {x : Int64} (j : Nat) (hd : decode cc pc = .ok (.lload_n n, 1)) (hi : (n : Nat) = i) (hj : lv[j]? = some (i, .long x)) (k : Sm p l e R s m args below meth c G nL Q cells slots (pc + 1) lv (.long x :: st) P) : Sm p l e R s m args below meth c G nL Q cells slots pc lv st P :=
  fun σ r σ' hP H locs ls hH hL hl => lv_lload_n h.1 h.2.1 hd hi (lv_at hl j (c_lv_at hj)) (k σ r σ' hP H locs ls hH hL hl)
theorem sm_lload (h : c_Ok p s m c cc nL own G) {i : Nat} {x : Int64} (j : Nat) (hd : decode cc pc = .ok (.lload i, 2)) (hj : lv[j]? = some (i, .long x)) (k : Sm p l e R s m args below meth c G nL Q cells slots (pc + 2) lv (.long x :: st) P) : Sm p l e R s m args below meth c G nL Q cells slots pc lv st P :=
  fun σ r σ' hP H locs ls hH hL hl => lv_lload h.1 h.2.1 hd (lv_at hl j (c_lv_at hj)) (k σ r σ' hP H locs ls hH hL hl)
theorem sm_aload_n (h : c_Ok p s m c cc nL own G) {n : Fin 4} {i x : Nat} (j : Nat) (hd : decode cc pc = .ok (.aload_n n, 1)) (hi : (n : Nat) = i) (hj : lv[j]? = some (i, .ref x)) (k : Sm p l e R s m args below meth c G nL Q cells slots (pc + 1) lv (.ref x :: st) P) : Sm p l e R s m args below meth c G nL Q cells slots pc lv st P :=
  fun σ r σ' hP H locs ls hH hL hl => lv_aload_n h.1 h.2.1 hd hi (lv_at hl j (c_lv_at hj)) (k σ r σ' hP H locs ls hH hL hl)
theorem sm_aload (h : c_Ok p s m c cc nL own G) {i x : Nat} (j : Nat) (hd : decode cc pc = .ok (.aload i, 2)) (hj : lv[j]? = some (i, .ref x)) (k : Sm p l e R s m args below meth c G nL Q cells slots (pc + 2) lv (.ref x :: st) P) : Sm p l e R s m args below meth c G nL Q cells slots pc lv st P :=
  fun σ r σ' hP H locs ls hH hL hl => lv_aload h.1 h.2.1 hd (lv_at hl j (c_lv_at hj)) (k σ r σ' hP H locs ls hH hL hl)
theorem c_lv_filter {i : Nat} {v : Value} (h : (i, v) :: lv.filter (fun q => !(q.1 == i) && !(q.1 + 1 == i && q.2.category == 2)) = lv') : (i, c_v G v) :: (c_lv G lv).filter (fun q => !(q.1 == i) && !(q.1 + 1 == i && q.2.category == 2)) = c_lv G lv' := by
  rw [← h]
  unfold c_lv
  rw [List.map_cons, List.filter_map]
  congr 2
  apply List.filter_congr
  intro q _
  show (!(q.1 == i) && !(q.1 + 1 == i && (c_v G q.2).category == 2)) = _
  have : (c_v G q.2).category = q.2.category := by cases q.2 <;> rfl
  rw [this]
theorem c_lv_filter2 {i : Nat} {v : Value} (h : (i, v) :: lv.filter (fun q => !(q.1 == i) && (!(q.1 == i + 1) && !(q.1 + 1 == i && q.2.category == 2))) = lv') : (i, c_v G v) :: (c_lv G lv).filter (fun q => !(q.1 == i) && (!(q.1 == i + 1) && !(q.1 + 1 == i && q.2.category == 2))) = c_lv G lv' := by
  rw [← h]
  unfold c_lv
  rw [List.map_cons, List.filter_map]
  congr 2
  apply List.filter_congr
  intro q _
  show (!(q.1 == i) && (!(q.1 == i + 1) && !(q.1 + 1 == i && (c_v G q.2).category == 2))) = _
  have : (c_v G q.2).category = q.2.category := by cases q.2 <;> rfl
  rw [this]
theorem sm_istore_n (h : c_Ok p s m c cc nL own G) {n : Fin 4} {i : Nat} {x : Int32} (lv' : List (Nat × Value)) (hd : decode cc pc = .ok (.istore_n n, 1)) (hi : (n : Nat) = i) (hn : i < nL) (he : (i, Value.int x) :: lv.filter (fun q => !(q.1 == i) && !(q.1 + 1 == i && q.2.category == 2)) = lv') (k : Sm p l e R s m args below meth c G nL Q cells slots (pc + 1) lv' st P) : Sm p l e R s m args below meth c G nL Q cells slots pc lv (.int x :: st) P :=
  fun σ r σ' hP H locs ls hH hL hl => lv_istore_n h.1 h.2.1 hd hi hl hn (c_lv_filter he) (fun ls' hl' => k σ r σ' hP H locs ls' hH hL hl')
theorem sm_istore (h : c_Ok p s m c cc nL own G) {i : Nat} {x : Int32} (lv' : List (Nat × Value)) (hd : decode cc pc = .ok (.istore i, 2)) (hn : i < nL) (he : (i, Value.int x) :: lv.filter (fun q => !(q.1 == i) && !(q.1 + 1 == i && q.2.category == 2)) = lv') (k : Sm p l e R s m args below meth c G nL Q cells slots (pc + 2) lv' st P) : Sm p l e R s m args below meth c G nL Q cells slots pc lv (.int x :: st) P :=
  fun σ r σ' hP H locs ls hH hL hl => lv_istore h.1 h.2.1 hd hl hn (c_lv_filter he) (fun ls' hl' => k σ r σ' hP H locs ls' hH hL hl')
theorem sm_astore_n (h : c_Ok p s m c cc nL own G) {n : Fin 4} {i x : Nat} (lv' : List (Nat × Value)) (hd : decode cc pc = .ok (.astore_n n, 1)) (hi : (n : Nat) = i) (hn : i < nL) (he : (i, Value.ref x) :: lv.filter (fun q => !(q.1 == i) && !(q.1 + 1 == i && q.2.category == 2)) = lv') (k : Sm p l e R s m args below meth c G nL Q cells slots (pc + 1) lv' st P) : Sm p l e R s m args below meth c G nL Q cells slots pc lv (.ref x :: st) P :=
  fun σ r σ' hP H locs ls hH hL hl => lv_astore_n h.1 h.2.1 hd hi hl hn (c_lv_filter he) (fun ls' hl' => k σ r σ' hP H locs ls' hH hL hl')
theorem sm_lstore_n (h : c_Ok p s m c cc nL own G) {n : Fin 4} {i : Nat} {x : Int64} (lv' : List (Nat × Value)) (hd : decode cc pc = .ok (.lstore_n n, 1)) (hi : (n : Nat) = i) (hn : i + 1 < nL) (he : (i, Value.long x) :: lv.filter (fun q => !(q.1 == i) && (!(q.1 == i + 1) && !(q.1 + 1 == i && q.2.category == 2))) = lv') (k : Sm p l e R s m args below meth c G nL Q cells slots (pc + 1) lv' st P) : Sm p l e R s m args below meth c G nL Q cells slots pc lv (.long x :: st) P :=
  fun σ r σ' hP H locs ls hH hL hl => lv_lstore_n h.1 h.2.1 hd hi hl hn (c_lv_filter2 he) (fun ls' hl' => k σ r σ' hP H locs ls' hH hL hl')
theorem sm_iinc (h : c_Ok p s m c cc nL own G) {i : Nat} {n : Int} {x v : Int32} (j : Nat) (lv' : List (Nat × Value)) (hd : decode cc pc = .ok (.iinc i n, 3)) (hj : lv[j]? = some (i, .int x)) (hv : x + Int32.ofInt n = v) (hn : i < nL) (he : (i, Value.int v) :: lv.filter (fun q => !(q.1 == i) && !(q.1 + 1 == i && q.2.category == 2)) = lv') (k : Sm p l e R s m args below meth c G nL Q cells slots (pc + 3) lv' st P) : Sm p l e R s m args below meth c G nL Q cells slots pc lv st P :=
  fun σ r σ' hP H locs ls hH hL hl => lv_iinc h.1 h.2.1 hd hl (c_lv_at hj) hv hn (c_lv_filter he) (fun ls' hl' => k σ r σ' hP H locs ls' hH hL hl')
/-- fewer locals are spoken of -/
theorem sm_sub (ks : List Nat) (he : lv_pick lv ks = lv') (k : Sm p l e R s m args below meth c G nL Q cells slots pc lv' st P) : Sm p l e R s m args below meth c G nL Q cells slots pc lv st P :=
  fun σ r σ' hP H locs ls hH hL hl => k σ r σ' hP H locs ls hH hL (lv_sub hl ks (by
    rw [← he]
    unfold lv_pick c_lv
    rw [List.map_filterMap]
    congr 1
    funext k
    rw [List.getElem?_map]))
theorem sm_iadd (h : c_Ok p s m c cc nL own G) {x y : Int32} (hd : decode cc pc = .ok (.iadd, 1)) (k : Sm p l e R s m args below meth c G nL Q cells slots (pc + 1) lv (.int (x + y) :: st) P) : Sm p l e R s m args below meth c G nL Q cells slots pc lv (.int y :: .int x :: st) P :=
  fun σ r σ' hP H locs ls hH hL hl => lv_iadd h.1 h.2.1 hd (k σ r σ' hP H locs ls hH hL hl)
theorem sm_isub (h : c_Ok p s m c cc nL own G) {x y : Int32} (hd : decode cc pc = .ok (.isub, 1)) (k : Sm p l e R s m args below meth c G nL Q cells slots (pc + 1) lv (.int (x - y) :: st) P) : Sm p l e R s m args below meth c G nL Q cells slots pc lv (.int y :: .int x :: st) P :=
  fun σ r σ' hP H locs ls hH hL hl => lv_isub h.1 h.2.1 hd (k σ r σ' hP H locs ls hH hL hl)
theorem sm_imul (h : c_Ok p s m c cc nL own G) {x y : Int32} (hd : decode cc pc = .ok (.imul, 1)) (k : Sm p l e R s m args below meth c G nL Q cells slots (pc + 1) lv (.int (x * y) :: st) P) : Sm p l e R s m args below meth c G nL Q cells slots pc lv (.int y :: .int x :: st) P :=
  fun σ r σ' hP H locs ls hH hL hl => lv_imul h.1 h.2.1 hd (k σ r σ' hP H locs ls hH hL hl)
theorem sm_iand (h : c_Ok p s m c cc nL own G) {x y : Int32} (hd : decode cc pc = .ok (.iand, 1)) (k : Sm p l e R s m args below meth c G nL Q cells slots (pc + 1) lv (.int (x &&& y) :: st) P) : Sm p l e R s m args below meth c G nL Q cells slots pc lv (.int y :: .int x :: st) P :=
  fun σ r σ' hP H locs ls hH hL hl => lv_iand h.1 h.2.1 hd (k σ r σ' hP H locs ls hH hL hl)
theorem sm_ior (h : c_Ok p s m c cc nL own G) {x y : Int32} (hd : decode cc pc = .ok (.ior, 1)) (k : Sm p l e R s m args below meth c G nL Q cells slots (pc + 1) lv (.int (x ||| y) :: st) P) : Sm p l e R s m args below meth c G nL Q cells slots pc lv (.int y :: .int x :: st) P :=
  fun σ r σ' hP H locs ls hH hL hl => lv_ior h.1 h.2.1 hd (k σ r σ' hP H locs ls hH hL hl)
theorem sm_ixor (h : c_Ok p s m c cc nL own G) {x y : Int32} (hd : decode cc pc = .ok (.ixor, 1)) (k : Sm p l e R s m args below meth c G nL Q cells slots (pc + 1) lv (.int (x ^^^ y) :: st) P) : Sm p l e R s m args below meth c G nL Q cells slots pc lv (.int y :: .int x :: st) P :=
  fun σ r σ' hP H locs ls hH hL hl => lv_ixor h.1 h.2.1 hd (k σ r σ' hP H locs ls hH hL hl)
theorem sm_ishl (h : c_Ok p s m c cc nL own G) {x y : Int32} (hd : decode cc pc = .ok (.ishl, 1)) (k : Sm p l e R s m args below meth c G nL Q cells slots (pc + 1) lv (.int (x <<< (y &&& 31)) :: st) P) : Sm p l e R s m args below meth c G nL Q cells slots pc lv (.int y :: .int x :: st) P :=
  fun σ r σ' hP H locs ls hH hL hl => lv_ishl h.1 h.2.1 hd (k σ r σ' hP H locs ls hH hL hl)
theorem sm_ishr (h : c_Ok p s m c cc nL own G) {x y : Int32} (hd : decode cc pc = .ok (.ishr, 1)) (k : Sm p l e R s m args below meth c G nL Q cells slots (pc + 1) lv (.int (x >>> (y &&& 31)) :: st) P) : Sm p l e R s m args below meth c G nL Q cells slots pc lv (.int y :: .int x :: st) P :=
  fun σ r σ' hP H locs ls hH hL hl => lv_ishr h.1 h.2.1 hd (k σ r σ' hP H locs ls hH hL hl)
theorem sm_iushr (h : c_Ok p s m c cc nL own G) {x y v : Int32} (hd : decode cc pc = .ok (.iushr, 1)) (hv : (x.toUInt32 >>> (y.toUInt32 &&& Int32.toUInt32 31)).toInt32 = v) (k : Sm p l e R s m args below meth c G nL Q cells slots (pc + 1) lv (.int v :: st) P) : Sm p l e R s m args below meth c G nL Q cells slots pc lv (.int y :: .int x :: st) P :=
  fun σ r σ' hP H locs ls hH hL hl => lv_iushr h.1 h.2.1 hd hv (k σ r σ' hP H locs ls hH hL hl)
theorem sm_ineg (h : c_Ok p s m c cc nL own G) {x : Int32} (hd : decode cc pc = .ok (.ineg, 1)) (k : Sm p l e R s m args below meth c G nL Q cells slots (pc + 1) lv (.int (-x) :: st) P) : Sm p l e R s m args below meth c G nL Q cells slots pc lv (.int x :: st) P :=
  fun σ r σ' hP H locs ls hH hL hl => lv_ineg h.1 h.2.1 hd (k σ r σ' hP H locs ls hH hL hl)
theorem sm_ladd (h : c_Ok p s m c cc nL own G) {x y : Int64} (hd : decode cc pc = .ok (.ladd, 1)) (k : Sm p l e R s m args below meth c G nL Q cells slots (pc + 1) lv (.long (x + y) :: st) P) : Sm p l e R s m args below meth c G nL Q cells slots pc lv (.long y :: .long x :: st) P :=
  fun σ r σ' hP H locs ls hH hL hl => lv_ladd h.1 h.2.1 hd (k σ r σ' hP H locs ls hH hL hl)
theorem sm_lmul (h : c_Ok p s m c cc nL own G) {x y : Int64} (hd : decode cc pc = .ok (.lmul, 1)) (k : Sm p l e R s m args below meth c G nL Q cells slots (pc + 1) lv (.long (x * y) :: st) P) : Sm p l e R s m args below meth c G nL Q cells slots pc lv (.long y :: .long x :: st) P :=
  fun σ r σ' hP H locs ls hH hL hl => lv_lmul h.1 h.2.1 hd (k σ r σ' hP H locs ls hH hL hl)
theorem sm_i2l (h : c_Ok p s m c cc nL own G) {x : Int32} {v : Int64} (hd : decode cc pc = .ok (.i2l, 1)) (hv : x.toInt64 = v) (k : Sm p l e R s m args below meth c G nL Q cells slots (pc + 1) lv (.long v :: st) P) : Sm p l e R s m args below meth c G nL Q cells slots pc lv (.int x :: st) P :=
  fun σ r σ' hP H locs ls hH hL hl => lv_i2l h.1 h.2.1 hd hv (k σ r σ' hP H locs ls hH hL hl)
theorem sm_l2i (h : c_Ok p s m c cc nL own G) {x : Int64} {v : Int32} (hd : decode cc pc = .ok (.l2i, 1)) (hv : x.toInt32 = v) (k : Sm p l e R s m args below meth c G nL Q cells slots (pc + 1) lv (.int v :: st) P) : Sm p l e R s m args below meth c G nL Q cells slots pc lv (.long x :: st) P :=
  fun σ r σ' hP H locs ls hH hL hl => lv_l2i h.1 h.2.1 hd hv (k σ r σ' hP H locs ls hH hL hl)
theorem c_cat (G : cG) (v : Value) : (c_v G v).category = v.category := by cases v <;> rfl
theorem sm_dup (h : c_Ok p s m c cc nL own G) {va : Value} (hd : decode cc pc = .ok (.dup, 1)) (hva : va.category = 1) (k : Sm p l e R s m args below meth c G nL Q cells slots (pc + 1) lv (va :: va :: st) P) : Sm p l e R s m args below meth c G nL Q cells slots pc lv (va :: st) P :=
  fun σ r σ' hP H locs ls hH hL hl => lv_dup h.1 h.2.1 hd (by rw [c_cat]; exact hva) (k σ r σ' hP H locs ls hH hL hl)
theorem sm_pop (h : c_Ok p s m c cc nL own G) {va : Value} (hd : decode cc pc = .ok (.pop, 1)) (hva : va.category = 1) (k : Sm p l e R s m args below meth c G nL Q cells slots (pc + 1) lv st P) : Sm p l e R s m args below meth c G nL Q cells slots pc lv (va :: st) P :=
  fun σ r σ' hP H locs ls hH hL hl => lv_pop h.1 h.2.1 hd (by rw [c_cat]; exact hva) (k σ r σ' hP H locs ls hH hL hl)
theorem sm_dup2 (h : c_Ok p s m c cc nL own G) {va vb : Value} (hd : decode cc pc = .ok (.dup2, 1)) (hva : va.category = 1) (hvb : vb.category = 1) (k : Sm p l e R s m args below meth c G nL Q cells slots (pc + 1) lv (va :: vb :: va :: vb :: st) P) : Sm p l e R s m args below meth c G nL Q cells slots pc lv (va :: vb :: st) P :=
  fun σ r σ' hP H locs ls hH hL hl => lv_dup2_11 h.1 h.2.1 hd (by rw [c_cat]; exact hva) (by rw [c_cat]; exact hvb) (k σ r σ' hP H locs ls hH hL hl)
theorem sm_goto (h : c_Ok p s m c cc nL own G) {off : Int} {tgt : Nat} (hd : decode cc pc = .ok (.goto off, 3)) (ht : (pc : Int) + off = (tgt : Int)) (k : Sm p l e R s m args below meth c G nL Q cells slots tgt lv st P) : Sm p l e R s m args below meth c G nL Q cells slots pc lv st P :=
  fun σ r σ' hP H locs ls hH hL hl => lv_goto h.1 h.2.1 hd ht (k σ r σ' hP H locs ls hH hL hl)
theorem sm_lcmp (h : c_Ok p s m c cc nL own G) {x y : Int64} (hd : decode cc pc = .ok (.lcmp, 1)) (k : Sm p l e R s m args below meth c G nL Q cells slots (pc + 1) lv (.int (lg_cmp x y) :: st) P) : Sm p l e R s m args below meth c G nL Q cells slots pc lv (.long y :: .long x :: st) P :=
  fun σ r σ' hP H locs ls hH hL hl => W.lcmp h.1 h.2.1 hd (k σ r σ' hP H locs ls hH hL hl)
theorem sm_idiv (h : c_Ok p s m c cc nL own G) {x y : Int32} (hd : decode cc pc = .ok (.idiv, 1)) (k : Sm p l e R s m args below meth c G nL Q cells slots (pc + 1) lv (.int (x / y) :: st) P) : Sm p l e R s m args below meth c G nL Q cells slots pc lv (.int y :: .int x :: st) (m_nz y P) := by
  intro σ r σ' hP H locs ls hH hL hl
  by_cases hy : y = 0
  · simp only [m_nz, if_pos hy] at hP
    cases hP
  · simp only [m_nz, if_neg hy] at hP
    exact lv_idiv h.1 h.2.1 hd hy (k σ r σ' hP H locs ls hH hL hl)
theorem sm_irem (h : c_Ok p s m c cc nL own G) {x y : Int32} (hd : decode cc pc = .ok (.irem, 1)) (k : Sm p l e R s m args below meth c G nL Q cells slots (pc + 1) lv (.int (x - x / y * y) :: st) P) : Sm p l e R s m args below meth c G nL Q cells slots pc lv (.int y :: .int x :: st) (m_nz y P) := by
  intro σ r σ' hP H locs ls hH hL hl
  by_cases hy : y = 0
  · simp only [m_nz, if_pos hy] at hP
    cases hP
  · simp only [m_nz, if_neg hy] at hP
    exact lv_irem h.1 h.2.1 hd hy (k σ r σ' hP H locs ls hH hL hl)
theorem sm_ldiv (h : c_Ok p s m c cc nL own G) {x y : Int64} (hd : decode cc pc = .ok (.ldiv, 1)) (k : Sm p l e R s m args below meth c G nL Q cells slots (pc + 1) lv (.long (x / y) :: st) P) : Sm p l e R s m args below meth c G nL Q cells slots pc lv (.long y :: .long x :: st) (m_nzl y P) := by
  intro σ r σ' hP H locs ls hH hL hl
  by_cases hy : y = 0
  · simp only [m_nzl, if_pos hy] at hP
    cases hP
  · simp only [m_nzl, if_neg hy] at hP
    exact lv_ldiv h.1 h.2.1 hd hy (k σ r σ' hP H locs ls hH hL hl)
theorem sm_lrem (h : c_Ok p s m c cc nL own G) {x y : Int64} (hd : decode cc pc = .ok (.lrem, 1)) (k : Sm p l e R s m args below meth c G nL Q cells slots (pc + 1) lv (.long (x - x / y * y) :: st) P) : Sm p l e R s m args below meth c G nL Q cells slots pc lv (.long y :: .long x :: st) (m_nzl y P) := by
  intro σ r σ' hP H locs ls hH hL hl
  by_cases hy : y = 0
  · simp only [m_nzl, if_pos hy] at hP
    cases hP
  · simp only [m_nzl, if_neg hy] at hP
    exact lv_lrem h.1 h.2.1 hd hy (k σ r σ' hP H locs ls hH hL hl)
theorem sm_ite {q : Prop} [Decidable q] {P1 P2 : MM α} (k1 : q → Sm p l e R s m args below meth c G nL Q cells slots pc lv st P1) (k2 : ¬ q → Sm p l e R s m args below meth c G nL Q cells slots pc lv st P2) : Sm p l e R s m args below meth c G nL Q cells slots pc lv st (if q then P1 else P2) := by
  intro σ r σ' hP H locs ls hH hL hl
  by_cases hq : q
  · rw [if_pos hq] at hP
    exact k1 hq σ r σ' hP H locs ls hH hL hl
  · rw [if_neg hq] at hP
    exact k2 hq σ r σ' hP H locs ls hH hL hl
theorem sm_eq {P2 : MM α} (he : P = P2) (k : Sm p l e R s m args below meth c G nL Q cells slots pc lv st P2) : Sm p l e R s m args below meth c G nL Q cells slots pc lv st P := he ▸ k
theorem sm_if_eq (h : c_Ok p s m c cc nL own G) {x : Int32} {off : Int} {tgt : Nat} {P1 P2 : MM α} (hd : decode cc pc = .ok (.ifCond .eq off, 3)) (ht : (pc : Int) + off = (tgt : Int)) (k1 : Sm p l e R s m args below meth c G nL Q cells slots tgt lv st P1) (k2 : Sm p l e R s m args below meth c G nL Q cells slots (pc + 3) lv st P2) : Sm p l e R s m args below meth c G nL Q cells slots pc lv (.int x :: st) (if x = 0 then P1 else P2) := by
  intro σ r σ' hP H locs ls hH hL hl
  refine lv_if_eq h.1 h.2.1 hd ht (fun hq => ?_) (fun hq => ?_)
  · rw [if_pos hq] at hP
    exact k1 σ r σ' hP H locs ls hH hL hl
  · rw [if_neg hq] at hP
    exact k2 σ r σ' hP H locs ls hH hL hl
theorem sm_icmp_eq (h : c_Ok p s m c cc nL own G) {x y : Int32} {off : Int} {tgt : Nat} {P1 P2 : MM α} (hd : decode cc pc = .ok (.if_icmp .eq off, 3)) (ht : (pc : Int) + off = (tgt : Int)) (k1 : Sm p l e R s m args below meth c G nL Q cells slots tgt lv st P1) (k2 : Sm p l e R s m args below meth c G nL Q cells slots (pc + 3) lv st P2) : Sm p l e R s m args below meth c G nL Q cells slots pc lv (.int y :: .int x :: st) (if x = y then P1 else P2) := by
  intro σ r σ' hP H locs ls hH hL hl
  refine lv_icmp_eq h.1 h.2.1 hd ht (fun hq => ?_) (fun hq => ?_)
  · rw [if_pos hq] at hP
    exact k1 σ r σ' hP H locs ls hH hL hl
  · rw [if_neg hq] at hP
    exact k2 σ r σ' hP H locs ls hH hL hl
theorem sm_if_ne (h : c_Ok p s m c cc nL own G) {x : Int32} {off : Int} {tgt : Nat} {P1 P2 : MM α} (hd : decode cc pc = .ok (.ifCond .ne off, 3)) (ht : (pc : Int) + off = (tgt : Int)) (k1 : Sm p l e R s m args below meth c G nL Q cells slots tgt lv st P1) (k2 : Sm p l e R s m args below meth c G nL Q cells slots (pc + 3) lv st P2) : Sm p l e R s m args below meth c G nL Q cells slots pc lv (.int x :: st) (if x = 0 then P2 else P1) := by
  intro σ r σ' hP H locs ls hH hL hl
  refine lv_if_ne h.1 h.2.1 hd ht (fun hq => ?_) (fun hq => ?_)
  · rw [if_neg hq] at hP
    exact k1 σ r σ' hP H locs ls hH hL hl
  · rw [if_pos hq] at hP
    exact k2 σ r σ' hP H locs ls hH hL hl
theorem sm_icmp_ne (h : c_Ok p s m c cc nL own G) {x y : Int32} {off : Int} {tgt : Nat} {P1 P2 : MM α} (hd : decode cc pc = .ok (.if_icmp .ne off, 3)) (ht : (pc : Int) + off = (tgt : Int)) (k1 : Sm p l e R s m args below meth c G nL Q cells slots tgt lv st P1) (k2 : Sm p l e R s m args below meth c G nL Q cells slots (pc + 3) lv st P2) : Sm p l e R s m args below meth c G nL Q cells slots pc lv (.int y :: .int x :: st) (if x = y then P2 else P1) := by
  intro σ r σ' hP H locs ls hH hL hl
  refine lv_icmp_ne h.1 h.2.1 hd ht (fun hq => ?_) (fun hq => ?_)
  · rw [if_neg hq] at hP
    exact k1 σ r σ' hP H locs ls hH hL hl
  · rw [if_pos hq] at hP
    exact k2 σ r σ' hP H locs ls hH hL hl
theorem sm_if_lt (h : c_Ok p s m c cc nL own G) {x : Int32} {off : Int} {tgt : Nat} {P1 P2 : MM α} (hd : decode cc pc = .ok (.ifCond .lt off, 3)) (ht : (pc : Int) + off = (tgt : Int)) (k1 : Sm p l e R s m args below meth c G nL Q cells slots tgt lv st P1) (k2 : Sm p l e R s m args below meth c G nL Q cells slots (pc + 3) lv st P2) : Sm p l e R s m args below meth c G nL Q cells slots pc lv (.int x :: st) (if x < 0 then P1 else P2) := by
  intro σ r σ' hP H locs ls hH hL hl
  refine lv_if_lt h.1 h.2.1 hd ht (fun hq => ?_) (fun hq => ?_)
  · rw [if_pos hq] at hP
    exact k1 σ r σ' hP H locs ls hH hL hl
  · rw [if_neg hq] at hP
    exact k2 σ r σ' hP H locs ls hH hL hl
theorem sm_icmp_lt (h : c_Ok p s m c cc nL own G) {x y : Int32} {off : Int} {tgt : Nat} {P1 P2 : MM α} (hd : decode cc pc = .ok (.if_icmp .lt off, 3)) (ht : (pc : Int) + off = (tgt : Int)) (k1 : Sm p l e R s m args below meth c G nL Q cells slots tgt lv st P1) (k2 : Sm p l e R s m args below meth c G nL Q cells slots (pc + 3) lv st P2) : Sm p l e R s m args below meth c G nL Q cells slots pc lv (.int y :: .int x :: st) (if x < y then P1 else P2) := by
  intro σ r σ' hP H locs ls hH hL hl
  refine lv_icmp_lt h.1 h.2.1 hd ht (fun hq => ?_) (fun hq => ?_)
  · rw [if_pos hq] at hP
    exact k1 σ r σ' hP H locs ls hH hL hl
  · rw [if_neg hq] at hP
    exact k2 σ r σ' hP H locs ls hH hL hl
theorem sm_if_ge (h : c_Ok p s m c cc nL own G) {x : Int32} {off : Int} {tgt : Nat} {P1 P2 : MM α} (hd : decode cc pc = .ok (.ifCond .ge off, 3)) (ht : (pc : Int) + off = (tgt : Int)) (k1 : Sm p l e R s m args below meth c G nL Q cells slots tgt lv st P1) (k2 : Sm p l e R s m args below meth c G nL Q cells slots (pc + 3) lv st P2) : Sm p l e R s m args below meth c G nL Q cells slots pc lv (.int x :: st) (if 0 ≤ x then P1 else P2) := by
  intro σ r σ' hP H locs ls hH hL hl
  refine lv_if_ge h.1 h.2.1 hd ht (fun hq => ?_) (fun hq => ?_)
  · rw [if_pos hq] at hP
    exact k1 σ r σ' hP H locs ls hH hL hl
  · rw [if_neg hq] at hP
    exact k2 σ r σ' hP H locs ls hH hL hl
theorem sm_icmp_ge (h : c_Ok p s m c cc nL own G) {x y : Int32} {off : Int} {tgt : Nat} {P1 P2 : MM α} (hd : decode cc pc = .ok (.if_icmp .ge off, 3)) (ht : (pc : Int) + off = (tgt : Int)) (k1 : Sm p l e R s m args below meth c G nL Q cells slots tgt lv st P1) (k2 : Sm p l e R s m args below meth c G nL Q cells slots (pc + 3) lv st P2) : Sm p l e R s m args below meth c G nL Q cells slots pc lv (.int y :: .int x :: st) (if y ≤ x then P1 else P2) := by
  intro σ r σ' hP H locs ls hH hL hl
  refine lv_icmp_ge h.1 h.2.1 hd ht (fun hq => ?_) (fun hq => ?_)
  · rw [if_pos hq] at hP
    exact k1 σ r σ' hP H locs ls hH hL hl
  · rw [if_neg hq] at hP
    exact k2 σ r σ' hP H locs ls hH hL hl
theorem sm_if_gt (h : c_Ok p s m c cc nL own G) {x : Int32} {off : Int} {tgt : Nat} {P1 P2 : MM α} (hd : decode cc pc = .ok (.ifCond .gt off, 3)) (ht : (pc : Int) + off = (tgt : Int)) (k1 : Sm p l e R s m args below meth c G nL Q cells slots tgt lv st P1) (k2 : Sm p l e R s m args below meth c G nL Q cells slots (pc + 3) lv st P2) : Sm p l e R s m args below meth c G nL Q cells slots pc lv (.int x :: st) (if 0 < x then P1 else P2) := by
  intro σ r σ' hP H locs ls hH hL hl
  refine lv_if_gt h.1 h.2.1 hd ht (fun hq => ?_) (fun hq => ?_)
  · rw [if_pos hq] at hP
    exact k1 σ r σ' hP H locs ls hH hL hl
  · rw [if_neg hq] at hP
    exact k2 σ r σ' hP H locs ls hH hL hl
theorem sm_icmp_gt (h : c_Ok p s m c cc nL own G) {x y : Int32} {off : Int} {tgt : Nat} {P1 P2 : MM α} (hd : decode cc pc = .ok (.if_icmp .gt off, 3)) (ht : (pc : Int) + off = (tgt : Int)) (k1 : Sm p l e R s m args below meth c G nL Q cells slots tgt lv st P1) (k2 : Sm p l e R s m args below meth c G nL Q cells slots (pc + 3) lv st P2) : Sm p l e R s m args below meth c G nL Q cells slots pc lv (.int y :: .int x :: st) (if y < x then P1 else P2) := by
  intro σ r σ' hP H locs ls hH hL hl
  refine lv_icmp_gt h.1 h.2.1 hd ht (fun hq => ?_) (fun hq => ?_)
  · rw [if_pos hq] at hP
    exact k1 σ r σ' hP H locs ls hH hL hl
  · rw [if_neg hq] at hP
    exact k2 σ r σ' hP H locs ls hH hL hl
theorem sm_if_le (h : c_Ok p s m c cc nL own G) {x : Int32} {off : Int} {tgt : Nat} {P1 P2 : MM α} (hd : decode cc pc = .ok (.ifCond .le off, 3)) (ht : (pc : Int) + off = (tgt : Int)) (k1 : Sm p l e R s m args below meth c G nL Q cells slots tgt lv st P1) (k2 : Sm p l e R s m args below meth c G nL Q cells slots (pc + 3) lv st P2) : Sm p l e R s m args below meth c G nL Q cells slots pc lv (.int x :: st) (if x ≤ 0 then P1 else P2) := by
  intro σ r σ' hP H locs ls hH hL hl
  refine lv_if_le h.1 h.2.1 hd ht (fun hq => ?_) (fun hq => ?_)
  · rw [if_pos hq] at hP
    exact k1 σ r σ' hP H locs ls hH hL hl
  · rw [if_neg hq] at hP
    exact k2 σ r σ' hP H locs ls hH hL hl
theorem sm_icmp_le (h : c_Ok p s m c cc nL own G) {x y : Int32} {off : Int} {tgt : Nat} {P1 P2 : MM α} (hd : decode cc pc = .ok (.if_icmp .le off, 3)) (ht : (pc : Int) + off = (tgt : Int)) (k1 : Sm p l e R s m args below meth c G nL Q cells slots tgt lv st P1) (k2 : Sm p l e R s m args below meth c G nL Q cells slots (pc + 3) lv st P2) : Sm p l e R s m args below meth c G nL Q cells slots pc lv (.int y :: .int x :: st) (if x ≤ y then P1 else P2) := by
  intro σ r σ' hP H locs ls hH hL hl
  refine lv_icmp_le h.1 h.2.1 hd ht (fun hq => ?_) (fun hq => ?_)
  · rw [if_pos hq] at hP
    exact k1 σ r σ' hP H locs ls hH hL hl
  · rw [if_neg hq] at hP
    exact k2 σ r σ' hP H locs ls hH hL hl
theorem sm_tabIn (h : c_Ok p s m c cc nL own G) {dflt lo hi : Int} {offs : Array Int} {len : Nat} {x y : Int32} {off : Int} {tgt : Nat} (hd : decode cc pc = .ok (.tableswitch dflt lo hi offs, len)) (hx : x = y) (h1 : ¬ y.toInt < lo) (h2 : ¬ hi < y.toInt) (ho : offs[(y.toInt - lo).toNat]? = some off) (ht : (pc : Int) + off = (tgt : Int)) (k : Sm p l e R s m args below meth c G nL Q cells slots tgt lv st P) : Sm p l e R s m args below meth c G nL Q cells slots pc lv (.int x :: st) P := by
  subst hx
  exact fun σ r σ' hP H locs ls hH hL hl => lv_tableIn h.1 h.2.1 hd h1 h2 ho ht (k σ r σ' hP H locs ls hH hL hl)
theorem sm_tabOut (h : c_Ok p s m c cc nL own G) {dflt lo hi : Int} {offs : Array Int} {len : Nat} {x : Int32} {tgt : Nat} (hd : decode cc pc = .ok (.tableswitch dflt lo hi offs, len)) (hx : x.toInt < lo ∨ hi < x.toInt) (ht : (pc : Int) + dflt = (tgt : Int)) (k : Sm p l e R s m args below meth c G nL Q cells slots tgt lv st P) : Sm p l e R s m args below meth c G nL Q cells slots pc lv (.int x :: st) P :=
  fun σ r σ' hP H locs ls hH hL hl => lv_tableOut h.1 h.2.1 hd hx ht (k σ r σ' hP H locs ls hH hL hl)
theorem sm_lookup (h : c_Ok p s m c cc nL own G) {dflt : Int} {ps : Array (Int × Int)} {len : Nat} {x : Int32} {off : Int} {tgt : Nat} (hd : decode cc pc = .ok (.lookupswitch dflt ps, len)) (hp : (ps.toList.zip (ps.toList.drop 1)).all (fun (a, next) => a.1 < next.1) = true) (ho : Op.lookupswitch.offset ps.toList dflt x.toInt = off) (ht : (pc : Int) + off = (tgt : Int)) (k : Sm p l e R s m args below meth c G nL Q cells slots tgt lv st P) : Sm p l e R s m args below meth c G nL Q cells slots pc lv (.int x :: st) P :=
  fun σ r σ' hP H locs ls hH hL hl => lv_lookup h.1 h.2.1 hd hp ho ht (k σ r σ' hP H locs ls hH hL hl)
end SM
theorem c_ne_lo {x : Int32} {n : Nat} (hn : n < 2 ^ 31) (h : ∀ k : Nat, k < n → ¬ x = nI k) : x.toInt < 0 ∨ (n : Int) - 1 < x.toInt := by
  rcases Int.lt_or_le x.toInt 0 with h0 | h0
  · exact Or.inl h0
  · refine Or.inr (Int.not_le.mp fun z => ?_)
    have hk : x.toInt.toNat < n := by omega
    refine h _ hk (Int32.toInt_inj.mp ?_)
    rw [nI_toInt (by omega)]
    omega
