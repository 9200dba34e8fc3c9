/-! new int[n][k]: the outer array, then its rows one by one; the machine's step out of the instruction's own words -/
def gd_O (cA : ClassId) (N h i : Nat) : Cell := arrV cA N (fun j => va_rf (if j < i then some (h + 1 + j) else none))
def gd_I (cI : ClassId) (M : Nat) : Cell := arrV cI M (fun _ => .int 0)
def gd (T : State) (cA cI : ClassId) (N M : Nat) : Nat → State
  | 0 => T.pushCell (gd_O cA N T.heap.size 0)
  | i + 1 => ((gd T cA cI N M i).pushCell (gd_I cI M)).setCell T.heap.size (gd_O cA N T.heap.size (i + 1))
theorem gd_O_zero (cA : ClassId) (N h : Nat) : gd_O cA N h 0 = ({ cls := cA, slots := Array.replicate N .null, vm := .none } : Cell) := by
  rw [arrV_new]
  exact congrArg (arrV cA N) (funext fun j => by simp [va_rf])
theorem gd_O_succ (cA : ClassId) (N h i : Nat) : gd_O cA N h (i + 1) = (gd_O cA N h i).setSlot i (.ref (h + 1 + i)) := by
  unfold gd_O
  rw [arrV_store]
  refine congrArg (arrV cA N) (funext fun j => ?_)
  unfold updV
  by_cases e : j = i
  · rw [if_pos e, if_pos (by omega), e]
    rfl
  · rw [if_neg e]
    dsimp only
    by_cases q : j < i
    · rw [if_pos q, if_pos (by omega)]
    · rw [if_neg q, if_neg (by omega)]
theorem gd_O_size (cA : ClassId) (N h i : Nat) : (gd_O cA N h i).slots.size = N := arrV_size _ _ _
theorem gd_I_new (cI : ClassId) (M : Nat) : gd_I cI M = ({ cls := cI, slots := Array.replicate M (.int 0), vm := .none } : Cell) := (arrV_new _ _ _).symm
theorem gd_vm (T : State) (cA cI : ClassId) (N M : Nat) : ∀ i, (gd T cA cI N M i).vm = T.vm
  | 0 => rfl
  | i + 1 => gd_vm T cA cI N M i
theorem gd_top (T : State) (cA cI : ClassId) (N M : Nat) : ∀ i, (gd T cA cI N M i).topJava? = T.topJava?
  | 0 => rfl
  | i + 1 => gd_top T cA cI N M i
theorem gd_heap (T : State) (cA cI : ClassId) (N M : Nat) : ∀ i, (gd T cA cI N M i).heap.size = T.heap.size + 1 + i ∧ (gd T cA cI N M i).heap[T.heap.size]? = some (gd_O cA N T.heap.size i) ∧ (∀ x, x < T.heap.size → (gd T cA cI N M i).heap[x]? = T.heap[x]?) ∧ (∀ j, j < i → (gd T cA cI N M i).heap[T.heap.size + 1 + j]? = some (gd_I cI M)) := by
  intro i
  induction i with
  | zero =>
    have e : (gd T cA cI N M 0).heap = T.heap.push (gd_O cA N T.heap.size 0) := rfl
    rw [e]
    refine ⟨by simp, by simp, fun x hx => ?_, fun j hj => absurd hj (Nat.not_lt_zero _)⟩
    rw [Array.getElem?_push, if_neg (by omega)]
  | succ i ih =>
    obtain ⟨a1, a2, a3, a4⟩ := ih
    have e : (gd T cA cI N M (i + 1)).heap = ((gd T cA cI N M i).heap.push (gd_I cI M)).setIfInBounds T.heap.size (gd_O cA N T.heap.size (i + 1)) := rfl
    have ez : ((gd T cA cI N M i).heap.push (gd_I cI M)).size = T.heap.size + 1 + i + 1 := by rw [Array.size_push, a1]
    rw [e]
    refine ⟨by rw [Array.size_setIfInBounds, ez]; omega, ?_, fun x hx => ?_, fun j hj => ?_⟩
    · rw [Array.getElem?_setIfInBounds, if_pos rfl, if_pos (by omega)]
    · rw [Array.getElem?_setIfInBounds, if_neg (by omega), Array.getElem?_push, if_neg (by omega)]
      exact a3 x hx
    · rw [Array.getElem?_setIfInBounds, if_neg (by omega), Array.getElem?_push]
      by_cases q : j = i
      · rw [if_pos (by omega)]
      · rw [if_neg (by omega)]
        exact a4 j (by omega)
theorem gd_used (T : State) (cA cI : ClassId) (N M : Nat) : ∀ i, (gd T cA cI N M i).slotsUsed = T.slotsUsed + N + i * M
  | 0 => by
    show T.slotsUsed + (gd_O cA N T.heap.size 0).slots.size = _
    rw [gd_O_size]
    omega
  | i + 1 => by
    show (gd T cA cI N M i).slotsUsed + (gd_I cI M).slots.size = _
    rw [gd_used T cA cI N M i, show (gd_I cI M).slots.size = M from arrV_size _ _ _, Nat.succ_mul]
    omega
section GD
variable {p : Program} {l : Launch} {e : Env} {R : Room} {s : State} {m : MethodId} {args : Array Value} {below : List Frame} {meth : Method} {c : Code} {T : State} {locs : List Loc} {cells slots : Nat}
theorem gd_stand (X : Stand p l e R s m args below meth c T locs cells slots) (cA cI : ClassId) (N M : Nat) : ∀ i, ∃ L : List Loc, (∀ q ∈ L, q ∈ locs ∨ q.base = T.heap.size) ∧ Stand p l e R s m args below meth c (gd T cA cI N M i) L (cells + 1 + i) (slots + N + i * M) := by
  intro i
  induction i with
  | zero =>
    have h := X.pushed (gd_O cA N T.heap.size 0)
    rw [gd_O_size] at h
    exact ⟨locs, fun q hq => Or.inl hq, by rw [Nat.zero_mul]; exact h⟩
  | succ i ih =>
    obtain ⟨L, hL, Y⟩ := ih
    have hh := gd_heap T cA cI N M i
    have h1 := Y.pushed (gd_I cI M)
    rw [show (gd_I cI M).slots.size = M from arrV_size _ _ _] at h1
    have hc : ((gd T cA cI N M i).pushCell (gd_I cI M)).heap[T.heap.size]? = some (gd_O cA N T.heap.size i) := by
      show ((gd T cA cI N M i).heap.push (gd_I cI M))[T.heap.size]? = _
      rw [Array.getElem?_push, if_neg (by rw [hh.1]; omega)]
      exact hh.2.1
    have h2 := h1.stored hc i (.ref (T.heap.size + 1 + i))
    rw [← gd_O_succ] at h2
    refine ⟨_, fun q hq => ?_, by rw [Nat.succ_mul, ← Nat.add_assoc, ← Nat.add_assoc]; exact h2⟩
    rcases List.mem_append.mp hq with z | z
    · exact hL q z
    · rw [List.mem_singleton.mp z]
      exact Or.inr rfl
end GD
section GW
variable {E : CtlPost} {e : Env} {d : Bool} {acts : List Action} {U : State}
/-- one row -/
theorem gd_row {cI comp0 : ClassId} {kI : Class} {k : Int32} {Q : Addr → Pre} (hkI : U.vm.classes[cI]? = some kI) (hkind : kI.kind = .array comp0 .int) (hk : ¬ k < 0) (hlimit : ¬ k.toNatClampNeg > e.platform.arrayLengthLimit) (hbytes : ¬ k.toNatClampNeg * componentBytes .int > e.platform.maxHeapBytes) (hcells : U.heap.size < e.platform.maxCells) (hslots : U.slotsUsed + k.toNatClampNeg ≤ e.platform.maxSlots)
    (hq : ∀ acts', Q U.heap.size d acts' (U.pushCell (gd_I cI k.toNatClampNeg))) : wp (multianewarray.make cI [k]) Q E e d acts U := by
  simp only [multianewarray.make, wp_bind', W.ite, hk, if_false, wp_pure', W.theClass, hkI, Option.some.injEq, exists_eq_left', hkind]
  refine W.newArray_of hkI hkind hlimit hbytes hcells hslots rfl fun acts' => ?_
  have := hq acts'
  rw [gd_I_new] at this
  exact this
theorem gd_wp {cA cI comp0 : ClassId} {kA kI : Class} {n k : Int32} {g : JFrame} {rest : List Value} {index : Nat} {Q : Unit → Pre} (hs : U.topJava?.isSome) (hr : U.vm.classReady g.method.cls index cA) (hkA : U.vm.classes[cA]? = some kA) (hkindA : kA.kind = .array cI (.array .int)) (hkI : U.vm.classes[cI]? = some kI) (hkindI : kI.kind = .array comp0 .int) (hstack : g.stack = .int k :: .int n :: rest) (hn : ¬ n < 0) (hk : ¬ k < 0)
    (hl1 : ¬ n.toNatClampNeg > e.platform.arrayLengthLimit) (hb1 : ¬ n.toNatClampNeg * componentBytes (.array .int) > e.platform.maxHeapBytes) (hl2 : ¬ k.toNatClampNeg > e.platform.arrayLengthLimit) (hb2 : ¬ k.toNatClampNeg * componentBytes .int > e.platform.maxHeapBytes) (hcells : U.heap.size + (1 + n.toNatClampNeg) ≤ e.platform.maxCells) (hslots : U.slotsUsed + (n.toNatClampNeg + n.toNatClampNeg * k.toNatClampNeg) ≤ e.platform.maxSlots)
    (hq : ∀ d' acts', Q () d' acts' ((gd U cA cI n.toNatClampNeg k.toNatClampNeg n.toNatClampNeg).setTop { g with stack := .ref U.heap.size :: rest })) : wp (multianewarray.sem index 2) Q E e d acts (U.setTop g) := by
  simp only [multianewarray.sem, wp_bind', W.resolveClassAt_ready (State.method?_setTop g hs) hr]
  have hp := fun {Q' : List Value → Pre} => popN_top (E := E) (e := e) (d := d) (acts := acts) (s := U) (f := g) (Q := Q') hs (args := [.int n, .int k]) (rest := rest) (by simp [hstack])
  refine hp.mpr ?_
  simp only [List.mapM_cons, List.mapM_nil, wp_bind', wp_pure']
  rw [multianewarray.make]
  simp only [wp_bind', W.ite, hn, if_false, wp_pure', W.theClass, State.vm_setTop, hkA, Option.some.injEq, exists_eq_left', hkindA]
  refine W.newArray_of (s := U.setTop { g with stack := rest }) hkA hkindA hl1 hb1 (by show U.heap.size < _; omega) (by show U.slotsUsed + _ ≤ _; omega) rfl fun acts1 => ?_
  have hf : List.find? (fun x => decide (x < 0)) [k] = none := by simp [hk]
  simp only [State.pushCell_setTop, hf, Std.Legacy.Range.forIn_eq_forIn_range', wp_bind']
  rw [← gd_O_zero cA n.toNatClampNeg U.heap.size]
  have hz : Std.Legacy.Range.size [:n.toNatClampNeg] = n.toNatClampNeg := by simp [Std.Legacy.Range.size]
  simp only [ite_self, wp_bind', hz, State.heap_setTop]
  generalize hN : n.toNatClampNeg = N at *
  generalize hM : k.toNatClampNeg = M at *
  refine wp_forIn_inv (fun r u => ∃ i, i + r.length = N ∧ r = List.range' i r.length ∧ u = (gd U cA cI N M i).setTop { g with stack := rest }) _ _ ⟨0, by simp, by simp, rfl⟩ ?_ ?_
  · rintro x r u d2 acts2 Q2 ⟨i, h1, h2, rfl⟩ hnext
    rw [List.length_cons] at h1
    rw [List.length_cons, List.range'_succ] at h2
    obtain ⟨rfl, h3⟩ := List.cons.inj h2
    have hh := gd_heap U cA cI N M x
    have hu := gd_used U cA cI N M x
    have hmul : x * M + M ≤ N * M := by
      rw [← Nat.succ_mul]
      exact Nat.mul_le_mul_right _ (by omega)
    rw [wp_bind']
    refine gd_row (comp0 := comp0) (kI := kI) (by rw [State.vm_setTop, gd_vm]; exact hkI) hkindI hk (by rw [hM]; exact hl2) (by rw [hM]; exact hb2) (by rw [State.heap_setTop, hh.1]; omega) (by rw [State.slotsUsed_setTop, hu, hM]; omega) fun acts3 => ?_
    simp only [wp_bind', W.writeLoc, wp_pure']
    rw [hM]
    have hc : ((gd U cA cI N M x).pushCell (gd_I cI M)).heap[U.heap.size]? = some (gd_O cA N U.heap.size x) := by
      show ((gd U cA cI N M x).heap.push (gd_I cI M))[U.heap.size]? = _
      rw [Array.getElem?_push, if_neg (by rw [hh.1]; omega)]
      exact hh.2.1
    refine ⟨_, hc, (fun z => by cases z), by rw [gd_O_size]; omega, ?_, ?_⟩
    · show (match State.slotType? _ cA .none x with
        | some t => fits t _
        | none => false) = true
      rw [show State.slotType? (((gd U cA cI N M x).setTop { g with stack := rest }).pushCell (gd_I cI M)) cA .none x = some (.array .int) by simp [State.slotType?, gd_vm, hkA, hkindA]]
      rfl
    · refine hnext _ _ _ ⟨x + 1, by omega, h3, ?_⟩
      rw [State.heap_setTop, hh.1, ← gd_O_succ]
      rfl
  · rintro u d2 acts2 ⟨i, h1, -, rfl⟩
    obtain rfl : i = N := by simpa using h1
    simp only [wp_pure', wp_bind', W.mark, W.pushRef, State.topJava?_setTop' _ (show (gd U cA cI i M i).topJava?.isSome by rw [gd_top]; exact hs), Option.some.injEq, exists_eq_left', State.setTop_setTop]
    exact hq _ _
end GW
section GS
variable {p : Program} {l : Launch} {e : Env} {R : Room} {s : State} {m : MethodId} {args : Array Value} {below : List Frame} {meth : Method} {c : Code} {T : State} {locs : List Loc} {cells slots : Nat}
theorem gd_steps (X : Stand p l e R s m args below meth c T locs cells slots) (hexec : p.tables.exec = Jvm.exec) {own : String} {index : Nat} (hown : s.vm.findClass own = some m.cls) (hclink : (Cond.classLink own index ("[" ++ (FieldType.array .int).toString)).before args s = true) (hover : (Cond.arrayOver (.array .int)).before args s = true) (harr : (Cond.arrayClass .int).before args s = true) {g : JFrame} (hg : g.method = m) (hdg : decode c.code g.pc = .ok (.multianewarray index 2, 4)) {n k : Int32} {rest : List Value} (hstack : g.stack = .int k :: .int n :: rest) (hn : ¬ n < 0) (hk : ¬ k < 0) (hb1 : n.toNatClampNeg * 4 ≤ 536870912) (hb2 : k.toNatClampNeg * 4 ≤ 536870912) (hcells : cells + (1 + n.toNatClampNeg) ≤ R.cells) (hslots : slots + (n.toNatClampNeg + n.toNatClampNeg * k.toNatClampNeg) ≤ R.slots) :
    ∃ (vm₁ : Vm) (cA cI comp0 : ClassId) (kA kI : Class) (L : List Loc), s.vm.findClass ("[" ++ (FieldType.array .int).toString) = some cA ∧ s.vm.classes[cA]? = some kA ∧ kA.kind = .array cI (.array .int) ∧ s.vm.classes[cI]? = some kI ∧ kI.kind = .array comp0 .int ∧ (∀ q ∈ L, q ∈ locs ∨ q.base = T.heap.size) ∧
      Stand p l e R s m args below meth c (gd (T.setVm vm₁) cA cI n.toNatClampNeg k.toNatClampNeg n.toNatClampNeg) L (cells + 1 + n.toNatClampNeg) (slots + n.toNatClampNeg + n.toNatClampNeg * k.toNatClampNeg) ∧
      ∀ target, Steps p.tables e below ((gd (T.setVm vm₁) cA cI n.toNatClampNeg k.toNatClampNeg n.toNatClampNeg).setTop { g with pc := g.pc + 4, stack := .ref T.heap.size :: rest }) target → Steps p.tables e below (T.setTop g) target := by
  subst hg
  have hpl : e.platform.magicAccessors = ({} : Platform).magicAccessors := by rw [X.admits.platform]
  obtain ⟨cI, cA, kA, hcI, -, hkA, hkindA, hcA⟩ := arrayOverA_spec hover
  obtain ⟨cI', kI, comp0, hcI', hkI, hkindI⟩ := Cond.arrayClass_spec harr
  obtain rfl : cI = cI' := Option.some.inj (hcI.symm.trans hcI')
  obtain ⟨cA', hcA', hcl⟩ := Cond.classLink_spec hown hclink e.platform hpl
  obtain rfl : cA = cA' := Option.some.inj (hcA.symm.trans hcA')
  obtain ⟨hg₁, hwarm₁, hready₁⟩ := State.classEntry (e := e) X.warmed hcl
  generalize T.vm.noted g.method.cls index (.cls cA) = vm₁ at hg₁ hwarm₁ hready₁
  obtain ⟨kA₁, hkA₁, eA⟩ := hwarm₁.alike.2.2 _ _ hkA
  obtain ⟨kI₁, hkI₁, eI⟩ := hwarm₁.alike.2.2 _ _ hkI
  obtain ⟨L, hL, Y⟩ := gd_stand (X.noted hwarm₁) cA cI n.toNatClampNeg k.toNatClampNeg n.toNatClampNeg
  obtain ⟨hr1, hr2⟩ := X.roomAbove hcells hslots
  have el := Launch.admits_arrayLengthLimit X.admits
  have eb := Launch.admits_maxHeapBytes X.admits
  refine ⟨vm₁, cA, cI, comp0, kA, kI, L, hcA, hkA, hkindA, hkI, hkindI, hL, Y, fun target hrest => ?_⟩
  have hsem : ∀ {Q : Unit → Pre} {E : CtlPost} {d : Bool} {acts : List Action}, (∀ d' acts', Q () d' acts' ((gd (T.setVm vm₁) cA cI n.toNatClampNeg k.toNatClampNeg n.toNatClampNeg).setTop { g with stack := .ref T.heap.size :: rest })) → wp (multianewarray.sem index 2) Q E e d acts (T.setTop g) := by
    intro Q E d acts hq
    have cold : wp (multianewarray.sem index 2) Q E e d acts (T.setTop g) ↔ wp (multianewarray.sem index 2) Q E e d acts ((T.setVm vm₁).setTop g) := by
      simp only [multianewarray.sem, wp_bind']
      exact W.resolveClassAt_transfer (s := T.setTop g) (State.method?_setTop g X.here.top) hg₁ hready₁
    refine cold.mpr (gd_wp (U := T.setVm vm₁) (comp0 := comp0) (kA := kA₁) (kI := kI₁) X.here.top hready₁ hkA₁ (by rw [eA]; exact hkindA) hkI₁ (by rw [eI]; exact hkindI) hstack hn hk (by omega) (by rw [eb]; show ¬ _ * 4 > _; omega) (by omega) (by rw [eb]; show ¬ _ * 4 > _; omega) hr1 hr2 hq)
  jvm_step X.here [hexec, hdg]
  refine hsem fun d' acts' acts2 => ?_
  have ht : (gd (T.setVm vm₁) cA cI n.toNatClampNeg k.toNatClampNeg n.toNatClampNeg).topJava?.isSome := by
    rw [gd_top]
    exact X.here.top
  simpa [jvm, ht] using hrest
end GS
section SMG
variable {α : Type} {p : Program} {l : Launch} {e : Env} {R : Room} {s : State} {m : MethodId} {args : Array Value} {below : List Frame} {meth : Method} {c : Code} {G : cG} {nL : Nat} {Q : α → cH → State → Prop} {cells slots pc : Nat} {lv lv' : List (Nat × Value)} {st : List Value} {P : MM α} {cc : ByteArray} {own : String}
theorem sm_nm (h : c_Ok p s m c cc nL own G) {index n k : Nat} {N M : Int32} {K : Nat → MM α} (w1 : Cond.classLink own index ("[" ++ (FieldType.array .int).toString) ∈ c_gw) (w2 : Cond.arrayClass .int ∈ c_gw) (hN0 : ¬ N < 0) (hM0 : ¬ M < 0) (hN : N.toNatClampNeg = n) (hM : M.toNatClampNeg = k) (hb1 : n * 4 ≤ 536870912) (hb2 : k * 4 ≤ 536870912) (hcells : cells + (1 + n) ≤ R.cells) (hslots : slots + (n + n * k) ≤ R.slots) (hd : decode cc pc = .ok (.multianewarray index 2, 4)) (kk : ∀ a : Nat, Sm p l e R s m args below meth c G nL Q (cells + 1 + n) (slots + n + n * k) (pc + 4) lv (.ref a :: st) (K a)) : Sm p l e R s m args below meth c G nL Q cells slots pc lv (.int M :: .int N :: st) (m_nm n k K) := by
  intro σ r σ' hP H locs ls hH hL hl T hT X
  subst hN
  subst hM
  obtain ⟨vm₁, cA, comp, comp0, kA, kI, L, fA, hkA, hkindA, hkI, hkindI, hLL, X', step⟩ := gd_steps X h.1 h.2.2.2.1 (h.2.2.2.2.1 _ w1 _) (over_moved (Vm.Alike.refl s.vm) h.2.2.2.2.2.2.2.2.2) (h.2.2.2.2.1 _ w2 _) (g := F0 m pc ls (.int M :: .int N :: st.map (c_v G))) rfl (by rw [h.2.1]; exact hd) rfl hN0 hM0 hb1 hb2 hcells hslots
  generalize hF : gd (T.setVm vm₁) cA comp N.toNatClampNeg M.toNatClampNeg N.toNatClampNeg = F at X' step
  have hTh : (T.setVm vm₁).heap = H := hT
  obtain ⟨f1, f2, hold, hrow⟩ := gd_heap (T.setVm vm₁) cA comp N.toNatClampNeg M.toNatClampNeg N.toNatClampNeg
  rw [hF, hTh] at f1 f2 hold hrow
  have hAo : ArrOfT s cA (.array .int) := fun _ _ => ⟨(fun q hq => by cases hq), kA, hkA, comp, hkindA⟩
  have hAi : ArrOfT s comp .int := fun _ _ => ⟨(fun q hq => by cases hq), kI, hkI, comp0, hkindI⟩
  have hHn := hH.new
  obtain ⟨h1, h2, h3, h4, h5, h6⟩ := hH
  have old : ∀ q : Nat, q < H.size → ¬ c_A G q → F.heap[q]? = H[q]? := fun q hq _ => hold q hq
  have hH2 : c_Hd G (σ.1 + 1 + N.toNatClampNeg, c_nm σ N.toNatClampNeg M.toNatClampNeg) s F.heap := by
    refine ⟨by show 3 ≤ σ.1 + 1 + _; omega, ?_, fun j hj hl2 => ?_, fun j hj => ?_, fun j hj => ?_, va_Z.kept h6.1 old, va_Z.kept h6.2 old⟩
    · rw [f1, h2]
      show _ = G.1 + (σ.1 + 1 + _ - 3)
      omega
    · show c_at G s F.heap j (c_nm σ N.toNatClampNeg M.toNatClampNeg j)
      have hl3 : j < σ.1 + 1 + N.toNatClampNeg := hl2
      unfold c_nm
      by_cases e1 : j = σ.1
      · rw [if_pos e1, e1]
        refine ⟨cA, ?_, hAo, fA⟩
        rw [← hHn, f2]
        refine congrArg some (congrArg (arrV cA _) (funext fun i => ?_))
        by_cases hi : i < N.toNatClampNeg
        · dsimp only
          rw [if_pos hi, if_pos hi]
          show Value.ref _ = Value.ref _
          rw [c_ad_ge (by omega), h2]
          refine congrArg Value.ref ?_
          show (G.1 + (σ.1 - 3) + 1 + i : Nat) = G.1 + (σ.1 + 1 + i - 3)
          omega
        · dsimp only
          rw [if_neg hi, if_neg hi]
          rfl
      · rw [if_neg e1]
        by_cases e2 : σ.1 < j ∧ j ≤ σ.1 + N.toNatClampNeg
        · rw [if_pos e2]
          refine ⟨comp, ?_, hAi⟩
          have : _ = some (arrV comp M.toNatClampNeg (fun _ => .int 0)) := hrow (j - σ.1 - 1) (by omega)
          rw [← this]
          congr 1
          rw [c_ad_ge hj, h2]
          omega
        · rw [if_neg e2]
          exact (h3 j hj (by omega)).kept (hold _ (by rw [c_ad_ge hj, h2]; omega))
    · show c_sp G s F.heap j (c_nm σ N.toNatClampNeg M.toNatClampNeg j)
      unfold c_nm
      rw [if_neg (by omega), if_neg (by omega)]
      exact (h4 j hj).kept old
    · show c_nm σ N.toNatClampNeg M.toNatClampNeg j = cJ
      have hj2 : σ.1 + 1 + N.toNatClampNeg ≤ j := hj
      unfold c_nm
      rw [if_neg (by omega), if_neg (by omega)]
      exact h5 j (by omega)
  have hT2 : T.heap.size = c_ad G σ.1 := by rw [hT]; exact hHn
  have hL2 : ∀ q ∈ L, c_A G q.base := fun q hq => (hLL q hq).elim (hL q) fun z => by
    rw [z, hT2]
    exact c_ad_A h1
  obtain ⟨t, a9, b9⟩ := kk σ.1 _ r σ' hP F.heap L ls hH2 hL2 hl F rfl X'
  refine ⟨t, step t ?_, b9⟩
  rw [hT2]
  exact a9
end SMG
