/-! calls: a method's contract (Ct) says that the machine follows its program; a call binds it -/
def c_Pc (G : cG) (vs : List Value) (σ : cH) : Array Value → State → Prop := va_Pc (vs.map (c_v G)) (fun U => c_Hd G σ U U.heap ∧ c_Cx G U)
def c_Qc {α : Type} (G : cG) (cv : α → Option Value) (r : α) (σ' : cH) : Array Value → State → Outcome → State → Prop := fun _ _ o t => o = .returned (cv r) ∧ c_Hd G σ' t t.heap
def c_vi : Int32 → Option Value := fun x => some (.int x)
def c_vv : Unit → Option Value := fun _ => none
def Ct {α : Type} (l : Launch) (G : cG) (y : MethodName) (cc : ByteArray) (maxL : Nat) (ret : Option FieldType) (fr lo mc ms : Nat) (vs : List Value) (cv : α → Option Value) (P : MM α) : Prop :=
  ∀ (σ : cH) (r : α) (σ' : cH), P σ = some (r, σ') → Met l y [.code y cc maxL ret] { frames := fr, cells := mc, slots := ms, locals := lo } (c_Pc G vs σ) (c_Qc G cv r σ') mc ms (c_A G)
theorem c_blind {G : cG} {vs : List Value} {σ : cH} : FrameBlind (c_Pc G vs σ) := fun a U g mk q =>
  ⟨q.1, c_Hd.moved (u := U) (U := U.calling g mk a) (Vm.Alike.refl U.vm) q.2.1, c_Cx.moved (s := U) (U := U.calling g mk a) (State.WarmedH.refl U) q.2.2⟩
/-- the words of a call -/
def c_Cw (own : String) (index : Nat) (y : MethodName) (bytes : ByteArray) (maxL : Nat) (ret : Option FieldType) (n : Nat) : Prop :=
  Cond.methodLink own index y ∈ c_gw ∧ Cond.code y bytes maxL ret ∈ c_gw ∧ Cond.initialized y.cls ∈ c_gw ∧ (y.cls ≠ "java/lang/invoke/MethodHandle" ∧ y.cls ≠ "java/lang/invoke/VarHandle") ∧ (parseMethodDescriptor y.desc).map (fun d => d.parameters.length) = some n
def c_Cv (ci : Nat) (y : MethodName) : Prop := Cond.instanceMethod y ∈ c_gw ∧ Cond.selects y.cls y y ∈ c_gw ∧ ∃ (T : u_T) (N : Nat), vwCl[ci]? = some (y.cls, T, N)
section SMC
variable {α β : Type} {p : Program} {l : Launch} {e : Env} {R : Room} {s : State} {m : MethodId} {args : Array Value} {below : List Frame} {meth : Method} {c : Code} {G : cG} {nL : Nat} {Q : α → cH → State → Prop} {cells slots pc : Nat} {lv lv' : List (Nat × Value)} {st : List Value} {P : MM α} {cc : ByteArray} {own : String}
theorem c_callB (h : c_Ok p s m c cc nL own G) {index maxL n fr lo mc ms : Nat} {y : MethodName} {bytes : ByteArray} {ret : Option FieldType} (hw : c_Cw own index y bytes maxL ret n) (hR : fr + 1 ≤ R.frames ∧ 8 + (maxL + 11) + lo ≤ R.locals) : CallB R s args own index y bytes maxL ret [.code y bytes maxL ret] { frames := fr, cells := mc, slots := ms, locals := lo } mc ms n := by
  obtain ⟨w1, w2, w3, hy, hn⟩ := hw
  refine ⟨rfl, rfl, hR.1, hR.2, fun w hw a' U hW => ?_, List.mem_singleton.mpr rfl, h.2.2.2.2.1 _ w2 _, h.2.2.2.2.1 _ w3 _, hy, fun sig hs => ?_, h.2.2.2.2.1 _ w1 _⟩
  · rw [List.mem_singleton.mp hw]
    exact word_at hW (c_good w2) (h.2.2.2.2.1 _ w2 args)
  · rw [hs] at hn
    exact (Option.some.inj hn).symm
/-- behind a call: what came back, and the walk goes on -/
theorem c_back {γ : Type} {H : Heap} {locs : List Loc} {mc ms : Nat} {ls : Array Slot} {st0 rest : List Value} {cv : γ → Option Value} {x : γ} {σ1 : cH} {a : Array Value} {Z : State → Prop} (hr : va_Run p l e R s m args below meth c H locs cells slots mc ms (F0 m pc ls st0) rest (c_Qc G cv x σ1 a) (c_A G)) (hL : ∀ q ∈ locs, c_A G q.base)
    (kk : ∀ (H1 : Heap) (locs1 : List Loc), c_Hd G σ1 s H1 → (∀ q ∈ locs1, c_A G q.base) → W p l e R s m args below meth c H1 locs1 (cells + mc) (slots + ms) Z (F0 m (pc + 3) ls ((cv x).toList ++ rest))) : W p l e R s m args below meth c H locs cells slots Z (F0 m pc ls st0) := by
  intro T hT X
  obtain ⟨v, st₀, t, T', L, h0, X', hLL, e1, e2, ⟨hv, hH⟩, step⟩ := hr T hT X
  have ev : v = cv x := Outcome.returned.inj hv
  subst ev
  have hal : t.vm.Alike s.vm := by rw [← e2]; exact X'.warmed.alike.symm
  obtain ⟨t2, a1, b1⟩ := kk T'.heap (locs ++ L) (by rw [e1]; exact hH.moved hal) (fun q hq => by
    rcases List.mem_append.mp hq with z | z
    · exact hL q z
    · exact hLL q z) T' rfl X'
  exact ⟨t2, step t2 a1, b1⟩
theorem c_sum (st : List Value) : ((st.map (c_v G)).map fun v => v.category).sum = (st.map fun v => v.category).sum := by
  rw [List.map_map]
  congr 2
  funext v
  exact c_cat G v
theorem c_vs (vs st : List Value) : (vs.reverse ++ st).map (c_v G) = (vs.map (c_v G)).reverse ++ st.map (c_v G) := by
  rw [List.map_append, List.map_reverse]
/-- invokevirtual (own, package-visible or private of the same class) -/
theorem sm_cv {γ : Type} (h : c_Ok p s m c cc nL own G) {index a ci maxL n fr lo mc ms : Nat} {y : MethodName} {bytes : ByteArray} {ret : Option FieldType} {As st0 : List Value} {cv : γ → Option Value} {F : MM γ} {K : γ → MM α} (hM : Ct l G y bytes maxL ret fr lo mc ms (.ref a :: As) cv F) (hw : c_Cw own index y bytes maxL ret n) (hv : c_Cv ci y) (hst : st0 = As.reverse ++ .ref a :: st) (hn : As.length = n) (hR : fr + 1 ≤ R.frames ∧ 8 + (maxL + 11) + lo ≤ R.locals) (hf : cells + mc ≤ R.cells ∧ slots + ms ≤ R.slots) (h8 : (st.map fun v => v.category).sum ≤ 8) (hd : decode cc pc = .ok (.invokevirtual index, 3)) (kk : ∀ x : γ, Sm p l e R s m args below meth c G nL Q (cells + mc) (slots + ms) (pc + 3) lv ((cv x).toList ++ st) (K x)) (hcv : ∀ x, (cv x).toList.map (c_v G) = (cv x).toList) : Sm p l e R s m args below meth c G nL Q cells slots pc lv st0 (m_cv a ci F K) := by
  intro σ r σ' hP H locs ls hH hL hl
  subst hst
  obtain ⟨fs, x, σ1, h1, h2, h3⟩ := m_cv_inv hP
  obtain ⟨-, -, r9, hr9, cell, q1, q2, q3, -⟩ := hH.obj h1
  obtain ⟨w1, w2, T, N, hc⟩ := hv
  cases hc.symm.trans hr9
  have hcl := (h.2.2.2.2.2.1.1 ci _ hc).2.1
  refine c_back (va_runV (As := As.map (c_v G)) (b := c_ad G a) (C := y.cls) (Ts := []) ⟨h.1, h.2.1, h.2.2.1, h.2.2.2.1, fun w hw => absurd hw List.not_mem_nil⟩ (hM σ x σ1 h2) ⟨c_callB h hw hR, h.2.2.2.2.1 _ w1 _, h.2.2.2.2.1 _ w2 _⟩ ⟨c_blind, ⟨cell, q1, by rw [q3]; rfl, by rw [q2]; exact hcl⟩, fun U hU hW => ⟨rfl, by rw [hU]; exact hH.moved hW.alike, h.2.2.2.2.moved hW⟩⟩ rfl (by rw [List.length_map]; exact hn) hl.1 (rest := st.map (c_v G)) ?_ (lv_room (by rw [c_sum]; exact h8)) hd hf) hL (fun H1 locs1 hH1 hL1 => ?_)
  · show (As.reverse ++ .ref a :: st).map (c_v G) = _
    rw [List.map_append, List.map_reverse]
    rfl
  · have := kk x σ1 r σ' h3 H1 locs1 ls hH1 hL1 hl
    rw [List.map_append, hcv] at this
    exact this
/-- invokestatic -/
theorem sm_cs {γ : Type} (h : c_Ok p s m c cc nL own G) {index maxL n fr lo mc ms : Nat} {y : MethodName} {bytes : ByteArray} {ret : Option FieldType} {As st0 : List Value} {cv : γ → Option Value} {F : MM γ} {K : γ → MM α} (hM : Ct l G y bytes maxL ret fr lo mc ms As cv F) (hw : c_Cw own index y bytes maxL ret n) (hv : Cond.static y ∈ c_gw) (hst : st0 = As.reverse ++ st) (hn : As.length = n) (hR : fr + 1 ≤ R.frames ∧ 8 + (maxL + 11) + lo ≤ R.locals) (hf : cells + mc ≤ R.cells ∧ slots + ms ≤ R.slots) (h8 : (st.map fun v => v.category).sum ≤ 8) (hd : decode cc pc = .ok (.invokestatic index, 3)) (kk : ∀ x : γ, Sm p l e R s m args below meth c G nL Q (cells + mc) (slots + ms) (pc + 3) lv ((cv x).toList ++ st) (K x)) (hcv : ∀ x, (cv x).toList.map (c_v G) = (cv x).toList) : Sm p l e R s m args below meth c G nL Q cells slots pc lv st0 (m_bind F K) := by
  intro σ r σ' hP H locs ls hH hL hl
  subst hst
  obtain ⟨x, σ1, h2, h3⟩ := m_bind_inv hP
  refine c_back (va_runS (As := As.map (c_v G)) (Ts := []) ⟨h.1, h.2.1, h.2.2.1, h.2.2.2.1, fun w hw => absurd hw List.not_mem_nil⟩ (hM σ x σ1 h2) ⟨c_callB h hw hR, h.2.2.2.2.1 _ hv _⟩ ⟨c_blind, fun U hU hW => ⟨rfl, by rw [hU]; exact hH.moved hW.alike, h.2.2.2.2.moved hW⟩⟩ rfl (by rw [List.length_map]; exact hn) hl.1 (rest := st.map (c_v G)) ?_ (lv_room (by rw [c_sum]; exact h8)) hd hf) hL (fun H1 locs1 hH1 hL1 => ?_)
  · show (As.reverse ++ st).map (c_v G) = _
    rw [List.map_append, List.map_reverse]
  · have := kk x σ1 r σ' h3 H1 locs1 ls hH1 hL1 hl
    rw [List.map_append, hcv] at this
    exact this
/-- a constructor's call -/
theorem sm_ci (h : c_Ok p s m c cc nL own G) {index a maxL n fr lo mc ms : Nat} {y : MethodName} {bytes : ByteArray} {As st0 : List Value} {F : MM Unit} {K : Unit → MM α} (hM : Ct l G y bytes maxL none fr lo mc ms (.ref a :: As) c_vv F) (hw : c_Cw own index y bytes maxL none n) (hv : Cond.instanceMethod y ∈ c_gw) (hi : y.name = "<init>") (hst : st0 = As.reverse ++ .ref a :: st) (hn : As.length = n) (hR : fr + 1 ≤ R.frames ∧ 8 + (maxL + 11) + lo ≤ R.locals) (hf : cells + mc ≤ R.cells ∧ slots + ms ≤ R.slots) (h8 : (st.map fun v => v.category).sum ≤ 8) (hd : decode cc pc = .ok (.invokespecial index, 3)) (kk : Sm p l e R s m args below meth c G nL Q (cells + mc) (slots + ms) (pc + 3) lv st (K ())) : Sm p l e R s m args below meth c G nL Q cells slots pc lv st0 (m_bind F K) := by
  intro σ r σ' hP H locs ls hH hL hl
  subst hst
  obtain ⟨x, σ1, h2, h3⟩ := m_bind_inv hP
  refine c_back (va_runI (As := As.map (c_v G)) (b := c_ad G a) (Ts := []) ⟨h.1, h.2.1, h.2.2.1, h.2.2.2.1, fun w hw => absurd hw List.not_mem_nil⟩ (hM σ x σ1 h2) ⟨c_callB h hw hR, hi, h.2.2.2.2.1 _ hv _⟩ ⟨c_blind, fun U hU hW => ⟨rfl, by rw [hU]; exact hH.moved hW.alike, h.2.2.2.2.moved hW⟩⟩ rfl (by rw [List.length_map]; exact hn) hl.1 (rest := st.map (c_v G)) ?_ (lv_room (by rw [c_sum]; exact h8)) hd hf) hL (fun H1 locs1 hH1 hL1 => ?_)
  · show (As.reverse ++ .ref a :: st).map (c_v G) = _
    rw [List.map_append, List.map_reverse]
    rfl
  · exact kk σ1 r σ' h3 H1 locs1 ls hH1 hL1 hl
/-- a constructor's call, private of a nest mate -/
theorem sm_cn (h : c_Ok p s m c cc nL own G) {index a maxL fr lo mc ms : Nat} {y : MethodName} {bytes : ByteArray} {st0 : List Value} {F : MM Unit} {K : Unit → MM α} (hM : Ct l G y bytes maxL none fr lo mc ms [.ref a] c_vv F) (hnw : (own, index, y) ∈ c_nw) (w2 : Cond.code y bytes maxL none ∈ c_gw) (w3 : Cond.initialized y.cls ∈ c_gw) (hy : y.cls ≠ "java/lang/invoke/MethodHandle" ∧ y.cls ≠ "java/lang/invoke/VarHandle") (hpn : (parseMethodDescriptor y.desc).map (fun d => d.parameters.length) = some 0) (hv : Cond.instanceMethod y ∈ c_gw) (hi : y.name = "<init>") (hst : st0 = .ref a :: st) (hR : fr + 1 ≤ R.frames ∧ 8 + (maxL + 11) + lo ≤ R.locals) (hf : cells + mc ≤ R.cells ∧ slots + ms ≤ R.slots) (h8 : (st.map fun v => v.category).sum ≤ 8) (hd : decode cc pc = .ok (.invokespecial index, 3)) (kk : Sm p l e R s m args below meth c G nL Q (cells + mc) (slots + ms) (pc + 3) lv st (K ())) : Sm p l e R s m args below meth c G nL Q cells slots pc lv st0 (m_bind F K) := by
  intro σ r σ' hP H locs ls hH hL hl
  subst hst
  obtain ⟨x, σ1, h2, h3⟩ := m_bind_inv hP
  refine c_back (va_runIN (As := []) (b := c_ad G a) (Ts := []) (host := RX9) ⟨h.1, h.2.1, h.2.2.1, h.2.2.2.1, fun w hw => absurd hw List.not_mem_nil⟩ (hM σ x σ1 h2) ⟨⟨⟨rfl, rfl, hR.1, hR.2, fun w hw a' U hW => ?_, List.mem_singleton.mpr rfl⟩, h.2.2.2.2.1 _ w2 _, h.2.2.2.2.1 _ w3 _, hy, fun sig hs => ?_, va_Nw.use rfl (h.2.2.2.2.2.2.1 _ hnw)⟩, hi, h.2.2.2.2.1 _ hv _⟩ ⟨c_blind, fun U hU hW => ⟨rfl, by rw [hU]; exact hH.moved hW.alike, h.2.2.2.2.moved hW⟩⟩ rfl (n := 0) rfl hl.1 (rest := st.map (c_v G)) rfl (lv_room (by rw [c_sum]; exact h8)) hd hf) hL (fun H1 locs1 hH1 hL1 => ?_)
  · rw [List.mem_singleton.mp hw]
    exact word_at hW (c_good w2) (h.2.2.2.2.1 _ w2 args)
  · rw [hs] at hpn
    exact (Option.some.inj hpn).symm
  · exact kk σ1 r σ' h3 H1 locs1 ls hH1 hL1 hl
end SMC
/-! returns -/
section SMR
variable {p : Program} {l : Launch} {e : Env} {R : Room} {s : State} {m : MethodId} {args : Array Value} {below : List Frame} {meth : Method} {c : Code} {G : cG} {nL : Nat} {cells slots pc mc ms : Nat} {lv : List (Nat × Value)} {cc : ByteArray} {own : String}
def c_Q {α : Type} (G : cG) (cv : α → Option Value) (below : List Frame) (args : Array Value) (s : State) (mc ms : Nat) : α → cH → State → Prop := fun r σ' => MQ below (c_Qc G cv r σ') args s mc ms (c_A G)
theorem sm_iret (h : c_Ok p s m c cc nL own G) {x : Int32} (hr : meth.sig.returnType = some .int) (hlocks : meth.locks = false) (h1 : cells ≤ mc) (h2 : slots ≤ ms) (hd : decode cc pc = .ok (.ireturn, 1)) : Sm p l e R s m args below meth c G nL (c_Q G c_vi below args s mc ms) cells slots pc lv [.int x] (m_ret x) := by
  intro σ r σ' hP H locs ls hH hL hl
  cases hP
  refine W.widen h1 h2 ?_
  exact W.iret h.1 h.2.1 hr (fun t ht hW => ⟨rfl, by rw [ht]; exact hH.moved hW.alike⟩) hL hd
theorem sm_zret (h : c_Ok p s m c cc nL own G) {x : Int32} (hr : meth.sig.returnType = some .boolean) (hlocks : meth.locks = false) (hx : x &&& 1 = x) (h1 : cells ≤ mc) (h2 : slots ≤ ms) (hd : decode cc pc = .ok (.ireturn, 1)) : Sm p l e R s m args below meth c G nL (c_Q G c_vi below args s mc ms) cells slots pc lv [.int x] (m_ret x) := by
  intro σ r σ' hP H locs ls hH hL hl
  cases hP
  refine W.widen h1 h2 ?_
  exact W.zret h.1 h.2.1 hr (by show Value.int (x &&& 1) = _; rw [hx]) (fun t ht hW => ⟨rfl, by rw [ht]; exact hH.moved hW.alike⟩) hL hd
theorem sm_rz (h : c_Ok p s m c cc nL own G) {x : Int32} (hr : meth.sig.returnType = some .boolean) (hlocks : meth.locks = false) (h1 : cells ≤ mc) (h2 : slots ≤ ms) (hd : decode cc pc = .ok (.ireturn, 1)) : Sm p l e R s m args below meth c G nL (c_Q G c_vi below args s mc ms) cells slots pc lv [.int x] (m_rz x) := by
  intro σ r σ' hP
  unfold m_rz at hP
  by_cases hx : x &&& 1 = x
  · rw [if_pos hx] at hP
    exact sm_zret h hr hlocks hx h1 h2 hd σ r σ' hP
  · rw [if_neg hx] at hP
    cases hP
theorem sm_vret (h : c_Ok p s m c cc nL own G) (hr : meth.sig.returnType = none) (hlocks : meth.locks = false) (h1 : cells ≤ mc) (h2 : slots ≤ ms) (hd : decode cc pc = .ok (.return_, 1)) : Sm p l e R s m args below meth c G nL (c_Q G c_vv below args s mc ms) cells slots pc lv [] (m_ret ()) := by
  intro σ r σ' hP H locs ls hH hL hl
  cases hP
  refine W.widen h1 h2 ?_
  exact W.vret h.1 h.2.1 hr (fun t ht hW => ⟨rfl, by rw [ht]; exact hH.moved hW.alike⟩) hL hd
theorem sm_bad {α : Type} {Q : α → cH → State → Prop} {st : List Value} : Sm p l e R s m args below meth c G nL Q cells slots pc lv st m_bad := by
  intro σ r σ' hP
  cases hP
end SMR
/-- a method's contract out of its walk -/
theorem Ct.of {α : Type} {l : Launch} {G : cG} {y : MethodName} {cc : ByteArray} {maxL : Nat} {ret : Option FieldType} {fr lo mc ms : Nat} {vs : List Value} {cv : α → Option Value} {P : MM α} {lv : List (Nat × Value)} (hy : plainName y.cls = true) (hlen : (lg_sl (vs.map (c_v G))).length ≤ maxL) (hlv : lv_args 0 (vs.map (c_v G)) = c_lv G lv)
    (body : ∀ (p : Program) (e : Env) (s : State) (m : MethodId) (args : Array Value) (below : List Frame) (meth : Method) (c : Code), c_Ok p s m c cc maxL y.cls G → meth.sig.returnType = ret → meth.locks = false → meth.name = y.name → Sm p l e { frames := fr, cells := mc, slots := ms, locals := lo } s m args below meth c G maxL (c_Q G cv below args s mc ms) 0 0 0 lv [] P) : Ct l G y cc maxL ret fr lo mc ms vs cv P := by
  intro σ r σ' hP
  refine Met.ofW (cc := cc) (maxL := maxL) (ret := ret) hy rfl ?_
  intro p e s m args below meth c s₁ B hml hv
  obtain ⟨rfl, hH, hC⟩ := hv
  have hl := lv_entry (vs.map (c_v G)) (n := maxL) hlen
  rw [lg_entry_eq]
  generalize (lg_sl (vs.map (c_v G)) ++ List.replicate (maxL - (lg_sl (vs.map (c_v G))).length) Slot.unset).toArray = ls at hl ⊢
  exact body p e s m _ below meth c ⟨B.exec, B.bytes, hml, findClass_of_methodNamed B.named, hC⟩ B.returns B.notSynchronized (name_of_methodNamed B.named B.method).1 σ r σ' hP s.heap [] ls hH (fun q hq => absurd hq List.not_mem_nil) (hlv ▸ hl)
