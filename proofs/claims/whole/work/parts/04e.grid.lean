/-! new int[n][k] -/
theorem c_outer (c : ClassId) (N h0 : Nat) : ∀ i : Nat, Jvm.Free.Multi.outerC c N h0 i = arrV c N (fun j => va_rf (if j < i then some (h0 + 1 + j) else none))
  | 0 => by
    show ({ cls := c, slots := Array.replicate N .null, vm := .none } : Cell) = _
    rw [arrV_new]
    refine congrArg (arrV c N) (funext fun j => ?_)
    simp [va_rf]
  | i + 1 => by
    show (Jvm.Free.Multi.outerC c N h0 i).setSlot i (.ref (h0 + 1 + i)) = _
    rw [c_outer c N h0 i, arrV_store]
    refine congrArg (arrV c N) (funext fun j => ?_)
    by_cases e : j = i
    · subst e
      simp [updV, va_rf]
    · by_cases h : j < i
      · simp [updV, e, h, Nat.lt_succ_of_lt h]
      · simp [updV, e, h, show ¬ j < i + 1 by omega]
section SMG
variable {α : Type} {p : Program} {l : Launch} {e : Env} {R : Room} {s : State} {m : MethodId} {args : Array Value} {below : List Frame} {meth : Method} {c : Code} {G : cG} {nL : Nat} {Q : α → cH → State → Prop} {cells slots pc : Nat} {lv lv' : List (Nat × Value)} {st : List Value} {P : MM α} {cc : ByteArray} {own : String}
theorem sm_nm (h : c_Ok p s m c cc nL own G) {index n k : Nat} {N M : Int32} {K : Nat → MM α} (w1 : Cond.classLink own index ("[" ++ (FieldType.array .int).toString) ∈ c_gw) (w2 : Cond.arrayClass .int ∈ c_gw) (hN0 : ¬ N < 0) (hM0 : ¬ M < 0) (hN : N.toNatClampNeg = n) (hM : M.toNatClampNeg = k) (hb1 : n * 4 ≤ 536870912) (hb2 : k * 4 ≤ 536870912) (hcells : cells + (1 + n) ≤ R.cells) (hslots : slots + (n + n * k) ≤ R.slots) (hd : decode cc pc = .ok (.multianewarray index 2, 4)) (kk : ∀ a : Nat, Sm p l e R s m args below meth c G nL Q (cells + 1 + n) (slots + n + n * k) (pc + 4) lv (.ref a :: st) (K a)) : Sm p l e R s m args below meth c G nL Q cells slots pc lv (.int M :: .int N :: st) (m_nm n k K) := by
  intro σ r σ' hP H locs ls hH hL hl T hT X
  subst hN
  subst hM
  obtain ⟨vm₁, cA, comp, -, fA, fC, hO, hI, X', step⟩ := X.multianewarray2F h.1 h.2.2.2.1 (h.2.2.2.2.1 _ w1 _) (over_moved (Vm.Alike.refl s.vm) h.2.2.2.2.2.2.2.2.2) (h.2.2.2.2.1 _ w2 _) (g := F0 m pc ls (.int M :: .int N :: st.map (c_v G))) rfl (by rw [h.2.1]; exact hd) rfl hN0 hM0 hb1 hb2 (by omega) rfl rfl hcells hslots
  generalize hF : Jvm.Free.Multi.fill (T.setVm vm₁) cA comp N.toNatClampNeg M.toNatClampNeg (defaultValue .int) N.toNatClampNeg = F at X' step
  have hTh : (T.setVm vm₁).heap = H := hT
  obtain ⟨f1, f2, -, -⟩ := Jvm.Free.Multi.fill_facts (T.setVm vm₁) cA comp N.toNatClampNeg M.toNatClampNeg (defaultValue .int) N.toNatClampNeg
  rw [hF, hTh] at f1 f2
  have hold : ∀ x : Nat, x < H.size → F.heap[x]? = H[x]? := fun x hx => by
    have := Jvm.Free.Multi.fill_old (T.setVm vm₁) cA comp N.toNatClampNeg M.toNatClampNeg (defaultValue .int) (a := x) (by rw [hTh]; exact hx) N.toNatClampNeg
    rw [hF, hTh] at this
    exact this
  have hrow : ∀ j : Nat, j < N.toNatClampNeg → F.heap[H.size + 1 + j]? = some (arrV comp M.toNatClampNeg (fun _ => .int 0)) := fun j hj => by
    have := Jvm.Free.Multi.fill_inner (T.setVm vm₁) cA comp N.toNatClampNeg M.toNatClampNeg (defaultValue .int) N.toNatClampNeg j hj
    rw [hF, hTh] at this
    rw [this]
    show some ({ cls := comp, slots := Array.replicate M.toNatClampNeg (.int 0), vm := .none } : Cell) = _
    rw [arrV_new]
  rw [c_outer] at f2
  have hAo : ArrOfT s cA (.array .int) := fun N9 z9 => by
    obtain ⟨-, k9, hk9, cm9, hkk9⟩ := (hO 0 0 0).1
    exact ⟨(fun q hq => by cases hq), k9, hk9, cm9, hkk9⟩
  have hAi : ArrOfT s comp .int := fun N9 z9 => by
    obtain ⟨-, k9, hk9, cm9, hkk9⟩ := (hI 0 (.int 0)).1
    exact ⟨(fun q hq => by cases hq), k9, hk9, cm9, hkk9⟩
  have hHn := hH.new
  obtain ⟨h1, h2, h3, h4, h5, h6⟩ := hH
  have old : ∀ q : Nat, q < H.size → ¬ c_A G q → F.heap[q]? = H[q]? := fun q hq _ => hold q hq
  have hH2 : c_Hd G (σ.1 + 1 + N.toNatClampNeg, c_nm σ N.toNatClampNeg M.toNatClampNeg) s F.heap := by
    refine ⟨by show 3 ≤ σ.1 + 1 + _; omega, ?_, fun j hj hl2 => ?_, fun j hj => ?_, fun j hj => ?_, va_Z.kept h6.1 old, va_Z.kept h6.2 old⟩
    · rw [f1, h2]
      show _ = G.1 + (σ.1 + 1 + _ - 3)
      omega
    · show c_at G s F.heap j (c_nm σ N.toNatClampNeg M.toNatClampNeg j)
      have hl3 : j < σ.1 + 1 + N.toNatClampNeg := hl2
      unfold c_nm
      by_cases e1 : j = σ.1
      · rw [if_pos e1, e1]
        refine ⟨cA, ?_, hAo, fA⟩
        rw [← hHn, f2]
        refine congrArg some (congrArg (arrV cA _) (funext fun i => ?_))
        by_cases hi : i < N.toNatClampNeg
        · dsimp only
          rw [if_pos hi, if_pos hi]
          show Value.ref _ = Value.ref _
          rw [c_ad_ge (by omega), h2]
          refine congrArg Value.ref ?_
          show (G.1 + (σ.1 - 3) + 1 + i : Nat) = G.1 + (σ.1 + 1 + i - 3)
          omega
        · dsimp only
          rw [if_neg hi, if_neg hi]
          rfl
      · rw [if_neg e1]
        by_cases e2 : σ.1 < j ∧ j ≤ σ.1 + N.toNatClampNeg
        · rw [if_pos e2]
          refine ⟨comp, ?_, hAi⟩
          have := hrow (j - σ.1 - 1) (by omega)
          rw [← this]
          congr 1
          rw [c_ad_ge hj, h2]
          omega
        · rw [if_neg e2]
          exact (h3 j hj (by omega)).kept (hold _ (by rw [c_ad_ge hj, h2]; omega))
    · show c_sp G s F.heap j (c_nm σ N.toNatClampNeg M.toNatClampNeg j)
      unfold c_nm
      rw [if_neg (by omega), if_neg (by omega)]
      exact (h4 j hj).kept old
    · show c_nm σ N.toNatClampNeg M.toNatClampNeg j = cJ
      have hj2 : σ.1 + 1 + N.toNatClampNeg ≤ j := hj
      unfold c_nm
      rw [if_neg (by omega), if_neg (by omega)]
      exact h5 j (by omega)
  have hT2 : T.heap.size = c_ad G σ.1 := by rw [hT]; exact hHn
  obtain ⟨t, a9, b9⟩ := kk σ.1 _ r σ' hP F.heap locs ls hH2 hL hl F rfl X'
  refine ⟨t, step t ?_, b9⟩
  rw [hT2]
  exact a9
end SMG
