/-! what a program's step says when it answers -/
theorem m_gi_inv {α : Type} {a ci k : Nat} {K : Int32 → MM α} {σ : cH} {q : α × cH} (h : m_gi a ci k K σ = some q) : ∃ (fs : List Value) (x : Int32), σ.2 a = .inr (ci, fs) ∧ fs[k]? = some (.int x) ∧ K x σ = some q := by
  unfold m_gi at h
  rcases ha : σ.2 a with z | ⟨c, fs⟩
  · rw [ha] at h; cases h
  · rw [ha] at h
    dsimp only at h
    by_cases hc : c = ci
    · rw [if_pos hc] at h
      subst hc
      rcases hk : fs[k]? with _ | v
      · rw [hk] at h; cases h
      · rw [hk] at h
        cases v <;> first | exact ⟨fs, _, rfl, hk, h⟩ | cases h
    · rw [if_neg hc] at h; cases h
theorem m_gr_inv {α : Type} {a ci k : Nat} {K : Nat → MM α} {σ : cH} {q : α × cH} (h : m_gr a ci k K σ = some q) : ∃ (fs : List Value) (x : Nat), σ.2 a = .inr (ci, fs) ∧ fs[k]? = some (.ref x) ∧ K x σ = some q := by
  unfold m_gr at h
  rcases ha : σ.2 a with z | ⟨c, fs⟩
  · rw [ha] at h; cases h
  · rw [ha] at h
    dsimp only at h
    by_cases hc : c = ci
    · rw [if_pos hc] at h
      subst hc
      rcases hk : fs[k]? with _ | v
      · rw [hk] at h; cases h
      · rw [hk] at h
        cases v <;> first | exact ⟨fs, _, rfl, hk, h⟩ | cases h
    · rw [if_neg hc] at h; cases h
theorem m_pv_inv {α : Type} {a ci k : Nat} {v : Value} {K : MM α} {σ : cH} {q : α × cH} (h : m_pv a ci k v K σ = some q) : ∃ fs : List Value, σ.2 a = .inr (ci, fs) ∧ k < fs.length ∧ K (σ.1, c_up σ.2 a (.inr (ci, fs.set k v))) = some q := by
  unfold m_pv at h
  rcases ha : σ.2 a with z | ⟨c, fs⟩
  · rw [ha] at h; cases h
  · rw [ha] at h
    dsimp only at h
    by_cases hc : c = ci ∧ k < fs.length
    · rw [if_pos hc] at h
      obtain ⟨rfl, hl⟩ := hc
      exact ⟨fs, rfl, hl, h⟩
    · rw [if_neg hc] at h; cases h
theorem m_li_inv {α : Type} {t a : Nat} {i : Int32} {K : Int32 → MM α} {σ : cH} {q : α × cH} (h : m_li t a i K σ = some q) : ∃ (N : Nat) (f : Nat → Int32), σ.2 a = .inl (t, N, .inl f) ∧ ¬ (i < 0 ∨ N ≤ i.toNatClampNeg) ∧ K (f i.toNatClampNeg) σ = some q := by
  unfold m_li at h
  rcases ha : σ.2 a with ⟨t', N, f | f⟩ | z
  · rw [ha] at h
    dsimp only at h
    by_cases hc : t' = t ∧ ¬ (i < 0 ∨ N ≤ i.toNatClampNeg)
    · rw [if_pos hc] at h
      obtain ⟨rfl, hl⟩ := hc
      exact ⟨N, f, rfl, hl, h⟩
    · rw [if_neg hc] at h; cases h
  · rw [ha] at h; cases h
  · rw [ha] at h; cases h
theorem m_si_inv {α : Type} {a : Nat} {i x : Int32} {K : MM α} {σ : cH} {q : α × cH} (h : m_si a i x K σ = some q) : ∃ (N : Nat) (f : Nat → Int32), σ.2 a = .inl (0, N, .inl f) ∧ 3 ≤ a ∧ ¬ (i < 0 ∨ N ≤ i.toNatClampNeg) ∧ K (σ.1, c_up σ.2 a (.inl (0, N, .inl (upd f i.toNatClampNeg x)))) = some q := by
  unfold m_si at h
  rcases ha : σ.2 a with ⟨t', N, f | f⟩ | z
  · rw [ha] at h
    dsimp only at h
    by_cases hc : t' = 0 ∧ 3 ≤ a ∧ ¬ (i < 0 ∨ N ≤ i.toNatClampNeg)
    · rw [if_pos hc] at h
      obtain ⟨rfl, h3, hl⟩ := hc
      exact ⟨N, f, rfl, h3, hl, h⟩
    · rw [if_neg hc] at h; cases h
  · rw [ha] at h; cases h
  · rw [ha] at h; cases h
theorem m_sz_inv {α : Type} {a : Nat} {i x : Int32} {K : MM α} {σ : cH} {q : α × cH} (h : m_sz a i x K σ = some q) : ∃ (N : Nat) (f : Nat → Int32), σ.2 a = .inl (1, N, .inl f) ∧ 3 ≤ a ∧ ¬ (i < 0 ∨ N ≤ i.toNatClampNeg) ∧ x &&& 1 = x ∧ K (σ.1, c_up σ.2 a (.inl (1, N, .inl (upd f i.toNatClampNeg x)))) = some q := by
  unfold m_sz at h
  rcases ha : σ.2 a with ⟨t', N, f | f⟩ | z
  · rw [ha] at h
    dsimp only at h
    by_cases hc : t' = 1 ∧ 3 ≤ a ∧ ¬ (i < 0 ∨ N ≤ i.toNatClampNeg) ∧ x &&& 1 = x
    · rw [if_pos hc] at h
      obtain ⟨rfl, h3, hl, hx⟩ := hc
      exact ⟨N, f, rfl, h3, hl, hx, h⟩
    · rw [if_neg hc] at h; cases h
  · rw [ha] at h; cases h
  · rw [ha] at h; cases h
theorem m_lr_inv {α : Type} {t a : Nat} {i : Int32} {K : Nat → MM α} {σ : cH} {q : α × cH} (h : m_lr t a i K σ = some q) : ∃ (N : Nat) (f : Nat → Option Nat) (y : Nat), σ.2 a = .inl (t, N, .inr f) ∧ ¬ (i < 0 ∨ N ≤ i.toNatClampNeg) ∧ f i.toNatClampNeg = some y ∧ K y σ = some q := by
  unfold m_lr at h
  rcases ha : σ.2 a with ⟨t', N, f | f⟩ | z
  · rw [ha] at h; cases h
  · rw [ha] at h
    dsimp only at h
    by_cases hc : t' = t ∧ ¬ (i < 0 ∨ N ≤ i.toNatClampNeg)
    · rw [if_pos hc] at h
      obtain ⟨rfl, hl⟩ := hc
      rcases hy : f i.toNatClampNeg with _ | y
      · rw [hy] at h; cases h
      · rw [hy] at h
        exact ⟨N, f, y, rfl, hl, hy, h⟩
    · rw [if_neg hc] at h; cases h
  · rw [ha] at h; cases h
theorem m_sr_inv {α : Type} {t a : Nat} {i : Int32} {v ci : Nat} {K : MM α} {σ : cH} {q : α × cH} (h : m_sr t a i v ci K σ = some q) : ∃ (N : Nat) (f : Nat → Option Nat) (fs : List Value), σ.2 a = .inl (t, N, .inr f) ∧ σ.2 v = .inr (ci, fs) ∧ ¬ (i < 0 ∨ N ≤ i.toNatClampNeg) ∧ K (σ.1, c_up σ.2 a (.inl (t, N, .inr (va_up f i.toNatClampNeg (some v))))) = some q := by
  unfold m_sr at h
  rcases ha : σ.2 a with ⟨t', N, f | f⟩ | z
  · rw [ha] at h; cases h
  · rw [ha] at h
    rcases hv : σ.2 v with z | ⟨c, fs⟩
    · rw [hv] at h; cases h
    · rw [hv] at h
      dsimp only at h
      by_cases hc : t' = t ∧ c = ci ∧ ¬ (i < 0 ∨ N ≤ i.toNatClampNeg)
      · rw [if_pos hc] at h
        obtain ⟨rfl, rfl, hl⟩ := hc
        exact ⟨N, f, fs, rfl, rfl, hl, h⟩
      · rw [if_neg hc] at h; cases h
  · rw [ha] at h; cases h
theorem m_len_inv {α : Type} {a : Nat} {K : Int32 → MM α} {σ : cH} {q : α × cH} (h : m_len a K σ = some q) : ∃ (t N : Nat) (f : (Nat → Int32) ⊕ (Nat → Option Nat)), σ.2 a = .inl (t, N, f) ∧ t < 99 ∧ K (Int32.ofNat N) σ = some q := by
  unfold m_len at h
  rcases ha : σ.2 a with ⟨t', N, f⟩ | z
  · rw [ha] at h
    dsimp only at h
    by_cases hc : t' < 99
    · rw [if_pos hc] at h
      exact ⟨t', N, f, rfl, hc, h⟩
    · rw [if_neg hc] at h; cases h
  · rw [ha] at h; cases h
theorem m_cp_inv {α : Type} {a0 a1 : Nat} {n : Int32} {K : MM α} {σ : cH} {q : α × cH} (h : m_cp a0 a1 n K σ = some q) : ∃ (N0 N1 : Nat) (f g : Nat → Int32), σ.2 a0 = .inl (0, N0, .inl f) ∧ σ.2 a1 = .inl (0, N1, .inl g) ∧ 3 ≤ a0 ∧ 3 ≤ a1 ∧ ¬ n < 0 ∧ n.toNatClampNeg ≤ N0 ∧ n.toNatClampNeg ≤ N1 ∧ K (σ.1, c_up σ.2 a1 (.inl (0, N1, .inl (va_cpy f g 0 0 n.toNatClampNeg)))) = some q := by
  unfold m_cp at h
  rcases ha : σ.2 a0 with ⟨t0, N0, f | f⟩ | z
  · rw [ha] at h
    rcases hb : σ.2 a1 with ⟨t1, N1, g | g⟩ | z
    · rw [hb] at h
      dsimp only at h
      by_cases hc : t0 = 0 ∧ t1 = 0 ∧ 3 ≤ a0 ∧ 3 ≤ a1 ∧ ¬ n < 0 ∧ n.toNatClampNeg ≤ N0 ∧ n.toNatClampNeg ≤ N1
      · rw [if_pos hc] at h
        obtain ⟨rfl, rfl, h1, h2, h3, h4, h5⟩ := hc
        exact ⟨N0, N1, f, g, rfl, rfl, h1, h2, h3, h4, h5, h⟩
      · rw [if_neg hc] at h; cases h
    · rw [hb] at h; cases h
    · rw [hb] at h; cases h
  · rw [ha] at h; cases h
  · rw [ha] at h; cases h
theorem m_cv_inv {α β : Type} {a ci : Nat} {P : MM α} {K : α → MM β} {σ : cH} {q : β × cH} (h : m_cv a ci P K σ = some q) : ∃ (fs : List Value) (x : α) (σ1 : cH), σ.2 a = .inr (ci, fs) ∧ P σ = some (x, σ1) ∧ K x σ1 = some q := by
  unfold m_cv at h
  rcases ha : σ.2 a with z | ⟨c, fs⟩
  · rw [ha] at h; cases h
  · rw [ha] at h
    dsimp only at h
    by_cases hc : c = ci
    · rw [if_pos hc] at h
      subst hc
      unfold m_bind at h
      rcases hp : P σ with _ | ⟨x, σ1⟩
      · rw [hp] at h; cases h
      · rw [hp] at h
        exact ⟨fs, x, σ1, rfl, rfl, h⟩
    · rw [if_neg hc] at h; cases h
theorem m_bind_inv {α β : Type} {P : MM α} {K : α → MM β} {σ : cH} {q : β × cH} (h : m_bind P K σ = some q) : ∃ (x : α) (σ1 : cH), P σ = some (x, σ1) ∧ K x σ1 = some q := by
  unfold m_bind at h
  rcases hp : P σ with _ | ⟨x, σ1⟩
  · rw [hp] at h; cases h
  · rw [hp] at h
    exact ⟨x, σ1, rfl, h⟩
/-! fields -/
def c_Fl (own : String) (index ci k : Nat) : Prop := ∃ (C : String) (T : u_T) (N : Nat), vwCl[ci]? = some (C, T, N) ∧ k < N ∧ (∀ w ∈ u_ws C T N, w ∈ c_gw) ∧ Cond.fieldLink own index (T k).1 (T k).2.1 (T k).2.2.1 ∈ c_gw
def c_Fp (ci k : Nat) (ty : FieldType) (fin : Bool) : Prop := ∃ (C : String) (T : u_T) (N : Nat) (ty0 : Nat → FieldType), vwCl[ci]? = some (C, T, N) ∧ (∀ k, k < N → parseFieldDescriptor (T k).2.2.1 = some (ty0 k)) ∧ (∀ a, a < N → ∀ b, b < N → a ≠ b → (T a).2.1 ≠ (T b).2.1) ∧ (T k).2.2.2 = fin ∧ parseFieldDescriptor (T k).2.2.1 = some ty ∧ (T k).1 = C
section SMH
variable {α β : Type} {p : Program} {l : Launch} {e : Env} {R : Room} {s : State} {m : MethodId} {args : Array Value} {below : List Frame} {meth : Method} {c : Code} {G : cG} {nL : Nat} {Q : α → cH → State → Prop} {cells slots pc : Nat} {lv lv' : List (Nat × Value)} {st : List Value} {P : MM α} {cc : ByteArray} {own : String}
theorem c_get (h : c_Ok p s m c cc nL own G) {index a ci k : Nat} {fs : List Value} {v : Value} {H : Heap} {locs : List Loc} {ls : Array Slot} {rest : List Value} {Z : State → Prop} (hf : c_Fl own index ci k) (hd : decode cc pc = .ok (.getfield index, 3)) (ha : c_at G s H a (.inr (ci, fs))) (hv : fs[k]? = some v)
    (kk : W p l e R s m args below meth c H locs cells slots Z (F0 m (pc + 3) ls (c_v G v :: rest))) : W p l e R s m args below meth c H locs cells slots Z (F0 m pc ls (.ref (c_ad G a) :: rest)) := by
  obtain ⟨C, T, N, hc, hk, hin, hw⟩ := hf
  have hP1 : va_P G.2.2 vwCl [(c_ad G a, .inr (ci, fs.map (c_v G)))] H := by
    intro k q hq
    have hz : k < 1 := (List.getElem?_eq_some_iff.mp hq).1
    rw [show k = 0 by omega] at hq
    cases hq
    exact ha
  exact va_get h.1 h.2.1 (fun w hw => h.2.2.2.2.1 w hw args) hin h.2.2.2.1 h.2.2.2.2.2.1 hP1 0 rfl hc k hk (h.2.2.2.2.1 _ hw _) (fun _ h9 => h9) (by rw [List.getElem?_map, hv]; rfl) hd kk
theorem sm_gi (h : c_Ok p s m c cc nL own G) {index a ci k : Nat} {K : Int32 → MM α} (hf : c_Fl own index ci k) (hd : decode cc pc = .ok (.getfield index, 3)) (kk : ∀ x : Int32, Sm p l e R s m args below meth c G nL Q cells slots (pc + 3) lv (.int x :: st) (K x)) : Sm p l e R s m args below meth c G nL Q cells slots pc lv (.ref a :: st) (m_gi a ci k K) := by
  intro σ r σ' hP H locs ls hH hL hl
  obtain ⟨fs, x, h1, h2, h3⟩ := m_gi_inv hP
  exact c_get h hf hd (hH.obj h1).2.2 h2 (kk x σ r σ' h3 H locs ls hH hL hl)
theorem sm_gr (h : c_Ok p s m c cc nL own G) {index a ci k : Nat} {K : Nat → MM α} (hf : c_Fl own index ci k) (hd : decode cc pc = .ok (.getfield index, 3)) (kk : ∀ x : Nat, Sm p l e R s m args below meth c G nL Q cells slots (pc + 3) lv (.ref x :: st) (K x)) : Sm p l e R s m args below meth c G nL Q cells slots pc lv (.ref a :: st) (m_gr a ci k K) := by
  intro σ r σ' hP H locs ls hH hL hl
  obtain ⟨fs, x, h1, h2, h3⟩ := m_gr_inv hP
  exact c_get h hf hd (hH.obj h1).2.2 h2 (kk x σ r σ' h3 H locs ls hH hL hl)
theorem sm_pv (h : c_Ok p s m c cc nL own G) {index a ci k : Nat} {v : Value} {ty : FieldType} (hf : c_Fl own index ci k) (hp : c_Fp ci k ty false) (hn : narrow ty (c_v G v) = c_v G v) (hfit : fits ty (c_v G v) = true) (hd : decode cc pc = .ok (.putfield index, 3)) (kk : Sm p l e R s m args below meth c G nL Q cells slots (pc + 3) lv st P) : Sm p l e R s m args below meth c G nL Q cells slots pc lv (v :: .ref a :: st) (m_pv a ci k v P) := by
  intro σ r σ' hP H locs ls hH hL hl
  obtain ⟨fs, h1, h2, h3⟩ := m_pv_inv hP
  obtain ⟨h3a, hlt, r9, hr9, cell, q1, q2, q3, q4⟩ := hH.obj h1
  obtain ⟨C, T, N, hc, hk, hin, hw⟩ := hf
  obtain ⟨C', T', N', ty0, hc', hty, hnm, hfin, hdsc, -⟩ := hp
  cases hc.symm.trans hc'
  cases hc.symm.trans hr9
  have hts : ∀ w ∈ c_gw, w.before args s = true := fun w hw => h.2.2.2.2.1 w hw args
  have hK := h.2.2.2.2.2.1
  have hap := va_apart (own := own) hts hin ty0 hty hnm hK hc
  obtain ⟨hS, hfc, kC, hkC, hkind⟩ := hK.1 ci _ hc
  obtain ⟨cf, kf, fi, f, hi, hsl⟩ := hS k hk
  have hlay := hts _ (hin _ (u_in_lay hk))
  unfold u_lay at hlay
  rw [if_neg (by rw [hfin]; decide)] at hlay
  have hst := (u_facts hfc hkC (u_lays hts hin hk) hi).1
  have h6 := u_store hfc hkC hkind hlay hi hdsc hn hfit
  refine W.putK h.1 h.2.1 (f := f) ⟨h.2.2.2.1, h.2.2.2.2.1 _ hw _, ⟨_, _, _, hi⟩, hst⟩ (by rw [q2]; exact h6) q1 q3 (by rw [hsl]; exact k2_hasslot (q4 k hk)) rfl rfl hd fun H' e1 e2 e3 => ?_
  refine kk _ r σ' h3 H' _ ls (hH.set h3a hlt e2 e3 ⟨_, hc, ?_⟩) (fun q hq => ?_) hl
  · rw [hsl] at e1
    refine t_OB.to (V := updV (vp_V (fs.map (c_v G))) k (c_v G v)) ⟨_, e1, q2, q3, t_set q4 hap hk _⟩ (fun j _ => ?_)
    rw [vp_updV_set (by rw [List.length_map]; exact h2) (c_v G v) j, List.map_set]
  · rcases List.mem_append.mp hq with z | z
    · exact hL q z
    · rw [List.mem_singleton.mp z]
      exact c_ad_A h3a
theorem sm_pvF (h : c_Ok p s m c cc nL own G) {index a ci k : Nat} {v : Value} {ty : FieldType} (hin2 : meth.name = "<init>") (hf : c_Fl own index ci k) (hp : c_Fp ci k ty true) (hown : ∃ T N, vwCl[ci]? = some (own, T, N)) (hn : narrow ty (c_v G v) = c_v G v) (hfit : fits ty (c_v G v) = true) (hd : decode cc pc = .ok (.putfield index, 3)) (kk : Sm p l e R s m args below meth c G nL Q cells slots (pc + 3) lv st P) : Sm p l e R s m args below meth c G nL Q cells slots pc lv (v :: .ref a :: st) (m_pv a ci k v P) := by
  intro σ r σ' hP H locs ls hH hL hl
  obtain ⟨fs, h1, h2, h3⟩ := m_pv_inv hP
  obtain ⟨h3a, hlt, r9, hr9, cell, q1, q2, q3, q4⟩ := hH.obj h1
  obtain ⟨C, T, N, hc, hk, hin, hw⟩ := hf
  obtain ⟨C', T', N', ty0, hc', hty, hnm, hfin, hdsc, hdecl⟩ := hp
  obtain ⟨T2, N2, hc2⟩ := hown
  cases hc.symm.trans hc'
  cases hc.symm.trans hr9
  cases hc.symm.trans hc2
  have hts : ∀ w ∈ c_gw, w.before args s = true := fun w hw => h.2.2.2.2.1 w hw args
  have hK := h.2.2.2.2.2.1
  have hap := va_apart (own := own) hts hin ty0 hty hnm hK hc
  obtain ⟨hS, hfc, kC, hkC, hkind⟩ := hK.1 ci _ hc
  obtain ⟨cf, kf, fi, f, hi, hsl⟩ := hS k hk
  have hlay := hts _ (hin _ (u_in_lay hk))
  unfold u_lay at hlay
  rw [if_pos hfin] at hlay
  have hst := (u_facts hfc hkC (u_lays hts hin hk) hi).1
  have hcf : m.cls = cf := by
    obtain ⟨_, _, c', _, _, _, -, -, hf', -, -, -, hown2, -⟩ := Cond.laysFinal_spec hlay
    have e1 : c' = cf := by have := hi.symm.trans hf'; simp at this; exact this.1.symm
    rw [hdecl] at hown2
    rw [← e1]; exact Option.some.inj (h.2.2.2.1.symm.trans hown2)
  have h6 := u_fits hfc hkC hkind (Or.inr hlay) hi hdsc hn hfit
  refine W.putFinK h.1 h.2.1 h.2.2.2.1 (h.2.2.2.2.1 _ hw _) hi hst hcf hin2 (by rw [q2]; exact h6) q1 q3 (by rw [hsl]; exact k2_hasslot (q4 k hk)) rfl rfl hd fun H' e1 e2 e3 => ?_
  refine kk _ r σ' h3 H' _ ls (hH.set h3a hlt e2 e3 ⟨_, hc, ?_⟩) (fun q hq => ?_) hl
  · rw [hsl] at e1
    refine t_OB.to (V := updV (vp_V (fs.map (c_v G))) k (c_v G v)) ⟨_, e1, q2, q3, t_set q4 hap hk _⟩ (fun j _ => ?_)
    rw [vp_updV_set (by rw [List.length_map]; exact h2) (c_v G v) j, List.map_set]
  · rcases List.mem_append.mp hq with z | z
    · exact hL q z
    · rw [List.mem_singleton.mp z]
      exact c_ad_A h3a
/-! arrays -/
theorem sm_li (h : c_Ok p s m c cc nL own G) {a : Nat} {i : Int32} {K : Int32 → MM α} (hd : decode cc pc = .ok (.iaload, 1)) (kk : ∀ x : Int32, Sm p l e R s m args below meth c G nL Q cells slots (pc + 1) lv (.int x :: st) (K x)) : Sm p l e R s m args below meth c G nL Q cells slots pc lv (.int i :: .ref a :: st) (m_li 0 a i K) := by
  intro σ r σ' hP H locs ls hH hL hl
  obtain ⟨N, f, h1, h2, h3⟩ := m_li_inv hP
  have hlt : i.toNatClampNeg < N := Nat.not_le.mp fun q => h2 (Or.inr q)
  by_cases ha : 3 ≤ a
  · obtain ⟨-, cA, g1, g2⟩ := hH.arr h1 (by decide) ha
    exact W.iald (v := .int (f i.toNatClampNeg)) h.1 h.2.1 g1 (g2 N (fun j => .int (f j))) (fun q => by cases q) (by rw [arrV_size]; exact h2) (by rw [arrV_read _ _ hlt]) rfl rfl hd (kk _ σ r σ' h3 H locs ls hH hL hl)
  · have := hH.2.2.2.1 a (by omega)
    rw [h1] at this
    obtain ⟨-, cell, g1, g2, g3, g4, g5, g6, g7⟩ := this
    exact W.iald (v := .int (f i.toNatClampNeg)) h.1 h.2.1 g1 g2 g3 (fun q => by
      rcases q with q | q
      · exact h2 (Or.inl q)
      · omega) (g6 _ hlt) rfl rfl hd (kk _ σ r σ' h3 H locs ls hH hL hl)
theorem sm_lz (h : c_Ok p s m c cc nL own G) {a : Nat} {i : Int32} {K : Int32 → MM α} (hd : decode cc pc = .ok (.baload, 1)) (kk : ∀ x : Int32, Sm p l e R s m args below meth c G nL Q cells slots (pc + 1) lv (.int x :: st) (K x)) : Sm p l e R s m args below meth c G nL Q cells slots pc lv (.int i :: .ref a :: st) (m_li 1 a i K) := by
  intro σ r σ' hP H locs ls hH hL hl
  obtain ⟨N, f, h1, h2, h3⟩ := m_li_inv hP
  have hlt : i.toNatClampNeg < N := Nat.not_le.mp fun q => h2 (Or.inr q)
  have ha : 3 ≤ a := by
    refine Nat.not_lt.mp fun z => ?_
    have := hH.2.2.2.1 a z
    rw [h1] at this
    exact absurd this.1 (by decide)
  obtain ⟨-, cA, g1, g2⟩ := hH.arr h1 (by decide) ha
  exact W.zald (v := .int (f i.toNatClampNeg)) h.1 h.2.1 g1 (g2 N (fun j => .int (f j))) (fun q => by cases q) (by rw [arrV_size]; exact h2) (by rw [arrV_read _ _ hlt]) rfl rfl hd (kk _ σ r σ' h3 H locs ls hH hL hl)
theorem c_L1 {G : cG} {locs : List Loc} {a k : Nat} (hL : ∀ q ∈ locs, c_A G q.base) (ha : 3 ≤ a) : ∀ q ∈ locs ++ [⟨c_ad G a, k⟩], c_A G q.base := by
  intro q hq
  rcases List.mem_append.mp hq with z | z
  · exact hL q z
  · rw [List.mem_singleton.mp z]
    exact c_ad_A ha
theorem sm_si (h : c_Ok p s m c cc nL own G) {a : Nat} {i x : Int32} (hd : decode cc pc = .ok (.iastore, 1)) (kk : Sm p l e R s m args below meth c G nL Q cells slots (pc + 1) lv st P) : Sm p l e R s m args below meth c G nL Q cells slots pc lv (.int x :: .int i :: .ref a :: st) (m_si a i x P) := by
  intro σ r σ' hP H locs ls hH hL hl
  obtain ⟨N, f, h1, ha, h2, h3⟩ := m_si_inv hP
  obtain ⟨hlt, cA, g1, g2⟩ := hH.arr h1 (by decide) ha
  refine W.iast h.1 h.2.1 g1 (g2 N (fun j => .int (f j))) (fun q => by cases q) (by rw [arrV_size]; exact h2) rfl rfl hd fun H1 e z oq => ?_
  refine kk _ r σ' h3 H1 _ ls (hH.set ha hlt z oq ⟨cA, ?_, g2⟩) (c_L1 hL ha) hl
  rw [e, arrV_store]
  congr 2
  funext q
  by_cases hq : q = i.toNatClampNeg <;> simp [updV, upd, hq]
theorem sm_sz (h : c_Ok p s m c cc nL own G) {a : Nat} {i x : Int32} (hd : decode cc pc = .ok (.bastore, 1)) (kk : Sm p l e R s m args below meth c G nL Q cells slots (pc + 1) lv st P) : Sm p l e R s m args below meth c G nL Q cells slots pc lv (.int x :: .int i :: .ref a :: st) (m_sz a i x P) := by
  intro σ r σ' hP H locs ls hH hL hl
  obtain ⟨N, f, h1, ha, h2, hx, h3⟩ := m_sz_inv hP
  obtain ⟨hlt, cA, g1, g2⟩ := hH.arr h1 (by decide) ha
  refine W.zast h.1 h.2.1 g1 (g2 N (fun j => .int (f j))) (fun q => by cases q) (by rw [arrV_size]; exact h2) rfl rfl hd fun H1 e z oq => ?_
  refine kk _ r σ' h3 H1 _ ls (hH.set ha hlt z oq ⟨cA, ?_, g2⟩) (c_L1 hL ha) hl
  rw [e, arrV_store]
  congr 2
  funext q
  by_cases hq : q = i.toNatClampNeg <;> simp [updV, upd, hq, narrow, hx]
theorem sm_lr (h : c_Ok p s m c cc nL own G) {t a : Nat} {i : Int32} {K : Nat → MM α} (ht : (c_ty t).isReference = true) (hd : decode cc pc = .ok (.aaload, 1)) (h9 : 0 < t ∧ t < 99) (kk : ∀ x : Nat, Sm p l e R s m args below meth c G nL Q cells slots (pc + 1) lv (.ref x :: st) (K x)) : Sm p l e R s m args below meth c G nL Q cells slots pc lv (.int i :: .ref a :: st) (m_lr t a i K) := by
  intro σ r σ' hP H locs ls hH hL hl
  obtain ⟨N, f, y, h1, h2, hy, h3⟩ := m_lr_inv hP
  have hlt : i.toNatClampNeg < N := Nat.not_le.mp fun q => h2 (Or.inr q)
  have ha : 3 ≤ a := by
    refine Nat.not_lt.mp fun z => ?_
    have := hH.2.2.2.1 a z
    rw [h1] at this
    exact this
  obtain ⟨-, cA, g1, g2, -⟩ := hH.arr h1 h9.2 ha
  exact W.aald (v := .ref (c_ad G y)) h.1 h.2.1 g1 (g2 N _) ht (fun q => by cases q) (by rw [arrV_size]; exact h2) (by rw [arrV_read _ _ hlt, hy]; rfl) rfl rfl hd (kk _ σ r σ' h3 H locs ls hH hL hl)
theorem sm_len (h : c_Ok p s m c cc nL own G) {a : Nat} {K : Int32 → MM α} (hd : decode cc pc = .ok (.arraylength, 1)) (kk : ∀ x : Int32, Sm p l e R s m args below meth c G nL Q cells slots (pc + 1) lv (.int x :: st) (K x)) : Sm p l e R s m args below meth c G nL Q cells slots pc lv (.ref a :: st) (m_len a K) := by
  intro σ r σ' hP H locs ls hH hL hl
  obtain ⟨t, N, f, h1, h2, h3⟩ := m_len_inv hP
  by_cases ha : 3 ≤ a
  · rcases f with f | f
    · obtain ⟨-, cA, g1, g2⟩ := hH.arr h1 h2 ha
      exact W.alen (n := Int32.ofNat N) h.1 h.2.1 g1 (g2 N _) (by rw [arrV_size] <;> rfl) rfl rfl hd (kk _ σ r σ' h3 H locs ls hH hL hl)
    · obtain ⟨-, cA, g1, g2, -⟩ := hH.arr h1 h2 ha
      exact W.alen (n := Int32.ofNat N) h.1 h.2.1 g1 (g2 N _) (by rw [arrV_size] <;> rfl) rfl rfl hd (kk _ σ r σ' h3 H locs ls hH hL hl)
  · have := hH.2.2.2.1 a (by omega)
    rw [h1] at this
    rcases f with f | f
    · obtain ⟨-, cell, g1, g2, g3, g4, g5, g6, g7⟩ := this
      exact W.alen (n := Int32.ofNat N) h.1 h.2.1 g1 g2 g5 rfl rfl hd (kk _ σ r σ' h3 H locs ls hH hL hl)
    · exact this.elim
end SMH
