/-! The abstract heap: cells by number. Numbers 0, 1, 2 are FACTORIAL, LIKING_PLACE and the script (read alone); the law's own cells follow from 3 on.
A program over it (MM) answers none where the machine would throw, or where its fuel ends. Sm: the machine, at a place of a method, follows a program. -/
abbrev cE : Type := (Nat × Nat × ((Nat → Int32) ⊕ (Nat → Option Nat))) ⊕ (Nat × List Value)
abbrev cH : Type := Nat × (Nat → cE)
abbrev MM (α : Type) : Type := cH → Option (α × cH)
abbrev cG : Type := Nat × (Nat → Nat) × va_G
def cJ : cE := .inl (99, 0, .inl (fun _ => 0))
def c_up (f : Nat → cE) (a : Nat) (e : cE) : Nat → cE := fun k => if k = a then e else f k
theorem c_up_same (f : Nat → cE) (a : Nat) (e : cE) : c_up f a e a = e := if_pos rfl
theorem c_up_ne (f : Nat → cE) {a k : Nat} (e : cE) (h : k ≠ a) : c_up f a e k = f k := if_neg h
def c_ty (t : Nat) : FieldType := match t with
  | 0 => .int
  | 1 => .boolean
  | 2 => .object RX1
  | 3 => .object RX5
  | _ => .array .int
/-! programs -/
def m_ret {α : Type} (x : α) : MM α := fun σ => some (x, σ)
def m_rz (x : Int32) : MM Int32 := fun σ => if x &&& 1 = x then some (x, σ) else none
def m_bad {α : Type} : MM α := fun _ => none
def m_bind {α β : Type} (P : MM α) (K : α → MM β) : MM β := fun σ => match P σ with
  | none => none
  | some q => K q.1 q.2
def m_gi {α : Type} (a ci k : Nat) (K : Int32 → MM α) : MM α := fun σ => match σ.2 a with
  | .inr (c, fs) => if c = ci then (match fs[k]? with
    | some (.int x) => K x σ
    | _ => none) else none
  | .inl _ => none
def m_gr {α : Type} (a ci k : Nat) (K : Nat → MM α) : MM α := fun σ => match σ.2 a with
  | .inr (c, fs) => if c = ci then (match fs[k]? with
    | some (.ref x) => K x σ
    | _ => none) else none
  | .inl _ => none
def m_pv {α : Type} (a ci k : Nat) (v : Value) (K : MM α) : MM α := fun σ => match σ.2 a with
  | .inr (c, fs) => if c = ci ∧ k < fs.length then K (σ.1, c_up σ.2 a (.inr (c, fs.set k v))) else none
  | .inl _ => none
def m_li {α : Type} (t a : Nat) (i : Int32) (K : Int32 → MM α) : MM α := fun σ => match σ.2 a with
  | .inl (t', N, .inl f) => if t' = t ∧ ¬ (i < 0 ∨ N ≤ i.toNatClampNeg) then K (f i.toNatClampNeg) σ else none
  | _ => none
def m_si {α : Type} (a : Nat) (i x : Int32) (K : MM α) : MM α := fun σ => match σ.2 a with
  | .inl (t', N, .inl f) => if t' = 0 ∧ 3 ≤ a ∧ ¬ (i < 0 ∨ N ≤ i.toNatClampNeg) then K (σ.1, c_up σ.2 a (.inl (0, N, .inl (upd f i.toNatClampNeg x)))) else none
  | _ => none
def m_sz {α : Type} (a : Nat) (i x : Int32) (K : MM α) : MM α := fun σ => match σ.2 a with
  | .inl (t', N, .inl f) => if t' = 1 ∧ 3 ≤ a ∧ ¬ (i < 0 ∨ N ≤ i.toNatClampNeg) ∧ x &&& 1 = x then K (σ.1, c_up σ.2 a (.inl (1, N, .inl (upd f i.toNatClampNeg x)))) else none
  | _ => none
def m_lr {α : Type} (t a : Nat) (i : Int32) (K : Nat → MM α) : MM α := fun σ => match σ.2 a with
  | .inl (t', N, .inr f) => if t' = t ∧ ¬ (i < 0 ∨ N ≤ i.toNatClampNeg) then (match f i.toNatClampNeg with
    | some y => K y σ
    | none => none) else none
  | _ => none
def m_sr {α : Type} (t a : Nat) (i : Int32) (v ci : Nat) (K : MM α) : MM α := fun σ => match σ.2 a, σ.2 v with
  | .inl (t', N, .inr f), .inr (c, _) => if t' = t ∧ c = ci ∧ ¬ (i < 0 ∨ N ≤ i.toNatClampNeg) then K (σ.1, c_up σ.2 a (.inl (t', N, .inr (va_up f i.toNatClampNeg (some v))))) else none
  | _, _ => none
def m_len {α : Type} (a : Nat) (K : Int32 → MM α) : MM α := fun σ => match σ.2 a with
  | .inl (t', N, _) => if t' < 99 then K (Int32.ofNat N) σ else none
  | _ => none
def m_new {α : Type} (ci : Nat) (fs : List Value) (K : Nat → MM α) : MM α := fun σ => K σ.1 (σ.1 + 1, c_up σ.2 σ.1 (.inr (ci, fs)))
def m_na {α : Type} (t n : Nat) (K : Nat → MM α) : MM α := fun σ => K σ.1 (σ.1 + 1, c_up σ.2 σ.1 (.inl (t, n, .inl (fun _ => 0))))
def m_nr {α : Type} (t n : Nat) (K : Nat → MM α) : MM α := fun σ => K σ.1 (σ.1 + 1, c_up σ.2 σ.1 (.inl (t, n, .inr (fun _ => none))))
def c_nm (σ : cH) (n k : Nat) : Nat → cE := fun j => if j = σ.1 then .inl (4, n, .inr (fun i => if i < n then some (σ.1 + 1 + i) else none)) else if σ.1 < j ∧ j ≤ σ.1 + n then .inl (0, k, .inl (fun _ => 0)) else σ.2 j
def m_nm {α : Type} (n k : Nat) (K : Nat → MM α) : MM α := fun σ => K σ.1 (σ.1 + 1 + n, c_nm σ n k)
def m_cp {α : Type} (a0 a1 : Nat) (n : Int32) (K : MM α) : MM α := fun σ => match σ.2 a0, σ.2 a1 with
  | .inl (t0, N0, .inl f), .inl (t1, N1, .inl g) => if t0 = 0 ∧ t1 = 0 ∧ 3 ≤ a0 ∧ 3 ≤ a1 ∧ ¬ n < 0 ∧ n.toNatClampNeg ≤ N0 ∧ n.toNatClampNeg ≤ N1 then K (σ.1, c_up σ.2 a1 (.inl (0, N1, .inl (va_cpy f g 0 0 n.toNatClampNeg)))) else none
  | _, _ => none
def m_nz {α : Type} (y : Int32) (K : MM α) : MM α := fun σ => if y = 0 then none else K σ
def m_nzl {α : Type} (y : Int64) (K : MM α) : MM α := fun σ => if y = 0 then none else K σ
def m_cv {α β : Type} (a ci : Nat) (P : MM α) (K : α → MM β) : MM β := fun σ => match σ.2 a with
  | .inr (c, _) => if c = ci then m_bind P K σ else none
  | .inl _ => none
/-! what the machine's heap holds of it -/
def c_ad (G : cG) (k : Nat) : Nat := if k < 3 then G.2.1 k else G.1 + (k - 3)
def c_v (G : cG) : Value → Value
  | .ref a => .ref (c_ad G a)
  | v => v
def c_lv (G : cG) (lv : List (Nat × Value)) : List (Nat × Value) := lv.map (fun q => (q.1, c_v G q.2))
def c_A (G : cG) : Nat → Prop := fun q => G.1 ≤ q
def c_at (G : cG) (U : State) (H : Heap) (k : Nat) (e : cE) : Prop := match e with
  | .inl (t, N, .inl f) => ∃ cA : ClassId, H[c_ad G k]? = some (arrV cA N (fun j => .int (f j))) ∧ ArrOfT U cA (c_ty t)
  | .inl (t, N, .inr f) => ∃ cA : ClassId, H[c_ad G k]? = some (arrV cA N (fun j => va_rf ((f j).map (c_ad G)))) ∧ ArrOfT U cA (c_ty t) ∧ va_RA U cA (c_ty t)
  | .inr (ci, fs) => ∃ r : vw_C, vwCl[ci]? = some r ∧ t_OB (c_ad G k) (G.2.2.1 ci) r.2.2 (G.2.2.2 ci) H (vp_V (fs.map (c_v G)))
def c_sp (G : cG) (U : State) (H : Heap) (k : Nat) (e : cE) : Prop := match e with
  | .inl (t, N, .inl f) => t = 0 ∧ va_T .int (c_ad G k) N (fun j => .int (f j)) (c_A G) U H
  | _ => False
def c_St (G : cG) (U : State) (H : Heap) : Prop := va_Z RX4 "FACTORIAL" "[I" (.ref (G.2.1 0)) (c_A G) U H ∧ va_Z RX4 "LIKING_PLACE" "[I" (.ref (G.2.1 1)) (c_A G) U H
def c_Hd (G : cG) (σ : cH) (U : State) (H : Heap) : Prop := 3 ≤ σ.1 ∧ H.size = G.1 + (σ.1 - 3) ∧ (∀ k, 3 ≤ k → k < σ.1 → c_at G U H k (σ.2 k)) ∧ (∀ k, k < 3 → c_sp G U H k (σ.2 k)) ∧ (∀ k, σ.1 ≤ k → σ.2 k = cJ) ∧ c_St G U H
theorem c_at.moved {G : cG} {u U : State} {H : Heap} {k : Nat} {e : cE} (hvm : u.vm.Alike U.vm) (h : c_at G u H k e) : c_at G U H k e := by
  rcases e with ⟨t, N, f | f⟩ | ⟨ci, fs⟩
  · obtain ⟨cA, h1, h2⟩ := h
    exact ⟨cA, h1, arrOfT_moved hvm h2⟩
  · obtain ⟨cA, h1, h2, h3⟩ := h
    exact ⟨cA, h1, arrOfT_moved hvm h2, h3.moved hvm⟩
  · exact h
theorem c_sp.moved {G : cG} {u U : State} {H : Heap} {k : Nat} {e : cE} (hvm : u.vm.Alike U.vm) (h : c_sp G u H k e) : c_sp G U H k e := by
  rcases e with ⟨t, N, f | f⟩ | ⟨ci, fs⟩
  · exact ⟨h.1, va_T.moved hvm h.2⟩
  · exact h
  · exact h
theorem c_Hd.moved {G : cG} {σ : cH} {u U : State} {H : Heap} (hvm : u.vm.Alike U.vm) (h : c_Hd G σ u H) : c_Hd G σ U H :=
  ⟨h.1, h.2.1, fun k h3 hk => (h.2.2.1 k h3 hk).moved hvm, fun k hk => (h.2.2.2.1 k hk).moved hvm, h.2.2.2.2.1, va_Z.moved hvm h.2.2.2.2.2.1, va_Z.moved hvm h.2.2.2.2.2.2⟩
theorem c_at.kept {G : cG} {U : State} {H H1 : Heap} {k : Nat} {e : cE} (h : c_at G U H k e) (hq : H1[c_ad G k]? = H[c_ad G k]?) : c_at G U H1 k e := by
  rcases e with ⟨t, N, f | f⟩ | ⟨ci, fs⟩
  · obtain ⟨cA, h1, h2⟩ := h
    exact ⟨cA, by rw [hq]; exact h1, h2⟩
  · obtain ⟨cA, h1, h2, h3⟩ := h
    exact ⟨cA, by rw [hq]; exact h1, h2, h3⟩
  · obtain ⟨r, h1, h2⟩ := h
    exact ⟨r, h1, h2.kept hq⟩
theorem c_sp.kept {G : cG} {U : State} {H H1 : Heap} {k : Nat} {e : cE} (h : c_sp G U H k e) (hq : ∀ a : Nat, a < H.size → ¬ c_A G a → H1[a]? = H[a]?) : c_sp G U H1 k e := by
  rcases e with ⟨t, N, f | f⟩ | ⟨ci, fs⟩
  · exact ⟨h.1, va_T.kept h.2 hq⟩
  · exact h
  · exact h
theorem c_ad_ge {G : cG} {k : Nat} (h : 3 ≤ k) : c_ad G k = G.1 + (k - 3) := if_neg (by omega)
theorem c_ad_inj {G : cG} {j k : Nat} (hj : 3 ≤ j) (hk : 3 ≤ k) (h : c_ad G j = c_ad G k) : j = k := by
  rw [c_ad_ge hj, c_ad_ge hk] at h
  omega
theorem c_ad_A {G : cG} {k : Nat} (h : 3 ≤ k) : c_A G (c_ad G k) := by
  rw [c_ad_ge h]
  exact Nat.le_add_right _ _
/-- one cell of ours is written -/
theorem c_Hd.set {G : cG} {σ : cH} {U : State} {H H1 : Heap} {a : Nat} {e : cE} (h : c_Hd G σ U H) (ha : 3 ≤ a) (hl : a < σ.1) (hz : H1.size = H.size) (oq : ∀ q : Nat, q ≠ c_ad G a → H1[q]? = H[q]?) (he : c_at G U H1 a e) : c_Hd G (σ.1, c_up σ.2 a e) U H1 := by
  obtain ⟨h1, h2, h3, h4, h5, h6⟩ := h
  have old : ∀ q : Nat, q < H.size → ¬ c_A G q → H1[q]? = H[q]? := fun q _ hq => oq q (fun e => hq (by rw [e]; exact c_ad_A ha))
  refine ⟨h1, by rw [hz]; exact h2, fun k hk hl2 => ?_, fun k hk => ?_, fun k hk => ?_, va_Z.kept h6.1 old, va_Z.kept h6.2 old⟩
  · show c_at G U H1 k (c_up σ.2 a e k)
    by_cases hka : k = a
    · subst hka
      rw [c_up_same]
      exact he
    · rw [c_up_ne _ _ hka]
      exact (h3 k hk hl2).kept (oq _ (fun z => hka (c_ad_inj hk ha z)))
  · show c_sp G U H1 k (c_up σ.2 a e k)
    rw [c_up_ne _ _ (by omega)]
    exact (h4 k hk).kept old
  · show c_up σ.2 a e k = cJ
    rw [c_up_ne _ _ (by have : σ.1 ≤ k := hk; omega)]
    exact h5 k hk
/-- a cell of ours is made -/
theorem c_Hd.push {G : cG} {σ : cH} {U : State} {H H1 : Heap} {e : cE} (h : c_Hd G σ U H) (hz : H1.size = H.size + 1) (oq : ∀ q : Nat, q < H.size → H1[q]? = H[q]?) (he : c_at G U H1 σ.1 e) : c_Hd G (σ.1 + 1, c_up σ.2 σ.1 e) U H1 := by
  obtain ⟨h1, h2, h3, h4, h5, h6⟩ := h
  have old : ∀ q : Nat, q < H.size → ¬ c_A G q → H1[q]? = H[q]? := fun q hq _ => oq q hq
  refine ⟨by show 3 ≤ σ.1 + 1; omega, by rw [hz, h2]; show G.1 + (σ.1 - 3) + 1 = G.1 + (σ.1 + 1 - 3); omega, fun k hk hl2 => ?_, fun k hk => ?_, fun k hk => ?_, va_Z.kept h6.1 old, va_Z.kept h6.2 old⟩
  · show c_at G U H1 k (c_up σ.2 σ.1 e k)
    by_cases hka : k = σ.1
    · rw [hka, c_up_same]
      exact he
    · rw [c_up_ne _ _ hka]
      have hl3 : k < σ.1 := by have : k < σ.1 + 1 := hl2; omega
      exact (h3 k hk hl3).kept (oq _ (by rw [c_ad_ge hk, h2]; omega))
  · show c_sp G U H1 k (c_up σ.2 σ.1 e k)
    rw [c_up_ne _ _ (by omega)]
    exact (h4 k hk).kept old
  · show c_up σ.2 σ.1 e k = cJ
    have hk2 : σ.1 + 1 ≤ k := hk
    rw [c_up_ne _ _ (by omega)]
    exact h5 k (by omega)
theorem c_Hd.new {G : cG} {σ : cH} {U : State} {H : Heap} (h : c_Hd G σ U H) : H.size = c_ad G σ.1 := by
  rw [c_ad_ge h.1]
  exact h.2.1
/-- an object's cell is one of ours -/
theorem c_Hd.obj {G : cG} {σ : cH} {U : State} {H : Heap} (h : c_Hd G σ U H) {a : Nat} {q : Nat × List Value} (ha : σ.2 a = .inr q) : 3 ≤ a ∧ a < σ.1 ∧ c_at G U H a (.inr q) := by
  have h3 : 3 ≤ a := by
    refine Nat.not_lt.mp fun z => ?_
    have := h.2.2.2.1 a z
    rw [ha] at this
    exact this
  have hl : a < σ.1 := by
    refine Nat.not_le.mp fun z => ?_
    have := h.2.2.2.2.1 a z
    rw [ha] at this
    cases this
  refine ⟨h3, hl, ?_⟩
  have := h.2.2.1 a h3 hl
  rw [ha] at this
  exact this
theorem c_Hd.arr {G : cG} {σ : cH} {U : State} {H : Heap} (h : c_Hd G σ U H) {a t N : Nat} {f : (Nat → Int32) ⊕ (Nat → Option Nat)} (ha : σ.2 a = .inl (t, N, f)) (ht : t < 99) (h3 : 3 ≤ a) : a < σ.1 ∧ c_at G U H a (.inl (t, N, f)) := by
  have hl : a < σ.1 := by
    refine Nat.not_le.mp fun z => ?_
    have := h.2.2.2.2.1 a z
    rw [ha] at this
    have e : t = 99 := by
      have := Sum.inl.inj this
      exact congrArg Prod.fst this
    omega
  refine ⟨hl, ?_⟩
  have := h.2.2.1 a h3 hl
  rw [ha] at this
  exact this
