/-! both constructors, run: heaps as lists of cells, behind any list -/
def hl (l : List cE) : cH := (l.length, fun k => l.getD k cJ)
def hb (l r : List cE) : cH := hl (l ++ r)
theorem hl_up (l : List cE) {a : Nat} (e : cE) (h : a < l.length) : ((hl l).1, c_up (hl l).2 a e) = hl (l.set a e) := by
  refine Prod.ext (by simp [hl]) (funext fun k => ?_)
  show c_up (fun k => l.getD k cJ) a e k = (l.set a e).getD k cJ
  by_cases hk : k = a
  · subst hk
    rw [c_up_same]
    simp [h]
  · rw [c_up_ne _ _ hk]
    simp [List.getD_eq_getElem?_getD, List.getElem?_set, Ne.symm hk]
theorem hl_push (l : List cE) (e : cE) : (l.length + 1, c_up (hl l).2 l.length e) = hl (l ++ [e]) := by
  refine Prod.ext (by simp [hl]) (funext fun k => ?_)
  show c_up (fun k => l.getD k cJ) l.length e k = (l ++ [e]).getD k cJ
  by_cases hk : k = l.length
  · subst hk
    rw [c_up_same]
    simp
  · rw [c_up_ne _ _ hk]
    rcases Nat.lt_or_ge k l.length with h | h
    · simp [List.getD_eq_getElem?_getD, List.getElem?_append_left h]
    · have h2 : l.length < k := by omega
      simp [List.getD_eq_getElem?_getD, List.getElem?_eq_none (show l.length ≤ k by omega), List.getElem?_eq_none (show (l ++ [e]).length ≤ k by simp; omega)]
section HB
variable {α β : Type} {l r : List cE}
theorem hb_at {i : Nat} {e : cE} (h : r[i]? = some e) : (hb l r).2 (l.length + i) = e := by
  show (l ++ r).getD (l.length + i) cJ = e
  rw [List.getD_eq_getElem?_getD, List.getElem?_append_right (by omega), Nat.add_sub_cancel_left, h]
  rfl
theorem b_new {ci : Nat} {fs : List Value} {K : Nat → MM α} : m_new ci fs K (hb l r) = K (l.length + r.length) (hb l (r ++ [.inr (ci, fs)])) := by
  show K (l ++ r).length ((l ++ r).length + 1, c_up (hl (l ++ r)).2 (l ++ r).length _) = _
  rw [hl_push, List.length_append, List.append_assoc]
  rfl
theorem b_na {t n : Nat} {K : Nat → MM α} : m_na t n K (hb l r) = K (l.length + r.length) (hb l (r ++ [.inl (t, n, .inl (fun _ => 0))])) := by
  show K (l ++ r).length ((l ++ r).length + 1, c_up (hl (l ++ r)).2 (l ++ r).length _) = _
  rw [hl_push, List.length_append, List.append_assoc]
  rfl
theorem b_nr {t n : Nat} {K : Nat → MM α} : m_nr t n K (hb l r) = K (l.length + r.length) (hb l (r ++ [.inl (t, n, .inr (fun _ => none))])) := by
  show K (l ++ r).length ((l ++ r).length + 1, c_up (hl (l ++ r)).2 (l ++ r).length _) = _
  rw [hl_push, List.length_append, List.append_assoc]
  rfl
theorem b_pv {a ci k : Nat} {v : Value} {K : MM α} {fs : List Value} (i : Nat) (ha : a = l.length + i) (h : r[i]? = some (.inr (ci, fs))) (hk : k < fs.length) : m_pv a ci k v K (hb l r) = K (hb l (r.set i (.inr (ci, fs.set k v)))) := by
  subst ha
  unfold m_pv
  rw [hb_at h]
  show (if ci = ci ∧ k < fs.length then _ else none) = _
  have hi : i < r.length := (List.getElem?_eq_some_iff.mp h).1
  rw [if_pos ⟨rfl, hk⟩]
  show K ((hl (l ++ r)).1, c_up (hl (l ++ r)).2 (l.length + i) _) = _
  rw [hl_up _ _ (by rw [List.length_append]; omega), List.set_append, if_neg (by omega), Nat.add_sub_cancel_left]
  rfl
theorem b_gr {a ci k x : Nat} {K : Nat → MM α} {fs : List Value} (i : Nat) (ha : a = l.length + i) (h : r[i]? = some (.inr (ci, fs))) (hf : fs[k]? = some (.ref x)) : m_gr a ci k K (hb l r) = K x (hb l r) := by
  subst ha
  unfold m_gr
  rw [hb_at h]
  show (if ci = ci then (match fs[k]? with
    | some (.ref x) => K x (hb l r)
    | _ => none) else none) = _
  rw [if_pos rfl, hf]
theorem b_sr {t a ci v N : Nat} {i9 : Int32} {K : MM α} {fs : List Value} {f : Nat → Option Nat} (i j : Nat) (ha : a = l.length + i) (hv : v = l.length + j) (h : r[i]? = some (.inl (t, N, .inr f))) (h2 : r[j]? = some (.inr (ci, fs))) (hi : ¬ (i9 < 0 ∨ N ≤ i9.toNatClampNeg)) : m_sr t a i9 v ci K (hb l r) = K (hb l (r.set i (.inl (t, N, .inr (va_up f i9.toNatClampNeg (some v)))))) := by
  subst ha
  have h2' : (hb l r).2 v = .inr (ci, fs) := by rw [hv]; exact hb_at h2
  unfold m_sr
  rw [hb_at h, h2']
  show (if t = t ∧ ci = ci ∧ ¬ (i9 < 0 ∨ N ≤ i9.toNatClampNeg) then _ else none) = _
  have hi2 : i < r.length := (List.getElem?_eq_some_iff.mp h).1
  rw [if_pos ⟨rfl, rfl, hi⟩]
  show K ((hl (l ++ r)).1, c_up (hl (l ++ r)).2 (l.length + i) _) = _
  rw [hl_up _ _ (by rw [List.length_append]; omega), List.set_append, if_neg (by omega), Nat.add_sub_cancel_left]
  rfl
theorem b_call {P : MM α} {K : α → MM β} {x : α} {σ σ' : cH} (h : P σ = some (x, σ')) : m_bind P K σ = K x σ' := by
  unfold m_bind
  rw [h]
end HB
