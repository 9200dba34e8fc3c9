/-! the constructors, run -/
theorem sh_nil {α : Type} (P : MM α) (σ : cH) : P σ = P σ := rfl
theorem d_na {α : Type} {l r : List cE} {t n : Nat} {K : Nat → MM α} (m : Nat) (r' : List cE) (hm : r.length = m) (hr : r ++ [.inl (t, n, .inl (fun _ => 0))] = r') : m_na t n K (hb l r) = K (l.length + m) (hb l r') := by rw [b_na, hm, hr]
theorem d_nr {α : Type} {l r : List cE} {t n : Nat} {K : Nat → MM α} (m : Nat) (r' : List cE) (hm : r.length = m) (hr : r ++ [.inl (t, n, .inr (fun _ => none))] = r') : m_nr t n K (hb l r) = K (l.length + m) (hb l r') := by rw [b_nr, hm, hr]
theorem d_pv {α : Type} {l r : List cE} {a ci k : Nat} {v : Value} {K : MM α} {fs : List Value} (r' : List cE) (i : Nat) (ha : a = l.length + i) (h : r[i]? = some (.inr (ci, fs))) (hk : k < fs.length) (hr : r.set i (.inr (ci, fs.set k v)) = r') : m_pv a ci k v K (hb l r) = K (hb l r') := by rw [b_pv i ha h hk, hr]
theorem d_sr {α : Type} {l r : List cE} {t a ci v N : Nat} {i9 : Int32} {K : MM α} {fs : List Value} {f : Nat → Option Nat} (r' : List cE) (i j : Nat) (ha : a = l.length + i) (hv : v = l.length + j) (h : r[i]? = some (.inl (t, N, .inr f))) (h2 : r[j]? = some (.inr (ci, fs))) (hi : ¬ (i9 < 0 ∨ N ≤ i9.toNatClampNeg)) (hr : r.set i (.inl (t, N, .inr (va_up f i9.toNatClampNeg (some v)))) = r') : m_sr t a i9 v ci K (hb l r) = K (hb l r') := by rw [b_sr i j ha hv h h2 hi, hr]
/-- a part is made by its own constructor -/
theorem d_sub {α : Type} {l r : List cE} {ci : Nat} {fs : List Value} {F : Nat → MM Unit} {ck : Nat → List cE} {K : Nat → MM α} (m : Nat) (hP : ∀ l : List cE, F (l.length + 0) (hb l [.inr (ci, fs)]) = some ((), hb l (ck l.length))) (hm : r.length = m) : m_new ci fs (fun a => m_bind (F a) (fun _ => K a)) (hb l r) = K (l.length + m) (hb l (r ++ ck (l.length + m))) := by
  rw [b_new]
  have e1 : hb l (r ++ [.inr (ci, fs)]) = hb (l ++ r) [.inr (ci, fs)] := by
    show hl (l ++ (r ++ _)) = hl (l ++ r ++ _)
    rw [List.append_assoc]
  have e2 : l.length + r.length = (l ++ r).length + 0 := by rw [List.length_append, Nat.add_zero]
  have e3 := hP (l ++ r)
  rw [← e2] at e3
  show m_bind (F (l.length + r.length)) (fun _ => K (l.length + r.length)) (hb l (r ++ [.inr (ci, fs)])) = _
  rw [e1, b_call e3, hm]
  have e4 : (l ++ r).length = l.length + m := by rw [List.length_append, hm]
  rw [e4]
  show K (l.length + m) (hl (l ++ r ++ _)) = K (l.length + m) (hl (l ++ (r ++ _)))
  rw [List.append_assoc]
def b_sc (n : Nat) : List cE := [.inr (5, [.ref (n + 1), .ref (n + 2), .ref (n + 3), .ref (n + 4), .int 0, .int 0, .int 0, .int 0]), .inl (0, 8, .inl (fun _ => 0)), .inl (0, 8, .inl (fun _ => 0)), .inl (0, 8, .inl (fun _ => 0)), .inl (0, 8, .inl (fun _ => 0))]
theorem b_X5 (l : List cE) : pX5_init (l.length + 0) (hb l [.inr (5, [.null, .null, .null, .null, .int 0, .int 0, .int 0, .int 0])]) = some ((), hb l (b_sc l.length)) := by
  unfold pX5_init
  refine (d_na 1 [.inr (5, [.null, .null, .null, .null, .int 0, .int 0, .int 0, .int 0]), .inl (0, 8, .inl (fun _ => 0))] rfl rfl).trans ?_
  refine (d_pv [.inr (5, [.ref (l.length + 1), .null, .null, .null, .int 0, .int 0, .int 0, .int 0]), .inl (0, 8, .inl (fun _ => 0))] 0 rfl rfl (Nat.le_of_ble_eq_true rfl) rfl).trans ?_
  refine (d_na 2 [.inr (5, [.ref (l.length + 1), .null, .null, .null, .int 0, .int 0, .int 0, .int 0]), .inl (0, 8, .inl (fun _ => 0)), .inl (0, 8, .inl (fun _ => 0))] rfl rfl).trans ?_
  refine (d_pv [.inr (5, [.ref (l.length + 1), .ref (l.length + 2), .null, .null, .int 0, .int 0, .int 0, .int 0]), .inl (0, 8, .inl (fun _ => 0)), .inl (0, 8, .inl (fun _ => 0))] 0 rfl rfl (Nat.le_of_ble_eq_true rfl) rfl).trans ?_
  refine (d_na 3 [.inr (5, [.ref (l.length + 1), .ref (l.length + 2), .null, .null, .int 0, .int 0, .int 0, .int 0]), .inl (0, 8, .inl (fun _ => 0)), .inl (0, 8, .inl (fun _ => 0)), .inl (0, 8, .inl (fun _ => 0))] rfl rfl).trans ?_
  refine (d_pv [.inr (5, [.ref (l.length + 1), .ref (l.length + 2), .ref (l.length + 3), .null, .int 0, .int 0, .int 0, .int 0]), .inl (0, 8, .inl (fun _ => 0)), .inl (0, 8, .inl (fun _ => 0)), .inl (0, 8, .inl (fun _ => 0))] 0 rfl rfl (Nat.le_of_ble_eq_true rfl) rfl).trans ?_
  refine (d_na 4 [.inr (5, [.ref (l.length + 1), .ref (l.length + 2), .ref (l.length + 3), .null, .int 0, .int 0, .int 0, .int 0]), .inl (0, 8, .inl (fun _ => 0)), .inl (0, 8, .inl (fun _ => 0)), .inl (0, 8, .inl (fun _ => 0)), .inl (0, 8, .inl (fun _ => 0))] rfl rfl).trans ?_
  refine (d_pv [.inr (5, [.ref (l.length + 1), .ref (l.length + 2), .ref (l.length + 3), .ref (l.length + 4), .int 0, .int 0, .int 0, .int 0]), .inl (0, 8, .inl (fun _ => 0)), .inl (0, 8, .inl (fun _ => 0)), .inl (0, 8, .inl (fun _ => 0)), .inl (0, 8, .inl (fun _ => 0))] 0 rfl rfl (Nat.le_of_ble_eq_true rfl) rfl).trans ?_
  rfl
def b_tx (n : Nat) : List cE := [.inr (6, [.ref (n + 1), .int 0, .int 0, .int (-1), .int 0]), .inl (0, 240, .inl (fun _ => 0))]
theorem b_X7 (l : List cE) : pX7_init (l.length + 0) (hb l [.inr (6, [.null, .int 0, .int 0, .int 0, .int 0])]) = some ((), hb l (b_tx l.length)) := by
  unfold pX7_init
  refine (d_na 1 [.inr (6, [.null, .int 0, .int 0, .int 0, .int 0]), .inl (0, 240, .inl (fun _ => 0))] rfl rfl).trans ?_
  refine (d_pv [.inr (6, [.ref (l.length + 1), .int 0, .int 0, .int 0, .int 0]), .inl (0, 240, .inl (fun _ => 0))] 0 rfl rfl (Nat.le_of_ble_eq_true rfl) rfl).trans ?_
  refine (d_pv [.inr (6, [.ref (l.length + 1), .int 0, .int 0, .int (-1), .int 0]), .inl (0, 240, .inl (fun _ => 0))] 0 rfl rfl (Nat.le_of_ble_eq_true rfl) rfl).trans ?_
  rfl
def b_bk (n : Nat) : List cE := [.inr (0, [.ref (n + 1), .ref (n + 2), .int 0]), .inl (0, 15, .inl (fun _ => 0)), .inl (0, 15, .inl (fun _ => 0))]
theorem b_X0 (l : List cE) : pX0_init (l.length + 0) (hb l [.inr (0, [.null, .null, .int 0])]) = some ((), hb l (b_bk l.length)) := by
  unfold pX0_init
  refine (d_na 1 [.inr (0, [.null, .null, .int 0]), .inl (0, 15, .inl (fun _ => 0))] rfl rfl).trans ?_
  refine (d_pv [.inr (0, [.ref (l.length + 1), .null, .int 0]), .inl (0, 15, .inl (fun _ => 0))] 0 rfl rfl (Nat.le_of_ble_eq_true rfl) rfl).trans ?_
  refine (d_na 2 [.inr (0, [.ref (l.length + 1), .null, .int 0]), .inl (0, 15, .inl (fun _ => 0)), .inl (0, 15, .inl (fun _ => 0))] rfl rfl).trans ?_
  refine (d_pv [.inr (0, [.ref (l.length + 1), .ref (l.length + 2), .int 0]), .inl (0, 15, .inl (fun _ => 0)), .inl (0, 15, .inl (fun _ => 0))] 0 rfl rfl (Nat.le_of_ble_eq_true rfl) rfl).trans ?_
  rfl
def b_mx (n : Nat) : List cE := [.inr (2, [.ref (n + 1), .ref (n + 2), .ref (n + 3), .ref (n + 4), .int 0]), .inl (0, 8, .inl (fun _ => 0)), .inl (0, 8, .inl (fun _ => 0)), .inl (0, 256, .inl (fun _ => 0)), .inl (0, 256, .inl (fun _ => 0))]
theorem b_X2 (l : List cE) : pX2_init (l.length + 0) (hb l [.inr (2, [.null, .null, .null, .null, .int 0])]) = some ((), hb l (b_mx l.length)) := by
  unfold pX2_init
  refine (d_na 1 [.inr (2, [.null, .null, .null, .null, .int 0]), .inl (0, 8, .inl (fun _ => 0))] rfl rfl).trans ?_
  refine (d_pv [.inr (2, [.ref (l.length + 1), .null, .null, .null, .int 0]), .inl (0, 8, .inl (fun _ => 0))] 0 rfl rfl (Nat.le_of_ble_eq_true rfl) rfl).trans ?_
  refine (d_na 2 [.inr (2, [.ref (l.length + 1), .null, .null, .null, .int 0]), .inl (0, 8, .inl (fun _ => 0)), .inl (0, 8, .inl (fun _ => 0))] rfl rfl).trans ?_
  refine (d_pv [.inr (2, [.ref (l.length + 1), .ref (l.length + 2), .null, .null, .int 0]), .inl (0, 8, .inl (fun _ => 0)), .inl (0, 8, .inl (fun _ => 0))] 0 rfl rfl (Nat.le_of_ble_eq_true rfl) rfl).trans ?_
  refine (d_na 3 [.inr (2, [.ref (l.length + 1), .ref (l.length + 2), .null, .null, .int 0]), .inl (0, 8, .inl (fun _ => 0)), .inl (0, 8, .inl (fun _ => 0)), .inl (0, 256, .inl (fun _ => 0))] rfl rfl).trans ?_
  refine (d_pv [.inr (2, [.ref (l.length + 1), .ref (l.length + 2), .ref (l.length + 3), .null, .int 0]), .inl (0, 8, .inl (fun _ => 0)), .inl (0, 8, .inl (fun _ => 0)), .inl (0, 256, .inl (fun _ => 0))] 0 rfl rfl (Nat.le_of_ble_eq_true rfl) rfl).trans ?_
  refine (d_na 4 [.inr (2, [.ref (l.length + 1), .ref (l.length + 2), .ref (l.length + 3), .null, .int 0]), .inl (0, 8, .inl (fun _ => 0)), .inl (0, 8, .inl (fun _ => 0)), .inl (0, 256, .inl (fun _ => 0)), .inl (0, 256, .inl (fun _ => 0))] rfl rfl).trans ?_
  refine (d_pv [.inr (2, [.ref (l.length + 1), .ref (l.length + 2), .ref (l.length + 3), .ref (l.length + 4), .int 0]), .inl (0, 8, .inl (fun _ => 0)), .inl (0, 8, .inl (fun _ => 0)), .inl (0, 256, .inl (fun _ => 0)), .inl (0, 256, .inl (fun _ => 0))] 0 rfl rfl (Nat.le_of_ble_eq_true rfl) rfl).trans ?_
  rfl
def b_rl (n : Nat) : List cE := [.inr (4, [.ref (n + 1), .ref (n + 2), .ref (n + 3), .ref (n + 4), .ref (n + 5), .int 0, .int 0, .int 0, .int 0, .int 0, .int 0]), .inl (0, 7, .inl (fun _ => 0)), .inl (0, 8, .inl (fun _ => 0)), .inl (0, 8, .inl (fun _ => 0)), .inl (0, 8, .inl (fun _ => 0)), .inl (0, 128, .inl (fun _ => 0))]
theorem b_X4 (l : List cE) : pX4_init (l.length + 0) (hb l [.inr (4, [.null, .null, .null, .null, .null, .int 0, .int 0, .int 0, .int 0, .int 0, .int 0])]) = some ((), hb l (b_rl l.length)) := by
  unfold pX4_init
  refine (d_na 1 [.inr (4, [.null, .null, .null, .null, .null, .int 0, .int 0, .int 0, .int 0, .int 0, .int 0]), .inl (0, 7, .inl (fun _ => 0))] rfl rfl).trans ?_
  refine (d_pv [.inr (4, [.ref (l.length + 1), .null, .null, .null, .null, .int 0, .int 0, .int 0, .int 0, .int 0, .int 0]), .inl (0, 7, .inl (fun _ => 0))] 0 rfl rfl (Nat.le_of_ble_eq_true rfl) rfl).trans ?_
  refine (d_na 2 [.inr (4, [.ref (l.length + 1), .null, .null, .null, .null, .int 0, .int 0, .int 0, .int 0, .int 0, .int 0]), .inl (0, 7, .inl (fun _ => 0)), .inl (0, 8, .inl (fun _ => 0))] rfl rfl).trans ?_
  refine (d_pv [.inr (4, [.ref (l.length + 1), .ref (l.length + 2), .null, .null, .null, .int 0, .int 0, .int 0, .int 0, .int 0, .int 0]), .inl (0, 7, .inl (fun _ => 0)), .inl (0, 8, .inl (fun _ => 0))] 0 rfl rfl (Nat.le_of_ble_eq_true rfl) rfl).trans ?_
  refine (d_na 3 [.inr (4, [.ref (l.length + 1), .ref (l.length + 2), .null, .null, .null, .int 0, .int 0, .int 0, .int 0, .int 0, .int 0]), .inl (0, 7, .inl (fun _ => 0)), .inl (0, 8, .inl (fun _ => 0)), .inl (0, 8, .inl (fun _ => 0))] rfl rfl).trans ?_
  refine (d_pv [.inr (4, [.ref (l.length + 1), .ref (l.length + 2), .ref (l.length + 3), .null, .null, .int 0, .int 0, .int 0, .int 0, .int 0, .int 0]), .inl (0, 7, .inl (fun _ => 0)), .inl (0, 8, .inl (fun _ => 0)), .inl (0, 8, .inl (fun _ => 0))] 0 rfl rfl (Nat.le_of_ble_eq_true rfl) rfl).trans ?_
  refine (d_na 4 [.inr (4, [.ref (l.length + 1), .ref (l.length + 2), .ref (l.length + 3), .null, .null, .int 0, .int 0, .int 0, .int 0, .int 0, .int 0]), .inl (0, 7, .inl (fun _ => 0)), .inl (0, 8, .inl (fun _ => 0)), .inl (0, 8, .inl (fun _ => 0)), .inl (0, 8, .inl (fun _ => 0))] rfl rfl).trans ?_
  refine (d_pv [.inr (4, [.ref (l.length + 1), .ref (l.length + 2), .ref (l.length + 3), .ref (l.length + 4), .null, .int 0, .int 0, .int 0, .int 0, .int 0, .int 0]), .inl (0, 7, .inl (fun _ => 0)), .inl (0, 8, .inl (fun _ => 0)), .inl (0, 8, .inl (fun _ => 0)), .inl (0, 8, .inl (fun _ => 0))] 0 rfl rfl (Nat.le_of_ble_eq_true rfl) rfl).trans ?_
  refine (d_na 5 [.inr (4, [.ref (l.length + 1), .ref (l.length + 2), .ref (l.length + 3), .ref (l.length + 4), .null, .int 0, .int 0, .int 0, .int 0, .int 0, .int 0]), .inl (0, 7, .inl (fun _ => 0)), .inl (0, 8, .inl (fun _ => 0)), .inl (0, 8, .inl (fun _ => 0)), .inl (0, 8, .inl (fun _ => 0)), .inl (0, 128, .inl (fun _ => 0))] rfl rfl).trans ?_
  refine (d_pv [.inr (4, [.ref (l.length + 1), .ref (l.length + 2), .ref (l.length + 3), .ref (l.length + 4), .ref (l.length + 5), .int 0, .int 0, .int 0, .int 0, .int 0, .int 0]), .inl (0, 7, .inl (fun _ => 0)), .inl (0, 8, .inl (fun _ => 0)), .inl (0, 8, .inl (fun _ => 0)), .inl (0, 8, .inl (fun _ => 0)), .inl (0, 128, .inl (fun _ => 0))] 0 rfl rfl (Nat.le_of_ble_eq_true rfl) rfl).trans ?_
  rfl
def b_md (n : Nat) : List cE := [.inr (9, [.int 0, .ref (n + 1), .int 0, .ref (n + 2), .ref (n + 3), .ref (n + 4), .int 0, .int 0, .ref (n + 5), .int 0, .ref (n + 6), .int 0, .int (-1), .int 0, .int 0, .int 0, .int 0, .ref (n + 7), .int 0, .ref (n + 8), .ref (n + 9), .ref (n + 10), .int 0, .int 0, .int 0, .int 0, .ref (n + 11), .ref (n + 12), .ref (n + 13), .ref (n + 14), .ref (n + 15), .int 0, .ref (n + 16), .ref (n + 17), .ref (n + 18), .ref (n + 19)]), .inl (0, 7, .inl (fun _ => 0)), .inl (0, 8, .inl (fun _ => 0)), .inl (0, 8, .inl (fun _ => 0)), .inl (0, 8, .inl (fun _ => 0)), .inl (0, 36, .inl (fun _ => 0)), .inl (0, 240, .inl (fun _ => 0)), .inl (0, 7, .inl (fun _ => 0)), .inl (0, 8, .inl (fun _ => 0)), .inl (0, 8, .inl (fun _ => 0)), .inl (0, 8, .inl (fun _ => 0)), .inl (0, 576, .inl (fun _ => 0)), .inl (0, 36, .inl (fun _ => 0)), .inl (0, 256, .inl (fun _ => 0)), .inl (1, 256, .inl (fun _ => 0)), .inl (0, 2048, .inl (fun _ => 0)), .inl (0, 15, .inl (fun _ => 0)), .inl (0, 15, .inl (fun _ => 0)), .inl (0, 74, .inl (fun _ => 0)), .inl (1, 2, .inl (fun _ => 0))]
theorem b_X10 (l : List cE) : pX10_init (l.length + 0) (hb l [.inr (9, [.int 0, .null, .int 0, .null, .null, .null, .int 0, .int 0, .null, .int 0, .null, .int 0, .int 0, .int 0, .int 0, .int 0, .int 0, .null, .int 0, .null, .null, .null, .int 0, .int 0, .int 0, .int 0, .null, .null, .null, .null, .null, .int 0, .null, .null, .null, .null])]) = some ((), hb l (b_md l.length)) := by
  unfold pX10_init
  refine (d_na 1 [.inr (9, [.int 0, .null, .int 0, .null, .null, .null, .int 0, .int 0, .null, .int 0, .null, .int 0, .int 0, .int 0, .int 0, .int 0, .int 0, .null, .int 0, .null, .null, .null, .int 0, .int 0, .int 0, .int 0, .null, .null, .null, .null, .null, .int 0, .null, .null, .null, .null]), .inl (0, 7, .inl (fun _ => 0))] rfl rfl).trans ?_
  refine (d_pv [.inr (9, [.int 0, .ref (l.length + 1), .int 0, .null, .null, .null, .int 0, .int 0, .null, .int 0, .null, .int 0, .int 0, .int 0, .int 0, .int 0, .int 0, .null, .int 0, .null, .null, .null, .int 0, .int 0, .int 0, .int 0, .null, .null, .null, .null, .null, .int 0, .null, .null, .null, .null]), .inl (0, 7, .inl (fun _ => 0))] 0 rfl rfl (Nat.le_of_ble_eq_true rfl) rfl).trans ?_
  refine (d_na 2 [.inr (9, [.int 0, .ref (l.length + 1), .int 0, .null, .null, .null, .int 0, .int 0, .null, .int 0, .null, .int 0, .int 0, .int 0, .int 0, .int 0, .int 0, .null, .int 0, .null, .null, .null, .int 0, .int 0, .int 0, .int 0, .null, .null, .null, .null, .null, .int 0, .null, .null, .null, .null]), .inl (0, 7, .inl (fun _ => 0)), .inl (0, 8, .inl (fun _ => 0))] rfl rfl).trans ?_
  refine (d_pv [.inr (9, [.int 0, .ref (l.length + 1), .int 0, .ref (l.length + 2), .null, .null, .int 0, .int 0, .null, .int 0, .null, .int 0, .int 0, .int 0, .int 0, .int 0, .int 0, .null, .int 0, .null, .null, .null, .int 0, .int 0, .int 0, .int 0, .null, .null, .null, .null, .null, .int 0, .null, .null, .null, .null]), .inl (0, 7, .inl (fun _ => 0)), .inl (0, 8, .inl (fun _ => 0))] 0 rfl rfl (Nat.le_of_ble_eq_true rfl) rfl).trans ?_
  refine (d_na 3 [.inr (9, [.int 0, .ref (l.length + 1), .int 0, .ref (l.length + 2), .null, .null, .int 0, .int 0, .null, .int 0, .null, .int 0, .int 0, .int 0, .int 0, .int 0, .int 0, .null, .int 0, .null, .null, .null, .int 0, .int 0, .int 0, .int 0, .null, .null, .null, .null, .null, .int 0, .null, .null, .null, .null]), .inl (0, 7, .inl (fun _ => 0)), .inl (0, 8, .inl (fun _ => 0)), .inl (0, 8, .inl (fun _ => 0))] rfl rfl).trans ?_
  refine (d_pv [.inr (9, [.int 0, .ref (l.length + 1), .int 0, .ref (l.length + 2), .ref (l.length + 3), .null, .int 0, .int 0, .null, .int 0, .null, .int 0, .int 0, .int 0, .int 0, .int 0, .int 0, .null, .int 0, .null, .null, .null, .int 0, .int 0, .int 0, .int 0, .null, .null, .null, .null, .null, .int 0, .null, .null, .null, .null]), .inl (0, 7, .inl (fun _ => 0)), .inl (0, 8, .inl (fun _ => 0)), .inl (0, 8, .inl (fun _ => 0))] 0 rfl rfl (Nat.le_of_ble_eq_true rfl) rfl).trans ?_
  refine (d_na 4 [.inr (9, [.int 0, .ref (l.length + 1), .int 0, .ref (l.length + 2), .ref (l.length + 3), .null, .int 0, .int 0, .null, .int 0, .null, .int 0, .int 0, .int 0, .int 0, .int 0, .int 0, .null, .int 0, .null, .null, .null, .int 0, .int 0, .int 0, .int 0, .null, .null, .null, .null, .null, .int 0, .null, .null, .null, .null]), .inl (0, 7, .inl (fun _ => 0)), .inl (0, 8, .inl (fun _ => 0)), .inl (0, 8, .inl (fun _ => 0)), .inl (0, 8, .inl (fun _ => 0))] rfl rfl).trans ?_
  refine (d_pv [.inr (9, [.int 0, .ref (l.length + 1), .int 0, .ref (l.length + 2), .ref (l.length + 3), .ref (l.length + 4), .int 0, .int 0, .null, .int 0, .null, .int 0, .int 0, .int 0, .int 0, .int 0, .int 0, .null, .int 0, .null, .null, .null, .int 0, .int 0, .int 0, .int 0, .null, .null, .null, .null, .null, .int 0, .null, .null, .null, .null]), .inl (0, 7, .inl (fun _ => 0)), .inl (0, 8, .inl (fun _ => 0)), .inl (0, 8, .inl (fun _ => 0)), .inl (0, 8, .inl (fun _ => 0))] 0 rfl rfl (Nat.le_of_ble_eq_true rfl) rfl).trans ?_
  refine (d_na 5 [.inr (9, [.int 0, .ref (l.length + 1), .int 0, .ref (l.length + 2), .ref (l.length + 3), .ref (l.length + 4), .int 0, .int 0, .null, .int 0, .null, .int 0, .int 0, .int 0, .int 0, .int 0, .int 0, .null, .int 0, .null, .null, .null, .int 0, .int 0, .int 0, .int 0, .null, .null, .null, .null, .null, .int 0, .null, .null, .null, .null]), .inl (0, 7, .inl (fun _ => 0)), .inl (0, 8, .inl (fun _ => 0)), .inl (0, 8, .inl (fun _ => 0)), .inl (0, 8, .inl (fun _ => 0)), .inl (0, 36, .inl (fun _ => 0))] rfl rfl).trans ?_
  refine (d_pv [.inr (9, [.int 0, .ref (l.length + 1), .int 0, .ref (l.length + 2), .ref (l.length + 3), .ref (l.length + 4), .int 0, .int 0, .ref (l.length + 5), .int 0, .null, .int 0, .int 0, .int 0, .int 0, .int 0, .int 0, .null, .int 0, .null, .null, .null, .int 0, .int 0, .int 0, .int 0, .null, .null, .null, .null, .null, .int 0, .null, .null, .null, .null]), .inl (0, 7, .inl (fun _ => 0)), .inl (0, 8, .inl (fun _ => 0)), .inl (0, 8, .inl (fun _ => 0)), .inl (0, 8, .inl (fun _ => 0)), .inl (0, 36, .inl (fun _ => 0))] 0 rfl rfl (Nat.le_of_ble_eq_true rfl) rfl).trans ?_
  refine (d_na 6 [.inr (9, [.int 0, .ref (l.length + 1), .int 0, .ref (l.length + 2), .ref (l.length + 3), .ref (l.length + 4), .int 0, .int 0, .ref (l.length + 5), .int 0, .null, .int 0, .int 0, .int 0, .int 0, .int 0, .int 0, .null, .int 0, .null, .null, .null, .int 0, .int 0, .int 0, .int 0, .null, .null, .null, .null, .null, .int 0, .null, .null, .null, .null]), .inl (0, 7, .inl (fun _ => 0)), .inl (0, 8, .inl (fun _ => 0)), .inl (0, 8, .inl (fun _ => 0)), .inl (0, 8, .inl (fun _ => 0)), .inl (0, 36, .inl (fun _ => 0)), .inl (0, 240, .inl (fun _ => 0))] rfl rfl).trans ?_
  refine (d_pv [.inr (9, [.int 0, .ref (l.length + 1), .int 0, .ref (l.length + 2), .ref (l.length + 3), .ref (l.length + 4), .int 0, .int 0, .ref (l.length + 5), .int 0, .ref (l.length + 6), .int 0, .int 0, .int 0, .int 0, .int 0, .int 0, .null, .int 0, .null, .null, .null, .int 0, .int 0, .int 0, .int 0, .null, .null, .null, .null, .null, .int 0, .null, .null, .null, .null]), .inl (0, 7, .inl (fun _ => 0)), .inl (0, 8, .inl (fun _ => 0)), .inl (0, 8, .inl (fun _ => 0)), .inl (0, 8, .inl (fun _ => 0)), .inl (0, 36, .inl (fun _ => 0)), .inl (0, 240, .inl (fun _ => 0))] 0 rfl rfl (Nat.le_of_ble_eq_true rfl) rfl).trans ?_
  refine (d_pv [.inr (9, [.int 0, .ref (l.length + 1), .int 0, .ref (l.length + 2), .ref (l.length + 3), .ref (l.length + 4), .int 0, .int 0, .ref (l.length + 5), .int 0, .ref (l.length + 6), .int 0, .int (-1), .int 0, .int 0, .int 0, .int 0, .null, .int 0, .null, .null, .null, .int 0, .int 0, .int 0, .int 0, .null, .null, .null, .null, .null, .int 0, .null, .null, .null, .null]), .inl (0, 7, .inl (fun _ => 0)), .inl (0, 8, .inl (fun _ => 0)), .inl (0, 8, .inl (fun _ => 0)), .inl (0, 8, .inl (fun _ => 0)), .inl (0, 36, .inl (fun _ => 0)), .inl (0, 240, .inl (fun _ => 0))] 0 rfl rfl (Nat.le_of_ble_eq_true rfl) rfl).trans ?_
  refine (d_na 7 [.inr (9, [.int 0, .ref (l.length + 1), .int 0, .ref (l.length + 2), .ref (l.length + 3), .ref (l.length + 4), .int 0, .int 0, .ref (l.length + 5), .int 0, .ref (l.length + 6), .int 0, .int (-1), .int 0, .int 0, .int 0, .int 0, .null, .int 0, .null, .null, .null, .int 0, .int 0, .int 0, .int 0, .null, .null, .null, .null, .null, .int 0, .null, .null, .null, .null]), .inl (0, 7, .inl (fun _ => 0)), .inl (0, 8, .inl (fun _ => 0)), .inl (0, 8, .inl (fun _ => 0)), .inl (0, 8, .inl (fun _ => 0)), .inl (0, 36, .inl (fun _ => 0)), .inl (0, 240, .inl (fun _ => 0)), .inl (0, 7, .inl (fun _ => 0))] rfl rfl).trans ?_
  refine (d_pv [.inr (9, [.int 0, .ref (l.length + 1), .int 0, .ref (l.length + 2), .ref (l.length + 3), .ref (l.length + 4), .int 0, .int 0, .ref (l.length + 5), .int 0, .ref (l.length + 6), .int 0, .int (-1), .int 0, .int 0, .int 0, .int 0, .ref (l.length + 7), .int 0, .null, .null, .null, .int 0, .int 0, .int 0, .int 0, .null, .null, .null, .null, .null, .int 0, .null, .null, .null, .null]), .inl (0, 7, .inl (fun _ => 0)), .inl (0, 8, .inl (fun _ => 0)), .inl (0, 8, .inl (fun _ => 0)), .inl (0, 8, .inl (fun _ => 0)), .inl (0, 36, .inl (fun _ => 0)), .inl (0, 240, .inl (fun _ => 0)), .inl (0, 7, .inl (fun _ => 0))] 0 rfl rfl (Nat.le_of_ble_eq_true rfl) rfl).trans ?_
  refine (d_na 8 [.inr (9, [.int 0, .ref (l.length + 1), .int 0, .ref (l.length + 2), .ref (l.length + 3), .ref (l.length + 4), .int 0, .int 0, .ref (l.length + 5), .int 0, .ref (l.length + 6), .int 0, .int (-1), .int 0, .int 0, .int 0, .int 0, .ref (l.length + 7), .int 0, .null, .null, .null, .int 0, .int 0, .int 0, .int 0, .null, .null, .null, .null, .null, .int 0, .null, .null, .null, .null]), .inl (0, 7, .inl (fun _ => 0)), .inl (0, 8, .inl (fun _ => 0)), .inl (0, 8, .inl (fun _ => 0)), .inl (0, 8, .inl (fun _ => 0)), .inl (0, 36, .inl (fun _ => 0)), .inl (0, 240, .inl (fun _ => 0)), .inl (0, 7, .inl (fun _ => 0)), .inl (0, 8, .inl (fun _ => 0))] rfl rfl).trans ?_
  refine (d_pv [.inr (9, [.int 0, .ref (l.length + 1), .int 0, .ref (l.length + 2), .ref (l.length + 3), .ref (l.length + 4), .int 0, .int 0, .ref (l.length + 5), .int 0, .ref (l.length + 6), .int 0, .int (-1), .int 0, .int 0, .int 0, .int 0, .ref (l.length + 7), .int 0, .ref (l.length + 8), .null, .null, .int 0, .int 0, .int 0, .int 0, .null, .null, .null, .null, .null, .int 0, .null, .null, .null, .null]), .inl (0, 7, .inl (fun _ => 0)), .inl (0, 8, .inl (fun _ => 0)), .inl (0, 8, .inl (fun _ => 0)), .inl (0, 8, .inl (fun _ => 0)), .inl (0, 36, .inl (fun _ => 0)), .inl (0, 240, .inl (fun _ => 0)), .inl (0, 7, .inl (fun _ => 0)), .inl (0, 8, .inl (fun _ => 0))] 0 rfl rfl (Nat.le_of_ble_eq_true rfl) rfl).trans ?_
  refine (d_na 9 [.inr (9, [.int 0, .ref (l.length + 1), .int 0, .ref (l.length + 2), .ref (l.length + 3), .ref (l.length + 4), .int 0, .int 0, .ref (l.length + 5), .int 0, .ref (l.length + 6), .int 0, .int (-1), .int 0, .int 0, .int 0, .int 0, .ref (l.length + 7), .int 0, .ref (l.length + 8), .null, .null, .int 0, .int 0, .int 0, .int 0, .null, .null, .null, .null, .null, .int 0, .null, .null, .null, .null]), .inl (0, 7, .inl (fun _ => 0)), .inl (0, 8, .inl (fun _ => 0)), .inl (0, 8, .inl (fun _ => 0)), .inl (0, 8, .inl (fun _ => 0)), .inl (0, 36, .inl (fun _ => 0)), .inl (0, 240, .inl (fun _ => 0)), .inl (0, 7, .inl (fun _ => 0)), .inl (0, 8, .inl (fun _ => 0)), .inl (0, 8, .inl (fun _ => 0))] rfl rfl).trans ?_
  refine (d_pv [.inr (9, [.int 0, .ref (l.length + 1), .int 0, .ref (l.length + 2), .ref (l.length + 3), .ref (l.length + 4), .int 0, .int 0, .ref (l.length + 5), .int 0, .ref (l.length + 6), .int 0, .int (-1), .int 0, .int 0, .int 0, .int 0, .ref (l.length + 7), .int 0, .ref (l.length + 8), .ref (l.length + 9), .null, .int 0, .int 0, .int 0, .int 0, .null, .null, .null, .null, .null, .int 0, .null, .null, .null, .null]), .inl (0, 7, .inl (fun _ => 0)), .inl (0, 8, .inl (fun _ => 0)), .inl (0, 8, .inl (fun _ => 0)), .inl (0, 8, .inl (fun _ => 0)), .inl (0, 36, .inl (fun _ => 0)), .inl (0, 240, .inl (fun _ => 0)), .inl (0, 7, .inl (fun _ => 0)), .inl (0, 8, .inl (fun _ => 0)), .inl (0, 8, .inl (fun _ => 0))] 0 rfl rfl (Nat.le_of_ble_eq_true rfl) rfl).trans ?_
  refine (d_na 10 [.inr (9, [.int 0, .ref (l.length + 1), .int 0, .ref (l.length + 2), .ref (l.length + 3), .ref (l.length + 4), .int 0, .int 0, .ref (l.length + 5), .int 0, .ref (l.length + 6), .int 0, .int (-1), .int 0, .int 0, .int 0, .int 0, .ref (l.length + 7), .int 0, .ref (l.length + 8), .ref (l.length + 9), .null, .int 0, .int 0, .int 0, .int 0, .null, .null, .null, .null, .null, .int 0, .null, .null, .null, .null]), .inl (0, 7, .inl (fun _ => 0)), .inl (0, 8, .inl (fun _ => 0)), .inl (0, 8, .inl (fun _ => 0)), .inl (0, 8, .inl (fun _ => 0)), .inl (0, 36, .inl (fun _ => 0)), .inl (0, 240, .inl (fun _ => 0)), .inl (0, 7, .inl (fun _ => 0)), .inl (0, 8, .inl (fun _ => 0)), .inl (0, 8, .inl (fun _ => 0)), .inl (0, 8, .inl (fun _ => 0))] rfl rfl).trans ?_
  refine (d_pv [.inr (9, [.int 0, .ref (l.length + 1), .int 0, .ref (l.length + 2), .ref (l.length + 3), .ref (l.length + 4), .int 0, .int 0, .ref (l.length + 5), .int 0, .ref (l.length + 6), .int 0, .int (-1), .int 0, .int 0, .int 0, .int 0, .ref (l.length + 7), .int 0, .ref (l.length + 8), .ref (l.length + 9), .ref (l.length + 10), .int 0, .int 0, .int 0, .int 0, .null, .null, .null, .null, .null, .int 0, .null, .null, .null, .null]), .inl (0, 7, .inl (fun _ => 0)), .inl (0, 8, .inl (fun _ => 0)), .inl (0, 8, .inl (fun _ => 0)), .inl (0, 8, .inl (fun _ => 0)), .inl (0, 36, .inl (fun _ => 0)), .inl (0, 240, .inl (fun _ => 0)), .inl (0, 7, .inl (fun _ => 0)), .inl (0, 8, .inl (fun _ => 0)), .inl (0, 8, .inl (fun _ => 0)), .inl (0, 8, .inl (fun _ => 0))] 0 rfl rfl (Nat.le_of_ble_eq_true rfl) rfl).trans ?_
  refine (d_na 11 [.inr (9, [.int 0, .ref (l.length + 1), .int 0, .ref (l.length + 2), .ref (l.length + 3), .ref (l.length + 4), .int 0, .int 0, .ref (l.length + 5), .int 0, .ref (l.length + 6), .int 0, .int (-1), .int 0, .int 0, .int 0, .int 0, .ref (l.length + 7), .int 0, .ref (l.length + 8), .ref (l.length + 9), .ref (l.length + 10), .int 0, .int 0, .int 0, .int 0, .null, .null, .null, .null, .null, .int 0, .null, .null, .null, .null]), .inl (0, 7, .inl (fun _ => 0)), .inl (0, 8, .inl (fun _ => 0)), .inl (0, 8, .inl (fun _ => 0)), .inl (0, 8, .inl (fun _ => 0)), .inl (0, 36, .inl (fun _ => 0)), .inl (0, 240, .inl (fun _ => 0)), .inl (0, 7, .inl (fun _ => 0)), .inl (0, 8, .inl (fun _ => 0)), .inl (0, 8, .inl (fun _ => 0)), .inl (0, 8, .inl (fun _ => 0)), .inl (0, 576, .inl (fun _ => 0))] rfl rfl).trans ?_
  refine (d_pv [.inr (9, [.int 0, .ref (l.length + 1), .int 0, .ref (l.length + 2), .ref (l.length + 3), .ref (l.length + 4), .int 0, .int 0, .ref (l.length + 5), .int 0, .ref (l.length + 6), .int 0, .int (-1), .int 0, .int 0, .int 0, .int 0, .ref (l.length + 7), .int 0, .ref (l.length + 8), .ref (l.length + 9), .ref (l.length + 10), .int 0, .int 0, .int 0, .int 0, .ref (l.length + 11), .null, .null, .null, .null, .int 0, .null, .null, .null, .null]), .inl (0, 7, .inl (fun _ => 0)), .inl (0, 8, .inl (fun _ => 0)), .inl (0, 8, .inl (fun _ => 0)), .inl (0, 8, .inl (fun _ => 0)), .inl (0, 36, .inl (fun _ => 0)), .inl (0, 240, .inl (fun _ => 0)), .inl (0, 7, .inl (fun _ => 0)), .inl (0, 8, .inl (fun _ => 0)), .inl (0, 8, .inl (fun _ => 0)), .inl (0, 8, .inl (fun _ => 0)), .inl (0, 576, .inl (fun _ => 0))] 0 rfl rfl (Nat.le_of_ble_eq_true rfl) rfl).trans ?_
  refine (d_na 12 [.inr (9, [.int 0, .ref (l.length + 1), .int 0, .ref (l.length + 2), .ref (l.length + 3), .ref (l.length + 4), .int 0, .int 0, .ref (l.length + 5), .int 0, .ref (l.length + 6), .int 0, .int (-1), .int 0, .int 0, .int 0, .int 0, .ref (l.length + 7), .int 0, .ref (l.length + 8), .ref (l.length + 9), .ref (l.length + 10), .int 0, .int 0, .int 0, .int 0, .ref (l.length + 11), .null, .null, .null, .null, .int 0, .null, .null, .null, .null]), .inl (0, 7, .inl (fun _ => 0)), .inl (0, 8, .inl (fun _ => 0)), .inl (0, 8, .inl (fun _ => 0)), .inl (0, 8, .inl (fun _ => 0)), .inl (0, 36, .inl (fun _ => 0)), .inl (0, 240, .inl (fun _ => 0)), .inl (0, 7, .inl (fun _ => 0)), .inl (0, 8, .inl (fun _ => 0)), .inl (0, 8, .inl (fun _ => 0)), .inl (0, 8, .inl (fun _ => 0)), .inl (0, 576, .inl (fun _ => 0)), .inl (0, 36, .inl (fun _ => 0))] rfl rfl).trans ?_
  refine (d_pv [.inr (9, [.int 0, .ref (l.length + 1), .int 0, .ref (l.length + 2), .ref (l.length + 3), .ref (l.length + 4), .int 0, .int 0, .ref (l.length + 5), .int 0, .ref (l.length + 6), .int 0, .int (-1), .int 0, .int 0, .int 0, .int 0, .ref (l.length + 7), .int 0, .ref (l.length + 8), .ref (l.length + 9), .ref (l.length + 10), .int 0, .int 0, .int 0, .int 0, .ref (l.length + 11), .ref (l.length + 12), .null, .null, .null, .int 0, .null, .null, .null, .null]), .inl (0, 7, .inl (fun _ => 0)), .inl (0, 8, .inl (fun _ => 0)), .inl (0, 8, .inl (fun _ => 0)), .inl (0, 8, .inl (fun _ => 0)), .inl (0, 36, .inl (fun _ => 0)), .inl (0, 240, .inl (fun _ => 0)), .inl (0, 7, .inl (fun _ => 0)), .inl (0, 8, .inl (fun _ => 0)), .inl (0, 8, .inl (fun _ => 0)), .inl (0, 8, .inl (fun _ => 0)), .inl (0, 576, .inl (fun _ => 0)), .inl (0, 36, .inl (fun _ => 0))] 0 rfl rfl (Nat.le_of_ble_eq_true rfl) rfl).trans ?_
  refine (d_na 13 [.inr (9, [.int 0, .ref (l.length + 1), .int 0, .ref (l.length + 2), .ref (l.length + 3), .ref (l.length + 4), .int 0, .int 0, .ref (l.length + 5), .int 0, .ref (l.length + 6), .int 0, .int (-1), .int 0, .int 0, .int 0, .int 0, .ref (l.length + 7), .int 0, .ref (l.length + 8), .ref (l.length + 9), .ref (l.length + 10), .int 0, .int 0, .int 0, .int 0, .ref (l.length + 11), .ref (l.length + 12), .null, .null, .null, .int 0, .null, .null, .null, .null]), .inl (0, 7, .inl (fun _ => 0)), .inl (0, 8, .inl (fun _ => 0)), .inl (0, 8, .inl (fun _ => 0)), .inl (0, 8, .inl (fun _ => 0)), .inl (0, 36, .inl (fun _ => 0)), .inl (0, 240, .inl (fun _ => 0)), .inl (0, 7, .inl (fun _ => 0)), .inl (0, 8, .inl (fun _ => 0)), .inl (0, 8, .inl (fun _ => 0)), .inl (0, 8, .inl (fun _ => 0)), .inl (0, 576, .inl (fun _ => 0)), .inl (0, 36, .inl (fun _ => 0)), .inl (0, 256, .inl (fun _ => 0))] rfl rfl).trans ?_
  refine (d_pv [.inr (9, [.int 0, .ref (l.length + 1), .int 0, .ref (l.length + 2), .ref (l.length + 3), .ref (l.length + 4), .int 0, .int 0, .ref (l.length + 5), .int 0, .ref (l.length + 6), .int 0, .int (-1), .int 0, .int 0, .int 0, .int 0, .ref (l.length + 7), .int 0, .ref (l.length + 8), .ref (l.length + 9), .ref (l.length + 10), .int 0, .int 0, .int 0, .int 0, .ref (l.length + 11), .ref (l.length + 12), .ref (l.length + 13), .null, .null, .int 0, .null, .null, .null, .null]), .inl (0, 7, .inl (fun _ => 0)), .inl (0, 8, .inl (fun _ => 0)), .inl (0, 8, .inl (fun _ => 0)), .inl (0, 8, .inl (fun _ => 0)), .inl (0, 36, .inl (fun _ => 0)), .inl (0, 240, .inl (fun _ => 0)), .inl (0, 7, .inl (fun _ => 0)), .inl (0, 8, .inl (fun _ => 0)), .inl (0, 8, .inl (fun _ => 0)), .inl (0, 8, .inl (fun _ => 0)), .inl (0, 576, .inl (fun _ => 0)), .inl (0, 36, .inl (fun _ => 0)), .inl (0, 256, .inl (fun _ => 0))] 0 rfl rfl (Nat.le_of_ble_eq_true rfl) rfl).trans ?_
  refine (d_na 14 [.inr (9, [.int 0, .ref (l.length + 1), .int 0, .ref (l.length + 2), .ref (l.length + 3), .ref (l.length + 4), .int 0, .int 0, .ref (l.length + 5), .int 0, .ref (l.length + 6), .int 0, .int (-1), .int 0, .int 0, .int 0, .int 0, .ref (l.length + 7), .int 0, .ref (l.length + 8), .ref (l.length + 9), .ref (l.length + 10), .int 0, .int 0, .int 0, .int 0, .ref (l.length + 11), .ref (l.length + 12), .ref (l.length + 13), .null, .null, .int 0, .null, .null, .null, .null]), .inl (0, 7, .inl (fun _ => 0)), .inl (0, 8, .inl (fun _ => 0)), .inl (0, 8, .inl (fun _ => 0)), .inl (0, 8, .inl (fun _ => 0)), .inl (0, 36, .inl (fun _ => 0)), .inl (0, 240, .inl (fun _ => 0)), .inl (0, 7, .inl (fun _ => 0)), .inl (0, 8, .inl (fun _ => 0)), .inl (0, 8, .inl (fun _ => 0)), .inl (0, 8, .inl (fun _ => 0)), .inl (0, 576, .inl (fun _ => 0)), .inl (0, 36, .inl (fun _ => 0)), .inl (0, 256, .inl (fun _ => 0)), .inl (1, 256, .inl (fun _ => 0))] rfl rfl).trans ?_
  refine (d_pv [.inr (9, [.int 0, .ref (l.length + 1), .int 0, .ref (l.length + 2), .ref (l.length + 3), .ref (l.length + 4), .int 0, .int 0, .ref (l.length + 5), .int 0, .ref (l.length + 6), .int 0, .int (-1), .int 0, .int 0, .int 0, .int 0, .ref (l.length + 7), .int 0, .ref (l.length + 8), .ref (l.length + 9), .ref (l.length + 10), .int 0, .int 0, .int 0, .int 0, .ref (l.length + 11), .ref (l.length + 12), .ref (l.length + 13), .ref (l.length + 14), .null, .int 0, .null, .null, .null, .null]), .inl (0, 7, .inl (fun _ => 0)), .inl (0, 8, .inl (fun _ => 0)), .inl (0, 8, .inl (fun _ => 0)), .inl (0, 8, .inl (fun _ => 0)), .inl (0, 36, .inl (fun _ => 0)), .inl (0, 240, .inl (fun _ => 0)), .inl (0, 7, .inl (fun _ => 0)), .inl (0, 8, .inl (fun _ => 0)), .inl (0, 8, .inl (fun _ => 0)), .inl (0, 8, .inl (fun _ => 0)), .inl (0, 576, .inl (fun _ => 0)), .inl (0, 36, .inl (fun _ => 0)), .inl (0, 256, .inl (fun _ => 0)), .inl (1, 256, .inl (fun _ => 0))] 0 rfl rfl (Nat.le_of_ble_eq_true rfl) rfl).trans ?_
  refine (d_na 15 [.inr (9, [.int 0, .ref (l.length + 1), .int 0, .ref (l.length + 2), .ref (l.length + 3), .ref (l.length + 4), .int 0, .int 0, .ref (l.length + 5), .int 0, .ref (l.length + 6), .int 0, .int (-1), .int 0, .int 0, .int 0, .int 0, .ref (l.length + 7), .int 0, .ref (l.length + 8), .ref (l.length + 9), .ref (l.length + 10), .int 0, .int 0, .int 0, .int 0, .ref (l.length + 11), .ref (l.length + 12), .ref (l.length + 13), .ref (l.length + 14), .null, .int 0, .null, .null, .null, .null]), .inl (0, 7, .inl (fun _ => 0)), .inl (0, 8, .inl (fun _ => 0)), .inl (0, 8, .inl (fun _ => 0)), .inl (0, 8, .inl (fun _ => 0)), .inl (0, 36, .inl (fun _ => 0)), .inl (0, 240, .inl (fun _ => 0)), .inl (0, 7, .inl (fun _ => 0)), .inl (0, 8, .inl (fun _ => 0)), .inl (0, 8, .inl (fun _ => 0)), .inl (0, 8, .inl (fun _ => 0)), .inl (0, 576, .inl (fun _ => 0)), .inl (0, 36, .inl (fun _ => 0)), .inl (0, 256, .inl (fun _ => 0)), .inl (1, 256, .inl (fun _ => 0)), .inl (0, 2048, .inl (fun _ => 0))] rfl rfl).trans ?_
  refine (d_pv [.inr (9, [.int 0, .ref (l.length + 1), .int 0, .ref (l.length + 2), .ref (l.length + 3), .ref (l.length + 4), .int 0, .int 0, .ref (l.length + 5), .int 0, .ref (l.length + 6), .int 0, .int (-1), .int 0, .int 0, .int 0, .int 0, .ref (l.length + 7), .int 0, .ref (l.length + 8), .ref (l.length + 9), .ref (l.length + 10), .int 0, .int 0, .int 0, .int 0, .ref (l.length + 11), .ref (l.length + 12), .ref (l.length + 13), .ref (l.length + 14), .ref (l.length + 15), .int 0, .null, .null, .null, .null]), .inl (0, 7, .inl (fun _ => 0)), .inl (0, 8, .inl (fun _ => 0)), .inl (0, 8, .inl (fun _ => 0)), .inl (0, 8, .inl (fun _ => 0)), .inl (0, 36, .inl (fun _ => 0)), .inl (0, 240, .inl (fun _ => 0)), .inl (0, 7, .inl (fun _ => 0)), .inl (0, 8, .inl (fun _ => 0)), .inl (0, 8, .inl (fun _ => 0)), .inl (0, 8, .inl (fun _ => 0)), .inl (0, 576, .inl (fun _ => 0)), .inl (0, 36, .inl (fun _ => 0)), .inl (0, 256, .inl (fun _ => 0)), .inl (1, 256, .inl (fun _ => 0)), .inl (0, 2048, .inl (fun _ => 0))] 0 rfl rfl (Nat.le_of_ble_eq_true rfl) rfl).trans ?_
  refine (d_na 16 [.inr (9, [.int 0, .ref (l.length + 1), .int 0, .ref (l.length + 2), .ref (l.length + 3), .ref (l.length + 4), .int 0, .int 0, .ref (l.length + 5), .int 0, .ref (l.length + 6), .int 0, .int (-1), .int 0, .int 0, .int 0, .int 0, .ref (l.length + 7), .int 0, .ref (l.length + 8), .ref (l.length + 9), .ref (l.length + 10), .int 0, .int 0, .int 0, .int 0, .ref (l.length + 11), .ref (l.length + 12), .ref (l.length + 13), .ref (l.length + 14), .ref (l.length + 15), .int 0, .null, .null, .null, .null]), .inl (0, 7, .inl (fun _ => 0)), .inl (0, 8, .inl (fun _ => 0)), .inl (0, 8, .inl (fun _ => 0)), .inl (0, 8, .inl (fun _ => 0)), .inl (0, 36, .inl (fun _ => 0)), .inl (0, 240, .inl (fun _ => 0)), .inl (0, 7, .inl (fun _ => 0)), .inl (0, 8, .inl (fun _ => 0)), .inl (0, 8, .inl (fun _ => 0)), .inl (0, 8, .inl (fun _ => 0)), .inl (0, 576, .inl (fun _ => 0)), .inl (0, 36, .inl (fun _ => 0)), .inl (0, 256, .inl (fun _ => 0)), .inl (1, 256, .inl (fun _ => 0)), .inl (0, 2048, .inl (fun _ => 0)), .inl (0, 15, .inl (fun _ => 0))] rfl rfl).trans ?_
  refine (d_pv [.inr (9, [.int 0, .ref (l.length + 1), .int 0, .ref (l.length + 2), .ref (l.length + 3), .ref (l.length + 4), .int 0, .int 0, .ref (l.length + 5), .int 0, .ref (l.length + 6), .int 0, .int (-1), .int 0, .int 0, .int 0, .int 0, .ref (l.length + 7), .int 0, .ref (l.length + 8), .ref (l.length + 9), .ref (l.length + 10), .int 0, .int 0, .int 0, .int 0, .ref (l.length + 11), .ref (l.length + 12), .ref (l.length + 13), .ref (l.length + 14), .ref (l.length + 15), .int 0, .ref (l.length + 16), .null, .null, .null]), .inl (0, 7, .inl (fun _ => 0)), .inl (0, 8, .inl (fun _ => 0)), .inl (0, 8, .inl (fun _ => 0)), .inl (0, 8, .inl (fun _ => 0)), .inl (0, 36, .inl (fun _ => 0)), .inl (0, 240, .inl (fun _ => 0)), .inl (0, 7, .inl (fun _ => 0)), .inl (0, 8, .inl (fun _ => 0)), .inl (0, 8, .inl (fun _ => 0)), .inl (0, 8, .inl (fun _ => 0)), .inl (0, 576, .inl (fun _ => 0)), .inl (0, 36, .inl (fun _ => 0)), .inl (0, 256, .inl (fun _ => 0)), .inl (1, 256, .inl (fun _ => 0)), .inl (0, 2048, .inl (fun _ => 0)), .inl (0, 15, .inl (fun _ => 0))] 0 rfl rfl (Nat.le_of_ble_eq_true rfl) rfl).trans ?_
  refine (d_na 17 [.inr (9, [.int 0, .ref (l.length + 1), .int 0, .ref (l.length + 2), .ref (l.length + 3), .ref (l.length + 4), .int 0, .int 0, .ref (l.length + 5), .int 0, .ref (l.length + 6), .int 0, .int (-1), .int 0, .int 0, .int 0, .int 0, .ref (l.length + 7), .int 0, .ref (l.length + 8), .ref (l.length + 9), .ref (l.length + 10), .int 0, .int 0, .int 0, .int 0, .ref (l.length + 11), .ref (l.length + 12), .ref (l.length + 13), .ref (l.length + 14), .ref (l.length + 15), .int 0, .ref (l.length + 16), .null, .null, .null]), .inl (0, 7, .inl (fun _ => 0)), .inl (0, 8, .inl (fun _ => 0)), .inl (0, 8, .inl (fun _ => 0)), .inl (0, 8, .inl (fun _ => 0)), .inl (0, 36, .inl (fun _ => 0)), .inl (0, 240, .inl (fun _ => 0)), .inl (0, 7, .inl (fun _ => 0)), .inl (0, 8, .inl (fun _ => 0)), .inl (0, 8, .inl (fun _ => 0)), .inl (0, 8, .inl (fun _ => 0)), .inl (0, 576, .inl (fun _ => 0)), .inl (0, 36, .inl (fun _ => 0)), .inl (0, 256, .inl (fun _ => 0)), .inl (1, 256, .inl (fun _ => 0)), .inl (0, 2048, .inl (fun _ => 0)), .inl (0, 15, .inl (fun _ => 0)), .inl (0, 15, .inl (fun _ => 0))] rfl rfl).trans ?_
  refine (d_pv [.inr (9, [.int 0, .ref (l.length + 1), .int 0, .ref (l.length + 2), .ref (l.length + 3), .ref (l.length + 4), .int 0, .int 0, .ref (l.length + 5), .int 0, .ref (l.length + 6), .int 0, .int (-1), .int 0, .int 0, .int 0, .int 0, .ref (l.length + 7), .int 0, .ref (l.length + 8), .ref (l.length + 9), .ref (l.length + 10), .int 0, .int 0, .int 0, .int 0, .ref (l.length + 11), .ref (l.length + 12), .ref (l.length + 13), .ref (l.length + 14), .ref (l.length + 15), .int 0, .ref (l.length + 16), .ref (l.length + 17), .null, .null]), .inl (0, 7, .inl (fun _ => 0)), .inl (0, 8, .inl (fun _ => 0)), .inl (0, 8, .inl (fun _ => 0)), .inl (0, 8, .inl (fun _ => 0)), .inl (0, 36, .inl (fun _ => 0)), .inl (0, 240, .inl (fun _ => 0)), .inl (0, 7, .inl (fun _ => 0)), .inl (0, 8, .inl (fun _ => 0)), .inl (0, 8, .inl (fun _ => 0)), .inl (0, 8, .inl (fun _ => 0)), .inl (0, 576, .inl (fun _ => 0)), .inl (0, 36, .inl (fun _ => 0)), .inl (0, 256, .inl (fun _ => 0)), .inl (1, 256, .inl (fun _ => 0)), .inl (0, 2048, .inl (fun _ => 0)), .inl (0, 15, .inl (fun _ => 0)), .inl (0, 15, .inl (fun _ => 0))] 0 rfl rfl (Nat.le_of_ble_eq_true rfl) rfl).trans ?_
  refine (d_na 18 [.inr (9, [.int 0, .ref (l.length + 1), .int 0, .ref (l.length + 2), .ref (l.length + 3), .ref (l.length + 4), .int 0, .int 0, .ref (l.length + 5), .int 0, .ref (l.length + 6), .int 0, .int (-1), .int 0, .int 0, .int 0, .int 0, .ref (l.length + 7), .int 0, .ref (l.length + 8), .ref (l.length + 9), .ref (l.length + 10), .int 0, .int 0, .int 0, .int 0, .ref (l.length + 11), .ref (l.length + 12), .ref (l.length + 13), .ref (l.length + 14), .ref (l.length + 15), .int 0, .ref (l.length + 16), .ref (l.length + 17), .null, .null]), .inl (0, 7, .inl (fun _ => 0)), .inl (0, 8, .inl (fun _ => 0)), .inl (0, 8, .inl (fun _ => 0)), .inl (0, 8, .inl (fun _ => 0)), .inl (0, 36, .inl (fun _ => 0)), .inl (0, 240, .inl (fun _ => 0)), .inl (0, 7, .inl (fun _ => 0)), .inl (0, 8, .inl (fun _ => 0)), .inl (0, 8, .inl (fun _ => 0)), .inl (0, 8, .inl (fun _ => 0)), .inl (0, 576, .inl (fun _ => 0)), .inl (0, 36, .inl (fun _ => 0)), .inl (0, 256, .inl (fun _ => 0)), .inl (1, 256, .inl (fun _ => 0)), .inl (0, 2048, .inl (fun _ => 0)), .inl (0, 15, .inl (fun _ => 0)), .inl (0, 15, .inl (fun _ => 0)), .inl (0, 74, .inl (fun _ => 0))] rfl rfl).trans ?_
  refine (d_pv [.inr (9, [.int 0, .ref (l.length + 1), .int 0, .ref (l.length + 2), .ref (l.length + 3), .ref (l.length + 4), .int 0, .int 0, .ref (l.length + 5), .int 0, .ref (l.length + 6), .int 0, .int (-1), .int 0, .int 0, .int 0, .int 0, .ref (l.length + 7), .int 0, .ref (l.length + 8), .ref (l.length + 9), .ref (l.length + 10), .int 0, .int 0, .int 0, .int 0, .ref (l.length + 11), .ref (l.length + 12), .ref (l.length + 13), .ref (l.length + 14), .ref (l.length + 15), .int 0, .ref (l.length + 16), .ref (l.length + 17), .ref (l.length + 18), .null]), .inl (0, 7, .inl (fun _ => 0)), .inl (0, 8, .inl (fun _ => 0)), .inl (0, 8, .inl (fun _ => 0)), .inl (0, 8, .inl (fun _ => 0)), .inl (0, 36, .inl (fun _ => 0)), .inl (0, 240, .inl (fun _ => 0)), .inl (0, 7, .inl (fun _ => 0)), .inl (0, 8, .inl (fun _ => 0)), .inl (0, 8, .inl (fun _ => 0)), .inl (0, 8, .inl (fun _ => 0)), .inl (0, 576, .inl (fun _ => 0)), .inl (0, 36, .inl (fun _ => 0)), .inl (0, 256, .inl (fun _ => 0)), .inl (1, 256, .inl (fun _ => 0)), .inl (0, 2048, .inl (fun _ => 0)), .inl (0, 15, .inl (fun _ => 0)), .inl (0, 15, .inl (fun _ => 0)), .inl (0, 74, .inl (fun _ => 0))] 0 rfl rfl (Nat.le_of_ble_eq_true rfl) rfl).trans ?_
  refine (d_na 19 [.inr (9, [.int 0, .ref (l.length + 1), .int 0, .ref (l.length + 2), .ref (l.length + 3), .ref (l.length + 4), .int 0, .int 0, .ref (l.length + 5), .int 0, .ref (l.length + 6), .int 0, .int (-1), .int 0, .int 0, .int 0, .int 0, .ref (l.length + 7), .int 0, .ref (l.length + 8), .ref (l.length + 9), .ref (l.length + 10), .int 0, .int 0, .int 0, .int 0, .ref (l.length + 11), .ref (l.length + 12), .ref (l.length + 13), .ref (l.length + 14), .ref (l.length + 15), .int 0, .ref (l.length + 16), .ref (l.length + 17), .ref (l.length + 18), .null]), .inl (0, 7, .inl (fun _ => 0)), .inl (0, 8, .inl (fun _ => 0)), .inl (0, 8, .inl (fun _ => 0)), .inl (0, 8, .inl (fun _ => 0)), .inl (0, 36, .inl (fun _ => 0)), .inl (0, 240, .inl (fun _ => 0)), .inl (0, 7, .inl (fun _ => 0)), .inl (0, 8, .inl (fun _ => 0)), .inl (0, 8, .inl (fun _ => 0)), .inl (0, 8, .inl (fun _ => 0)), .inl (0, 576, .inl (fun _ => 0)), .inl (0, 36, .inl (fun _ => 0)), .inl (0, 256, .inl (fun _ => 0)), .inl (1, 256, .inl (fun _ => 0)), .inl (0, 2048, .inl (fun _ => 0)), .inl (0, 15, .inl (fun _ => 0)), .inl (0, 15, .inl (fun _ => 0)), .inl (0, 74, .inl (fun _ => 0)), .inl (1, 2, .inl (fun _ => 0))] rfl rfl).trans ?_
  refine (d_pv [.inr (9, [.int 0, .ref (l.length + 1), .int 0, .ref (l.length + 2), .ref (l.length + 3), .ref (l.length + 4), .int 0, .int 0, .ref (l.length + 5), .int 0, .ref (l.length + 6), .int 0, .int (-1), .int 0, .int 0, .int 0, .int 0, .ref (l.length + 7), .int 0, .ref (l.length + 8), .ref (l.length + 9), .ref (l.length + 10), .int 0, .int 0, .int 0, .int 0, .ref (l.length + 11), .ref (l.length + 12), .ref (l.length + 13), .ref (l.length + 14), .ref (l.length + 15), .int 0, .ref (l.length + 16), .ref (l.length + 17), .ref (l.length + 18), .ref (l.length + 19)]), .inl (0, 7, .inl (fun _ => 0)), .inl (0, 8, .inl (fun _ => 0)), .inl (0, 8, .inl (fun _ => 0)), .inl (0, 8, .inl (fun _ => 0)), .inl (0, 36, .inl (fun _ => 0)), .inl (0, 240, .inl (fun _ => 0)), .inl (0, 7, .inl (fun _ => 0)), .inl (0, 8, .inl (fun _ => 0)), .inl (0, 8, .inl (fun _ => 0)), .inl (0, 8, .inl (fun _ => 0)), .inl (0, 576, .inl (fun _ => 0)), .inl (0, 36, .inl (fun _ => 0)), .inl (0, 256, .inl (fun _ => 0)), .inl (1, 256, .inl (fun _ => 0)), .inl (0, 2048, .inl (fun _ => 0)), .inl (0, 15, .inl (fun _ => 0)), .inl (0, 15, .inl (fun _ => 0)), .inl (0, 74, .inl (fun _ => 0)), .inl (1, 2, .inl (fun _ => 0))] 0 rfl rfl (Nat.le_of_ble_eq_true rfl) rfl).trans ?_
  refine (d_pv [.inr (9, [.int 0, .ref (l.length + 1), .int 0, .ref (l.length + 2), .ref (l.length + 3), .ref (l.length + 4), .int 0, .int 0, .ref (l.length + 5), .int 0, .ref (l.length + 6), .int 0, .int (-1), .int 0, .int 0, .int 0, .int 0, .ref (l.length + 7), .int 0, .ref (l.length + 8), .ref (l.length + 9), .ref (l.length + 10), .int 0, .int 0, .int 0, .int 0, .ref (l.length + 11), .ref (l.length + 12), .ref (l.length + 13), .ref (l.length + 14), .ref (l.length + 15), .int 0, .ref (l.length + 16), .ref (l.length + 17), .ref (l.length + 18), .ref (l.length + 19)]), .inl (0, 7, .inl (fun _ => 0)), .inl (0, 8, .inl (fun _ => 0)), .inl (0, 8, .inl (fun _ => 0)), .inl (0, 8, .inl (fun _ => 0)), .inl (0, 36, .inl (fun _ => 0)), .inl (0, 240, .inl (fun _ => 0)), .inl (0, 7, .inl (fun _ => 0)), .inl (0, 8, .inl (fun _ => 0)), .inl (0, 8, .inl (fun _ => 0)), .inl (0, 8, .inl (fun _ => 0)), .inl (0, 576, .inl (fun _ => 0)), .inl (0, 36, .inl (fun _ => 0)), .inl (0, 256, .inl (fun _ => 0)), .inl (1, 256, .inl (fun _ => 0)), .inl (0, 2048, .inl (fun _ => 0)), .inl (0, 15, .inl (fun _ => 0)), .inl (0, 15, .inl (fun _ => 0)), .inl (0, 74, .inl (fun _ => 0)), .inl (1, 2, .inl (fun _ => 0))] 0 rfl rfl (Nat.le_of_ble_eq_true rfl) rfl).trans ?_
  rfl
def b_wt (n : Nat) : List cE := [.inr (7, [.ref (n + 1), .ref (n + 2)]), .inl (0, 7, .inl (fun _ => 0)), .inl (4, 8, .inr (fun i => if i < 8 then some (n + 2 + 1 + i) else none)), .inl (0, 256, .inl (fun _ => 0)), .inl (0, 256, .inl (fun _ => 0)), .inl (0, 256, .inl (fun _ => 0)), .inl (0, 256, .inl (fun _ => 0)), .inl (0, 256, .inl (fun _ => 0)), .inl (0, 256, .inl (fun _ => 0)), .inl (0, 256, .inl (fun _ => 0)), .inl (0, 256, .inl (fun _ => 0))]
theorem b_nm8 {α : Type} {l r : List cE} {k : Nat} {K : Nat → MM α} (m : Nat) (hm : r.length = m) : m_nm 8 k K (hb l r) = K (l.length + m) (hb l (r ++ [.inl (4, 8, .inr (fun i => if i < 8 then some (l.length + m + 1 + i) else none)), .inl (0, k, .inl (fun _ => 0)), .inl (0, k, .inl (fun _ => 0)), .inl (0, k, .inl (fun _ => 0)), .inl (0, k, .inl (fun _ => 0)), .inl (0, k, .inl (fun _ => 0)), .inl (0, k, .inl (fun _ => 0)), .inl (0, k, .inl (fun _ => 0)), .inl (0, k, .inl (fun _ => 0))])) := by
  subst hm
  unfold m_nm
  have e : (hb l r).1 = l.length + r.length := by show (l ++ r).length = _; rw [List.length_append]
  rw [e]
  congr 1
  refine Prod.ext ?_ (funext fun j => ?_)
  · show l.length + r.length + 1 + 8 = (l ++ (r ++ _)).length
    simp
    omega
  · show c_nm (hb l r) 8 k j = (l ++ (r ++ _)).getD j cJ
    unfold c_nm
    rw [e, ← List.append_assoc, List.getD_eq_getElem?_getD]
    by_cases h0 : j < l.length + r.length
    · rw [if_neg (by omega), if_neg (by omega), List.getElem?_append_left (by rw [List.length_append]; exact h0)]
      show (l ++ r).getD j cJ = _
      rw [List.getD_eq_getElem?_getD]
    · obtain ⟨d, rfl⟩ : ∃ d, j = l.length + r.length + d := ⟨j - (l.length + r.length), by omega⟩
      rw [List.getElem?_append_right (by rw [List.length_append]; omega), List.length_append, Nat.add_sub_cancel_left]
      match d with
      | 0 => rw [if_pos (by omega)]; rfl
      | 1 => rw [if_neg (by omega), if_pos (by omega)]; rfl
      | 2 => rw [if_neg (by omega), if_pos (by omega)]; rfl
      | 3 => rw [if_neg (by omega), if_pos (by omega)]; rfl
      | 4 => rw [if_neg (by omega), if_pos (by omega)]; rfl
      | 5 => rw [if_neg (by omega), if_pos (by omega)]; rfl
      | 6 => rw [if_neg (by omega), if_pos (by omega)]; rfl
      | 7 => rw [if_neg (by omega), if_pos (by omega)]; rfl
      | 8 => rw [if_neg (by omega), if_pos (by omega)]; rfl
      | d + 9 =>
        rw [if_neg (by omega), if_neg (by omega)]
        show (l ++ r).getD (l.length + r.length + (d + 9)) cJ = cJ
        rw [List.getD_eq_getElem?_getD, List.getElem?_eq_none (by rw [List.length_append]; omega)]
        rfl
theorem b_X8 (l : List cE) : pX8_init (l.length + 0) (hb l [.inr (7, [.null, .null])]) = some ((), hb l (b_wt l.length)) := by
  unfold pX8_init
  refine (d_na 1 [.inr (7, [.null, .null]), .inl (0, 7, .inl (fun _ => 0))] rfl rfl).trans ?_
  refine (d_pv [.inr (7, [.ref (l.length + 1), .null]), .inl (0, 7, .inl (fun _ => 0))] 0 rfl rfl (Nat.le_of_ble_eq_true rfl) rfl).trans ?_
  refine (b_nm8 2 rfl).trans ?_
  refine (d_pv (b_wt l.length) 0 rfl rfl (Nat.le_of_ble_eq_true rfl) rfl).trans ?_
  rfl
def b_im (n : Nat) : List cE := .inr (1, [.ref (n + 1), .int 0, .int 0]) :: b_sc (n + 1)
theorem b_X1 (l : List cE) : pX1_init (l.length + 0) (hb l [.inr (1, [.null, .int 0, .int 0])]) = some ((), hb l (b_im l.length)) := by
  unfold pX1_init
  refine (d_sub 1 b_X5 rfl).trans ?_
  refine (d_pv (b_im l.length) 0 rfl rfl (Nat.le_of_ble_eq_true rfl) rfl).trans ?_
  rfl
def b_s0 (_ : Nat) : List cE := []
def b_s1 (n : Nat) : List cE := b_s0 n ++ b_sc (n + 2)
def b_s2 (n : Nat) : List cE := b_s1 n ++ b_sc (n + 7)
def b_s3 (n : Nat) : List cE := b_s2 n ++ b_sc (n + 12)
def b_s4 (n : Nat) : List cE := b_s3 n ++ b_sc (n + 17)
def b_s5 (n : Nat) : List cE := b_s4 n ++ b_sc (n + 22)
def b_s6 (n : Nat) : List cE := b_s5 n ++ b_sc (n + 27)
def b_s7 (n : Nat) : List cE := b_s6 n ++ b_sc (n + 32)
def b_s8 (n : Nat) : List cE := b_s7 n ++ b_sc (n + 37)
def b_s9 (n : Nat) : List cE := b_s8 n ++ b_sc (n + 42)
def b_s10 (n : Nat) : List cE := b_s9 n ++ b_sc (n + 47)
def b_s11 (n : Nat) : List cE := b_s10 n ++ b_sc (n + 52)
def b_s12 (n : Nat) : List cE := b_s11 n ++ b_sc (n + 57)
def b_s13 (n : Nat) : List cE := b_s12 n ++ b_sc (n + 62)
def b_s14 (n : Nat) : List cE := b_s13 n ++ b_sc (n + 67)
def b_s15 (n : Nat) : List cE := b_s14 n ++ b_sc (n + 72)
def b_s16 (n : Nat) : List cE := b_s15 n ++ b_sc (n + 77)
theorem c_ga (n j : Nat) : va_up (fun i => if i < j then some (n + 2 + 5 * i) else none) j (some (n + (2 + 5 * j))) = fun i => if i < j + 1 then some (n + 2 + 5 * i) else none := by
  funext i
  unfold va_up
  by_cases h : i = j
  · subst h
    rw [if_pos rfl, if_pos (by omega), Nat.add_assoc]
  · rw [if_neg h]
    show (if i < j then some (n + 2 + 5 * i) else none) = _
    by_cases h2 : i < j
    · rw [if_pos h2, if_pos (by omega)]
    · rw [if_neg h2, if_neg (by omega)]
/-- the j-th scene of the past -/
theorem b_step {α : Type} {l S : List cE} (j : Nat) {K : MM α} {a : Nat} {i9 : Int32} (ha : a = l.length + 0) (hS : S.length = 5 * j) (hi : i9.toNatClampNeg = j) (h0 : ¬ i9 < 0) (hj : j < 16) :
    m_gr a 3 0 (fun a2 => m_new 5 [.null, .null, .null, .null, .int 0, .int 0, .int 0, .int 0] (fun a3 => m_bind (pX5_init a3) (fun _ => m_sr 3 a2 i9 a3 5 K))) (hb l (.inr (3, [.ref (l.length + 1), .int 0, .int 0]) :: .inl (3, 16, .inr (fun i => if i < j then some (l.length + 2 + 5 * i) else none)) :: S)) =
    K (hb l (.inr (3, [.ref (l.length + 1), .int 0, .int 0]) :: .inl (3, 16, .inr (fun i => if i < j + 1 then some (l.length + 2 + 5 * i) else none)) :: (S ++ b_sc (l.length + (2 + 5 * j))))) := by
  refine (b_gr 0 ha rfl rfl).trans ?_
  refine (d_sub (2 + 5 * j) b_X5 (by show S.length + 1 + 1 = _; omega)).trans ?_
  refine (d_sr _ 1 (2 + 5 * j) rfl rfl rfl (fs := [.ref (l.length + (2 + 5 * j) + 1), .ref (l.length + (2 + 5 * j) + 2), .ref (l.length + (2 + 5 * j) + 3), .ref (l.length + (2 + 5 * j) + 4), .int 0, .int 0, .int 0, .int 0]) ?_ ?_ rfl).trans ?_
  · show (.inr (3, [.ref (l.length + 1), .int 0, .int 0]) :: .inl (3, 16, .inr (fun i => if i < j then some (l.length + 2 + 5 * i) else none)) :: S ++ b_sc (l.length + (2 + 5 * j)))[2 + 5 * j]? = _
    rw [List.getElem?_append_right (by show S.length + 1 + 1 ≤ _; omega)]
    have : 2 + 5 * j - (Sum.inr (3, [Value.ref (l.length + 1), .int 0, .int 0]) :: .inl (3, 16, .inr (fun i => if i < j then some (l.length + 2 + 5 * i) else none)) :: S : List cE).length = 0 := by
      show 2 + 5 * j - (S.length + 1 + 1) = 0
      omega
    rw [this]
    rfl
  · intro q
    rcases q with q | q
    · exact h0 q
    · omega
  · rw [hi]
    rw [c_ga]
    rfl
theorem b_len_sc (n : Nat) : (b_sc n).length = 5 := rfl
theorem b_sl0 (n : Nat) : (b_s0 n).length = 5 * 0 := rfl
theorem b_sl1 (n : Nat) : (b_s1 n).length = 5 * 1 := by rw [b_s1, List.length_append, b_sl0, b_len_sc]
theorem b_sl2 (n : Nat) : (b_s2 n).length = 5 * 2 := by rw [b_s2, List.length_append, b_sl1, b_len_sc]
theorem b_sl3 (n : Nat) : (b_s3 n).length = 5 * 3 := by rw [b_s3, List.length_append, b_sl2, b_len_sc]
theorem b_sl4 (n : Nat) : (b_s4 n).length = 5 * 4 := by rw [b_s4, List.length_append, b_sl3, b_len_sc]
theorem b_sl5 (n : Nat) : (b_s5 n).length = 5 * 5 := by rw [b_s5, List.length_append, b_sl4, b_len_sc]
theorem b_sl6 (n : Nat) : (b_s6 n).length = 5 * 6 := by rw [b_s6, List.length_append, b_sl5, b_len_sc]
theorem b_sl7 (n : Nat) : (b_s7 n).length = 5 * 7 := by rw [b_s7, List.length_append, b_sl6, b_len_sc]
theorem b_sl8 (n : Nat) : (b_s8 n).length = 5 * 8 := by rw [b_s8, List.length_append, b_sl7, b_len_sc]
theorem b_sl9 (n : Nat) : (b_s9 n).length = 5 * 9 := by rw [b_s9, List.length_append, b_sl8, b_len_sc]
theorem b_sl10 (n : Nat) : (b_s10 n).length = 5 * 10 := by rw [b_s10, List.length_append, b_sl9, b_len_sc]
theorem b_sl11 (n : Nat) : (b_s11 n).length = 5 * 11 := by rw [b_s11, List.length_append, b_sl10, b_len_sc]
theorem b_sl12 (n : Nat) : (b_s12 n).length = 5 * 12 := by rw [b_s12, List.length_append, b_sl11, b_len_sc]
theorem b_sl13 (n : Nat) : (b_s13 n).length = 5 * 13 := by rw [b_s13, List.length_append, b_sl12, b_len_sc]
theorem b_sl14 (n : Nat) : (b_s14 n).length = 5 * 14 := by rw [b_s14, List.length_append, b_sl13, b_len_sc]
theorem b_sl15 (n : Nat) : (b_s15 n).length = 5 * 15 := by rw [b_s15, List.length_append, b_sl14, b_len_sc]
theorem b_sl16 (n : Nat) : (b_s16 n).length = 5 * 16 := by rw [b_s16, List.length_append, b_sl15, b_len_sc]
def b_ps (n : Nat) : List cE := .inr (3, [.ref (n + 1), .int 0, .int 0]) :: .inl (3, 16, .inr (fun i => if i < 16 then some (n + 2 + 5 * i) else none)) :: b_s16 (n)
set_option maxRecDepth 100000 in
theorem b_X3 (l : List cE) : pX3_init (l.length + 0) (hb l [.inr (3, [.null, .int 0, .int 0])]) = some ((), hb l (b_ps l.length)) := by
  unfold pX3_init
  refine (d_nr 1 [.inr (3, [.null, .int 0, .int 0]), .inl (3, 16, .inr (fun _ => none))] rfl rfl).trans ?_
  refine (d_pv (.inr (3, [.ref (l.length + 1), .int 0, .int 0]) :: .inl (3, 16, .inr (fun i => if i < 0 then some (l.length + 2 + 5 * i) else none)) :: b_s0 (l.length)) 0 rfl rfl (Nat.le_of_ble_eq_true rfl) ?_).trans ?_
  · show [_, _] = [_, _]
    congr 3
  refine (b_step (S := b_s0 (l.length)) 0 rfl (b_sl0 _) (by decide) (by decide) (by decide)).trans ?_
  refine (b_step (S := b_s1 (l.length)) 1 rfl (b_sl1 _) (by decide) (by decide) (by decide)).trans ?_
  refine (b_step (S := b_s2 (l.length)) 2 rfl (b_sl2 _) (by decide) (by decide) (by decide)).trans ?_
  refine (b_step (S := b_s3 (l.length)) 3 rfl (b_sl3 _) (by decide) (by decide) (by decide)).trans ?_
  refine (b_step (S := b_s4 (l.length)) 4 rfl (b_sl4 _) (by decide) (by decide) (by decide)).trans ?_
  refine (b_step (S := b_s5 (l.length)) 5 rfl (b_sl5 _) (by decide) (by decide) (by decide)).trans ?_
  refine (b_step (S := b_s6 (l.length)) 6 rfl (b_sl6 _) (by decide) (by decide) (by decide)).trans ?_
  refine (b_step (S := b_s7 (l.length)) 7 rfl (b_sl7 _) (by decide) (by decide) (by decide)).trans ?_
  refine (b_step (S := b_s8 (l.length)) 8 rfl (b_sl8 _) (by decide) (by decide) (by decide)).trans ?_
  refine (b_step (S := b_s9 (l.length)) 9 rfl (b_sl9 _) (by decide) (by decide) (by decide)).trans ?_
  refine (b_step (S := b_s10 (l.length)) 10 rfl (b_sl10 _) (by decide) (by decide) (by decide)).trans ?_
  refine (b_step (S := b_s11 (l.length)) 11 rfl (b_sl11 _) (by decide) (by decide) (by decide)).trans ?_
  refine (b_step (S := b_s12 (l.length)) 12 rfl (b_sl12 _) (by decide) (by decide) (by decide)).trans ?_
  refine (b_step (S := b_s13 (l.length)) 13 rfl (b_sl13 _) (by decide) (by decide) (by decide)).trans ?_
  refine (b_step (S := b_s14 (l.length)) 14 rfl (b_sl14 _) (by decide) (by decide) (by decide)).trans ?_
  refine (b_step (S := b_s15 (l.length)) 15 rfl (b_sl15 _) (by decide) (by decide) (by decide)).trans ?_
  rfl
/-! DollCongress: its parts one behind another (the constructor runs at address 3, l has 3 cells) -/
def b_d0 (_ : Nat) : List cE := []
theorem b_dl0 (n : Nat) : (b_d0 n).length = 0 := rfl
theorem b_psl (n : Nat) : (b_ps n).length = 82 := by rw [b_ps, List.length_cons, List.length_cons, b_sl16]
def b_d1 (n : Nat) : List cE := b_d0 n ++ b_tx (n + 1)
theorem b_dl1 (n : Nat) : (b_d1 n).length = 2 := by rw [b_d1, List.length_append, b_dl0]; rfl
def b_d2 (n : Nat) : List cE := b_d1 n ++ b_sc (n + 3)
theorem b_dl2 (n : Nat) : (b_d2 n).length = 7 := by rw [b_d2, List.length_append, b_dl1]; rfl
def b_d3 (n : Nat) : List cE := b_d2 n ++ b_ps (n + 8)
theorem b_dl3 (n : Nat) : (b_d3 n).length = 89 := by rw [b_d3, List.length_append, b_dl2, b_psl]
def b_d4 (n : Nat) : List cE := b_d3 n ++ b_bk (n + 90)
theorem b_dl4 (n : Nat) : (b_d4 n).length = 92 := by rw [b_d4, List.length_append, b_dl3]; rfl
def b_d5 (n : Nat) : List cE := b_d4 n ++ [.inl (2, 2, .inr (fun _ => none))]
theorem b_dl5 (n : Nat) : (b_d5 n).length = 93 := by rw [b_d5, List.length_append, b_dl4]; rfl
def b_d6 (n : Nat) : List cE := b_d5 n ++ b_mx (n + 94)
theorem b_dl6 (n : Nat) : (b_d6 n).length = 98 := by rw [b_d6, List.length_append, b_dl5]; rfl
def b_d7 (n : Nat) : List cE := b_d6 n ++ b_wt (n + 99)
theorem b_dl7 (n : Nat) : (b_d7 n).length = 109 := by rw [b_d7, List.length_append, b_dl6]; rfl
def b_d8 (n : Nat) : List cE := b_d7 n ++ b_rl (n + 110)
theorem b_dl8 (n : Nat) : (b_d8 n).length = 115 := by rw [b_d8, List.length_append, b_dl7]; rfl
def b_d9 (n : Nat) : List cE := b_d8 n ++ b_rl (n + 116)
theorem b_dl9 (n : Nat) : (b_d9 n).length = 121 := by rw [b_d9, List.length_append, b_dl8]; rfl
def b_g0 (n : Nat) (x : cE) : List cE := ((((b_d4 n ++ [x]) ++ b_mx (n + 94)) ++ b_wt (n + 99)) ++ b_rl (n + 110)) ++ b_rl (n + 116)
theorem b_g0l (n : Nat) (x : cE) : (b_g0 n x).length = 121 := by rw [b_g0, List.length_append, List.length_append, List.length_append, List.length_append, List.length_append, b_dl4]; rfl
theorem b_g0e (n : Nat) : b_d9 n = b_g0 n (.inl (2, 2, .inr (fun _ => none))) := rfl
theorem b_g0g (n : Nat) (x : cE) : (b_g0 n x)[92]? = some x := by
  rw [b_g0, List.getElem?_append_left (by simp [b_dl4, b_mx, b_wt, b_rl]), List.getElem?_append_left (by simp [b_dl4, b_mx, b_wt]), List.getElem?_append_left (by simp [b_dl4, b_mx]), List.getElem?_append_left (by simp [b_dl4]), List.getElem?_append_right (by rw [b_dl4]; decide), b_dl4]
  rfl
theorem b_g0s (n : Nat) (x y : cE) : (b_g0 n x).set 92 y = b_g0 n y := by
  rw [b_g0, List.set_append, if_pos (by simp [b_dl4, b_mx, b_wt, b_rl]), List.set_append, if_pos (by simp [b_dl4, b_mx, b_wt]), List.set_append, if_pos (by simp [b_dl4, b_mx]), List.set_append, if_pos (by simp [b_dl4]), List.set_append, if_neg (by rw [b_dl4]; decide), b_dl4]
  rfl
theorem b_get1 {o : cE} {n : Nat} {x : cE} {T : List cE} : ((o :: b_g0 n x) ++ T)[93]? = some x := by
  rw [List.cons_append, List.getElem?_cons_succ, List.getElem?_append_left (by rw [b_g0l]; decide), b_g0g]
theorem b_set1 {o : cE} {n : Nat} {x y : cE} {T : List cE} : ((o :: b_g0 n x) ++ T).set 93 y = (o :: b_g0 n y) ++ T := by
  rw [List.cons_append, List.set_cons_succ, List.set_append, if_pos (by rw [b_g0l]; decide), b_g0s, List.cons_append]
theorem b_getT {o : cE} {n i : Nat} {x e : cE} {T : List cE} (h : T[i]? = some e) : ((o :: b_g0 n x) ++ T)[122 + i]? = some e := by
  rw [List.cons_append, show 122 + i = (121 + i) + 1 by omega, List.getElem?_cons_succ, List.getElem?_append_right (by rw [b_g0l]; omega), b_g0l, Nat.add_sub_cancel_left, h]
theorem b_img {α : Type} {l T : List cE} {fs : List Value} {g : Nat → Option Nat} {K : MM α} {i9 : Int32} {a : Nat} (m j : Nat) (g' : Nat → Option Nat) (ha : a = l.length + 0) (hT : T.length = m) (hi : i9.toNatClampNeg = j) (h0 : ¬ i9 < 0) (hj : j < 2) (hg : va_up g j (some (l.length + (122 + m))) = g') (ho : fs[4]? = some (.ref (l.length + 93))) :
    m_gr a 8 4 (fun a2 => m_new 1 [.null, .int 0, .int 0] (fun a3 => m_bind (pX1_init a3) (fun _ => m_sr 2 a2 i9 a3 1 K))) (hb l ((.inr (8, fs) :: b_g0 l.length (.inl (2, 2, .inr g))) ++ T)) =
    K (hb l ((.inr (8, fs) :: b_g0 l.length (.inl (2, 2, .inr g'))) ++ (T ++ b_im (l.length + (122 + m))))) := by
  have h1 : ((.inr (8, fs) :: b_g0 l.length (.inl (2, 2, .inr g)) : List cE) ++ T).length = 122 + m := by rw [List.length_append, List.length_cons, b_g0l, hT]
  refine (b_gr 0 ha (by rw [List.cons_append]; rfl) ho).trans ?_
  refine (d_sub (122 + m) b_X1 h1).trans ?_
  rw [List.append_assoc]
  subst hi
  subst hg
  refine (b_sr 93 (122 + m) rfl rfl b_get1 (b_getT (e := .inr (1, [.ref (l.length + (122 + m) + 1), .int 0, .int 0])) ?_) ?_).trans ?_
  · rw [List.getElem?_append_right (by omega), hT, Nat.sub_self]
    rfl
  · intro q
    rcases q with q | q
    · exact h0 q
    · omega
  · rw [b_set1]
def b_dc (n : Nat) : List cE := .inr (8, [.ref (n + 1), .ref (n + 3), .ref (n + 8), .ref (n + 90), .ref (n + 93), .ref (n + 94), .ref (n + 99), .ref (n + 110), .ref (n + 116), .int 0]) :: b_g0 n (.inl (2, 2, .inr (va_up (va_up (fun _ => none) 0 (some (n + 122))) 1 (some (n + 128))))) ++ (b_im (n + 122) ++ b_im (n + 128))
set_option maxRecDepth 100000 in
set_option maxHeartbeats 400000 in
theorem b_X9 (l : List cE) : pX9_init (l.length + 0) (hb l [.inr (8, [.null, .null, .null, .null, .null, .null, .null, .null, .null, .int 0])]) = some ((), hb l (b_dc l.length)) := by
  unfold pX9_init
  refine (sh_nil _ _).trans ?_
  refine (d_sub 1 b_X7 rfl).trans ?_
  refine (d_pv (.inr (8, [.ref (l.length + 1), .null, .null, .null, .null, .null, .null, .null, .null, .int 0]) :: b_d1 l.length) 0 rfl rfl (Nat.le_of_ble_eq_true rfl) rfl).trans ?_
  refine (d_sub 3 b_X5 (by rw [List.length_cons, b_dl1])).trans ?_
  refine (d_pv (.inr (8, [.ref (l.length + 1), .ref (l.length + 3), .null, .null, .null, .null, .null, .null, .null, .int 0]) :: b_d2 l.length) 0 rfl rfl (Nat.le_of_ble_eq_true rfl) rfl).trans ?_
  refine (d_sub 8 b_X3 (by rw [List.length_cons, b_dl2])).trans ?_
  refine (d_pv (.inr (8, [.ref (l.length + 1), .ref (l.length + 3), .ref (l.length + 8), .null, .null, .null, .null, .null, .null, .int 0]) :: b_d3 l.length) 0 rfl rfl (Nat.le_of_ble_eq_true rfl) rfl).trans ?_
  refine (d_sub 90 b_X0 (by rw [List.length_cons, b_dl3])).trans ?_
  refine (d_pv (.inr (8, [.ref (l.length + 1), .ref (l.length + 3), .ref (l.length + 8), .ref (l.length + 90), .null, .null, .null, .null, .null, .int 0]) :: b_d4 l.length) 0 rfl rfl (Nat.le_of_ble_eq_true rfl) rfl).trans ?_
  refine (d_nr 93 (.inr (8, [.ref (l.length + 1), .ref (l.length + 3), .ref (l.length + 8), .ref (l.length + 90), .null, .null, .null, .null, .null, .int 0]) :: b_d5 l.length) (by rw [List.length_cons, b_dl4]) rfl).trans ?_
  refine (d_pv (.inr (8, [.ref (l.length + 1), .ref (l.length + 3), .ref (l.length + 8), .ref (l.length + 90), .ref (l.length + 93), .null, .null, .null, .null, .int 0]) :: b_d5 l.length) 0 rfl rfl (Nat.le_of_ble_eq_true rfl) rfl).trans ?_
  refine (d_sub 94 b_X2 (by rw [List.length_cons, b_dl5])).trans ?_
  refine (d_pv (.inr (8, [.ref (l.length + 1), .ref (l.length + 3), .ref (l.length + 8), .ref (l.length + 90), .ref (l.length + 93), .ref (l.length + 94), .null, .null, .null, .int 0]) :: b_d6 l.length) 0 rfl rfl (Nat.le_of_ble_eq_true rfl) rfl).trans ?_
  refine (d_sub 99 b_X8 (by rw [List.length_cons, b_dl6])).trans ?_
  refine (d_pv (.inr (8, [.ref (l.length + 1), .ref (l.length + 3), .ref (l.length + 8), .ref (l.length + 90), .ref (l.length + 93), .ref (l.length + 94), .ref (l.length + 99), .null, .null, .int 0]) :: b_d7 l.length) 0 rfl rfl (Nat.le_of_ble_eq_true rfl) rfl).trans ?_
  refine (d_sub 110 b_X4 (by rw [List.length_cons, b_dl7])).trans ?_
  refine (d_pv (.inr (8, [.ref (l.length + 1), .ref (l.length + 3), .ref (l.length + 8), .ref (l.length + 90), .ref (l.length + 93), .ref (l.length + 94), .ref (l.length + 99), .ref (l.length + 110), .null, .int 0]) :: b_d8 l.length) 0 rfl rfl (Nat.le_of_ble_eq_true rfl) rfl).trans ?_
  refine (d_sub 116 b_X4 (by rw [List.length_cons, b_dl8])).trans ?_
  refine (d_pv (.inr (8, [.ref (l.length + 1), .ref (l.length + 3), .ref (l.length + 8), .ref (l.length + 90), .ref (l.length + 93), .ref (l.length + 94), .ref (l.length + 99), .ref (l.length + 110), .ref (l.length + 116), .int 0]) :: b_d9 l.length) 0 rfl rfl (Nat.le_of_ble_eq_true rfl) rfl).trans ?_
  have e9 : hb l (.inr (8, [.ref (l.length + 1), .ref (l.length + 3), .ref (l.length + 8), .ref (l.length + 90), .ref (l.length + 93), .ref (l.length + 94), .ref (l.length + 99), .ref (l.length + 110), .ref (l.length + 116), .int 0]) :: b_d9 l.length) = hb l ((.inr (8, [.ref (l.length + 1), .ref (l.length + 3), .ref (l.length + 8), .ref (l.length + 90), .ref (l.length + 93), .ref (l.length + 94), .ref (l.length + 99), .ref (l.length + 110), .ref (l.length + 116), .int 0]) :: b_g0 l.length (.inl (2, 2, .inr (fun _ => none)))) ++ []) := by rw [b_g0e, List.append_nil]
  refine (congrArg _ e9).trans ?_
  refine (b_img 0 0 (va_up (fun _ => none) 0 (some (l.length + 122))) rfl rfl (by decide) (by decide) (by decide) rfl rfl).trans ?_
  refine (b_img 6 1 (va_up (va_up (fun _ => none) 0 (some (l.length + 122))) 1 (some (l.length + 128))) rfl rfl (by decide) (by decide) (by decide) rfl rfl).trans ?_
  rw [List.nil_append]
  rfl
