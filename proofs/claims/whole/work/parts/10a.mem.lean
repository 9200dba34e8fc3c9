/-! the heap behind both constructors: addresses stand fast, what changes is a memory of numbers (address, place) -/
abbrev cS : Type := (Nat × Nat) ⊕ ((Nat × Nat × (Nat → Option Nat)) ⊕ (Nat × List (Option Nat)))
abbrev cM : Type := Nat → Nat → Int32
def c_fv (f : Nat → Int32) (i : Nat) (o : Option Nat) : Value := match o with
  | none => .int (f i)
  | some a => .ref a
def c_bd (s : cS) (f : Nat → Int32) : cE := match s with
  | .inl (t, N) => .inl (t, N, .inl f)
  | .inr (.inl (t, N, g)) => .inl (t, N, .inr g)
  | .inr (.inr (ci, fs)) => .inr (ci, fs.mapIdx (c_fv f))
def c_shl (ra rb L : Nat) : List cS := [.inl (0, 7), .inl (0, 18), .inl (0, L), .inr (.inr (8, [some 4, some 6, some 11, some 93, some 96, some 97, some 102, some ra, some rb, none])), .inr (.inr (6, [some 5, none, none, none, none])), .inl (0, 240), .inr (.inr (5, [some 7, some 8, some 9, some 10, none, none, none, none])), .inl (0, 8), .inl (0, 8), .inl (0, 8), .inl (0, 8), .inr (.inr (3, [some 12, none, none])), .inr (.inl (3, 16, fun j => if j < 16 then some (13 + 5 * j) else none)), .inr (.inr (5, [some 14, some 15, some 16, some 17, none, none, none, none])), .inl (0, 8), .inl (0, 8), .inl (0, 8), .inl (0, 8), .inr (.inr (5, [some 19, some 20, some 21, some 22, none, none, none, none])), .inl (0, 8), .inl (0, 8), .inl (0, 8), .inl (0, 8), .inr (.inr (5, [some 24, some 25, some 26, some 27, none, none, none, none])), .inl (0, 8), .inl (0, 8), .inl (0, 8), .inl (0, 8), .inr (.inr (5, [some 29, some 30, some 31, some 32, none, none, none, none])), .inl (0, 8), .inl (0, 8), .inl (0, 8), .inl (0, 8), .inr (.inr (5, [some 34, some 35, some 36, some 37, none, none, none, none])), .inl (0, 8), .inl (0, 8), .inl (0, 8), .inl (0, 8), .inr (.inr (5, [some 39, some 40, some 41, some 42, none, none, none, none])), .inl (0, 8), .inl (0, 8), .inl (0, 8), .inl (0, 8), .inr (.inr (5, [some 44, some 45, some 46, some 47, none, none, none, none])), .inl (0, 8), .inl (0, 8), .inl (0, 8), .inl (0, 8), .inr (.inr (5, [some 49, some 50, some 51, some 52, none, none, none, none])), .inl (0, 8), .inl (0, 8), .inl (0, 8), .inl (0, 8), .inr (.inr (5, [some 54, some 55, some 56, some 57, none, none, none, none])), .inl (0, 8), .inl (0, 8), .inl (0, 8), .inl (0, 8), .inr (.inr (5, [some 59, some 60, some 61, some 62, none, none, none, none])), .inl (0, 8), .inl (0, 8), .inl (0, 8), .inl (0, 8), .inr (.inr (5, [some 64, some 65, some 66, some 67, none, none, none, none])), .inl (0, 8), .inl (0, 8), .inl (0, 8), .inl (0, 8), .inr (.inr (5, [some 69, some 70, some 71, some 72, none, none, none, none])), .inl (0, 8), .inl (0, 8), .inl (0, 8), .inl (0, 8), .inr (.inr (5, [some 74, some 75, some 76, some 77, none, none, none, none])), .inl (0, 8), .inl (0, 8), .inl (0, 8), .inl (0, 8), .inr (.inr (5, [some 79, some 80, some 81, some 82, none, none, none, none])), .inl (0, 8), .inl (0, 8), .inl (0, 8), .inl (0, 8), .inr (.inr (5, [some 84, some 85, some 86, some 87, none, none, none, none])), .inl (0, 8), .inl (0, 8), .inl (0, 8), .inl (0, 8), .inr (.inr (5, [some 89, some 90, some 91, some 92, none, none, none, none])), .inl (0, 8), .inl (0, 8), .inl (0, 8), .inl (0, 8), .inr (.inr (0, [some 94, some 95, none])), .inl (0, 15), .inl (0, 15), .inr (.inl (2, 2, fun j => if j < 2 then some (125 + 6 * j) else none)), .inr (.inr (2, [some 98, some 99, some 100, some 101, none])), .inl (0, 8), .inl (0, 8), .inl (0, 256), .inl (0, 256), .inr (.inr (7, [some 103, some 104])), .inl (0, 7), .inr (.inl (4, 8, fun j => if j < 8 then some (105 + j) else none)), .inl (0, 256), .inl (0, 256), .inl (0, 256), .inl (0, 256), .inl (0, 256), .inl (0, 256), .inl (0, 256), .inl (0, 256), .inr (.inr (4, [some 114, some 115, some 116, some 117, some 118, none, none, none, none, none, none])), .inl (0, 7), .inl (0, 8), .inl (0, 8), .inl (0, 8), .inl (0, 128), .inr (.inr (4, [some 120, some 121, some 122, some 123, some 124, none, none, none, none, none, none])), .inl (0, 7), .inl (0, 8), .inl (0, 8), .inl (0, 8), .inl (0, 128), .inr (.inr (1, [some 126, none, none])), .inr (.inr (5, [some 127, some 128, some 129, some 130, none, none, none, none])), .inl (0, 8), .inl (0, 8), .inl (0, 8), .inl (0, 8), .inr (.inr (1, [some 132, none, none])), .inr (.inr (5, [some 133, some 134, some 135, some 136, none, none, none, none])), .inl (0, 8), .inl (0, 8), .inl (0, 8), .inl (0, 8), .inr (.inr (9, [none, some 138, none, some 139, some 140, some 141, none, none, some 142, none, some 143, none, none, none, none, none, none, some 144, none, some 145, some 146, some 147, none, none, none, none, some 148, some 149, some 150, some 151, some 152, none, some 153, some 154, some 155, some 156])), .inl (0, 7), .inl (0, 8), .inl (0, 8), .inl (0, 8), .inl (0, 36), .inl (0, 240), .inl (0, 7), .inl (0, 8), .inl (0, 8), .inl (0, 8), .inl (0, 576), .inl (0, 36), .inl (0, 256), .inl (1, 256), .inl (0, 2048), .inl (0, 15), .inl (0, 15), .inl (0, 74), .inl (1, 2)]
def c_sh (ra rb L k : Nat) : cS := (c_shl ra rb L).getD k (.inl (99, 0))
def hp (ra rb L : Nat) (I : cM) : cH := (157, fun k => if k < 157 then c_bd (c_sh ra rb L k) (I k) else cJ)
def u1 (I : cM) (a : Nat) (f : Nat → Int32) : cM := fun b => if b = a then f else I b
def u2 (I : cM) (a k : Nat) (x : Int32) : cM := fun b j => if b = a ∧ j = k then x else I b j
theorem u1_s (I : cM) (a : Nat) (f : Nat → Int32) : u1 I a f a = f := if_pos rfl
theorem u1_n (I : cM) {a b : Nat} (f : Nat → Int32) (h : b ≠ a) : u1 I a f b = I b := if_neg h
theorem u2_s (I : cM) (a k : Nat) (x : Int32) : u2 I a k x a k = x := if_pos ⟨rfl, rfl⟩
theorem u2_n (I : cM) {a b k j : Nat} (x : Int32) (h : ¬ (b = a ∧ j = k)) : u2 I a k x b j = I b j := if_neg h
theorem u2_na (I : cM) {a b k j : Nat} (x : Int32) (h : b ≠ a) : u2 I a k x b j = I b j := if_neg (fun q => h q.1)
theorem u2_nk (I : cM) {a b k j : Nat} (x : Int32) (h : j ≠ k) : u2 I a k x b j = I b j := if_neg (fun q => h q.2)
theorem u2_row (I : cM) (a k : Nat) (x : Int32) : u2 I a k x a = upd (I a) k x := by
  funext j
  unfold u2 upd
  by_cases h : j = k <;> simp [h]
theorem u2_rown (I : cM) {a b : Nat} (k : Nat) (x : Int32) (h : b ≠ a) : u2 I a k x b = I b := by
  funext j
  exact u2_na I x h
theorem hp_at {ra rb L a : Nat} (I : cM) (h : a < 157) : (hp ra rb L I).2 a = c_bd (c_sh ra rb L a) (I a) := if_pos h
theorem hp_up {ra rb L a : Nat} {I : cM} {e : cE} (f : Nat → Int32) (h : a < 157) (he : e = c_bd (c_sh ra rb L a) f) : ((hp ra rb L I).1, c_up (hp ra rb L I).2 a e) = hp ra rb L (u1 I a f) := by
  refine Prod.ext rfl (funext fun k => ?_)
  show c_up (hp ra rb L I).2 a e k = (if k < 157 then c_bd (c_sh ra rb L k) (u1 I a f k) else cJ)
  by_cases hk : k = a
  · subst hk
    rw [c_up_same, if_pos h, u1_s, he]
  · rw [c_up_ne _ _ hk, u1_n _ _ hk]
    rfl
theorem u1_upd (I : cM) (a k : Nat) (x : Int32) : u1 I a (upd (I a) k x) = u2 I a k x := by
  funext b j
  unfold u1 u2 upd
  by_cases hb : b = a
  · subst hb
    by_cases hj : j = k <;> simp [hj]
  · simp [hb]
theorem c_mapset (fs : List (Option Nat)) (f : Nat → Int32) (k : Nat) (x : Int32) (h : fs[k]? = some none) : (fs.mapIdx (c_fv f)).set k (.int x) = fs.mapIdx (c_fv (upd f k x)) := by
  apply List.ext_getElem?
  intro i
  rw [List.getElem?_set, List.getElem?_mapIdx, List.getElem?_mapIdx, List.length_mapIdx]
  by_cases hi : k = i
  · subst hi
    have hl : k < fs.length := (List.getElem?_eq_some_iff.mp h).1
    rw [if_pos rfl, if_pos hl, h]
    simp [c_fv, upd]
  · rw [if_neg hi]
    rcases fs[i]? with _ | (_ | a)
    · rfl
    · simp [c_fv, upd, Ne.symm hi]
    · rfl
section HP
variable {α β : Type} {ra rb L a ci k t N : Nat} {I : cM} {fs : List (Option Nat)}
theorem h_gi {K : Int32 → MM α} (h : a < 157) (hs : c_sh ra rb L a = .inr (.inr (ci, fs))) (hf : fs[k]? = some none) : m_gi a ci k K (hp ra rb L I) = K (I a k) (hp ra rb L I) := by
  unfold m_gi
  rw [hp_at I h, hs]
  show (if ci = ci then (match (fs.mapIdx (c_fv (I a)))[k]? with
    | some (.int x) => K x (hp ra rb L I)
    | _ => none) else none) = _
  rw [if_pos rfl, List.getElem?_mapIdx, hf]
  rfl
theorem h_gr {K : Nat → MM α} {x : Nat} (h : a < 157) (hs : c_sh ra rb L a = .inr (.inr (ci, fs))) (hf : fs[k]? = some (some x)) : m_gr a ci k K (hp ra rb L I) = K x (hp ra rb L I) := by
  unfold m_gr
  rw [hp_at I h, hs]
  show (if ci = ci then (match (fs.mapIdx (c_fv (I a)))[k]? with
    | some (.ref x) => K x (hp ra rb L I)
    | _ => none) else none) = _
  rw [if_pos rfl, List.getElem?_mapIdx, hf]
  rfl
theorem h_pi {K : MM α} {x : Int32} (h : a < 157) (hs : c_sh ra rb L a = .inr (.inr (ci, fs))) (hf : fs[k]? = some none) : m_pv a ci k (.int x) K (hp ra rb L I) = K (hp ra rb L (u2 I a k x)) := by
  unfold m_pv
  rw [hp_at I h, hs]
  show (if ci = ci ∧ k < (fs.mapIdx (c_fv (I a))).length then _ else none) = _
  have hl : k < fs.length := (List.getElem?_eq_some_iff.mp hf).1
  rw [if_pos ⟨rfl, by rw [List.length_mapIdx]; exact hl⟩, c_mapset fs _ _ _ hf, hp_up (upd (I a) k x) h (by rw [hs]; rfl), u1_upd]
theorem h_li {K : Int32 → MM α} {i : Int32} (h : a < 157) (hs : c_sh ra rb L a = .inl (t, N)) (hi : ¬ (i < 0 ∨ N ≤ i.toNatClampNeg)) : m_li t a i K (hp ra rb L I) = K (I a i.toNatClampNeg) (hp ra rb L I) := by
  unfold m_li
  rw [hp_at I h, hs]
  show (if t = t ∧ ¬ (i < 0 ∨ N ≤ i.toNatClampNeg) then _ else none) = _
  rw [if_pos ⟨rfl, hi⟩]
theorem h_si {K : MM α} {i x : Int32} (h : a < 157) (hs : c_sh ra rb L a = .inl (0, N)) (h3 : 3 ≤ a) (hi : ¬ (i < 0 ∨ N ≤ i.toNatClampNeg)) : m_si a i x K (hp ra rb L I) = K (hp ra rb L (u2 I a i.toNatClampNeg x)) := by
  unfold m_si
  rw [hp_at I h, hs]
  show (if 0 = 0 ∧ 3 ≤ a ∧ ¬ (i < 0 ∨ N ≤ i.toNatClampNeg) then _ else none) = _
  rw [if_pos ⟨rfl, h3, hi⟩, hp_up (upd (I a) i.toNatClampNeg x) h (by rw [hs]; rfl), u1_upd]
theorem h_sz {K : MM α} {i x : Int32} (h : a < 157) (hs : c_sh ra rb L a = .inl (1, N)) (h3 : 3 ≤ a) (hi : ¬ (i < 0 ∨ N ≤ i.toNatClampNeg)) (hx : x &&& 1 = x) : m_sz a i x K (hp ra rb L I) = K (hp ra rb L (u2 I a i.toNatClampNeg x)) := by
  unfold m_sz
  rw [hp_at I h, hs]
  show (if 1 = 1 ∧ 3 ≤ a ∧ ¬ (i < 0 ∨ N ≤ i.toNatClampNeg) ∧ x &&& 1 = x then _ else none) = _
  rw [if_pos ⟨rfl, h3, hi, hx⟩, hp_up (upd (I a) i.toNatClampNeg x) h (by rw [hs]; rfl), u1_upd]
theorem h_lr {K : Nat → MM α} {i : Int32} {g : Nat → Option Nat} {y : Nat} (h : a < 157) (hs : c_sh ra rb L a = .inr (.inl (t, N, g))) (hi : ¬ (i < 0 ∨ N ≤ i.toNatClampNeg)) (hy : g i.toNatClampNeg = some y) : m_lr t a i K (hp ra rb L I) = K y (hp ra rb L I) := by
  unfold m_lr
  rw [hp_at I h, hs]
  show (if t = t ∧ ¬ (i < 0 ∨ N ≤ i.toNatClampNeg) then (match g i.toNatClampNeg with
    | some y => K y (hp ra rb L I)
    | none => none) else none) = _
  rw [if_pos ⟨rfl, hi⟩, hy]
theorem h_len {K : Int32 → MM α} (h : a < 157) (hs : c_sh ra rb L a = .inl (t, N)) (ht : t < 99) : m_len a K (hp ra rb L I) = K (nI N) (hp ra rb L I) := by
  unfold m_len
  rw [hp_at I h, hs]
  show (if t < 99 then _ else none) = _
  rw [if_pos ht]
  rfl
theorem h_cv {F : MM α} {K : α → MM β} (h : a < 157) (hs : c_sh ra rb L a = .inr (.inr (ci, fs))) : m_cv a ci F K (hp ra rb L I) = m_bind F K (hp ra rb L I) := by
  unfold m_cv
  rw [hp_at I h, hs]
  show (if ci = ci then _ else none) = _
  rw [if_pos rfl]
theorem h_cp {K : MM α} {a1 N1 : Nat} {n : Int32} (h : a < 157) (h1 : a1 < 157) (hs : c_sh ra rb L a = .inl (0, N)) (hs1 : c_sh ra rb L a1 = .inl (0, N1)) (h3 : 3 ≤ a) (h31 : 3 ≤ a1) (hn : ¬ n < 0) (hN : n.toNatClampNeg ≤ N) (hN1 : n.toNatClampNeg ≤ N1) : m_cp a a1 n K (hp ra rb L I) = K (hp ra rb L (u1 I a1 (va_cpy (I a) (I a1) 0 0 n.toNatClampNeg))) := by
  unfold m_cp
  rw [hp_at I h, hp_at I h1, hs, hs1]
  show (if 0 = 0 ∧ 0 = 0 ∧ 3 ≤ a ∧ 3 ≤ a1 ∧ ¬ n < 0 ∧ n.toNatClampNeg ≤ N ∧ n.toNatClampNeg ≤ N1 then _ else none) = _
  rw [if_pos ⟨rfl, rfl, h3, h31, hn, hN, hN1⟩, hp_up (va_cpy (I a) (I a1) 0 0 n.toNatClampNeg) h1 (by rw [hs1]; rfl)]
theorem c_ix {j N : Nat} (h : j < N) (hN : N < 2 ^ 31) : ¬ (nI j < 0 ∨ N ≤ (nI j).toNatClampNeg) := nI_in h hN
theorem h_l {K : Int32 → MM α} {j : Nat} (h : a < 157) (hs : c_sh ra rb L a = .inl (t, N)) (hN : N < 2 ^ 31) (hj : j < N) : m_li t a (nI j) K (hp ra rb L I) = K (I a j) (hp ra rb L I) := by
  rw [h_li h hs (c_ix hj hN), nI_clamp (by omega)]
theorem h_s {K : MM α} {x : Int32} {j : Nat} (h : a < 157) (hs : c_sh ra rb L a = .inl (0, N)) (h3 : 3 ≤ a) (hN : N < 2 ^ 31) (hj : j < N) : m_si a (nI j) x K (hp ra rb L I) = K (hp ra rb L (u2 I a j x)) := by
  rw [h_si h hs h3 (c_ix hj hN), nI_clamp (by omega)]
theorem h_z {K : MM α} {x : Int32} {j : Nat} (h : a < 157) (hs : c_sh ra rb L a = .inl (1, N)) (h3 : 3 ≤ a) (hN : N < 2 ^ 31) (hj : j < N) (hx : x &&& 1 = x) : m_sz a (nI j) x K (hp ra rb L I) = K (hp ra rb L (u2 I a j x)) := by
  rw [h_sz h hs h3 (c_ix hj hN) hx, nI_clamp (by omega)]
end HP
section HL
variable {α β : Type} {ra rb L : Nat} {I : cM}
theorem g_3_0 {K : Nat → MM α} : m_gr 3 8 0 K (hp ra rb L I) = K 4 (hp ra rb L I) := h_gr (by decide) rfl rfl
theorem g_3_1 {K : Nat → MM α} : m_gr 3 8 1 K (hp ra rb L I) = K 6 (hp ra rb L I) := h_gr (by decide) rfl rfl
theorem g_3_2 {K : Nat → MM α} : m_gr 3 8 2 K (hp ra rb L I) = K 11 (hp ra rb L I) := h_gr (by decide) rfl rfl
theorem g_3_3 {K : Nat → MM α} : m_gr 3 8 3 K (hp ra rb L I) = K 93 (hp ra rb L I) := h_gr (by decide) rfl rfl
theorem g_3_4 {K : Nat → MM α} : m_gr 3 8 4 K (hp ra rb L I) = K 96 (hp ra rb L I) := h_gr (by decide) rfl rfl
theorem g_3_5 {K : Nat → MM α} : m_gr 3 8 5 K (hp ra rb L I) = K 97 (hp ra rb L I) := h_gr (by decide) rfl rfl
theorem g_3_6 {K : Nat → MM α} : m_gr 3 8 6 K (hp ra rb L I) = K 102 (hp ra rb L I) := h_gr (by decide) rfl rfl
theorem g_3_7 {K : Nat → MM α} : m_gr 3 8 7 K (hp ra rb L I) = K ra (hp ra rb L I) := h_gr (by decide) rfl rfl
theorem g_3_8 {K : Nat → MM α} : m_gr 3 8 8 K (hp ra rb L I) = K rb (hp ra rb L I) := h_gr (by decide) rfl rfl
theorem g_3_9 {K : Int32 → MM α} : m_gi 3 8 9 K (hp ra rb L I) = K (I 3 9) (hp ra rb L I) := h_gi (by decide) rfl rfl
theorem p_3_9 {K : MM α} {x : Int32} : m_pv 3 8 9 (.int x) K (hp ra rb L I) = K (hp ra rb L (u2 I 3 9 x)) := h_pi (by decide) rfl rfl
theorem v_3 {F : MM α} {K : α → MM β} : m_cv 3 8 F K (hp ra rb L I) = m_bind F K (hp ra rb L I) := h_cv (by decide) rfl
theorem g_4_0 {K : Nat → MM α} : m_gr 4 6 0 K (hp ra rb L I) = K 5 (hp ra rb L I) := h_gr (by decide) rfl rfl
theorem g_4_1 {K : Int32 → MM α} : m_gi 4 6 1 K (hp ra rb L I) = K (I 4 1) (hp ra rb L I) := h_gi (by decide) rfl rfl
theorem p_4_1 {K : MM α} {x : Int32} : m_pv 4 6 1 (.int x) K (hp ra rb L I) = K (hp ra rb L (u2 I 4 1 x)) := h_pi (by decide) rfl rfl
theorem g_4_2 {K : Int32 → MM α} : m_gi 4 6 2 K (hp ra rb L I) = K (I 4 2) (hp ra rb L I) := h_gi (by decide) rfl rfl
theorem p_4_2 {K : MM α} {x : Int32} : m_pv 4 6 2 (.int x) K (hp ra rb L I) = K (hp ra rb L (u2 I 4 2 x)) := h_pi (by decide) rfl rfl
theorem g_4_3 {K : Int32 → MM α} : m_gi 4 6 3 K (hp ra rb L I) = K (I 4 3) (hp ra rb L I) := h_gi (by decide) rfl rfl
theorem p_4_3 {K : MM α} {x : Int32} : m_pv 4 6 3 (.int x) K (hp ra rb L I) = K (hp ra rb L (u2 I 4 3 x)) := h_pi (by decide) rfl rfl
theorem g_4_4 {K : Int32 → MM α} : m_gi 4 6 4 K (hp ra rb L I) = K (I 4 4) (hp ra rb L I) := h_gi (by decide) rfl rfl
theorem p_4_4 {K : MM α} {x : Int32} : m_pv 4 6 4 (.int x) K (hp ra rb L I) = K (hp ra rb L (u2 I 4 4 x)) := h_pi (by decide) rfl rfl
theorem v_4 {F : MM α} {K : α → MM β} : m_cv 4 6 F K (hp ra rb L I) = m_bind F K (hp ra rb L I) := h_cv (by decide) rfl
theorem g_11_0 {K : Nat → MM α} : m_gr 11 3 0 K (hp ra rb L I) = K 12 (hp ra rb L I) := h_gr (by decide) rfl rfl
theorem g_11_1 {K : Int32 → MM α} : m_gi 11 3 1 K (hp ra rb L I) = K (I 11 1) (hp ra rb L I) := h_gi (by decide) rfl rfl
theorem p_11_1 {K : MM α} {x : Int32} : m_pv 11 3 1 (.int x) K (hp ra rb L I) = K (hp ra rb L (u2 I 11 1 x)) := h_pi (by decide) rfl rfl
theorem g_11_2 {K : Int32 → MM α} : m_gi 11 3 2 K (hp ra rb L I) = K (I 11 2) (hp ra rb L I) := h_gi (by decide) rfl rfl
theorem p_11_2 {K : MM α} {x : Int32} : m_pv 11 3 2 (.int x) K (hp ra rb L I) = K (hp ra rb L (u2 I 11 2 x)) := h_pi (by decide) rfl rfl
theorem v_11 {F : MM α} {K : α → MM β} : m_cv 11 3 F K (hp ra rb L I) = m_bind F K (hp ra rb L I) := h_cv (by decide) rfl
theorem g_93_0 {K : Nat → MM α} : m_gr 93 0 0 K (hp ra rb L I) = K 94 (hp ra rb L I) := h_gr (by decide) rfl rfl
theorem g_93_1 {K : Nat → MM α} : m_gr 93 0 1 K (hp ra rb L I) = K 95 (hp ra rb L I) := h_gr (by decide) rfl rfl
theorem g_93_2 {K : Int32 → MM α} : m_gi 93 0 2 K (hp ra rb L I) = K (I 93 2) (hp ra rb L I) := h_gi (by decide) rfl rfl
theorem p_93_2 {K : MM α} {x : Int32} : m_pv 93 0 2 (.int x) K (hp ra rb L I) = K (hp ra rb L (u2 I 93 2 x)) := h_pi (by decide) rfl rfl
theorem v_93 {F : MM α} {K : α → MM β} : m_cv 93 0 F K (hp ra rb L I) = m_bind F K (hp ra rb L I) := h_cv (by decide) rfl
theorem g_97_0 {K : Nat → MM α} : m_gr 97 2 0 K (hp ra rb L I) = K 98 (hp ra rb L I) := h_gr (by decide) rfl rfl
theorem g_97_1 {K : Nat → MM α} : m_gr 97 2 1 K (hp ra rb L I) = K 99 (hp ra rb L I) := h_gr (by decide) rfl rfl
theorem g_97_2 {K : Nat → MM α} : m_gr 97 2 2 K (hp ra rb L I) = K 100 (hp ra rb L I) := h_gr (by decide) rfl rfl
theorem g_97_3 {K : Nat → MM α} : m_gr 97 2 3 K (hp ra rb L I) = K 101 (hp ra rb L I) := h_gr (by decide) rfl rfl
theorem g_97_4 {K : Int32 → MM α} : m_gi 97 2 4 K (hp ra rb L I) = K (I 97 4) (hp ra rb L I) := h_gi (by decide) rfl rfl
theorem p_97_4 {K : MM α} {x : Int32} : m_pv 97 2 4 (.int x) K (hp ra rb L I) = K (hp ra rb L (u2 I 97 4 x)) := h_pi (by decide) rfl rfl
theorem v_97 {F : MM α} {K : α → MM β} : m_cv 97 2 F K (hp ra rb L I) = m_bind F K (hp ra rb L I) := h_cv (by decide) rfl
theorem g_102_0 {K : Nat → MM α} : m_gr 102 7 0 K (hp ra rb L I) = K 103 (hp ra rb L I) := h_gr (by decide) rfl rfl
theorem g_102_1 {K : Nat → MM α} : m_gr 102 7 1 K (hp ra rb L I) = K 104 (hp ra rb L I) := h_gr (by decide) rfl rfl
theorem v_102 {F : MM α} {K : α → MM β} : m_cv 102 7 F K (hp ra rb L I) = m_bind F K (hp ra rb L I) := h_cv (by decide) rfl
theorem g_125_0 {K : Nat → MM α} : m_gr 125 1 0 K (hp ra rb L I) = K 126 (hp ra rb L I) := h_gr (by decide) rfl rfl
theorem g_125_1 {K : Int32 → MM α} : m_gi 125 1 1 K (hp ra rb L I) = K (I 125 1) (hp ra rb L I) := h_gi (by decide) rfl rfl
theorem p_125_1 {K : MM α} {x : Int32} : m_pv 125 1 1 (.int x) K (hp ra rb L I) = K (hp ra rb L (u2 I 125 1 x)) := h_pi (by decide) rfl rfl
theorem g_125_2 {K : Int32 → MM α} : m_gi 125 1 2 K (hp ra rb L I) = K (I 125 2) (hp ra rb L I) := h_gi (by decide) rfl rfl
theorem p_125_2 {K : MM α} {x : Int32} : m_pv 125 1 2 (.int x) K (hp ra rb L I) = K (hp ra rb L (u2 I 125 2 x)) := h_pi (by decide) rfl rfl
theorem v_125 {F : MM α} {K : α → MM β} : m_cv 125 1 F K (hp ra rb L I) = m_bind F K (hp ra rb L I) := h_cv (by decide) rfl
theorem g_131_0 {K : Nat → MM α} : m_gr 131 1 0 K (hp ra rb L I) = K 132 (hp ra rb L I) := h_gr (by decide) rfl rfl
theorem g_131_1 {K : Int32 → MM α} : m_gi 131 1 1 K (hp ra rb L I) = K (I 131 1) (hp ra rb L I) := h_gi (by decide) rfl rfl
theorem p_131_1 {K : MM α} {x : Int32} : m_pv 131 1 1 (.int x) K (hp ra rb L I) = K (hp ra rb L (u2 I 131 1 x)) := h_pi (by decide) rfl rfl
theorem g_131_2 {K : Int32 → MM α} : m_gi 131 1 2 K (hp ra rb L I) = K (I 131 2) (hp ra rb L I) := h_gi (by decide) rfl rfl
theorem p_131_2 {K : MM α} {x : Int32} : m_pv 131 1 2 (.int x) K (hp ra rb L I) = K (hp ra rb L (u2 I 131 2 x)) := h_pi (by decide) rfl rfl
theorem v_131 {F : MM α} {K : α → MM β} : m_cv 131 1 F K (hp ra rb L I) = m_bind F K (hp ra rb L I) := h_cv (by decide) rfl
theorem g_137_0 {K : Int32 → MM α} : m_gi 137 9 0 K (hp ra rb L I) = K (I 137 0) (hp ra rb L I) := h_gi (by decide) rfl rfl
theorem p_137_0 {K : MM α} {x : Int32} : m_pv 137 9 0 (.int x) K (hp ra rb L I) = K (hp ra rb L (u2 I 137 0 x)) := h_pi (by decide) rfl rfl
theorem g_137_1 {K : Nat → MM α} : m_gr 137 9 1 K (hp ra rb L I) = K 138 (hp ra rb L I) := h_gr (by decide) rfl rfl
theorem g_137_2 {K : Int32 → MM α} : m_gi 137 9 2 K (hp ra rb L I) = K (I 137 2) (hp ra rb L I) := h_gi (by decide) rfl rfl
theorem p_137_2 {K : MM α} {x : Int32} : m_pv 137 9 2 (.int x) K (hp ra rb L I) = K (hp ra rb L (u2 I 137 2 x)) := h_pi (by decide) rfl rfl
theorem g_137_3 {K : Nat → MM α} : m_gr 137 9 3 K (hp ra rb L I) = K 139 (hp ra rb L I) := h_gr (by decide) rfl rfl
theorem g_137_4 {K : Nat → MM α} : m_gr 137 9 4 K (hp ra rb L I) = K 140 (hp ra rb L I) := h_gr (by decide) rfl rfl
theorem g_137_5 {K : Nat → MM α} : m_gr 137 9 5 K (hp ra rb L I) = K 141 (hp ra rb L I) := h_gr (by decide) rfl rfl
theorem g_137_6 {K : Int32 → MM α} : m_gi 137 9 6 K (hp ra rb L I) = K (I 137 6) (hp ra rb L I) := h_gi (by decide) rfl rfl
theorem p_137_6 {K : MM α} {x : Int32} : m_pv 137 9 6 (.int x) K (hp ra rb L I) = K (hp ra rb L (u2 I 137 6 x)) := h_pi (by decide) rfl rfl
theorem g_137_7 {K : Int32 → MM α} : m_gi 137 9 7 K (hp ra rb L I) = K (I 137 7) (hp ra rb L I) := h_gi (by decide) rfl rfl
theorem p_137_7 {K : MM α} {x : Int32} : m_pv 137 9 7 (.int x) K (hp ra rb L I) = K (hp ra rb L (u2 I 137 7 x)) := h_pi (by decide) rfl rfl
theorem g_137_8 {K : Nat → MM α} : m_gr 137 9 8 K (hp ra rb L I) = K 142 (hp ra rb L I) := h_gr (by decide) rfl rfl
theorem g_137_9 {K : Int32 → MM α} : m_gi 137 9 9 K (hp ra rb L I) = K (I 137 9) (hp ra rb L I) := h_gi (by decide) rfl rfl
theorem p_137_9 {K : MM α} {x : Int32} : m_pv 137 9 9 (.int x) K (hp ra rb L I) = K (hp ra rb L (u2 I 137 9 x)) := h_pi (by decide) rfl rfl
theorem g_137_10 {K : Nat → MM α} : m_gr 137 9 10 K (hp ra rb L I) = K 143 (hp ra rb L I) := h_gr (by decide) rfl rfl
theorem g_137_11 {K : Int32 → MM α} : m_gi 137 9 11 K (hp ra rb L I) = K (I 137 11) (hp ra rb L I) := h_gi (by decide) rfl rfl
theorem p_137_11 {K : MM α} {x : Int32} : m_pv 137 9 11 (.int x) K (hp ra rb L I) = K (hp ra rb L (u2 I 137 11 x)) := h_pi (by decide) rfl rfl
theorem g_137_12 {K : Int32 → MM α} : m_gi 137 9 12 K (hp ra rb L I) = K (I 137 12) (hp ra rb L I) := h_gi (by decide) rfl rfl
theorem p_137_12 {K : MM α} {x : Int32} : m_pv 137 9 12 (.int x) K (hp ra rb L I) = K (hp ra rb L (u2 I 137 12 x)) := h_pi (by decide) rfl rfl
theorem g_137_13 {K : Int32 → MM α} : m_gi 137 9 13 K (hp ra rb L I) = K (I 137 13) (hp ra rb L I) := h_gi (by decide) rfl rfl
theorem p_137_13 {K : MM α} {x : Int32} : m_pv 137 9 13 (.int x) K (hp ra rb L I) = K (hp ra rb L (u2 I 137 13 x)) := h_pi (by decide) rfl rfl
theorem g_137_14 {K : Int32 → MM α} : m_gi 137 9 14 K (hp ra rb L I) = K (I 137 14) (hp ra rb L I) := h_gi (by decide) rfl rfl
theorem p_137_14 {K : MM α} {x : Int32} : m_pv 137 9 14 (.int x) K (hp ra rb L I) = K (hp ra rb L (u2 I 137 14 x)) := h_pi (by decide) rfl rfl
theorem g_137_15 {K : Int32 → MM α} : m_gi 137 9 15 K (hp ra rb L I) = K (I 137 15) (hp ra rb L I) := h_gi (by decide) rfl rfl
theorem p_137_15 {K : MM α} {x : Int32} : m_pv 137 9 15 (.int x) K (hp ra rb L I) = K (hp ra rb L (u2 I 137 15 x)) := h_pi (by decide) rfl rfl
theorem g_137_16 {K : Int32 → MM α} : m_gi 137 9 16 K (hp ra rb L I) = K (I 137 16) (hp ra rb L I) := h_gi (by decide) rfl rfl
theorem p_137_16 {K : MM α} {x : Int32} : m_pv 137 9 16 (.int x) K (hp ra rb L I) = K (hp ra rb L (u2 I 137 16 x)) := h_pi (by decide) rfl rfl
theorem g_137_17 {K : Nat → MM α} : m_gr 137 9 17 K (hp ra rb L I) = K 144 (hp ra rb L I) := h_gr (by decide) rfl rfl
theorem g_137_18 {K : Int32 → MM α} : m_gi 137 9 18 K (hp ra rb L I) = K (I 137 18) (hp ra rb L I) := h_gi (by decide) rfl rfl
theorem p_137_18 {K : MM α} {x : Int32} : m_pv 137 9 18 (.int x) K (hp ra rb L I) = K (hp ra rb L (u2 I 137 18 x)) := h_pi (by decide) rfl rfl
theorem g_137_19 {K : Nat → MM α} : m_gr 137 9 19 K (hp ra rb L I) = K 145 (hp ra rb L I) := h_gr (by decide) rfl rfl
theorem g_137_20 {K : Nat → MM α} : m_gr 137 9 20 K (hp ra rb L I) = K 146 (hp ra rb L I) := h_gr (by decide) rfl rfl
theorem g_137_21 {K : Nat → MM α} : m_gr 137 9 21 K (hp ra rb L I) = K 147 (hp ra rb L I) := h_gr (by decide) rfl rfl
theorem g_137_22 {K : Int32 → MM α} : m_gi 137 9 22 K (hp ra rb L I) = K (I 137 22) (hp ra rb L I) := h_gi (by decide) rfl rfl
theorem p_137_22 {K : MM α} {x : Int32} : m_pv 137 9 22 (.int x) K (hp ra rb L I) = K (hp ra rb L (u2 I 137 22 x)) := h_pi (by decide) rfl rfl
theorem g_137_23 {K : Int32 → MM α} : m_gi 137 9 23 K (hp ra rb L I) = K (I 137 23) (hp ra rb L I) := h_gi (by decide) rfl rfl
theorem p_137_23 {K : MM α} {x : Int32} : m_pv 137 9 23 (.int x) K (hp ra rb L I) = K (hp ra rb L (u2 I 137 23 x)) := h_pi (by decide) rfl rfl
theorem g_137_24 {K : Int32 → MM α} : m_gi 137 9 24 K (hp ra rb L I) = K (I 137 24) (hp ra rb L I) := h_gi (by decide) rfl rfl
theorem p_137_24 {K : MM α} {x : Int32} : m_pv 137 9 24 (.int x) K (hp ra rb L I) = K (hp ra rb L (u2 I 137 24 x)) := h_pi (by decide) rfl rfl
theorem g_137_25 {K : Int32 → MM α} : m_gi 137 9 25 K (hp ra rb L I) = K (I 137 25) (hp ra rb L I) := h_gi (by decide) rfl rfl
theorem p_137_25 {K : MM α} {x : Int32} : m_pv 137 9 25 (.int x) K (hp ra rb L I) = K (hp ra rb L (u2 I 137 25 x)) := h_pi (by decide) rfl rfl
theorem g_137_26 {K : Nat → MM α} : m_gr 137 9 26 K (hp ra rb L I) = K 148 (hp ra rb L I) := h_gr (by decide) rfl rfl
theorem g_137_27 {K : Nat → MM α} : m_gr 137 9 27 K (hp ra rb L I) = K 149 (hp ra rb L I) := h_gr (by decide) rfl rfl
theorem g_137_28 {K : Nat → MM α} : m_gr 137 9 28 K (hp ra rb L I) = K 150 (hp ra rb L I) := h_gr (by decide) rfl rfl
theorem g_137_29 {K : Nat → MM α} : m_gr 137 9 29 K (hp ra rb L I) = K 151 (hp ra rb L I) := h_gr (by decide) rfl rfl
theorem g_137_30 {K : Nat → MM α} : m_gr 137 9 30 K (hp ra rb L I) = K 152 (hp ra rb L I) := h_gr (by decide) rfl rfl
theorem g_137_31 {K : Int32 → MM α} : m_gi 137 9 31 K (hp ra rb L I) = K (I 137 31) (hp ra rb L I) := h_gi (by decide) rfl rfl
theorem p_137_31 {K : MM α} {x : Int32} : m_pv 137 9 31 (.int x) K (hp ra rb L I) = K (hp ra rb L (u2 I 137 31 x)) := h_pi (by decide) rfl rfl
theorem g_137_32 {K : Nat → MM α} : m_gr 137 9 32 K (hp ra rb L I) = K 153 (hp ra rb L I) := h_gr (by decide) rfl rfl
theorem g_137_33 {K : Nat → MM α} : m_gr 137 9 33 K (hp ra rb L I) = K 154 (hp ra rb L I) := h_gr (by decide) rfl rfl
theorem g_137_34 {K : Nat → MM α} : m_gr 137 9 34 K (hp ra rb L I) = K 155 (hp ra rb L I) := h_gr (by decide) rfl rfl
theorem g_137_35 {K : Nat → MM α} : m_gr 137 9 35 K (hp ra rb L I) = K 156 (hp ra rb L I) := h_gr (by decide) rfl rfl
theorem v_137 {F : MM α} {K : α → MM β} : m_cv 137 9 F K (hp ra rb L I) = m_bind F K (hp ra rb L I) := h_cv (by decide) rfl
theorem l_0 {K : Int32 → MM α} {j : Nat} (hj : j < 7) : m_li 0 0 (nI j) K (hp ra rb L I) = K (I 0 j) (hp ra rb L I) := h_l (by decide) rfl (by decide) hj
theorem l_1 {K : Int32 → MM α} {j : Nat} (hj : j < 18) : m_li 0 1 (nI j) K (hp ra rb L I) = K (I 1 j) (hp ra rb L I) := h_l (by decide) rfl (by decide) hj
theorem l_5 {K : Int32 → MM α} {j : Nat} (hj : j < 240) : m_li 0 5 (nI j) K (hp ra rb L I) = K (I 5 j) (hp ra rb L I) := h_l (by decide) rfl (by decide) hj
theorem s_5 {K : MM α} {x : Int32} {j : Nat} (hj : j < 240) : m_si 5 (nI j) x K (hp ra rb L I) = K (hp ra rb L (u2 I 5 j x)) := h_s (by decide) rfl (by decide) (by decide) hj
theorem l_94 {K : Int32 → MM α} {j : Nat} (hj : j < 15) : m_li 0 94 (nI j) K (hp ra rb L I) = K (I 94 j) (hp ra rb L I) := h_l (by decide) rfl (by decide) hj
theorem s_94 {K : MM α} {x : Int32} {j : Nat} (hj : j < 15) : m_si 94 (nI j) x K (hp ra rb L I) = K (hp ra rb L (u2 I 94 j x)) := h_s (by decide) rfl (by decide) (by decide) hj
theorem l_95 {K : Int32 → MM α} {j : Nat} (hj : j < 15) : m_li 0 95 (nI j) K (hp ra rb L I) = K (I 95 j) (hp ra rb L I) := h_l (by decide) rfl (by decide) hj
theorem s_95 {K : MM α} {x : Int32} {j : Nat} (hj : j < 15) : m_si 95 (nI j) x K (hp ra rb L I) = K (hp ra rb L (u2 I 95 j x)) := h_s (by decide) rfl (by decide) (by decide) hj
theorem l_98 {K : Int32 → MM α} {j : Nat} (hj : j < 8) : m_li 0 98 (nI j) K (hp ra rb L I) = K (I 98 j) (hp ra rb L I) := h_l (by decide) rfl (by decide) hj
theorem s_98 {K : MM α} {x : Int32} {j : Nat} (hj : j < 8) : m_si 98 (nI j) x K (hp ra rb L I) = K (hp ra rb L (u2 I 98 j x)) := h_s (by decide) rfl (by decide) (by decide) hj
theorem l_99 {K : Int32 → MM α} {j : Nat} (hj : j < 8) : m_li 0 99 (nI j) K (hp ra rb L I) = K (I 99 j) (hp ra rb L I) := h_l (by decide) rfl (by decide) hj
theorem s_99 {K : MM α} {x : Int32} {j : Nat} (hj : j < 8) : m_si 99 (nI j) x K (hp ra rb L I) = K (hp ra rb L (u2 I 99 j x)) := h_s (by decide) rfl (by decide) (by decide) hj
theorem l_100 {K : Int32 → MM α} {j : Nat} (hj : j < 256) : m_li 0 100 (nI j) K (hp ra rb L I) = K (I 100 j) (hp ra rb L I) := h_l (by decide) rfl (by decide) hj
theorem s_100 {K : MM α} {x : Int32} {j : Nat} (hj : j < 256) : m_si 100 (nI j) x K (hp ra rb L I) = K (hp ra rb L (u2 I 100 j x)) := h_s (by decide) rfl (by decide) (by decide) hj
theorem l_101 {K : Int32 → MM α} {j : Nat} (hj : j < 256) : m_li 0 101 (nI j) K (hp ra rb L I) = K (I 101 j) (hp ra rb L I) := h_l (by decide) rfl (by decide) hj
theorem s_101 {K : MM α} {x : Int32} {j : Nat} (hj : j < 256) : m_si 101 (nI j) x K (hp ra rb L I) = K (hp ra rb L (u2 I 101 j x)) := h_s (by decide) rfl (by decide) (by decide) hj
theorem l_103 {K : Int32 → MM α} {j : Nat} (hj : j < 7) : m_li 0 103 (nI j) K (hp ra rb L I) = K (I 103 j) (hp ra rb L I) := h_l (by decide) rfl (by decide) hj
theorem s_103 {K : MM α} {x : Int32} {j : Nat} (hj : j < 7) : m_si 103 (nI j) x K (hp ra rb L I) = K (hp ra rb L (u2 I 103 j x)) := h_s (by decide) rfl (by decide) (by decide) hj
theorem l_105 {K : Int32 → MM α} {j : Nat} (hj : j < 256) : m_li 0 105 (nI j) K (hp ra rb L I) = K (I 105 j) (hp ra rb L I) := h_l (by decide) rfl (by decide) hj
theorem s_105 {K : MM α} {x : Int32} {j : Nat} (hj : j < 256) : m_si 105 (nI j) x K (hp ra rb L I) = K (hp ra rb L (u2 I 105 j x)) := h_s (by decide) rfl (by decide) (by decide) hj
theorem l_106 {K : Int32 → MM α} {j : Nat} (hj : j < 256) : m_li 0 106 (nI j) K (hp ra rb L I) = K (I 106 j) (hp ra rb L I) := h_l (by decide) rfl (by decide) hj
theorem s_106 {K : MM α} {x : Int32} {j : Nat} (hj : j < 256) : m_si 106 (nI j) x K (hp ra rb L I) = K (hp ra rb L (u2 I 106 j x)) := h_s (by decide) rfl (by decide) (by decide) hj
theorem l_107 {K : Int32 → MM α} {j : Nat} (hj : j < 256) : m_li 0 107 (nI j) K (hp ra rb L I) = K (I 107 j) (hp ra rb L I) := h_l (by decide) rfl (by decide) hj
theorem s_107 {K : MM α} {x : Int32} {j : Nat} (hj : j < 256) : m_si 107 (nI j) x K (hp ra rb L I) = K (hp ra rb L (u2 I 107 j x)) := h_s (by decide) rfl (by decide) (by decide) hj
theorem l_108 {K : Int32 → MM α} {j : Nat} (hj : j < 256) : m_li 0 108 (nI j) K (hp ra rb L I) = K (I 108 j) (hp ra rb L I) := h_l (by decide) rfl (by decide) hj
theorem s_108 {K : MM α} {x : Int32} {j : Nat} (hj : j < 256) : m_si 108 (nI j) x K (hp ra rb L I) = K (hp ra rb L (u2 I 108 j x)) := h_s (by decide) rfl (by decide) (by decide) hj
theorem l_109 {K : Int32 → MM α} {j : Nat} (hj : j < 256) : m_li 0 109 (nI j) K (hp ra rb L I) = K (I 109 j) (hp ra rb L I) := h_l (by decide) rfl (by decide) hj
theorem s_109 {K : MM α} {x : Int32} {j : Nat} (hj : j < 256) : m_si 109 (nI j) x K (hp ra rb L I) = K (hp ra rb L (u2 I 109 j x)) := h_s (by decide) rfl (by decide) (by decide) hj
theorem l_110 {K : Int32 → MM α} {j : Nat} (hj : j < 256) : m_li 0 110 (nI j) K (hp ra rb L I) = K (I 110 j) (hp ra rb L I) := h_l (by decide) rfl (by decide) hj
theorem s_110 {K : MM α} {x : Int32} {j : Nat} (hj : j < 256) : m_si 110 (nI j) x K (hp ra rb L I) = K (hp ra rb L (u2 I 110 j x)) := h_s (by decide) rfl (by decide) (by decide) hj
theorem l_111 {K : Int32 → MM α} {j : Nat} (hj : j < 256) : m_li 0 111 (nI j) K (hp ra rb L I) = K (I 111 j) (hp ra rb L I) := h_l (by decide) rfl (by decide) hj
theorem s_111 {K : MM α} {x : Int32} {j : Nat} (hj : j < 256) : m_si 111 (nI j) x K (hp ra rb L I) = K (hp ra rb L (u2 I 111 j x)) := h_s (by decide) rfl (by decide) (by decide) hj
theorem l_112 {K : Int32 → MM α} {j : Nat} (hj : j < 256) : m_li 0 112 (nI j) K (hp ra rb L I) = K (I 112 j) (hp ra rb L I) := h_l (by decide) rfl (by decide) hj
theorem s_112 {K : MM α} {x : Int32} {j : Nat} (hj : j < 256) : m_si 112 (nI j) x K (hp ra rb L I) = K (hp ra rb L (u2 I 112 j x)) := h_s (by decide) rfl (by decide) (by decide) hj
theorem l_138 {K : Int32 → MM α} {j : Nat} (hj : j < 7) : m_li 0 138 (nI j) K (hp ra rb L I) = K (I 138 j) (hp ra rb L I) := h_l (by decide) rfl (by decide) hj
theorem s_138 {K : MM α} {x : Int32} {j : Nat} (hj : j < 7) : m_si 138 (nI j) x K (hp ra rb L I) = K (hp ra rb L (u2 I 138 j x)) := h_s (by decide) rfl (by decide) (by decide) hj
theorem l_139 {K : Int32 → MM α} {j : Nat} (hj : j < 8) : m_li 0 139 (nI j) K (hp ra rb L I) = K (I 139 j) (hp ra rb L I) := h_l (by decide) rfl (by decide) hj
theorem s_139 {K : MM α} {x : Int32} {j : Nat} (hj : j < 8) : m_si 139 (nI j) x K (hp ra rb L I) = K (hp ra rb L (u2 I 139 j x)) := h_s (by decide) rfl (by decide) (by decide) hj
theorem l_140 {K : Int32 → MM α} {j : Nat} (hj : j < 8) : m_li 0 140 (nI j) K (hp ra rb L I) = K (I 140 j) (hp ra rb L I) := h_l (by decide) rfl (by decide) hj
theorem s_140 {K : MM α} {x : Int32} {j : Nat} (hj : j < 8) : m_si 140 (nI j) x K (hp ra rb L I) = K (hp ra rb L (u2 I 140 j x)) := h_s (by decide) rfl (by decide) (by decide) hj
theorem l_141 {K : Int32 → MM α} {j : Nat} (hj : j < 8) : m_li 0 141 (nI j) K (hp ra rb L I) = K (I 141 j) (hp ra rb L I) := h_l (by decide) rfl (by decide) hj
theorem s_141 {K : MM α} {x : Int32} {j : Nat} (hj : j < 8) : m_si 141 (nI j) x K (hp ra rb L I) = K (hp ra rb L (u2 I 141 j x)) := h_s (by decide) rfl (by decide) (by decide) hj
theorem l_142 {K : Int32 → MM α} {j : Nat} (hj : j < 36) : m_li 0 142 (nI j) K (hp ra rb L I) = K (I 142 j) (hp ra rb L I) := h_l (by decide) rfl (by decide) hj
theorem s_142 {K : MM α} {x : Int32} {j : Nat} (hj : j < 36) : m_si 142 (nI j) x K (hp ra rb L I) = K (hp ra rb L (u2 I 142 j x)) := h_s (by decide) rfl (by decide) (by decide) hj
theorem l_143 {K : Int32 → MM α} {j : Nat} (hj : j < 240) : m_li 0 143 (nI j) K (hp ra rb L I) = K (I 143 j) (hp ra rb L I) := h_l (by decide) rfl (by decide) hj
theorem s_143 {K : MM α} {x : Int32} {j : Nat} (hj : j < 240) : m_si 143 (nI j) x K (hp ra rb L I) = K (hp ra rb L (u2 I 143 j x)) := h_s (by decide) rfl (by decide) (by decide) hj
theorem l_144 {K : Int32 → MM α} {j : Nat} (hj : j < 7) : m_li 0 144 (nI j) K (hp ra rb L I) = K (I 144 j) (hp ra rb L I) := h_l (by decide) rfl (by decide) hj
theorem s_144 {K : MM α} {x : Int32} {j : Nat} (hj : j < 7) : m_si 144 (nI j) x K (hp ra rb L I) = K (hp ra rb L (u2 I 144 j x)) := h_s (by decide) rfl (by decide) (by decide) hj
theorem l_145 {K : Int32 → MM α} {j : Nat} (hj : j < 8) : m_li 0 145 (nI j) K (hp ra rb L I) = K (I 145 j) (hp ra rb L I) := h_l (by decide) rfl (by decide) hj
theorem s_145 {K : MM α} {x : Int32} {j : Nat} (hj : j < 8) : m_si 145 (nI j) x K (hp ra rb L I) = K (hp ra rb L (u2 I 145 j x)) := h_s (by decide) rfl (by decide) (by decide) hj
theorem l_146 {K : Int32 → MM α} {j : Nat} (hj : j < 8) : m_li 0 146 (nI j) K (hp ra rb L I) = K (I 146 j) (hp ra rb L I) := h_l (by decide) rfl (by decide) hj
theorem s_146 {K : MM α} {x : Int32} {j : Nat} (hj : j < 8) : m_si 146 (nI j) x K (hp ra rb L I) = K (hp ra rb L (u2 I 146 j x)) := h_s (by decide) rfl (by decide) (by decide) hj
theorem l_147 {K : Int32 → MM α} {j : Nat} (hj : j < 8) : m_li 0 147 (nI j) K (hp ra rb L I) = K (I 147 j) (hp ra rb L I) := h_l (by decide) rfl (by decide) hj
theorem s_147 {K : MM α} {x : Int32} {j : Nat} (hj : j < 8) : m_si 147 (nI j) x K (hp ra rb L I) = K (hp ra rb L (u2 I 147 j x)) := h_s (by decide) rfl (by decide) (by decide) hj
theorem l_148 {K : Int32 → MM α} {j : Nat} (hj : j < 576) : m_li 0 148 (nI j) K (hp ra rb L I) = K (I 148 j) (hp ra rb L I) := h_l (by decide) rfl (by decide) hj
theorem s_148 {K : MM α} {x : Int32} {j : Nat} (hj : j < 576) : m_si 148 (nI j) x K (hp ra rb L I) = K (hp ra rb L (u2 I 148 j x)) := h_s (by decide) rfl (by decide) (by decide) hj
theorem l_149 {K : Int32 → MM α} {j : Nat} (hj : j < 36) : m_li 0 149 (nI j) K (hp ra rb L I) = K (I 149 j) (hp ra rb L I) := h_l (by decide) rfl (by decide) hj
theorem s_149 {K : MM α} {x : Int32} {j : Nat} (hj : j < 36) : m_si 149 (nI j) x K (hp ra rb L I) = K (hp ra rb L (u2 I 149 j x)) := h_s (by decide) rfl (by decide) (by decide) hj
theorem l_150 {K : Int32 → MM α} {j : Nat} (hj : j < 256) : m_li 0 150 (nI j) K (hp ra rb L I) = K (I 150 j) (hp ra rb L I) := h_l (by decide) rfl (by decide) hj
theorem s_150 {K : MM α} {x : Int32} {j : Nat} (hj : j < 256) : m_si 150 (nI j) x K (hp ra rb L I) = K (hp ra rb L (u2 I 150 j x)) := h_s (by decide) rfl (by decide) (by decide) hj
theorem l_151 {K : Int32 → MM α} {j : Nat} (hj : j < 256) : m_li 1 151 (nI j) K (hp ra rb L I) = K (I 151 j) (hp ra rb L I) := h_l (by decide) rfl (by decide) hj
theorem s_151 {K : MM α} {x : Int32} {j : Nat} (hj : j < 256) (hx : x &&& 1 = x) : m_sz 151 (nI j) x K (hp ra rb L I) = K (hp ra rb L (u2 I 151 j x)) := h_z (by decide) rfl (by decide) (by decide) hj hx
theorem l_152 {K : Int32 → MM α} {j : Nat} (hj : j < 2048) : m_li 0 152 (nI j) K (hp ra rb L I) = K (I 152 j) (hp ra rb L I) := h_l (by decide) rfl (by decide) hj
theorem s_152 {K : MM α} {x : Int32} {j : Nat} (hj : j < 2048) : m_si 152 (nI j) x K (hp ra rb L I) = K (hp ra rb L (u2 I 152 j x)) := h_s (by decide) rfl (by decide) (by decide) hj
theorem l_153 {K : Int32 → MM α} {j : Nat} (hj : j < 15) : m_li 0 153 (nI j) K (hp ra rb L I) = K (I 153 j) (hp ra rb L I) := h_l (by decide) rfl (by decide) hj
theorem s_153 {K : MM α} {x : Int32} {j : Nat} (hj : j < 15) : m_si 153 (nI j) x K (hp ra rb L I) = K (hp ra rb L (u2 I 153 j x)) := h_s (by decide) rfl (by decide) (by decide) hj
theorem l_154 {K : Int32 → MM α} {j : Nat} (hj : j < 15) : m_li 0 154 (nI j) K (hp ra rb L I) = K (I 154 j) (hp ra rb L I) := h_l (by decide) rfl (by decide) hj
theorem s_154 {K : MM α} {x : Int32} {j : Nat} (hj : j < 15) : m_si 154 (nI j) x K (hp ra rb L I) = K (hp ra rb L (u2 I 154 j x)) := h_s (by decide) rfl (by decide) (by decide) hj
theorem l_155 {K : Int32 → MM α} {j : Nat} (hj : j < 74) : m_li 0 155 (nI j) K (hp ra rb L I) = K (I 155 j) (hp ra rb L I) := h_l (by decide) rfl (by decide) hj
theorem s_155 {K : MM α} {x : Int32} {j : Nat} (hj : j < 74) : m_si 155 (nI j) x K (hp ra rb L I) = K (hp ra rb L (u2 I 155 j x)) := h_s (by decide) rfl (by decide) (by decide) hj
theorem l_156 {K : Int32 → MM α} {j : Nat} (hj : j < 2) : m_li 1 156 (nI j) K (hp ra rb L I) = K (I 156 j) (hp ra rb L I) := h_l (by decide) rfl (by decide) hj
theorem s_156 {K : MM α} {x : Int32} {j : Nat} (hj : j < 2) (hx : x &&& 1 = x) : m_sz 156 (nI j) x K (hp ra rb L I) = K (hp ra rb L (u2 I 156 j x)) := h_z (by decide) rfl (by decide) (by decide) hj hx
theorem l_2 {K : Int32 → MM α} {j : Nat} (hj : j < L) (hL : L < 2 ^ 31) : m_li 0 2 (nI j) K (hp ra rb L I) = K (I 2 j) (hp ra rb L I) := h_l (by decide) rfl hL hj
theorem n_2 {K : Int32 → MM α} : m_len 2 K (hp ra rb L I) = K (nI L) (hp ra rb L I) := h_len (by decide) rfl (by decide)
theorem r_12 {K : Nat → MM α} {j : Nat} (hj : j < 16) : m_lr 3 12 (nI j) K (hp ra rb L I) = K (13 + 5 * j) (hp ra rb L I) := h_lr (by decide) rfl (c_ix hj (by decide)) (by rw [nI_clamp (by omega)]; exact if_pos hj)
theorem r_96 {K : Nat → MM α} {j : Nat} (hj : j < 2) : m_lr 2 96 (nI j) K (hp ra rb L I) = K (125 + 6 * j) (hp ra rb L I) := h_lr (by decide) rfl (c_ix hj (by decide)) (by rw [nI_clamp (by omega)]; exact if_pos hj)
theorem r_104 {K : Nat → MM α} {j : Nat} (hj : j < 8) : m_lr 4 104 (nI j) K (hp ra rb L I) = K (105 + j) (hp ra rb L I) := h_lr (by decide) rfl (c_ix hj (by decide)) (by rw [nI_clamp (by omega)]; exact if_pos hj)
theorem sw_7 {K : MM α} {x : Nat} : m_pv 3 8 7 (.ref x) K (hp ra rb L I) = K (hp x rb L I) := by
  unfold m_pv
  rw [hp_at I (by decide)]
  show K ((hp ra rb L I).1, c_up (hp ra rb L I).2 3 (c_bd (c_sh x rb L 3) (I 3))) = _
  congr 1
  refine Prod.ext rfl (funext fun k => ?_)
  show c_up (hp ra rb L I).2 3 _ k = (if k < 157 then c_bd (c_sh x rb L k) (I k) else cJ)
  by_cases hk : k = 3
  · subst hk
    rw [c_up_same]
    rfl
  · rw [c_up_ne _ _ hk]
    show (if k < 157 then c_bd (c_sh ra rb L k) (I k) else cJ) = _
    have : c_sh ra rb L k = c_sh x rb L k := by
      match k, hk with
      | 0, _ => rfl
      | 1, _ => rfl
      | 2, _ => rfl
      | 3, h => exact absurd rfl h
      | k + 4, _ => rfl
    rw [this]
theorem sw_8 {K : MM α} {x : Nat} : m_pv 3 8 8 (.ref x) K (hp ra rb L I) = K (hp ra x L I) := by
  unfold m_pv
  rw [hp_at I (by decide)]
  show K ((hp ra rb L I).1, c_up (hp ra rb L I).2 3 (c_bd (c_sh ra x L 3) (I 3))) = _
  congr 1
  refine Prod.ext rfl (funext fun k => ?_)
  show c_up (hp ra rb L I).2 3 _ k = (if k < 157 then c_bd (c_sh ra x L k) (I k) else cJ)
  by_cases hk : k = 3
  · subst hk
    rw [c_up_same]
    rfl
  · rw [c_up_ne _ _ hk]
    show (if k < 157 then c_bd (c_sh ra rb L k) (I k) else cJ) = _
    have : c_sh ra rb L k = c_sh ra x L k := by
      match k, hk with
      | 0, _ => rfl
      | 1, _ => rfl
      | 2, _ => rfl
      | 3, h => exact absurd rfl h
      | k + 4, _ => rfl
    rw [this]
end HL
/-! scenes and rolls at any of their addresses -/
def c_sn (a : Nat) : Prop := a < 150 ∧ 3 ≤ a ∧ ∀ ra rb L : Nat, c_sh ra rb L a = .inr (.inr (5, [some (a + 1), some (a + 2), some (a + 3), some (a + 4), none, none, none, none])) ∧ ∀ i : Nat, i < 4 → c_sh ra rb L (a + 1 + i) = .inl (0, 8)
def c_rl (a : Nat) : Prop := a < 150 ∧ 3 ≤ a ∧ ∀ ra rb L : Nat, c_sh ra rb L a = .inr (.inr (4, [some (a + 1), some (a + 2), some (a + 3), some (a + 4), some (a + 5), none, none, none, none, none, none])) ∧ c_sh ra rb L (a + 1) = .inl (0, 7) ∧ c_sh ra rb L (a + 2) = .inl (0, 8) ∧ c_sh ra rb L (a + 3) = .inl (0, 8) ∧ c_sh ra rb L (a + 4) = .inl (0, 8) ∧ c_sh ra rb L (a + 5) = .inl (0, 128)
theorem c_i4 {p : Nat → Prop} (h0 : p 0) (h1 : p 1) (h2 : p 2) (h3 : p 3) : ∀ i, i < 4 → p i := fun i hi => by
  match i, hi with
  | 0, _ => exact h0
  | 1, _ => exact h1
  | 2, _ => exact h2
  | 3, _ => exact h3
  | i + 4, hi => exact absurd hi (by omega)
theorem sn_6 : c_sn 6 := ⟨by decide, by decide, fun ra rb L => ⟨rfl, c_i4 rfl rfl rfl rfl⟩⟩
theorem sn_126 : c_sn 126 := ⟨by decide, by decide, fun ra rb L => ⟨rfl, c_i4 rfl rfl rfl rfl⟩⟩
theorem sn_132 : c_sn 132 := ⟨by decide, by decide, fun ra rb L => ⟨rfl, c_i4 rfl rfl rfl rfl⟩⟩
theorem sn_p {j : Nat} (hj : j < 16) : c_sn (13 + 5 * j) := by
  match j, hj with
  | 0, _ => exact ⟨by decide, by decide, fun ra rb L => ⟨rfl, c_i4 rfl rfl rfl rfl⟩⟩
  | 1, _ => exact ⟨by decide, by decide, fun ra rb L => ⟨rfl, c_i4 rfl rfl rfl rfl⟩⟩
  | 2, _ => exact ⟨by decide, by decide, fun ra rb L => ⟨rfl, c_i4 rfl rfl rfl rfl⟩⟩
  | 3, _ => exact ⟨by decide, by decide, fun ra rb L => ⟨rfl, c_i4 rfl rfl rfl rfl⟩⟩
  | 4, _ => exact ⟨by decide, by decide, fun ra rb L => ⟨rfl, c_i4 rfl rfl rfl rfl⟩⟩
  | 5, _ => exact ⟨by decide, by decide, fun ra rb L => ⟨rfl, c_i4 rfl rfl rfl rfl⟩⟩
  | 6, _ => exact ⟨by decide, by decide, fun ra rb L => ⟨rfl, c_i4 rfl rfl rfl rfl⟩⟩
  | 7, _ => exact ⟨by decide, by decide, fun ra rb L => ⟨rfl, c_i4 rfl rfl rfl rfl⟩⟩
  | 8, _ => exact ⟨by decide, by decide, fun ra rb L => ⟨rfl, c_i4 rfl rfl rfl rfl⟩⟩
  | 9, _ => exact ⟨by decide, by decide, fun ra rb L => ⟨rfl, c_i4 rfl rfl rfl rfl⟩⟩
  | 10, _ => exact ⟨by decide, by decide, fun ra rb L => ⟨rfl, c_i4 rfl rfl rfl rfl⟩⟩
  | 11, _ => exact ⟨by decide, by decide, fun ra rb L => ⟨rfl, c_i4 rfl rfl rfl rfl⟩⟩
  | 12, _ => exact ⟨by decide, by decide, fun ra rb L => ⟨rfl, c_i4 rfl rfl rfl rfl⟩⟩
  | 13, _ => exact ⟨by decide, by decide, fun ra rb L => ⟨rfl, c_i4 rfl rfl rfl rfl⟩⟩
  | 14, _ => exact ⟨by decide, by decide, fun ra rb L => ⟨rfl, c_i4 rfl rfl rfl rfl⟩⟩
  | 15, _ => exact ⟨by decide, by decide, fun ra rb L => ⟨rfl, c_i4 rfl rfl rfl rfl⟩⟩
  | j + 16, hj => exact absurd hj (by omega)
theorem rl_113 : c_rl 113 := ⟨by decide, by decide, fun ra rb L => ⟨rfl, rfl, rfl, rfl, rfl, rfl⟩⟩
theorem rl_119 : c_rl 119 := ⟨by decide, by decide, fun ra rb L => ⟨rfl, rfl, rfl, rfl, rfl, rfl⟩⟩
section HQ
variable {α β : Type} {ra rb L a : Nat} {I : cM}
theorem sg_0 {K : Nat → MM α} (h : c_sn a) : m_gr a 5 0 K (hp ra rb L I) = K (a + 1) (hp ra rb L I) := h_gr (by have := h.1; omega) (h.2.2 ra rb L).1 rfl
theorem sg_1 {K : Nat → MM α} (h : c_sn a) : m_gr a 5 1 K (hp ra rb L I) = K (a + 2) (hp ra rb L I) := h_gr (by have := h.1; omega) (h.2.2 ra rb L).1 rfl
theorem sg_2 {K : Nat → MM α} (h : c_sn a) : m_gr a 5 2 K (hp ra rb L I) = K (a + 3) (hp ra rb L I) := h_gr (by have := h.1; omega) (h.2.2 ra rb L).1 rfl
theorem sg_3 {K : Nat → MM α} (h : c_sn a) : m_gr a 5 3 K (hp ra rb L I) = K (a + 4) (hp ra rb L I) := h_gr (by have := h.1; omega) (h.2.2 ra rb L).1 rfl
theorem sg_4 {K : Int32 → MM α} (h : c_sn a) : m_gi a 5 4 K (hp ra rb L I) = K (I a 4) (hp ra rb L I) := h_gi (by have := h.1; omega) (h.2.2 ra rb L).1 rfl
theorem sp_4 {K : MM α} {x : Int32} (h : c_sn a) : m_pv a 5 4 (.int x) K (hp ra rb L I) = K (hp ra rb L (u2 I a 4 x)) := h_pi (by have := h.1; omega) (h.2.2 ra rb L).1 rfl
theorem sg_5 {K : Int32 → MM α} (h : c_sn a) : m_gi a 5 5 K (hp ra rb L I) = K (I a 5) (hp ra rb L I) := h_gi (by have := h.1; omega) (h.2.2 ra rb L).1 rfl
theorem sp_5 {K : MM α} {x : Int32} (h : c_sn a) : m_pv a 5 5 (.int x) K (hp ra rb L I) = K (hp ra rb L (u2 I a 5 x)) := h_pi (by have := h.1; omega) (h.2.2 ra rb L).1 rfl
theorem sg_6 {K : Int32 → MM α} (h : c_sn a) : m_gi a 5 6 K (hp ra rb L I) = K (I a 6) (hp ra rb L I) := h_gi (by have := h.1; omega) (h.2.2 ra rb L).1 rfl
theorem sp_6 {K : MM α} {x : Int32} (h : c_sn a) : m_pv a 5 6 (.int x) K (hp ra rb L I) = K (hp ra rb L (u2 I a 6 x)) := h_pi (by have := h.1; omega) (h.2.2 ra rb L).1 rfl
theorem sg_7 {K : Int32 → MM α} (h : c_sn a) : m_gi a 5 7 K (hp ra rb L I) = K (I a 7) (hp ra rb L I) := h_gi (by have := h.1; omega) (h.2.2 ra rb L).1 rfl
theorem sp_7 {K : MM α} {x : Int32} (h : c_sn a) : m_pv a 5 7 (.int x) K (hp ra rb L I) = K (hp ra rb L (u2 I a 7 x)) := h_pi (by have := h.1; omega) (h.2.2 ra rb L).1 rfl
theorem sv {F : MM α} {K : α → MM β} (h : c_sn a) : m_cv a 5 F K (hp ra rb L I) = m_bind F K (hp ra rb L I) := h_cv (by have := h.1; omega) (h.2.2 ra rb L).1
theorem sl_1 {K : Int32 → MM α} {j : Nat} (h : c_sn a) (hj : j < 8) : m_li 0 (a + 1) (nI j) K (hp ra rb L I) = K (I (a + 1) j) (hp ra rb L I) := h_l (by have := h.1; omega) (by have := (h.2.2 ra rb L).2 0 (by decide); exact this) (by decide) hj
theorem ss_1 {K : MM α} {x : Int32} {j : Nat} (h : c_sn a) (hj : j < 8) : m_si (a + 1) (nI j) x K (hp ra rb L I) = K (hp ra rb L (u2 I (a + 1) j x)) := h_s (by have := h.1; omega) (by have := (h.2.2 ra rb L).2 0 (by decide); exact this) (by have := h.2.1; omega) (by decide) hj
theorem sl_2 {K : Int32 → MM α} {j : Nat} (h : c_sn a) (hj : j < 8) : m_li 0 (a + 2) (nI j) K (hp ra rb L I) = K (I (a + 2) j) (hp ra rb L I) := h_l (by have := h.1; omega) (by have := (h.2.2 ra rb L).2 1 (by decide); exact this) (by decide) hj
theorem ss_2 {K : MM α} {x : Int32} {j : Nat} (h : c_sn a) (hj : j < 8) : m_si (a + 2) (nI j) x K (hp ra rb L I) = K (hp ra rb L (u2 I (a + 2) j x)) := h_s (by have := h.1; omega) (by have := (h.2.2 ra rb L).2 1 (by decide); exact this) (by have := h.2.1; omega) (by decide) hj
theorem sl_3 {K : Int32 → MM α} {j : Nat} (h : c_sn a) (hj : j < 8) : m_li 0 (a + 3) (nI j) K (hp ra rb L I) = K (I (a + 3) j) (hp ra rb L I) := h_l (by have := h.1; omega) (by have := (h.2.2 ra rb L).2 2 (by decide); exact this) (by decide) hj
theorem ss_3 {K : MM α} {x : Int32} {j : Nat} (h : c_sn a) (hj : j < 8) : m_si (a + 3) (nI j) x K (hp ra rb L I) = K (hp ra rb L (u2 I (a + 3) j x)) := h_s (by have := h.1; omega) (by have := (h.2.2 ra rb L).2 2 (by decide); exact this) (by have := h.2.1; omega) (by decide) hj
theorem sl_4 {K : Int32 → MM α} {j : Nat} (h : c_sn a) (hj : j < 8) : m_li 0 (a + 4) (nI j) K (hp ra rb L I) = K (I (a + 4) j) (hp ra rb L I) := h_l (by have := h.1; omega) (by have := (h.2.2 ra rb L).2 3 (by decide); exact this) (by decide) hj
theorem ss_4 {K : MM α} {x : Int32} {j : Nat} (h : c_sn a) (hj : j < 8) : m_si (a + 4) (nI j) x K (hp ra rb L I) = K (hp ra rb L (u2 I (a + 4) j x)) := h_s (by have := h.1; omega) (by have := (h.2.2 ra rb L).2 3 (by decide); exact this) (by have := h.2.1; omega) (by decide) hj
theorem rg_0 {K : Nat → MM α} (h : c_rl a) : m_gr a 4 0 K (hp ra rb L I) = K (a + 1) (hp ra rb L I) := h_gr (by have := h.1; omega) (h.2.2 ra rb L).1 rfl
theorem rg_1 {K : Nat → MM α} (h : c_rl a) : m_gr a 4 1 K (hp ra rb L I) = K (a + 2) (hp ra rb L I) := h_gr (by have := h.1; omega) (h.2.2 ra rb L).1 rfl
theorem rg_2 {K : Nat → MM α} (h : c_rl a) : m_gr a 4 2 K (hp ra rb L I) = K (a + 3) (hp ra rb L I) := h_gr (by have := h.1; omega) (h.2.2 ra rb L).1 rfl
theorem rg_3 {K : Nat → MM α} (h : c_rl a) : m_gr a 4 3 K (hp ra rb L I) = K (a + 4) (hp ra rb L I) := h_gr (by have := h.1; omega) (h.2.2 ra rb L).1 rfl
theorem rg_4 {K : Nat → MM α} (h : c_rl a) : m_gr a 4 4 K (hp ra rb L I) = K (a + 5) (hp ra rb L I) := h_gr (by have := h.1; omega) (h.2.2 ra rb L).1 rfl
theorem rg_5 {K : Int32 → MM α} (h : c_rl a) : m_gi a 4 5 K (hp ra rb L I) = K (I a 5) (hp ra rb L I) := h_gi (by have := h.1; omega) (h.2.2 ra rb L).1 rfl
theorem rp_5_ {K : MM α} {x : Int32} (h : c_rl a) : m_pv a 4 5 (.int x) K (hp ra rb L I) = K (hp ra rb L (u2 I a 5 x)) := h_pi (by have := h.1; omega) (h.2.2 ra rb L).1 rfl
theorem rg_6 {K : Int32 → MM α} (h : c_rl a) : m_gi a 4 6 K (hp ra rb L I) = K (I a 6) (hp ra rb L I) := h_gi (by have := h.1; omega) (h.2.2 ra rb L).1 rfl
theorem rp_6_ {K : MM α} {x : Int32} (h : c_rl a) : m_pv a 4 6 (.int x) K (hp ra rb L I) = K (hp ra rb L (u2 I a 6 x)) := h_pi (by have := h.1; omega) (h.2.2 ra rb L).1 rfl
theorem rg_7 {K : Int32 → MM α} (h : c_rl a) : m_gi a 4 7 K (hp ra rb L I) = K (I a 7) (hp ra rb L I) := h_gi (by have := h.1; omega) (h.2.2 ra rb L).1 rfl
theorem rp_7_ {K : MM α} {x : Int32} (h : c_rl a) : m_pv a 4 7 (.int x) K (hp ra rb L I) = K (hp ra rb L (u2 I a 7 x)) := h_pi (by have := h.1; omega) (h.2.2 ra rb L).1 rfl
theorem rg_8 {K : Int32 → MM α} (h : c_rl a) : m_gi a 4 8 K (hp ra rb L I) = K (I a 8) (hp ra rb L I) := h_gi (by have := h.1; omega) (h.2.2 ra rb L).1 rfl
theorem rp_8_ {K : MM α} {x : Int32} (h : c_rl a) : m_pv a 4 8 (.int x) K (hp ra rb L I) = K (hp ra rb L (u2 I a 8 x)) := h_pi (by have := h.1; omega) (h.2.2 ra rb L).1 rfl
theorem rg_9 {K : Int32 → MM α} (h : c_rl a) : m_gi a 4 9 K (hp ra rb L I) = K (I a 9) (hp ra rb L I) := h_gi (by have := h.1; omega) (h.2.2 ra rb L).1 rfl
theorem rp_9_ {K : MM α} {x : Int32} (h : c_rl a) : m_pv a 4 9 (.int x) K (hp ra rb L I) = K (hp ra rb L (u2 I a 9 x)) := h_pi (by have := h.1; omega) (h.2.2 ra rb L).1 rfl
theorem rg_10 {K : Int32 → MM α} (h : c_rl a) : m_gi a 4 10 K (hp ra rb L I) = K (I a 10) (hp ra rb L I) := h_gi (by have := h.1; omega) (h.2.2 ra rb L).1 rfl
theorem rp_10_ {K : MM α} {x : Int32} (h : c_rl a) : m_pv a 4 10 (.int x) K (hp ra rb L I) = K (hp ra rb L (u2 I a 10 x)) := h_pi (by have := h.1; omega) (h.2.2 ra rb L).1 rfl
theorem rv {F : MM α} {K : α → MM β} (h : c_rl a) : m_cv a 4 F K (hp ra rb L I) = m_bind F K (hp ra rb L I) := h_cv (by have := h.1; omega) (h.2.2 ra rb L).1
theorem rl_1 {K : Int32 → MM α} {j : Nat} (h : c_rl a) (hj : j < 7) : m_li 0 (a + 1) (nI j) K (hp ra rb L I) = K (I (a + 1) j) (hp ra rb L I) := h_l (by have := h.1; omega) (h.2.2 ra rb L).2.1 (by decide) hj
theorem rs_1 {K : MM α} {x : Int32} {j : Nat} (h : c_rl a) (hj : j < 7) : m_si (a + 1) (nI j) x K (hp ra rb L I) = K (hp ra rb L (u2 I (a + 1) j x)) := h_s (by have := h.1; omega) (h.2.2 ra rb L).2.1 (by have := h.2.1; omega) (by decide) hj
theorem rl_2 {K : Int32 → MM α} {j : Nat} (h : c_rl a) (hj : j < 8) : m_li 0 (a + 2) (nI j) K (hp ra rb L I) = K (I (a + 2) j) (hp ra rb L I) := h_l (by have := h.1; omega) (h.2.2 ra rb L).2.2.1 (by decide) hj
theorem rs_2 {K : MM α} {x : Int32} {j : Nat} (h : c_rl a) (hj : j < 8) : m_si (a + 2) (nI j) x K (hp ra rb L I) = K (hp ra rb L (u2 I (a + 2) j x)) := h_s (by have := h.1; omega) (h.2.2 ra rb L).2.2.1 (by have := h.2.1; omega) (by decide) hj
theorem rl_3 {K : Int32 → MM α} {j : Nat} (h : c_rl a) (hj : j < 8) : m_li 0 (a + 3) (nI j) K (hp ra rb L I) = K (I (a + 3) j) (hp ra rb L I) := h_l (by have := h.1; omega) (h.2.2 ra rb L).2.2.2.1 (by decide) hj
theorem rs_3 {K : MM α} {x : Int32} {j : Nat} (h : c_rl a) (hj : j < 8) : m_si (a + 3) (nI j) x K (hp ra rb L I) = K (hp ra rb L (u2 I (a + 3) j x)) := h_s (by have := h.1; omega) (h.2.2 ra rb L).2.2.2.1 (by have := h.2.1; omega) (by decide) hj
theorem rl_4 {K : Int32 → MM α} {j : Nat} (h : c_rl a) (hj : j < 8) : m_li 0 (a + 4) (nI j) K (hp ra rb L I) = K (I (a + 4) j) (hp ra rb L I) := h_l (by have := h.1; omega) (h.2.2 ra rb L).2.2.2.2.1 (by decide) hj
theorem rs_4 {K : MM α} {x : Int32} {j : Nat} (h : c_rl a) (hj : j < 8) : m_si (a + 4) (nI j) x K (hp ra rb L I) = K (hp ra rb L (u2 I (a + 4) j x)) := h_s (by have := h.1; omega) (h.2.2 ra rb L).2.2.2.2.1 (by have := h.2.1; omega) (by decide) hj
theorem rl_5 {K : Int32 → MM α} {j : Nat} (h : c_rl a) (hj : j < 128) : m_li 0 (a + 5) (nI j) K (hp ra rb L I) = K (I (a + 5) j) (hp ra rb L I) := h_l (by have := h.1; omega) (h.2.2 ra rb L).2.2.2.2.2 (by decide) hj
theorem rs_5 {K : MM α} {x : Int32} {j : Nat} (h : c_rl a) (hj : j < 128) : m_si (a + 5) (nI j) x K (hp ra rb L I) = K (hp ra rb L (u2 I (a + 5) j x)) := h_s (by have := h.1; omega) (h.2.2 ra rb L).2.2.2.2.2 (by have := h.2.1; omega) (by decide) hj
end HQ
