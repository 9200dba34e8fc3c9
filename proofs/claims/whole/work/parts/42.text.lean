/-! reading a text: blanks, letters, numbers, in the class and in the model -/
def skf (T : Nat) (tx : Nat → Nat) : Nat → Nat → Nat
  | 0, p => p
  | m + 1, p => if p < T ∧ tx p = 32 then skf T tx m (p + 1) else p
def sk (T : Nat) (tx : Nat → Nat) (p : Nat) : Nat := skf T tx (T - p) p
theorem skf_b (T : Nat) (tx : Nat → Nat) : ∀ m p, p ≤ T → p ≤ skf T tx m p ∧ skf T tx m p ≤ T
  | 0, p, h => ⟨Nat.le_refl _, h⟩
  | m + 1, p, h => by
    rw [skf]
    by_cases hq : p < T ∧ tx p = 32
    · rw [if_pos hq]
      have := skf_b T tx m (p + 1) (by omega)
      omega
    · rw [if_neg hq]
      omega
theorem sk_b {T : Nat} {tx : Nat → Nat} {p : Nat} (h : p ≤ T) : p ≤ sk T tx p ∧ sk T tx p ≤ T := skf_b T tx _ p h
theorem skf_stop (T : Nat) (tx : Nat → Nat) : ∀ m p, p + m = T → ¬ (skf T tx m p < T ∧ tx (skf T tx m p) = 32)
  | 0, p, h => by
    rw [skf]
    omega
  | m + 1, p, h => by
    rw [skf]
    by_cases hq : p < T ∧ tx p = 32
    · rw [if_pos hq]
      exact skf_stop T tx m (p + 1) (by omega)
    · rw [if_neg hq]
      exact hq
theorem sk_stop {T : Nat} {tx : Nat → Nat} {p : Nat} (h : p ≤ T) : ¬ (sk T tx p < T ∧ tx (sk T tx p) = 32) := skf_stop T tx _ p (by omega)
theorem sk_id {T : Nat} {tx : Nat → Nat} {p : Nat} (h : ¬ (p < T ∧ tx p = 32)) : sk T tx p = p := by
  unfold sk
  cases hm : T - p with
  | zero => rfl
  | succ m => rw [skf, if_neg h]
theorem sk_sk {T : Nat} {tx : Nat → Nat} {p : Nat} (h : p ≤ T) : sk T tx (sk T tx p) = sk T tx p := sk_id (sk_stop h)
def lh (T : Nat) (tx : Nat → Nat) (p : Nat) : Int32 := if p < T then nI (tx p) else -1
abbrev dgt (T : Nat) (tx : Nat → Nat) (p : Nat) : Prop := p < T ∧ 48 ≤ tx p ∧ tx p ≤ 57
def dgf (T : Nat) (tx : Nat → Nat) : Nat → Nat → Nat
  | 0, p => p
  | m + 1, p => if dgt T tx p then dgf T tx m (p + 1) else p
theorem dgf_b (T : Nat) (tx : Nat → Nat) : ∀ m p, p ≤ T → p ≤ dgf T tx m p ∧ dgf T tx m p ≤ T
  | 0, p, h => ⟨Nat.le_refl _, h⟩
  | m + 1, p, h => by
    rw [dgf]
    by_cases hq : dgt T tx p
    · rw [if_pos hq]
      have := dgf_b T tx m (p + 1) (by have := hq.1; omega)
      omega
    · rw [if_neg hq]
      omega
def cvf (T : Nat) (tx : Nat → Nat) : Nat → Nat → Nat → Nat
  | 0, _, x => x
  | m + 1, p, x => if dgt T tx p then cvf T tx m (p + 1) (min (x * 10 + tx p - 48) 1000) else x
def mvf (T : Nat) (tx : Nat → Nat) : Nat → Nat → Nat → Nat
  | 0, _, x => x
  | m + 1, p, x => if dgt T tx p then mvf T tx m (p + 1) (if x ≤ 10000 then 10 * x + tx p - 48 else x) else x
theorem cvf_le (T : Nat) (tx : Nat → Nat) : ∀ m p x, x ≤ 1000 → cvf T tx m p x ≤ 1000
  | 0, p, x, h => h
  | m + 1, p, x, h => by
    rw [cvf]
    by_cases hq : dgt T tx p
    · rw [if_pos hq]
      exact cvf_le T tx m (p + 1) _ (by omega)
    · rw [if_neg hq]
      exact h
theorem mvf_le (T : Nat) (tx : Nat → Nat) : ∀ m p x, x ≤ 200000 → mvf T tx m p x ≤ 200000
  | 0, p, x, h => h
  | m + 1, p, x, h => by
    rw [mvf]
    by_cases hq : dgt T tx p
    · rw [if_pos hq]
      refine mvf_le T tx m (p + 1) _ ?_
      have := hq.2.2
      by_cases h2 : x ≤ 10000
      · rw [if_pos h2]
        omega
      · rw [if_neg h2]
        exact h
    · rw [if_neg hq]
      exact h
theorem cvm_eq (T : Nat) (tx : Nat → Nat) : ∀ j, j ≤ 3 → ∀ m p x, p ≤ T → dgf T tx m p ≤ p + j → x < 10 ^ (3 - j) → cvf T tx m p x = mvf T tx m p x := by
  intro j
  induction j with
  | zero =>
    intro _ m p x hp h1 h2
    cases m with
    | zero => rfl
    | succ m =>
      rw [dgf] at h1
      rw [cvf, mvf]
      by_cases hq : dgt T tx p
      · rw [if_pos hq] at h1
        have := dgf_b T tx m (p + 1) (by have := hq.1; omega)
        omega
      · rw [if_neg hq, if_neg hq]
  | succ j ih =>
    intro h3 m p x hp h1 h2
    cases m with
    | zero => rfl
    | succ m =>
      rw [dgf] at h1
      rw [cvf, mvf]
      by_cases hq : dgt T tx p
      · rw [if_pos hq] at h1
        have e : 10 ^ (3 - j) = 10 ^ (3 - (j + 1)) * 10 := by rw [← Nat.pow_succ]; congr 1; omega
        have e2 : 10 ^ (3 - j) ≤ 10 ^ 3 := Nat.pow_le_pow_right (by decide) (by omega)
        have := hq.2
        rw [if_pos hq, if_pos hq, if_pos (by omega), Nat.min_eq_left (by omega), Nat.mul_comm x 10]
        exact ih (by omega) m (p + 1) _ (by have := hq.1; omega) (by omega) (by omega)
      · rw [if_neg hq, if_neg hq]
/-- the class's text and the model's -/
def TC (A : cM) (T : Nat) (tx : Nat → Nat) (p : Nat) : Prop := A 4 1 = nI T ∧ A 4 4 = nI p ∧ ∀ j, j < T → A 5 j = nI (tx j)
def TM (B : cM) (T : Nat) (tx : Nat → Nat) (p : Nat) : Prop := B 137 11 = nI T ∧ B 137 13 = nI p ∧ ∀ j, j < T → B 143 j = nI (tx j)
theorem TC.mv {A : cM} {T : Nat} {tx : Nat → Nat} {p : Nat} (h : TC A T tx p) (p' : Nat) : TC (u2 A 4 4 (nI p')) T tx p' := ⟨by rw [u2_nk _ _ (by decide)]; exact h.1, u2_s _ _ _ _, fun j hj => by rw [u2_na _ _ (by decide)]; exact h.2.2 j hj⟩
theorem TM.mv {B : cM} {T : Nat} {tx : Nat → Nat} {p : Nat} (h : TM B T tx p) (p' : Nat) : TM (u2 B 137 13 (nI p')) T tx p' := ⟨by rw [u2_nk _ _ (by decide)]; exact h.1, u2_s _ _ _ _, fun j hj => by rw [u2_na _ _ (by decide)]; exact h.2.2 j hj⟩
theorem TC.fr {A B : cM} {T : Nat} {tx : Nat → Nat} {p : Nat} (h : TC A T tx p) (h1 : B 4 1 = A 4 1) (h2 : B 4 4 = A 4 4) (h3 : ∀ k, B 5 k = A 5 k) : TC B T tx p := ⟨h1.trans h.1, h2.trans h.2.1, fun j hj => (h3 j).trans (h.2.2 j hj)⟩
theorem TM.fr {A B : cM} {T : Nat} {tx : Nat → Nat} {p : Nat} (h : TM A T tx p) (h1 : B 137 11 = A 137 11) (h2 : B 137 13 = A 137 13) (h3 : ∀ k, B 143 k = A 143 k) : TM B T tx p := ⟨h1.trans h.1, h2.trans h.2.1, fun j hj => (h3 j).trans (h.2.2 j hj)⟩
theorem u2_id {I : cM} {a k : Nat} {x : Int32} (h : I a k = x) : u2 I a k x = I := by
  funext b j
  by_cases hq : b = a ∧ j = k
  · rw [hq.1, hq.2, u2_s, h]
  · rw [u2_n _ _ hq]
theorem u2_u2 (I : cM) (a k : Nat) (x y : Int32) : u2 (u2 I a k x) a k y = u2 I a k y := by
  funext b j
  by_cases hq : b = a ∧ j = k
  · rw [hq.1, hq.2, u2_s, u2_s]
  · rw [u2_n _ _ hq, u2_n _ _ hq, u2_n _ _ hq]
section X1
variable {ra rb L : Nat} {A B : cM} {T : Nat} {tx : Nat → Nat} {p : Nat}
theorem q_letter (hT : T ≤ 240) (h : TC A T tx p) (hpT : p ≤ T) : pX7_letterHere 4 (hp ra rb L A) = some (lh T tx p, hp ra rb L A) := by
  rw [pX7_letterHere, g_4_4, h.2.1, if_neg (nI_pos (by omega)), g_4_4, h.2.1, g_4_1, h.1]
  unfold lh
  by_cases hq : p < T
  · rw [if_neg (nI_ge hq (by omega)), g_4_4, h.2.1, if_neg (show ¬ (240 : Int32) ≤ nI p from nI_ge (b := 240) (by omega) (by decide)), g_4_0, g_4_4, h.2.1, l_5 (by omega), h.2.2 p hq, if_pos hq]
    rfl
  · rw [if_pos (nI_le (by omega) (by omega)), if_neg hq]
    rfl
theorem lh_32 (htx : ∀ j, j < T → tx j < 256) {c : Nat} (hc : c < 256) : lh T tx p = nI c ↔ p < T ∧ tx p = c := by
  unfold lh
  by_cases hq : p < T
  · have := htx p hq
    rw [if_pos hq, nI_eq (by omega) (by omega)]
    exact ⟨fun z => ⟨hq, z⟩, fun z => z.2⟩
  · rw [if_neg hq]
    constructor
    · intro z
      exact absurd (show nI c < 0 by rw [← z]; decide) (nI_pos (by omega))
    · intro z
      exact absurd z.1 hq
theorem q_skip (hT : T ≤ 240) (htx : ∀ j, j < T → tx j < 256) (h : TC A T tx p) (hpT : p ≤ T) : pX7_skipBlanks 4 (hp ra rb L A) = some ((), hp ra rb L (u2 A 4 4 (nI (sk T tx p)))) := by
  have key : ∀ (m n p : Nat) (A : cM), TC A T tx p → p + m = T → m < n → fX7_skipBlanks_0 n 4 (hp ra rb L A) = some ((), hp ra rb L (u2 A 4 4 (nI (skf T tx m p)))) := by
    intro m
    induction m with
    | zero =>
      intro n p A h a1 a2
      obtain ⟨n, rfl⟩ : ∃ n', n = n' + 1 := ⟨n - 1, by omega⟩
      rw [fX7_skipBlanks_0, g_4_4, h.2.1, g_4_1, h.1, if_pos (nI_le (by omega) (by omega)), skf, u2_id h.2.1]
      rfl
    | succ m ih =>
      intro n p A h a1 a2
      obtain ⟨n, rfl⟩ : ∃ n', n = n' + 1 := ⟨n - 1, by omega⟩
      rw [fX7_skipBlanks_0, g_4_4, h.2.1, g_4_1, h.1, if_neg (nI_ge (by omega) (by omega)), v_4, m_bind_some (q_letter hT h (by omega)), skf]
      have e := lh_32 (p := p) htx (c := 32) (by decide)
      by_cases hq : p < T ∧ tx p = 32
      · rw [if_pos (show lh T tx p = 32 from e.mpr hq), g_4_4, h.2.1, nI_1, p_4_4, if_pos hq, ih n (p + 1) _ (h.mv (p + 1)) (by omega) (by omega), u2_u2]
      · rw [if_neg (show ¬ lh T tx p = 32 from fun z => hq (e.mp z)), if_neg hq, u2_id h.2.1]
        rfl
  rw [pX7_skipBlanks]
  exact key (T - p) c_fu p A h (by omega) (by show T - p < 1000; omega)
theorem q_here (hT : T ≤ 240) (htx : ∀ j, j < T → tx j < 256) (h : TM B T tx p) (hpT : p ≤ T) : pX10_here 137 (hp ra rb L B) = some (lh T tx (sk T tx p), hp ra rb L (u2 B 137 13 (nI (sk T tx p)))) := by
  have key : ∀ (m n p : Nat) (B : cM), TM B T tx p → p + m = T → m < n → fX10_here_0 fX10_here_38 n 137 (hp ra rb L B) = fX10_here_38 137 (hp ra rb L (u2 B 137 13 (nI (skf T tx m p)))) := by
    intro m
    induction m with
    | zero =>
      intro n p B h a1 a2
      obtain ⟨n, rfl⟩ : ∃ n', n = n' + 1 := ⟨n - 1, by omega⟩
      rw [fX10_here_0, g_137_13, h.2.1, g_137_11, h.1, if_pos (nI_le (by omega) (by omega)), skf, u2_id h.2.1]
    | succ m ih =>
      intro n p B h a1 a2
      obtain ⟨n, rfl⟩ : ∃ n', n = n' + 1 := ⟨n - 1, by omega⟩
      have hlt := htx p (by omega)
      rw [fX10_here_0, g_137_13, h.2.1, g_137_11, h.1, if_neg (nI_ge (by omega) (by omega)), g_137_10, g_137_13, h.2.1, l_143 (by omega), h.2.2 p (by omega), skf]
      by_cases hq : tx p = 32
      · rw [if_pos (show nI (tx p) = 32 by rw [hq]; rfl), g_137_13, h.2.1, nI_1, p_137_13, if_pos (show p < T ∧ tx p = 32 from ⟨by omega, hq⟩), ih n (p + 1) _ (h.mv (p + 1)) (by omega) (by omega), u2_u2]
      · rw [if_neg (show ¬ nI (tx p) = 32 from n_ne (b := 32) (by omega) (by decide) hq), if_neg (fun z => hq z.2), u2_id h.2.1]
  have h2 := h.mv (sk T tx p)
  have hb := sk_b (tx := tx) hpT
  rw [pX10_here, key (T - p) c_fu p B h (by omega) (by show T - p < 1000; omega)]
  show fX10_here_38 137 (hp ra rb L (u2 B 137 13 (nI (sk T tx p)))) = _
  rw [fX10_here_38, g_137_13, h2.2.1, g_137_11, h2.1]
  unfold lh
  by_cases hq : sk T tx p < T
  · rw [if_neg (nI_ge hq (by omega)), g_137_10, g_137_13, h2.2.1, l_143 (by omega), h2.2.2 _ hq, if_pos hq]
    rfl
  · rw [if_pos (nI_le (by omega) (by omega)), if_neg hq]
    rfl
theorem q_isFigure {σ : cH} (htx : ∀ j, j < T → tx j < 256) : pX7_isFigure (lh T tx p) σ = some (if dgt T tx p then 1 else 0, σ) := by
  rw [pX7_isFigure]
  unfold lh
  by_cases hq : p < T
  · have := htx p hq
    rw [if_pos hq]
    by_cases h1 : tx p < 48
    · rw [if_pos (show nI (tx p) < 48 from nI_lt (b := 48) h1 (by decide)), if_neg (fun z : dgt T tx p => by have := z.2; omega)]
      rfl
    · by_cases h2 : 57 < tx p
      · rw [if_neg (show ¬ nI (tx p) < 48 from nI_nlt (b := 48) (by omega) (by omega)), if_pos (show (57 : Int32) < nI (tx p) from nI_lt (a := 57) h2 (by omega)), if_neg (fun z : dgt T tx p => by have := z.2; omega)]
        rfl
      · rw [if_neg (show ¬ nI (tx p) < 48 from nI_nlt (b := 48) (by omega) (by omega)), if_neg (show ¬ (57 : Int32) < nI (tx p) from nI_nlt (a := 57) (by omega) (by decide)), if_pos (show dgt T tx p from ⟨hq, by omega, by omega⟩)]
        rfl
  · rw [if_neg hq, if_pos (by decide), if_neg (fun z : dgt T tx p => hq z.1)]
    rfl
/-- where a number begins and ends, what it is, what is wrong with it -/
def pe (T : Nat) (tx : Nat → Nat) (p : Nat) : Nat := dgf T tx (T - sk T tx p) (sk T tx p)
def val (T : Nat) (tx : Nat → Nat) (p : Nat) : Nat := cvf T tx (T - sk T tx p) (sk T tx p) 0
def nc (T : Nat) (tx : Nat → Nat) (lo hi p : Nat) : Nat := if pe T tx p = sk T tx p then 1 else if 3 < pe T tx p - sk T tx p ∨ val T tx p < lo ∨ hi < val T tx p then 2 else 0
theorem pe_b {p : Nat} (h : p ≤ T) : p ≤ pe T tx p ∧ pe T tx p ≤ T ∧ sk T tx p ≤ pe T tx p := by
  have h1 := sk_b (tx := tx) h
  have h2 := dgf_b T tx (T - sk T tx p) (sk T tx p) h1.2
  unfold pe
  omega
theorem val_le (p : Nat) : val T tx p ≤ 1000 := cvf_le T tx _ _ 0 (by decide)
theorem nc_le (lo hi p : Nat) : nc T tx lo hi p ≤ 2 := by
  unfold nc
  by_cases h1 : pe T tx p = sk T tx p
  · rw [if_pos h1]; decide
  · rw [if_neg h1]
    by_cases h2 : 3 < pe T tx p - sk T tx p ∨ val T tx p < lo ∨ hi < val T tx p
    · rw [if_pos h2]; decide
    · rw [if_neg h2]; decide
theorem nc_0 {lo hi p : Nat} (h : nc T tx lo hi p = 0) : lo ≤ val T tx p ∧ val T tx p ≤ hi ∧ sk T tx p ≠ pe T tx p := by
  unfold nc at h
  by_cases h1 : pe T tx p = sk T tx p
  · rw [if_pos h1] at h
    omega
  · rw [if_neg h1] at h
    by_cases h2 : 3 < pe T tx p - sk T tx p ∨ val T tx p < lo ∨ hi < val T tx p
    · rw [if_pos h2] at h
      omega
    · omega
theorem q_fail0 (h : A 4 2 = 0) (n w : Int32) : pX7_fail 4 n w (hp ra rb L A) = some ((), hp ra rb L (u2 (u2 A 4 2 n) 4 3 w)) := by
  rw [pX7_fail, g_4_2, h, if_pos rfl, p_4_2, p_4_3]
  rfl
theorem q_fail1 (h : A 4 2 ≠ 0) (n w : Int32) : pX7_fail 4 n w (hp ra rb L A) = some ((), hp ra rb L A) := by
  rw [pX7_fail, g_4_2, if_neg h]
  rfl
theorem fail_c (h : TC A T tx p) (n w : Int32) : ∃ A', pX7_fail 4 n w (hp ra rb L A) = some ((), hp ra rb L A') ∧ TC A' T tx p ∧ (∀ a k, ¬ (a = 4 ∧ 2 ≤ k) → A' a k = A a k) ∧ (A 4 2 ≠ 0 → A' 4 2 = A 4 2 ∧ A' 4 3 = A 4 3) ∧ (A 4 2 = 0 → A' 4 2 = n ∧ A' 4 3 = w) := by
  by_cases h0 : A 4 2 = 0
  · refine ⟨_, q_fail0 h0 n w, h.fr ?_ ?_ fun k => ?_, fun a k b1 => ?_, fun z => absurd h0 z, fun _ => ⟨?_, u2_s _ _ _ _⟩⟩
    · rw [u2_nk _ _ (by decide), u2_nk _ _ (by decide)]
    · rw [u2_nk _ _ (by decide), u2_nk _ _ (by decide)]
    · rw [u2_na _ _ (by decide), u2_na _ _ (by decide)]
    · rw [u2_n _ _ (by omega), u2_n _ _ (by omega)]
    · rw [u2_nk _ _ (by decide), u2_s]
  · exact ⟨A, q_fail1 h0 n w, h, fun _ _ _ => rfl, fun _ => ⟨rfl, rfl⟩, fun z => absurd z h0⟩
theorem num_c (hT : T ≤ 240) (htx : ∀ j, j < T → tx j < 256) (h : TC A T tx p) (hpT : p ≤ T) {lo hi : Nat} (hlo : lo ≤ 1000) (hhi : hi ≤ 1000) : ∃ A', pX7_readNumber 4 (nI lo) (nI hi) (hp ra rb L A) = some (nI (val T tx p), hp ra rb L A') ∧ TC A' T tx (pe T tx p) ∧ (∀ a k, ¬ (a = 4 ∧ 2 ≤ k) → A' a k = A a k) ∧ (nc T tx lo hi p = 0 ∨ A 4 2 ≠ 0 → A' 4 2 = A 4 2 ∧ A' 4 3 = A 4 3) ∧ (nc T tx lo hi p ≠ 0 → A 4 2 = 0 → A' 4 2 = nI (nc T tx lo hi p) ∧ A' 4 3 = nI (sk T tx p)) := by
  have key : ∀ (m n p x : Nat) (A : cM) (K : Nat → Int32 → Int32 → Int32 → Int32 → MM Int32) (s1 s2 s3 : Int32), TC A T tx p → p + m = T → m < n → x ≤ 1000 → fX7_readNumber_12 K n 4 s1 s2 s3 (nI x) (hp ra rb L A) = K 4 s1 s2 s3 (nI (cvf T tx m p x)) (hp ra rb L (u2 A 4 4 (nI (dgf T tx m p)))) := by
    intro m
    induction m with
    | zero =>
      intro n p x A K s1 s2 s3 h a1 a2 hx
      obtain ⟨n, rfl⟩ : ∃ n', n = n' + 1 := ⟨n - 1, by omega⟩
      rw [fX7_readNumber_12, g_4_4, h.2.1, g_4_1, h.1, if_pos (nI_le (by omega) (by omega)), dgf, cvf, u2_id h.2.1]
    | succ m ih =>
      intro n p x A K s1 s2 s3 h a1 a2 hx
      obtain ⟨n, rfl⟩ : ∃ n', n = n' + 1 := ⟨n - 1, by omega⟩
      rw [fX7_readNumber_12, g_4_4, h.2.1, g_4_1, h.1, if_neg (nI_ge (by omega) (by omega)), v_4, m_bind_some (q_letter hT h (by omega)), m_bind_some (q_isFigure htx), dgf, cvf]
      by_cases hq : dgt T tx p
      · have hq2 := hq.2
        have e10 : nI x * 10 = nI (x * 10) := pk_mul x 10
        have e48 : nI (x * 10 + tx p) - 48 = nI (x * 10 + tx p - 48) := pk_sub (b := 48) (by omega)
        have e1k : c_mn (nI (x * 10 + tx p - 48)) 1000 = nI (min (x * 10 + tx p - 48) 1000) := c_mn_n (b := 1000) (by omega) (by decide)
        have elh : lh T tx p = nI (tx p) := if_pos hq.1
        rw [if_pos hq, if_pos hq, if_pos hq, if_neg ne10, v_4, m_bind_some (q_letter hT h (by omega)), elh, mlet, e10, nI_add, e48, e1k, g_4_4, h.2.1, nI_1, p_4_4, ih n (p + 1) _ _ _ _ _ _ (h.mv (p + 1)) (by omega) (by omega) (by omega), u2_u2]
      · rw [if_neg hq, if_neg hq, if_neg hq, if_pos rfl, u2_id h.2.1]
  have hb := sk_b (tx := tx) hpT
  have hpe := pe_b (tx := tx) hpT
  have hvl := val_le (T := T) (tx := tx) p
  have t1 := h.mv (sk T tx p)
  have t2 := t1.mv (pe T tx p)
  rw [u2_u2] at t2
  have e0 : pX7_readNumber 4 (nI lo) (nI hi) (hp ra rb L A) = fX7_readNumber_67 4 (nI lo) (nI hi) (nI (sk T tx p)) (nI (val T tx p)) (hp ra rb L (u2 A 4 4 (nI (pe T tx p)))) := by
    rw [pX7_readNumber, v_4, m_bind_some (q_skip hT htx h hpT), g_4_4, u2_s]
    have k := key (T - sk T tx p) c_fu (sk T tx p) 0 (u2 A 4 4 (nI (sk T tx p))) fX7_readNumber_67 (nI lo) (nI hi) (nI (sk T tx p)) t1 (by omega) (by show T - sk T tx p < 1000; omega) (by decide)
    rw [u2_u2] at k
    exact k
  rw [e0]
  obtain ⟨A1, hA1⟩ : ∃ A1, A1 = u2 A 4 4 (nI (pe T tx p)) := ⟨_, rfl⟩
  rw [← hA1] at t2 ⊢
  have f1 : ∀ a k, ¬ (a = 4 ∧ k = 4) → A1 a k = A a k := fun a k b => by rw [hA1, u2_n _ _ b]
  have f12 : A1 4 2 = A 4 2 := f1 _ _ (by decide)
  have f13 : A1 4 3 = A 4 3 := f1 _ _ (by decide)
  have bad : ∀ (c : Nat) (w : Int32), c ≠ 0 → nc T tx lo hi p = c → w = nI (sk T tx p) → ∃ A', m_cv 4 6 (pX7_fail 4 (nI c) w) (fun _ => m_ret (nI (val T tx p))) (hp ra rb L A1) = some (nI (val T tx p), hp ra rb L A') ∧ TC A' T tx (pe T tx p) ∧ (∀ a k, ¬ (a = 4 ∧ 2 ≤ k) → A' a k = A a k) ∧ (nc T tx lo hi p = 0 ∨ A 4 2 ≠ 0 → A' 4 2 = A 4 2 ∧ A' 4 3 = A 4 3) ∧ (nc T tx lo hi p ≠ 0 → A 4 2 = 0 → A' 4 2 = nI (nc T tx lo hi p) ∧ A' 4 3 = nI (sk T tx p)) := by
    intro c w hc hn hw
    obtain ⟨A', g1, g2, g3, g4, g5⟩ := fail_c (ra := ra) (rb := rb) (L := L) t2 (nI c) w
    refine ⟨A', ?_, g2, fun a k b => (g3 a k b).trans (f1 a k (by omega)), fun z => ?_, fun z1 z2 => ?_⟩
    · rw [v_4, m_bind_some g1]
      rfl
    · rw [← f12, ← f13]
      exact g4 (by rw [f12]; exact z.resolve_left (by omega))
    · rw [hn, ← hw]
      exact g5 (by rw [f12]; exact z2)
  rw [fX7_readNumber_67, g_4_4, t2.2.1]
  by_cases h1 : pe T tx p = sk T tx p
  · rw [if_pos (by rw [h1])]
    exact bad 1 _ (by decide) (by unfold nc; rw [if_pos h1]) rfl
  · rw [if_neg (n_ne (by omega) (by omega) h1), g_4_4, t2.2.1, pk_sub hpe.2.2]
    by_cases h2 : 3 < pe T tx p - sk T tx p
    · rw [if_pos (show (3 : Int32) < nI (pe T tx p - sk T tx p) from nI_lt (a := 3) h2 (by omega))]
      exact bad 2 _ (by decide) (by unfold nc; rw [if_neg h1, if_pos (Or.inl h2)]) rfl
    · rw [if_neg (show ¬ (3 : Int32) < nI (pe T tx p - sk T tx p) from nI_nlt (a := 3) (by omega) (by decide))]
      by_cases h3 : val T tx p < lo
      · rw [if_pos (nI_lt h3 (by omega))]
        exact bad 2 _ (by decide) (by unfold nc; rw [if_neg h1, if_pos (Or.inr (Or.inl h3))]) rfl
      · rw [if_neg (nI_nlt (by omega) (by omega))]
        by_cases h4 : val T tx p ≤ hi
        · rw [if_pos (nI_le h4 (by omega))]
          have hn : nc T tx lo hi p = 0 := by unfold nc; rw [if_neg h1, if_neg (by omega)]
          exact ⟨A1, rfl, t2, fun a k b => f1 a k (by omega), fun _ => ⟨f12, f13⟩, fun z => absurd hn z⟩
        · rw [if_neg (nI_ge (by omega) (by omega))]
          exact bad 2 _ (by decide) (by unfold nc; rw [if_neg h1, if_pos (Or.inr (Or.inr (by omega)))]) rfl
theorem num_m (hT : T ≤ 240) (htx : ∀ j, j < T → tx j < 256) (h : TM B T tx p) (hpT : p ≤ T) {lo hi : Nat} (hlo : lo ≤ 1000) (hhi : hi ≤ 1000) : ∃ B', pX10_takeNumber 137 (nI lo) (nI hi) (hp ra rb L B) = some (nI (nc T tx lo hi p), hp ra rb L B') ∧ TM B' T tx (pe T tx p) ∧ (∀ a k, ¬ (a = 137 ∧ 12 ≤ k ∧ k ≤ 15) → B' a k = B a k) ∧ (nc T tx lo hi p = 0 → B' 137 14 = nI (val T tx p) ∧ B' 137 12 = B 137 12) ∧ (nc T tx lo hi p ≠ 0 → B' 137 12 = nI (sk T tx p)) := by
  have hb := sk_b (tx := tx) hpT
  have hpe := pe_b (tx := tx) hpT
  have hvl := val_le (T := T) (tx := tx) p
  have t1 := h.mv (sk T tx p)
  -- the figures
  have key : ∀ (m n p x : Nat) (B : cM) (K : Nat → Int32 → Int32 → MM Int32) (s1 s2 : Int32), TM B T tx p → B 137 14 = nI x → p + m = T → m < n → x ≤ 200000 → ∃ B', fX10_takeNumber_42 K n 137 s1 s2 (hp ra rb L B) = K 137 s1 s2 (hp ra rb L B') ∧ TM B' T tx (dgf T tx m p) ∧ B' 137 14 = nI (mvf T tx m p x) ∧ ∀ a k, ¬ (a = 137 ∧ (k = 13 ∨ k = 14)) → B' a k = B a k := by
    intro m
    induction m with
    | zero =>
      intro n p x B K s1 s2 h h14 a1 a2 hx
      obtain ⟨n, rfl⟩ : ∃ n', n = n' + 1 := ⟨n - 1, by omega⟩
      rw [fX10_takeNumber_42, g_137_13, h.2.1, g_137_11, h.1, if_pos (nI_le (by omega) (by omega))]
      exact ⟨B, rfl, h, h14, fun _ _ _ => rfl⟩
    | succ m ih =>
      intro n p x B K s1 s2 h h14 a1 a2 hx
      obtain ⟨n, rfl⟩ : ∃ n', n = n' + 1 := ⟨n - 1, by omega⟩
      have hlt := htx p (by omega)
      rw [fX10_takeNumber_42, g_137_13, h.2.1, g_137_11, h.1, if_neg (nI_ge (by omega) (by omega)), g_137_10, g_137_13, h.2.1, l_143 (by omega), h.2.2 p (by omega), dgf, mvf]
      by_cases hq : dgt T tx p
      · have hq2 := hq.2
        have i1 : pX10_in (nI (tx p)).toInt64 48 57 (hp ra rb L B) = some (1, hp ra rb L B) := c_in_t (a := 48) (b := 57) (nI_le (a := 48) hq2.1 (by omega)) (nI_le (b := 57) hq2.2 (by decide))
        have go : ∀ x' : Nat, x' ≤ 200000 → ∃ B', fX10_takeNumber_113 (fX10_takeNumber_42 K n) 137 s1 s2 (nI x') 137 (hp ra rb L B) = K 137 s1 s2 (hp ra rb L B') ∧ TM B' T tx (dgf T tx m (p + 1)) ∧ B' 137 14 = nI (mvf T tx m (p + 1) x') ∧ ∀ a k, ¬ (a = 137 ∧ (k = 13 ∨ k = 14)) → B' a k = B a k := by
          intro x' hx'
          have t3 : TM (u2 (u2 B 137 14 (nI x')) 137 13 (nI (p + 1))) T tx (p + 1) := TM.mv (p := p) (h.fr (B := u2 B 137 14 (nI x')) (by rw [u2_nk _ _ (by decide)]) (by rw [u2_nk _ _ (by decide)]) (fun k => by rw [u2_na _ _ (by decide)])) (p + 1)
          obtain ⟨B', g1, g2, g3, g4⟩ := ih n (p + 1) x' (u2 (u2 B 137 14 (nI x')) 137 13 (nI (p + 1))) K s1 s2 t3 (by rw [u2_nk _ _ (by decide), u2_s]) (by omega) (by omega) hx'
          refine ⟨B', ?_, g2, g3, fun a k b => ?_⟩
          · rw [fX10_takeNumber_113, p_137_14, g_137_13, u2_nk _ _ (by decide), h.2.1, nI_1, p_137_13]
            exact g1
          · rw [g4 a k b, u2_n _ _ (by omega), u2_n _ _ (by omega)]
        rw [m_bind_some i1, if_neg ne10, g_137_14, h14, if_pos hq, if_pos hq]
        by_cases h5 : x ≤ 10000
        · have e10 : (10 : Int32) * nI x = nI (10 * x) := pk_mul 10 x
          have e48 : nI (10 * x + tx p) - 48 = nI (10 * x + tx p - 48) := pk_sub (b := 48) (by omega)
          rw [if_pos (show nI x ≤ 10000 from nI_le (b := 10000) h5 (by decide)), g_137_14, h14, g_137_10, g_137_13, h.2.1, l_143 (by omega), h.2.2 p (by omega), e10, nI_add, e48, if_pos h5]
          exact go _ (by omega)
        · rw [if_neg (show ¬ nI x ≤ 10000 from nI_ge (a := 10000) (by omega) (by omega)), g_137_14, h14, if_neg h5]
          exact go _ (by omega)
      · have i0 : pX10_in (nI (tx p)).toInt64 48 57 (hp ra rb L B) = some (0, hp ra rb L B) := by
          refine c_in_f (a := 48) (b := 57) ?_
          by_cases h48 : tx p < 48
          · exact Or.inl (nI_lt (b := 48) h48 (by decide))
          · refine Or.inr (nI_lt (a := 57) (Nat.not_le.mp fun z => hq ⟨by omega, by omega, z⟩) (by omega))
        rw [m_bind_some i0, if_pos rfl, if_neg hq, if_neg hq]
        exact ⟨B, rfl, h, h14, fun _ _ _ => rfl⟩
  rw [pX10_takeNumber, v_137, m_bind_some (q_here hT htx h hpT)]
  by_cases hd : dgt T tx (sk T tx p)
  · have hd2 := hd.2
    have elh : lh T tx (sk T tx p) = nI (tx (sk T tx p)) := if_pos hd.1
    have i1 : ∀ σ, pX10_in (nI (tx (sk T tx p))).toInt64 48 57 σ = some (1, σ) := fun σ => c_in_t (a := 48) (b := 57) (nI_le (a := 48) hd2.1 (by omega)) (nI_le (b := 57) hd2.2 (by decide))
    rw [elh, m_bind_some (i1 _), if_neg ne10, g_137_13, t1.2.1, p_137_15, p_137_14]
    obtain ⟨B1, hB1⟩ : ∃ B1, B1 = u2 (u2 (u2 B 137 13 (nI (sk T tx p))) 137 15 (nI (sk T tx p))) 137 14 0 := ⟨_, rfl⟩
    rw [← hB1]
    have f1 : ∀ a k, ¬ (a = 137 ∧ 13 ≤ k ∧ k ≤ 15) → B1 a k = B a k := fun a k b => by rw [hB1, u2_n _ _ (by omega), u2_n _ _ (by omega), u2_n _ _ (by omega)]
    have t2 : TM B1 T tx (sk T tx p) := t1.fr (by rw [hB1, u2_nk _ _ (by decide), u2_nk _ _ (by decide)]) (by rw [hB1, u2_nk _ _ (by decide), u2_nk _ _ (by decide)]) (fun k => by rw [hB1, u2_na _ _ (by decide), u2_na _ _ (by decide)])
    obtain ⟨B2, g1, g2, g3, g4⟩ := key (T - sk T tx p) c_fu (sk T tx p) 0 B1 fX10_takeNumber_129 (nI lo) (nI hi) t2 (by rw [hB1, u2_s]; rfl) (by omega) (by show T - sk T tx p < 1000; omega) (by decide)
    rw [g1]
    have hne : pe T tx p ≠ sk T tx p := by
      unfold pe
      obtain ⟨m, hm⟩ : ∃ m, T - sk T tx p = m + 1 := ⟨T - sk T tx p - 1, by have := hd.1; omega⟩
      rw [hm, dgf, if_pos hd]
      have := dgf_b T tx m (sk T tx p + 1) (by have := hd.1; omega)
      omega
    have h15 : B2 137 15 = nI (sk T tx p) := by rw [g4 _ _ (by decide), hB1, u2_nk _ _ (by decide), u2_s]
    have f2 : ∀ a k, ¬ (a = 137 ∧ 13 ≤ k ∧ k ≤ 15) → B2 a k = B a k := fun a k b => by rw [g4 a k (by omega)]; exact f1 a k b
    have bad : nc T tx lo hi p = 2 → ∃ B', fX10_takeNumber_157 137 (hp ra rb L B2) = some (nI (nc T tx lo hi p), hp ra rb L B') ∧ TM B' T tx (pe T tx p) ∧ (∀ a k, ¬ (a = 137 ∧ 12 ≤ k ∧ k ≤ 15) → B' a k = B a k) ∧ (nc T tx lo hi p = 0 → B' 137 14 = nI (val T tx p) ∧ B' 137 12 = B 137 12) ∧ (nc T tx lo hi p ≠ 0 → B' 137 12 = nI (sk T tx p)) := by
      intro hn
      refine ⟨u2 B2 137 12 (nI (sk T tx p)), ?_, g2.fr ?_ ?_ fun k => ?_, fun a k b => ?_, fun z => by omega, fun _ => u2_s _ _ _ _⟩
      · have k : pX10_fails 137 2 (nI (sk T tx p)) (hp ra rb L B2) = some (2, hp ra rb L (u2 B2 137 12 (nI (sk T tx p)))) := by
          rw [pX10_fails, p_137_12]
          rfl
        rw [fX10_takeNumber_157, g_137_15, h15, v_137, m_bind_some k, hn]
        rfl
      · rw [u2_nk _ _ (by decide)]
      · rw [u2_nk _ _ (by decide)]
      · rw [u2_na _ _ (by decide)]
      · rw [u2_n _ _ (by omega)]
        exact f2 a k (by omega)
    have g2' : B2 137 13 = nI (pe T tx p) := g2.2.1
    rw [fX10_takeNumber_129, g_137_13, g2', g_137_15, h15, pk_sub hpe.2.2]
    by_cases h3 : 3 < pe T tx p - sk T tx p
    · rw [if_pos (show (3 : Int32) < nI (pe T tx p - sk T tx p) from nI_lt (a := 3) h3 (by omega))]
      exact bad (by unfold nc; rw [if_neg hne, if_pos (Or.inl h3)])
    · have ev : mvf T tx (T - sk T tx p) (sk T tx p) 0 = val T tx p := (cvm_eq T tx 3 (by decide) (T - sk T tx p) (sk T tx p) 0 hb.2 (by show pe T tx p ≤ _; omega) (by decide)).symm
      rw [ev] at g3
      rw [if_neg (show ¬ (3 : Int32) < nI (pe T tx p - sk T tx p) from nI_nlt (a := 3) (by omega) (by decide)), g_137_14, g3]
      by_cases h4 : val T tx p < lo ∨ hi < val T tx p
      · have i0 : pX10_in (nI (val T tx p)).toInt64 (nI lo).toInt64 (nI hi).toInt64 (hp ra rb L B2) = some (0, hp ra rb L B2) := c_in_f (by
          rcases h4 with z | z
          · exact Or.inl (nI_lt z (by omega))
          · exact Or.inr (nI_lt z (by omega)))
        rw [m_bind_some i0, if_pos rfl]
        exact bad (by unfold nc; rw [if_neg hne, if_pos (Or.inr h4)])
      · have i2 : pX10_in (nI (val T tx p)).toInt64 (nI lo).toInt64 (nI hi).toInt64 (hp ra rb L B2) = some (1, hp ra rb L B2) := c_in_t (nI_le (by omega) (by omega)) (nI_le (by omega) (by omega))
        have hn : nc T tx lo hi p = 0 := by unfold nc; rw [if_neg hne, if_neg (by omega)]
        rw [m_bind_some i2, if_neg ne10, hn]
        exact ⟨B2, rfl, g2, fun a k b => f2 a k (by omega), fun _ => ⟨g3, f2 _ _ (by decide)⟩, fun z => absurd rfl z⟩
  · have i0 : ∀ σ, pX10_in (lh T tx (sk T tx p)).toInt64 48 57 σ = some (0, σ) := fun σ => by
      refine c_in_f (a := 48) (b := 57) ?_
      unfold lh
      by_cases hq : sk T tx p < T
      · have := htx _ hq
        rw [if_pos hq]
        by_cases h48 : tx (sk T tx p) < 48
        · exact Or.inl (nI_lt (b := 48) h48 (by decide))
        · exact Or.inr (nI_lt (a := 57) (Nat.not_le.mp fun z => hd ⟨hq, by omega, z⟩) (by omega))
      · rw [if_neg hq]
        exact Or.inl (by decide)
    have hee : pe T tx p = sk T tx p := by
      unfold pe
      cases hm : T - sk T tx p with
      | zero => rfl
      | succ m => rw [dgf, if_neg hd]
    have hn : nc T tx lo hi p = 1 := by unfold nc; rw [if_pos hee]
    have t3 : TM (u2 (u2 B 137 13 (nI (sk T tx p))) 137 12 (nI (sk T tx p))) T tx (sk T tx p) := t1.fr (by rw [u2_nk _ _ (by decide)]) (by rw [u2_nk _ _ (by decide)]) (fun k => by rw [u2_na _ _ (by decide)])
    have k : pX10_fails 137 1 (nI (sk T tx p)) (hp ra rb L (u2 B 137 13 (nI (sk T tx p)))) = some (1, hp ra rb L (u2 (u2 B 137 13 (nI (sk T tx p))) 137 12 (nI (sk T tx p)))) := by
      rw [pX10_fails, p_137_12]
      rfl
    rw [m_bind_some (i0 _), if_pos rfl, g_137_13, t1.2.1, v_137, m_bind_some k, hn, hee]
    exact ⟨_, rfl, t3, fun a k b => by rw [u2_n _ _ (by omega), u2_n _ _ (by omega)], fun z => by omega, fun _ => u2_s _ _ _ _⟩
end X1
