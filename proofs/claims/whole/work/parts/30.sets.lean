/-! sets of dolls and of courts as numbers -/
def tb (s k : Nat) : Nat := if s.testBit k then 1 else 0
theorem has_n {s k : Nat} (hs : s < 2 ^ 31) (hk : k < 31) : (nI s >>> (nI k &&& 31)) &&& 1 = nI (tb s k) := by
  have h2 : s / 2 ^ k ≤ s := Nat.div_le_self _ _
  rw [pk_shrN hs _ k (sh_s k hk), pk_andN (by omega) 1 (by decide)]
  unfold tb
  rw [Nat.testBit_eq_decide_div_mod_eq]
  have h3 : s / 2 ^ k % 2 < 2 := Nat.mod_lt _ (by decide)
  congr 1
  by_cases h : s / 2 ^ k % 2 = 1
  · simp [h]
  · have : s / 2 ^ k % 2 = 0 := by omega
    simp [this]
theorem tb_t {s k : Nat} (h : s.testBit k = true) : tb s k = 1 := if_pos h
theorem tb_f {s k : Nat} (h : s.testBit k = false) : tb s k = 0 := if_neg (by rw [h]; decide)
theorem tb01 (s k : Nat) : (tb s k = 0 ∧ s.testBit k = false) ∨ (tb s k = 1 ∧ s.testBit k = true) := by
  cases h : s.testBit k
  · exact Or.inl ⟨tb_f h, rfl⟩
  · exact Or.inr ⟨tb_t h, rfl⟩
theorem q_hasN {σ : cH} {s k : Nat} (hs : s < 2 ^ 31) (hk : k < 31) : pX10_has (nI s) (nI k) σ = some (nI (tb s k), σ) := by
  rw [q_has, has_n hs hk]
theorem ub_n {u d : Nat} (hu : u < 2 ^ 31) (hd : d < 31) : ub u d = nI (tb u d) := has_n hu hd
/-- those k below n with p -/
def bs (p : Nat → Bool) : Nat → Nat
  | 0 => 0
  | k + 1 => bs p k ||| if p k then 2 ^ k else 0
theorem bs_tb (p : Nat → Bool) (n i : Nat) : (bs p n).testBit i = (decide (i < n) && p i) := by
  induction n with
  | zero => simp [bs]
  | succ n ih =>
    unfold bs
    rw [Nat.testBit_or, ih]
    by_cases h : i = n
    · subst h
      cases hp : p i <;> simp
    · cases hp : p n
      · simp
        by_cases h2 : i < n
        · simp [h2, show i < n + 1 by omega]
        · simp [h2, show ¬ i < n + 1 by omega]
      · simp [Nat.testBit_two_pow, show ¬ n = i by omega]
        by_cases h2 : i < n
        · simp [h2, show i < n + 1 by omega]
        · simp [h2, show ¬ i < n + 1 by omega]
theorem bs_lt (p : Nat → Bool) (n : Nat) : bs p n < 2 ^ n := by
  apply Nat.lt_pow_two_of_testBit
  intro i hi
  rw [bs_tb]
  simp [show ¬ i < n by omega]
theorem bs_congr {p p' : Nat → Bool} : ∀ {n : Nat}, (∀ d, d < n → p d = p' d) → bs p n = bs p' n
  | 0, _ => rfl
  | n + 1, h => by
    unfold bs
    rw [bs_congr (fun d hd => h d (by omega)), h n (by omega)]
/-- the f d of those d below n with p -/
def os (p : Nat → Bool) (f : Nat → Nat) : Nat → Nat
  | 0 => 0
  | k + 1 => os p f k ||| if p k then 2 ^ (f k) else 0
theorem os_tb (p : Nat → Bool) (f : Nat → Nat) (n i : Nat) : (os p f n).testBit i = true ↔ ∃ d, d < n ∧ p d = true ∧ f d = i := by
  induction n with
  | zero => simp [os]
  | succ n ih =>
    unfold os
    rw [Nat.testBit_or, Bool.or_eq_true, ih]
    constructor
    · rintro (⟨d, h1, h2, h3⟩ | h)
      · exact ⟨d, by omega, h2, h3⟩
      · cases hp : p n
        · rw [hp] at h
          simp at h
        · rw [hp] at h
          simp [Nat.testBit_two_pow] at h
          exact ⟨n, by omega, hp, h⟩
    · rintro ⟨d, h1, h2, h3⟩
      by_cases hd : d = n
      · subst hd
        right
        rw [h2, h3]
        simp
      · exact Or.inl ⟨d, by omega, h2, h3⟩
theorem os_lt {p : Nat → Bool} {f : Nat → Nat} {n m : Nat} (h : ∀ d, d < n → f d < m) : os p f n < 2 ^ m := by
  apply Nat.lt_pow_two_of_testBit
  intro i hi
  cases hb : (os p f n).testBit i
  · rfl
  · obtain ⟨d, h1, h2, h3⟩ := (os_tb p f n i).mp hb
    have := h d h1
    omega
theorem andnot_n {a b c : Nat} (h : ∀ i, i < 32 → c.testBit i = (a.testBit i && !b.testBit i)) : nI a &&& (nI b ^^^ (-1)) = nI c := by
  apply Int32.toBitVec_inj.mp
  show BitVec.ofNat 32 a &&& (BitVec.ofNat 32 b ^^^ BitVec.allOnes 32) = BitVec.ofNat 32 c
  apply BitVec.eq_of_getLsbD_eq
  intro i hi
  rw [BitVec.getLsbD_and, BitVec.getLsbD_xor, BitVec.getLsbD_ofNat, BitVec.getLsbD_ofNat, BitVec.getLsbD_ofNat, BitVec.getLsbD_allOnes, h i hi]
  simp [hi]
theorem nand_n (a b : Nat) : nI a &&& nI b = nI (a &&& b) := by
  apply Int32.toBitVec_inj.mp
  show BitVec.ofNat 32 a &&& BitVec.ofNat 32 b = BitVec.ofNat 32 (a &&& b)
  rw [BitVec.ofNat_and]
theorem nxor_n (a b : Nat) : nI a ^^^ nI b = nI (a ^^^ b) := by
  apply Int32.toBitVec_inj.mp
  show BitVec.ofNat 32 a ^^^ BitVec.ofNat 32 b = BitVec.ofNat 32 (a ^^^ b)
  rw [BitVec.ofNat_xor]
theorem or0 (a : Nat) : nI a ||| 0 = nI a := by
  have := or_n a 0
  rw [Nat.or_zero] at this
  exact this
/-- how many of the first n bits are set -/
def pcn (k : Nat) : Nat → Nat
  | 0 => 0
  | i + 1 => pcn k i + tb k i
def pc (k : Nat) : Nat := pcn k 8
theorem pcn_le (k n : Nat) : pcn k n ≤ n := by
  induction n with
  | zero => exact Nat.le_refl _
  | succ n ih =>
    unfold pcn
    rcases tb01 k n with ⟨h, -⟩ | ⟨h, -⟩ <;> omega
theorem pc_le (k : Nat) : pc k ≤ 8 := pcn_le k 8
def bcE (x0_ : Int32) : Int32 :=
  let x1 := x0_ - (((x0_.toUInt32 >>> ((1 : Int32).toUInt32 &&& Int32.toUInt32 31)).toInt32) &&& 1431655765)
  let x2 := (x1 &&& 858993459) + (((x1.toUInt32 >>> ((2 : Int32).toUInt32 &&& Int32.toUInt32 31)).toInt32) &&& 858993459)
  let x3 := (x2 + ((x2.toUInt32 >>> ((4 : Int32).toUInt32 &&& Int32.toUInt32 31)).toInt32)) &&& 252645135
  let x4 := x3 + ((x3.toUInt32 >>> ((8 : Int32).toUInt32 &&& Int32.toUInt32 31)).toInt32)
  let x5 := x4 + ((x4.toUInt32 >>> ((16 : Int32).toUInt32 &&& Int32.toUInt32 31)).toInt32)
  x5 &&& 63
theorem bcE_pc : ∀ k, k < 256 → bcE (nI k) = nI (pc k) := by decide +kernel
theorem q_bitCount {σ : cH} {k : Nat} (hk : k < 256) : pJ6_bitCount_0f7a4 (nI k) σ = some (nI (pc k), σ) := by
  rw [← bcE_pc k hk]
  rfl
theorem q_bits {σ : cH} {k : Nat} (hk : k < 2 ^ 31) : pX10_bits (nI k) σ = some (nI (pc k), σ) := by
  have key : ∀ (n j : Nat), j ≤ 8 → 8 < j + n → fX10_bits_4 n (nI k) (nI (pcn k j)) (nI j) σ = some (nI (pc k), σ) := by
    intro n
    induction n with
    | zero =>
      intro j h1 h2
      omega
    | succ n ih =>
      intro j h1 h2
      rw [fX10_bits_4]
      by_cases hj : j < 8
      · rw [if_neg (show ¬ (8 : Int32) ≤ nI j from nI_ge (b := 8) hj (by decide))]
        unfold m_let
        rw [has_n hk (by omega), nI_add, nI_1]
        exact ih (j + 1) (by omega) (by omega)
      · have : j = 8 := by omega
        subst this
        rw [if_pos (by decide)]
        rfl
  rw [pX10_bits]
  exact key c_fu 0 (by decide) (by decide)
theorem mlet {α : Type} {x : Int32} {K : Int32 → MM α} {σ : cH} : m_let x K σ = K x σ := rfl
theorem bs_1 {p : Nat → Bool} {k : Nat} (h : p k = true) : bs p (k + 1) = bs p k ||| 2 ^ k := by
  rw [bs, if_pos h]
theorem bs_0 {p : Nat → Bool} {k : Nat} (h : p k = false) : bs p (k + 1) = bs p k := by
  rw [bs, if_neg (by rw [h]; decide), Nat.or_zero]
theorem os_1 {p : Nat → Bool} {f : Nat → Nat} {k : Nat} (h : p k = true) : os p f (k + 1) = os p f k ||| 2 ^ f k := by
  rw [os, if_pos h]
theorem os_0 {p : Nat → Bool} {f : Nat → Nat} {k : Nat} (h : p k = false) : os p f (k + 1) = os p f k := by
  rw [os, if_neg (by rw [h]; decide), Nat.or_zero]
theorem wt_1 {v : Nat → Nat} {c s : Nat} (h : s.testBit c = true) : wt v (c + 1) s = wt v c s + v c := by
  rw [wt, if_pos h]
theorem wt_0 {v : Nat → Nat} {c s : Nat} (h : s.testBit c = false) : wt v (c + 1) s = wt v c s := by
  rw [wt, if_neg (by rw [h]; decide), Nat.add_zero]
theorem add0 (a : Nat) : nI a + 0 = nI a := nI_add a 0
