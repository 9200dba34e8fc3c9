/-! numbers of rings: sets as numbers, sums by courts -/
def za (f : Nat → Nat) (X : Nat → Bool) : Nat → Nat
  | 0 => 0
  | n + 1 => za f X n + if X n = true then 16 ^ f n else 0
theorem za_congr {f : Nat → Nat} {X Y : Nat → Bool} : ∀ {n : Nat}, (∀ d, d < n → X d = Y d) → za f X n = za f Y n
  | 0, _ => rfl
  | n + 1, h => by rw [za, za, za_congr (n := n) (fun d hd => h d (by omega)), h n (by omega)]
theorem za_e {f : Nat → Nat} {X : Nat → Bool} : ∀ {n : Nat}, (∀ d, d < n → X d = false) → za f X n = 0
  | 0, _ => rfl
  | n + 1, h => by
    rw [za, za_e (n := n) (fun d hd => h d (by omega)), if_neg (by rw [h n (by omega)]; decide)]
theorem za_add {f : Nat → Nat} {X A : Nat → Bool} : ∀ {n : Nat}, Sb n A X → za f X n = za f A n + za f (dif X A) n
  | 0, _ => rfl
  | n + 1, h => by
    have ih := za_add (f := f) (n := n) (fun d hd => h d (by omega))
    have hn := h n (by omega)
    rw [za, za, za, ih]
    by_cases hA : A n = true
    · rw [if_pos (hn hA), if_pos hA, if_neg (fun z => by have := (dif_t.mp z).2; rw [hA] at this; exact absurd this (by decide))]
      omega
    · by_cases hX : X n = true
      · rw [if_pos hX, if_neg hA, if_pos (dif_t.mpr ⟨hX, bf hA⟩)]
        omega
      · rw [if_neg hX, if_neg hA, if_neg (fun z => hX (dif_t.mp z).1)]
        omega
theorem za_sng {f : Nat → Nat} {d : Nat} : ∀ {n : Nat}, d < n → za f (sng d) n = 16 ^ f d
  | n + 1, h => by
    rw [za]
    by_cases hd : n = d
    · subst hd
      rw [za_e (fun x hx => bf fun z => by have := sng_t.mp z; omega), if_pos (sng_t.mpr rfl), Nat.zero_add]
    · rw [za_sng (n := n) (by omega), if_neg (fun z => hd (sng_t.mp z)), Nat.add_zero]
theorem za_rm {f : Nat → Nat} {X : Nat → Bool} {d n : Nat} (h : X d = true) (hd : d < n) : za f X n = 16 ^ f d + za f (dif X (sng d)) n := by
  rw [za_add (sb_sng h), za_sng hd]
theorem cn_le (f : Nat → Nat) (X : Nat → Bool) (c : Nat) : ∀ n, cn f X c n ≤ n
  | 0 => Nat.le_refl _
  | n + 1 => by
    have := cn_le f X c n
    rw [cn]
    by_cases h : X n = true ∧ f n = c
    · rw [if_pos h]; omega
    · rw [if_neg h]; omega
theorem za_cn {f : Nat → Nat} {X : Nat → Bool} : ∀ {n : Nat}, (∀ d, d < n → f d < 7) → za f X n = cn f X 0 n + 16 * cn f X 1 n + 256 * cn f X 2 n + 4096 * cn f X 3 n + 65536 * cn f X 4 n + 1048576 * cn f X 5 n + 16777216 * cn f X 6 n
  | 0, _ => rfl
  | n + 1, h => by
    have ih := za_cn (f := f) (X := X) (n := n) (fun d hd => h d (by omega))
    simp only [za, cn]
    by_cases hX : X n = true
    · rcases lt7 (h n (by omega)) with e | e | e | e | e | e | e <;> simp [hX, e] <;> omega
    · simp [hX]
      omega
theorem za_le {f : Nat → Nat} {X : Nat → Bool} : ∀ {n : Nat}, (∀ d, d < n → f d < 7) → za f X n ≤ 16777216 * n
  | 0, _ => Nat.le_refl _
  | n + 1, h => by
    have ih := za_le (f := f) (X := X) (n := n) (fun d hd => h d (by omega))
    have h6 : 16 ^ f n ≤ 16 ^ 6 := Nat.pow_le_pow_right (by decide) (by have := h n (by omega); omega)
    have e6 : (16 : Nat) ^ 6 = 16777216 := rfl
    rw [za]
    by_cases hX : X n = true
    · rw [if_pos hX]; omega
    · rw [if_neg hX]; omega
theorem za_bal {n : Nat} {t h : Nat → Nat} {X : Nat → Bool} (hn : n ≤ 8) (ht : ∀ d, d < n → t d < 7) (hh : ∀ d, d < n → h d < 7) : za t X n = za h X n ↔ Bal n t h X := by
  constructor
  · intro e
    rw [za_cn ht, za_cn hh] at e
    have a := fun c => Nat.le_trans (cn_le t X c n) hn
    have b := fun c => Nat.le_trans (cn_le h X c n) hn
    have a0 := a 0; have a1 := a 1; have a2 := a 2; have a3 := a 3; have a4 := a 4; have a5 := a 5; have a6 := a 6
    have b0 := b 0; have b1 := b 1; have b2 := b 2; have b3 := b 3; have b4 := b 4; have b5 := b 5; have b6 := b 6
    have q0 : cn t X 0 n = cn h X 0 n := by omega
    have q1 : cn t X 1 n = cn h X 1 n := by omega
    have q2 : cn t X 2 n = cn h X 2 n := by omega
    have q3 : cn t X 3 n = cn h X 3 n := by omega
    have q4 : cn t X 4 n = cn h X 4 n := by omega
    have q5 : cn t X 5 n = cn h X 5 n := by omega
    have q6 : cn t X 6 n = cn h X 6 n := by omega
    intro c
    by_cases hc : c < 7
    · rcases lt7 hc with e | e | e | e | e | e | e <;> rw [e] <;> assumption
    · rw [cn_e (fun d hd _ z => hc (by rw [← z]; exact ht d hd)), cn_e (fun d hd _ z => hc (by rw [← z]; exact hh d hd))]
  · intro hb
    rw [za_cn ht, za_cn hh, hb 0, hb 1, hb 2, hb 3, hb 4, hb 5, hb 6]
/-- what a set's going home takes from each court and adds to it -/
def spl (t h : Nat → Nat) (X : Nat → Bool) (n : Nat) : Int32 := nI (za t X n) - nI (za h X n)
theorem spl_congr {t h : Nat → Nat} {X Y : Nat → Bool} {n : Nat} (he : ∀ d, d < n → X d = Y d) : spl t h X n = spl t h Y n := by
  unfold spl
  rw [za_congr he, za_congr he]
theorem sub4 (a b c d : Int32) : (a - b) + (c - d) = (c + a) - (d + b) := by grind
theorem spl_rm {t h : Nat → Nat} {X : Nat → Bool} {d n : Nat} (hX : X d = true) (hd : d < n) : spl t h (dif X (sng d)) n + (nI (16 ^ t d) - nI (16 ^ h d)) = spl t h X n := by
  unfold spl
  rw [sub4, nI_add, nI_add, ← za_rm hX hd, ← za_rm hX hd]
theorem spl_0 {n : Nat} {t h : Nat → Nat} {X : Nat → Bool} (hn : n ≤ 8) (ht : ∀ d, d < n → t d < 7) (hh : ∀ d, d < n → h d < 7) : spl t h X n = 0 ↔ Bal n t h X := by
  rw [← za_bal hn ht hh]
  have l1 := za_le (X := X) ht
  have l2 := za_le (X := X) hh
  unfold spl
  rw [← Int32.toInt_inj, pk_sub_toInt (by omega) (by omega)]
  have : (0 : Int32).toInt = 0 := by decide
  omega
/-! sets as numbers -/
def tbp (s : Nat) : Nat → Bool := fun d => s.testBit d
theorem pcn_ext {k m : Nat} (h : ∀ i, m ≤ i → k.testBit i = false) : ∀ n, m ≤ n → pcn k n = pcn k m
  | 0, hm => by
    have : m = 0 := by omega
    rw [this]
  | n + 1, hm => by
    by_cases hq : m = n + 1
    · rw [hq]
    · rw [pcn, tb_f (h n (by omega)), Nat.add_zero]
      exact pcn_ext h n (by omega)
theorem pcn_cn {k c : Nat} {f : Nat → Nat} {X : Nat → Bool} : ∀ {n : Nat}, (∀ i, i < n → (k.testBit i = true ↔ X i = true ∧ f i = c)) → pcn k n = cn f X c n
  | 0, _ => rfl
  | n + 1, h => by
    rw [pcn, cn, pcn_cn (n := n) (fun i hi => h i (by omega))]
    have := h n (by omega)
    by_cases hk : k.testBit n = true
    · rw [tb_t hk, if_pos (this.mp hk)]
    · rw [tb_f (bf hk), if_neg (fun z => hk (this.mpr z))]
theorem pcn_sz {k : Nat} {X : Nat → Bool} : ∀ {n : Nat}, (∀ i, i < n → (k.testBit i = true ↔ X i = true)) → pcn k n = sz X n
  | 0, _ => rfl
  | n + 1, h => by
    rw [pcn, sz, pcn_sz (n := n) (fun i hi => h i (by omega))]
    have := h n (by omega)
    by_cases hk : k.testBit n = true
    · rw [tb_t hk, if_pos (this.mp hk)]
    · rw [tb_f (bf hk), if_neg (fun z => hk (this.mpr z))]
theorem tb_ge {s n i : Nat} (h : s < 2 ^ n) (hi : n ≤ i) : s.testBit i = false := Nat.testBit_lt_two_pow (Nat.lt_of_lt_of_le h (Nat.pow_le_pow_right (by decide) hi))
theorem pc_at {s c D : Nat} {t : Nat → Nat} (hs : s < 2 ^ D) (hD : D ≤ 8) : pc (s &&& bs (fun d => t d == c) D) = cn t (tbp s) c D := by
  unfold pc
  rw [pcn_ext (m := D) (fun i hi => by rw [Nat.testBit_and, tb_ge hs hi, Bool.false_and]) 8 hD]
  refine pcn_cn fun i hi => ?_
  rw [Nat.testBit_and, bs_tb]
  unfold tbp
  simp [hi]
theorem pc_sz {p : Nat → Bool} {D : Nat} (hD : D ≤ 8) : pc (bs p D) = sz p D := by
  unfold pc
  rw [pcn_ext (m := D) (fun i hi => tb_ge (bs_lt p D) hi) 8 hD]
  refine pcn_sz fun i hi => ?_
  rw [bs_tb]
  simp [hi]
theorem sz_le (X : Nat → Bool) : ∀ n, sz X n ≤ n
  | 0 => Nat.le_refl _
  | n + 1 => by
    have := sz_le X n
    rw [sz]
    by_cases h : X n = true
    · rw [if_pos h]; omega
    · rw [if_neg h]; omega
theorem sz_mono (X : Nat → Bool) {a b : Nat} (h : a ≤ b) : sz X a ≤ sz X b := by
  induction b with
  | zero =>
    have : a = 0 := by omega
    rw [this]
    exact Nat.le_refl _
  | succ b ih =>
    by_cases hq : a = b + 1
    · rw [hq]
      exact Nat.le_refl _
    · have := ih (by omega)
      rw [sz]
      omega
theorem sz_lt {X : Nat → Bool} {a b : Nat} (hX : X a = true) (h : a < b) : sz X a < sz X b := by
  have := sz_mono X (show a + 1 ≤ b by omega)
  rw [sz, if_pos hX] at this
  omega
theorem sz_inj {X : Nat → Bool} {a b : Nat} (ha : X a = true) (hb : X b = true) (h : sz X a = sz X b) : a = b := by
  rcases Nat.lt_trichotomy a b with q | q | q
  · have := sz_lt ha q
    omega
  · exact q
  · have := sz_lt hb q
    omega
theorem sz_at {X : Nat → Bool} : ∀ {n i : Nat}, i < sz X n → ∃ d, d < n ∧ X d = true ∧ sz X d = i
  | 0, i, h => by
    rw [sz] at h
    omega
  | n + 1, i, h => by
    by_cases hi : i < sz X n
    · obtain ⟨d, h1, h2, h3⟩ := sz_at hi
      exact ⟨d, by omega, h2, h3⟩
    · rw [sz] at h
      by_cases hX : X n = true
      · rw [if_pos hX] at h
        exact ⟨n, by omega, hX, by omega⟩
      · rw [if_neg hX] at h
        omega
/-- the set of dolls that a set of strays is -/
def exs (W : Nat → Bool) (s : Nat) : Nat → Bool := fun d => W d && s.testBit (sz W d)
theorem exs_t {W : Nat → Bool} {s d : Nat} : exs W s d = true ↔ W d = true ∧ s.testBit (sz W d) = true := by
  unfold exs
  cases W d <;> simp
theorem exs_rm {W : Nat → Bool} {s d : Nat} (hW : W d = true) (hs : s.testBit (sz W d) = true) (x : Nat) : exs W (s ^^^ 2 ^ sz W d) x = dif (exs W s) (sng d) x := by
  refine beq2 ⟨fun z => ?_, fun z => ?_⟩
  · have h1 := exs_t.mp z
    rw [Nat.testBit_xor, Nat.testBit_two_pow] at h1
    have hx : x ≠ d := fun q => by
      rw [q, hs] at h1
      simp at h1
    have hne : sz W d ≠ sz W x := fun q => hx (sz_inj h1.1 hW q.symm)
    refine dif_t.mpr ⟨exs_t.mpr ⟨h1.1, ?_⟩, bf fun q => hx (sng_t.mp q)⟩
    have h2 := h1.2
    simp [hne] at h2
    exact h2
  · have h1 := dif_t.mp z
    have h2 := exs_t.mp h1.1
    have hx : x ≠ d := fun q => by
      rw [sng_t.mpr q] at h1
      exact absurd h1.2 (by decide)
    have hne : sz W d ≠ sz W x := fun q => hx (sz_inj h2.1 hW q.symm)
    refine exs_t.mpr ⟨h2.1, ?_⟩
    rw [Nat.testBit_xor, Nat.testBit_two_pow, h2.2]
    simp [hne]
theorem exs_all {W : Nat → Bool} {n d : Nat} (hd : d < n) : exs W (2 ^ sz W n - 1) d = W d := by
  refine beq2 ⟨fun z => (exs_t.mp z).1, fun z => exs_t.mpr ⟨z, ?_⟩⟩
  rw [Nat.testBit_two_pow_sub_one]
  exact decide_eq_true (sz_lt z hd)
theorem exs_not {W : Nat → Bool} {n s d : Nat} (hd : d < n) : exs W ((2 ^ sz W n - 1) ^^^ s) d = dif W (exs W s) d := by
  have e : W d = true → (2 ^ sz W n - 1).testBit (sz W d) = true := fun z => by
    rw [Nat.testBit_two_pow_sub_one]
    exact decide_eq_true (sz_lt z hd)
  refine beq2 ⟨fun z => ?_, fun z => ?_⟩
  · have h1 := exs_t.mp z
    rw [Nat.testBit_xor, e h1.1] at h1
    refine dif_t.mpr ⟨h1.1, bf fun q => ?_⟩
    rw [(exs_t.mp q).2] at h1
    exact absurd h1.2 (by decide)
  · have h1 := dif_t.mp z
    refine exs_t.mpr ⟨h1.1, ?_⟩
    rw [Nat.testBit_xor, e h1.1]
    cases hs : s.testBit (sz W d)
    · rfl
    · rw [exs_t.mpr ⟨h1.1, hs⟩] at h1
      exact absurd h1.2 (by decide)
/-- each set of strays has its number -/
theorem exs_of {W S : Nat → Bool} {n : Nat} (hS : Sb n S W) : ∃ s, s < 2 ^ sz W n ∧ ∀ d, d < n → exs W s d = S d := by
  refine ⟨os S (fun d => sz W d) n, ?_, fun d hd => ?_⟩
  · refine Nat.lt_of_not_le fun hge => ?_
    obtain ⟨i, hi, hb⟩ := Nat.exists_ge_and_testBit_of_ge_two_pow hge
    obtain ⟨d, hd, hS2, hf⟩ := (os_tb _ _ _ _).mp hb
    have := sz_lt (hS d hd hS2) hd
    omega
  · refine beq2 ⟨fun z => ?_, fun z => exs_t.mpr ⟨hS d hd z, (os_tb _ _ _ _).mpr ⟨d, hd, z, rfl⟩⟩⟩
    have h1 := exs_t.mp z
    obtain ⟨x, hx, hSx, hf⟩ := (os_tb _ _ _ _).mp h1.2
    rw [← sz_inj (hS x hx hSx) h1.1 hf]
    exact hSx
