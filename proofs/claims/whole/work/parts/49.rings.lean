/-! rings: sets of dolls in which as many are at each court as belong to it; how many such a set parts into -/
def cn (f : Nat → Nat) (X : Nat → Bool) (c : Nat) : Nat → Nat
  | 0 => 0
  | n + 1 => cn f X c n + if X n = true ∧ f n = c then 1 else 0
def sz (X : Nat → Bool) : Nat → Nat
  | 0 => 0
  | n + 1 => sz X n + if X n = true then 1 else 0
def dif (X Y : Nat → Bool) : Nat → Bool := fun d => X d && !Y d
def uni (X Y : Nat → Bool) : Nat → Bool := fun d => X d || Y d
def itr (X Y : Nat → Bool) : Nat → Bool := fun d => X d && Y d
def sng (d : Nat) : Nat → Bool := fun x => decide (x = d)
def Sb (n : Nat) (A X : Nat → Bool) : Prop := ∀ d, d < n → A d = true → X d = true
def Nem (n : Nat) (A : Nat → Bool) : Prop := ∃ d, d < n ∧ A d = true
def Bal (n : Nat) (t h : Nat → Nat) (X : Nat → Bool) : Prop := ∀ c, cn t X c n = cn h X c n
def Pt (n : Nat) (t h : Nat → Nat) : Nat → (Nat → Bool) → Prop
  | 0, X => ∀ d, d < n → X d = false
  | k + 1, X => ∃ A : Nat → Bool, Sb n A X ∧ Nem n A ∧ Bal n t h A ∧ Pt n t h k (dif X A)
theorem dif_t {X Y : Nat → Bool} {d : Nat} : dif X Y d = true ↔ X d = true ∧ Y d = false := by
  unfold dif
  cases X d <;> cases Y d <;> decide
theorem dif_f {X Y : Nat → Bool} {d : Nat} : dif X Y d = false ↔ (X d = true → Y d = true) := by
  unfold dif
  cases X d <;> cases Y d <;> decide
theorem uni_t {X Y : Nat → Bool} {d : Nat} : uni X Y d = true ↔ X d = true ∨ Y d = true := by
  unfold uni
  cases X d <;> cases Y d <;> decide
theorem itr_t {X Y : Nat → Bool} {d : Nat} : itr X Y d = true ↔ X d = true ∧ Y d = true := by
  unfold itr
  cases X d <;> cases Y d <;> decide
theorem sng_t {d x : Nat} : sng d x = true ↔ x = d := by
  unfold sng
  exact decide_eq_true_iff
theorem bf {b : Bool} (h : ¬ b = true) : b = false := by cases b <;> simp_all
theorem beq2 {a b : Bool} (h : a = true ↔ b = true) : a = b := by cases a <;> cases b <;> simp_all
theorem cn_congr {f g : Nat → Nat} {X Y : Nat → Bool} {c : Nat} : ∀ {n : Nat}, (∀ d, d < n → X d = Y d) → (∀ d, d < n → X d = true → f d = g d) → cn f X c n = cn g Y c n
  | 0, _, _ => rfl
  | n + 1, h1, h2 => by
    rw [cn, cn, cn_congr (n := n) (fun d hd => h1 d (by omega)) (fun d hd => h2 d (by omega)), h1 n (by omega)]
    by_cases hY : Y n = true
    · rw [h2 n (by omega) (by rw [h1 n (by omega)]; exact hY)]
    · rw [if_neg (fun z => hY z.1), if_neg (fun z => hY z.1)]
theorem cn_add {f : Nat → Nat} {X A : Nat → Bool} {c : Nat} : ∀ {n : Nat}, Sb n A X → cn f X c n = cn f A c n + cn f (dif X A) c n
  | 0, _ => rfl
  | n + 1, h => by
    have ih := cn_add (f := f) (c := c) (n := n) (fun d hd => h d (by omega))
    have hn := h n (by omega)
    rw [cn, cn, cn, ih]
    by_cases hf : f n = c
    · by_cases hA : A n = true
      · rw [if_pos ⟨hn hA, hf⟩, if_pos ⟨hA, hf⟩, if_neg (fun z => by have := (dif_t.mp z.1).2; rw [hA] at this; exact absurd this (by decide))]
        omega
      · by_cases hX : X n = true
        · rw [if_pos ⟨hX, hf⟩, if_neg (fun z => hA z.1), if_pos ⟨dif_t.mpr ⟨hX, bf hA⟩, hf⟩]
          omega
        · rw [if_neg (fun z => hX z.1), if_neg (fun z => hA z.1), if_neg (fun z => hX (dif_t.mp z.1).1)]
          omega
    · rw [if_neg (fun z => hf z.2), if_neg (fun z => hf z.2), if_neg (fun z => hf z.2)]
      omega
theorem sz_congr {X Y : Nat → Bool} : ∀ {n : Nat}, (∀ d, d < n → X d = Y d) → sz X n = sz Y n
  | 0, _ => rfl
  | n + 1, h => by rw [sz, sz, sz_congr (n := n) (fun d hd => h d (by omega)), h n (by omega)]
theorem sz_add {X A : Nat → Bool} : ∀ {n : Nat}, Sb n A X → sz X n = sz A n + sz (dif X A) n
  | 0, _ => rfl
  | n + 1, h => by
    have ih := sz_add (n := n) (fun d hd => h d (by omega))
    have hn := h n (by omega)
    rw [sz, sz, sz, ih]
    by_cases hA : A n = true
    · rw [if_pos (hn hA), if_pos hA, if_neg (fun z => by have := (dif_t.mp z).2; rw [hA] at this; exact absurd this (by decide))]
      omega
    · by_cases hX : X n = true
      · rw [if_pos hX, if_neg hA, if_pos (dif_t.mpr ⟨hX, bf hA⟩)]
        omega
      · rw [if_neg hX, if_neg hA, if_neg (fun z => hX (dif_t.mp z).1)]
        omega
theorem cn_e {f : Nat → Nat} {X : Nat → Bool} {c : Nat} : ∀ {n : Nat}, (∀ d, d < n → X d = true → f d ≠ c) → cn f X c n = 0
  | 0, _ => rfl
  | n + 1, h => by
    rw [cn, cn_e (n := n) (fun d hd => h d (by omega)), if_neg (fun z => h n (by omega) z.1 z.2)]
theorem cn_pos {f : Nat → Nat} {X : Nat → Bool} {c n : Nat} (h : 1 ≤ cn f X c n) : ∃ x, x < n ∧ X x = true ∧ f x = c := by
  refine Classical.byContradiction fun hn => ?_
  have := cn_e (f := f) (X := X) (c := c) (n := n) (fun d hd hX hf => hn ⟨d, hd, hX, hf⟩)
  omega
theorem cn_sng {f : Nat → Nat} {c d : Nat} : ∀ {n : Nat}, d < n → cn f (sng d) c n = if f d = c then 1 else 0
  | n + 1, h => by
    rw [cn]
    by_cases hd : n = d
    · subst hd
      rw [cn_e (fun x hx hX => by have := sng_t.mp hX; omega)]
      by_cases hf : f n = c
      · rw [if_pos ⟨sng_t.mpr rfl, hf⟩, if_pos hf]
      · rw [if_neg (fun z => hf z.2), if_neg hf]
    · rw [cn_sng (n := n) (by omega), if_neg (show ¬ (sng d n = true ∧ f n = c) from fun z => hd (sng_t.mp z.1)), Nat.add_zero]
theorem sz_e {X : Nat → Bool} : ∀ {n : Nat}, (∀ d, d < n → X d = false) → sz X n = 0
  | 0, _ => rfl
  | n + 1, h => by
    rw [sz, sz_e (n := n) (fun d hd => h d (by omega)), if_neg (by rw [h n (by omega)]; decide)]
theorem sz_sng {d : Nat} : ∀ {n : Nat}, d < n → sz (sng d) n = 1
  | n + 1, h => by
    rw [sz]
    by_cases hd : n = d
    · subst hd
      rw [sz_e (fun x hx => bf fun z => by have := sng_t.mp z; omega), if_pos (sng_t.mpr rfl)]
    · rw [sz_sng (n := n) (by omega), if_neg (fun z => hd (sng_t.mp z))]
theorem sb_sng {n d : Nat} {X : Nat → Bool} (h : X d = true) : Sb n (sng d) X := fun x _ hx => by
  rw [sng_t.mp hx]
  exact h
theorem cn_rm {f : Nat → Nat} {X : Nat → Bool} {c d n : Nat} (h : X d = true) (hd : d < n) : cn f X c n = (if f d = c then 1 else 0) + cn f (dif X (sng d)) c n := by
  rw [cn_add (sb_sng h), cn_sng hd]
theorem sz_rm {X : Nat → Bool} {d n : Nat} (h : X d = true) (hd : d < n) : sz X n = 1 + sz (dif X (sng d)) n := by
  rw [sz_add (sb_sng h), sz_sng hd]
theorem sz_pos {X : Nat → Bool} {d n : Nat} (h : X d = true) (hd : d < n) : 1 ≤ sz X n := by
  rw [sz_rm h hd]
  omega
section N1
variable {n : Nat} {t h : Nat → Nat} {A B X Y : Nat → Bool} {k : Nat}
theorem Bal.congr (hb : Bal n t h X) (he : ∀ d, d < n → X d = Y d) : Bal n t h Y := fun c => by
  rw [← cn_congr (f := t) (g := t) he (fun _ _ _ => rfl), ← cn_congr (f := h) (g := h) he (fun _ _ _ => rfl)]
  exact hb c
theorem Bal.emp (he : ∀ d, d < n → X d = false) : Bal n t h X := fun c => by
  rw [cn_e (fun d hd z => by rw [he d hd] at z; exact absurd z (by decide)), cn_e (fun d hd z => by rw [he d hd] at z; exact absurd z (by decide))]
theorem Bal.sub (hX : Bal n t h X) (hA : Bal n t h A) (hs : Sb n A X) : Bal n t h (dif X A) := fun c => by
  have h1 := hX c
  rw [cn_add hs, cn_add (f := h) hs, hA c] at h1
  omega
theorem Bal.add (hA : Bal n t h A) (hD : Bal n t h (dif X A)) (hs : Sb n A X) : Bal n t h X := fun c => by
  rw [cn_add hs, cn_add (f := h) hs, hA c, hD c]
theorem Bal.one {d : Nat} (hd : d < n) (he : t d = h d) : Bal n t h (sng d) := fun c => by
  rw [cn_sng hd, cn_sng hd, he]
theorem Bal.join (hA : Bal n t h A) (hB : Bal n t h B) (hd : ∀ d, d < n → A d = true → B d = false) : Bal n t h (uni A B) := by
  refine hA.add (hB.congr fun d hd' => ?_) (fun d _ z => uni_t.mpr (Or.inl z))
  refine beq2 ⟨fun z => dif_t.mpr ⟨uni_t.mpr (Or.inr z), bf fun za => ?_⟩, fun z => ?_⟩
  · rw [hd d hd' za] at z
    exact absurd z (by decide)
  · rcases uni_t.mp (dif_t.mp z).1 with z1 | z1
    · rw [(dif_t.mp z).2] at z1
      exact absurd z1 (by decide)
    · exact z1
theorem Pt.congr : ∀ {k : Nat} {X Y : Nat → Bool}, Pt n t h k X → (∀ d, d < n → X d = Y d) → Pt n t h k Y
  | 0, X, Y, hp, he => fun d hd => by rw [← he d hd]; exact hp d hd
  | k + 1, X, Y, ⟨A, h1, h2, h3, h4⟩, he => by
    refine ⟨A, fun d hd z => by rw [← he d hd]; exact h1 d hd z, h2, h3, Pt.congr h4 fun d hd => ?_⟩
    unfold dif
    rw [he d hd]
theorem Pt.bal : ∀ {k : Nat} {X : Nat → Bool}, Pt n t h k X → Bal n t h X
  | 0, X, hp => Bal.emp hp
  | k + 1, X, ⟨A, h1, h2, h3, h4⟩ => h3.add (Pt.bal h4) h1
/-- the part in which a doll is -/
theorem Pt.ext : ∀ {k : Nat} {X : Nat → Bool} {e : Nat}, Pt n t h k X → e < n → X e = true → ∃ (B : Nat → Bool) (k' : Nat), k = k' + 1 ∧ B e = true ∧ Sb n B X ∧ Bal n t h B ∧ Pt n t h k' (dif X B)
  | 0, X, e, hp, he, hX => by
    rw [hp e he] at hX
    exact absurd hX (by decide)
  | k + 1, X, e, ⟨A, h1, h2, h3, h4⟩, he, hX => by
    by_cases hA : A e = true
    · exact ⟨A, k, rfl, hA, h1, h3, h4⟩
    · obtain ⟨B, k', g1, g2, g3, g4, g5⟩ := Pt.ext h4 he (dif_t.mpr ⟨hX, bf hA⟩)
      refine ⟨B, k, rfl, g2, fun d hd z => (dif_t.mp (g3 d hd z)).1, g4, ?_⟩
      subst g1
      refine ⟨A, fun d hd z => dif_t.mpr ⟨h1 d hd z, bf fun zb => ?_⟩, h2, h3, g5.congr fun d hd => ?_⟩
      · have := (dif_t.mp (g3 d hd zb)).2
        rw [z] at this
        exact absurd this (by decide)
      · unfold dif
        cases X d <;> cases A d <;> cases B d <;> rfl
/-- parts may be joined with a new one -/
theorem Pt.cons (hs : Sb n A X) (hne : Nem n A) (hb : Bal n t h A) (hp : Pt n t h k (dif X A)) : Pt n t h (k + 1) X := ⟨A, hs, hne, hb, hp⟩
theorem Pt.le_sz : ∀ {k : Nat} {X : Nat → Bool}, Pt n t h k X → k ≤ sz X n
  | 0, X, _ => Nat.zero_le _
  | k + 1, X, ⟨A, h1, ⟨d, hd, hA⟩, h3, h4⟩ => by
    have := Pt.le_sz h4
    have := sz_add h1
    have := sz_pos hA hd
    omega
/-- the most parts of a set -/
def MaxP (n : Nat) (t h : Nat → Nat) (X : Nat → Bool) (k : Nat) : Prop := Pt n t h k X ∧ ∀ k', Pt n t h k' X → k' ≤ k
/-- the most parts within a set -/
def MaxR (n : Nat) (t h : Nat → Nat) (X : Nat → Bool) (k : Nat) : Prop := (∃ Y, Sb n Y X ∧ Pt n t h k Y) ∧ ∀ k' Y, Sb n Y X → Pt n t h k' Y → k' ≤ k
theorem MaxR.max (hr : MaxR n t h X k) (hb : Bal n t h X) : MaxP n t h X k := by
  obtain ⟨⟨Y, h1, h2⟩, h3⟩ := hr
  refine ⟨?_, fun k' hp => h3 k' X (fun _ _ z => z) hp⟩
  by_cases hne : Nem n (dif X Y)
  · have hp : Pt n t h (k + 1) X := by
      refine Pt.cons (fun d _ z => (dif_t.mp z).1) hne (hb.sub h2.bal h1) (h2.congr fun d hd => ?_)
      refine beq2 ⟨fun z => dif_t.mpr ⟨h1 d hd z, dif_f.mpr fun _ => z⟩, fun z => ?_⟩
      exact (dif_f.mp (dif_t.mp z).2) (dif_t.mp z).1
    have := h3 (k + 1) X (fun _ _ z => z) hp
    omega
  · refine h2.congr fun d hd => beq2 ⟨fun z => h1 d hd z, fun z => ?_⟩
    refine Classical.byContradiction fun hY => hne ⟨d, hd, dif_t.mpr ⟨z, bf hY⟩⟩
theorem MaxR.emp (he : ∀ d, d < n → X d = false) : MaxR n t h X 0 := by
  refine ⟨⟨X, fun _ _ z => z, he⟩, fun k' Y hs hp => ?_⟩
  have := hp.le_sz
  rw [sz_e (fun d hd => bf fun z => by have := hs d hd z; rw [he d hd] at this; exact absurd this (by decide))] at this
  exact this
/-- the class's rule -/
theorem MaxR.step {m : Nat} (hne : Nem n X) (h1 : ∀ d, d < n → X d = true → ∃ k, MaxR n t h (dif X (sng d)) k ∧ k ≤ m) (h2 : ∃ d, d < n ∧ X d = true ∧ MaxR n t h (dif X (sng d)) m) : (Bal n t h X → MaxR n t h X (m + 1)) ∧ (¬ Bal n t h X → MaxR n t h X m) := by
  obtain ⟨d0, hd0, hX0, ⟨Y0, hY0, hp0⟩, -⟩ := h2
  have up : ∀ k' Y, Sb n Y X → Pt n t h k' Y → (∃ i, i < n ∧ X i = true ∧ Y i = false) → k' ≤ m := by
    intro k' Y hs hp ⟨i, hi, hX, hY⟩
    obtain ⟨k, hk, hkm⟩ := h1 i hi hX
    have := hk.2 k' Y (fun d hd z => dif_t.mpr ⟨hs d hd z, bf fun zs => by rw [sng_t.mp zs, hY] at z; exact absurd z (by decide)⟩) hp
    omega
  have up1 : ∀ k' Y, Sb n Y X → Pt n t h k' Y → k' ≤ m + 1 := by
    intro k' Y hs hp
    cases k' with
    | zero => omega
    | succ k' =>
      obtain ⟨A, g1, ⟨i, hi, hA⟩, g3, g4⟩ := hp
      have := up k' (dif Y A) (fun d hd z => hs d hd (dif_t.mp z).1) g4 ⟨i, hi, hs i hi (g1 i hi hA), dif_f.mpr fun _ => hA⟩
      omega
  have s0 : Sb n Y0 X := fun d hd z => (dif_t.mp (hY0 d hd z)).1
  have n0 : Y0 d0 = false := bf fun z => by
    have := (dif_t.mp (hY0 d0 hd0 z)).2
    rw [sng_t.mpr rfl] at this
    exact absurd this (by decide)
  refine ⟨fun hb => ⟨⟨X, fun _ _ z => z, ?_⟩, up1⟩, fun hb => ⟨⟨Y0, s0, hp0⟩, fun k' Y hs hp => ?_⟩⟩
  · refine Pt.cons (A := dif X Y0) (fun d _ z => (dif_t.mp z).1) ⟨d0, hd0, dif_t.mpr ⟨hX0, n0⟩⟩ (hb.sub hp0.bal s0) (hp0.congr fun d hd => ?_)
    refine beq2 ⟨fun z => dif_t.mpr ⟨s0 d hd z, dif_f.mpr fun _ => z⟩, fun z => ?_⟩
    exact (dif_f.mp (dif_t.mp z).2) (dif_t.mp z).1
  · refine Classical.byContradiction fun hk => ?_
    refine hb (hp.bal.congr fun d hd => beq2 ⟨fun z => hs d hd z, fun z => ?_⟩)
    exact Classical.byContradiction fun hY => hk (up k' Y hs hp ⟨d, hd, z, bf hY⟩)
theorem MaxP.uniq {k' : Nat} (h1 : MaxP n t h X k) (h2 : MaxP n t h X k') : k = k' := Nat.le_antisymm (h2.2 k h1.1) (h1.2 k' h2.1)
theorem MaxP.congr (h1 : MaxP n t h X k) (he : ∀ d, d < n → X d = Y d) : MaxP n t h Y k := ⟨h1.1.congr he, fun k' hp => h1.2 k' (hp.congr fun d hd => (he d hd).symm)⟩
theorem MaxR.congr (h1 : MaxR n t h X k) (he : ∀ d, d < n → X d = Y d) : MaxR n t h Y k := by
  obtain ⟨⟨Z, g1, g2⟩, g3⟩ := h1
  exact ⟨⟨Z, fun d hd z => by rw [← he d hd]; exact g1 d hd z, g2⟩, fun k' Z hs hp => g3 k' Z (fun d hd z => by rw [he d hd]; exact hs d hd z) hp⟩
end N1
