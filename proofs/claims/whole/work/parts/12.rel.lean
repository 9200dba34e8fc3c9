/-! the relation between the class's part of the memory and the model's -/
def wt (v : Nat → Nat) : Nat → Nat → Nat
  | 0, _ => 0
  | c + 1, s => wt v c s + if s.testBit c then v c else 0
def Ab (ra rb : Nat) : Prop := (ra = 113 ∧ rb = 119) ∨ (ra = 119 ∧ rb = 113)
def Rol (I : cM) (ra C D : Nat) (v kd hm : Nat → Nat) (pt q : Nat) : Prop :=
  C ≤ 7 ∧ C ≠ 1 ∧ D ≤ 8 ∧ (C = 0 → D = 0) ∧ I ra 5 = nI C ∧ I 137 0 = nI C ∧ I ra 6 = nI D ∧ I 137 2 = nI D
  ∧ (∀ c, c < C → 1 ≤ v c ∧ v c ≤ 9 ∧ I (ra + 1) c = nI (v c) ∧ I 138 c = nI (v c))
  ∧ (∀ d, d < D → kd d ≤ 3 ∧ I (ra + 2) d = nI (kd d) ∧ I 139 d = nI (kd d))
  ∧ (∀ d, d < D → hm d < C ∧ I (ra + 3) d = nI (hm d) ∧ I 140 d = nI (hm d))
  ∧ pt < 64 ∧ I ra 7 = nI pt ∧ I 137 6 = nI pt
  ∧ q ≤ 63 ∧ (0 < C ↔ 1 ≤ q) ∧ I ra 8 = nI q ∧ I 137 7 = nI q
  ∧ (∀ s, s < 2 ^ C → I (ra + 5) s = nI (wt v C s))
/-- a scene at a, and the 36 numbers of the model from place o of row m on -/
def SC (I : cM) (C D a m o : Nat) (t s w e : Nat → Nat) (u y : Nat) : Prop :=
  (∀ d, d < D → t d < C ∧ I (a + 1) d = nI (t d) ∧ I m (o + d) = nI (t d))
  ∧ (∀ d, d < D → s d < 64 ∧ I (a + 2) d = nI (s d) ∧ I m (o + (17 + d)) = nI (s d))
  ∧ (∀ d, d < D → w d ≤ 99 ∧ I (a + 3) d = nI (w d) ∧ I m (o + (9 + d)) = nI (w d))
  ∧ (∀ d, d < D → e d ≤ 999999 ∧ I (a + 4) d = nI (e d) ∧ I m (o + (25 + d)) = nI (e d))
  ∧ u < 2 ^ D ∧ I a 4 = nI u ∧ I m (o + 8) = nI u
  ∧ y ≤ 9060 ∧ I a 5 = nI y ∧ I m (o + 33) = nI y
  ∧ I a 6 = I m (o + 34) ∧ I a 7 = I m (o + 35)
def Scn (I : cM) (C D a m o : Nat) : Prop := ∃ (t s w e : Nat → Nat) (u y : Nat), SC I C D a m o t s w e u y
def Txt (I : cM) (T : Nat) (tx : Nat → Nat) : Prop := T ≤ 240 ∧ I 4 1 = nI T ∧ I 137 11 = nI T ∧ (∀ j, j < T → tx j < 256 ∧ I 5 j = nI (tx j) ∧ I 143 j = nI (tx j)) ∧ I 4 3 = I 137 12
def Pst (I : cM) (C D z nx : Nat) : Prop := z ≤ 16 ∧ nx < 16 ∧ I 11 1 = nI nx ∧ I 11 2 = nI z ∧ I 137 25 = nI z ∧ ∀ i, i < z → Scn I C D (13 + 5 * ((nx + 15 - i) % 16)) 148 (36 * (z - 1 - i))
def Img (I : cM) (C D : Nat) : Prop := ∀ i, i < 2 → I (125 + 6 * i) 2 = I 156 i ∧ (I 156 i = 0 ∨ I 156 i = 1) ∧ (I 156 i = 1 → Scn I C D (126 + 6 * i) 155 (37 * i) ∧ ∃ ch, ch < 2 ^ 31 ∧ I (125 + 6 * i) 1 = nI ch ∧ I 155 (37 * i + 36) = nI ch)
def Bok (I : cM) (C D z : Nat) (bd bc : Nat → Nat) : Prop := z ≤ 15 ∧ I 93 2 = nI z ∧ I 137 31 = nI z ∧ ∀ j, j < z → bd j < D ∧ bc j < C ∧ I 94 j = nI (bd j) ∧ I 153 j = nI (bd j) ∧ I 95 j = nI (bc j) ∧ I 154 j = nI (bc j)
def Sed (I : cM) (ch : Nat) : Prop := ch < 2 ^ 31 ∧ I 3 9 = nI ch ∧ I 137 9 = nI ch
def Sta (I : cM) (xs : Nat → Int32) : Prop := I 0 = c_fact ∧ I 1 = c_like ∧ I 2 = xs
def Rel (ra rb : Nat) (xs : Nat → Int32) (I : cM) : Prop := ∃ (C D : Nat) (v kd hm : Nat → Nat) (pt q : Nat), Ab ra rb ∧ Rol I ra C D v kd hm pt q ∧ (∃ T tx, Txt I T tx) ∧ Scn I C D 6 142 0 ∧ (∃ z nx, Pst I C D z nx) ∧ Img I C D ∧ (∃ z bd bc, Bok I C D z bd bc) ∧ (∃ ch, Sed I ch) ∧ Sta I xs
/-- the class's call and the model's answer alike, and what they leave is related again -/
def Pr (L : Nat) (xs : Nat → Int32) (P Q : MM Int32) : Prop := ∀ (ra rb : Nat) (I : cM), Rel ra rb xs I → ∃ (r : Int32) (ra1 rb1 : Nat) (I1 I2 : cM), P (hp ra rb L I) = some (r, hp ra1 rb1 L I1) ∧ I1 2 = xs ∧ Q (hp ra1 rb1 L I1) = some (r, hp ra1 rb1 L I2) ∧ Rel ra1 rb1 xs I2
theorem Ab.rl {ra rb : Nat} (h : Ab ra rb) : c_rl ra := by
  rcases h with ⟨rfl, -⟩ | ⟨rfl, -⟩
  · exact rl_113
  · exact rl_119
theorem Ab.rl2 {ra rb : Nat} (h : Ab ra rb) : c_rl rb := by
  rcases h with ⟨-, rfl⟩ | ⟨-, rfl⟩
  · exact rl_119
  · exact rl_113
theorem m_bind_some {α β : Type} {P : MM α} {K : α → MM β} {x : α} {σ σ' : cH} (h : P σ = some (x, σ')) : m_bind P K σ = K x σ' := by
  unfold m_bind
  rw [h]
/-- fresh objects are related -/
theorem rel_ini (xs : Nat → Int32) : Rel 113 119 xs (I0 xs) := by
  refine ⟨0, 0, fun _ => 0, fun _ => 0, fun _ => 0, 0, 0, Or.inl ⟨rfl, rfl⟩, ?_, ⟨0, fun _ => 0, ?_⟩, ?_, ⟨0, 0, ?_⟩, ?_, ⟨0, fun _ => 0, fun _ => 0, ?_⟩, ⟨0, ?_⟩, ?_⟩
  · refine ⟨by decide, by decide, by decide, fun _ => rfl, rfl, rfl, rfl, rfl, fun c h => absurd h (by omega), fun c h => absurd h (by omega), fun c h => absurd h (by omega), by decide, rfl, rfl, by decide, ⟨fun h => absurd h (by decide), fun h => absurd h (by decide)⟩, rfl, rfl, fun s h => ?_⟩
    have : s = 0 := by simp at h; exact h
    subst this
    rfl
  · exact ⟨by decide, rfl, rfl, fun j h => absurd h (by omega), rfl⟩
  · refine ⟨fun _ => 0, fun _ => 0, fun _ => 0, fun _ => 0, 0, 0, ?_⟩
    exact ⟨fun c h => absurd h (by omega), fun c h => absurd h (by omega), fun c h => absurd h (by omega), fun c h => absurd h (by omega), by decide, rfl, rfl, by decide, rfl, rfl, rfl, rfl⟩
  · exact ⟨by decide, by decide, rfl, rfl, rfl, fun i h => absurd h (by omega)⟩
  · intro i hi
    match i, hi with
    | 0, _ => exact ⟨rfl, Or.inl rfl, fun h => absurd (show (0 : Int32) = 1 from h) (by decide)⟩
    | 1, _ => exact ⟨rfl, Or.inl rfl, fun h => absurd (show (0 : Int32) = 1 from h) (by decide)⟩
    | i + 2, hi => exact absurd hi (by omega)
  · exact ⟨by decide, rfl, rfl, fun j h => absurd h (by omega)⟩
  · exact ⟨by decide, rfl, rfl⟩
  · exact ⟨rfl, rfl, rfl⟩
