/-! agendas -/
def plc (c x : Nat) : Int32 := c_like (c % 6 * 3 + x)
theorem lt3 {x : Nat} (h : x < 3) : x = 0 ∨ x = 1 ∨ x = 2 := by omega
theorem lt7 {x : Nat} (h : x < 7) : x = 0 ∨ x = 1 ∨ x = 2 ∨ x = 3 ∨ x = 4 ∨ x = 5 ∨ x = 6 := by omega
theorem q_placeOf {σ : cH} {c x : Nat} (hc : c < 7) (hx : x < 3) : pX10_placeOf (nI c) (nI x) σ = some (plc c x, σ) := by
  rcases lt7 hc with rfl | rfl | rfl | rfl | rfl | rfl | rfl <;> rcases lt3 hx with rfl | rfl | rfl <;> rfl
theorem plc_tot : ∀ c, c < 7 → ∀ a, a < 3 → ∀ b, b < 3 → a ≠ b → (plc c b ≤ plc c a ↔ ¬ plc c a ≤ plc c b) := by decide
def sgv (v : Nat → Nat) (a b : Nat) : Nat → Int
  | 0 => 0
  | c + 1 => sgv v a b c + if plc c b ≤ plc c a then - (v c : Int) else (v c : Int)
theorem sgv_neg {v : Nat → Nat} {a b : Nat} (ha : a < 3) (hb : b < 3) (hab : a ≠ b) : ∀ {n : Nat}, n ≤ 7 → sgv v b a n = - sgv v a b n
  | 0, _ => rfl
  | n + 1, h => by
    have ih := sgv_neg (v := v) ha hb hab (n := n) (by omega)
    have h1 := plc_tot n (by omega) a ha b hb hab
    rw [sgv, sgv, ih]
    by_cases hq : plc n b ≤ plc n a
    · rw [if_pos hq, if_neg (h1.mp hq)]
      omega
    · rw [if_neg hq, if_pos (Decidable.of_not_not (fun z => hq (h1.mpr z)))]
      omega
theorem sgv_le {v : Nat → Nat} {a b : Nat} : ∀ {n : Nat}, (∀ c, c < n → v c ≤ 9) → sgv v a b n ≤ 9 * n ∧ - (9 * (n : Int)) ≤ sgv v a b n
  | 0, _ => by
    rw [sgv]
    omega
  | n + 1, h => by
    have ih := sgv_le (v := v) (a := a) (b := b) (n := n) (fun c hc => h c (by omega))
    have h2 := h n (by omega)
    rw [sgv]
    by_cases hq : plc n b ≤ plc n a
    · rw [if_pos hq]
      omega
    · rw [if_neg hq]
      omega
theorem iI_pos (z : Int) (n : Nat) : Int32.ofInt z + nI n = Int32.ofInt (z + n) := by
  rw [Int32.ofInt_add]
  rfl
theorem iI_neg (z : Int) (n : Nat) : Int32.ofInt z + - nI n = Int32.ofInt (z + - (n : Int)) := by
  rw [Int32.ofInt_add, Int32.ofInt_neg]
  rfl
theorem iI_t {z : Int} (h1 : -100 ≤ z) (h2 : z ≤ 100) : (Int32.ofInt z).toInt = z := Int32.toInt_ofInt_of_le (by omega) (by omega)
def win (v : Nat → Nat) (C a b : Nat) : Nat := if sgv v (min a b) (max a b) C < 0 then max a b else min a b
theorem win_or (v : Nat → Nat) (C a b : Nat) : win v C a b = a ∨ win v C a b = b := by
  unfold win
  by_cases h : sgv v (min a b) (max a b) C < 0
  · rw [if_pos h]
    omega
  · rw [if_neg h]
    omega
section G1
variable {ra rb L ro : Nat} {A B : cM} {C D : Nat} {v kd hm : Nat → Nat} {pt q : Nat}
theorem win_c (hro : c_rl ro) (h : CR A ro C D v kd hm pt q) (hC : C ≤ 7) (hX : A 1 = c_like) {a b : Nat} (ha : a < 3) (hb : b < 3) {K : Int32 → Int32 → Int32 → MM Int32} : ∀ (n j : Nat), j ≤ C → C < j + n → fX4_winnerOf_19 K n ro (nI a) (nI b) (Int32.ofInt (sgv v a b j)) (nI j) (hp ra rb L A) = K (nI a) (nI b) (Int32.ofInt (sgv v a b C)) (hp ra rb L A) := by
  intro n
  induction n with
  | zero =>
    intro j h1 h2
    omega
  | succ n ih =>
    intro j a1 a2
    rw [fX4_winnerOf_19, rg_5 hro, h.1]
    by_cases hj : j < C
    · have ih2 := ih (j + 1) (by omega) (by omega)
      rw [sgv] at ih2
      have e6 : nI j - nI j / 6 * 6 = nI (j % 6) := nI_mod (d := 6) (by omega) (by decide) (by decide)
      have e3 : nI (j % 6) * 3 = nI (j % 6 * 3) := pk_mul _ 3
      have hm6 : j % 6 < 6 := Nat.mod_lt _ (by decide)
      rw [if_neg (nI_ge hj (by omega))]
      unfold m_nz
      rw [if_neg (by decide), mlet, e6, e3, nI_add, l_1 (by omega), nI_add, l_1 (by omega), hX]
      rw [show c_like (j % 6 * 3 + a) = plc j a from rfl, show c_like (j % 6 * 3 + b) = plc j b from rfl]
      by_cases hq : plc j b ≤ plc j a
      · rw [if_pos hq] at ih2
        rw [if_pos hq, fX4_winnerOf_62, if_pos rfl, rg_0 hro, rl_1 hro (by omega), h.2.2.1 j hj, fX4_winnerOf_89, mlet, mlet, iI_neg, nI_1]
        exact ih2
      · rw [if_neg hq] at ih2
        rw [if_neg hq, fX4_winnerOf_62, if_neg ne10, rg_0 hro, rl_1 hro (by omega), h.2.2.1 j hj, fX4_winnerOf_89, mlet, mlet, iI_pos, nI_1]
        exact ih2
    · have : j = C := by omega
      subst this
      rw [if_pos (nI_le (by omega) (by omega))]
theorem win_m (h : MR B C D v kd hm pt q) (hC : C ≤ 7) {a b : Nat} (ha : a < 3) (hb : b < 3) {K : Int32 → Int32 → Int32 → MM Int32} : ∀ (n j : Nat), j ≤ C → C < j + n → fX10_winnerOf_5 K n 137 (nI a) (nI b) (Int32.ofInt (sgv v a b j)) (nI j) (hp ra rb L B) = K (nI a) (nI b) (Int32.ofInt (sgv v a b C)) (hp ra rb L B) := by
  intro n
  induction n with
  | zero =>
    intro j h1 h2
    omega
  | succ n ih =>
    intro j a1 a2
    rw [fX10_winnerOf_5, g_137_0, h.1]
    by_cases hj : j < C
    · have ih2 := ih (j + 1) (by omega) (by omega)
      rw [sgv] at ih2
      rw [if_neg (nI_ge hj (by omega)), m_bind_some (q_placeOf (by omega) ha), m_bind_some (q_placeOf (by omega) hb)]
      by_cases hq : plc j b ≤ plc j a
      · rw [if_pos hq] at ih2
        rw [if_pos hq, g_137_1, l_138 (by omega), h.2.2.1 j hj, fX10_winnerOf_48, mlet, mlet, iI_neg, nI_1]
        exact ih2
      · rw [if_neg hq] at ih2
        rw [if_neg hq, g_137_1, l_138 (by omega), h.2.2.1 j hj, fX10_winnerOf_48, mlet, mlet, iI_pos, nI_1]
        exact ih2
    · have : j = C := by omega
      subst this
      rw [if_pos (nI_le (by omega) (by omega))]
theorem q_winC (hro : c_rl ro) (h : CR A ro C D v kd hm pt q) (ho : OKR C D v kd hm pt q) (hX : A 1 = c_like) {a b : Nat} (ha : a < 3) (hb : b < 3) : pX4_winnerOf ro (nI a) (nI b) (hp ra rb L A) = some (nI (win v C a b), hp ra rb L A) := by
  have hC := ho.1
  have k := win_c (ra := ra) (rb := rb) (L := L) hro h hC hX (a := min a b) (b := max a b) (by omega) (by omega) (K := fX4_winnerOf_98) c_fu 0 (by omega) (by show C < 0 + 1000; omega)
  have hle := sgv_le (v := v) (a := min a b) (b := max a b) (n := C) (fun c hc => (ho.2.2.2.2.1 c hc).2)
  rw [pX4_winnerOf, mlet, mlet, c_mn_n (by omega) (by omega), c_mx_n (by omega) (by omega)]
  refine k.trans ?_
  rw [fX4_winnerOf_98]
  have ht := iI_t (z := sgv v (min a b) (max a b) C) (by omega) (by omega)
  have e0 : (0 : Int32).toInt = 0 := by decide
  unfold win
  by_cases hz : sgv v (min a b) (max a b) C < 0
  · rw [if_pos (by rw [t_lt, ht, e0]; exact hz), if_pos hz]
    rfl
  · rw [if_neg (by rw [t_lt, ht, e0]; exact hz), if_neg hz]
    rfl
theorem q_winM (h : MR B C D v kd hm pt q) (ho : OKR C D v kd hm pt q) {a b : Nat} (ha : a < 3) (hb : b < 3) (hab : a ≠ b) : pX10_winnerOf 137 (nI a) (nI b) (hp ra rb L B) = some (nI (win v C a b), hp ra rb L B) := by
  have hC := ho.1
  have k := win_m (ra := ra) (rb := rb) (L := L) h hC ha hb (K := fX10_winnerOf_56) c_fu 0 (by omega) (by show C < 0 + 1000; omega)
  have hle := sgv_le (v := v) (a := a) (b := b) (n := C) (fun c hc => (ho.2.2.2.2.1 c hc).2)
  have hn := sgv_neg (v := v) ha hb hab hC
  have ht := iI_t (z := sgv v a b C) (by omega) (by omega)
  have e0 : (0 : Int32).toInt = 0 := by decide
  rw [pX10_winnerOf]
  refine k.trans ?_
  rw [fX10_winnerOf_56]
  have c1 : Int32.ofInt (sgv v a b C) ≤ 0 ↔ sgv v a b C ≤ 0 := by rw [t_le, ht, e0]
  have c2 : 0 ≤ Int32.ofInt (sgv v a b C) ↔ 0 ≤ sgv v a b C := by rw [t_le, ht, e0]
  have c3 : nI b ≤ nI a ↔ b ≤ a := nI_leI (by omega) (by omega)
  simp only [c1, c2, c3]
  unfold win
  rcases Nat.lt_or_gt_of_ne hab with hlt | hgt
  · rw [Nat.min_eq_left (by omega), Nat.max_eq_right (by omega)]
    by_cases z1 : sgv v a b C ≤ 0
    · rw [if_pos z1]
      by_cases z2 : 0 ≤ sgv v a b C
      · rw [if_pos z2, if_neg (by omega), if_neg (by omega)]
        rfl
      · rw [if_neg z2, if_pos (by omega)]
        rfl
    · rw [if_neg z1, if_neg (by omega)]
      rfl
  · rw [Nat.min_eq_right (by omega), Nat.max_eq_left (by omega), hn]
    by_cases z1 : sgv v a b C ≤ 0
    · rw [if_pos z1]
      by_cases z2 : 0 ≤ sgv v a b C
      · rw [if_pos z2, if_pos (by omega), if_neg (by omega)]
        rfl
      · rw [if_neg z2, if_neg (by omega)]
        rfl
    · rw [if_neg z1, if_pos (by omega)]
      rfl
/-- the winner of the agenda that begins with a and b -/
def ag (v : Nat → Nat) (C a b : Nat) : Nat := win v C (win v C a b) (3 - a - b)
theorem ag_ok {v : Nat → Nat} {C a b : Nat} (ha : a < 3) (hb : b < 3) (hab : a ≠ b) : win v C a b < 3 ∧ 3 - a - b < 3 ∧ win v C a b ≠ 3 - a - b ∧ ag v C a b < 3 := by
  have h1 := win_or v C a b
  have h2 := win_or v C (win v C a b) (3 - a - b)
  unfold ag
  omega
theorem th3 {a b : Nat} (h : a + b ≤ 3) : (3 : Int32) - nI a - nI b = nI (3 - a - b) := by
  have e : (3 : Int32) - nI a = nI (3 - a) := pk_sub (a := 3) (by omega)
  rw [e, pk_sub (by omega)]
theorem q_agC (hro : c_rl ro) (h : CR A ro C D v kd hm pt q) (ho : OKR C D v kd hm pt q) (hX : A 1 = c_like) {a b : Nat} (ha : a < 3) (hb : b < 3) (hab : a ≠ b) : pX4_winnerFrom ro (nI a) (nI b) (hp ra rb L A) = some (nI (ag v C a b), hp ra rb L A) := by
  obtain ⟨k1, k2, k3, k4⟩ := ag_ok (v := v) (C := C) ha hb hab
  rw [pX4_winnerFrom, mlet, th3 (by omega), rv hro, m_bind_some (q_winC hro h ho hX ha hb), rv hro, m_bind_some (q_winC hro h ho hX k1 k2)]
  rfl
theorem q_agM (h : MR B C D v kd hm pt q) (ho : OKR C D v kd hm pt q) {a b : Nat} (ha : a < 3) (hb : b < 3) (hab : a ≠ b) : pX10_agendaOf 137 (nI a) (nI b) (hp ra rb L B) = some (nI (ag v C a b), hp ra rb L B) := by
  obtain ⟨k1, k2, k3, k4⟩ := ag_ok (v := v) (C := C) ha hb hab
  rw [pX10_agendaOf, v_137, m_bind_some (q_winM h ho ha hb hab), v_137, th3 (by omega), m_bind_some (q_winM h ho k1 k2 k3)]
  rfl
end G1
theorem q_isThing_f {σ : cH} {x : Int32} (h : x < 0 ∨ nI 3 ≤ x) : pX9_isThing x σ = some (0, σ) := by
  rw [pX9_isThing]
  by_cases h0 : x < 0
  · rw [if_pos h0]
    rfl
  · rw [if_neg h0, if_pos (show (3 : Int32) ≤ x from h.resolve_left h0)]
    rfl
theorem q_isThing_t {σ : cH} {a : Nat} (h : a < 3) : pX9_isThing (nI a) σ = some (1, σ) := by
  rw [pX9_isThing, if_neg (nI_pos (by omega)), if_neg (show ¬ (3 : Int32) ≤ nI a from nI_ge (b := 3) h (by decide))]
  rfl
theorem in2_t {σ : cH} {a : Nat} (h : a < 3) : pX10_in (nI a).toInt64 0 2 σ = some (1, σ) := c_in_nt (n := 3) h (by decide)
theorem in2_f {σ : cH} {x : Int32} (h : x < 0 ∨ nI 3 ≤ x) : pX10_in x.toInt64 0 2 σ = some (0, σ) := c_in_nf (n := 3) h (by decide)
theorem pr_agenda (L : Nat) (xs : Nat → Int32) (hL : L ≤ 192) (x y : Int32) : Pr L xs (pX9_agenda 3 x y) (pX10_agenda 137 x y) := by
  refine Pr.same fun ra rb I hR => ?_
  obtain ⟨C, D, v, kd, hm, pt, q, hab, hRo, hT, hN, hP, hI, hB, hS, hX⟩ := hR
  have hr := hab.rl
  have hc := hRo.c
  have hm2 := hRo.m
  have ho := hRo.o
  have hC := ho.1
  rw [pX9_agenda, pX10_agenda]
  have no1 : ∀ {x : Int32}, (x < 0 ∨ nI 3 ≤ x) → ∃ r, m_bind (pX9_isThing x) (fun x1 => if x1 = 0 then (m_ret ((-1000000002) : Int32)) else (m_bind (pX9_isThing y) (fun x2 => if x2 = 0 then (m_ret ((-1000000002) : Int32)) else (if x = y then (m_ret ((-1000000002) : Int32)) else (m_cv 3 8 (pX9_hasCongress 3) (fun x3 => if x3 = 0 then (m_ret ((-1000000003) : Int32)) else (m_gr 3 8 7 (fun a4 => m_cv a4 4 (pX4_winnerFrom a4 x y) (fun x5 => m_ret x5))))))))) (hp ra rb L I) = some (r, hp ra rb L I) ∧ m_bind (pX10_in (x.toInt64) 0 2) (fun x1 => if x1 = 0 then (m_ret ((-1000000002) : Int32)) else (m_bind (pX10_in (y.toInt64) 0 2) (fun x2 => if x2 = 0 then (m_ret ((-1000000002) : Int32)) else (if x = y then (m_ret ((-1000000002) : Int32)) else (m_gi 137 9 0 (fun x3 => if x3 = 0 then (m_ret ((-1000000003) : Int32)) else (m_cv 137 9 (pX10_agendaOf 137 x y) (fun x4 => m_ret x4)))))))) (hp ra rb L I) = some (r, hp ra rb L I) := by
    intro x h
    rw [m_bind_some (q_isThing_f h), m_bind_some (in2_f h)]
    exact ⟨_, rfl, rfl⟩
  rcases pk_ix x (n := 3) (by decide) with h | h | ⟨a, ha, rfl⟩
  · exact no1 (Or.inl h)
  · exact no1 (Or.inr h)
  rw [m_bind_some (q_isThing_t ha), m_bind_some (in2_t ha), if_neg ne10, if_neg ne10]
  rcases pk_ix y (n := 3) (by decide) with h | h | ⟨b, hb, rfl⟩
  · rw [m_bind_some (q_isThing_f (Or.inl h)), m_bind_some (in2_f (Or.inl h))]
    exact ⟨_, rfl, rfl⟩
  · rw [m_bind_some (q_isThing_f (Or.inr h)), m_bind_some (in2_f (Or.inr h))]
    exact ⟨_, rfl, rfl⟩
  rw [m_bind_some (q_isThing_t hb), m_bind_some (in2_t hb), if_neg ne10, if_neg ne10]
  by_cases hab2 : a = b
  · subst hab2
    rw [if_pos rfl, if_pos rfl]
    exact ⟨_, rfl, rfl⟩
  · have hne := n_ne (a := a) (b := b) (by omega) (by omega) hab2
    rw [if_neg hne, if_neg hne, v_3, m_bind_some (q_hasCongress hr hc.1 hC), g_137_0, hm2.1]
    by_cases hz : C = 0
    · rw [if_pos hz, if_pos rfl, hz, if_pos (show nI 0 = 0 from rfl)]
      exact ⟨_, rfl, rfl⟩
    · rw [if_neg hz, if_neg ne10, if_neg (nI_ne0 (by omega) (by omega)), g_3_7, rv hr, m_bind_some (q_agC hr hc ho hX.2.1 ha hb hab2), v_137, m_bind_some (q_agM hm2 ho ha hb hab2)]
      exact ⟨_, rfl, rfl⟩
theorem pr_agendaFor (L : Nat) (xs : Nat → Int32) (hL : L ≤ 192) (x : Int32) : Pr L xs (pX9_agendaFor 3 x) (pX10_agendaFor 137 x) := by
  refine Pr.same fun ra rb I hR => ?_
  obtain ⟨C, D, v, kd, hm, pt, q, hab, hRo, hT, hN, hP, hI, hB, hS, hX⟩ := hR
  have hr := hab.rl
  have hc := hRo.c
  have hm2 := hRo.m
  have ho := hRo.o
  have hC := ho.1
  rw [pX9_agendaFor, pX10_agendaFor]
  rcases pk_ix x (n := 3) (by decide) with h | h | ⟨a, ha, rfl⟩
  · rw [m_bind_some (q_isThing_f (Or.inl h)), m_bind_some (in2_f (Or.inl h))]
    exact ⟨_, rfl, rfl⟩
  · rw [m_bind_some (q_isThing_f (Or.inr h)), m_bind_some (in2_f (Or.inr h))]
    exact ⟨_, rfl, rfl⟩
  rw [m_bind_some (q_isThing_t ha), m_bind_some (in2_t ha), if_neg ne10, if_neg ne10, v_3, m_bind_some (q_hasCongress hr hc.1 hC), g_137_0, hm2.1]
  by_cases hz : C = 0
  · rw [if_pos hz, if_pos rfl, hz, if_pos (show nI 0 = 0 from rfl)]
    exact ⟨_, rfl, rfl⟩
  rw [if_neg hz, if_neg ne10, if_neg (nI_ne0 (by omega) (by omega))]
  have c01 := q_agC (ra := ra) (rb := rb) (L := L) hr hc ho hX.2.1 (a := 0) (b := 1) (by decide) (by decide) (by decide)
  have c02 := q_agC (ra := ra) (rb := rb) (L := L) hr hc ho hX.2.1 (a := 0) (b := 2) (by decide) (by decide) (by decide)
  have c12 := q_agC (ra := ra) (rb := rb) (L := L) hr hc ho hX.2.1 (a := 1) (b := 2) (by decide) (by decide) (by decide)
  have m01 := q_agM (ra := ra) (rb := rb) (L := L) hm2 ho (a := 0) (b := 1) (by decide) (by decide) (by decide)
  have m02 := q_agM (ra := ra) (rb := rb) (L := L) hm2 ho (a := 0) (b := 2) (by decide) (by decide) (by decide)
  have m12 := q_agM (ra := ra) (rb := rb) (L := L) hm2 ho (a := 1) (b := 2) (by decide) (by decide) (by decide)
  have n0 : (0 : Int32) = nI 0 := rfl
  have n1 : (1 : Int32) = nI 1 := rfl
  have n2 : (2 : Int32) = nI 2 := rfl
  have f : c_fu = 997 + 1 + 1 + 1 := rfl
  show ∃ r, fX9_agendaFor_22 fX9_agendaFor_49 (997 + 1 + 1 + 1) 3 (nI a) (nI 0) (hp ra rb L I) = some (r, hp ra rb L I) ∧ m_cv 137 9 (pX10_agendaOf 137 (nI 0) (nI 1)) _ (hp ra rb L I) = some (r, hp ra rb L I)
  rw [fX9_agendaFor_22, if_neg (by decide), mlet, nI_1, f, fX9_agendaFor_31, if_neg (by decide), g_3_7, rv hr, m_bind_some c01, v_137, m_bind_some m01]
  by_cases h1 : nI (ag v C 0 1) = nI a
  · rw [if_pos h1, if_pos h1]
    exact ⟨_, rfl, rfl⟩
  rw [if_neg h1, if_neg h1, mlet, nI_1, fX9_agendaFor_31, if_neg (by decide), g_3_7, rv hr, m_bind_some c02, v_137]
  rw [m_bind_some (show pX10_agendaOf 137 0 2 (hp ra rb L I) = _ from m02)]
  by_cases h2 : nI (ag v C 0 2) = nI a
  · rw [if_pos h2, if_pos h2]
    exact ⟨_, rfl, rfl⟩
  rw [if_neg h2, if_neg h2, mlet, nI_1, fX9_agendaFor_31, if_pos (by decide), fX9_agendaFor_62, mlet, nI_1, fX9_agendaFor_22, if_neg (by decide), mlet, nI_1, f, fX9_agendaFor_31, if_neg (by decide), g_3_7, rv hr, m_bind_some c12, v_137]
  rw [m_bind_some (show pX10_agendaOf 137 1 2 (hp ra rb L I) = _ from m12)]
  by_cases h3 : nI (ag v C 1 2) = nI a
  · rw [if_pos h3, if_pos h3]
    exact ⟨_, rfl, rfl⟩
  rw [if_neg h3, if_neg h3, mlet, nI_1, fX9_agendaFor_31, if_pos (by decide), fX9_agendaFor_62, mlet, nI_1, fX9_agendaFor_22, if_neg (by decide), mlet, nI_1, f, fX9_agendaFor_31, if_pos (by decide), fX9_agendaFor_62, mlet, nI_1, fX9_agendaFor_22, if_pos (by decide)]
  exact ⟨_, rfl, rfl⟩
