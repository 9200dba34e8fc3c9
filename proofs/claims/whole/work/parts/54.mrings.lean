/-! the model's rings -/
def sbt (s p : Nat) : Nat := bs (fun i => s.testBit i && !p.testBit i) 8
theorem sbt_tb {s p : Nat} (hs : s < 256) (i : Nat) : (sbt s p).testBit i = (s.testBit i && !p.testBit i) := by
  unfold sbt
  rw [bs_tb]
  by_cases hi : i < 8
  · simp [hi]
  · rw [tb_ge (s := s) (n := 8) hs (by omega)]
    simp
theorem sbt_n {s p : Nat} (hs : s < 256) : nI s &&& (nI p ^^^ (-1)) = nI (sbt s p) := andnot_n fun i _ => sbt_tb hs i
theorem sbt_lt {s p : Nat} : sbt s p < 256 := bs_lt _ 8
theorem sub_le {a b : Nat} (h : ∀ i, a.testBit i = true → b.testBit i = true) : a ≤ b := by
  have e : a ||| b = b := by
    apply Nat.eq_of_testBit_eq
    intro i
    rw [Nat.testBit_or]
    cases ha : a.testBit i
    · rfl
    · rw [h i ha]
      rfl
  have : a ≤ a ||| b := Nat.left_le_or
  omega
theorem sbt_0 {s p : Nat} (hp : p < 256) : sbt p s = 0 ↔ ∀ i, p.testBit i = true → s.testBit i = true := by
  constructor
  · intro h i hi
    have := sbt_tb (p := s) hp i
    rw [h, Nat.zero_testBit, hi] at this
    cases hs : s.testBit i
    · rw [hs] at this
      exact absurd this (by decide)
    · rfl
  · intro h
    apply Nat.eq_of_testBit_eq
    intro i
    rw [sbt_tb hp, Nat.zero_testBit]
    cases hq : p.testBit i
    · rfl
    · rw [h i hq]
      rfl
theorem sbt_less {s p : Nat} (hs : s < 256) (hp : 1 ≤ p) (h : ∀ i, p.testBit i = true → s.testBit i = true) : sbt s p < s := by
  have h1 : sbt s p ≤ s := sub_le fun i z => by
    rw [sbt_tb hs] at z
    cases hq : s.testBit i
    · rw [hq] at z
      simp at z
    · rfl
  obtain ⟨i, hi⟩ := Nat.exists_testBit_of_ne_zero (show p ≠ 0 by omega)
  have h2 : sbt s p ≠ s := fun z => by
    have q := sbt_tb (p := p) hs i
    rw [z, hi, h i hi] at q
    exact absurd q (by decide)
  omega
theorem sbt_dif {s p : Nat} (hs : s < 256) (d : Nat) : tbp (sbt s p) d = dif (tbp s) (tbp p) d := sbt_tb hs d
/-- balance and rings of all sets below s, in the model -/
def VB (B : cM) (t h : Nat → Nat) (D s : Nat) : Prop := ∀ x, x < s → (Bal D t h (tbp x) → B 151 x = 1) ∧ (¬ Bal D t h (tbp x) → B 151 x = 0)
def RM (B : cM) (t h : Nat → Nat) (D s : Nat) : Prop := ∀ x, x < s → (Bal D t h (tbp x) → ∃ k, MaxP D t h (tbp x) k ∧ B 150 x = nI k) ∧ (¬ Bal D t h (tbp x) → B 150 x = -1)
theorem MaxP.le {n : Nat} {t h : Nat → Nat} {X : Nat → Bool} {k : Nat} (hr : MaxP n t h X k) : k ≤ n := by
  have := hr.1.le_sz
  have := sz_le X n
  omega
section M3
variable {ra rb L ro : Nat} {B B0 : cM} {C D : Nat} {v kd h : Nat → Nat} {pt q : Nat} {t s' w e : Nat → Nat} {u y : Nat} {au he : Int32}
theorem q_isBalanced (hm : MR B C D v kd h pt q) (hc : MN B D t s' w e u y au he) (ho : OKR C D v kd h pt q) (ht : ∀ d, d < D → t d < C) {s : Nat} (hs : s < 2 ^ D) : ∃ b : Bool, pX10_isBalanced 137 (nI s) (hp ra rb L B) = some (bi b, hp ra rb L B) ∧ (b = true ↔ Bal D t h (tbp s)) := by
  have hC := ho.1
  have hD := ho.2.2.1
  have hh := ho.2.2.2.2.2.2.1
  have h2D := upw hD
  have key : ∀ (n c : Nat) (b : Bool), c ≤ C → C < c + n → (b = true ↔ ∀ c', c' < c → cn t (tbp s) c' D = cn h (tbp s) c' D) → ∃ b' : Bool, fX10_isBalanced_4 n 137 (nI s) (bi b) (nI c) (hp ra rb L B) = some (bi b', hp ra rb L B) ∧ (b' = true ↔ ∀ c', c' < C → cn t (tbp s) c' D = cn h (tbp s) c' D) := by
    intro n
    induction n with
    | zero =>
      intro c b h1 h2
      omega
    | succ n ih =>
      intro c b a1 a2 hb
      rw [fX10_isBalanced_4, g_137_0, hm.1]
      by_cases hcC : c < C
      · rw [if_neg (nI_ge hcC (by omega))]
        cases b with
        | false =>
          rw [if_pos (show bi false = 0 from rfl), fX10_isBalanced_43, fX10_isBalanced_44, mlet, nI_1]
          refine ih (c + 1) false (by omega) (by omega) ⟨fun z => absurd z (by decide), fun z => hb.mpr fun c' hc' => z c' (by omega)⟩
        | true =>
          have l1 : s &&& bs (fun d => t d == c) D < 2 ^ 31 := Nat.lt_of_le_of_lt Nat.and_le_left (by omega)
          have l2 : s &&& bs (fun d => h d == c) D < 2 ^ 31 := Nat.lt_of_le_of_lt Nat.and_le_left (by omega)
          rw [if_neg (show ¬ bi true = 0 by decide), v_137, m_bind_some (q_whoIsAt hm hc ho ht (by omega)), nand_n, m_bind_some (q_bits l1), v_137, m_bind_some (q_whoBelongsTo hm ho (by omega)), nand_n, m_bind_some (q_bits l2), pc_at hs hD, pc_at hs hD]
          have e1 := cn_le t (tbp s) c D
          have e2 := cn_le h (tbp s) c D
          by_cases hq : cn t (tbp s) c D = cn h (tbp s) c D
          · rw [if_pos (by rw [hq]), fX10_isBalanced_44, mlet, nI_1]
            refine ih (c + 1) true (by omega) (by omega) ⟨fun _ c' hc' => ?_, fun _ => rfl⟩
            by_cases hcc : c' = c
            · rw [hcc]
              exact hq
            · exact hb.mp rfl c' (by omega)
          · rw [if_neg (n_ne (by omega) (by omega) hq), fX10_isBalanced_43, fX10_isBalanced_44, mlet, nI_1]
            exact ih (c + 1) false (by omega) (by omega) ⟨fun z => absurd z (by decide), fun z => absurd (z c (by omega)) hq⟩
      · have : c = C := by omega
        subst this
        rw [if_pos (nI_le (by omega) (by omega))]
        refine ⟨b, ?_, hb⟩
        cases b <;> rfl
  obtain ⟨b, k1, k2⟩ := key c_fu 0 true (Nat.zero_le _) (by show C < 0 + 1000; omega) ⟨fun _ c' hc' => by omega, fun _ => rfl⟩
  refine ⟨b, k1, k2.trans ⟨fun z c => ?_, fun z c _ => z c⟩⟩
  by_cases hcC : c < C
  · exact z c hcC
  · rw [cn_e (fun d hd _ z => hcC (by rw [← z]; exact ht d hd)), cn_e (fun d hd _ z => hcC (by rw [← z]; exact hh d hd))]
theorem bal_in (hm : MR B0 C D v kd h pt q) (hc : MN B0 D t s' w e u y au he) (ho : OKR C D v kd h pt q) (ht : ∀ d, d < D → t d < C) {K : Nat → MM Unit} : ∀ (n s : Nat) (B : cM), s ≤ 2 ^ D → 2 ^ D < s + n → VB B t h D s → (∀ a k, a ≠ 151 → B a k = B0 a k) → ∃ B', fX10_findRings_2 K n 137 (nI s) (hp ra rb L B) = K 137 (hp ra rb L B') ∧ VB B' t h D (2 ^ D) ∧ ∀ a k, a ≠ 151 → B' a k = B0 a k := by
  have hD := ho.2.2.1
  have h2D := upw hD
  intro n
  induction n with
  | zero =>
    intro s B h1 h2
    omega
  | succ n ih =>
    intro s B a1 a2 hV hf
    have b1 : MR B C D v kd h pt q := hm.fr fun a k b => hf a k (by omega)
    have b2 : MN B D t s' w e u y au he := hc.fr fun k => hf 142 k (by decide)
    rw [fX10_findRings_2, g_137_2, b1.2.1, sh1 (by omega)]
    by_cases hs : s < 2 ^ D
    · obtain ⟨b, k1, k2⟩ := q_isBalanced (ra := ra) (rb := rb) (L := L) b1 b2 ho ht hs
      rw [if_neg (nI_ge hs (by omega)), g_137_29, v_137, m_bind_some k1, s_151 (by omega) (by cases b <;> rfl), mlet, nI_1]
      refine ih (s + 1) _ (by omega) (by omega) (fun x hx => ?_) fun a k c => ?_
      · by_cases hq : x = s
        · rw [hq, u2_s]
          refine ⟨fun z => ?_, fun z => ?_⟩
          · rw [k2.mpr z]; rfl
          · rw [bf fun z2 => z (k2.mp z2)]; rfl
        · rw [u2_nk _ _ hq]
          exact hV x (by omega)
      · rw [u2_na _ _ c]
        exact hf a k c
    · have : s = 2 ^ D := by omega
      subst this
      rw [if_pos (nI_le (by omega) (by omega))]
      exact ⟨B, rfl, hV, hf⟩
/-- parts of a set that may be a ring of it -/
def VP (D : Nat) (t h : Nat → Nat) (s p : Nat) : Prop := (∀ i, p.testBit i = true → s.testBit i = true) ∧ Bal D t h (tbp p) ∧ Bal D t h (dif (tbp s) (tbp p))
theorem ringp_in (hD : D ≤ 8) {s : Nat} (hs0 : 1 ≤ s) (hs : s < 2 ^ D) (hV : VB B t h D (2 ^ D)) (hR : RM B t h D s) {K : Nat → Int32 → Int32 → MM Unit} : ∀ (n p : Nat) (mo : Int32), 1 ≤ p → p ≤ s + 1 → s + 1 < p + n → ((mo = -1 ∧ ∀ x, 1 ≤ x → x < p → ¬ VP D t h s x) ∨ (∃ m, mo = nI m ∧ m ≤ 9 ∧ (∃ x k, 1 ≤ x ∧ x ≤ s ∧ VP D t h s x ∧ MaxP D t h (dif (tbp s) (tbp x)) k ∧ m = k + 1) ∧ ∀ x k, 1 ≤ x → x < p → VP D t h s x → MaxP D t h (dif (tbp s) (tbp x)) k → k + 1 ≤ m)) → ∃ mo', fX10_findRings_52 K n 137 (nI s) mo (nI p) (hp ra rb L B) = K 137 (nI s) mo' (hp ra rb L B) ∧ ((mo' = -1 ∧ ∀ x, 1 ≤ x → x ≤ s → ¬ VP D t h s x) ∨ (∃ m, mo' = nI m ∧ m ≤ 9 ∧ (∃ x k, 1 ≤ x ∧ x ≤ s ∧ VP D t h s x ∧ MaxP D t h (dif (tbp s) (tbp x)) k ∧ m = k + 1) ∧ ∀ x k, 1 ≤ x → x ≤ s → VP D t h s x → MaxP D t h (dif (tbp s) (tbp x)) k → k + 1 ≤ m)) := by
  have h2D := upw hD
  intro n
  induction n with
  | zero =>
    intro p mo h0 h1 h2
    omega
  | succ n ih =>
    intro p mo a0 a1 a2 hI
    rw [fX10_findRings_52]
    by_cases hps : p ≤ s
    · rw [if_neg (nI_nlt hps (by omega)), sbt_n (by omega)]
      -- it is none
      have no : ¬ VP D t h s p → ∀ X : MM Unit, X = fX10_findRings_130 (fX10_findRings_131 (fX10_findRings_52 K n)) 137 (nI s) mo (nI p) → ∃ mo', X (hp ra rb L B) = K 137 (nI s) mo' (hp ra rb L B) ∧ ((mo' = -1 ∧ ∀ x, 1 ≤ x → x ≤ s → ¬ VP D t h s x) ∨ (∃ m, mo' = nI m ∧ m ≤ 9 ∧ (∃ x k, 1 ≤ x ∧ x ≤ s ∧ VP D t h s x ∧ MaxP D t h (dif (tbp s) (tbp x)) k ∧ m = k + 1) ∧ ∀ x k, 1 ≤ x → x ≤ s → VP D t h s x → MaxP D t h (dif (tbp s) (tbp x)) k → k + 1 ≤ m)) := by
        intro hn X hX
        rw [hX, fX10_findRings_130, fX10_findRings_131, mlet, nI_1]
        refine ih (p + 1) mo (by omega) (by omega) (by omega) (hI.imp (fun ⟨w1, w2⟩ => ⟨w1, fun x b1 b2 hc => ?_⟩) fun ⟨m, w1, w2, w3, w7⟩ => ⟨m, w1, w2, w3, fun x k b1 b2 hc => ?_⟩)
        · by_cases hq : x = p
          · rw [hq] at hc
            exact hn hc
          · exact w2 x b1 (by omega) hc
        · by_cases hq : x = p
          · rw [hq] at hc
            exact absurd hc hn
          · exact w7 x k b1 (by omega) hc
      have e0 : ∀ x : Nat, x < 256 → (nI x = 0 ↔ x = 0) := fun x hx => nI_eq (b := 0) (by omega) (by decide)
      by_cases hsub : ∀ i, p.testBit i = true → s.testBit i = true
      · rw [if_pos ((e0 _ sbt_lt).mpr ((sbt_0 (by omega)).mpr hsub)), g_137_29, l_151 (by omega)]
        obtain ⟨v1, v2⟩ := hV p (by omega)
        by_cases hb : Bal D t h (tbp p)
        · have hlt := sbt_less (by omega) a0 hsub
          obtain ⟨r1, r2⟩ := hR (sbt s p) hlt
          have ed : ∀ d, d < D → tbp (sbt s p) d = dif (tbp s) (tbp p) d := fun d _ => sbt_dif (by omega) d
          rw [v1 hb, if_neg ne10, g_137_28, sbt_n (by omega), l_150 sbt_lt]
          by_cases hb2 : Bal D t h (dif (tbp s) (tbp p))
          · obtain ⟨k, k1, k2⟩ := r1 (hb2.congr fun d hd => (ed d hd).symm)
            have k3 := k1.congr ed
            have k8 := k3.le
            have hvp : VP D t h s p := ⟨hsub, hb, hb2⟩
            rw [k2, if_neg (nI_pos (by omega)), fX10_findRings_92, if_neg ne10, g_137_28, sbt_n (by omega), l_150 sbt_lt, k2, nI_1]
            rcases hI with ⟨w1, w2⟩ | ⟨m, w1, w2, w3, w7⟩
            · have hn1 : ¬ nI (k + 1) ≤ mo := by
                rw [w1, t_le, nI_toInt (by omega), show (-1 : Int32).toInt = -1 by decide]
                omega
              rw [if_neg hn1, g_137_28, l_150 sbt_lt, k2, nI_1, fX10_findRings_131, mlet, nI_1]
              refine ih (p + 1) (nI (k + 1)) (by omega) (by omega) (by omega) (Or.inr ⟨k + 1, rfl, by omega, ⟨p, k, a0, hps, hvp, k3, rfl⟩, fun x k' b1 b2 hc hk' => ?_⟩)
              by_cases hq : x = p
              · rw [hq] at hk'
                rw [k3.uniq hk']
                exact Nat.le_refl _
              · exact absurd hc (w2 x b1 (by omega))
            · rw [w1]
              by_cases hle : k + 1 ≤ m
              · rw [if_pos (nI_le hle (by omega)), fX10_findRings_130, fX10_findRings_131, mlet, nI_1]
                refine ih (p + 1) (nI m) (by omega) (by omega) (by omega) (Or.inr ⟨m, rfl, w2, w3, fun x k' b1 b2 hc hk' => ?_⟩)
                by_cases hq : x = p
                · rw [hq] at hk'
                  rw [← k3.uniq hk']
                  exact hle
                · exact w7 x k' b1 (by omega) hc hk'
              · rw [if_neg (nI_ge (by omega) (by omega)), g_137_28, l_150 sbt_lt, k2, nI_1, fX10_findRings_131, mlet, nI_1]
                refine ih (p + 1) (nI (k + 1)) (by omega) (by omega) (by omega) (Or.inr ⟨k + 1, rfl, by omega, ⟨p, k, a0, hps, hvp, k3, rfl⟩, fun x k' b1 b2 hc hk' => ?_⟩)
                by_cases hq : x = p
                · rw [hq] at hk'
                  rw [k3.uniq hk']
                  exact Nat.le_refl _
                · have := w7 x k' b1 (by omega) hc hk'
                  omega
          · rw [r2 (fun z => hb2 (z.congr ed)), if_pos (by decide), fX10_findRings_91, fX10_findRings_92, if_pos rfl]
            exact no (fun z => hb2 z.2.2) _ rfl
        · rw [v2 hb, if_pos rfl, fX10_findRings_91, fX10_findRings_92, if_pos rfl]
          exact no (fun z => hb z.2.1) _ rfl
      · rw [if_neg (fun z => hsub ((sbt_0 (by omega)).mp ((e0 _ sbt_lt).mp z))), fX10_findRings_91, fX10_findRings_92, if_pos rfl]
        exact no (fun z => hsub z.1) _ rfl
    · have : p = s + 1 := by omega
      subst this
      rw [if_pos (nI_lt (by omega) (by omega))]
      refine ⟨mo, rfl, hI.imp (fun ⟨w1, w2⟩ => ⟨w1, fun x b1 b2 => w2 x b1 (by omega)⟩) fun ⟨m, w1, w2, w3, w7⟩ => ⟨m, w1, w2, w3, fun x k b1 b2 => w7 x k b1 (by omega)⟩⟩
/-- what the parts say of the set -/
theorem part_max (hD : D ≤ 8) {s : Nat} (hs0 : 1 ≤ s) (hs : s < 2 ^ D) (hR : RM B t h D s) {mo : Int32} (hI : (mo = -1 ∧ ∀ x, 1 ≤ x → x ≤ s → ¬ VP D t h s x) ∨ (∃ m, mo = nI m ∧ m ≤ 9 ∧ (∃ x k, 1 ≤ x ∧ x ≤ s ∧ VP D t h s x ∧ MaxP D t h (dif (tbp s) (tbp x)) k ∧ m = k + 1) ∧ ∀ x k, 1 ≤ x → x ≤ s → VP D t h s x → MaxP D t h (dif (tbp s) (tbp x)) k → k + 1 ≤ m)) : (Bal D t h (tbp s) → ∃ k, MaxP D t h (tbp s) k ∧ mo = nI k) ∧ (¬ Bal D t h (tbp s) → mo = -1) := by
  have h2D := upw hD
  have hne : ∀ x, 1 ≤ x → x ≤ s → Nem D (tbp x) := fun x b1 b2 => by
    obtain ⟨i, hi⟩ := Nat.exists_testBit_of_ne_zero (show x ≠ 0 by omega)
    exact ⟨i, Nat.lt_of_not_le fun z => by rw [tb_ge (show x < 2 ^ D by omega) z] at hi; exact absurd hi (by decide), hi⟩
  refine ⟨fun hb => ?_, fun hb => ?_⟩
  · have hself : VP D t h s s := ⟨fun _ z => z, hb, Bal.emp fun d _ => dif_f.mpr fun z => z⟩
    rcases hI with ⟨w1, w2⟩ | ⟨m, w1, w2, ⟨x, k, b1, b2, b3, b4, b5⟩, w7⟩
    · exact absurd hself (w2 s hs0 (Nat.le_refl _))
    · refine ⟨m, ⟨?_, fun k' hk' => ?_⟩, w1⟩
      · rw [b5]
        exact Pt.cons (fun d _ z => b3.1 d z) (hne x b1 b2) b3.2.1 b4.1
      · cases k' with
        | zero => omega
        | succ k' =>
          obtain ⟨A, c1, ⟨d0, hd0, hA0⟩, c3, c4⟩ := hk'
          have et : ∀ d, d < D → tbp (bs A D) d = A d := fun d hd => by
            unfold tbp
            rw [bs_tb]
            simp [hd]
          have hsub : ∀ i, (bs A D).testBit i = true → s.testBit i = true := fun i z => by
            rw [bs_tb] at z
            by_cases hi : i < D
            · simp [hi] at z
              exact c1 i hi z
            · simp [hi] at z
          have q1 : 1 ≤ bs A D := Nat.pos_of_ne_zero fun z => by
            have := et d0 hd0
            unfold tbp at this
            rw [z, Nat.zero_testBit, hA0] at this
            exact absurd this (by decide)
          have q2 : bs A D ≤ s := sub_le hsub
          have hbA : Bal D t h (tbp (bs A D)) := c3.congr fun d hd => (et d hd).symm
          have ed : ∀ d, d < D → dif (tbp s) A d = dif (tbp s) (tbp (bs A D)) d := fun d hd => by
            unfold dif
            rw [et d hd]
          have hb2 : Bal D t h (dif (tbp s) (tbp (bs A D))) := c4.bal.congr ed
          have hlt := sbt_less (p := bs A D) (by omega) q1 hsub
          have es : ∀ d, d < D → tbp (sbt s (bs A D)) d = dif (tbp s) (tbp (bs A D)) d := fun d _ => sbt_dif (by omega) d
          obtain ⟨k2, k3, -⟩ := (hR _ hlt).1 (hb2.congr fun d hd => (es d hd).symm)
          have k4 := k3.congr es
          have u1 := w7 (bs A D) k2 q1 q2 ⟨hsub, hbA, hb2⟩ k4
          have u2 := k4.2 k' (c4.congr ed)
          omega
  · rcases hI with ⟨w1, w2⟩ | ⟨m, w1, w2, ⟨x, k, b1, b2, b3, b4, b5⟩, w7⟩
    · exact w1
    · exact absurd (b3.2.1.add b3.2.2 fun d _ z => b3.1 d z) hb
theorem ring_in (h2 : B0 137 2 = nI D) (hD : D ≤ 8) (hV : VB B0 t h D (2 ^ D)) : ∀ (n s : Nat) (B : cM), 1 ≤ s → s ≤ 2 ^ D → 2 ^ D < s + n → RM B t h D s → (∀ a k, a ≠ 150 → B a k = B0 a k) → ∃ B', fX10_findRings_38 n 137 (nI s) (hp ra rb L B) = some ((), hp ra rb L B') ∧ RM B' t h D (2 ^ D) ∧ ∀ a k, a ≠ 150 → B' a k = B0 a k := by
  have h2D := upw hD
  intro n
  induction n with
  | zero =>
    intro s B h0 h1 h2
    omega
  | succ n ih =>
    intro s B a0 a1 a2 hR hf
    have hV2 : VB B t h D (2 ^ D) := fun x hx => by rw [hf _ _ (by decide)]; exact hV x hx
    rw [fX10_findRings_38, g_137_2, hf _ _ (by decide), h2, sh1 (by omega)]
    by_cases hs : s < 2 ^ D
    · obtain ⟨mo, k1, k2⟩ := ringp_in (ra := ra) (rb := rb) (L := L) hD a0 hs hV2 hR (K := fX10_findRings_138 (fX10_findRings_38 n)) c_fu 1 (-1) (by decide) (by omega) (by show s + 1 < 1 + 1000; omega) (Or.inl ⟨rfl, fun x b1 b2 => by omega⟩)
      have k3 := part_max hD a0 hs hR k2
      rw [if_neg (nI_ge hs (by omega))]
      obtain ⟨B', g1, g2, g3⟩ := ih (s + 1) (u2 B 150 s mo) (by omega) (by omega) (by omega) (fun x hx => by
        by_cases hq : x = s
        · rw [hq, u2_s]
          exact k3
        · rw [u2_nk _ _ hq]
          exact hR x (by omega)) (fun a k c => by rw [u2_na _ _ c]; exact hf a k c)
      refine ⟨B', ?_, g2, g3⟩
      refine k1.trans ?_
      rw [fX10_findRings_138, g_137_28, s_150 (by omega), mlet, nI_1]
      exact g1
    · have : s = 2 ^ D := by omega
      subst this
      rw [if_pos (nI_le (by omega) (by omega))]
      exact ⟨B, rfl, hR, hf⟩
/-- the fewest mixings, in the model -/
theorem q_fewestSwaps (hm : MR B C D v kd h pt q) (hc : MN B D t s' w e u y au he) (ho : OKR C D v kd h pt q) (ht : ∀ d, d < D → t d < C) : ∃ (r : Int32) (B' : cM), pX10_fewestSwaps 137 (hp ra rb L B) = some (r, hp ra rb L B') ∧ (∀ a k, a ≠ 150 → a ≠ 151 → B' a k = B a k) ∧ (Bal D t h (stray t h) → ∃ k, MaxP D t h (stray t h) k ∧ r = nI (sz (stray t h) D - k)) ∧ (¬ Bal D t h (stray t h) → r = -1) := by
  have hD := ho.2.2.1
  have h2D := upw hD
  have h21 : 1 ≤ 2 ^ D := Nat.one_le_two_pow
  obtain ⟨B1, k1, k2, k3⟩ := bal_in (ra := ra) (rb := rb) (L := L) hm hc ho ht (K := fX10_findRings_29) c_fu 0 B (Nat.zero_le _) (by show 2 ^ D < 0 + 1000; omega) (fun x hx => by omega) (fun _ _ _ => rfl)
  obtain ⟨B2, hB2⟩ : ∃ B2, B2 = u2 B1 150 0 0 := ⟨_, rfl⟩
  have e0 : ∀ d, d < D → tbp 0 d = false := fun d _ => Nat.zero_testBit d
  obtain ⟨B3, k4, k5, k6⟩ := ring_in (ra := ra) (rb := rb) (L := L) (t := t) (h := h) (B0 := B2) (D := D) (by rw [hB2, u2_na _ _ (by decide), k3 _ _ (by decide)]; exact hm.2.1) hD (fun x hx => by rw [hB2, u2_na _ _ (by decide)]; exact k2 x hx) c_fu 1 B2 (by decide) h21 (by show 2 ^ D < 1 + 1000; omega) (fun x hx => by
    have : x = 0 := by omega
    subst this
    rw [hB2, u2_s]
    exact ⟨fun _ => ⟨0, (MaxR.emp e0).max (Bal.emp e0), rfl⟩, fun z => absurd (Bal.emp e0) z⟩) (fun _ _ _ => rfl)
  have f3 : ∀ a k, a ≠ 150 → a ≠ 151 → B3 a k = B a k := fun a k c1 c2 => by
    rw [k6 a k c1, hB2, u2_na _ _ c1, k3 a k c2]
  have e1 : pX10_findRings 137 (hp ra rb L B) = some ((), hp ra rb L B3) := by
    have s0 := s_150 (ra := ra) (rb := rb) (L := L) (I := B1) (x := 0) (j := 0) (K := fX10_findRings_38 c_fu 137 1) (by decide)
    rw [pX10_findRings]
    refine k1.trans ?_
    rw [fX10_findRings_29, g_137_28]
    refine s0.trans ?_
    rw [← hB2]
    exact k4
  have m3 : MR B3 C D v kd h pt q := hm.fr fun a k b => f3 a k (by omega) (by omega)
  have hw : bs (fun d => t d != h d) D < 2 ^ D := bs_lt _ D
  have ew : ∀ d, d < D → tbp (bs (fun d => t d != h d) D) d = stray t h d := fun d hd => by
    unfold tbp stray
    rw [bs_tb]
    simp [hd]
  have e2 : pX10_wrongOnes 137 (hp ra rb L B3) = some (nI (bs (fun d => t d != h d) D), hp ra rb L B3) := q_wrongOnes m3 (fun d hd => by rw [f3 _ _ (by decide) (by decide)]; exact hc.1 d hd) ho ht
  obtain ⟨r1, r2⟩ := k5 _ hw
  have esz : pc (bs (fun d => t d != h d) D) = sz (stray t h) D := pc_sz hD
  by_cases hb : Bal D t h (stray t h)
  · obtain ⟨k, c1, c2⟩ := r1 (hb.congr fun d hd => (ew d hd).symm)
    have c3 := c1.congr ew
    have c4 := c3.1.le_sz
    have c5 := c3.le
    refine ⟨nI (sz (stray t h) D - k), B3, ?_, f3, fun _ => ⟨k, c3, rfl⟩, fun z => absurd hb z⟩
    rw [pX10_fewestSwaps, v_137, m_bind_some e1, v_137, m_bind_some e2, g_137_28, l_150 (by omega), c2, if_pos (nI_pos' (by omega)), m_bind_some (q_bits (by omega)), g_137_28, l_150 (by omega), c2, esz, pk_sub c4]
    rfl
  · refine ⟨-1, B3, ?_, f3, fun z => absurd z hb, fun _ => rfl⟩
    rw [pX10_fewestSwaps, v_137, m_bind_some e1, v_137, m_bind_some e2, g_137_28, l_150 (by omega), r2 (fun z => hb (z.congr ew)), if_neg (by decide)]
    rfl
end M3
