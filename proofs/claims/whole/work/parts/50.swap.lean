/-! rings when two dolls change places -/
def swt (t : Nat → Nat) (d e : Nat) : Nat → Nat := up1 (up1 t d (t e)) e (t d)
def stray (t h : Nat → Nat) : Nat → Bool := fun d => t d != h d
def allD : Nat → Bool := fun _ => true
section N2
variable {n : Nat} {t h : Nat → Nat} {A B X Y W R : Nat → Bool} {k d e : Nat}
theorem stray_t {x : Nat} : stray t h x = true ↔ t x ≠ h x := by
  unfold stray
  simp
theorem stray_f {x : Nat} : stray t h x = false ↔ t x = h x := by
  unfold stray
  simp
theorem swt_d (hde : d ≠ e) : swt t d e d = t e := by
  unfold swt up1
  rw [if_neg hde, if_pos rfl]
theorem swt_e : swt t d e e = t d := by
  unfold swt up1
  rw [if_pos rfl]
theorem swt_o {x : Nat} (h1 : x ≠ d) (h2 : x ≠ e) : swt t d e x = t x := by
  unfold swt up1
  rw [if_neg h2, if_neg h1]
theorem swt_swt (hde : d ≠ e) : swt (swt t d e) d e = t := by
  funext x
  by_cases h2 : x = e
  · rw [h2, swt_e, swt_d hde]
  · by_cases h1 : x = d
    · rw [h1, swt_d hde, swt_e]
    · rw [swt_o h1 h2, swt_o h1 h2]
theorem Bal.cut (hb : Bal n t h A) (hW : ∀ d, d < n → W d = false → t d = h d) : Bal n t h (itr A W) := by
  have hr : Bal n t h (dif A W) := fun c => cn_congr (fun _ _ => rfl) fun d hd z => hW d hd (dif_t.mp z).2
  refine (hb.sub hr fun d _ z => (dif_t.mp z).1).congr fun d hd => ?_
  unfold dif itr
  cases A d <;> cases W d <;> rfl
theorem Pt.cut (hW : ∀ d, d < n → W d = false → t d = h d) : ∀ {k : Nat} {X : Nat → Bool}, Pt n t h k X → ∃ k', Pt n t h k' (itr X W) ∧ k ≤ k' + sz (dif X W) n
  | 0, X, hp => ⟨0, fun d hd => bf fun z => by have := (itr_t.mp z).1; rw [hp d hd] at this; exact absurd this (by decide), by omega⟩
  | k + 1, X, ⟨A, h1, h2, h3, h4⟩ => by
    obtain ⟨k', g1, g2⟩ := Pt.cut hW h4
    have hs : Sb n (dif A W) (dif X W) := fun d hd z => dif_t.mpr ⟨h1 d hd (dif_t.mp z).1, (dif_t.mp z).2⟩
    have e1 := sz_add hs
    have e2 : sz (dif (dif X W) (dif A W)) n = sz (dif (dif X A) W) n := sz_congr fun d _ => by
      unfold dif
      cases X d <;> cases A d <;> cases W d <;> rfl
    by_cases hne : Nem n (itr A W)
    · refine ⟨k' + 1, Pt.cons (A := itr A W) (fun d hd z => itr_t.mpr ⟨h1 d hd (itr_t.mp z).1, (itr_t.mp z).2⟩) hne (h3.cut hW) (g1.congr fun d _ => ?_), by omega⟩
      show (X d && !A d && W d) = (X d && W d && !(A d && W d))
      cases X d <;> cases A d <;> cases W d <;> rfl
    · obtain ⟨d0, hd0, hA0⟩ := h2
      have hW0 : W d0 = false := bf fun z => hne ⟨d0, hd0, itr_t.mpr ⟨hA0, z⟩⟩
      have := sz_pos (n := n) (dif_t.mpr ⟨hA0, hW0⟩) hd0
      refine ⟨k', g1.congr fun d hd => beq2 ⟨fun z => itr_t.mpr ⟨(dif_t.mp (itr_t.mp z).1).1, (itr_t.mp z).2⟩, fun z => itr_t.mpr ⟨dif_t.mpr ⟨(itr_t.mp z).1, bf fun za => hne ⟨d, hd, itr_t.mpr ⟨za, (itr_t.mp z).2⟩⟩⟩, (itr_t.mp z).2⟩⟩, by omega⟩
theorem Pt.put : ∀ {m : Nat} {R : Nat → Bool}, Pt n t h k X → sz R n = m → (∀ d, d < n → R d = true → t d = h d) → (∀ d, d < n → R d = true → X d = false) → Pt n t h (k + m) (uni X R)
  | 0, R, hp, hm, h1, h2 => by
    refine hp.congr fun d hd => beq2 ⟨fun z => uni_t.mpr (Or.inl z), fun z => (uni_t.mp z).resolve_right fun zr => ?_⟩
    have := sz_pos zr hd
    omega
  | m + 1, R, hp, hm, h1, h2 => by
    have : Nem n R := Classical.byContradiction fun hn => by
      have := sz_e (X := R) (n := n) fun d hd => bf fun z => hn ⟨d, hd, z⟩
      omega
    obtain ⟨d0, hd0, hR0⟩ := this
    have e1 := sz_rm hR0 hd0
    have ih := Pt.put (m := m) (R := dif R (sng d0)) hp (by omega) (fun d hd z => h1 d hd (dif_t.mp z).1) (fun d hd z => h2 d hd (dif_t.mp z).1)
    refine Pt.cons (A := sng d0) (sb_sng (uni_t.mpr (Or.inr hR0))) ⟨d0, hd0, sng_t.mpr rfl⟩ (Bal.one hd0 (h1 d0 hd0 hR0)) (ih.congr fun d hd => beq2 ⟨fun z => ?_, fun z => ?_⟩)
    · rcases uni_t.mp z with z1 | z1
      · refine dif_t.mpr ⟨uni_t.mpr (Or.inl z1), bf fun zs => ?_⟩
        rw [sng_t.mp zs, h2 d0 hd0 hR0] at z1
        exact absurd z1 (by decide)
      · exact dif_t.mpr ⟨uni_t.mpr (Or.inr (dif_t.mp z1).1), (dif_t.mp z1).2⟩
    · rcases uni_t.mp (dif_t.mp z).1 with z1 | z1
      · exact uni_t.mpr (Or.inl z1)
      · exact uni_t.mpr (Or.inr (dif_t.mpr ⟨z1, (dif_t.mp z).2⟩))
theorem sz_all : ∀ n, sz allD n = n
  | 0 => rfl
  | n + 1 => by rw [sz, sz_all n, if_pos (show allD n = true from rfl)]
theorem sz_right (W : Nat → Bool) (n : Nat) : sz W n + sz (dif allD W) n = n := by
  have := sz_add (n := n) (X := allD) (A := W) fun _ _ _ => rfl
  rw [sz_all] at this
  exact this.symm
theorem MaxP.all (hm : MaxP n t h (stray t h) k) : MaxP n t h allD (k + sz (dif allD (stray t h)) n) := by
  refine ⟨(hm.1.put (m := sz (dif allD (stray t h)) n) rfl (fun d _ z => stray_f.mp (dif_t.mp z).2) (fun d _ z => (dif_t.mp z).2)).congr fun d _ => ?_, fun m hp => ?_⟩
  · unfold uni dif allD
    cases stray t h d <;> rfl
  · obtain ⟨k', g1, g2⟩ := hp.cut (W := stray t h) fun d _ z => stray_f.mp z
    have := hm.2 k' (g1.congr fun d _ => by unfold itr allD; cases stray t h d <;> rfl)
    omega
theorem cn_swap (hd : d < n) (he : e < n) (hde : d ≠ e) (hA : A d = A e) (c : Nat) : cn (swt t d e) A c n = cn t A c n := by
  by_cases hAd : A d = true
  · have hAe : dif A (sng d) e = true := dif_t.mpr ⟨by rw [← hA]; exact hAd, bf fun z => hde (sng_t.mp z).symm⟩
    rw [cn_rm hAd hd, cn_rm hAe he, cn_rm (f := t) hAd hd, cn_rm (f := t) hAe he, swt_d hde, swt_e, cn_congr (f := swt t d e) (g := t) (fun _ _ => rfl) (fun x _ hx => ?_)]
    · omega
    · have h1 := dif_t.mp hx
      have h2 := dif_t.mp h1.1
      refine swt_o (fun z => ?_) (fun z => ?_)
      · rw [sng_t.mpr z] at h2
        exact absurd h2.2 (by decide)
      · rw [sng_t.mpr z] at h1
        exact absurd h1.2 (by decide)
  · refine cn_congr (fun _ _ => rfl) fun x _ hx => swt_o (fun z => hAd (by rw [← z]; exact hx)) (fun z => hAd (by rw [hA, ← z]; exact hx))
theorem Bal.swap (hb : Bal n t h A) (hd : d < n) (he : e < n) (hde : d ≠ e) (hA : A d = A e) : Bal n (swt t d e) h A := fun c => by
  rw [cn_swap hd he hde hA]
  exact hb c
theorem Pt.swap0 (hd : d < n) (he : e < n) (hde : d ≠ e) : ∀ {k : Nat} {X : Nat → Bool}, Pt n t h k X → X d = false → X e = false → Pt n (swt t d e) h k X
  | 0, X, hp, _, _ => hp
  | k + 1, X, ⟨A, h1, h2, h3, h4⟩, hXd, hXe => by
    have hAd : A d = false := bf fun z => by have := h1 d hd z; rw [hXd] at this; exact absurd this (by decide)
    have hAe : A e = false := bf fun z => by have := h1 e he z; rw [hXe] at this; exact absurd this (by decide)
    refine ⟨A, h1, h2, h3.swap hd he hde (by rw [hAd, hAe]), Pt.swap0 hd he hde h4 (bf fun z => ?_) (bf fun z => ?_)⟩
    · have := (dif_t.mp z).1
      rw [hXd] at this
      exact absurd this (by decide)
    · have := (dif_t.mp z).1
      rw [hXe] at this
      exact absurd this (by decide)
theorem Pt.swap (hp : Pt n t h k X) (hd : d < n) (he : e < n) (hde : d ≠ e) (hXd : X d = true) (hXe : X e = true) : Pt n (swt t d e) h k X ∨ ∃ (S : Nat → Bool) (k2 : Nat), k = k2 + 2 ∧ Sb n S X ∧ S d = true ∧ S e = true ∧ Bal n (swt t d e) h S ∧ Pt n (swt t d e) h k2 (dif X S) := by
  obtain ⟨B, k1, g1, g2, g3, g4, g5⟩ := hp.ext hd hXd
  by_cases hBe : B e = true
  · left
    subst g1
    refine Pt.cons g3 ⟨d, hd, g2⟩ (g4.swap hd he hde (by rw [g2, hBe])) (Pt.swap0 hd he hde g5 (dif_f.mpr fun _ => g2) (dif_f.mpr fun _ => hBe))
  · right
    obtain ⟨B2, k2, f1, f2, f3, f4, f5⟩ := g5.ext he (dif_t.mpr ⟨hXe, bf hBe⟩)
    have hj : Bal n t h (uni B B2) := g4.join f4 fun x hx z => bf fun z2 => by
      have := (dif_t.mp (f3 x hx z2)).2
      rw [z] at this
      exact absurd this (by decide)
    have sd : uni B B2 d = true := uni_t.mpr (Or.inl g2)
    have se : uni B B2 e = true := uni_t.mpr (Or.inr f2)
    refine ⟨uni B B2, k2, by omega, fun x hx z => ?_, sd, se, hj.swap hd he hde (by rw [sd, se]), Pt.swap0 hd he hde (f5.congr fun x _ => ?_) (dif_f.mpr fun _ => sd) (dif_f.mpr fun _ => se)⟩
    · rcases uni_t.mp z with z1 | z1
      · exact g3 x hx z1
      · exact (dif_t.mp (f3 x hx z1)).1
    · unfold dif uni
      cases X x <;> cases B x <;> cases B2 x <;> rfl
/-- any two dolls of a ring part it in two -/
theorem split {S : Nat → Bool} (hS : Bal n t h S) (hmin : ∀ A, Sb n A S → Nem n A → Bal n t h A → Sb n S A) (hd : d < n) (he : e < n) (hde : d ≠ e) (hSd : S d = true) (hSe : S e = true) : ∃ A, Sb n A S ∧ A d = true ∧ A e = false ∧ Bal n (swt t d e) h A := by
  have key : ∀ (m : Nat) (A : Nat → Bool) (v : Nat), sz (dif S A) n ≤ m → Sb n A S → A d = true → A e = false → (∀ c, cn t A c n + (if v = c then 1 else 0) = cn h A c n + (if t d = c then 1 else 0)) → ∃ A, Sb n A S ∧ A d = true ∧ A e = false ∧ Bal n (swt t d e) h A := by
    intro m
    induction m with
    | zero =>
      intro A v hm hs hAd hAe hc
      have := sz_pos (n := n) (dif_t.mpr ⟨hSe, hAe⟩) he
      omega
    | succ m ih =>
      intro A v hm hs hAd hAe hc
      by_cases hv : v = t e
      · refine ⟨A, hs, hAd, hAe, fun c => ?_⟩
        have h1 := hc c
        have h2 : cn (swt t d e) (dif A (sng d)) c n = cn t (dif A (sng d)) c n := cn_congr (fun _ _ => rfl) fun x _ hx => by
          have h3 := dif_t.mp hx
          refine swt_o (fun z => ?_) (fun z => ?_)
          · rw [sng_t.mpr z] at h3
            exact absurd h3.2 (by decide)
          · rw [z, hAe] at h3
            exact absurd h3.1 (by decide)
        rw [cn_rm hAd hd, swt_d hde, h2]
        rw [cn_rm hAd hd, hv] at h1
        omega
      · by_cases hv2 : v = t d
        · have hb : Bal n t h A := fun c => by
            have h1 := hc c
            rw [hv2] at h1
            omega
          have := hmin A hs ⟨d, hd, hAd⟩ hb e he hSe
          rw [hAe] at this
          exact absurd this (by decide)
        · have h1 := hc v
          rw [if_pos rfl, if_neg (fun z => hv2 z.symm)] at h1
          have h2 := hS v
          rw [cn_add hs, cn_add (f := h) hs] at h2
          obtain ⟨x, hx, hxS, hxv⟩ := cn_pos (f := t) (X := dif S A) (c := v) (n := n) (by omega)
          have hxA := dif_t.mp hxS
          have hxe : x ≠ e := fun z => hv (by rw [← hxv, z])
          have ux : uni A (sng x) x = true := uni_t.mpr (Or.inr (sng_t.mpr rfl))
          have rest : ∀ y, y < n → dif (uni A (sng x)) (sng x) y = A y := fun y hy => beq2 ⟨fun z => (uni_t.mp (dif_t.mp z).1).resolve_right fun z2 => by
            rw [(dif_t.mp z).2] at z2
            exact absurd z2 (by decide), fun z => dif_t.mpr ⟨uni_t.mpr (Or.inl z), bf fun z2 => by
            rw [sng_t.mp z2, hxA.2] at z
            exact absurd z (by decide)⟩⟩
          refine ih (uni A (sng x)) (h x) ?_ (fun y hy z => ?_) (uni_t.mpr (Or.inl hAd)) (bf fun z => ?_) (fun c => ?_)
          · have h3 := sz_rm hxS hx
            have h4 : sz (dif (dif S A) (sng x)) n = sz (dif S (uni A (sng x))) n := sz_congr fun y _ => by
              unfold dif uni
              cases S y <;> cases A y <;> cases sng x y <;> rfl
            omega
          · rcases uni_t.mp z with z1 | z1
            · exact hs y hy z1
            · rw [sng_t.mp z1]
              exact hxA.1
          · rcases uni_t.mp z with z1 | z1
            · rw [hAe] at z1
              exact absurd z1 (by decide)
            · exact hxe (sng_t.mp z1).symm
          · have h3 := hc c
            rw [cn_rm ux hx, cn_rm (f := h) ux hx, cn_congr (f := t) (g := t) rest (fun _ _ _ => rfl), cn_congr (f := h) (g := h) rest (fun _ _ _ => rfl), hxv]
            omega
  refine key (sz (dif S (sng d)) n) (sng d) (h d) (Nat.le_refl _) (sb_sng hSd) (sng_t.mpr rfl) (bf fun z => hde (sng_t.mp z).symm) fun c => ?_
  rw [cn_sng hd, cn_sng hd]
  omega
/-- a mixing of two dolls of one ring of a best parting -/
theorem swA {k1 k' : Nat} (hsX : Sb n X (stray t h)) (hbX : Bal n t h X) (h1 : MaxP n t h (dif (stray t h) X) k1) (h2 : MaxP n t h (stray t h) (k1 + 1)) (hd : d < n) (he : e < n) (hde : d ≠ e) (hXd : X d = true) (hXe : X e = true) (h3 : MaxP n (swt t d e) h (stray (swt t d e) h) k') : sz (stray t h) n + k' = sz (stray (swt t d e) h) n + (k1 + 1) + 1 := by
  have a1 := h2.all
  have a2 := h3.all
  have s1 := sz_right (stray t h) n
  have s2 := sz_right (stray (swt t d e) h) n
  -- the ring is a least one
  have hmin : ∀ A, Sb n A X → Nem n A → Bal n t h A → Sb n X A := by
    intro A hA hne hb
    refine Classical.byContradiction fun hx => ?_
    have hne2 : Nem n (dif X A) := Classical.byContradiction fun hn => hx fun y hy z => Classical.byContradiction fun hA => hn ⟨y, hy, dif_t.mpr ⟨z, bf hA⟩⟩
    have hp : Pt n t h (k1 + 1 + 1) (stray t h) := by
      refine Pt.cons (A := A) (fun y hy z => hsX y hy (hA y hy z)) hne hb (Pt.cons (A := dif X A) (fun y hy z => dif_t.mpr ⟨hsX y hy (dif_t.mp z).1, (dif_t.mp z).2⟩) hne2 (hbX.sub hb hA) (h1.1.congr fun y hy => beq2 ⟨fun z => dif_t.mpr ⟨dif_t.mpr ⟨(dif_t.mp z).1, bf fun za => ?_⟩, dif_f.mpr fun zx => ?_⟩, fun z => dif_t.mpr ⟨(dif_t.mp (dif_t.mp z).1).1, bf fun zx => ?_⟩⟩))
      · have := hA y hy za
        rw [(dif_t.mp z).2] at this
        exact absurd this (by decide)
      · rw [(dif_t.mp z).2] at zx
        exact absurd zx (by decide)
      · have q1 := (dif_t.mp (dif_t.mp z).1).2
        have q2 := (dif_t.mp z).2
        rw [dif_t.mpr ⟨zx, q1⟩] at q2
        exact absurd q2 (by decide)
    have := h2.2 _ hp
    omega
  obtain ⟨A, g1, g2, g3, g4⟩ := split hbX hmin hd he hde hXd hXe
  have hbX' : Bal n (swt t d e) h X := hbX.swap hd he hde (by rw [hXd, hXe])
  have p0 : Pt n (swt t d e) h k1 (dif (stray t h) X) := h1.1.swap0 hd he hde (dif_f.mpr fun _ => hXd) (dif_f.mpr fun _ => hXe)
  have p2 : Pt n (swt t d e) h (k1 + 1 + 1) (stray t h) := by
    refine Pt.cons (A := A) (fun y hy z => hsX y hy (g1 y hy z)) ⟨d, hd, g2⟩ g4 (Pt.cons (A := dif X A) (fun y hy z => dif_t.mpr ⟨hsX y hy (dif_t.mp z).1, (dif_t.mp z).2⟩) ⟨e, he, dif_t.mpr ⟨hXe, g3⟩⟩ (hbX'.sub g4 g1) (p0.congr fun y hy => beq2 ⟨fun z => dif_t.mpr ⟨dif_t.mpr ⟨(dif_t.mp z).1, bf fun za => ?_⟩, dif_f.mpr fun zx => ?_⟩, fun z => dif_t.mpr ⟨(dif_t.mp (dif_t.mp z).1).1, bf fun zx => ?_⟩⟩))
    · have := g1 y hy za
      rw [(dif_t.mp z).2] at this
      exact absurd this (by decide)
    · rw [(dif_t.mp z).2] at zx
      exact absurd zx (by decide)
    · have q1 := (dif_t.mp (dif_t.mp z).1).2
      have q2 := (dif_t.mp z).2
      rw [dif_t.mpr ⟨zx, q1⟩] at q2
      exact absurd q2 (by decide)
  have p3 : Pt n (swt t d e) h (k1 + 1 + 1 + sz (dif allD (stray t h)) n) allD := by
    refine (p2.put (m := sz (dif allD (stray t h)) n) rfl (fun y hy z => ?_) (fun y _ z => (dif_t.mp z).2)).congr fun y _ => ?_
    · have q := (dif_t.mp z).2
      rw [swt_o (fun z2 => ?_) (fun z2 => ?_)]
      · exact stray_f.mp q
      · rw [z2, hsX d hd hXd] at q
        exact absurd q (by decide)
      · rw [z2, hsX e he hXe] at q
        exact absurd q (by decide)
    · unfold uni dif allD
      cases stray t h y <;> rfl
  have q1 := a2.2 _ p3
  have q2 : k' + sz (dif allD (stray (swt t d e) h)) n ≤ k1 + 1 + sz (dif allD (stray t h)) n + 1 := by
    rcases a2.1.swap hd he hde rfl rfl with z | ⟨S, k2, f1, f2, f3, f4, f5, f6⟩
    · rw [swt_swt hde] at z
      have := a1.2 _ z
      omega
    · rw [swt_swt hde] at f5 f6
      have := a1.2 _ (Pt.cons f2 ⟨d, hd, f3⟩ f5 f6)
      omega
  omega
/-- a mixing that brings one less is of one ring of a best parting -/
theorem swB {k' : Nat} (h2 : MaxP n t h (stray t h) k) (hd : d < n) (he : e < n) (hde : d ≠ e) (h3 : MaxP n (swt t d e) h (stray (swt t d e) h) k') (heq : sz (stray t h) n + k' = sz (stray (swt t d e) h) n + k + 1) : ∃ S, Sb n S (stray t h) ∧ Bal n t h S ∧ S d = true ∧ S e = true ∧ ∀ k1, MaxP n t h (dif (stray t h) S) k1 → k1 + 1 = k := by
  have a1 := h2.all
  have a2 := h3.all
  have s1 := sz_right (stray t h) n
  have s2 := sz_right (stray (swt t d e) h) n
  rcases a2.1.swap hd he hde rfl rfl with z | ⟨S, k2, f1, f2, f3, f4, f5, f6⟩
  · rw [swt_swt hde] at z
    have := a1.2 _ z
    omega
  · rw [swt_swt hde] at f5 f6
    have hS : Sb n S (stray t h) := by
      intro x hx hSx
      refine Classical.byContradiction fun hr => ?_
      have hrx : t x = h x := stray_f.mp (bf hr)
      have hne : Nem n (dif S (sng x)) := by
        by_cases hxd : d = x
        · exact ⟨e, he, dif_t.mpr ⟨f4, bf fun z => hde (by rw [hxd, sng_t.mp z])⟩⟩
        · exact ⟨d, hd, dif_t.mpr ⟨f3, bf fun z => hxd (sng_t.mp z)⟩⟩
      have hp : Pt n t h (k2 + 1 + 1) allD := by
        refine Pt.cons (A := sng x) (sb_sng rfl) ⟨x, hx, sng_t.mpr rfl⟩ (Bal.one hx hrx) (Pt.cons (A := dif S (sng x)) (fun y _ z => dif_t.mpr ⟨rfl, (dif_t.mp z).2⟩) hne (f5.sub (Bal.one hx hrx) (sb_sng hSx)) (f6.congr fun y hy => beq2 ⟨fun z => dif_t.mpr ⟨dif_t.mpr ⟨rfl, bf fun zs => ?_⟩, dif_f.mpr fun zx => ?_⟩, fun z => dif_t.mpr ⟨rfl, bf fun zx => ?_⟩⟩))
        · have := (dif_t.mp z).2
          rw [sng_t.mp zs, hSx] at this
          exact absurd this (by decide)
        · rw [(dif_t.mp z).2] at zx
          exact absurd zx (by decide)
        · have q1 := (dif_t.mp (dif_t.mp z).1).2
          have q2 := (dif_t.mp z).2
          rw [dif_t.mpr ⟨zx, q1⟩] at q2
          exact absurd q2 (by decide)
      have := a1.2 _ hp
      omega
    refine ⟨S, hS, f5, f3, f4, fun k1 hk1 => ?_⟩
    have u1 := h2.2 _ (Pt.cons hS ⟨d, hd, f3⟩ f5 hk1.1)
    obtain ⟨k3, g1, g2⟩ := f6.cut (W := stray t h) fun y _ z => stray_f.mp z
    have u2 := hk1.2 k3 (g1.congr fun y _ => by unfold itr dif allD; cases stray t h y <;> cases S y <;> rfl)
    have u3 : sz (dif (dif allD S) (stray t h)) n = sz (dif allD (stray t h)) n := sz_congr fun y hy => by
      have := hS y hy
      unfold dif allD
      cases hSy : S y
      · rfl
      · rw [this hSy]; rfl
    omega
/-- a ring has two dolls at least -/
theorem two_in (hsX : Sb n X (stray t h)) (hbX : Bal n t h X) (hd : d < n) (hX : X d = true) : ∃ e, e < n ∧ e ≠ d ∧ X e = true := by
  refine Classical.byContradiction fun hn => ?_
  have h1 := hbX (t d)
  have hne := stray_t.mp (hsX d hd hX)
  rw [cn_rm hX hd, if_pos rfl, cn_rm (f := h) hX hd, if_neg (fun z => hne z.symm), cn_e (f := h) (fun x hx hz _ => hn ⟨x, hx, fun z => ?_, (dif_t.mp hz).1⟩)] at h1
  · omega
  · have := (dif_t.mp hz).2
    rw [sng_t.mpr z] at this
    exact absurd this (by decide)
end N2
