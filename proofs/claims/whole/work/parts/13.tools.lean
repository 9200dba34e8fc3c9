/-! frames: what each part of the relation reads -/
def fRol (ra a k : Nat) : Prop := (ra ≤ a ∧ a ≤ ra + 5) ∨ (a = 137 ∧ (k = 0 ∨ k = 2 ∨ k = 6 ∨ k = 7)) ∨ (138 ≤ a ∧ a ≤ 140)
def fTxt (a k : Nat) : Prop := (a = 4 ∧ (k = 1 ∨ k = 3)) ∨ a = 5 ∨ a = 143 ∨ (a = 137 ∧ (k = 11 ∨ k = 12))
def fScn (b m o a k : Nat) : Prop := (b ≤ a ∧ a ≤ b + 4) ∨ (a = m ∧ o ≤ k ∧ k < o + 36)
def fNow (a k : Nat) : Prop := (6 ≤ a ∧ a ≤ 10) ∨ (a = 142 ∧ k < 36)
def fPst (a k : Nat) : Prop := (11 ≤ a ∧ a ≤ 92) ∨ a = 148 ∨ (a = 137 ∧ k = 25)
def fImg (a k : Nat) : Prop := (125 ≤ a ∧ a ≤ 136 ∧ 0 ≤ k) ∨ a = 155 ∨ a = 156
def fBok (a k : Nat) : Prop := (93 ≤ a ∧ a ≤ 95) ∨ a = 153 ∨ a = 154 ∨ (a = 137 ∧ k = 31)
def fSed (a k : Nat) : Prop := (a = 3 ∧ k = 9) ∨ (a = 137 ∧ k = 9)
def fSta (a k : Nat) : Prop := a ≤ 2 ∧ 0 ≤ k
/-- everything that the relation reads -/
def fAll (ra a k : Nat) : Prop := fRol ra a k ∨ fTxt a k ∨ fNow a k ∨ fPst a k ∨ fImg a k ∨ fBok a k ∨ fSed a k ∨ fSta a k
def Ag (f : Nat → Nat → Prop) (J I : cM) : Prop := ∀ a k, f a k → J a k = I a k
theorem Ag.rf {f : Nat → Nat → Prop} {I : cM} : Ag f I I := fun _ _ _ => rfl
theorem Ag.u {f : Nat → Nat → Prop} {I J : cM} {a0 k0 : Nat} {x : Int32} (h : Ag f J I) (hn : ¬ f a0 k0) : Ag f (u2 J a0 k0 x) I := fun a k hf => by
  rw [u2_n J x (fun q => hn (by rw [← q.1, ← q.2]; exact hf))]
  exact h a k hf
theorem Ag.r {f : Nat → Nat → Prop} {I J : cM} {a0 : Nat} {g : Nat → Int32} (h : Ag f J I) (hn : ∀ k, ¬ f a0 k) : Ag f (u1 J a0 g) I := fun a k hf => by
  rw [u1_n J g (fun q => hn k (by rw [← q]; exact hf))]
  exact h a k hf
theorem Ag.t {f : Nat → Nat → Prop} {I J K : cM} (h : Ag f J I) (h2 : Ag f K J) : Ag f K I := fun a k hf => (h2 a k hf).trans (h a k hf)
theorem Ag.m {f g : Nat → Nat → Prop} {I J : cM} (h : Ag f J I) (hm : ∀ a k, g a k → f a k) : Ag g J I := fun a k hg => h a k (hm a k hg)
theorem Rol.fr {I J : cM} {ra C D : Nat} {v kd hm : Nat → Nat} {pt q : Nat} (h : Rol I ra C D v kd hm pt q) (ha : Ag (fRol ra) J I) : Rol J ra C D v kd hm pt q := by
  obtain ⟨h1, h2, h3, h4, h5, h6, h7, h8, h9, h10, h11, h12, h13, h14, h15, h16, h17, h18, h19⟩ := h
  have e : ∀ a k, fRol ra a k → J a k = I a k := ha
  refine ⟨h1, h2, h3, h4, ?_, ?_, ?_, ?_, fun c hc => ?_, fun c hc => ?_, fun c hc => ?_, h12, ?_, ?_, h15, h16, ?_, ?_, fun s hs => ?_⟩
  · rw [e _ _ (by unfold fRol; omega)]; exact h5
  · rw [e _ _ (by unfold fRol; omega)]; exact h6
  · rw [e _ _ (by unfold fRol; omega)]; exact h7
  · rw [e _ _ (by unfold fRol; omega)]; exact h8
  · rw [e _ _ (by unfold fRol; omega), e _ _ (by unfold fRol; omega)]; exact h9 c hc
  · rw [e _ _ (by unfold fRol; omega), e _ _ (by unfold fRol; omega)]; exact h10 c hc
  · rw [e _ _ (by unfold fRol; omega), e _ _ (by unfold fRol; omega)]; exact h11 c hc
  · rw [e _ _ (by unfold fRol; omega)]; exact h13
  · rw [e _ _ (by unfold fRol; omega)]; exact h14
  · rw [e _ _ (by unfold fRol; omega)]; exact h17
  · rw [e _ _ (by unfold fRol; omega)]; exact h18
  · rw [e _ _ (by unfold fRol; omega)]; exact h19 s hs
theorem Txt.fr {I J : cM} {T : Nat} {tx : Nat → Nat} (h : Txt I T tx) (ha : Ag fTxt J I) : Txt J T tx := by
  obtain ⟨h1, h2, h3, h4, h5⟩ := h
  have e : ∀ a k, fTxt a k → J a k = I a k := ha
  refine ⟨h1, ?_, ?_, fun j hj => ?_, ?_⟩
  · rw [e _ _ (by unfold fTxt; omega)]; exact h2
  · rw [e _ _ (by unfold fTxt; omega)]; exact h3
  · rw [e 5 _ (by unfold fTxt; omega), e 143 _ (by unfold fTxt; omega)]; exact h4 j hj
  · rw [e _ _ (by unfold fTxt; omega), e 137 _ (by unfold fTxt; omega)]; exact h5
theorem SC.fr {I J : cM} {C D b m o : Nat} {t s w e : Nat → Nat} {u y : Nat} (hD : D ≤ 8) (h : SC I C D b m o t s w e u y) (ha : Ag (fScn b m o) J I) : SC J C D b m o t s w e u y := by
  obtain ⟨h1, h2, h3, h4, h5, h6, h7, h8, h9, h10, h11, h12⟩ := h
  have q : ∀ a k, fScn b m o a k → J a k = I a k := ha
  refine ⟨fun d hd => ?_, fun d hd => ?_, fun d hd => ?_, fun d hd => ?_, h5, ?_, ?_, h8, ?_, ?_, ?_, ?_⟩
  · rw [q _ _ (Or.inl (by omega)), q m _ (Or.inr (by omega))]; exact h1 d hd
  · rw [q _ _ (Or.inl (by omega)), q m _ (Or.inr (by omega))]; exact h2 d hd
  · rw [q _ _ (Or.inl (by omega)), q m _ (Or.inr (by omega))]; exact h3 d hd
  · rw [q _ _ (Or.inl (by omega)), q m _ (Or.inr (by omega))]; exact h4 d hd
  · rw [q _ _ (Or.inl (by omega))]; exact h6
  · rw [q m _ (Or.inr (by omega))]; exact h7
  · rw [q _ _ (Or.inl (by omega))]; exact h9
  · rw [q m _ (Or.inr (by omega))]; exact h10
  · rw [q _ _ (Or.inl (by omega)), q m _ (Or.inr (by omega))]; exact h11
  · rw [q _ _ (Or.inl (by omega)), q m _ (Or.inr (by omega))]; exact h12
theorem Scn.fr {I J : cM} {C D b m o : Nat} (hD : D ≤ 8) (h : Scn I C D b m o) (ha : Ag (fScn b m o) J I) : Scn J C D b m o := by
  obtain ⟨t, s, w, e, u, y, h⟩ := h
  exact ⟨t, s, w, e, u, y, h.fr hD ha⟩
theorem Pst.fr {I J : cM} {C D z nx : Nat} (hD : D ≤ 8) (h : Pst I C D z nx) (ha : Ag fPst J I) : Pst J C D z nx := by
  obtain ⟨h1, h2, h3, h4, h5, h6⟩ := h
  have e : ∀ a k, fPst a k → J a k = I a k := ha
  refine ⟨h1, h2, ?_, ?_, ?_, fun i hi => (h6 i hi).fr hD (fun a k hf => e a k ?_)⟩
  · rw [e _ _ (by unfold fPst; omega)]; exact h3
  · rw [e _ _ (by unfold fPst; omega)]; exact h4
  · rw [e _ _ (by unfold fPst; omega)]; exact h5
  · unfold fScn at hf
    unfold fPst
    have : (nx + 15 - i) % 16 < 16 := Nat.mod_lt _ (by decide)
    omega
theorem Img.fr {I J : cM} {C D : Nat} (hD : D ≤ 8) (h : Img I C D) (ha : Ag fImg J I) : Img J C D := by
  have e : ∀ a k, fImg a k → J a k = I a k := ha
  intro i hi
  obtain ⟨h1, h2, h3⟩ := h i hi
  rw [e (125 + 6 * i) _ (by unfold fImg; omega), e (125 + 6 * i) _ (by unfold fImg; omega), e 156 _ (by unfold fImg; omega), e 155 _ (by unfold fImg; omega)]
  refine ⟨h1, h2, fun hk => ⟨(h3 hk).1.fr hD (fun a k hf => e a k ?_), (h3 hk).2⟩⟩
  unfold fScn at hf
  unfold fImg
  omega
theorem Bok.fr {I J : cM} {C D z : Nat} {bd bc : Nat → Nat} (h : Bok I C D z bd bc) (ha : Ag fBok J I) : Bok J C D z bd bc := by
  obtain ⟨h1, h2, h3, h4⟩ := h
  have e : ∀ a k, fBok a k → J a k = I a k := ha
  refine ⟨h1, ?_, ?_, fun j hj => ?_⟩
  · rw [e _ _ (by unfold fBok; omega)]; exact h2
  · rw [e _ _ (by unfold fBok; omega)]; exact h3
  · rw [e 94 _ (by unfold fBok; omega), e 153 _ (by unfold fBok; omega), e 95 _ (by unfold fBok; omega), e 154 _ (by unfold fBok; omega)]; exact h4 j hj
theorem Sed.fr {I J : cM} {ch : Nat} (h : Sed I ch) (ha : Ag fSed J I) : Sed J ch := by
  obtain ⟨h1, h2, h3⟩ := h
  exact ⟨h1, (ha 3 9 (by unfold fSed; omega)).trans h2, (ha 137 9 (by unfold fSed; omega)).trans h3⟩
theorem Sta.fr {I J : cM} {xs : Nat → Int32} (h : Sta I xs) (ha : Ag fSta J I) : Sta J xs := by
  obtain ⟨h1, h2, h3⟩ := h
  refine ⟨?_, ?_, ?_⟩
  · rw [← h1]; funext k; exact ha 0 k (by unfold fSta; omega)
  · rw [← h2]; funext k; exact ha 1 k (by unfold fSta; omega)
  · rw [← h3]; funext k; exact ha 2 k (by unfold fSta; omega)
/-- nothing that the relation reads was changed -/
theorem Rel.fr {ra rb : Nat} {xs : Nat → Int32} {I J : cM} (h : Rel ra rb xs I) (ha : Ag (fAll ra) J I) : Rel ra rb xs J := by
  obtain ⟨C, D, v, kd, hm, pt, q, hab, hR, ⟨T, tx, hT⟩, hN, ⟨z, nx, hP⟩, hI, ⟨z2, bd, bc, hB⟩, ⟨ch, hS⟩, hX⟩ := h
  have hD : D ≤ 8 := hR.2.2.1
  refine ⟨C, D, v, kd, hm, pt, q, hab, hR.fr (ha.m fun a k h => Or.inl h), ⟨T, tx, hT.fr (ha.m fun a k h => Or.inr (Or.inl h))⟩, hN.fr hD (ha.m fun a k h => Or.inr (Or.inr (Or.inl ?_))), ⟨z, nx, hP.fr hD (ha.m fun a k h => Or.inr (Or.inr (Or.inr (Or.inl h))))⟩, hI.fr hD (ha.m fun a k h => Or.inr (Or.inr (Or.inr (Or.inr (Or.inl h))))), ⟨z2, bd, bc, hB.fr (ha.m fun a k h => Or.inr (Or.inr (Or.inr (Or.inr (Or.inr (Or.inl h))))))⟩, ⟨ch, hS.fr (ha.m fun a k h => Or.inr (Or.inr (Or.inr (Or.inr (Or.inr (Or.inr (Or.inl h)))))))⟩, hX.fr (ha.m fun a k h => Or.inr (Or.inr (Or.inr (Or.inr (Or.inr (Or.inr (Or.inr h)))))))⟩
  unfold fScn at h
  unfold fNow
  omega
/-! numbers -/
theorem t_lt (a b : Int32) : a < b ↔ a.toInt < b.toInt := Int32.lt_iff_toInt_lt
theorem t_le (a b : Int32) : a ≤ b ↔ a.toInt ≤ b.toInt := Int32.le_iff_toInt_le
theorem t_wlt (a b : Int32) : a.toInt64 < b.toInt64 ↔ a < b := by rw [Int64.lt_iff_toInt_lt, Int32.lt_iff_toInt_lt, Int32.toInt_toInt64, Int32.toInt_toInt64]
theorem lg_neg (x y : Int64) : lg_cmp x y < 0 ↔ x < y := by
  unfold lg_cmp
  simp only [gt_iff_lt, Int64.lt_iff_toInt_lt, ← Int64.toInt_inj]
  by_cases h : y.toInt < x.toInt
  · rw [if_pos h]
    exact ⟨fun q => absurd q (by decide), fun q => absurd q (by omega)⟩
  · rw [if_neg h]
    by_cases h2 : x.toInt = y.toInt
    · rw [if_pos h2]
      exact ⟨fun q => absurd q (by decide), fun q => absurd q (by omega)⟩
    · rw [if_neg h2]
      exact ⟨fun _ => by omega, fun _ => by decide⟩
theorem lg_pos (x y : Int64) : 0 < lg_cmp x y ↔ y < x := by
  unfold lg_cmp
  simp only [gt_iff_lt, Int64.lt_iff_toInt_lt, ← Int64.toInt_inj]
  by_cases h : y.toInt < x.toInt
  · rw [if_pos h]
    exact ⟨fun _ => h, fun _ => by decide⟩
  · rw [if_neg h]
    by_cases h2 : x.toInt = y.toInt
    · rw [if_pos h2]
      exact ⟨fun q => absurd q (by decide), fun q => absurd q h⟩
    · rw [if_neg h2]
      exact ⟨fun q => absurd q (by decide), fun q => absurd q h⟩
theorem c_in_t {σ : cH} {x a b : Int32} (h1 : a ≤ x) (h2 : x ≤ b) : pX10_in x.toInt64 a.toInt64 b.toInt64 σ = some (1, σ) := by
  unfold pX10_in
  rw [if_neg (fun q => absurd ((t_wlt _ _).mp ((lg_neg _ _).mp q)) (Int32.not_lt.mpr h1)), if_neg (fun q => absurd ((t_wlt _ _).mp ((lg_pos _ _).mp q)) (Int32.not_lt.mpr h2))]
  rfl
theorem c_in_f {σ : cH} {x a b : Int32} (h : x < a ∨ b < x) : pX10_in x.toInt64 a.toInt64 b.toInt64 σ = some (0, σ) := by
  unfold pX10_in
  by_cases h1 : x < a
  · rw [if_pos ((lg_neg _ _).mpr ((t_wlt _ _).mpr h1))]
    rfl
  · rw [if_neg (fun q => h1 ((t_wlt _ _).mp ((lg_neg _ _).mp q))), if_pos ((lg_pos _ _).mpr ((t_wlt _ _).mpr (h.resolve_left h1)))]
    rfl
/-- in, at the model's own bounds n - 1 -/
theorem c_in_nt {σ : cH} {j n : Nat} (h : j < n) (hn : n < 2 ^ 31) : pX10_in (nI j).toInt64 0 (nI n - 1).toInt64 σ = some (1, σ) := by
  have e : nI n - 1 = nI (n - 1) := pk_sub (a := n) (b := 1) (by omega)
  rw [e]
  exact c_in_t (a := 0) (nI_pos' (by omega)) (nI_le (by omega) (by omega))
theorem c_in_nf {σ : cH} {x : Int32} {n : Nat} (h : x < 0 ∨ nI n ≤ x) (hn : n < 2 ^ 31) : pX10_in x.toInt64 0 (nI n - 1).toInt64 σ = some (0, σ) := by
  refine c_in_f (a := 0) ?_
  rcases h with h | h
  · exact Or.inl h
  · by_cases h0 : x < 0
    · exact Or.inl h0
    · refine Or.inr ?_
      rw [t_lt]
      rw [t_le, nI_toInt hn] at h
      by_cases hz : n = 0
      · subst hz
        have : (nI 0 - 1).toInt = -1 := by decide
        rw [this]
        omega
      · have e : nI n - 1 = nI (n - 1) := pk_sub (a := n) (b := 1) (by omega)
        rw [e, nI_toInt (by omega)]
        omega
section T1
variable {ra rb L : Nat} {I : cM} {C D : Nat}
theorem q_hasCourt_t {a j : Nat} (h : c_rl a) (hC : I a 5 = nI C) (hj : j < C) (hC7 : C ≤ 7) : pX4_hasCourt a (nI j) (hp ra rb L I) = some (1, hp ra rb L I) := by
  rw [pX4_hasCourt, if_neg (nI_pos (by omega)), rg_5 h, hC, if_neg (nI_ge hj (by omega))]
  rfl
theorem q_hasCourt_f {a : Nat} {x : Int32} (h : c_rl a) (hC : I a 5 = nI C) (hx : x < 0 ∨ nI C ≤ x) : pX4_hasCourt a x (hp ra rb L I) = some (0, hp ra rb L I) := by
  rw [pX4_hasCourt]
  by_cases h0 : x < 0
  · rw [if_pos h0]
    rfl
  · rw [if_neg h0, rg_5 h, hC, if_pos (hx.resolve_left h0)]
    rfl
theorem q_hasDoll_t {a j : Nat} (h : c_rl a) (hD : I a 6 = nI D) (hj : j < D) (hD8 : D ≤ 8) : pX4_hasDoll a (nI j) (hp ra rb L I) = some (1, hp ra rb L I) := by
  rw [pX4_hasDoll, if_neg (nI_pos (by omega)), rg_6 h, hD, if_neg (nI_ge hj (by omega))]
  rfl
theorem q_hasDoll_f {a : Nat} {x : Int32} (h : c_rl a) (hD : I a 6 = nI D) (hx : x < 0 ∨ nI D ≤ x) : pX4_hasDoll a x (hp ra rb L I) = some (0, hp ra rb L I) := by
  rw [pX4_hasDoll]
  by_cases h0 : x < 0
  · rw [if_pos h0]
    rfl
  · rw [if_neg h0, rg_6 h, hD, if_pos (hx.resolve_left h0)]
    rfl
theorem q_isCourt_t {j : Nat} (hC : I 137 0 = nI C) (hj : j < C) (hC7 : C ≤ 7) : pX10_isCourt 137 (nI j) (hp ra rb L I) = some (1, hp ra rb L I) := by
  rw [pX10_isCourt, g_137_0, hC, m_bind_some (c_in_nt hj (by omega))]
  rfl
theorem q_isCourt_f {x : Int32} (hC : I 137 0 = nI C) (hx : x < 0 ∨ nI C ≤ x) (hC7 : C ≤ 7) : pX10_isCourt 137 x (hp ra rb L I) = some (0, hp ra rb L I) := by
  rw [pX10_isCourt, g_137_0, hC, m_bind_some (c_in_nf hx (by omega))]
  rfl
theorem q_isDoll_t {j : Nat} (hD : I 137 2 = nI D) (hj : j < D) (hD8 : D ≤ 8) : pX10_isDoll 137 (nI j) (hp ra rb L I) = some (1, hp ra rb L I) := by
  rw [pX10_isDoll, g_137_2, hD, m_bind_some (c_in_nt hj (by omega))]
  rfl
theorem q_isDoll_f {x : Int32} (hD : I 137 2 = nI D) (hx : x < 0 ∨ nI D ≤ x) (hD8 : D ≤ 8) : pX10_isDoll 137 x (hp ra rb L I) = some (0, hp ra rb L I) := by
  rw [pX10_isDoll, g_137_2, hD, m_bind_some (c_in_nf hx (by omega))]
  rfl
end T1
