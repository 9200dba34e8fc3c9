/-! draws, what happens by them, pair drift -/
def nxt (ch : Nat) : Nat := (ch * 1103515245 + 12345) % 2 ^ 31
theorem nxt_lt (ch : Nat) : nxt ch < 2 ^ 31 := Nat.mod_lt _ (by decide)
theorem nI_tn (n : Nat) : (nI n).toBitVec.toNat = n % 2 ^ 32 := rfl
theorem nxt_c (ch : Nat) : (nI ch * 1103515245 + 12345) &&& 2147483647 = nI (nxt ch) := by
  have e1 : nI ch * 1103515245 = nI (ch * 1103515245) := pk_mul ch 1103515245
  have e2 : nI (ch * 1103515245) + 12345 = nI (ch * 1103515245 + 12345) := nI_add _ 12345
  rw [e1, e2]
  unfold nxt
  generalize ch * 1103515245 + 12345 = m
  rw [pk_and _ 31 (by decide), nI_tn]
  refine congrArg nI ?_
  omega
theorem nxt_m {ch : Nat} (h : ch < 2 ^ 31) : ((((nI ch).toInt64 * 1103515245) + 12345) - (((nI ch).toInt64 * 1103515245) + 12345) / 2147483648 * 2147483648).toInt32 = nI (nxt ch) := by
  have e1 : lN ch * 1103515245 = lN (ch * 1103515245) := lN_mul ch 1103515245
  have e2 : lN (ch * 1103515245) + 12345 = lN (ch * 1103515245 + 12345) := lN_add _ 12345
  have e3 : lN (ch * 1103515245 + 12345) - lN (ch * 1103515245 + 12345) / 2147483648 * 2147483648 = lN ((ch * 1103515245 + 12345) % 2147483648) := pk_lRem (b := 2147483648) (by omega) (by decide) (by decide)
  rw [nI_l h, e1, e2, e3, lN_i]
  rfl
def dr (ch n : Nat) : Nat := nxt ch / 65536 % n
theorem dr_lt {ch n : Nat} (h : 0 < n) : dr ch n < n := Nat.mod_lt _ h
theorem dr_q {ch n : Nat} (h : 0 < n) (hn : n < 2 ^ 31) : nI (nxt ch) / 65536 - nI (nxt ch) / 65536 / nI n * nI n = nI (dr ch n) := by
  have e : nI (nxt ch) / 65536 = nI (nxt ch / 65536) := pk_div (d := 65536) (nxt_lt ch) (by decide) (by decide)
  have h2 : nxt ch / 65536 ≤ nxt ch := Nat.div_le_self _ _
  have := nxt_lt ch
  rw [e, pk_rem (by omega) h hn]
  rfl
theorem q_draw {ra rb L ch n : Nat} {A : cM} (h : A 3 9 = nI ch) (hn : 0 < n) (hn2 : n < 2 ^ 31) : pX9_draw 3 (nI n) (hp ra rb L A) = some (nI (dr ch n), hp ra rb L (u2 A 3 9 (nI (nxt ch)))) := by
  rw [pX9_draw, g_3_9, h, nxt_c, p_3_9, if_neg (nI_nle hn hn2), g_3_9, u2_s]
  unfold m_nz
  rw [if_neg (by decide), if_neg (nI_ne0 hn hn2), dr_q hn hn2]
  rfl
theorem q_drawM {ra rb L ch n : Nat} {B : cM} (h : B 137 9 = nI ch) (hch : ch < 2 ^ 31) (hn : 0 < n) (hn2 : n < 2 ^ 31) : pX10_draw 137 (nI n) (hp ra rb L B) = some (nI (dr ch n), hp ra rb L (u2 B 137 9 (nI (nxt ch)))) := by
  rw [pX10_draw, g_137_9, h]
  unfold m_nzl
  rw [if_neg (by decide), nxt_m hch, p_137_9, g_137_9, u2_s]
  unfold m_nz
  rw [if_neg (by decide), if_neg (nI_ne0 hn hn2), dr_q hn hn2]
  rfl
theorem n_ne {a b : Nat} (ha : a < 2 ^ 31) (hb : b < 2 ^ 31) (h : a ≠ b) : ¬ nI a = nI b := fun z => h ((nI_eq ha hb).mp z)
section M1
variable {ra rb L : Nat} {C D : Nat} {v kd hm : Nat → Nat} {pt q : Nat}
/-- one meddling: the class's and the model's come to the same numbers -/
theorem med (hr : c_rl ra) (hra : 100 < ra) (ho : OKR C D v kd hm pt q) (hD0 : 0 < D) (t s w e : Nat → Nat) (u y : Nat) (au he : Int32) (ch : Nat) (hch : ch < 2 ^ 31) (hok : OKS C D t s w e u y) :
    ∃ (t' : Nat → Nat) (u' : Nat) (au' he' : Int32) (ch' : Nat), OKS C D t' s w e u' y ∧ ch' < 2 ^ 31 ∧
      (∀ A : cM, CR A ra C D v kd hm pt q → CN A D t s w e u y au he → A 3 9 = nI ch → ∃ A', pX9_meddle 3 (hp ra rb L A) = some ((), hp ra rb L A') ∧ CN A' D t' s w e u' y au' he' ∧ A' 3 9 = nI ch' ∧ ∀ a k, (a < 6 ∨ 10 < a) → ¬ (a = 3 ∧ k = 9) → A' a k = A a k) ∧
      (∀ B : cM, MR B C D v kd hm pt q → MN B D t s w e u y au he → B 137 9 = nI ch → ∃ B', pX10_chance 137 (hp ra rb L B) = some ((), hp ra rb L B') ∧ MN B' D t' s w e u' y au' he' ∧ B' 137 9 = nI ch' ∧ ∀ a k, a ≠ 142 → ¬ (a = 137 ∧ k = 9) → B' a k = B a k) := by
  have hC := ho.1
  have hD := ho.2.2.1
  have hC0 : 0 < C := by
    refine Nat.pos_of_ne_zero fun z => ?_
    have := ho.2.2.2.1 z
    omega
  have h2D := upw hD
  have hu := hok.2.1
  have l5 : dr ch 5 < 5 := dr_lt (by decide)
  have ld : dr (nxt ch) D < D := dr_lt hD0
  -- the first two draws
  have cd : ∀ A : cM, CR A ra C D v kd hm pt q → CN A D t s w e u y au he → A 3 9 = nI ch → ∃ A2, (CR A2 ra C D v kd hm pt q ∧ CN A2 D t s w e u y au he ∧ A2 3 9 = nI (nxt (nxt ch)) ∧ ∀ a k, ¬ (a = 3 ∧ k = 9) → A2 a k = A a k) ∧ ∀ (α : Type) (K : Int32 → Int32 → MM α), m_cv 3 8 (pX9_draw 3 (5 : Int32)) (fun x1 => m_gr 3 8 7 (fun a2 => m_gi a2 4 6 (fun x3 => m_cv 3 8 (pX9_draw 3 x3) (fun x4 => K x1 x4)))) (hp ra rb L A) = K (nI (dr ch 5)) (nI (dr (nxt ch) D)) (hp ra rb L A2) := by
    intro A h1 h2 h3
    have f : ∀ a k, ¬ (a = 3 ∧ k = 9) → u2 (u2 A 3 9 (nI (nxt ch))) 3 9 (nI (nxt (nxt ch))) a k = A a k := fun a k h => by rw [u2_n _ _ h, u2_n _ _ h]
    refine ⟨u2 (u2 A 3 9 (nI (nxt ch))) 3 9 (nI (nxt (nxt ch))), ⟨h1.fr (fun a k a1 a2 => f a k (by omega)), h2.fr (fun a k a1 a2 => f a k (by omega)), u2_s _ _ _ _, f⟩, fun α K => ?_⟩
    have e5 : (5 : Int32) = nI 5 := rfl
    rw [v_3, e5, m_bind_some (q_draw h3 (by decide) (by decide)), g_3_7, rg_6 hr, u2_na _ _ (by omega), h1.2.1, v_3, m_bind_some (q_draw (u2_s _ _ _ _) hD0 (by omega))]
  have cm : ∀ B : cM, MR B C D v kd hm pt q → MN B D t s w e u y au he → B 137 9 = nI ch → ∃ B2, (MR B2 C D v kd hm pt q ∧ MN B2 D t s w e u y au he ∧ B2 137 9 = nI (nxt (nxt ch)) ∧ ∀ a k, ¬ (a = 137 ∧ k = 9) → B2 a k = B a k) ∧ ∀ (α : Type) (K : Int32 → Int32 → MM α), m_cv 137 9 (pX10_draw 137 (5 : Int32)) (fun x1 => m_gi 137 9 2 (fun x3 => m_cv 137 9 (pX10_draw 137 x3) (fun x4 => K x1 x4))) (hp ra rb L B) = K (nI (dr ch 5)) (nI (dr (nxt ch) D)) (hp ra rb L B2) := by
    intro B h1 h2 h3
    have f : ∀ a k, ¬ (a = 137 ∧ k = 9) → u2 (u2 B 137 9 (nI (nxt ch))) 137 9 (nI (nxt (nxt ch))) a k = B a k := fun a k h => by rw [u2_n _ _ h, u2_n _ _ h]
    refine ⟨u2 (u2 B 137 9 (nI (nxt ch))) 137 9 (nI (nxt (nxt ch))), ⟨h1.fr (fun a k a1 => f a k (by omega)), h2.fr (fun k => f 142 k (by omega)), u2_s _ _ _ _, f⟩, fun α K => ?_⟩
    have e5 : (5 : Int32) = nI 5 := rfl
    rw [v_137, e5, m_bind_some (q_drawM h3 hch (by decide) (by decide)), g_137_2, u2_nk _ _ (by decide), h1.2.1, v_137, m_bind_some (q_drawM (u2_s _ _ _ _) (nxt_lt ch) hD0 (by omega))]
  obtain ⟨d, hd⟩ : ∃ d, d = dr (nxt ch) D := ⟨_, rfl⟩
  have nl2 := nxt_lt (nxt ch)
  have nl3 := nxt_lt (nxt (nxt ch))
  rw [← hd] at cd cm ld
  have hdl : d < 8 := by omega
  have n0 : nI 0 = 0 := rfl
  match hw : dr ch 5, l5 with
  | 0, _ =>
    rw [hw] at cd cm
    have lc : dr (nxt (nxt ch)) C < C := dr_lt hC0
    obtain ⟨c, hc⟩ : ∃ c, c = dr (nxt (nxt ch)) C := ⟨_, rfl⟩
    rw [← hc] at lc
    have htd : t d < C := (hok.1 d ld).1
    by_cases hq : t d = c
    · refine ⟨t, u, au, he, nxt (nxt (nxt ch)), hok, nl3, fun A h1 h2 h3 => ?_, fun B h1 h2 h3 => ?_⟩
      · obtain ⟨A2, ⟨k1, k2, k3, k4⟩, k5⟩ := cd A h1 h2 h3
        refine ⟨u2 A2 3 9 (nI (nxt (nxt (nxt ch)))), ?_, k2.fr (fun a k a1 a2 => u2_na _ _ (by omega)), u2_s _ _ _ _, fun a k a1 a2 => by rw [u2_n _ _ a2]; exact k4 a k a2⟩
        rw [pX9_meddle, k5, if_pos n0, g_3_7, rg_5 hr, k1.1, v_3, m_bind_some (q_draw k3 hC0 (by omega)), ← hc, g_3_1, sg_0 sn_6, sl_1 sn_6 (by omega), u2_na _ _ (by decide), k2.1 d ld, hq, if_pos rfl]
        rfl
      · obtain ⟨B2, ⟨k1, k2, k3, k4⟩, k5⟩ := cm B h1 h2 h3
        refine ⟨u2 B2 137 9 (nI (nxt (nxt (nxt ch)))), ?_, k2.fr (fun k => u2_na _ _ (by decide)), u2_s _ _ _ _, fun a k a1 a2 => by rw [u2_n _ _ a2]; exact k4 a k a2⟩
        rw [pX10_chance, k5, if_pos n0, g_137_0, k1.1, v_137, m_bind_some (q_drawM k3 nl2 hC0 (by omega)), ← hc, g_137_8, l_142 (by omega), u2_na _ _ (by decide), k2.1 d ld, hq, if_pos rfl]
        rfl
    · refine ⟨up1 t d c, lb u d, au, he, nxt (nxt (nxt ch)), ok_send hok hD lc, nl3, fun A h1 h2 h3 => ?_, fun B h1 h2 h3 => ?_⟩
      · obtain ⟨A2, ⟨k1, k2, k3, k4⟩, k5⟩ := cd A h1 h2 h3
        obtain ⟨A3, m1, m2, m3⟩ := op_send (ra := ra) (rb := rb) (L := L) (k2.fr (B := u2 A2 3 9 (nI (nxt (nxt (nxt ch))))) (fun a k a1 a2 => u2_na _ _ (by omega))) (c := c) ld hD
        refine ⟨A3, ?_, m2, by rw [m3 _ _ (by omega), u2_s], fun a k a1 a2 => by rw [m3 a k a1, u2_n _ _ a2]; exact k4 a k a2⟩
        rw [pX9_meddle, k5, if_pos n0, g_3_7, rg_5 hr, k1.1, v_3, m_bind_some (q_draw k3 hC0 (by omega)), ← hc, g_3_1, sg_0 sn_6, sl_1 sn_6 (by omega), u2_na _ _ (by decide), k2.1 d ld, if_neg (n_ne (by omega) (by omega) hq), g_3_1, sv sn_6, m_bind_some m1]
        rfl
      · obtain ⟨B2, ⟨k1, k2, k3, k4⟩, k5⟩ := cm B h1 h2 h3
        obtain ⟨B3, m1, m2, m3⟩ := mo_send (ra := ra) (rb := rb) (L := L) (k2.fr (B := u2 B2 137 9 (nI (nxt (nxt (nxt ch))))) (fun k => u2_na _ _ (by decide))) (c := c) ld hD
        refine ⟨B3, ?_, m2, by rw [m3 _ _ (by omega), u2_s], fun a k a1 a2 => by rw [m3 a k a1, u2_n _ _ a2]; exact k4 a k a2⟩
        rw [pX10_chance, k5, if_pos n0, g_137_0, k1.1, v_137, m_bind_some (q_drawM k3 nl2 hC0 (by omega)), ← hc, g_137_8, l_142 (by omega), u2_na _ _ (by decide), k2.1 d ld, if_neg (n_ne (by omega) (by omega) hq), v_137, m_bind_some m1]
        rfl
  | 1, _ =>
    rw [hw] at cd cm
    have lc : dr (nxt (nxt ch)) D < D := dr_lt hD0
    obtain ⟨c, hc⟩ : ∃ c, c = dr (nxt (nxt ch)) D := ⟨_, rfl⟩
    rw [← hc] at lc
    by_cases hq : c = d
    · refine ⟨t, u, au, he, nxt (nxt (nxt ch)), hok, nl3, fun A h1 h2 h3 => ?_, fun B h1 h2 h3 => ?_⟩
      · obtain ⟨A2, ⟨k1, k2, k3, k4⟩, k5⟩ := cd A h1 h2 h3
        refine ⟨u2 A2 3 9 (nI (nxt (nxt (nxt ch)))), ?_, k2.fr (fun a k a1 a2 => u2_na _ _ (by omega)), u2_s _ _ _ _, fun a k a1 a2 => by rw [u2_n _ _ a2]; exact k4 a k a2⟩
        rw [pX9_meddle, k5, if_neg (by decide), if_pos (by decide), g_3_7, rg_6 hr, k1.2.1, v_3, m_bind_some (q_draw k3 hD0 (by omega)), ← hc, hq, if_pos rfl]
        rfl
      · obtain ⟨B2, ⟨k1, k2, k3, k4⟩, k5⟩ := cm B h1 h2 h3
        refine ⟨u2 B2 137 9 (nI (nxt (nxt (nxt ch)))), ?_, k2.fr (fun k => u2_na _ _ (by decide)), u2_s _ _ _ _, fun a k a1 a2 => by rw [u2_n _ _ a2]; exact k4 a k a2⟩
        rw [pX10_chance, k5, if_neg (by decide), if_pos (by decide), g_137_2, k1.2.1, v_137, m_bind_some (q_drawM k3 nl2 hD0 (by omega)), ← hc, hq, if_pos rfl]
        rfl
    · have hq2 : d ≠ c := fun z => hq z.symm
      refine ⟨up1 (up1 t d (t c)) c (t d), lb (lb u d) c, au, he, nxt (nxt (nxt ch)), ok_send (ok_send hok hD (hok.1 c lc).1) hD (hok.1 d ld).1, nl3, fun A h1 h2 h3 => ?_, fun B h1 h2 h3 => ?_⟩
      · obtain ⟨A2, ⟨k1, k2, k3, k4⟩, k5⟩ := cd A h1 h2 h3
        obtain ⟨A3, m1, m2, m3⟩ := op_exchange (ra := ra) (rb := rb) (L := L) (k2.fr (B := u2 A2 3 9 (nI (nxt (nxt (nxt ch))))) (fun a k a1 a2 => u2_na _ _ (by omega))) ld lc hq2 hD
        refine ⟨A3, ?_, m2, by rw [m3 _ _ (by omega), u2_s], fun a k a1 a2 => by rw [m3 a k a1, u2_n _ _ a2]; exact k4 a k a2⟩
        rw [pX9_meddle, k5, if_neg (by decide), if_pos (by decide), g_3_7, rg_6 hr, k1.2.1, v_3, m_bind_some (q_draw k3 hD0 (by omega)), ← hc, if_neg (n_ne (by omega) (by omega) hq), g_3_1, sv sn_6, m_bind_some m1]
        rfl
      · obtain ⟨B2, ⟨k1, k2, k3, k4⟩, k5⟩ := cm B h1 h2 h3
        obtain ⟨B3, m1, m2, m3⟩ := mo_mix (ra := ra) (rb := rb) (L := L) (k2.fr (B := u2 B2 137 9 (nI (nxt (nxt (nxt ch))))) (fun k => u2_na _ _ (by decide))) ld lc hq2 hD
        refine ⟨B3, ?_, m2, by rw [m3 _ _ (by omega), u2_s], fun a k a1 a2 => by rw [m3 a k a1, u2_n _ _ a2]; exact k4 a k a2⟩
        rw [pX10_chance, k5, if_neg (by decide), if_pos (by decide), g_137_2, k1.2.1, v_137, m_bind_some (q_drawM k3 nl2 hD0 (by omega)), ← hc, if_neg (n_ne (by omega) (by omega) hq2), v_137, m_bind_some m1]
        rfl
  | 2, _ =>
    rw [hw] at cd cm
    refine ⟨t, u ||| 2 ^ d, au, he, nxt (nxt ch), ⟨hok.1, Nat.or_lt_two_pow hu (Nat.pow_lt_pow_right (by decide) ld), hok.2.2⟩, nl2, fun A h1 h2 h3 => ?_, fun B h1 h2 h3 => ?_⟩
    · obtain ⟨A2, ⟨k1, k2, k3, k4⟩, k5⟩ := cd A h1 h2 h3
      obtain ⟨m1, m2⟩ := op_raise (ra := ra) (rb := rb) (L := L) k2 (d := d) (by omega)
      refine ⟨_, ?_, m2, by rw [u2_na _ _ (by decide)]; exact k3, fun a k a1 a2 => by rw [u2_na _ _ (by omega)]; exact k4 a k a2⟩
      rw [pX9_meddle, k5, if_neg (by decide), if_neg (by decide), if_pos (by decide), g_3_1, sv sn_6, m_bind_some m1]
      rfl
    · obtain ⟨B2, ⟨k1, k2, k3, k4⟩, k5⟩ := cm B h1 h2 h3
      obtain ⟨m1, m2⟩ := mo_lay0 (ra := ra) (rb := rb) (L := L) k2 hD (d := d) (by omega)
      refine ⟨_, ?_, m2, by rw [u2_na _ _ (by decide)]; exact k3, fun a k a1 a2 => by rw [u2_na _ _ a1]; exact k4 a k a2⟩
      rw [pX10_chance, k5, if_neg (by decide), if_neg (by decide), if_neg (by decide), if_neg (by decide), fX10_chance_100, v_137, m_bind_some m1]
      rfl
  | 3, _ =>
    rw [hw] at cd cm
    have hlb := lb_le (u := u) (d := d) (by omega)
    refine ⟨t, lb u d, au, he, nxt (nxt ch), ⟨hok.1, by omega, hok.2.2⟩, nl2, fun A h1 h2 h3 => ?_, fun B h1 h2 h3 => ?_⟩
    · obtain ⟨A2, ⟨k1, k2, k3, k4⟩, k5⟩ := cd A h1 h2 h3
      obtain ⟨m1, m2⟩ := op_layBack (ra := ra) (rb := rb) (L := L) k2 d
      refine ⟨_, ?_, m2, by rw [u2_na _ _ (by decide)]; exact k3, fun a k a1 a2 => by rw [u2_na _ _ (by omega)]; exact k4 a k a2⟩
      rw [pX9_meddle, k5, if_neg (by decide), if_neg (by decide), if_neg (by decide), if_pos (by decide), g_3_1, sv sn_6, m_bind_some m1]
      rfl
    · obtain ⟨B2, ⟨k1, k2, k3, k4⟩, k5⟩ := cm B h1 h2 h3
      obtain ⟨m1, m2⟩ := mo_lay1 (ra := ra) (rb := rb) (L := L) k2 hD d
      refine ⟨_, ?_, m2, by rw [u2_na _ _ (by decide)]; exact k3, fun a k a1 a2 => by rw [u2_na _ _ a1]; exact k4 a k a2⟩
      rw [pX10_chance, k5, if_neg (by decide), if_neg (by decide), if_neg (by decide), if_pos (by decide), fX10_chance_100, v_137, m_bind_some m1]
      rfl
  | 4, _ =>
    rw [hw] at cd cm
    refine ⟨t, u, au + 1, he + hv C D v kd t q u, nxt (nxt ch), hok, nl2, fun A h1 h2 h3 => ?_, fun B h1 h2 h3 => ?_⟩
    · obtain ⟨A2, ⟨k1, k2, k3, k4⟩, k5⟩ := cd A h1 h2 h3
      obtain ⟨A3, m1, m2, m3⟩ := op_hold (ra := ra) (rb := rb) (L := L) hr k1 k2 ho hok
      refine ⟨A3, ?_, m2, by rw [m3 _ _ (by decide)]; exact k3, fun a k a1 a2 => by rw [m3 a k a1]; exact k4 a k a2⟩
      rw [pX9_meddle, k5, if_neg (by decide), if_neg (by decide), if_neg (by decide), if_neg (by decide), g_3_1, g_3_7, sv sn_6, m_bind_some m1]
      rfl
    · obtain ⟨B2, ⟨k1, k2, k3, k4⟩, k5⟩ := cm B h1 h2 h3
      obtain ⟨B3, m1, m2, m3⟩ := mo_hold (ra := ra) (rb := rb) (L := L) k1 k2 ho hok
      refine ⟨B3, ?_, m2, by rw [m3 _ _ (by decide)]; exact k3, fun a k a1 a2 => by rw [m3 a k a1]; exact k4 a k a2⟩
      rw [pX10_chance, k5, if_neg (by decide), if_neg (by decide), if_pos (by decide), v_137, m_bind_some m1]
      rfl
  | m + 5, h => omega
/-- years with draws -/
theorem drift_loops (hr : c_rl ra) (hra : 100 < ra) (hra2 : ra < 130) (ho : OKR C D v kd hm pt q) (s : Nat → Nat) (N : Nat) (hN : N ≤ 60) :
    ∀ (m j : Nat) (t w e : Nat → Nat) (u y : Nat) (au he : Int32) (ch : Nat), j + m = N → y + m ≤ 9060 → ch < 2 ^ 31 → OKS C D t s w e u y → ∃ (t' w' e' : Nat → Nat) (u' : Nat) (au' he' : Int32) (ch' : Nat), OKS C D t' s w' e' u' (y + m) ∧ ch' < 2 ^ 31 ∧
      (∀ (n : Nat) (A : cM), m < n → CR A ra C D v kd hm pt q → CN A D t s w e u y au he → A 3 9 = nI ch → ∀ K : Nat → MM Int32, ∃ A', fX9_drift_25 K n 3 (nI N) (nI j) (hp ra rb L A) = K 3 (hp ra rb L A') ∧ CN A' D t' s w' e' u' (y + m) au' he' ∧ A' 3 9 = nI ch' ∧ ∀ a k, (a < 6 ∨ 10 < a) → ¬ (a = 3 ∧ k = 9) → A' a k = A a k) ∧
      (∀ (n : Nat) (B : cM), m < n → MR B C D v kd hm pt q → MN B D t s w e u y au he → B 137 9 = nI ch → ∀ K : Nat → MM Int32, ∃ B', fX10_drift_18 K n 137 (nI N) (nI j) (hp ra rb L B) = K 137 (hp ra rb L B') ∧ MN B' D t' s w' e' u' (y + m) au' he' ∧ B' 137 9 = nI ch' ∧ ∀ a k, a ≠ 142 → ¬ (a = 137 ∧ k = 9) → B' a k = B a k) := by
  have hD := ho.2.2.1
  have hk := ho.2.2.2.2.2.1
  intro m
  induction m with
  | zero =>
    intro j t w e u y au he ch hj hy hch hok
    refine ⟨t, w, e, u, au, he, ch, hok, hch, fun n A hn h1 h2 h3 K => ⟨A, ?_, h2, h3, fun _ _ _ _ => rfl⟩, fun n B hn h1 h2 h3 K => ⟨B, ?_, h2, h3, fun _ _ _ _ => rfl⟩⟩
    · obtain ⟨n, rfl⟩ : ∃ n', n = n' + 1 := ⟨n - 1, by omega⟩
      rw [fX9_drift_25, if_pos (nI_le (by omega) (by omega))]
    · obtain ⟨n, rfl⟩ : ∃ n', n = n' + 1 := ⟨n - 1, by omega⟩
      rw [fX10_drift_18, if_pos (nI_le (by omega) (by omega))]
  | succ m ih =>
    intro j t w e u y au he ch hj hy hch hok
    -- what happens by draws ahead of the year
    obtain ⟨t1, u1, au1, he1, ch1, ok1, hch1, hA1, hB1⟩ : ∃ (t' : Nat → Nat) (u' : Nat) (au' he' : Int32) (ch' : Nat), OKS C D t' s w e u' y ∧ ch' < 2 ^ 31 ∧
      (∀ (n : Nat) (A : cM), CR A ra C D v kd hm pt q → CN A D t s w e u y au he → A 3 9 = nI ch → ∀ K : Nat → MM Int32, ∃ A', fX9_drift_25 K (n + 1) 3 (nI N) (nI j) (hp ra rb L A) = fX9_drift_44 (fX9_drift_25 K n) 3 (nI N) (nI j) (hp ra rb L A') ∧ CN A' D t' s w e u' y au' he' ∧ A' 3 9 = nI ch' ∧ ∀ a k, (a < 6 ∨ 10 < a) → ¬ (a = 3 ∧ k = 9) → A' a k = A a k) ∧
      (∀ (n : Nat) (B : cM), MR B C D v kd hm pt q → MN B D t s w e u y au he → B 137 9 = nI ch → ∀ K : Nat → MM Int32, ∃ B', fX10_drift_18 K (n + 1) 137 (nI N) (nI j) (hp ra rb L B) = fX10_drift_34 (fX10_drift_18 K n) 137 (nI N) (nI j) (hp ra rb L B') ∧ MN B' D t' s w e u' y au' he' ∧ B' 137 9 = nI ch' ∧ ∀ a k, a ≠ 142 → ¬ (a = 137 ∧ k = 9) → B' a k = B a k) := by
      by_cases hD0 : D = 0
      · refine ⟨t, u, au, he, ch, hok, hch, fun n A h1 h2 h3 K => ⟨A, ?_, h2, h3, fun _ _ _ _ => rfl⟩, fun n B h1 h2 h3 K => ⟨B, ?_, h2, h3, fun _ _ _ _ => rfl⟩⟩
        · rw [fX9_drift_25, if_neg (nI_ge (by omega) (by omega)), g_3_7, rg_6 hr, h1.2.1, if_pos (show nI D ≤ 0 by rw [hD0]; decide)]
        · rw [fX10_drift_18, if_neg (nI_ge (by omega) (by omega)), g_137_2, h1.2.1, if_pos (show nI D ≤ 0 by rw [hD0]; decide)]
      · obtain ⟨t1, u1, au1, he1, ch1, ok1, hch1, m1, m2⟩ := med (rb := rb) (L := L) hr hra ho (by omega) t s w e u y au he ch hch hok
        refine ⟨t1, u1, au1, he1, ch1, ok1, hch1, fun n A h1 h2 h3 K => ?_, fun n B h1 h2 h3 K => ?_⟩
        · obtain ⟨A', e1, e2, e3, e4⟩ := m1 A h1 h2 h3
          refine ⟨A', ?_, e2, e3, e4⟩
          rw [fX9_drift_25, if_neg (nI_ge (by omega) (by omega)), g_3_7, rg_6 hr, h1.2.1, if_neg (nI_nle (by omega) (by omega)), v_3, m_bind_some e1]
        · obtain ⟨B', e1, e2, e3, e4⟩ := m2 B h1 h2 h3
          refine ⟨B', ?_, e2, e3, e4⟩
          rw [fX10_drift_18, if_neg (nI_ge (by omega) (by omega)), g_137_2, h1.2.1, if_neg (nI_nle (by omega) (by omega)), v_137, m_bind_some e1]
    have hw : ∀ d, d < D → w d ≤ 99 := fun d hd => (ok1.1 d hd).2.2.1
    have he9 : ∀ d, d < D → e d ≤ 999999 := fun d hd => (ok1.1 d hd).2.2.2
    obtain ⟨t', w', e', u', au', he', ch', o1, o4, o2, o3⟩ := ih (j + 1) t1 (fw kd u1 y w) (fe kd u1 y w e) u1 (y + 1) au1 he1 ch1 (by omega) (by omega) hch1 (ok_pass ok1 (by omega))
    rw [show y + 1 + m = y + (m + 1) by omega] at o1 o2 o3
    refine ⟨t', w', e', u', au', he', ch', o1, o4, fun n A hn h1 h2 h3 K => ?_, fun n B hn h1 h2 h3 K => ?_⟩
    · obtain ⟨n, rfl⟩ : ∃ n', n = n' + 1 := ⟨n - 1, by omega⟩
      obtain ⟨A0, z1, z2, z3, z4⟩ := hA1 n A h1 h2 h3 K
      have k0 : CR A0 ra C D v kd hm pt q := h1.fr (fun a k a1 a2 => z4 a k (by omega) (by omega))
      obtain ⟨A1, p1, p2, p3⟩ := op_pass (ra := ra) (rb := rb) (L := L) hr hra hD hk hw he9 (by omega) k0.2.1 k0.2.2.2.1 z2
      obtain ⟨A2, q1, q2, q3, q4⟩ := o2 n A1 (by omega) (k0.fr (fun a k a1 a2 => p3 a k (by omega))) p2 (by rw [p3 _ _ (by decide)]; exact z3) K
      refine ⟨A2, ?_, q2, q3, fun a k a1 a2 => by rw [q4 a k a1 a2, p3 a k a1]; exact z4 a k a1 a2⟩
      rw [z1, fX9_drift_44, g_3_1, g_3_7, sv sn_6, m_bind_some p1, mlet, nI_1]
      exact q1
    · obtain ⟨n, rfl⟩ : ∃ n', n = n' + 1 := ⟨n - 1, by omega⟩
      obtain ⟨B0, z1, z2, z3, z4⟩ := hB1 n B h1 h2 h3 K
      have k0 : MR B0 C D v kd hm pt q := h1.fr (fun a k a1 => z4 a k (by omega) (by omega))
      obtain ⟨B1, p1, p2, p3⟩ := mo_pass (ra := ra) (rb := rb) (L := L) hD hk hw he9 (by omega) k0.2.1 k0.2.2.2.1 z2
      obtain ⟨B2, q1, q2, q3, q4⟩ := o3 n B1 (by omega) (k0.fr (fun a k a1 => p3 a k (by omega))) p2 (by rw [p3 _ _ (by decide)]; exact z3) K
      refine ⟨B2, ?_, q2, q3, fun a k a1 a2 => by rw [q4 a k a1 a2, p3 a k a1]; exact z4 a k a1 a2⟩
      rw [z1, fX10_drift_34, v_137, m_bind_some p1, mlet, nI_1]
      exact q1
end M1
theorem pr_drift (L : Nat) (xs : Nat → Int32) (hL : L ≤ 192) (x : Int32) : Pr L xs (pX9_drift 3 x) (pX10_drift 137 x) := by
  intro ra rb I hR
  have hR0 := hR
  obtain ⟨C, D, v, kd, hm, pt, q, hab, hRo, hT, hN, ⟨z, nx, hP⟩, hI, hB, ⟨ch, hS⟩, hX⟩ := hR
  have hr := hab.rl
  have hra : 100 < ra := by rcases hab with h | h <;> omega
  have hra2 : ra < 130 := by rcases hab with h | h <;> omega
  have hc := hRo.c
  have hm2 := hRo.m
  have ho := hRo.o
  have hC := ho.1
  obtain ⟨t, s, w, e, u, yy, au, he, hc1, hm1, hok⟩ := scn_to hN
  obtain ⟨p1, p2, p3, p4, p5, -⟩ := id hP
  rcases years_ref (ra := ra) (rb := rb) (L := L) (x := x) hr hc.1 hm2.1 hC hc1.2.2.2.2.2.1 hm1.2.2.2.2.2.1 hok.2.2 with ⟨r, hr0, h1, h2⟩ | ⟨n, hn1, hn, rfl, hC0, hy9, h1, h2⟩
  · refine ⟨r, ra, rb, I, I, ?_, hX.2.2, ?_, hR0⟩
    · rw [pX9_drift, v_3, m_bind_some h1, if_neg hr0]
      rfl
    · rw [pX10_drift, v_137, m_bind_some (h2 I hm2.1 hm1.2.2.2.2.2.1), if_neg hr0]
      rfl
  · obtain ⟨t', w', e', u', au', he', ch', o1, o4, o2, o3⟩ := drift_loops (rb := rb) (L := L) hr hra hra2 ho s n hn n 0 t w e u yy au he ch (by omega) (by omega) hS.1 hok
    obtain ⟨A, a1, a2, a4, a3⟩ := o2 c_fu (crem I nx z) (by show n < 1000; omega) (hc.fr fun a k h1 h2 => crem_o p2 (by omega)) (cn_rem hc1 p2) (by rw [crem_o p2 (by omega)]; exact hS.2.1) fX9_drift_61
    have hA : ∀ a k, 136 < a → A a k = I a k := fun a k h => by rw [a3 a k (by omega) (by omega), crem_o p2 (by omega)]
    obtain ⟨B, b1, b2, b4, b3⟩ := o3 c_fu (mrem A z) (by show n < 1000; omega) (hm2.fr fun a k h => by rw [mrem_o (by omega) (by omega), hA _ _ (by omega)]) (mn_rem hm1 (fun k => hA 142 k (by decide))) (by rw [mrem_o (by decide) (by decide), hA _ _ (by decide)]; exact hS.2.2) fX10_drift_44
    refine ⟨nI (yy + n), ra, rb, A, B, ?_, ?_, ?_, ?_⟩
    · rw [pX9_drift, v_3, m_bind_some h1, if_pos rfl, g_3_2, g_3_1, v_11, m_bind_some (q_remember p3 p4 p2 p1)]
      show fX9_drift_25 fX9_drift_61 c_fu 3 (nI n) (nI 0) (hp ra rb L (crem I nx z)) = _
      rw [a1, fX9_drift_61, g_3_1, sg_5 sn_6, a2.2.2.2.2.2.1]
      rfl
    · funext k
      rw [a3 _ _ (by omega) (by omega), crem_o p2 (by omega)]
      exact congrFun hX.2.2 k
    · have e33 : (33 : Int32) = nI 33 := rfl
      rw [pX10_drift, v_137, m_bind_some (h2 A (by rw [hA _ _ (by decide)]; exact hm2.1) (by rw [hA _ _ (by decide)]; exact hm1.2.2.2.2.2.1)), if_pos rfl, v_137, m_bind_some (q_mrem (by rw [hA _ _ (by decide)]; exact p5) p1)]
      show fX10_drift_18 fX10_drift_44 c_fu 137 (nI n) (nI 0) (hp ra rb L (mrem A z)) = _
      rw [b1, fX10_drift_44, g_137_8, e33, l_142 (by decide), b2.2.2.2.2.2.1]
      rfl
    · exact deed_fin hab hRo hT hN hP hI hB hX a3 a2 b3 b2 o1 o4 a4 b4
