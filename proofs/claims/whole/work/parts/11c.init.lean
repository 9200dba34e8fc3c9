def I0 (xs : Nat → Int32) : cM := fun a j => if a = 0 then c_fact j else if a = 1 then c_like j else if a = 2 then xs j else if a = 4 ∧ j = 3 then -1 else if a = 137 ∧ j = 12 then -1 else 0
def b_0 (L : Nat) (xs : Nat → Int32) : List cE := [.inl (0, 7, .inl c_fact), .inl (0, 18, .inl c_like), .inl (0, L, .inl xs)]
def b_all (L : Nat) (xs : Nat → Int32) : List cE := b_0 L xs ++ b_dc 3 ++ b_md 137
theorem c_s0_hl (L : Nat) (xs : Nat → Int32) : c_s0 L xs = hb (b_0 L xs) [] := by
  refine Prod.ext rfl (funext fun k => ?_)
  match k with
  | 0 => rfl
  | 1 => rfl
  | 2 => rfl
  | k + 3 => rfl
def okc (xs : Nat → Int32) : Nat → List cE → List cS → Prop
  | _, [], [] => True
  | k, e :: es, s :: ss => e = c_bd s (I0 xs k) ∧ okc xs (k + 1) es ss
  | _, _, _ => False
theorem okc_at (xs : Nat → Int32) : ∀ (E : List cE) (S : List cS) (n : Nat), okc xs n E S → ∀ i, E[i]? = S[i]?.map (fun s => c_bd s (I0 xs (n + i)))
  | [], [], n, _, i => rfl
  | [], _ :: _, n, h, i => h.elim
  | _ :: _, [], n, h, i => h.elim
  | e :: es, s :: ss, n, h, 0 => by
    rw [List.getElem?_cons_zero, List.getElem?_cons_zero, h.1]
    rfl
  | e :: es, s :: ss, n, h, i + 1 => by
    rw [List.getElem?_cons_succ, List.getElem?_cons_succ, okc_at xs es ss (n + 1) h.2 i, show n + 1 + i = n + (i + 1) by omega]
theorem okc_app (xs : Nat → Int32) : ∀ (E : List cE) (S : List cS) (E2 : List cE) (S2 : List cS) (n m : Nat), okc xs n E S → n + E.length = m → okc xs m E2 S2 → okc xs n (E ++ E2) (S ++ S2)
  | [], [], E2, S2, n, m, _, hm, h2 => by
    have : n = m := hm
    rw [this]
    exact h2
  | [], _ :: _, _, _, n, _, h, _, _ => h.elim
  | _ :: _, [], _, _, n, _, h, _, _ => h.elim
  | e :: es, s :: ss, E2, S2, n, m, h, hm, h2 => ⟨h.1, okc_app xs es ss E2 S2 (n + 1) m h.2 (by rw [← hm, List.length_cons]; omega) h2⟩
theorem b_dcl (n : Nat) : (b_dc n).length = 134 := by rw [b_dc, List.length_append, List.length_cons, b_g0l]; rfl
theorem ok_0 (L : Nat) (xs : Nat → Int32) : okc xs 0 (b_0 L xs) [.inl (0, 7), .inl (0, 18), .inl (0, L)] := ⟨rfl, rfl, rfl, trivial⟩
theorem ok_4 (xs : Nat → Int32) : okc xs 4 (b_tx 4) [.inr (.inr (6, [some 5, none, none, none, none])), .inl (0, 240)] := ⟨rfl, rfl, trivial⟩
theorem ok_6 (xs : Nat → Int32) : okc xs 6 (b_sc 6) [.inr (.inr (5, [some 7, some 8, some 9, some 10, none, none, none, none])), .inl (0, 8), .inl (0, 8), .inl (0, 8), .inl (0, 8)] := ⟨rfl, rfl, rfl, rfl, rfl, trivial⟩
theorem ok_11 (xs : Nat → Int32) : okc xs 11 [.inr (3, [.ref (11 + 1), .int 0, .int 0]), .inl (3, 16, .inr (fun i => if i < 16 then some (11 + 2 + 5 * i) else none))] [.inr (.inr (3, [some 12, none, none])), .inr (.inl (3, 16, fun j => if j < 16 then some (13 + 5 * j) else none))] := ⟨rfl, rfl, trivial⟩
theorem ok_13 (xs : Nat → Int32) : okc xs 13 (b_sc 13) [.inr (.inr (5, [some 14, some 15, some 16, some 17, none, none, none, none])), .inl (0, 8), .inl (0, 8), .inl (0, 8), .inl (0, 8)] := ⟨rfl, rfl, rfl, rfl, rfl, trivial⟩
theorem ok_18 (xs : Nat → Int32) : okc xs 18 (b_sc 18) [.inr (.inr (5, [some 19, some 20, some 21, some 22, none, none, none, none])), .inl (0, 8), .inl (0, 8), .inl (0, 8), .inl (0, 8)] := ⟨rfl, rfl, rfl, rfl, rfl, trivial⟩
theorem ok_23 (xs : Nat → Int32) : okc xs 23 (b_sc 23) [.inr (.inr (5, [some 24, some 25, some 26, some 27, none, none, none, none])), .inl (0, 8), .inl (0, 8), .inl (0, 8), .inl (0, 8)] := ⟨rfl, rfl, rfl, rfl, rfl, trivial⟩
theorem ok_28 (xs : Nat → Int32) : okc xs 28 (b_sc 28) [.inr (.inr (5, [some 29, some 30, some 31, some 32, none, none, none, none])), .inl (0, 8), .inl (0, 8), .inl (0, 8), .inl (0, 8)] := ⟨rfl, rfl, rfl, rfl, rfl, trivial⟩
theorem ok_33 (xs : Nat → Int32) : okc xs 33 (b_sc 33) [.inr (.inr (5, [some 34, some 35, some 36, some 37, none, none, none, none])), .inl (0, 8), .inl (0, 8), .inl (0, 8), .inl (0, 8)] := ⟨rfl, rfl, rfl, rfl, rfl, trivial⟩
theorem ok_38 (xs : Nat → Int32) : okc xs 38 (b_sc 38) [.inr (.inr (5, [some 39, some 40, some 41, some 42, none, none, none, none])), .inl (0, 8), .inl (0, 8), .inl (0, 8), .inl (0, 8)] := ⟨rfl, rfl, rfl, rfl, rfl, trivial⟩
theorem ok_43 (xs : Nat → Int32) : okc xs 43 (b_sc 43) [.inr (.inr (5, [some 44, some 45, some 46, some 47, none, none, none, none])), .inl (0, 8), .inl (0, 8), .inl (0, 8), .inl (0, 8)] := ⟨rfl, rfl, rfl, rfl, rfl, trivial⟩
theorem ok_48 (xs : Nat → Int32) : okc xs 48 (b_sc 48) [.inr (.inr (5, [some 49, some 50, some 51, some 52, none, none, none, none])), .inl (0, 8), .inl (0, 8), .inl (0, 8), .inl (0, 8)] := ⟨rfl, rfl, rfl, rfl, rfl, trivial⟩
theorem ok_53 (xs : Nat → Int32) : okc xs 53 (b_sc 53) [.inr (.inr (5, [some 54, some 55, some 56, some 57, none, none, none, none])), .inl (0, 8), .inl (0, 8), .inl (0, 8), .inl (0, 8)] := ⟨rfl, rfl, rfl, rfl, rfl, trivial⟩
theorem ok_58 (xs : Nat → Int32) : okc xs 58 (b_sc 58) [.inr (.inr (5, [some 59, some 60, some 61, some 62, none, none, none, none])), .inl (0, 8), .inl (0, 8), .inl (0, 8), .inl (0, 8)] := ⟨rfl, rfl, rfl, rfl, rfl, trivial⟩
theorem ok_63 (xs : Nat → Int32) : okc xs 63 (b_sc 63) [.inr (.inr (5, [some 64, some 65, some 66, some 67, none, none, none, none])), .inl (0, 8), .inl (0, 8), .inl (0, 8), .inl (0, 8)] := ⟨rfl, rfl, rfl, rfl, rfl, trivial⟩
theorem ok_68 (xs : Nat → Int32) : okc xs 68 (b_sc 68) [.inr (.inr (5, [some 69, some 70, some 71, some 72, none, none, none, none])), .inl (0, 8), .inl (0, 8), .inl (0, 8), .inl (0, 8)] := ⟨rfl, rfl, rfl, rfl, rfl, trivial⟩
theorem ok_73 (xs : Nat → Int32) : okc xs 73 (b_sc 73) [.inr (.inr (5, [some 74, some 75, some 76, some 77, none, none, none, none])), .inl (0, 8), .inl (0, 8), .inl (0, 8), .inl (0, 8)] := ⟨rfl, rfl, rfl, rfl, rfl, trivial⟩
theorem ok_78 (xs : Nat → Int32) : okc xs 78 (b_sc 78) [.inr (.inr (5, [some 79, some 80, some 81, some 82, none, none, none, none])), .inl (0, 8), .inl (0, 8), .inl (0, 8), .inl (0, 8)] := ⟨rfl, rfl, rfl, rfl, rfl, trivial⟩
theorem ok_83 (xs : Nat → Int32) : okc xs 83 (b_sc 83) [.inr (.inr (5, [some 84, some 85, some 86, some 87, none, none, none, none])), .inl (0, 8), .inl (0, 8), .inl (0, 8), .inl (0, 8)] := ⟨rfl, rfl, rfl, rfl, rfl, trivial⟩
theorem ok_88 (xs : Nat → Int32) : okc xs 88 (b_sc 88) [.inr (.inr (5, [some 89, some 90, some 91, some 92, none, none, none, none])), .inl (0, 8), .inl (0, 8), .inl (0, 8), .inl (0, 8)] := ⟨rfl, rfl, rfl, rfl, rfl, trivial⟩
theorem okp_0 (xs : Nat → Int32) : okc xs 13 (b_s0 11) [] := trivial
def b_t1 : List cS := [] ++ [.inr (.inr (5, [some 14, some 15, some 16, some 17, none, none, none, none])), .inl (0, 8), .inl (0, 8), .inl (0, 8), .inl (0, 8)]
theorem okp_1 (xs : Nat → Int32) : okc xs 13 (b_s1 11) b_t1 := okc_app xs _ _ _ _ 13 13 (okp_0 xs) (by rw [b_sl0]) (ok_13 xs)
def b_t2 : List cS := b_t1 ++ [.inr (.inr (5, [some 19, some 20, some 21, some 22, none, none, none, none])), .inl (0, 8), .inl (0, 8), .inl (0, 8), .inl (0, 8)]
theorem okp_2 (xs : Nat → Int32) : okc xs 13 (b_s2 11) b_t2 := okc_app xs _ _ _ _ 13 18 (okp_1 xs) (by rw [b_sl1]) (ok_18 xs)
def b_t3 : List cS := b_t2 ++ [.inr (.inr (5, [some 24, some 25, some 26, some 27, none, none, none, none])), .inl (0, 8), .inl (0, 8), .inl (0, 8), .inl (0, 8)]
theorem okp_3 (xs : Nat → Int32) : okc xs 13 (b_s3 11) b_t3 := okc_app xs _ _ _ _ 13 23 (okp_2 xs) (by rw [b_sl2]) (ok_23 xs)
def b_t4 : List cS := b_t3 ++ [.inr (.inr (5, [some 29, some 30, some 31, some 32, none, none, none, none])), .inl (0, 8), .inl (0, 8), .inl (0, 8), .inl (0, 8)]
theorem okp_4 (xs : Nat → Int32) : okc xs 13 (b_s4 11) b_t4 := okc_app xs _ _ _ _ 13 28 (okp_3 xs) (by rw [b_sl3]) (ok_28 xs)
def b_t5 : List cS := b_t4 ++ [.inr (.inr (5, [some 34, some 35, some 36, some 37, none, none, none, none])), .inl (0, 8), .inl (0, 8), .inl (0, 8), .inl (0, 8)]
theorem okp_5 (xs : Nat → Int32) : okc xs 13 (b_s5 11) b_t5 := okc_app xs _ _ _ _ 13 33 (okp_4 xs) (by rw [b_sl4]) (ok_33 xs)
def b_t6 : List cS := b_t5 ++ [.inr (.inr (5, [some 39, some 40, some 41, some 42, none, none, none, none])), .inl (0, 8), .inl (0, 8), .inl (0, 8), .inl (0, 8)]
theorem okp_6 (xs : Nat → Int32) : okc xs 13 (b_s6 11) b_t6 := okc_app xs _ _ _ _ 13 38 (okp_5 xs) (by rw [b_sl5]) (ok_38 xs)
def b_t7 : List cS := b_t6 ++ [.inr (.inr (5, [some 44, some 45, some 46, some 47, none, none, none, none])), .inl (0, 8), .inl (0, 8), .inl (0, 8), .inl (0, 8)]
theorem okp_7 (xs : Nat → Int32) : okc xs 13 (b_s7 11) b_t7 := okc_app xs _ _ _ _ 13 43 (okp_6 xs) (by rw [b_sl6]) (ok_43 xs)
def b_t8 : List cS := b_t7 ++ [.inr (.inr (5, [some 49, some 50, some 51, some 52, none, none, none, none])), .inl (0, 8), .inl (0, 8), .inl (0, 8), .inl (0, 8)]
theorem okp_8 (xs : Nat → Int32) : okc xs 13 (b_s8 11) b_t8 := okc_app xs _ _ _ _ 13 48 (okp_7 xs) (by rw [b_sl7]) (ok_48 xs)
def b_t9 : List cS := b_t8 ++ [.inr (.inr (5, [some 54, some 55, some 56, some 57, none, none, none, none])), .inl (0, 8), .inl (0, 8), .inl (0, 8), .inl (0, 8)]
theorem okp_9 (xs : Nat → Int32) : okc xs 13 (b_s9 11) b_t9 := okc_app xs _ _ _ _ 13 53 (okp_8 xs) (by rw [b_sl8]) (ok_53 xs)
def b_t10 : List cS := b_t9 ++ [.inr (.inr (5, [some 59, some 60, some 61, some 62, none, none, none, none])), .inl (0, 8), .inl (0, 8), .inl (0, 8), .inl (0, 8)]
theorem okp_10 (xs : Nat → Int32) : okc xs 13 (b_s10 11) b_t10 := okc_app xs _ _ _ _ 13 58 (okp_9 xs) (by rw [b_sl9]) (ok_58 xs)
def b_t11 : List cS := b_t10 ++ [.inr (.inr (5, [some 64, some 65, some 66, some 67, none, none, none, none])), .inl (0, 8), .inl (0, 8), .inl (0, 8), .inl (0, 8)]
theorem okp_11 (xs : Nat → Int32) : okc xs 13 (b_s11 11) b_t11 := okc_app xs _ _ _ _ 13 63 (okp_10 xs) (by rw [b_sl10]) (ok_63 xs)
def b_t12 : List cS := b_t11 ++ [.inr (.inr (5, [some 69, some 70, some 71, some 72, none, none, none, none])), .inl (0, 8), .inl (0, 8), .inl (0, 8), .inl (0, 8)]
theorem okp_12 (xs : Nat → Int32) : okc xs 13 (b_s12 11) b_t12 := okc_app xs _ _ _ _ 13 68 (okp_11 xs) (by rw [b_sl11]) (ok_68 xs)
def b_t13 : List cS := b_t12 ++ [.inr (.inr (5, [some 74, some 75, some 76, some 77, none, none, none, none])), .inl (0, 8), .inl (0, 8), .inl (0, 8), .inl (0, 8)]
theorem okp_13 (xs : Nat → Int32) : okc xs 13 (b_s13 11) b_t13 := okc_app xs _ _ _ _ 13 73 (okp_12 xs) (by rw [b_sl12]) (ok_73 xs)
def b_t14 : List cS := b_t13 ++ [.inr (.inr (5, [some 79, some 80, some 81, some 82, none, none, none, none])), .inl (0, 8), .inl (0, 8), .inl (0, 8), .inl (0, 8)]
theorem okp_14 (xs : Nat → Int32) : okc xs 13 (b_s14 11) b_t14 := okc_app xs _ _ _ _ 13 78 (okp_13 xs) (by rw [b_sl13]) (ok_78 xs)
def b_t15 : List cS := b_t14 ++ [.inr (.inr (5, [some 84, some 85, some 86, some 87, none, none, none, none])), .inl (0, 8), .inl (0, 8), .inl (0, 8), .inl (0, 8)]
theorem okp_15 (xs : Nat → Int32) : okc xs 13 (b_s15 11) b_t15 := okc_app xs _ _ _ _ 13 83 (okp_14 xs) (by rw [b_sl14]) (ok_83 xs)
def b_t16 : List cS := b_t15 ++ [.inr (.inr (5, [some 89, some 90, some 91, some 92, none, none, none, none])), .inl (0, 8), .inl (0, 8), .inl (0, 8), .inl (0, 8)]
theorem okp_16 (xs : Nat → Int32) : okc xs 13 (b_s16 11) b_t16 := okc_app xs _ _ _ _ 13 88 (okp_15 xs) (by rw [b_sl15]) (ok_88 xs)
theorem ok_93 (xs : Nat → Int32) : okc xs 93 (b_bk 93) [.inr (.inr (0, [some 94, some 95, none])), .inl (0, 15), .inl (0, 15)] := ⟨rfl, rfl, rfl, trivial⟩
theorem ok_97 (xs : Nat → Int32) : okc xs 97 (b_mx 97) [.inr (.inr (2, [some 98, some 99, some 100, some 101, none])), .inl (0, 8), .inl (0, 8), .inl (0, 256), .inl (0, 256)] := ⟨rfl, rfl, rfl, rfl, rfl, trivial⟩
theorem ok_102 (xs : Nat → Int32) : okc xs 102 (b_wt 102) [.inr (.inr (7, [some 103, some 104])), .inl (0, 7), .inr (.inl (4, 8, fun j => if j < 8 then some (105 + j) else none)), .inl (0, 256), .inl (0, 256), .inl (0, 256), .inl (0, 256), .inl (0, 256), .inl (0, 256), .inl (0, 256), .inl (0, 256)] := ⟨rfl, rfl, rfl, rfl, rfl, rfl, rfl, rfl, rfl, rfl, rfl, trivial⟩
theorem ok_113 (xs : Nat → Int32) : okc xs 113 (b_rl 113) [.inr (.inr (4, [some 114, some 115, some 116, some 117, some 118, none, none, none, none, none, none])), .inl (0, 7), .inl (0, 8), .inl (0, 8), .inl (0, 8), .inl (0, 128)] := ⟨rfl, rfl, rfl, rfl, rfl, rfl, trivial⟩
theorem ok_119 (xs : Nat → Int32) : okc xs 119 (b_rl 119) [.inr (.inr (4, [some 120, some 121, some 122, some 123, some 124, none, none, none, none, none, none])), .inl (0, 7), .inl (0, 8), .inl (0, 8), .inl (0, 8), .inl (0, 128)] := ⟨rfl, rfl, rfl, rfl, rfl, rfl, trivial⟩
theorem ok_125 (xs : Nat → Int32) : okc xs 125 (b_im 125) [.inr (.inr (1, [some 126, none, none])), .inr (.inr (5, [some 127, some 128, some 129, some 130, none, none, none, none])), .inl (0, 8), .inl (0, 8), .inl (0, 8), .inl (0, 8)] := ⟨rfl, rfl, rfl, rfl, rfl, rfl, trivial⟩
theorem ok_131 (xs : Nat → Int32) : okc xs 131 (b_im 131) [.inr (.inr (1, [some 132, none, none])), .inr (.inr (5, [some 133, some 134, some 135, some 136, none, none, none, none])), .inl (0, 8), .inl (0, 8), .inl (0, 8), .inl (0, 8)] := ⟨rfl, rfl, rfl, rfl, rfl, rfl, trivial⟩
theorem ok_137a (xs : Nat → Int32) : (.inr (9, [.int 0, .ref 138, .int 0, .ref 139, .ref 140, .ref 141, .int 0, .int 0, .ref 142, .int 0, .ref 143, .int 0, .int (-1), .int 0, .int 0, .int 0, .int 0, .ref 144, .int 0, .ref 145, .ref 146, .ref 147, .int 0, .int 0, .int 0, .int 0, .ref 148, .ref 149, .ref 150, .ref 151, .ref 152, .int 0, .ref 153, .ref 154, .ref 155, .ref 156]) : cE) = c_bd (.inr (.inr (9, [none, some 138, none, some 139, some 140, some 141, none, none, some 142, none, some 143, none, none, none, none, none, none, some 144, none, some 145, some 146, some 147, none, none, none, none, some 148, some 149, some 150, some 151, some 152, none, some 153, some 154, some 155, some 156]))) (I0 xs 137) := by simp [c_bd, c_fv, I0]
theorem ok_137 (xs : Nat → Int32) : okc xs 137 (b_md 137) [.inr (.inr (9, [none, some 138, none, some 139, some 140, some 141, none, none, some 142, none, some 143, none, none, none, none, none, none, some 144, none, some 145, some 146, some 147, none, none, none, none, some 148, some 149, some 150, some 151, some 152, none, some 153, some 154, some 155, some 156])), .inl (0, 7), .inl (0, 8), .inl (0, 8), .inl (0, 8), .inl (0, 36), .inl (0, 240), .inl (0, 7), .inl (0, 8), .inl (0, 8), .inl (0, 8), .inl (0, 576), .inl (0, 36), .inl (0, 256), .inl (1, 256), .inl (0, 2048), .inl (0, 15), .inl (0, 15), .inl (0, 74), .inl (1, 2)] := ⟨ok_137a xs, rfl, rfl, rfl, rfl, rfl, rfl, rfl, rfl, rfl, rfl, rfl, rfl, rfl, rfl, rfl, rfl, rfl, rfl, rfl, trivial⟩
theorem ok_96 (xs : Nat → Int32) : okc xs 96 [.inl (2, 2, .inr (va_up (va_up (fun _ => none) 0 (some (3 + 122))) 1 (some (3 + 128))))] [.inr (.inl (2, 2, fun j => if j < 2 then some (125 + 6 * j) else none))] := ⟨congrArg (fun g => (Sum.inl (2, 2, Sum.inr g) : cE)) (funext fun i => by match i with | 0 => rfl | 1 => rfl | i + 2 => rfl), trivial⟩
theorem ok_3 (L : Nat) (xs : Nat → Int32) : okc xs 3 [.inr (8, [.ref (3 + 1), .ref (3 + 3), .ref (3 + 8), .ref (3 + 90), .ref (3 + 93), .ref (3 + 94), .ref (3 + 99), .ref (3 + 110), .ref (3 + 116), .int 0])] [.inr (.inr (8, [some 4, some 6, some 11, some 93, some 96, some 97, some 102, some 113, some 119, none]))] := ⟨rfl, trivial⟩
set_option maxRecDepth 100000 in
theorem ok_g (xs : Nat → Int32) : okc xs 4 (b_g0 3 (.inl (2, 2, .inr (va_up (va_up (fun _ => none) 0 (some (3 + 122))) 1 (some (3 + 128)))))) (((((((([] ++ [.inr (.inr (6, [some 5, none, none, none, none])), .inl (0, 240)]) ++ [.inr (.inr (5, [some 7, some 8, some 9, some 10, none, none, none, none])), .inl (0, 8), .inl (0, 8), .inl (0, 8), .inl (0, 8)]) ++ ([.inr (.inr (3, [some 12, none, none])), .inr (.inl (3, 16, fun j => if j < 16 then some (13 + 5 * j) else none))] ++ b_t16)) ++ [.inr (.inr (0, [some 94, some 95, none])), .inl (0, 15), .inl (0, 15)]) ++ [.inr (.inl (2, 2, fun j => if j < 2 then some (125 + 6 * j) else none))]) ++ [.inr (.inr (2, [some 98, some 99, some 100, some 101, none])), .inl (0, 8), .inl (0, 8), .inl (0, 256), .inl (0, 256)]) ++ [.inr (.inr (7, [some 103, some 104])), .inl (0, 7), .inr (.inl (4, 8, fun j => if j < 8 then some (105 + j) else none)), .inl (0, 256), .inl (0, 256), .inl (0, 256), .inl (0, 256), .inl (0, 256), .inl (0, 256), .inl (0, 256), .inl (0, 256)]) ++ [.inr (.inr (4, [some 114, some 115, some 116, some 117, some 118, none, none, none, none, none, none])), .inl (0, 7), .inl (0, 8), .inl (0, 8), .inl (0, 8), .inl (0, 128)] ++ [.inr (.inr (4, [some 120, some 121, some 122, some 123, some 124, none, none, none, none, none, none])), .inl (0, 7), .inl (0, 8), .inl (0, 8), .inl (0, 8), .inl (0, 128)]) := by
  have h11 : okc xs 11 (b_ps 11) ([.inr (.inr (3, [some 12, none, none])), .inr (.inl (3, 16, fun j => if j < 16 then some (13 + 5 * j) else none))] ++ b_t16) := okc_app xs _ _ _ _ 11 13 (ok_11 xs) rfl (okp_16 xs)
  have h4 : okc xs 4 (b_d4 3) (((([] ++ [.inr (.inr (6, [some 5, none, none, none, none])), .inl (0, 240)]) ++ [.inr (.inr (5, [some 7, some 8, some 9, some 10, none, none, none, none])), .inl (0, 8), .inl (0, 8), .inl (0, 8), .inl (0, 8)]) ++ ([.inr (.inr (3, [some 12, none, none])), .inr (.inl (3, 16, fun j => if j < 16 then some (13 + 5 * j) else none))] ++ b_t16)) ++ [.inr (.inr (0, [some 94, some 95, none])), .inl (0, 15), .inl (0, 15)]) := by
    refine okc_app xs _ _ _ _ 4 93 (okc_app xs _ _ _ _ 4 11 (okc_app xs _ _ _ _ 4 6 (okc_app xs [] [] _ _ 4 4 trivial rfl (ok_4 xs)) rfl (ok_6 xs)) rfl h11) ?_ (ok_93 xs)
    show 4 + (b_d3 3).length = 93
    rw [b_dl3]
  refine okc_app xs _ _ _ _ 4 119 (okc_app xs _ _ _ _ 4 113 (okc_app xs _ _ _ _ 4 102 (okc_app xs _ _ _ _ 4 97 (okc_app xs _ _ _ _ 4 96 h4 (by rw [b_dl4]) (ok_96 xs)) ?_ (ok_97 xs)) ?_ (ok_102 xs)) ?_ (ok_113 xs)) ?_ (ok_119 xs)
  · rw [List.length_append, b_dl4]; rfl
  · rw [List.length_append, List.length_append, b_dl4]; rfl
  · rw [List.length_append, List.length_append, List.length_append, b_dl4]; rfl
  · rw [List.length_append, List.length_append, List.length_append, List.length_append, b_dl4]; rfl
set_option maxRecDepth 100000 in
theorem ok_all (L : Nat) (xs : Nat → Int32) : okc xs 0 (b_all L xs) (c_shl 113 119 L) := by
  have h3 : okc xs 3 (b_dc 3) ((([.inr (.inr (8, [some 4, some 6, some 11, some 93, some 96, some 97, some 102, some 113, some 119, none]))] ++ (((((((([] ++ [.inr (.inr (6, [some 5, none, none, none, none])), .inl (0, 240)]) ++ [.inr (.inr (5, [some 7, some 8, some 9, some 10, none, none, none, none])), .inl (0, 8), .inl (0, 8), .inl (0, 8), .inl (0, 8)]) ++ ([.inr (.inr (3, [some 12, none, none])), .inr (.inl (3, 16, fun j => if j < 16 then some (13 + 5 * j) else none))] ++ b_t16)) ++ [.inr (.inr (0, [some 94, some 95, none])), .inl (0, 15), .inl (0, 15)]) ++ [.inr (.inl (2, 2, fun j => if j < 2 then some (125 + 6 * j) else none))]) ++ [.inr (.inr (2, [some 98, some 99, some 100, some 101, none])), .inl (0, 8), .inl (0, 8), .inl (0, 256), .inl (0, 256)]) ++ [.inr (.inr (7, [some 103, some 104])), .inl (0, 7), .inr (.inl (4, 8, fun j => if j < 8 then some (105 + j) else none)), .inl (0, 256), .inl (0, 256), .inl (0, 256), .inl (0, 256), .inl (0, 256), .inl (0, 256), .inl (0, 256), .inl (0, 256)]) ++ [.inr (.inr (4, [some 114, some 115, some 116, some 117, some 118, none, none, none, none, none, none])), .inl (0, 7), .inl (0, 8), .inl (0, 8), .inl (0, 8), .inl (0, 128)] ++ [.inr (.inr (4, [some 120, some 121, some 122, some 123, some 124, none, none, none, none, none, none])), .inl (0, 7), .inl (0, 8), .inl (0, 8), .inl (0, 8), .inl (0, 128)])) ++ ([.inr (.inr (1, [some 126, none, none])), .inr (.inr (5, [some 127, some 128, some 129, some 130, none, none, none, none])), .inl (0, 8), .inl (0, 8), .inl (0, 8), .inl (0, 8)] ++ [.inr (.inr (1, [some 132, none, none])), .inr (.inr (5, [some 133, some 134, some 135, some 136, none, none, none, none])), .inl (0, 8), .inl (0, 8), .inl (0, 8), .inl (0, 8)])) : List cS) := by
    refine okc_app xs _ _ _ _ 3 125 (okc_app xs [_] _ _ _ 3 4 (ok_3 L xs) rfl (ok_g xs)) ?_ (okc_app xs _ _ _ _ 125 131 (ok_125 xs) rfl (ok_131 xs))
    show 3 + (b_g0 3 _).length.succ = 125
    rw [b_g0l]
  have h := okc_app xs _ _ _ _ 0 137 (okc_app xs _ _ _ _ 0 3 (ok_0 L xs) rfl h3) (by rw [List.length_append, b_dcl]; rfl) (ok_137 xs)
  exact h
set_option maxRecDepth 100000 in
theorem c_shl_len (L : Nat) : (c_shl 113 119 L).length = 157 := rfl
theorem b_all_len (L : Nat) (xs : Nat → Int32) : (b_all L xs).length = 157 := by rw [b_all, List.length_append, List.length_append, b_dcl]; rfl
theorem c_ini_hp (L : Nat) (xs : Nat → Int32) : hl (b_all L xs) = hp 113 119 L (I0 xs) := by
  refine Prod.ext (b_all_len L xs) (funext fun k => ?_)
  show (b_all L xs).getD k cJ = (if k < 157 then c_bd (c_sh 113 119 L k) (I0 xs k) else cJ)
  rw [List.getD_eq_getElem?_getD, okc_at xs _ _ 0 (ok_all L xs) k, Nat.zero_add]
  by_cases hk : k < 157
  · rw [if_pos hk]
    have : (c_shl 113 119 L)[k]? = some (c_sh 113 119 L k) := by
      unfold c_sh
      rw [List.getD_eq_getElem?_getD, List.getElem?_eq_getElem (by rw [c_shl_len]; exact hk)]
      rfl
    rw [this]
    rfl
  · rw [if_neg hk, List.getElem?_eq_none (by rw [c_shl_len]; omega)]
    rfl
theorem law_ini (L : Nat) (xs : Nat → Int32) : pL_law 2 (c_s0 L xs) = fL_law_18 c_fu 2 3 137 0 (hp 113 119 L (I0 xs)) := by
  unfold pL_law
  rw [c_s0_hl]
  refine (d_sub 0 b_X9 rfl).trans ?_
  rw [List.nil_append]
  refine (d_sub 134 b_X10 (b_dcl _)).trans ?_
  rw [← c_ini_hp]
  show fL_law_18 c_fu 2 3 137 0 (hl (b_0 L xs ++ (b_dc 3 ++ b_md 137))) = fL_law_18 c_fu 2 3 137 0 (hl (b_0 L xs ++ b_dc 3 ++ b_md 137))
  rw [List.append_assoc]
