/-! READER: laws on both sides -/
theorem up4 (f : Nat → Int32) (b : Nat) (v0 v1 v2 v3 : Int32) : upd (upd (upd (upd f (b + 0) v0) (b + 1) v1) (b + 2) v2) (b + 3) v3 (b + 0) = v0 ∧ upd (upd (upd (upd f (b + 0) v0) (b + 1) v1) (b + 2) v2) (b + 3) v3 (b + 1) = v1 ∧ upd (upd (upd (upd f (b + 0) v0) (b + 1) v1) (b + 2) v2) (b + 3) v3 (b + 2) = v2 ∧ upd (upd (upd (upd f (b + 0) v0) (b + 1) v1) (b + 2) v2) (b + 3) v3 (b + 3) = v3 ∧ ∀ k, k < b → upd (upd (upd (upd f (b + 0) v0) (b + 1) v1) (b + 2) v2) (b + 3) v3 k = f k := by
  refine ⟨?_, ?_, ?_, ?_, fun k hk => ?_⟩
  · rw [upd_ne (by omega), upd_ne (by omega), upd_ne (by omega), upd_same]
  · rw [upd_ne (by omega), upd_ne (by omega), upd_same]
  · rw [upd_ne (by omega), upd_same]
  · rw [upd_same]
  · rw [upd_ne (by omega), upd_ne (by omega), upd_ne (by omega), upd_ne (by omega)]
theorem rl6_s (n : Nat) (R S : zSt) (x y : Int32) : fR_readLaw_l6 (n + 1) R S x y = fR_readLaw_l6b (fun v0 v1 v2 v3 => fR_readLaw_l6 n v0 v1 v2 v3) R S x y := rfl
theorem rl56_s (n : Nat) (M : zSt) (x y : Int32) : fM_readLaw_l56 (n + 1) M x y = fM_readLaw_l56b (fun v0 v1 v2 => fM_readLaw_l56 n v0 v1 v2) M x y := rfl
theorem law_it {R M S : zSt} {n l : Nat} (j j' f f' : Nat) (hj' : j' = j + 1) (h : RdR R M n) (hl : l < 4) (hj : j < 4) : ∃ v v' R' M', fR_readLaw_l6 (f + 1) R S (nI l) (nI j) = fR_readLaw_l6 f R' (zsA S 3 (l * 4 + j) v) (nI l) (nI j') ∧ fM_readLaw_l56 (f' + 1) M (nI (8 * l)) (nI j) = fM_readLaw_l56 f' (zsA M' 14 (8 * l + j) v') (nI (8 * l)) (nI j') ∧ RdR R' (zsA M' 14 (8 * l + j) v') n ∧ (∀ k, zA M' k = zA M k) ∧ Fr R R' M (zsA M' 14 (8 * l + j) v') ∧ (zI R' 2 = nI 0 → v = v') := by
  subst hj'
  obtain ⟨v, v', R', M', a1, b1, c1, d1, e1, g1⟩ := word_sim (i := 1) (W := w_W1) 7305070 1651471464 (-1) (-1) (-1) [-1, -1, -1] (fun hn hk => choice_1 hn hk) w_ok1 (by decide) (by decide) (by decide +kernel) h
  have hj4 : ¬ 4 ≤ j := by omega
  refine ⟨v, v', R', M', ?_, ?_, c1.setA 14 _ _ (by omega), d1, e1.setA 14 _ _, fun z => ?_⟩
  · rw [rl6_s]
    simp (disch := omega) only [fR_readLaw_l6b, li0, li1, li2, li3, li4, li5, li6, li7, li8, li9, li10, li12, li13, li14, li16, li20, li21, li22, li23, li26, li30, li32, li40, li48, li50, li57, li59, li97, li99, li100, li122, li128, li180, li320, li500, li999, nI_add, pk_mul, subN, clampN, zg_ix, nlt, nle, neq, zn_eq, bind_s, ↓reduceIte, Nat.reduceAdd, Nat.reduceMul, Nat.reduceSub, Nat.reduceLeDiff, Nat.reduceEqDiff, Nat.add_zero, Nat.zero_add, Nat.reduceLT, Nat.mul_zero, hj4, a1]
  · rw [rl56_s]
    simp (disch := omega) only [fM_readLaw_l56b, li0, li1, li2, li3, li4, li5, li6, li7, li8, li9, li10, li12, li13, li14, li16, li20, li21, li22, li23, li26, li30, li32, li40, li48, li50, li57, li59, li97, li99, li100, li122, li128, li180, li320, li500, li999, nI_add, pk_mul, subN, clampN, zg_ix, nlt, nle, neq, zn_eq, bind_s, ↓reduceIte, Nat.reduceAdd, Nat.reduceMul, Nat.reduceSub, Nat.reduceLeDiff, Nat.reduceEqDiff, Nat.add_zero, Nat.zero_add, Nat.reduceLT, Nat.mul_zero, hj4, b1]
  · obtain ⟨k, _, k1, k2⟩ := g1 z
    rw [k1, k2]
theorem law_tail {R M S : zSt} {n l : Nat} (f f' : Nat) (h : RdR R M n) (hl : l < 4) : ∃ v4 v5 v6 v7 w4 w5 w6 w7 R' Mx, fR_readLaw_l6 (f + 1) R S (nI l) (nI 4) = some (R', zsA (zsA (zsA (zsA S 4 l v4) 5 l v5) 6 l v6) 7 l v7) ∧ fM_readLaw_l56 (f' + 1) M (nI (8 * l)) (nI 4) = some (zsI Mx 11 (zI Mx 11 + nI 1)) ∧ RdR R' Mx n ∧ Fr R R' M Mx ∧ zA Mx 14 = upd (upd (upd (upd (zA M 14) (8 * l + 4) w4) (8 * l + 5) w5) (8 * l + 6) w6) (8 * l + 7) w7 ∧ (∀ k, k ≠ 14 → zA Mx k = zA M k) ∧ (zI R' 2 = nI 0 → (∃ k, k < 2 ∧ v4 = nI k ∧ w4 = nI k) ∧ (∃ k, k < 5 ∧ v5 = nI k ∧ w5 = nI k) ∧ (∃ k, k < 2 ∧ v6 = nI k ∧ w6 = nI k) ∧ ∃ k, k ≤ 100 ∧ v7 = nI k ∧ w7 = nI k) := by
  obtain ⟨v4, w4, R1, M1, a1, b1, c1, d1, e1, g1⟩ := word_sim (i := 2) (W := w_W2) 1836020596 1651471464 (-1) (-1) (-1) [-1, -1, -1] (fun hn hk => choice_2 hn hk) w_ok2 (by decide) (by decide) (by decide +kernel) h
  obtain ⟨v5, w5, R2, M2, a2, b2, c2, d2, e2, g2⟩ := word_sim (i := 3) (W := w_W3) 1937075571 482671228019 512970880104 1818588019 1836020325 [] (fun hn hk => choice_3 hn hk) w_ok3 (by decide) (by decide) (by decide +kernel) (c1.setA 14 (8 * l + 4) w4 (by omega))
  obtain ⟨v6, w6, R3, M3, a3, b3, c3, d3, e3, g3⟩ := word_sim (i := 4) (W := w_W4) 495873784179 6384748 (-1) (-1) (-1) [-1, -1, -1] (fun hn hk => choice_4 hn hk) w_ok4 (by decide) (by decide) (by decide +kernel) (c2.setA 14 (8 * l + 5) w5 (by omega))
  obtain ⟨v7, w7, R4, M4, a4, b4, c4, d4, e4, g4⟩ := num_sim (nI 0) (nI 100) (nI 0) (nI 100) (c3.setA 14 (8 * l + 6) w6 (by omega)) (fun _ => ⟨rfl, rfl⟩)
  obtain ⟨R5, M5, a5, b5, c5, d5, e5⟩ := semi_sim (c4.setA 14 (8 * l + 7) w7 (by omega))
  have E4 := (e4.setA 14 (8 * l + 7) w7).trans e5
  have E3 := (e3.setA 14 (8 * l + 6) w6).trans E4
  have E2 := (e2.setA 14 (8 * l + 5) w5).trans E3
  have E1 := (e1.setA 14 (8 * l + 4) w4).trans E2
  refine ⟨v4, v5, v6, v7, w4, w5, w6, w7, R5, M5, ?_, ?_, c5, E1, ?_, fun k hk => ?_, fun z => ?_⟩
  · rw [rl6_s]
    simp (disch := omega) only [fR_readLaw_l6b, li0, li1, li2, li3, li4, li5, li6, li7, li8, li9, li10, li12, li13, li14, li16, li20, li21, li22, li23, li26, li30, li32, li40, li48, li50, li57, li59, li97, li99, li100, li122, li128, li180, li320, li500, li999, nI_add, pk_mul, subN, clampN, zg_ix, nlt, nle, neq, zn_eq, bind_s, ↓reduceIte, Nat.reduceAdd, Nat.reduceMul, Nat.reduceSub, Nat.reduceLeDiff, Nat.reduceEqDiff, Nat.add_zero, Nat.zero_add, Nat.reduceLT, Nat.mul_zero, a1, a2, a3, a4, a5]
  · rw [rl56_s]
    simp (disch := omega) only [fM_readLaw_l56b, li0, li1, li2, li3, li4, li5, li6, li7, li8, li9, li10, li12, li13, li14, li16, li20, li21, li22, li23, li26, li30, li32, li40, li48, li50, li57, li59, li97, li99, li100, li122, li128, li180, li320, li500, li999, nI_add, pk_mul, subN, clampN, zg_ix, nlt, nle, neq, zn_eq, bind_s, ↓reduceIte, Nat.reduceAdd, Nat.reduceMul, Nat.reduceSub, Nat.reduceLeDiff, Nat.reduceEqDiff, Nat.add_zero, Nat.zero_add, Nat.reduceLT, Nat.mul_zero, b1, b2, b3, b4, b5]
  · rw [d5, show zA (zsA M4 14 (8 * l + 7) w7) 14 = upd (zA M4 14) (8 * l + 7) w7 from rfl, d4, show zA (zsA M3 14 (8 * l + 6) w6) 14 = upd (zA M3 14) (8 * l + 6) w6 from rfl, d3, show zA (zsA M2 14 (8 * l + 5) w5) 14 = upd (zA M2 14) (8 * l + 5) w5 from rfl, d2, show zA (zsA M1 14 (8 * l + 4) w4) 14 = upd (zA M1 14) (8 * l + 4) w4 from rfl, d1]
  · rw [d5, zA_zsA, if_neg hk, d4, zA_zsA, if_neg hk, d3, zA_zsA, if_neg hk, d2, zA_zsA, if_neg hk, d1]
  · have z4 := E4.2.2.2.1 z
    have z3 := E3.2.2.2.1 z
    have z2 := E2.2.2.2.1 z
    refine ⟨g1 z2, g2 z3, ?_, ?_⟩
    · exact g3 (e4.2.2.2.1 (e5.2.2.2.1 z))
    · obtain ⟨k, k0, k1, k2, k3, k4⟩ := g4 (e5.2.2.2.1 z)
      refine ⟨k, ?_, k1, k2⟩
      rw [nle (by omega) (by omega)] at k4
      exact k4
theorem law_body {R M : zSt} {n l : Nat} (S : zSt) (h : RdR R M n) (hl : l < 4) : ∃ R' S' Mx, fR_readLaw_l6 zF R S (nI l) (nI 0) = some (R', S') ∧ fM_readLaw_l56 zF M (nI (8 * l)) (nI 0) = some (zsI Mx 11 (zI Mx 11 + nI 1)) ∧ RdR R' Mx n ∧ Fr R R' M Mx ∧ (∀ k, k ≠ 14 → zA Mx k = zA M k) ∧ (∀ k, zI S' k = zI S k) ∧ (zI R' 2 = nI 0 → LawR S' (zA Mx 14) l) ∧ (∀ i, i < l → LawR S (zA M 14) i → LawR S' (zA Mx 14) i) := by
  obtain ⟨v0, w0, R0, M0, a0, b0, c0, d0, e0, g0⟩ := law_it (S := S) 0 1 999 999 rfl h hl (by omega)
  obtain ⟨v1, w1, R1, M1, a1, b1, c1, d1, e1, g1⟩ := law_it (S := zsA S 3 (l * 4 + 0) v0) 1 2 998 998 rfl c0 hl (by omega)
  obtain ⟨v2, w2, R2, M2, a2, b2, c2, d2, e2, g2⟩ := law_it (S := zsA (zsA S 3 (l * 4 + 0) v0) 3 (l * 4 + 1) v1) 2 3 997 997 rfl c1 hl (by omega)
  obtain ⟨v3, w3, R3, M3, a3, b3, c3, d3, e3, g3⟩ := law_it (S := zsA (zsA (zsA S 3 (l * 4 + 0) v0) 3 (l * 4 + 1) v1) 3 (l * 4 + 2) v2) 3 4 996 996 rfl c2 hl (by omega)
  obtain ⟨v4, v5, v6, v7, w4, w5, w6, w7, R4, Mx, a4, b4, c4, e4, d4, k4, g4⟩ := law_tail (S := zsA (zsA (zsA (zsA S 3 (l * 4 + 0) v0) 3 (l * 4 + 1) v1) 3 (l * 4 + 2) v2) 3 (l * 4 + 3) v3) 995 995 c3 hl
  have E3 := e3.trans e4
  have E2 := e2.trans E3
  have E1 := e1.trans E2
  have E0 := e0.trans E1
  have m14 : zA Mx 14 = upd (upd (upd (upd (upd (upd (upd (upd (zA M 14) (8 * l + 0) w0) (8 * l + 1) w1) (8 * l + 2) w2) (8 * l + 3) w3) (8 * l + 4) w4) (8 * l + 5) w5) (8 * l + 6) w6) (8 * l + 7) w7 := by
    rw [d4, show zA (zsA M3 14 (8 * l + 3) w3) 14 = upd (zA M3 14) (8 * l + 3) w3 from rfl, d3, show zA (zsA M2 14 (8 * l + 2) w2) 14 = upd (zA M2 14) (8 * l + 2) w2 from rfl, d2, show zA (zsA M1 14 (8 * l + 1) w1) 14 = upd (zA M1 14) (8 * l + 1) w1 from rfl, d1, show zA (zsA M0 14 (8 * l + 0) w0) 14 = upd (zA M0 14) (8 * l + 0) w0 from rfl, d0]
  have s4 := up4 (zA S 3) (l * 4) v0 v1 v2 v3
  have u4 := up4 (zA M 14) (8 * l) w0 w1 w2 w3
  refine ⟨R4, zsA (zsA (zsA (zsA (zsA (zsA (zsA (zsA S 3 (l * 4 + 0) v0) 3 (l * 4 + 1) v1) 3 (l * 4 + 2) v2) 3 (l * 4 + 3) v3) 4 l v4) 5 l v5) 6 l v6) 7 l v7, Mx, ?_, ?_, c4, E0, fun k hk => ?_, fun _ => rfl, fun z => ?_, fun i hi hL => ?_⟩
  · show fR_readLaw_l6 (999 + 1) R S (nI l) (nI 0) = _
    rw [a0, a1, a2, a3, a4]
  · show fM_readLaw_l56 (999 + 1) M (nI (8 * l)) (nI 0) = _
    rw [b0, b1, b2, b3, b4]
  · rw [k4 k hk, zA_zsA, if_neg hk, d3, zA_zsA, if_neg hk, d2, zA_zsA, if_neg hk, d1, zA_zsA, if_neg hk, d0]
  · obtain ⟨⟨k4, p4, q4, r4⟩, ⟨k5, p5, q5, r5⟩, ⟨k6, p6, q6, r6⟩, ⟨k7, p7, q7, r7⟩⟩ := g4 z
    have z3 := e4.2.2.2.1 z
    have z2 := E3.2.2.2.1 z
    have z1 := E2.2.2.2.1 z
    have z0 := E1.2.2.2.1 z
    have t0 := g0 z0
    have t1 := g1 z1
    have t2 := g2 z2
    have t3 := g3 z3
    refine ⟨k4, k5, k7, by omega, by omega, p7, fun w hw => ?_, ⟨?_, ?_⟩, ⟨?_, ?_⟩, ?_, ⟨?_, ?_⟩⟩
    · rw [Nat.mul_comm 4 l, m14]
      show upd (upd (upd (upd (zA S 3) (l * 4 + 0) v0) (l * 4 + 1) v1) (l * 4 + 2) v2) (l * 4 + 3) v3 (l * 4 + w) = _
      have w4 : w = 0 ∨ w = 1 ∨ w = 2 ∨ w = 3 := by omega
      rcases w4 with rfl | rfl | rfl | rfl
      · rw [s4.1, upd_ne (by omega), upd_ne (by omega), upd_ne (by omega), upd_ne (by omega), u4.1]; exact t0
      · rw [s4.2.1, upd_ne (by omega), upd_ne (by omega), upd_ne (by omega), upd_ne (by omega), u4.2.1]; exact t1
      · rw [s4.2.2.1, upd_ne (by omega), upd_ne (by omega), upd_ne (by omega), upd_ne (by omega), u4.2.2.1]; exact t2
      · rw [s4.2.2.2.1, upd_ne (by omega), upd_ne (by omega), upd_ne (by omega), upd_ne (by omega), u4.2.2.2.1]; exact t3
    · show upd (zA S 4) l v4 l = _
      rw [upd_same, q4]
    · rw [m14, upd_ne (by omega), upd_ne (by omega), upd_ne (by omega), upd_same, r4]
    · show upd (zA S 5) l v5 l = _
      rw [upd_same, q5]
    · rw [m14, upd_ne (by omega), upd_ne (by omega), upd_same, r5]
    · show upd (zA S 6) l v6 l = _
      rw [m14, upd_same, upd_ne (by omega), upd_same, q6, r6]
    · show upd (zA S 7) l v7 l = _
      rw [upd_same, q7]
    · rw [m14, upd_same, r7]
  · obtain ⟨m, o, hu, h1, h2, h3, h4, ⟨h5, h6⟩, ⟨h7, h8⟩, h9, h10, h11⟩ := hL
    have uu : ∀ k, k < 8 * l → zA Mx 14 k = zA M 14 k := by
      intro k hk
      rw [m14, upd_ne (by omega), upd_ne (by omega), upd_ne (by omega), upd_ne (by omega), u4.2.2.2.2 k hk]
    refine ⟨m, o, hu, h1, h2, h3, fun w hw => ?_, ⟨?_, ?_⟩, ⟨?_, ?_⟩, ?_, ⟨?_, ?_⟩⟩
    · rw [uu _ (by omega)]
      show upd (upd (upd (upd (zA S 3) (l * 4 + 0) v0) (l * 4 + 1) v1) (l * 4 + 2) v2) (l * 4 + 3) v3 (4 * i + w) = _
      rw [s4.2.2.2.2 _ (by omega)]
      exact h4 w hw
    · show upd (zA S 4) l v4 i = _
      rw [upd_ne (by omega), h5]
    · rw [uu _ (by omega), h6]
    · show upd (zA S 5) l v5 i = _
      rw [upd_ne (by omega), h7]
    · rw [uu _ (by omega), h8]
    · show upd (zA S 6) l v6 i = _
      rw [upd_ne (by omega), uu _ (by omega), h9]
    · show upd (zA S 7) l v7 i = _
      rw [upd_ne (by omega), h10]
    · rw [uu _ (by omega), h11]
def LwF (R R' S S' M M' : zSt) : Prop := (∀ k, zA R' k = zA R k) ∧ zI R' 1 = zI R 1 ∧ (∀ k, k ≠ 0 → zI S' k = zI S k) ∧ (∀ k, k ≠ 14 → zA M' k = zA M k) ∧ (∀ k, k ≠ 11 → k < 20 ∨ 25 < k → zI M' k = zI M k)
theorem LwF.trans {A B C S T U X Y Z : zSt} (h : LwF A B S T X Y) (g : LwF B C T U Y Z) : LwF A C S U X Z := ⟨fun k => (g.1 k).trans (h.1 k), g.2.1.trans h.2.1, fun k a => (g.2.2.1 k a).trans (h.2.2.1 k a), fun k a => (g.2.2.2.1 k a).trans (h.2.2.2.1 k a), fun k a b => (g.2.2.2.2 k a b).trans (h.2.2.2.2 k a b)⟩
theorem rls_s (n : Nat) (R S : zSt) (x : Int32) : fR_readLaws_l16 (n + 1) R S x = fR_readLaws_l16b (fun v0 v1 v2 => fR_readLaws_l16 n v0 v1 v2) R S x := rfl
theorem lf51_s (n : Nat) (M : zSt) : fM_life_l51 (n + 1) M = fM_life_l51b (fun v0 => fM_life_l51 n v0) M := rfl
theorem isLaw {R M : zSt} {n s h : Nat} (hn : n ≤ 500) (hk : TkR R M n s h) (m24 : zI M 24 = nI 0) : (w_tok M s h = [119, 97, 108] ∧ fR_choice R 0 = some (nI 0) ∧ fM_word M = some 7102839) ∨ (¬ w_tok M s h = [119, 97, 108] ∧ fR_choice R 0 = some (-1) ∧ ∃ v, fM_word M = some v ∧ ¬ v = 7102839) := by
  have ec := choice_0 hn hk
  have ew := word_0 hn hk m24
  have wi := w_is (w_tok_let hk) (w_ok0 [119, 97, 108] (by decide)).1 (by decide) (by decide)
  have e7 : lN (w_pk [119, 97, 108]) = 7102839 := by decide
  rw [e7] at wi
  by_cases z : w_tok M s h = [119, 97, 108]
  · left
    refine ⟨z, ?_, ?_⟩
    · rw [ec, z]; rfl
    · rw [ew, wi.mpr z]
  · right
    refine ⟨z, ?_, _, ew, fun y => z (wi.mp y)⟩
    rw [ec]
    show some (if w_tok M s h = [119, 97, 108] then nI 0 else -1) = _
    rw [if_neg z]
theorem b41_eq {M M1 : zSt} {q : Nat} (t0 : Int32) (hm : fM_must M t0 = some M1) (m11 : zI M1 11 = nI q) (hq : q ≤ 4) : fM_readLaw_b41 M t0 = fM_readLaw_l56 zF M1 (nI (8 * (q % 4))) (nI 0) := by
  unfold fM_readLaw_b41
  rw [hm, bind_s, zg_t (by decide), m11, zn_eq, li8, li4, li0, pk_rem (by omega) (by omega) (by omega), pk_mul]
theorem b41_bad {R M : zSt} {n q : Nat} (t0 : Int32) (h : RdR R M n) (r2 : ¬ zI R 2 = nI 0) (m11 : zI M 11 = nI q) (hq : q ≤ 4) : ∃ M', fM_readLaw_b41 M t0 = some M' ∧ RdR R M' n ∧ (∀ k, k ≠ 14 → zA M' k = zA M k) ∧ (∀ k, k ≠ 11 → k < 20 ∨ 25 < k → zI M' k = zI M k) := by
  have m24 : ¬ zI M 24 = nI 0 := by rw [← h.flag]; exact r2
  obtain ⟨R', S', Mx, a1, a2, a3, a4, a5, _⟩ := law_body (l := q % 4) zs0 h (by omega)
  obtain ⟨e1, e2, e3⟩ := a4.2.2.2.2 r2
  subst e1
  refine ⟨_, ?_, a3.congr (M' := zsI Mx 11 (zI Mx 11 + nI 1)) rfl (fun k h1 h2 => ?_), fun k hk => a5 k hk, fun k h1 h2 => ?_⟩
  · rw [b41_eq t0 (must_bad t0 m24) m11 hq]
    exact a2
  · simp only [zI_zsI]
    rw [if_neg (by omega)]
  · simp only [zI_zsI]
    rw [if_neg h1]
    exact a4.2.2.1 k h2
theorem law_step {R M S : zSt} {n l s h : Nat} (f : Nat) (hR : RdR R M n) (r2 : zI R 2 = nI 0) (hk : TkR R M n s h) (ht : w_tok M s h = [119, 97, 108]) (hl : l < 4) (s0 : zI S 0 = nI l) (m11 : zI M 11 = nI l) (hL : ∀ i, i < l → LawR S (zA M 14) i) : ∃ R1 S1 M1, fR_readLaws_l16 (f + 1) R S (nI l) = fR_readLaws_l16 f R1 S1 (nI (l + 1)) ∧ fM_readLaw M = some M1 ∧ RdR R1 M1 n ∧ zI S1 0 = nI (l + 1) ∧ zI M1 11 = nI (l + 1) ∧ (zI R1 2 = nI 0 → ∀ i, i < l + 1 → LawR S1 (zA M1 14) i) ∧ LwF R R1 S S1 M M1 := by
  have hn : n ≤ 500 := hR.1.2.1
  have m24 : zI M 24 = nI 0 := hR.flag.symm.trans r2
  have r2' : zI R 2 = 0 := r2
  rcases isLaw hn hk m24 with ⟨_, ec, ew⟩ | ⟨z, _⟩
  · obtain ⟨Ra, Ma, f1, f2, f3, f4, f5, f6⟩ := step_rd hR r2
    have ma : zI Ma 11 = nI l := by rw [f6.2.2.1 11 (by omega)]; exact m11
    obtain ⟨R', S', Mx, a1, a2, a3, a4, a5, a6, a7, a8⟩ := law_body (l := l) S f3 hl
    have mx : zI Mx 11 = nI l := by rw [a4.2.2.1 11 (by omega)]; exact ma
    rw [mx, nI_add] at a2
    have e2 : zI S' 0 = nI l := by rw [a6]; exact s0
    refine ⟨R', zsI S' 0 (nI (l + 1)), zsI Mx 11 (nI (l + 1)), ?_, ?_, a3.congr rfl (fun k h1 h2 => ?_), rfl, rfl, fun z i hi => ?_, ⟨fun k => (a4.1 k).trans (f6.1 k), a4.2.1.trans f6.2.1, fun k hk => ?_, fun k hk => (a5 k hk).trans (f5 k), fun k h1 h2 => ?_⟩⟩
    · rw [rls_s]
      unfold fR_readLaws_l16b
      rw [if_neg (by rw [li4, nlt (by omega) (by omega)]; omega), if_pos r2', ec, bind_s, if_pos li0.symm, s0, if_pos (by rw [li4, nlt (by omega) (by omega)]; omega)]
      unfold fR_readLaw
      rw [f1, bind_s, li0, a1, bind_s, zn_eq, zn_eq, e2, nI_1]
    · unfold fM_readLaw fM_readLaw_b24
      rw [ew, bind_s, if_pos rfl, m11, if_neg (by rw [li4, neq (by omega) (by omega)]; omega), bind_s, if_pos rfl, b41_eq 1 (must_1 m24 f2) ma (by omega), Nat.mod_eq_of_lt hl]
      exact a2
    · simp only [zI_zsI]
      rw [if_neg (by omega)]
    · by_cases y : i = l
      · subst y
        exact a7 z
      · refine a8 i (by omega) ?_
        rw [f5]
        exact hL i (by omega)
    · simp only [zI_zsI]
      rw [if_neg hk]
      exact a6 k
    · simp only [zI_zsI]
      rw [if_neg h1]
      exact (a4.2.2.1 k h2).trans (f6.2.2.1 k h2)
  · exact absurd ht z
theorem laws_bad {R M S : zSt} {n l : Nat} (f f' : Nat) (hl : l ≤ 5) (hR : RdR R M n) (r2 : ¬ zI R 2 = nI 0) : fR_readLaws_l16 (f + 1) R S (nI l) = some (R, S) ∧ fM_life_l51 (f' + 1) M = fM_life_l69 zF M := by
  have m24 : ¬ zI M 24 = nI 0 := by rw [← hR.flag]; exact r2
  have r2' : ¬ zI R 2 = 0 := r2
  obtain ⟨hT, h19, ⟨s, hh, hk⟩, hf⟩ := hR
  refine ⟨?_, ?_⟩
  · rw [rls_s]
    unfold fR_readLaws_l16b
    rw [if_neg r2', ite_self]
  · rw [lf51_s]
    unfold fM_life_l51b
    rw [word_b hT.2.1 hk m24, bind_s, if_neg (by decide)]
theorem laws_sim {n : Nat} : ∀ (d l f f' : Nat) (R S M : zSt), l + d = 4 → d + 2 ≤ f → d + 2 ≤ f' → RdR R M n → zI S 0 = nI l → zI M 11 = nI l → (zI R 2 = nI 0 → ∀ i, i < l → LawR S (zA M 14) i) → ∃ R' S' M' l', fR_readLaws_l16 f R S (nI l) = some (R', S') ∧ fM_life_l51 f' M = fM_life_l69 zF M' ∧ RdR R' M' n ∧ (zI R' 2 = nI 0 → l ≤ l' ∧ l' ≤ 4 ∧ zI S' 0 = nI l' ∧ zI M' 11 = nI l' ∧ ∀ i, i < l' → LawR S' (zA M' 14) i) ∧ LwF R R' S S' M M' := by
  have fin : ∀ (l f f' : Nat) (R S M : zSt), l ≤ 4 → RdR R M n → zI S 0 = nI l → zI M 11 = nI l → (zI R 2 = nI 0 → ∀ i, i < l → LawR S (zA M 14) i) → fR_readLaws_l16 f R S (nI l) = some (R, S) → fM_life_l51 f' M = fM_life_l69 zF M → ∃ R' S' M' l', fR_readLaws_l16 f R S (nI l) = some (R', S') ∧ fM_life_l51 f' M = fM_life_l69 zF M' ∧ RdR R' M' n ∧ (zI R' 2 = nI 0 → l ≤ l' ∧ l' ≤ 4 ∧ zI S' 0 = nI l' ∧ zI M' 11 = nI l' ∧ ∀ i, i < l' → LawR S' (zA M' 14) i) ∧ LwF R R' S S' M M' := by
    intro l f f' R S M hl hR s0 m11 hL e1 e2
    exact ⟨R, S, M, l, e1, e2, hR, fun z => ⟨Nat.le_refl _, hl, s0, m11, hL z⟩, ⟨fun _ => rfl, rfl, fun _ _ => rfl, fun _ _ => rfl, fun _ _ _ => rfl⟩⟩
  intro d
  induction d with
  | zero =>
    intro l f f' R S M hd hf hf' hR s0 m11 hL
    obtain ⟨m, rfl⟩ : ∃ m, f = m + 1 + 1 := ⟨f - 2, by omega⟩
    obtain ⟨m', rfl⟩ : ∃ m, f' = m + 1 + 1 := ⟨f' - 2, by omega⟩
    have hl4 : l = 4 := by omega
    subst hl4
    by_cases r2 : zI R 2 = nI 0
    · have r2' : zI R 2 = 0 := r2
      have m24 : zI M 24 = nI 0 := hR.flag.symm.trans r2
      have hR' := hR
      obtain ⟨hT, h19, ⟨s, hh, hk⟩, hf⟩ := hR'
      rcases isLaw hT.2.1 hk m24 with ⟨_, ec, ew⟩ | ⟨z, ec, v, ew, hv⟩
      · obtain ⟨Ra, Ma, f1, f2, f3, f4, f5, f6⟩ := fail_rd hR r2 3 (by omega)
        have f1' : fR_fail R 3 = some Ra := f1
        have f2' : fM_bad M 3 = some Ma := f2
        have g4 : ¬ zI Ma 24 = nI 0 := by rw [← f3.flag]; exact f4
        have ma : zI Ma 11 = nI 4 := by rw [f6.2.2.1 11 (by omega)]; exact m11
        obtain ⟨M', b1, b2, b3, b4⟩ := b41_bad 0 f3 f4 ma (by omega)
        obtain ⟨c1, c2⟩ := laws_bad (S := S) (l := 5) m m' (by omega) b2 f4
        refine ⟨Ra, S, M', 4, ?_, ?_, b2, fun z => absurd z f4, ⟨f6.1, f6.2.1, fun _ _ => rfl, fun k hk => (b3 k hk).trans (f5 k), fun k h1 h2 => (b4 k h1 h2).trans (f6.2.2.1 k h2)⟩⟩
        · rw [← c1, rls_s]
          unfold fR_readLaws_l16b
          rw [if_neg (by decide), if_pos r2', ec, bind_s, if_pos li0.symm, s0, if_neg (by decide), f1', bind_s, zn_eq, nI_1]
        · have wa : fM_word Ma = some 0 := by
            obtain ⟨tT, _, ⟨s2, h2, k2⟩, _⟩ := f3
            exact word_b tT.2.1 k2 g4
          rw [← c2, lf51_s]
          unfold fM_life_l51b fM_readLaw
          rw [ew, bind_s, if_pos rfl, bind_s, if_pos rfl, m11, if_pos li4.symm, f2', bind_s]
          unfold fM_readLaw_b24
          rw [wa, bind_s, if_neg (by decide), b1, bind_s]
      · refine fin 4 _ _ R S M (by omega) hR s0 m11 hL ?_ ?_
        · rw [rls_s]
          unfold fR_readLaws_l16b
          rw [if_neg (by decide), if_pos r2', ec, bind_s, if_neg (by decide)]
        · rw [lf51_s]
          unfold fM_life_l51b
          rw [ew, bind_s, if_neg hv]
    · obtain ⟨c1, c2⟩ := laws_bad (S := S) (l := 4) (m + 1) (m' + 1) (by omega) hR r2
      exact fin 4 _ _ R S M (by omega) hR s0 m11 hL c1 c2
  | succ d ih =>
    intro l f f' R S M hd hf hf' hR s0 m11 hL
    obtain ⟨m, rfl⟩ : ∃ m, f = m + 1 := ⟨f - 1, by omega⟩
    obtain ⟨m', rfl⟩ : ∃ m, f' = m + 1 := ⟨f' - 1, by omega⟩
    by_cases r2 : zI R 2 = nI 0
    · have r2' : zI R 2 = 0 := r2
      have m24 : zI M 24 = nI 0 := hR.flag.symm.trans r2
      have hR' := hR
      obtain ⟨hT, h19, ⟨s, hh, hk⟩, hf⟩ := hR'
      rcases isLaw hT.2.1 hk m24 with ⟨z, ec, ew⟩ | ⟨z, ec, v, ew, hv⟩
      · obtain ⟨R1, S1, M1, a1, a2, a3, a4, a5, a6, a7⟩ := law_step m hR r2 hk z (by omega) s0 m11 (hL r2)
        obtain ⟨R', S', M', l', b1, b2, b3, b4, b5⟩ := ih (l + 1) m m' R1 S1 M1 (by omega) (by omega) (by omega) a3 a4 a5 a6
        refine ⟨R', S', M', l', a1.trans b1, ?_, b3, fun y => ?_, a7.trans b5⟩
        · rw [← b2, lf51_s]
          unfold fM_life_l51b
          rw [ew, bind_s, if_pos rfl, a2, bind_s]
        · obtain ⟨c1, c2, c3⟩ := b4 y
          exact ⟨by omega, c2, c3⟩
      · refine fin l _ _ R S M (by omega) hR s0 m11 hL ?_ ?_
        · rw [rls_s]
          unfold fR_readLaws_l16b
          rw [if_neg (by rw [li4, nlt (by omega) (by omega)]; omega), if_pos r2', ec, bind_s, if_neg (by decide)]
        · rw [lf51_s]
          unfold fM_life_l51b
          rw [ew, bind_s, if_neg hv]
    · obtain ⟨c1, c2⟩ := laws_bad (S := S) (l := l) m m' (by omega) hR r2
      exact fin l _ _ R S M (by omega) hR s0 m11 hL c1 c2
theorem laws_all {R S M : zSt} {n : Nat} (hR : RdR R M n) (r2 : zI R 2 = nI 0) (s0 : zI S 0 = nI 0) (m11 : zI M 11 = nI 0) : ∃ R' S' M' l', fR_readLaws R S = some (R', S') ∧ (Option.bind (fM_readLaw M) fun y10 => fM_life_l51 zF y10) = fM_life_l69 zF M' ∧ RdR R' M' n ∧ (zI R' 2 = nI 0 → 1 ≤ l' ∧ l' ≤ 4 ∧ zI S' 0 = nI l' ∧ zI M' 11 = nI l' ∧ ∀ i, i < l' → LawR S' (zA M' 14) i) ∧ LwF R R' S S' M M' := by
  have r2' : zI R 2 = 0 := r2
  have m24 : zI M 24 = nI 0 := hR.flag.symm.trans r2
  have hR' := hR
  obtain ⟨hT, h19, ⟨s, hh, hk⟩, hf⟩ := hR'
  rcases isLaw hT.2.1 hk m24 with ⟨z, ec, ew⟩ | ⟨z, ec, v, ew, hv⟩
  · obtain ⟨R1, S1, M1, a1, a2, a3, a4, a5, a6, a7⟩ := law_step 999 hR r2 hk z (by omega) s0 m11 (fun i hi => by omega)
    obtain ⟨R', S', M', l', b1, b2, b3, b4, b5⟩ := laws_sim 3 1 999 1000 R1 S1 M1 (by omega) (by omega) (by omega) a3 a4 a5 a6
    refine ⟨R', S', M', l', ?_, ?_, b3, b4, a7.trans b5⟩
    · unfold fR_readLaws
      rw [ec, bind_s, if_pos (by decide)]
      exact a1.trans b1
    · rw [a2, bind_s]
      exact b2
  · obtain ⟨Ra, Ma, f1, f2, f3, f4, f5, f6⟩ := fail_rd hR r2 1 (by omega)
    have f1' : fR_fail R 1 = some Ra := f1
    have g4 : ¬ zI Ma 24 = nI 0 := by rw [← f3.flag]; exact f4
    have ma : zI Ma 11 = nI 0 := by rw [f6.2.2.1 11 (by omega)]; exact m11
    obtain ⟨M', b1, b2, b3, b4⟩ := b41_bad 0 f3 f4 ma (by omega)
    have b1' : fM_readLaw_b41 M 0 = some M' := by
      have e := b41_eq 0 (must_bad 0 g4) ma (by omega)
      rw [b41_eq 0 (must_0 f2 g4) ma (by omega), ← e]
      exact b1
    obtain ⟨c1, c2⟩ := laws_bad (S := S) (l := 0) 999 999 (by omega) b2 f4
    refine ⟨Ra, S, M', 0, ?_, ?_, b2, fun z => absurd z f4, ⟨f6.1, f6.2.1, fun _ _ => rfl, fun k hk => (b3 k hk).trans (f5 k), fun k h1 h2 => (b4 k h1 h2).trans (f6.2.2.1 k h2)⟩⟩
    · unfold fR_readLaws
      rw [ec, bind_s, if_neg (by decide), f1', bind_s]
      exact c1
    · unfold fM_readLaw fM_readLaw_b24
      rw [ew, bind_s, if_neg hv, bind_s, if_neg hv, b1', bind_s]
      exact c2
