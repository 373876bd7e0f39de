/-! COURSE: events, and the whole run, on both sides -/
def StR (S M : zSt) (l e t : Nat) : Prop := (zI S 0 = nI l ∧ zI M 6 = nI l) ∧ l ≤ 4 ∧ (zI S 1 = nI e ∧ zI M 7 = nI e) ∧ e ≤ 30 ∧ (zI S 2 = nI t ∧ zI M 8 = nI t) ∧ t = thn (zA S 8) e ∧ t ≤ 10 ∧ (∀ i, i < l → LawR S (zA M 9) i) ∧ (∀ i, i < e → EvR S (zA M 10) l i) ∧ (∀ i j, i ≤ j → j < e → zA S 9 i ≤ zA S 9 j)
theorem StR.mf {S M M' : zSt} {l e t : Nat} (h : StR S M l e t) (g : MF M M') : StR S M' l e t := by
  unfold StR at h ⊢
  rw [g.1 6 (by omega) (by omega) (by omega), g.1 7 (by omega) (by omega) (by omega), g.1 8 (by omega) (by omega) (by omega), g.2 9 (by omega), g.2 10 (by omega)]
  exact h
theorem thn_mono (w : Nat → Int32) {i j : Nat} (h : i ≤ j) : thn w i ≤ thn w j := by
  induction j with
  | zero => have : i = 0 := by omega
            subst this; exact Nat.le_refl _
  | succ j ih =>
    by_cases z : i = j + 1
    · subst z; exact Nat.le_refl _
    · have := ih (by omega)
      simp only [thn]; omega
theorem CR_worth {fb : Prop} {S C M : zSt} {l i t N a w i' : Nat} (h : CR fb S C M l i t N) (hi : i ≤ i') (hw : w ≤ 297 + 99 * i') : CR fb S (zsA C 11 a (nI w)) (zsA M 34 a (nI w)) l i' t N := by
  obtain ⟨la, n, h1, h2, h3, h4, h5, h6, h7, h8, h9, h10, h11, h12⟩ := h.mono hi (Nat.le_refl _)
  refine ⟨la, n, h1, h2, h3, h4, h5, h6, h7, fun k hk => ?_, h9, h10, h11, h12⟩
  obtain ⟨g1, g2, g3, g4, g5, g6, g7, g8⟩ := h8 k hk
  refine ⟨g1, g2, g3, g4, g5, g6, ?_, g8⟩
  by_cases z : k = a
  · subst z
    exact ⟨w, hw, by simp only [zI_zsI, zI_zsAf, zI_zsJ, zI_zsLf, zA_zsI, zA_zsAf, zA_zsJ, zA_zsLf, zJ_zsI, zJ_zsAf, zJ_zsJ, zJ_zsLf, zL_zsI, zL_zsAf, zL_zsJ, zL_zsLf, zI_zsA, zA_zsA, zJ_zsA, zL_zsA, zI_zsL, zA_zsL, zJ_zsL, zL_zsL, zn_eq, li0, li1, li2, li3, li4, li5, li6, li7, li8, li9, li10, li12, li13, li14, li16, li20, li21, li22, li23, li26, li30, li32, li40, li48, li50, li57, li59, li97, li99, li100, li122, li128, li180, li320, li500, li999, nI_add, pk_mul, subN, clampN, zg_ix, nlt, nle, neq, zn_eq, bind_s, ↓reduceIte, Nat.reduceAdd, Nat.reduceMul, Nat.reduceSub, Nat.reduceLeDiff, Nat.reduceEqDiff, Nat.add_zero, Nat.zero_add, Nat.reduceLT, Nat.mul_zero, upd_same], by simp only [zI_zsI, zI_zsAf, zI_zsJ, zI_zsLf, zA_zsI, zA_zsAf, zA_zsJ, zA_zsLf, zJ_zsI, zJ_zsAf, zJ_zsJ, zJ_zsLf, zL_zsI, zL_zsAf, zL_zsJ, zL_zsLf, zI_zsA, zA_zsA, zJ_zsA, zL_zsA, zI_zsL, zA_zsL, zJ_zsL, zL_zsL, zn_eq, li0, li1, li2, li3, li4, li5, li6, li7, li8, li9, li10, li12, li13, li14, li16, li20, li21, li22, li23, li26, li30, li32, li40, li48, li50, li57, li59, li97, li99, li100, li122, li128, li180, li320, li500, li999, nI_add, pk_mul, subN, clampN, zg_ix, nlt, nle, neq, zn_eq, bind_s, ↓reduceIte, Nat.reduceAdd, Nat.reduceMul, Nat.reduceSub, Nat.reduceLeDiff, Nat.reduceEqDiff, Nat.add_zero, Nat.zero_add, Nat.reduceLT, Nat.mul_zero, upd_same]⟩
  · simp only [zI_zsI, zI_zsAf, zI_zsJ, zI_zsLf, zA_zsI, zA_zsAf, zA_zsJ, zA_zsLf, zJ_zsI, zJ_zsAf, zJ_zsJ, zJ_zsLf, zL_zsI, zL_zsAf, zL_zsJ, zL_zsLf, zI_zsA, zA_zsA, zJ_zsA, zL_zsA, zI_zsL, zA_zsL, zJ_zsL, zL_zsL, zn_eq, li0, li1, li2, li3, li4, li5, li6, li7, li8, li9, li10, li12, li13, li14, li16, li20, li21, li22, li23, li26, li30, li32, li40, li48, li50, li57, li59, li97, li99, li100, li122, li128, li180, li320, li500, li999, nI_add, pk_mul, subN, clampN, zg_ix, nlt, nle, neq, zn_eq, bind_s, ↓reduceIte, Nat.reduceAdd, Nat.reduceMul, Nat.reduceSub, Nat.reduceLeDiff, Nat.reduceEqDiff, Nat.add_zero, Nat.zero_add, Nat.reduceLT, Nat.mul_zero, upd_ne z]
    exact g7
theorem MF_A {M : zSt} {k i : Nat} {v : Int32} (h : 25 < k ∧ k ≠ 53) : MF M (zsA M k i v) := by
  refine ⟨fun _ _ _ _ => rfl, fun q hq => ?_⟩
  simp only [zI_zsI, zI_zsAf, zI_zsJ, zI_zsLf, zA_zsI, zA_zsAf, zA_zsJ, zA_zsLf, zJ_zsI, zJ_zsAf, zJ_zsJ, zJ_zsLf, zL_zsI, zL_zsAf, zL_zsJ, zL_zsLf, zI_zsA, zA_zsA, zJ_zsA, zL_zsA, zI_zsL, zA_zsL, zJ_zsL, zL_zsL, zn_eq]
  rw [if_neg (by omega)]
theorem MF_I {M : zSt} {k : Nat} {v : Int32} (h : k = 26 ∨ k = 28 ∨ k = 40) : MF M (zsI M k v) := by
  refine ⟨fun q a b c => ?_, fun q hq => rfl⟩
  simp only [zI_zsI, zI_zsAf, zI_zsJ, zI_zsLf, zA_zsI, zA_zsAf, zA_zsJ, zA_zsLf, zJ_zsI, zJ_zsAf, zJ_zsJ, zJ_zsLf, zL_zsI, zL_zsAf, zL_zsJ, zL_zsLf, zI_zsA, zA_zsA, zJ_zsA, zL_zsA, zI_zsL, zA_zsL, zJ_zsL, zL_zsL, zn_eq]
  rw [if_neg (by omega)]
theorem brg_MF (M : zSt) (t e pa pb pc wy wh am wo : Nat) : MF M (brg M t e pa pb pc wy wh am wo) := by
  unfold brg
  exact ((((((((MF_I (by omega)).trans (MF_A (by omega))).trans (MF_A (by omega))).trans (MF_A (by omega))).trans (MF_A (by omega))).trans (MF_A (by omega))).trans (MF_A (by omega))).trans (MF_A (by omega))).trans (MF_A (by omega))
theorem fin_MF (M : zSt) (t p : Nat) (r e : Int32) : MF M (fin M t p r e) := by
  unfold fin
  exact (((MF_A (by omega)).trans (MF_A (by omega))).trans (MF_A (by omega))).trans (MF_A (by omega))
theorem ev_sim {fb : Prop} {S C M : zSt} {l e tt i : Nat} (hS : StR S M l e tt) (hi : i < e) (h : CR fb S C M l i (thn (zA S 8) i) (i + 2 * thn (zA S 8) i)) : ∃ C' M', fC_goOn C S (nI i) (zA S 10 i) (zA S 11 i) (zA S 12 i) = some C' ∧ fM_happen M (nI i) = some M' ∧ CR fb S C' M' l (i + 1) (thn (zA S 8) (i + 1)) (i + 1 + 2 * thn (zA S 8) (i + 1)) ∧ MF M M' := by
  obtain ⟨⟨S0, M6⟩, hl, ⟨S1, M7⟩, he, ⟨S2, M8⟩, htt, ht10, hLw, hEv, hday⟩ := hS
  obtain ⟨k, d, a, b, c, hk6, hd, ⟨v8, m0⟩, ⟨v9, m1⟩, ⟨v10, m2⟩, hb5, hc2, r0, r1, r2, r3, r4, r5, r6⟩ := hEv i hi
  have t1 : thn (zA S 8) (i + 1) ≤ tt := by rw [htt]; exact thn_mono _ hi
  have t2 : thn (zA S 8) (i + 1) = thn (zA S 8) i + (if nI k = nI 0 ∨ nI k = nI 1 then 1 else 0) := by simp only [thn, v8]
  obtain ⟨t, htd⟩ : ∃ t, t = thn (zA S 8) i := ⟨_, rfl⟩
  rw [← htd] at h t2 r2 r3
  have hk7 : k = 0 ∨ k = 1 ∨ k = 2 ∨ k = 3 ∨ k = 4 ∨ k = 5 ∨ k = 6 := by omega
  rcases hk7 with rfl | rfl | rfl | rfl | rfl | rfl | rfl
  · obtain ⟨a4, b1, c1, c9⟩ := r0 rfl
    obtain ⟨v11, m3⟩ := hb5 (by omega)
    obtain ⟨v12, m4⟩ := hc2 (by omega)
    have e0 : (if nI 0 = nI 0 ∨ nI 0 = nI 1 then 1 else 0) = 1 := rfl
    rw [e0] at t2
    obtain ⟨C', p, r, f1, f2, f3, f4⟩ := takeIn_sim (e := i) (pa := 0) (pb := 0) (pc := 0) (wy := a) (wh := b) (am := c) (wo := c) h hl hLw (by omega) (by omega) v8 v10 v11 v12 (by omega) (by omega) (Or.inl ⟨rfl, a4, rfl, b1, rfl, rfl, rfl, rfl⟩) c9 (by omega)
    have h' := h
    obtain ⟨la, n, h1, h2, h3, h4, h5, h6, h7, h8, h9, h10, h11, h12⟩ := h'
    have g := bring_pre0 M i t a b c (by omega) (by omega) h7 m0 m2 m3 m4
    have z38 : zA (brg M t i 0 0 0 a b c c) 38 (3 * t) = nI 0 ∧ zA (brg M t i 0 0 0 a b c c) 38 (3 * t + 1) = nI 0 ∧ zA (brg M t i 0 0 0 a b c c) 38 (3 * t + 2) = nI 0 := by
      refine ⟨?_, ?_, ?_⟩ <;> simp only [brg, zI_zsI, zI_zsAf, zI_zsJ, zI_zsLf, zA_zsI, zA_zsAf, zA_zsJ, zA_zsLf, zJ_zsI, zJ_zsAf, zJ_zsJ, zJ_zsLf, zL_zsI, zL_zsAf, zL_zsJ, zL_zsLf, zI_zsA, zA_zsA, zJ_zsA, zL_zsA, zI_zsL, zA_zsL, zJ_zsL, zL_zsL, zn_eq, li0, li1, li2, li3, li4, li5, li6, li7, li8, li9, li10, li12, li13, li14, li16, li20, li21, li22, li23, li26, li30, li32, li40, li48, li50, li57, li59, li97, li99, li100, li122, li128, li180, li320, li500, li999, nI_add, pk_mul, subN, clampN, zg_ix, nlt, nle, neq, zn_eq, bind_s, ↓reduceIte, Nat.reduceAdd, Nat.reduceMul, Nat.reduceSub, Nat.reduceLeDiff, Nat.reduceEqDiff, Nat.add_zero, Nat.zero_add, Nat.reduceLT, Nat.mul_zero]
      · rw [upd_ne (by omega), upd_ne (by omega), upd_same]
      · rw [upd_ne (by omega), upd_same]
      · rw [upd_same]
    have g2 := bring_run 996 (brg M t i 0 0 0 a b c c) i t p 0 0 0 n r (by omega) (by omega) (by omega) (by omega) z38.1 z38.2.1 z38.2.2 (by omega) h10 f4
    rw [← zF4] at g2
    refine ⟨C', fin (brg M t i 0 0 0 a b c c) t p r (nI i), ?_, ?_, ?_, (brg_MF _ _ _ _ _ _ _ _ _ _).trans (fin_MF _ _ _ _ _)⟩
    · simp (disch := omega) only [fC_goOn, li0, li1, li2, li3, li4, li5, li6, li7, li8, li9, li10, li12, li13, li14, li16, li20, li21, li22, li23, li26, li30, li32, li40, li48, li50, li57, li59, li97, li99, li100, li122, li128, li180, li320, li500, li999, nI_add, pk_mul, subN, clampN, zg_ix, nlt, nle, neq, zn_eq, bind_s, ↓reduceIte, Nat.reduceAdd, Nat.reduceMul, Nat.reduceSub, Nat.reduceLeDiff, Nat.reduceEqDiff, Nat.add_zero, Nat.zero_add, Nat.reduceLT, Nat.mul_zero, v8, v12, f1]
    · simp (disch := omega) only [fM_happen, li0, li1, li2, li3, li4, li5, li6, li7, li8, li9, li10, li12, li13, li14, li16, li20, li21, li22, li23, li26, li30, li32, li40, li48, li50, li57, li59, li97, li99, li100, li122, li128, li180, li320, li500, li999, nI_add, pk_mul, subN, clampN, zg_ix, nlt, nle, neq, zn_eq, bind_s, ↓reduceIte, Nat.reduceAdd, Nat.reduceMul, Nat.reduceSub, Nat.reduceLeDiff, Nat.reduceEqDiff, Nat.add_zero, Nat.zero_add, Nat.reduceLT, Nat.mul_zero, m0, g, g2, cput]
    · rw [t2]
      exact f2.mono (by omega) (by omega)
  · obtain ⟨a9, b9, c9, abc⟩ := r1 rfl
    obtain ⟨v11, m3⟩ := hb5 (by omega)
    obtain ⟨v12, m4⟩ := hc2 (by omega)
    have e0 : (if nI 1 = nI 0 ∨ nI 1 = nI 1 then 1 else 0) = 1 := rfl
    rw [e0] at t2
    obtain ⟨C', p, r, f1, f2, f3, f4⟩ := takeIn_sim (e := i) (pa := a) (pb := b) (pc := c) (wy := 4) (wh := 0) (am := 0) (wo := a + b + c) h hl hLw (by omega) (by omega) v8 v10 v11 v12 (by omega) (by omega) (Or.inr ⟨rfl, a9, rfl, rfl, rfl, rfl⟩) (by omega) (by omega)
    have h' := h
    obtain ⟨la, n, h1, h2, h3, h4, h5, h6, h7, h8, h9, h10, h11, h12⟩ := h'
    have g := bring_pre1 M i t a b c (by omega) (by omega) h7 m0 m2 m3 m4 a9 b9 c9
    have z38 : zA (brg M t i a b c 4 0 0 (a + b + c)) 38 (3 * t) = nI a ∧ zA (brg M t i a b c 4 0 0 (a + b + c)) 38 (3 * t + 1) = nI b ∧ zA (brg M t i a b c 4 0 0 (a + b + c)) 38 (3 * t + 2) = nI c := by
      refine ⟨?_, ?_, ?_⟩ <;> simp only [brg, zI_zsI, zI_zsAf, zI_zsJ, zI_zsLf, zA_zsI, zA_zsAf, zA_zsJ, zA_zsLf, zJ_zsI, zJ_zsAf, zJ_zsJ, zJ_zsLf, zL_zsI, zL_zsAf, zL_zsJ, zL_zsLf, zI_zsA, zA_zsA, zJ_zsA, zL_zsA, zI_zsL, zA_zsL, zJ_zsL, zL_zsL, zn_eq, li0, li1, li2, li3, li4, li5, li6, li7, li8, li9, li10, li12, li13, li14, li16, li20, li21, li22, li23, li26, li30, li32, li40, li48, li50, li57, li59, li97, li99, li100, li122, li128, li180, li320, li500, li999, nI_add, pk_mul, subN, clampN, zg_ix, nlt, nle, neq, zn_eq, bind_s, ↓reduceIte, Nat.reduceAdd, Nat.reduceMul, Nat.reduceSub, Nat.reduceLeDiff, Nat.reduceEqDiff, Nat.add_zero, Nat.zero_add, Nat.reduceLT, Nat.mul_zero]
      · rw [upd_ne (by omega), upd_ne (by omega), upd_same]
      · rw [upd_ne (by omega), upd_same]
      · rw [upd_same]
    have g2 := bring_run 996 (brg M t i a b c 4 0 0 (a + b + c)) i t p a b c n r (by omega) a9 b9 c9 z38.1 z38.2.1 z38.2.2 (by omega) h10 f4
    rw [← zF4] at g2
    have w0 : zA (fin (brg M t i a b c 4 0 0 (a + b + c)) t p r (nI i)) 34 t = nI (a + b + c) := by simp only [fin, brg, zI_zsI, zI_zsAf, zI_zsJ, zI_zsLf, zA_zsI, zA_zsAf, zA_zsJ, zA_zsLf, zJ_zsI, zJ_zsAf, zJ_zsJ, zJ_zsLf, zL_zsI, zL_zsAf, zL_zsJ, zL_zsLf, zI_zsA, zA_zsA, zJ_zsA, zL_zsA, zI_zsL, zA_zsL, zJ_zsL, zL_zsL, zn_eq, li0, li1, li2, li3, li4, li5, li6, li7, li8, li9, li10, li12, li13, li14, li16, li20, li21, li22, li23, li26, li30, li32, li40, li48, li50, li57, li59, li97, li99, li100, li122, li128, li180, li320, li500, li999, nI_add, pk_mul, subN, clampN, zg_ix, nlt, nle, neq, zn_eq, bind_s, ↓reduceIte, Nat.reduceAdd, Nat.reduceMul, Nat.reduceSub, Nat.reduceLeDiff, Nat.reduceEqDiff, Nat.add_zero, Nat.zero_add, Nat.reduceLT, Nat.mul_zero, upd_same]
    obtain ⟨C1, k1, k2, k3⟩ := put_sim (a := t) (x := 0) (s := a) f2 (by omega) (by omega) (by omega) (by omega) a9 w0 (by omega) (by omega)
    obtain ⟨C2, k4, k5, k6⟩ := put_sim (a := t) (x := 1) (s := b) k2 (by omega) (by omega) (by omega) (by omega) b9 (by rw [cput_34]; exact w0) (by omega) (by omega)
    obtain ⟨C3, k7, k8, k9⟩ := put_sim (a := t) (x := 2) (s := c) k5 (by omega) (by omega) (by omega) (by omega) c9 (by rw [cput_34, cput_34]; exact w0) (by omega) (by omega)
    rw [f3] at k3
    rw [k3] at k6
    refine ⟨C3, cput (cput (cput (fin (brg M t i a b c 4 0 0 (a + b + c)) t p r (nI i)) t 0 a) t 1 b) t 2 c, ?_, ?_, ?_, (brg_MF _ _ _ _ _ _ _ _ _ _).trans ((fin_MF _ _ _ _ _).trans ((cput_MF _ _ _ _).trans ((cput_MF _ _ _ _).trans (cput_MF _ _ _ _))))⟩
    · simp (disch := omega) only [fC_goOn, li0, li1, li2, li3, li4, li5, li6, li7, li8, li9, li10, li12, li13, li14, li16, li20, li21, li22, li23, li26, li30, li32, li40, li48, li50, li57, li59, li97, li99, li100, li122, li128, li180, li320, li500, li999, nI_add, pk_mul, subN, clampN, zg_ix, nlt, nle, neq, zn_eq, bind_s, ↓reduceIte, Nat.reduceAdd, Nat.reduceMul, Nat.reduceSub, Nat.reduceLeDiff, Nat.reduceEqDiff, Nat.add_zero, Nat.zero_add, Nat.reduceLT, Nat.mul_zero, v8, v10, v11, v12, f1, f3, Nat.add_sub_cancel, k1, k3, k4, k6, k7]
    · simp (disch := omega) only [fM_happen, li0, li1, li2, li3, li4, li5, li6, li7, li8, li9, li10, li12, li13, li14, li16, li20, li21, li22, li23, li26, li30, li32, li40, li48, li50, li57, li59, li97, li99, li100, li122, li128, li180, li320, li500, li999, nI_add, pk_mul, subN, clampN, zg_ix, nlt, nle, neq, zn_eq, bind_s, ↓reduceIte, Nat.reduceAdd, Nat.reduceMul, Nat.reduceSub, Nat.reduceLeDiff, Nat.reduceEqDiff, Nat.add_zero, Nat.zero_add, Nat.reduceLT, Nat.mul_zero, m0, g, g2]
    · rw [t2]
      exact k8.mono (by omega) (by omega)
  · obtain ⟨at', b3, c1, c9⟩ := r2 rfl
    obtain ⟨v11, m3⟩ := hb5 (by omega)
    obtain ⟨v12, m4⟩ := hc2 (by omega)
    have e0 : (if nI 2 = nI 0 ∨ nI 2 = nI 1 then 1 else 0) = 0 := rfl
    rw [e0, Nat.add_zero] at t2
    have h' := h
    obtain ⟨la, n, h1, h2, h3, h4, h5, h6, h7, h8, h9, h10, h11, h12⟩ := h'
    obtain ⟨g1, g2, g3, g4, g5, g6, ⟨w, g7, g8, g8'⟩, g9⟩ := h8 a at'
    have k0 := CR_worth (a := a) (w := w + c) (i' := i + 1) h (by omega) (by omega)
    obtain ⟨C1, k1, k2, k3⟩ := put_sim (a := a) (x := b) (s := c) (w := w + c) k0 (by omega) (by omega) at' b3 c9 (by simp only [zI_zsI, zI_zsAf, zI_zsJ, zI_zsLf, zA_zsI, zA_zsAf, zA_zsJ, zA_zsLf, zJ_zsI, zJ_zsAf, zJ_zsJ, zJ_zsLf, zL_zsI, zL_zsAf, zL_zsJ, zL_zsLf, zI_zsA, zA_zsA, zJ_zsA, zL_zsA, zI_zsL, zA_zsL, zJ_zsL, zL_zsL, zn_eq, li0, li1, li2, li3, li4, li5, li6, li7, li8, li9, li10, li12, li13, li14, li16, li20, li21, li22, li23, li26, li30, li32, li40, li48, li50, li57, li59, li97, li99, li100, li122, li128, li180, li320, li500, li999, nI_add, pk_mul, subN, clampN, zg_ix, nlt, nle, neq, zn_eq, bind_s, ↓reduceIte, Nat.reduceAdd, Nat.reduceMul, Nat.reduceSub, Nat.reduceLeDiff, Nat.reduceEqDiff, Nat.add_zero, Nat.zero_add, Nat.reduceLT, Nat.mul_zero, upd_same]) (by omega) (by omega)
    have p1 := putIn_eq (zsA M 34 a (nI (w + c))) a b c n (by omega) c1 (by omega) h10
    refine ⟨C1, cput (zsA M 34 a (nI (w + c))) a b c, ?_, ?_, ?_, (MF_A (by omega)).trans (cput_MF _ _ _ _)⟩
    · simp (disch := omega) only [fC_goOn, li0, li1, li2, li3, li4, li5, li6, li7, li8, li9, li10, li12, li13, li14, li16, li20, li21, li22, li23, li26, li30, li32, li40, li48, li50, li57, li59, li97, li99, li100, li122, li128, li180, li320, li500, li999, nI_add, pk_mul, subN, clampN, zg_ix, nlt, nle, neq, zn_eq, bind_s, ↓reduceIte, Nat.reduceAdd, Nat.reduceMul, Nat.reduceSub, Nat.reduceLeDiff, Nat.reduceEqDiff, Nat.add_zero, Nat.zero_add, Nat.reduceLT, Nat.mul_zero, v8, v10, v11, v12, g8, k1]
    · simp (disch := omega) only [fM_happen, li0, li1, li2, li3, li4, li5, li6, li7, li8, li9, li10, li12, li13, li14, li16, li20, li21, li22, li23, li26, li30, li32, li40, li48, li50, li57, li59, li97, li99, li100, li122, li128, li180, li320, li500, li999, nI_add, pk_mul, subN, clampN, zg_ix, nlt, nle, neq, zn_eq, bind_s, ↓reduceIte, Nat.reduceAdd, Nat.reduceMul, Nat.reduceSub, Nat.reduceLeDiff, Nat.reduceEqDiff, Nat.add_zero, Nat.zero_add, Nat.reduceLT, Nat.mul_zero, zI_zsI, zI_zsAf, zI_zsJ, zI_zsLf, zA_zsI, zA_zsAf, zA_zsJ, zA_zsLf, zJ_zsI, zJ_zsAf, zJ_zsJ, zJ_zsLf, zL_zsI, zL_zsAf, zL_zsJ, zL_zsLf, zI_zsA, zA_zsA, zJ_zsA, zL_zsA, zI_zsL, zA_zsL, zJ_zsL, zL_zsL, zn_eq, m0, m2, m3, m4, g8', p1]
    · rw [t2]
      exact k2.mono (by omega) (by omega)
  · obtain ⟨at', b9⟩ := r3 rfl
    obtain ⟨v11, m3⟩ := hb5 (by omega)
    have e0 : (if nI 3 = nI 0 ∨ nI 3 = nI 1 then 1 else 0) = 0 := rfl
    rw [e0, Nat.add_zero] at t2
    have k0 := CR_worth (a := a) (w := b) (i' := i + 1) h (by omega) (by omega)
    refine ⟨zsA C 11 a (nI b), zsA M 34 a (nI b), ?_, ?_, ?_, MF_A (by omega)⟩
    rotate_left
    · simp (disch := omega) only [fM_happen, li0, li1, li2, li3, li4, li5, li6, li7, li8, li9, li10, li12, li13, li14, li16, li20, li21, li22, li23, li26, li30, li32, li40, li48, li50, li57, li59, li97, li99, li100, li122, li128, li180, li320, li500, li999, nI_add, pk_mul, subN, clampN, zg_ix, nlt, nle, neq, zn_eq, bind_s, ↓reduceIte, Nat.reduceAdd, Nat.reduceMul, Nat.reduceSub, Nat.reduceLeDiff, Nat.reduceEqDiff, Nat.add_zero, Nat.zero_add, Nat.reduceLT, Nat.mul_zero, zI_zsI, zI_zsAf, zI_zsJ, zI_zsLf, zA_zsI, zA_zsAf, zA_zsJ, zA_zsLf, zJ_zsI, zJ_zsAf, zJ_zsJ, zJ_zsLf, zL_zsI, zL_zsAf, zL_zsJ, zL_zsLf, zI_zsA, zA_zsA, zJ_zsA, zL_zsA, zI_zsL, zA_zsL, zJ_zsL, zL_zsL, zn_eq, m0, m2, m3]
    · rw [t2]
      exact k0.mono (by omega) (by omega)
    · simp (disch := omega) only [fC_goOn, li0, li1, li2, li3, li4, li5, li6, li7, li8, li9, li10, li12, li13, li14, li16, li20, li21, li22, li23, li26, li30, li32, li40, li48, li50, li57, li59, li97, li99, li100, li122, li128, li180, li320, li500, li999, nI_add, pk_mul, subN, clampN, zg_ix, nlt, nle, neq, zn_eq, bind_s, ↓reduceIte, Nat.reduceAdd, Nat.reduceMul, Nat.reduceSub, Nat.reduceLeDiff, Nat.reduceEqDiff, Nat.add_zero, Nat.zero_add, Nat.reduceLT, Nat.mul_zero, v8, v10, v11]
  · obtain ⟨a3, b1, b9⟩ := r4 rfl
    obtain ⟨v11, m3⟩ := hb5 (by omega)
    have e0 : (if nI 4 = nI 0 ∨ nI 4 = nI 1 then 1 else 0) = 0 := rfl
    rw [e0, Nat.add_zero] at t2
    obtain ⟨la, n, h1, h2, h3, h4, h5, h6, h7, h8, h9, h10, h11, h12⟩ := h.mono (Nat.le_refl i) (by omega : i + 2 * t ≤ i + 1 + 2 * t)
    obtain ⟨d', dd, g1, g2⟩ := h5 a a3
    refine ⟨zsA C 3 a (nI (d' + b)), zsA M 39 a (nI (d' + b)), ?_, ?_, ?_, MF_A (by omega)⟩
    · simp (disch := omega) only [fC_goOn, li0, li1, li2, li3, li4, li5, li6, li7, li8, li9, li10, li12, li13, li14, li16, li20, li21, li22, li23, li26, li30, li32, li40, li48, li50, li57, li59, li97, li99, li100, li122, li128, li180, li320, li500, li999, nI_add, pk_mul, subN, clampN, zg_ix, nlt, nle, neq, zn_eq, bind_s, ↓reduceIte, Nat.reduceAdd, Nat.reduceMul, Nat.reduceSub, Nat.reduceLeDiff, Nat.reduceEqDiff, Nat.add_zero, Nat.zero_add, Nat.reduceLT, Nat.mul_zero, v8, v10, v11, g1]
    · simp (disch := omega) only [fM_happen, li0, li1, li2, li3, li4, li5, li6, li7, li8, li9, li10, li12, li13, li14, li16, li20, li21, li22, li23, li26, li30, li32, li40, li48, li50, li57, li59, li97, li99, li100, li122, li128, li180, li320, li500, li999, nI_add, pk_mul, subN, clampN, zg_ix, nlt, nle, neq, zn_eq, bind_s, ↓reduceIte, Nat.reduceAdd, Nat.reduceMul, Nat.reduceSub, Nat.reduceLeDiff, Nat.reduceEqDiff, Nat.add_zero, Nat.zero_add, Nat.reduceLT, Nat.mul_zero, zI_zsI, zI_zsAf, zI_zsJ, zI_zsLf, zA_zsI, zA_zsAf, zA_zsJ, zA_zsLf, zJ_zsI, zJ_zsAf, zJ_zsJ, zJ_zsLf, zL_zsI, zL_zsAf, zL_zsJ, zL_zsLf, zI_zsA, zA_zsA, zJ_zsA, zL_zsA, zI_zsL, zA_zsL, zJ_zsL, zL_zsL, zn_eq, m0, m2, m3, g2]
    · rw [t2]
      refine ⟨la, n, h1, h2, h3, h4, fun p hp => ?_, h6, h7, fun j hj => ?_, h9, h10, h11, h12⟩
      · by_cases z : p = a
        · subst z
          exact ⟨d' + b, by omega, by simp only [zI_zsI, zI_zsAf, zI_zsJ, zI_zsLf, zA_zsI, zA_zsAf, zA_zsJ, zA_zsLf, zJ_zsI, zJ_zsAf, zJ_zsJ, zJ_zsLf, zL_zsI, zL_zsAf, zL_zsJ, zL_zsLf, zI_zsA, zA_zsA, zJ_zsA, zL_zsA, zI_zsL, zA_zsL, zJ_zsL, zL_zsL, zn_eq, li0, li1, li2, li3, li4, li5, li6, li7, li8, li9, li10, li12, li13, li14, li16, li20, li21, li22, li23, li26, li30, li32, li40, li48, li50, li57, li59, li97, li99, li100, li122, li128, li180, li320, li500, li999, nI_add, pk_mul, subN, clampN, zg_ix, nlt, nle, neq, zn_eq, bind_s, ↓reduceIte, Nat.reduceAdd, Nat.reduceMul, Nat.reduceSub, Nat.reduceLeDiff, Nat.reduceEqDiff, Nat.add_zero, Nat.zero_add, Nat.reduceLT, Nat.mul_zero, upd_same], by simp only [zI_zsI, zI_zsAf, zI_zsJ, zI_zsLf, zA_zsI, zA_zsAf, zA_zsJ, zA_zsLf, zJ_zsI, zJ_zsAf, zJ_zsJ, zJ_zsLf, zL_zsI, zL_zsAf, zL_zsJ, zL_zsLf, zI_zsA, zA_zsA, zJ_zsA, zL_zsA, zI_zsL, zA_zsL, zJ_zsL, zL_zsL, zn_eq, li0, li1, li2, li3, li4, li5, li6, li7, li8, li9, li10, li12, li13, li14, li16, li20, li21, li22, li23, li26, li30, li32, li40, li48, li50, li57, li59, li97, li99, li100, li122, li128, li180, li320, li500, li999, nI_add, pk_mul, subN, clampN, zg_ix, nlt, nle, neq, zn_eq, bind_s, ↓reduceIte, Nat.reduceAdd, Nat.reduceMul, Nat.reduceSub, Nat.reduceLeDiff, Nat.reduceEqDiff, Nat.add_zero, Nat.zero_add, Nat.reduceLT, Nat.mul_zero, upd_same]⟩
        · simp only [zI_zsI, zI_zsAf, zI_zsJ, zI_zsLf, zA_zsI, zA_zsAf, zA_zsJ, zA_zsLf, zJ_zsI, zJ_zsAf, zJ_zsJ, zJ_zsLf, zL_zsI, zL_zsAf, zL_zsJ, zL_zsLf, zI_zsA, zA_zsA, zJ_zsA, zL_zsA, zI_zsL, zA_zsL, zJ_zsL, zL_zsL, zn_eq, li0, li1, li2, li3, li4, li5, li6, li7, li8, li9, li10, li12, li13, li14, li16, li20, li21, li22, li23, li26, li30, li32, li40, li48, li50, li57, li59, li97, li99, li100, li122, li128, li180, li320, li500, li999, nI_add, pk_mul, subN, clampN, zg_ix, nlt, nle, neq, zn_eq, bind_s, ↓reduceIte, Nat.reduceAdd, Nat.reduceMul, Nat.reduceSub, Nat.reduceLeDiff, Nat.reduceEqDiff, Nat.add_zero, Nat.zero_add, Nat.reduceLT, Nat.mul_zero, upd_ne z]
          obtain ⟨d2, q1, q2⟩ := h5 p hp
          exact ⟨d2, by omega, q2⟩
      · obtain ⟨g1, g2, g3, g4, g5, g6, ⟨w, g7, g8⟩, g9⟩ := h8 j hj
        exact ⟨g1, g2, g3, g4, g5, g6, ⟨w, by omega, g8⟩, g9⟩
  · have a5 := r5 rfl
    have e0 : (if nI 5 = nI 0 ∨ nI 5 = nI 1 then 1 else 0) = 0 := rfl
    rw [e0, Nat.add_zero] at t2
    obtain ⟨C', M', k1, k2, k3, k4⟩ := move_sim (la := a) (ev := nI i) (ev' := nI i) h hl hLw (by omega) a5 (fun _ => rfl)
    refine ⟨C', M', ?_, ?_, ?_, k4⟩
    · simp (disch := omega) only [fC_goOn, li0, li1, li2, li3, li4, li5, li6, li7, li8, li9, li10, li12, li13, li14, li16, li20, li21, li22, li23, li26, li30, li32, li40, li48, li50, li57, li59, li97, li99, li100, li122, li128, li180, li320, li500, li999, nI_add, pk_mul, subN, clampN, zg_ix, nlt, nle, neq, zn_eq, bind_s, ↓reduceIte, Nat.reduceAdd, Nat.reduceMul, Nat.reduceSub, Nat.reduceLeDiff, Nat.reduceEqDiff, Nat.add_zero, Nat.zero_add, Nat.reduceLT, Nat.mul_zero, v8, v10, k1]
    · simp (disch := omega) only [fM_happen, li0, li1, li2, li3, li4, li5, li6, li7, li8, li9, li10, li12, li13, li14, li16, li20, li21, li22, li23, li26, li30, li32, li40, li48, li50, li57, li59, li97, li99, li100, li122, li128, li180, li320, li500, li999, nI_add, pk_mul, subN, clampN, zg_ix, nlt, nle, neq, zn_eq, bind_s, ↓reduceIte, Nat.reduceAdd, Nat.reduceMul, Nat.reduceSub, Nat.reduceLeDiff, Nat.reduceEqDiff, Nat.add_zero, Nat.zero_add, Nat.reduceLT, Nat.mul_zero, m0, m2, k2]
    · rw [t2]
      exact k3.mono (by omega) (by omega)
  · obtain ⟨a5, b3⟩ := r6 rfl
    obtain ⟨v11, m3⟩ := hb5 (by omega)
    have e0 : (if nI 6 = nI 0 ∨ nI 6 = nI 1 then 1 else 0) = 0 := rfl
    rw [e0, Nat.add_zero] at t2
    obtain ⟨la, n, h1, h2, h3, h4, h5, h6, h7, h8, h9, h10, h11, h12⟩ := h.mono (Nat.le_succ i) (by omega : i + 2 * t ≤ i + 1 + 2 * t)
    refine ⟨zsA C 2 a (nI b), zsA M 27 a (nI b), ?_, ?_, ?_, MF_A (by omega)⟩
    · simp (disch := omega) only [fC_goOn, li0, li1, li2, li3, li4, li5, li6, li7, li8, li9, li10, li12, li13, li14, li16, li20, li21, li22, li23, li26, li30, li32, li40, li48, li50, li57, li59, li97, li99, li100, li122, li128, li180, li320, li500, li999, nI_add, pk_mul, subN, clampN, zg_ix, nlt, nle, neq, zn_eq, bind_s, ↓reduceIte, Nat.reduceAdd, Nat.reduceMul, Nat.reduceSub, Nat.reduceLeDiff, Nat.reduceEqDiff, Nat.add_zero, Nat.zero_add, Nat.reduceLT, Nat.mul_zero, v8, v10, v11]
    · simp (disch := omega) only [fM_happen, li0, li1, li2, li3, li4, li5, li6, li7, li8, li9, li10, li12, li13, li14, li16, li20, li21, li22, li23, li26, li30, li32, li40, li48, li50, li57, li59, li97, li99, li100, li122, li128, li180, li320, li500, li999, nI_add, pk_mul, subN, clampN, zg_ix, nlt, nle, neq, zn_eq, bind_s, ↓reduceIte, Nat.reduceAdd, Nat.reduceMul, Nat.reduceSub, Nat.reduceLeDiff, Nat.reduceEqDiff, Nat.add_zero, Nat.zero_add, Nat.reduceLT, Nat.mul_zero, zI_zsI, zI_zsAf, zI_zsJ, zI_zsLf, zA_zsI, zA_zsAf, zA_zsJ, zA_zsLf, zJ_zsI, zJ_zsAf, zJ_zsJ, zJ_zsLf, zL_zsI, zL_zsAf, zL_zsJ, zL_zsLf, zI_zsA, zA_zsA, zJ_zsA, zL_zsA, zI_zsL, zA_zsL, zJ_zsL, zL_zsL, zn_eq, m0, m2, m3]
    · rw [t2]
      refine ⟨la, n, h1, h2, h3, fun w hw => ?_, h5, h6, h7, h8, h9, h10, h11, h12⟩
      by_cases z : w = a
      · subst z
        simp only [zI_zsI, zI_zsAf, zI_zsJ, zI_zsLf, zA_zsI, zA_zsAf, zA_zsJ, zA_zsLf, zJ_zsI, zJ_zsAf, zJ_zsJ, zJ_zsLf, zL_zsI, zL_zsAf, zL_zsJ, zL_zsLf, zI_zsA, zA_zsA, zJ_zsA, zL_zsA, zI_zsL, zA_zsL, zJ_zsL, zL_zsL, zn_eq, li0, li1, li2, li3, li4, li5, li6, li7, li8, li9, li10, li12, li13, li14, li16, li20, li21, li22, li23, li26, li30, li32, li40, li48, li50, li57, li59, li97, li99, li100, li122, li128, li180, li320, li500, li999, nI_add, pk_mul, subN, clampN, zg_ix, nlt, nle, neq, zn_eq, bind_s, ↓reduceIte, Nat.reduceAdd, Nat.reduceMul, Nat.reduceSub, Nat.reduceLeDiff, Nat.reduceEqDiff, Nat.add_zero, Nat.zero_add, Nat.reduceLT, Nat.mul_zero, upd_same, true_and]
        exact Or.inr ⟨b, b3, rfl⟩
      · simp only [zI_zsI, zI_zsAf, zI_zsJ, zI_zsLf, zA_zsI, zA_zsAf, zA_zsJ, zA_zsLf, zJ_zsI, zJ_zsAf, zJ_zsJ, zJ_zsLf, zL_zsI, zL_zsAf, zL_zsJ, zL_zsLf, zI_zsA, zA_zsA, zJ_zsA, zL_zsA, zI_zsL, zA_zsL, zJ_zsL, zL_zsL, zn_eq, li0, li1, li2, li3, li4, li5, li6, li7, li8, li9, li10, li12, li13, li14, li16, li20, li21, li22, li23, li26, li30, li32, li40, li48, li50, li57, li59, li97, li99, li100, li122, li128, li180, li320, li500, li999, nI_add, pk_mul, subN, clampN, zg_ix, nlt, nle, neq, zn_eq, bind_s, ↓reduceIte, Nat.reduceAdd, Nat.reduceMul, Nat.reduceSub, Nat.reduceLeDiff, Nat.reduceEqDiff, Nat.add_zero, Nat.zero_add, Nat.reduceLT, Nat.mul_zero, upd_ne z]
        exact h4 w hw
