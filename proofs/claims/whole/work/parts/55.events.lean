/-! COURSE: things, puts, moves, events on both sides -/
def ThR (fb : Prop) (S C M : zSt) (i n j : Nat) : Prop := ThO S C M j ∧ (∃ w, w ≤ 99 ∧ zA C 6 j = nI w ∧ zA M 35 j = nI w) ∧ zA C 7 j = zA M 30 j ∧ (∃ p, p < 3 ∧ zA C 8 j = nI p ∧ zA M 29 j = nI p) ∧ zA C 9 j = zA M 31 j ∧ (fb → zA C 10 j = zA M 33 j) ∧ (∃ w, w ≤ 297 + 99 * i ∧ zA C 11 j = nI w ∧ zA M 34 j = nI w) ∧ zA C 12 j = nI (cnt (zA M 41) (nI j) n)
def PuR (C M : zSt) (t k : Nat) : Prop := ∃ a p s w : Nat, a < t ∧ p < 3 ∧ 1 ≤ s ∧ s ≤ 99 ∧ 1 ≤ w ∧ w ≤ 5000 ∧ (zA C 14 k = nI a ∧ zA M 41 k = nI a) ∧ (zA C 15 k = nI p ∧ zA M 42 k = nI p) ∧ (zA C 16 k = nI s ∧ zA M 43 k = nI s) ∧ (zA C 17 k = nI w ∧ zA M 44 k = nI w)
def CR (fb : Prop) (S C M : zSt) (l i t N : Nat) : Prop := ∃ la n : Nat, la < l ∧ zI C 1 = nI la ∧ zI M 26 = nI la ∧ AgR C M ∧ (∀ p, p < 3 → ∃ d, d ≤ 99 * i ∧ zA C 3 p = nI d ∧ zA M 39 p = nI d) ∧ zI C 4 = nI t ∧ zI M 28 = nI t ∧ (∀ j, j < t → ThR fb S C M i n j) ∧ zI C 13 = nI n ∧ zI M 40 = nI n ∧ n ≤ N ∧ (∀ k, k < n → PuR C M t k)
/-- the reference changes nothing but its scratch of a course -/
def MF (M M' : zSt) : Prop := (∀ k, k ≠ 26 → k ≠ 28 → k ≠ 40 → zI M' k = zI M k) ∧ (∀ k, k ≤ 25 ∨ k = 53 → zA M' k = zA M k)
theorem MF.refl (M : zSt) : MF M M := ⟨fun _ _ _ _ => rfl, fun _ _ => rfl⟩
theorem MF.trans {A B C : zSt} (h : MF A B) (g : MF B C) : MF A C := ⟨fun k a b c => (g.1 k a b c).trans (h.1 k a b c), fun k a => (g.2 k a).trans (h.2 k a)⟩
theorem CR.mono {fb : Prop} {S C M : zSt} {l i t N i' N' : Nat} (h : CR fb S C M l i t N) (hi : i ≤ i') (hN : N ≤ N') : CR fb S C M l i' t N' := by
  obtain ⟨la, n, h1, h2, h3, h4, h5, h6, h7, h8, h9, h10, h11, h12⟩ := h
  refine ⟨la, n, h1, h2, h3, h4, fun p hp => ?_, h6, h7, fun j hj => ?_, h9, h10, by omega, h12⟩
  · obtain ⟨d, d1, d2⟩ := h5 p hp
    exact ⟨d, by omega, d2⟩
  · obtain ⟨g1, g2, g3, g4, g5, g6, ⟨w, g7, g8⟩, g9⟩ := h8 j hj
    exact ⟨g1, g2, g3, g4, g5, g6, ⟨w, by omega, g8⟩, g9⟩
theorem CR_fall {fb : Prop} {S C M : zSt} {l i t N j p : Nat} {ev ev' r' : Int32} (h : CR fb S C M l i t N) (hp : p < 3) (hev : fb → ev = ev') : CR fb S (zsA (zsA (zsA C 10 j ev) 8 j (nI p)) 9 j r') (zsA (zsA (zsA M 29 j (nI p)) 31 j r') 33 j ev') l i t N := by
  obtain ⟨la, n, h1, h2, h3, h4, h5, h6, h7, h8, h9, h10, h11, h12⟩ := h
  refine ⟨la, n, h1, h2, h3, h4, h5, h6, h7, fun k hk => ?_, h9, h10, h11, h12⟩
  obtain ⟨g1, g2, g3, g4, g5, g6, g7, g8⟩ := h8 k hk
  refine ⟨g1, g2, g3, ?_, ?_, ?_, g7, g8⟩
  · by_cases z : k = j
    · subst z
      exact ⟨p, hp, by simp only [zI_zsI, zI_zsAf, zI_zsJ, zI_zsLf, zA_zsI, zA_zsAf, zA_zsJ, zA_zsLf, zJ_zsI, zJ_zsAf, zJ_zsJ, zJ_zsLf, zL_zsI, zL_zsAf, zL_zsJ, zL_zsLf, zI_zsA, zA_zsA, zJ_zsA, zL_zsA, zI_zsL, zA_zsL, zJ_zsL, zL_zsL, zn_eq, li0, li1, li2, li3, li4, li5, li6, li7, li8, li9, li10, li12, li13, li14, li16, li20, li21, li22, li23, li26, li30, li32, li40, li48, li50, li57, li59, li97, li99, li100, li122, li128, li180, li320, li500, li999, nI_add, pk_mul, subN, clampN, zg_ix, nlt, nle, neq, zn_eq, bind_s, ↓reduceIte, Nat.reduceAdd, Nat.reduceMul, Nat.reduceSub, Nat.reduceLeDiff, Nat.reduceEqDiff, Nat.add_zero, Nat.zero_add, Nat.reduceLT, Nat.mul_zero, upd_same], by simp only [zI_zsI, zI_zsAf, zI_zsJ, zI_zsLf, zA_zsI, zA_zsAf, zA_zsJ, zA_zsLf, zJ_zsI, zJ_zsAf, zJ_zsJ, zJ_zsLf, zL_zsI, zL_zsAf, zL_zsJ, zL_zsLf, zI_zsA, zA_zsA, zJ_zsA, zL_zsA, zI_zsL, zA_zsL, zJ_zsL, zL_zsL, zn_eq, li0, li1, li2, li3, li4, li5, li6, li7, li8, li9, li10, li12, li13, li14, li16, li20, li21, li22, li23, li26, li30, li32, li40, li48, li50, li57, li59, li97, li99, li100, li122, li128, li180, li320, li500, li999, nI_add, pk_mul, subN, clampN, zg_ix, nlt, nle, neq, zn_eq, bind_s, ↓reduceIte, Nat.reduceAdd, Nat.reduceMul, Nat.reduceSub, Nat.reduceLeDiff, Nat.reduceEqDiff, Nat.add_zero, Nat.zero_add, Nat.reduceLT, Nat.mul_zero, upd_same]⟩
    · obtain ⟨q, q1, q2, q3⟩ := g4
      exact ⟨q, q1, by simp only [zI_zsI, zI_zsAf, zI_zsJ, zI_zsLf, zA_zsI, zA_zsAf, zA_zsJ, zA_zsLf, zJ_zsI, zJ_zsAf, zJ_zsJ, zJ_zsLf, zL_zsI, zL_zsAf, zL_zsJ, zL_zsLf, zI_zsA, zA_zsA, zJ_zsA, zL_zsA, zI_zsL, zA_zsL, zJ_zsL, zL_zsL, zn_eq, li0, li1, li2, li3, li4, li5, li6, li7, li8, li9, li10, li12, li13, li14, li16, li20, li21, li22, li23, li26, li30, li32, li40, li48, li50, li57, li59, li97, li99, li100, li122, li128, li180, li320, li500, li999, nI_add, pk_mul, subN, clampN, zg_ix, nlt, nle, neq, zn_eq, bind_s, ↓reduceIte, Nat.reduceAdd, Nat.reduceMul, Nat.reduceSub, Nat.reduceLeDiff, Nat.reduceEqDiff, Nat.add_zero, Nat.zero_add, Nat.reduceLT, Nat.mul_zero, upd_ne z, q2], by simp only [zI_zsI, zI_zsAf, zI_zsJ, zI_zsLf, zA_zsI, zA_zsAf, zA_zsJ, zA_zsLf, zJ_zsI, zJ_zsAf, zJ_zsJ, zJ_zsLf, zL_zsI, zL_zsAf, zL_zsJ, zL_zsLf, zI_zsA, zA_zsA, zJ_zsA, zL_zsA, zI_zsL, zA_zsL, zJ_zsL, zL_zsL, zn_eq, li0, li1, li2, li3, li4, li5, li6, li7, li8, li9, li10, li12, li13, li14, li16, li20, li21, li22, li23, li26, li30, li32, li40, li48, li50, li57, li59, li97, li99, li100, li122, li128, li180, li320, li500, li999, nI_add, pk_mul, subN, clampN, zg_ix, nlt, nle, neq, zn_eq, bind_s, ↓reduceIte, Nat.reduceAdd, Nat.reduceMul, Nat.reduceSub, Nat.reduceLeDiff, Nat.reduceEqDiff, Nat.add_zero, Nat.zero_add, Nat.reduceLT, Nat.mul_zero, upd_ne z, q3]⟩
  · by_cases z : k = j
    · subst z
      simp only [zI_zsI, zI_zsAf, zI_zsJ, zI_zsLf, zA_zsI, zA_zsAf, zA_zsJ, zA_zsLf, zJ_zsI, zJ_zsAf, zJ_zsJ, zJ_zsLf, zL_zsI, zL_zsAf, zL_zsJ, zL_zsLf, zI_zsA, zA_zsA, zJ_zsA, zL_zsA, zI_zsL, zA_zsL, zJ_zsL, zL_zsL, zn_eq, li0, li1, li2, li3, li4, li5, li6, li7, li8, li9, li10, li12, li13, li14, li16, li20, li21, li22, li23, li26, li30, li32, li40, li48, li50, li57, li59, li97, li99, li100, li122, li128, li180, li320, li500, li999, nI_add, pk_mul, subN, clampN, zg_ix, nlt, nle, neq, zn_eq, bind_s, ↓reduceIte, Nat.reduceAdd, Nat.reduceMul, Nat.reduceSub, Nat.reduceLeDiff, Nat.reduceEqDiff, Nat.add_zero, Nat.zero_add, Nat.reduceLT, Nat.mul_zero, upd_same]
    · simp only [zI_zsI, zI_zsAf, zI_zsJ, zI_zsLf, zA_zsI, zA_zsAf, zA_zsJ, zA_zsLf, zJ_zsI, zJ_zsAf, zJ_zsJ, zJ_zsLf, zL_zsI, zL_zsAf, zL_zsJ, zL_zsLf, zI_zsA, zA_zsA, zJ_zsA, zL_zsA, zI_zsL, zA_zsL, zJ_zsL, zL_zsL, zn_eq, li0, li1, li2, li3, li4, li5, li6, li7, li8, li9, li10, li12, li13, li14, li16, li20, li21, li22, li23, li26, li30, li32, li40, li48, li50, li57, li59, li97, li99, li100, li122, li128, li180, li320, li500, li999, nI_add, pk_mul, subN, clampN, zg_ix, nlt, nle, neq, zn_eq, bind_s, ↓reduceIte, Nat.reduceAdd, Nat.reduceMul, Nat.reduceSub, Nat.reduceLeDiff, Nat.reduceEqDiff, Nat.add_zero, Nat.zero_add, Nat.reduceLT, Nat.mul_zero, upd_ne z, g5]
  · intro f
    by_cases z : k = j
    · subst z
      simp only [zI_zsI, zI_zsAf, zI_zsJ, zI_zsLf, zA_zsI, zA_zsAf, zA_zsJ, zA_zsLf, zJ_zsI, zJ_zsAf, zJ_zsJ, zJ_zsLf, zL_zsI, zL_zsAf, zL_zsJ, zL_zsLf, zI_zsA, zA_zsA, zJ_zsA, zL_zsA, zI_zsL, zA_zsL, zJ_zsL, zL_zsL, zn_eq, li0, li1, li2, li3, li4, li5, li6, li7, li8, li9, li10, li12, li13, li14, li16, li20, li21, li22, li23, li26, li30, li32, li40, li48, li50, li57, li59, li97, li99, li100, li122, li128, li180, li320, li500, li999, nI_add, pk_mul, subN, clampN, zg_ix, nlt, nle, neq, zn_eq, bind_s, ↓reduceIte, Nat.reduceAdd, Nat.reduceMul, Nat.reduceSub, Nat.reduceLeDiff, Nat.reduceEqDiff, Nat.add_zero, Nat.zero_add, Nat.reduceLT, Nat.mul_zero, upd_same]
      exact hev f
    · simp only [zI_zsI, zI_zsAf, zI_zsJ, zI_zsLf, zA_zsI, zA_zsAf, zA_zsJ, zA_zsLf, zJ_zsI, zJ_zsAf, zJ_zsJ, zJ_zsLf, zL_zsI, zL_zsAf, zL_zsJ, zL_zsLf, zI_zsA, zA_zsA, zJ_zsA, zL_zsA, zI_zsL, zA_zsL, zJ_zsL, zL_zsL, zn_eq, li0, li1, li2, li3, li4, li5, li6, li7, li8, li9, li10, li12, li13, li14, li16, li20, li21, li22, li23, li26, li30, li32, li40, li48, li50, li57, li59, li97, li99, li100, li122, li128, li180, li320, li500, li999, nI_add, pk_mul, subN, clampN, zg_ix, nlt, nle, neq, zn_eq, bind_s, ↓reduceIte, Nat.reduceAdd, Nat.reduceMul, Nat.reduceSub, Nat.reduceLeDiff, Nat.reduceEqDiff, Nat.add_zero, Nat.zero_add, Nat.reduceLT, Nat.mul_zero, upd_ne z, g6 f]
def cput (M : zSt) (a x s : Nat) : zSt := if s = 0 then M else zsI (zsA (zsA (zsA (zsA M 41 (zI M 40).toNatClampNeg (nI a)) 42 (zI M 40).toNatClampNeg (nI x)) 43 (zI M 40).toNatClampNeg (nI s)) 44 (zI M 40).toNatClampNeg (zA M 34 a)) 40 (zI M 40 + 1)
theorem putIn_eq (M : zSt) (a x s n : Nat) (ha : a < 10) (hs : 1 ≤ s) (hn : n < 90) (h : zI M 40 = nI n) : fM_putIn M (nI a) (nI x) (nI s) = some (cput M a x s) := by
  have hs0 : ¬ s = 0 := by omega
  unfold cput
  rw [if_neg hs0]
  simp (disch := omega) only [fM_putIn, li0, li1, li2, li3, li4, li5, li6, li7, li8, li9, li10, li12, li13, li14, li16, li20, li21, li22, li23, li26, li30, li32, li40, li48, li50, li57, li59, li97, li99, li100, li122, li128, li180, li320, li500, li999, nI_add, pk_mul, subN, clampN, zg_ix, nlt, nle, neq, zn_eq, bind_s, ↓reduceIte, Nat.reduceAdd, Nat.reduceMul, Nat.reduceSub, Nat.reduceLeDiff, Nat.reduceEqDiff, Nat.add_zero, Nat.zero_add, Nat.reduceLT, Nat.mul_zero, zI_zsI, zI_zsAf, zI_zsJ, zI_zsLf, zA_zsI, zA_zsAf, zA_zsJ, zA_zsLf, zJ_zsI, zJ_zsAf, zJ_zsJ, zJ_zsLf, zL_zsI, zL_zsAf, zL_zsJ, zL_zsLf, zI_zsA, zA_zsA, zJ_zsA, zL_zsA, zI_zsL, zA_zsL, zJ_zsL, zL_zsL, zn_eq, h]
theorem cput_MF (M : zSt) (a x s : Nat) : MF M (cput M a x s) := by
  unfold cput
  split
  · exact MF.refl M
  · refine ⟨fun k a b c => ?_, fun k h => ?_⟩
    · simp only [zI_zsI, zI_zsAf, zI_zsJ, zI_zsLf, zA_zsI, zA_zsAf, zA_zsJ, zA_zsLf, zJ_zsI, zJ_zsAf, zJ_zsJ, zJ_zsLf, zL_zsI, zL_zsAf, zL_zsJ, zL_zsLf, zI_zsA, zA_zsA, zJ_zsA, zL_zsA, zI_zsL, zA_zsL, zJ_zsL, zL_zsL, zn_eq, li0, li1, li2, li3, li4, li5, li6, li7, li8, li9, li10, li12, li13, li14, li16, li20, li21, li22, li23, li26, li30, li32, li40, li48, li50, li57, li59, li97, li99, li100, li122, li128, li180, li320, li500, li999, nI_add, pk_mul, subN, clampN, zg_ix, nlt, nle, neq, zn_eq, bind_s, ↓reduceIte, Nat.reduceAdd, Nat.reduceMul, Nat.reduceSub, Nat.reduceLeDiff, Nat.reduceEqDiff, Nat.add_zero, Nat.zero_add, Nat.reduceLT, Nat.mul_zero, c]
    · simp only [zI_zsI, zI_zsAf, zI_zsJ, zI_zsLf, zA_zsI, zA_zsAf, zA_zsJ, zA_zsLf, zJ_zsI, zJ_zsAf, zJ_zsJ, zJ_zsLf, zL_zsI, zL_zsAf, zL_zsJ, zL_zsLf, zI_zsA, zA_zsA, zJ_zsA, zL_zsA, zI_zsL, zA_zsL, zJ_zsL, zL_zsL, zn_eq]
      rw [if_neg (by omega), if_neg (by omega), if_neg (by omega), if_neg (by omega)]
theorem cput_34 (M : zSt) (a x s : Nat) : zA (cput M a x s) 34 = zA M 34 := by
  unfold cput
  split <;> rfl
theorem put_sim {fb : Prop} {S C M : zSt} {l i t N a x s w : Nat} (h : CR fb S C M l i t N) (hN : N < 50) (ht : t ≤ 10) (ha : a < t) (hx : x < 3) (hs : s ≤ 99) (hw : zA M 34 a = nI w) (hw1 : 1 ≤ w) (hw2 : w ≤ 5000) : ∃ C', fC_notePut C (nI a) (nI x) (nI s) = some C' ∧ CR fb S C' (cput M a x s) l i t (N + 1) ∧ zI C' 4 = zI C 4 := by
  by_cases z : s = 0
  · subst z
    refine ⟨C, ?_, h.mono (Nat.le_refl _) (by omega), rfl⟩
    simp (disch := omega) only [fC_notePut, li0, li1, li2, li3, li4, li5, li6, li7, li8, li9, li10, li12, li13, li14, li16, li20, li21, li22, li23, li26, li30, li32, li40, li48, li50, li57, li59, li97, li99, li100, li122, li128, li180, li320, li500, li999, nI_add, pk_mul, subN, clampN, zg_ix, nlt, nle, neq, zn_eq, bind_s, ↓reduceIte, Nat.reduceAdd, Nat.reduceMul, Nat.reduceSub, Nat.reduceLeDiff, Nat.reduceEqDiff, Nat.add_zero, Nat.zero_add, Nat.reduceLT, Nat.mul_zero]
  obtain ⟨la, n, h1, h2, h3, h4, h5, h6, h7, h8, h9, h10, h11, h12⟩ := h
  obtain ⟨g1, g2, g3, g4, g5, g6, ⟨w', g7, g8, g8'⟩, g9⟩ := h8 a ha
  have hww : nI w' = nI w := g8'.symm.trans hw
  rw [hww] at g8
  have hs1 : ¬ s ≤ 0 := by omega
  have hn : n < 50 := by omega
  have hcn := cnt_le (zA M 41) (nI a) n
  refine ⟨zsA (zsI (zsA (zsA (zsA (zsA C 14 n (nI a)) 15 n (nI x)) 16 n (nI s)) 17 n (nI w)) 13 (nI (n + 1))) 12 a (nI (cnt (zA M 41) (nI a) n + 1)), ?_, ?_, rfl⟩
  · simp (disch := omega) only [fC_notePut, li0, li1, li2, li3, li4, li5, li6, li7, li8, li9, li10, li12, li13, li14, li16, li20, li21, li22, li23, li26, li30, li32, li40, li48, li50, li57, li59, li97, li99, li100, li122, li128, li180, li320, li500, li999, nI_add, pk_mul, subN, clampN, zg_ix, nlt, nle, neq, zn_eq, bind_s, ↓reduceIte, Nat.reduceAdd, Nat.reduceMul, Nat.reduceSub, Nat.reduceLeDiff, Nat.reduceEqDiff, Nat.add_zero, Nat.zero_add, Nat.reduceLT, Nat.mul_zero, zI_zsI, zI_zsAf, zI_zsJ, zI_zsLf, zA_zsI, zA_zsAf, zA_zsJ, zA_zsLf, zJ_zsI, zJ_zsAf, zJ_zsJ, zJ_zsLf, zL_zsI, zL_zsAf, zL_zsJ, zL_zsLf, zI_zsA, zA_zsA, zJ_zsA, zL_zsA, zI_zsL, zA_zsL, zJ_zsL, zL_zsL, zn_eq, h9, hn, hs1, g8, g9, Nat.not_lt_zero]
  · unfold cput
    rw [if_neg z, h10, clampN (by omega), nI_1]
    refine ⟨la, n + 1, h1, h2, h3, h4, h5, h6, h7, fun k hk => ?_, rfl, rfl, by omega, fun k hk => ?_⟩
    · obtain ⟨f1, f2, f3, f4, f5, f6, f7, f8⟩ := h8 k hk
      refine ⟨f1, f2, f3, f4, f5, f6, f7, ?_⟩
      have e0 : zA (zsI (zsA (zsA (zsA (zsA M 41 n (nI a)) 42 n (nI x)) 43 n (nI s)) 44 n (zA M 34 a)) 40 (nI (n + 1))) 41 = upd (zA M 41) n (nI a) := rfl
      rw [e0]
      have e1 : cnt (upd (zA M 41) n (nI a)) (nI k) n = cnt (zA M 41) (nI k) n := cnt_congr _ _ _ _ (fun q hq => upd_ne (by omega))
      simp only [cnt, e1, upd_same]
      by_cases y : k = a
      · subst y
        simp only [zI_zsI, zI_zsAf, zI_zsJ, zI_zsLf, zA_zsI, zA_zsAf, zA_zsJ, zA_zsLf, zJ_zsI, zJ_zsAf, zJ_zsJ, zJ_zsLf, zL_zsI, zL_zsAf, zL_zsJ, zL_zsLf, zI_zsA, zA_zsA, zJ_zsA, zL_zsA, zI_zsL, zA_zsL, zJ_zsL, zL_zsL, zn_eq, li0, li1, li2, li3, li4, li5, li6, li7, li8, li9, li10, li12, li13, li14, li16, li20, li21, li22, li23, li26, li30, li32, li40, li48, li50, li57, li59, li97, li99, li100, li122, li128, li180, li320, li500, li999, nI_add, pk_mul, subN, clampN, zg_ix, nlt, nle, neq, zn_eq, bind_s, ↓reduceIte, Nat.reduceAdd, Nat.reduceMul, Nat.reduceSub, Nat.reduceLeDiff, Nat.reduceEqDiff, Nat.add_zero, Nat.zero_add, Nat.reduceLT, Nat.mul_zero, upd_same]
      · have y1 : ¬ nI a = nI k := by rw [neq (by omega) (by omega)]; omega
        simp only [zI_zsI, zI_zsAf, zI_zsJ, zI_zsLf, zA_zsI, zA_zsAf, zA_zsJ, zA_zsLf, zJ_zsI, zJ_zsAf, zJ_zsJ, zJ_zsLf, zL_zsI, zL_zsAf, zL_zsJ, zL_zsLf, zI_zsA, zA_zsA, zJ_zsA, zL_zsA, zI_zsL, zA_zsL, zJ_zsL, zL_zsL, zn_eq, li0, li1, li2, li3, li4, li5, li6, li7, li8, li9, li10, li12, li13, li14, li16, li20, li21, li22, li23, li26, li30, li32, li40, li48, li50, li57, li59, li97, li99, li100, li122, li128, li180, li320, li500, li999, nI_add, pk_mul, subN, clampN, zg_ix, nlt, nle, neq, zn_eq, bind_s, ↓reduceIte, Nat.reduceAdd, Nat.reduceMul, Nat.reduceSub, Nat.reduceLeDiff, Nat.reduceEqDiff, Nat.add_zero, Nat.zero_add, Nat.reduceLT, Nat.mul_zero, upd_ne y, y1, f8]
    · by_cases y : k = n
      · subst y
        refine ⟨a, x, s, w, ha, hx, by omega, hs, hw1, hw2, ⟨?_, ?_⟩, ⟨?_, ?_⟩, ⟨?_, ?_⟩, ⟨?_, ?_⟩⟩ <;> simp only [zI_zsI, zI_zsAf, zI_zsJ, zI_zsLf, zA_zsI, zA_zsAf, zA_zsJ, zA_zsLf, zJ_zsI, zJ_zsAf, zJ_zsJ, zJ_zsLf, zL_zsI, zL_zsAf, zL_zsJ, zL_zsLf, zI_zsA, zA_zsA, zJ_zsA, zL_zsA, zI_zsL, zA_zsL, zJ_zsL, zL_zsL, zn_eq, li0, li1, li2, li3, li4, li5, li6, li7, li8, li9, li10, li12, li13, li14, li16, li20, li21, li22, li23, li26, li30, li32, li40, li48, li50, li57, li59, li97, li99, li100, li122, li128, li180, li320, li500, li999, nI_add, pk_mul, subN, clampN, zg_ix, nlt, nle, neq, zn_eq, bind_s, ↓reduceIte, Nat.reduceAdd, Nat.reduceMul, Nat.reduceSub, Nat.reduceLeDiff, Nat.reduceEqDiff, Nat.add_zero, Nat.zero_add, Nat.reduceLT, Nat.mul_zero, upd_same, hw]
      · obtain ⟨a', p', s', w'', f1, f2, f3, f4, f5, f6, ⟨f7, f8⟩, ⟨f9, f10⟩, ⟨f11, f12⟩, f13, f14⟩ := h12 k (by omega)
        refine ⟨a', p', s', w'', f1, f2, f3, f4, f5, f6, ⟨?_, ?_⟩, ⟨?_, ?_⟩, ⟨?_, ?_⟩, ⟨?_, ?_⟩⟩ <;> simp only [zI_zsI, zI_zsAf, zI_zsJ, zI_zsLf, zA_zsI, zA_zsAf, zA_zsJ, zA_zsLf, zJ_zsI, zJ_zsAf, zJ_zsJ, zJ_zsLf, zL_zsI, zL_zsAf, zL_zsJ, zL_zsLf, zI_zsA, zA_zsA, zJ_zsA, zL_zsA, zI_zsL, zA_zsL, zJ_zsL, zL_zsL, zn_eq, li0, li1, li2, li3, li4, li5, li6, li7, li8, li9, li10, li12, li13, li14, li16, li20, li21, li22, li23, li26, li30, li32, li40, li48, li50, li57, li59, li97, li99, li100, li122, li128, li180, li320, li500, li999, nI_add, pk_mul, subN, clampN, zg_ix, nlt, nle, neq, zn_eq, bind_s, ↓reduceIte, Nat.reduceAdd, Nat.reduceMul, Nat.reduceSub, Nat.reduceLeDiff, Nat.reduceEqDiff, Nat.add_zero, Nat.zero_add, Nat.reduceLT, Nat.mul_zero, upd_ne y, f7, f8, f9, f10, f11, f12, f13, f14]
/-- moves on both sides -/
theorem moveC_s (n : Nat) (C S : zSt) (x y : Int32) : fC_moveTo_l18 (n + 1) C S x y = fC_moveTo_l18b (fun v0 v1 v2 v3 => fC_moveTo_l18 n v0 v1 v2 v3) C S x y := rfl
theorem moveM_s (n : Nat) (M : zSt) (x y z : Int32) : fM_move_l7 (n + 1) M x y z = fM_move_l7b (fun v0 v1 v2 v3 => fM_move_l7 n v0 v1 v2 v3) M x y z := rfl
theorem fall_both {fb : Prop} {S C M : zSt} {l i t N j : Nat} {ev ev' r : Int32} (h : CR fb S C M l i t N) (hl : l ≤ 4) (hL : ∀ la, la < l → LawR S (zA M 9) la) (ht : t ≤ 10) (hj : j < t) (hev : fb → ev = ev') : ∃ C' M', fC_fall C S (nI j) ev r = some C' ∧ fM_fall M (nI j) ev' r = some M' ∧ CR fb S C' M' l i t N ∧ MF M M' ∧ zI C' 4 = zI C 4 ∧ zI C' 1 = zI C 1 ∧ zI M' 28 = zI M 28 ∧ zI M' 26 = zI M 26 := by
  have h' := h
  obtain ⟨la, n, h1, h2, h3, h4, h5, h6, h7, h8, h9, h10, h11, h12⟩ := h'
  obtain ⟨p, r', hp, e1, e2⟩ := fall_sim S C M j la ev ev' r (by omega) (by omega) h2 h3 (hL la h1) (h8 j hj).1 h4
  refine ⟨_, _, e1, e2, CR_fall h hp hev, ⟨fun _ _ _ _ => rfl, fun k hk => ?_⟩, rfl, rfl, rfl, rfl⟩
  simp only [zI_zsI, zI_zsAf, zI_zsJ, zI_zsLf, zA_zsI, zA_zsAf, zA_zsJ, zA_zsLf, zJ_zsI, zJ_zsAf, zJ_zsJ, zJ_zsLf, zL_zsI, zL_zsAf, zL_zsJ, zL_zsLf, zI_zsA, zA_zsA, zJ_zsA, zL_zsA, zI_zsL, zA_zsL, zJ_zsL, zL_zsL, zn_eq]
  rw [if_neg (by omega), if_neg (by omega), if_neg (by omega)]
theorem move_loop {fb : Prop} {S : zSt} {l i t N la : Nat} {ev ev' : Int32} (hl : l ≤ 4) (hla : la < l) (ht : t ≤ 10) (hev : fb → ev = ev') : ∀ (d f f' j : Nat) (C M : zSt), j + d = t → d < f → d < f' → CR fb S C M l i t N → (∀ la, la < l → LawR S (zA M 9) la) → zA M 9 (8 * la + 6) = nI 1 → ∃ C' M', fC_moveTo_l18 f C S ev (nI j) = some C' ∧ fM_move_l7 f' M (nI la) ev' (nI j) = some M' ∧ CR fb S C' M' l i t N ∧ MF M M' := by
  intro d
  induction d with
  | zero =>
    intro f f' j C M hd hf hf' h hL hm
    obtain ⟨n, rfl⟩ : ∃ n, f = n + 1 := ⟨f - 1, by omega⟩
    obtain ⟨n', rfl⟩ : ∃ n, f' = n + 1 := ⟨f' - 1, by omega⟩
    have h' := h
    obtain ⟨lb, n1, h1, h2, h3, h4, h5, h6, h7, h8, h9, h10, h11, h12⟩ := h'
    have hj : t ≤ j := by omega
    refine ⟨C, M, ?_, ?_, h, MF.refl M⟩
    · rw [moveC_s]
      simp (disch := omega) only [fC_moveTo_l18b, li0, li1, li2, li3, li4, li5, li6, li7, li8, li9, li10, li12, li13, li14, li16, li20, li21, li22, li23, li26, li30, li32, li40, li48, li50, li57, li59, li97, li99, li100, li122, li128, li180, li320, li500, li999, nI_add, pk_mul, subN, clampN, zg_ix, nlt, nle, neq, zn_eq, bind_s, ↓reduceIte, Nat.reduceAdd, Nat.reduceMul, Nat.reduceSub, Nat.reduceLeDiff, Nat.reduceEqDiff, Nat.add_zero, Nat.zero_add, Nat.reduceLT, Nat.mul_zero, h6, hj]
    · rw [moveM_s]
      simp (disch := omega) only [fM_move_l7b, li0, li1, li2, li3, li4, li5, li6, li7, li8, li9, li10, li12, li13, li14, li16, li20, li21, li22, li23, li26, li30, li32, li40, li48, li50, li57, li59, li97, li99, li100, li122, li128, li180, li320, li500, li999, nI_add, pk_mul, subN, clampN, zg_ix, nlt, nle, neq, zn_eq, bind_s, ↓reduceIte, Nat.reduceAdd, Nat.reduceMul, Nat.reduceSub, Nat.reduceLeDiff, Nat.reduceEqDiff, Nat.add_zero, Nat.zero_add, Nat.reduceLT, Nat.mul_zero, h7, hj]
  | succ d ih =>
    intro f f' j C M hd hf hf' h hL hm
    obtain ⟨n, rfl⟩ : ∃ n, f = n + 1 := ⟨f - 1, by omega⟩
    obtain ⟨n', rfl⟩ : ∃ n, f' = n + 1 := ⟨f' - 1, by omega⟩
    have h' := h
    obtain ⟨lb, n1, h1, h2, h3, h4, h5, h6, h7, h8, h9, h10, h11, h12⟩ := h'
    have hj : ¬ t ≤ j := by omega
    obtain ⟨C1, M1, e1, e2, k1, k2, k3, k4, k5, k6⟩ := fall_both (r := nI 2) h hl hL ht (by omega : j < t) hev
    have e9 : zA M1 9 = zA M 9 := k2.2 9 (by omega)
    obtain ⟨C2, M2, f1, f2, f3, f4⟩ := ih n n' (j + 1) C1 M1 (by omega) (by omega) (by omega) k1 (by rw [e9]; exact hL) (by rw [e9]; exact hm)
    refine ⟨C2, M2, ?_, ?_, f3, k2.trans f4⟩
    · rw [moveC_s]
      simp (disch := omega) only [fC_moveTo_l18b, li0, li1, li2, li3, li4, li5, li6, li7, li8, li9, li10, li12, li13, li14, li16, li20, li21, li22, li23, li26, li30, li32, li40, li48, li50, li57, li59, li97, li99, li100, li122, li128, li180, li320, li500, li999, nI_add, pk_mul, subN, clampN, zg_ix, nlt, nle, neq, zn_eq, bind_s, ↓reduceIte, Nat.reduceAdd, Nat.reduceMul, Nat.reduceSub, Nat.reduceLeDiff, Nat.reduceEqDiff, Nat.add_zero, Nat.zero_add, Nat.reduceLT, Nat.mul_zero, h6, hj, e1, f1]
    · rw [moveM_s]
      simp (disch := omega) only [fM_move_l7b, li0, li1, li2, li3, li4, li5, li6, li7, li8, li9, li10, li12, li13, li14, li16, li20, li21, li22, li23, li26, li30, li32, li40, li48, li50, li57, li59, li97, li99, li100, li122, li128, li180, li320, li500, li999, nI_add, pk_mul, subN, clampN, zg_ix, nlt, nle, neq, zn_eq, bind_s, ↓reduceIte, Nat.reduceAdd, Nat.reduceMul, Nat.reduceSub, Nat.reduceLeDiff, Nat.reduceEqDiff, Nat.add_zero, Nat.zero_add, Nat.reduceLT, Nat.mul_zero, h7, hj, e2, hm, f2]
theorem moveM_no (n : Nat) (M : zSt) (la j t : Nat) (ev : Int32) (hla : la < 4) (ht : t ≤ 10) (hj : j ≤ 10) (h7 : zI M 28 = nI t) (hm : ¬ zA M 9 (8 * la + 6) = nI 1) : fM_move_l7 (n + 1) M (nI la) ev (nI j) = some M := by
  rw [moveM_s]
  by_cases z : t ≤ j
  · simp (disch := omega) only [fM_move_l7b, li0, li1, li2, li3, li4, li5, li6, li7, li8, li9, li10, li12, li13, li14, li16, li20, li21, li22, li23, li26, li30, li32, li40, li48, li50, li57, li59, li97, li99, li100, li122, li128, li180, li320, li500, li999, nI_add, pk_mul, subN, clampN, zg_ix, nlt, nle, neq, zn_eq, bind_s, ↓reduceIte, Nat.reduceAdd, Nat.reduceMul, Nat.reduceSub, Nat.reduceLeDiff, Nat.reduceEqDiff, Nat.add_zero, Nat.zero_add, Nat.reduceLT, Nat.mul_zero, h7, z]
  · simp (disch := omega) only [fM_move_l7b, li0, li1, li2, li3, li4, li5, li6, li7, li8, li9, li10, li12, li13, li14, li16, li20, li21, li22, li23, li26, li30, li32, li40, li48, li50, li57, li59, li97, li99, li100, li122, li128, li180, li320, li500, li999, nI_add, pk_mul, subN, clampN, zg_ix, nlt, nle, neq, zn_eq, bind_s, ↓reduceIte, Nat.reduceAdd, Nat.reduceMul, Nat.reduceSub, Nat.reduceLeDiff, Nat.reduceEqDiff, Nat.add_zero, Nat.zero_add, Nat.reduceLT, Nat.mul_zero, h7, z, hm]
theorem move_sim {fb : Prop} {S C M : zSt} {l i t N la : Nat} {ev ev' : Int32} (h : CR fb S C M l i t N) (hl : l ≤ 4) (hL : ∀ la, la < l → LawR S (zA M 9) la) (ht : t ≤ 10) (hla : la < l) (hev : fb → ev = ev') : ∃ C' M', fC_moveTo C S (nI la) ev = some C' ∧ fM_move M (nI la) ev' = some M' ∧ CR fb S C' M' l i t N ∧ MF M M' := by
  have k0 : CR fb S (zsI C 1 (nI la)) (zsI M 26 (nI la)) l i t N := by
    obtain ⟨lb, n, h1, h2, h3, h4, h5, h6, h7, h8, h9, h10, h11, h12⟩ := h
    exact ⟨la, n, hla, rfl, rfl, h4, h5, h6, h7, h8, h9, h10, h11, h12⟩
  have k1 : MF M (zsI M 26 (nI la)) := by
    refine ⟨fun k a b c => ?_, fun _ _ => rfl⟩
    simp only [zI_zsI, zI_zsAf, zI_zsJ, zI_zsLf, zA_zsI, zA_zsAf, zA_zsJ, zA_zsLf, zJ_zsI, zJ_zsAf, zJ_zsJ, zJ_zsLf, zL_zsI, zL_zsAf, zL_zsJ, zL_zsLf, zI_zsA, zA_zsA, zJ_zsA, zL_zsA, zI_zsL, zA_zsL, zJ_zsL, zL_zsL, zn_eq, li0, li1, li2, li3, li4, li5, li6, li7, li8, li9, li10, li12, li13, li14, li16, li20, li21, li22, li23, li26, li30, li32, li40, li48, li50, li57, li59, li97, li99, li100, li122, li128, li180, li320, li500, li999, nI_add, pk_mul, subN, clampN, zg_ix, nlt, nle, neq, zn_eq, bind_s, ↓reduceIte, Nat.reduceAdd, Nat.reduceMul, Nat.reduceSub, Nat.reduceLeDiff, Nat.reduceEqDiff, Nat.add_zero, Nat.zero_add, Nat.reduceLT, Nat.mul_zero, a]
  have g4 : zA S 6 la = zA M 9 (8 * la + 6) := by
    obtain ⟨m, o, hu, hm, ho, hhu, g1, ⟨g2, g3⟩, g4, g5, g6⟩ := hL la hla
    exact g5
  by_cases z : zA M 9 (8 * la + 6) = nI 1
  · obtain ⟨C', M', e1, e2, e3, e4⟩ := move_loop (ev := ev) (ev' := ev') hl hla ht hev t zF zF 0 _ _ (by omega) (by unfold zF; omega) (by unfold zF; omega) k0 hL z
    refine ⟨C', M', ?_, ?_, e3, k1.trans e4⟩
    · rw [z] at g4
      simp (disch := omega) only [fC_moveTo, fS_movesAll, li0, li1, li2, li3, li4, li5, li6, li7, li8, li9, li10, li12, li13, li14, li16, li20, li21, li22, li23, li26, li30, li32, li40, li48, li50, li57, li59, li97, li99, li100, li122, li128, li180, li320, li500, li999, nI_add, pk_mul, subN, clampN, zg_ix, nlt, nle, neq, zn_eq, bind_s, ↓reduceIte, Nat.reduceAdd, Nat.reduceMul, Nat.reduceSub, Nat.reduceLeDiff, Nat.reduceEqDiff, Nat.add_zero, Nat.zero_add, Nat.reduceLT, Nat.mul_zero, g4]
      exact e1
    · exact e2
  · refine ⟨_, _, ?_, ?_, k0, k1⟩
    · rw [← g4] at z
      simp (disch := omega) only [fC_moveTo, fS_movesAll, li0, li1, li2, li3, li4, li5, li6, li7, li8, li9, li10, li12, li13, li14, li16, li20, li21, li22, li23, li26, li30, li32, li40, li48, li50, li57, li59, li97, li99, li100, li122, li128, li180, li320, li500, li999, nI_add, pk_mul, subN, clampN, zg_ix, nlt, nle, neq, zn_eq, bind_s, ↓reduceIte, Nat.reduceAdd, Nat.reduceMul, Nat.reduceSub, Nat.reduceLeDiff, Nat.reduceEqDiff, Nat.add_zero, Nat.zero_add, Nat.reduceLT, Nat.mul_zero, z]
      rfl
    · have h7 : zI M 28 = nI t := by
        obtain ⟨lb, n, h1, h2, h3, h4, h5, h6, h7, h8, h9, h10, h11, h12⟩ := h
        exact h7
      exact moveM_no 999 _ la 0 t ev' (by omega) ht (by omega) h7 z
