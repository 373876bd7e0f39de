/-! SUMS: the beginnings, and the puts -/
theorem ls2_s (n : Nat) (M : zSt) (x : Int32) : fM_laySums_l2 (n + 1) M x = fM_laySums_l2b (fun v0 v1 => fM_laySums_l2 n v0 v1) M x := rfl
theorem ls30_s (n : Nat) (M : zSt) (x : Int32) : fM_laySums_l30 (n + 1) M x = fM_laySums_l30b (fun v0 v1 => fM_laySums_l30 n v0 v1) M x := rfl
theorem th2_s (n : Nat) (U C : zSt) (x : Int32) : fU_addThings_l2 (n + 1) U C x = fU_addThings_l2b (fun v0 v1 v2 => fU_addThings_l2 n v0 v1 v2) U C x := rfl
theorem ls2_run : ∀ (d j f : Nat) (M : zSt), j + d = 9 → d < f → ∃ M', fM_laySums_l2 f M (nI j) = fM_laySums_l30 zF M' (nI 0) ∧ ML M M' ∧ (∀ k, j ≤ k → k < 9 → zL M' 47 k = 0 ∧ zL M' 48 k = 0) ∧ (∀ k, k < j → zL M' 47 k = zL M 47 k ∧ zL M' 48 k = zL M 48 k) := by
  intro d
  induction d with
  | zero =>
    intro j f M hd hf
    obtain ⟨n, rfl⟩ : ∃ n, f = n + 1 := ⟨f - 1, by omega⟩
    have hj : 9 ≤ j := by omega
    refine ⟨M, ?_, ML.refl M, fun k a b => by omega, fun _ _ => ⟨rfl, rfl⟩⟩
    rw [ls2_s]
    simp (disch := omega) only [fM_laySums_l2b, li0, li1, li2, li3, li4, li5, li6, li7, li8, li9, li10, li12, li13, li14, li16, li20, li21, li22, li23, li26, li30, li32, li40, li48, li50, li57, li59, li97, li99, li100, li122, li128, li180, li320, li500, li999, nI_add, pk_mul, subN, clampN, zg_ix, nlt, nle, neq, zn_eq, bind_s, ↓reduceIte, Nat.reduceAdd, Nat.reduceMul, Nat.reduceSub, Nat.reduceLeDiff, Nat.reduceEqDiff, Nat.add_zero, Nat.zero_add, Nat.reduceLT, Nat.mul_zero, hj]
  | succ d ih =>
    intro j f M hd hf
    obtain ⟨n, rfl⟩ : ∃ n, f = n + 1 := ⟨f - 1, by omega⟩
    have hj : ¬ 9 ≤ j := by omega
    obtain ⟨M', e1, e2, e3, e4⟩ := ih (j + 1) n (zsL (zsL M 47 j 0) 48 j 0) (by omega) (by omega)
    refine ⟨M', ?_, ((ML_L _ _ _ _).trans (ML_L _ _ _ _)).trans e2, fun k a b => ?_, fun k a => ?_⟩
    · rw [ls2_s, ← e1]
      simp (disch := omega) only [fM_laySums_l2b, li0, li1, li2, li3, li4, li5, li6, li7, li8, li9, li10, li12, li13, li14, li16, li20, li21, li22, li23, li26, li30, li32, li40, li48, li50, li57, li59, li97, li99, li100, li122, li128, li180, li320, li500, li999, nI_add, pk_mul, subN, clampN, zg_ix, nlt, nle, neq, zn_eq, bind_s, ↓reduceIte, Nat.reduceAdd, Nat.reduceMul, Nat.reduceSub, Nat.reduceLeDiff, Nat.reduceEqDiff, Nat.add_zero, Nat.zero_add, Nat.reduceLT, Nat.mul_zero, hj]
    · by_cases z : k = j
      · subst z
        have := e4 k (by omega)
        simp only [zI_zsI, zI_zsAf, zI_zsJ, zI_zsLf, zA_zsI, zA_zsAf, zA_zsJ, zA_zsLf, zJ_zsI, zJ_zsAf, zJ_zsJ, zJ_zsLf, zL_zsI, zL_zsAf, zL_zsJ, zL_zsLf, zI_zsA, zA_zsA, zJ_zsA, zL_zsA, zI_zsL, zA_zsL, zJ_zsL, zL_zsL, zn_eq, li0, li1, li2, li3, li4, li5, li6, li7, li8, li9, li10, li12, li13, li14, li16, li20, li21, li22, li23, li26, li30, li32, li40, li48, li50, li57, li59, li97, li99, li100, li122, li128, li180, li320, li500, li999, nI_add, pk_mul, subN, clampN, zg_ix, nlt, nle, neq, zn_eq, bind_s, ↓reduceIte, Nat.reduceAdd, Nat.reduceMul, Nat.reduceSub, Nat.reduceLeDiff, Nat.reduceEqDiff, Nat.add_zero, Nat.zero_add, Nat.reduceLT, Nat.mul_zero, updL_same] at this
        exact this
      · exact e3 k (by omega) b
    · have := e4 k (by omega)
      have z : k ≠ j := by omega
      simp only [zI_zsI, zI_zsAf, zI_zsJ, zI_zsLf, zA_zsI, zA_zsAf, zA_zsJ, zA_zsLf, zJ_zsI, zJ_zsAf, zJ_zsJ, zJ_zsLf, zL_zsI, zL_zsAf, zL_zsJ, zL_zsLf, zI_zsA, zA_zsA, zJ_zsA, zL_zsA, zI_zsL, zA_zsL, zJ_zsL, zL_zsL, zn_eq, li0, li1, li2, li3, li4, li5, li6, li7, li8, li9, li10, li12, li13, li14, li16, li20, li21, li22, li23, li26, li30, li32, li40, li48, li50, li57, li59, li97, li99, li100, li122, li128, li180, li320, li500, li999, nI_add, pk_mul, subN, clampN, zg_ix, nlt, nle, neq, zn_eq, bind_s, ↓reduceIte, Nat.reduceAdd, Nat.reduceMul, Nat.reduceSub, Nat.reduceLeDiff, Nat.reduceEqDiff, Nat.add_zero, Nat.zero_add, Nat.reduceLT, Nat.mul_zero, updL_ne z] at this
      exact this
/-- the first three: has and came of each purse -/
theorem begin_run {C : zSt} {D : Nat → Nat} (hD : ∀ p, p < 3 → D p ≤ 2970 ∧ zA C 3 p = nI (D p)) : ∀ (d j f f' : Nat) (U M : zSt), j + d = 3 → d < f → d < f' → (∀ p, p < 3 → zA M 39 p = nI (D p)) → ∃ U' M', fU_addThings_l2 f U C (nI j) = fU_addThings_l43 zF U' C (nI 0) ∧ fM_laySums_l30 f' M (nI j) = fM_laySums_l64 zF M' (nI 0) ∧ ML M M' ∧ (∀ k, 47 ≤ k → zL M' k = zL M k) ∧ (∀ p, j ≤ p → p < 3 → zL U' 0 p = Int64.ofInt (-(D p : Int)) ∧ zL M' 45 p = Int64.ofInt (-(D p : Int)) ∧ zL U' 1 p = Int64.ofInt 0 ∧ zL M' 46 p = Int64.ofInt 0 ∧ zA U' 2 p = nI 0) ∧ (∀ p, p < j → zL U' 0 p = zL U 0 p ∧ zL M' 45 p = zL M 45 p ∧ zL U' 1 p = zL U 1 p ∧ zL M' 46 p = zL M 46 p ∧ zA U' 2 p = zA U 2 p) := by
  intro d
  induction d with
  | zero =>
    intro j f f' U M hd hf hf' hm
    obtain ⟨n, rfl⟩ : ∃ n, f = n + 1 := ⟨f - 1, by omega⟩
    obtain ⟨n', rfl⟩ : ∃ n, f' = n + 1 := ⟨f' - 1, by omega⟩
    have hj : 3 ≤ j := by omega
    refine ⟨U, M, ?_, ?_, ML.refl M, fun _ _ => rfl, fun p a b => by omega, fun _ _ => ⟨rfl, rfl, rfl, rfl, rfl⟩⟩
    · rw [th2_s]
      simp (disch := omega) only [fU_addThings_l2b, li0, li1, li2, li3, li4, li5, li6, li7, li8, li9, li10, li12, li13, li14, li16, li20, li21, li22, li23, li26, li30, li32, li40, li48, li50, li57, li59, li97, li99, li100, li122, li128, li180, li320, li500, li999, nI_add, pk_mul, subN, clampN, zg_ix, nlt, nle, neq, zn_eq, bind_s, ↓reduceIte, Nat.reduceAdd, Nat.reduceMul, Nat.reduceSub, Nat.reduceLeDiff, Nat.reduceEqDiff, Nat.add_zero, Nat.zero_add, Nat.reduceLT, Nat.mul_zero, hj]
    · rw [ls30_s]
      simp (disch := omega) only [fM_laySums_l30b, li0, li1, li2, li3, li4, li5, li6, li7, li8, li9, li10, li12, li13, li14, li16, li20, li21, li22, li23, li26, li30, li32, li40, li48, li50, li57, li59, li97, li99, li100, li122, li128, li180, li320, li500, li999, nI_add, pk_mul, subN, clampN, zg_ix, nlt, nle, neq, zn_eq, bind_s, ↓reduceIte, Nat.reduceAdd, Nat.reduceMul, Nat.reduceSub, Nat.reduceLeDiff, Nat.reduceEqDiff, Nat.add_zero, Nat.zero_add, Nat.reduceLT, Nat.mul_zero, hj]
  | succ d ih =>
    intro j f f' U M hd hf hf' hm
    obtain ⟨n, rfl⟩ : ∃ n, f = n + 1 := ⟨f - 1, by omega⟩
    obtain ⟨n', rfl⟩ : ∃ n, f' = n + 1 := ⟨f' - 1, by omega⟩
    have hj : ¬ 3 ≤ j := by omega
    obtain ⟨hd1, hd2⟩ := hD j (by omega)
    have hd3 := hm j (by omega)
    obtain ⟨U', M', e1, e2, e3, e4, e5, e6⟩ := ih (j + 1) n n' (zsA (zsL (zsL U 0 j (Int64.ofInt (-(D j : Int)))) 1 j 0) 2 j (nI 0)) (zsL (zsL M 45 j (Int64.ofInt (-(D j : Int)))) 46 j 0) (by omega) (by omega) (by omega) hm
    refine ⟨U', M', ?_, ?_, ((ML_L _ _ _ _).trans (ML_L _ _ _ _)).trans e3, fun k hk => ?_, fun p a b => ?_, fun p a => ?_⟩
    · rw [th2_s, ← e1]
      simp (disch := omega) only [fU_addThings_l2b, li0, li1, li2, li3, li4, li5, li6, li7, li8, li9, li10, li12, li13, li14, li16, li20, li21, li22, li23, li26, li30, li32, li40, li48, li50, li57, li59, li97, li99, li100, li122, li128, li180, li320, li500, li999, nI_add, pk_mul, subN, clampN, zg_ix, nlt, nle, neq, zn_eq, bind_s, ↓reduceIte, Nat.reduceAdd, Nat.reduceMul, Nat.reduceSub, Nat.reduceLeDiff, Nat.reduceEqDiff, Nat.add_zero, Nat.zero_add, Nat.reduceLT, Nat.mul_zero, hj, hd2, neg64]
    · rw [ls30_s, ← e2]
      simp (disch := omega) only [fM_laySums_l30b, li0, li1, li2, li3, li4, li5, li6, li7, li8, li9, li10, li12, li13, li14, li16, li20, li21, li22, li23, li26, li30, li32, li40, li48, li50, li57, li59, li97, li99, li100, li122, li128, li180, li320, li500, li999, nI_add, pk_mul, subN, clampN, zg_ix, nlt, nle, neq, zn_eq, bind_s, ↓reduceIte, Nat.reduceAdd, Nat.reduceMul, Nat.reduceSub, Nat.reduceLeDiff, Nat.reduceEqDiff, Nat.add_zero, Nat.zero_add, Nat.reduceLT, Nat.mul_zero, hj, hd3, neg64]
    · rw [e4 k hk]
      simp only [zI_zsI, zI_zsAf, zI_zsJ, zI_zsLf, zA_zsI, zA_zsAf, zA_zsJ, zA_zsLf, zJ_zsI, zJ_zsAf, zJ_zsJ, zJ_zsLf, zL_zsI, zL_zsAf, zL_zsJ, zL_zsLf, zI_zsA, zA_zsA, zJ_zsA, zL_zsA, zI_zsL, zA_zsL, zJ_zsL, zL_zsL, zn_eq]
      rw [if_neg (by omega), if_neg (by omega)]
    · by_cases z : p = j
      · subst z
        have := e6 p (by omega)
        simp only [zI_zsI, zI_zsAf, zI_zsJ, zI_zsLf, zA_zsI, zA_zsAf, zA_zsJ, zA_zsLf, zJ_zsI, zJ_zsAf, zJ_zsJ, zJ_zsLf, zL_zsI, zL_zsAf, zL_zsJ, zL_zsLf, zI_zsA, zA_zsA, zJ_zsA, zL_zsA, zI_zsL, zA_zsL, zJ_zsL, zL_zsL, zn_eq, li0, li1, li2, li3, li4, li5, li6, li7, li8, li9, li10, li12, li13, li14, li16, li20, li21, li22, li23, li26, li30, li32, li40, li48, li50, li57, li59, li97, li99, li100, li122, li128, li180, li320, li500, li999, nI_add, pk_mul, subN, clampN, zg_ix, nlt, nle, neq, zn_eq, bind_s, ↓reduceIte, Nat.reduceAdd, Nat.reduceMul, Nat.reduceSub, Nat.reduceLeDiff, Nat.reduceEqDiff, Nat.add_zero, Nat.zero_add, Nat.reduceLT, Nat.mul_zero, updL_same, upd_same] at this
        exact this
      · exact e5 p (by omega) b
    · have := e6 p (by omega)
      have z : p ≠ j := by omega
      simp only [zI_zsI, zI_zsAf, zI_zsJ, zI_zsLf, zA_zsI, zA_zsAf, zA_zsJ, zA_zsLf, zJ_zsI, zJ_zsAf, zJ_zsJ, zJ_zsLf, zL_zsI, zL_zsAf, zL_zsJ, zL_zsLf, zI_zsA, zA_zsA, zJ_zsA, zL_zsA, zI_zsL, zA_zsL, zJ_zsL, zL_zsL, zn_eq, li0, li1, li2, li3, li4, li5, li6, li7, li8, li9, li10, li12, li13, li14, li16, li20, li21, li22, li23, li26, li30, li32, li40, li48, li50, li57, li59, li97, li99, li100, li122, li128, li180, li320, li500, li999, nI_add, pk_mul, subN, clampN, zg_ix, nlt, nle, neq, zn_eq, bind_s, ↓reduceIte, Nat.reduceAdd, Nat.reduceMul, Nat.reduceSub, Nat.reduceLeDiff, Nat.reduceEqDiff, Nat.add_zero, Nat.zero_add, Nat.reduceLT, Nat.mul_zero, updL_ne z, upd_ne z] at this
      exact this
/-- what the reference adds to what is owing -/
def rcl (o s : Nat) (x : Int32) : Int32 := if o = 0 then nI s else if o = 3 then (if nI s < x then nI s else x) else if o = 4 then (if nI s ≤ x then x else nI s) else x
theorem ls137_s (n : Nat) (M : zSt) (x y : Int32) : fM_laySums_l137 (n + 1) M x y = fM_laySums_l137b (fun v0 v1 v2 => fM_laySums_l137 n v0 v1 v2) M x y := rfl
theorem pu18_s (n : Nat) (U C : zSt) (x y : Int32) : fU_addPuts_l18 (n + 1) U C x y = fU_addPuts_l18b (fun v0 v1 v2 v3 => fU_addPuts_l18 n v0 v1 v2 v3) U C x y := rfl
theorem zg_nz {β : Type} {n : Nat} {k : Option β} (h : 1 ≤ n) (h2 : n < 2 ^ 31) : zg (znz (nI n)) k = k := zg_t (by
  unfold znz
  exact decide_eq_true (nI_ne0 h h2))
theorem claim_eq (o s w : Nat) (W : Int32) (ho : o ≤ 4) (ho1 : o ≠ 1) (hw1 : 1 ≤ w) (hw2 : w ≤ 5000) : fU_claim (nI o) (nI s) W (nI w) = some (rcl o s (nI s * W / nI w)) := by
  have h0 : 0 < w := by omega
  obtain ⟨x, hx⟩ : ∃ x, x = nI s * W / nI w := ⟨_, rfl⟩
  have hk : o = 0 ∨ o = 2 ∨ o = 3 ∨ o = 4 := by omega
  unfold rcl
  rw [← hx]
  rcases hk with rfl | rfl | rfl | rfl
  · simp (disch := omega) only [fU_claim, li0, li1, li2, li3, li4, li5, li6, li7, li8, li9, li10, li12, li13, li14, li16, li20, li21, li22, li23, li26, li30, li32, li40, li48, li50, li57, li59, li97, li99, li100, li122, li128, li180, li320, li500, li999, nI_add, pk_mul, subN, clampN, zg_ix, nlt, nle, neq, zn_eq, bind_s, ↓reduceIte, Nat.reduceAdd, Nat.reduceMul, Nat.reduceSub, Nat.reduceLeDiff, Nat.reduceEqDiff, Nat.add_zero, Nat.zero_add, Nat.reduceLT, Nat.mul_zero]
  · simp (disch := omega) only [fU_claim, li0, li1, li2, li3, li4, li5, li6, li7, li8, li9, li10, li12, li13, li14, li16, li20, li21, li22, li23, li26, li30, li32, li40, li48, li50, li57, li59, li97, li99, li100, li122, li128, li180, li320, li500, li999, nI_add, pk_mul, subN, clampN, zg_ix, nlt, nle, neq, zn_eq, bind_s, ↓reduceIte, Nat.reduceAdd, Nat.reduceMul, Nat.reduceSub, Nat.reduceLeDiff, Nat.reduceEqDiff, Nat.add_zero, Nat.zero_add, Nat.reduceLT, Nat.mul_zero, h0, zg_nz, ← hx]
  · simp (disch := omega) only [fU_claim, li0, li1, li2, li3, li4, li5, li6, li7, li8, li9, li10, li12, li13, li14, li16, li20, li21, li22, li23, li26, li30, li32, li40, li48, li50, li57, li59, li97, li99, li100, li122, li128, li180, li320, li500, li999, nI_add, pk_mul, subN, clampN, zg_ix, nlt, nle, neq, zn_eq, bind_s, ↓reduceIte, Nat.reduceAdd, Nat.reduceMul, Nat.reduceSub, Nat.reduceLeDiff, Nat.reduceEqDiff, Nat.add_zero, Nat.zero_add, Nat.reduceLT, Nat.mul_zero, h0, zg_nz, ← hx]
    congr 1
    by_cases z : x < nI s
    · rw [if_pos z, if_neg (fun y => absurd z (Int32.not_lt.mpr (Int32.le_of_lt y)))]
    · rw [if_neg z]
      by_cases y : nI s < x
      · rw [if_pos y]
      · rw [if_neg y]
        exact Int32.le_antisymm (Int32.not_lt.mp z) (Int32.not_lt.mp y)
  · simp (disch := omega) only [fU_claim, li0, li1, li2, li3, li4, li5, li6, li7, li8, li9, li10, li12, li13, li14, li16, li20, li21, li22, li23, li26, li30, li32, li40, li48, li50, li57, li59, li97, li99, li100, li122, li128, li180, li320, li500, li999, nI_add, pk_mul, subN, clampN, zg_ix, nlt, nle, neq, zn_eq, bind_s, ↓reduceIte, Nat.reduceAdd, Nat.reduceMul, Nat.reduceSub, Nat.reduceLeDiff, Nat.reduceEqDiff, Nat.add_zero, Nat.zero_add, Nat.reduceLT, Nat.mul_zero, h0, zg_nz, ← hx]
    congr 1
    by_cases z : nI s < x
    · rw [if_pos z, if_pos (Int32.le_of_lt z)]
    · rw [if_neg z]
      by_cases y : nI s ≤ x
      · rw [if_pos y]
        exact Int32.le_antisymm y (Int32.not_lt.mp z)
      · rw [if_neg y]
theorem claim_1 (s : Nat) (W w : Int32) : fU_claim (nI 1) (nI s) W w = some (nI s) := by
  simp (disch := omega) only [fU_claim, li0, li1, li2, li3, li4, li5, li6, li7, li8, li9, li10, li12, li13, li14, li16, li20, li21, li22, li23, li26, li30, li32, li40, li48, li50, li57, li59, li97, li99, li100, li122, li128, li180, li320, li500, li999, nI_add, pk_mul, subN, clampN, zg_ix, nlt, nle, neq, zn_eq, bind_s, ↓reduceIte, Nat.reduceAdd, Nat.reduceMul, Nat.reduceSub, Nat.reduceLeDiff, Nat.reduceEqDiff, Nat.add_zero, Nat.zero_add, Nat.reduceLT, Nat.mul_zero]
theorem ref_put (n : Nat) (M : zSt) (o k a p q s w nn : Nat) (W : Int32) (hk : k < nn) (hn : nn ≤ 50) (ho : o ≤ 4) (ha : a < 10) (hp : p < 3) (hq : q < 3) (hs : s ≤ 99) (hw1 : 1 ≤ w) (hw2 : w ≤ 5000) (m40 : zI M 40 = nI nn) (m41 : zA M 41 k = nI a) (m42 : zA M 42 k = nI p) (m43 : zA M 43 k = nI s) (m44 : zA M 44 k = nI w) (m29 : zA M 29 a = nI q) (m34 : zA M 34 a = W) : fM_laySums_l137 (n + 1) M (nI o) (nI k) = fM_laySums_l137 n (zsL (zsL (zsL M 46 q (zL M 46 q + (nI s).toInt64)) 47 (3 * p + q) (zL M 47 (3 * p + q) + (nI s).toInt64)) 48 (3 * p + q) (zL M 48 (3 * p + q) + (rcl o s (nI s * W / nI w)).toInt64)) (nI o) (nI (k + 1)) := by
  have hk' : ¬ nn ≤ k := by omega
  have hq5 : o = 0 ∨ o = 1 ∨ o = 2 ∨ o = 3 ∨ o = 4 := by omega
  rw [ls137_s]
  unfold rcl
  rcases hq5 with rfl | rfl | rfl | rfl | rfl
  · simp (disch := omega) only [fM_laySums_l137b, fM_laySums_b237, fM_laySums_b216, li0, li1, li2, li3, li4, li5, li6, li7, li8, li9, li10, li12, li13, li14, li16, li20, li21, li22, li23, li26, li30, li32, li40, li48, li50, li57, li59, li97, li99, li100, li122, li128, li180, li320, li500, li999, nI_add, pk_mul, subN, clampN, zg_ix, nlt, nle, neq, zn_eq, bind_s, ↓reduceIte, Nat.reduceAdd, Nat.reduceMul, Nat.reduceSub, Nat.reduceLeDiff, Nat.reduceEqDiff, Nat.add_zero, Nat.zero_add, Nat.reduceLT, Nat.mul_zero, zI_zsI, zI_zsAf, zI_zsJ, zI_zsLf, zA_zsI, zA_zsAf, zA_zsJ, zA_zsLf, zJ_zsI, zJ_zsAf, zJ_zsJ, zJ_zsLf, zL_zsI, zL_zsAf, zL_zsJ, zL_zsLf, zI_zsA, zA_zsA, zJ_zsA, zL_zsA, zI_zsL, zA_zsL, zJ_zsL, zL_zsL, zn_eq, zg_nz, m40, hk', m41, m42, m43, m44, m29, m34]
  · simp (disch := omega) only [fM_laySums_l137b, fM_laySums_b237, fM_laySums_b216, li0, li1, li2, li3, li4, li5, li6, li7, li8, li9, li10, li12, li13, li14, li16, li20, li21, li22, li23, li26, li30, li32, li40, li48, li50, li57, li59, li97, li99, li100, li122, li128, li180, li320, li500, li999, nI_add, pk_mul, subN, clampN, zg_ix, nlt, nle, neq, zn_eq, bind_s, ↓reduceIte, Nat.reduceAdd, Nat.reduceMul, Nat.reduceSub, Nat.reduceLeDiff, Nat.reduceEqDiff, Nat.add_zero, Nat.zero_add, Nat.reduceLT, Nat.mul_zero, zI_zsI, zI_zsAf, zI_zsJ, zI_zsLf, zA_zsI, zA_zsAf, zA_zsJ, zA_zsLf, zJ_zsI, zJ_zsAf, zJ_zsJ, zJ_zsLf, zL_zsI, zL_zsAf, zL_zsJ, zL_zsLf, zI_zsA, zA_zsA, zJ_zsA, zL_zsA, zI_zsL, zA_zsL, zJ_zsL, zL_zsL, zn_eq, zg_nz, m40, hk', m41, m42, m43, m44, m29, m34]
  · simp (disch := omega) only [fM_laySums_l137b, fM_laySums_b237, fM_laySums_b216, li0, li1, li2, li3, li4, li5, li6, li7, li8, li9, li10, li12, li13, li14, li16, li20, li21, li22, li23, li26, li30, li32, li40, li48, li50, li57, li59, li97, li99, li100, li122, li128, li180, li320, li500, li999, nI_add, pk_mul, subN, clampN, zg_ix, nlt, nle, neq, zn_eq, bind_s, ↓reduceIte, Nat.reduceAdd, Nat.reduceMul, Nat.reduceSub, Nat.reduceLeDiff, Nat.reduceEqDiff, Nat.add_zero, Nat.zero_add, Nat.reduceLT, Nat.mul_zero, zI_zsI, zI_zsAf, zI_zsJ, zI_zsLf, zA_zsI, zA_zsAf, zA_zsJ, zA_zsLf, zJ_zsI, zJ_zsAf, zJ_zsJ, zJ_zsLf, zL_zsI, zL_zsAf, zL_zsJ, zL_zsLf, zI_zsA, zA_zsA, zJ_zsA, zL_zsA, zI_zsL, zA_zsL, zJ_zsL, zL_zsL, zn_eq, zg_nz, m40, hk', m41, m42, m43, m44, m29, m34]
  · by_cases z : nI s < nI s * W / nI w
    · simp (disch := omega) only [fM_laySums_l137b, fM_laySums_b237, fM_laySums_b216, li0, li1, li2, li3, li4, li5, li6, li7, li8, li9, li10, li12, li13, li14, li16, li20, li21, li22, li23, li26, li30, li32, li40, li48, li50, li57, li59, li97, li99, li100, li122, li128, li180, li320, li500, li999, nI_add, pk_mul, subN, clampN, zg_ix, nlt, nle, neq, zn_eq, bind_s, ↓reduceIte, Nat.reduceAdd, Nat.reduceMul, Nat.reduceSub, Nat.reduceLeDiff, Nat.reduceEqDiff, Nat.add_zero, Nat.zero_add, Nat.reduceLT, Nat.mul_zero, zI_zsI, zI_zsAf, zI_zsJ, zI_zsLf, zA_zsI, zA_zsAf, zA_zsJ, zA_zsLf, zJ_zsI, zJ_zsAf, zJ_zsJ, zJ_zsLf, zL_zsI, zL_zsAf, zL_zsJ, zL_zsLf, zI_zsA, zA_zsA, zJ_zsA, zL_zsA, zI_zsL, zA_zsL, zJ_zsL, zL_zsL, zn_eq, zg_nz, m40, hk', m41, m42, m43, m44, m29, m34, z]
    · simp (disch := omega) only [fM_laySums_l137b, fM_laySums_b237, fM_laySums_b216, li0, li1, li2, li3, li4, li5, li6, li7, li8, li9, li10, li12, li13, li14, li16, li20, li21, li22, li23, li26, li30, li32, li40, li48, li50, li57, li59, li97, li99, li100, li122, li128, li180, li320, li500, li999, nI_add, pk_mul, subN, clampN, zg_ix, nlt, nle, neq, zn_eq, bind_s, ↓reduceIte, Nat.reduceAdd, Nat.reduceMul, Nat.reduceSub, Nat.reduceLeDiff, Nat.reduceEqDiff, Nat.add_zero, Nat.zero_add, Nat.reduceLT, Nat.mul_zero, zI_zsI, zI_zsAf, zI_zsJ, zI_zsLf, zA_zsI, zA_zsAf, zA_zsJ, zA_zsLf, zJ_zsI, zJ_zsAf, zJ_zsJ, zJ_zsLf, zL_zsI, zL_zsAf, zL_zsJ, zL_zsLf, zI_zsA, zA_zsA, zJ_zsA, zL_zsA, zI_zsL, zA_zsL, zJ_zsL, zL_zsL, zn_eq, zg_nz, m40, hk', m41, m42, m43, m44, m29, m34, z]
  · by_cases z : nI s ≤ nI s * W / nI w
    · simp (disch := omega) only [fM_laySums_l137b, fM_laySums_b237, fM_laySums_b216, li0, li1, li2, li3, li4, li5, li6, li7, li8, li9, li10, li12, li13, li14, li16, li20, li21, li22, li23, li26, li30, li32, li40, li48, li50, li57, li59, li97, li99, li100, li122, li128, li180, li320, li500, li999, nI_add, pk_mul, subN, clampN, zg_ix, nlt, nle, neq, zn_eq, bind_s, ↓reduceIte, Nat.reduceAdd, Nat.reduceMul, Nat.reduceSub, Nat.reduceLeDiff, Nat.reduceEqDiff, Nat.add_zero, Nat.zero_add, Nat.reduceLT, Nat.mul_zero, zI_zsI, zI_zsAf, zI_zsJ, zI_zsLf, zA_zsI, zA_zsAf, zA_zsJ, zA_zsLf, zJ_zsI, zJ_zsAf, zJ_zsJ, zJ_zsLf, zL_zsI, zL_zsAf, zL_zsJ, zL_zsLf, zI_zsA, zA_zsA, zJ_zsA, zL_zsA, zI_zsL, zA_zsL, zJ_zsL, zL_zsL, zn_eq, zg_nz, m40, hk', m41, m42, m43, m44, m29, m34, z]
    · simp (disch := omega) only [fM_laySums_l137b, fM_laySums_b237, fM_laySums_b216, li0, li1, li2, li3, li4, li5, li6, li7, li8, li9, li10, li12, li13, li14, li16, li20, li21, li22, li23, li26, li30, li32, li40, li48, li50, li57, li59, li97, li99, li100, li122, li128, li180, li320, li500, li999, nI_add, pk_mul, subN, clampN, zg_ix, nlt, nle, neq, zn_eq, bind_s, ↓reduceIte, Nat.reduceAdd, Nat.reduceMul, Nat.reduceSub, Nat.reduceLeDiff, Nat.reduceEqDiff, Nat.add_zero, Nat.zero_add, Nat.reduceLT, Nat.mul_zero, zI_zsI, zI_zsAf, zI_zsJ, zI_zsLf, zA_zsI, zA_zsAf, zA_zsJ, zA_zsLf, zJ_zsI, zJ_zsAf, zJ_zsJ, zJ_zsLf, zL_zsI, zL_zsAf, zL_zsJ, zL_zsLf, zI_zsA, zA_zsA, zJ_zsA, zL_zsA, zI_zsL, zA_zsL, zJ_zsL, zL_zsL, zn_eq, zg_nz, m40, hk', m41, m42, m43, m44, m29, m34, z]
theorem cls_put_same (n : Nat) (U C : zSt) (o k a p s nn : Nat) (hk : k < nn) (hn : nn ≤ 50) (ha : a < 10) (hp : p < 3) (c13 : zI C 13 = nI nn) (c14 : zA C 14 k = nI a) (c15 : zA C 15 k = nI p) (c16 : zA C 16 k = nI s) (c8 : zA C 8 a = nI p) : fU_addPuts_l18 (n + 1) U C (nI o) (nI k) = fU_addPuts_l18 n (zsL U 1 p (zL U 1 p + (nI s).toInt64)) C (nI o) (nI (k + 1)) := by
  have hk' : ¬ nn ≤ k := by omega
  rw [pu18_s]
  simp (disch := omega) only [fU_addPuts_l18b, li0, li1, li2, li3, li4, li5, li6, li7, li8, li9, li10, li12, li13, li14, li16, li20, li21, li22, li23, li26, li30, li32, li40, li48, li50, li57, li59, li97, li99, li100, li122, li128, li180, li320, li500, li999, nI_add, pk_mul, subN, clampN, zg_ix, nlt, nle, neq, zn_eq, bind_s, ↓reduceIte, Nat.reduceAdd, Nat.reduceMul, Nat.reduceSub, Nat.reduceLeDiff, Nat.reduceEqDiff, Nat.add_zero, Nat.zero_add, Nat.reduceLT, Nat.mul_zero, zI_zsI, zI_zsAf, zI_zsJ, zI_zsLf, zA_zsI, zA_zsAf, zA_zsJ, zA_zsLf, zJ_zsI, zJ_zsAf, zJ_zsJ, zJ_zsLf, zL_zsI, zL_zsAf, zL_zsJ, zL_zsLf, zI_zsA, zA_zsA, zJ_zsA, zL_zsA, zI_zsL, zA_zsL, zJ_zsL, zL_zsL, zn_eq, c13, hk', c14, c15, c16, c8]
theorem cls_put (n : Nat) (U C : zSt) (o k a p q s nn : Nat) (W w g : Int32) (hpq : p ≠ q) (hk : k < nn) (hn : nn ≤ 50) (ha : a < 10) (hp : p < 3) (hq : q < 3) (c13 : zI C 13 = nI nn) (c14 : zA C 14 k = nI a) (c15 : zA C 15 k = nI p) (c16 : zA C 16 k = nI s) (c17 : zA C 17 k = w) (c11 : zA C 11 a = W) (c8 : zA C 8 a = nI q) (hg : fU_claim (nI o) (nI s) W w = some g) : fU_addPuts_l18 (n + 1) U C (nI o) (nI k) = fU_addPuts_l18 n (zsL (zsL (zsL U 1 q (zL U 1 q + (nI s).toInt64)) 3 (p * 3 + q) (zL U 3 (p * 3 + q) + (nI s).toInt64)) 4 (p * 3 + q) (zL U 4 (p * 3 + q) + g.toInt64)) C (nI o) (nI (k + 1)) := by
  have hk' : ¬ nn ≤ k := by omega
  rw [pu18_s]
  simp (disch := omega) only [fU_addPuts_l18b, li0, li1, li2, li3, li4, li5, li6, li7, li8, li9, li10, li12, li13, li14, li16, li20, li21, li22, li23, li26, li30, li32, li40, li48, li50, li57, li59, li97, li99, li100, li122, li128, li180, li320, li500, li999, nI_add, pk_mul, subN, clampN, zg_ix, nlt, nle, neq, zn_eq, bind_s, ↓reduceIte, Nat.reduceAdd, Nat.reduceMul, Nat.reduceSub, Nat.reduceLeDiff, Nat.reduceEqDiff, Nat.add_zero, Nat.zero_add, Nat.reduceLT, Nat.mul_zero, zI_zsI, zI_zsAf, zI_zsJ, zI_zsLf, zA_zsI, zA_zsAf, zA_zsJ, zA_zsLf, zJ_zsI, zJ_zsAf, zJ_zsJ, zJ_zsLf, zL_zsI, zL_zsAf, zL_zsJ, zL_zsLf, zI_zsA, zA_zsA, zJ_zsA, zL_zsA, zI_zsL, zA_zsL, zJ_zsL, zL_zsL, zn_eq, c13, hk', c14, c15, c16, c17, c11, c8, hg, hpq]
