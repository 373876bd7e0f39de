/-! arithmetic rows once more, by a proof that is no rfl -/
theorem lj0 : (0 : Int32) = nI 0 := Eq.trans rfl rfl
theorem lj1 : (1 : Int32) = nI 1 := Eq.trans rfl rfl
theorem lj2 : (2 : Int32) = nI 2 := Eq.trans rfl rfl
theorem lj3 : (3 : Int32) = nI 3 := Eq.trans rfl rfl
theorem lj4 : (4 : Int32) = nI 4 := Eq.trans rfl rfl
theorem lj5 : (5 : Int32) = nI 5 := Eq.trans rfl rfl
theorem lj6 : (6 : Int32) = nI 6 := Eq.trans rfl rfl
theorem lj7 : (7 : Int32) = nI 7 := Eq.trans rfl rfl
theorem lj8 : (8 : Int32) = nI 8 := Eq.trans rfl rfl
theorem lj9 : (9 : Int32) = nI 9 := Eq.trans rfl rfl
theorem lj10 : (10 : Int32) = nI 10 := Eq.trans rfl rfl
theorem lj12 : (12 : Int32) = nI 12 := Eq.trans rfl rfl
theorem lj13 : (13 : Int32) = nI 13 := Eq.trans rfl rfl
theorem lj14 : (14 : Int32) = nI 14 := Eq.trans rfl rfl
theorem lj16 : (16 : Int32) = nI 16 := Eq.trans rfl rfl
theorem lj20 : (20 : Int32) = nI 20 := Eq.trans rfl rfl
theorem lj21 : (21 : Int32) = nI 21 := Eq.trans rfl rfl
theorem lj22 : (22 : Int32) = nI 22 := Eq.trans rfl rfl
theorem lj23 : (23 : Int32) = nI 23 := Eq.trans rfl rfl
theorem lj26 : (26 : Int32) = nI 26 := Eq.trans rfl rfl
theorem lj30 : (30 : Int32) = nI 30 := Eq.trans rfl rfl
theorem lj32 : (32 : Int32) = nI 32 := Eq.trans rfl rfl
theorem lj40 : (40 : Int32) = nI 40 := Eq.trans rfl rfl
theorem lj48 : (48 : Int32) = nI 48 := Eq.trans rfl rfl
theorem lj50 : (50 : Int32) = nI 50 := Eq.trans rfl rfl
theorem lj57 : (57 : Int32) = nI 57 := Eq.trans rfl rfl
theorem lj59 : (59 : Int32) = nI 59 := Eq.trans rfl rfl
theorem lj97 : (97 : Int32) = nI 97 := Eq.trans rfl rfl
theorem lj99 : (99 : Int32) = nI 99 := Eq.trans rfl rfl
theorem lj100 : (100 : Int32) = nI 100 := Eq.trans rfl rfl
theorem lj122 : (122 : Int32) = nI 122 := Eq.trans rfl rfl
theorem lj128 : (128 : Int32) = nI 128 := Eq.trans rfl rfl
theorem lj180 : (180 : Int32) = nI 180 := Eq.trans rfl rfl
theorem lj320 : (320 : Int32) = nI 320 := Eq.trans rfl rfl
theorem lj500 : (500 : Int32) = nI 500 := Eq.trans rfl rfl
theorem lj999 : (999 : Int32) = nI 999 := Eq.trans rfl rfl
theorem znn {α β : Type} (e : α) (k : α → Option β) : zn e k = k e := Eq.trans rfl rfl
theorem bind_n {α β : Type} {a : α} {k : α → Option β} : Option.bind (some a) k = k a := Eq.trans rfl rfl
/-! the rows of states once more, by a proof that is no rfl: simp then leaves the kernel nothing to unfold -/
theorem zI_zsIn (s : zSt) (k : Nat) (v : Int32) (j : Nat) : zI (zsI s k v) j = if j = k then v else zI s j := Eq.trans rfl rfl
theorem zI_zsAfn (s : zSt) (k : Nat) (f : Nat → Int32) (j : Nat) : zI (zsAf s k f) j = zI s j := Eq.trans rfl rfl
theorem zI_zsJn (s : zSt) (k : Nat) (v : Int64) (j : Nat) : zI (zsJ s k v) j = zI s j := Eq.trans rfl rfl
theorem zI_zsLfn (s : zSt) (k : Nat) (f : Nat → Int64) (j : Nat) : zI (zsLf s k f) j = zI s j := Eq.trans rfl rfl
theorem zA_zsIn (s : zSt) (k : Nat) (v : Int32) (j : Nat) : zA (zsI s k v) j = zA s j := Eq.trans rfl rfl
theorem zA_zsAfn (s : zSt) (k : Nat) (f : Nat → Int32) (j : Nat) : zA (zsAf s k f) j = if j = k then f else zA s j := Eq.trans rfl rfl
theorem zA_zsJn (s : zSt) (k : Nat) (v : Int64) (j : Nat) : zA (zsJ s k v) j = zA s j := Eq.trans rfl rfl
theorem zA_zsLfn (s : zSt) (k : Nat) (f : Nat → Int64) (j : Nat) : zA (zsLf s k f) j = zA s j := Eq.trans rfl rfl
theorem zJ_zsIn (s : zSt) (k : Nat) (v : Int32) (j : Nat) : zJ (zsI s k v) j = zJ s j := Eq.trans rfl rfl
theorem zJ_zsAfn (s : zSt) (k : Nat) (f : Nat → Int32) (j : Nat) : zJ (zsAf s k f) j = zJ s j := Eq.trans rfl rfl
theorem zJ_zsJn (s : zSt) (k : Nat) (v : Int64) (j : Nat) : zJ (zsJ s k v) j = if j = k then v else zJ s j := Eq.trans rfl rfl
theorem zJ_zsLfn (s : zSt) (k : Nat) (f : Nat → Int64) (j : Nat) : zJ (zsLf s k f) j = zJ s j := Eq.trans rfl rfl
theorem zL_zsIn (s : zSt) (k : Nat) (v : Int32) (j : Nat) : zL (zsI s k v) j = zL s j := Eq.trans rfl rfl
theorem zL_zsAfn (s : zSt) (k : Nat) (f : Nat → Int32) (j : Nat) : zL (zsAf s k f) j = zL s j := Eq.trans rfl rfl
theorem zL_zsJn (s : zSt) (k : Nat) (v : Int64) (j : Nat) : zL (zsJ s k v) j = zL s j := Eq.trans rfl rfl
theorem zL_zsLfn (s : zSt) (k : Nat) (f : Nat → Int64) (j : Nat) : zL (zsLf s k f) j = if j = k then f else zL s j := Eq.trans rfl rfl
theorem zI_zsAn (s : zSt) (k i : Nat) (v : Int32) (j : Nat) : zI (zsA s k i v) j = zI s j := Eq.trans rfl rfl
theorem zA_zsAn (s : zSt) (k i : Nat) (v : Int32) (j : Nat) : zA (zsA s k i v) j = if j = k then upd (zA s k) i v else zA s j := Eq.trans rfl rfl
theorem zJ_zsAn (s : zSt) (k i : Nat) (v : Int32) (j : Nat) : zJ (zsA s k i v) j = zJ s j := Eq.trans rfl rfl
theorem zL_zsAn (s : zSt) (k i : Nat) (v : Int32) (j : Nat) : zL (zsA s k i v) j = zL s j := Eq.trans rfl rfl
theorem zI_zsLn (s : zSt) (k i : Nat) (v : Int64) (j : Nat) : zI (zsL s k i v) j = zI s j := Eq.trans rfl rfl
theorem zA_zsLn (s : zSt) (k i : Nat) (v : Int64) (j : Nat) : zA (zsL s k i v) j = zA s j := Eq.trans rfl rfl
theorem zJ_zsLn (s : zSt) (k i : Nat) (v : Int64) (j : Nat) : zJ (zsL s k i v) j = zJ s j := Eq.trans rfl rfl
theorem zL_zsLn (s : zSt) (k i : Nat) (v : Int64) (j : Nat) : zL (zsL s k i v) j = if j = k then vp_updL (zL s k) i v else zL s j := Eq.trans rfl rfl
/-! SUMS: all puts on both sides -/
def kB : Nat → Int
  | 0 => 0
  | k + 1 => kB k + 2147483648
theorem kB_le (k : Nat) : kB k ≤ kB (k + 1) := by show kB k ≤ kB k + 2147483648; omega
theorem gBd (g : Int32) : -2147483648 ≤ g.toInt ∧ g.toInt ≤ 2147483648 := by
  have gb1 := Int32.le_toInt g
  have gb2 := Int32.toInt_lt g
  omega
theorem kB_step {x : Int} {k : Nat} (g : Int32) (h1 : -(kB k) ≤ x) (h2 : x ≤ kB k) : -(kB (k + 1)) ≤ x + g.toInt ∧ x + g.toInt ≤ kB (k + 1) := by
  have gb := gBd g
  show -(kB k + 2147483648) ≤ x + g.toInt ∧ x + g.toInt ≤ kB k + 2147483648
  generalize kB k = b at h1 h2 ⊢
  omega
def PR (o : Nat) (U M : zSt) (H I F G : Nat → Int) (k : Nat) : Prop := (∀ p, p < 3 → zL U 0 p = Int64.ofInt (H p) ∧ zL M 45 p = Int64.ofInt (H p)) ∧ (∀ p, p < 3 → zL U 1 p = Int64.ofInt (I p) ∧ zL M 46 p = Int64.ofInt (I p) ∧ 0 ≤ I p) ∧ (∀ p q, p < 3 → q < 3 → p ≠ q → zL U 3 (3 * p + q) = Int64.ofInt (F (3 * p + q)) ∧ zL M 47 (3 * p + q) = Int64.ofInt (F (3 * p + q)) ∧ 0 ≤ F (3 * p + q)) ∧ (∀ p, p < 3 → zL U 3 (3 * p + p) = Int64.ofInt 0) ∧ (∀ p q, p < 3 → q < 3 → p ≠ q → zL U 4 (3 * p + q) = Int64.ofInt (G (3 * p + q)) ∧ (o ≠ 1 → zL M 48 (3 * p + q) = Int64.ofInt (G (3 * p + q))) ∧ -(kB k) ≤ G (3 * p + q) ∧ G (3 * p + q) ≤ kB k) ∧ I 0 + I 1 + I 2 ≤ 990 + 99 * k ∧ F 1 + F 2 + F 3 + F 5 + F 6 + F 7 ≤ 99 * k
theorem upz_six (f : Nat → Int) (p q : Nat) (v : Int) (hp : p < 3) (hq : q < 3) (hpq : p ≠ q) : upz f (3 * p + q) (f (3 * p + q) + v) 1 + upz f (3 * p + q) (f (3 * p + q) + v) 2 + upz f (3 * p + q) (f (3 * p + q) + v) 3 + upz f (3 * p + q) (f (3 * p + q) + v) 5 + upz f (3 * p + q) (f (3 * p + q) + v) 6 + upz f (3 * p + q) (f (3 * p + q) + v) 7 = f 1 + f 2 + f 3 + f 5 + f 6 + f 7 + v := by
  have : (p = 0 ∧ q = 1) ∨ (p = 0 ∧ q = 2) ∨ (p = 1 ∧ q = 0) ∨ (p = 1 ∧ q = 2) ∨ (p = 2 ∧ q = 0) ∨ (p = 2 ∧ q = 1) := by omega
  rcases this with ⟨rfl, rfl⟩ | ⟨rfl, rfl⟩ | ⟨rfl, rfl⟩ | ⟨rfl, rfl⟩ | ⟨rfl, rfl⟩ | ⟨rfl, rfl⟩ <;> (simp only [upz, li0, li1, li2, li3, li4, li5, li6, li7, li8, li9, li10, li12, li13, li14, li16, li20, li21, li22, li23, li26, li30, li32, li40, li48, li50, li57, li59, li97, li99, li100, li122, li128, li180, li320, li500, li999, nI_add, pk_mul, subN, clampN, zg_ix, nlt, nle, neq, zn_eq, bind_s, ↓reduceIte, Nat.reduceAdd, Nat.reduceMul, Nat.reduceSub, Nat.reduceLeDiff, Nat.reduceEqDiff, Nat.add_zero, Nat.zero_add, Nat.reduceLT, Nat.mul_zero]; omega)
theorem put_rel_same {o : Nat} {U M : zSt} {H I F G : Nat → Int} {k p s : Nat} {c1 c2 : Int64} (h : PR o U M H I F G k) (hp : p < 3) (hs : s ≤ 99) : PR o (zsL U 1 p (zL U 1 p + (nI s).toInt64)) (zsL (zsL (zsL M 46 p (zL M 46 p + (nI s).toInt64)) 47 (3 * p + p) c1) 48 (3 * p + p) c2) H (upz I p (I p + s)) F G (k + 1) := by
  obtain ⟨h1, h2, h3, h4, h5, h6, h7⟩ := h
  obtain ⟨a1, a2, a3⟩ := h2 p hp
  refine ⟨h1, fun q hq => ?_, fun q r hq hr hqr => ?_, h4, fun q r hq hr hqr => ?_, ?_, by omega⟩
  · by_cases z : q = p
    · subst z
      simp (disch := omega) only [zI_zsIn, zI_zsAfn, zI_zsJn, zI_zsLfn, zA_zsIn, zA_zsAfn, zA_zsJn, zA_zsLfn, zJ_zsIn, zJ_zsAfn, zJ_zsJn, zJ_zsLfn, zL_zsIn, zL_zsAfn, zL_zsJn, zL_zsLfn, zI_zsAn, zA_zsAn, zJ_zsAn, zL_zsAn, zI_zsLn, zA_zsLn, zJ_zsLn, zL_zsLn, znn, li0, li1, li2, li3, li4, li5, li6, li7, li8, li9, li10, li12, li13, li14, li16, li20, li21, li22, li23, li26, li30, li32, li40, li48, li50, li57, li59, li97, li99, li100, li122, li128, li180, li320, li500, li999, nI_add, pk_mul, subN, clampN, zg_ix, nlt, nle, neq, zn_eq, bind_s, ↓reduceIte, Nat.reduceAdd, Nat.reduceMul, Nat.reduceSub, Nat.reduceLeDiff, Nat.reduceEqDiff, Nat.add_zero, Nat.zero_add, Nat.reduceLT, Nat.mul_zero, updL_same, upz_same, a1, a2, nI64, ← Int64.ofInt_add, true_and]
      omega
    · simp only [zI_zsIn, zI_zsAfn, zI_zsJn, zI_zsLfn, zA_zsIn, zA_zsAfn, zA_zsJn, zA_zsLfn, zJ_zsIn, zJ_zsAfn, zJ_zsJn, zJ_zsLfn, zL_zsIn, zL_zsAfn, zL_zsJn, zL_zsLfn, zI_zsAn, zA_zsAn, zJ_zsAn, zL_zsAn, zI_zsLn, zA_zsLn, zJ_zsLn, zL_zsLn, znn, li0, li1, li2, li3, li4, li5, li6, li7, li8, li9, li10, li12, li13, li14, li16, li20, li21, li22, li23, li26, li30, li32, li40, li48, li50, li57, li59, li97, li99, li100, li122, li128, li180, li320, li500, li999, nI_add, pk_mul, subN, clampN, zg_ix, nlt, nle, neq, zn_eq, bind_s, ↓reduceIte, Nat.reduceAdd, Nat.reduceMul, Nat.reduceSub, Nat.reduceLeDiff, Nat.reduceEqDiff, Nat.add_zero, Nat.zero_add, Nat.reduceLT, Nat.mul_zero, updL_ne z, upz_ne z]
      exact h2 q hq
  · have z : 3 * q + r ≠ 3 * p + p := by omega
    simp only [zI_zsIn, zI_zsAfn, zI_zsJn, zI_zsLfn, zA_zsIn, zA_zsAfn, zA_zsJn, zA_zsLfn, zJ_zsIn, zJ_zsAfn, zJ_zsJn, zJ_zsLfn, zL_zsIn, zL_zsAfn, zL_zsJn, zL_zsLfn, zI_zsAn, zA_zsAn, zJ_zsAn, zL_zsAn, zI_zsLn, zA_zsLn, zJ_zsLn, zL_zsLn, znn, li0, li1, li2, li3, li4, li5, li6, li7, li8, li9, li10, li12, li13, li14, li16, li20, li21, li22, li23, li26, li30, li32, li40, li48, li50, li57, li59, li97, li99, li100, li122, li128, li180, li320, li500, li999, nI_add, pk_mul, subN, clampN, zg_ix, nlt, nle, neq, zn_eq, bind_s, ↓reduceIte, Nat.reduceAdd, Nat.reduceMul, Nat.reduceSub, Nat.reduceLeDiff, Nat.reduceEqDiff, Nat.add_zero, Nat.zero_add, Nat.reduceLT, Nat.mul_zero, updL_ne z]
    exact h3 q r hq hr hqr
  · have z : 3 * q + r ≠ 3 * p + p := by omega
    simp only [zI_zsIn, zI_zsAfn, zI_zsJn, zI_zsLfn, zA_zsIn, zA_zsAfn, zA_zsJn, zA_zsLfn, zJ_zsIn, zJ_zsAfn, zJ_zsJn, zJ_zsLfn, zL_zsIn, zL_zsAfn, zL_zsJn, zL_zsLfn, zI_zsAn, zA_zsAn, zJ_zsAn, zL_zsAn, zI_zsLn, zA_zsLn, zJ_zsLn, zL_zsLn, znn, li0, li1, li2, li3, li4, li5, li6, li7, li8, li9, li10, li12, li13, li14, li16, li20, li21, li22, li23, li26, li30, li32, li40, li48, li50, li57, li59, li97, li99, li100, li122, li128, li180, li320, li500, li999, nI_add, pk_mul, subN, clampN, zg_ix, nlt, nle, neq, zn_eq, bind_s, ↓reduceIte, Nat.reduceAdd, Nat.reduceMul, Nat.reduceSub, Nat.reduceLeDiff, Nat.reduceEqDiff, Nat.add_zero, Nat.zero_add, Nat.reduceLT, Nat.mul_zero, updL_ne z]
    obtain ⟨b1, b2, b3, b4⟩ := h5 q r hq hr hqr
    exact ⟨b1, b2, Int.le_trans (Int.neg_le_neg (kB_le k)) b3, Int.le_trans b4 (kB_le k)⟩
  · rw [upz_sum _ _ _ hp]; omega
theorem put_rel {o : Nat} {U M : zSt} {H I F G : Nat → Int} {k p q s : Nat} {g g' : Int32} (h : PR o U M H I F G k) (hp : p < 3) (hq : q < 3) (hpq : p ≠ q) (hs : s ≤ 99) (hg : o ≠ 1 → g = g') : PR o (zsL (zsL (zsL U 1 q (zL U 1 q + (nI s).toInt64)) 3 (p * 3 + q) (zL U 3 (p * 3 + q) + (nI s).toInt64)) 4 (p * 3 + q) (zL U 4 (p * 3 + q) + g.toInt64)) (zsL (zsL (zsL M 46 q (zL M 46 q + (nI s).toInt64)) 47 (3 * p + q) (zL M 47 (3 * p + q) + (nI s).toInt64)) 48 (3 * p + q) (zL M 48 (3 * p + q) + g'.toInt64)) H (upz I q (I q + s)) (upz F (3 * p + q) (F (3 * p + q) + s)) (upz G (3 * p + q) (G (3 * p + q) + g.toInt)) (k + 1) := by
  rw [Nat.mul_comm p 3]
  obtain ⟨h1, h2, h3, h4, h5, h6, h7⟩ := h
  obtain ⟨a1, a2, a3⟩ := h2 q hq
  obtain ⟨a4, a5, a6⟩ := h3 p q hp hq hpq
  refine ⟨h1, fun r hr => ?_, fun r t hr ht hrt => ?_, fun r hr => ?_, fun r t hr ht hrt => ?_, ?_, ?_⟩
  · by_cases z : r = q
    · subst z
      simp (disch := omega) only [zI_zsIn, zI_zsAfn, zI_zsJn, zI_zsLfn, zA_zsIn, zA_zsAfn, zA_zsJn, zA_zsLfn, zJ_zsIn, zJ_zsAfn, zJ_zsJn, zJ_zsLfn, zL_zsIn, zL_zsAfn, zL_zsJn, zL_zsLfn, zI_zsAn, zA_zsAn, zJ_zsAn, zL_zsAn, zI_zsLn, zA_zsLn, zJ_zsLn, zL_zsLn, znn, li0, li1, li2, li3, li4, li5, li6, li7, li8, li9, li10, li12, li13, li14, li16, li20, li21, li22, li23, li26, li30, li32, li40, li48, li50, li57, li59, li97, li99, li100, li122, li128, li180, li320, li500, li999, nI_add, pk_mul, subN, clampN, zg_ix, nlt, nle, neq, zn_eq, bind_s, ↓reduceIte, Nat.reduceAdd, Nat.reduceMul, Nat.reduceSub, Nat.reduceLeDiff, Nat.reduceEqDiff, Nat.add_zero, Nat.zero_add, Nat.reduceLT, Nat.mul_zero, updL_same, upz_same, a1, a2, nI64, ← Int64.ofInt_add, true_and]
      omega
    · simp only [zI_zsIn, zI_zsAfn, zI_zsJn, zI_zsLfn, zA_zsIn, zA_zsAfn, zA_zsJn, zA_zsLfn, zJ_zsIn, zJ_zsAfn, zJ_zsJn, zJ_zsLfn, zL_zsIn, zL_zsAfn, zL_zsJn, zL_zsLfn, zI_zsAn, zA_zsAn, zJ_zsAn, zL_zsAn, zI_zsLn, zA_zsLn, zJ_zsLn, zL_zsLn, znn, li0, li1, li2, li3, li4, li5, li6, li7, li8, li9, li10, li12, li13, li14, li16, li20, li21, li22, li23, li26, li30, li32, li40, li48, li50, li57, li59, li97, li99, li100, li122, li128, li180, li320, li500, li999, nI_add, pk_mul, subN, clampN, zg_ix, nlt, nle, neq, zn_eq, bind_s, ↓reduceIte, Nat.reduceAdd, Nat.reduceMul, Nat.reduceSub, Nat.reduceLeDiff, Nat.reduceEqDiff, Nat.add_zero, Nat.zero_add, Nat.reduceLT, Nat.mul_zero, updL_ne z, upz_ne z]
      exact h2 r hr
  · by_cases z : 3 * r + t = 3 * p + q
    · rw [z]
      simp (disch := omega) only [zI_zsIn, zI_zsAfn, zI_zsJn, zI_zsLfn, zA_zsIn, zA_zsAfn, zA_zsJn, zA_zsLfn, zJ_zsIn, zJ_zsAfn, zJ_zsJn, zJ_zsLfn, zL_zsIn, zL_zsAfn, zL_zsJn, zL_zsLfn, zI_zsAn, zA_zsAn, zJ_zsAn, zL_zsAn, zI_zsLn, zA_zsLn, zJ_zsLn, zL_zsLn, znn, li0, li1, li2, li3, li4, li5, li6, li7, li8, li9, li10, li12, li13, li14, li16, li20, li21, li22, li23, li26, li30, li32, li40, li48, li50, li57, li59, li97, li99, li100, li122, li128, li180, li320, li500, li999, nI_add, pk_mul, subN, clampN, zg_ix, nlt, nle, neq, zn_eq, bind_s, ↓reduceIte, Nat.reduceAdd, Nat.reduceMul, Nat.reduceSub, Nat.reduceLeDiff, Nat.reduceEqDiff, Nat.add_zero, Nat.zero_add, Nat.reduceLT, Nat.mul_zero, updL_same, upz_same, a4, a5, nI64, ← Int64.ofInt_add, true_and]
      omega
    · simp only [zI_zsIn, zI_zsAfn, zI_zsJn, zI_zsLfn, zA_zsIn, zA_zsAfn, zA_zsJn, zA_zsLfn, zJ_zsIn, zJ_zsAfn, zJ_zsJn, zJ_zsLfn, zL_zsIn, zL_zsAfn, zL_zsJn, zL_zsLfn, zI_zsAn, zA_zsAn, zJ_zsAn, zL_zsAn, zI_zsLn, zA_zsLn, zJ_zsLn, zL_zsLn, znn, li0, li1, li2, li3, li4, li5, li6, li7, li8, li9, li10, li12, li13, li14, li16, li20, li21, li22, li23, li26, li30, li32, li40, li48, li50, li57, li59, li97, li99, li100, li122, li128, li180, li320, li500, li999, nI_add, pk_mul, subN, clampN, zg_ix, nlt, nle, neq, zn_eq, bind_s, ↓reduceIte, Nat.reduceAdd, Nat.reduceMul, Nat.reduceSub, Nat.reduceLeDiff, Nat.reduceEqDiff, Nat.add_zero, Nat.zero_add, Nat.reduceLT, Nat.mul_zero, updL_ne z, upz_ne z]
      exact h3 r t hr ht hrt
  · have z : 3 * r + r ≠ 3 * p + q := by omega
    simp only [zI_zsIn, zI_zsAfn, zI_zsJn, zI_zsLfn, zA_zsIn, zA_zsAfn, zA_zsJn, zA_zsLfn, zJ_zsIn, zJ_zsAfn, zJ_zsJn, zJ_zsLfn, zL_zsIn, zL_zsAfn, zL_zsJn, zL_zsLfn, zI_zsAn, zA_zsAn, zJ_zsAn, zL_zsAn, zI_zsLn, zA_zsLn, zJ_zsLn, zL_zsLn, znn, li0, li1, li2, li3, li4, li5, li6, li7, li8, li9, li10, li12, li13, li14, li16, li20, li21, li22, li23, li26, li30, li32, li40, li48, li50, li57, li59, li97, li99, li100, li122, li128, li180, li320, li500, li999, nI_add, pk_mul, subN, clampN, zg_ix, nlt, nle, neq, zn_eq, bind_s, ↓reduceIte, Nat.reduceAdd, Nat.reduceMul, Nat.reduceSub, Nat.reduceLeDiff, Nat.reduceEqDiff, Nat.add_zero, Nat.zero_add, Nat.reduceLT, Nat.mul_zero, updL_ne z]
    exact h4 r hr
  · by_cases z : 3 * r + t = 3 * p + q
    · rw [z]
      obtain ⟨a7, a8, a9, a10⟩ := h5 p q hp hq hpq
      have gb := kB_step g a9 a10
      refine ⟨?_, fun ho => ?_, ?_, ?_⟩
      · simp only [zI_zsIn, zI_zsAfn, zI_zsJn, zI_zsLfn, zA_zsIn, zA_zsAfn, zA_zsJn, zA_zsLfn, zJ_zsIn, zJ_zsAfn, zJ_zsJn, zJ_zsLfn, zL_zsIn, zL_zsAfn, zL_zsJn, zL_zsLfn, zI_zsAn, zA_zsAn, zJ_zsAn, zL_zsAn, zI_zsLn, zA_zsLn, zJ_zsLn, zL_zsLn, znn, li0, li1, li2, li3, li4, li5, li6, li7, li8, li9, li10, li12, li13, li14, li16, li20, li21, li22, li23, li26, li30, li32, li40, li48, li50, li57, li59, li97, li99, li100, li122, li128, li180, li320, li500, li999, nI_add, pk_mul, subN, clampN, zg_ix, nlt, nle, neq, zn_eq, bind_s, ↓reduceIte, Nat.reduceAdd, Nat.reduceMul, Nat.reduceSub, Nat.reduceLeDiff, Nat.reduceEqDiff, Nat.add_zero, Nat.zero_add, Nat.reduceLT, Nat.mul_zero, updL_same, upz_same, a7, i64_ofInt, ← Int64.ofInt_add]
      · simp only [zI_zsIn, zI_zsAfn, zI_zsJn, zI_zsLfn, zA_zsIn, zA_zsAfn, zA_zsJn, zA_zsLfn, zJ_zsIn, zJ_zsAfn, zJ_zsJn, zJ_zsLfn, zL_zsIn, zL_zsAfn, zL_zsJn, zL_zsLfn, zI_zsAn, zA_zsAn, zJ_zsAn, zL_zsAn, zI_zsLn, zA_zsLn, zJ_zsLn, zL_zsLn, znn, li0, li1, li2, li3, li4, li5, li6, li7, li8, li9, li10, li12, li13, li14, li16, li20, li21, li22, li23, li26, li30, li32, li40, li48, li50, li57, li59, li97, li99, li100, li122, li128, li180, li320, li500, li999, nI_add, pk_mul, subN, clampN, zg_ix, nlt, nle, neq, zn_eq, bind_s, ↓reduceIte, Nat.reduceAdd, Nat.reduceMul, Nat.reduceSub, Nat.reduceLeDiff, Nat.reduceEqDiff, Nat.add_zero, Nat.zero_add, Nat.reduceLT, Nat.mul_zero, updL_same, upz_same, a8 ho, ← hg ho, i64_ofInt, ← Int64.ofInt_add]
      · rw [upz_same]; exact gb.1
      · rw [upz_same]; exact gb.2
    · simp only [zI_zsIn, zI_zsAfn, zI_zsJn, zI_zsLfn, zA_zsIn, zA_zsAfn, zA_zsJn, zA_zsLfn, zJ_zsIn, zJ_zsAfn, zJ_zsJn, zJ_zsLfn, zL_zsIn, zL_zsAfn, zL_zsJn, zL_zsLfn, zI_zsAn, zA_zsAn, zJ_zsAn, zL_zsAn, zI_zsLn, zA_zsLn, zJ_zsLn, zL_zsLn, znn, li0, li1, li2, li3, li4, li5, li6, li7, li8, li9, li10, li12, li13, li14, li16, li20, li21, li22, li23, li26, li30, li32, li40, li48, li50, li57, li59, li97, li99, li100, li122, li128, li180, li320, li500, li999, nI_add, pk_mul, subN, clampN, zg_ix, nlt, nle, neq, zn_eq, bind_s, ↓reduceIte, Nat.reduceAdd, Nat.reduceMul, Nat.reduceSub, Nat.reduceLeDiff, Nat.reduceEqDiff, Nat.add_zero, Nat.zero_add, Nat.reduceLT, Nat.mul_zero, updL_ne z, upz_ne z]
      obtain ⟨b1, b2, b3, b4⟩ := h5 r t hr ht hrt
      exact ⟨b1, b2, Int.le_trans (Int.neg_le_neg (kB_le k)) b3, Int.le_trans b4 (kB_le k)⟩
  · rw [upz_sum _ _ _ hq]; omega
  · rw [upz_six _ _ _ _ hp hq hpq]; omega
theorem puts_run {S C : zSt} {l i N t o nn : Nat} {fb : Prop} (ht : t ≤ 10) (ho : o ≤ 4) (hnn : nn ≤ 50) : ∀ (d k f f' : Nat) (U M : zSt) (H I F G : Nat → Int), k + d = nn → d < f → d < f' → PR o U M H I F G k → CR fb S C M l i t N → zI C 13 = nI nn → zI M 40 = nI nn → ∃ U' M' H' I' F' G', fU_addPuts_l18 f U C (nI o) (nI k) = some U' ∧ fM_laySums_l137 f' M (nI o) (nI k) = some M' ∧ PR o U' M' H' I' F' G' nn ∧ ML M M' ∧ H' = H ∧ (∀ j, zA U' j = zA U j) ∧ (∀ j, zI U' j = zI U j) := by
  intro d
  induction d with
  | zero =>
    intro k f f' U M H I F G hd hf hf' h hC c13 m40
    obtain ⟨n, rfl⟩ : ∃ n, f = n + 1 := ⟨f - 1, by omega⟩
    obtain ⟨n', rfl⟩ : ∃ n, f' = n + 1 := ⟨f' - 1, by omega⟩
    have hk : k = nn := by omega
    subst hk
    refine ⟨U, M, H, I, F, G, ?_, ?_, h, ML.refl M, rfl, fun _ => rfl, fun _ => rfl⟩
    · rw [pu18_s]
      simp (disch := omega) only [fU_addPuts_l18b, li0, li1, li2, li3, li4, li5, li6, li7, li8, li9, li10, li12, li13, li14, li16, li20, li21, li22, li23, li26, li30, li32, li40, li48, li50, li57, li59, li97, li99, li100, li122, li128, li180, li320, li500, li999, nI_add, pk_mul, subN, clampN, zg_ix, nlt, nle, neq, zn_eq, bind_s, ↓reduceIte, Nat.reduceAdd, Nat.reduceMul, Nat.reduceSub, Nat.reduceLeDiff, Nat.reduceEqDiff, Nat.add_zero, Nat.zero_add, Nat.reduceLT, Nat.mul_zero, c13, Nat.le_refl]
    · rw [ls137_s]
      simp (disch := omega) only [fM_laySums_l137b, li0, li1, li2, li3, li4, li5, li6, li7, li8, li9, li10, li12, li13, li14, li16, li20, li21, li22, li23, li26, li30, li32, li40, li48, li50, li57, li59, li97, li99, li100, li122, li128, li180, li320, li500, li999, nI_add, pk_mul, subN, clampN, zg_ix, nlt, nle, neq, zn_eq, bind_s, ↓reduceIte, Nat.reduceAdd, Nat.reduceMul, Nat.reduceSub, Nat.reduceLeDiff, Nat.reduceEqDiff, Nat.add_zero, Nat.zero_add, Nat.reduceLT, Nat.mul_zero, m40, Nat.le_refl]
  | succ d ih =>
    intro k f f' U M H I F G hd hf hf' h hC c13 m40
    obtain ⟨n, rfl⟩ : ∃ n, f = n + 1 := ⟨f - 1, by omega⟩
    obtain ⟨n', rfl⟩ : ∃ n, f' = n + 1 := ⟨f' - 1, by omega⟩
    have hC' := hC
    obtain ⟨lb, n1, h1, h2, h3, h4, h5, h6, h7, h8, h9, h10, h11, h12⟩ := hC'
    have h13 : n1 = nn ∨ n1 ≠ nn := by omega
    have hkn : k < n1 := by
      have e := h9.symm.trans c13
      have b1 : n1 < 2 ^ 31 ∨ ¬ n1 < 2 ^ 31 := by omega
      rcases b1 with b1 | b1
      · rw [neq b1 (by omega)] at e
        omega
      · omega
    obtain ⟨a, p, s, w, g1, g2, g3, g4, g5, g6, ⟨g7, g7'⟩, ⟨g8, g8'⟩, ⟨g9, g9'⟩, ⟨g10, g10'⟩⟩ := h12 k hkn
    obtain ⟨f1, f2, f3, ⟨q, f4, f4a, f4b⟩, f5, f6, ⟨wo, f7, f7a, f7b⟩, f8⟩ := h8 a g1
    have er := ref_put n' M o k a p q s w nn (nI wo) (by omega) hnn ho (by omega) g2 f4 g4 g5 g6 m40 g7' g8' g9' g10' f4b f7b
    by_cases z : p = q
    · subst z
      have ec := cls_put_same n U C o k a p s nn (by omega) hnn (by omega) g2 c13 g7 g8 g9 f4a
      have hr := put_rel_same (c1 := zL M 47 (3 * p + p) + (nI s).toInt64) (c2 := zL M 48 (3 * p + p) + (rcl o s (nI s * nI wo / nI w)).toInt64) h g2 g4
      have hml : ML M (zsL (zsL (zsL M 46 p (zL M 46 p + (nI s).toInt64)) 47 (3 * p + p) (zL M 47 (3 * p + p) + (nI s).toInt64)) 48 (3 * p + p) (zL M 48 (3 * p + p) + (rcl o s (nI s * nI wo / nI w)).toInt64)) := ⟨fun _ => rfl, fun _ => rfl⟩
      obtain ⟨U2, M2, H2, I2, F2, G2, k1, k2, k3, k4, k5, k6, k7⟩ := ih (k + 1) n n' _ _ H _ F G (by omega) (by omega) (by omega) hr hC c13 m40
      exact ⟨U2, M2, H2, I2, F2, G2, ec.trans k1, er.trans k2, k3, hml.trans k4, k5, k6, k7⟩
    · have hcl : ∃ g, fU_claim (nI o) (nI s) (nI wo) (nI w) = some g ∧ (o ≠ 1 → g = rcl o s (nI s * nI wo / nI w)) := by
        by_cases y : o = 1
        · subst y
          exact ⟨_, claim_1 s _ _, fun y => absurd rfl y⟩
        · exact ⟨_, claim_eq o s w (nI wo) ho y g5 g6, fun _ => rfl⟩
      obtain ⟨g, hg1, hg2⟩ := hcl
      have ec := cls_put n U C o k a p q s nn (nI wo) (nI w) g z (by omega) hnn (by omega) g2 f4 c13 g7 g8 g9 g10 f7a f4a hg1
      have hr := put_rel (g := g) (g' := rcl o s (nI s * nI wo / nI w)) h g2 f4 z g4 hg2
      have hml : ML M (zsL (zsL (zsL M 46 q (zL M 46 q + (nI s).toInt64)) 47 (3 * p + q) (zL M 47 (3 * p + q) + (nI s).toInt64)) 48 (3 * p + q) (zL M 48 (3 * p + q) + (rcl o s (nI s * nI wo / nI w)).toInt64)) := ⟨fun _ => rfl, fun _ => rfl⟩
      obtain ⟨U2, M2, H2, I2, F2, G2, k1, k2, k3, k4, k5, k6, k7⟩ := ih (k + 1) n n' _ _ H _ _ _ (by omega) (by omega) (by omega) hr hC c13 m40
      exact ⟨U2, M2, H2, I2, F2, G2, ec.trans k1, er.trans k2, k3, hml.trans k4, k5, k6, k7⟩
