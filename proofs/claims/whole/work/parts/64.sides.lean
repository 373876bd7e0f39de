/-! SUMS: the reference's sides, and what both come to -/
def mx (c x : Nat → Int64) (i : Nat) : Int64 := if i = 0 then c 0 + x 3 + x 6 else if i = 4 then c 1 + x 1 + x 7 else if i = 8 then c 2 + x 2 + x 5 else -(x i)
def rp (m h : Nat → Int64) (q i : Nat) : Int64 := if i % 3 = q then h (i / 3) else m i
theorem det9_congr {m m' : Nat → Int64} (h : ∀ i, i < 9 → m i = m' i) : det9 m = det9 m' := by
  unfold det9
  rw [h 0 (by omega), h 1 (by omega), h 2 (by omega), h 3 (by omega), h 4 (by omega), h 5 (by omega), h 6 (by omega), h 7 (by omega), h 8 (by omega)]
theorem lsd2_s (n : Nat) (s : zSt) (x : Int32) : fM_laySides_l2 (n + 1) s x = fM_laySides_l2b (fun v0 v1 => fM_laySides_l2 n v0 v1) s x := rfl
theorem lsd9_s (K : zSt → Int32 → Option (zSt)) (n : Nat) (s : zSt) (x y : Int32) : fM_laySides_l9 K (n + 1) s x y = fM_laySides_l9b K (fun v0 v1 v2 => fM_laySides_l9 K n v0 v1 v2) s x y := rfl
theorem lsd78_s (n : Nat) (s : zSt) (x : Int32) : fM_laySides_l78 (n + 1) s x = fM_laySides_l78b (fun v0 v1 => fM_laySides_l78 n v0 v1) s x := rfl
theorem lsd85_s (K : zSt → Int32 → Option (zSt)) (n : Nat) (s : zSt) (x y : Int32) : fM_laySides_l85 K (n + 1) s x y = fM_laySides_l85b K (fun v0 v1 v2 => fM_laySides_l85 K n v0 v1 v2) s x y := rfl
def s9 (M : zSt) (p q : Nat) : zSt := zsL M 52 (3 * p + q) (if p = q then ccM M p else -(zL M 47 (3 * p + q)))
def s85 (M : zSt) (p q : Nat) : zSt := zsL M 52 (4 * p) (zL M 52 (4 * p) + (if p = q then 0 else zL M 47 (3 * q + p)))
theorem lsd9_1 (K : zSt → Int32 → Option (zSt)) (n : Nat) (M : zSt) (p q q' : Nat) (hq' : q' = q + 1) (hp : p < 3) (hq : q < 3) : fM_laySides_l9 K (n + 1) M (nI p) (nI q) = fM_laySides_l9 K n (s9 M p q) (nI p) (nI q') := by
  subst hq'
  have h3 : ¬ 3 ≤ q := by omega
  rw [lsd9_s]
  by_cases z : p = q
  · subst z
    by_cases y : zL M 46 p = 0
    · simp (disch := omega) only [fM_laySides_l9b, lj0, lj1, lj2, lj3, lj4, lj5, lj6, lj7, lj8, lj9, lj10, lj12, lj13, lj14, lj16, lj20, lj21, lj22, lj23, lj26, lj30, lj32, lj40, lj48, lj50, lj57, lj59, lj97, lj99, lj100, lj122, lj128, lj180, lj320, lj500, lj999, nI_add, pk_mul, subN, clampN, zg_ix, nlt, nle, neq, znn, bind_n, ↓reduceIte, Nat.reduceAdd, Nat.reduceMul, Nat.reduceSub, Nat.reduceLeDiff, Nat.reduceEqDiff, Nat.add_zero, Nat.zero_add, Nat.reduceLT, Nat.mul_zero, h3, s9, ccM, y]
    · simp (disch := omega) only [fM_laySides_l9b, lj0, lj1, lj2, lj3, lj4, lj5, lj6, lj7, lj8, lj9, lj10, lj12, lj13, lj14, lj16, lj20, lj21, lj22, lj23, lj26, lj30, lj32, lj40, lj48, lj50, lj57, lj59, lj97, lj99, lj100, lj122, lj128, lj180, lj320, lj500, lj999, nI_add, pk_mul, subN, clampN, zg_ix, nlt, nle, neq, znn, bind_n, ↓reduceIte, Nat.reduceAdd, Nat.reduceMul, Nat.reduceSub, Nat.reduceLeDiff, Nat.reduceEqDiff, Nat.add_zero, Nat.zero_add, Nat.reduceLT, Nat.mul_zero, h3, s9, ccM, y]
  · simp (disch := omega) only [fM_laySides_l9b, lj0, lj1, lj2, lj3, lj4, lj5, lj6, lj7, lj8, lj9, lj10, lj12, lj13, lj14, lj16, lj20, lj21, lj22, lj23, lj26, lj30, lj32, lj40, lj48, lj50, lj57, lj59, lj97, lj99, lj100, lj122, lj128, lj180, lj320, lj500, lj999, nI_add, pk_mul, subN, clampN, zg_ix, nlt, nle, neq, znn, bind_n, ↓reduceIte, Nat.reduceAdd, Nat.reduceMul, Nat.reduceSub, Nat.reduceLeDiff, Nat.reduceEqDiff, Nat.add_zero, Nat.zero_add, Nat.reduceLT, Nat.mul_zero, h3, s9, z]
theorem lsd9_e (K : zSt → Int32 → Option (zSt)) (n : Nat) (M : zSt) (p : Nat) : fM_laySides_l9 K (n + 1) M (nI p) (nI 3) = K M (nI (p + 1)) := by
  rw [lsd9_s]
  simp (disch := omega) only [fM_laySides_l9b, lj0, lj1, lj2, lj3, lj4, lj5, lj6, lj7, lj8, lj9, lj10, lj12, lj13, lj14, lj16, lj20, lj21, lj22, lj23, lj26, lj30, lj32, lj40, lj48, lj50, lj57, lj59, lj97, lj99, lj100, lj122, lj128, lj180, lj320, lj500, lj999, nI_add, pk_mul, subN, clampN, zg_ix, nlt, nle, neq, znn, bind_n, ↓reduceIte, Nat.reduceAdd, Nat.reduceMul, Nat.reduceSub, Nat.reduceLeDiff, Nat.reduceEqDiff, Nat.add_zero, Nat.zero_add, Nat.reduceLT, Nat.mul_zero]
theorem lsd85_1 (K : zSt → Int32 → Option (zSt)) (n : Nat) (M : zSt) (p q q' : Nat) (hq' : q' = q + 1) (hp : p < 3) (hq : q < 3) : fM_laySides_l85 K (n + 1) M (nI p) (nI q) = fM_laySides_l85 K n (s85 M p q) (nI p) (nI q') := by
  subst hq'
  have h3 : ¬ 3 ≤ q := by omega
  rw [lsd85_s]
  by_cases z : p = q
  · simp (disch := omega) only [fM_laySides_l85b, lj0, lj1, lj2, lj3, lj4, lj5, lj6, lj7, lj8, lj9, lj10, lj12, lj13, lj14, lj16, lj20, lj21, lj22, lj23, lj26, lj30, lj32, lj40, lj48, lj50, lj57, lj59, lj97, lj99, lj100, lj122, lj128, lj180, lj320, lj500, lj999, nI_add, pk_mul, subN, clampN, zg_ix, nlt, nle, neq, znn, bind_n, ↓reduceIte, Nat.reduceAdd, Nat.reduceMul, Nat.reduceSub, Nat.reduceLeDiff, Nat.reduceEqDiff, Nat.add_zero, Nat.zero_add, Nat.reduceLT, Nat.mul_zero, h3, s85, z]
  · simp (disch := omega) only [fM_laySides_l85b, lj0, lj1, lj2, lj3, lj4, lj5, lj6, lj7, lj8, lj9, lj10, lj12, lj13, lj14, lj16, lj20, lj21, lj22, lj23, lj26, lj30, lj32, lj40, lj48, lj50, lj57, lj59, lj97, lj99, lj100, lj122, lj128, lj180, lj320, lj500, lj999, nI_add, pk_mul, subN, clampN, zg_ix, nlt, nle, neq, znn, bind_n, ↓reduceIte, Nat.reduceAdd, Nat.reduceMul, Nat.reduceSub, Nat.reduceLeDiff, Nat.reduceEqDiff, Nat.add_zero, Nat.zero_add, Nat.reduceLT, Nat.mul_zero, h3, s85, z]
theorem lsd85_e (K : zSt → Int32 → Option (zSt)) (n : Nat) (M : zSt) (p : Nat) : fM_laySides_l85 K (n + 1) M (nI p) (nI 3) = K M (nI (p + 1)) := by
  rw [lsd85_s]
  simp (disch := omega) only [fM_laySides_l85b, lj0, lj1, lj2, lj3, lj4, lj5, lj6, lj7, lj8, lj9, lj10, lj12, lj13, lj14, lj16, lj20, lj21, lj22, lj23, lj26, lj30, lj32, lj40, lj48, lj50, lj57, lj59, lj97, lj99, lj100, lj122, lj128, lj180, lj320, lj500, lj999, nI_add, pk_mul, subN, clampN, zg_ix, nlt, nle, neq, znn, bind_n, ↓reduceIte, Nat.reduceAdd, Nat.reduceMul, Nat.reduceSub, Nat.reduceLeDiff, Nat.reduceEqDiff, Nat.add_zero, Nat.zero_add, Nat.reduceLT, Nat.mul_zero]
def s9p (M : zSt) (p : Nat) : zSt := s9 (s9 (s9 M p 0) p 1) p 2
def s85p (M : zSt) (p : Nat) : zSt := s85 (s85 (s85 M p 0) p 1) p 2
theorem lsd2_1 (n : Nat) (M : zSt) (p p' : Nat) (hp' : p' = p + 1) (hp : p < 3) : fM_laySides_l2 (n + 1) M (nI p) = fM_laySides_l2 n (s9p M p) (nI p') := by
  subst hp'
  have h3 : ¬ 3 ≤ p := by omega
  rw [lsd2_s]
  simp (disch := omega) only [fM_laySides_l2b, lj0, lj1, lj2, lj3, lj4, lj5, lj6, lj7, lj8, lj9, lj10, lj12, lj13, lj14, lj16, lj20, lj21, lj22, lj23, lj26, lj30, lj32, lj40, lj48, lj50, lj57, lj59, lj97, lj99, lj100, lj122, lj128, lj180, lj320, lj500, lj999, nI_add, pk_mul, subN, clampN, zg_ix, nlt, nle, neq, znn, bind_n, ↓reduceIte, Nat.reduceAdd, Nat.reduceMul, Nat.reduceSub, Nat.reduceLeDiff, Nat.reduceEqDiff, Nat.add_zero, Nat.zero_add, Nat.reduceLT, Nat.mul_zero, h3]
  rw [show zF = 996 + 1 + 1 + 1 + 1 from rfl, lsd9_1 _ _ _ p 0 1 rfl hp (by omega), lsd9_1 _ _ _ p 1 2 rfl hp (by omega), lsd9_1 _ _ _ p 2 3 rfl hp (by omega), lsd9_e]
  rfl
theorem lsd78_1 (n : Nat) (M : zSt) (p p' : Nat) (hp' : p' = p + 1) (hp : p < 3) : fM_laySides_l78 (n + 1) M (nI p) = fM_laySides_l78 n (s85p M p) (nI p') := by
  subst hp'
  have h3 : ¬ 3 ≤ p := by omega
  rw [lsd78_s]
  simp (disch := omega) only [fM_laySides_l78b, lj0, lj1, lj2, lj3, lj4, lj5, lj6, lj7, lj8, lj9, lj10, lj12, lj13, lj14, lj16, lj20, lj21, lj22, lj23, lj26, lj30, lj32, lj40, lj48, lj50, lj57, lj59, lj97, lj99, lj100, lj122, lj128, lj180, lj320, lj500, lj999, nI_add, pk_mul, subN, clampN, zg_ix, nlt, nle, neq, znn, bind_n, ↓reduceIte, Nat.reduceAdd, Nat.reduceMul, Nat.reduceSub, Nat.reduceLeDiff, Nat.reduceEqDiff, Nat.add_zero, Nat.zero_add, Nat.reduceLT, Nat.mul_zero, h3]
  rw [show zF = 996 + 1 + 1 + 1 + 1 from rfl, lsd85_1 _ _ _ p 0 1 rfl hp (by omega), lsd85_1 _ _ _ p 1 2 rfl hp (by omega), lsd85_1 _ _ _ p 2 3 rfl hp (by omega), lsd85_e]
  rfl
theorem lsd78_g (n : Nat) (M : zSt) : fM_laySides_l78 (n + 1 + 1 + 1 + 1) M (nI 0) = some (s85p (s85p (s85p M 0) 1) 2) := by
  rw [lsd78_1 _ M 0 1 rfl (by omega), lsd78_1 _ _ 1 2 rfl (by omega), lsd78_1 _ _ 2 3 rfl (by omega), lsd78_s]
  simp (disch := omega) only [fM_laySides_l78b, lj0, lj1, lj2, lj3, lj4, lj5, lj6, lj7, lj8, lj9, lj10, lj12, lj13, lj14, lj16, lj20, lj21, lj22, lj23, lj26, lj30, lj32, lj40, lj48, lj50, lj57, lj59, lj97, lj99, lj100, lj122, lj128, lj180, lj320, lj500, lj999, nI_add, pk_mul, subN, clampN, zg_ix, nlt, nle, neq, znn, bind_n, ↓reduceIte, Nat.reduceAdd, Nat.reduceMul, Nat.reduceSub, Nat.reduceLeDiff, Nat.reduceEqDiff, Nat.add_zero, Nat.zero_add, Nat.reduceLT, Nat.mul_zero]
def sideM (M : zSt) : zSt := s85p (s85p (s85p (s9p (s9p (s9p M 0) 1) 2) 0) 1) 2
theorem lsd2_e (n : Nat) (M : zSt) : fM_laySides_l2 (n + 1) M (nI 3) = some (s85p (s85p (s85p M 0) 1) 2) := by
  rw [lsd2_s]
  simp (disch := omega) only [fM_laySides_l2b, lj0, lj1, lj2, lj3, lj4, lj5, lj6, lj7, lj8, lj9, lj10, lj12, lj13, lj14, lj16, lj20, lj21, lj22, lj23, lj26, lj30, lj32, lj40, lj48, lj50, lj57, lj59, lj97, lj99, lj100, lj122, lj128, lj180, lj320, lj500, lj999, nI_add, pk_mul, subN, clampN, zg_ix, nlt, nle, neq, znn, bind_n, ↓reduceIte, Nat.reduceAdd, Nat.reduceMul, Nat.reduceSub, Nat.reduceLeDiff, Nat.reduceEqDiff, Nat.add_zero, Nat.zero_add, Nat.reduceLT, Nat.mul_zero]
  have e := lsd78_g 996 M
  rw [← zF4] at e
  exact e
theorem lsd_g (n : Nat) (M : zSt) : fM_laySides_l2 (n + 1 + 1 + 1 + 1) M (nI 0) = some (sideM M) := by
  rw [lsd2_1 _ M 0 1 rfl (by omega), lsd2_1 _ _ 1 2 rfl (by omega), lsd2_1 _ _ 2 3 rfl (by omega), lsd2_e]
  rfl
theorem sides_eq (M : zSt) : fM_laySides M = some (sideM M) := lsd_g 996 M
def LF (k0 : Nat) (M M' : zSt) : Prop := (∀ k, zI M' k = zI M k) ∧ (∀ k, zA M' k = zA M k) ∧ (∀ k, zJ M' k = zJ M k) ∧ (∀ k, k ≠ k0 → zL M' k = zL M k)
theorem LF.trans {k0 : Nat} {A B C : zSt} (h : LF k0 A B) (g : LF k0 B C) : LF k0 A C := ⟨fun k => (g.1 k).trans (h.1 k), fun k => (g.2.1 k).trans (h.2.1 k), fun k => (g.2.2.1 k).trans (h.2.2.1 k), fun k a => (g.2.2.2 k a).trans (h.2.2.2 k a)⟩
theorem LF_L (M : zSt) (k0 i : Nat) (v : Int64) : LF k0 M (zsL M k0 i v) := ⟨fun _ => rfl, fun _ => rfl, fun _ => rfl, fun k hk => by simp only [zI_zsIn, zI_zsAfn, zI_zsJn, zI_zsLfn, zA_zsIn, zA_zsAfn, zA_zsJn, zA_zsLfn, zJ_zsIn, zJ_zsAfn, zJ_zsJn, zJ_zsLfn, zL_zsIn, zL_zsAfn, zL_zsJn, zL_zsLfn, zI_zsAn, zA_zsAn, zJ_zsAn, zL_zsAn, zI_zsLn, zA_zsLn, zJ_zsLn, zL_zsLn, znn, hk, if_false]⟩
theorem s9p_f (M : zSt) (p : Nat) : LF 52 M (s9p M p) := ((LF_L M 52 _ _).trans (LF_L _ 52 _ _)).trans (LF_L _ 52 _ _)
theorem s85p_f (M : zSt) (p : Nat) : LF 52 M (s85p M p) := ((LF_L M 52 _ _).trans (LF_L _ 52 _ _)).trans (LF_L _ 52 _ _)
theorem sideM_f (M : zSt) : LF 52 M (sideM M) := (((((s9p_f M 0).trans (s9p_f _ 1)).trans (s9p_f _ 2)).trans (s85p_f _ 0)).trans (s85p_f _ 1)).trans (s85p_f _ 2)
theorem sideM_v (M : zSt) : ∀ i, i < 9 → zL (sideM M) 52 i = mx (ccM M) (zL M 47) i := by
  intro i hi
  have : i = 0 ∨ i = 1 ∨ i = 2 ∨ i = 3 ∨ i = 4 ∨ i = 5 ∨ i = 6 ∨ i = 7 ∨ i = 8 := by omega
  rcases this with rfl | rfl | rfl | rfl | rfl | rfl | rfl | rfl | rfl <;> simp only [sideM, s9p, s85p, s9, s85, ccM, mx, zI_zsIn, zI_zsAfn, zI_zsJn, zI_zsLfn, zA_zsIn, zA_zsAfn, zA_zsJn, zA_zsLfn, zJ_zsIn, zJ_zsAfn, zJ_zsJn, zJ_zsLfn, zL_zsIn, zL_zsAfn, zL_zsJn, zL_zsLfn, zI_zsAn, zA_zsAn, zJ_zsAn, zL_zsAn, zI_zsLn, zA_zsLn, zJ_zsLn, zL_zsLn, znn, lj0, lj1, lj2, lj3, lj4, lj5, lj6, lj7, lj8, lj9, lj10, lj12, lj13, lj14, lj16, lj20, lj21, lj22, lj23, lj26, lj30, lj32, lj40, lj48, lj50, lj57, lj59, lj97, lj99, lj100, lj122, lj128, lj180, lj320, lj500, lj999, nI_add, pk_mul, subN, clampN, zg_ix, nlt, nle, neq, znn, bind_n, ↓reduceIte, Nat.reduceAdd, Nat.reduceMul, Nat.reduceSub, Nat.reduceLeDiff, Nat.reduceEqDiff, Nat.add_zero, Nat.zero_add, Nat.reduceLT, Nat.mul_zero, updL_app, Nat.succ_ne_self, Nat.zero_ne_one, Nat.one_ne_zero, Int64.add_zero]
theorem detM_eq (M : zSt) : fM_determinant M = some (det9 (zL M 52)) := by
  simp (disch := omega) only [fM_determinant, fM_minor, lj0, lj1, lj2, lj3, lj4, lj5, lj6, lj7, lj8, lj9, lj10, lj12, lj13, lj14, lj16, lj20, lj21, lj22, lj23, lj26, lj30, lj32, lj40, lj48, lj50, lj57, lj59, lj97, lj99, lj100, lj122, lj128, lj180, lj320, lj500, lj999, nI_add, pk_mul, subN, clampN, zg_ix, nlt, nle, neq, znn, bind_n, ↓reduceIte, Nat.reduceAdd, Nat.reduceMul, Nat.reduceSub, Nat.reduceLeDiff, Nat.reduceEqDiff, Nat.add_zero, Nat.zero_add, Nat.reduceLT, Nat.mul_zero, det9]
theorem ln119_s (n : Nat) (s : zSt) (x : Int32) : fM_layNets_l119 (n + 1) s x = fM_layNets_l119b (fun v0 v1 => fM_layNets_l119 n v0 v1) s x := rfl
theorem ln130_s (K : zSt → Int32 → Option (zSt)) (n : Nat) (s : zSt) (x y : Int32) : fM_layNets_l130 K (n + 1) s x y = fM_layNets_l130b K (fun v0 v1 v2 => fM_layNets_l130 K n v0 v1 v2) s x y := rfl
theorem ln130_1 (K : zSt → Int32 → Option (zSt)) (n : Nat) (M : zSt) (p q q' : Nat) (hq' : q' = q + 1) (hp : p < 3) (hq : q < 3) : fM_layNets_l130 K (n + 1) M (nI p) (nI q) = fM_layNets_l130 K n (zsL M 52 (3 * q + p) (zL M 45 q)) (nI p) (nI q') := by
  subst hq'
  have h3 : ¬ 3 ≤ q := by omega
  rw [ln130_s]
  simp (disch := omega) only [fM_layNets_l130b, lj0, lj1, lj2, lj3, lj4, lj5, lj6, lj7, lj8, lj9, lj10, lj12, lj13, lj14, lj16, lj20, lj21, lj22, lj23, lj26, lj30, lj32, lj40, lj48, lj50, lj57, lj59, lj97, lj99, lj100, lj122, lj128, lj180, lj320, lj500, lj999, nI_add, pk_mul, subN, clampN, zg_ix, nlt, nle, neq, znn, bind_n, ↓reduceIte, Nat.reduceAdd, Nat.reduceMul, Nat.reduceSub, Nat.reduceLeDiff, Nat.reduceEqDiff, Nat.add_zero, Nat.zero_add, Nat.reduceLT, Nat.mul_zero, h3]
def mend (M : zSt) (p : Nat) : zSt := zsL (zsL M 51 p (det9 (zL M 52))) 50 p (ccM M p * det9 (zL M 52))
theorem ln130_e (K : zSt → Int32 → Option (zSt)) (n : Nat) (M : zSt) (p : Nat) (hp : p < 3) : fM_layNets_l130 K (n + 1) M (nI p) (nI 3) = K (mend M p) (nI (p + 1)) := by
  rw [ln130_s]
  by_cases y : zL M 46 p = 0
  · simp (disch := omega) only [fM_layNets_l130b, fM_layNets_b193, lj0, lj1, lj2, lj3, lj4, lj5, lj6, lj7, lj8, lj9, lj10, lj12, lj13, lj14, lj16, lj20, lj21, lj22, lj23, lj26, lj30, lj32, lj40, lj48, lj50, lj57, lj59, lj97, lj99, lj100, lj122, lj128, lj180, lj320, lj500, lj999, nI_add, pk_mul, subN, clampN, zg_ix, nlt, nle, neq, znn, bind_n, ↓reduceIte, Nat.reduceAdd, Nat.reduceMul, Nat.reduceSub, Nat.reduceLeDiff, Nat.reduceEqDiff, Nat.add_zero, Nat.zero_add, Nat.reduceLT, Nat.mul_zero, zI_zsIn, zI_zsAfn, zI_zsJn, zI_zsLfn, zA_zsIn, zA_zsAfn, zA_zsJn, zA_zsLfn, zJ_zsIn, zJ_zsAfn, zJ_zsJn, zJ_zsLfn, zL_zsIn, zL_zsAfn, zL_zsJn, zL_zsLfn, zI_zsAn, zA_zsAn, zJ_zsAn, zL_zsAn, zI_zsLn, zA_zsLn, zJ_zsLn, zL_zsLn, znn, detM_eq, mend, ccM, y, updL_same]
  · simp (disch := omega) only [fM_layNets_l130b, fM_layNets_b193, lj0, lj1, lj2, lj3, lj4, lj5, lj6, lj7, lj8, lj9, lj10, lj12, lj13, lj14, lj16, lj20, lj21, lj22, lj23, lj26, lj30, lj32, lj40, lj48, lj50, lj57, lj59, lj97, lj99, lj100, lj122, lj128, lj180, lj320, lj500, lj999, nI_add, pk_mul, subN, clampN, zg_ix, nlt, nle, neq, znn, bind_n, ↓reduceIte, Nat.reduceAdd, Nat.reduceMul, Nat.reduceSub, Nat.reduceLeDiff, Nat.reduceEqDiff, Nat.add_zero, Nat.zero_add, Nat.reduceLT, Nat.mul_zero, zI_zsIn, zI_zsAfn, zI_zsJn, zI_zsLfn, zA_zsIn, zA_zsAfn, zA_zsJn, zA_zsLfn, zJ_zsIn, zJ_zsAfn, zJ_zsJn, zJ_zsLfn, zL_zsIn, zL_zsAfn, zL_zsJn, zL_zsLfn, zI_zsAn, zA_zsAn, zJ_zsAn, zL_zsAn, zI_zsLn, zA_zsLn, zJ_zsLn, zL_zsLn, znn, detM_eq, mend, ccM, y, updL_same]
def lcol (M : zSt) (p : Nat) : zSt := zsL (zsL (zsL M 52 (3 * 0 + p) (zL M 45 0)) 52 (3 * 1 + p) (zL M 45 1)) 52 (3 * 2 + p) (zL M 45 2)
def mnet (M : zSt) (p : Nat) : zSt := mend (lcol (sideM M) p) p
theorem ln119_1 (n : Nat) (M : zSt) (p p' : Nat) (hp' : p' = p + 1) (hp : p < 3) : fM_layNets_l119 (n + 1) M (nI p) = fM_layNets_l119 n (mnet M p) (nI p') := by
  subst hp'
  have h3 : ¬ 3 ≤ p := by omega
  rw [ln119_s]
  simp (disch := omega) only [fM_layNets_l119b, lj0, lj1, lj2, lj3, lj4, lj5, lj6, lj7, lj8, lj9, lj10, lj12, lj13, lj14, lj16, lj20, lj21, lj22, lj23, lj26, lj30, lj32, lj40, lj48, lj50, lj57, lj59, lj97, lj99, lj100, lj122, lj128, lj180, lj320, lj500, lj999, nI_add, pk_mul, subN, clampN, zg_ix, nlt, nle, neq, znn, bind_n, ↓reduceIte, Nat.reduceAdd, Nat.reduceMul, Nat.reduceSub, Nat.reduceLeDiff, Nat.reduceEqDiff, Nat.add_zero, Nat.zero_add, Nat.reduceLT, Nat.mul_zero, h3, sides_eq]
  rw [show zF = 996 + 1 + 1 + 1 + 1 from rfl, ln130_1 _ _ _ p 0 1 rfl hp (by omega), ln130_1 _ _ _ p 1 2 rfl hp (by omega), ln130_1 _ _ _ p 2 3 rfl hp (by omega), ln130_e _ _ _ _ hp]
  simp only [mnet, lcol, zI_zsIn, zI_zsAfn, zI_zsJn, zI_zsLfn, zA_zsIn, zA_zsAfn, zA_zsJn, zA_zsLfn, zJ_zsIn, zJ_zsAfn, zJ_zsJn, zJ_zsLfn, zL_zsIn, zL_zsAfn, zL_zsJn, zL_zsLfn, zI_zsAn, zA_zsAn, zJ_zsAn, zL_zsAn, zI_zsLn, zA_zsLn, zJ_zsLn, zL_zsLn, znn, lj0, lj1, lj2, lj3, lj4, lj5, lj6, lj7, lj8, lj9, lj10, lj12, lj13, lj14, lj16, lj20, lj21, lj22, lj23, lj26, lj30, lj32, lj40, lj48, lj50, lj57, lj59, lj97, lj99, lj100, lj122, lj128, lj180, lj320, lj500, lj999, nI_add, pk_mul, subN, clampN, zg_ix, nlt, nle, neq, znn, bind_n, ↓reduceIte, Nat.reduceAdd, Nat.reduceMul, Nat.reduceSub, Nat.reduceLeDiff, Nat.reduceEqDiff, Nat.add_zero, Nat.zero_add, Nat.reduceLT, Nat.mul_zero]
theorem ln119_g (n : Nat) (M : zSt) : fM_layNets_l119 (n + 1 + 1 + 1 + 1) M (nI 0) = some (mnet (mnet (mnet M 0) 1) 2) := by
  rw [ln119_1 _ M 0 1 rfl (by omega), ln119_1 _ _ 1 2 rfl (by omega), ln119_1 _ _ 2 3 rfl (by omega), ln119_s]
  simp (disch := omega) only [fM_layNets_l119b, lj0, lj1, lj2, lj3, lj4, lj5, lj6, lj7, lj8, lj9, lj10, lj12, lj13, lj14, lj16, lj20, lj21, lj22, lj23, lj26, lj30, lj32, lj40, lj48, lj50, lj57, lj59, lj97, lj99, lj100, lj122, lj128, lj180, lj320, lj500, lj999, nI_add, pk_mul, subN, clampN, zg_ix, nlt, nle, neq, znn, bind_n, ↓reduceIte, Nat.reduceAdd, Nat.reduceMul, Nat.reduceSub, Nat.reduceLeDiff, Nat.reduceEqDiff, Nat.add_zero, Nat.zero_add, Nat.reduceLT, Nat.mul_zero]
theorem lcol_F (M : zSt) (p : Nat) : LF 52 M (lcol M p) := ((LF_L M 52 _ _).trans (LF_L _ 52 _ _)).trans (LF_L _ 52 _ _)
theorem lcol_f (M : zSt) (p : Nat) : (∀ k, k ≠ 52 → zL (lcol M p) k = zL M k) := (lcol_F M p).2.2.2
theorem mend_f (M : zSt) (p : Nat) : (∀ k, zI (mend M p) k = zI M k) ∧ (∀ k, zA (mend M p) k = zA M k) ∧ (∀ k, zJ (mend M p) k = zJ M k) ∧ (∀ k, k ≠ 50 → k ≠ 51 → zL (mend M p) k = zL M k) := ⟨fun _ => rfl, fun _ => rfl, fun _ => rfl, fun k h1 h2 => by simp only [mend, zI_zsIn, zI_zsAfn, zI_zsJn, zI_zsLfn, zA_zsIn, zA_zsAfn, zA_zsJn, zA_zsLfn, zJ_zsIn, zJ_zsAfn, zJ_zsJn, zJ_zsLfn, zL_zsIn, zL_zsAfn, zL_zsJn, zL_zsLfn, zI_zsAn, zA_zsAn, zJ_zsAn, zL_zsAn, zI_zsLn, zA_zsLn, zJ_zsLn, zL_zsLn, znn, h1, h2, if_false]⟩
theorem lcol_v (M : zSt) (p : Nat) (hp : p < 3) : ∀ i, i < 9 → zL (lcol M p) 52 i = rp (zL M 52) (zL M 45) p i := by
  intro i hi
  have h3 : p = 0 ∨ p = 1 ∨ p = 2 := by omega
  have : i = 0 ∨ i = 1 ∨ i = 2 ∨ i = 3 ∨ i = 4 ∨ i = 5 ∨ i = 6 ∨ i = 7 ∨ i = 8 := by omega
  rcases h3 with rfl | rfl | rfl <;> rcases this with rfl | rfl | rfl | rfl | rfl | rfl | rfl | rfl | rfl <;> simp only [lcol, rp, zI_zsIn, zI_zsAfn, zI_zsJn, zI_zsLfn, zA_zsIn, zA_zsAfn, zA_zsJn, zA_zsLfn, zJ_zsIn, zJ_zsAfn, zJ_zsJn, zJ_zsLfn, zL_zsIn, zL_zsAfn, zL_zsJn, zL_zsLfn, zI_zsAn, zA_zsAn, zJ_zsAn, zL_zsAn, zI_zsLn, zA_zsLn, zJ_zsLn, zL_zsLn, znn, lj0, lj1, lj2, lj3, lj4, lj5, lj6, lj7, lj8, lj9, lj10, lj12, lj13, lj14, lj16, lj20, lj21, lj22, lj23, lj26, lj30, lj32, lj40, lj48, lj50, lj57, lj59, lj97, lj99, lj100, lj122, lj128, lj180, lj320, lj500, lj999, nI_add, pk_mul, subN, clampN, zg_ix, nlt, nle, neq, znn, bind_n, ↓reduceIte, Nat.reduceAdd, Nat.reduceMul, Nat.reduceSub, Nat.reduceLeDiff, Nat.reduceEqDiff, Nat.add_zero, Nat.zero_add, Nat.reduceLT, Nat.mul_zero, updL_app, Nat.succ_ne_self, Nat.zero_ne_one, Nat.one_ne_zero, Nat.reduceMod, Nat.reduceDiv]
theorem mnet_f (M : zSt) (p : Nat) : (∀ k, zI (mnet M p) k = zI M k) ∧ (∀ k, zA (mnet M p) k = zA M k) ∧ (∀ k, zJ (mnet M p) k = zJ M k) ∧ (∀ k, k ≠ 50 → k ≠ 51 → k ≠ 52 → zL (mnet M p) k = zL M k) := by
  have a := (sideM_f M).trans (lcol_F (sideM M) p)
  have b := mend_f (lcol (sideM M) p) p
  exact ⟨fun k => (b.1 k).trans (a.1 k), fun k => (b.2.1 k).trans (a.2.1 k), fun k => (b.2.2.1 k).trans (a.2.2.1 k), fun k h1 h2 h3 => (b.2.2.2 k h1 h2).trans (a.2.2.2 k h3)⟩
def shr (M : zSt) (p : Nat) : Int64 := det9 (rp (mx (ccM M) (zL M 47)) (zL M 45) p)
theorem rp_congr {m m' h : Nat → Int64} {q : Nat} (e : ∀ i, i < 9 → m i = m' i) : ∀ i, i < 9 → rp m h q i = rp m' h q i := by
  intro i hi
  unfold rp
  rw [e i hi]
theorem mnet_v (M : zSt) (p : Nat) (hp : p < 3) : (∀ q, zL (mnet M p) 51 q = if q = p then shr M p else zL M 51 q) ∧ (∀ q, zL (mnet M p) 50 q = if q = p then ccM M p * shr M p else zL M 50 q) := by
  have e1 : det9 (zL (lcol (sideM M) p) 52) = shr M p := by
    unfold shr
    refine det9_congr (fun i hi => ?_)
    rw [lcol_v _ _ hp i hi, (sideM_f M).2.2.2 45 (by omega)]
    exact rp_congr (sideM_v M) i hi
  have e2 : ccM (lcol (sideM M) p) p = ccM M p := by
    unfold ccM
    rw [lcol_f _ _ 46 (by omega), (sideM_f M).2.2.2 46 (by omega)]
  have e3 : ∀ k, k ≠ 52 → zL (lcol (sideM M) p) k = zL M k := fun k hk => by rw [lcol_f _ _ k hk, (sideM_f M).2.2.2 k hk]
  refine ⟨fun q => ?_, fun q => ?_⟩
  · unfold mnet mend
    simp only [zI_zsIn, zI_zsAfn, zI_zsJn, zI_zsLfn, zA_zsIn, zA_zsAfn, zA_zsJn, zA_zsLfn, zJ_zsIn, zJ_zsAfn, zJ_zsJn, zJ_zsLfn, zL_zsIn, zL_zsAfn, zL_zsJn, zL_zsLfn, zI_zsAn, zA_zsAn, zJ_zsAn, zL_zsAn, zI_zsLn, zA_zsLn, zJ_zsLn, zL_zsLn, znn, lj0, lj1, lj2, lj3, lj4, lj5, lj6, lj7, lj8, lj9, lj10, lj12, lj13, lj14, lj16, lj20, lj21, lj22, lj23, lj26, lj30, lj32, lj40, lj48, lj50, lj57, lj59, lj97, lj99, lj100, lj122, lj128, lj180, lj320, lj500, lj999, nI_add, pk_mul, subN, clampN, zg_ix, nlt, nle, neq, znn, bind_n, ↓reduceIte, Nat.reduceAdd, Nat.reduceMul, Nat.reduceSub, Nat.reduceLeDiff, Nat.reduceEqDiff, Nat.add_zero, Nat.zero_add, Nat.reduceLT, Nat.mul_zero, e1, updL_app, e3 51 (by omega)]
  · unfold mnet mend
    simp only [zI_zsIn, zI_zsAfn, zI_zsJn, zI_zsLfn, zA_zsIn, zA_zsAfn, zA_zsJn, zA_zsLfn, zJ_zsIn, zJ_zsAfn, zJ_zsJn, zJ_zsLfn, zL_zsIn, zL_zsAfn, zL_zsJn, zL_zsLfn, zI_zsAn, zA_zsAn, zJ_zsAn, zL_zsAn, zI_zsLn, zA_zsLn, zJ_zsLn, zL_zsLn, znn, lj0, lj1, lj2, lj3, lj4, lj5, lj6, lj7, lj8, lj9, lj10, lj12, lj13, lj14, lj16, lj20, lj21, lj22, lj23, lj26, lj30, lj32, lj40, lj48, lj50, lj57, lj59, lj97, lj99, lj100, lj122, lj128, lj180, lj320, lj500, lj999, nI_add, pk_mul, subN, clampN, zg_ix, nlt, nle, neq, znn, bind_n, ↓reduceIte, Nat.reduceAdd, Nat.reduceMul, Nat.reduceSub, Nat.reduceLeDiff, Nat.reduceEqDiff, Nat.add_zero, Nat.zero_add, Nat.reduceLT, Nat.mul_zero, e1, e2, updL_app, e3 50 (by omega)]
theorem mnet_c (M : zSt) (p : Nat) : ccM (mnet M p) = ccM M ∧ (∀ q, shr (mnet M p) q = shr M q) := by
  have h := (mnet_f M p).2.2.2
  have e : ccM (mnet M p) = ccM M := by
    funext q
    unfold ccM
    rw [h 46 (by omega) (by omega) (by omega)]
  refine ⟨e, fun q => ?_⟩
  unfold shr
  rw [e, h 47 (by omega) (by omega) (by omega), h 45 (by omega) (by omega) (by omega)]
/-- the parts of the reference, all of them -/
theorem parts_M (M : zSt) : ∃ M', fM_layNets_l119 zF M (nI 0) = some M' ∧ ML M M' ∧ (∀ k, zJ M' k = zJ M k) ∧ (∀ k, k ≠ 50 → k ≠ 51 → k ≠ 52 → zL M' k = zL M k) ∧ (∀ q, q < 3 → zL M' 51 q = shr M q ∧ zL M' 50 q = ccM M q * shr M q) := by
  have e := ln119_g 996 M
  rw [← zF4] at e
  have f0 := mnet_f M 0
  have f1 := mnet_f (mnet M 0) 1
  have f2 := mnet_f (mnet (mnet M 0) 1) 2
  have v0 := mnet_v M 0 (by omega)
  have v1 := mnet_v (mnet M 0) 1 (by omega)
  have v2 := mnet_v (mnet (mnet M 0) 1) 2 (by omega)
  have c0 := mnet_c M 0
  have c1 := mnet_c (mnet M 0) 1
  refine ⟨_, e, ⟨fun k => by rw [f2.1, f1.1, f0.1], fun k => by rw [f2.2.1, f1.2.1, f0.2.1]⟩, fun k => by rw [f2.2.2.1, f1.2.2.1, f0.2.2.1], fun k h1 h2 h3 => by rw [f2.2.2.2 k h1 h2 h3, f1.2.2.2 k h1 h2 h3, f0.2.2.2 k h1 h2 h3], fun q hq => ?_⟩
  rw [v2.1, v2.2, v1.1, v1.2, v0.1, v0.2, c1.2, c1.1, c0.2, c0.1, c0.2]
  have h3 : q = 0 ∨ q = 1 ∨ q = 2 := by omega
  rcases h3 with rfl | rfl | rfl
  · exact ⟨rfl, rfl⟩
  · exact ⟨rfl, rfl⟩
  · exact ⟨rfl, rfl⟩
