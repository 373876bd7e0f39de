/-! SUMS: the ends, and all that is reckoned -/
def big (z : Int) : Prop := -9223372036854775807 ≤ z ∧ z ≤ 9223372036854775807
theorem l100 : (100 : Int64) = Int64.ofInt 100 := rfl
theorem mulAbs {h : Nat} (z : Int) (hh : h ≤ 100) : ((h : Int) * z).natAbs ≤ 100 * z.natAbs := by
  rw [Int.natAbs_mul, Int.natAbs_natCast]
  exact Nat.mul_le_mul_right _ hh
theorem end_of {S C U M : zSt} {la h : Nat} {N : Nat → Int} (hla : la < 4) (c1 : zI C 1 = nI la) (m26 : zI M 26 = nI la) (s7 : zA S 7 la = nI h) (m9 : zA M 9 (8 * la + 7) = nI h) (hh : h ≤ 100) (hu : ∀ p, p < 3 → zL U 5 p = Int64.ofInt (N p)) (hm : ∀ p, p < 3 → zL M 50 p = Int64.ofInt (N p)) (b0 : 100 * (N 0).natAbs + 100 * (N 2).natAbs ≤ 9223372036854775807) (b1 : 100 * (N 1).natAbs + 100 * (N 2).natAbs ≤ 9223372036854775807) : ∃ U', fU_reckon_b47 U C S = some U' ∧ (∀ k, zI U' k = zI U k) ∧ (∀ k, zA U' k = zA U k) ∧ (∀ k, zJ U' k = zJ U k) ∧ (∀ k, k ≠ 6 → zL U' k = zL U k) ∧ (∀ w, w < 2 → ∃ z, big z ∧ zL U' 6 w = Int64.ofInt z ∧ fM_endOf M (nI w) = some (Int64.ofInt z)) := by
  have u0 := hu 0 (by omega)
  have u1 := hu 1 (by omega)
  have u2 := hu 2 (by omega)
  have v0 := hm 0 (by omega)
  have v1 := hm 1 (by omega)
  have v2 := hm 2 (by omega)
  have a1 := mulAbs (N 2) hh
  have a2 := mulAbs (h := 100 - h) (N 2) (by omega)
  have e9 : (100 : Int64) - Int64.ofInt (h : Int) = Int64.ofInt ((100 - h : Nat) : Int) := by
    rw [l100, ← Int64.ofInt_sub]
    congr 1
    omega
  refine ⟨zsL (zsL U 6 0 (Int64.ofInt (100 * N 0 + h * N 2))) 6 1 (Int64.ofInt (100 * N 1 + (100 - h : Nat) * N 2)), ?_, fun _ => rfl, fun _ => rfl, fun _ => rfl, fun k hk => ?_, fun w hw => ?_⟩
  · simp (disch := omega) only [fU_reckon_b47, li0, li1, li2, li3, li4, li5, li6, li7, li8, li9, li10, li12, li13, li14, li16, li20, li21, li22, li23, li26, li30, li32, li40, li48, li50, li57, li59, li97, li99, li100, li122, li128, li180, li320, li500, li999, nI_add, pk_mul, subN, clampN, zg_ix, nlt, nle, neq, zn_eq, bind_s, ↓reduceIte, Nat.reduceAdd, Nat.reduceMul, Nat.reduceSub, Nat.reduceLeDiff, Nat.reduceEqDiff, Nat.add_zero, Nat.zero_add, Nat.reduceLT, Nat.mul_zero, zI_zsI, zI_zsAf, zI_zsJ, zI_zsLf, zA_zsI, zA_zsAf, zA_zsJ, zA_zsLf, zJ_zsI, zJ_zsAf, zJ_zsJ, zJ_zsLf, zL_zsI, zL_zsAf, zL_zsJ, zL_zsLf, zI_zsA, zA_zsA, zJ_zsA, zL_zsA, zI_zsL, zA_zsL, zJ_zsL, zL_zsL, zn_eq, c1, s7, u0, u1, u2, nI64, l100, ← Int64.ofInt_add, ← Int64.ofInt_mul]
  · simp only [zI_zsI, zI_zsAf, zI_zsJ, zI_zsLf, zA_zsI, zA_zsAf, zA_zsJ, zA_zsLf, zJ_zsI, zJ_zsAf, zJ_zsJ, zJ_zsLf, zL_zsI, zL_zsAf, zL_zsJ, zL_zsLf, zI_zsA, zA_zsA, zJ_zsA, zL_zsA, zI_zsL, zA_zsL, zJ_zsL, zL_zsL, zn_eq, hk, if_false]
  · have w2 : w = 0 ∨ w = 1 := by omega
    rcases w2 with rfl | rfl
    · refine ⟨100 * N 0 + h * N 2, ?_, ?_, ?_⟩
      · generalize (h : Int) * N 2 = y at a1 ⊢
        unfold big
        omega
      · simp only [zI_zsI, zI_zsAf, zI_zsJ, zI_zsLf, zA_zsI, zA_zsAf, zA_zsJ, zA_zsLf, zJ_zsI, zJ_zsAf, zJ_zsJ, zJ_zsLf, zL_zsI, zL_zsAf, zL_zsJ, zL_zsLf, zI_zsA, zA_zsA, zJ_zsA, zL_zsA, zI_zsL, zA_zsL, zJ_zsL, zL_zsL, zn_eq, li0, li1, li2, li3, li4, li5, li6, li7, li8, li9, li10, li12, li13, li14, li16, li20, li21, li22, li23, li26, li30, li32, li40, li48, li50, li57, li59, li97, li99, li100, li122, li128, li180, li320, li500, li999, nI_add, pk_mul, subN, clampN, zg_ix, nlt, nle, neq, zn_eq, bind_s, ↓reduceIte, Nat.reduceAdd, Nat.reduceMul, Nat.reduceSub, Nat.reduceLeDiff, Nat.reduceEqDiff, Nat.add_zero, Nat.zero_add, Nat.reduceLT, Nat.mul_zero, updL_app, Nat.zero_ne_one]
      · simp (disch := omega) only [fM_endOf, fM_endOf_b40, li0, li1, li2, li3, li4, li5, li6, li7, li8, li9, li10, li12, li13, li14, li16, li20, li21, li22, li23, li26, li30, li32, li40, li48, li50, li57, li59, li97, li99, li100, li122, li128, li180, li320, li500, li999, nI_add, pk_mul, subN, clampN, zg_ix, nlt, nle, neq, zn_eq, bind_s, ↓reduceIte, Nat.reduceAdd, Nat.reduceMul, Nat.reduceSub, Nat.reduceLeDiff, Nat.reduceEqDiff, Nat.add_zero, Nat.zero_add, Nat.reduceLT, Nat.mul_zero, zI_zsI, zI_zsAf, zI_zsJ, zI_zsLf, zA_zsI, zA_zsAf, zA_zsJ, zA_zsLf, zJ_zsI, zJ_zsAf, zJ_zsJ, zJ_zsLf, zL_zsI, zL_zsAf, zL_zsJ, zL_zsLf, zI_zsA, zA_zsA, zJ_zsA, zL_zsA, zI_zsL, zA_zsL, zJ_zsL, zL_zsL, zn_eq, m26, m9, v0, v2, nI64, l100, ← Int64.ofInt_add, ← Int64.ofInt_mul]
    · refine ⟨100 * N 1 + (100 - h : Nat) * N 2, ?_, ?_, ?_⟩
      · generalize ((100 - h : Nat) : Int) * N 2 = y at a2 ⊢
        unfold big
        omega
      · simp only [zI_zsI, zI_zsAf, zI_zsJ, zI_zsLf, zA_zsI, zA_zsAf, zA_zsJ, zA_zsLf, zJ_zsI, zJ_zsAf, zJ_zsJ, zJ_zsLf, zL_zsI, zL_zsAf, zL_zsJ, zL_zsLf, zI_zsA, zA_zsA, zJ_zsA, zL_zsA, zI_zsL, zA_zsL, zJ_zsL, zL_zsL, zn_eq, li0, li1, li2, li3, li4, li5, li6, li7, li8, li9, li10, li12, li13, li14, li16, li20, li21, li22, li23, li26, li30, li32, li40, li48, li50, li57, li59, li97, li99, li100, li122, li128, li180, li320, li500, li999, nI_add, pk_mul, subN, clampN, zg_ix, nlt, nle, neq, zn_eq, bind_s, ↓reduceIte, Nat.reduceAdd, Nat.reduceMul, Nat.reduceSub, Nat.reduceLeDiff, Nat.reduceEqDiff, Nat.add_zero, Nat.zero_add, Nat.reduceLT, Nat.mul_zero, updL_app]
      · simp (disch := omega) only [fM_endOf, fM_endOf_b40, li0, li1, li2, li3, li4, li5, li6, li7, li8, li9, li10, li12, li13, li14, li16, li20, li21, li22, li23, li26, li30, li32, li40, li48, li50, li57, li59, li97, li99, li100, li122, li128, li180, li320, li500, li999, nI_add, pk_mul, subN, clampN, zg_ix, nlt, nle, neq, zn_eq, bind_s, ↓reduceIte, Nat.reduceAdd, Nat.reduceMul, Nat.reduceSub, Nat.reduceLeDiff, Nat.reduceEqDiff, Nat.add_zero, Nat.zero_add, Nat.reduceLT, Nat.mul_zero, zI_zsI, zI_zsAf, zI_zsJ, zI_zsLf, zA_zsI, zA_zsAf, zA_zsJ, zA_zsLf, zJ_zsI, zJ_zsAf, zJ_zsJ, zJ_zsLf, zL_zsI, zL_zsAf, zL_zsJ, zL_zsLf, zI_zsA, zA_zsA, zJ_zsA, zL_zsA, zI_zsL, zA_zsL, zJ_zsL, zL_zsL, zn_eq, m26, m9, v1, v2, nI64, e9]
        simp only [l100, ← Int64.ofInt_add, ← Int64.ofInt_mul]
theorem kB_eq (k : Nat) : kB k = 2147483648 * (k : Int) := by
  induction k with
  | zero => rfl
  | succ k ih => show kB k + 2147483648 = _; omega
theorem mcol_f (U : zSt) (q : Nat) : (∀ k, zI (mcol U q) k = zI U k) ∧ (∀ k, zA (mcol U q) k = zA U k) ∧ (∀ k, zJ (mcol U q) k = zJ U k) ∧ (∀ k, k ≠ 4 → k ≠ 5 → zL (mcol U q) k = zL U k) := ⟨fun _ => rfl, fun _ => rfl, fun _ => rfl, fun k h1 h2 => by simp only [mcol, zI_zsIn, zI_zsAfn, zI_zsJn, zI_zsLfn, zA_zsIn, zA_zsAfn, zA_zsJn, zA_zsLfn, zJ_zsIn, zJ_zsAfn, zJ_zsJn, zJ_zsLfn, zL_zsIn, zL_zsAfn, zL_zsJn, zL_zsLfn, zI_zsAn, zA_zsAn, zJ_zsAn, zL_zsAn, zI_zsLn, zA_zsLn, zJ_zsLn, zL_zsLn, znn, h1, h2, if_false]⟩
theorem mrow_f (U : zSt) (p : Nat) : (∀ k, zI (mrow U p) k = zI U k) ∧ (∀ k, zA (mrow U p) k = zA U k) ∧ (∀ k, zJ (mrow U p) k = zJ U k) ∧ (∀ k, k ≠ 8 → zL (mrow U p) k = zL U k) := ⟨fun _ => rfl, fun _ => rfl, fun _ => rfl, fun k h1 => by simp only [mrow, zI_zsIn, zI_zsAfn, zI_zsJn, zI_zsLfn, zA_zsIn, zA_zsAfn, zA_zsJn, zA_zsLfn, zJ_zsIn, zJ_zsAfn, zJ_zsJn, zJ_zsLfn, zL_zsIn, zL_zsAfn, zL_zsJn, zL_zsLfn, zI_zsAn, zA_zsAn, zJ_zsAn, zL_zsAn, zI_zsLn, zA_zsLn, zJ_zsLn, zL_zsLn, znn, h1, if_false]⟩
theorem mat_f (U : zSt) : (∀ k, zI (mat U) k = zI U k) ∧ (∀ k, zA (mat U) k = zA U k) ∧ (∀ k, zJ (mat U) k = zJ U k) ∧ (∀ k, k ≠ 8 → zL (mat U) k = zL U k) := by
  have f0 := mrow_f U 0
  have f1 := mrow_f (mrow U 0) 1
  have f2 := mrow_f (mrow (mrow U 0) 1) 2
  unfold mat
  exact ⟨fun k => by rw [f2.1, f1.1, f0.1], fun k => by rw [f2.2.1, f1.2.1, f0.2.1], fun k => by rw [f2.2.2.1, f1.2.2.1, f0.2.2.1], fun k h => by rw [f2.2.2.2 k h, f1.2.2.2 k h, f0.2.2.2 k h]⟩
theorem mat_v (U : zSt) (h0 : zL U 3 0 = 0) (h4 : zL U 3 4 = 0) (h8 : zL U 3 8 = 0) : ∀ i, i < 9 → zL (mat U) 8 i = mx (ccU U) (zL U 3) i := by
  intro i hi
  rcases nine hi with rfl | rfl | rfl | rfl | rfl | rfl | rfl | rfl | rfl <;> simp only [mat, mrow, ccU, mx, zI_zsIn, zI_zsAfn, zI_zsJn, zI_zsLfn, zA_zsIn, zA_zsAfn, zA_zsJn, zA_zsLfn, zJ_zsIn, zJ_zsAfn, zJ_zsJn, zJ_zsLfn, zL_zsIn, zL_zsAfn, zL_zsJn, zL_zsLfn, zI_zsAn, zA_zsAn, zJ_zsAn, zL_zsAn, zI_zsLn, zA_zsLn, zJ_zsLn, zL_zsLn, znn, lj0, lj1, lj2, lj3, lj4, lj5, lj6, lj7, lj8, lj9, lj10, lj12, lj13, lj14, lj16, lj20, lj21, lj22, lj23, lj26, lj30, lj32, lj40, lj48, lj50, lj57, lj59, lj97, lj99, lj100, lj122, lj128, lj180, lj320, lj500, lj999, nI_add, pk_mul, subN, clampN, zg_ix, nlt, nle, neq, znn, bind_n, ↓reduceIte, Nat.reduceAdd, Nat.reduceMul, Nat.reduceSub, Nat.reduceLeDiff, Nat.reduceEqDiff, Nat.add_zero, Nat.zero_add, Nat.reduceLT, Nat.mul_zero, updL_app, Nat.succ_ne_self, Nat.zero_ne_one, Nat.one_ne_zero, h0, h4, h8, Int64.add_zero, Nat.zero_mul, Nat.one_mul]
theorem cel_mat (U : zSt) (h0 : zL U 3 0 = 0) (h4 : zL U 3 4 = 0) (h8 : zL U 3 8 = 0) (q : Nat) (hq : q < 3) : det9 (cel (mat U) (nI q)) = det9 (rp (mx (ccU U) (zL U 3)) (zL U 0) q) := by
  refine det9_congr (fun i hi => ?_)
  unfold cel rp
  rw [(mat_f U).2.2.2 0 (by omega), mat_v U h0 h4 h8 i hi]
  by_cases z : i % 3 = q
  · rw [if_pos z, if_pos (by rw [z])]
  · rw [if_neg z, if_neg (by rw [neq (by omega) (by omega)]; exact z)]
theorem cel_mat0 (U : zSt) (h0 : zL U 3 0 = 0) (h4 : zL U 3 4 = 0) (h8 : zL U 3 8 = 0) : det9 (cel (mat U) (-1000000)) = det9 (mx (ccU U) (zL U 3)) := by
  refine det9_congr (fun i hi => ?_)
  unfold cel
  rw [mat_v U h0 h4 h8 i hi, if_neg (nI_ne_m _ (by omega))]
def tpU (U : zSt) (q : Nat) : Int64 := det9 (rp (mx (ccU U) (zL U 3)) (zL U 0) q)
theorem mcol_v (U : zSt) (q : Nat) (hq : q < 3) : (∀ p, zL (mcol U q) 5 p = if p = q then ccU U q * det9 (cel U (nI q)) else zL U 5 p) ∧ (∀ p r, p < 3 → r < 3 → zL (mcol U q) 4 (3 * p + r) = if r = q then zL U 3 (3 * p + r) * det9 (cel U (nI q)) else zL U 4 (3 * p + r)) := by
  generalize hd : det9 (cel U (nI q)) = d
  refine ⟨fun p => ?_, fun p r hp hr => ?_⟩
  · simp only [mcol, hd, zI_zsIn, zI_zsAfn, zI_zsJn, zI_zsLfn, zA_zsIn, zA_zsAfn, zA_zsJn, zA_zsLfn, zJ_zsIn, zJ_zsAfn, zJ_zsJn, zJ_zsLfn, zL_zsIn, zL_zsAfn, zL_zsJn, zL_zsLfn, zI_zsAn, zA_zsAn, zJ_zsAn, zL_zsAn, zI_zsLn, zA_zsLn, zJ_zsLn, zL_zsLn, znn, lj0, lj1, lj2, lj3, lj4, lj5, lj6, lj7, lj8, lj9, lj10, lj12, lj13, lj14, lj16, lj20, lj21, lj22, lj23, lj26, lj30, lj32, lj40, lj48, lj50, lj57, lj59, lj97, lj99, lj100, lj122, lj128, lj180, lj320, lj500, lj999, nI_add, pk_mul, subN, clampN, zg_ix, nlt, nle, neq, znn, bind_n, ↓reduceIte, Nat.reduceAdd, Nat.reduceMul, Nat.reduceSub, Nat.reduceLeDiff, Nat.reduceEqDiff, Nat.add_zero, Nat.zero_add, Nat.reduceLT, Nat.mul_zero, updL_app]
  · have p3 : p = 0 ∨ p = 1 ∨ p = 2 := by omega
    have r3 : r = 0 ∨ r = 1 ∨ r = 2 := by omega
    have q3 : q = 0 ∨ q = 1 ∨ q = 2 := by omega
    rcases p3 with rfl | rfl | rfl <;> rcases r3 with rfl | rfl | rfl <;> rcases q3 with rfl | rfl | rfl <;> simp only [mcol, hd, zI_zsIn, zI_zsAfn, zI_zsJn, zI_zsLfn, zA_zsIn, zA_zsAfn, zA_zsJn, zA_zsLfn, zJ_zsIn, zJ_zsAfn, zJ_zsJn, zJ_zsLfn, zL_zsIn, zL_zsAfn, zL_zsJn, zL_zsLfn, zI_zsAn, zA_zsAn, zJ_zsAn, zL_zsAn, zI_zsLn, zA_zsLn, zJ_zsLn, zL_zsLn, znn, lj0, lj1, lj2, lj3, lj4, lj5, lj6, lj7, lj8, lj9, lj10, lj12, lj13, lj14, lj16, lj20, lj21, lj22, lj23, lj26, lj30, lj32, lj40, lj48, lj50, lj57, lj59, lj97, lj99, lj100, lj122, lj128, lj180, lj320, lj500, lj999, nI_add, pk_mul, subN, clampN, zg_ix, nlt, nle, neq, znn, bind_n, ↓reduceIte, Nat.reduceAdd, Nat.reduceMul, Nat.reduceSub, Nat.reduceLeDiff, Nat.reduceEqDiff, Nat.add_zero, Nat.zero_add, Nat.reduceLT, Nat.mul_zero, updL_app, Nat.succ_ne_self, Nat.zero_ne_one, Nat.one_ne_zero, Nat.zero_mul, Nat.one_mul]
theorem mcol_cel (U : zSt) (q : Nat) (r : Int32) : cel (mcol U q) r = cel U r ∧ ccU (mcol U q) = ccU U := by
  have h := (mcol_f U q).2.2.2
  refine ⟨?_, ?_⟩
  · funext i
    unfold cel
    rw [h 0 (by omega) (by omega), h 8 (by omega) (by omega)]
  · funext i
    unfold ccU
    rw [h 1 (by omega) (by omega)]
theorem sol_v (U : zSt) (h0 : zL U 3 0 = 0) (h4 : zL U 3 4 = 0) (h8 : zL U 3 8 = 0) : zJ (sol U) 7 = det9 (mx (ccU U) (zL U 3)) ∧ (∀ k, zI (sol U) k = zI U k) ∧ (∀ k, zA (sol U) k = zA U k) ∧ (∀ k, k ≠ 4 → k ≠ 5 → k ≠ 8 → zL (sol U) k = zL U k) ∧ (∀ q, q < 3 → zL (sol U) 5 q = ccU U q * tpU U q) ∧ (∀ p q, p < 3 → q < 3 → zL (sol U) 4 (3 * p + q) = zL U 3 (3 * p + q) * tpU U q) := by
  obtain ⟨W, hW⟩ : ∃ W, W = zsJ (mat U) 7 (det9 (cel (mat U) (-1000000))) := ⟨_, rfl⟩
  have hs : sol U = mcol (mcol (mcol W 0) 1) 2 := by unfold sol; rw [hW]
  have f0 := mcol_f W 0
  have f1 := mcol_f (mcol W 0) 1
  have f2 := mcol_f (mcol (mcol W 0) 1) 2
  have v0 := mcol_v W 0 (by omega)
  have v1 := mcol_v (mcol W 0) 1 (by omega)
  have v2 := mcol_v (mcol (mcol W 0) 1) 2 (by omega)
  have wl : ∀ k, k ≠ 8 → zL W k = zL U k := by
    intro k hk
    rw [hW, zL_zsJn]
    exact (mat_f U).2.2.2 k hk
  have wc : ∀ r, cel W r = cel (mat U) r := by
    intro r
    funext i
    unfold cel
    rw [hW, zL_zsJn, zL_zsJn]
  have wu : ccU W = ccU U := by
    funext i
    unfold ccU
    rw [wl 1 (by omega)]
  rw [hs]
  refine ⟨?_, fun k => ?_, fun k => ?_, fun k h1 h2 h3 => ?_, fun q hq => ?_, fun p q hp hq => ?_⟩
  · rw [f2.2.2.1, f1.2.2.1, f0.2.2.1, hW, zJ_zsJn, if_pos rfl, cel_mat0 U h0 h4 h8]
  · rw [f2.1, f1.1, f0.1, hW, zI_zsJn, (mat_f U).1]
  · rw [f2.2.1, f1.2.1, f0.2.1, hW, zA_zsJn, (mat_f U).2.1]
  · rw [f2.2.2.2 k h1 h2, f1.2.2.2 k h1 h2, f0.2.2.2 k h1 h2, wl k h3]
  · unfold tpU
    rw [← cel_mat U h0 h4 h8 q hq, ← wu, ← wc]
    have h3 : q = 0 ∨ q = 1 ∨ q = 2 := by omega
    rcases h3 with rfl | rfl | rfl
    · rw [v2.1, if_neg (by omega), v1.1, if_neg (by omega), v0.1, if_pos rfl]
    · rw [v2.1, if_neg (by omega), v1.1, if_pos rfl, (mcol_cel W 0 (nI 1)).1, (mcol_cel W 0 (nI 1)).2]
    · rw [v2.1, if_pos rfl, (mcol_cel _ 1 (nI 2)).1, (mcol_cel _ 1 (nI 2)).2, (mcol_cel W 0 (nI 2)).1, (mcol_cel W 0 (nI 2)).2]
  · unfold tpU
    rw [← cel_mat U h0 h4 h8 q hq, ← wc, ← wl 3 (by omega)]
    have h3 : q = 0 ∨ q = 1 ∨ q = 2 := by omega
    rcases h3 with rfl | rfl | rfl
    · rw [v2.2 p 0 hp (by omega), if_neg (by omega), v1.2 p 0 hp (by omega), if_neg (by omega), v0.2 p 0 hp (by omega), if_pos rfl]
    · rw [v2.2 p 1 hp (by omega), if_neg (by omega), v1.2 p 1 hp (by omega), if_pos rfl, (mcol_cel W 0 (nI 1)).1, f0.2.2.2 3 (by omega) (by omega)]
    · rw [v2.2 p 2 hp (by omega), if_pos rfl, (mcol_cel _ 1 (nI 2)).1, (mcol_cel W 0 (nI 2)).1, f1.2.2.2 3 (by omega) (by omega), f0.2.2.2 3 (by omega) (by omega)]
