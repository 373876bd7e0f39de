/-! SUMS: what is had, what came, what was fed, on both sides -/
theorem lN_ofInt (n : Nat) : lN n = Int64.ofInt (n : Int) := rfl
theorem nI64 {n : Nat} (h : n < 2 ^ 31) : (nI n).toInt64 = Int64.ofInt (n : Int) := (nI_l h).trans (lN_ofInt n)
theorem neg64 {d : Nat} (h : d < 2 ^ 30) : (-(nI d)).toInt64 = Int64.ofInt (-(d : Int)) := by
  have e1 : -(nI d) = nI 0 - nI d := by rw [nI_0, Int32.zero_sub]
  have e2 : (nI 0 - nI d).toInt = -(d : Int) := by rw [pk_sub_toInt (by omega) h]; omega
  apply Int64.toInt_inj.mp
  rw [toInt64_toInt, e1, e2, Int64.toInt_ofInt_of_le (by omega) (by omega)]
theorem i64_ofInt (x : Int32) : x.toInt64 = Int64.ofInt x.toInt := by
  apply Int64.toInt_inj.mp
  have h1 := Int32.le_toInt x
  have h2 := Int32.toInt_lt x
  rw [toInt64_toInt, Int64.toInt_ofInt_of_le (by omega) (by omega)]
def ML (M M' : zSt) : Prop := (∀ k, zI M' k = zI M k) ∧ (∀ k, zA M' k = zA M k)
theorem ML.refl (M : zSt) : ML M M := ⟨fun _ => rfl, fun _ => rfl⟩
theorem ML.trans {A B C : zSt} (h : ML A B) (g : ML B C) : ML A C := ⟨fun k => (g.1 k).trans (h.1 k), fun k => (g.2 k).trans (h.2 k)⟩
theorem ML_L (M : zSt) (k i : Nat) (v : Int64) : ML M (zsL M k i v) := ⟨fun _ => rfl, fun _ => rfl⟩
theorem ML_J (M : zSt) (k : Nat) (v : Int64) : ML M (zsJ M k v) := ⟨fun _ => rfl, fun _ => rfl⟩
def TR (U M : zSt) (H I : Nat → Int) (j : Nat) : Prop := (∀ p, p < 3 → zL U 0 p = Int64.ofInt (H p) ∧ zL M 45 p = Int64.ofInt (H p) ∧ zL U 1 p = Int64.ofInt (I p) ∧ zL M 46 p = Int64.ofInt (I p)) ∧ (∀ p, p < 3 → zA U 2 p = nI (cnt (zA M 29) (nI p) j)) ∧ (∀ p, p < 3 → -2970 ≤ H p ∧ 0 ≤ I p) ∧ I 0 + I 1 + I 2 ≤ 99 * j ∧ H 0 + H 1 + H 2 ≤ 3267 * j
def upz (f : Nat → Int) (k : Nat) (v : Int) : Nat → Int := fun j => if j = k then v else f j
theorem upz_same (f : Nat → Int) (k : Nat) (v : Int) : upz f k v k = v := if_pos rfl
theorem upz_ne {f : Nat → Int} {k j : Nat} {v : Int} (h : j ≠ k) : upz f k v j = f j := if_neg h
theorem upz_sum (f : Nat → Int) (k : Nat) (v : Int) (hk : k < 3) : upz f k (f k + v) 0 + upz f k (f k + v) 1 + upz f k (f k + v) 2 = f 0 + f 1 + f 2 + v := by
  have : k = 0 ∨ k = 1 ∨ k = 2 := by omega
  rcases this with rfl | rfl | rfl
  · rw [upz_same, upz_ne (by omega), upz_ne (by omega)]; omega
  · rw [upz_same, upz_ne (by omega), upz_ne (by omega)]; omega
  · rw [upz_same, upz_ne (by omega), upz_ne (by omega)]; omega
theorem th43_s (n : Nat) (U C : zSt) (x : Int32) : fU_addThings_l43 (n + 1) U C x = fU_addThings_l43b (fun v0 v1 v2 => fU_addThings_l43 n v0 v1 v2) U C x := rfl
theorem ls64_s (n : Nat) (M : zSt) (x : Int32) : fM_laySums_l64 (n + 1) M x = fM_laySums_l64b (fun v0 v1 => fM_laySums_l64 n v0 v1) M x := rfl
theorem things_step {U M C : zSt} {H I : Nat → Int} {j p w c t : Nat} (n n' : Nat) (h : TR U M H I j) (hj : j < t) (ht : t ≤ 10) (hp : p < 3) (hw : w ≤ 3267) (hc : c ≤ 99) (c4 : zI C 4 = nI t) (m28 : zI M 28 = nI t) (c8 : zA C 8 j = nI p) (m29 : zA M 29 j = nI p) (c11 : zA C 11 j = nI w) (m34 : zA M 34 j = nI w) (c6 : zA C 6 j = nI c) (m35 : zA M 35 j = nI c) : ∃ U' M' H' I', fU_addThings_l43 (n + 1) U C (nI j) = fU_addThings_l43 n U' C (nI (j + 1)) ∧ fM_laySums_l64 (n' + 1) M (nI j) = fM_laySums_l64 n' M' (nI (j + 1)) ∧ TR U' M' H' I' (j + 1) ∧ ML M M' ∧ (∀ k, 47 ≤ k → zL M' k = zL M k) := by
  obtain ⟨h1, h2, h3, h4, h5⟩ := h
  have hjt : ¬ t ≤ j := by omega
  have hcn := cnt_le (zA M 29) (nI p) j
  obtain ⟨a1, a2, a3, a4⟩ := h1 p hp
  refine ⟨zsA (zsL (zsL U 0 p (Int64.ofInt (H p + w))) 1 p (Int64.ofInt (I p + c))) 2 p (nI (cnt (zA M 29) (nI p) j + 1)), zsL (zsL M 45 p (Int64.ofInt (H p + w))) 46 p (Int64.ofInt (I p + c)), upz H p (H p + w), upz I p (I p + c), ?_, ?_, ⟨fun q hq => ?_, fun q hq => ?_, fun q hq => ?_, ?_, ?_⟩, (ML_L _ _ _ _).trans (ML_L _ _ _ _), fun k hk => ?_⟩
  · rw [th43_s]
    simp (disch := omega) only [fU_addThings_l43b, li0, li1, li2, li3, li4, li5, li6, li7, li8, li9, li10, li12, li13, li14, li16, li20, li21, li22, li23, li26, li30, li32, li40, li48, li50, li57, li59, li97, li99, li100, li122, li128, li180, li320, li500, li999, nI_add, pk_mul, subN, clampN, zg_ix, nlt, nle, neq, zn_eq, bind_s, ↓reduceIte, Nat.reduceAdd, Nat.reduceMul, Nat.reduceSub, Nat.reduceLeDiff, Nat.reduceEqDiff, Nat.add_zero, Nat.zero_add, Nat.reduceLT, Nat.mul_zero, zI_zsI, zI_zsAf, zI_zsJ, zI_zsLf, zA_zsI, zA_zsAf, zA_zsJ, zA_zsLf, zJ_zsI, zJ_zsAf, zJ_zsJ, zJ_zsLf, zL_zsI, zL_zsAf, zL_zsJ, zL_zsLf, zI_zsA, zA_zsA, zJ_zsA, zL_zsA, zI_zsL, zA_zsL, zJ_zsL, zL_zsL, zn_eq, c4, hjt, c8, c11, c6, a1, a3, nI64, h2 p hp, ← Int64.ofInt_add]
  · rw [ls64_s]
    simp (disch := omega) only [fM_laySums_l64b, li0, li1, li2, li3, li4, li5, li6, li7, li8, li9, li10, li12, li13, li14, li16, li20, li21, li22, li23, li26, li30, li32, li40, li48, li50, li57, li59, li97, li99, li100, li122, li128, li180, li320, li500, li999, nI_add, pk_mul, subN, clampN, zg_ix, nlt, nle, neq, zn_eq, bind_s, ↓reduceIte, Nat.reduceAdd, Nat.reduceMul, Nat.reduceSub, Nat.reduceLeDiff, Nat.reduceEqDiff, Nat.add_zero, Nat.zero_add, Nat.reduceLT, Nat.mul_zero, zI_zsI, zI_zsAf, zI_zsJ, zI_zsLf, zA_zsI, zA_zsAf, zA_zsJ, zA_zsLf, zJ_zsI, zJ_zsAf, zJ_zsJ, zJ_zsLf, zL_zsI, zL_zsAf, zL_zsJ, zL_zsLf, zI_zsA, zA_zsA, zJ_zsA, zL_zsA, zI_zsL, zA_zsL, zJ_zsL, zL_zsL, zn_eq, m28, hjt, m29, m34, m35, a2, a4, nI64, ← Int64.ofInt_add]
  · by_cases z : q = p
    · subst z
      simp only [zI_zsI, zI_zsAf, zI_zsJ, zI_zsLf, zA_zsI, zA_zsAf, zA_zsJ, zA_zsLf, zJ_zsI, zJ_zsAf, zJ_zsJ, zJ_zsLf, zL_zsI, zL_zsAf, zL_zsJ, zL_zsLf, zI_zsA, zA_zsA, zJ_zsA, zL_zsA, zI_zsL, zA_zsL, zJ_zsL, zL_zsL, zn_eq, li0, li1, li2, li3, li4, li5, li6, li7, li8, li9, li10, li12, li13, li14, li16, li20, li21, li22, li23, li26, li30, li32, li40, li48, li50, li57, li59, li97, li99, li100, li122, li128, li180, li320, li500, li999, nI_add, pk_mul, subN, clampN, zg_ix, nlt, nle, neq, zn_eq, bind_s, ↓reduceIte, Nat.reduceAdd, Nat.reduceMul, Nat.reduceSub, Nat.reduceLeDiff, Nat.reduceEqDiff, Nat.add_zero, Nat.zero_add, Nat.reduceLT, Nat.mul_zero, updL_same, upz_same, and_self]
    · simp only [zI_zsI, zI_zsAf, zI_zsJ, zI_zsLf, zA_zsI, zA_zsAf, zA_zsJ, zA_zsLf, zJ_zsI, zJ_zsAf, zJ_zsJ, zJ_zsLf, zL_zsI, zL_zsAf, zL_zsJ, zL_zsLf, zI_zsA, zA_zsA, zJ_zsA, zL_zsA, zI_zsL, zA_zsL, zJ_zsL, zL_zsL, zn_eq, li0, li1, li2, li3, li4, li5, li6, li7, li8, li9, li10, li12, li13, li14, li16, li20, li21, li22, li23, li26, li30, li32, li40, li48, li50, li57, li59, li97, li99, li100, li122, li128, li180, li320, li500, li999, nI_add, pk_mul, subN, clampN, zg_ix, nlt, nle, neq, zn_eq, bind_s, ↓reduceIte, Nat.reduceAdd, Nat.reduceMul, Nat.reduceSub, Nat.reduceLeDiff, Nat.reduceEqDiff, Nat.add_zero, Nat.zero_add, Nat.reduceLT, Nat.mul_zero, updL_ne z, upz_ne z]
      exact h1 q hq
  · have e0 : zA (zsL (zsL M 45 p (Int64.ofInt (H p + w))) 46 p (Int64.ofInt (I p + c))) 29 = zA M 29 := rfl
    rw [e0]
    simp only [cnt, m29]
    by_cases z : q = p
    · subst z
      simp only [zI_zsI, zI_zsAf, zI_zsJ, zI_zsLf, zA_zsI, zA_zsAf, zA_zsJ, zA_zsLf, zJ_zsI, zJ_zsAf, zJ_zsJ, zJ_zsLf, zL_zsI, zL_zsAf, zL_zsJ, zL_zsLf, zI_zsA, zA_zsA, zJ_zsA, zL_zsA, zI_zsL, zA_zsL, zJ_zsL, zL_zsL, zn_eq, li0, li1, li2, li3, li4, li5, li6, li7, li8, li9, li10, li12, li13, li14, li16, li20, li21, li22, li23, li26, li30, li32, li40, li48, li50, li57, li59, li97, li99, li100, li122, li128, li180, li320, li500, li999, nI_add, pk_mul, subN, clampN, zg_ix, nlt, nle, neq, zn_eq, bind_s, ↓reduceIte, Nat.reduceAdd, Nat.reduceMul, Nat.reduceSub, Nat.reduceLeDiff, Nat.reduceEqDiff, Nat.add_zero, Nat.zero_add, Nat.reduceLT, Nat.mul_zero, upd_same]
    · have z1 : ¬ nI p = nI q := by rw [neq (by omega) (by omega)]; omega
      simp only [zI_zsI, zI_zsAf, zI_zsJ, zI_zsLf, zA_zsI, zA_zsAf, zA_zsJ, zA_zsLf, zJ_zsI, zJ_zsAf, zJ_zsJ, zJ_zsLf, zL_zsI, zL_zsAf, zL_zsJ, zL_zsLf, zI_zsA, zA_zsA, zJ_zsA, zL_zsA, zI_zsL, zA_zsL, zJ_zsL, zL_zsL, zn_eq, li0, li1, li2, li3, li4, li5, li6, li7, li8, li9, li10, li12, li13, li14, li16, li20, li21, li22, li23, li26, li30, li32, li40, li48, li50, li57, li59, li97, li99, li100, li122, li128, li180, li320, li500, li999, nI_add, pk_mul, subN, clampN, zg_ix, nlt, nle, neq, zn_eq, bind_s, ↓reduceIte, Nat.reduceAdd, Nat.reduceMul, Nat.reduceSub, Nat.reduceLeDiff, Nat.reduceEqDiff, Nat.add_zero, Nat.zero_add, Nat.reduceLT, Nat.mul_zero, upd_ne z, z1]
      exact h2 q hq
  · have b1 := h3 q hq
    by_cases z : q = p
    · subst z
      simp only [upz_same]
      omega
    · simp only [upz_ne z]
      exact b1
  · rw [upz_sum _ _ _ hp]; omega
  · rw [upz_sum _ _ _ hp]; omega
  · simp only [zI_zsI, zI_zsAf, zI_zsJ, zI_zsLf, zA_zsI, zA_zsAf, zA_zsJ, zA_zsLf, zJ_zsI, zJ_zsAf, zJ_zsJ, zJ_zsLf, zL_zsI, zL_zsAf, zL_zsJ, zL_zsLf, zI_zsA, zA_zsA, zJ_zsA, zL_zsA, zI_zsL, zA_zsL, zJ_zsL, zL_zsL, zn_eq]
    rw [if_neg (by omega), if_neg (by omega)]
theorem things_run {S C : zSt} {l i N t o la : Nat} {fb : Prop} (ht : t ≤ 10) (hi : i ≤ 30) (hla : la < 4) : ∀ (d j f f' : Nat) (U M : zSt) (H I : Nat → Int), j + d = t → d < f → d < f' → TR U M H I j → CR fb S C M l i t N → zI M 26 = nI la → zA M 9 (8 * la + 5) = nI o → ∃ U' M' H' I', fU_addThings_l43 f U C (nI j) = some U' ∧ fM_laySums_l64 f' M (nI j) = fM_laySums_l137 zF M' (nI o) (nI 0) ∧ TR U' M' H' I' t ∧ ML M M' ∧ (∀ k, 47 ≤ k → zL M' k = zL M k) := by
  intro d
  induction d with
  | zero =>
    intro j f f' U M H I hd hf hf' h hC hla2 ho
    obtain ⟨n, rfl⟩ : ∃ n, f = n + 1 := ⟨f - 1, by omega⟩
    obtain ⟨n', rfl⟩ : ∃ n, f' = n + 1 := ⟨f' - 1, by omega⟩
    obtain ⟨lb, n1, h1, h2, h3, h4, h5, h6, h7, h8, h9, h10, h11, h12⟩ := hC
    have hj : j = t := by omega
    subst hj
    refine ⟨U, M, H, I, ?_, ?_, h, ML.refl M, fun _ _ => rfl⟩
    · rw [th43_s]
      simp (disch := omega) only [fU_addThings_l43b, li0, li1, li2, li3, li4, li5, li6, li7, li8, li9, li10, li12, li13, li14, li16, li20, li21, li22, li23, li26, li30, li32, li40, li48, li50, li57, li59, li97, li99, li100, li122, li128, li180, li320, li500, li999, nI_add, pk_mul, subN, clampN, zg_ix, nlt, nle, neq, zn_eq, bind_s, ↓reduceIte, Nat.reduceAdd, Nat.reduceMul, Nat.reduceSub, Nat.reduceLeDiff, Nat.reduceEqDiff, Nat.add_zero, Nat.zero_add, Nat.reduceLT, Nat.mul_zero, h6, Nat.le_refl]
    · rw [ls64_s]
      simp (disch := omega) only [fM_laySums_l64b, li0, li1, li2, li3, li4, li5, li6, li7, li8, li9, li10, li12, li13, li14, li16, li20, li21, li22, li23, li26, li30, li32, li40, li48, li50, li57, li59, li97, li99, li100, li122, li128, li180, li320, li500, li999, nI_add, pk_mul, subN, clampN, zg_ix, nlt, nle, neq, zn_eq, bind_s, ↓reduceIte, Nat.reduceAdd, Nat.reduceMul, Nat.reduceSub, Nat.reduceLeDiff, Nat.reduceEqDiff, Nat.add_zero, Nat.zero_add, Nat.reduceLT, Nat.mul_zero, h7, Nat.le_refl, hla2, ho]
  | succ d ih =>
    intro j f f' U M H I hd hf hf' h hC hla2 ho
    obtain ⟨n, rfl⟩ : ∃ n, f = n + 1 := ⟨f - 1, by omega⟩
    obtain ⟨n', rfl⟩ : ∃ n, f' = n + 1 := ⟨f' - 1, by omega⟩
    have hC' := hC
    obtain ⟨lb, n1, h1, h2, h3, h4, h5, h6, h7, h8, h9, h10, h11, h12⟩ := hC'
    obtain ⟨g1, ⟨c, g2, g2a, g2b⟩, g3, ⟨p, g4, g4a, g4b⟩, g5, g6, ⟨w, g7, g7a, g7b⟩, g8⟩ := h8 j (by omega)
    obtain ⟨U1, M1, H1, I1, e1, e2, e3, e4, e5⟩ := things_step n n' h (by omega : j < t) ht g4 (by omega) g2 h6 h7 g4a g4b g7a g7b g2a g2b
    have hC1 : CR fb S C M1 l i t N := by
      unfold CR AgR ThR ThO PuR at hC ⊢
      simp only [e4.1, e4.2]
      exact hC
    obtain ⟨U2, M2, H2, I2, f1, f2, f3, f4, f5⟩ := ih (j + 1) n n' U1 M1 H1 I1 (by omega) (by omega) (by omega) e3 hC1 (by rw [e4.1]; exact hla2) (by rw [e4.2]; exact ho)
    exact ⟨U2, M2, H2, I2, e1.trans f1, e2.trans f2, f3, e4.trans f4, fun k hk => (f5 k hk).trans (e5 k hk)⟩
