/-! SUMS: nets, sides, determinants -/
def det9 (m : Nat → Int64) : Int64 := m 0 * (m 4 * m 8 - m 5 * m 7) - m 1 * (m 3 * m 8 - m 5 * m 6) + m 2 * (m 3 * m 7 - m 4 * m 6)
def ccM (M : zSt) (p : Nat) : Int64 := if zL M 46 p = 0 then 1 else zL M 46 p
def ccU (U : zSt) (p : Nat) : Int64 := if zL U 1 p = 0 then 1 else zL U 1 p
theorem addNets_l2_s (n : Nat) (s : zSt) (x : Int32) : fU_addNets_l2 (n + 1) s x = fU_addNets_l2b (fun v0 v1 => fU_addNets_l2 n v0 v1) s x := rfl
theorem addNets_l21_s (K : zSt → Int32 → Option (zSt)) (n : Nat) (s : zSt) (x y : Int32) : fU_addNets_l21 K (n + 1) s x y = fU_addNets_l21b K (fun v0 v1 v2 => fU_addNets_l21 K n v0 v1 v2) s x y := rfl
def netq (U : zSt) (p q : Nat) : zSt := zsL U 5 p (zL U 5 p + (zL U 4 (p * 3 + q) - zL U 4 (q * 3 + p)))
theorem addNets_21 (K : zSt → Int32 → Option (zSt)) (n : Nat) (U : zSt) (p q q' : Nat) (hq' : q' = q + 1) (hp : p < 3) (hq : q < 3) : fU_addNets_l21 K (n + 1) U (nI p) (nI q) = fU_addNets_l21 K n (netq U p q) (nI p) (nI q') := by
  subst hq'
  have h3 : ¬ 3 ≤ q := by omega
  rw [addNets_l21_s]
  simp (disch := omega) only [fU_addNets_l21b, li0, li1, li2, li3, li4, li5, li6, li7, li8, li9, li10, li12, li13, li14, li16, li20, li21, li22, li23, li26, li30, li32, li40, li48, li50, li57, li59, li97, li99, li100, li122, li128, li180, li320, li500, li999, nI_add, pk_mul, subN, clampN, zg_ix, nlt, nle, neq, zn_eq, bind_s, ↓reduceIte, Nat.reduceAdd, Nat.reduceMul, Nat.reduceSub, Nat.reduceLeDiff, Nat.reduceEqDiff, Nat.add_zero, Nat.zero_add, Nat.reduceLT, Nat.mul_zero, h3, netq]
theorem addNets_21e (K : zSt → Int32 → Option (zSt)) (n : Nat) (U : zSt) (p : Nat) : fU_addNets_l21 K (n + 1) U (nI p) (nI 3) = K U (nI (p + 1)) := by
  rw [addNets_l21_s]
  simp (disch := omega) only [fU_addNets_l21b, li0, li1, li2, li3, li4, li5, li6, li7, li8, li9, li10, li12, li13, li14, li16, li20, li21, li22, li23, li26, li30, li32, li40, li48, li50, li57, li59, li97, li99, li100, li122, li128, li180, li320, li500, li999, nI_add, pk_mul, subN, clampN, zg_ix, nlt, nle, neq, zn_eq, bind_s, ↓reduceIte, Nat.reduceAdd, Nat.reduceMul, Nat.reduceSub, Nat.reduceLeDiff, Nat.reduceEqDiff, Nat.add_zero, Nat.zero_add, Nat.reduceLT, Nat.mul_zero]
def netp (U : zSt) (p : Nat) : zSt := netq (netq (netq (zsL U 5 p (zL U 0 p)) p 0) p 1) p 2
theorem addNets_2 (n : Nat) (U : zSt) (p p' : Nat) (hp' : p' = p + 1) (hp : p < 3) : fU_addNets_l2 (n + 1) U (nI p) = fU_addNets_l2 n (netp U p) (nI p') := by
  subst hp'
  have h3 : ¬ 3 ≤ p := by omega
  rw [addNets_l2_s]
  simp (disch := omega) only [fU_addNets_l2b, li0, li1, li2, li3, li4, li5, li6, li7, li8, li9, li10, li12, li13, li14, li16, li20, li21, li22, li23, li26, li30, li32, li40, li48, li50, li57, li59, li97, li99, li100, li122, li128, li180, li320, li500, li999, nI_add, pk_mul, subN, clampN, zg_ix, nlt, nle, neq, zn_eq, bind_s, ↓reduceIte, Nat.reduceAdd, Nat.reduceMul, Nat.reduceSub, Nat.reduceLeDiff, Nat.reduceEqDiff, Nat.add_zero, Nat.zero_add, Nat.reduceLT, Nat.mul_zero, h3]
  rw [show zF = 996 + 1 + 1 + 1 + 1 from rfl, addNets_21 _ _ _ p 0 1 rfl hp (by omega), addNets_21 _ _ _ p 1 2 rfl hp (by omega), addNets_21 _ _ _ p 2 3 rfl hp (by omega), addNets_21e]
  rfl
theorem addNets_g (n : Nat) (U : zSt) : fU_addNets_l2 (n + 1 + 1 + 1 + 1) U (nI 0) = some (netp (netp (netp U 0) 1) 2) := by
  rw [addNets_2 _ U 0 1 rfl (by omega), addNets_2 _ _ 1 2 rfl (by omega), addNets_2 _ _ 2 3 rfl (by omega), addNets_l2_s]
  simp (disch := omega) only [fU_addNets_l2b, li0, li1, li2, li3, li4, li5, li6, li7, li8, li9, li10, li12, li13, li14, li16, li20, li21, li22, li23, li26, li30, li32, li40, li48, li50, li57, li59, li97, li99, li100, li122, li128, li180, li320, li500, li999, nI_add, pk_mul, subN, clampN, zg_ix, nlt, nle, neq, zn_eq, bind_s, ↓reduceIte, Nat.reduceAdd, Nat.reduceMul, Nat.reduceSub, Nat.reduceLeDiff, Nat.reduceEqDiff, Nat.add_zero, Nat.zero_add, Nat.reduceLT, Nat.mul_zero]
theorem addNets_eq (U : zSt) : fU_addNets U = some (netp (netp (netp U 0) 1) 2) := addNets_g 996 U
theorem addNets_v (U : zSt) : zL (netp (netp (netp U 0) 1) 2) 5 0 = zL U 0 0 + (zL U 4 0 - zL U 4 0) + (zL U 4 1 - zL U 4 3) + (zL U 4 2 - zL U 4 6) ∧ zL (netp (netp (netp U 0) 1) 2) 5 1 = zL U 0 1 + (zL U 4 3 - zL U 4 1) + (zL U 4 4 - zL U 4 4) + (zL U 4 5 - zL U 4 7) ∧ zL (netp (netp (netp U 0) 1) 2) 5 2 = zL U 0 2 + (zL U 4 6 - zL U 4 2) + (zL U 4 7 - zL U 4 5) + (zL U 4 8 - zL U 4 8) := by
  refine ⟨?_, ?_, ?_⟩ <;> simp only [netp, netq, zI_zsIn, zI_zsAfn, zI_zsJn, zI_zsLfn, zA_zsIn, zA_zsAfn, zA_zsJn, zA_zsLfn, zJ_zsIn, zJ_zsAfn, zJ_zsJn, zJ_zsLfn, zL_zsIn, zL_zsAfn, zL_zsJn, zL_zsLfn, zI_zsAn, zA_zsAn, zJ_zsAn, zL_zsAn, zI_zsLn, zA_zsLn, zJ_zsLn, zL_zsLn, znn, li0, li1, li2, li3, li4, li5, li6, li7, li8, li9, li10, li12, li13, li14, li16, li20, li21, li22, li23, li26, li30, li32, li40, li48, li50, li57, li59, li97, li99, li100, li122, li128, li180, li320, li500, li999, nI_add, pk_mul, subN, clampN, zg_ix, nlt, nle, neq, zn_eq, bind_s, ↓reduceIte, Nat.reduceAdd, Nat.reduceMul, Nat.reduceSub, Nat.reduceLeDiff, Nat.reduceEqDiff, Nat.add_zero, Nat.zero_add, Nat.reduceLT, Nat.mul_zero, updL_app, Nat.succ_ne_self, Nat.zero_ne_one, Nat.one_ne_zero]
theorem netq_f (U : zSt) (p q : Nat) : (∀ k, zI (netq U p q) k = zI U k) ∧ (∀ k, zA (netq U p q) k = zA U k) ∧ (∀ k, zJ (netq U p q) k = zJ U k) ∧ (∀ k, k ≠ 5 → zL (netq U p q) k = zL U k) := ⟨fun _ => rfl, fun _ => rfl, fun _ => rfl, fun k hk => by simp only [netq, zI_zsIn, zI_zsAfn, zI_zsJn, zI_zsLfn, zA_zsIn, zA_zsAfn, zA_zsJn, zA_zsLfn, zJ_zsIn, zJ_zsAfn, zJ_zsJn, zJ_zsLfn, zL_zsIn, zL_zsAfn, zL_zsJn, zL_zsLfn, zI_zsAn, zA_zsAn, zJ_zsAn, zL_zsAn, zI_zsLn, zA_zsLn, zJ_zsLn, zL_zsLn, znn, hk, if_false]⟩
theorem netp_f (U : zSt) (p : Nat) : (∀ k, zI (netp U p) k = zI U k) ∧ (∀ k, zA (netp U p) k = zA U k) ∧ (∀ k, zJ (netp U p) k = zJ U k) ∧ (∀ k, k ≠ 5 → zL (netp U p) k = zL U k) := ⟨fun _ => rfl, fun _ => rfl, fun _ => rfl, fun k hk => by simp only [netp, netq, zI_zsIn, zI_zsAfn, zI_zsJn, zI_zsLfn, zA_zsIn, zA_zsAfn, zA_zsJn, zA_zsLfn, zJ_zsIn, zJ_zsAfn, zJ_zsJn, zJ_zsLfn, zL_zsIn, zL_zsAfn, zL_zsJn, zL_zsLfn, zI_zsAn, zA_zsAn, zJ_zsAn, zL_zsAn, zI_zsLn, zA_zsLn, zJ_zsLn, zL_zsLn, znn, hk, if_false]⟩
/-- the reference's nets where nothing goes round -/
theorem layNets29_s (n : Nat) (s : zSt) (x : Int32) : fM_layNets_l29 (n + 1) s x = fM_layNets_l29b (fun v0 v1 => fM_layNets_l29 n v0 v1) s x := rfl
theorem layNets48_s (K : zSt → Int32 → Option (zSt)) (n : Nat) (s : zSt) (x y : Int32) : fM_layNets_l48 K (n + 1) s x y = fM_layNets_l48b K (fun v0 v1 v2 => fM_layNets_l48 K n v0 v1 v2) s x y := rfl
def mnq (M : zSt) (p q : Nat) : zSt := zsL M 50 p (zL M 50 p + (if p = q then 0 else zL M 48 (3 * p + q) - zL M 48 (3 * q + p)))
theorem layNets48_1 (K : zSt → Int32 → Option (zSt)) (n : Nat) (M : zSt) (p q q' : Nat) (hq' : q' = q + 1) (hp : p < 3) (hq : q < 3) : fM_layNets_l48 K (n + 1) M (nI p) (nI q) = fM_layNets_l48 K n (mnq M p q) (nI p) (nI q') := by
  subst hq'
  have h3 : ¬ 3 ≤ q := by omega
  rw [layNets48_s]
  by_cases z : p = q
  · simp (disch := omega) only [fM_layNets_l48b, li0, li1, li2, li3, li4, li5, li6, li7, li8, li9, li10, li12, li13, li14, li16, li20, li21, li22, li23, li26, li30, li32, li40, li48, li50, li57, li59, li97, li99, li100, li122, li128, li180, li320, li500, li999, nI_add, pk_mul, subN, clampN, zg_ix, nlt, nle, neq, zn_eq, bind_s, ↓reduceIte, Nat.reduceAdd, Nat.reduceMul, Nat.reduceSub, Nat.reduceLeDiff, Nat.reduceEqDiff, Nat.add_zero, Nat.zero_add, Nat.reduceLT, Nat.mul_zero, h3, mnq, z]
  · simp (disch := omega) only [fM_layNets_l48b, li0, li1, li2, li3, li4, li5, li6, li7, li8, li9, li10, li12, li13, li14, li16, li20, li21, li22, li23, li26, li30, li32, li40, li48, li50, li57, li59, li97, li99, li100, li122, li128, li180, li320, li500, li999, nI_add, pk_mul, subN, clampN, zg_ix, nlt, nle, neq, zn_eq, bind_s, ↓reduceIte, Nat.reduceAdd, Nat.reduceMul, Nat.reduceSub, Nat.reduceLeDiff, Nat.reduceEqDiff, Nat.add_zero, Nat.zero_add, Nat.reduceLT, Nat.mul_zero, h3, mnq, z]
theorem layNets48_e (K : zSt → Int32 → Option (zSt)) (n : Nat) (M : zSt) (p : Nat) : fM_layNets_l48 K (n + 1) M (nI p) (nI 3) = K M (nI (p + 1)) := by
  rw [layNets48_s]
  simp (disch := omega) only [fM_layNets_l48b, li0, li1, li2, li3, li4, li5, li6, li7, li8, li9, li10, li12, li13, li14, li16, li20, li21, li22, li23, li26, li30, li32, li40, li48, li50, li57, li59, li97, li99, li100, li122, li128, li180, li320, li500, li999, nI_add, pk_mul, subN, clampN, zg_ix, nlt, nle, neq, zn_eq, bind_s, ↓reduceIte, Nat.reduceAdd, Nat.reduceMul, Nat.reduceSub, Nat.reduceLeDiff, Nat.reduceEqDiff, Nat.add_zero, Nat.zero_add, Nat.reduceLT, Nat.mul_zero]
def mnp (M : zSt) (p : Nat) : zSt := mnq (mnq (mnq (zsL M 50 p (zL M 45 p)) p 0) p 1) p 2
theorem layNets29_1 (n : Nat) (M : zSt) (p p' : Nat) (hp' : p' = p + 1) (hp : p < 3) : fM_layNets_l29 (n + 1) M (nI p) = fM_layNets_l29 n (mnp M p) (nI p') := by
  subst hp'
  have h3 : ¬ 3 ≤ p := by omega
  rw [layNets29_s]
  simp (disch := omega) only [fM_layNets_l29b, li0, li1, li2, li3, li4, li5, li6, li7, li8, li9, li10, li12, li13, li14, li16, li20, li21, li22, li23, li26, li30, li32, li40, li48, li50, li57, li59, li97, li99, li100, li122, li128, li180, li320, li500, li999, nI_add, pk_mul, subN, clampN, zg_ix, nlt, nle, neq, zn_eq, bind_s, ↓reduceIte, Nat.reduceAdd, Nat.reduceMul, Nat.reduceSub, Nat.reduceLeDiff, Nat.reduceEqDiff, Nat.add_zero, Nat.zero_add, Nat.reduceLT, Nat.mul_zero, h3]
  rw [show zF = 996 + 1 + 1 + 1 + 1 from rfl, layNets48_1 _ _ _ p 0 1 rfl hp (by omega), layNets48_1 _ _ _ p 1 2 rfl hp (by omega), layNets48_1 _ _ _ p 2 3 rfl hp (by omega), layNets48_e]
  rfl
theorem layNets29_g (n : Nat) (M : zSt) : fM_layNets_l29 (n + 1 + 1 + 1 + 1) M (nI 0) = some (mnp (mnp (mnp M 0) 1) 2) := by
  rw [layNets29_1 _ M 0 1 rfl (by omega), layNets29_1 _ _ 1 2 rfl (by omega), layNets29_1 _ _ 2 3 rfl (by omega), layNets29_s]
  simp (disch := omega) only [fM_layNets_l29b, li0, li1, li2, li3, li4, li5, li6, li7, li8, li9, li10, li12, li13, li14, li16, li20, li21, li22, li23, li26, li30, li32, li40, li48, li50, li57, li59, li97, li99, li100, li122, li128, li180, li320, li500, li999, nI_add, pk_mul, subN, clampN, zg_ix, nlt, nle, neq, zn_eq, bind_s, ↓reduceIte, Nat.reduceAdd, Nat.reduceMul, Nat.reduceSub, Nat.reduceLeDiff, Nat.reduceEqDiff, Nat.add_zero, Nat.zero_add, Nat.reduceLT, Nat.mul_zero]
theorem mnp_f (M : zSt) (p : Nat) : (∀ k, zI (mnp M p) k = zI M k) ∧ (∀ k, zA (mnp M p) k = zA M k) ∧ (∀ k, zJ (mnp M p) k = zJ M k) ∧ (∀ k, k ≠ 50 → zL (mnp M p) k = zL M k) := ⟨fun _ => rfl, fun _ => rfl, fun _ => rfl, fun k hk => by simp only [mnp, mnq, zI_zsIn, zI_zsAfn, zI_zsJn, zI_zsLfn, zA_zsIn, zA_zsAfn, zA_zsJn, zA_zsLfn, zJ_zsIn, zJ_zsAfn, zJ_zsJn, zJ_zsLfn, zL_zsIn, zL_zsAfn, zL_zsJn, zL_zsLfn, zI_zsAn, zA_zsAn, zJ_zsAn, zL_zsAn, zI_zsLn, zA_zsLn, zJ_zsLn, zL_zsLn, znn, hk, if_false]⟩
theorem layNets29_v (M : zSt) : zL (mnp (mnp (mnp M 0) 1) 2) 50 0 = zL M 45 0 + 0 + (zL M 48 1 - zL M 48 3) + (zL M 48 2 - zL M 48 6) ∧ zL (mnp (mnp (mnp M 0) 1) 2) 50 1 = zL M 45 1 + (zL M 48 3 - zL M 48 1) + 0 + (zL M 48 5 - zL M 48 7) ∧ zL (mnp (mnp (mnp M 0) 1) 2) 50 2 = zL M 45 2 + (zL M 48 6 - zL M 48 2) + (zL M 48 7 - zL M 48 5) + 0 := by
  refine ⟨?_, ?_, ?_⟩ <;> simp only [mnp, mnq, zI_zsIn, zI_zsAfn, zI_zsJn, zI_zsLfn, zA_zsIn, zA_zsAfn, zA_zsJn, zA_zsLfn, zJ_zsIn, zJ_zsAfn, zJ_zsJn, zJ_zsLfn, zL_zsIn, zL_zsAfn, zL_zsJn, zL_zsLfn, zI_zsAn, zA_zsAn, zJ_zsAn, zL_zsAn, zI_zsLn, zA_zsLn, zJ_zsLn, zL_zsLn, znn, li0, li1, li2, li3, li4, li5, li6, li7, li8, li9, li10, li12, li13, li14, li16, li20, li21, li22, li23, li26, li30, li32, li40, li48, li50, li57, li59, li97, li99, li100, li122, li128, li180, li320, li500, li999, nI_add, pk_mul, subN, clampN, zg_ix, nlt, nle, neq, zn_eq, bind_s, ↓reduceIte, Nat.reduceAdd, Nat.reduceMul, Nat.reduceSub, Nat.reduceLeDiff, Nat.reduceEqDiff, Nat.add_zero, Nat.zero_add, Nat.reduceLT, Nat.mul_zero, updL_app, Nat.succ_ne_self, Nat.zero_ne_one, Nat.one_ne_zero]
/-- the matrix of the class -/
theorem sp2_s (n : Nat) (s : zSt) (x : Int32) : fU_solveParts_l2 (n + 1) s x = fU_solveParts_l2b (fun v0 v1 => fU_solveParts_l2 n v0 v1) s x := rfl
theorem sp16_s (K : zSt → Int32 → Option (zSt)) (n : Nat) (s : zSt) (x : Int32) (v : Int64) (y : Int32) : fU_solveParts_l16 K (n + 1) s x v y = fU_solveParts_l16b K (fun v0 v1 v2 v3 => fU_solveParts_l16 K n v0 v1 v2 v3) s x v y := rfl
theorem sp16_1 (K : zSt → Int32 → Option (zSt)) (n : Nat) (U : zSt) (p q q' : Nat) (v : Int64) (hq' : q' = q + 1) (hp : p < 3) (hq : q < 3) : fU_solveParts_l16 K (n + 1) U (nI p) v (nI q) = fU_solveParts_l16 K n (zsL U 8 (p * 3 + q) (-(zL U 3 (p * 3 + q)))) (nI p) (v + zL U 3 (q * 3 + p)) (nI q') := by
  subst hq'
  have h3 : ¬ 3 ≤ q := by omega
  rw [sp16_s]
  simp (disch := omega) only [fU_solveParts_l16b, li0, li1, li2, li3, li4, li5, li6, li7, li8, li9, li10, li12, li13, li14, li16, li20, li21, li22, li23, li26, li30, li32, li40, li48, li50, li57, li59, li97, li99, li100, li122, li128, li180, li320, li500, li999, nI_add, pk_mul, subN, clampN, zg_ix, nlt, nle, neq, zn_eq, bind_s, ↓reduceIte, Nat.reduceAdd, Nat.reduceMul, Nat.reduceSub, Nat.reduceLeDiff, Nat.reduceEqDiff, Nat.add_zero, Nat.zero_add, Nat.reduceLT, Nat.mul_zero, h3]
theorem sp16_e (K : zSt → Int32 → Option (zSt)) (n : Nat) (U : zSt) (p : Nat) (v : Int64) (hp : p < 3) : fU_solveParts_l16 K (n + 1) U (nI p) v (nI 3) = K (zsL U 8 (p * 3 + p) v) (nI (p + 1)) := by
  rw [sp16_s]
  simp (disch := omega) only [fU_solveParts_l16b, li0, li1, li2, li3, li4, li5, li6, li7, li8, li9, li10, li12, li13, li14, li16, li20, li21, li22, li23, li26, li30, li32, li40, li48, li50, li57, li59, li97, li99, li100, li122, li128, li180, li320, li500, li999, nI_add, pk_mul, subN, clampN, zg_ix, nlt, nle, neq, zn_eq, bind_s, ↓reduceIte, Nat.reduceAdd, Nat.reduceMul, Nat.reduceSub, Nat.reduceLeDiff, Nat.reduceEqDiff, Nat.add_zero, Nat.zero_add, Nat.reduceLT, Nat.mul_zero]
def mrow (U : zSt) (p : Nat) : zSt := zsL (zsL (zsL (zsL U 8 (p * 3 + 0) (-(zL U 3 (p * 3 + 0)))) 8 (p * 3 + 1) (-(zL U 3 (p * 3 + 1)))) 8 (p * 3 + 2) (-(zL U 3 (p * 3 + 2)))) 8 (p * 3 + p) (ccU U p + zL U 3 (0 * 3 + p) + zL U 3 (1 * 3 + p) + zL U 3 (2 * 3 + p))
theorem came_eq (U : zSt) (p : Nat) (hp : p < 3) : fU_cameOrOne U (nI p) = some (ccU U p) := by
  unfold ccU
  by_cases z : zL U 1 p = 0
  · simp (disch := omega) only [fU_cameOrOne, li0, li1, li2, li3, li4, li5, li6, li7, li8, li9, li10, li12, li13, li14, li16, li20, li21, li22, li23, li26, li30, li32, li40, li48, li50, li57, li59, li97, li99, li100, li122, li128, li180, li320, li500, li999, nI_add, pk_mul, subN, clampN, zg_ix, nlt, nle, neq, zn_eq, bind_s, ↓reduceIte, Nat.reduceAdd, Nat.reduceMul, Nat.reduceSub, Nat.reduceLeDiff, Nat.reduceEqDiff, Nat.add_zero, Nat.zero_add, Nat.reduceLT, Nat.mul_zero, z]
  · simp (disch := omega) only [fU_cameOrOne, li0, li1, li2, li3, li4, li5, li6, li7, li8, li9, li10, li12, li13, li14, li16, li20, li21, li22, li23, li26, li30, li32, li40, li48, li50, li57, li59, li97, li99, li100, li122, li128, li180, li320, li500, li999, nI_add, pk_mul, subN, clampN, zg_ix, nlt, nle, neq, zn_eq, bind_s, ↓reduceIte, Nat.reduceAdd, Nat.reduceMul, Nat.reduceSub, Nat.reduceLeDiff, Nat.reduceEqDiff, Nat.add_zero, Nat.zero_add, Nat.reduceLT, Nat.mul_zero, z]
theorem sp2_1 (n : Nat) (U : zSt) (p p' : Nat) (hp' : p' = p + 1) (hp : p < 3) : fU_solveParts_l2 (n + 1) U (nI p) = fU_solveParts_l2 n (mrow U p) (nI p') := by
  subst hp'
  have h3 : ¬ 3 ≤ p := by omega
  rw [sp2_s]
  simp (disch := omega) only [fU_solveParts_l2b, li0, li1, li2, li3, li4, li5, li6, li7, li8, li9, li10, li12, li13, li14, li16, li20, li21, li22, li23, li26, li30, li32, li40, li48, li50, li57, li59, li97, li99, li100, li122, li128, li180, li320, li500, li999, nI_add, pk_mul, subN, clampN, zg_ix, nlt, nle, neq, zn_eq, bind_s, ↓reduceIte, Nat.reduceAdd, Nat.reduceMul, Nat.reduceSub, Nat.reduceLeDiff, Nat.reduceEqDiff, Nat.add_zero, Nat.zero_add, Nat.reduceLT, Nat.mul_zero, h3, came_eq]
  rw [show zF = 996 + 1 + 1 + 1 + 1 from rfl, sp16_1 _ _ _ p 0 1 _ rfl hp (by omega), sp16_1 _ _ _ p 1 2 _ rfl hp (by omega), sp16_1 _ _ _ p 2 3 _ rfl hp (by omega), sp16_e _ _ _ _ _ hp]
  rfl
theorem cell_eq (U : zSt) (i j : Nat) (r : Int32) (hi : i < 3) (hj : j < 3) : fU_cell U (nI i) (nI j) r = some (if nI j = r then zL U 0 i else zL U 8 (i * 3 + j)) := by
  by_cases z : nI j = r
  · subst z
    simp (disch := omega) only [fU_cell, li0, li1, li2, li3, li4, li5, li6, li7, li8, li9, li10, li12, li13, li14, li16, li20, li21, li22, li23, li26, li30, li32, li40, li48, li50, li57, li59, li97, li99, li100, li122, li128, li180, li320, li500, li999, nI_add, pk_mul, subN, clampN, zg_ix, nlt, nle, neq, zn_eq, bind_s, ↓reduceIte, Nat.reduceAdd, Nat.reduceMul, Nat.reduceSub, Nat.reduceLeDiff, Nat.reduceEqDiff, Nat.add_zero, Nat.zero_add, Nat.reduceLT, Nat.mul_zero]
  · simp (disch := omega) only [fU_cell, li0, li1, li2, li3, li4, li5, li6, li7, li8, li9, li10, li12, li13, li14, li16, li20, li21, li22, li23, li26, li30, li32, li40, li48, li50, li57, li59, li97, li99, li100, li122, li128, li180, li320, li500, li999, nI_add, pk_mul, subN, clampN, zg_ix, nlt, nle, neq, zn_eq, bind_s, ↓reduceIte, Nat.reduceAdd, Nat.reduceMul, Nat.reduceSub, Nat.reduceLeDiff, Nat.reduceEqDiff, Nat.add_zero, Nat.zero_add, Nat.reduceLT, Nat.mul_zero, z]
def cel (U : zSt) (r : Int32) (i : Nat) : Int64 := if nI (i % 3) = r then zL U 0 (i / 3) else zL U 8 i
theorem det_eq (U : zSt) (r : Int32) : fU_determinant U r = some (det9 (cel U r)) := by
  simp (disch := omega) only [fU_determinant, fU_minor, li0, li1, li2, li3, li4, li5, li6, li7, li8, li9, li10, li12, li13, li14, li16, li20, li21, li22, li23, li26, li30, li32, li40, li48, li50, li57, li59, li97, li99, li100, li122, li128, li180, li320, li500, li999, nI_add, pk_mul, subN, clampN, zg_ix, nlt, nle, neq, zn_eq, bind_s, ↓reduceIte, Nat.reduceAdd, Nat.reduceMul, Nat.reduceSub, Nat.reduceLeDiff, Nat.reduceEqDiff, Nat.add_zero, Nat.zero_add, Nat.reduceLT, Nat.mul_zero, cell_eq, det9, cel, Nat.reduceMod, Nat.reduceDiv]
theorem sp94_s (n : Nat) (s : zSt) (x : Int32) : fU_solveParts_l94 (n + 1) s x = fU_solveParts_l94b (fun v0 v1 => fU_solveParts_l94 n v0 v1) s x := rfl
theorem sp121_s (K : zSt → Int32 → Option (zSt)) (n : Nat) (s : zSt) (x : Int32) (v : Int64) (y : Int32) : fU_solveParts_l121 K (n + 1) s x v y = fU_solveParts_l121b K (fun v0 v1 v2 v3 => fU_solveParts_l121 K n v0 v1 v2 v3) s x v y := rfl
theorem sp121_1 (K : zSt → Int32 → Option (zSt)) (n : Nat) (U : zSt) (q p p' : Nat) (v : Int64) (hp' : p' = p + 1) (hp : p < 3) (hq : q < 3) : fU_solveParts_l121 K (n + 1) U (nI q) v (nI p) = fU_solveParts_l121 K n (zsL U 4 (p * 3 + q) (zL U 3 (p * 3 + q) * v)) (nI q) v (nI p') := by
  subst hp'
  have h3 : ¬ 3 ≤ p := by omega
  rw [sp121_s]
  simp (disch := omega) only [fU_solveParts_l121b, li0, li1, li2, li3, li4, li5, li6, li7, li8, li9, li10, li12, li13, li14, li16, li20, li21, li22, li23, li26, li30, li32, li40, li48, li50, li57, li59, li97, li99, li100, li122, li128, li180, li320, li500, li999, nI_add, pk_mul, subN, clampN, zg_ix, nlt, nle, neq, zn_eq, bind_s, ↓reduceIte, Nat.reduceAdd, Nat.reduceMul, Nat.reduceSub, Nat.reduceLeDiff, Nat.reduceEqDiff, Nat.add_zero, Nat.zero_add, Nat.reduceLT, Nat.mul_zero, h3]
theorem sp121_e (K : zSt → Int32 → Option (zSt)) (n : Nat) (U : zSt) (q : Nat) (v : Int64) : fU_solveParts_l121 K (n + 1) U (nI q) v (nI 3) = K U (nI (q + 1)) := by
  rw [sp121_s]
  simp (disch := omega) only [fU_solveParts_l121b, li0, li1, li2, li3, li4, li5, li6, li7, li8, li9, li10, li12, li13, li14, li16, li20, li21, li22, li23, li26, li30, li32, li40, li48, li50, li57, li59, li97, li99, li100, li122, li128, li180, li320, li500, li999, nI_add, pk_mul, subN, clampN, zg_ix, nlt, nle, neq, zn_eq, bind_s, ↓reduceIte, Nat.reduceAdd, Nat.reduceMul, Nat.reduceSub, Nat.reduceLeDiff, Nat.reduceEqDiff, Nat.add_zero, Nat.zero_add, Nat.reduceLT, Nat.mul_zero]
def mcol (U : zSt) (q : Nat) : zSt := zsL (zsL (zsL (zsL U 5 q (ccU U q * det9 (cel U (nI q)))) 4 (0 * 3 + q) (zL U 3 (0 * 3 + q) * det9 (cel U (nI q)))) 4 (1 * 3 + q) (zL U 3 (1 * 3 + q) * det9 (cel U (nI q)))) 4 (2 * 3 + q) (zL U 3 (2 * 3 + q) * det9 (cel U (nI q)))
theorem sp94_1 (n : Nat) (U : zSt) (q q' : Nat) (hq' : q' = q + 1) (hq : q < 3) : fU_solveParts_l94 (n + 1) U (nI q) = fU_solveParts_l94 n (mcol U q) (nI q') := by
  subst hq'
  have h3 : ¬ 3 ≤ q := by omega
  rw [sp94_s]
  simp (disch := omega) only [fU_solveParts_l94b, li0, li1, li2, li3, li4, li5, li6, li7, li8, li9, li10, li12, li13, li14, li16, li20, li21, li22, li23, li26, li30, li32, li40, li48, li50, li57, li59, li97, li99, li100, li122, li128, li180, li320, li500, li999, nI_add, pk_mul, subN, clampN, zg_ix, nlt, nle, neq, zn_eq, bind_s, ↓reduceIte, Nat.reduceAdd, Nat.reduceMul, Nat.reduceSub, Nat.reduceLeDiff, Nat.reduceEqDiff, Nat.add_zero, Nat.zero_add, Nat.reduceLT, Nat.mul_zero, h3, came_eq, det_eq]
  rw [show zF = 996 + 1 + 1 + 1 + 1 from rfl, sp121_1 _ _ _ q 0 1 _ rfl (by omega) hq, sp121_1 _ _ _ q 1 2 _ rfl (by omega) hq, sp121_1 _ _ _ q 2 3 _ rfl (by omega) hq, sp121_e]
  rfl
theorem sp94_g (n : Nat) (U : zSt) : fU_solveParts_l94 (n + 1 + 1 + 1 + 1) U (nI 0) = some (mcol (mcol (mcol U 0) 1) 2) := by
  rw [sp94_1 _ U 0 1 rfl (by omega), sp94_1 _ _ 1 2 rfl (by omega), sp94_1 _ _ 2 3 rfl (by omega), sp94_s]
  simp (disch := omega) only [fU_solveParts_l94b, li0, li1, li2, li3, li4, li5, li6, li7, li8, li9, li10, li12, li13, li14, li16, li20, li21, li22, li23, li26, li30, li32, li40, li48, li50, li57, li59, li97, li99, li100, li122, li128, li180, li320, li500, li999, nI_add, pk_mul, subN, clampN, zg_ix, nlt, nle, neq, zn_eq, bind_s, ↓reduceIte, Nat.reduceAdd, Nat.reduceMul, Nat.reduceSub, Nat.reduceLeDiff, Nat.reduceEqDiff, Nat.add_zero, Nat.zero_add, Nat.reduceLT, Nat.mul_zero]
def mat (U : zSt) : zSt := mrow (mrow (mrow U 0) 1) 2
def sol (U : zSt) : zSt := mcol (mcol (mcol (zsJ (mat U) 7 (det9 (cel (mat U) (-1000000)))) 0) 1) 2
theorem sp2_e (n : Nat) (U : zSt) : fU_solveParts_l2 (n + 1) U (nI 3) = Option.bind (fU_determinant U (-1000000)) fun y1 => fU_solveParts_l94 zF (zsJ U 7 y1) (nI 0) := by
  rw [sp2_s]
  unfold fU_solveParts_l2b
  rw [if_pos (by decide)]
  simp only [znn, lj0]
theorem sp2_f (n : Nat) (U : zSt) : fU_solveParts_l2 (n + 1) U (nI 3) = some (mcol (mcol (mcol (zsJ U 7 (det9 (cel U (-1000000)))) 0) 1) 2) := by
  rw [sp2_e, det_eq, bind_s]
  have e := sp94_g 996 (zsJ U 7 (det9 (cel U (-1000000))))
  rw [← zF4] at e
  exact e
theorem sp_g (n : Nat) (U : zSt) : fU_solveParts_l2 (n + 1 + 1 + 1 + 1) U (nI 0) = some (sol U) := by
  rw [sp2_1 _ U 0 1 rfl (by omega), sp2_1 _ _ 1 2 rfl (by omega), sp2_1 _ _ 2 3 rfl (by omega), sp2_f]
  rfl
theorem solve_eq (U : zSt) : fU_solveParts U = some (sol U) := sp_g 996 U
