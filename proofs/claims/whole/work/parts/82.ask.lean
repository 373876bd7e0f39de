/-! CALLS: as, ask -/
def TrR (T M : zSt) (n : Nat) : Prop := n ≤ 16 ∧ zI T 1 = nI n ∧ zI M 54 = nI n ∧ ∀ i, i < n → zA T 0 i = zA M 53 i
def TM (M M' : zSt) : Prop := (∀ k, k ≠ 54 → zI M' k = zI M k) ∧ (∀ k, k ≠ 53 → zA M' k = zA M k)
theorem TM.refl (M : zSt) : TM M M := ⟨fun _ _ => rfl, fun _ _ => rfl⟩
theorem TM.trans {A B C : zSt} (h : TM A B) (g : TM B C) : TM A C := ⟨fun k a => (g.1 k a).trans (h.1 k a), fun k a => (g.2 k a).trans (h.2 k a)⟩
theorem leave_sim {T M : zSt} {n : Nat} (c : Int32) (h : TrR T M n) (hn : n < 16) : ∃ T' M', fT_leave T c = some T' ∧ fM_began M c = some M' ∧ TrR T' M' (n + 1) ∧ TM M M' := by
  obtain ⟨h1, h2, h3, h4⟩ := h
  refine ⟨zsI (zsA T 0 n c) 1 (nI (n + 1)), zsI (zsA M 53 n c) 54 (nI (n + 1)), ?_, ?_, ⟨by omega, rfl, rfl, fun i hi => ?_⟩, ⟨fun k hk => ?_, fun k hk => ?_⟩⟩
  · simp (disch := omega) only [fT_leave, li0, li1, li2, li3, li4, li5, li6, li7, li8, li9, li10, li12, li13, li14, li16, li20, li21, li22, li23, li26, li30, li32, li40, li48, li50, li57, li59, li97, li99, li100, li122, li128, li180, li320, li500, li999, nI_add, pk_mul, subN, clampN, zg_ix, nlt, nle, neq, zn_eq, bind_s, ↓reduceIte, Nat.reduceAdd, Nat.reduceMul, Nat.reduceSub, Nat.reduceLeDiff, Nat.reduceEqDiff, Nat.add_zero, Nat.zero_add, Nat.reduceLT, Nat.mul_zero, zI_zsI, zI_zsAf, zI_zsJ, zI_zsLf, zA_zsI, zA_zsAf, zA_zsJ, zA_zsLf, zJ_zsI, zJ_zsAf, zJ_zsJ, zJ_zsLf, zL_zsI, zL_zsAf, zL_zsJ, zL_zsLf, zI_zsA, zA_zsA, zJ_zsA, zL_zsA, zI_zsL, zA_zsL, zJ_zsL, zL_zsL, zn_eq, h2, show ¬ 16 ≤ n from by omega]
  · simp (disch := omega) only [fM_began, li0, li1, li2, li3, li4, li5, li6, li7, li8, li9, li10, li12, li13, li14, li16, li20, li21, li22, li23, li26, li30, li32, li40, li48, li50, li57, li59, li97, li99, li100, li122, li128, li180, li320, li500, li999, nI_add, pk_mul, subN, clampN, zg_ix, nlt, nle, neq, zn_eq, bind_s, ↓reduceIte, Nat.reduceAdd, Nat.reduceMul, Nat.reduceSub, Nat.reduceLeDiff, Nat.reduceEqDiff, Nat.add_zero, Nat.zero_add, Nat.reduceLT, Nat.mul_zero, zI_zsI, zI_zsAf, zI_zsJ, zI_zsLf, zA_zsI, zA_zsAf, zA_zsJ, zA_zsLf, zJ_zsI, zJ_zsAf, zJ_zsJ, zJ_zsLf, zL_zsI, zL_zsAf, zL_zsJ, zL_zsLf, zI_zsA, zA_zsA, zJ_zsA, zL_zsA, zI_zsL, zA_zsL, zJ_zsL, zL_zsL, zn_eq, h3, show ¬ 16 ≤ n from by omega]
  · show upd (zA T 0) n c i = upd (zA M 53) n c i
    by_cases z : i = n
    · subst z; rw [upd_same, upd_same]
    · rw [upd_ne z, upd_ne z]; exact h4 i (by omega)
  · simp only [zI_zsI, zI_zsAf, zI_zsJ, zI_zsLf, zA_zsI, zA_zsAf, zA_zsJ, zA_zsLf, zJ_zsI, zJ_zsAf, zJ_zsJ, zJ_zsLf, zL_zsI, zL_zsAf, zL_zsJ, zL_zsLf, zI_zsA, zA_zsA, zJ_zsA, zL_zsA, zI_zsL, zA_zsL, zJ_zsL, zL_zsL, zn_eq]
    rw [if_neg hk]
  · simp only [zI_zsI, zI_zsAf, zI_zsJ, zI_zsLf, zA_zsI, zA_zsAf, zA_zsJ, zA_zsLf, zJ_zsI, zJ_zsAf, zJ_zsJ, zJ_zsLf, zL_zsI, zL_zsAf, zL_zsJ, zL_zsLf, zI_zsA, zA_zsA, zJ_zsA, zL_zsA, zI_zsL, zA_zsL, zJ_zsL, zL_zsL, zn_eq]
    rw [if_neg hk]
theorem sub64 {a b : Nat} (ha : a < 2 ^ 30) (hb : b < 2 ^ 30) : (nI a - nI b).toInt64 = Int64.ofInt ((a : Int) - b) := by
  apply Int64.toInt_inj.mp
  rw [toInt64_toInt, pk_sub_toInt ha hb, Int64.toInt_ofInt_of_le (by omega) (by omega)]
theorem e10f : ((1 : Int32) = 0) = False := eq_false (by decide)
theorem e00t : ((0 : Int32) = 0) = True := eq_true rfl
def AskV (f : Option (Int64 × zSt)) (g : Option (Int32 × zSt)) (M : zSt) : Prop := ∃ v x T' M' n, f = some (v, T') ∧ g = some (x, M') ∧ v = x.toInt64 ∧ TrR T' M' n ∧ TM M M'
theorem io_1_1 : fM_isOf (nI 1) 1 = some true := by decide
theorem io_1_2 : fM_isOf (nI 1) 2 = some false := by decide
theorem io_1_3 : fM_isOf (nI 1) 3 = some false := by decide
theorem io_2_1 : fM_isOf (nI 2) 1 = some false := by decide
theorem io_2_2 : fM_isOf (nI 2) 2 = some true := by decide
theorem io_2_3 : fM_isOf (nI 2) 3 = some false := by decide
theorem io_3_1 : fM_isOf (nI 3) 1 = some true := by decide
theorem io_3_2 : fM_isOf (nI 3) 2 = some false := by decide
theorem io_3_3 : fM_isOf (nI 3) 3 = some true := by decide
theorem io_4_1 : fM_isOf (nI 4) 1 = some true := by decide
theorem io_4_2 : fM_isOf (nI 4) 2 = some false := by decide
theorem io_4_3 : fM_isOf (nI 4) 3 = some true := by decide
theorem io_5_1 : fM_isOf (nI 5) 1 = some false := by decide
theorem io_5_2 : fM_isOf (nI 5) 2 = some true := by decide
theorem io_5_3 : fM_isOf (nI 5) 3 = some false := by decide
theorem ik_1_4 : (nI 1 = (4 : Int32)) = False := eq_false (by decide)
theorem ik_1_5 : (nI 1 = (5 : Int32)) = False := eq_false (by decide)
theorem ik_2_4 : (nI 2 = (4 : Int32)) = False := eq_false (by decide)
theorem ik_2_5 : (nI 2 = (5 : Int32)) = False := eq_false (by decide)
theorem ik_3_4 : (nI 3 = (4 : Int32)) = False := eq_false (by decide)
theorem ik_3_5 : (nI 3 = (5 : Int32)) = False := eq_false (by decide)
theorem ik_4_4 : (nI 4 = (4 : Int32)) = True := eq_true (by decide)
theorem ik_4_5 : (nI 4 = (5 : Int32)) = False := eq_false (by decide)
theorem ik_5_4 : (nI 5 = (4 : Int32)) = False := eq_false (by decide)
theorem ik_5_5 : (nI 5 = (5 : Int32)) = True := eq_true (by decide)
theorem ask_1_size {C T M : zSt} {j w p n : Nat} (hj : j < 10) (hw : w ≤ 5000) (hp : p < 3) (hn : n ≤ 50) (c11 : zA C 11 j = nI w) (m34 : zA M 34 j = nI w) (c8 : zA C 8 j = nI p) (m29 : zA M 29 j = nI p) (c12 : zA C 12 j = nI (cnt (zA M 41) (nI j) n)) (m40 : zI M 40 = nI n) (h : TrR T M 0) : AskV (tv_size 5 C T (nI j)) (fM_sizeOf M (nI j) (nI 1)) M := by
  have hc := cnt_le (zA M 41) (nI j) n
  obtain ⟨T1, M1, l1, b1, r1, t1⟩ := leave_sim 11 h (by omega)
  have q1 := t1
  obtain ⟨T2, M2, l2, b2, r2, t2⟩ := leave_sim 10 r1 (by omega)
  have q2 := q1.trans t2
  obtain ⟨T3, M3, l3, b3, r3, t3⟩ := leave_sim 21 r2 (by omega)
  have q3 := q2.trans t3
  obtain ⟨T4, M4, l4, b4, r4, t4⟩ := leave_sim 20 r3 (by omega)
  have q4 := q3.trans t4
  have x1 : zA M1 34 j = nI w := by rw [q1.2 34 (by omega)]; exact m34
  have y1 : zA M1 29 j = nI p := by rw [q1.2 29 (by omega)]; exact m29
  have x2 : zA M2 34 j = nI w := by rw [q2.2 34 (by omega)]; exact m34
  have y2 : zA M2 29 j = nI p := by rw [q2.2 29 (by omega)]; exact m29
  have x3 : zA M3 34 j = nI w := by rw [q3.2 34 (by omega)]; exact m34
  have y3 : zA M3 29 j = nI p := by rw [q3.2 29 (by omega)]; exact m29
  have x4 : zA M4 34 j = nI w := by rw [q4.2 34 (by omega)]; exact m34
  have y4 : zA M4 29 j = nI p := by rw [q4.2 29 (by omega)]; exact m29
  have pin : fM_putsInto M4 (nI j) = some (nI (cnt (zA M 41) (nI j) n)) := by
    rw [pin_eq j hn (show zI M4 40 = nI n by rw [q4.1 40 (by omega)]; exact m40), q4.2 41 (by omega)]
  refine ⟨(nI w).toInt64 + ((nI j).toInt64 + (10 * nI p).toInt64), nI w + (nI j + 10 * nI p + 0) - 0, T4, M4, 4, ?_, ?_, ?_, r4, q4⟩
  · simp (disch := omega) only [tv_size, tX9_mark_X5, tX9_mark_X3, tX9_mark_X0, tX9_mark_X1, tX9_mark_X4, tX9_size_X5, tX9_size_X3, tX9_size_X0, tX9_size_X1, tX9_size_X4, tX5_mark_X5, tX5_mark_X3, tX5_mark_X0, tX0_mark_X0, tX5_size_X5, tX5_size_X3, tX5_size_X0, tX3_size_X3, tX3_size_X0, tX0_size_X0, tX1_size_X1, tX1_size_X4, tX4_mark_X4, l1, l2, l3, l4, bind_s, zg_ix, clampN, c11, c8, c12, Nat.reduceEqDiff, if_true, if_false, ↓reduceIte, Nat.succ_ne_self, Nat.zero_ne_one, Nat.one_ne_zero]
  · simp (disch := omega) only [fM_sizeOf, fM_sizeOf_b25, fM_sizeOf_b39, fM_sizeOf_b83, fM_markOf, fM_markOf_b10, fM_markOf_b26, fM_markOf_b42, fM_markOf_b66, fM_markOf_b78, fM_commonSize, io_1_1, io_1_2, io_1_3, ik_1_4, ik_1_5, zb, e10f, e00t, b1, b2, b3, b4, bind_s, zn_eq, zg_ix, clampN, x1, y1, x2, y2, x3, y3, x4, y4, pin, if_true, if_false, ↓reduceIte, Bool.false_eq_true]
  · simp only [show (10 : Int32) = nI 10 from rfl, show (0 : Int32) = nI 0 from rfl, show (100 : Int32) = nI 100 from rfl, show (3 : Int32) = nI 3 from rfl, show (2 : Int32) = nI 2 from rfl, pk_mul, nI_add, Int32.mul_sub]
    rw [subN (by omega), nI64 (by omega), nI64 (by omega), nI64 (by omega), nI64 (by omega), ← Int64.ofInt_add, ← Int64.ofInt_add]
    congr 1 <;> omega
theorem ask_1_mark {C T M : zSt} {j w p n : Nat} (hj : j < 10) (hw : w ≤ 5000) (hp : p < 3) (hn : n ≤ 50) (c11 : zA C 11 j = nI w) (m34 : zA M 34 j = nI w) (c8 : zA C 8 j = nI p) (m29 : zA M 29 j = nI p) (c12 : zA C 12 j = nI (cnt (zA M 41) (nI j) n)) (m40 : zI M 40 = nI n) (h : TrR T M 0) : AskV (tv_mark 5 C T (nI j)) (fM_markOf M (nI j) (nI 1)) M := by
  have hc := cnt_le (zA M 41) (nI j) n
  obtain ⟨T1, M1, l1, b1, r1, t1⟩ := leave_sim 21 h (by omega)
  have q1 := t1
  obtain ⟨T2, M2, l2, b2, r2, t2⟩ := leave_sim 20 r1 (by omega)
  have q2 := q1.trans t2
  have x1 : zA M1 34 j = nI w := by rw [q1.2 34 (by omega)]; exact m34
  have y1 : zA M1 29 j = nI p := by rw [q1.2 29 (by omega)]; exact m29
  have x2 : zA M2 34 j = nI w := by rw [q2.2 34 (by omega)]; exact m34
  have y2 : zA M2 29 j = nI p := by rw [q2.2 29 (by omega)]; exact m29
  have pin : fM_putsInto M2 (nI j) = some (nI (cnt (zA M 41) (nI j) n)) := by
    rw [pin_eq j hn (show zI M2 40 = nI n by rw [q2.1 40 (by omega)]; exact m40), q2.2 41 (by omega)]
  refine ⟨(nI j).toInt64 + (10 * nI p).toInt64, nI j + 10 * nI p + 0, T2, M2, 2, ?_, ?_, ?_, r2, q2⟩
  · simp (disch := omega) only [tv_mark, tX9_mark_X5, tX9_mark_X3, tX9_mark_X0, tX9_mark_X1, tX9_mark_X4, tX9_size_X5, tX9_size_X3, tX9_size_X0, tX9_size_X1, tX9_size_X4, tX5_mark_X5, tX5_mark_X3, tX5_mark_X0, tX0_mark_X0, tX5_size_X5, tX5_size_X3, tX5_size_X0, tX3_size_X3, tX3_size_X0, tX0_size_X0, tX1_size_X1, tX1_size_X4, tX4_mark_X4, l1, l2, bind_s, zg_ix, clampN, c11, c8, c12, Nat.reduceEqDiff, if_true, if_false, ↓reduceIte, Nat.succ_ne_self, Nat.zero_ne_one, Nat.one_ne_zero]
  · simp (disch := omega) only [fM_sizeOf, fM_sizeOf_b25, fM_sizeOf_b39, fM_sizeOf_b83, fM_markOf, fM_markOf_b10, fM_markOf_b26, fM_markOf_b42, fM_markOf_b66, fM_markOf_b78, fM_commonSize, io_1_1, io_1_2, io_1_3, ik_1_4, ik_1_5, zb, e10f, e00t, b1, b2, bind_s, zn_eq, zg_ix, clampN, x1, y1, x2, y2, pin, if_true, if_false, ↓reduceIte, Bool.false_eq_true]
  · simp only [show (10 : Int32) = nI 10 from rfl, show (0 : Int32) = nI 0 from rfl, show (100 : Int32) = nI 100 from rfl, show (3 : Int32) = nI 3 from rfl, show (2 : Int32) = nI 2 from rfl, pk_mul, nI_add, Int32.mul_sub]
    rw [nI64 (by omega), nI64 (by omega), nI64 (by omega), ← Int64.ofInt_add]
    congr 1 <;> omega
theorem ask_2_size {C T M : zSt} {j w p n : Nat} (hj : j < 10) (hw : w ≤ 5000) (hp : p < 3) (hn : n ≤ 50) (c11 : zA C 11 j = nI w) (m34 : zA M 34 j = nI w) (c8 : zA C 8 j = nI p) (m29 : zA M 29 j = nI p) (c12 : zA C 12 j = nI (cnt (zA M 41) (nI j) n)) (m40 : zI M 40 = nI n) (h : TrR T M 0) : AskV (tv_size 1 C T (nI j)) (fM_sizeOf M (nI j) (nI 2)) M := by
  have hc := cnt_le (zA M 41) (nI j) n
  obtain ⟨T1, M1, l1, b1, r1, t1⟩ := leave_sim 14 h (by omega)
  have q1 := t1
  obtain ⟨T2, M2, l2, b2, r2, t2⟩ := leave_sim 10 r1 (by omega)
  have q2 := q1.trans t2
  have x1 : zA M1 34 j = nI w := by rw [q1.2 34 (by omega)]; exact m34
  have y1 : zA M1 29 j = nI p := by rw [q1.2 29 (by omega)]; exact m29
  have x2 : zA M2 34 j = nI w := by rw [q2.2 34 (by omega)]; exact m34
  have y2 : zA M2 29 j = nI p := by rw [q2.2 29 (by omega)]; exact m29
  have pin : fM_putsInto M2 (nI j) = some (nI (cnt (zA M 41) (nI j) n)) := by
    rw [pin_eq j hn (show zI M2 40 = nI n by rw [q2.1 40 (by omega)]; exact m40), q2.2 41 (by omega)]
  refine ⟨(nI w).toInt64 * 3, 3 * nI w, T2, M2, 2, ?_, ?_, ?_, r2, q2⟩
  · simp (disch := omega) only [tv_size, tX9_mark_X5, tX9_mark_X3, tX9_mark_X0, tX9_mark_X1, tX9_mark_X4, tX9_size_X5, tX9_size_X3, tX9_size_X0, tX9_size_X1, tX9_size_X4, tX5_mark_X5, tX5_mark_X3, tX5_mark_X0, tX0_mark_X0, tX5_size_X5, tX5_size_X3, tX5_size_X0, tX3_size_X3, tX3_size_X0, tX0_size_X0, tX1_size_X1, tX1_size_X4, tX4_mark_X4, l1, l2, bind_s, zg_ix, clampN, c11, c8, c12, Nat.reduceEqDiff, if_true, if_false, ↓reduceIte, Nat.succ_ne_self, Nat.zero_ne_one, Nat.one_ne_zero]
  · simp (disch := omega) only [fM_sizeOf, fM_sizeOf_b25, fM_sizeOf_b39, fM_sizeOf_b83, fM_markOf, fM_markOf_b10, fM_markOf_b26, fM_markOf_b42, fM_markOf_b66, fM_markOf_b78, fM_commonSize, io_2_1, io_2_2, io_2_3, ik_2_4, ik_2_5, zb, e10f, e00t, b1, b2, bind_s, zn_eq, zg_ix, clampN, x1, y1, x2, y2, pin, if_true, if_false, ↓reduceIte, Bool.false_eq_true]
  · simp only [show (10 : Int32) = nI 10 from rfl, show (0 : Int32) = nI 0 from rfl, show (100 : Int32) = nI 100 from rfl, show (3 : Int32) = nI 3 from rfl, show (2 : Int32) = nI 2 from rfl, pk_mul, nI_add, Int32.mul_sub]
    rw [nI64 (by omega), nI64 (by omega), show (3 : Int64) = Int64.ofInt 3 from rfl, ← Int64.ofInt_mul]
    congr 1 <;> omega
theorem ask_2_mark {C T M : zSt} {j w p n : Nat} (hj : j < 10) (hw : w ≤ 5000) (hp : p < 3) (hn : n ≤ 50) (c11 : zA C 11 j = nI w) (m34 : zA M 34 j = nI w) (c8 : zA C 8 j = nI p) (m29 : zA M 29 j = nI p) (c12 : zA C 12 j = nI (cnt (zA M 41) (nI j) n)) (m40 : zI M 40 = nI n) (h : TrR T M 0) : AskV (tv_mark 1 C T (nI j)) (fM_markOf M (nI j) (nI 2)) M := by
  have hc := cnt_le (zA M 41) (nI j) n
  obtain ⟨T1, M1, l1, b1, r1, t1⟩ := leave_sim 20 h (by omega)
  have q1 := t1
  have x1 : zA M1 34 j = nI w := by rw [q1.2 34 (by omega)]; exact m34
  have y1 : zA M1 29 j = nI p := by rw [q1.2 29 (by omega)]; exact m29
  have pin : fM_putsInto M1 (nI j) = some (nI (cnt (zA M 41) (nI j) n)) := by
    rw [pin_eq j hn (show zI M1 40 = nI n by rw [q1.1 40 (by omega)]; exact m40), q1.2 41 (by omega)]
  refine ⟨(nI j).toInt64, nI j + 0 + 0, T1, M1, 1, ?_, ?_, ?_, r1, q1⟩
  · simp (disch := omega) only [tv_mark, tX9_mark_X5, tX9_mark_X3, tX9_mark_X0, tX9_mark_X1, tX9_mark_X4, tX9_size_X5, tX9_size_X3, tX9_size_X0, tX9_size_X1, tX9_size_X4, tX5_mark_X5, tX5_mark_X3, tX5_mark_X0, tX0_mark_X0, tX5_size_X5, tX5_size_X3, tX5_size_X0, tX3_size_X3, tX3_size_X0, tX0_size_X0, tX1_size_X1, tX1_size_X4, tX4_mark_X4, l1, bind_s, zg_ix, clampN, c11, c8, c12, Nat.reduceEqDiff, if_true, if_false, ↓reduceIte, Nat.succ_ne_self, Nat.zero_ne_one, Nat.one_ne_zero]
  · simp (disch := omega) only [fM_sizeOf, fM_sizeOf_b25, fM_sizeOf_b39, fM_sizeOf_b83, fM_markOf, fM_markOf_b10, fM_markOf_b26, fM_markOf_b42, fM_markOf_b66, fM_markOf_b78, fM_commonSize, io_2_1, io_2_2, io_2_3, ik_2_4, ik_2_5, zb, e10f, e00t, b1, bind_s, zn_eq, zg_ix, clampN, x1, y1, pin, if_true, if_false, ↓reduceIte, Bool.false_eq_true]
  · simp only [show (10 : Int32) = nI 10 from rfl, show (0 : Int32) = nI 0 from rfl, show (100 : Int32) = nI 100 from rfl, show (3 : Int32) = nI 3 from rfl, show (2 : Int32) = nI 2 from rfl, pk_mul, nI_add, Int32.mul_sub]
    rw [nI64 (by omega), nI64 (by omega)]
    congr 1 <;> omega
theorem ask_3_size {C T M : zSt} {j w p n : Nat} (hj : j < 10) (hw : w ≤ 5000) (hp : p < 3) (hn : n ≤ 50) (c11 : zA C 11 j = nI w) (m34 : zA M 34 j = nI w) (c8 : zA C 8 j = nI p) (m29 : zA M 29 j = nI p) (c12 : zA C 12 j = nI (cnt (zA M 41) (nI j) n)) (m40 : zI M 40 = nI n) (h : TrR T M 0) : AskV (tv_size 3 C T (nI j)) (fM_sizeOf M (nI j) (nI 3)) M := by
  have hc := cnt_le (zA M 41) (nI j) n
  obtain ⟨T1, M1, l1, b1, r1, t1⟩ := leave_sim 12 h (by omega)
  have q1 := t1
  obtain ⟨T2, M2, l2, b2, r2, t2⟩ := leave_sim 11 r1 (by omega)
  have q2 := q1.trans t2
  obtain ⟨T3, M3, l3, b3, r3, t3⟩ := leave_sim 10 r2 (by omega)
  have q3 := q2.trans t3
  obtain ⟨T4, M4, l4, b4, r4, t4⟩ := leave_sim 21 r3 (by omega)
  have q4 := q3.trans t4
  obtain ⟨T5, M5, l5, b5, r5, t5⟩ := leave_sim 20 r4 (by omega)
  have q5 := q4.trans t5
  have x1 : zA M1 34 j = nI w := by rw [q1.2 34 (by omega)]; exact m34
  have y1 : zA M1 29 j = nI p := by rw [q1.2 29 (by omega)]; exact m29
  have x2 : zA M2 34 j = nI w := by rw [q2.2 34 (by omega)]; exact m34
  have y2 : zA M2 29 j = nI p := by rw [q2.2 29 (by omega)]; exact m29
  have x3 : zA M3 34 j = nI w := by rw [q3.2 34 (by omega)]; exact m34
  have y3 : zA M3 29 j = nI p := by rw [q3.2 29 (by omega)]; exact m29
  have x4 : zA M4 34 j = nI w := by rw [q4.2 34 (by omega)]; exact m34
  have y4 : zA M4 29 j = nI p := by rw [q4.2 29 (by omega)]; exact m29
  have x5 : zA M5 34 j = nI w := by rw [q5.2 34 (by omega)]; exact m34
  have y5 : zA M5 29 j = nI p := by rw [q5.2 29 (by omega)]; exact m29
  have pin : fM_putsInto M5 (nI j) = some (nI (cnt (zA M 41) (nI j) n)) := by
    rw [pin_eq j hn (show zI M5 40 = nI n by rw [q5.1 40 (by omega)]; exact m40), q5.2 41 (by omega)]
  refine ⟨(nI w).toInt64 + ((nI j).toInt64 + (10 * nI p).toInt64) - (nI (cnt (zA M 41) (nI j) n)).toInt64, nI w + (nI j + 10 * nI p + 0) - nI (cnt (zA M 41) (nI j) n), T5, M5, 5, ?_, ?_, ?_, r5, q5⟩
  · simp (disch := omega) only [tv_size, tX9_mark_X5, tX9_mark_X3, tX9_mark_X0, tX9_mark_X1, tX9_mark_X4, tX9_size_X5, tX9_size_X3, tX9_size_X0, tX9_size_X1, tX9_size_X4, tX5_mark_X5, tX5_mark_X3, tX5_mark_X0, tX0_mark_X0, tX5_size_X5, tX5_size_X3, tX5_size_X0, tX3_size_X3, tX3_size_X0, tX0_size_X0, tX1_size_X1, tX1_size_X4, tX4_mark_X4, l1, l2, l3, l4, l5, bind_s, zg_ix, clampN, c11, c8, c12, Nat.reduceEqDiff, if_true, if_false, ↓reduceIte, Nat.succ_ne_self, Nat.zero_ne_one, Nat.one_ne_zero]
  · simp (disch := omega) only [fM_sizeOf, fM_sizeOf_b25, fM_sizeOf_b39, fM_sizeOf_b83, fM_markOf, fM_markOf_b10, fM_markOf_b26, fM_markOf_b42, fM_markOf_b66, fM_markOf_b78, fM_commonSize, io_3_1, io_3_2, io_3_3, ik_3_4, ik_3_5, zb, e10f, e00t, b1, b2, b3, b4, b5, bind_s, zn_eq, zg_ix, clampN, x1, y1, x2, y2, x3, y3, x4, y4, x5, y5, pin, if_true, if_false, ↓reduceIte, Bool.false_eq_true]
  · simp only [show (10 : Int32) = nI 10 from rfl, show (0 : Int32) = nI 0 from rfl, show (100 : Int32) = nI 100 from rfl, show (3 : Int32) = nI 3 from rfl, show (2 : Int32) = nI 2 from rfl, pk_mul, nI_add, Int32.mul_sub]
    rw [sub64 (by omega) (by omega), nI64 (by omega), nI64 (by omega), nI64 (by omega), nI64 (by omega), ← Int64.ofInt_add, ← Int64.ofInt_add, ← Int64.ofInt_sub]
    congr 1 <;> omega
theorem ask_3_mark {C T M : zSt} {j w p n : Nat} (hj : j < 10) (hw : w ≤ 5000) (hp : p < 3) (hn : n ≤ 50) (c11 : zA C 11 j = nI w) (m34 : zA M 34 j = nI w) (c8 : zA C 8 j = nI p) (m29 : zA M 29 j = nI p) (c12 : zA C 12 j = nI (cnt (zA M 41) (nI j) n)) (m40 : zI M 40 = nI n) (h : TrR T M 0) : AskV (tv_mark 3 C T (nI j)) (fM_markOf M (nI j) (nI 3)) M := by
  have hc := cnt_le (zA M 41) (nI j) n
  obtain ⟨T1, M1, l1, b1, r1, t1⟩ := leave_sim 21 h (by omega)
  have q1 := t1
  obtain ⟨T2, M2, l2, b2, r2, t2⟩ := leave_sim 20 r1 (by omega)
  have q2 := q1.trans t2
  have x1 : zA M1 34 j = nI w := by rw [q1.2 34 (by omega)]; exact m34
  have y1 : zA M1 29 j = nI p := by rw [q1.2 29 (by omega)]; exact m29
  have x2 : zA M2 34 j = nI w := by rw [q2.2 34 (by omega)]; exact m34
  have y2 : zA M2 29 j = nI p := by rw [q2.2 29 (by omega)]; exact m29
  have pin : fM_putsInto M2 (nI j) = some (nI (cnt (zA M 41) (nI j) n)) := by
    rw [pin_eq j hn (show zI M2 40 = nI n by rw [q2.1 40 (by omega)]; exact m40), q2.2 41 (by omega)]
  refine ⟨(nI j).toInt64 + (10 * nI p).toInt64, nI j + 10 * nI p + 0, T2, M2, 2, ?_, ?_, ?_, r2, q2⟩
  · simp (disch := omega) only [tv_mark, tX9_mark_X5, tX9_mark_X3, tX9_mark_X0, tX9_mark_X1, tX9_mark_X4, tX9_size_X5, tX9_size_X3, tX9_size_X0, tX9_size_X1, tX9_size_X4, tX5_mark_X5, tX5_mark_X3, tX5_mark_X0, tX0_mark_X0, tX5_size_X5, tX5_size_X3, tX5_size_X0, tX3_size_X3, tX3_size_X0, tX0_size_X0, tX1_size_X1, tX1_size_X4, tX4_mark_X4, l1, l2, bind_s, zg_ix, clampN, c11, c8, c12, Nat.reduceEqDiff, if_true, if_false, ↓reduceIte, Nat.succ_ne_self, Nat.zero_ne_one, Nat.one_ne_zero]
  · simp (disch := omega) only [fM_sizeOf, fM_sizeOf_b25, fM_sizeOf_b39, fM_sizeOf_b83, fM_markOf, fM_markOf_b10, fM_markOf_b26, fM_markOf_b42, fM_markOf_b66, fM_markOf_b78, fM_commonSize, io_3_1, io_3_2, io_3_3, ik_3_4, ik_3_5, zb, e10f, e00t, b1, b2, bind_s, zn_eq, zg_ix, clampN, x1, y1, x2, y2, pin, if_true, if_false, ↓reduceIte, Bool.false_eq_true]
  · simp only [show (10 : Int32) = nI 10 from rfl, show (0 : Int32) = nI 0 from rfl, show (100 : Int32) = nI 100 from rfl, show (3 : Int32) = nI 3 from rfl, show (2 : Int32) = nI 2 from rfl, pk_mul, nI_add, Int32.mul_sub]
    rw [nI64 (by omega), nI64 (by omega), nI64 (by omega), ← Int64.ofInt_add]
    congr 1 <;> omega
theorem ask_4_size {C T M : zSt} {j w p n : Nat} (hj : j < 10) (hw : w ≤ 5000) (hp : p < 3) (hn : n ≤ 50) (c11 : zA C 11 j = nI w) (m34 : zA M 34 j = nI w) (c8 : zA C 8 j = nI p) (m29 : zA M 29 j = nI p) (c12 : zA C 12 j = nI (cnt (zA M 41) (nI j) n)) (m40 : zI M 40 = nI n) (h : TrR T M 0) : AskV (tv_size 0 C T (nI j)) (fM_sizeOf M (nI j) (nI 4)) M := by
  have hc := cnt_le (zA M 41) (nI j) n
  obtain ⟨T1, M1, l1, b1, r1, t1⟩ := leave_sim 13 h (by omega)
  have q1 := t1
  obtain ⟨T2, M2, l2, b2, r2, t2⟩ := leave_sim 12 r1 (by omega)
  have q2 := q1.trans t2
  obtain ⟨T3, M3, l3, b3, r3, t3⟩ := leave_sim 11 r2 (by omega)
  have q3 := q2.trans t3
  obtain ⟨T4, M4, l4, b4, r4, t4⟩ := leave_sim 10 r3 (by omega)
  have q4 := q3.trans t4
  obtain ⟨T5, M5, l5, b5, r5, t5⟩ := leave_sim 23 r4 (by omega)
  have q5 := q4.trans t5
  obtain ⟨T6, M6, l6, b6, r6, t6⟩ := leave_sim 21 r5 (by omega)
  have q6 := q5.trans t6
  obtain ⟨T7, M7, l7, b7, r7, t7⟩ := leave_sim 20 r6 (by omega)
  have q7 := q6.trans t7
  have x1 : zA M1 34 j = nI w := by rw [q1.2 34 (by omega)]; exact m34
  have y1 : zA M1 29 j = nI p := by rw [q1.2 29 (by omega)]; exact m29
  have x2 : zA M2 34 j = nI w := by rw [q2.2 34 (by omega)]; exact m34
  have y2 : zA M2 29 j = nI p := by rw [q2.2 29 (by omega)]; exact m29
  have x3 : zA M3 34 j = nI w := by rw [q3.2 34 (by omega)]; exact m34
  have y3 : zA M3 29 j = nI p := by rw [q3.2 29 (by omega)]; exact m29
  have x4 : zA M4 34 j = nI w := by rw [q4.2 34 (by omega)]; exact m34
  have y4 : zA M4 29 j = nI p := by rw [q4.2 29 (by omega)]; exact m29
  have x5 : zA M5 34 j = nI w := by rw [q5.2 34 (by omega)]; exact m34
  have y5 : zA M5 29 j = nI p := by rw [q5.2 29 (by omega)]; exact m29
  have x6 : zA M6 34 j = nI w := by rw [q6.2 34 (by omega)]; exact m34
  have y6 : zA M6 29 j = nI p := by rw [q6.2 29 (by omega)]; exact m29
  have x7 : zA M7 34 j = nI w := by rw [q7.2 34 (by omega)]; exact m34
  have y7 : zA M7 29 j = nI p := by rw [q7.2 29 (by omega)]; exact m29
  have pin : fM_putsInto M7 (nI j) = some (nI (cnt (zA M 41) (nI j) n)) := by
    rw [pin_eq j hn (show zI M7 40 = nI n by rw [q7.1 40 (by omega)]; exact m40), q7.2 41 (by omega)]
  refine ⟨((nI w).toInt64 + ((nI j).toInt64 + (10 * nI p).toInt64 + 100) - (nI (cnt (zA M 41) (nI j) n)).toInt64) * 2, 2 * (nI w + (nI j + 10 * nI p + 100) - nI (cnt (zA M 41) (nI j) n)), T7, M7, 7, ?_, ?_, ?_, r7, q7⟩
  · simp (disch := omega) only [tv_size, tX9_mark_X5, tX9_mark_X3, tX9_mark_X0, tX9_mark_X1, tX9_mark_X4, tX9_size_X5, tX9_size_X3, tX9_size_X0, tX9_size_X1, tX9_size_X4, tX5_mark_X5, tX5_mark_X3, tX5_mark_X0, tX0_mark_X0, tX5_size_X5, tX5_size_X3, tX5_size_X0, tX3_size_X3, tX3_size_X0, tX0_size_X0, tX1_size_X1, tX1_size_X4, tX4_mark_X4, l1, l2, l3, l4, l5, l6, l7, bind_s, zg_ix, clampN, c11, c8, c12, Nat.reduceEqDiff, if_true, if_false, ↓reduceIte, Nat.succ_ne_self, Nat.zero_ne_one, Nat.one_ne_zero]
  · simp (disch := omega) only [fM_sizeOf, fM_sizeOf_b25, fM_sizeOf_b39, fM_sizeOf_b83, fM_markOf, fM_markOf_b10, fM_markOf_b26, fM_markOf_b42, fM_markOf_b66, fM_markOf_b78, fM_commonSize, io_4_1, io_4_2, io_4_3, ik_4_4, ik_4_5, zb, e10f, e00t, b1, b2, b3, b4, b5, b6, b7, bind_s, zn_eq, zg_ix, clampN, x1, y1, x2, y2, x3, y3, x4, y4, x5, y5, x6, y6, x7, y7, pin, if_true, if_false, ↓reduceIte, Bool.false_eq_true]
  · simp only [show (10 : Int32) = nI 10 from rfl, show (0 : Int32) = nI 0 from rfl, show (100 : Int32) = nI 100 from rfl, show (3 : Int32) = nI 3 from rfl, show (2 : Int32) = nI 2 from rfl, pk_mul, nI_add, Int32.mul_sub]
    rw [sub64 (by omega) (by omega), nI64 (by omega), nI64 (by omega), nI64 (by omega), nI64 (by omega), show (100 : Int64) = Int64.ofInt 100 from rfl, show (2 : Int64) = Int64.ofInt 2 from rfl, ← Int64.ofInt_add, ← Int64.ofInt_add, ← Int64.ofInt_add, ← Int64.ofInt_sub, ← Int64.ofInt_mul]
    congr 1 <;> omega
theorem ask_4_mark {C T M : zSt} {j w p n : Nat} (hj : j < 10) (hw : w ≤ 5000) (hp : p < 3) (hn : n ≤ 50) (c11 : zA C 11 j = nI w) (m34 : zA M 34 j = nI w) (c8 : zA C 8 j = nI p) (m29 : zA M 29 j = nI p) (c12 : zA C 12 j = nI (cnt (zA M 41) (nI j) n)) (m40 : zI M 40 = nI n) (h : TrR T M 0) : AskV (tv_mark 0 C T (nI j)) (fM_markOf M (nI j) (nI 4)) M := by
  have hc := cnt_le (zA M 41) (nI j) n
  obtain ⟨T1, M1, l1, b1, r1, t1⟩ := leave_sim 23 h (by omega)
  have q1 := t1
  obtain ⟨T2, M2, l2, b2, r2, t2⟩ := leave_sim 21 r1 (by omega)
  have q2 := q1.trans t2
  obtain ⟨T3, M3, l3, b3, r3, t3⟩ := leave_sim 20 r2 (by omega)
  have q3 := q2.trans t3
  have x1 : zA M1 34 j = nI w := by rw [q1.2 34 (by omega)]; exact m34
  have y1 : zA M1 29 j = nI p := by rw [q1.2 29 (by omega)]; exact m29
  have x2 : zA M2 34 j = nI w := by rw [q2.2 34 (by omega)]; exact m34
  have y2 : zA M2 29 j = nI p := by rw [q2.2 29 (by omega)]; exact m29
  have x3 : zA M3 34 j = nI w := by rw [q3.2 34 (by omega)]; exact m34
  have y3 : zA M3 29 j = nI p := by rw [q3.2 29 (by omega)]; exact m29
  have pin : fM_putsInto M3 (nI j) = some (nI (cnt (zA M 41) (nI j) n)) := by
    rw [pin_eq j hn (show zI M3 40 = nI n by rw [q3.1 40 (by omega)]; exact m40), q3.2 41 (by omega)]
  refine ⟨(nI j).toInt64 + (10 * nI p).toInt64 + 100, nI j + 10 * nI p + 100, T3, M3, 3, ?_, ?_, ?_, r3, q3⟩
  · simp (disch := omega) only [tv_mark, tX9_mark_X5, tX9_mark_X3, tX9_mark_X0, tX9_mark_X1, tX9_mark_X4, tX9_size_X5, tX9_size_X3, tX9_size_X0, tX9_size_X1, tX9_size_X4, tX5_mark_X5, tX5_mark_X3, tX5_mark_X0, tX0_mark_X0, tX5_size_X5, tX5_size_X3, tX5_size_X0, tX3_size_X3, tX3_size_X0, tX0_size_X0, tX1_size_X1, tX1_size_X4, tX4_mark_X4, l1, l2, l3, bind_s, zg_ix, clampN, c11, c8, c12, Nat.reduceEqDiff, if_true, if_false, ↓reduceIte, Nat.succ_ne_self, Nat.zero_ne_one, Nat.one_ne_zero]
  · simp (disch := omega) only [fM_sizeOf, fM_sizeOf_b25, fM_sizeOf_b39, fM_sizeOf_b83, fM_markOf, fM_markOf_b10, fM_markOf_b26, fM_markOf_b42, fM_markOf_b66, fM_markOf_b78, fM_commonSize, io_4_1, io_4_2, io_4_3, ik_4_4, ik_4_5, zb, e10f, e00t, b1, b2, b3, bind_s, zn_eq, zg_ix, clampN, x1, y1, x2, y2, x3, y3, pin, if_true, if_false, ↓reduceIte, Bool.false_eq_true]
  · simp only [show (10 : Int32) = nI 10 from rfl, show (0 : Int32) = nI 0 from rfl, show (100 : Int32) = nI 100 from rfl, show (3 : Int32) = nI 3 from rfl, show (2 : Int32) = nI 2 from rfl, pk_mul, nI_add, Int32.mul_sub]
    rw [nI64 (by omega), nI64 (by omega), nI64 (by omega), show (100 : Int64) = Int64.ofInt 100 from rfl, ← Int64.ofInt_add, ← Int64.ofInt_add]
    congr 1 <;> omega
theorem ask_5_size {C T M : zSt} {j w p n : Nat} (hj : j < 10) (hw : w ≤ 5000) (hp : p < 3) (hn : n ≤ 50) (c11 : zA C 11 j = nI w) (m34 : zA M 34 j = nI w) (c8 : zA C 8 j = nI p) (m29 : zA M 29 j = nI p) (c12 : zA C 12 j = nI (cnt (zA M 41) (nI j) n)) (m40 : zI M 40 = nI n) (h : TrR T M 0) : AskV (tv_size 4 C T (nI j)) (fM_sizeOf M (nI j) (nI 5)) M := by
  have hc := cnt_le (zA M 41) (nI j) n
  obtain ⟨T1, M1, l1, b1, r1, t1⟩ := leave_sim 14 h (by omega)
  have q1 := t1
  obtain ⟨T2, M2, l2, b2, r2, t2⟩ := leave_sim 10 r1 (by omega)
  have q2 := q1.trans t2
  have x1 : zA M1 34 j = nI w := by rw [q1.2 34 (by omega)]; exact m34
  have y1 : zA M1 29 j = nI p := by rw [q1.2 29 (by omega)]; exact m29
  have x2 : zA M2 34 j = nI w := by rw [q2.2 34 (by omega)]; exact m34
  have y2 : zA M2 29 j = nI p := by rw [q2.2 29 (by omega)]; exact m29
  have pin : fM_putsInto M2 (nI j) = some (nI (cnt (zA M 41) (nI j) n)) := by
    rw [pin_eq j hn (show zI M2 40 = nI n by rw [q2.1 40 (by omega)]; exact m40), q2.2 41 (by omega)]
  refine ⟨(nI w).toInt64 * 3, 3 * nI w, T2, M2, 2, ?_, ?_, ?_, r2, q2⟩
  · simp (disch := omega) only [tv_size, tX9_mark_X5, tX9_mark_X3, tX9_mark_X0, tX9_mark_X1, tX9_mark_X4, tX9_size_X5, tX9_size_X3, tX9_size_X0, tX9_size_X1, tX9_size_X4, tX5_mark_X5, tX5_mark_X3, tX5_mark_X0, tX0_mark_X0, tX5_size_X5, tX5_size_X3, tX5_size_X0, tX3_size_X3, tX3_size_X0, tX0_size_X0, tX1_size_X1, tX1_size_X4, tX4_mark_X4, l1, l2, bind_s, zg_ix, clampN, c11, c8, c12, Nat.reduceEqDiff, if_true, if_false, ↓reduceIte, Nat.succ_ne_self, Nat.zero_ne_one, Nat.one_ne_zero]
  · simp (disch := omega) only [fM_sizeOf, fM_sizeOf_b25, fM_sizeOf_b39, fM_sizeOf_b83, fM_markOf, fM_markOf_b10, fM_markOf_b26, fM_markOf_b42, fM_markOf_b66, fM_markOf_b78, fM_commonSize, io_5_1, io_5_2, io_5_3, ik_5_4, ik_5_5, zb, e10f, e00t, b1, b2, bind_s, zn_eq, zg_ix, clampN, x1, y1, x2, y2, pin, if_true, if_false, ↓reduceIte, Bool.false_eq_true]
  · simp only [show (10 : Int32) = nI 10 from rfl, show (0 : Int32) = nI 0 from rfl, show (100 : Int32) = nI 100 from rfl, show (3 : Int32) = nI 3 from rfl, show (2 : Int32) = nI 2 from rfl, pk_mul, nI_add, Int32.mul_sub]
    rw [nI64 (by omega), nI64 (by omega), show (3 : Int64) = Int64.ofInt 3 from rfl, ← Int64.ofInt_mul]
    congr 1 <;> omega
theorem ask_5_mark {C T M : zSt} {j w p n : Nat} (hj : j < 10) (hw : w ≤ 5000) (hp : p < 3) (hn : n ≤ 50) (c11 : zA C 11 j = nI w) (m34 : zA M 34 j = nI w) (c8 : zA C 8 j = nI p) (m29 : zA M 29 j = nI p) (c12 : zA C 12 j = nI (cnt (zA M 41) (nI j) n)) (m40 : zI M 40 = nI n) (h : TrR T M 0) : AskV (tv_mark 4 C T (nI j)) (fM_markOf M (nI j) (nI 5)) M := by
  have hc := cnt_le (zA M 41) (nI j) n
  obtain ⟨T1, M1, l1, b1, r1, t1⟩ := leave_sim 22 h (by omega)
  have q1 := t1
  obtain ⟨T2, M2, l2, b2, r2, t2⟩ := leave_sim 20 r1 (by omega)
  have q2 := q1.trans t2
  obtain ⟨T3, M3, l3, b3, r3, t3⟩ := leave_sim 14 r2 (by omega)
  have q3 := q2.trans t3
  obtain ⟨T4, M4, l4, b4, r4, t4⟩ := leave_sim 10 r3 (by omega)
  have q4 := q3.trans t4
  have x1 : zA M1 34 j = nI w := by rw [q1.2 34 (by omega)]; exact m34
  have y1 : zA M1 29 j = nI p := by rw [q1.2 29 (by omega)]; exact m29
  have x2 : zA M2 34 j = nI w := by rw [q2.2 34 (by omega)]; exact m34
  have y2 : zA M2 29 j = nI p := by rw [q2.2 29 (by omega)]; exact m29
  have x3 : zA M3 34 j = nI w := by rw [q3.2 34 (by omega)]; exact m34
  have y3 : zA M3 29 j = nI p := by rw [q3.2 29 (by omega)]; exact m29
  have x4 : zA M4 34 j = nI w := by rw [q4.2 34 (by omega)]; exact m34
  have y4 : zA M4 29 j = nI p := by rw [q4.2 29 (by omega)]; exact m29
  have pin : fM_putsInto M4 (nI j) = some (nI (cnt (zA M 41) (nI j) n)) := by
    rw [pin_eq j hn (show zI M4 40 = nI n by rw [q4.1 40 (by omega)]; exact m40), q4.2 41 (by omega)]
  refine ⟨(nI j).toInt64 + (nI w).toInt64 * 3, nI j + 0 + 0 + 3 * nI w, T4, M4, 4, ?_, ?_, ?_, r4, q4⟩
  · simp (disch := omega) only [tv_mark, tX9_mark_X5, tX9_mark_X3, tX9_mark_X0, tX9_mark_X1, tX9_mark_X4, tX9_size_X5, tX9_size_X3, tX9_size_X0, tX9_size_X1, tX9_size_X4, tX5_mark_X5, tX5_mark_X3, tX5_mark_X0, tX0_mark_X0, tX5_size_X5, tX5_size_X3, tX5_size_X0, tX3_size_X3, tX3_size_X0, tX0_size_X0, tX1_size_X1, tX1_size_X4, tX4_mark_X4, l1, l2, l3, l4, bind_s, zg_ix, clampN, c11, c8, c12, Nat.reduceEqDiff, if_true, if_false, ↓reduceIte, Nat.succ_ne_self, Nat.zero_ne_one, Nat.one_ne_zero]
  · simp (disch := omega) only [fM_sizeOf, fM_sizeOf_b25, fM_sizeOf_b39, fM_sizeOf_b83, fM_markOf, fM_markOf_b10, fM_markOf_b26, fM_markOf_b42, fM_markOf_b66, fM_markOf_b78, fM_commonSize, io_5_1, io_5_2, io_5_3, ik_5_4, ik_5_5, zb, e10f, e00t, b1, b2, b3, b4, bind_s, zn_eq, zg_ix, clampN, x1, y1, x2, y2, x3, y3, x4, y4, pin, if_true, if_false, ↓reduceIte, Bool.false_eq_true]
  · simp only [show (10 : Int32) = nI 10 from rfl, show (0 : Int32) = nI 0 from rfl, show (100 : Int32) = nI 100 from rfl, show (3 : Int32) = nI 3 from rfl, show (2 : Int32) = nI 2 from rfl, pk_mul, nI_add, Int32.mul_sub]
    rw [nI64 (by omega), nI64 (by omega), nI64 (by omega), show (3 : Int64) = Int64.ofInt 3 from rfl, ← Int64.ofInt_mul, ← Int64.ofInt_add]
    congr 1 <;> omega
