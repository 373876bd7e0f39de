/-! READER: one step on both sides -/
theorem dv_eq {M M' : zSt} (h : zA M' 16 = zA M 16) (s : Nat) : ∀ m, dv M' s m = dv M s m := by
  intro m
  induction m with
  | zero => rfl
  | succ m ih =>
    show 10 * dv M' s m + (bt M' (s + m) - 48) = 10 * dv M s m + (bt M (s + m) - 48)
    unfold bt
    rw [ih, h]
theorem num34_s (n : Nat) (R : zSt) (x : Int32) : fR_takeNumber_l34 (n + 1) R x = fR_takeNumber_l34b (fun v0 v1 => fR_takeNumber_l34 n v0 v1) R x := rfl
theorem dv_lt {R M : zSt} {s h : Nat} (hC : ∀ k, s ≤ k → k < h → Ch R M 48 57 k) : ∀ m, s + m ≤ h → dv M s m < 10 ^ m := by
  intro m
  induction m with
  | zero => intro _; show 0 < 10 ^ 0; decide
  | succ m ih =>
    intro hm
    obtain ⟨c, c1, c2, c3, c4⟩ := hC (s + m) (by omega) (by omega)
    have := ih (by omega)
    have e : bt M (s + m) = c := by unfold bt; rw [c4, clampN (by omega)]
    show 10 * dv M s m + (bt M (s + m) - 48) < 10 ^ (m + 1)
    rw [e, Nat.pow_succ]
    omega
theorem num_loop {R M : zSt} {s h : Nat} (hs : h ≤ s + 3) (hh : h ≤ 500) (hC : ∀ k, s ≤ k → k < h → Ch R M 48 57 k) : ∀ (d j f : Nat) (R' : zSt), j + d = h → s ≤ j → d < f → (∀ k, zA R' k = zA R k) → zI R' 6 = nI h → zI R' 7 = nI (dv M s (j - s)) → fR_takeNumber_l34 f R' (nI j) = some (zsI R' 7 (nI (dv M s (h - s)))) := by
  intro d
  induction d with
  | zero =>
    intro j f R' hd hsj hf hA h6 h7
    obtain ⟨m, rfl⟩ : ∃ m, f = m + 1 := ⟨f - 1, by omega⟩
    have hj : j = h := by omega
    subst hj
    rw [num34_s]
    unfold fR_takeNumber_l34b
    rw [h6, if_pos (Int32.le_refl _), zsI_self h7]
  | succ d ih =>
    intro j f R' hd hsj hf hA h6 h7
    obtain ⟨m, rfl⟩ : ∃ m, f = m + 1 := ⟨f - 1, by omega⟩
    obtain ⟨c, c1, c2, c3, c4⟩ := hC j hsj (by omega)
    have hj : ¬ h ≤ j := by omega
    have e1 : zA R' 0 j = nI c := by rw [hA]; exact c3
    have e2 : bt M j = c := by unfold bt; rw [c4, clampN (by omega)]
    have e3 : dv M s (j + 1 - s) = dv M s (j - s) * 10 + (c - 48) := by
      rw [show j + 1 - s = (j - s) + 1 from by omega]
      show 10 * dv M s (j - s) + (bt M (s + (j - s)) - 48) = _
      rw [show s + (j - s) = j from by omega, e2, Nat.mul_comm]
    have k := ih (j + 1) m (zsI R' 7 (nI (dv M s (j - s) * 10 + (c - 48)))) (by omega) (by omega) (by omega) hA h6 (by rw [e3]; rfl)
    rw [zsI_twice] at k
    rw [num34_s, ← k]
    simp (disch := omega) only [fR_takeNumber_l34b, li0, li1, li2, li3, li4, li5, li6, li7, li8, li9, li10, li12, li13, li14, li16, li20, li21, li22, li23, li26, li30, li32, li40, li48, li50, li57, li59, li97, li99, li100, li122, li128, li180, li320, li500, li999, nI_add, pk_mul, subN, clampN, zg_ix, nlt, nle, neq, zn_eq, bind_s, ↓reduceIte, Nat.reduceAdd, Nat.reduceMul, Nat.reduceSub, Nat.reduceLeDiff, Nat.reduceEqDiff, Nat.add_zero, Nat.zero_add, Nat.reduceLT, Nat.mul_zero, h6, hj, e1, h7]
theorem TpR.keep {R R' M M' : zSt} {n : Nat} (h : TpR R M n) (hR : RK R R') (hM : MK M M') : TpR R' M' n := by
  unfold TpR at h ⊢
  rw [hR.2 1 (by omega) (by omega) (by omega) (by omega), hR.1, hM.1]
  exact h
theorem tok_sim {R M : zSt} {n s : Nat} (hT : TpR R M n) (h19 : zI M 19 = nI n) (hs : s ≤ n) (r5 : zI R 5 = nI s) (m20 : zI M 20 = nI s) : ∃ R' M' h, fR_step_b68 R = some R' ∧ nx1 M = some M' ∧ TkR R' M' n s h ∧ RK R R' ∧ MK M M' := by
  have hT' := hT
  obtain ⟨r1, hn, hb⟩ := hT'
  have q59 : ¬ (-1000000 : Int32) = nI 59 := by decide
  by_cases z : s = n
  · subst z
    have e1 : ¬ s < s := by omega
    have e2 := byteAt_end (M := zsI M 22 (nI s)) hn h19 (Nat.le_refl s) hn
    refine ⟨zsI (zsI R 4 (nI 0)) 6 (nI s), zsI (zsI (zsI M 22 (nI s)) 21 (nI 1)) 23 (nI s), s, ?_, ?_, ?_, ?_, ?_⟩
    · simp (disch := omega) only [fR_step_b68, li0, li1, li2, li3, li4, li5, li6, li7, li8, li9, li10, li12, li13, li14, li16, li20, li21, li22, li23, li26, li30, li32, li40, li48, li50, li57, li59, li97, li99, li100, li122, li128, li180, li320, li500, li999, nI_add, pk_mul, subN, clampN, zg_ix, nlt, nle, neq, zn_eq, bind_s, ↓reduceIte, Nat.reduceAdd, Nat.reduceMul, Nat.reduceSub, Nat.reduceLeDiff, Nat.reduceEqDiff, Nat.add_zero, Nat.zero_add, Nat.reduceLT, Nat.mul_zero, zI_zsI, zI_zsAf, zI_zsJ, zI_zsLf, zA_zsI, zA_zsAf, zA_zsJ, zA_zsLf, zJ_zsI, zJ_zsAf, zJ_zsJ, zJ_zsLf, zL_zsI, zL_zsAf, zL_zsJ, zL_zsLf, zI_zsA, zA_zsA, zJ_zsA, zL_zsA, zI_zsL, zA_zsL, zJ_zsL, zL_zsL, zn_eq, r1, r5, e1]
    · simp (disch := omega) only [nx1, fM_next_b196, li0, li1, li2, li3, li4, li5, li6, li7, li8, li9, li10, li12, li13, li14, li16, li20, li21, li22, li23, li26, li30, li32, li40, li48, li50, li57, li59, li97, li99, li100, li122, li128, li180, li320, li500, li999, nI_add, pk_mul, subN, clampN, zg_ix, nlt, nle, neq, zn_eq, bind_s, ↓reduceIte, Nat.reduceAdd, Nat.reduceMul, Nat.reduceSub, Nat.reduceLeDiff, Nat.reduceEqDiff, Nat.add_zero, Nat.zero_add, Nat.reduceLT, Nat.mul_zero, zI_zsI, zI_zsAf, zI_zsJ, zI_zsLf, zA_zsI, zA_zsAf, zA_zsJ, zA_zsLf, zJ_zsI, zJ_zsAf, zJ_zsJ, zJ_zsLf, zL_zsI, zL_zsAf, zL_zsJ, zL_zsLf, zI_zsA, zA_zsA, zJ_zsA, zL_zsA, zI_zsL, zA_zsL, zJ_zsL, zL_zsL, zn_eq, m20, e2]
    · refine ⟨⟨r5, rfl⟩, ⟨rfl, rfl, m20⟩, Nat.le_refl _, hs, Or.inl ⟨rfl, rfl⟩⟩
    · refine ⟨fun _ => rfl, fun k a b c d => ?_⟩
      simp only [zI_zsI, zI_zsAf, zI_zsJ, zI_zsLf, zA_zsI, zA_zsAf, zA_zsJ, zA_zsLf, zJ_zsI, zJ_zsAf, zJ_zsJ, zJ_zsLf, zL_zsI, zL_zsAf, zL_zsJ, zL_zsLf, zI_zsA, zA_zsA, zJ_zsA, zL_zsA, zI_zsL, zA_zsL, zJ_zsL, zL_zsL, zn_eq, a, b, c, d, if_false]
    · refine ⟨fun _ => rfl, fun k a b c d => ?_⟩
      simp only [zI_zsI, zI_zsAf, zI_zsJ, zI_zsLf, zA_zsI, zA_zsAf, zA_zsJ, zA_zsLf, zJ_zsI, zJ_zsAf, zJ_zsJ, zJ_zsLf, zL_zsI, zL_zsAf, zL_zsJ, zL_zsLf, zI_zsA, zA_zsA, zJ_zsA, zL_zsA, zI_zsL, zA_zsL, zJ_zsL, zL_zsL, zn_eq, a, b, c, d, if_false]
  have hsn : s < n := by omega
  obtain ⟨c, hc, e2, e1⟩ := hb s hsn
  have hx := byteAt_in (M := zsI M 22 (nI s)) hn h19 hsn
  rw [show zA (zsI M 22 (nI s)) 16 = zA M 16 from rfl, e2] at hx
  have nm := nI_ne_m c (by omega)
  have rest : (¬ (97 ≤ c ∧ c ≤ 122) ∧ ¬ (48 ≤ c ∧ c ≤ 57)) → ∃ R' M' h, fR_step_b68 R = some R' ∧ nx1 M = some M' ∧ TkR R' M' n s h ∧ RK R R' ∧ MK M M' := by
    intro hno
    have l1 : fM_isLetter (nI c) = some false := by
      simp (disch := omega) only [isLet_eq, nle, hno.1, decide_true, decide_false]
    have l2 : fM_isFigure (nI c) = some false := by
      simp (disch := omega) only [isFig_eq, nle, hno.2, decide_true, decide_false]
    have l3 : fR_isIn (zA R 0 s) (nI 97) (nI 122) = some false := by
      unfold fR_isIn
      rcases e1 with ⟨h1, e1⟩ | ⟨h1, e1⟩
      · rw [e1]
        by_cases y : c < 97
        · rw [if_pos (by rw [nlt (by omega) (by omega)]; exact y)]
        · rw [if_neg (by rw [nlt (by omega) (by omega)]; exact y), if_pos (by rw [nlt (by omega) (by omega)]; omega)]
      · rw [if_pos (neg_lt e1 (by omega))]
    have l4 : fR_isIn (zA R 0 s) (nI 48) (nI 57) = some false := by
      unfold fR_isIn
      rcases e1 with ⟨h1, e1⟩ | ⟨h1, e1⟩
      · rw [e1]
        by_cases y : c < 48
        · rw [if_pos (by rw [nlt (by omega) (by omega)]; exact y)]
        · rw [if_neg (by rw [nlt (by omega) (by omega)]; exact y), if_pos (by rw [nlt (by omega) (by omega)]; omega)]
      · rw [if_pos (neg_lt e1 (by omega))]
    have l5 : (zA R 0 s = nI 59) = (c = 59) := by
      rcases e1 with ⟨h1, e1⟩ | ⟨h1, e1⟩
      · rw [e1, neq (by omega) (by omega)]
      · exact propext ⟨fun y => absurd y (neg_ne e1 (by omega)), fun y => by omega⟩
    by_cases y : c = 59
    · refine ⟨zsI (zsI R 4 (nI 3)) 6 (nI (s + 1)), zsI (zsI (zsI (zsI M 22 (nI s)) 20 (nI (s + 1))) 21 (nI 4)) 23 (nI (s + 1)), s + 1, ?_, ?_, ?_, ?_, ?_⟩
      · simp (disch := omega) only [fR_step_b68, fR_step_b200, li0, li1, li2, li3, li4, li5, li6, li7, li8, li9, li10, li12, li13, li14, li16, li20, li21, li22, li23, li26, li30, li32, li40, li48, li50, li57, li59, li97, li99, li100, li122, li128, li180, li320, li500, li999, nI_add, pk_mul, subN, clampN, zg_ix, nlt, nle, neq, zn_eq, bind_s, ↓reduceIte, Nat.reduceAdd, Nat.reduceMul, Nat.reduceSub, Nat.reduceLeDiff, Nat.reduceEqDiff, Nat.add_zero, Nat.zero_add, Nat.reduceLT, Nat.mul_zero, zI_zsI, zI_zsAf, zI_zsJ, zI_zsLf, zA_zsI, zA_zsAf, zA_zsJ, zA_zsLf, zJ_zsI, zJ_zsAf, zJ_zsJ, zJ_zsLf, zL_zsI, zL_zsAf, zL_zsJ, zL_zsLf, zI_zsA, zA_zsA, zJ_zsA, zL_zsA, zI_zsL, zA_zsL, zJ_zsL, zL_zsL, zn_eq, r1, r5, hsn, l3, l4, l5, y, Bool.false_eq_true]
      · rw [y] at hx l1 l2 nm
        simp (disch := omega) only [nx1, fM_next_b196, li0, li1, li2, li3, li4, li5, li6, li7, li8, li9, li10, li12, li13, li14, li16, li20, li21, li22, li23, li26, li30, li32, li40, li48, li50, li57, li59, li97, li99, li100, li122, li128, li180, li320, li500, li999, nI_add, pk_mul, subN, clampN, zg_ix, nlt, nle, neq, zn_eq, bind_s, ↓reduceIte, Nat.reduceAdd, Nat.reduceMul, Nat.reduceSub, Nat.reduceLeDiff, Nat.reduceEqDiff, Nat.add_zero, Nat.zero_add, Nat.reduceLT, Nat.mul_zero, zI_zsI, zI_zsAf, zI_zsJ, zI_zsLf, zA_zsI, zA_zsAf, zA_zsJ, zA_zsLf, zJ_zsI, zJ_zsAf, zJ_zsJ, zJ_zsLf, zL_zsI, zL_zsAf, zL_zsJ, zL_zsLf, zI_zsA, zA_zsA, zJ_zsA, zL_zsA, zI_zsL, zA_zsL, zJ_zsL, zL_zsL, zn_eq, m20, hx, nm, l1, l2, y, Bool.false_eq_true]
      · exact ⟨⟨r5, rfl⟩, ⟨rfl, rfl, rfl⟩, by omega, by omega, Or.inr (Or.inr (Or.inr (Or.inl ⟨rfl, rfl⟩)))⟩
      · refine ⟨fun _ => rfl, fun k a b c d => ?_⟩
        simp only [zI_zsI, zI_zsAf, zI_zsJ, zI_zsLf, zA_zsI, zA_zsAf, zA_zsJ, zA_zsLf, zJ_zsI, zJ_zsAf, zJ_zsJ, zJ_zsLf, zL_zsI, zL_zsAf, zL_zsJ, zL_zsLf, zI_zsA, zA_zsA, zJ_zsA, zL_zsA, zI_zsL, zA_zsL, zJ_zsL, zL_zsL, zn_eq, a, b, c, d, if_false]
      · refine ⟨fun _ => rfl, fun k a b c d => ?_⟩
        simp only [zI_zsI, zI_zsAf, zI_zsJ, zI_zsLf, zA_zsI, zA_zsAf, zA_zsJ, zA_zsLf, zJ_zsI, zJ_zsAf, zJ_zsJ, zJ_zsLf, zL_zsI, zL_zsAf, zL_zsJ, zL_zsLf, zI_zsA, zA_zsA, zJ_zsA, zL_zsA, zI_zsL, zA_zsL, zJ_zsL, zL_zsL, zn_eq, a, b, c, d, if_false]
    · have y' : ¬ nI c = nI 59 := by rw [neq (by omega) (by omega)]; exact y
      refine ⟨zsI (zsI R 4 (nI 4)) 6 (nI (s + 1)), zsI (zsI (zsI (zsI M 22 (nI s)) 20 (nI (s + 1))) 21 (nI 0)) 23 (nI (s + 1)), s + 1, ?_, ?_, ?_, ?_, ?_⟩
      · simp (disch := omega) only [fR_step_b68, fR_step_b200, li0, li1, li2, li3, li4, li5, li6, li7, li8, li9, li10, li12, li13, li14, li16, li20, li21, li22, li23, li26, li30, li32, li40, li48, li50, li57, li59, li97, li99, li100, li122, li128, li180, li320, li500, li999, nI_add, pk_mul, subN, clampN, zg_ix, nlt, nle, neq, zn_eq, bind_s, ↓reduceIte, Nat.reduceAdd, Nat.reduceMul, Nat.reduceSub, Nat.reduceLeDiff, Nat.reduceEqDiff, Nat.add_zero, Nat.zero_add, Nat.reduceLT, Nat.mul_zero, zI_zsI, zI_zsAf, zI_zsJ, zI_zsLf, zA_zsI, zA_zsAf, zA_zsJ, zA_zsLf, zJ_zsI, zJ_zsAf, zJ_zsJ, zJ_zsLf, zL_zsI, zL_zsAf, zL_zsJ, zL_zsLf, zI_zsA, zA_zsA, zJ_zsA, zL_zsA, zI_zsL, zA_zsL, zJ_zsL, zL_zsL, zn_eq, r1, r5, hsn, l3, l4, l5, y, Bool.false_eq_true]
      · simp (disch := omega) only [nx1, fM_next_b196, li0, li1, li2, li3, li4, li5, li6, li7, li8, li9, li10, li12, li13, li14, li16, li20, li21, li22, li23, li26, li30, li32, li40, li48, li50, li57, li59, li97, li99, li100, li122, li128, li180, li320, li500, li999, nI_add, pk_mul, subN, clampN, zg_ix, nlt, nle, neq, zn_eq, bind_s, ↓reduceIte, Nat.reduceAdd, Nat.reduceMul, Nat.reduceSub, Nat.reduceLeDiff, Nat.reduceEqDiff, Nat.add_zero, Nat.zero_add, Nat.reduceLT, Nat.mul_zero, zI_zsI, zI_zsAf, zI_zsJ, zI_zsLf, zA_zsI, zA_zsAf, zA_zsJ, zA_zsLf, zJ_zsI, zJ_zsAf, zJ_zsJ, zJ_zsLf, zL_zsI, zL_zsAf, zL_zsJ, zL_zsLf, zI_zsA, zA_zsA, zJ_zsA, zL_zsA, zI_zsL, zA_zsL, zJ_zsL, zL_zsL, zn_eq, m20, hx, nm, l1, l2, y, Bool.false_eq_true]
      · exact ⟨⟨r5, rfl⟩, ⟨rfl, rfl, rfl⟩, by omega, by omega, Or.inr (Or.inr (Or.inr (Or.inr ⟨rfl, rfl⟩)))⟩
      · refine ⟨fun _ => rfl, fun k a b c d => ?_⟩
        simp only [zI_zsI, zI_zsAf, zI_zsJ, zI_zsLf, zA_zsI, zA_zsAf, zA_zsJ, zA_zsLf, zJ_zsI, zJ_zsAf, zJ_zsJ, zJ_zsLf, zL_zsI, zL_zsAf, zL_zsJ, zL_zsLf, zI_zsA, zA_zsA, zJ_zsA, zL_zsA, zI_zsL, zA_zsL, zJ_zsL, zL_zsL, zn_eq, a, b, c, d, if_false]
      · refine ⟨fun _ => rfl, fun k a b c d => ?_⟩
        simp only [zI_zsI, zI_zsAf, zI_zsJ, zI_zsLf, zA_zsI, zA_zsAf, zA_zsJ, zA_zsLf, zJ_zsI, zJ_zsAf, zJ_zsJ, zJ_zsLf, zL_zsI, zL_zsAf, zL_zsJ, zL_zsLf, zI_zsA, zA_zsA, zJ_zsA, zL_zsA, zI_zsL, zA_zsL, zJ_zsL, zL_zsL, zn_eq, a, b, c, d, if_false]
  rcases e1 with ⟨h1, e1⟩ | ⟨h1, e1⟩
  · by_cases lt : 97 ≤ c ∧ c ≤ 122
    · have l1 : fM_isLetter (nI c) = some true := by
        simp (disch := omega) only [isLet_eq, nle, lt, decide_true, decide_false, and_self]
      have l3 : fR_isIn (nI c) (nI 97) (nI 122) = some true := by
        unfold fR_isIn
        rw [if_neg (by rw [nlt (by omega) (by omega)]; omega), if_neg (by rw [nlt (by omega) (by omega)]; omega)]
      obtain ⟨h, g1, g2, g3, g4, g5, g6⟩ := run_sim (n := n) (lo := 97) (hi := 122) ⟨by omega, by omega, by omega⟩ fM_next_l77 (fun M => fM_next_b196 (zsI M 21 2)) (zsI R 4 (nI 1)) (fun m M j x a b c => by rw [n77_u, b, a, bind_s, isLet_eq, bind_s, decide_eq_true c, if_pos rfl, nI_1]) (fun m M j x a b c => by rw [n77_u, b, a, bind_s, isLet_eq, bind_s, decide_eq_false c, if_neg Bool.false_ne_true]) (n - s) s zF zF (zsI M 22 (nI s)) (by omega) (by unfold zF; omega) (by unfold zF; omega) hT h19 m20
      refine ⟨zsI (zsI R 4 (nI 1)) 6 (nI h), zsI (zsI (zsI (zsI M 22 (nI s)) 20 (nI h)) 21 (nI 2)) 23 (nI h), h, ?_, ?_, ?_, ?_, ?_⟩
      · simp (disch := omega) only [fR_step_b68, fR_behindRun, li0, li1, li2, li3, li4, li5, li6, li7, li8, li9, li10, li12, li13, li14, li16, li20, li21, li22, li23, li26, li30, li32, li40, li48, li50, li57, li59, li97, li99, li100, li122, li128, li180, li320, li500, li999, nI_add, pk_mul, subN, clampN, zg_ix, nlt, nle, neq, zn_eq, bind_s, ↓reduceIte, Nat.reduceAdd, Nat.reduceMul, Nat.reduceSub, Nat.reduceLeDiff, Nat.reduceEqDiff, Nat.add_zero, Nat.zero_add, Nat.reduceLT, Nat.mul_zero, zI_zsI, zI_zsAf, zI_zsJ, zI_zsLf, zA_zsI, zA_zsAf, zA_zsJ, zA_zsLf, zJ_zsI, zJ_zsAf, zJ_zsJ, zJ_zsLf, zL_zsI, zL_zsAf, zL_zsJ, zL_zsLf, zI_zsA, zA_zsA, zJ_zsA, zL_zsA, zI_zsL, zA_zsL, zJ_zsL, zL_zsL, zn_eq, r1, r5, hsn, e1, l3, g3]
      · simp (disch := omega) only [nx1, li0, li1, li2, li3, li4, li5, li6, li7, li8, li9, li10, li12, li13, li14, li16, li20, li21, li22, li23, li26, li30, li32, li40, li48, li50, li57, li59, li97, li99, li100, li122, li128, li180, li320, li500, li999, nI_add, pk_mul, subN, clampN, zg_ix, nlt, nle, neq, zn_eq, bind_s, ↓reduceIte, Nat.reduceAdd, Nat.reduceMul, Nat.reduceSub, Nat.reduceLeDiff, Nat.reduceEqDiff, Nat.add_zero, Nat.zero_add, Nat.reduceLT, Nat.mul_zero, zI_zsI, zI_zsAf, zI_zsJ, zI_zsLf, zA_zsI, zA_zsAf, zA_zsJ, zA_zsLf, zJ_zsI, zJ_zsAf, zJ_zsJ, zJ_zsLf, zL_zsI, zL_zsAf, zL_zsJ, zL_zsLf, zI_zsA, zA_zsA, zJ_zsA, zL_zsA, zI_zsL, zA_zsL, zJ_zsL, zL_zsL, zn_eq, m20, hx, nm, l1]
        rw [g4]
        rfl
      · exact ⟨⟨r5, rfl⟩, ⟨rfl, rfl, rfl⟩, by omega, by omega, Or.inr (Or.inl ⟨rfl, rfl, g5⟩)⟩
      · refine ⟨fun _ => rfl, fun k a b c d => ?_⟩
        simp only [zI_zsI, zI_zsAf, zI_zsJ, zI_zsLf, zA_zsI, zA_zsAf, zA_zsJ, zA_zsLf, zJ_zsI, zJ_zsAf, zJ_zsJ, zJ_zsLf, zL_zsI, zL_zsAf, zL_zsJ, zL_zsLf, zI_zsA, zA_zsA, zJ_zsA, zL_zsA, zI_zsL, zA_zsL, zJ_zsL, zL_zsL, zn_eq, a, b, c, d, if_false]
      · refine ⟨fun _ => rfl, fun k a b c d => ?_⟩
        simp only [zI_zsI, zI_zsAf, zI_zsJ, zI_zsLf, zA_zsI, zA_zsAf, zA_zsJ, zA_zsLf, zJ_zsI, zJ_zsAf, zJ_zsJ, zJ_zsLf, zL_zsI, zL_zsAf, zL_zsJ, zL_zsLf, zI_zsA, zA_zsA, zJ_zsA, zL_zsA, zI_zsL, zA_zsL, zJ_zsL, zL_zsL, zn_eq, a, b, c, d, if_false]
    · by_cases fg : 48 ≤ c ∧ c ≤ 57
      · have l1 : fM_isLetter (nI c) = some false := by
          simp (disch := omega) only [isLet_eq, nle, lt, decide_true, decide_false, and_self]
        have l2 : fM_isFigure (nI c) = some true := by
          simp (disch := omega) only [isFig_eq, nle, fg, decide_true, decide_false, and_self]
        have l3 : fR_isIn (nI c) (nI 97) (nI 122) = some false := by
          unfold fR_isIn
          rw [if_pos (by rw [nlt (by omega) (by omega)]; omega)]
        have l4 : fR_isIn (nI c) (nI 48) (nI 57) = some true := by
          unfold fR_isIn
          rw [if_neg (by rw [nlt (by omega) (by omega)]; omega), if_neg (by rw [nlt (by omega) (by omega)]; omega)]
        obtain ⟨h, g1, g2, g3, g4, g5, g6⟩ := run_sim (n := n) (lo := 48) (hi := 57) ⟨by omega, by omega, by omega⟩ fM_next_l119 (fun M => if zI M 20 - zI M 22 ≤ 3 then fM_next_b196 (zsI M 21 3) else fM_next_b196 (zsI M 21 0)) R (fun m M j x a b c => by rw [n119_u, b, a, bind_s, isFig_eq, bind_s, decide_eq_true c, if_pos rfl, nI_1]) (fun m M j x a b c => by rw [n119_u, b, a, bind_s, isFig_eq, bind_s, decide_eq_false c, if_neg Bool.false_ne_true]) (n - s) s zF zF (zsI M 22 (nI s)) (by omega) (by unfold zF; omega) (by unfold zF; omega) hT h19 m20
        by_cases w : h - s ≤ 3
        · have k := num_loop (R := R) (M := M) (s := s) (h := h) (by omega) (by omega) g5 (h - s) s zF (zsI (zsI (zsI R 6 (nI h)) 7 (nI 0)) 4 (nI 2)) (by omega) (by omega) (by unfold zF; omega) (fun _ => rfl) rfl (by rw [Nat.sub_self]; rfl)
          refine ⟨zsI (zsI (zsI (zsI R 6 (nI h)) 7 (nI 0)) 4 (nI 2)) 7 (nI (dv M s (h - s))), zsI (zsI (zsI (zsI M 22 (nI s)) 20 (nI h)) 21 (nI 3)) 23 (nI h), h, ?_, ?_, ?_, ?_, ?_⟩
          · simp (disch := omega) only [fR_step_b68, fR_behindRun, fR_takeNumber, li0, li1, li2, li3, li4, li5, li6, li7, li8, li9, li10, li12, li13, li14, li16, li20, li21, li22, li23, li26, li30, li32, li40, li48, li50, li57, li59, li97, li99, li100, li122, li128, li180, li320, li500, li999, nI_add, pk_mul, subN, clampN, zg_ix, nlt, nle, neq, zn_eq, bind_s, ↓reduceIte, Nat.reduceAdd, Nat.reduceMul, Nat.reduceSub, Nat.reduceLeDiff, Nat.reduceEqDiff, Nat.add_zero, Nat.zero_add, Nat.reduceLT, Nat.mul_zero, zI_zsI, zI_zsAf, zI_zsJ, zI_zsLf, zA_zsI, zA_zsAf, zA_zsJ, zA_zsLf, zJ_zsI, zJ_zsAf, zJ_zsJ, zJ_zsLf, zL_zsI, zL_zsAf, zL_zsJ, zL_zsLf, zI_zsA, zA_zsA, zJ_zsA, zL_zsA, zI_zsL, zA_zsL, zJ_zsL, zL_zsL, zn_eq, r1, r5, hsn, e1, l3, l4, g3, w, k, Bool.false_eq_true]
          · simp (disch := omega) only [nx1, li0, li1, li2, li3, li4, li5, li6, li7, li8, li9, li10, li12, li13, li14, li16, li20, li21, li22, li23, li26, li30, li32, li40, li48, li50, li57, li59, li97, li99, li100, li122, li128, li180, li320, li500, li999, nI_add, pk_mul, subN, clampN, zg_ix, nlt, nle, neq, zn_eq, bind_s, ↓reduceIte, Nat.reduceAdd, Nat.reduceMul, Nat.reduceSub, Nat.reduceLeDiff, Nat.reduceEqDiff, Nat.add_zero, Nat.zero_add, Nat.reduceLT, Nat.mul_zero, zI_zsI, zI_zsAf, zI_zsJ, zI_zsLf, zA_zsI, zA_zsAf, zA_zsJ, zA_zsLf, zJ_zsI, zJ_zsAf, zJ_zsJ, zJ_zsLf, zL_zsI, zL_zsAf, zL_zsJ, zL_zsLf, zI_zsA, zA_zsA, zJ_zsA, zL_zsA, zI_zsL, zA_zsL, zJ_zsL, zL_zsL, zn_eq, m20, hx, nm, l1, l2, Bool.false_eq_true]
            rw [g4]
            simp (disch := omega) only [fM_next_b196, li0, li1, li2, li3, li4, li5, li6, li7, li8, li9, li10, li12, li13, li14, li16, li20, li21, li22, li23, li26, li30, li32, li40, li48, li50, li57, li59, li97, li99, li100, li122, li128, li180, li320, li500, li999, nI_add, pk_mul, subN, clampN, zg_ix, nlt, nle, neq, zn_eq, bind_s, ↓reduceIte, Nat.reduceAdd, Nat.reduceMul, Nat.reduceSub, Nat.reduceLeDiff, Nat.reduceEqDiff, Nat.add_zero, Nat.zero_add, Nat.reduceLT, Nat.mul_zero, zI_zsI, zI_zsAf, zI_zsJ, zI_zsLf, zA_zsI, zA_zsAf, zA_zsJ, zA_zsLf, zJ_zsI, zJ_zsAf, zJ_zsJ, zJ_zsLf, zL_zsI, zL_zsAf, zL_zsJ, zL_zsLf, zI_zsA, zA_zsA, zJ_zsA, zL_zsA, zI_zsL, zA_zsL, zJ_zsL, zL_zsL, zn_eq, w]
          · refine ⟨⟨r5, rfl⟩, ⟨rfl, rfl, rfl⟩, by omega, by omega, Or.inr (Or.inr (Or.inl ⟨rfl, rfl, by omega, g5, congrArg nI (dv_eq (M := M) (M' := zsI (zsI (zsI (zsI M 22 (nI s)) 20 (nI h)) 21 (nI 3)) 23 (nI h)) rfl s (h - s)).symm⟩))⟩
          · refine ⟨fun _ => rfl, fun k a b c d => ?_⟩
            simp only [zI_zsI, zI_zsAf, zI_zsJ, zI_zsLf, zA_zsI, zA_zsAf, zA_zsJ, zA_zsLf, zJ_zsI, zJ_zsAf, zJ_zsJ, zJ_zsLf, zL_zsI, zL_zsAf, zL_zsJ, zL_zsLf, zI_zsA, zA_zsA, zJ_zsA, zL_zsA, zI_zsL, zA_zsL, zJ_zsL, zL_zsL, zn_eq, a, b, c, d, if_false]
          · refine ⟨fun _ => rfl, fun k a b c d => ?_⟩
            simp only [zI_zsI, zI_zsAf, zI_zsJ, zI_zsLf, zA_zsI, zA_zsAf, zA_zsJ, zA_zsLf, zJ_zsI, zJ_zsAf, zJ_zsJ, zJ_zsLf, zL_zsI, zL_zsAf, zL_zsJ, zL_zsLf, zI_zsA, zA_zsA, zJ_zsA, zL_zsA, zI_zsL, zA_zsL, zJ_zsL, zL_zsL, zn_eq, a, b, c, d, if_false]
        · refine ⟨zsI (zsI (zsI R 6 (nI h)) 7 (nI 0)) 4 (nI 4), zsI (zsI (zsI (zsI M 22 (nI s)) 20 (nI h)) 21 (nI 0)) 23 (nI h), h, ?_, ?_, ?_, ?_, ?_⟩
          · simp (disch := omega) only [fR_step_b68, fR_behindRun, fR_takeNumber, li0, li1, li2, li3, li4, li5, li6, li7, li8, li9, li10, li12, li13, li14, li16, li20, li21, li22, li23, li26, li30, li32, li40, li48, li50, li57, li59, li97, li99, li100, li122, li128, li180, li320, li500, li999, nI_add, pk_mul, subN, clampN, zg_ix, nlt, nle, neq, zn_eq, bind_s, ↓reduceIte, Nat.reduceAdd, Nat.reduceMul, Nat.reduceSub, Nat.reduceLeDiff, Nat.reduceEqDiff, Nat.add_zero, Nat.zero_add, Nat.reduceLT, Nat.mul_zero, zI_zsI, zI_zsAf, zI_zsJ, zI_zsLf, zA_zsI, zA_zsAf, zA_zsJ, zA_zsLf, zJ_zsI, zJ_zsAf, zJ_zsJ, zJ_zsLf, zL_zsI, zL_zsAf, zL_zsJ, zL_zsLf, zI_zsA, zA_zsA, zJ_zsA, zL_zsA, zI_zsL, zA_zsL, zJ_zsL, zL_zsL, zn_eq, r1, r5, hsn, e1, l3, l4, g3, w, Bool.false_eq_true]
          · simp (disch := omega) only [nx1, li0, li1, li2, li3, li4, li5, li6, li7, li8, li9, li10, li12, li13, li14, li16, li20, li21, li22, li23, li26, li30, li32, li40, li48, li50, li57, li59, li97, li99, li100, li122, li128, li180, li320, li500, li999, nI_add, pk_mul, subN, clampN, zg_ix, nlt, nle, neq, zn_eq, bind_s, ↓reduceIte, Nat.reduceAdd, Nat.reduceMul, Nat.reduceSub, Nat.reduceLeDiff, Nat.reduceEqDiff, Nat.add_zero, Nat.zero_add, Nat.reduceLT, Nat.mul_zero, zI_zsI, zI_zsAf, zI_zsJ, zI_zsLf, zA_zsI, zA_zsAf, zA_zsJ, zA_zsLf, zJ_zsI, zJ_zsAf, zJ_zsJ, zJ_zsLf, zL_zsI, zL_zsAf, zL_zsJ, zL_zsLf, zI_zsA, zA_zsA, zJ_zsA, zL_zsA, zI_zsL, zA_zsL, zJ_zsL, zL_zsL, zn_eq, m20, hx, nm, l1, l2, Bool.false_eq_true]
            rw [g4]
            simp (disch := omega) only [fM_next_b196, li0, li1, li2, li3, li4, li5, li6, li7, li8, li9, li10, li12, li13, li14, li16, li20, li21, li22, li23, li26, li30, li32, li40, li48, li50, li57, li59, li97, li99, li100, li122, li128, li180, li320, li500, li999, nI_add, pk_mul, subN, clampN, zg_ix, nlt, nle, neq, zn_eq, bind_s, ↓reduceIte, Nat.reduceAdd, Nat.reduceMul, Nat.reduceSub, Nat.reduceLeDiff, Nat.reduceEqDiff, Nat.add_zero, Nat.zero_add, Nat.reduceLT, Nat.mul_zero, zI_zsI, zI_zsAf, zI_zsJ, zI_zsLf, zA_zsI, zA_zsAf, zA_zsJ, zA_zsLf, zJ_zsI, zJ_zsAf, zJ_zsJ, zJ_zsLf, zL_zsI, zL_zsAf, zL_zsJ, zL_zsLf, zI_zsA, zA_zsA, zJ_zsA, zL_zsA, zI_zsL, zA_zsL, zJ_zsL, zL_zsL, zn_eq, w]
          · refine ⟨⟨r5, rfl⟩, ⟨rfl, rfl, rfl⟩, by omega, by omega, Or.inr (Or.inr (Or.inr (Or.inr ⟨rfl, rfl⟩)))⟩
          · refine ⟨fun _ => rfl, fun k a b c d => ?_⟩
            simp only [zI_zsI, zI_zsAf, zI_zsJ, zI_zsLf, zA_zsI, zA_zsAf, zA_zsJ, zA_zsLf, zJ_zsI, zJ_zsAf, zJ_zsJ, zJ_zsLf, zL_zsI, zL_zsAf, zL_zsJ, zL_zsLf, zI_zsA, zA_zsA, zJ_zsA, zL_zsA, zI_zsL, zA_zsL, zJ_zsL, zL_zsL, zn_eq, a, b, c, d, if_false]
          · refine ⟨fun _ => rfl, fun k a b c d => ?_⟩
            simp only [zI_zsI, zI_zsAf, zI_zsJ, zI_zsLf, zA_zsI, zA_zsAf, zA_zsJ, zA_zsLf, zJ_zsI, zJ_zsAf, zJ_zsJ, zJ_zsLf, zL_zsI, zL_zsAf, zL_zsJ, zL_zsLf, zI_zsA, zA_zsA, zJ_zsA, zL_zsA, zI_zsL, zA_zsL, zJ_zsL, zL_zsL, zn_eq, a, b, c, d, if_false]
      · exact rest ⟨lt, fg⟩
  · exact rest ⟨by omega, by omega⟩
theorem step_sim {R M : zSt} {n h : Nat} (hT : TpR R M n) (h19 : zI M 19 = nI n) (hh : h ≤ n) (r2 : zI R 2 = nI 0) (r6 : zI R 6 = nI h) (m20 : zI M 20 = nI h) : ∃ R' M' s h', fR_step R = some R' ∧ fM_next M = some M' ∧ TkR R' M' n s h' ∧ RK R R' ∧ MK M M' := by
  have hn : n ≤ 500 := hT.2.1
  obtain ⟨s, s1, s2, s3, s4⟩ := skip_sim (n := n) (n - h) h zF zF (zsI R 5 (nI h)) M (by omega) (by unfold zF; omega) (by unfold zF; omega) hT h19 rfl m20
  rw [zsI_twice] at s3
  obtain ⟨R', M', h', t1, t2, t3, t4, t5⟩ := tok_sim (R := zsI R 5 (nI s)) (M := zsI M 20 (nI s)) (n := n) (s := s) hT h19 s2 rfl rfl
  refine ⟨R', M', s, h', ?_, ?_, t3, ⟨t4.1, fun k a b c d => ?_⟩, ⟨t5.1, fun k a b c d => ?_⟩⟩
  · unfold fR_step
    rw [r2, if_pos li0.symm, zn_eq, r6, s3, t1]
  · unfold fM_next
    rw [s4, t2]
  · rw [t4.2 k a b c d]
    simp only [zI_zsI, zI_zsAf, zI_zsJ, zI_zsLf, zA_zsI, zA_zsAf, zA_zsJ, zA_zsLf, zJ_zsI, zJ_zsAf, zJ_zsJ, zJ_zsLf, zL_zsI, zL_zsAf, zL_zsJ, zL_zsLf, zI_zsA, zA_zsA, zJ_zsA, zL_zsA, zI_zsL, zA_zsL, zJ_zsL, zL_zsL, zn_eq, b, if_false]
  · rw [t5.2 k a b c d]
    simp only [zI_zsI, zI_zsAf, zI_zsJ, zI_zsLf, zA_zsI, zA_zsAf, zA_zsJ, zA_zsLf, zJ_zsI, zJ_zsAf, zJ_zsJ, zJ_zsLf, zL_zsI, zL_zsAf, zL_zsJ, zL_zsLf, zI_zsA, zA_zsA, zJ_zsA, zL_zsA, zI_zsL, zA_zsL, zJ_zsL, zL_zsL, zn_eq, a, if_false]
