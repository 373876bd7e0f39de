/-! READER: events on both sides -/
theorem zA_o {S : zSt} {a e q i : Nat} {v : Int32} (h : q ≠ a ∨ i ≠ e) : zA (zsA S a e v) q i = zA S q i := by
  simp only [zA_zsA]
  by_cases z : q = a
  · subst z
    rw [if_pos rfl, upd_ne (by omega)]
  · rw [if_neg z]
def evM (M : zSt) (D : Int32) (k e : Nat) : Option zSt := Option.bind (fM_numberIn (zsA M 15 (6 * e) (nI k)) D (nI 999)) fun y5 => zn (zsA y5.2 15 (6 * e + 1) y5.1) fun sM6 => Option.bind (fM_readNumbers sM6 (nI k) (nI (6 * e))) fun y7 => fM_mustEnd y7
def EvV (S : zSt) (ev : Nat → Int32) (l t i k : Nat) : Prop := ∃ d a b c : Nat, d ≤ 999 ∧ (zA S 8 i = nI k ∧ ev (6 * i) = nI k) ∧ (zA S 9 i = nI d ∧ ev (6 * i + 1) = nI d) ∧ (zA S 10 i = nI a ∧ ev (6 * i + 2) = nI a) ∧ (k ≠ 5 → zA S 11 i = nI b ∧ ev (6 * i + 3) = nI b) ∧ (k ≤ 2 → zA S 12 i = nI c ∧ ev (6 * i + 4) = nI c) ∧ (k = 0 → a < 4 ∧ b ≤ 1 ∧ 1 ≤ c ∧ c ≤ 99) ∧ (k = 1 → a ≤ 99 ∧ b ≤ 99 ∧ c ≤ 99 ∧ 1 ≤ a + b + c) ∧ (k = 2 → a < t ∧ b < 3 ∧ 1 ≤ c ∧ c ≤ 99) ∧ (k = 3 → a < t ∧ b ≤ 99) ∧ (k = 4 → a < 3 ∧ 1 ≤ b ∧ b ≤ 99) ∧ (k = 5 → a < l) ∧ (k = 6 → a < 5 ∧ b < 3)
def EvB (R M S : zSt) (n l t e k : Nat) (D : Int32) : Prop := ∃ R' S' Mx, fR_readEvent_b33 R (zsA S 8 e (nI k)) (nI e) (nI k) D (nI e) = some (R', S') ∧ evM M D k e = some Mx ∧ RdR R' Mx n ∧ Fr R R' M Mx ∧ (∀ q, q ≠ 15 → zA Mx q = zA M q) ∧ (∀ q, zI S' q = zI S q) ∧ (∀ q i, (q < 8 ∨ i ≠ e) → zA S' q i = zA S q i) ∧ (∀ i, i < 6 * e → zA Mx 15 i = zA M 15 i) ∧ (zI R' 2 = nI 0 → D ≤ zA S' 9 e ∧ EvV S' (zA Mx 15) l t e k)
theorem le_pred {a t : Nat} (h : nI a ≤ nI t - nI 1) (ha : a < 1000) (ht : t ≤ 1000) : a < t := by
  have h1 := Int32.le_iff_toInt_le.mp h
  rw [pk_sub_toInt (by omega) (by omega), nI_int (by omega)] at h1
  omega
theorem ev_k0 {R M S : zSt} {n l t e : Nat} (D : Int32) (h : RdR R M n) (he : e < 30) (s2 : zI S 2 = nI t) (m13 : zI M 13 = nI t) (s0 : zI S 0 = nI l) (m11 : zI M 11 = nI l) (ht : t ≤ 10) (hl : l ≤ 4) : EvB R M S n l t e 0 D := by
  obtain ⟨vd, wd, R0, M0, a0, b0, c0, d0, e0, g0⟩ := num_sim D (nI 999) D (nI 999) (h.setA 15 (6 * e) (nI 0) (by omega)) (fun _ => ⟨rfl, rfl⟩)
  obtain ⟨v1, w1, R1, M1, a1, b1, c1, d1, e1, g1⟩ := word_sim (i := 6) (W := w_W6) 27710370754291828 444150998382 111469206070628 114784770090340 (-1) [-1] (fun hn hk => choice_6 hn hk) w_ok6 (by decide) (by decide) (by decide +kernel) (c0.setA 15 (6 * e + 1) wd (by omega))
  obtain ⟨v2, w2, R2, M2, a2, b2, c2, d2, e2, g2⟩ := num_sim (nI 0) (nI 1) (nI 0) (nI 1) (c1.setA 15 (6 * e + 2) w1 (by omega)) (fun _ => ⟨rfl, rfl⟩)
  obtain ⟨v3, w3, R3, M3, a3, b3, c3, d3, e3, g3⟩ := num_sim (nI 1) (nI 99) (nI 1) (nI 99) (c2.setA 15 (6 * e + 3) w2 (by omega)) (fun _ => ⟨rfl, rfl⟩)
  obtain ⟨Rz, Mz, az, bz, cz, dz, ez⟩ := semi_sim (c3.setA 15 (6 * e + 4) w3 (by omega))
  have E3 := (e3.setA 15 (6 * e + 4) w3).trans ez
  have E2 := (e2.setA 15 (6 * e + 3) w2).trans E3
  have E1 := (e1.setA 15 (6 * e + 2) w1).trans E2
  have E0 := (e0.setA 15 (6 * e + 1) wd).trans E1
  have m15 : zA Mz 15 = upd (upd (upd (upd (upd (zA M 15) (6 * e) (nI 0)) (6 * e + 1) (wd)) (6 * e + 2) (w1)) (6 * e + 3) (w2)) (6 * e + 4) (w3) := by
    rw [dz, show zA (zsA M3 15 (6 * e + 4) w3) 15 = upd (zA M3 15) (6 * e + 4) w3 from rfl, d3, show zA (zsA M2 15 (6 * e + 3) w2) 15 = upd (zA M2 15) (6 * e + 3) w2 from rfl, d2, show zA (zsA M1 15 (6 * e + 2) w1) 15 = upd (zA M1 15) (6 * e + 2) w1 from rfl, d1, show zA (zsA M0 15 (6 * e + 1) wd) 15 = upd (zA M0 15) (6 * e + 1) wd from rfl, d0]
    rfl
  refine ⟨Rz, zsA (zsA (zsA (zsA (zsA S 8 e (nI 0)) 9 e vd) 10 e v1) 11 e v2) 12 e v3, Mz, ?_, ?_, cz, ⟨E0.1, E0.2.1, E0.2.2.1, E0.2.2.2.1, E0.2.2.2.2⟩, fun q hq => ?_, fun _ => rfl, fun q i hq => ?_, fun i hi => ?_, fun z => ?_⟩
  · simp (disch := omega) only [fR_readEvent_b33, fR_readEvent_b169, fR_readEvent_b187, li0, li1, li2, li3, li4, li5, li6, li7, li8, li9, li10, li12, li13, li14, li16, li20, li21, li22, li23, li26, li30, li32, li40, li48, li50, li57, li59, li97, li99, li100, li122, li128, li180, li320, li500, li999, nI_add, pk_mul, subN, clampN, zg_ix, nlt, nle, neq, zn_eq, bind_s, ↓reduceIte, Nat.reduceAdd, Nat.reduceMul, Nat.reduceSub, Nat.reduceLeDiff, Nat.reduceEqDiff, Nat.add_zero, Nat.zero_add, Nat.reduceLT, Nat.mul_zero, zI_zsI, zI_zsAf, zI_zsJ, zI_zsLf, zA_zsI, zA_zsAf, zA_zsJ, zA_zsLf, zJ_zsI, zJ_zsAf, zJ_zsJ, zJ_zsLf, zL_zsI, zL_zsAf, zL_zsJ, zL_zsLf, zI_zsA, zA_zsA, zJ_zsA, zL_zsA, zI_zsL, zA_zsL, zJ_zsL, zL_zsL, zn_eq, s2, s0, a0, a1, a2, a3, az]
  · simp (disch := omega) only [evM, fM_readNumbers, fM_readNumbers_b131, fM_readNumbers_b150, fM_readNumbers_b197, fM_readNumbers_b286, li0, li1, li2, li3, li4, li5, li6, li7, li8, li9, li10, li12, li13, li14, li16, li20, li21, li22, li23, li26, li30, li32, li40, li48, li50, li57, li59, li97, li99, li100, li122, li128, li180, li320, li500, li999, nI_add, pk_mul, subN, clampN, zg_ix, nlt, nle, neq, zn_eq, bind_s, ↓reduceIte, Nat.reduceAdd, Nat.reduceMul, Nat.reduceSub, Nat.reduceLeDiff, Nat.reduceEqDiff, Nat.add_zero, Nat.zero_add, Nat.reduceLT, Nat.mul_zero, zI_zsI, zI_zsAf, zI_zsJ, zI_zsLf, zA_zsI, zA_zsAf, zA_zsJ, zA_zsLf, zJ_zsI, zJ_zsAf, zJ_zsJ, zJ_zsLf, zL_zsI, zL_zsAf, zL_zsJ, zL_zsLf, zI_zsA, zA_zsA, zJ_zsA, zL_zsA, zI_zsL, zA_zsL, zJ_zsL, zL_zsL, zn_eq, b0, b1, b2, b3, bz]
  · rw [dz, zA_zsA, if_neg hq, d3, zA_zsA, if_neg hq, d2, zA_zsA, if_neg hq, d1, zA_zsA, if_neg hq, d0, zA_zsA, if_neg hq]
  · rw [zA_o (by omega), zA_o (by omega), zA_o (by omega), zA_o (by omega), zA_o (by omega)]
  · rw [m15, upd_ne (by omega), upd_ne (by omega), upd_ne (by omega), upd_ne (by omega), upd_ne (by omega)]
  · obtain ⟨dd, x0, x1, x2, x3, x4⟩ := g0 (E1.2.2.2.1 z)
    rw [nle (by omega) (by omega)] at x4
    obtain ⟨k1, y1, i1, j1⟩ := g1 (E2.2.2.2.1 z)
    obtain ⟨k2, y2, i2, j2, l2, u2⟩ := g2 (E3.2.2.2.1 z)
    rw [nle (by omega) (by omega)] at u2
    rw [nle (by omega) (by omega)] at l2
    obtain ⟨k3, y3, i3, j3, l3, u3⟩ := g3 (ez.2.2.2.1 z)
    rw [nle (by omega) (by omega)] at u3
    rw [nle (by omega) (by omega)] at l3
    have y1 : k1 < 4 := y1
    refine ⟨?_, dd, k1, k2, k3, x4, ⟨?_, ?_⟩, ⟨?_, ?_⟩, ⟨?_, ?_⟩, fun kk => ?_, fun kk => ?_, fun kk => ?_, fun kk => ?_, fun kk => ?_, fun kk => ?_, fun kk => ?_, fun kk => ?_, fun kk => ?_⟩
    · show D ≤ upd (zA S 9) e vd e
      rw [upd_same, x1]; exact x3
    · show upd (zA S 8) e _ e = _; rw [upd_same]
    · rw [m15, upd_ne (by omega), upd_ne (by omega), upd_ne (by omega), upd_ne (by omega), upd_same]
    · show upd (zA S 9) e _ e = _; rw [upd_same]; exact x1
    · rw [m15, upd_ne (by omega), upd_ne (by omega), upd_ne (by omega), upd_same, x2]
    · show upd (zA S 10) e _ e = _; rw [upd_same]; exact i1
    · rw [m15, upd_ne (by omega), upd_ne (by omega), upd_same, j1]
    · refine ⟨?_, ?_⟩
      · show upd (zA S 11) e _ e = _; rw [upd_same]; exact i2
      · rw [m15, upd_ne (by omega), upd_same, j2]
    · refine ⟨?_, ?_⟩
      · show upd (zA S 12) e _ e = _; rw [upd_same]; exact i3
      · rw [m15, upd_same, j3]
    · omega
    · omega
    · omega
    · omega
    · omega
    · omega
    · omega
theorem ev_k1 {R M S : zSt} {n l t e : Nat} (D : Int32) (h : RdR R M n) (he : e < 30) (s2 : zI S 2 = nI t) (m13 : zI M 13 = nI t) (s0 : zI S 0 = nI l) (m11 : zI M 11 = nI l) (ht : t ≤ 10) (hl : l ≤ 4) : EvB R M S n l t e 1 D := by
  obtain ⟨vd, wd, R0, M0, a0, b0, c0, d0, e0, g0⟩ := num_sim D (nI 999) D (nI 999) (h.setA 15 (6 * e) (nI 1) (by omega)) (fun _ => ⟨rfl, rfl⟩)
  obtain ⟨v1, w1, R1, M1, a1, b1, c1, d1, e1, g1⟩ := num_sim (nI 0) (nI 99) (nI 0) (nI 99) (c0.setA 15 (6 * e + 1) wd (by omega)) (fun _ => ⟨rfl, rfl⟩)
  obtain ⟨v2, w2, R2, M2, a2, b2, c2, d2, e2, g2⟩ := num_sim (nI 0) (nI 99) (nI 0) (nI 99) (c1.setA 15 (6 * e + 2) w1 (by omega)) (fun _ => ⟨rfl, rfl⟩)
  obtain ⟨X, hX⟩ : ∃ X, X = (if v1 = nI 0 then (if v2 = nI 0 then nI 1 else nI 0) else nI 0) := ⟨_, rfl⟩
  obtain ⟨X', hX'⟩ : ∃ X, X = (if w1 + w2 ≤ nI 0 then nI 1 else nI 0) := ⟨_, rfl⟩
  have hXX : zI R2 2 = nI 0 → X = X' ∧ nI 99 = nI 99 := by
    intro z
    obtain ⟨q1, q2, q3, q4, q5, q6⟩ := g1 (e2.2.2.2.1 z)
    obtain ⟨p1, p2, p3, p4, p5, p6⟩ := g2 z
    refine ⟨?_, rfl⟩
    rw [hX, hX', q3, q4, p3, p4, nI_add]
    by_cases y1 : q1 = 0
    · by_cases y2 : p1 = 0
      · rw [if_pos (by rw [y1]), if_pos (by rw [y2]), if_pos (by rw [nle (by omega) (by omega)]; omega)]
      · rw [if_pos (by rw [y1]), if_neg (by rw [neq (by omega) (by omega)]; exact y2), if_neg (by rw [nle (by omega) (by omega)]; omega)]
    · rw [if_neg (by rw [neq (by omega) (by omega)]; exact y1), if_neg (by rw [nle (by omega) (by omega)]; omega)]
  obtain ⟨v3, w3, R3, M3, a3, b3, c3, d3, e3, g3⟩ := num_sim X (nI 99) X' (nI 99) (c2.setA 15 (6 * e + 3) w2 (by omega)) hXX
  obtain ⟨Rz, Mz, az, bz, cz, dz, ez⟩ := semi_sim (c3.setA 15 (6 * e + 4) w3 (by omega))
  have E3 := (e3.setA 15 (6 * e + 4) w3).trans ez
  have E2 := (e2.setA 15 (6 * e + 3) w2).trans E3
  have E1 := (e1.setA 15 (6 * e + 2) w1).trans E2
  have E0 := (e0.setA 15 (6 * e + 1) wd).trans E1
  have m15 : zA Mz 15 = upd (upd (upd (upd (upd (zA M 15) (6 * e) (nI 1)) (6 * e + 1) (wd)) (6 * e + 2) (w1)) (6 * e + 3) (w2)) (6 * e + 4) (w3) := by
    rw [dz, show zA (zsA M3 15 (6 * e + 4) w3) 15 = upd (zA M3 15) (6 * e + 4) w3 from rfl, d3, show zA (zsA M2 15 (6 * e + 3) w2) 15 = upd (zA M2 15) (6 * e + 3) w2 from rfl, d2, show zA (zsA M1 15 (6 * e + 2) w1) 15 = upd (zA M1 15) (6 * e + 2) w1 from rfl, d1, show zA (zsA M0 15 (6 * e + 1) wd) 15 = upd (zA M0 15) (6 * e + 1) wd from rfl, d0]
    rfl
  refine ⟨Rz, zsA (zsA (zsA (zsA (zsA S 8 e (nI 1)) 9 e vd) 10 e v1) 11 e v2) 12 e v3, Mz, ?_, ?_, cz, ⟨E0.1, E0.2.1, E0.2.2.1, E0.2.2.2.1, E0.2.2.2.2⟩, fun q hq => ?_, fun _ => rfl, fun q i hq => ?_, fun i hi => ?_, fun z => ?_⟩
  · by_cases p1 : v1 = nI 0
    · by_cases p2 : v2 = nI 0
      · rw [hX, if_pos p1, if_pos p2] at a3
        rw [p1] at a1 ⊢
        rw [p2] at a2 ⊢
        simp (disch := omega) only [fR_readEvent_b33, fR_readEvent_b169, fR_readEvent_b187, li0, li1, li2, li3, li4, li5, li6, li7, li8, li9, li10, li12, li13, li14, li16, li20, li21, li22, li23, li26, li30, li32, li40, li48, li50, li57, li59, li97, li99, li100, li122, li128, li180, li320, li500, li999, nI_add, pk_mul, subN, clampN, zg_ix, nlt, nle, neq, zn_eq, bind_s, ↓reduceIte, Nat.reduceAdd, Nat.reduceMul, Nat.reduceSub, Nat.reduceLeDiff, Nat.reduceEqDiff, Nat.add_zero, Nat.zero_add, Nat.reduceLT, Nat.mul_zero, zI_zsI, zI_zsAf, zI_zsJ, zI_zsLf, zA_zsI, zA_zsAf, zA_zsJ, zA_zsLf, zJ_zsI, zJ_zsAf, zJ_zsJ, zJ_zsLf, zL_zsI, zL_zsAf, zL_zsJ, zL_zsLf, zI_zsA, zA_zsA, zJ_zsA, zL_zsA, zI_zsL, zA_zsL, zJ_zsL, zL_zsL, zn_eq, upd_same, a0, a1, a2, a3, az]
      · rw [hX, if_pos p1, if_neg p2] at a3
        rw [p1] at a1 ⊢
        simp (disch := omega) only [fR_readEvent_b33, fR_readEvent_b169, fR_readEvent_b187, li0, li1, li2, li3, li4, li5, li6, li7, li8, li9, li10, li12, li13, li14, li16, li20, li21, li22, li23, li26, li30, li32, li40, li48, li50, li57, li59, li97, li99, li100, li122, li128, li180, li320, li500, li999, nI_add, pk_mul, subN, clampN, zg_ix, nlt, nle, neq, zn_eq, bind_s, ↓reduceIte, Nat.reduceAdd, Nat.reduceMul, Nat.reduceSub, Nat.reduceLeDiff, Nat.reduceEqDiff, Nat.add_zero, Nat.zero_add, Nat.reduceLT, Nat.mul_zero, zI_zsI, zI_zsAf, zI_zsJ, zI_zsLf, zA_zsI, zA_zsAf, zA_zsJ, zA_zsLf, zJ_zsI, zJ_zsAf, zJ_zsJ, zJ_zsLf, zL_zsI, zL_zsAf, zL_zsJ, zL_zsLf, zI_zsA, zA_zsA, zJ_zsA, zL_zsA, zI_zsL, zA_zsL, zJ_zsL, zL_zsL, zn_eq, upd_same, a0, a1, a2, a3, az, p2]
    · rw [hX, if_neg p1] at a3
      simp (disch := omega) only [fR_readEvent_b33, fR_readEvent_b169, fR_readEvent_b187, li0, li1, li2, li3, li4, li5, li6, li7, li8, li9, li10, li12, li13, li14, li16, li20, li21, li22, li23, li26, li30, li32, li40, li48, li50, li57, li59, li97, li99, li100, li122, li128, li180, li320, li500, li999, nI_add, pk_mul, subN, clampN, zg_ix, nlt, nle, neq, zn_eq, bind_s, ↓reduceIte, Nat.reduceAdd, Nat.reduceMul, Nat.reduceSub, Nat.reduceLeDiff, Nat.reduceEqDiff, Nat.add_zero, Nat.zero_add, Nat.reduceLT, Nat.mul_zero, zI_zsI, zI_zsAf, zI_zsJ, zI_zsLf, zA_zsI, zA_zsAf, zA_zsJ, zA_zsLf, zJ_zsI, zJ_zsAf, zJ_zsJ, zJ_zsLf, zL_zsI, zL_zsAf, zL_zsJ, zL_zsLf, zI_zsA, zA_zsA, zJ_zsA, zL_zsA, zI_zsL, zA_zsL, zJ_zsL, zL_zsL, zn_eq, upd_same, a0, a1, a2, a3, az, p1]
  · have q2 : zA (zsA M2 15 (6 * e + 3) w2) 15 (6 * e + 2) = w1 := by
      rw [show zA (zsA M2 15 (6 * e + 3) w2) 15 = upd (zA M2 15) (6 * e + 3) w2 from rfl, upd_ne (by omega), d2, show zA (zsA M1 15 (6 * e + 2) w1) 15 = upd (zA M1 15) (6 * e + 2) w1 from rfl, upd_same]
    have q3 : zA (zsA M2 15 (6 * e + 3) w2) 15 (6 * e + 3) = w2 := by
      rw [show zA (zsA M2 15 (6 * e + 3) w2) 15 = upd (zA M2 15) (6 * e + 3) w2 from rfl, upd_same]
    by_cases p3 : w1 + w2 ≤ nI 0
    · rw [hX', if_pos p3] at b3
      simp (disch := omega) only [evM, fM_readNumbers, fM_readNumbers_b131, fM_readNumbers_b150, fM_readNumbers_b197, fM_readNumbers_b286, li0, li1, li2, li3, li4, li5, li6, li7, li8, li9, li10, li12, li13, li14, li16, li20, li21, li22, li23, li26, li30, li32, li40, li48, li50, li57, li59, li97, li99, li100, li122, li128, li180, li320, li500, li999, nI_add, pk_mul, subN, clampN, zg_ix, nlt, nle, neq, zn_eq, bind_s, ↓reduceIte, Nat.reduceAdd, Nat.reduceMul, Nat.reduceSub, Nat.reduceLeDiff, Nat.reduceEqDiff, Nat.add_zero, Nat.zero_add, Nat.reduceLT, Nat.mul_zero, b0, b1, b2, b3, bz, q2, q3, p3]
    · rw [hX', if_neg p3] at b3
      simp (disch := omega) only [evM, fM_readNumbers, fM_readNumbers_b131, fM_readNumbers_b150, fM_readNumbers_b197, fM_readNumbers_b286, li0, li1, li2, li3, li4, li5, li6, li7, li8, li9, li10, li12, li13, li14, li16, li20, li21, li22, li23, li26, li30, li32, li40, li48, li50, li57, li59, li97, li99, li100, li122, li128, li180, li320, li500, li999, nI_add, pk_mul, subN, clampN, zg_ix, nlt, nle, neq, zn_eq, bind_s, ↓reduceIte, Nat.reduceAdd, Nat.reduceMul, Nat.reduceSub, Nat.reduceLeDiff, Nat.reduceEqDiff, Nat.add_zero, Nat.zero_add, Nat.reduceLT, Nat.mul_zero, b0, b1, b2, b3, bz, q2, q3, p3]
  · rw [dz, zA_zsA, if_neg hq, d3, zA_zsA, if_neg hq, d2, zA_zsA, if_neg hq, d1, zA_zsA, if_neg hq, d0, zA_zsA, if_neg hq]
  · rw [zA_o (by omega), zA_o (by omega), zA_o (by omega), zA_o (by omega), zA_o (by omega)]
  · rw [m15, upd_ne (by omega), upd_ne (by omega), upd_ne (by omega), upd_ne (by omega), upd_ne (by omega)]
  · obtain ⟨dd, x0, x1, x2, x3, x4⟩ := g0 (E1.2.2.2.1 z)
    rw [nle (by omega) (by omega)] at x4
    obtain ⟨k1, y1, i1, j1, l1, u1⟩ := g1 (E2.2.2.2.1 z)
    rw [nle (by omega) (by omega)] at u1
    rw [nle (by omega) (by omega)] at l1
    obtain ⟨k2, y2, i2, j2, l2, u2⟩ := g2 (E3.2.2.2.1 z)
    rw [nle (by omega) (by omega)] at u2
    rw [nle (by omega) (by omega)] at l2
    obtain ⟨k3, y3, i3, j3, l3, u3⟩ := g3 (ez.2.2.2.1 z)
    rw [nle (by omega) (by omega)] at u3
    have l3' : k1 = 0 → k2 = 0 → 1 ≤ k3 := by
      intro z1 z2
      rw [hX, i1, i2, z1, z2, if_pos rfl, if_pos rfl, nle (by omega) (by omega)] at l3
      exact l3
    refine ⟨?_, dd, k1, k2, k3, x4, ⟨?_, ?_⟩, ⟨?_, ?_⟩, ⟨?_, ?_⟩, fun kk => ?_, fun kk => ?_, fun kk => ?_, fun kk => ?_, fun kk => ?_, fun kk => ?_, fun kk => ?_, fun kk => ?_, fun kk => ?_⟩
    · show D ≤ upd (zA S 9) e vd e
      rw [upd_same, x1]; exact x3
    · show upd (zA S 8) e _ e = _; rw [upd_same]
    · rw [m15, upd_ne (by omega), upd_ne (by omega), upd_ne (by omega), upd_ne (by omega), upd_same]
    · show upd (zA S 9) e _ e = _; rw [upd_same]; exact x1
    · rw [m15, upd_ne (by omega), upd_ne (by omega), upd_ne (by omega), upd_same, x2]
    · show upd (zA S 10) e _ e = _; rw [upd_same]; exact i1
    · rw [m15, upd_ne (by omega), upd_ne (by omega), upd_same, j1]
    · refine ⟨?_, ?_⟩
      · show upd (zA S 11) e _ e = _; rw [upd_same]; exact i2
      · rw [m15, upd_ne (by omega), upd_same, j2]
    · refine ⟨?_, ?_⟩
      · show upd (zA S 12) e _ e = _; rw [upd_same]; exact i3
      · rw [m15, upd_same, j3]
    · omega
    · omega
    · omega
    · omega
    · omega
    · omega
    · omega
theorem ev_k2 {R M S : zSt} {n l t e : Nat} (D : Int32) (h : RdR R M n) (he : e < 30) (s2 : zI S 2 = nI t) (m13 : zI M 13 = nI t) (s0 : zI S 0 = nI l) (m11 : zI M 11 = nI l) (ht : t ≤ 10) (hl : l ≤ 4) : EvB R M S n l t e 2 D := by
  obtain ⟨vd, wd, R0, M0, a0, b0, c0, d0, e0, g0⟩ := num_sim D (nI 999) D (nI 999) (h.setA 15 (6 * e) (nI 2) (by omega)) (fun _ => ⟨rfl, rfl⟩)
  obtain ⟨v1, w1, R1, M1, a1, b1, c1, d1, e1, g1⟩ := num_sim (nI 0) (nI t - nI 1) (nI 0) (nI t - nI 1) (c0.setA 15 (6 * e + 1) wd (by omega)) (fun _ => ⟨rfl, rfl⟩)
  obtain ⟨v2, w2, R2, M2, a2, b2, c2, d2, e2, g2⟩ := num_sim (nI 0) (nI 2) (nI 0) (nI 2) (c1.setA 15 (6 * e + 2) w1 (by omega)) (fun _ => ⟨rfl, rfl⟩)
  obtain ⟨v3, w3, R3, M3, a3, b3, c3, d3, e3, g3⟩ := num_sim (nI 1) (nI 99) (nI 1) (nI 99) (c2.setA 15 (6 * e + 3) w2 (by omega)) (fun _ => ⟨rfl, rfl⟩)
  obtain ⟨Rz, Mz, az, bz, cz, dz, ez⟩ := semi_sim (c3.setA 15 (6 * e + 4) w3 (by omega))
  have E3 := (e3.setA 15 (6 * e + 4) w3).trans ez
  have E2 := (e2.setA 15 (6 * e + 3) w2).trans E3
  have E1 := (e1.setA 15 (6 * e + 2) w1).trans E2
  have E0 := (e0.setA 15 (6 * e + 1) wd).trans E1
  have m15 : zA Mz 15 = upd (upd (upd (upd (upd (zA M 15) (6 * e) (nI 2)) (6 * e + 1) (wd)) (6 * e + 2) (w1)) (6 * e + 3) (w2)) (6 * e + 4) (w3) := by
    rw [dz, show zA (zsA M3 15 (6 * e + 4) w3) 15 = upd (zA M3 15) (6 * e + 4) w3 from rfl, d3, show zA (zsA M2 15 (6 * e + 3) w2) 15 = upd (zA M2 15) (6 * e + 3) w2 from rfl, d2, show zA (zsA M1 15 (6 * e + 2) w1) 15 = upd (zA M1 15) (6 * e + 2) w1 from rfl, d1, show zA (zsA M0 15 (6 * e + 1) wd) 15 = upd (zA M0 15) (6 * e + 1) wd from rfl, d0]
    rfl
  have m13' : zI M0 13 = nI t := (e0.2.2.1 13 (by omega)).trans m13
  refine ⟨Rz, zsA (zsA (zsA (zsA (zsA S 8 e (nI 2)) 9 e vd) 10 e v1) 11 e v2) 12 e v3, Mz, ?_, ?_, cz, ⟨E0.1, E0.2.1, E0.2.2.1, E0.2.2.2.1, E0.2.2.2.2⟩, fun q hq => ?_, fun _ => rfl, fun q i hq => ?_, fun i hi => ?_, fun z => ?_⟩
  · simp (disch := omega) only [fR_readEvent_b33, fR_readEvent_b169, fR_readEvent_b187, li0, li1, li2, li3, li4, li5, li6, li7, li8, li9, li10, li12, li13, li14, li16, li20, li21, li22, li23, li26, li30, li32, li40, li48, li50, li57, li59, li97, li99, li100, li122, li128, li180, li320, li500, li999, nI_add, pk_mul, subN, clampN, zg_ix, nlt, nle, neq, zn_eq, bind_s, ↓reduceIte, Nat.reduceAdd, Nat.reduceMul, Nat.reduceSub, Nat.reduceLeDiff, Nat.reduceEqDiff, Nat.add_zero, Nat.zero_add, Nat.reduceLT, Nat.mul_zero, zI_zsI, zI_zsAf, zI_zsJ, zI_zsLf, zA_zsI, zA_zsAf, zA_zsJ, zA_zsLf, zJ_zsI, zJ_zsAf, zJ_zsJ, zJ_zsLf, zL_zsI, zL_zsAf, zL_zsJ, zL_zsLf, zI_zsA, zA_zsA, zJ_zsA, zL_zsA, zI_zsL, zA_zsL, zJ_zsL, zL_zsL, zn_eq, s2, s0, a0, a1, a2, a3, az]
  · simp (disch := omega) only [evM, fM_readNumbers, fM_readNumbers_b131, fM_readNumbers_b150, fM_readNumbers_b197, fM_readNumbers_b286, li0, li1, li2, li3, li4, li5, li6, li7, li8, li9, li10, li12, li13, li14, li16, li20, li21, li22, li23, li26, li30, li32, li40, li48, li50, li57, li59, li97, li99, li100, li122, li128, li180, li320, li500, li999, nI_add, pk_mul, subN, clampN, zg_ix, nlt, nle, neq, zn_eq, bind_s, ↓reduceIte, Nat.reduceAdd, Nat.reduceMul, Nat.reduceSub, Nat.reduceLeDiff, Nat.reduceEqDiff, Nat.add_zero, Nat.zero_add, Nat.reduceLT, Nat.mul_zero, zI_zsI, zI_zsAf, zI_zsJ, zI_zsLf, zA_zsI, zA_zsAf, zA_zsJ, zA_zsLf, zJ_zsI, zJ_zsAf, zJ_zsJ, zJ_zsLf, zL_zsI, zL_zsAf, zL_zsJ, zL_zsLf, zI_zsA, zA_zsA, zJ_zsA, zL_zsA, zI_zsL, zA_zsL, zJ_zsL, zL_zsL, zn_eq, m13', b0, b1, b2, b3, bz]
  · rw [dz, zA_zsA, if_neg hq, d3, zA_zsA, if_neg hq, d2, zA_zsA, if_neg hq, d1, zA_zsA, if_neg hq, d0, zA_zsA, if_neg hq]
  · rw [zA_o (by omega), zA_o (by omega), zA_o (by omega), zA_o (by omega), zA_o (by omega)]
  · rw [m15, upd_ne (by omega), upd_ne (by omega), upd_ne (by omega), upd_ne (by omega), upd_ne (by omega)]
  · obtain ⟨dd, x0, x1, x2, x3, x4⟩ := g0 (E1.2.2.2.1 z)
    rw [nle (by omega) (by omega)] at x4
    obtain ⟨k1, y1, i1, j1, l1, u1⟩ := g1 (E2.2.2.2.1 z)
    replace u1 := le_pred u1 y1 (by omega)
    rw [nle (by omega) (by omega)] at l1
    obtain ⟨k2, y2, i2, j2, l2, u2⟩ := g2 (E3.2.2.2.1 z)
    rw [nle (by omega) (by omega)] at u2
    rw [nle (by omega) (by omega)] at l2
    obtain ⟨k3, y3, i3, j3, l3, u3⟩ := g3 (ez.2.2.2.1 z)
    rw [nle (by omega) (by omega)] at u3
    rw [nle (by omega) (by omega)] at l3
    refine ⟨?_, dd, k1, k2, k3, x4, ⟨?_, ?_⟩, ⟨?_, ?_⟩, ⟨?_, ?_⟩, fun kk => ?_, fun kk => ?_, fun kk => ?_, fun kk => ?_, fun kk => ?_, fun kk => ?_, fun kk => ?_, fun kk => ?_, fun kk => ?_⟩
    · show D ≤ upd (zA S 9) e vd e
      rw [upd_same, x1]; exact x3
    · show upd (zA S 8) e _ e = _; rw [upd_same]
    · rw [m15, upd_ne (by omega), upd_ne (by omega), upd_ne (by omega), upd_ne (by omega), upd_same]
    · show upd (zA S 9) e _ e = _; rw [upd_same]; exact x1
    · rw [m15, upd_ne (by omega), upd_ne (by omega), upd_ne (by omega), upd_same, x2]
    · show upd (zA S 10) e _ e = _; rw [upd_same]; exact i1
    · rw [m15, upd_ne (by omega), upd_ne (by omega), upd_same, j1]
    · refine ⟨?_, ?_⟩
      · show upd (zA S 11) e _ e = _; rw [upd_same]; exact i2
      · rw [m15, upd_ne (by omega), upd_same, j2]
    · refine ⟨?_, ?_⟩
      · show upd (zA S 12) e _ e = _; rw [upd_same]; exact i3
      · rw [m15, upd_same, j3]
    · omega
    · omega
    · omega
    · omega
    · omega
    · omega
    · omega
theorem ev_k3 {R M S : zSt} {n l t e : Nat} (D : Int32) (h : RdR R M n) (he : e < 30) (s2 : zI S 2 = nI t) (m13 : zI M 13 = nI t) (s0 : zI S 0 = nI l) (m11 : zI M 11 = nI l) (ht : t ≤ 10) (hl : l ≤ 4) : EvB R M S n l t e 3 D := by
  obtain ⟨vd, wd, R0, M0, a0, b0, c0, d0, e0, g0⟩ := num_sim D (nI 999) D (nI 999) (h.setA 15 (6 * e) (nI 3) (by omega)) (fun _ => ⟨rfl, rfl⟩)
  obtain ⟨v1, w1, R1, M1, a1, b1, c1, d1, e1, g1⟩ := num_sim (nI 0) (nI t - nI 1) (nI 0) (nI t - nI 1) (c0.setA 15 (6 * e + 1) wd (by omega)) (fun _ => ⟨rfl, rfl⟩)
  obtain ⟨v2, w2, R2, M2, a2, b2, c2, d2, e2, g2⟩ := num_sim (nI 0) (nI 99) (nI 0) (nI 99) (c1.setA 15 (6 * e + 2) w1 (by omega)) (fun _ => ⟨rfl, rfl⟩)
  obtain ⟨Rz, Mz, az, bz, cz, dz, ez⟩ := semi_sim ((c2.setA 15 (6 * e + 3) w2 (by omega)).setA 15 (6 * e + 4) (nI 0) (by omega))
  have E2 := ((e2.setA 15 (6 * e + 3) w2).setA 15 (6 * e + 4) (nI 0)).trans ez
  have E1 := (e1.setA 15 (6 * e + 2) w1).trans E2
  have E0 := (e0.setA 15 (6 * e + 1) wd).trans E1
  have m15 : zA Mz 15 = upd (upd (upd (upd (upd (zA M 15) (6 * e) (nI 3)) (6 * e + 1) (wd)) (6 * e + 2) (w1)) (6 * e + 3) (w2)) (6 * e + 4) (nI 0) := by
    rw [dz, show zA (zsA (zsA M2 15 (6 * e + 3) w2) 15 (6 * e + 4) (nI 0)) 15 = upd (upd (zA M2 15) (6 * e + 3) w2) (6 * e + 4) (nI 0) from rfl, d2, show zA (zsA M1 15 (6 * e + 2) w1) 15 = upd (zA M1 15) (6 * e + 2) w1 from rfl, d1, show zA (zsA M0 15 (6 * e + 1) wd) 15 = upd (zA M0 15) (6 * e + 1) wd from rfl, d0]
    rfl
  have m13' : zI M0 13 = nI t := (e0.2.2.1 13 (by omega)).trans m13
  refine ⟨Rz, zsA (zsA (zsA (zsA S 8 e (nI 3)) 9 e vd) 10 e v1) 11 e v2, Mz, ?_, ?_, cz, ⟨E0.1, E0.2.1, E0.2.2.1, E0.2.2.2.1, E0.2.2.2.2⟩, fun q hq => ?_, fun _ => rfl, fun q i hq => ?_, fun i hi => ?_, fun z => ?_⟩
  · simp (disch := omega) only [fR_readEvent_b33, fR_readEvent_b169, fR_readEvent_b187, li0, li1, li2, li3, li4, li5, li6, li7, li8, li9, li10, li12, li13, li14, li16, li20, li21, li22, li23, li26, li30, li32, li40, li48, li50, li57, li59, li97, li99, li100, li122, li128, li180, li320, li500, li999, nI_add, pk_mul, subN, clampN, zg_ix, nlt, nle, neq, zn_eq, bind_s, ↓reduceIte, Nat.reduceAdd, Nat.reduceMul, Nat.reduceSub, Nat.reduceLeDiff, Nat.reduceEqDiff, Nat.add_zero, Nat.zero_add, Nat.reduceLT, Nat.mul_zero, zI_zsI, zI_zsAf, zI_zsJ, zI_zsLf, zA_zsI, zA_zsAf, zA_zsJ, zA_zsLf, zJ_zsI, zJ_zsAf, zJ_zsJ, zJ_zsLf, zL_zsI, zL_zsAf, zL_zsJ, zL_zsLf, zI_zsA, zA_zsA, zJ_zsA, zL_zsA, zI_zsL, zA_zsL, zJ_zsL, zL_zsL, zn_eq, s2, s0, a0, a1, a2, az]
  · simp (disch := omega) only [evM, fM_readNumbers, fM_readNumbers_b131, fM_readNumbers_b150, fM_readNumbers_b197, fM_readNumbers_b286, li0, li1, li2, li3, li4, li5, li6, li7, li8, li9, li10, li12, li13, li14, li16, li20, li21, li22, li23, li26, li30, li32, li40, li48, li50, li57, li59, li97, li99, li100, li122, li128, li180, li320, li500, li999, nI_add, pk_mul, subN, clampN, zg_ix, nlt, nle, neq, zn_eq, bind_s, ↓reduceIte, Nat.reduceAdd, Nat.reduceMul, Nat.reduceSub, Nat.reduceLeDiff, Nat.reduceEqDiff, Nat.add_zero, Nat.zero_add, Nat.reduceLT, Nat.mul_zero, zI_zsI, zI_zsAf, zI_zsJ, zI_zsLf, zA_zsI, zA_zsAf, zA_zsJ, zA_zsLf, zJ_zsI, zJ_zsAf, zJ_zsJ, zJ_zsLf, zL_zsI, zL_zsAf, zL_zsJ, zL_zsLf, zI_zsA, zA_zsA, zJ_zsA, zL_zsA, zI_zsL, zA_zsL, zJ_zsL, zL_zsL, zn_eq, m13', b0, b1, b2, bz]
  · rw [dz, zA_zsA, if_neg hq, zA_zsA, if_neg hq, d2, zA_zsA, if_neg hq, d1, zA_zsA, if_neg hq, d0, zA_zsA, if_neg hq]
  · rw [zA_o (by omega), zA_o (by omega), zA_o (by omega), zA_o (by omega)]
  · rw [m15, upd_ne (by omega), upd_ne (by omega), upd_ne (by omega), upd_ne (by omega), upd_ne (by omega)]
  · obtain ⟨dd, x0, x1, x2, x3, x4⟩ := g0 (E1.2.2.2.1 z)
    rw [nle (by omega) (by omega)] at x4
    obtain ⟨k1, y1, i1, j1, l1, u1⟩ := g1 (E2.2.2.2.1 z)
    replace u1 := le_pred u1 y1 (by omega)
    rw [nle (by omega) (by omega)] at l1
    obtain ⟨k2, y2, i2, j2, l2, u2⟩ := g2 (ez.2.2.2.1 z)
    rw [nle (by omega) (by omega)] at u2
    rw [nle (by omega) (by omega)] at l2
    refine ⟨?_, dd, k1, k2, 0, x4, ⟨?_, ?_⟩, ⟨?_, ?_⟩, ⟨?_, ?_⟩, fun kk => ?_, fun kk => ?_, fun kk => ?_, fun kk => ?_, fun kk => ?_, fun kk => ?_, fun kk => ?_, fun kk => ?_, fun kk => ?_⟩
    · show D ≤ upd (zA S 9) e vd e
      rw [upd_same, x1]; exact x3
    · show upd (zA S 8) e _ e = _; rw [upd_same]
    · rw [m15, upd_ne (by omega), upd_ne (by omega), upd_ne (by omega), upd_ne (by omega), upd_same]
    · show upd (zA S 9) e _ e = _; rw [upd_same]; exact x1
    · rw [m15, upd_ne (by omega), upd_ne (by omega), upd_ne (by omega), upd_same, x2]
    · show upd (zA S 10) e _ e = _; rw [upd_same]; exact i1
    · rw [m15, upd_ne (by omega), upd_ne (by omega), upd_same, j1]
    · refine ⟨?_, ?_⟩
      · show upd (zA S 11) e _ e = _; rw [upd_same]; exact i2
      · rw [m15, upd_ne (by omega), upd_same, j2]
    · omega
    · omega
    · omega
    · omega
    · omega
    · omega
    · omega
    · omega
theorem ev_k4 {R M S : zSt} {n l t e : Nat} (D : Int32) (h : RdR R M n) (he : e < 30) (s2 : zI S 2 = nI t) (m13 : zI M 13 = nI t) (s0 : zI S 0 = nI l) (m11 : zI M 11 = nI l) (ht : t ≤ 10) (hl : l ≤ 4) : EvB R M S n l t e 4 D := by
  obtain ⟨vd, wd, R0, M0, a0, b0, c0, d0, e0, g0⟩ := num_sim D (nI 999) D (nI 999) (h.setA 15 (6 * e) (nI 4) (by omega)) (fun _ => ⟨rfl, rfl⟩)
  obtain ⟨v1, w1, R1, M1, a1, b1, c1, d1, e1, g1⟩ := num_sim (nI 0) (nI 2) (nI 0) (nI 2) (c0.setA 15 (6 * e + 1) wd (by omega)) (fun _ => ⟨rfl, rfl⟩)
  obtain ⟨v2, w2, R2, M2, a2, b2, c2, d2, e2, g2⟩ := num_sim (nI 1) (nI 99) (nI 1) (nI 99) (c1.setA 15 (6 * e + 2) w1 (by omega)) (fun _ => ⟨rfl, rfl⟩)
  obtain ⟨Rz, Mz, az, bz, cz, dz, ez⟩ := semi_sim (c2.setA 15 (6 * e + 3) w2 (by omega))
  have E2 := (e2.setA 15 (6 * e + 3) w2).trans ez
  have E1 := (e1.setA 15 (6 * e + 2) w1).trans E2
  have E0 := (e0.setA 15 (6 * e + 1) wd).trans E1
  have m15 : zA Mz 15 = upd (upd (upd (upd (zA M 15) (6 * e) (nI 4)) (6 * e + 1) (wd)) (6 * e + 2) (w1)) (6 * e + 3) (w2) := by
    rw [dz, show zA (zsA M2 15 (6 * e + 3) w2) 15 = upd (zA M2 15) (6 * e + 3) w2 from rfl, d2, show zA (zsA M1 15 (6 * e + 2) w1) 15 = upd (zA M1 15) (6 * e + 2) w1 from rfl, d1, show zA (zsA M0 15 (6 * e + 1) wd) 15 = upd (zA M0 15) (6 * e + 1) wd from rfl, d0]
    rfl
  refine ⟨Rz, zsA (zsA (zsA (zsA S 8 e (nI 4)) 9 e vd) 10 e v1) 11 e v2, Mz, ?_, ?_, cz, ⟨E0.1, E0.2.1, E0.2.2.1, E0.2.2.2.1, E0.2.2.2.2⟩, fun q hq => ?_, fun _ => rfl, fun q i hq => ?_, fun i hi => ?_, fun z => ?_⟩
  · simp (disch := omega) only [fR_readEvent_b33, fR_readEvent_b169, fR_readEvent_b187, li0, li1, li2, li3, li4, li5, li6, li7, li8, li9, li10, li12, li13, li14, li16, li20, li21, li22, li23, li26, li30, li32, li40, li48, li50, li57, li59, li97, li99, li100, li122, li128, li180, li320, li500, li999, nI_add, pk_mul, subN, clampN, zg_ix, nlt, nle, neq, zn_eq, bind_s, ↓reduceIte, Nat.reduceAdd, Nat.reduceMul, Nat.reduceSub, Nat.reduceLeDiff, Nat.reduceEqDiff, Nat.add_zero, Nat.zero_add, Nat.reduceLT, Nat.mul_zero, zI_zsI, zI_zsAf, zI_zsJ, zI_zsLf, zA_zsI, zA_zsAf, zA_zsJ, zA_zsLf, zJ_zsI, zJ_zsAf, zJ_zsJ, zJ_zsLf, zL_zsI, zL_zsAf, zL_zsJ, zL_zsLf, zI_zsA, zA_zsA, zJ_zsA, zL_zsA, zI_zsL, zA_zsL, zJ_zsL, zL_zsL, zn_eq, s2, s0, a0, a1, a2, az]
  · simp (disch := omega) only [evM, fM_readNumbers, fM_readNumbers_b131, fM_readNumbers_b150, fM_readNumbers_b197, fM_readNumbers_b286, li0, li1, li2, li3, li4, li5, li6, li7, li8, li9, li10, li12, li13, li14, li16, li20, li21, li22, li23, li26, li30, li32, li40, li48, li50, li57, li59, li97, li99, li100, li122, li128, li180, li320, li500, li999, nI_add, pk_mul, subN, clampN, zg_ix, nlt, nle, neq, zn_eq, bind_s, ↓reduceIte, Nat.reduceAdd, Nat.reduceMul, Nat.reduceSub, Nat.reduceLeDiff, Nat.reduceEqDiff, Nat.add_zero, Nat.zero_add, Nat.reduceLT, Nat.mul_zero, zI_zsI, zI_zsAf, zI_zsJ, zI_zsLf, zA_zsI, zA_zsAf, zA_zsJ, zA_zsLf, zJ_zsI, zJ_zsAf, zJ_zsJ, zJ_zsLf, zL_zsI, zL_zsAf, zL_zsJ, zL_zsLf, zI_zsA, zA_zsA, zJ_zsA, zL_zsA, zI_zsL, zA_zsL, zJ_zsL, zL_zsL, zn_eq, b0, b1, b2, bz]
  · rw [dz, zA_zsA, if_neg hq, d2, zA_zsA, if_neg hq, d1, zA_zsA, if_neg hq, d0, zA_zsA, if_neg hq]
  · rw [zA_o (by omega), zA_o (by omega), zA_o (by omega), zA_o (by omega)]
  · rw [m15, upd_ne (by omega), upd_ne (by omega), upd_ne (by omega), upd_ne (by omega)]
  · obtain ⟨dd, x0, x1, x2, x3, x4⟩ := g0 (E1.2.2.2.1 z)
    rw [nle (by omega) (by omega)] at x4
    obtain ⟨k1, y1, i1, j1, l1, u1⟩ := g1 (E2.2.2.2.1 z)
    rw [nle (by omega) (by omega)] at u1
    rw [nle (by omega) (by omega)] at l1
    obtain ⟨k2, y2, i2, j2, l2, u2⟩ := g2 (ez.2.2.2.1 z)
    rw [nle (by omega) (by omega)] at u2
    rw [nle (by omega) (by omega)] at l2
    refine ⟨?_, dd, k1, k2, 0, x4, ⟨?_, ?_⟩, ⟨?_, ?_⟩, ⟨?_, ?_⟩, fun kk => ?_, fun kk => ?_, fun kk => ?_, fun kk => ?_, fun kk => ?_, fun kk => ?_, fun kk => ?_, fun kk => ?_, fun kk => ?_⟩
    · show D ≤ upd (zA S 9) e vd e
      rw [upd_same, x1]; exact x3
    · show upd (zA S 8) e _ e = _; rw [upd_same]
    · rw [m15, upd_ne (by omega), upd_ne (by omega), upd_ne (by omega), upd_same]
    · show upd (zA S 9) e _ e = _; rw [upd_same]; exact x1
    · rw [m15, upd_ne (by omega), upd_ne (by omega), upd_same, x2]
    · show upd (zA S 10) e _ e = _; rw [upd_same]; exact i1
    · rw [m15, upd_ne (by omega), upd_same, j1]
    · refine ⟨?_, ?_⟩
      · show upd (zA S 11) e _ e = _; rw [upd_same]; exact i2
      · rw [m15, upd_same, j2]
    · omega
    · omega
    · omega
    · omega
    · omega
    · omega
    · omega
    · omega
theorem ev_k5 {R M S : zSt} {n l t e : Nat} (D : Int32) (h : RdR R M n) (he : e < 30) (s2 : zI S 2 = nI t) (m13 : zI M 13 = nI t) (s0 : zI S 0 = nI l) (m11 : zI M 11 = nI l) (ht : t ≤ 10) (hl : l ≤ 4) : EvB R M S n l t e 5 D := by
  obtain ⟨vd, wd, R0, M0, a0, b0, c0, d0, e0, g0⟩ := num_sim D (nI 999) D (nI 999) (h.setA 15 (6 * e) (nI 5) (by omega)) (fun _ => ⟨rfl, rfl⟩)
  obtain ⟨v1, w1, R1, M1, a1, b1, c1, d1, e1, g1⟩ := num_sim (nI 0) (nI l - nI 1) (nI 0) (nI l - nI 1) (c0.setA 15 (6 * e + 1) wd (by omega)) (fun _ => ⟨rfl, rfl⟩)
  obtain ⟨Rz, Mz, az, bz, cz, dz, ez⟩ := semi_sim ((c1.setA 15 (6 * e + 2) w1 (by omega)).setA 15 (6 * e + 3) (nI 0) (by omega))
  have E1 := ((e1.setA 15 (6 * e + 2) w1).setA 15 (6 * e + 3) (nI 0)).trans ez
  have E0 := (e0.setA 15 (6 * e + 1) wd).trans E1
  have m15 : zA Mz 15 = upd (upd (upd (upd (zA M 15) (6 * e) (nI 5)) (6 * e + 1) (wd)) (6 * e + 2) (w1)) (6 * e + 3) (nI 0) := by
    rw [dz, show zA (zsA (zsA M1 15 (6 * e + 2) w1) 15 (6 * e + 3) (nI 0)) 15 = upd (upd (zA M1 15) (6 * e + 2) w1) (6 * e + 3) (nI 0) from rfl, d1, show zA (zsA M0 15 (6 * e + 1) wd) 15 = upd (zA M0 15) (6 * e + 1) wd from rfl, d0]
    rfl
  have m11' : zI M0 11 = nI l := (e0.2.2.1 11 (by omega)).trans m11
  refine ⟨Rz, zsA (zsA (zsA S 8 e (nI 5)) 9 e vd) 10 e v1, Mz, ?_, ?_, cz, ⟨E0.1, E0.2.1, E0.2.2.1, E0.2.2.2.1, E0.2.2.2.2⟩, fun q hq => ?_, fun _ => rfl, fun q i hq => ?_, fun i hi => ?_, fun z => ?_⟩
  · simp (disch := omega) only [fR_readEvent_b33, fR_readEvent_b169, fR_readEvent_b187, li0, li1, li2, li3, li4, li5, li6, li7, li8, li9, li10, li12, li13, li14, li16, li20, li21, li22, li23, li26, li30, li32, li40, li48, li50, li57, li59, li97, li99, li100, li122, li128, li180, li320, li500, li999, nI_add, pk_mul, subN, clampN, zg_ix, nlt, nle, neq, zn_eq, bind_s, ↓reduceIte, Nat.reduceAdd, Nat.reduceMul, Nat.reduceSub, Nat.reduceLeDiff, Nat.reduceEqDiff, Nat.add_zero, Nat.zero_add, Nat.reduceLT, Nat.mul_zero, zI_zsI, zI_zsAf, zI_zsJ, zI_zsLf, zA_zsI, zA_zsAf, zA_zsJ, zA_zsLf, zJ_zsI, zJ_zsAf, zJ_zsJ, zJ_zsLf, zL_zsI, zL_zsAf, zL_zsJ, zL_zsLf, zI_zsA, zA_zsA, zJ_zsA, zL_zsA, zI_zsL, zA_zsL, zJ_zsL, zL_zsL, zn_eq, s2, s0, a0, a1, az]
  · simp (disch := omega) only [evM, fM_readNumbers, fM_readNumbers_b131, fM_readNumbers_b150, fM_readNumbers_b197, fM_readNumbers_b286, li0, li1, li2, li3, li4, li5, li6, li7, li8, li9, li10, li12, li13, li14, li16, li20, li21, li22, li23, li26, li30, li32, li40, li48, li50, li57, li59, li97, li99, li100, li122, li128, li180, li320, li500, li999, nI_add, pk_mul, subN, clampN, zg_ix, nlt, nle, neq, zn_eq, bind_s, ↓reduceIte, Nat.reduceAdd, Nat.reduceMul, Nat.reduceSub, Nat.reduceLeDiff, Nat.reduceEqDiff, Nat.add_zero, Nat.zero_add, Nat.reduceLT, Nat.mul_zero, zI_zsI, zI_zsAf, zI_zsJ, zI_zsLf, zA_zsI, zA_zsAf, zA_zsJ, zA_zsLf, zJ_zsI, zJ_zsAf, zJ_zsJ, zJ_zsLf, zL_zsI, zL_zsAf, zL_zsJ, zL_zsLf, zI_zsA, zA_zsA, zJ_zsA, zL_zsA, zI_zsL, zA_zsL, zJ_zsL, zL_zsL, zn_eq, m11', b0, b1, bz]
  · rw [dz, zA_zsA, if_neg hq, zA_zsA, if_neg hq, d1, zA_zsA, if_neg hq, d0, zA_zsA, if_neg hq]
  · rw [zA_o (by omega), zA_o (by omega), zA_o (by omega)]
  · rw [m15, upd_ne (by omega), upd_ne (by omega), upd_ne (by omega), upd_ne (by omega)]
  · obtain ⟨dd, x0, x1, x2, x3, x4⟩ := g0 (E1.2.2.2.1 z)
    rw [nle (by omega) (by omega)] at x4
    obtain ⟨k1, y1, i1, j1, l1, u1⟩ := g1 (ez.2.2.2.1 z)
    replace u1 := le_pred u1 y1 (by omega)
    rw [nle (by omega) (by omega)] at l1
    refine ⟨?_, dd, k1, 0, 0, x4, ⟨?_, ?_⟩, ⟨?_, ?_⟩, ⟨?_, ?_⟩, fun kk => ?_, fun kk => ?_, fun kk => ?_, fun kk => ?_, fun kk => ?_, fun kk => ?_, fun kk => ?_, fun kk => ?_, fun kk => ?_⟩
    · show D ≤ upd (zA S 9) e vd e
      rw [upd_same, x1]; exact x3
    · show upd (zA S 8) e _ e = _; rw [upd_same]
    · rw [m15, upd_ne (by omega), upd_ne (by omega), upd_ne (by omega), upd_same]
    · show upd (zA S 9) e _ e = _; rw [upd_same]; exact x1
    · rw [m15, upd_ne (by omega), upd_ne (by omega), upd_same, x2]
    · show upd (zA S 10) e _ e = _; rw [upd_same]; exact i1
    · rw [m15, upd_ne (by omega), upd_same, j1]
    · exact absurd rfl kk
    · omega
    · omega
    · omega
    · omega
    · omega
    · omega
    · omega
    · omega
theorem ev_k6 {R M S : zSt} {n l t e : Nat} (D : Int32) (h : RdR R M n) (he : e < 30) (s2 : zI S 2 = nI t) (m13 : zI M 13 = nI t) (s0 : zI S 0 = nI l) (m11 : zI M 11 = nI l) (ht : t ≤ 10) (hl : l ≤ 4) : EvB R M S n l t e 6 D := by
  obtain ⟨vd, wd, R0, M0, a0, b0, c0, d0, e0, g0⟩ := num_sim D (nI 999) D (nI 999) (h.setA 15 (6 * e) (nI 6) (by omega)) (fun _ => ⟨rfl, rfl⟩)
  obtain ⟨v1, w1, R1, M1, a1, b1, c1, d1, e1, g1⟩ := num_sim (nI 0) (nI 4) (nI 0) (nI 4) (c0.setA 15 (6 * e + 1) wd (by omega)) (fun _ => ⟨rfl, rfl⟩)
  obtain ⟨v2, w2, R2, M2, a2, b2, c2, d2, e2, g2⟩ := num_sim (nI 0) (nI 2) (nI 0) (nI 2) (c1.setA 15 (6 * e + 2) w1 (by omega)) (fun _ => ⟨rfl, rfl⟩)
  obtain ⟨Rz, Mz, az, bz, cz, dz, ez⟩ := semi_sim (c2.setA 15 (6 * e + 3) w2 (by omega))
  have E2 := (e2.setA 15 (6 * e + 3) w2).trans ez
  have E1 := (e1.setA 15 (6 * e + 2) w1).trans E2
  have E0 := (e0.setA 15 (6 * e + 1) wd).trans E1
  have m15 : zA Mz 15 = upd (upd (upd (upd (zA M 15) (6 * e) (nI 6)) (6 * e + 1) (wd)) (6 * e + 2) (w1)) (6 * e + 3) (w2) := by
    rw [dz, show zA (zsA M2 15 (6 * e + 3) w2) 15 = upd (zA M2 15) (6 * e + 3) w2 from rfl, d2, show zA (zsA M1 15 (6 * e + 2) w1) 15 = upd (zA M1 15) (6 * e + 2) w1 from rfl, d1, show zA (zsA M0 15 (6 * e + 1) wd) 15 = upd (zA M0 15) (6 * e + 1) wd from rfl, d0]
    rfl
  refine ⟨Rz, zsA (zsA (zsA (zsA S 8 e (nI 6)) 9 e vd) 10 e v1) 11 e v2, Mz, ?_, ?_, cz, ⟨E0.1, E0.2.1, E0.2.2.1, E0.2.2.2.1, E0.2.2.2.2⟩, fun q hq => ?_, fun _ => rfl, fun q i hq => ?_, fun i hi => ?_, fun z => ?_⟩
  · simp (disch := omega) only [fR_readEvent_b33, fR_readEvent_b169, fR_readEvent_b187, li0, li1, li2, li3, li4, li5, li6, li7, li8, li9, li10, li12, li13, li14, li16, li20, li21, li22, li23, li26, li30, li32, li40, li48, li50, li57, li59, li97, li99, li100, li122, li128, li180, li320, li500, li999, nI_add, pk_mul, subN, clampN, zg_ix, nlt, nle, neq, zn_eq, bind_s, ↓reduceIte, Nat.reduceAdd, Nat.reduceMul, Nat.reduceSub, Nat.reduceLeDiff, Nat.reduceEqDiff, Nat.add_zero, Nat.zero_add, Nat.reduceLT, Nat.mul_zero, zI_zsI, zI_zsAf, zI_zsJ, zI_zsLf, zA_zsI, zA_zsAf, zA_zsJ, zA_zsLf, zJ_zsI, zJ_zsAf, zJ_zsJ, zJ_zsLf, zL_zsI, zL_zsAf, zL_zsJ, zL_zsLf, zI_zsA, zA_zsA, zJ_zsA, zL_zsA, zI_zsL, zA_zsL, zJ_zsL, zL_zsL, zn_eq, s2, s0, a0, a1, a2, az]
  · simp (disch := omega) only [evM, fM_readNumbers, fM_readNumbers_b131, fM_readNumbers_b150, fM_readNumbers_b197, fM_readNumbers_b286, li0, li1, li2, li3, li4, li5, li6, li7, li8, li9, li10, li12, li13, li14, li16, li20, li21, li22, li23, li26, li30, li32, li40, li48, li50, li57, li59, li97, li99, li100, li122, li128, li180, li320, li500, li999, nI_add, pk_mul, subN, clampN, zg_ix, nlt, nle, neq, zn_eq, bind_s, ↓reduceIte, Nat.reduceAdd, Nat.reduceMul, Nat.reduceSub, Nat.reduceLeDiff, Nat.reduceEqDiff, Nat.add_zero, Nat.zero_add, Nat.reduceLT, Nat.mul_zero, zI_zsI, zI_zsAf, zI_zsJ, zI_zsLf, zA_zsI, zA_zsAf, zA_zsJ, zA_zsLf, zJ_zsI, zJ_zsAf, zJ_zsJ, zJ_zsLf, zL_zsI, zL_zsAf, zL_zsJ, zL_zsLf, zI_zsA, zA_zsA, zJ_zsA, zL_zsA, zI_zsL, zA_zsL, zJ_zsL, zL_zsL, zn_eq, b0, b1, b2, bz]
  · rw [dz, zA_zsA, if_neg hq, d2, zA_zsA, if_neg hq, d1, zA_zsA, if_neg hq, d0, zA_zsA, if_neg hq]
  · rw [zA_o (by omega), zA_o (by omega), zA_o (by omega), zA_o (by omega)]
  · rw [m15, upd_ne (by omega), upd_ne (by omega), upd_ne (by omega), upd_ne (by omega)]
  · obtain ⟨dd, x0, x1, x2, x3, x4⟩ := g0 (E1.2.2.2.1 z)
    rw [nle (by omega) (by omega)] at x4
    obtain ⟨k1, y1, i1, j1, l1, u1⟩ := g1 (E2.2.2.2.1 z)
    rw [nle (by omega) (by omega)] at u1
    rw [nle (by omega) (by omega)] at l1
    obtain ⟨k2, y2, i2, j2, l2, u2⟩ := g2 (ez.2.2.2.1 z)
    rw [nle (by omega) (by omega)] at u2
    rw [nle (by omega) (by omega)] at l2
    refine ⟨?_, dd, k1, k2, 0, x4, ⟨?_, ?_⟩, ⟨?_, ?_⟩, ⟨?_, ?_⟩, fun kk => ?_, fun kk => ?_, fun kk => ?_, fun kk => ?_, fun kk => ?_, fun kk => ?_, fun kk => ?_, fun kk => ?_, fun kk => ?_⟩
    · show D ≤ upd (zA S 9) e vd e
      rw [upd_same, x1]; exact x3
    · show upd (zA S 8) e _ e = _; rw [upd_same]
    · rw [m15, upd_ne (by omega), upd_ne (by omega), upd_ne (by omega), upd_same]
    · show upd (zA S 9) e _ e = _; rw [upd_same]; exact x1
    · rw [m15, upd_ne (by omega), upd_ne (by omega), upd_same, x2]
    · show upd (zA S 10) e _ e = _; rw [upd_same]; exact i1
    · rw [m15, upd_ne (by omega), upd_same, j1]
    · refine ⟨?_, ?_⟩
      · show upd (zA S 11) e _ e = _; rw [upd_same]; exact i2
      · rw [m15, upd_same, j2]
    · omega
    · omega
    · omega
    · omega
    · omega
    · omega
    · omega
    · omega
theorem ev_body {k : Nat} {R M S : zSt} {n l t e : Nat} (D : Int32) (h : RdR R M n) (he : e < 30) (s2 : zI S 2 = nI t) (m13 : zI M 13 = nI t) (s0 : zI S 0 = nI l) (m11 : zI M 11 = nI l) (ht : t ≤ 10) (hl : l ≤ 4) (hk : k ≤ 6) : EvB R M S n l t e k D := by
  have k7 : k = 0 ∨ k = 1 ∨ k = 2 ∨ k = 3 ∨ k = 4 ∨ k = 5 ∨ k = 6 := by omega
  rcases k7 with rfl | rfl | rfl | rfl | rfl | rfl | rfl
  · exact ev_k0 D h he s2 m13 s0 m11 ht hl
  · exact ev_k1 D h he s2 m13 s0 m11 ht hl
  · exact ev_k2 D h he s2 m13 s0 m11 ht hl
  · exact ev_k3 D h he s2 m13 s0 m11 ht hl
  · exact ev_k4 D h he s2 m13 s0 m11 ht hl
  · exact ev_k5 D h he s2 m13 s0 m11 ht hl
  · exact ev_k6 D h he s2 m13 s0 m11 ht hl
