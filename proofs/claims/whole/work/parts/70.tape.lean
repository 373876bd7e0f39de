/-! READER: bytes, tokens, steps on both sides -/
def ByR (a b : Int32) : Prop := ∃ c : Nat, c < 256 ∧ b = nI c ∧ ((c < 128 ∧ a = nI c) ∨ (128 ≤ c ∧ a < 0))
def TpR (R M : zSt) (n : Nat) : Prop := zI R 1 = nI n ∧ n ≤ 500 ∧ ∀ k, k < n → ByR (zA R 0 k) (zA M 16 k)
def bt (M : zSt) (k : Nat) : Nat := (zA M 16 k).toNatClampNeg
def dv (M : zSt) (s : Nat) : Nat → Nat
  | 0 => 0
  | m + 1 => 10 * dv M s m + (bt M (s + m) - 48)
def Ch (R M : zSt) (lo hi k : Nat) : Prop := ∃ c, lo ≤ c ∧ c ≤ hi ∧ zA R 0 k = nI c ∧ zA M 16 k = nI c
def TkR (R M : zSt) (n s h : Nat) : Prop := (zI R 5 = nI s ∧ zI M 22 = nI s) ∧ (zI R 6 = nI h ∧ zI M 23 = nI h ∧ zI M 20 = nI h) ∧ s ≤ h ∧ h ≤ n ∧ ((zI R 4 = nI 0 ∧ zI M 21 = nI 1) ∨ (zI R 4 = nI 1 ∧ zI M 21 = nI 2 ∧ ∀ k, s ≤ k → k < h → Ch R M 97 122 k) ∨ (zI R 4 = nI 2 ∧ zI M 21 = nI 3 ∧ h ≤ s + 3 ∧ (∀ k, s ≤ k → k < h → Ch R M 48 57 k) ∧ zI R 7 = nI (dv M s (h - s))) ∨ (zI R 4 = nI 3 ∧ zI M 21 = nI 4) ∨ (zI R 4 = nI 4 ∧ zI M 21 = nI 0))
def RK (R R' : zSt) : Prop := (∀ k, zA R' k = zA R k) ∧ (∀ k, k ≠ 4 → k ≠ 5 → k ≠ 6 → k ≠ 7 → zI R' k = zI R k)
def MK (M M' : zSt) : Prop := (∀ k, zA M' k = zA M k) ∧ (∀ k, k ≠ 20 → k ≠ 21 → k ≠ 22 → k ≠ 23 → zI M' k = zI M k)
theorem zsI_self {s : zSt} {k : Nat} {v : Int32} (h : zI s k = v) : zsI s k v = s := zst_ext (fun j => by
  simp only [zI_zsI]
  by_cases z : j = k
  · subst z; rw [if_pos rfl, h]
  · rw [if_neg z]) (fun _ _ => rfl) (fun _ => rfl) (fun _ _ => rfl)
def nx1 (sM : zSt) : Option zSt := zn (zsI sM 22 (zI sM 20)) fun sM4 => Option.bind (fM_byteAt sM4 (zI sM4 20)) fun y5 => if y5 = (-1000000) then (zn (zsI sM4 21 1) fun sM21 => fM_next_b196 sM21) else (Option.bind (fM_isLetter y5) fun y6 => if y6 = true then (fM_next_l77 zF sM4) else (Option.bind (fM_isFigure y5) fun y7 => if y7 = true then (fM_next_l119 zF sM4) else (zn (zsI sM4 20 ((zI sM4 20) + 1)) fun sM8 => if y5 = 59 then (zn (zsI sM8 21 4) fun sM11 => fM_next_b196 sM11) else (zn (zsI sM8 21 0) fun sM9 => fM_next_b196 sM9))))
theorem nx0_u (n : Nat) (M : zSt) : fM_next_l0 (n + 1) M = Option.bind (fM_byteAt M (zI M 20)) fun y1 => if y1 = 32 then fM_next_l0 n (zsI M 20 (zI M 20 + 1)) else Option.bind (fM_byteAt M (zI M 20)) fun y3 => if y3 = 10 then fM_next_l0 n (zsI M 20 (zI M 20 + 1)) else nx1 M := rfl
theorem l16_u (n : Nat) (R : zSt) : fR_step_l16 (n + 1) R = if zI R 1 ≤ zI R 5 then fR_step_b68 R else zg (zix (zI R 5) 500) <| if zA R 0 (zI R 5).toNatClampNeg = 32 then fR_step_l16 n (zsI R 5 (zI R 5 + 1)) else zg (zix (zI R 5) 500) <| if zA R 0 (zI R 5).toNatClampNeg = 10 then fR_step_l16 n (zsI R 5 (zI R 5 + 1)) else fR_step_b68 R := rfl
theorem byteAt_end {M : zSt} {n j : Nat} (hn : n ≤ 500) (h19 : zI M 19 = nI n) (hj : n ≤ j) (hj2 : j ≤ 500) : fM_byteAt M (nI j) = some (-1000000) := by
  simp (disch := omega) only [fM_byteAt, li0, li1, li2, li3, li4, li5, li6, li7, li8, li9, li10, li12, li13, li14, li16, li20, li21, li22, li23, li26, li30, li32, li40, li48, li50, li57, li59, li97, li99, li100, li122, li128, li180, li320, li500, li999, nI_add, pk_mul, subN, clampN, zg_ix, nlt, nle, neq, zn_eq, bind_s, ↓reduceIte, Nat.reduceAdd, Nat.reduceMul, Nat.reduceSub, Nat.reduceLeDiff, Nat.reduceEqDiff, Nat.add_zero, Nat.zero_add, Nat.reduceLT, Nat.mul_zero, h19, hj]
theorem byteAt_in {M : zSt} {n j : Nat} (hn : n ≤ 500) (h19 : zI M 19 = nI n) (hj : j < n) : fM_byteAt M (nI j) = some (zA M 16 j) := by
  have h : ¬ n ≤ j := by omega
  simp (disch := omega) only [fM_byteAt, li0, li1, li2, li3, li4, li5, li6, li7, li8, li9, li10, li12, li13, li14, li16, li20, li21, li22, li23, li26, li30, li32, li40, li48, li50, li57, li59, li97, li99, li100, li122, li128, li180, li320, li500, li999, nI_add, pk_mul, subN, clampN, zg_ix, nlt, nle, neq, zn_eq, bind_s, ↓reduceIte, Nat.reduceAdd, Nat.reduceMul, Nat.reduceSub, Nat.reduceLeDiff, Nat.reduceEqDiff, Nat.add_zero, Nat.zero_add, Nat.reduceLT, Nat.mul_zero, h19, h]
theorem neg_ne {a : Int32} {k : Nat} (h : a < 0) (hk : k < 2 ^ 31) : ¬ a = nI k := by
  intro e
  rw [e] at h
  exact nI_pos hk h
theorem neg_lt {a : Int32} {k : Nat} (h : a < 0) (hk : k < 2 ^ 31) : a < nI k := by
  have h1 := Int32.lt_iff_toInt_lt.mp h
  refine Int32.lt_iff_toInt_lt.mpr ?_
  rw [nI_int hk]
  have h2 : a.toInt < 0 := by simpa using h1
  omega
theorem skip_sim {n : Nat} : ∀ (d j f f' : Nat) (R M : zSt), j + d = n → d < f → d < f' → TpR R M n → zI M 19 = nI n → zI R 5 = nI j → zI M 20 = nI j → ∃ s, j ≤ s ∧ s ≤ n ∧ fR_step_l16 f R = fR_step_b68 (zsI R 5 (nI s)) ∧ fM_next_l0 f' M = nx1 (zsI M 20 (nI s)) := by
  have q1 : ¬ (-1000000 : Int32) = nI 32 := by decide
  have q2 : ¬ (-1000000 : Int32) = nI 10 := by decide
  intro d
  induction d with
  | zero =>
    intro j f f' R M hd hf hf' hT h19 r5 m20
    obtain ⟨m, rfl⟩ : ∃ m, f = m + 1 := ⟨f - 1, by omega⟩
    obtain ⟨m', rfl⟩ : ∃ m, f' = m + 1 := ⟨f' - 1, by omega⟩
    obtain ⟨r1, hn, hb⟩ := hT
    have hj : n ≤ j := by omega
    refine ⟨j, Nat.le_refl _, by omega, ?_, ?_⟩
    · rw [zsI_self r5, l16_u, r1, r5, if_pos (nI_le hj (by omega))]
    · rw [zsI_self m20, nx0_u, m20, byteAt_end hn h19 hj (by omega), bind_s, li32, if_neg q1, bind_s, li10, if_neg q2]
  | succ d ih =>
    intro j f f' R M hd hf hf' hT h19 r5 m20
    obtain ⟨m, rfl⟩ : ∃ m, f = m + 1 := ⟨f - 1, by omega⟩
    obtain ⟨m', rfl⟩ : ∃ m, f' = m + 1 := ⟨f' - 1, by omega⟩
    have hT' := hT
    obtain ⟨r1, hn, hb⟩ := hT'
    have hj : j < n := by omega
    obtain ⟨s, s1, s2, s3, s4⟩ := ih (j + 1) m m' (zsI R 5 (nI (j + 1))) (zsI M 20 (nI (j + 1))) (by omega) (by omega) (by omega) hT h19 rfl rfl
    rw [zsI_twice] at s3 s4
    rw [l16_u, nx0_u, r1, r5, m20, byteAt_in hn h19 hj, if_neg (nI_ge hj (by omega)), zg_ix (by omega) (by omega), clampN (by omega), bind_s, zg_ix (by omega) (by omega), bind_s, li32, li10, nI_1]
    obtain ⟨c, hc, e2, e1⟩ := hb j hj
    rw [e2]
    rcases e1 with ⟨h1, e1⟩ | ⟨h1, e1⟩
    · rw [e1]
      by_cases z : c = 32
      · rw [z, if_pos rfl, if_pos rfl]
        exact ⟨s, by omega, s2, s3, s4⟩
      · have z' : ¬ nI c = nI 32 := by rw [neq (by omega) (by omega)]; exact z
        rw [if_neg z', if_neg z']
        by_cases y : c = 10
        · rw [y, if_pos rfl, if_pos rfl]
          exact ⟨s, by omega, s2, s3, s4⟩
        · have y' : ¬ nI c = nI 10 := by rw [neq (by omega) (by omega)]; exact y
          rw [if_neg y', if_neg y']
          exact ⟨j, Nat.le_refl _, by omega, by rw [zsI_self r5], by rw [zsI_self m20]⟩
    · have z' : ¬ nI c = nI 32 := by rw [neq (by omega) (by omega)]; omega
      have y' : ¬ nI c = nI 10 := by rw [neq (by omega) (by omega)]; omega
      rw [if_neg z', if_neg y', if_neg (neg_ne e1 (by omega)), if_neg (neg_ne e1 (by omega))]
      exact ⟨j, Nat.le_refl _, by omega, by rw [zsI_self r5], by rw [zsI_self m20]⟩
theorem run3_s (n : Nat) (R : zSt) (x y z : Int32) : fR_behindRun_l3 (n + 1) R x y z = fR_behindRun_l3b (fun v0 v1 v2 v3 => fR_behindRun_l3 n v0 v1 v2 v3) R x y z := rfl
theorem n77_u (n : Nat) (M : zSt) : fM_next_l77 (n + 1) M = Option.bind (fM_byteAt M (zI M 20)) fun y17 => Option.bind (fM_isLetter y17) fun y18 => if y18 = true then fM_next_l77 n (zsI M 20 (zI M 20 + 1)) else fM_next_b196 (zsI M 21 2) := rfl
theorem n119_u (n : Nat) (M : zSt) : fM_next_l119 (n + 1) M = Option.bind (fM_byteAt M (zI M 20)) fun y12 => Option.bind (fM_isFigure y12) fun y13 => if y13 = true then fM_next_l119 n (zsI M 20 (zI M 20 + 1)) else (if zI M 20 - zI M 22 ≤ 3 then fM_next_b196 (zsI M 21 3) else fM_next_b196 (zsI M 21 0)) := rfl
theorem isLet_eq (x : Int32) : fM_isLetter x = some (decide (nI 97 ≤ x ∧ x ≤ nI 122)) := by
  unfold fM_isLetter
  rw [li97, li122]
  by_cases h : x < nI 97
  · rw [if_pos h]
    have : ¬ (nI 97 ≤ x ∧ x ≤ nI 122) := fun z => absurd h (Int32.not_lt.mpr z.1)
    simp [this]
  · rw [if_neg h]
    by_cases g : nI 122 < x
    · rw [if_pos g]
      have : ¬ (nI 97 ≤ x ∧ x ≤ nI 122) := fun z => absurd g (Int32.not_lt.mpr z.2)
      simp [this]
    · rw [if_neg g]
      have : nI 97 ≤ x ∧ x ≤ nI 122 := ⟨Int32.not_lt.mp h, Int32.not_lt.mp g⟩
      simp [this]
theorem isFig_eq (x : Int32) : fM_isFigure x = some (decide (nI 48 ≤ x ∧ x ≤ nI 57)) := by
  unfold fM_isFigure
  rw [li48, li57]
  by_cases h : x < nI 48
  · rw [if_pos h]
    have : ¬ (nI 48 ≤ x ∧ x ≤ nI 57) := fun z => absurd h (Int32.not_lt.mpr z.1)
    simp [this]
  · rw [if_neg h]
    by_cases g : nI 57 < x
    · rw [if_pos g]
      have : ¬ (nI 48 ≤ x ∧ x ≤ nI 57) := fun z => absurd g (Int32.not_lt.mpr z.2)
      simp [this]
    · rw [if_neg g]
      have : nI 48 ≤ x ∧ x ≤ nI 57 := ⟨Int32.not_lt.mp h, Int32.not_lt.mp g⟩
      simp [this]
/-- how far a run of letters, or of figures, goes; K is the reference's loop -/
theorem run_sim {n lo hi : Nat} (hlh : 1 ≤ lo ∧ lo ≤ hi ∧ hi < 128) (K : Nat → zSt → Option zSt) (E : zSt → Option zSt) (R : zSt) (hK1 : ∀ m M j x, fM_byteAt M (nI j) = some x → zI M 20 = nI j → (nI lo ≤ x ∧ x ≤ nI hi) → K (m + 1) M = K m (zsI M 20 (nI (j + 1)))) (hK0 : ∀ m M j x, fM_byteAt M (nI j) = some x → zI M 20 = nI j → ¬ (nI lo ≤ x ∧ x ≤ nI hi) → K (m + 1) M = E M) : ∀ (d j f f' : Nat) (M : zSt), j + d = n → d < f → d < f' → TpR R M n → zI M 19 = nI n → zI M 20 = nI j → ∃ h, j ≤ h ∧ h ≤ n ∧ fR_behindRun_l3 f R (nI lo) (nI hi) (nI j) = some (nI h) ∧ K f' M = E (zsI M 20 (nI h)) ∧ (∀ k, j ≤ k → k < h → Ch R M lo hi k) ∧ (∀ c, (j < n ∧ lo ≤ c ∧ c ≤ hi ∧ zA M 16 j = nI c) → j < h) := by
  intro d
  induction d with
  | zero =>
    intro j f f' M hd hf hf' hT h19 m20
    obtain ⟨m, rfl⟩ : ∃ m, f = m + 1 := ⟨f - 1, by omega⟩
    obtain ⟨m', rfl⟩ : ∃ m, f' = m + 1 := ⟨f' - 1, by omega⟩
    obtain ⟨r1, hn, hb⟩ := hT
    have hj : n ≤ j := by omega
    have hq : ¬ (nI lo ≤ (-1000000 : Int32) ∧ (-1000000 : Int32) ≤ nI hi) := by
      intro z
      have z1 := Int32.le_iff_toInt_le.mp z.1
      rw [nI_int (by omega)] at z1
      have z2 : (-1000000 : Int32).toInt = -1000000 := by decide
      omega
    refine ⟨j, Nat.le_refl _, by omega, ?_, ?_, fun k a b => by omega, fun c hc => by omega⟩
    · rw [run3_s]
      unfold fR_behindRun_l3b
      rw [r1, if_pos (nI_le hj (by omega))]
    · rw [zsI_self m20]
      exact hK0 m' M j _ (byteAt_end hn h19 hj (by omega)) m20 hq
  | succ d ih =>
    intro j f f' M hd hf hf' hT h19 m20
    obtain ⟨m, rfl⟩ : ∃ m, f = m + 1 := ⟨f - 1, by omega⟩
    obtain ⟨m', rfl⟩ : ∃ m, f' = m + 1 := ⟨f' - 1, by omega⟩
    have hT' := hT
    obtain ⟨r1, hn, hb⟩ := hT'
    have hj : j < n := by omega
    obtain ⟨h, s1, s2, s3, s4, s5, s6⟩ := ih (j + 1) m m' (zsI M 20 (nI (j + 1))) (by omega) (by omega) (by omega) hT h19 rfl
    rw [zsI_twice] at s4
    obtain ⟨c, hc, e2, e1⟩ := hb j hj
    have hx := byteAt_in hn h19 hj
    rw [e2] at hx
    have hR : fR_behindRun_l3 (m + 1) R (nI lo) (nI hi) (nI j) = if zA R 0 j < nI lo then some (nI j) else if nI hi < zA R 0 j then some (nI j) else fR_behindRun_l3 m R (nI lo) (nI hi) (nI (j + 1)) := by
      rw [run3_s]
      unfold fR_behindRun_l3b
      rw [r1, if_neg (nI_ge hj (by omega)), zg_ix (by omega) (by omega), clampN (by omega), zg_ix (by omega) (by omega), zn_eq, nI_1]
    rw [hR]
    rcases e1 with ⟨h1, e1⟩ | ⟨h1, e1⟩
    · rw [e1]
      by_cases z : lo ≤ c ∧ c ≤ hi
      · rw [if_neg (by rw [nlt (by omega) (by omega)]; omega), if_neg (by rw [nlt (by omega) (by omega)]; omega)]
        refine ⟨h, by omega, s2, s3, ?_, fun k a b => ?_, fun _ _ => by omega⟩
        · rw [hK1 m' M j _ hx m20 ⟨nI_le z.1 (by omega), nI_le z.2 (by omega)⟩]
          exact s4
        · by_cases y : k = j
          · subst y
            exact ⟨c, z.1, z.2, e1, e2⟩
          · exact s5 k (by omega) b
      · refine ⟨j, Nat.le_refl _, by omega, ?_, ?_, fun k a b => by omega, fun c' hc' => ?_⟩
        · by_cases y : c < lo
          · rw [if_pos (by rw [nlt (by omega) (by omega)]; exact y)]
          · rw [if_neg (by rw [nlt (by omega) (by omega)]; exact y), if_pos (by rw [nlt (by omega) (by omega)]; omega)]
        · rw [zsI_self m20]
          refine hK0 m' M j _ hx m20 (fun q => z ?_)
          rw [nle (by omega) (by omega), nle (by omega) (by omega)] at q
          exact q
        · obtain ⟨q1, q2, q3, q4⟩ := hc'
          rw [e2, neq (by omega) (by omega)] at q4
          omega
    · rw [if_pos (neg_lt e1 (by omega))]
      refine ⟨j, Nat.le_refl _, by omega, rfl, ?_, fun k a b => by omega, fun c' hc' => ?_⟩
      · rw [zsI_self m20]
        refine hK0 m' M j _ hx m20 (fun q => ?_)
        rw [nle (by omega) (by omega), nle (by omega) (by omega)] at q
        omega
      · obtain ⟨q1, q2, q3, q4⟩ := hc'
        rw [e2, neq (by omega) (by omega)] at q4
        omega
