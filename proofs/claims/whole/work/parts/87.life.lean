/-! CALLS: feed, life -/
theorem fdX_s (n : Nat) (X R : zSt) (w : Int64) (x : Int32) : fX_feed_l39 (n + 1) X R w x = fX_feed_l39b (fun v0 v1 v2 v3 => fX_feed_l39 n v0 v1 v2 v3) X R w x := rfl
theorem fdM_s (n : Nat) (M : zSt) (w : Int64) (x : Int32) : fM_feed_l42 (n + 1) M w x = fM_feed_l42b (fun v0 v1 v2 => fM_feed_l42 n v0 v1 v2) M w x := rfl
def FdK (R R' M M' : zSt) : Prop := (∃ n, TpR R' M' n ∧ zI M' 17 = nI n) ∧ (∀ k, k ≠ 0 → k ≠ 17 → zI M' k = zI M k) ∧ (∀ k, k ≠ 16 → zA M' k = zA M k)
theorem feed_run {X : zSt} {n : Nat} (hn : n < 2 ^ 64) : ∀ (d f f' t : Nat) (R M : zSt), d ≤ 8 → t + d ≤ 500 → d < f → d < f' → TpR R M t → zI M 17 = nI t → ∃ v R' M', fX_feed_l39 f X R (lN n) (nI d + (-1)) = some (v, R') ∧ fM_feed_l42 f' M (lN n) (nI d + (-1)) = some (v, M') ∧ TpR R' M' (t + d) ∧ zI M' 17 = nI (t + d) ∧ (∀ k, k ≠ 17 → zI M' k = zI M k) ∧ (∀ k, k ≠ 16 → zA M' k = zA M k) := by
  intro d
  induction d with
  | zero =>
    intro f f' t R M hd ht hf hf' hT m17
    obtain ⟨m, rfl⟩ : ∃ m, f = m + 1 := ⟨f - 1, by omega⟩
    obtain ⟨m', rfl⟩ : ∃ m, f' = m + 1 := ⟨f' - 1, by omega⟩
    refine ⟨(nI t).toInt64, R, M, ?_, ?_, hT, m17, fun _ _ => rfl, fun _ _ => rfl⟩
    · rw [fdX_s]
      unfold fX_feed_l39b
      rw [if_pos (by decide), hT.1]
    · rw [fdM_s]
      unfold fM_feed_l42b
      rw [if_pos (by decide), m17]
  | succ d ih =>
    intro f f' t R M hd ht hf hf' hT m17
    obtain ⟨m, rfl⟩ : ∃ m, f = m + 1 := ⟨f - 1, by omega⟩
    obtain ⟨m', rfl⟩ : ∃ m, f' = m + 1 := ⟨f' - 1, by omega⟩
    have hb := fd_by hn (show d < 8 by omega)
    obtain ⟨xa, hxa⟩ : ∃ xa, xa = (((lN n).toUInt64 >>> ((nI (8 * d)).toInt64.toUInt64 &&& Int64.toUInt64 63)).toInt64.toInt32).toInt8.toInt32 := ⟨_, rfl⟩
    obtain ⟨xb, hxb⟩ : ∃ xb, xb = ((lN n >>> ((nI (8 * d)).toInt64 &&& 63)) &&& 255).toInt32 := ⟨_, rfl⟩
    rw [← hxa, ← hxb] at hb
    have hT1 : TpR (zsI (zsA R 0 t xa) 1 (nI (t + 1))) (zsI (zsA M 16 t xb) 17 (nI (t + 1))) (t + 1) := by
      refine ⟨rfl, by omega, fun k hk => ?_⟩
      show ByR (upd (zA R 0) t xa k) (upd (zA M 16) t xb k)
      by_cases z : k = t
      · subst z; rw [upd_same, upd_same]; exact hb
      · rw [upd_ne z, upd_ne z]; exact hT.2.2 k (by omega)
    obtain ⟨v, R', M', a1, a2, a3, a4, a5, a6⟩ := ih m m' (t + 1) (zsI (zsA R 0 t xa) 1 (nI (t + 1))) (zsI (zsA M 16 t xb) 17 (nI (t + 1))) (by omega) (by omega) (by omega) (by omega) hT1 rfl
    have r1 := hT.1
    refine ⟨v, R', M', ?_, ?_, by rw [show t + (d + 1) = t + 1 + d from by omega]; exact a3, by rw [show t + (d + 1) = t + 1 + d from by omega]; exact a4, fun k hk => ?_, fun k hk => ?_⟩
    · rw [← a1, fdX_s, pk_m1]
      unfold fX_feed_l39b fR_append
      rw [if_neg (nI_pos (by omega)), li8, pk_mul, ← hxa, r1, if_neg (by rw [li500, nle (by omega) (by omega)]; omega), zg_ix (by omega) (by omega), clampN (by omega)]
      have e : vp_nar .byte xa = xa := by rw [hxa]; exact pk_vb _
      rw [e, zn_eq, zn_eq, bind_s, zn_eq]
      show fX_feed_l39 m X (zsI (zsA R 0 t xa) 1 (zI R 1 + 1)) (lN n) (nI d + (-1)) = _
      rw [r1, nI_1]
    · rw [← a2, fdM_s, pk_m1]
      unfold fM_feed_l42b
      rw [if_neg (nI_pos (by omega)), li8, pk_mul, ← hxb, m17, zg_ix (by omega) (by omega), clampN (by omega), zn_eq, zn_eq, zn_eq]
      show fM_feed_l42 m' (zsI (zsA M 16 t xb) 17 (zI M 17 + 1)) (lN n) (nI d + (-1)) = _
      rw [m17, nI_1]
    · rw [a5 k hk]
      simp only [zI_zsI, zI_zsAf, zI_zsJ, zI_zsLf, zA_zsI, zA_zsAf, zA_zsJ, zA_zsLf, zJ_zsI, zJ_zsAf, zJ_zsJ, zJ_zsLf, zL_zsI, zL_zsAf, zL_zsJ, zL_zsLf, zI_zsA, zA_zsA, zJ_zsA, zL_zsA, zI_zsL, zA_zsL, zJ_zsL, zL_zsL, zn_eq]
      rw [if_neg hk]
    · rw [a6 k hk]
      simp only [zI_zsI, zI_zsAf, zI_zsJ, zI_zsLf, zA_zsI, zA_zsAf, zA_zsJ, zA_zsLf, zJ_zsI, zJ_zsAf, zJ_zsJ, zJ_zsLf, zL_zsI, zL_zsAf, zL_zsJ, zL_zsLf, zI_zsA, zA_zsA, zJ_zsA, zL_zsA, zI_zsL, zA_zsL, zJ_zsL, zL_zsL, zn_eq]
      rw [if_neg hk]
theorem FdK.R {X R R' T M M' : zSt} (g : FdK R R' M M') (h : InvR X R T M) : InvR X R' T M' := by
  obtain ⟨h1, h2, h3, _, ⟨m, m1, m2, m3, m4⟩⟩ := h
  obtain ⟨g1, g5, g6⟩ := g
  exact ⟨h1.congr rfl rfl rfl (g6 2 (by omega)) (g6 3 (by omega)) (g6 4 (by omega)), by rw [g5 1 (by omega) (by omega)]; exact h2, by rw [g5 18 (by omega) (by omega)]; exact h3, g1, ⟨m, m1, m2, by rw [g5 54 (by omega) (by omega)]; exact m3, by rw [g6 53 (by omega)]; exact m4⟩⟩
theorem FdK.L {X S C U R R' M M' : zSt} (g : FdK R R' M M') (h : InvL X S C U M) : InvL X S C U M' := by
  obtain ⟨_, g5, g6⟩ := g
  exact h.keepX rfl (fun k hk => g5 k (by omega) (by omega)) (g6 9 (by omega)) (g6 10 (by omega))
theorem c_feed {X R T M : zSt} (w : Int64) (a : Int32) (hR : InvR X R T M) : ∃ v R' M', fX_feed X R w a = some (v, R') ∧ fM_feed M w a = some (v, M') ∧ FdK R R' M M' := by
  obtain ⟨n, hn, rfl⟩ := wb_of w
  obtain ⟨_, _, _, ⟨t, hT, m17⟩, _⟩ := hR
  have hT0 : TpR R (zsI M 0 0) t := hT
  have m17' : zI (zsI M 0 0) 17 = nI t := m17
  have f0 : FdK R R M (zsI M 0 0) := ⟨⟨t, hT, m17⟩, fun k hk _ => by simp only [zI_zsI]; rw [if_neg hk], fun _ _ => rfl⟩
  have t5 := hT.2.1
  have eI : fM_in a.toInt64 1 8 = some (decide (1 ≤ a.toInt ∧ a.toInt ≤ 8)) := by
    rw [fM_in_int]
    rfl
  have x1 : (a < 1) = (a.toInt < 1) := propext (by rw [Int32.lt_iff_toInt_lt]; exact Iff.rfl)
  have x8 : (a ≤ 8) = (a.toInt ≤ 8) := propext (by rw [Int32.le_iff_toInt_le]; exact Iff.rfl)
  by_cases z : 1 ≤ a.toInt ∧ a.toInt ≤ 8
  · have n1 : ¬ a < 1 := by rw [x1]; omega
    have n8 : a ≤ 8 := by rw [x8]; omega
    obtain ⟨d, hd, rfl⟩ := rng_nI (show rng a 9 from ⟨by omega, by omega⟩)
    rw [nI_int (by omega)] at z
    have eX : fX_feed X R (lN n) (nI d) = if nI (t + d) ≤ 500 then fX_feed_l39 zF X R (lN n) (nI d + (-1)) else some (-9000000000000000003, R) := by
      unfold fX_feed
      obtain ⟨d', rfl⟩ : ∃ d', d = d' + 1 := ⟨d - 1, by omega⟩
      rw [if_neg n1, if_pos n8, hT.1, nI_add, zn_eq, pk_m1, li1, pk_sub (by omega), Nat.add_sub_cancel]
    have eM : fM_feed M (lN n) (nI d) = if nI (t + d) ≤ 500 then fM_feed_l42 zF (zsI M 0 0) (lN n) (nI d + (-1)) else some (-9000000000000000003, zsI M 0 0) := by
      unfold fM_feed
      obtain ⟨d', rfl⟩ : ∃ d', d = d' + 1 := ⟨d - 1, by omega⟩
      rw [zn_eq, eI, bind_s, ite_dt (by rw [nI_int (by omega)]; exact z), m17', nI_add, zn_eq, pk_m1, li1, pk_sub (by omega), Nat.add_sub_cancel]
    rw [eX, eM]
    by_cases y : nI (t + d) ≤ 500
    · rw [if_pos y, if_pos y]
      rw [li500, nle (by omega) (by omega)] at y
      obtain ⟨v, R', M', a1, a2, a3, a4, a5, a6⟩ := feed_run (X := X) hn d zF zF t R (zsI M 0 0) (by omega) y (by unfold zF; omega) (by unfold zF; omega) hT0 m17'
      refine ⟨v, R', M', a1, a2, ⟨t + d, a3, a4⟩, fun k h1 h2 => ?_, fun k hk => a6 k hk⟩
      rw [a5 k h2]
      simp only [zI_zsI]
      rw [if_neg h1]
    · rw [if_neg y, if_neg y]
      exact ⟨_, _, _, rfl, rfl, f0⟩
  · refine ⟨-9000000000000000001, R, zsI M 0 0, ?_, ?_, f0⟩
    · unfold fX_feed
      by_cases h1 : a < 1
      · rw [if_pos h1]
      · rw [if_neg h1, if_neg]
        rw [x1] at h1
        rw [x8]
        omega
    · unfold fM_feed
      rw [zn_eq, eI, bind_s, ite_df z]
/-! life -/
theorem lf199_s (n : Nat) (M : zSt) (x : Int32) : fM_life_l199 (n + 1) M x = fM_life_l199b (fun v0 v1 => fM_life_l199 n v0 v1) M x := rfl
theorem lf172_s (n : Nat) (M : zSt) (x : Int32) : fM_life_l172 (n + 1) M x = fM_life_l172b (fun v0 v1 => fM_life_l172 n v0 v1) M x := rfl
theorem lf199_run : ∀ (d j f : Nat) (M : zSt), j + d = 32 → d < f → ∃ M', fM_life_l199 f M (nI j) = some ((zI M 7).toInt64, M') ∧ (∀ k, zI M' k = zI M k) ∧ (∀ k, k ≠ 9 → zA M' k = zA M k) ∧ (∀ i, i < 32 → zA M' 9 i = if j ≤ i then zA M 14 i else zA M 9 i) := by
  intro d
  induction d with
  | zero =>
    intro j f M hj hf
    obtain ⟨m, rfl⟩ : ∃ m, f = m + 1 := ⟨f - 1, by omega⟩
    have : j = 32 := by omega
    subst this
    refine ⟨M, ?_, fun _ => rfl, fun _ _ => rfl, fun i hi => by rw [if_neg (by omega)]⟩
    rw [lf199_s]
    unfold fM_life_l199b
    rw [if_pos (by decide)]
  | succ d ih =>
    intro j f M hj hf
    obtain ⟨m, rfl⟩ : ∃ m, f = m + 1 := ⟨f - 1, by omega⟩
    obtain ⟨M', a1, a2, a3, a4⟩ := ih (j + 1) m (zsA M 9 j (zA M 14 j)) (by omega) (by omega)
    refine ⟨M', ?_, a2, fun k hk => ?_, fun i hi => ?_⟩
    · have a1' : fM_life_l199 m (zsA M 9 j (zA M 14 j)) (nI (j + 1)) = some ((zI M 7).toInt64, M') := a1
      rw [← a1', lf199_s]
      unfold fM_life_l199b
      rw [if_neg (by rw [li32, nle (by omega) (by omega)]; omega), zg_ix (by omega) (by omega), zg_ix (by omega) (by omega), clampN (by omega), zn_eq, zn_eq, nI_1]
    · rw [a3 k hk, zA_zsA, if_neg hk]
    · rw [a4 i hi]
      show (if j + 1 ≤ i then zA M 14 i else upd (zA M 9) j (zA M 14 j) i) = _
      by_cases z : i = j
      · subst z
        rw [if_neg (by omega), if_pos (by omega), upd_same]
      · rw [upd_ne z]
        by_cases y : j + 1 ≤ i
        · rw [if_pos y, if_pos (by omega)]
        · rw [if_neg y, if_neg (by omega)]
theorem lf172_run : ∀ (d j f : Nat) (M : zSt), j + d = 180 → d < f → ∃ M', fM_life_l172 f M (nI j) = some ((zI M 7).toInt64, M') ∧ (∀ k, zI M' k = zI M k) ∧ (∀ k, k ≠ 9 → k ≠ 10 → zA M' k = zA M k) ∧ (∀ i, i < 32 → zA M' 9 i = zA M 14 i) ∧ (∀ i, i < 180 → zA M' 10 i = if j ≤ i then zA M 15 i else zA M 10 i) := by
  intro d
  induction d with
  | zero =>
    intro j f M hj hf
    obtain ⟨m, rfl⟩ : ∃ m, f = m + 1 := ⟨f - 1, by omega⟩
    have : j = 180 := by omega
    subst this
    obtain ⟨M', a1, a2, a3, a4⟩ := lf199_run 32 0 zF M (by omega) (by unfold zF; omega)
    refine ⟨M', ?_, a2, fun k h1 h2 => a3 k h1, fun i hi => ?_, fun i hi => ?_⟩
    · rw [← a1, lf172_s]
      unfold fM_life_l172b
      rw [if_pos (by decide)]
      rfl
    · rw [a4 i hi, if_pos (by omega)]
    · rw [if_neg (by omega), a3 10 (by omega)]
  | succ d ih =>
    intro j f M hj hf
    obtain ⟨m, rfl⟩ : ∃ m, f = m + 1 := ⟨f - 1, by omega⟩
    obtain ⟨M', a1, a2, a3, a4, a5⟩ := ih (j + 1) m (zsA M 10 j (zA M 15 j)) (by omega) (by omega)
    refine ⟨M', ?_, a2, fun k h1 h2 => ?_, fun i hi => a4 i hi, fun i hi => ?_⟩
    · have a1' : fM_life_l172 m (zsA M 10 j (zA M 15 j)) (nI (j + 1)) = some ((zI M 7).toInt64, M') := a1
      rw [← a1', lf172_s]
      unfold fM_life_l172b
      rw [if_neg (by rw [li180, nle (by omega) (by omega)]; omega), zg_ix (by omega) (by omega), zg_ix (by omega) (by omega), clampN (by omega), zn_eq, zn_eq, nI_1]
    · rw [a3 k h1 h2, zA_zsA, if_neg h2]
    · rw [a5 i hi]
      show (if j + 1 ≤ i then zA M 15 i else upd (zA M 10) j (zA M 15 j) i) = _
      by_cases z : i = j
      · subst z
        rw [if_neg (by omega), if_pos (by omega), upd_same]
      · rw [upd_ne z]
        by_cases y : j + 1 ≤ i
        · rw [if_pos y, if_pos (by omega)]
        · rw [if_neg y, if_neg (by omega)]
theorem c_life {X R S C U T M : zSt} (P : zSt) (hR : InvR X R T M) (hL : InvL X S C U M) : ∃ v X' R' S' P' C' U' M', fX_life X R S P C U = some (v, X', R', S', P', C', U') ∧ fM_life M = some (v, M') ∧ InvR X' R' T M' ∧ InvL X' S' C' U' M' := by
  obtain ⟨h1, h2, h3, ⟨n, hT, m17⟩, ⟨m, m1, m2, m3, m4⟩⟩ := hR
  obtain ⟨R', P', M', a1, a2, a3, a4, a5, a6, a7⟩ := read_sim P hT m17
  rcases a3 with ⟨r2, m24, l, e, t, hl, hN⟩ | ⟨k, s, k1, k2, k3, r2, m24, r3, m25⟩
  · have r2' : zI R' 2 = 0 := r2
    have hN' := hN
    obtain ⟨⟨s0, m11⟩, hl4, ⟨s1, m12⟩, he, ⟨s2, m13⟩, htt, ht10, hLw, hEv, hday⟩ := hN'
    obtain ⟨Ma, hMa⟩ : ∃ Ma, Ma = zsI (zsI (zsI (zsI M' 5 (nI 1)) 6 (nI l)) 7 (nI e)) 8 (nI t) := ⟨_, rfl⟩
    obtain ⟨Mb, b1, b2, b3, b4, b5⟩ := lf172_run 180 0 zF Ma (by omega) (by unfold zF; omega)
    have i5 : zI Mb 5 = nI 1 := by rw [b2, hMa]; rfl
    have i6 : zI Mb 6 = nI l := by rw [b2, hMa]; rfl
    have i7 : zI Mb 7 = nI e := by rw [b2, hMa]; rfl
    have i8 : zI Mb 8 = nI t := by rw [b2, hMa]; rfl
    have a14 : zA Ma 14 = zA M' 14 := by rw [hMa]; rfl
    have a15 : zA Ma 15 = zA M' 15 := by rw [hMa]; rfl
    have hS : StR P' Mb l e t := by
      refine ⟨⟨s0, i6⟩, hl4, ⟨s1, i7⟩, he, ⟨s2, i8⟩, htt, ht10, fun i hi => ?_, fun i hi => ?_, hday⟩
      · refine LawR.keep (hLw i hi) (fun _ _ _ => rfl) (fun j hj => ?_)
        rw [b4 j (by omega), a14]
      · refine EvR.keep (hEv i hi) (by omega : i < 30) (fun _ _ _ => rfl) (fun j hj => ?_)
        rw [b5 j (by omega), if_pos (by omega), a15]
    obtain ⟨C0, C', Mc, c1, c2, c3, c4, c5⟩ := run_all C hS hl
    obtain ⟨o, D, U', M2, d1, d2, d3, d4⟩ := run_sums U (hS.mf c5) c4
    have keepI : ∀ k, k ≠ 5 → k ≠ 6 → k ≠ 7 → k ≠ 8 → zI Mb k = zI M' k := by
      intro k w1 w2 w3 w4
      rw [b2, hMa]
      simp only [zI_zsI]
      rw [if_neg w4, if_neg w3, if_neg w2, if_neg w1]
    have keepA : ∀ k, k ≠ 9 → k ≠ 10 → k ≠ 14 → k ≠ 15 → zA Mb k = zA M k := by
      intro k w1 w2 w3 w4
      rw [b3 k w1 w2, hMa]
      exact a6 k w3 w4
    refine ⟨(nI e).toInt64, zsI X 6 1, R', P', S, C', U', Mb, ?_, ?_, ⟨?_, ?_, ?_, ⟨0, ⟨a4, by omega, fun k hk => by omega⟩, ?_⟩, ⟨m, m1, m2, ?_, ?_⟩⟩, Or.inr ⟨l, e, t, ⟨rfl, i5⟩, hl, hS, C, C0, U, c1, c2, d1⟩⟩
    · unfold fX_life
      rw [a1, bind_s, if_pos r2', zn_eq, c1, bind_s, s1, li0, c2, bind_s, d1, bind_s]
    · rw [a2]
      unfold fM_life_b116
      rw [m24, if_pos (by decide), zn_eq, zn_eq, zn_eq, zn_eq]
      have e0 : zI Ma 7 = nI e := by rw [hMa]; rfl
      rw [e0] at b1
      have eS : zsI (zsI (zsI (zsI M' 5 1) 6 (zI (zsI M' 5 1) 11)) 7 (zI (zsI (zsI M' 5 1) 6 (zI (zsI M' 5 1) 11)) 12)) 8 (zI (zsI (zsI (zsI M' 5 1) 6 (zI (zsI M' 5 1) 11)) 7 (zI (zsI (zsI M' 5 1) 6 (zI (zsI M' 5 1) 11)) 12)) 13) = Ma := by
        have q1 : zI (zsI M' 5 1) 11 = nI l := m11
        have q2 : zI (zsI (zsI M' 5 1) 6 (nI l)) 12 = nI e := m12
        have q3 : zI (zsI (zsI (zsI M' 5 1) 6 (nI l)) 7 (nI e)) 13 = nI t := m13
        rw [q1, q2, q3, hMa, li1]
      rw [eS, li0]
      exact b1
    · exact h1.congr rfl rfl rfl (keepA 2 (by omega) (by omega) (by omega) (by omega)) (keepA 3 (by omega) (by omega) (by omega) (by omega)) (keepA 4 (by omega) (by omega) (by omega) (by omega))
    · show zI X 3 = _
      rw [keepI 1 (by omega) (by omega) (by omega) (by omega), a7 1 (by omega)]
      exact h2
    · show zI X 5 = _
      rw [keepI 18 (by omega) (by omega) (by omega) (by omega), a7 18 (by omega)]
      exact h3
    · rw [keepI 17 (by omega) (by omega) (by omega) (by omega)]
      exact a5
    · rw [keepI 54 (by omega) (by omega) (by omega) (by omega), a7 54 (by omega)]
      exact m3
    · rw [keepA 53 (by omega) (by omega) (by omega) (by omega)]
      exact m4
  · have r2' : ¬ zI R' 2 = 0 := by rw [r2, li0, neq (by omega) (by omega)]; omega
    refine ⟨-9000000000000000100 - (nI s).toInt64, zsI X 5 (nI k), R', S, P', C, U, zsI M' 18 (nI k), ?_, ?_, ⟨?_, ?_, rfl, ⟨0, ⟨a4, by omega, fun k hk => by omega⟩, a5⟩, ⟨m, m1, m2, ?_, ?_⟩⟩, ?_⟩
    · unfold fX_life
      rw [a1, bind_s, if_neg r2', zn_eq, r2, r3]
    · rw [a2]
      unfold fM_life_b116
      rw [m24, if_neg (by rw [li0, nle (by omega) (by omega)]; omega), zn_eq]
      show some (-9000000000000000100 - (zI M' 25).toInt64, _) = _
      rw [m25]
    · exact h1.congr rfl rfl rfl (a6 2 (by omega) (by omega)) (a6 3 (by omega) (by omega)) (a6 4 (by omega) (by omega))
    · show zI X 3 = zI M' 1
      rw [a7 1 (by omega)]
      exact h2
    · show zI M' 54 = _
      rw [a7 54 (by omega)]
      exact m3
    · show ∀ i, i < m → zA T 0 i = zA M' 53 i
      rw [a6 53 (by omega) (by omega)]
      exact m4
    · refine hL.keepX rfl (fun q hq => ?_) (a6 9 (by omega) (by omega)) (a6 10 (by omega) (by omega))
      simp only [zI_zsI]
      rw [if_neg (by omega)]
      exact a7 q (by omega)
