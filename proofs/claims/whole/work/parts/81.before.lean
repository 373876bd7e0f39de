/-! CALLS: beforehand; kinds -/
theorem bf55_s (K : zSt → zSt → zSt → zSt → zSt → Int32 → Int32 → Int32 → Option (Int64 × zSt × zSt)) (n : Nat) (X S U D V : zSt) (x1 x2 x3 x4 : Int32) : fX_beforehand_l55 K (n + 1) X S U D V x1 x2 x3 x4 = fX_beforehand_l55b K (fun v0 v1 v2 v3 v4 v5 v6 v7 v8 => fX_beforehand_l55 K n v0 v1 v2 v3 v4 v5 v6 v7 v8) X S U D V x1 x2 x3 x4 := rfl
theorem bf47_s (n : Nat) (X S U D V : zSt) (x1 x2 x3 : Int32) : fX_beforehand_l47 (n + 1) X S U D V x1 x2 x3 = fX_beforehand_l47b (fun v0 v1 v2 v3 v4 v5 v6 v7 => fX_beforehand_l47 n v0 v1 v2 v3 v4 v5 v6 v7) X S U D V x1 x2 x3 := rfl
theorem bf65_s (n : Nat) (M : zSt) (x1 x2 x3 : Int32) : fM_beforehand_l65 (n + 1) M x1 x2 x3 = fM_beforehand_l65b (fun v0 v1 v2 v3 => fM_beforehand_l65 n v0 v1 v2 v3) M x1 x2 x3 := rfl
theorem bf1 {X S U D V M : zSt} {l e t w p k : Nat} (K : zSt → zSt → zSt → zSt → zSt → Int32 → Int32 → Int32 → Option (Int64 × zSt × zSt)) (a b : Int32) (f f' p' k' : Nat) (hl : 1 ≤ l) (hS : StR S M l e t) (hw : w < 5) (hp : p < 3) (hk : k = 3 * w + p) (hp' : p' = p + 1) (hk' : k' = k + 1) : ∃ D' V' M', Mk M M' ∧ ((∃ v, fX_beforehand_l55 K (f + 1) X S U D V a b (nI w) (nI p) = some (v, D', V') ∧ fM_beforehand_l65 (f' + 1) M a b (nI k) = some (v, M')) ∨ (fX_beforehand_l55 K (f + 1) X S U D V a b (nI w) (nI p) = fX_beforehand_l55 K f X S U D' V' a b (nI w) (nI p') ∧ fM_beforehand_l65 (f' + 1) M a b (nI k) = fM_beforehand_l65 f' M' a b (nI k'))) := by
  subst hp' hk'
  obtain ⟨C0, C', M1, b1, b2, b3, b4, b5⟩ := run_ag D hS hl hw hp
  obtain ⟨o, Dt, V', M2, d1, d2, d3, d4⟩ := run_sums V (hS.mf b5) b4
  obtain ⟨q, q1, q2⟩ := grant_eq a b d3
  have s1 := hS.2.2.1.1
  have hM : Mk M M2 := (Mk.mf b5).trans (Mk.ml d4)
  have dv3 : k / 3 = w := by omega
  have md3 : k % 3 = p := by omega
  have eW : fM_isWished M (nI w) (nI p) a b = some (q, M2) := by
    unfold fM_isWished
    rw [b3, bind_s, d2, bind_s]
    exact q2
  have eX : fX_beforehand_l55 K (f + 1) X S U D V a b (nI w) (nI p) = if q = true then some ((nI (3 * w + p)).toInt64, C', V') else fX_beforehand_l55 K f X S U C' V' a b (nI w) (nI (p + 1)) := by
    rw [bf55_s]
    unfold fX_beforehand_l55b
    rw [if_neg (by rw [li3, nle (by omega) (by omega)]; omega), b1, bind_s, zg_ix hw (by omega), clampN (by omega), zn_eq, li0, s1, b2, bind_s, d1, bind_s, q1, bind_s, zn_eq, nI_1, li3, pk_mul, nI_add, Nat.mul_comm w 3]
  have eM : fM_beforehand_l65 (f' + 1) M a b (nI k) = if q = true then some ((nI k).toInt64, M2) else fM_beforehand_l65 f' M2 a b (nI (k + 1)) := by
    rw [bf65_s]
    unfold fM_beforehand_l65b
    rw [if_neg (by rw [show (15 : Int32) = nI 15 from rfl, nle (by omega) (by omega)]; omega), zg_t (by decide), zg_t (by decide), li3, pk_rem (by omega) (by omega) (by omega), pk_div (by omega) (by omega) (by omega), dv3, md3, eW, bind_s, zn_eq, nI_1]
  refine ⟨C', V', M2, hM, ?_⟩
  rw [eX, eM]
  cases q with
  | true =>
    left
    rw [if_pos rfl, if_pos rfl, hk]
    exact ⟨_, rfl, rfl⟩
  | false =>
    right
    rw [if_neg Bool.false_ne_true, if_neg Bool.false_ne_true]
    exact ⟨rfl, rfl⟩
theorem bf_run {X S U : zSt} {l e t : Nat} (a b : Int32) (hl : 1 ≤ l) : ∀ (d w f f' : Nat) (D V M : zSt), w + d = 5 → d < f → 3 * d < f' → StR S M l e t → ∃ v D' V' M', fX_beforehand_l47 f X S U D V a b (nI w) = some (v, D', V') ∧ fM_beforehand_l65 f' M a b (nI (3 * w)) = some (v, M') ∧ Mk M M' := by
  intro d
  induction d with
  | zero =>
    intro w f f' D V M hw hf hf' hS
    obtain ⟨m, rfl⟩ : ∃ m, f = m + 1 := ⟨f - 1, by omega⟩
    obtain ⟨m', rfl⟩ : ∃ m, f' = m + 1 := ⟨f' - 1, by omega⟩
    have : w = 5 := by omega
    subst this
    refine ⟨-1000000, D, V, M, ?_, ?_, Mk.refl M⟩
    · rw [bf47_s]
      unfold fX_beforehand_l47b
      rw [if_pos (by decide)]
    · rw [bf65_s]
      unfold fM_beforehand_l65b
      rw [if_pos (by decide)]
  | succ d ih =>
    intro w f f' D V M hw hf hf' hS
    obtain ⟨m, rfl⟩ : ∃ m, f = m + 1 := ⟨f - 1, by omega⟩
    obtain ⟨m', rfl⟩ : ∃ m, f' = m + 1 + 1 + 1 := ⟨f' - 3, by omega⟩
    have e0 : fX_beforehand_l47 (m + 1) X S U D V a b (nI w) = fX_beforehand_l55 (fun v0 v1 v2 v3 v4 v5 v6 v7 => fX_beforehand_l47 m v0 v1 v2 v3 v4 v5 v6 v7) (996 + 1 + 1 + 1 + 1) X S U D V a b (nI w) (nI 0) := by
      rw [bf47_s]
      unfold fX_beforehand_l47b
      rw [if_neg (by rw [li5, nle (by omega) (by omega)]; omega)]
      rfl
    rw [e0]
    obtain ⟨D1, V1, M1, k1, h1⟩ := bf1 (X := X) (U := U) (D := D) (V := V) (fun v0 v1 v2 v3 v4 v5 v6 v7 => fX_beforehand_l47 m v0 v1 v2 v3 v4 v5 v6 v7) a b (996 + 1 + 1 + 1) (m' + 1 + 1) 1 (3 * w + 1) hl hS (by omega : w < 5) (by omega : 0 < 3) (by omega : 3 * w = 3 * w + 0) rfl rfl
    rcases h1 with ⟨v, x1, x2⟩ | ⟨x1, x2⟩
    · exact ⟨v, D1, V1, M1, x1, x2, k1⟩
    obtain ⟨D2, V2, M2, k2, h2⟩ := bf1 (X := X) (U := U) (D := D1) (V := V1) (fun v0 v1 v2 v3 v4 v5 v6 v7 => fX_beforehand_l47 m v0 v1 v2 v3 v4 v5 v6 v7) a b (996 + 1 + 1) (m' + 1) 2 (3 * w + 1 + 1) hl (hS.mk k1) (by omega : w < 5) (by omega : 1 < 3) (by omega : 3 * w + 1 = 3 * w + 1) rfl rfl
    rcases h2 with ⟨v, y1, y2⟩ | ⟨y1, y2⟩
    · exact ⟨v, D2, V2, M2, x1.trans y1, x2.trans y2, k1.trans k2⟩
    obtain ⟨D3, V3, M3, k3, h3⟩ := bf1 (X := X) (U := U) (D := D2) (V := V2) (fun v0 v1 v2 v3 v4 v5 v6 v7 => fX_beforehand_l47 m v0 v1 v2 v3 v4 v5 v6 v7) a b (996 + 1) m' 3 (3 * w + 1 + 1 + 1) hl ((hS.mk k1).mk k2) (by omega : w < 5) (by omega : 2 < 3) (by omega : 3 * w + 1 + 1 = 3 * w + 2) rfl rfl
    rcases h3 with ⟨v, z1, z2⟩ | ⟨z1, z2⟩
    · exact ⟨v, D3, V3, M3, x1.trans (y1.trans z1), x2.trans (y2.trans z2), k1.trans (k2.trans k3)⟩
    obtain ⟨v, D', V', M', g1, g2, g3⟩ := ih (w + 1) m m' D3 V3 M3 (by omega) (by omega) (by omega) (((hS.mk k1).mk k2).mk k3)
    refine ⟨v, D', V', M', ?_, ?_, k1.trans (k2.trans (k3.trans g3))⟩
    · rw [x1, y1, z1, ← g1, bf55_s]
      unfold fX_beforehand_l55b
      rw [if_pos (by decide), zn_eq, nI_1]
    · rw [x2, y2, z2, ← g2]
      rfl
theorem c_beforehand {X S C U M : zSt} (Dd V : zSt) (a b : Int32) (hL : InvL X S C U M) : ∃ v D' V' M', fX_beforehand X S U Dd V a b = some (v, D', V') ∧ fM_beforehand M a b = some (v, M') ∧ Mk M M' := by
  obtain ⟨qa, a1, a2⟩ := noWish_eq a
  obtain ⟨qb, b1, b2⟩ := noWish_eq b
  cases qa with
  | true =>
    refine ⟨-9000000000000000001, Dd, V, zsI M 0 0, ?_, ?_, Mk_0 M 0⟩
    · unfold fX_beforehand
      rw [a1, bind_s, if_pos rfl]
    · unfold fM_beforehand
      rw [zn_eq, a2, bind_s, if_neg (by decide)]
  | false =>
    cases qb with
    | true =>
      refine ⟨-9000000000000000001, Dd, V, zsI M 0 0, ?_, ?_, Mk_0 M 0⟩
      · unfold fX_beforehand
        rw [a1, bind_s, if_neg Bool.false_ne_true, b1, bind_s, if_pos rfl]
      · unfold fM_beforehand
        rw [zn_eq, a2, bind_s, if_pos (by decide), b2, bind_s, if_neg (by decide)]
    | false =>
      rcases hL.liv with ⟨l1, l2⟩ | ⟨l1, l2, l, e, t, hV⟩
      · refine ⟨-9000000000000000002, Dd, V, zsI M 0 0, ?_, ?_, Mk_0 M 0⟩
        · unfold fX_beforehand
          rw [a1, bind_s, if_neg Bool.false_ne_true, b1, bind_s, if_neg Bool.false_ne_true, if_pos l1]
        · unfold fM_beforehand
          rw [zn_eq, a2, bind_s, if_pos (by decide), b2, bind_s, if_pos (by decide), if_pos (show zI (zsI M 0 0) 5 = 0 from l2)]
      · have hV' := hV.keep (Mk_0 M 0)
        obtain ⟨la, o, D, M', M1, M2, c1, c2, c3, c4, c5, c6, c7, c8, c9, c10, c11, c12, c13, c14⟩ := hV'.sums
        have hm : Mk (zsI M 0 0) M2 := (Mk.mf c3).trans (Mk.ml c13)
        obtain ⟨_, hl, hS, _⟩ := hV'
        obtain ⟨q, q1, q2⟩ := grant_eq a b c11
        have eG : fM_goThrough (zsI M 0 0) 999 (-1) (-1) (-1) (-1) (-1) = some M' := by
          unfold fM_goAll at c1
          cases hx : fM_goThrough (zsI M 0 0) 999 (-1) (-1) (-1) (-1) (-1) with
          | none => rw [hx] at c1; cases c1
          | some y => rw [hx, bind_s] at c1; exact c1
        have eW : fM_isWished (zsI M 0 0) (-1) (-1) a b = some (q, M2) := by
          unfold fM_isWished
          rw [eG, bind_s, c9, bind_s]
          exact q2
        obtain ⟨v, D', V', M3, g1, g2, g3⟩ := bf_run (X := X) (U := U) a b hl 5 0 zF zF Dd V M2 (by omega) (by unfold zF; omega) (by unfold zF; omega) (hS.mk hm)
        cases q with
        | true =>
          refine ⟨15, Dd, V, M2, ?_, ?_, (Mk_0 M 0).trans hm⟩
          · unfold fX_beforehand
            rw [a1, bind_s, if_neg Bool.false_ne_true, b1, bind_s, if_neg Bool.false_ne_true, if_neg l1, q1, bind_s, if_pos rfl]
          · unfold fM_beforehand
            rw [zn_eq, a2, bind_s, if_pos (by decide), b2, bind_s, if_pos (by decide), if_neg (show ¬ zI (zsI M 0 0) 5 = 0 from l2), eW, bind_s, if_pos rfl]
        | false =>
          refine ⟨v, D', V', M3, ?_, ?_, (Mk_0 M 0).trans (hm.trans g3)⟩
          · unfold fX_beforehand
            rw [a1, bind_s, if_neg Bool.false_ne_true, b1, bind_s, if_neg Bool.false_ne_true, if_neg l1, q1, bind_s, if_neg Bool.false_ne_true]
            exact g1
          · unfold fM_beforehand
            rw [zn_eq, a2, bind_s, if_pos (by decide), b2, bind_s, if_pos (by decide), if_neg (show ¬ zI (zsI M 0 0) 5 = 0 from l2), eW, bind_s, if_neg Bool.false_ne_true]
            exact g2
/-! what kind a thing is -/
theorem ifb_s (n : Nat) (C : zSt) (x y : Int32) : fC_isFedByAnother_l2 (n + 1) C x y = fC_isFedByAnother_l2b (fun v0 v1 v2 => fC_isFedByAnother_l2 n v0 v1 v2) C x y := rfl
theorem ifm_s (n : Nat) (M : zSt) (x y z : Int32) : fM_isFed_l4 (n + 1) M x y z = fM_isFed_l4b (fun v0 v1 v2 v3 => fM_isFed_l4 n v0 v1 v2 v3) M x y z := rfl
theorem ifm_1 {M : zSt} {n : Nat} (j : Int32) (hn : n ≤ 50) (m40 : zI M 40 = nI n) : ∀ (d k f : Nat), k + d = n → d < f → fM_isFed_l4 f M j 1 (nI k) = some true := by
  intro d
  induction d with
  | zero =>
    intro k f hk hf
    obtain ⟨m, rfl⟩ : ∃ m, f = m + 1 := ⟨f - 1, by omega⟩
    have : k = n := by omega
    subst this
    rw [ifm_s]
    unfold fM_isFed_l4b
    rw [m40, if_pos (Int32.le_refl _)]
    rfl
  | succ d ih =>
    intro k f hk hf
    obtain ⟨m, rfl⟩ : ∃ m, f = m + 1 := ⟨f - 1, by omega⟩
    rw [← ih (k + 1) m (by omega) (by omega), ifm_s]
    unfold fM_isFed_l4b fM_isFed_b41
    rw [m40, if_neg (by rw [nle (by omega) (by omega)]; omega), if_neg (by decide), zn_eq, nI_1]
theorem fed_run {C M : zSt} {t n j p : Nat} (hn : n ≤ 50) (hj : j < 10) (ht : t ≤ 10) (c13 : zI C 13 = nI n) (m40 : zI M 40 = nI n) (c8 : zA C 8 j = nI p) (m29 : zA M 29 j = nI p) (hP : ∀ k, k < n → PuR C M t k) : ∀ (d k f f' : Nat), k + d = n → d < f → d < f' → ∃ q, fC_isFedByAnother_l2 f C (nI j) (nI k) = some q ∧ fM_isFed_l4 f' M (nI j) 0 (nI k) = some q := by
  intro d
  induction d with
  | zero =>
    intro k f f' hk hf hf'
    obtain ⟨m, rfl⟩ : ∃ m, f = m + 1 := ⟨f - 1, by omega⟩
    obtain ⟨m', rfl⟩ : ∃ m, f' = m + 1 := ⟨f' - 1, by omega⟩
    have : k = n := by omega
    subst this
    refine ⟨false, ?_, ?_⟩
    · rw [ifb_s]
      unfold fC_isFedByAnother_l2b
      rw [c13, if_pos (Int32.le_refl _)]
    · rw [ifm_s]
      unfold fM_isFed_l4b
      rw [m40, if_pos (Int32.le_refl _)]
      rfl
  | succ d ih =>
    intro k f f' hk hf hf'
    obtain ⟨m, rfl⟩ : ∃ m, f = m + 1 := ⟨f - 1, by omega⟩
    obtain ⟨m', rfl⟩ : ∃ m, f' = m + 1 := ⟨f' - 1, by omega⟩
    obtain ⟨q, q1, q2⟩ := ih (k + 1) m m' (by omega) (by omega) (by omega)
    obtain ⟨a, pp, s, w, p1, p2, p3, p4, p5, p6, ⟨p7, p8⟩, ⟨p9, p10⟩, _⟩ := hP k (by omega)
    have hk' : ¬ nI n ≤ nI k := by rw [nle (by omega) (by omega)]; omega
    have one := ifm_1 (nI j) hn m40 (n - (k + 1)) (k + 1) m' (by omega) (by omega)
    have eC : fC_isFedByAnother_l2 (m + 1) C (nI j) (nI k) = if nI a = nI j then (if nI pp = nI p then some q else some true) else some q := by
      rw [ifb_s]
      unfold fC_isFedByAnother_l2b
      rw [c13, if_neg hk', zg_ix (by omega) (by omega), clampN (show k < 2 ^ 31 by omega), p7, zg_ix (by omega) (by omega), zg_ix hj (by omega), p9, clampN (show j < 2 ^ 31 by omega), c8, zn_eq, nI_1]
      show (if _ then (if _ then fC_isFedByAnother_l2 m C (nI j) (nI (k + 1)) else _) else fC_isFedByAnother_l2 m C (nI j) (nI (k + 1))) = _
      rw [q1]
    have eM : fM_isFed_l4 (m' + 1) M (nI j) 0 (nI k) = if nI a = nI j then (if nI pp = nI p then some q else some true) else some q := by
      rw [ifm_s]
      unfold fM_isFed_l4b fM_isFed_b41
      rw [m40, if_neg hk', if_pos rfl, zg_ix (by omega) (by omega), clampN (show k < 2 ^ 31 by omega), p8, zg_ix (by omega) (by omega), zg_ix hj (by omega), p10, clampN (show j < 2 ^ 31 by omega), m29, zn_eq, zn_eq, nI_1]
      show (if _ then (if _ then fM_isFed_l4 m' M (nI j) 0 (nI (k + 1)) else fM_isFed_l4 m' M (nI j) 1 (nI (k + 1))) else fM_isFed_l4 m' M (nI j) 0 (nI (k + 1))) = _
      rw [q2, one]
    rw [eC, eM]
    by_cases z : nI a = nI j
    · rw [if_pos z]
      by_cases y : nI pp = nI p
      · rw [if_pos y]
        exact ⟨q, rfl, rfl⟩
      · rw [if_neg y]
        exact ⟨true, rfl, rfl⟩
    · rw [if_neg z]
      exact ⟨q, rfl, rfl⟩
def kc (ci : Nat) : Nat := if ci = 5 then 1 else if ci = 1 then 2 else if ci = 3 then 3 else if ci = 0 then 4 else 5
theorem told_eq {X S C T M : zSt} {l i t N j : Nat} (h : CR True S C M l i t N) (hN : N ≤ 50) (ht : t ≤ 10) (hj : j < t) : ∃ ci, (ci = 5 ∨ ci = 1 ∨ ci = 3 ∨ ci = 0 ∨ ci = 4) ∧ fX_toldThing X S C T (nI j) = some ci ∧ fM_kindOf M (nI j) = some (nI (kc ci)) := by
  obtain ⟨la, n, h1, h2, h3, h4, h5, h6, h7, h8, h9, h10, h11, h12⟩ := h
  obtain ⟨g1, g2, g3, ⟨p, p1, p2, p3⟩, g5, g6, ⟨w, w1, w2, w3⟩, g8⟩ := h8 j hj
  have gw := way_eq g1
  unfold fX_toldThing fM_kindOf
  simp only [zg_ix (show j < 10 by omega) (show 10 ≤ 1000 by omega), clampN (show j < 2 ^ 31 by omega), zn_eq, p2, p3, gw, bind_s]
  by_cases z : p = 2
  · rw [z, if_pos li2.symm, if_pos li2.symm]
    by_cases y : zA M 37 j = 4
    · rw [if_pos y, if_pos y]
      exact ⟨4, by omega, rfl, rfl⟩
    · rw [if_neg y, if_neg y]
      exact ⟨1, by omega, rfl, rfl⟩
  · have z' : ¬ nI p = 2 := by rw [li2, neq (by omega) (by omega)]; exact z
    obtain ⟨q, q1, q2⟩ := fed_run (by omega) (by omega) ht h9 h10 p2 p3 h12 n 0 zF zF (by omega) (by unfold zF; omega) (by unfold zF; omega)
    have q1' : fC_isFedByAnother C (nI j) = some q := q1
    have q2' : fM_isFed M (nI j) = some q := q2
    rw [if_neg z', if_neg z', q1', q2', bind_s, bind_s, g3]
    cases q with
    | true =>
      rw [if_pos rfl, if_pos rfl]
      by_cases y : zA M 30 j = nI p
      · rw [if_pos y, if_pos y]
        exact ⟨3, by omega, rfl, rfl⟩
      · rw [if_neg y, if_neg y]
        exact ⟨0, by omega, rfl, rfl⟩
    | false =>
      rw [if_neg Bool.false_ne_true, if_neg Bool.false_ne_true]
      exact ⟨5, by omega, rfl, rfl⟩
theorem kd_s (n : Nat) (X S C T : zSt) (x : Int32) (ci : Nat) : fX_kind_l20 (n + 1) X S C T x ci = fX_kind_l20b (fun v0 v1 v2 v3 v4 v5 => fX_kind_l20 n v0 v1 v2 v3 v4 v5) X S C T x ci := rfl
theorem kd_no (n f : Nat) (hf : f = n + 1) (X S C T : zSt) (x x' : Int32) (ci : Nat) (h1 : ¬ x ≤ 0) (h2 : zth ci = true) (h3 : ¬ fX_isOfKind ci x = true) (h4 : x + (-1) = x') : fX_kind_l20 f X S C T x ci = fX_kind_l20 n X S C T x' ci := by
  subst hf h4
  rw [kd_s]
  unfold fX_kind_l20b
  rw [if_neg h1, zg_t h2, if_neg h3, zn_eq]
theorem kd_yes (n f : Nat) (hf : f = n + 1) (X S C T : zSt) (x : Int32) (ci : Nat) (h1 : ¬ x ≤ 0) (h2 : zth ci = true) (h3 : fX_isOfKind ci x = true) : fX_kind_l20 f X S C T x ci = some x.toInt64 := by
  subst hf
  rw [kd_s]
  unfold fX_kind_l20b
  rw [if_neg h1, zg_t h2, if_pos h3]
theorem kind_eq (X S C T : zSt) (ci : Nat) (h : ci = 5 ∨ ci = 1 ∨ ci = 3 ∨ ci = 0 ∨ ci = 4) : fX_kind_l20 zF X S C T 5 ci = some (nI (kc ci)).toInt64 := by
  rcases h with rfl | rfl | rfl | rfl | rfl
  · rw [kd_no 999 zF rfl X S C T 5 4 5 (by decide) (by decide) (by decide) (by decide), kd_no 998 999 rfl X S C T 4 3 5 (by decide) (by decide) (by decide) (by decide), kd_no 997 998 rfl X S C T 3 2 5 (by decide) (by decide) (by decide) (by decide), kd_no 996 997 rfl X S C T 2 1 5 (by decide) (by decide) (by decide) (by decide), kd_yes 995 996 rfl X S C T 1 5 (by decide) (by decide) (by decide)]
    rfl
  · rw [kd_no 999 zF rfl X S C T 5 4 1 (by decide) (by decide) (by decide) (by decide), kd_no 998 999 rfl X S C T 4 3 1 (by decide) (by decide) (by decide) (by decide), kd_no 997 998 rfl X S C T 3 2 1 (by decide) (by decide) (by decide) (by decide), kd_yes 996 997 rfl X S C T 2 1 (by decide) (by decide) (by decide)]
    rfl
  · rw [kd_no 999 zF rfl X S C T 5 4 3 (by decide) (by decide) (by decide) (by decide), kd_no 998 999 rfl X S C T 4 3 3 (by decide) (by decide) (by decide) (by decide), kd_yes 997 998 rfl X S C T 3 3 (by decide) (by decide) (by decide)]
    rfl
  · rw [kd_no 999 zF rfl X S C T 5 4 0 (by decide) (by decide) (by decide) (by decide), kd_yes 998 999 rfl X S C T 4 0 (by decide) (by decide) (by decide)]
    rfl
  · rw [kd_yes 999 zF rfl X S C T 5 4 (by decide) (by decide) (by decide)]
    rfl
theorem Liv.told {X S C U M : zSt} {l e t : Nat} (h : Liv X S C U M l e t) (T : zSt) {j : Nat} (hj : j < t) : ∃ M' ci, fM_goAll M = some M' ∧ CRi True S C M' l e ∧ MF M M' ∧ (ci = 5 ∨ ci = 1 ∨ ci = 3 ∨ ci = 0 ∨ ci = 4) ∧ fX_toldThing X S C T (nI j) = some ci ∧ fM_kindOf M' (nI j) = some (nI (kc ci)) := by
  obtain ⟨M', a1, a2, a3⟩ := h.go
  obtain ⟨t1, t2, t3, t4⟩ := h.2.2.1.tt
  obtain ⟨ci, b1, b2, b3⟩ := told_eq (X := X) (T := T) (j := j) a2 (by omega) (by omega) (by omega)
  exact ⟨M', ci, a1, a2, a3, b1, b2, b3⟩
theorem c_kind {X S C U M : zSt} (T : zSt) (a : Int32) (hL : InvL X S C U M) : ∃ v M', fX_kind X S C T a = some v ∧ fM_kind M a = some (v, M') ∧ Mk M M' := by
  obtain ⟨t, ht, c4, m8, hc⟩ := hL.t
  have m8' : zI (zsI M 0 0) 8 = nI t := m8
  by_cases za : rng a t
  · rcases hc with ⟨_, rfl⟩ | ⟨l, e, hV⟩
    · exact absurd za.2 (by have := za.1; omega)
    · have za' := za
      obtain ⟨j, hj, rfl⟩ := rng_nI za'
      obtain ⟨M', ci, a1, a2, a3, b1, b2, b3⟩ := (hV.keep (Mk_0 M 0)).told T hj
      refine ⟨(nI (kc ci)).toInt64, M', ?_, ?_, (Mk_0 M 0).trans (Mk.mf a3)⟩
      · unfold fX_kind
        rw [noThing_eq _ c4 ht, bind_s, ite_df (fun q => q za), b2, bind_s, kind_eq X S C T ci b1]
      · unfold fM_kind
        rw [zn_eq, isThing_eq _ m8' ht, bind_s, ite_dt za, a1, bind_s, b3, bind_s]
  · refine ⟨-9000000000000000001, zsI M 0 0, ?_, ?_, Mk_0 M 0⟩
    · unfold fX_kind
      rw [noThing_eq _ c4 ht, bind_s, ite_dt za]
    · unfold fM_kind
      rw [zn_eq, isThing_eq _ m8' ht, bind_s, ite_df za]
theorem isOf_eq (ci q : Nat) (h : ci = 5 ∨ ci = 1 ∨ ci = 3 ∨ ci = 0 ∨ ci = 4) (hq : q < 6) : zth ci = true ∧ fM_isOf (nI (kc ci)) (nI q) = some (fX_isOfKind ci (nI q)) := by
  have q6 : q = 0 ∨ q = 1 ∨ q = 2 ∨ q = 3 ∨ q = 4 ∨ q = 5 := by omega
  rcases h with rfl | rfl | rfl | rfl | rfl <;> rcases q6 with rfl | rfl | rfl | rfl | rfl | rfl <;> exact ⟨rfl, by decide⟩
