/-! SUMS: fractions in lowest terms on both sides -/
theorem cd_s (n : Nat) (x y : Int64) (r : Int32) : fX_commonDivisor_l9 (n + 1) x y r = fX_commonDivisor_l9b (fun v0 v1 v2 => fX_commonDivisor_l9 n v0 v1 v2) x y r := rfl
theorem pm_s (n : Nat) (a b : Int64) (w : Int32) (x y : Int64) : fM_partOf_l17 (n + 1) a b w x y = fM_partOf_l17b (fun v0 v1 v2 v3 v4 => fM_partOf_l17 n v0 v1 v2 v3 v4) a b w x y := rfl
theorem lN0 {y : Nat} (h : y < 2 ^ 63) : (lN y = 0) = (y = 0) := propext (pk_lEQ (b := 0) h (by omega))
theorem zg_lz {β : Type} {y : Nat} {k : Option β} (h : 1 ≤ y) (h2 : y < 2 ^ 63) : zg (zlz (lN y)) k = k := zg_t (by
  unfold zlz
  refine decide_eq_true ?_
  rw [lN0 h2]
  omega)
theorem cd_0 (n : Nat) (x : Int64) (r : Int32) : fX_commonDivisor_l9 (n + 1) x (lN 0) r = some x := by
  rw [cd_s]
  unfold fX_commonDivisor_l9b
  split
  · rfl
  · rw [if_pos (show lN 0 = 0 from rfl)]
theorem cd_1 (n : Nat) (x y r : Nat) (hx : x < 2 ^ 63) (hy : y < 2 ^ 63) (h0 : 0 < y) (hr : r ≤ 127) : fX_commonDivisor_l9 (n + 1) (lN x) (lN y) (nI r) = fX_commonDivisor_l9 n (lN y) (lN (x % y)) (nI (r + 1)) := by
  rw [cd_s]
  unfold fX_commonDivisor_l9b
  rw [if_neg (by rw [li128]; exact nI_ge (by omega) (by omega)), if_neg (by rw [lN0 hy]; omega), zg_lz h0 hy, zn_eq, zn_eq, pk_lRem hx h0 hy, nI_1]
theorem pm_0 (n : Nat) (a b : Int64) (w : Int32) (x : Nat) (hx : x < 2 ^ 63) (h0 : 0 < x) : fM_partOf_l17 (n + 1) a b w (lN x) (lN 0) = if w = 0 then some (a / lN x) else some (b / lN x) := by
  rw [pm_s]
  unfold fM_partOf_l17b
  rw [if_pos (show lN 0 = 0 from rfl), zg_lz h0 hx, zg_lz h0 hx]
theorem pm_1 (n : Nat) (a b : Int64) (w : Int32) (x y : Nat) (hx : x < 2 ^ 63) (hy : y < 2 ^ 63) (h0 : 0 < y) : fM_partOf_l17 (n + 1) a b w (lN x) (lN y) = fM_partOf_l17 n a b w (lN y) (lN (x % y)) := by
  rw [pm_s]
  unfold fM_partOf_l17b
  rw [if_neg (by rw [lN0 hy]; omega), zg_lz h0 hy, zn_eq, pk_lRem hx h0 hy]
theorem gcd_both (a b : Int64) (w : Int32) : ∀ (k x y r f f' : Nat), y < 2 ^ k → k ≤ 63 → x < 2 ^ 63 → 0 < x + y → r + 2 * k ≤ 127 → 2 * k < f → 2 * k < f' → ∃ g, 0 < g ∧ g < 2 ^ 63 ∧ fX_commonDivisor_l9 f (lN x) (lN y) (nI r) = some (lN g) ∧ fM_partOf_l17 f' a b w (lN x) (lN y) = if w = 0 then some (a / lN g) else some (b / lN g) := by
  intro k
  induction k with
  | zero =>
    intro x y r f f' hy hk hx h0 hr hf hf'
    obtain ⟨n, rfl⟩ : ∃ n, f = n + 1 := ⟨f - 1, by omega⟩
    obtain ⟨n', rfl⟩ : ∃ n, f' = n + 1 := ⟨f' - 1, by omega⟩
    have : y = 0 := by omega
    subst this
    exact ⟨x, by omega, hx, cd_0 n _ _, pm_0 n' a b w x hx (by omega)⟩
  | succ k ih =>
    intro x y r f f' hy hk hx h0 hr hf hf'
    obtain ⟨n, rfl⟩ : ∃ n, f = n + 1 + 1 + 1 := ⟨f - 3, by omega⟩
    obtain ⟨n', rfl⟩ : ∃ n, f' = n + 1 + 1 + 1 := ⟨f' - 3, by omega⟩
    have hp : 2 ^ (k + 1) ≤ 2 ^ 63 := Nat.pow_le_pow_right (by omega) hk
    by_cases y0 : y = 0
    · subst y0
      exact ⟨x, by omega, hx, cd_0 _ _ _, pm_0 _ a b w x hx (by omega)⟩
    have hy63 : y < 2 ^ 63 := Nat.lt_of_lt_of_le hy hp
    rw [cd_1 _ x y r hx hy63 (by omega) (by omega), pm_1 _ a b w x y hx hy63 (by omega)]
    have hm : x % y < y := Nat.mod_lt x (by omega)
    generalize x % y = u at hm ⊢
    by_cases u0 : u = 0
    · subst u0
      exact ⟨y, by omega, hy63, cd_0 _ _ _, pm_0 _ a b w y hy63 (by omega)⟩
    have hu63 : u < 2 ^ 63 := Nat.lt_trans hm hy63
    rw [cd_1 _ y u (r + 1) hy63 hu63 (by omega) (by omega), pm_1 _ a b w y u hy63 hu63 (by omega)]
    have hm2 : y % u < u := Nat.mod_lt y (by omega)
    have hv : y % u < 2 ^ k := by
      have e1 := Nat.div_add_mod y u
      have e2 : 1 ≤ y / u := Nat.div_pos (by omega) (by omega)
      have e3 : u * 1 ≤ u * (y / u) := Nat.mul_le_mul_left u e2
      rw [Nat.pow_succ] at hy
      omega
    exact ih u (y % u) (r + 1 + 1) _ _ hv (by omega) hu63 (by omega) (by omega) (by omega) (by omega)
theorem ofInt_lt0 {z : Int} (hz : big z) : (0 < Int64.ofInt z) = (0 < z) := propext (by
  unfold big at hz
  rw [Int64.lt_iff_toInt_lt, Int64.toInt_ofInt_of_le (by omega) (by omega)]
  exact Iff.rfl)
theorem ofInt_le0 {z : Int} (hz : big z) : (0 ≤ Int64.ofInt z) = (0 ≤ z) := propext (by
  unfold big at hz
  rw [Int64.le_iff_toInt_le, Int64.toInt_ofInt_of_le (by omega) (by omega)]
  exact Iff.rfl)
theorem ofInt_abs {z : Int} : (0 ≤ z → Int64.ofInt z = lN z.natAbs) ∧ (z ≤ 0 → -(Int64.ofInt z) = lN z.natAbs) := by
  refine ⟨fun h => ?_, fun h => ?_⟩
  · rw [lN_ofInt]
    congr 1
    omega
  · rw [lN_ofInt, ← Int64.ofInt_neg]
    congr 1
    omega
theorem part_eq {z : Int} {D : Nat} (w : Int32) (hz : big z) (h1 : 1 ≤ D) (h2 : D < 2 ^ 63) : ∃ v, fX_partOf (Int64.ofInt z) (lN D) w = some v ∧ fM_partOf (Int64.ofInt z) (lN D) w = some v := by
  have hn : z.natAbs < 2 ^ 63 := by unfold big at hz; omega
  obtain ⟨g, g1, g2, g3, g4⟩ := gcd_both (Int64.ofInt z) (lN D) w 63 z.natAbs D 0 zF zF h2 (by omega) hn (by omega) (by omega) (by unfold zF; omega) (by unfold zF; omega)
  have e1 : (if 0 < Int64.ofInt z then Int64.ofInt z else -(Int64.ofInt z)) = lN z.natAbs := by
    by_cases c : 0 < z
    · rw [if_pos (by rw [ofInt_lt0 hz]; exact c)]; exact ofInt_abs.1 (by omega)
    · rw [if_neg (by rw [ofInt_lt0 hz]; exact c)]; exact ofInt_abs.2 (by omega)
  have e2 : fM_partOf (Int64.ofInt z) (lN D) w = fM_partOf_l17 zF (Int64.ofInt z) (lN D) w (lN z.natAbs) (lN D) := by
    unfold fM_partOf
    by_cases c : 0 ≤ z
    · rw [if_pos (by rw [ofInt_le0 hz]; exact c)]
      congr 1
      exact ofInt_abs.1 c
    · rw [if_neg (by rw [ofInt_le0 hz]; exact c), zn_eq]
      congr 1
      exact ofInt_abs.2 (by omega)
  have e3 : fX_commonDivisor (lN z.natAbs) (lN D) = some (lN g) := g3
  have gp : (0 : Int64) < lN g := (pk_lLT (a := 0) (by omega) g2).mpr g1
  refine ⟨if w = 0 then Int64.ofInt z / lN g else lN D / lN g, ?_, ?_⟩
  · unfold fX_partOf
    rw [e1, e3, bind_s, if_pos gp, zg_lz g1 g2, zg_lz g1 g2, ite_s]
  · rw [e2, g4, ite_s]
theorem div1 (a : Int64) : a / lN 1 = a := by
  apply Int64.toInt_inj.mp
  rw [Int64.toInt_div_of_ne_right _ _ (by decide), show (lN 1).toInt = 1 from by decide, Int.tdiv_one]
theorem part_1 {z : Int} (w : Int32) (hz : big z) : fX_partOf (Int64.ofInt z) (lN 1) w = some (if w = 0 then Int64.ofInt z else 1) := by
  have hn : z.natAbs < 2 ^ 63 := by unfold big at hz; omega
  have e1 : (if 0 < Int64.ofInt z then Int64.ofInt z else -(Int64.ofInt z)) = lN z.natAbs := by
    by_cases c : 0 < z
    · rw [if_pos (by rw [ofInt_lt0 hz]; exact c)]; exact ofInt_abs.1 (by omega)
    · rw [if_neg (by rw [ofInt_lt0 hz]; exact c)]; exact ofInt_abs.2 (by omega)
  have e3 : fX_commonDivisor (lN z.natAbs) (lN 1) = some (lN 1) := by
    show fX_commonDivisor_l9 (998 + 1 + 1) (lN z.natAbs) (lN 1) (nI 0) = _
    rw [cd_1 _ z.natAbs 1 0 hn (by omega) (by omega) (by omega), Nat.mod_one, cd_0]
  unfold fX_partOf
  rw [e1, e3, bind_s, if_pos (by decide), zg_lz (by omega) (by omega), zg_lz (by omega) (by omega), ite_s, div1, div1]
  rfl
