/-! SUMS: determinants over the whole numbers -/
def detz (m : Nat → Int) : Int := m 0 * (m 4 * m 8 - m 5 * m 7) - m 1 * (m 3 * m 8 - m 5 * m 6) + m 2 * (m 3 * m 7 - m 4 * m 6)
def mz (c x : Nat → Int) (i : Nat) : Int := if i = 0 then c 0 + x 3 + x 6 else if i = 4 then c 1 + x 1 + x 7 else if i = 8 then c 2 + x 2 + x 5 else -(x i)
def rz (m h : Nat → Int) (q i : Nat) : Int := if i % 3 = q then h (i / 3) else m i
theorem det9_of {m : Nat → Int64} {z : Nat → Int} (h : ∀ i, i < 9 → m i = Int64.ofInt (z i)) : det9 m = Int64.ofInt (detz z) := by
  unfold det9 detz
  rw [h 0 (by omega), h 1 (by omega), h 2 (by omega), h 3 (by omega), h 4 (by omega), h 5 (by omega), h 6 (by omega), h 7 (by omega), h 8 (by omega)]
  simp only [← Int64.ofInt_mul, ← Int64.ofInt_sub, ← Int64.ofInt_add]
theorem nine {i : Nat} (hi : i < 9) : i = 0 ∨ i = 1 ∨ i = 2 ∨ i = 3 ∨ i = 4 ∨ i = 5 ∨ i = 6 ∨ i = 7 ∨ i = 8 := by omega
theorem mx_of {c x : Nat → Int64} {cz xz : Nat → Int} (hc : ∀ p, p < 3 → c p = Int64.ofInt (cz p)) (hx : ∀ p q, p < 3 → q < 3 → p ≠ q → x (3 * p + q) = Int64.ofInt (xz (3 * p + q))) : ∀ i, i < 9 → mx c x i = Int64.ofInt (mz cz xz i) := by
  have x1 := hx 0 1 (by omega) (by omega) (by omega)
  have x2 := hx 0 2 (by omega) (by omega) (by omega)
  have x3 := hx 1 0 (by omega) (by omega) (by omega)
  have x5 := hx 1 2 (by omega) (by omega) (by omega)
  have x6 := hx 2 0 (by omega) (by omega) (by omega)
  have x7 := hx 2 1 (by omega) (by omega) (by omega)
  simp only [Nat.reduceMul, Nat.reduceAdd, Nat.zero_add, Nat.add_zero] at x1 x2 x3 x5 x6 x7
  have c0 := hc 0 (by omega)
  have c1 := hc 1 (by omega)
  have c2 := hc 2 (by omega)
  intro i hi
  rcases nine hi with rfl | rfl | rfl | rfl | rfl | rfl | rfl | rfl | rfl <;> simp only [mx, mz, x1, x2, x3, x5, x6, x7, c0, c1, c2, Nat.reduceEqDiff, if_true, if_false, ← Int64.ofInt_add, Int64.ofInt_neg, Nat.succ_ne_self, Nat.zero_ne_one, Nat.one_ne_zero]
theorem rp_of {m h : Nat → Int64} {mzz hz : Nat → Int} {q : Nat} (hm : ∀ i, i < 9 → m i = Int64.ofInt (mzz i)) (hh : ∀ p, p < 3 → h p = Int64.ofInt (hz p)) : ∀ i, i < 9 → rp m h q i = Int64.ofInt (rz mzz hz q i) := by
  intro i hi
  unfold rp rz
  by_cases z : i % 3 = q
  · rw [if_pos z, if_pos z, hh _ (by omega)]
  · rw [if_neg z, if_neg z, hm i hi]
/-- of the matrix itself: all sixteen trees, none of them below 0 -/
def tre (c0 c1 c2 a b d e f g : Nat) : Nat := c0 * c1 * c2 + (c0 * c1 * b + c0 * c1 * e + c0 * a * c2 + c0 * a * b + c0 * a * e + c0 * g * c2 + c0 * g * b + d * c1 * c2 + d * c1 * b + d * c1 * e + d * g * c2 + f * c1 * c2 + f * c1 * e + f * a * c2 + f * g * c2)
theorem tre_le (c0 c1 c2 a b d e f g : Nat) : tre c0 c1 c2 a b d e f g ≤ (c0 + d + f) * (c1 + a + g) * (c2 + b + e) := by
  have h : tre c0 c1 c2 a b d e f g + (c0 * g * e + d * g * e + f * g * e + d * a * c2 + d * a * b + d * a * e + f * a * e + d * g * b + f * c1 * b + f * a * b + f * g * b) = (c0 + d + f) * (c1 + a + g) * (c2 + b + e) := by
    unfold tre
    simp only [Nat.add_mul, Nat.mul_add, Nat.mul_assoc]
    omega
  rw [← h]
  exact Nat.le_add_right _ _
theorem det_tre (c x : Nat → Int) (c0 c1 c2 a b d e f g : Nat) (h0 : c 0 = c0) (h1 : c 1 = c1) (h2 : c 2 = c2) (x1 : x 1 = a) (x2 : x 2 = b) (x3 : x 3 = d) (x5 : x 5 = e) (x6 : x 6 = f) (x7 : x 7 = g) : detz (mz c x) = (tre c0 c1 c2 a b d e f g : Nat) := by
  simp only [detz, mz, tre, h0, h1, h2, x1, x2, x3, x5, x6, x7, Nat.reduceEqDiff, if_true, if_false, Nat.succ_ne_self, Nat.zero_ne_one, Nat.one_ne_zero, Int.natCast_add, Int.natCast_mul, Int.add_mul, Int.mul_add, Int.sub_mul, Int.mul_sub, Int.neg_mul, Int.mul_neg, Int.neg_neg, Int.mul_comm, Int.mul_left_comm, Int.mul_assoc]
  omega
theorem abs2 (x y z w : Int) : (x * y - z * w).natAbs ≤ x.natAbs * y.natAbs + z.natAbs * w.natAbs := by
  have h := Int.natAbs_sub_le (x * y) (z * w)
  rwa [Int.natAbs_mul, Int.natAbs_mul] at h
theorem det_abs (m : Nat → Int) : (detz m).natAbs ≤ ((m 0).natAbs + (m 3).natAbs + (m 6).natAbs) * ((m 1).natAbs + (m 4).natAbs + (m 7).natAbs) * ((m 2).natAbs + (m 5).natAbs + (m 8).natAbs) := by
  have k1 := abs2 (m 4) (m 8) (m 5) (m 7)
  have k2 := abs2 (m 3) (m 8) (m 5) (m 6)
  have k3 := abs2 (m 3) (m 7) (m 4) (m 6)
  have l1 := Nat.mul_le_mul_left (m 0).natAbs k1
  have l2 := Nat.mul_le_mul_left (m 1).natAbs k2
  have l3 := Nat.mul_le_mul_left (m 2).natAbs k3
  rw [← Int.natAbs_mul] at l1 l2 l3
  have s1 := Int.natAbs_sub_le (m 0 * (m 4 * m 8 - m 5 * m 7)) (m 1 * (m 3 * m 8 - m 5 * m 6))
  have s2 := Int.natAbs_add_le (m 0 * (m 4 * m 8 - m 5 * m 7) - m 1 * (m 3 * m 8 - m 5 * m 6)) (m 2 * (m 3 * m 7 - m 4 * m 6))
  have e : (detz m).natAbs ≤ (m 0).natAbs * ((m 4).natAbs * (m 8).natAbs + (m 5).natAbs * (m 7).natAbs) + (m 1).natAbs * ((m 3).natAbs * (m 8).natAbs + (m 5).natAbs * (m 6).natAbs) + (m 2).natAbs * ((m 3).natAbs * (m 7).natAbs + (m 4).natAbs * (m 6).natAbs) := by
    unfold detz
    exact Nat.le_trans s2 (Nat.add_le_add (Nat.le_trans s1 (Nat.add_le_add l1 l2)) l3)
  refine Nat.le_trans e ?_
  generalize (m 0).natAbs = n0
  generalize (m 1).natAbs = n1
  generalize (m 2).natAbs = n2
  generalize (m 3).natAbs = n3
  generalize (m 4).natAbs = n4
  generalize (m 5).natAbs = n5
  generalize (m 6).natAbs = n6
  generalize (m 7).natAbs = n7
  generalize (m 8).natAbs = n8
  have h : n0 * (n4 * n8 + n5 * n7) + n1 * (n3 * n8 + n5 * n6) + n2 * (n3 * n7 + n4 * n6) + (n0 * n1 * n2 + n0 * n1 * n5 + n0 * n1 * n8 + n0 * n4 * n2 + n0 * n4 * n5 + n0 * n7 * n2 + n0 * n7 * n8 + n3 * n1 * n2 + n3 * n1 * n5 + n3 * n4 * n2 + n3 * n4 * n5 + n3 * n4 * n8 + n3 * n7 * n5 + n3 * n7 * n8 + n6 * n1 * n2 + n6 * n1 * n8 + n6 * n4 * n5 + n6 * n4 * n8 + n6 * n7 * n2 + n6 * n7 * n5 + n6 * n7 * n8) = (n0 + n3 + n6) * (n1 + n4 + n7) * (n2 + n5 + n8) := by
    simp only [Nat.add_mul, Nat.mul_add, Nat.mul_comm, Nat.mul_left_comm, Nat.mul_assoc]
    omega
  rw [← h]
  exact Nat.le_add_right _ _
/-- with what is had in place of a column -/
theorem det_h (c x h : Nat → Int) (q A B Hs : Nat) (hq : q < 3) (hc : ∀ p, p < 3 → 0 ≤ c p) (hx : ∀ p r, p < 3 → r < 3 → p ≠ r → 0 ≤ x (3 * p + r)) (h1 : c 0 + c 1 + c 2 ≤ A) (h2 : x 1 + x 2 + x 3 + x 5 + x 6 + x 7 ≤ B) (h3 : (h 0).natAbs + (h 1).natAbs + (h 2).natAbs ≤ Hs) : (detz (rz (mz c x) h q)).natAbs ≤ Hs * ((A + 2 * B) * (A + 2 * B)) := by
  have x1 := hx 0 1 (by omega) (by omega) (by omega)
  have x2 := hx 0 2 (by omega) (by omega) (by omega)
  have x3 := hx 1 0 (by omega) (by omega) (by omega)
  have x5 := hx 1 2 (by omega) (by omega) (by omega)
  have x6 := hx 2 0 (by omega) (by omega) (by omega)
  have x7 := hx 2 1 (by omega) (by omega) (by omega)
  simp only [Nat.reduceMul, Nat.reduceAdd, Nat.zero_add, Nat.add_zero] at x1 x2 x3 x5 x6 x7
  have c0 := hc 0 (by omega)
  have c1 := hc 1 (by omega)
  have c2 := hc 2 (by omega)
  have k := det_abs (rz (mz c x) h q)
  refine Nat.le_trans k ?_
  have q3 : q = 0 ∨ q = 1 ∨ q = 2 := by omega
  rcases q3 with rfl | rfl | rfl
  · simp only [rz, mz, Nat.reduceMod, Nat.reduceDiv, Nat.reduceEqDiff, if_true, if_false, Nat.succ_ne_self, Nat.zero_ne_one, Nat.one_ne_zero, Nat.zero_mod, Nat.zero_div]
    rw [Nat.mul_assoc]
    exact Nat.mul_le_mul (by omega) (Nat.mul_le_mul (by omega) (by omega))
  · simp only [rz, mz, Nat.reduceMod, Nat.reduceDiv, Nat.reduceEqDiff, if_true, if_false, Nat.succ_ne_self, Nat.zero_ne_one, Nat.one_ne_zero, Nat.zero_mod, Nat.zero_div]
    rw [Nat.mul_comm (Int.natAbs _ + Int.natAbs _ + Int.natAbs _) (Int.natAbs _ + Int.natAbs _ + Int.natAbs _), Nat.mul_assoc]
    exact Nat.mul_le_mul (by omega) (Nat.mul_le_mul (by omega) (by omega))
  · simp only [rz, mz, Nat.reduceMod, Nat.reduceDiv, Nat.reduceEqDiff, if_true, if_false, Nat.succ_ne_self, Nat.zero_ne_one, Nat.one_ne_zero, Nat.zero_mod, Nat.zero_div]
    rw [Nat.mul_comm]
    exact Nat.mul_le_mul (by omega) (Nat.mul_le_mul (by omega) (by omega))
