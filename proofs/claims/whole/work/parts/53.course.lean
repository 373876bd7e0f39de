/-! COURSE: what the class's course and the reference's run have in common -/
def thn (w : Nat → Int32) : Nat → Nat
  | 0 => 0
  | i + 1 => thn w i + (if w i = nI 0 ∨ w i = nI 1 then 1 else 0)
def cnt (f : Nat → Int32) (v : Int32) : Nat → Nat
  | 0 => 0
  | n + 1 => cnt f v n + (if f n = v then 1 else 0)
theorem cnt_le (f : Nat → Int32) (v : Int32) (n : Nat) : cnt f v n ≤ n := by
  induction n with
  | zero => exact Nat.le_refl _
  | succ n ih => simp only [cnt]; split <;> omega
theorem cnt_congr (f g : Nat → Int32) (v : Int32) (n : Nat) (h : ∀ k, k < n → f k = g k) : cnt f v n = cnt g v n := by
  induction n with
  | zero => rfl
  | succ n ih => simp only [cnt]; rw [ih (fun k hk => h k (by omega)), h n (by omega)]
def LawR (S : zSt) (lw : Nat → Int32) (i : Nat) : Prop := ∃ m o h : Nat, m ≤ 1 ∧ o ≤ 4 ∧ h ≤ 100 ∧ (∀ w, w < 4 → zA S 3 (4 * i + w) = lw (8 * i + w)) ∧ (zA S 4 i = nI m ∧ lw (8 * i + 4) = nI m) ∧ (zA S 5 i = nI o ∧ lw (8 * i + 5) = nI o) ∧ zA S 6 i = lw (8 * i + 6) ∧ (zA S 7 i = nI h ∧ lw (8 * i + 7) = nI h)
def EvR (S : zSt) (ev : Nat → Int32) (l i : Nat) : Prop := ∃ k d a b c : Nat, k ≤ 6 ∧ d ≤ 999 ∧ (zA S 8 i = nI k ∧ ev (6 * i) = nI k) ∧ (zA S 9 i = nI d ∧ ev (6 * i + 1) = nI d) ∧ (zA S 10 i = nI a ∧ ev (6 * i + 2) = nI a) ∧ (k ≠ 5 → zA S 11 i = nI b ∧ ev (6 * i + 3) = nI b) ∧ (k ≤ 2 → zA S 12 i = nI c ∧ ev (6 * i + 4) = nI c) ∧ (k = 0 → a < 4 ∧ b ≤ 1 ∧ 1 ≤ c ∧ c ≤ 99) ∧ (k = 1 → a ≤ 99 ∧ b ≤ 99 ∧ c ≤ 99 ∧ 1 ≤ a + b + c) ∧ (k = 2 → a < thn (zA S 8) i ∧ b < 3 ∧ 1 ≤ c ∧ c ≤ 99) ∧ (k = 3 → a < thn (zA S 8) i ∧ b ≤ 99) ∧ (k = 4 → a < 3 ∧ 1 ≤ b ∧ b ≤ 99) ∧ (k = 5 → a < l) ∧ (k = 6 → a < 5 ∧ b < 3)
/-- the purse of a bought thing, m the law's word for mixed ones -/
def pay (m a b c : Nat) : Nat := if m = 1 ∧ ¬ (b = 0 ∧ c = 0) ∧ ¬ (a = 0 ∧ c = 0) ∧ ¬ (a = 0 ∧ b = 0) then 2 else if c ≤ a ∧ c ≤ b then (if b ≤ a then 0 else 1) else if c ≤ a ∨ c ≤ b then (if b ≤ a then 0 else 1) else 2
theorem pay_lt (m a b c : Nat) : pay m a b c < 3 := by
  unfold pay
  (repeat' split) <;> omega
theorem pop_eq (S : zSt) (la c m x y z : Nat) (hla : la < 4) (hc : c < 30) (hm : zA S 4 la = nI m) (hm1 : m ≤ 1) (h1 : zA S 10 c = nI x) (h2 : zA S 11 c = nI y) (h3 : zA S 12 c = nI z) (hx : x ≤ 99) (hy : y ≤ 99) (hz : z ≤ 99) : fS_purseOfPayers S (nI la) (nI c) = some (nI (pay m x y z)) := by
  by_cases p : x < y
  · by_cases q : z ≤ y
    · have q1 : ¬ y < z := by omega
      simp (disch := omega) only [fS_purseOfPayers, fS_purseOfPayers_b34, fS_purseOfPayers_b50, fS_purseOfPayers_b88, li0, li1, li2, li3, li4, li5, li6, li7, li8, li9, li10, li12, li13, li14, li16, li20, li21, li22, li23, li26, li30, li32, li40, li48, li50, li57, li59, li97, li99, li100, li122, li128, li180, li320, li500, li999, nI_add, pk_mul, subN, clampN, zg_ix, nlt, nle, neq, zn_eq, bind_s, ↓reduceIte, Nat.reduceAdd, Nat.reduceMul, Nat.reduceSub, Nat.reduceLeDiff, Nat.reduceEqDiff, Nat.add_zero, Nat.zero_add, Nat.reduceLT, Nat.mul_zero, h1, h2, h3, hm, p, q, q1]
      unfold pay
      (repeat' split) <;> first | rfl | (exfalso; omega)
    · have q1 : y < z := by omega
      simp (disch := omega) only [fS_purseOfPayers, fS_purseOfPayers_b34, fS_purseOfPayers_b50, fS_purseOfPayers_b88, li0, li1, li2, li3, li4, li5, li6, li7, li8, li9, li10, li12, li13, li14, li16, li20, li21, li22, li23, li26, li30, li32, li40, li48, li50, li57, li59, li97, li99, li100, li122, li128, li180, li320, li500, li999, nI_add, pk_mul, subN, clampN, zg_ix, nlt, nle, neq, zn_eq, bind_s, ↓reduceIte, Nat.reduceAdd, Nat.reduceMul, Nat.reduceSub, Nat.reduceLeDiff, Nat.reduceEqDiff, Nat.add_zero, Nat.zero_add, Nat.reduceLT, Nat.mul_zero, h1, h2, h3, hm, p, q, q1]
      unfold pay
      (repeat' split) <;> first | rfl | (exfalso; omega)
  · by_cases q : z ≤ x
    · have q1 : ¬ x < z := by omega
      simp (disch := omega) only [fS_purseOfPayers, fS_purseOfPayers_b34, fS_purseOfPayers_b50, fS_purseOfPayers_b88, li0, li1, li2, li3, li4, li5, li6, li7, li8, li9, li10, li12, li13, li14, li16, li20, li21, li22, li23, li26, li30, li32, li40, li48, li50, li57, li59, li97, li99, li100, li122, li128, li180, li320, li500, li999, nI_add, pk_mul, subN, clampN, zg_ix, nlt, nle, neq, zn_eq, bind_s, ↓reduceIte, Nat.reduceAdd, Nat.reduceMul, Nat.reduceSub, Nat.reduceLeDiff, Nat.reduceEqDiff, Nat.add_zero, Nat.zero_add, Nat.reduceLT, Nat.mul_zero, h1, h2, h3, hm, p, q, q1]
      unfold pay
      (repeat' split) <;> first | rfl | (exfalso; omega)
    · have q1 : x < z := by omega
      simp (disch := omega) only [fS_purseOfPayers, fS_purseOfPayers_b34, fS_purseOfPayers_b50, fS_purseOfPayers_b88, li0, li1, li2, li3, li4, li5, li6, li7, li8, li9, li10, li12, li13, li14, li16, li20, li21, li22, li23, li26, li30, li32, li40, li48, li50, li57, li59, li97, li99, li100, li122, li128, li180, li320, li500, li999, nI_add, pk_mul, subN, clampN, zg_ix, nlt, nle, neq, zn_eq, bind_s, ↓reduceIte, Nat.reduceAdd, Nat.reduceMul, Nat.reduceSub, Nat.reduceLeDiff, Nat.reduceEqDiff, Nat.add_zero, Nat.zero_add, Nat.reduceLT, Nat.mul_zero, h1, h2, h3, hm, p, q, q1]
      unfold pay
      (repeat' split) <;> first | rfl | (exfalso; omega)
theorem byLaw_s (n : Nat) (M : zSt) (x1 x2 x3 x4 x5 : Int32) : fM_byLaw_l53 (n + 1) M x1 x2 x3 x4 x5 = fM_byLaw_l53b (fun v0 v1 v2 v3 v4 v5 => fM_byLaw_l53 n v0 v1 v2 v3 v4 v5) M x1 x2 x3 x4 x5 := rfl
theorem byLaw_step (n : Nat) (M : zSt) (t at' mo q x vx vm mo' q' : Nat) (ht : t < 10) (hx : x < 3) (hmo : mo < 3) (hq : q ≤ 3) (e1 : zA M 38 (3 * t + x) = nI vx) (e2 : zA M 38 (3 * t + mo) = nI vm) (b1 : vx ≤ 99) (b2 : vm ≤ 99) (h1 : (vx ≤ vm ∧ mo' = mo) ∨ (¬ vx ≤ vm ∧ mo' = x)) (h2 : (vx ≤ 0 ∧ q' = q) ∨ (¬ vx ≤ 0 ∧ q' = q + 1)) : fM_byLaw_l53 (n + 1) M (nI t) (nI at') (nI mo) (nI q) (nI x) = fM_byLaw_l53 n M (nI t) (nI at') (nI mo') (nI q') (nI (x + 1)) := by
  have hx3 : ¬ 3 ≤ x := by omega
  rw [byLaw_s]
  rcases h1 with ⟨p, rfl⟩ | ⟨p, rfl⟩
  · rcases h2 with ⟨r, rfl⟩ | ⟨r, rfl⟩
    · simp (disch := omega) only [fM_byLaw_l53b, fM_byLaw_b89, li0, li1, li2, li3, li4, li5, li6, li7, li8, li9, li10, li12, li13, li14, li16, li20, li21, li22, li23, li26, li30, li32, li40, li48, li50, li57, li59, li97, li99, li100, li122, li128, li180, li320, li500, li999, nI_add, pk_mul, subN, clampN, zg_ix, nlt, nle, neq, zn_eq, bind_s, ↓reduceIte, Nat.reduceAdd, Nat.reduceMul, Nat.reduceSub, Nat.reduceLeDiff, Nat.reduceEqDiff, Nat.add_zero, Nat.zero_add, Nat.reduceLT, Nat.mul_zero, e1, e2, p, r, hx3]
    · simp (disch := omega) only [fM_byLaw_l53b, fM_byLaw_b89, li0, li1, li2, li3, li4, li5, li6, li7, li8, li9, li10, li12, li13, li14, li16, li20, li21, li22, li23, li26, li30, li32, li40, li48, li50, li57, li59, li97, li99, li100, li122, li128, li180, li320, li500, li999, nI_add, pk_mul, subN, clampN, zg_ix, nlt, nle, neq, zn_eq, bind_s, ↓reduceIte, Nat.reduceAdd, Nat.reduceMul, Nat.reduceSub, Nat.reduceLeDiff, Nat.reduceEqDiff, Nat.add_zero, Nat.zero_add, Nat.reduceLT, Nat.mul_zero, e1, e2, p, r, hx3]
  · rcases h2 with ⟨r, rfl⟩ | ⟨r, rfl⟩
    · simp (disch := omega) only [fM_byLaw_l53b, fM_byLaw_b89, li0, li1, li2, li3, li4, li5, li6, li7, li8, li9, li10, li12, li13, li14, li16, li20, li21, li22, li23, li26, li30, li32, li40, li48, li50, li57, li59, li97, li99, li100, li122, li128, li180, li320, li500, li999, nI_add, pk_mul, subN, clampN, zg_ix, nlt, nle, neq, zn_eq, bind_s, ↓reduceIte, Nat.reduceAdd, Nat.reduceMul, Nat.reduceSub, Nat.reduceLeDiff, Nat.reduceEqDiff, Nat.add_zero, Nat.zero_add, Nat.reduceLT, Nat.mul_zero, e1, e2, p, r, hx3]
    · simp (disch := omega) only [fM_byLaw_l53b, fM_byLaw_b89, li0, li1, li2, li3, li4, li5, li6, li7, li8, li9, li10, li12, li13, li14, li16, li20, li21, li22, li23, li26, li30, li32, li40, li48, li50, li57, li59, li97, li99, li100, li122, li128, li180, li320, li500, li999, nI_add, pk_mul, subN, clampN, zg_ix, nlt, nle, neq, zn_eq, bind_s, ↓reduceIte, Nat.reduceAdd, Nat.reduceMul, Nat.reduceSub, Nat.reduceLeDiff, Nat.reduceEqDiff, Nat.add_zero, Nat.zero_add, Nat.reduceLT, Nat.mul_zero, e1, e2, p, r, hx3]
theorem byLaw_end (n : Nat) (M : zSt) (t la m mo q : Nat) (hla : la < 4) (hm : zA M 9 (8 * la + 4) = nI m) (hm1 : m ≤ 1) (hq : q ≤ 3) (r : Nat) (h : (m = 1 ∧ 1 < q ∧ r = 2) ∨ (¬ (m = 1 ∧ 1 < q) ∧ r = mo)) : fM_byLaw_l53 (n + 1) M (nI t) (nI (8 * la)) (nI mo) (nI q) (nI 3) = some (nI r) := by
  rw [byLaw_s]
  simp (disch := omega) only [fM_byLaw_l53b, li0, li1, li2, li3, li4, li5, li6, li7, li8, li9, li10, li12, li13, li14, li16, li20, li21, li22, li23, li26, li30, li32, li40, li48, li50, li57, li59, li97, li99, li100, li122, li128, li180, li320, li500, li999, nI_add, pk_mul, subN, clampN, zg_ix, nlt, nle, neq, zn_eq, bind_s, ↓reduceIte, Nat.reduceAdd, Nat.reduceMul, Nat.reduceSub, Nat.reduceLeDiff, Nat.reduceEqDiff, Nat.add_zero, Nat.zero_add, Nat.reduceLT, Nat.mul_zero, hm]
  (repeat' split) <;> (congr 2; omega)
theorem byLaw_pay (n : Nat) (M : zSt) (t la m a b c : Nat) (ht : t < 10) (hla : la < 4) (hm : zA M 9 (8 * la + 4) = nI m) (hm1 : m ≤ 1) (h1 : zA M 38 (3 * t) = nI a) (h2 : zA M 38 (3 * t + 1) = nI b) (h3 : zA M 38 (3 * t + 2) = nI c) (ha : a ≤ 99) (hb : b ≤ 99) (hc : c ≤ 99) : fM_byLaw_l53 (n + 1 + 1 + 1 + 1) M (nI t) (nI (8 * la)) (nI 0) (nI 0) (nI 0) = some (nI (pay m a b c)) := by
  obtain ⟨q1, hq1⟩ : ∃ q1, (a ≤ 0 ∧ q1 = 0) ∨ (¬ a ≤ 0 ∧ q1 = 0 + 1) := by
    by_cases z : a ≤ 0
    · exact ⟨0, by omega⟩
    · exact ⟨1, by omega⟩
  obtain ⟨q2, hq2⟩ : ∃ q2, (b ≤ 0 ∧ q2 = q1) ∨ (¬ b ≤ 0 ∧ q2 = q1 + 1) := by
    by_cases z : b ≤ 0
    · exact ⟨q1, by omega⟩
    · exact ⟨q1 + 1, by omega⟩
  obtain ⟨q3, hq3⟩ : ∃ q3, (c ≤ 0 ∧ q3 = q2) ∨ (¬ c ≤ 0 ∧ q3 = q2 + 1) := by
    by_cases z : c ≤ 0
    · exact ⟨q2, by omega⟩
    · exact ⟨q2 + 1, by omega⟩
  rw [byLaw_step _ M t (8 * la) 0 0 0 a a 0 q1 ht (by omega) (by omega) (by omega) h1 h1 ha ha (by omega) hq1]
  by_cases z : b ≤ a
  · rw [byLaw_step _ M t (8 * la) 0 q1 1 b a 0 q2 ht (by omega) (by omega) (by omega) h2 h1 hb ha (by omega) hq2]
    by_cases y : c ≤ a
    · rw [byLaw_step _ M t (8 * la) 0 q2 2 c a 0 q3 ht (by omega) (by omega) (by omega) h3 h1 hc ha (by omega) hq3]
      refine byLaw_end _ M t la m 0 q3 hla hm hm1 (by omega) _ ?_
      unfold pay
      (repeat' split) <;> omega
    · rw [byLaw_step _ M t (8 * la) 0 q2 2 c a 2 q3 ht (by omega) (by omega) (by omega) h3 h1 hc ha (by omega) hq3]
      refine byLaw_end _ M t la m 2 q3 hla hm hm1 (by omega) _ ?_
      unfold pay
      (repeat' split) <;> omega
  · rw [byLaw_step _ M t (8 * la) 0 q1 1 b a 1 q2 ht (by omega) (by omega) (by omega) h2 h1 hb ha (by omega) hq2]
    by_cases y : c ≤ b
    · rw [byLaw_step _ M t (8 * la) 1 q2 2 c b 1 q3 ht (by omega) (by omega) (by omega) h3 h2 hc hb (by omega) hq3]
      refine byLaw_end _ M t la m 1 q3 hla hm hm1 (by omega) _ ?_
      unfold pay
      (repeat' split) <;> omega
    · rw [byLaw_step _ M t (8 * la) 1 q2 2 c b 2 q3 ht (by omega) (by omega) (by omega) h3 h2 hc hb (by omega) hq3]
      refine byLaw_end _ M t la m 2 q3 hla hm hm1 (by omega) _ ?_
      unfold pay
      (repeat' split) <;> omega
