/-! ROWS: row, set, copy, drop; status, fault, trace -/
theorem idxX (r k : Nat) : nI r * 40 + nI k = nI (40 * r + k) := by rw [show (40 : Int32) = nI 40 from rfl, pk_mul, nI_add, Nat.mul_comm]
theorem idxM (r k : Nat) : 40 * nI r + nI k = nI (40 * r + k) := by rw [show (40 : Int32) = nI 40 from rfl, pk_mul, nI_add]
def RowRel (X M : zSt) (r : Nat) : Prop := (zA X 1 r = -1 ∧ zA M 2 r = -1) ∨ (∃ n l : Nat, n ≤ 40 ∧ l < 3 ∧ zA X 1 r = nI n ∧ zA X 0 r = nI l ∧ zA M 2 r = nI l ∧ zA M 3 r = nI n ∧ ∀ i, i < n → zA X 2 (40 * r + i) = zA M 4 (40 * r + i))
def RowsRel (X M : zSt) : Prop := ∀ r, r < 8 → RowRel X M r
theorem RowsRel.congr {X M X' M' : zSt} (h : RowsRel X M) (h0 : zA X' 0 = zA X 0) (h1 : zA X' 1 = zA X 1) (h2 : zA X' 2 = zA X 2) (h3 : zA M' 2 = zA M 2) (h4 : zA M' 3 = zA M 3) (h5 : zA M' 4 = zA M 4) : RowsRel X' M' := by
  intro r hr
  have := h r hr
  unfold RowRel at this ⊢
  rw [h0, h1, h2, h3, h4, h5]
  exact this
theorem fX_isNoRow_eq (a : Int32) : fX_isNoRow a = some (decide (¬ (0 ≤ a.toInt ∧ a.toInt < 8))) := by
  unfold fX_isNoRow
  by_cases h1 : a < 0
  · rw [if_pos h1]
    have := Int32.lt_iff_toInt_lt.mp h1
    have h2 : a.toInt < 0 := by simpa using this
    have : ¬ (0 ≤ a.toInt ∧ a.toInt < 8) := by omega
    simp [this]
  · rw [if_neg h1]
    have h1 : ¬ a.toInt < 0 := fun z => h1 (Int32.lt_iff_toInt_lt.mpr (by simpa using z))
    by_cases h2 : a < 8
    · rw [if_pos h2]
      have := Int32.lt_iff_toInt_lt.mp h2
      have h3 : a.toInt < 8 := by simpa using this
      have : 0 ≤ a.toInt ∧ a.toInt < 8 := by omega
      simp [this]
    · rw [if_neg h2]
      have h2 : ¬ a.toInt < 8 := fun z => h2 (Int32.lt_iff_toInt_lt.mpr (by simpa using z))
      have : ¬ (0 ≤ a.toInt ∧ a.toInt < 8) := by omega
      simp [this]
theorem fM_isRow_eq (a : Int32) : fM_isRow a = some (decide (0 ≤ a.toInt ∧ a.toInt < 8)) := by
  unfold fM_isRow
  rw [fM_in_int, bind_s]
  have : ((0 : Int64).toInt ≤ a.toInt ∧ a.toInt ≤ (7 : Int64).toInt) = (0 ≤ a.toInt ∧ a.toInt < 8) := by
    have e1 : (0 : Int64).toInt = 0 := by decide
    have e2 : (7 : Int64).toInt = 7 := by decide
    rw [e1, e2]
    exact propext ⟨fun h => by omega, fun h => by omega⟩
  rw [decide_eq_decide.mpr (iff_of_eq this)]
theorem zsI_zsI_comm (s : zSt) (j k : Nat) (v w : Int32) (h : j ≠ k) : zsI (zsI s j v) k w = zsI (zsI s k w) j v := zst_ext (fun i => by
  simp only [zI_zsI]
  by_cases h1 : i = k
  · subst h1; simp [Ne.symm h]
  · simp [h1]) (fun _ _ => rfl) (fun _ => rfl) (fun _ _ => rfl)
theorem row_loopX (r n : Nat) (hr : r < 8) (hn : n ≤ 40) : ∀ (d fuel k : Nat) (s : zSt), k + d = n → d < fuel → fX_row_l53 fuel s (nI r) (nI n) (nI k) = some (lN n, zsI (zsAf s 2 (fun i => if 40 * r + k ≤ i ∧ i < 40 * r + n then 0 else zA s 2 i)) 3 0) := by
  intro d
  induction d with
  | zero =>
    intro fuel k s hk hf
    obtain ⟨m, rfl⟩ : ∃ m, fuel = m + 1 := ⟨fuel - 1, by omega⟩
    show fX_row_l53b _ s (nI r) (nI n) (nI k) = _
    unfold fX_row_l53b
    rw [if_pos (nI_le (by omega) (by omega))]
    unfold fX_fine
    simp only [zn_eq, bind_s]
    rw [nI_l (by omega)]
    have : (fun i => if 40 * r + k ≤ i ∧ i < 40 * r + n then 0 else zA s 2 i) = zA s 2 := by
      funext i
      rw [if_neg (by omega)]
    rw [this, zsAf_self]
  | succ d ih =>
    intro fuel k s hk hf
    obtain ⟨m, rfl⟩ : ∃ m, fuel = m + 1 := ⟨fuel - 1, by omega⟩
    show fX_row_l53b _ s (nI r) (nI n) (nI k) = _
    unfold fX_row_l53b
    rw [if_neg (nI_ge (by omega) (by omega)), idxX, zg_t (zix_t (by omega) (by omega))]
    simp only [zn_eq]
    rw [nI_1, nI_clamp (by omega), ih m (k + 1) _ (by omega) (by omega)]
    simp only [zsA_def, zsAf_twice, zA_zsAf, if_true]
    congr 3
    congr 1
    funext i
    simp only [upd_app]
    by_cases h1 : 40 * r + k + 1 ≤ i ∧ i < 40 * r + n
    · rw [if_pos (by omega), if_pos (by omega)]
    · rw [if_neg (by omega)]
      by_cases h2 : i = 40 * r + k
      · rw [if_pos h2, if_pos (by omega)]
      · rw [if_neg h2, if_neg (by omega)]
theorem row_loopM (r n : Nat) (hr : r < 8) (hn : n ≤ 40) : ∀ (d fuel k : Nat) (s : zSt), k + d = 40 → d < fuel → fM_row_l66 fuel s (nI r) (nI n) (nI k) = some (lN n, zsAf s 4 (fun i => if 40 * r + k ≤ i ∧ i < 40 * r + 40 then 0 else zA s 4 i)) := by
  intro d
  induction d with
  | zero =>
    intro fuel k s hk hf
    obtain ⟨m, rfl⟩ : ∃ m, fuel = m + 1 := ⟨fuel - 1, by omega⟩
    show fM_row_l66b _ s (nI r) (nI n) (nI k) = _
    unfold fM_row_l66b
    rw [if_pos (by rw [show (40 : Int32) = nI 40 from rfl]; exact nI_le (by omega) (by omega)), nI_l (by omega)]
    have : (fun i => if 40 * r + k ≤ i ∧ i < 40 * r + 40 then 0 else zA s 4 i) = zA s 4 := by
      funext i
      rw [if_neg (by omega)]
    rw [this, zsAf_self]
  | succ d ih =>
    intro fuel k s hk hf
    obtain ⟨m, rfl⟩ : ∃ m, fuel = m + 1 := ⟨fuel - 1, by omega⟩
    show fM_row_l66b _ s (nI r) (nI n) (nI k) = _
    unfold fM_row_l66b
    rw [if_neg (by rw [show (40 : Int32) = nI 40 from rfl]; exact nI_ge (by omega) (by omega)), idxM, zg_t (zix_t (by omega) (by omega))]
    simp only [zn_eq]
    rw [nI_1, nI_clamp (by omega), ih m (k + 1) _ (by omega) (by omega)]
    simp only [zsA_def, zsAf_twice, zA_zsAf, if_true]
    congr 3
    funext i
    simp only [upd_app]
    by_cases h1 : 40 * r + k + 1 ≤ i ∧ i < 40 * r + 40
    · rw [if_pos (by omega), if_pos (by omega)]
    · rw [if_neg (by omega)]
      by_cases h2 : i = 40 * r + k
      · rw [if_pos h2, if_pos (by omega)]
      · rw [if_neg h2, if_neg (by omega)]
/-- what a call of both sides leaves of the reference, apart from its scratch -/
def MKeep (M M' : zSt) : Prop := (∀ k, k ≠ 0 → k ≠ 1 → zI M' k = zI M k) ∧ (∀ k, k ≠ 2 → k ≠ 3 → k ≠ 4 → zA M' k = zA M k)
def XKeep (X X' : zSt) : Prop := (∀ k, k ≠ 3 → zI X' k = zI X k)
