/-! CALLS: row, set, drop, copy -/
theorem zI_z3 (X : zSt) (v : Int32) : zI (zsI X 3 v) 3 = v := rfl
theorem found_eq (X : zSt) (k : Int32) : fX_found X k = some (-9000000000000000010 - k.toInt64, zsI X 3 k) := rfl
theorem finding_eq (M : zSt) (k : Int32) : fM_finding M k = some (-9000000000000000010 - k.toInt64, zsI M 1 k) := rfl
theorem fine_eq (X : zSt) (v : Int64) : fX_fine X v = some (v, zsI X 3 0) := rfl
/-- a finding, status first set to 0 -/
theorem RwK_2 {X R T M : zSt} (v : Int32) (h : InvR X R T M) : RwK X (zsI X 3 v) M (zsI (zsI (zsI M 0 0) 1 0) 1 v) := by
  rw [zsI_twice]
  exact RwK_s0 v h
theorem RowsRel.put {X X' M M' : zSt} {r : Nat} (h : RowsRel X M) (hr : RowRel X' M' r) (h0 : ∀ q, q < 8 → q ≠ r → zA X' 0 q = zA X 0 q ∧ zA X' 1 q = zA X 1 q ∧ zA M' 2 q = zA M 2 q ∧ zA M' 3 q = zA M 3 q ∧ ∀ i, i < 40 → zA X' 2 (40 * q + i) = zA X 2 (40 * q + i) ∧ zA M' 4 (40 * q + i) = zA M 4 (40 * q + i)) : RowsRel X' M' := by
  intro q hq
  by_cases z : q = r
  · subst z; exact hr
  · obtain ⟨a, b, c, d, e⟩ := h0 q hq z
    unfold RowRel
    rw [a, b, c, d]
    rcases h q hq with k | ⟨n, l, k1, k2, k3, k4, k5, k6, k7⟩
    · exact Or.inl k
    · refine Or.inr ⟨n, l, k1, k2, k3, k4, k5, k6, fun i hi => ?_⟩
      rw [(e i (by omega)).1, (e i (by omega)).2]
      exact k7 i hi
theorem RwK_mk {X X' R T M M' : zSt} (h : InvR X R T M) (hr : RowsRel X' M') (h3 : zI X' 3 = nI 0) (m1 : zI M' 1 = nI 0) (h5 : ∀ k, k ≠ 3 → zI X' k = zI X k) (g5 : ∀ k, k ≠ 0 → k ≠ 1 → zI M' k = zI M k) (g6 : ∀ k, k ≠ 2 → k ≠ 3 → k ≠ 4 → zA M' k = zA M k) : RwK X X' M M' := ⟨hr, by rw [h3, m1], h5 5 (by omega), h5 6 (by omega), fun k a b _ _ _ => g5 k a b, fun k _ a b c => g6 k a b c⟩
theorem c_row {X R T M : zSt} (a b c : Int32) (hR : InvR X R T M) : ∃ v X' M', fX_row X a b c = some (v, X') ∧ fM_row M a b c = some (v, M') ∧ RwK X X' M M' := by
  have eN : ∀ (α : Type) (p q : α), (if b < 0 then p else (if 3 ≤ b then p else q)) = if decide (rng b 3) = true then q else p := by
    intro α p q
    have w := no_lt b 3 3 (by decide)
    by_cases h1 : b < 0
    · rw [if_pos h1] at w ⊢
      rw [ite_df (of_decide_eq_true (Option.some.inj w).symm)]
    · rw [if_neg h1] at w ⊢
      by_cases h2 : b < 3
      · rw [if_pos h2] at w
        rw [if_neg (Int32.not_le.mpr h2), ite_dt (Classical.byContradiction (of_decide_eq_false (Option.some.inj w).symm))]
      · rw [if_neg h2] at w
        rw [if_pos (Int32.not_lt.mp h2), ite_df (of_decide_eq_true (Option.some.inj w).symm)]
  by_cases za : rng a 8
  · by_cases zb : rng b 3
    · by_cases zc : c ≤ 40
      · by_cases zd : 0 ≤ c
        · have zc' : c.toInt ≤ 40 := Int32.le_iff_toInt_le.mp zc
          have zd' : 0 ≤ c.toInt := Int32.le_iff_toInt_le.mp zd
          have rc : rng c 41 := ⟨zd', by omega⟩
          have za' := za
          obtain ⟨r, hr, rfl⟩ := rng_nI za'
          have zb' := zb
          obtain ⟨l, hl, rfl⟩ := rng_nI zb'
          obtain ⟨n, hn, rfl⟩ := rng_nI rc
          have lX := row_loopX r n hr (by omega) n zF 0 (zsA (zsA X 0 r (nI l)) 1 r (nI n)) (by omega) (by unfold zF; omega)
          have lM := row_loopM r n hr (by omega) 40 zF 0 (zsA (zsA (zsI (zsI M 0 0) 1 0) 2 r (nI l)) 3 r (nI n)) (by omega) (by unfold zF; omega)
          refine ⟨lN n, zsI (zsAf (zsA (zsA X 0 r (nI l)) 1 r (nI n)) 2 fun i => if 40 * r + 0 ≤ i ∧ i < 40 * r + n then 0 else zA (zsA (zsA X 0 r (nI l)) 1 r (nI n)) 2 i) 3 0, zsAf (zsA (zsA (zsI (zsI M 0 0) 1 0) 2 r (nI l)) 3 r (nI n)) 4 (fun i => if 40 * r + 0 ≤ i ∧ i < 40 * r + 40 then 0 else zA (zsA (zsA (zsI (zsI M 0 0) 1 0) 2 r (nI l)) 3 r (nI n)) 4 i), ?_, ?_, ?_⟩
          · unfold fX_row
            rw [noRow_eq, bind_s, ite_df (fun q => q za), eN, ite_dt zb, if_pos zc, if_pos zd, zg_ix hr (by omega), clampN (by omega), zn_eq, zg_ix hr (by omega), zn_eq]
            exact lX
          · unfold fM_row
            rw [zn_eq, isRow_eq, bind_s, ite_dt za, in_rng _ 3 2 (by decide), bind_s, ite_dt zb, if_pos zc, zn_eq, if_pos zd, zg_ix hr (by omega), clampN (by omega), zn_eq, zg_ix hr (by omega), zn_eq]
            exact lM
          · refine RwK_mk hR (RowsRel.put (r := r) hR.1 ?_ ?_) rfl rfl (fun k hk => ?_) (fun k h1 h2 => ?_) (fun k h1 h2 h3 => ?_)
            · refine Or.inr ⟨n, l, by omega, hl, ?_, ?_, ?_, ?_, fun i hi => ?_⟩
              · show upd (zA X 1) r (nI n) r = _
                rw [upd_same]
              · show upd (zA X 0) r (nI l) r = _
                rw [upd_same]
              · show upd (zA M 2) r (nI l) r = _
                rw [upd_same]
              · show upd (zA M 3) r (nI n) r = _
                rw [upd_same]
              · show (if 40 * r + 0 ≤ 40 * r + i ∧ 40 * r + i < 40 * r + n then 0 else _) = (if 40 * r + 0 ≤ 40 * r + i ∧ 40 * r + i < 40 * r + 40 then 0 else _)
                rw [if_pos (by omega), if_pos (by omega)]
            · intro q hq hqr
              refine ⟨?_, ?_, ?_, ?_, fun i hi => ⟨?_, ?_⟩⟩
              · show upd (zA X 0) r (nI l) q = _
                rw [upd_ne hqr]
              · show upd (zA X 1) r (nI n) q = _
                rw [upd_ne hqr]
              · show upd (zA M 2) r (nI l) q = _
                rw [upd_ne hqr]
              · show upd (zA M 3) r (nI n) q = _
                rw [upd_ne hqr]
              · show (if 40 * r + 0 ≤ 40 * q + i ∧ 40 * q + i < 40 * r + n then 0 else zA X 2 (40 * q + i)) = _
                rw [if_neg (by omega)]
              · show (if 40 * r + 0 ≤ 40 * q + i ∧ 40 * q + i < 40 * r + 40 then 0 else zA M 4 (40 * q + i)) = _
                rw [if_neg (by omega)]
            · simp only [zI_zsI, zI_zsAf, zI_zsJ, zI_zsLf, zA_zsI, zA_zsAf, zA_zsJ, zA_zsLf, zJ_zsI, zJ_zsAf, zJ_zsJ, zJ_zsLf, zL_zsI, zL_zsAf, zL_zsJ, zL_zsLf, zI_zsA, zA_zsA, zJ_zsA, zL_zsA, zI_zsL, zA_zsL, zJ_zsL, zL_zsL, zn_eq]
              rw [if_neg hk]
            · simp only [zI_zsI, zI_zsAf, zI_zsJ, zI_zsLf, zA_zsI, zA_zsAf, zA_zsJ, zA_zsLf, zJ_zsI, zJ_zsAf, zJ_zsJ, zJ_zsLf, zL_zsI, zL_zsAf, zL_zsJ, zL_zsLf, zI_zsA, zA_zsA, zJ_zsA, zL_zsA, zI_zsL, zA_zsL, zJ_zsL, zL_zsL, zn_eq]
              rw [if_neg h2, if_neg h1]
            · simp only [zI_zsI, zI_zsAf, zI_zsJ, zI_zsLf, zA_zsI, zA_zsAf, zA_zsJ, zA_zsLf, zJ_zsI, zJ_zsAf, zJ_zsJ, zJ_zsLf, zL_zsI, zL_zsAf, zL_zsJ, zL_zsLf, zI_zsA, zA_zsA, zJ_zsA, zL_zsA, zI_zsL, zA_zsL, zJ_zsL, zL_zsL, zn_eq]
              rw [if_neg h3, if_neg h2, if_neg h1]
        · refine ⟨-9000000000000000010 - (4 : Int32).toInt64, zsI X 3 4, zsI (zsI (zsI M 0 0) 1 0) 1 4, ?_, ?_, RwK_2 4 hR⟩
          · unfold fX_row
            rw [noRow_eq, bind_s, ite_df (fun q => q za), eN, ite_dt zb, if_pos zc, if_neg zd, found_eq, bind_s]
          · unfold fM_row
            rw [zn_eq, isRow_eq, bind_s, ite_dt za, in_rng _ 3 2 (by decide), bind_s, ite_dt zb, if_pos zc, zn_eq, if_neg zd, finding_eq, bind_s]
      · refine ⟨-9000000000000000001, X, zsI M 0 0, ?_, ?_, RwK_0 hR⟩
        · unfold fX_row
          rw [noRow_eq, bind_s, ite_df (fun q => q za), eN, ite_dt zb, if_neg zc]
        · unfold fM_row
          rw [zn_eq, isRow_eq, bind_s, ite_dt za, in_rng _ 3 2 (by decide), bind_s, ite_dt zb, if_neg zc]
    · refine ⟨-9000000000000000001, X, zsI M 0 0, ?_, ?_, RwK_0 hR⟩
      · unfold fX_row
        rw [noRow_eq, bind_s, ite_df (fun q => q za), eN, ite_df zb]
      · unfold fM_row
        rw [zn_eq, isRow_eq, bind_s, ite_dt za, in_rng _ 3 2 (by decide), bind_s, ite_df zb]
  · refine ⟨-9000000000000000001, X, zsI M 0 0, ?_, ?_, RwK_0 hR⟩
    · unfold fX_row
      rw [noRow_eq, bind_s, ite_dt za]
    · unfold fM_row
      rw [zn_eq, isRow_eq, bind_s, ite_df za]
theorem miss_eq {X : zSt} {r : Nat} (hr : r < 8) : fX_isMissing X (nI r) = if zA X 1 r = -1 then some true else some false := by
  unfold fX_isMissing
  rw [zg_ix hr (by omega), clampN (by omega)]
theorem neg1 : ¬ (0 : Int32) ≤ -1 := by decide
theorem neg1' : (-1 : Int32) < 0 := by decide
theorem c_drop {X R T M : zSt} (a : Int32) (hR : InvR X R T M) : ∃ v X' M', fX_drop X a = some (v, X') ∧ fM_drop M a = some (v, M') ∧ RwK X X' M M' := by
  by_cases za : rng a 8
  · have za' := za
    obtain ⟨r, hr, rfl⟩ := rng_nI za'
    rcases hR.1 r hr with ⟨e1, e2⟩ | ⟨n, l, n1, l1, e1, e0, e2, e3, e4⟩
    · have e2' : zA (zsI (zsI M 0 0) 1 0) 2 r = -1 := e2
      refine ⟨-9000000000000000010 - (1 : Int32).toInt64, zsI X 3 1, zsI (zsI (zsI M 0 0) 1 0) 1 1, ?_, ?_, RwK_2 1 hR⟩
      · unfold fX_drop
        rw [noRow_eq, bind_s, ite_df (fun q => q za), miss_eq hr, e1, if_pos rfl, bind_s, if_pos rfl, found_eq, bind_s]
      · unfold fM_drop
        rw [zn_eq, isRow_eq, bind_s, ite_dt za, zn_eq, zg_ix hr (by omega), clampN (by omega), e2', if_neg neg1, finding_eq, bind_s]
    · have e2' : zA (zsI (zsI M 0 0) 1 0) 2 r = nI l := e2
      refine ⟨(nI n).toInt64, zsI (zsA X 1 r (-1)) 3 0, zsA (zsI (zsI M 0 0) 1 0) 2 r (-1), ?_, ?_, ?_⟩
      · unfold fX_drop
        rw [noRow_eq, bind_s, ite_df (fun q => q za), miss_eq hr, e1, if_neg (nI_ne_m1 n (by omega)), bind_s, if_neg Bool.false_ne_true, zg_ix hr (by omega), clampN (by omega), e1, zn_eq, zg_ix hr (by omega), zn_eq, fine_eq, bind_s]
      · unfold fM_drop
        rw [zn_eq, isRow_eq, bind_s, ite_dt za, zn_eq, zg_ix hr (by omega), clampN (by omega), e2', if_pos (nI_pos' (by omega)), zg_ix hr (by omega), zn_eq, zg_ix hr (by omega)]
        show some ((zA M 3 r).toInt64, _) = _
        rw [e3]
      · refine RwK_mk hR (RowsRel.put (r := r) hR.1 ?_ ?_) rfl rfl (fun k hk => ?_) (fun k h1 h2 => ?_) (fun k h1 h2 h3 => ?_)
        · refine Or.inl ⟨?_, ?_⟩
          · show upd (zA X 1) r (-1) r = _
            rw [upd_same]
          · show upd (zA M 2) r (-1) r = _
            rw [upd_same]
        · intro q hq hqr
          refine ⟨rfl, ?_, ?_, rfl, fun i hi => ⟨rfl, rfl⟩⟩
          · show upd (zA X 1) r (-1) q = _
            rw [upd_ne hqr]
          · show upd (zA M 2) r (-1) q = _
            rw [upd_ne hqr]
        · simp only [zI_zsI, zI_zsAf, zI_zsJ, zI_zsLf, zA_zsI, zA_zsAf, zA_zsJ, zA_zsLf, zJ_zsI, zJ_zsAf, zJ_zsJ, zJ_zsLf, zL_zsI, zL_zsAf, zL_zsJ, zL_zsLf, zI_zsA, zA_zsA, zJ_zsA, zL_zsA, zI_zsL, zA_zsL, zJ_zsL, zL_zsL, zn_eq]
          rw [if_neg hk]
        · simp only [zI_zsI, zI_zsAf, zI_zsJ, zI_zsLf, zA_zsI, zA_zsAf, zA_zsJ, zA_zsLf, zJ_zsI, zJ_zsAf, zJ_zsJ, zJ_zsLf, zL_zsI, zL_zsAf, zL_zsJ, zL_zsLf, zI_zsA, zA_zsA, zJ_zsA, zL_zsA, zI_zsL, zA_zsL, zJ_zsL, zL_zsL, zn_eq]
          rw [if_neg h2, if_neg h1]
        · simp only [zI_zsI, zI_zsAf, zI_zsJ, zI_zsLf, zA_zsI, zA_zsAf, zA_zsJ, zA_zsLf, zJ_zsI, zJ_zsAf, zJ_zsJ, zJ_zsLf, zL_zsI, zL_zsAf, zL_zsJ, zL_zsLf, zI_zsA, zA_zsA, zJ_zsA, zL_zsA, zI_zsL, zA_zsL, zJ_zsL, zL_zsL, zn_eq]
          rw [if_neg h1]
  · refine ⟨-9000000000000000001, X, zsI M 0 0, ?_, ?_, RwK_0 hR⟩
    · unfold fX_drop
      rw [noRow_eq, bind_s, ite_dt za]
    · unfold fM_drop
      rw [zn_eq, isRow_eq, bind_s, ite_df za]
theorem c_set {X R T M : zSt} (a b c : Int32) (hR : InvR X R T M) : ∃ v X' M', fX_set X a b c = some (v, X') ∧ fM_set M a b c = some (v, M') ∧ RwK X X' M M' := by
  by_cases za : rng a 8
  · have za' := za
    obtain ⟨r, hr, rfl⟩ := rng_nI za'
    rcases hR.1 r hr with ⟨e1, e2⟩ | ⟨n, l, n1, l1, e1, e0, e2, e3, e4⟩
    · have e2' : zA (zsI (zsI M 0 0) 1 0) 2 r = -1 := e2
      refine ⟨-9000000000000000010 - (1 : Int32).toInt64, zsI X 3 1, zsI (zsI (zsI M 0 0) 1 0) 1 1, ?_, ?_, RwK_2 1 hR⟩
      · unfold fX_set
        rw [noRow_eq, bind_s, ite_df (fun q => q za), miss_eq hr, e1, if_pos rfl, bind_s, if_pos rfl, found_eq, bind_s]
      · unfold fM_set
        rw [zn_eq, isRow_eq, bind_s, ite_dt za, zn_eq, zg_ix hr (by omega), clampN (by omega), e2', if_neg neg1, finding_eq, bind_s]
    · have e2' : zA (zsI (zsI M 0 0) 1 0) 2 r = nI l := e2
      have e3' : zA (zsI (zsI M 0 0) 1 0) 3 r = nI n := e3
      have eI : ((nI n - nI 1).toInt64).toInt = (n : Int) - 1 := by rw [toInt64_toInt, pk_sub_toInt (by omega) (by omega)]; omega
      by_cases zb : rng b n
      · have zb' := zb
        obtain ⟨i, hi, rfl⟩ := rng_nI zb'
        obtain ⟨v, hv⟩ : ∃ v, v = if nI l = 0 then c.toInt8.toInt32 else if nI l = 1 then c.toInt16.toInt32 else c := ⟨_, rfl⟩
        have eB : fX_lowestBits c (nI l) = some v := by
          unfold fX_lowestBits
          rw [hv]
          by_cases p : nI l = 0
          · rw [if_pos p, if_pos p]
          · rw [if_neg p, if_neg p]
            by_cases q : nI l = 1
            · rw [if_pos q, if_pos q]
            · rw [if_neg q, if_neg q]
        have eS : ∀ x, fM_set_b100 (zsI (zsI M 0 0) 1 0) (nI r) (nI i) x (nI (40 * r + i)) = some (x.toInt64, zsA (zsI (zsI M 0 0) 1 0) 4 (40 * r + i) x) := by
          intro x
          unfold fM_set_b100
          rw [zg_ix (by omega) (by omega), clampN (by omega), zn_eq, li40, pk_mul, nI_add, zg_ix (by omega) (by omega), clampN (by omega)]
          show some ((upd (zA M 4) (40 * r + i) x (40 * r + i)).toInt64, _) = _
          rw [upd_same]
        refine ⟨v.toInt64, zsI (zsA X 2 (40 * r + i) v) 3 0, zsA (zsI (zsI M 0 0) 1 0) 4 (40 * r + i) v, ?_, ?_, ?_⟩
        · unfold fX_set
          rw [noRow_eq, bind_s, ite_df (fun q => q za), miss_eq hr, e1, if_neg (nI_ne_m1 n (by omega)), bind_s, if_neg Bool.false_ne_true, if_neg (nI_pos (by omega)), zg_ix hr (by omega), clampN (by omega), e1, if_pos (nI_lt hi (by omega)), zg_ix hr (by omega), e0, eB, bind_s, idxX, zg_ix (by omega) (by omega), clampN (by omega), zn_eq, fine_eq, bind_s]
        · unfold fM_set
          rw [zn_eq, isRow_eq, bind_s, ite_dt za, zn_eq, zg_ix hr (by omega), clampN (by omega), e2', if_pos (nI_pos' (by omega)), zg_ix hr (by omega), e3', li1, in_rng _ n _ eI, bind_s, ite_dt zb, zg_ix hr (by omega), zg_ix hr (by omega), idxM, eS, eS, eS, hv, ← li1]
          by_cases p : nI l = 0
          · rw [if_pos p, if_pos p]
          · rw [if_neg p, if_neg p]
            by_cases q : nI l = 1
            · rw [if_pos q, if_pos q]
            · rw [if_neg q, if_neg q]
        · refine RwK_mk hR (RowsRel.put (r := r) hR.1 ?_ ?_) rfl rfl (fun k hk => ?_) (fun k h1 h2 => ?_) (fun k h1 h2 h3 => ?_)
          · refine Or.inr ⟨n, l, n1, l1, e1, e0, e2, e3, fun k hk => ?_⟩
            show upd (zA X 2) (40 * r + i) v (40 * r + k) = upd (zA M 4) (40 * r + i) v (40 * r + k)
            by_cases y : k = i
            · subst y; rw [upd_same, upd_same]
            · rw [upd_ne (by omega), upd_ne (by omega)]; exact e4 k hk
          · intro q hq hqr
            refine ⟨rfl, rfl, rfl, rfl, fun k hk => ⟨?_, ?_⟩⟩
            · show upd (zA X 2) (40 * r + i) v (40 * q + k) = _
              rw [upd_ne (by omega)]
            · show upd (zA M 4) (40 * r + i) v (40 * q + k) = _
              rw [upd_ne (by omega)]
          · simp only [zI_zsI, zI_zsAf, zI_zsJ, zI_zsLf, zA_zsI, zA_zsAf, zA_zsJ, zA_zsLf, zJ_zsI, zJ_zsAf, zJ_zsJ, zJ_zsLf, zL_zsI, zL_zsAf, zL_zsJ, zL_zsLf, zI_zsA, zA_zsA, zJ_zsA, zL_zsA, zI_zsL, zA_zsL, zJ_zsL, zL_zsL, zn_eq]
            rw [if_neg hk]
          · simp only [zI_zsI, zI_zsAf, zI_zsJ, zI_zsLf, zA_zsI, zA_zsAf, zA_zsJ, zA_zsLf, zJ_zsI, zJ_zsAf, zJ_zsJ, zJ_zsLf, zL_zsI, zL_zsAf, zL_zsJ, zL_zsLf, zI_zsA, zA_zsA, zJ_zsA, zL_zsA, zI_zsL, zA_zsL, zJ_zsL, zL_zsL, zn_eq]
            rw [if_neg h2, if_neg h1]
          · simp only [zI_zsI, zI_zsAf, zI_zsJ, zI_zsLf, zA_zsI, zA_zsAf, zA_zsJ, zA_zsLf, zJ_zsI, zJ_zsAf, zJ_zsJ, zJ_zsLf, zL_zsI, zL_zsAf, zL_zsJ, zL_zsLf, zI_zsA, zA_zsA, zJ_zsA, zL_zsA, zI_zsL, zA_zsL, zJ_zsL, zL_zsL, zn_eq]
            rw [if_neg h3]
      · refine ⟨-9000000000000000010 - (2 : Int32).toInt64, zsI X 3 2, zsI (zsI (zsI M 0 0) 1 0) 1 2, ?_, ?_, RwK_2 2 hR⟩
        · unfold fX_set
          rw [noRow_eq, bind_s, ite_df (fun q => q za), miss_eq hr, e1, if_neg (nI_ne_m1 n (by omega)), bind_s, if_neg Bool.false_ne_true, zg_ix hr (by omega), clampN (by omega), e1, found_eq, bind_s]
          by_cases h1 : b < 0
          · rw [if_pos h1]
          · rw [if_neg h1, if_neg]
            intro h2
            rw [lt0] at h1
            have h3 := Int32.lt_iff_toInt_lt.mp h2
            rw [nI_int (by omega)] at h3
            exact zb ⟨by omega, h3⟩
        · unfold fM_set
          rw [zn_eq, isRow_eq, bind_s, ite_dt za, zn_eq, zg_ix hr (by omega), clampN (by omega), e2', if_pos (nI_pos' (by omega)), zg_ix hr (by omega), e3', li1, in_rng _ n _ eI, bind_s, ite_df zb, finding_eq, bind_s]
  · refine ⟨-9000000000000000001, X, zsI M 0 0, ?_, ?_, RwK_0 hR⟩
    · unfold fX_set
      rw [noRow_eq, bind_s, ite_dt za]
    · unfold fM_set
      rw [zn_eq, isRow_eq, bind_s, ite_df za]
