/-! CALLS: copy, judge -/
theorem add64 (x y : Int32) : (x.toInt64 + y.toInt64).toInt = x.toInt + y.toInt := by
  have a1 := Int32.le_toInt x
  have a2 := Int32.toInt_lt x
  have b1 := Int32.le_toInt y
  have b2 := Int32.toInt_lt y
  rw [i64_ofInt x, i64_ofInt y, ← Int64.ofInt_add, Int64.toInt_ofInt_of_le (by omega) (by omega)]
abbrev fit (i m : Int32) (n : Nat) : Prop := 0 ≤ i.toInt ∧ 0 ≤ m.toInt ∧ i.toInt + m.toInt ≤ n
theorem lack_eq {X : zSt} {r n : Nat} (i m : Int32) (hr : r < 8) (hn : n ≤ 40) (e : zA X 1 r = nI n) : fX_lacksItems X (nI r) i m = some (decide (¬ fit i m n)) := by
  unfold fX_lacksItems
  rw [zg_ix hr (by omega), clampN (by omega), e]
  by_cases h1 : i < 0
  · rw [if_pos h1]
    rw [lt0] at h1
    rw [decide_eq_true (show ¬ fit i m n from fun z => by have := z.1; omega)]
  · rw [if_neg h1]
    rw [lt0] at h1
    by_cases h2 : m < 0
    · rw [if_pos h2]
      rw [lt0] at h2
      rw [decide_eq_true (show ¬ fit i m n from fun z => by have := z.2.1; omega)]
    · rw [if_neg h2]
      rw [lt0] at h2
      have q : (i.toInt64 + m.toInt64 ≤ (nI n).toInt64) = (i.toInt + m.toInt ≤ n) := propext (by rw [Int64.le_iff_toInt_le, add64, toInt64_toInt, nI_int (by omega)])
      by_cases h3 : i.toInt64 + m.toInt64 ≤ (nI n).toInt64
      · rw [if_pos h3]
        rw [q] at h3
        rw [decide_eq_false (show ¬ ¬ fit i m n from fun z => z ⟨by omega, by omega, h3⟩)]
      · rw [if_neg h3]
        rw [q] at h3
        rw [decide_eq_true (show ¬ fit i m n from fun z => h3 z.2.2)]
theorem cp_s (n : Nat) (M : zSt) (x1 x2 x3 x4 x5 x6 x7 : Int32) : fM_copy_l144 (n + 1) M x1 x2 x3 x4 x5 x6 x7 = fM_copy_l144b (fun v0 v1 v2 v3 v4 v5 v6 v7 => fM_copy_l144 n v0 v1 v2 v3 v4 v5 v6 v7) M x1 x2 x3 x4 x5 x6 x7 := rfl
theorem idx3 (a i k : Nat) : (40 : Int32) * nI a + nI i + nI k = nI (40 * a + i + k) := by rw [li40, pk_mul, nI_add, nI_add]
theorem cp_up {a i b j n : Nat} (M : zSt) (ha : 40 * a + i + n ≤ 320) (hb : 40 * b + j + n ≤ 320) (hd : ∀ k, k < n → ¬ (40 * b + j ≤ 40 * a + i + k ∧ 40 * a + i + k < 40 * b + j + k)) : ∀ (d k f : Nat), k + d = n → d < f → fM_copy_l144 f (zsAf M 4 (va_cpy (zA M 4) (zA M 4) (40 * a + i) (40 * b + j) k)) (nI a) (nI i) (nI b) (nI j) (nI n) 1 (nI k) = some ((nI n).toInt64, zsAf M 4 (va_cpy (zA M 4) (zA M 4) (40 * a + i) (40 * b + j) n)) := by
  intro d
  induction d with
  | zero =>
    intro k f hk hf
    obtain ⟨m, rfl⟩ : ∃ m, f = m + 1 := ⟨f - 1, by omega⟩
    have : k = n := by omega
    subst this
    rw [cp_s]
    unfold fM_copy_l144b
    rw [if_pos (Int32.le_refl _)]
  | succ d ih =>
    intro k f hk hf
    obtain ⟨m, rfl⟩ : ∃ m, f = m + 1 := ⟨f - 1, by omega⟩
    rw [← ih (k + 1) m (by omega) (by omega), cp_s]
    unfold fM_copy_l144b fM_copy_b168
    rw [if_neg (by rw [nle (by omega) (by omega)]; omega), if_neg (by decide), idx3, idx3, zg_ix (by omega) (by omega), zg_ix (by omega) (by omega), zn_eq, clampN (by omega), clampN (by omega), zn_eq, nI_1, zsA_def, zsAf_twice]
    congr 1
    congr 1
    funext x
    simp only [zA_zsAf, if_true, upd_app]
    have hk' := hd k (by omega)
    unfold va_cpy
    by_cases y : x = 40 * b + j + k
    · rw [if_pos y, if_neg hk', if_pos (by omega), y]
      congr 1
      omega
    · rw [if_neg y]
      by_cases z : 40 * b + j ≤ x ∧ x < 40 * b + j + k
      · rw [if_pos z, if_pos (by omega)]
      · rw [if_neg z, if_neg (by omega)]
def cpd (f : Nat → Int32) (sp dp n k : Nat) : Nat → Int32 := fun x => if dp + n - k ≤ x ∧ x < dp + n then f (sp + (x - dp)) else f x
theorem cp_dn {a i b j n : Nat} (M : zSt) (ha : 40 * a + i + n ≤ 320) (hb : 40 * b + j + n ≤ 320) (hd : ∀ k, k < n → ¬ (40 * b + j + n - k ≤ 40 * a + i + (n - 1 - k) ∧ 40 * a + i + (n - 1 - k) < 40 * b + j + n)) : ∀ (d k f : Nat), k + d = n → d < f → fM_copy_l144 f (zsAf M 4 (cpd (zA M 4) (40 * a + i) (40 * b + j) n k)) (nI a) (nI i) (nI b) (nI j) (nI n) 0 (nI k) = some ((nI n).toInt64, zsAf M 4 (va_cpy (zA M 4) (zA M 4) (40 * a + i) (40 * b + j) n)) := by
  intro d
  induction d with
  | zero =>
    intro k f hk hf
    obtain ⟨m, rfl⟩ : ∃ m, f = m + 1 := ⟨f - 1, by omega⟩
    have : k = n := by omega
    subst this
    rw [cp_s]
    unfold fM_copy_l144b
    rw [if_pos (Int32.le_refl _)]
    congr 3
    funext x
    unfold cpd va_cpy
    by_cases z : 40 * b + j ≤ x ∧ x < 40 * b + j + k
    · rw [if_pos z, if_pos (by omega)]
    · rw [if_neg z, if_neg (by omega)]
  | succ d ih =>
    intro k f hk hf
    obtain ⟨m, rfl⟩ : ∃ m, f = m + 1 := ⟨f - 1, by omega⟩
    rw [← ih (k + 1) m (by omega) (by omega), cp_s]
    unfold fM_copy_l144b fM_copy_b168
    rw [if_neg (by rw [nle (by omega) (by omega)]; omega), if_pos rfl, li1, pk_sub (by omega), pk_sub (by omega), idx3, idx3, zg_ix (by omega) (by omega), zg_ix (by omega) (by omega), zn_eq, clampN (by omega), clampN (by omega), zn_eq, nI_add, zsA_def, zsAf_twice]
    congr 1
    congr 1
    funext x
    simp only [zA_zsAf, if_true, upd_app]
    have hk' := hd k (by omega)
    unfold cpd
    by_cases y : x = 40 * b + j + (n - 1 - k)
    · rw [if_pos y, if_neg hk', if_pos (by omega), y]
      congr 1
      omega
    · rw [if_neg y]
      by_cases z : 40 * b + j + n - k ≤ x ∧ x < 40 * b + j + n
      · rw [if_pos z, if_pos (by omega)]
      · rw [if_neg z, if_neg (by omega)]
theorem c_copy {X R T M : zSt} (a i b j n : Int32) (hR : InvR X R T M) : ∃ v X' M', fX_copy X a i b j n = some (v, X') ∧ fM_copy M a i b j n = some (v, M') ∧ RwK X X' M M' := by
  by_cases za : rng a 8
  · by_cases zb : rng b 8
    · have za' := za
      obtain ⟨r, hr, rfl⟩ := rng_nI za'
      have zb' := zb
      obtain ⟨s, hs, rfl⟩ := rng_nI zb'
      have hX : fX_copy X (nI r) i (nI s) j n = Option.bind (fX_isMissing X (nI r)) fun y3 => if y3 = true then (Option.bind (fX_found X 1) fun y4 => some (y4.1, y4.2)) else (Option.bind (fX_isMissing X (nI s)) fun y5 => if y5 = true then (Option.bind (fX_found X 1) fun y13 => some (y13.1, y13.2)) else (if (zA X 0 r) = (zA X 0 s) then (Option.bind (fX_lacksItems X (nI r) i n) fun y6 => if y6 = true then (Option.bind (fX_found X 2) fun y7 => some (y7.1, y7.2)) else (Option.bind (fX_lacksItems X (nI s) j n) fun y8 => if y8 = true then (Option.bind (fX_found X 2) fun y11 => some (y11.1, y11.2)) else (zg (zcp ((nI r * 40) + i) ((nI s * 40) + j) n 320) <| zn (zsAf X 2 (va_cpy (zA X 2) (zA X 2) ((nI r * 40) + i).toNatClampNeg ((nI s * 40) + j).toNatClampNeg n.toNatClampNeg)) fun sX9 => Option.bind (fX_fine sX9 (n.toInt64)) fun y10 => some (y10.1, y10.2)))) else (Option.bind (fX_found X 5) fun y12 => some (y12.1, y12.2)))) := by
        unfold fX_copy
        rw [noRow_eq, bind_s, ite_df (fun q => q za), noRow_eq, bind_s, ite_df (fun q => q zb), zg_ix hr (by omega), zg_ix hs (by omega), clampN (show r < 2 ^ 31 by omega), clampN (show s < 2 ^ 31 by omega)]
      have hM : fM_copy M (nI r) i (nI s) j n = if (zA M 2 r) < 0 then (some (-9000000000000000010 - (1 : Int32).toInt64, zsI (zsI (zsI M 0 0) 1 0) 1 1)) else (if 0 ≤ (zA M 2 s) then (if (zA M 2 r) = (zA M 2 s) then (if i < 0 then (some (-9000000000000000010 - (2 : Int32).toInt64, zsI (zsI (zsI M 0 0) 1 0) 1 2)) else (if j < 0 then (some (-9000000000000000010 - (2 : Int32).toInt64, zsI (zsI (zsI M 0 0) 1 0) 1 2)) else (if n < 0 then (some (-9000000000000000010 - (2 : Int32).toInt64, zsI (zsI (zsI M 0 0) 1 0) 1 2)) else (if ((zA M 3 r).toInt64) < ((i.toInt64) + (n.toInt64)) then (some (-9000000000000000010 - (2 : Int32).toInt64, zsI (zsI (zsI M 0 0) 1 0) 1 2)) else (if ((j.toInt64) + (n.toInt64)) ≤ ((zA M 3 s).toInt64) then (if i < j then (fM_copy_l144 zF (zsI (zsI M 0 0) 1 0) (nI r) i (nI s) j n 0 0) else (fM_copy_l144 zF (zsI (zsI M 0 0) 1 0) (nI r) i (nI s) j n 1 0)) else (some (-9000000000000000010 - (2 : Int32).toInt64, zsI (zsI (zsI M 0 0) 1 0) 1 2))))))) else (some (-9000000000000000010 - (5 : Int32).toInt64, zsI (zsI (zsI M 0 0) 1 0) 1 5))) else (some (-9000000000000000010 - (1 : Int32).toInt64, zsI (zsI (zsI M 0 0) 1 0) 1 1))) := by
        unfold fM_copy
        rw [zn_eq, isRow_eq, bind_s, ite_dt za, isRow_eq, bind_s, ite_dt zb, zn_eq]
        simp only [zg_ix hr (show 8 ≤ 1000 by omega), zg_ix hs (show 8 ≤ 1000 by omega), clampN (show r < 2 ^ 31 by omega), clampN (show s < 2 ^ 31 by omega), finding_eq, bind_s, zA_zsI]
      rw [hX, hM, miss_eq hr, miss_eq hs]
      have f1 : ∃ v X' M', (some (-9000000000000000010 - (1 : Int32).toInt64, zsI X 3 1) : Option (Int64 × zSt)) = some (v, X') ∧ (some (-9000000000000000010 - (1 : Int32).toInt64, zsI (zsI (zsI M 0 0) 1 0) 1 1) : Option (Int64 × zSt)) = some (v, M') ∧ RwK X X' M M' := ⟨_, _, _, rfl, rfl, RwK_2 1 hR⟩
      have f2 : ∃ v X' M', (some (-9000000000000000010 - (2 : Int32).toInt64, zsI X 3 2) : Option (Int64 × zSt)) = some (v, X') ∧ (some (-9000000000000000010 - (2 : Int32).toInt64, zsI (zsI (zsI M 0 0) 1 0) 1 2) : Option (Int64 × zSt)) = some (v, M') ∧ RwK X X' M M' := ⟨_, _, _, rfl, rfl, RwK_2 2 hR⟩
      rcases hR.1 r hr with ⟨e1, e2⟩ | ⟨na, la, n1, l1, e1, e0, e2, e3, e4⟩
      · rw [e1, if_pos rfl, bind_s, if_pos rfl, e2, if_pos neg1', found_eq, bind_s]
        exact f1
      · rw [e1, if_neg (nI_ne_m1 na (by omega)), bind_s, if_neg Bool.false_ne_true, e2, if_neg (nI_pos (by omega))]
        rcases hR.1 s hs with ⟨g1, g2⟩ | ⟨nb, lb, m1, k1, g1, g0, g2, g3, g4⟩
        · rw [g1, if_pos rfl, bind_s, if_pos rfl, g2, if_neg neg1, found_eq, bind_s]
          exact f1
        · rw [g1, if_neg (nI_ne_m1 nb (by omega)), bind_s, if_neg Bool.false_ne_true, g2, if_pos (nI_pos' (by omega)), e0, g0, e3, g3]
          by_cases hl : nI la = nI lb
          · rw [if_pos hl, if_pos hl, lack_eq i n hr n1 e1, bind_s, lack_eq j n hs m1 g1, bind_s, found_eq, bind_s]
            by_cases p : fit i n na
            · rw [ite_df (fun q => q p)]
              have i0 : ¬ i < 0 := by rw [lt0]; have := p.1; omega
              have n0 : ¬ n < 0 := by rw [lt0]; have := p.2.1; omega
              have ia : ¬ (nI na).toInt64 < i.toInt64 + n.toInt64 := by
                rw [Int64.lt_iff_toInt_lt, add64, toInt64_toInt, nI_int (by omega)]
                have := p.2.2
                omega
              rw [if_neg i0, if_neg n0, if_neg ia]
              by_cases q : fit j n nb
              · have j0 : ¬ j < 0 := by rw [lt0]; have := q.1; omega
                have jb : j.toInt64 + n.toInt64 ≤ (nI nb).toInt64 := by
                  rw [Int64.le_iff_toInt_le, add64, toInt64_toInt, nI_int (by omega)]
                  exact q.2.2
                rw [ite_df (fun w => w q), if_neg j0, if_pos jb]
                obtain ⟨i', hi', rfl⟩ := rng_nI (show rng i 41 from ⟨p.1, by have := p.2.2; have := p.2.1; omega⟩)
                obtain ⟨j', hj', rfl⟩ := rng_nI (show rng j 41 from ⟨q.1, by have := q.2.2; have := q.2.1; omega⟩)
                obtain ⟨m, hm, rfl⟩ := rng_nI (show rng n 41 from ⟨p.2.1, by have := p.2.2; have := p.1; omega⟩)
                have pp := p.2.2
                have qq := q.2.2
                rw [nI_int (by omega), nI_int (by omega)] at pp qq
                have c1 : zcp (nI (40 * r + i')) (nI (40 * s + j')) (nI m) 320 = true := by
                  unfold zcp
                  apply decide_eq_true
                  rw [clampN (by omega), clampN (by omega), clampN (by omega)]
                  exact ⟨nI_pos (by omega), nI_pos (by omega), nI_pos (by omega), by omega, by omega⟩
                rw [idxX, idxX, zg_t c1, clampN (by omega), clampN (by omega), clampN (by omega), zn_eq, fine_eq, bind_s]
                have cM : (if nI i' < nI j' then fM_copy_l144 zF (zsI (zsI M 0 0) 1 0) (nI r) (nI i') (nI s) (nI j') (nI m) 0 0 else fM_copy_l144 zF (zsI (zsI M 0 0) 1 0) (nI r) (nI i') (nI s) (nI j') (nI m) 1 0) = some ((nI m).toInt64, zsAf (zsI (zsI M 0 0) 1 0) 4 (va_cpy (zA M 4) (zA M 4) (40 * r + i') (40 * s + j') m)) := by
                  by_cases w : nI i' < nI j'
                  · rw [if_pos w]
                    rw [nlt (by omega) (by omega)] at w
                    have k := cp_dn (a := r) (i := i') (b := s) (j := j') (n := m) (zsI (zsI M 0 0) 1 0) (by omega) (by omega) (fun k hk z => by omega) m 0 zF (by omega) (by unfold zF; omega)
                    have e : cpd (zA (zsI (zsI M 0 0) 1 0) 4) (40 * r + i') (40 * s + j') m 0 = zA (zsI (zsI M 0 0) 1 0) 4 := by
                      funext x
                      unfold cpd
                      rw [if_neg (by omega)]
                    rw [e, zsAf_self] at k
                    exact k
                  · rw [if_neg w]
                    rw [nlt (by omega) (by omega)] at w
                    have k := cp_up (a := r) (i := i') (b := s) (j := j') (n := m) (zsI (zsI M 0 0) 1 0) (by omega) (by omega) (fun k hk z => by omega) m 0 zF (by omega) (by unfold zF; omega)
                    have e : va_cpy (zA (zsI (zsI M 0 0) 1 0) 4) (zA (zsI (zsI M 0 0) 1 0) 4) (40 * r + i') (40 * s + j') 0 = zA (zsI (zsI M 0 0) 1 0) 4 := by
                      funext x
                      unfold va_cpy
                      rw [if_neg (by omega)]
                    rw [e, zsAf_self] at k
                    exact k
                rw [cM]
                refine ⟨_, _, _, rfl, rfl, ?_⟩
                refine RwK_mk hR ?_ rfl rfl (fun k hk => ?_) (fun k h1 h2 => ?_) (fun k h1 h2 h3 => ?_)
                · intro u hu
                  have hx : ∀ x, zA (zsI (zsAf X 2 (va_cpy (zA X 2) (zA X 2) (40 * r + i') (40 * s + j') m)) 3 0) 2 x = va_cpy (zA X 2) (zA X 2) (40 * r + i') (40 * s + j') m x := fun x => rfl
                  have hy : ∀ x, zA (zsAf (zsI (zsI M 0 0) 1 0) 4 (va_cpy (zA M 4) (zA M 4) (40 * r + i') (40 * s + j') m)) 4 x = va_cpy (zA M 4) (zA M 4) (40 * r + i') (40 * s + j') m x := fun x => rfl
                  rcases hR.1 u hu with ⟨x1, x2⟩ | ⟨nu, lu, x1, x2, x3, x4, x5, x6, x7⟩
                  · exact Or.inl ⟨x1, x2⟩
                  · refine Or.inr ⟨nu, lu, x1, x2, x3, x4, x5, x6, fun k hk => ?_⟩
                    rw [hx, hy]
                    unfold va_cpy
                    by_cases z : 40 * s + j' ≤ 40 * u + k ∧ 40 * u + k < 40 * s + j' + m
                    · rw [if_pos z, if_pos z]
                      have w := e4 (i' + (40 * u + k - (40 * s + j'))) (by omega)
                      rw [← Nat.add_assoc] at w
                      exact w
                    · rw [if_neg z, if_neg z]
                      exact x7 k hk
                · simp only [zI_zsI, zI_zsAf, zI_zsJ, zI_zsLf, zA_zsI, zA_zsAf, zA_zsJ, zA_zsLf, zJ_zsI, zJ_zsAf, zJ_zsJ, zJ_zsLf, zL_zsI, zL_zsAf, zL_zsJ, zL_zsLf, zI_zsA, zA_zsA, zJ_zsA, zL_zsA, zI_zsL, zA_zsL, zJ_zsL, zL_zsL, zn_eq]
                  rw [if_neg hk]
                · simp only [zI_zsI, zI_zsAf, zI_zsJ, zI_zsLf, zA_zsI, zA_zsAf, zA_zsJ, zA_zsLf, zJ_zsI, zJ_zsAf, zJ_zsJ, zJ_zsLf, zL_zsI, zL_zsAf, zL_zsJ, zL_zsLf, zI_zsA, zA_zsA, zJ_zsA, zL_zsA, zI_zsL, zA_zsL, zJ_zsL, zL_zsL, zn_eq]
                  rw [if_neg h2, if_neg h1]
                · simp only [zI_zsI, zI_zsAf, zI_zsJ, zI_zsLf, zA_zsI, zA_zsAf, zA_zsJ, zA_zsLf, zJ_zsI, zJ_zsAf, zJ_zsJ, zJ_zsLf, zL_zsI, zL_zsAf, zL_zsJ, zL_zsLf, zI_zsA, zA_zsA, zJ_zsA, zL_zsA, zI_zsL, zA_zsL, zJ_zsL, zL_zsL, zn_eq]
                  rw [if_neg h3]
              · rw [ite_dt q]
                by_cases j0 : j < 0
                · rw [if_pos j0]
                  exact f2
                · rw [if_neg j0, if_neg]
                  · exact f2
                  · intro w
                    rw [lt0] at j0
                    rw [Int64.le_iff_toInt_le, add64, toInt64_toInt, nI_int (by omega)] at w
                    exact q ⟨by omega, p.2.1, w⟩
            · rw [ite_dt p]
              by_cases i0 : i < 0
              · rw [if_pos i0]
                exact f2
              · rw [if_neg i0]
                by_cases j0 : j < 0
                · rw [if_pos j0]
                  exact f2
                · rw [if_neg j0]
                  by_cases n0 : n < 0
                  · rw [if_pos n0]
                    exact f2
                  · rw [if_neg n0, if_pos]
                    · exact f2
                    · rw [lt0] at i0 n0
                      rw [Int64.lt_iff_toInt_lt, add64, toInt64_toInt, nI_int (by omega)]
                      by_cases w : i.toInt + n.toInt ≤ na
                      · exact absurd ⟨by omega, by omega, w⟩ p
                      · omega
          · rw [if_neg hl, if_neg hl, found_eq, bind_s]
            exact ⟨_, _, _, rfl, rfl, RwK_2 5 hR⟩
    · refine ⟨-9000000000000000001, X, zsI M 0 0, ?_, ?_, RwK_0 hR⟩
      · unfold fX_copy
        rw [noRow_eq, bind_s, ite_df (fun q => q za), noRow_eq, bind_s, ite_dt zb]
      · unfold fM_copy
        rw [zn_eq, isRow_eq, bind_s, ite_dt za, isRow_eq, bind_s, ite_df zb]
  · refine ⟨-9000000000000000001, X, zsI M 0 0, ?_, ?_, RwK_0 hR⟩
    · unfold fX_copy
      rw [noRow_eq, bind_s, ite_dt za]
    · unfold fM_copy
      rw [zn_eq, isRow_eq, bind_s, ite_df za]
