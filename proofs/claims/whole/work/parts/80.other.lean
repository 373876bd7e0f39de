/-! CALLS: trace, count, beside, hangs, beforehand -/
theorem c_trace {X R T M : zSt} (a : Int32) (hR : InvR X R T M) : ∃ v, fX_trace X T a = some v ∧ fM_trace M a = some (v, zsI M 0 0) := by
  obtain ⟨_, _, _, _, n, n1, n2, n3, n4⟩ := hR
  have e : ((nI n - nI 1).toInt64).toInt = (n : Int) - 1 := by rw [toInt64_toInt, pk_sub_toInt (by omega) (by omega)]; omega
  have m54 : zI (zsI M 0 0) 54 = nI n := n3
  by_cases z : rng a n
  · obtain ⟨j, hj, rfl⟩ := rng_nI z
    refine ⟨zA T 0 j, ?_, ?_⟩
    · unfold fX_trace
      rw [n2, if_neg (nI_pos (by omega)), if_neg (by rw [nle (by omega) (by omega)]; omega), zg_ix (by omega) (by omega), clampN (by omega)]
    · unfold fM_trace
      rw [zn_eq, m54, li1, in_rng _ n _ e, bind_s, ite_dt z, zg_ix (by omega) (by omega), clampN (by omega), n4 j hj]
      rfl
  · refine ⟨-1000000, ?_, ?_⟩
    · unfold fX_trace
      rw [n2]
      by_cases h1 : a < 0
      · rw [if_pos h1]
      · rw [if_neg h1, if_pos]
        rw [lt0] at h1
        rw [Int32.le_iff_toInt_le, nI_int (by omega)]
        by_cases w : (n : Int) ≤ a.toInt
        · exact w
        · exact absurd ⟨by omega, by omega⟩ z
    · unfold fM_trace
      rw [zn_eq, m54, li1, in_rng _ n _ e, bind_s, ite_df z]
theorem rta_s (n : Nat) (X : zSt) (x y : Int32) : fX_rowsThatAre_l4 (n + 1) X x y = fX_rowsThatAre_l4b (fun v0 v1 v2 => fX_rowsThatAre_l4 n v0 v1 v2) X x y := rfl
theorem c70_s (n : Nat) (M : zSt) (x y : Int32) : fM_count_l70 (n + 1) M x y = fM_count_l70b (fun v0 v1 v2 => fM_count_l70 n v0 v1 v2) M x y := rfl
theorem rows_run {X M : zSt} (h : RowsRel X M) : ∀ (d j f f' c : Nat), j + d = 8 → d < f → d < f' → ∃ v, fX_rowsThatAre_l4 f X (nI c) (nI j) = some v ∧ fM_count_l70 f' M (nI c) (nI j) = some (v.toInt64, M) := by
  intro d
  induction d with
  | zero =>
    intro j f f' c hj hf hf'
    obtain ⟨m, rfl⟩ : ∃ m, f = m + 1 := ⟨f - 1, by omega⟩
    obtain ⟨m', rfl⟩ : ∃ m, f' = m + 1 := ⟨f' - 1, by omega⟩
    have : j = 8 := by omega
    subst this
    refine ⟨nI c, ?_, ?_⟩
    · rw [rta_s]
      unfold fX_rowsThatAre_l4b
      rw [if_pos (by decide)]
    · rw [c70_s]
      unfold fM_count_l70b
      rw [if_pos (by decide)]
  | succ d ih =>
    intro j f f' c hj hf hf'
    obtain ⟨m, rfl⟩ : ∃ m, f = m + 1 := ⟨f - 1, by omega⟩
    obtain ⟨m', rfl⟩ : ∃ m, f' = m + 1 := ⟨f' - 1, by omega⟩
    have j8 : ¬ (8 : Int32) ≤ nI j := by rw [li8, nle (by omega) (by omega)]; omega
    rw [rta_s, c70_s]
    unfold fX_rowsThatAre_l4b fM_count_l70b fX_isMissing
    rw [if_neg j8, if_neg j8, zg_ix (by omega) (by omega), zg_ix (by omega) (by omega), clampN (by omega)]
    rcases h j (by omega) with ⟨e1, e2⟩ | ⟨n, l, n1, l1, e1, _, e2, _⟩
    · obtain ⟨v, v1, v2⟩ := ih (j + 1) m m' c (by omega) (by omega) (by omega)
      refine ⟨v, ?_, ?_⟩
      · rw [e1, if_pos rfl, bind_s, if_pos rfl, zn_eq, nI_1]
        exact v1
      · rw [e2, if_pos (by decide), zn_eq, zn_eq, nI_1, li0, nI_add]
        exact v2
    · obtain ⟨v, v1, v2⟩ := ih (j + 1) m m' (c + 1) (by omega) (by omega) (by omega)
      refine ⟨v, ?_, ?_⟩
      · rw [e1, if_neg (nI_ne_m1 n (by omega)), bind_s, if_neg Bool.false_ne_true, zn_eq, zn_eq, nI_1, nI_1]
        exact v1
      · rw [e2, if_neg (nI_pos (by omega)), zn_eq, zn_eq, nI_1, nI_1]
        exact v2
theorem c_count {X R S C U T M : zSt} (a : Int32) (hR : InvR X R T M) (hL : InvL X S C U M) : ∃ v M', fX_count X R S C a = some v ∧ fM_count M a = some (v, M') ∧ Mk M M' := by
  by_cases z : rng a 7
  · have key : ∃ M', fM_goAll (zsI M 0 0) = some M' ∧ MF (zsI M 0 0) M' ∧ zI S 0 = zI M' 6 ∧ zI S 1 = zI M' 7 ∧ zI C 4 = zI M' 8 ∧ zI C 13 = zI M' 40 ∧ ((zI X 6 = 0 ∧ zI M' 5 = 0) ∨ (¬ zI X 6 = 0 ∧ ¬ zI M' 5 = 0 ∧ zI C 1 = zI M' 26)) := by
      rcases hL.keep (Mk_0 M 0) with h | ⟨l, e, t, h⟩
      · obtain ⟨M', a1, a2, a3, a4, a5, a6⟩ := pre_go h.2.2.1.2.1
        obtain ⟨⟨p1, p2⟩, ⟨p3, p4⟩, ⟨p5, p6, p7⟩, ⟨p8, p9⟩, _⟩ := h
        have m5 := a6.1 5 (by omega) (by omega) (by omega)
        refine ⟨M', a1, a6, ?_, ?_, ?_, ?_, Or.inl ⟨p1, by rw [m5]; exact p2⟩⟩
        · rw [a6.1 6 (by omega) (by omega) (by omega), p3, p5]
        · rw [a6.1 7 (by omega) (by omega) (by omega), p4, p6]
        · rw [a6.1 8 (by omega) (by omega) (by omega), p8, p7]
        · rw [p9, a4]
      · obtain ⟨M', a1, a2, a3⟩ := h.go
        obtain ⟨t1, t2, t3, t4⟩ := h.2.2.1.tt
        have hS := h.2.2.1.mf a3
        obtain ⟨⟨q1, q2⟩, _, ⟨q3, q4⟩, _, ⟨q5, q6⟩, _⟩ := hS
        obtain ⟨la, n, h1, h2, h3, h4, h5, h6, h7, h8, h9, h10, h11, h12⟩ := a2
        rw [t1] at h6
        have m5 := a3.1 5 (by omega) (by omega) (by omega)
        have x1 : zI X 6 = nI 1 := h.1.1
        have x2 : zI (zsI M 0 0) 5 = nI 1 := h.1.2
        refine ⟨M', a1, a3, by rw [q1, q2], by rw [q3, q4], by rw [h6, q6], by rw [h9, h10], Or.inr ⟨by rw [x1]; decide, by rw [m5, x2]; decide, by rw [h2, h3]⟩⟩
    obtain ⟨M', a1, a2, k1, k2, k3, k4, k5⟩ := key
    obtain ⟨r1, _, _, ⟨n, ⟨q1, _, _⟩, q2⟩, _⟩ := hR
    have m17 : zI M' 17 = nI n := by rw [a2.1 17 (by omega) (by omega) (by omega)]; exact q2
    have r1' : RowsRel X M' := r1.congr rfl rfl rfl (a2.2 2 (by omega)) (a2.2 3 (by omega)) (a2.2 4 (by omega))
    obtain ⟨v, v1, v2⟩ := rows_run r1' 8 0 zF zF 0 (by omega) (by unfold zF; omega) (by unfold zF; omega)
    obtain ⟨d, hd, rfl⟩ := rng_nI z
    have hm := (Mk_0 M 0).trans (Mk.mf a2)
    have eM : fM_count M (nI d) = if nI d = 0 then some (v.toInt64, M') else (if nI d = 1 then (some (((zI M' 6).toInt64), M')) else (if nI d = 2 then (some (((zI M' 7).toInt64), M')) else (if nI d = 3 then (some (((zI M' 8).toInt64), M')) else (if nI d = 4 then (some (((zI M' 40).toInt64), M')) else (if nI d = 5 then (some (((zI M' 17).toInt64), M')) else (if (zI M' 5) = 0 then (some ((-1000000), M')) else (some (((zI M' 26).toInt64), M')))))))) := by
      unfold fM_count
      rw [zn_eq, in_rng _ 7 6 (by decide), bind_s, ite_dt z, a1, bind_s, li0, v2]
    have eX : fX_count X R S C (nI d) = if nI d = 0 then some v.toInt64 else (if nI d = 1 then (some (((zI S 0).toInt64))) else (if nI d = 2 then (some (((zI S 1).toInt64))) else (if nI d = 3 then (some (((zI C 4).toInt64))) else (if nI d = 4 then (some (((zI C 13).toInt64))) else (if nI d = 5 then (some (((zI R 1).toInt64))) else (if nI d = 6 then (if (zI X 6) = 0 then (some ((-1000000))) else (some (((zI C 1).toInt64)))) else (some ((-9000000000000000001))))))))) := by
      unfold fX_count fX_rowsThatAre
      rw [li0, v1, bind_s]
    rw [eX, eM]
    have d7 : d = 0 ∨ d = 1 ∨ d = 2 ∨ d = 3 ∨ d = 4 ∨ d = 5 ∨ d = 6 := by omega
    rcases d7 with rfl | rfl | rfl | rfl | rfl | rfl | rfl
    · exact ⟨_, M', rfl, rfl, hm⟩
    · exact ⟨_, M', rfl, by rw [k1]; rfl, hm⟩
    · exact ⟨_, M', rfl, by rw [k2]; rfl, hm⟩
    · exact ⟨_, M', rfl, by rw [k3]; rfl, hm⟩
    · exact ⟨_, M', rfl, by rw [k4]; rfl, hm⟩
    · exact ⟨_, M', rfl, by rw [q1, m17]; rfl, hm⟩
    · rcases k5 with ⟨w1, w2⟩ | ⟨w1, w2, w3⟩
      · rw [if_pos w1, if_pos w2]
        exact ⟨_, M', rfl, rfl, hm⟩
      · rw [if_neg w1, if_neg w2]
        exact ⟨_, M', rfl, by rw [w3]; rfl, hm⟩
  · refine ⟨-9000000000000000001, zsI M 0 0, ?_, ?_, Mk_0 M 0⟩
    · unfold fX_count
      rw [if_neg (show ¬ a = 0 from nrng z 0 (by omega) (by omega)), if_neg (show ¬ a = 1 from nrng z 1 (by omega) (by omega)), if_neg (show ¬ a = 2 from nrng z 2 (by omega) (by omega)), if_neg (show ¬ a = 3 from nrng z 3 (by omega) (by omega)), if_neg (show ¬ a = 4 from nrng z 4 (by omega) (by omega)), if_neg (show ¬ a = 5 from nrng z 5 (by omega) (by omega)), if_neg (show ¬ a = 6 from nrng z 6 (by omega) (by omega))]
    · unfold fM_count
      rw [zn_eq, in_rng _ 7 6 (by decide), bind_s, ite_df z]
/-- sums at the end of any run -/
theorem run_sums {fb : Prop} {S C M : zSt} {l e t : Nat} (V : zSt) (hS : StR S M l e t) (hC : CRi fb S C M l e) : ∃ (o D : Nat) (V' M2 : zSt), fU_reckon V C S = some V' ∧ fM_layNets M = some M2 ∧ S2R o D V' M2 ∧ ML M M2 := by
  obtain ⟨t1, t2, t3, t4⟩ := hS.tt
  obtain ⟨la, o, D, U', M1, M2, c1, c2, c3, c4, c5, c6, c7, c8, c9, c10, c11, c12⟩ := reckon_sim V hC t4 hS.2.2.2.2.2.2.2.1 (by omega) t3 (by omega)
  exact ⟨o, D, U', M2, c5, c7, c9, c11⟩
theorem c_beside {X S C U M : zSt} (Dd V : zSt) (a b c : Int32) (hL : InvL X S C U M) : ∃ v D' V' M', fX_beside X S Dd V a b c = some (v, D', V') ∧ fM_beside M a b c = some (v, M') ∧ Mk M M' := by
  rcases hL.liv with ⟨l1, l2⟩ | ⟨l1, l2, l, e, t, hV⟩
  · refine ⟨-9000000000000000002, Dd, V, zsI M 0 0, ?_, ?_, Mk_0 M 0⟩
    · unfold fX_beside
      rw [if_pos l1]
    · unfold fM_beside
      rw [zn_eq, if_pos (show zI (zsI M 0 0) 5 = 0 from l2)]
  · obtain ⟨_, hl, hS, _⟩ := hV.keep (Mk_0 M 0)
    obtain ⟨t1, t2, t3, t4⟩ := hS.tt
    have s0 := hS.1.1
    have m6 := hS.1.2
    have s1 := hS.2.2.1.1
    have e6 : ((nI l - nI 1).toInt64).toInt = (l : Int) - 1 := by rw [toInt64_toInt, pk_sub_toInt (by omega) (by omega)]; omega
    have eN : fX_beside X S Dd V a b c = if (decide (¬ rng a l)) = true then some (-9000000000000000001, Dd, V) else (Option.bind (fX_isNoDay b) fun y1 => if y1 = true then (some ((-9000000000000000001), Dd, V)) else (Option.bind (fX_isNoPart c) fun y2 => if y2 = true then (some ((-9000000000000000001), Dd, V)) else (Option.bind (fS_firstEventFrom S b) fun y3 => Option.bind (fC_begin Dd) fun y4 => Option.bind (fC_goThrough y4 S 0 y3) fun y5 => Option.bind (fC_moveTo y5 S a (-1000000)) fun y6 => Option.bind (fC_goThrough y6 S y3 (zI S 1)) fun y7 => Option.bind (fU_reckon V y7 S) fun y8 => zg (zix 0 2) <| Option.bind (fU_endBottom y8) fun y9 => Option.bind (fX_partOf (zL y8 6 (0 : Int32).toNatClampNeg) y9 c) fun y10 => some (y10, y7, y8)))) := by
      have q := no_lt a l (nI l) (nI_int (by omega))
      unfold fX_beside
      rw [if_neg l1, s0]
      by_cases h1 : a < 0
      · rw [if_pos h1] at q ⊢
        rw [← Option.some.inj q, if_pos rfl]
      · rw [if_neg h1] at q ⊢
        by_cases h2 : a < nI l
        · rw [if_pos h2] at q
          rw [if_neg (Int32.not_le.mpr h2), ← Option.some.inj q, if_neg Bool.false_ne_true]
        · rw [if_neg h2] at q
          rw [if_pos (Int32.not_lt.mp h2), ← Option.some.inj q, if_pos rfl]
    have eM : fM_beside M a b c = if (decide (rng a l)) = true then (if (decide (rng b 1000)) = true then (if (decide (rng c 2)) = true then (Option.bind (fM_goThrough (zsI M 0 0) 999 (-1) b a (-1) (-1)) fun y5 => Option.bind (fM_layNets y5) fun y6 => Option.bind (fM_endOf y6 0) fun y7 => Option.bind (fM_partOf y7 (100 * (zJ y6 49)) c) fun y8 => some (y8, y6)) else (some ((-9000000000000000001), zsI M 0 0))) else (some ((-9000000000000000001), zsI M 0 0))) else (some ((-9000000000000000001), zsI M 0 0)) := by
      unfold fM_beside
      rw [zn_eq, if_neg (show ¬ zI (zsI M 0 0) 5 = 0 from l2), m6, li1, in_rng _ l _ e6, bind_s, in_rng _ 1000 999 (by decide), bind_s, in_rng _ 2 1 (by decide), bind_s]
    by_cases za : rng a l
    · rw [ite_dt za] at eM
      rw [ite_df (fun w => w za), noDay_eq, bind_s, noPart_eq, bind_s] at eN
      by_cases zb : rng b 1000
      · rw [ite_dt zb] at eM
        rw [ite_df (fun w => w zb)] at eN
        by_cases zc : rng c 2
        · rw [ite_dt zc] at eM
          rw [ite_df (fun w => w zc)] at eN
          obtain ⟨la, hla, rfl⟩ := rng_nI za
          obtain ⟨y, y1, y2, y3, y4⟩ := first_eq b hS
          obtain ⟨C0, C1, C2, C', M', b1, b2, b3, b4, b5, b6, b7⟩ := run_mv Dd hS hla b y y1 y3 y4
          obtain ⟨o, D, V', M2, d1, d2, ⟨s1', s2, s3, s4, s5, s6, s7⟩, d4⟩ := run_sums V (hS.mf b7) b6
          obtain ⟨zz, z1, z2, z3⟩ := s7 0 (by omega)
          have z3' : fM_endOf M2 0 = some (Int64.ofInt zz) := z3
          obtain ⟨v, v1, v2⟩ := part_eq (D := 100 * D) c z1 (by omega) (by omega)
          refine ⟨v, C', V', M2, ?_, ?_, (Mk_0 M 0).trans ((Mk.mf b7).trans (Mk.ml d4))⟩
          · rw [eN, y2, bind_s, b1, bind_s, li0, b2, bind_s, b3, bind_s, s1, b4, bind_s, d1, bind_s, zg_ix (by omega) (by omega), clampN (by omega)]
            unfold fU_endBottom
            rw [bind_s, z2, s3, h100, v1, bind_s]
          · rw [eM, b5, bind_s, d2, bind_s, z3', bind_s, s4, h100, v2, bind_s]
        · rw [ite_df zc] at eM
          rw [ite_dt zc] at eN
          exact ⟨_, Dd, V, _, eN, eM, Mk_0 M 0⟩
      · rw [ite_df zb] at eM
        rw [ite_dt zb] at eN
        exact ⟨_, Dd, V, _, eN, eM, Mk_0 M 0⟩
    · rw [ite_df za] at eM
      rw [ite_dt za] at eN
      exact ⟨_, Dd, V, _, eN, eM, Mk_0 M 0⟩
/-- her end, cut, on both sides -/
theorem cut_eq {o D : Nat} {V M : zSt} (h : S2R o D V M) : ∃ z : Int64, fU_herEndCut V = some z ∧ fM_endOf M 0 = some (zL V 6 0) ∧ zL V 6 0 / (100 * zJ M 49) = z ∧ ∀ (β : Type) (k : Option β), zg (zlz (100 * zJ M 49)) k = k := by
  obtain ⟨s1, s2, s3, s4, s5, s6, s7⟩ := h
  obtain ⟨zz, z1, z2, z3⟩ := s7 0 (by omega)
  have z3' : fM_endOf M 0 = some (Int64.ofInt zz) := z3
  refine ⟨Int64.ofInt zz / lN (100 * D), ?_, ?_, ?_, fun β k => ?_⟩
  · unfold fU_herEndCut fU_endBottom
    have p : ¬ lN (100 * D) ≤ 0 := by
      intro w
      have := (pk_lLE (b := 0) (show 100 * D < 2 ^ 63 by omega) (by omega)).mp w
      omega
    rw [bind_s, s3, h100, if_neg p, li0, zg_ix (by omega) (by omega), clampN (by omega), bind_s, zg_lz (by omega) (by omega), z2]
  · rw [z3', z2]
  · rw [z2, s4, h100]
  · rw [s4, h100, zg_lz (by omega) (by omega)]
theorem hgX_s (n : Nat) (X S U D V : zSt) (x1 x3 : Int64) (x5 x6 : Int32) : fX_hangs_l30 (n + 1) X S U D V x1 x3 x5 x6 = fX_hangs_l30b (fun v0 v1 v2 v3 v4 v5 v6 v7 v8 => fX_hangs_l30 n v0 v1 v2 v3 v4 v5 v6 v7 v8) X S U D V x1 x3 x5 x6 := rfl
theorem hgM_s (n : Nat) (M : zSt) (x1 : Int64) (x3 : Int32) (x4 : Int64) (x6 : Int32) : fM_hangs_l50 (n + 1) M x1 x3 x4 x6 = fM_hangs_l50b (fun v0 v1 v2 v3 v4 => fM_hangs_l50 n v0 v1 v2 v3 v4) M x1 x3 x4 x6 := rfl
theorem hangs_run {X S U : zSt} {l e t : Nat} (hl : 1 ≤ l) (is : Int64) : ∀ (d k f f' : Nat) (D V M : zSt) (most : Int64) (best : Int32), k + d = e → d < f → d < f' → StR S M l e t → ∃ v D' V' M', fX_hangs_l30 f X S U D V is most best (nI k) = some (v, D', V') ∧ fM_hangs_l50 f' M is best most (nI k) = some (v, M') ∧ Mk M M' := by
  intro d
  induction d with
  | zero =>
    intro k f f' D V M most best hk hf hf' hS
    obtain ⟨m, rfl⟩ : ∃ m, f = m + 1 := ⟨f - 1, by omega⟩
    obtain ⟨m', rfl⟩ : ∃ m, f' = m + 1 := ⟨f' - 1, by omega⟩
    have : k = e := by omega
    subst this
    have s1 := hS.2.2.1.1
    have m7 := hS.2.2.1.2
    refine ⟨best.toInt64, D, V, M, ?_, ?_, Mk.refl M⟩
    · rw [hgX_s]
      unfold fX_hangs_l30b
      rw [s1, if_pos (Int32.le_refl _)]
    · rw [hgM_s]
      unfold fM_hangs_l50b
      rw [m7, if_pos (Int32.le_refl _)]
  | succ d ih =>
    intro k f f' D V M most best hk hf hf' hS
    obtain ⟨m, rfl⟩ : ∃ m, f = m + 1 := ⟨f - 1, by omega⟩
    obtain ⟨m', rfl⟩ : ∃ m, f' = m + 1 := ⟨f' - 1, by omega⟩
    have s1 := hS.2.2.1.1
    have m7 := hS.2.2.1.2
    obtain ⟨t1, t2, t3, t4⟩ := hS.tt
    obtain ⟨kd, _, _, _, _, k6, _, ⟨v8, w8⟩, _⟩ := hS.2.2.2.2.2.2.2.2.1 k (by omega)
    have hke : ¬ nI e ≤ nI k := by rw [nle (by omega) (by omega)]; omega
    by_cases z : kd = 0 ∨ kd = 1 ∨ kd = 5
    · obtain ⟨v, D', V', M', a1, a2, a3⟩ := ih (k + 1) m m' D V M most best (by omega) (by omega) (by omega) hS
      refine ⟨v, D', V', M', ?_, ?_, a3⟩
      · rw [← a1, hgX_s]
        unfold fX_hangs_l30b fS_canBeLeftOut
        rw [s1, if_neg hke, zg_ix (by omega) (by omega), clampN (by omega), v8, zn_eq]
        rcases z with rfl | rfl | rfl
        · rw [if_neg (by decide), if_neg (by decide), if_neg (by decide), if_neg (by decide), bind_s, if_neg Bool.false_ne_true, zn_eq, nI_1]
        · rw [if_neg (by decide), if_neg (by decide), if_neg (by decide), if_neg (by decide), bind_s, if_neg Bool.false_ne_true, zn_eq, nI_1]
        · rw [if_neg (by decide), if_neg (by decide), if_neg (by decide), if_neg (by decide), bind_s, if_neg Bool.false_ne_true, zn_eq, nI_1]
      · rw [← a2, hgM_s]
        unfold fM_hangs_l50b
        rw [m7, if_neg hke, li6, pk_mul, zg_ix (by omega) (by omega), clampN (by omega), w8, zn_eq]
        rcases z with rfl | rfl | rfl
        · rw [if_pos li0.symm, zn_eq, nI_1]
        · rw [if_neg (by decide), if_pos li1.symm, zn_eq, nI_1]
        · rw [if_neg (by decide), if_neg (by decide), if_pos li5.symm, zn_eq, nI_1]
    · have n0 : ¬ nI kd = nI 0 := by rw [neq (by omega) (by omega)]; omega
      have n1 : ¬ nI kd = nI 1 := by rw [neq (by omega) (by omega)]; omega
      have n5 : ¬ nI kd = nI 5 := by rw [neq (by omega) (by omega)]; omega
      obtain ⟨C0, C1, C', M1, b1, b2, b3, b4, b5, b6⟩ := run_but (b := k) D hS hl (by omega) (by rw [v8]; exact n0) (by rw [v8]; exact n1)
      obtain ⟨o, Dt, V', M2, d1, d2, d3, d4⟩ := run_sums V (hS.mf b6) b5
      obtain ⟨q, q1, q2, q3, q4⟩ := cut_eq d3
      have hM : Mk M M2 := (Mk.mf b6).trans (Mk.ml d4)
      have canX : fS_canBeLeftOut S (nI k) = some true := by
        unfold fS_canBeLeftOut
        rw [zg_ix (by omega) (by omega), clampN (by omega), v8, zn_eq]
        have k4 : kd = 2 ∨ kd = 3 ∨ kd = 4 ∨ kd = 6 := by omega
        rcases k4 with rfl | rfl | rfl | rfl
        · rfl
        · rfl
        · rfl
        · rfl
      have herX : fX_herEndWithout X S U D V (nI k) = some (q, C', V') := by
        unfold fX_herEndWithout
        rw [b1, bind_s, li0, b2, bind_s, nI_1, s1, b3, bind_s, d1, bind_s, q1, bind_s]
      have eX : fX_hangs_l30 (m + 1) X S U D V is most best (nI k) = if (if 0 < (q - is) then (q - is) else -(q - is)) ≤ most then fX_hangs_l30 m X S U C' V' is most best (nI (k + 1)) else fX_hangs_l30 m X S U C' V' is (if 0 < (q - is) then (q - is) else -(q - is)) (nI k) (nI (k + 1)) := by
        rw [hgX_s]
        unfold fX_hangs_l30b
        rw [s1, if_neg hke, canX, bind_s, if_pos rfl, herX, bind_s, zn_eq, zn_eq, zn_eq, nI_1]
      have eM : fM_hangs_l50 (m' + 1) M is best most (nI k) = if (if 0 ≤ (q - is) then (q - is) else -(q - is)) ≤ most then fM_hangs_l50 m' M2 is best most (nI (k + 1)) else fM_hangs_l50 m' M2 is (nI k) (if 0 ≤ (q - is) then (q - is) else -(q - is)) (nI (k + 1)) := by
        rw [hgM_s]
        unfold fM_hangs_l50b
        rw [m7, if_neg hke, li6, pk_mul, zg_ix (by omega) (by omega), clampN (by omega), w8, zn_eq, if_neg (show ¬ nI kd = 0 from n0), if_neg (show ¬ nI kd = 1 from n1), if_neg (show ¬ nI kd = 5 from n5), b4, bind_s, d2, bind_s, q2, bind_s, q4, zn_eq, q3]
        unfold fM_hangs_b138 fM_hangs_b154
        simp only [zn_eq, li1, nI_add]
        by_cases w : 0 ≤ q - is
        · rw [if_pos w, if_pos w]
          by_cases y : q - is ≤ most
          · rw [if_pos y, if_pos y, if_pos y]
          · rw [if_neg y, if_neg y, if_neg y]
        · rw [if_neg w, if_neg w]
          by_cases y : -(q - is) ≤ most
          · rw [if_pos y, if_pos y, if_pos y]
          · rw [if_neg y, if_neg y, if_neg y]
      have eA : (if 0 < (q - is) then (q - is) else -(q - is)) = (if 0 ≤ (q - is) then (q - is) else -(q - is)) := by
        by_cases w : 0 < q - is
        · rw [if_pos w, if_pos (Int64.le_of_lt w)]
        · rw [if_neg w]
          by_cases y : 0 ≤ q - is
          · have : q - is = 0 := Int64.le_antisymm (Int64.not_lt.mp w) y
            rw [this]
            rfl
          · rw [if_neg y]
      have hS2 := hS.mk hM
      rw [eX, eM, eA]
      by_cases y : (if 0 ≤ (q - is) then (q - is) else -(q - is)) ≤ most
      · rw [if_pos y, if_pos y]
        obtain ⟨v, D', V'', M', a1, a2, a3⟩ := ih (k + 1) m m' C' V' M2 most best (by omega) (by omega) (by omega) hS2
        exact ⟨v, D', V'', M', a1, a2, hM.trans a3⟩
      · rw [if_neg y, if_neg y]
        obtain ⟨v, D', V'', M', a1, a2, a3⟩ := ih (k + 1) m m' C' V' M2 (if 0 ≤ (q - is) then (q - is) else -(q - is)) (nI k) (by omega) (by omega) (by omega) hS2
        exact ⟨v, D', V'', M', a1, a2, hM.trans a3⟩
theorem c_hangs {X S C U M : zSt} (Dd V : zSt) (hL : InvL X S C U M) : ∃ v D' V' M', fX_hangs X S U Dd V = some (v, D', V') ∧ fM_hangs M = some (v, M') ∧ Mk M M' := by
  rcases hL.liv with ⟨l1, l2⟩ | ⟨l1, l2, l, e, t, hV⟩
  · refine ⟨-9000000000000000002, Dd, V, zsI M 0 0, ?_, ?_, Mk_0 M 0⟩
    · unfold fX_hangs
      rw [if_pos l1]
    · unfold fM_hangs
      rw [zn_eq, if_pos (show zI (zsI M 0 0) 5 = 0 from l2)]
  · have hV' := hV.keep (Mk_0 M 0)
    obtain ⟨la, o, D, M', M1, M2, c1, c2, c3, c4, c5, c6, c7, c8, c9, c10, c11, c12, c13, c14⟩ := hV'.sums
    have hm : Mk (zsI M 0 0) M2 := (Mk.mf c3).trans (Mk.ml c13)
    obtain ⟨_, hl, hS, _⟩ := hV'
    obtain ⟨t1, t2, t3, t4⟩ := hS.tt
    obtain ⟨q, q1, q2, q3, q4⟩ := cut_eq c11
    obtain ⟨v, D', V', M3, a1, a2, a3⟩ := hangs_run (X := X) (U := U) hl q e 0 zF zF Dd V M2 (-1) (-1000000) (by omega) (by unfold zF; omega) (by unfold zF; omega) (hS.mk hm)
    refine ⟨v, D', V', M3, ?_, ?_, (Mk_0 M 0).trans (hm.trans a3)⟩
    · unfold fX_hangs
      rw [if_neg l1, q1, bind_s]
      exact a1
    · unfold fM_hangs
      rw [zn_eq, if_neg (show ¬ zI (zsI M 0 0) 5 = 0 from l2), c1, bind_s, c9, bind_s, q2, bind_s, q4, zn_eq, q3]
      exact a2
theorem noWish_eq (a : Int32) : ∃ q : Bool, fX_isNoWish a = some q ∧ fM_in a.toInt64 (-9999) 9999 = some (!q) := by
  unfold fX_isNoWish
  rw [fM_in_int]
  have e1 : (-9999 : Int64).toInt = -9999 := by decide
  have e2 : (9999 : Int64).toInt = 9999 := by decide
  have f1 : (a < -9999) = (a.toInt < -9999) := propext (by rw [Int32.lt_iff_toInt_lt]; exact Iff.rfl)
  have f2 : (a ≤ 9999) = (a.toInt ≤ 9999) := propext (by rw [Int32.le_iff_toInt_le]; exact Iff.rfl)
  rw [e1, e2]
  by_cases h1 : a < -9999
  · refine ⟨true, by rw [if_pos h1], ?_⟩
    rw [f1] at h1
    rw [decide_eq_false (fun z => by have := z.1; omega)]
    rfl
  · rw [if_neg h1]
    rw [f1] at h1
    by_cases h2 : a ≤ 9999
    · refine ⟨false, by rw [if_pos h2], ?_⟩
      rw [f2] at h2
      rw [decide_eq_true ⟨by omega, h2⟩]
      rfl
    · refine ⟨true, by rw [if_neg h2], ?_⟩
      rw [f2] at h2
      rw [decide_eq_false (fun z => h2 z.2)]
      rfl
theorem grant_eq {o D : Nat} {V M : zSt} (a b : Int32) (h : S2R o D V M) : ∃ q : Bool, fU_grants V a b = some q ∧ (Option.bind (fM_endOf M 0) fun y3 => if y3 < (((a.toInt64) * 100) * (zJ M 49)) then (some (false, M)) else (Option.bind (fM_endOf M 1) fun y4 => if y4 < (((b.toInt64) * 100) * (zJ M 49)) then (some (false, M)) else (some (true, M)))) = some (q, M) := by
  obtain ⟨s1, s2, s3, s4, s5, s6, s7⟩ := h
  obtain ⟨zz, z1, z2, z3⟩ := s7 0 (by omega)
  obtain ⟨yy, y1, y2, y3⟩ := s7 1 (by omega)
  have z3' : fM_endOf M 0 = some (Int64.ofInt zz) := z3
  have y3' : fM_endOf M 1 = some (Int64.ofInt yy) := y3
  have e : ∀ x : Int64, x * 100 * zJ M 49 = x * lN (100 * D) := by
    intro x
    rw [s4, Int64.mul_assoc, h100]
  rw [z3', bind_s, y3', bind_s, e, e]
  unfold fU_grants fU_endBottom
  rw [bind_s, bind_s, s3, h100, li0, li1, zg_ix (by omega) (by omega), zg_ix (by omega) (by omega), clampN (by omega), clampN (by omega), z2, y2]
  by_cases w : Int64.ofInt zz < a.toInt64 * lN (100 * D)
  · rw [if_pos w, if_pos w]
    exact ⟨false, rfl, rfl⟩
  · rw [if_neg w, if_neg w]
    by_cases x : Int64.ofInt yy < b.toInt64 * lN (100 * D)
    · rw [if_pos x, if_pos x]
      exact ⟨false, rfl, rfl⟩
    · rw [if_neg x, if_neg x]
      exact ⟨true, rfl, rfl⟩
