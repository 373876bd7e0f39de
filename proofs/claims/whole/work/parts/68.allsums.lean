/-! SUMS: what both sides come to -/
def S1R (U M : zSt) : Prop := (∀ p, p < 3 → zL U 0 p = zL M 45 p ∧ zL U 1 p = zL M 46 p) ∧ (∀ p q, p < 3 → q < 3 → p ≠ q → zL U 3 (3 * p + q) = zL M 47 (3 * p + q))
def S2R (o D : Nat) (U M : zSt) : Prop := 1 ≤ D ∧ D ≤ 2000000000000 ∧ zJ U 7 = lN D ∧ zJ M 49 = lN D ∧ (∀ p, p < 3 → ∃ z, big z ∧ zL U 5 p = Int64.ofInt z ∧ zL M 50 p = Int64.ofInt z) ∧ (∀ p q, p < 3 → q < 3 → p ≠ q → ∃ z, big z ∧ zL U 4 (3 * p + q) = Int64.ofInt z ∧ (o = 1 → zL M 47 (3 * p + q) * zL M 51 q = Int64.ofInt z) ∧ (o ≠ 1 → zL M 48 (3 * p + q) = Int64.ofInt z ∧ D = 1)) ∧ (∀ w, w < 2 → ∃ z, big z ∧ zL U 6 w = Int64.ofInt z ∧ fM_endOf M (nI w) = some (Int64.ofInt z))
theorem ofInt_0 {z : Int} (h0 : 0 ≤ z) (h1 : z < 1000000) : (Int64.ofInt z = 0) = (z = 0) := propext ⟨fun h => by
  have := congrArg Int64.toInt h
  rw [Int64.toInt_ofInt_of_le (by omega) (by omega)] at this
  exact this, fun h => by rw [h]; rfl⟩
def cz (I : Nat → Int) (p : Nat) : Int := if I p = 0 then 1 else I p
/-- where nothing goes round -/
theorem nets_case {S C M1 U2 : zSt} {o n la h : Nat} {H I F G : Nat → Int} (hP : PR o U2 M1 H I F G n) (ho : o ≠ 1) (hn : n ≤ 50) (hla : la < 4) (c1 : zI C 1 = nI la) (m26 : zI M1 26 = nI la) (s7 : zA S 7 la = nI h) (m9 : zA M1 9 (8 * la + 7) = nI h) (hh : h ≤ 100) (b1 : ∀ p, p < 3 → -2970 ≤ H p) (b2 : H 0 + H 1 + H 2 ≤ 32670) : ∃ U' M2, Option.bind (fU_addNets (zsJ U2 7 1)) (fun y5 => fU_reckon_b47 y5 C S) = some U' ∧ fM_layNets_l29 zF (zsJ M1 49 1) (nI 0) = some M2 ∧ S1R U' M1 ∧ S2R o 1 U' M2 ∧ ML M1 M2 ∧ (∀ k, zA U' k = zA U2 k) := by
  obtain ⟨h1, h2, h3, h4, h5, h6, h7⟩ := hP
  have hk := kB_eq n
  have B : ∀ p q, p < 3 → q < 3 → p ≠ q → -107374182400 ≤ G (3 * p + q) ∧ G (3 * p + q) ≤ 107374182400 := by
    intro p q hp hq hpq
    obtain ⟨_, _, k3, k4⟩ := h5 p q hp hq hpq
    rw [hk] at k3 k4
    omega
  have g1 := h5 0 1 (by omega) (by omega) (by omega)
  have g2 := h5 0 2 (by omega) (by omega) (by omega)
  have g3 := h5 1 0 (by omega) (by omega) (by omega)
  have g5 := h5 1 2 (by omega) (by omega) (by omega)
  have g6 := h5 2 0 (by omega) (by omega) (by omega)
  have g7 := h5 2 1 (by omega) (by omega) (by omega)
  have B1 := B 0 1 (by omega) (by omega) (by omega)
  have B2 := B 0 2 (by omega) (by omega) (by omega)
  have B3 := B 1 0 (by omega) (by omega) (by omega)
  have B5 := B 1 2 (by omega) (by omega) (by omega)
  have B6 := B 2 0 (by omega) (by omega) (by omega)
  have B7 := B 2 1 (by omega) (by omega) (by omega)
  simp only [Nat.reduceMul, Nat.reduceAdd, Nat.zero_add, Nat.add_zero] at g1 g2 g3 g5 g6 g7 B1 B2 B3 B5 B6 B7
  have H0 := b1 0 (by omega)
  have H1 := b1 1 (by omega)
  have H2 := b1 2 (by omega)
  have k0 := h1 0 (by omega)
  have k1 := h1 1 (by omega)
  have k2 := h1 2 (by omega)
  obtain ⟨U3, hU3⟩ : ∃ U3, U3 = netp (netp (netp (zsJ U2 7 1) 0) 1) 2 := ⟨_, rfl⟩
  obtain ⟨M2, hM2⟩ : ∃ M2, M2 = mnp (mnp (mnp (zsJ M1 49 1) 0) 1) 2 := ⟨_, rfl⟩
  obtain ⟨N, hN⟩ : ∃ N : Nat → Int, N = fun p => if p = 0 then H 0 + (G 1 - G 3) + (G 2 - G 6) else if p = 1 then H 1 + (G 3 - G 1) + (G 5 - G 7) else H 2 + (G 6 - G 2) + (G 7 - G 5) := ⟨_, rfl⟩
  have n0 : N 0 = H 0 + (G 1 - G 3) + (G 2 - G 6) := by rw [hN]; rfl
  have n1 : N 1 = H 1 + (G 3 - G 1) + (G 5 - G 7) := by rw [hN]; rfl
  have n2 : N 2 = H 2 + (G 6 - G 2) + (G 7 - G 5) := by rw [hN]; rfl
  have vu := addNets_v (zsJ U2 7 1)
  have vm := layNets29_v (zsJ M1 49 1)
  rw [← hU3] at vu
  rw [← hM2] at vm
  simp only [zL_zsJn] at vu vm
  have fu : ∀ k, k ≠ 5 → zL U3 k = zL U2 k := by
    intro k hk
    rw [hU3, (netp_f _ 2).2.2.2 k hk, (netp_f _ 1).2.2.2 k hk, (netp_f _ 0).2.2.2 k hk, zL_zsJn]
  have fm : ∀ k, k ≠ 50 → zL M2 k = zL M1 k := by
    intro k hk
    rw [hM2, (mnp_f _ 2).2.2.2 k hk, (mnp_f _ 1).2.2.2 k hk, (mnp_f _ 0).2.2.2 k hk, zL_zsJn]
  have ml : ML M1 M2 := ⟨fun k => by rw [hM2, (mnp_f _ 2).1, (mnp_f _ 1).1, (mnp_f _ 0).1, zI_zsJn], fun k => by rw [hM2, (mnp_f _ 2).2.1, (mnp_f _ 1).2.1, (mnp_f _ 0).2.1, zA_zsJn]⟩
  have hu : ∀ p, p < 3 → zL U3 5 p = Int64.ofInt (N p) := by
    intro p hp
    have p3 : p = 0 ∨ p = 1 ∨ p = 2 := by omega
    rcases p3 with rfl | rfl | rfl
    · rw [n0, vu.1, Int64.sub_self, Int64.add_zero]
      simp only [k0.1, g1.1, g2.1, g3.1, g6.1, ← Int64.ofInt_add, ← Int64.ofInt_sub]
    · rw [n1, vu.2.1, Int64.sub_self, Int64.add_zero]
      simp only [k1.1, g1.1, g5.1, g3.1, g7.1, ← Int64.ofInt_add, ← Int64.ofInt_sub]
    · rw [n2, vu.2.2, Int64.sub_self, Int64.add_zero]
      simp only [k2.1, g2.1, g5.1, g6.1, g7.1, ← Int64.ofInt_add, ← Int64.ofInt_sub]
  have hm : ∀ p, p < 3 → zL M2 50 p = Int64.ofInt (N p) := by
    intro p hp
    have p3 : p = 0 ∨ p = 1 ∨ p = 2 := by omega
    rcases p3 with rfl | rfl | rfl
    · rw [n0, vm.1, Int64.add_zero]
      simp only [k0.2, g1.2.1 ho, g2.2.1 ho, g3.2.1 ho, g6.2.1 ho, ← Int64.ofInt_add, ← Int64.ofInt_sub]
    · rw [n1, vm.2.1, Int64.add_zero]
      simp only [k1.2, g1.2.1 ho, g5.2.1 ho, g3.2.1 ho, g7.2.1 ho, ← Int64.ofInt_add, ← Int64.ofInt_sub]
    · rw [n2, vm.2.2, Int64.add_zero]
      simp only [k2.2, g2.2.1 ho, g5.2.1 ho, g6.2.1 ho, g7.2.1 ho, ← Int64.ofInt_add, ← Int64.ofInt_sub]
  obtain ⟨U', e1, e2, e3, e4, e5, e6⟩ := end_of (S := S) (C := C) (U := U3) (M := M2) hla c1 (by rw [ml.1]; exact m26) s7 (by rw [ml.2]; exact m9) hh hu hm (by rw [n0, n2]; omega) (by rw [n1, n2]; omega)
  have e0 := addNets_eq (zsJ U2 7 1)
  rw [← hU3] at e0
  have e7 := layNets29_g 996 (zsJ M1 49 1)
  rw [← zF4, ← hM2] at e7
  refine ⟨U', M2, by rw [e0]; exact e1, e7, ⟨fun p hp => ?_, fun p q hp hq hpq => ?_⟩, ⟨by omega, by omega, ?_, ?_, fun p hp => ?_, fun p q hp hq hpq => ?_, e6⟩, ml, fun k => ?_⟩
  · rw [e5 0 (by omega), e5 1 (by omega), fu 0 (by omega), fu 1 (by omega), (h1 p hp).1, (h1 p hp).2, (h2 p hp).1, (h2 p hp).2.1]
    exact ⟨rfl, rfl⟩
  · rw [e5 3 (by omega), fu 3 (by omega), (h3 p q hp hq hpq).1, (h3 p q hp hq hpq).2.1]
  · rw [e4, hU3, (netp_f _ 2).2.2.1, (netp_f _ 1).2.2.1, (netp_f _ 0).2.2.1, zJ_zsJn, if_pos rfl]
    rfl
  · rw [hM2, (mnp_f _ 2).2.2.1, (mnp_f _ 1).2.2.1, (mnp_f _ 0).2.2.1, zJ_zsJn, if_pos rfl]
    rfl
  · refine ⟨N p, ?_, by rw [e5 5 (by omega)]; exact hu p hp, hm p hp⟩
    have p3 : p = 0 ∨ p = 1 ∨ p = 2 := by omega
    unfold big
    rcases p3 with rfl | rfl | rfl
    · rw [n0]; omega
    · rw [n1]; omega
    · rw [n2]; omega
  · have b := B p q hp hq hpq
    refine ⟨G (3 * p + q), by unfold big; omega, ?_, fun z => absurd z ho, fun _ => ⟨?_, rfl⟩⟩
    · rw [e5 4 (by omega), fu 4 (by omega)]
      exact (h5 p q hp hq hpq).1
    · rw [fm 48 (by omega)]
      exact (h5 p q hp hq hpq).2.1 ho
  · rw [e3, hU3, (netp_f _ 2).2.1, (netp_f _ 1).2.1, (netp_f _ 0).2.1, zA_zsJn]
/-- where each fed each -/
theorem parts_case {S C M1 U2 : zSt} {n la h : Nat} {H I F G : Nat → Int} (hP : PR 1 U2 M1 H I F G n) (hn : n ≤ 50) (hla : la < 4) (c1 : zI C 1 = nI la) (m26 : zI M1 26 = nI la) (s7 : zA S 7 la = nI h) (m9 : zA M1 9 (8 * la + 7) = nI h) (hh : h ≤ 100) (b1 : ∀ p, p < 3 → -2970 ≤ H p) (b2 : H 0 + H 1 + H 2 ≤ 32670) : ∃ D U' M2, Option.bind (fU_solveParts (zsJ U2 7 1)) (fun y5 => fU_reckon_b47 y5 C S) = some U' ∧ (Option.bind (fM_laySides M1) fun y2 => Option.bind (fM_determinant y2) fun y3 => fM_layNets_l119 zF (zsJ y2 49 y3) (nI 0)) = some M2 ∧ S1R U' M1 ∧ S2R 1 D U' M2 ∧ ML M1 M2 ∧ (∀ k, zA U' k = zA U2 k) := by
  obtain ⟨h1, h2, h3, h4, h5, h6, h7⟩ := hP
  obtain ⟨U, hU⟩ : ∃ U, U = zsJ U2 7 1 := ⟨_, rfl⟩
  have ul : ∀ k, zL U k = zL U2 k := by intro k; rw [hU, zL_zsJn]
  have d0 : zL U 3 0 = 0 := by rw [ul]; exact h4 0 (by omega)
  have d4 : zL U 3 4 = 0 := by rw [ul]; exact h4 1 (by omega)
  have d8 : zL U 3 8 = 0 := by rw [ul]; exact h4 2 (by omega)
  obtain ⟨s1, s2, s3, s4, s5, s6⟩ := sol_v U d0 d4 d8
  have i0 := (h2 0 (by omega)).2.2
  have i1 := (h2 1 (by omega)).2.2
  have i2 := (h2 2 (by omega)).2.2
  have cU : ∀ p, p < 3 → ccU U p = Int64.ofInt (cz I p) := by
    intro p hp
    have b : 0 ≤ I p ∧ I p < 1000000 := by
      have : p = 0 ∨ p = 1 ∨ p = 2 := by omega
      rcases this with rfl | rfl | rfl <;> omega
    unfold ccU cz
    rw [ul, (h2 p hp).1]
    by_cases z : I p = 0
    · rw [if_pos (by rw [z]; rfl), if_pos z]; rfl
    · rw [if_neg (by rw [ofInt_0 b.1 b.2]; exact z), if_neg z]
  have cM : ∀ p, p < 3 → ccM M1 p = Int64.ofInt (cz I p) := by
    intro p hp
    have b : 0 ≤ I p ∧ I p < 1000000 := by
      have : p = 0 ∨ p = 1 ∨ p = 2 := by omega
      rcases this with rfl | rfl | rfl <;> omega
    unfold ccM cz
    rw [(h2 p hp).2.1]
    by_cases z : I p = 0
    · rw [if_pos (by rw [z]; rfl), if_pos z]; rfl
    · rw [if_neg (by rw [ofInt_0 b.1 b.2]; exact z), if_neg z]
  have xU : ∀ p q, p < 3 → q < 3 → p ≠ q → zL U 3 (3 * p + q) = Int64.ofInt (F (3 * p + q)) := fun p q hp hq hpq => by rw [ul]; exact (h3 p q hp hq hpq).1
  have xM : ∀ p q, p < 3 → q < 3 → p ≠ q → zL M1 47 (3 * p + q) = Int64.ofInt (F (3 * p + q)) := fun p q hp hq hpq => (h3 p q hp hq hpq).2.1
  have hU0 : ∀ p, p < 3 → zL U 0 p = Int64.ofInt (H p) := fun p hp => by rw [ul]; exact (h1 p hp).1
  have hM0 : ∀ p, p < 3 → zL M1 45 p = Int64.ofInt (H p) := fun p hp => (h1 p hp).2
  have mU := mx_of cU xU
  have mM := mx_of cM xM
  have f1 := (h3 0 1 (by omega) (by omega) (by omega)).2.2
  have f2 := (h3 0 2 (by omega) (by omega) (by omega)).2.2
  have f3 := (h3 1 0 (by omega) (by omega) (by omega)).2.2
  have f5 := (h3 1 2 (by omega) (by omega) (by omega)).2.2
  have f6 := (h3 2 0 (by omega) (by omega) (by omega)).2.2
  have f7 := (h3 2 1 (by omega) (by omega) (by omega)).2.2
  simp only [Nat.reduceMul, Nat.reduceAdd, Nat.zero_add, Nat.add_zero] at f1 f2 f3 f5 f6 f7
  have cz1 : ∀ p, p < 3 → 1 ≤ cz I p := by
    intro p hp
    have := (h2 p hp).2.2
    unfold cz
    split <;> omega
  have czs : cz I 0 + cz I 1 + cz I 2 ≤ 5943 := by
    unfold cz
    (repeat' split) <;> omega
  have z0 := cz1 0 (by omega)
  have z1 := cz1 1 (by omega)
  have z2 := cz1 2 (by omega)
  obtain ⟨D, hD⟩ : ∃ D, D = tre (cz I 0).toNat (cz I 1).toNat (cz I 2).toNat (F 1).toNat (F 2).toNat (F 3).toNat (F 5).toNat (F 6).toNat (F 7).toNat := ⟨_, rfl⟩
  have dz : detz (mz (cz I) F) = (D : Nat) := by
    rw [hD]
    exact det_tre _ _ _ _ _ _ _ _ _ _ _ (by omega) (by omega) (by omega) (by omega) (by omega) (by omega) (by omega) (by omega) (by omega)
  have D1 : 1 ≤ D := by
    rw [hD]
    unfold tre
    exact Nat.le_trans (Nat.mul_le_mul (Nat.mul_le_mul (by omega : 1 ≤ (cz I 0).toNat) (by omega : 1 ≤ (cz I 1).toNat)) (by omega : 1 ≤ (cz I 2).toNat)) (Nat.le_add_right _ _)
  have D2 : D ≤ 2000000000000 := by
    have k := tre_le (cz I 0).toNat (cz I 1).toNat (cz I 2).toNat (F 1).toNat (F 2).toNat (F 3).toNat (F 5).toNat (F 6).toNat (F 7).toNat
    rw [← hD] at k
    have k2 : ((cz I 0).toNat + (F 3).toNat + (F 6).toNat) * ((cz I 1).toNat + (F 1).toNat + (F 7).toNat) * ((cz I 2).toNat + (F 2).toNat + (F 5).toNat) ≤ 10893 * 10893 * 10893 := Nat.mul_le_mul (Nat.mul_le_mul (by omega) (by omega)) (by omega)
    omega
  obtain ⟨t, ht⟩ : ∃ t : Nat → Int, t = fun q => detz (rz (mz (cz I) F) H q) := ⟨_, rfl⟩
  have tB : ∀ q, q < 3 → (t q).natAbs ≤ 12673022768010 := by
    intro q hq
    have := det_h (cz I) F H q 5943 4950 50490 hq (fun p hp => by have := cz1 p hp; omega) (fun p r hp hr hpr => (h3 p r hp hr hpr).2.2) (by omega) (by omega) (by
      have a0 := b1 0 (by omega)
      have a1 := b1 1 (by omega)
      have a2 := b1 2 (by omega)
      omega)
    rw [ht]
    exact Nat.le_trans this (by decide)
  have tU : ∀ q, q < 3 → tpU U q = Int64.ofInt (t q) := by
    intro q hq
    rw [ht]
    exact det9_of (rp_of mU hU0)
  have tM : ∀ q, q < 3 → shr M1 q = Int64.ofInt (t q) := by
    intro q hq
    rw [ht]
    exact det9_of (rp_of mM hM0)
  have e2 : fM_determinant (sideM M1) = some (lN D) := by
    rw [detM_eq, det9_congr (sideM_v M1), det9_of mM, dz]
    exact congrArg some (lN_ofInt D).symm
  obtain ⟨M', g1, g2, g3, g4, g5⟩ := parts_M (zsJ (sideM M1) 49 (lN D))
  have sf := sideM_f M1
  have cc : ccM (zsJ (sideM M1) 49 (lN D)) = ccM M1 := by
    funext p
    unfold ccM
    rw [zL_zsJn, sf.2.2.2 46 (by omega)]
  have sh : ∀ q, shr (zsJ (sideM M1) 49 (lN D)) q = shr M1 q := by
    intro q
    unfold shr
    rw [cc, zL_zsJn, zL_zsJn, sf.2.2.2 47 (by omega), sf.2.2.2 45 (by omega)]
  have ml : ML M1 M' := ⟨fun k => by rw [g2.1, zI_zsJn, sf.1], fun k => by rw [g2.2, zA_zsJn, sf.2.1]⟩
  have cb : ∀ q, q < 3 → (cz I q * t q).natAbs ≤ (cz I q).toNat * 12673022768010 := by
    intro q hq
    have a := cz1 q hq
    rw [Int.natAbs_mul]
    exact Nat.mul_le_mul (by omega) (tB q hq)
  have hu : ∀ p, p < 3 → zL (sol U) 5 p = Int64.ofInt ((fun p => cz I p * t p) p) := by
    intro p hp
    rw [s5 p hp, cU p hp, tU p hp, ← Int64.ofInt_mul]
  have hm : ∀ p, p < 3 → zL M' 50 p = Int64.ofInt ((fun p => cz I p * t p) p) := by
    intro p hp
    rw [(g5 p hp).2, cc, sh, cM p hp, tM p hp, ← Int64.ofInt_mul]
  have cb0 := cb 0 (by omega)
  have cb1 := cb 1 (by omega)
  have cb2 := cb 2 (by omega)
  obtain ⟨U', e3, e4, e5, e6, e7, e8⟩ := end_of (S := S) (C := C) (U := sol U) (M := M') hla c1 (by rw [ml.1]; exact m26) s7 (by rw [ml.2]; exact m9) hh hu hm (by show 100 * (cz I 0 * t 0).natAbs + 100 * (cz I 2 * t 2).natAbs ≤ _; omega) (by show 100 * (cz I 1 * t 1).natAbs + 100 * (cz I 2 * t 2).natAbs ≤ _; omega)
  have fe := solve_eq U
  rw [← hU]
  refine ⟨D, U', M', by rw [fe]; exact e3, by rw [sides_eq, bind_s, e2, bind_s]; exact g1, ⟨fun p hp => ?_, fun p q hp hq hpq => ?_⟩, ⟨D1, D2, ?_, ?_, fun p hp => ?_, fun p q hp hq hpq => ?_, e8⟩, ml, fun k => ?_⟩
  · rw [e7 0 (by omega), e7 1 (by omega), s4 0 (by omega) (by omega) (by omega), s4 1 (by omega) (by omega) (by omega), hU0 p hp, hM0 p hp, ul, (h2 p hp).1, (h2 p hp).2.1]
    exact ⟨rfl, rfl⟩
  · rw [e7 3 (by omega), s4 3 (by omega) (by omega) (by omega), xU p q hp hq hpq, xM p q hp hq hpq]
  · rw [e6, s1, det9_of mU, dz]
    exact (lN_ofInt D).symm
  · rw [g3, zJ_zsJn, if_pos rfl]
  · refine ⟨cz I p * t p, ?_, by rw [e7 5 (by omega)]; exact hu p hp, hm p hp⟩
    have c := cb p hp
    have a : cz I p ≤ 5943 := by
      have : p = 0 ∨ p = 1 ∨ p = 2 := by omega
      rcases this with rfl | rfl | rfl <;> omega
    unfold big
    omega
  · have fb : 0 ≤ F (3 * p + q) ∧ F (3 * p + q) ≤ 4950 := by
      have : (p = 0 ∧ q = 1) ∨ (p = 0 ∧ q = 2) ∨ (p = 1 ∧ q = 0) ∨ (p = 1 ∧ q = 2) ∨ (p = 2 ∧ q = 0) ∨ (p = 2 ∧ q = 1) := by omega
      rcases this with ⟨rfl, rfl⟩ | ⟨rfl, rfl⟩ | ⟨rfl, rfl⟩ | ⟨rfl, rfl⟩ | ⟨rfl, rfl⟩ | ⟨rfl, rfl⟩ <;> (simp only [Nat.reduceMul, Nat.reduceAdd, Nat.zero_add, Nat.add_zero]; omega)
    have tb : (F (3 * p + q) * t q).natAbs ≤ 4950 * 12673022768010 := by
      rw [Int.natAbs_mul]
      exact Nat.mul_le_mul (by omega) (tB q hq)
    refine ⟨F (3 * p + q) * t q, by unfold big; omega, ?_, fun _ => ?_, fun z => absurd rfl z⟩
    · rw [e7 4 (by omega), s6 p q hp hq, xU p q hp hq hpq, tU q hq, ← Int64.ofInt_mul]
    · rw [g4 47 (by omega) (by omega) (by omega), zL_zsJn, sf.2.2.2 47 (by omega), xM p q hp hq hpq, (g5 q hq).1, sh, tM q hq, ← Int64.ofInt_mul]
  · rw [e5, s3, hU, zA_zsJn]
