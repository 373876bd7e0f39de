/-! CALLS that ask for sums: purse, fed, owed, net, end -/
theorem InvL.sum {X S C U M : zSt} (h : InvL X S C U M) : ∃ (t : Nat) (M' M1 : zSt), t ≤ 10 ∧ fM_goAll M = some M' ∧ fM_laySums M' = some M1 ∧ S1R U M1 ∧ zI M1 28 = nI t ∧ (∀ p, p < 3 → zA U 2 p = nI (cnt (zA M1 29) (nI p) t)) ∧ (∀ p, p < 3 → zA C 3 p = zA M1 39 p) ∧ Mk M M1 := by
  rcases h with h | ⟨l, e, t, h⟩
  · obtain ⟨M', a1, a2, a3, a4, a5, a6⟩ := pre_go h.2.2.1.2.1
    obtain ⟨M1, b1, b2, b3, b4⟩ := pre_sums a2 a3 a4 a5
    obtain ⟨_, _, _, _, p1, p2, p3, _⟩ := h
    refine ⟨0, M', M1, by omega, a1, b1, ⟨fun p hp => ?_, fun p q hp hq hpq => ?_⟩, by rw [b2.1]; exact a3, fun p hp => (p2 p hp).2.2, fun p hp => ?_, (Mk.mf a6).trans (Mk.ml b2)⟩
    · rw [(p2 p hp).1, (p2 p hp).2.1, (b3 p hp).1, (b3 p hp).2]
      exact ⟨rfl, rfl⟩
    · rw [p3 _ (by omega), b4 _ (by omega)]
    · rw [p1 p hp, b2.2, a5 p hp]
  · obtain ⟨la, o, D, M', M1, M2, c1, c2, c3, c4, c5, c6, c7, c8, c9, c10, c11, c12, c13, c14⟩ := h.sums
    obtain ⟨t1, t2, t3, t4⟩ := h.2.2.1.tt
    obtain ⟨la', n, h1, h2, h3, h4, h5, h6, h7, h8, h9, h10, h11, h12⟩ := c2
    rw [t1] at h7
    refine ⟨t, M', M1, t2, c1, c8, c10, by rw [c12.1]; exact h7, fun p hp => by rw [c12.2]; exact c14 p hp, fun p hp => ?_, (Mk.mf c3).trans (Mk.ml c12)⟩
    obtain ⟨d, d1, d2, d3⟩ := h5 p hp
    rw [c12.2, d2, d3]
theorem pu42_s (n : Nat) (M : zSt) (x1 x2 x3 x4 : Int32) : fM_purse_l42 (n + 1) M x1 x2 x3 x4 = fM_purse_l42b (fun v0 v1 v2 v3 v4 => fM_purse_l42 n v0 v1 v2 v3 v4) M x1 x2 x3 x4 := rfl
theorem pu42_run {M : zSt} {t p : Nat} (w : Int32) (ht : t ≤ 10) (hp : p < 3) (m28 : zI M 28 = nI t) : ∀ (d k f : Nat), k + d = t → d < f → fM_purse_l42 f M (nI p) w (nI (cnt (zA M 29) (nI p) k)) (nI k) = if w = 0 then some (zL M 45 p, M) else if w = 1 then some (zL M 46 p, M) else if w = 2 then some ((zA M 39 p).toInt64, M) else some ((nI (cnt (zA M 29) (nI p) t)).toInt64, M) := by
  intro d
  induction d with
  | zero =>
    intro k f hk hf
    obtain ⟨m, rfl⟩ : ∃ m, f = m + 1 := ⟨f - 1, by omega⟩
    have : k = t := by omega
    subst this
    rw [pu42_s]
    unfold fM_purse_l42b
    rw [m28, if_pos (Int32.le_refl _), zg_ix hp (by omega), zg_ix hp (by omega), zg_ix hp (by omega), clampN (by omega)]
  | succ d ih =>
    intro k f hk hf
    obtain ⟨m, rfl⟩ : ∃ m, f = m + 1 := ⟨f - 1, by omega⟩
    rw [← ih (k + 1) m (by omega) (by omega), pu42_s]
    unfold fM_purse_l42b
    rw [m28, if_neg (by rw [nle (by omega) (by omega)]; omega), zg_ix (by omega) (by omega), clampN (show k < 2 ^ 31 by omega)]
    simp only [cnt]
    by_cases z : zA M 29 k = nI p
    · rw [if_pos z, if_pos z, zn_eq, zn_eq, nI_1, nI_1]
    · rw [if_neg z, if_neg z, zn_eq, zn_eq, nI_1, li0, nI_add]
theorem c_purse {X S C U M : zSt} (a b : Int32) (hL : InvL X S C U M) : ∃ v M', fX_purse X C U a b = some v ∧ fM_purse M a b = some (v, M') ∧ Mk M M' := by
  by_cases za : rng a 3
  · by_cases zb : rng b 4
    · obtain ⟨p, hp, rfl⟩ := rng_nI za
      obtain ⟨d, hd, rfl⟩ := rng_nI zb
      obtain ⟨t, M', M1, ht, a1, a2, a3, a4, a5, a6, a7⟩ := (hL.keep (Mk_0 M 0)).sum
      have eM : fM_purse M (nI p) (nI d) = if nI d = 0 then some (zL M1 45 p, M1) else if nI d = 1 then some (zL M1 46 p, M1) else if nI d = 2 then some ((zA M1 39 p).toInt64, M1) else some ((nI (cnt (zA M1 29) (nI p) t)).toInt64, M1) := by
        unfold fM_purse
        rw [zn_eq, isPurse_eq, bind_s, ite_dt za, in_rng _ 4 3 (by decide), bind_s, ite_dt zb, a1, bind_s, a2, bind_s]
        exact pu42_run (nI d) ht hp a4 t 0 zF (by omega) (by unfold zF; omega)
      have eX : fX_purse X C U (nI p) (nI d) = if nI d = 0 then some (zL U 0 p) else if nI d = 1 then some (zL U 1 p) else if nI d = 2 then some (zA C 3 p).toInt64 else if nI d = 3 then some (zA U 2 p).toInt64 else some (-9000000000000000001) := by
        unfold fX_purse
        rw [noPurse_eq, bind_s, ite_df (fun q => q za)]
        simp only [zg_ix hp (show 3 ≤ 1000 by omega), clampN (show p < 2 ^ 31 by omega)]
      rw [eX, eM]
      have hm := (Mk_0 M 0).trans a7
      have d4 : d = 0 ∨ d = 1 ∨ d = 2 ∨ d = 3 := by omega
      rcases d4 with rfl | rfl | rfl | rfl
      · exact ⟨_, M1, rfl, by rw [(a3.1 p hp).1]; rfl, hm⟩
      · exact ⟨_, M1, rfl, by rw [(a3.1 p hp).2]; rfl, hm⟩
      · exact ⟨_, M1, rfl, by rw [a6 p hp]; rfl, hm⟩
      · exact ⟨_, M1, rfl, by rw [a5 p hp]; rfl, hm⟩
    · refine ⟨-9000000000000000001, zsI M 0 0, ?_, ?_, Mk_0 M 0⟩
      · unfold fX_purse
        rw [noPurse_eq, bind_s, ite_df (fun q => q za), if_neg (show ¬ b = 0 from nrng zb 0 (by omega) (by omega)), if_neg (show ¬ b = 1 from nrng zb 1 (by omega) (by omega)), if_neg (show ¬ b = 2 from nrng zb 2 (by omega) (by omega)), if_neg (show ¬ b = 3 from nrng zb 3 (by omega) (by omega))]
      · unfold fM_purse
        rw [zn_eq, isPurse_eq, bind_s, ite_dt za, in_rng _ 4 3 (by decide), bind_s, ite_df zb]
  · refine ⟨-9000000000000000001, zsI M 0 0, ?_, ?_, Mk_0 M 0⟩
    · unfold fX_purse
      rw [noPurse_eq, bind_s, ite_dt za]
    · unfold fM_purse
      rw [zn_eq, isPurse_eq, bind_s, ite_df za]
theorem pair_eq (a b : Int32) : fX_areNoPair a b = some (decide (¬ (rng a 3 ∧ rng b 3 ∧ a ≠ b))) := by
  unfold fX_areNoPair
  rw [noPurse_eq, bind_s, noPurse_eq, bind_s]
  by_cases za : rng a 3
  · rw [ite_df (fun q => q za)]
    by_cases zb : rng b 3
    · rw [ite_df (fun q => q zb)]
      by_cases z : a = b
      · rw [if_pos z, decide_eq_true (show ¬ (rng a 3 ∧ rng b 3 ∧ a ≠ b) from fun q => q.2.2 z)]
      · rw [if_neg z, decide_eq_false (show ¬ ¬ (rng a 3 ∧ rng b 3 ∧ a ≠ b) from fun q => q ⟨za, zb, z⟩)]
    · rw [ite_dt zb, decide_eq_true (show ¬ (rng a 3 ∧ rng b 3 ∧ a ≠ b) from fun q => zb q.2.1)]
  · rw [ite_dt za, decide_eq_true (show ¬ (rng a 3 ∧ rng b 3 ∧ a ≠ b) from fun q => za q.1)]
theorem c_fed {X S C U M : zSt} (a b : Int32) (hL : InvL X S C U M) : ∃ v M', fX_fed X U a b = some v ∧ fM_fed M a b = some (v, M') ∧ Mk M M' := by
  by_cases z : rng a 3 ∧ rng b 3 ∧ a ≠ b
  · obtain ⟨za, zb, zn⟩ := z
    obtain ⟨p, hp, rfl⟩ := rng_nI za
    obtain ⟨q, hq, rfl⟩ := rng_nI zb
    have hpq : p ≠ q := fun e => zn (by rw [e])
    obtain ⟨t, M', M1, ht, a1, a2, a3, a4, a5, a6, a7⟩ := (hL.keep (Mk_0 M 0)).sum
    refine ⟨zL U 3 (3 * p + q), M1, ?_, ?_, (Mk_0 M 0).trans a7⟩
    · unfold fX_fed
      rw [pair_eq, bind_s, ite_df (fun w => w ⟨za, zb, zn⟩), li3, pk_mul, nI_add, zg_ix (by omega) (by omega), clampN (by omega), Nat.mul_comm p 3]
    · unfold fM_fed
      rw [zn_eq, isPurse_eq, bind_s, ite_dt za, isPurse_eq, bind_s, ite_dt zb, if_neg zn, a1, bind_s, a2, bind_s, li3, pk_mul, nI_add, zg_ix (by omega) (by omega), clampN (by omega), a3.2 p q hp hq hpq]
  · refine ⟨-9000000000000000001, zsI M 0 0, ?_, ?_, Mk_0 M 0⟩
    · unfold fX_fed
      rw [pair_eq, bind_s, ite_dt z]
    · unfold fM_fed
      rw [zn_eq, isPurse_eq, bind_s]
      by_cases za : rng a 3
      · rw [ite_dt za, isPurse_eq, bind_s]
        by_cases zb : rng b 3
        · rw [ite_dt zb, if_pos (Classical.byContradiction (fun w => z ⟨za, zb, w⟩))]
        · rw [ite_df zb]
      · rw [ite_df za]
theorem InvL.liv {X S C U M : zSt} (h : InvL X S C U M) : (zI X 6 = 0 ∧ zI M 5 = 0) ∨ (¬ zI X 6 = 0 ∧ ¬ zI M 5 = 0 ∧ ∃ l e t, Liv X S C U M l e t) := by
  rcases h with h | ⟨l, e, t, h⟩
  · exact Or.inl h.1
  · right
    have a : zI X 6 = nI 1 := h.1.1
    have b : zI M 5 = nI 1 := h.1.2
    exact ⟨by rw [a]; decide, by rw [b]; decide, l, e, t, h⟩
theorem c_owed {X S C U M : zSt} (a b c : Int32) (hL : InvL X S C U M) : ∃ v M', fX_owed X U a b c = some v ∧ fM_owed M a b c = some (v, M') ∧ Mk M M' := by
  by_cases z : rng a 3 ∧ rng b 3 ∧ a ≠ b
  · obtain ⟨za, zb, zn⟩ := z
    by_cases zc : rng c 2
    · rcases hL.liv with ⟨l1, l2⟩ | ⟨l1, l2, l, e, t, hV⟩
      · refine ⟨-9000000000000000002, zsI M 0 0, ?_, ?_, Mk_0 M 0⟩
        · unfold fX_owed
          rw [pair_eq, bind_s, ite_df (fun w => w ⟨za, zb, zn⟩), noPart_eq, bind_s, ite_df (fun w => w zc), if_pos l1]
        · unfold fM_owed
          rw [zn_eq, isPurse_eq, bind_s, ite_dt za, isPurse_eq, bind_s, ite_dt zb, if_neg zn, in_rng _ 2 1 (by decide), bind_s, ite_dt zc, if_pos (show zI (zsI M 0 0) 5 = 0 from l2)]
      · obtain ⟨p, hp, rfl⟩ := rng_nI za
        obtain ⟨q, hq, rfl⟩ := rng_nI zb
        have hpq : p ≠ q := fun e => zn (by rw [e])
        obtain ⟨la, o, D, M', M1, M2, c1, c2, c3, c4, c5, c6, c7, c8, c9, c10, c11, c12, c13, c14⟩ := (hV.keep (Mk_0 M 0)).sums
        obtain ⟨s1, s2, s3, s4, s5, s6, s7⟩ := c11
        obtain ⟨zz, z1, z2, z3, z4⟩ := s6 p q hp hq hpq
        have hm : Mk M M2 := (Mk_0 M 0).trans ((Mk.mf c3).trans (Mk.ml c13))
        have eX : fX_owed X U (nI p) (nI q) c = Option.bind (fX_partOf (Int64.ofInt zz) (lN D) c) fun y => some y := by
          unfold fX_owed
          rw [pair_eq, bind_s, ite_df (fun w => w ⟨za, zb, zn⟩), noPart_eq, bind_s, ite_df (fun w => w zc), if_neg l1, li3, pk_mul, nI_add, zg_ix (by omega) (by omega), clampN (by omega), Nat.mul_comm p 3, z2, s3]
        have eM : fM_owed M (nI p) (nI q) c = if nI o = 1 then Option.bind (fM_partOf (zL M2 47 (3 * p + q) * zL M2 51 q) (lN D) c) (fun y7 => some (y7, M2)) else if c = 0 then some (zL M2 48 (3 * p + q), M2) else some (1, M2) := by
          unfold fM_owed
          rw [zn_eq, isPurse_eq, bind_s, ite_dt za, isPurse_eq, bind_s, ite_dt zb, if_neg zn, in_rng _ 2 1 (by decide), bind_s, ite_dt zc, if_neg (show ¬ zI (zsI M 0 0) 5 = 0 from l2), c1, bind_s, c9, bind_s, c13.1, c5, li8, li5, pk_mul, nI_add, zg_ix (by omega) (by omega), clampN (by omega), c13.2, c6, li3, pk_mul, nI_add, zg_ix (show 3 * p + q < 9 by omega) (by omega), zg_ix (show q < 3 by omega) (by omega), zg_ix (show 3 * p + q < 9 by omega) (by omega), clampN (show 3 * p + q < 2 ^ 31 by omega), clampN (show q < 2 ^ 31 by omega), s4]
        by_cases ho : o = 1
        · obtain ⟨v, v1, v2⟩ := part_eq c z1 s1 (show D < 2 ^ 63 by omega)
          refine ⟨v, M2, ?_, ?_, hm⟩
          · rw [eX, v1, bind_s]
          · rw [eM, if_pos (by rw [ho]; rfl), z3 ho, v2, bind_s]
        · obtain ⟨w1, w2⟩ := z4 ho
          refine ⟨if c = 0 then Int64.ofInt zz else 1, M2, ?_, ?_, hm⟩
          · rw [eX, w2, part_1 c z1, bind_s]
          · rw [eM, if_neg (by rw [li1, neq (by omega) (by omega)]; exact ho), w1]
            by_cases cc : c = 0
            · rw [if_pos cc, if_pos cc]
            · rw [if_neg cc, if_neg cc]
    · refine ⟨-9000000000000000001, zsI M 0 0, ?_, ?_, Mk_0 M 0⟩
      · unfold fX_owed
        rw [pair_eq, bind_s, ite_df (fun w => w ⟨za, zb, zn⟩), noPart_eq, bind_s, ite_dt zc]
      · unfold fM_owed
        rw [zn_eq, isPurse_eq, bind_s, ite_dt za, isPurse_eq, bind_s, ite_dt zb, if_neg zn, in_rng _ 2 1 (by decide), bind_s, ite_df zc]
  · refine ⟨-9000000000000000001, zsI M 0 0, ?_, ?_, Mk_0 M 0⟩
    · unfold fX_owed
      rw [pair_eq, bind_s, ite_dt z]
    · unfold fM_owed
      rw [zn_eq, isPurse_eq, bind_s]
      by_cases za : rng a 3
      · rw [ite_dt za, isPurse_eq, bind_s]
        by_cases zb : rng b 3
        · rw [ite_dt zb, if_pos (Classical.byContradiction (fun w => z ⟨za, zb, w⟩))]
        · rw [ite_df zb]
      · rw [ite_df za]
theorem c_net {X S C U M : zSt} (a c : Int32) (hL : InvL X S C U M) : ∃ v M', fX_net X U a c = some v ∧ fM_net M a c = some (v, M') ∧ Mk M M' := by
  by_cases za : rng a 3
  · by_cases zc : rng c 2
    · rcases hL.liv with ⟨l1, l2⟩ | ⟨l1, l2, l, e, t, hV⟩
      · refine ⟨-9000000000000000002, zsI M 0 0, ?_, ?_, Mk_0 M 0⟩
        · unfold fX_net
          rw [noPurse_eq, bind_s, ite_df (fun w => w za), noPart_eq, bind_s, ite_df (fun w => w zc), if_pos l1]
        · unfold fM_net
          rw [zn_eq, isPurse_eq, bind_s, ite_dt za, in_rng _ 2 1 (by decide), bind_s, ite_dt zc, if_pos (show zI (zsI M 0 0) 5 = 0 from l2)]
      · obtain ⟨p, hp, rfl⟩ := rng_nI za
        obtain ⟨la, o, D, M', M1, M2, c1, c2, c3, c4, c5, c6, c7, c8, c9, c10, c11, c12, c13, c14⟩ := (hV.keep (Mk_0 M 0)).sums
        obtain ⟨s1, s2, s3, s4, s5, s6, s7⟩ := c11
        obtain ⟨zz, z1, z2, z3⟩ := s5 p hp
        have hm : Mk M M2 := (Mk_0 M 0).trans ((Mk.mf c3).trans (Mk.ml c13))
        obtain ⟨v, v1, v2⟩ := part_eq c z1 s1 (show D < 2 ^ 63 by omega)
        refine ⟨v, M2, ?_, ?_, hm⟩
        · unfold fX_net
          rw [noPurse_eq, bind_s, ite_df (fun w => w za), noPart_eq, bind_s, ite_df (fun w => w zc), if_neg l1, zg_ix hp (by omega), clampN (by omega), z2, s3, v1, bind_s]
        · unfold fM_net
          rw [zn_eq, isPurse_eq, bind_s, ite_dt za, in_rng _ 2 1 (by decide), bind_s, ite_dt zc, if_neg (show ¬ zI (zsI M 0 0) 5 = 0 from l2), c1, bind_s, c9, bind_s, zg_ix hp (by omega), clampN (by omega), z3, s4, v2, bind_s]
    · refine ⟨-9000000000000000001, zsI M 0 0, ?_, ?_, Mk_0 M 0⟩
      · unfold fX_net
        rw [noPurse_eq, bind_s, ite_df (fun w => w za), noPart_eq, bind_s, ite_dt zc]
      · unfold fM_net
        rw [zn_eq, isPurse_eq, bind_s, ite_dt za, in_rng _ 2 1 (by decide), bind_s, ite_df zc]
  · refine ⟨-9000000000000000001, zsI M 0 0, ?_, ?_, Mk_0 M 0⟩
    · unfold fX_net
      rw [noPurse_eq, bind_s, ite_dt za]
    · unfold fM_net
      rw [zn_eq, isPurse_eq, bind_s, ite_df za]
theorem h100 {D : Nat} : (100 : Int64) * lN D = lN (100 * D) := by
  rw [l100, lN_ofInt, lN_ofInt, ← Int64.ofInt_mul]
  congr 1
theorem c_end {X S C U M : zSt} (a c : Int32) (hL : InvL X S C U M) : ∃ v M', fX_end X U a c = some v ∧ fM_end M a c = some (v, M') ∧ Mk M M' := by
  have eN : fX_end X U a c = if (decide (¬ rng a 2)) = true then some (-9000000000000000001) else (Option.bind (fX_isNoPart c) fun y1 => if y1 = true then (some ((-9000000000000000001))) else (if (zI X 6) = 0 then (some ((-9000000000000000002))) else (zg (zix a 2) <| Option.bind (fU_endBottom U) fun y2 => Option.bind (fX_partOf (zL U 6 a.toNatClampNeg) y2 c) fun y3 => some (y3)))) := by
    have q := no_le a 1 1 (by decide)
    unfold fX_end
    by_cases h1 : a < 0
    · rw [if_pos h1] at q ⊢
      rw [← Option.some.inj q, if_pos rfl]
    · rw [if_neg h1] at q ⊢
      by_cases h2 : a ≤ 1
      · rw [if_pos h2] at q
        rw [if_neg (Int32.not_lt.mpr h2), ← Option.some.inj q, if_neg Bool.false_ne_true]
      · rw [if_neg h2] at q
        rw [if_pos (Int32.not_le.mp h2), ← Option.some.inj q, if_pos rfl]
  by_cases za : rng a 2
  · rw [ite_df (fun w => w za), noPart_eq, bind_s] at eN
    by_cases zc : rng c 2
    · rw [ite_df (fun w => w zc)] at eN
      rcases hL.liv with ⟨l1, l2⟩ | ⟨l1, l2, l, e, t, hV⟩
      · refine ⟨-9000000000000000002, zsI M 0 0, ?_, ?_, Mk_0 M 0⟩
        · rw [eN, if_pos l1]
        · unfold fM_end
          rw [zn_eq, in_rng _ 2 1 (by decide), bind_s, ite_dt za, in_rng _ 2 1 (by decide), bind_s, ite_dt zc, if_pos (show zI (zsI M 0 0) 5 = 0 from l2)]
      · obtain ⟨p, hp, rfl⟩ := rng_nI za
        obtain ⟨la, o, D, M', M1, M2, c1, c2, c3, c4, c5, c6, c7, c8, c9, c10, c11, c12, c13, c14⟩ := (hV.keep (Mk_0 M 0)).sums
        obtain ⟨s1, s2, s3, s4, s5, s6, s7⟩ := c11
        obtain ⟨zz, z1, z2, z3⟩ := s7 p hp
        have hm : Mk M M2 := (Mk_0 M 0).trans ((Mk.mf c3).trans (Mk.ml c13))
        obtain ⟨v, v1, v2⟩ := part_eq (D := 100 * D) c z1 (by omega) (by omega)
        refine ⟨v, M2, ?_, ?_, hm⟩
        · rw [eN, if_neg l1, zg_ix hp (by omega), clampN (by omega)]
          unfold fU_endBottom
          rw [bind_s, z2, s3, h100, v1, bind_s]
        · unfold fM_end
          rw [zn_eq, in_rng _ 2 1 (by decide), bind_s, ite_dt za, in_rng _ 2 1 (by decide), bind_s, ite_dt zc, if_neg (show ¬ zI (zsI M 0 0) 5 = 0 from l2), c1, bind_s, c9, bind_s, z3, bind_s, s4, h100, v2, bind_s]
    · rw [ite_dt zc] at eN
      refine ⟨-9000000000000000001, zsI M 0 0, eN, ?_, Mk_0 M 0⟩
      unfold fM_end
      rw [zn_eq, in_rng _ 2 1 (by decide), bind_s, ite_dt za, in_rng _ 2 1 (by decide), bind_s, ite_df zc]
  · rw [ite_dt za] at eN
    refine ⟨-9000000000000000001, zsI M 0 0, eN, ?_, Mk_0 M 0⟩
    unfold fM_end
    rw [zn_eq, in_rng _ 2 1 (by decide), bind_s, ite_df za]
