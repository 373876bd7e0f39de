/-! CALLS: judge, feed -/
theorem j68_s (n : Nat) (X C : zSt) (x y : Int32) : fX_judge_l68 (n + 1) X C x y = fX_judge_l68b (fun v0 v1 v2 v3 => fX_judge_l68 n v0 v1 v2 v3) X C x y := rfl
theorem j108_s (n : Nat) (X C : zSt) (x y : Int32) : fX_judge_l108 (n + 1) X C x y = fX_judge_l108b (fun v0 v1 v2 v3 => fX_judge_l108 n v0 v1 v2 v3) X C x y := rfl
theorem j73_s (n : Nat) (M : zSt) (x y z : Int32) : fM_judge_l73 (n + 1) M x y z = fM_judge_l73b (fun v0 v1 v2 v3 => fM_judge_l73 n v0 v1 v2 v3) M x y z := rfl
theorem j126_s (n : Nat) (M : zSt) (x y z : Int32) : fM_judge_l126 (n + 1) M x y z = fM_judge_l126b (fun v0 v1 v2 v3 => fM_judge_l126 n v0 v1 v2 v3) M x y z := rfl
theorem jdg1 {X C M : zSt} {r i t : Nat} (ht : t ≤ 10) (hx : 40 * r + i + t ≤ 320) (c4 : zI C 4 = nI t) (m8 : zI M 8 = nI t) (hi : ∀ k, k < t → zA X 2 (40 * r + i + k) = zA M 4 (40 * r + i + k)) : ∀ (d k f f' : Nat), k + d = t → d < f → d < f' → (fX_judge_l68 f X C (nI (40 * r + i)) (nI k) = some (-9000000000000000001, X) ∧ fM_judge_l73 f' M (nI r) (nI i) (nI k) = some (-9000000000000000001, M)) ∨ (fX_judge_l68 f X C (nI (40 * r + i)) (nI k) = fX_judge_l108 zF X C (nI (40 * r + i)) 0 ∧ fM_judge_l73 f' M (nI r) (nI i) (nI k) = Option.bind (fM_goAll (zsI M 1 0)) fun y5 => fM_judge_l126 zF y5 (nI r) (nI i) 0) := by
  intro d
  induction d with
  | zero =>
    intro k f f' hk hf hf'
    obtain ⟨m, rfl⟩ : ∃ m, f = m + 1 := ⟨f - 1, by omega⟩
    obtain ⟨m', rfl⟩ : ∃ m, f' = m + 1 := ⟨f' - 1, by omega⟩
    have : k = t := by omega
    subst this
    right
    refine ⟨?_, ?_⟩
    · rw [j68_s]
      unfold fX_judge_l68b
      rw [c4, if_pos (Int32.le_refl _)]
    · rw [j73_s]
      unfold fM_judge_l73b
      rw [m8, if_pos (Int32.le_refl _), zn_eq]
  | succ d ih =>
    intro k f f' hk hf hf'
    obtain ⟨m, rfl⟩ : ∃ m, f = m + 1 := ⟨f - 1, by omega⟩
    obtain ⟨m', rfl⟩ : ∃ m, f' = m + 1 := ⟨f' - 1, by omega⟩
    have hk' : ¬ nI t ≤ nI k := by rw [nle (by omega) (by omega)]; omega
    have eX : fX_judge_l68 (m + 1) X C (nI (40 * r + i)) (nI k) = if decide (¬ rng (zA M 4 (40 * r + i + k)) 3) = true then some (-9000000000000000001, X) else fX_judge_l68 m X C (nI (40 * r + i)) (nI (k + 1)) := by
      rw [j68_s]
      unfold fX_judge_l68b
      rw [c4, if_neg hk', nI_add, zg_ix (by omega) (by omega), clampN (by omega), hi k (by omega), noPurse_eq, bind_s, zn_eq, nI_1]
    have eM : fM_judge_l73 (m' + 1) M (nI r) (nI i) (nI k) = if decide (rng (zA M 4 (40 * r + i + k)) 3) = true then fM_judge_l73 m' M (nI r) (nI i) (nI (k + 1)) else some (-9000000000000000001, M) := by
      rw [j73_s]
      unfold fM_judge_l73b
      rw [m8, if_neg hk', idx3, zg_ix (by omega) (by omega), clampN (by omega), in_rng _ 3 2 (by decide), bind_s, zn_eq, nI_1]
    rw [eX, eM]
    by_cases z : rng (zA M 4 (40 * r + i + k)) 3
    · rw [ite_df (fun q => q z), ite_dt z]
      exact ih (k + 1) m m' (by omega) (by omega) (by omega)
    · rw [ite_dt z, ite_df z]
      exact Or.inl ⟨rfl, rfl⟩
theorem jdg2 {X C M : zSt} {r i t : Nat} (ht : t ≤ 10) (hx : 40 * r + i + t ≤ 320) (c4 : zI C 4 = nI t) (m8 : zI M 8 = nI t) (hi : ∀ k, k < t → zA X 2 (40 * r + i + k) = zA M 4 (40 * r + i + k)) (hp : ∀ k, k < t → zA C 8 k = zA M 29 k) : ∀ (d k f f' : Nat), k + d = t → d < f → d < f' → ∃ v, fX_judge_l108 f X C (nI (40 * r + i)) (nI k) = some (v, zsI X 3 0) ∧ fM_judge_l126 f' M (nI r) (nI i) (nI k) = some (v, M) := by
  intro d
  induction d with
  | zero =>
    intro k f f' hk hf hf'
    obtain ⟨m, rfl⟩ : ∃ m, f = m + 1 := ⟨f - 1, by omega⟩
    obtain ⟨m', rfl⟩ : ∃ m, f' = m + 1 := ⟨f' - 1, by omega⟩
    have : k = t := by omega
    subst this
    refine ⟨-1000000, ?_, ?_⟩
    · rw [j108_s]
      unfold fX_judge_l108b
      rw [c4, if_pos (Int32.le_refl _), fine_eq, bind_s]
    · rw [j126_s]
      unfold fM_judge_l126b
      rw [m8, if_pos (Int32.le_refl _)]
  | succ d ih =>
    intro k f f' hk hf hf'
    obtain ⟨m, rfl⟩ : ∃ m, f = m + 1 := ⟨f - 1, by omega⟩
    obtain ⟨m', rfl⟩ : ∃ m, f' = m + 1 := ⟨f' - 1, by omega⟩
    have hk' : ¬ nI t ≤ nI k := by rw [nle (by omega) (by omega)]; omega
    have eX : fX_judge_l108 (m + 1) X C (nI (40 * r + i)) (nI k) = if zA M 4 (40 * r + i + k) = zA M 29 k then fX_judge_l108 m X C (nI (40 * r + i)) (nI (k + 1)) else some ((nI k).toInt64, zsI X 3 0) := by
      rw [j108_s]
      unfold fX_judge_l108b
      rw [c4, if_neg hk', nI_add, zg_ix (by omega) (by omega), zg_ix (by omega) (by omega), clampN (by omega), clampN (by omega), hi k (by omega), hp k (by omega), zn_eq, nI_1, fine_eq, bind_s]
    have eM : fM_judge_l126 (m' + 1) M (nI r) (nI i) (nI k) = if zA M 29 k = zA M 4 (40 * r + i + k) then fM_judge_l126 m' M (nI r) (nI i) (nI (k + 1)) else some ((nI k).toInt64, M) := by
      rw [j126_s]
      unfold fM_judge_l126b
      rw [m8, if_neg hk', idx3, zg_ix (by omega) (by omega), zg_ix (by omega) (by omega), clampN (by omega), clampN (by omega), zn_eq, nI_1]
    rw [eX, eM]
    by_cases z : zA M 29 k = zA M 4 (40 * r + i + k)
    · rw [if_pos z.symm, if_pos z]
      exact ih (k + 1) m m' (by omega) (by omega) (by omega)
    · rw [if_neg (fun y => z y.symm), if_neg z]
      exact ⟨_, rfl, rfl⟩
theorem c_judge {X R S C U T M : zSt} (a b : Int32) (hR : InvR X R T M) (hL : InvL X S C U M) : ∃ v X' M', fX_judge X C a b = some (v, X') ∧ fM_judge M a b = some (v, M') ∧ RwK X X' M M' := by
  by_cases za : rng a 8
  · rcases hL.liv with ⟨l1, l2⟩ | ⟨l1, l2, l, e, t, hV⟩
    · refine ⟨-9000000000000000002, X, zsI M 0 0, ?_, ?_, RwK_0 hR⟩
      · unfold fX_judge
        rw [noRow_eq, bind_s, ite_df (fun q => q za), if_pos l1]
      · unfold fM_judge
        rw [zn_eq, isRow_eq, bind_s, ite_dt za, if_pos (show zI (zsI M 0 0) 5 = 0 from l2)]
    · have za' := za
      obtain ⟨r, hr, rfl⟩ := rng_nI za'
      obtain ⟨Mg, a1, a2, a3⟩ := ((hV.keep (Mk_0 M 0)).st 0).go
      obtain ⟨t1, t2, t3, t4⟩ := hV.2.2.1.tt
      obtain ⟨la, n', h1, h2, h3, h4, h5, h6, h7, h8, h9, h10, h11, h12⟩ := a2
      rw [t1] at h6
      have m8 : zI (zsI M 0 0) 8 = nI t := hV.2.2.1.2.2.2.2.1.2
      have l2' : ¬ zI (zsI M 0 0) 5 = 0 := l2
      rcases hR.1 r hr with ⟨e1, e2⟩ | ⟨n, l', n1, l1', e1, e0, e2, e3, e4⟩
      · have e2' : zA (zsI M 0 0) 2 r = -1 := e2
        refine ⟨-9000000000000000010 - (1 : Int32).toInt64, zsI X 3 1, zsI (zsI M 0 0) 1 1, ?_, ?_, RwK_s0 1 hR⟩
        · unfold fX_judge
          rw [noRow_eq, bind_s, ite_df (fun q => q za), if_neg l1, miss_eq hr, e1, if_pos rfl, bind_s, if_pos rfl, found_eq, bind_s]
        · unfold fM_judge
          rw [zn_eq, isRow_eq, bind_s, ite_dt za, if_neg l2', zg_ix hr (by omega), clampN (by omega), e2', if_neg neg1, finding_eq, bind_s]
      · have e2' : zA (zsI M 0 0) 2 r = nI l' := e2
        have e3' : zA (zsI M 0 0) 3 r = nI n := e3
        have eX : fX_judge X C (nI r) b = if decide (¬ fit b (nI t) n) = true then some (-9000000000000000010 - (2 : Int32).toInt64, zsI X 3 2) else fX_judge_l68 zF X C (nI r * 40 + b) 0 := by
          unfold fX_judge
          rw [noRow_eq, bind_s, ite_df (fun q => q za), if_neg l1, miss_eq hr, e1, if_neg (nI_ne_m1 n (by omega)), bind_s, if_neg Bool.false_ne_true, h6, lack_eq b (nI t) hr n1 e1, bind_s, found_eq, bind_s, zn_eq]
        have eM : fM_judge M (nI r) b = if b < 0 then some (-9000000000000000010 - (2 : Int32).toInt64, zsI (zsI M 0 0) 1 2) else if b.toInt64 + (nI t).toInt64 ≤ (nI n).toInt64 then fM_judge_l73 zF (zsI M 0 0) (nI r) b 0 else some (-9000000000000000010 - (2 : Int32).toInt64, zsI (zsI M 0 0) 1 2) := by
          unfold fM_judge
          rw [zn_eq, isRow_eq, bind_s, ite_dt za, if_neg l2', zg_ix hr (by omega), clampN (by omega), e2', if_pos (nI_pos' (by omega)), finding_eq, bind_s, zg_ix hr (by omega), m8, e3']
        rw [eX, eM]
        have q : (b.toInt64 + (nI t).toInt64 ≤ (nI n).toInt64) = (b.toInt + t ≤ n) := propext (by rw [Int64.le_iff_toInt_le, add64, toInt64_toInt, nI_int (by omega), nI_int (by omega)])
        by_cases p : fit b (nI t) n
        · have p1 := p.1
          have p3 := p.2.2
          rw [nI_int (by omega)] at p3
          rw [ite_df (fun w => w p), if_neg (by rw [lt0]; omega), if_pos (by rw [q]; exact p3)]
          obtain ⟨i, hi, rfl⟩ := rng_nI (show rng b 41 from ⟨p1, by omega⟩)
          rw [nI_int (by omega)] at p3
          have hit : ∀ k, k < t → zA X 2 (40 * r + i + k) = zA M 4 (40 * r + i + k) := by
            intro k hk
            have := e4 (i + k) (by omega)
            rw [← Nat.add_assoc] at this
            exact this
          rw [idxX]
          rcases jdg1 (M := zsI M 0 0) t2 (by omega) h6 m8 hit t 0 zF zF (by omega) (by unfold zF; omega) (by unfold zF; omega) with ⟨x1, x2⟩ | ⟨x1, x2⟩
          · exact ⟨_, _, _, x1, x2, RwK_0 hR⟩
          · have x1' : fX_judge_l68 zF X C (nI (40 * r + i)) 0 = _ := x1
            have x2' : fM_judge_l73 zF (zsI M 0 0) (nI r) (nI i) 0 = _ := x2
            have g4 : zA Mg 4 = zA M 4 := (a3.2 4 (by omega))
            obtain ⟨v, v1, v2⟩ := jdg2 (M := Mg) (X := X) (C := C) (r := r) (i := i) t2 (by omega) h6 (by rw [a3.1 8 (by omega) (by omega) (by omega)]; exact m8) (fun k hk => by rw [g4]; exact hit k hk) (fun k hk => by
              obtain ⟨_, _, _, ⟨p, _, p2, p3⟩, _⟩ := h8 k (by omega)
              rw [p2, p3]) t 0 zF zF (by omega) (by unfold zF; omega) (by unfold zF; omega)
            refine ⟨v, zsI X 3 0, Mg, ?_, ?_, RwK_f hR a3⟩
            · rw [x1']
              exact v1
            · rw [x2', a1, bind_s]
              exact v2
        · rw [ite_dt p]
          have f2 : ∃ v X' M', (some (-9000000000000000010 - (2 : Int32).toInt64, zsI X 3 2) : Option (Int64 × zSt)) = some (v, X') ∧ (some (-9000000000000000010 - (2 : Int32).toInt64, zsI (zsI M 0 0) 1 2) : Option (Int64 × zSt)) = some (v, M') ∧ RwK X X' M M' := ⟨_, _, _, rfl, rfl, RwK_s0 2 hR⟩
          by_cases b0 : b < 0
          · rw [if_pos b0]
            exact f2
          · rw [if_neg b0, if_neg]
            · exact f2
            · rw [q]
              intro w
              rw [lt0] at b0
              exact p ⟨by omega, by rw [nI_int (by omega)]; omega, by rw [nI_int (by omega)]; exact w⟩
  · refine ⟨-9000000000000000001, X, zsI M 0 0, ?_, ?_, RwK_0 hR⟩
    · unfold fX_judge
      rw [noRow_eq, bind_s, ite_dt za]
    · unfold fM_judge
      rw [zn_eq, isRow_eq, bind_s, ite_df za]
/-! feed -/
theorem b255 : ∀ i, i < 64 → 8 ≤ i → (255#64).getLsbD i = false := by decide
theorem fd_sh {n k : Nat} (hn : n < 2 ^ 64) (hk : k < 8) : ((lN n >>> ((nI (8 * k)).toInt64 &&& 63)) &&& 255) = lN (n / 2 ^ (8 * k) % 256) := by
  have hm : n / 2 ^ (8 * k) < 2 ^ 64 := Nat.lt_of_le_of_lt (Nat.div_le_self _ _) hn
  have e1 : lN (n / 2 ^ (8 * k)) &&& 255 = lN (n / 2 ^ (8 * k) % 256) := wb_mask (k := 8) hm (by decide)
  rw [← e1, wb_c (8 * k) (by omega)]
  apply wb_inj
  rw [Int64.toBitVec_and, Int64.toBitVec_and, Int64.toBitVec_shiftRight, wb_tb, wb_tb, wb_tb, wb_sm (8 * k) (by omega)]
  apply BitVec.eq_of_getLsbD_eq
  intro i hi
  rw [BitVec.getLsbD_and, BitVec.getLsbD_and]
  by_cases z : 8 ≤ i
  · have e : (255 : Int64).toBitVec.getLsbD i = false := b255 i hi z
    rw [e, Bool.and_false, Bool.and_false]
  · congr 1
    have t : (BitVec.ofNat 64 (8 * k)).toNat = 8 * k := by rw [BitVec.toNat_ofNat, Nat.mod_eq_of_lt (by omega)]
    rw [BitVec.sshiftRight_eq', BitVec.getLsbD_sshiftRight, t, if_pos (by omega), BitVec.getLsbD_ofNat, BitVec.getLsbD_ofNat, Nat.testBit_div_two_pow]
    simp [show ¬ 64 ≤ i by omega, show 8 * k + i < 64 by omega, show i < 64 by omega]
    rw [Nat.add_comm]
theorem c32 : ∀ c, c < 256 → (lN c).toInt32 = nI c := by decide +kernel
theorem c8l : ∀ c, c < 256 → (c < 128 → (Int8.ofNat c).toInt32 = nI c) ∧ (128 ≤ c → (Int8.ofNat c).toInt32 < 0) := by decide +kernel
theorem fd_by {n k : Nat} (hn : n < 2 ^ 64) (hk : k < 8) : ByR ((((lN n).toUInt64 >>> ((nI (8 * k)).toInt64.toUInt64 &&& Int64.toUInt64 63)).toInt64.toInt32).toInt8.toInt32) (((lN n >>> ((nI (8 * k)).toInt64 &&& 63)) &&& 255).toInt32) := by
  rw [fd_sh hn hk, wb_shr hn (by omega)]
  obtain ⟨m, hm⟩ : ∃ m, m = n / 2 ^ (8 * k) := ⟨_, rfl⟩
  rw [← hm]
  have hc : m % 256 < 256 := Nat.mod_lt _ (by omega)
  have e : (lN m).toInt32.toInt8 = Int8.ofNat (m % 256) := by
    rw [Int64.toInt8_toInt32]
    apply Int8.toBitVec_inj.mp
    show (BitVec.ofNat 64 m).signExtend 8 = BitVec.ofNat 8 (m % 256)
    apply BitVec.eq_of_getLsbD_eq
    intro i hi
    rw [BitVec.getLsbD_signExtend, BitVec.getLsbD_ofNat, BitVec.getLsbD_ofNat, show 256 = 2 ^ 8 from rfl, Nat.testBit_mod_two_pow]
    simp [hi, show i < 64 by omega]
  rw [e, c32 _ hc]
  refine ⟨m % 256, hc, rfl, ?_⟩
  by_cases z : m % 256 < 128
  · exact Or.inl ⟨z, (c8l _ hc).1 z⟩
  · exact Or.inr ⟨by omega, (c8l _ hc).2 (by omega)⟩
