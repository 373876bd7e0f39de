theorem ix5 (la : Nat) : (8 : Int32) * nI la + 5 = nI (8 * la + 5) := by rw [li8, li5, pk_mul, nI_add]
theorem reckon_sim {fb : Prop} {S C M : zSt} {l i t N : Nat} (U : zSt) (hC : CR fb S C M l i t N) (hl : l ≤ 4) (hL : ∀ la, la < l → LawR S (zA M 9) la) (ht : t ≤ 10) (hi : i ≤ 30) (hN : N ≤ 50) : ∃ (la o D : Nat) (U' M1 M2 : zSt), la < l ∧ zI M 26 = nI la ∧ zA M 9 (8 * la + 5) = nI o ∧ o ≤ 4 ∧ fU_reckon U C S = some U' ∧ fM_laySums M = some M1 ∧ fM_layNets M = some M2 ∧ S1R U' M1 ∧ S2R o D U' M2 ∧ ML M M1 ∧ ML M M2 ∧ (∀ p, p < 3 → zA U' 2 p = nI (cnt (zA M 29) (nI p) t)) := by
  obtain ⟨la, o, h, n, U1, U2, M1, H, I, F, G, a1, a2, a3, a4, a5, a6, a7, a8, a9, a10, a11, a12, a13, a14, a15, a16⟩ := sums_both U hC hl hL ht hi hN
  have m26 : zI M1 26 = nI la := by rw [a13.1]; exact a3
  have m5 : zA M1 9 (8 * la + 5) = nI o := by rw [a13.2]; exact a4.2
  by_cases z : o = 1
  · subst z
    obtain ⟨D, U', M2, e1, e2, e3, e4, e5, e6⟩ := parts_case (S := S) (C := C) (M1 := M1) (U2 := U2) a11 a12 (by omega) a2 m26 a6.1 (by rw [a13.2]; exact a6.2) a7 a15 a16
    refine ⟨la, 1, D, U', M1, M2, a1, a3, a4.2, a5, ?_, a10, ?_, e3, e4, a13, a13.trans e5, fun p hp => by rw [e6]; exact a14 p hp⟩
    · unfold fU_reckon
      rw [a2, zg_ix (by omega) (by omega), clampN (by omega), zn_eq, a4.1, a8, bind_n, a9, bind_n, zn_eq, if_pos li1.symm]
      exact e1
    · unfold fM_layNets
      rw [a10, bind_n, m26, ix5, zg_ix (by omega) (by omega), clampN (by omega), m5, if_pos li1.symm]
      exact e2
  · obtain ⟨U', M2, e1, e2, e3, e4, e5, e6⟩ := nets_case (S := S) (C := C) (M1 := M1) (U2 := U2) a11 z a12 (by omega) a2 m26 a6.1 (by rw [a13.2]; exact a6.2) a7 a15 a16
    refine ⟨la, o, 1, U', M1, M2, a1, a3, a4.2, a5, ?_, a10, ?_, e3, e4, a13, a13.trans e5, fun p hp => by rw [e6]; exact a14 p hp⟩
    · unfold fU_reckon
      rw [a2, zg_ix (by omega) (by omega), clampN (by omega), zn_eq, a4.1, a8, bind_n, a9, bind_n, zn_eq, if_neg (by rw [li1, neq (by omega) (by omega)]; exact z)]
      exact e1
    · unfold fM_layNets
      rw [a10, bind_n, m26, ix5, zg_ix (by omega) (by omega), clampN (by omega), m5, if_neg (by rw [li1, neq (by omega) (by omega)]; exact z), zn_eq]
      exact e2
