/-! SUMS: the whole reckoning on both sides -/
theorem CR.ml {fb : Prop} {S C M M' : zSt} {l i t N : Nat} (h : CR fb S C M l i t N) (e : ML M M') : CR fb S C M' l i t N := by
  unfold CR AgR ThR ThO PuR at h ⊢
  simp only [e.1, e.2]
  exact h
theorem sums_both {fb : Prop} {S C M : zSt} {l i t N : Nat} (U : zSt) (hC : CR fb S C M l i t N) (hl : l ≤ 4) (hL : ∀ la, la < l → LawR S (zA M 9) la) (ht : t ≤ 10) (hi : i ≤ 30) (hN : N ≤ 50) : ∃ (la o h n : Nat) (U1 U2 M1 : zSt) (H I F G : Nat → Int), la < l ∧ zI C 1 = nI la ∧ zI M 26 = nI la ∧ (zA S 5 la = nI o ∧ zA M 9 (8 * la + 5) = nI o) ∧ o ≤ 4 ∧ (zA S 7 la = nI h ∧ zA M 9 (8 * la + 7) = nI h) ∧ h ≤ 100 ∧ fU_addThings U C = some U1 ∧ fU_addPuts U1 C (nI o) = some U2 ∧ fM_laySums M = some M1 ∧ PR o U2 M1 H I F G n ∧ n ≤ 50 ∧ ML M M1 ∧ (∀ p, p < 3 → zA U2 2 p = nI (cnt (zA M 29) (nI p) t)) ∧ (∀ p, p < 3 → -2970 ≤ H p) ∧ H 0 + H 1 + H 2 ≤ 32670 := by
  have hC' := hC
  obtain ⟨la, n, h1, h2, h3, h4, h5, h6, h7, h8, h9, h10, h11, h12⟩ := hC'
  obtain ⟨m, o, h, hm, ho, hh, g1, g2, g3, g4, g5⟩ := hL la h1
  obtain ⟨d0, a0, b0, c0⟩ := h5 0 (by omega)
  obtain ⟨d1, a1, b1, c1⟩ := h5 1 (by omega)
  obtain ⟨d2, a2, b2, c2⟩ := h5 2 (by omega)
  obtain ⟨D, hD⟩ : ∃ D : Nat → Nat, D = fun p => if p = 0 then d0 else if p = 1 then d1 else d2 := ⟨_, rfl⟩
  have hD1 : ∀ p, p < 3 → D p ≤ 2970 ∧ zA C 3 p = nI (D p) := by
    intro p hp
    have : p = 0 ∨ p = 1 ∨ p = 2 := by omega
    rw [hD]
    rcases this with rfl | rfl | rfl
    · exact ⟨by simp only [if_true]; omega, b0⟩
    · exact ⟨by simp only [if_true, if_false, Nat.one_ne_zero]; omega, b1⟩
    · exact ⟨by simp only [if_false, Nat.reduceEqDiff]; omega, b2⟩
  have hD2 : ∀ p, p < 3 → zA M 39 p = nI (D p) := by
    intro p hp
    have : p = 0 ∨ p = 1 ∨ p = 2 := by omega
    rw [hD]
    rcases this with rfl | rfl | rfl
    · exact c0
    · exact c1
    · exact c2
  obtain ⟨M1, e1, e2, e3, e4⟩ := ls2_run 9 0 zF M (by omega) (by unfold zF; omega)
  obtain ⟨U2, M2, f1, f2, f3, f4, f5, f6⟩ := begin_run hD1 3 0 zF zF U M1 (by omega) (by unfold zF; omega) (by unfold zF; omega) (fun p hp => by rw [e2.2]; exact hD2 p hp)
  have m2 : ML M M2 := e2.trans f3
  have t0 : TR U2 M2 (fun p => -(D p : Int)) (fun _ => 0) 0 := by
    refine ⟨fun p hp => ?_, fun p hp => ?_, fun p hp => ?_, by show (0 : Int) + 0 + 0 ≤ 99 * ((0 : Nat) : Int); omega, by show -(D 0 : Int) + -(D 1 : Int) + -(D 2 : Int) ≤ 3267 * ((0 : Nat) : Int); omega⟩
    · obtain ⟨k1, k2, k3, k4, k5⟩ := f5 p (by omega) hp
      exact ⟨k1, k2, k3, k4⟩
    · obtain ⟨k1, k2, k3, k4, k5⟩ := f5 p (by omega) hp
      exact k5
    · have := (hD1 p hp).1
      exact ⟨by show -2970 ≤ -(D p : Int); omega, Int.le_refl 0⟩
  obtain ⟨U3, M3, H, I, v1, v2, v3, v4, v5⟩ := things_run (S := S) (C := C) (l := l) (i := i) (N := N) (t := t) (o := o) (la := la) (fb := fb) ht hi (by omega) t 0 zF zF U2 M2 _ _ (by omega) (by unfold zF; omega) (by unfold zF; omega) t0 (hC.ml m2) (by rw [m2.1]; exact h3) (by rw [m2.2]; exact g3.2)
  obtain ⟨w1, w2, w3, w4, w5⟩ := v3
  have p0 : PR o (zsLf (zsLf U3 3 (zfillL 9 0 (zL U3 3))) 4 (zfillL 9 0 (zL (zsLf U3 3 (zfillL 9 0 (zL U3 3))) 4))) M3 H I (fun _ => 0) (fun _ => 0) 0 := by
    refine ⟨fun p hp => ?_, fun p hp => ?_, fun p q hp hq hpq => ?_, fun p hp => ?_, fun p q hp hq hpq => ?_, ?_, ?_⟩
    · obtain ⟨k1, k2, k3, k4⟩ := w1 p hp
      exact ⟨k1, k2⟩
    · obtain ⟨k1, k2, k3, k4⟩ := w1 p hp
      exact ⟨k3, k4, (w3 p hp).2⟩
    · refine ⟨?_, ?_, Int.le_refl 0⟩
      · show zfillL 9 0 (zL U3 3) (3 * p + q) = _
        unfold zfillL
        rw [if_pos (by omega)]
        rfl
      · rw [v5 47 (by omega), f4 47 (by omega), (e3 (3 * p + q) (by omega) (by omega)).1]
        rfl
    · show zfillL 9 0 (zL U3 3) (3 * p + p) = _
      unfold zfillL
      rw [if_pos (by omega)]
      rfl
    · refine ⟨?_, fun _ => ?_, ?_, ?_⟩
      · show zfillL 9 0 _ (3 * p + q) = _
        unfold zfillL
        rw [if_pos (by omega)]
        rfl
      · rw [v5 48 (by omega), f4 48 (by omega), (e3 (3 * p + q) (by omega) (by omega)).2]
        rfl
      · show -(kB 0) ≤ 0
        exact Int.le_refl 0
      · show 0 ≤ kB 0
        exact Int.le_refl 0
    · omega
    · show (0 : Int) + 0 + 0 + 0 + 0 + 0 ≤ 99 * ((0 : Nat) : Int)
      omega
  have m3 : ML M M3 := m2.trans v4
  obtain ⟨U4, M4, H', I', F', G', k1, k2, k3, k4, k5, k6, k7⟩ := puts_run (S := S) (C := C) (l := l) (i := i) (N := N) (t := t) (o := o) (nn := n) (fb := fb) ht ho (by omega) n 0 zF zF _ M3 H I _ _ (by omega) (by unfold zF; omega) (by unfold zF; omega) p0 (hC.ml m3) h9 (by rw [m3.1]; exact h10)
  subst k5
  refine ⟨la, o, h, n, U3, U4, M4, H', I', F', G', h1, h2, h3, g3, ho, g5, hh, ?_, k1, ?_, k3, by omega, m3.trans k4, fun p hp => ?_, fun p hp => (w3 p hp).1, by omega⟩
  · exact f1.trans v1
  · exact e1.trans (f2.trans (v2.trans k2))
  · rw [k6 2]
    have := w2 p hp
    rw [v4.2, m2.2] at this
    exact this
