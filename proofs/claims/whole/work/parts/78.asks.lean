/-! CALLS that ask: whose, thing, purse, fed, owed, net, end, trace, count -/
theorem nrng {a : Int32} {n : Nat} (z : ¬ rng a n) (k : Nat) (hk : k < n) (hn : n < 2 ^ 31) : ¬ a = nI k := fun e => z (by rw [e]; exact rng_of hk hn)
theorem InvL.t {X S C U M : zSt} (h : InvL X S C U M) : ∃ t, t ≤ 10 ∧ zI C 4 = nI t ∧ zI M 8 = nI t ∧ ((Pre X S C U M ∧ t = 0) ∨ ∃ l e, Liv X S C U M l e t) := by
  rcases h with h | ⟨l, e, t, h⟩
  · exact ⟨0, by omega, h.2.2.2.1.1, h.2.2.1.2.2, Or.inl ⟨h, rfl⟩⟩
  · obtain ⟨M', a1, a2, a3⟩ := h.go
    obtain ⟨t1, t2, t3, t4⟩ := h.2.2.1.tt
    have m8 := h.2.2.1.2.2.2.2.1.2
    obtain ⟨la, n, h1, h2, h3, h4, h5, h6, h7, h8, h9, h10, h11, h12⟩ := a2
    rw [t1] at h6
    exact ⟨t, t2, h6, m8, Or.inr ⟨l, e, h⟩⟩
theorem c_whose {X S C U M : zSt} (D : zSt) (a b : Int32) (hL : InvL X S C U M) : ∃ v D' M', fX_whose X S C D a b = some (v, D') ∧ fM_whose M a b = some (v, M') ∧ Mk M M' := by
  obtain ⟨t, ht, c4, m8, hc⟩ := hL.t
  have m8' : zI (zsI M 0 0) 8 = nI t := m8
  by_cases za : rng a t
  · by_cases zb : rng b 1000
    · rcases hc with ⟨_, rfl⟩ | ⟨l, e, hV⟩
      · exact absurd za.2 (by have := za.1; omega)
      · obtain ⟨j, hj, rfl⟩ := rng_nI za
        obtain ⟨d, hd, rfl⟩ := rng_nI zb
        have hV' := hV.keep (Mk_0 M 0)
        obtain ⟨_, hl, hS, _⟩ := hV'
        obtain ⟨t1, t2, t3, t4⟩ := hS.tt
        obtain ⟨y, y1, y2, y3, y4⟩ := first_eq (nI (d + 1)) hS
        have hd1 : ∀ k, k < e → (zA S 9 k < nI (d + 1) ↔ ¬ nI d < zA S 9 k) := by
          intro k hk
          obtain ⟨q, q1, q2, _⟩ := hS.day hk
          rw [q2, nlt (by omega) (by omega), nlt (by omega) (by omega)]
          omega
        obtain ⟨C0, C', M', b1, b2, b3, b4, b5⟩ := run_to D hS hl (nI d) y y1 (fun k hk => (hd1 k (by omega)).mp (y3 k hk)) (fun k h1 h2 => by
          have q := y4 k h1 h2
          by_cases w : nI d < zA S 9 k
          · exact w
          · exact absurd ((hd1 k h2).mpr w) (Int32.not_lt.mpr q))
        obtain ⟨la, n, h1, h2, h3, h4, h5, h6, h7, h8, h9, h10, h11, h12⟩ := b4
        have ty : thn (zA S 8) y ≤ 10 := by have := thn_mono (zA S 8) y1; omega
        by_cases w : thn (zA S 8) y ≤ j
        · refine ⟨-1000000, C', M', ?_, ?_, (Mk_0 M 0).trans (Mk.mf b5)⟩
          · unfold fX_whose
            rw [noThing_eq _ c4 ht, bind_s, ite_df (fun q => q za), noDay_eq, bind_s, ite_df (fun q => q zb), b1, bind_s, nI_1, y2, bind_s, li0, b2, bind_s, h6, if_pos (nI_le w (by omega))]
          · unfold fM_whose
            rw [zn_eq, isThing_eq _ m8' ht, bind_s, ite_dt za, in_rng _ 1000 999 (by decide), bind_s, ite_dt zb, b3, bind_s, h7, if_pos (nI_le w (by omega))]
        · obtain ⟨g1, g2, g3, ⟨p, p1, p2, p3⟩, _⟩ := h8 j (by omega)
          refine ⟨(nI p).toInt64, C', M', ?_, ?_, (Mk_0 M 0).trans (Mk.mf b5)⟩
          · unfold fX_whose
            rw [noThing_eq _ c4 ht, bind_s, ite_df (fun q => q za), noDay_eq, bind_s, ite_df (fun q => q zb), b1, bind_s, nI_1, y2, bind_s, li0, b2, bind_s, h6, if_neg (by rw [nle (by omega) (by omega)]; exact w), zg_ix (by omega) (by omega), clampN (by omega), p2]
          · unfold fM_whose
            rw [zn_eq, isThing_eq _ m8' ht, bind_s, ite_dt za, in_rng _ 1000 999 (by decide), bind_s, ite_dt zb, b3, bind_s, h7, if_neg (by rw [nle (by omega) (by omega)]; exact w), zg_ix (by omega) (by omega), clampN (by omega), p3]
    · refine ⟨-9000000000000000001, D, zsI M 0 0, ?_, ?_, Mk_0 M 0⟩
      · unfold fX_whose
        rw [noThing_eq _ c4 ht, bind_s, ite_df (fun q => q za), noDay_eq, bind_s, ite_dt zb]
      · unfold fM_whose
        rw [zn_eq, isThing_eq _ m8' ht, bind_s, ite_dt za, in_rng _ 1000 999 (by decide), bind_s, ite_df zb]
  · refine ⟨-9000000000000000001, D, zsI M 0 0, ?_, ?_, Mk_0 M 0⟩
    · unfold fX_whose
      rw [noThing_eq _ c4 ht, bind_s, ite_dt za]
    · unfold fM_whose
      rw [zn_eq, isThing_eq _ m8' ht, bind_s, ite_df za]
theorem pin_s (n : Nat) (M : zSt) (x y z : Int32) : fM_putsInto_l4 (n + 1) M x y z = fM_putsInto_l4b (fun v0 v1 v2 v3 => fM_putsInto_l4 n v0 v1 v2 v3) M x y z := rfl
theorem pin_run {M : zSt} {n j : Nat} (hn : n ≤ 50) (m40 : zI M 40 = nI n) : ∀ (d k f : Nat), k + d = n → d < f → fM_putsInto_l4 f M (nI j) (nI (cnt (zA M 41) (nI j) k)) (nI k) = some (nI (cnt (zA M 41) (nI j) n)) := by
  intro d
  induction d with
  | zero =>
    intro k f hk hf
    obtain ⟨m, rfl⟩ : ∃ m, f = m + 1 := ⟨f - 1, by omega⟩
    have : k = n := by omega
    subst this
    rw [pin_s]
    unfold fM_putsInto_l4b
    rw [m40, if_pos (Int32.le_refl _)]
  | succ d ih =>
    intro k f hk hf
    obtain ⟨m, rfl⟩ : ∃ m, f = m + 1 := ⟨f - 1, by omega⟩
    rw [← ih (k + 1) m (by omega) (by omega), pin_s]
    unfold fM_putsInto_l4b
    rw [m40, if_neg (by rw [nle (by omega) (by omega)]; omega), zg_ix (by omega) (by omega), clampN (by omega)]
    simp only [cnt]
    by_cases z : zA M 41 k = nI j
    · rw [if_pos z, if_pos z, zn_eq, zn_eq, nI_1, nI_1]
    · rw [if_neg z, if_neg z, zn_eq, zn_eq, nI_1, li0, nI_add]
theorem pin_eq {M : zSt} {n : Nat} (j : Nat) (hn : n ≤ 50) (m40 : zI M 40 = nI n) : fM_putsInto M (nI j) = some (nI (cnt (zA M 41) (nI j) n)) := pin_run hn m40 n 0 zF (by omega) (by unfold zF; omega)
theorem way_eq {S C M : zSt} {j : Nat} (h : ThO S C M j) : fS_way S (zA C 5 j) = some (zA M 37 j) := by
  obtain ⟨c, k, a, b, x, hc, o1, o2, o3, o4, o5, o6, hb, hx, hk⟩ := h
  unfold fS_way
  rw [o1, zg_ix hc (by omega), clampN (by omega), o3, zg_ix hc (by omega), o4]
  rcases hk with ⟨rfl, ha, q1, hb1, q2⟩ | ⟨rfl, ha, q1, q2, q3, q4⟩
  · rw [if_pos li0.symm, q1]
  · rw [if_neg (by decide), q1]
    rfl
theorem c_thing {X S C U M : zSt} (a b : Int32) (hL : InvL X S C U M) : ∃ v M', fX_thing X S C a b = some v ∧ fM_thing M a b = some (v, M') ∧ Mk M M' := by
  obtain ⟨t, ht, c4, m8, hc⟩ := hL.t
  have m8' : zI (zsI M 0 0) 8 = nI t := m8
  by_cases za : rng a t
  · by_cases zb : rng b 7
    · rcases hc with ⟨_, rfl⟩ | ⟨l, e, hV⟩
      · exact absurd za.2 (by have := za.1; omega)
      · obtain ⟨j, hj, rfl⟩ := rng_nI za
        obtain ⟨d, hd, rfl⟩ := rng_nI zb
        obtain ⟨M', a1, a2, a3⟩ := (hV.keep (Mk_0 M 0)).go
        obtain ⟨t1, t2, t3, t4⟩ := hV.2.2.1.tt
        obtain ⟨la, n, h1, h2, h3, h4, h5, h6, h7, h8, h9, h10, h11, h12⟩ := a2
        obtain ⟨g1, g2, g3, ⟨p, p1, p2, p3⟩, g5, g6, ⟨w, w1, w2, w3⟩, g8⟩ := h8 j (by omega)
        have g6 := g6 trivial
        have gw := way_eq g1
        have gp := pin_eq j (by omega) h10
        obtain ⟨c, k, a', b', x', hc, o1, o2, _⟩ := g1
        have eX : fX_thing X S C (nI j) (nI d) = (if nI d = 0 then some (zA C 8 j).toInt64 else if nI d = 1 then some (zA C 9 j).toInt64 else if nI d = 2 then some (zA C 5 j).toInt64 else if nI d = 3 then some (zA C 10 j).toInt64 else if nI d = 4 then some (zA C 11 j).toInt64 else if nI d = 5 then some (zA C 12 j).toInt64 else if nI d = 6 then some (zA M' 37 j).toInt64 else some (-9000000000000000001)) := by
          unfold fX_thing
          rw [noThing_eq _ c4 ht, bind_s, ite_df (fun q => q za)]
          simp only [zg_ix (show j < 10 by omega) (show 10 ≤ 1000 by omega), clampN (show j < 2 ^ 31 by omega), gw, bind_s]
        have eM : fM_thing M (nI j) (nI d) = (if nI d = 0 then some ((zA M' 29 j).toInt64, M') else if nI d = 1 then some ((zA M' 31 j).toInt64, M') else if nI d = 2 then some ((zA M' 32 j).toInt64, M') else if nI d = 3 then some ((zA M' 33 j).toInt64, M') else if nI d = 4 then some ((zA M' 34 j).toInt64, M') else if nI d = 5 then some ((nI (cnt (zA M' 41) (nI j) n)).toInt64, M') else some ((zA M' 37 j).toInt64, M')) := by
          unfold fM_thing
          rw [zn_eq, isThing_eq _ m8' ht, bind_s, ite_dt za, in_rng _ 7 6 (by decide), bind_s, ite_dt zb, a1, bind_s]
          simp only [zg_ix (show j < 10 by omega) (show 10 ≤ 1000 by omega), clampN (show j < 2 ^ 31 by omega), gp, bind_s]
        rw [eX, eM]
        have hm := (Mk_0 M 0).trans (Mk.mf a3)
        have d7 : d = 0 ∨ d = 1 ∨ d = 2 ∨ d = 3 ∨ d = 4 ∨ d = 5 ∨ d = 6 := by omega
        rcases d7 with rfl | rfl | rfl | rfl | rfl | rfl | rfl
        · exact ⟨_, M', rfl, by rw [p2, ← p3]; rfl, hm⟩
        · exact ⟨_, M', rfl, by rw [g5]; rfl, hm⟩
        · exact ⟨_, M', rfl, by rw [o1, ← o2]; rfl, hm⟩
        · exact ⟨_, M', rfl, by rw [g6]; rfl, hm⟩
        · exact ⟨_, M', rfl, by rw [w2, ← w3]; rfl, hm⟩
        · exact ⟨_, M', rfl, by rw [g8]; rfl, hm⟩
        · exact ⟨_, M', rfl, rfl, hm⟩
    · refine ⟨-9000000000000000001, zsI M 0 0, ?_, ?_, Mk_0 M 0⟩
      · unfold fX_thing
        rw [noThing_eq _ c4 ht, bind_s, ite_df (fun q => q za), if_neg (show ¬ b = 0 from nrng zb 0 (by omega) (by omega)), if_neg (show ¬ b = 1 from nrng zb 1 (by omega) (by omega)), if_neg (show ¬ b = 2 from nrng zb 2 (by omega) (by omega)), if_neg (show ¬ b = 3 from nrng zb 3 (by omega) (by omega)), if_neg (show ¬ b = 4 from nrng zb 4 (by omega) (by omega)), if_neg (show ¬ b = 5 from nrng zb 5 (by omega) (by omega)), if_neg (show ¬ b = 6 from nrng zb 6 (by omega) (by omega))]
      · unfold fM_thing
        rw [zn_eq, isThing_eq _ m8' ht, bind_s, ite_dt za, in_rng _ 7 6 (by decide), bind_s, ite_df zb]
  · refine ⟨-9000000000000000001, zsI M 0 0, ?_, ?_, Mk_0 M 0⟩
    · unfold fX_thing
      rw [noThing_eq _ c4 ht, bind_s, ite_dt za]
    · unfold fM_thing
      rw [zn_eq, isThing_eq _ m8' ht, bind_s, ite_df za]
