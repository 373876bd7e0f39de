/-! CALLS: as, ask, row, set, drop -/
def RwK (X X' M M' : zSt) : Prop := RowsRel X' M' ∧ zI X' 3 = zI M' 1 ∧ zI X' 5 = zI X 5 ∧ zI X' 6 = zI X 6 ∧ (∀ k, k ≠ 0 → k ≠ 1 → k ≠ 26 → k ≠ 28 → k ≠ 40 → zI M' k = zI M k) ∧ (∀ k, k ≤ 25 ∨ k = 53 → k ≠ 2 → k ≠ 3 → k ≠ 4 → zA M' k = zA M k)
theorem RwK.R {X X' R T M M' : zSt} (g : RwK X X' M M') (h : InvR X R T M) : InvR X' R T M' := by
  obtain ⟨h1, h2, h3, ⟨n, ⟨t1, t2, t3⟩, h4⟩, ⟨m, m1, m2, m3, m4⟩⟩ := h
  obtain ⟨g1, g2, g3, g4, g5, g6⟩ := g
  refine ⟨g1, g2, by rw [g3, h3, g5 18 (by omega) (by omega) (by omega) (by omega) (by omega)], ⟨n, ⟨t1, t2, by rw [g6 16 (by omega) (by omega) (by omega) (by omega)]; exact t3⟩, by rw [g5 17 (by omega) (by omega) (by omega) (by omega) (by omega)]; exact h4⟩, ⟨m, m1, m2, by rw [g5 54 (by omega) (by omega) (by omega) (by omega) (by omega)]; exact m3, by rw [g6 53 (by omega) (by omega) (by omega) (by omega)]; exact m4⟩⟩
theorem RwK.L {X X' S C U M M' : zSt} (g : RwK X X' M M') (h : InvL X S C U M) : InvL X' S C U M' := by
  obtain ⟨g1, g2, g3, g4, g5, g6⟩ := g
  exact h.keepX g4 (fun k hk => g5 k (by omega) (by omega) (by omega) (by omega) (by omega)) (g6 9 (by omega) (by omega) (by omega) (by omega)) (g6 10 (by omega) (by omega) (by omega) (by omega))
/-- nothing but 'thrown' is written -/
theorem RwK_0 {X R T M : zSt} (h : InvR X R T M) : RwK X X M (zsI M 0 0) := by
  refine ⟨h.1, h.2.1, rfl, rfl, fun k a _ _ _ _ => ?_, fun _ _ _ _ _ => rfl⟩
  simp only [zI_zsI]
  rw [if_neg a]
/-- status alone is written -/
theorem RwK_s {X R T M M' : zSt} (v : Int32) (h : InvR X R T M) (g : MF (zsI M 0 0) M') : RwK X (zsI X 3 v) M (zsI M' 1 v) := by
  refine ⟨h.1.congr rfl rfl rfl (g.2 2 (by omega)) (g.2 3 (by omega)) (g.2 4 (by omega)), rfl, rfl, rfl, fun k a b c d e => ?_, fun k a _ _ _ => g.2 k a⟩
  simp only [zI_zsI]
  rw [if_neg b, g.1 k c d e]
  simp only [zI_zsI]
  rw [if_neg a]
theorem RwK_s0 {X R T M : zSt} (v : Int32) (h : InvR X R T M) : RwK X (zsI X 3 v) M (zsI (zsI M 0 0) 1 v) := RwK_s v h (MF.refl _)
theorem zsI_comm01 (M : zSt) (v w : Int32) : zsI (zsI M 1 v) 1 w = zsI M 1 w := zsI_twice M 1 v w
theorem RwK_f {X R T M M' : zSt} (h : InvR X R T M) (g : MF (zsI (zsI M 0 0) 1 0) M') : RwK X (zsI X 3 0) M M' := by
  refine ⟨h.1.congr rfl rfl rfl (g.2 2 (by omega)) (g.2 3 (by omega)) (g.2 4 (by omega)), ?_, rfl, rfl, fun k a b c d e => ?_, fun k a _ _ _ => g.2 k a⟩
  · rw [g.1 1 (by omega) (by omega) (by omega)]
    rfl
  · rw [g.1 k c d e]
    simp only [zI_zsI]
    rw [if_neg b, if_neg a]
theorem Mk_01 (M : zSt) : MF (zsI M 0 0) (zsI M 0 0) := MF.refl _
theorem Liv.st {X S C U M : zSt} {l e t : Nat} (v : Int32) (h : Liv X S C U M l e t) : Liv X S C U (zsI M 1 v) l e t := by
  obtain ⟨h1, h2, h3, h4⟩ := h
  exact ⟨h1, h2, h3, h4⟩
theorem c_as {X R S C U T M : zSt} (a b : Int32) (hR : InvR X R T M) (hL : InvL X S C U M) : ∃ v X' M', fX_as X S C T a b = some (v, X') ∧ fM_as M a b = some (v, M') ∧ RwK X X' M M' := by
  obtain ⟨t, ht, c4, m8, hc⟩ := hL.t
  have m8' : zI (zsI M 0 0) 8 = nI t := m8
  have eN : ∀ (α : Type) (p q : α), (if b < 0 then p else (if b < 6 then q else p)) = if decide (rng b 6) = true then q else p := by
    intro α p q
    have w := no_lt b 6 6 (by decide)
    by_cases h1 : b < 0
    · rw [if_pos h1] at w ⊢
      have w' := Option.some.inj w
      rw [ite_df (of_decide_eq_true w'.symm)]
    · rw [if_neg h1] at w ⊢
      by_cases h2 : b < 6
      · rw [if_pos h2] at w ⊢
        have w' := Option.some.inj w
        rw [ite_dt (Classical.byContradiction (of_decide_eq_false w'.symm))]
      · rw [if_neg h2] at w ⊢
        have w' := Option.some.inj w
        rw [ite_df (of_decide_eq_true w'.symm)]
  by_cases za : rng a t
  · by_cases zb : rng b 6
    · rcases hc with ⟨_, rfl⟩ | ⟨l, e, hV⟩
      · exact absurd za.2 (by have := za.1; omega)
      · have za' := za
        obtain ⟨j, hj, rfl⟩ := rng_nI za'
        have zb' := zb
        obtain ⟨q, hq, rfl⟩ := rng_nI zb'
        obtain ⟨M', ci, a1, a2, a3, b1, b2, b3⟩ := ((hV.keep (Mk_0 M 0)).st 0).told T hj
        obtain ⟨i1, i2⟩ := isOf_eq ci q b1 hq
        have eX : fX_as X S C T (nI j) (nI q) = if fX_isOfKind ci (nI q) = true then some ((nI j).toInt64, zsI X 3 0) else some (-9000000000000000010 - (3 : Int32).toInt64, zsI X 3 3) := by
          unfold fX_as
          rw [noThing_eq _ c4 ht, bind_s, ite_df (fun q => q za), eN, ite_dt zb, b2, bind_s, zg_t i1]
          rfl
        have eM : fM_as M (nI j) (nI q) = if fX_isOfKind ci (nI q) = true then some ((nI j).toInt64, M') else some (-9000000000000000010 - (3 : Int32).toInt64, zsI M' 1 3) := by
          unfold fM_as
          rw [zn_eq, isThing_eq _ m8' ht, bind_s, ite_dt za, in_rng _ 6 5 (by decide), bind_s, ite_dt zb, zn_eq, a1, bind_s, b3, bind_s, i2, bind_s]
          rfl
        rw [eX, eM]
        by_cases z : fX_isOfKind ci (nI q) = true
        · rw [if_pos z, if_pos z]
          exact ⟨_, _, _, rfl, rfl, RwK_f hR a3⟩
        · rw [if_neg z, if_neg z]
          refine ⟨_, _, _, rfl, rfl, ?_⟩
          have k := RwK_f hR a3
          obtain ⟨g1, g2, g3, g4, g5, g6⟩ := k
          refine ⟨g1, rfl, rfl, rfl, fun k a b c d e => ?_, g6⟩
          simp only [zI_zsI]
          rw [if_neg b]
          exact g5 k a b c d e
    · refine ⟨-9000000000000000001, X, zsI M 0 0, ?_, ?_, RwK_0 hR⟩
      · unfold fX_as
        rw [noThing_eq _ c4 ht, bind_s, ite_df (fun q => q za), eN, ite_df zb]
      · unfold fM_as
        rw [zn_eq, isThing_eq _ m8' ht, bind_s, ite_dt za, in_rng _ 6 5 (by decide), bind_s, ite_df zb]
  · refine ⟨-9000000000000000001, X, zsI M 0 0, ?_, ?_, RwK_0 hR⟩
    · unfold fX_as
      rw [noThing_eq _ c4 ht, bind_s, ite_dt za]
    · unfold fM_as
      rw [zn_eq, isThing_eq _ m8' ht, bind_s, ite_df za]
theorem ask_all {S C T M : zSt} {l e t j ci : Nat} (h : CRi True S C M l e) (hS : StR S M l e t) (hj : j < t) (hci : ci = 5 ∨ ci = 1 ∨ ci = 3 ∨ ci = 0 ∨ ci = 4) (hT : TrR T M 0) : AskV (tv_size ci C T (nI j)) (fM_sizeOf M (nI j) (nI (kc ci))) M ∧ AskV (tv_mark ci C T (nI j)) (fM_markOf M (nI j) (nI (kc ci))) M := by
  obtain ⟨t1, t2, t3, t4⟩ := hS.tt
  obtain ⟨la, n, h1, h2, h3, h4, h5, h6, h7, h8, h9, h10, h11, h12⟩ := h
  obtain ⟨g1, g2, g3, ⟨p, p1, p2, p3⟩, g5, g6, ⟨w, w1, w2, w3⟩, g8⟩ := h8 j (by omega)
  have hn : n ≤ 50 := by omega
  have hw : w ≤ 5000 := by omega
  rcases hci with rfl | rfl | rfl | rfl | rfl
  · exact ⟨ask_1_size (by omega) hw p1 hn w2 w3 p2 p3 g8 h10 hT, ask_1_mark (by omega) hw p1 hn w2 w3 p2 p3 g8 h10 hT⟩
  · exact ⟨ask_2_size (by omega) hw p1 hn w2 w3 p2 p3 g8 h10 hT, ask_2_mark (by omega) hw p1 hn w2 w3 p2 p3 g8 h10 hT⟩
  · exact ⟨ask_3_size (by omega) hw p1 hn w2 w3 p2 p3 g8 h10 hT, ask_3_mark (by omega) hw p1 hn w2 w3 p2 p3 g8 h10 hT⟩
  · exact ⟨ask_4_size (by omega) hw p1 hn w2 w3 p2 p3 g8 h10 hT, ask_4_mark (by omega) hw p1 hn w2 w3 p2 p3 g8 h10 hT⟩
  · exact ⟨ask_5_size (by omega) hw p1 hn w2 w3 p2 p3 g8 h10 hT, ask_5_mark (by omega) hw p1 hn w2 w3 p2 p3 g8 h10 hT⟩
/-- what ask keeps -/
def AkK (T T' M M' : zSt) : Prop := (∃ n, TrR T' M' n) ∧ (∀ k, k ≠ 0 → k ≠ 26 → k ≠ 28 → k ≠ 40 → k ≠ 54 → zI M' k = zI M k) ∧ (∀ k, k ≤ 25 → zA M' k = zA M k)
theorem AkK.R {X R T T' M M' : zSt} (g : AkK T T' M M') (h : InvR X R T M) : InvR X R T' M' := by
  obtain ⟨h1, h2, h3, ⟨n, ⟨t1, t2, t3⟩, h4⟩, _⟩ := h
  obtain ⟨⟨m, m1, m2, m3, m4⟩, g5, g6⟩ := g
  exact ⟨h1.congr rfl rfl rfl (g6 2 (by omega)) (g6 3 (by omega)) (g6 4 (by omega)), by rw [g5 1 (by omega) (by omega) (by omega) (by omega) (by omega)]; exact h2, by rw [g5 18 (by omega) (by omega) (by omega) (by omega) (by omega)]; exact h3, ⟨n, ⟨t1, t2, by rw [g6 16 (by omega)]; exact t3⟩, by rw [g5 17 (by omega) (by omega) (by omega) (by omega) (by omega)]; exact h4⟩, ⟨m, m1, m2, m3, m4⟩⟩
theorem AkK.L {X S C U T T' M M' : zSt} (g : AkK T T' M M') (h : InvL X S C U M) : InvL X S C U M' := by
  obtain ⟨_, g5, g6⟩ := g
  exact h.keepX rfl (fun k hk => g5 k (by omega) (by omega) (by omega) (by omega) (by omega)) (g6 9 (by omega)) (g6 10 (by omega))
theorem AkK_0 {X R T M : zSt} (h : InvR X R T M) : AkK T T M (zsI M 0 0) := by
  obtain ⟨_, _, _, _, ⟨m, m1, m2, m3, m4⟩⟩ := h
  refine ⟨⟨m, m1, m2, m3, m4⟩, fun k a _ _ _ _ => ?_, fun _ _ => rfl⟩
  simp only [zI_zsI]
  rw [if_neg a]
theorem c_ask {X R S C U T M : zSt} (a b : Int32) (hR : InvR X R T M) (hL : InvL X S C U M) : ∃ v T' M', fX_ask X S C T a b = some (v, T') ∧ fM_ask M a b = some (v, M') ∧ AkK T T' M M' := by
  obtain ⟨t, ht, c4, m8, hc⟩ := hL.t
  have m8' : zI (zsI M 0 0) 8 = nI t := m8
  have eN : ∀ (α : Type) (p q : α), (if b < 0 then p else (if b ≤ 1 then q else p)) = if decide (rng b 2) = true then q else p := by
    intro α p q
    have w := no_le b 1 1 (by decide)
    by_cases h1 : b < 0
    · rw [if_pos h1] at w ⊢
      have w' := Option.some.inj w
      rw [ite_df (of_decide_eq_true w'.symm)]
    · rw [if_neg h1] at w ⊢
      by_cases h2 : b ≤ 1
      · rw [if_pos h2] at w ⊢
        have w' := Option.some.inj w
        rw [ite_dt (Classical.byContradiction (of_decide_eq_false w'.symm))]
      · rw [if_neg h2] at w ⊢
        have w' := Option.some.inj w
        rw [ite_df (of_decide_eq_true w'.symm)]
  by_cases za : rng a t
  · by_cases zb : rng b 2
    · rcases hc with ⟨_, rfl⟩ | ⟨l, e, hV⟩
      · exact absurd za.2 (by have := za.1; omega)
      · have za' := za
        obtain ⟨j, hj, rfl⟩ := rng_nI za'
        have hV' : Liv X S C U (zsI (zsI M 0 0) 54 0) l e t := by
          obtain ⟨h1, h2, h3, h4⟩ := hV
          exact ⟨h1, h2, h3, h4⟩
        obtain ⟨M', ci, a1, a2, a3, b1, b2, b3⟩ := hV'.told (zsI T 1 0) hj
        have hT : TrR (zsI T 1 0) M' 0 := ⟨by omega, rfl, by rw [a3.1 54 (by omega) (by omega) (by omega)]; rfl, fun i hi => by omega⟩
        obtain ⟨k1, k2⟩ := ask_all a2 (hV'.2.2.1.mf a3) hj b1 hT
        have fin : ∀ {T' M'' : zSt} {n : Nat}, TrR T' M'' n → TM M' M'' → AkK T T' M M'' := by
          intro T' M'' n r q
          refine ⟨⟨n, r⟩, fun k a b c d e => ?_, fun k hk => ?_⟩
          · rw [q.1 k e, a3.1 k b c d]
            simp only [zI_zsI]
            rw [if_neg e, if_neg a]
          · rw [q.2 k (by omega), a3.2 k (by omega)]
            rfl
        have zb' := zb
        obtain ⟨q, hq, rfl⟩ := rng_nI zb'
        have q2 : q = 0 ∨ q = 1 := by omega
        rcases q2 with rfl | rfl
        · obtain ⟨v, x, T', M'', n, x1, x2, x3, x4, x5⟩ := k1
          refine ⟨v, T', M'', ?_, ?_, fin x4 x5⟩
          · unfold fX_ask fT_clear
            rw [noThing_eq _ c4 ht, bind_s, ite_df (fun q => q za), eN, ite_dt zb, zn_eq, bind_s, b2, bind_s, if_pos li0.symm, x1, bind_s]
          · unfold fM_ask
            rw [zn_eq, isThing_eq _ m8' ht, bind_s, ite_dt za, in_rng _ 2 1 (by decide), bind_s, ite_dt zb, zn_eq, a1, bind_s, if_pos li0.symm, b3, bind_s, x2, bind_s, x3]
        · obtain ⟨v, x, T', M'', n, x1, x2, x3, x4, x5⟩ := k2
          refine ⟨v, T', M'', ?_, ?_, fin x4 x5⟩
          · unfold fX_ask fT_clear
            rw [noThing_eq _ c4 ht, bind_s, ite_df (fun q => q za), eN, ite_dt zb, zn_eq, bind_s, b2, bind_s, if_neg (by decide), x1, bind_s]
          · unfold fM_ask
            rw [zn_eq, isThing_eq _ m8' ht, bind_s, ite_dt za, in_rng _ 2 1 (by decide), bind_s, ite_dt zb, zn_eq, a1, bind_s, if_neg (by decide), b3, bind_s, x2, bind_s, x3]
    · refine ⟨-9000000000000000001, T, zsI M 0 0, ?_, ?_, AkK_0 hR⟩
      · unfold fX_ask
        rw [noThing_eq _ c4 ht, bind_s, ite_df (fun q => q za), eN, ite_df zb]
      · unfold fM_ask
        rw [zn_eq, isThing_eq _ m8' ht, bind_s, ite_dt za, in_rng _ 2 1 (by decide), bind_s, ite_df zb]
  · refine ⟨-9000000000000000001, T, zsI M 0 0, ?_, ?_, AkK_0 hR⟩
    · unfold fX_ask
      rw [noThing_eq _ c4 ht, bind_s, ite_dt za]
    · unfold fM_ask
      rw [zn_eq, isThing_eq _ m8' ht, bind_s, ite_df za]
