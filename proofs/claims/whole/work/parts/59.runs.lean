/-! COURSE: the four kinds of runs -/
theorem zF_sub {d : Nat} (h : d ≤ 500) : zF = (zF - d - 1 + 1) + d := by unfold zF; omega
theorem AgR_none {C M : zSt} (hc : ∀ w, w < 5 → zA C 2 w = -1000000) (hm : ∀ w, w < 5 → zA M 27 w = if nI w = -1 then -1 else -1000000) : AgR C M := by
  intro w hw
  have := hm w hw
  rw [if_neg (nI_ne_m1 w (by omega))] at this
  exact ⟨(hc w hw).trans this.symm, Or.inl this⟩
theorem run_to {S M : zSt} {l e t : Nat} (C : zSt) (hS : StR S M l e t) (hl : 1 ≤ l) (x1 : Int32) (y : Nat) (hy : y ≤ e) (h1 : ∀ k, k < y → ¬ x1 < zA S 9 k) (h2 : ∀ k, y ≤ k → k < e → x1 < zA S 9 k) : ∃ C0 C' M', fC_begin C = some C0 ∧ fC_goThrough C0 S (nI 0) (nI y) = some C' ∧ fM_goThrough M x1 (-1) (-1) (-1) (-1) (-1) = some M' ∧ CRi True S C' M' l y ∧ MF M M' := by
  have he : e ≤ 30 := hS.2.2.2.1
  obtain ⟨C0, b0, b1, b2, b3, b4, b5⟩ := begin_eq C
  obtain ⟨M0, i1, i2, i3, i4, i5, i6, i7⟩ := go_init M x1 (-1) (-1) (-1) (-1) (-1)
  have hS0 := hS.mf i7
  have k0 : CRi True S C0 M0 l 0 := CR0 hl b1 b2 b3 b5 i4 i5 i6 i3 (AgR_none b4 i2)
  have hm1 : (if nI 0 ≤ (-1 : Int32) then nI 0 else nI 1) = nI 1 := by decide
  rw [hm1] at i1
  obtain ⟨C', M', f1, f2, f3, f4⟩ := seg (e := e) x1 (-1) (-1) (-1) (nI 1) (Or.inr rfl) y 0 y C0 M0 (by omega) hy hS0 k0 (fun k _ hk => ⟨h1 k hk, nI_ne_m1 k (by omega), fun z => absurd z (by decide)⟩)
  refine ⟨C0, C', M', b0, f1 zF (by unfold zF; omega), ?_, f3, i7.trans f4⟩
  rw [i1, zF_sub (d := y) (by omega), f2, show zF - y - 1 + 1 = (zF - y - (e - y) - 1 + 1) + (e - y) from by unfold zF; omega]
  rw [goM_skips x1 (-1) (-1) (-1) (hS0.mf f4) (e - y) y _ (by omega) h2]
  exact goM_end _ x1 (-1) (-1) (-1) (hS0.mf f4)
theorem day_lt {S M : zSt} {l e t k : Nat} (hS : StR S M l e t) (hk : k < e) : ¬ (999 : Int32) < zA S 9 k := by
  obtain ⟨d, d1, d2, d3⟩ := hS.day hk
  rw [d2, li999, nlt (by omega) (by omega)]
  omega
theorem run_all {S M : zSt} {l e t : Nat} (C : zSt) (hS : StR S M l e t) (hl : 1 ≤ l) : ∃ C0 C' M', fC_begin C = some C0 ∧ fC_goThrough C0 S (nI 0) (nI e) = some C' ∧ fM_goAll M = some M' ∧ CRi True S C' M' l e ∧ MF M M' := by
  obtain ⟨C0, C', M', h1, h2, h3, h4, h5⟩ := run_to C hS hl 999 e (Nat.le_refl _) (fun k hk => day_lt hS hk) (fun k a b => by omega)
  refine ⟨C0, C', M', h1, h2, ?_, h4, h5⟩
  unfold fM_goAll
  rw [h3]
  rfl
theorem run_but {S M : zSt} {l e t b : Nat} (C : zSt) (hS : StR S M l e t) (hl : 1 ≤ l) (hb : b < e) (hk0 : ¬ zA S 8 b = nI 0) (hk1 : ¬ zA S 8 b = nI 1) : ∃ C0 C1 C' M', fC_begin C = some C0 ∧ fC_goThrough C0 S (nI 0) (nI b) = some C1 ∧ fC_goThrough C1 S (nI (b + 1)) (nI e) = some C' ∧ fM_goThrough M 999 (nI b) (-1) (-1) (-1) (-1) = some M' ∧ CRi True S C' M' l e ∧ MF M M' := by
  have he : e ≤ 30 := hS.2.2.2.1
  obtain ⟨C0, b0, b1, b2, b3, b4, b5⟩ := begin_eq C
  obtain ⟨M0, i1, i2, i3, i4, i5, i6, i7⟩ := go_init M 999 (nI b) (-1) (-1) (-1) (-1)
  have hS0 := hS.mf i7
  have k0 : CRi True S C0 M0 l 0 := CR0 hl b1 b2 b3 b5 i4 i5 i6 i3 (AgR_none b4 i2)
  have hm1 : (if nI 0 ≤ (-1 : Int32) then nI 0 else nI 1) = nI 1 := by decide
  rw [hm1] at i1
  obtain ⟨C1, M1, f1, f2, f3, f4⟩ := seg (e := e) 999 (nI b) (-1) (-1) (nI 1) (Or.inr rfl) b 0 b C0 M0 (by omega) (by omega) hS0 k0 (fun k _ hk => ⟨day_lt hS (by omega), by rw [neq (by omega) (by omega)]; omega, fun z => absurd z (by decide)⟩)
  have hS1 := hS0.mf f4
  have f3' : CRi True S C1 M1 l (b + 1) := by
    have ht : thn (zA S 8) (b + 1) = thn (zA S 8) b := by
      simp only [thn, hk0, hk1, or_self, if_false, Nat.add_zero]
    unfold CRi
    rw [ht]
    exact f3.mono (by omega) (by omega)
  obtain ⟨C2, M2, g1, g2, g3, g4⟩ := seg (e := e) 999 (nI b) (-1) (-1) (nI 1) (Or.inr rfl) (e - b - 1) (b + 1) e C1 M1 (by omega) (by omega) hS1 f3' (fun k hk1 hk => ⟨day_lt hS (by omega), by rw [neq (by omega) (by omega)]; omega, fun z => absurd z (by decide)⟩)
  refine ⟨C0, C1, C2, M2, b0, f1 zF (by unfold zF; omega), g1 zF (by unfold zF; omega), ?_, g3, i7.trans (f4.trans g4)⟩
  rw [i1, zF_sub (d := b) (by omega), f2, goM_skip1 _ 999 (nI b) (-1) (-1) hS1 hb (Or.inr rfl)]
  rw [show zF - b - 1 = (zF - b - 1 - (e - b - 1) - 1 + 1) + (e - b - 1) from by unfold zF; omega, g2]
  exact goM_end _ 999 (nI b) (-1) (-1) (hS1.mf g4)
theorem run_ag {S M : zSt} {l e t w p : Nat} (C : zSt) (hS : StR S M l e t) (hl : 1 ≤ l) (hw : w < 5) (hp : p < 3) : ∃ C0 C' M', fC_begin C = some C0 ∧ fC_goThrough (zsA C0 2 w (nI p)) S (nI 0) (nI e) = some C' ∧ fM_goThrough M 999 (-1) (-1) (-1) (nI w) (nI p) = some M' ∧ CRi True S C' M' l e ∧ MF M M' := by
  have he : e ≤ 30 := hS.2.2.2.1
  obtain ⟨C0, b0, b1, b2, b3, b4, b5⟩ := begin_eq C
  obtain ⟨M0, i1, i2, i3, i4, i5, i6, i7⟩ := go_init M 999 (-1) (-1) (-1) (nI w) (nI p)
  have hS0 := hS.mf i7
  have hA : AgR (zsA C0 2 w (nI p)) M0 := by
    intro v hv
    have m := i2 v hv
    by_cases z : v = w
    · subst z
      rw [if_pos rfl] at m
      simp only [zI_zsI, zI_zsAf, zI_zsJ, zI_zsLf, zA_zsI, zA_zsAf, zA_zsJ, zA_zsLf, zJ_zsI, zJ_zsAf, zJ_zsJ, zJ_zsLf, zL_zsI, zL_zsAf, zL_zsJ, zL_zsLf, zI_zsA, zA_zsA, zJ_zsA, zL_zsA, zI_zsL, zA_zsL, zJ_zsL, zL_zsL, zn_eq, li0, li1, li2, li3, li4, li5, li6, li7, li8, li9, li10, li12, li13, li14, li16, li20, li21, li22, li23, li26, li30, li32, li40, li48, li50, li57, li59, li97, li99, li100, li122, li128, li180, li320, li500, li999, nI_add, pk_mul, subN, clampN, zg_ix, nlt, nle, neq, zn_eq, bind_s, ↓reduceIte, Nat.reduceAdd, Nat.reduceMul, Nat.reduceSub, Nat.reduceLeDiff, Nat.reduceEqDiff, Nat.add_zero, Nat.zero_add, Nat.reduceLT, Nat.mul_zero, upd_same]
      exact ⟨m.symm, Or.inr ⟨p, hp, m⟩⟩
    · rw [if_neg (by rw [neq (by omega) (by omega)]; exact z)] at m
      simp only [zI_zsI, zI_zsAf, zI_zsJ, zI_zsLf, zA_zsI, zA_zsAf, zA_zsJ, zA_zsLf, zJ_zsI, zJ_zsAf, zJ_zsJ, zJ_zsLf, zL_zsI, zL_zsAf, zL_zsJ, zL_zsLf, zI_zsA, zA_zsA, zJ_zsA, zL_zsA, zI_zsL, zA_zsL, zJ_zsL, zL_zsL, zn_eq, li0, li1, li2, li3, li4, li5, li6, li7, li8, li9, li10, li12, li13, li14, li16, li20, li21, li22, li23, li26, li30, li32, li40, li48, li50, li57, li59, li97, li99, li100, li122, li128, li180, li320, li500, li999, nI_add, pk_mul, subN, clampN, zg_ix, nlt, nle, neq, zn_eq, bind_s, ↓reduceIte, Nat.reduceAdd, Nat.reduceMul, Nat.reduceSub, Nat.reduceLeDiff, Nat.reduceEqDiff, Nat.add_zero, Nat.zero_add, Nat.reduceLT, Nat.mul_zero, upd_ne z]
      exact ⟨(b4 v hv).trans m.symm, Or.inl m⟩
  have k0 : CRi True S (zsA C0 2 w (nI p)) M0 l 0 := CR0 hl b1 b2 b3 b5 i4 i5 i6 i3 hA
  have hm1 : (if nI 0 ≤ (-1 : Int32) then nI 0 else nI 1) = nI 1 := by decide
  rw [hm1] at i1
  obtain ⟨C', M', f1, f2, f3, f4⟩ := seg (e := e) 999 (-1) (-1) (-1) (nI 1) (Or.inr rfl) e 0 e _ M0 (by omega) (by omega) hS0 k0 (fun k _ hk => ⟨day_lt hS hk, nI_ne_m1 k (by omega), fun z => absurd z (by decide)⟩)
  refine ⟨C0, C', M', b0, f1 zF (by unfold zF; omega), ?_, f3, i7.trans f4⟩
  rw [i1, zF_sub (d := e) (by omega), f2]
  exact goM_end _ 999 (-1) (-1) (-1) (hS0.mf f4)
theorem CRi.weak {S C M : zSt} {l i : Nat} {p q : Prop} (h : CRi p S C M l i) (hq : q → p) : CRi q S C M l i := by
  obtain ⟨la, n, h1, h2, h3, h4, h5, h6, h7, h8, h9, h10, h11, h12⟩ := h
  refine ⟨la, n, h1, h2, h3, h4, h5, h6, h7, fun k hk => ?_, h9, h10, h11, h12⟩
  obtain ⟨g1, g2, g3, g4, g5, g6, g7, g8⟩ := h8 k hk
  exact ⟨g1, g2, g3, g4, g5, fun x => g6 (hq x), g7, g8⟩
theorem run_mv {S M : zSt} {l e t la : Nat} (C : zSt) (hS : StR S M l e t) (hla : la < l) (x3 : Int32) (y : Nat) (hy : y ≤ e) (h1 : ∀ k, k < y → zA S 9 k < x3) (h2 : ∀ k, y ≤ k → k < e → x3 ≤ zA S 9 k) : ∃ C0 C1 C2 C' M', fC_begin C = some C0 ∧ fC_goThrough C0 S (nI 0) (nI y) = some C1 ∧ fC_moveTo C1 S (nI la) (-1000000) = some C2 ∧ fC_goThrough C2 S (nI y) (nI e) = some C' ∧ fM_goThrough M 999 (-1) x3 (nI la) (-1) (-1) = some M' ∧ CRi False S C' M' l e ∧ MF M M' := by
  have he : e ≤ 30 := hS.2.2.2.1
  have hl4 : l ≤ 4 := hS.2.1
  obtain ⟨C0, b0, b1, b2, b3, b4, b5⟩ := begin_eq C
  obtain ⟨M0, i1, i2, i3, i4, i5, i6, i7⟩ := go_init M 999 (-1) x3 (nI la) (-1) (-1)
  have hS0 := hS.mf i7
  have k0 : CRi False S C0 M0 l 0 := CR0 (by omega) b1 b2 b3 b5 i4 i5 i6 i3 (AgR_none b4 i2)
  have hm1 : (if nI 0 ≤ nI la then nI 0 else nI 1) = nI 0 := if_pos (nI_le (by omega) (by omega))
  rw [hm1] at i1
  obtain ⟨C1, M1, f1, f2, f3, f4⟩ := seg (e := e) 999 (-1) x3 (nI la) (nI 0) (Or.inl rfl) y 0 y C0 M0 (by omega) hy hS0 k0 (fun k _ hk => ⟨day_lt hS (by omega), nI_ne_m1 k (by omega), fun _ => h1 k hk⟩)
  have hS1 := hS0.mf f4
  have hy10 : thn (zA S 8) y ≤ 10 := by
    have q1 : t = thn (zA S 8) e := hS.2.2.2.2.2.1
    have q2 : t ≤ 10 := hS.2.2.2.2.2.2.1
    have q3 := thn_mono (zA S 8) hy
    omega
  obtain ⟨C2, M2, v1, v2, v3, v4⟩ := move_sim (la := la) (ev := -1000000) (ev' := nI y) f3 hl4 hS1.2.2.2.2.2.2.2.1 hy10 hla (fun z => z.elim)
  have hS2 := hS1.mf v4
  obtain ⟨C3, M3, g1, g2, g3, g4⟩ := seg (e := e) 999 (-1) x3 (nI la) (nI 1) (Or.inr rfl) (e - y) y e C2 M2 (by omega) (by omega) hS2 v3 (fun k _ hk => ⟨day_lt hS (by omega), nI_ne_m1 k (by omega), fun z => absurd z (by decide)⟩)
  refine ⟨C0, C1, C2, C3, M3, b0, f1 zF (by unfold zF; omega), v1, g1 zF (by unfold zF; omega), ?_, g3, i7.trans (f4.trans (v4.trans g4))⟩
  rw [i1, zF_sub (d := y) (by omega), f2]
  by_cases z : y = e
  · subst z
    rw [goM_end0 _ 999 (-1) x3 (nI la) hS1, v2]
    have q := g2 1
    rw [Nat.sub_self, Nat.add_zero] at q
    rw [goM_end 0 999 (-1) x3 (nI la) (hS2.mf g4), goM_end 0 999 (-1) x3 (nI la) hS2] at q
    exact q
  · rw [goM_mv _ 999 (-1) x3 (nI la) hS1 (by omega) (h2 y (Nat.le_refl _) (by omega)) v2 v4]
    rw [show zF - y - 1 + 1 = (zF - y - (e - y) - 1 + 1) + (e - y) from by unfold zF; omega, g2]
    exact goM_end _ 999 (-1) x3 (nI la) (hS2.mf g4)
