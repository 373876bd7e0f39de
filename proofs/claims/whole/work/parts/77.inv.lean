/-! THE INVARIANT of a run of calls, and what goAll gives -/
abbrev rng (a : Int32) (n : Nat) : Prop := 0 ≤ a.toInt ∧ a.toInt < n
theorem rng_nI {a : Int32} {n : Nat} (h : rng a n) : ∃ j, j < n ∧ a = nI j := by
  obtain ⟨h1, h2⟩ := h
  have h3 := Int32.toInt_lt a
  refine ⟨a.toInt.toNat, by omega, ?_⟩
  apply Int32.toInt_inj.mp
  rw [nI_int (by omega)]
  omega
theorem rng_of {j n : Nat} (h : j < n) (hn : n < 2 ^ 31) : rng (nI j) n := by
  show _ ∧ _
  rw [nI_int (by omega)]
  omega
theorem lt0 (a : Int32) : (a < 0) = (a.toInt < 0) := propext (by
  rw [Int32.lt_iff_toInt_lt]
  exact Iff.rfl)
theorem no_lt (a : Int32) (n : Nat) (b : Int32) (hb : b.toInt = n) : (if a < 0 then some true else if a < b then some false else some true) = some (decide (¬ rng a n)) := by
  have e : (a < b) = (a.toInt < n) := propext (by rw [Int32.lt_iff_toInt_lt, hb])
  by_cases h1 : a < 0
  · rw [if_pos h1]
    rw [lt0] at h1
    rw [decide_eq_true (show ¬ rng a n from fun z => by have := z.1; omega)]
  · rw [if_neg h1]
    rw [lt0] at h1
    by_cases h2 : a < b
    · rw [if_pos h2]
      rw [e] at h2
      rw [decide_eq_false (show ¬ ¬ rng a n from fun z => z ⟨by omega, h2⟩)]
    · rw [if_neg h2]
      rw [e] at h2
      rw [decide_eq_true (show ¬ rng a n from fun z => h2 z.2)]
theorem no_le (a : Int32) (n : Nat) (b : Int32) (hb : b.toInt = n) : (if a < 0 then some true else if a ≤ b then some false else some true) = some (decide (¬ rng a (n + 1))) := by
  have e : (a ≤ b) = (a.toInt ≤ n) := propext (by rw [Int32.le_iff_toInt_le, hb])
  by_cases h1 : a < 0
  · rw [if_pos h1]
    rw [lt0] at h1
    rw [decide_eq_true (show ¬ rng a (n + 1) from fun z => by have := z.1; omega)]
  · rw [if_neg h1]
    rw [lt0] at h1
    by_cases h2 : a ≤ b
    · rw [if_pos h2]
      rw [e] at h2
      rw [decide_eq_false (show ¬ ¬ rng a (n + 1) from fun z => z ⟨by omega, by omega⟩)]
    · rw [if_neg h2]
      rw [e] at h2
      rw [decide_eq_true (show ¬ rng a (n + 1) from fun z => h2 (by have := z.2; omega))]
theorem in_rng (a : Int32) (n : Nat) (c : Int64) (hc : c.toInt = (n : Int) - 1) : fM_in a.toInt64 0 c = some (decide (rng a n)) := by
  rw [fM_in_int]
  congr 1
  apply decide_eq_decide.mpr
  have e1 : (0 : Int64).toInt = 0 := by decide
  show (_ ∧ _) ↔ (0 ≤ a.toInt ∧ a.toInt < (n : Int))
  rw [e1, hc]
  constructor <;> intro h <;> omega
theorem noRow_eq (a : Int32) : fX_isNoRow a = some (decide (¬ rng a 8)) := no_lt a 8 8 (by decide)
theorem isRow_eq (a : Int32) : fM_isRow a = some (decide (rng a 8)) := by
  unfold fM_isRow
  rw [in_rng a 8 7 (by decide), bind_s]
theorem noDay_eq (a : Int32) : fX_isNoDay a = some (decide (¬ rng a 1000)) := no_le a 999 999 (by decide)
theorem noPurse_eq (a : Int32) : fX_isNoPurse a = some (decide (¬ rng a 3)) := no_lt a 3 3 (by decide)
theorem isPurse_eq (M : zSt) (a : Int32) : fM_isPurse M a = some (decide (rng a 3)) := by
  unfold fM_isPurse
  rw [in_rng a 3 2 (by decide), bind_s]
theorem noPart_eq (a : Int32) : fX_isNoPart a = some (decide (¬ rng a 2)) := no_le a 1 1 (by decide)
theorem noThing_eq {X C : zSt} {t : Nat} (a : Int32) (h : zI C 4 = nI t) (ht : t ≤ 10) : fX_isNoThing X C a = some (decide (¬ rng a t)) := by
  unfold fX_isNoThing
  rw [h]
  exact no_lt a t (nI t) (nI_int (by omega))
theorem isThing_eq {M : zSt} {t : Nat} (a : Int32) (h : zI M 8 = nI t) (ht : t ≤ 10) : fM_isThing M a = some (decide (rng a t)) := by
  unfold fM_isThing
  have e : ((nI t - nI 1).toInt64).toInt = (t : Int) - 1 := by rw [toInt64_toInt, pk_sub_toInt (by omega) (by omega)]; omega
  rw [h, li1, in_rng a t _ e, bind_s]
theorem ite_dt {α : Type} {P : Prop} {d : Decidable P} (h : P) (a b : α) : (if (@decide P d) = true then a else b) = a := if_pos (decide_eq_true h)
theorem ite_df {α : Type} {P : Prop} {d : Decidable P} (h : ¬ P) (a b : α) : (if (@decide P d) = true then a else b) = b := if_neg (by rw [decide_eq_false h]; decide)
/-- the reference keeps all that lasts -/
def Mk (M M' : zSt) : Prop := (∀ k, k ≠ 0 → k ≠ 26 → k ≠ 28 → k ≠ 40 → zI M' k = zI M k) ∧ (∀ k, k ≤ 25 ∨ k = 53 → zA M' k = zA M k)
theorem Mk.refl (M : zSt) : Mk M M := ⟨fun _ _ _ _ _ => rfl, fun _ _ => rfl⟩
theorem Mk.trans {A B C : zSt} (h : Mk A B) (g : Mk B C) : Mk A C := ⟨fun k a b c d => (g.1 k a b c d).trans (h.1 k a b c d), fun k a => (g.2 k a).trans (h.2 k a)⟩
theorem Mk.mf {A B : zSt} (h : MF A B) : Mk A B := ⟨fun k _ b c d => h.1 k b c d, h.2⟩
theorem Mk.ml {A B : zSt} (h : ML A B) : Mk A B := ⟨fun k _ _ _ _ => h.1 k, fun k _ => h.2 k⟩
theorem Mk_0 (M : zSt) (v : Int32) : Mk M (zsI M 0 v) := ⟨fun k a _ _ _ => by simp only [zI_zsI]; rw [if_neg a], fun _ _ => rfl⟩
def Pre (X S C U M : zSt) : Prop := (zI X 6 = nI 0 ∧ zI M 5 = nI 0) ∧ (zI S 0 = nI 0 ∧ zI S 1 = nI 0) ∧ (zI M 6 = nI 0 ∧ zI M 7 = nI 0 ∧ zI M 8 = nI 0) ∧ (zI C 4 = nI 0 ∧ zI C 13 = nI 0) ∧ (∀ p, p < 3 → zA C 3 p = nI 0) ∧ (∀ p, p < 3 → zL U 0 p = 0 ∧ zL U 1 p = 0 ∧ zA U 2 p = nI 0) ∧ (∀ k, k < 9 → zL U 3 k = 0) ∧ zA M 9 5 = nI 0
def Liv (X S C U M : zSt) (l e t : Nat) : Prop := (zI X 6 = nI 1 ∧ zI M 5 = nI 1) ∧ 1 ≤ l ∧ StR S M l e t ∧ ∃ C0 C1 U0, fC_begin C0 = some C1 ∧ fC_goThrough C1 S (nI 0) (nI e) = some C ∧ fU_reckon U0 C S = some U
def InvL (X S C U M : zSt) : Prop := Pre X S C U M ∨ ∃ l e t, Liv X S C U M l e t
def InvR (X R T M : zSt) : Prop := RowsRel X M ∧ zI X 3 = zI M 1 ∧ zI X 5 = zI M 18 ∧ (∃ n, TpR R M n ∧ zI M 17 = nI n) ∧ (∃ n, n ≤ 16 ∧ zI T 1 = nI n ∧ zI M 54 = nI n ∧ ∀ i, i < n → zA T 0 i = zA M 53 i)
def Inv (u : zLS) : Prop := InvR u.1 u.2.1 u.2.2.2.2.2.2.2.2.1 u.2.2.2.2.2.2.2.2.2 ∧ InvL u.1 u.2.2.1 u.2.2.2.2.1 u.2.2.2.2.2.1 u.2.2.2.2.2.2.2.2.2
theorem InvR.keep {X R T M M' : zSt} (h : InvR X R T M) (g : Mk M M') : InvR X R T M' := by
  obtain ⟨h1, h2, h3, ⟨n, ⟨t1, t2, t3⟩, h4⟩, ⟨m, m1, m2, m3, m4⟩⟩ := h
  refine ⟨h1.congr rfl rfl rfl (g.2 2 (by omega)) (g.2 3 (by omega)) (g.2 4 (by omega)), by rw [g.1 1 (by omega) (by omega) (by omega) (by omega)]; exact h2, by rw [g.1 18 (by omega) (by omega) (by omega) (by omega)]; exact h3, ⟨n, ⟨t1, t2, by rw [g.2 16 (by omega)]; exact t3⟩, by rw [g.1 17 (by omega) (by omega) (by omega) (by omega)]; exact h4⟩, ⟨m, m1, m2, by rw [g.1 54 (by omega) (by omega) (by omega) (by omega)]; exact m3, by rw [g.2 53 (by omega)]; exact m4⟩⟩
theorem StR.mk {S M M' : zSt} {l e t : Nat} (h : StR S M l e t) (g : Mk M M') : StR S M' l e t := by
  unfold StR at h ⊢
  rw [g.1 6 (by omega) (by omega) (by omega) (by omega), g.1 7 (by omega) (by omega) (by omega) (by omega), g.1 8 (by omega) (by omega) (by omega) (by omega), g.2 9 (by omega), g.2 10 (by omega)]
  exact h
theorem Pre.keep {X S C U M M' : zSt} (h : Pre X S C U M) (g : Mk M M') : Pre X S C U M' := by
  unfold Pre at h ⊢
  rw [g.1 5 (by omega) (by omega) (by omega) (by omega), g.1 6 (by omega) (by omega) (by omega) (by omega), g.1 7 (by omega) (by omega) (by omega) (by omega), g.1 8 (by omega) (by omega) (by omega) (by omega), g.2 9 (by omega)]
  exact h
theorem Liv.keep {X S C U M M' : zSt} {l e t : Nat} (h : Liv X S C U M l e t) (g : Mk M M') : Liv X S C U M' l e t := by
  obtain ⟨⟨h1, h2⟩, h3, h4, h5⟩ := h
  exact ⟨⟨h1, by rw [g.1 5 (by omega) (by omega) (by omega) (by omega)]; exact h2⟩, h3, h4.mk g, h5⟩
theorem InvL.keep {X S C U M M' : zSt} (h : InvL X S C U M) (g : Mk M M') : InvL X S C U M' := by
  rcases h with h | ⟨l, e, t, h⟩
  · exact Or.inl (h.keep g)
  · exact Or.inr ⟨l, e, t, h.keep g⟩
/-- X changes its rows and its status alone -/
theorem InvL.keepX {X X' S C U M M' : zSt} (h : InvL X S C U M) (hx : zI X' 6 = zI X 6) (g1 : ∀ k, k = 5 ∨ k = 6 ∨ k = 7 ∨ k = 8 → zI M' k = zI M k) (g2 : zA M' 9 = zA M 9) (g3 : zA M' 10 = zA M 10) : InvL X' S C U M' := by
  rcases h with h | ⟨l, e, t, ⟨h1, h2, h3, h4⟩⟩
  · left
    unfold Pre at h ⊢
    rw [hx, g1 5 (by omega), g1 6 (by omega), g1 7 (by omega), g1 8 (by omega), g2]
    exact h
  · right
    refine ⟨l, e, t, ⟨by rw [hx, g1 5 (by omega)]; exact h1, h2, ?_, h4⟩⟩
    unfold StR at h3 ⊢
    rw [g1 6 (by omega), g1 7 (by omega), g1 8 (by omega), g2, g3]
    exact h3
theorem Liv.go {X S C U M : zSt} {l e t : Nat} (h : Liv X S C U M l e t) : ∃ M', fM_goAll M = some M' ∧ CRi True S C M' l e ∧ MF M M' := by
  obtain ⟨_, hl, hS, C0, C1, U0, b1, b2, b3⟩ := h
  obtain ⟨C1', C', M', a1, a2, a3, a4, a5⟩ := run_all C0 hS hl
  rw [b1] at a1
  cases a1
  rw [b2] at a2
  cases a2
  exact ⟨M', a3, a4, a5⟩
theorem StR.tt {S M : zSt} {l e t : Nat} (h : StR S M l e t) : thn (zA S 8) e = t ∧ t ≤ 10 ∧ e ≤ 30 ∧ l ≤ 4 := by
  obtain ⟨_, h1, _, h2, _, h3, h4, _⟩ := h
  exact ⟨h3.symm, h4, h2, h1⟩
theorem Liv.sums {X S C U M : zSt} {l e t : Nat} (h : Liv X S C U M l e t) : ∃ (la o D : Nat) (M' M1 M2 : zSt), fM_goAll M = some M' ∧ CRi True S C M' l e ∧ MF M M' ∧ la < 4 ∧ zI M' 26 = nI la ∧ zA M' 9 (8 * la + 5) = nI o ∧ o ≤ 4 ∧ fM_laySums M' = some M1 ∧ fM_layNets M' = some M2 ∧ S1R U M1 ∧ S2R o D U M2 ∧ ML M' M1 ∧ ML M' M2 ∧ (∀ p, p < 3 → zA U 2 p = nI (cnt (zA M' 29) (nI p) t)) := by
  obtain ⟨M', a1, a2, a3⟩ := h.go
  obtain ⟨_, hl, hS, C0, C1, U0, b1, b2, b3⟩ := h
  obtain ⟨t1, t2, t3, t4⟩ := hS.tt
  have hS' := hS.mf a3
  obtain ⟨la, o, D, U', M1, M2, c1, c2, c3, c4, c5, c6, c7, c8, c9, c10, c11, c12⟩ := reckon_sim U0 a2 t4 hS'.2.2.2.2.2.2.2.1 (by omega) t3 (by omega)
  rw [b3] at c5
  cases c5
  rw [t1] at c12
  exact ⟨la, o, D, M', M1, M2, a1, a2, a3, by omega, c2, c3, c4, c6, c7, c8, c9, c10, c11, c12⟩
/-- ahead of the first life -/
theorem pre_go {M : zSt} (h7 : zI M 7 = nI 0) : ∃ M', fM_goAll M = some M' ∧ zI M' 26 = nI 0 ∧ zI M' 28 = nI 0 ∧ zI M' 40 = nI 0 ∧ (∀ p, p < 3 → zA M' 39 p = nI 0) ∧ MF M M' := by
  obtain ⟨M0, i1, i2, i3, i4, i5, i6, i7⟩ := go_init M 999 (-1) (-1) (-1) (-1) (-1)
  have hm1 : (if nI 0 ≤ (-1 : Int32) then nI 0 else nI 1) = nI 1 := by decide
  rw [hm1] at i1
  have m7 : zI M0 7 = nI 0 := by rw [i7.1 7 (by omega) (by omega) (by omega)]; exact h7
  refine ⟨M0, ?_, i4, i5, i6, i3, i7⟩
  unfold fM_goAll
  rw [i1, show zF = 999 + 1 from rfl, goM_s]
  unfold fM_goThrough_l89b
  rw [m7, if_pos (Int32.le_refl _)]
  rfl
theorem pre_sums {M : zSt} (h26 : zI M 26 = nI 0) (h28 : zI M 28 = nI 0) (h40 : zI M 40 = nI 0) (h39 : ∀ p, p < 3 → zA M 39 p = nI 0) : ∃ M1, fM_laySums M = some M1 ∧ ML M M1 ∧ (∀ p, p < 3 → zL M1 45 p = 0 ∧ zL M1 46 p = 0) ∧ (∀ k, k < 9 → zL M1 47 k = 0) := by
  obtain ⟨Ma, e1, e2, e3, e4⟩ := ls2_run 9 0 zF M (by omega) (by unfold zF; omega)
  obtain ⟨U2, M2, f1, f2, f3, f4, f5, f6⟩ := begin_run (C := zs0) (D := fun _ => 0) (fun p hp => ⟨by omega, rfl⟩) 3 0 zF zF zs0 Ma (by omega) (by unfold zF; omega) (by unfold zF; omega) (fun p hp => by rw [e2.2]; exact h39 p hp)
  have m2 : ML M M2 := e2.trans f3
  refine ⟨M2, ?_, m2, fun p hp => ?_, fun k hk => ?_⟩
  · unfold fM_laySums
    rw [li0, e1, f2, show zF = 999 + 1 from rfl, ls64_s]
    unfold fM_laySums_l64b
    rw [m2.1, h28, if_pos (Int32.le_refl _), m2.1, h26]
    simp (disch := omega) only [li0, li1, li2, li3, li4, li5, li6, li7, li8, li9, li10, li12, li13, li14, li16, li20, li21, li22, li23, li26, li30, li32, li40, li48, li50, li57, li59, li97, li99, li100, li122, li128, li180, li320, li500, li999, nI_add, pk_mul, subN, clampN, zg_ix, nlt, nle, neq, zn_eq, bind_s, ↓reduceIte, Nat.reduceAdd, Nat.reduceMul, Nat.reduceSub, Nat.reduceLeDiff, Nat.reduceEqDiff, Nat.add_zero, Nat.zero_add, Nat.reduceLT, Nat.mul_zero]
    rw [show zF = 999 + 1 from rfl, ls137_s]
    unfold fM_laySums_l137b
    rw [m2.1, h40, if_pos (Int32.le_refl _)]
  · obtain ⟨_, k2, _, k4, _⟩ := f5 p (by omega) hp
    exact ⟨k2, k4⟩
  · rw [f4 47 (by omega)]
    exact (e3 k (by omega) hk).1
