/-! READER: all events, and a whole text, on both sides -/
def StG (S : zSt) (x y z : Int32) (lw ev : Nat → Int32) (l e t : Nat) : Prop := (zI S 0 = nI l ∧ x = nI l) ∧ l ≤ 4 ∧ (zI S 1 = nI e ∧ y = nI e) ∧ e ≤ 30 ∧ (zI S 2 = nI t ∧ z = nI t) ∧ t = thn (zA S 8) e ∧ t ≤ 10 ∧ (∀ i, i < l → LawR S lw i) ∧ (∀ i, i < e → EvR S ev l i) ∧ (∀ i j, i ≤ j → j < e → zA S 9 i ≤ zA S 9 j)
def StN (S M : zSt) (l e t : Nat) : Prop := StG S (zI M 11) (zI M 12) (zI M 13) (zA M 14) (zA M 15) l e t
theorem thn_congr {f g : Nat → Int32} : ∀ m, (∀ i, i < m → f i = g i) → thn f m = thn g m := by
  intro m
  induction m with
  | zero => intro _; rfl
  | succ m ih =>
    intro h
    simp only [thn]
    rw [ih (fun i hi => h i (by omega)), h m (by omega)]
theorem EvR.keep {S S' : zSt} {ev ev' : Nat → Int32} {l i e : Nat} (h : EvR S ev l i) (hi : i < e) (hS : ∀ q j, (q < 8 ∨ j ≠ e) → zA S' q j = zA S q j) (hE : ∀ j, j < 6 * e → ev' j = ev j) : EvR S' ev' l i := by
  unfold EvR at h ⊢
  rw [hS 8 i (Or.inr (by omega)), hS 9 i (Or.inr (by omega)), hS 10 i (Or.inr (by omega)), hS 11 i (Or.inr (by omega)), hS 12 i (Or.inr (by omega)), hE (6 * i) (by omega), hE (6 * i + 1) (by omega), hE (6 * i + 2) (by omega), hE (6 * i + 3) (by omega), hE (6 * i + 4) (by omega), thn_congr i (fun j hj => hS 8 j (Or.inr (by omega)))]
  exact h
theorem LawR.keep {S S' : zSt} {lw lw' : Nat → Int32} {i : Nat} (h : LawR S lw i) (hS : ∀ q j, q < 8 → zA S' q j = zA S q j) (hE : ∀ j, j < 8 * i + 8 → lw' j = lw j) : LawR S' lw' i := by
  obtain ⟨m, o, hu, h1, h2, h3, h4, ⟨h5, h6⟩, ⟨h7, h8⟩, h9, h10, h11⟩ := h
  refine ⟨m, o, hu, h1, h2, h3, fun w hw => ?_, ⟨?_, ?_⟩, ⟨?_, ?_⟩, ?_, ⟨?_, ?_⟩⟩
  · rw [hS 3 _ (by omega), hE _ (by omega)]; exact h4 w hw
  · rw [hS 4 _ (by omega)]; exact h5
  · rw [hE _ (by omega)]; exact h6
  · rw [hS 5 _ (by omega)]; exact h7
  · rw [hE _ (by omega)]; exact h8
  · rw [hS 6 _ (by omega), hE _ (by omega)]; exact h9
  · rw [hS 7 _ (by omega)]; exact h10
  · rw [hE _ (by omega)]; exact h11
theorem EvV.toR {S : zSt} {ev : Nat → Int32} {l t i k : Nat} (h : EvV S ev l t i k) (hk : k ≤ 6) (ht : t = thn (zA S 8) i) : EvR S ev l i := by
  obtain ⟨d, a, b, c, h1, h2⟩ := h
  subst ht
  exact ⟨k, d, a, b, c, hk, h1, h2⟩
def EvF (R R' S S' M M' : zSt) : Prop := (∀ k, zA R' k = zA R k) ∧ zI R' 1 = zI R 1 ∧ (∀ k, k ≠ 15 → zA M' k = zA M k) ∧ (∀ k, k ≠ 12 → k ≠ 13 → k < 20 ∨ 25 < k → zI M' k = zI M k)
theorem EvF.trans {A B C S T U X Y Z : zSt} (h : EvF A B S T X Y) (g : EvF B C T U Y Z) : EvF A C S U X Z := ⟨fun k => (g.1 k).trans (h.1 k), g.2.1.trans h.2.1, fun k a => (g.2.2.1 k a).trans (h.2.2.1 k a), fun k a b c => (g.2.2.2 k a b c).trans (h.2.2.2 k a b c)⟩
theorem re2_s (n : Nat) (R S : zSt) (x : Int32) : fR_readEvents_l2 (n + 1) R S x = fR_readEvents_l2b (fun v0 v1 v2 => fR_readEvents_l2 n v0 v1 v2) R S x := rfl
theorem lf69_s (n : Nat) (M : zSt) : fM_life_l69 (n + 1) M = fM_life_l69b (fun v0 => fM_life_l69 n v0) M := rfl
theorem ev_bad {R M : zSt} {n : Nat} (S : zSt) (x : Int32) (f f' : Nat) (hR : RdR R M n) (r2 : ¬ zI R 2 = nI 0) : fR_readEvents_l2 (f + 1) R S x = some (R, S) ∧ fM_life_l69 (f' + 1) M = fM_life_b116 M := by
  have m24 : ¬ zI M 24 = nI 0 := by rw [← hR.flag]; exact r2
  have r2' : ¬ zI R 2 = 0 := r2
  have m24' : ¬ zI M 24 = 0 := m24
  refine ⟨?_, ?_⟩
  · rw [re2_s]
    unfold fR_readEvents_l2b
    rw [if_neg r2', ite_self]
  · rw [lf69_s]
    unfold fM_life_l69b
    rw [if_neg m24']
theorem isEv {R M : zSt} {n s h : Nat} (hn : n ≤ 500) (hk : TkR R M n s h) (m24 : zI M 24 = nI 0) : (fR_choice R 5 = some (-1) ∧ fM_kindOfWord M = some (-1000000)) ∨ ∃ k, k ≤ 6 ∧ fR_choice R 5 = some (nI k) ∧ fM_kindOfWord M = some (nI k) := by
  have ec := choice_5 hn hk
  have ew := kindW_eq (word_0 hn hk m24)
  have key := one_cho (w_tok_let hk) [] (fun a ha => by cases ha) w_W5 0 w_ok5
  have e7 : w_W5.map (fun w => lN (w_pk w)) ++ [] = [1668246885, 6452601, 7370100, 7237495, 1870095731, 1818324580, 418347378021] := by decide +kernel
  rw [e7] at key
  rcases key with ⟨k1, k2⟩ | ⟨k, k0, k1, k2, k3⟩
  · left
    rw [ec, ew, k1, k2]
    exact ⟨rfl, rfl⟩
  · right
    have k0 : k < 0 + 7 := k0
    refine ⟨k, by omega, ?_, ?_⟩
    · rw [ec, k1]
    · rw [ew, k2]
theorem b65_bad {M : zSt} (x1 x2 x3 t0 : Int32) (k : Nat) (h : zI M 24 = nI k) (hk : 1 ≤ k ∧ k ≤ 3) : fM_readEvent_b65 M x1 x2 x3 t0 = some M := by
  have m24 : ¬ zI M 24 = nI 0 := by rw [h, neq (by omega) (by omega)]; omega
  unfold fM_readEvent_b65
  rw [must_bad t0 m24, bind_s, h, if_neg (by rw [li0, nle (by omega) (by omega)]; omega)]
theorem RdR.bad {R M : zSt} {n : Nat} (h : RdR R M n) (r2 : ¬ zI R 2 = nI 0) : ∃ k, zI M 24 = nI k ∧ 1 ≤ k ∧ k ≤ 3 := by
  obtain ⟨_, _, _, hf⟩ := h
  rcases hf with ⟨a, _⟩ | ⟨k, s, k1, k2, k3, k4, k5, _⟩
  · exact absurd a r2
  · exact ⟨k, k5, k1, k2⟩
/-- the day from which the next event's day counts -/
def dayD (S : zSt) (e : Nat) : Int32 := if e = 0 then nI 0 else zA S 9 (e - 1)
theorem l69_eq {M S : zSt} {l e t : Nat} (f' : Nat) (hG : StN S M l e t) (m24 : zI M 24 = nI 0) (m21 : ¬ zI M 21 = nI 1) : fM_life_l69 (f' + 1) M = Option.bind (fM_readEvent M (dayD S e)) fun y => fM_life_l69 f' y := by
  obtain ⟨_, _, ⟨_, m12⟩, he, _, _, _, _, hE, _⟩ := hG
  have m24' : zI M 24 = 0 := m24
  have m21' : ¬ zI M 21 = 1 := m21
  rw [lf69_s]
  unfold fM_life_l69b dayD
  rw [if_pos m24', if_neg m21', m12]
  by_cases z : e = 0
  · rw [z, if_pos li0.symm, if_pos rfl]
    rfl
  · obtain ⟨k, d, a, b, c, _, _, _, ⟨q1, q2⟩, _⟩ := hE (e - 1) (by omega)
    rw [if_neg (by rw [li0, neq (by omega) (by omega)]; exact z), li6, li5, pk_mul, pk_sub (by omega), zg_ix (by omega) (by omega), clampN (by omega), if_neg z, show 6 * e - 5 = 6 * (e - 1) + 1 from by omega, q1, q2]
theorem rdev_eq {R S : zSt} {e k : Nat} (he : e < 30) : fR_readEvent R S (nI e) (nI k) = Option.bind (fR_step R) fun y1 => fR_readEvent_b33 y1 (zsA S 8 e (nI k)) (nI e) (nI k) (dayD S e) (nI e) := by
  unfold fR_readEvent dayD
  congr 1
  funext y1
  rw [zg_ix (by omega) (by omega), clampN (by omega), zn_eq]
  by_cases z : e = 0
  · rw [z, if_pos li0.symm, if_pos rfl]
    rfl
  · rw [if_neg (by rw [li0, neq (by omega) (by omega)]; exact z), li1, pk_sub (by omega), zg_ix (by omega) (by omega), clampN (by omega), if_neg z]
    rfl
theorem b65_eq {M M1 : zSt} {e k b : Nat} (D : Int32) (hm : fM_must M 1 = some M1) (m24 : zI M1 24 = nI 0) (m12 : zI M1 12 = nI e) (he : e < 30) (hb : b ≤ 1) : fM_readEvent_b65 M D (nI k) (nI b) 1 = Option.bind (evM M1 D k e) fun y8 => some (zsI (zsI y8 12 (zI y8 12 + nI 1)) 13 (zI y8 13 + nI b)) := by
  have m24' : zI M1 24 ≤ 0 := by rw [m24]; decide
  unfold fM_readEvent_b65 evM
  rw [hm, bind_s, if_pos m24', m12, li6, pk_mul, zn_eq, zg_ix (by omega) (by omega), clampN (by omega), zn_eq, li999]
  cases h1 : fM_numberIn (zsA M1 15 (6 * e) (nI k)) D (nI 999) with
  | none => rfl
  | some y5 =>
    rw [bind_s, bind_s, li1, nI_add, zg_ix (by omega) (by omega), clampN (by omega), zn_eq, zn_eq]
    cases h2 : fM_readNumbers (zsA y5.2 15 (6 * e + 1) y5.1) (nI k) (nI (6 * e)) with
    | none => rfl
    | some y7 =>
      rw [bind_s, bind_s]
      cases h3 : fM_mustEnd y7 with
      | none => rfl
      | some y8 =>
        rw [bind_s, bind_s]
        have b2 : b = 0 ∨ b = 1 := by omega
        rcases b2 with rfl | rfl
        · rw [zn_eq, if_pos li0.symm]
          rfl
        · rw [zn_eq, if_neg (by decide)]
          rfl
theorem ev_step {R M S : zSt} {n l e t k b : Nat} (hR : RdR R M n) (r2 : zI R 2 = nI 0) (hG : StN S M l e t) (hk : k ≤ 6) (he : e < 30) (hb : (b = 1 ∧ (k = 0 ∨ k = 1) ∧ t < 10) ∨ (b = 0 ∧ ¬ (k = 0 ∨ k = 1))) : ∃ R1 Sx M1, fR_readEvent R S (nI e) (nI k) = some (R1, Sx) ∧ (zI Sx 1 = nI e ∧ zI Sx 2 = nI t) ∧ fM_readEvent_b65 M (dayD S e) (nI k) (nI b) 1 = some M1 ∧ RdR R1 M1 n ∧ (zI R1 2 = nI 0 → StN (zsI (zsI Sx 1 (nI (e + 1))) 2 (nI (t + b))) M1 l (e + 1) (t + b)) ∧ EvF R R1 S (zsI (zsI Sx 1 (nI (e + 1))) 2 (nI (t + b))) M M1 := by
  have m24 : zI M 24 = nI 0 := hR.flag.symm.trans r2
  have hG' := hG
  obtain ⟨⟨s0, m11⟩, hl, ⟨s1, m12⟩, he30, ⟨s2, m13⟩, ht, ht10, hLw, hEv, hday⟩ := hG'
  obtain ⟨Ra, Ma, f1, f2, f3, f4, f5, f6⟩ := step_rd hR r2
  have ma24 : zI Ma 24 = nI 0 := f3.flag.symm.trans f4
  have ma11 : zI Ma 11 = nI l := by rw [f6.2.2.1 11 (by omega)]; exact m11
  have ma12 : zI Ma 12 = nI e := by rw [f6.2.2.1 12 (by omega)]; exact m12
  have ma13 : zI Ma 13 = nI t := by rw [f6.2.2.1 13 (by omega)]; exact m13
  obtain ⟨R', S', Mx, a1, a2, a3, a4, a5, a6, a7, a8, a9⟩ := ev_body (k := k) (S := S) (dayD S e) f3 he s2 ma13 s0 ma11 ht10 hl hk
  have x12 : zI Mx 12 = nI e := by rw [a4.2.2.1 12 (by omega)]; exact ma12
  have x13 : zI Mx 13 = nI t := by rw [a4.2.2.1 13 (by omega)]; exact ma13
  have b1 : b ≤ 1 := by omega
  refine ⟨R', S', zsI (zsI Mx 12 (nI (e + 1))) 13 (nI (t + b)), ?_, ⟨by rw [a6]; exact s1, by rw [a6]; exact s2⟩, ?_, a3.congr rfl (fun q h1 h2 => ?_), fun z => ?_, ⟨fun q => (a4.1 q).trans (f6.1 q), a4.2.1.trans f6.2.1, fun q hq => (a5 q hq).trans (f5 q), fun q h1 h2 h3 => ?_⟩⟩
  · rw [rdev_eq he, f1, bind_s]
    exact a1
  · rw [b65_eq (dayD S e) (must_1 m24 f2) ma24 ma12 he b1, a2, bind_s, x12, x13, nI_add, nI_add]
  · simp only [zI_zsI]
    rw [if_neg (by omega), if_neg (by omega)]
  · obtain ⟨v1, v2⟩ := a9 z
    have tt : thn (zA S' 8) e = t := by rw [ht]; exact thn_congr e (fun j hj => a7 8 j (Or.inr (by omega)))
    have vR := v2.toR hk tt.symm
    have k8 : zA S' 8 e = nI k := by
      obtain ⟨_, _, _, _, _, ⟨q, _⟩, _⟩ := v2
      exact q
    have e15 : ∀ j, j < 6 * e → zA Mx 15 j = zA M 15 j := fun j hj => (a8 j hj).trans (congrFun (f5 15) j)
    refine ⟨⟨(a6 0).trans s0, ?_⟩, hl, ⟨rfl, rfl⟩, by omega, ⟨rfl, rfl⟩, ?_, by omega, fun i hi => ?_, fun i hi => ?_, fun i j hij hj => ?_⟩
    · show zI Mx 11 = nI l
      rw [a4.2.2.1 11 (by omega)]
      exact ma11
    · show t + b = thn (zA S' 8) (e + 1)
      simp only [thn, k8, tt]
      rcases hb with ⟨rfl, hb, _⟩ | ⟨rfl, hb⟩
      · rw [if_pos]
        rcases hb with rfl | rfl
        · exact Or.inl rfl
        · exact Or.inr rfl
      · rw [if_neg]
        rw [neq (by omega) (by omega), neq (by omega) (by omega)]
        exact hb
    · refine LawR.keep (S' := zsI (zsI S' 1 (nI (e + 1))) 2 (nI (t + b))) (hLw i hi) (fun q j hq => a7 q j (Or.inl hq)) (fun j _ => ?_)
      show zA Mx 14 j = _
      rw [a5 14 (by omega), f5]
    · by_cases y : i = e
      · subst y
        exact vR
      · exact EvR.keep (S' := zsI (zsI S' 1 (nI (e + 1))) 2 (nI (t + b))) (hEv i (by omega)) (by omega : i < e) (fun q j hq => a7 q j hq) e15
    · show zA S' 9 i ≤ zA S' 9 j
      by_cases y : j = e
      · subst y
        by_cases w : i = j
        · subst w; exact Int32.le_refl _
        · rw [a7 9 i (Or.inr w)]
          refine Int32.le_trans ?_ v1
          unfold dayD
          rw [if_neg (by omega)]
          exact hday i (j - 1) (by omega) (by omega)
      · rw [a7 9 i (Or.inr (by omega)), a7 9 j (Or.inr y)]
        exact hday i j hij (by omega)
  · simp only [zI_zsI]
    rw [if_neg h2, if_neg h1]
    exact (a4.2.2.1 q h3).trans (f6.2.2.1 q h3)
/-- one turn of both loops -/
theorem ev_turn {R M S : zSt} {n l e t : Nat} (f f' : Nat) (hR : RdR R M n) (r2 : zI R 2 = nI 0) (hG : StN S M l e t) : (fR_readEvents_l2 (f + 1) R S (nI e) = some (R, S) ∧ fM_life_l69 (f' + 1) M = fM_life_b116 M) ∨ (∃ R1 M1, fR_readEvents_l2 (f + 1) R S (nI e) = fR_readEvents_l2 f R1 S (nI (e + 1)) ∧ fM_life_l69 (f' + 1) M = fM_life_l69 f' M1 ∧ RdR R1 M1 n ∧ ¬ zI R1 2 = nI 0 ∧ EvF R R1 S S M M1) ∨ (e < 30 ∧ ∃ R1 S1 M1 t', fR_readEvents_l2 (f + 1) R S (nI e) = fR_readEvents_l2 f R1 S1 (nI (e + 1)) ∧ fM_life_l69 (f' + 1) M = fM_life_l69 f' M1 ∧ RdR R1 M1 n ∧ (zI R1 2 = nI 0 → StN S1 M1 l (e + 1) t') ∧ EvF R R1 S S1 M M1) := by
  have r2' : zI R 2 = 0 := r2
  have m24 : zI M 24 = nI 0 := hR.flag.symm.trans r2
  have m24' : zI M 24 = 0 := m24
  have hG' := hG
  obtain ⟨⟨s0, m11⟩, hl, ⟨s1, m12⟩, he30, ⟨s2, m13⟩, ht, ht10, hLw, hEv, hday⟩ := hG'
  have hR' := hR
  obtain ⟨hT, h19, ⟨s, hh, hk⟩, hf⟩ := hR'
  have hs : (zI R 4 = nI 0 ∧ zI M 21 = nI 1) ∨ (¬ zI R 4 = nI 0 ∧ ¬ zI M 21 = nI 1) := by
    obtain ⟨_, _, _, _, hc⟩ := hk
    rcases hc with ⟨e1, e2⟩ | ⟨e1, e2, _⟩ | ⟨e1, e2, _⟩ | ⟨e1, e2⟩ | ⟨e1, e2⟩
    · left; exact ⟨e1, e2⟩
    · right; rw [e1, e2, neq (by omega) (by omega), neq (by omega) (by omega)]; omega
    · right; rw [e1, e2, neq (by omega) (by omega), neq (by omega) (by omega)]; omega
    · right; rw [e1, e2, neq (by omega) (by omega), neq (by omega) (by omega)]; omega
    · right; rw [e1, e2, neq (by omega) (by omega), neq (by omega) (by omega)]; omega
  have h30 : ¬ (30 : Int32) < nI e := by rw [li30, nlt (by omega) (by omega)]; omega
  rcases hs with ⟨z1, z2⟩ | ⟨z1, z2⟩
  · left
    have z1' : zI R 4 = 0 := z1
    have z2' : zI M 21 = 1 := z2
    refine ⟨?_, ?_⟩
    · rw [re2_s]
      unfold fR_readEvents_l2b
      rw [if_neg h30, if_pos r2', if_pos z1']
    · rw [lf69_s]
      unfold fM_life_l69b
      rw [if_pos m24', if_pos z2']
  right
  have z1' : ¬ zI R 4 = 0 := z1
  have eL := l69_eq f' hG m24 z2
  have eF : ∀ c, fR_choice R 5 = some c → fR_readEvents_l2 (f + 1) R S (nI e) = if c = 0 then fR_readEvents_b43 (fun v0 v1 v2 => fR_readEvents_l2 f v0 v1 v2) R S (nI e) c 1 else (if c = 1 then fR_readEvents_b43 (fun v0 v1 v2 => fR_readEvents_l2 f v0 v1 v2) R S (nI e) c 1 else fR_readEvents_b43 (fun v0 v1 v2 => fR_readEvents_l2 f v0 v1 v2) R S (nI e) c 0) := by
    intro c hc
    rw [re2_s]
    unfold fR_readEvents_l2b
    rw [if_neg h30, if_pos r2', if_neg z1', hc, bind_s]
  rcases isEv hT.2.1 hk m24 with ⟨c1, c2⟩ | ⟨k, hk6, c1, c2⟩
  · left
    obtain ⟨R1, M1, f1, f2, f3, f4, f5, f6⟩ := fail_rd hR r2 1 (by omega)
    have f1' : fR_fail R 1 = some R1 := f1
    have g4 : ¬ zI M1 24 = nI 0 := by rw [← f3.flag]; exact f4
    obtain ⟨q, q1, q2, q3⟩ := f3.bad f4
    refine ⟨R1, M1, ?_, ?_, f3, f4, ⟨f6.1, f6.2.1, fun k _ => f5 k, fun k _ _ h => f6.2.2.1 k h⟩⟩
    · rw [eF _ c1, if_neg (by decide), if_neg (by decide)]
      unfold fR_readEvents_b43
      rw [if_neg (by decide), f1', bind_s, zn_eq, nI_1]
    · rw [eL]
      unfold fM_readEvent
      rw [c2, bind_s, if_neg (by decide), if_neg (by decide)]
      unfold fM_readEvent_b19
      rw [if_pos rfl]
      unfold fM_readEvent_b35
      rw [if_pos rfl]
      unfold fM_readEvent_b53
      rw [if_pos rfl]
      have e65 : fM_readEvent_b65 M (dayD S e) (-1000000) 0 0 = some M1 := by
        unfold fM_readEvent_b65
        rw [must_0 f2 g4, bind_s, q1, if_neg (by rw [li0, nle (by omega) (by omega)]; omega)]
      rw [e65, bind_s]
  · have hnone : ¬ nI k = (-1000000 : Int32) := nI_ne_m k (by omega)
    obtain ⟨b, hb⟩ : ∃ b, (b = 1 ∧ (k = 0 ∨ k = 1)) ∨ (b = 0 ∧ ¬ (k = 0 ∨ k = 1)) := by
      by_cases z : k = 0 ∨ k = 1
      · exact ⟨1, Or.inl ⟨rfl, z⟩⟩
      · exact ⟨0, Or.inr ⟨rfl, z⟩⟩
    have b1 : b ≤ 1 := by omega
    have eC : fR_readEvents_l2 (f + 1) R S (nI e) = fR_readEvents_b43 (fun v0 v1 v2 => fR_readEvents_l2 f v0 v1 v2) R S (nI e) (nI k) (nI b) := by
      rw [eF _ c1]
      rcases hb with ⟨rfl, hb⟩ | ⟨rfl, hb⟩
      · rcases hb with rfl | rfl
        · rw [if_pos li0.symm]; rfl
        · rw [if_neg (by decide), if_pos li1.symm]; rfl
      · rw [if_neg (by rw [li0, neq (by omega) (by omega)]; omega), if_neg (by rw [li1, neq (by omega) (by omega)]; omega)]; rfl
    have eD : fM_readEvent M (dayD S e) = fM_readEvent_b19 M (dayD S e) (nI k) (nI b) := by
      unfold fM_readEvent
      rw [c2, bind_s]
      rcases hb with ⟨rfl, hb⟩ | ⟨rfl, hb⟩
      · rcases hb with rfl | rfl
        · rw [if_pos li0.symm]; rfl
        · rw [if_neg (by decide), if_pos li1.symm]; rfl
      · rw [if_neg (by rw [li0, neq (by omega) (by omega)]; omega), if_neg (by rw [li1, neq (by omega) (by omega)]; omega)]; rfl
    have k0 : (0 : Int32) ≤ nI k := nI_pos' (by omega)
    by_cases full : e = 30 ∨ (b = 1 ∧ t = 10)
    · left
      obtain ⟨R1, M1, f1, f2, f3, f4, f5, f6⟩ := fail_rd hR r2 3 (by omega)
      have f1' : fR_fail R 3 = some R1 := f1
      have f2' : fM_bad M 3 = some M1 := f2
      obtain ⟨q, q1, q2, q3⟩ := f3.bad f4
      have e53 : fM_readEvent_b53 M1 (dayD S e) (nI k) (nI b) = some M1 := by
        unfold fM_readEvent_b53
        rw [if_neg hnone, b65_bad _ _ _ _ q q1 ⟨q2, q3⟩]
      refine ⟨R1, M1, ?_, ?_, f3, f4, ⟨f6.1, f6.2.1, fun k _ => f5 k, fun k _ _ h => f6.2.2.1 k h⟩⟩
      · rw [eC]
        unfold fR_readEvents_b43 fR_readEvents_b80
        rw [if_pos k0, f1', bind_s, zn_eq, nI_1, s1, s2]
        by_cases z : e = 30
        · rw [if_pos (by rw [z]; decide)]
        · have b1' : b = 1 := by omega
          rw [if_neg (by rw [li30, nle (by omega) (by omega)]; omega), if_neg (by rw [b1']; decide), if_neg (by rw [li10, nlt (by omega) (by omega)]; omega)]
      · rw [eL, eD]
        unfold fM_readEvent_b19
        rw [if_neg hnone, m12, f2', bind_s, e53]
        by_cases z : e = 30
        · rw [if_pos (by rw [z]; decide), bind_s]
        · have b1' : b = 1 := by omega
          rw [if_neg (by rw [li30, neq (by omega) (by omega)]; exact z)]
          unfold fM_readEvent_b35
          rw [if_neg (by rw [b1']; decide), m13, if_pos (by rw [show t = 10 from by omega]; decide), f2', bind_s, e53, bind_s]
    · right
      have he : e < 30 := by omega
      have hb2 : (b = 1 ∧ (k = 0 ∨ k = 1) ∧ t < 10) ∨ (b = 0 ∧ ¬ (k = 0 ∨ k = 1)) := by omega
      obtain ⟨R1, Sx, M1, a1, ⟨a2, a2'⟩, a3, a4, a5, a6⟩ := ev_step hR r2 hG hk6 he hb2
      refine ⟨he, R1, _, M1, t + b, ?_, ?_, a4, a5, a6⟩
      · rw [eC]
        unfold fR_readEvents_b43 fR_readEvents_b88
        rw [if_pos k0, s1, s2, if_neg (by rw [li30, nle (by omega) (by omega)]; omega), a1, bind_s, zn_eq]
        rcases hb2 with ⟨rfl, hb2, ht9⟩ | ⟨rfl, hb2⟩
        · rw [if_neg (by decide), if_pos (by rw [li10, nlt (by omega) (by omega)]; omega), if_neg (by decide), zn_eq, zn_eq]
          show fR_readEvents_l2 f R1 (zsI (zsI Sx 1 (zI Sx 1 + 1)) 2 (zI Sx 2 + 1)) (nI e + 1) = _
          rw [a2, a2', nI_1, nI_1]
        · rw [if_pos li0.symm, if_pos li0.symm, zn_eq, zn_eq]
          show fR_readEvents_l2 f R1 (zsI (zsI Sx 1 (zI Sx 1 + 1)) 2 (zI Sx 2 + 0)) (nI e + 1) = _
          rw [a2, a2', nI_1, li0, nI_add]
      · rw [eL, eD]
        unfold fM_readEvent_b19
        rw [if_neg hnone, m12, if_neg (by rw [li30, neq (by omega) (by omega)]; omega)]
        have e53 : fM_readEvent_b53 M (dayD S e) (nI k) (nI b) = some M1 := by
          unfold fM_readEvent_b53
          rw [if_neg hnone, a3]
        unfold fM_readEvent_b35
        rw [e53]
        rcases hb2 with ⟨rfl, hb2, ht9⟩ | ⟨rfl, hb2⟩
        · rw [if_neg (by decide), m13, if_neg (by rw [li10, neq (by omega) (by omega)]; omega), bind_s]
        · rw [if_pos li0.symm, bind_s]
theorem events_sim {n l : Nat} : ∀ (d e f f' t : Nat) (R S M : zSt), e + d = 30 → d + 2 ≤ f → d + 2 ≤ f' → RdR R M n → (zI R 2 = nI 0 → StN S M l e t) → ∃ R' S' M' e' t', fR_readEvents_l2 f R S (nI e) = some (R', S') ∧ fM_life_l69 f' M = fM_life_b116 M' ∧ RdR R' M' n ∧ (zI R' 2 = nI 0 → StN S' M' l e' t') ∧ EvF R R' S S' M M' := by
  intro d
  induction d with
  | zero =>
    intro e f f' t R S M hd hf hf' hR hG
    obtain ⟨m, rfl⟩ : ∃ m, f = m + 1 + 1 := ⟨f - 2, by omega⟩
    obtain ⟨m', rfl⟩ : ∃ m, f' = m + 1 + 1 := ⟨f' - 2, by omega⟩
    have F0 : EvF R R S S M M := ⟨fun _ => rfl, rfl, fun _ _ => rfl, fun _ _ _ _ => rfl⟩
    by_cases r2 : zI R 2 = nI 0
    · rcases ev_turn (m + 1) (m' + 1) hR r2 (hG r2) with ⟨a1, a2⟩ | ⟨R1, M1, a1, a2, a3, a4, a5⟩ | ⟨he, _⟩
      · exact ⟨R, S, M, e, t, a1, a2, hR, hG, F0⟩
      · obtain ⟨c1, c2⟩ := ev_bad S (nI (e + 1)) m m' a3 a4
        exact ⟨R1, S, M1, e, t, a1.trans c1, a2.trans c2, a3, fun z => absurd z a4, a5⟩
      · omega
    · obtain ⟨c1, c2⟩ := ev_bad S (nI e) (m + 1) (m' + 1) hR r2
      exact ⟨R, S, M, e, t, c1, c2, hR, hG, F0⟩
  | succ d ih =>
    intro e f f' t R S M hd hf hf' hR hG
    obtain ⟨m, rfl⟩ : ∃ m, f = m + 1 + 1 := ⟨f - 2, by omega⟩
    obtain ⟨m', rfl⟩ : ∃ m, f' = m + 1 + 1 := ⟨f' - 2, by omega⟩
    have F0 : EvF R R S S M M := ⟨fun _ => rfl, rfl, fun _ _ => rfl, fun _ _ _ _ => rfl⟩
    by_cases r2 : zI R 2 = nI 0
    · rcases ev_turn (m + 1) (m' + 1) hR r2 (hG r2) with ⟨a1, a2⟩ | ⟨R1, M1, a1, a2, a3, a4, a5⟩ | ⟨he, R1, S1, M1, t', a1, a2, a3, a4, a5⟩
      · exact ⟨R, S, M, e, t, a1, a2, hR, hG, F0⟩
      · obtain ⟨c1, c2⟩ := ev_bad S (nI (e + 1)) m m' a3 a4
        exact ⟨R1, S, M1, e, t, a1.trans c1, a2.trans c2, a3, fun z => absurd z a4, a5⟩
      · obtain ⟨R', S', M', e', t'', b1, b2, b3, b4, b5⟩ := ih (e + 1) (m + 1) (m' + 1) t' R1 S1 M1 (by omega) (by omega) (by omega) a3 a4
        exact ⟨R', S', M', e', t'', a1.trans b1, a2.trans b2, b3, b4, a5.trans b5⟩
    · obtain ⟨c1, c2⟩ := ev_bad S (nI e) (m + 1) (m' + 1) hR r2
      exact ⟨R, S, M, e, t, c1, c2, hR, hG, F0⟩
/-- a whole text is read on both sides -/
theorem read_sim {R M : zSt} {n : Nat} (S : zSt) (hT : TpR R M n) (m17 : zI M 17 = nI n) : ∃ R' S' M', fR_readInto R S = some (R', S') ∧ fM_life M = fM_life_b116 M' ∧ ((zI R' 2 = nI 0 ∧ zI M' 24 = nI 0 ∧ ∃ l e t, 1 ≤ l ∧ StN S' M' l e t) ∨ (∃ k s, 1 ≤ k ∧ k ≤ 3 ∧ s ≤ 500 ∧ zI R' 2 = nI k ∧ zI M' 24 = nI k ∧ zI R' 3 = nI s ∧ zI M' 25 = nI s)) ∧ zI R' 1 = nI 0 ∧ zI M' 17 = nI 0 ∧ (∀ k, k ≠ 14 → k ≠ 15 → zA M' k = zA M k) ∧ (∀ k, k = 1 ∨ k = 5 ∨ k = 6 ∨ k = 7 ∨ k = 8 ∨ k = 18 ∨ 25 < k → zI M' k = zI M k) := by
  have hn := hT.2.1
  obtain ⟨Ra, hRa⟩ : ∃ Ra, Ra = zsI (zsI (zsI R 2 (nI 0)) 3 (nI 0)) 6 (nI 0) := ⟨_, rfl⟩
  obtain ⟨Ma, hMa⟩ : ∃ Ma, Ma = zsI (zsI (zsI (zsI (zsI (zsI (zsI (zsI M 0 (nI 0)) 19 (nI n)) 17 (nI 0)) 20 (nI 0)) 24 (nI 0)) 11 (nI 0)) 12 (nI 0)) 13 (nI 0) := ⟨_, rfl⟩
  obtain ⟨Sa, hSa⟩ : ∃ Sa, Sa = zsI (zsI (zsI S 0 (nI 0)) 1 (nI 0)) 2 (nI 0) := ⟨_, rfl⟩
  have hTa : TpR Ra Ma n := by rw [hRa, hMa]; exact hT
  obtain ⟨R1, M1, s1, h1, t1, t2, t3, t4, t5⟩ := step_sim (h := 0) hTa (by rw [hMa]; rfl) (by omega) (by rw [hRa]; rfl) (by rw [hRa]; rfl) (by rw [hMa]; rfl)
  have r2 : zI R1 2 = nI 0 := by rw [t4.2 2 (by omega) (by omega) (by omega) (by omega), hRa]; rfl
  have m24 : zI M1 24 = nI 0 := by rw [t5.2 24 (by omega) (by omega) (by omega) (by omega), hMa]; rfl
  have hR1 : RdR R1 M1 n := ⟨hTa.keep t4 t5, by rw [t5.2 19 (by omega) (by omega) (by omega) (by omega), hMa]; rfl, ⟨s1, h1, t3⟩, Or.inl ⟨r2, m24⟩⟩
  obtain ⟨R2, S2, M2, l, b1, b2, b3, b4, b5⟩ := laws_all (S := Sa) hR1 r2 (by rw [hSa]; rfl) (by rw [t5.2 11 (by omega) (by omega) (by omega) (by omega), hMa]; rfl)
  have hG : zI R2 2 = nI 0 → StN S2 M2 l 0 0 := by
    intro z
    obtain ⟨l1, l4, c1, c2, c3⟩ := b4 z
    refine ⟨⟨c1, c2⟩, l4, ⟨?_, ?_⟩, by omega, ⟨?_, ?_⟩, rfl, by omega, c3, fun i hi => by omega, fun i j _ hj => by omega⟩
    · rw [b5.2.2.1 1 (by omega), hSa]; rfl
    · rw [b5.2.2.2.2 12 (by omega) (by omega), t5.2 12 (by omega) (by omega) (by omega) (by omega), hMa]; rfl
    · rw [b5.2.2.1 2 (by omega), hSa]; rfl
    · rw [b5.2.2.2.2 13 (by omega) (by omega), t5.2 13 (by omega) (by omega) (by omega) (by omega), hMa]; rfl
  obtain ⟨R3, S3, M3, e, t, c1, c2, c3, c4, c5⟩ := events_sim (l := l) 30 0 zF zF 0 R2 S2 M2 (by omega) (by unfold zF; omega) (by unfold zF; omega) b3 hG
  refine ⟨zsI R3 1 (nI 0), S3, M3, ?_, ?_, ?_, rfl, ?_, fun k h1 h2 => ?_, fun k hk => ?_⟩
  · unfold fR_readInto fS_clear
    simp only [zn_eq, bind_s]
    have e1 : fR_step (zsI (zsI (zsI R 2 0) 3 0) 6 0) = some R1 := by rw [hRa] at t1; exact t1
    have e2 : fR_readLaws R1 (zsI (zsI (zsI S 0 0) 1 0) 2 0) = some (R2, S2) := by rw [hSa] at b1; exact b1
    rw [e1, bind_s, e2, bind_s]
    unfold fR_readEvents
    rw [li0, c1, bind_s]
  · unfold fM_life
    simp only [zn_eq]
    have e1 : fM_next (zsI (zsI (zsI (zsI (zsI (zsI (zsI (zsI M 0 0) 19 (zI (zsI M 0 0) 17)) 17 0) 20 0) 24 0) 11 0) 12 0) 13 0) = some M1 := by
      rw [show zI (zsI M 0 0) 17 = zI M 17 from rfl, m17]
      rw [hMa] at t2
      exact t2
    rw [e1, bind_s, b2]
    exact c2
  · obtain ⟨_, _, _, hf⟩ := c3
    rcases hf with ⟨f1, f2⟩ | hf
    · left
      have z2 : zI R2 2 = nI 0 := by
        by_cases z : zI R2 2 = nI 0
        · exact z
        · exfalso
          obtain ⟨d1, d2⟩ := ev_bad S2 (nI 0) 999 999 b3 z
          have d1' : fR_readEvents_l2 zF R2 S2 (nI 0) = some (R2, S2) := d1
          rw [c1] at d1'
          have e3 : R3 = R2 := congrArg Prod.fst (Option.some.inj d1')
          rw [e3] at f1
          exact z f1
      obtain ⟨l1, _⟩ := b4 z2
      exact ⟨f1, f2, l, e, t, l1, c4 f1⟩
    · right
      exact hf
  · rw [c5.2.2.2 17 (by omega) (by omega) (by omega), b5.2.2.2.2 17 (by omega) (by omega), t5.2 17 (by omega) (by omega) (by omega) (by omega), hMa]
    rfl
  · rw [c5.2.2.1 k h2, b5.2.2.2.1 k h1, t5.1, hMa]
    rfl
  · rw [c5.2.2.2 k (by omega) (by omega) (by omega), b5.2.2.2.2 k (by omega) (by omega), t5.2 k (by omega) (by omega) (by omega) (by omega), hMa]
    simp only [zI_zsI]
    rw [if_neg (by omega), if_neg (by omega), if_neg (by omega), if_neg (by omega), if_neg (by omega), if_neg (by omega), if_neg (by omega), if_neg (by omega)]
