theorem rw_u_91 : Cond.classLink RL 7 RX11 ∈ zU := zm 91 (by decide +kernel) rfl
theorem rw_u_92 : Cond.instantiable RX11 14 ∈ zU := zm 92 (by decide +kernel) rfl
theorem rw_u_95 : Cond.code yX11_init cX11_init 1 none ∈ zU := zm 95 (by decide +kernel) rfl
theorem rw_u_93 : Cond.methodLink RL 9 yX11_init ∈ zU := zm 93 (by decide +kernel) rfl
theorem rw_u_94 : Cond.instanceMethod yX11_init ∈ zU := zm 94 (by decide +kernel) rfl
theorem rw_u_954 : Cond.classLink RL 10 RX12 ∈ zU := zm 954 (by decide +kernel) rfl
theorem rw_u_955 : Cond.instantiable RX12 55 ∈ zU := zm 955 (by decide +kernel) rfl
theorem rw_u_958 : Cond.code yX12_init cX12_init 1 none ∈ zU := zm 958 (by decide +kernel) rfl
theorem rw_u_956 : Cond.methodLink RL 12 yX12_init ∈ zU := zm 956 (by decide +kernel) rfl
theorem rw_u_957 : Cond.instanceMethod yX12_init ∈ zU := zm 957 (by decide +kernel) rfl
def lstep (op a1 a2 a3 a4 a5 : Int32) (u : zLS) : Option (Bool × zLS) :=
  if op = 0 then ls_row a1 a2 a3 u else (if op = 1 then ls_set a1 a2 a3 u else (if op = 2 then ls_copy a1 a2 a3 a4 a5 u else (if op = 3 then ls_drop a1 u else (if op = 4 then ls_feed a1 a2 a3 u else (if op = 5 then ls_life  u else (if op = 6 then ls_fault  u else (if op = 7 then ls_whose a1 a2 u else (if op = 8 then ls_thing a1 a2 u else (if op = 9 then ls_judge a1 a2 u else (if op = 10 then ls_purse a1 a2 u else (if op = 11 then ls_fed a1 a2 u else (if op = 12 then ls_owed a1 a2 a3 u else (if op = 13 then ls_net a1 a2 u else (if op = 14 then ls_end a1 a2 u else (if op = 15 then ls_beside a1 a2 a3 u else (if op = 16 then ls_hangs  u else (if op = 17 then ls_beforehand a1 a2 u else (if op = 18 then ls_kind a1 u else (if op = 19 then ls_as a1 a2 u else (if op = 20 then ls_ask a1 a2 u else (if op = 21 then ls_trace a1 u else (if op = 22 then ls_count a1 u else (if op = 23 then ls_status  u else (some (true, u)))))))))))))))))))))))))
theorem lstep_0 (a1 a2 a3 a4 a5 : Int32) (u : zLS) : lstep 0 a1 a2 a3 a4 a5 u = ls_row a1 a2 a3 u := rfl
theorem lstep_1 (a1 a2 a3 a4 a5 : Int32) (u : zLS) : lstep 1 a1 a2 a3 a4 a5 u = ls_set a1 a2 a3 u := rfl
theorem lstep_2 (a1 a2 a3 a4 a5 : Int32) (u : zLS) : lstep 2 a1 a2 a3 a4 a5 u = ls_copy a1 a2 a3 a4 a5 u := rfl
theorem lstep_3 (a1 a2 a3 a4 a5 : Int32) (u : zLS) : lstep 3 a1 a2 a3 a4 a5 u = ls_drop a1 u := rfl
theorem lstep_4 (a1 a2 a3 a4 a5 : Int32) (u : zLS) : lstep 4 a1 a2 a3 a4 a5 u = ls_feed a1 a2 a3 u := rfl
theorem lstep_5 (a1 a2 a3 a4 a5 : Int32) (u : zLS) : lstep 5 a1 a2 a3 a4 a5 u = ls_life  u := rfl
theorem lstep_6 (a1 a2 a3 a4 a5 : Int32) (u : zLS) : lstep 6 a1 a2 a3 a4 a5 u = ls_fault  u := rfl
theorem lstep_7 (a1 a2 a3 a4 a5 : Int32) (u : zLS) : lstep 7 a1 a2 a3 a4 a5 u = ls_whose a1 a2 u := rfl
theorem lstep_8 (a1 a2 a3 a4 a5 : Int32) (u : zLS) : lstep 8 a1 a2 a3 a4 a5 u = ls_thing a1 a2 u := rfl
theorem lstep_9 (a1 a2 a3 a4 a5 : Int32) (u : zLS) : lstep 9 a1 a2 a3 a4 a5 u = ls_judge a1 a2 u := rfl
theorem lstep_10 (a1 a2 a3 a4 a5 : Int32) (u : zLS) : lstep 10 a1 a2 a3 a4 a5 u = ls_purse a1 a2 u := rfl
theorem lstep_11 (a1 a2 a3 a4 a5 : Int32) (u : zLS) : lstep 11 a1 a2 a3 a4 a5 u = ls_fed a1 a2 u := rfl
theorem lstep_12 (a1 a2 a3 a4 a5 : Int32) (u : zLS) : lstep 12 a1 a2 a3 a4 a5 u = ls_owed a1 a2 a3 u := rfl
theorem lstep_13 (a1 a2 a3 a4 a5 : Int32) (u : zLS) : lstep 13 a1 a2 a3 a4 a5 u = ls_net a1 a2 u := rfl
theorem lstep_14 (a1 a2 a3 a4 a5 : Int32) (u : zLS) : lstep 14 a1 a2 a3 a4 a5 u = ls_end a1 a2 u := rfl
theorem lstep_15 (a1 a2 a3 a4 a5 : Int32) (u : zLS) : lstep 15 a1 a2 a3 a4 a5 u = ls_beside a1 a2 a3 u := rfl
theorem lstep_16 (a1 a2 a3 a4 a5 : Int32) (u : zLS) : lstep 16 a1 a2 a3 a4 a5 u = ls_hangs  u := rfl
theorem lstep_17 (a1 a2 a3 a4 a5 : Int32) (u : zLS) : lstep 17 a1 a2 a3 a4 a5 u = ls_beforehand a1 a2 u := rfl
theorem lstep_18 (a1 a2 a3 a4 a5 : Int32) (u : zLS) : lstep 18 a1 a2 a3 a4 a5 u = ls_kind a1 u := rfl
theorem lstep_19 (a1 a2 a3 a4 a5 : Int32) (u : zLS) : lstep 19 a1 a2 a3 a4 a5 u = ls_as a1 a2 u := rfl
theorem lstep_20 (a1 a2 a3 a4 a5 : Int32) (u : zLS) : lstep 20 a1 a2 a3 a4 a5 u = ls_ask a1 a2 u := rfl
theorem lstep_21 (a1 a2 a3 a4 a5 : Int32) (u : zLS) : lstep 21 a1 a2 a3 a4 a5 u = ls_trace a1 u := rfl
theorem lstep_22 (a1 a2 a3 a4 a5 : Int32) (u : zLS) : lstep 22 a1 a2 a3 a4 a5 u = ls_count a1 u := rfl
theorem lstep_23 (a1 a2 a3 a4 a5 : Int32) (u : zLS) : lstep 23 a1 a2 a3 a4 a5 u = ls_status  u := rfl
def lrun (sc : Nat → Int32) (L : Nat) : Nat → Nat → zLS → Option Unit
  | 0, _, _ => none
  | n + 1, k, u => if 6 * k + 6 ≤ L then Option.bind (lstep (sc (6 * k) &&& 31) (sc (6 * k + 1)) (sc (6 * k + 2)) (sc (6 * k + 3)) (sc (6 * k + 4)) (sc (6 * k + 5)) u) fun r => if r.1 = true then lrun sc L n (k + 1) r.2 else none else some ()
set_option maxHeartbeats 4000000 in
set_option maxRecDepth 100000 in
theorem law_loop {x : zX} {G : zG} {b L : Nat} {sc : Nat → Int32} (C : zC x G RL cL_law 4 (some .boolean) room_1) (hX : va_X b L sc (xs x) (xs x).heap) (hbl : b < (xs x).heap.size) (hbA : ¬ xA x b) (hL : L ≤ 3072) (hR : ∀ {ce sl : Nat} {lv : List (Nat × Value)} {w : va_W}, ce ≤ 600000 → sl ≤ 7302250 → zW x G ce sl 944 lv [.int 1] w) : ∀ (n k : Nat) (u : zLS) (qX qR qS qP qC qU qD qV qT qM : Nat → Nat) (rC rD : Nat), n ≤ 1000 → 6 * k ≤ L → lrun sc L n k u = some () → zW x G (3000 - n) (40000 - 3 * n) 18 [(0, .ref b), (1, .ref (qX 0)), (2, .ref (qM 0)), (3, .int (nI (6 * k)))] [] (wdX G qX qR qS qP qC qU qD qV qT u.1 ++ (wdR G qR u.2.1 ++ (wdS G qS u.2.2.1 ++ (wdS G qP u.2.2.2.1 ++ (wdC G qC rC u.2.2.2.2.1 ++ (wdU G qU u.2.2.2.2.2.1 ++ (wdC G qD rD u.2.2.2.2.2.2.1 ++ (wdU G qV u.2.2.2.2.2.2.2.1 ++ (wdT G qT u.2.2.2.2.2.2.2.2.1 ++ (wdM G qM u.2.2.2.2.2.2.2.2.2)))))))))) := by
  intro n
  induction n with
  | zero =>
    intro k u qX qR qS qP qC qU qD qV qT qM rC rD hn hkL h
    have h : (none : Option Unit) = some () := h
    cases h
  | succ n ih =>
    intro k u qX qR qS qP qC qU qD qV qT qM rC rD hn hkL h
    have h : (if 6 * k + 6 ≤ L then Option.bind (lstep (sc (6 * k) &&& 31) (sc (6 * k + 1)) (sc (6 * k + 2)) (sc (6 * k + 3)) (sc (6 * k + 4)) (sc (6 * k + 5)) u) (fun r => if r.1 = true then lrun sc L n (k + 1) r.2 else none) else some ()) = some () := h
    refine z_iload_n C dL_law_18 3 rfl ?_
    refine z_aload_n C dL_law_19 0 rfl ?_
    refine z_slen C hX hbl hbA dL_law_20 ?_
    refine z_bipush C 6 dL_law_21 (by decide) ?_
    refine z_isub C dL_law_23 ?_
    by_cases hk : 6 * k + 6 ≤ L
    · have hlt : ¬ (nI L - 6 < nI (6 * k)) := by
        rw [show (6 : Int32) = nI 6 by decide, pk_sub (by omega)]
        exact nI_nlt (by omega) (by omega)
      refine z_icmp_gt C dL_law_24 943 (by decide) (p := none) (q := some ()) (o := ()) (dd := inferInstance) (if_neg hlt) (fun h => by cases h) (fun _ => ?_)
      rw [if_pos hk] at h
      obtain ⟨r, hr, h⟩ := bind_o h
      have hr1 : r.1 = true := by
        by_cases hz : r.1 = true
        · exact hz
        · rw [if_neg hz] at h; cases h
      rw [if_pos hr1] at h
      obtain ⟨r1, u'⟩ := r
      have hr1 : r1 = true := hr1
      subst hr1
      have h : lrun sc L n (k + 1) u' = some () := h
      have K : ∀ (qS' qP' : Nat → Nat) (rC' rD' : Nat), zW x G (3000 - (n + 1) + 1) (40000 - 3 * (n + 1) + 3) 937 [(0, .ref b), (1, .ref (qX 0)), (2, .ref (qM 0)), (3, .int (nI (6 * k)))] [] (wdX G qX qR qS' qP' qC qU qD qV qT u'.1 ++ (wdR G qR u'.2.1 ++ (wdS G qS' u'.2.2.1 ++ (wdS G qP' u'.2.2.2.1 ++ (wdC G qC rC' u'.2.2.2.2.1 ++ (wdU G qU u'.2.2.2.2.2.1 ++ (wdC G qD rD' u'.2.2.2.2.2.2.1 ++ (wdU G qV u'.2.2.2.2.2.2.2.1 ++ (wdT G qT u'.2.2.2.2.2.2.2.2.1 ++ (wdM G qM u'.2.2.2.2.2.2.2.2.2)))))))))) := by
        intro qS' qP' rC' rD'
        refine z_iinc C dL_law_937 3 rfl 6 (by decide) (by decide) (lvr := [(0, .ref b), (1, .ref (qX 0)), (2, .ref (qM 0))]) rfl (kk := fun y => if y = nI (6 * (k + 1)) then some () else none) (o := ()) (by unfold zn; exact if_pos (znI k 6 (by decide))) (fun y hy => ?_)
        have hy2 : y = nI (6 * (k + 1)) := by
          by_cases hz : y = nI (6 * (k + 1))
          · exact hz
          · rw [if_neg hz] at hy; cases hy
        subst hy2
        refine z_goto C dL_law_940 18 (by decide) ?_
        refine z_perm [1, 2, 3, 0] (lv' := [(0, .ref b), (1, .ref (qX 0)), (2, .ref (qM 0)), (3, .int (nI (6 * (k + 1))))]) rfl ?_
        refine z_wide (ce' := 3000 - n) (sl' := 40000 - 3 * n) (by omega) (by omega) ?_
        exact ih (k + 1) u' qX qR qS' qP' qC qU qD qV qT qM rC' rD' (by omega) (by omega) h
      refine z_aload_n C dL_law_27 0 rfl ?_
      refine z_iload_n C dL_law_28 3 rfl ?_
      refine z_sld C hX hbl hbA hL (6 * k) (by omega) rfl dL_law_29 ?_
      refine z_bipush C 31 dL_law_30 (by decide) ?_
      refine z_iand C dL_law_32 ?_
      by_cases hc0 : sc (6 * k) &&& 31 = 0
      · refine z_tcase (off := 111) C dL_law_33 0 hc0 (by decide) (by decide) (by decide) 144 (by decide) ?_
        rw [hc0, lstep_0] at hr
        exact law_row C hX hbl hbA hL hk (by omega) (by omega) hr K
      by_cases hc1 : sc (6 * k) &&& 31 = 1
      · refine z_tcase (off := 155) C dL_law_33 1 hc1 (by decide) (by decide) (by decide) 188 (by decide) ?_
        rw [hc1, lstep_1] at hr
        exact law_set C hX hbl hbA hL hk (by omega) (by omega) hr K
      by_cases hc2 : sc (6 * k) &&& 31 = 2
      · refine z_tcase (off := 199) C dL_law_33 2 hc2 (by decide) (by decide) (by decide) 232 (by decide) ?_
        rw [hc2, lstep_2] at hr
        exact law_copy C hX hbl hbA hL hk (by omega) (by omega) hr K
      by_cases hc3 : sc (6 * k) &&& 31 = 3
      · refine z_tcase (off := 263) C dL_law_33 3 hc3 (by decide) (by decide) (by decide) 296 (by decide) ?_
        rw [hc3, lstep_3] at hr
        exact law_drop C hX hbl hbA hL hk (by omega) (by omega) hr K
      by_cases hc4 : sc (6 * k) &&& 31 = 4
      · refine z_tcase (off := 287) C dL_law_33 4 hc4 (by decide) (by decide) (by decide) 320 (by decide) ?_
        rw [hc4, lstep_4] at hr
        exact law_feed C hX hbl hbA hL hk (by omega) (by omega) hr K
      by_cases hc5 : sc (6 * k) &&& 31 = 5
      · refine z_tcase (off := 351) C dL_law_33 5 hc5 (by decide) (by decide) (by decide) 384 (by decide) ?_
        rw [hc5, lstep_5] at hr
        exact law_life C hX hbl hbA hL hk (by omega) (by omega) hr K
      by_cases hc6 : sc (6 * k) &&& 31 = 6
      · refine z_tcase (off := 365) C dL_law_33 6 hc6 (by decide) (by decide) (by decide) 398 (by decide) ?_
        rw [hc6, lstep_6] at hr
        exact law_fault C hX hbl hbA hL hk (by omega) (by omega) hr K
      by_cases hc7 : sc (6 * k) &&& 31 = 7
      · refine z_tcase (off := 378) C dL_law_33 7 hc7 (by decide) (by decide) (by decide) 411 (by decide) ?_
        rw [hc7, lstep_7] at hr
        exact law_whose C hX hbl hbA hL hk (by omega) (by omega) hr K
      by_cases hc8 : sc (6 * k) &&& 31 = 8
      · refine z_tcase (off := 412) C dL_law_33 8 hc8 (by decide) (by decide) (by decide) 445 (by decide) ?_
        rw [hc8, lstep_8] at hr
        exact law_thing C hX hbl hbA hL hk (by omega) (by omega) hr K
      by_cases hc9 : sc (6 * k) &&& 31 = 9
      · refine z_tcase (off := 446) C dL_law_33 9 hc9 (by decide) (by decide) (by decide) 479 (by decide) ?_
        rw [hc9, lstep_9] at hr
        exact law_judge C hX hbl hbA hL hk (by omega) (by omega) hr K
      by_cases hc10 : sc (6 * k) &&& 31 = 10
      · refine z_tcase (off := 480) C dL_law_33 10 hc10 (by decide) (by decide) (by decide) 513 (by decide) ?_
        rw [hc10, lstep_10] at hr
        exact law_purse C hX hbl hbA hL hk (by omega) (by omega) hr K
      by_cases hc11 : sc (6 * k) &&& 31 = 11
      · refine z_tcase (off := 514) C dL_law_33 11 hc11 (by decide) (by decide) (by decide) 547 (by decide) ?_
        rw [hc11, lstep_11] at hr
        exact law_fed C hX hbl hbA hL hk (by omega) (by omega) hr K
      by_cases hc12 : sc (6 * k) &&& 31 = 12
      · refine z_tcase (off := 548) C dL_law_33 12 hc12 (by decide) (by decide) (by decide) 581 (by decide) ?_
        rw [hc12, lstep_12] at hr
        exact law_owed C hX hbl hbA hL hk (by omega) (by omega) hr K
      by_cases hc13 : sc (6 * k) &&& 31 = 13
      · refine z_tcase (off := 592) C dL_law_33 13 hc13 (by decide) (by decide) (by decide) 625 (by decide) ?_
        rw [hc13, lstep_13] at hr
        exact law_net C hX hbl hbA hL hk (by omega) (by omega) hr K
      by_cases hc14 : sc (6 * k) &&& 31 = 14
      · refine z_tcase (off := 626) C dL_law_33 14 hc14 (by decide) (by decide) (by decide) 659 (by decide) ?_
        rw [hc14, lstep_14] at hr
        exact law_end C hX hbl hbA hL hk (by omega) (by omega) hr K
      by_cases hc15 : sc (6 * k) &&& 31 = 15
      · refine z_tcase (off := 660) C dL_law_33 15 hc15 (by decide) (by decide) (by decide) 693 (by decide) ?_
        rw [hc15, lstep_15] at hr
        exact law_beside C hX hbl hbA hL hk (by omega) (by omega) hr K
      by_cases hc16 : sc (6 * k) &&& 31 = 16
      · refine z_tcase (off := 704) C dL_law_33 16 hc16 (by decide) (by decide) (by decide) 737 (by decide) ?_
        rw [hc16, lstep_16] at hr
        exact law_hangs C hX hbl hbA hL hk (by omega) (by omega) hr K
      by_cases hc17 : sc (6 * k) &&& 31 = 17
      · refine z_tcase (off := 718) C dL_law_33 17 hc17 (by decide) (by decide) (by decide) 751 (by decide) ?_
        rw [hc17, lstep_17] at hr
        exact law_beforehand C hX hbl hbA hL hk (by omega) (by omega) hr K
      by_cases hc18 : sc (6 * k) &&& 31 = 18
      · refine z_tcase (off := 752) C dL_law_33 18 hc18 (by decide) (by decide) (by decide) 785 (by decide) ?_
        rw [hc18, lstep_18] at hr
        exact law_kind C hX hbl hbA hL hk (by omega) (by omega) hr K
      by_cases hc19 : sc (6 * k) &&& 31 = 19
      · refine z_tcase (off := 776) C dL_law_33 19 hc19 (by decide) (by decide) (by decide) 809 (by decide) ?_
        rw [hc19, lstep_19] at hr
        exact law_as C hX hbl hbA hL hk (by omega) (by omega) hr K
      by_cases hc20 : sc (6 * k) &&& 31 = 20
      · refine z_tcase (off := 810) C dL_law_33 20 hc20 (by decide) (by decide) (by decide) 843 (by decide) ?_
        rw [hc20, lstep_20] at hr
        exact law_ask C hX hbl hbA hL hk (by omega) (by omega) hr K
      by_cases hc21 : sc (6 * k) &&& 31 = 21
      · refine z_tcase (off := 844) C dL_law_33 21 hc21 (by decide) (by decide) (by decide) 877 (by decide) ?_
        rw [hc21, lstep_21] at hr
        exact law_trace C hX hbl hbA hL hk (by omega) (by omega) hr K
      by_cases hc22 : sc (6 * k) &&& 31 = 22
      · refine z_tcase (off := 867) C dL_law_33 22 hc22 (by decide) (by decide) (by decide) 900 (by decide) ?_
        rw [hc22, lstep_22] at hr
        exact law_count C hX hbl hbA hL hk (by omega) (by omega) hr K
      by_cases hc23 : sc (6 * k) &&& 31 = 23
      · refine z_tcase (off := 891) C dL_law_33 23 hc23 (by decide) (by decide) (by decide) 924 (by decide) ?_
        rw [hc23, lstep_23] at hr
        exact law_status C hX hbl hbA hL hk (by omega) (by omega) hr K
      refine z_tout C dL_law_33 (ztoutL 24 (by decide) (by intro k hk; match k, hk with | 0, _ => exact hc0 | 1, _ => exact hc1 | 2, _ => exact hc2 | 3, _ => exact hc3 | 4, _ => exact hc4 | 5, _ => exact hc5 | 6, _ => exact hc6 | 7, _ => exact hc7 | 8, _ => exact hc8 | 9, _ => exact hc9 | 10, _ => exact hc10 | 11, _ => exact hc11 | 12, _ => exact hc12 | 13, _ => exact hc13 | 14, _ => exact hc14 | 15, _ => exact hc15 | 16, _ => exact hc16 | 17, _ => exact hc17 | 18, _ => exact hc18 | 19, _ => exact hc19 | 20, _ => exact hc20 | 21, _ => exact hc21 | 22, _ => exact hc22 | 23, _ => exact hc23 | k + 24, hk => exact absurd hk (by omega))) 937 (by decide) ?_
      have hd : lstep (sc (6 * k) &&& 31) (sc (6 * k + 1)) (sc (6 * k + 2)) (sc (6 * k + 3)) (sc (6 * k + 4)) (sc (6 * k + 5)) u = some (true, u) := by
        unfold lstep
        rw [if_neg hc0, if_neg hc1, if_neg hc2, if_neg hc3, if_neg hc4, if_neg hc5, if_neg hc6, if_neg hc7, if_neg hc8, if_neg hc9, if_neg hc10, if_neg hc11, if_neg hc12, if_neg hc13, if_neg hc14, if_neg hc15, if_neg hc16, if_neg hc17, if_neg hc18, if_neg hc19, if_neg hc20, if_neg hc21, if_neg hc22, if_neg hc23]
      rw [hd] at hr
      replace hr := congrArg Prod.snd (Option.some.inj hr)
      have hr : u = u' := hr
      subst hr
      refine z_wide (ce' := 3000 - (n + 1) + 1) (sl' := 40000 - 3 * (n + 1) + 3) (by omega) (by omega) ?_
      exact K qS qP rC rD
    · have hgt : nI L - 6 < nI (6 * k) := by
        by_cases h6 : 6 ≤ L
        · rw [show (6 : Int32) = nI 6 by decide, pk_sub h6]
          exact nI_lt (by omega) (by omega)
        · have h1 : nI L - nI 6 < 0 := pk_sneg (by omega) (by omega)
          rw [show (6 : Int32) = nI 6 by decide]
          have h2 : 0 ≤ nI (6 * k) := nI_pos' (by omega)
          exact Int32.lt_of_lt_of_le h1 h2
      refine z_icmp_gt C dL_law_24 943 (by decide) (p := some ()) (q := none) (o := ()) (dd := inferInstance) (if_pos hgt) (fun _ => ?_) (fun h => by cases h)
      refine z_iconst C 1 dL_law_943 (by decide) ?_
      exact hR (by omega) (by omega)
