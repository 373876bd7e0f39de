theorem rw_u_806 : Cond.fieldLink RX9 17 "WhatWasHers$Thing" "left" "LWhatWasHers$Trace;" ∈ zU := zm 806 (by decide +kernel) rfl
theorem rw_u_889 : Cond.code yX10_leave cX10_leave 2 none ∈ zU := zm 889 (by decide +kernel) rfl
theorem rw_u_915 : Cond.methodLink RX9 21 yX10_leave ∈ zU := zm 915 (by decide +kernel) rfl
theorem rw_u_887 : Cond.instanceMethod yX10_leave ∈ zU := zm 887 (by decide +kernel) rfl
theorem rw_u_888 : Cond.selects RX10 yX10_leave yX10_leave ∈ zU := zm 888 (by decide +kernel) rfl
theorem rw_u_796 : Cond.fieldLink RX9 7 "WhatWasHers$Thing" "number" "I" ∈ zU := zm 796 (by decide +kernel) rfl
theorem rw_u_801 : Cond.fieldLink RX9 13 "WhatWasHers$Thing" "course" "LWhatWasHers$Course;" ∈ zU := zm 801 (by decide +kernel) rfl
theorem rw_u_238 : Cond.fieldLink RX9 27 "WhatWasHers$Course" "worth" "[I" ∈ zU := zm 238 (by decide +kernel) rfl
theorem rw_u_811 : Cond.fieldLink RX5 7 "WhatWasHers$Own" "left" "LWhatWasHers$Trace;" ∈ zU := zm 811 (by decide +kernel) rfl
theorem rw_u_812 : Cond.sameField "WhatWasHers$Own" "WhatWasHers$Thing" "left" "LWhatWasHers$Trace;" ∈ zU := zm 812 (by decide +kernel) rfl
theorem rw_u_897 : Cond.methodLink RX5 13 yX10_leave ∈ zU := zm 897 (by decide +kernel) rfl
theorem rw_u_912 : Cond.methodLink RX5 26 ⟨"WhatWasHers$Thing", "mark", "()J"⟩ ∈ zU := zm 912 (by decide +kernel) rfl
theorem rw_u_1434 : Cond.sameMethod "WhatWasHers$Thing" yX9_mark.cls "mark" "()J" ∈ zU := zm 1434 (by decide +kernel) rfl
theorem rw_u_844 : Cond.superclass RX5 "WhatWasHers$Thing" ∈ zU := zm 844 (by decide +kernel) rfl
theorem rw_u_914 : Cond.code yX9_mark cX9_mark 1 (some .long) ∈ zU := zm 914 (by decide +kernel) rfl
theorem rw_u_85 : Cond.initialized yX9_mark.cls ∈ zU := zm 85 (by decide +kernel) rfl
theorem rw_u_913 : Cond.instanceMethod yX9_mark ∈ zU := zm 913 (by decide +kernel) rfl
theorem rw_u_804 : Cond.fieldLink RX5 27 "WhatWasHers$Own" "course" "LWhatWasHers$Course;" ∈ zU := zm 804 (by decide +kernel) rfl
theorem rw_u_805 : Cond.sameField "WhatWasHers$Own" "WhatWasHers$Thing" "course" "LWhatWasHers$Course;" ∈ zU := zm 805 (by decide +kernel) rfl
theorem rw_u_230 : Cond.fieldLink RX5 31 "WhatWasHers$Course" "inPurse" "[I" ∈ zU := zm 230 (by decide +kernel) rfl
theorem rw_u_799 : Cond.fieldLink RX5 37 "WhatWasHers$Own" "number" "I" ∈ zU := zm 799 (by decide +kernel) rfl
theorem rw_u_800 : Cond.sameField "WhatWasHers$Own" "WhatWasHers$Thing" "number" "I" ∈ zU := zm 800 (by decide +kernel) rfl
theorem rw_u_807 : Cond.fieldLink RX0 7 "WhatWasHers$Changed" "left" "LWhatWasHers$Trace;" ∈ zU := zm 807 (by decide +kernel) rfl
theorem rw_u_808 : Cond.sameField "WhatWasHers$Changed" "WhatWasHers$Thing" "left" "LWhatWasHers$Trace;" ∈ zU := zm 808 (by decide +kernel) rfl
theorem rw_u_886 : Cond.methodLink RX0 13 yX10_leave ∈ zU := zm 886 (by decide +kernel) rfl
theorem rw_u_906 : Cond.methodLink RX0 25 ⟨"WhatWasHers$Fed", "mark", "()J"⟩ ∈ zU := zm 906 (by decide +kernel) rfl
theorem rw_u_907 : Cond.sameMethod "WhatWasHers$Fed" yX5_mark.cls "mark" "()J" ∈ zU := zm 907 (by decide +kernel) rfl
theorem rw_u_857 : Cond.superclass RX0 "WhatWasHers$Fed" ∈ zU := zm 857 (by decide +kernel) rfl
theorem rw_u_864 : Cond.superclass "WhatWasHers$Fed" yX5_mark.cls ∈ zU := zm 864 (by decide +kernel) rfl
theorem rw_u_911 : Cond.code yX5_mark cX5_mark 1 (some .long) ∈ zU := zm 911 (by decide +kernel) rfl
theorem rw_u_88 : Cond.initialized yX5_mark.cls ∈ zU := zm 88 (by decide +kernel) rfl
theorem rw_u_900 : Cond.instanceMethod yX5_mark ∈ zU := zm 900 (by decide +kernel) rfl
theorem rw_u_909 : Cond.constantLong RX0 28 100 ∈ zU := zm 909 (by decide +kernel) rfl
theorem rw_u_898 : Cond.methodLink RX5 19 ⟨"WhatWasHers$Thing", "size", "()J"⟩ ∈ zU := zm 898 (by decide +kernel) rfl
theorem rw_u_882 : Cond.sameMethod "WhatWasHers$Thing" yX9_size.cls "size" "()J" ∈ zU := zm 882 (by decide +kernel) rfl
theorem rw_u_926 : Cond.code yX9_size cX9_size 1 (some .long) ∈ zU := zm 926 (by decide +kernel) rfl
theorem rw_u_881 : Cond.instanceMethod yX9_size ∈ zU := zm 881 (by decide +kernel) rfl
theorem rw_u_899 : Cond.methodLink RX5 23 ⟨"WhatWasHers$Own", "mark", "()J"⟩ ∈ zU := zm 899 (by decide +kernel) rfl
theorem rw_u_902 : Cond.sameMethod "WhatWasHers$Own" "WhatWasHers$Own" "mark" "()J" ∈ zU := zm 902 (by decide +kernel) rfl
theorem rw_u_901 : Cond.selects RX5 ⟨"WhatWasHers$Own", "mark", "()J"⟩ yX5_mark ∈ zU := zm 901 (by decide +kernel) rfl
theorem rw_u_910 : Cond.selects RX3 ⟨"WhatWasHers$Own", "mark", "()J"⟩ yX5_mark ∈ zU := zm 910 (by decide +kernel) rfl
theorem rw_u_903 : Cond.selects RX0 ⟨"WhatWasHers$Own", "mark", "()J"⟩ yX0_mark ∈ zU := zm 903 (by decide +kernel) rfl
theorem rw_u_905 : Cond.code yX0_mark cX0_mark 1 (some .long) ∈ zU := zm 905 (by decide +kernel) rfl
theorem rw_u_90 : Cond.initialized yX0_mark.cls ∈ zU := zm 90 (by decide +kernel) rfl
theorem rw_u_904 : Cond.instanceMethod yX0_mark ∈ zU := zm 904 (by decide +kernel) rfl
theorem rw_u_809 : Cond.fieldLink RX3 7 "WhatWasHers$Fed" "left" "LWhatWasHers$Trace;" ∈ zU := zm 809 (by decide +kernel) rfl
theorem rw_u_810 : Cond.sameField "WhatWasHers$Fed" "WhatWasHers$Thing" "left" "LWhatWasHers$Trace;" ∈ zU := zm 810 (by decide +kernel) rfl
theorem rw_u_893 : Cond.methodLink RX3 13 yX10_leave ∈ zU := zm 893 (by decide +kernel) rfl
theorem rw_u_894 : Cond.methodLink RX3 19 ⟨"WhatWasHers$Own", "size", "()J"⟩ ∈ zU := zm 894 (by decide +kernel) rfl
theorem rw_u_1433 : Cond.sameMethod "WhatWasHers$Own" yX5_size.cls "size" "()J" ∈ zU := zm 1433 (by decide +kernel) rfl
theorem rw_u_896 : Cond.code yX5_size cX5_size 1 (some .long) ∈ zU := zm 896 (by decide +kernel) rfl
theorem rw_u_895 : Cond.instanceMethod yX5_size ∈ zU := zm 895 (by decide +kernel) rfl
theorem rw_u_802 : Cond.fieldLink RX3 23 "WhatWasHers$Fed" "course" "LWhatWasHers$Course;" ∈ zU := zm 802 (by decide +kernel) rfl
theorem rw_u_803 : Cond.sameField "WhatWasHers$Fed" "WhatWasHers$Thing" "course" "LWhatWasHers$Course;" ∈ zU := zm 803 (by decide +kernel) rfl
theorem rw_u_242 : Cond.fieldLink RX3 27 "WhatWasHers$Course" "putsInto" "[I" ∈ zU := zm 242 (by decide +kernel) rfl
theorem rw_u_797 : Cond.fieldLink RX3 33 "WhatWasHers$Fed" "number" "I" ∈ zU := zm 797 (by decide +kernel) rfl
theorem rw_u_798 : Cond.sameField "WhatWasHers$Fed" "WhatWasHers$Thing" "number" "I" ∈ zU := zm 798 (by decide +kernel) rfl
theorem rw_u_890 : Cond.methodLink RX0 19 ⟨"WhatWasHers$Fed", "size", "()J"⟩ ∈ zU := zm 890 (by decide +kernel) rfl
theorem rw_u_1432 : Cond.sameMethod "WhatWasHers$Fed" yX3_size.cls "size" "()J" ∈ zU := zm 1432 (by decide +kernel) rfl
theorem rw_u_892 : Cond.code yX3_size cX3_size 1 (some .long) ∈ zU := zm 892 (by decide +kernel) rfl
theorem rw_u_89 : Cond.initialized yX3_size.cls ∈ zU := zm 89 (by decide +kernel) rfl
theorem rw_u_891 : Cond.instanceMethod yX3_size ∈ zU := zm 891 (by decide +kernel) rfl
theorem rw_u_916 : Cond.constantLong RX0 23 2 ∈ zU := zm 916 (by decide +kernel) rfl
theorem rw_u_813 : Cond.fieldLink RX1 7 "WhatWasHers$Common" "left" "LWhatWasHers$Trace;" ∈ zU := zm 813 (by decide +kernel) rfl
theorem rw_u_814 : Cond.sameField "WhatWasHers$Common" "WhatWasHers$Thing" "left" "LWhatWasHers$Trace;" ∈ zU := zm 814 (by decide +kernel) rfl
theorem rw_u_920 : Cond.methodLink RX1 13 yX10_leave ∈ zU := zm 920 (by decide +kernel) rfl
theorem rw_u_921 : Cond.methodLink RX1 19 ⟨"WhatWasHers$Thing", "size", "()J"⟩ ∈ zU := zm 921 (by decide +kernel) rfl
theorem rw_u_830 : Cond.superclass RX1 "WhatWasHers$Thing" ∈ zU := zm 830 (by decide +kernel) rfl
theorem rw_u_922 : Cond.constantLong RX1 23 3 ∈ zU := zm 922 (by decide +kernel) rfl
theorem rw_u_815 : Cond.fieldLink RX4 7 "WhatWasHers$Made" "left" "LWhatWasHers$Trace;" ∈ zU := zm 815 (by decide +kernel) rfl
theorem rw_u_816 : Cond.sameField "WhatWasHers$Made" "WhatWasHers$Thing" "left" "LWhatWasHers$Trace;" ∈ zU := zm 816 (by decide +kernel) rfl
theorem rw_u_930 : Cond.methodLink RX4 13 yX10_leave ∈ zU := zm 930 (by decide +kernel) rfl
theorem rw_u_931 : Cond.methodLink RX4 19 ⟨"WhatWasHers$Common", "mark", "()J"⟩ ∈ zU := zm 931 (by decide +kernel) rfl
theorem rw_u_932 : Cond.sameMethod "WhatWasHers$Common" yX9_mark.cls "mark" "()J" ∈ zU := zm 932 (by decide +kernel) rfl
theorem rw_u_823 : Cond.superclass RX4 "WhatWasHers$Common" ∈ zU := zm 823 (by decide +kernel) rfl
theorem rw_u_934 : Cond.methodLink RX4 23 ⟨"WhatWasHers$Made", "size", "()J"⟩ ∈ zU := zm 934 (by decide +kernel) rfl
theorem rw_u_935 : Cond.sameMethod "WhatWasHers$Made" "WhatWasHers$Common" "size" "()J" ∈ zU := zm 935 (by decide +kernel) rfl
theorem rw_u_937 : Cond.selects RX4 ⟨"WhatWasHers$Made", "size", "()J"⟩ yX1_size ∈ zU := zm 937 (by decide +kernel) rfl
theorem rw_u_919 : Cond.code yX1_size cX1_size 1 (some .long) ∈ zU := zm 919 (by decide +kernel) rfl
theorem rw_u_86 : Cond.initialized yX1_size.cls ∈ zU := zm 86 (by decide +kernel) rfl
theorem rw_u_918 : Cond.instanceMethod yX1_size ∈ zU := zm 918 (by decide +kernel) rfl
theorem rw_u_795 : Cond.methodLink RX9 1 objectInit ∈ zU := zm 795 (by decide +kernel) rfl
theorem rw_u_794 : Cond.code yX9_init cX9_init 4 none ∈ zU := zm 794 (by decide +kernel) rfl
theorem rw_u_840 : Cond.methodLink RX5 1 yX9_init ∈ zU := zm 840 (by decide +kernel) rfl
theorem rw_u_793 : Cond.instanceMethod yX9_init ∈ zU := zm 793 (by decide +kernel) rfl
theorem rw_u_839 : Cond.code yX5_init cX5_init 4 none ∈ zU := zm 839 (by decide +kernel) rfl
theorem rw_u_853 : Cond.methodLink RX3 1 yX5_init ∈ zU := zm 853 (by decide +kernel) rfl
theorem rw_u_838 : Cond.instanceMethod yX5_init ∈ zU := zm 838 (by decide +kernel) rfl
theorem rw_u_852 : Cond.code yX3_init cX3_init 4 none ∈ zU := zm 852 (by decide +kernel) rfl
theorem rw_u_850 : Cond.methodLink RX0 1 yX3_init ∈ zU := zm 850 (by decide +kernel) rfl
theorem rw_u_851 : Cond.instanceMethod yX3_init ∈ zU := zm 851 (by decide +kernel) rfl
theorem rw_u_792 : Cond.methodLink RX1 1 yX9_init ∈ zU := zm 792 (by decide +kernel) rfl
theorem rw_u_791 : Cond.code yX1_init cX1_init 4 none ∈ zU := zm 791 (by decide +kernel) rfl
theorem rw_u_789 : Cond.methodLink RX4 1 yX1_init ∈ zU := zm 789 (by decide +kernel) rfl
theorem rw_u_790 : Cond.instanceMethod yX1_init ∈ zU := zm 790 (by decide +kernel) rfl
theorem rw_u_835 : Cond.classLink RX11 315 RX5 ∈ zU := zm 835 (by decide +kernel) rfl
theorem rw_u_824 : Cond.classLink RX11 309 RX1 ∈ zU := zm 824 (by decide +kernel) rfl
theorem rw_u_858 : Cond.classLink RX11 324 RX3 ∈ zU := zm 858 (by decide +kernel) rfl
theorem rw_u_845 : Cond.classLink RX11 321 RX0 ∈ zU := zm 845 (by decide +kernel) rfl
theorem rw_u_784 : Cond.classLink RX11 304 RX4 ∈ zU := zm 784 (by decide +kernel) rfl
/-! THINGS -/
theorem zgin {ws : List Cond} (h : ∀ w ∈ ws, w ∈ zU) : GoodIn zU ws := fun w hw => zU_good w (h w hw)
/-- invokevirtual: x0 is named, y is run -/
theorem z_callU {x : zX} {G : zG} {ce sl pc : Nat} {lv : List (Nat × Value)} {w : va_W} {own : String} {cc : ByteArray} {nL : Nat} {ret : Option FieldType} {rm : Room} (C : zC x G own cc nL ret rm) {x0 y : MethodName} {bytes : ByteArray} {maxL : Nat} {rt : Option FieldType} {rm' : Room} {b : Nat} {As rest : List Value} {r : Option Value} {w1 : va_W} {index ci : Nat} {fs : List Value} {Cn owner : String} {T : u_T} {N : Nat} {b0 : ByteArray} {m0 : Nat} {r0 : Option FieldType} (n : Nat)
    (hcode : Cond.code y bytes maxL rt ∈ zU) (hini : Cond.initialized y.cls ∈ zU) (hlink : Cond.methodLink own index x0 ∈ zU) (hsame : Cond.sameMethod x0.cls owner x0.name x0.desc ∈ zU) (hi0 : Cond.instanceMethod ⟨owner, x0.name, x0.desc⟩ ∈ zU) (hc0 : Cond.code ⟨owner, x0.name, x0.desc⟩ b0 m0 r0 ∈ zU) (hinst : Cond.instanceMethod y ∈ zU) (hsel : Cond.selects Cn x0 y ∈ zU) (hdn : owner ≠ "java/lang/invoke/MethodHandle" ∧ owner ≠ "java/lang/invoke/VarHandle" ∧ (parseMethodDescriptor x0.desc).map (fun d => d.parameters.length) = some n) (hci : vwCl[ci]? = some (Cn, T, N))
    (hc : Ct (xl x) G y bytes maxL rt rm' (.ref b :: As) w r w1) (hn : As.length = n) (q0 : Nat) (he : w[q0]? = some (b, .inr (ci, fs))) (hd : decode cc pc = .ok (.invokevirtual index, 3)) (hcat : (rest.map fun v => v.category).sum ≤ 8) (hrm : zRm rm rm' maxL ce sl) (K : zW x G (ce + rm'.cells) (sl + rm'.slots) (pc + 3) lv (r.toList ++ rest) w1) : zW x G ce sl pc lv (As.reverse ++ .ref b :: rest) w := by
  intro H locs ls hP hD hS hl
  have hts := C.2.2.2.2.1
  have hr1 : rm'.frames + 1 ≤ (xR x).frames ∧ 8 + (maxL + 11) + rm'.locals ≤ (xR x).locals := by rw [C.2.2.2.2.2.2.2.2.2.1]; exact hrm.1
  have hr2 : ce + rm'.cells ≤ (xR x).cells ∧ sl + rm'.slots ≤ (xR x).slots := by rw [C.2.2.2.2.2.2.2.2.2.1]; exact hrm.2
  have hg : GoodIn zU (va_wsO own index Cn owner x0 y (.code y bytes maxL rt :: zU)) := zgin (fun v hv => by
    unfold va_wsO at hv
    rcases List.mem_append.mp hv with h | h
    · simp only [List.mem_cons, List.not_mem_nil, or_false] at h
      rcases h with rfl | rfl | rfl | rfl | rfl | rfl <;> assumption
    · rcases List.mem_cons.mp h with rfl | h
      · exact hcode
      · exact h)
  refine z_back (w := w) (va_runU (n := n) (owner := owner) (index := index) (x := x0) (y := y) (bytes := bytes) (maxL := maxL) (ret := rt) (C := Cn) (b := b) (As := As) (g := F0 (xm x) pc ls (As.reverse ++ .ref b :: rest)) ⟨C.1, C.2.1, C.2.2.1, C.2.2.2.1, hts⟩ (hc H.size) (va_cwO n hts hg rfl rfl rfl hc0 hdn hr1) ⟨zPre_blind, va_recv (q := (Cn, T, N)) C.2.2.2.2.2.2.2.1 hP hci he, fun U hU hW => z_pre C hP hD hS U hU hW⟩ rfl hn (hl.1.trans C.2.2.1) rfl (lv_room hcat) hd hr2) hD hS C.2.2.2.2.2.2.2.2.1 hl K
/-- invokespecial of a superclass's method: x0 is named, y is run -/
theorem z_callSU {x : zX} {G : zG} {ce sl pc : Nat} {lv : List (Nat × Value)} {w : va_W} {own : String} {cc : ByteArray} {nL : Nat} {ret : Option FieldType} {rm : Room} (C : zC x G own cc nL ret rm) {x0 y : MethodName} {bytes : ByteArray} {maxL : Nat} {rt : Option FieldType} {rm' : Room} {b : Nat} {As rest : List Value} {r : Option Value} {w1 : va_W} {index ci : Nat} {fs : List Value} {Cn : String} {T : u_T} {N : Nat} (n : Nat)
    (hcode : Cond.code y bytes maxL rt ∈ zU) (hini : Cond.initialized y.cls ∈ zU) (hlink : Cond.methodLink own index x0 ∈ zU) (hsame : Cond.sameMethod x0.cls y.cls x0.name x0.desc ∈ zU) (hsup : Cond.superclass own x0.cls ∈ zU) (hup : x0.cls = y.cls ∨ Cond.superclass x0.cls y.cls ∈ zU) (hinst : Cond.instanceMethod y ∈ zU) (hyx : y = ⟨y.cls, x0.name, x0.desc⟩) (hno : x0.name ≠ "<init>") (hdn : (parseMethodDescriptor y.desc).map (fun d => d.parameters.length) = some n) (hci : vwCl[ci]? = some (Cn, T, N))
    (hc : Ct (xl x) G y bytes maxL rt rm' (.ref b :: As) w r w1) (hn : As.length = n) (q0 : Nat) (he : w[q0]? = some (b, .inr (ci, fs))) (hd : decode cc pc = .ok (.invokespecial index, 3)) (hcat : (rest.map fun v => v.category).sum ≤ 8) (hrm : zRm rm rm' maxL ce sl) (K : zW x G (ce + rm'.cells) (sl + rm'.slots) (pc + 3) lv (r.toList ++ rest) w1) : zW x G ce sl pc lv (As.reverse ++ .ref b :: rest) w := by
  intro H locs ls hP hD hS hl
  have hts := C.2.2.2.2.1
  have hr1 : rm'.frames + 1 ≤ (xR x).frames ∧ 8 + (maxL + 11) + rm'.locals ≤ (xR x).locals := by rw [C.2.2.2.2.2.2.2.2.2.1]; exact hrm.1
  have hr2 : ce + rm'.cells ≤ (xR x).cells ∧ sl + rm'.slots ≤ (xR x).slots := by rw [C.2.2.2.2.2.2.2.2.2.1]; exact hrm.2
  have hown := C.2.2.2.1
  refine z_back (w := w) (r := r) (w1 := w1) (rest := rest) (mc := rm'.cells) (ms := rm'.slots) (a := (Value.ref b :: As).toArray) ?_ hD hS C.2.2.2.2.2.2.2.2.1 hl K
  have hK : Back (xl x) (xR x) (xp x) (xe x) (xb x) (xs x) (xa x) y 3 8 (PreOf (xR x) rm'.cells rm'.slots (zPre G (.ref b :: As) w H.size)) (PostOf (zPost G w H.size r w1) rm'.cells rm'.slots (va_A w H.size)) := back_of (bytes := bytes) (maxL := maxL) (ret := rt) (hc H.size) zPre_blind rfl rfl hr1.1 hr1.2 (pay_in hts (zgood hcode)) List.mem_cons_self (fun a' U hW => word_at hW (zU_good _ hini).2 (hts _ hini))
  obtain ⟨mk, methM, hnamed, hmethM, hstM, habM⟩ := Cond.instanceMethod_spec (hts _ hinst)
  obtain ⟨methM', cM, hmethM', -, -, -, -, -, -, hsigM⟩ := Cond.code_spec hnamed (hts _ hcode)
  cases hmethM.symm.trans hmethM'
  obtain ⟨ps, dk, kp, hps, hdk, hkp, hsuper, -, -, hnid⟩ := Cond.superclass_spec hown (hts _ hsup)
  have hfy : (xs x).vm.findClass y.cls = some mk.cls := findClass_of_methodNamed hnamed
  have hn2 : (xs x).methodNamed? ⟨y.cls, x0.name, x0.desc⟩ = some mk := by rw [← hyx]; exact hnamed
  have hsub : (xs x).vm.isSubclass ps mk.cls = true := by
    rcases hup with e | e
    · rw [e] at hps
      have : ps = mk.cls := Option.some.inj (hps.symm.trans hfy)
      rw [this]
      simp [Vm.isSubclass, Vm.isSubclassAux]
    · obtain ⟨p2, d2, k2, h1, h2, h3, h4, -⟩ := Cond.superclass_spec hps (hts _ e)
      have e2 : p2 = mk.cls := Option.some.inj (h1.symm.trans hfy)
      subst e2
      have hz : 0 < (xs x).vm.classes.size := by
        have := (Array.getElem?_eq_some_iff.mp h2).1
        omega
      obtain ⟨j, hj⟩ : ∃ j, (xs x).vm.classes.size = j + 1 := ⟨_, (Nat.succ_pred_eq_of_pos hz).symm⟩
      unfold Vm.isSubclass
      rw [hj]
      simp [Vm.isSubclassAux, h2, h4]
  obtain ⟨cellB, hcB, hoB, hclB⟩ := va_recv (q := (Cn, T, N)) C.2.2.2.2.2.2.2.1 hP hci he
  obtain ⟨kB, hkB, -⟩ := (C.2.2.2.2.2.2.2.1.1 ci (Cn, T, N) hci).2.2
  have hcc : (G.1.1 ci) = cellB.cls := Option.some.inj ((C.2.2.2.2.2.2.2.1.1 ci (Cn, T, N) hci).2.1.symm.trans hclB)
  rw [hcc] at hkB
  intro T0 hT X
  have hlen : As.length = methM.sig.parameters.length := by
    have h2 := hdn
    rw [hsigM] at h2
    rw [hn]
    exact (Option.some.inj h2).symm
  obtain ⟨vm₁, X₁, hstep₁⟩ := X.invokespecialUp C.1 hown (hts _ hlink) (hts _ hsame) hn2 hmethM hstM habM hno hdk hnid hps hsuper hsub (a := b) (cell := cellB) (by rw [hT]; exact hcB) (fun z h => by rw [h] at hoB; cases hoB) hkB (g := F0 (xm x) pc ls (As.reverse ++ .ref b :: rest)) rfl (argsL := As) (rest := rest) hlen rfl (by rw [C.2.1]; exact hd)
  obtain ⟨v, ⟨U', l2, c2, s2⟩, X', ⟨g', mk', t, L, e1, e2, hq, h1, hL, h2, h3⟩, hsteps⟩ := hK (xm x) (xt x) (xc x) ⟨T0.setVm vm₁, locs, ce, sl⟩ { F0 (xm x) pc ls (As.reverse ++ .ref b :: rest) with stack := rest } (.invokespecial index) mk (Value.ref b :: As).toArray X₁ rfl hl.1 (by rw [C.2.1]; exact hd) (lv_room hcat) (X₁.named hnamed) ⟨hr2.1, hr2.2, z_pre C hP hD hS (T0.setVm vm₁) hT X₁.warmed⟩
  dsimp only [Pt.U, Pt.locs, Pt.cells, Pt.slots] at X' e1 e2 h1 h2 h3 hsteps
  subst h1; subst h2; subst h3
  exact ⟨v, (T0.setVm vm₁).calling g' mk' (Value.ref b :: As).toArray, t, U', L, hT, X', hL, e1, e2, hq, fun target h => hstep₁ _ (by rw [doInvoke_state]; exact hsteps.trans h)⟩
theorem z_instY {x : zX} {G : zG} {ce sl pc : Nat} {lv : List (Nat × Value)} {st : List Value} {w : va_W} {own : String} {cc : ByteArray} {nL : Nat} {ret : Option FieldType} {rm : Room} (C : zC x G own cc nL ret rm) {i a ci N : Nat} {fs : List Value} {Cn nm : String} {T : u_T} (hl0 : Cond.classLink own i nm ∈ zU) (hc : (Cn, nm) ∈ zCast) (hci : vwCl[ci]? = some (Cn, T, N)) (q0 : Nat) (he : w[q0]? = some (a, .inr (ci, fs))) (hd : decode cc pc = .ok (.instanceof i, 3)) (K : zW x G ce sl (pc + 3) lv (.int 1 :: st) w) : zW x G ce sl pc lv (.ref a :: st) w := fun H locs ls hP hD hS hl => va_instY C.1 C.2.1 C.2.2.2.1 (C.2.2.2.2.1 _ hl0) (C.2.2.2.2.2.2.2.2.2.2.2.2.2.1 (Cn, nm) hc) (va_recv (q := (Cn, T, N)) C.2.2.2.2.2.2.2.1 hP hci he) hd (K H locs ls hP hD hS hl)
theorem z_instNo {x : zX} {G : zG} {ce sl pc : Nat} {lv : List (Nat × Value)} {st : List Value} {w : va_W} {own : String} {cc : ByteArray} {nL : Nat} {ret : Option FieldType} {rm : Room} (C : zC x G own cc nL ret rm) {i a ci N : Nat} {fs : List Value} {Cn nm : String} {T : u_T} (hl0 : Cond.classLink own i nm ∈ zU) (hc : (Cn, nm) ∈ zNo) (hci : vwCl[ci]? = some (Cn, T, N)) (q0 : Nat) (he : w[q0]? = some (a, .inr (ci, fs))) (hd : decode cc pc = .ok (.instanceof i, 3)) (K : zW x G ce sl (pc + 3) lv (.int 0 :: st) w) : zW x G ce sl pc lv (.ref a :: st) w := fun H locs ls hP hD hS hl => va_instNo C.1 C.2.1 C.2.2.2.1 (C.2.2.2.2.1 _ hl0) (C.2.2.2.2.2.2.2.2.2.2.2.2.2.2 (Cn, nm) hc) (va_recv (q := (Cn, T, N)) C.2.2.2.2.2.2.2.1 hP hci he) hd (K H locs ls hP hD hS hl)
theorem z_inst1 {x : zX} {G : zG} {ce sl pc : Nat} {lv : List (Nat × Value)} {st : List Value} {w : va_W} {own : String} {cc : ByteArray} {nL : Nat} {ret : Option FieldType} {rm : Room} (C : zC x G own cc nL ret rm) {i a ci N : Nat} {fs : List Value} {Cn : String} {T : u_T} (hl0 : Cond.classLink own i Cn ∈ zU) (hci : vwCl[ci]? = some (Cn, T, N)) (q0 : Nat) (he : w[q0]? = some (a, .inr (ci, fs))) (hd : decode cc pc = .ok (.instanceof i, 3)) (K : zW x G ce sl (pc + 3) lv (.int 1 :: st) w) : zW x G ce sl pc lv (.ref a :: st) w := fun H locs ls hP hD hS hl => va_instE C.1 C.2.1 C.2.2.2.1 (C.2.2.2.2.1 _ hl0) (va_recv (q := (Cn, T, N)) C.2.2.2.2.2.2.2.1 hP hci he) hd (K H locs ls hP hD hS hl)
abbrev rmtX9_mark_X5 : Room := { frames := 1, cells := 0, slots := 0, locals := 21 }
def tX9_mark_X5 (sC sT : zSt) (n : Int32) : Option (Int64 × zSt) :=
  Option.bind (fT_leave sT 20) fun y1 => some ((n.toInt64), y1)
theorem rw_c_X9_21 {x : zX} {G : zG} {ce sl pc : Nat} {lv : List (Nat × Value)} {cc : ByteArray} {nL : Nat} {ret : Option FieldType} {rm : Room} {w w1 : va_W} {rest : List Value} {r : Option Value} {a0 : Int32} {b : Nat} {fs : List Value} (C : zC x G RX9 cc nL ret rm) (hc : Ct (xl x) G yX10_leave cX10_leave 2 none rmX10_leave [.ref b, .int a0] w r w1) (q0 : Nat) (he : w[q0]? = some (b, .inr (9, fs))) (hd : decode cc pc = .ok (.invokevirtual 21, 3)) (hcat : (rest.map fun v => v.category).sum ≤ 8) (hrm : zRm rm rmX10_leave 2 ce sl) (K : zW x G (ce + rmX10_leave.cells) (sl + rmX10_leave.slots) (pc + 3) lv (r.toList ++ rest) w1) : zW x G ce sl pc lv (.int a0 :: .ref b :: rest) w := z_callV C 1 rw_u_889 rw_u_76 rw_u_915 rw_u_887 rw_u_888 ⟨by decide, by decide, by decide +kernel⟩ (T := TX10) (N := 2) rfl hc rfl q0 he hd hcat hrm K
theorem rw_c_X5_13 {x : zX} {G : zG} {ce sl pc : Nat} {lv : List (Nat × Value)} {cc : ByteArray} {nL : Nat} {ret : Option FieldType} {rm : Room} {w w1 : va_W} {rest : List Value} {r : Option Value} {a0 : Int32} {b : Nat} {fs : List Value} (C : zC x G RX5 cc nL ret rm) (hc : Ct (xl x) G yX10_leave cX10_leave 2 none rmX10_leave [.ref b, .int a0] w r w1) (q0 : Nat) (he : w[q0]? = some (b, .inr (9, fs))) (hd : decode cc pc = .ok (.invokevirtual 13, 3)) (hcat : (rest.map fun v => v.category).sum ≤ 8) (hrm : zRm rm rmX10_leave 2 ce sl) (K : zW x G (ce + rmX10_leave.cells) (sl + rmX10_leave.slots) (pc + 3) lv (r.toList ++ rest) w1) : zW x G ce sl pc lv (.int a0 :: .ref b :: rest) w := z_callV C 1 rw_u_889 rw_u_76 rw_u_897 rw_u_887 rw_u_888 ⟨by decide, by decide, by decide +kernel⟩ (T := TX10) (N := 2) rfl hc rfl q0 he hd hcat hrm K
theorem rw_c_X0_13 {x : zX} {G : zG} {ce sl pc : Nat} {lv : List (Nat × Value)} {cc : ByteArray} {nL : Nat} {ret : Option FieldType} {rm : Room} {w w1 : va_W} {rest : List Value} {r : Option Value} {a0 : Int32} {b : Nat} {fs : List Value} (C : zC x G RX0 cc nL ret rm) (hc : Ct (xl x) G yX10_leave cX10_leave 2 none rmX10_leave [.ref b, .int a0] w r w1) (q0 : Nat) (he : w[q0]? = some (b, .inr (9, fs))) (hd : decode cc pc = .ok (.invokevirtual 13, 3)) (hcat : (rest.map fun v => v.category).sum ≤ 8) (hrm : zRm rm rmX10_leave 2 ce sl) (K : zW x G (ce + rmX10_leave.cells) (sl + rmX10_leave.slots) (pc + 3) lv (r.toList ++ rest) w1) : zW x G ce sl pc lv (.int a0 :: .ref b :: rest) w := z_callV C 1 rw_u_889 rw_u_76 rw_u_886 rw_u_887 rw_u_888 ⟨by decide, by decide, by decide +kernel⟩ (T := TX10) (N := 2) rfl hc rfl q0 he hd hcat hrm K
theorem rw_c_X3_13 {x : zX} {G : zG} {ce sl pc : Nat} {lv : List (Nat × Value)} {cc : ByteArray} {nL : Nat} {ret : Option FieldType} {rm : Room} {w w1 : va_W} {rest : List Value} {r : Option Value} {a0 : Int32} {b : Nat} {fs : List Value} (C : zC x G RX3 cc nL ret rm) (hc : Ct (xl x) G yX10_leave cX10_leave 2 none rmX10_leave [.ref b, .int a0] w r w1) (q0 : Nat) (he : w[q0]? = some (b, .inr (9, fs))) (hd : decode cc pc = .ok (.invokevirtual 13, 3)) (hcat : (rest.map fun v => v.category).sum ≤ 8) (hrm : zRm rm rmX10_leave 2 ce sl) (K : zW x G (ce + rmX10_leave.cells) (sl + rmX10_leave.slots) (pc + 3) lv (r.toList ++ rest) w1) : zW x G ce sl pc lv (.int a0 :: .ref b :: rest) w := z_callV C 1 rw_u_889 rw_u_76 rw_u_893 rw_u_887 rw_u_888 ⟨by decide, by decide, by decide +kernel⟩ (T := TX10) (N := 2) rfl hc rfl q0 he hd hcat hrm K
theorem rw_c_X1_13 {x : zX} {G : zG} {ce sl pc : Nat} {lv : List (Nat × Value)} {cc : ByteArray} {nL : Nat} {ret : Option FieldType} {rm : Room} {w w1 : va_W} {rest : List Value} {r : Option Value} {a0 : Int32} {b : Nat} {fs : List Value} (C : zC x G RX1 cc nL ret rm) (hc : Ct (xl x) G yX10_leave cX10_leave 2 none rmX10_leave [.ref b, .int a0] w r w1) (q0 : Nat) (he : w[q0]? = some (b, .inr (9, fs))) (hd : decode cc pc = .ok (.invokevirtual 13, 3)) (hcat : (rest.map fun v => v.category).sum ≤ 8) (hrm : zRm rm rmX10_leave 2 ce sl) (K : zW x G (ce + rmX10_leave.cells) (sl + rmX10_leave.slots) (pc + 3) lv (r.toList ++ rest) w1) : zW x G ce sl pc lv (.int a0 :: .ref b :: rest) w := z_callV C 1 rw_u_889 rw_u_76 rw_u_920 rw_u_887 rw_u_888 ⟨by decide, by decide, by decide +kernel⟩ (T := TX10) (N := 2) rfl hc rfl q0 he hd hcat hrm K
theorem rw_c_X4_13 {x : zX} {G : zG} {ce sl pc : Nat} {lv : List (Nat × Value)} {cc : ByteArray} {nL : Nat} {ret : Option FieldType} {rm : Room} {w w1 : va_W} {rest : List Value} {r : Option Value} {a0 : Int32} {b : Nat} {fs : List Value} (C : zC x G RX4 cc nL ret rm) (hc : Ct (xl x) G yX10_leave cX10_leave 2 none rmX10_leave [.ref b, .int a0] w r w1) (q0 : Nat) (he : w[q0]? = some (b, .inr (9, fs))) (hd : decode cc pc = .ok (.invokevirtual 13, 3)) (hcat : (rest.map fun v => v.category).sum ≤ 8) (hrm : zRm rm rmX10_leave 2 ce sl) (K : zW x G (ce + rmX10_leave.cells) (sl + rmX10_leave.slots) (pc + 3) lv (r.toList ++ rest) w1) : zW x G ce sl pc lv (.int a0 :: .ref b :: rest) w := z_callV C 1 rw_u_889 rw_u_76 rw_u_930 rw_u_887 rw_u_888 ⟨by decide, by decide, by decide +kernel⟩ (T := TX10) (N := 2) rfl hc rfl q0 he hd hcat hrm K
set_option maxHeartbeats 4000000 in
set_option maxRecDepth 100000 in
theorem ctX9_mark_X5 {l : Launch} {G : zG} {o : Nat} {qC qT : Nat → Nat} {rC : Nat} {sC sT : zSt} {n : Int32} {out : Int64 × zSt} (h : tX9_mark_X5 sC sT n = some out) : Ct l G yX9_mark cX9_mark 1 (some .long) rmtX9_mark_X5 [.ref o] ([(o, .inr (5, [.int n, .ref (qC 0), .ref (qT 0)]))] ++ (wdC G qC rC sC ++ wdT G qT sT)) (some (.long out.1)) ([(o, .inr (5, [.int n, .ref (qC 0), .ref (qT 0)]))] ++ (wdC G qC rC sC ++ wdT G qT out.2)) := by
  refine zMet (own := RX9) rfl (by decide) (Nat.le_of_ble_eq_true rfl) (fun x hl C O => ?_)
  show zW x G 0 0 0 [(0, .ref o)] [] _
  unfold tX9_mark_X5 at h
  refine z_aload_n C dX9_mark_0 0 rfl ?_
  refine z_get C (Cn := RX5) (T := TX5) (N := 3) (ci := 5) (k := 2) inzX5 rfl (by decide) rw_u_806 (fun _ h => h) 0 rfl rfl dX9_mark_1 ?_
  refine z_bipush C 20 dX9_mark_4 (by decide) ?_
  obtain ⟨y1, hy1, h⟩ := bind_o h
  refine rw_c_X9_21 C (Ct.frame (cT_leave hy1) (w := [(o, .inr (5, [.int n, .ref (qC 0), .ref (qT 0)]))] ++ (wdC G qC rC sC ++ wdT G qT sT)) (w' := [(o, .inr (5, [.int n, .ref (qC 0), .ref (qT 0)]))] ++ (wdC G qC rC sC ++ wdT G qT y1)) (wr := [(o, .inr (5, [.int n, .ref (qC 0), .ref (qT 0)]))] ++ wdC G qC rC sC) [16, 17] [0, 1, 2, 3, 4, 5, 6, 7, 8, 9, 10, 11, 12, 13, 14, 15] [0, 1, 2, 3, 4, 5, 6, 7, 8, 9, 10, 11, 12, 13, 14, 15, 16, 17] rfl rfl rfl rfl (by decide) rfl rfl) 16 rfl dX9_mark_6 (Nat.le_of_ble_eq_true rfl) (zrm rfl) ?_
  refine z_aload_n C dX9_mark_9 0 rfl ?_
  refine z_get C (Cn := RX5) (T := TX5) (N := 3) (ci := 5) (k := 0) inzX5 rfl (by decide) rw_u_796 (fun _ h => h) 0 rfl rfl dX9_mark_10 ?_
  refine z_i2l C dX9_mark_13 ?_
  replace h := Option.some.inj h
  subst h
  exact z_lret C O dX9_mark_14 rfl rfl
abbrev rmtX9_mark_X3 : Room := { frames := 1, cells := 0, slots := 0, locals := 21 }
def tX9_mark_X3 (sC sT : zSt) (n : Int32) : Option (Int64 × zSt) :=
  Option.bind (fT_leave sT 20) fun y1 => some ((n.toInt64), y1)
set_option maxHeartbeats 4000000 in
set_option maxRecDepth 100000 in
theorem ctX9_mark_X3 {l : Launch} {G : zG} {o : Nat} {qC qT : Nat → Nat} {rC : Nat} {sC sT : zSt} {n : Int32} {out : Int64 × zSt} (h : tX9_mark_X3 sC sT n = some out) : Ct l G yX9_mark cX9_mark 1 (some .long) rmtX9_mark_X3 [.ref o] ([(o, .inr (3, [.int n, .ref (qC 0), .ref (qT 0)]))] ++ (wdC G qC rC sC ++ wdT G qT sT)) (some (.long out.1)) ([(o, .inr (3, [.int n, .ref (qC 0), .ref (qT 0)]))] ++ (wdC G qC rC sC ++ wdT G qT out.2)) := by
  refine zMet (own := RX9) rfl (by decide) (Nat.le_of_ble_eq_true rfl) (fun x hl C O => ?_)
  show zW x G 0 0 0 [(0, .ref o)] [] _
  unfold tX9_mark_X3 at h
  refine z_aload_n C dX9_mark_0 0 rfl ?_
  refine z_get C (Cn := RX3) (T := TX3) (N := 3) (ci := 3) (k := 2) inzX3 rfl (by decide) rw_u_806 (fun _ h => h) 0 rfl rfl dX9_mark_1 ?_
  refine z_bipush C 20 dX9_mark_4 (by decide) ?_
  obtain ⟨y1, hy1, h⟩ := bind_o h
  refine rw_c_X9_21 C (Ct.frame (cT_leave hy1) (w := [(o, .inr (3, [.int n, .ref (qC 0), .ref (qT 0)]))] ++ (wdC G qC rC sC ++ wdT G qT sT)) (w' := [(o, .inr (3, [.int n, .ref (qC 0), .ref (qT 0)]))] ++ (wdC G qC rC sC ++ wdT G qT y1)) (wr := [(o, .inr (3, [.int n, .ref (qC 0), .ref (qT 0)]))] ++ wdC G qC rC sC) [16, 17] [0, 1, 2, 3, 4, 5, 6, 7, 8, 9, 10, 11, 12, 13, 14, 15] [0, 1, 2, 3, 4, 5, 6, 7, 8, 9, 10, 11, 12, 13, 14, 15, 16, 17] rfl rfl rfl rfl (by decide) rfl rfl) 16 rfl dX9_mark_6 (Nat.le_of_ble_eq_true rfl) (zrm rfl) ?_
  refine z_aload_n C dX9_mark_9 0 rfl ?_
  refine z_get C (Cn := RX3) (T := TX3) (N := 3) (ci := 3) (k := 0) inzX3 rfl (by decide) rw_u_796 (fun _ h => h) 0 rfl rfl dX9_mark_10 ?_
  refine z_i2l C dX9_mark_13 ?_
  replace h := Option.some.inj h
  subst h
  exact z_lret C O dX9_mark_14 rfl rfl
abbrev rmtX9_mark_X0 : Room := { frames := 1, cells := 0, slots := 0, locals := 21 }
def tX9_mark_X0 (sC sT : zSt) (n : Int32) : Option (Int64 × zSt) :=
  Option.bind (fT_leave sT 20) fun y1 => some ((n.toInt64), y1)
set_option maxHeartbeats 4000000 in
set_option maxRecDepth 100000 in
theorem ctX9_mark_X0 {l : Launch} {G : zG} {o : Nat} {qC qT : Nat → Nat} {rC : Nat} {sC sT : zSt} {n : Int32} {out : Int64 × zSt} (h : tX9_mark_X0 sC sT n = some out) : Ct l G yX9_mark cX9_mark 1 (some .long) rmtX9_mark_X0 [.ref o] ([(o, .inr (0, [.int n, .ref (qC 0), .ref (qT 0)]))] ++ (wdC G qC rC sC ++ wdT G qT sT)) (some (.long out.1)) ([(o, .inr (0, [.int n, .ref (qC 0), .ref (qT 0)]))] ++ (wdC G qC rC sC ++ wdT G qT out.2)) := by
  refine zMet (own := RX9) rfl (by decide) (Nat.le_of_ble_eq_true rfl) (fun x hl C O => ?_)
  show zW x G 0 0 0 [(0, .ref o)] [] _
  unfold tX9_mark_X0 at h
  refine z_aload_n C dX9_mark_0 0 rfl ?_
  refine z_get C (Cn := RX0) (T := TX0) (N := 3) (ci := 0) (k := 2) inzX0 rfl (by decide) rw_u_806 (fun _ h => h) 0 rfl rfl dX9_mark_1 ?_
  refine z_bipush C 20 dX9_mark_4 (by decide) ?_
  obtain ⟨y1, hy1, h⟩ := bind_o h
  refine rw_c_X9_21 C (Ct.frame (cT_leave hy1) (w := [(o, .inr (0, [.int n, .ref (qC 0), .ref (qT 0)]))] ++ (wdC G qC rC sC ++ wdT G qT sT)) (w' := [(o, .inr (0, [.int n, .ref (qC 0), .ref (qT 0)]))] ++ (wdC G qC rC sC ++ wdT G qT y1)) (wr := [(o, .inr (0, [.int n, .ref (qC 0), .ref (qT 0)]))] ++ wdC G qC rC sC) [16, 17] [0, 1, 2, 3, 4, 5, 6, 7, 8, 9, 10, 11, 12, 13, 14, 15] [0, 1, 2, 3, 4, 5, 6, 7, 8, 9, 10, 11, 12, 13, 14, 15, 16, 17] rfl rfl rfl rfl (by decide) rfl rfl) 16 rfl dX9_mark_6 (Nat.le_of_ble_eq_true rfl) (zrm rfl) ?_
  refine z_aload_n C dX9_mark_9 0 rfl ?_
  refine z_get C (Cn := RX0) (T := TX0) (N := 3) (ci := 0) (k := 0) inzX0 rfl (by decide) rw_u_796 (fun _ h => h) 0 rfl rfl dX9_mark_10 ?_
  refine z_i2l C dX9_mark_13 ?_
  replace h := Option.some.inj h
  subst h
  exact z_lret C O dX9_mark_14 rfl rfl
abbrev rmtX9_mark_X1 : Room := { frames := 1, cells := 0, slots := 0, locals := 21 }
def tX9_mark_X1 (sC sT : zSt) (n : Int32) : Option (Int64 × zSt) :=
  Option.bind (fT_leave sT 20) fun y1 => some ((n.toInt64), y1)
set_option maxHeartbeats 4000000 in
set_option maxRecDepth 100000 in
theorem ctX9_mark_X1 {l : Launch} {G : zG} {o : Nat} {qC qT : Nat → Nat} {rC : Nat} {sC sT : zSt} {n : Int32} {out : Int64 × zSt} (h : tX9_mark_X1 sC sT n = some out) : Ct l G yX9_mark cX9_mark 1 (some .long) rmtX9_mark_X1 [.ref o] ([(o, .inr (1, [.int n, .ref (qC 0), .ref (qT 0)]))] ++ (wdC G qC rC sC ++ wdT G qT sT)) (some (.long out.1)) ([(o, .inr (1, [.int n, .ref (qC 0), .ref (qT 0)]))] ++ (wdC G qC rC sC ++ wdT G qT out.2)) := by
  refine zMet (own := RX9) rfl (by decide) (Nat.le_of_ble_eq_true rfl) (fun x hl C O => ?_)
  show zW x G 0 0 0 [(0, .ref o)] [] _
  unfold tX9_mark_X1 at h
  refine z_aload_n C dX9_mark_0 0 rfl ?_
  refine z_get C (Cn := RX1) (T := TX1) (N := 3) (ci := 1) (k := 2) inzX1 rfl (by decide) rw_u_806 (fun _ h => h) 0 rfl rfl dX9_mark_1 ?_
  refine z_bipush C 20 dX9_mark_4 (by decide) ?_
  obtain ⟨y1, hy1, h⟩ := bind_o h
  refine rw_c_X9_21 C (Ct.frame (cT_leave hy1) (w := [(o, .inr (1, [.int n, .ref (qC 0), .ref (qT 0)]))] ++ (wdC G qC rC sC ++ wdT G qT sT)) (w' := [(o, .inr (1, [.int n, .ref (qC 0), .ref (qT 0)]))] ++ (wdC G qC rC sC ++ wdT G qT y1)) (wr := [(o, .inr (1, [.int n, .ref (qC 0), .ref (qT 0)]))] ++ wdC G qC rC sC) [16, 17] [0, 1, 2, 3, 4, 5, 6, 7, 8, 9, 10, 11, 12, 13, 14, 15] [0, 1, 2, 3, 4, 5, 6, 7, 8, 9, 10, 11, 12, 13, 14, 15, 16, 17] rfl rfl rfl rfl (by decide) rfl rfl) 16 rfl dX9_mark_6 (Nat.le_of_ble_eq_true rfl) (zrm rfl) ?_
  refine z_aload_n C dX9_mark_9 0 rfl ?_
  refine z_get C (Cn := RX1) (T := TX1) (N := 3) (ci := 1) (k := 0) inzX1 rfl (by decide) rw_u_796 (fun _ h => h) 0 rfl rfl dX9_mark_10 ?_
  refine z_i2l C dX9_mark_13 ?_
  replace h := Option.some.inj h
  subst h
  exact z_lret C O dX9_mark_14 rfl rfl
abbrev rmtX9_mark_X4 : Room := { frames := 1, cells := 0, slots := 0, locals := 21 }
def tX9_mark_X4 (sC sT : zSt) (n : Int32) : Option (Int64 × zSt) :=
  Option.bind (fT_leave sT 20) fun y1 => some ((n.toInt64), y1)
set_option maxHeartbeats 4000000 in
set_option maxRecDepth 100000 in
theorem ctX9_mark_X4 {l : Launch} {G : zG} {o : Nat} {qC qT : Nat → Nat} {rC : Nat} {sC sT : zSt} {n : Int32} {out : Int64 × zSt} (h : tX9_mark_X4 sC sT n = some out) : Ct l G yX9_mark cX9_mark 1 (some .long) rmtX9_mark_X4 [.ref o] ([(o, .inr (4, [.int n, .ref (qC 0), .ref (qT 0)]))] ++ (wdC G qC rC sC ++ wdT G qT sT)) (some (.long out.1)) ([(o, .inr (4, [.int n, .ref (qC 0), .ref (qT 0)]))] ++ (wdC G qC rC sC ++ wdT G qT out.2)) := by
  refine zMet (own := RX9) rfl (by decide) (Nat.le_of_ble_eq_true rfl) (fun x hl C O => ?_)
  show zW x G 0 0 0 [(0, .ref o)] [] _
  unfold tX9_mark_X4 at h
  refine z_aload_n C dX9_mark_0 0 rfl ?_
  refine z_get C (Cn := RX4) (T := TX4) (N := 3) (ci := 4) (k := 2) inzX4 rfl (by decide) rw_u_806 (fun _ h => h) 0 rfl rfl dX9_mark_1 ?_
  refine z_bipush C 20 dX9_mark_4 (by decide) ?_
  obtain ⟨y1, hy1, h⟩ := bind_o h
  refine rw_c_X9_21 C (Ct.frame (cT_leave hy1) (w := [(o, .inr (4, [.int n, .ref (qC 0), .ref (qT 0)]))] ++ (wdC G qC rC sC ++ wdT G qT sT)) (w' := [(o, .inr (4, [.int n, .ref (qC 0), .ref (qT 0)]))] ++ (wdC G qC rC sC ++ wdT G qT y1)) (wr := [(o, .inr (4, [.int n, .ref (qC 0), .ref (qT 0)]))] ++ wdC G qC rC sC) [16, 17] [0, 1, 2, 3, 4, 5, 6, 7, 8, 9, 10, 11, 12, 13, 14, 15] [0, 1, 2, 3, 4, 5, 6, 7, 8, 9, 10, 11, 12, 13, 14, 15, 16, 17] rfl rfl rfl rfl (by decide) rfl rfl) 16 rfl dX9_mark_6 (Nat.le_of_ble_eq_true rfl) (zrm rfl) ?_
  refine z_aload_n C dX9_mark_9 0 rfl ?_
  refine z_get C (Cn := RX4) (T := TX4) (N := 3) (ci := 4) (k := 0) inzX4 rfl (by decide) rw_u_796 (fun _ h => h) 0 rfl rfl dX9_mark_10 ?_
  refine z_i2l C dX9_mark_13 ?_
  replace h := Option.some.inj h
  subst h
  exact z_lret C O dX9_mark_14 rfl rfl
abbrev rmtX9_size_X5 : Room := { frames := 1, cells := 0, slots := 0, locals := 21 }
def tX9_size_X5 (sC sT : zSt) (n : Int32) : Option (Int64 × zSt) :=
  Option.bind (fT_leave sT 10) fun y1 => zg (zix n 10) <| some (((zA sC 11 n.toNatClampNeg).toInt64), y1)
set_option maxHeartbeats 4000000 in
set_option maxRecDepth 100000 in
theorem ctX9_size_X5 {l : Launch} {G : zG} {o : Nat} {qC qT : Nat → Nat} {rC : Nat} {sC sT : zSt} {n : Int32} {out : Int64 × zSt} (h : tX9_size_X5 sC sT n = some out) : Ct l G yX9_size cX9_size 1 (some .long) rmtX9_size_X5 [.ref o] ([(o, .inr (5, [.int n, .ref (qC 0), .ref (qT 0)]))] ++ (wdC G qC rC sC ++ wdT G qT sT)) (some (.long out.1)) ([(o, .inr (5, [.int n, .ref (qC 0), .ref (qT 0)]))] ++ (wdC G qC rC sC ++ wdT G qT out.2)) := by
  refine zMet (own := RX9) rfl (by decide) (Nat.le_of_ble_eq_true rfl) (fun x hl C O => ?_)
  show zW x G 0 0 0 [(0, .ref o)] [] _
  unfold tX9_size_X5 at h
  refine z_aload_n C dX9_size_0 0 rfl ?_
  refine z_get C (Cn := RX5) (T := TX5) (N := 3) (ci := 5) (k := 2) inzX5 rfl (by decide) rw_u_806 (fun _ h => h) 0 rfl rfl dX9_size_1 ?_
  refine z_bipush C 10 dX9_size_4 (by decide) ?_
  obtain ⟨y1, hy1, h⟩ := bind_o h
  refine rw_c_X9_21 C (Ct.frame (cT_leave hy1) (w := [(o, .inr (5, [.int n, .ref (qC 0), .ref (qT 0)]))] ++ (wdC G qC rC sC ++ wdT G qT sT)) (w' := [(o, .inr (5, [.int n, .ref (qC 0), .ref (qT 0)]))] ++ (wdC G qC rC sC ++ wdT G qT y1)) (wr := [(o, .inr (5, [.int n, .ref (qC 0), .ref (qT 0)]))] ++ wdC G qC rC sC) [16, 17] [0, 1, 2, 3, 4, 5, 6, 7, 8, 9, 10, 11, 12, 13, 14, 15] [0, 1, 2, 3, 4, 5, 6, 7, 8, 9, 10, 11, 12, 13, 14, 15, 16, 17] rfl rfl rfl rfl (by decide) rfl rfl) 16 rfl dX9_size_6 (Nat.le_of_ble_eq_true rfl) (zrm rfl) ?_
  refine z_aload_n C dX9_size_9 0 rfl ?_
  refine z_get C (Cn := RX5) (T := TX5) (N := 3) (ci := 5) (k := 1) inzX5 rfl (by decide) rw_u_801 (fun _ h => h) 0 rfl rfl dX9_size_10 ?_
  refine z_get C (Cn := RX2) (T := TX2) (N := 18) (ci := 2) (k := 11) inzX2 rfl (by decide) rw_u_238 (fun _ h => h) 1 rfl rfl dX9_size_13 ?_
  refine z_aload_n C dX9_size_16 0 rfl ?_
  refine z_get C (Cn := RX5) (T := TX5) (N := 3) (ci := 5) (k := 0) inzX5 rfl (by decide) rw_u_796 (fun _ h => h) 0 rfl rfl dX9_size_17 ?_
  refine z_iald C 10 rfl dX9_size_20 h (fun h => ?_)
  refine z_i2l C dX9_size_21 ?_
  replace h := Option.some.inj h
  subst h
  exact z_lret C O dX9_size_22 rfl rfl
abbrev rmtX9_size_X3 : Room := { frames := 1, cells := 0, slots := 0, locals := 21 }
def tX9_size_X3 (sC sT : zSt) (n : Int32) : Option (Int64 × zSt) :=
  Option.bind (fT_leave sT 10) fun y1 => zg (zix n 10) <| some (((zA sC 11 n.toNatClampNeg).toInt64), y1)
set_option maxHeartbeats 4000000 in
set_option maxRecDepth 100000 in
theorem ctX9_size_X3 {l : Launch} {G : zG} {o : Nat} {qC qT : Nat → Nat} {rC : Nat} {sC sT : zSt} {n : Int32} {out : Int64 × zSt} (h : tX9_size_X3 sC sT n = some out) : Ct l G yX9_size cX9_size 1 (some .long) rmtX9_size_X3 [.ref o] ([(o, .inr (3, [.int n, .ref (qC 0), .ref (qT 0)]))] ++ (wdC G qC rC sC ++ wdT G qT sT)) (some (.long out.1)) ([(o, .inr (3, [.int n, .ref (qC 0), .ref (qT 0)]))] ++ (wdC G qC rC sC ++ wdT G qT out.2)) := by
  refine zMet (own := RX9) rfl (by decide) (Nat.le_of_ble_eq_true rfl) (fun x hl C O => ?_)
  show zW x G 0 0 0 [(0, .ref o)] [] _
  unfold tX9_size_X3 at h
  refine z_aload_n C dX9_size_0 0 rfl ?_
  refine z_get C (Cn := RX3) (T := TX3) (N := 3) (ci := 3) (k := 2) inzX3 rfl (by decide) rw_u_806 (fun _ h => h) 0 rfl rfl dX9_size_1 ?_
  refine z_bipush C 10 dX9_size_4 (by decide) ?_
  obtain ⟨y1, hy1, h⟩ := bind_o h
  refine rw_c_X9_21 C (Ct.frame (cT_leave hy1) (w := [(o, .inr (3, [.int n, .ref (qC 0), .ref (qT 0)]))] ++ (wdC G qC rC sC ++ wdT G qT sT)) (w' := [(o, .inr (3, [.int n, .ref (qC 0), .ref (qT 0)]))] ++ (wdC G qC rC sC ++ wdT G qT y1)) (wr := [(o, .inr (3, [.int n, .ref (qC 0), .ref (qT 0)]))] ++ wdC G qC rC sC) [16, 17] [0, 1, 2, 3, 4, 5, 6, 7, 8, 9, 10, 11, 12, 13, 14, 15] [0, 1, 2, 3, 4, 5, 6, 7, 8, 9, 10, 11, 12, 13, 14, 15, 16, 17] rfl rfl rfl rfl (by decide) rfl rfl) 16 rfl dX9_size_6 (Nat.le_of_ble_eq_true rfl) (zrm rfl) ?_
  refine z_aload_n C dX9_size_9 0 rfl ?_
  refine z_get C (Cn := RX3) (T := TX3) (N := 3) (ci := 3) (k := 1) inzX3 rfl (by decide) rw_u_801 (fun _ h => h) 0 rfl rfl dX9_size_10 ?_
  refine z_get C (Cn := RX2) (T := TX2) (N := 18) (ci := 2) (k := 11) inzX2 rfl (by decide) rw_u_238 (fun _ h => h) 1 rfl rfl dX9_size_13 ?_
  refine z_aload_n C dX9_size_16 0 rfl ?_
  refine z_get C (Cn := RX3) (T := TX3) (N := 3) (ci := 3) (k := 0) inzX3 rfl (by decide) rw_u_796 (fun _ h => h) 0 rfl rfl dX9_size_17 ?_
  refine z_iald C 10 rfl dX9_size_20 h (fun h => ?_)
  refine z_i2l C dX9_size_21 ?_
  replace h := Option.some.inj h
  subst h
  exact z_lret C O dX9_size_22 rfl rfl
abbrev rmtX9_size_X0 : Room := { frames := 1, cells := 0, slots := 0, locals := 21 }
def tX9_size_X0 (sC sT : zSt) (n : Int32) : Option (Int64 × zSt) :=
  Option.bind (fT_leave sT 10) fun y1 => zg (zix n 10) <| some (((zA sC 11 n.toNatClampNeg).toInt64), y1)
set_option maxHeartbeats 4000000 in
set_option maxRecDepth 100000 in
theorem ctX9_size_X0 {l : Launch} {G : zG} {o : Nat} {qC qT : Nat → Nat} {rC : Nat} {sC sT : zSt} {n : Int32} {out : Int64 × zSt} (h : tX9_size_X0 sC sT n = some out) : Ct l G yX9_size cX9_size 1 (some .long) rmtX9_size_X0 [.ref o] ([(o, .inr (0, [.int n, .ref (qC 0), .ref (qT 0)]))] ++ (wdC G qC rC sC ++ wdT G qT sT)) (some (.long out.1)) ([(o, .inr (0, [.int n, .ref (qC 0), .ref (qT 0)]))] ++ (wdC G qC rC sC ++ wdT G qT out.2)) := by
  refine zMet (own := RX9) rfl (by decide) (Nat.le_of_ble_eq_true rfl) (fun x hl C O => ?_)
  show zW x G 0 0 0 [(0, .ref o)] [] _
  unfold tX9_size_X0 at h
  refine z_aload_n C dX9_size_0 0 rfl ?_
  refine z_get C (Cn := RX0) (T := TX0) (N := 3) (ci := 0) (k := 2) inzX0 rfl (by decide) rw_u_806 (fun _ h => h) 0 rfl rfl dX9_size_1 ?_
  refine z_bipush C 10 dX9_size_4 (by decide) ?_
  obtain ⟨y1, hy1, h⟩ := bind_o h
  refine rw_c_X9_21 C (Ct.frame (cT_leave hy1) (w := [(o, .inr (0, [.int n, .ref (qC 0), .ref (qT 0)]))] ++ (wdC G qC rC sC ++ wdT G qT sT)) (w' := [(o, .inr (0, [.int n, .ref (qC 0), .ref (qT 0)]))] ++ (wdC G qC rC sC ++ wdT G qT y1)) (wr := [(o, .inr (0, [.int n, .ref (qC 0), .ref (qT 0)]))] ++ wdC G qC rC sC) [16, 17] [0, 1, 2, 3, 4, 5, 6, 7, 8, 9, 10, 11, 12, 13, 14, 15] [0, 1, 2, 3, 4, 5, 6, 7, 8, 9, 10, 11, 12, 13, 14, 15, 16, 17] rfl rfl rfl rfl (by decide) rfl rfl) 16 rfl dX9_size_6 (Nat.le_of_ble_eq_true rfl) (zrm rfl) ?_
  refine z_aload_n C dX9_size_9 0 rfl ?_
  refine z_get C (Cn := RX0) (T := TX0) (N := 3) (ci := 0) (k := 1) inzX0 rfl (by decide) rw_u_801 (fun _ h => h) 0 rfl rfl dX9_size_10 ?_
  refine z_get C (Cn := RX2) (T := TX2) (N := 18) (ci := 2) (k := 11) inzX2 rfl (by decide) rw_u_238 (fun _ h => h) 1 rfl rfl dX9_size_13 ?_
  refine z_aload_n C dX9_size_16 0 rfl ?_
  refine z_get C (Cn := RX0) (T := TX0) (N := 3) (ci := 0) (k := 0) inzX0 rfl (by decide) rw_u_796 (fun _ h => h) 0 rfl rfl dX9_size_17 ?_
  refine z_iald C 10 rfl dX9_size_20 h (fun h => ?_)
  refine z_i2l C dX9_size_21 ?_
  replace h := Option.some.inj h
  subst h
  exact z_lret C O dX9_size_22 rfl rfl
abbrev rmtX9_size_X1 : Room := { frames := 1, cells := 0, slots := 0, locals := 21 }
def tX9_size_X1 (sC sT : zSt) (n : Int32) : Option (Int64 × zSt) :=
  Option.bind (fT_leave sT 10) fun y1 => zg (zix n 10) <| some (((zA sC 11 n.toNatClampNeg).toInt64), y1)
set_option maxHeartbeats 4000000 in
set_option maxRecDepth 100000 in
theorem ctX9_size_X1 {l : Launch} {G : zG} {o : Nat} {qC qT : Nat → Nat} {rC : Nat} {sC sT : zSt} {n : Int32} {out : Int64 × zSt} (h : tX9_size_X1 sC sT n = some out) : Ct l G yX9_size cX9_size 1 (some .long) rmtX9_size_X1 [.ref o] ([(o, .inr (1, [.int n, .ref (qC 0), .ref (qT 0)]))] ++ (wdC G qC rC sC ++ wdT G qT sT)) (some (.long out.1)) ([(o, .inr (1, [.int n, .ref (qC 0), .ref (qT 0)]))] ++ (wdC G qC rC sC ++ wdT G qT out.2)) := by
  refine zMet (own := RX9) rfl (by decide) (Nat.le_of_ble_eq_true rfl) (fun x hl C O => ?_)
  show zW x G 0 0 0 [(0, .ref o)] [] _
  unfold tX9_size_X1 at h
  refine z_aload_n C dX9_size_0 0 rfl ?_
  refine z_get C (Cn := RX1) (T := TX1) (N := 3) (ci := 1) (k := 2) inzX1 rfl (by decide) rw_u_806 (fun _ h => h) 0 rfl rfl dX9_size_1 ?_
  refine z_bipush C 10 dX9_size_4 (by decide) ?_
  obtain ⟨y1, hy1, h⟩ := bind_o h
  refine rw_c_X9_21 C (Ct.frame (cT_leave hy1) (w := [(o, .inr (1, [.int n, .ref (qC 0), .ref (qT 0)]))] ++ (wdC G qC rC sC ++ wdT G qT sT)) (w' := [(o, .inr (1, [.int n, .ref (qC 0), .ref (qT 0)]))] ++ (wdC G qC rC sC ++ wdT G qT y1)) (wr := [(o, .inr (1, [.int n, .ref (qC 0), .ref (qT 0)]))] ++ wdC G qC rC sC) [16, 17] [0, 1, 2, 3, 4, 5, 6, 7, 8, 9, 10, 11, 12, 13, 14, 15] [0, 1, 2, 3, 4, 5, 6, 7, 8, 9, 10, 11, 12, 13, 14, 15, 16, 17] rfl rfl rfl rfl (by decide) rfl rfl) 16 rfl dX9_size_6 (Nat.le_of_ble_eq_true rfl) (zrm rfl) ?_
  refine z_aload_n C dX9_size_9 0 rfl ?_
  refine z_get C (Cn := RX1) (T := TX1) (N := 3) (ci := 1) (k := 1) inzX1 rfl (by decide) rw_u_801 (fun _ h => h) 0 rfl rfl dX9_size_10 ?_
  refine z_get C (Cn := RX2) (T := TX2) (N := 18) (ci := 2) (k := 11) inzX2 rfl (by decide) rw_u_238 (fun _ h => h) 1 rfl rfl dX9_size_13 ?_
  refine z_aload_n C dX9_size_16 0 rfl ?_
  refine z_get C (Cn := RX1) (T := TX1) (N := 3) (ci := 1) (k := 0) inzX1 rfl (by decide) rw_u_796 (fun _ h => h) 0 rfl rfl dX9_size_17 ?_
  refine z_iald C 10 rfl dX9_size_20 h (fun h => ?_)
  refine z_i2l C dX9_size_21 ?_
  replace h := Option.some.inj h
  subst h
  exact z_lret C O dX9_size_22 rfl rfl
abbrev rmtX9_size_X4 : Room := { frames := 1, cells := 0, slots := 0, locals := 21 }
def tX9_size_X4 (sC sT : zSt) (n : Int32) : Option (Int64 × zSt) :=
  Option.bind (fT_leave sT 10) fun y1 => zg (zix n 10) <| some (((zA sC 11 n.toNatClampNeg).toInt64), y1)
set_option maxHeartbeats 4000000 in
set_option maxRecDepth 100000 in
theorem ctX9_size_X4 {l : Launch} {G : zG} {o : Nat} {qC qT : Nat → Nat} {rC : Nat} {sC sT : zSt} {n : Int32} {out : Int64 × zSt} (h : tX9_size_X4 sC sT n = some out) : Ct l G yX9_size cX9_size 1 (some .long) rmtX9_size_X4 [.ref o] ([(o, .inr (4, [.int n, .ref (qC 0), .ref (qT 0)]))] ++ (wdC G qC rC sC ++ wdT G qT sT)) (some (.long out.1)) ([(o, .inr (4, [.int n, .ref (qC 0), .ref (qT 0)]))] ++ (wdC G qC rC sC ++ wdT G qT out.2)) := by
  refine zMet (own := RX9) rfl (by decide) (Nat.le_of_ble_eq_true rfl) (fun x hl C O => ?_)
  show zW x G 0 0 0 [(0, .ref o)] [] _
  unfold tX9_size_X4 at h
  refine z_aload_n C dX9_size_0 0 rfl ?_
  refine z_get C (Cn := RX4) (T := TX4) (N := 3) (ci := 4) (k := 2) inzX4 rfl (by decide) rw_u_806 (fun _ h => h) 0 rfl rfl dX9_size_1 ?_
  refine z_bipush C 10 dX9_size_4 (by decide) ?_
  obtain ⟨y1, hy1, h⟩ := bind_o h
  refine rw_c_X9_21 C (Ct.frame (cT_leave hy1) (w := [(o, .inr (4, [.int n, .ref (qC 0), .ref (qT 0)]))] ++ (wdC G qC rC sC ++ wdT G qT sT)) (w' := [(o, .inr (4, [.int n, .ref (qC 0), .ref (qT 0)]))] ++ (wdC G qC rC sC ++ wdT G qT y1)) (wr := [(o, .inr (4, [.int n, .ref (qC 0), .ref (qT 0)]))] ++ wdC G qC rC sC) [16, 17] [0, 1, 2, 3, 4, 5, 6, 7, 8, 9, 10, 11, 12, 13, 14, 15] [0, 1, 2, 3, 4, 5, 6, 7, 8, 9, 10, 11, 12, 13, 14, 15, 16, 17] rfl rfl rfl rfl (by decide) rfl rfl) 16 rfl dX9_size_6 (Nat.le_of_ble_eq_true rfl) (zrm rfl) ?_
  refine z_aload_n C dX9_size_9 0 rfl ?_
  refine z_get C (Cn := RX4) (T := TX4) (N := 3) (ci := 4) (k := 1) inzX4 rfl (by decide) rw_u_801 (fun _ h => h) 0 rfl rfl dX9_size_10 ?_
  refine z_get C (Cn := RX2) (T := TX2) (N := 18) (ci := 2) (k := 11) inzX2 rfl (by decide) rw_u_238 (fun _ h => h) 1 rfl rfl dX9_size_13 ?_
  refine z_aload_n C dX9_size_16 0 rfl ?_
  refine z_get C (Cn := RX4) (T := TX4) (N := 3) (ci := 4) (k := 0) inzX4 rfl (by decide) rw_u_796 (fun _ h => h) 0 rfl rfl dX9_size_17 ?_
  refine z_iald C 10 rfl dX9_size_20 h (fun h => ?_)
  refine z_i2l C dX9_size_21 ?_
  replace h := Option.some.inj h
  subst h
  exact z_lret C O dX9_size_22 rfl rfl
abbrev rmtX5_mark_X5 : Room := { frames := 2, cells := 0, slots := 0, locals := 41 }
def tX5_mark_X5 (sC sT : zSt) (n : Int32) : Option (Int64 × zSt) :=
  Option.bind (fT_leave sT 21) fun y1 => Option.bind (tX9_mark_X5 sC y1 n) fun y2 => zg (zix n 10) <| some ((y2.1 + ((10 * (zA sC 8 n.toNatClampNeg)).toInt64)), y2.2)
set_option maxHeartbeats 4000000 in
set_option maxRecDepth 100000 in
theorem ctX5_mark_X5 {l : Launch} {G : zG} {o : Nat} {qC qT : Nat → Nat} {rC : Nat} {sC sT : zSt} {n : Int32} {out : Int64 × zSt} (h : tX5_mark_X5 sC sT n = some out) : Ct l G yX5_mark cX5_mark 1 (some .long) rmtX5_mark_X5 [.ref o] ([(o, .inr (5, [.int n, .ref (qC 0), .ref (qT 0)]))] ++ (wdC G qC rC sC ++ wdT G qT sT)) (some (.long out.1)) ([(o, .inr (5, [.int n, .ref (qC 0), .ref (qT 0)]))] ++ (wdC G qC rC sC ++ wdT G qT out.2)) := by
  refine zMet (own := RX5) rfl (by decide) (Nat.le_of_ble_eq_true rfl) (fun x hl C O => ?_)
  show zW x G 0 0 0 [(0, .ref o)] [] _
  unfold tX5_mark_X5 at h
  refine z_aload_n C dX5_mark_0 0 rfl ?_
  refine z_get C (Cn := RX5) (T := TX5) (N := 3) (ci := 5) (k := 2) inzX5 rfl (by decide) rw_u_811 (u_same (C.2.2.2.2.1 _ rw_u_812)) 0 rfl rfl dX5_mark_1 ?_
  refine z_bipush C 21 dX5_mark_4 (by decide) ?_
  obtain ⟨y1, hy1, h⟩ := bind_o h
  refine rw_c_X5_13 C (Ct.frame (cT_leave hy1) (w := [(o, .inr (5, [.int n, .ref (qC 0), .ref (qT 0)]))] ++ (wdC G qC rC sC ++ wdT G qT sT)) (w' := [(o, .inr (5, [.int n, .ref (qC 0), .ref (qT 0)]))] ++ (wdC G qC rC sC ++ wdT G qT y1)) (wr := [(o, .inr (5, [.int n, .ref (qC 0), .ref (qT 0)]))] ++ wdC G qC rC sC) [16, 17] [0, 1, 2, 3, 4, 5, 6, 7, 8, 9, 10, 11, 12, 13, 14, 15] [0, 1, 2, 3, 4, 5, 6, 7, 8, 9, 10, 11, 12, 13, 14, 15, 16, 17] rfl rfl rfl rfl (by decide) rfl rfl) 16 rfl dX5_mark_6 (Nat.le_of_ble_eq_true rfl) (zrm rfl) ?_
  refine z_aload_n C dX5_mark_9 0 rfl ?_
  obtain ⟨y2, hy2, h⟩ := bind_o h
  refine z_callSU C 0 (As := []) (rest := []) (x0 := ⟨"WhatWasHers$Thing", "mark", "()J"⟩) rw_u_914 rw_u_85 rw_u_912 rw_u_1434 rw_u_844 (Or.inl rfl) rw_u_913 rfl (by decide) (by decide +kernel) (T := TX5) (N := 3) rfl (ctX9_mark_X5 hy2) rfl 0 rfl dX5_mark_10 (Nat.le_of_ble_eq_true rfl) (zrm rfl) ?_
  refine z_bipush C 10 dX5_mark_13 (by decide) ?_
  refine z_aload_n C dX5_mark_15 0 rfl ?_
  refine z_get C (Cn := RX5) (T := TX5) (N := 3) (ci := 5) (k := 1) inzX5 rfl (by decide) rw_u_804 (u_same (C.2.2.2.2.1 _ rw_u_805)) 0 rfl rfl dX5_mark_16 ?_
  refine z_get C (Cn := RX2) (T := TX2) (N := 18) (ci := 2) (k := 8) inzX2 rfl (by decide) rw_u_230 (fun _ h => h) 1 rfl rfl dX5_mark_19 ?_
  refine z_aload_n C dX5_mark_22 0 rfl ?_
  refine z_get C (Cn := RX5) (T := TX5) (N := 3) (ci := 5) (k := 0) inzX5 rfl (by decide) rw_u_799 (u_same (C.2.2.2.2.1 _ rw_u_800)) 0 rfl rfl dX5_mark_23 ?_
  refine z_iald C 7 rfl dX5_mark_26 h (fun h => ?_)
  refine z_imul C dX5_mark_27 ?_
  refine z_i2l C dX5_mark_28 ?_
  refine z_ladd C dX5_mark_29 ?_
  replace h := Option.some.inj h
  subst h
  exact z_lret C O dX5_mark_30 rfl rfl
abbrev rmtX5_mark_X3 : Room := { frames := 2, cells := 0, slots := 0, locals := 41 }
def tX5_mark_X3 (sC sT : zSt) (n : Int32) : Option (Int64 × zSt) :=
  Option.bind (fT_leave sT 21) fun y1 => Option.bind (tX9_mark_X3 sC y1 n) fun y2 => zg (zix n 10) <| some ((y2.1 + ((10 * (zA sC 8 n.toNatClampNeg)).toInt64)), y2.2)
set_option maxHeartbeats 4000000 in
set_option maxRecDepth 100000 in
theorem ctX5_mark_X3 {l : Launch} {G : zG} {o : Nat} {qC qT : Nat → Nat} {rC : Nat} {sC sT : zSt} {n : Int32} {out : Int64 × zSt} (h : tX5_mark_X3 sC sT n = some out) : Ct l G yX5_mark cX5_mark 1 (some .long) rmtX5_mark_X3 [.ref o] ([(o, .inr (3, [.int n, .ref (qC 0), .ref (qT 0)]))] ++ (wdC G qC rC sC ++ wdT G qT sT)) (some (.long out.1)) ([(o, .inr (3, [.int n, .ref (qC 0), .ref (qT 0)]))] ++ (wdC G qC rC sC ++ wdT G qT out.2)) := by
  refine zMet (own := RX5) rfl (by decide) (Nat.le_of_ble_eq_true rfl) (fun x hl C O => ?_)
  show zW x G 0 0 0 [(0, .ref o)] [] _
  unfold tX5_mark_X3 at h
  refine z_aload_n C dX5_mark_0 0 rfl ?_
  refine z_get C (Cn := RX3) (T := TX3) (N := 3) (ci := 3) (k := 2) inzX3 rfl (by decide) rw_u_811 (u_same (C.2.2.2.2.1 _ rw_u_812)) 0 rfl rfl dX5_mark_1 ?_
  refine z_bipush C 21 dX5_mark_4 (by decide) ?_
  obtain ⟨y1, hy1, h⟩ := bind_o h
  refine rw_c_X5_13 C (Ct.frame (cT_leave hy1) (w := [(o, .inr (3, [.int n, .ref (qC 0), .ref (qT 0)]))] ++ (wdC G qC rC sC ++ wdT G qT sT)) (w' := [(o, .inr (3, [.int n, .ref (qC 0), .ref (qT 0)]))] ++ (wdC G qC rC sC ++ wdT G qT y1)) (wr := [(o, .inr (3, [.int n, .ref (qC 0), .ref (qT 0)]))] ++ wdC G qC rC sC) [16, 17] [0, 1, 2, 3, 4, 5, 6, 7, 8, 9, 10, 11, 12, 13, 14, 15] [0, 1, 2, 3, 4, 5, 6, 7, 8, 9, 10, 11, 12, 13, 14, 15, 16, 17] rfl rfl rfl rfl (by decide) rfl rfl) 16 rfl dX5_mark_6 (Nat.le_of_ble_eq_true rfl) (zrm rfl) ?_
  refine z_aload_n C dX5_mark_9 0 rfl ?_
  obtain ⟨y2, hy2, h⟩ := bind_o h
  refine z_callSU C 0 (As := []) (rest := []) (x0 := ⟨"WhatWasHers$Thing", "mark", "()J"⟩) rw_u_914 rw_u_85 rw_u_912 rw_u_1434 rw_u_844 (Or.inl rfl) rw_u_913 rfl (by decide) (by decide +kernel) (T := TX3) (N := 3) rfl (ctX9_mark_X3 hy2) rfl 0 rfl dX5_mark_10 (Nat.le_of_ble_eq_true rfl) (zrm rfl) ?_
  refine z_bipush C 10 dX5_mark_13 (by decide) ?_
  refine z_aload_n C dX5_mark_15 0 rfl ?_
  refine z_get C (Cn := RX3) (T := TX3) (N := 3) (ci := 3) (k := 1) inzX3 rfl (by decide) rw_u_804 (u_same (C.2.2.2.2.1 _ rw_u_805)) 0 rfl rfl dX5_mark_16 ?_
  refine z_get C (Cn := RX2) (T := TX2) (N := 18) (ci := 2) (k := 8) inzX2 rfl (by decide) rw_u_230 (fun _ h => h) 1 rfl rfl dX5_mark_19 ?_
  refine z_aload_n C dX5_mark_22 0 rfl ?_
  refine z_get C (Cn := RX3) (T := TX3) (N := 3) (ci := 3) (k := 0) inzX3 rfl (by decide) rw_u_799 (u_same (C.2.2.2.2.1 _ rw_u_800)) 0 rfl rfl dX5_mark_23 ?_
  refine z_iald C 7 rfl dX5_mark_26 h (fun h => ?_)
  refine z_imul C dX5_mark_27 ?_
  refine z_i2l C dX5_mark_28 ?_
  refine z_ladd C dX5_mark_29 ?_
  replace h := Option.some.inj h
  subst h
  exact z_lret C O dX5_mark_30 rfl rfl
abbrev rmtX5_mark_X0 : Room := { frames := 2, cells := 0, slots := 0, locals := 41 }
def tX5_mark_X0 (sC sT : zSt) (n : Int32) : Option (Int64 × zSt) :=
  Option.bind (fT_leave sT 21) fun y1 => Option.bind (tX9_mark_X0 sC y1 n) fun y2 => zg (zix n 10) <| some ((y2.1 + ((10 * (zA sC 8 n.toNatClampNeg)).toInt64)), y2.2)
set_option maxHeartbeats 4000000 in
set_option maxRecDepth 100000 in
theorem ctX5_mark_X0 {l : Launch} {G : zG} {o : Nat} {qC qT : Nat → Nat} {rC : Nat} {sC sT : zSt} {n : Int32} {out : Int64 × zSt} (h : tX5_mark_X0 sC sT n = some out) : Ct l G yX5_mark cX5_mark 1 (some .long) rmtX5_mark_X0 [.ref o] ([(o, .inr (0, [.int n, .ref (qC 0), .ref (qT 0)]))] ++ (wdC G qC rC sC ++ wdT G qT sT)) (some (.long out.1)) ([(o, .inr (0, [.int n, .ref (qC 0), .ref (qT 0)]))] ++ (wdC G qC rC sC ++ wdT G qT out.2)) := by
  refine zMet (own := RX5) rfl (by decide) (Nat.le_of_ble_eq_true rfl) (fun x hl C O => ?_)
  show zW x G 0 0 0 [(0, .ref o)] [] _
  unfold tX5_mark_X0 at h
  refine z_aload_n C dX5_mark_0 0 rfl ?_
  refine z_get C (Cn := RX0) (T := TX0) (N := 3) (ci := 0) (k := 2) inzX0 rfl (by decide) rw_u_811 (u_same (C.2.2.2.2.1 _ rw_u_812)) 0 rfl rfl dX5_mark_1 ?_
  refine z_bipush C 21 dX5_mark_4 (by decide) ?_
  obtain ⟨y1, hy1, h⟩ := bind_o h
  refine rw_c_X5_13 C (Ct.frame (cT_leave hy1) (w := [(o, .inr (0, [.int n, .ref (qC 0), .ref (qT 0)]))] ++ (wdC G qC rC sC ++ wdT G qT sT)) (w' := [(o, .inr (0, [.int n, .ref (qC 0), .ref (qT 0)]))] ++ (wdC G qC rC sC ++ wdT G qT y1)) (wr := [(o, .inr (0, [.int n, .ref (qC 0), .ref (qT 0)]))] ++ wdC G qC rC sC) [16, 17] [0, 1, 2, 3, 4, 5, 6, 7, 8, 9, 10, 11, 12, 13, 14, 15] [0, 1, 2, 3, 4, 5, 6, 7, 8, 9, 10, 11, 12, 13, 14, 15, 16, 17] rfl rfl rfl rfl (by decide) rfl rfl) 16 rfl dX5_mark_6 (Nat.le_of_ble_eq_true rfl) (zrm rfl) ?_
  refine z_aload_n C dX5_mark_9 0 rfl ?_
  obtain ⟨y2, hy2, h⟩ := bind_o h
  refine z_callSU C 0 (As := []) (rest := []) (x0 := ⟨"WhatWasHers$Thing", "mark", "()J"⟩) rw_u_914 rw_u_85 rw_u_912 rw_u_1434 rw_u_844 (Or.inl rfl) rw_u_913 rfl (by decide) (by decide +kernel) (T := TX0) (N := 3) rfl (ctX9_mark_X0 hy2) rfl 0 rfl dX5_mark_10 (Nat.le_of_ble_eq_true rfl) (zrm rfl) ?_
  refine z_bipush C 10 dX5_mark_13 (by decide) ?_
  refine z_aload_n C dX5_mark_15 0 rfl ?_
  refine z_get C (Cn := RX0) (T := TX0) (N := 3) (ci := 0) (k := 1) inzX0 rfl (by decide) rw_u_804 (u_same (C.2.2.2.2.1 _ rw_u_805)) 0 rfl rfl dX5_mark_16 ?_
  refine z_get C (Cn := RX2) (T := TX2) (N := 18) (ci := 2) (k := 8) inzX2 rfl (by decide) rw_u_230 (fun _ h => h) 1 rfl rfl dX5_mark_19 ?_
  refine z_aload_n C dX5_mark_22 0 rfl ?_
  refine z_get C (Cn := RX0) (T := TX0) (N := 3) (ci := 0) (k := 0) inzX0 rfl (by decide) rw_u_799 (u_same (C.2.2.2.2.1 _ rw_u_800)) 0 rfl rfl dX5_mark_23 ?_
  refine z_iald C 7 rfl dX5_mark_26 h (fun h => ?_)
  refine z_imul C dX5_mark_27 ?_
  refine z_i2l C dX5_mark_28 ?_
  refine z_ladd C dX5_mark_29 ?_
  replace h := Option.some.inj h
  subst h
  exact z_lret C O dX5_mark_30 rfl rfl
abbrev rmtX0_mark_X0 : Room := { frames := 3, cells := 0, slots := 0, locals := 61 }
def tX0_mark_X0 (sC sT : zSt) (n : Int32) : Option (Int64 × zSt) :=
  Option.bind (fT_leave sT 23) fun y1 => Option.bind (tX5_mark_X0 sC y1 n) fun y2 => some ((y2.1 + 100), y2.2)
set_option maxHeartbeats 4000000 in
set_option maxRecDepth 100000 in
theorem ctX0_mark_X0 {l : Launch} {G : zG} {o : Nat} {qC qT : Nat → Nat} {rC : Nat} {sC sT : zSt} {n : Int32} {out : Int64 × zSt} (h : tX0_mark_X0 sC sT n = some out) : Ct l G yX0_mark cX0_mark 1 (some .long) rmtX0_mark_X0 [.ref o] ([(o, .inr (0, [.int n, .ref (qC 0), .ref (qT 0)]))] ++ (wdC G qC rC sC ++ wdT G qT sT)) (some (.long out.1)) ([(o, .inr (0, [.int n, .ref (qC 0), .ref (qT 0)]))] ++ (wdC G qC rC sC ++ wdT G qT out.2)) := by
  refine zMet (own := RX0) rfl (by decide) (Nat.le_of_ble_eq_true rfl) (fun x hl C O => ?_)
  show zW x G 0 0 0 [(0, .ref o)] [] _
  unfold tX0_mark_X0 at h
  refine z_aload_n C dX0_mark_0 0 rfl ?_
  refine z_get C (Cn := RX0) (T := TX0) (N := 3) (ci := 0) (k := 2) inzX0 rfl (by decide) rw_u_807 (u_same (C.2.2.2.2.1 _ rw_u_808)) 0 rfl rfl dX0_mark_1 ?_
  refine z_bipush C 23 dX0_mark_4 (by decide) ?_
  obtain ⟨y1, hy1, h⟩ := bind_o h
  refine rw_c_X0_13 C (Ct.frame (cT_leave hy1) (w := [(o, .inr (0, [.int n, .ref (qC 0), .ref (qT 0)]))] ++ (wdC G qC rC sC ++ wdT G qT sT)) (w' := [(o, .inr (0, [.int n, .ref (qC 0), .ref (qT 0)]))] ++ (wdC G qC rC sC ++ wdT G qT y1)) (wr := [(o, .inr (0, [.int n, .ref (qC 0), .ref (qT 0)]))] ++ wdC G qC rC sC) [16, 17] [0, 1, 2, 3, 4, 5, 6, 7, 8, 9, 10, 11, 12, 13, 14, 15] [0, 1, 2, 3, 4, 5, 6, 7, 8, 9, 10, 11, 12, 13, 14, 15, 16, 17] rfl rfl rfl rfl (by decide) rfl rfl) 16 rfl dX0_mark_6 (Nat.le_of_ble_eq_true rfl) (zrm rfl) ?_
  refine z_aload_n C dX0_mark_9 0 rfl ?_
  obtain ⟨y2, hy2, h⟩ := bind_o h
  refine z_callSU C 0 (As := []) (rest := []) (x0 := ⟨"WhatWasHers$Fed", "mark", "()J"⟩) rw_u_911 rw_u_88 rw_u_906 rw_u_907 rw_u_857 (Or.inr rw_u_864) rw_u_900 rfl (by decide) (by decide +kernel) (T := TX0) (N := 3) rfl (ctX5_mark_X0 hy2) rfl 0 rfl dX0_mark_10 (Nat.le_of_ble_eq_true rfl) (zrm rfl) ?_
  refine z_ldc2 C rw_u_909 dX0_mark_13 ?_
  refine z_ladd C dX0_mark_16 ?_
  replace h := Option.some.inj h
  subst h
  exact z_lret C O dX0_mark_17 rfl rfl
abbrev rmtX5_size_X5 : Room := { frames := 3, cells := 0, slots := 0, locals := 61 }
def tX5_size_X5 (sC sT : zSt) (n : Int32) : Option (Int64 × zSt) :=
  Option.bind (fT_leave sT 11) fun y1 => Option.bind (tX9_size_X5 sC y1 n) fun y2 => Option.bind (tX5_mark_X5 sC y2.2 n) fun y3 => some ((y2.1 + y3.1), y3.2)
set_option maxHeartbeats 4000000 in
set_option maxRecDepth 100000 in
theorem ctX5_size_X5 {l : Launch} {G : zG} {o : Nat} {qC qT : Nat → Nat} {rC : Nat} {sC sT : zSt} {n : Int32} {out : Int64 × zSt} (h : tX5_size_X5 sC sT n = some out) : Ct l G yX5_size cX5_size 1 (some .long) rmtX5_size_X5 [.ref o] ([(o, .inr (5, [.int n, .ref (qC 0), .ref (qT 0)]))] ++ (wdC G qC rC sC ++ wdT G qT sT)) (some (.long out.1)) ([(o, .inr (5, [.int n, .ref (qC 0), .ref (qT 0)]))] ++ (wdC G qC rC sC ++ wdT G qT out.2)) := by
  refine zMet (own := RX5) rfl (by decide) (Nat.le_of_ble_eq_true rfl) (fun x hl C O => ?_)
  show zW x G 0 0 0 [(0, .ref o)] [] _
  unfold tX5_size_X5 at h
  refine z_aload_n C dX5_size_0 0 rfl ?_
  refine z_get C (Cn := RX5) (T := TX5) (N := 3) (ci := 5) (k := 2) inzX5 rfl (by decide) rw_u_811 (u_same (C.2.2.2.2.1 _ rw_u_812)) 0 rfl rfl dX5_size_1 ?_
  refine z_bipush C 11 dX5_size_4 (by decide) ?_
  obtain ⟨y1, hy1, h⟩ := bind_o h
  refine rw_c_X5_13 C (Ct.frame (cT_leave hy1) (w := [(o, .inr (5, [.int n, .ref (qC 0), .ref (qT 0)]))] ++ (wdC G qC rC sC ++ wdT G qT sT)) (w' := [(o, .inr (5, [.int n, .ref (qC 0), .ref (qT 0)]))] ++ (wdC G qC rC sC ++ wdT G qT y1)) (wr := [(o, .inr (5, [.int n, .ref (qC 0), .ref (qT 0)]))] ++ wdC G qC rC sC) [16, 17] [0, 1, 2, 3, 4, 5, 6, 7, 8, 9, 10, 11, 12, 13, 14, 15] [0, 1, 2, 3, 4, 5, 6, 7, 8, 9, 10, 11, 12, 13, 14, 15, 16, 17] rfl rfl rfl rfl (by decide) rfl rfl) 16 rfl dX5_size_6 (Nat.le_of_ble_eq_true rfl) (zrm rfl) ?_
  refine z_aload_n C dX5_size_9 0 rfl ?_
  obtain ⟨y2, hy2, h⟩ := bind_o h
  refine z_callSU C 0 (As := []) (rest := []) (x0 := ⟨"WhatWasHers$Thing", "size", "()J"⟩) rw_u_926 rw_u_85 rw_u_898 rw_u_882 rw_u_844 (Or.inl rfl) rw_u_881 rfl (by decide) (by decide +kernel) (T := TX5) (N := 3) rfl (ctX9_size_X5 hy2) rfl 0 rfl dX5_size_10 (Nat.le_of_ble_eq_true rfl) (zrm rfl) ?_
  refine z_aload_n C dX5_size_13 0 rfl ?_
  obtain ⟨y3, hy3, h⟩ := bind_o h
  refine z_callU C 0 (As := []) (rest := [.long y2.1]) (x0 := ⟨"WhatWasHers$Own", "mark", "()J"⟩) (owner := "WhatWasHers$Own") rw_u_911 rw_u_88 rw_u_899 rw_u_902 rw_u_900 rw_u_911 rw_u_900 rw_u_901 ⟨by decide, by decide, by decide +kernel⟩ (T := TX5) (N := 3) rfl (ctX5_mark_X5 hy3) rfl 0 rfl dX5_size_14 (Nat.le_of_ble_eq_true rfl) (zrm rfl) ?_
  refine z_ladd C dX5_size_17 ?_
  replace h := Option.some.inj h
  subst h
  exact z_lret C O dX5_size_18 rfl rfl
abbrev rmtX5_size_X3 : Room := { frames := 3, cells := 0, slots := 0, locals := 61 }
def tX5_size_X3 (sC sT : zSt) (n : Int32) : Option (Int64 × zSt) :=
  Option.bind (fT_leave sT 11) fun y1 => Option.bind (tX9_size_X3 sC y1 n) fun y2 => Option.bind (tX5_mark_X3 sC y2.2 n) fun y3 => some ((y2.1 + y3.1), y3.2)
set_option maxHeartbeats 4000000 in
set_option maxRecDepth 100000 in
theorem ctX5_size_X3 {l : Launch} {G : zG} {o : Nat} {qC qT : Nat → Nat} {rC : Nat} {sC sT : zSt} {n : Int32} {out : Int64 × zSt} (h : tX5_size_X3 sC sT n = some out) : Ct l G yX5_size cX5_size 1 (some .long) rmtX5_size_X3 [.ref o] ([(o, .inr (3, [.int n, .ref (qC 0), .ref (qT 0)]))] ++ (wdC G qC rC sC ++ wdT G qT sT)) (some (.long out.1)) ([(o, .inr (3, [.int n, .ref (qC 0), .ref (qT 0)]))] ++ (wdC G qC rC sC ++ wdT G qT out.2)) := by
  refine zMet (own := RX5) rfl (by decide) (Nat.le_of_ble_eq_true rfl) (fun x hl C O => ?_)
  show zW x G 0 0 0 [(0, .ref o)] [] _
  unfold tX5_size_X3 at h
  refine z_aload_n C dX5_size_0 0 rfl ?_
  refine z_get C (Cn := RX3) (T := TX3) (N := 3) (ci := 3) (k := 2) inzX3 rfl (by decide) rw_u_811 (u_same (C.2.2.2.2.1 _ rw_u_812)) 0 rfl rfl dX5_size_1 ?_
  refine z_bipush C 11 dX5_size_4 (by decide) ?_
  obtain ⟨y1, hy1, h⟩ := bind_o h
  refine rw_c_X5_13 C (Ct.frame (cT_leave hy1) (w := [(o, .inr (3, [.int n, .ref (qC 0), .ref (qT 0)]))] ++ (wdC G qC rC sC ++ wdT G qT sT)) (w' := [(o, .inr (3, [.int n, .ref (qC 0), .ref (qT 0)]))] ++ (wdC G qC rC sC ++ wdT G qT y1)) (wr := [(o, .inr (3, [.int n, .ref (qC 0), .ref (qT 0)]))] ++ wdC G qC rC sC) [16, 17] [0, 1, 2, 3, 4, 5, 6, 7, 8, 9, 10, 11, 12, 13, 14, 15] [0, 1, 2, 3, 4, 5, 6, 7, 8, 9, 10, 11, 12, 13, 14, 15, 16, 17] rfl rfl rfl rfl (by decide) rfl rfl) 16 rfl dX5_size_6 (Nat.le_of_ble_eq_true rfl) (zrm rfl) ?_
  refine z_aload_n C dX5_size_9 0 rfl ?_
  obtain ⟨y2, hy2, h⟩ := bind_o h
  refine z_callSU C 0 (As := []) (rest := []) (x0 := ⟨"WhatWasHers$Thing", "size", "()J"⟩) rw_u_926 rw_u_85 rw_u_898 rw_u_882 rw_u_844 (Or.inl rfl) rw_u_881 rfl (by decide) (by decide +kernel) (T := TX3) (N := 3) rfl (ctX9_size_X3 hy2) rfl 0 rfl dX5_size_10 (Nat.le_of_ble_eq_true rfl) (zrm rfl) ?_
  refine z_aload_n C dX5_size_13 0 rfl ?_
  obtain ⟨y3, hy3, h⟩ := bind_o h
  refine z_callU C 0 (As := []) (rest := [.long y2.1]) (x0 := ⟨"WhatWasHers$Own", "mark", "()J"⟩) (owner := "WhatWasHers$Own") rw_u_911 rw_u_88 rw_u_899 rw_u_902 rw_u_900 rw_u_911 rw_u_900 rw_u_910 ⟨by decide, by decide, by decide +kernel⟩ (T := TX3) (N := 3) rfl (ctX5_mark_X3 hy3) rfl 0 rfl dX5_size_14 (Nat.le_of_ble_eq_true rfl) (zrm rfl) ?_
  refine z_ladd C dX5_size_17 ?_
  replace h := Option.some.inj h
  subst h
  exact z_lret C O dX5_size_18 rfl rfl
abbrev rmtX5_size_X0 : Room := { frames := 4, cells := 0, slots := 0, locals := 81 }
def tX5_size_X0 (sC sT : zSt) (n : Int32) : Option (Int64 × zSt) :=
  Option.bind (fT_leave sT 11) fun y1 => Option.bind (tX9_size_X0 sC y1 n) fun y2 => Option.bind (tX0_mark_X0 sC y2.2 n) fun y3 => some ((y2.1 + y3.1), y3.2)
set_option maxHeartbeats 4000000 in
set_option maxRecDepth 100000 in
theorem ctX5_size_X0 {l : Launch} {G : zG} {o : Nat} {qC qT : Nat → Nat} {rC : Nat} {sC sT : zSt} {n : Int32} {out : Int64 × zSt} (h : tX5_size_X0 sC sT n = some out) : Ct l G yX5_size cX5_size 1 (some .long) rmtX5_size_X0 [.ref o] ([(o, .inr (0, [.int n, .ref (qC 0), .ref (qT 0)]))] ++ (wdC G qC rC sC ++ wdT G qT sT)) (some (.long out.1)) ([(o, .inr (0, [.int n, .ref (qC 0), .ref (qT 0)]))] ++ (wdC G qC rC sC ++ wdT G qT out.2)) := by
  refine zMet (own := RX5) rfl (by decide) (Nat.le_of_ble_eq_true rfl) (fun x hl C O => ?_)
  show zW x G 0 0 0 [(0, .ref o)] [] _
  unfold tX5_size_X0 at h
  refine z_aload_n C dX5_size_0 0 rfl ?_
  refine z_get C (Cn := RX0) (T := TX0) (N := 3) (ci := 0) (k := 2) inzX0 rfl (by decide) rw_u_811 (u_same (C.2.2.2.2.1 _ rw_u_812)) 0 rfl rfl dX5_size_1 ?_
  refine z_bipush C 11 dX5_size_4 (by decide) ?_
  obtain ⟨y1, hy1, h⟩ := bind_o h
  refine rw_c_X5_13 C (Ct.frame (cT_leave hy1) (w := [(o, .inr (0, [.int n, .ref (qC 0), .ref (qT 0)]))] ++ (wdC G qC rC sC ++ wdT G qT sT)) (w' := [(o, .inr (0, [.int n, .ref (qC 0), .ref (qT 0)]))] ++ (wdC G qC rC sC ++ wdT G qT y1)) (wr := [(o, .inr (0, [.int n, .ref (qC 0), .ref (qT 0)]))] ++ wdC G qC rC sC) [16, 17] [0, 1, 2, 3, 4, 5, 6, 7, 8, 9, 10, 11, 12, 13, 14, 15] [0, 1, 2, 3, 4, 5, 6, 7, 8, 9, 10, 11, 12, 13, 14, 15, 16, 17] rfl rfl rfl rfl (by decide) rfl rfl) 16 rfl dX5_size_6 (Nat.le_of_ble_eq_true rfl) (zrm rfl) ?_
  refine z_aload_n C dX5_size_9 0 rfl ?_
  obtain ⟨y2, hy2, h⟩ := bind_o h
  refine z_callSU C 0 (As := []) (rest := []) (x0 := ⟨"WhatWasHers$Thing", "size", "()J"⟩) rw_u_926 rw_u_85 rw_u_898 rw_u_882 rw_u_844 (Or.inl rfl) rw_u_881 rfl (by decide) (by decide +kernel) (T := TX0) (N := 3) rfl (ctX9_size_X0 hy2) rfl 0 rfl dX5_size_10 (Nat.le_of_ble_eq_true rfl) (zrm rfl) ?_
  refine z_aload_n C dX5_size_13 0 rfl ?_
  obtain ⟨y3, hy3, h⟩ := bind_o h
  refine z_callU C 0 (As := []) (rest := [.long y2.1]) (x0 := ⟨"WhatWasHers$Own", "mark", "()J"⟩) (owner := "WhatWasHers$Own") rw_u_905 rw_u_90 rw_u_899 rw_u_902 rw_u_900 rw_u_911 rw_u_904 rw_u_903 ⟨by decide, by decide, by decide +kernel⟩ (T := TX0) (N := 3) rfl (ctX0_mark_X0 hy3) rfl 0 rfl dX5_size_14 (Nat.le_of_ble_eq_true rfl) (zrm rfl) ?_
  refine z_ladd C dX5_size_17 ?_
  replace h := Option.some.inj h
  subst h
  exact z_lret C O dX5_size_18 rfl rfl
abbrev rmtX3_size_X3 : Room := { frames := 4, cells := 0, slots := 0, locals := 81 }
def tX3_size_X3 (sC sT : zSt) (n : Int32) : Option (Int64 × zSt) :=
  Option.bind (fT_leave sT 12) fun y1 => Option.bind (tX5_size_X3 sC y1 n) fun y2 => zg (zix n 10) <| some ((y2.1 - ((zA sC 12 n.toNatClampNeg).toInt64)), y2.2)
set_option maxHeartbeats 4000000 in
set_option maxRecDepth 100000 in
theorem ctX3_size_X3 {l : Launch} {G : zG} {o : Nat} {qC qT : Nat → Nat} {rC : Nat} {sC sT : zSt} {n : Int32} {out : Int64 × zSt} (h : tX3_size_X3 sC sT n = some out) : Ct l G yX3_size cX3_size 1 (some .long) rmtX3_size_X3 [.ref o] ([(o, .inr (3, [.int n, .ref (qC 0), .ref (qT 0)]))] ++ (wdC G qC rC sC ++ wdT G qT sT)) (some (.long out.1)) ([(o, .inr (3, [.int n, .ref (qC 0), .ref (qT 0)]))] ++ (wdC G qC rC sC ++ wdT G qT out.2)) := by
  refine zMet (own := RX3) rfl (by decide) (Nat.le_of_ble_eq_true rfl) (fun x hl C O => ?_)
  show zW x G 0 0 0 [(0, .ref o)] [] _
  unfold tX3_size_X3 at h
  refine z_aload_n C dX3_size_0 0 rfl ?_
  refine z_get C (Cn := RX3) (T := TX3) (N := 3) (ci := 3) (k := 2) inzX3 rfl (by decide) rw_u_809 (u_same (C.2.2.2.2.1 _ rw_u_810)) 0 rfl rfl dX3_size_1 ?_
  refine z_bipush C 12 dX3_size_4 (by decide) ?_
  obtain ⟨y1, hy1, h⟩ := bind_o h
  refine rw_c_X3_13 C (Ct.frame (cT_leave hy1) (w := [(o, .inr (3, [.int n, .ref (qC 0), .ref (qT 0)]))] ++ (wdC G qC rC sC ++ wdT G qT sT)) (w' := [(o, .inr (3, [.int n, .ref (qC 0), .ref (qT 0)]))] ++ (wdC G qC rC sC ++ wdT G qT y1)) (wr := [(o, .inr (3, [.int n, .ref (qC 0), .ref (qT 0)]))] ++ wdC G qC rC sC) [16, 17] [0, 1, 2, 3, 4, 5, 6, 7, 8, 9, 10, 11, 12, 13, 14, 15] [0, 1, 2, 3, 4, 5, 6, 7, 8, 9, 10, 11, 12, 13, 14, 15, 16, 17] rfl rfl rfl rfl (by decide) rfl rfl) 16 rfl dX3_size_6 (Nat.le_of_ble_eq_true rfl) (zrm rfl) ?_
  refine z_aload_n C dX3_size_9 0 rfl ?_
  obtain ⟨y2, hy2, h⟩ := bind_o h
  refine z_callSU C 0 (As := []) (rest := []) (x0 := ⟨"WhatWasHers$Own", "size", "()J"⟩) rw_u_896 rw_u_88 rw_u_894 rw_u_1433 rw_u_864 (Or.inl rfl) rw_u_895 rfl (by decide) (by decide +kernel) (T := TX3) (N := 3) rfl (ctX5_size_X3 hy2) rfl 0 rfl dX3_size_10 (Nat.le_of_ble_eq_true rfl) (zrm rfl) ?_
  refine z_aload_n C dX3_size_13 0 rfl ?_
  refine z_get C (Cn := RX3) (T := TX3) (N := 3) (ci := 3) (k := 1) inzX3 rfl (by decide) rw_u_802 (u_same (C.2.2.2.2.1 _ rw_u_803)) 0 rfl rfl dX3_size_14 ?_
  refine z_get C (Cn := RX2) (T := TX2) (N := 18) (ci := 2) (k := 12) inzX2 rfl (by decide) rw_u_242 (fun _ h => h) 1 rfl rfl dX3_size_17 ?_
  refine z_aload_n C dX3_size_20 0 rfl ?_
  refine z_get C (Cn := RX3) (T := TX3) (N := 3) (ci := 3) (k := 0) inzX3 rfl (by decide) rw_u_797 (u_same (C.2.2.2.2.1 _ rw_u_798)) 0 rfl rfl dX3_size_21 ?_
  refine z_iald C 11 rfl dX3_size_24 h (fun h => ?_)
  refine z_i2l C dX3_size_25 ?_
  refine z_lsub C dX3_size_26 ?_
  replace h := Option.some.inj h
  subst h
  exact z_lret C O dX3_size_27 rfl rfl
abbrev rmtX3_size_X0 : Room := { frames := 5, cells := 0, slots := 0, locals := 101 }
def tX3_size_X0 (sC sT : zSt) (n : Int32) : Option (Int64 × zSt) :=
  Option.bind (fT_leave sT 12) fun y1 => Option.bind (tX5_size_X0 sC y1 n) fun y2 => zg (zix n 10) <| some ((y2.1 - ((zA sC 12 n.toNatClampNeg).toInt64)), y2.2)
set_option maxHeartbeats 4000000 in
set_option maxRecDepth 100000 in
theorem ctX3_size_X0 {l : Launch} {G : zG} {o : Nat} {qC qT : Nat → Nat} {rC : Nat} {sC sT : zSt} {n : Int32} {out : Int64 × zSt} (h : tX3_size_X0 sC sT n = some out) : Ct l G yX3_size cX3_size 1 (some .long) rmtX3_size_X0 [.ref o] ([(o, .inr (0, [.int n, .ref (qC 0), .ref (qT 0)]))] ++ (wdC G qC rC sC ++ wdT G qT sT)) (some (.long out.1)) ([(o, .inr (0, [.int n, .ref (qC 0), .ref (qT 0)]))] ++ (wdC G qC rC sC ++ wdT G qT out.2)) := by
  refine zMet (own := RX3) rfl (by decide) (Nat.le_of_ble_eq_true rfl) (fun x hl C O => ?_)
  show zW x G 0 0 0 [(0, .ref o)] [] _
  unfold tX3_size_X0 at h
  refine z_aload_n C dX3_size_0 0 rfl ?_
  refine z_get C (Cn := RX0) (T := TX0) (N := 3) (ci := 0) (k := 2) inzX0 rfl (by decide) rw_u_809 (u_same (C.2.2.2.2.1 _ rw_u_810)) 0 rfl rfl dX3_size_1 ?_
  refine z_bipush C 12 dX3_size_4 (by decide) ?_
  obtain ⟨y1, hy1, h⟩ := bind_o h
  refine rw_c_X3_13 C (Ct.frame (cT_leave hy1) (w := [(o, .inr (0, [.int n, .ref (qC 0), .ref (qT 0)]))] ++ (wdC G qC rC sC ++ wdT G qT sT)) (w' := [(o, .inr (0, [.int n, .ref (qC 0), .ref (qT 0)]))] ++ (wdC G qC rC sC ++ wdT G qT y1)) (wr := [(o, .inr (0, [.int n, .ref (qC 0), .ref (qT 0)]))] ++ wdC G qC rC sC) [16, 17] [0, 1, 2, 3, 4, 5, 6, 7, 8, 9, 10, 11, 12, 13, 14, 15] [0, 1, 2, 3, 4, 5, 6, 7, 8, 9, 10, 11, 12, 13, 14, 15, 16, 17] rfl rfl rfl rfl (by decide) rfl rfl) 16 rfl dX3_size_6 (Nat.le_of_ble_eq_true rfl) (zrm rfl) ?_
  refine z_aload_n C dX3_size_9 0 rfl ?_
  obtain ⟨y2, hy2, h⟩ := bind_o h
  refine z_callSU C 0 (As := []) (rest := []) (x0 := ⟨"WhatWasHers$Own", "size", "()J"⟩) rw_u_896 rw_u_88 rw_u_894 rw_u_1433 rw_u_864 (Or.inl rfl) rw_u_895 rfl (by decide) (by decide +kernel) (T := TX0) (N := 3) rfl (ctX5_size_X0 hy2) rfl 0 rfl dX3_size_10 (Nat.le_of_ble_eq_true rfl) (zrm rfl) ?_
  refine z_aload_n C dX3_size_13 0 rfl ?_
  refine z_get C (Cn := RX0) (T := TX0) (N := 3) (ci := 0) (k := 1) inzX0 rfl (by decide) rw_u_802 (u_same (C.2.2.2.2.1 _ rw_u_803)) 0 rfl rfl dX3_size_14 ?_
  refine z_get C (Cn := RX2) (T := TX2) (N := 18) (ci := 2) (k := 12) inzX2 rfl (by decide) rw_u_242 (fun _ h => h) 1 rfl rfl dX3_size_17 ?_
  refine z_aload_n C dX3_size_20 0 rfl ?_
  refine z_get C (Cn := RX0) (T := TX0) (N := 3) (ci := 0) (k := 0) inzX0 rfl (by decide) rw_u_797 (u_same (C.2.2.2.2.1 _ rw_u_798)) 0 rfl rfl dX3_size_21 ?_
  refine z_iald C 11 rfl dX3_size_24 h (fun h => ?_)
  refine z_i2l C dX3_size_25 ?_
  refine z_lsub C dX3_size_26 ?_
  replace h := Option.some.inj h
  subst h
  exact z_lret C O dX3_size_27 rfl rfl
abbrev rmtX0_size_X0 : Room := { frames := 6, cells := 0, slots := 0, locals := 121 }
def tX0_size_X0 (sC sT : zSt) (n : Int32) : Option (Int64 × zSt) :=
  Option.bind (fT_leave sT 13) fun y1 => Option.bind (tX3_size_X0 sC y1 n) fun y2 => some ((y2.1 * 2), y2.2)
set_option maxHeartbeats 4000000 in
set_option maxRecDepth 100000 in
theorem ctX0_size_X0 {l : Launch} {G : zG} {o : Nat} {qC qT : Nat → Nat} {rC : Nat} {sC sT : zSt} {n : Int32} {out : Int64 × zSt} (h : tX0_size_X0 sC sT n = some out) : Ct l G yX0_size cX0_size 1 (some .long) rmtX0_size_X0 [.ref o] ([(o, .inr (0, [.int n, .ref (qC 0), .ref (qT 0)]))] ++ (wdC G qC rC sC ++ wdT G qT sT)) (some (.long out.1)) ([(o, .inr (0, [.int n, .ref (qC 0), .ref (qT 0)]))] ++ (wdC G qC rC sC ++ wdT G qT out.2)) := by
  refine zMet (own := RX0) rfl (by decide) (Nat.le_of_ble_eq_true rfl) (fun x hl C O => ?_)
  show zW x G 0 0 0 [(0, .ref o)] [] _
  unfold tX0_size_X0 at h
  refine z_aload_n C dX0_size_0 0 rfl ?_
  refine z_get C (Cn := RX0) (T := TX0) (N := 3) (ci := 0) (k := 2) inzX0 rfl (by decide) rw_u_807 (u_same (C.2.2.2.2.1 _ rw_u_808)) 0 rfl rfl dX0_size_1 ?_
  refine z_bipush C 13 dX0_size_4 (by decide) ?_
  obtain ⟨y1, hy1, h⟩ := bind_o h
  refine rw_c_X0_13 C (Ct.frame (cT_leave hy1) (w := [(o, .inr (0, [.int n, .ref (qC 0), .ref (qT 0)]))] ++ (wdC G qC rC sC ++ wdT G qT sT)) (w' := [(o, .inr (0, [.int n, .ref (qC 0), .ref (qT 0)]))] ++ (wdC G qC rC sC ++ wdT G qT y1)) (wr := [(o, .inr (0, [.int n, .ref (qC 0), .ref (qT 0)]))] ++ wdC G qC rC sC) [16, 17] [0, 1, 2, 3, 4, 5, 6, 7, 8, 9, 10, 11, 12, 13, 14, 15] [0, 1, 2, 3, 4, 5, 6, 7, 8, 9, 10, 11, 12, 13, 14, 15, 16, 17] rfl rfl rfl rfl (by decide) rfl rfl) 16 rfl dX0_size_6 (Nat.le_of_ble_eq_true rfl) (zrm rfl) ?_
  refine z_aload_n C dX0_size_9 0 rfl ?_
  obtain ⟨y2, hy2, h⟩ := bind_o h
  refine z_callSU C 0 (As := []) (rest := []) (x0 := ⟨"WhatWasHers$Fed", "size", "()J"⟩) rw_u_892 rw_u_89 rw_u_890 rw_u_1432 rw_u_857 (Or.inl rfl) rw_u_891 rfl (by decide) (by decide +kernel) (T := TX0) (N := 3) rfl (ctX3_size_X0 hy2) rfl 0 rfl dX0_size_10 (Nat.le_of_ble_eq_true rfl) (zrm rfl) ?_
  refine z_ldc2 C rw_u_916 dX0_size_13 ?_
  refine z_lmul C dX0_size_16 ?_
  replace h := Option.some.inj h
  subst h
  exact z_lret C O dX0_size_17 rfl rfl
abbrev rmtX1_size_X1 : Room := { frames := 2, cells := 0, slots := 0, locals := 41 }
def tX1_size_X1 (sC sT : zSt) (n : Int32) : Option (Int64 × zSt) :=
  Option.bind (fT_leave sT 14) fun y1 => Option.bind (tX9_size_X1 sC y1 n) fun y2 => some ((y2.1 * 3), y2.2)
set_option maxHeartbeats 4000000 in
set_option maxRecDepth 100000 in
theorem ctX1_size_X1 {l : Launch} {G : zG} {o : Nat} {qC qT : Nat → Nat} {rC : Nat} {sC sT : zSt} {n : Int32} {out : Int64 × zSt} (h : tX1_size_X1 sC sT n = some out) : Ct l G yX1_size cX1_size 1 (some .long) rmtX1_size_X1 [.ref o] ([(o, .inr (1, [.int n, .ref (qC 0), .ref (qT 0)]))] ++ (wdC G qC rC sC ++ wdT G qT sT)) (some (.long out.1)) ([(o, .inr (1, [.int n, .ref (qC 0), .ref (qT 0)]))] ++ (wdC G qC rC sC ++ wdT G qT out.2)) := by
  refine zMet (own := RX1) rfl (by decide) (Nat.le_of_ble_eq_true rfl) (fun x hl C O => ?_)
  show zW x G 0 0 0 [(0, .ref o)] [] _
  unfold tX1_size_X1 at h
  refine z_aload_n C dX1_size_0 0 rfl ?_
  refine z_get C (Cn := RX1) (T := TX1) (N := 3) (ci := 1) (k := 2) inzX1 rfl (by decide) rw_u_813 (u_same (C.2.2.2.2.1 _ rw_u_814)) 0 rfl rfl dX1_size_1 ?_
  refine z_bipush C 14 dX1_size_4 (by decide) ?_
  obtain ⟨y1, hy1, h⟩ := bind_o h
  refine rw_c_X1_13 C (Ct.frame (cT_leave hy1) (w := [(o, .inr (1, [.int n, .ref (qC 0), .ref (qT 0)]))] ++ (wdC G qC rC sC ++ wdT G qT sT)) (w' := [(o, .inr (1, [.int n, .ref (qC 0), .ref (qT 0)]))] ++ (wdC G qC rC sC ++ wdT G qT y1)) (wr := [(o, .inr (1, [.int n, .ref (qC 0), .ref (qT 0)]))] ++ wdC G qC rC sC) [16, 17] [0, 1, 2, 3, 4, 5, 6, 7, 8, 9, 10, 11, 12, 13, 14, 15] [0, 1, 2, 3, 4, 5, 6, 7, 8, 9, 10, 11, 12, 13, 14, 15, 16, 17] rfl rfl rfl rfl (by decide) rfl rfl) 16 rfl dX1_size_6 (Nat.le_of_ble_eq_true rfl) (zrm rfl) ?_
  refine z_aload_n C dX1_size_9 0 rfl ?_
  obtain ⟨y2, hy2, h⟩ := bind_o h
  refine z_callSU C 0 (As := []) (rest := []) (x0 := ⟨"WhatWasHers$Thing", "size", "()J"⟩) rw_u_926 rw_u_85 rw_u_921 rw_u_882 rw_u_830 (Or.inl rfl) rw_u_881 rfl (by decide) (by decide +kernel) (T := TX1) (N := 3) rfl (ctX9_size_X1 hy2) rfl 0 rfl dX1_size_10 (Nat.le_of_ble_eq_true rfl) (zrm rfl) ?_
  refine z_ldc2 C rw_u_922 dX1_size_13 ?_
  refine z_lmul C dX1_size_16 ?_
  replace h := Option.some.inj h
  subst h
  exact z_lret C O dX1_size_17 rfl rfl
abbrev rmtX1_size_X4 : Room := { frames := 2, cells := 0, slots := 0, locals := 41 }
def tX1_size_X4 (sC sT : zSt) (n : Int32) : Option (Int64 × zSt) :=
  Option.bind (fT_leave sT 14) fun y1 => Option.bind (tX9_size_X4 sC y1 n) fun y2 => some ((y2.1 * 3), y2.2)
set_option maxHeartbeats 4000000 in
set_option maxRecDepth 100000 in
theorem ctX1_size_X4 {l : Launch} {G : zG} {o : Nat} {qC qT : Nat → Nat} {rC : Nat} {sC sT : zSt} {n : Int32} {out : Int64 × zSt} (h : tX1_size_X4 sC sT n = some out) : Ct l G yX1_size cX1_size 1 (some .long) rmtX1_size_X4 [.ref o] ([(o, .inr (4, [.int n, .ref (qC 0), .ref (qT 0)]))] ++ (wdC G qC rC sC ++ wdT G qT sT)) (some (.long out.1)) ([(o, .inr (4, [.int n, .ref (qC 0), .ref (qT 0)]))] ++ (wdC G qC rC sC ++ wdT G qT out.2)) := by
  refine zMet (own := RX1) rfl (by decide) (Nat.le_of_ble_eq_true rfl) (fun x hl C O => ?_)
  show zW x G 0 0 0 [(0, .ref o)] [] _
  unfold tX1_size_X4 at h
  refine z_aload_n C dX1_size_0 0 rfl ?_
  refine z_get C (Cn := RX4) (T := TX4) (N := 3) (ci := 4) (k := 2) inzX4 rfl (by decide) rw_u_813 (u_same (C.2.2.2.2.1 _ rw_u_814)) 0 rfl rfl dX1_size_1 ?_
  refine z_bipush C 14 dX1_size_4 (by decide) ?_
  obtain ⟨y1, hy1, h⟩ := bind_o h
  refine rw_c_X1_13 C (Ct.frame (cT_leave hy1) (w := [(o, .inr (4, [.int n, .ref (qC 0), .ref (qT 0)]))] ++ (wdC G qC rC sC ++ wdT G qT sT)) (w' := [(o, .inr (4, [.int n, .ref (qC 0), .ref (qT 0)]))] ++ (wdC G qC rC sC ++ wdT G qT y1)) (wr := [(o, .inr (4, [.int n, .ref (qC 0), .ref (qT 0)]))] ++ wdC G qC rC sC) [16, 17] [0, 1, 2, 3, 4, 5, 6, 7, 8, 9, 10, 11, 12, 13, 14, 15] [0, 1, 2, 3, 4, 5, 6, 7, 8, 9, 10, 11, 12, 13, 14, 15, 16, 17] rfl rfl rfl rfl (by decide) rfl rfl) 16 rfl dX1_size_6 (Nat.le_of_ble_eq_true rfl) (zrm rfl) ?_
  refine z_aload_n C dX1_size_9 0 rfl ?_
  obtain ⟨y2, hy2, h⟩ := bind_o h
  refine z_callSU C 0 (As := []) (rest := []) (x0 := ⟨"WhatWasHers$Thing", "size", "()J"⟩) rw_u_926 rw_u_85 rw_u_921 rw_u_882 rw_u_830 (Or.inl rfl) rw_u_881 rfl (by decide) (by decide +kernel) (T := TX4) (N := 3) rfl (ctX9_size_X4 hy2) rfl 0 rfl dX1_size_10 (Nat.le_of_ble_eq_true rfl) (zrm rfl) ?_
  refine z_ldc2 C rw_u_922 dX1_size_13 ?_
  refine z_lmul C dX1_size_16 ?_
  replace h := Option.some.inj h
  subst h
  exact z_lret C O dX1_size_17 rfl rfl
abbrev rmtX4_mark_X4 : Room := { frames := 3, cells := 0, slots := 0, locals := 61 }
def tX4_mark_X4 (sC sT : zSt) (n : Int32) : Option (Int64 × zSt) :=
  Option.bind (fT_leave sT 22) fun y1 => Option.bind (tX9_mark_X4 sC y1 n) fun y2 => Option.bind (tX1_size_X4 sC y2.2 n) fun y3 => some ((y2.1 + y3.1), y3.2)
set_option maxHeartbeats 4000000 in
set_option maxRecDepth 100000 in
theorem ctX4_mark_X4 {l : Launch} {G : zG} {o : Nat} {qC qT : Nat → Nat} {rC : Nat} {sC sT : zSt} {n : Int32} {out : Int64 × zSt} (h : tX4_mark_X4 sC sT n = some out) : Ct l G yX4_mark cX4_mark 1 (some .long) rmtX4_mark_X4 [.ref o] ([(o, .inr (4, [.int n, .ref (qC 0), .ref (qT 0)]))] ++ (wdC G qC rC sC ++ wdT G qT sT)) (some (.long out.1)) ([(o, .inr (4, [.int n, .ref (qC 0), .ref (qT 0)]))] ++ (wdC G qC rC sC ++ wdT G qT out.2)) := by
  refine zMet (own := RX4) rfl (by decide) (Nat.le_of_ble_eq_true rfl) (fun x hl C O => ?_)
  show zW x G 0 0 0 [(0, .ref o)] [] _
  unfold tX4_mark_X4 at h
  refine z_aload_n C dX4_mark_0 0 rfl ?_
  refine z_get C (Cn := RX4) (T := TX4) (N := 3) (ci := 4) (k := 2) inzX4 rfl (by decide) rw_u_815 (u_same (C.2.2.2.2.1 _ rw_u_816)) 0 rfl rfl dX4_mark_1 ?_
  refine z_bipush C 22 dX4_mark_4 (by decide) ?_
  obtain ⟨y1, hy1, h⟩ := bind_o h
  refine rw_c_X4_13 C (Ct.frame (cT_leave hy1) (w := [(o, .inr (4, [.int n, .ref (qC 0), .ref (qT 0)]))] ++ (wdC G qC rC sC ++ wdT G qT sT)) (w' := [(o, .inr (4, [.int n, .ref (qC 0), .ref (qT 0)]))] ++ (wdC G qC rC sC ++ wdT G qT y1)) (wr := [(o, .inr (4, [.int n, .ref (qC 0), .ref (qT 0)]))] ++ wdC G qC rC sC) [16, 17] [0, 1, 2, 3, 4, 5, 6, 7, 8, 9, 10, 11, 12, 13, 14, 15] [0, 1, 2, 3, 4, 5, 6, 7, 8, 9, 10, 11, 12, 13, 14, 15, 16, 17] rfl rfl rfl rfl (by decide) rfl rfl) 16 rfl dX4_mark_6 (Nat.le_of_ble_eq_true rfl) (zrm rfl) ?_
  refine z_aload_n C dX4_mark_9 0 rfl ?_
  obtain ⟨y2, hy2, h⟩ := bind_o h
  refine z_callSU C 0 (As := []) (rest := []) (x0 := ⟨"WhatWasHers$Common", "mark", "()J"⟩) rw_u_914 rw_u_85 rw_u_931 rw_u_932 rw_u_823 (Or.inr rw_u_830) rw_u_913 rfl (by decide) (by decide +kernel) (T := TX4) (N := 3) rfl (ctX9_mark_X4 hy2) rfl 0 rfl dX4_mark_10 (Nat.le_of_ble_eq_true rfl) (zrm rfl) ?_
  refine z_aload_n C dX4_mark_13 0 rfl ?_
  obtain ⟨y3, hy3, h⟩ := bind_o h
  refine z_callU C 0 (As := []) (rest := [.long y2.1]) (x0 := ⟨"WhatWasHers$Made", "size", "()J"⟩) (owner := "WhatWasHers$Common") rw_u_919 rw_u_86 rw_u_934 rw_u_935 rw_u_918 rw_u_919 rw_u_918 rw_u_937 ⟨by decide, by decide, by decide +kernel⟩ (T := TX4) (N := 3) rfl (ctX1_size_X4 hy3) rfl 0 rfl dX4_mark_14 (Nat.le_of_ble_eq_true rfl) (zrm rfl) ?_
  refine z_ladd C dX4_mark_17 ?_
  replace h := Option.some.inj h
  subst h
  exact z_lret C O dX4_mark_18 rfl rfl
abbrev rmtX9_init_X5 : Room := { frames := 1, cells := 0, slots := 0, locals := 12 }
set_option maxHeartbeats 4000000 in
set_option maxRecDepth 100000 in
theorem ctX9_init_X5 {l : Launch} {G : zG} {o a2 a3 : Nat} {n : Int32} : Ctr l G yX9_init cX9_init 4 none rmtX9_init_X5 [.ref o, .int n, .ref a2, .ref a3] [(o, .inr (5, [.int 0, .null, .null]))] (fun _ : Unit => none) (fun _ => [(o, .inr (5, [.int n, .ref a2, .ref a3]))]) := by
  refine zMetr (own := RX9) rfl (by decide) (Nat.le_of_ble_eq_true rfl) (fun x hl C hnm O => ?_)
  show zW x G 0 0 0 [(0, .ref o), (1, .int n), (2, .ref a2), (3, .ref a3)] [] _
  refine z_aload_n C dX9_init_0 0 rfl ?_
  refine z_objInit C rw_u_795 rw_u_97 rw_u_98 dX9_init_1 (Nat.le_of_ble_eq_true rfl) (Nat.le_of_ble_eq_true rfl) ?_
  refine z_aload_n C dX9_init_4 0 rfl ?_
  refine z_iload_n C dX9_init_5 1 rfl ?_
  refine z_putF C hnm (Cn := RX5) (T := TX5) (N := 3) (ci := 5) (k := 0) (ty := .int) (w' := [(o, .inr (5, [.int n, .null, .null]))]) inzX5 tyX5 tyX5_ok nmX5 rfl (by decide) rw_u_796 (fun _ h => h) rfl rfl 0 rfl (by decide +kernel) rfl rfl (Nat.le_of_ble_eq_true rfl) rfl dX9_init_6 ?_
  refine z_aload_n C dX9_init_9 0 rfl ?_
  refine z_aload_n C dX9_init_10 2 rfl ?_
  refine z_putF C hnm (Cn := RX5) (T := TX5) (N := 3) (ci := 5) (k := 1) (ty := (.object "WhatWasHers$Course")) (w' := [(o, .inr (5, [.int n, .ref a2, .null]))]) inzX5 tyX5 tyX5_ok nmX5 rfl (by decide) rw_u_801 (fun _ h => h) rfl rfl 0 rfl (by decide +kernel) rfl rfl (Nat.le_of_ble_eq_true rfl) rfl dX9_init_11 ?_
  refine z_aload_n C dX9_init_14 0 rfl ?_
  refine z_aload_n C dX9_init_15 3 rfl ?_
  refine z_putF C hnm (Cn := RX5) (T := TX5) (N := 3) (ci := 5) (k := 2) (ty := (.object "WhatWasHers$Trace")) (w' := [(o, .inr (5, [.int n, .ref a2, .ref a3]))]) inzX5 tyX5 tyX5_ok nmX5 rfl (by decide) rw_u_806 (fun _ h => h) rfl rfl 0 rfl (by decide +kernel) rfl rfl (Nat.le_of_ble_eq_true rfl) rfl dX9_init_16 ?_
  exact z_vret1 C O dX9_init_19 () rfl rfl
abbrev rmtX9_init_X3 : Room := { frames := 1, cells := 0, slots := 0, locals := 12 }
set_option maxHeartbeats 4000000 in
set_option maxRecDepth 100000 in
theorem ctX9_init_X3 {l : Launch} {G : zG} {o a2 a3 : Nat} {n : Int32} : Ctr l G yX9_init cX9_init 4 none rmtX9_init_X3 [.ref o, .int n, .ref a2, .ref a3] [(o, .inr (3, [.int 0, .null, .null]))] (fun _ : Unit => none) (fun _ => [(o, .inr (3, [.int n, .ref a2, .ref a3]))]) := by
  refine zMetr (own := RX9) rfl (by decide) (Nat.le_of_ble_eq_true rfl) (fun x hl C hnm O => ?_)
  show zW x G 0 0 0 [(0, .ref o), (1, .int n), (2, .ref a2), (3, .ref a3)] [] _
  refine z_aload_n C dX9_init_0 0 rfl ?_
  refine z_objInit C rw_u_795 rw_u_97 rw_u_98 dX9_init_1 (Nat.le_of_ble_eq_true rfl) (Nat.le_of_ble_eq_true rfl) ?_
  refine z_aload_n C dX9_init_4 0 rfl ?_
  refine z_iload_n C dX9_init_5 1 rfl ?_
  refine z_putF C hnm (Cn := RX3) (T := TX3) (N := 3) (ci := 3) (k := 0) (ty := .int) (w' := [(o, .inr (3, [.int n, .null, .null]))]) inzX3 tyX3 tyX3_ok nmX3 rfl (by decide) rw_u_796 (fun _ h => h) rfl rfl 0 rfl (by decide +kernel) rfl rfl (Nat.le_of_ble_eq_true rfl) rfl dX9_init_6 ?_
  refine z_aload_n C dX9_init_9 0 rfl ?_
  refine z_aload_n C dX9_init_10 2 rfl ?_
  refine z_putF C hnm (Cn := RX3) (T := TX3) (N := 3) (ci := 3) (k := 1) (ty := (.object "WhatWasHers$Course")) (w' := [(o, .inr (3, [.int n, .ref a2, .null]))]) inzX3 tyX3 tyX3_ok nmX3 rfl (by decide) rw_u_801 (fun _ h => h) rfl rfl 0 rfl (by decide +kernel) rfl rfl (Nat.le_of_ble_eq_true rfl) rfl dX9_init_11 ?_
  refine z_aload_n C dX9_init_14 0 rfl ?_
  refine z_aload_n C dX9_init_15 3 rfl ?_
  refine z_putF C hnm (Cn := RX3) (T := TX3) (N := 3) (ci := 3) (k := 2) (ty := (.object "WhatWasHers$Trace")) (w' := [(o, .inr (3, [.int n, .ref a2, .ref a3]))]) inzX3 tyX3 tyX3_ok nmX3 rfl (by decide) rw_u_806 (fun _ h => h) rfl rfl 0 rfl (by decide +kernel) rfl rfl (Nat.le_of_ble_eq_true rfl) rfl dX9_init_16 ?_
  exact z_vret1 C O dX9_init_19 () rfl rfl
abbrev rmtX9_init_X0 : Room := { frames := 1, cells := 0, slots := 0, locals := 12 }
set_option maxHeartbeats 4000000 in
set_option maxRecDepth 100000 in
theorem ctX9_init_X0 {l : Launch} {G : zG} {o a2 a3 : Nat} {n : Int32} : Ctr l G yX9_init cX9_init 4 none rmtX9_init_X0 [.ref o, .int n, .ref a2, .ref a3] [(o, .inr (0, [.int 0, .null, .null]))] (fun _ : Unit => none) (fun _ => [(o, .inr (0, [.int n, .ref a2, .ref a3]))]) := by
  refine zMetr (own := RX9) rfl (by decide) (Nat.le_of_ble_eq_true rfl) (fun x hl C hnm O => ?_)
  show zW x G 0 0 0 [(0, .ref o), (1, .int n), (2, .ref a2), (3, .ref a3)] [] _
  refine z_aload_n C dX9_init_0 0 rfl ?_
  refine z_objInit C rw_u_795 rw_u_97 rw_u_98 dX9_init_1 (Nat.le_of_ble_eq_true rfl) (Nat.le_of_ble_eq_true rfl) ?_
  refine z_aload_n C dX9_init_4 0 rfl ?_
  refine z_iload_n C dX9_init_5 1 rfl ?_
  refine z_putF C hnm (Cn := RX0) (T := TX0) (N := 3) (ci := 0) (k := 0) (ty := .int) (w' := [(o, .inr (0, [.int n, .null, .null]))]) inzX0 tyX0 tyX0_ok nmX0 rfl (by decide) rw_u_796 (fun _ h => h) rfl rfl 0 rfl (by decide +kernel) rfl rfl (Nat.le_of_ble_eq_true rfl) rfl dX9_init_6 ?_
  refine z_aload_n C dX9_init_9 0 rfl ?_
  refine z_aload_n C dX9_init_10 2 rfl ?_
  refine z_putF C hnm (Cn := RX0) (T := TX0) (N := 3) (ci := 0) (k := 1) (ty := (.object "WhatWasHers$Course")) (w' := [(o, .inr (0, [.int n, .ref a2, .null]))]) inzX0 tyX0 tyX0_ok nmX0 rfl (by decide) rw_u_801 (fun _ h => h) rfl rfl 0 rfl (by decide +kernel) rfl rfl (Nat.le_of_ble_eq_true rfl) rfl dX9_init_11 ?_
  refine z_aload_n C dX9_init_14 0 rfl ?_
  refine z_aload_n C dX9_init_15 3 rfl ?_
  refine z_putF C hnm (Cn := RX0) (T := TX0) (N := 3) (ci := 0) (k := 2) (ty := (.object "WhatWasHers$Trace")) (w' := [(o, .inr (0, [.int n, .ref a2, .ref a3]))]) inzX0 tyX0 tyX0_ok nmX0 rfl (by decide) rw_u_806 (fun _ h => h) rfl rfl 0 rfl (by decide +kernel) rfl rfl (Nat.le_of_ble_eq_true rfl) rfl dX9_init_16 ?_
  exact z_vret1 C O dX9_init_19 () rfl rfl
abbrev rmtX9_init_X1 : Room := { frames := 1, cells := 0, slots := 0, locals := 12 }
set_option maxHeartbeats 4000000 in
set_option maxRecDepth 100000 in
theorem ctX9_init_X1 {l : Launch} {G : zG} {o a2 a3 : Nat} {n : Int32} : Ctr l G yX9_init cX9_init 4 none rmtX9_init_X1 [.ref o, .int n, .ref a2, .ref a3] [(o, .inr (1, [.int 0, .null, .null]))] (fun _ : Unit => none) (fun _ => [(o, .inr (1, [.int n, .ref a2, .ref a3]))]) := by
  refine zMetr (own := RX9) rfl (by decide) (Nat.le_of_ble_eq_true rfl) (fun x hl C hnm O => ?_)
  show zW x G 0 0 0 [(0, .ref o), (1, .int n), (2, .ref a2), (3, .ref a3)] [] _
  refine z_aload_n C dX9_init_0 0 rfl ?_
  refine z_objInit C rw_u_795 rw_u_97 rw_u_98 dX9_init_1 (Nat.le_of_ble_eq_true rfl) (Nat.le_of_ble_eq_true rfl) ?_
  refine z_aload_n C dX9_init_4 0 rfl ?_
  refine z_iload_n C dX9_init_5 1 rfl ?_
  refine z_putF C hnm (Cn := RX1) (T := TX1) (N := 3) (ci := 1) (k := 0) (ty := .int) (w' := [(o, .inr (1, [.int n, .null, .null]))]) inzX1 tyX1 tyX1_ok nmX1 rfl (by decide) rw_u_796 (fun _ h => h) rfl rfl 0 rfl (by decide +kernel) rfl rfl (Nat.le_of_ble_eq_true rfl) rfl dX9_init_6 ?_
  refine z_aload_n C dX9_init_9 0 rfl ?_
  refine z_aload_n C dX9_init_10 2 rfl ?_
  refine z_putF C hnm (Cn := RX1) (T := TX1) (N := 3) (ci := 1) (k := 1) (ty := (.object "WhatWasHers$Course")) (w' := [(o, .inr (1, [.int n, .ref a2, .null]))]) inzX1 tyX1 tyX1_ok nmX1 rfl (by decide) rw_u_801 (fun _ h => h) rfl rfl 0 rfl (by decide +kernel) rfl rfl (Nat.le_of_ble_eq_true rfl) rfl dX9_init_11 ?_
  refine z_aload_n C dX9_init_14 0 rfl ?_
  refine z_aload_n C dX9_init_15 3 rfl ?_
  refine z_putF C hnm (Cn := RX1) (T := TX1) (N := 3) (ci := 1) (k := 2) (ty := (.object "WhatWasHers$Trace")) (w' := [(o, .inr (1, [.int n, .ref a2, .ref a3]))]) inzX1 tyX1 tyX1_ok nmX1 rfl (by decide) rw_u_806 (fun _ h => h) rfl rfl 0 rfl (by decide +kernel) rfl rfl (Nat.le_of_ble_eq_true rfl) rfl dX9_init_16 ?_
  exact z_vret1 C O dX9_init_19 () rfl rfl
abbrev rmtX9_init_X4 : Room := { frames := 1, cells := 0, slots := 0, locals := 12 }
set_option maxHeartbeats 4000000 in
set_option maxRecDepth 100000 in
theorem ctX9_init_X4 {l : Launch} {G : zG} {o a2 a3 : Nat} {n : Int32} : Ctr l G yX9_init cX9_init 4 none rmtX9_init_X4 [.ref o, .int n, .ref a2, .ref a3] [(o, .inr (4, [.int 0, .null, .null]))] (fun _ : Unit => none) (fun _ => [(o, .inr (4, [.int n, .ref a2, .ref a3]))]) := by
  refine zMetr (own := RX9) rfl (by decide) (Nat.le_of_ble_eq_true rfl) (fun x hl C hnm O => ?_)
  show zW x G 0 0 0 [(0, .ref o), (1, .int n), (2, .ref a2), (3, .ref a3)] [] _
  refine z_aload_n C dX9_init_0 0 rfl ?_
  refine z_objInit C rw_u_795 rw_u_97 rw_u_98 dX9_init_1 (Nat.le_of_ble_eq_true rfl) (Nat.le_of_ble_eq_true rfl) ?_
  refine z_aload_n C dX9_init_4 0 rfl ?_
  refine z_iload_n C dX9_init_5 1 rfl ?_
  refine z_putF C hnm (Cn := RX4) (T := TX4) (N := 3) (ci := 4) (k := 0) (ty := .int) (w' := [(o, .inr (4, [.int n, .null, .null]))]) inzX4 tyX4 tyX4_ok nmX4 rfl (by decide) rw_u_796 (fun _ h => h) rfl rfl 0 rfl (by decide +kernel) rfl rfl (Nat.le_of_ble_eq_true rfl) rfl dX9_init_6 ?_
  refine z_aload_n C dX9_init_9 0 rfl ?_
  refine z_aload_n C dX9_init_10 2 rfl ?_
  refine z_putF C hnm (Cn := RX4) (T := TX4) (N := 3) (ci := 4) (k := 1) (ty := (.object "WhatWasHers$Course")) (w' := [(o, .inr (4, [.int n, .ref a2, .null]))]) inzX4 tyX4 tyX4_ok nmX4 rfl (by decide) rw_u_801 (fun _ h => h) rfl rfl 0 rfl (by decide +kernel) rfl rfl (Nat.le_of_ble_eq_true rfl) rfl dX9_init_11 ?_
  refine z_aload_n C dX9_init_14 0 rfl ?_
  refine z_aload_n C dX9_init_15 3 rfl ?_
  refine z_putF C hnm (Cn := RX4) (T := TX4) (N := 3) (ci := 4) (k := 2) (ty := (.object "WhatWasHers$Trace")) (w' := [(o, .inr (4, [.int n, .ref a2, .ref a3]))]) inzX4 tyX4 tyX4_ok nmX4 rfl (by decide) rw_u_806 (fun _ h => h) rfl rfl 0 rfl (by decide +kernel) rfl rfl (Nat.le_of_ble_eq_true rfl) rfl dX9_init_16 ?_
  exact z_vret1 C O dX9_init_19 () rfl rfl
abbrev rmtX5_init_X5 : Room := { frames := 2, cells := 0, slots := 0, locals := 35 }
set_option maxHeartbeats 4000000 in
set_option maxRecDepth 100000 in
theorem ctX5_init_X5 {l : Launch} {G : zG} {o a2 a3 : Nat} {n : Int32} : Ctr l G yX5_init cX5_init 4 none rmtX5_init_X5 [.ref o, .int n, .ref a2, .ref a3] [(o, .inr (5, [.int 0, .null, .null]))] (fun _ : Unit => none) (fun _ => [(o, .inr (5, [.int n, .ref a2, .ref a3]))]) := by
  refine zMetr (own := RX5) rfl (by decide) (Nat.le_of_ble_eq_true rfl) (fun x hl C hnm O => ?_)
  show zW x G 0 0 0 [(0, .ref o), (1, .int n), (2, .ref a2), (3, .ref a3)] [] _
  refine z_aload_n C dX5_init_0 0 rfl ?_
  refine z_iload_n C dX5_init_1 1 rfl ?_
  refine z_aload_n C dX5_init_2 2 rfl ?_
  refine z_aload_n C dX5_init_3 3 rfl ?_
  refine z_callI C 3 (As := [.int n, .ref a2, .ref a3]) (rest := []) rw_u_794 rw_u_85 rw_u_840 rw_u_793 rfl ⟨by decide, by decide, by decide +kernel⟩ ctX9_init_X5 rfl dX5_init_4 (Nat.le_of_ble_eq_true rfl) (zrm rfl) (fun _ => ?_)
  exact z_vret1 C O dX5_init_7 () rfl rfl
abbrev rmtX5_init_X3 : Room := { frames := 2, cells := 0, slots := 0, locals := 35 }
set_option maxHeartbeats 4000000 in
set_option maxRecDepth 100000 in
theorem ctX5_init_X3 {l : Launch} {G : zG} {o a2 a3 : Nat} {n : Int32} : Ctr l G yX5_init cX5_init 4 none rmtX5_init_X3 [.ref o, .int n, .ref a2, .ref a3] [(o, .inr (3, [.int 0, .null, .null]))] (fun _ : Unit => none) (fun _ => [(o, .inr (3, [.int n, .ref a2, .ref a3]))]) := by
  refine zMetr (own := RX5) rfl (by decide) (Nat.le_of_ble_eq_true rfl) (fun x hl C hnm O => ?_)
  show zW x G 0 0 0 [(0, .ref o), (1, .int n), (2, .ref a2), (3, .ref a3)] [] _
  refine z_aload_n C dX5_init_0 0 rfl ?_
  refine z_iload_n C dX5_init_1 1 rfl ?_
  refine z_aload_n C dX5_init_2 2 rfl ?_
  refine z_aload_n C dX5_init_3 3 rfl ?_
  refine z_callI C 3 (As := [.int n, .ref a2, .ref a3]) (rest := []) rw_u_794 rw_u_85 rw_u_840 rw_u_793 rfl ⟨by decide, by decide, by decide +kernel⟩ ctX9_init_X3 rfl dX5_init_4 (Nat.le_of_ble_eq_true rfl) (zrm rfl) (fun _ => ?_)
  exact z_vret1 C O dX5_init_7 () rfl rfl
abbrev rmtX5_init_X0 : Room := { frames := 2, cells := 0, slots := 0, locals := 35 }
set_option maxHeartbeats 4000000 in
set_option maxRecDepth 100000 in
theorem ctX5_init_X0 {l : Launch} {G : zG} {o a2 a3 : Nat} {n : Int32} : Ctr l G yX5_init cX5_init 4 none rmtX5_init_X0 [.ref o, .int n, .ref a2, .ref a3] [(o, .inr (0, [.int 0, .null, .null]))] (fun _ : Unit => none) (fun _ => [(o, .inr (0, [.int n, .ref a2, .ref a3]))]) := by
  refine zMetr (own := RX5) rfl (by decide) (Nat.le_of_ble_eq_true rfl) (fun x hl C hnm O => ?_)
  show zW x G 0 0 0 [(0, .ref o), (1, .int n), (2, .ref a2), (3, .ref a3)] [] _
  refine z_aload_n C dX5_init_0 0 rfl ?_
  refine z_iload_n C dX5_init_1 1 rfl ?_
  refine z_aload_n C dX5_init_2 2 rfl ?_
  refine z_aload_n C dX5_init_3 3 rfl ?_
  refine z_callI C 3 (As := [.int n, .ref a2, .ref a3]) (rest := []) rw_u_794 rw_u_85 rw_u_840 rw_u_793 rfl ⟨by decide, by decide, by decide +kernel⟩ ctX9_init_X0 rfl dX5_init_4 (Nat.le_of_ble_eq_true rfl) (zrm rfl) (fun _ => ?_)
  exact z_vret1 C O dX5_init_7 () rfl rfl
abbrev rmtX3_init_X3 : Room := { frames := 3, cells := 0, slots := 0, locals := 58 }
set_option maxHeartbeats 4000000 in
set_option maxRecDepth 100000 in
theorem ctX3_init_X3 {l : Launch} {G : zG} {o a2 a3 : Nat} {n : Int32} : Ctr l G yX3_init cX3_init 4 none rmtX3_init_X3 [.ref o, .int n, .ref a2, .ref a3] [(o, .inr (3, [.int 0, .null, .null]))] (fun _ : Unit => none) (fun _ => [(o, .inr (3, [.int n, .ref a2, .ref a3]))]) := by
  refine zMetr (own := RX3) rfl (by decide) (Nat.le_of_ble_eq_true rfl) (fun x hl C hnm O => ?_)
  show zW x G 0 0 0 [(0, .ref o), (1, .int n), (2, .ref a2), (3, .ref a3)] [] _
  refine z_aload_n C dX3_init_0 0 rfl ?_
  refine z_iload_n C dX3_init_1 1 rfl ?_
  refine z_aload_n C dX3_init_2 2 rfl ?_
  refine z_aload_n C dX3_init_3 3 rfl ?_
  refine z_callI C 3 (As := [.int n, .ref a2, .ref a3]) (rest := []) rw_u_839 rw_u_88 rw_u_853 rw_u_838 rfl ⟨by decide, by decide, by decide +kernel⟩ ctX5_init_X3 rfl dX3_init_4 (Nat.le_of_ble_eq_true rfl) (zrm rfl) (fun _ => ?_)
  exact z_vret1 C O dX3_init_7 () rfl rfl
abbrev rmtX3_init_X0 : Room := { frames := 3, cells := 0, slots := 0, locals := 58 }
set_option maxHeartbeats 4000000 in
set_option maxRecDepth 100000 in
theorem ctX3_init_X0 {l : Launch} {G : zG} {o a2 a3 : Nat} {n : Int32} : Ctr l G yX3_init cX3_init 4 none rmtX3_init_X0 [.ref o, .int n, .ref a2, .ref a3] [(o, .inr (0, [.int 0, .null, .null]))] (fun _ : Unit => none) (fun _ => [(o, .inr (0, [.int n, .ref a2, .ref a3]))]) := by
  refine zMetr (own := RX3) rfl (by decide) (Nat.le_of_ble_eq_true rfl) (fun x hl C hnm O => ?_)
  show zW x G 0 0 0 [(0, .ref o), (1, .int n), (2, .ref a2), (3, .ref a3)] [] _
  refine z_aload_n C dX3_init_0 0 rfl ?_
  refine z_iload_n C dX3_init_1 1 rfl ?_
  refine z_aload_n C dX3_init_2 2 rfl ?_
  refine z_aload_n C dX3_init_3 3 rfl ?_
  refine z_callI C 3 (As := [.int n, .ref a2, .ref a3]) (rest := []) rw_u_839 rw_u_88 rw_u_853 rw_u_838 rfl ⟨by decide, by decide, by decide +kernel⟩ ctX5_init_X0 rfl dX3_init_4 (Nat.le_of_ble_eq_true rfl) (zrm rfl) (fun _ => ?_)
  exact z_vret1 C O dX3_init_7 () rfl rfl
abbrev rmtX0_init_X0 : Room := { frames := 4, cells := 0, slots := 0, locals := 81 }
set_option maxHeartbeats 4000000 in
set_option maxRecDepth 100000 in
theorem ctX0_init_X0 {l : Launch} {G : zG} {o a2 a3 : Nat} {n : Int32} : Ctr l G yX0_init cX0_init 4 none rmtX0_init_X0 [.ref o, .int n, .ref a2, .ref a3] [(o, .inr (0, [.int 0, .null, .null]))] (fun _ : Unit => none) (fun _ => [(o, .inr (0, [.int n, .ref a2, .ref a3]))]) := by
  refine zMetr (own := RX0) rfl (by decide) (Nat.le_of_ble_eq_true rfl) (fun x hl C hnm O => ?_)
  show zW x G 0 0 0 [(0, .ref o), (1, .int n), (2, .ref a2), (3, .ref a3)] [] _
  refine z_aload_n C dX0_init_0 0 rfl ?_
  refine z_iload_n C dX0_init_1 1 rfl ?_
  refine z_aload_n C dX0_init_2 2 rfl ?_
  refine z_aload_n C dX0_init_3 3 rfl ?_
  refine z_callI C 3 (As := [.int n, .ref a2, .ref a3]) (rest := []) rw_u_852 rw_u_89 rw_u_850 rw_u_851 rfl ⟨by decide, by decide, by decide +kernel⟩ ctX3_init_X0 rfl dX0_init_4 (Nat.le_of_ble_eq_true rfl) (zrm rfl) (fun _ => ?_)
  exact z_vret1 C O dX0_init_7 () rfl rfl
abbrev rmtX1_init_X1 : Room := { frames := 2, cells := 0, slots := 0, locals := 35 }
set_option maxHeartbeats 4000000 in
set_option maxRecDepth 100000 in
theorem ctX1_init_X1 {l : Launch} {G : zG} {o a2 a3 : Nat} {n : Int32} : Ctr l G yX1_init cX1_init 4 none rmtX1_init_X1 [.ref o, .int n, .ref a2, .ref a3] [(o, .inr (1, [.int 0, .null, .null]))] (fun _ : Unit => none) (fun _ => [(o, .inr (1, [.int n, .ref a2, .ref a3]))]) := by
  refine zMetr (own := RX1) rfl (by decide) (Nat.le_of_ble_eq_true rfl) (fun x hl C hnm O => ?_)
  show zW x G 0 0 0 [(0, .ref o), (1, .int n), (2, .ref a2), (3, .ref a3)] [] _
  refine z_aload_n C dX1_init_0 0 rfl ?_
  refine z_iload_n C dX1_init_1 1 rfl ?_
  refine z_aload_n C dX1_init_2 2 rfl ?_
  refine z_aload_n C dX1_init_3 3 rfl ?_
  refine z_callI C 3 (As := [.int n, .ref a2, .ref a3]) (rest := []) rw_u_794 rw_u_85 rw_u_792 rw_u_793 rfl ⟨by decide, by decide, by decide +kernel⟩ ctX9_init_X1 rfl dX1_init_4 (Nat.le_of_ble_eq_true rfl) (zrm rfl) (fun _ => ?_)
  exact z_vret1 C O dX1_init_7 () rfl rfl
abbrev rmtX1_init_X4 : Room := { frames := 2, cells := 0, slots := 0, locals := 35 }
set_option maxHeartbeats 4000000 in
set_option maxRecDepth 100000 in
theorem ctX1_init_X4 {l : Launch} {G : zG} {o a2 a3 : Nat} {n : Int32} : Ctr l G yX1_init cX1_init 4 none rmtX1_init_X4 [.ref o, .int n, .ref a2, .ref a3] [(o, .inr (4, [.int 0, .null, .null]))] (fun _ : Unit => none) (fun _ => [(o, .inr (4, [.int n, .ref a2, .ref a3]))]) := by
  refine zMetr (own := RX1) rfl (by decide) (Nat.le_of_ble_eq_true rfl) (fun x hl C hnm O => ?_)
  show zW x G 0 0 0 [(0, .ref o), (1, .int n), (2, .ref a2), (3, .ref a3)] [] _
  refine z_aload_n C dX1_init_0 0 rfl ?_
  refine z_iload_n C dX1_init_1 1 rfl ?_
  refine z_aload_n C dX1_init_2 2 rfl ?_
  refine z_aload_n C dX1_init_3 3 rfl ?_
  refine z_callI C 3 (As := [.int n, .ref a2, .ref a3]) (rest := []) rw_u_794 rw_u_85 rw_u_792 rw_u_793 rfl ⟨by decide, by decide, by decide +kernel⟩ ctX9_init_X4 rfl dX1_init_4 (Nat.le_of_ble_eq_true rfl) (zrm rfl) (fun _ => ?_)
  exact z_vret1 C O dX1_init_7 () rfl rfl
abbrev rmtX4_init_X4 : Room := { frames := 3, cells := 0, slots := 0, locals := 58 }
set_option maxHeartbeats 4000000 in
set_option maxRecDepth 100000 in
theorem ctX4_init_X4 {l : Launch} {G : zG} {o a2 a3 : Nat} {n : Int32} : Ctr l G yX4_init cX4_init 4 none rmtX4_init_X4 [.ref o, .int n, .ref a2, .ref a3] [(o, .inr (4, [.int 0, .null, .null]))] (fun _ : Unit => none) (fun _ => [(o, .inr (4, [.int n, .ref a2, .ref a3]))]) := by
  refine zMetr (own := RX4) rfl (by decide) (Nat.le_of_ble_eq_true rfl) (fun x hl C hnm O => ?_)
  show zW x G 0 0 0 [(0, .ref o), (1, .int n), (2, .ref a2), (3, .ref a3)] [] _
  refine z_aload_n C dX4_init_0 0 rfl ?_
  refine z_iload_n C dX4_init_1 1 rfl ?_
  refine z_aload_n C dX4_init_2 2 rfl ?_
  refine z_aload_n C dX4_init_3 3 rfl ?_
  refine z_callI C 3 (As := [.int n, .ref a2, .ref a3]) (rest := []) rw_u_791 rw_u_86 rw_u_789 rw_u_790 rfl ⟨by decide, by decide, by decide +kernel⟩ ctX1_init_X4 rfl dX4_init_4 (Nat.le_of_ble_eq_true rfl) (zrm rfl) (fun _ => ?_)
  exact z_vret1 C O dX4_init_7 () rfl rfl
def fX_isOfKind (ci : Nat) (k : Int32) : Bool := if k = 0 then true else if ci = 5 then decide (k = 1) else if ci = 3 then decide (k = 1 ∨ k = 3) else if ci = 0 then decide (k = 1 ∨ k = 3 ∨ k = 4) else if ci = 1 then decide (k = 2) else decide (k = 2 ∨ k = 5)
def zth (ci : Nat) : Bool := decide (ci = 5 ∨ ci = 3 ∨ ci = 0 ∨ ci = 1 ∨ ci = 4)
abbrev rmX11_isOfKind : Room := { frames := 0, cells := 0, slots := 0, locals := 0 }
set_option maxHeartbeats 4000000 in
set_option maxRecDepth 100000 in
theorem cX_isOfKind_X5 {l : Launch} {G : zG} {o : Nat} {fs : List Value} {k : Int32} : Ct l G yX11_isOfKind cX11_isOfKind 2 (some .boolean) rmX11_isOfKind [.ref o, .int k] [(o, .inr (5, fs))] (some (.int (zb (fX_isOfKind 5 k)))) [(o, .inr (5, fs))] := by
  refine zMet (own := RX11) rfl (by decide) (Nat.le_of_ble_eq_true rfl) (fun x hl C O => ?_)
  show zW x G 0 0 0 [(0, .ref o), (1, .int k)] [] _
  refine z_iload_n C dX11_isOfKind_0 1 rfl ?_
  by_cases hc0 : k = 0
  · refine z_tcase (off := 39) C dX11_isOfKind_1 0 hc0 (by decide) (by decide) (by decide) 40 (by decide) ?_
    subst hc0
    refine z_iconst C 1 dX11_isOfKind_40 (by decide) ?_
    exact z_zret C O dX11_isOfKind_41 (zb_nar true) rfl rfl
  · skip
    by_cases hc1 : k = 1
    · refine z_tcase (off := 41) C dX11_isOfKind_1 1 hc1 (by decide) (by decide) (by decide) 42 (by decide) ?_
      subst hc1
      refine z_aload_n C dX11_isOfKind_42 0 rfl ?_
      refine z_inst1 C (T := TX5) (N := 3) rw_u_835 rfl 0 rfl dX11_isOfKind_43 ?_
      exact z_zret C O dX11_isOfKind_46 (zb_nar true) rfl rfl
    · skip
      by_cases hc2 : k = 2
      · refine z_tcase (off := 46) C dX11_isOfKind_1 2 hc2 (by decide) (by decide) (by decide) 47 (by decide) ?_
        subst hc2
        refine z_aload_n C dX11_isOfKind_47 0 rfl ?_
        refine z_instNo C (Cn := RX5) (nm := RX1) (T := TX5) (N := 3) rw_u_824 (by decide) rfl 0 rfl dX11_isOfKind_48 ?_
        exact z_zret C O dX11_isOfKind_51 (zb_nar false) rfl rfl
      · skip
        by_cases hc3 : k = 3
        · refine z_tcase (off := 51) C dX11_isOfKind_1 3 hc3 (by decide) (by decide) (by decide) 52 (by decide) ?_
          subst hc3
          refine z_aload_n C dX11_isOfKind_52 0 rfl ?_
          refine z_instNo C (Cn := RX5) (nm := RX3) (T := TX5) (N := 3) rw_u_858 (by decide) rfl 0 rfl dX11_isOfKind_53 ?_
          exact z_zret C O dX11_isOfKind_56 (zb_nar false) rfl rfl
        · skip
          by_cases hc4 : k = 4
          · refine z_tcase (off := 56) C dX11_isOfKind_1 4 hc4 (by decide) (by decide) (by decide) 57 (by decide) ?_
            subst hc4
            refine z_aload_n C dX11_isOfKind_57 0 rfl ?_
            refine z_instNo C (Cn := RX5) (nm := RX0) (T := TX5) (N := 3) rw_u_845 (by decide) rfl 0 rfl dX11_isOfKind_58 ?_
            exact z_zret C O dX11_isOfKind_61 (zb_nar false) rfl rfl
          · skip
            by_cases hc5 : k = 5
            · refine z_tcase (off := 61) C dX11_isOfKind_1 5 hc5 (by decide) (by decide) (by decide) 62 (by decide) ?_
              subst hc5
              refine z_aload_n C dX11_isOfKind_62 0 rfl ?_
              refine z_instNo C (Cn := RX5) (nm := RX4) (T := TX5) (N := 3) rw_u_784 (by decide) rfl 0 rfl dX11_isOfKind_63 ?_
              exact z_zret C O dX11_isOfKind_66 (zb_nar false) rfl rfl
            · skip
              refine z_tout C dX11_isOfKind_1 (ztoutL 6 (by decide) (by intro k hk; match k, hk with | 0, _ => exact hc0 | 1, _ => exact hc1 | 2, _ => exact hc2 | 3, _ => exact hc3 | 4, _ => exact hc4 | 5, _ => exact hc5 | k + 6, hk => exact absurd hk (by omega))) 67 (by decide) ?_
              refine z_iconst C 0 dX11_isOfKind_67 (by decide) ?_
              have hf : fX_isOfKind 5 k = false := by simp [fX_isOfKind, hc0, hc1, hc2, hc3, hc4, hc5]
              rw [hf] at O
              exact z_zret C O dX11_isOfKind_68 (zb_nar false) rfl rfl
set_option maxHeartbeats 4000000 in
set_option maxRecDepth 100000 in
theorem cX_isOfKind_X3 {l : Launch} {G : zG} {o : Nat} {fs : List Value} {k : Int32} : Ct l G yX11_isOfKind cX11_isOfKind 2 (some .boolean) rmX11_isOfKind [.ref o, .int k] [(o, .inr (3, fs))] (some (.int (zb (fX_isOfKind 3 k)))) [(o, .inr (3, fs))] := by
  refine zMet (own := RX11) rfl (by decide) (Nat.le_of_ble_eq_true rfl) (fun x hl C O => ?_)
  show zW x G 0 0 0 [(0, .ref o), (1, .int k)] [] _
  refine z_iload_n C dX11_isOfKind_0 1 rfl ?_
  by_cases hc0 : k = 0
  · refine z_tcase (off := 39) C dX11_isOfKind_1 0 hc0 (by decide) (by decide) (by decide) 40 (by decide) ?_
    subst hc0
    refine z_iconst C 1 dX11_isOfKind_40 (by decide) ?_
    exact z_zret C O dX11_isOfKind_41 (zb_nar true) rfl rfl
  · skip
    by_cases hc1 : k = 1
    · refine z_tcase (off := 41) C dX11_isOfKind_1 1 hc1 (by decide) (by decide) (by decide) 42 (by decide) ?_
      subst hc1
      refine z_aload_n C dX11_isOfKind_42 0 rfl ?_
      refine z_instY C (Cn := RX3) (nm := RX5) (T := TX3) (N := 3) rw_u_835 (by decide) rfl 0 rfl dX11_isOfKind_43 ?_
      exact z_zret C O dX11_isOfKind_46 (zb_nar true) rfl rfl
    · skip
      by_cases hc2 : k = 2
      · refine z_tcase (off := 46) C dX11_isOfKind_1 2 hc2 (by decide) (by decide) (by decide) 47 (by decide) ?_
        subst hc2
        refine z_aload_n C dX11_isOfKind_47 0 rfl ?_
        refine z_instNo C (Cn := RX3) (nm := RX1) (T := TX3) (N := 3) rw_u_824 (by decide) rfl 0 rfl dX11_isOfKind_48 ?_
        exact z_zret C O dX11_isOfKind_51 (zb_nar false) rfl rfl
      · skip
        by_cases hc3 : k = 3
        · refine z_tcase (off := 51) C dX11_isOfKind_1 3 hc3 (by decide) (by decide) (by decide) 52 (by decide) ?_
          subst hc3
          refine z_aload_n C dX11_isOfKind_52 0 rfl ?_
          refine z_inst1 C (T := TX3) (N := 3) rw_u_858 rfl 0 rfl dX11_isOfKind_53 ?_
          exact z_zret C O dX11_isOfKind_56 (zb_nar true) rfl rfl
        · skip
          by_cases hc4 : k = 4
          · refine z_tcase (off := 56) C dX11_isOfKind_1 4 hc4 (by decide) (by decide) (by decide) 57 (by decide) ?_
            subst hc4
            refine z_aload_n C dX11_isOfKind_57 0 rfl ?_
            refine z_instNo C (Cn := RX3) (nm := RX0) (T := TX3) (N := 3) rw_u_845 (by decide) rfl 0 rfl dX11_isOfKind_58 ?_
            exact z_zret C O dX11_isOfKind_61 (zb_nar false) rfl rfl
          · skip
            by_cases hc5 : k = 5
            · refine z_tcase (off := 61) C dX11_isOfKind_1 5 hc5 (by decide) (by decide) (by decide) 62 (by decide) ?_
              subst hc5
              refine z_aload_n C dX11_isOfKind_62 0 rfl ?_
              refine z_instNo C (Cn := RX3) (nm := RX4) (T := TX3) (N := 3) rw_u_784 (by decide) rfl 0 rfl dX11_isOfKind_63 ?_
              exact z_zret C O dX11_isOfKind_66 (zb_nar false) rfl rfl
            · skip
              refine z_tout C dX11_isOfKind_1 (ztoutL 6 (by decide) (by intro k hk; match k, hk with | 0, _ => exact hc0 | 1, _ => exact hc1 | 2, _ => exact hc2 | 3, _ => exact hc3 | 4, _ => exact hc4 | 5, _ => exact hc5 | k + 6, hk => exact absurd hk (by omega))) 67 (by decide) ?_
              refine z_iconst C 0 dX11_isOfKind_67 (by decide) ?_
              have hf : fX_isOfKind 3 k = false := by simp [fX_isOfKind, hc0, hc1, hc2, hc3, hc4, hc5]
              rw [hf] at O
              exact z_zret C O dX11_isOfKind_68 (zb_nar false) rfl rfl
set_option maxHeartbeats 4000000 in
set_option maxRecDepth 100000 in
theorem cX_isOfKind_X0 {l : Launch} {G : zG} {o : Nat} {fs : List Value} {k : Int32} : Ct l G yX11_isOfKind cX11_isOfKind 2 (some .boolean) rmX11_isOfKind [.ref o, .int k] [(o, .inr (0, fs))] (some (.int (zb (fX_isOfKind 0 k)))) [(o, .inr (0, fs))] := by
  refine zMet (own := RX11) rfl (by decide) (Nat.le_of_ble_eq_true rfl) (fun x hl C O => ?_)
  show zW x G 0 0 0 [(0, .ref o), (1, .int k)] [] _
  refine z_iload_n C dX11_isOfKind_0 1 rfl ?_
  by_cases hc0 : k = 0
  · refine z_tcase (off := 39) C dX11_isOfKind_1 0 hc0 (by decide) (by decide) (by decide) 40 (by decide) ?_
    subst hc0
    refine z_iconst C 1 dX11_isOfKind_40 (by decide) ?_
    exact z_zret C O dX11_isOfKind_41 (zb_nar true) rfl rfl
  · skip
    by_cases hc1 : k = 1
    · refine z_tcase (off := 41) C dX11_isOfKind_1 1 hc1 (by decide) (by decide) (by decide) 42 (by decide) ?_
      subst hc1
      refine z_aload_n C dX11_isOfKind_42 0 rfl ?_
      refine z_instY C (Cn := RX0) (nm := RX5) (T := TX0) (N := 3) rw_u_835 (by decide) rfl 0 rfl dX11_isOfKind_43 ?_
      exact z_zret C O dX11_isOfKind_46 (zb_nar true) rfl rfl
    · skip
      by_cases hc2 : k = 2
      · refine z_tcase (off := 46) C dX11_isOfKind_1 2 hc2 (by decide) (by decide) (by decide) 47 (by decide) ?_
        subst hc2
        refine z_aload_n C dX11_isOfKind_47 0 rfl ?_
        refine z_instNo C (Cn := RX0) (nm := RX1) (T := TX0) (N := 3) rw_u_824 (by decide) rfl 0 rfl dX11_isOfKind_48 ?_
        exact z_zret C O dX11_isOfKind_51 (zb_nar false) rfl rfl
      · skip
        by_cases hc3 : k = 3
        · refine z_tcase (off := 51) C dX11_isOfKind_1 3 hc3 (by decide) (by decide) (by decide) 52 (by decide) ?_
          subst hc3
          refine z_aload_n C dX11_isOfKind_52 0 rfl ?_
          refine z_instY C (Cn := RX0) (nm := RX3) (T := TX0) (N := 3) rw_u_858 (by decide) rfl 0 rfl dX11_isOfKind_53 ?_
          exact z_zret C O dX11_isOfKind_56 (zb_nar true) rfl rfl
        · skip
          by_cases hc4 : k = 4
          · refine z_tcase (off := 56) C dX11_isOfKind_1 4 hc4 (by decide) (by decide) (by decide) 57 (by decide) ?_
            subst hc4
            refine z_aload_n C dX11_isOfKind_57 0 rfl ?_
            refine z_inst1 C (T := TX0) (N := 3) rw_u_845 rfl 0 rfl dX11_isOfKind_58 ?_
            exact z_zret C O dX11_isOfKind_61 (zb_nar true) rfl rfl
          · skip
            by_cases hc5 : k = 5
            · refine z_tcase (off := 61) C dX11_isOfKind_1 5 hc5 (by decide) (by decide) (by decide) 62 (by decide) ?_
              subst hc5
              refine z_aload_n C dX11_isOfKind_62 0 rfl ?_
              refine z_instNo C (Cn := RX0) (nm := RX4) (T := TX0) (N := 3) rw_u_784 (by decide) rfl 0 rfl dX11_isOfKind_63 ?_
              exact z_zret C O dX11_isOfKind_66 (zb_nar false) rfl rfl
            · skip
              refine z_tout C dX11_isOfKind_1 (ztoutL 6 (by decide) (by intro k hk; match k, hk with | 0, _ => exact hc0 | 1, _ => exact hc1 | 2, _ => exact hc2 | 3, _ => exact hc3 | 4, _ => exact hc4 | 5, _ => exact hc5 | k + 6, hk => exact absurd hk (by omega))) 67 (by decide) ?_
              refine z_iconst C 0 dX11_isOfKind_67 (by decide) ?_
              have hf : fX_isOfKind 0 k = false := by simp [fX_isOfKind, hc0, hc1, hc2, hc3, hc4, hc5]
              rw [hf] at O
              exact z_zret C O dX11_isOfKind_68 (zb_nar false) rfl rfl
set_option maxHeartbeats 4000000 in
set_option maxRecDepth 100000 in
theorem cX_isOfKind_X1 {l : Launch} {G : zG} {o : Nat} {fs : List Value} {k : Int32} : Ct l G yX11_isOfKind cX11_isOfKind 2 (some .boolean) rmX11_isOfKind [.ref o, .int k] [(o, .inr (1, fs))] (some (.int (zb (fX_isOfKind 1 k)))) [(o, .inr (1, fs))] := by
  refine zMet (own := RX11) rfl (by decide) (Nat.le_of_ble_eq_true rfl) (fun x hl C O => ?_)
  show zW x G 0 0 0 [(0, .ref o), (1, .int k)] [] _
  refine z_iload_n C dX11_isOfKind_0 1 rfl ?_
  by_cases hc0 : k = 0
  · refine z_tcase (off := 39) C dX11_isOfKind_1 0 hc0 (by decide) (by decide) (by decide) 40 (by decide) ?_
    subst hc0
    refine z_iconst C 1 dX11_isOfKind_40 (by decide) ?_
    exact z_zret C O dX11_isOfKind_41 (zb_nar true) rfl rfl
  · skip
    by_cases hc1 : k = 1
    · refine z_tcase (off := 41) C dX11_isOfKind_1 1 hc1 (by decide) (by decide) (by decide) 42 (by decide) ?_
      subst hc1
      refine z_aload_n C dX11_isOfKind_42 0 rfl ?_
      refine z_instNo C (Cn := RX1) (nm := RX5) (T := TX1) (N := 3) rw_u_835 (by decide) rfl 0 rfl dX11_isOfKind_43 ?_
      exact z_zret C O dX11_isOfKind_46 (zb_nar false) rfl rfl
    · skip
      by_cases hc2 : k = 2
      · refine z_tcase (off := 46) C dX11_isOfKind_1 2 hc2 (by decide) (by decide) (by decide) 47 (by decide) ?_
        subst hc2
        refine z_aload_n C dX11_isOfKind_47 0 rfl ?_
        refine z_inst1 C (T := TX1) (N := 3) rw_u_824 rfl 0 rfl dX11_isOfKind_48 ?_
        exact z_zret C O dX11_isOfKind_51 (zb_nar true) rfl rfl
      · skip
        by_cases hc3 : k = 3
        · refine z_tcase (off := 51) C dX11_isOfKind_1 3 hc3 (by decide) (by decide) (by decide) 52 (by decide) ?_
          subst hc3
          refine z_aload_n C dX11_isOfKind_52 0 rfl ?_
          refine z_instNo C (Cn := RX1) (nm := RX3) (T := TX1) (N := 3) rw_u_858 (by decide) rfl 0 rfl dX11_isOfKind_53 ?_
          exact z_zret C O dX11_isOfKind_56 (zb_nar false) rfl rfl
        · skip
          by_cases hc4 : k = 4
          · refine z_tcase (off := 56) C dX11_isOfKind_1 4 hc4 (by decide) (by decide) (by decide) 57 (by decide) ?_
            subst hc4
            refine z_aload_n C dX11_isOfKind_57 0 rfl ?_
            refine z_instNo C (Cn := RX1) (nm := RX0) (T := TX1) (N := 3) rw_u_845 (by decide) rfl 0 rfl dX11_isOfKind_58 ?_
            exact z_zret C O dX11_isOfKind_61 (zb_nar false) rfl rfl
          · skip
            by_cases hc5 : k = 5
            · refine z_tcase (off := 61) C dX11_isOfKind_1 5 hc5 (by decide) (by decide) (by decide) 62 (by decide) ?_
              subst hc5
              refine z_aload_n C dX11_isOfKind_62 0 rfl ?_
              refine z_instNo C (Cn := RX1) (nm := RX4) (T := TX1) (N := 3) rw_u_784 (by decide) rfl 0 rfl dX11_isOfKind_63 ?_
              exact z_zret C O dX11_isOfKind_66 (zb_nar false) rfl rfl
            · skip
              refine z_tout C dX11_isOfKind_1 (ztoutL 6 (by decide) (by intro k hk; match k, hk with | 0, _ => exact hc0 | 1, _ => exact hc1 | 2, _ => exact hc2 | 3, _ => exact hc3 | 4, _ => exact hc4 | 5, _ => exact hc5 | k + 6, hk => exact absurd hk (by omega))) 67 (by decide) ?_
              refine z_iconst C 0 dX11_isOfKind_67 (by decide) ?_
              have hf : fX_isOfKind 1 k = false := by simp [fX_isOfKind, hc0, hc1, hc2, hc3, hc4, hc5]
              rw [hf] at O
              exact z_zret C O dX11_isOfKind_68 (zb_nar false) rfl rfl
set_option maxHeartbeats 4000000 in
set_option maxRecDepth 100000 in
theorem cX_isOfKind_X4 {l : Launch} {G : zG} {o : Nat} {fs : List Value} {k : Int32} : Ct l G yX11_isOfKind cX11_isOfKind 2 (some .boolean) rmX11_isOfKind [.ref o, .int k] [(o, .inr (4, fs))] (some (.int (zb (fX_isOfKind 4 k)))) [(o, .inr (4, fs))] := by
  refine zMet (own := RX11) rfl (by decide) (Nat.le_of_ble_eq_true rfl) (fun x hl C O => ?_)
  show zW x G 0 0 0 [(0, .ref o), (1, .int k)] [] _
  refine z_iload_n C dX11_isOfKind_0 1 rfl ?_
  by_cases hc0 : k = 0
  · refine z_tcase (off := 39) C dX11_isOfKind_1 0 hc0 (by decide) (by decide) (by decide) 40 (by decide) ?_
    subst hc0
    refine z_iconst C 1 dX11_isOfKind_40 (by decide) ?_
    exact z_zret C O dX11_isOfKind_41 (zb_nar true) rfl rfl
  · skip
    by_cases hc1 : k = 1
    · refine z_tcase (off := 41) C dX11_isOfKind_1 1 hc1 (by decide) (by decide) (by decide) 42 (by decide) ?_
      subst hc1
      refine z_aload_n C dX11_isOfKind_42 0 rfl ?_
      refine z_instNo C (Cn := RX4) (nm := RX5) (T := TX4) (N := 3) rw_u_835 (by decide) rfl 0 rfl dX11_isOfKind_43 ?_
      exact z_zret C O dX11_isOfKind_46 (zb_nar false) rfl rfl
    · skip
      by_cases hc2 : k = 2
      · refine z_tcase (off := 46) C dX11_isOfKind_1 2 hc2 (by decide) (by decide) (by decide) 47 (by decide) ?_
        subst hc2
        refine z_aload_n C dX11_isOfKind_47 0 rfl ?_
        refine z_instY C (Cn := RX4) (nm := RX1) (T := TX4) (N := 3) rw_u_824 (by decide) rfl 0 rfl dX11_isOfKind_48 ?_
        exact z_zret C O dX11_isOfKind_51 (zb_nar true) rfl rfl
      · skip
        by_cases hc3 : k = 3
        · refine z_tcase (off := 51) C dX11_isOfKind_1 3 hc3 (by decide) (by decide) (by decide) 52 (by decide) ?_
          subst hc3
          refine z_aload_n C dX11_isOfKind_52 0 rfl ?_
          refine z_instNo C (Cn := RX4) (nm := RX3) (T := TX4) (N := 3) rw_u_858 (by decide) rfl 0 rfl dX11_isOfKind_53 ?_
          exact z_zret C O dX11_isOfKind_56 (zb_nar false) rfl rfl
        · skip
          by_cases hc4 : k = 4
          · refine z_tcase (off := 56) C dX11_isOfKind_1 4 hc4 (by decide) (by decide) (by decide) 57 (by decide) ?_
            subst hc4
            refine z_aload_n C dX11_isOfKind_57 0 rfl ?_
            refine z_instNo C (Cn := RX4) (nm := RX0) (T := TX4) (N := 3) rw_u_845 (by decide) rfl 0 rfl dX11_isOfKind_58 ?_
            exact z_zret C O dX11_isOfKind_61 (zb_nar false) rfl rfl
          · skip
            by_cases hc5 : k = 5
            · refine z_tcase (off := 61) C dX11_isOfKind_1 5 hc5 (by decide) (by decide) (by decide) 62 (by decide) ?_
              subst hc5
              refine z_aload_n C dX11_isOfKind_62 0 rfl ?_
              refine z_inst1 C (T := TX4) (N := 3) rw_u_784 rfl 0 rfl dX11_isOfKind_63 ?_
              exact z_zret C O dX11_isOfKind_66 (zb_nar true) rfl rfl
            · skip
              refine z_tout C dX11_isOfKind_1 (ztoutL 6 (by decide) (by intro k hk; match k, hk with | 0, _ => exact hc0 | 1, _ => exact hc1 | 2, _ => exact hc2 | 3, _ => exact hc3 | 4, _ => exact hc4 | 5, _ => exact hc5 | k + 6, hk => exact absurd hk (by omega))) 67 (by decide) ?_
              refine z_iconst C 0 dX11_isOfKind_67 (by decide) ?_
              have hf : fX_isOfKind 4 k = false := by simp [fX_isOfKind, hc0, hc1, hc2, hc3, hc4, hc5]
              rw [hf] at O
              exact z_zret C O dX11_isOfKind_68 (zb_nar false) rfl rfl
theorem cX_isOfKind {l : Launch} {G : zG} {o ci : Nat} {fs : List Value} {k : Int32} (h : zth ci = true) : Ct l G yX11_isOfKind cX11_isOfKind 2 (some .boolean) rmX11_isOfKind [.ref o, .int k] [(o, .inr (ci, fs))] (some (.int (zb (fX_isOfKind ci k)))) [(o, .inr (ci, fs))] := by
  rcases of_decide_eq_true h with rfl | rfl | rfl | rfl | rfl
  · exact cX_isOfKind_X5
  · exact cX_isOfKind_X3
  · exact cX_isOfKind_X0
  · exact cX_isOfKind_X1
  · exact cX_isOfKind_X4
