/-! EVERY CALL, and the whole run -/
theorem st_row (a1 a2 a3 : Int32) (u : zLS) (h : Inv u) : ∃ u', ls_row a1 a2 a3 u = some (true, u') ∧ Inv u' := by
  obtain ⟨X, R, S, P, C, U, D, V, T, M⟩ := u
  have hR : InvR X R T M := h.1
  have hL : InvL X S C U M := h.2
  obtain ⟨v, X', M', e1, e2, g⟩ := c_row a1 a2 a3 hR
  refine ⟨(X', R, S, P, C, U, D, V, T, M'), ?_, g.R hR, g.L hL⟩
  show Option.bind (fX_row X a1 a2 a3) (fun y1 => Option.bind (fM_row M a1 a2 a3) fun y2 => some (decide (y1.1 = y2.1), (y1.2, R, S, P, C, U, D, V, T, y2.2))) = _
  rw [e1, bind_s, e2, bind_s]
  exact congrArg (fun q => some (q, (X', R, S, P, C, U, D, V, T, M'))) (decide_eq_true rfl)
theorem st_set (a1 a2 a3 : Int32) (u : zLS) (h : Inv u) : ∃ u', ls_set a1 a2 a3 u = some (true, u') ∧ Inv u' := by
  obtain ⟨X, R, S, P, C, U, D, V, T, M⟩ := u
  have hR : InvR X R T M := h.1
  have hL : InvL X S C U M := h.2
  obtain ⟨v, X', M', e1, e2, g⟩ := c_set a1 a2 a3 hR
  refine ⟨(X', R, S, P, C, U, D, V, T, M'), ?_, g.R hR, g.L hL⟩
  show Option.bind (fX_set X a1 a2 a3) (fun y1 => Option.bind (fM_set M a1 a2 a3) fun y2 => some (decide (y1.1 = y2.1), (y1.2, R, S, P, C, U, D, V, T, y2.2))) = _
  rw [e1, bind_s, e2, bind_s]
  exact congrArg (fun q => some (q, (X', R, S, P, C, U, D, V, T, M'))) (decide_eq_true rfl)
theorem st_copy (a1 a2 a3 a4 a5 : Int32) (u : zLS) (h : Inv u) : ∃ u', ls_copy a1 a2 a3 a4 a5 u = some (true, u') ∧ Inv u' := by
  obtain ⟨X, R, S, P, C, U, D, V, T, M⟩ := u
  have hR : InvR X R T M := h.1
  have hL : InvL X S C U M := h.2
  obtain ⟨v, X', M', e1, e2, g⟩ := c_copy a1 a2 a3 a4 a5 hR
  refine ⟨(X', R, S, P, C, U, D, V, T, M'), ?_, g.R hR, g.L hL⟩
  show Option.bind (fX_copy X a1 a2 a3 a4 a5) (fun y1 => Option.bind (fM_copy M a1 a2 a3 a4 a5) fun y2 => some (decide (y1.1 = y2.1), (y1.2, R, S, P, C, U, D, V, T, y2.2))) = _
  rw [e1, bind_s, e2, bind_s]
  exact congrArg (fun q => some (q, (X', R, S, P, C, U, D, V, T, M'))) (decide_eq_true rfl)
theorem st_drop (a1 : Int32) (u : zLS) (h : Inv u) : ∃ u', ls_drop a1 u = some (true, u') ∧ Inv u' := by
  obtain ⟨X, R, S, P, C, U, D, V, T, M⟩ := u
  have hR : InvR X R T M := h.1
  have hL : InvL X S C U M := h.2
  obtain ⟨v, X', M', e1, e2, g⟩ := c_drop a1 hR
  refine ⟨(X', R, S, P, C, U, D, V, T, M'), ?_, g.R hR, g.L hL⟩
  show Option.bind (fX_drop X a1) (fun y1 => Option.bind (fM_drop M a1) fun y2 => some (decide (y1.1 = y2.1), (y1.2, R, S, P, C, U, D, V, T, y2.2))) = _
  rw [e1, bind_s, e2, bind_s]
  exact congrArg (fun q => some (q, (X', R, S, P, C, U, D, V, T, M'))) (decide_eq_true rfl)
theorem st_judge (a1 a2 : Int32) (u : zLS) (h : Inv u) : ∃ u', ls_judge a1 a2 u = some (true, u') ∧ Inv u' := by
  obtain ⟨X, R, S, P, C, U, D, V, T, M⟩ := u
  have hR : InvR X R T M := h.1
  have hL : InvL X S C U M := h.2
  obtain ⟨v, X', M', e1, e2, g⟩ := c_judge a1 a2 hR hL
  refine ⟨(X', R, S, P, C, U, D, V, T, M'), ?_, g.R hR, g.L hL⟩
  show Option.bind (fX_judge X C a1 a2) (fun y1 => Option.bind (fM_judge M a1 a2) fun y2 => some (decide (y1.1 = y2.1), (y1.2, R, S, P, C, U, D, V, T, y2.2))) = _
  rw [e1, bind_s, e2, bind_s]
  exact congrArg (fun q => some (q, (X', R, S, P, C, U, D, V, T, M'))) (decide_eq_true rfl)
theorem st_as (a1 a2 : Int32) (u : zLS) (h : Inv u) : ∃ u', ls_as a1 a2 u = some (true, u') ∧ Inv u' := by
  obtain ⟨X, R, S, P, C, U, D, V, T, M⟩ := u
  have hR : InvR X R T M := h.1
  have hL : InvL X S C U M := h.2
  obtain ⟨v, X', M', e1, e2, g⟩ := c_as a1 a2 hR hL
  refine ⟨(X', R, S, P, C, U, D, V, T, M'), ?_, g.R hR, g.L hL⟩
  show Option.bind (fX_as X S C T a1 a2) (fun y1 => Option.bind (fM_as M a1 a2) fun y2 => some (decide (y1.1 = y2.1), (y1.2, R, S, P, C, U, D, V, T, y2.2))) = _
  rw [e1, bind_s, e2, bind_s]
  exact congrArg (fun q => some (q, (X', R, S, P, C, U, D, V, T, M'))) (decide_eq_true rfl)
theorem st_feed (a1 a2 a3 : Int32) (u : zLS) (h : Inv u) : ∃ u', ls_feed a1 a2 a3 u = some (true, u') ∧ Inv u' := by
  obtain ⟨X, R, S, P, C, U, D, V, T, M⟩ := u
  have hR : InvR X R T M := h.1
  have hL : InvL X S C U M := h.2
  obtain ⟨v, R', M', e1, e2, g⟩ := c_feed (((a1.toInt64) <<< ((32 : Int32).toInt64 &&& 63)) ||| ((a2.toInt64) &&& 4294967295)) a3 hR
  refine ⟨(X, R', S, P, C, U, D, V, T, M'), ?_, g.R hR, g.L hL⟩
  show Option.bind (fX_feed X R (((a1.toInt64) <<< ((32 : Int32).toInt64 &&& 63)) ||| ((a2.toInt64) &&& 4294967295)) a3) (fun y1 => Option.bind (fM_feed M (((a1.toInt64) <<< ((32 : Int32).toInt64 &&& 63)) ||| ((a2.toInt64) &&& 4294967295)) a3) fun y2 => some (decide (y1.1 = y2.1), (X, y1.2, S, P, C, U, D, V, T, y2.2))) = _
  rw [e1, bind_s, e2, bind_s]
  exact congrArg (fun q => some (q, (X, R', S, P, C, U, D, V, T, M'))) (decide_eq_true rfl)
theorem st_life (u : zLS) (h : Inv u) : ∃ u', ls_life u = some (true, u') ∧ Inv u' := by
  obtain ⟨X, R, S, P, C, U, D, V, T, M⟩ := u
  have hR : InvR X R T M := h.1
  have hL : InvL X S C U M := h.2
  obtain ⟨v, X', R', S', P', C', U', M', e1, e2, g1, g2⟩ := c_life P hR hL
  refine ⟨(X', R', S', P', C', U', D, V, T, M'), ?_, g1, g2⟩
  show Option.bind (fX_life X R S P C U) (fun y1 => Option.bind (fM_life M) fun y2 => some (decide (y1.1 = y2.1), (y1.2.1, y1.2.2.1, y1.2.2.2.1, y1.2.2.2.2.1, y1.2.2.2.2.2.1, y1.2.2.2.2.2.2, D, V, T, y2.2))) = _
  rw [e1, bind_s, e2, bind_s]
  exact congrArg (fun q => some (q, (X', R', S', P', C', U', D, V, T, M'))) (decide_eq_true rfl)
theorem st_whose (a1 a2 : Int32) (u : zLS) (h : Inv u) : ∃ u', ls_whose a1 a2 u = some (true, u') ∧ Inv u' := by
  obtain ⟨X, R, S, P, C, U, D, V, T, M⟩ := u
  have hR : InvR X R T M := h.1
  have hL : InvL X S C U M := h.2
  obtain ⟨v, D', M', e1, e2, g⟩ := c_whose D a1 a2 hL
  refine ⟨(X, R, S, P, C, U, D', V, T, M'), ?_, hR.keep g, hL.keep g⟩
  show Option.bind (fX_whose X S C D a1 a2) (fun y1 => Option.bind (fM_whose M a1 a2) fun y2 => some (decide (y1.1 = y2.1), (X, R, S, P, C, U, y1.2, V, T, y2.2))) = _
  rw [e1, bind_s, e2, bind_s]
  exact congrArg (fun q => some (q, (X, R, S, P, C, U, D', V, T, M'))) (decide_eq_true rfl)
theorem st_thing (a1 a2 : Int32) (u : zLS) (h : Inv u) : ∃ u', ls_thing a1 a2 u = some (true, u') ∧ Inv u' := by
  obtain ⟨X, R, S, P, C, U, D, V, T, M⟩ := u
  have hR : InvR X R T M := h.1
  have hL : InvL X S C U M := h.2
  obtain ⟨v, M', e1, e2, g⟩ := c_thing a1 a2 hL
  refine ⟨(X, R, S, P, C, U, D, V, T, M'), ?_, hR.keep g, hL.keep g⟩
  show Option.bind (fX_thing X S C a1 a2) (fun y1 => Option.bind (fM_thing M a1 a2) fun y2 => some (decide (y1 = y2.1), (X, R, S, P, C, U, D, V, T, y2.2))) = _
  rw [e1, bind_s, e2, bind_s]
  exact congrArg (fun q => some (q, (X, R, S, P, C, U, D, V, T, M'))) (decide_eq_true rfl)
theorem st_purse (a1 a2 : Int32) (u : zLS) (h : Inv u) : ∃ u', ls_purse a1 a2 u = some (true, u') ∧ Inv u' := by
  obtain ⟨X, R, S, P, C, U, D, V, T, M⟩ := u
  have hR : InvR X R T M := h.1
  have hL : InvL X S C U M := h.2
  obtain ⟨v, M', e1, e2, g⟩ := c_purse a1 a2 hL
  refine ⟨(X, R, S, P, C, U, D, V, T, M'), ?_, hR.keep g, hL.keep g⟩
  show Option.bind (fX_purse X C U a1 a2) (fun y1 => Option.bind (fM_purse M a1 a2) fun y2 => some (decide (y1 = y2.1), (X, R, S, P, C, U, D, V, T, y2.2))) = _
  rw [e1, bind_s, e2, bind_s]
  exact congrArg (fun q => some (q, (X, R, S, P, C, U, D, V, T, M'))) (decide_eq_true rfl)
theorem st_fed (a1 a2 : Int32) (u : zLS) (h : Inv u) : ∃ u', ls_fed a1 a2 u = some (true, u') ∧ Inv u' := by
  obtain ⟨X, R, S, P, C, U, D, V, T, M⟩ := u
  have hR : InvR X R T M := h.1
  have hL : InvL X S C U M := h.2
  obtain ⟨v, M', e1, e2, g⟩ := c_fed a1 a2 hL
  refine ⟨(X, R, S, P, C, U, D, V, T, M'), ?_, hR.keep g, hL.keep g⟩
  show Option.bind (fX_fed X U a1 a2) (fun y1 => Option.bind (fM_fed M a1 a2) fun y2 => some (decide (y1 = y2.1), (X, R, S, P, C, U, D, V, T, y2.2))) = _
  rw [e1, bind_s, e2, bind_s]
  exact congrArg (fun q => some (q, (X, R, S, P, C, U, D, V, T, M'))) (decide_eq_true rfl)
theorem st_owed (a1 a2 a3 : Int32) (u : zLS) (h : Inv u) : ∃ u', ls_owed a1 a2 a3 u = some (true, u') ∧ Inv u' := by
  obtain ⟨X, R, S, P, C, U, D, V, T, M⟩ := u
  have hR : InvR X R T M := h.1
  have hL : InvL X S C U M := h.2
  obtain ⟨v, M', e1, e2, g⟩ := c_owed a1 a2 a3 hL
  refine ⟨(X, R, S, P, C, U, D, V, T, M'), ?_, hR.keep g, hL.keep g⟩
  show Option.bind (fX_owed X U a1 a2 a3) (fun y1 => Option.bind (fM_owed M a1 a2 a3) fun y2 => some (decide (y1 = y2.1), (X, R, S, P, C, U, D, V, T, y2.2))) = _
  rw [e1, bind_s, e2, bind_s]
  exact congrArg (fun q => some (q, (X, R, S, P, C, U, D, V, T, M'))) (decide_eq_true rfl)
theorem st_net (a1 a2 : Int32) (u : zLS) (h : Inv u) : ∃ u', ls_net a1 a2 u = some (true, u') ∧ Inv u' := by
  obtain ⟨X, R, S, P, C, U, D, V, T, M⟩ := u
  have hR : InvR X R T M := h.1
  have hL : InvL X S C U M := h.2
  obtain ⟨v, M', e1, e2, g⟩ := c_net a1 a2 hL
  refine ⟨(X, R, S, P, C, U, D, V, T, M'), ?_, hR.keep g, hL.keep g⟩
  show Option.bind (fX_net X U a1 a2) (fun y1 => Option.bind (fM_net M a1 a2) fun y2 => some (decide (y1 = y2.1), (X, R, S, P, C, U, D, V, T, y2.2))) = _
  rw [e1, bind_s, e2, bind_s]
  exact congrArg (fun q => some (q, (X, R, S, P, C, U, D, V, T, M'))) (decide_eq_true rfl)
theorem st_end (a1 a2 : Int32) (u : zLS) (h : Inv u) : ∃ u', ls_end a1 a2 u = some (true, u') ∧ Inv u' := by
  obtain ⟨X, R, S, P, C, U, D, V, T, M⟩ := u
  have hR : InvR X R T M := h.1
  have hL : InvL X S C U M := h.2
  obtain ⟨v, M', e1, e2, g⟩ := c_end a1 a2 hL
  refine ⟨(X, R, S, P, C, U, D, V, T, M'), ?_, hR.keep g, hL.keep g⟩
  show Option.bind (fX_end X U a1 a2) (fun y1 => Option.bind (fM_end M a1 a2) fun y2 => some (decide (y1 = y2.1), (X, R, S, P, C, U, D, V, T, y2.2))) = _
  rw [e1, bind_s, e2, bind_s]
  exact congrArg (fun q => some (q, (X, R, S, P, C, U, D, V, T, M'))) (decide_eq_true rfl)
theorem st_kind (a1 : Int32) (u : zLS) (h : Inv u) : ∃ u', ls_kind a1 u = some (true, u') ∧ Inv u' := by
  obtain ⟨X, R, S, P, C, U, D, V, T, M⟩ := u
  have hR : InvR X R T M := h.1
  have hL : InvL X S C U M := h.2
  obtain ⟨v, M', e1, e2, g⟩ := c_kind T a1 hL
  refine ⟨(X, R, S, P, C, U, D, V, T, M'), ?_, hR.keep g, hL.keep g⟩
  show Option.bind (fX_kind X S C T a1) (fun y1 => Option.bind (fM_kind M a1) fun y2 => some (decide (y1 = y2.1), (X, R, S, P, C, U, D, V, T, y2.2))) = _
  rw [e1, bind_s, e2, bind_s]
  exact congrArg (fun q => some (q, (X, R, S, P, C, U, D, V, T, M'))) (decide_eq_true rfl)
theorem st_count (a1 : Int32) (u : zLS) (h : Inv u) : ∃ u', ls_count a1 u = some (true, u') ∧ Inv u' := by
  obtain ⟨X, R, S, P, C, U, D, V, T, M⟩ := u
  have hR : InvR X R T M := h.1
  have hL : InvL X S C U M := h.2
  obtain ⟨v, M', e1, e2, g⟩ := c_count a1 hR hL
  refine ⟨(X, R, S, P, C, U, D, V, T, M'), ?_, hR.keep g, hL.keep g⟩
  show Option.bind (fX_count X R S C a1) (fun y1 => Option.bind (fM_count M a1) fun y2 => some (decide (y1 = y2.1), (X, R, S, P, C, U, D, V, T, y2.2))) = _
  rw [e1, bind_s, e2, bind_s]
  exact congrArg (fun q => some (q, (X, R, S, P, C, U, D, V, T, M'))) (decide_eq_true rfl)
theorem st_beside (a1 a2 a3 : Int32) (u : zLS) (h : Inv u) : ∃ u', ls_beside a1 a2 a3 u = some (true, u') ∧ Inv u' := by
  obtain ⟨X, R, S, P, C, U, D, V, T, M⟩ := u
  have hR : InvR X R T M := h.1
  have hL : InvL X S C U M := h.2
  obtain ⟨v, D', V', M', e1, e2, g⟩ := c_beside D V a1 a2 a3 hL
  refine ⟨(X, R, S, P, C, U, D', V', T, M'), ?_, hR.keep g, hL.keep g⟩
  show Option.bind (fX_beside X S D V a1 a2 a3) (fun y1 => Option.bind (fM_beside M a1 a2 a3) fun y2 => some (decide (y1.1 = y2.1), (X, R, S, P, C, U, y1.2.1, y1.2.2, T, y2.2))) = _
  rw [e1, bind_s, e2, bind_s]
  exact congrArg (fun q => some (q, (X, R, S, P, C, U, D', V', T, M'))) (decide_eq_true rfl)
theorem st_hangs (u : zLS) (h : Inv u) : ∃ u', ls_hangs u = some (true, u') ∧ Inv u' := by
  obtain ⟨X, R, S, P, C, U, D, V, T, M⟩ := u
  have hR : InvR X R T M := h.1
  have hL : InvL X S C U M := h.2
  obtain ⟨v, D', V', M', e1, e2, g⟩ := c_hangs D V  hL
  refine ⟨(X, R, S, P, C, U, D', V', T, M'), ?_, hR.keep g, hL.keep g⟩
  show Option.bind (fX_hangs X S U D V) (fun y1 => Option.bind (fM_hangs M ) fun y2 => some (decide (y1.1 = y2.1), (X, R, S, P, C, U, y1.2.1, y1.2.2, T, y2.2))) = _
  rw [e1, bind_s, e2, bind_s]
  exact congrArg (fun q => some (q, (X, R, S, P, C, U, D', V', T, M'))) (decide_eq_true rfl)
theorem st_beforehand (a1 a2 : Int32) (u : zLS) (h : Inv u) : ∃ u', ls_beforehand a1 a2 u = some (true, u') ∧ Inv u' := by
  obtain ⟨X, R, S, P, C, U, D, V, T, M⟩ := u
  have hR : InvR X R T M := h.1
  have hL : InvL X S C U M := h.2
  obtain ⟨v, D', V', M', e1, e2, g⟩ := c_beforehand D V a1 a2 hL
  refine ⟨(X, R, S, P, C, U, D', V', T, M'), ?_, hR.keep g, hL.keep g⟩
  show Option.bind (fX_beforehand X S U D V a1 a2) (fun y1 => Option.bind (fM_beforehand M a1 a2) fun y2 => some (decide (y1.1 = y2.1), (X, R, S, P, C, U, y1.2.1, y1.2.2, T, y2.2))) = _
  rw [e1, bind_s, e2, bind_s]
  exact congrArg (fun q => some (q, (X, R, S, P, C, U, D', V', T, M'))) (decide_eq_true rfl)
theorem st_ask (a1 a2 : Int32) (u : zLS) (h : Inv u) : ∃ u', ls_ask a1 a2 u = some (true, u') ∧ Inv u' := by
  obtain ⟨X, R, S, P, C, U, D, V, T, M⟩ := u
  have hR : InvR X R T M := h.1
  have hL : InvL X S C U M := h.2
  obtain ⟨v, T', M', e1, e2, g⟩ := c_ask a1 a2 hR hL
  refine ⟨(X, R, S, P, C, U, D, V, T', M'), ?_, g.R hR, g.L hL⟩
  show Option.bind (fX_ask X S C T a1 a2) (fun y1 => Option.bind (fM_ask M a1 a2) fun y2 => some (decide (y1.1 = y2.1), (X, R, S, P, C, U, D, V, y1.2, y2.2))) = _
  rw [e1, bind_s, e2, bind_s]
  exact congrArg (fun q => some (q, (X, R, S, P, C, U, D, V, T', M'))) (decide_eq_true rfl)
theorem st_trace (a1 : Int32) (u : zLS) (h : Inv u) : ∃ u', ls_trace a1 u = some (true, u') ∧ Inv u' := by
  obtain ⟨X, R, S, P, C, U, D, V, T, M⟩ := u
  have hR : InvR X R T M := h.1
  have hL : InvL X S C U M := h.2
  obtain ⟨v, e1, e2⟩ := c_trace a1 hR
  refine ⟨(X, R, S, P, C, U, D, V, T, zsI M 0 0), ?_, hR.keep (Mk_0 M 0), hL.keep (Mk_0 M 0)⟩
  show Option.bind (fX_trace X T a1) (fun y1 => Option.bind (fM_trace M a1) fun y2 => some (decide (y1 = y2.1), (X, R, S, P, C, U, D, V, T, y2.2))) = _
  rw [e1, bind_s, e2, bind_s]
  exact congrArg (fun q => some (q, (X, R, S, P, C, U, D, V, T, zsI M 0 0))) (decide_eq_true rfl)
theorem st_fault (u : zLS) (h : Inv u) : ∃ u', ls_fault u = some (true, u') ∧ Inv u' := by
  obtain ⟨X, R, S, P, C, U, D, V, T, M⟩ := u
  have hR : InvR X R T M := h.1
  have hL : InvL X S C U M := h.2
  have e1 : fX_fault X = some (zI X 5) := rfl
  have e2 : fM_fault M = some (zI M 18, zsI M 0 0) := rfl
  rw [← hR.2.2.1] at e2
  refine ⟨(X, R, S, P, C, U, D, V, T, zsI M 0 0), ?_, hR.keep (Mk_0 M 0), hL.keep (Mk_0 M 0)⟩
  show Option.bind (fX_fault X) (fun y1 => Option.bind (fM_fault M) fun y2 => some (decide (y1 = y2.1), (X, R, S, P, C, U, D, V, T, y2.2))) = _
  rw [e1, bind_s, e2, bind_s]
  exact congrArg (fun q => some (q, (X, R, S, P, C, U, D, V, T, zsI M 0 0))) (decide_eq_true rfl)
theorem st_status (u : zLS) (h : Inv u) : ∃ u', ls_status u = some (true, u') ∧ Inv u' := by
  obtain ⟨X, R, S, P, C, U, D, V, T, M⟩ := u
  have hR : InvR X R T M := h.1
  have hL : InvL X S C U M := h.2
  have e1 : fX_status X = some (zI X 3) := rfl
  have e2 : fM_status M = some (zI M 1, zsI M 0 0) := rfl
  rw [← hR.2.1] at e2
  refine ⟨(X, R, S, P, C, U, D, V, T, zsI M 0 0), ?_, hR.keep (Mk_0 M 0), hL.keep (Mk_0 M 0)⟩
  show Option.bind (fX_status X) (fun y1 => Option.bind (fM_status M) fun y2 => some (decide (y1 = y2.1), (X, R, S, P, C, U, D, V, T, y2.2))) = _
  rw [e1, bind_s, e2, bind_s]
  exact congrArg (fun q => some (q, (X, R, S, P, C, U, D, V, T, zsI M 0 0))) (decide_eq_true rfl)
theorem step_ok (op a1 a2 a3 a4 a5 : Int32) (u : zLS) (h : Inv u) : ∃ u', lstep op a1 a2 a3 a4 a5 u = some (true, u') ∧ Inv u' := by
  unfold lstep
  by_cases c0 : op = 0
  · rw [if_pos c0]
    exact st_row a1 a2 a3 u h
  rw [if_neg c0]
  by_cases c1 : op = 1
  · rw [if_pos c1]
    exact st_set a1 a2 a3 u h
  rw [if_neg c1]
  by_cases c2 : op = 2
  · rw [if_pos c2]
    exact st_copy a1 a2 a3 a4 a5 u h
  rw [if_neg c2]
  by_cases c3 : op = 3
  · rw [if_pos c3]
    exact st_drop a1 u h
  rw [if_neg c3]
  by_cases c4 : op = 4
  · rw [if_pos c4]
    exact st_feed a1 a2 a3 u h
  rw [if_neg c4]
  by_cases c5 : op = 5
  · rw [if_pos c5]
    exact st_life  u h
  rw [if_neg c5]
  by_cases c6 : op = 6
  · rw [if_pos c6]
    exact st_fault  u h
  rw [if_neg c6]
  by_cases c7 : op = 7
  · rw [if_pos c7]
    exact st_whose a1 a2 u h
  rw [if_neg c7]
  by_cases c8 : op = 8
  · rw [if_pos c8]
    exact st_thing a1 a2 u h
  rw [if_neg c8]
  by_cases c9 : op = 9
  · rw [if_pos c9]
    exact st_judge a1 a2 u h
  rw [if_neg c9]
  by_cases c10 : op = 10
  · rw [if_pos c10]
    exact st_purse a1 a2 u h
  rw [if_neg c10]
  by_cases c11 : op = 11
  · rw [if_pos c11]
    exact st_fed a1 a2 u h
  rw [if_neg c11]
  by_cases c12 : op = 12
  · rw [if_pos c12]
    exact st_owed a1 a2 a3 u h
  rw [if_neg c12]
  by_cases c13 : op = 13
  · rw [if_pos c13]
    exact st_net a1 a2 u h
  rw [if_neg c13]
  by_cases c14 : op = 14
  · rw [if_pos c14]
    exact st_end a1 a2 u h
  rw [if_neg c14]
  by_cases c15 : op = 15
  · rw [if_pos c15]
    exact st_beside a1 a2 a3 u h
  rw [if_neg c15]
  by_cases c16 : op = 16
  · rw [if_pos c16]
    exact st_hangs  u h
  rw [if_neg c16]
  by_cases c17 : op = 17
  · rw [if_pos c17]
    exact st_beforehand a1 a2 u h
  rw [if_neg c17]
  by_cases c18 : op = 18
  · rw [if_pos c18]
    exact st_kind a1 u h
  rw [if_neg c18]
  by_cases c19 : op = 19
  · rw [if_pos c19]
    exact st_as a1 a2 u h
  rw [if_neg c19]
  by_cases c20 : op = 20
  · rw [if_pos c20]
    exact st_ask a1 a2 u h
  rw [if_neg c20]
  by_cases c21 : op = 21
  · rw [if_pos c21]
    exact st_trace a1 u h
  rw [if_neg c21]
  by_cases c22 : op = 22
  · rw [if_pos c22]
    exact st_count a1 u h
  rw [if_neg c22]
  by_cases c23 : op = 23
  · rw [if_pos c23]
    exact st_status  u h
  rw [if_neg c23]
  exact ⟨u, rfl, h⟩
theorem Inv0 : Inv lu0 := by
  refine ⟨⟨fun r hr => ?_, rfl, rfl, ⟨0, ⟨rfl, by omega, fun k hk => by omega⟩, rfl⟩, ⟨0, by omega, rfl, rfl, fun i hi => by omega⟩⟩, Or.inl ⟨⟨rfl, rfl⟩, ⟨rfl, rfl⟩, ⟨rfl, rfl, rfl⟩, ⟨rfl, rfl⟩, fun p hp => rfl, fun p hp => ⟨rfl, rfl, rfl⟩, fun k hk => rfl, rfl⟩⟩
  have r8 : r = 0 ∨ r = 1 ∨ r = 2 ∨ r = 3 ∨ r = 4 ∨ r = 5 ∨ r = 6 ∨ r = 7 := by omega
  rcases r8 with rfl | rfl | rfl | rfl | rfl | rfl | rfl | rfl <;> exact Or.inl ⟨rfl, rfl⟩
theorem lrun_go {L : Nat} (sc : Nat → Int32) : ∀ (n k : Nat) (u : zLS), Inv u → 6 * k ≤ L → L < 6 * (k + n) → lrun sc L n k u = some () := by
  intro n
  induction n with
  | zero => intro k u h h1 h2; omega
  | succ n ih =>
    intro k u h h1 h2
    have e : lrun sc L (n + 1) k u = if 6 * k + 6 ≤ L then Option.bind (lstep (sc (6 * k) &&& 31) (sc (6 * k + 1)) (sc (6 * k + 2)) (sc (6 * k + 3)) (sc (6 * k + 4)) (sc (6 * k + 5)) u) (fun r => if r.1 = true then lrun sc L n (k + 1) r.2 else none) else some () := rfl
    rw [e]
    by_cases z : 6 * k + 6 ≤ L
    · obtain ⟨u', s1, s2⟩ := step_ok (sc (6 * k) &&& 31) (sc (6 * k + 1)) (sc (6 * k + 2)) (sc (6 * k + 3)) (sc (6 * k + 4)) (sc (6 * k + 5)) u h
      rw [if_pos z, s1, bind_s, if_pos rfl]
      exact ih (k + 1) u' s2 (by omega) (by omega)
    · rw [if_neg z]
theorem lrun_ok {L : Nat} {sc : Nat → Int32} (hL : L ≤ 3072) : lrun sc L 1000 0 lu0 = some () := lrun_go sc 1000 0 lu0 Inv0 (by omega) (by omega)
