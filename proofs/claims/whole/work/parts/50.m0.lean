/-! THE MATH: rows on states and on Option-valued functions -/
theorem zI_zsI (s : zSt) (k : Nat) (v : Int32) (j : Nat) : zI (zsI s k v) j = if j = k then v else zI s j := rfl
theorem zI_zsAf (s : zSt) (k : Nat) (f : Nat → Int32) (j : Nat) : zI (zsAf s k f) j = zI s j := rfl
theorem zI_zsJ (s : zSt) (k : Nat) (v : Int64) (j : Nat) : zI (zsJ s k v) j = zI s j := rfl
theorem zI_zsLf (s : zSt) (k : Nat) (f : Nat → Int64) (j : Nat) : zI (zsLf s k f) j = zI s j := rfl
theorem zA_zsI (s : zSt) (k : Nat) (v : Int32) (j : Nat) : zA (zsI s k v) j = zA s j := rfl
theorem zA_zsAf (s : zSt) (k : Nat) (f : Nat → Int32) (j : Nat) : zA (zsAf s k f) j = if j = k then f else zA s j := rfl
theorem zA_zsJ (s : zSt) (k : Nat) (v : Int64) (j : Nat) : zA (zsJ s k v) j = zA s j := rfl
theorem zA_zsLf (s : zSt) (k : Nat) (f : Nat → Int64) (j : Nat) : zA (zsLf s k f) j = zA s j := rfl
theorem zJ_zsI (s : zSt) (k : Nat) (v : Int32) (j : Nat) : zJ (zsI s k v) j = zJ s j := rfl
theorem zJ_zsAf (s : zSt) (k : Nat) (f : Nat → Int32) (j : Nat) : zJ (zsAf s k f) j = zJ s j := rfl
theorem zJ_zsJ (s : zSt) (k : Nat) (v : Int64) (j : Nat) : zJ (zsJ s k v) j = if j = k then v else zJ s j := rfl
theorem zJ_zsLf (s : zSt) (k : Nat) (f : Nat → Int64) (j : Nat) : zJ (zsLf s k f) j = zJ s j := rfl
theorem zL_zsI (s : zSt) (k : Nat) (v : Int32) (j : Nat) : zL (zsI s k v) j = zL s j := rfl
theorem zL_zsAf (s : zSt) (k : Nat) (f : Nat → Int32) (j : Nat) : zL (zsAf s k f) j = zL s j := rfl
theorem zL_zsJ (s : zSt) (k : Nat) (v : Int64) (j : Nat) : zL (zsJ s k v) j = zL s j := rfl
theorem zL_zsLf (s : zSt) (k : Nat) (f : Nat → Int64) (j : Nat) : zL (zsLf s k f) j = if j = k then f else zL s j := rfl
theorem zsA_def (s : zSt) (k i : Nat) (v : Int32) : zsA s k i v = zsAf s k (upd (zA s k) i v) := rfl
theorem zsL_def (s : zSt) (k i : Nat) (v : Int64) : zsL s k i v = zsLf s k (vp_updL (zL s k) i v) := rfl
theorem upd_app (f : Nat → Int32) (k : Nat) (v : Int32) (j : Nat) : upd f k v j = if j = k then v else f j := rfl
theorem updL_app (f : Nat → Int64) (k : Nat) (v : Int64) (j : Nat) : vp_updL f k v j = if j = k then v else f j := rfl
theorem zn_eq {α β : Type} (e : α) (k : α → Option β) : zn e k = k e := rfl
theorem zst_ext {s t : zSt} (h1 : ∀ k, zI s k = zI t k) (h2 : ∀ k i, zA s k i = zA t k i) (h3 : ∀ k, zJ s k = zJ t k) (h4 : ∀ k i, zL s k i = zL t k i) : s = t := by
  obtain ⟨a, b, c, d⟩ := s
  obtain ⟨a', b', c', d'⟩ := t
  have e1 : a = a' := funext h1
  have e2 : b = b' := funext fun k => funext (h2 k)
  have e3 : c = c' := funext h3
  have e4 : d = d' := funext fun k => funext (h4 k)
  rw [e1, e2, e3, e4]
theorem zsAf_self (s : zSt) (k : Nat) : zsAf s k (zA s k) = s := zst_ext (fun _ => rfl) (fun j i => by simp only [zA_zsAf]; split <;> simp_all) (fun _ => rfl) (fun _ _ => rfl)
theorem zsAf_twice (s : zSt) (k : Nat) (f g : Nat → Int32) : zsAf (zsAf s k f) k g = zsAf s k g := zst_ext (fun _ => rfl) (fun j i => by simp only [zA_zsAf]; split <;> simp_all) (fun _ => rfl) (fun _ _ => rfl)
theorem zsI_twice (s : zSt) (k : Nat) (f g : Int32) : zsI (zsI s k f) k g = zsI s k g := zst_ext (fun j => by simp only [zI_zsI]; split <;> simp_all) (fun _ _ => rfl) (fun _ => rfl) (fun _ _ => rfl)
/-- the function has a value, and Q holds of it -/
def zok {α : Type} (e : Option α) (Q : α → Prop) : Prop := ∃ a, e = some a ∧ Q a
theorem zok_some {α : Type} {a : α} {Q : α → Prop} (h : Q a) : zok (some a) Q := ⟨a, rfl, h⟩
theorem zok_zn {α β : Type} {e : α} {k : α → Option β} {Q : β → Prop} (h : zok (k e) Q) : zok (zn e k) Q := h
theorem zok_zg {β : Type} {b : Bool} {k : Option β} {Q : β → Prop} (hb : b = true) (h : zok k Q) : zok (zg b k) Q := by
  unfold zg; rw [if_pos hb]; exact h
theorem zok_ite {β : Type} {P : Prop} {d : Decidable P} {p q : Option β} {Q : β → Prop} (h1 : P → zok p Q) (h2 : ¬ P → zok q Q) : zok (@ite _ P d p q) Q := by
  by_cases h : P
  · rw [if_pos h]; exact h1 h
  · rw [if_neg h]; exact h2 h
theorem zok_t {β : Type} {P : Prop} {d : Decidable P} {p q : Option β} {Q : β → Prop} (h : P) (h1 : zok p Q) : zok (@ite _ P d p q) Q := by rw [if_pos h]; exact h1
theorem zok_f {β : Type} {P : Prop} {d : Decidable P} {p q : Option β} {Q : β → Prop} (h : ¬ P) (h1 : zok q Q) : zok (@ite _ P d p q) Q := by rw [if_neg h]; exact h1
theorem zok_bind {α β : Type} {e : Option α} {k : α → Option β} {Q : β → Prop} (h : zok e (fun y => zok (k y) Q)) : zok (Option.bind e k) Q := by
  obtain ⟨a, rfl, h⟩ := h
  exact h
theorem zok_mono {α : Type} {e : Option α} {P Q : α → Prop} (h : zok e P) (hq : ∀ a, P a → Q a) : zok e Q := by
  obtain ⟨a, h1, h2⟩ := h
  exact ⟨a, h1, hq a h2⟩
theorem zok_eq {α : Type} {e : Option α} {a : α} {Q : α → Prop} (h : e = some a) (hq : Q a) : zok e Q := ⟨a, h, hq⟩
theorem zg_t {β : Type} {b : Bool} {k : Option β} (hb : b = true) : zg b k = k := by unfold zg; rw [if_pos hb]
theorem zix_t {j n : Nat} (h : j < n) (hn : n ≤ 1000) : zix (nI j) n = true := decide_eq_true (vp_in_nI h (by omega))
theorem bind_s {α β : Type} {a : α} {k : α → Option β} : Option.bind (some a) k = k a := rfl
theorem nlt {a b : Nat} (ha : a < 2 ^ 31) (hb : b < 2 ^ 31) : (nI a < nI b) = (a < b) := propext (nI_ltI ha hb)
theorem nle {a b : Nat} (ha : a < 2 ^ 31) (hb : b < 2 ^ 31) : (nI a ≤ nI b) = (a ≤ b) := propext (nI_leI ha hb)
theorem neq {a b : Nat} (ha : a < 2 ^ 31) (hb : b < 2 ^ 31) : (nI a = nI b) = (a = b) := propext (nI_eq ha hb)
theorem toInt64_toInt (a : Int32) : a.toInt64.toInt = a.toInt := by simp
/-- in(v, low, high) of the reference, over ints -/
theorem fM_in_eq (x l h : Int64) : fM_in x l h = some (decide (l ≤ x ∧ x ≤ h)) := by
  unfold fM_in
  by_cases h1 : x < l
  · rw [if_pos h1]
    have : ¬ (l ≤ x ∧ x ≤ h) := fun z => absurd h1 (Int64.not_lt.mpr z.1)
    simp [this]
  · rw [if_neg h1]
    by_cases h2 : h < x
    · rw [if_pos h2]
      have : ¬ (l ≤ x ∧ x ≤ h) := fun z => absurd h2 (Int64.not_lt.mpr z.2)
      simp [this]
    · rw [if_neg h2]
      have : l ≤ x ∧ x ≤ h := ⟨Int64.not_lt.mp h1, Int64.not_lt.mp h2⟩
      simp [this]
theorem fM_in_int (a : Int32) (l h : Int64) : fM_in a.toInt64 l h = some (decide (l.toInt ≤ a.toInt ∧ a.toInt ≤ h.toInt)) := by
  rw [fM_in_eq]
  simp only [Int64.le_iff_toInt_le, toInt64_toInt]
theorem nI_int {n : Nat} (h : n < 2 ^ 31) : (nI n).toInt = (n : Int) := nI_toInt h
theorem nI_cases (a : Int32) (n : Nat) (hn : n < 2 ^ 31) : (a.toInt < 0) ∨ ((n : Int) ≤ a.toInt) ∨ ∃ j : Nat, j < n ∧ a = nI j := by
  rcases pk_ix a hn with h | h | h
  · left; have := Int32.lt_iff_toInt_lt.mp h; simpa using this
  · right; left; have := Int32.le_iff_toInt_le.mp h; rwa [nI_int hn] at this
  · right; right; exact h
