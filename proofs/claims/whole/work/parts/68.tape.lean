/-! THE TAPE IS READ: by tokens, by bytes -/
def TP (D : wd_D) (n : Nat) (tb : Nat → Nat) : Prop := n ≤ 120 ∧ D.1 2 1 = nI n ∧ ∀ j, j < n → D.1 3 j = nI (tb j) ∧ tb j < 256
def dg (b : Nat) : Prop := 48 ≤ b ∧ b ≤ 57
theorem fig_e {b : Nat} (hb : b < 256) : f_X5_isFigure (nI b) = if 48 ≤ b ∧ b ≤ 57 then 1 else 0 := by
  unfold f_X5_isFigure
  by_cases h1 : b < 48
  · rw [if_pos (show nI b < 48 from (lt_nI (b := 48) (by omega) (by omega)).mpr h1), if_neg (by omega)]
  · rw [if_neg (show ¬ nI b < 48 from fun z => h1 ((lt_nI (b := 48) (by omega) (by omega)).mp z))]
    by_cases h2 : 57 < b
    · rw [if_pos (show (57 : Int32) < nI b from (lt_nI (a := 57) (by omega) (by omega)).mpr h2), if_neg (by omega)]
    · rw [if_neg (show ¬ (57 : Int32) < nI b from fun z => h2 ((lt_nI (a := 57) (by omega) (by omega)).mp z)), if_pos (by omega)]
theorem fig_y {b : Nat} (hb : b < 256) (h : dg b) : f_X5_isFigure (nI b) = 1 := by rw [fig_e hb, if_pos (show 48 ≤ b ∧ b ≤ 57 from h)]
theorem fig_n {b : Nat} (hb : b < 256) (h : ¬ dg b) : f_X5_isFigure (nI b) = 0 := by rw [fig_e hb, if_neg (show ¬ (48 ≤ b ∧ b ≤ 57) from h)]
/-- so many figures stand there -/
def Run (tb : Nat → Nat) (n p k : Nat) : Prop := p + k ≤ n ∧ (∀ j, j < k → dg (tb (p + j))) ∧ (p + k = n ∨ ¬ dg (tb (p + k)))
theorem run_ex (tb : Nat → Nat) (n : Nat) : ∀ d p, p + d = n → ∃ k, Run tb n p k := by
  intro d
  induction d with
  | zero => intro p h; exact ⟨0, by omega, fun j hj => absurd hj (by omega), Or.inl (by omega)⟩
  | succ d ih =>
    intro p h
    rcases Classical.em (dg (tb p)) with hd | hd
    · obtain ⟨k, h1, h2, h3⟩ := ih (p + 1) (by omega)
      refine ⟨k + 1, by omega, fun j hj => ?_, ?_⟩
      · by_cases e : j = 0
        · subst e; exact hd
        · have := h2 (j - 1) (by omega)
          rw [show p + 1 + (j - 1) = p + j by omega] at this
          exact this
      · rw [show p + (k + 1) = p + 1 + k by omega]; exact h3
    · exact ⟨0, by omega, fun j hj => absurd hj (by omega), Or.inr hd⟩
section CT
variable {D : wd_D} {n p : Nat} {tb : Nat → Nat}
theorem TP.rd (h : TP D n tb) (hp : p < n) : rd 120 D 3 (nI p) = some (nI (tb p)) := by
  have := h.1
  rw [rd_nI D 3 (show p < 120 by omega), (h.2.2 p hp).1]
theorem wi_run (h : TP D n tb) {k : Nat} (hr : Run tb n p k) (a1 : Int32) : ∀ d j m, j + d = k → d < m → f_X5_widthAt_L38 m a1 (nI j) (nI (p + j)) D = some (if k ≤ 2 then nI k else 0) := by
  have h0 := h.1
  have hr1 := hr.1
  intro d
  induction d with
  | zero =>
    intro j m hj hm
    obtain ⟨m, rfl⟩ : ∃ m', m = m' + 1 := ⟨m - 1, by omega⟩
    have e : j = k := by omega
    subst e
    have fin : f_X5_widthAt_L69 a1 (nI j) D = some (if j ≤ 2 then nI j else 0) := by
      unfold f_X5_widthAt_L69
      by_cases c : j ≤ 2
      · rw [if_pos (show nI j ≤ 2 from (le_nI (b := 2) (by omega) (by omega)).mpr c), if_pos c]
      · rw [if_neg (show ¬ nI j ≤ 2 from fun z => c ((le_nI (b := 2) (by omega) (by omega)).mp z)), if_neg c]
    rw [f_X5_widthAt_L38, gI_e, h.2.1]
    by_cases c : n ≤ p + j
    · rw [if_pos ((le_nI (by omega) (by omega)).mpr c), fin]
    · rw [if_neg (fun z => c ((le_nI (by omega) (by omega)).mp z)), h.rd (by omega), Option.bind_some, fig_n (h.2.2 _ (by omega)).2 (hr.2.2.resolve_left (by omega)), i00, fin]
  | succ d ih =>
    intro j m hj hm
    obtain ⟨m, rfl⟩ : ∃ m', m = m' + 1 := ⟨m - 1, by omega⟩
    rw [f_X5_widthAt_L38, gI_e, h.2.1, if_neg (fun z => by have := (le_nI (by omega) (by omega)).mp z; omega), h.rd (by omega), Option.bind_some, fig_y (h.2.2 _ (by omega)).2 (hr.2.1 j (by omega)), i10, ap_e, ap_e, nI_1, nI_1]
    exact ih (j + 1) m (by omega) (by omega)
theorem wi_dig (h : TP D n tb) (hp : p < n) (hd : dg (tb p)) {k : Nat} (hr : Run tb n p k) : f_X5_widthAt (nI p) D = some (if k ≤ 2 then nI k else 0) := by
  have hb := (h.2.2 p hp).2
  have h0 := h.1
  have hr1 := hr.1
  unfold dg at hd
  unfold f_X5_widthAt f_X5_widthAt_L19
  rw [h.rd hp, Option.bind_some, if_pos (show nI (tb p) < 97 from (lt_nI (b := 97) (by omega) (by omega)).mpr (by omega)), if_neg (show ¬ nI (tb p) = 44 from fun z => by have := (eq_nI (b := 44) (by omega) (by omega)).mp z; omega), if_neg (show ¬ nI (tb p) = 59 from fun z => by have := (eq_nI (b := 59) (by omega) (by omega)).mp z; omega)]
  exact wi_run h hr (nI p) k 0 FU (by omega) (by unfold FU; omega)
theorem wi_not (h : TP D n tb) (hp : p < n) (hd : ¬ dg (tb p)) : f_X5_widthAt (nI p) D = some 0 ∨ f_X5_widthAt (nI p) D = some 1 := by
  have hb := (h.2.2 p hp).2
  have h0 := h.1
  unfold f_X5_widthAt
  rw [h.rd hp, Option.bind_some]
  have hl : f_X5_widthAt_L19 (nI p) (nI (tb p)) D = some 0 ∨ f_X5_widthAt_L19 (nI p) (nI (tb p)) D = some 1 := by
    unfold f_X5_widthAt_L19
    by_cases c1 : nI (tb p) = 44
    · rw [if_pos c1]; exact Or.inr rfl
    · rw [if_neg c1]
      by_cases c2 : nI (tb p) = 59
      · rw [if_pos c2]; exact Or.inr rfl
      · rw [if_neg c2]
        exact Or.inl (wi_run (k := 0) h ⟨by omega, fun j hj => absurd hj (by omega), Or.inr hd⟩ (nI p) 0 0 FU (by omega) (by unfold FU; omega))
  by_cases c1 : nI (tb p) < 97
  · rw [if_pos c1]; exact hl
  · rw [if_neg c1]
    by_cases c2 : nI (tb p) ≤ 122
    · rw [if_pos c2]; exact Or.inr rfl
    · rw [if_neg c2]; exact hl
theorem wi_one (h : TP D n tb) (hp : p < n) (hc : (97 ≤ tb p ∧ tb p ≤ 122) ∨ tb p = 44 ∨ tb p = 59) : f_X5_widthAt (nI p) D = some 1 := by
  have hb := (h.2.2 p hp).2
  unfold f_X5_widthAt f_X5_widthAt_L19
  rw [h.rd hp, Option.bind_some]
  by_cases c1 : tb p < 97
  · rw [if_pos (show nI (tb p) < 97 from (lt_nI (b := 97) (by omega) (by omega)).mpr c1)]
    rcases (show tb p = 44 ∨ tb p = 59 by omega) with e | e
    · rw [e, if_pos (show nI 44 = 44 from rfl)]
    · rw [e, if_neg (show ¬ nI 59 = 44 by decide), if_pos (show nI 59 = 59 from rfl)]
  · rw [if_neg (show ¬ nI (tb p) < 97 from fun z => c1 ((lt_nI (b := 97) (by omega) (by omega)).mp z)), if_pos (show nI (tb p) ≤ 122 from (le_nI (b := 122) (by omega) (by omega)).mpr (by omega))]
/-- what the figures say -/
def vd (tb : Nat → Nat) (p : Nat) : Nat → Int32
  | 0 => 0
  | j + 1 => ((10 * vd tb p j) + nI (tb (p + j))) - 48
theorem vl_run (h : TP D n tb) {k : Nat} (hk : p + k ≤ n) : ∀ d j m, j + d = k → d < m → f_X5_valueAt_L24 m (nI p) (nI k) (vd tb p j) (nI (p + j)) D = some (vd tb p k) := by
  have h0 := h.1
  intro d
  induction d with
  | zero =>
    intro j m hj hm
    obtain ⟨m, rfl⟩ : ∃ m', m = m' + 1 := ⟨m - 1, by omega⟩
    have e : j = k := by omega
    subst e
    rw [f_X5_valueAt_L24, nI_add, if_pos ((le_nI (by omega) (by omega)).mpr (by omega))]
  | succ d ih =>
    intro j m hj hm
    obtain ⟨m, rfl⟩ : ∃ m', m = m' + 1 := ⟨m - 1, by omega⟩
    rw [f_X5_valueAt_L24, nI_add, if_neg (fun z => by have := (le_nI (by omega) (by omega)).mp z; omega), gI_e, h.2.1, if_neg (fun z => by have := (le_nI (by omega) (by omega)).mp z; omega), h.rd (by omega), Option.bind_some, ap_e, ap_e, nI_1]
    exact ih (j + 1) m (by omega) (by omega)
theorem vl_dig (h : TP D n tb) (hd : dg (tb p)) {k : Nat} (hk : p + k ≤ n) (h1 : 0 < k) : f_X5_valueAt (nI p) (nI k) D = some (vd tb p k) := by
  have h0 := h.1
  unfold f_X5_valueAt
  rw [h.rd (by omega), Option.bind_some, fig_y (h.2.2 p (by omega)).2 hd, i10]
  exact vl_run h hk k 0 FU (by omega) (by unfold FU; omega)
theorem vl_not (h : TP D n tb) (hp : p < n) (hd : ¬ dg (tb p)) (w : Int32) : f_X5_valueAt (nI p) w D = some (nI (tb p)) := by
  unfold f_X5_valueAt
  rw [h.rd hp, Option.bind_some, fig_n (h.2.2 p hp).2 hd, i00, Option.bind_some]
/-! one token, in the class -/
theorem ct_end (h : TP D n tb) {M : Nat} {s : Int32} (hs : ¬ s = 5 ∨ D.1 13 0 = 0) : f_X5_readInto_L11 (M + 1) 13 s (nI n) D = some (nI n, sI D 2 2 1) := by
  rw [f_X5_readInto_L11, gI_e, h.2.1, if_pos ((le_nI (by have := h.1; omega) (by have := h.1; omega)).mpr (Nat.le_refl _))]
  have e : f_X5_readInto_L106 13 D = some (nI n, sI D 2 2 1) := by
    unfold f_X5_readInto_L106
    rw [ap_e, gI_e, sI_ne (by omega), h.2.1]
  by_cases c : s = 5
  · rw [if_pos c, if_pos (show gI D 13 0 = 0 from hs.resolve_left (fun z => z c)), e]
  · rw [if_neg c, e]
theorem ct_bad (h : TP D n tb) (hp : p < n) {M : Nat} {s w f : Int32} (hw : f_X5_widthAt (nI p) D = some w) (hf : f_X5_faultAt (nI p) w s (D.1 13 0) D = some f) (h0 : ¬ f = 0) : f_X5_readInto_L11 (M + 1) 13 s (nI p) D = some (nI p, sI D 2 2 f) := by
  rw [f_X5_readInto_L11, gI_e, h.2.1, if_neg (fun z => by have := (le_nI (by have := h.1; omega) (by have := h.1; omega)).mp z; omega), hw, Option.bind_some, gI_e, hf, Option.bind_some, ap_e, gI_e, sI_eq, if_neg h0]
theorem ct_good (h : TP D n tb) (hp : p < n) {M s w : Nat} {v : Int32} {Q : wd_D} (hs : s < 12) (hw1 : 1 ≤ w) (hw2 : w ≤ 2) (hw : f_X5_widthAt (nI p) D = some (nI w)) (hf : f_X5_faultAt (nI p) (nI w) (nI s) (D.1 13 0) D = some 0) (hv : f_X5_valueAt (nI p) (nI w) (sI D 2 2 0) = some v) (hq : f_X5_put 13 (nI s) v (sI D 2 2 0) = some Q) : f_X5_readInto_L11 (M + 1) 13 (nI s) (nI p) D = f_X5_readInto_L11 M 13 (nI (if s = 11 then 5 else s + 1)) (nI (p + w)) Q := by
  have e : ∀ z, f_X5_readInto_L80 (f_X5_readInto_L11 M) 13 (nI w) (nI p) z Q = f_X5_readInto_L11 M 13 z (nI (p + w)) Q := by
    intro z
    unfold f_X5_readInto_L80
    rw [ap_e]
    have : (if (1 : Int32) < nI w then nI w else 1) = nI w := by
      rcases (show w = 1 ∨ w = 2 by omega) with rfl | rfl <;> rfl
    rw [this, nI_add]
  rw [f_X5_readInto_L11, gI_e, h.2.1, if_neg (fun z => by have := (le_nI (by have := h.1; omega) (by have := h.1; omega)).mp z; omega), hw, Option.bind_some, gI_e, hf, Option.bind_some, ap_e, gI_e, sI_eq, i00, hv, Option.bind_some, hq, Option.bind_some, e, e, nI_1]
  by_cases c : s = 11
  · subst c; rfl
  · rw [if_neg c, if_neg (show ¬ (12 : Int32) ≤ nI (s + 1) from fun z => by have := (le_nI (a := 12) (by omega) (by omega)).mp z; omega)]
end CT
