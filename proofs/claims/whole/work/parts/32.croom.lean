/-! the class's room by rho -/
section CR
variable {D : wd_D} {q n : Nat} {r : Rho}
theorem le_nI {a b : Nat} (ha : a ≤ 1000) (hb : b ≤ 1000) : nI a ≤ nI b ↔ a ≤ b := nI_leI (by omega) (by omega)
theorem lt_nI {a b : Nat} (ha : a ≤ 1000) (hb : b ≤ 1000) : nI a < nI b ↔ a < b := nI_ltI (by omega) (by omega)
theorem eq_nI {a b : Nat} (ha : a ≤ 1000) (hb : b ≤ 1000) : nI a = nI b ↔ a = b := nI_eq (by omega) (by omega)
theorem c_those_L (h : RepC D q n r) (hn : n ≤ 7) (hr : r 41 = nI n) (how : Int32) : ∀ d c m, c + d = n → d < m → f_X3_thoseWho_L4 m q how (setOf (fun k => decide (r (8 + k) = how)) c) (nI c) D = some (thS r n how) := by
  intro d
  induction d with
  | zero =>
    intro c m hc hm
    obtain ⟨m, rfl⟩ : ∃ m', m = m' + 1 := ⟨m - 1, by omega⟩
    rw [f_X3_thoseWho_L4, h.f41, hr, if_pos ((le_nI (by omega) (by omega)).mpr (by omega))]
    have : c = n := by omega
    subst this; rfl
  | succ d ih =>
    intro c m hc hm
    obtain ⟨m, rfl⟩ : ∃ m', m = m' + 1 := ⟨m - 1, by omega⟩
    rw [f_X3_thoseWho_L4, h.f41, hr, if_neg (fun z => by have := (le_nI (by omega) (by omega)).mp z; omega), h.r8 hn (by omega)]
    have e := ih (c + 1) m (by omega) (by omega)
    simp only [Option.bind_some]
    unfold setOf at e
    by_cases hw : r (8 + c) = how
    · rw [if_pos hw]
      simp only [ap, f_X3_thoseWho_L28, nI_1]
      rw [if_pos (by simp [hw])] at e
      exact e
    · rw [if_neg hw]
      simp only [ap, f_X3_thoseWho_L28, nI_1]
      rw [if_neg (by simp [hw])] at e
      exact e
theorem c_those (h : RepC D q n r) (hn : n ≤ 7) (hr : r 41 = nI n) (how : Int32) : f_X3_thoseWho q how D = some (thS r n how) := by
  unfold f_X3_thoseWho
  exact c_those_L h hn hr how n 0 FU (by omega) (by unfold FU; omega)
theorem c_criers (h : RepC D q n r) (hn : n ≤ 7) (hr : r 41 = nI n) : f_X3_heardCriers q D = some (crS r n) := by
  unfold f_X3_heardCriers
  rw [c_those h hn hr, Option.bind_some, h.f36]; rfl
theorem c_calls (h : RepC D q n r) (hn : n ≤ 7) {c : Nat} (hc : c < n) : f_X3_callsOf q (nI c) D = some (callsS r c) := by
  unfold f_X3_callsOf callsS
  rw [h.r42 hn hc, h.r56 hn hc]
  simp only [Option.bind_some]
  split <;> rfl
theorem c_bears (h : RepC D q n r) (hn : n ≤ 7) (ok : Ok n r) {c : Nat} (hc : c < n) : f_X3_bearsOf q (nI c) D = some (bearsS r c) := by
  obtain ⟨a, h1, h2, h3⟩ := (ok.2.2.2.2.2 c hc).1
  unfold f_X3_bearsOf f_X3_bearsOf_L20 bearsS
  rw [h.r42 hn hc, h.r49 hn hc, h3]
  simp only [Option.bind_some]
  have k : ∀ a, 1 ≤ a → a < 6 → ∀ x : Int32, (if nI a = 4 then some (2 * x) else if nI a = 5 then some (2 * x) else some x) = some (if nI a < 4 then x else 2 * x) := by
    intro a h1 h2 x
    rcases (show a = 1 ∨ a = 2 ∨ a = 3 ∨ a = 4 ∨ a = 5 by omega) with rfl | rfl | rfl | rfl | rfl <;> rfl
  exact k a h1 h2 _
theorem crS_hb {k : Nat} (hn : n ≤ 7) : hb (crS r n) k = (decide (k < n) && decide (r (8 + k) = 1) && !hb (r 36) k) := by
  by_cases h32 : k < 32
  · unfold crS thS
    rw [hb_and, hb_setOf _ h32 n (by omega), hb_not h32]
  · have : ¬ k < n := by omega
    simp only [this, decide_false, Bool.false_and]
    exact b_big (by omega)
theorem noS_skip {c : Nat} : ∀ d k, (∀ i, k ≤ i → i < k + d → ¬ (i ≠ c ∧ r (8 + i) = 1 ∧ hb (r 36) i = false)) → noS r c (k + d) = noS r c k := by
  intro d
  induction d with
  | zero => intro k _; rfl
  | succ d ih =>
    intro k h
    rw [← Nat.add_assoc]
    show (if _ then _ else _) = _
    rw [if_neg (h (k + d) (by omega) (by omega))]
    exact ih k (fun i h1 h2 => h i h1 (by omega))
theorem tm_eq : ∀ v, v < 19 → ∀ a, a < 7 → ∀ b, b < 7 → (if 0 < (nI v - (if 0 ≤ (nI a - nI b) then (nI a - nI b) else 0 - (nI a - nI b))) then (nI v - (if 0 ≤ (nI a - nI b) then (nI a - nI b) else 0 - (nI a - nI b))) else 0) = (if nI v ≤ f_X7_off (nI a) (nI b) then 0 else nI v - f_X7_off (nI a) (nI b)) := by decide +kernel
theorem calls_nI (ok : Ok n r) {k : Nat} (hk : k < n) : ∃ v, v < 19 ∧ callsS r k = nI v := by
  obtain ⟨a, h1, h2⟩ := (ok.2.2.2.2.2 k hk).2.2.2.1
  unfold callsS
  rw [h2]
  split
  · exact ⟨2 * a, by omega, by rw [show (2 : Int32) = nI 2 from rfl, pk_mul]⟩
  · exact ⟨a, by omega, rfl⟩
/-- two rooms that are alike but for how, left, calm, the minute -/
def Like (n : Nat) (s r : Rho) : Prop := ∀ j, (1 ≤ j ∧ j < 8 ∨ 29 ≤ j) → s j = r j
theorem c_noise_L {s : Rho} (h : RepC D q n s) (hs : Like n s r) (ok : Ok n r) {c : Nat} (hc : c < n) : ∀ d k m, k + d = n → d < m → f_X3_noiseAt_L5 m q (nI c) (crS r n) (noS r c k) (nI k) D = some (noS r c n) := by
  have hn := ok.1
  intro d
  induction d with
  | zero =>
    intro k m hk hm
    obtain ⟨m, rfl⟩ : ∃ m', m = m' + 1 := ⟨m - 1, by omega⟩
    rw [f_X3_noiseAt_L5, h.f41, hs 41 (by omega), ok.2.1, if_pos ((le_nI (by omega) (by omega)).mpr (by omega))]
    have : k = n := by omega
    subst this; rfl
  | succ d ih =>
    intro k m hk hm
    obtain ⟨m, rfl⟩ : ∃ m', m = m' + 1 := ⟨m - 1, by omega⟩
    rw [f_X3_noiseAt_L5, h.f41, hs 41 (by omega), ok.2.1, if_neg (fun z => by have := (le_nI (by omega) (by omega)).mp z; omega)]
    have e := ih (k + 1) m (by omega) (by omega)
    have e0 : noS r c (k + 1) = if k ≠ c ∧ r (8 + k) = 1 ∧ hb (r 36) k = false then noS r c k + tmS r k c else noS r c k := rfl
    by_cases hz : crS r n = 0
    · rw [if_pos hz, ← hk, noS_skip (d + 1) k ?_]
      intro i h1 h2 h3
      have h4 := crS_hb (r := r) (n := n) (k := i) hn
      rw [hz, hb_0, h3.2.1, h3.2.2] at h4
      simp at h4
      omega
    · rw [if_neg hz]
      by_cases hkc : k = c
      · rw [if_pos (by rw [hkc]), f_X3_noiseAt_L64]
        simp only [ap, nI_1]
        rw [e0, if_neg (fun z => z.1 hkc)] at e
        exact e
      · rw [if_neg (fun z => hkc ((eq_nI (by omega) (by omega)).mp z)), hb_has (by omega), crS_hb hn]
        by_cases hx : r (8 + k) = 1 ∧ hb (r 36) k = false
        · rw [e0, if_pos ⟨hkc, hx⟩] at e
          have hkn : k < n := by omega
          simp only [hx.1, hx.2, hkn, decide_true, Bool.not_false, Bool.and_self, if_true]
          rw [if_neg (by decide), c_calls h hn (by omega), h.r29 hn (by omega), h.r29 hn hc, show callsS s k = callsS r k by unfold callsS; rw [hs (42 + k) (by omega), hs (56 + k) (by omega)], hs (29 + k) (by omega), hs (29 + c) (by omega)]
          simp only [Option.bind_some, ap, f_X3_noiseAt_L64, nI_1]
          obtain ⟨v, v1, v2⟩ := calls_nI ok (k := k) (by omega)
          obtain ⟨a, a1, a2⟩ := (ok.2.2.2.2.2 k (by omega)).2.2.1
          obtain ⟨b, b1, b2⟩ := (ok.2.2.2.2.2 c hc).2.2.1
          have e2 : tmS r k c = (if 0 < (callsS r k - (if 0 ≤ (r (29 + k) - r (29 + c)) then (r (29 + k) - r (29 + c)) else 0 - (r (29 + k) - r (29 + c)))) then (callsS r k - (if 0 ≤ (r (29 + k) - r (29 + c)) then (r (29 + k) - r (29 + c)) else 0 - (r (29 + k) - r (29 + c)))) else 0) := by
            unfold tmS farS
            rw [v2, a2, b2]
            exact (tm_eq v v1 a a1 b b1).symm
          rw [e2] at e
          exact e
        · rw [e0, if_neg (fun z => hx z.2)] at e
          have hf : (decide (k < n) && decide (r (8 + k) = 1) && !hb (r 36) k) = false := by
            cases hq : hb (r 36) k with
            | true => simp
            | false =>
              have : ¬ r (8 + k) = 1 := fun z => hx ⟨z, hq⟩
              simp [this]
          rw [hf, if_pos (by decide), f_X3_noiseAt_L64]
          simp only [ap, nI_1]
          exact e
theorem c_noise' {s : Rho} (h : RepC D q n s) (hs : Like n s r) (ok : Ok n r) {c : Nat} (hc : c < n) : f_X3_noiseAt q (nI c) (crS r n) D = some (noS r c n) := by
  unfold f_X3_noiseAt
  exact c_noise_L h hs ok hc n 0 FU (by omega) (by have := ok.1; unfold FU; omega)
theorem c_noise (h : RepC D q n r) (ok : Ok n r) {c : Nat} (hc : c < n) : f_X3_noiseAt q (nI c) (crS r n) D = some (noS r c n) := c_noise' h (fun _ _ => rfl) ok hc
end CR
