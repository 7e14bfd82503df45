/-! lorries: the number of cases, and cancelling -/
theorem c1_e {a d : Nat} (ha : a < 2 ^ 31) (h0 : 0 < d) (hd : d < 2 ^ 31) : lg_cmp (lN a - lN a / lN d * lN d) 0 = 0 ↔ a % d = 0 := by
  rw [cmp_eq, pk_lRem (by omega) h0 (by omega)]
  have : a % d < 2 ^ 31 := Nat.lt_of_le_of_lt (Nat.mod_le a d) ha
  exact lN_eq this (by decide : 0 < 2 ^ 31)
theorem sJ_eq {D : wd_D} {k j : Nat} {v : Int64} : (sJ D k j v).2 k j = v := if_pos ⟨rfl, rfl⟩
theorem sJ_ne {D : wd_D} {k j a b : Nat} {v : Int64} (h : ¬ (a = k ∧ b = j)) : (sJ D k j v).2 a b = D.2 a b := if_neg h
theorem gJ_e (D : wd_D) (k j : Nat) : gJ D k j = D.2 k j := rfl
theorem cancelBy_e {D : wd_D} {a b d : Nat} (ha : a < 2 ^ 31) (hb : b < 2 ^ 31) (h0 : 0 < d) (hd : d < 2 ^ 31) (h6 : D.2 241 6 = lN a) (h7 : D.2 241 7 = lN b) : ∃ D' a' b', f_X1_cancelBy (nI d) D = some D' ∧ D'.1 = D.1 ∧ D'.2 241 6 = lN a' ∧ D'.2 241 7 = lN b' ∧ ((a % d = 0 ∧ b % d = 0 ∧ a' = a / d ∧ b' = b / d) ∨ (¬ (a % d = 0 ∧ b % d = 0) ∧ a' = a ∧ b' = b)) := by
  unfold f_X1_cancelBy
  rw [if_neg (nI_ne0 h0 hd), nI_l hd, nzL_n h0 hd, Option.bind_some, gJ_e, gJ_e, h6, h7]
  by_cases c1 : a % d = 0
  · rw [if_pos ((c1_e ha h0 hd).mpr c1), Option.bind_some]
    by_cases c2 : b % d = 0
    · rw [if_pos ((c1_e hb h0 hd).mpr c2), Option.bind_some]
      unfold ap
      dsimp only
      rw [Option.bind_some, gJ_e, sJ_ne (by omega), h7, pk_lDiv (by omega) h0 (by omega), pk_lDiv (by omega) h0 (by omega)]
      exact ⟨_, _, _, rfl, rfl, by rw [sJ_ne (by omega), sJ_eq], sJ_eq, Or.inl ⟨c1, c2, rfl, rfl⟩⟩
    · rw [if_neg (fun z => c2 ((c1_e hb h0 hd).mp z))]
      exact ⟨D, a, b, rfl, rfl, h6, h7, Or.inr ⟨fun z => c2 z.2, rfl, rfl⟩⟩
  · rw [if_neg (fun z => c1 ((c1_e ha h0 hd).mp z))]
    exact ⟨D, a, b, rfl, rfl, h6, h7, Or.inr ⟨fun z => c1 z.1, rfl, rfl⟩⟩
theorem p5_2 : ∀ v, 5 ^ v % 2 = 1
  | 0 => rfl
  | v + 1 => by have := p5_2 v; rw [Nat.pow_succ]; omega
theorem p2_5 : ∀ u, 2 ^ u % 5 ≠ 0
  | 0 => by decide
  | u + 1 => by have := p2_5 u; rw [Nat.pow_succ]; omega
theorem h2_u {u v : Nat} (h : 2 ^ u * 5 ^ v % 2 = 0) : ∃ u', u = u' + 1 := by
  cases u with
  | zero => have := p5_2 v; rw [Nat.pow_zero, Nat.one_mul] at h; omega
  | succ u => exact ⟨u, rfl⟩
theorem h5_v {u v : Nat} (h : 2 ^ u * 5 ^ v % 5 = 0) : ∃ v', v = v' + 1 := by
  cases v with
  | zero => have := p2_5 u; rw [Nat.pow_zero, Nat.mul_one] at h; omega
  | succ v => exact ⟨v, rfl⟩
def Can (a b N k a' b' : Nat) : Prop := ∃ g u v, 0 < g ∧ a = a' * g ∧ b = b' * g ∧ b' = 2 ^ u * 5 ^ v ∧ (u + k ≤ N ∨ u = 0 ∨ a' % 2 = 1) ∧ (v + k ≤ N ∨ v = 0 ∨ a' % 5 ≠ 0)
theorem can_l {a b N k a' b' : Nat} (h : Can a b N k a' b') : a' ≤ a ∧ b' ≤ b := by
  obtain ⟨g, u, v, h0, h1, h2, -⟩ := h
  exact ⟨by rw [h1]; exact Nat.le_mul_of_pos_right _ h0, by rw [h2]; exact Nat.le_mul_of_pos_right _ h0⟩
theorem can_2 {a b N k a' b' c d : Nat} (h : Can a b N k a' b') (hcd : (a' % 2 = 0 ∧ b' % 2 = 0 ∧ c = a' / 2 ∧ d = b' / 2) ∨ (¬ (a' % 2 = 0 ∧ b' % 2 = 0) ∧ c = a' ∧ d = b')) : ∃ g u v, 0 < g ∧ a = c * g ∧ b = d * g ∧ d = 2 ^ u * 5 ^ v ∧ (u + (k + 1) ≤ N ∨ u = 0 ∨ c % 2 = 1) ∧ (v + k ≤ N ∨ v = 0 ∨ c % 5 ≠ 0) := by
  obtain ⟨g, u, v, h0, h1, h2, h3, h4, h5⟩ := h
  rcases hcd with ⟨k1, k2, rfl, rfl⟩ | ⟨k1, rfl, rfl⟩
  · obtain ⟨u', rfl⟩ := h2_u (by rw [← h3]; exact k2)
    have e1 : a' = 2 * (a' / 2) := by omega
    have e2 : b' = 2 * (b' / 2) := by omega
    refine ⟨2 * g, u', v, by omega, ?_, ?_, ?_, by omega, by omega⟩
    · rw [h1, ← Nat.mul_assoc, Nat.mul_comm (a' / 2) 2, ← e1]
    · rw [h2, ← Nat.mul_assoc, Nat.mul_comm (b' / 2) 2, ← e2]
    · rw [h3, Nat.pow_succ, Nat.mul_comm (2 ^ u') 2, Nat.mul_assoc, Nat.mul_div_cancel_left _ (by decide)]
  · refine ⟨g, u, v, h0, h1, h2, h3, ?_, h5⟩
    by_cases c2 : c % 2 = 1
    · exact Or.inr (Or.inr c2)
    · refine Or.inr (Or.inl ?_)
      cases u with
      | zero => rfl
      | succ u => exact absurd ⟨by omega, by rw [h3, Nat.pow_succ, Nat.mul_comm (2 ^ u) 2, Nat.mul_assoc]; exact Nat.mul_mod_right _ _⟩ k1
theorem can_5 {a b N k a' b' c d : Nat} (h : ∃ g u v, 0 < g ∧ a = a' * g ∧ b = b' * g ∧ b' = 2 ^ u * 5 ^ v ∧ (u + (k + 1) ≤ N ∨ u = 0 ∨ a' % 2 = 1) ∧ (v + k ≤ N ∨ v = 0 ∨ a' % 5 ≠ 0)) (hcd : (a' % 5 = 0 ∧ b' % 5 = 0 ∧ c = a' / 5 ∧ d = b' / 5) ∨ (¬ (a' % 5 = 0 ∧ b' % 5 = 0) ∧ c = a' ∧ d = b')) : Can a b N (k + 1) c d := by
  obtain ⟨g, u, v, h0, h1, h2, h3, h4, h5⟩ := h
  rcases hcd with ⟨k1, k2, rfl, rfl⟩ | ⟨k1, rfl, rfl⟩
  · obtain ⟨v', rfl⟩ := h5_v (by rw [← h3]; exact k2)
    have e1 : a' = 5 * (a' / 5) := by omega
    have e2 : b' = 5 * (b' / 5) := by omega
    refine ⟨5 * g, u, v', by omega, ?_, ?_, ?_, by omega, by omega⟩
    · rw [h1, ← Nat.mul_assoc, Nat.mul_comm (a' / 5) 5, ← e1]
    · rw [h2, ← Nat.mul_assoc, Nat.mul_comm (b' / 5) 5, ← e2]
    · rw [h3, Nat.pow_succ, Nat.mul_comm (5 ^ v') 5, Nat.mul_left_comm, Nat.mul_div_cancel_left _ (by decide)]
  · refine ⟨g, u, v, h0, h1, h2, h3, h4, ?_⟩
    by_cases c2 : c % 5 = 0
    · refine Or.inr (Or.inl ?_)
      cases v with
      | zero => rfl
      | succ v => exact absurd ⟨c2, by rw [h3, Nat.pow_succ, Nat.mul_comm (5 ^ v) 5, Nat.mul_left_comm]; exact Nat.mul_mod_right _ _⟩ k1
    · exact Or.inr (Or.inr c2)
theorem cop_2 {a : Nat} (h : a % 2 = 1) : Nat.Coprime a 2 := by
  apply Nat.Coprime.symm
  show Nat.gcd 2 a = 1
  rw [Nat.gcd_rec, h]; decide +kernel
theorem cop_5 {a : Nat} (h : a % 5 ≠ 0) : Nat.Coprime a 5 := by
  apply Nat.Coprime.symm
  show Nat.gcd 5 a = 1
  rw [Nat.gcd_rec]
  rcases (show a % 5 = 1 ∨ a % 5 = 2 ∨ a % 5 = 3 ∨ a % 5 = 4 by omega) with e | e | e | e <;> rw [e] <;> decide +kernel
theorem can_end {a b N a' b' : Nat} (h : Can a b N N a' b') : a / Nat.gcd a b = a' ∧ b / Nat.gcd a b = b' := by
  obtain ⟨g, u, v, h0, h1, h2, h3, h4, h5⟩ := h
  have cp : Nat.Coprime a' b' := by
    rw [h3]
    refine Nat.Coprime.mul_right ?_ ?_
    · rcases (show u = 0 ∨ a' % 2 = 1 by omega) with e | e
      · rw [e, Nat.pow_zero]; exact Nat.coprime_one_right _
      · exact (cop_2 e).pow_right u
    · rcases (show v = 0 ∨ a' % 5 ≠ 0 by omega) with e | e
      · rw [e, Nat.pow_zero]; exact Nat.coprime_one_right _
      · exact (cop_5 e).pow_right v
  have hg : Nat.gcd a b = g := by rw [h1, h2, Nat.gcd_mul_right, cp.gcd_eq_one, Nat.one_mul]
  rw [hg, h1, h2, Nat.mul_div_cancel _ h0, Nat.mul_div_cancel _ h0]
  exact ⟨rfl, rfl⟩
theorem can_loop {a b N : Nat} (hN : N ≤ 8) (ha : a < 2 ^ 31) (hb : b < 2 ^ 31) : ∀ d k m D a' b', k + d = N → d < m → Can a b N k a' b' → D.2 241 6 = lN a' → D.2 241 7 = lN b' → ∃ D', f_X1_cancel_L16 m (nI N) (nI k) D = some D' ∧ D'.1 = D.1 ∧ D'.2 241 6 = lN (a / Nat.gcd a b) ∧ D'.2 241 7 = lN (b / Nat.gcd a b) := by
  intro d
  induction d with
  | zero =>
    intro k m D a' b' hk hm hC h6 h7
    obtain ⟨m, rfl⟩ : ∃ m', m = m' + 1 := ⟨m - 1, by omega⟩
    rw [f_X1_cancel_L16, if_pos ((le_nI (by omega) (by omega)).mpr (by omega))]
    have : k = N := by omega
    subst this
    obtain ⟨e1, e2⟩ := can_end hC
    exact ⟨D, rfl, rfl, by rw [e1]; exact h6, by rw [e2]; exact h7⟩
  | succ d ih =>
    intro k m D a' b' hk hm hC h6 h7
    obtain ⟨m, rfl⟩ : ∃ m', m = m' + 1 := ⟨m - 1, by omega⟩
    rw [f_X1_cancel_L16, if_neg (fun z => by have := (le_nI (by omega) (by omega)).mp z; omega)]
    obtain ⟨l1, l2⟩ := can_l hC
    obtain ⟨D1, a1, b1, e1, q1, j6, j7, r1⟩ := cancelBy_e (D := D) (d := 2) (show a' < 2 ^ 31 by omega) (show b' < 2 ^ 31 by omega) (by decide) (by decide) h6 h7
    have C1 := can_2 hC r1
    have l3 : a1 ≤ a' ∧ b1 ≤ b' := by
      rcases r1 with ⟨-, -, rfl, rfl⟩ | ⟨-, rfl, rfl⟩
      · exact ⟨Nat.div_le_self _ _, Nat.div_le_self _ _⟩
      · exact ⟨Nat.le_refl _, Nat.le_refl _⟩
    obtain ⟨D2, a2, b2, e2, q2, i6, i7, r2⟩ := cancelBy_e (D := D1) (d := 5) (show a1 < 2 ^ 31 by omega) (show b1 < 2 ^ 31 by omega) (by decide) (by decide) j6 j7
    have C2 := can_5 C1 r2
    rw [show (2 : Int32) = nI 2 from rfl, e1, Option.bind_some, show (5 : Int32) = nI 5 from rfl, e2, Option.bind_some]
    unfold ap
    dsimp only
    rw [nI_1]
    obtain ⟨D', e, q, t6, t7⟩ := ih (k + 1) m D2 a2 b2 (by omega) (by omega) C2 i6 i7
    exact ⟨D', e, q.trans (q2.trans q1), t6, t7⟩
theorem gcd_10 (N : Nat) : 10 ^ N / Nat.gcd 0 (10 ^ N) = 1 := by rw [Nat.gcd_zero_left]; exact Nat.div_self (Nat.pos_of_ne_zero (by simp))
theorem cancel_e {D : wd_D} {a N : Nat} (hN : N ≤ 8) (ha : a < 2 ^ 31) (h6 : D.2 241 6 = lN a) (h7 : D.2 241 7 = lN (10 ^ N)) : ∃ D', f_X1_cancel (nI N) D = some D' ∧ D'.1 = D.1 ∧ D'.2 241 6 = lN (a / Nat.gcd a (10 ^ N)) ∧ D'.2 241 7 = lN (10 ^ N / Nat.gcd a (10 ^ N)) := by
  have hp : 10 ^ N < 2 ^ 31 := Nat.lt_of_le_of_lt (Nat.pow_le_pow_right (by decide) hN) (by decide)
  unfold f_X1_cancel f_X1_cancel_L14
  rw [gJ_e, h6]
  by_cases e : a = 0
  · subst e
    rw [if_pos (show lg_cmp (lN 0) 0 = 0 by rw [cmp_eq]; rfl)]
    unfold ap
    dsimp only
    obtain ⟨D', e, q, t6, t7⟩ := can_loop (a := 0) (b := 1) hN (by decide) (by decide) N 0 FU (sJ D 241 7 1) 0 1 (by omega) (by unfold FU; omega) ⟨1, 0, 0, by decide, rfl, rfl, rfl, Or.inr (Or.inl rfl), Or.inr (Or.inl rfl)⟩ (by rw [sJ_ne (by omega)]; exact h6) sJ_eq
    refine ⟨D', e, q, ?_, ?_⟩
    · rw [t6, Nat.zero_div, Nat.zero_div]
    · rw [t7, gcd_10]; rfl
  · rw [if_neg (show ¬ lg_cmp (lN a) 0 = 0 from fun z => e ((lN_eq ha (by decide : 0 < 2 ^ 31)).mp ((cmp_eq _ _).mp z)))]
    exact can_loop hN ha hp N 0 FU D a (10 ^ N) (by omega) (by unfold FU; omega) ⟨1, N, N, by decide, by rw [Nat.mul_one], by rw [Nat.mul_one], by rw [← Nat.mul_pow], Or.inl (Nat.le_refl _), Or.inl (Nat.le_refl _)⟩ h6 h7
/-- Euclid -/
theorem eu_half {b c : Nat} (h : c < b) (h0 : 0 < c) : 2 * (b % c) < b := by
  have h1 : b % c < c := Nat.mod_lt _ h0
  rcases Nat.lt_or_ge b (2 * c) with h2 | h2
  · have : b % c = b - c := by rw [Nat.mod_eq_sub_mod (by omega), Nat.mod_eq_of_lt (by omega)]
    omega
  · omega
theorem eu_end {m : Nat} {a1 a2 a3 a4 : Int32} {v5 v7 x : Nat} {D : wd_D} (h5 : v5 < 2 ^ 31) (h7 : v7 < 2 ^ 31) (hx : x < 2 ^ 31) (h0 : 0 < x) : f_X7_lorries_L209 (m + 1) a1 a2 a3 a4 (lN v5) (lN v7) (lN x) (lN 0) D = some (if a4 = 0 then lN (v5 / x) else lN (v7 / x), D) := by
  rw [f_X7_lorries_L209, if_pos (show lg_cmp (lN 0) 0 = 0 by rw [cmp_eq]; rfl), nzL_n h0 hx, Option.bind_some, Option.bind_some, pk_lDiv (by omega) h0 (by omega), pk_lDiv (by omega) h0 (by omega)]
  split <;> rfl
theorem eu_step {m : Nat} {a1 a2 a3 a4 : Int32} {v5 v7 x y : Nat} {D : wd_D} (hx : x < 2 ^ 31) (hy : y < 2 ^ 31) (h0 : 0 < y) : f_X7_lorries_L209 (m + 1) a1 a2 a3 a4 (lN v5) (lN v7) (lN x) (lN y) D = f_X7_lorries_L209 m a1 a2 a3 a4 (lN v5) (lN v7) (lN y) (lN (x % y)) D := by
  rw [f_X7_lorries_L209, if_neg (fun z => by have := (lN_eq hy (by decide : 0 < 2 ^ 31)).mp ((cmp_eq _ _).mp z); omega), nzL_n h0 hy, Option.bind_some]
  unfold ap
  dsimp only
  rw [pk_lRem (by omega) h0 (by omega)]
theorem eu_e {a1 a2 a3 a4 : Int32} {v5 v7 : Nat} {D : wd_D} (h5 : v5 < 2 ^ 31) (h7 : v7 < 2 ^ 31) : ∀ k m x y, y < 2 ^ k → 2 * k < m → x < 2 ^ 31 → y < 2 ^ 31 → (0 < x ∨ 0 < y) → f_X7_lorries_L209 m a1 a2 a3 a4 (lN v5) (lN v7) (lN x) (lN y) D = some (if a4 = 0 then lN (v5 / Nat.gcd x y) else lN (v7 / Nat.gcd x y), D) := by
  intro k
  induction k with
  | zero =>
    intro m x y hy hm hx hy' h0
    obtain ⟨m, rfl⟩ : ∃ m', m = m' + 1 := ⟨m - 1, by omega⟩
    have : y = 0 := by simpa using hy
    subst this
    rw [eu_end h5 h7 hx (by omega), Nat.gcd_zero_right]
  | succ k ih =>
    intro m x y hy hm hx hy' h0
    obtain ⟨m, rfl⟩ : ∃ m', m = m' + 2 := ⟨m - 2, by omega⟩
    by_cases e : y = 0
    · subst e
      rw [eu_end h5 h7 hx (by omega), Nat.gcd_zero_right]
    · have g1 : Nat.gcd x y = Nat.gcd y (x % y) := by rw [Nat.gcd_comm, Nat.gcd_rec, Nat.gcd_comm]
      have l1 : x % y < y := Nat.mod_lt _ (by omega)
      rw [eu_step hx hy' (by omega), g1]
      by_cases e2 : x % y = 0
      · rw [e2, eu_end h5 h7 hy' (by omega), Nat.gcd_zero_right]
      · have g2 : Nat.gcd y (x % y) = Nat.gcd (x % y) (y % (x % y)) := by rw [Nat.gcd_comm, Nat.gcd_rec, Nat.gcd_comm]
        rw [eu_step hy' (by omega) (by omega), g2]
        have := eu_half l1 (by omega)
        rw [Nat.pow_succ] at hy
        exact ih m (x % y) (y % (x % y)) (by omega) (by omega) (by omega) (by omega) (Or.inl (by omega))
