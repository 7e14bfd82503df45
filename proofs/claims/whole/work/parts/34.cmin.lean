/-! a minute, minutes, of the class's room -/
theorem partS_out {r : Rho} {n : Nat} : ∀ k, k ≤ 7 → ∀ j, (j < 8 ∨ 29 ≤ j) → partS r n k j = r j
  | 0, _, _, _ => rfl
  | k + 1, h, j, hj => by
    show put3 (partS r n k) k (stepS r n k) j = r j
    rw [put3_out (by omega) (by omega) (by omega)]
    exact partS_out k (by omega) j hj
theorem partS_like {r : Rho} {n k : Nat} (hk : k ≤ 7) : Like n (partS r n k) r := fun j hj => partS_out k hk j (by omega)
/-- those from k on are as they were -/
theorem partS_ge {r : Rho} {n : Nat} : ∀ k, k ≤ 7 → ∀ c, k ≤ c → c < 7 → partS r n k (8 + c) = r (8 + c) ∧ partS r n k (15 + c) = r (15 + c) ∧ partS r n k (22 + c) = r (22 + c)
  | 0, _, _, _, _ => ⟨rfl, rfl, rfl⟩
  | k + 1, h, c, h1, h2 => by
    obtain ⟨a, b, d⟩ := partS_ge k (by omega) c (by omega) h2
    refine ⟨?_, ?_, ?_⟩
    · show put3 (partS r n k) k (stepS r n k) (8 + c) = _
      rw [put3_out (by omega) (by omega) (by omega), a]
    · show put3 (partS r n k) k (stepS r n k) (15 + c) = _
      rw [put3_out (by omega) (by omega) (by omega), b]
    · show put3 (partS r n k) k (stepS r n k) (22 + c) = _
      rw [put3_out (by omega) (by omega) (by omega), d]
/-- those below k are as the minute leaves them -/
theorem partS_lt {r : Rho} {n : Nat} : ∀ k, k ≤ 7 → ∀ c, c < k → partS r n k (8 + c) = (stepS r n c).1 ∧ partS r n k (15 + c) = (stepS r n c).2.1 ∧ partS r n k (22 + c) = (stepS r n c).2.2
  | 0, _, c, h => absurd h (by omega)
  | k + 1, h, c, h1 => by
    by_cases e : c = k
    · subst e
      exact ⟨put3_1, put3_2, put3_3⟩
    · obtain ⟨a, b, d⟩ := partS_lt k (by omega) c (by omega)
      refine ⟨?_, ?_, ?_⟩
      · show put3 (partS r n k) k (stepS r n k) (8 + c) = _
        rw [put3_out (by omega) (by omega) (by omega), a]
      · show put3 (partS r n k) k (stepS r n k) (15 + c) = _
        rw [put3_out (by omega) (by omega) (by omega), b]
      · show put3 (partS r n k) k (stepS r n k) (22 + c) = _
        rw [put3_out (by omega) (by omega) (by omega), d]
theorem passS_0 {r : Rho} {n : Nat} : passS r n 0 = r 0 + 1 := by unfold passS; rw [upd_s]
theorem passS_out {r : Rho} {n : Nat} (hn : n ≤ 7) {j : Nat} (h0 : j ≠ 0) (hj : j < 8 ∨ 29 ≤ j) : passS r n j = r j := by
  unfold passS; rw [upd_n h0, partS_out n hn j hj]
theorem passS_k {r : Rho} {n c : Nat} (hn : n ≤ 7) (hc : c < n) : passS r n (8 + c) = (stepS r n c).1 ∧ passS r n (15 + c) = (stepS r n c).2.1 ∧ passS r n (22 + c) = (stepS r n c).2.2 := by
  unfold passS
  rw [upd_n (by omega), upd_n (by omega), upd_n (by omega)]
  exact partS_lt n hn c hc
theorem passS_ge {r : Rho} {n c : Nat} (hn : n ≤ 7) (hc : n ≤ c) (h7 : c < 7) : passS r n (8 + c) = r (8 + c) ∧ passS r n (15 + c) = r (15 + c) ∧ passS r n (22 + c) = r (22 + c) := by
  unfold passS
  rw [upd_n (by omega), upd_n (by omega), upd_n (by omega)]
  exact partS_ge n hn c hc h7
theorem stepS_how {r : Rho} {n k : Nat} (h : ∃ a, a < 3 ∧ r (8 + k) = nI a) : ∃ a, a < 3 ∧ (stepS r n k).1 = nI a := by
  unfold stepS
  (repeat' split) <;> first | exact h | exact ⟨0, by decide, rfl⟩ | exact ⟨1, by decide, rfl⟩ | exact ⟨2, by decide, rfl⟩
theorem Ok.pass {r : Rho} {n : Nat} (ok : Ok n r) : Ok n (passS r n) := by
  have hn := ok.1
  obtain ⟨h1, h2, h3, h4, h5, h6⟩ := ok
  refine ⟨h1, ?_, ?_, ?_, ?_, fun k hk => ?_⟩
  · rw [passS_out hn (by decide) (by omega)]; exact h2
  · rw [passS_out hn (by decide) (by omega)]; exact h3
  · rw [passS_out hn (by decide) (by omega)]; exact h4
  · rw [passS_out hn (by decide) (by omega)]; exact h5
  · obtain ⟨a1, a2, a3, a4, a5⟩ := h6 k hk
    refine ⟨?_, ?_, ?_, ?_, ?_⟩
    · rw [passS_out hn (by omega) (by omega)]; exact a1
    · rw [(passS_k hn hk).1]; exact stepS_how a2
    · rw [passS_out hn (by omega) (by omega)]; exact a3
    · rw [passS_out hn (by omega) (by omega)]; exact a4
    · rw [passS_out hn (by omega) (by omega)]; exact a5
theorem c_bears' {D : wd_D} {q n : Nat} {r s : Rho} (h : RepC D q n s) (hs : Like n s r) (ok : Ok n r) {c : Nat} (hc : c < n) : f_X3_bearsOf q (nI c) D = some (bearsS r c) := by
  have hn := ok.1
  obtain ⟨a, h1, h2, h3⟩ := (ok.2.2.2.2.2 c hc).1
  unfold f_X3_bearsOf f_X3_bearsOf_L20 bearsS
  rw [h.r42 hn hc, h.r49 hn hc, hs (42 + c) (by omega), hs (49 + c) (by omega), h3]
  simp only [Option.bind_some]
  have k : ∀ a, 1 ≤ a → a < 6 → ∀ x : Int32, (if nI a = 4 then some (2 * x) else if nI a = 5 then some (2 * x) else some x) = some (if nI a < 4 then x else 2 * x) := by
    intro a h1 h2 x
    rcases (show a = 1 ∨ a = 2 ∨ a = 3 ∨ a = 4 ∨ a = 5 by omega) with rfl | rfl | rfl | rfl | rfl <;> rfl
  exact k a h1 h2 _
def StillS (r : Rho) (n : Nat) : Prop := ∀ k, k < n → stepS r n k = (r (8 + k), r (15 + k), r (22 + k))
theorem c_pass_L {q n : Nat} {r : Rho} (ok : Ok n r) : ∀ d k m D, k + d = n → d < m → RepC D q n (partS r n k) → ∀ b : Int32, (b = 0 ∨ b = 1) → (b = 0 → ∀ i, i < k → stepS r n i = (r (8 + i), r (15 + i), r (22 + i))) →
    ∃ b' D', f_X3_passMinute_L9 m q (crS r n) b (nI k) D = some (b', D') ∧ RepC D' q n (passS r n) ∧ Fr q D D' ∧ (b' = 0 ∨ b' = 1) ∧ (b' = 0 → StillS r n) := by
  have hn := ok.1
  intro d
  induction d with
  | zero =>
    intro k m D hk hm h b hb01 hst
    obtain ⟨m, rfl⟩ : ∃ m', m = m' + 1 := ⟨m - 1, by omega⟩
    have e : k = n := by omega
    subst e
    have hL := partS_like (r := r) (n := k) (k := k) hn
    rw [f_X3_passMinute_L9, h.f41, hL 41 (by omega), ok.2.1, if_pos ((le_nI (by omega) (by omega)).mpr (by omega))]
    simp only [ap]
    have hbo : bo b = some b := by unfold bo; rw [if_pos hb01]
    rw [hbo, h.f0, partS_out k hn 0 (by omega)]
    exact ⟨b, _, rfl, h.v0 (r 0 + 1), Fr.s0, hb01, hst⟩
  | succ d ih =>
    intro k m D hk hm h b hb01 hst
    obtain ⟨m, rfl⟩ : ∃ m', m = m' + 1 := ⟨m - 1, by omega⟩
    have hL := partS_like (r := r) (n := n) (k := k) (by omega)
    obtain ⟨g1, g2, g3⟩ := partS_ge (r := r) (n := n) k (by omega) k (by omega) (by omega)
    rw [f_X3_passMinute_L9, h.f41, hL 41 (by omega), ok.2.1, if_neg (fun z => by have := (le_nI (by omega) (by omega)).mp z; omega), h.r8 hn (by omega), Option.bind_some, g1]
    have goon : ∀ (D1 : wd_D) (b1 : Int32), RepC D1 q n (put3 (partS r n k) k (stepS r n k)) → Fr q D D1 → (b1 = 0 ∨ b1 = 1) → (b1 = 0 → b = 0 ∧ stepS r n k = (r (8 + k), r (15 + k), r (22 + k))) → ∃ b' D', f_X3_passMinute_L77 (f_X3_passMinute_L9 m) q (crS r n) b1 (nI k) D1 = some (b', D') ∧ RepC D' q n (passS r n) ∧ Fr q D D' ∧ (b' = 0 ∨ b' = 1) ∧ (b' = 0 → StillS r n) := by
      intro D1 b1 hD1 hF hb1 hs1
      unfold f_X3_passMinute_L77
      simp only [ap, nI_1]
      obtain ⟨b', D', e, a1, a2, a3, a4⟩ := ih (k + 1) m D1 (by omega) (by omega) hD1 b1 hb1 (fun z i hi => by
        obtain ⟨z1, z2⟩ := hs1 z
        by_cases e : i = k
        · subst e; exact z2
        · exact hst z1 i (by omega))
      exact ⟨b', D', e, a1, hF.tr a2, a3, a4⟩
    by_cases h1 : r (8 + k) = 1
    · rw [if_pos h1]
      have hst1 : stepS (partS r n k) n k = stepS r n k := by
        unfold stepS
        rw [g1, g2, g3, if_pos h1, if_pos h1, hL 36 (by omega), hL 37 (by omega)]
      obtain ⟨D1, e, a, f⟩ := c_calm h hn (c := k) (by omega) (by rw [g1]; exact h1)
      rw [hst1] at a
      rw [e, Option.bind_some]
      exact goon D1 1 a f (Or.inr rfl) (fun z => absurd z (by decide))
    · rw [if_neg h1, h.f36, hL 36 (by omega), hb_has (by omega)]
      cases h36 : hb (r 36) k with
      | true =>
        rw [if_neg (by simp)]
        have hst1 : stepS r n k = (r (8 + k), r (15 + k), r (22 + k)) := by
          unfold stepS; rw [if_neg h1, if_pos h36]
        refine goon D b (h.cong (fun j _ => put3_ext ?_ ?_ ?_ (fun _ _ _ _ => rfl) j)) Fr.rf hb01 (fun z => ⟨z, hst1⟩)
        · rw [hst1, g1]
        · rw [hst1, g2]
        · rw [hst1, g3]
      | false =>
        rw [if_pos (by simp), c_noise' h hL ok (by omega), Option.bind_some]
        have hbe := c_bears' h hL ok (c := k) (by omega)
        rw [hbe, Option.bind_some]
        have fin : ∀ z : Int32, z = (if loudS r n k then 1 else 0) → ∃ b' D', f_X3_passMinute_L69 (f_X3_passMinute_L9 m) q (crS r n) b (nI k) z (nI k) D = some (b', D') ∧ RepC D' q n (passS r n) ∧ Fr q D D' ∧ (b' = 0 ∨ b' = 1) ∧ (b' = 0 → StillS r n) := by
          intro z hz
          obtain ⟨b1, D1, e, a1, a2, a3, a4⟩ := c_listen h hn (c := k) (by omega) hL g1 g2 g3 h1 h36 hz
          unfold f_X3_passMinute_L69
          rw [e, Option.bind_some]
          by_cases hb1 : b1 = 0
          · simp only [hb1, if_true]
            exact goon D1 b a1 a2 hb01 (fun z => ⟨z, a4 hb1⟩)
          · simp only [hb1, if_false]
            exact goon D1 1 a1 a2 (Or.inr rfl) (fun z => absurd z (by decide))
        by_cases hlo : noS r k n ≤ bearsS r k
        · rw [if_pos hlo]
          exact fin 0 (by unfold loudS; rw [decide_eq_false (Int32.not_lt.mpr hlo)]; rfl)
        · rw [if_neg hlo]
          exact fin 1 (by unfold loudS; rw [decide_eq_true (Int32.not_le.mp hlo)]; rfl)
theorem c_pass {D : wd_D} {q n : Nat} {r : Rho} (h : RepC D q n r) (ok : Ok n r) : ∃ b D', f_X3_passMinute q D = some (b, D') ∧ RepC D' q n (passS r n) ∧ Fr q D D' ∧ (b = 0 ∨ b = 1) ∧ (b = 0 → StillS r n) := by
  unfold f_X3_passMinute
  rw [c_criers h ok.1 ok.2.1, Option.bind_some]
  exact c_pass_L ok n 0 FU D (by omega) (by have := ok.1; unfold FU; omega) h 0 (Or.inl rfl) (fun _ i hi => absurd hi (by omega))
def itS (r : Rho) (n : Nat) : Nat → Rho
  | 0 => r
  | m + 1 => passS (itS r n m) n
theorem Ok.it {r : Rho} {n : Nat} (ok : Ok n r) : ∀ m, Ok n (itS r n m)
  | 0 => ok
  | m + 1 => (Ok.it ok m).pass
theorem Ok.hn {r : Rho} {n : Nat} (ok : Ok n r) : n ≤ 7 := ok.1
/-- the minute's number doesn't count -/
theorem noS_cong {r s : Rho} {c : Nat} (h : ∀ j, j ≠ 0 → s j = r j) : ∀ k, noS s c k = noS r c k
  | 0 => rfl
  | k + 1 => by
    show (if _ then _ else _) = (if _ then _ else _)
    rw [noS_cong h k, h (8 + k) (by omega), h 36 (by omega)]
    have e : tmS s k c = tmS r k c := by
      unfold tmS callsS farS
      rw [h (42 + k) (by omega), h (56 + k) (by omega), h (29 + k) (by omega), h (29 + c) (by omega)]
    rw [e]
theorem stepS_cong {r s : Rho} {n k : Nat} (h : ∀ j, j ≠ 0 → s j = r j) : stepS s n k = stepS r n k := by
  have e : loudS s n k = loudS r n k := by
    unfold loudS bearsS
    rw [noS_cong h, h (42 + k) (by omega), h (49 + k) (by omega)]
  unfold stepS
  rw [e, h (8 + k) (by omega), h (15 + k) (by omega), h (22 + k) (by omega), h 36 (by omega), h 37 (by omega), h 40 (by omega), h (42 + k) (by omega), h (1 + k) (by omega)]
theorem still_pass {r : Rho} {n : Nat} (hn : n ≤ 7) (h : StillS r n) : ∀ j, passS r n j = upd r 0 (r 0 + 1) j := by
  intro j
  by_cases e0 : j = 0
  · subst e0; rw [passS_0, upd_s]
  · rw [upd_n e0]
    by_cases h1 : j < 8 ∨ 29 ≤ j
    · exact passS_out hn e0 h1
    · by_cases h2 : j < 15
      · obtain ⟨c, rfl⟩ : ∃ c, j = 8 + c := ⟨j - 8, by omega⟩
        by_cases hc : c < n
        · rw [(passS_k hn hc).1, h c hc]
        · exact (passS_ge hn (by omega) (by omega)).1
      · by_cases h3 : j < 22
        · obtain ⟨c, rfl⟩ : ∃ c, j = 15 + c := ⟨j - 15, by omega⟩
          by_cases hc : c < n
          · rw [(passS_k hn hc).2.1, h c hc]
          · exact (passS_ge hn (by omega) (by omega)).2.1
        · obtain ⟨c, rfl⟩ : ∃ c, j = 22 + c := ⟨j - 22, by omega⟩
          by_cases hc : c < n
          · rw [(passS_k hn hc).2.2, h c hc]
          · exact (passS_ge hn (by omega) (by omega)).2.2
