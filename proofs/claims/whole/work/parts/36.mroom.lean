/-! the reference's room by rho -/
def FrN (b : Nat) (D D' : wd_D) : Prop := (∀ k j, (k = 371 → (j < b ∨ b + 63 ≤ j)) → D'.1 k j = D.1 k j) ∧ D'.2 = D.2
theorem FrN.rf {q : Nat} {D : wd_D} : FrN q D D := ⟨fun _ _ _ => rfl, rfl⟩
theorem FrN.tr {q : Nat} {D E F : wd_D} (h : FrN q D E) (g : FrN q E F) : FrN q D F := ⟨fun k j hk => (g.1 k j hk).trans (h.1 k j hk), g.2.trans h.2⟩
theorem FrN.s {b j : Nat} {D : wd_D} {v : Int32} (hj : j < 63) : FrN b D (sI D 371 (b + j) v) := ⟨fun k i h2 => by
  exact sI_ne (fun z => by have := h2 z.1; omega), rfl⟩
theorem FrN.m {b : Nat} {D D' : wd_D} (h : FrN b D D') : FrM b D D' := ⟨fun k j _ h2 => h.1 k j h2, h.2⟩
section MR
variable {D : wd_D} {b n : Nat} {r : Rho}
theorem m_those_L (h : RepM D b r) (hb : b ≤ 189) (hn : n ≤ 7) (hr : r 41 = nI n) (how : Int32) : ∀ d c m, c + d = n → d < m → f_X7_thoseWho_L5 m (nI b) how (setOf (fun k => decide (r (8 + k) = how)) c) (nI c) D = some (thS r n how) := by
  intro d
  induction d with
  | zero =>
    intro c m hc hm
    obtain ⟨m, rfl⟩ : ∃ m', m = m' + 1 := ⟨m - 1, by omega⟩
    rw [f_X7_thoseWho_L5, h.f41 hb, Option.bind_some, hr, if_pos ((le_nI (by omega) (by omega)).mpr (by omega))]
    have : c = n := by omega
    subst this; rfl
  | succ d ih =>
    intro c m hc hm
    obtain ⟨m, rfl⟩ : ∃ m', m = m' + 1 := ⟨m - 1, by omega⟩
    rw [f_X7_thoseWho_L5, h.f41 hb, Option.bind_some, hr, if_neg (fun z => by have := (le_nI (by omega) (by omega)).mp z; omega), h.r8 hb (by omega), Option.bind_some]
    have e := ih (c + 1) m (by omega) (by omega)
    unfold setOf at e
    by_cases hw : r (8 + c) = how
    · rw [if_pos hw]
      simp only [ap, f_X7_thoseWho_L44, nI_1]
      rw [if_pos (by simp [hw])] at e
      exact e
    · rw [if_neg hw]
      simp only [ap, f_X7_thoseWho_L44, nI_1]
      rw [if_neg (by simp [hw])] at e
      rw [show ∀ x : Int32, x ||| 0 = x from fun x => by simp]
      exact e
theorem m_those (h : RepM D b r) (hb : b ≤ 189) (hn : n ≤ 7) (hr : r 41 = nI n) (how : Int32) : f_X7_thoseWho (nI b) how D = some (thS r n how) := by
  unfold f_X7_thoseWho
  exact m_those_L h hb hn hr how n 0 FU (by omega) (by unfold FU; omega)
theorem m_out (h : RepM D b r) (hb' : b ≤ 189) {c : Nat} (hc : c < 31) : f_X7_isOut (nI b) (nI c) D = some (if hb (r 36) c then 1 else 0) := by
  unfold f_X7_isOut
  rw [h.f36 hb', Option.bind_some, hb_has7 hc]
theorem m_bears (h : RepM D b r) (hb : b ≤ 189) {c : Nat} (hc : c < 7) : f_X7_bears (nI b) (nI c) D = some (bearsS r c) := by
  unfold f_X7_bears bearsS
  rw [h.r42 hb hc, h.r49 hb hc]
  simp only [Option.bind_some]
  split <;> rfl
theorem m_noise_L (h : RepM D b r) (hb' : b ≤ 189) (hn : n ≤ 7) (hr : r 41 = nI n) {c : Nat} (hc : c < 7) : ∀ d k m, k + d = n → d < m → f_X7_noiseAt_L5 m (nI b) (nI c) (noS r c k) (nI k) D = some (noS r c n) := by
  intro d
  induction d with
  | zero =>
    intro k m hk hm
    obtain ⟨m, rfl⟩ : ∃ m', m = m' + 1 := ⟨m - 1, by omega⟩
    rw [f_X7_noiseAt_L5, h.f41 hb', Option.bind_some, hr, if_pos ((le_nI (by omega) (by omega)).mpr (by omega))]
    have : k = n := by omega
    subst this; rfl
  | succ d ih =>
    intro k m hk hm
    obtain ⟨m, rfl⟩ : ∃ m', m = m' + 1 := ⟨m - 1, by omega⟩
    rw [f_X7_noiseAt_L5, h.f41 hb', Option.bind_some, hr, if_neg (fun z => by have := (le_nI (by omega) (by omega)).mp z; omega)]
    have e := ih (k + 1) m (by omega) (by omega)
    have e0 : noS r c (k + 1) = if k ≠ c ∧ r (8 + k) = 1 ∧ hb (r 36) k = false then noS r c k + tmS r k c else noS r c k := rfl
    by_cases hkc : k = c
    · rw [if_pos (by rw [hkc]), f_X7_noiseAt_L145]
      simp only [ap, nI_1]
      rw [e0, if_neg (fun z => z.1 hkc)] at e
      exact e
    · rw [if_neg (fun z => hkc ((eq_nI (by omega) (by omega)).mp z)), h.r8 hb' (by omega), Option.bind_some]
      by_cases h1 : r (8 + k) = 1
      · rw [if_pos h1, m_out h hb' (by omega), Option.bind_some]
        cases h36 : hb (r 36) k with
        | true =>
          rw [if_neg (by simp), f_X7_noiseAt_L145]
          simp only [ap, nI_1]
          rw [e0, if_neg (fun z => by rw [h36] at z; exact absurd z.2.2 (by decide))] at e
          exact e
        | false =>
          rw [if_pos (by simp), h.r42 hb' (by omega), Option.bind_some, h.r56 hb' (by omega)]
          rw [e0, if_pos ⟨hkc, h1, h36⟩] at e
          have key : ∀ z : Int32, z = callsS r k → f_X7_noiseAt_L96 (f_X7_noiseAt_L5 m) (nI b) (nI c) (noS r c k) (nI k) z D = some (noS r c n) := by
            intro z hz
            unfold f_X7_noiseAt_L96
            rw [h.r29 hb' (by omega), Option.bind_some, h.r29 hb' hc, Option.bind_some]
            simp only [ap]
            unfold tmS farS at e
            rw [← hz] at e
            split
            · rename_i hle
              rw [if_pos hle] at e
              simp only [f_X7_noiseAt_L143, f_X7_noiseAt_L145, ap, nI_1]
              exact e
            · rename_i hle
              rw [if_neg hle] at e
              simp only [f_X7_noiseAt_L143, f_X7_noiseAt_L145, ap, nI_1]
              exact e
          simp only [Option.bind_some]
          split
          · rename_i h2
            exact key _ (by unfold callsS; rw [if_pos h2])
          · rename_i h2
            exact key _ (by unfold callsS; rw [if_neg h2])
      · rw [if_neg h1, f_X7_noiseAt_L145]
        simp only [ap, nI_1]
        rw [e0, if_neg (fun z => h1 z.2.1)] at e
        exact e
theorem m_noise (h : RepM D b r) (hb' : b ≤ 189) (hn : n ≤ 7) (hr : r 41 = nI n) {c : Nat} (hc : c < 7) : f_X7_noiseAt (nI b) (nI c) D = some (noS r c n) := by
  unfold f_X7_noiseAt
  exact m_noise_L h hb' hn hr hc n 0 FU (by omega) (by unfold FU; omega)
theorem m_wake (h : RepM D b r) (hb : b ≤ 189) {c : Nat} (hc : c < 7) : ∃ D', f_X7_wakesUp (nI b) (nI c) D = some D' ∧ RepM D' b (put3 r c (if r (42 + c) = 5 then (0, 0, 0) else (1, r 40, 0))) ∧ FrN b D D' := by
  have key : ∀ (z x y : Int32), (z = 0 → x = 1 ∧ y = r 40) → (¬ z = 0 → x = 0 ∧ y = 0) → ∃ D', f_X7_wakesUp_L20 (nI b) (nI c) z D = some D' ∧ RepM D' b (put3 r c (x, y, 0)) ∧ FrN b D D' := by
    intro z x y h0 h1
    unfold f_X7_wakesUp_L20
    by_cases hz : z = 0
    · obtain ⟨rfl, rfl⟩ := h0 hz
      rw [if_pos hz]
      unfold f_X7_wakesUp_L40 f_X7_wakesUp_L68
      have g := h.up (8 + c) 1
      rw [wrM8 _ hb hc, Option.bind_some, if_pos hz, g.f40 hb, Option.bind_some, upd_n (by omega), wrM15 _ hb hc, Option.bind_some, wrM22 _ hb hc, Option.bind_some]
      exact ⟨_, rfl, (g.up (15 + c) (r 40)).up (22 + c) 0, (FrN.s (by omega)).tr ((FrN.s (by omega)).tr (FrN.s (by omega)))⟩
    · obtain ⟨rfl, rfl⟩ := h1 hz
      rw [if_neg hz]
      unfold f_X7_wakesUp_L40 f_X7_wakesUp_L68
      have g := h.up (8 + c) 0
      rw [wrM8 _ hb hc, Option.bind_some, if_neg hz, wrM15 _ hb hc, Option.bind_some, wrM22 _ hb hc, Option.bind_some]
      exact ⟨_, rfl, (g.up (15 + c) 0).up (22 + c) 0, (FrN.s (by omega)).tr ((FrN.s (by omega)).tr (FrN.s (by omega)))⟩
  unfold f_X7_wakesUp
  rw [h.r42 hb hc, Option.bind_some]
  by_cases h5 : r (42 + c) = 5
  · rw [if_pos h5, if_pos h5]
    exact key 1 0 0 (fun z => absurd z (by decide)) (fun _ => ⟨rfl, rfl⟩)
  · rw [if_neg h5, if_neg h5]
    exact key 0 1 (r 40) (fun _ => ⟨rfl, rfl⟩) (fun z => absurd rfl z)
theorem m_weep (h : RepM D b r) (hb : b ≤ 189) {c : Nat} (hc : c < 7) (h1 : r (8 + c) = 1) (z : Int32) : ∃ D', f_X7_weepsOn (nI b) (nI c) z D = some D' ∧ RepM D' b (put3 r c (if 0 < r (15 + c) - z then (1, r (15 + c) - z, r (22 + c)) else (0, 0, 0))) ∧ FrN b D D' := by
  unfold f_X7_weepsOn
  have g := h.up (15 + c) (r (15 + c) - z)
  rw [h.r15 hb hc, Option.bind_some, wrM15 _ hb hc, Option.bind_some, g.r15 hb hc, Option.bind_some, upd_s]
  by_cases hp : 0 < r (15 + c) - z
  · rw [if_pos hp, if_pos hp]
    refine ⟨_, rfl, g.cong (fun j _ => put3_ext ?_ ?_ ?_ ?_ j), FrN.s (by omega)⟩
    · rw [upd_n (by omega), h1]
    · rw [upd_s]
    · rw [upd_n (by omega)]
    · intro j e1 e2 e3; rw [upd_n e2]
  · rw [if_neg hp, if_neg hp, wrM15 _ hb hc, Option.bind_some, wrM8 _ hb hc, Option.bind_some, wrM22 _ hb hc, Option.bind_some]
    refine ⟨_, rfl, (((g.up (15 + c) 0).up (8 + c) 0).up (22 + c) 0).cong (fun j _ => put3_ext ?_ ?_ ?_ ?_ j), (FrN.s (by omega)).tr ((FrN.s (by omega)).tr ((FrN.s (by omega)).tr (FrN.s (by omega))))⟩
    · rw [upd_n (by omega), upd_s]
    · rw [upd_n (by omega), upd_n (by omega), upd_s]
    · rw [upd_s]
    · intro j e1 e2 e3; rw [upd_n e3, upd_n e1, upd_n e2, upd_n e2]
theorem m_lies (h : RepM D b r) (hb' : b ≤ 189) {c : Nat} (hc : c < 7) {z : Int32} {lo : Bool} (hz : z = if lo then 1 else 0) : ∃ D', f_X7_liesOn (nI b) (nI c) z D = some D' ∧ RepM D' b (put3 r c (if (if lo then 0 else r (22 + c) + (if hb (r 37) c then 2 else if r (42 + c) = 3 then 0 else 1)) < r (1 + c) then r (8 + c) else 2, r (15 + c), if lo then 0 else r (22 + c) + (if hb (r 37) c then 2 else if r (42 + c) = 3 then 0 else 1))) ∧ FrN b D D' := by
  have key : ∀ w : Int32, ∃ D', f_X7_liesOn_L78 (nI b) (nI c) z w (nI b + 22 + nI c) D = some D' ∧ RepM D' b (put3 r c (if w < r (1 + c) then r (8 + c) else 2, r (15 + c), w)) ∧ FrN b D D' := by
    intro w
    unfold f_X7_liesOn_L78
    have g := h.up (22 + c) w
    rw [wrM22 _ hb' hc, Option.bind_some, g.r22 hb' hc, Option.bind_some, g.r1 hb' hc, Option.bind_some, upd_s, upd_n (by omega)]
    by_cases hlt : w < r (1 + c)
    · rw [if_pos hlt, if_pos hlt]
      refine ⟨_, rfl, g.cong (fun j _ => put3_ext ?_ ?_ ?_ ?_ j), FrN.s (by omega)⟩
      · rw [upd_n (by omega)]
      · rw [upd_n (by omega)]
      · rw [upd_s]
      · intro j e1 e2 e3; rw [upd_n e3]
    · rw [if_neg hlt, if_neg hlt, wrM8 _ hb' hc, Option.bind_some]
      refine ⟨_, rfl, (g.up (8 + c) 2).cong (fun j _ => put3_ext ?_ ?_ ?_ ?_ j), (FrN.s (by omega)).tr (FrN.s (by omega))⟩
      · rw [upd_s]
      · rw [upd_n (by omega), upd_n (by omega)]
      · rw [upd_n (by omega), upd_s]
      · intro j e1 e2 e3; rw [upd_n e1, upd_n e3]
  have k44 : ∀ g : Int32, ∃ D', f_X7_liesOn_L44 (nI b) (nI c) z g D = some D' ∧ RepM D' b (put3 r c (if (if lo then 0 else r (22 + c) + g) < r (1 + c) then r (8 + c) else 2, r (15 + c), if lo then 0 else r (22 + c) + g)) ∧ FrN b D D' := by
    intro g
    unfold f_X7_liesOn_L44
    cases lo with
    | false =>
      subst hz
      rw [if_pos (by simp), h.r22 hb' hc, Option.bind_some]
      exact key _
    | true =>
      subst hz
      rw [if_neg (by simp)]
      exact key _
  unfold f_X7_liesOn
  rw [h.f37 hb', Option.bind_some]
  simp only [ap]
  rw [hb_has7 (by omega)]
  cases h37 : hb (r 37) c with
  | true =>
    rw [if_neg (by simp)]
    exact k44 2
  | false =>
    rw [if_pos (by simp), h.r42 hb' hc, Option.bind_some]
    by_cases h3 : r (42 + c) = 3
    · rw [if_pos h3]
      simp only [h3, if_true]
      exact k44 0
    · rw [if_neg h3]
      simp only [h3, if_false]
      exact k44 1
end MR
