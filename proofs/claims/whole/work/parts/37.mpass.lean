/-! a minute, minutes, a lorry of the reference's room -/
theorem RepM.fr {D D' : wd_D} {b c : Nat} {r : Rho} (h : RepM D c r) (f : FrM b D D') (hd : c + 63 ≤ b ∨ b + 63 ≤ c) : RepM D' c r := fun j hj => by
  rw [f.1 371 (c + j) (by decide) (fun _ => by omega)]; exact h j hj
theorem RepM.h380 {D : wd_D} {b j : Nat} {r : Rho} {v : Int32} (h : RepM D b r) : RepM (sI D 380 j v) b r := fun i hi => by
  rw [sI_ne (by omega)]; exact h i hi
theorem vb_nar0 : vp_nar .boolean 0 = 0 := by decide
theorem vb_nar1 : vp_nar .boolean 1 = 1 := by decide
theorem vb_narB (lo : Bool) : vp_nar .boolean (if lo then 1 else 0) = if lo then 1 else 0 := by cases lo <;> decide
section MP
variable {b n : Nat} {r : Rho}
/-- the second loop: each by what he heard -/
theorem m_pass2 (ok : Ok n r) (hb' : b ≤ 189) : ∀ d k m D, k + d = n → d < m → RepM D b (partS r n k) → (∀ i, i < n → D.1 380 i = if loudS r n i then 1 else 0) → ∃ D', f_X7_passes_L49 m (nI b) (nI k) D = some D' ∧ RepM D' b (passS r n) ∧ FrM b D D' := by
  have hn := ok.1
  intro d
  induction d with
  | zero =>
    intro k m D hk hm h hh
    obtain ⟨m, rfl⟩ : ∃ m', m = m' + 1 := ⟨m - 1, by omega⟩
    have e : k = n := by omega
    subst e
    have hL := partS_like (r := r) (n := k) (k := k) hn
    rw [f_X7_passes_L49, h.f41 hb', Option.bind_some, hL 41 (by omega), ok.2.1, if_pos ((le_nI (by omega) (by omega)).mpr (by omega)), h.f0 hb', Option.bind_some, partS_out k hn 0 (by omega)]
    rw [show nI b + 0 = nI (b + 0) from by rw [show (0 : Int32) = nI 0 from rfl, nI_add], wr_nI D 371 _ (show b + 0 < 252 by omega), Option.bind_some]
    exact ⟨_, rfl, h.up 0 (r 0 + 1), FrM.s (by omega)⟩
  | succ d ih =>
    intro k m D hk hm h hh
    obtain ⟨m, rfl⟩ : ∃ m', m = m' + 1 := ⟨m - 1, by omega⟩
    have hL := partS_like (r := r) (n := n) (k := k) (by omega)
    obtain ⟨g1, g2, g3⟩ := partS_ge (r := r) (n := n) k (by omega) k (by omega) (by omega)
    rw [f_X7_passes_L49, h.f41 hb', Option.bind_some, hL 41 (by omega), ok.2.1, if_neg (fun z => by have := (le_nI (by omega) (by omega)).mp z; omega), h.r8 hb' (by omega), Option.bind_some, g1, m_out h hb' (by omega), Option.bind_some, hL 36 (by omega)]
    have goon : ∀ D1 : wd_D, RepM D1 b (put3 (partS r n k) k (stepS r n k)) → FrN b D D1 → ∃ D', f_X7_passes_L166 (f_X7_passes_L49 m) (nI b) (nI k) D1 = some D' ∧ RepM D' b (passS r n) ∧ FrM b D D' := by
      intro D1 a f
      unfold f_X7_passes_L166
      simp only [ap, nI_1]
      obtain ⟨D', e, x1, x2⟩ := ih (k + 1) m D1 (by omega) (by omega) a (fun i hi => by rw [f.1 380 i (fun z => absurd z (by decide))]; exact hh i hi)
      exact ⟨D', e, x1, f.m.tr x2⟩
    have keep : stepS r n k = (r (8 + k), r (15 + k), r (22 + k)) → ∃ D', f_X7_passes_L166 (f_X7_passes_L49 m) (nI b) (nI k) D = some D' ∧ RepM D' b (passS r n) ∧ FrM b D D' := by
      intro hst
      refine goon D (h.cong (fun j _ => put3_ext ?_ ?_ ?_ (fun _ _ _ _ => rfl) j)) FrN.rf
      · rw [hst, g1]
      · rw [hst, g2]
      · rw [hst, g3]
    have rd380 : rd 7 D 380 (nI k) = some (if loudS r n k then 1 else 0) := by
      rw [rd_nI D 380 (show k < 7 by omega), hh k (by omega)]
    by_cases h1 : r (8 + k) = 1
    · rw [if_pos h1]
      have fin : ∀ z : Int32, z = (if hb (r 37) k ∧ hb (r 36) k = false then 2 else 1) → ∃ D', f_X7_passes_L116 (f_X7_passes_L49 m) (nI b) (nI k) z (nI k) (nI b) D = some D' ∧ RepM D' b (passS r n) ∧ FrM b D D' := by
        intro z hz
        unfold f_X7_passes_L116
        obtain ⟨D1, e, a, f⟩ := m_weep h hb' (c := k) (by omega) (by rw [g1]; exact h1) z
        rw [e, Option.bind_some]
        have hs : stepS r n k = if 0 < partS r n k (15 + k) - z then (1, partS r n k (15 + k) - z, partS r n k (22 + k)) else (0, 0, 0) := by
          unfold stepS; rw [if_pos h1, ← hz, g2, g3]
        rw [← hs] at a
        exact goon D1 a f
      cases h36 : hb (r 36) k with
      | true =>
        rw [if_neg (by simp), f_X7_passes_L115]
        exact fin 1 (by simp [h36])
      | false =>
        rw [if_pos (by simp), h.f37 hb', Option.bind_some, hL 37 (by omega), hb_has7 (by omega)]
        cases h37 : hb (r 37) k with
        | false =>
          rw [if_pos (by simp), f_X7_passes_L115]
          exact fin 1 (by simp [h37])
        | true =>
          rw [if_neg (by simp)]
          exact fin 2 (by simp [h37, h36])
    · rw [if_neg h1]
      cases h36 : hb (r 36) k with
      | true =>
        rw [if_neg (by simp), f_X7_passes_L146, if_neg (by simp)]
        exact keep (by unfold stepS; rw [if_neg h1, if_pos h36])
      | false =>
        rw [if_pos (by simp)]
        have hst : stepS r n k = if r (8 + k) = 2 then (if loudS r n k then (if r (42 + k) = 5 then (0, 0, 0) else (1, r 40, 0)) else (r (8 + k), r (15 + k), r (22 + k))) else
          (if (if loudS r n k then 0 else r (22 + k) + (if hb (r 37) k then 2 else if r (42 + k) = 3 then 0 else 1)) < r (1 + k) then r (8 + k) else 2, r (15 + k), if loudS r n k then 0 else r (22 + k) + (if hb (r 37) k then 2 else if r (42 + k) = 3 then 0 else 1)) := by
          unfold stepS; rw [if_neg h1, if_neg (by simp [h36])]
        by_cases h0 : r (8 + k) = 0
        · rw [if_pos h0, rd380, Option.bind_some]
          obtain ⟨D1, e, a, f⟩ := m_lies h hb' (c := k) (by omega) (lo := loudS r n k) rfl
          rw [e, Option.bind_some]
          rw [if_neg (by rw [h0]; decide)] at hst
          rw [g1, g2, g3, hL 37 (by omega), hL (42 + k) (by omega), hL (1 + k) (by omega), ← hst] at a
          exact goon D1 a f
        · rw [if_neg h0]
          have h2 : r (8 + k) = 2 := by
            obtain ⟨a, a1, a2⟩ := (ok.2.2.2.2.2 k (by omega)).2.1
            rcases (show a = 0 ∨ a = 1 ∨ a = 2 by omega) with rfl | rfl | rfl
            · exact absurd a2 h0
            · exact absurd a2 h1
            · exact a2
          rw [if_pos h2] at hst
          rw [f_X7_passes_L146, if_pos (by simp), rd380, Option.bind_some]
          cases hl : loudS r n k with
          | false =>
            rw [hl] at hst
            rw [if_pos (by simp)]
            exact keep hst
          | true =>
            rw [hl, if_pos rfl] at hst
            rw [if_neg (by simp)]
            obtain ⟨D1, e, a, f⟩ := m_wake h hb' (c := k) (by omega)
            rw [e, Option.bind_some]
            rw [hL (42 + k) (by omega), hL 40 (by omega), ← hst] at a
            exact goon D1 a f
/-- the first loop: what each hears -/
theorem m_pass1 (ok : Ok n r) (hb' : b ≤ 189) : ∀ d k m D, k + d = n → d < m → RepM D b r → (∀ i, i < k → D.1 380 i = if loudS r n i then 1 else 0) → ∃ D', f_X7_passes_L2 m (nI b) (nI k) D = some D' ∧ RepM D' b (passS r n) ∧ FrM b D D' := by
  have hn := ok.1
  intro d
  induction d with
  | zero =>
    intro k m D hk hm h hh
    obtain ⟨m, rfl⟩ : ∃ m', m = m' + 1 := ⟨m - 1, by omega⟩
    have e : k = n := by omega
    subst e
    rw [f_X7_passes_L2, h.f41 hb', Option.bind_some, ok.2.1, if_pos ((le_nI (by omega) (by omega)).mpr (by omega))]
    exact m_pass2 ok hb' k 0 FU D (by omega) (by unfold FU; omega) h hh
  | succ d ih =>
    intro k m D hk hm h hh
    obtain ⟨m, rfl⟩ : ∃ m', m = m' + 1 := ⟨m - 1, by omega⟩
    rw [f_X7_passes_L2, h.f41 hb', Option.bind_some, ok.2.1, if_neg (fun z => by have := (le_nI (by omega) (by omega)).mp z; omega), m_noise h hb' hn ok.2.1 (by omega), Option.bind_some, m_bears h hb' (by omega), Option.bind_some]
    have fin : ∀ z : Int32, z = (if loudS r n k then 1 else 0) → ∃ D', f_X7_passes_L40 (f_X7_passes_L2 m) (nI b) (nI k) z (nI k) D = some D' ∧ RepM D' b (passS r n) ∧ FrM b D D' := by
      intro z hz
      unfold f_X7_passes_L40
      subst hz
      rw [vb_narB, wr_nI D 380 _ (show k < 7 by omega), Option.bind_some]
      simp only [ap, nI_1]
      obtain ⟨D', e, x1, x2⟩ := ih (k + 1) m _ (by omega) (by omega) (h.h380 (j := k) (v := if loudS r n k then 1 else 0)) (fun i hi => by
        by_cases e : i = k
        · subst e; rw [sI_eq]
        · rw [sI_ne (by omega)]; exact hh i (by omega))
      exact ⟨D', e, x1, FrM.h.tr x2⟩
    by_cases hlo : noS r k n ≤ bearsS r k
    · rw [if_pos hlo]
      exact fin 0 (by unfold loudS; rw [decide_eq_false (Int32.not_lt.mpr hlo)]; rfl)
    · rw [if_neg hlo]
      exact fin 1 (by unfold loudS; rw [decide_eq_true (Int32.not_le.mp hlo)]; rfl)
theorem m_pass {D : wd_D} (h : RepM D b r) (ok : Ok n r) (hb' : b ≤ 189) : ∃ D', f_X7_passes (nI b) D = some D' ∧ RepM D' b (passS r n) ∧ FrM b D D' := by
  unfold f_X7_passes
  exact m_pass1 ok hb' n 0 FU D (by omega) (by have := ok.1; unfold FU; omega) h (fun i hi => absurd hi (by omega))
theorem m_lor_L (ok : Ok n r) (hb' : b ≤ 189) (x : Int32) : ∀ d k m D, k + d = n → d < m → RepM D b (lorP r x k).1 → ∃ D', f_X7_rolls_L5 m (nI b) x (lorP r x k).2 (nI k) D = some ((lorP r x n).2, D') ∧ RepM D' b (lorS r x n) ∧ FrN b D D' := by
  have hn := ok.1
  intro d
  induction d with
  | zero =>
    intro k m D hk hm h
    obtain ⟨m, rfl⟩ : ∃ m', m = m' + 1 := ⟨m - 1, by omega⟩
    have e : k = n := by omega
    subst e
    rw [f_X7_rolls_L5, h.f41 hb', Option.bind_some, lorP_out k hn 41 (by omega), ok.2.1, if_pos ((le_nI (by omega) (by omega)).mpr (by omega))]
    exact ⟨D, rfl, h, FrN.rf⟩
  | succ d ih =>
    intro k m D hk hm h
    obtain ⟨m, rfl⟩ : ∃ m', m = m' + 1 := ⟨m - 1, by omega⟩
    have hL : Like n (lorP r x k).1 r := fun j hj => lorP_out k (by omega) j (by omega)
    obtain ⟨g1, g2, g3⟩ := lorP_ge (r := r) (x := x) k (by omega) k (by omega) (by omega)
    rw [f_X7_rolls_L5, h.f41 hb', Option.bind_some, hL 41 (by omega), ok.2.1, if_neg (fun z => by have := (le_nI (by omega) (by omega)).mp z; omega), h.r8 hb' (by omega), Option.bind_some, g1]
    have ih' := ih (k + 1) m
    have skip : ¬ (r (8 + k) = 2 ∧ hb (r 36) k = false ∧ bearsS r k < x) → ∃ D', f_X7_rolls_L66 (f_X7_rolls_L5 m) (nI b) x (lorP r x k).2 (nI k) D = some ((lorP r x n).2, D') ∧ RepM D' b (lorS r x n) ∧ FrN b D D' := by
      intro hno
      unfold f_X7_rolls_L66
      simp only [ap, nI_1]
      have e : lorP r x (k + 1) = lorP r x k := by
        show (if _ then _ else _) = _
        rw [if_neg hno]
      have := ih' D (by omega) (by omega) (by rw [e]; exact h)
      rw [e] at this
      exact this
    by_cases h2 : r (8 + k) = 2
    · rw [if_pos h2, m_out h hb' (by omega), Option.bind_some, hL 36 (by omega)]
      cases h36 : hb (r 36) k with
      | true =>
        rw [if_neg (by simp)]
        exact skip (fun z => by rw [h36] at z; exact absurd z.2.1 (by decide))
      | false =>
        have hbe : bearsS (lorP r x k).1 k = bearsS r k := by
          unfold bearsS; rw [hL (42 + k) (by omega), hL (49 + k) (by omega)]
        rw [if_pos (by simp), m_bears h hb' (by omega), Option.bind_some, hbe]
        by_cases hx : x ≤ bearsS r k
        · rw [if_pos hx]
          exact skip (fun z => absurd z.2.2 (Int32.not_lt.mpr hx))
        · rw [if_neg hx]
          have hy : r (8 + k) = 2 ∧ hb (r 36) k = false ∧ bearsS r k < x := ⟨h2, h36, Int32.not_le.mp hx⟩
          obtain ⟨D1, e, a, f⟩ := m_wake h hb' (c := k) (by omega)
          rw [e, Option.bind_some]
          unfold f_X7_rolls_L66
          simp only [ap, nI_1]
          have e2 : lorP r x (k + 1) = (put3 (lorP r x k).1 k (wokeV r k), (lorP r x k).2 + 1) := by
            show (if _ then _ else _) = _
            rw [if_pos hy]
          have ev : (if (lorP r x k).1 (42 + k) = 5 then ((0, 0, 0) : Int32 × Int32 × Int32) else (1, (lorP r x k).1 40, 0)) = wokeV r k := by
            unfold wokeV; rw [hL (42 + k) (by omega), hL 40 (by omega)]
          rw [ev] at a
          have := ih' D1 (by omega) (by omega) (by rw [e2]; exact a)
          rw [e2] at this
          obtain ⟨D', f1, f2, f3⟩ := this
          exact ⟨D', f1, f2, f.tr f3⟩
    · rw [if_neg h2]
      exact skip (fun z => h2 z.1)
theorem m_lor {D : wd_D} (h : RepM D b r) (ok : Ok n r) (hb' : b ≤ 189) (x : Int32) : ∃ D', f_X7_rolls (nI b) x D = some ((lorP r x n).2, D') ∧ RepM D' b (lorS r x n) ∧ FrN b D D' := by
  unfold f_X7_rolls
  exact m_lor_L ok hb' x n 0 FU D (by omega) (by have := ok.1; unfold FU; omega) h
def alS (r : Rho) (n : Nat) : Int32 := (evS r &&& (r 36 ^^^ (-1))) &&& (thS r n 2 ^^^ (-1))
theorem m_all {D : wd_D} (h : RepM D b r) (ok : Ok n r) (hb' : b ≤ 189) : f_X7_allSleep (nI b) D = some (if alS r n = 0 then 1 else 0) := by
  unfold f_X7_allSleep
  rw [h.f41 hb', Option.bind_some, h.f36 hb', Option.bind_some, m_those h hb' ok.1 ok.2.1, Option.bind_some]
  show (if alS r n = 0 then some 1 else some 0) = _
  split <;> rfl
theorem m_copy_L {f t : Nat} (hf : f ≤ 189) (ht : t ≤ 189) (hd : f + 63 ≤ t ∨ t + 63 ≤ f) : ∀ d k m D, k + d = 63 → d < m → RepM D f r → (∀ i, i < k → D.1 371 (t + i) = r i) → ∃ D', f_X7_copyAll_L2 m (nI f) (nI t) (nI k) D = some D' ∧ RepM D' t r ∧ FrN t D D' := by
  intro d
  induction d with
  | zero =>
    intro k m D hk hm h hh
    obtain ⟨m, rfl⟩ : ∃ m', m = m' + 1 := ⟨m - 1, by omega⟩
    have e : k = 63 := by omega
    subst e
    rw [f_X7_copyAll_L2, if_pos (by decide)]
    exact ⟨D, rfl, hh, FrN.rf⟩
  | succ d ih =>
    intro k m D hk hm h hh
    obtain ⟨m, rfl⟩ : ∃ m', m = m' + 1 := ⟨m - 1, by omega⟩
    rw [f_X7_copyAll_L2, if_neg (fun z => by rw [show (63 : Int32) = nI 63 from rfl] at z; have := (le_nI (by omega) (by omega)).mp z; omega), nI_add, nI_add, rd_nI D 371 (show f + k < 252 by omega), Option.bind_some, wr_nI D 371 _ (show t + k < 252 by omega), Option.bind_some, h k (by omega)]
    simp only [ap, nI_1]
    obtain ⟨D', e, x1, x2⟩ := ih (k + 1) m (sI D 371 (t + k) (r k)) (by omega) (by omega) (fun j hj => by rw [sI_ne (by omega)]; exact h j hj) (fun i hi => by
      by_cases e : i = k
      · subst e; rw [sI_eq]
      · rw [sI_ne (by omega)]; exact hh i (by omega))
    exact ⟨D', e, x1, (FrN.s (by omega)).tr x2⟩
theorem m_copy {D : wd_D} {f t : Nat} (hf : f ≤ 189) (ht : t ≤ 189) (hd : f + 63 ≤ t ∨ t + 63 ≤ f) (h : RepM D f r) : ∃ D', f_X7_copyAll (nI f) (nI t) D = some D' ∧ RepM D' t r ∧ FrN t D D' := by
  unfold f_X7_copyAll
  exact m_copy_L hf ht hd 63 0 FU D (by omega) (by unfold FU; omega) h (fun i hi => absurd hi (by omega))
theorem m_tries {D : wd_D} (h : RepM D 0 r) : ∃ D', f_X7_tries D = some D' ∧ RepM D' 189 r ∧ FrN 189 D D' := by
  obtain ⟨D', e, a, f⟩ := m_copy (f := 0) (t := 189) (by decide) (by decide) (by decide) h
  unfold f_X7_tries
  exact ⟨D', by rw [show (0 : Int32) = nI 0 from rfl, show (189 : Int32) = nI 189 from rfl, e]; rfl, a, f⟩
theorem m_goes_L (ok : Ok n r) {M : Nat} (hM : M ≤ 900) : ∀ d i m D, i + d = M → d < m → RepM D 189 (itS r n i) → ∃ D', f_X7_goesOn_L2 m (nI M) (nI i) D = some D' ∧ RepM D' 189 (itS r n M) ∧ FrM 189 D D' := by
  intro d
  induction d with
  | zero =>
    intro i m D hi hm h
    obtain ⟨m, rfl⟩ : ∃ m', m = m' + 1 := ⟨m - 1, by omega⟩
    rw [f_X7_goesOn_L2, if_pos ((le_nI (by omega) (by omega)).mpr (by omega))]
    have e : i = M := by omega
    subst e
    exact ⟨D, rfl, h, FrM.rf⟩
  | succ d ih =>
    intro i m D hi hm h
    obtain ⟨m, rfl⟩ : ∃ m', m = m' + 1 := ⟨m - 1, by omega⟩
    rw [f_X7_goesOn_L2, if_neg (fun z => by have := (le_nI (by omega) (by omega)).mp z; omega)]
    obtain ⟨D1, e, a1, a2⟩ := m_pass h (ok.it i) (by decide)
    rw [show (189 : Int32) = nI 189 from rfl, e, Option.bind_some]
    simp only [ap, nI_1]
    obtain ⟨D', g1, g2, g3⟩ := ih (i + 1) m D1 (by omega) (by omega) a1
    exact ⟨D', g1, g2, a2.tr g3⟩
theorem m_goes {D : wd_D} (h : RepM D 189 r) (ok : Ok n r) {M : Nat} (hM : M ≤ 900) : ∃ D', f_X7_goesOn (nI M) D = some D' ∧ RepM D' 189 (itS r n M) ∧ FrM 189 D D' := by
  unfold f_X7_goesOn
  exact m_goes_L ok hM M 0 FU D (by omega) (by unfold FU; omega) h
theorem m_swap {D : wd_D} (h : RepM D b r) (hb' : b ≤ 189) {x y : Nat} (hx : x < 7) (hy : y < 7) : ∃ D', f_X7_swaps (nI b) (nI x) (nI y) D = some D' ∧ RepM D' b (swS r x y) ∧ FrN b D D' := by
  unfold f_X7_swaps
  rw [h.r29 hb' hx, Option.bind_some, h.r29 hb' hy, Option.bind_some, wrM29 _ hb' hx, Option.bind_some, wrM29 _ hb' hy, Option.bind_some]
  exact ⟨_, rfl, (h.up (29 + x) _).up (29 + y) _, (FrN.s (by omega)).tr (FrN.s (by omega))⟩
end MP
