/-! row, set, copy, drop, feed -/
theorem Inv2.row {D E : wd_D} {i : Nat} (hi : i < 8) (h : Inv2 D) (e : ∀ k j, k ≠ 336 + 2 * i → k ≠ 336 + 2 * i + 1 → ¬ (k = 374 ∧ 40 * i ≤ j ∧ j < 40 * i + 40) → ¬ (k = 375 ∧ j = i) → ¬ (k = 376 ∧ j = i) → ¬ (k = 0 ∧ j = 9) → ¬ (k = 370 ∧ j = 7) → k ≠ 379 → E.1 k j = D.1 k j) (hP : PRow E i) : Inv2 E := by
  obtain ⟨h2, h3, h4, ⟨n, r, h5, h6⟩, h7, h8⟩ := h
  refine ⟨by rw [e _ _ (by omega) (by omega) (by omega) (by omega) (by omega) (by omega) (by omega) (by omega), e _ _ (by omega) (by omega) (by omega) (by omega) (by omega) (by omega) (by omega) (by omega)]; exact h2, h3.at (fun k j z => e k j (by omega) (by omega) (by omega) (by omega) (by omega) (by omega) (by omega) (by omega)), fun i' hi' => ?_, ⟨n, r, h5.at (fun k j z => e k j (by omega) (by omega) (by omega) (by omega) (by omega) (by omega) (by omega) (by omega)), h6.at h5.2.2.1.1 (fun _ _ => rfl) (fun k j z => e k j (by omega) (by omega) (by omega) (by omega) (by omega) (by omega) (by omega) (by omega))⟩, fun i' hi' => (h7 i' hi').at hi' (fun k j z => e k j (by omega) (by omega) (by omega) (by omega) (by omega) (by omega) (by omega) (by omega)), h8.at (fun k j z => e k j (by omega) (by omega) (by omega) (by omega) (by omega) (by omega) (by omega) (by omega))⟩
  by_cases c : i' = i
  · rw [c]; exact hP
  · exact (h4 i' hi').at hi' (fun k j z => e k j (by omega) (by omega) (by omega) (by omega) (by omega) (by omega) (by omega) (by omega))
theorem PRow.fin {D : wd_D} {i : Nat} {x : Int32} (hi : i < 8) (h : PRow D i) : PRow (sI D 370 7 x) i := h.at hi (fun k j z => sI_ne (by omega))
theorem Inv2.fin7 {D : wd_D} (h : Inv2 D) {x : Int32} (e : D.1 0 9 = x) : Inv (sI D 370 7 x) := h.s7.of (by rw [sI_eq, sI_ne (by omega)]; exact e)
theorem be_loop {t : Nat} {a1 a2 : Int32} : ∀ d v m D, v + d = 40 → d < m → (∀ j, j < v → D.1 (t + 1) j = 0) → ∃ D', f_X4_begin_L12 m t a1 a2 (nI v) D = some D' ∧ (∀ j, j < 40 → D'.1 (t + 1) j = 0) ∧ ∀ k j, k ≠ t + 1 → D'.1 k j = D.1 k j := by
  intro d
  induction d with
  | zero =>
    intro v m D hv hm h
    obtain ⟨m, rfl⟩ : ∃ m', m = m' + 1 := ⟨m - 1, by omega⟩
    rw [f_X4_begin_L12, if_pos (show (40 : Int32) ≤ nI v from (le_nI (a := 40) (by omega) (by omega)).mpr (by omega))]
    exact ⟨D, rfl, fun j hj => h j (by omega), fun _ _ _ => rfl⟩
  | succ d ih =>
    intro v m D hv hm h
    obtain ⟨m, rfl⟩ : ∃ m', m = m' + 1 := ⟨m - 1, by omega⟩
    rw [f_X4_begin_L12, if_neg (fun z => by have := (le_nI (a := 40) (by omega) (by omega)).mp z; omega), wr_nI D (t + 1) 0 (show v < 40 by omega), Option.bind_some]
    unfold ap
    dsimp only
    rw [nI_1]
    obtain ⟨D', e, g, f⟩ := ih (v + 1) m (sI D (t + 1) v 0) (by omega) (by omega) (fun j hj => by
      by_cases e : j = v
      · subst e; exact sI_eq
      · rw [sI_ne (by omega)]; exact h j (by omega))
    exact ⟨D', e, g, fun k j a => by rw [f k j a, sI_ne (by omega)]⟩
theorem ap_e {α β : Type} (x : α) (f : α → β) : ap x f = f x := rfl
theorem be_e (t : Nat) (a1 a2 : Int32) (D : wd_D) : ∃ D', f_X4_begin t a1 a2 D = some D' ∧ (∀ j, j < 40 → D'.1 (t + 1) j = 0) ∧ ∀ k j, k ≠ t + 1 → D'.1 k j = (sI (sI D t 1 a1) t 2 a2).1 k j := by
  obtain ⟨D', e, g⟩ := be_loop (t := t) (a1 := a1) (a2 := a2) 40 0 FU (sI (sI D t 1 a1) t 2 a2) (by omega) (by unfold FU; omega) (fun j hj => absurd hj (by omega))
  rw [show nI 0 = (0 : Int32) from rfl] at e
  refine ⟨D', ?_, g⟩
  rw [f_X4_begin, ap_e, ap_e]
  exact e
theorem rw_loop {i : Nat} {a2 a3 : Int32} (hi : i < 8) : ∀ d v m D, v + d = 40 → d < m → (∀ j, j < v → D.1 374 (40 * i + j) = 0) → ∃ D', f_X7_row_L55 m (nI i) a2 a3 (nI v) D = some (a3, sI D' 370 7 0) ∧ (∀ j, j < 40 → D'.1 374 (40 * i + j) = 0) ∧ ∀ k j, ¬ (k = 374 ∧ 40 * i ≤ j ∧ j < 40 * i + 40) → D'.1 k j = D.1 k j := by
  intro d
  induction d with
  | zero =>
    intro v m D hv hm h
    obtain ⟨m, rfl⟩ : ∃ m', m = m' + 1 := ⟨m - 1, by omega⟩
    rw [f_X7_row_L55, if_pos (show (40 : Int32) ≤ nI v from (le_nI (a := 40) (by omega) (by omega)).mpr (by omega))]
    exact ⟨D, rfl, fun j hj => h j (by omega), fun _ _ _ => rfl⟩
  | succ d ih =>
    intro v m D hv hm h
    obtain ⟨m, rfl⟩ : ∃ m', m = m' + 1 := ⟨m - 1, by omega⟩
    rw [f_X7_row_L55, if_neg (fun z => by have := (le_nI (a := 40) (by omega) (by omega)).mp z; omega), show (40 : Int32) = nI 40 from rfl, pk_mul, nI_add, wr_nI D 374 0 (show 40 * i + v < 320 by omega), Option.bind_some]
    unfold ap
    dsimp only
    rw [nI_1]
    obtain ⟨D', e, g, f⟩ := ih (v + 1) m (sI D 374 (40 * i + v) 0) (by omega) (by omega) (fun j hj => by
      by_cases e : j = v
      · subst e; exact sI_eq
      · rw [sI_ne (by omega)]; exact h j (by omega))
    exact ⟨D', e, g, fun k j a => by rw [f k j a, sI_ne (by omega)]⟩
theorem c_fnd (x : Int32) (D : wd_D) : ap (f_X6_found x D) (fun q => some (q.1, q.2)) = some (-1000010 - x, sI D 0 9 x) := rfl
theorem m_fnd (x : Int32) (D : wd_D) : ap (f_X7_found x D) (fun q => some (q.1, q.2)) = some (-1000010 - x, sI D 370 7 x) := rfl
theorem op_row {D : wd_D} (h : Inv D) (a1 a2 a3 : Int32) : ∃ v D1 D2, f_X6_row a1 a2 a3 D = some (v, D1) ∧ f_X7_row a1 a2 a3 D1 = some (v, D2) ∧ Inv D2 := by
  have ms : ∀ E, f_X7_row a1 a2 a3 E = if f_X6_noRow a1 = 0 then (if f_X6_beyond a2 0 2 = 0 then (if a3 ≤ 40 then (if 0 ≤ a3 then (wr 8 E 375 a1 a3).bind (fun D5 => (wr 8 D5 376 a1 a2).bind (fun D6 => f_X7_row_L55 FU a1 a2 a3 0 D6)) else ap (f_X7_found 4 E) (fun q7 => some (q7.1, q7.2))) else some ((-1000001), E)) else some ((-1000001), E)) else some ((-1000001), E) := by
    intro E
    unfold f_X7_row
    rw [isRow_e, ib, show f_X7_in a2.toInt64 0 2 = if f_X6_beyond a2 0 2 = 0 then 1 else 0 from in_bey a2 0 2, ib]
  unfold f_X6_row
  by_cases c1 : f_X6_noRow a1 = 0
  · rw [if_pos c1]
    by_cases c2 : f_X6_beyond a2 0 2 = 0
    · rw [if_pos c2]
      by_cases c3 : a3 ≤ 40
      · rw [if_pos c3]
        by_cases c4 : 0 ≤ a3
        · rw [if_pos c4]
          obtain ⟨i, i8, e1⟩ := row_nI c1
          subst e1
          obtain ⟨l, -, hl, e2⟩ := bey_nI (lo := 0) (hi := 2) (by decide) (by decide) c2
          subst e2
          obtain ⟨sz, hsz, e3⟩ := nI_of2 (M := 40) (n := 40) (by decide) (fun z => (fa_of_lt z).2.1 c4) c3
          subst e3
          obtain ⟨D1, b1, b2, b3⟩ := be_e (336 + 2 * i) (nI l) (nI sz) D
          obtain ⟨E1, m1, m2, m3⟩ := rw_loop (a2 := nI l) (a3 := nI sz) i8 40 0 FU (sI (sI (sI D1 0 9 0) 375 i (nI sz)) 376 i (nI l)) (by omega) (by unfold FU; omega) (fun j hj => absurd hj (by omega))
          have e1 : ∀ k j, k ≠ 336 + 2 * i → k ≠ 336 + 2 * i + 1 → ¬ (k = 0 ∧ j = 9) → (sI D1 0 9 0).1 k j = D.1 k j := fun k j a1 a2 a3 => by
            rw [sI_ne a3, b3 k j a2, sI_ne (by omega), sI_ne (by omega)]
          have e2 : ∀ k j, ¬ (k = 374 ∧ 40 * i ≤ j ∧ j < 40 * i + 40) → ¬ (k = 375 ∧ j = i) → ¬ (k = 376 ∧ j = i) → E1.1 k j = (sI D1 0 9 0).1 k j := fun k j a1 a2 a3 => by
            rw [m3 k j a1, sI_ne a3, sI_ne a2]
          have hp : PRow E1 i := by
            refine Or.inr ⟨l, sz, by omega, hsz, ?_, ?_, ?_, ?_, fun j hj => ?_⟩
            · rw [e2 _ _ (by omega) (by omega) (by omega), sI_ne (by omega), b3 _ _ (by omega), sI_ne (by omega), sI_eq]
            · rw [m3 _ _ (by omega), sI_eq]
            · rw [e2 _ _ (by omega) (by omega) (by omega), sI_ne (by omega), b3 _ _ (by omega), sI_eq]
            · rw [m3 _ _ (by omega), sI_ne (by omega), sI_eq]
            · rw [m2 j hj, e2 _ _ (by omega) (by omega) (by omega), sI_ne (by omega), b2 j hj]
          have hI : Inv2 E1 := h.two.row i8 (fun k j a1 a2 a3 a4 a5 a6 a7 a8 => by rw [e2 k j a3 a4 a5, e1 k j a1 a2 a6]) hp
          refine ⟨nI sz, sI D1 0 9 0, sI E1 370 7 0, ?_, ?_, hI.fin7 (by rw [e2 _ _ (by omega) (by omega) (by omega), sI_eq])⟩
          · rw [ix_nI i8, Option.bind_some, b1, Option.bind_some]; rfl
          · rw [ms, if_pos c1, if_pos c2, if_pos c3, if_pos c4, wr_nI _ 375 _ i8, Option.bind_some, wr_nI _ 376 _ i8, Option.bind_some]; exact m1
        · rw [if_neg c4, c_fnd]
          refine ⟨_, _, sI (sI D 0 9 4) 370 7 4, rfl, ?_, h.two.fin 4⟩
          rw [ms, if_pos c1, if_pos c2, if_pos c3, if_neg c4, m_fnd]
      · rw [if_neg c3]
        exact ⟨_, D, D, rfl, by rw [ms, if_pos c1, if_pos c2, if_neg c3], h⟩
    · rw [if_neg c2]
      exact ⟨_, D, D, rfl, by rw [ms, if_pos c1, if_neg c2], h⟩
  · rw [if_neg c1]
    exact ⟨_, D, D, rfl, by rw [ms, if_neg c1], h⟩
theorem op_drop {D : wd_D} (h : Inv D) (a1 : Int32) : ∃ v D1 D2, f_X6_drop a1 D = some (v, D1) ∧ f_X7_drop a1 D1 = some (v, D2) ∧ Inv D2 := by
  have ms : ∀ E, f_X7_drop a1 E = if f_X6_noRow a1 = 0 then (rd 8 E 375 a1).bind (fun x2 => (if 0 ≤ x2 then (rd 8 E 375 a1).bind (fun x4 => (wr 8 E 375 a1 (-1)).bind (fun D5 => ap (f_X7_good x4 D5) (fun q6 => some (q6.1, q6.2)))) else ap (f_X7_found 1 E) (fun q7 => some (q7.1, q7.2)))) else some ((-1000001), E) := by
    intro E
    unfold f_X7_drop
    rw [isRow_e, ib]
  unfold f_X6_drop
  by_cases c1 : f_X6_noRow a1 = 0
  · rw [if_pos c1]
    obtain ⟨i, i8, e1⟩ := row_nI c1
    subst e1
    rw [ix_nI i8, Option.bind_some]
    rcases h.2.2.2.1 i i8 with ⟨h1, h2⟩ | ⟨l, sz, h1, h2, h3, h4, h5, h6, h7⟩
    · rw [if_pos (show gI D (336 + 2 * i) 1 = -1 from h1), c_fnd]
      refine ⟨_, _, sI (sI D 0 9 1) 370 7 1, rfl, ?_, h.two.fin 1⟩
      rw [ms, if_pos c1, rd_nI _ 375 i8, Option.bind_some, sI_ne (by omega), h2, if_neg (show ¬ (0 : Int32) ≤ -1 by decide), m_fnd]
    · rw [if_neg (show ¬ gI D (336 + 2 * i) 1 = -1 from by rw [gI_e, h3]; exact nI_neg (by omega)), Option.bind_some]
      unfold ap
      dsimp only
      rw [Option.bind_some, gI_e, sI_ne (by omega), h5]
      have hI : Inv2 (sI (sI (sI D (336 + 2 * i) 1 (-1)) 0 9 0) 375 i (-1)) := h.two.row i8 (fun k j a1 a2 a3 a4 a5 a6 a7 a8 => by rw [sI_ne a4, sI_ne a6, sI_ne (by omega)]) (Or.inl ⟨by rw [sI_ne (by omega), sI_ne (by omega), sI_eq], sI_eq⟩)
      refine ⟨nI sz, sI (sI D (336 + 2 * i) 1 (-1)) 0 9 0, sI (sI (sI (sI D (336 + 2 * i) 1 (-1)) 0 9 0) 375 i (-1)) 370 7 0, rfl, ?_, hI.fin7 (by rw [sI_ne (by omega), sI_eq])⟩
      rw [ms, if_pos c1, rd_nI _ 375 i8, Option.bind_some, sI_ne (by omega), sI_ne (by omega), h6, if_pos (nI_pos' (by omega)), Option.bind_some, wr_nI _ 375 _ i8, Option.bind_some]; rfl
  · rw [if_neg c1]
    exact ⟨_, D, D, rfl, by rw [ms, if_neg c1], h⟩
theorem op_feed {D : wd_D} (h : Inv D) (a1 : Int32) : ∃ v D1 D2, f_X6_feed a1 D = some (v, D1) ∧ f_X7_feed a1 D1 = some (v, D2) ∧ Inv D2 := by
  obtain ⟨h1, h2, ⟨n, t1, t2, t3, t4⟩, h4, ⟨n0, r0, h5, h6⟩, h7, h8⟩ := id h
  have ms : ∀ E, f_X7_feed a1 E = if f_X6_beyond a1 0 255 = 0 then (if (gI E 370 9) = 120 then some ((-1000003), E) else (wr 120 E 377 (gI E 370 9) a1).bind (fun D3 => ap (sI D3 370 9 ((gI D3 370 9) + 1)) (fun D4 => some (gI D4 370 9, D4)))) else some ((-1000001), E) := by
    intro E
    unfold f_X7_feed
    rw [show f_X7_in a1.toInt64 0 255 = if f_X6_beyond a1 0 255 = 0 then 1 else 0 from in_bey a1 0 255, ib]
  unfold f_X6_feed
  by_cases c1 : f_X6_beyond a1 0 255 = 0
  · rw [if_pos c1]
    obtain ⟨b, -, hb, e1⟩ := bey_nI (lo := 0) (hi := 255) (by decide) (by decide) c1
    subst e1
    by_cases c2 : n < 120
    · rw [if_pos (show gI D 2 1 < 120 from by rw [gI_e, t2]; exact (lt_nI (b := 120) (by omega) (by omega)).mpr c2), gI_e, t2, wr_nI D 3 _ c2, Option.bind_some]
      unfold ap
      dsimp only
      simp only [gI_e]
      rw [sI_ne (show ¬ (2 = 3 ∧ 1 = n) by omega), t2, nI_1, sI_eq]
      have k9 : gI (sI (sI D 3 n (nI b)) 2 1 (nI (n + 1))) 370 9 = nI n := by rw [gI_e, sI_ne (by omega), sI_ne (by omega)]; exact t3
      have e : ∀ k j, k ≠ 3 → ¬ (k = 2 ∧ j = 1) → k ≠ 377 → ¬ (k = 370 ∧ j = 9) → (sI (sI (sI (sI D 3 n (nI b)) 2 1 (nI (n + 1))) 377 n (nI b)) 370 9 (nI (n + 1))).1 k j = D.1 k j := fun k j a1 a2 a3 a4 => by
        rw [sI_ne a4, sI_ne (by omega), sI_ne a2, sI_ne (by omega)]
      refine ⟨_, _, sI (sI (sI (sI D 3 n (nI b)) 2 1 (nI (n + 1))) 377 n (nI b)) 370 9 (nI (n + 1)), rfl, ?_, ?_⟩
      · rw [ms, if_pos c1, k9, if_neg (show ¬ nI n = 120 from fun z => by have := (eq_nI (b := 120) (by omega) (by omega)).mp z; omega), wr_nI _ 377 _ c2, Option.bind_some]
        unfold ap
        dsimp only
        rw [show gI (sI (sI (sI D 3 n (nI b)) 2 1 (nI (n + 1))) 377 n (nI b)) 370 9 = nI n from by rw [gI_e, sI_ne (by omega), ← gI_e]; exact k9, nI_1, gI_e, sI_eq]
      · refine ⟨by rw [e _ _ (by omega) (by omega) (by omega) (by omega), e _ _ (by omega) (by omega) (by omega) (by omega)]; exact h1, by rw [e _ _ (by omega) (by omega) (by omega) (by omega), e _ _ (by omega) (by omega) (by omega) (by omega)]; exact h2, ⟨n + 1, by omega, ?_, sI_eq, fun j hj => ?_⟩, fun i hi => (h4 i hi).at hi (fun k j z => e k j (by omega) (by omega) (by omega) (by omega)), ⟨n0, r0, h5.at (fun k j z => e k j (by omega) (by omega) (by omega) (by omega)), h6.at h5.2.2.1.1 (fun _ _ => rfl) (fun k j z => e k j (by omega) (by omega) (by omega) (by omega))⟩, fun i hi => (h7 i hi).at hi (fun k j z => e k j (by omega) (by omega) (by omega) (by omega)), h8.at (fun k j z => e k j (by omega) (by omega) (by omega) (by omega))⟩
        · rw [sI_ne (by omega), sI_ne (by omega), sI_eq]
        · by_cases ej : j = n
          · subst ej
            rw [sI_ne (by omega), sI_ne (by omega), sI_ne (by omega), sI_eq, sI_ne (by omega), sI_eq]
            exact ⟨rfl, b, by omega, rfl⟩
          · rw [sI_ne (by omega), sI_ne (by omega), sI_ne (by omega), sI_ne (by omega), sI_ne (by omega), sI_ne (by omega), sI_ne (by omega), sI_ne (by omega)]
            exact t4 j (by omega)
    · have e120 : n = 120 := by omega
      subst e120
      rw [if_neg (show ¬ gI D 2 1 < 120 from by rw [gI_e, t2]; decide)]
      exact ⟨_, D, D, rfl, by rw [ms, if_pos c1, if_pos (show gI D 370 9 = 120 from t3)], h⟩
  · rw [if_neg c1]
    exact ⟨_, D, D, rfl, by rw [ms, if_neg c1], h⟩
