/-! minutes, undo, image, restore -/
theorem mn_loop {n M : Nat} (hn : n ≤ 7) (hM : M ≤ 24) : ∀ d i m D r p s nx, i + d = M → d < m → RepC D 4 n r → Ok n r → PC D n p s nx → PG n r p s → ∃ v D' r' p' s' nx', f_X6_minutes_L43 m (nI M) (nI i) D = some (v, D') ∧ RepC D' 4 n r' ∧ PC D' n p' s' nx' ∧ PG n r' p' s' ∧ Ok n r' ∧ (∀ j, 38 ≤ j → r' j = r j) ∧ (∀ k j, k ≠ 23 → ¬ (25 ≤ k ∧ k ≤ 240) → ¬ (4 ≤ k ∧ k ≤ 12) → D'.1 k j = D.1 k j) ∧ ∀ E m', d < m' → RepM E 0 r → PM E p s → ∃ E', f_X7_minutes_L44 m' (nI M) (nI i) E = some (v, E') ∧ RepM E' 0 r' ∧ PM E' p' s' ∧ (∀ k j, ¬ (k = 370 ∧ j = 3) → k ≠ 373 → ¬ (k = 371 ∧ j < 63) → k ≠ 380 → E'.1 k j = E.1 k j) := by
  intro d
  induction d with
  | zero =>
    intro i m D r p s nx hi hm hR ok hP hG
    obtain ⟨m, rfl⟩ : ∃ m', m = m' + 1 := ⟨m - 1, by omega⟩
    rw [f_X6_minutes_L43, if_pos ((le_nI (by omega) (by omega)).mpr (by omega)), c_those hR hn ok.2.1, Option.bind_some]
    refine ⟨_, D, r, p, s, nx, rfl, hR, hP, hG, ok, fun _ _ => rfl, fun _ _ _ _ _ => rfl, fun E m' hm' hE hQ => ⟨E, ?_, hE, hQ, fun _ _ _ _ _ _ => rfl⟩⟩
    obtain ⟨m', rfl⟩ : ∃ m2, m' = m2 + 1 := ⟨m' - 1, by omega⟩
    rw [f_X7_minutes_L44, if_pos ((le_nI (by omega) (by omega)).mpr (by omega)), m_those0 hE ok, Option.bind_some]
  | succ d ih =>
    intro i m D r p s nx hi hm hR ok hP hG
    obtain ⟨m, rfl⟩ : ∃ m', m = m' + 1 := ⟨m - 1, by omega⟩
    rw [f_X6_minutes_L43, if_neg (fun z => by have := (le_nI (by omega) (by omega)).mp z; omega)]
    obtain ⟨D1, e1, c1, p1, f1⟩ := c_keep hR hn hP
    obtain ⟨b, D2, e2, c2, f2, -, -⟩ := c_pass c1 ok
    have p2 : PC D2 n (keP p s r) (keS s) ((nx + 1) % 24) := ⟨p1.1, p1.2.1, by rw [f2.1 _ _ (by omega)]; exact p1.2.2.1, by rw [f2.1 _ _ (by omega)]; exact p1.2.2.2.1, fun i hi => (p1.2.2.2.2 i hi).at hn (fun k j a1 a2 => f2.1 k j (by omega))⟩
    have hg : ∀ j, 38 ≤ j → passS r n j = r j := fun j hj => passS_out hn (by omega) (by omega)
    obtain ⟨v, D', r', p', s', nx', e, c3, p3, g3, ok3, r3, f3, gm⟩ := ih (i + 1) m D2 (passS r n) (keP p s r) (keS s) ((nx + 1) % 24) (by omega) (by omega) c2 ok.pass p2 ((hG.ke ok hP.1).of hg)
    rw [e1, Option.bind_some, e2, Option.bind_some]
    unfold ap
    dsimp only
    rw [nI_1]
    refine ⟨v, D', r', p', s', nx', e, c3, p3, g3, ok3, fun j hj => by rw [r3 j hj, hg j hj], fun k j a1 a2 a3 => by rw [f3 k j a1 a2 a3, f2.1 k j (by omega), f1 k j a1 a2], fun E m' hm' hE hQ => ?_⟩
    obtain ⟨m', rfl⟩ : ∃ m2, m' = m2 + 1 := ⟨m' - 1, by omega⟩
    obtain ⟨E1, x1, y1, q1, u1⟩ := m_minds hE hP.1 hQ
    obtain ⟨E2, x2, y2, u2⟩ := m_pass0 y1 ok
    have w2 : ∀ k j, k ≠ 380 → ¬ (k = 371 ∧ j < 63) → E2.1 k j = E1.1 k j := fun k j a1 a2 => u2.1 k j a1 (fun _ => by omega)
    have q2 : PM E2 (keP p s r) (keS s) := ⟨by rw [w2 _ _ (by omega) (by omega)]; exact q1.1, fun i hi j hj => by rw [w2 _ _ (by omega) (by omega)]; exact q1.2 i hi j hj⟩
    obtain ⟨E', x, y, q, u⟩ := gm E2 m' (by omega) y2 q2
    refine ⟨E', ?_, y, q, fun k j a1 a2 a3 a4 => by rw [u k j a1 a2 a3 a4, w2 k j a4 a3, u1 k j a1 a2]⟩
    rw [f_X7_minutes_L44, if_neg (fun z => by have := (le_nI (by omega) (by omega)).mp z; omega), x1, Option.bind_some, x2, Option.bind_some]
    unfold ap
    dsimp only
    rw [nI_1]; exact x
theorem op_minutes {D : wd_D} (h : Inv D) (a1 : Int32) : ∃ v D1 D2, f_X6_minutes a1 D = some (v, D1) ∧ f_X7_minutes a1 D1 = some (v, D2) ∧ Inv D2 := by
  obtain ⟨n, r, hN, hP⟩ := h.2.2.2.2.1
  have ok := hN.2.2.1
  have hn := ok.1
  unfold f_X6_minutes
  rw [noRoom_e hN]
  by_cases e0 : n = 0
  · rw [if_pos e0, i10]
    refine ⟨_, D, D, rfl, ?_, h⟩
    unfold f_X7_minutes
    rw [isRoom_e hN, if_pos e0, Option.bind_some, i00]
  rw [if_neg e0, i00]
  have ms : ∀ E, (∀ k j, 370 ≤ k → E.1 k j = D.1 k j) → f_X7_minutes a1 E = if f_X6_beyond a1 1 24 = 0 then (if r 0 + a1 ≤ 999 then f_X7_minutes_L44 FU a1 0 E else some (-1000003, E)) else some (-1000001, E) := by
    intro E hE
    unfold f_X7_minutes
    have hM := hN.2.1.at (E := E) (fun j _ _ => hE 371 j (by omega))
    rw [isRoom_m hM hN.2.2.2, if_neg e0, Option.bind_some, i10, show f_X7_in a1.toInt64 1 24 = if f_X6_beyond a1 1 24 = 0 then 1 else 0 from in_bey a1 1 24, ib, hM.y0, Option.bind_some]
  by_cases c1 : f_X6_beyond a1 1 24 = 0
  · rw [if_pos c1, hN.1.f0]
    by_cases c2 : r 0 + a1 ≤ 999
    · rw [if_pos c2]
      obtain ⟨M, m1, m2, e1⟩ := bey_nI (lo := 1) (hi := 24) (by decide) (by decide) c1
      subst e1
      obtain ⟨p, s, nx, hC, hQ, hG⟩ := hP.split
      obtain ⟨v, D', r', p', s', nx', e, c3, p3, g3, ok3, r3, f3, gm⟩ := mn_loop hn m2 M 0 FU D r p s nx (by omega) (by unfold FU; omega) hN.1 ok hC hG
      have g7 : ∀ k j, 370 ≤ k → D'.1 k j = D.1 k j := fun k j hk => f3 k j (by omega) (by omega) (by omega)
      obtain ⟨E', x, y, q, u⟩ := gm D' FU (by unfold FU; omega) (hN.2.1.at (fun j _ _ => g7 371 j (by omega))) ⟨by rw [g7 _ _ (by omega)]; exact hQ.1, fun i hi j hj => by rw [g7 _ _ (by omega)]; exact hQ.2 i hi j hj⟩
      refine ⟨v, D', E', e, ?_, h.act c3 p3 f3 y q u ok3 (by rw [r3 38 (by omega)]; exact hN.2.2.2) g3⟩
      rw [ms D' g7, if_pos c1, if_pos c2]; exact x
    · rw [if_neg c2]
      exact ⟨_, D, D, rfl, by rw [ms D (fun _ _ _ => rfl), if_pos c1, if_neg c2], h⟩
  · rw [if_neg c1]
    exact ⟨_, D, D, rfl, by rw [ms D (fun _ _ _ => rfl), if_neg c1], h⟩
/-! undo -/
theorem un_loop {s : Nat} {r q : Rho} (hs : s < 24) (hq : ∀ j, 38 ≤ j → q j = r j) : ∀ d v m E, v + d = 38 → d < m → E.1 370 3 = nI s → (∀ j, j < 38 → E.1 373 (38 * s + j) = q j) → (∀ j, j < v → E.1 371 j = q j) → (∀ j, v ≤ j → j < 63 → E.1 371 j = r j) → ∃ E', f_X7_undo_L22 m (nI v) E = some (nI s, E') ∧ RepM E' 0 q ∧ (∀ k j, ¬ (k = 371 ∧ j < 63) → E'.1 k j = E.1 k j) := by
  intro d
  induction d with
  | zero =>
    intro v m E hv hm h3 h4 h5 h6
    obtain ⟨m, rfl⟩ : ∃ m', m = m' + 1 := ⟨m - 1, by omega⟩
    rw [f_X7_undo_L22, if_pos (show (38 : Int32) ≤ nI v from (le_nI (a := 38) (by omega) (by omega)).mpr (by omega)), gI_e, h3]
    refine ⟨E, rfl, fun j hj => ?_, fun _ _ _ => rfl⟩
    rw [Nat.zero_add]
    by_cases c : j < v
    · exact h5 j c
    · rw [h6 j (by omega) hj, hq j (by omega)]
  | succ d ih =>
    intro v m E hv hm h3 h4 h5 h6
    obtain ⟨m, rfl⟩ : ∃ m', m = m' + 1 := ⟨m - 1, by omega⟩
    rw [f_X7_undo_L22, if_neg (fun z => by have := (le_nI (a := 38) (by omega) (by omega)).mp z; omega), gI_e, h3, show (38 : Int32) = nI 38 from rfl, pk_mul, nI_add, rd_nI E 373 (show 38 * s + v < 912 by omega), Option.bind_some, h4 v (by omega), wr_nI E 371 _ (show v < 252 by omega), Option.bind_some]
    unfold ap
    dsimp only
    rw [nI_1]
    obtain ⟨E', e, g, f⟩ := ih (v + 1) m (sI E 371 v (q v)) (by omega) (by omega) (by rw [sI_ne (by omega)]; exact h3) (fun j hj => by rw [sI_ne (by omega)]; exact h4 j hj) (fun j hj => by
      by_cases e : j = v
      · subst e; exact sI_eq
      · rw [sI_ne (by omega)]; exact h5 j (by omega)) (fun j a1 a2 => by rw [sI_ne (by omega)]; exact h6 j (by omega) a2)
    exact ⟨E', e, g, fun k j a1 => by rw [f k j a1, sI_ne (by omega)]⟩
theorem op_undo {D : wd_D} (h : Inv D) : ∃ v D1 D2, f_X6_undo D = some (v, D1) ∧ f_X7_undo D1 = some (v, D2) ∧ Inv D2 := by
  obtain ⟨n, r, hN, hP⟩ := h.2.2.2.2.1
  have ok := hN.2.2.1
  have hn := ok.1
  obtain ⟨p, s, nx, hC, hQ, hG⟩ := hP.split
  obtain ⟨h1, h2, h3, h4, h5⟩ := hC
  unfold f_X6_undo
  rw [gI_e, h4]
  cases s with
  | zero =>
    rw [if_pos (show nI 0 = 0 from rfl)]
    refine ⟨_, D, D, rfl, ?_, h⟩
    unfold f_X7_undo
    rw [gI_e, hQ.1, if_pos (show nI 0 = 0 from rfl)]
  | succ s =>
    rw [if_neg (nI_ne0 (by omega) (by omega)), f_X2_bringBack, gI_e, h4, if_neg (nI_ne0 (by omega) (by omega))]
    unfold ap
    dsimp only
    simp only [gI_e]
    rw [h3, sI_ne (show ¬ (23 = 23 ∧ 2 = 1) by omega), h4, nI_pred, show (24 : Int32) = nI 24 from rfl, nI_add, show nx + 24 = nx + 23 + 1 from rfl, nI_pred, pk_rem (by omega) (by decide) (by decide), sI_ne (show ¬ (23 = 23 ∧ 1 = 2) by omega), sI_eq, ix_nI (Nat.mod_lt _ (by decide)), Option.bind_some]
    have hi : (nx + 24 - (s + 1) + s) % 24 = (nx + 23) % 24 := by omega
    have hm : (nx + 23) % 24 < 24 := Nat.mod_lt _ (by decide)
    have hs := h5 s (by omega)
    rw [hi] at hs
    have f0 : ∀ k j, k ≠ 23 → (sI (sI D 23 1 (nI ((nx + 23) % 24))) 23 2 (nI s)).1 k j = D.1 k j := fun k j a => by rw [sI_ne (by omega), sI_ne (by omega)]
    obtain ⟨D1, e1, c1, f1⟩ := c_become' (t := 4) (hs.at (E := sI (sI D 23 1 (nI ((nx + 23) % 24))) 23 2 (nI s)) hn (fun k j a1 a2 => f0 k j (by omega))) hn (by omega)
    rw [e1, Option.bind_some, Option.bind_some]
    have ge : ∀ k j, k ≠ 23 → ¬ (4 ≤ k ∧ k ≤ 12) → D1.1 k j = D.1 k j := fun k j a1 a2 => by rw [f1.1 k j (by omega), f0 k j a1]
    have hg := hG s (by omega)
    have q2 : D1.1 23 2 = nI s := by rw [f1.1 _ _ (by omega), sI_eq]
    have q1 : D1.1 23 1 = nI ((nx + 23) % 24) := by rw [f1.1 _ _ (by omega), sI_ne (by omega), sI_eq]
    have p1 : PC D1 n p s ((nx + 23) % 24) := ⟨by omega, hm, q1, q2, fun i hi => by
      have e : ((nx + 23) % 24 + 24 - s + i) % 24 = (nx + 24 - (s + 1) + i) % 24 := by omega
      have hmi := Nat.mod_lt (nx + 24 - (s + 1) + i) (show 24 > 0 by decide)
      rw [e]
      exact (h5 i (by omega)).at hn (fun k j a1 a2 => ge k j (by omega) (by omega))⟩
    obtain ⟨E', x, y, u⟩ := un_loop (s := s) (r := r) (q := p s) (by omega) hg.1 38 0 FU (sI D1 370 3 (nI s)) (by omega) (by unfold FU; omega) sI_eq (fun j hj => by rw [sI_ne (by omega), ge _ _ (by omega) (by omega)]; exact hQ.2 s (by omega) j hj) (fun j hj => absurd hj (by omega)) (fun j _ hj => by
      have := hN.2.1 j hj
      rw [Nat.zero_add] at this
      rw [sI_ne (by omega), ge _ _ (by omega) (by omega)]; exact this)
    refine ⟨nI s, D1, E', by rw [q2], ?_, h.act c1 p1 (fun k j a1 _ a3 => ge k j a1 a3) y ⟨by rw [u _ _ (by omega), sI_eq], fun i hi j hj => by rw [u _ _ (by omega), sI_ne (by omega), ge _ _ (by omega) (by omega)]; exact hQ.2 i (by omega) j hj⟩ (fun k j a1 a2 a3 a4 => by rw [u k j a3, sI_ne a1]) hg.2 (by rw [hg.1 38 (by omega)]; exact hN.2.2.2) (fun i hi => ⟨fun j hj => by rw [(hG i (by omega)).1 j hj, hg.1 j hj], (hG i (by omega)).2⟩)⟩
    unfold f_X7_undo
    rw [gI_e, ge _ _ (by omega) (by omega), hQ.1, if_neg (nI_ne0 (by omega) (by omega)), nI_pred]
    exact x
theorem img_nz {D : wd_D} {k n : Nat} {r : Rho} (hn : n ≤ 7) (h0 : 0 < n) (h : RepC D (352 + 9 * k) n r) (ok : Ok n r) : ¬ gI D (352 + 9 * k) 0 = 0 := by
  rw [h.f41, ok.2.1]
  exact nI_ne0 h0 (by omega)
theorem op_image {D : wd_D} (h : Inv D) (a1 : Int32) : ∃ v D1 D2, f_X6_image a1 D = some (v, D1) ∧ f_X7_image a1 D1 = some (v, D2) ∧ Inv D2 := by
  obtain ⟨h1, h2, h3, h4, ⟨n, r, hN, hP⟩, h7, h8⟩ := id h
  have ok := hN.2.2.1
  have hn := ok.1
  have ms : ∀ E, (∀ k j, 370 ≤ k → E.1 k j = D.1 k j) → f_X7_image a1 E = if f_X6_beyond a1 0 1 = 0 then (if n = 0 then some (-1000002, E) else (f_X7_copyAll 0 (63 * (1 + a1)) E).bind (fun q4 => (wr 2 q4 372 a1 (vp_nar .boolean 1)).bind (fun D5 => some (1, D5)))) else some (-1000001, E) := by
    intro E hE
    unfold f_X7_image
    have hM := hN.2.1.at (E := E) (fun j _ _ => hE 371 j (by omega))
    rw [show f_X7_in a1.toInt64 0 1 = if f_X6_beyond a1 0 1 = 0 then 1 else 0 from in_bey a1 0 1, ib, isRoom_m hM hN.2.2.2, Option.bind_some]
    by_cases e0 : n = 0
    · rw [if_pos e0, if_pos e0, i00]
    · rw [if_neg e0, if_neg e0, i10]
  unfold f_X6_image
  by_cases c1 : f_X6_beyond a1 0 1 = 0
  · rw [if_pos c1, noRoom_e hN]
    by_cases e0 : n = 0
    · rw [if_pos e0, i10]
      exact ⟨_, D, D, rfl, by rw [ms D (fun _ _ _ => rfl), if_pos c1, if_pos e0], h⟩
    rw [if_neg e0, i00]
    obtain ⟨k, -, hk, e1⟩ := bey_nI (lo := 0) (hi := 1) (by decide) (by decide) c1
    subst e1
    obtain ⟨D1, e1, k1, f1⟩ := c_become' (t := 352 + 9 * k) hN.1 hn (by omega)
    rw [ix_nI (show k < 2 by omega), Option.bind_some, e1, Option.bind_some]
    have g7 : ∀ i j, 370 ≤ i → D1.1 i j = D.1 i j := fun i j hi => f1.1 i j (by omega)
    obtain ⟨E1, x1, y1, u1⟩ := m_copy (f := 0) (t := 63 * (1 + k)) (by decide) (by omega) (by omega) (hN.2.1.at (E := D1) (fun j _ _ => g7 371 j (by omega)))
    have e : ∀ i j, ¬ (352 + 9 * k ≤ i ∧ i < 361 + 9 * k) → ¬ (i = 371 ∧ 63 * (1 + k) ≤ j ∧ j < 63 * (1 + k) + 63) → ¬ (i = 372 ∧ j = k) → (sI E1 372 k 1).1 i j = D.1 i j := fun i j a1 a2 a3 => by
      rw [sI_ne a3, u1.1 i j (by omega), f1.1 i j (by omega)]
    refine ⟨_, D1, sI E1 372 k 1, rfl, ?_, ?_⟩
    · rw [ms D1 g7, if_pos c1, if_neg e0, show (63 : Int32) * (1 + nI k) = nI (63 * (1 + k)) from by rw [show (1 : Int32) = nI 1 from rfl, nI_add, show (63 : Int32) = nI 63 from rfl, pk_mul], show f_X7_copyAll 0 (nI (63 * (1 + k))) D1 = some E1 from x1, Option.bind_some, wr_nI E1 372 _ (show k < 2 by omega), Option.bind_some]; rfl
    · refine ⟨by rw [e _ _ (by omega) (by omega) (by omega), e _ _ (by omega) (by omega) (by omega)]; exact h1, by rw [e _ _ (by omega) (by omega) (by omega), e _ _ (by omega) (by omega) (by omega)]; exact h2, h3.at (fun i j z => e i j (by omega) (by omega) (by omega)), fun i hi => (h4 i hi).at hi (fun i j z => e i j (by omega) (by omega) (by omega)), ⟨n, r, hN.at (fun i j z => e i j (by omega) (by omega) (by omega)), hP.at hn (fun _ _ => rfl) (fun i j z => e i j (by omega) (by omega) (by omega))⟩, fun i hi => ?_, h8.at (fun i j z => e i j (by omega) (by omega) (by omega))⟩
      by_cases hik : i = k
      · subst hik
        refine Or.inr ⟨n, r, by omega, k1.at hn (fun i' j a1 a2 => ?_), y1.at (fun j a1 a2 => sI_ne (by omega)), ok, by rw [hN.2.2.2, if_neg e0], sI_eq⟩
        rw [sI_ne (by omega), u1.1 i' j (by omega)]
      · exact (h7 i hi).at hi (fun i' j z => e i' j (by omega) (by omega) (by omega))
  · rw [if_neg c1]
    exact ⟨_, D, D, rfl, by rw [ms D (fun _ _ _ => rfl), if_neg c1], h⟩
theorem op_restore {D : wd_D} (h : Inv D) (a1 : Int32) : ∃ v D1 D2, f_X6_restore a1 D = some (v, D1) ∧ f_X7_restore a1 D1 = some (v, D2) ∧ Inv D2 := by
  obtain ⟨h1, h2, h3, h4, ⟨n0, r0, hN0, hP0⟩, h7, h8⟩ := id h
  have ms : ∀ E, f_X7_restore a1 E = if f_X6_beyond a1 0 1 = 0 then (rd 2 E 372 a1).bind (fun x2 => (if x2 = 0 then some ((-1000002), E) else (f_X7_copyAll (63 * (1 + a1)) 0 E).bind (fun q4 => ap (sI q4 370 3 0) (fun D5 => some (1, D5))))) else some (-1000001, E) := by
    intro E
    unfold f_X7_restore
    rw [show f_X7_in a1.toInt64 0 1 = if f_X6_beyond a1 0 1 = 0 then 1 else 0 from in_bey a1 0 1, ib]
  unfold f_X6_restore
  by_cases c1 : f_X6_beyond a1 0 1 = 0
  · rw [if_pos c1]
    obtain ⟨k, -, hk, e1⟩ := bey_nI (lo := 0) (hi := 1) (by decide) (by decide) c1
    subst e1
    rw [ix_nI (show k < 2 by omega), Option.bind_some]
    rcases h7 k (by omega) with ⟨q1, q2⟩ | ⟨n, r, hn0, hR, hM, ok, h38, q2⟩
    · rw [if_pos (show gI D (352 + 9 * k) 0 = 0 from q1)]
      refine ⟨_, D, D, rfl, ?_, h⟩
      rw [ms, if_pos c1, rd_nI D 372 (show k < 2 by omega), Option.bind_some, q2, i00]
    · have hn := ok.1
      rw [if_neg (img_nz hn hn0 hR ok), Option.bind_some]
      obtain ⟨D1, e1, k1, f1⟩ := c_become' (t := 4) hR hn (by omega)
      rw [e1, Option.bind_some]
      unfold ap f_X2_forget ap
      dsimp only
      have g7 : ∀ i j, 370 ≤ i → (sI D1 23 2 0).1 i j = D.1 i j := fun i j hi => by rw [sI_ne (by omega), f1.1 i j (by omega)]
      obtain ⟨E1, x1, y1, u1⟩ := m_copy (f := 63 * (1 + k)) (t := 0) (by omega) (by decide) (by omega) (hM.at (E := sI D1 23 2 0) (fun j _ _ => g7 371 j (by omega)))
      have e : ∀ i j, ¬ (4 ≤ i ∧ i ≤ 12) → ¬ (i = 23 ∧ j = 2) → ¬ (i = 371 ∧ j < 63) → ¬ (i = 370 ∧ j = 3) → (sI E1 370 3 0).1 i j = D.1 i j := fun i j a1 a2 a3 a4 => by
        rw [sI_ne a4, u1.1 i j (by omega), sI_ne a2, f1.1 i j (by omega)]
      refine ⟨_, sI D1 23 2 0, sI E1 370 3 0, rfl, ?_, ?_⟩
      · rw [ms, if_pos c1, rd_nI _ 372 (show k < 2 by omega), Option.bind_some, g7 _ _ (by omega), q2, i10, show (63 : Int32) * (1 + nI k) = nI (63 * (1 + k)) from by rw [show (1 : Int32) = nI 1 from rfl, nI_add, show (63 : Int32) = nI 63 from rfl, pk_mul], show f_X7_copyAll (nI (63 * (1 + k))) 0 (sI D1 23 2 0) = some E1 from x1, Option.bind_some]; rfl
      · obtain ⟨s, nx, g1, g2, g3, -⟩ := hP0
        have eD : ∀ i j, i < 370 → (sI E1 370 3 0).1 i j = (sI D1 23 2 0).1 i j := fun i j hi => by rw [sI_ne (by omega), u1.1 i j (by omega)]
        refine ⟨by rw [e _ _ (by omega) (by omega) (by omega) (by omega), e _ _ (by omega) (by omega) (by omega) (by omega)]; exact h1, by rw [e _ _ (by omega) (by omega) (by omega) (by omega), e _ _ (by omega) (by omega) (by omega) (by omega)]; exact h2, h3.at (fun i j z => e i j (by omega) (by omega) (by omega) (by omega)), fun i hi => (h4 i hi).at hi (fun i j z => e i j (by omega) (by omega) (by omega) (by omega)), ⟨n, r, ⟨k1.at hn (fun i j a1 a2 => by rw [eD i j (by omega), sI_ne (by omega)]), y1.at (fun j _ _ => sI_ne (by omega)), ok, by rw [h38, if_neg (by omega)]⟩, ⟨0, nx, by omega, g2, by rw [e _ _ (by omega) (by omega) (by omega) (by omega)]; exact g3, by rw [eD _ _ (by omega), sI_eq]; rfl, sI_eq, fun i hi => absurd hi (by omega)⟩⟩, fun i hi => (h7 i hi).at hi (fun i' j z => e i' j (by omega) (by omega) (by omega) (by omega)), h8.at (fun i j z => e i j (by omega) (by omega) (by omega) (by omega))⟩
  · rw [if_neg c1]
    exact ⟨_, D, D, rfl, by rw [ms, if_neg c1], h⟩
