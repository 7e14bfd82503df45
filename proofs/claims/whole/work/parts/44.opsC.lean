/-! foretold, second part: dinner, wakes, hands, outs, best -/
theorem max_eq (x z : Int32) : (if x < z then z else x) = if z ≤ x then x else z := by
  by_cases h : x < z
  · rw [if_pos h, if_neg (Int32.not_le.mpr h)]
  · rw [if_neg h, if_pos (Int32.not_lt.mp h)]
theorem d_loop {n M : Nat} {r : Rho} (ok : Ok n r) (hM : M ≤ 60) : ∀ d i m (mo no : Int32) D, i + d = M → d < m → RepC D 242 n (itS r n i) → ∃ v D', f_X1_longestDinner_L29 m 4 (nI M) (evS r &&& (r 36 ^^^ (-1))) mo no (nI i) D = some (v, D') ∧ Fr 242 D D' ∧ ∀ E m', d < m' → RepM E 189 (itS r n i) → ∃ E', f_X7_dinner_L32 m' (nI M) mo no (nI i) E = some (v, E') ∧ FrM 189 E E' := by
  have hn := ok.1
  intro d
  induction d with
  | zero =>
    intro i m mo no D hi hm h
    obtain ⟨m, rfl⟩ : ∃ m', m = m' + 1 := ⟨m - 1, by omega⟩
    rw [f_X1_longestDinner_L29, if_pos ((le_nI (by omega) (by omega)).mpr (by omega))]
    refine ⟨_, D, rfl, Fr.rf, fun E m' hm' hE => ?_⟩
    obtain ⟨m', rfl⟩ : ∃ m2, m' = m2 + 1 := ⟨m' - 1, by omega⟩
    rw [f_X7_dinner_L32, if_pos ((le_nI (by omega) (by omega)).mpr (by omega))]
    exact ⟨E, rfl, FrM.rf⟩
  | succ d ih =>
    intro i m mo no D hi hm h
    obtain ⟨m, rfl⟩ : ∃ m', m = m' + 1 := ⟨m - 1, by omega⟩
    rw [f_X1_longestDinner_L29, if_neg (fun z => by have := (le_nI (by omega) (by omega)).mp z; omega)]
    obtain ⟨b, D1, e1, a1, f1, -, -⟩ := c_pass h (ok.it i)
    rw [e1, Option.bind_some]
    have ea : alS (itS r n (i + 1)) n = (evS r &&& (r 36 ^^^ (-1))) &&& (thS (itS r n (i + 1)) n 2 ^^^ (-1)) := by
      unfold alS evS
      rw [itS_out hn (by decide) (by omega), itS_out hn (by decide) (by omega)]
    rw [c_all (r := itS r n (i + 1)) a1 (ok.it (i + 1)), Option.bind_some, ← ea, ib]
    have fin : ∀ z : Int32, z = (if alS (itS r n (i + 1)) n = 0 then no + 1 else 0) → ∃ v D', f_X1_longestDinner_L62 (f_X1_longestDinner_L29 m) 4 (nI M) (evS r &&& (r 36 ^^^ (-1))) mo (nI i) z D1 = some (v, D') ∧ Fr 242 D D' ∧ ∀ E m', d + 1 < m' → RepM E 189 (itS r n i) → ∃ E', f_X7_dinner_L32 m' (nI M) mo no (nI i) E = some (v, E') ∧ FrM 189 E E' := by
      intro z hz
      unfold f_X1_longestDinner_L62
      simp only [ap, nI_1]
      obtain ⟨v, D2, e2, f2, g⟩ := ih (i + 1) m (if mo < z then z else mo) z D1 (by omega) (by omega) a1
      refine ⟨v, D2, e2, f1.tr f2, fun E m' hm' hE => ?_⟩
      obtain ⟨m', rfl⟩ : ∃ m2, m' = m2 + 1 := ⟨m' - 1, by omega⟩
      obtain ⟨E1, x1, y1, u1⟩ := m_pass9 hE (ok.it i)
      obtain ⟨E2, x2, u2⟩ := g E1 m' (by omega) y1
      refine ⟨E2, ?_, u1.tr u2⟩
      rw [f_X7_dinner_L32, if_neg (fun z => by have := (le_nI (by omega) (by omega)).mp z; omega), x1, Option.bind_some, m_all9 (r := itS r n (i + 1)) y1 (ok.it (i + 1)), Option.bind_some, ib]
      have k62 : f_X7_dinner_L62 (f_X7_dinner_L32 m') (nI M) mo (nI i) z E1 = some (v, E2) := by
        rw [max_eq] at x2
        unfold f_X7_dinner_L62
        split
        · rename_i hq
          rw [if_pos hq] at x2
          simp only [f_X7_dinner_L73, ap, nI_1]
          exact x2
        · rename_i hq
          rw [if_neg hq] at x2
          simp only [f_X7_dinner_L73, ap, nI_1]
          exact x2
      rw [hz] at k62
      split
      · rename_i hq
        rw [if_pos hq] at k62; exact k62
      · rename_i hq
        rw [if_neg hq] at k62; exact k62
    split
    · rename_i hq
      exact fin _ (by rw [if_pos hq])
    · rename_i hq
      exact fin _ (by rw [if_neg hq])
theorem op_dinner {D : wd_D} (h : Inv D) (a : Int32) : ∃ v D1 D2, f_X6_dinner a D = some (v, D1) ∧ f_X7_dinner a D1 = some (v, D2) ∧ Inv D2 := by
  obtain ⟨n, r, hN, -⟩ := h.2.2.2.2.1
  have ok := hN.2.2.1
  have hn := ok.1
  unfold f_X6_dinner
  rw [noRoom_e hN]
  by_cases e0 : n = 0
  · rw [if_pos e0, i10]
    refine ⟨_, D, D, rfl, ?_, h⟩
    unfold f_X7_dinner
    rw [isRoom_e hN, if_pos e0, Option.bind_some, i00]
  · rw [if_neg e0, i00]
    have ms : ∀ E, PNow E n r → f_X7_dinner a E = if f_X6_beyond a 1 60 = 0 then (f_X7_tries E).bind (fun q4 => f_X7_dinner_L32 FU a 0 0 0 q4) else some (-1000001, E) := by
      intro E hE
      unfold f_X7_dinner f_X7_isSpan
      rw [isRoom_e hE, if_neg e0, Option.bind_some, i10, show f_X7_in a.toInt64 (1 : Int32).toInt64 60 = if f_X6_beyond a 1 60 = 0 then 1 else 0 from in_bey a 1 60, ib]
    by_cases h1 : f_X6_beyond a 1 60 = 0
    · rw [if_pos h1]
      obtain ⟨M, m1, m2, rfl⟩ := bey_nI (lo := 1) (hi := 60) (by decide) (by decide) h1
      obtain ⟨D1, e1, a1, s1, hN1⟩ := c_try hN
      obtain ⟨v, D2, e2, f2, g⟩ := d_loop ok m2 M 0 FU 0 0 D1 (by omega) (by unfold FU; omega) a1
      have s2 := s1.tr (f2.scr (by omega))
      have hN2 := hN.scr s2
      obtain ⟨E1, x1, y1, t1, -⟩ := m_try hN2
      obtain ⟨E2, x2, u2⟩ := g E1 FU (by unfold FU; omega) y1
      refine ⟨v, D2, E2, ?_, ?_, (h.scr s2).scr (t1.tr u2.scr)⟩
      · unfold f_X1_longestDinner
        rw [e1, Option.bind_some]
        simp only [ap]
        rw [c_every hN1.1, hN1.1.f36, show f_X1_longestDinner_L29 FU 4 (nI M) (evS r &&& (r 36 ^^^ (-1))) 0 0 0 D1 = some (v, D2) from e2]; rfl
      · rw [ms D2 hN2, if_pos h1, x1, Option.bind_some]; exact x2
    · rw [if_neg h1]
      exact ⟨_, D, D, rfl, by rw [ms D hN, if_neg h1], h⟩
/-- which sleep behind a minute doesn't hang on the calm of one who cries -/
theorem thS_ext {x y : Rho} {n : Nat} {how : Int32} : (∀ k, k < n → x (8 + k) = y (8 + k)) → thS x n how = thS y n how := by
  intro h
  have key : ∀ m, m ≤ n → setOf (fun k => decide (x (8 + k) = how)) m = setOf (fun k => decide (y (8 + k) = how)) m := by
    intro m
    induction m with
    | zero => intro _; rfl
    | succ m ih =>
      intro hm
      unfold setOf
      rw [ih (by omega), h m (by omega)]
  exact key n (Nat.le_refl n)
theorem noS_ext {x y : Rho} {c : Nat} (h : ∀ j, ¬ (15 ≤ j ∧ j < 29) → x j = y j) : ∀ k, k ≤ 7 → noS x c k = noS y c k
  | 0, _ => rfl
  | k + 1, hk => by
    show (if _ then _ else _) = (if _ then _ else _)
    rw [noS_ext h k (by omega), h (8 + k) (by omega), h 36 (by omega)]
    have e : tmS x k c = tmS y k c := by
      unfold tmS callsS farS
      rw [h (42 + k) (by omega), h (56 + k) (by omega), h (29 + k) (by omega), h (29 + c) (by omega)]
    rw [e]
theorem Ok.how {r : Rho} {n c : Nat} (ok : Ok n r) (v : Int32) (hv : v = 0 ∨ v = 1 ∨ v = 2) (hc : c < 7) : Ok n (upd r (8 + c) v) := by
  obtain ⟨h1, h2, h3, h4, h5, h6⟩ := ok
  refine ⟨h1, by rw [upd_n (by omega)]; exact h2, by rw [upd_n (by omega)]; exact h3, by rw [upd_n (by omega)]; exact h4, by rw [upd_n (by omega)]; exact h5, fun k hk => ?_⟩
  obtain ⟨a1, a2, a3, a4, a5⟩ := h6 k hk
  refine ⟨by rw [upd_n (by omega)]; exact a1, ?_, by rw [upd_n (by omega)]; exact a3, by rw [upd_n (by omega)]; exact a4, by rw [upd_n (by omega)]; exact a5⟩
  by_cases e : k = c
  · subst e
    rw [upd_s]
    rcases hv with rfl | rfl | rfl
    · exact ⟨0, by decide, rfl⟩
    · exact ⟨1, by decide, rfl⟩
    · exact ⟨2, by decide, rfl⟩
  · rw [upd_n (by omega)]; exact a2
theorem Ok.any {r : Rho} {n j : Nat} (ok : Ok n r) (v : Int32) (hj : j < 8 ∨ (15 ≤ j ∧ j < 29)) : Ok n (upd r j v) := by
  obtain ⟨h1, h2, h3, h4, h5, h6⟩ := ok
  refine ⟨h1, by rw [upd_n (by omega)]; exact h2, by rw [upd_n (by omega)]; exact h3, by rw [upd_n (by omega)]; exact h4, by rw [upd_n (by omega)]; exact h5, fun k hk => ?_⟩
  obtain ⟨a1, a2, a3, a4, a5⟩ := h6 k hk
  exact ⟨by rw [upd_n (by omega)]; exact a1, by rw [upd_n (by omega)]; exact a2, by rw [upd_n (by omega)]; exact a3, by rw [upd_n (by omega)]; exact a4, by rw [upd_n (by omega)]; exact a5⟩
theorem wak_eq {r : Rho} {n c : Nat} (ok : Ok n r) (hc : c < n) : thS (passS (put3 r c (1, r 40, 0)) n) n 2 = thS (passS (upd (upd r (8 + c) 1) (15 + c) (r 40)) n) n 2 := by
  have hn := ok.1
  apply thS_ext
  intro k hk
  rw [(passS_k hn hk).1, (passS_k hn hk).1]
  have hx : ∀ j, j ≠ 22 + c → put3 r c (1, r 40, 0) j = upd (upd r (8 + c) 1) (15 + c) (r 40) j := by
    intro j hj
    unfold put3
    rw [upd_n hj]
  have hl : loudS (put3 r c (1, r 40, 0)) n k = loudS (upd (upd r (8 + c) 1) (15 + c) (r 40)) n k := by
    unfold loudS bearsS
    rw [noS_ext (fun j hj => hx j (by omega)) n hn, hx (42 + k) (by omega), hx (49 + k) (by omega)]
  by_cases e : k = c
  · subst e
    unfold stepS
    rw [put3_1, if_pos rfl, upd_n (by omega), upd_s, if_pos rfl, put3_2, upd_s, hx 37 (by omega), hx 36 (by omega)]
    dsimp only
    generalize (if hb (upd (upd r (8 + k) 1) (15 + k) (r 40) 37) k = true ∧ hb (upd (upd r (8 + k) 1) (15 + k) (r 40) 36) k = false then (2 : Int32) else 1) = z
    by_cases hq : 0 < r 40 - z
    · rw [if_pos hq, if_pos hq]
    · rw [if_neg hq, if_neg hq]
  · unfold stepS
    rw [hl, hx (8 + k) (by omega), hx (15 + k) (by omega), hx (22 + k) (by omega), hx 36 (by omega), hx 37 (by omega), hx 40 (by omega), hx (42 + k) (by omega), hx (1 + k) (by omega)]
theorem op_wakes {D : wd_D} (h : Inv D) (a : Int32) : ∃ v D1 D2, f_X6_wakes a D = some (v, D1) ∧ f_X7_wakes a D1 = some (v, D2) ∧ Inv D2 := by
  obtain ⟨n, r, hN, -⟩ := h.2.2.2.2.1
  have ok := hN.2.2.1
  have hn := ok.1
  unfold f_X6_wakes
  rw [noChild_e hN.1 ok]
  by_cases hz : (if a < 0 then (1 : Int32) else if a < nI n then 0 else 1) = 0
  · rw [if_pos hz]
    obtain ⟨c, c1, rfl⟩ := child_nI ok.1 hz
    rw [hN.1.f36, hb_has (by omega)]
    cases h36 : hb (r 36) c with
    | true =>
      rw [if_neg (by simp)]
      refine ⟨_, D, D, rfl, ?_, h⟩
      unfold f_X7_wakes
      rw [isChild_e hN.2.1 ok, if_pos hz, Option.bind_some, i10, m_out0 hN.2.1 (by omega), Option.bind_some, h36, if_neg (by simp)]
    | false =>
      rw [if_pos (by simp)]
      obtain ⟨D1, e1, a1, s1⟩ := c_after hN (M := 1) (by omega)
      have hN1 := hN.scr s1
      obtain ⟨D2, e2, a2, s2, hN2⟩ := c_try hN1
      obtain ⟨D3, e3, a3, f3⟩ := c_cry a2 (c := c) (by omega)
      have ok3 : Ok n (put3 r c (1, r 40, 0)) := ((ok.how (c := c) 1 (by simp) (by omega)).any (j := 15 + c) (r 40) (by omega)).any (j := 22 + c) 0 (by omega)
      obtain ⟨b4, D4, e4, a4, f4, -, -⟩ := c_pass a3 ok3
      have s4 : Scr D D4 := (s1.tr s2).tr ((f3.scr (by omega)).tr (f4.scr (by omega)))
      have hN4 := hN.scr s4
      obtain ⟨E1, E2, x1, x2, y2, t2⟩ := m_after hN4 (M := 1) (by omega)
      have hM2 := hN4.scr t2
      obtain ⟨E3, x3, y3, t3, hM3⟩ := m_try hM2
      have y4 := y3.up (8 + c) 1
      have y5 := y4.up (15 + c) (r 40)
      have ok5 : Ok n (upd (upd r (8 + c) 1) (15 + c) (r 40)) := (ok.how (c := c) 1 (by simp) (by omega)).any (j := 15 + c) (r 40) (by omega)
      obtain ⟨E6, x6, y6, u6⟩ := m_goes y5 ok5 (M := 1) (by omega)
      have t6 : Scr D4 E6 := (t2.tr t3).tr (((FrN.s (b := 189) (by omega)).scr.tr (FrN.s (b := 189) (by omega)).scr).tr u6.scr)
      refine ⟨(thS (itS r n 1) n 2 &&& (thS (passS (put3 r c (1, r 40, 0)) n) n 2 ^^^ (-1))) &&& (((1 : Int32) <<< (nI c &&& 31)) ^^^ (-1)), D4, E6, ?_, ?_, (h.scr s4).scr t6⟩
      · unfold f_X1_wokenBy
        rw [show f_X1_after 4 1 D = some D1 from e1, Option.bind_some, c_those a1 hn (ok.it 1).2.1, Option.bind_some, e2, Option.bind_some, e3, Option.bind_some, e4, Option.bind_some, c_those a4 hn ok3.pass.2.1, Option.bind_some]; rfl
      · unfold f_X7_wakes
        rw [isChild_e hN4.2.1 ok, if_pos hz, Option.bind_some, i10, m_out0 hN4.2.1 (by omega), Option.bind_some, h36, if_pos (by simp), x1, Option.bind_some, show f_X7_goesOn 1 E1 = some E2 from x2, Option.bind_some, m_those9 y2 (ok.it 1), Option.bind_some, x3, Option.bind_some]
        rw [show (197 : Int32) + nI c = nI (189 + (8 + c)) from by rw [show (197 : Int32) = nI 197 from rfl, nI_add]; congr 1; omega, wr_nI E3 371 _ (show 189 + (8 + c) < 252 by omega), Option.bind_some]
        have hM4 : RepM (sI E3 371 (189 + (8 + c)) 1) 0 r := hM3.2.1.fr (FrN.s (b := 189) (j := 8 + c) (by omega)).m (by omega)
        rw [hM4.y40, Option.bind_some, show (204 : Int32) + nI c = nI (189 + (15 + c)) from by rw [show (204 : Int32) = nI 204 from rfl, nI_add]; congr 1; omega, wr_nI _ 371 _ (show 189 + (15 + c) < 252 by omega), Option.bind_some, show f_X7_goesOn 1 _ = some E6 from x6, Option.bind_some, m_those9 y6 (ok5.it 1), Option.bind_some, wak_eq ok c1]; rfl
  · rw [if_neg hz]
    refine ⟨_, D, D, rfl, ?_, h⟩
    unfold f_X7_wakes
    rw [isChild_e hN.2.1 ok, if_neg hz, Option.bind_some, i00]
