/-! lorries: the reference's sum, and the call -/
theorem ml_step {n N p s : Nat} {x a4 : Int32} (hN : N ≤ 8) (hp : p ≤ 10) (v7 : Int64) (k94 : Int32 → Int32 → Int32 → Int32 → Int64 → Int64 → Int32 → wd_D → Option (Int64 × wd_D)) (v5 : Nat) : ∀ d i m E rr W, i + d = N → d < m → Ok n rr → RepM E 189 rr → ∃ E', f_X7_lorries_L112 k94 m x (nI N) (nI p) a4 (lN v5) v7 (nI s) (lN W) (nI i) E = k94 x (nI N) (nI p) a4 (lN (v5 + W * tmL x p n d rr (s / 2 ^ i))) v7 (nI (s + 1)) E' ∧ FrM 189 E E' := by
  intro d
  induction d with
  | zero =>
    intro i m E rr W hi hm ok h
    obtain ⟨m, rfl⟩ : ∃ m', m = m' + 1 := ⟨m - 1, by omega⟩
    rw [f_X7_lorries_L112, if_pos ((le_nI (by omega) (by omega)).mpr (by omega)), m_all9 h ok, Option.bind_some, ib]
    refine ⟨E, ?_, FrM.rf⟩
    unfold f_X7_lorries_L192 ap
    dsimp only
    rw [nI_1]
    unfold tmL ind pw pr
    by_cases z : alS rr n = 0
    · rw [if_pos z, if_pos z, lN_add, Nat.mul_one]
    · rw [if_neg z, if_neg z, show (0 : Int64) = lN 0 from rfl, lN_add, Nat.mul_zero]
  | succ d ih =>
    intro i m E rr W hi hm ok h
    obtain ⟨m, rfl⟩ : ∃ m', m = m' + 1 := ⟨m - 1, by omega⟩
    rw [f_X7_lorries_L112, if_neg (fun z => by have := (le_nI (by omega) (by omega)).mp z; omega), hb_has7 (show i < 31 by omega), hb_nI (show i < 32 by omega)]
    have hs2 : s / 2 ^ (i + 1) = s / 2 ^ i / 2 := by rw [Nat.pow_succ, Nat.div_div_eq_div_mul]
    have L161 : ∀ W' r1 E1, Ok n r1 → RepM E1 189 r1 → FrM 189 E E1 → ∃ E', f_X7_lorries_L161 (f_X7_lorries_L112 k94 m) k94 x (nI N) (nI p) a4 (lN v5) v7 (nI s) (lN W') (nI i) E1 = k94 x (nI N) (nI p) a4 (lN (v5 + W' * tmL x p n d (passS r1 n) (s / 2 ^ i / 2))) v7 (nI (s + 1)) E' ∧ FrM 189 E E' := by
      intro W' r1 E1 ok1 h1 u1
      unfold f_X7_lorries_L161
      obtain ⟨E2, e2, h2, u2⟩ := m_pass9 h1 ok1
      rw [e2, Option.bind_some]
      unfold ap
      dsimp only
      rw [nI_1]
      obtain ⟨E', e, u⟩ := ih (i + 1) m E2 (passS r1 n) W' (by omega) (by omega) ok1.pass h2
      rw [hs2] at e
      exact ⟨E', e, (u1.tr u2).tr u⟩
    by_cases hb : s / 2 ^ i % 2 = 1
    · unfold ap
      dsimp only
      rw [decide_eq_true hb, if_pos rfl, i10, f_X7_lorries_L144]
      unfold ap
      dsimp only
      obtain ⟨E1, e1, h1, u1⟩ := m_lor9 h ok x
      rw [i10, e1, Option.bind_some, nI_l (by omega), lN_mul]
      obtain ⟨E', e, u⟩ := L161 (W * p) (lorS rr x n) E1 (ok.lor x) h1 u1.m
      refine ⟨E', e.trans ?_, u⟩
      unfold tmL
      rw [pw, pr, if_pos hb, if_pos hb, Nat.mul_assoc, Nat.mul_assoc]
    · unfold ap
      dsimp only
      rw [decide_eq_false hb, if_neg (show ¬ (false = true) by decide), i00, f_X7_lorries_L144]
      unfold ap
      dsimp only
      rw [i00, show (10 : Int32) = nI 10 from rfl, pk_sub (by omega), nI_l (by omega), lN_mul]
      obtain ⟨E', e, u⟩ := L161 (W * (10 - p)) rr E ok h FrM.rf
      refine ⟨E', e.trans ?_, u⟩
      unfold tmL
      rw [pw, pr, if_neg hb, if_neg hb, Nat.mul_assoc, Nat.mul_assoc]
theorem sum_loop {n N p : Nat} {x a4 : Int32} {r : Rho} (hN : N ≤ 8) (hp : p ≤ 10) : ∀ d s m E, s + d = 2 ^ N → d < m → PNow E n r → ∃ E', f_X7_lorries_L94 m x (nI N) (nI p) a4 (lN (sm (tmL x p n N r) s)) (lN (10 ^ N)) (nI s) E = some (if a4 = 0 then lN (cs x p n N r / Nat.gcd (cs x p n N r) (10 ^ N)) else lN (10 ^ N / Nat.gcd (cs x p n N r) (10 ^ N)), E') ∧ Scr E E' := by
  have h256 : 2 ^ N ≤ 256 := Nat.pow_le_pow_right (by decide) hN
  have hp8 : 10 ^ N ≤ 10 ^ 8 := Nat.pow_le_pow_right (by decide) hN
  have hp1 : 0 < 10 ^ N := Nat.pos_of_ne_zero (by simp)
  intro d
  induction d with
  | zero =>
    intro s m E hs hm hE
    obtain ⟨m, rfl⟩ : ∃ m', m = m' + 1 := ⟨m - 1, by omega⟩
    have e : s = 2 ^ N := by omega
    subst e
    rw [f_X7_lorries_L94, show (1 : Int32) <<< (nI N &&& 31) = nI (2 ^ N) from bitI_nI N (by omega), if_pos ((le_nI (by omega) (by omega)).mpr (by omega)), sm_cs]
    have hc := cs_le (x := x) (n := n) hp N r
    refine ⟨E, ?_, Scr.rf⟩
    exact eu_e (by omega) (by omega) 31 FU _ _ (by omega) (by unfold FU; omega) (by omega) (by omega) (Or.inr hp1)
  | succ d ih =>
    intro s m E hs hm hE
    obtain ⟨m, rfl⟩ : ∃ m', m = m' + 1 := ⟨m - 1, by omega⟩
    rw [f_X7_lorries_L94, show (1 : Int32) <<< (nI N &&& 31) = nI (2 ^ N) from bitI_nI N (by omega), if_neg (fun z => by have := (le_nI (by omega) (by omega)).mp z; omega)]
    obtain ⟨E1, e1, h1, s1, hN1⟩ := m_try hE
    obtain ⟨E2, e2, u2⟩ := ml_step (x := x) (a4 := a4) (s := s) hN hp (lN (10 ^ N)) (f_X7_lorries_L94 m) (sm (tmL x p n N r) s) N 0 FU E1 r 1 (by omega) (by unfold FU; omega) hE.2.2.1 h1
    rw [Nat.pow_zero, Nat.div_one, Nat.one_mul] at e2
    have s2 := s1.tr u2.scr
    obtain ⟨E', e, t⟩ := ih (s + 1) m E2 (by omega) (by omega) (hE.scr s2)
    refine ⟨E', ?_, s2.tr t⟩
    rw [e1, Option.bind_some]
    exact (show _ = _ from e2).trans e
theorem pow_loop {N : Nat} {x a3 a4 : Int32} {E : wd_D} (hN : N ≤ 8) : ∀ d i m, i + d = N → d < m → f_X7_lorries_L71 m x (nI N) a3 a4 0 (lN (10 ^ i)) (nI i) E = f_X7_lorries_L94 FU x (nI N) a3 a4 0 (lN (10 ^ N)) 0 E := by
  intro d
  induction d with
  | zero =>
    intro i m hi hm
    obtain ⟨m, rfl⟩ : ∃ m', m = m' + 1 := ⟨m - 1, by omega⟩
    have e : i = N := by omega
    subst e
    rw [f_X7_lorries_L71, if_pos ((le_nI (by omega) (by omega)).mpr (by omega))]
  | succ d ih =>
    intro i m hi hm
    obtain ⟨m, rfl⟩ : ∃ m', m = m' + 1 := ⟨m - 1, by omega⟩
    rw [f_X7_lorries_L71, if_neg (fun z => by have := (le_nI (by omega) (by omega)).mp z; omega)]
    unfold ap
    dsimp only
    rw [nI_1, show (10 : Int64) = lN 10 from rfl, lN_mul, ← Nat.pow_succ]
    exact ih (i + 1) m (by omega) (by omega)
theorem cpow_loop {N a : Nat} {a2 a4 : Int32} (hN : N ≤ 8) (ha : a < 2 ^ 31) : ∀ d i m D, i + d = N → d < m → D.2 241 6 = lN a → D.2 241 7 = lN (10 ^ i) → ∃ D', f_X1_countCases_L31 m 4 a2 (nI N) a4 (nI i) D = some D' ∧ D'.1 = D.1 ∧ D'.2 241 6 = lN (a / Nat.gcd a (10 ^ N)) ∧ D'.2 241 7 = lN (10 ^ N / Nat.gcd a (10 ^ N)) := by
  intro d
  induction d with
  | zero =>
    intro i m D hi hm h6 h7
    obtain ⟨m, rfl⟩ : ∃ m', m = m' + 1 := ⟨m - 1, by omega⟩
    have e : i = N := by omega
    subst e
    rw [f_X1_countCases_L31, if_pos ((le_nI (by omega) (by omega)).mpr (by omega))]
    obtain ⟨D', e, q, t6, t7⟩ := cancel_e hN ha h6 h7
    rw [e, Option.bind_some]
    exact ⟨D', rfl, q, t6, t7⟩
  | succ d ih =>
    intro i m D hi hm h6 h7
    obtain ⟨m, rfl⟩ : ∃ m', m = m' + 1 := ⟨m - 1, by omega⟩
    rw [f_X1_countCases_L31, if_neg (fun z => by have := (le_nI (by omega) (by omega)).mp z; omega)]
    unfold ap
    dsimp only
    rw [nI_1, gJ_e, h7, show (10 : Int64) = lN 10 from rfl, lN_mul, ← Nat.pow_succ]
    obtain ⟨D', e, q, t6, t7⟩ := ih (i + 1) m (sJ D 241 7 (lN (10 ^ (i + 1)))) (by omega) (by omega) (by rw [sJ_ne (by omega)]; exact h6) sJ_eq
    exact ⟨D', e, q, t6, t7⟩
theorem op_lorries {D : wd_D} (h : Inv D) (a1 a2 a3 a4 : Int32) : ∃ v D1 D2, f_X6_lorries a1 a2 a3 a4 D = some (v, D1) ∧ f_X7_lorries a1 a2 a3 a4 D1 = some (v, D2) ∧ Inv D2 := by
  obtain ⟨n, r, hN, -⟩ := h.2.2.2.2.1
  have ok := hN.2.2.1
  have hn := ok.1
  unfold f_X6_lorries
  rw [noRoom_e hN]
  by_cases e0 : n = 0
  · rw [if_pos e0, i10]
    refine ⟨_, D, D, rfl, ?_, h⟩
    unfold f_X7_lorries
    rw [isRoom_e hN, if_pos e0, Option.bind_some, i00]
  rw [if_neg e0, i00]
  have ms : ∀ E, PNow E n r → f_X7_lorries a1 a2 a3 a4 E = if f_X6_beyond a1 0 99 = 0 then (if f_X6_beyond a2 0 8 = 0 then (if f_X6_beyond a3 0 10 = 0 then (if f_X6_beyond a4 0 1 = 0 then f_X7_lorries_L71 FU a1 a2 a3 a4 0 1 0 E else some (-1000001, E)) else some (-1000001, E)) else some (-1000001, E)) else some (-1000001, E) := by
    intro E hE
    unfold f_X7_lorries
    rw [isRoom_e hE, if_neg e0, Option.bind_some, i10, show f_X7_in a1.toInt64 0 99 = if f_X6_beyond a1 0 99 = 0 then 1 else 0 from in_bey a1 0 99, show f_X7_in a2.toInt64 0 8 = if f_X6_beyond a2 0 8 = 0 then 1 else 0 from in_bey a2 0 8, show f_X7_in a3.toInt64 0 10 = if f_X6_beyond a3 0 10 = 0 then 1 else 0 from in_bey a3 0 10, show f_X7_in a4.toInt64 0 1 = if f_X6_beyond a4 0 1 = 0 then 1 else 0 from in_bey a4 0 1, ib, ib, ib, ib]
  by_cases c1 : f_X6_beyond a1 0 99 = 0
  · rw [if_pos c1]
    by_cases c2 : f_X6_beyond a2 0 8 = 0
    · rw [if_pos c2]
      by_cases c3 : f_X6_beyond a3 0 10 = 0
      · rw [if_pos c3]
        by_cases c4 : f_X6_beyond a4 0 1 = 0
        · rw [if_pos c4]
          obtain ⟨N, -, m2, e2⟩ := bey_nI (lo := 0) (hi := 8) (by decide) (by decide) c2
          obtain ⟨p, -, p2, e3⟩ := bey_nI (lo := 0) (hi := 10) (by decide) (by decide) c3
          have hp8 : 10 ^ N ≤ 10 ^ 8 := Nat.pow_le_pow_right (by decide) m2
          have hc := cs_le (x := a1) (n := n) p2 N r
          obtain ⟨D1, t1, k1, f1⟩ := c_become' (t := 253 + 9 * 0) hN.1 hn (by omega)
          obtain ⟨D2, t2, f2, f2'⟩ := ca_loop (x := a1) m2 p2 N 0 10 D1 r (by omega) (by omega) ok k1
          obtain ⟨D3, t3, q3, j6, j7⟩ := cpow_loop (a := cs a1 p n N r) (a2 := a1) (a4 := nI p) m2 (by omega) N 0 FU (sJ (sJ D2 241 6 (lN (cs a1 p n N r))) 241 7 1) (by omega) (by unfold FU; omega) (by rw [sJ_ne (by omega), sJ_eq]) (by rw [sJ_eq]; rfl)
          have s3 : Scr D D3 := fun k j hl => by
            rw [q3]
            show D2.1 k j = _
            rw [f2 k j (by unfold live at hl; omega), f1.1 k j (by unfold live at hl; omega)]
          have hN3 := hN.scr s3
          obtain ⟨E', x, t⟩ := sum_loop (x := a1) (a4 := a4) m2 p2 (2 ^ N) 0 FU D3 (by omega) (by
            have h256 : 2 ^ N ≤ 256 := Nat.pow_le_pow_right (by decide) m2
            unfold FU; omega) hN3
          refine ⟨if a4 = 0 then lN (cs a1 p n N r / Nat.gcd (cs a1 p n N r) (10 ^ N)) else lN (10 ^ N / Nat.gcd (cs a1 p n N r) (10 ^ N)), D3, E', ?_, ?_, (h.scr s3).scr t⟩
          · have ec : f_X1_countCases 4 a1 a2 a3 D = some D3 := by
              unfold f_X1_countCases
              rw [show ix 9 0 = some 0 from rfl, Option.bind_some, t1, Option.bind_some, e2, e3, show f_X1_casesAsleep 10 0 a1 (nI N) (nI p) D1 = some (lN (cs a1 p n N r), D2) from t2, Option.bind_some]
              exact t3
            rw [ec, Option.bind_some, gJ_e, gJ_e, j6, j7]
            split <;> rfl
          · rw [ms D3 hN3, if_pos c1, if_pos c2, if_pos c3, if_pos c4, e2, e3]
            have := pow_loop (x := a1) (a3 := nI p) (a4 := a4) (E := D3) m2 N 0 FU (by omega) (by unfold FU; omega)
            exact (show _ = _ from this).trans x
        · rw [if_neg c4]
          exact ⟨_, D, D, rfl, by rw [ms D hN, if_pos c1, if_pos c2, if_pos c3, if_neg c4], h⟩
      · rw [if_neg c3]
        exact ⟨_, D, D, rfl, by rw [ms D hN, if_pos c1, if_pos c2, if_neg c3], h⟩
    · rw [if_neg c2]
      exact ⟨_, D, D, rfl, by rw [ms D hN, if_pos c1, if_neg c2], h⟩
  · rw [if_neg c1]
    exact ⟨_, D, D, rfl, by rw [ms D hN, if_neg c1], h⟩
