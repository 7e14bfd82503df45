/-! drawn -/
theorem nzL_n {n : Nat} (h0 : 0 < n) (h : n < 2 ^ 31) : nzL (lN n) = some (lN n) := by
  unfold nzL
  rw [if_neg]
  intro z
  have := (lN_eq h (by decide : 0 < 2 ^ 31)).mp z
  omega
theorem bind_if {α β : Type} {c : Prop} [Decidable c] {x y : Option α} {f : α → Option β} : (if c then x else y).bind f = if c then x.bind f else y.bind f := by
  by_cases h : c
  · rw [if_pos h, if_pos h]
  · rw [if_neg h, if_neg h]
theorem dr_mid {n w M i : Nat} {rr : Rho} {s : Int32} (h0 : 0 < n) (ok : Ok n rr) (hw : w < 2147483647) (v6 : Int32) : ∃ r2, Ok n r2 ∧ (∀ D k18, RepC D 242 n rr → ∃ D', RepC D' 242 n r2 ∧ Fr 242 D D' ∧ f_X1_drawDay_L62 k18 4 (nI M) s (lN w) v6 (nI i) D = k18 4 (nI M) s (lN w) (v6 + if thS r2 n 1 = 0 then 0 else 1) (nI (i + 1)) D') ∧ (∀ E wh k57, RepM E 189 rr → E.1 371 41 = nI n → ∃ E', RepM E' 189 r2 ∧ FrM 189 E E' ∧ f_X7_drawn_L101 k57 (nI M) s wh (lN w) v6 (nI i) E = k57 (nI M) s wh (lN w) (v6 + if thS r2 n 1 = 0 then 0 else 1) (nI (i + 1)) E') := by
  have hn := ok.1
  have fin : ∀ r1, Ok n r1 → Ok n (passS r1 n) ∧ (∀ D k18, RepC D 242 n r1 → ∃ D', RepC D' 242 n (passS r1 n) ∧ Fr 242 D D' ∧ f_X1_drawDay_L109 k18 4 (nI M) s (lN w) v6 (nI i) D = k18 4 (nI M) s (lN w) (v6 + if thS (passS r1 n) n 1 = 0 then 0 else 1) (nI (i + 1)) D') ∧ (∀ E wh k57, RepM E 189 r1 → ∃ E', RepM E' 189 (passS r1 n) ∧ FrM 189 E E' ∧ f_X7_drawn_L137 k57 (nI M) s wh (lN w) v6 (nI i) E = k57 (nI M) s wh (lN w) (v6 + if thS (passS r1 n) n 1 = 0 then 0 else 1) (nI (i + 1)) E') := by
    intro r1 ok1
    refine ⟨ok1.pass, fun D k18 hD => ?_, fun E wh k57 hE => ?_⟩
    · obtain ⟨b, D1, e1, c1, f1, -, -⟩ := c_pass hD ok1
      refine ⟨D1, c1, f1, ?_⟩
      unfold f_X1_drawDay_L109
      rw [e1, Option.bind_some, c_those c1 hn ok1.pass.2.1, Option.bind_some]
      unfold f_X1_drawDay_L135 ap
      dsimp only
      rw [nI_1]
      by_cases z : thS (passS r1 n) n 1 = 0
      · rw [if_pos z, if_pos z]
      · rw [if_neg z, if_neg z]
    · obtain ⟨E1, e1, c1, f1⟩ := m_pass9 hE ok1
      refine ⟨E1, c1, f1, ?_⟩
      unfold f_X7_drawn_L137
      rw [e1, Option.bind_some, m_those9 c1 ok1.pass, Option.bind_some]
      unfold f_X7_drawn_L162 ap
      dsimp only
      rw [nI_1]
      by_cases z : thS (passS r1 n) n 1 = 0
      · rw [if_pos z, if_pos z]
      · rw [if_neg z, if_neg z]
  by_cases hz : lg_cmp (lN w - lN w / 7 * 7) 0 = 0
  · have hwn : (lN w - lN w / (nI n).toInt64 * (nI n).toInt64).toInt32 = nI (w % n) := by
      rw [nI_l (by omega), pk_lRem (by omega) h0 (by omega), lN_i]
    have okv : Ok n (upd rr 36 (rr 36 ||| bitI (w % n))) := by
      obtain ⟨a, ha, e⟩ := ok.2.2.1
      obtain ⟨b, hb, e'⟩ := or_bit hn ha (Nat.mod_lt w h0)
      rw [e, e']; exact ok.outs hb
    obtain ⟨g1, g2, g3⟩ := fin _ okv
    refine ⟨_, g1, fun D k18 hD => ?_, fun E wh k57 hE h41 => ?_⟩
    · obtain ⟨D', c', f', e'⟩ := g2 _ k18 (hD.v36 (rr 36 ||| bitI (w % n)))
      refine ⟨D', c', Fr.s0.tr f', ?_⟩
      unfold f_X1_drawDay_L62
      rw [if_pos hz, hD.f41, ok.2.1, if_neg (nI_nle h0 (by omega)), hwn, nI_l (by omega), nzL_n h0 (by omega), Option.bind_some, hD.f36, ← e']; rfl
    · obtain ⟨D', c', f', e'⟩ := g3 _ wh k57 (hE.up 36 (rr 36 ||| bitI (w % n)))
      refine ⟨D', c', (FrM.s (b := 189) (j := 36) (by omega)).tr f', ?_⟩
      unfold f_X7_drawn_L101
      have r1 : rd 252 E 371 225 = some (rr 36) := hE.f36 (by omega)
      have r2 : rd 252 E 371 41 = some (nI n) := by
        rw [show (41 : Int32) = nI 41 from rfl, rd_nI E 371 (show 41 < 252 by omega), h41]
      rw [if_pos hz, r1, Option.bind_some, r2, Option.bind_some, hwn, nI_l (by omega), nzL_n h0 (by omega), Option.bind_some, show (225 : Int32) = nI 225 from rfl, wr_nI E 371 _ (show 225 < 252 by omega), Option.bind_some, ← e']; rfl
  · obtain ⟨g1, g2, g3⟩ := fin rr ok
    refine ⟨_, g1, fun D k18 hD => ?_, fun E wh k57 hE _ => ?_⟩
    · unfold f_X1_drawDay_L62
      rw [if_neg hz]; exact g2 D k18 hD
    · unfold f_X7_drawn_L101
      rw [if_neg hz]; exact g3 E wh k57 hE
theorem rnd_n {w : Nat} (hw : w < 2147483647) : (lN w * 16807) - (lN w * 16807) / 2147483647 * 2147483647 = lN (w * 16807 % 2147483647) := by
  rw [show (16807 : Int64) = lN 16807 from rfl, lN_mul, show (2147483647 : Int64) = lN 2147483647 from rfl, pk_lRem (by omega) (by decide) (by decide)]
theorem dr_loop {n M : Nat} {s : Int32} (hM : M ≤ 60) (h0 : 0 < n) (hn : n ≤ 7) : ∀ d i m D rr w v6, i + d = M → d < m → RepC D 242 n rr → Ok n rr → w < 2147483647 → ∃ sv D' rf, f_X1_drawDay_L18 m 4 (nI M) s (lN w) v6 (nI i) D = some (sv, D') ∧ Fr 242 D D' ∧ RepC D' 242 n rf ∧ Ok n rf ∧ ∀ E m' (wh : Int32), d < m' → RepM E 189 rr → E.1 371 41 = nI n → ∃ E', f_X7_drawn_L57 m' (nI M) s wh (lN w) v6 (nI i) E = some (if wh = 0 then f_J6_bitCount_0f7a4 (thS rf n 2) else sv, E') ∧ FrM 189 E E' := by
  intro d
  induction d with
  | zero =>
    intro i m D rr w v6 hi hm hD ok hw
    obtain ⟨m, rfl⟩ : ∃ m', m = m' + 1 := ⟨m - 1, by omega⟩
    rw [f_X1_drawDay_L18, if_pos ((le_nI (by omega) (by omega)).mpr (by omega))]
    refine ⟨v6, D, rr, rfl, Fr.rf, hD, ok, fun E m' wh hm' hE h41 => ⟨E, ?_, FrM.rf⟩⟩
    obtain ⟨m', rfl⟩ : ∃ m2, m' = m2 + 1 := ⟨m' - 1, by omega⟩
    rw [f_X7_drawn_L57, if_pos ((le_nI (by omega) (by omega)).mpr (by omega))]
    by_cases z : wh = 0
    · rw [if_pos z, if_pos z, m_those9 hE ok, Option.bind_some, ones_th hn, Option.bind_some]
    · rw [if_neg z, if_neg z]
  | succ d ih =>
    intro i m D rr w v6 hi hm hD ok hw
    obtain ⟨m, rfl⟩ : ∃ m', m = m' + 1 := ⟨m - 1, by omega⟩
    rw [f_X1_drawDay_L18, if_neg (fun z => by have := (le_nI (by omega) (by omega)).mp z; omega), rnd_n hw]
    have hw' : w * 16807 % 2147483647 < 2147483647 := Nat.mod_lt _ (by decide)
    have hmod : ∀ E m' (wh : Int32), f_X7_drawn_L57 (m' + 1) (nI M) s wh (lN w) v6 (nI i) E = if lg_cmp (lN (w * 16807 % 2147483647) - lN (w * 16807 % 2147483647) / 6 * 6) 0 = 0 then (f_X7_rolls 189 ((lN (w * 16807 % 2147483647) - lN (w * 16807 % 2147483647) / 20 * 20).toInt32) E).bind (fun q14 => f_X7_drawn_L101 (f_X7_drawn_L57 m') (nI M) s wh (lN (w * 16807 % 2147483647)) v6 (nI i) q14.2) else f_X7_drawn_L101 (f_X7_drawn_L57 m') (nI M) s wh (lN (w * 16807 % 2147483647)) v6 (nI i) E := by
      intro E m' wh
      rw [f_X7_drawn_L57, if_neg (fun z => by have := (le_nI (by omega) (by omega)).mp z; omega), rnd_n hw]; rfl
    generalize w * 16807 % 2147483647 = x at hw' hmod
    unfold ap
    dsimp only
    have go : ∀ r1 D1, Ok n r1 → RepC D1 242 n r1 → Fr 242 D D1 → (∀ E, RepM E 189 rr → ∃ E1, RepM E1 189 r1 ∧ FrM 189 E E1 ∧ ∀ m' (wh : Int32), f_X7_drawn_L57 (m' + 1) (nI M) s wh (lN w) v6 (nI i) E = f_X7_drawn_L101 (f_X7_drawn_L57 m') (nI M) s wh (lN x) v6 (nI i) E1) → ∃ sv D' rf, f_X1_drawDay_L62 (f_X1_drawDay_L18 m) 4 (nI M) s (lN x) v6 (nI i) D1 = some (sv, D') ∧ Fr 242 D D' ∧ RepC D' 242 n rf ∧ Ok n rf ∧ ∀ E m' (wh : Int32), d + 1 < m' → RepM E 189 rr → E.1 371 41 = nI n → ∃ E', f_X7_drawn_L57 m' (nI M) s wh (lN w) v6 (nI i) E = some (if wh = 0 then f_J6_bitCount_0f7a4 (thS rf n 2) else sv, E') ∧ FrM 189 E E' := by
      intro r1 D1 ok1 c1 f1 hE1
      obtain ⟨r2, ok2, g2, g3⟩ := dr_mid (M := M) (i := i) (s := s) h0 ok1 hw' v6
      obtain ⟨D2, c2, f2, e2⟩ := g2 D1 (f_X1_drawDay_L18 m) c1
      obtain ⟨sv, D', rf, e, f3, c3, ok3, g⟩ := ih (i + 1) m D2 r2 x (v6 + if thS r2 n 1 = 0 then 0 else 1) (by omega) (by omega) c2 ok2 hw'
      refine ⟨sv, D', rf, e2.trans e, (f1.tr f2).tr f3, c3, ok3, fun E m' wh hm' hE h41 => ?_⟩
      obtain ⟨m', rfl⟩ : ∃ m2, m' = m2 + 1 := ⟨m' - 1, by omega⟩
      obtain ⟨E1, y1, u1, q1⟩ := hE1 E hE
      have k1 : E1.1 371 41 = nI n := by rw [u1.1 371 41 (by decide) (fun _ => by omega)]; exact h41
      obtain ⟨E2, y2, u2, q2⟩ := g3 E1 wh (f_X7_drawn_L57 m') y1 k1
      have k2 : E2.1 371 41 = nI n := by rw [u2.1 371 41 (by decide) (fun _ => by omega)]; exact k1
      obtain ⟨E', x', u'⟩ := g E2 m' wh (by omega) y2 k2
      exact ⟨E', (q1 m' wh).trans (q2.trans x'), (u1.tr u2).tr u'⟩
    by_cases hz : lg_cmp (lN x - lN x / 6 * 6) 0 = 0
    · rw [if_pos hz]
      obtain ⟨D1, e1, c1, f1⟩ := c_lor hD ok ((lN x - lN x / 20 * 20).toInt32)
      rw [e1, Option.bind_some]
      refine go _ D1 (ok.lor _) c1 f1 (fun E hE => ?_)
      obtain ⟨E1, x1, y1, u1⟩ := m_lor9 hE ok ((lN x - lN x / 20 * 20).toInt32)
      refine ⟨E1, y1, u1.m, fun m' wh => ?_⟩
      rw [hmod, if_pos hz, x1, Option.bind_some]
    · rw [if_neg hz]
      refine go rr D ok hD Fr.rf (fun E hE => ⟨E, hE, FrM.rf, fun m' wh => ?_⟩)
      rw [hmod, if_neg hz]
theorem op_drawn {D : wd_D} (h : Inv D) (a1 a2 a3 : Int32) : ∃ v D1 D2, f_X6_drawn a1 a2 a3 D = some (v, D1) ∧ f_X7_drawn a1 a2 a3 D1 = some (v, D2) ∧ Inv D2 := by
  obtain ⟨n, r, hN, -⟩ := h.2.2.2.2.1
  have ok := hN.2.2.1
  have hn := ok.1
  unfold f_X6_drawn
  rw [noRoom_e hN]
  by_cases e0 : n = 0
  · rw [if_pos e0, i10]
    refine ⟨_, D, D, rfl, ?_, h⟩
    unfold f_X7_drawn
    rw [isRoom_e hN, if_pos e0, Option.bind_some, i00]
  rw [if_neg e0, i00]
  have ms : ∀ E, PNow E n r → f_X7_drawn a1 a2 a3 E = if f_X6_beyond a1 0 60 = 0 then (if f_X6_beyond a2 1 999999 = 0 then (if f_X6_beyond a3 0 1 = 0 then (f_X7_tries E).bind (fun q6 => ap a2.toInt64 (fun x7 => f_X7_drawn_L57 FU a1 a2 a3 x7 0 0 q6)) else some (-1000001, E)) else some (-1000001, E)) else some (-1000001, E) := by
    intro E hE
    unfold f_X7_drawn f_X7_isSpan
    rw [isRoom_e hE, if_neg e0, Option.bind_some, i10, show f_X7_in a1.toInt64 (0 : Int32).toInt64 60 = if f_X6_beyond a1 0 60 = 0 then 1 else 0 from in_bey a1 0 60, show f_X7_in a2.toInt64 1 999999 = if f_X6_beyond a2 1 999999 = 0 then 1 else 0 from in_bey a2 1 999999, show f_X7_in a3.toInt64 0 1 = if f_X6_beyond a3 0 1 = 0 then 1 else 0 from in_bey a3 0 1, ib, ib, ib]
  by_cases c1 : f_X6_beyond a1 0 60 = 0
  · rw [if_pos c1]
    by_cases c2 : f_X6_beyond a2 1 999999 = 0
    · rw [if_pos c2]
      by_cases c3 : f_X6_beyond a3 0 1 = 0
      · rw [if_pos c3]
        obtain ⟨M, m1, m2, e1⟩ := bey_nI (lo := 0) (hi := 60) (by decide) (by decide) c1
        obtain ⟨w, w1, w2, e2⟩ := bey_nI (lo := 1) (hi := 999999) (by decide) (by decide) c2
        obtain ⟨D1, t1, r1, s1, hN1⟩ := c_try hN
        obtain ⟨sv, D2, rf, x2, f2, c2', okf, g⟩ := dr_loop (s := a2) m2 (show 0 < n by omega) hn M 0 FU D1 r w 0 (by omega) (by unfold FU; omega) r1 ok (by omega)
        have s2 := s1.tr (f2.scr (by omega))
        have hN2 := hN.scr s2
        obtain ⟨E1, x1, y1, t1', hM1⟩ := m_try hN2
        obtain ⟨E2, x3, u2⟩ := g E1 FU a3 (by unfold FU; omega) y1 (by
          have := hM1.2.1 41 (by omega)
          rw [Nat.zero_add] at this
          rw [this, ok.2.1])
        refine ⟨if a3 = 0 then f_J6_bitCount_0f7a4 (thS rf n 2) else sv, D2, E2, ?_, ?_, (h.scr s2).scr (t1'.tr u2.scr)⟩
        · unfold f_X1_drawDay
          rw [t1, Option.bind_some]
          unfold ap
          dsimp only
          rw [e1, show a2.toInt64 = lN w from by rw [e2, nI_l (by omega)], show f_X1_drawDay_L18 FU 4 (nI M) a2 (lN w) 0 0 D1 = some (sv, D2) from x2, Option.bind_some]
          by_cases z : a3 = 0
          · rw [if_pos z, if_pos z, c_those c2' hn okf.2.1, Option.bind_some]
          · rw [if_neg z, if_neg z]
        · rw [ms D2 hN2, if_pos c1, if_pos c2, if_pos c3, x1, Option.bind_some]
          unfold ap
          dsimp only
          rw [e1, show a2.toInt64 = lN w from by rw [e2, nI_l (by omega)]]
          exact x3
      · rw [if_neg c3]
        exact ⟨_, D, D, rfl, by rw [ms D hN, if_pos c1, if_pos c2, if_neg c3], h⟩
    · rw [if_neg c2]
      exact ⟨_, D, D, rfl, by rw [ms D hN, if_pos c1, if_neg c2], h⟩
  · rw [if_neg c1]
    exact ⟨_, D, D, rfl, by rw [ms D hN, if_neg c1], h⟩
