/-! held -/
theorem or_bit {n a k : Nat} (hn : n ≤ 7) (ha : a < 2 ^ n) (hk : k < n) : ∃ b, b < 2 ^ n ∧ nI a ||| bitI k = nI b := by
  rw [bitI_nI k (by omega), fa_or]
  exact ⟨_, Nat.or_lt_two_pow ha (Nat.pow_lt_pow_right (by decide) hk), rfl⟩
theorem or_as (x y z : Int32) : (x ||| y) ||| z = x ||| (y ||| z) := b_ext (fun i _ => by rw [b_or, b_or, b_or, b_or, Bool.or_assoc])
theorem or_cm (x y : Int32) : x ||| y = y ||| x := b_ext (fun i _ => by rw [b_or, b_or, Bool.or_comm])
theorem or_0 (x : Int32) : x ||| 0 = x := b_ext (fun i _ => by rw [b_or, b_0, Bool.or_false])
theorem hd_loop {n T P : Nat} {r : Rho} {tl : Nat → Int32} (hT : T ≤ 12) (hP : P + T ≤ 320) (a1 a2 : Int32) (hP2 : 40 * a1 + a2 = nI P) (b0 base : Int32) (hb0 : base = if b0 = 0 then 0 else 128)
  (hc0 : ∀ D, RepC D 242 n r → D.1 241 3 = nI T → (∀ j, j < T → D.1 252 j = tl j) → ∃ D', f_X1_goesAsTold D = some (b0, D') ∧ Fr 242 D D') : ∀ d k m D (set : Int32), k + d = n → d < m → PNow D n r → D.1 241 3 = nI T → (∀ j, j < T → D.1 252 j = tl j) → ∃ sv D', f_X1_fittingHands_L4 m 4 set (nI k) D = some (sv, D') ∧ Scr D D' ∧ ∀ E m', d < m' → PNow E n r → (∀ j, j < T → E.1 374 (P + j) = tl j) → ∃ E', f_X7_held_L79 m' a1 a2 (nI T) (base ||| set) (nI k) E = some (sv, sI E' 370 7 0) ∧ Scr E E' := by
  intro d
  induction d with
  | zero =>
    intro k m D set hv hm hN h3 ht
    have ok := hN.2.2.1
    have hn := ok.1
    obtain ⟨m, rfl⟩ : ∃ m', m = m' + 1 := ⟨m - 1, by omega⟩
    rw [f_X1_fittingHands_L4, hN.1.f41, ok.2.1, if_pos ((le_nI (by omega) (by omega)).mpr (by omega))]
    obtain ⟨D1, e1, c1, f1⟩ := c_become' (t := 242) hN.1 hn (by omega)
    obtain ⟨D2, e2, f2⟩ := hc0 D1 c1 (by rw [f1.1 241 3 (by omega)]; exact h3) (fun j hj => by rw [f1.1 252 j (by omega)]; exact ht j hj)
    rw [e1, Option.bind_some, e2, Option.bind_some]
    refine ⟨base ||| set, D2, ?_, (f1.tr f2).scr (by omega), fun E m' hm' hE hrow => ⟨E, ?_, Scr.rf⟩⟩
    · rw [hb0]
      by_cases z : b0 = 0
      · rw [if_pos z, if_pos (show (b0, D2).1 = 0 from z), or_cm, or_0]
      · rw [if_neg z, if_neg (show ¬ (b0, D2).1 = 0 from z), or_cm]
    · obtain ⟨m', rfl⟩ : ∃ m2, m' = m2 + 1 := ⟨m' - 1, by omega⟩
      rw [f_X7_held_L79, hE.2.1.y41, Option.bind_some, ok.2.1, if_pos ((le_nI (by omega) (by omega)).mpr (by omega))]; rfl
  | succ d ih =>
    intro k m D set hv hm hN h3 ht
    have ok := hN.2.2.1
    have hn := ok.1
    obtain ⟨m, rfl⟩ : ∃ m', m = m' + 1 := ⟨m - 1, by omega⟩
    rw [f_X1_fittingHands_L4, hN.1.f41, ok.2.1, if_neg (fun z => by have := (le_nI (by omega) (by omega)).mp z; omega)]
    have okv : Ok n (upd r 37 (r 37 ||| bitI k)) := by
      obtain ⟨a, ha, e⟩ := ok.2.2.2.1
      obtain ⟨b, hb, e'⟩ := or_bit hn ha (show k < n by omega)
      rw [e, e']; exact ok.held hb
    obtain ⟨bb, b01, hcb, hmb⟩ := so_both (P := P) (tl := tl) okv hT hP
    obtain ⟨D1, e1, c1, f1⟩ := c_become' (t := 242) hN.1 hn (by omega)
    have c2 := c1.v37 (r 37 ||| bitI k)
    have f12 : Fr 242 D (sI D1 242 4 (r 37 ||| bitI k)) := f1.tr Fr.s0
    obtain ⟨D3, e3, f3⟩ := hcb _ c2 (by rw [f12.1 241 3 (by omega)]; exact h3) (fun j hj => by rw [f12.1 252 j (by omega)]; exact ht j hj)
    have f13 := f12.tr f3
    have s3 := f13.scr (q := 242) (by omega)
    rw [e1, Option.bind_some]
    unfold ap
    dsimp only
    rw [c1.f37, show (1 : Int32) <<< (nI k &&& 31) = bitI k from rfl, e3, Option.bind_some]
    have fin : ∀ set' : Int32, set' = (if bb = 0 then set else set ||| bitI k) → ∃ sv D', f_X1_fittingHands_L48 (f_X1_fittingHands_L4 m) 4 set' (nI k) D3 = some (sv, D') ∧ Scr D D' ∧ ∀ E m', d + 1 < m' → PNow E n r → (∀ j, j < T → E.1 374 (P + j) = tl j) → ∃ E', f_X7_held_L79 m' a1 a2 (nI T) (base ||| set) (nI k) E = some (sv, sI E' 370 7 0) ∧ Scr E E' := by
      intro set' hset
      unfold f_X1_fittingHands_L48
      simp only [ap, nI_1]
      obtain ⟨sv, D', e, s, g⟩ := ih (k + 1) m D3 set' (by omega) (by omega) (hN.scr s3) (by rw [f13.1 241 3 (by omega)]; exact h3) (fun j hj => by rw [f13.1 252 j (by omega)]; exact ht j hj)
      refine ⟨sv, D', e, s3.tr s, fun E m' hm' hE hrow => ?_⟩
      obtain ⟨m', rfl⟩ : ∃ m2, m' = m2 + 1 := ⟨m' - 1, by omega⟩
      obtain ⟨E1, x1, y1, t1, -⟩ := m_try hE
      have y2 := y1.up 37 (r 37 ||| bitI k)
      have t2 : Scr E (sI E1 371 (189 + 37) (r 37 ||| bitI k)) := t1.tr (FrN.s (b := 189) (j := 37) (by omega)).scr
      have lv374 : ∀ j, j < T → live 374 (P + j) := fun j _ => by unfold live; omega
      obtain ⟨E3, x3, u3⟩ := hmb _ y2 (fun j hj => by rw [t2 374 (P + j) (lv374 j hj)]; exact hrow j hj)
      have t3 : Scr E E3 := t2.tr u3.scr
      obtain ⟨E', x, t⟩ := g E3 m' (by omega) (hE.scr t3) (fun j hj => by rw [t3 374 (P + j) (lv374 j hj)]; exact hrow j hj)
      refine ⟨E', ?_, t3.tr t⟩
      have r226 : rd 252 E1 371 226 = some (r 37) := y1.f37 (by omega)
      rw [f_X7_held_L79, hE.2.1.y41, Option.bind_some, ok.2.1, if_neg (fun z => by have := (le_nI (by omega) (by omega)).mp z; omega), x1, Option.bind_some, r226, Option.bind_some, show (226 : Int32) = nI 226 from rfl, wr_nI E1 371 _ (show 226 < 252 by omega), Option.bind_some, hP2, show (1 : Int32) <<< (nI k &&& 31) = bitI k from rfl, x3, Option.bind_some]
      rcases b01 with rfl | rfl
      · rw [if_pos rfl] at hset
        rw [if_pos (show ((0 : Int32), E3).1 = 0 from rfl), f_X7_held_L134]
        simp only [ap, nI_1]
        rw [or_0, ← hset]; exact x
      · rw [if_neg (show ¬ (1 : Int32) = 0 by decide)] at hset
        rw [if_neg (show ¬ ((1 : Int32), E3).1 = 0 from fun z => absurd z (show ¬ (1 : Int32) = 0 by decide)), f_X7_held_L134]
        simp only [ap, nI_1]
        rw [or_as, ← hset]; exact x
    rcases b01 with rfl | rfl
    · rw [if_pos (show ((0 : Int32), D3).1 = 0 from rfl)]
      exact fin set (by rw [if_pos rfl])
    · rw [if_neg (show ¬ ((1 : Int32), D3).1 = 0 from fun z => absurd z (show ¬ (1 : Int32) = 0 by decide))]
      exact fin _ (by rw [if_neg (show ¬ (1 : Int32) = 0 by decide)])
theorem op_held {D : wd_D} (h : Inv D) (a1 a2 a3 : Int32) : ∃ v D1 D2, f_X6_held a1 a2 a3 D = some (v, D1) ∧ f_X7_held a1 a2 a3 D1 = some (v, D2) ∧ Inv D2 := by
  obtain ⟨n, r, hN, -⟩ := h.2.2.2.2.1
  have hR := h.2.2.2.1
  have ok := hN.2.2.1
  have hn := ok.1
  unfold f_X6_held
  rw [noRoom_e hN]
  by_cases e0 : n = 0
  · rw [if_pos e0, i10]
    refine ⟨_, D, D, rfl, ?_, h⟩
    unfold f_X7_held
    rw [isRoom_e hN, if_pos e0, Option.bind_some, i00]
  rw [if_neg e0, i00]
  have ms : ∀ E, PNow E n r → f_X7_held a1 a2 a3 E = if f_X6_noRow a1 = 0 then (if f_X6_beyond a3 1 12 = 0 then (f_X7_against a1 a2 a3 E).bind (fun q5 => ap q5.1 (fun x6 => (if 0 ≤ x6 then (f_X7_tries q5.2).bind (fun q8 => (f_X7_isSo ((40 * a1) + a2) a3 q8).bind (fun q9 => (if q9.1 = 0 then f_X7_held_L74 a1 a2 a3 0 q9.2 else f_X7_held_L74 a1 a2 a3 128 q9.2))) else some (x6, q5.2)))) else some (-1000001, E)) else some (-1000001, E) := by
    intro E hE
    unfold f_X7_held
    rw [isRoom_e hE, if_neg e0, Option.bind_some, i10, isRow_e, show f_X7_in a3.toInt64 1 12 = if f_X6_beyond a3 1 12 = 0 then 1 else 0 from in_bey a3 1 12, ib, ib]
  by_cases c3 : f_X6_noRow a1 = 0
  · rw [if_pos c3]
    by_cases c5 : f_X6_beyond a3 1 12 = 0
    · rw [if_pos c5]
      obtain ⟨i, i8, e3⟩ := row_nI c3
      obtain ⟨T0, t1, t2, e5⟩ := bey_nI (lo := 1) (hi := 12) (by decide) (by decide) c5
      have hb5 : ¬ a3 < 0 := by rw [e5]; exact nI_pos (by omega)
      rw [show ix 8 a1 = some i from by rw [e3]; exact ix_nI i8, Option.bind_some]
      rcases row_look i8 (hR i i8) a2 a3 hb5 with ⟨x, hx, g1, g2⟩ | ⟨I, T, sz, ea, eb, hIT, hsz, hs, hs2, g1, g2, g3⟩
      · refine ⟨-1000010 - x, sI D 0 9 x, sI (sI D 0 9 x) 370 7 x, c_ag g1 (nfound0 hx), ?_, h.two.fin x⟩
        rw [ms _ (hN.at (fun k j z => sI_ne (by omega))), if_pos c3, if_pos c5]
        have := g2 (sI D 0 9 x) (sI_ne (by omega))
        rw [← e3] at this
        exact m_ag this (nfound hx)
      · simp only [ap]
        rw [g1, if_pos rfl, Option.bind_some]
        have hT12 : T ≤ 12 := by
          have : T0 = T := (nI_eq (by omega) (by omega)).mp (e5.symm.trans eb)
          omega
        obtain ⟨D1, t1', s1, q3, q4⟩ := c_tell i8 hs hsz hIT hT12
        have hN1 := hN.scr s1
        have hP2 : 40 * a1 + a2 = nI (40 * i + I) := by rw [e3, ea, show (40 : Int32) = nI 40 from rfl, pk_mul, nI_add]
        obtain ⟨b0, b01, hc0, hm0⟩ := so_both (P := 40 * i + I) (tl := fun j => D.1 (336 + 2 * i + 1) (I + j)) ok hT12 (by omega)
        obtain ⟨sv, D2, x2, s2, g⟩ := hd_loop (P := 40 * i + I) (tl := fun j => D.1 (336 + 2 * i + 1) (I + j)) hT12 (by omega) a1 a2 hP2 b0 (if b0 = 0 then 0 else 128) rfl hc0 n 0 FU D1 0 (by omega) (by unfold FU; omega) hN1 q3 q4
        have s12 := s1.tr s2
        have hN2 : PNow (sI D2 0 9 0) n r := (hN.scr s12).at (fun k j z => sI_ne (by omega))
        have lv374 : ∀ j, live 374 j := fun j => by unfold live; omega
        have hrow : ∀ j, j < T → (sI D2 0 9 0).1 374 (40 * i + I + j) = D.1 (336 + 2 * i + 1) (I + j) := fun j hj => by
          rw [sI_ne (by omega), s12 374 _ (lv374 _)]
          exact (g3 j hj).symm
        obtain ⟨E1, x1, y1, u1, -⟩ := m_try hN2
        obtain ⟨E3, x3, u3⟩ := hm0 E1 y1 (fun j hj => by rw [u1 374 _ (lv374 _)]; exact hrow j hj)
        have t3 := u1.tr u3.scr
        obtain ⟨E', x, t⟩ := g E3 FU (by unfold FU; omega) (hN2.scr t3) (fun j hj => by rw [t3 374 _ (lv374 _)]; exact hrow j hj)
        rw [or_0] at x
        have hI2 : Inv2 E' := ((h.two.scr s12).s0.scr t3).scr t
        refine ⟨sv, sI D2 0 9 0, sI E' 370 7 0, ?_, ?_, ?_⟩
        · have eft : f_X1_fittingHands 4 D1 = some (sv, D2) := x2
          rw [ea, eb, t1', Option.bind_some, eft, Option.bind_some]; rfl
        · rw [ms _ hN2, if_pos c3, if_pos c5]
          have := g2 (sI D2 0 9 0) (by rw [sI_ne (by omega)]; exact s12 375 i (by unfold live; omega))
          rw [← e3] at this
          rw [this, Option.bind_some]
          unfold ap
          dsimp only
          rw [if_pos (show (0 : Int32) ≤ 0 by decide), x1, Option.bind_some, hP2, eb, x3, Option.bind_some]
          rcases b01 with rfl | rfl
          · rw [if_pos (show ((0 : Int32), E3).1 = 0 from rfl), f_X7_held_L74]; exact x
          · rw [if_neg (show ¬ ((1 : Int32), E3).1 = 0 from fun z => absurd z (show ¬ (1 : Int32) = 0 by decide)), f_X7_held_L74]; exact x
        · refine hI2.s7.of ?_
          rw [sI_eq, sI_ne (by omega), t 0 9 (by unfold live; omega), t3 0 9 (by unfold live; omega), sI_eq]
    · rw [if_neg c5]
      exact ⟨_, D, D, rfl, by rw [ms D hN, if_pos c3, if_neg c5], h⟩
  · rw [if_neg c3]
    exact ⟨_, D, D, rfl, by rw [ms D hN, if_neg c3], h⟩
