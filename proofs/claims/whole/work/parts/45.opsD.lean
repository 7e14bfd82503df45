/-! foretold, third part: hands, outs, best -/
theorem evS_nI {r : Rho} {n : Nat} (ok : Ok n r) : evS r = nI (2 ^ n - 1) := by
  unfold evS
  rw [ok.2.1]
  have : ∀ n, n ≤ 7 → ((1 : Int32) <<< (nI n &&& 31)) - 1 = nI (2 ^ n - 1) := by decide +kernel
  exact this n ok.1
theorem pow_nI {r : Rho} {n : Nat} (ok : Ok n r) : (1 : Int32) <<< (r 41 &&& 31) = nI (2 ^ n) := by
  rw [ok.2.1]
  have : ∀ n, n ≤ 7 → ((1 : Int32) <<< (nI n &&& 31)) = nI (2 ^ n) := by decide +kernel
  exact this n ok.1
theorem Ok.held {r : Rho} {n : Nat} (ok : Ok n r) {k : Nat} (hk : k < 2 ^ n) : Ok n (upd r 37 (nI k)) := by
  obtain ⟨h1, h2, h3, h4, h5, h6⟩ := ok
  refine ⟨h1, by rw [upd_n (by omega)]; exact h2, by rw [upd_n (by omega)]; exact h3, ⟨k, hk, upd_s⟩, by rw [upd_n (by omega)]; exact h5, fun j hj => ?_⟩
  obtain ⟨a1, a2, a3, a4, a5⟩ := h6 j hj
  exact ⟨by rw [upd_n (by omega)]; exact a1, by rw [upd_n (by omega)]; exact a2, by rw [upd_n (by omega)]; exact a3, by rw [upd_n (by omega)]; exact a4, by rw [upd_n (by omega)]; exact a5⟩
theorem Ok.outs {r : Rho} {n : Nat} (ok : Ok n r) {k : Nat} (hk : k < 2 ^ n) : Ok n (upd r 36 (nI k)) := by
  obtain ⟨h1, h2, h3, h4, h5, h6⟩ := ok
  refine ⟨h1, by rw [upd_n (by omega)]; exact h2, ⟨k, hk, upd_s⟩, by rw [upd_n (by omega)]; exact h4, by rw [upd_n (by omega)]; exact h5, fun j hj => ?_⟩
  obtain ⟨a1, a2, a3, a4, a5⟩ := h6 j hj
  exact ⟨by rw [upd_n (by omega)]; exact a1, by rw [upd_n (by omega)]; exact a2, by rw [upd_n (by omega)]; exact a3, by rw [upd_n (by omega)]; exact a4, by rw [upd_n (by omega)]; exact a5⟩
theorem bc_pos : ∀ a, a < 128 → (-1 : Int32) < f_J6_bitCount_0f7a4 (nI a) ∧ ¬ f_J6_bitCount_0f7a4 (nI a) ≤ -1000000 := by decide +kernel
theorem bc_th {r : Rho} {n : Nat} (hn : n ≤ 7) : (-1 : Int32) < f_J6_bitCount_0f7a4 (thS r n 2) ∧ ¬ f_J6_bitCount_0f7a4 (thS r n 2) ≤ -1000000 := by
  obtain ⟨a, h1, h2⟩ := setOf_nI (fun k => decide (r (8 + k) = 2)) n (by omega)
  unfold thS
  rw [h2]
  exact bc_pos a (by have := pow_le7 hn; omega)
theorem look_e (a b : Int32) : f_X7_isLook a b = if f_X6_beyond a 1 30 = 0 ∧ f_X6_beyond b 0 1 = 0 then 1 else 0 := by
  unfold f_X7_isLook
  rw [show f_X7_in a.toInt64 1 30 = if f_X6_beyond a 1 30 = 0 then 1 else 0 from in_bey a 1 30, show f_X7_in b.toInt64 0 1 = if f_X6_beyond b 0 1 = 0 then 1 else 0 from in_bey b 0 1, ib, ib]
  by_cases h1 : f_X6_beyond a 1 30 = 0
  · by_cases h2 : f_X6_beyond b 0 1 = 0
    · rw [if_pos h1, if_pos h2, if_pos ⟨h1, h2⟩]
    · rw [if_pos h1, if_neg h2, if_neg (fun z => h2 z.2)]
  · rw [if_neg h1, if_neg (fun z => h1 z.1)]
theorem scr241 {D : wd_D} {j : Nat} {v : Int32} : Scr D (sI D 241 j v) := scr_s (by unfold live; omega)
/-- one trial of hands, on either side -/
theorem c_hand1 {D : wd_D} {n M k : Nat} {r : Rho} (hN : PNow D n r) (hk : k < 2 ^ n) (hM : M ≤ 60) : ∃ D1 D2, f_X3_become 242 4 D = some D1 ∧ f_X3_passMinutes 242 (nI M) (sI D1 242 4 (nI k)) = some D2 ∧ f_X3_thoseWho 242 2 D2 = some (thS (itS (upd r 37 (nI k)) n M) n 2) ∧ Scr D D2 ∧ D2.1 241 = D.1 241 := by
  have ok := hN.2.2.1
  obtain ⟨D1, e1, a1, f1⟩ := c_become' (t := 242) hN.1 ok.1 (by omega)
  have ok2 := ok.held hk
  obtain ⟨D2, e2, a2, f2⟩ := c_mins (a1.v37 (nI k)) ok2 (M := M) (by omega)
  have f12 : Fr 242 D D2 := (f1.tr Fr.s0).tr f2
  exact ⟨D1, D2, e1, e2, c_those a2 ok.1 (ok2.it M).2.1 2, f12.scr (by omega), funext (fun j => f12.1 241 j (by omega))⟩
theorem m_hand1 {E : wd_D} {n M k : Nat} {r : Rho} (hN : PNow E n r) (hk : k < 2 ^ n) (hM : M ≤ 60) : ∃ E1 E2, f_X7_tries E = some E1 ∧ wr 252 E1 371 226 (nI k) = some (sI E1 371 226 (nI k)) ∧ f_X7_goesOn (nI M) (sI E1 371 226 (nI k)) = some E2 ∧ f_X7_thoseWho 189 2 E2 = some (thS (itS (upd r 37 (nI k)) n M) n 2) ∧ Scr E E2 := by
  have ok := hN.2.2.1
  obtain ⟨E1, x1, y1, t1, -⟩ := m_try hN
  have ok2 := ok.held hk
  obtain ⟨E2, x2, y2, u2⟩ := m_goes (y1.up 37 (nI k)) ok2 (M := M) (by omega)
  refine ⟨E1, E2, x1, ?_, x2, m_those9 y2 (ok2.it M) 2, t1.tr ((FrN.s (b := 189) (j := 37) (by omega)).scr.tr u2.scr)⟩
  rw [show (226 : Int32) = nI 226 from rfl, wr_nI E1 371 _ (show 226 < 252 by omega)]
theorem h_loop {n M : Nat} {r : Rho} (hM : M ≤ 60) (hn : n ≤ 7) : ∀ d k m D, k + d = 2 ^ n → d < m → PNow D n r → (D.1 241 5 = -1 ∧ k = 0 ∨ (∃ b, b < 128 ∧ D.1 241 4 = nI b)) → ∃ D', f_X1_planHands_L7 m 4 (nI M) (nI k) D = some D' ∧ Scr D D' ∧ ∀ (E : wd_D) m' (what be : Int32), d < m' → PNow E n r → (D.1 241 5 = -1 ∧ k = 0 ∧ be = 0 ∨ be = D.1 241 4) → (k = 2 ^ n → be = D.1 241 4) → ∃ E', f_X7_hands_L30 m' (nI M) what be (D.1 241 5) (nI k) E = some (if what = 0 then D'.1 241 5 else D'.1 241 4, E') ∧ Scr E E' := by
  have h128 := pow_le7 hn
  have hp1 : 0 < 2 ^ n := Nat.pos_of_ne_zero (by simp)
  intro d
  induction d with
  | zero =>
    intro k m D hk hm hN hi
    have ok := hN.2.2.1
    obtain ⟨m, rfl⟩ : ∃ m', m = m' + 1 := ⟨m - 1, by omega⟩
    rw [f_X1_planHands_L7, c_every hN.1, evS_nI ok, if_pos ((lt_nI (by omega) (by omega)).mpr (by omega))]
    refine ⟨D, rfl, Scr.rf, fun E m' what be hm' hE hbe hfin => ?_⟩
    obtain ⟨m', rfl⟩ : ∃ m2, m' = m2 + 1 := ⟨m' - 1, by omega⟩
    rw [f_X7_hands_L30, hE.2.1.y41, Option.bind_some, pow_nI ok, if_pos ((le_nI (by omega) (by omega)).mpr (by omega)), hfin (by omega)]
    refine ⟨E, ?_, Scr.rf⟩
    split <;> rfl
  | succ d ih =>
    intro k m D hk hm hN hi
    have ok := hN.2.2.1
    obtain ⟨m, rfl⟩ : ∃ m', m = m' + 1 := ⟨m - 1, by omega⟩
    have hk128 : k < 128 := by omega
    obtain ⟨w, w1, w2⟩ := ok.2.2.2.2.1
    rw [f_X1_planHands_L7, c_every hN.1, evS_nI ok, if_neg (fun z => by have := (lt_nI (by omega) (by omega)).mp z; omega), hN.1.f39]
    by_cases hw : r 39 < f_J6_bitCount_0f7a4 (nI k)
    · rw [if_pos hw, f_X1_planHands_L66]
      simp only [ap, nI_1]
      have k0 : ¬ k = 0 := fun z => by
        subst z
        rw [w2] at hw
        have : ∀ w, w < 4 → ¬ nI w < f_J6_bitCount_0f7a4 (nI 0) := by decide +kernel
        exact this w w1 hw
      obtain ⟨D', e, s, g⟩ := ih (k + 1) m D (by omega) (by omega) hN (Or.inr (by
        rcases hi with z | z
        · exact absurd z.2 k0
        · exact z))
      refine ⟨D', e, s, fun E m' what be hm' hE hbe hfin => ?_⟩
      obtain ⟨m', rfl⟩ : ∃ m2, m' = m2 + 1 := ⟨m' - 1, by omega⟩
      have hbe' : be = D.1 241 4 := by
        rcases hbe with z | z
        · exact absurd z.2.1 k0
        · exact z
      obtain ⟨E', x, t⟩ := g E m' what be (by omega) hE (Or.inr hbe') (fun _ => hbe')
      refine ⟨E', ?_, t⟩
      rw [f_X7_hands_L30, hE.2.1.y41, Option.bind_some, pow_nI ok, if_neg (fun z => by have := (le_nI (by omega) (by omega)).mp z; omega), ones_e k hk128, Option.bind_some, hE.2.1.y39, Option.bind_some, if_pos hw, f_X7_hands_L150]
      simp only [ap, nI_1]
      exact x
    · rw [if_neg hw]
      obtain ⟨D1, D2, e1, e2, e3, s2, p2⟩ := c_hand1 (M := M) hN (k := k) (by omega) hM
      rw [e1, Option.bind_some]
      simp only [ap]
      rw [e2, Option.bind_some, e3, Option.bind_some]
      have hN2 := hN.scr s2
      generalize hmany : f_J6_bitCount_0f7a4 (thS (itS (upd r 37 (nI k)) n M) n 2) = many
      have hmp : (-1 : Int32) < many := by rw [← hmany]; exact (bc_th hn).1
      have hones : f_X7_ones (thS (itS (upd r 37 (nI k)) n M) n 2) = some many := by rw [ones_th hn, hmany]
      have p4 : D2.1 241 4 = D.1 241 4 := by rw [p2]
      have p5 : D2.1 241 5 = D.1 241 5 := by rw [p2]
      -- the reference's step up to the choice
      have mstep : ∀ (E : wd_D) m' (what be : Int32), PNow E n r → ∃ E2, Scr E E2 ∧ PNow E2 n r ∧ f_X7_hands_L30 (m' + 1) (nI M) what be (D.1 241 5) (nI k) E = (if D.1 241 5 < many then f_X7_hands_L117 (f_X7_hands_L30 m') (nI M) what be (D.1 241 5) (nI k) many E2 else (if many = D.1 241 5 then (f_X7_ones (nI k)).bind (fun x17 => (f_X7_ones be).bind (fun x18 => (if x18 ≤ x17 then f_X7_hands_L121 (f_X7_hands_L30 m') (nI M) what be (D.1 241 5) (nI k) many E2 else f_X7_hands_L117 (f_X7_hands_L30 m') (nI M) what be (D.1 241 5) (nI k) many E2))) else f_X7_hands_L121 (f_X7_hands_L30 m') (nI M) what be (D.1 241 5) (nI k) many E2)) := by
        intro E m' what be hE
        obtain ⟨E1, E2, x1, x2, x3, x4, t⟩ := m_hand1 (M := M) hE (k := k) (by omega) hM
        refine ⟨E2, t, hE.scr t, ?_⟩
        rw [f_X7_hands_L30, hE.2.1.y41, Option.bind_some, pow_nI ok, if_neg (fun z => by have := (le_nI (by omega) (by omega)).mp z; omega), ones_e k hk128, Option.bind_some, hE.2.1.y39, Option.bind_some, if_neg hw, x1, Option.bind_some, x2, Option.bind_some, x3, Option.bind_some, x4, Option.bind_some, hones, Option.bind_some]
      -- taken
      have take : ∃ D', f_X1_planHands_L66 (f_X1_planHands_L7 m) 4 (nI M) (nI k) (f_X1_weighHands_L40 (nI k) many D2) = some D' ∧ Scr D D' ∧ ∀ (E2 : wd_D) m' (what be : Int32), d < m' → PNow E2 n r → ∃ E', f_X7_hands_L117 (f_X7_hands_L30 m') (nI M) what be (D.1 241 5) (nI k) many E2 = some (if what = 0 then D'.1 241 5 else D'.1 241 4, E') ∧ Scr E2 E' := by
        unfold f_X1_planHands_L66 f_X1_weighHands_L40
        simp only [ap, nI_1]
        have s3 : Scr D2 (sI (sI D2 241 4 (nI k)) 241 5 many) := scr241.tr scr241
        have q5 : (sI (sI D2 241 4 (nI k)) 241 5 many).1 241 5 = many := sI_eq
        have q4 : (sI (sI D2 241 4 (nI k)) 241 5 many).1 241 4 = nI k := by rw [sI_ne (by omega), sI_eq]
        obtain ⟨D', e, s, g⟩ := ih (k + 1) m (sI (sI D2 241 4 (nI k)) 241 5 many) (by omega) (by omega) (hN2.scr s3) (Or.inr ⟨k, hk128, q4⟩)
        refine ⟨D', e, (s2.tr s3).tr s, fun E2 m' what be hm' hE2 => ?_⟩
        obtain ⟨E', x, t⟩ := g E2 m' what (nI k) (by omega) hE2 (Or.inr q4.symm) (fun _ => q4.symm)
        rw [q5] at x
        refine ⟨E', ?_, t⟩
        simp only [f_X7_hands_L117, f_X7_hands_L122, i10, f_X7_hands_L135, f_X7_hands_L148, f_X7_hands_L150, ap, nI_1]
        exact x
      -- left
      have leave : ¬ D.1 241 5 < many → ∃ D', f_X1_planHands_L66 (f_X1_planHands_L7 m) 4 (nI M) (nI k) D2 = some D' ∧ Scr D D' ∧ ∀ (E2 : wd_D) m' (what be : Int32), d < m' → PNow E2 n r → be = D.1 241 4 → ∃ E', f_X7_hands_L121 (f_X7_hands_L30 m') (nI M) what be (D.1 241 5) (nI k) many E2 = some (if what = 0 then D'.1 241 5 else D'.1 241 4, E') ∧ Scr E2 E' := by
        intro hlt
        have n1 : ¬ D.1 241 5 = -1 := fun z => hlt (by rw [z]; exact hmp)
        unfold f_X1_planHands_L66
        simp only [ap, nI_1]
        obtain ⟨D', e, s, g⟩ := ih (k + 1) m D2 (by omega) (by omega) hN2 (Or.inr (by
          rcases hi with z | ⟨b, b1, b2⟩
          · exact absurd z.1 n1
          · exact ⟨b, b1, by rw [p4, b2]⟩))
        refine ⟨D', e, s2.tr s, fun E2 m' what be hm' hE2 hbe => ?_⟩
        obtain ⟨E', x, t⟩ := g E2 m' what be (by omega) hE2 (Or.inr (by rw [hbe, p4])) (fun _ => by rw [hbe, p4])
        rw [p5] at x
        refine ⟨E', ?_, t⟩
        simp only [f_X7_hands_L121, f_X7_hands_L122, i00, f_X7_hands_L135, f_X7_hands_L148, f_X7_hands_L150, ap, nI_1]
        exact x
      unfold f_X1_weighHands f_X1_weighHands_L19
      rw [gI_e, gI_e, p4, p5]
      by_cases hlt : D.1 241 5 < many
      · obtain ⟨D', e, s, g⟩ := take
        refine ⟨D', ?_, s, fun E m' what be hm' hE hbe hfin => ?_⟩
        · split <;> first | exact e | (rw [if_pos hlt]; exact e)
        · obtain ⟨m', rfl⟩ : ∃ m2, m' = m2 + 1 := ⟨m' - 1, by omega⟩
          obtain ⟨E2, t, hE2, x⟩ := mstep E m' what be hE
          obtain ⟨E', x', t'⟩ := g E2 m' what be (by omega) hE2
          exact ⟨E', by rw [x, if_pos hlt]; exact x', t.tr t'⟩
      · have n1 : ¬ D.1 241 5 = -1 := fun z => hlt (by rw [z]; exact hmp)
        obtain ⟨b, b1, b2⟩ : ∃ b, b < 128 ∧ D.1 241 4 = nI b := by
          rcases hi with z | z
          · exact absurd z.1 n1
          · exact z
        by_cases heq : many = D.1 241 5
        · by_cases hf : f_J6_bitCount_0f7a4 (D.1 241 4) ≤ f_J6_bitCount_0f7a4 (nI k)
          · obtain ⟨D', e, s, g⟩ := leave hlt
            refine ⟨D', ?_, s, fun E m' what be hm' hE hbe hfin => ?_⟩
            · rw [if_pos hf, if_neg hlt, if_pos heq, i00]; exact e
            · obtain ⟨m', rfl⟩ : ∃ m2, m' = m2 + 1 := ⟨m' - 1, by omega⟩
              obtain ⟨E2, t, hE2, x⟩ := mstep E m' what be hE
              have hbe' : be = D.1 241 4 := hbe.resolve_left (fun z => n1 z.1)
              obtain ⟨E', x', t'⟩ := g E2 m' what be (by omega) hE2 hbe'
              refine ⟨E', ?_, t.tr t'⟩
              rw [x, if_neg hlt, if_pos heq, ones_e k hk128, Option.bind_some]
              rw [hbe', b2] at x' ⊢
              rw [b2] at hf
              rw [ones_e b b1, Option.bind_some, if_pos hf]; exact x'
          · obtain ⟨D', e, s, g⟩ := take
            refine ⟨D', ?_, s, fun E m' what be hm' hE hbe hfin => ?_⟩
            · rw [if_neg hf, if_neg hlt, if_pos heq, i10]; exact e
            · obtain ⟨m', rfl⟩ : ∃ m2, m' = m2 + 1 := ⟨m' - 1, by omega⟩
              obtain ⟨E2, t, hE2, x⟩ := mstep E m' what be hE
              have hbe' : be = D.1 241 4 := hbe.resolve_left (fun z => n1 z.1)
              obtain ⟨E', x', t'⟩ := g E2 m' what be (by omega) hE2
              refine ⟨E', ?_, t.tr t'⟩
              rw [x, if_neg hlt, if_pos heq, ones_e k hk128, Option.bind_some]
              rw [hbe', b2] at x' ⊢
              rw [b2] at hf
              rw [ones_e b b1, Option.bind_some, if_neg hf]; exact x'
        · obtain ⟨D', e, s, g⟩ := leave hlt
          refine ⟨D', ?_, s, fun E m' what be hm' hE hbe hfin => ?_⟩
          · split <;> first | exact e | (rw [if_neg hlt, if_neg heq]; exact e)
          · obtain ⟨m', rfl⟩ : ∃ m2, m' = m2 + 1 := ⟨m' - 1, by omega⟩
            obtain ⟨E2, t, hE2, x⟩ := mstep E m' what be hE
            have hbe' : be = D.1 241 4 := hbe.resolve_left (fun z => n1 z.1)
            obtain ⟨E', x', t'⟩ := g E2 m' what be (by omega) hE2 hbe'
            exact ⟨E', by rw [x, if_neg hlt, if_neg heq]; exact x', t.tr t'⟩
theorem op_hands {D : wd_D} (h : Inv D) (a b : Int32) : ∃ v D1 D2, f_X6_hands a b D = some (v, D1) ∧ f_X7_hands a b D1 = some (v, D2) ∧ Inv D2 := by
  obtain ⟨n, r, hN, -⟩ := h.2.2.2.2.1
  have ok := hN.2.2.1
  have hn := ok.1
  have h128 := pow_le7 hn
  unfold f_X6_hands
  rw [noRoom_e hN]
  by_cases e0 : n = 0
  · rw [if_pos e0, i10]
    refine ⟨_, D, D, rfl, ?_, h⟩
    unfold f_X7_hands
    rw [isRoom_e hN, if_pos e0, Option.bind_some, i00]
  · rw [if_neg e0, i00]
    have ms : ∀ E, PNow E n r → f_X7_hands a b E = if f_X6_beyond a 1 30 = 0 ∧ f_X6_beyond b 0 1 = 0 then f_X7_hands_L30 FU a b 0 (-1) 0 E else some (-1000001, E) := by
      intro E hE
      unfold f_X7_hands
      rw [isRoom_e hE, if_neg e0, Option.bind_some, i10, look_e, ib]
    by_cases h1 : f_X6_beyond a 1 30 = 0
    · rw [if_pos h1]
      by_cases h2 : f_X6_beyond b 0 1 = 0
      · rw [if_pos h2]
        obtain ⟨M, m1, m2, rfl⟩ := bey_nI (lo := 1) (hi := 30) (by decide) (by decide) h1
        have s0 : Scr D (sI D 241 5 (-1)) := scr241
        have q5 : (sI D 241 5 (-1)).1 241 5 = -1 := sI_eq
        obtain ⟨D', e, s, g⟩ := h_loop (M := M) (r := r) (by omega) hn (2 ^ n) 0 FU (sI D 241 5 (-1)) (by omega) (by unfold FU; omega) (hN.scr s0) (Or.inl ⟨q5, rfl⟩)
        have hN' := hN.scr (s0.tr s)
        have hp : 2 ^ n ≠ 0 := by simp
        obtain ⟨E', x, t⟩ := g D' FU b 0 (by unfold FU; omega) hN' (Or.inl ⟨q5, rfl, rfl⟩) (fun z => absurd z.symm hp)
        rw [q5] at x
        refine ⟨if b = 0 then D'.1 241 5 else D'.1 241 4, D', E', ?_, ?_, (h.scr (s0.tr s)).scr t⟩
        · unfold f_X1_planHands
          simp only [ap]
          rw [show f_X1_planHands_L7 FU 4 (nI M) 0 (sI D 241 5 (-1)) = some D' from e, Option.bind_some, gI_e, gI_e]
          split <;> rfl
        · rw [ms D' hN', if_pos ⟨h1, h2⟩]; exact x
      · rw [if_neg h2]
        exact ⟨_, D, D, rfl, by rw [ms D hN, if_neg (fun z => h2 z.2)], h⟩
    · rw [if_neg h1]
      exact ⟨_, D, D, rfl, by rw [ms D hN, if_neg (fun z => h1 z.1)], h⟩
