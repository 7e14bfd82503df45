/-! foretold, first part: ahead, noise, asleep, allAsleep, dinner, wakes -/
theorem PNow.scr {D E : wd_D} {n : Nat} {r : Rho} (h : PNow D n r) (g : Scr D E) : PNow E n r := h.at (fun k j z => g k j (by unfold live; omega))
/-- the class tries on 242 -/
theorem c_try {D : wd_D} {n : Nat} {r : Rho} (h : PNow D n r) : ∃ D', f_X3_become 242 4 D = some D' ∧ RepC D' 242 n r ∧ Scr D D' ∧ PNow D' n r := by
  obtain ⟨D', e, a, f⟩ := c_become' (t := 242) h.1 h.2.2.1.1 (by omega)
  have s := f.scr (by omega)
  exact ⟨D', e, a, s, h.scr s⟩
theorem m_try {D : wd_D} {n : Nat} {r : Rho} (h : PNow D n r) : ∃ D', f_X7_tries D = some D' ∧ RepM D' 189 r ∧ Scr D D' ∧ PNow D' n r := by
  obtain ⟨D', e, a, f⟩ := m_tries h.2.1
  exact ⟨D', e, a, f.scr, h.scr f.scr⟩
theorem c_after {D : wd_D} {n : Nat} {r : Rho} (h : PNow D n r) {M : Nat} (hM : M ≤ 900) : ∃ D', f_X1_after 4 (nI M) D = some D' ∧ RepC D' 242 n (itS r n M) ∧ Scr D D' := by
  obtain ⟨D1, e1, a1, s1, -⟩ := c_try h
  obtain ⟨D2, e2, a2, f2⟩ := c_mins a1 h.2.2.1 hM
  unfold f_X1_after
  rw [e1, Option.bind_some, e2, Option.bind_some]
  exact ⟨D2, rfl, a2, s1.tr (f2.scr (by omega))⟩
theorem m_after {D : wd_D} {n : Nat} {r : Rho} (h : PNow D n r) {M : Nat} (hM : M ≤ 900) : ∃ D1 D2, f_X7_tries D = some D1 ∧ f_X7_goesOn (nI M) D1 = some D2 ∧ RepM D2 189 (itS r n M) ∧ Scr D D2 := by
  obtain ⟨D1, e1, a1, s1, -⟩ := m_try h
  obtain ⟨D2, e2, a2, f2⟩ := m_goes a1 h.2.2.1 hM
  exact ⟨D1, D2, e1, e2, a2, s1.tr f2.scr⟩
theorem op_ahead {D : wd_D} (h : Inv D) (a b : Int32) : ∃ v D1 D2, f_X6_ahead a b D = some (v, D1) ∧ f_X7_ahead a b D1 = some (v, D2) ∧ Inv D2 := by
  obtain ⟨n, r, hN, -⟩ := h.2.2.2.2.1
  have ok := hN.2.2.1
  unfold f_X6_ahead
  rw [noRoom_e hN]
  by_cases e0 : n = 0
  · rw [if_pos e0, i10]
    refine ⟨_, D, D, rfl, ?_, h⟩
    unfold f_X7_ahead
    rw [isRoom_e hN, if_pos e0, Option.bind_some, i00]
  · rw [if_neg e0, i00]
    have ms : ∀ E, PNow E n r → f_X7_ahead a b E = if f_X6_beyond a 0 60 = 0 then (if f_X6_beyond b 0 2 = 0 then (f_X7_tries E).bind (fun q5 => (f_X7_goesOn a q5).bind (fun q6 => (f_X7_thoseWho 189 b q6).bind (fun x7 => some (x7, q6)))) else some (-1000001, E)) else some (-1000001, E) := by
      intro E hE
      unfold f_X7_ahead f_X7_isSpan
      rw [isRoom_e hE, if_neg e0, Option.bind_some, i10, show f_X7_in a.toInt64 (0 : Int32).toInt64 60 = if f_X6_beyond a 0 60 = 0 then 1 else 0 from in_bey a 0 60, show f_X7_in b.toInt64 0 2 = if f_X6_beyond b 0 2 = 0 then 1 else 0 from in_bey b 0 2, ib, ib]
    by_cases h1 : f_X6_beyond a 0 60 = 0
    · rw [if_pos h1]
      by_cases h2 : f_X6_beyond b 0 2 = 0
      · rw [if_pos h2]
        obtain ⟨M, m1, m2, rfl⟩ := bey_nI (lo := 0) (hi := 60) (by decide) (by decide) h1
        obtain ⟨D1, e1, a1, s1⟩ := c_after hN (M := M) (by omega)
        rw [e1, Option.bind_some, c_those a1 ok.1 (ok.it M).2.1, Option.bind_some]
        have hN1 := hN.scr s1
        obtain ⟨E1, E2, f1, f2, a2, s2⟩ := m_after hN1 (M := M) (by omega)
        refine ⟨_, D1, E2, rfl, ?_, (h.scr s1).scr s2⟩
        rw [ms D1 hN1, if_pos h1, if_pos h2, f1, Option.bind_some, f2, Option.bind_some, m_those9 a2 (ok.it M), Option.bind_some]
      · rw [if_neg h2]
        exact ⟨_, D, D, rfl, by rw [ms D hN, if_pos h1, if_neg h2], h⟩
    · rw [if_neg h1]
      exact ⟨_, D, D, rfl, by rw [ms D hN, if_neg h1], h⟩
theorem op_noise {D : wd_D} (h : Inv D) (a b : Int32) : ∃ v D1 D2, f_X6_noise a b D = some (v, D1) ∧ f_X7_noise a b D1 = some (v, D2) ∧ Inv D2 := by
  obtain ⟨n, r, hN, -⟩ := h.2.2.2.2.1
  have ok := hN.2.2.1
  have ms : ∀ E, PNow E n r → f_X7_noise a b E = if (if a < 0 then (1 : Int32) else if a < nI n then 0 else 1) = 0 then (if f_X6_beyond b 0 60 = 0 then (f_X7_tries E).bind (fun q5 => (f_X7_goesOn b q5).bind (fun q6 => (f_X7_noiseAt 189 a q6).bind (fun x7 => some (x7, q6)))) else some (-1000001, E)) else some (-1000001, E) := by
    intro E hE
    unfold f_X7_noise f_X7_isSpan
    rw [isChild_e hE.2.1 ok, Option.bind_some, show f_X7_in b.toInt64 (0 : Int32).toInt64 60 = if f_X6_beyond b 0 60 = 0 then 1 else 0 from in_bey b 0 60, ib, ib]
  unfold f_X6_noise
  rw [noChild_e hN.1 ok]
  by_cases hz : (if a < 0 then (1 : Int32) else if a < nI n then 0 else 1) = 0
  · rw [if_pos hz]
    by_cases h2 : f_X6_beyond b 0 60 = 0
    · rw [if_pos h2]
      obtain ⟨c, c1, ea⟩ := child_nI ok.1 hz
      obtain ⟨M, m1, m2, eb⟩ := bey_nI (lo := 0) (hi := 60) (by decide) (by decide) h2
      obtain ⟨D1, e1, a1, s1⟩ := c_after hN (M := M) (by omega)
      have okM := ok.it M
      rw [eb, e1, Option.bind_some, c_criers a1 okM.1 okM.2.1, Option.bind_some, ea, c_noise a1 okM c1, Option.bind_some]
      have hN1 := hN.scr s1
      obtain ⟨E1, E2, f1, f2, a2, s2⟩ := m_after hN1 (M := M) (by omega)
      refine ⟨_, D1, E2, rfl, ?_, (h.scr s1).scr s2⟩
      rw [← ea, ← eb, ms D1 hN1, if_pos hz, if_pos h2, f1, Option.bind_some, eb, f2, Option.bind_some, ea, m_noise9 a2 okM (by have := ok.1; omega), Option.bind_some]
    · rw [if_neg h2]
      exact ⟨_, D, D, rfl, by rw [ms D hN, if_pos hz, if_neg h2], h⟩
  · rw [if_neg hz]
    exact ⟨_, D, D, rfl, by rw [ms D hN, if_neg hz], h⟩
theorem thS_hb {r : Rho} {n c : Nat} (hn : n ≤ 7) (hc : c < n) (how : Int32) : hb (thS r n how) c = decide (r (8 + c) = how) := by
  unfold thS
  rw [hb_setOf _ (by omega) n (by omega)]
  simp [hc]
theorem bit_and0 {c : Nat} (hc : c < 31) (x : Int32) : bitI c &&& (x ^^^ (-1)) = 0 ↔ hb x c = true := by
  constructor
  · intro h
    have h1 := congrArg (fun z => hb z c) h
    simp only [hb_and, hb_0, hb_bit (show c < 32 by omega) (show c < 32 by omega), hb_not (show c < 32 by omega)] at h1
    simpa using h1
  · intro h
    apply b_ext
    intro i hi
    show hb _ i = hb 0 i
    rw [hb_and, hb_bit (by omega) hi, hb_not hi, hb_0]
    by_cases e : i = c
    · subst e; simp [h]
    · simp [e]
/-- the first minute behind which a thing is so, by the class's loop: s is the set asked for -/
theorem c_first {n : Nat} {r : Rho} (ok : Ok n r) (s : Int32) (p : Rho → Prop) [DecidablePred p] (hp : ∀ M, (s &&& (thS (itS r n M) n 2 ^^^ (-1)) = 0 ↔ p (itS r n M))) (hst : ∀ x y : Rho, (∀ j, j ≠ 0 → x j = y j) → (p x ↔ p y)) : ∀ d i m D, i + d = 60 → d < m → RepC D 242 n (itS r n i) → ∃ v D', f_X1_firstAsleep_L10 m 4 s (nI i) D = some (v, D') ∧ Fr 242 D D' ∧ ((∃ k, i ≤ k ∧ k ≤ 60 ∧ p (itS r n k) ∧ (∀ j, i ≤ j → j < k → ¬ p (itS r n j)) ∧ v = nI k) ∨ ((∀ j, i ≤ j → j ≤ 60 → ¬ p (itS r n j)) ∧ v = -1000000)) := by
  intro d
  induction d with
  | zero =>
    intro i m D hi hm h
    obtain ⟨m, rfl⟩ : ∃ m', m = m' + 1 := ⟨m - 1, by omega⟩
    have e : i = 60 := by omega
    subst e
    rw [f_X1_firstAsleep_L10, if_pos (by decide), c_all h (ok.it 60), Option.bind_some]
    by_cases hq : s &&& (thS (itS r n 60) n 2 ^^^ (-1)) = 0
    · rw [if_pos hq, i10]
      exact ⟨_, D, rfl, Fr.rf, Or.inl ⟨60, by omega, by omega, (hp 60).mp hq, fun j h1 h2 => by omega, rfl⟩⟩
    · rw [if_neg hq, i00]
      refine ⟨_, D, rfl, Fr.rf, Or.inr ⟨fun j h1 h2 => ?_, rfl⟩⟩
      have e : j = 60 := by omega
      subst e
      exact fun z => hq ((hp 60).mpr z)
  | succ d ih =>
    intro i m D hi hm h
    obtain ⟨m, rfl⟩ : ∃ m', m = m' + 1 := ⟨m - 1, by omega⟩
    rw [f_X1_firstAsleep_L10, if_neg (fun z => by have := (le_nI (a := 60) (b := i) (by omega) (by omega)).mp z; omega), c_all h (ok.it i), Option.bind_some]
    by_cases hq : s &&& (thS (itS r n i) n 2 ^^^ (-1)) = 0
    · rw [if_pos hq, i10]
      exact ⟨_, D, rfl, Fr.rf, Or.inl ⟨i, by omega, by omega, (hp i).mp hq, fun j h1 h2 => by omega, rfl⟩⟩
    · rw [if_neg hq, i00]
      have np : ¬ p (itS r n i) := fun z => hq ((hp i).mpr z)
      obtain ⟨b, D1, e1, a1, f1, b1, st⟩ := c_pass h (ok.it i)
      rw [e1, Option.bind_some]
      by_cases hb0 : b = 0
      · simp only [hb0, if_true]
        refine ⟨_, D1, rfl, f1, Or.inr ⟨fun j h1 h2 z => ?_, rfl⟩⟩
        have e2 : j = i + (j - i) := by omega
        rw [e2, itS_add] at z
        refine np ((hst _ _ (fun t ht => ?_)).mp z)
        rw [still_it ok.1 (st hb0), upd_n ht]
      · simp only [hb0, if_false, ap, nI_1]
        obtain ⟨v, D', e, f2, g⟩ := ih (i + 1) m D1 (by omega) (by omega) a1
        refine ⟨v, D', e, f1.tr f2, ?_⟩
        rcases g with ⟨k, k1, k2, k3, k4, k5⟩ | ⟨g1, g2⟩
        · refine Or.inl ⟨k, by omega, k2, k3, fun j h1 h2 => ?_, k5⟩
          by_cases e : j = i
          · subst e; exact np
          · exact k4 j (by omega) h2
        · refine Or.inr ⟨fun j h1 h2 => ?_, g2⟩
          by_cases e : j = i
          · subst e; exact np
          · exact g1 j (by omega) h2
/-- the two answers agree: the first such minute is one alone -/
theorem first_one {q : Nat → Prop} {v w : Int32} (h : (∃ k, 0 ≤ k ∧ k ≤ 60 ∧ q k ∧ (∀ j, 0 ≤ j → j < k → ¬ q j) ∧ v = nI k) ∨ ((∀ j, 0 ≤ j → j ≤ 60 → ¬ q j) ∧ v = -1000000)) (g : (∃ k, 0 ≤ k ∧ k ≤ 60 ∧ q k ∧ (∀ j, 0 ≤ j → j < k → ¬ q j) ∧ w = nI k) ∨ ((∀ j, 0 ≤ j → j ≤ 60 → ¬ q j) ∧ w = -1000000)) : v = w := by
  rcases h with ⟨k, k1, k2, k3, k4, k5⟩ | ⟨h1, h2⟩ <;> rcases g with ⟨l, l1, l2, l3, l4, l5⟩ | ⟨g1, g2⟩
  · have e : k = l := by
      rcases Nat.lt_trichotomy k l with z | z | z
      · exact absurd k3 (l4 k (by omega) z)
      · exact z
      · exact absurd l3 (k4 l (by omega) z)
    rw [k5, l5, e]
  · exact absurd k3 (g1 k k1 k2)
  · exact absurd l3 (h1 l l1 l2)
  · rw [h2, g2]
theorem m_first1 {n : Nat} {r : Rho} (ok : Ok n r) {c : Nat} (hc : c < 7) : ∀ d i m D, i + d = 61 → d < m → RepM D 189 (itS r n i) → ∃ v D', f_X7_asleep_L17 m (nI c) (nI i) D = some (v, D') ∧ FrM 189 D D' ∧ ((∃ k, i ≤ k ∧ k ≤ 60 ∧ itS r n k (8 + c) = 2 ∧ (∀ j, i ≤ j → j < k → ¬ itS r n j (8 + c) = 2) ∧ v = nI k) ∨ ((∀ j, i ≤ j → j ≤ 60 → ¬ itS r n j (8 + c) = 2) ∧ v = -1000000)) := by
  intro d
  induction d with
  | zero =>
    intro i m D hi hm h
    obtain ⟨m, rfl⟩ : ∃ m', m = m' + 1 := ⟨m - 1, by omega⟩
    have e : i = 61 := by omega
    subst e
    rw [f_X7_asleep_L17, if_pos (by decide)]
    exact ⟨_, D, rfl, FrM.rf, Or.inr ⟨fun j h1 h2 => by omega, rfl⟩⟩
  | succ d ih =>
    intro i m D hi hm h
    obtain ⟨m, rfl⟩ : ∃ m', m = m' + 1 := ⟨m - 1, by omega⟩
    rw [f_X7_asleep_L17, if_neg (fun z => by have := (lt_nI (a := 60) (b := i) (by omega) (by omega)).mp z; omega), show (197 : Int32) + nI c = nI (189 + (8 + c)) from by rw [show (197 : Int32) = nI 197 from rfl, nI_add]; congr 1; omega, rd_nI D 371 (show 189 + (8 + c) < 252 by omega), Option.bind_some, h (8 + c) (by omega)]
    by_cases hq : itS r n i (8 + c) = 2
    · rw [if_pos hq]
      exact ⟨_, D, rfl, FrM.rf, Or.inl ⟨i, by omega, by omega, hq, fun j h1 h2 => by omega, rfl⟩⟩
    · rw [if_neg hq]
      obtain ⟨D1, e1, a1, f1⟩ := m_pass9 h (ok.it i)
      rw [e1, Option.bind_some]
      simp only [ap, nI_1]
      obtain ⟨v, D', e, f2, g⟩ := ih (i + 1) m D1 (by omega) (by omega) a1
      refine ⟨v, D', e, f1.tr f2, ?_⟩
      rcases g with ⟨k, k1, k2, k3, k4, k5⟩ | ⟨g1, g2⟩
      · refine Or.inl ⟨k, by omega, k2, k3, fun j h1 h2 => ?_, k5⟩
        by_cases e : j = i
        · subst e; exact hq
        · exact k4 j (by omega) h2
      · refine Or.inr ⟨fun j h1 h2 => ?_, g2⟩
        by_cases e : j = i
        · subst e; exact hq
        · exact g1 j (by omega) h2
theorem m_first2 {n : Nat} {r : Rho} (ok : Ok n r) : ∀ d i m D, i + d = 61 → d < m → RepM D 189 (itS r n i) → ∃ v D', f_X7_allAsleep_L16 m (nI i) D = some (v, D') ∧ FrM 189 D D' ∧ ((∃ k, i ≤ k ∧ k ≤ 60 ∧ alS (itS r n k) n = 0 ∧ (∀ j, i ≤ j → j < k → ¬ alS (itS r n j) n = 0) ∧ v = nI k) ∨ ((∀ j, i ≤ j → j ≤ 60 → ¬ alS (itS r n j) n = 0) ∧ v = -1000000)) := by
  intro d
  induction d with
  | zero =>
    intro i m D hi hm h
    obtain ⟨m, rfl⟩ : ∃ m', m = m' + 1 := ⟨m - 1, by omega⟩
    have e : i = 61 := by omega
    subst e
    rw [f_X7_allAsleep_L16, if_pos (by decide)]
    exact ⟨_, D, rfl, FrM.rf, Or.inr ⟨fun j h1 h2 => by omega, rfl⟩⟩
  | succ d ih =>
    intro i m D hi hm h
    obtain ⟨m, rfl⟩ : ∃ m', m = m' + 1 := ⟨m - 1, by omega⟩
    rw [f_X7_allAsleep_L16, if_neg (fun z => by have := (lt_nI (a := 60) (b := i) (by omega) (by omega)).mp z; omega), m_all9 h (ok.it i), Option.bind_some]
    by_cases hq : alS (itS r n i) n = 0
    · rw [if_pos hq, i10]
      exact ⟨_, D, rfl, FrM.rf, Or.inl ⟨i, by omega, by omega, hq, fun j h1 h2 => by omega, rfl⟩⟩
    · rw [if_neg hq, i00]
      obtain ⟨D1, e1, a1, f1⟩ := m_pass9 h (ok.it i)
      rw [e1, Option.bind_some]
      simp only [ap, nI_1]
      obtain ⟨v, D', e, f2, g⟩ := ih (i + 1) m D1 (by omega) (by omega) a1
      refine ⟨v, D', e, f1.tr f2, ?_⟩
      rcases g with ⟨k, k1, k2, k3, k4, k5⟩ | ⟨g1, g2⟩
      · refine Or.inl ⟨k, by omega, k2, k3, fun j h1 h2 => ?_, k5⟩
        by_cases e : j = i
        · subst e; exact hq
        · exact k4 j (by omega) h2
      · refine Or.inr ⟨fun j h1 h2 => ?_, g2⟩
        by_cases e : j = i
        · subst e; exact hq
        · exact g1 j (by omega) h2
theorem op_asleep {D : wd_D} (h : Inv D) (a : Int32) : ∃ v D1 D2, f_X6_asleep a D = some (v, D1) ∧ f_X7_asleep a D1 = some (v, D2) ∧ Inv D2 := by
  obtain ⟨n, r, hN, -⟩ := h.2.2.2.2.1
  have ok := hN.2.2.1
  have hn := ok.1
  unfold f_X6_asleep
  rw [noChild_e hN.1 ok]
  by_cases hz : (if a < 0 then (1 : Int32) else if a < nI n then 0 else 1) = 0
  · rw [if_pos hz]
    obtain ⟨c, c1, rfl⟩ := child_nI ok.1 hz
    obtain ⟨D1, e1, a1, s1, -⟩ := c_try hN
    obtain ⟨v, D2, e2, f2, g2⟩ := c_first ok (bitI c) (fun x => x (8 + c) = 2) (fun M => by rw [bit_and0 (by omega), thS_hb hn c1]; simp) (fun x y e => by rw [e (8 + c) (by omega)]) 60 0 FU D1 (by omega) (by unfold FU; omega) a1
    have s2 := s1.tr (f2.scr (by omega))
    obtain ⟨E1, x1, y1, t1, -⟩ := m_try (hN.scr s2)
    obtain ⟨w, E2, x2, u2, g3⟩ := m_first1 ok (c := c) (by omega) 61 0 FU E1 (by omega) (by unfold FU; omega) y1
    have evw : v = w := first_one (q := fun k => itS r n k (8 + c) = 2) g2 g3
    refine ⟨v, D2, E2, ?_, ?_, (h.scr s2).scr (t1.tr u2.scr)⟩
    · unfold f_X1_firstAsleep
      rw [e1, Option.bind_some, show f_X1_firstAsleep_L10 FU 4 ((1 : Int32) <<< (nI c &&& 31)) 0 D1 = some (v, D2) from e2]; rfl
    · unfold f_X7_asleep
      rw [isChild_e (hN.scr s2).2.1 ok, if_pos hz, Option.bind_some, i10, x1, Option.bind_some, show f_X7_asleep_L17 FU (nI c) 0 E1 = some (w, E2) from x2, evw]
  · rw [if_neg hz]
    refine ⟨_, D, D, rfl, ?_, h⟩
    unfold f_X7_asleep
    rw [isChild_e hN.2.1 ok, if_neg hz, Option.bind_some, i00]
theorem itS_out {r : Rho} {n : Nat} (hn : n ≤ 7) {j : Nat} (h0 : j ≠ 0) (hj : j < 8 ∨ 29 ≤ j) : ∀ M, itS r n M j = r j
  | 0 => rfl
  | M + 1 => by
    show passS (itS r n M) n j = r j
    rw [passS_out hn h0 hj, itS_out hn h0 hj M]
theorem alS_cong {x y : Rho} {n : Nat} (h : ∀ j, j ≠ 0 → x j = y j) : alS x n = alS y n := by
  have e : thS x n 2 = thS y n 2 := by
    unfold thS
    congr 1
    funext k
    rw [h (8 + k) (by omega)]
  unfold alS evS
  rw [e, h 41 (by omega), h 36 (by omega)]
theorem op_allAsleep {D : wd_D} (h : Inv D) : ∃ v D1 D2, f_X6_allAsleep D = some (v, D1) ∧ f_X7_allAsleep D1 = some (v, D2) ∧ Inv D2 := by
  obtain ⟨n, r, hN, -⟩ := h.2.2.2.2.1
  have ok := hN.2.2.1
  have hn := ok.1
  unfold f_X6_allAsleep
  rw [noRoom_e hN]
  by_cases e0 : n = 0
  · rw [if_pos e0, i10]
    refine ⟨_, D, D, rfl, ?_, h⟩
    unfold f_X7_allAsleep
    rw [isRoom_e hN, if_pos e0, Option.bind_some, i00]
  · rw [if_neg e0, i00, c_every hN.1, hN.1.f36]
    obtain ⟨D1, e1, a1, s1, -⟩ := c_try hN
    obtain ⟨v, D2, e2, f2, g2⟩ := c_first ok (evS r &&& (r 36 ^^^ (-1))) (fun x => alS x n = 0) (fun M => by
      unfold alS evS
      rw [itS_out hn (by decide) (by omega), itS_out hn (by decide) (by omega)]) (fun x y e => by rw [alS_cong e]) 60 0 FU D1 (by omega) (by unfold FU; omega) a1
    have s2 := s1.tr (f2.scr (by omega))
    obtain ⟨E1, x1, y1, t1, -⟩ := m_try (hN.scr s2)
    obtain ⟨w, E2, x2, u2, g3⟩ := m_first2 ok 61 0 FU E1 (by omega) (by unfold FU; omega) y1
    have evw : v = w := first_one (q := fun k => alS (itS r n k) n = 0) g2 g3
    refine ⟨v, D2, E2, ?_, ?_, (h.scr s2).scr (t1.tr u2.scr)⟩
    · unfold f_X1_firstAsleep
      rw [e1, Option.bind_some, show f_X1_firstAsleep_L10 FU 4 (evS r &&& (r 36 ^^^ (-1))) 0 D1 = some (v, D2) from e2]; rfl
    · unfold f_X7_allAsleep
      rw [isRoom_e (hN.scr s2), if_neg e0, Option.bind_some, i10, x1, Option.bind_some, show f_X7_allAsleep_L16 FU 0 E1 = some (w, E2) from x2, evw]
