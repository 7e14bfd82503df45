/-! foretold, fifth part: best; who, held -/
theorem Ok.swap {r : Rho} {n a b : Nat} (ok : Ok n r) (ha : a < n) (hb : b < n) : Ok n (swS r a b) := by
  have hn := ok.1
  obtain ⟨h1, h2, h3, h4, h5, h6⟩ := ok
  have o : ∀ j, ¬ (29 ≤ j ∧ j < 36) → swS r a b j = r j := fun j hj => by
    unfold swS; rw [upd_n (by omega), upd_n (by omega)]
  refine ⟨h1, by rw [o _ (by omega)]; exact h2, by rw [o _ (by omega)]; exact h3, by rw [o _ (by omega)]; exact h4, by rw [o _ (by omega)]; exact h5, fun k hk => ?_⟩
  obtain ⟨a1, a2, a3, a4, a5⟩ := h6 k hk
  refine ⟨by rw [o _ (by omega)]; exact a1, by rw [o _ (by omega)]; exact a2, ?_, by rw [o _ (by omega)]; exact a4, by rw [o _ (by omega)]; exact a5⟩
  unfold swS
  by_cases e : k = b
  · subst e; rw [upd_s]; exact (h6 a ha).2.2.1
  · rw [upd_n (by omega)]
    by_cases e2 : k = a
    · subst e2; rw [upd_s]; exact (h6 b hb).2.2.1
    · rw [upd_n (by omega)]; exact a3
def BRel (st : Prop) (D : wd_D) (be mo : Int32) : Prop := (st ∧ D.1 241 5 = -1 ∧ mo = -1000000) ∨ (be = D.1 241 4 ∧ mo = D.1 241 5)
theorem c_best1 {D : wd_D} {n M a b : Nat} {r : Rho} (hN : PNow D n r) (ha : a < n) (hb : b < n) (hM : M ≤ 60) : ∃ D1 D2 D3, f_X3_become 242 4 D = some D1 ∧ f_X3_swapCots 242 (nI a) (nI b) D1 = some D2 ∧ f_X3_passMinutes 242 (nI M) D2 = some D3 ∧ f_X3_thoseWho 242 2 D3 = some (thS (itS (swS r a b) n M) n 2) ∧ Scr D D3 ∧ D3.1 241 = D.1 241 := by
  have ok := hN.2.2.1
  obtain ⟨D1, e1, a1, f1⟩ := c_become' (t := 242) hN.1 ok.1 (by omega)
  have ok2 := ok.swap ha hb
  obtain ⟨D2, e2, a2, f2⟩ := c_swap a1 ok.1 ha hb
  obtain ⟨D3, e3, a3, f3⟩ := c_mins a2 ok2 (M := M) (by omega)
  have f := (f1.tr f2).tr f3
  exact ⟨D1, D2, D3, e1, e2, e3, c_those a3 ok.1 (ok2.it M).2.1 2, f.scr (by omega), funext (fun j => f.1 241 j (by omega))⟩
theorem m_best1 {E : wd_D} {n M a b : Nat} {r : Rho} (hN : PNow E n r) (ha : a < n) (hb : b < n) (hM : M ≤ 60) : ∃ E1 E2 E3, f_X7_tries E = some E1 ∧ f_X7_swaps 189 (nI a) (nI b) E1 = some E2 ∧ f_X7_goesOn (nI M) E2 = some E3 ∧ f_X7_thoseWho 189 2 E3 = some (thS (itS (swS r a b) n M) n 2) ∧ Scr E E3 := by
  have ok := hN.2.2.1
  have hn := ok.1
  obtain ⟨E1, x1, y1, t1, -⟩ := m_try hN
  have ok2 := ok.swap ha hb
  obtain ⟨E2, x2, y2, u2⟩ := m_swap9 y1 (x := a) (y := b) (by omega) (by omega)
  obtain ⟨E3, x3, y3, u3⟩ := m_goes y2 ok2 (M := M) (by omega)
  exact ⟨E1, E2, E3, x1, x2, x3, m_those9 y3 (ok2.it M) 2, t1.tr (u2.scr.tr u3.scr)⟩
theorem b_inner {n M a : Nat} {r : Rho} (hM : M ≤ 60) (hn : n ≤ 7) (ha : a < n) (what : Int32) (m m' : Nat)
    (HO : ∀ D, PNow D n r → ∃ D', f_X1_planChange_L7 m 4 (nI M) (nI (a + 1)) D = some D' ∧ Scr D D' ∧ ∀ (E : wd_D) (be mo : Int32), PNow E n r → BRel False D be mo → ∃ E', f_X7_best_L32 m' (nI M) what be mo (nI (a + 1)) E = some (if what = 0 then D'.1 241 4 else D'.1 241 5, E') ∧ Scr E E') :
    ∀ d b mi mi' D, b + d = n → a < b → d < mi → d < mi' → PNow D n r → ∃ D', f_X1_planChange_L20 (f_X1_planChange_L7 m) mi 4 (nI M) (nI a) (nI b) D = some D' ∧ Scr D D' ∧ ∀ (E : wd_D) (be mo : Int32), PNow E n r → BRel (a = 0 ∧ b = 1 ∧ 2 ≤ n) D be mo → ∃ E', f_X7_best_L50 (f_X7_best_L32 m') mi' (nI M) what be mo (nI a) (nI b) E = some (if what = 0 then D'.1 241 4 else D'.1 241 5, E') ∧ Scr E E' := by
  intro d
  induction d with
  | zero =>
    intro b mi mi' D hb hab hmi hmi' hN
    have ok := hN.2.2.1
    obtain ⟨mi, rfl⟩ : ∃ z, mi = z + 1 := ⟨mi - 1, by omega⟩
    obtain ⟨mi', rfl⟩ : ∃ z, mi' = z + 1 := ⟨mi' - 1, by omega⟩
    rw [f_X1_planChange_L20, hN.1.f41, ok.2.1, if_pos ((le_nI (by omega) (by omega)).mpr (by omega))]
    simp only [ap, nI_1]
    obtain ⟨D', e, s, g⟩ := HO D hN
    refine ⟨D', e, s, fun E be mo hE hr => ?_⟩
    rw [f_X7_best_L50, hE.2.1.y41, Option.bind_some, ok.2.1, if_pos ((le_nI (by omega) (by omega)).mpr (by omega))]
    simp only [ap, nI_1]
    refine g E be mo hE ?_
    rcases hr with ⟨⟨z1, z2, z3⟩, -⟩ | z
    · omega
    · exact Or.inr z
  | succ d ih =>
    intro b mi mi' D hb hab hmi hmi' hN
    have ok := hN.2.2.1
    obtain ⟨mi, rfl⟩ : ∃ z, mi = z + 1 := ⟨mi - 1, by omega⟩
    obtain ⟨mi', rfl⟩ : ∃ z, mi' = z + 1 := ⟨mi' - 1, by omega⟩
    rw [f_X1_planChange_L20, hN.1.f41, ok.2.1, if_neg (fun z => by have := (le_nI (by omega) (by omega)).mp z; omega)]
    obtain ⟨D1, D2, D3, e1, e2, e3, e4, s3, p3⟩ := c_best1 (M := M) hN (a := a) (b := b) (by omega) (by omega) hM
    rw [e1, Option.bind_some, e2, Option.bind_some, e3, Option.bind_some, e4, Option.bind_some]
    simp only [ap]
    have hN3 := hN.scr s3
    generalize hmany : f_J6_bitCount_0f7a4 (thS (itS (swS r a b) n M) n 2) = many
    have hmp : (-1 : Int32) < many ∧ ¬ many ≤ -1000000 := by rw [← hmany]; exact bc_th hn
    have hones : f_X7_ones (thS (itS (swS r a b) n M) n 2) = some many := by rw [ones_th hn, hmany]
    have p4 : D3.1 241 4 = D.1 241 4 := by rw [p3]
    have p5 : D3.1 241 5 = D.1 241 5 := by rw [p3]
    have mstep : ∀ (E : wd_D) (be mo : Int32), PNow E n r → ∃ E3, Scr E E3 ∧ PNow E3 n r ∧ f_X7_best_L50 (f_X7_best_L32 m') (mi' + 1) (nI M) what be mo (nI a) (nI b) E = f_X7_best_L50 (f_X7_best_L32 m') mi' (nI M) what (if many ≤ mo then be else 10 * nI a + nI b) (if many ≤ mo then mo else many) (nI a) (nI (b + 1)) E3 := by
      intro E be mo hE
      obtain ⟨E1, E2, E3, x1, x2, x3, x4, t⟩ := m_best1 (M := M) hE (a := a) (b := b) (by omega) (by omega) hM
      refine ⟨E3, t, hE.scr t, ?_⟩
      rw [f_X7_best_L50, hE.2.1.y41, Option.bind_some, ok.2.1, if_neg (fun z => by have := (le_nI (by omega) (by omega)).mp z; omega), x1, Option.bind_some, x2, Option.bind_some, x3, Option.bind_some, x4, Option.bind_some, hones, Option.bind_some]
      by_cases hq : many ≤ mo
      · rw [if_pos hq, if_pos hq, if_pos hq, f_X7_best_L114, if_pos hq, f_X7_best_L129]
        simp only [ap, nI_1]
      · rw [if_neg hq, if_neg hq, if_neg hq, f_X7_best_L114, if_neg hq, f_X7_best_L129]
        simp only [ap, nI_1]
    rw [gI_e, p5]
    by_cases hq : many ≤ D.1 241 5
    · rw [if_pos hq, f_X1_planChange_L94]
      simp only [ap, nI_1]
      have n1 : ¬ D.1 241 5 = -1 := fun z => by rw [z] at hq; exact absurd hmp.1 (Int32.not_lt.mpr hq)
      obtain ⟨D', e, s, g⟩ := ih (b + 1) mi mi' D3 (by omega) (by omega) (by omega) (by omega) hN3
      refine ⟨D', e, s3.tr s, fun E be mo hE hr => ?_⟩
      obtain ⟨E3, t, hE3, x⟩ := mstep E be mo hE
      have hr2 : be = D.1 241 4 ∧ mo = D.1 241 5 := hr.resolve_left (fun z => n1 z.2.1)
      obtain ⟨E', x', t'⟩ := g E3 be mo hE3 (Or.inr ⟨by rw [p4]; exact hr2.1, by rw [p5]; exact hr2.2⟩)
      refine ⟨E', ?_, t.tr t'⟩
      rw [x, hr2.2, if_pos hq, if_pos hq, ← hr2.2]; exact x'
    · rw [if_neg hq, f_X1_planChange_L94]
      simp only [ap, nI_1]
      have s4 : Scr D3 (sI (sI D3 241 4 (10 * nI a + nI b)) 241 5 many) := scr241.tr scr241
      have q5 : (sI (sI D3 241 4 (10 * nI a + nI b)) 241 5 many).1 241 5 = many := sI_eq
      have q4 : (sI (sI D3 241 4 (10 * nI a + nI b)) 241 5 many).1 241 4 = 10 * nI a + nI b := by rw [sI_ne (by omega), sI_eq]
      obtain ⟨D', e, s, g⟩ := ih (b + 1) mi mi' _ (by omega) (by omega) (by omega) (by omega) (hN3.scr s4)
      refine ⟨D', e, (s3.tr s4).tr s, fun E be mo hE hr => ?_⟩
      obtain ⟨E3, t, hE3, x⟩ := mstep E be mo hE
      have hq2 : ¬ many ≤ mo := by
        rcases hr with ⟨-, -, z⟩ | ⟨-, z⟩
        · rw [z]; exact hmp.2
        · rw [z]; exact hq
      obtain ⟨E', x', t'⟩ := g E3 (10 * nI a + nI b) many hE3 (Or.inr ⟨q4.symm, q5.symm⟩)
      refine ⟨E', ?_, t.tr t'⟩
      rw [x, if_neg hq2, if_neg hq2]; exact x'
theorem b_outer {n M : Nat} {r : Rho} (hM : M ≤ 60) (hn : n ≤ 7) (what : Int32) : ∀ d a m m' D, a + d = n → d < m → d < m' → PNow D n r → ∃ D', f_X1_planChange_L7 m 4 (nI M) (nI a) D = some D' ∧ Scr D D' ∧ ∀ (E : wd_D) (be mo : Int32), PNow E n r → BRel (a = 0 ∧ 2 ≤ n) D be mo → ∃ E', f_X7_best_L32 m' (nI M) what be mo (nI a) E = some (if what = 0 then D'.1 241 4 else D'.1 241 5, E') ∧ Scr E E' := by
  intro d
  induction d with
  | zero =>
    intro a m m' D ha hm hm' hN
    have ok := hN.2.2.1
    obtain ⟨m, rfl⟩ : ∃ z, m = z + 1 := ⟨m - 1, by omega⟩
    obtain ⟨m', rfl⟩ : ∃ z, m' = z + 1 := ⟨m' - 1, by omega⟩
    rw [f_X1_planChange_L7, hN.1.f41, ok.2.1, if_pos ((le_nI (by omega) (by omega)).mpr (by omega))]
    refine ⟨D, rfl, Scr.rf, fun E be mo hE hr => ?_⟩
    rw [f_X7_best_L32, hE.2.1.y41, Option.bind_some, ok.2.1, if_pos ((le_nI (by omega) (by omega)).mpr (by omega))]
    obtain ⟨z1, z2⟩ : be = D.1 241 4 ∧ mo = D.1 241 5 := hr.resolve_left (fun z => by omega)
    rw [z1, z2]
    refine ⟨E, ?_, Scr.rf⟩
    split <;> rfl
  | succ d ih =>
    intro a m m' D ha hm hm' hN
    have ok := hN.2.2.1
    obtain ⟨m, rfl⟩ : ∃ z, m = z + 1 := ⟨m - 1, by omega⟩
    obtain ⟨m', rfl⟩ : ∃ z, m' = z + 1 := ⟨m' - 1, by omega⟩
    rw [f_X1_planChange_L7, hN.1.f41, ok.2.1, if_neg (fun z => by have := (le_nI (by omega) (by omega)).mp z; omega)]
    simp only [ap, nI_1]
    obtain ⟨D', e, s, g⟩ := b_inner hM hn (a := a) (by omega) what m m' (fun D1 hD1 => by
      obtain ⟨D', e, s, g⟩ := ih (a + 1) m m' D1 (by omega) (by omega) (by omega) hD1
      exact ⟨D', e, s, fun E be mo hE hr => g E be mo hE (by
        rcases hr with z | z
        · exact absurd z.1 (by simp)
        · exact Or.inr z)⟩) (n - (a + 1)) (a + 1) FU FU D (by omega) (by omega) (by unfold FU; omega) (by unfold FU; omega) hN
    refine ⟨D', e, s, fun E be mo hE hr => ?_⟩
    rw [f_X7_best_L32, hE.2.1.y41, Option.bind_some, ok.2.1, if_neg (fun z => by have := (le_nI (by omega) (by omega)).mp z; omega)]
    simp only [ap, nI_1]
    refine g E be mo hE ?_
    rcases hr with ⟨⟨z1, z2⟩, z3⟩ | z
    · exact Or.inl ⟨⟨z1, by omega, z2⟩, z3⟩
    · exact Or.inr z
theorem op_best {D : wd_D} (h : Inv D) (a b : Int32) : ∃ v D1 D2, f_X6_best a b D = some (v, D1) ∧ f_X7_best a b D1 = some (v, D2) ∧ Inv D2 := by
  obtain ⟨n, r, hN, -⟩ := h.2.2.2.2.1
  have ok := hN.2.2.1
  have hn := ok.1
  unfold f_X6_best
  rw [noRoom_e hN]
  by_cases e0 : n = 0
  · rw [if_pos e0, i10]
    refine ⟨_, D, D, rfl, ?_, h⟩
    unfold f_X7_best
    rw [isRoom_e hN, if_pos e0, Option.bind_some, i00]
  · rw [if_neg e0, i00]
    have ms : ∀ E, PNow E n r → f_X7_best a b E = if f_X6_beyond a 1 30 = 0 ∧ f_X6_beyond b 0 1 = 0 then f_X7_best_L32 FU a b (-1000000) (-1000000) 0 E else some (-1000001, E) := by
      intro E hE
      unfold f_X7_best
      rw [isRoom_e hE, if_neg e0, Option.bind_some, i10, look_e, ib]
    by_cases h1 : f_X6_beyond a 1 30 = 0
    · rw [if_pos h1]
      by_cases h2 : f_X6_beyond b 0 1 = 0
      · rw [if_pos h2, hN.1.f41, ok.2.1]
        obtain ⟨M, m1, m2, rfl⟩ := bey_nI (lo := 1) (hi := 30) (by decide) (by decide) h1
        by_cases hn2 : 2 ≤ n
        · rw [if_pos (show (2 : Int32) ≤ nI n from (le_nI (a := 2) (by omega) (by omega)).mpr hn2)]
          have s0 : Scr D (sI D 241 5 (-1)) := scr241
          have q5 : (sI D 241 5 (-1)).1 241 5 = -1 := sI_eq
          obtain ⟨D', e, s, g⟩ := b_outer (M := M) (r := r) (by omega) hn b n 0 FU FU (sI D 241 5 (-1)) (by omega) (by unfold FU; omega) (by unfold FU; omega) (hN.scr s0)
          have hN' := hN.scr (s0.tr s)
          obtain ⟨E', x, t⟩ := g D' (-1000000) (-1000000) hN' (Or.inl ⟨⟨rfl, hn2⟩, q5, rfl⟩)
          refine ⟨if b = 0 then D'.1 241 4 else D'.1 241 5, D', E', ?_, ?_, (h.scr (s0.tr s)).scr t⟩
          · unfold f_X1_planChange
            simp only [ap]
            rw [show f_X1_planChange_L7 FU 4 (nI M) 0 (sI D 241 5 (-1)) = some D' from e, Option.bind_some, gI_e, gI_e]
            split <;> rfl
          · rw [ms D' hN', if_pos ⟨h1, h2⟩]; exact x
        · rw [if_neg (show ¬ (2 : Int32) ≤ nI n from fun z => hn2 ((le_nI (a := 2) (by omega) (by omega)).mp z))]
          refine ⟨_, D, D, rfl, ?_, h⟩
          have n1 : n = 1 := by omega
          subst n1
          rw [ms D hN, if_pos ⟨h1, h2⟩, show FU = 998 + 1 + 1 from rfl, f_X7_best_L32, hN.2.1.y41, Option.bind_some, ok.2.1, if_neg (by decide)]
          simp only [ap]
          rw [show FU = 999 + 1 from rfl, f_X7_best_L50, hN.2.1.y41, Option.bind_some, ok.2.1, if_pos (by decide)]
          simp only [ap]
          rw [f_X7_best_L32, hN.2.1.y41, Option.bind_some, ok.2.1, if_pos (by decide)]
          split <;> rfl
      · rw [if_neg h2]
        exact ⟨_, D, D, rfl, by rw [ms D hN, if_neg (fun z => h2 z.2)], h⟩
    · rw [if_neg h1]
      exact ⟨_, D, D, rfl, by rw [ms D hN, if_neg (fun z => h1 z.1)], h⟩
