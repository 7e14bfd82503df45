/-! foretold, fourth part: outs, best -/
def pop (k : Nat) : Nat := k % 2 + k / 2 % 2 + k / 4 % 2 + k / 8 % 2 + k / 16 % 2 + k / 32 % 2 + k / 64 % 2
theorem bc_pop : ∀ k, k < 128 → f_J6_bitCount_0f7a4 (nI k) = nI (pop k) := by decide +kernel
theorem pop_le : ∀ k, k < 128 → pop k ≤ 7 := by decide +kernel
theorem pop_lt : ∀ n, n ≤ 7 → ∀ a, a < 2 ^ n → ∀ k, k < 2 ^ n → k &&& a = 0 → k ≠ 2 ^ n - 1 - a → pop k < pop (2 ^ n - 1 - a) := by decide +kernel
theorem full_e : ∀ n, n ≤ 7 → ∀ a, a < 2 ^ n → nI (2 ^ n - 1) &&& (nI a ^^^ (-1)) = nI (2 ^ n - 1 - a) ∧ (2 ^ n - 1 - a) &&& a = 0 ∧ a ||| (2 ^ n - 1 - a) = 2 ^ n - 1 := by decide +kernel
theorem and_nt (x y : Int32) : (x &&& (x ^^^ (-1))) &&& y = 0 := by
  apply b_ext
  intro i hi
  show hb _ i = hb 0 i
  rw [hb_and, hb_and, hb_not hi, hb_0]
  cases hb x i <;> simp
theorem al_full {r : Rho} {n M : Nat} (ok : Ok n r) : alS (itS (upd r 36 (nI (2 ^ n - 1))) n M) n = 0 := by
  have hn := ok.1
  unfold alS
  have e1 : evS (itS (upd r 36 (nI (2 ^ n - 1))) n M) = nI (2 ^ n - 1) := by
    have : evS (itS (upd r 36 (nI (2 ^ n - 1))) n M) = evS r := by
      unfold evS
      rw [itS_out hn (by decide) (by omega), upd_n (by decide)]
    rw [this, evS_nI ok]
  rw [e1, itS_out hn (by decide) (by omega), upd_s]
  exact and_nt _ _
theorem c_out1 {D : wd_D} {n M a k : Nat} {r : Rho} (hN : PNow D n r) (ha : r 36 = nI a) (hak : a ||| k < 2 ^ n) (hM : M ≤ 60) : ∃ D1 D2, f_X3_become 242 4 D = some D1 ∧ f_X3_passMinutes 242 (nI M) (sI D1 242 5 ((gI D1 242 5) ||| nI k)) = some D2 ∧ f_X3_sleepAll 242 ((f_X3_everybody 242 D2) &&& ((gI D2 242 5) ^^^ (-1))) D2 = some (if alS (itS (upd r 36 (nI (a ||| k))) n M) n = 0 then 1 else 0) ∧ Scr D D2 := by
  have ok := hN.2.2.1
  obtain ⟨D1, e1, a1, f1⟩ := c_become' (t := 242) hN.1 ok.1 (by omega)
  have ok2 := ok.outs hak
  have a2 := a1.v36 (nI (a ||| k))
  obtain ⟨D2, e2, a3, f2⟩ := c_mins a2 ok2 (M := M) (by omega)
  refine ⟨D1, D2, e1, ?_, ?_, ((f1.tr Fr.s0).tr f2).scr (by omega)⟩
  · rw [a1.f36, ha, fa_or]; exact e2
  · rw [c_every a3, a3.f36, c_all a3 (ok2.it M)]; rfl
theorem m_out1 {E : wd_D} {n M a k : Nat} {r : Rho} (hN : PNow E n r) (ha : r 36 = nI a) (hak : a ||| k < 2 ^ n) (hM : M ≤ 60) : ∃ E2, Scr E E2 ∧ PNow E2 n r ∧ ∀ (k28 : Int32 → Int32 → Int32 → Int32 → wd_D → Option (Int32 × wd_D)) (what be : Int32), f_X7_outs_L73 k28 (nI M) what be (nI k) E = k28 (nI M) what (if alS (itS (upd r 36 (nI (a ||| k))) n M) n = 0 then nI k else be) (nI k + 1) E2 := by
  have ok := hN.2.2.1
  obtain ⟨E1, x1, y1, t1, -⟩ := m_try hN
  have ok2 := ok.outs hak
  have y2 := y1.up 36 (nI (a ||| k))
  obtain ⟨E2, x2, y3, u2⟩ := m_goes y2 ok2 (M := M) (by omega)
  have t2 : Scr E E2 := t1.tr ((FrN.s (b := 189) (j := 36) (by omega)).scr.tr u2.scr)
  refine ⟨E2, t2, hN.scr t2, fun k28 what be => ?_⟩
  unfold f_X7_outs_L73
  rw [x1, Option.bind_some, show (225 : Int32) = nI 225 from rfl, rd_nI E1 371 (show 225 < 252 by omega), Option.bind_some, show E1.1 371 225 = r 36 from y1 36 (by omega), ha, fa_or, wr_nI E1 371 _ (show 225 < 252 by omega), Option.bind_some, x2, Option.bind_some, m_all9 y3 (ok2.it M), Option.bind_some, ib]
  split <;> rfl
theorem o_loop {n M a : Nat} {r : Rho} (hM : M ≤ 60) (hn : n ≤ 7) (ha : r 36 = nI a) (ha2 : a < 2 ^ n) (m' : Nat) : ∀ d k m D f, k + d = 2 ^ n → d < m → PNow D n r → f < 2 ^ n → ∃ g D', f_X1_fewestOut_L15 m 4 (nI M) (nI f) (nI k) D = some (nI g, D') ∧ g < 2 ^ n ∧ Scr D D' ∧ ∀ (E : wd_D) (what be : Int32) (m2 : Nat), d < m2 → PNow E n r → (be = -1000000 ∧ f = 2 ^ n - 1 - a ∧ k ≤ 2 ^ n - 1 - a ∨ be = nI f) → ∃ E', f_X7_outs_L28 m2 (nI M) what be (nI k) E = some (if what = 0 then f_J6_bitCount_0f7a4 (nI g) else nI g, E') ∧ Scr E E' := by
  have h128 := pow_le7 hn
  have hp1 : 0 < 2 ^ n := Nat.pos_of_ne_zero (by simp)
  obtain ⟨fe1, fe2, fe3⟩ := full_e n hn a ha2
  intro d
  induction d with
  | zero =>
    intro k m D f hk hm hN hf
    have ok := hN.2.2.1
    obtain ⟨m, rfl⟩ : ∃ m', m = m' + 1 := ⟨m - 1, by omega⟩
    rw [f_X1_fewestOut_L15, c_every hN.1, evS_nI ok, if_pos ((lt_nI (by omega) (by omega)).mpr (by omega))]
    refine ⟨f, D, rfl, hf, Scr.rf, fun E what be m2 hm2 hE hbe => ?_⟩
    obtain ⟨m2, rfl⟩ : ∃ m3, m2 = m3 + 1 := ⟨m2 - 1, by omega⟩
    have hbe' : be = nI f := hbe.resolve_left (fun z => by omega)
    rw [f_X7_outs_L28, hE.2.1.y41, Option.bind_some, pow_nI ok, if_pos ((le_nI (by omega) (by omega)).mpr (by omega)), hbe', ones_e f (by omega), Option.bind_some]
    refine ⟨E, ?_, Scr.rf⟩
    split <;> rfl
  | succ d ih =>
    intro k m D f hk hm hN hf
    have ok := hN.2.2.1
    obtain ⟨m, rfl⟩ : ∃ m', m = m' + 1 := ⟨m - 1, by omega⟩
    have hk128 : k < 128 := by omega
    rw [f_X1_fewestOut_L15, c_every hN.1, evS_nI ok, if_neg (fun z => by have := (lt_nI (by omega) (by omega)).mp z; omega), hN.1.f36, ha, fa_and]
    have mhead : ∀ (E : wd_D) (what be : Int32) m2, PNow E n r → f_X7_outs_L28 (m2 + 1) (nI M) what be (nI k) E = if nI (k &&& a) = 0 then (if be = (-1000000) then f_X7_outs_L73 (f_X7_outs_L28 m2) (nI M) what be (nI k) E else (f_X7_ones be).bind (fun x12 => (if x12 ≤ f_J6_bitCount_0f7a4 (nI k) then f_X7_outs_L112 (f_X7_outs_L28 m2) (nI M) what be (nI k) E else f_X7_outs_L73 (f_X7_outs_L28 m2) (nI M) what be (nI k) E))) else f_X7_outs_L112 (f_X7_outs_L28 m2) (nI M) what be (nI k) E := by
      intro E what be m2 hE
      rw [f_X7_outs_L28, hE.2.1.y41, Option.bind_some, pow_nI ok, if_neg (fun z => by have := (le_nI (by omega) (by omega)).mp z; omega), hE.2.1.y36, Option.bind_some, ha, fa_and, ones_e k hk128, Option.bind_some]
    have hka : k &&& a < 1000 := Nat.lt_of_le_of_lt Nat.and_le_left (by omega)
    by_cases hd0 : k &&& a = 0
    · have hd0' : nI (k &&& a) = 0 := by rw [hd0]; rfl
      have hak : a ||| k < 2 ^ n := Nat.or_lt_two_pow ha2 (by omega)
      rw [if_pos hd0', bc_pop f (by omega), bc_pop k hk128]
      have p1 := pop_le f (by omega)
      have p2 := pop_le k hk128
      by_cases hs : pop f ≤ pop k
      · -- the class skips
        rw [if_pos ((le_nI (by omega) (by omega)).mpr hs), f_X1_fewestOut_L110]
        simp only [ap, nI_1]
        obtain ⟨g, D', e, hg, s, G⟩ := ih (k + 1) m D f (by omega) (by omega) hN hf
        refine ⟨g, D', e, hg, s, fun E what be m2 hm2 hE hbe => ?_⟩
        obtain ⟨m2, rfl⟩ : ∃ m3, m2 = m3 + 1 := ⟨m2 - 1, by omega⟩
        rw [mhead E what be m2 hE, if_pos hd0']
        rcases hbe with ⟨b1, b2, b3⟩ | b1
        · -- so it is the full set itself
          have hkF : k = 2 ^ n - 1 - a := by
            apply Classical.byContradiction
            intro z
            have := pop_lt n hn a ha2 k (by omega) hd0 z
            rw [← b2] at this
            omega
          rw [if_pos b1]
          obtain ⟨E2, t, hE2, x⟩ := m_out1 (M := M) hE ha hak hM
          rw [x]
          have hal : alS (itS (upd r 36 (nI (a ||| k))) n M) n = 0 := by
            rw [hkF, fe3]; exact al_full ok
          rw [if_pos hal, nI_1]
          obtain ⟨E', x', t'⟩ := G E2 what (nI k) m2 (by omega) hE2 (Or.inr (by rw [b2, hkF]))
          exact ⟨E', x', t.tr t'⟩
        · have hne : ¬ be = -1000000 := fun z => by
            rw [b1] at z
            have e1 := congrArg Int32.toInt z
            rw [nI_toInt (by omega), show (-1000000 : Int32).toInt = -1000000 by decide] at e1
            omega
          rw [if_neg hne, b1, ones_e f (by omega), Option.bind_some, bc_pop f (by omega), bc_pop k hk128, if_pos ((le_nI (by omega) (by omega)).mpr hs), f_X7_outs_L112]
          simp only [ap, nI_1]
          exact G E what (nI f) m2 (by omega) hE (Or.inr rfl)
      · rw [if_neg (fun z => hs ((le_nI (by omega) (by omega)).mp z))]
        obtain ⟨D1, D2, e1, e2, e3, s2⟩ := c_out1 (M := M) (k := k) hN ha hak hM
        rw [e1, Option.bind_some]
        simp only [ap]
        rw [e2, Option.bind_some, e3, Option.bind_some, ib]
        have fin : ∀ f' : Nat, f' < 2 ^ n → nI f' = (if alS (itS (upd r 36 (nI (a ||| k))) n M) n = 0 then nI k else nI f) → (f' = k ∨ f' = f) → (alS (itS (upd r 36 (nI (a ||| k))) n M) n = 0 → f' = k) → (¬ alS (itS (upd r 36 (nI (a ||| k))) n M) n = 0 → f' = f) → ∃ g D', f_X1_fewestOut_L109 (f_X1_fewestOut_L15 m) 4 (nI M) (nI k) (nI f') D2 = some (nI g, D') ∧ g < 2 ^ n ∧ Scr D D' ∧ ∀ (E : wd_D) (what be : Int32) (m2 : Nat), d + 1 < m2 → PNow E n r → (be = -1000000 ∧ f = 2 ^ n - 1 - a ∧ k ≤ 2 ^ n - 1 - a ∨ be = nI f) → ∃ E', f_X7_outs_L28 m2 (nI M) what be (nI k) E = some (if what = 0 then f_J6_bitCount_0f7a4 (nI g) else nI g, E') ∧ Scr E E' := by
          intro f' hf' hv hor hy1 hy2
          unfold f_X1_fewestOut_L109 f_X1_fewestOut_L110
          simp only [ap, nI_1]
          obtain ⟨g, D', e, hg, s, G⟩ := ih (k + 1) m D2 f' (by omega) (by omega) (hN.scr s2) hf'
          refine ⟨g, D', e, hg, s2.tr s, fun E what be m2 hm2 hE hbe => ?_⟩
          obtain ⟨m2, rfl⟩ : ∃ m3, m2 = m3 + 1 := ⟨m2 - 1, by omega⟩
          obtain ⟨E2, t, hE2, x⟩ := m_out1 (M := M) hE ha hak hM
          rw [mhead E what be m2 hE, if_pos hd0']
          have go : ∃ E', f_X7_outs_L73 (f_X7_outs_L28 m2) (nI M) what be (nI k) E = some (if what = 0 then f_J6_bitCount_0f7a4 (nI g) else nI g, E') ∧ Scr E E' := by
            rw [x, nI_1]
            obtain ⟨E', x', t'⟩ := G E2 what (if alS (itS (upd r 36 (nI (a ||| k))) n M) n = 0 then nI k else be) m2 (by omega) hE2 (by
              by_cases hq : alS (itS (upd r 36 (nI (a ||| k))) n M) n = 0
              · rw [if_pos hq, hy1 hq]; exact Or.inr rfl
              · rw [if_neg hq, hy2 hq]
                rcases hbe with ⟨b1, b2, b3⟩ | b1
                · refine Or.inl ⟨b1, b2, ?_⟩
                  have : k ≠ 2 ^ n - 1 - a := fun z => by rw [b2, ← z] at hs; omega
                  omega
                · exact Or.inr b1)
            exact ⟨E', x', t.tr t'⟩
          rcases hbe with ⟨b1, b2, b3⟩ | b1
          · rw [if_pos b1]; exact go
          · have hne : ¬ be = -1000000 := fun z => by
              rw [b1] at z
              have e1 := congrArg Int32.toInt z
              rw [nI_toInt (by omega), show (-1000000 : Int32).toInt = -1000000 by decide] at e1
              omega
            have ho : f_X7_ones be = some (nI (pop f)) := by rw [b1, ones_e f (by omega), bc_pop f (by omega)]
            rw [if_neg hne, ho, Option.bind_some, bc_pop k hk128, if_neg (fun z => hs ((le_nI (by omega) (by omega)).mp z))]
            exact go
        by_cases hq : alS (itS (upd r 36 (nI (a ||| k))) n M) n = 0
        · rw [if_pos hq]
          exact fin k (by omega) (by rw [if_pos hq]) (Or.inl rfl) (fun _ => rfl) (fun z => absurd hq z)
        · rw [if_neg hq]
          exact fin f hf (by rw [if_neg hq]) (Or.inr rfl) (fun z => absurd z hq) (fun _ => rfl)
    · have hd0' : ¬ nI (k &&& a) = 0 := fun z => hd0 ((eq_nI (a := k &&& a) (b := 0) (by omega) (by omega)).mp z)
      rw [if_neg hd0', f_X1_fewestOut_L110]
      simp only [ap, nI_1]
      obtain ⟨g, D', e, hg, s, G⟩ := ih (k + 1) m D f (by omega) (by omega) hN hf
      refine ⟨g, D', e, hg, s, fun E what be m2 hm2 hE hbe => ?_⟩
      obtain ⟨m2, rfl⟩ : ∃ m3, m2 = m3 + 1 := ⟨m2 - 1, by omega⟩
      rw [mhead E what be m2 hE, if_neg hd0', f_X7_outs_L112]
      simp only [ap, nI_1]
      refine G E what be m2 (by omega) hE ?_
      rcases hbe with ⟨b1, b2, b3⟩ | b1
      · refine Or.inl ⟨b1, b2, ?_⟩
        have : k ≠ 2 ^ n - 1 - a := fun z => hd0 (by rw [z]; exact fe2)
        omega
      · exact Or.inr b1
theorem op_outs {D : wd_D} (h : Inv D) (a b : Int32) : ∃ v D1 D2, f_X6_outs a b D = some (v, D1) ∧ f_X7_outs a b D1 = some (v, D2) ∧ Inv D2 := by
  obtain ⟨n, r, hN, -⟩ := h.2.2.2.2.1
  have ok := hN.2.2.1
  have hn := ok.1
  have h128 := pow_le7 hn
  unfold f_X6_outs
  rw [noRoom_e hN]
  by_cases e0 : n = 0
  · rw [if_pos e0, i10]
    refine ⟨_, D, D, rfl, ?_, h⟩
    unfold f_X7_outs
    rw [isRoom_e hN, if_pos e0, Option.bind_some, i00]
  · rw [if_neg e0, i00]
    have ms : ∀ E, PNow E n r → f_X7_outs a b E = if f_X6_beyond a 1 30 = 0 ∧ f_X6_beyond b 0 1 = 0 then f_X7_outs_L28 FU a b (-1000000) 0 E else some (-1000001, E) := by
      intro E hE
      unfold f_X7_outs
      rw [isRoom_e hE, if_neg e0, Option.bind_some, i10, look_e, ib]
    by_cases h1 : f_X6_beyond a 1 30 = 0
    · rw [if_pos h1]
      by_cases h2 : f_X6_beyond b 0 1 = 0
      · rw [if_pos h2]
        obtain ⟨M, m1, m2, rfl⟩ := bey_nI (lo := 1) (hi := 30) (by decide) (by decide) h1
        obtain ⟨aw, aw1, aw2⟩ := ok.2.2.1
        obtain ⟨fe1, fe2, fe3⟩ := full_e n hn aw aw1
        obtain ⟨g, D', e, hg, s, G⟩ := o_loop (M := M) (r := r) (by omega) hn aw2 aw1 FU (2 ^ n) 0 FU D (2 ^ n - 1 - aw) (by omega) (by unfold FU; omega) hN (by omega)
        have hN' := hN.scr s
        obtain ⟨E', x, t⟩ := G D' b (-1000000) FU (by unfold FU; omega) hN' (Or.inl ⟨rfl, rfl, by omega⟩)
        refine ⟨if b = 0 then f_J6_bitCount_0f7a4 (nI g) else nI g, D', E', ?_, ?_, (h.scr s).scr t⟩
        · unfold f_X1_fewestOut
          simp only [ap]
          rw [c_every hN.1, evS_nI ok, hN.1.f36, aw2, fe1, show f_X1_fewestOut_L15 FU 4 (nI M) (nI (2 ^ n - 1 - aw)) 0 D = some (nI g, D') from e, Option.bind_some]
          split <;> rfl
        · rw [ms D' hN', if_pos ⟨h1, h2⟩]; exact x
      · rw [if_neg h2]
        exact ⟨_, D, D, rfl, by rw [ms D hN, if_neg (fun z => h2 z.2)], h⟩
    · rw [if_neg h1]
      exact ⟨_, D, D, rfl, by rw [ms D hN, if_neg (fun z => h1 z.1)], h⟩
