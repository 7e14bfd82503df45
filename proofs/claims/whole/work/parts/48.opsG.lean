/-! findings; who, held -/
def Inv2 (D : wd_D) : Prop := D.1 0 8 = D.1 370 10 ∧ PTape D ∧ (∀ i, i < 8 → PRow D i) ∧ (∃ n r, PNow D n r ∧ PPast D n r) ∧ (∀ k, k < 2 → PImg D k) ∧ PAsk D
theorem Inv.two {D : wd_D} (h : Inv D) : Inv2 D := h.2
theorem Inv2.of {D : wd_D} (h : Inv2 D) (e : D.1 0 9 = D.1 370 7) : Inv D := ⟨e, h⟩
theorem Inv2.at {D E : wd_D} (h : Inv2 D) (e : ∀ k j, live k j → ¬ (k = 0 ∧ j = 9) → ¬ (k = 370 ∧ j = 7) → E.1 k j = D.1 k j) : Inv2 E := by
  obtain ⟨h2, h3, h4, ⟨n, r, h5, h6⟩, h7, h8⟩ := h
  refine ⟨by rw [e _ _ (by simp [live]) (by omega) (by omega), e _ _ (by simp [live]) (by omega) (by omega)]; exact h2, h3.at (fun k j z => e k j (by unfold live; omega) (by omega) (by omega)), fun i hi => (h4 i hi).at hi (fun k j z => e k j (by unfold live; omega) (by omega) (by omega)), ⟨n, r, h5.at (fun k j z => e k j (by unfold live; omega) (by omega) (by omega)), h6.at h5.2.2.1.1 (fun _ _ => rfl) (fun k j z => e k j (by unfold live; omega) (by omega) (by omega))⟩, fun i hi => (h7 i hi).at hi (fun k j z => e k j (by unfold live; omega) (by omega) (by omega)), h8.at (fun k j z => e k j (by unfold live; omega) (by omega) (by omega))⟩
theorem Inv2.scr {D E : wd_D} (h : Inv2 D) (g : Scr D E) : Inv2 E := h.at (fun k j hl _ _ => g k j hl)
theorem Inv2.s0 {D : wd_D} {v : Int32} (h : Inv2 D) : Inv2 (sI D 0 9 v) := h.at (fun k j _ h1 _ => sI_ne h1)
theorem Inv2.s7 {D : wd_D} {v : Int32} (h : Inv2 D) : Inv2 (sI D 370 7 v) := h.at (fun k j _ _ h1 => sI_ne h1)
/-- both say the same finding -/
theorem found_both {D : wd_D} (h : Inv2 D) (x : Int32) : (f_X6_found x D) = (-1000010 - x, sI D 0 9 x) ∧ ∀ E, f_X7_found x E = (-1000010 - x, sI E 370 7 x) := ⟨rfl, fun _ => rfl⟩
theorem Inv2.fin {D : wd_D} (h : Inv2 D) (x : Int32) : Inv (sI (sI D 0 9 x) 370 7 x) := h.s0.s7.of (by rw [sI_eq, sI_ne (by omega), sI_eq])
theorem lack_yes {D : wd_D} {t I T sz : Nat} (hs : D.1 t 2 = nI sz) (hsz : sz ≤ 40) (h : I + T ≤ sz) : f_X4_lacks t (nI I) (nI T) D = 0 ∧ f_X7_fits (nI I) (nI T) (nI sz) = 1 := by
  constructor
  · unfold f_X4_lacks
    rw [if_neg (nI_pos (by omega)), if_neg (nI_pos (by omega)), gI_e, hs, pk_sub (by omega), if_pos ((le_nI (by omega) (by omega)).mpr (by omega))]
  · unfold f_X7_fits
    rw [if_neg (nI_pos (by omega)), nI_l (by omega), nI_l (by omega), nI_l (by omega), lN_add, if_neg (fun z => by
      have := (lN_lt (by omega) (by omega)).mp ((cmp_gt _ _).mp z)
      omega)]
theorem lack_no {D : wd_D} {t sz : Nat} {a b : Int32} (hs : D.1 t 2 = nI sz) (hsz : sz ≤ 40) (h : ¬ ∃ I T, a = nI I ∧ b = nI T ∧ I + T ≤ sz) : f_X4_lacks t a b D = 1 ∧ (¬ b < 0 → f_X7_fits a b (nI sz) = 0) := by
  have e2 : (nI sz).toInt = (sz : Int) := nI_toInt (by omega)
  have ra := fb_rng a
  have rb := fb_rng b
  have z0 : (0 : Int32).toInt = 0 := by decide
  have key : ¬ (0 ≤ a.toInt ∧ 0 ≤ b.toInt ∧ a.toInt + b.toInt ≤ sz) := by
    intro ⟨k1, k2, k3⟩
    refine h ⟨a.toInt.toNat, b.toInt.toNat, ?_, ?_, by omega⟩
    · rw [fa_eq, nI_toInt (by omega)]; omega
    · rw [fa_eq, nI_toInt (by omega)]; omega
  constructor
  · unfold f_X4_lacks
    by_cases c1 : b < 0
    · rw [if_pos c1]
    · rw [if_neg c1]
      by_cases c2 : a < 0
      · rw [if_pos c2]
      · rw [if_neg c2, gI_e, hs]
        rw [fa_lt, z0] at c1 c2
        have e3 : (nI sz - b).toInt = (sz : Int) - b.toInt := by
          rw [fb_subI (by rw [e2]; omega) (by rw [e2]; omega), e2]
        rw [if_neg (fun z => by rw [fa_le, e3] at z; exact key ⟨by omega, by omega, by omega⟩)]
  · intro c1
    unfold f_X7_fits
    by_cases c2 : a < 0
    · rw [if_pos c2]
    · rw [if_neg c2]
      rw [fa_lt, z0] at c1 c2
      have ea : a = nI a.toInt.toNat := by rw [fa_eq, nI_toInt (by omega)]; omega
      have eb : b = nI b.toInt.toNat := by rw [fa_eq, nI_toInt (by omega)]; omega
      rw [if_pos]
      rw [cmp_gt, fa_lt64]
      have f1 : a.toInt64.toInt = a.toInt := Int32.toInt_toInt64 a
      have f2 : b.toInt64.toInt = b.toInt := Int32.toInt_toInt64 b
      have f3 : (nI sz).toInt64.toInt = (sz : Int) := by rw [Int32.toInt_toInt64, e2]
      rw [f3, Int64.toInt_add, f1, f2, Int.bmod_eq_of_le (by omega) (by omega)]
      apply Classical.byContradiction
      intro z
      exact key ⟨by omega, by omega, by omega⟩
/-- a row that is told fits: the class's trial -/
theorem c_so {n T : Nat} {r : Rho} {tl : Nat → Int32} (ok : Ok n r) (hT : T ≤ 12) : ∀ d i m D, i + d = T → d < m → RepC D 242 n (itS r n i) → D.1 241 3 = nI T → (∀ j, j < T → D.1 252 j = tl j) → ∃ b D', f_X1_goesAsTold_L2 m (nI i) D = some (b, D') ∧ Fr 242 D D' ∧ ((b = 1 ∧ ∀ j, i ≤ j → j < T → thS (itS r n (j + 1)) n 2 = tl j) ∨ (b = 0 ∧ ¬ ∀ j, i ≤ j → j < T → thS (itS r n (j + 1)) n 2 = tl j)) := by
  intro d
  induction d with
  | zero =>
    intro i m D hi hm h h3 ht
    obtain ⟨m, rfl⟩ : ∃ m', m = m' + 1 := ⟨m - 1, by omega⟩
    rw [f_X1_goesAsTold_L2, gI_e, h3, if_pos ((le_nI (by omega) (by omega)).mpr (by omega))]
    exact ⟨1, D, rfl, Fr.rf, Or.inl ⟨rfl, fun j h1 h2 => by omega⟩⟩
  | succ d ih =>
    intro i m D hi hm h h3 ht
    obtain ⟨m, rfl⟩ : ∃ m', m = m' + 1 := ⟨m - 1, by omega⟩
    rw [f_X1_goesAsTold_L2, gI_e, h3, if_neg (fun z => by have := (le_nI (by omega) (by omega)).mp z; omega)]
    obtain ⟨b, D1, e1, a1, f1, -, -⟩ := c_pass h (ok.it i)
    have a1' : RepC D1 242 n (itS r n (i + 1)) := a1
    rw [e1, Option.bind_some, c_those a1' ok.1 (ok.it (i + 1)).2.1, Option.bind_some, rd_nI D1 252 (show i < 12 by omega), Option.bind_some, f1.1 252 i (by omega), ht i (by omega)]
    by_cases hq : thS (itS r n (i + 1)) n 2 = tl i
    · rw [if_pos hq]
      simp only [ap, nI_1]
      obtain ⟨b', D', e, f2, g⟩ := ih (i + 1) m D1 (by omega) (by omega) a1' (by rw [f1.1 241 3 (by omega)]; exact h3) (fun j hj => by rw [f1.1 252 j (by omega)]; exact ht j hj)
      refine ⟨b', D', e, f1.tr f2, ?_⟩
      rcases g with ⟨g1, g2⟩ | ⟨g1, g2⟩
      · refine Or.inl ⟨g1, fun j h1 h2 => ?_⟩
        by_cases e : j = i
        · subst e; exact hq
        · exact g2 j (by omega) h2
      · exact Or.inr ⟨g1, fun z => g2 (fun j h1 h2 => z j (by omega) h2)⟩
    · rw [if_neg hq]
      exact ⟨0, D1, rfl, f1, Or.inr ⟨rfl, fun z => hq (z i (by omega) (by omega))⟩⟩
theorem m_so {n T P : Nat} {r : Rho} {tl : Nat → Int32} (ok : Ok n r) (hT : T ≤ 12) (hP : P + T ≤ 320) : ∀ d i m E (fl : Int32), i + d = T → d < m → RepM E 189 (itS r n i) → (∀ j, j < T → E.1 374 (P + j) = tl j) → (fl = 0 ∨ fl = 1) → ∃ b E', f_X7_isSo_L5 m (nI P) (nI T) fl (nI i) E = some (b, E') ∧ FrM 189 E E' ∧ ((b = 1 ∧ fl = 1 ∧ ∀ j, i ≤ j → j < T → thS (itS r n (j + 1)) n 2 = tl j) ∨ (b = 0 ∧ ¬ (fl = 1 ∧ ∀ j, i ≤ j → j < T → thS (itS r n (j + 1)) n 2 = tl j))) := by
  intro d
  induction d with
  | zero =>
    intro i m E fl hi hm h ht hf
    obtain ⟨m, rfl⟩ : ∃ m', m = m' + 1 := ⟨m - 1, by omega⟩
    have hbo : bo fl = some fl := by unfold bo; rw [if_pos hf]
    rw [f_X7_isSo_L5, if_pos ((le_nI (by omega) (by omega)).mpr (by omega)), hbo, Option.bind_some]
    refine ⟨fl, E, rfl, FrM.rf, ?_⟩
    rcases hf with rfl | rfl
    · exact Or.inr ⟨rfl, fun z => absurd z.1 (by decide)⟩
    · exact Or.inl ⟨rfl, rfl, fun j h1 h2 => by omega⟩
  | succ d ih =>
    intro i m E fl hi hm h ht hf
    obtain ⟨m, rfl⟩ : ∃ m', m = m' + 1 := ⟨m - 1, by omega⟩
    rw [f_X7_isSo_L5, if_neg (fun z => by have := (le_nI (by omega) (by omega)).mp z; omega)]
    obtain ⟨E1, e1, a1, f1⟩ := m_pass9 h (ok.it i)
    have a1' : RepM E1 189 (itS r n (i + 1)) := a1
    rw [e1, Option.bind_some]
    have ht1 : ∀ j, j < T → E1.1 374 (P + j) = tl j := fun j hj => by rw [f1.1 374 (P + j) (by decide) (fun z => absurd z (by decide))]; exact ht j hj
    have go : ∀ fl' : Int32, (fl' = 0 ∨ fl' = 1) → (fl' = 1 ↔ (fl = 1 ∧ thS (itS r n (i + 1)) n 2 = tl i)) → ∃ b E', f_X7_isSo_L47 (f_X7_isSo_L5 m) (nI P) (nI T) (nI i) fl' E1 = some (b, E') ∧ FrM 189 E E' ∧ ((b = 1 ∧ fl = 1 ∧ ∀ j, i ≤ j → j < T → thS (itS r n (j + 1)) n 2 = tl j) ∨ (b = 0 ∧ ¬ (fl = 1 ∧ ∀ j, i ≤ j → j < T → thS (itS r n (j + 1)) n 2 = tl j))) := by
      intro fl' h01 hiff
      unfold f_X7_isSo_L47
      simp only [ap, nI_1]
      obtain ⟨b, E', e, f2, g⟩ := ih (i + 1) m E1 fl' (by omega) (by omega) a1' ht1 h01
      refine ⟨b, E', e, f1.tr f2, ?_⟩
      rcases g with ⟨g1, g2, g3⟩ | ⟨g1, g2⟩
      · obtain ⟨k1, k2⟩ := hiff.mp g2
        refine Or.inl ⟨g1, k1, fun j h1 h2 => ?_⟩
        by_cases e : j = i
        · subst e; exact k2
        · exact g3 j (by omega) h2
      · refine Or.inr ⟨g1, fun z => g2 ⟨hiff.mpr ⟨z.1, z.2 i (by omega) (by omega)⟩, fun j h1 h2 => z.2 j (by omega) h2⟩⟩
    rcases hf with rfl | rfl
    · rw [i00, f_X7_isSo_L46]
      exact go 0 (Or.inl rfl) ⟨fun z => absurd z (by decide), fun z => absurd z.1 (by decide)⟩
    · rw [i10, m_those9 a1' (ok.it (i + 1)), Option.bind_some, nI_add, rd_nI E1 374 (show P + i < 320 by omega), Option.bind_some, ht1 i (by omega)]
      by_cases hq : thS (itS r n (i + 1)) n 2 = tl i
      · rw [if_pos hq]
        exact go 1 (Or.inr rfl) ⟨fun _ => ⟨rfl, hq⟩, fun _ => rfl⟩
      · rw [if_neg hq, f_X7_isSo_L46]
        exact go 0 (Or.inl rfl) ⟨fun z => absurd z (by decide), fun z => absurd z.2 hq⟩
/-- one trial, on either side: the same answer -/
theorem so_both {n T P : Nat} {r : Rho} {tl : Nat → Int32} (ok : Ok n r) (hT : T ≤ 12) (hP : P + T ≤ 320) : ∃ b : Int32, (b = 0 ∨ b = 1) ∧ (∀ D, RepC D 242 n r → D.1 241 3 = nI T → (∀ j, j < T → D.1 252 j = tl j) → ∃ D', f_X1_goesAsTold D = some (b, D') ∧ Fr 242 D D') ∧ (∀ E, RepM E 189 r → (∀ j, j < T → E.1 374 (P + j) = tl j) → ∃ E', f_X7_isSo (nI P) (nI T) E = some (b, E') ∧ FrM 189 E E') := by
  rcases Classical.em (∀ j, 0 ≤ j → j < T → thS (itS r n (j + 1)) n 2 = tl j) with hq | hq
  · refine ⟨1, Or.inr rfl, fun D h h3 ht => ?_, fun E h ht => ?_⟩
    · obtain ⟨b, D', e, f, g⟩ := c_so ok hT T 0 FU D (by omega) (by unfold FU; omega) h h3 ht
      have : b = 1 := by
        rcases g with g | g
        · exact g.1
        · exact absurd hq g.2
      subst this
      exact ⟨D', e, f⟩
    · obtain ⟨b, D', e, f, g⟩ := m_so ok hT hP T 0 FU E 1 (by omega) (by unfold FU; omega) h ht (Or.inr rfl)
      have : b = 1 := by
        rcases g with g | g
        · exact g.1
        · exact absurd ⟨rfl, hq⟩ g.2
      subst this
      exact ⟨D', e, f⟩
  · refine ⟨0, Or.inl rfl, fun D h h3 ht => ?_, fun E h ht => ?_⟩
    · obtain ⟨b, D', e, f, g⟩ := c_so ok hT T 0 FU D (by omega) (by unfold FU; omega) h h3 ht
      have : b = 0 := by
        rcases g with g | g
        · exact absurd g.2 hq
        · exact g.1
      subst this
      exact ⟨D', e, f⟩
    · obtain ⟨b, D', e, f, g⟩ := m_so ok hT hP T 0 FU E 1 (by omega) (by unfold FU; omega) h ht (Or.inr rfl)
      have : b = 0 := by
        rcases g with g | g
        · exact absurd g.2.2 hq
        · exact g.1
      subst this
      exact ⟨D', e, f⟩
