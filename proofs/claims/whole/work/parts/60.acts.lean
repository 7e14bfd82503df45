/-! ACTS ARE KEPT -/
def PC (D : wd_D) (n : Nat) (p : Nat → Rho) (s nx : Nat) : Prop := s ≤ 24 ∧ nx < 24 ∧ D.1 23 1 = nI nx ∧ D.1 23 2 = nI s ∧ ∀ i, i < s → RepC D (25 + 9 * ((nx + 24 - s + i) % 24)) n (p i)
def PM (D : wd_D) (p : Nat → Rho) (s : Nat) : Prop := D.1 370 3 = nI s ∧ ∀ i, i < s → ∀ j, j < 38 → D.1 373 (38 * i + j) = p i j
def PG (n : Nat) (r : Rho) (p : Nat → Rho) (s : Nat) : Prop := ∀ i, i < s → (∀ j, 38 ≤ j → p i j = r j) ∧ Ok n (p i)
theorem PPast.split {D : wd_D} {n : Nat} {r : Rho} (h : PPast D n r) : ∃ p s nx, PC D n p s nx ∧ PM D p s ∧ PG n r p s := by
  obtain ⟨s, nx, h1, h2, h3, h4, h5, h6⟩ := h
  have h7 : ∀ i, ∃ p : Rho, i < s → RepC D (25 + 9 * ((nx + 24 - s + i) % 24)) n p ∧ (∀ j, j < 38 → D.1 373 (38 * i + j) = p j) ∧ (∀ j, 38 ≤ j → p j = r j) ∧ Ok n p := by
    intro i
    by_cases hi : i < s
    · obtain ⟨p, hp⟩ := h6 i hi
      exact ⟨p, fun _ => hp⟩
    · exact ⟨r, fun z => absurd z hi⟩
  refine ⟨fun i => Classical.choose (h7 i), s, nx, ⟨h1, h2, h3, h4, fun i hi => ?_⟩, ⟨h5, fun i hi => ?_⟩, fun i hi => ?_⟩
  · exact (Classical.choose_spec (h7 i) hi).1
  · exact (Classical.choose_spec (h7 i) hi).2.1
  · exact (Classical.choose_spec (h7 i) hi).2.2
theorem PPast.join {D : wd_D} {n : Nat} {r : Rho} {p : Nat → Rho} {s nx : Nat} (h : PC D n p s nx) (g : PM D p s) (q : PG n r p s) : PPast D n r :=
  ⟨s, nx, h.1, h.2.1, h.2.2.1, h.2.2.2.1, g.1, fun i hi => ⟨p i, h.2.2.2.2 i hi, g.2 i hi, (q i hi).1, (q i hi).2⟩⟩
def keO (s : Nat) : Nat := if s = 24 then 1 else 0
def keS (s : Nat) : Nat := s + 1 - keO s
def keP (p : Nat → Rho) (s : Nat) (r : Rho) : Nat → Rho := fun i => if i + 1 = keS s then r else p (i + keO s)
def FrK (D D' : wd_D) : Prop := ∀ k j, k ≠ 23 → ¬ (25 ≤ k ∧ k ≤ 240) → D'.1 k j = D.1 k j
theorem PG.ke {n : Nat} {r : Rho} {p : Nat → Rho} {s : Nat} (h : PG n r p s) (ok : Ok n r) (hs : s ≤ 24) : PG n r (keP p s r) (keS s) := by
  intro i hi
  unfold keP
  by_cases e : i + 1 = keS s
  · rw [if_pos e]; exact ⟨fun _ _ => rfl, ok⟩
  · rw [if_neg e]
    exact h _ (by unfold keS keO at *; split at hi <;> rename_i hc <;> simp only [hc, if_true, if_false] at * <;> omega)
theorem PG.of {n : Nat} {r r' : Rho} {p : Nat → Rho} {s : Nat} (h : PG n r p s) (e : ∀ j, 38 ≤ j → r' j = r j) : PG n r' p s := fun i hi => ⟨fun j hj => by rw [(h i hi).1 j hj, e j hj], (h i hi).2⟩
theorem c_keep {D : wd_D} {n s nx : Nat} {r : Rho} {p : Nat → Rho} (hR : RepC D 4 n r) (hn : n ≤ 7) (h : PC D n p s nx) : ∃ D', f_X2_keep 4 D = some D' ∧ RepC D' 4 n r ∧ PC D' n (keP p s r) (keS s) ((nx + 1) % 24) ∧ FrK D D' := by
  obtain ⟨h1, h2, h3, h4, h5⟩ := h
  unfold f_X2_keep
  obtain ⟨D1, e1, c1, f1⟩ := c_become' (t := 25 + 9 * nx) hR hn (by omega)
  have q1 : D1.1 23 1 = nI nx := by rw [f1.1 23 1 (by omega)]; exact h3
  have q2 : D1.1 23 2 = nI s := by rw [f1.1 23 2 (by omega)]; exact h4
  rw [gI_e, h3, ix_nI h2, Option.bind_some, e1, Option.bind_some]
  unfold ap
  dsimp only
  rw [gI_e, q1, gI_e, sI_ne (show ¬ (23 = 23 ∧ 2 = 1) by omega), q2, nI_1, nI_1, show (24 : Int32) = nI 24 from rfl, pk_rem (by omega) (by decide) (by decide)]
  have e2 : (if nI 24 < nI (s + 1) then nI 24 else nI (s + 1)) = nI (keS s) := by
    unfold keS keO
    by_cases hc : s = 24
    · subst hc; rfl
    · rw [if_neg hc, if_neg (fun z => by have := (lt_nI (by omega) (by omega)).mp z; omega)]; rfl
  rw [e2]
  have g : FrK D (sI (sI D1 23 1 (nI ((nx + 1) % 24))) 23 2 (nI (keS s))) := fun k j a1 a2 => by
    rw [sI_ne (by omega), sI_ne (by omega), f1.1 k j (by omega)]
  refine ⟨_, rfl, hR.at hn (fun k j a1 a2 => g k j (by omega) (by omega)), ⟨?_, Nat.mod_lt _ (by decide), ?_, sI_eq, fun i hi => ?_⟩, g⟩
  · unfold keS keO; split <;> omega
  · rw [sI_ne (by omega), sI_eq]
  · have hks : keS s = if s = 24 then 24 else s + 1 := by
      unfold keS keO; split <;> omega
    have hko : keO s = if s = 24 then 1 else 0 := rfl
    unfold keP
    have back : ∀ q m, m < 24 → RepC D1 (25 + 9 * m) n q → RepC (sI (sI D1 23 1 (nI ((nx + 1) % 24))) 23 2 (nI (keS s))) (25 + 9 * m) n q := fun q m hm hq => hq.at hn (fun k j a1 a2 => by rw [sI_ne (by omega), sI_ne (by omega)])
    by_cases e : i + 1 = keS s
    · rw [if_pos e]
      have : ((nx + 1) % 24 + 24 - keS s + i) % 24 = nx := by
        by_cases hc : s = 24
        · rw [if_pos hc] at hks; omega
        · rw [if_neg hc] at hks; omega
      rw [this]
      exact back r nx h2 c1
    · rw [if_neg e]
      have hio : i + keO s < s := by
        by_cases hc : s = 24
        · rw [if_pos hc] at hks hko; omega
        · rw [if_neg hc] at hks hko; omega
      have e3 : ((nx + 1) % 24 + 24 - keS s + i) % 24 = (nx + 24 - s + (i + keO s)) % 24 := by
        by_cases hc : s = 24
        · rw [if_pos hc] at hks hko; omega
        · rw [if_neg hc] at hks hko; omega
      have e4 : (nx + 24 - s + (i + keO s)) % 24 ≠ nx := by
        by_cases hc : s = 24
        · rw [if_pos hc] at hks hko; omega
        · rw [if_neg hc] at hks hko; omega
      rw [e3]
      have hm : (nx + 24 - s + (i + keO s)) % 24 < 24 := Nat.mod_lt _ (by decide)
      exact back _ _ hm ((h5 _ hio).at hn (fun k j a1 a2 => f1.1 k j (by omega)))
def FrS (D D' : wd_D) : Prop := ∀ k j, ¬ (k = 370 ∧ j = 3) → k ≠ 373 → D'.1 k j = D.1 k j
theorem mi_loop {n s : Nat} {r : Rho} {p : Nat → Rho} (hs : s < 24) : ∀ d v m E, v + d = 38 → d < m → RepM E 0 r → E.1 370 3 = nI s → (∀ i, i < s → ∀ j, j < 38 → E.1 373 (38 * i + j) = p i j) → (∀ j, j < v → E.1 373 (38 * s + j) = r j) → ∃ E', f_X7_minds_L51 m (nI v) E = some E' ∧ PM E' (fun i => if i = s then r else p i) (s + 1) ∧ FrS E E' := by
  intro d
  induction d with
  | zero =>
    intro v m E hv hm hE h3 hp hr
    obtain ⟨m, rfl⟩ : ∃ m', m = m' + 1 := ⟨m - 1, by omega⟩
    rw [f_X7_minds_L51, if_pos (show (38 : Int32) ≤ nI v from (le_nI (a := 38) (by omega) (by omega)).mpr (by omega))]
    unfold ap
    dsimp only
    rw [gI_e, h3, nI_1]
    refine ⟨_, rfl, ⟨sI_eq, fun i hi j hj => ?_⟩, fun k j a1 a2 => sI_ne a1⟩
    rw [sI_ne (by omega)]
    dsimp only
    by_cases e : i = s
    · rw [if_pos e, e]; exact hr j (by omega)
    · rw [if_neg e]; exact hp i (by omega) j hj
  | succ d ih =>
    intro v m E hv hm hE h3 hp hr
    obtain ⟨m, rfl⟩ : ∃ m', m = m' + 1 := ⟨m - 1, by omega⟩
    have hz := hE v (by omega)
    rw [Nat.zero_add] at hz
    rw [f_X7_minds_L51, if_neg (fun z => by have := (le_nI (a := 38) (by omega) (by omega)).mp z; omega), rd_nI E 371 (show v < 252 by omega), Option.bind_some, hz, gI_e, h3, show (38 : Int32) = nI 38 from rfl, pk_mul, nI_add, wr_nI E 373 _ (show 38 * s + v < 912 by omega), Option.bind_some]
    unfold ap
    dsimp only
    rw [nI_1]
    obtain ⟨E', e, g, f⟩ := ih (v + 1) m (sI E 373 (38 * s + v) (r v)) (by omega) (by omega) (hE.at (fun j _ _ => sI_ne (by omega))) (by rw [sI_ne (by omega)]; exact h3) (fun i hi j hj => by rw [sI_ne (by omega)]; exact hp i hi j hj) (fun j hj => by
      by_cases e : j = v
      · subst e; exact sI_eq
      · rw [sI_ne (by omega)]; exact hr j (by omega))
    exact ⟨E', e, g, fun k j a1 a2 => by rw [f k j a1 a2, sI_ne (by omega)]⟩
theorem sh_loop {o : Nat → Int32} : ∀ d v m E, v + d = 874 → d < m → (∀ j, j < v → E.1 373 j = o (j + 38)) → (∀ j, v ≤ j → j < 912 → E.1 373 j = o j) → ∃ E', f_X7_minds_L11 m (nI v) E = f_X7_minds_L49 (sI E' 370 3 (gI E' 370 3 - 1)) ∧ (∀ j, j < 874 → E'.1 373 j = o (j + 38)) ∧ (∀ k j, k ≠ 373 → E'.1 k j = E.1 k j) := by
  intro d
  induction d with
  | zero =>
    intro v m E hv hm h1 h2
    obtain ⟨m, rfl⟩ : ∃ m', m = m' + 1 := ⟨m - 1, by omega⟩
    rw [f_X7_minds_L11, if_pos (show (874 : Int32) ≤ nI v from (le_nI (a := 874) (by omega) (by omega)).mpr (by omega))]
    exact ⟨E, rfl, fun j hj => h1 j (by omega), fun _ _ _ => rfl⟩
  | succ d ih =>
    intro v m E hv hm h1 h2
    obtain ⟨m, rfl⟩ : ∃ m', m = m' + 1 := ⟨m - 1, by omega⟩
    rw [f_X7_minds_L11, if_neg (fun z => by have := (le_nI (a := 874) (by omega) (by omega)).mp z; omega), show (38 : Int32) = nI 38 from rfl, nI_add, rd_nI E 373 (show v + 38 < 912 by omega), Option.bind_some, h2 (v + 38) (by omega) (by omega), wr_nI E 373 _ (show v < 912 by omega), Option.bind_some]
    unfold ap
    dsimp only
    rw [nI_1]
    obtain ⟨E', e, g, f⟩ := ih (v + 1) m (sI E 373 v (o (v + 38))) (by omega) (by omega) (fun j hj => by
      by_cases e : j = v
      · subst e; exact sI_eq
      · rw [sI_ne (by omega)]; exact h1 j (by omega)) (fun j a1 a2 => by rw [sI_ne (by omega)]; exact h2 j (by omega) a2)
    exact ⟨E', e, g, fun k j a1 => by rw [f k j a1, sI_ne (by omega)]⟩
theorem m_minds {E : wd_D} {s : Nat} {r : Rho} {p : Nat → Rho} (hR : RepM E 0 r) (hs : s ≤ 24) (h : PM E p s) : ∃ E', f_X7_minds E = some E' ∧ RepM E' 0 r ∧ PM E' (keP p s r) (keS s) ∧ FrS E E' := by
  unfold f_X7_minds
  rw [gI_e, h.1]
  by_cases hc : s = 24
  · subst hc
    rw [if_pos (show nI 24 = 24 from rfl)]
    obtain ⟨E1, e1, g1, f1⟩ := sh_loop (o := E.1 373) 874 0 FU E (by omega) (by unfold FU; omega) (fun j hj => absurd hj (by omega)) (fun _ _ _ => rfl)
    have q3 : E1.1 370 3 = nI 24 := by rw [f1 370 3 (by omega)]; exact h.1
    obtain ⟨E2, e2, g2, f2⟩ := mi_loop (n := 0) (s := 23) (r := r) (p := fun i => p (i + 1)) (by omega) 38 0 FU (sI E1 370 3 (gI E1 370 3 - 1)) (by omega) (by unfold FU; omega) (hR.at (fun j _ _ => by rw [sI_ne (by omega), f1 371 j (by omega)])) (by rw [sI_eq, gI_e, q3]; rfl) (fun i hi j hj => by
      rw [sI_ne (by omega), g1 _ (by omega), show 38 * i + j + 38 = 38 * (i + 1) + j by omega]; exact h.2 (i + 1) (by omega) j hj) (fun j hj => absurd hj (by omega))
    have f3 : FrS E E2 := fun k j a1 a2 => by rw [f2 k j a1 a2, sI_ne a1, f1 k j a2]
    refine ⟨E2, ?_, hR.at (fun j _ _ => f3 371 j (by omega) (by omega)), ?_, f3⟩
    · rw [show f_X7_minds_L11 FU 0 E = _ from e1, f_X7_minds_L49]; exact e2
    · have ee : (fun i => if i = 23 then r else p (i + 1)) = keP p 24 r := by
        funext i
        unfold keP keS keO
        by_cases e : i = 23
        · rw [if_pos e, if_pos (by rw [if_pos rfl]; omega)]
        · rw [if_neg e, if_neg (by rw [if_pos rfl]; omega), if_pos rfl]
      rw [← ee]; exact g2
  · rw [if_neg (show ¬ nI s = 24 from fun z => hc ((nI_eq (by omega) (by decide : 24 < 2 ^ 31)).mp z)), f_X7_minds_L49]
    obtain ⟨E2, e2, g2, f2⟩ := mi_loop (n := 0) (s := s) (r := r) (p := p) (by omega) 38 0 FU E (by omega) (by unfold FU; omega) hR h.1 h.2 (fun j hj => absurd hj (by omega))
    refine ⟨E2, e2, hR.at (fun j _ _ => f2 371 j (by omega) (by omega)), ?_, f2⟩
    have ee : (fun i => if i = s then r else p i) = keP p s r := by
      funext i
      unfold keP keS keO
      rw [if_neg hc]
      by_cases e : i = s
      · rw [if_pos e, if_pos (by omega)]
      · rw [if_neg e, if_neg (by omega)]; rfl
    have ek : keS s = s + 1 := by unfold keS keO; rw [if_neg hc]; rfl
    rw [← ee, ek]; exact g2
theorem Inv.act {D D1 E : wd_D} {n s nx : Nat} {r : Rho} {p : Nat → Rho} (h : Inv D) (hC : RepC D1 4 n r) (hP : PC D1 n p s nx) (f1 : ∀ k j, k ≠ 23 → ¬ (25 ≤ k ∧ k ≤ 240) → ¬ (4 ≤ k ∧ k ≤ 12) → D1.1 k j = D.1 k j) (hM : RepM E 0 r) (hQ : PM E p s) (f2 : ∀ k j, ¬ (k = 370 ∧ j = 3) → k ≠ 373 → ¬ (k = 371 ∧ j < 63) → k ≠ 380 → E.1 k j = D1.1 k j) (ok : Ok n r) (h38 : r 38 = if n = 0 then 0 else 1) (hG : PG n r p s) : Inv E := by
  obtain ⟨h1, h2, h3, h4, -, h7, h8⟩ := h
  have e : ∀ k j, k ≠ 23 → ¬ (25 ≤ k ∧ k ≤ 240) → ¬ (4 ≤ k ∧ k ≤ 12) → ¬ (k = 370 ∧ j = 3) → k ≠ 373 → ¬ (k = 371 ∧ j < 63) → k ≠ 380 → E.1 k j = D.1 k j := fun k j a1 a2 a3 a4 a5 a6 a7 => by rw [f2 k j a4 a5 a6 a7, f1 k j a1 a2 a3]
  have e2 : ∀ k j, k < 370 → E.1 k j = D1.1 k j := fun k j hk => f2 k j (by omega) (by omega) (by omega) (by omega)
  refine ⟨by rw [e _ _ (by omega) (by omega) (by omega) (by omega) (by omega) (by omega) (by omega), e _ _ (by omega) (by omega) (by omega) (by omega) (by omega) (by omega) (by omega)]; exact h1, by rw [e _ _ (by omega) (by omega) (by omega) (by omega) (by omega) (by omega) (by omega), e _ _ (by omega) (by omega) (by omega) (by omega) (by omega) (by omega) (by omega)]; exact h2, h3.at (fun k j z => e k j (by omega) (by omega) (by omega) (by omega) (by omega) (by omega) (by omega)), fun i hi => (h4 i hi).at hi (fun k j z => e k j (by omega) (by omega) (by omega) (by omega) (by omega) (by omega) (by omega)), ⟨n, r, ⟨hC.at ok.1 (fun k j a1 a2 => e2 k j (by omega)), hM, ok, h38⟩, ?_⟩, fun i hi => (h7 i hi).at hi (fun k j z => e k j (by omega) (by omega) (by omega) (by omega) (by omega) (by omega) (by omega)), h8.at (fun k j z => e k j (by omega) (by omega) (by omega) (by omega) (by omega) (by omega) (by omega))⟩
  refine PPast.join (p := p) (s := s) (nx := nx) ⟨hP.1, hP.2.1, by rw [e2 _ _ (by omega)]; exact hP.2.2.1, by rw [e2 _ _ (by omega)]; exact hP.2.2.2.1, fun i hi => (hP.2.2.2.2 i hi).at ok.1 (fun k j a1 a2 => e2 k j ?_)⟩ hQ hG
  have := Nat.mod_lt (nx + 24 - s + i) (show 24 > 0 by decide)
  omega
