/-! who, held -/
theorem row_nI {a : Int32} (h : f_X6_noRow a = 0) : ∃ i, i < 8 ∧ a = nI i := by
  rw [row_bey] at h
  obtain ⟨m, -, h2, h3⟩ := bey_nI (lo := 0) (hi := 7) (by decide) (by decide) h
  exact ⟨m, by omega, h3⟩
theorem c_tell {D : wd_D} {i I T sz : Nat} (hi : i < 8) (hs : D.1 (336 + 2 * i) 2 = nI sz) (hsz : sz ≤ 40) (h : I + T ≤ sz) (hT : T ≤ 12) : ∃ D', f_X1_tell (336 + 2 * i) (nI I) (nI T) D = some D' ∧ Scr D D' ∧ D'.1 241 3 = nI T ∧ ∀ j, j < T → D'.1 252 j = D.1 (336 + 2 * i + 1) (I + j) := by
  unfold f_X1_tell
  simp only [ap]
  have hs1 : (sI D 241 3 0).1 (336 + 2 * i) 2 = nI sz := by rw [sI_ne (by omega)]; exact hs
  rw [(lack_yes hs1 hsz h).1, i00, if_pos (show nI T ≤ 12 from (le_nI (b := 12) (by omega) (by omega)).mpr hT)]
  have hcp : cp 40 12 (sI D 241 3 0) (336 + 2 * i + 1) (nI I) 252 0 (nI T) = some (cpD (sI D 241 3 0) (336 + 2 * i + 1) I 252 0 T) := by
    unfold cp
    rw [nI_clamp (by omega), nI_clamp (by omega), show (0 : Int32).toNatClampNeg = 0 from rfl, if_neg]
    intro z
    rcases z with z | z | z | z | z
    · exact nI_pos (by omega) z
    · exact absurd z (by decide)
    · exact nI_pos (by omega) z
    · omega
    · omega
  rw [hcp, Option.bind_some]
  refine ⟨_, rfl, ?_, ?_, ?_⟩
  · have s1 : Scr (sI D 241 3 0) (cpD (sI D 241 3 0) (336 + 2 * i + 1) I 252 0 T) := by
      intro k j hl
      show (if k = 252 ∧ 0 ≤ j ∧ j < 0 + T then _ else _) = _
      rw [if_neg (fun z => by unfold live at hl; omega)]
    have s0 : Scr D (sI D 241 3 0) := scr241
    exact (s0.tr s1).tr scr241
  · rw [sI_eq]
  · intro j hj
    rw [sI_ne (by omega)]
    show (if 252 = 252 ∧ 0 ≤ j ∧ j < 0 + T then (sI D 241 3 0).1 (336 + 2 * i + 1) (I + (j - 0)) else _) = _
    rw [if_pos ⟨rfl, by omega, by omega⟩, sI_ne (by omega), Nat.sub_zero]
/-- the row is looked at: the same finding, or a stretch of it -/
theorem row_look {D : wd_D} {i : Nat} (hi : i < 8) (h : PRow D i) (a b : Int32) (hb : ¬ b < 0) : (∃ x : Int32, (x = 1 ∨ x = 2) ∧ f_X4_findingFor (336 + 2 * i) a b D = x ∧ ∀ E, E.1 375 i = D.1 375 i → f_X7_against (nI i) a b E = some (-1000010 - x, sI E 370 7 x)) ∨ (∃ I T sz, a = nI I ∧ b = nI T ∧ I + T ≤ sz ∧ sz ≤ 40 ∧ D.1 (336 + 2 * i) 2 = nI sz ∧ D.1 375 i = nI sz ∧ f_X4_findingFor (336 + 2 * i) a b D = 0 ∧ (∀ E, E.1 375 i = D.1 375 i → f_X7_against (nI i) a b E = some (0, E)) ∧ ∀ j, j < T → D.1 (336 + 2 * i + 1) (I + j) = D.1 374 (40 * i + I + j)) := by
  rcases h with ⟨h1, h2⟩ | ⟨l, sz, h1, h2, h3, h4, h5, h6, h7⟩
  · refine Or.inl ⟨1, Or.inl rfl, ?_, fun E hE => ?_⟩
    · unfold f_X4_findingFor
      rw [gI_e, h1, if_pos rfl]
    · unfold f_X7_against
      rw [rd_nI E 375 hi, Option.bind_some, hE, h2, if_neg (by decide)]; rfl
  · rcases Classical.em (∃ I T, a = nI I ∧ b = nI T ∧ I + T ≤ sz) with ⟨I, T, ea, eb, hIT⟩ | hno
    · refine Or.inr ⟨I, T, sz, ea, eb, hIT, h2, h5, h6, ?_, fun E hE => ?_, fun j hj => ?_⟩
      · unfold f_X4_findingFor
        rw [gI_e, h3, if_neg (nI_neg (by omega)), ea, eb, (lack_yes h5 h2 hIT).1]; rfl
      · unfold f_X7_against
        rw [rd_nI E 375 hi, Option.bind_some, hE, h6, if_pos (nI_pos' (by omega)), Option.bind_some, ea, eb, (lack_yes h5 h2 hIT).2, i10]
      · rw [h7 (I + j) (by omega), Nat.add_assoc]
    · refine Or.inl ⟨2, Or.inr rfl, ?_, fun E hE => ?_⟩
      · unfold f_X4_findingFor
        rw [gI_e, h3, if_neg (nI_neg (by omega)), (lack_no h5 h2 hno).1, i10]
      · unfold f_X7_against
        rw [rd_nI E 375 hi, Option.bind_some, hE, h6, if_pos (nI_pos' (by omega)), Option.bind_some, (lack_no h5 h2 hno).2 hb, i00]; rfl
def fld : Nat → Nat
  | 0 => 42 | 1 => 1 | 2 => 49 | _ => 56
def tlo : Nat → Nat
  | 0 => 1 | 1 => 1 | _ => 0
def thi : Nat → Nat
  | 0 => 5 | _ => 9
theorem Ok.trait {r : Rho} {n c w v : Nat} (ok : Ok n r) (hc : c < 7) (hw : w < 4) (h1 : tlo w ≤ v) (h2 : v ≤ thi w) : Ok n (upd r (fld w + c) (nI v)) := by
  obtain ⟨g1, g2, g3, g4, g5, g6⟩ := ok
  rcases (show w = 0 ∨ w = 1 ∨ w = 2 ∨ w = 3 by omega) with rfl | rfl | rfl | rfl
  · simp only [fld, tlo, thi] at *
    refine ⟨g1, by rw [upd_n (by omega)]; exact g2, by rw [upd_n (by omega)]; exact g3, by rw [upd_n (by omega)]; exact g4, by rw [upd_n (by omega)]; exact g5, fun k hk => ?_⟩
    obtain ⟨a1, a2, a3, a4, a5⟩ := g6 k hk
    refine ⟨?_, by rw [upd_n (by omega)]; exact a2, by rw [upd_n (by omega)]; exact a3, by rw [upd_n (by omega)]; exact a4, by rw [upd_n (by omega)]; exact a5⟩
    by_cases e : k = c
    · subst e; rw [upd_s]; exact ⟨v, by omega, by omega, rfl⟩
    · rw [upd_n (by omega)]; exact a1
  · simp only [fld, tlo, thi] at *
    refine ⟨g1, by rw [upd_n (by omega)]; exact g2, by rw [upd_n (by omega)]; exact g3, by rw [upd_n (by omega)]; exact g4, by rw [upd_n (by omega)]; exact g5, fun k hk => ?_⟩
    obtain ⟨a1, a2, a3, a4, a5⟩ := g6 k hk
    exact ⟨by rw [upd_n (by omega)]; exact a1, by rw [upd_n (by omega)]; exact a2, by rw [upd_n (by omega)]; exact a3, by rw [upd_n (by omega)]; exact a4, by rw [upd_n (by omega)]; exact a5⟩
  · simp only [fld, tlo, thi] at *
    refine ⟨g1, by rw [upd_n (by omega)]; exact g2, by rw [upd_n (by omega)]; exact g3, by rw [upd_n (by omega)]; exact g4, by rw [upd_n (by omega)]; exact g5, fun k hk => ?_⟩
    obtain ⟨a1, a2, a3, a4, a5⟩ := g6 k hk
    refine ⟨by rw [upd_n (by omega)]; exact a1, by rw [upd_n (by omega)]; exact a2, by rw [upd_n (by omega)]; exact a3, by rw [upd_n (by omega)]; exact a4, ?_⟩
    by_cases e : k = c
    · subst e; rw [upd_s]; exact ⟨v, by omega, rfl⟩
    · rw [upd_n (by omega)]; exact a5
  · simp only [fld, tlo, thi] at *
    refine ⟨g1, by rw [upd_n (by omega)]; exact g2, by rw [upd_n (by omega)]; exact g3, by rw [upd_n (by omega)]; exact g4, by rw [upd_n (by omega)]; exact g5, fun k hk => ?_⟩
    obtain ⟨a1, a2, a3, a4, a5⟩ := g6 k hk
    refine ⟨by rw [upd_n (by omega)]; exact a1, by rw [upd_n (by omega)]; exact a2, by rw [upd_n (by omega)]; exact a3, ?_, by rw [upd_n (by omega)]; exact a5⟩
    by_cases e : k = c
    · subst e; rw [upd_s]; exact ⟨v, by omega, rfl⟩
    · rw [upd_n (by omega)]; exact a4
theorem c_trait {D : wd_D} {n c w : Nat} {r : Rho} (h : RepC D 242 n r) (hc : c < 7) (hw : w < 4) (x : Int32) : ∃ D', wr 7 D (f_X1_traitsOf 242 (nI w)) (nI c) x = some D' ∧ RepC D' 242 n (upd r (fld w + c) x) ∧ Fr 242 D D' := by
  rcases (show w = 0 ∨ w = 1 ∨ w = 2 ∨ w = 3 by omega) with rfl | rfl | rfl | rfl
  · exact ⟨_, wr_nI D (242 + 1) x hc, h.u42 hc x, Fr.s (by decide)⟩
  · exact ⟨_, wr_nI D (242 + 2) x hc, h.u1 hc x, Fr.s (by decide)⟩
  · exact ⟨_, wr_nI D (242 + 3) x hc, h.u49 hc x, Fr.s (by decide)⟩
  · exact ⟨_, wr_nI D (242 + 4) x hc, h.u56 hc x, Fr.s (by decide)⟩
theorem fld_lt {w c : Nat} (hw : w < 4) (hc : c < 7) : fld w + c < 63 := by
  rcases (show w = 0 ∨ w = 1 ∨ w = 2 ∨ w = 3 by omega) with rfl | rfl | rfl | rfl <;> simp only [fld] <;> omega
theorem w_loop {n T P c w : Nat} {r : Rho} {tl : Nat → Int32} (hT : T ≤ 12) (hP : P + T ≤ 320) (hc : c < n) (hw : w < 4) (a3 a4 : Int32) (hP2 : 40 * a3 + a4 = nI P) : ∀ d v m D (set : Int32), v + d = thi w + 1 → tlo w ≤ v → d < m → PNow D n r → D.1 241 3 = nI T → (∀ j, j < T → D.1 252 j = tl j) → ∃ sv D', f_X1_fittingTraits_L35 m 4 (nI c) (nI w) (nI (thi w)) set (nI v) D = some (sv, D') ∧ Scr D D' ∧ ∀ E m', d < m' → PNow E n r → (∀ j, j < T → E.1 374 (P + j) = tl j) → ∃ E', f_X7_who_L109 m' (nI c) (nI w) a3 a4 (nI T) (nI (fld w)) set (nI v) E = some (sv, sI E' 370 7 0) ∧ Scr E E' := by
  have h9 : thi w ≤ 9 := by
    rcases (show w = 0 ∨ w = 1 ∨ w = 2 ∨ w = 3 by omega) with rfl | rfl | rfl | rfl <;> simp [thi]
  intro d
  induction d with
  | zero =>
    intro v m D set hv hlo hm hN h3 ht
    obtain ⟨m, rfl⟩ : ∃ m', m = m' + 1 := ⟨m - 1, by omega⟩
    rw [f_X1_fittingTraits_L35, if_pos ((lt_nI (by omega) (by omega)).mpr (by omega))]
    refine ⟨set, D, rfl, Scr.rf, fun E m' hm' hE hrow => ⟨E, ?_, Scr.rf⟩⟩
    obtain ⟨m', rfl⟩ : ∃ m2, m' = m2 + 1 := ⟨m' - 1, by omega⟩
    rw [f_X7_who_L109]
    have e121 : ∀ z : Int32, z = nI (thi w) → f_X7_who_L121 (f_X7_who_L109 m') (nI c) (nI w) a3 a4 (nI T) (nI (fld w)) set (nI v) z (nI v) E = some (set, sI E 370 7 0) := by
      intro z hz
      rw [f_X7_who_L121, hz, if_pos ((lt_nI (by omega) (by omega)).mpr (by omega))]; rfl
    rcases (show w = 0 ∨ w = 1 ∨ w = 2 ∨ w = 3 by omega) with rfl | rfl | rfl | rfl
    · rw [if_pos (show nI 0 = 0 from rfl)]; exact e121 5 rfl
    · rw [if_neg (by decide)]; exact e121 9 rfl
    · rw [if_neg (by decide)]; exact e121 9 rfl
    · rw [if_neg (by decide)]; exact e121 9 rfl
  | succ d ih =>
    intro v m D set hv hlo hm hN h3 ht
    have ok := hN.2.2.1
    have hn := ok.1
    obtain ⟨m, rfl⟩ : ∃ m', m = m' + 1 := ⟨m - 1, by omega⟩
    rw [f_X1_fittingTraits_L35, if_neg (fun z => by have := (lt_nI (by omega) (by omega)).mp z; omega)]
    have okv := ok.trait (c := c) (w := w) (v := v) (by omega) hw hlo (by omega)
    obtain ⟨bb, b01, hcb, hmb⟩ := so_both (P := P) (tl := tl) okv hT hP
    obtain ⟨D1, e1, a1, f1⟩ := c_become' (t := 242) hN.1 hn (by omega)
    obtain ⟨D2, e2, a2, f2⟩ := c_trait a1 (c := c) (by omega) hw (nI v)
    have f12 := f1.tr f2
    obtain ⟨D3, e3, f3⟩ := hcb D2 a2 (by rw [f12.1 241 3 (by omega)]; exact h3) (fun j hj => by rw [f12.1 252 j (by omega)]; exact ht j hj)
    have f13 := f12.tr f3
    have s3 := f13.scr (q := 242) (by omega)
    rw [e1, Option.bind_some, e2, Option.bind_some, e3, Option.bind_some]
    have fin : ∀ set' : Int32, set' = (if bb = 0 then set else set ||| ((1 : Int32) <<< (nI v &&& 31))) → ∃ sv D', f_X1_fittingTraits_L78 (f_X1_fittingTraits_L35 m) 4 (nI c) (nI w) (nI (thi w)) set' (nI v) D3 = some (sv, D') ∧ Scr D D' ∧ ∀ E m', d + 1 < m' → PNow E n r → (∀ j, j < T → E.1 374 (P + j) = tl j) → ∃ E', f_X7_who_L109 m' (nI c) (nI w) a3 a4 (nI T) (nI (fld w)) set (nI v) E = some (sv, sI E' 370 7 0) ∧ Scr E E' := by
      intro set' hset
      unfold f_X1_fittingTraits_L78
      simp only [ap, nI_1]
      obtain ⟨sv, D', e, s, g⟩ := ih (v + 1) m D3 set' (by omega) (by omega) (by omega) (hN.scr s3) (by rw [f13.1 241 3 (by omega)]; exact h3) (fun j hj => by rw [f13.1 252 j (by omega)]; exact ht j hj)
      refine ⟨sv, D', e, s3.tr s, fun E m' hm' hE hrow => ?_⟩
      obtain ⟨m', rfl⟩ : ∃ m2, m' = m2 + 1 := ⟨m' - 1, by omega⟩
      obtain ⟨E1, x1, y1, t1, -⟩ := m_try hE
      have hfl := fld_lt hw (show c < 7 by omega)
      have y2 := y1.up (fld w + c) (nI v)
      have t2 : Scr E (sI E1 371 (189 + (fld w + c)) (nI v)) := t1.tr (FrN.s (b := 189) hfl).scr
      have lv374 : ∀ j, j < T → live 374 (P + j) := fun j _ => by unfold live; omega
      obtain ⟨E3, x3, u3⟩ := hmb _ y2 (fun j hj => by rw [t2 374 (P + j) (lv374 j hj)]; exact hrow j hj)
      have t3 : Scr E E3 := t2.tr u3.scr
      obtain ⟨E', x, t⟩ := g E3 m' (by omega) (hE.scr t3) (fun j hj => by rw [t3 374 (P + j) (lv374 j hj)]; exact hrow j hj)
      refine ⟨E', ?_, t3.tr t⟩
      rw [f_X7_who_L109]
      have e121 : ∀ z : Int32, z = nI (thi w) → f_X7_who_L121 (f_X7_who_L109 m') (nI c) (nI w) a3 a4 (nI T) (nI (fld w)) set (nI v) z (nI v) E = some (sv, sI E' 370 7 0) := by
        intro z hz
        rw [f_X7_who_L121, hz, if_neg (fun z => by have := (lt_nI (by omega) (by omega)).mp z; omega), x1, Option.bind_some, show (189 : Int32) = nI 189 from rfl, nI_add, nI_add, Nat.add_assoc, wr_nI E1 371 _ (show 189 + (fld w + c) < 252 by omega), Option.bind_some, hP2, x3, Option.bind_some]
        rcases b01 with rfl | rfl
        · rw [if_pos rfl] at hset
          rw [if_pos (show ((0 : Int32), E3).1 = 0 from rfl), f_X7_who_L169]
          simp only [ap, nI_1]
          rw [show set ||| 0 = set from by simp, ← hset]; exact x
        · rw [if_neg (by decide)] at hset
          rw [if_neg (show ¬ ((1 : Int32), E3).1 = 0 from fun z => absurd z (show ¬ (1 : Int32) = 0 by decide)), f_X7_who_L169]
          simp only [ap, nI_1]
          rw [← hset]; exact x
      rcases (show w = 0 ∨ w = 1 ∨ w = 2 ∨ w = 3 by omega) with rfl | rfl | rfl | rfl
      · rw [if_pos (show nI 0 = 0 from rfl)]; exact e121 5 rfl
      · rw [if_neg (by decide)]; exact e121 9 rfl
      · rw [if_neg (by decide)]; exact e121 9 rfl
      · rw [if_neg (by decide)]; exact e121 9 rfl
    rcases b01 with rfl | rfl
    · rw [if_pos (show ((0 : Int32), D3).1 = 0 from rfl)]
      exact fin set (by rw [if_pos rfl])
    · rw [if_neg (show ¬ ((1 : Int32), D3).1 = 0 from fun z => absurd z (show ¬ (1 : Int32) = 0 by decide))]
      exact fin _ (by rw [if_neg (show ¬ (1 : Int32) = 0 from by decide)])
