/-! set, copy -/
theorem place_e {n : Nat} (hn : n ≤ 40) (a : Int32) : f_X7_in a.toInt64 0 (nI n - 1).toInt64 = if (if a < 0 then (1 : Int32) else if a < nI n then 0 else 1) = 0 then 1 else 0 := by
  rw [show (0 : Int64) = (0 : Int32).toInt64 from rfl, in_bey]
  have e : f_X6_beyond a 0 (nI n - 1) = (if a < 0 then (1 : Int32) else if a < nI n then 0 else 1) := by
    unfold f_X6_beyond
    by_cases h1 : a < 0
    · rw [if_pos h1, if_pos h1]
    · rw [if_neg h1, if_neg h1]
      have e1 : (nI n - 1).toInt = (n : Int) - 1 := by
        rw [fb_subI (by rw [nI_toInt (by omega), show (1 : Int32).toInt = 1 by decide]; omega) (by rw [nI_toInt (by omega), show (1 : Int32).toInt = 1 by decide]; omega), nI_toInt (by omega), show (1 : Int32).toInt = 1 by decide]
      have e2 : (nI n).toInt = (n : Int) := nI_toInt (by omega)
      by_cases h2 : a < nI n
      · rw [if_pos h2, if_pos (by rw [fa_le, e1]; rw [fa_lt, e2] at h2; omega)]
      · rw [if_neg h2, if_neg (by rw [fa_le, e1]; rw [fa_lt, e2] at h2; omega)]
  rw [e]
theorem place_nI {n : Nat} (hn : n ≤ 40) {a : Int32} : (if a < 0 then (1 : Int32) else if a < nI n then 0 else 1) = 0 ↔ ∃ c, c < n ∧ a = nI c := by
  constructor
  · intro h
    by_cases h1 : a < 0
    · rw [if_pos h1] at h; exact absurd h (by decide)
    · rw [if_neg h1] at h
      by_cases h2 : a < nI n
      · rw [fa_lt, nI_toInt (by omega)] at h2
        rw [fa_lt, show (0 : Int32).toInt = 0 by decide] at h1
        refine ⟨a.toInt.toNat, by omega, ?_⟩
        rw [fa_eq, nI_toInt (by omega)]; omega
      · rw [if_neg h2] at h; exact absurd h (by decide)
  · rintro ⟨c, hc, rfl⟩
    rw [if_neg (nI_pos (by omega)), if_pos ((lt_nI (by omega) (by omega)).mpr hc)]
def nv (l : Nat) (a : Int32) : Int32 := if nI l = 0 then a.toInt8.toInt32 else if nI l = 1 then a.toInt16.toInt32 else a
theorem op_set {D : wd_D} (h : Inv D) (a1 a2 a3 : Int32) : ∃ v D1 D2, f_X6_set a1 a2 a3 D = some (v, D1) ∧ f_X7_set a1 a2 a3 D1 = some (v, D2) ∧ Inv D2 := by
  have ms : ∀ E, f_X7_set a1 a2 a3 E = if f_X6_noRow a1 = 0 then (rd 8 E 375 a1).bind (fun x2 => (if 0 ≤ x2 then (rd 8 E 375 a1).bind (fun x4 => (if (f_X7_in a2.toInt64 0 ((x4 - 1).toInt64)) = 0 then ap (f_X7_found 2 E) (fun q10 => some (q10.1, q10.2)) else (rd 8 E 376 a1).bind (fun x6 => (if x6 = 0 then f_X7_set_L89 a1 a2 a3 a3.toInt8.toInt32 ((40 * a1) + a2) E else (rd 8 E 376 a1).bind (fun x8 => (if x8 = 1 then f_X7_set_L89 a1 a2 a3 a3.toInt16.toInt32 ((40 * a1) + a2) E else f_X7_set_L89 a1 a2 a3 a3 ((40 * a1) + a2) E)))))) else ap (f_X7_found 1 E) (fun q11 => some (q11.1, q11.2)))) else some ((-1000001), E) := by
    intro E
    unfold f_X7_set
    rw [isRow_e, ib]
  unfold f_X6_set
  by_cases c1 : f_X6_noRow a1 = 0
  · rw [if_pos c1]
    obtain ⟨i, i8, e1⟩ := row_nI c1
    subst e1
    rw [ix_nI i8, Option.bind_some]
    rcases h.2.2.2.1 i i8 with ⟨h1, h2⟩ | ⟨l, sz, h1, h2, h3, h4, h5, h6, h7⟩
    · have g1 : f_X4_findingFor (336 + 2 * i) a2 1 D = 1 := by
        unfold f_X4_findingFor
        rw [gI_e, h1, if_pos rfl]
      refine ⟨_, _, sI (sI D 0 9 1) 370 7 1, c_ag g1 (by decide), ?_, h.two.fin 1⟩
      rw [ms, if_pos c1, rd_nI _ 375 i8, Option.bind_some, sI_ne (by omega), h2, if_neg (show ¬ (0 : Int32) ≤ -1 by decide), m_fnd]
    · by_cases hp : (if a2 < 0 then (1 : Int32) else if a2 < nI sz then 0 else 1) = 0
      · obtain ⟨I, hI, e2⟩ := (place_nI h2).mp hp
        subst e2
        have g1 : f_X4_findingFor (336 + 2 * i) (nI I) 1 D = 0 := by
          unfold f_X4_findingFor
          rw [gI_e, h3, if_neg (nI_neg (by omega)), show (1 : Int32) = nI 1 from rfl, (lack_yes h5 h2 (show I + 1 ≤ sz by omega)).1]; rfl
        have g2 : f_X4_narrowed (336 + 2 * i) a3 D = nv l a3 := by
          unfold f_X4_narrowed nv
          rw [ap_e, gI_e, h3]
        rw [ap_e, g1, i00, Option.bind_some, Option.bind_some, g2, wr_nI D _ _ (show I < 40 by omega), Option.bind_some, Option.bind_some, rd_nI _ _ (show I < 40 by omega), Option.bind_some, sI_eq, ap_e]
        have mg : ∀ E, E.1 375 i = nI sz → E.1 376 i = nI l → f_X7_set (nI i) (nI I) a3 E = f_X7_set_L89 (nI i) (nI I) a3 (nv l a3) (nI (40 * i + I)) E := by
          intro E k1 k2
          rw [ms, if_pos c1, rd_nI _ 375 i8, Option.bind_some, k1, if_pos (nI_pos' (by omega)), Option.bind_some, place_e h2, ib, if_pos hp, rd_nI _ 376 i8, Option.bind_some, Option.bind_some, k2, show (40 : Int32) = nI 40 from rfl, pk_mul, nI_add]
          unfold nv
          by_cases z0 : nI l = 0
          · rw [if_pos z0, if_pos z0]
          · rw [if_neg z0, if_neg z0]
            by_cases z1 : nI l = 1
            · rw [if_pos z1, if_pos z1]
            · rw [if_neg z1, if_neg z1]
        have hI : Inv2 (sI (sI (sI D (336 + 2 * i + 1) I (nv l a3)) 0 9 0) 374 (40 * i + I) (nv l a3)) := h.two.row i8 (fun k j a1 a2 a3 a4 a5 a6 a7 a8 => by rw [sI_ne (by omega), sI_ne a6, sI_ne (by omega)]) (Or.inr ⟨l, sz, h1, h2, by rw [sI_ne (by omega), sI_ne (by omega), sI_ne (by omega)]; exact h3, by rw [sI_ne (by omega), sI_ne (by omega), sI_ne (by omega)]; exact h4, by rw [sI_ne (by omega), sI_ne (by omega), sI_ne (by omega)]; exact h5, by rw [sI_ne (by omega), sI_ne (by omega), sI_ne (by omega)]; exact h6, fun j hj => by
          by_cases e : j = I
          · subst e
            rw [sI_eq, sI_ne (by omega), sI_ne (by omega), sI_eq]
          · rw [sI_ne (by omega), sI_ne (by omega), sI_ne (by omega), sI_ne (by omega), sI_ne (by omega), sI_ne (by omega)]
            exact h7 j hj⟩)
        refine ⟨nv l a3, sI (sI D (336 + 2 * i + 1) I (nv l a3)) 0 9 0, sI (sI (sI (sI D (336 + 2 * i + 1) I (nv l a3)) 0 9 0) 374 (40 * i + I) (nv l a3)) 370 7 0, rfl, ?_, hI.fin7 (by rw [sI_ne (by omega), sI_eq])⟩
        rw [mg _ (by rw [sI_ne (by omega), sI_ne (by omega)]; exact h6) (by rw [sI_ne (by omega), sI_ne (by omega)]; exact h4), f_X7_set_L89, wr_nI _ 374 _ (show 40 * i + I < 320 by omega), Option.bind_some, show (40 : Int32) * nI i + nI I = nI (40 * i + I) from by rw [show (40 : Int32) = nI 40 from rfl, pk_mul, nI_add], rd_nI _ 374 (show 40 * i + I < 320 by omega), Option.bind_some, sI_eq]; rfl
      · have hno : ¬ ∃ I T, a2 = nI I ∧ (1 : Int32) = nI T ∧ I + T ≤ sz := by
          rintro ⟨I, T, q1, q2, q3⟩
          by_cases hT : T = 0
          · subst hT; exact absurd q2 (by decide)
          · exact hp ((place_nI h2).mpr ⟨I, by omega, q1⟩)
        have g1 : f_X4_findingFor (336 + 2 * i) a2 1 D = 2 := by
          unfold f_X4_findingFor
          rw [gI_e, h3, if_neg (nI_neg (by omega)), (lack_no h5 h2 hno).1, i10]
        refine ⟨_, _, sI (sI D 0 9 2) 370 7 2, c_ag g1 (by decide), ?_, h.two.fin 2⟩
        rw [ms, if_pos c1, rd_nI _ 375 i8, Option.bind_some, sI_ne (by omega), h6, if_pos (nI_pos' (by omega)), Option.bind_some, place_e h2, ib, if_neg hp, m_fnd]
  · rw [if_neg c1]
    exact ⟨_, D, D, rfl, by rw [ms, if_neg c1], h⟩
theorem cb_loop {T P : Nat} {a1 a2 a3 a4 : Int32} {o : Nat → Int32} (hT : T ≤ 40) (hP : P + T ≤ 320) (e12 : 40 * a1 + a2 = nI P) : ∀ d v m E, v + d = T → d < m → (∀ j, j < T → E.1 374 (P + j) = o j) → (∀ j, j < v → E.1 379 j = o j) → ∃ E', f_X7_copy_L107 m a1 a2 a3 a4 (nI T) (nI v) E = f_X7_copy_L144 FU a1 a2 a3 a4 (nI T) 0 E' ∧ (∀ j, j < T → E'.1 379 j = o j) ∧ ∀ k j, k ≠ 379 → E'.1 k j = E.1 k j := by
  intro d
  induction d with
  | zero =>
    intro v m E hv hm h1 h2
    obtain ⟨m, rfl⟩ : ∃ m', m = m' + 1 := ⟨m - 1, by omega⟩
    rw [f_X7_copy_L107, if_pos ((le_nI (by omega) (by omega)).mpr (by omega))]
    exact ⟨E, rfl, fun j hj => h2 j (by omega), fun _ _ _ => rfl⟩
  | succ d ih =>
    intro v m E hv hm h1 h2
    obtain ⟨m, rfl⟩ : ∃ m', m = m' + 1 := ⟨m - 1, by omega⟩
    rw [f_X7_copy_L107, if_neg (fun z => by have := (le_nI (by omega) (by omega)).mp z; omega), e12, nI_add, rd_nI E 374 (show P + v < 320 by omega), Option.bind_some, h1 v (by omega), wr_nI E 379 _ (show v < 40 by omega), Option.bind_some, ap_e, nI_1]
    obtain ⟨E', e, g, f⟩ := ih (v + 1) m (sI E 379 v (o v)) (by omega) (by omega) (fun j hj => by rw [sI_ne (by omega)]; exact h1 j hj) (fun j hj => by
      by_cases e : j = v
      · subst e; exact sI_eq
      · rw [sI_ne (by omega)]; exact h2 j (by omega))
    exact ⟨E', e, g, fun k j a => by rw [f k j a, sI_ne (by omega)]⟩
theorem cc_loop {T P : Nat} {a1 a2 a3 a4 : Int32} {o : Nat → Int32} (hT : T ≤ 40) (hP : P + T ≤ 320) (e34 : 40 * a3 + a4 = nI P) : ∀ d v m E, v + d = T → d < m → (∀ j, j < T → E.1 379 j = o j) → (∀ j, j < v → E.1 374 (P + j) = o j) → ∃ E', f_X7_copy_L144 m a1 a2 a3 a4 (nI T) (nI v) E = some (nI T, sI E' 370 7 0) ∧ (∀ j, j < T → E'.1 374 (P + j) = o j) ∧ ∀ k j, ¬ (k = 374 ∧ P ≤ j ∧ j < P + T) → E'.1 k j = E.1 k j := by
  intro d
  induction d with
  | zero =>
    intro v m E hv hm h1 h2
    obtain ⟨m, rfl⟩ : ∃ m', m = m' + 1 := ⟨m - 1, by omega⟩
    rw [f_X7_copy_L144, if_pos ((le_nI (by omega) (by omega)).mpr (by omega))]
    exact ⟨E, rfl, fun j hj => h2 j (by omega), fun _ _ _ => rfl⟩
  | succ d ih =>
    intro v m E hv hm h1 h2
    obtain ⟨m, rfl⟩ : ∃ m', m = m' + 1 := ⟨m - 1, by omega⟩
    rw [f_X7_copy_L144, if_neg (fun z => by have := (le_nI (by omega) (by omega)).mp z; omega), rd_nI E 379 (show v < 40 by omega), Option.bind_some, h1 v (by omega), e34, nI_add, wr_nI E 374 _ (show P + v < 320 by omega), Option.bind_some, ap_e, nI_1]
    obtain ⟨E', e, g, f⟩ := ih (v + 1) m (sI E 374 (P + v) (o v)) (by omega) (by omega) (fun j hj => by rw [sI_ne (by omega)]; exact h1 j hj) (fun j hj => by
      by_cases e : j = v
      · subst e; exact sI_eq
      · rw [sI_ne (by omega)]; exact h2 j (by omega))
    exact ⟨E', e, g, fun k j a => by rw [f k j a, sI_ne (by omega)]⟩
