/-! checks of arguments; counts of bits -/
theorem cmp_lt (x y : Int64) : lg_cmp x y < 0 ↔ x < y := by
  unfold lg_cmp
  by_cases h : x > y
  · rw [if_pos h]
    exact ⟨fun z => absurd z (by decide), fun z => by rw [fa_lt64] at z; have h2 := (fa_lt64 y x).mp h; omega⟩
  · rw [if_neg h]
    by_cases e : x = y
    · rw [if_pos e, e]
      exact ⟨fun z => absurd z (by decide), fun z => by rw [fa_lt64] at z; omega⟩
    · rw [if_neg e]
      refine ⟨fun _ => ?_, fun _ => by decide⟩
      rw [fa_lt64]
      have h2 : ¬ y.toInt < x.toInt := fun z => h ((fa_lt64 y x).mpr z)
      have e2 : ¬ x.toInt = y.toInt := fun z => e ((fa_eq64 x y).mpr z)
      omega
theorem cmp_gt (x y : Int64) : 0 < lg_cmp x y ↔ y < x := by
  unfold lg_cmp
  by_cases h : x > y
  · rw [if_pos h]; exact ⟨fun _ => h, fun _ => by decide⟩
  · rw [if_neg h]
    refine ⟨fun z => ?_, fun z => absurd z h⟩
    split at z
    · exact absurd z (by decide)
    · exact absurd z (by decide)
theorem cmp_eq (x y : Int64) : lg_cmp x y = 0 ↔ x = y := by
  unfold lg_cmp
  by_cases h : x > y
  · rw [if_pos h]
    refine ⟨fun z => absurd z (by decide), fun z => ?_⟩
    subst z
    have h2 := (fa_lt64 x x).mp h
    omega
  · rw [if_neg h]
    by_cases e : x = y
    · rw [if_pos e]; exact ⟨fun _ => e, fun _ => rfl⟩
    · rw [if_neg e]; exact ⟨fun z => absurd z (by decide), fun z => absurd z e⟩
theorem in_bey (a lo hi : Int32) : f_X7_in a.toInt64 lo.toInt64 hi.toInt64 = if f_X6_beyond a lo hi = 0 then 1 else 0 := by
  unfold f_X7_in f_X6_beyond
  by_cases h1 : a < lo
  · rw [if_pos ((cmp_lt _ _).mpr ((fa_wide_lt a lo).mpr h1)), if_pos h1]; decide
  · rw [if_neg (fun z => h1 ((fa_wide_lt a lo).mp ((cmp_lt _ _).mp z))), if_neg h1]
    by_cases h2 : a ≤ hi
    · rw [if_neg (fun z => by
        have z1 := (fa_wide_lt hi a).mp ((cmp_gt _ _).mp z)
        rw [fa_lt] at z1; rw [fa_le] at h2; omega), if_pos h2]; decide
    · rw [if_pos ((cmp_gt _ _).mpr ((fa_wide_lt hi a).mpr (Int32.not_le.mp h2))), if_neg h2]; decide
theorem bey_01 (a lo hi : Int32) : f_X6_beyond a lo hi = 0 ∨ f_X6_beyond a lo hi = 1 := z_X6_beyond a lo hi
/-- a number that isn't beyond its bounds -/
theorem bey_nI {a : Int32} {lo hi : Nat} (hl : lo < 2147483648) (hh : hi < 2147483648) (h : f_X6_beyond a (nI lo) (nI hi) = 0) : ∃ m, lo ≤ m ∧ m ≤ hi ∧ a = nI m := by
  unfold f_X6_beyond at h
  by_cases h1 : a < nI lo
  · rw [if_pos h1] at h; exact absurd h (by decide)
  · rw [if_neg h1] at h
    by_cases h2 : a ≤ nI hi
    · by_cases hlo : lo ≤ hi
      · rw [fa_lt, nI_toInt (by omega)] at h1
        rw [fa_le, nI_toInt (by omega)] at h2
        refine ⟨a.toInt.toNat, by omega, by omega, ?_⟩
        rw [fa_eq, nI_toInt (by omega)]; omega
      · exfalso
        rw [fa_lt, nI_toInt (by omega)] at h1
        rw [fa_le, nI_toInt (by omega)] at h2
        omega
    · rw [if_neg h2] at h; exact absurd h (by decide)
theorem bey_no {a : Int32} {lo hi : Int32} (h : ¬ f_X6_beyond a lo hi = 0) : f_X6_beyond a lo hi = 1 := (bey_01 a lo hi).resolve_left h
theorem row_bey (a : Int32) : f_X6_noRow a = f_X6_beyond a 0 7 := by
  unfold f_X6_noRow f_X6_beyond
  by_cases h1 : a < 0
  · rw [if_pos h1, if_pos h1]
  · rw [if_neg h1, if_neg h1]
    by_cases h2 : a < 8
    · have h3 : a ≤ 7 := by
        rw [fa_le]; rw [fa_lt] at h2
        have e1 : (8 : Int32).toInt = 8 := by decide
        have e2 : (7 : Int32).toInt = 7 := by decide
        omega
      rw [if_pos h2, if_pos h3]
    · have h3 : ¬ a ≤ 7 := by
        rw [fa_le]; rw [fa_lt] at h2
        have e1 : (8 : Int32).toInt = 8 := by decide
        have e2 : (7 : Int32).toInt = 7 := by decide
        omega
      rw [if_neg h2, if_neg h3]
theorem isRow_e (a : Int32) : f_X7_isRow a = if f_X6_noRow a = 0 then 1 else 0 := by
  unfold f_X7_isRow
  rw [row_bey]
  exact in_bey a 0 7
/-- a child, on either side -/
theorem child_e {n : Nat} (hn : n ≤ 7) (a : Int32) : f_X7_in a.toInt64 0 (nI n - 1).toInt64 = if (if a < 0 then (1 : Int32) else if a < nI n then 0 else 1) = 0 then 1 else 0 := by
  rw [show (0 : Int64) = (0 : Int32).toInt64 from rfl, in_bey]
  have e : f_X6_beyond a 0 (nI n - 1) = (if a < 0 then (1 : Int32) else if a < nI n then 0 else 1) := by
    unfold f_X6_beyond
    by_cases h1 : a < 0
    · rw [if_pos h1, if_pos h1]
    · rw [if_neg h1, if_neg h1]
      have e1 : (nI n - 1).toInt = (n : Int) - 1 := by
        rw [fb_subI (by rw [nI_toInt (by omega), show (1 : Int32).toInt = 1 by decide]; omega) (by rw [nI_toInt (by omega), show (1 : Int32).toInt = 1 by decide]; omega), nI_toInt (by omega), show (1 : Int32).toInt = 1 by decide]
      have e2 : (nI n).toInt = (n : Int) := nI_toInt (by omega)
      by_cases h2 : a < nI n
      · rw [if_pos h2, if_pos (by rw [fa_le, e1]; rw [fa_lt, e2] at h2; omega)]
      · rw [if_neg h2, if_neg (by rw [fa_le, e1]; rw [fa_lt, e2] at h2; omega)]
  rw [e]
theorem child_nI {n : Nat} (hn : n ≤ 7) {a : Int32} (h : (if a < 0 then (1 : Int32) else if a < nI n then 0 else 1) = 0) : ∃ c, c < n ∧ a = nI c := by
  by_cases h1 : a < 0
  · rw [if_pos h1] at h; exact absurd h (by decide)
  · rw [if_neg h1] at h
    by_cases h2 : a < nI n
    · rw [fa_lt, nI_toInt (by omega)] at h2
      rw [fa_lt, show (0 : Int32).toInt = 0 by decide] at h1
      refine ⟨a.toInt.toNat, by omega, ?_⟩
      rw [fa_eq, nI_toInt (by omega)]; omega
    · rw [if_neg h2] at h; exact absurd h (by decide)
theorem noChild_e {D : wd_D} {n : Nat} {r : Rho} (h : RepC D 4 n r) (ok : Ok n r) (a : Int32) : f_X6_noChild a D = (if a < 0 then (1 : Int32) else if a < nI n then 0 else 1) := by
  unfold f_X6_noChild
  rw [h.f41, ok.2.1]
theorem isChild_e {D : wd_D} {n : Nat} {r : Rho} (h : RepM D 0 r) (ok : Ok n r) (a : Int32) : f_X7_isChild a D = some (if (if a < 0 then (1 : Int32) else if a < nI n then 0 else 1) = 0 then 1 else 0) := by
  unfold f_X7_isChild
  rw [h.y41, Option.bind_some, ok.2.1, child_e ok.1]
theorem noRoom_e {D : wd_D} {n : Nat} {r : Rho} (h : PNow D n r) : f_X6_noRoom D = if n = 0 then 1 else 0 := by
  unfold f_X6_noRoom
  rw [h.1.f41, h.2.2.1.2.1]
  by_cases e : n = 0
  · subst e; rfl
  · have hn := h.2.2.1.1
    rw [if_neg (show ¬ nI n = 0 from fun z => e ((eq_nI (a := n) (b := 0) (by omega) (by omega)).mp z)), if_neg e]
theorem isRoom_e {D : wd_D} {n : Nat} {r : Rho} (h : PNow D n r) : f_X7_isRoom D = some (if n = 0 then 0 else 1) := by
  unfold f_X7_isRoom
  have h1 := h.2.1 38 (by decide)
  rw [show (38 : Int32) = nI 38 from rfl, rd_nI D 371 (show 38 < 252 by decide)]
  rw [Nat.zero_add] at h1
  rw [h1, h.2.2.2, Option.bind_some]
  by_cases e : n = 0
  · simp [e]
  · simp [e]
-- bits counted
theorem bitI_nI : ∀ k, k < 31 → bitI k = nI (2 ^ k) := by decide +kernel
theorem setOf_nI (p : Nat → Bool) : ∀ n, n ≤ 30 → ∃ a, a < 2 ^ n ∧ setOf p n = nI a
  | 0, _ => ⟨0, by decide, rfl⟩
  | n + 1, h => by
    obtain ⟨a, h1, h2⟩ := setOf_nI p n (by omega)
    have hp : 2 ^ (n + 1) = 2 * 2 ^ n := by rw [Nat.pow_succ]; omega
    unfold setOf
    split
    · refine ⟨a ||| 2 ^ n, Nat.or_lt_two_pow (by omega) (by omega), ?_⟩
      rw [h2, bitI_nI n (by omega), fa_or]
    · exact ⟨a, by omega, h2⟩
theorem ones_e : ∀ a, a < 128 → f_X7_ones (nI a) = some (f_J6_bitCount_0f7a4 (nI a)) := by decide +kernel
theorem pow_le7 {n : Nat} (h : n ≤ 7) : 2 ^ n ≤ 128 := by
  have := Nat.pow_le_pow_right (n := 2) (by decide) h
  exact this
theorem ones_th {r : Rho} {n : Nat} (hn : n ≤ 7) (how : Int32) : f_X7_ones (thS r n how) = some (f_J6_bitCount_0f7a4 (thS r n how)) := by
  obtain ⟨a, h1, h2⟩ := setOf_nI (fun k => decide (r (8 + k) = how)) n (by omega)
  unfold thS
  rw [h2]
  exact ones_e a (by have := pow_le7 hn; omega)
