/-! WHAT A ROOM IS, apart from where it lies: rho, by the numbers of the reference's places (0 the minute, 1.. needs, 8.. how, 15.. left, 22.. calm, 29.. cots, 36 out, 37 hands, 38 is, 39 women, 40 cries, 41 how many, 42.. kinds, 49.. holds, 56.. voices) -/
abbrev Rho : Type := Nat → Int32
def hb (s : Int32) (k : Nat) : Bool := bt s k
theorem hb_e {k : Nat} (hk : k < 31) (s : Int32) : (s >>> (nI k &&& 31)) &&& 1 = if hb s k then 1 else 0 := by
  apply b_ext
  intro i hi
  rw [b_and, b_sshr k (by omega) s hi]
  have h1 : ∀ i, i < 32 → bt 1 i = decide (i = 0) := by decide +kernel
  rw [h1 i hi]
  unfold hb
  by_cases h0 : i = 0
  · subst h0
    rw [if_pos (by omega)]
    cases hc : bt s (k + 0) with
    | true => rw [Nat.add_zero] at hc; simp [hc]; decide
    | false => rw [Nat.add_zero] at hc; simp [hc]; decide
  · simp only [h0, decide_false, Bool.and_false]
    cases bt s k
    · simp [b_0]
    · simp [h1 i hi, h0]
theorem hb_has {k : Nat} (hk : k < 31) (s : Int32) : f_X6_has s (nI k) = if hb s k then 1 else 0 := by
  unfold f_X6_has
  rw [hb_e hk]
  cases hb s k <;> decide
theorem hb_has7 {k : Nat} (hk : k < 31) (s : Int32) : f_X7_has s (nI k) = if hb s k then 1 else 0 := by
  unfold f_X7_has
  rw [hb_e hk]
  cases hb s k <;> decide
def bitI (k : Nat) : Int32 := (1 : Int32) <<< (nI k &&& 31)
theorem hb_bit {k i : Nat} (hk : k < 32) (hi : i < 32) : hb (bitI k) i = decide (i = k) := by
  unfold hb bitI
  rw [b_shl k hk 1 hi]
  have h1 : ∀ i, i < 32 → bt 1 i = decide (i = 0) := by decide +kernel
  rw [h1 (i - k) (by omega)]
  by_cases h : k ≤ i
  · by_cases h2 : i = k
    · subst h2; simp
    · simp [h, h2]; omega
  · simp [h]; omega
theorem hb_or (a b : Int32) (i : Nat) : hb (a ||| b) i = (hb a i || hb b i) := b_or a b i
theorem hb_and (a b : Int32) (i : Nat) : hb (a &&& b) i = (hb a i && hb b i) := b_and a b i
theorem hb_not {i : Nat} (hi : i < 32) (a : Int32) : hb (a ^^^ (-1)) i = !hb a i := by
  unfold hb; rw [b_xor, b_m1 i hi]; simp
theorem hb_0 (i : Nat) : hb 0 i = false := b_0 i
def setOf (p : Nat → Bool) : Nat → Int32
  | 0 => 0
  | n + 1 => if p n then setOf p n ||| bitI n else setOf p n
theorem hb_setOf (p : Nat → Bool) {i : Nat} (hi : i < 32) : ∀ n, n ≤ 32 → hb (setOf p n) i = (decide (i < n) && p i)
  | 0, _ => by simp [setOf, hb_0]
  | n + 1, h => by
    have ih := hb_setOf p hi n (by omega)
    unfold setOf
    by_cases hp : p n = true
    · rw [if_pos hp, hb_or, ih, hb_bit (by omega) hi]
      by_cases h2 : i = n
      · subst h2; simp [hp]
      · by_cases h3 : i < n
        · have : i < n + 1 := by omega
          simp [h2, h3, this]
        · have : ¬ i < n + 1 := by omega
          simp [h2, h3, this]
    · rw [if_neg hp, ih]
      by_cases h2 : i = n
      · subst h2; simp [hp]
      · by_cases h3 : i < n
        · have : i < n + 1 := by omega
          simp [h3, this]
        · have : ¬ i < n + 1 := by omega
          simp [h3, this]
def thS (r : Rho) (n : Nat) (how : Int32) : Int32 := setOf (fun k => decide (r (8 + k) = how)) n
def crS (r : Rho) (n : Nat) : Int32 := thS r n 1 &&& (r 36 ^^^ (-1))
def callsS (r : Rho) (k : Nat) : Int32 := if r (42 + k) = 2 then 2 * r (56 + k) else r (56 + k)
def bearsS (r : Rho) (k : Nat) : Int32 := if r (42 + k) < 4 then r (49 + k) else 2 * r (49 + k)
def farS (r : Rho) (k c : Nat) : Int32 := f_X7_off (r (29 + k)) (r (29 + c))
def tmS (r : Rho) (k c : Nat) : Int32 := if callsS r k ≤ farS r k c then 0 else callsS r k - farS r k c
/-- the noise at the cot of c, of those below k -/
def noS (r : Rho) (c : Nat) : Nat → Int32
  | 0 => 0
  | k + 1 => if k ≠ c ∧ r (8 + k) = 1 ∧ hb (r 36) k = false then noS r c k + tmS r k c else noS r c k
def loudS (r : Rho) (n k : Nat) : Bool := decide (bearsS r k < noS r k n)
/-- what becomes of one in a minute: how, left, calm -/
def stepS (r : Rho) (n k : Nat) : Int32 × Int32 × Int32 :=
  if r (8 + k) = 1 then
    (if 0 < r (15 + k) - (if hb (r 37) k ∧ hb (r 36) k = false then 2 else 1) then (1, r (15 + k) - (if hb (r 37) k ∧ hb (r 36) k = false then 2 else 1), r (22 + k)) else (0, 0, 0))
  else if hb (r 36) k then (r (8 + k), r (15 + k), r (22 + k))
  else if r (8 + k) = 2 then
    (if loudS r n k then (if r (42 + k) = 5 then (0, 0, 0) else (1, r 40, 0)) else (r (8 + k), r (15 + k), r (22 + k)))
  else
    (if (if loudS r n k then 0 else r (22 + k) + (if hb (r 37) k then 2 else if r (42 + k) = 3 then 0 else 1)) < r (1 + k) then r (8 + k) else 2, r (15 + k), if loudS r n k then 0 else r (22 + k) + (if hb (r 37) k then 2 else if r (42 + k) = 3 then 0 else 1))
def put3 (r : Rho) (k : Nat) (v : Int32 × Int32 × Int32) : Rho := upd (upd (upd r (8 + k) v.1) (15 + k) v.2.1) (22 + k) v.2.2
def partS (r : Rho) (n : Nat) : Nat → Rho
  | 0 => r
  | k + 1 => put3 (partS r n k) k (stepS r n k)
def passS (r : Rho) (n : Nat) : Rho := upd (partS r n n) 0 (r 0 + 1)
/-- bounds -/
def Ok (n : Nat) (r : Rho) : Prop := n ≤ 7 ∧ r 41 = nI n ∧ (∃ a, a < 2 ^ n ∧ r 36 = nI a) ∧ (∃ a, a < 2 ^ n ∧ r 37 = nI a) ∧ (∃ a, a < 4 ∧ r 39 = nI a) ∧ ∀ k, k < n → (∃ a, 1 ≤ a ∧ a < 6 ∧ r (42 + k) = nI a) ∧ (∃ a, a < 3 ∧ r (8 + k) = nI a) ∧ (∃ a, a < 7 ∧ r (29 + k) = nI a) ∧ (∃ a, a < 10 ∧ r (56 + k) = nI a) ∧ (∃ a, a < 10 ∧ r (49 + k) = nI a)
/-- where the class has it -/
def loc (j : Nat) : Nat × Nat :=
  if j = 0 then (0, 3) else if j < 8 then (2, j - 1) else if j < 15 then (6, j - 8) else if j < 22 then (7, j - 15) else if j < 29 then (8, j - 22) else if j < 36 then (5, j - 29)
  else if j = 36 then (0, 5) else if j = 37 then (0, 4) else if j = 38 then (9, 0) else if j = 39 then (0, 1) else if j = 40 then (0, 2) else if j = 41 then (0, 0) else if j < 49 then (1, j - 42) else if j < 56 then (3, j - 49) else (4, j - 56)
/-- the places that count when there are n children -/
def act (n j : Nat) : Bool :=
  decide (j = 0) || (decide (1 ≤ j) && decide (j < 1 + n)) || (decide (8 ≤ j) && decide (j < 8 + n)) || (decide (15 ≤ j) && decide (j < 15 + n)) || (decide (22 ≤ j) && decide (j < 22 + n)) || (decide (29 ≤ j) && decide (j < 29 + n)) || decide (j = 36) || decide (j = 37) || decide (j = 39) || decide (j = 40) || decide (j = 41) || (decide (42 ≤ j) && decide (j < 42 + n)) || (decide (49 ≤ j) && decide (j < 49 + n)) || (decide (56 ≤ j) && decide (j < 56 + n))
def RepC (D : wd_D) (q n : Nat) (r : Rho) : Prop := ∀ j, j < 63 → act n j = true → D.1 (q + (loc j).1) (loc j).2 = r j
def RepM (D : wd_D) (b : Nat) (r : Rho) : Prop := ∀ j, j < 63 → D.1 371 (b + j) = r j
theorem loc_inj : ∀ i, i < 63 → ∀ j, j < 63 → loc i = loc j → i = j := by decide +kernel
theorem RepC.up {D : wd_D} {q n : Nat} {r : Rho} (h : RepC D q n r) (j : Nat) (hj : j < 63) (v : Int32) : RepC (sI D (q + (loc j).1) (loc j).2 v) q n (upd r j v) := by
  intro i hi ha
  unfold sI upd
  by_cases e : i = j
  · subst e; simp
  · have hl : ¬ (q + (loc i).1 = q + (loc j).1 ∧ (loc i).2 = (loc j).2) := fun z => e (loc_inj i hi j hj (Prod.ext (by omega) z.2))
    simp only [e, if_false]
    rw [if_neg hl]
    exact h i hi ha
theorem RepM.up {D : wd_D} {b : Nat} {r : Rho} (h : RepM D b r) (j : Nat) (v : Int32) : RepM (sI D 371 (b + j) v) b (upd r j v) := by
  intro i hi
  unfold sI upd
  by_cases e : i = j
  · subst e; simp
  · have hl : ¬ (371 = 371 ∧ b + i = b + j) := fun z => e (by omega)
    rw [if_neg e]
    show (if 371 = 371 ∧ b + i = b + j then v else D.1 371 (b + i)) = r i
    rw [if_neg hl]
    exact h i hi
theorem bad_nI {c m : Nat} (h : c < m) (hm : m < 2147483648) : wd_bad (nI c) m = false := by
  unfold wd_bad
  have h1 : ¬ nI c < 0 := nI_pos (by omega)
  rw [nI_clamp (by omega)]
  simp [h1]
  omega
theorem rd_nI {c m : Nat} (D : wd_D) (k : Nat) (h : c < m) (hm : m < 2147483648 := by decide) : rd m D k (nI c) = some (D.1 k c) := by
  unfold rd
  rw [bad_nI h hm, nI_clamp (by omega)]; rfl
theorem wr_nI {c m : Nat} (D : wd_D) (k : Nat) (v : Int32) (h : c < m) (hm : m < 2147483648 := by decide) : wr m D k (nI c) v = some (sI D k c v) := by
  unfold wr
  rw [bad_nI h hm, nI_clamp (by omega)]; rfl
theorem ix_nI {c m : Nat} (h : c < m) (hm : m < 2147483648 := by decide) : ix m (nI c) = some c := by
  unfold ix
  rw [bad_nI h hm, nI_clamp (by omega)]; rfl
