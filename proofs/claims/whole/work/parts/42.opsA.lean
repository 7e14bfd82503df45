/-! calls that change nothing -/
theorem i10 {α : Type} {x y : α} : (if (1 : Int32) = 0 then x else y) = y := rfl
theorem ib {α : Type} {c : Prop} [Decidable c] {x y : α} : (if (if c then (1 : Int32) else 0) = 0 then x else y) = if c then y else x := by
  by_cases h : c
  · rw [if_pos h, if_pos h]; rfl
  · rw [if_neg h, if_neg h]; rfl
theorem i00 {α : Type} {x y : α} : (if (0 : Int32) = 0 then x else y) = x := rfl
theorem i01 {α : Type} {x y : α} : (if (0 : Int32) = 1 then x else y) = y := rfl
theorem i11 {α : Type} {x y : α} : (if (1 : Int32) = 1 then x else y) = x := rfl
section M0
variable {D : wd_D} {n : Nat} {r : Rho}
theorem m_those0 (h : RepM D 0 r) (ok : Ok n r) (how : Int32) : f_X7_thoseWho 0 how D = some (thS r n how) := m_those (b := 0) h (by decide) ok.1 ok.2.1 how
theorem m_those9 (h : RepM D 189 r) (ok : Ok n r) (how : Int32) : f_X7_thoseWho 189 how D = some (thS r n how) := m_those (b := 189) h (by decide) ok.1 ok.2.1 how
theorem m_out0 (h : RepM D 0 r) {c : Nat} (hc : c < 31) : f_X7_isOut 0 (nI c) D = some (if hb (r 36) c then 1 else 0) := m_out (b := 0) h (by decide) hc
theorem m_noise0 (h : RepM D 0 r) (ok : Ok n r) {c : Nat} (hc : c < 7) : f_X7_noiseAt 0 (nI c) D = some (noS r c n) := m_noise (b := 0) h (by decide) ok.1 ok.2.1 hc
theorem m_noise9 (h : RepM D 189 r) (ok : Ok n r) {c : Nat} (hc : c < 7) : f_X7_noiseAt 189 (nI c) D = some (noS r c n) := m_noise (b := 189) h (by decide) ok.1 ok.2.1 hc
theorem m_bears0 (h : RepM D 0 r) {c : Nat} (hc : c < 7) : f_X7_bears 0 (nI c) D = some (bearsS r c) := m_bears (b := 0) h (by decide) hc
theorem m_all9 (h : RepM D 189 r) (ok : Ok n r) : f_X7_allSleep 189 D = some (if alS r n = 0 then 1 else 0) := m_all (b := 189) h ok (by decide)
theorem m_pass0 (h : RepM D 0 r) (ok : Ok n r) : ∃ D', f_X7_passes 0 D = some D' ∧ RepM D' 0 (passS r n) ∧ FrM 0 D D' := m_pass (b := 0) h ok (by decide)
theorem m_pass9 (h : RepM D 189 r) (ok : Ok n r) : ∃ D', f_X7_passes 189 D = some D' ∧ RepM D' 189 (passS r n) ∧ FrM 189 D D' := m_pass (b := 189) h ok (by decide)
theorem m_lor0 (h : RepM D 0 r) (ok : Ok n r) (x : Int32) : ∃ D', f_X7_rolls 0 x D = some ((lorP r x n).2, D') ∧ RepM D' 0 (lorS r x n) ∧ FrN 0 D D' := m_lor (b := 0) h ok (by decide) x
theorem m_lor9 (h : RepM D 189 r) (ok : Ok n r) (x : Int32) : ∃ D', f_X7_rolls 189 x D = some ((lorP r x n).2, D') ∧ RepM D' 189 (lorS r x n) ∧ FrN 189 D D' := m_lor (b := 189) h ok (by decide) x
theorem m_swap0 (h : RepM D 0 r) {x y : Nat} (hx : x < 7) (hy : y < 7) : ∃ D', f_X7_swaps 0 (nI x) (nI y) D = some D' ∧ RepM D' 0 (swS r x y) ∧ FrN 0 D D' := m_swap (b := 0) h (by decide) hx hy
theorem m_swap9 (h : RepM D 189 r) {x y : Nat} (hx : x < 7) (hy : y < 7) : ∃ D', f_X7_swaps 189 (nI x) (nI y) D = some D' ∧ RepM D' 189 (swS r x y) ∧ FrN 189 D D' := m_swap (b := 189) h (by decide) hx hy
end M0
theorem op_status {D : wd_D} (h : Inv D) : f_X6_status D = f_X7_status D := h.1
theorem op_fault {D : wd_D} (h : Inv D) : f_X6_fault D = f_X7_fault D := h.2.1
theorem op_kind {D : wd_D} (h : Inv D) (a : Int32) : ∃ v, f_X6_kind a D = some v ∧ f_X7_kind a D = some v := by
  obtain ⟨-, -, -, -, ⟨n, r, ⟨hc, hm, ok, h38⟩, -⟩, -, -⟩ := h
  unfold f_X6_kind f_X7_kind
  rw [noChild_e hc ok, isChild_e hm ok, Option.bind_some]
  by_cases hz : (if a < 0 then (1 : Int32) else if a < nI n then 0 else 1) = 0
  · obtain ⟨c, h1, rfl⟩ := child_nI ok.1 hz
    rw [if_pos hz, if_pos hz, if_neg (by decide), hc.r42 ok.1 h1, hm.z42 (by have := ok.1; omega)]
    exact ⟨_, rfl, rfl⟩
  · rw [if_neg hz, if_neg hz, if_pos rfl]
    exact ⟨_, rfl, rfl⟩
theorem op_child {D : wd_D} (h : Inv D) (a b : Int32) : ∃ v, f_X6_child a b D = some v ∧ f_X7_child a b D = some v := by
  obtain ⟨-, -, -, -, ⟨n, r, ⟨hc, hm, ok, h38⟩, -⟩, -, -⟩ := h
  unfold f_X6_child f_X7_child
  rw [noChild_e hc ok, isChild_e hm ok, Option.bind_some]
  by_cases hz : (if a < 0 then (1 : Int32) else if a < nI n then 0 else 1) = 0
  · obtain ⟨c, h1, rfl⟩ := child_nI ok.1 hz
    have h7 : c < 7 := by have := ok.1; omega
    rw [if_pos hz, if_pos hz, i10, hc.r1 ok.1 h1, hc.r49 ok.1 h1, hc.r56 ok.1 h1, hc.r29 ok.1 h1, hc.r8 ok.1 h1, hc.r15 ok.1 h1, hc.r22 ok.1 h1, hm.z1 h7, hm.z49 h7, hm.z56 h7, hm.z29 h7, hm.z8 h7, hm.z15 h7, hm.z22 h7, c_criers hc ok.1 ok.2.1, m_noise0 hm ok h7]
    simp only [Option.bind_some]
    rw [c_noise hc ok h1]
    simp only [Option.bind_some]
    repeat' split
    all_goals exact ⟨_, rfl, rfl⟩
  · rw [if_neg hz, if_neg hz, if_pos rfl]
    exact ⟨_, rfl, rfl⟩
theorem op_stand {D : wd_D} (h : Inv D) (a : Int32) : ∃ v, f_X6_stand a D = some v ∧ f_X7_stand a D = some v := by
  obtain ⟨-, -, -, -, ⟨n, r, hN, -⟩, -, -⟩ := h
  obtain ⟨hc, hm, ok, h38⟩ := id hN
  unfold f_X6_stand f_X7_stand
  rw [noRoom_e hN, isRoom_e hN, Option.bind_some]
  by_cases e0 : n = 0
  · rw [if_pos e0, if_pos e0, if_neg (by decide), if_pos rfl]; exact ⟨_, rfl, rfl⟩
  · rw [if_neg e0, if_neg e0, i00, i10, c_those hc ok.1 ok.2.1, c_those hc ok.1 ok.2.1, c_those hc ok.1 ok.2.1, hc.f36, hc.f37, hm.y36, hm.y37, m_those0 hm ok, show f_X7_in a.toInt64 0 2 = if f_X6_beyond a 0 2 = 0 then 1 else 0 from in_bey a 0 2]
    simp only [Option.bind_some]
    by_cases hz : f_X6_beyond a 0 2 = 0
    · obtain ⟨m, h1, h2, rfl⟩ := bey_nI (lo := 0) (hi := 2) (by decide) (by decide) hz
      rw [if_pos hz, i10]
      rcases (show m = 0 ∨ m = 1 ∨ m = 2 by omega) with rfl | rfl | rfl
      · exact ⟨_, rfl, rfl⟩
      · exact ⟨_, rfl, rfl⟩
      · exact ⟨_, rfl, rfl⟩
    · rw [if_neg hz, if_pos rfl]
      have n0 : ¬ a = 0 := fun z => hz (by subst z; decide)
      have n1 : ¬ a = 1 := fun z => hz (by subst z; decide)
      have n2 : ¬ a = 2 := fun z => hz (by subst z; decide)
      rw [if_neg n0, if_neg n1, if_neg n2]
      repeat' split
      all_goals exact ⟨_, rfl, rfl⟩
theorem op_trace {D : wd_D} (h : Inv D) (a : Int32) : ∃ v, f_X6_trace a D = some v ∧ f_X7_trace a D = some v := by
  obtain ⟨-, -, -, -, -, -, ⟨t, h1, h2, h3, h4⟩⟩ := h
  unfold f_X6_trace f_X7_trace
  rw [gI_e, gI_e, h2, h3, show (0 : Int64) = (0 : Int32).toInt64 from rfl, in_bey]
  have e1 : (nI t - 1).toInt = (t : Int) - 1 := by
    rw [fb_subI (by rw [nI_toInt (by omega), show (1 : Int32).toInt = 1 by decide]; omega) (by rw [nI_toInt (by omega), show (1 : Int32).toInt = 1 by decide]; omega), nI_toInt (by omega), show (1 : Int32).toInt = 1 by decide]
  have e2 : (nI t).toInt = (t : Int) := nI_toInt (by omega)
  unfold f_X6_beyond
  by_cases c1 : a < 0
  · rw [if_pos c1, if_pos c1, i10, i00]; exact ⟨_, rfl, rfl⟩
  · rw [if_neg c1, if_neg c1]
    by_cases c2 : a < nI t
    · rw [if_pos c2, if_pos (show a ≤ nI t - 1 by rw [fa_le, e1]; rw [fa_lt, e2] at c2; omega), i00, i10]
      rw [fa_lt, e2] at c2
      rw [fa_lt, show (0 : Int32).toInt = 0 by decide] at c1
      have e3 : a = nI a.toInt.toNat := by rw [fa_eq, nI_toInt (by omega)]; omega
      have e4 : a.toInt.toNat < t := by omega
      rw [e3, rd_nI D 335 (show a.toInt.toNat < 16 by omega), rd_nI D 378 (show a.toInt.toNat < 16 by omega), h4 _ e4]
      exact ⟨_, rfl, rfl⟩
    · rw [if_neg c2, if_neg (show ¬ a ≤ nI t - 1 by rw [fa_le, e1]; rw [fa_lt, e2] at c2; omega), i10, i00]; exact ⟨_, rfl, rfl⟩
def leS (r : Rho) : Nat → Int32
  | 0 => 99
  | k + 1 => if r (8 + k) = 2 ∧ hb (r 36) k = false then (if bearsS r k < leS r k then bearsS r k else leS r k) else leS r k
theorem c_sil_L {D : wd_D} {n : Nat} {r : Rho} (h : RepC D 4 n r) (ok : Ok n r) : ∀ d k m, k + d = n → d < m → f_X3_loudestUnheeded_L5 m 4 (leS r k) (nI k) D = some (leS r n) := by
  have hn := ok.1
  intro d
  induction d with
  | zero =>
    intro k m hk hm
    obtain ⟨m, rfl⟩ : ∃ m', m = m' + 1 := ⟨m - 1, by omega⟩
    rw [f_X3_loudestUnheeded_L5, h.f41, ok.2.1, if_pos ((le_nI (by omega) (by omega)).mpr (by omega))]
    have : k = n := by omega
    subst this; rfl
  | succ d ih =>
    intro k m hk hm
    obtain ⟨m, rfl⟩ : ∃ m', m = m' + 1 := ⟨m - 1, by omega⟩
    have e := ih (k + 1) m (by omega) (by omega)
    have e0 : leS r (k + 1) = if r (8 + k) = 2 ∧ hb (r 36) k = false then (if bearsS r k < leS r k then bearsS r k else leS r k) else leS r k := rfl
    rw [f_X3_loudestUnheeded_L5, h.f41, ok.2.1, if_neg (fun z => by have := (le_nI (by omega) (by omega)).mp z; omega), h.r8 hn (by omega), Option.bind_some]
    by_cases h2 : r (8 + k) = 2
    · rw [if_pos h2, h.f36, hb_has (by omega)]
      cases h36 : hb (r 36) k with
      | true =>
        rw [e0, if_neg (fun z => by rw [h36] at z; exact absurd z.2 (by decide))] at e
        rw [if_neg (by simp)]
        simp only [f_X3_loudestUnheeded_L44, ap, nI_1]
        exact e
      | false =>
        rw [e0, if_pos ⟨h2, h36⟩] at e
        rw [if_pos (by simp), c_bears h hn ok (by omega), Option.bind_some]
        simp only [f_X3_loudestUnheeded_L44, ap, nI_1]
        exact e
    · rw [e0, if_neg (fun z => h2 z.1)] at e
      rw [if_neg h2]
      simp only [f_X3_loudestUnheeded_L44, ap, nI_1]
      exact e
theorem m_sil_L {D : wd_D} {n : Nat} {r : Rho} (h : RepM D 0 r) (ok : Ok n r) : ∀ d k m, k + d = n → d < m → f_X7_silence_L15 m (leS r k) (nI k) D = some (leS r n) := by
  have hn := ok.1
  intro d
  induction d with
  | zero =>
    intro k m hk hm
    obtain ⟨m, rfl⟩ : ∃ m', m = m' + 1 := ⟨m - 1, by omega⟩
    rw [f_X7_silence_L15, h.y41, Option.bind_some, ok.2.1, if_pos ((le_nI (by omega) (by omega)).mpr (by omega))]
    have : k = n := by omega
    subst this; rfl
  | succ d ih =>
    intro k m hk hm
    obtain ⟨m, rfl⟩ : ∃ m', m = m' + 1 := ⟨m - 1, by omega⟩
    have e := ih (k + 1) m (by omega) (by omega)
    have e0 : leS r (k + 1) = if r (8 + k) = 2 ∧ hb (r 36) k = false then (if bearsS r k < leS r k then bearsS r k else leS r k) else leS r k := rfl
    rw [f_X7_silence_L15, h.y41, Option.bind_some, ok.2.1, if_neg (fun z => by have := (le_nI (by omega) (by omega)).mp z; omega), h.z8 (by omega), Option.bind_some]
    have skip : ¬ (r (8 + k) = 2 ∧ hb (r 36) k = false) → f_X7_silence_L52 (f_X7_silence_L15 m) (leS r k) (nI k) D = some (leS r n) := by
      intro hno
      rw [e0, if_neg hno] at e
      simp only [f_X7_silence_L52, f_X7_silence_L53, if_true, f_X7_silence_L77, f_X7_silence_L78, ap, nI_1]
      exact e
    by_cases h2 : r (8 + k) = 2
    · rw [if_pos h2, m_out0 h (by omega), Option.bind_some]
      cases h36 : hb (r 36) k with
      | true =>
        rw [if_neg (by simp)]
        exact skip (fun z => by rw [h36] at z; exact absurd z.2 (by decide))
      | false =>
        rw [e0, if_pos ⟨h2, h36⟩] at e
        rw [if_pos (by simp), f_X7_silence_L53, if_neg (by decide), m_bears0 h (by omega), Option.bind_some, Option.bind_some]
        by_cases hl : leS r k ≤ bearsS r k
        · rw [if_neg (Int32.not_lt.mpr hl)] at e
          rw [if_pos hl]
          simp only [f_X7_silence_L77, f_X7_silence_L78, ap, nI_1]
          exact e
        · rw [if_pos (Int32.not_le.mp hl)] at e
          rw [if_neg hl]
          simp only [f_X7_silence_L78, ap, nI_1]
          exact e
    · rw [if_neg h2]
      exact skip (fun z => h2 z.1)
theorem op_silence {D : wd_D} (h : Inv D) : ∃ v, f_X6_silence D = some v ∧ f_X7_silence D = some v := by
  obtain ⟨-, -, -, -, ⟨n, r, hN, -⟩, -, -⟩ := h
  obtain ⟨hc, hm, ok, h38⟩ := id hN
  have hn := ok.1
  unfold f_X6_silence f_X7_silence
  rw [noRoom_e hN, isRoom_e hN, Option.bind_some]
  by_cases e0 : n = 0
  · rw [if_pos e0, if_pos e0, if_neg (by decide), if_pos rfl]; exact ⟨_, rfl, rfl⟩
  · rw [if_neg e0, if_neg e0, if_pos rfl, if_neg (by decide)]
    unfold f_X3_loudestUnheeded
    have a1 := c_sil_L hc ok n 0 FU (by omega) (by unfold FU; omega)
    have a2 := m_sil_L hm ok n 0 FU (by omega) (by unfold FU; omega)
    refine ⟨leS r n, ?_, a2⟩
    rw [show f_X3_loudestUnheeded_L5 FU 4 99 0 D = some (leS r n) from a1]; rfl
def luS (r : Rho) (n : Nat) : Nat → Nat
  | 0 => 0
  | k + 1 => if noS r (k + 1) n ≤ noS r (luS r n k) n then luS r n k else k + 1
theorem luS_le {r : Rho} {n : Nat} : ∀ k, luS r n k ≤ k
  | 0 => Nat.le_refl 0
  | k + 1 => by
    unfold luS
    have := luS_le (r := r) (n := n) k
    split <;> omega
theorem op_loudest {D : wd_D} (h : Inv D) : ∃ v, f_X6_loudest D = some v ∧ f_X7_loudest D = some v := by
  obtain ⟨-, -, -, -, ⟨n, r, hN, -⟩, -, -⟩ := h
  obtain ⟨hc, hm, ok, h38⟩ := id hN
  have hn := ok.1
  unfold f_X6_loudest f_X7_loudest
  rw [noRoom_e hN, isRoom_e hN, Option.bind_some]
  by_cases e0 : n = 0
  · rw [if_pos e0, if_pos e0, if_neg (by decide), if_pos rfl]; exact ⟨_, rfl, rfl⟩
  · rw [if_neg e0, if_neg e0, if_pos rfl, if_neg (by decide)]
    have key : ∀ d k m, k + 1 + d = n → d < m → f_X3_whereLoudest_L9 m 4 (crS r n) (nI (luS r n k)) (nI (k + 1)) D = some (nI (luS r n (n - 1))) ∧ f_X7_loudest_L14 m (nI (luS r n k)) (nI (k + 1)) D = some (nI (luS r n (n - 1))) := by
      intro d
      induction d with
      | zero =>
        intro k m hk hm'
        obtain ⟨m, rfl⟩ : ∃ m', m = m' + 1 := ⟨m - 1, by omega⟩
        have e : k = n - 1 := by omega
        rw [f_X3_whereLoudest_L9, hc.f41, ok.2.1, if_pos ((le_nI (by omega) (by omega)).mpr (by omega)), f_X7_loudest_L14, hm.y41, Option.bind_some, ok.2.1, if_pos ((le_nI (by omega) (by omega)).mpr (by omega)), e]
        exact ⟨rfl, rfl⟩
      | succ d ih =>
        intro k m hk hm'
        obtain ⟨m, rfl⟩ : ∃ m', m = m' + 1 := ⟨m - 1, by omega⟩
        have hl := luS_le (r := r) (n := n) k
        have e := ih (k + 1) m (by omega) (by omega)
        have ed : luS r n (k + 1) = if noS r (k + 1) n ≤ noS r (luS r n k) n then luS r n k else k + 1 := rfl
        rw [f_X3_whereLoudest_L9, hc.f41, ok.2.1, if_neg (fun z => by have := (le_nI (by omega) (by omega)).mp z; omega), f_X7_loudest_L14, hm.y41, Option.bind_some, ok.2.1, if_neg (fun z => by have := (le_nI (by omega) (by omega)).mp z; omega), c_noise hc ok (by omega), Option.bind_some, c_noise hc ok (by omega), Option.bind_some, m_noise0 hm ok (by omega), Option.bind_some, m_noise0 hm ok (by omega), Option.bind_some]
        by_cases hx : noS r (k + 1) n ≤ noS r (luS r n k) n
        · rw [if_pos hx] at ed
          rw [ed] at e
          rw [if_pos hx, if_pos hx]
          simp only [f_X3_whereLoudest_L34, f_X7_loudest_L45, ap, nI_1]
          exact e
        · rw [if_neg hx] at ed
          rw [ed] at e
          rw [if_neg hx, if_neg hx]
          simp only [f_X3_whereLoudest_L34, f_X7_loudest_L45, ap, nI_1]
          exact e
    obtain ⟨a1, a2⟩ := key (n - 1) 0 FU (by omega) (by unfold FU; omega)
    refine ⟨nI (luS r n (n - 1)), ?_, a2⟩
    unfold f_X3_whereLoudest
    rw [c_criers hc ok.1 ok.2.1, Option.bind_some, show f_X3_whereLoudest_L9 FU 4 (crS r n) 0 1 D = _ from a1]; rfl
theorem nI_neg {k : Nat} (h : k < 2147483648) : ¬ nI k = -1 := fun z => by
  have e1 := congrArg Int32.toInt z
  rw [nI_toInt h, show (-1 : Int32).toInt = -1 by decide] at e1
  omega
theorem op_count {D : wd_D} (h : Inv D) (a : Int32) : ∃ v, f_X6_count a D = some v ∧ f_X7_count a D = some v := by
  obtain ⟨-, -, ⟨tn, -, t1, t2, -⟩, hR, ⟨n, r, hN, ⟨s, nx, -, -, -, p1, p2, -⟩⟩, -, -⟩ := h
  obtain ⟨hc, hm, ok, h38⟩ := id hN
  unfold f_X6_count f_X7_count
  by_cases a0 : a = 0
  · rw [if_pos a0, if_pos a0]
    have key : ∀ d k m (x : Int32), k + d = 8 → d < m → ∃ v, f_X6_presentRows_L4 m x (nI k) D = some v ∧ f_X7_count_L52 m a x (nI k) D = some v := by
      intro d
      induction d with
      | zero =>
        intro k m x hk hm'
        obtain ⟨m, rfl⟩ : ∃ m', m = m' + 1 := ⟨m - 1, by omega⟩
        have e : k = 8 := by omega
        subst e
        rw [f_X6_presentRows_L4, if_pos (by decide), f_X7_count_L52, if_pos (by decide)]
        exact ⟨_, rfl, rfl⟩
      | succ d ih =>
        intro k m x hk hm'
        obtain ⟨m, rfl⟩ : ∃ m', m = m' + 1 := ⟨m - 1, by omega⟩
        have hlt : ¬ (8 : Int32) ≤ nI k := fun z => by
          have := (le_nI (a := 8) (b := k) (by omega) (by omega)).mp z; omega
        rw [f_X6_presentRows_L4, if_neg hlt, f_X7_count_L52, if_neg hlt, ix_nI (show k < 8 by omega), Option.bind_some, rd_nI D 375 (show k < 8 by omega), Option.bind_some, gI_e]
        rcases hR k (by omega) with ⟨g1, g2⟩ | ⟨l, sz, g0, g0', g1, g2, g3, g4, g5⟩
        · rw [if_pos g1, g2, if_neg (by decide)]
          simp only [f_X6_presentRows_L26, f_X7_count_L73, ap, nI_1]
          rw [show x + 0 = x from Int32.add_zero x]
          exact ih (k + 1) m x (by omega) (by omega)
        · rw [g1, if_neg (nI_neg (by omega)), g4, if_pos (nI_pos' (by omega))]
          simp only [f_X6_presentRows_L26, f_X7_count_L73, ap, nI_1]
          exact ih (k + 1) m (x + 1) (by omega) (by omega)
    obtain ⟨v, e1, e2⟩ := key 8 0 FU 0 (by omega) (by unfold FU; omega)
    refine ⟨v, ?_, e2⟩
    unfold f_X6_presentRows
    rw [show f_X6_presentRows_L4 FU 0 0 D = some v from e1]; rfl
  · obtain ⟨b36, b1, b2⟩ := ok.2.2.1
    have hb7 := pow_le7 ok.1
    rw [if_neg a0, if_neg a0, hc.f41, hc.f0, c_those hc ok.1 ok.2.1, c_those hc ok.1 ok.2.1, hc.f36, gI_e, gI_e, gI_e, gI_e, p1, p2, t1, t2, hm.y41, hm.y0, hm.y36, m_those0 hm ok, m_those0 hm ok]
    simp only [Option.bind_some]
    rw [ones_th ok.1, ones_th ok.1, b2, ones_e b36 (by omega)]
    simp only [Option.bind_some]
    repeat' split
    all_goals exact ⟨_, rfl, rfl⟩
