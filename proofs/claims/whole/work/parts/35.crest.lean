/-! minutes, lorries, copies of the class's room -/
theorem still_it {r : Rho} {n : Nat} (hn : n ≤ 7) (h : StillS r n) : ∀ m j, itS r n m j = upd r 0 (r 0 + nI m) j
  | 0, j => by
    show r j = _
    by_cases e : j = 0
    · subst e; rw [upd_s, show nI 0 = 0 from rfl, Int32.add_zero]
    · rw [upd_n e]
  | m + 1, j => by
    have ih := still_it hn h m
    have e1 : ∀ j, j ≠ 0 → itS r n m j = r j := fun j hj => by rw [ih j, upd_n hj]
    have hs : StillS (itS r n m) n := fun k hk => by
      rw [stepS_cong e1, h k hk, e1 (8 + k) (by omega), e1 (15 + k) (by omega), e1 (22 + k) (by omega)]
    show passS (itS r n m) n j = _
    rw [still_pass hn hs j]
    by_cases e : j = 0
    · subst e; rw [upd_s, upd_s, ih 0, upd_s, Int32.add_assoc, nI_1]
    · rw [upd_n e, upd_n e, e1 j e]
theorem itS_add {r : Rho} {n : Nat} (a : Nat) : ∀ b, itS r n (a + b) = itS (itS r n a) n b
  | 0 => rfl
  | b + 1 => by
    show passS (itS r n (a + b)) n = passS (itS (itS r n a) n b) n
    rw [itS_add a b]
section CM
variable {q n : Nat} {r : Rho}
theorem c_mins_L (ok : Ok n r) {M : Nat} (hM : M ≤ 900) : ∀ d i m D, i + d = M → d < m → RepC D q n (itS r n i) → ∃ D', f_X3_passMinutes_L2 m q (nI M) (nI i) D = some D' ∧ RepC D' q n (itS r n M) ∧ Fr q D D' := by
  intro d
  induction d with
  | zero =>
    intro i m D hi hm h
    obtain ⟨m, rfl⟩ : ∃ m', m = m' + 1 := ⟨m - 1, by omega⟩
    rw [f_X3_passMinutes_L2, if_pos ((le_nI (by omega) (by omega)).mpr (by omega))]
    have e : i = M := by omega
    subst e
    exact ⟨D, rfl, h, Fr.rf⟩
  | succ d ih =>
    intro i m D hi hm h
    obtain ⟨m, rfl⟩ : ∃ m', m = m' + 1 := ⟨m - 1, by omega⟩
    rw [f_X3_passMinutes_L2, if_neg (fun z => by have := (le_nI (by omega) (by omega)).mp z; omega)]
    obtain ⟨b, D1, e, a1, a2, a3, a4⟩ := c_pass h (ok.it i)
    rw [e, Option.bind_some]
    by_cases hb : b = 0
    · simp only [hb, if_true, ap]
      refine ⟨_, rfl, ?_, a2.tr Fr.s0⟩
      have hst := a4 hb
      rw [a1.f0, passS_0]
      refine (a1.v0 _).cong (fun j _ => ?_)
      have e2 : M = i + (M - i) := by omega
      rw [e2, itS_add, still_it ok.hn hst]
      by_cases e0 : j = 0
      · subst e0
        rw [upd_s, upd_s, Int32.add_assoc]
        congr 1
        rw [← e2, show (1 : Int32) = nI 1 from rfl, pk_sub (by omega), pk_sub (by omega), nI_add]
        congr 1
        omega
      · rw [upd_n e0, upd_n e0, still_pass ok.hn hst j, upd_n e0]
    · simp only [hb, if_false, ap, nI_1]
      obtain ⟨D', g1, g2, g3⟩ := ih (i + 1) m D1 (by omega) (by omega) a1
      exact ⟨D', g1, g2, a2.tr g3⟩
theorem c_mins {D : wd_D} (h : RepC D q n r) (ok : Ok n r) {M : Nat} (hM : M ≤ 900) : ∃ D', f_X3_passMinutes q (nI M) D = some D' ∧ RepC D' q n (itS r n M) ∧ Fr q D D' := by
  unfold f_X3_passMinutes
  exact c_mins_L ok hM M 0 FU D (by omega) (by unfold FU; omega) h
end CM
-- a lorry
def evS (r : Rho) : Int32 := ((1 : Int32) <<< (r 41 &&& 31)) - 1
def wakeS (r : Rho) (x : Int32) (k : Nat) : Prop := r (8 + k) = 2 ∧ hb (r 36) k = false ∧ bearsS r k < x
theorem wakeS_or (r : Rho) (x : Int32) (k : Nat) : wakeS r x k ∨ ¬ wakeS r x k := Classical.em _
def wokeV (r : Rho) (k : Nat) : Int32 × Int32 × Int32 := if r (42 + k) = 5 then (0, 0, 0) else (1, r 40, 0)
def lorP (r : Rho) (x : Int32) : Nat → Rho × Int32
  | 0 => (r, 0)
  | k + 1 => if r (8 + k) = 2 ∧ hb (r 36) k = false ∧ bearsS r k < x then (put3 (lorP r x k).1 k (wokeV r k), (lorP r x k).2 + 1) else lorP r x k
theorem lorP_out {r : Rho} {x : Int32} : ∀ k, k ≤ 7 → ∀ j, (j < 8 ∨ 29 ≤ j) → (lorP r x k).1 j = r j
  | 0, _, _, _ => rfl
  | k + 1, h, j, hj => by
    unfold lorP
    split
    · show put3 (lorP r x k).1 k (wokeV r k) j = r j
      rw [put3_out (by omega) (by omega) (by omega)]
      exact lorP_out k (by omega) j hj
    · exact lorP_out k (by omega) j hj
theorem lorP_ge {r : Rho} {x : Int32} : ∀ k, k ≤ 7 → ∀ c, k ≤ c → c < 7 → (lorP r x k).1 (8 + c) = r (8 + c) ∧ (lorP r x k).1 (15 + c) = r (15 + c) ∧ (lorP r x k).1 (22 + c) = r (22 + c)
  | 0, _, _, _, _ => ⟨rfl, rfl, rfl⟩
  | k + 1, h, c, h1, h2 => by
    obtain ⟨a, b, d⟩ := lorP_ge (r := r) (x := x) k (by omega) c (by omega) h2
    unfold lorP
    split
    · refine ⟨?_, ?_, ?_⟩
      · show put3 (lorP r x k).1 k (wokeV r k) (8 + c) = _
        rw [put3_out (by omega) (by omega) (by omega), a]
      · show put3 (lorP r x k).1 k (wokeV r k) (15 + c) = _
        rw [put3_out (by omega) (by omega) (by omega), b]
      · show put3 (lorP r x k).1 k (wokeV r k) (22 + c) = _
        rw [put3_out (by omega) (by omega) (by omega), d]
    · exact ⟨a, b, d⟩
theorem lorP_how {r : Rho} {x : Int32} {n : Nat} (ok : Ok n r) : ∀ k, k ≤ n → ∀ c, c < n → ∃ a, a < 3 ∧ (lorP r x k).1 (8 + c) = nI a
  | 0, _, c, hc => (ok.2.2.2.2.2 c hc).2.1
  | k + 1, h, c, hc => by
    have ih := lorP_how (x := x) ok k (by omega) c hc
    have hn := ok.1
    unfold lorP
    split
    · show ∃ a, a < 3 ∧ put3 (lorP r x k).1 k (wokeV r k) (8 + c) = nI a
      by_cases e : c = k
      · subst e
        rw [put3_1]; unfold wokeV
        split
        · exact ⟨0, by decide, rfl⟩
        · exact ⟨1, by decide, rfl⟩
      · rw [put3_out (by omega) (by omega) (by omega)]; exact ih
    · exact ih
def lorS (r : Rho) (x : Int32) (n : Nat) : Rho := (lorP r x n).1
theorem Ok.lor {r : Rho} {n : Nat} (ok : Ok n r) (x : Int32) : Ok n (lorS r x n) := by
  have hn := ok.1
  have hh := lorP_how (x := x) ok n (Nat.le_refl n)
  obtain ⟨h1, h2, h3, h4, h5, h6⟩ := ok
  have o : ∀ j, (j < 8 ∨ 29 ≤ j) → lorS r x n j = r j := lorP_out n hn
  refine ⟨h1, ?_, ?_, ?_, ?_, fun k hk => ?_⟩
  · rw [o _ (by omega)]; exact h2
  · rw [o _ (by omega)]; exact h3
  · rw [o _ (by omega)]; exact h4
  · rw [o _ (by omega)]; exact h5
  · obtain ⟨a1, a2, a3, a4, a5⟩ := h6 k hk
    refine ⟨?_, hh k hk, ?_, ?_, ?_⟩
    · rw [o _ (by omega)]; exact a1
    · rw [o _ (by omega)]; exact a3
    · rw [o _ (by omega)]; exact a4
    · rw [o _ (by omega)]; exact a5
section CL
variable {q n : Nat} {r : Rho}
theorem c_lor_L (ok : Ok n r) (x : Int32) : ∀ d k m D, k + d = n → d < m → RepC D q n (lorP r x k).1 → ∃ D', f_X3_passLorry_L4 m q x (lorP r x k).2 (nI k) D = some ((lorP r x n).2, D') ∧ RepC D' q n (lorS r x n) ∧ Fr q D D' := by
  have hn := ok.1
  intro d
  induction d with
  | zero =>
    intro k m D hk hm h
    obtain ⟨m, rfl⟩ : ∃ m', m = m' + 1 := ⟨m - 1, by omega⟩
    have e : k = n := by omega
    subst e
    rw [f_X3_passLorry_L4, h.f41, lorP_out k hn 41 (by omega), ok.2.1, if_pos ((le_nI (by omega) (by omega)).mpr (by omega))]
    exact ⟨D, rfl, h, Fr.rf⟩
  | succ d ih =>
    intro k m D hk hm h
    obtain ⟨m, rfl⟩ : ∃ m', m = m' + 1 := ⟨m - 1, by omega⟩
    have hL : Like n (lorP r x k).1 r := fun j hj => lorP_out k (by omega) j (by omega)
    obtain ⟨g1, g2, g3⟩ := lorP_ge (r := r) (x := x) k (by omega) k (by omega) (by omega)
    rw [f_X3_passLorry_L4, h.f41, hL 41 (by omega), ok.2.1, if_neg (fun z => by have := (le_nI (by omega) (by omega)).mp z; omega), h.r8 hn (by omega), Option.bind_some, g1]
    have ih' := ih (k + 1) m
    have skip : ¬ (r (8 + k) = 2 ∧ hb (r 36) k = false ∧ bearsS r k < x) → ∃ D', f_X3_passLorry_L50 (f_X3_passLorry_L4 m) q x (lorP r x k).2 (nI k) D = some ((lorP r x n).2, D') ∧ RepC D' q n (lorS r x n) ∧ Fr q D D' := by
      intro hno
      unfold f_X3_passLorry_L50
      simp only [ap, nI_1]
      have e : lorP r x (k + 1) = lorP r x k := by
        show (if _ then _ else _) = _
        rw [if_neg hno]
      have := ih' D (by omega) (by omega) (by rw [e]; exact h)
      rw [e] at this
      exact this
    by_cases h2 : r (8 + k) = 2
    · rw [if_pos h2, h.f36, hL 36 (by omega), hb_has (by omega)]
      cases h36 : hb (r 36) k with
      | true =>
        rw [if_neg (by simp)]
        exact skip (fun z => by rw [h36] at z; exact absurd z.2.1 (by decide))
      | false =>
        rw [if_pos (by simp), c_bears' h hL ok (by omega), Option.bind_some]
        by_cases hx : x ≤ bearsS r k
        · rw [if_pos hx]
          exact skip (fun z => absurd z.2.2 (Int32.not_lt.mpr hx))
        · rw [if_neg hx]
          have hy : r (8 + k) = 2 ∧ hb (r 36) k = false ∧ bearsS r k < x := ⟨h2, h36, Int32.not_le.mp hx⟩
          obtain ⟨D1, e, a, b⟩ := c_wake h hn (c := k) (by omega)
          rw [e, Option.bind_some]
          unfold f_X3_passLorry_L50
          simp only [ap, nI_1]
          have e2 : lorP r x (k + 1) = (put3 (lorP r x k).1 k (wokeV r k), (lorP r x k).2 + 1) := by
            show (if _ then _ else _) = _
            rw [if_pos hy]
          have ev : (if (lorP r x k).1 (42 + k) = 5 then ((0, 0, 0) : Int32 × Int32 × Int32) else (1, (lorP r x k).1 40, 0)) = wokeV r k := by
            unfold wokeV; rw [hL (42 + k) (by omega), hL 40 (by omega)]
          rw [ev] at a
          have := ih' D1 (by omega) (by omega) (by rw [e2]; exact a)
          rw [e2] at this
          obtain ⟨D', f1, f2, f3⟩ := this
          exact ⟨D', f1, f2, b.tr f3⟩
    · rw [if_neg h2]
      exact skip (fun z => h2 z.1)
theorem c_lor {D : wd_D} (h : RepC D q n r) (ok : Ok n r) (x : Int32) : ∃ D', f_X3_passLorry q x D = some ((lorP r x n).2, D') ∧ RepC D' q n (lorS r x n) ∧ Fr q D D' := by
  unfold f_X3_passLorry
  exact c_lor_L ok x n 0 FU D (by omega) (by have := ok.1; unfold FU; omega) h
theorem c_all {D : wd_D} (h : RepC D q n r) (ok : Ok n r) (x : Int32) : f_X3_sleepAll q x D = some (if x &&& (thS r n 2 ^^^ (-1)) = 0 then 1 else 0) := by
  unfold f_X3_sleepAll
  rw [c_those h ok.1 ok.2.1, Option.bind_some]
  split <;> rfl
def swS (r : Rho) (a b : Nat) : Rho := upd (upd r (29 + a) (r (29 + b))) (29 + b) (r (29 + a))
theorem c_swap {D : wd_D} (h : RepC D q n r) (hn : n ≤ 7) {a b : Nat} (ha : a < n) (hb : b < n) : ∃ D', f_X3_swapCots q (nI a) (nI b) D = some D' ∧ RepC D' q n (swS r a b) ∧ Fr q D D' := by
  unfold f_X3_swapCots
  rw [h.r29 hn ha, Option.bind_some, h.r29 hn hb, Option.bind_some, wr_nI D (q + 5) _ (show a < 7 by omega), Option.bind_some, wr_nI _ (q + 5) _ (show b < 7 by omega), Option.bind_some]
  exact ⟨_, rfl, (h.u29 (by omega) _).u29 (by omega) _, (Fr.s (by decide)).tr (Fr.s (by decide))⟩
theorem c_every {D : wd_D} (h : RepC D q n r) : f_X3_everybody q D = evS r := by
  unfold f_X3_everybody
  rw [h.f41]; rfl
end CL
-- a room becomes another
theorem cp7 (D : wd_D) (a b : Nat) : cp 7 7 D a 0 b 0 7 = some (cpD D a 0 b 0 7) := by
  unfold cp; rw [if_neg (by decide)]; rfl
theorem cpD_in {D : wd_D} {a b j : Nat} (h : j < 7) : (cpD D a 0 b 0 7).1 b j = D.1 a j := by
  show (if b = b ∧ 0 ≤ j ∧ j < 0 + 7 then D.1 a (0 + (j - 0)) else D.1 b j) = _
  rw [if_pos ⟨rfl, by omega, by omega⟩, Nat.sub_zero, Nat.zero_add]
theorem cpD_ne {D : wd_D} {a b k j : Nat} (h : k ≠ b) : (cpD D a 0 b 0 7).1 k j = D.1 k j := by
  show (if k = b ∧ 0 ≤ j ∧ j < 0 + 7 then D.1 a (0 + (j - 0)) else D.1 k j) = _
  rw [if_neg (fun z => h z.1)]
theorem gI_e (D : wd_D) (k j : Nat) : gI D k j = D.1 k j := rfl
theorem c_become {D : wd_D} {t q : Nat} (hd : t + 9 ≤ q ∨ q + 9 ≤ t) : ∃ D', f_X3_become t q D = some D' ∧ (∀ j, j < 6 → D'.1 t j = D.1 q j) ∧ (∀ a, 1 ≤ a → a < 9 → ∀ j, j < 7 → D'.1 (t + a) j = D.1 (q + a) j) ∧ Fr t D D' := by
  unfold f_X3_become
  simp only [ap, cp7, Option.bind_some, gI_e]
  refine ⟨_, rfl, ?_, ?_, ?_, rfl⟩
  · intro j hj
    rcases (show j = 0 ∨ j = 1 ∨ j = 2 ∨ j = 3 ∨ j = 4 ∨ j = 5 by omega) with rfl | rfl | rfl | rfl | rfl | rfl <;>
      (repeat (rw [cpD_ne (by omega)])) <;> (repeat (first | rw [sI_eq] | rw [sI_ne (by omega)]))
  · intro a h1 h2 j hj
    rcases (show a = 1 ∨ a = 2 ∨ a = 3 ∨ a = 4 ∨ a = 5 ∨ a = 6 ∨ a = 7 ∨ a = 8 by omega) with rfl | rfl | rfl | rfl | rfl | rfl | rfl | rfl <;>
      (repeat (first | rw [cpD_in hj] | rw [cpD_ne (by omega)] | rw [sI_ne (by omega)]))
  · intro k j hk
    (repeat (first | rw [cpD_ne (by omega)] | rw [sI_ne (by omega)]))
theorem loc_ok : ∀ j, j < 63 → j ≠ 38 → (loc j).1 < 9 ∧ (loc j).2 < 7 ∧ ((loc j).1 = 0 → (loc j).2 < 6) := by decide +kernel
theorem act_38 : ∀ n, n ≤ 7 → act n 38 = false := by decide +kernel
theorem RepC.copy {D D' : wd_D} {t q n : Nat} {r : Rho} (h : RepC D q n r) (hn : n ≤ 7) (h0 : ∀ j, j < 6 → D'.1 t j = D.1 q j) (h1 : ∀ a, 1 ≤ a → a < 9 → ∀ j, j < 7 → D'.1 (t + a) j = D.1 (q + a) j) : RepC D' t n r := by
  intro j hj ha
  have h38 : j ≠ 38 := fun e => by rw [e, act_38 n hn] at ha; cases ha
  obtain ⟨g1, g2, g3⟩ := loc_ok j hj h38
  rw [← h j hj ha]
  by_cases e : (loc j).1 = 0
  · rw [e]; exact h0 _ (g3 e)
  · exact h1 _ (by omega) g1 _ g2
theorem c_become' {D : wd_D} {t q n : Nat} {r : Rho} (h : RepC D q n r) (hn : n ≤ 7) (hd : t + 9 ≤ q ∨ q + 9 ≤ t) : ∃ D', f_X3_become t q D = some D' ∧ RepC D' t n r ∧ Fr t D D' := by
  obtain ⟨D', e, a, b, f⟩ := c_become (D := D) hd
  exact ⟨D', e, h.copy hn a b, f⟩
theorem RepC.fr {D D' : wd_D} {q t n : Nat} {r : Rho} (h : RepC D q n r) (hn : n ≤ 7) (f : Fr t D D') (hd : t + 9 ≤ q ∨ q + 9 ≤ t) : RepC D' q n r := by
  intro j hj ha
  have h38 : j ≠ 38 := fun e => by rw [e, act_38 n hn] at ha; cases ha
  obtain ⟨g1, -, -⟩ := loc_ok j hj h38
  rw [f.1 _ _ (by omega)]; exact h j hj ha
