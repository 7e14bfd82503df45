/-! lorries: the cases -/
def cs (x : Int32) (p n : Nat) : Nat → Rho → Nat
  | 0, r => if alS r n = 0 then 1 else 0
  | d + 1, r => p * cs x p n d (passS (lorS r x n) n) + (10 - p) * cs x p n d (passS r n)
theorem cs_le {x : Int32} {p n : Nat} (hp : p ≤ 10) : ∀ d r, cs x p n d r ≤ 10 ^ d
  | 0, r => by unfold cs; split <;> omega
  | d + 1, r => by
    have h1 := cs_le (x := x) (n := n) hp d (passS (lorS r x n) n)
    have h2 := cs_le (x := x) (n := n) hp d (passS r n)
    unfold cs
    have e1 := Nat.mul_le_mul_left p h1
    have e2 := Nat.mul_le_mul_left (10 - p) h2
    have e3 : p * 10 ^ d + (10 - p) * 10 ^ d = 10 ^ (d + 1) := by rw [← Nat.add_mul, Nat.pow_succ, Nat.mul_comm (10 ^ d)]; congr 1; omega
    omega
theorem lorP_0 {r : Rho} {x : Int32} : ∀ k, k ≤ 7 → ∃ m, m ≤ k ∧ (lorP r x k).2 = nI m ∧ (m = 0 → (lorP r x k).1 = r)
  | 0, _ => ⟨0, Nat.le_refl _, rfl, fun _ => rfl⟩
  | k + 1, h => by
    obtain ⟨m, h1, h2, h3⟩ := lorP_0 (r := r) (x := x) k (by omega)
    unfold lorP
    split
    · refine ⟨m + 1, by omega, ?_, fun z => by omega⟩
      show (lorP r x k).2 + 1 = _
      rw [h2, nI_1]
    · exact ⟨m, by omega, h2, h3⟩
theorem ca_loop {n N p : Nat} {x : Int32} (hN : N ≤ 8) (hp : p ≤ 10) : ∀ d i m D r, i + d = N → d < m → Ok n r → RepC D (253 + 9 * i) n r → ∃ D', f_X1_casesAsleep m (nI i) x (nI N) (nI p) D = some (lN (cs x p n d r), D') ∧ (∀ k j, k < 262 + 9 * i ∨ 334 ≤ k → D'.1 k j = D.1 k j) ∧ D'.2 = D.2 := by
  intro d
  induction d with
  | zero =>
    intro i m D r hi hm ok h
    obtain ⟨m, rfl⟩ : ∃ m', m = m' + 1 := ⟨m - 1, by omega⟩
    rw [f_X1_casesAsleep, ix_nI (show i < 9 by omega), Option.bind_some, if_pos ((le_nI (by omega) (by omega)).mpr (by omega)), f_X1_casesAsleep_L19, c_every h, h.f36, c_all h ok, Option.bind_some, ib]
    refine ⟨D, ?_, fun _ _ _ => rfl, rfl⟩
    unfold cs
    show (if alS r n = 0 then _ else _) = _
    split <;> rfl
  | succ d ih =>
    intro i m D r hi hm ok h
    have hn := ok.1
    obtain ⟨m, rfl⟩ : ∃ m', m = m' + 1 := ⟨m - 1, by omega⟩
    rw [f_X1_casesAsleep, ix_nI (show i < 9 by omega), Option.bind_some, if_neg (fun z => by have := (le_nI (by omega) (by omega)).mp z; omega), if_pos (show nI i < 8 from (lt_nI (b := 8) (by omega) (by omega)).mpr (by omega)), nI_1, ix_nI (show i + 1 < 9 by omega), Option.bind_some]
    obtain ⟨D1, e1, c1, f1⟩ := c_become' (t := 253 + 9 * (i + 1)) h hn (by omega)
    obtain ⟨D2, e2, c2, f2⟩ := c_lor c1 ok x
    obtain ⟨b, D3, e3, c3, f3, -, -⟩ := c_pass c2 (ok.lor x)
    rw [e1, Option.bind_some, e2, Option.bind_some]
    unfold ap
    dsimp only
    rw [e3, Option.bind_some]
    have f13 := (f1.tr f2).tr f3
    have fr : ∀ {D D'}, Fr (253 + 9 * (i + 1)) D D' → ∀ k j, k < 262 + 9 * i ∨ 334 ≤ k → D'.1 k j = D.1 k j := fun hf k j hk => hf.1 k j (by omega)
    have h3 : RepC D3 (253 + 9 * i) n r := h.at hn (fun k j g1 g2 => fr f13 k j (by omega))
    have L115 : ∀ Z Dx, p < 10 → RepC Dx (253 + 9 * i) n r → (∀ k j, k < 262 + 9 * i ∨ 334 ≤ k → Dx.1 k j = D.1 k j) → Dx.2 = D.2 → ∃ D', f_X1_casesAsleep_L115 (f_X1_casesAsleep m) (nI i) x (nI N) (nI p) (253 + 9 * i) (253 + 9 * (i + 1)) (nI p) (lN Z) Dx = some (lN (Z + (10 - p) * cs x p n d (passS r n)), D') ∧ (∀ k j, k < 262 + 9 * i ∨ 334 ≤ k → D'.1 k j = D.1 k j) ∧ D'.2 = D.2 := by
      intro Z Dx hp' hx g1 g2
      unfold f_X1_casesAsleep_L115
      obtain ⟨Da, ea, ca, fa⟩ := c_become' (t := 253 + 9 * (i + 1)) hx hn (by omega)
      obtain ⟨b, Db, eb, cb, fb, -, -⟩ := c_pass ca ok
      obtain ⟨Dc, ec, gc, gc2⟩ := ih (i + 1) m Db (passS r n) (by omega) (by omega) ok.pass cb
      rw [if_neg (fun z => by have := (le_nI (a := 10) (by omega) (by omega)).mp z; omega), ea, Option.bind_some, eb, Option.bind_some, nI_1, ec, Option.bind_some]
      unfold ap
      dsimp only
      rw [show (10 : Int32) = nI 10 from rfl, pk_sub (by omega), nI_l (by omega), lN_mul, lN_add]
      refine ⟨Dc, rfl, fun k j hk => ?_, ?_⟩
      · rw [gc k j (by omega), fr fb k j hk, fr fa k j hk, g1 k j hk]
      · rw [gc2, fb.2, fa.2, g2]
    by_cases hz : (lorP r x n).2 = 0
    · rw [if_pos hz, f_X1_casesAsleep_L89, if_neg (by decide)]
      obtain ⟨mm, m1, m2, m3⟩ := lorP_0 (r := r) (x := x) n hn
      have m0 : mm = 0 := (nI_eq (by omega) (by decide : 0 < 2 ^ 31)).mp (m2.symm.trans hz)
      have er : lorS r x n = r := m3 m0
      obtain ⟨Dc, ec, gc, gc2⟩ := ih (i + 1) m D3 (passS (lorS r x n) n) (by omega) (by omega) (ok.lor x).pass c3
      rw [nI_1, ec, Option.bind_some, f_X1_casesAsleep_L115, if_pos (by decide), show (10 : Int32).toInt64 = lN 10 from rfl, lN_mul]
      refine ⟨Dc, ?_, fun k j hk => ?_, ?_⟩
      · rw [cs, er, ← Nat.add_mul, show p + (10 - p) = 10 by omega]
      · rw [gc k j (by omega), fr f13 k j hk]
      · rw [gc2, f13.2]
    · rw [if_neg hz, f_X1_casesAsleep_L89]
      by_cases p0 : p = 0
      · subst p0
        rw [if_pos (show nI 0 = 0 from rfl)]
        obtain ⟨D', e, g1, g2⟩ := L115 0 D3 (by omega) h3 (fr f13) f13.2
        refine ⟨D', ?_, g1, g2⟩
        rw [cs, Nat.zero_mul]; exact e
      · rw [if_neg (nI_ne0 (by omega) (by omega))]
        obtain ⟨Dc, ec, gc, gc2⟩ := ih (i + 1) m D3 (passS (lorS r x n) n) (by omega) (by omega) (ok.lor x).pass c3
        rw [nI_1, ec, Option.bind_some, nI_l (by omega), lN_mul]
        have g3 : ∀ k j, k < 262 + 9 * i ∨ 334 ≤ k → Dc.1 k j = D.1 k j := fun k j hk => by rw [gc k j (by omega), fr f13 k j hk]
        by_cases p10 : p = 10
        · subst p10
          rw [f_X1_casesAsleep_L115, if_pos (by decide)]
          refine ⟨Dc, ?_, g3, by rw [gc2, f13.2]⟩
          rw [cs, Nat.sub_self, Nat.zero_mul, Nat.add_zero]
        · obtain ⟨D', e, g1, g2⟩ := L115 (p * cs x p n d (passS (lorS r x n) n)) Dc (by omega) (h.at hn (fun k j a1 a2 => g3 k j (by omega))) g3 (by rw [gc2, f13.2])
          exact ⟨D', e, g1, g2⟩
/-! the same, as a sum over all sets of minutes -/
def pr (x : Int32) (n : Nat) : Nat → Nat → Rho → Rho
  | 0, _, r => r
  | d + 1, s, r => pr x n d (s / 2) (passS (if s % 2 = 1 then lorS r x n else r) n)
def pw (p : Nat) : Nat → Nat → Nat
  | 0, _ => 1
  | d + 1, s => (if s % 2 = 1 then p else 10 - p) * pw p d (s / 2)
def ind (r : Rho) (n : Nat) : Nat := if alS r n = 0 then 1 else 0
def tmL (x : Int32) (p n d : Nat) (r : Rho) (s : Nat) : Nat := pw p d s * ind (pr x n d s r) n
def sm (f : Nat → Nat) : Nat → Nat
  | 0 => 0
  | m + 1 => sm f m + f m
theorem sm_dbl (f : Nat → Nat) : ∀ m, sm f (2 * m) = sm (fun t => f (2 * t) + f (2 * t + 1)) m
  | 0 => rfl
  | m + 1 => by
    have := sm_dbl f m
    show sm f (2 * m + 1) + f (2 * m + 1) = _
    show sm f (2 * m) + f (2 * m) + f (2 * m + 1) = sm (fun t => f (2 * t) + f (2 * t + 1)) m + (f (2 * m) + f (2 * m + 1))
    rw [this, Nat.add_assoc]
theorem sm_lin (f g : Nat → Nat) (a b : Nat) : ∀ m, sm (fun t => a * f t + b * g t) m = a * sm f m + b * sm g m
  | 0 => by simp [sm]
  | m + 1 => by
    have := sm_lin f g a b m
    show sm _ m + (a * f m + b * g m) = a * (sm f m + f m) + b * (sm g m + g m)
    rw [this, Nat.mul_add, Nat.mul_add]; omega
theorem sm_cs {x : Int32} {p n : Nat} : ∀ d r, sm (tmL x p n d r) (2 ^ d) = cs x p n d r
  | 0, r => by
    show 0 + pw p 0 0 * ind (pr x n 0 0 r) n = _
    unfold pw pr ind cs
    omega
  | d + 1, r => by
    rw [Nat.pow_succ, Nat.mul_comm, sm_dbl]
    have e : (fun t => tmL x p n (d + 1) r (2 * t) + tmL x p n (d + 1) r (2 * t + 1)) = fun t => p * tmL x p n d (passS (lorS r x n) n) t + (10 - p) * tmL x p n d (passS r n) t := by
      funext t
      unfold tmL
      rw [pw, pr, pw, pr, if_neg (show ¬ 2 * t % 2 = 1 by omega), if_neg (show ¬ 2 * t % 2 = 1 by omega), if_pos (show (2 * t + 1) % 2 = 1 by omega), if_pos (show (2 * t + 1) % 2 = 1 by omega), show 2 * t / 2 = t by omega, show (2 * t + 1) / 2 = t by omega, Nat.mul_assoc, Nat.mul_assoc, Nat.add_comm]
    rw [e, sm_lin, sm_cs d, sm_cs d]; rfl
theorem hb_nI {s i : Nat} (hi : i < 32) : hb (nI s) i = decide (s / 2 ^ i % 2 = 1) := by
  show (BitVec.ofNat 32 s).getLsbD i = _
  rw [BitVec.getLsbD_ofNat, Nat.testBit_eq_decide_div_mod_eq]
  simp [hi]
