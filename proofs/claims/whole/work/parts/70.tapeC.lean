/-! a number and its sign, on either side -/
theorem nc {n p s lo hi ty : Nat} {tb : Nat → Nat} (h120 : n ≤ 120) (hp : p ≤ n) (hs : s = 1 ∨ s = 3 ∨ s = 6 ∨ s = 8 ∨ s = 10) (hhi : hi < 100) (ht : ty = 2 ∨ ty = 3) (r0 : rs 0 (nI s) = some (nI 1)) (r1 : rs 1 (nI s) = some (nI lo)) (r2 : rs 2 (nI s) = some (nI hi)) (r3 : rs 0 (nI (s + 1)) = some (nI ty)) (hlo : lo < 100) :
  (∃ q f, q ≤ n ∧ f < 4 ∧ (∀ M D, TP D n tb → (∀ v, ∃ Q, f_X5_put 13 (nI s) v (sI D 2 2 0) = some Q ∧ FrR D Q) → ∃ D', f_X5_readInto_L11 (M + 2) 13 (nI s) (nI p) D = some (nI q, D') ∧ D'.1 2 2 = nI f ∧ FrR D D') ∧ (∀ E, MT E n tb → E.1 370 14 = nI p → ∃ E', f_X7_takesNumber (nI lo) (nI hi) (nI (chO ty)) E = some (0, E') ∧ E'.1 370 10 = nI f ∧ E'.1 370 16 = nI q ∧ FrX E E'))
  ∨ (∃ v p', p + 2 ≤ p' ∧ p' ≤ n ∧ lo ≤ v ∧ v ≤ hi ∧ (∀ M D Q, TP D n tb → f_X5_put 13 (nI s) (nI v) (sI D 2 2 0) = some Q → FrR D Q → f_X5_readInto_L11 (M + 2) 13 (nI s) (nI p) D = f_X5_readInto_L11 M 13 (nI (if s = 10 then 5 else s + 2)) (nI p') (sI Q 2 2 0)) ∧ (∀ E, MT E n tb → E.1 370 14 = nI p → ∃ E', f_X7_takesNumber (nI lo) (nI hi) (nI (chO ty)) E = some (1, E') ∧ E'.1 370 15 = nI v ∧ E'.1 370 14 = nI p' ∧ (∀ a b, ¬ (a = 370 ∧ (b = 14 ∨ b = 15)) → E'.1 a b = E.1 a b))) := by
  have hch : chO ty < 256 := by rcases ht with rfl | rfl <;> decide
  have s5 : ¬ nI s = 5 := fun z => by have := (eq_nI (b := 5) (by omega) (by omega)).mp z; omega
  obtain ⟨k, hk⟩ := run_ex tb n (n - p) p (by omega)
  have hk1 := hk.1
  have bad1 : (k = 0 ∨ 2 < k) → (∀ E, MT E n tb → E.1 370 14 = nI p → ∃ E', f_X7_takesNumber (nI lo) (nI hi) (nI (chO ty)) E = some (0, E') ∧ E'.1 370 10 = nI 1 ∧ E'.1 370 16 = nI p ∧ FrX E E') := by
    intro c E hE h14
    obtain ⟨E', e, q1, q2, q3⟩ := nu_e hE (nI lo) (nI hi) hch hk h14
    refine ⟨_, by rw [e, nuF, if_pos c], by rw [sI_ne (by omega), sI_eq]; rfl, sI_eq, fun a b h1 h2 => ?_⟩
    rw [sI_ne (by omega), sI_ne (by omega), q3 a b (by omega)]
  by_cases en : p = n
  · subst en
    have k0 : k = 0 := by omega
    refine Or.inl ⟨p, 1, Nat.le_refl _, by decide, fun M D hD _ => ⟨_, ct_end hD (Or.inl s5), sI_eq, FrR.s2⟩, bad1 (Or.inl k0)⟩
  have hpn : p < n := by omega
  by_cases hd : dg (tb p)
  · have k1 : 1 ≤ k := by
      rcases Nat.eq_zero_or_pos k with e | e
      · subst e
        rcases hk.2.2 with z | z
        · omega
        · exact absurd hd z
      · exact e
    have cst : ∀ D, TP D n tb → f_X5_canStand (nI (tb p)) (nI 1) = 1 := fun D hD => by
      unfold f_X5_canStand
      rw [if_neg (show ¬ nI 1 = 0 by decide), if_pos (show nI 1 = 1 from rfl), fig_y (hD.2.2 p hpn).2 hd]
    by_cases c2 : k ≤ 2
    · have hw : ∀ D, TP D n tb → f_X5_widthAt (nI p) D = some (nI k) := fun D hD => by rw [wi_dig hD hpn hd hk, if_pos c2]
      have hfa : ∀ D a4, TP D n tb → f_X5_faultAt (nI p) (nI k) (nI s) a4 D = some (if f_X6_beyond (vd tb p k) (nI lo) (nI hi) = 0 then 0 else 2) := by
        intro D a4 hD
        unfold f_X5_faultAt
        rw [if_neg (nI_ne0 (by omega) (by omega)), hD.rd hpn, Option.bind_some, r0, Option.bind_some, cst D hD, i10, Option.bind_some, if_pos (show nI 1 = 1 from rfl), vl_dig hD hd hk1 (by omega), Option.bind_some, r1, Option.bind_some, r2, Option.bind_some, fa_l56 (ty := 1) (by decide) r0]
        split <;> rfl
      have mk2 : min k 2 = k := by omega
      by_cases c3 : f_X6_beyond (vd tb p k) (nI lo) (nI hi) = 0
      · obtain ⟨v, v1, v2, ev⟩ := bey_nI (by omega) (by omega) c3
        have hfa0 : ∀ D a4, TP D n tb → f_X5_faultAt (nI p) (nI k) (nI s) a4 D = some 0 := fun D a4 hD => by rw [hfa D a4 hD, if_pos c3]
        have hs' : s + 1 = 0 ∨ s + 1 = 2 ∨ s + 1 = 4 ∨ s + 1 = 7 ∨ s + 1 = 9 ∨ s + 1 = 11 := by omega
        have step : ∀ M D Q, TP D n tb → f_X5_put 13 (nI s) (nI v) (sI D 2 2 0) = some Q → f_X5_readInto_L11 (M + 2) 13 (nI s) (nI p) D = f_X5_readInto_L11 (M + 1) 13 (nI (s + 1)) (nI (p + k)) Q := by
          intro M D Q hD hQ
          have := ct_good (M := M + 1) hD hpn (show s < 12 by omega) k1 c2 (hw D hD) (hfa0 D _ hD) (vl_dig (hD.fr FrR.s2) hd hk1 (by omega)) (Q := Q) (by rw [ev]; exact hQ)
          rw [if_neg (show ¬ s = 11 by omega)] at this
          exact this
        by_cases c4 : p + k < n ∧ tb (p + k) = chO ty
        · refine Or.inr ⟨v, p + k + 1, by omega, by omega, v1, v2, fun M D Q hD hQ hF => ?_, fun E hE h14 => ?_⟩
          · rw [step M D Q hD hQ, ch_yes (hD.fr hF) hs' (by omega) r3 c4.1 c4.2]
            by_cases e10 : s = 10
            · subst e10; rfl
            · rw [if_neg (show ¬ s + 1 = 11 by omega), if_neg e10]
          · obtain ⟨E', e, q1, q2, q3⟩ := nu_e hE (nI lo) (nI hi) hch hk h14
            rw [mk2] at e q2
            have hE' : MT E' n tb := hE.fr (fun a b _ h2 => q3 a b (by omega))
            refine ⟨_, by rw [e, nuF, if_neg (by omega), if_pos c3, ta_yes hE' c4.1 q1 c4.2], by rw [sI_ne (by omega), q2, ev], sI_eq, fun a b hab => by rw [sI_ne (by omega), q3 a b hab]⟩
        · refine Or.inl ⟨p + k, 1, hk1, by decide, fun M D hD hput => ?_, fun E hE h14 => ?_⟩
          · obtain ⟨Q, hQ, hF⟩ := hput (nI v)
            refine ⟨sI Q 2 2 1, by rw [step M D Q hD hQ, ch_no (hD.fr hF) hs' (by omega) r3 hk1 (fun a b => c4 ⟨a, b⟩)], sI_eq, hF.tr FrR.s2⟩
          · obtain ⟨E', e, q1, q2, q3⟩ := nu_e hE (nI lo) (nI hi) hch hk h14
            rw [mk2] at e q2
            have hE' : MT E' n tb := hE.fr (fun a b _ h2 => q3 a b (by omega))
            refine ⟨_, by rw [e, nuF, if_neg (by omega), if_pos c3, ta_no hE' hk1 q1 hch (fun a b => c4 ⟨a, b⟩)], by rw [sI_ne (by omega), sI_eq]; rfl, sI_eq, fun a b h1 h2 => by rw [sI_ne (by omega), sI_ne (by omega), q3 a b (by omega)]⟩
      · refine Or.inl ⟨p, 2, hp, by decide, fun M D hD _ => ⟨_, ct_bad hD hpn (hw D hD) (f := 2) (by rw [hfa D _ hD, if_neg c3]) (by decide), sI_eq, FrR.s2⟩, fun E hE h14 => ?_⟩
        obtain ⟨E', e, q1, q2, q3⟩ := nu_e hE (nI lo) (nI hi) hch hk h14
        rw [mk2] at e
        exact ⟨_, by rw [e, nuF, if_neg (by omega), if_neg c3], by rw [sI_ne (by omega), sI_eq]; rfl, sI_eq, fun a b h1 h2 => by rw [sI_ne (by omega), sI_ne (by omega), q3 a b (by omega)]⟩
    · refine Or.inl ⟨p, 1, hp, by decide, fun M D hD _ => ⟨_, ct_bad hD hpn (by rw [wi_dig hD hpn hd hk, if_neg c2]) (f := 1) (by unfold f_X5_faultAt; rw [if_pos rfl]) (by decide), sI_eq, FrR.s2⟩, bad1 (Or.inr (by omega))⟩
  · have k0 : k = 0 := by
      rcases Nat.eq_zero_or_pos k with e | e
      · exact e
      · have := hk.2.1 0 e
        rw [Nat.add_zero] at this
        exact absurd this hd
    refine Or.inl ⟨p, 1, hp, by decide, fun M D hD _ => ?_, bad1 (Or.inl k0)⟩
    have hcs : f_X5_canStand (nI (tb p)) (nI 1) = 0 := by
      unfold f_X5_canStand
      rw [if_neg (show ¬ nI 1 = 0 by decide), if_pos (show nI 1 = 1 from rfl), fig_n (hD.2.2 p hpn).2 hd]
    rcases wi_not hD hpn hd with hw | hw
    · exact ⟨_, ct_bad hD hpn hw (fa_bad hD hpn (Or.inl rfl) r0 hcs) (by decide), sI_eq, FrR.s2⟩
    · exact ⟨_, ct_bad hD hpn hw (fa_bad hD hpn (Or.inr (Or.inl rfl)) r0 hcs) (by decide), sI_eq, FrR.s2⟩
theorem kind_eq (x : Int32) : f_X5_kindOf x = f_X7_kindOf x := by
  unfold f_X5_kindOf f_X7_kindOf
  by_cases a : x = 100
  · subst a; rfl
  by_cases b : x = 108
  · subst b; rfl
  by_cases c : x = 112
  · subst c; rfl
  by_cases d : x = 115
  · subst d; rfl
  by_cases e : x = 116
  · subst e; rfl
  simp only [a, b, c, d, e, if_false]
theorem kind_v {b : Nat} (hb : b < 256) : f_X7_kindOf (nI b) = 0 ∨ ∃ kd, 1 ≤ kd ∧ kd < 6 ∧ f_X7_kindOf (nI b) = nI kd ∧ 97 ≤ b ∧ b ≤ 122 := by
  have e : ∀ c, c < 256 → (nI b = nI c ↔ b = c) := fun c hc => eq_nI (by omega) (by omega)
  unfold f_X7_kindOf
  by_cases c1 : b = 112
  · exact Or.inr ⟨1, by decide, by decide, by rw [if_pos (show nI b = 112 from (e 112 (by omega)).mpr c1)]; rfl, by omega, by omega⟩
  rw [if_neg (show ¬ nI b = 112 from fun z => c1 ((e 112 (by omega)).mp z))]
  by_cases c2 : b = 108
  · exact Or.inr ⟨2, by decide, by decide, by rw [if_pos (show nI b = 108 from (e 108 (by omega)).mpr c2)]; rfl, by omega, by omega⟩
  rw [if_neg (show ¬ nI b = 108 from fun z => c2 ((e 108 (by omega)).mp z))]
  by_cases c3 : b = 115
  · exact Or.inr ⟨3, by decide, by decide, by rw [if_pos (show nI b = 115 from (e 115 (by omega)).mpr c3)]; rfl, by omega, by omega⟩
  rw [if_neg (show ¬ nI b = 115 from fun z => c3 ((e 115 (by omega)).mp z))]
  by_cases c4 : b = 100
  · exact Or.inr ⟨4, by decide, by decide, by rw [if_pos (show nI b = 100 from (e 100 (by omega)).mpr c4)]; rfl, by omega, by omega⟩
  rw [if_neg (show ¬ nI b = 100 from fun z => c4 ((e 100 (by omega)).mp z))]
  by_cases c5 : b = 116
  · exact Or.inr ⟨5, by decide, by decide, by rw [if_pos (show nI b = 116 from (e 116 (by omega)).mpr c5)]; rfl, by omega, by omega⟩
  rw [if_neg (show ¬ nI b = 116 from fun z => c5 ((e 116 (by omega)).mp z))]
  exact Or.inl rfl
def chS (ρ : Rho) (m : Nat) (kd nd ho vo : Int32) : Rho := upd (upd (upd (upd (upd (upd ρ (42 + m) kd) (29 + m) (nI m)) (1 + m) nd) (49 + m) ho) (56 + m) vo) 41 (nI (m + 1))
theorem act_S : ∀ m, m < 7 → ∀ j, j < 63 → act (m + 1) j = true → act m j = true ∨ j = 1 + m ∨ j = 8 + m ∨ j = 15 + m ∨ j = 22 + m ∨ j = 29 + m ∨ j = 42 + m ∨ j = 49 + m ∨ j = 56 + m := by
  intro m hm j hj h
  simp only [act, Bool.or_eq_true, Bool.and_eq_true, decide_eq_true_eq] at h ⊢
  omega
theorem act_not : ∀ m, m < 7 → act m (1 + m) = false ∧ act m (8 + m) = false ∧ act m (15 + m) = false ∧ act m (22 + m) = false ∧ act m (29 + m) = false ∧ act m (42 + m) = false ∧ act m (49 + m) = false ∧ act m (56 + m) = false := by decide +kernel
/-- a child more, in the class's draft -/
theorem add_rep {D : wd_D} {m : Nat} {ρ : Rho} {kd nd ho vo : Int32} (h : RepC D 13 m ρ) (hm : m < 7) (z1 : ρ (8 + m) = 0) (z2 : ρ (15 + m) = 0) (z3 : ρ (22 + m) = 0) : RepC (sI (sI (sI (sI (sI (sI (sI (sI (sI D (13 + 1) m kd) (13 + 5) m (nI m)) (13 + 6) m 0) (13 + 7) m 0) (13 + 8) m 0) 13 0 (nI (m + 1))) (13 + 2) m nd) (13 + 3) m ho) (13 + 4) m vo) 13 (m + 1) (chS ρ m kd nd ho vo) := by
  have hr : RepC D 13 (m + 1) (fun j => if act m j = true then ρ j else D.1 (13 + (loc j).1) (loc j).2) := by
    intro j hj ha
    dsimp only
    by_cases c : act m j = true
    · rw [if_pos c]; exact h j hj c
    · rw [if_neg c]
  have h2 := ((((((((hr.u42 hm kd).u29 hm (nI m)).u8 hm 0).u15 hm 0).u22 hm 0).v41 (nI (m + 1))).u1 hm nd).u49 hm ho).u56 hm vo
  intro j hj ha
  rw [h2 j hj ha]
  unfold chS upd
  rcases act_S m hm j hj ha with c | c | c | c | c | c | c | c | c
  · obtain ⟨k1, k2, k3, k4, k5, k6, k7, k8⟩ := act_not m hm
    have ne : ∀ x, act m x = false → ¬ j = x := fun x hx e => by rw [e, hx] at c; cases c
    simp only [ne _ k1, ne _ k2, ne _ k3, ne _ k4, ne _ k5, ne _ k6, ne _ k7, ne _ k8, if_false, c, if_true]
  · subst c; simp [show ¬ (1 + m = 56 + m) by omega, show ¬ (1 + m = 49 + m) by omega, show ¬ (1 + m = 41) by omega]
  · subst c; simp [show ¬ (8 + m = 56 + m) by omega, show ¬ (8 + m = 49 + m) by omega, show ¬ (8 + m = 1 + m) by omega, show ¬ (8 + m = 41) by omega, show ¬ (8 + m = 22 + m) by omega, show ¬ (8 + m = 15 + m) by omega, show ¬ (8 + m = 29 + m) by omega, show ¬ (8 + m = 42 + m) by omega, z1]
  · subst c; simp [show ¬ (15 + m = 56 + m) by omega, show ¬ (15 + m = 49 + m) by omega, show ¬ (15 + m = 1 + m) by omega, show ¬ (15 + m = 41) by omega, show ¬ (15 + m = 22 + m) by omega, show ¬ (15 + m = 8 + m) by omega, show ¬ (15 + m = 29 + m) by omega, show ¬ (15 + m = 42 + m) by omega, z2]
  · subst c; simp [show ¬ (22 + m = 56 + m) by omega, show ¬ (22 + m = 49 + m) by omega, show ¬ (22 + m = 1 + m) by omega, show ¬ (22 + m = 41) by omega, show ¬ (22 + m = 15 + m) by omega, show ¬ (22 + m = 8 + m) by omega, show ¬ (22 + m = 29 + m) by omega, show ¬ (22 + m = 42 + m) by omega, z3]
  · subst c; simp [show ¬ (29 + m = 56 + m) by omega, show ¬ (29 + m = 49 + m) by omega, show ¬ (29 + m = 1 + m) by omega, show ¬ (29 + m = 41) by omega, show ¬ (29 + m = 22 + m) by omega, show ¬ (29 + m = 15 + m) by omega, show ¬ (29 + m = 8 + m) by omega]
  · subst c; simp [show ¬ (42 + m = 56 + m) by omega, show ¬ (42 + m = 49 + m) by omega, show ¬ (42 + m = 1 + m) by omega, show ¬ (42 + m = 41) by omega, show ¬ (42 + m = 22 + m) by omega, show ¬ (42 + m = 15 + m) by omega, show ¬ (42 + m = 8 + m) by omega, show ¬ (42 + m = 29 + m) by omega]
  · subst c; simp [show ¬ (49 + m = 56 + m) by omega, show ¬ (49 + m = 41) by omega]
  · subst c; simp [show ¬ (56 + m = 41) by omega]
