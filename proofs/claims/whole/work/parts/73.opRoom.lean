/-! room -/
theorem clear_e (D : wd_D) : (∀ j, j < 6 → (f_X3_clear 13 D).1 13 j = 0) ∧ ∀ k j, k ≠ 13 → (f_X3_clear 13 D).1 k j = D.1 k j := by
  rw [f_X3_clear, ap_e, ap_e, ap_e, ap_e, ap_e, ap_e]
  refine ⟨fun j hj => ?_, fun k j hk => by rw [sI_ne (by omega), sI_ne (by omega), sI_ne (by omega), sI_ne (by omega), sI_ne (by omega), sI_ne (by omega)]⟩
  rcases (show j = 0 ∨ j = 1 ∨ j = 2 ∨ j = 3 ∨ j = 4 ∨ j = 5 by omega) with rfl | rfl | rfl | rfl | rfl | rfl <;> (repeat (first | rw [sI_eq] | rw [sI_ne (by omega)]))
theorem rep0 {D : wd_D} {ρ : Rho} (h0 : D.1 13 3 = ρ 0) (h1 : D.1 13 5 = ρ 36) (h2 : D.1 13 4 = ρ 37) (h3 : D.1 13 1 = ρ 39) (h4 : D.1 13 2 = ρ 40) (h5 : D.1 13 0 = ρ 41) : RepC D 13 0 ρ := by
  intro j hj ha
  simp only [act, Bool.or_eq_true, Bool.and_eq_true, decide_eq_true_eq] at ha
  rcases (show j = 0 ∨ j = 36 ∨ j = 37 ∨ j = 39 ∨ j = 40 ∨ j = 41 by omega) with rfl | rfl | rfl | rfl | rfl | rfl
  · exact h0
  · exact h1
  · exact h2
  · exact h3
  · exact h4
  · exact h5
theorem op_room {D : wd_D} (h : Inv D) : ∃ v D1 D2, f_X6_room D = some (v, D1) ∧ f_X7_room D1 = some (v, D2) ∧ Inv D2 := by
  obtain ⟨i1, i2, ⟨n, t1, t2, t3, t4⟩, i4, ⟨n0, r0, hN, hP⟩, i7, i8⟩ := id h
  have hn0 := hN.2.2.1.1
  have tbE : ∀ j, j < n → D.1 3 j = nI ((D.1 3 j).toNatClampNeg) ∧ (D.1 3 j).toNatClampNeg < 256 := fun j hj => by
    obtain ⟨-, a, ha, e⟩ := t4 j hj
    rw [e, nI_clamp (by omega)]
    exact ⟨rfl, ha⟩
  obtain ⟨tb, htb⟩ : ∃ tb : Nat → Nat, tb = fun j => (D.1 3 j).toNatClampNeg := ⟨_, rfl⟩
  have hT : TP D n tb := ⟨t1, t2, fun j hj => by rw [htb]; exact tbE j hj⟩
  have hM : MT D n tb := ⟨t1, t3, fun j hj => by rw [← (t4 j hj).1, htb]; exact tbE j hj⟩
  have hb : ∀ j, j < n → tb j < 256 := fun j hj => (hT.2.2 j hj).2
  obtain ⟨z1, z2⟩ := clear_e D
  generalize hC : f_X3_clear 13 D = C at z1 z2
  have fC : FrR D C := fun k j a b => z2 k j (by omega)
  have hTC : TP C n tb := hT.fr fC
  -- both, when a fault was found
  have bad : ∀ q f Dq, f_X5_readInto 13 D = some (nI q, Dq) → q ≤ n → Dq.1 2 2 = nI f → FrR D Dq → (∀ E, MT E n tb → E.1 370 14 = nI 0 → ∃ E', (f_X7_takesLaw E).bind (fun q2 => ap q2.1 (fun x3 => f_X7_room_L10 FU x3 q2.2)) = f_X7_room_L44 0 E' ∧ E'.1 370 10 = nI f ∧ E'.1 370 16 = nI q ∧ FrX E E') → ∃ v D1 D2, f_X6_room D = some (v, D1) ∧ f_X7_room D1 = some (v, D2) ∧ Inv D2 := by
    intro q f Dq e hq hf fr hm
    have e1 : f_X6_room D = some (-1000100 - nI q, sI (sI Dq 2 1 0) 0 8 (nI f)) := by
      rw [f_X6_room, e, Option.bind_some, ap_e, ap_e, if_neg (nI_pos (by omega)), ap_e, gI_e, sI_ne (show ¬ (2 = 2 ∧ 2 = 1) by omega), hf]
    have fr1 : ∀ k j, ¬ (13 ≤ k ∧ k ≤ 21) → ¬ (k = 2 ∧ (j = 1 ∨ j = 2)) → ¬ (k = 0 ∧ j = 8) → (sI (sI Dq 2 1 0) 0 8 (nI f)).1 k j = D.1 k j := fun k j a b c => by rw [sI_ne c, sI_ne (by omega), fr k j a (by omega)]
    have m1 : MT (sI (sI (sI Dq 2 1 0) 0 8 (nI f)) 370 14 0) n tb := ⟨hM.1, by rw [sI_ne (by omega), fr1 _ _ (by omega) (by omega) (by omega)]; exact hM.2.1, fun j hj => by rw [sI_ne (by omega), fr1 _ _ (by omega) (by omega) (by omega)]; exact hM.2.2 j hj⟩
    obtain ⟨E', x, g1, g2, fx⟩ := hm _ m1 sI_eq
    have e2 : f_X7_room (sI (sI Dq 2 1 0) 0 8 (nI f)) = some (-1000100 - nI q, sI E' 370 9 0) := by
      rw [f_X7_room, ap_e, x, f_X7_room_L44, ap_e, i00, gI_e, sI_ne (show ¬ (370 = 370 ∧ 16 = 9) by omega), g2]
    have fe : ∀ k j, ¬ (13 ≤ k ∧ k ≤ 21) → ¬ (k = 2 ∧ (j = 1 ∨ j = 2)) → ¬ (k = 0 ∧ j = 8) → ¬ (k = 371 ∧ 189 ≤ j ∧ j < 252) → ¬ (k = 370 ∧ (j = 10 ∨ j = 14 ∨ j = 15 ∨ j = 16)) → ¬ (k = 370 ∧ j = 9) → (sI E' 370 9 0).1 k j = D.1 k j := fun k j a1 a2 a3 a4 a5 a6 => by rw [sI_ne a6, fx k j a4 a5, sI_ne (by omega), fr1 k j a1 a2 a3]
    refine ⟨_, _, _, e1, e2, ?_⟩
    refine ⟨by rw [fe _ _ (by omega) (by omega) (by omega) (by omega) (by omega) (by omega), fe _ _ (by omega) (by omega) (by omega) (by omega) (by omega) (by omega)]; exact i1, ?_, ⟨0, by omega, ?_, sI_eq, fun j hj => absurd hj (by omega)⟩, fun i hi => (i4 i hi).at hi (fun k j z => fe k j (by omega) (by omega) (by omega) (by omega) (by omega) (by omega)), ⟨n0, r0, hN.at (fun k j z => fe k j (by omega) (by omega) (by omega) (by omega) (by omega) (by omega)), hP.at hn0 (fun _ _ => rfl) (fun k j z => fe k j (by omega) (by omega) (by omega) (by omega) (by omega) (by omega))⟩, fun i hi => (i7 i hi).at hi (fun k j z => fe k j (by omega) (by omega) (by omega) (by omega) (by omega) (by omega)), i8.at (fun k j z => fe k j (by omega) (by omega) (by omega) (by omega) (by omega) (by omega))⟩
    · rw [sI_ne (by omega), sI_ne (by omega), g1, fx 0 8 (by omega) (by omega), sI_ne (by omega), sI_eq]
    · rw [sI_ne (by omega), fx 2 1 (by omega) (by omega), sI_ne (by omega), sI_ne (by omega), sI_eq]; rfl
  have rdI : f_X5_readInto 13 D = f_X5_readInto_L11 (995 + 5) 13 (nI 0) (nI 0) C := by
    rw [f_X5_readInto, ap_e, hC]
    rfl
  have tl : ∀ E, MT E n tb → E.1 370 14 = nI 0 → ∃ E', f_X7_takesLaw E = tlEnd E' ∧ RepM E' 189 (fun _ => 0) ∧ MT E' n tb ∧ E'.1 370 14 = nI 0 ∧ FrX E E' ∧ E'.1 370 10 = E.1 370 10 := by
    intro E hE h14
    obtain ⟨E', e, R, f⟩ := tl_loop 63 0 FU E (by omega) (by unfold FU; omega) (fun j hj => absurd hj (by omega))
    have fx : FrX E E' := fun a b h1 h2 => f a b h1
    refine ⟨E', ?_, R, hE.fr fx, by rw [f _ _ (by omega)]; exact h14, fx, f _ _ (by omega)⟩
    rw [f_X7_takesLaw]; exact e
  rcases lawl t1 hb with ⟨q, f, hq, hf, cc, mm⟩ | ⟨wo, cr, p', hp', w1, c1, cc, mm⟩
  · obtain ⟨D', e, g, fr⟩ := cc 995 C hTC
    refine bad q f D' (by rw [rdI]; exact e) hq g (fC.tr fr) (fun E hE h14 => ?_)
    obtain ⟨E0, e0, R0, m0, a0, f0, b0⟩ := tl E hE h14
    obtain ⟨E', x, g1, g2, f1⟩ := mm E0 _ m0 a0 R0
    refine ⟨E', ?_, g1, g2, f0.tr f1⟩
    rw [e0, x, Option.bind_some, ap_e, show FU = 999 + 1 from rfl, f_X7_room_L10, i00]
  · have okL : Ok 0 (upd (upd (upd (fun _ => 0) 38 1) 39 (nI wo)) 40 (nI cr)) := ⟨by omega, rfl, ⟨0, by decide, rfl⟩, ⟨0, by decide, rfl⟩, ⟨wo, w1, rfl⟩, fun k hk => absurd hk (by omega)⟩
    obtain ⟨D', e, q1, q2, q3, fr⟩ := cc 995 C hTC
    have RL : RepC D' 13 0 (upd (upd (upd (fun _ => 0) 38 1) 39 (nI wo)) 40 (nI cr)) := rep0 (by rw [q3 _ (by omega) (by omega), z1 _ (by omega)]; rfl) (by rw [q3 _ (by omega) (by omega), z1 _ (by omega)]; rfl) (by rw [q3 _ (by omega) (by omega), z1 _ (by omega)]; rfl) (by rw [q1]; rfl) (by rw [q2]; rfl) (by rw [q3 _ (by omega) (by omega), z1 _ (by omega)]; rfl)
    have hTD : TP D' n tb := hTC.fr fr
    have mlaw : ∀ E, MT E n tb → E.1 370 14 = nI 0 → ∃ E', (f_X7_takesLaw E).bind (fun q2 => ap q2.1 (fun x3 => f_X7_room_L10 FU x3 q2.2)) = f_X7_room_L10 FU 1 E' ∧ RepM E' 189 (upd (upd (upd (fun _ => 0) 38 1) 39 (nI wo)) 40 (nI cr)) ∧ MT E' n tb ∧ E'.1 370 14 = nI p' ∧ FrX E E' ∧ E'.1 370 10 = E.1 370 10 := by
      intro E hE h14
      obtain ⟨E0, e0, R0, m0, a0, f0, b0⟩ := tl E hE h14
      obtain ⟨E', x, R, a, f1, b1⟩ := mm E0 _ m0 a0 R0
      refine ⟨E', ?_, R, m0.fr f1, a, f0.tr f1, b1.trans b0⟩
      rw [e0, x, Option.bind_some, ap_e]
    rcases rl t1 hb (n - p') p' 0 (upd (upd (upd (fun _ => 0) 38 1) 39 (nI wo)) 40 (nI cr)) (Nat.le_refl _) hp' okL (fun c _ h2 => by
      rw [upd_n (by omega), upd_n (by omega), upd_n (by omega), upd_n (by omega), upd_n (by omega), upd_n (by omega), upd_n (by omega), upd_n (by omega), upd_n (by omega)]
      exact ⟨rfl, rfl, rfl⟩) rfl with ⟨q, f, hq, hf, cc2, mm2⟩ | ⟨m', ρ', h0, okf, h38', cc2, mm2⟩
    · obtain ⟨D2, e2, g, fr2⟩ := cc2 995 D' (by omega) hTD RL
      refine bad q f D2 (by rw [rdI, e]; exact e2) hq g ((fC.tr fr).tr fr2) (fun E hE h14 => ?_)
      obtain ⟨E0, e0, R0, m0, a0, f0, b0⟩ := mlaw E hE h14
      obtain ⟨E', x, g1, g2, f1⟩ := mm2 FU E0 (by unfold FU; omega) m0 a0 R0
      exact ⟨E', by rw [e0, x], g1, g2, f0.tr f1⟩
    · have hm7 := okf.1
      obtain ⟨D2, e2, R2, fr2⟩ := cc2 995 D' (by omega) hTD RL
      have frA := (fC.tr fr).tr fr2
      have R3 : RepC (sI D2 2 1 0) 13 m' ρ' := R2.at hm7 (fun k j a1 a2 => sI_ne (by omega))
      obtain ⟨D3, e3, c3, f3⟩ := c_become' (t := 4) R3 hm7 (by omega)
      have q0 : (sI D3 23 2 0).1 4 0 = nI m' := by
        have := c3.f41
        rw [gI_e] at this
        rw [sI_ne (by omega), this, okf.2.1]
      have e1 : f_X6_room D = some (nI m', sI D3 23 2 0) := by
        rw [f_X6_room, rdI, e, e2, Option.bind_some, ap_e, ap_e, if_pos (show (-1 : Int32) < 0 by decide), e3, Option.bind_some, f_X2_forget, ap_e, ap_e, gI_e, q0]
      have fr1 : ∀ k j, ¬ (4 ≤ k ∧ k ≤ 21) → ¬ (k = 2 ∧ (j = 1 ∨ j = 2)) → ¬ (k = 23 ∧ j = 2) → (sI D3 23 2 0).1 k j = D.1 k j := fun k j a b c => by rw [sI_ne c, f3.1 k j (by omega), sI_ne (by omega), frA k j (by omega) (by omega)]
      have m1 : MT (sI (sI D3 23 2 0) 370 14 0) n tb := ⟨hM.1, by rw [sI_ne (by omega), fr1 _ _ (by omega) (by omega) (by omega)]; exact hM.2.1, fun j hj => by rw [sI_ne (by omega), fr1 _ _ (by omega) (by omega) (by omega)]; exact hM.2.2 j hj⟩
      obtain ⟨E0, x0, R0, m0, a0, f0, b0⟩ := mlaw _ m1 sI_eq
      obtain ⟨E1, x1, R1, f1, b1⟩ := mm2 FU E0 (by unfold FU; omega) m0 a0 R0
      obtain ⟨E2, x2, R2', u2⟩ := m_copy (f := 189) (t := 0) (by decide) (by decide) (by decide) (R1.at (E := sI E1 370 9 0) (fun j _ _ => sI_ne (by omega)))
      have e2 : f_X7_room (sI D3 23 2 0) = some (nI m', sI E2 370 3 0) := by
        rw [f_X7_room, ap_e, x0, x1, f_X7_room_L44, ap_e, i10, show f_X7_copyAll 189 0 (sI E1 370 9 0) = some E2 from x2, Option.bind_some, ap_e, (R2'.at (E := sI E2 370 3 0) (fun j _ _ => sI_ne (by omega))).y41, Option.bind_some, okf.2.1]
      have fe : ∀ k j, ¬ (4 ≤ k ∧ k ≤ 21) → ¬ (k = 2 ∧ (j = 1 ∨ j = 2)) → ¬ (k = 23 ∧ j = 2) → ¬ (k = 371 ∧ (j < 63 ∨ 189 ≤ j)) → ¬ (k = 370 ∧ (j = 10 ∨ j = 14 ∨ j = 15 ∨ j = 16)) → ¬ (k = 370 ∧ (j = 9 ∨ j = 3)) → (sI E2 370 3 0).1 k j = D.1 k j := fun k j a1 a2 a3 a4 a5 a6 => by rw [sI_ne (by omega), u2.1 k j (by omega), sI_ne (by omega), f1 k j (by omega) a5, f0 k j (by omega) a5, sI_ne (by omega), fr1 k j a1 a2 a3]
      obtain ⟨s, nx, p1, p2, p3, -⟩ := hP
      have eD : ∀ k j, k < 370 → (sI E2 370 3 0).1 k j = (sI D3 23 2 0).1 k j := fun k j hk => by rw [sI_ne (by omega), u2.1 k j (by omega), sI_ne (by omega), f1 k j (by omega) (by omega), f0 k j (by omega) (by omega), sI_ne (by omega)]
      refine ⟨_, _, _, e1, e2, ?_⟩
      refine ⟨by rw [fe _ _ (by omega) (by omega) (by omega) (by omega) (by omega) (by omega), fe _ _ (by omega) (by omega) (by omega) (by omega) (by omega) (by omega)]; exact i1, ?_, ⟨0, by omega, ?_, ?_, fun j hj => absurd hj (by omega)⟩, fun i hi => (i4 i hi).at hi (fun k j z => fe k j (by omega) (by omega) (by omega) (by omega) (by omega) (by omega)), ⟨m', ρ', ⟨c3.at hm7 (fun k j a1 a2 => by rw [eD k j (by omega), sI_ne (by omega)]), R2'.at (fun j _ _ => sI_ne (by omega)), okf, by rw [h38', if_neg (by omega)]⟩, ⟨0, nx, by omega, p2, by rw [fe _ _ (by omega) (by omega) (by omega) (by omega) (by omega) (by omega)]; exact p3, by rw [eD _ _ (by omega), sI_eq]; rfl, sI_eq, fun i hi => absurd hi (by omega)⟩⟩, fun i hi => (i7 i hi).at hi (fun k j z => fe k j (by omega) (by omega) (by omega) (by omega) (by omega) (by omega)), i8.at (fun k j z => fe k j (by omega) (by omega) (by omega) (by omega) (by omega) (by omega))⟩
      · have l1 : (sI E2 370 3 0).1 0 8 = D.1 0 8 := fe 0 8 (by omega) (by omega) (by omega) (by omega) (by omega) (by omega)
        have l2 : (sI E2 370 3 0).1 370 10 = D.1 370 10 := by rw [sI_ne (by omega), u2.1 370 10 (by omega), sI_ne (by omega), b1, b0, sI_ne (by omega), fr1 370 10 (by omega) (by omega) (by omega)]
        rw [l1, l2]; exact i2
      · rw [eD _ _ (by omega), sI_ne (by omega), f3.1 2 1 (by omega), sI_eq]; rfl
      · rw [sI_ne (by omega), u2.1 370 9 (by omega), sI_eq]; rfl
