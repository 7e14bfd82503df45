/-! copy, as -/
theorem cp_e {D : wd_D} {s d I J T : Nat} (h1 : I + T ≤ 40) (h2 : J + T ≤ 40) : cp 40 40 D s (nI I) d (nI J) (nI T) = some (cpD D s I d J T) := by
  unfold cp
  rw [nI_clamp (by omega), nI_clamp (by omega), nI_clamp (by omega), if_neg]
  intro z
  rcases z with z | z | z | z | z
  · exact nI_pos (by omega) z
  · exact nI_pos (by omega) z
  · exact nI_pos (by omega) z
  · omega
  · omega
theorem cpD_1 {D : wd_D} {s d I J T k j : Nat} : (cpD D s I d J T).1 k j = if k = d ∧ J ≤ j ∧ j < J + T then D.1 s (I + (j - J)) else D.1 k j := rfl
theorem op_copy {D : wd_D} (h : Inv D) (a1 a2 a3 a4 a5 : Int32) : ∃ v D1 D2, f_X6_copy a1 a2 a3 a4 a5 D = some (v, D1) ∧ f_X7_copy a1 a2 a3 a4 a5 D1 = some (v, D2) ∧ Inv D2 := by
  have ms : ∀ E, f_X7_copy a1 a2 a3 a4 a5 E = if f_X6_noRow a1 = 0 then (if f_X6_noRow a3 = 0 then (rd 8 E 375 a1).bind (fun x3 => (if x3 < 0 then f_X7_copy_L35 a1 a2 a3 a4 a5 E else (rd 8 E 375 a3).bind (fun x5 => (if 0 ≤ x5 then (rd 8 E 376 a1).bind (fun x7 => (rd 8 E 376 a3).bind (fun x8 => (if x7 = x8 then (if a5 < 0 then f_X7_copy_L98 a1 a2 a3 a4 a5 E else (rd 8 E 375 a1).bind (fun x11 => (if (f_X7_fits a2 a5 x11) = 0 then f_X7_copy_L98 a1 a2 a3 a4 a5 E else (rd 8 E 375 a3).bind (fun x13 => (if (f_X7_fits a4 a5 x13) = 0 then f_X7_copy_L98 a1 a2 a3 a4 a5 E else f_X7_copy_L107 FU a1 a2 a3 a4 a5 0 E))))) else ap (f_X7_found 5 E) (fun q15 => some (q15.1, q15.2))))) else f_X7_copy_L35 a1 a2 a3 a4 a5 E)))) else some ((-1000001), E)) else some ((-1000001), E) := by
    intro E
    unfold f_X7_copy
    rw [isRow_e, ib, isRow_e, ib]
  unfold f_X6_copy
  by_cases c1 : f_X6_noRow a1 = 0
  · rw [if_pos c1]
    by_cases c3 : f_X6_noRow a3 = 0
    · rw [if_pos c3]
      obtain ⟨i, i8, e1⟩ := row_nI c1
      subst e1
      obtain ⟨k, k8, e3⟩ := row_nI c3
      subst e3
      rw [ix_nI i8, ix_nI k8, Option.bind_some]
      rcases h.2.2.2.1 i i8 with ⟨h1, h2⟩ | ⟨l, sz, h1, h2, h3, h4, h5, h6, h7⟩
      · rw [if_pos (show gI D (336 + 2 * i) 1 = -1 from h1), f_X6_copy_L43, c_fnd]
        refine ⟨_, _, sI (sI D 0 9 1) 370 7 1, rfl, ?_, h.two.fin 1⟩
        rw [ms, if_pos c1, if_pos c3, rd_nI _ 375 i8, Option.bind_some, sI_ne (by omega), h2, if_pos (show (-1 : Int32) < 0 by decide), f_X7_copy_L35, m_fnd]
      rw [if_neg (show ¬ gI D (336 + 2 * i) 1 = -1 from by rw [gI_e, h3]; exact nI_neg (by omega)), Option.bind_some]
      rcases h.2.2.2.1 k k8 with ⟨g1, g2⟩ | ⟨l', sz', g1, g2, g3, g4, g5, g6, g7⟩
      · rw [if_pos (show gI D (336 + 2 * k) 1 = -1 from g1), f_X6_copy_L43, c_fnd]
        refine ⟨_, _, sI (sI D 0 9 1) 370 7 1, rfl, ?_, h.two.fin 1⟩
        rw [ms, if_pos c1, if_pos c3, rd_nI _ 375 i8, Option.bind_some, sI_ne (by omega), h6, if_neg (nI_pos (by omega)), rd_nI _ 375 k8, Option.bind_some, sI_ne (by omega), g2, if_neg (show ¬ (0 : Int32) ≤ -1 by decide), f_X7_copy_L35, m_fnd]
      rw [if_neg (show ¬ gI D (336 + 2 * k) 1 = -1 from by rw [gI_e, g3]; exact nI_neg (by omega)), Option.bind_some, Option.bind_some, gI_e, gI_e, h3, g3]
      have mg : ∀ E, E.1 375 i = D.1 375 i → E.1 375 k = D.1 375 k → E.1 376 i = D.1 376 i → E.1 376 k = D.1 376 k → f_X7_copy (nI i) a2 (nI k) a4 a5 E = (if nI l = nI l' then (if a5 < 0 then f_X7_copy_L98 (nI i) a2 (nI k) a4 a5 E else (if (f_X7_fits a2 a5 (nI sz)) = 0 then f_X7_copy_L98 (nI i) a2 (nI k) a4 a5 E else (if (f_X7_fits a4 a5 (nI sz')) = 0 then f_X7_copy_L98 (nI i) a2 (nI k) a4 a5 E else f_X7_copy_L107 FU (nI i) a2 (nI k) a4 a5 0 E))) else ap (f_X7_found 5 E) (fun q15 => some (q15.1, q15.2))) := by
        intro E k1 k2 k3 k4
        rw [ms, if_pos c1, if_pos c3, rd_nI _ 375 i8, Option.bind_some, k1, h6, if_neg (nI_pos (by omega)), rd_nI _ 375 k8, Option.bind_some, k2, g6, if_pos (nI_pos' (by omega)), rd_nI _ 376 i8, Option.bind_some, rd_nI _ 376 k8, Option.bind_some, k3, k4, h4, g4, Option.bind_some, Option.bind_some]
      by_cases c5 : nI l = nI l'
      · rw [if_pos c5, Option.bind_some]
        have bad : ∀ x : Option (Int32 × wd_D), x = f_X6_copy_L107 (nI i) a2 (nI k) a4 a5 D → f_X7_copy (nI i) a2 (nI k) a4 a5 (sI D 0 9 2) = f_X7_copy_L98 (nI i) a2 (nI k) a4 a5 (sI D 0 9 2) → ∃ v D1 D2, x = some (v, D1) ∧ f_X7_copy (nI i) a2 (nI k) a4 a5 D1 = some (v, D2) ∧ Inv D2 := by
          intro x hx hm
          rw [hx, f_X6_copy_L107, c_fnd]
          refine ⟨_, _, sI (sI D 0 9 2) 370 7 2, rfl, ?_, h.two.fin 2⟩
          rw [hm, f_X7_copy_L98, m_fnd]
        have mb := mg (sI D 0 9 2) (sI_ne (by omega)) (sI_ne (by omega)) (sI_ne (by omega)) (sI_ne (by omega))
        rw [if_pos c5] at mb
        rcases Classical.em (∃ I T, a2 = nI I ∧ a5 = nI T ∧ I + T ≤ sz) with ⟨I, T, q1, q2, q3⟩ | hno
        · subst q1 q2
          rw [(lack_yes h5 h2 q3).1, i00, Option.bind_some]
          rcases Classical.em (∃ J T', a4 = nI J ∧ nI T = nI T' ∧ J + T' ≤ sz') with ⟨J, T', q4, q5, q6⟩ | hno
          · have eT : T = T' ∨ T ≠ T' := Classical.em _
            subst q4
            rw [q5]
            have hT' : T' = T := by
              have := congrArg Int32.toInt q5
              rw [nI_toInt (by omega), nI_toInt (by omega)] at this
              omega
            subst hT'
            rw [(lack_yes g5 g2 q6).1, i00, Option.bind_some, Option.bind_some, cp_e (by omega) (by omega), Option.bind_some]
            have q9 : ∀ a j, a ≠ 336 + 2 * k + 1 → ¬ (a = 0 ∧ j = 9) → (sI (cpD D (336 + 2 * i + 1) I (336 + 2 * k + 1) J T') 0 9 0).1 a j = D.1 a j := fun a j b1 b2 => by
              rw [sI_ne b2, cpD_1, if_neg (fun z => b1 z.1)]
            obtain ⟨E1, x1, x2, x3⟩ := cb_loop (T := T') (P := 40 * i + I) (a1 := nI i) (a2 := nI I) (a3 := nI k) (a4 := nI J) (o := fun j => D.1 (336 + 2 * i + 1) (I + j)) (by omega) (by omega) (by rw [show (40 : Int32) = nI 40 from rfl, pk_mul, nI_add]) T' 0 FU (sI (cpD D (336 + 2 * i + 1) I (336 + 2 * k + 1) J T') 0 9 0) (by omega) (by unfold FU; omega) (fun j hj => by
              rw [q9 _ _ (by omega) (by omega), h7 (I + j) (by omega), Nat.add_assoc]) (fun j hj => absurd hj (by omega))
            obtain ⟨E2, y1, y2, y3⟩ := cc_loop (T := T') (P := 40 * k + J) (a1 := nI i) (a2 := nI I) (a3 := nI k) (a4 := nI J) (o := fun j => D.1 (336 + 2 * i + 1) (I + j)) (by omega) (by omega) (by rw [show (40 : Int32) = nI 40 from rfl, pk_mul, nI_add]) T' 0 FU E1 (by omega) (by unfold FU; omega) x2 (fun j hj => absurd hj (by omega))
            have e2 : ∀ a j, ¬ (a = 374 ∧ 40 * k + J ≤ j ∧ j < 40 * k + J + T') → a ≠ 379 → E2.1 a j = (sI (cpD D (336 + 2 * i + 1) I (336 + 2 * k + 1) J T') 0 9 0).1 a j := fun a j b1 b2 => by rw [y3 a j b1, x3 a j b2]
            have hp : PRow E2 k := by
              refine Or.inr ⟨l', sz', g1, g2, ?_, ?_, ?_, ?_, fun j hj => ?_⟩
              · rw [e2 _ _ (by omega) (by omega), q9 _ _ (by omega) (by omega)]; exact g3
              · rw [e2 _ _ (by omega) (by omega), q9 _ _ (by omega) (by omega)]; exact g4
              · rw [e2 _ _ (by omega) (by omega), q9 _ _ (by omega) (by omega)]; exact g5
              · rw [e2 _ _ (by omega) (by omega), q9 _ _ (by omega) (by omega)]; exact g6
              · rw [e2 _ _ (by omega) (by omega), sI_ne (by omega), cpD_1]
                by_cases hj2 : J ≤ j ∧ j < J + T'
                · have := y2 (j - J) (by omega)
                  rw [show 40 * k + J + (j - J) = 40 * k + j by omega] at this
                  rw [if_pos ⟨rfl, hj2⟩, this]
                · rw [if_neg (fun z => hj2 z.2), e2 _ _ (by omega) (by omega), q9 _ _ (by omega) (by omega)]
                  exact g7 j hj
            have hI : Inv2 E2 := h.two.row k8 (fun a j b1 b2 b3 b4 b5 b6 b7 b8 => by rw [e2 a j (by omega) b8, q9 a j b2 b6]) hp
            refine ⟨nI T', sI (cpD D (336 + 2 * i + 1) I (336 + 2 * k + 1) J T') 0 9 0, sI E2 370 7 0, rfl, ?_, hI.fin7 (by rw [e2 _ _ (by omega) (by omega), sI_eq])⟩
            rw [mg _ (q9 _ _ (by omega) (by omega)) (q9 _ _ (by omega) (by omega)) (q9 _ _ (by omega) (by omega)) (q9 _ _ (by omega) (by omega)), if_pos c5, if_neg (nI_pos (by omega)), (lack_yes h5 h2 q3).2, i10, (lack_yes g5 g2 q6).2, i10]
            rw [show (0 : Int32) = nI 0 from rfl]
            exact x1.trans y1
          · refine bad _ (by rw [(lack_no g5 g2 hno).1, i10]) ?_
            rw [mb, if_neg (nI_pos (by omega)), (lack_yes h5 h2 q3).2, i10, (lack_no g5 g2 hno).2 (nI_pos (by omega)), i00]
        · refine bad _ (by rw [(lack_no h5 h2 hno).1, i10]) ?_
          rw [mb]
          by_cases c6 : a5 < 0
          · rw [if_pos c6]
          · rw [if_neg c6, (lack_no h5 h2 hno).2 c6, i00]
      · rw [if_neg c5, c_fnd]
        refine ⟨_, _, sI (sI D 0 9 5) 370 7 5, rfl, ?_, h.two.fin 5⟩
        rw [mg _ (sI_ne (by omega)) (sI_ne (by omega)) (sI_ne (by omega)) (sI_ne (by omega)), if_neg c5, m_fnd]
    · rw [if_neg c3]
      exact ⟨_, D, D, rfl, by rw [ms, if_pos c1, if_neg c3], h⟩
  · rw [if_neg c1]
    exact ⟨_, D, D, rfl, by rw [ms, if_neg c1], h⟩
def isK (a b : Nat) : Bool := b == 0 || b == a || (b == 1 && decide (a < 4)) || (b == 4 && a == 5)
theorem isOne_e (D : wd_D) : ∀ a, 1 ≤ a → a < 6 → ∀ b, b < 6 → f_X6_isOne (nI a) (nI b) D = some (if isK a b then 1 else 0) := by
  intro a h1 h2 b hb
  rcases (show a = 1 ∨ a = 2 ∨ a = 3 ∨ a = 4 ∨ a = 5 by omega) with rfl | rfl | rfl | rfl | rfl <;>
    rcases (show b = 0 ∨ b = 1 ∨ b = 2 ∨ b = 3 ∨ b = 4 ∨ b = 5 by omega) with rfl | rfl | rfl | rfl | rfl | rfl <;> rfl
theorem asX_e {α : Type} (X Y : α) : ∀ a, 1 ≤ a → a < 6 → ∀ b, b < 6 → (if nI b = 0 then X else (if nI b = nI a then X else (if nI b = 1 then (if nI a < 4 then X else (if nI b = 4 then (if nI a = 5 then X else Y) else Y)) else (if nI b = 4 then (if nI a = 5 then X else Y) else Y)))) = if isK a b then X else Y := by
  intro a h1 h2 b hb
  rcases (show a = 1 ∨ a = 2 ∨ a = 3 ∨ a = 4 ∨ a = 5 by omega) with rfl | rfl | rfl | rfl | rfl <;>
    rcases (show b = 0 ∨ b = 1 ∨ b = 2 ∨ b = 3 ∨ b = 4 ∨ b = 5 by omega) with rfl | rfl | rfl | rfl | rfl | rfl <;> rfl
theorem asM_e (E : wd_D) (a1 : Int32) {a b : Nat} (h1 : 1 ≤ a) (h2 : a < 6) (hb : b < 6) : (if nI b = 0 then f_X7_as_L62 a1 (nI b) E else (if nI b = nI a then f_X7_as_L62 a1 (nI b) E else (if nI b = 1 then (if nI a < 4 then f_X7_as_L62 a1 (nI b) E else f_X7_as_L52 a1 (nI b) (nI a) E) else f_X7_as_L52 a1 (nI b) (nI a) E))) = f_X7_as_L67 a1 (nI b) (if isK a b then 1 else 0) E := by
  rw [f_X7_as_L52, f_X7_as_L62, f_X7_as_L66]
  refine (asX_e (f_X7_as_L67 a1 (nI b) 1 E) (f_X7_as_L67 a1 (nI b) 0 E) a h1 h2 b hb).trans ?_
  cases isK a b
  · rw [if_neg (show ¬ (false = true) by decide), if_neg (show ¬ (false = true) by decide)]
  · rw [if_pos (show true = true from rfl), if_pos (show true = true from rfl)]
theorem op_as {D : wd_D} (h : Inv D) (a1 a2 : Int32) : ∃ v D1 D2, f_X6_as a1 a2 D = some (v, D1) ∧ f_X7_as a1 a2 D1 = some (v, D2) ∧ Inv D2 := by
  obtain ⟨n, r, hN, hP⟩ := h.2.2.2.2.1
  have ok := hN.2.2.1
  have hn := ok.1
  unfold f_X6_as
  rw [noChild_e hN.1 ok]
  have ms : ∀ E, RepM E 0 r → f_X7_as a1 a2 E = if (if a1 < 0 then (1 : Int32) else if a1 < nI n then 0 else 1) = 0 then (if f_X6_beyond a2 0 5 = 0 then (rd 252 E 371 (42 + a1)).bind (fun x4 => (if a2 = 0 then f_X7_as_L62 a1 a2 E else (if a2 = x4 then f_X7_as_L62 a1 a2 E else (if a2 = 1 then (if x4 < 4 then f_X7_as_L62 a1 a2 E else f_X7_as_L52 a1 a2 x4 E) else f_X7_as_L52 a1 a2 x4 E)))) else some (-1000001, E)) else some (-1000001, E) := by
    intro E hE
    unfold f_X7_as
    rw [isChild_e hE ok, Option.bind_some, show f_X7_in a2.toInt64 0 5 = if f_X6_beyond a2 0 5 = 0 then 1 else 0 from in_bey a2 0 5, ib, ib]
  by_cases hz : (if a1 < 0 then (1 : Int32) else if a1 < nI n then 0 else 1) = 0
  · rw [if_pos hz]
    by_cases c2 : f_X6_beyond a2 0 5 = 0
    · rw [if_pos c2]
      obtain ⟨c, hc, e1⟩ := child_nI ok.1 hz
      subst e1
      obtain ⟨b, -, hb, e2⟩ := bey_nI (lo := 0) (hi := 5) (by decide) (by decide) c2
      subst e2
      obtain ⟨⟨a, g1, g2, g3⟩, -⟩ := ok.2.2.2.2.2 c hc
      rw [hN.1.r42 hn hc, Option.bind_some, g3, isOne_e D a g1 g2 b (by omega), Option.bind_some]
      have mg : ∀ E, RepM E 0 r → f_X7_as (nI c) (nI b) E = f_X7_as_L67 (nI c) (nI b) (if isK a b then 1 else 0) E := by
        intro E hE
        rw [ms E hE, if_pos hz, if_pos c2, hE.z42 (by omega), Option.bind_some, g3, asM_e E (nI c) g1 g2 (show b < 6 by omega)]
      cases hk : isK a b with
      | true =>
        refine ⟨nI c, sI D 0 9 0, sI (sI D 0 9 0) 370 7 0, rfl, ?_, h.two.fin 0⟩
        rw [mg _ (hN.2.1.at (fun j _ _ => sI_ne (by omega))), hk]; rfl
      | false =>
        rw [if_neg (show ¬ (false = true) by decide), i00, c_fnd]
        refine ⟨_, sI D 0 9 3, sI (sI D 0 9 3) 370 7 3, rfl, ?_, h.two.fin 3⟩
        rw [mg _ (hN.2.1.at (fun j _ _ => sI_ne (by omega))), hk, if_neg (show ¬ (false = true) by decide), f_X7_as_L67, i00, m_fnd]
    · rw [if_neg c2]
      exact ⟨_, D, D, rfl, by rw [ms D hN.2.1, if_pos hz, if_neg c2], h⟩
  · rw [if_neg hz]
    exact ⟨_, D, D, rfl, by rw [ms D hN.2.1, if_neg hz], h⟩
