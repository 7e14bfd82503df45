/-! ask, the call -/
def sbK (a : Nat) : Int32 := if a = 1 then 11 else if a = 2 then 12 else if a = 3 then 11 else if a = 4 then 13 else 14
def mbK (a : Nat) : Int32 := if a = 1 then 21 else if a = 2 then 24 else if a = 3 then 22 else 23
theorem near4 (D : wd_D) {a : Nat} (h1 : 1 ≤ a) (h2 : a < 6) : f_X0_nearest 4 (nI a) D = some (sbK a) := by
  rcases (show a = 1 ∨ a = 2 ∨ a = 3 ∨ a = 4 ∨ a = 5 by omega) with rfl | rfl | rfl | rfl | rfl <;> rfl
theorem near5 (D : wd_D) {a : Nat} (h1 : 1 ≤ a) (h2 : a < 6) : f_X0_nearest 5 (nI a) D = some (mbK a) := by
  rcases (show a = 1 ∨ a = 2 ∨ a = 3 ∨ a = 4 ∨ a = 5 by omega) with rfl | rfl | rfl | rfl | rfl <;> rfl
theorem gv_size {r : Rho} {n c a : Nat} (h1 : 1 ≤ a) (h2 : a < 6) : ∃ k, k ≤ 16 ∧ Gv (nI c) (r (1 + c)) (noS r c n) (sbK a) (mbK a) (sbK a) k (szV r n c a) (szL a) := by
  rcases (show a = 1 ∨ a = 2 ∨ a = 3 ∨ a = 4 ∨ a = 5 by omega) with rfl | rfl | rfl | rfl | rfl
  · exact ⟨_, by decide, gv11 (mb := mbK 1) gv21⟩
  · exact ⟨_, by decide, gv12 (mb := mbK 2) gv24⟩
  · exact ⟨_, by decide, gv11 (mb := mbK 3) gv22⟩
  · exact ⟨_, by decide, gv13⟩
  · exact ⟨_, by decide, gv14⟩
theorem gv_mark {r : Rho} {n c a : Nat} (h1 : 1 ≤ a) (h2 : a < 6) : ∃ k, k ≤ 16 ∧ Gv (nI c) (r (1 + c)) (noS r c n) (sbK a) (mbK a) (mbK a) k (mkV r n c a) (mkL a) := by
  rcases (show a = 1 ∨ a = 2 ∨ a = 3 ∨ a = 4 ∨ a = 5 by omega) with rfl | rfl | rfl | rfl | rfl
  · exact ⟨_, by decide, gv21⟩
  · exact ⟨_, by decide, gv24⟩
  · exact ⟨_, by decide, gv22⟩
  · exact ⟨_, by decide, gv23 (sb := sbK 4) gv13⟩
  · exact ⟨_, by decide, gv23 (sb := sbK 5) gv14⟩
theorem szL_le {a : Nat} (h1 : 1 ≤ a) (h2 : a < 6) : (szL a).length ≤ 16 ∧ (mkL a).length ≤ 16 := by
  rcases (show a = 1 ∨ a = 2 ∨ a = 3 ∨ a = 4 ∨ a = 5 by omega) with rfl | rfl | rfl | rfl | rfl <;> decide
theorem op_ask {D : wd_D} (h : Inv D) (a1 a2 : Int32) : ∃ v D1 D2, f_X6_ask a1 a2 D = some (v, D1) ∧ f_X7_ask a1 a2 D1 = some (v, D2) ∧ Inv D2 := by
  obtain ⟨i1, i2, i3, i4, ⟨n, r, hN, hP⟩, i7, i8⟩ := id h
  have ok := hN.2.2.1
  have hn := ok.1
  unfold f_X6_ask
  rw [noChild_e hN.1 ok]
  have ms : ∀ E, RepM E 0 r → f_X7_ask a1 a2 E = if (if a1 < 0 then (1 : Int32) else if a1 < nI n then 0 else 1) = 0 then (if f_X6_beyond a2 0 1 = 0 then (if a2 = 0 then (f_X7_size a1 (sI E 370 12 0)) else (f_X7_mark a1 (sI E 370 12 0))) else some (-1000001, E)) else some (-1000001, E) := by
    intro E hE
    unfold f_X7_ask
    rw [isChild_e hE ok, Option.bind_some, show f_X7_in a2.toInt64 0 1 = if f_X6_beyond a2 0 1 = 0 then 1 else 0 from in_bey a2 0 1, ib, ib, ap_e, bind_id, bind_id]
  by_cases hz : (if a1 < 0 then (1 : Int32) else if a1 < nI n then 0 else 1) = 0
  · rw [if_pos hz]
    by_cases c2 : f_X6_beyond a2 0 1 = 0
    · rw [if_pos c2]
      obtain ⟨c, hc, e1⟩ := child_nI ok.1 hz
      subst e1
      obtain ⟨⟨a, g1, g2, g3⟩, -⟩ := ok.2.2.2.2.2 c hc
      have hR : ∀ E : wd_D, (∀ k j, k ≠ 334 → E.1 k j = D.1 k j) → RepC E 4 n r := fun E hE => hN.1.at hn (fun k j b1 b2 => hE k j (by omega))
      have f1 : ∀ k j, k ≠ 334 → (sI (sI D 334 1 0) 334 2 (nI c)).1 k j = D.1 k j := fun k j b => by rw [sI_ne (by omega), sI_ne (by omega)]
      have f2 : ∀ k j, k ≠ 334 → (sI (sI (sI D 334 1 0) 334 2 (nI c)) 334 3 (r (1 + c))).1 k j = D.1 k j := fun k j b => by rw [sI_ne (by omega), f1 k j b]
      have f3 : ∀ k j, k ≠ 334 → (sI (sI (sI (sI D 334 1 0) 334 2 (nI c)) 334 3 (r (1 + c))) 334 4 (noS r c n)).1 k j = D.1 k j := fun k j b => by rw [sI_ne (by omega), f2 k j b]
      have f4 : ∀ k j, k ≠ 334 → (sI (sI (sI (sI (sI D 334 1 0) 334 2 (nI c)) 334 3 (r (1 + c))) 334 4 (noS r c n)) 334 5 (sbK a)).1 k j = D.1 k j := fun k j b => by rw [sI_ne (by omega), f3 k j b]
      have f5 : ∀ k j, k ≠ 334 → (sI (sI (sI (sI (sI (sI D 334 1 0) 334 2 (nI c)) 334 3 (r (1 + c))) 334 4 (noS r c n)) 334 5 (sbK a)) 334 6 (mbK a)).1 k j = D.1 k j := fun k j b => by rw [sI_ne (by omega), f4 k j b]
      have hcr : f_X3_heardCriers 4 (sI (sI (sI D 334 1 0) 334 2 (nI c)) 334 3 (r (1 + c))) = some (crS r n) := by
        unfold f_X3_heardCriers
        rw [c_those (hR _ f2) hn ok.2.1, Option.bind_some, (hR _ f2).f36]; rfl
      have ea : f_X0_answer 4 (nI c) a2 D = (if a2 = 0 then f_X0_answer_L81 4 (nI c) a2 (sbK a) (sI (sI (sI (sI (sI (sI D 334 1 0) 334 2 (nI c)) 334 3 (r (1 + c))) 334 4 (noS r c n)) 334 5 (sbK a)) 334 6 (mbK a)) else f_X0_answer_L81 4 (nI c) a2 (mbK a) (sI (sI (sI (sI (sI (sI D 334 1 0) 334 2 (nI c)) 334 3 (r (1 + c))) 334 4 (noS r c n)) 334 5 (sbK a)) 334 6 (mbK a))) := by
        rw [f_X0_answer, ap_e, ap_e, (hR _ f1).r1 hn hc, Option.bind_some, ap_e, hcr, Option.bind_some, c_noise (hR _ f2) ok hc, Option.bind_some, ap_e, (hR _ f3).r42 hn hc, Option.bind_some, g3, near4 _ g1 g2, Option.bind_some, ap_e, (hR _ f4).r42 hn hc, Option.bind_some, g3, near5 _ g1 g2, Option.bind_some, ap_e, gI_e, gI_e, sI_eq, sI_ne (show ¬ (334 = 334 ∧ 5 = 6) by omega), sI_eq]
      rw [ea, bind_id]
      generalize hD0 : sI (sI (sI (sI (sI (sI D 334 1 0) 334 2 (nI c)) 334 3 (r (1 + c))) 334 4 (noS r c n)) 334 5 (sbK a)) 334 6 (mbK a) = D0 at f5
      have hQ : Qa D0 (nI c) (r (1 + c)) (noS r c n) (sbK a) (mbK a) := by
        rw [← hD0]
        refine ⟨?_, ?_, ?_, ?_, ?_⟩ <;> (repeat (first | rw [sI_eq] | rw [sI_ne (by omega)]))
      have hD1 : D0.1 334 1 = nI 0 := by
        rw [← hD0]
        (repeat (first | rw [sI_eq] | rw [sI_ne (by omega)]))
        rfl
      have fin : ∀ (b : Int32) (k : Nat) (v : Int32) (L : List Int32) (fm : wd_D → Option (Int32 × wd_D)), k ≤ 16 → L.length ≤ 16 → Gv (nI c) (r (1 + c)) (noS r c n) (sbK a) (mbK a) b k v L → Mv r fm v L → (∀ E, RepM E 0 r → f_X7_ask (nI c) a2 E = fm (sI E 370 12 0)) → ∃ v D1 D2, f_X0_answer_L81 4 (nI c) a2 b D0 = some (v, D1) ∧ f_X7_ask (nI c) a2 D1 = some (v, D2) ∧ Inv D2 := by
        intro b k v L fm hk hL hG hM hfm
        obtain ⟨D1, x1, t1⟩ := hG D0 0 0 20 hQ hD1 (by omega) (by omega) (by omega)
        have u1 : ∀ k j, k ≠ 334 → k ≠ 335 → D1.1 k j = D.1 k j := fun k j b1 b2 => by rw [t1.2.2 k j (by omega) (by omega), f5 k j b1]
        have hM1 : RepM D1 0 r := hN.2.1.at (fun j _ _ => u1 371 j (by omega) (by omega))
        obtain ⟨E, x2, t2, -⟩ := hM (sI D1 370 12 0) 0 (hM1.at (fun j _ _ => sI_ne (by omega))) sI_eq (by omega)
        have u2 : ∀ k j, ¬ (k = 370 ∧ j = 12) → k ≠ 378 → E.1 k j = D1.1 k j := fun k j b1 b2 => by rw [t2.2.2 k j b1 (by omega), sI_ne b1]
        have e : ∀ k j, k ≠ 334 → k ≠ 335 → ¬ (k = 370 ∧ j = 12) → k ≠ 378 → E.1 k j = D.1 k j := fun k j b1 b2 b3 b4 => by rw [u2 k j b3 b4, u1 k j b1 b2]
        refine ⟨v, D1, E, ?_, ?_, ?_⟩
        · rw [f_X0_answer_L81, show (0 : Int32) = nI 0 from rfl, x1, Option.bind_some]
        · rw [hfm D1 hM1, x2]
        · refine ⟨by rw [e _ _ (by omega) (by omega) (by omega) (by omega), e _ _ (by omega) (by omega) (by omega) (by omega)]; exact i1, by rw [e _ _ (by omega) (by omega) (by omega) (by omega), e _ _ (by omega) (by omega) (by omega) (by omega)]; exact i2, i3.at (fun k j z => e k j (by omega) (by omega) (by omega) (by omega)), fun i hi => (i4 i hi).at hi (fun k j z => e k j (by omega) (by omega) (by omega) (by omega)), ⟨n, r, hN.at (fun k j z => e k j (by omega) (by omega) (by omega) (by omega)), hP.at hn (fun _ _ => rfl) (fun k j z => e k j (by omega) (by omega) (by omega) (by omega))⟩, fun i hi => (i7 i hi).at hi (fun k j z => e k j (by omega) (by omega) (by omega) (by omega)), ?_⟩
          have y1 := t1.1
          have y2 := t2.1
          rw [Nat.zero_add] at y1 y2
          refine ⟨L.length, hL, by rw [u2 _ _ (by omega) (by omega)]; exact y1, y2, fun j hj => ?_⟩
          have z1 := t1.2.1 j hj
          have z2 := t2.2.1 j hj
          rw [Nat.zero_add] at z1 z2
          rw [u2 _ _ (by omega) (by omega), z1, z2]
      by_cases z : a2 = 0
      · rw [if_pos z]
        obtain ⟨k, hk, hG⟩ := gv_size (r := r) (n := n) (c := c) g1 g2
        exact fin _ k _ _ (f_X7_size (nI c)) hk (szL_le g1 g2).1 hG (mv_size ok (by omega) g1 g2 g3) (fun E hE => by rw [ms E hE, if_pos hz, if_pos c2, if_pos z])
      · rw [if_neg z]
        obtain ⟨k, hk, hG⟩ := gv_mark (r := r) (n := n) (c := c) g1 g2
        exact fin _ k _ _ (f_X7_mark (nI c)) hk (szL_le g1 g2).2 hG (mv_mark ok (by omega) g1 g2 g3) (fun E hE => by rw [ms E hE, if_pos hz, if_pos c2, if_neg z])
    · rw [if_neg c2]
      exact ⟨_, D, D, rfl, by rw [ms D hN.2.1, if_pos hz, if_neg c2], h⟩
  · rw [if_neg hz]
    exact ⟨_, D, D, rfl, by rw [ms D hN.2.1, if_neg hz], h⟩
