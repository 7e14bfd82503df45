/-! hand, carry, change, lorry, need -/
theorem upd_ge {r : Rho} {k : Nat} {v : Int32} (hk : k < 38) : ∀ j, 38 ≤ j → upd r k v j = r j := fun j hj => upd_n (by omega)
theorem isRoom_m {D : wd_D} {n : Nat} {r : Rho} (h : RepM D 0 r) (h38 : r 38 = if n = 0 then 0 else 1) : f_X7_isRoom D = some (if n = 0 then 0 else 1) := by
  unfold f_X7_isRoom
  have h1 := h 38 (by decide)
  rw [show (38 : Int32) = nI 38 from rfl, rd_nI D 371 (show 38 < 252 by decide)]
  rw [Nat.zero_add] at h1
  rw [h1, h38, Option.bind_some]
  by_cases e : n = 0
  · simp [e]
  · simp [e]
/-- an act, on either side -/
theorem act_both {D : wd_D} (h : Inv D) {n : Nat} {r : Rho} (hN : PNow D n r) (hP : PPast D n r) : ∃ Dk, f_X2_keep 4 D = some Dk ∧ RepC Dk 4 n r ∧ ∀ D1 r', RepC D1 4 n r' → Fr 4 Dk D1 → (∀ j, 38 ≤ j → r' j = r j) → Ok n r' → (∀ k j, 370 ≤ k → D1.1 k j = D.1 k j) ∧ ∃ Ek, f_X7_minds D1 = some Ek ∧ RepM Ek 0 r ∧ ∀ E, RepM E 0 r' → FrM 0 Ek E → Inv E := by
  have ok := hN.2.2.1
  have hn := ok.1
  obtain ⟨p, s, nx, hC, hM, hG⟩ := hP.split
  obtain ⟨Dk, e1, c1, p1, f1⟩ := c_keep hN.1 hn hC
  refine ⟨Dk, e1, c1, fun D1 r' hR' hF hr ok' => ?_⟩
  have g : ∀ k j, k ≠ 23 → ¬ (25 ≤ k ∧ k ≤ 240) → ¬ (4 ≤ k ∧ k ≤ 12) → D1.1 k j = D.1 k j := fun k j a1 a2 a3 => by rw [hF.1 k j (by omega), f1 k j a1 a2]
  have g7 : ∀ k j, 370 ≤ k → D1.1 k j = D.1 k j := fun k j hk => g k j (by omega) (by omega) (by omega)
  refine ⟨g7, ?_⟩
  have hM0 : RepM D1 0 r := hN.2.1.at (fun j _ _ => g7 371 j (by omega))
  have hPM : PM D1 p s := ⟨by rw [g7 _ _ (by omega)]; exact hM.1, fun i hi j hj => by rw [g7 _ _ (by omega)]; exact hM.2 i hi j hj⟩
  obtain ⟨Ek, e2, c2, p2, f2⟩ := m_minds hM0 hC.1 hPM
  refine ⟨Ek, e2, c2, fun E hE hu => ?_⟩
  have u : ∀ k j, k ≠ 380 → ¬ (k = 371 ∧ j < 63) → E.1 k j = Ek.1 k j := fun k j a1 a2 => hu.1 k j a1 (fun _ => by omega)
  have pc1 : PC D1 n (keP p s r) (keS s) ((nx + 1) % 24) := ⟨p1.1, p1.2.1, by rw [hF.1 _ _ (by omega)]; exact p1.2.2.1, by rw [hF.1 _ _ (by omega)]; exact p1.2.2.2.1, fun i hi => (p1.2.2.2.2 i hi).at hn (fun k j a1 a2 => hF.1 k j (by omega))⟩
  have pm1 : PM E (keP p s r) (keS s) := ⟨by rw [u _ _ (by omega) (by omega)]; exact p2.1, fun i hi j hj => by rw [u _ _ (by omega) (by omega)]; exact p2.2 i hi j hj⟩
  exact h.act hR' pc1 g hE pm1 (fun k j a1 a2 a3 a4 => by rw [u k j a4 a3, f2 k j a1 a2]) ok' (by rw [hr 38 (by omega)]; exact hN.2.2.2) ((hG.ke ok hC.1).of hr)
theorem fa_xor (a b : Nat) : nI a ^^^ nI b = nI (a ^^^ b) := by
  apply Int32.toBitVec_inj.1
  show BitVec.ofNat 32 a ^^^ BitVec.ofNat 32 b = BitVec.ofNat 32 (a ^^^ b)
  apply BitVec.eq_of_getLsbD_eq
  intro i hi
  simp [hi]
theorem xor_bit {n a k : Nat} (hn : n ≤ 7) (ha : a < 2 ^ n) (hk : k < n) : ∃ b, b < 2 ^ n ∧ nI a ^^^ bitI k = nI b := by
  rw [bitI_nI k (by omega), fa_xor]
  exact ⟨_, Nat.xor_lt_two_pow ha (Nat.pow_lt_pow_right (by decide) hk), rfl⟩
theorem op_need {D : wd_D} (h : Inv D) (a1 a2 : Int32) : ∃ v D1 D2, f_X6_need a1 a2 D = some (v, D1) ∧ f_X7_need a1 a2 D1 = some (v, D2) ∧ Inv D2 := by
  obtain ⟨n, r, hN, hP⟩ := h.2.2.2.2.1
  have ok := hN.2.2.1
  have hn := ok.1
  unfold f_X6_need
  rw [noChild_e hN.1 ok]
  have ms : ∀ E, (∀ k j, 370 ≤ k → E.1 k j = D.1 k j) → f_X7_need a1 a2 E = if (if a1 < 0 then (1 : Int32) else if a1 < nI n then 0 else 1) = 0 then (if f_X6_beyond a2 1 9 = 0 then (f_X7_minds E).bind (fun q4 => (rd 252 q4 371 (1 + a1)).bind (fun x5 => (wr 252 q4 371 (1 + a1) a2).bind (fun D6 => some (x5, D6)))) else some (-1000001, E)) else some (-1000001, E) := by
    intro E hE
    unfold f_X7_need
    rw [isChild_e (hN.2.1.at (fun j _ _ => hE 371 j (by omega))) ok, Option.bind_some, show f_X7_in a2.toInt64 1 9 = if f_X6_beyond a2 1 9 = 0 then 1 else 0 from in_bey a2 1 9, ib, ib]
  by_cases hz : (if a1 < 0 then (1 : Int32) else if a1 < nI n then 0 else 1) = 0
  · rw [if_pos hz]
    by_cases c2 : f_X6_beyond a2 1 9 = 0
    · rw [if_pos c2]
      obtain ⟨c, hc, e1⟩ := child_nI ok.1 hz
      subst e1
      obtain ⟨Dk, ek, ck, g⟩ := act_both h hN hP
      rw [ek, Option.bind_some, ck.r1 hn hc, Option.bind_some, wr_nI Dk (4 + 2) a2 (show c < 7 by omega), Option.bind_some]
      obtain ⟨g7, Ek, em, cm, gm⟩ := g (sI Dk (4 + 2) c a2) (upd r (1 + c) a2) (ck.u1 (by omega) a2) (Fr.s (by decide)) (upd_ge (by omega)) (ok.any a2 (by omega))
      refine ⟨_, _, sI Ek 371 (0 + (1 + c)) a2, rfl, ?_, gm _ (cm.up (1 + c) a2) (FrM.s (by omega))⟩
      rw [ms _ g7, if_pos hz, if_pos c2, em, Option.bind_some, cm.z1 (by omega), Option.bind_some, show (1 : Int32) + nI c = nI (0 + (1 + c)) from by rw [show (1 : Int32) = nI 1 from rfl, nI_add, Nat.zero_add], wr_nI Ek 371 a2 (show 0 + (1 + c) < 252 by omega), Option.bind_some]
    · rw [if_neg c2]
      exact ⟨_, D, D, rfl, by rw [ms D (fun _ _ _ => rfl), if_pos hz, if_neg c2], h⟩
  · rw [if_neg hz]
    exact ⟨_, D, D, rfl, by rw [ms D (fun _ _ _ => rfl), if_neg hz], h⟩
theorem lorS_ge {r : Rho} {x : Int32} {n : Nat} (hn : n ≤ 7) : ∀ j, 38 ≤ j → lorS r x n j = r j := fun j hj => lorP_out n hn j (by omega)
theorem op_lorry {D : wd_D} (h : Inv D) (a1 : Int32) : ∃ v D1 D2, f_X6_lorry a1 D = some (v, D1) ∧ f_X7_lorry a1 D1 = some (v, D2) ∧ Inv D2 := by
  obtain ⟨n, r, hN, hP⟩ := h.2.2.2.2.1
  have ok := hN.2.2.1
  have hn := ok.1
  unfold f_X6_lorry
  rw [noRoom_e hN]
  by_cases e0 : n = 0
  · rw [if_pos e0, i10]
    refine ⟨_, D, D, rfl, ?_, h⟩
    unfold f_X7_lorry
    rw [isRoom_e hN, if_pos e0, Option.bind_some, i00]
  rw [if_neg e0, i00]
  have ms : ∀ E, (∀ k j, 370 ≤ k → E.1 k j = D.1 k j) → f_X7_lorry a1 E = if f_X6_beyond a1 0 99 = 0 then (f_X7_minds E).bind (fun q4 => (f_X7_rolls 0 a1 q4).bind (fun q5 => some (q5.1, q5.2))) else some (-1000001, E) := by
    intro E hE
    unfold f_X7_lorry
    rw [isRoom_m (hN.2.1.at (fun j _ _ => hE 371 j (by omega))) hN.2.2.2, if_neg e0, Option.bind_some, i10, show f_X7_in a1.toInt64 0 99 = if f_X6_beyond a1 0 99 = 0 then 1 else 0 from in_bey a1 0 99, ib]
  by_cases c1 : f_X6_beyond a1 0 99 = 0
  · rw [if_pos c1]
    obtain ⟨Dk, ek, ck, g⟩ := act_both h hN hP
    obtain ⟨D1, e1, k1, f1⟩ := c_lor ck ok a1
    rw [ek, Option.bind_some, e1, Option.bind_some]
    obtain ⟨g7, Ek, em, cm, gm⟩ := g D1 (lorS r a1 n) k1 f1 (lorS_ge hn) (ok.lor a1)
    obtain ⟨E1, x1, y1, u1⟩ := m_lor0 cm ok a1
    refine ⟨_, D1, E1, rfl, ?_, gm _ y1 u1.m⟩
    rw [ms _ g7, if_pos c1, em, Option.bind_some, x1, Option.bind_some]
  · rw [if_neg c1]
    exact ⟨_, D, D, rfl, by rw [ms D (fun _ _ _ => rfl), if_neg c1], h⟩
theorem swS_ge {r : Rho} {a b : Nat} (ha : a < 7) (hb : b < 7) : ∀ j, 38 ≤ j → swS r a b j = r j := fun j hj => by
  unfold swS
  rw [upd_n (by omega), upd_n (by omega)]
theorem op_change {D : wd_D} (h : Inv D) (a1 a2 : Int32) : ∃ v D1 D2, f_X6_change a1 a2 D = some (v, D1) ∧ f_X7_change a1 a2 D1 = some (v, D2) ∧ Inv D2 := by
  obtain ⟨n, r, hN, hP⟩ := h.2.2.2.2.1
  have ok := hN.2.2.1
  have hn := ok.1
  unfold f_X6_change
  rw [noChild_e hN.1 ok, noChild_e hN.1 ok]
  have ms : ∀ E, (∀ k j, 370 ≤ k → E.1 k j = D.1 k j) → f_X7_change a1 a2 E = if (if a1 < 0 then (1 : Int32) else if a1 < nI n then 0 else 1) = 0 then (if (if a2 < 0 then (1 : Int32) else if a2 < nI n then 0 else 1) = 0 then (if a1 = a2 then some ((-1000001), E) else (f_X7_minds E).bind (fun q6 => (f_X7_swaps 0 a1 a2 q6).bind (fun q7 => (rd 252 q7 371 (29 + a1)).bind (fun x8 => some (x8, q7))))) else some (-1000001, E)) else some (-1000001, E) := by
    intro E hE
    unfold f_X7_change
    have hM := hN.2.1.at (E := E) (fun j _ _ => hE 371 j (by omega))
    rw [isChild_e hM ok, Option.bind_some, isChild_e hM ok, Option.bind_some, ib, ib]
  by_cases hz : (if a1 < 0 then (1 : Int32) else if a1 < nI n then 0 else 1) = 0
  · rw [if_pos hz]
    by_cases c2 : (if a2 < 0 then (1 : Int32) else if a2 < nI n then 0 else 1) = 0
    · rw [if_pos c2]
      by_cases c3 : a1 = a2
      · rw [if_pos c3]
        exact ⟨_, D, D, rfl, by rw [ms D (fun _ _ _ => rfl), if_pos hz, if_pos c2, if_pos c3], h⟩
      rw [if_neg c3]
      obtain ⟨c, hc, e1⟩ := child_nI ok.1 hz
      subst e1
      obtain ⟨d, hd, e2⟩ := child_nI ok.1 c2
      subst e2
      obtain ⟨Dk, ek, ck, g⟩ := act_both h hN hP
      obtain ⟨D1, e1, k1, f1⟩ := c_swap ck hn hc hd
      rw [ek, Option.bind_some, e1, Option.bind_some, k1.r29 hn hc, Option.bind_some]
      obtain ⟨g7, Ek, em, cm, gm⟩ := g D1 (swS r c d) k1 f1 (swS_ge (by omega) (by omega)) (ok.swap hc hd)
      obtain ⟨E1, x1, y1, u1⟩ := m_swap cm (by omega) (show c < 7 by omega) (show d < 7 by omega)
      refine ⟨_, D1, E1, rfl, ?_, gm _ y1 u1.m⟩
      rw [ms _ g7, if_pos hz, if_pos c2, if_neg c3, em, Option.bind_some, show f_X7_swaps 0 (nI c) (nI d) Ek = some E1 from x1, Option.bind_some, y1.z29 (by omega), Option.bind_some]
    · rw [if_neg c2]
      exact ⟨_, D, D, rfl, by rw [ms D (fun _ _ _ => rfl), if_pos hz, if_neg c2], h⟩
  · rw [if_neg hz]
    exact ⟨_, D, D, rfl, by rw [ms D (fun _ _ _ => rfl), if_neg hz], h⟩
theorem hb01 (s : Int32) (k : Nat) : (if hb s k then (1 : Int32) else 0) = 0 ∨ (if hb s k then (1 : Int32) else 0) = 1 := by
  cases hb s k <;> simp
theorem op_carry {D : wd_D} (h : Inv D) (a1 a2 : Int32) : ∃ v D1 D2, f_X6_carry a1 a2 D = some (v, D1) ∧ f_X7_carry a1 a2 D1 = some (v, D2) ∧ Inv D2 := by
  obtain ⟨n, r, hN, hP⟩ := h.2.2.2.2.1
  have ok := hN.2.2.1
  have hn := ok.1
  unfold f_X6_carry
  rw [noChild_e hN.1 ok]
  have ms : ∀ E, (∀ k j, 370 ≤ k → E.1 k j = D.1 k j) → f_X7_carry a1 a2 E = if (if a1 < 0 then (1 : Int32) else if a1 < nI n then 0 else 1) = 0 then (if f_X6_beyond a2 0 1 = 0 then (if a2 = 1 then f_X7_carry_L37 a1 a2 1 (f_X7_has (r 36) a1) E else f_X7_carry_L37 a1 a2 0 (f_X7_has (r 36) a1) E) else some (-1000001, E)) else some (-1000001, E) := by
    intro E hE
    unfold f_X7_carry
    have hM := hN.2.1.at (E := E) (fun j _ _ => hE 371 j (by omega))
    unfold f_X7_isOut
    rw [isChild_e hM ok, Option.bind_some, show f_X7_in a2.toInt64 0 1 = if f_X6_beyond a2 0 1 = 0 then 1 else 0 from in_bey a2 0 1, ib, ib, show (0 : Int32) + 36 = 36 from rfl, hM.y36, Option.bind_some, Option.bind_some]
  by_cases hz : (if a1 < 0 then (1 : Int32) else if a1 < nI n then 0 else 1) = 0
  · rw [if_pos hz]
    by_cases c2 : f_X6_beyond a2 0 1 = 0
    · rw [if_pos c2]
      obtain ⟨c, hc, e1⟩ := child_nI ok.1 hz
      subst e1
      rw [hN.1.f36, hb_has (show c < 31 by omega)]
      have go : ∀ z0 : Int32, (a2 = 1 ∧ z0 = 1 ∨ ¬ a2 = 1 ∧ z0 = 0) → ∃ v D1 D2, f_X6_carry_L41 (nI c) a2 z0 (if hb (r 36) c then 1 else 0) D = some (v, D1) ∧ f_X7_carry (nI c) a2 D1 = some (v, D2) ∧ Inv D2 := by
        intro z0 hz0
        have mz : ∀ E, (∀ k j, 370 ≤ k → E.1 k j = D.1 k j) → f_X7_carry (nI c) a2 E = f_X7_carry_L37 (nI c) a2 z0 (if hb (r 36) c then 1 else 0) E := by
          intro E hE
          rw [ms E hE, if_pos hz, if_pos c2, hb_has7 (show c < 31 by omega)]
          rcases hz0 with ⟨a, b⟩ | ⟨a, b⟩
          · rw [if_pos a, b]
          · rw [if_neg a, b]
        unfold f_X6_carry_L41
        by_cases hq : (if hb (r 36) c then (1 : Int32) else 0) = z0
        · rw [if_pos hq]
          exact ⟨_, D, D, rfl, by rw [mz D (fun _ _ _ => rfl), f_X7_carry_L37, if_pos hq], h⟩
        · rw [if_neg hq]
          obtain ⟨Dk, ek, ck, g⟩ := act_both h hN hP
          rw [ek, Option.bind_some]
          unfold ap
          dsimp only
          rw [ck.f36, show (1 : Int32) <<< (nI c &&& 31) = bitI c from rfl]
          have okv : Ok n (upd r 36 (r 36 ^^^ bitI c)) := by
            obtain ⟨a, ha, e⟩ := ok.2.2.1
            obtain ⟨b, hb, e'⟩ := xor_bit hn ha hc
            rw [e, e']; exact ok.outs hb
          have k1 := ck.v36 (r 36 ^^^ bitI c)
          obtain ⟨g7, Ek, em, cm, gm⟩ := g (sI Dk 4 5 (r 36 ^^^ bitI c)) (upd r 36 (r 36 ^^^ bitI c)) k1 Fr.s0 (upd_ge (by omega)) okv
          refine ⟨_, _, sI Ek 371 (0 + 36) (r 36 ^^^ bitI c), rfl, ?_, gm _ (cm.up 36 (r 36 ^^^ bitI c)) (FrM.s (by omega))⟩
          rw [mz _ g7, f_X7_carry_L37, if_neg hq, em, Option.bind_some, cm.y36, Option.bind_some, show (36 : Int32) = nI (0 + 36) from rfl, wr_nI Ek 371 _ (show 0 + 36 < 252 by omega), Option.bind_some, rd_nI _ 371 (show 0 + 36 < 252 by omega), Option.bind_some, sI_eq, gI_e, sI_eq]; rfl
      by_cases z1 : a2 = 1
      · rw [if_pos z1]; exact go 1 (Or.inl ⟨z1, rfl⟩)
      · rw [if_neg z1]; exact go 0 (Or.inr ⟨z1, rfl⟩)
    · rw [if_neg c2]
      exact ⟨_, D, D, rfl, by rw [ms D (fun _ _ _ => rfl), if_pos hz, if_neg c2], h⟩
  · rw [if_neg hz]
    exact ⟨_, D, D, rfl, by rw [ms D (fun _ _ _ => rfl), if_neg hz], h⟩
theorem ones_37 {r : Rho} {n : Nat} (ok : Ok n r) : f_X7_ones (r 37) = some (f_J6_bitCount_0f7a4 (r 37)) := by
  obtain ⟨a, ha, e⟩ := ok.2.2.2.1
  have := pow_le7 ok.1
  rw [e]; exact ones_e a (by omega)
theorem op_hand {D : wd_D} (h : Inv D) (a1 a2 : Int32) : ∃ v D1 D2, f_X6_hand a1 a2 D = some (v, D1) ∧ f_X7_hand a1 a2 D1 = some (v, D2) ∧ Inv D2 := by
  obtain ⟨n, r, hN, hP⟩ := h.2.2.2.2.1
  have ok := hN.2.2.1
  have hn := ok.1
  unfold f_X6_hand
  rw [noChild_e hN.1 ok]
  have ms : ∀ E, (∀ k j, 370 ≤ k → E.1 k j = D.1 k j) → f_X7_hand a1 a2 E = if (if a1 < 0 then (1 : Int32) else if a1 < nI n then 0 else 1) = 0 then (if f_X6_beyond a2 0 1 = 0 then (if a2 = 1 then f_X7_hand_L42 a1 a2 1 (f_X7_has (r 37) a1) E else f_X7_hand_L42 a1 a2 0 (f_X7_has (r 37) a1) E) else some (-1000001, E)) else some (-1000001, E) := by
    intro E hE
    unfold f_X7_hand
    have hM := hN.2.1.at (E := E) (fun j _ _ => hE 371 j (by omega))
    rw [isChild_e hM ok, Option.bind_some, show f_X7_in a2.toInt64 0 1 = if f_X6_beyond a2 0 1 = 0 then 1 else 0 from in_bey a2 0 1, ib, ib, hM.y37, Option.bind_some]
  by_cases hz : (if a1 < 0 then (1 : Int32) else if a1 < nI n then 0 else 1) = 0
  · rw [if_pos hz]
    by_cases c2 : f_X6_beyond a2 0 1 = 0
    · rw [if_pos c2]
      obtain ⟨c, hc, e1⟩ := child_nI ok.1 hz
      subst e1
      rw [hN.1.f37, hb_has (show c < 31 by omega)]
      have done : ∀ (z0 : Int32), (∀ E, (∀ k j, 370 ≤ k → E.1 k j = D.1 k j) → f_X7_hand (nI c) a2 E = f_X7_hand_L76 (nI c) a2 E) → ∃ v D1 D2, f_X6_hand_L75 (nI c) a2 D = some (v, D1) ∧ f_X7_hand (nI c) a2 D1 = some (v, D2) ∧ Inv D2 := by
        intro z0 mz
        unfold f_X6_hand_L75
        obtain ⟨Dk, ek, ck, g⟩ := act_both h hN hP
        rw [ek, Option.bind_some]
        unfold ap
        dsimp only
        rw [ck.f37, show (1 : Int32) <<< (nI c &&& 31) = bitI c from rfl]
        have okv : Ok n (upd r 37 (r 37 ^^^ bitI c)) := by
          obtain ⟨a, ha, e⟩ := ok.2.2.2.1
          obtain ⟨b, hb, e'⟩ := xor_bit hn ha hc
          rw [e, e']; exact ok.held hb
        have k1 := ck.v37 (r 37 ^^^ bitI c)
        obtain ⟨g7, Ek, em, cm, gm⟩ := g (sI Dk 4 4 (r 37 ^^^ bitI c)) (upd r 37 (r 37 ^^^ bitI c)) k1 Fr.s0 (upd_ge (by omega)) okv
        refine ⟨_, _, sI Ek 371 (0 + 37) (r 37 ^^^ bitI c), rfl, ?_, gm _ (cm.up 37 (r 37 ^^^ bitI c)) (FrM.s (by omega))⟩
        rw [mz _ g7, f_X7_hand_L76, em, Option.bind_some, cm.y37, Option.bind_some, show (37 : Int32) = nI (0 + 37) from rfl, wr_nI Ek 371 _ (show 0 + 37 < 252 by omega), Option.bind_some, rd_nI _ 371 (show 0 + 37 < 252 by omega), Option.bind_some, sI_eq, gI_e, sI_eq]; rfl
      have go : ∀ z0 : Int32, (a2 = 1 ∧ z0 = 1 ∨ ¬ a2 = 1 ∧ z0 = 0) → ∃ v D1 D2, f_X6_hand_L41 (nI c) a2 z0 (if hb (r 37) c then 1 else 0) D = some (v, D1) ∧ f_X7_hand (nI c) a2 D1 = some (v, D2) ∧ Inv D2 := by
        intro z0 hz0
        have mz : ∀ E, (∀ k j, 370 ≤ k → E.1 k j = D.1 k j) → f_X7_hand (nI c) a2 E = if (if hb (r 37) c then 1 else 0) = z0 then some ((-1000002), E) else (if a2 = 1 then (if f_J6_bitCount_0f7a4 (r 37) < r 39 then f_X7_hand_L76 (nI c) a2 E else some ((-1000003), E)) else f_X7_hand_L76 (nI c) a2 E) := by
          intro E hE
          have hM := hN.2.1.at (E := E) (fun j _ _ => hE 371 j (by omega))
          have : f_X7_hand (nI c) a2 E = f_X7_hand_L42 (nI c) a2 z0 (if hb (r 37) c then 1 else 0) E := by
            rw [ms E hE, if_pos hz, if_pos c2, hb_has7 (show c < 31 by omega)]
            rcases hz0 with ⟨a, b⟩ | ⟨a, b⟩
            · rw [if_pos a, b]
            · rw [if_neg a, b]
          rw [this, f_X7_hand_L42, hM.y37, Option.bind_some, ones_37 ok, Option.bind_some, hM.y39, Option.bind_some]
        unfold f_X6_hand_L41
        by_cases hq : (if hb (r 37) c then (1 : Int32) else 0) = z0
        · rw [if_pos hq]
          exact ⟨_, D, D, rfl, by rw [mz D (fun _ _ _ => rfl), if_pos hq], h⟩
        · rw [if_neg hq, hN.1.f37, hN.1.f39]
          by_cases q1 : a2 = 1
          · rw [if_pos q1]
            by_cases q2 : f_J6_bitCount_0f7a4 (r 37) < r 39
            · rw [if_pos q2]
              exact done z0 (fun E hE => by rw [mz E hE, if_neg hq, if_pos q1, if_pos q2])
            · rw [if_neg q2]
              exact ⟨_, D, D, rfl, by rw [mz D (fun _ _ _ => rfl), if_neg hq, if_pos q1, if_neg q2], h⟩
          · rw [if_neg q1]
            exact done z0 (fun E hE => by rw [mz E hE, if_neg hq, if_neg q1])
      by_cases z1 : a2 = 1
      · rw [if_pos z1]; exact go 1 (Or.inl ⟨z1, rfl⟩)
      · rw [if_neg z1]; exact go 0 (Or.inr ⟨z1, rfl⟩)
    · rw [if_neg c2]
      exact ⟨_, D, D, rfl, by rw [ms D (fun _ _ _ => rfl), if_pos hz, if_neg c2], h⟩
  · rw [if_neg hz]
    exact ⟨_, D, D, rfl, by rw [ms D (fun _ _ _ => rfl), if_neg hz], h⟩
