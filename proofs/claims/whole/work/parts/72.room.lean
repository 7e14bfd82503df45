/-! the law, the children, the call -/
def tlEnd (E : wd_D) : Option (Int32 × wd_D) := (wr 252 E 371 227 1).bind (fun D2 => (f_X7_takes 107 D2).bind (fun q3 => (if q3.1 = 0 then some (0, q3.2) else (f_X7_takesNumber 0 3 44 q3.2).bind (fun q5 => (if q5.1 = 0 then some (0, q5.2) else (wr 252 q5.2 371 228 (gI q5.2 370 15)).bind (fun D7 => (f_X7_takesNumber 1 9 59 D7).bind (fun q8 => (if q8.1 = 0 then some (0, q8.2) else (wr 252 q8.2 371 229 (gI q8.2 370 15)).bind (fun D10 => some (1, D10))))))))))
theorem tl_loop : ∀ d v m E, v + d = 63 → d < m → (∀ j, j < v → E.1 371 (189 + j) = 0) → ∃ E', f_X7_takesLaw_L2 m (nI v) E = tlEnd E' ∧ RepM E' 189 (fun _ => 0) ∧ (∀ a b, ¬ (a = 371 ∧ 189 ≤ b ∧ b < 252) → E'.1 a b = E.1 a b) := by
  intro d
  induction d with
  | zero =>
    intro v m E hv hm h
    obtain ⟨m, rfl⟩ : ∃ m', m = m' + 1 := ⟨m - 1, by omega⟩
    rw [f_X7_takesLaw_L2, if_pos (show (63 : Int32) ≤ nI v from (le_nI (a := 63) (by omega) (by omega)).mpr (by omega))]
    exact ⟨E, rfl, fun j hj => h j (by omega), fun _ _ _ => rfl⟩
  | succ d ih =>
    intro v m E hv hm h
    obtain ⟨m, rfl⟩ : ∃ m', m = m' + 1 := ⟨m - 1, by omega⟩
    rw [f_X7_takesLaw_L2, if_neg (show ¬ (63 : Int32) ≤ nI v from fun z => by have := (le_nI (a := 63) (by omega) (by omega)).mp z; omega), show (189 : Int32) = nI 189 from rfl, nI_add, wr_nI E 371 0 (show 189 + v < 252 by omega), Option.bind_some, ap_e, nI_1]
    obtain ⟨E', e, g, f⟩ := ih (v + 1) m (sI E 371 (189 + v) 0) (by omega) (by omega) (fun j hj => by
      by_cases c : j = v
      · subst c; exact sI_eq
      · rw [sI_ne (by omega)]; exact h j (by omega))
    exact ⟨E', e, g, fun a b hab => by rw [f a b hab, sI_ne (by omega)]⟩
theorem put_1 {D : wd_D} {v : Int32} : f_X5_put 13 (nI 1) v D = some (sI D 13 1 v) := by
  rw [f_X5_put, ap_e, if_pos (show nI 1 = 1 from rfl), ap_e]
theorem put_3 {D : wd_D} {v : Int32} : f_X5_put 13 (nI 3) v D = some (sI D 13 2 v) := by
  rw [f_X5_put, ap_e, if_neg (show ¬ nI 3 = 1 by decide), if_pos (show nI 3 = 3 from rfl), ap_e]
theorem lawl {n : Nat} {tb : Nat → Nat} (h120 : n ≤ 120) (htb : ∀ j, j < n → tb j < 256) :
  (∃ q f, q ≤ n ∧ f < 4 ∧ (∀ M D, TP D n tb → ∃ D', f_X5_readInto_L11 (M + 5) 13 (nI 0) (nI 0) D = some (nI q, D') ∧ D'.1 2 2 = nI f ∧ FrR D D') ∧ (∀ E ρ, MT E n tb → E.1 370 14 = nI 0 → RepM E 189 ρ → ∃ E', tlEnd E = some (0, E') ∧ E'.1 370 10 = nI f ∧ E'.1 370 16 = nI q ∧ FrX E E'))
  ∨ (∃ wo cr p', p' ≤ n ∧ wo < 4 ∧ cr ≤ 9 ∧ (∀ M D, TP D n tb → ∃ D', f_X5_readInto_L11 (M + 5) 13 (nI 0) (nI 0) D = f_X5_readInto_L11 M 13 (nI 5) (nI p') D' ∧ D'.1 13 1 = nI wo ∧ D'.1 13 2 = nI cr ∧ (∀ j, j ≠ 1 → j ≠ 2 → D'.1 13 j = D.1 13 j) ∧ FrR D D') ∧ (∀ E ρ, MT E n tb → E.1 370 14 = nI 0 → RepM E 189 ρ → ∃ E', tlEnd E = some (1, E') ∧ RepM E' 189 (upd (upd (upd ρ 38 1) 39 (nI wo)) 40 (nI cr)) ∧ E'.1 370 14 = nI p' ∧ FrX E E' ∧ E'.1 370 10 = E.1 370 10)) := by
  have r00 : rs 0 (nI 0) = some (nI 0) := rfl
  have fx : ∀ {E : wd_D} {j : Nat} {v : Int32}, j < 63 → FrX E (sI E 371 (189 + j) v) := fun hj a b h1 h2 => sI_ne (by omega)
  have mE : ∀ {E E' : wd_D}, (∀ a b, ¬ (a = 370 ∧ (b = 14 ∨ b = 15)) → E'.1 a b = E.1 a b) → FrX E E' := fun h a b h1 h2 => h a b (by omega)
  have w0 : ∀ E, wr 252 E 371 227 1 = some (sI E 371 (189 + 38) 1) := fun E => by rw [show (227 : Int32) = nI (189 + 38) from rfl, wr_nI E 371 1 (show 189 + 38 < 252 by omega)]
  by_cases c0 : 0 < n ∧ tb 0 = 107
  · have cc0 : ∀ M D, TP D n tb → f_X5_readInto_L11 (M + 5) 13 (nI 0) (nI 0) D = f_X5_readInto_L11 (M + 4) 13 (nI 1) (nI 1) (sI D 2 2 0) := fun M D hD => ch_yes (M := M + 4) (s := 0) (ty := 0) hD (Or.inl rfl) (Or.inl rfl) r00 c0.1 c0.2
    have mm0 : ∀ E, MT E n tb → E.1 370 14 = nI 0 → tlEnd E = (f_X7_takesNumber 0 3 44 (sI (sI E 371 (189 + 38) 1) 370 14 (nI 1))).bind (fun q5 => (if q5.1 = 0 then some (0, q5.2) else (wr 252 q5.2 371 228 (gI q5.2 370 15)).bind (fun D7 => (f_X7_takesNumber 1 9 59 D7).bind (fun q8 => (if q8.1 = 0 then some (0, q8.2) else (wr 252 q8.2 371 229 (gI q8.2 370 15)).bind (fun D10 => some (1, D10))))))) := by
      intro E hE h14
      rw [tlEnd, w0, Option.bind_some, show f_X7_takes 107 (sI E 371 (189 + 38) 1) = some (1, sI (sI E 371 (189 + 38) 1) 370 14 (nI 1)) from ta_yes (p := 0) (hE.fr (fx (by omega))) c0.1 (by rw [sI_ne (by omega)]; exact h14) c0.2, Option.bind_some, i10]
    have fE : ∀ E, FrX E (sI (sI E 371 (189 + 38) 1) 370 14 (nI 1)) := fun E => (fx (by omega)).tr (fun a b h1 h2 => sI_ne (by omega))
    rcases nc (tb := tb) (s := 1) (lo := 0) (hi := 3) (ty := 2) h120 (show 1 ≤ n by omega) (by omega) (by decide) (by omega) rfl rfl rfl rfl (by decide) with ⟨q, f, hq, hf, cc, mm⟩ | ⟨wo, p1, hp1, hp1n, n1, n2, cc, mm⟩
    · refine Or.inl ⟨q, f, hq, hf, fun M D hD => ?_, fun E ρ hE h14 hR => ?_⟩
      · obtain ⟨D', e, g, fr⟩ := cc (M + 2) _ (hD.fr FrR.s2) (fun v => ⟨_, put_1, fun k j a b => by rw [sI_ne (by omega), sI_ne b]⟩)
        exact ⟨D', by rw [cc0 M D hD]; exact e, g, FrR.s2.tr fr⟩
      · obtain ⟨E', e, g1, g2, fr⟩ := mm _ (hE.fr (fE E)) sI_eq
        exact ⟨E', by rw [mm0 E hE h14, show f_X7_takesNumber 0 3 44 _ = some (0, E') from e, Option.bind_some, i00], g1, g2, (fE E).tr fr⟩
    have cc1 : ∀ M D, TP D n tb → f_X5_readInto_L11 (M + 5) 13 (nI 0) (nI 0) D = f_X5_readInto_L11 (M + 2) 13 (nI 3) (nI p1) (sI (sI (sI (sI D 2 2 0) 2 2 0) 13 1 (nI wo)) 2 2 0) := by
      intro M D hD
      rw [cc0 M D hD]
      exact cc (M + 2) _ _ (hD.fr FrR.s2) put_1 (fun k j a b => by rw [sI_ne (by omega), sI_ne b])
    have fr1 : ∀ D, FrR D (sI (sI (sI (sI D 2 2 0) 2 2 0) 13 1 (nI wo)) 2 2 0) := fun D k j a b => by rw [sI_ne b, sI_ne (by omega), sI_ne b, sI_ne b]
    have mm1 : ∀ E ρ, MT E n tb → E.1 370 14 = nI 0 → RepM E 189 ρ → ∃ E1, MT E1 n tb ∧ E1.1 370 14 = nI p1 ∧ RepM E1 189 (upd (upd ρ 38 1) 39 (nI wo)) ∧ FrX E E1 ∧ E1.1 370 10 = E.1 370 10 ∧ tlEnd E = (f_X7_takesNumber 1 9 59 E1).bind (fun q8 => (if q8.1 = 0 then some (0, q8.2) else (wr 252 q8.2 371 229 (gI q8.2 370 15)).bind (fun D10 => some (1, D10)))) := by
      intro E ρ hE h14 hR
      obtain ⟨E', e, g1, g2, fr⟩ := mm _ (hE.fr (fE E)) sI_eq
      have f0 := (fE E).tr (mE fr)
      refine ⟨sI E' 371 (189 + 39) (nI wo), (hE.fr f0).fr (fx (by omega)), by rw [sI_ne (by omega)]; exact g2, ?_, f0.tr (fx (by omega)), by rw [sI_ne (by omega), fr 370 10 (by omega), sI_ne (by omega), sI_ne (by omega)], ?_⟩
      · exact ((hR.up 38 1).at (fun j _ _ => by rw [fr 371 j (by omega), sI_ne (by omega)])).up 39 _
      · rw [mm0 E hE h14, show f_X7_takesNumber 0 3 44 _ = some (1, E') from e, Option.bind_some, i10, show (228 : Int32) = nI (189 + 39) from rfl, gI_e, g1, wr_nI E' 371 _ (show 189 + 39 < 252 by omega), Option.bind_some]
    rcases nc (tb := tb) (s := 3) (lo := 1) (hi := 9) (ty := 3) h120 hp1n (by omega) (by decide) (by omega) rfl rfl rfl rfl (by decide) with ⟨q, f, hq, hf, cc, mm⟩ | ⟨cr, p2, hp2, hp2n, c1, c2, cc, mm⟩
    · refine Or.inl ⟨q, f, hq, hf, fun M D hD => ?_, fun E ρ hE h14 hR => ?_⟩
      · obtain ⟨D', e, g, fr⟩ := cc M _ (hD.fr (fr1 D)) (fun v => ⟨_, put_3, fun k j a b => by rw [sI_ne (by omega), sI_ne b]⟩)
        exact ⟨D', by rw [cc1 M D hD]; exact e, g, (fr1 D).tr fr⟩
      · obtain ⟨E1, t1, a1, R1, f1, b1, e1⟩ := mm1 E ρ hE h14 hR
        obtain ⟨E', e, g1, g2, fr⟩ := mm E1 t1 a1
        exact ⟨E', by rw [e1, show f_X7_takesNumber 1 9 59 E1 = some (0, E') from e, Option.bind_some, i00], g1, g2, f1.tr fr⟩
    refine Or.inr ⟨wo, cr, p2, hp2n, by omega, c2, fun M D hD => ?_, fun E ρ hE h14 hR => ?_⟩
    · refine ⟨sI (sI (sI (sI (sI (sI (sI D 2 2 0) 2 2 0) 13 1 (nI wo)) 2 2 0) 2 2 0) 13 2 (nI cr)) 2 2 0, ?_, ?_, ?_, ?_, ?_⟩
      · rw [cc1 M D hD]
        exact cc M _ _ (hD.fr (fr1 D)) put_3 (fun k j a b => by rw [sI_ne (by omega), sI_ne b])
      · rw [sI_ne (by omega), sI_ne (by omega), sI_ne (by omega), sI_ne (by omega), sI_eq]
      · rw [sI_ne (by omega), sI_eq]
      · intro j h1 h2
        rw [sI_ne (by omega), sI_ne (by omega), sI_ne (by omega), sI_ne (by omega), sI_ne (by omega), sI_ne (by omega), sI_ne (by omega)]
      · exact (fr1 D).tr (fun k j a b => by rw [sI_ne b, sI_ne (by omega), sI_ne b])
    · obtain ⟨E1, t1, a1, R1, f1, b1, e1⟩ := mm1 E ρ hE h14 hR
      obtain ⟨E', e, g1, g2, fr⟩ := mm E1 t1 a1
      refine ⟨sI E' 371 (189 + 40) (nI cr), ?_, (R1.at (fun j _ _ => fr 371 j (by omega))).up 40 _, by rw [sI_ne (by omega)]; exact g2, (f1.tr (mE fr)).tr (fx (by omega)), by rw [sI_ne (by omega), fr 370 10 (by omega), b1]⟩
      rw [e1, show f_X7_takesNumber 1 9 59 E1 = some (1, E') from e, Option.bind_some, i10, show (229 : Int32) = nI (189 + 40) from rfl, gI_e, g1, wr_nI E' 371 _ (show 189 + 40 < 252 by omega), Option.bind_some]
  · refine Or.inl ⟨0, 1, Nat.zero_le _, by decide, fun M D hD => ⟨_, ch_no (M := M + 4) (s := 0) (ty := 0) hD (Or.inl rfl) (Or.inl rfl) r00 (Nat.zero_le _) (fun a b => c0 ⟨a, b⟩), sI_eq, FrR.s2⟩, fun E ρ hE h14 hR => ?_⟩
    refine ⟨sI (sI (sI E 371 (189 + 38) 1) 370 10 1) 370 16 (nI 0), ?_, by rw [sI_ne (by omega), sI_eq]; rfl, sI_eq, fun a b h1 h2 => by rw [sI_ne (by omega), sI_ne (by omega), sI_ne (by omega)]⟩
    rw [tlEnd, w0, Option.bind_some, show f_X7_takes 107 (sI E 371 (189 + 38) 1) = some (0, sI (sI (sI E 371 (189 + 38) 1) 370 10 1) 370 16 (nI 0)) from ta_no (p := 0) (ch := 107) (hE.fr (fx (by omega))) (Nat.zero_le _) (by rw [sI_ne (by omega)]; exact h14) (by decide) (fun a b => c0 ⟨a, b⟩), Option.bind_some, i00]
theorem Ok.ch {m : Nat} {ρ : Rho} (ok : Ok m ρ) (hm : m < 7) {kd nd ho vo : Nat} (k1 : 1 ≤ kd) (k2 : kd < 6) (h1 : ho ≤ 9) (h2 : vo ≤ 9) (z : ρ (8 + m) = 0) : Ok (m + 1) (chS ρ m (nI kd) (nI nd) (nI ho) (nI vo)) := by
  obtain ⟨g1, g2, ⟨a, ha, g3⟩, ⟨b, hb, g4⟩, g5, g6⟩ := ok
  have hpow : 2 ^ m ≤ 2 ^ (m + 1) := Nat.pow_le_pow_right (by decide) (by omega)
  unfold chS
  refine ⟨by omega, upd_s, ⟨a, by omega, ?_⟩, ⟨b, by omega, ?_⟩, ?_, fun k hk => ?_⟩
  · rw [upd_n (by omega), upd_n (by omega), upd_n (by omega), upd_n (by omega), upd_n (by omega), upd_n (by omega)]; exact g3
  · rw [upd_n (by omega), upd_n (by omega), upd_n (by omega), upd_n (by omega), upd_n (by omega), upd_n (by omega)]; exact g4
  · rw [upd_n (by omega), upd_n (by omega), upd_n (by omega), upd_n (by omega), upd_n (by omega), upd_n (by omega)]; exact g5
  · by_cases e : k = m
    · subst e
      refine ⟨⟨kd, k1, k2, ?_⟩, ⟨0, by decide, ?_⟩, ⟨k, by omega, ?_⟩, ⟨vo, by omega, ?_⟩, ⟨ho, by omega, ?_⟩⟩
      · rw [upd_n (by omega), upd_n (by omega), upd_n (by omega), upd_n (by omega), upd_n (by omega), upd_s]
      · rw [upd_n (by omega), upd_n (by omega), upd_n (by omega), upd_n (by omega), upd_n (by omega), upd_n (by omega)]; exact z
      · rw [upd_n (by omega), upd_n (by omega), upd_n (by omega), upd_n (by omega), upd_s]
      · rw [upd_n (by omega), upd_s]
      · rw [upd_n (by omega), upd_n (by omega), upd_s]
    · obtain ⟨a1, a2, a3, a4, a5⟩ := g6 k (by omega)
      refine ⟨?_, ?_, ?_, ?_, ?_⟩
      · rw [upd_n (by omega), upd_n (by omega), upd_n (by omega), upd_n (by omega), upd_n (by omega), upd_n (by omega)]; exact a1
      · rw [upd_n (by omega), upd_n (by omega), upd_n (by omega), upd_n (by omega), upd_n (by omega), upd_n (by omega)]; exact a2
      · rw [upd_n (by omega), upd_n (by omega), upd_n (by omega), upd_n (by omega), upd_n (by omega), upd_n (by omega)]; exact a3
      · rw [upd_n (by omega), upd_n (by omega), upd_n (by omega), upd_n (by omega), upd_n (by omega), upd_n (by omega)]; exact a4
      · rw [upd_n (by omega), upd_n (by omega), upd_n (by omega), upd_n (by omega), upd_n (by omega), upd_n (by omega)]; exact a5
theorem chS_o {ρ : Rho} {m j : Nat} {a b c d : Int32} (hm : m < 7) (h : (8 ≤ j ∧ j < 29) ∨ (36 ≤ j ∧ j < 41)) : chS ρ m a b c d j = ρ j := by
  unfold chS
  rw [upd_n (by omega), upd_n (by omega), upd_n (by omega), upd_n (by omega), upd_n (by omega), upd_n (by omega)]
theorem rl {n : Nat} {tb : Nat → Nat} (h120 : n ≤ 120) (htb : ∀ j, j < n → tb j < 256) : ∀ d p m ρ, n - p ≤ d → p ≤ n → Ok m ρ → (∀ c, m ≤ c → c < 7 → ρ (8 + c) = 0 ∧ ρ (15 + c) = 0 ∧ ρ (22 + c) = 0) → ρ 38 = 1 →
  (∃ q f, q ≤ n ∧ f < 4 ∧ (∀ M D, n - p + 8 ≤ M → TP D n tb → RepC D 13 m ρ → ∃ D', f_X5_readInto_L11 M 13 (nI 5) (nI p) D = some (nI q, D') ∧ D'.1 2 2 = nI f ∧ FrR D D') ∧ (∀ M E, n - p + 3 ≤ M → MT E n tb → E.1 370 14 = nI p → RepM E 189 ρ → ∃ E', f_X7_room_L10 M 1 E = f_X7_room_L44 0 E' ∧ E'.1 370 10 = nI f ∧ E'.1 370 16 = nI q ∧ FrX E E'))
  ∨ (∃ m' ρ', 0 < m' ∧ Ok m' ρ' ∧ ρ' 38 = 1 ∧ (∀ M D, n - p + 8 ≤ M → TP D n tb → RepC D 13 m ρ → ∃ D', f_X5_readInto_L11 M 13 (nI 5) (nI p) D = some (-1, D') ∧ RepC D' 13 m' ρ' ∧ FrR D D') ∧ (∀ M E, n - p + 3 ≤ M → MT E n tb → E.1 370 14 = nI p → RepM E 189 ρ → ∃ E', f_X7_room_L10 M 1 E = f_X7_room_L44 1 E' ∧ RepM E' 189 ρ' ∧ FrX E E' ∧ E'.1 370 10 = E.1 370 10)) := by
  intro d
  induction d with
  | zero =>
    intro p m ρ hd hp ok hz h38
    have en : p = n := by omega
    subst en
    by_cases m0 : m = 0
    · subst m0
      rcases chl (m := 0) h120 htb (Nat.le_refl p) (by omega) (Or.inr rfl) with ⟨q, f, hq, hf, cc, mm⟩ | ⟨kd, nd, ho, vo, p', g1, g2, g3, -⟩
      · refine Or.inl ⟨q, f, hq, hf, fun M D hM hD hR => ?_, fun M E hM hE h14 hR => ?_⟩
        · obtain ⟨M, rfl⟩ : ∃ M', M = M' + 7 := ⟨M - 7, by omega⟩
          exact cc M D hD (by have := hR.f41; rw [gI_e] at this; rw [this, ok.2.1])
        · obtain ⟨M, rfl⟩ : ∃ M', M = M' + 2 := ⟨M - 2, by omega⟩
          obtain ⟨E', e, g1, g2, fr⟩ := mm E ρ hE h14 hR ok.2.1
          refine ⟨E', ?_, g1, g2, fr⟩
          have r41 : rd 252 E 371 230 = some (nI 0) := by rw [← ok.2.1]; exact hR.f41 (by omega)
          rw [f_X7_room_L10, i10, gI_e, gI_e, h14, hE.2.1, if_neg (fun z => by have := (lt_nI (by omega) (by omega)).mp z; omega), r41, Option.bind_some, if_pos (show nI 0 = 0 from rfl), f_X7_room_L36, e, Option.bind_some, ap_e, f_X7_room_L10, i00]
      · omega
    · refine Or.inr ⟨m, ρ, by omega, ok, h38, fun M D hM hD hR => ⟨D, ?_, hR, FrR.rf⟩, fun M E hM hE h14 hR => ⟨E, ?_, hR, FrX.rf, rfl⟩⟩
      · obtain ⟨M, rfl⟩ : ∃ M', M = M' + 1 := ⟨M - 1, by omega⟩
        have hn7 := ok.1
        rw [f_X5_readInto_L11, gI_e, hD.2.1, if_pos ((le_nI (by omega) (by omega)).mpr (Nat.le_refl _)), if_pos (show nI 5 = 5 from rfl), hR.f41, ok.2.1, if_neg (nI_ne0 (by omega) (by omega))]
      · obtain ⟨M, rfl⟩ : ∃ M', M = M' + 1 := ⟨M - 1, by omega⟩
        have hn7 := ok.1
        have r41 : rd 252 E 371 230 = some (nI m) := by rw [← ok.2.1]; exact hR.f41 (by omega)
        rw [f_X7_room_L10, i10, gI_e, gI_e, h14, hE.2.1, if_neg (fun z => by have := (lt_nI (by omega) (by omega)).mp z; omega), r41, Option.bind_some, if_neg (nI_ne0 (by omega) (by omega))]
  | succ d ih =>
    intro p m ρ hd hp ok hz h38
    have hn7 := ok.1
    by_cases en : p = n
    · exact ih p m ρ (by omega) hp ok hz h38
    have hpn : p < n := by omega
    have mstep : ∀ M E E' x, MT E n tb → E.1 370 14 = nI p → f_X7_takesChild E = some (x, E') → f_X7_room_L10 (M + 1) 1 E = f_X7_room_L10 M x E' := by
      intro M E E' x hE h14 e
      rw [f_X7_room_L10, i10, gI_e, gI_e, h14, hE.2.1, if_pos ((lt_nI (by omega) (by omega)).mpr hpn), f_X7_room_L36, e, Option.bind_some, ap_e]
    rcases chl (m := m) h120 htb hp hn7 (Or.inl hpn) with ⟨q, f, hq, hf, cc, mm⟩ | ⟨kd, nd, ho, vo, p', g1, g2, g3, k1, k2, n2, o2, v2, cc, mm⟩
    · refine Or.inl ⟨q, f, hq, hf, fun M D hM hD hR => ?_, fun M E hM hE h14 hR => ?_⟩
      · obtain ⟨M, rfl⟩ : ∃ M', M = M' + 7 := ⟨M - 7, by omega⟩
        exact cc M D hD (by have := hR.f41; rw [gI_e] at this; rw [this, ok.2.1])
      · obtain ⟨M, rfl⟩ : ∃ M', M = M' + 2 := ⟨M - 2, by omega⟩
        obtain ⟨E', e, h1, h2, fr⟩ := mm E ρ hE h14 hR ok.2.1
        exact ⟨E', by rw [mstep (M + 1) E E' 0 hE h14 e, f_X7_room_L10, i00], h1, h2, fr⟩
    · have zz := hz m (Nat.le_refl _) g1
      have ok' := ok.ch (nd := nd) g1 k1 k2 o2 v2 zz.1
      have cstep : ∀ M D, TP D n tb → RepC D 13 m ρ → ∃ D', f_X5_readInto_L11 (M + 7) 13 (nI 5) (nI p) D = f_X5_readInto_L11 M 13 (nI 5) (nI p') D' ∧ RepC D' 13 (m + 1) (chS ρ m (nI kd) (nI nd) (nI ho) (nI vo)) ∧ FrR D D' := fun M D hD hR => cc M D ρ hD hR ok.2.1 zz.1 zz.2.1 zz.2.2
      rcases ih p' (m + 1) (chS ρ m (nI kd) (nI nd) (nI ho) (nI vo)) (by omega) g3 ok' (fun c h1 h2 => by rw [chS_o g1 (by omega), chS_o g1 (by omega), chS_o g1 (by omega)]; exact hz c (by omega) h2) (by rw [chS_o g1 (by omega)]; exact h38) with ⟨q, f, hq, hf, cc2, mm2⟩ | ⟨m', ρ', h0, okf, h38', cc2, mm2⟩
      · refine Or.inl ⟨q, f, hq, hf, fun M D hM hD hR => ?_, fun M E hM hE h14 hR => ?_⟩
        · obtain ⟨M, rfl⟩ : ∃ M', M = M' + 7 := ⟨M - 7, by omega⟩
          obtain ⟨D1, e1, R1, f1⟩ := cstep M D hD hR
          obtain ⟨D', e, h1, f2⟩ := cc2 M D1 (by omega) (hD.fr f1) R1
          exact ⟨D', e1.trans e, h1, f1.tr f2⟩
        · obtain ⟨M, rfl⟩ : ∃ M', M = M' + 1 := ⟨M - 1, by omega⟩
          obtain ⟨E1, e1, R1, a1, f1, b1⟩ := mm E ρ hE h14 hR ok.2.1
          obtain ⟨E', e, h1, h2, f2⟩ := mm2 M E1 (by omega) (hE.fr f1) a1 R1
          exact ⟨E', by rw [mstep M E E1 1 hE h14 e1]; exact e, h1, h2, f1.tr f2⟩
      · refine Or.inr ⟨m', ρ', h0, okf, h38', fun M D hM hD hR => ?_, fun M E hM hE h14 hR => ?_⟩
        · obtain ⟨M, rfl⟩ : ∃ M', M = M' + 7 := ⟨M - 7, by omega⟩
          obtain ⟨D1, e1, R1, f1⟩ := cstep M D hD hR
          obtain ⟨D', e, h1, f2⟩ := cc2 M D1 (by omega) (hD.fr f1) R1
          exact ⟨D', e1.trans e, h1, f1.tr f2⟩
        · obtain ⟨M, rfl⟩ : ∃ M', M = M' + 1 := ⟨M - 1, by omega⟩
          obtain ⟨E1, e1, R1, a1, f1, b1⟩ := mm E ρ hE h14 hR ok.2.1
          obtain ⟨E', e, h1, f2, b2⟩ := mm2 M E1 (by omega) (hE.fr f1) a1 R1
          exact ⟨E', by rw [mstep M E E1 1 hE h14 e1]; exact e, h1, f1.tr f2, b2.trans b1⟩
