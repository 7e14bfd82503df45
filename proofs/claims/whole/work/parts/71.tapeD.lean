/-! a child, on either side -/
theorem tok_bad {D : wd_D} {n p M : Nat} {tb : Nat → Nat} {s ty : Int32} (h : TP D n tb) (hp : p < n) (hr : rs 0 s = some ty) (hcs : f_X5_canStand (nI (tb p)) ty = 0) : f_X5_readInto_L11 (M + 1) 13 s (nI p) D = some (nI p, sI D 2 2 1) := by
  rcases Classical.em (dg (tb p)) with hd | hd
  · obtain ⟨k, hk⟩ := run_ex tb n (n - p) p (by omega)
    refine ct_bad h hp (wi_dig h hp hd hk) (fa_bad h hp ?_ hr hcs) (by decide)
    by_cases c : k ≤ 2
    · rw [if_pos c]
      rcases (show k = 0 ∨ k = 1 ∨ k = 2 by omega) with rfl | rfl | rfl
      · exact Or.inl rfl
      · exact Or.inr (Or.inl rfl)
      · exact Or.inr (Or.inr rfl)
    · rw [if_neg c]; exact Or.inl rfl
  · rcases wi_not h hp hd with hw | hw
    · exact ct_bad h hp hw (fa_bad h hp (Or.inl rfl) hr hcs) (by decide)
    · exact ct_bad h hp hw (fa_bad h hp (Or.inr (Or.inl rfl)) hr hcs) (by decide)
theorem can_4 (b : Int32) : f_X5_canStand b (nI 4) = if f_X7_kindOf b = 0 then 0 else 1 := by
  unfold f_X5_canStand
  rw [if_neg (show ¬ nI 4 = 0 by decide), if_neg (show ¬ nI 4 = 1 by decide), if_neg (show ¬ nI 4 = 2 by decide), if_neg (show ¬ nI 4 = 3 by decide), kind_eq]
def adD (D : wd_D) (m : Nat) (kd : Int32) : wd_D := sI (sI (sI (sI (sI (sI D (13 + 1) m kd) (13 + 5) m (nI m)) (13 + 6) m 0) (13 + 7) m 0) (13 + 8) m 0) 13 0 (nI (m + 1))
theorem add_e {D : wd_D} {m : Nat} {kd : Int32} (hm : m < 7) (h : D.1 13 0 = nI m) : f_X3_addChild 13 kd D = some (adD D m kd) := by
  unfold f_X3_addChild f_X3_lieDown
  rw [gI_e, h, if_pos (show nI m < 7 from (lt_nI (b := 7) (by omega) (by omega)).mpr hm), wr_nI D _ _ hm, Option.bind_some, gI_e, sI_ne (by omega), h, wr_nI _ _ _ hm, Option.bind_some, gI_e, sI_ne (by omega), sI_ne (by omega), h, wr_nI _ _ _ hm, Option.bind_some, wr_nI _ _ _ hm, Option.bind_some, wr_nI _ _ _ hm, Option.bind_some, Option.bind_some, ap_e, gI_e, sI_ne (by omega), sI_ne (by omega), sI_ne (by omega), sI_ne (by omega), sI_ne (by omega), h, nI_1]
  rfl
theorem adD_fr {D : wd_D} {m : Nat} {kd : Int32} : FrR D (adD D m kd) := fun k j a b => by
  unfold adD
  rw [sI_ne (by omega), sI_ne (by omega), sI_ne (by omega), sI_ne (by omega), sI_ne (by omega), sI_ne (by omega)]
theorem put_c {D : wd_D} {m s : Nat} {v : Int32} (hm : m < 7) (h : D.1 13 0 = nI (m + 1)) (hs : s = 6 ∨ s = 8 ∨ s = 10) : f_X5_put 13 (nI s) v D = some (sI D (13 + (s / 2 - 1)) m v) := by
  have e : ∀ c, c < 12 → (nI s = nI c ↔ s = c) := fun c hc => eq_nI (by omega) (by omega)
  have x0 : ¬ nI m < 0 := nI_pos (by omega)
  rw [f_X5_put, ap_e, gI_e, h, nI_pred, if_neg (show ¬ nI s = 1 from fun z => by have := (e 1 (by omega)).mp z; omega), if_neg (show ¬ nI s = 3 from fun z => by have := (e 3 (by omega)).mp z; omega), if_neg (show ¬ nI s = 5 from fun z => by have := (e 5 (by omega)).mp z; omega), if_neg x0]
  rcases hs with rfl | rfl | rfl
  · rw [if_pos (show nI 6 = 6 from rfl), wr_nI D _ _ hm, Option.bind_some]
  · rw [if_neg (show ¬ nI 8 = 6 by decide), f_X5_put_L69, if_neg x0, if_pos (show nI 8 = 8 from rfl), wr_nI D _ _ hm, Option.bind_some]
  · rw [if_neg (show ¬ nI 10 = 6 by decide), f_X5_put_L69, if_neg x0, if_neg (show ¬ nI 10 = 8 by decide), f_X5_put_L89, if_neg x0, if_pos (show nI 10 = 10 from rfl), wr_nI D _ _ hm, Option.bind_some]
def EqR (A B : wd_D) : Prop := ∀ k j, 13 ≤ k → k < 22 → A.1 k j = B.1 k j
theorem EqR.s {A B : wd_D} {a b : Nat} {v : Int32} (h : EqR A B) : EqR (sI A a b v) (sI B a b v) := fun k j h1 h2 => by
  by_cases c : k = a ∧ j = b
  · obtain ⟨rfl, rfl⟩ := c
    rw [sI_eq, sI_eq]
  · rw [sI_ne c, sI_ne c]; exact h k j h1 h2
theorem EqR.l {A B : wd_D} {v : Int32} (h : EqR A B) : EqR (sI A 2 2 v) B := fun k j h1 h2 => by
  rw [sI_ne (by omega)]; exact h k j h1 h2
theorem EqR.rf {A : wd_D} : EqR A A := fun _ _ _ _ => rfl
theorem wrm {D : wd_D} {c m j : Nat} {v : Int32} (e : c + m = 189 + j) (hj : j < 63) : wr 252 D 371 (nI c + nI m) v = some (sI D 371 (189 + j) v) := by
  rw [nI_add, e, wr_nI D 371 v (show 189 + j < 252 by omega)]
theorem mc_head {E : wd_D} {n p m kd : Nat} {tb : Nat → Nat} {ρ : Rho} (hE : MT E n tb) (hp : p < n) (h14 : E.1 370 14 = nI p) (hR : RepM E 189 ρ) (h41 : ρ 41 = nI m) (hm : m < 7) (hk : f_X7_kindOf (nI (tb p)) = nI kd) (k1 : 1 ≤ kd) (k2 : kd < 6) : f_X7_takesChild E = (f_X7_takesNumber 1 9 44 (sI (sI (sI E 370 14 (nI (p + 1))) 371 (189 + (42 + m)) (nI kd)) 371 (189 + (29 + m)) (nI m))).bind (fun q9 => (if q9.1 = 0 then some (0, q9.2) else (wr 252 q9.2 371 (190 + nI m) (gI q9.2 370 15)).bind (fun D11 => (f_X7_takesNumber 0 9 44 D11).bind (fun q12 => (if q12.1 = 0 then some (0, q12.2) else (wr 252 q12.2 371 (238 + nI m) (gI q12.2 370 15)).bind (fun D14 => (f_X7_takesNumber 0 9 59 D14).bind (fun q15 => (if q15.1 = 0 then some (0, q15.2) else (wr 252 q15.2 371 (245 + nI m) (gI q15.2 370 15)).bind (fun D17 => (rd 252 D17 371 230).bind (fun x18 => (wr 252 D17 371 230 (x18 + 1)).bind (fun D19 => some (1, D19)))))))))))) := by
  have r41 : rd 252 E 371 230 = some (nI m) := by rw [← h41]; exact hR.f41 (by omega)
  unfold f_X7_takesChild
  rw [r41, Option.bind_some, gI_e, h14, by_in hE hp, Option.bind_some, ap_e, hk, if_neg (nI_ne0 (by omega) (by omega)), if_neg (show ¬ nI m = 7 from fun z => by have := (eq_nI (b := 7) (by omega) (by omega)).mp z; omega), ap_e, nI_1, show (231 : Int32) = nI 231 from rfl, wrm (show 231 + m = 189 + (42 + m) by omega) (by omega), Option.bind_some, show (218 : Int32) = nI 218 from rfl, wrm (show 218 + m = 189 + (29 + m) by omega) (by omega), Option.bind_some]
theorem chl {n p m : Nat} {tb : Nat → Nat} (h120 : n ≤ 120) (htb : ∀ j, j < n → tb j < 256) (hp : p ≤ n) (hm : m ≤ 7) (hpm : p < n ∨ m = 0) :
  (∃ q f, q ≤ n ∧ f < 4 ∧ (∀ M D, TP D n tb → D.1 13 0 = nI m → ∃ D', f_X5_readInto_L11 (M + 7) 13 (nI 5) (nI p) D = some (nI q, D') ∧ D'.1 2 2 = nI f ∧ FrR D D') ∧ (∀ E ρ, MT E n tb → E.1 370 14 = nI p → RepM E 189 ρ → ρ 41 = nI m → ∃ E', f_X7_takesChild E = some (0, E') ∧ E'.1 370 10 = nI f ∧ E'.1 370 16 = nI q ∧ FrX E E'))
  ∨ (∃ kd nd ho vo p', m < 7 ∧ p + 7 ≤ p' ∧ p' ≤ n ∧ 1 ≤ kd ∧ kd < 6 ∧ nd ≤ 9 ∧ ho ≤ 9 ∧ vo ≤ 9 ∧ (∀ M D ρ, TP D n tb → RepC D 13 m ρ → ρ 41 = nI m → ρ (8 + m) = 0 → ρ (15 + m) = 0 → ρ (22 + m) = 0 → ∃ D', f_X5_readInto_L11 (M + 7) 13 (nI 5) (nI p) D = f_X5_readInto_L11 M 13 (nI 5) (nI p') D' ∧ RepC D' 13 (m + 1) (chS ρ m (nI kd) (nI nd) (nI ho) (nI vo)) ∧ FrR D D') ∧ (∀ E ρ, MT E n tb → E.1 370 14 = nI p → RepM E 189 ρ → ρ 41 = nI m → ∃ E', f_X7_takesChild E = some (1, E') ∧ RepM E' 189 (chS ρ m (nI kd) (nI nd) (nI ho) (nI vo)) ∧ E'.1 370 14 = nI p' ∧ FrX E E' ∧ E'.1 370 10 = E.1 370 10)) := by
  have r05 : rs 0 (nI 5) = some (nI 4) := rfl
  by_cases en : p = n
  · subst en
    have m0 : m = 0 := by omega
    subst m0
    refine Or.inl ⟨p, 1, Nat.le_refl _, by decide, fun M D hD h13 => ⟨_, ct_end (M := M + 6) hD (Or.inr h13), sI_eq, FrR.s2⟩, fun E ρ hE h14 hR h41 => ?_⟩
    have r41 : rd 252 E 371 230 = some (nI 0) := by rw [← h41]; exact hR.f41 (by omega)
    refine ⟨sI (sI E 370 10 1) 370 16 (nI p), ?_, by rw [sI_ne (by omega), sI_eq]; rfl, sI_eq, fun a b h1 h2 => by rw [sI_ne (by omega), sI_ne (by omega)]⟩
    unfold f_X7_takesChild
    rw [r41, Option.bind_some, gI_e, h14, by_out hE (Nat.le_refl _) (by omega), Option.bind_some, ap_e, if_pos (show f_X7_kindOf (-1) = 0 by decide), fails_e]
  have hpn : p < n := by omega
  rcases kind_v (htb p hpn) with hk | ⟨kd, k1, k2, hk, kb1, kb2⟩
  · refine Or.inl ⟨p, 1, hp, by decide, fun M D hD h13 => ⟨_, tok_bad (M := M + 6) hD hpn r05 (by rw [can_4, if_pos hk]), sI_eq, FrR.s2⟩, fun E ρ hE h14 hR h41 => ?_⟩
    have r41 : rd 252 E 371 230 = some (nI m) := by rw [← h41]; exact hR.f41 (by omega)
    refine ⟨sI (sI E 370 10 1) 370 16 (nI p), ?_, by rw [sI_ne (by omega), sI_eq]; rfl, sI_eq, fun a b h1 h2 => by rw [sI_ne (by omega), sI_ne (by omega)]⟩
    unfold f_X7_takesChild
    rw [r41, Option.bind_some, gI_e, h14, by_in hE hpn, Option.bind_some, ap_e, hk, i00, fails_e]
  have knz : ¬ f_X7_kindOf (nI (tb p)) = 0 := by rw [hk]; exact nI_ne0 (by omega) (by omega)
  have hd : ¬ dg (tb p) := by unfold dg; omega
  have hfa : ∀ D a4, TP D n tb → f_X5_faultAt (nI p) (nI 1) (nI 5) a4 D = some (if a4 < 7 then 0 else 3) := by
    intro D a4 hD
    unfold f_X5_faultAt f_X5_faultAt_L56
    rw [if_neg (show ¬ nI 1 = 0 by decide), hD.rd hpn, Option.bind_some, r05, Option.bind_some, can_4, if_neg knz, i10, Option.bind_some, if_neg (show ¬ nI 4 = 1 by decide), Option.bind_some, if_pos (show nI 4 = 4 from rfl)]
    split <;> rfl
  by_cases m7 : m = 7
  · subst m7
    refine Or.inl ⟨p, 3, hp, by decide, fun M D hD h13 => ⟨_, ct_bad (M := M + 6) (f := 3) hD hpn (wi_one hD hpn (by omega)) (by rw [h13]; exact hfa D (nI 7) hD) (by decide), sI_eq, FrR.s2⟩, fun E ρ hE h14 hR h41 => ?_⟩
    have r41 : rd 252 E 371 230 = some (nI 7) := by rw [← h41]; exact hR.f41 (by omega)
    refine ⟨sI (sI E 370 10 3) 370 16 (nI p), ?_, by rw [sI_ne (by omega), sI_eq]; rfl, sI_eq, fun a b h1 h2 => by rw [sI_ne (by omega), sI_ne (by omega)]⟩
    unfold f_X7_takesChild
    rw [r41, Option.bind_some, gI_e, h14, by_in hE hpn, Option.bind_some, ap_e, if_neg knz, if_pos (show nI 7 = 7 from rfl), fails_e]
  have hm7 : m < 7 := by omega
  -- the class, up to the first number
  have c1 : ∀ M D, TP D n tb → D.1 13 0 = nI m → f_X5_readInto_L11 (M + 7) 13 (nI 5) (nI p) D = f_X5_readInto_L11 (M + 6) 13 (nI 6) (nI (p + 1)) (adD (sI D 2 2 0) m (nI kd)) := by
    intro M D hD h13
    have hput : f_X5_put 13 (nI 5) (nI (tb p)) (sI D 2 2 0) = some (adD (sI D 2 2 0) m (nI kd)) := by
      rw [f_X5_put, ap_e, if_neg (show ¬ nI 5 = 1 by decide), if_neg (show ¬ nI 5 = 3 by decide), if_pos (show nI 5 = 5 from rfl), kind_eq, hk, add_e hm7 (by rw [sI_ne (by omega)]; exact h13), Option.bind_some]
    exact ct_good (M := M + 6) (s := 5) (w := 1) hD hpn (by decide) (by decide) (by decide) (wi_one hD hpn (by omega)) (by rw [hfa D _ hD, h13, if_pos (show nI m < 7 from (lt_nI (b := 7) (by omega) (by omega)).mpr hm7)]) (vl_not (hD.fr FrR.s2) hpn hd (nI 1)) hput
  have fr1 : ∀ D, FrR D (adD (sI D 2 2 0) m (nI kd)) := fun D => FrR.s2.tr adD_fr
  have ch1 : ∀ D, (adD (sI D 2 2 0) m (nI kd)).1 13 0 = nI (m + 1) := fun D => sI_eq
  have puts : ∀ D s, D.1 13 0 = nI (m + 1) → (s = 6 ∨ s = 8 ∨ s = 10) → ∀ v, ∃ Q, f_X5_put 13 (nI s) v (sI D 2 2 0) = some Q ∧ FrR D Q := fun D s h13 hs v => ⟨_, put_c hm7 (by rw [sI_ne (by omega)]; exact h13) hs, fun k j a b => by rw [sI_ne (by omega), sI_ne b]⟩
  have mE : ∀ {E E' : wd_D}, (∀ a b, ¬ (a = 370 ∧ (b = 14 ∨ b = 15)) → E'.1 a b = E.1 a b) → FrX E E' := fun h a b h1 h2 => h a b (by omega)
  have fx : ∀ {E : wd_D} {j : Nat} {v : Int32}, j < 63 → FrX E (sI E 371 (189 + j) v) := fun hj a b h1 h2 => sI_ne (by omega)
  have fx14 : ∀ {E : wd_D} {v : Int32}, FrX E (sI E 370 14 v) := fun a b h1 h2 => sI_ne (by omega)
  have hE0 : ∀ E, FrX E (sI (sI (sI E 370 14 (nI (p + 1))) 371 (189 + (42 + m)) (nI kd)) 371 (189 + (29 + m)) (nI m)) := fun E => (fx14.tr (fx (by omega))).tr (fx (by omega))
  have hE14 : ∀ E, (sI (sI (sI E 370 14 (nI (p + 1))) 371 (189 + (42 + m)) (nI kd)) 371 (189 + (29 + m)) (nI m)).1 370 14 = nI (p + 1) := fun E => by rw [sI_ne (by omega), sI_ne (by omega), sI_eq]
  have hER : ∀ E ρ, RepM E 189 ρ → RepM (sI (sI (sI E 370 14 (nI (p + 1))) 371 (189 + (42 + m)) (nI kd)) 371 (189 + (29 + m)) (nI m)) 189 (upd (upd ρ (42 + m) (nI kd)) (29 + m) (nI m)) := fun E ρ hR => ((hR.at (fun j _ _ => sI_ne (by omega))).up _ _).up _ _
  rcases nc (tb := tb) (s := 6) (lo := 1) (hi := 9) (ty := 2) h120 (show p + 1 ≤ n by omega) (by omega) (by decide) (by omega) rfl rfl rfl rfl (by decide) with ⟨q, f, hq, hf, cc, mm⟩ | ⟨nd, p1, hp1, hp1n, n1, n2, cc, mm⟩
  · refine Or.inl ⟨q, f, hq, hf, fun M D hD h13 => ?_, fun E ρ hE h14 hR h41 => ?_⟩
    · obtain ⟨D', e, g, fr⟩ := cc (M + 4) _ (hD.fr (fr1 D)) (puts _ 6 (ch1 D) (by omega))
      exact ⟨D', by rw [c1 M D hD h13]; exact e, g, (fr1 D).tr fr⟩
    · obtain ⟨E', e, g1, g2, fr⟩ := mm _ (hE.fr (hE0 E)) (hE14 E)
      exact ⟨E', by rw [mc_head hE hpn h14 hR h41 hm7 hk k1 k2, show f_X7_takesNumber 1 9 44 _ = some (0, E') from e, Option.bind_some, i00], g1, g2, (hE0 E).tr fr⟩
  have mm1 : ∀ E ρ, MT E n tb → E.1 370 14 = nI p → RepM E 189 ρ → ρ 41 = nI m → ∃ E1, MT E1 n tb ∧ E1.1 370 14 = nI p1 ∧ RepM E1 189 (upd (upd (upd ρ (42 + m) (nI kd)) (29 + m) (nI m)) (1 + m) (nI nd)) ∧ FrX E E1 ∧ E1.1 370 10 = E.1 370 10 ∧ f_X7_takesChild E = (f_X7_takesNumber 0 9 44 E1).bind (fun q12 => (if q12.1 = 0 then some (0, q12.2) else (wr 252 q12.2 371 (238 + nI m) (gI q12.2 370 15)).bind (fun D14 => (f_X7_takesNumber 0 9 59 D14).bind (fun q15 => (if q15.1 = 0 then some (0, q15.2) else (wr 252 q15.2 371 (245 + nI m) (gI q15.2 370 15)).bind (fun D17 => (rd 252 D17 371 230).bind (fun x18 => (wr 252 D17 371 230 (x18 + 1)).bind (fun D19 => some (1, D19)))))))) ) := by
    intro E ρ hE h14 hR h41
    obtain ⟨E', e, g1, g2, fr⟩ := mm _ (hE.fr (hE0 E)) (hE14 E)
    have f0 := (hE0 E).tr (mE fr)
    refine ⟨sI E' 371 (189 + (1 + m)) (nI nd), (hE.fr f0).fr (fx (by omega)), by rw [sI_ne (by omega)]; exact g2, ((hER E ρ hR).at (fun j _ _ => fr 371 j (by omega))).up _ _, f0.tr (fx (by omega)), by rw [sI_ne (by omega), fr 370 10 (by omega), sI_ne (by omega), sI_ne (by omega), sI_ne (by omega)], ?_⟩
    rw [mc_head hE hpn h14 hR h41 hm7 hk k1 k2, show f_X7_takesNumber 1 9 44 _ = some (1, E') from e, Option.bind_some, i10, show (190 : Int32) = nI 190 from rfl, gI_e, g1, wrm (show 190 + m = 189 + (1 + m) by omega) (by omega), Option.bind_some]
  have cc1 : ∀ M D, TP D n tb → D.1 13 0 = nI m → f_X5_readInto_L11 (M + 7) 13 (nI 5) (nI p) D = f_X5_readInto_L11 (M + 4) 13 (nI 8) (nI p1) (sI (sI (sI (adD (sI D 2 2 0) m (nI kd)) 2 2 0) (13 + 2) m (nI nd)) 2 2 0) := by
    intro M D hD h13
    rw [c1 M D hD h13]
    exact cc (M + 4) _ _ (hD.fr (fr1 D)) (put_c hm7 (by rw [sI_ne (by omega)]; exact ch1 D) (by omega)) (fun k j a b => by rw [sI_ne (by omega), sI_ne b])
  have fr2 : ∀ D, FrR D (sI (sI (sI (adD (sI D 2 2 0) m (nI kd)) 2 2 0) (13 + 2) m (nI nd)) 2 2 0) := fun D => (fr1 D).tr (fun k j a b => by rw [sI_ne b, sI_ne (by omega), sI_ne b])
  have ch2 : ∀ D, (sI (sI (sI (adD (sI D 2 2 0) m (nI kd)) 2 2 0) (13 + 2) m (nI nd)) 2 2 0).1 13 0 = nI (m + 1) := fun D => by rw [sI_ne (by omega), sI_ne (by omega), sI_ne (by omega)]; exact ch1 D
  rcases nc (tb := tb) (s := 8) (lo := 0) (hi := 9) (ty := 2) h120 hp1n (by omega) (by decide) (by omega) rfl rfl rfl rfl (by decide) with ⟨q, f, hq, hf, cc, mm⟩ | ⟨ho, p2, hp2, hp2n, ho1, ho2, cc, mm⟩
  · refine Or.inl ⟨q, f, hq, hf, fun M D hD h13 => ?_, fun E ρ hE h14 hR h41 => ?_⟩
    · obtain ⟨D', e, g, fr⟩ := cc (M + 2) _ (hD.fr (fr2 D)) (puts _ 8 (ch2 D) (by omega))
      exact ⟨D', by rw [cc1 M D hD h13]; exact e, g, (fr2 D).tr fr⟩
    · obtain ⟨E1, t1, a1, R1, f1, b1, e1⟩ := mm1 E ρ hE h14 hR h41
      obtain ⟨E', e, g1, g2, fr⟩ := mm E1 t1 a1
      exact ⟨E', by rw [e1, show f_X7_takesNumber 0 9 44 E1 = some (0, E') from e, Option.bind_some, i00], g1, g2, f1.tr fr⟩
  have mm2 : ∀ E ρ, MT E n tb → E.1 370 14 = nI p → RepM E 189 ρ → ρ 41 = nI m → ∃ E1, MT E1 n tb ∧ E1.1 370 14 = nI p2 ∧ RepM E1 189 (upd (upd (upd (upd ρ (42 + m) (nI kd)) (29 + m) (nI m)) (1 + m) (nI nd)) (49 + m) (nI ho)) ∧ FrX E E1 ∧ E1.1 370 10 = E.1 370 10 ∧ f_X7_takesChild E = (f_X7_takesNumber 0 9 59 E1).bind (fun q15 => (if q15.1 = 0 then some (0, q15.2) else (wr 252 q15.2 371 (245 + nI m) (gI q15.2 370 15)).bind (fun D17 => (rd 252 D17 371 230).bind (fun x18 => (wr 252 D17 371 230 (x18 + 1)).bind (fun D19 => some (1, D19)))))) := by
    intro E ρ hE h14 hR h41
    obtain ⟨E1, t1, a1, R1, f1, b1, e1⟩ := mm1 E ρ hE h14 hR h41
    obtain ⟨E', e, g1, g2, fr⟩ := mm E1 t1 a1
    have f0 := f1.tr (mE fr)
    refine ⟨sI E' 371 (189 + (49 + m)) (nI ho), (hE.fr f0).fr (fx (by omega)), by rw [sI_ne (by omega)]; exact g2, (R1.at (fun j _ _ => fr 371 j (by omega))).up _ _, f0.tr (fx (by omega)), by rw [sI_ne (by omega), fr 370 10 (by omega), b1], ?_⟩
    rw [e1, show f_X7_takesNumber 0 9 44 E1 = some (1, E') from e, Option.bind_some, i10, show (238 : Int32) = nI 238 from rfl, gI_e, g1, wrm (show 238 + m = 189 + (49 + m) by omega) (by omega), Option.bind_some]
  have cc2 : ∀ M D, TP D n tb → D.1 13 0 = nI m → f_X5_readInto_L11 (M + 7) 13 (nI 5) (nI p) D = f_X5_readInto_L11 (M + 2) 13 (nI 10) (nI p2) (sI (sI (sI (sI (sI (sI (adD (sI D 2 2 0) m (nI kd)) 2 2 0) (13 + 2) m (nI nd)) 2 2 0) 2 2 0) (13 + 3) m (nI ho)) 2 2 0) := by
    intro M D hD h13
    rw [cc1 M D hD h13]
    exact cc (M + 2) _ _ (hD.fr (fr2 D)) (put_c hm7 (by rw [sI_ne (by omega)]; exact ch2 D) (by omega)) (fun k j a b => by rw [sI_ne (by omega), sI_ne b])
  have fr3 : ∀ D, FrR D (sI (sI (sI (sI (sI (sI (adD (sI D 2 2 0) m (nI kd)) 2 2 0) (13 + 2) m (nI nd)) 2 2 0) 2 2 0) (13 + 3) m (nI ho)) 2 2 0) := fun D => (fr2 D).tr (fun k j a b => by rw [sI_ne b, sI_ne (by omega), sI_ne b])
  have ch3 : ∀ D, (sI (sI (sI (sI (sI (sI (adD (sI D 2 2 0) m (nI kd)) 2 2 0) (13 + 2) m (nI nd)) 2 2 0) 2 2 0) (13 + 3) m (nI ho)) 2 2 0).1 13 0 = nI (m + 1) := fun D => by rw [sI_ne (by omega), sI_ne (by omega), sI_ne (by omega)]; exact ch2 D
  rcases nc (tb := tb) (s := 10) (lo := 0) (hi := 9) (ty := 3) h120 hp2n (by omega) (by decide) (by omega) rfl rfl rfl rfl (by decide) with ⟨q, f, hq, hf, cc, mm⟩ | ⟨vo, p3, hp3, hp3n, vo1, vo2, cc, mm⟩
  · refine Or.inl ⟨q, f, hq, hf, fun M D hD h13 => ?_, fun E ρ hE h14 hR h41 => ?_⟩
    · obtain ⟨D', e, g, fr⟩ := cc M _ (hD.fr (fr3 D)) (puts _ 10 (ch3 D) (by omega))
      exact ⟨D', by rw [cc2 M D hD h13]; exact e, g, (fr3 D).tr fr⟩
    · obtain ⟨E1, t1, a1, R1, f1, b1, e1⟩ := mm2 E ρ hE h14 hR h41
      obtain ⟨E', e, g1, g2, fr⟩ := mm E1 t1 a1
      exact ⟨E', by rw [e1, show f_X7_takesNumber 0 9 59 E1 = some (0, E') from e, Option.bind_some, i00], g1, g2, f1.tr fr⟩
  refine Or.inr ⟨kd, nd, ho, vo, p3, hm7, by omega, hp3n, k1, k2, n2, ho2, vo2, fun M D ρ hD hR h41 z1 z2 z3 => ?_, fun E ρ hE h14 hR h41 => ?_⟩
  · have h13 : D.1 13 0 = nI m := by
      have := hR.f41
      rw [gI_e] at this
      rw [this, h41]
    refine ⟨sI (sI (sI (sI (sI (sI (sI (sI (sI (adD (sI D 2 2 0) m (nI kd)) 2 2 0) (13 + 2) m (nI nd)) 2 2 0) 2 2 0) (13 + 3) m (nI ho)) 2 2 0) 2 2 0) (13 + 4) m (nI vo)) 2 2 0, ?_, ?_, ?_⟩
    · rw [cc2 M D hD h13]
      exact cc M _ _ (hD.fr (fr3 D)) (put_c hm7 (by rw [sI_ne (by omega)]; exact ch3 D) (by omega)) (fun k j a b => by rw [sI_ne (by omega), sI_ne b])
    · have hx : EqR (sI (sI (sI (sI (sI (sI (sI (sI (sI (adD (sI D 2 2 0) m (nI kd)) 2 2 0) (13 + 2) m (nI nd)) 2 2 0) 2 2 0) (13 + 3) m (nI ho)) 2 2 0) 2 2 0) (13 + 4) m (nI vo)) 2 2 0) (sI (sI (sI (adD D m (nI kd)) (13 + 2) m (nI nd)) (13 + 3) m (nI ho)) (13 + 4) m (nI vo)) := by
        refine EqR.l (EqR.s (EqR.l (EqR.l (EqR.s (EqR.l (EqR.l (EqR.s (EqR.l ?_))))))))
        unfold adD
        exact EqR.s (EqR.s (EqR.s (EqR.s (EqR.s (EqR.s (EqR.l EqR.rf))))))
      exact (add_rep hR hm7 z1 z2 z3).at (by omega) (fun k j a1 a2 => hx k j a1 (by omega))
    · exact (fr3 D).tr (fun k j a b => by rw [sI_ne b, sI_ne (by omega), sI_ne b])
  · obtain ⟨E1, t1, a1, R1, f1, b1, e1⟩ := mm2 E ρ hE h14 hR h41
    obtain ⟨E', e, g1, g2, fr⟩ := mm E1 t1 a1
    have f0 := f1.tr (mE fr)
    have R2 := (R1.at (E := E') (fun j _ _ => fr 371 j (by omega))).up (56 + m) (nI vo)
    have r41 : rd 252 (sI E' 371 (189 + (56 + m)) (nI vo)) 371 230 = some (nI m) := by
      rw [← h41]
      have := R2.f41 (by omega)
      rw [upd_n (by omega), upd_n (by omega), upd_n (by omega), upd_n (by omega), upd_n (by omega)] at this
      exact this
    refine ⟨sI (sI E' 371 (189 + (56 + m)) (nI vo)) 371 (189 + 41) (nI (m + 1)), ?_, R2.up 41 _, by rw [sI_ne (by omega), sI_ne (by omega)]; exact g2, (f0.tr (fx (by omega))).tr (fx (by omega)), by rw [sI_ne (by omega), sI_ne (by omega), fr 370 10 (by omega), b1]⟩
    rw [e1, show f_X7_takesNumber 0 9 59 E1 = some (1, E') from e, Option.bind_some, i10, show (245 : Int32) = nI 245 from rfl, gI_e, g1, wrm (show 245 + m = 189 + (56 + m) by omega) (by omega), Option.bind_some, r41, Option.bind_some, nI_1, show (230 : Int32) = nI (189 + 41) from rfl, wr_nI _ 371 _ (show 189 + 41 < 252 by omega), Option.bind_some]
