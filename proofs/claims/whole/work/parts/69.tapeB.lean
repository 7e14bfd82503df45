/-! a sign; a number and the sign behind it -/
def FrR (D D' : wd_D) : Prop := ∀ k j, ¬ (13 ≤ k ∧ k ≤ 21) → ¬ (k = 2 ∧ j = 2) → D'.1 k j = D.1 k j
def FrX (E E' : wd_D) : Prop := ∀ k j, ¬ (k = 371 ∧ 189 ≤ j ∧ j < 252) → ¬ (k = 370 ∧ (j = 10 ∨ j = 14 ∨ j = 15 ∨ j = 16)) → E'.1 k j = E.1 k j
theorem FrR.rf {D : wd_D} : FrR D D := fun _ _ _ _ => rfl
theorem FrX.rf {D : wd_D} : FrX D D := fun _ _ _ _ => rfl
theorem FrR.tr {D E F : wd_D} (h : FrR D E) (g : FrR E F) : FrR D F := fun k j a b => (g k j a b).trans (h k j a b)
theorem FrX.tr {D E F : wd_D} (h : FrX D E) (g : FrX E F) : FrX D F := fun k j a b => (g k j a b).trans (h k j a b)
theorem FrR.s2 {D : wd_D} {v : Int32} : FrR D (sI D 2 2 v) := fun _ _ _ b => sI_ne b
theorem TP.fr {D D' : wd_D} {n : Nat} {tb : Nat → Nat} (h : TP D n tb) (g : FrR D D') : TP D' n tb := ⟨h.1, by rw [g _ _ (by omega) (by omega)]; exact h.2.1, fun j hj => by rw [g _ _ (by omega) (by omega)]; exact h.2.2 j hj⟩
def MT (E : wd_D) (n : Nat) (tb : Nat → Nat) : Prop := n ≤ 120 ∧ E.1 370 9 = nI n ∧ ∀ j, j < n → E.1 377 j = nI (tb j) ∧ tb j < 256
theorem MT.fr {D D' : wd_D} {n : Nat} {tb : Nat → Nat} (h : MT D n tb) (g : FrX D D') : MT D' n tb := ⟨h.1, by rw [g _ _ (by omega) (by omega)]; exact h.2.1, fun j hj => by rw [g _ _ (by omega) (by omega)]; exact h.2.2 j hj⟩
def chO (ty : Nat) : Nat := if ty = 0 then 107 else if ty = 2 then 44 else 59
theorem can_ch {b ty : Nat} (hb : b < 256) (ht : ty = 0 ∨ ty = 2 ∨ ty = 3) : f_X5_canStand (nI b) (nI ty) = if b = chO ty then 1 else 0 := by
  unfold f_X5_canStand
  have e : ∀ c, c < 256 → (nI b = nI c ↔ b = c) := fun c hc => eq_nI (by omega) (by omega)
  rcases ht with rfl | rfl | rfl
  · rw [if_pos (show nI 0 = 0 from rfl)]
    by_cases c : b = 107
    · rw [if_pos (show nI b = 107 from (e 107 (by omega)).mpr c), if_pos (show b = chO 0 from c)]
    · rw [if_neg (show ¬ nI b = 107 from fun z => c ((e 107 (by omega)).mp z)), if_neg (show ¬ b = chO 0 from c)]
  · rw [if_neg (show ¬ nI 2 = 0 by decide), if_neg (show ¬ nI 2 = 1 by decide), if_pos (show nI 2 = 2 from rfl)]
    by_cases c : b = 44
    · rw [if_pos (show nI b = 44 from (e 44 (by omega)).mpr c), if_pos (show b = chO 2 from c)]
    · rw [if_neg (show ¬ nI b = 44 from fun z => c ((e 44 (by omega)).mp z)), if_neg (show ¬ b = chO 2 from c)]
  · rw [if_neg (show ¬ nI 3 = 0 by decide), if_neg (show ¬ nI 3 = 1 by decide), if_neg (show ¬ nI 3 = 2 by decide), if_pos (show nI 3 = 3 from rfl)]
    by_cases c : b = 59
    · rw [if_pos (show nI b = 59 from (e 59 (by omega)).mpr c), if_pos (show b = chO 3 from c)]
    · rw [if_neg (show ¬ nI b = 59 from fun z => c ((e 59 (by omega)).mp z)), if_neg (show ¬ b = chO 3 from c)]
section CH
variable {D : wd_D} {n p : Nat} {tb : Nat → Nat}
/-- who cannot stand there -/
theorem fa_bad (h : TP D n tb) (hp : p < n) {s w ty a4 : Int32} (hw : w = 0 ∨ w = 1 ∨ w = 2) (hs : rs 0 s = some ty) (hc : f_X5_canStand (nI (tb p)) ty = 0) : f_X5_faultAt (nI p) w s a4 D = some 1 := by
  unfold f_X5_faultAt
  by_cases z : w = 0
  · rw [if_pos z]
  · rw [if_neg z, h.rd hp, Option.bind_some, hs, Option.bind_some, hc, i00]
theorem fa_l56 {s a1 a2 a4 : Int32} {ty : Nat} (ht : ty < 4) (hs : rs 0 s = some (nI ty)) : f_X5_faultAt_L56 a1 a2 s a4 D = some 0 := by
  unfold f_X5_faultAt_L56
  rw [hs, Option.bind_some, if_neg (show ¬ nI ty = 4 from fun z => by have := (eq_nI (b := 4) (by omega) (by omega)).mp z; omega)]
theorem put_no {s : Nat} {v : Int32} (hs : s = 0 ∨ s = 2 ∨ s = 4 ∨ s = 7 ∨ s = 9 ∨ s = 11) : f_X5_put 13 (nI s) v D = some D := by
  have e : ∀ c, c = 1 ∨ c = 3 ∨ c = 5 ∨ c = 6 ∨ c = 8 ∨ c = 10 → ¬ nI s = nI c := fun c hc z => by have := (eq_nI (by omega) (by omega)).mp z; omega
  have l89 : ∀ x, f_X5_put_L89 13 (nI s) v x D = some D := fun x => by
    unfold f_X5_put_L89
    by_cases c : x < 0
    · rw [if_pos c]
    · rw [if_neg c, if_neg (show ¬ nI s = 10 from e 10 (by omega))]
  have l69 : ∀ x, f_X5_put_L69 13 (nI s) v x D = some D := fun x => by
    unfold f_X5_put_L69
    by_cases c : x < 0
    · rw [if_pos c, l89]
    · rw [if_neg c, if_neg (show ¬ nI s = 8 from e 8 (by omega)), l89]
  rw [f_X5_put, ap_e, if_neg (show ¬ nI s = 1 from e 1 (by omega)), if_neg (show ¬ nI s = 3 from e 3 (by omega)), if_neg (show ¬ nI s = 5 from e 5 (by omega)), if_neg (show ¬ nI s = 6 from e 6 (by omega)), l69]
  split <;> rfl
theorem ch_yes (h : TP D n tb) {M s ty : Nat} (hs : s = 0 ∨ s = 2 ∨ s = 4 ∨ s = 7 ∨ s = 9 ∨ s = 11) (ht : ty = 0 ∨ ty = 2 ∨ ty = 3) (hr : rs 0 (nI s) = some (nI ty)) (hp : p < n) (hc : tb p = chO ty) : f_X5_readInto_L11 (M + 1) 13 (nI s) (nI p) D = f_X5_readInto_L11 M 13 (nI (if s = 11 then 5 else s + 1)) (nI (p + 1)) (sI D 2 2 0) := by
  have hch : chO ty = 107 ∨ chO ty = 44 ∨ chO ty = 59 := by rcases ht with rfl | rfl | rfl <;> decide
  have hb := (h.2.2 p hp).2
  have hd : ¬ dg (tb p) := by unfold dg; omega
  have hf : f_X5_faultAt (nI p) (nI 1) (nI s) (D.1 13 0) D = some 0 := by
    unfold f_X5_faultAt
    rw [if_neg (show ¬ nI 1 = 0 by decide), h.rd hp, Option.bind_some, hr, Option.bind_some, can_ch hb ht, if_pos hc, i10, Option.bind_some, if_neg (show ¬ nI ty = 1 from fun z => by have := (eq_nI (b := 1) (by omega) (by omega)).mp z; omega), fa_l56 (by omega) hr]
  exact ct_good h hp (by omega) (by decide) (by decide) (wi_one h hp (by omega)) hf (vl_not (h.fr FrR.s2) hp hd (nI 1)) (put_no hs)
theorem ch_no (h : TP D n tb) {M s ty : Nat} (hs : s = 0 ∨ s = 2 ∨ s = 4 ∨ s = 7 ∨ s = 9 ∨ s = 11) (ht : ty = 0 ∨ ty = 2 ∨ ty = 3) (hr : rs 0 (nI s) = some (nI ty)) (hp : p ≤ n) (hc : p < n → tb p ≠ chO ty) : f_X5_readInto_L11 (M + 1) 13 (nI s) (nI p) D = some (nI p, sI D 2 2 1) := by
  by_cases e : p = n
  · subst e
    exact ct_end h (Or.inl (fun z => by have := (eq_nI (b := 5) (by omega) (by omega)).mp z; omega))
  · have hp' : p < n := by omega
    have hb := (h.2.2 p hp').2
    have hcs : f_X5_canStand (nI (tb p)) (nI ty) = 0 := by rw [can_ch hb ht, if_neg (hc hp')]
    rcases Classical.em (dg (tb p)) with hd | hd
    · obtain ⟨k, hk⟩ := run_ex tb n (n - p) p (by omega)
      refine ct_bad h hp' (wi_dig h hp' hd hk) (fa_bad h hp' ?_ hr hcs) (by decide)
      by_cases c : k ≤ 2
      · rw [if_pos c]
        rcases (show k = 0 ∨ k = 1 ∨ k = 2 by omega) with rfl | rfl | rfl
        · exact Or.inl rfl
        · exact Or.inr (Or.inl rfl)
        · exact Or.inr (Or.inr rfl)
      · rw [if_neg c]; exact Or.inl rfl
    · rcases wi_not h hp' hd with hw | hw
      · exact ct_bad h hp' hw (fa_bad h hp' (Or.inl rfl) hr hcs) (by decide)
      · exact ct_bad h hp' hw (fa_bad h hp' (Or.inr (Or.inl rfl)) hr hcs) (by decide)
end CH
/-! the reference, byte by byte -/
section MB
variable {E : wd_D} {n p : Nat} {tb : Nat → Nat}
theorem by_in (h : MT E n tb) (hp : p < n) : f_X7_byteAt (nI p) E = some (nI (tb p)) := by
  have := h.1
  unfold f_X7_byteAt
  rw [gI_e, h.2.1, if_neg (fun z => by have := (le_nI (by omega) (by omega)).mp z; omega), rd_nI E 377 (show p < 120 by omega), Option.bind_some, (h.2.2 p hp).1]
theorem by_out (h : MT E n tb) (hp : n ≤ p) (hp2 : p ≤ 1000) : f_X7_byteAt (nI p) E = some (-1) := by
  have := h.1
  unfold f_X7_byteAt
  rw [gI_e, h.2.1, if_pos ((le_nI (by omega) (by omega)).mpr hp)]
theorem fails_e (a b : Int32) (E : wd_D) : ap (f_X7_fails a b E) (fun q => (bo q.1).bind (fun x => some (x, q.2))) = some (0, sI (sI E 370 10 a) 370 16 b) := rfl
theorem ta_yes (h : MT E n tb) (hp : p < n) (h14 : E.1 370 14 = nI p) {ch : Nat} (hc : tb p = ch) : f_X7_takes (nI ch) E = some (1, sI E 370 14 (nI (p + 1))) := by
  unfold f_X7_takes
  rw [gI_e, h14, by_in h hp, Option.bind_some, hc, if_pos rfl, ap_e, nI_1]
theorem ta_no (h : MT E n tb) (hp : p ≤ n) (h14 : E.1 370 14 = nI p) {ch : Nat} (hch : ch < 256) (hc : p < n → tb p ≠ ch) : f_X7_takes (nI ch) E = some (0, sI (sI E 370 10 1) 370 16 (nI p)) := by
  have h120 := h.1
  unfold f_X7_takes
  rw [gI_e, h14]
  by_cases e : p < n
  · rw [by_in h e, Option.bind_some, if_neg (show ¬ nI (tb p) = nI ch from fun z => by
      have hb := (h.2.2 p e).2
      exact hc e ((eq_nI (by omega) (by omega)).mp z)), fails_e]
  · rw [by_out h (by omega) (by omega), Option.bind_some, if_neg (show ¬ (-1 : Int32) = nI ch from fun z => nI_neg (by omega) z.symm), fails_e]
theorem in_dig {b : Nat} (hb : b < 256) : f_X7_in (nI b).toInt64 48 57 = if 48 ≤ b ∧ b ≤ 57 then 1 else 0 := by
  rw [show f_X7_in (nI b).toInt64 48 57 = if f_X6_beyond (nI b) 48 57 = 0 then 1 else 0 from in_bey (nI b) 48 57]
  by_cases c : f_X6_beyond (nI b) 48 57 = 0
  · obtain ⟨m, m1, m2, e⟩ := bey_nI (lo := 48) (hi := 57) (by decide) (by decide) c
    have := (eq_nI (by omega) (by omega)).mp e
    rw [if_pos c, if_pos (by omega)]
  · rw [if_neg c, if_neg]
    intro z
    apply c
    unfold f_X6_beyond
    rw [if_neg (show ¬ nI b < 48 from fun y => by have := (lt_nI (b := 48) (by omega) (by omega)).mp y; omega), if_pos (show nI b ≤ 57 from (le_nI (b := 57) (by omega) (by omega)).mpr (by omega))]
theorem in_m1 : f_X7_in (-1 : Int32).toInt64 48 57 = 0 := by decide +kernel
/-- behind the figures -/
def nuF (lo hi ch : Int32) (p k : Nat) (v : Int32) (E : wd_D) : Option (Int32 × wd_D) :=
  if k = 0 ∨ 2 < k then some (0, sI (sI E 370 10 1) 370 16 (nI p)) else if f_X6_beyond v lo hi = 0 then f_X7_takes ch E else some (0, sI (sI E 370 10 2) 370 16 (nI p))
theorem take_bo {o : Option (Int32 × wd_D)} {x : Int32} {E : wd_D} (h : o = some (x, E)) (hx : x = 0 ∨ x = 1) : o.bind (fun q => (bo q.1).bind (fun y => some (y, q.2))) = o := by
  subst h
  rw [Option.bind_some]
  have : bo x = some x := by unfold bo; rw [if_pos hx]
  rw [this, Option.bind_some]
theorem nu_loop (lo hi : Int32) {ch k : Nat} (hch : ch < 256) (hr : Run tb n p k) : ∀ d j m E, MT E n tb → j + d = k → d < m → E.1 370 14 = nI (p + j) → E.1 370 15 = vd tb p (min j 2) → ∃ E', f_X7_takesNumber_L11 m lo hi (nI ch) (nI p) E = nuF lo hi (nI ch) p k (vd tb p (min k 2)) E' ∧ E'.1 370 14 = nI (p + k) ∧ E'.1 370 15 = vd tb p (min k 2) ∧ (∀ a b, ¬ (a = 370 ∧ (b = 14 ∨ b = 15)) → E'.1 a b = E.1 a b) := by
  have hr1 := hr.1
  intro d
  induction d with
  | zero =>
    intro j m E h hj hm h14 h15
    have h120 := h.1
    obtain ⟨m, rfl⟩ : ∃ m', m = m' + 1 := ⟨m - 1, by omega⟩
    have e : j = k := by omega
    subst e
    refine ⟨E, ?_, h14, h15, fun _ _ _ => rfl⟩
    have hby : ∃ x, f_X7_byteAt (nI (p + j)) E = some x ∧ f_X7_in x.toInt64 48 57 = 0 := by
      by_cases c : p + j < n
      · refine ⟨_, by_in h c, ?_⟩
        rw [in_dig (h.2.2 _ c).2, if_neg (show ¬ (48 ≤ tb (p + j) ∧ tb (p + j) ≤ 57) from hr.2.2.resolve_left (by omega))]
      · exact ⟨-1, by_out h (by omega) (by omega), in_m1⟩
    obtain ⟨x, hx, hin⟩ := hby
    rw [f_X7_takesNumber_L11, gI_e, h14, hx, Option.bind_some, hin, i00, gI_e, h15]
    unfold nuF f_X7_takesNumber_L106
    by_cases c0 : j = 0
    · subst c0
      rw [if_pos (show nI (p + 0) = nI p from rfl), if_pos (Or.inl rfl), fails_e]
    · rw [if_neg (show ¬ nI (p + j) = nI p from fun z => by have := (eq_nI (by omega) (by omega)).mp z; omega), pk_sub (by omega), show p + j - p = j by omega]
      by_cases c2 : j ≤ 2
      · rw [if_pos (show nI j ≤ 2 from (le_nI (b := 2) (by omega) (by omega)).mpr c2), if_neg (show ¬ (j = 0 ∨ 2 < j) by omega), in_bey, ib]
        by_cases c3 : f_X6_beyond (vd tb p (min j 2)) lo hi = 0
        · rw [if_pos c3, if_pos c3]
          by_cases c4 : p + j < n ∧ tb (p + j) = ch
          · exact take_bo (ta_yes h c4.1 h14 c4.2) (Or.inr rfl)
          · exact take_bo (ta_no h (by omega) h14 hch (fun z y => c4 ⟨z, y⟩)) (Or.inl rfl)
        · rw [if_neg c3, if_neg c3, fails_e]
      · rw [if_neg (show ¬ nI j ≤ 2 from fun z => c2 ((le_nI (b := 2) (by omega) (by omega)).mp z)), if_pos (show j = 0 ∨ 2 < j by omega), fails_e]
  | succ d ih =>
    intro j m E h hj hm h14 h15
    have h120 := h.1
    obtain ⟨m, rfl⟩ : ∃ m', m = m' + 1 := ⟨m - 1, by omega⟩
    have hpj : p + j < n := by omega
    rw [f_X7_takesNumber_L11, gI_e, h14, by_in h hpj, Option.bind_some, in_dig (h.2.2 _ hpj).2, if_pos (show 48 ≤ tb (p + j) ∧ tb (p + j) ≤ 57 from hr.2.1 j (by omega)), i10, pk_sub (by omega), show p + j - p = j by omega, gI_e, h15]
    have go : ∀ v, v = vd tb p (min (j + 1) 2) → ∃ E', f_X7_takesNumber_L70 (f_X7_takesNumber_L11 m) lo hi (nI ch) (nI p) v E = nuF lo hi (nI ch) p k (vd tb p (min k 2)) E' ∧ E'.1 370 14 = nI (p + k) ∧ E'.1 370 15 = vd tb p (min k 2) ∧ (∀ a b, ¬ (a = 370 ∧ (b = 14 ∨ b = 15)) → E'.1 a b = E.1 a b) := by
      intro v hv
      rw [f_X7_takesNumber_L70, ap_e, ap_e, gI_e, sI_ne (show ¬ (370 = 370 ∧ 14 = 15) by omega), h14, nI_1]
      have hf : FrX E (sI (sI E 370 15 v) 370 14 (nI (p + j + 1))) := fun a b _ h2 => by rw [sI_ne (by omega), sI_ne (by omega)]
      obtain ⟨E', e, q1, q2, q3⟩ := ih (j + 1) m (sI (sI E 370 15 v) 370 14 (nI (p + j + 1))) (h.fr hf) (by omega) (by omega) sI_eq (by rw [sI_ne (by omega), sI_eq, hv])
      exact ⟨E', e, q1, q2, fun a b hab => by rw [q3 a b hab, sI_ne (by omega), sI_ne (by omega)]⟩
    by_cases c2 : 2 ≤ j
    · rw [if_pos (show (2 : Int32) ≤ nI j from (le_nI (a := 2) (by omega) (by omega)).mpr c2)]
      exact go _ (by rw [show min j 2 = 2 by omega, show min (j + 1) 2 = 2 by omega])
    · rw [if_neg (show ¬ (2 : Int32) ≤ nI j from fun z => c2 ((le_nI (a := 2) (by omega) (by omega)).mp z)), Option.bind_some]
      exact go _ (by rw [show min j 2 = j by omega, show min (j + 1) 2 = j + 1 by omega]; rfl)
theorem nu_e (h : MT E n tb) (lo hi : Int32) {ch k : Nat} (hch : ch < 256) (hr : Run tb n p k) (h14 : E.1 370 14 = nI p) : ∃ E', f_X7_takesNumber lo hi (nI ch) E = nuF lo hi (nI ch) p k (vd tb p (min k 2)) E' ∧ E'.1 370 14 = nI (p + k) ∧ E'.1 370 15 = vd tb p (min k 2) ∧ (∀ a b, ¬ (a = 370 ∧ (b = 14 ∨ b = 15)) → E'.1 a b = E.1 a b) := by
  have h120 := h.1
  have hr1 := hr.1
  have hf : FrX E (sI E 370 15 0) := fun a b _ h2 => by rw [sI_ne (by omega)]
  obtain ⟨E', e, q1, q2, q3⟩ := nu_loop lo hi hch hr k 0 FU (sI E 370 15 0) (h.fr hf) (by omega) (by unfold FU; omega) (by rw [sI_ne (by omega)]; exact h14) sI_eq
  refine ⟨E', ?_, q1, q2, fun a b hab => by rw [q3 a b hab, sI_ne (by omega)]⟩
  rw [f_X7_takesNumber, ap_e, ap_e, gI_e, h14]
  exact e
end MB
