/-! ask -/
def Tr (q s a : Nat) (D D' : wd_D) (t : Nat) (L : List Int32) : Prop := D'.1 q s = nI (t + L.length) ∧ (∀ j, j < L.length → D'.1 a (t + j) = L.getD j 0) ∧ ∀ k j, ¬ (k = q ∧ j = s) → ¬ (k = a ∧ t ≤ j ∧ j < t + L.length) → D'.1 k j = D.1 k j
theorem Tr.tr {q s a : Nat} {D D1 D2 : wd_D} {t : Nat} {L1 L2 : List Int32} (ha : a ≠ q) (h : Tr q s a D D1 t L1) (g : Tr q s a D1 D2 (t + L1.length) L2) : Tr q s a D D2 t (L1 ++ L2) := by
  refine ⟨?_, fun j hj => ?_, fun k j h1 h2 => ?_⟩
  · rw [g.1, List.length_append, Nat.add_assoc]
  · rw [List.length_append] at hj
    by_cases hc : j < L1.length
    · rw [g.2.2 _ _ (by omega) (by omega), h.2.1 j hc, List.getD_eq_getElem?_getD, List.getD_eq_getElem?_getD, List.getElem?_append_left hc]
    · have := g.2.1 (j - L1.length) (by omega)
      rw [show t + L1.length + (j - L1.length) = t + j by omega] at this
      rw [this, List.getD_eq_getElem?_getD, List.getD_eq_getElem?_getD, List.getElem?_append_right (by omega)]
  · rw [List.length_append] at h2
    rw [g.2.2 k j h1 (by omega), h.2.2 k j h1 (by omega)]
theorem leave_e {D : wd_D} {t : Nat} {b : Int32} (h : D.1 334 1 = nI t) (ht : t < 16) : ∃ D', f_X0_leave b D = some D' ∧ Tr 334 1 335 D D' t [b] := by
  unfold f_X0_leave
  rw [gI_e, h, if_neg (fun z => by have := (le_nI (a := 16) (by omega) (by omega)).mp z; omega), wr_nI D 335 b ht, Option.bind_some, ap_e, gI_e, sI_ne (show ¬ (334 = 335 ∧ 1 = t) by omega), h, nI_1]
  refine ⟨_, rfl, sI_eq, fun j hj => ?_, fun k j h1 h2 => ?_⟩
  · have : j = 0 := by simpa using hj
    subst this
    rw [sI_ne (by omega), Nat.add_zero, sI_eq]; rfl
  · have : ([b] : List Int32).length = 1 := rfl
    rw [sI_ne h1, sI_ne (by omega)]
theorem begins_e {D : wd_D} {t : Nat} {b : Int32} (h : D.1 370 12 = nI t) (ht : t < 16) : ∃ D', f_X7_begins b D = some D' ∧ Tr 370 12 378 D D' t [b] := by
  unfold f_X7_begins
  rw [gI_e, h, if_neg (fun z => by have := (le_nI (a := 16) (by omega) (by omega)).mp z; omega), wr_nI D 378 b ht, Option.bind_some, ap_e, gI_e, sI_ne (show ¬ (370 = 378 ∧ 12 = t) by omega), h, nI_1]
  refine ⟨_, rfl, sI_eq, fun j hj => ?_, fun k j h1 h2 => ?_⟩
  · have : j = 0 := by simpa using hj
    subst this
    rw [sI_ne (by omega), Nat.add_zero, sI_eq]; rfl
  · have : ([b] : List Int32).length = 1 := rfl
    rw [sI_ne h1, sI_ne (by omega)]
def Qa (D : wd_D) (c nd no sb mb : Int32) : Prop := D.1 334 2 = c ∧ D.1 334 3 = nd ∧ D.1 334 4 = no ∧ D.1 334 5 = sb ∧ D.1 334 6 = mb
theorem Qa.tr {D D' : wd_D} {c nd no sb mb : Int32} {t : Nat} {L : List Int32} (h : Qa D c nd no sb mb) (g : Tr 334 1 335 D D' t L) : Qa D' c nd no sb mb :=
  ⟨by rw [g.2.2 _ _ (by omega) (by omega)]; exact h.1, by rw [g.2.2 _ _ (by omega) (by omega)]; exact h.2.1, by rw [g.2.2 _ _ (by omega) (by omega)]; exact h.2.2.1, by rw [g.2.2 _ _ (by omega) (by omega)]; exact h.2.2.2.1, by rw [g.2.2 _ _ (by omega) (by omega)]; exact h.2.2.2.2⟩
/-- what a body gives, and what it leaves -/
def Gv (c nd no sb mb : Int32) (b : Int32) (k : Nat) (v : Int32) (L : List Int32) : Prop := ∀ D t e m, Qa D c nd no sb mb → D.1 334 1 = nI t → t + L.length ≤ 16 → e + k ≤ 16 → k ≤ m → ∃ D', f_X0_give m b (nI e) D = some (v, D') ∧ Tr 334 1 335 D D' t L
section GV
variable {c nd no sb mb : Int32}
theorem gv_in {D : wd_D} {e m : Nat} {b : Int32} (he : e ≤ 16) : f_X0_give (m + 1) b (nI e) D = (f_X0_leave b D).bind (fun q2 => (if b = 10 then some (gI q2 334 3, q2) else (if b = 11 then (f_X0_give m 10 (nI (e + 1)) q2).bind (fun q6 => (f_X0_give m (gI q6.2 334 6) (nI (e + 1)) q6.2).bind (fun q7 => some (q6.1 + q7.1, q7.2))) else (if b = 12 then (f_X0_give m 11 (nI (e + 1)) q2).bind (fun q9 => some (-q9.1, q9.2)) else (if b = 13 then (f_X0_give m 10 (nI (e + 1)) q2).bind (fun q11 => some (q11.1 - 100, q11.2)) else (if b = 14 then (f_X0_give m 13 (nI (e + 1)) q2).bind (fun q13 => some (2 * q13.1, q13.2)) else (if b = 15 then some (0, q2) else (if b = 16 then some (0, q2) else (if b = 17 then some (0, q2) else (if b = 18 then some (0, q2) else (if b = 19 then some (0, q2) else (if b = 20 then some (gI q2 334 2, q2) else (if b = 21 then (f_X0_give m 20 (nI (e + 1)) q2).bind (fun q21 => some (q21.1 + (gI q21.2 334 4), q21.2)) else (if b = 22 then (f_X0_give m 21 (nI (e + 1)) q2).bind (fun q23 => some (q23.1 - 1000, q23.2)) else (if b = 23 then (f_X0_give m 20 (nI (e + 1)) q2).bind (fun q25 => (f_X0_give m (gI q25.2 334 5) (nI (e + 1)) q25.2).bind (fun q26 => some (q25.1 - q26.1, q26.2))) else (if b = 24 then (f_X0_give m 21 (nI (e + 1)) q2).bind (fun q28 => some (2 * q28.1, q28.2)) else some (0, q2))))))))))))))))) := by
  rw [f_X0_give, if_pos (show nI e ≤ 16 from (le_nI (b := 16) (by omega) (by omega)).mpr he), nI_1]; rfl
theorem gv10 : Gv c nd no sb mb 10 1 nd [10] := by
  intro D t e m hQ hD ht he hm
  obtain ⟨m, rfl⟩ : ∃ m', m = m' + 1 := ⟨m - 1, by omega⟩
  have ht' : t + 1 ≤ 16 := ht
  obtain ⟨D1, e1, t1⟩ := leave_e (b := 10) hD (by omega)
  rw [gv_in (by omega), e1, Option.bind_some, if_pos rfl, gI_e, (hQ.tr t1).2.1]
  exact ⟨D1, rfl, t1⟩
theorem gv20 : Gv c nd no sb mb 20 1 c [20] := by
  intro D t e m hQ hD ht he hm
  obtain ⟨m, rfl⟩ : ∃ m', m = m' + 1 := ⟨m - 1, by omega⟩
  have ht' : t + 1 ≤ 16 := ht
  obtain ⟨D1, e1, t1⟩ := leave_e (b := 20) hD (by omega)
  rw [gv_in (by omega), e1, Option.bind_some]
  iterate 10 rw [if_neg (by decide)]
  rw [if_pos rfl, gI_e, (hQ.tr t1).1]
  exact ⟨D1, rfl, t1⟩
/-- one within another -/
theorem gv_one {b b' v : Int32} {k : Nat} {L : List Int32} (f : Int32 → Int32) (h : Gv c nd no sb mb b' k v L) (hb : ∀ D e m, e ≤ 16 → Qa D c nd no sb mb → f_X0_give (m + 1) b (nI e) D = (f_X0_leave b D).bind (fun q2 => (f_X0_give m b' (nI (e + 1)) q2).bind (fun q => some (f q.1, q.2)))) : Gv c nd no sb mb b (k + 1) (f v) (b :: L) := by
  intro D t e m hQ hD ht he hm
  obtain ⟨m, rfl⟩ : ∃ m', m = m' + 1 := ⟨m - 1, by omega⟩
  have ht' : t + (L.length + 1) ≤ 16 := ht
  obtain ⟨D1, e1, t1⟩ := leave_e (b := b) hD (by omega)
  obtain ⟨D2, e2, t2⟩ := h D1 (t + 1) (e + 1) m (hQ.tr t1) t1.1 (by omega) (by omega) (by omega)
  rw [hb D e m (by omega) hQ, e1, Option.bind_some, e2, Option.bind_some]
  exact ⟨D2, rfl, Tr.tr (by omega) t1 t2⟩
theorem gv_two {b b' b'' v w : Int32} {k k' : Nat} {L L' : List Int32} (f : Int32 → Int32 → Int32) (h : Gv c nd no sb mb b' k v L) (h' : Gv c nd no sb mb b'' k' w L') (hb : ∀ D e m, e ≤ 16 → f_X0_give (m + 1) b (nI e) D = (f_X0_leave b D).bind (fun q2 => (f_X0_give m b' (nI (e + 1)) q2).bind (fun q => (f_X0_give m (if b = 11 then gI q.2 334 6 else gI q.2 334 5) (nI (e + 1)) q.2).bind (fun q' => some (f q.1 q'.1, q'.2))))) (hm : b'' = if b = 11 then mb else sb) : Gv c nd no sb mb b (k + k' + 1) (f v w) (b :: (L ++ L')) := by
  intro D t e m hQ hD ht he hmm
  obtain ⟨m, rfl⟩ : ∃ m', m = m' + 1 := ⟨m - 1, by omega⟩
  have ht' : t + ((L ++ L').length + 1) ≤ 16 := ht
  rw [List.length_append] at ht'
  obtain ⟨D1, e1, t1⟩ := leave_e (b := b) hD (by omega)
  obtain ⟨D2, e2, t2⟩ := h D1 (t + 1) (e + 1) m (hQ.tr t1) t1.1 (by omega) (by omega) (by omega)
  have hQ2 := (hQ.tr t1).tr t2
  have eb : (if b = 11 then gI D2 334 6 else gI D2 334 5) = b'' := by
    rw [hm, gI_e, gI_e, hQ2.2.2.2.2, hQ2.2.2.2.1]
  obtain ⟨D3, e3, t3⟩ := h' D2 (t + 1 + L.length) (e + 1) m hQ2 t2.1 (by omega) (by omega) (by omega)
  rw [hb D e m (by omega), e1, Option.bind_some, e2, Option.bind_some]
  dsimp only
  rw [eb, e3, Option.bind_some]
  exact ⟨D3, rfl, Tr.tr (by omega) t1 (Tr.tr (by omega) t2 t3)⟩
theorem gv21 : Gv c nd no sb mb 21 2 (c + no) [21, 20] := by
  intro D t e m hQ hD ht he hm
  obtain ⟨m, rfl⟩ : ∃ m', m = m' + 1 := ⟨m - 1, by omega⟩
  have ht' : t + 2 ≤ 16 := ht
  obtain ⟨D1, e1, t1⟩ := leave_e (b := 21) hD (by omega)
  obtain ⟨D2, e2, t2⟩ := gv20 D1 (t + 1) (e + 1) m (hQ.tr t1) t1.1 (by simp; omega) (by omega) (by omega)
  rw [gv_in (by omega), e1, Option.bind_some]
  iterate 11 rw [if_neg (by decide)]
  rw [if_pos rfl, e2, Option.bind_some, gI_e, ((hQ.tr t1).tr t2).2.2.1]
  exact ⟨D2, rfl, Tr.tr (by omega) t1 t2⟩
theorem gv22 : Gv c nd no sb mb 22 3 (c + no - 1000) [22, 21, 20] := gv_one (fun x => x - 1000) gv21 (fun D e m he _ => by
  rw [gv_in he]
  congr 1)
theorem gv24 : Gv c nd no sb mb 24 3 (2 * (c + no)) [24, 21, 20] := gv_one (fun x => 2 * x) gv21 (fun D e m he _ => by
  rw [gv_in he]
  congr 1)
theorem gv13 : Gv c nd no sb mb 13 2 (nd - 100) [13, 10] := gv_one (fun x => x - 100) gv10 (fun D e m he _ => by
  rw [gv_in he]
  congr 1)
theorem gv14 : Gv c nd no sb mb 14 3 (2 * (nd - 100)) [14, 13, 10] := gv_one (fun x => 2 * x) gv13 (fun D e m he _ => by
  rw [gv_in he]
  congr 1)
theorem gv11 {k' : Nat} {w : Int32} {L' : List Int32} (h : Gv c nd no sb mb mb k' w L') : Gv c nd no sb mb 11 (1 + k' + 1) (nd + w) (11 :: ([10] ++ L')) := gv_two (fun x y => x + y) gv10 h (fun D e m he => by
  rw [gv_in he]
  congr 1) rfl
theorem gv12 {k' : Nat} {w : Int32} {L' : List Int32} (h : Gv c nd no sb mb mb k' w L') : Gv c nd no sb mb 12 (1 + k' + 1 + 1) (-(nd + w)) (12 :: 11 :: ([10] ++ L')) := gv_one (fun x => -x) (gv11 h) (fun D e m he _ => by
  rw [gv_in he]
  congr 1)
theorem gv23 {k' : Nat} {w : Int32} {L' : List Int32} (h : Gv c nd no sb mb sb k' w L') : Gv c nd no sb mb 23 (1 + k' + 1) (c - w) (23 :: ([20] ++ L')) := gv_two (fun x y => x - y) gv20 h (fun D e m he => by
  rw [gv_in he]
  congr 1) rfl
end GV
/-- the reference's -/
def Mv (r : Rho) (f : wd_D → Option (Int32 × wd_D)) (v : Int32) (L : List Int32) : Prop := ∀ E t, RepM E 0 r → E.1 370 12 = nI t → t + L.length ≤ 16 → ∃ E', f E = some (v, E') ∧ Tr 370 12 378 E E' t L ∧ RepM E' 0 r
theorem tr_rep {E E' : wd_D} {r : Rho} {t : Nat} {L : List Int32} (h : RepM E 0 r) (g : Tr 370 12 378 E E' t L) : RepM E' 0 r := h.at (fun j _ _ => g.2.2 371 j (by omega) (by omega))
section MV
variable {n c : Nat} {r : Rho}
theorem mv_beg {b v : Int32} {L : List Int32} {f g : wd_D → Option (Int32 × wd_D)} (h : Mv r g v L) (hf : ∀ E, f E = (f_X7_begins b E).bind g) : Mv r f v (b :: L) := by
  intro E t hE hD ht
  have ht' : t + (L.length + 1) ≤ 16 := ht
  obtain ⟨E1, e1, t1⟩ := begins_e (b := b) hD (by omega)
  obtain ⟨E2, e2, t2, r2⟩ := h E1 (t + 1) (tr_rep hE t1) t1.1 (by omega)
  exact ⟨E2, by rw [hf, e1, Option.bind_some, e2], Tr.tr (by omega) t1 t2, r2⟩
theorem mv_map {v : Int32} {L : List Int32} {f g : wd_D → Option (Int32 × wd_D)} (k : Int32 → Int32) (h : Mv r g v L) (hf : ∀ E, RepM E 0 r → f E = (g E).bind (fun q => some (k q.1, q.2))) : Mv r f (k v) L := by
  intro E t hE hD ht
  obtain ⟨E2, e2, t2, r2⟩ := h E t hE hD ht
  exact ⟨E2, by rw [hf E hE, e2, Option.bind_some], t2, r2⟩
theorem mv_nil {v : Int32} {f : wd_D → Option (Int32 × wd_D)} (hf : ∀ E, RepM E 0 r → f E = some (v, E)) : Mv r f v [] := by
  intro E t hE hD ht
  refine ⟨E, hf E hE, ⟨by rw [hD]; rfl, fun j hj => absurd hj (by simp), fun _ _ _ _ => rfl⟩, hE⟩
theorem mv_markLent : Mv r (f_X7_markLent (nI c)) (nI c) [20] := mv_beg (g := fun q => some (nI c, q)) (mv_nil (fun _ _ => rfl)) (fun _ => rfl)
theorem mv_markPlain (ok : Ok n r) (hc : c < 7) : Mv r (f_X7_markPlain (nI c)) (nI c + noS r c n) [21, 20] := by
  refine mv_beg (g := fun q1 => (f_X7_markLent (nI c) q1).bind (fun q2 => (f_X7_noiseAt 0 (nI c) q2.2).bind (fun x3 => some (q2.1 + x3, q2.2)))) ?_ (fun _ => rfl)
  intro E t hE hD ht
  obtain ⟨E2, e2, t2, r2⟩ := mv_markLent (c := c) E t hE hD ht
  refine ⟨E2, ?_, t2, r2⟩
  show (f_X7_markLent (nI c) E).bind _ = _
  rw [e2, Option.bind_some, m_noise0 r2 ok hc, Option.bind_some]
theorem mv_deep0 (hc : c < 7) : Mv r (f_X7_sizeDeep (nI c) 0) (r (1 + c) - 100) [13, 10] := by
  refine mv_beg (g := fun q3 => (f_X7_begins 10 q3).bind (fun q4 => (rd 252 q4 371 (1 + nI c)).bind (fun x5 => ap (x5 - 100) (fun x6 => (if (0 : Int32) = 0 then some (x6, q4) else some (2 * x6, q4)))))) ?_ (fun _ => rfl)
  refine mv_beg (g := fun q4 => (rd 252 q4 371 (1 + nI c)).bind (fun x5 => ap (x5 - 100) (fun x6 => (if (0 : Int32) = 0 then some (x6, q4) else some (2 * x6, q4))))) (mv_nil (fun E hE => ?_)) (fun _ => rfl)
  rw [hE.z1 hc, Option.bind_some, ap_e, i00]
theorem mv_deep1 (hc : c < 7) : Mv r (f_X7_sizeDeep (nI c) 1) (2 * (r (1 + c) - 100)) [14, 13, 10] := by
  refine mv_beg (g := fun q2 => f_X7_sizeDeep_L10 (nI c) 1 q2) ?_ (fun _ => rfl)
  refine mv_beg (g := fun q3 => (f_X7_begins 10 q3).bind (fun q4 => (rd 252 q4 371 (1 + nI c)).bind (fun x5 => ap (x5 - 100) (fun x6 => (if (1 : Int32) = 0 then some (x6, q4) else some (2 * x6, q4)))))) ?_ (fun _ => rfl)
  refine mv_beg (g := fun q4 => (rd 252 q4 371 (1 + nI c)).bind (fun x5 => ap (x5 - 100) (fun x6 => (if (1 : Int32) = 0 then some (x6, q4) else some (2 * x6, q4))))) (mv_nil (fun E hE => ?_)) (fun _ => rfl)
  rw [hE.z1 hc, Option.bind_some, ap_e, i10]
theorem mv_sub {w : Int32} {L : List Int32} {g : wd_D → Option (Int32 × wd_D)} (h : Mv r g w L) : Mv r (fun q10 => (f_X7_markLent (nI c) q10).bind (fun q11 => (g q11.2).bind (fun q13 => some (q11.1 - q13.1, q13.2)))) (nI c - w) (20 :: L) := by
  refine mv_beg (g := fun q => (g q).bind (fun q13 => some (nI c - q13.1, q13.2))) (mv_map (fun x => nI c - x) h (fun _ _ => rfl)) (fun E => ?_)
  unfold f_X7_markLent
  cases f_X7_begins 20 E <;> rfl
theorem bind_id (o : Option (Int32 × wd_D)) : o.bind (fun q => some (q.1, q.2)) = o := by cases o <;> rfl
def mkV (r : Rho) (n c a : Nat) : Int32 := if a = 1 then nI c + noS r c n else if a = 2 then 2 * (nI c + noS r c n) else if a = 3 then nI c + noS r c n - 1000 else if a = 4 then nI c - (r (1 + c) - 100) else nI c - 2 * (r (1 + c) - 100)
def mkL (a : Nat) : List Int32 := if a = 1 then [21, 20] else if a = 2 then [24, 21, 20] else if a = 3 then [22, 21, 20] else if a = 4 then [23, 20, 13, 10] else [23, 20, 14, 13, 10]
theorem mv_mark {a : Nat} (ok : Ok n r) (hc : c < 7) (h1 : 1 ≤ a) (h2 : a < 6) (hk : r (42 + c) = nI a) : Mv r (f_X7_mark (nI c)) (mkV r n c a) (mkL a) := by
  have hm : ∀ E, RepM E 0 r → rd 252 E 371 (42 + nI c) = some (nI a) := fun E hE => by rw [hE.z42 hc, hk]
  rcases (show a = 1 ∨ a = 2 ∨ a = 3 ∨ a = 4 ∨ a = 5 by omega) with rfl | rfl | rfl | rfl | rfl
  · exact mv_map (fun x => x) (mv_markPlain ok hc) (fun E hE => by
      unfold f_X7_mark
      rw [hm E hE, Option.bind_some, if_pos (show nI 1 = 1 from rfl)])
  · intro E t hE hD ht
    obtain ⟨E', e, q⟩ := mv_beg (b := 24) (f := fun E => (f_X7_begins 24 E).bind (fun q5 => (f_X7_markPlain (nI c) q5).bind (fun q6 => some (2 * q6.1, q6.2)))) (mv_map (fun x => 2 * x) (mv_markPlain ok hc) (fun _ _ => rfl)) (fun _ => rfl) E t hE hD ht
    refine ⟨E', ?_, q⟩
    unfold f_X7_mark
    rw [hm E hE, Option.bind_some, if_neg (show ¬ nI 2 = 1 by decide), if_pos (show nI 2 = 2 from rfl)]
    exact e
  · intro E t hE hD ht
    obtain ⟨E', e, q⟩ := mv_beg (b := 22) (f := fun E => (f_X7_begins 22 E).bind (fun q5 => (f_X7_markPlain (nI c) q5).bind (fun q6 => some (q6.1 - 1000, q6.2)))) (mv_map (fun x => x - 1000) (mv_markPlain ok hc) (fun _ _ => rfl)) (fun _ => rfl) E t hE hD ht
    refine ⟨E', ?_, q⟩
    unfold f_X7_mark
    rw [hm E hE, Option.bind_some, if_neg (show ¬ nI 3 = 1 by decide), if_neg (show ¬ nI 3 = 2 by decide), if_pos (show nI 3 = 3 from rfl)]
    exact e
  · intro E t hE hD ht
    obtain ⟨E', e, q⟩ := mv_beg (b := 23) (f := fun E => (f_X7_begins 23 E).bind (fun q10 => (f_X7_markLent (nI c) q10).bind (fun q11 => (f_X7_sizeDeep (nI c) 0 q11.2).bind (fun q13 => some (q11.1 - q13.1, q13.2))))) (mv_sub (mv_deep0 hc)) (fun _ => rfl) E t hE hD ht
    refine ⟨E', ?_, q⟩
    unfold f_X7_mark f_X7_mark_L95
    rw [hm E hE, Option.bind_some, if_neg (show ¬ nI 4 = 1 by decide), if_neg (show ¬ nI 4 = 2 by decide), if_neg (show ¬ nI 4 = 3 by decide)]
    simp only [if_neg (show ¬ nI 4 = 5 by decide)]
    exact e
  · intro E t hE hD ht
    obtain ⟨E', e, q⟩ := mv_beg (b := 23) (f := fun E => (f_X7_begins 23 E).bind (fun q10 => (f_X7_markLent (nI c) q10).bind (fun q11 => (f_X7_sizeDeep (nI c) 1 q11.2).bind (fun q13 => some (q11.1 - q13.1, q13.2))))) (mv_sub (mv_deep1 hc)) (fun _ => rfl) E t hE hD ht
    refine ⟨E', ?_, q⟩
    unfold f_X7_mark f_X7_mark_L95
    rw [hm E hE, Option.bind_some, if_neg (show ¬ nI 5 = 1 by decide), if_neg (show ¬ nI 5 = 2 by decide), if_neg (show ¬ nI 5 = 3 by decide)]
    simp only [if_pos (show nI 5 = 5 from rfl)]
    exact e
theorem mv_sizePlain {a : Nat} (ok : Ok n r) (hc : c < 7) (h1 : 1 ≤ a) (h2 : a < 6) (hk : r (42 + c) = nI a) : Mv r (f_X7_sizePlain (nI c)) (r (1 + c) + mkV r n c a) (11 :: 10 :: mkL a) := by
  refine mv_beg (g := fun q1 => (f_X7_begins 10 q1).bind (fun q2 => (rd 252 q2 371 (1 + nI c)).bind (fun x3 => (f_X7_mark (nI c) q2).bind (fun q4 => some (x3 + q4.1, q4.2))))) ?_ (fun _ => rfl)
  refine mv_beg (g := fun q2 => (rd 252 q2 371 (1 + nI c)).bind (fun x3 => (f_X7_mark (nI c) q2).bind (fun q4 => some (x3 + q4.1, q4.2)))) ?_ (fun _ => rfl)
  exact mv_map (fun x => r (1 + c) + x) (mv_mark ok hc h1 h2 hk) (fun E hE => by rw [hE.z1 hc, Option.bind_some])
def szV (r : Rho) (n c a : Nat) : Int32 := if a = 2 then -(r (1 + c) + mkV r n c a) else if a = 4 then r (1 + c) - 100 else if a = 5 then 2 * (r (1 + c) - 100) else r (1 + c) + mkV r n c a
def szL (a : Nat) : List Int32 := if a = 2 then 12 :: 11 :: 10 :: mkL a else if a = 4 then [13, 10] else if a = 5 then [14, 13, 10] else 11 :: 10 :: mkL a
theorem mv_size {a : Nat} (ok : Ok n r) (hc : c < 7) (h1 : 1 ≤ a) (h2 : a < 6) (hk : r (42 + c) = nI a) : Mv r (f_X7_size (nI c)) (szV r n c a) (szL a) := by
  have hm : ∀ E, RepM E 0 r → rd 252 E 371 (42 + nI c) = some (nI a) := fun E hE => by rw [hE.z42 hc, hk]
  rcases (show a = 1 ∨ a = 2 ∨ a = 3 ∨ a = 4 ∨ a = 5 by omega) with rfl | rfl | rfl | rfl | rfl
  · exact mv_map (fun x => x) (mv_sizePlain ok hc h1 h2 hk) (fun E hE => by
      unfold f_X7_size
      rw [hm E hE, Option.bind_some, if_pos (show nI 1 = 1 from rfl)])
  · intro E t hE hD ht
    obtain ⟨E', e, q⟩ := mv_beg (b := 12) (f := fun E => (f_X7_begins 12 E).bind (fun q5 => (f_X7_sizePlain (nI c) q5).bind (fun q6 => some (-q6.1, q6.2)))) (mv_map (fun x => -x) (mv_sizePlain ok hc h1 h2 hk) (fun _ _ => rfl)) (fun _ => rfl) E t hE hD ht
    refine ⟨E', ?_, q⟩
    unfold f_X7_size
    rw [hm E hE, Option.bind_some, if_neg (show ¬ nI 2 = 1 by decide), if_pos (show nI 2 = 2 from rfl)]
    exact e
  · exact mv_map (fun x => x) (mv_sizePlain ok hc h1 h2 hk) (fun E hE => by
      unfold f_X7_size
      rw [hm E hE, Option.bind_some, if_neg (show ¬ nI 3 = 1 by decide), if_neg (show ¬ nI 3 = 2 by decide), if_pos (show nI 3 = 3 from rfl)])
  · exact mv_map (fun x => x) (mv_deep0 hc) (fun E hE => by
      unfold f_X7_size f_X7_size_L67
      rw [hm E hE, Option.bind_some, if_neg (show ¬ nI 4 = 1 by decide), if_neg (show ¬ nI 4 = 2 by decide), if_neg (show ¬ nI 4 = 3 by decide), if_neg (show ¬ nI 4 = 5 by decide)])
  · exact mv_map (fun x => x) (mv_deep1 hc) (fun E hE => by
      unfold f_X7_size f_X7_size_L67
      rw [hm E hE, Option.bind_some, if_neg (show ¬ nI 5 = 1 by decide), if_neg (show ¬ nI 5 = 2 by decide), if_neg (show ¬ nI 5 = 3 by decide), if_pos (show nI 5 = 5 from rfl)])
end MV
