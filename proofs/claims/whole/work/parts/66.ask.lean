/-! ask -/
def Tr (q s a : Nat) (D D' : wd_D) (t : Nat) (L : List Int32) : Prop := D'.1 q s = nI (t + L.length) ∧ (∀ j, j < L.length → D'.1 a (t + j) = L.getD j 0) ∧ ∀ k j, ¬ (k = q ∧ j = s) → ¬ (k = a ∧ t ≤ j ∧ j < t + L.length) → D'.1 k j = D.1 k j
theorem Tr.tr {q s a : Nat} {D D1 D2 : wd_D} {t : Nat} {L1 L2 : List Int32} (ha : a ≠ q) (h : Tr q s a D D1 t L1) (g : Tr q s a D1 D2 (t + L1.length) L2) : Tr q s a D D2 t (L1 ++ L2) := by
  refine ⟨?_, fun j hj => ?_, fun k j h1 h2 => ?_⟩
  · rw [g.1, List.length_append, Nat.add_assoc]
  · rw [List.length_append] at hj
    by_cases hc : j < L1.length
    · rw [g.2.2 _ _ (by omega) (by omega), h.2.1 j hc, List.getD_eq_getElem?_getD, List.getD_eq_getElem?_getD, List.getElem?_append_left hc]
    · have := g.2.1 (j - L1.length) (by omega)
      rw [show t + L1.length + (j - L1.length) = t + j by omega] at this
      rw [this, List.getD_eq_getElem?_getD, List.getD_eq_getElem?_getD, List.getElem?_append_right (by omega)]
  · rw [List.length_append] at h2
    rw [g.2.2 k j h1 (by omega), h.2.2 k j h1 (by omega)]
theorem leave_e {D : wd_D} {t : Nat} {b : Int32} (h : D.1 334 1 = nI t) (ht : t < 16) : ∃ D', f_X0_leave b D = some D' ∧ Tr 334 1 335 D D' t [b] := by
  unfold f_X0_leave
  rw [gI_e, h, if_neg (fun z => by have := (le_nI (a := 16) (by omega) (by omega)).mp z; omega), wr_nI D 335 b ht, Option.bind_some, ap_e, gI_e, sI_ne (show ¬ (334 = 335 ∧ 1 = t) by omega), h, nI_1]
  refine ⟨_, rfl, sI_eq, fun j hj => ?_, fun k j h1 h2 => ?_⟩
  · have : j = 0 := by simpa using hj
    subst this
    rw [sI_ne (by omega), Nat.add_zero, sI_eq]; rfl
  · have : ([b] : List Int32).length = 1 := rfl
    rw [sI_ne h1, sI_ne (by omega)]
theorem begins_e {D : wd_D} {t : Nat} {b : Int32} (h : D.1 370 12 = nI t) (ht : t < 16) : ∃ D', f_X7_begins b D = some D' ∧ Tr 370 12 378 D D' t [b] := by
  unfold f_X7_begins
  rw [gI_e, h, if_neg (fun z => by have := (le_nI (a := 16) (by omega) (by omega)).mp z; omega), wr_nI D 378 b ht, Option.bind_some, ap_e, gI_e, sI_ne (show ¬ (370 = 378 ∧ 12 = t) by omega), h, nI_1]
  refine ⟨_, rfl, sI_eq, fun j hj => ?_, fun k j h1 h2 => ?_⟩
  · have : j = 0 := by simpa using hj
    subst this
    rw [sI_ne (by omega), Nat.add_zero, sI_eq]; rfl
  · have : ([b] : List Int32).length = 1 := rfl
    rw [sI_ne h1, sI_ne (by omega)]
def Qa (D : wd_D) (c nd no sb mb : Int32) : Prop := D.1 334 2 = c ∧ D.1 334 3 = nd ∧ D.1 334 4 = no ∧ D.1 334 5 = sb ∧ D.1 334 6 = mb
theorem Qa.tr {D D' : wd_D} {c nd no sb mb : Int32} {t : Nat} {L : List Int32} (h : Qa D c nd no sb mb) (g : Tr 334 1 335 D D' t L) : Qa D' c nd no sb mb :=
  ⟨by rw [g.2.2 _ _ (by omega) (by omega)]; exact h.1, by rw [g.2.2 _ _ (by omega) (by omega)]; exact h.2.1, by rw [g.2.2 _ _ (by omega) (by omega)]; exact h.2.2.1, by rw [g.2.2 _ _ (by omega) (by omega)]; exact h.2.2.2.1, by rw [g.2.2 _ _ (by omega) (by omega)]; exact h.2.2.2.2⟩
/-- what a body gives, and what it leaves -/
def Gv (c nd no sb mb : Int32) (b : Int32) (k : Nat) (v : Int32) (L : List Int32) : Prop := ∀ D t e m, Qa D c nd no sb mb → D.1 334 1 = nI t → t + L.length ≤ 16 → e + k ≤ 16 → k ≤ m → ∃ D', f_X0_give m b (nI e) D = some (v, D') ∧ Tr 334 1 335 D D' t L
section GV
variable {c nd no sb mb : Int32}
theorem gv_in {D : wd_D} {e m : Nat} {b : Int32} (he : e ≤ 16) : f_X0_give (m + 1) b (nI e) D = (f_X0_leave b D).bind (fun q2 => (if b = 10 then some (gI q2 334 3, q2) else (if b = 11 then (f_X0_give m 10 (nI (e + 1)) q2).bind (fun q6 => (f_X0_give m (gI q6.2 334 6) (nI (e + 1)) q6.2).bind (fun q7 => some (q6.1 + q7.1, q7.2))) else (if b = 12 then (f_X0_give m 11 (nI (e + 1)) q2).bind (fun q9 => some (-q9.1, q9.2)) else (if b = 13 then (f_X0_give m 10 (nI (e + 1)) q2).bind (fun q11 => some (q11.1 - 100, q11.2)) else (if b = 14 then (f_X0_give m 13 (nI (e + 1)) q2).bind (fun q13 => some (2 * q13.1, q13.2)) else (if b = 15 then some (0, q2) else (if b = 16 then some (0, q2) else (if b = 17 then some (0, q2) else (if b = 18 then some (0, q2) else (if b = 19 then some (0, q2) else (if b = 20 then some (gI q2 334 2, q2) else (if b = 21 then (f_X0_give m 20 (nI (e + 1)) q2).bind (fun q21 => some (q21.1 + (gI q21.2 334 4), q21.2)) else (if b = 22 then (f_X0_give m 21 (nI (e + 1)) q2).bind (fun q23 => some (q23.1 - 1000, q23.2)) else (if b = 23 then (f_X0_give m 20 (nI (e + 1)) q2).bind (fun q25 => (f_X0_give m (gI q25.2 334 5) (nI (e + 1)) q25.2).bind (fun q26 => some (q25.1 - q26.1, q26.2))) else (if b = 24 then (f_X0_give m 21 (nI (e + 1)) q2).bind (fun q28 => some (2 * q28.1, q28.2)) else some (0, q2))))))))))))))))) := by
  rw [f_X0_give, if_pos (show nI e ≤ 16 from (le_nI (b := 16) (by omega) (by omega)).mpr he), nI_1]; rfl
theorem gv10 : Gv c nd no sb mb 10 1 nd [10] := by
  intro D t e m hQ hD ht he hm
  obtain ⟨m, rfl⟩ : ∃ m', m = m' + 1 := ⟨m - 1, by omega⟩
  have ht' : t + 1 ≤ 16 := ht
  obtain ⟨D1, e1, t1⟩ := leave_e (b := 10) hD (by omega)
  rw [gv_in (by omega), e1, Option.bind_some, if_pos rfl, gI_e, (hQ.tr t1).2.1]
  exact ⟨D1, rfl, t1⟩
theorem gv20 : Gv c nd no sb mb 20 1 c [20] := by
  intro D t e m hQ hD ht he hm
  obtain ⟨m, rfl⟩ : ∃ m', m = m' + 1 := ⟨m - 1, by omega⟩
  have ht' : t + 1 ≤ 16 := ht
  obtain ⟨D1, e1, t1⟩ := leave_e (b := 20) hD (by omega)
  rw [gv_in (by omega), e1, Option.bind_some]
  iterate 10 rw [if_neg (by decide)]
  rw [if_pos rfl, gI_e, (hQ.tr t1).1]
  exact ⟨D1, rfl, t1⟩
/-- one within another -/
theorem gv_one {b b' v : Int32} {k : Nat} {L : List Int32} (f : Int32 → Int32) (h : Gv c nd no sb mb b' k v L) (hb : ∀ D e m, e ≤ 16 → Qa D c nd no sb mb → f_X0_give (m + 1) b (nI e) D = (f_X0_leave b D).bind (fun q2 => (f_X0_give m b' (nI (e + 1)) q2).bind (fun q => some (f q.1, q.2)))) : Gv c nd no sb mb b (k + 1) (f v) (b :: L) := by
  intro D t e m hQ hD ht he hm
  obtain ⟨m, rfl⟩ : ∃ m', m = m' + 1 := ⟨m - 1, by omega⟩
  have ht' : t + (L.length + 1) ≤ 16 := ht
  obtain ⟨D1, e1, t1⟩ := leave_e (b := b) hD (by omega)
  obtain ⟨D2, e2, t2⟩ := h D1 (t + 1) (e + 1) m (hQ.tr t1) t1.1 (by omega) (by omega) (by omega)
  rw [hb D e m (by omega) hQ, e1, Option.bind_some, e2, Option.bind_some]
  exact ⟨D2, rfl, Tr.tr (by omega) t1 t2⟩
theorem gv_two {b b' b'' v w : Int32} {k k' : Nat} {L L' : List Int32} (f : Int32 → Int32 → Int32) (h : Gv c nd no sb mb b' k v L) (h' : Gv c nd no sb mb b'' k' w L') (hb : ∀ D e m, e ≤ 16 → f_X0_give (m + 1) b (nI e) D = (f_X0_leave b D).bind (fun q2 => (f_X0_give m b' (nI (e + 1)) q2).bind (fun q => (f_X0_give m (if b = 11 then gI q.2 334 6 else gI q.2 334 5) (nI (e + 1)) q.2).bind (fun q' => some (f q.1 q'.1, q'.2))))) (hm : b'' = if b = 11 then mb else sb) : Gv c nd no sb mb b (k + k' + 1) (f v w) (b :: (L ++ L')) := by
  intro D t e m hQ hD ht he hmm
  obtain ⟨m, rfl⟩ : ∃ m', m = m' + 1 := ⟨m - 1, by omega⟩
  have ht' : t + ((L ++ L').length + 1) ≤ 16 := ht
  rw [List.length_append] at ht'
  obtain ⟨D1, e1, t1⟩ := leave_e (b := b) hD (by omega)
  obtain ⟨D2, e2, t2⟩ := h D1 (t + 1) (e + 1) m (hQ.tr t1) t1.1 (by omega) (by omega) (by omega)
  have hQ2 := (hQ.tr t1).tr t2
  have eb : (if b = 11 then gI D2 334 6 else gI D2 334 5) = b'' := by
    rw [hm, gI_e, gI_e, hQ2.2.2.2.2, hQ2.2.2.2.1]
  obtain ⟨D3, e3, t3⟩ := h' D2 (t + 1 + L.length) (e + 1) m hQ2 t2.1 (by omega) (by omega) (by omega)
  rw [hb D e m (by omega), e1, Option.bind_some, e2, Option.bind_some]
  dsimp only
  rw [eb, e3, Option.bind_some]
  exact ⟨D3, rfl, Tr.tr (by omega) t1 (Tr.tr (by omega) t2 t3)⟩
theorem gv21 : Gv c nd no sb mb 21 2 (c + no) [21, 20] := by
  intro D t e m hQ hD ht he hm
  obtain ⟨m, rfl⟩ : ∃ m', m = m' + 1 := ⟨m - 1, by omega⟩
  have ht' : t + 2 ≤ 16 := ht
  obtain ⟨D1, e1, t1⟩ := leave_e (b := 21) hD (by omega)
  obtain ⟨D2, e2, t2⟩ := gv20 D1 (t + 1) (e + 1) m (hQ.tr t1) t1.1 (by simp; omega) (by omega) (by omega)
  rw [gv_in (by omega), e1, Option.bind_some]
  iterate 11 rw [if_neg (by decide)]
  rw [if_pos rfl, e2, Option.bind_some, gI_e, ((hQ.tr t1).tr t2).2.2.1]
  exact ⟨D2, rfl, Tr.tr (by omega) t1 t2⟩
theorem gv22 : Gv c nd no sb mb 22 3 (c + no - 1000) [22, 21, 20] := gv_one (fun x => x - 1000) gv21 (fun D e m he _ => by
  rw [gv_in he]
  congr 1; funext q2
  iterate 12 rw [if_neg (by decide)]
  rw [if_pos rfl])
theorem gv24 : Gv c nd no sb mb 24 3 (2 * (c + no)) [24, 21, 20] := gv_one (fun x => 2 * x) gv21 (fun D e m he _ => by
  rw [gv_in he]
  congr 1; funext q2
  iterate 14 rw [if_neg (by decide)]
  rw [if_pos rfl])
theorem gv13 : Gv c nd no sb mb 13 2 (nd - 100) [13, 10] := gv_one (fun x => x - 100) gv10 (fun D e m he _ => by
  rw [gv_in he]
  congr 1; funext q2
  iterate 3 rw [if_neg (by decide)]
  rw [if_pos rfl])
theorem gv14 : Gv c nd no sb mb 14 3 (2 * (nd - 100)) [14, 13, 10] := gv_one (fun x => 2 * x) gv13 (fun D e m he _ => by
  rw [gv_in he]
  congr 1; funext q2
  iterate 4 rw [if_neg (by decide)]
  rw [if_pos rfl])
theorem gv11 {k' : Nat} {w : Int32} {L' : List Int32} (h : Gv c nd no sb mb mb k' w L') : Gv c nd no sb mb 11 (1 + k' + 1) (nd + w) (11 :: ([10] ++ L')) := gv_two (fun x y => x + y) gv10 h (fun D e m he => by
  rw [gv_in he]
  congr 1; funext q2
  rw [if_neg (by decide), if_pos rfl]; rfl) rfl
theorem gv12 {k' : Nat} {w : Int32} {L' : List Int32} (h : Gv c nd no sb mb mb k' w L') : Gv c nd no sb mb 12 (1 + k' + 1 + 1) (-(nd + w)) (12 :: 11 :: ([10] ++ L')) := gv_one (fun x => -x) (gv11 h) (fun D e m he _ => by
  rw [gv_in he]
  congr 1; funext q2
  iterate 2 rw [if_neg (by decide)]
  rw [if_pos rfl])
theorem gv23 {k' : Nat} {w : Int32} {L' : List Int32} (h : Gv c nd no sb mb sb k' w L') : Gv c nd no sb mb 23 (1 + k' + 1) (c - w) (23 :: ([20] ++ L')) := gv_two (fun x y => x - y) gv20 h (fun D e m he => by
  rw [gv_in he]
  congr 1; funext q2
  iterate 13 rw [if_neg (by decide)]
  rw [if_pos rfl]; rfl) rfl
end GV
