/-! a minute of the class's room -/
theorem RepC.cong {D : wd_D} {q n : Nat} {r s : Rho} (h : RepC D q n r) (e : ∀ j, j < 63 → r j = s j) : RepC D q n s := fun j hj ha => (h j hj ha).trans (e j hj)
theorem RepM.cong {D : wd_D} {b : Nat} {r s : Rho} (h : RepM D b r) (e : ∀ j, j < 63 → r j = s j) : RepM D b s := fun j hj => (h j hj).trans (e j hj)
theorem upd_s {f : Rho} {k : Nat} {x : Int32} : upd f k x k = x := by simp [upd]
theorem upd_n {f : Rho} {k j : Nat} {x : Int32} (h : j ≠ k) : upd f k x j = f j := by simp [upd, h]
theorem put3_out {r : Rho} {k j : Nat} {v : Int32 × Int32 × Int32} (h1 : j ≠ 8 + k) (h2 : j ≠ 15 + k) (h3 : j ≠ 22 + k) : put3 r k v j = r j := by
  unfold put3; rw [upd_n h3, upd_n h2, upd_n h1]
theorem put3_1 {r : Rho} {k : Nat} {v : Int32 × Int32 × Int32} : put3 r k v (8 + k) = v.1 := by
  unfold put3; rw [upd_n (by omega), upd_n (by omega), upd_s]
theorem put3_2 {r : Rho} {k : Nat} {v : Int32 × Int32 × Int32} : put3 r k v (15 + k) = v.2.1 := by
  unfold put3; rw [upd_n (by omega), upd_s]
theorem put3_3 {r : Rho} {k : Nat} {v : Int32 × Int32 × Int32} : put3 r k v (22 + k) = v.2.2 := by
  unfold put3; rw [upd_s]
/-- a room is another with one child's three numbers put: by its four kinds of places -/
theorem put3_ext {r s : Rho} {k : Nat} {v : Int32 × Int32 × Int32} (h1 : s (8 + k) = v.1) (h2 : s (15 + k) = v.2.1) (h3 : s (22 + k) = v.2.2) (h : ∀ j, j ≠ 8 + k → j ≠ 15 + k → j ≠ 22 + k → s j = r j) : ∀ j, s j = put3 r k v j := by
  intro j
  by_cases e1 : j = 8 + k
  · subst e1; rw [put3_1, h1]
  · by_cases e2 : j = 15 + k
    · subst e2; rw [put3_2, h2]
    · by_cases e3 : j = 22 + k
      · subst e3; rw [put3_3, h3]
      · rw [put3_out e1 e2 e3, h j e1 e2 e3]
section CP
variable {D : wd_D} {q n : Nat} {r : Rho}
theorem c_lie (h : RepC D q n r) {c : Nat} (hc : c < 7) : ∃ D', f_X3_lieDown q (nI c) D = some D' ∧ RepC D' q n (put3 r c (0, 0, 0)) ∧ Fr q D D' := by
  unfold f_X3_lieDown
  rw [wr_nI D (q + 6) 0 hc, Option.bind_some, wr_nI _ (q + 7) 0 hc, Option.bind_some, wr_nI _ (q + 8) 0 hc, Option.bind_some]
  exact ⟨_, rfl, ((h.u8 hc 0).u15 hc 0).u22 hc 0, (Fr.s (by decide)).tr ((Fr.s (by decide)).tr (Fr.s (by decide)))⟩
theorem c_cry (h : RepC D q n r) {c : Nat} (hc : c < 7) : ∃ D', f_X3_cry q (nI c) D = some D' ∧ RepC D' q n (put3 r c (1, r 40, 0)) ∧ Fr q D D' := by
  unfold f_X3_cry
  rw [wr_nI D (q + 6) 1 hc, Option.bind_some, (h.u8 hc 1).f40, upd_n (by omega), wr_nI _ (q + 7) _ hc, Option.bind_some, wr_nI _ (q + 8) 0 hc, Option.bind_some]
  exact ⟨_, rfl, ((h.u8 hc 1).u15 hc (r 40)).u22 hc 0, (Fr.s (by decide)).tr ((Fr.s (by decide)).tr (Fr.s (by decide)))⟩
theorem c_wake (h : RepC D q n r) (hn : n ≤ 7) {c : Nat} (hc : c < n) : ∃ D', f_X3_wake q (nI c) D = some D' ∧ RepC D' q n (put3 r c (if r (42 + c) = 5 then (0, 0, 0) else (1, r 40, 0))) ∧ Fr q D D' := by
  unfold f_X3_wake
  rw [h.r42 hn hc, Option.bind_some]
  by_cases h5 : r (42 + c) = 5
  · rw [if_pos h5, if_pos h5]
    obtain ⟨D', e, a, b⟩ := c_lie h (c := c) (by omega)
    exact ⟨D', by rw [e]; rfl, a, b⟩
  · rw [if_neg h5, if_neg h5]
    obtain ⟨D', e, a, b⟩ := c_cry h (c := c) (by omega)
    exact ⟨D', by rw [e]; rfl, a, b⟩
theorem c_calm (h : RepC D q n r) (hn : n ≤ 7) {c : Nat} (hc : c < n) (h1 : r (8 + c) = 1) : ∃ D', f_X3_calmDown q (nI c) D = some D' ∧ RepC D' q n (put3 r c (stepS r n c)) ∧ Fr q D D' := by
  have key : ∀ z : Int32, z = (if hb (r 37) c ∧ hb (r 36) c = false then 2 else 1) → ∃ D', f_X3_calmDown_L34 q (nI c) z (r (15 + c)) (nI c) D = some D' ∧ RepC D' q n (put3 r c (stepS r n c)) ∧ Fr q D D' := by
    intro z hz
    have hs : stepS r n c = if 0 < r (15 + c) - z then (1, r (15 + c) - z, r (22 + c)) else (0, 0, 0) := by
      unfold stepS; rw [if_pos h1, ← hz]
    unfold f_X3_calmDown_L34
    have g := h.u15 (c := c) (by omega) (r (15 + c) - z)
    rw [wr_nI D (q + 7) _ (show c < 7 by omega), Option.bind_some, g.r15 hn hc, Option.bind_some, upd_s]
    by_cases hp : 0 < r (15 + c) - z
    · rw [if_pos hp, hs, if_pos hp]
      refine ⟨_, rfl, g.cong (fun j _ => put3_ext ?_ ?_ ?_ ?_ j), Fr.s (by decide)⟩
      · rw [upd_n (by omega), h1]
      · rw [upd_s]
      · rw [upd_n (by omega)]
      · intro j e1 e2 e3; rw [upd_n e2]
    · rw [if_neg hp, hs, if_neg hp]
      obtain ⟨D', e, a, b⟩ := c_lie g (c := c) (by omega)
      refine ⟨D', by rw [e]; rfl, a.cong (fun j _ => put3_ext ?_ ?_ ?_ ?_ j), (Fr.s (by decide)).tr b⟩
      · rw [put3_1]
      · rw [put3_2]
      · rw [put3_3]
      · intro j e1 e2 e3; rw [put3_out e1 e2 e3, upd_n e2]
  unfold f_X3_calmDown
  rw [h.r15 hn hc, Option.bind_some, h.f37, h.f36, hb_has (by omega), hb_has (by omega)]
  cases h37 : hb (r 37) c with
  | false =>
    rw [if_pos (by simp)]
    exact key 1 (by simp [h37])
  | true =>
    rw [if_neg (by simp)]
    cases h36 : hb (r 36) c with
    | false =>
      rw [if_pos (by simp)]
      exact key 2 (by simp [h37, h36])
    | true =>
      rw [if_neg (by simp)]
      exact key 1 (by simp [h37, h36])
theorem c_gain (h : RepC D q n r) (hn : n ≤ 7) {c : Nat} (hc : c < n) : f_X3_calmGained q (nI c) D = some (if hb (r 37) c then 2 else if r (42 + c) = 3 then 0 else 1) := by
  unfold f_X3_calmGained
  rw [h.f37, hb_has (by omega), h.r42 hn hc, Option.bind_some]
  cases hb (r 37) c
  · simp; split <;> rfl
  · simp
/-- one who doesn't cry, in the room: how he listens; s is the room so far, r the room ahead of the minute -/
theorem c_listen {s : Rho} (h : RepC D q n s) (hn : n ≤ 7) {c : Nat} (hc : c < n) (hs : Like n s r) (e1 : s (8 + c) = r (8 + c)) (e2 : s (15 + c) = r (15 + c)) (e3 : s (22 + c) = r (22 + c)) (h1 : ¬ r (8 + c) = 1) (h36 : hb (r 36) c = false) {z : Int32} (hz : z = if loudS r n c then 1 else 0) :
    ∃ b D', f_X3_listen q (nI c) z D = some (b, D') ∧ RepC D' q n (put3 s c (stepS r n c)) ∧ Fr q D D' ∧ (b = 0 ∨ b = 1) ∧ (b = 0 → stepS r n c = (r (8 + c), r (15 + c), r (22 + c))) := by
  have hst : stepS r n c = if r (8 + c) = 2 then (if loudS r n c then (if r (42 + c) = 5 then (0, 0, 0) else (1, r 40, 0)) else (r (8 + c), r (15 + c), r (22 + c))) else
    (if (if loudS r n c then 0 else r (22 + c) + (if hb (r 37) c then 2 else if r (42 + c) = 3 then 0 else 1)) < r (1 + c) then r (8 + c) else 2, r (15 + c), if loudS r n c then 0 else r (22 + c) + (if hb (r 37) c then 2 else if r (42 + c) = 3 then 0 else 1)) := by
    unfold stepS; rw [if_neg h1, if_neg (by simp [h36])]
  have same : ∀ v : Int32 × Int32 × Int32, v = (r (8 + c), r (15 + c), r (22 + c)) → RepC D q n (put3 s c v) := by
    intro v hv
    refine h.cong (fun j _ => put3_ext ?_ ?_ ?_ (fun _ _ _ _ => rfl) j)
    · rw [hv, e1]
    · rw [hv, e2]
    · rw [hv, e3]
  unfold f_X3_listen
  rw [h.r8 hn hc, Option.bind_some, e1]
  by_cases h2 : r (8 + c) = 2
  · rw [if_pos h2]
    rw [if_pos h2] at hst
    cases hl : loudS r n c with
    | false =>
      rw [hl] at hz hst
      subst hz
      refine ⟨0, D, rfl, ?_, Fr.rf, Or.inl rfl, fun _ => hst⟩
      rw [hst]; exact same _ rfl
    | true =>
      rw [hl] at hz hst
      subst hz
      obtain ⟨D', e, a, b⟩ := c_wake h hn hc
      refine ⟨1, D', ?_, ?_, b, Or.inr rfl, fun z => absurd z (by decide)⟩
      · simp only [if_true]
        rw [if_neg (by decide), e]; rfl
      · rw [hst, if_pos rfl, ← hs (42 + c) (by omega), ← hs 40 (by omega)]; exact a
  · rw [if_neg h2]
    rw [if_neg h2] at hst
    have key : ∀ w : Int32, w = (if loudS r n c then 0 else r (22 + c) + (if hb (r 37) c then 2 else if r (42 + c) = 3 then 0 else 1)) → ∃ b D', f_X3_listen_L48 q (nI c) z (r (22 + c)) w (nI c) D = some (b, D') ∧ RepC D' q n (put3 s c (stepS r n c)) ∧ Fr q D D' ∧ (b = 0 ∨ b = 1) ∧ (b = 0 → stepS r n c = (r (8 + c), r (15 + c), r (22 + c))) := by
      intro w hw
      rw [← hw] at hst
      have g := h.u22 (c := c) (by omega) w
      unfold f_X3_listen_L48
      rw [wr_nI D (q + 8) _ (show c < 7 by omega), Option.bind_some, g.r22 hn hc, Option.bind_some, g.r1 hn hc, Option.bind_some, upd_s, upd_n (by omega), hs (1 + c) (by omega)]
      by_cases hlt : w < r (1 + c)
      · rw [if_pos hlt] at hst
        rw [if_pos hlt, hst]
        have G : RepC (sI D (q + 8) c w) q n (put3 s c (r (8 + c), r (15 + c), w)) := by
          refine g.cong (fun j _ => put3_ext ?_ ?_ ?_ ?_ j)
          · rw [upd_n (by omega), e1]
          · rw [upd_n (by omega), e2]
          · rw [upd_s]
          · intro j a1 a2 a3; rw [upd_n a3]
        unfold f_X3_listen_L71
        rw [g.r8 hn hc, Option.bind_some, upd_n (by omega), e1, if_neg h2, g.r22 hn hc, Option.bind_some, upd_s]
        by_cases hww : w = r (22 + c)
        · rw [if_pos hww]
          exact ⟨0, _, rfl, G, Fr.s (by decide), Or.inl rfl, fun _ => by rw [hww]⟩
        · rw [if_neg hww]
          exact ⟨1, _, rfl, G, Fr.s (by decide), Or.inr rfl, fun z => absurd z (by decide)⟩
      · rw [if_neg hlt] at hst
        rw [if_neg hlt, hst, wr_nI _ (q + 6) _ (show c < 7 by omega), Option.bind_some]
        have g2 := g.u8 (c := c) (by omega) 2
        unfold f_X3_listen_L71
        rw [g2.r8 hn hc, Option.bind_some, upd_s, if_pos rfl]
        refine ⟨1, _, rfl, ?_, (Fr.s (by decide)).tr (Fr.s (by decide)), Or.inr rfl, fun z => absurd z (by decide)⟩
        refine g2.cong (fun j _ => put3_ext ?_ ?_ ?_ ?_ j)
        · rw [upd_s]
        · rw [upd_n (by omega), upd_n (by omega), e2]
        · rw [upd_n (by omega), upd_s]
        · intro j a1 a2 a3; rw [upd_n a1, upd_n a3]
    rw [h.r22 hn hc, Option.bind_some, e3]
    cases hl : loudS r n c with
    | false =>
      rw [hl] at hz
      subst hz
      rw [if_pos (by simp), c_gain h hn hc, Option.bind_some, hs 37 (by omega), hs (42 + c) (by omega)]
      exact key _ (by rw [hl]; simp)
    | true =>
      rw [hl] at hz
      subst hz
      rw [if_neg (by simp)]
      exact key _ (by rw [hl]; simp)
end CP
