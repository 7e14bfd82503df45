/-! WHAT HOLDS BETWEEN THE CALLS -/
def PTape (D : wd_D) : Prop := ∃ n, n ≤ 120 ∧ D.1 2 1 = nI n ∧ D.1 370 9 = nI n ∧ ∀ j, j < n → D.1 3 j = D.1 377 j ∧ ∃ a, a < 256 ∧ D.1 3 j = nI a
def PRow (D : wd_D) (i : Nat) : Prop := (D.1 (336 + 2 * i) 1 = -1 ∧ D.1 375 i = -1) ∨ ∃ l sz, l < 3 ∧ sz ≤ 40 ∧ D.1 (336 + 2 * i) 1 = nI l ∧ D.1 376 i = nI l ∧ D.1 (336 + 2 * i) 2 = nI sz ∧ D.1 375 i = nI sz ∧ ∀ j, j < 40 → D.1 (336 + 2 * i + 1) j = D.1 374 (40 * i + j)
def PNow (D : wd_D) (n : Nat) (r : Rho) : Prop := RepC D 4 n r ∧ RepM D 0 r ∧ Ok n r ∧ r 38 = (if n = 0 then 0 else 1)
def PPast (D : wd_D) (n : Nat) (r : Rho) : Prop := ∃ s nx, s ≤ 24 ∧ nx < 24 ∧ D.1 23 1 = nI nx ∧ D.1 23 2 = nI s ∧ D.1 370 3 = nI s ∧ ∀ i, i < s → ∃ p : Rho, RepC D (25 + 9 * ((nx + 24 - s + i) % 24)) n p ∧ (∀ j, j < 38 → D.1 373 (38 * i + j) = p j) ∧ (∀ j, 38 ≤ j → p j = r j) ∧ Ok n p
def PImg (D : wd_D) (k : Nat) : Prop := (D.1 (352 + 9 * k) 0 = 0 ∧ D.1 372 k = 0) ∨ ∃ n r, 0 < n ∧ RepC D (352 + 9 * k) n r ∧ RepM D (63 * (1 + k)) r ∧ Ok n r ∧ r 38 = 1 ∧ D.1 372 k = 1
def PAsk (D : wd_D) : Prop := ∃ t, t ≤ 16 ∧ D.1 334 1 = nI t ∧ D.1 370 12 = nI t ∧ ∀ j, j < t → D.1 335 j = D.1 378 j
def Inv (D : wd_D) : Prop := D.1 0 9 = D.1 370 7 ∧ D.1 0 8 = D.1 370 10 ∧ PTape D ∧ (∀ i, i < 8 → PRow D i) ∧ (∃ n r, PNow D n r ∧ PPast D n r) ∧ (∀ k, k < 2 → PImg D k) ∧ PAsk D
/-- what doesn't count between the calls may change -/
def live (k j : Nat) : Prop := k = 0 ∨ (k = 2 ∧ j = 1) ∨ k = 3 ∨ (4 ≤ k ∧ k ≤ 12) ∨ k = 23 ∨ (25 ≤ k ∧ k ≤ 240) ∨ (k = 334 ∧ j = 1) ∨ k = 335 ∨ (336 ≤ k ∧ k ≤ 369) ∨ (k = 370 ∧ (j = 3 ∨ j = 7 ∨ j = 9 ∨ j = 10 ∨ j = 12)) ∨ (k = 371 ∧ j < 189) ∨ (372 ≤ k ∧ k ≤ 378)
def Scr (D E : wd_D) : Prop := ∀ k j, live k j → E.1 k j = D.1 k j
theorem Scr.rf {D : wd_D} : Scr D D := fun _ _ _ => rfl
theorem Scr.tr {D E F : wd_D} (h : Scr D E) (g : Scr E F) : Scr D F := fun k j hl => (g k j hl).trans (h k j hl)
theorem RepC.at {D E : wd_D} {q n : Nat} {r : Rho} (h : RepC D q n r) (hn : n ≤ 7) (e : ∀ k j, q ≤ k → k < q + 9 → E.1 k j = D.1 k j) : RepC E q n r := by
  intro j hj ha
  have h38 : j ≠ 38 := fun e => by rw [e, act_38 n hn] at ha; cases ha
  obtain ⟨g1, -, -⟩ := loc_ok j hj h38
  rw [e _ _ (by omega) (by omega)]; exact h j hj ha
theorem RepM.at {D E : wd_D} {b : Nat} {r : Rho} (h : RepM D b r) (e : ∀ j, b ≤ j → j < b + 63 → E.1 371 j = D.1 371 j) : RepM E b r := fun j hj => by
  rw [e _ (by omega) (by omega)]; exact h j hj
theorem PTape.at {D E : wd_D} (h : PTape D) (e : ∀ k j, (k = 2 ∧ j = 1) ∨ k = 3 ∨ (k = 370 ∧ j = 9) ∨ k = 377 → E.1 k j = D.1 k j) : PTape E := by
  obtain ⟨n, h1, h2, h3, h4⟩ := h
  refine ⟨n, h1, by rw [e _ _ (by simp)]; exact h2, by rw [e _ _ (by simp)]; exact h3, fun j hj => ?_⟩
  rw [e 3 j (by simp), e 377 j (by simp)]; exact h4 j hj
theorem PRow.at {D E : wd_D} {i : Nat} (hi : i < 8) (h : PRow D i) (e : ∀ k j, k = 336 + 2 * i ∨ k = 336 + 2 * i + 1 ∨ (k = 374 ∧ 40 * i ≤ j ∧ j < 40 * i + 40) ∨ (k = 375 ∧ j = i) ∨ (k = 376 ∧ j = i) → E.1 k j = D.1 k j) : PRow E i := by
  rcases h with ⟨h1, h2⟩ | ⟨l, sz, h1, h2, h3, h4, h5, h6, h7⟩
  · exact Or.inl ⟨by rw [e _ _ (by simp)]; exact h1, by rw [e _ _ (by simp)]; exact h2⟩
  · refine Or.inr ⟨l, sz, h1, h2, by rw [e _ _ (by simp)]; exact h3, by rw [e _ _ (by simp)]; exact h4, by rw [e _ _ (by simp)]; exact h5, by rw [e _ _ (by simp)]; exact h6, fun j hj => ?_⟩
    rw [e _ j (by simp), e 374 _ (Or.inr (Or.inr (Or.inl ⟨rfl, by omega, by omega⟩)))]; exact h7 j hj
theorem PNow.at {D E : wd_D} {n : Nat} {r : Rho} (h : PNow D n r) (e : ∀ k j, (4 ≤ k ∧ k ≤ 12) ∨ (k = 371 ∧ j < 63) → E.1 k j = D.1 k j) : PNow E n r :=
  ⟨h.1.at h.2.2.1.1 (fun k j h1 h2 => e k j (by omega)), h.2.1.at (fun j h1 h2 => e 371 j (by omega)), h.2.2.1, h.2.2.2⟩
theorem PPast.at {D E : wd_D} {n : Nat} {r s : Rho} (hn : n ≤ 7) (h : PPast D n r) (hs : ∀ j, 38 ≤ j → s j = r j) (e : ∀ k j, k = 23 ∨ (25 ≤ k ∧ k ≤ 240) ∨ (k = 370 ∧ j = 3) ∨ k = 373 → E.1 k j = D.1 k j) : PPast E n s := by
  obtain ⟨c, nx, h1, h2, h3, h4, h5, h6⟩ := h
  refine ⟨c, nx, h1, h2, by rw [e _ _ (by simp)]; exact h3, by rw [e _ _ (by simp)]; exact h4, by rw [e _ _ (by simp)]; exact h5, fun i hi => ?_⟩
  obtain ⟨p, g1, g2, g3, g4⟩ := h6 i hi
  have hm : (nx + 24 - c + i) % 24 < 24 := Nat.mod_lt _ (by decide)
  exact ⟨p, g1.at hn (fun k j a1 a2 => e k j (by omega)), fun j hj => by rw [e _ _ (by simp)]; exact g2 j hj, fun j hj => by rw [hs j hj]; exact g3 j hj, g4⟩
theorem PImg.at {D E : wd_D} {i : Nat} (hi : i < 2) (h : PImg D i) (e : ∀ k j, (352 + 9 * i ≤ k ∧ k < 361 + 9 * i) ∨ (k = 371 ∧ 63 * (1 + i) ≤ j ∧ j < 63 * (1 + i) + 63) ∨ (k = 372 ∧ j = i) → E.1 k j = D.1 k j) : PImg E i := by
  rcases h with ⟨h1, h2⟩ | ⟨n, r, h1, h2, h3, h4, h5, h6⟩
  · exact Or.inl ⟨by rw [e _ _ (by omega)]; exact h1, by rw [e _ _ (by omega)]; exact h2⟩
  · exact Or.inr ⟨n, r, h1, h2.at h4.1 (fun k j a1 a2 => e k j (by omega)), h3.at (fun j a1 a2 => e 371 j (by omega)), h4, h5, by rw [e _ _ (by omega)]; exact h6⟩
theorem PAsk.at {D E : wd_D} (h : PAsk D) (e : ∀ k j, (k = 334 ∧ j = 1) ∨ k = 335 ∨ (k = 370 ∧ j = 12) ∨ k = 378 → E.1 k j = D.1 k j) : PAsk E := by
  obtain ⟨t, h1, h2, h3, h4⟩ := h
  refine ⟨t, h1, by rw [e _ _ (by simp)]; exact h2, by rw [e _ _ (by simp)]; exact h3, fun j hj => ?_⟩
  rw [e 335 j (by simp), e 378 j (by simp)]; exact h4 j hj
theorem Inv.scr {D E : wd_D} (h : Inv D) (g : Scr D E) : Inv E := by
  obtain ⟨h1, h2, h3, h4, ⟨n, r, h5, h6⟩, h7, h8⟩ := h
  have e : ∀ k j, live k j → E.1 k j = D.1 k j := g
  refine ⟨by rw [e _ _ (by simp [live]), e _ _ (by simp [live])]; exact h1, by rw [e _ _ (by simp [live]), e _ _ (by simp [live])]; exact h2, h3.at (fun k j z => e k j (by unfold live; omega)), fun i hi => (h4 i hi).at hi (fun k j z => e k j (by unfold live; omega)), ⟨n, r, h5.at (fun k j z => e k j (by unfold live; omega)), h6.at h5.2.2.1.1 (fun _ _ => rfl) (fun k j z => e k j (by unfold live; omega))⟩, fun i hi => (h7 i hi).at hi (fun k j z => e k j (by unfold live; omega)), h8.at (fun k j z => e k j (by unfold live; omega))⟩
theorem Fr.scr {q : Nat} {D E : wd_D} (h : Fr q D E) (hq : q = 13 ∨ (242 ≤ q ∧ q + 9 ≤ 334)) : Scr D E := fun k j hl => h.1 k j (by unfold live at hl; omega)
theorem FrM.scr {D E : wd_D} (h : FrM 189 D E) : Scr D E := fun k j hl => h.1 k j (by unfold live at hl; omega) (fun z => by unfold live at hl; omega)
theorem FrN.scr {D E : wd_D} (h : FrN 189 D E) : Scr D E := h.m.scr
theorem scr_s {D : wd_D} {k j : Nat} {v : Int32} (h : ¬ live k j) : Scr D (sI D k j v) := fun a b hl => sI_ne (fun z => h (by rw [← z.1, ← z.2]; exact hl))
theorem scr_J {D : wd_D} {k j : Nat} {v : Int64} : Scr D (sJ D k j v) := fun _ _ _ => rfl
