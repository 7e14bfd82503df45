/-! the room read and written, on either side -/
theorem loc_1 : ∀ c, c < 7 → loc (1 + c) = (2, c) := by decide +kernel
theorem act_1 : ∀ n, n ≤ 7 → ∀ c, c < n → act n (1 + c) = true := by decide +kernel
theorem RepC.a1 {D : wd_D} {q n : Nat} {r : Rho} (h : RepC D q n r) {c : Nat} (hn : n ≤ 7) (hc : c < n) : D.1 (q + 2) c = r (1 + c) := by
  have h1 := h (1 + c) (by omega) (act_1 n hn c hc)
  rw [loc_1 c (by omega)] at h1
  exact h1
theorem RepC.r1 {D : wd_D} {q n : Nat} {r : Rho} (h : RepC D q n r) {c : Nat} (hn : n ≤ 7) (hc : c < n) : rd 7 D (q + 2) (nI c) = some (r (1 + c)) := by
  rw [rd_nI D (q + 2) (show c < 7 by omega), h.a1 hn hc]
theorem RepC.u1 {D : wd_D} {q n : Nat} {r : Rho} (h : RepC D q n r) {c : Nat} (hc : c < 7) (v : Int32) : RepC (sI D (q + 2) c v) q n (upd r (1 + c) v) := by
  have h1 := h.up (1 + c) (by omega) v
  rw [loc_1 c hc] at h1
  exact h1
theorem RepM.r1 {D : wd_D} {b : Nat} {r : Rho} (h : RepM D b r) {c : Nat} (hb : b ≤ 189) (hc : c < 7) : rd 252 D 371 ((nI b + 1) + nI c) = some (r (1 + c)) := by
  rw [show (1 : Int32) = nI 1 from rfl, nI_add, nI_add, Nat.add_assoc, rd_nI D 371 (show b + (1 + c) < 252 by omega), h (1 + c) (by omega)]
theorem RepM.z1 {D : wd_D} {r : Rho} (h : RepM D 0 r) {c : Nat} (hc : c < 7) : rd 252 D 371 (1 + nI c) = some (r (1 + c)) := by
  have h1 := h (1 + c) (by omega)
  rw [show (1 : Int32) = nI 1 from rfl, nI_add, rd_nI D 371 (show 1 + c < 252 by omega), ← h1, Nat.zero_add]
theorem wrM1 {D : wd_D} {b : Nat} {c : Nat} (v : Int32) (hb : b ≤ 189) (hc : c < 7) : wr 252 D 371 ((nI b + 1) + nI c) v = some (sI D 371 (b + (1 + c)) v) := by
  rw [show (1 : Int32) = nI 1 from rfl, nI_add, nI_add, Nat.add_assoc, wr_nI D 371 v (show b + (1 + c) < 252 by omega)]
theorem loc_8 : ∀ c, c < 7 → loc (8 + c) = (6, c) := by decide +kernel
theorem act_8 : ∀ n, n ≤ 7 → ∀ c, c < n → act n (8 + c) = true := by decide +kernel
theorem RepC.a8 {D : wd_D} {q n : Nat} {r : Rho} (h : RepC D q n r) {c : Nat} (hn : n ≤ 7) (hc : c < n) : D.1 (q + 6) c = r (8 + c) := by
  have h1 := h (8 + c) (by omega) (act_8 n hn c hc)
  rw [loc_8 c (by omega)] at h1
  exact h1
theorem RepC.r8 {D : wd_D} {q n : Nat} {r : Rho} (h : RepC D q n r) {c : Nat} (hn : n ≤ 7) (hc : c < n) : rd 7 D (q + 6) (nI c) = some (r (8 + c)) := by
  rw [rd_nI D (q + 6) (show c < 7 by omega), h.a8 hn hc]
theorem RepC.u8 {D : wd_D} {q n : Nat} {r : Rho} (h : RepC D q n r) {c : Nat} (hc : c < 7) (v : Int32) : RepC (sI D (q + 6) c v) q n (upd r (8 + c) v) := by
  have h1 := h.up (8 + c) (by omega) v
  rw [loc_8 c hc] at h1
  exact h1
theorem RepM.r8 {D : wd_D} {b : Nat} {r : Rho} (h : RepM D b r) {c : Nat} (hb : b ≤ 189) (hc : c < 7) : rd 252 D 371 ((nI b + 8) + nI c) = some (r (8 + c)) := by
  rw [show (8 : Int32) = nI 8 from rfl, nI_add, nI_add, Nat.add_assoc, rd_nI D 371 (show b + (8 + c) < 252 by omega), h (8 + c) (by omega)]
theorem RepM.z8 {D : wd_D} {r : Rho} (h : RepM D 0 r) {c : Nat} (hc : c < 7) : rd 252 D 371 (8 + nI c) = some (r (8 + c)) := by
  have h1 := h (8 + c) (by omega)
  rw [show (8 : Int32) = nI 8 from rfl, nI_add, rd_nI D 371 (show 8 + c < 252 by omega), ← h1, Nat.zero_add]
theorem wrM8 {D : wd_D} {b : Nat} {c : Nat} (v : Int32) (hb : b ≤ 189) (hc : c < 7) : wr 252 D 371 ((nI b + 8) + nI c) v = some (sI D 371 (b + (8 + c)) v) := by
  rw [show (8 : Int32) = nI 8 from rfl, nI_add, nI_add, Nat.add_assoc, wr_nI D 371 v (show b + (8 + c) < 252 by omega)]
theorem loc_15 : ∀ c, c < 7 → loc (15 + c) = (7, c) := by decide +kernel
theorem act_15 : ∀ n, n ≤ 7 → ∀ c, c < n → act n (15 + c) = true := by decide +kernel
theorem RepC.a15 {D : wd_D} {q n : Nat} {r : Rho} (h : RepC D q n r) {c : Nat} (hn : n ≤ 7) (hc : c < n) : D.1 (q + 7) c = r (15 + c) := by
  have h1 := h (15 + c) (by omega) (act_15 n hn c hc)
  rw [loc_15 c (by omega)] at h1
  exact h1
theorem RepC.r15 {D : wd_D} {q n : Nat} {r : Rho} (h : RepC D q n r) {c : Nat} (hn : n ≤ 7) (hc : c < n) : rd 7 D (q + 7) (nI c) = some (r (15 + c)) := by
  rw [rd_nI D (q + 7) (show c < 7 by omega), h.a15 hn hc]
theorem RepC.u15 {D : wd_D} {q n : Nat} {r : Rho} (h : RepC D q n r) {c : Nat} (hc : c < 7) (v : Int32) : RepC (sI D (q + 7) c v) q n (upd r (15 + c) v) := by
  have h1 := h.up (15 + c) (by omega) v
  rw [loc_15 c hc] at h1
  exact h1
theorem RepM.r15 {D : wd_D} {b : Nat} {r : Rho} (h : RepM D b r) {c : Nat} (hb : b ≤ 189) (hc : c < 7) : rd 252 D 371 ((nI b + 15) + nI c) = some (r (15 + c)) := by
  rw [show (15 : Int32) = nI 15 from rfl, nI_add, nI_add, Nat.add_assoc, rd_nI D 371 (show b + (15 + c) < 252 by omega), h (15 + c) (by omega)]
theorem RepM.z15 {D : wd_D} {r : Rho} (h : RepM D 0 r) {c : Nat} (hc : c < 7) : rd 252 D 371 (15 + nI c) = some (r (15 + c)) := by
  have h1 := h (15 + c) (by omega)
  rw [show (15 : Int32) = nI 15 from rfl, nI_add, rd_nI D 371 (show 15 + c < 252 by omega), ← h1, Nat.zero_add]
theorem wrM15 {D : wd_D} {b : Nat} {c : Nat} (v : Int32) (hb : b ≤ 189) (hc : c < 7) : wr 252 D 371 ((nI b + 15) + nI c) v = some (sI D 371 (b + (15 + c)) v) := by
  rw [show (15 : Int32) = nI 15 from rfl, nI_add, nI_add, Nat.add_assoc, wr_nI D 371 v (show b + (15 + c) < 252 by omega)]
theorem loc_22 : ∀ c, c < 7 → loc (22 + c) = (8, c) := by decide +kernel
theorem act_22 : ∀ n, n ≤ 7 → ∀ c, c < n → act n (22 + c) = true := by decide +kernel
theorem RepC.a22 {D : wd_D} {q n : Nat} {r : Rho} (h : RepC D q n r) {c : Nat} (hn : n ≤ 7) (hc : c < n) : D.1 (q + 8) c = r (22 + c) := by
  have h1 := h (22 + c) (by omega) (act_22 n hn c hc)
  rw [loc_22 c (by omega)] at h1
  exact h1
theorem RepC.r22 {D : wd_D} {q n : Nat} {r : Rho} (h : RepC D q n r) {c : Nat} (hn : n ≤ 7) (hc : c < n) : rd 7 D (q + 8) (nI c) = some (r (22 + c)) := by
  rw [rd_nI D (q + 8) (show c < 7 by omega), h.a22 hn hc]
theorem RepC.u22 {D : wd_D} {q n : Nat} {r : Rho} (h : RepC D q n r) {c : Nat} (hc : c < 7) (v : Int32) : RepC (sI D (q + 8) c v) q n (upd r (22 + c) v) := by
  have h1 := h.up (22 + c) (by omega) v
  rw [loc_22 c hc] at h1
  exact h1
theorem RepM.r22 {D : wd_D} {b : Nat} {r : Rho} (h : RepM D b r) {c : Nat} (hb : b ≤ 189) (hc : c < 7) : rd 252 D 371 ((nI b + 22) + nI c) = some (r (22 + c)) := by
  rw [show (22 : Int32) = nI 22 from rfl, nI_add, nI_add, Nat.add_assoc, rd_nI D 371 (show b + (22 + c) < 252 by omega), h (22 + c) (by omega)]
theorem RepM.z22 {D : wd_D} {r : Rho} (h : RepM D 0 r) {c : Nat} (hc : c < 7) : rd 252 D 371 (22 + nI c) = some (r (22 + c)) := by
  have h1 := h (22 + c) (by omega)
  rw [show (22 : Int32) = nI 22 from rfl, nI_add, rd_nI D 371 (show 22 + c < 252 by omega), ← h1, Nat.zero_add]
theorem wrM22 {D : wd_D} {b : Nat} {c : Nat} (v : Int32) (hb : b ≤ 189) (hc : c < 7) : wr 252 D 371 ((nI b + 22) + nI c) v = some (sI D 371 (b + (22 + c)) v) := by
  rw [show (22 : Int32) = nI 22 from rfl, nI_add, nI_add, Nat.add_assoc, wr_nI D 371 v (show b + (22 + c) < 252 by omega)]
theorem loc_29 : ∀ c, c < 7 → loc (29 + c) = (5, c) := by decide +kernel
theorem act_29 : ∀ n, n ≤ 7 → ∀ c, c < n → act n (29 + c) = true := by decide +kernel
theorem RepC.a29 {D : wd_D} {q n : Nat} {r : Rho} (h : RepC D q n r) {c : Nat} (hn : n ≤ 7) (hc : c < n) : D.1 (q + 5) c = r (29 + c) := by
  have h1 := h (29 + c) (by omega) (act_29 n hn c hc)
  rw [loc_29 c (by omega)] at h1
  exact h1
theorem RepC.r29 {D : wd_D} {q n : Nat} {r : Rho} (h : RepC D q n r) {c : Nat} (hn : n ≤ 7) (hc : c < n) : rd 7 D (q + 5) (nI c) = some (r (29 + c)) := by
  rw [rd_nI D (q + 5) (show c < 7 by omega), h.a29 hn hc]
theorem RepC.u29 {D : wd_D} {q n : Nat} {r : Rho} (h : RepC D q n r) {c : Nat} (hc : c < 7) (v : Int32) : RepC (sI D (q + 5) c v) q n (upd r (29 + c) v) := by
  have h1 := h.up (29 + c) (by omega) v
  rw [loc_29 c hc] at h1
  exact h1
theorem RepM.r29 {D : wd_D} {b : Nat} {r : Rho} (h : RepM D b r) {c : Nat} (hb : b ≤ 189) (hc : c < 7) : rd 252 D 371 ((nI b + 29) + nI c) = some (r (29 + c)) := by
  rw [show (29 : Int32) = nI 29 from rfl, nI_add, nI_add, Nat.add_assoc, rd_nI D 371 (show b + (29 + c) < 252 by omega), h (29 + c) (by omega)]
theorem RepM.z29 {D : wd_D} {r : Rho} (h : RepM D 0 r) {c : Nat} (hc : c < 7) : rd 252 D 371 (29 + nI c) = some (r (29 + c)) := by
  have h1 := h (29 + c) (by omega)
  rw [show (29 : Int32) = nI 29 from rfl, nI_add, rd_nI D 371 (show 29 + c < 252 by omega), ← h1, Nat.zero_add]
theorem wrM29 {D : wd_D} {b : Nat} {c : Nat} (v : Int32) (hb : b ≤ 189) (hc : c < 7) : wr 252 D 371 ((nI b + 29) + nI c) v = some (sI D 371 (b + (29 + c)) v) := by
  rw [show (29 : Int32) = nI 29 from rfl, nI_add, nI_add, Nat.add_assoc, wr_nI D 371 v (show b + (29 + c) < 252 by omega)]
theorem loc_42 : ∀ c, c < 7 → loc (42 + c) = (1, c) := by decide +kernel
theorem act_42 : ∀ n, n ≤ 7 → ∀ c, c < n → act n (42 + c) = true := by decide +kernel
theorem RepC.a42 {D : wd_D} {q n : Nat} {r : Rho} (h : RepC D q n r) {c : Nat} (hn : n ≤ 7) (hc : c < n) : D.1 (q + 1) c = r (42 + c) := by
  have h1 := h (42 + c) (by omega) (act_42 n hn c hc)
  rw [loc_42 c (by omega)] at h1
  exact h1
theorem RepC.r42 {D : wd_D} {q n : Nat} {r : Rho} (h : RepC D q n r) {c : Nat} (hn : n ≤ 7) (hc : c < n) : rd 7 D (q + 1) (nI c) = some (r (42 + c)) := by
  rw [rd_nI D (q + 1) (show c < 7 by omega), h.a42 hn hc]
theorem RepC.u42 {D : wd_D} {q n : Nat} {r : Rho} (h : RepC D q n r) {c : Nat} (hc : c < 7) (v : Int32) : RepC (sI D (q + 1) c v) q n (upd r (42 + c) v) := by
  have h1 := h.up (42 + c) (by omega) v
  rw [loc_42 c hc] at h1
  exact h1
theorem RepM.r42 {D : wd_D} {b : Nat} {r : Rho} (h : RepM D b r) {c : Nat} (hb : b ≤ 189) (hc : c < 7) : rd 252 D 371 ((nI b + 42) + nI c) = some (r (42 + c)) := by
  rw [show (42 : Int32) = nI 42 from rfl, nI_add, nI_add, Nat.add_assoc, rd_nI D 371 (show b + (42 + c) < 252 by omega), h (42 + c) (by omega)]
theorem RepM.z42 {D : wd_D} {r : Rho} (h : RepM D 0 r) {c : Nat} (hc : c < 7) : rd 252 D 371 (42 + nI c) = some (r (42 + c)) := by
  have h1 := h (42 + c) (by omega)
  rw [show (42 : Int32) = nI 42 from rfl, nI_add, rd_nI D 371 (show 42 + c < 252 by omega), ← h1, Nat.zero_add]
theorem wrM42 {D : wd_D} {b : Nat} {c : Nat} (v : Int32) (hb : b ≤ 189) (hc : c < 7) : wr 252 D 371 ((nI b + 42) + nI c) v = some (sI D 371 (b + (42 + c)) v) := by
  rw [show (42 : Int32) = nI 42 from rfl, nI_add, nI_add, Nat.add_assoc, wr_nI D 371 v (show b + (42 + c) < 252 by omega)]
theorem loc_49 : ∀ c, c < 7 → loc (49 + c) = (3, c) := by decide +kernel
theorem act_49 : ∀ n, n ≤ 7 → ∀ c, c < n → act n (49 + c) = true := by decide +kernel
theorem RepC.a49 {D : wd_D} {q n : Nat} {r : Rho} (h : RepC D q n r) {c : Nat} (hn : n ≤ 7) (hc : c < n) : D.1 (q + 3) c = r (49 + c) := by
  have h1 := h (49 + c) (by omega) (act_49 n hn c hc)
  rw [loc_49 c (by omega)] at h1
  exact h1
theorem RepC.r49 {D : wd_D} {q n : Nat} {r : Rho} (h : RepC D q n r) {c : Nat} (hn : n ≤ 7) (hc : c < n) : rd 7 D (q + 3) (nI c) = some (r (49 + c)) := by
  rw [rd_nI D (q + 3) (show c < 7 by omega), h.a49 hn hc]
theorem RepC.u49 {D : wd_D} {q n : Nat} {r : Rho} (h : RepC D q n r) {c : Nat} (hc : c < 7) (v : Int32) : RepC (sI D (q + 3) c v) q n (upd r (49 + c) v) := by
  have h1 := h.up (49 + c) (by omega) v
  rw [loc_49 c hc] at h1
  exact h1
theorem RepM.r49 {D : wd_D} {b : Nat} {r : Rho} (h : RepM D b r) {c : Nat} (hb : b ≤ 189) (hc : c < 7) : rd 252 D 371 ((nI b + 49) + nI c) = some (r (49 + c)) := by
  rw [show (49 : Int32) = nI 49 from rfl, nI_add, nI_add, Nat.add_assoc, rd_nI D 371 (show b + (49 + c) < 252 by omega), h (49 + c) (by omega)]
theorem RepM.z49 {D : wd_D} {r : Rho} (h : RepM D 0 r) {c : Nat} (hc : c < 7) : rd 252 D 371 (49 + nI c) = some (r (49 + c)) := by
  have h1 := h (49 + c) (by omega)
  rw [show (49 : Int32) = nI 49 from rfl, nI_add, rd_nI D 371 (show 49 + c < 252 by omega), ← h1, Nat.zero_add]
theorem wrM49 {D : wd_D} {b : Nat} {c : Nat} (v : Int32) (hb : b ≤ 189) (hc : c < 7) : wr 252 D 371 ((nI b + 49) + nI c) v = some (sI D 371 (b + (49 + c)) v) := by
  rw [show (49 : Int32) = nI 49 from rfl, nI_add, nI_add, Nat.add_assoc, wr_nI D 371 v (show b + (49 + c) < 252 by omega)]
theorem loc_56 : ∀ c, c < 7 → loc (56 + c) = (4, c) := by decide +kernel
theorem act_56 : ∀ n, n ≤ 7 → ∀ c, c < n → act n (56 + c) = true := by decide +kernel
theorem RepC.a56 {D : wd_D} {q n : Nat} {r : Rho} (h : RepC D q n r) {c : Nat} (hn : n ≤ 7) (hc : c < n) : D.1 (q + 4) c = r (56 + c) := by
  have h1 := h (56 + c) (by omega) (act_56 n hn c hc)
  rw [loc_56 c (by omega)] at h1
  exact h1
theorem RepC.r56 {D : wd_D} {q n : Nat} {r : Rho} (h : RepC D q n r) {c : Nat} (hn : n ≤ 7) (hc : c < n) : rd 7 D (q + 4) (nI c) = some (r (56 + c)) := by
  rw [rd_nI D (q + 4) (show c < 7 by omega), h.a56 hn hc]
theorem RepC.u56 {D : wd_D} {q n : Nat} {r : Rho} (h : RepC D q n r) {c : Nat} (hc : c < 7) (v : Int32) : RepC (sI D (q + 4) c v) q n (upd r (56 + c) v) := by
  have h1 := h.up (56 + c) (by omega) v
  rw [loc_56 c hc] at h1
  exact h1
theorem RepM.r56 {D : wd_D} {b : Nat} {r : Rho} (h : RepM D b r) {c : Nat} (hb : b ≤ 189) (hc : c < 7) : rd 252 D 371 ((nI b + 56) + nI c) = some (r (56 + c)) := by
  rw [show (56 : Int32) = nI 56 from rfl, nI_add, nI_add, Nat.add_assoc, rd_nI D 371 (show b + (56 + c) < 252 by omega), h (56 + c) (by omega)]
theorem RepM.z56 {D : wd_D} {r : Rho} (h : RepM D 0 r) {c : Nat} (hc : c < 7) : rd 252 D 371 (56 + nI c) = some (r (56 + c)) := by
  have h1 := h (56 + c) (by omega)
  rw [show (56 : Int32) = nI 56 from rfl, nI_add, rd_nI D 371 (show 56 + c < 252 by omega), ← h1, Nat.zero_add]
theorem wrM56 {D : wd_D} {b : Nat} {c : Nat} (v : Int32) (hb : b ≤ 189) (hc : c < 7) : wr 252 D 371 ((nI b + 56) + nI c) v = some (sI D 371 (b + (56 + c)) v) := by
  rw [show (56 : Int32) = nI 56 from rfl, nI_add, nI_add, Nat.add_assoc, wr_nI D 371 v (show b + (56 + c) < 252 by omega)]
theorem RepC.f0 {D : wd_D} {q n : Nat} {r : Rho} (h : RepC D q n r) : gI D q 3 = r 0 := by
  have h1 := h 0 (by decide) (by simp [act])
  exact h1
theorem RepC.v0 {D : wd_D} {q n : Nat} {r : Rho} (h : RepC D q n r) (v : Int32) : RepC (sI D q 3 v) q n (upd r 0 v) := h.up 0 (by decide) v
theorem RepM.f0 {D : wd_D} {b : Nat} {r : Rho} (h : RepM D b r) (hb : b ≤ 189) : rd 252 D 371 (nI b + 0) = some (r 0) := by
  rw [show (0 : Int32) = nI 0 from rfl, nI_add, rd_nI D 371 (show b + 0 < 252 by omega), h 0 (by omega)]
theorem RepM.y0 {D : wd_D} {r : Rho} (h : RepM D 0 r) : rd 252 D 371 0 = some (r 0) := by
  have h1 := h 0 (by omega)
  rw [show (0 : Int32) = nI 0 from rfl, rd_nI D 371 (show 0 < 252 by omega), ← h1, Nat.zero_add]
theorem RepC.f36 {D : wd_D} {q n : Nat} {r : Rho} (h : RepC D q n r) : gI D q 5 = r 36 := by
  have h1 := h 36 (by decide) (by simp [act])
  exact h1
theorem RepC.v36 {D : wd_D} {q n : Nat} {r : Rho} (h : RepC D q n r) (v : Int32) : RepC (sI D q 5 v) q n (upd r 36 v) := h.up 36 (by decide) v
theorem RepM.f36 {D : wd_D} {b : Nat} {r : Rho} (h : RepM D b r) (hb : b ≤ 189) : rd 252 D 371 (nI b + 36) = some (r 36) := by
  rw [show (36 : Int32) = nI 36 from rfl, nI_add, rd_nI D 371 (show b + 36 < 252 by omega), h 36 (by omega)]
theorem RepM.y36 {D : wd_D} {r : Rho} (h : RepM D 0 r) : rd 252 D 371 36 = some (r 36) := by
  have h1 := h 36 (by omega)
  rw [show (36 : Int32) = nI 36 from rfl, rd_nI D 371 (show 36 < 252 by omega), ← h1, Nat.zero_add]
theorem RepC.f37 {D : wd_D} {q n : Nat} {r : Rho} (h : RepC D q n r) : gI D q 4 = r 37 := by
  have h1 := h 37 (by decide) (by simp [act])
  exact h1
theorem RepC.v37 {D : wd_D} {q n : Nat} {r : Rho} (h : RepC D q n r) (v : Int32) : RepC (sI D q 4 v) q n (upd r 37 v) := h.up 37 (by decide) v
theorem RepM.f37 {D : wd_D} {b : Nat} {r : Rho} (h : RepM D b r) (hb : b ≤ 189) : rd 252 D 371 (nI b + 37) = some (r 37) := by
  rw [show (37 : Int32) = nI 37 from rfl, nI_add, rd_nI D 371 (show b + 37 < 252 by omega), h 37 (by omega)]
theorem RepM.y37 {D : wd_D} {r : Rho} (h : RepM D 0 r) : rd 252 D 371 37 = some (r 37) := by
  have h1 := h 37 (by omega)
  rw [show (37 : Int32) = nI 37 from rfl, rd_nI D 371 (show 37 < 252 by omega), ← h1, Nat.zero_add]
theorem RepC.f39 {D : wd_D} {q n : Nat} {r : Rho} (h : RepC D q n r) : gI D q 1 = r 39 := by
  have h1 := h 39 (by decide) (by simp [act])
  exact h1
theorem RepC.v39 {D : wd_D} {q n : Nat} {r : Rho} (h : RepC D q n r) (v : Int32) : RepC (sI D q 1 v) q n (upd r 39 v) := h.up 39 (by decide) v
theorem RepM.f39 {D : wd_D} {b : Nat} {r : Rho} (h : RepM D b r) (hb : b ≤ 189) : rd 252 D 371 (nI b + 39) = some (r 39) := by
  rw [show (39 : Int32) = nI 39 from rfl, nI_add, rd_nI D 371 (show b + 39 < 252 by omega), h 39 (by omega)]
theorem RepM.y39 {D : wd_D} {r : Rho} (h : RepM D 0 r) : rd 252 D 371 39 = some (r 39) := by
  have h1 := h 39 (by omega)
  rw [show (39 : Int32) = nI 39 from rfl, rd_nI D 371 (show 39 < 252 by omega), ← h1, Nat.zero_add]
theorem RepC.f40 {D : wd_D} {q n : Nat} {r : Rho} (h : RepC D q n r) : gI D q 2 = r 40 := by
  have h1 := h 40 (by decide) (by simp [act])
  exact h1
theorem RepC.v40 {D : wd_D} {q n : Nat} {r : Rho} (h : RepC D q n r) (v : Int32) : RepC (sI D q 2 v) q n (upd r 40 v) := h.up 40 (by decide) v
theorem RepM.f40 {D : wd_D} {b : Nat} {r : Rho} (h : RepM D b r) (hb : b ≤ 189) : rd 252 D 371 (nI b + 40) = some (r 40) := by
  rw [show (40 : Int32) = nI 40 from rfl, nI_add, rd_nI D 371 (show b + 40 < 252 by omega), h 40 (by omega)]
theorem RepM.y40 {D : wd_D} {r : Rho} (h : RepM D 0 r) : rd 252 D 371 40 = some (r 40) := by
  have h1 := h 40 (by omega)
  rw [show (40 : Int32) = nI 40 from rfl, rd_nI D 371 (show 40 < 252 by omega), ← h1, Nat.zero_add]
theorem RepC.f41 {D : wd_D} {q n : Nat} {r : Rho} (h : RepC D q n r) : gI D q 0 = r 41 := by
  have h1 := h 41 (by decide) (by simp [act])
  exact h1
theorem RepC.v41 {D : wd_D} {q n : Nat} {r : Rho} (h : RepC D q n r) (v : Int32) : RepC (sI D q 0 v) q n (upd r 41 v) := h.up 41 (by decide) v
theorem RepM.f41 {D : wd_D} {b : Nat} {r : Rho} (h : RepM D b r) (hb : b ≤ 189) : rd 252 D 371 (nI b + 41) = some (r 41) := by
  rw [show (41 : Int32) = nI 41 from rfl, nI_add, rd_nI D 371 (show b + 41 < 252 by omega), h 41 (by omega)]
theorem RepM.y41 {D : wd_D} {r : Rho} (h : RepM D 0 r) : rd 252 D 371 41 = some (r 41) := by
  have h1 := h 41 (by omega)
  rw [show (41 : Int32) = nI 41 from rfl, rd_nI D 371 (show 41 < 252 by omega), ← h1, Nat.zero_add]
theorem sI_ne {D : wd_D} {k j a b : Nat} {v : Int32} (h : ¬ (a = k ∧ b = j)) : (sI D k j v).1 a b = D.1 a b := if_neg h
theorem sI_eq {D : wd_D} {k j : Nat} {v : Int32} : (sI D k j v).1 k j = v := if_pos ⟨rfl, rfl⟩
/-- nothing but a room of the class has changed; nothing but a block of the reference -/
def Fr (q : Nat) (D D' : wd_D) : Prop := (∀ k j, (k < q ∨ q + 9 ≤ k) → D'.1 k j = D.1 k j) ∧ D'.2 = D.2
def FrM (b : Nat) (D D' : wd_D) : Prop := (∀ k j, k ≠ 380 → (k = 371 → (j < b ∨ b + 63 ≤ j)) → D'.1 k j = D.1 k j) ∧ D'.2 = D.2
theorem Fr.rf {q : Nat} {D : wd_D} : Fr q D D := ⟨fun _ _ _ => rfl, rfl⟩
theorem FrM.rf {q : Nat} {D : wd_D} : FrM q D D := ⟨fun _ _ _ _ => rfl, rfl⟩
theorem Fr.tr {q : Nat} {D E F : wd_D} (h : Fr q D E) (g : Fr q E F) : Fr q D F := ⟨fun k j hk => (g.1 k j hk).trans (h.1 k j hk), g.2.trans h.2⟩
theorem FrM.tr {q : Nat} {D E F : wd_D} (h : FrM q D E) (g : FrM q E F) : FrM q D F := ⟨fun k j hk h2 => (g.1 k j hk h2).trans (h.1 k j hk h2), g.2.trans h.2⟩
theorem Fr.s {q a : Nat} {D : wd_D} {j : Nat} {v : Int32} (ha : a < 9) : Fr q D (sI D (q + a) j v) := ⟨fun k i hk => by
  exact sI_ne (by omega), rfl⟩
theorem Fr.s0 {q : Nat} {D : wd_D} {j : Nat} {v : Int32} : Fr q D (sI D q j v) := Fr.s (a := 0) (by decide)
theorem FrM.s {b j : Nat} {D : wd_D} {v : Int32} (hj : j < 63) : FrM b D (sI D 371 (b + j) v) := ⟨fun k i _ h2 => by
  exact sI_ne (fun z => by have := h2 z.1; omega), rfl⟩
theorem FrM.h {b j : Nat} {D : wd_D} {v : Int32} : FrM b D (sI D 380 j v) := ⟨fun k i hk _ => by
  exact sI_ne (fun z => hk z.1), rfl⟩
