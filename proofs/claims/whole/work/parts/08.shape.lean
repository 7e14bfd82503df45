/-! the shape of the world once both objects stand: 381 places -/
def rmsh (j : Nat) : wd_Sh := if j % 9 = 0 then .inl 3 else .inr (0, 7)
def shf (k : Nat) : wd_Sh :=
  if k < 4 then (if k = 0 then .inl 6 else if k = 1 then .inr (3, 8) else if k = 2 then .inl 5 else .inr (0, 120))
  else if k < 22 then rmsh (k - 4)
  else if k < 25 then (if k = 22 then .inr (2, 2) else if k = 23 then .inl 2 else .inr (2, 24))
  else if k < 241 then rmsh (k - 25)
  else if k < 242 then .inl 1
  else if k < 251 then rmsh (k - 242)
  else if k < 253 then (if k = 251 then .inr (2, 9) else .inr (0, 12))
  else if k < 334 then rmsh (k - 253)
  else if k < 336 then (if k = 334 then .inl 0 else .inr (0, 16))
  else if k < 352 then (if k % 2 = 0 then .inl 4 else .inr (0, 40))
  else if k < 370 then rmsh (k - 352)
  else if k = 370 then .inl 7 else if k = 371 then .inr (0, 252) else if k = 372 then .inr (1, 2) else if k = 373 then .inr (0, 912) else if k = 374 then .inr (0, 320)
  else if k = 375 then .inr (0, 8) else if k = 376 then .inr (0, 8) else if k = 377 then .inr (0, 120) else if k = 378 then .inr (0, 16) else if k = 379 then .inr (0, 40) else .inr (1, 7)
def rf0 (k j : Nat) : Option Nat :=
  if k = 0 then [1, 2, 4, 13, 22, 23, 241, 334][j]?
  else if k = 1 then (if j < 8 then some (336 + 2 * j) else none)
  else if k = 22 then (if j < 2 then some (352 + 9 * j) else none)
  else if k = 24 then (if j < 24 then some (25 + 9 * j) else none)
  else if k = 251 then (if j < 9 then some (253 + 9 * j) else none)
  else if k = 2 then (if j = 0 then some 3 else none)
  else if k = 23 then (if j = 0 then some 24 else none)
  else if k = 241 then [242, 251, 252][j]?
  else if k = 334 then (if j = 0 then some 335 else none)
  else if k = 370 then (if j = 0 then some 371 else if j = 1 then some 372 else if j = 2 then some 373 else if j = 4 then some 374 else if j = 5 then some 375 else if j = 6 then some 376 else if j = 8 then some 377 else if j = 11 then some 378 else if j = 13 then some 379 else if j = 17 then some 380 else none)
  else if shf k = .inl 3 then (if 6 ≤ j ∧ j < 14 then some (k + (j - 5)) else none)
  else if shf k = .inl 4 then (if j = 0 then some (k + 1) else none)
  else none
def S0 : wd_S := ((List.range 381).map shf, rf0)
theorem sh_at {k : Nat} (h : k < 381) : S0.1[k]? = some (shf k) := by simp [S0, h]
def RoomAt (r : Nat) : Prop := r < 370 ∧ shf r = .inl 3
def RowAt (r : Nat) : Prop := r < 370 ∧ shf r = .inl 4
theorem rm_all : ∀ r, r < 370 → shf r = .inl 3 → ∀ i, i < 8 → r + (i + 1) < 370 ∧ shf (r + (i + 1)) = .inr (0, 7) ∧ rf0 r (6 + i) = some (r + (i + 1)) := by decide +kernel
theorem rw_all : ∀ r, r < 370 → shf r = .inl 4 → r + 1 < 370 ∧ shf (r + 1) = .inr (0, 40) ∧ rf0 r 0 = some (r + 1) := by decide +kernel
theorem rm_s {r : Nat} (h : RoomAt r) : S0.1[r]? = some (.inl 3) := by rw [sh_at (Nat.lt_trans h.1 (by decide)), h.2]
theorem rw_s {r : Nat} (h : RowAt r) : S0.1[r]? = some (.inl 4) := by rw [sh_at (Nat.lt_trans h.1 (by decide)), h.2]
theorem rw_a0 {r : Nat} (h : RowAt r) : S0.1[r + 1]? = some (.inr (0, 40)) := by
  obtain ⟨a, b, c⟩ := rw_all r h.1 h.2
  rw [sh_at (Nat.lt_trans a (by decide)), b]
theorem rw_r0 {r : Nat} (h : RowAt r) : S0.2 r 0 = some (r + 1) := (rw_all r h.1 h.2).2.2
theorem rm_a0 {r : Nat} (h : RoomAt r) : S0.1[r + 1]? = some (.inr (0, 7)) := by
  obtain ⟨a, b, c⟩ := rm_all r h.1 h.2 0 (by decide)
  rw [sh_at (Nat.lt_trans a (by decide)), b]
theorem rm_r0 {r : Nat} (h : RoomAt r) : S0.2 r 6 = some (r + 1) := (rm_all r h.1 h.2 0 (by decide)).2.2
theorem rm_a1 {r : Nat} (h : RoomAt r) : S0.1[r + 2]? = some (.inr (0, 7)) := by
  obtain ⟨a, b, c⟩ := rm_all r h.1 h.2 1 (by decide)
  rw [sh_at (Nat.lt_trans a (by decide)), b]
theorem rm_r1 {r : Nat} (h : RoomAt r) : S0.2 r 7 = some (r + 2) := (rm_all r h.1 h.2 1 (by decide)).2.2
theorem rm_a2 {r : Nat} (h : RoomAt r) : S0.1[r + 3]? = some (.inr (0, 7)) := by
  obtain ⟨a, b, c⟩ := rm_all r h.1 h.2 2 (by decide)
  rw [sh_at (Nat.lt_trans a (by decide)), b]
theorem rm_r2 {r : Nat} (h : RoomAt r) : S0.2 r 8 = some (r + 3) := (rm_all r h.1 h.2 2 (by decide)).2.2
theorem rm_a3 {r : Nat} (h : RoomAt r) : S0.1[r + 4]? = some (.inr (0, 7)) := by
  obtain ⟨a, b, c⟩ := rm_all r h.1 h.2 3 (by decide)
  rw [sh_at (Nat.lt_trans a (by decide)), b]
theorem rm_r3 {r : Nat} (h : RoomAt r) : S0.2 r 9 = some (r + 4) := (rm_all r h.1 h.2 3 (by decide)).2.2
theorem rm_a4 {r : Nat} (h : RoomAt r) : S0.1[r + 5]? = some (.inr (0, 7)) := by
  obtain ⟨a, b, c⟩ := rm_all r h.1 h.2 4 (by decide)
  rw [sh_at (Nat.lt_trans a (by decide)), b]
theorem rm_r4 {r : Nat} (h : RoomAt r) : S0.2 r 10 = some (r + 5) := (rm_all r h.1 h.2 4 (by decide)).2.2
theorem rm_a5 {r : Nat} (h : RoomAt r) : S0.1[r + 6]? = some (.inr (0, 7)) := by
  obtain ⟨a, b, c⟩ := rm_all r h.1 h.2 5 (by decide)
  rw [sh_at (Nat.lt_trans a (by decide)), b]
theorem rm_r5 {r : Nat} (h : RoomAt r) : S0.2 r 11 = some (r + 6) := (rm_all r h.1 h.2 5 (by decide)).2.2
theorem rm_a6 {r : Nat} (h : RoomAt r) : S0.1[r + 7]? = some (.inr (0, 7)) := by
  obtain ⟨a, b, c⟩ := rm_all r h.1 h.2 6 (by decide)
  rw [sh_at (Nat.lt_trans a (by decide)), b]
theorem rm_r6 {r : Nat} (h : RoomAt r) : S0.2 r 12 = some (r + 7) := (rm_all r h.1 h.2 6 (by decide)).2.2
theorem rm_a7 {r : Nat} (h : RoomAt r) : S0.1[r + 8]? = some (.inr (0, 7)) := by
  obtain ⟨a, b, c⟩ := rm_all r h.1 h.2 7 (by decide)
  rw [sh_at (Nat.lt_trans a (by decide)), b]
theorem rm_r7 {r : Nat} (h : RoomAt r) : S0.2 r 13 = some (r + 8) := (rm_all r h.1 h.2 7 (by decide)).2.2
theorem sh_0 : S0.1[0]? = some (.inl 6) := sh_at (k := 0) (by decide)
theorem sh_1 : S0.1[1]? = some (.inr (3, 8)) := sh_at (k := 1) (by decide)
theorem sh_2 : S0.1[2]? = some (.inl 5) := sh_at (k := 2) (by decide)
theorem sh_3 : S0.1[3]? = some (.inr (0, 120)) := sh_at (k := 3) (by decide)
theorem sh_22 : S0.1[22]? = some (.inr (2, 2)) := sh_at (k := 22) (by decide)
theorem sh_23 : S0.1[23]? = some (.inl 2) := sh_at (k := 23) (by decide)
theorem sh_24 : S0.1[24]? = some (.inr (2, 24)) := sh_at (k := 24) (by decide)
theorem sh_241 : S0.1[241]? = some (.inl 1) := sh_at (k := 241) (by decide)
theorem sh_251 : S0.1[251]? = some (.inr (2, 9)) := sh_at (k := 251) (by decide)
theorem sh_252 : S0.1[252]? = some (.inr (0, 12)) := sh_at (k := 252) (by decide)
theorem sh_334 : S0.1[334]? = some (.inl 0) := sh_at (k := 334) (by decide)
theorem sh_335 : S0.1[335]? = some (.inr (0, 16)) := sh_at (k := 335) (by decide)
theorem sh_370 : S0.1[370]? = some (.inl 7) := sh_at (k := 370) (by decide)
theorem sh_371 : S0.1[371]? = some (.inr (0, 252)) := sh_at (k := 371) (by decide)
theorem sh_372 : S0.1[372]? = some (.inr (1, 2)) := sh_at (k := 372) (by decide)
theorem sh_373 : S0.1[373]? = some (.inr (0, 912)) := sh_at (k := 373) (by decide)
theorem sh_374 : S0.1[374]? = some (.inr (0, 320)) := sh_at (k := 374) (by decide)
theorem sh_375 : S0.1[375]? = some (.inr (0, 8)) := sh_at (k := 375) (by decide)
theorem sh_376 : S0.1[376]? = some (.inr (0, 8)) := sh_at (k := 376) (by decide)
theorem sh_377 : S0.1[377]? = some (.inr (0, 120)) := sh_at (k := 377) (by decide)
theorem sh_378 : S0.1[378]? = some (.inr (0, 16)) := sh_at (k := 378) (by decide)
theorem sh_379 : S0.1[379]? = some (.inr (0, 40)) := sh_at (k := 379) (by decide)
theorem sh_380 : S0.1[380]? = some (.inr (1, 7)) := sh_at (k := 380) (by decide)
theorem rf_0_0 : S0.2 0 0 = some 1 := rfl
theorem rf_0_1 : S0.2 0 1 = some 2 := rfl
theorem rf_0_2 : S0.2 0 2 = some 4 := rfl
theorem rf_0_3 : S0.2 0 3 = some 13 := rfl
theorem rf_0_4 : S0.2 0 4 = some 22 := rfl
theorem rf_0_5 : S0.2 0 5 = some 23 := rfl
theorem rf_0_6 : S0.2 0 6 = some 241 := rfl
theorem rf_0_7 : S0.2 0 7 = some 334 := rfl
theorem rf_2_0 : S0.2 2 0 = some 3 := rfl
theorem rf_23_0 : S0.2 23 0 = some 24 := rfl
theorem rf_241_0 : S0.2 241 0 = some 242 := rfl
theorem rf_241_1 : S0.2 241 1 = some 251 := rfl
theorem rf_241_2 : S0.2 241 2 = some 252 := rfl
theorem rf_334_0 : S0.2 334 0 = some 335 := rfl
theorem rf_370_0 : S0.2 370 0 = some 371 := rfl
theorem rf_370_1 : S0.2 370 1 = some 372 := rfl
theorem rf_370_2 : S0.2 370 2 = some 373 := rfl
theorem rf_370_4 : S0.2 370 4 = some 374 := rfl
theorem rf_370_5 : S0.2 370 5 = some 375 := rfl
theorem rf_370_6 : S0.2 370 6 = some 376 := rfl
theorem rf_370_8 : S0.2 370 8 = some 377 := rfl
theorem rf_370_11 : S0.2 370 11 = some 378 := rfl
theorem rf_370_13 : S0.2 370 13 = some 379 := rfl
theorem rf_370_17 : S0.2 370 17 = some 380 := rfl
theorem room_4 : RoomAt 4 := ⟨by decide, rfl⟩
theorem room_13 : RoomAt 13 := ⟨by decide, rfl⟩
theorem room_242 : RoomAt 242 := ⟨by decide, rfl⟩
theorem rfa_1 : ∀ a, a < 8 → S0.2 1 a = some (336 + 2 * a) ∧ (336 + 2 * a < 370 ∧ shf (336 + 2 * a) = .inl 4) := by decide +kernel
theorem rfa_22 : ∀ a, a < 2 → S0.2 22 a = some (352 + 9 * a) ∧ (352 + 9 * a < 370 ∧ shf (352 + 9 * a) = .inl 3) := by decide +kernel
theorem rfa_24 : ∀ a, a < 24 → S0.2 24 a = some (25 + 9 * a) ∧ (25 + 9 * a < 370 ∧ shf (25 + 9 * a) = .inl 3) := by decide +kernel
theorem rfa_251 : ∀ a, a < 9 → S0.2 251 a = some (253 + 9 * a) ∧ (253 + 9 * a < 370 ∧ shf (253 + 9 * a) = .inl 3) := by decide +kernel
theorem ix_lt {n a : Nat} {i : Int32} (h : ix n i = some a) : a < n := by
  obtain ⟨h1, h2⟩ := ix_e h
  subst h2
  exact Nat.not_le.mp (fun q => wd_vin h1 (Or.inr q))
def FU : Nat := 1000
def bo (v : Int32) : Option Int32 := if v = 0 ∨ v = 1 then some v else none
theorem bo_e {v x : Int32} (h : bo v = some x) : v = x ∧ (v = 0 ∨ v = 1) := by
  unfold bo at h
  split at h
  · rename_i hc; exact ⟨Option.some.inj h, hc⟩
  · cases h
def nz (v : Int32) : Option Int32 := if v = 0 then none else some v
theorem nz_e {v x : Int32} (h : nz v = some x) : v = x ∧ ¬ v = 0 := by
  unfold nz at h
  split at h
  · cases h
  · rename_i hc; exact ⟨Option.some.inj h, hc⟩
def nzL (v : Int64) : Option Int64 := if v = 0 then none else some v
theorem nzL_e {v x : Int64} (h : nzL v = some x) : v = x ∧ ¬ v = 0 := by
  unfold nzL at h
  split at h
  · cases h
  · rename_i hc; exact ⟨Option.some.inj h, hc⟩
section W8
variable {p : Program} {l : Launch} {e : Env} {R : Room} {s : State} {m : MethodId} {args : Array Value} {below : List Frame} {meth : Method} {c : Code} {H : Heap} {locs : List Loc} {cells slots : Nat} {Q : State → Prop}
variable {cc : ByteArray} {pc : Nat} {ls : Array Slot} {rest : List Value} {X : wd_X} {S : wd_S} {D : wd_D} {nL idx : Nat} {own : String}
theorem wd_aret {k : Nat} {rt : FieldType} (CF : CallFix p m c cc nL s args tg own) (hr : meth.sig.returnType = some rt) (hrt : (∃ n, rt = .object n) ∨ ∃ t, rt = .array t) (hk : meth.locks = false) (hW : Wd X S D H) (hS : va_S (wd_A X) s.heap H locs) (hdg : decode cc pc = .ok (.areturn, 1)) : W p l e R s m args below meth c H locs cells slots (MQ below (wd_Q X S D (some (.ref (X.2.2.1 + k)))) args s cells slots (wd_A X)) (F0 m pc ls [.ref (X.2.2.1 + k)]) :=
  W.aret CF.1 CF.2.1 hr hrt (Or.inr ⟨_, rfl⟩) (fun t ht _ => ⟨rfl, by rw [ht]; exact hW, hS.F ht⟩) hS.2.2 hdg hk
end W8
