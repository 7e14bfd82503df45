/-! constructors of the small ones -/
def ZA (S : wd_S) (D : wd_D) (n : Nat) : Prop := ∀ i, n ≤ i → Zr S D i
theorem ZA.at {S : wd_S} {D : wd_D} {n : Nat} (h : ZA S D n) (e : S.1.length = n) : Zr S D S.1.length := h _ (by omega)
theorem ZA.p {S : wd_S} {D : wd_D} {n : Nat} {sh : wd_Sh} (h : ZA S D n) : ZA (pS S sh) D (n + 1) := fun i hi => h i (by omega)
theorem ZA.s {S : wd_S} {D : wd_D} {n k j q : Nat} (h : ZA S D n) (hk : k < n) : ZA (sS S k j q) D n := fun i hi b => by
  obtain ⟨z1, z2, z3⟩ := h i hi b
  refine ⟨z1, z2, ?_⟩
  show (if i = k ∧ b = j then some q else S.2 i b) = none
  rw [if_neg (by omega)]; exact z3
theorem pS_l {S : wd_S} {sh : wd_Sh} {n : Nat} (h : S.1.length = n) : (pS S sh).1.length = n + 1 := by simp [pS, h]
theorem pS_at {S : wd_S} {sh x : wd_Sh} {k : Nat} (h : S.1[k]? = some x) : (pS S sh).1[k]? = some x := by
  show (S.1 ++ [sh])[k]? = some x
  rw [List.getElem?_append_left (List.getElem?_eq_some_iff.mp h).1]; exact h
theorem pS_new {S : wd_S} {sh : wd_Sh} {n : Nat} (h : S.1.length = n) : (pS S sh).1[n]? = some sh := by
  subst h
  show (S.1 ++ [sh])[S.1.length]? = some sh
  simp

def tpS (S : wd_S) (k : Nat) : wd_S := sS (pS S (.inr (0, 120))) k 0 (k + 1)
theorem tpS_e {S : wd_S} {k : Nat} (h : S.1.length = k + 1) : sS (pS S (.inr (0, 120))) k 0 (S.1.length + 0) = tpS S k := by
  rw [h]; rfl
theorem n_X5 (l : Launch) (X : wd_X) (S : wd_S) (D : wd_D) (k : Nat) (hl0 : S.1.length = k + 1) (hs0 : S.1[k]? = some (.inl 5)) (hz0 : ZA S D (k + 1)) : wd_New l X yX5_init cX5_init 1 ({ frames := 1, cells := 1, slots := 120, locals := 40 }) S (tpS S k) k D D 1 120 := by
  refine wd_enterI (by decide) (by decide) ?_
  intro p e s m below meth c CF hret hlk hnm hW hE hb0 hsz ls hl
  have CF : CallFix p m c cX5_init 1 s ([.ref (X.2.2.1 + k)] : List Value).toArray tg RX5 := CF
  have hx := CF.1
  have hb := CF.2.1
  have hS : va_S (wd_A X) s.heap s.heap [] := va_S.rf
  refine lv_aload_n hx hb dX5_init_0 rfl (lv_at hl 0 rfl) ?_
  refine wd_obj CF hl.1 tw27 dX5_init_1 (by decide) (by decide) ?_
  refine lv_aload_n hx hb dX5_init_4 rfl (lv_at hl 0 rfl) ?_
  refine lv_bipush (v := 120) hx hb dX5_init_5 (by decide) ?_
  refine wd_newI CF hE hW hS hb0 (by rw [hl0]; omega) 120 (by decide) (by decide) (by decide) (hz0.at hl0) (Nat.le_of_ble_eq_true rfl) (Nat.le_of_ble_eq_true rfl) dX5_init_7 (fun H hW hS => ?_)
  refine wd_putR CF hE hW hS hnm (k := k) (q := S.1.length + 0) fl_X5_9 (pS_at hs0) (fun _ => rfl) rfl rfl (fun _ => rfl) (fun _ => rfl) dX5_init_9 (fun H locs hW hS => ?_)
  obtain ⟨S1, eS1⟩ : ∃ z, z = sS (pS S (.inr (0, 120))) k 0 (S.1.length + 0) := ⟨_, rfl⟩
  rw [← eS1] at hW
  have hl1 : S1.1.length = k + 1 + 1 := by rw [eS1]; exact pS_l hl0
  have hs1 : S1.1[k]? = some (.inl 5) := by rw [eS1]; exact pS_at hs0
  have hz1 : ZA S1 D (k + 1 + 1) := by rw [eS1]; exact (hz0.p).s (by omega)
  have eT : S1 = tpS S k := by
    rw [eS1]
    exact tpS_e hl0
  rw [eT] at hW
  exact wd_vret CF hret hlk hW hS dX5_init_12
def asS (S : wd_S) (k : Nat) : wd_S := sS (pS S (.inr (0, 16))) k 0 (k + 1)
theorem asS_e {S : wd_S} {k : Nat} (h : S.1.length = k + 1) : sS (pS S (.inr (0, 16))) k 0 (S.1.length + 0) = asS S k := by
  rw [h]; rfl
theorem n_X0 (l : Launch) (X : wd_X) (S : wd_S) (D : wd_D) (k : Nat) (hl0 : S.1.length = k + 1) (hs0 : S.1[k]? = some (.inl 0)) (hz0 : ZA S D (k + 1)) : wd_New l X yX0_init cX0_init 1 ({ frames := 1, cells := 1, slots := 16, locals := 40 }) S (asS S k) k D D 1 16 := by
  refine wd_enterI (by decide) (by decide) ?_
  intro p e s m below meth c CF hret hlk hnm hW hE hb0 hsz ls hl
  have CF : CallFix p m c cX0_init 1 s ([.ref (X.2.2.1 + k)] : List Value).toArray tg RX0 := CF
  have hx := CF.1
  have hb := CF.2.1
  have hS : va_S (wd_A X) s.heap s.heap [] := va_S.rf
  refine lv_aload_n hx hb dX0_init_0 rfl (lv_at hl 0 rfl) ?_
  refine wd_obj CF hl.1 tw183 dX0_init_1 (by decide) (by decide) ?_
  refine lv_aload_n hx hb dX0_init_4 rfl (lv_at hl 0 rfl) ?_
  refine lv_bipush (v := 16) hx hb dX0_init_5 (by decide) ?_
  refine wd_newI CF hE hW hS hb0 (by rw [hl0]; omega) 16 (by decide) (by decide) (by decide) (hz0.at hl0) (Nat.le_of_ble_eq_true rfl) (Nat.le_of_ble_eq_true rfl) dX0_init_7 (fun H hW hS => ?_)
  refine wd_putR CF hE hW hS hnm (k := k) (q := S.1.length + 0) fl_X0_9 (pS_at hs0) (fun _ => rfl) rfl rfl (fun _ => rfl) (fun _ => rfl) dX0_init_9 (fun H locs hW hS => ?_)
  obtain ⟨S1, eS1⟩ : ∃ z, z = sS (pS S (.inr (0, 16))) k 0 (S.1.length + 0) := ⟨_, rfl⟩
  rw [← eS1] at hW
  have hl1 : S1.1.length = k + 1 + 1 := by rw [eS1]; exact pS_l hl0
  have hs1 : S1.1[k]? = some (.inl 0) := by rw [eS1]; exact pS_at hs0
  have hz1 : ZA S1 D (k + 1 + 1) := by rw [eS1]; exact (hz0.p).s (by omega)
  have eT : S1 = asS S k := by
    rw [eS1]
    exact asS_e hl0
  rw [eT] at hW
  exact wd_vret CF hret hlk hW hS dX0_init_12
def rwS (S : wd_S) (k : Nat) : wd_S := sS (pS S (.inr (0, 40))) k 0 (k + 1)
theorem rwS_e {S : wd_S} {k : Nat} (h : S.1.length = k + 1) : sS (pS S (.inr (0, 40))) k 0 (S.1.length + 0) = rwS S k := by
  rw [h]; rfl
theorem n_X4 (l : Launch) (X : wd_X) (S : wd_S) (D : wd_D) (k : Nat) (hl0 : S.1.length = k + 1) (hs0 : S.1[k]? = some (.inl 4)) (hz0 : ZA S D (k + 1)) : wd_New l X yX4_init cX4_init 1 ({ frames := 1, cells := 1, slots := 40, locals := 40 }) S (rwS S k) k D (sI D k 1 (-1)) 1 40 := by
  refine wd_enterI (by decide) (by decide) ?_
  intro p e s m below meth c CF hret hlk hnm hW hE hb0 hsz ls hl
  have CF : CallFix p m c cX4_init 1 s ([.ref (X.2.2.1 + k)] : List Value).toArray tg RX4 := CF
  have hx := CF.1
  have hb := CF.2.1
  have hS : va_S (wd_A X) s.heap s.heap [] := va_S.rf
  refine lv_aload_n hx hb dX4_init_0 rfl (lv_at hl 0 rfl) ?_
  refine wd_obj CF hl.1 tw212 dX4_init_1 (by decide) (by decide) ?_
  refine lv_aload_n hx hb dX4_init_4 rfl (lv_at hl 0 rfl) ?_
  refine lv_bipush (v := 40) hx hb dX4_init_5 (by decide) ?_
  refine wd_newI CF hE hW hS hb0 (by rw [hl0]; omega) 40 (by decide) (by decide) (by decide) (hz0.at hl0) (Nat.le_of_ble_eq_true rfl) (Nat.le_of_ble_eq_true rfl) dX4_init_7 (fun H hW hS => ?_)
  refine wd_putR CF hE hW hS hnm (k := k) (q := S.1.length + 0) fl_X4_9 (pS_at hs0) (fun _ => rfl) rfl rfl (fun _ => rfl) (fun _ => rfl) dX4_init_9 (fun H locs hW hS => ?_)
  obtain ⟨S1, eS1⟩ : ∃ z, z = sS (pS S (.inr (0, 40))) k 0 (S.1.length + 0) := ⟨_, rfl⟩
  rw [← eS1] at hW
  have hl1 : S1.1.length = k + 1 + 1 := by rw [eS1]; exact pS_l hl0
  have hs1 : S1.1[k]? = some (.inl 4) := by rw [eS1]; exact pS_at hs0
  have hz1 : ZA S1 D (k + 1 + 1) := by rw [eS1]; exact (hz0.p).s (by omega)
  have eT : S1 = rwS S k := by
    rw [eS1]
    exact rwS_e hl0
  rw [eT] at hW
  have hsT : (rwS S k).1[k]? = some (.inl 4) := by rw [← eT]; exact hs1
  refine lv_aload_n hx hb dX4_init_12 rfl (lv_at hl 0 rfl) ?_
  refine lv_iconst (v := -1) hx hb dX4_init_13 (by decide) ?_
  refine wd_putI CF hE hW hS fl_X4_15 hsT rfl rfl dX4_init_14 (fun D1 H locs eD1 hW hS => ?_)
  subst eD1
  exact wd_vret CF hret hlk hW hS dX4_init_17
def rmS (S : wd_S) (k : Nat) : wd_S := (S.1 ++ List.replicate 8 (.inr (0, 7)), fun a b => if a = k ∧ 6 ≤ b ∧ b < 14 then some (k + (b - 5)) else S.2 a b)
theorem rmS_e {S : wd_S} {k : Nat} (h : S.1.length = k + 1) : (sS (pS (sS (pS (sS (pS (sS (pS (sS (pS (sS (pS (sS (pS (sS (pS S (.inr (0, 7))) k 6 (S.1.length + 0)) (.inr (0, 7))) k 7 (S.1.length + 1)) (.inr (0, 7))) k 8 (S.1.length + 2)) (.inr (0, 7))) k 9 (S.1.length + 3)) (.inr (0, 7))) k 10 (S.1.length + 4)) (.inr (0, 7))) k 11 (S.1.length + 5)) (.inr (0, 7))) k 12 (S.1.length + 6)) (.inr (0, 7))) k 13 (S.1.length + 7)) = rmS S k := by
  refine Prod.ext ?_ ?_
  · show S.1 ++ _ ++ _ ++ _ ++ _ ++ _ ++ _ ++ _ ++ _ = S.1 ++ List.replicate 8 _
    simp [List.replicate]
  · funext a b
    simp only [sS, pS, rmS, h]
    by_cases ha : a = k
    · subst ha
      rcases (show b = 6 ∨ b = 7 ∨ b = 8 ∨ b = 9 ∨ b = 10 ∨ b = 11 ∨ b = 12 ∨ b = 13 ∨ (b < 6 ∨ 14 ≤ b) by omega) with rfl | rfl | rfl | rfl | rfl | rfl | rfl | rfl | hb <;> try simp
      rw [if_neg (by omega), if_neg (by omega), if_neg (by omega), if_neg (by omega), if_neg (by omega), if_neg (by omega), if_neg (by omega), if_neg (by omega), if_neg (by omega)]
    · simp [ha]
theorem n_X3 (l : Launch) (X : wd_X) (S : wd_S) (D : wd_D) (k : Nat) (hl0 : S.1.length = k + 1) (hs0 : S.1[k]? = some (.inl 3)) (hz0 : ZA S D (k + 1)) : wd_New l X yX3_init cX3_init 1 ({ frames := 1, cells := 8, slots := 56, locals := 40 }) S (rmS S k) k D D 8 56 := by
  refine wd_enterI (by decide) (by decide) ?_
  intro p e s m below meth c CF hret hlk hnm hW hE hb0 hsz ls hl
  have CF : CallFix p m c cX3_init 1 s ([.ref (X.2.2.1 + k)] : List Value).toArray tg RX3 := CF
  have hx := CF.1
  have hb := CF.2.1
  have hS : va_S (wd_A X) s.heap s.heap [] := va_S.rf
  refine lv_aload_n hx hb dX3_init_0 rfl (lv_at hl 0 rfl) ?_
  refine wd_obj CF hl.1 tw47 dX3_init_1 (by decide) (by decide) ?_
  refine lv_aload_n hx hb dX3_init_4 rfl (lv_at hl 0 rfl) ?_
  refine lv_bipush (v := 7) hx hb dX3_init_5 (by decide) ?_
  refine wd_newI CF hE hW hS hb0 (by rw [hl0]; omega) 7 (by decide) (by decide) (by decide) (hz0.at hl0) (Nat.le_of_ble_eq_true rfl) (Nat.le_of_ble_eq_true rfl) dX3_init_7 (fun H hW hS => ?_)
  refine wd_putR CF hE hW hS hnm (k := k) (q := S.1.length + 0) fl_X3_9 (pS_at hs0) (fun _ => rfl) rfl rfl (fun _ => rfl) (fun _ => rfl) dX3_init_9 (fun H locs hW hS => ?_)
  obtain ⟨S1, eS1⟩ : ∃ z, z = sS (pS S (.inr (0, 7))) k 6 (S.1.length + 0) := ⟨_, rfl⟩
  rw [← eS1] at hW
  have hl1 : S1.1.length = k + 1 + 1 := by rw [eS1]; exact pS_l hl0
  have hs1 : S1.1[k]? = some (.inl 3) := by rw [eS1]; exact pS_at hs0
  have hz1 : ZA S1 D (k + 1 + 1) := by rw [eS1]; exact (hz0.p).s (by omega)
  refine lv_aload_n hx hb dX3_init_12 rfl (lv_at hl 0 rfl) ?_
  refine lv_bipush (v := 7) hx hb dX3_init_13 (by decide) ?_
  refine wd_newI CF hE hW hS hb0 (by rw [hl1]; omega) 7 (by decide) (by decide) (by decide) (hz1.at hl1) (Nat.le_of_ble_eq_true rfl) (Nat.le_of_ble_eq_true rfl) dX3_init_15 (fun H hW hS => ?_)
  rw [hl1, show k + 1 + 1 = S.1.length + 1 by omega]
  refine wd_putR CF hE hW hS hnm (k := k) (q := S.1.length + 1) fl_X3_15 (pS_at hs1) (fun _ => rfl) rfl rfl (fun _ => rfl) (fun _ => rfl) dX3_init_17 (fun H locs hW hS => ?_)
  obtain ⟨S2, eS2⟩ : ∃ z, z = sS (pS S1 (.inr (0, 7))) k 7 (S.1.length + 1) := ⟨_, rfl⟩
  rw [← eS2] at hW
  have hl2 : S2.1.length = k + 1 + 2 := by rw [eS2]; exact pS_l hl1
  have hs2 : S2.1[k]? = some (.inl 3) := by rw [eS2]; exact pS_at hs1
  have hz2 : ZA S2 D (k + 1 + 2) := by rw [eS2]; exact (hz1.p).s (by omega)
  refine lv_aload_n hx hb dX3_init_20 rfl (lv_at hl 0 rfl) ?_
  refine lv_bipush (v := 7) hx hb dX3_init_21 (by decide) ?_
  refine wd_newI CF hE hW hS hb0 (by rw [hl2]; omega) 7 (by decide) (by decide) (by decide) (hz2.at hl2) (Nat.le_of_ble_eq_true rfl) (Nat.le_of_ble_eq_true rfl) dX3_init_23 (fun H hW hS => ?_)
  rw [hl2, show k + 1 + 2 = S.1.length + 2 by omega]
  refine wd_putR CF hE hW hS hnm (k := k) (q := S.1.length + 2) fl_X3_18 (pS_at hs2) (fun _ => rfl) rfl rfl (fun _ => rfl) (fun _ => rfl) dX3_init_25 (fun H locs hW hS => ?_)
  obtain ⟨S3, eS3⟩ : ∃ z, z = sS (pS S2 (.inr (0, 7))) k 8 (S.1.length + 2) := ⟨_, rfl⟩
  rw [← eS3] at hW
  have hl3 : S3.1.length = k + 1 + 3 := by rw [eS3]; exact pS_l hl2
  have hs3 : S3.1[k]? = some (.inl 3) := by rw [eS3]; exact pS_at hs2
  have hz3 : ZA S3 D (k + 1 + 3) := by rw [eS3]; exact (hz2.p).s (by omega)
  refine lv_aload_n hx hb dX3_init_28 rfl (lv_at hl 0 rfl) ?_
  refine lv_bipush (v := 7) hx hb dX3_init_29 (by decide) ?_
  refine wd_newI CF hE hW hS hb0 (by rw [hl3]; omega) 7 (by decide) (by decide) (by decide) (hz3.at hl3) (Nat.le_of_ble_eq_true rfl) (Nat.le_of_ble_eq_true rfl) dX3_init_31 (fun H hW hS => ?_)
  rw [hl3, show k + 1 + 3 = S.1.length + 3 by omega]
  refine wd_putR CF hE hW hS hnm (k := k) (q := S.1.length + 3) fl_X3_21 (pS_at hs3) (fun _ => rfl) rfl rfl (fun _ => rfl) (fun _ => rfl) dX3_init_33 (fun H locs hW hS => ?_)
  obtain ⟨S4, eS4⟩ : ∃ z, z = sS (pS S3 (.inr (0, 7))) k 9 (S.1.length + 3) := ⟨_, rfl⟩
  rw [← eS4] at hW
  have hl4 : S4.1.length = k + 1 + 4 := by rw [eS4]; exact pS_l hl3
  have hs4 : S4.1[k]? = some (.inl 3) := by rw [eS4]; exact pS_at hs3
  have hz4 : ZA S4 D (k + 1 + 4) := by rw [eS4]; exact (hz3.p).s (by omega)
  refine lv_aload_n hx hb dX3_init_36 rfl (lv_at hl 0 rfl) ?_
  refine lv_bipush (v := 7) hx hb dX3_init_37 (by decide) ?_
  refine wd_newI CF hE hW hS hb0 (by rw [hl4]; omega) 7 (by decide) (by decide) (by decide) (hz4.at hl4) (Nat.le_of_ble_eq_true rfl) (Nat.le_of_ble_eq_true rfl) dX3_init_39 (fun H hW hS => ?_)
  rw [hl4, show k + 1 + 4 = S.1.length + 4 by omega]
  refine wd_putR CF hE hW hS hnm (k := k) (q := S.1.length + 4) fl_X3_24 (pS_at hs4) (fun _ => rfl) rfl rfl (fun _ => rfl) (fun _ => rfl) dX3_init_41 (fun H locs hW hS => ?_)
  obtain ⟨S5, eS5⟩ : ∃ z, z = sS (pS S4 (.inr (0, 7))) k 10 (S.1.length + 4) := ⟨_, rfl⟩
  rw [← eS5] at hW
  have hl5 : S5.1.length = k + 1 + 5 := by rw [eS5]; exact pS_l hl4
  have hs5 : S5.1[k]? = some (.inl 3) := by rw [eS5]; exact pS_at hs4
  have hz5 : ZA S5 D (k + 1 + 5) := by rw [eS5]; exact (hz4.p).s (by omega)
  refine lv_aload_n hx hb dX3_init_44 rfl (lv_at hl 0 rfl) ?_
  refine lv_bipush (v := 7) hx hb dX3_init_45 (by decide) ?_
  refine wd_newI CF hE hW hS hb0 (by rw [hl5]; omega) 7 (by decide) (by decide) (by decide) (hz5.at hl5) (Nat.le_of_ble_eq_true rfl) (Nat.le_of_ble_eq_true rfl) dX3_init_47 (fun H hW hS => ?_)
  rw [hl5, show k + 1 + 5 = S.1.length + 5 by omega]
  refine wd_putR CF hE hW hS hnm (k := k) (q := S.1.length + 5) fl_X3_27 (pS_at hs5) (fun _ => rfl) rfl rfl (fun _ => rfl) (fun _ => rfl) dX3_init_49 (fun H locs hW hS => ?_)
  obtain ⟨S6, eS6⟩ : ∃ z, z = sS (pS S5 (.inr (0, 7))) k 11 (S.1.length + 5) := ⟨_, rfl⟩
  rw [← eS6] at hW
  have hl6 : S6.1.length = k + 1 + 6 := by rw [eS6]; exact pS_l hl5
  have hs6 : S6.1[k]? = some (.inl 3) := by rw [eS6]; exact pS_at hs5
  have hz6 : ZA S6 D (k + 1 + 6) := by rw [eS6]; exact (hz5.p).s (by omega)
  refine lv_aload_n hx hb dX3_init_52 rfl (lv_at hl 0 rfl) ?_
  refine lv_bipush (v := 7) hx hb dX3_init_53 (by decide) ?_
  refine wd_newI CF hE hW hS hb0 (by rw [hl6]; omega) 7 (by decide) (by decide) (by decide) (hz6.at hl6) (Nat.le_of_ble_eq_true rfl) (Nat.le_of_ble_eq_true rfl) dX3_init_55 (fun H hW hS => ?_)
  rw [hl6, show k + 1 + 6 = S.1.length + 6 by omega]
  refine wd_putR CF hE hW hS hnm (k := k) (q := S.1.length + 6) fl_X3_30 (pS_at hs6) (fun _ => rfl) rfl rfl (fun _ => rfl) (fun _ => rfl) dX3_init_57 (fun H locs hW hS => ?_)
  obtain ⟨S7, eS7⟩ : ∃ z, z = sS (pS S6 (.inr (0, 7))) k 12 (S.1.length + 6) := ⟨_, rfl⟩
  rw [← eS7] at hW
  have hl7 : S7.1.length = k + 1 + 7 := by rw [eS7]; exact pS_l hl6
  have hs7 : S7.1[k]? = some (.inl 3) := by rw [eS7]; exact pS_at hs6
  have hz7 : ZA S7 D (k + 1 + 7) := by rw [eS7]; exact (hz6.p).s (by omega)
  refine lv_aload_n hx hb dX3_init_60 rfl (lv_at hl 0 rfl) ?_
  refine lv_bipush (v := 7) hx hb dX3_init_61 (by decide) ?_
  refine wd_newI CF hE hW hS hb0 (by rw [hl7]; omega) 7 (by decide) (by decide) (by decide) (hz7.at hl7) (Nat.le_of_ble_eq_true rfl) (Nat.le_of_ble_eq_true rfl) dX3_init_63 (fun H hW hS => ?_)
  rw [hl7, show k + 1 + 7 = S.1.length + 7 by omega]
  refine wd_putR CF hE hW hS hnm (k := k) (q := S.1.length + 7) fl_X3_33 (pS_at hs7) (fun _ => rfl) rfl rfl (fun _ => rfl) (fun _ => rfl) dX3_init_65 (fun H locs hW hS => ?_)
  obtain ⟨S8, eS8⟩ : ∃ z, z = sS (pS S7 (.inr (0, 7))) k 13 (S.1.length + 7) := ⟨_, rfl⟩
  rw [← eS8] at hW
  have hl8 : S8.1.length = k + 1 + 8 := by rw [eS8]; exact pS_l hl7
  have hs8 : S8.1[k]? = some (.inl 3) := by rw [eS8]; exact pS_at hs7
  have hz8 : ZA S8 D (k + 1 + 8) := by rw [eS8]; exact (hz7.p).s (by omega)
  have eT : S8 = rmS S k := by
    rw [eS8, eS7, eS6, eS5, eS4, eS3, eS2, eS1]
    exact rmS_e hl0
  rw [eT] at hW
  exact wd_vret CF hret hlk hW hS dX3_init_68
