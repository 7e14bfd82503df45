/-! X7_in, X7_has, X7_ones, X7_found, X7_good, X7_isRow, X7_row, X7_set, X7_fits, X7_copy, X7_drop, X7_against, X7_feed, X7_byteAt, X7_fails, X7_takes, X7_takesNumber, X7_takesLaw, X7_kindOf, X7_takesChild, X7_copyAll, X7_room, X7_fault, X7_isRoom, X7_isChild, X7_off, X7_isOut, X7_noiseAt -/
def f_X7_in (a0 : Int64) (a2 : Int64) (a4 : Int64) : Int32 := (if (lg_cmp a0 a2) < 0 then 0 else (if 0 < (lg_cmp a0 a4) then 0 else 1))
theorem z_X7_in (a0 : Int64) (a2 : Int64) (a4 : Int64) : f_X7_in a0 a2 a4 = 0 ∨ f_X7_in a0 a2 a4 = 1 := by
  unfold f_X7_in
  (repeat' split) <;> first | exact Or.inl rfl | exact Or.inr rfl
set_option maxHeartbeats 4000000 in
set_option maxRecDepth 100000 in
theorem x_X7_in (l : Launch) (X : wd_X) (a0 : Int64) (a2 : Int64) (a4 : Int64) (D : wd_D) : wd_Met l X yX7_in cX7_in 6 (some FieldType.boolean) ({ frames := 0, cells := 0, slots := 0, locals := 0 }) S0 S0 ([.long a0, .long a2, .long a4] : List Value) D D (some (.int (f_X7_in a0 a2 a4))) 0 0 := by
  obtain ⟨rv, h⟩ : ∃ rv, f_X7_in a0 a2 a4 = rv := ⟨_, rfl⟩
  rw [h]
  refine wd_enter (by decide) (Nat.le_of_ble_eq_true rfl) ?_
  intro p e s m below meth c CF hret hlk hnm hW hE ls hl
  have CF : CallFix p m c cX7_in 6 s ([.long a0, .long a2, .long a4] : List Value).toArray tg RX7 := CF
  have hx := CF.1
  have hb := CF.2.1
  have hown := CF.2.2.2.1
  have hts := CF.2.2.2.2
  have hS : va_S (wd_A X) s.heap s.heap [] := va_S.rf
  have hl : lv_has ls 6 [(0, .long a0), (2, .long a2), (4, .long a4)] := hl
  unfold f_X7_in at h
  refine lv_lload_n hx hb dX7_in_0 rfl (lv_at hl 0 rfl) ?_
  refine lv_lload_n hx hb dX7_in_1 rfl (lv_at hl 1 rfl) ?_
  refine W.lcmp hx hb dX7_in_2 ?_
  refine lv_if_lt (tgt := 17) hx hb dX7_in_3 (by decide) (fun c1 => ?_) (fun c1 => ?_)
  · rw [if_pos c1] at h
    refine lv_iconst (v := 0) hx hb dX7_in_17 (by decide) ?_
    subst h
    exact wd_zret CF hret hlk hW hS (Or.inl rfl) dX7_in_18
  · rw [if_neg c1] at h
    refine lv_lload_n hx hb dX7_in_6 rfl (lv_at hl 0 rfl) ?_
    refine lv_lload hx hb dX7_in_7 (lv_at hl 2 rfl) ?_
    refine W.lcmp hx hb dX7_in_9 ?_
    refine lv_if_gt (tgt := 17) hx hb dX7_in_10 (by decide) (fun c2 => ?_) (fun c2 => ?_)
    · rw [if_pos c2] at h
      refine lv_iconst (v := 0) hx hb dX7_in_17 (by decide) ?_
      subst h
      exact wd_zret CF hret hlk hW hS (Or.inl rfl) dX7_in_18
    · rw [if_neg c2] at h
      refine lv_iconst (v := 1) hx hb dX7_in_13 (by decide) ?_
      refine lv_goto (tgt := 18) hx hb dX7_in_14 (by decide) ?_
      subst h
      exact wd_zret CF hret hlk hW hS (Or.inr rfl) dX7_in_18
def f_X7_has (a0 : Int32) (a1 : Int32) : Int32 := (if ((a0 >>> (a1 &&& 31)) &&& 1) = 1 then 1 else 0)
theorem z_X7_has (a0 : Int32) (a1 : Int32) : f_X7_has a0 a1 = 0 ∨ f_X7_has a0 a1 = 1 := by
  unfold f_X7_has
  (repeat' split) <;> first | exact Or.inl rfl | exact Or.inr rfl
set_option maxHeartbeats 4000000 in
set_option maxRecDepth 100000 in
theorem x_X7_has (l : Launch) (X : wd_X) (a0 : Int32) (a1 : Int32) (D : wd_D) : wd_Met l X yX7_has cX7_has 2 (some FieldType.boolean) ({ frames := 0, cells := 0, slots := 0, locals := 0 }) S0 S0 ([.int a0, .int a1] : List Value) D D (some (.int (f_X7_has a0 a1))) 0 0 := by
  obtain ⟨rv, h⟩ : ∃ rv, f_X7_has a0 a1 = rv := ⟨_, rfl⟩
  rw [h]
  refine wd_enter (by decide) (Nat.le_of_ble_eq_true rfl) ?_
  intro p e s m below meth c CF hret hlk hnm hW hE ls hl
  have CF : CallFix p m c cX7_has 2 s ([.int a0, .int a1] : List Value).toArray tg RX7 := CF
  have hx := CF.1
  have hb := CF.2.1
  have hown := CF.2.2.2.1
  have hts := CF.2.2.2.2
  have hS : va_S (wd_A X) s.heap s.heap [] := va_S.rf
  have hl : lv_has ls 2 [(0, .int a0), (1, .int a1)] := hl
  unfold f_X7_has at h
  refine lv_iload_n hx hb dX7_has_0 rfl (lv_at hl 0 rfl) ?_
  refine lv_iload_n hx hb dX7_has_1 rfl (lv_at hl 1 rfl) ?_
  refine lv_ishr hx hb dX7_has_2 ?_
  refine lv_iconst (v := 1) hx hb dX7_has_3 (by decide) ?_
  refine lv_iand hx hb dX7_has_4 ?_
  refine lv_iconst (v := 1) hx hb dX7_has_5 (by decide) ?_
  refine lv_icmp_ne (tgt := 13) hx hb dX7_has_6 (by decide) (fun c1 => ?_) (fun c1 => ?_)
  · rw [if_neg c1] at h
    refine lv_iconst (v := 0) hx hb dX7_has_13 (by decide) ?_
    subst h
    exact wd_zret CF hret hlk hW hS (Or.inl rfl) dX7_has_14
  · rw [if_pos c1] at h
    refine lv_iconst (v := 1) hx hb dX7_has_9 (by decide) ?_
    refine lv_goto (tgt := 14) hx hb dX7_has_10 (by decide) ?_
    subst h
    exact wd_zret CF hret hlk hW hS (Or.inr rfl) dX7_has_14
def f_X7_ones_L4  : Nat → Int32 → Int32 → Int32 → Option (Int32)
  | 0, _, _, _ => none
  | n + 1, a0, v1, v2 => (if 7 ≤ v2 then some v1 else ap (v1 + ((a0 >>> (v2 &&& 31)) &&& 1)) (fun x2 => ap (v2 + 1) (fun x3 => (f_X7_ones_L4 n) a0 x2 x3)))
def f_X7_ones (a0 : Int32) : Option (Int32) := f_X7_ones_L4 FU a0 0 0
set_option maxHeartbeats 4000000 in
set_option maxRecDepth 100000 in
theorem x_X7_ones (l : Launch) (X : wd_X) (a0 : Int32) (D : wd_D) {rv : Int32} (h : f_X7_ones a0 = some rv) : wd_Met l X yX7_ones cX7_ones 3 (some FieldType.int) ({ frames := 0, cells := 0, slots := 0, locals := 0 }) S0 S0 ([.int a0] : List Value) D D (some (.int rv)) 0 0 := by
  refine wd_enter (by decide) (Nat.le_of_ble_eq_true rfl) ?_
  intro p e s m below meth c CF hret hlk hnm hW hE ls hl
  have CF : CallFix p m c cX7_ones 3 s ([.int a0] : List Value).toArray tg RX7 := CF
  have hx := CF.1
  have hb := CF.2.1
  have hown := CF.2.2.2.1
  have hts := CF.2.2.2.2
  have hS : va_S (wd_A X) s.heap s.heap [] := va_S.rf
  have hl : lv_has ls 3 [(0, .int a0)] := hl
  unfold f_X7_ones at h
  have hL4 : ∀ (n4 : Nat) (v1 : Int32) (v2 : Int32) (H : Heap) (locs : List Loc) (ls : Array Slot), Wd X S0 D H → va_S (wd_A X) s.heap H locs → lv_has ls 3 [(0, .int a0), (1, .int v1), (2, .int v2)] → f_X7_ones_L4 n4 a0 v1 v2 = some rv → W p l e ({ frames := 0, cells := 0, slots := 0, locals := 0 }) s m ([.int a0] : List Value).toArray below meth c H locs 0 0 (MQ below (wd_Q X S0 D (some (.int rv))) ([.int a0] : List Value).toArray s 0 0 (wd_A X)) (F0 m 4 ls []) := by
    intro n4
    induction n4 with
    | zero => intro v1 v2 H locs ls hW hS hl h; cases h
    | succ n4 ih4 =>
      intro v1 v2 H locs ls hW hS hl h
      rw [f_X7_ones_L4] at h
      refine lv_iload_n hx hb dX7_ones_4 rfl (lv_at hl 2 rfl) ?_
      refine lv_bipush (v := 7) hx hb dX7_ones_5 (by decide) ?_
      refine lv_icmp_ge (tgt := 24) hx hb dX7_ones_7 (by decide) (fun c1 => ?_) (fun c1 => ?_)
      · rw [if_pos c1] at h
        refine lv_iload_n hx hb dX7_ones_24 rfl (lv_at hl 1 rfl) ?_
        have h := Option.some.inj h
        subst h
        exact wd_iret CF hret hlk hW hS dX7_ones_25
      · rw [if_neg c1] at h
        refine lv_iload_n hx hb dX7_ones_10 rfl (lv_at hl 1 rfl) ?_
        refine lv_iload_n hx hb dX7_ones_11 rfl (lv_at hl 0 rfl) ?_
        refine lv_iload_n hx hb dX7_ones_12 rfl (lv_at hl 2 rfl) ?_
        refine lv_ishr hx hb dX7_ones_13 ?_
        refine lv_iconst (v := 1) hx hb dX7_ones_14 (by decide) ?_
        refine lv_iand hx hb dX7_ones_15 ?_
        refine lv_iadd hx hb dX7_ones_16 ?_
        refine lv_topi (fun x2 ex2 => ?_)
        replace h := apR ex2 h
        refine lv_istore_n (lv' := [(1, .int x2), (0, .int a0), (2, .int v2)]) hx hb dX7_ones_17 rfl hl (by decide) rfl (fun ls hl => ?_)
        obtain ⟨x3, ex3⟩ : ∃ y : Int32, y = v2 + 1 := ⟨_, rfl⟩
        replace h := apR ex3 h
        refine lv_iinc (v := x3) (lv' := [(2, .int x3), (1, .int x2), (0, .int a0)]) hx hb dX7_ones_18 hl (k := 2) rfl (by rw [ex3]; rfl) (by decide) rfl (fun ls hl => ?_)
        refine lv_goto (tgt := 4) hx hb dX7_ones_21 (by decide) ?_
        exact ih4 x2 x3 _ _ _  hW hS (lv_sub hl [2, 1, 0] rfl) h
  refine lv_iconst (v := 0) hx hb dX7_ones_0 (by decide) ?_
  refine lv_istore_n (lv' := [(1, .int 0), (0, .int a0)]) hx hb dX7_ones_1 rfl hl (by decide) rfl (fun ls hl => ?_)
  refine lv_iconst (v := 0) hx hb dX7_ones_2 (by decide) ?_
  refine lv_istore_n (lv' := [(2, .int 0), (1, .int 0), (0, .int a0)]) hx hb dX7_ones_3 rfl hl (by decide) rfl (fun ls hl => ?_)
  exact hL4 FU 0 0 _ _ _  hW hS (lv_sub hl [2, 1, 0] rfl) h
def f_X7_found (a1 : Int32) (D : wd_D) : Int32 × wd_D := ap (sI D 370 7 a1) (fun D1 => ((-1000010) - a1, D1))
set_option maxHeartbeats 4000000 in
set_option maxRecDepth 100000 in
theorem x_X7_found (l : Launch) (X : wd_X) (a1 : Int32) (D : wd_D) {qv : Int32 × wd_D} (h : f_X7_found a1 D = qv) : wd_Met l X yX7_found cX7_found 2 (some FieldType.int) ({ frames := 0, cells := 0, slots := 0, locals := 0 }) S0 S0 ([.ref (X.2.2.1 + 370), .int a1] : List Value) D qv.2 (some (.int qv.1)) 0 0 := by
  refine wd_enter (by decide) (Nat.le_of_ble_eq_true rfl) ?_
  intro p e s m below meth c CF hret hlk hnm hW hE ls hl
  have CF : CallFix p m c cX7_found 2 s ([.ref (X.2.2.1 + 370), .int a1] : List Value).toArray tg RX7 := CF
  have hx := CF.1
  have hb := CF.2.1
  have hown := CF.2.2.2.1
  have hts := CF.2.2.2.2
  have hS : va_S (wd_A X) s.heap s.heap [] := va_S.rf
  have hl : lv_has ls 2 [(0, .ref (X.2.2.1 + 370)), (1, .int a1)] := hl
  unfold f_X7_found at h
  refine lv_aload_n hx hb dX7_found_0 rfl (lv_at hl 0 rfl) ?_
  refine lv_iload_n hx hb dX7_found_1 rfl (lv_at hl 1 rfl) ?_
  refine wd_putI CF hE hW hS fl_X7_41 sh_370 rfl rfl dX7_found_2 (fun D1 H locs eD1 hW hS => ?_)
  replace h := apR eD1 h
  refine lv_ldc (v := (-1000010)) hx hb hown (hts _ tw827) dX7_found_5 ?_
  refine lv_iload_n hx hb dX7_found_7 rfl (lv_at hl 1 rfl) ?_
  refine lv_isub hx hb dX7_found_8 ?_
  subst h
  exact wd_iret CF hret hlk hW hS dX7_found_9
def f_X7_good (a1 : Int32) (D : wd_D) : Int32 × wd_D := ap (sI D 370 7 0) (fun D1 => (a1, D1))
set_option maxHeartbeats 4000000 in
set_option maxRecDepth 100000 in
theorem x_X7_good (l : Launch) (X : wd_X) (a1 : Int32) (D : wd_D) {qv : Int32 × wd_D} (h : f_X7_good a1 D = qv) : wd_Met l X yX7_good cX7_good 2 (some FieldType.int) ({ frames := 0, cells := 0, slots := 0, locals := 0 }) S0 S0 ([.ref (X.2.2.1 + 370), .int a1] : List Value) D qv.2 (some (.int qv.1)) 0 0 := by
  refine wd_enter (by decide) (Nat.le_of_ble_eq_true rfl) ?_
  intro p e s m below meth c CF hret hlk hnm hW hE ls hl
  have CF : CallFix p m c cX7_good 2 s ([.ref (X.2.2.1 + 370), .int a1] : List Value).toArray tg RX7 := CF
  have hx := CF.1
  have hb := CF.2.1
  have hown := CF.2.2.2.1
  have hts := CF.2.2.2.2
  have hS : va_S (wd_A X) s.heap s.heap [] := va_S.rf
  have hl : lv_has ls 2 [(0, .ref (X.2.2.1 + 370)), (1, .int a1)] := hl
  unfold f_X7_good at h
  refine lv_aload_n hx hb dX7_good_0 rfl (lv_at hl 0 rfl) ?_
  refine lv_iconst (v := 0) hx hb dX7_good_1 (by decide) ?_
  refine wd_putI CF hE hW hS fl_X7_41 sh_370 rfl rfl dX7_good_2 (fun D1 H locs eD1 hW hS => ?_)
  replace h := apR eD1 h
  refine lv_iload_n hx hb dX7_good_5 rfl (lv_at hl 1 rfl) ?_
  subst h
  exact wd_iret CF hret hlk hW hS dX7_good_6
def f_X7_isRow (a0 : Int32) : Int32 := (f_X7_in a0.toInt64 0 7)
theorem z_X7_isRow (a0 : Int32) : f_X7_isRow a0 = 0 ∨ f_X7_isRow a0 = 1 := by
  unfold f_X7_isRow
  (repeat' split) <;> first | exact Or.inl rfl | exact Or.inr rfl | apply z_X7_in
set_option maxHeartbeats 4000000 in
set_option maxRecDepth 100000 in
theorem x_X7_isRow (l : Launch) (X : wd_X) (a0 : Int32) (D : wd_D) : wd_Met l X yX7_isRow cX7_isRow 1 (some FieldType.boolean) ({ frames := 1, cells := 0, slots := 0, locals := 100 }) S0 S0 ([.int a0] : List Value) D D (some (.int (f_X7_isRow a0))) 0 0 := by
  obtain ⟨rv, h⟩ : ∃ rv, f_X7_isRow a0 = rv := ⟨_, rfl⟩
  rw [h]
  refine wd_enter (by decide) (Nat.le_of_ble_eq_true rfl) ?_
  intro p e s m below meth c CF hret hlk hnm hW hE ls hl
  have CF : CallFix p m c cX7_isRow 1 s ([.int a0] : List Value).toArray tg RX7 := CF
  have hx := CF.1
  have hb := CF.2.1
  have hown := CF.2.2.2.1
  have hts := CF.2.2.2.2
  have hS : va_S (wd_A X) s.heap s.heap [] := va_S.rf
  have hl : lv_has ls 1 [(0, .int a0)] := hl
  unfold f_X7_isRow at h
  refine lv_iload_n hx hb dX7_isRow_0 rfl (lv_at hl 0 rfl) ?_
  refine lv_i2l hx hb dX7_isRow_1 rfl ?_
  refine lv_lconst (v := 0) hx hb dX7_isRow_2 (by decide) ?_
  refine lv_ldc2 (v := 7) hx hb hown (hts _ tw817) dX7_isRow_3 ?_
  refine wd_callSr CF hE hW hS (x_X7_in l X a0.toInt64 0 7 D) mi_X7_in vi_X7_in tw818 ⟨rfl, rfl, Nat.le_of_ble_eq_true rfl, Nat.le_of_ble_eq_true rfl⟩ rfl hl.1 rfl (Nat.le_of_ble_eq_true rfl) dX7_isRow_6 ⟨Nat.le_of_ble_eq_true rfl, Nat.le_of_ble_eq_true rfl⟩ (fun H locs hW hS => ?_)
  subst h
  exact wd_zret CF hret hlk hW hS (z_X7_in a0.toInt64 0 7) dX7_isRow_9
def f_X7_row_L55  : Nat → Int32 → Int32 → Int32 → Int32 → wd_D → Option (Int32 × wd_D)
  | 0, _, _, _, _, _ => none
  | n + 1, a1, a2, a3, v4, D => (if 40 ≤ v4 then ap (f_X7_good a3 D) (fun q9 => some (q9.1, q9.2)) else (wr 320 D 374 ((40 * a1) + v4) 0).bind (fun D10 => ap (v4 + 1) (fun x11 => (f_X7_row_L55 n) a1 a2 a3 x11 D10)))
def f_X7_row (a1 : Int32) (a2 : Int32) (a3 : Int32) (D : wd_D) : Option (Int32 × wd_D) := (if (f_X7_isRow a1) = 0 then some ((-1000001), D) else (if (f_X7_in a2.toInt64 0 2) = 0 then some ((-1000001), D) else (if a3 ≤ 40 then (if 0 ≤ a3 then (wr 8 D 375 a1 a3).bind (fun D5 => (wr 8 D5 376 a1 a2).bind (fun D6 => f_X7_row_L55 FU a1 a2 a3 0 D6)) else ap (f_X7_found 4 D) (fun q7 => some (q7.1, q7.2))) else some ((-1000001), D))))
set_option maxHeartbeats 4000000 in
set_option maxRecDepth 100000 in
theorem x_X7_row (l : Launch) (X : wd_X) (a1 : Int32) (a2 : Int32) (a3 : Int32) (D : wd_D) {qv : Int32 × wd_D} (h : f_X7_row a1 a2 a3 D = some qv) : wd_Met l X yX7_row cX7_row 5 (some FieldType.int) ({ frames := 2, cells := 0, slots := 0, locals := 200 }) S0 S0 ([.ref (X.2.2.1 + 370), .int a1, .int a2, .int a3] : List Value) D qv.2 (some (.int qv.1)) 0 0 := by
  refine wd_enter (by decide) (Nat.le_of_ble_eq_true rfl) ?_
  intro p e s m below meth c CF hret hlk hnm hW hE ls hl
  have CF : CallFix p m c cX7_row 5 s ([.ref (X.2.2.1 + 370), .int a1, .int a2, .int a3] : List Value).toArray tg RX7 := CF
  have hx := CF.1
  have hb := CF.2.1
  have hown := CF.2.2.2.1
  have hts := CF.2.2.2.2
  have hS : va_S (wd_A X) s.heap s.heap [] := va_S.rf
  have hl : lv_has ls 5 [(0, .ref (X.2.2.1 + 370)), (1, .int a1), (2, .int a2), (3, .int a3)] := hl
  unfold f_X7_row at h
  have hL55 : ∀ (n55 : Nat) (v4 : Int32) (D : wd_D) (H : Heap) (locs : List Loc) (ls : Array Slot), Wd X S0 D H → va_S (wd_A X) s.heap H locs → lv_has ls 5 [(0, .ref (X.2.2.1 + 370)), (1, .int a1), (3, .int a3), (4, .int v4)] → f_X7_row_L55 n55 a1 a2 a3 v4 D = some qv → W p l e ({ frames := 2, cells := 0, slots := 0, locals := 200 }) s m ([.ref (X.2.2.1 + 370), .int a1, .int a2, .int a3] : List Value).toArray below meth c H locs 0 0 (MQ below (wd_Q X S0 qv.2 (some (.int qv.1))) ([.ref (X.2.2.1 + 370), .int a1, .int a2, .int a3] : List Value).toArray s 0 0 (wd_A X)) (F0 m 55 ls []) := by
    intro n55
    induction n55 with
    | zero => intro v4 D H locs ls hW hS hl h; cases h
    | succ n55 ih55 =>
      intro v4 D H locs ls hW hS hl h
      rw [f_X7_row_L55] at h
      refine lv_iload hx hb dX7_row_55 (lv_at hl 3 rfl) ?_
      refine lv_bipush (v := 40) hx hb dX7_row_57 (by decide) ?_
      refine lv_icmp_ge (tgt := 81) hx hb dX7_row_59 (by decide) (fun c8 => ?_) (fun c8 => ?_)
      · rw [if_pos c8] at h
        refine lv_aload_n hx hb dX7_row_81 rfl (lv_at hl 0 rfl) ?_
        refine lv_iload_n hx hb dX7_row_82 rfl (lv_at hl 2 rfl) ?_
        obtain ⟨q9, eq9⟩ : ∃ q, q = f_X7_good a3 D := ⟨_, rfl⟩
        replace h := apR eq9 h
        refine wd_callVr (ci := 7) (k := 370) CF hE hW hS (x_X7_good l X a3 D eq9.symm) mi_X7_good vi_X7_good tw828 ⟨by decide, rfl⟩ sh_370 ⟨rfl, rfl, Nat.le_of_ble_eq_true rfl, Nat.le_of_ble_eq_true rfl⟩ rfl hl.1 rfl (Nat.le_of_ble_eq_true rfl) dX7_row_83 ⟨Nat.le_of_ble_eq_true rfl, Nat.le_of_ble_eq_true rfl⟩ (fun H locs hW hS => ?_)
        have h := Option.some.inj h
        subst h
        exact wd_iret CF hret hlk hW hS dX7_row_86
      · rw [if_neg c8] at h
        refine lv_aload_n hx hb dX7_row_62 rfl (lv_at hl 0 rfl) ?_
        refine wd_getR CF hE hW fl_X7_20 sh_370 rf_370_4 rfl dX7_row_63 ?_
        refine lv_bipush (v := 40) hx hb dX7_row_66 (by decide) ?_
        refine lv_iload_n hx hb dX7_row_68 rfl (lv_at hl 1 rfl) ?_
        refine lv_imul hx hb dX7_row_69 ?_
        refine lv_iload hx hb dX7_row_70 (lv_at hl 3 rfl) ?_
        refine lv_iadd hx hb dX7_row_72 ?_
        refine lv_iconst (v := 0) hx hb dX7_row_73 (by decide) ?_
        obtain ⟨D10, eD10, h⟩ := bdE h
        refine wd_iast CF hE hW hS sh_374 eD10 dX7_row_74 (fun H locs hW hS => ?_)
        obtain ⟨x11, ex11⟩ : ∃ y : Int32, y = v4 + 1 := ⟨_, rfl⟩
        replace h := apR ex11 h
        refine lv_iinc (v := x11) (lv' := [(4, .int x11), (0, .ref (X.2.2.1 + 370)), (1, .int a1), (3, .int a3)]) hx hb dX7_row_75 hl (k := 3) rfl (by rw [ex11]; rfl) (by decide) rfl (fun ls hl => ?_)
        refine lv_goto (tgt := 55) hx hb dX7_row_78 (by decide) ?_
        exact ih55 x11 D10 _ _ _  hW hS (lv_sub hl [1, 2, 3, 0] rfl) h
  refine lv_iload_n hx hb dX7_row_0 rfl (lv_at hl 1 rfl) ?_
  refine wd_callSr CF hE hW hS (x_X7_isRow l X a1 D) mi_X7_isRow vi_X7_isRow tw814 ⟨rfl, rfl, Nat.le_of_ble_eq_true rfl, Nat.le_of_ble_eq_true rfl⟩ rfl hl.1 rfl (Nat.le_of_ble_eq_true rfl) dX7_row_1 ⟨Nat.le_of_ble_eq_true rfl, Nat.le_of_ble_eq_true rfl⟩ (fun H locs hW hS => ?_)
  refine lv_if_eq (tgt := 25) hx hb dX7_row_4 (by decide) (fun c1 => ?_) (fun c1 => ?_)
  · rw [if_pos c1] at h
    refine lv_ldc (v := (-1000001)) hx hb hown (hts _ tw822) dX7_row_25 ?_
    have h := Option.some.inj h
    subst h
    exact wd_iret CF hret hlk hW hS dX7_row_27
  · rw [if_neg c1] at h
    refine lv_iload_n hx hb dX7_row_7 rfl (lv_at hl 2 rfl) ?_
    refine lv_i2l hx hb dX7_row_8 rfl ?_
    refine lv_lconst (v := 0) hx hb dX7_row_9 (by decide) ?_
    refine lv_ldc2 (v := 2) hx hb hown (hts _ tw821) dX7_row_10 ?_
    refine wd_callSr CF hE hW hS (x_X7_in l X a2.toInt64 0 2 D) mi_X7_in vi_X7_in tw818 ⟨rfl, rfl, Nat.le_of_ble_eq_true rfl, Nat.le_of_ble_eq_true rfl⟩ rfl hl.1 rfl (Nat.le_of_ble_eq_true rfl) dX7_row_13 ⟨Nat.le_of_ble_eq_true rfl, Nat.le_of_ble_eq_true rfl⟩ (fun H locs hW hS => ?_)
    refine lv_if_eq (tgt := 25) hx hb dX7_row_16 (by decide) (fun c2 => ?_) (fun c2 => ?_)
    · rw [if_pos c2] at h
      refine lv_ldc (v := (-1000001)) hx hb hown (hts _ tw822) dX7_row_25 ?_
      have h := Option.some.inj h
      subst h
      exact wd_iret CF hret hlk hW hS dX7_row_27
    · rw [if_neg c2] at h
      refine lv_iload_n hx hb dX7_row_19 rfl (lv_at hl 3 rfl) ?_
      refine lv_bipush (v := 40) hx hb dX7_row_20 (by decide) ?_
      refine lv_icmp_le (tgt := 28) hx hb dX7_row_22 (by decide) (fun c3 => ?_) (fun c3 => ?_)
      · rw [if_pos c3] at h
        refine lv_iload_n hx hb dX7_row_28 rfl (lv_at hl 3 rfl) ?_
        refine lv_if_ge (tgt := 38) hx hb dX7_row_29 (by decide) (fun c4 => ?_) (fun c4 => ?_)
        · rw [if_pos c4] at h
          refine lv_aload_n hx hb dX7_row_38 rfl (lv_at hl 0 rfl) ?_
          refine wd_getR CF hE hW fl_X7_23 sh_370 rf_370_5 rfl dX7_row_39 ?_
          refine lv_iload_n hx hb dX7_row_42 rfl (lv_at hl 1 rfl) ?_
          refine lv_iload_n hx hb dX7_row_43 rfl (lv_at hl 3 rfl) ?_
          obtain ⟨D5, eD5, h⟩ := bdE h
          refine wd_iast CF hE hW hS sh_375 eD5 dX7_row_44 (fun H locs hW hS => ?_)
          refine lv_aload_n hx hb dX7_row_45 rfl (lv_at hl 0 rfl) ?_
          refine wd_getR CF hE hW fl_X7_26 sh_370 rf_370_6 rfl dX7_row_46 ?_
          refine lv_iload_n hx hb dX7_row_49 rfl (lv_at hl 1 rfl) ?_
          refine lv_iload_n hx hb dX7_row_50 rfl (lv_at hl 2 rfl) ?_
          obtain ⟨D6, eD6, h⟩ := bdE h
          refine wd_iast CF hE hW hS sh_376 eD6 dX7_row_51 (fun H locs hW hS => ?_)
          refine lv_iconst (v := 0) hx hb dX7_row_52 (by decide) ?_
          refine lv_istore (lv' := [(4, .int 0), (0, .ref (X.2.2.1 + 370)), (1, .int a1), (2, .int a2), (3, .int a3)]) hx hb dX7_row_53 hl (by decide) rfl (fun ls hl => ?_)
          exact hL55 FU 0 D6 _ _ _  hW hS (lv_sub hl [1, 2, 4, 0] rfl) h
        · rw [if_neg c4] at h
          refine lv_aload_n hx hb dX7_row_32 rfl (lv_at hl 0 rfl) ?_
          refine lv_iconst (v := 4) hx hb dX7_row_33 (by decide) ?_
          obtain ⟨q7, eq7⟩ : ∃ q, q = f_X7_found 4 D := ⟨_, rfl⟩
          replace h := apR eq7 h
          refine wd_callVr (ci := 7) (k := 370) CF hE hW hS (x_X7_found l X 4 D eq7.symm) mi_X7_found vi_X7_found tw823 ⟨by decide, rfl⟩ sh_370 ⟨rfl, rfl, Nat.le_of_ble_eq_true rfl, Nat.le_of_ble_eq_true rfl⟩ rfl hl.1 rfl (Nat.le_of_ble_eq_true rfl) dX7_row_34 ⟨Nat.le_of_ble_eq_true rfl, Nat.le_of_ble_eq_true rfl⟩ (fun H locs hW hS => ?_)
          have h := Option.some.inj h
          subst h
          exact wd_iret CF hret hlk hW hS dX7_row_37
      · rw [if_neg c3] at h
        refine lv_ldc (v := (-1000001)) hx hb hown (hts _ tw822) dX7_row_25 ?_
        have h := Option.some.inj h
        subst h
        exact wd_iret CF hret hlk hW hS dX7_row_27
def f_X7_set_L89  (a1 : Int32) (a2 : Int32) (a3 : Int32) (z0 : Int32) (z1 : Int32) (D : wd_D) : Option (Int32 × wd_D) := (wr 320 D 374 z1 z0).bind (fun D12 => (rd 320 D12 374 ((40 * a1) + a2)).bind (fun x13 => ap (f_X7_good x13 D12) (fun q14 => some (q14.1, q14.2))))
def f_X7_set (a1 : Int32) (a2 : Int32) (a3 : Int32) (D : wd_D) : Option (Int32 × wd_D) := (if (f_X7_isRow a1) = 0 then some ((-1000001), D) else (rd 8 D 375 a1).bind (fun x2 => (if 0 ≤ x2 then (rd 8 D 375 a1).bind (fun x4 => (if (f_X7_in a2.toInt64 0 ((x4 - 1).toInt64)) = 0 then ap (f_X7_found 2 D) (fun q10 => some (q10.1, q10.2)) else (rd 8 D 376 a1).bind (fun x6 => (if x6 = 0 then f_X7_set_L89 a1 a2 a3 a3.toInt8.toInt32 ((40 * a1) + a2) D else (rd 8 D 376 a1).bind (fun x8 => (if x8 = 1 then f_X7_set_L89 a1 a2 a3 a3.toInt16.toInt32 ((40 * a1) + a2) D else f_X7_set_L89 a1 a2 a3 a3 ((40 * a1) + a2) D)))))) else ap (f_X7_found 1 D) (fun q11 => some (q11.1, q11.2)))))
set_option maxHeartbeats 4000000 in
set_option maxRecDepth 100000 in
theorem x_X7_set (l : Launch) (X : wd_X) (a1 : Int32) (a2 : Int32) (a3 : Int32) (D : wd_D) {qv : Int32 × wd_D} (h : f_X7_set a1 a2 a3 D = some qv) : wd_Met l X yX7_set cX7_set 4 (some FieldType.int) ({ frames := 2, cells := 0, slots := 0, locals := 200 }) S0 S0 ([.ref (X.2.2.1 + 370), .int a1, .int a2, .int a3] : List Value) D qv.2 (some (.int qv.1)) 0 0 := by
  refine wd_enter (by decide) (Nat.le_of_ble_eq_true rfl) ?_
  intro p e s m below meth c CF hret hlk hnm hW hE ls hl
  have CF : CallFix p m c cX7_set 4 s ([.ref (X.2.2.1 + 370), .int a1, .int a2, .int a3] : List Value).toArray tg RX7 := CF
  have hx := CF.1
  have hb := CF.2.1
  have hown := CF.2.2.2.1
  have hts := CF.2.2.2.2
  have hS : va_S (wd_A X) s.heap s.heap [] := va_S.rf
  have hl : lv_has ls 4 [(0, .ref (X.2.2.1 + 370)), (1, .int a1), (2, .int a2), (3, .int a3)] := hl
  unfold f_X7_set at h
  have hL89 : ∀ (z0 : Int32) (z1 : Int32) (D : wd_D) (H : Heap) (locs : List Loc) (ls : Array Slot), Wd X S0 D H → va_S (wd_A X) s.heap H locs → lv_has ls 4 [(0, .ref (X.2.2.1 + 370)), (1, .int a1), (2, .int a2)] → f_X7_set_L89 a1 a2 a3 z0 z1 D = some qv → W p l e ({ frames := 2, cells := 0, slots := 0, locals := 200 }) s m ([.ref (X.2.2.1 + 370), .int a1, .int a2, .int a3] : List Value).toArray below meth c H locs 0 0 (MQ below (wd_Q X S0 qv.2 (some (.int qv.1))) ([.ref (X.2.2.1 + 370), .int a1, .int a2, .int a3] : List Value).toArray s 0 0 (wd_A X)) (F0 m 89 ls [.int z0, .int z1, .ref (X.2.2.1 + 374)]) := by
    intro z0 z1 D H locs ls hW hS hl h
    unfold f_X7_set_L89 at h
    obtain ⟨D12, eD12, h⟩ := bdE h
    refine wd_iast CF hE hW hS sh_374 eD12 dX7_set_89 (fun H locs hW hS => ?_)
    refine lv_aload_n hx hb dX7_set_90 rfl (lv_at hl 0 rfl) ?_
    refine lv_aload_n hx hb dX7_set_91 rfl (lv_at hl 0 rfl) ?_
    refine wd_getR CF hE hW fl_X7_20 sh_370 rf_370_4 rfl dX7_set_92 ?_
    refine lv_bipush (v := 40) hx hb dX7_set_95 (by decide) ?_
    refine lv_iload_n hx hb dX7_set_97 rfl (lv_at hl 1 rfl) ?_
    refine lv_imul hx hb dX7_set_98 ?_
    refine lv_iload_n hx hb dX7_set_99 rfl (lv_at hl 2 rfl) ?_
    refine lv_iadd hx hb dX7_set_100 ?_
    obtain ⟨x13, ex13, h⟩ := bdE h
    refine wd_iald CF hE hW sh_374 ex13 dX7_set_101 ?_
    obtain ⟨q14, eq14⟩ : ∃ q, q = f_X7_good x13 D12 := ⟨_, rfl⟩
    replace h := apR eq14 h
    refine wd_callVr (ci := 7) (k := 370) CF hE hW hS (x_X7_good l X x13 D12 eq14.symm) mi_X7_good vi_X7_good tw828 ⟨by decide, rfl⟩ sh_370 ⟨rfl, rfl, Nat.le_of_ble_eq_true rfl, Nat.le_of_ble_eq_true rfl⟩ rfl hl.1 rfl (Nat.le_of_ble_eq_true rfl) dX7_set_102 ⟨Nat.le_of_ble_eq_true rfl, Nat.le_of_ble_eq_true rfl⟩ (fun H locs hW hS => ?_)
    have h := Option.some.inj h
    subst h
    exact wd_iret CF hret hlk hW hS dX7_set_105
  refine lv_iload_n hx hb dX7_set_0 rfl (lv_at hl 1 rfl) ?_
  refine wd_callSr CF hE hW hS (x_X7_isRow l X a1 D) mi_X7_isRow vi_X7_isRow tw814 ⟨rfl, rfl, Nat.le_of_ble_eq_true rfl, Nat.le_of_ble_eq_true rfl⟩ rfl hl.1 rfl (Nat.le_of_ble_eq_true rfl) dX7_set_1 ⟨Nat.le_of_ble_eq_true rfl, Nat.le_of_ble_eq_true rfl⟩ (fun H locs hW hS => ?_)
  refine lv_if_ne (tgt := 10) hx hb dX7_set_4 (by decide) (fun c1 => ?_) (fun c1 => ?_)
  · rw [if_neg c1] at h
    refine lv_aload_n hx hb dX7_set_10 rfl (lv_at hl 0 rfl) ?_
    refine wd_getR CF hE hW fl_X7_23 sh_370 rf_370_5 rfl dX7_set_11 ?_
    refine lv_iload_n hx hb dX7_set_14 rfl (lv_at hl 1 rfl) ?_
    obtain ⟨x2, ex2, h⟩ := bdE h
    refine wd_iald CF hE hW sh_375 ex2 dX7_set_15 ?_
    refine lv_if_ge (tgt := 25) hx hb dX7_set_16 (by decide) (fun c3 => ?_) (fun c3 => ?_)
    · rw [if_pos c3] at h
      refine lv_iload_n hx hb dX7_set_25 rfl (lv_at hl 2 rfl) ?_
      refine lv_i2l hx hb dX7_set_26 rfl ?_
      refine lv_lconst (v := 0) hx hb dX7_set_27 (by decide) ?_
      refine lv_aload_n hx hb dX7_set_28 rfl (lv_at hl 0 rfl) ?_
      refine wd_getR CF hE hW fl_X7_23 sh_370 rf_370_5 rfl dX7_set_29 ?_
      refine lv_iload_n hx hb dX7_set_32 rfl (lv_at hl 1 rfl) ?_
      obtain ⟨x4, ex4, h⟩ := bdE h
      refine wd_iald CF hE hW sh_375 ex4 dX7_set_33 ?_
      refine lv_iconst (v := 1) hx hb dX7_set_34 (by decide) ?_
      refine lv_isub hx hb dX7_set_35 ?_
      refine lv_i2l hx hb dX7_set_36 rfl ?_
      refine wd_callSr CF hE hW hS (x_X7_in l X a2.toInt64 0 ((x4 - 1).toInt64) D) mi_X7_in vi_X7_in tw818 ⟨rfl, rfl, Nat.le_of_ble_eq_true rfl, Nat.le_of_ble_eq_true rfl⟩ rfl hl.1 rfl (Nat.le_of_ble_eq_true rfl) dX7_set_37 ⟨Nat.le_of_ble_eq_true rfl, Nat.le_of_ble_eq_true rfl⟩ (fun H locs hW hS => ?_)
      refine lv_if_ne (tgt := 49) hx hb dX7_set_40 (by decide) (fun c5 => ?_) (fun c5 => ?_)
      · rw [if_neg c5] at h
        refine lv_aload_n hx hb dX7_set_49 rfl (lv_at hl 0 rfl) ?_
        refine wd_getR CF hE hW fl_X7_20 sh_370 rf_370_4 rfl dX7_set_50 ?_
        refine lv_bipush (v := 40) hx hb dX7_set_53 (by decide) ?_
        refine lv_iload_n hx hb dX7_set_55 rfl (lv_at hl 1 rfl) ?_
        refine lv_imul hx hb dX7_set_56 ?_
        refine lv_iload_n hx hb dX7_set_57 rfl (lv_at hl 2 rfl) ?_
        refine lv_iadd hx hb dX7_set_58 ?_
        refine lv_aload_n hx hb dX7_set_59 rfl (lv_at hl 0 rfl) ?_
        refine wd_getR CF hE hW fl_X7_26 sh_370 rf_370_6 rfl dX7_set_60 ?_
        refine lv_iload_n hx hb dX7_set_63 rfl (lv_at hl 1 rfl) ?_
        obtain ⟨x6, ex6, h⟩ := bdE h
        refine wd_iald CF hE hW sh_376 ex6 dX7_set_64 ?_
        refine lv_if_ne (tgt := 73) hx hb dX7_set_65 (by decide) (fun c7 => ?_) (fun c7 => ?_)
        · rw [if_neg c7] at h
          refine lv_aload_n hx hb dX7_set_73 rfl (lv_at hl 0 rfl) ?_
          refine wd_getR CF hE hW fl_X7_26 sh_370 rf_370_6 rfl dX7_set_74 ?_
          refine lv_iload_n hx hb dX7_set_77 rfl (lv_at hl 1 rfl) ?_
          obtain ⟨x8, ex8, h⟩ := bdE h
          refine wd_iald CF hE hW sh_376 ex8 dX7_set_78 ?_
          refine lv_iconst (v := 1) hx hb dX7_set_79 (by decide) ?_
          refine lv_icmp_ne (tgt := 88) hx hb dX7_set_80 (by decide) (fun c9 => ?_) (fun c9 => ?_)
          · rw [if_neg c9] at h
            refine lv_iload_n hx hb dX7_set_88 rfl (lv_at hl 3 rfl) ?_
            exact hL89 a3 ((40 * a1) + a2) D _ _ _  hW hS (lv_sub hl [0, 1, 2] rfl) h
          · rw [if_pos c9] at h
            refine lv_iload_n hx hb dX7_set_83 rfl (lv_at hl 3 rfl) ?_
            refine lv_i2s hx hb dX7_set_84 rfl ?_
            refine lv_goto (tgt := 89) hx hb dX7_set_85 (by decide) ?_
            exact hL89 a3.toInt16.toInt32 ((40 * a1) + a2) D _ _ _  hW hS (lv_sub hl [0, 1, 2] rfl) h
        · rw [if_pos c7] at h
          refine lv_iload_n hx hb dX7_set_68 rfl (lv_at hl 3 rfl) ?_
          refine lv_i2b hx hb dX7_set_69 rfl ?_
          refine lv_goto (tgt := 89) hx hb dX7_set_70 (by decide) ?_
          exact hL89 a3.toInt8.toInt32 ((40 * a1) + a2) D _ _ _  hW hS (lv_sub hl [0, 1, 2] rfl) h
      · rw [if_pos c5] at h
        refine lv_aload_n hx hb dX7_set_43 rfl (lv_at hl 0 rfl) ?_
        refine lv_iconst (v := 2) hx hb dX7_set_44 (by decide) ?_
        obtain ⟨q10, eq10⟩ : ∃ q, q = f_X7_found 2 D := ⟨_, rfl⟩
        replace h := apR eq10 h
        refine wd_callVr (ci := 7) (k := 370) CF hE hW hS (x_X7_found l X 2 D eq10.symm) mi_X7_found vi_X7_found tw823 ⟨by decide, rfl⟩ sh_370 ⟨rfl, rfl, Nat.le_of_ble_eq_true rfl, Nat.le_of_ble_eq_true rfl⟩ rfl hl.1 rfl (Nat.le_of_ble_eq_true rfl) dX7_set_45 ⟨Nat.le_of_ble_eq_true rfl, Nat.le_of_ble_eq_true rfl⟩ (fun H locs hW hS => ?_)
        have h := Option.some.inj h
        subst h
        exact wd_iret CF hret hlk hW hS dX7_set_48
    · rw [if_neg c3] at h
      refine lv_aload_n hx hb dX7_set_19 rfl (lv_at hl 0 rfl) ?_
      refine lv_iconst (v := 1) hx hb dX7_set_20 (by decide) ?_
      obtain ⟨q11, eq11⟩ : ∃ q, q = f_X7_found 1 D := ⟨_, rfl⟩
      replace h := apR eq11 h
      refine wd_callVr (ci := 7) (k := 370) CF hE hW hS (x_X7_found l X 1 D eq11.symm) mi_X7_found vi_X7_found tw823 ⟨by decide, rfl⟩ sh_370 ⟨rfl, rfl, Nat.le_of_ble_eq_true rfl, Nat.le_of_ble_eq_true rfl⟩ rfl hl.1 rfl (Nat.le_of_ble_eq_true rfl) dX7_set_21 ⟨Nat.le_of_ble_eq_true rfl, Nat.le_of_ble_eq_true rfl⟩ (fun H locs hW hS => ?_)
      have h := Option.some.inj h
      subst h
      exact wd_iret CF hret hlk hW hS dX7_set_24
  · rw [if_pos c1] at h
    refine lv_ldc (v := (-1000001)) hx hb hown (hts _ tw822) dX7_set_7 ?_
    have h := Option.some.inj h
    subst h
    exact wd_iret CF hret hlk hW hS dX7_set_9
def f_X7_fits (a0 : Int32) (a1 : Int32) (a2 : Int32) : Int32 := (if a0 < 0 then 0 else (if 0 < (lg_cmp (a0.toInt64 + a1.toInt64) a2.toInt64) then 0 else 1))
theorem z_X7_fits (a0 : Int32) (a1 : Int32) (a2 : Int32) : f_X7_fits a0 a1 a2 = 0 ∨ f_X7_fits a0 a1 a2 = 1 := by
  unfold f_X7_fits
  (repeat' split) <;> first | exact Or.inl rfl | exact Or.inr rfl
set_option maxHeartbeats 4000000 in
set_option maxRecDepth 100000 in
theorem x_X7_fits (l : Launch) (X : wd_X) (a0 : Int32) (a1 : Int32) (a2 : Int32) (D : wd_D) : wd_Met l X yX7_fits cX7_fits 3 (some FieldType.boolean) ({ frames := 0, cells := 0, slots := 0, locals := 0 }) S0 S0 ([.int a0, .int a1, .int a2] : List Value) D D (some (.int (f_X7_fits a0 a1 a2))) 0 0 := by
  obtain ⟨rv, h⟩ : ∃ rv, f_X7_fits a0 a1 a2 = rv := ⟨_, rfl⟩
  rw [h]
  refine wd_enter (by decide) (Nat.le_of_ble_eq_true rfl) ?_
  intro p e s m below meth c CF hret hlk hnm hW hE ls hl
  have CF : CallFix p m c cX7_fits 3 s ([.int a0, .int a1, .int a2] : List Value).toArray tg RX7 := CF
  have hx := CF.1
  have hb := CF.2.1
  have hown := CF.2.2.2.1
  have hts := CF.2.2.2.2
  have hS : va_S (wd_A X) s.heap s.heap [] := va_S.rf
  have hl : lv_has ls 3 [(0, .int a0), (1, .int a1), (2, .int a2)] := hl
  unfold f_X7_fits at h
  refine lv_iload_n hx hb dX7_fits_0 rfl (lv_at hl 0 rfl) ?_
  refine lv_if_lt (tgt := 19) hx hb dX7_fits_1 (by decide) (fun c1 => ?_) (fun c1 => ?_)
  · rw [if_pos c1] at h
    refine lv_iconst (v := 0) hx hb dX7_fits_19 (by decide) ?_
    subst h
    exact wd_zret CF hret hlk hW hS (Or.inl rfl) dX7_fits_20
  · rw [if_neg c1] at h
    refine lv_iload_n hx hb dX7_fits_4 rfl (lv_at hl 0 rfl) ?_
    refine lv_i2l hx hb dX7_fits_5 rfl ?_
    refine lv_iload_n hx hb dX7_fits_6 rfl (lv_at hl 1 rfl) ?_
    refine lv_i2l hx hb dX7_fits_7 rfl ?_
    refine lv_ladd hx hb dX7_fits_8 ?_
    refine lv_iload_n hx hb dX7_fits_9 rfl (lv_at hl 2 rfl) ?_
    refine lv_i2l hx hb dX7_fits_10 rfl ?_
    refine W.lcmp hx hb dX7_fits_11 ?_
    refine lv_if_gt (tgt := 19) hx hb dX7_fits_12 (by decide) (fun c2 => ?_) (fun c2 => ?_)
    · rw [if_pos c2] at h
      refine lv_iconst (v := 0) hx hb dX7_fits_19 (by decide) ?_
      subst h
      exact wd_zret CF hret hlk hW hS (Or.inl rfl) dX7_fits_20
    · rw [if_neg c2] at h
      refine lv_iconst (v := 1) hx hb dX7_fits_15 (by decide) ?_
      refine lv_goto (tgt := 20) hx hb dX7_fits_16 (by decide) ?_
      subst h
      exact wd_zret CF hret hlk hW hS (Or.inr rfl) dX7_fits_20
def f_X7_copy_L144  : Nat → Int32 → Int32 → Int32 → Int32 → Int32 → Int32 → wd_D → Option (Int32 × wd_D)
  | 0, _, _, _, _, _, _, _ => none
  | n + 1, a1, a2, a3, a4, a5, v6, D => (if a5 ≤ v6 then ap (f_X7_good a5 D) (fun q23 => some (q23.1, q23.2)) else (rd 40 D 379 v6).bind (fun x24 => (wr 320 D 374 (((40 * a3) + a4) + v6) x24).bind (fun D25 => ap (v6 + 1) (fun x26 => (f_X7_copy_L144 n) a1 a2 a3 a4 a5 x26 D25))))
def f_X7_copy_L107  : Nat → Int32 → Int32 → Int32 → Int32 → Int32 → Int32 → wd_D → Option (Int32 × wd_D)
  | 0, _, _, _, _, _, _, _ => none
  | n + 1, a1, a2, a3, a4, a5, v6, D => (if a5 ≤ v6 then f_X7_copy_L144 FU a1 a2 a3 a4 a5 0 D else (rd 320 D 374 (((40 * a1) + a2) + v6)).bind (fun x19 => (wr 40 D 379 v6 x19).bind (fun D20 => ap (v6 + 1) (fun x21 => (f_X7_copy_L107 n) a1 a2 a3 a4 a5 x21 D20))))
def f_X7_copy_L98  (a1 : Int32) (a2 : Int32) (a3 : Int32) (a4 : Int32) (a5 : Int32) (D : wd_D) : Option (Int32 × wd_D) := ap (f_X7_found 2 D) (fun q17 => some (q17.1, q17.2))
def f_X7_copy_L35  (a1 : Int32) (a2 : Int32) (a3 : Int32) (a4 : Int32) (a5 : Int32) (D : wd_D) : Option (Int32 × wd_D) := ap (f_X7_found 1 D) (fun q16 => some (q16.1, q16.2))
def f_X7_copy (a1 : Int32) (a2 : Int32) (a3 : Int32) (a4 : Int32) (a5 : Int32) (D : wd_D) : Option (Int32 × wd_D) := (if (f_X7_isRow a1) = 0 then some ((-1000001), D) else (if (f_X7_isRow a3) = 0 then some ((-1000001), D) else (rd 8 D 375 a1).bind (fun x3 => (if x3 < 0 then f_X7_copy_L35 a1 a2 a3 a4 a5 D else (rd 8 D 375 a3).bind (fun x5 => (if 0 ≤ x5 then (rd 8 D 376 a1).bind (fun x7 => (rd 8 D 376 a3).bind (fun x8 => (if x7 = x8 then (if a5 < 0 then f_X7_copy_L98 a1 a2 a3 a4 a5 D else (rd 8 D 375 a1).bind (fun x11 => (if (f_X7_fits a2 a5 x11) = 0 then f_X7_copy_L98 a1 a2 a3 a4 a5 D else (rd 8 D 375 a3).bind (fun x13 => (if (f_X7_fits a4 a5 x13) = 0 then f_X7_copy_L98 a1 a2 a3 a4 a5 D else f_X7_copy_L107 FU a1 a2 a3 a4 a5 0 D))))) else ap (f_X7_found 5 D) (fun q15 => some (q15.1, q15.2))))) else f_X7_copy_L35 a1 a2 a3 a4 a5 D))))))
set_option maxHeartbeats 4000000 in
set_option maxRecDepth 100000 in
theorem x_X7_copy (l : Launch) (X : wd_X) (a1 : Int32) (a2 : Int32) (a3 : Int32) (a4 : Int32) (a5 : Int32) (D : wd_D) {qv : Int32 × wd_D} (h : f_X7_copy a1 a2 a3 a4 a5 D = some qv) : wd_Met l X yX7_copy cX7_copy 7 (some FieldType.int) ({ frames := 2, cells := 0, slots := 0, locals := 200 }) S0 S0 ([.ref (X.2.2.1 + 370), .int a1, .int a2, .int a3, .int a4, .int a5] : List Value) D qv.2 (some (.int qv.1)) 0 0 := by
  refine wd_enter (by decide) (Nat.le_of_ble_eq_true rfl) ?_
  intro p e s m below meth c CF hret hlk hnm hW hE ls hl
  have CF : CallFix p m c cX7_copy 7 s ([.ref (X.2.2.1 + 370), .int a1, .int a2, .int a3, .int a4, .int a5] : List Value).toArray tg RX7 := CF
  have hx := CF.1
  have hb := CF.2.1
  have hown := CF.2.2.2.1
  have hts := CF.2.2.2.2
  have hS : va_S (wd_A X) s.heap s.heap [] := va_S.rf
  have hl : lv_has ls 7 [(0, .ref (X.2.2.1 + 370)), (1, .int a1), (2, .int a2), (3, .int a3), (4, .int a4), (5, .int a5)] := hl
  unfold f_X7_copy at h
  have hL144 : ∀ (n144 : Nat) (v6 : Int32) (D : wd_D) (H : Heap) (locs : List Loc) (ls : Array Slot), Wd X S0 D H → va_S (wd_A X) s.heap H locs → lv_has ls 7 [(0, .ref (X.2.2.1 + 370)), (3, .int a3), (4, .int a4), (5, .int a5), (6, .int v6)] → f_X7_copy_L144 n144 a1 a2 a3 a4 a5 v6 D = some qv → W p l e ({ frames := 2, cells := 0, slots := 0, locals := 200 }) s m ([.ref (X.2.2.1 + 370), .int a1, .int a2, .int a3, .int a4, .int a5] : List Value).toArray below meth c H locs 0 0 (MQ below (wd_Q X S0 qv.2 (some (.int qv.1))) ([.ref (X.2.2.1 + 370), .int a1, .int a2, .int a3, .int a4, .int a5] : List Value).toArray s 0 0 (wd_A X)) (F0 m 144 ls []) := by
    intro n144
    induction n144 with
    | zero => intro v6 D H locs ls hW hS hl h; cases h
    | succ n144 ih144 =>
      intro v6 D H locs ls hW hS hl h
      rw [f_X7_copy_L144] at h
      refine lv_iload hx hb dX7_copy_144 (lv_at hl 4 rfl) ?_
      refine lv_iload hx hb dX7_copy_146 (lv_at hl 3 rfl) ?_
      refine lv_icmp_ge (tgt := 179) hx hb dX7_copy_148 (by decide) (fun c22 => ?_) (fun c22 => ?_)
      · rw [if_pos c22] at h
        refine lv_aload_n hx hb dX7_copy_179 rfl (lv_at hl 0 rfl) ?_
        refine lv_iload hx hb dX7_copy_180 (lv_at hl 3 rfl) ?_
        obtain ⟨q23, eq23⟩ : ∃ q, q = f_X7_good a5 D := ⟨_, rfl⟩
        replace h := apR eq23 h
        refine wd_callVr (ci := 7) (k := 370) CF hE hW hS (x_X7_good l X a5 D eq23.symm) mi_X7_good vi_X7_good tw828 ⟨by decide, rfl⟩ sh_370 ⟨rfl, rfl, Nat.le_of_ble_eq_true rfl, Nat.le_of_ble_eq_true rfl⟩ rfl hl.1 rfl (Nat.le_of_ble_eq_true rfl) dX7_copy_182 ⟨Nat.le_of_ble_eq_true rfl, Nat.le_of_ble_eq_true rfl⟩ (fun H locs hW hS => ?_)
        have h := Option.some.inj h
        subst h
        exact wd_iret CF hret hlk hW hS dX7_copy_185
      · rw [if_neg c22] at h
        refine lv_aload_n hx hb dX7_copy_151 rfl (lv_at hl 0 rfl) ?_
        refine wd_getR CF hE hW fl_X7_20 sh_370 rf_370_4 rfl dX7_copy_152 ?_
        refine lv_bipush (v := 40) hx hb dX7_copy_155 (by decide) ?_
        refine lv_iload_n hx hb dX7_copy_157 rfl (lv_at hl 1 rfl) ?_
        refine lv_imul hx hb dX7_copy_158 ?_
        refine lv_iload hx hb dX7_copy_159 (lv_at hl 2 rfl) ?_
        refine lv_iadd hx hb dX7_copy_161 ?_
        refine lv_iload hx hb dX7_copy_162 (lv_at hl 4 rfl) ?_
        refine lv_iadd hx hb dX7_copy_164 ?_
        refine lv_aload_n hx hb dX7_copy_165 rfl (lv_at hl 0 rfl) ?_
        refine wd_getR CF hE hW fl_X7_35 sh_370 rf_370_13 rfl dX7_copy_166 ?_
        refine lv_iload hx hb dX7_copy_169 (lv_at hl 4 rfl) ?_
        obtain ⟨x24, ex24, h⟩ := bdE h
        refine wd_iald CF hE hW sh_379 ex24 dX7_copy_171 ?_
        obtain ⟨D25, eD25, h⟩ := bdE h
        refine wd_iast CF hE hW hS sh_374 eD25 dX7_copy_172 (fun H locs hW hS => ?_)
        obtain ⟨x26, ex26⟩ : ∃ y : Int32, y = v6 + 1 := ⟨_, rfl⟩
        replace h := apR ex26 h
        refine lv_iinc (v := x26) (lv' := [(6, .int x26), (0, .ref (X.2.2.1 + 370)), (3, .int a3), (4, .int a4), (5, .int a5)]) hx hb dX7_copy_173 hl (k := 4) rfl (by rw [ex26]; rfl) (by decide) rfl (fun ls hl => ?_)
        refine lv_goto (tgt := 144) hx hb dX7_copy_176 (by decide) ?_
        exact ih144 x26 D25 _ _ _  hW hS (lv_sub hl [1, 2, 3, 4, 0] rfl) h
  have hL107 : ∀ (n107 : Nat) (v6 : Int32) (D : wd_D) (H : Heap) (locs : List Loc) (ls : Array Slot), Wd X S0 D H → va_S (wd_A X) s.heap H locs → lv_has ls 7 [(0, .ref (X.2.2.1 + 370)), (1, .int a1), (2, .int a2), (3, .int a3), (4, .int a4), (5, .int a5), (6, .int v6)] → f_X7_copy_L107 n107 a1 a2 a3 a4 a5 v6 D = some qv → W p l e ({ frames := 2, cells := 0, slots := 0, locals := 200 }) s m ([.ref (X.2.2.1 + 370), .int a1, .int a2, .int a3, .int a4, .int a5] : List Value).toArray below meth c H locs 0 0 (MQ below (wd_Q X S0 qv.2 (some (.int qv.1))) ([.ref (X.2.2.1 + 370), .int a1, .int a2, .int a3, .int a4, .int a5] : List Value).toArray s 0 0 (wd_A X)) (F0 m 107 ls []) := by
    intro n107
    induction n107 with
    | zero => intro v6 D H locs ls hW hS hl h; cases h
    | succ n107 ih107 =>
      intro v6 D H locs ls hW hS hl h
      rw [f_X7_copy_L107] at h
      refine lv_iload hx hb dX7_copy_107 (lv_at hl 6 rfl) ?_
      refine lv_iload hx hb dX7_copy_109 (lv_at hl 5 rfl) ?_
      refine lv_icmp_ge (tgt := 141) hx hb dX7_copy_111 (by decide) (fun c18 => ?_) (fun c18 => ?_)
      · rw [if_pos c18] at h
        refine lv_iconst (v := 0) hx hb dX7_copy_141 (by decide) ?_
        refine lv_istore (lv' := [(6, .int 0), (0, .ref (X.2.2.1 + 370)), (1, .int a1), (2, .int a2), (3, .int a3), (4, .int a4), (5, .int a5)]) hx hb dX7_copy_142 hl (by decide) rfl (fun ls hl => ?_)
        exact hL144 FU 0 D _ _ _  hW hS (lv_sub hl [1, 4, 5, 6, 0] rfl) h
      · rw [if_neg c18] at h
        refine lv_aload_n hx hb dX7_copy_114 rfl (lv_at hl 0 rfl) ?_
        refine wd_getR CF hE hW fl_X7_35 sh_370 rf_370_13 rfl dX7_copy_115 ?_
        refine lv_iload hx hb dX7_copy_118 (lv_at hl 6 rfl) ?_
        refine lv_aload_n hx hb dX7_copy_120 rfl (lv_at hl 0 rfl) ?_
        refine wd_getR CF hE hW fl_X7_20 sh_370 rf_370_4 rfl dX7_copy_121 ?_
        refine lv_bipush (v := 40) hx hb dX7_copy_124 (by decide) ?_
        refine lv_iload_n hx hb dX7_copy_126 rfl (lv_at hl 1 rfl) ?_
        refine lv_imul hx hb dX7_copy_127 ?_
        refine lv_iload_n hx hb dX7_copy_128 rfl (lv_at hl 2 rfl) ?_
        refine lv_iadd hx hb dX7_copy_129 ?_
        refine lv_iload hx hb dX7_copy_130 (lv_at hl 6 rfl) ?_
        refine lv_iadd hx hb dX7_copy_132 ?_
        obtain ⟨x19, ex19, h⟩ := bdE h
        refine wd_iald CF hE hW sh_374 ex19 dX7_copy_133 ?_
        obtain ⟨D20, eD20, h⟩ := bdE h
        refine wd_iast CF hE hW hS sh_379 eD20 dX7_copy_134 (fun H locs hW hS => ?_)
        obtain ⟨x21, ex21⟩ : ∃ y : Int32, y = v6 + 1 := ⟨_, rfl⟩
        replace h := apR ex21 h
        refine lv_iinc (v := x21) (lv' := [(6, .int x21), (0, .ref (X.2.2.1 + 370)), (1, .int a1), (2, .int a2), (3, .int a3), (4, .int a4), (5, .int a5)]) hx hb dX7_copy_135 hl (k := 6) rfl (by rw [ex21]; rfl) (by decide) rfl (fun ls hl => ?_)
        refine lv_goto (tgt := 107) hx hb dX7_copy_138 (by decide) ?_
        exact ih107 x21 D20 _ _ _  hW hS (lv_sub hl [1, 2, 3, 4, 5, 6, 0] rfl) h
  have hL98 : ∀  (D : wd_D) (H : Heap) (locs : List Loc) (ls : Array Slot), Wd X S0 D H → va_S (wd_A X) s.heap H locs → lv_has ls 7 [(0, .ref (X.2.2.1 + 370))] → f_X7_copy_L98 a1 a2 a3 a4 a5 D = some qv → W p l e ({ frames := 2, cells := 0, slots := 0, locals := 200 }) s m ([.ref (X.2.2.1 + 370), .int a1, .int a2, .int a3, .int a4, .int a5] : List Value).toArray below meth c H locs 0 0 (MQ below (wd_Q X S0 qv.2 (some (.int qv.1))) ([.ref (X.2.2.1 + 370), .int a1, .int a2, .int a3, .int a4, .int a5] : List Value).toArray s 0 0 (wd_A X)) (F0 m 98 ls []) := by
    intro D H locs ls hW hS hl h
    unfold f_X7_copy_L98 at h
    refine lv_aload_n hx hb dX7_copy_98 rfl (lv_at hl 0 rfl) ?_
    refine lv_iconst (v := 2) hx hb dX7_copy_99 (by decide) ?_
    obtain ⟨q17, eq17⟩ : ∃ q, q = f_X7_found 2 D := ⟨_, rfl⟩
    replace h := apR eq17 h
    refine wd_callVr (ci := 7) (k := 370) CF hE hW hS (x_X7_found l X 2 D eq17.symm) mi_X7_found vi_X7_found tw823 ⟨by decide, rfl⟩ sh_370 ⟨rfl, rfl, Nat.le_of_ble_eq_true rfl, Nat.le_of_ble_eq_true rfl⟩ rfl hl.1 rfl (Nat.le_of_ble_eq_true rfl) dX7_copy_100 ⟨Nat.le_of_ble_eq_true rfl, Nat.le_of_ble_eq_true rfl⟩ (fun H locs hW hS => ?_)
    have h := Option.some.inj h
    subst h
    exact wd_iret CF hret hlk hW hS dX7_copy_103
  have hL35 : ∀  (D : wd_D) (H : Heap) (locs : List Loc) (ls : Array Slot), Wd X S0 D H → va_S (wd_A X) s.heap H locs → lv_has ls 7 [(0, .ref (X.2.2.1 + 370))] → f_X7_copy_L35 a1 a2 a3 a4 a5 D = some qv → W p l e ({ frames := 2, cells := 0, slots := 0, locals := 200 }) s m ([.ref (X.2.2.1 + 370), .int a1, .int a2, .int a3, .int a4, .int a5] : List Value).toArray below meth c H locs 0 0 (MQ below (wd_Q X S0 qv.2 (some (.int qv.1))) ([.ref (X.2.2.1 + 370), .int a1, .int a2, .int a3, .int a4, .int a5] : List Value).toArray s 0 0 (wd_A X)) (F0 m 35 ls []) := by
    intro D H locs ls hW hS hl h
    unfold f_X7_copy_L35 at h
    refine lv_aload_n hx hb dX7_copy_35 rfl (lv_at hl 0 rfl) ?_
    refine lv_iconst (v := 1) hx hb dX7_copy_36 (by decide) ?_
    obtain ⟨q16, eq16⟩ : ∃ q, q = f_X7_found 1 D := ⟨_, rfl⟩
    replace h := apR eq16 h
    refine wd_callVr (ci := 7) (k := 370) CF hE hW hS (x_X7_found l X 1 D eq16.symm) mi_X7_found vi_X7_found tw823 ⟨by decide, rfl⟩ sh_370 ⟨rfl, rfl, Nat.le_of_ble_eq_true rfl, Nat.le_of_ble_eq_true rfl⟩ rfl hl.1 rfl (Nat.le_of_ble_eq_true rfl) dX7_copy_37 ⟨Nat.le_of_ble_eq_true rfl, Nat.le_of_ble_eq_true rfl⟩ (fun H locs hW hS => ?_)
    have h := Option.some.inj h
    subst h
    exact wd_iret CF hret hlk hW hS dX7_copy_40
  refine lv_iload_n hx hb dX7_copy_0 rfl (lv_at hl 1 rfl) ?_
  refine wd_callSr CF hE hW hS (x_X7_isRow l X a1 D) mi_X7_isRow vi_X7_isRow tw814 ⟨rfl, rfl, Nat.le_of_ble_eq_true rfl, Nat.le_of_ble_eq_true rfl⟩ rfl hl.1 rfl (Nat.le_of_ble_eq_true rfl) dX7_copy_1 ⟨Nat.le_of_ble_eq_true rfl, Nat.le_of_ble_eq_true rfl⟩ (fun H locs hW hS => ?_)
  refine lv_if_eq (tgt := 14) hx hb dX7_copy_4 (by decide) (fun c1 => ?_) (fun c1 => ?_)
  · rw [if_pos c1] at h
    refine lv_ldc (v := (-1000001)) hx hb hown (hts _ tw822) dX7_copy_14 ?_
    have h := Option.some.inj h
    subst h
    exact wd_iret CF hret hlk hW hS dX7_copy_16
  · rw [if_neg c1] at h
    refine lv_iload_n hx hb dX7_copy_7 rfl (lv_at hl 3 rfl) ?_
    refine wd_callSr CF hE hW hS (x_X7_isRow l X a3 D) mi_X7_isRow vi_X7_isRow tw814 ⟨rfl, rfl, Nat.le_of_ble_eq_true rfl, Nat.le_of_ble_eq_true rfl⟩ rfl hl.1 rfl (Nat.le_of_ble_eq_true rfl) dX7_copy_8 ⟨Nat.le_of_ble_eq_true rfl, Nat.le_of_ble_eq_true rfl⟩ (fun H locs hW hS => ?_)
    refine lv_if_ne (tgt := 17) hx hb dX7_copy_11 (by decide) (fun c2 => ?_) (fun c2 => ?_)
    · rw [if_neg c2] at h
      refine lv_aload_n hx hb dX7_copy_17 rfl (lv_at hl 0 rfl) ?_
      refine wd_getR CF hE hW fl_X7_23 sh_370 rf_370_5 rfl dX7_copy_18 ?_
      refine lv_iload_n hx hb dX7_copy_21 rfl (lv_at hl 1 rfl) ?_
      obtain ⟨x3, ex3, h⟩ := bdE h
      refine wd_iald CF hE hW sh_375 ex3 dX7_copy_22 ?_
      refine lv_if_lt (tgt := 35) hx hb dX7_copy_23 (by decide) (fun c4 => ?_) (fun c4 => ?_)
      · rw [if_pos c4] at h
        exact hL35  D _ _ _  hW hS (lv_sub hl [0] rfl) h
      · rw [if_neg c4] at h
        refine lv_aload_n hx hb dX7_copy_26 rfl (lv_at hl 0 rfl) ?_
        refine wd_getR CF hE hW fl_X7_23 sh_370 rf_370_5 rfl dX7_copy_27 ?_
        refine lv_iload_n hx hb dX7_copy_30 rfl (lv_at hl 3 rfl) ?_
        obtain ⟨x5, ex5, h⟩ := bdE h
        refine wd_iald CF hE hW sh_375 ex5 dX7_copy_31 ?_
        refine lv_if_ge (tgt := 41) hx hb dX7_copy_32 (by decide) (fun c6 => ?_) (fun c6 => ?_)
        · rw [if_pos c6] at h
          refine lv_aload_n hx hb dX7_copy_41 rfl (lv_at hl 0 rfl) ?_
          refine wd_getR CF hE hW fl_X7_26 sh_370 rf_370_6 rfl dX7_copy_42 ?_
          refine lv_iload_n hx hb dX7_copy_45 rfl (lv_at hl 1 rfl) ?_
          obtain ⟨x7, ex7, h⟩ := bdE h
          refine wd_iald CF hE hW sh_376 ex7 dX7_copy_46 ?_
          refine lv_aload_n hx hb dX7_copy_47 rfl (lv_at hl 0 rfl) ?_
          refine wd_getR CF hE hW fl_X7_26 sh_370 rf_370_6 rfl dX7_copy_48 ?_
          refine lv_iload_n hx hb dX7_copy_51 rfl (lv_at hl 3 rfl) ?_
          obtain ⟨x8, ex8, h⟩ := bdE h
          refine wd_iald CF hE hW sh_376 ex8 dX7_copy_52 ?_
          refine lv_icmp_eq (tgt := 62) hx hb dX7_copy_53 (by decide) (fun c9 => ?_) (fun c9 => ?_)
          · rw [if_pos c9] at h
            refine lv_iload hx hb dX7_copy_62 (lv_at hl 5 rfl) ?_
            refine lv_if_lt (tgt := 98) hx hb dX7_copy_64 (by decide) (fun c10 => ?_) (fun c10 => ?_)
            · rw [if_pos c10] at h
              exact hL98  D _ _ _  hW hS (lv_sub hl [0] rfl) h
            · rw [if_neg c10] at h
              refine lv_iload_n hx hb dX7_copy_67 rfl (lv_at hl 2 rfl) ?_
              refine lv_iload hx hb dX7_copy_68 (lv_at hl 5 rfl) ?_
              refine lv_aload_n hx hb dX7_copy_70 rfl (lv_at hl 0 rfl) ?_
              refine wd_getR CF hE hW fl_X7_23 sh_370 rf_370_5 rfl dX7_copy_71 ?_
              refine lv_iload_n hx hb dX7_copy_74 rfl (lv_at hl 1 rfl) ?_
              obtain ⟨x11, ex11, h⟩ := bdE h
              refine wd_iald CF hE hW sh_375 ex11 dX7_copy_75 ?_
              refine wd_callSr CF hE hW hS (x_X7_fits l X a2 a5 x11 D) mi_X7_fits vi_X7_fits tw840 ⟨rfl, rfl, Nat.le_of_ble_eq_true rfl, Nat.le_of_ble_eq_true rfl⟩ rfl hl.1 rfl (Nat.le_of_ble_eq_true rfl) dX7_copy_76 ⟨Nat.le_of_ble_eq_true rfl, Nat.le_of_ble_eq_true rfl⟩ (fun H locs hW hS => ?_)
              refine lv_if_eq (tgt := 98) hx hb dX7_copy_79 (by decide) (fun c12 => ?_) (fun c12 => ?_)
              · rw [if_pos c12] at h
                exact hL98  D _ _ _  hW hS (lv_sub hl [0] rfl) h
              · rw [if_neg c12] at h
                refine lv_iload hx hb dX7_copy_82 (lv_at hl 4 rfl) ?_
                refine lv_iload hx hb dX7_copy_84 (lv_at hl 5 rfl) ?_
                refine lv_aload_n hx hb dX7_copy_86 rfl (lv_at hl 0 rfl) ?_
                refine wd_getR CF hE hW fl_X7_23 sh_370 rf_370_5 rfl dX7_copy_87 ?_
                refine lv_iload_n hx hb dX7_copy_90 rfl (lv_at hl 3 rfl) ?_
                obtain ⟨x13, ex13, h⟩ := bdE h
                refine wd_iald CF hE hW sh_375 ex13 dX7_copy_91 ?_
                refine wd_callSr CF hE hW hS (x_X7_fits l X a4 a5 x13 D) mi_X7_fits vi_X7_fits tw840 ⟨rfl, rfl, Nat.le_of_ble_eq_true rfl, Nat.le_of_ble_eq_true rfl⟩ rfl hl.1 rfl (Nat.le_of_ble_eq_true rfl) dX7_copy_92 ⟨Nat.le_of_ble_eq_true rfl, Nat.le_of_ble_eq_true rfl⟩ (fun H locs hW hS => ?_)
                refine lv_if_ne (tgt := 104) hx hb dX7_copy_95 (by decide) (fun c14 => ?_) (fun c14 => ?_)
                · rw [if_neg c14] at h
                  refine lv_iconst (v := 0) hx hb dX7_copy_104 (by decide) ?_
                  refine lv_istore (lv' := [(6, .int 0), (0, .ref (X.2.2.1 + 370)), (1, .int a1), (2, .int a2), (3, .int a3), (4, .int a4), (5, .int a5)]) hx hb dX7_copy_105 hl (by decide) rfl (fun ls hl => ?_)
                  exact hL107 FU 0 D _ _ _  hW hS (lv_sub hl [1, 2, 3, 4, 5, 6, 0] rfl) h
                · rw [if_pos c14] at h
                  exact hL98  D _ _ _  hW hS (lv_sub hl [0] rfl) h
          · rw [if_neg c9] at h
            refine lv_aload_n hx hb dX7_copy_56 rfl (lv_at hl 0 rfl) ?_
            refine lv_iconst (v := 5) hx hb dX7_copy_57 (by decide) ?_
            obtain ⟨q15, eq15⟩ : ∃ q, q = f_X7_found 5 D := ⟨_, rfl⟩
            replace h := apR eq15 h
            refine wd_callVr (ci := 7) (k := 370) CF hE hW hS (x_X7_found l X 5 D eq15.symm) mi_X7_found vi_X7_found tw823 ⟨by decide, rfl⟩ sh_370 ⟨rfl, rfl, Nat.le_of_ble_eq_true rfl, Nat.le_of_ble_eq_true rfl⟩ rfl hl.1 rfl (Nat.le_of_ble_eq_true rfl) dX7_copy_58 ⟨Nat.le_of_ble_eq_true rfl, Nat.le_of_ble_eq_true rfl⟩ (fun H locs hW hS => ?_)
            have h := Option.some.inj h
            subst h
            exact wd_iret CF hret hlk hW hS dX7_copy_61
        · rw [if_neg c6] at h
          exact hL35  D _ _ _  hW hS (lv_sub hl [0] rfl) h
    · rw [if_pos c2] at h
      refine lv_ldc (v := (-1000001)) hx hb hown (hts _ tw822) dX7_copy_14 ?_
      have h := Option.some.inj h
      subst h
      exact wd_iret CF hret hlk hW hS dX7_copy_16
def f_X7_drop (a1 : Int32) (D : wd_D) : Option (Int32 × wd_D) := (if (f_X7_isRow a1) = 0 then some ((-1000001), D) else (rd 8 D 375 a1).bind (fun x2 => (if 0 ≤ x2 then (rd 8 D 375 a1).bind (fun x4 => (wr 8 D 375 a1 (-1)).bind (fun D5 => ap (f_X7_good x4 D5) (fun q6 => some (q6.1, q6.2)))) else ap (f_X7_found 1 D) (fun q7 => some (q7.1, q7.2)))))
set_option maxHeartbeats 4000000 in
set_option maxRecDepth 100000 in
theorem x_X7_drop (l : Launch) (X : wd_X) (a1 : Int32) (D : wd_D) {qv : Int32 × wd_D} (h : f_X7_drop a1 D = some qv) : wd_Met l X yX7_drop cX7_drop 3 (some FieldType.int) ({ frames := 2, cells := 0, slots := 0, locals := 200 }) S0 S0 ([.ref (X.2.2.1 + 370), .int a1] : List Value) D qv.2 (some (.int qv.1)) 0 0 := by
  refine wd_enter (by decide) (Nat.le_of_ble_eq_true rfl) ?_
  intro p e s m below meth c CF hret hlk hnm hW hE ls hl
  have CF : CallFix p m c cX7_drop 3 s ([.ref (X.2.2.1 + 370), .int a1] : List Value).toArray tg RX7 := CF
  have hx := CF.1
  have hb := CF.2.1
  have hown := CF.2.2.2.1
  have hts := CF.2.2.2.2
  have hS : va_S (wd_A X) s.heap s.heap [] := va_S.rf
  have hl : lv_has ls 3 [(0, .ref (X.2.2.1 + 370)), (1, .int a1)] := hl
  unfold f_X7_drop at h
  refine lv_iload_n hx hb dX7_drop_0 rfl (lv_at hl 1 rfl) ?_
  refine wd_callSr CF hE hW hS (x_X7_isRow l X a1 D) mi_X7_isRow vi_X7_isRow tw814 ⟨rfl, rfl, Nat.le_of_ble_eq_true rfl, Nat.le_of_ble_eq_true rfl⟩ rfl hl.1 rfl (Nat.le_of_ble_eq_true rfl) dX7_drop_1 ⟨Nat.le_of_ble_eq_true rfl, Nat.le_of_ble_eq_true rfl⟩ (fun H locs hW hS => ?_)
  refine lv_if_ne (tgt := 10) hx hb dX7_drop_4 (by decide) (fun c1 => ?_) (fun c1 => ?_)
  · rw [if_neg c1] at h
    refine lv_aload_n hx hb dX7_drop_10 rfl (lv_at hl 0 rfl) ?_
    refine wd_getR CF hE hW fl_X7_23 sh_370 rf_370_5 rfl dX7_drop_11 ?_
    refine lv_iload_n hx hb dX7_drop_14 rfl (lv_at hl 1 rfl) ?_
    obtain ⟨x2, ex2, h⟩ := bdE h
    refine wd_iald CF hE hW sh_375 ex2 dX7_drop_15 ?_
    refine lv_if_ge (tgt := 25) hx hb dX7_drop_16 (by decide) (fun c3 => ?_) (fun c3 => ?_)
    · rw [if_pos c3] at h
      refine lv_aload_n hx hb dX7_drop_25 rfl (lv_at hl 0 rfl) ?_
      refine wd_getR CF hE hW fl_X7_23 sh_370 rf_370_5 rfl dX7_drop_26 ?_
      refine lv_iload_n hx hb dX7_drop_29 rfl (lv_at hl 1 rfl) ?_
      obtain ⟨x4, ex4, h⟩ := bdE h
      refine wd_iald CF hE hW sh_375 ex4 dX7_drop_30 ?_
      refine lv_istore_n (lv' := [(2, .int x4), (0, .ref (X.2.2.1 + 370)), (1, .int a1)]) hx hb dX7_drop_31 rfl hl (by decide) rfl (fun ls hl => ?_)
      refine lv_aload_n hx hb dX7_drop_32 rfl (lv_at hl 1 rfl) ?_
      refine wd_getR CF hE hW fl_X7_23 sh_370 rf_370_5 rfl dX7_drop_33 ?_
      refine lv_iload_n hx hb dX7_drop_36 rfl (lv_at hl 2 rfl) ?_
      refine lv_iconst (v := (-1)) hx hb dX7_drop_37 (by decide) ?_
      obtain ⟨D5, eD5, h⟩ := bdE h
      refine wd_iast CF hE hW hS sh_375 eD5 dX7_drop_38 (fun H locs hW hS => ?_)
      refine lv_aload_n hx hb dX7_drop_39 rfl (lv_at hl 1 rfl) ?_
      refine lv_iload_n hx hb dX7_drop_40 rfl (lv_at hl 0 rfl) ?_
      obtain ⟨q6, eq6⟩ : ∃ q, q = f_X7_good x4 D5 := ⟨_, rfl⟩
      replace h := apR eq6 h
      refine wd_callVr (ci := 7) (k := 370) CF hE hW hS (x_X7_good l X x4 D5 eq6.symm) mi_X7_good vi_X7_good tw828 ⟨by decide, rfl⟩ sh_370 ⟨rfl, rfl, Nat.le_of_ble_eq_true rfl, Nat.le_of_ble_eq_true rfl⟩ rfl hl.1 rfl (Nat.le_of_ble_eq_true rfl) dX7_drop_41 ⟨Nat.le_of_ble_eq_true rfl, Nat.le_of_ble_eq_true rfl⟩ (fun H locs hW hS => ?_)
      have h := Option.some.inj h
      subst h
      exact wd_iret CF hret hlk hW hS dX7_drop_44
    · rw [if_neg c3] at h
      refine lv_aload_n hx hb dX7_drop_19 rfl (lv_at hl 0 rfl) ?_
      refine lv_iconst (v := 1) hx hb dX7_drop_20 (by decide) ?_
      obtain ⟨q7, eq7⟩ : ∃ q, q = f_X7_found 1 D := ⟨_, rfl⟩
      replace h := apR eq7 h
      refine wd_callVr (ci := 7) (k := 370) CF hE hW hS (x_X7_found l X 1 D eq7.symm) mi_X7_found vi_X7_found tw823 ⟨by decide, rfl⟩ sh_370 ⟨rfl, rfl, Nat.le_of_ble_eq_true rfl, Nat.le_of_ble_eq_true rfl⟩ rfl hl.1 rfl (Nat.le_of_ble_eq_true rfl) dX7_drop_21 ⟨Nat.le_of_ble_eq_true rfl, Nat.le_of_ble_eq_true rfl⟩ (fun H locs hW hS => ?_)
      have h := Option.some.inj h
      subst h
      exact wd_iret CF hret hlk hW hS dX7_drop_24
  · rw [if_pos c1] at h
    refine lv_ldc (v := (-1000001)) hx hb hown (hts _ tw822) dX7_drop_7 ?_
    have h := Option.some.inj h
    subst h
    exact wd_iret CF hret hlk hW hS dX7_drop_9
def f_X7_against (a1 : Int32) (a2 : Int32) (a3 : Int32) (D : wd_D) : Option (Int32 × wd_D) := (rd 8 D 375 a1).bind (fun x1 => (if 0 ≤ x1 then (rd 8 D 375 a1).bind (fun x3 => (if (f_X7_fits a2 a3 x3) = 0 then ap (f_X7_found 2 D) (fun q5 => some (q5.1, q5.2)) else some (0, D))) else ap (f_X7_found 1 D) (fun q6 => some (q6.1, q6.2))))
set_option maxHeartbeats 4000000 in
set_option maxRecDepth 100000 in
theorem x_X7_against (l : Launch) (X : wd_X) (a1 : Int32) (a2 : Int32) (a3 : Int32) (D : wd_D) {qv : Int32 × wd_D} (h : f_X7_against a1 a2 a3 D = some qv) : wd_Met l X yX7_against cX7_against 4 (some FieldType.int) ({ frames := 1, cells := 0, slots := 0, locals := 100 }) S0 S0 ([.ref (X.2.2.1 + 370), .int a1, .int a2, .int a3] : List Value) D qv.2 (some (.int qv.1)) 0 0 := by
  refine wd_enter (by decide) (Nat.le_of_ble_eq_true rfl) ?_
  intro p e s m below meth c CF hret hlk hnm hW hE ls hl
  have CF : CallFix p m c cX7_against 4 s ([.ref (X.2.2.1 + 370), .int a1, .int a2, .int a3] : List Value).toArray tg RX7 := CF
  have hx := CF.1
  have hb := CF.2.1
  have hown := CF.2.2.2.1
  have hts := CF.2.2.2.2
  have hS : va_S (wd_A X) s.heap s.heap [] := va_S.rf
  have hl : lv_has ls 4 [(0, .ref (X.2.2.1 + 370)), (1, .int a1), (2, .int a2), (3, .int a3)] := hl
  unfold f_X7_against at h
  refine lv_aload_n hx hb dX7_against_0 rfl (lv_at hl 0 rfl) ?_
  refine wd_getR CF hE hW fl_X7_23 sh_370 rf_370_5 rfl dX7_against_1 ?_
  refine lv_iload_n hx hb dX7_against_4 rfl (lv_at hl 1 rfl) ?_
  obtain ⟨x1, ex1, h⟩ := bdE h
  refine wd_iald CF hE hW sh_375 ex1 dX7_against_5 ?_
  refine lv_if_ge (tgt := 15) hx hb dX7_against_6 (by decide) (fun c2 => ?_) (fun c2 => ?_)
  · rw [if_pos c2] at h
    refine lv_iload_n hx hb dX7_against_15 rfl (lv_at hl 2 rfl) ?_
    refine lv_iload_n hx hb dX7_against_16 rfl (lv_at hl 3 rfl) ?_
    refine lv_aload_n hx hb dX7_against_17 rfl (lv_at hl 0 rfl) ?_
    refine wd_getR CF hE hW fl_X7_23 sh_370 rf_370_5 rfl dX7_against_18 ?_
    refine lv_iload_n hx hb dX7_against_21 rfl (lv_at hl 1 rfl) ?_
    obtain ⟨x3, ex3, h⟩ := bdE h
    refine wd_iald CF hE hW sh_375 ex3 dX7_against_22 ?_
    refine wd_callSr CF hE hW hS (x_X7_fits l X a2 a3 x3 D) mi_X7_fits vi_X7_fits tw840 ⟨rfl, rfl, Nat.le_of_ble_eq_true rfl, Nat.le_of_ble_eq_true rfl⟩ rfl hl.1 rfl (Nat.le_of_ble_eq_true rfl) dX7_against_23 ⟨Nat.le_of_ble_eq_true rfl, Nat.le_of_ble_eq_true rfl⟩ (fun H locs hW hS => ?_)
    refine lv_if_eq (tgt := 33) hx hb dX7_against_26 (by decide) (fun c4 => ?_) (fun c4 => ?_)
    · rw [if_pos c4] at h
      refine lv_aload_n hx hb dX7_against_33 rfl (lv_at hl 0 rfl) ?_
      refine lv_iconst (v := 2) hx hb dX7_against_34 (by decide) ?_
      obtain ⟨q5, eq5⟩ : ∃ q, q = f_X7_found 2 D := ⟨_, rfl⟩
      replace h := apR eq5 h
      refine wd_callVr (ci := 7) (k := 370) CF hE hW hS (x_X7_found l X 2 D eq5.symm) mi_X7_found vi_X7_found tw823 ⟨by decide, rfl⟩ sh_370 ⟨rfl, rfl, Nat.le_of_ble_eq_true rfl, Nat.le_of_ble_eq_true rfl⟩ rfl hl.1 rfl (Nat.le_of_ble_eq_true rfl) dX7_against_35 ⟨Nat.le_of_ble_eq_true rfl, Nat.le_of_ble_eq_true rfl⟩ (fun H locs hW hS => ?_)
      have h := Option.some.inj h
      subst h
      exact wd_iret CF hret hlk hW hS dX7_against_38
    · rw [if_neg c4] at h
      refine lv_iconst (v := 0) hx hb dX7_against_29 (by decide) ?_
      refine lv_goto (tgt := 38) hx hb dX7_against_30 (by decide) ?_
      have h := Option.some.inj h
      subst h
      exact wd_iret CF hret hlk hW hS dX7_against_38
  · rw [if_neg c2] at h
    refine lv_aload_n hx hb dX7_against_9 rfl (lv_at hl 0 rfl) ?_
    refine lv_iconst (v := 1) hx hb dX7_against_10 (by decide) ?_
    obtain ⟨q6, eq6⟩ : ∃ q, q = f_X7_found 1 D := ⟨_, rfl⟩
    replace h := apR eq6 h
    refine wd_callVr (ci := 7) (k := 370) CF hE hW hS (x_X7_found l X 1 D eq6.symm) mi_X7_found vi_X7_found tw823 ⟨by decide, rfl⟩ sh_370 ⟨rfl, rfl, Nat.le_of_ble_eq_true rfl, Nat.le_of_ble_eq_true rfl⟩ rfl hl.1 rfl (Nat.le_of_ble_eq_true rfl) dX7_against_11 ⟨Nat.le_of_ble_eq_true rfl, Nat.le_of_ble_eq_true rfl⟩ (fun H locs hW hS => ?_)
    have h := Option.some.inj h
    subst h
    exact wd_iret CF hret hlk hW hS dX7_against_14
def f_X7_feed (a1 : Int32) (D : wd_D) : Option (Int32 × wd_D) := (if (f_X7_in a1.toInt64 0 255) = 0 then some ((-1000001), D) else (if (gI D 370 9) = 120 then some ((-1000003), D) else (wr 120 D 377 (gI D 370 9) a1).bind (fun D3 => ap (sI D3 370 9 ((gI D3 370 9) + 1)) (fun D4 => some (gI D4 370 9, D4)))))
set_option maxHeartbeats 4000000 in
set_option maxRecDepth 100000 in
theorem x_X7_feed (l : Launch) (X : wd_X) (a1 : Int32) (D : wd_D) {qv : Int32 × wd_D} (h : f_X7_feed a1 D = some qv) : wd_Met l X yX7_feed cX7_feed 2 (some FieldType.int) ({ frames := 1, cells := 0, slots := 0, locals := 100 }) S0 S0 ([.ref (X.2.2.1 + 370), .int a1] : List Value) D qv.2 (some (.int qv.1)) 0 0 := by
  refine wd_enter (by decide) (Nat.le_of_ble_eq_true rfl) ?_
  intro p e s m below meth c CF hret hlk hnm hW hE ls hl
  have CF : CallFix p m c cX7_feed 2 s ([.ref (X.2.2.1 + 370), .int a1] : List Value).toArray tg RX7 := CF
  have hx := CF.1
  have hb := CF.2.1
  have hown := CF.2.2.2.1
  have hts := CF.2.2.2.2
  have hS : va_S (wd_A X) s.heap s.heap [] := va_S.rf
  have hl : lv_has ls 2 [(0, .ref (X.2.2.1 + 370)), (1, .int a1)] := hl
  unfold f_X7_feed at h
  refine lv_iload_n hx hb dX7_feed_0 rfl (lv_at hl 1 rfl) ?_
  refine lv_i2l hx hb dX7_feed_1 rfl ?_
  refine lv_lconst (v := 0) hx hb dX7_feed_2 (by decide) ?_
  refine lv_ldc2 (v := 255) hx hb hown (hts _ tw851) dX7_feed_3 ?_
  refine wd_callSr CF hE hW hS (x_X7_in l X a1.toInt64 0 255 D) mi_X7_in vi_X7_in tw818 ⟨rfl, rfl, Nat.le_of_ble_eq_true rfl, Nat.le_of_ble_eq_true rfl⟩ rfl hl.1 rfl (Nat.le_of_ble_eq_true rfl) dX7_feed_6 ⟨Nat.le_of_ble_eq_true rfl, Nat.le_of_ble_eq_true rfl⟩ (fun H locs hW hS => ?_)
  refine lv_if_ne (tgt := 15) hx hb dX7_feed_9 (by decide) (fun c1 => ?_) (fun c1 => ?_)
  · rw [if_neg c1] at h
    refine lv_aload_n hx hb dX7_feed_15 rfl (lv_at hl 0 rfl) ?_
    refine wd_get CF hE hW fl_X7_72 sh_370 (v := .int (gI D 370 9)) rfl dX7_feed_16 ?_
    refine lv_bipush (v := 120) hx hb dX7_feed_19 (by decide) ?_
    refine lv_icmp_ne (tgt := 27) hx hb dX7_feed_21 (by decide) (fun c2 => ?_) (fun c2 => ?_)
    · rw [if_neg c2] at h
      refine lv_aload_n hx hb dX7_feed_27 rfl (lv_at hl 0 rfl) ?_
      refine wd_getR CF hE hW fl_X7_29 sh_370 rf_370_8 rfl dX7_feed_28 ?_
      refine lv_aload_n hx hb dX7_feed_31 rfl (lv_at hl 0 rfl) ?_
      refine wd_get CF hE hW fl_X7_72 sh_370 (v := .int (gI D 370 9)) rfl dX7_feed_32 ?_
      refine lv_iload_n hx hb dX7_feed_35 rfl (lv_at hl 1 rfl) ?_
      obtain ⟨D3, eD3, h⟩ := bdE h
      refine wd_iast CF hE hW hS sh_377 eD3 dX7_feed_36 (fun H locs hW hS => ?_)
      refine lv_aload_n hx hb dX7_feed_37 rfl (lv_at hl 0 rfl) ?_
      refine lv_dup hx hb dX7_feed_38 rfl ?_
      refine wd_get CF hE hW fl_X7_72 sh_370 (v := .int (gI D3 370 9)) rfl dX7_feed_39 ?_
      refine lv_iconst (v := 1) hx hb dX7_feed_42 (by decide) ?_
      refine lv_iadd hx hb dX7_feed_43 ?_
      refine wd_putI CF hE hW hS fl_X7_72 sh_370 rfl rfl dX7_feed_44 (fun D4 H locs eD4 hW hS => ?_)
      replace h := apR eD4 h
      refine lv_aload_n hx hb dX7_feed_47 rfl (lv_at hl 0 rfl) ?_
      refine wd_get CF hE hW fl_X7_72 sh_370 (v := .int (gI D4 370 9)) rfl dX7_feed_48 ?_
      have h := Option.some.inj h
      subst h
      exact wd_iret CF hret hlk hW hS dX7_feed_51
    · rw [if_pos c2] at h
      refine lv_ldc (v := (-1000003)) hx hb hown (hts _ tw852) dX7_feed_24 ?_
      have h := Option.some.inj h
      subst h
      exact wd_iret CF hret hlk hW hS dX7_feed_26
  · rw [if_pos c1] at h
    refine lv_ldc (v := (-1000001)) hx hb hown (hts _ tw822) dX7_feed_12 ?_
    have h := Option.some.inj h
    subst h
    exact wd_iret CF hret hlk hW hS dX7_feed_14
def f_X7_byteAt (a1 : Int32) (D : wd_D) : Option (Int32) := (if (gI D 370 9) ≤ a1 then some (-1) else (rd 120 D 377 a1).bind (fun x2 => some x2))
set_option maxHeartbeats 4000000 in
set_option maxRecDepth 100000 in
theorem x_X7_byteAt (l : Launch) (X : wd_X) (a1 : Int32) (D : wd_D) {rv : Int32} (h : f_X7_byteAt a1 D = some rv) : wd_Met l X yX7_byteAt cX7_byteAt 2 (some FieldType.int) ({ frames := 0, cells := 0, slots := 0, locals := 0 }) S0 S0 ([.ref (X.2.2.1 + 370), .int a1] : List Value) D D (some (.int rv)) 0 0 := by
  refine wd_enter (by decide) (Nat.le_of_ble_eq_true rfl) ?_
  intro p e s m below meth c CF hret hlk hnm hW hE ls hl
  have CF : CallFix p m c cX7_byteAt 2 s ([.ref (X.2.2.1 + 370), .int a1] : List Value).toArray tg RX7 := CF
  have hx := CF.1
  have hb := CF.2.1
  have hown := CF.2.2.2.1
  have hts := CF.2.2.2.2
  have hS : va_S (wd_A X) s.heap s.heap [] := va_S.rf
  have hl : lv_has ls 2 [(0, .ref (X.2.2.1 + 370)), (1, .int a1)] := hl
  unfold f_X7_byteAt at h
  refine lv_iload_n hx hb dX7_byteAt_0 rfl (lv_at hl 1 rfl) ?_
  refine lv_aload_n hx hb dX7_byteAt_1 rfl (lv_at hl 0 rfl) ?_
  refine wd_get CF hE hW fl_X7_72 sh_370 (v := .int (gI D 370 9)) rfl dX7_byteAt_2 ?_
  refine lv_icmp_ge (tgt := 17) hx hb dX7_byteAt_5 (by decide) (fun c1 => ?_) (fun c1 => ?_)
  · rw [if_pos c1] at h
    refine lv_iconst (v := (-1)) hx hb dX7_byteAt_17 (by decide) ?_
    have h := Option.some.inj h
    subst h
    exact wd_iret CF hret hlk hW hS dX7_byteAt_18
  · rw [if_neg c1] at h
    refine lv_aload_n hx hb dX7_byteAt_8 rfl (lv_at hl 0 rfl) ?_
    refine wd_getR CF hE hW fl_X7_29 sh_370 rf_370_8 rfl dX7_byteAt_9 ?_
    refine lv_iload_n hx hb dX7_byteAt_12 rfl (lv_at hl 1 rfl) ?_
    obtain ⟨x2, ex2, h⟩ := bdE h
    refine wd_iald CF hE hW sh_377 ex2 dX7_byteAt_13 ?_
    refine lv_goto (tgt := 18) hx hb dX7_byteAt_14 (by decide) ?_
    have h := Option.some.inj h
    subst h
    exact wd_iret CF hret hlk hW hS dX7_byteAt_18
def f_X7_fails (a1 : Int32) (a2 : Int32) (D : wd_D) : Int32 × wd_D := ap (sI D 370 10 a1) (fun D1 => ap (sI D1 370 16 a2) (fun D2 => (0, D2)))
set_option maxHeartbeats 4000000 in
set_option maxRecDepth 100000 in
theorem x_X7_fails (l : Launch) (X : wd_X) (a1 : Int32) (a2 : Int32) (D : wd_D) {qv : Int32 × wd_D} (h : f_X7_fails a1 a2 D = qv) : wd_Met l X yX7_fails cX7_fails 3 (some FieldType.boolean) ({ frames := 0, cells := 0, slots := 0, locals := 0 }) S0 S0 ([.ref (X.2.2.1 + 370), .int a1, .int a2] : List Value) D qv.2 (some (.int qv.1)) 0 0 := by
  refine wd_enter (by decide) (Nat.le_of_ble_eq_true rfl) ?_
  intro p e s m below meth c CF hret hlk hnm hW hE ls hl
  have CF : CallFix p m c cX7_fails 3 s ([.ref (X.2.2.1 + 370), .int a1, .int a2] : List Value).toArray tg RX7 := CF
  have hx := CF.1
  have hb := CF.2.1
  have hown := CF.2.2.2.1
  have hts := CF.2.2.2.2
  have hS : va_S (wd_A X) s.heap s.heap [] := va_S.rf
  have hl : lv_has ls 3 [(0, .ref (X.2.2.1 + 370)), (1, .int a1), (2, .int a2)] := hl
  unfold f_X7_fails at h
  refine lv_aload_n hx hb dX7_fails_0 rfl (lv_at hl 0 rfl) ?_
  refine lv_iload_n hx hb dX7_fails_1 rfl (lv_at hl 1 rfl) ?_
  refine wd_putI CF hE hW hS fl_X7_76 sh_370 rfl rfl dX7_fails_2 (fun D1 H locs eD1 hW hS => ?_)
  replace h := apR eD1 h
  refine lv_aload_n hx hb dX7_fails_5 rfl (lv_at hl 0 rfl) ?_
  refine lv_iload_n hx hb dX7_fails_6 rfl (lv_at hl 2 rfl) ?_
  refine wd_putI CF hE hW hS fl_X7_79 sh_370 rfl rfl dX7_fails_7 (fun D2 H locs eD2 hW hS => ?_)
  replace h := apR eD2 h
  refine lv_iconst (v := 0) hx hb dX7_fails_10 (by decide) ?_
  subst h
  exact wd_zret CF hret hlk hW hS (Or.inl rfl) dX7_fails_11
def f_X7_takes (a1 : Int32) (D : wd_D) : Option (Int32 × wd_D) := (f_X7_byteAt (gI D 370 14) D).bind (fun x1 => (if x1 = a1 then ap (sI D 370 14 ((gI D 370 14) + 1)) (fun D3 => some (1, D3)) else ap (f_X7_fails 1 (gI D 370 14) D) (fun q4 => (bo q4.1).bind (fun x5 => some (x5, q4.2)))))
set_option maxHeartbeats 4000000 in
set_option maxRecDepth 100000 in
theorem x_X7_takes (l : Launch) (X : wd_X) (a1 : Int32) (D : wd_D) {qv : Int32 × wd_D} (h : f_X7_takes a1 D = some qv) : wd_Met l X yX7_takes cX7_takes 2 (some FieldType.boolean) ({ frames := 1, cells := 0, slots := 0, locals := 100 }) S0 S0 ([.ref (X.2.2.1 + 370), .int a1] : List Value) D qv.2 (some (.int qv.1)) 0 0 := by
  refine wd_enter (by decide) (Nat.le_of_ble_eq_true rfl) ?_
  intro p e s m below meth c CF hret hlk hnm hW hE ls hl
  have CF : CallFix p m c cX7_takes 2 s ([.ref (X.2.2.1 + 370), .int a1] : List Value).toArray tg RX7 := CF
  have hx := CF.1
  have hb := CF.2.1
  have hown := CF.2.2.2.1
  have hts := CF.2.2.2.2
  have hS : va_S (wd_A X) s.heap s.heap [] := va_S.rf
  have hl : lv_has ls 2 [(0, .ref (X.2.2.1 + 370)), (1, .int a1)] := hl
  unfold f_X7_takes at h
  refine lv_aload_n hx hb dX7_takes_0 rfl (lv_at hl 0 rfl) ?_
  refine lv_aload_n hx hb dX7_takes_1 rfl (lv_at hl 0 rfl) ?_
  refine wd_get CF hE hW fl_X7_82 sh_370 (v := .int (gI D 370 14)) rfl dX7_takes_2 ?_
  obtain ⟨x1, ex1, h⟩ := bdE h
  refine wd_callVr (ci := 7) (k := 370) CF hE hW hS (x_X7_byteAt l X (gI D 370 14) D ex1) mi_X7_byteAt vi_X7_byteAt tw865 ⟨by decide, rfl⟩ sh_370 ⟨rfl, rfl, Nat.le_of_ble_eq_true rfl, Nat.le_of_ble_eq_true rfl⟩ rfl hl.1 rfl (Nat.le_of_ble_eq_true rfl) dX7_takes_5 ⟨Nat.le_of_ble_eq_true rfl, Nat.le_of_ble_eq_true rfl⟩ (fun H locs hW hS => ?_)
  refine lv_iload_n hx hb dX7_takes_8 rfl (lv_at hl 1 rfl) ?_
  refine lv_icmp_eq (tgt := 22) hx hb dX7_takes_9 (by decide) (fun c2 => ?_) (fun c2 => ?_)
  · rw [if_pos c2] at h
    refine lv_aload_n hx hb dX7_takes_22 rfl (lv_at hl 0 rfl) ?_
    refine lv_dup hx hb dX7_takes_23 rfl ?_
    refine wd_get CF hE hW fl_X7_82 sh_370 (v := .int (gI D 370 14)) rfl dX7_takes_24 ?_
    refine lv_iconst (v := 1) hx hb dX7_takes_27 (by decide) ?_
    refine lv_iadd hx hb dX7_takes_28 ?_
    refine wd_putI CF hE hW hS fl_X7_82 sh_370 rfl rfl dX7_takes_29 (fun D3 H locs eD3 hW hS => ?_)
    replace h := apR eD3 h
    refine lv_iconst (v := 1) hx hb dX7_takes_32 (by decide) ?_
    have h := Option.some.inj h
    subst h
    exact wd_zret CF hret hlk hW hS (Or.inr rfl) dX7_takes_33
  · rw [if_neg c2] at h
    refine lv_aload_n hx hb dX7_takes_12 rfl (lv_at hl 0 rfl) ?_
    refine lv_iconst (v := 1) hx hb dX7_takes_13 (by decide) ?_
    refine lv_aload_n hx hb dX7_takes_14 rfl (lv_at hl 0 rfl) ?_
    refine wd_get CF hE hW fl_X7_82 sh_370 (v := .int (gI D 370 14)) rfl dX7_takes_15 ?_
    obtain ⟨q4, eq4⟩ : ∃ q, q = f_X7_fails 1 (gI D 370 14) D := ⟨_, rfl⟩
    replace h := apR eq4 h
    refine wd_callVr (ci := 7) (k := 370) CF hE hW hS (x_X7_fails l X 1 (gI D 370 14) D eq4.symm) mi_X7_fails vi_X7_fails tw869 ⟨by decide, rfl⟩ sh_370 ⟨rfl, rfl, Nat.le_of_ble_eq_true rfl, Nat.le_of_ble_eq_true rfl⟩ rfl hl.1 rfl (Nat.le_of_ble_eq_true rfl) dX7_takes_18 ⟨Nat.le_of_ble_eq_true rfl, Nat.le_of_ble_eq_true rfl⟩ (fun H locs hW hS => ?_)
    obtain ⟨x5, ex5, h⟩ := bdE h
    obtain ⟨fx5, gx5⟩ := bo_e ex5
    subst fx5
    have h := Option.some.inj h
    subst h
    exact wd_zret CF hret hlk hW hS gx5 dX7_takes_21
def f_X7_takesNumber_L106  (a1 : Int32) (a2 : Int32) (a3 : Int32) (v4 : Int32) (D : wd_D) : Option (Int32 × wd_D) := ap (f_X7_fails 1 v4 D) (fun q14 => (bo q14.1).bind (fun x15 => some (x15, q14.2)))
def f_X7_takesNumber_L70 (k11 : Int32 → Int32 → Int32 → Int32 → wd_D → Option (Int32 × wd_D)) (a1 : Int32) (a2 : Int32) (a3 : Int32) (v4 : Int32) (z0 : Int32) (D : wd_D) : Option (Int32 × wd_D) := ap (sI D 370 15 z0) (fun D16 => ap (sI D16 370 14 ((gI D16 370 14) + 1)) (fun D17 => k11 a1 a2 a3 v4 D17))
def f_X7_takesNumber_L11  : Nat → Int32 → Int32 → Int32 → Int32 → wd_D → Option (Int32 × wd_D)
  | 0, _, _, _, _, _ => none
  | n + 1, a1, a2, a3, v4, D => (f_X7_byteAt (gI D 370 14) D).bind (fun x3 => (if (f_X7_in x3.toInt64 48 57) = 0 then (if (gI D 370 14) = v4 then f_X7_takesNumber_L106 a1 a2 a3 v4 D else (if ((gI D 370 14) - v4) ≤ 2 then (if (f_X7_in ((gI D 370 15).toInt64) a1.toInt64 a2.toInt64) = 0 then ap (f_X7_fails 2 v4 D) (fun q8 => (bo q8.1).bind (fun x9 => some (x9, q8.2))) else (f_X7_takes a3 D).bind (fun q10 => (bo q10.1).bind (fun x11 => some (x11, q10.2)))) else f_X7_takesNumber_L106 a1 a2 a3 v4 D)) else (if 2 ≤ ((gI D 370 14) - v4) then f_X7_takesNumber_L70 (f_X7_takesNumber_L11 n) a1 a2 a3 v4 (gI D 370 15) D else (f_X7_byteAt (gI D 370 14) D).bind (fun x13 => f_X7_takesNumber_L70 (f_X7_takesNumber_L11 n) a1 a2 a3 v4 (((10 * (gI D 370 15)) + x13) - 48) D))))
def f_X7_takesNumber (a1 : Int32) (a2 : Int32) (a3 : Int32) (D : wd_D) : Option (Int32 × wd_D) := ap (gI D 370 14) (fun x1 => ap (sI D 370 15 0) (fun D2 => f_X7_takesNumber_L11 FU a1 a2 a3 x1 D2))
set_option maxHeartbeats 4000000 in
set_option maxRecDepth 100000 in
theorem x_X7_takesNumber (l : Launch) (X : wd_X) (a1 : Int32) (a2 : Int32) (a3 : Int32) (D : wd_D) {qv : Int32 × wd_D} (h : f_X7_takesNumber a1 a2 a3 D = some qv) : wd_Met l X yX7_takesNumber cX7_takesNumber 5 (some FieldType.boolean) ({ frames := 2, cells := 0, slots := 0, locals := 200 }) S0 S0 ([.ref (X.2.2.1 + 370), .int a1, .int a2, .int a3] : List Value) D qv.2 (some (.int qv.1)) 0 0 := by
  refine wd_enter (by decide) (Nat.le_of_ble_eq_true rfl) ?_
  intro p e s m below meth c CF hret hlk hnm hW hE ls hl
  have CF : CallFix p m c cX7_takesNumber 5 s ([.ref (X.2.2.1 + 370), .int a1, .int a2, .int a3] : List Value).toArray tg RX7 := CF
  have hx := CF.1
  have hb := CF.2.1
  have hown := CF.2.2.2.1
  have hts := CF.2.2.2.2
  have hS : va_S (wd_A X) s.heap s.heap [] := va_S.rf
  have hl : lv_has ls 5 [(0, .ref (X.2.2.1 + 370)), (1, .int a1), (2, .int a2), (3, .int a3)] := hl
  unfold f_X7_takesNumber at h
  have hL106 : ∀ (v4 : Int32) (D : wd_D) (H : Heap) (locs : List Loc) (ls : Array Slot), Wd X S0 D H → va_S (wd_A X) s.heap H locs → lv_has ls 5 [(0, .ref (X.2.2.1 + 370)), (4, .int v4)] → f_X7_takesNumber_L106 a1 a2 a3 v4 D = some qv → W p l e ({ frames := 2, cells := 0, slots := 0, locals := 200 }) s m ([.ref (X.2.2.1 + 370), .int a1, .int a2, .int a3] : List Value).toArray below meth c H locs 0 0 (MQ below (wd_Q X S0 qv.2 (some (.int qv.1))) ([.ref (X.2.2.1 + 370), .int a1, .int a2, .int a3] : List Value).toArray s 0 0 (wd_A X)) (F0 m 106 ls []) := by
    intro v4 D H locs ls hW hS hl h
    unfold f_X7_takesNumber_L106 at h
    refine lv_aload_n hx hb dX7_takesNumber_106 rfl (lv_at hl 0 rfl) ?_
    refine lv_iconst (v := 1) hx hb dX7_takesNumber_107 (by decide) ?_
    refine lv_iload hx hb dX7_takesNumber_108 (lv_at hl 1 rfl) ?_
    obtain ⟨q14, eq14⟩ : ∃ q, q = f_X7_fails 1 v4 D := ⟨_, rfl⟩
    replace h := apR eq14 h
    refine wd_callVr (ci := 7) (k := 370) CF hE hW hS (x_X7_fails l X 1 v4 D eq14.symm) mi_X7_fails vi_X7_fails tw869 ⟨by decide, rfl⟩ sh_370 ⟨rfl, rfl, Nat.le_of_ble_eq_true rfl, Nat.le_of_ble_eq_true rfl⟩ rfl hl.1 rfl (Nat.le_of_ble_eq_true rfl) dX7_takesNumber_110 ⟨Nat.le_of_ble_eq_true rfl, Nat.le_of_ble_eq_true rfl⟩ (fun H locs hW hS => ?_)
    obtain ⟨x15, ex15, h⟩ := bdE h
    obtain ⟨fx15, gx15⟩ := bo_e ex15
    subst fx15
    have h := Option.some.inj h
    subst h
    exact wd_zret CF hret hlk hW hS gx15 dX7_takesNumber_113
  have hL11 : ∀ (n11 : Nat) (v4 : Int32) (D : wd_D) (H : Heap) (locs : List Loc) (ls : Array Slot), Wd X S0 D H → va_S (wd_A X) s.heap H locs → lv_has ls 5 [(0, .ref (X.2.2.1 + 370)), (1, .int a1), (2, .int a2), (3, .int a3), (4, .int v4)] → f_X7_takesNumber_L11 n11 a1 a2 a3 v4 D = some qv → W p l e ({ frames := 2, cells := 0, slots := 0, locals := 200 }) s m ([.ref (X.2.2.1 + 370), .int a1, .int a2, .int a3] : List Value).toArray below meth c H locs 0 0 (MQ below (wd_Q X S0 qv.2 (some (.int qv.1))) ([.ref (X.2.2.1 + 370), .int a1, .int a2, .int a3] : List Value).toArray s 0 0 (wd_A X)) (F0 m 11 ls []) := by
    intro n11
    induction n11 with
    | zero => intro v4 D H locs ls hW hS hl h; cases h
    | succ n11 ih11 =>
      have hL70 : ∀ (v4 : Int32) (z0 : Int32) (D : wd_D) (H : Heap) (locs : List Loc) (ls : Array Slot), Wd X S0 D H → va_S (wd_A X) s.heap H locs → lv_has ls 5 [(0, .ref (X.2.2.1 + 370)), (1, .int a1), (2, .int a2), (3, .int a3), (4, .int v4)] → f_X7_takesNumber_L70 (f_X7_takesNumber_L11 n11) a1 a2 a3 v4 z0 D = some qv → W p l e ({ frames := 2, cells := 0, slots := 0, locals := 200 }) s m ([.ref (X.2.2.1 + 370), .int a1, .int a2, .int a3] : List Value).toArray below meth c H locs 0 0 (MQ below (wd_Q X S0 qv.2 (some (.int qv.1))) ([.ref (X.2.2.1 + 370), .int a1, .int a2, .int a3] : List Value).toArray s 0 0 (wd_A X)) (F0 m 70 ls [.int z0, .ref (X.2.2.1 + 370)]) := by
        intro v4 z0 D H locs ls hW hS hl h
        unfold f_X7_takesNumber_L70 at h
        refine wd_putI CF hE hW hS fl_X7_92 sh_370 rfl rfl dX7_takesNumber_70 (fun D16 H locs eD16 hW hS => ?_)
        replace h := apR eD16 h
        refine lv_aload_n hx hb dX7_takesNumber_73 rfl (lv_at hl 0 rfl) ?_
        refine lv_dup hx hb dX7_takesNumber_74 rfl ?_
        refine wd_get CF hE hW fl_X7_82 sh_370 (v := .int (gI D16 370 14)) rfl dX7_takesNumber_75 ?_
        refine lv_iconst (v := 1) hx hb dX7_takesNumber_78 (by decide) ?_
        refine lv_iadd hx hb dX7_takesNumber_79 ?_
        refine wd_putI CF hE hW hS fl_X7_82 sh_370 rfl rfl dX7_takesNumber_80 (fun D17 H locs eD17 hW hS => ?_)
        replace h := apR eD17 h
        refine lv_goto (tgt := 11) hx hb dX7_takesNumber_83 (by decide) ?_
        exact ih11 v4 D17 _ _ _  hW hS (lv_sub hl [0, 1, 2, 3, 4] rfl) h
      intro v4 D H locs ls hW hS hl h
      rw [f_X7_takesNumber_L11] at h
      refine lv_aload_n hx hb dX7_takesNumber_11 rfl (lv_at hl 0 rfl) ?_
      refine lv_aload_n hx hb dX7_takesNumber_12 rfl (lv_at hl 0 rfl) ?_
      refine wd_get CF hE hW fl_X7_82 sh_370 (v := .int (gI D 370 14)) rfl dX7_takesNumber_13 ?_
      obtain ⟨x3, ex3, h⟩ := bdE h
      refine wd_callVr (ci := 7) (k := 370) CF hE hW hS (x_X7_byteAt l X (gI D 370 14) D ex3) mi_X7_byteAt vi_X7_byteAt tw865 ⟨by decide, rfl⟩ sh_370 ⟨rfl, rfl, Nat.le_of_ble_eq_true rfl, Nat.le_of_ble_eq_true rfl⟩ rfl hl.1 rfl (Nat.le_of_ble_eq_true rfl) dX7_takesNumber_16 ⟨Nat.le_of_ble_eq_true rfl, Nat.le_of_ble_eq_true rfl⟩ (fun H locs hW hS => ?_)
      refine lv_i2l hx hb dX7_takesNumber_19 rfl ?_
      refine lv_ldc2 (v := 48) hx hb hown (hts _ tw877) dX7_takesNumber_20 ?_
      refine lv_ldc2 (v := 57) hx hb hown (hts _ tw878) dX7_takesNumber_23 ?_
      refine wd_callSr CF hE hW hS (x_X7_in l X x3.toInt64 48 57 D) mi_X7_in vi_X7_in tw818 ⟨rfl, rfl, Nat.le_of_ble_eq_true rfl, Nat.le_of_ble_eq_true rfl⟩ rfl hl.1 rfl (Nat.le_of_ble_eq_true rfl) dX7_takesNumber_26 ⟨Nat.le_of_ble_eq_true rfl, Nat.le_of_ble_eq_true rfl⟩ (fun H locs hW hS => ?_)
      refine lv_if_eq (tgt := 86) hx hb dX7_takesNumber_29 (by decide) (fun c4 => ?_) (fun c4 => ?_)
      · rw [if_pos c4] at h
        refine lv_aload_n hx hb dX7_takesNumber_86 rfl (lv_at hl 0 rfl) ?_
        refine wd_get CF hE hW fl_X7_82 sh_370 (v := .int (gI D 370 14)) rfl dX7_takesNumber_87 ?_
        refine lv_iload hx hb dX7_takesNumber_90 (lv_at hl 4 rfl) ?_
        refine lv_icmp_eq (tgt := 106) hx hb dX7_takesNumber_92 (by decide) (fun c5 => ?_) (fun c5 => ?_)
        · rw [if_pos c5] at h
          exact hL106 v4 D _ _ _  hW hS (lv_sub hl [0, 4] rfl) h
        · rw [if_neg c5] at h
          refine lv_aload_n hx hb dX7_takesNumber_95 rfl (lv_at hl 0 rfl) ?_
          refine wd_get CF hE hW fl_X7_82 sh_370 (v := .int (gI D 370 14)) rfl dX7_takesNumber_96 ?_
          refine lv_iload hx hb dX7_takesNumber_99 (lv_at hl 4 rfl) ?_
          refine lv_isub hx hb dX7_takesNumber_101 ?_
          refine lv_iconst (v := 2) hx hb dX7_takesNumber_102 (by decide) ?_
          refine lv_icmp_le (tgt := 114) hx hb dX7_takesNumber_103 (by decide) (fun c6 => ?_) (fun c6 => ?_)
          · rw [if_pos c6] at h
            refine lv_aload_n hx hb dX7_takesNumber_114 rfl (lv_at hl 0 rfl) ?_
            refine wd_get CF hE hW fl_X7_92 sh_370 (v := .int (gI D 370 15)) rfl dX7_takesNumber_115 ?_
            refine lv_i2l hx hb dX7_takesNumber_118 rfl ?_
            refine lv_iload_n hx hb dX7_takesNumber_119 rfl (lv_at hl 1 rfl) ?_
            refine lv_i2l hx hb dX7_takesNumber_120 rfl ?_
            refine lv_iload_n hx hb dX7_takesNumber_121 rfl (lv_at hl 2 rfl) ?_
            refine lv_i2l hx hb dX7_takesNumber_122 rfl ?_
            refine wd_callSr CF hE hW hS (x_X7_in l X ((gI D 370 15).toInt64) a1.toInt64 a2.toInt64 D) mi_X7_in vi_X7_in tw818 ⟨rfl, rfl, Nat.le_of_ble_eq_true rfl, Nat.le_of_ble_eq_true rfl⟩ rfl hl.1 rfl (Nat.le_of_ble_eq_true rfl) dX7_takesNumber_123 ⟨Nat.le_of_ble_eq_true rfl, Nat.le_of_ble_eq_true rfl⟩ (fun H locs hW hS => ?_)
            refine lv_if_eq (tgt := 137) hx hb dX7_takesNumber_126 (by decide) (fun c7 => ?_) (fun c7 => ?_)
            · rw [if_pos c7] at h
              refine lv_aload_n hx hb dX7_takesNumber_137 rfl (lv_at hl 0 rfl) ?_
              refine lv_iconst (v := 2) hx hb dX7_takesNumber_138 (by decide) ?_
              refine lv_iload hx hb dX7_takesNumber_139 (lv_at hl 4 rfl) ?_
              obtain ⟨q8, eq8⟩ : ∃ q, q = f_X7_fails 2 v4 D := ⟨_, rfl⟩
              replace h := apR eq8 h
              refine wd_callVr (ci := 7) (k := 370) CF hE hW hS (x_X7_fails l X 2 v4 D eq8.symm) mi_X7_fails vi_X7_fails tw869 ⟨by decide, rfl⟩ sh_370 ⟨rfl, rfl, Nat.le_of_ble_eq_true rfl, Nat.le_of_ble_eq_true rfl⟩ rfl hl.1 rfl (Nat.le_of_ble_eq_true rfl) dX7_takesNumber_141 ⟨Nat.le_of_ble_eq_true rfl, Nat.le_of_ble_eq_true rfl⟩ (fun H locs hW hS => ?_)
              obtain ⟨x9, ex9, h⟩ := bdE h
              obtain ⟨fx9, gx9⟩ := bo_e ex9
              subst fx9
              have h := Option.some.inj h
              subst h
              exact wd_zret CF hret hlk hW hS gx9 dX7_takesNumber_144
            · rw [if_neg c7] at h
              refine lv_aload_n hx hb dX7_takesNumber_129 rfl (lv_at hl 0 rfl) ?_
              refine lv_iload_n hx hb dX7_takesNumber_130 rfl (lv_at hl 3 rfl) ?_
              obtain ⟨q10, eq10, h⟩ := bdE h
              refine wd_callVr (ci := 7) (k := 370) CF hE hW hS (x_X7_takes l X a3 D eq10) mi_X7_takes vi_X7_takes tw861 ⟨by decide, rfl⟩ sh_370 ⟨rfl, rfl, Nat.le_of_ble_eq_true rfl, Nat.le_of_ble_eq_true rfl⟩ rfl hl.1 rfl (Nat.le_of_ble_eq_true rfl) dX7_takesNumber_131 ⟨Nat.le_of_ble_eq_true rfl, Nat.le_of_ble_eq_true rfl⟩ (fun H locs hW hS => ?_)
              refine lv_goto (tgt := 144) hx hb dX7_takesNumber_134 (by decide) ?_
              obtain ⟨x11, ex11, h⟩ := bdE h
              obtain ⟨fx11, gx11⟩ := bo_e ex11
              subst fx11
              have h := Option.some.inj h
              subst h
              exact wd_zret CF hret hlk hW hS gx11 dX7_takesNumber_144
          · rw [if_neg c6] at h
            exact hL106 v4 D _ _ _  hW hS (lv_sub hl [0, 4] rfl) h
      · rw [if_neg c4] at h
        refine lv_aload_n hx hb dX7_takesNumber_32 rfl (lv_at hl 0 rfl) ?_
        refine lv_aload_n hx hb dX7_takesNumber_33 rfl (lv_at hl 0 rfl) ?_
        refine wd_get CF hE hW fl_X7_82 sh_370 (v := .int (gI D 370 14)) rfl dX7_takesNumber_34 ?_
        refine lv_iload hx hb dX7_takesNumber_37 (lv_at hl 4 rfl) ?_
        refine lv_isub hx hb dX7_takesNumber_39 ?_
        refine lv_iconst (v := 2) hx hb dX7_takesNumber_40 (by decide) ?_
        refine lv_icmp_ge (tgt := 66) hx hb dX7_takesNumber_41 (by decide) (fun c12 => ?_) (fun c12 => ?_)
        · rw [if_pos c12] at h
          refine lv_aload_n hx hb dX7_takesNumber_66 rfl (lv_at hl 0 rfl) ?_
          refine wd_get CF hE hW fl_X7_92 sh_370 (v := .int (gI D 370 15)) rfl dX7_takesNumber_67 ?_
          exact hL70 v4 (gI D 370 15) D _ _ _  hW hS (lv_sub hl [0, 1, 2, 3, 4] rfl) h
        · rw [if_neg c12] at h
          refine lv_bipush (v := 10) hx hb dX7_takesNumber_44 (by decide) ?_
          refine lv_aload_n hx hb dX7_takesNumber_46 rfl (lv_at hl 0 rfl) ?_
          refine wd_get CF hE hW fl_X7_92 sh_370 (v := .int (gI D 370 15)) rfl dX7_takesNumber_47 ?_
          refine lv_imul hx hb dX7_takesNumber_50 ?_
          refine lv_aload_n hx hb dX7_takesNumber_51 rfl (lv_at hl 0 rfl) ?_
          refine lv_aload_n hx hb dX7_takesNumber_52 rfl (lv_at hl 0 rfl) ?_
          refine wd_get CF hE hW fl_X7_82 sh_370 (v := .int (gI D 370 14)) rfl dX7_takesNumber_53 ?_
          obtain ⟨x13, ex13, h⟩ := bdE h
          refine wd_callVr (ci := 7) (k := 370) CF hE hW hS (x_X7_byteAt l X (gI D 370 14) D ex13) mi_X7_byteAt vi_X7_byteAt tw865 ⟨by decide, rfl⟩ sh_370 ⟨rfl, rfl, Nat.le_of_ble_eq_true rfl, Nat.le_of_ble_eq_true rfl⟩ rfl hl.1 rfl (Nat.le_of_ble_eq_true rfl) dX7_takesNumber_56 ⟨Nat.le_of_ble_eq_true rfl, Nat.le_of_ble_eq_true rfl⟩ (fun H locs hW hS => ?_)
          refine lv_iadd hx hb dX7_takesNumber_59 ?_
          refine lv_bipush (v := 48) hx hb dX7_takesNumber_60 (by decide) ?_
          refine lv_isub hx hb dX7_takesNumber_62 ?_
          refine lv_goto (tgt := 70) hx hb dX7_takesNumber_63 (by decide) ?_
          exact hL70 v4 (((10 * (gI D 370 15)) + x13) - 48) D _ _ _  hW hS (lv_sub hl [0, 1, 2, 3, 4] rfl) h
  refine lv_aload_n hx hb dX7_takesNumber_0 rfl (lv_at hl 0 rfl) ?_
  refine wd_get CF hE hW fl_X7_82 sh_370 (v := .int (gI D 370 14)) rfl dX7_takesNumber_1 ?_
  refine lv_topi (fun x1 ex1 => ?_)
  replace h := apR ex1 h
  refine lv_istore (lv' := [(4, .int x1), (0, .ref (X.2.2.1 + 370)), (1, .int a1), (2, .int a2), (3, .int a3)]) hx hb dX7_takesNumber_4 hl (by decide) rfl (fun ls hl => ?_)
  refine lv_aload_n hx hb dX7_takesNumber_6 rfl (lv_at hl 1 rfl) ?_
  refine lv_iconst (v := 0) hx hb dX7_takesNumber_7 (by decide) ?_
  refine wd_putI CF hE hW hS fl_X7_92 sh_370 rfl rfl dX7_takesNumber_8 (fun D2 H locs eD2 hW hS => ?_)
  replace h := apR eD2 h
  exact hL11 FU x1 D2 _ _ _  hW hS (lv_sub hl [1, 2, 3, 4, 0] rfl) h
def f_X7_takesLaw_L2  : Nat → Int32 → wd_D → Option (Int32 × wd_D)
  | 0, _, _ => none
  | n + 1, v1, D => (if 63 ≤ v1 then (wr 252 D 371 227 1).bind (fun D2 => (f_X7_takes 107 D2).bind (fun q3 => (if q3.1 = 0 then some (0, q3.2) else (f_X7_takesNumber 0 3 44 q3.2).bind (fun q5 => (if q5.1 = 0 then some (0, q5.2) else (wr 252 q5.2 371 228 (gI q5.2 370 15)).bind (fun D7 => (f_X7_takesNumber 1 9 59 D7).bind (fun q8 => (if q8.1 = 0 then some (0, q8.2) else (wr 252 q8.2 371 229 (gI q8.2 370 15)).bind (fun D10 => some (1, D10)))))))))) else (wr 252 D 371 (189 + v1) 0).bind (fun D11 => ap (v1 + 1) (fun x12 => (f_X7_takesLaw_L2 n) x12 D11)))
def f_X7_takesLaw  (D : wd_D) : Option (Int32 × wd_D) := f_X7_takesLaw_L2 FU 0 D
set_option maxHeartbeats 4000000 in
set_option maxRecDepth 100000 in
theorem x_X7_takesLaw (l : Launch) (X : wd_X)  (D : wd_D) {qv : Int32 × wd_D} (h : f_X7_takesLaw  D = some qv) : wd_Met l X yX7_takesLaw cX7_takesLaw 2 (some FieldType.boolean) ({ frames := 3, cells := 0, slots := 0, locals := 300 }) S0 S0 ([.ref (X.2.2.1 + 370)] : List Value) D qv.2 (some (.int qv.1)) 0 0 := by
  refine wd_enter (by decide) (Nat.le_of_ble_eq_true rfl) ?_
  intro p e s m below meth c CF hret hlk hnm hW hE ls hl
  have CF : CallFix p m c cX7_takesLaw 2 s ([.ref (X.2.2.1 + 370)] : List Value).toArray tg RX7 := CF
  have hx := CF.1
  have hb := CF.2.1
  have hown := CF.2.2.2.1
  have hts := CF.2.2.2.2
  have hS : va_S (wd_A X) s.heap s.heap [] := va_S.rf
  have hl : lv_has ls 2 [(0, .ref (X.2.2.1 + 370))] := hl
  unfold f_X7_takesLaw at h
  have hL2 : ∀ (n2 : Nat) (v1 : Int32) (D : wd_D) (H : Heap) (locs : List Loc) (ls : Array Slot), Wd X S0 D H → va_S (wd_A X) s.heap H locs → lv_has ls 2 [(0, .ref (X.2.2.1 + 370)), (1, .int v1)] → f_X7_takesLaw_L2 n2 v1 D = some qv → W p l e ({ frames := 3, cells := 0, slots := 0, locals := 300 }) s m ([.ref (X.2.2.1 + 370)] : List Value).toArray below meth c H locs 0 0 (MQ below (wd_Q X S0 qv.2 (some (.int qv.1))) ([.ref (X.2.2.1 + 370)] : List Value).toArray s 0 0 (wd_A X)) (F0 m 2 ls []) := by
    intro n2
    induction n2 with
    | zero => intro v1 D H locs ls hW hS hl h; cases h
    | succ n2 ih2 =>
      intro v1 D H locs ls hW hS hl h
      rw [f_X7_takesLaw_L2] at h
      refine lv_iload_n hx hb dX7_takesLaw_2 rfl (lv_at hl 1 rfl) ?_
      refine lv_bipush (v := 63) hx hb dX7_takesLaw_3 (by decide) ?_
      refine lv_icmp_ge (tgt := 25) hx hb dX7_takesLaw_5 (by decide) (fun c1 => ?_) (fun c1 => ?_)
      · rw [if_pos c1] at h
        refine lv_aload_n hx hb dX7_takesLaw_25 rfl (lv_at hl 0 rfl) ?_
        refine wd_getR CF hE hW fl_X7_7 sh_370 rf_370_0 rfl dX7_takesLaw_26 ?_
        refine lv_sipush (v := 227) hx hb dX7_takesLaw_29 (by decide) ?_
        refine lv_iconst (v := 1) hx hb dX7_takesLaw_32 (by decide) ?_
        obtain ⟨D2, eD2, h⟩ := bdE h
        refine wd_iast CF hE hW hS sh_371 eD2 dX7_takesLaw_33 (fun H locs hW hS => ?_)
        refine lv_aload_n hx hb dX7_takesLaw_34 rfl (lv_at hl 0 rfl) ?_
        refine lv_bipush (v := 107) hx hb dX7_takesLaw_35 (by decide) ?_
        obtain ⟨q3, eq3, h⟩ := bdE h
        refine wd_callVr (ci := 7) (k := 370) CF hE hW hS (x_X7_takes l X 107 D2 eq3) mi_X7_takes vi_X7_takes tw861 ⟨by decide, rfl⟩ sh_370 ⟨rfl, rfl, Nat.le_of_ble_eq_true rfl, Nat.le_of_ble_eq_true rfl⟩ rfl hl.1 rfl (Nat.le_of_ble_eq_true rfl) dX7_takesLaw_37 ⟨Nat.le_of_ble_eq_true rfl, Nat.le_of_ble_eq_true rfl⟩ (fun H locs hW hS => ?_)
        refine lv_if_eq (tgt := 54) hx hb dX7_takesLaw_40 (by decide) (fun c4 => ?_) (fun c4 => ?_)
        · rw [if_pos c4] at h
          refine lv_iconst (v := 0) hx hb dX7_takesLaw_54 (by decide) ?_
          have h := Option.some.inj h
          subst h
          exact wd_zret CF hret hlk hW hS (Or.inl rfl) dX7_takesLaw_55
        · rw [if_neg c4] at h
          refine lv_aload_n hx hb dX7_takesLaw_43 rfl (lv_at hl 0 rfl) ?_
          refine lv_iconst (v := 0) hx hb dX7_takesLaw_44 (by decide) ?_
          refine lv_iconst (v := 3) hx hb dX7_takesLaw_45 (by decide) ?_
          refine lv_bipush (v := 44) hx hb dX7_takesLaw_46 (by decide) ?_
          obtain ⟨q5, eq5, h⟩ := bdE h
          refine wd_callVr (ci := 7) (k := 370) CF hE hW hS (x_X7_takesNumber l X 0 3 44 q3.2 eq5) mi_X7_takesNumber vi_X7_takesNumber tw873 ⟨by decide, rfl⟩ sh_370 ⟨rfl, rfl, Nat.le_of_ble_eq_true rfl, Nat.le_of_ble_eq_true rfl⟩ rfl hl.1 rfl (Nat.le_of_ble_eq_true rfl) dX7_takesLaw_48 ⟨Nat.le_of_ble_eq_true rfl, Nat.le_of_ble_eq_true rfl⟩ (fun H locs hW hS => ?_)
          refine lv_if_ne (tgt := 56) hx hb dX7_takesLaw_51 (by decide) (fun c6 => ?_) (fun c6 => ?_)
          · rw [if_neg c6] at h
            refine lv_aload_n hx hb dX7_takesLaw_56 rfl (lv_at hl 0 rfl) ?_
            refine wd_getR CF hE hW fl_X7_7 sh_370 rf_370_0 rfl dX7_takesLaw_57 ?_
            refine lv_sipush (v := 228) hx hb dX7_takesLaw_60 (by decide) ?_
            refine lv_aload_n hx hb dX7_takesLaw_63 rfl (lv_at hl 0 rfl) ?_
            refine wd_get CF hE hW fl_X7_92 sh_370 (v := .int (gI q5.2 370 15)) rfl dX7_takesLaw_64 ?_
            obtain ⟨D7, eD7, h⟩ := bdE h
            refine wd_iast CF hE hW hS sh_371 eD7 dX7_takesLaw_67 (fun H locs hW hS => ?_)
            refine lv_aload_n hx hb dX7_takesLaw_68 rfl (lv_at hl 0 rfl) ?_
            refine lv_iconst (v := 1) hx hb dX7_takesLaw_69 (by decide) ?_
            refine lv_bipush (v := 9) hx hb dX7_takesLaw_70 (by decide) ?_
            refine lv_bipush (v := 59) hx hb dX7_takesLaw_72 (by decide) ?_
            obtain ⟨q8, eq8, h⟩ := bdE h
            refine wd_callVr (ci := 7) (k := 370) CF hE hW hS (x_X7_takesNumber l X 1 9 59 D7 eq8) mi_X7_takesNumber vi_X7_takesNumber tw873 ⟨by decide, rfl⟩ sh_370 ⟨rfl, rfl, Nat.le_of_ble_eq_true rfl, Nat.le_of_ble_eq_true rfl⟩ rfl hl.1 rfl (Nat.le_of_ble_eq_true rfl) dX7_takesLaw_74 ⟨Nat.le_of_ble_eq_true rfl, Nat.le_of_ble_eq_true rfl⟩ (fun H locs hW hS => ?_)
            refine lv_if_ne (tgt := 82) hx hb dX7_takesLaw_77 (by decide) (fun c9 => ?_) (fun c9 => ?_)
            · rw [if_neg c9] at h
              refine lv_aload_n hx hb dX7_takesLaw_82 rfl (lv_at hl 0 rfl) ?_
              refine wd_getR CF hE hW fl_X7_7 sh_370 rf_370_0 rfl dX7_takesLaw_83 ?_
              refine lv_sipush (v := 229) hx hb dX7_takesLaw_86 (by decide) ?_
              refine lv_aload_n hx hb dX7_takesLaw_89 rfl (lv_at hl 0 rfl) ?_
              refine wd_get CF hE hW fl_X7_92 sh_370 (v := .int (gI q8.2 370 15)) rfl dX7_takesLaw_90 ?_
              obtain ⟨D10, eD10, h⟩ := bdE h
              refine wd_iast CF hE hW hS sh_371 eD10 dX7_takesLaw_93 (fun H locs hW hS => ?_)
              refine lv_iconst (v := 1) hx hb dX7_takesLaw_94 (by decide) ?_
              have h := Option.some.inj h
              subst h
              exact wd_zret CF hret hlk hW hS (Or.inr rfl) dX7_takesLaw_95
            · rw [if_pos c9] at h
              refine lv_iconst (v := 0) hx hb dX7_takesLaw_80 (by decide) ?_
              have h := Option.some.inj h
              subst h
              exact wd_zret CF hret hlk hW hS (Or.inl rfl) dX7_takesLaw_81
          · rw [if_pos c6] at h
            refine lv_iconst (v := 0) hx hb dX7_takesLaw_54 (by decide) ?_
            have h := Option.some.inj h
            subst h
            exact wd_zret CF hret hlk hW hS (Or.inl rfl) dX7_takesLaw_55
      · rw [if_neg c1] at h
        refine lv_aload_n hx hb dX7_takesLaw_8 rfl (lv_at hl 0 rfl) ?_
        refine wd_getR CF hE hW fl_X7_7 sh_370 rf_370_0 rfl dX7_takesLaw_9 ?_
        refine lv_sipush (v := 189) hx hb dX7_takesLaw_12 (by decide) ?_
        refine lv_iload_n hx hb dX7_takesLaw_15 rfl (lv_at hl 1 rfl) ?_
        refine lv_iadd hx hb dX7_takesLaw_16 ?_
        refine lv_iconst (v := 0) hx hb dX7_takesLaw_17 (by decide) ?_
        obtain ⟨D11, eD11, h⟩ := bdE h
        refine wd_iast CF hE hW hS sh_371 eD11 dX7_takesLaw_18 (fun H locs hW hS => ?_)
        obtain ⟨x12, ex12⟩ : ∃ y : Int32, y = v1 + 1 := ⟨_, rfl⟩
        replace h := apR ex12 h
        refine lv_iinc (v := x12) (lv' := [(1, .int x12), (0, .ref (X.2.2.1 + 370))]) hx hb dX7_takesLaw_19 hl (k := 1) rfl (by rw [ex12]; rfl) (by decide) rfl (fun ls hl => ?_)
        refine lv_goto (tgt := 2) hx hb dX7_takesLaw_22 (by decide) ?_
        exact ih2 x12 D11 _ _ _  hW hS (lv_sub hl [1, 0] rfl) h
  refine lv_iconst (v := 0) hx hb dX7_takesLaw_0 (by decide) ?_
  refine lv_istore_n (lv' := [(1, .int 0), (0, .ref (X.2.2.1 + 370))]) hx hb dX7_takesLaw_1 rfl hl (by decide) rfl (fun ls hl => ?_)
  exact hL2 FU 0 D _ _ _  hW hS (lv_sub hl [1, 0] rfl) h
def f_X7_kindOf (a0 : Int32) : Int32 := (if a0 = 112 then 1 else (if a0 = 108 then 2 else (if a0 = 115 then 3 else (if a0 = 100 then 4 else (if a0 = 116 then 5 else 0)))))
set_option maxHeartbeats 4000000 in
set_option maxRecDepth 100000 in
theorem x_X7_kindOf (l : Launch) (X : wd_X) (a0 : Int32) (D : wd_D) : wd_Met l X yX7_kindOf cX7_kindOf 1 (some FieldType.int) ({ frames := 0, cells := 0, slots := 0, locals := 0 }) S0 S0 ([.int a0] : List Value) D D (some (.int (f_X7_kindOf a0))) 0 0 := by
  obtain ⟨rv, h⟩ : ∃ rv, f_X7_kindOf a0 = rv := ⟨_, rfl⟩
  rw [h]
  refine wd_enter (by decide) (Nat.le_of_ble_eq_true rfl) ?_
  intro p e s m below meth c CF hret hlk hnm hW hE ls hl
  have CF : CallFix p m c cX7_kindOf 1 s ([.int a0] : List Value).toArray tg RX7 := CF
  have hx := CF.1
  have hb := CF.2.1
  have hown := CF.2.2.2.1
  have hts := CF.2.2.2.2
  have hS : va_S (wd_A X) s.heap s.heap [] := va_S.rf
  have hl : lv_has ls 1 [(0, .int a0)] := hl
  unfold f_X7_kindOf at h
  refine lv_iload_n hx hb dX7_kindOf_0 rfl (lv_at hl 0 rfl) ?_
  refine lv_bipush (v := 112) hx hb dX7_kindOf_1 (by decide) ?_
  refine lv_icmp_ne (tgt := 10) hx hb dX7_kindOf_3 (by decide) (fun c1 => ?_) (fun c1 => ?_)
  · rw [if_neg c1] at h
    refine lv_iload_n hx hb dX7_kindOf_10 rfl (lv_at hl 0 rfl) ?_
    refine lv_bipush (v := 108) hx hb dX7_kindOf_11 (by decide) ?_
    refine lv_icmp_ne (tgt := 20) hx hb dX7_kindOf_13 (by decide) (fun c2 => ?_) (fun c2 => ?_)
    · rw [if_neg c2] at h
      refine lv_iload_n hx hb dX7_kindOf_20 rfl (lv_at hl 0 rfl) ?_
      refine lv_bipush (v := 115) hx hb dX7_kindOf_21 (by decide) ?_
      refine lv_icmp_ne (tgt := 30) hx hb dX7_kindOf_23 (by decide) (fun c3 => ?_) (fun c3 => ?_)
      · rw [if_neg c3] at h
        refine lv_iload_n hx hb dX7_kindOf_30 rfl (lv_at hl 0 rfl) ?_
        refine lv_bipush (v := 100) hx hb dX7_kindOf_31 (by decide) ?_
        refine lv_icmp_ne (tgt := 40) hx hb dX7_kindOf_33 (by decide) (fun c4 => ?_) (fun c4 => ?_)
        · rw [if_neg c4] at h
          refine lv_iload_n hx hb dX7_kindOf_40 rfl (lv_at hl 0 rfl) ?_
          refine lv_bipush (v := 116) hx hb dX7_kindOf_41 (by decide) ?_
          refine lv_icmp_ne (tgt := 50) hx hb dX7_kindOf_43 (by decide) (fun c5 => ?_) (fun c5 => ?_)
          · rw [if_neg c5] at h
            refine lv_iconst (v := 0) hx hb dX7_kindOf_50 (by decide) ?_
            subst h
            exact wd_iret CF hret hlk hW hS dX7_kindOf_51
          · rw [if_pos c5] at h
            refine lv_iconst (v := 5) hx hb dX7_kindOf_46 (by decide) ?_
            refine lv_goto (tgt := 51) hx hb dX7_kindOf_47 (by decide) ?_
            subst h
            exact wd_iret CF hret hlk hW hS dX7_kindOf_51
        · rw [if_pos c4] at h
          refine lv_iconst (v := 4) hx hb dX7_kindOf_36 (by decide) ?_
          refine lv_goto (tgt := 51) hx hb dX7_kindOf_37 (by decide) ?_
          subst h
          exact wd_iret CF hret hlk hW hS dX7_kindOf_51
      · rw [if_pos c3] at h
        refine lv_iconst (v := 3) hx hb dX7_kindOf_26 (by decide) ?_
        refine lv_goto (tgt := 51) hx hb dX7_kindOf_27 (by decide) ?_
        subst h
        exact wd_iret CF hret hlk hW hS dX7_kindOf_51
    · rw [if_pos c2] at h
      refine lv_iconst (v := 2) hx hb dX7_kindOf_16 (by decide) ?_
      refine lv_goto (tgt := 51) hx hb dX7_kindOf_17 (by decide) ?_
      subst h
      exact wd_iret CF hret hlk hW hS dX7_kindOf_51
  · rw [if_pos c1] at h
    refine lv_iconst (v := 1) hx hb dX7_kindOf_6 (by decide) ?_
    refine lv_goto (tgt := 51) hx hb dX7_kindOf_7 (by decide) ?_
    subst h
    exact wd_iret CF hret hlk hW hS dX7_kindOf_51
def f_X7_takesChild  (D : wd_D) : Option (Int32 × wd_D) := (rd 252 D 371 230).bind (fun x1 => (f_X7_byteAt (gI D 370 14) D).bind (fun x2 => ap (f_X7_kindOf x2) (fun x3 => (if x3 = 0 then ap (f_X7_fails 1 (gI D 370 14) D) (fun q22 => (bo q22.1).bind (fun x23 => some (x23, q22.2))) else (if x1 = 7 then ap (f_X7_fails 3 (gI D 370 14) D) (fun q20 => (bo q20.1).bind (fun x21 => some (x21, q20.2))) else ap (sI D 370 14 ((gI D 370 14) + 1)) (fun D6 => (wr 252 D6 371 (231 + x1) x3).bind (fun D7 => (wr 252 D7 371 (218 + x1) x1).bind (fun D8 => (f_X7_takesNumber 1 9 44 D8).bind (fun q9 => (if q9.1 = 0 then some (0, q9.2) else (wr 252 q9.2 371 (190 + x1) (gI q9.2 370 15)).bind (fun D11 => (f_X7_takesNumber 0 9 44 D11).bind (fun q12 => (if q12.1 = 0 then some (0, q12.2) else (wr 252 q12.2 371 (238 + x1) (gI q12.2 370 15)).bind (fun D14 => (f_X7_takesNumber 0 9 59 D14).bind (fun q15 => (if q15.1 = 0 then some (0, q15.2) else (wr 252 q15.2 371 (245 + x1) (gI q15.2 370 15)).bind (fun D17 => (rd 252 D17 371 230).bind (fun x18 => (wr 252 D17 371 230 (x18 + 1)).bind (fun D19 => some (1, D19))))))))))))))))))))
set_option maxHeartbeats 4000000 in
set_option maxRecDepth 100000 in
theorem x_X7_takesChild (l : Launch) (X : wd_X)  (D : wd_D) {qv : Int32 × wd_D} (h : f_X7_takesChild  D = some qv) : wd_Met l X yX7_takesChild cX7_takesChild 3 (some FieldType.boolean) ({ frames := 3, cells := 0, slots := 0, locals := 300 }) S0 S0 ([.ref (X.2.2.1 + 370)] : List Value) D qv.2 (some (.int qv.1)) 0 0 := by
  refine wd_enter (by decide) (Nat.le_of_ble_eq_true rfl) ?_
  intro p e s m below meth c CF hret hlk hnm hW hE ls hl
  have CF : CallFix p m c cX7_takesChild 3 s ([.ref (X.2.2.1 + 370)] : List Value).toArray tg RX7 := CF
  have hx := CF.1
  have hb := CF.2.1
  have hown := CF.2.2.2.1
  have hts := CF.2.2.2.2
  have hS : va_S (wd_A X) s.heap s.heap [] := va_S.rf
  have hl : lv_has ls 3 [(0, .ref (X.2.2.1 + 370))] := hl
  unfold f_X7_takesChild at h
  refine lv_aload_n hx hb dX7_takesChild_0 rfl (lv_at hl 0 rfl) ?_
  refine wd_getR CF hE hW fl_X7_7 sh_370 rf_370_0 rfl dX7_takesChild_1 ?_
  refine lv_sipush (v := 230) hx hb dX7_takesChild_4 (by decide) ?_
  obtain ⟨x1, ex1, h⟩ := bdE h
  refine wd_iald CF hE hW sh_371 ex1 dX7_takesChild_7 ?_
  refine lv_istore_n (lv' := [(1, .int x1), (0, .ref (X.2.2.1 + 370))]) hx hb dX7_takesChild_8 rfl hl (by decide) rfl (fun ls hl => ?_)
  refine lv_aload_n hx hb dX7_takesChild_9 rfl (lv_at hl 1 rfl) ?_
  refine lv_aload_n hx hb dX7_takesChild_10 rfl (lv_at hl 1 rfl) ?_
  refine wd_get CF hE hW fl_X7_82 sh_370 (v := .int (gI D 370 14)) rfl dX7_takesChild_11 ?_
  obtain ⟨x2, ex2, h⟩ := bdE h
  refine wd_callVr (ci := 7) (k := 370) CF hE hW hS (x_X7_byteAt l X (gI D 370 14) D ex2) mi_X7_byteAt vi_X7_byteAt tw865 ⟨by decide, rfl⟩ sh_370 ⟨rfl, rfl, Nat.le_of_ble_eq_true rfl, Nat.le_of_ble_eq_true rfl⟩ rfl hl.1 rfl (Nat.le_of_ble_eq_true rfl) dX7_takesChild_14 ⟨Nat.le_of_ble_eq_true rfl, Nat.le_of_ble_eq_true rfl⟩ (fun H locs hW hS => ?_)
  refine wd_callSr CF hE hW hS (x_X7_kindOf l X x2 D) mi_X7_kindOf vi_X7_kindOf tw883 ⟨rfl, rfl, Nat.le_of_ble_eq_true rfl, Nat.le_of_ble_eq_true rfl⟩ rfl hl.1 rfl (Nat.le_of_ble_eq_true rfl) dX7_takesChild_17 ⟨Nat.le_of_ble_eq_true rfl, Nat.le_of_ble_eq_true rfl⟩ (fun H locs hW hS => ?_)
  refine lv_topi (fun x3 ex3 => ?_)
  replace h := apR ex3 h
  refine lv_istore_n (lv' := [(2, .int x3), (1, .int x1), (0, .ref (X.2.2.1 + 370))]) hx hb dX7_takesChild_20 rfl hl (by decide) rfl (fun ls hl => ?_)
  refine lv_iload_n hx hb dX7_takesChild_21 rfl (lv_at hl 0 rfl) ?_
  refine lv_if_ne (tgt := 35) hx hb dX7_takesChild_22 (by decide) (fun c4 => ?_) (fun c4 => ?_)
  · rw [if_neg c4] at h
    refine lv_iload_n hx hb dX7_takesChild_35 rfl (lv_at hl 1 rfl) ?_
    refine lv_bipush (v := 7) hx hb dX7_takesChild_36 (by decide) ?_
    refine lv_icmp_ne (tgt := 51) hx hb dX7_takesChild_38 (by decide) (fun c5 => ?_) (fun c5 => ?_)
    · rw [if_neg c5] at h
      refine lv_aload_n hx hb dX7_takesChild_51 rfl (lv_at hl 2 rfl) ?_
      refine lv_dup hx hb dX7_takesChild_52 rfl ?_
      refine wd_get CF hE hW fl_X7_82 sh_370 (v := .int (gI D 370 14)) rfl dX7_takesChild_53 ?_
      refine lv_iconst (v := 1) hx hb dX7_takesChild_56 (by decide) ?_
      refine lv_iadd hx hb dX7_takesChild_57 ?_
      refine wd_putI CF hE hW hS fl_X7_82 sh_370 rfl rfl dX7_takesChild_58 (fun D6 H locs eD6 hW hS => ?_)
      replace h := apR eD6 h
      refine lv_aload_n hx hb dX7_takesChild_61 rfl (lv_at hl 2 rfl) ?_
      refine wd_getR CF hE hW fl_X7_7 sh_370 rf_370_0 rfl dX7_takesChild_62 ?_
      refine lv_sipush (v := 231) hx hb dX7_takesChild_65 (by decide) ?_
      refine lv_iload_n hx hb dX7_takesChild_68 rfl (lv_at hl 1 rfl) ?_
      refine lv_iadd hx hb dX7_takesChild_69 ?_
      refine lv_iload_n hx hb dX7_takesChild_70 rfl (lv_at hl 0 rfl) ?_
      obtain ⟨D7, eD7, h⟩ := bdE h
      refine wd_iast CF hE hW hS sh_371 eD7 dX7_takesChild_71 (fun H locs hW hS => ?_)
      refine lv_aload_n hx hb dX7_takesChild_72 rfl (lv_at hl 2 rfl) ?_
      refine wd_getR CF hE hW fl_X7_7 sh_370 rf_370_0 rfl dX7_takesChild_73 ?_
      refine lv_sipush (v := 218) hx hb dX7_takesChild_76 (by decide) ?_
      refine lv_iload_n hx hb dX7_takesChild_79 rfl (lv_at hl 1 rfl) ?_
      refine lv_iadd hx hb dX7_takesChild_80 ?_
      refine lv_iload_n hx hb dX7_takesChild_81 rfl (lv_at hl 1 rfl) ?_
      obtain ⟨D8, eD8, h⟩ := bdE h
      refine wd_iast CF hE hW hS sh_371 eD8 dX7_takesChild_82 (fun H locs hW hS => ?_)
      refine lv_aload_n hx hb dX7_takesChild_83 rfl (lv_at hl 2 rfl) ?_
      refine lv_iconst (v := 1) hx hb dX7_takesChild_84 (by decide) ?_
      refine lv_bipush (v := 9) hx hb dX7_takesChild_85 (by decide) ?_
      refine lv_bipush (v := 44) hx hb dX7_takesChild_87 (by decide) ?_
      obtain ⟨q9, eq9, h⟩ := bdE h
      refine wd_callVr (ci := 7) (k := 370) CF hE hW hS (x_X7_takesNumber l X 1 9 44 D8 eq9) mi_X7_takesNumber vi_X7_takesNumber tw873 ⟨by decide, rfl⟩ sh_370 ⟨rfl, rfl, Nat.le_of_ble_eq_true rfl, Nat.le_of_ble_eq_true rfl⟩ rfl hl.1 rfl (Nat.le_of_ble_eq_true rfl) dX7_takesChild_89 ⟨Nat.le_of_ble_eq_true rfl, Nat.le_of_ble_eq_true rfl⟩ (fun H locs hW hS => ?_)
      refine lv_if_ne (tgt := 97) hx hb dX7_takesChild_92 (by decide) (fun c10 => ?_) (fun c10 => ?_)
      · rw [if_neg c10] at h
        refine lv_aload_n hx hb dX7_takesChild_97 rfl (lv_at hl 2 rfl) ?_
        refine wd_getR CF hE hW fl_X7_7 sh_370 rf_370_0 rfl dX7_takesChild_98 ?_
        refine lv_sipush (v := 190) hx hb dX7_takesChild_101 (by decide) ?_
        refine lv_iload_n hx hb dX7_takesChild_104 rfl (lv_at hl 1 rfl) ?_
        refine lv_iadd hx hb dX7_takesChild_105 ?_
        refine lv_aload_n hx hb dX7_takesChild_106 rfl (lv_at hl 2 rfl) ?_
        refine wd_get CF hE hW fl_X7_92 sh_370 (v := .int (gI q9.2 370 15)) rfl dX7_takesChild_107 ?_
        obtain ⟨D11, eD11, h⟩ := bdE h
        refine wd_iast CF hE hW hS sh_371 eD11 dX7_takesChild_110 (fun H locs hW hS => ?_)
        refine lv_aload_n hx hb dX7_takesChild_111 rfl (lv_at hl 2 rfl) ?_
        refine lv_iconst (v := 0) hx hb dX7_takesChild_112 (by decide) ?_
        refine lv_bipush (v := 9) hx hb dX7_takesChild_113 (by decide) ?_
        refine lv_bipush (v := 44) hx hb dX7_takesChild_115 (by decide) ?_
        obtain ⟨q12, eq12, h⟩ := bdE h
        refine wd_callVr (ci := 7) (k := 370) CF hE hW hS (x_X7_takesNumber l X 0 9 44 D11 eq12) mi_X7_takesNumber vi_X7_takesNumber tw873 ⟨by decide, rfl⟩ sh_370 ⟨rfl, rfl, Nat.le_of_ble_eq_true rfl, Nat.le_of_ble_eq_true rfl⟩ rfl hl.1 rfl (Nat.le_of_ble_eq_true rfl) dX7_takesChild_117 ⟨Nat.le_of_ble_eq_true rfl, Nat.le_of_ble_eq_true rfl⟩ (fun H locs hW hS => ?_)
        refine lv_if_ne (tgt := 125) hx hb dX7_takesChild_120 (by decide) (fun c13 => ?_) (fun c13 => ?_)
        · rw [if_neg c13] at h
          refine lv_aload_n hx hb dX7_takesChild_125 rfl (lv_at hl 2 rfl) ?_
          refine wd_getR CF hE hW fl_X7_7 sh_370 rf_370_0 rfl dX7_takesChild_126 ?_
          refine lv_sipush (v := 238) hx hb dX7_takesChild_129 (by decide) ?_
          refine lv_iload_n hx hb dX7_takesChild_132 rfl (lv_at hl 1 rfl) ?_
          refine lv_iadd hx hb dX7_takesChild_133 ?_
          refine lv_aload_n hx hb dX7_takesChild_134 rfl (lv_at hl 2 rfl) ?_
          refine wd_get CF hE hW fl_X7_92 sh_370 (v := .int (gI q12.2 370 15)) rfl dX7_takesChild_135 ?_
          obtain ⟨D14, eD14, h⟩ := bdE h
          refine wd_iast CF hE hW hS sh_371 eD14 dX7_takesChild_138 (fun H locs hW hS => ?_)
          refine lv_aload_n hx hb dX7_takesChild_139 rfl (lv_at hl 2 rfl) ?_
          refine lv_iconst (v := 0) hx hb dX7_takesChild_140 (by decide) ?_
          refine lv_bipush (v := 9) hx hb dX7_takesChild_141 (by decide) ?_
          refine lv_bipush (v := 59) hx hb dX7_takesChild_143 (by decide) ?_
          obtain ⟨q15, eq15, h⟩ := bdE h
          refine wd_callVr (ci := 7) (k := 370) CF hE hW hS (x_X7_takesNumber l X 0 9 59 D14 eq15) mi_X7_takesNumber vi_X7_takesNumber tw873 ⟨by decide, rfl⟩ sh_370 ⟨rfl, rfl, Nat.le_of_ble_eq_true rfl, Nat.le_of_ble_eq_true rfl⟩ rfl hl.1 rfl (Nat.le_of_ble_eq_true rfl) dX7_takesChild_145 ⟨Nat.le_of_ble_eq_true rfl, Nat.le_of_ble_eq_true rfl⟩ (fun H locs hW hS => ?_)
          refine lv_if_ne (tgt := 153) hx hb dX7_takesChild_148 (by decide) (fun c16 => ?_) (fun c16 => ?_)
          · rw [if_neg c16] at h
            refine lv_aload_n hx hb dX7_takesChild_153 rfl (lv_at hl 2 rfl) ?_
            refine wd_getR CF hE hW fl_X7_7 sh_370 rf_370_0 rfl dX7_takesChild_154 ?_
            refine lv_sipush (v := 245) hx hb dX7_takesChild_157 (by decide) ?_
            refine lv_iload_n hx hb dX7_takesChild_160 rfl (lv_at hl 1 rfl) ?_
            refine lv_iadd hx hb dX7_takesChild_161 ?_
            refine lv_aload_n hx hb dX7_takesChild_162 rfl (lv_at hl 2 rfl) ?_
            refine wd_get CF hE hW fl_X7_92 sh_370 (v := .int (gI q15.2 370 15)) rfl dX7_takesChild_163 ?_
            obtain ⟨D17, eD17, h⟩ := bdE h
            refine wd_iast CF hE hW hS sh_371 eD17 dX7_takesChild_166 (fun H locs hW hS => ?_)
            refine lv_aload_n hx hb dX7_takesChild_167 rfl (lv_at hl 2 rfl) ?_
            refine wd_getR CF hE hW fl_X7_7 sh_370 rf_370_0 rfl dX7_takesChild_168 ?_
            refine lv_sipush (v := 230) hx hb dX7_takesChild_171 (by decide) ?_
            refine lv_dup2_11 hx hb dX7_takesChild_174 rfl rfl ?_
            obtain ⟨x18, ex18, h⟩ := bdE h
            refine wd_iald CF hE hW sh_371 ex18 dX7_takesChild_175 ?_
            refine lv_iconst (v := 1) hx hb dX7_takesChild_176 (by decide) ?_
            refine lv_iadd hx hb dX7_takesChild_177 ?_
            obtain ⟨D19, eD19, h⟩ := bdE h
            refine wd_iast CF hE hW hS sh_371 eD19 dX7_takesChild_178 (fun H locs hW hS => ?_)
            refine lv_iconst (v := 1) hx hb dX7_takesChild_179 (by decide) ?_
            have h := Option.some.inj h
            subst h
            exact wd_zret CF hret hlk hW hS (Or.inr rfl) dX7_takesChild_180
          · rw [if_pos c16] at h
            refine lv_iconst (v := 0) hx hb dX7_takesChild_151 (by decide) ?_
            have h := Option.some.inj h
            subst h
            exact wd_zret CF hret hlk hW hS (Or.inl rfl) dX7_takesChild_152
        · rw [if_pos c13] at h
          refine lv_iconst (v := 0) hx hb dX7_takesChild_123 (by decide) ?_
          have h := Option.some.inj h
          subst h
          exact wd_zret CF hret hlk hW hS (Or.inl rfl) dX7_takesChild_124
      · rw [if_pos c10] at h
        refine lv_iconst (v := 0) hx hb dX7_takesChild_95 (by decide) ?_
        have h := Option.some.inj h
        subst h
        exact wd_zret CF hret hlk hW hS (Or.inl rfl) dX7_takesChild_96
    · rw [if_pos c5] at h
      refine lv_aload_n hx hb dX7_takesChild_41 rfl (lv_at hl 2 rfl) ?_
      refine lv_iconst (v := 3) hx hb dX7_takesChild_42 (by decide) ?_
      refine lv_aload_n hx hb dX7_takesChild_43 rfl (lv_at hl 2 rfl) ?_
      refine wd_get CF hE hW fl_X7_82 sh_370 (v := .int (gI D 370 14)) rfl dX7_takesChild_44 ?_
      obtain ⟨q20, eq20⟩ : ∃ q, q = f_X7_fails 3 (gI D 370 14) D := ⟨_, rfl⟩
      replace h := apR eq20 h
      refine wd_callVr (ci := 7) (k := 370) CF hE hW hS (x_X7_fails l X 3 (gI D 370 14) D eq20.symm) mi_X7_fails vi_X7_fails tw869 ⟨by decide, rfl⟩ sh_370 ⟨rfl, rfl, Nat.le_of_ble_eq_true rfl, Nat.le_of_ble_eq_true rfl⟩ rfl hl.1 rfl (Nat.le_of_ble_eq_true rfl) dX7_takesChild_47 ⟨Nat.le_of_ble_eq_true rfl, Nat.le_of_ble_eq_true rfl⟩ (fun H locs hW hS => ?_)
      obtain ⟨x21, ex21, h⟩ := bdE h
      obtain ⟨fx21, gx21⟩ := bo_e ex21
      subst fx21
      have h := Option.some.inj h
      subst h
      exact wd_zret CF hret hlk hW hS gx21 dX7_takesChild_50
  · rw [if_pos c4] at h
    refine lv_aload_n hx hb dX7_takesChild_25 rfl (lv_at hl 2 rfl) ?_
    refine lv_iconst (v := 1) hx hb dX7_takesChild_26 (by decide) ?_
    refine lv_aload_n hx hb dX7_takesChild_27 rfl (lv_at hl 2 rfl) ?_
    refine wd_get CF hE hW fl_X7_82 sh_370 (v := .int (gI D 370 14)) rfl dX7_takesChild_28 ?_
    obtain ⟨q22, eq22⟩ : ∃ q, q = f_X7_fails 1 (gI D 370 14) D := ⟨_, rfl⟩
    replace h := apR eq22 h
    refine wd_callVr (ci := 7) (k := 370) CF hE hW hS (x_X7_fails l X 1 (gI D 370 14) D eq22.symm) mi_X7_fails vi_X7_fails tw869 ⟨by decide, rfl⟩ sh_370 ⟨rfl, rfl, Nat.le_of_ble_eq_true rfl, Nat.le_of_ble_eq_true rfl⟩ rfl hl.1 rfl (Nat.le_of_ble_eq_true rfl) dX7_takesChild_31 ⟨Nat.le_of_ble_eq_true rfl, Nat.le_of_ble_eq_true rfl⟩ (fun H locs hW hS => ?_)
    obtain ⟨x23, ex23, h⟩ := bdE h
    obtain ⟨fx23, gx23⟩ := bo_e ex23
    subst fx23
    have h := Option.some.inj h
    subst h
    exact wd_zret CF hret hlk hW hS gx23 dX7_takesChild_34
def f_X7_copyAll_L2  : Nat → Int32 → Int32 → Int32 → wd_D → Option (wd_D)
  | 0, _, _, _, _ => none
  | n + 1, a1, a2, v3, D => (if 63 ≤ v3 then some D else (rd 252 D 371 (a1 + v3)).bind (fun x2 => (wr 252 D 371 (a2 + v3) x2).bind (fun D3 => ap (v3 + 1) (fun x4 => (f_X7_copyAll_L2 n) a1 a2 x4 D3))))
def f_X7_copyAll (a1 : Int32) (a2 : Int32) (D : wd_D) : Option (wd_D) := f_X7_copyAll_L2 FU a1 a2 0 D
set_option maxHeartbeats 4000000 in
set_option maxRecDepth 100000 in
theorem x_X7_copyAll (l : Launch) (X : wd_X) (a1 : Int32) (a2 : Int32) (D : wd_D) {qv : wd_D} (h : f_X7_copyAll a1 a2 D = some qv) : wd_Met l X yX7_copyAll cX7_copyAll 4 (none : Option FieldType) ({ frames := 0, cells := 0, slots := 0, locals := 0 }) S0 S0 ([.ref (X.2.2.1 + 370), .int a1, .int a2] : List Value) D qv none 0 0 := by
  refine wd_enter (by decide) (Nat.le_of_ble_eq_true rfl) ?_
  intro p e s m below meth c CF hret hlk hnm hW hE ls hl
  have CF : CallFix p m c cX7_copyAll 4 s ([.ref (X.2.2.1 + 370), .int a1, .int a2] : List Value).toArray tg RX7 := CF
  have hx := CF.1
  have hb := CF.2.1
  have hown := CF.2.2.2.1
  have hts := CF.2.2.2.2
  have hS : va_S (wd_A X) s.heap s.heap [] := va_S.rf
  have hl : lv_has ls 4 [(0, .ref (X.2.2.1 + 370)), (1, .int a1), (2, .int a2)] := hl
  unfold f_X7_copyAll at h
  have hL2 : ∀ (n2 : Nat) (v3 : Int32) (D : wd_D) (H : Heap) (locs : List Loc) (ls : Array Slot), Wd X S0 D H → va_S (wd_A X) s.heap H locs → lv_has ls 4 [(0, .ref (X.2.2.1 + 370)), (1, .int a1), (2, .int a2), (3, .int v3)] → f_X7_copyAll_L2 n2 a1 a2 v3 D = some qv → W p l e ({ frames := 0, cells := 0, slots := 0, locals := 0 }) s m ([.ref (X.2.2.1 + 370), .int a1, .int a2] : List Value).toArray below meth c H locs 0 0 (MQ below (wd_Q X S0 qv none) ([.ref (X.2.2.1 + 370), .int a1, .int a2] : List Value).toArray s 0 0 (wd_A X)) (F0 m 2 ls []) := by
    intro n2
    induction n2 with
    | zero => intro v3 D H locs ls hW hS hl h; cases h
    | succ n2 ih2 =>
      intro v3 D H locs ls hW hS hl h
      rw [f_X7_copyAll_L2] at h
      refine lv_iload_n hx hb dX7_copyAll_2 rfl (lv_at hl 3 rfl) ?_
      refine lv_bipush (v := 63) hx hb dX7_copyAll_3 (by decide) ?_
      refine lv_icmp_ge (tgt := 30) hx hb dX7_copyAll_5 (by decide) (fun c1 => ?_) (fun c1 => ?_)
      · rw [if_pos c1] at h
        have h := Option.some.inj h
        subst h
        exact wd_vret CF hret hlk hW hS dX7_copyAll_30
      · rw [if_neg c1] at h
        refine lv_aload_n hx hb dX7_copyAll_8 rfl (lv_at hl 0 rfl) ?_
        refine wd_getR CF hE hW fl_X7_7 sh_370 rf_370_0 rfl dX7_copyAll_9 ?_
        refine lv_iload_n hx hb dX7_copyAll_12 rfl (lv_at hl 2 rfl) ?_
        refine lv_iload_n hx hb dX7_copyAll_13 rfl (lv_at hl 3 rfl) ?_
        refine lv_iadd hx hb dX7_copyAll_14 ?_
        refine lv_aload_n hx hb dX7_copyAll_15 rfl (lv_at hl 0 rfl) ?_
        refine wd_getR CF hE hW fl_X7_7 sh_370 rf_370_0 rfl dX7_copyAll_16 ?_
        refine lv_iload_n hx hb dX7_copyAll_19 rfl (lv_at hl 1 rfl) ?_
        refine lv_iload_n hx hb dX7_copyAll_20 rfl (lv_at hl 3 rfl) ?_
        refine lv_iadd hx hb dX7_copyAll_21 ?_
        obtain ⟨x2, ex2, h⟩ := bdE h
        refine wd_iald CF hE hW sh_371 ex2 dX7_copyAll_22 ?_
        obtain ⟨D3, eD3, h⟩ := bdE h
        refine wd_iast CF hE hW hS sh_371 eD3 dX7_copyAll_23 (fun H locs hW hS => ?_)
        obtain ⟨x4, ex4⟩ : ∃ y : Int32, y = v3 + 1 := ⟨_, rfl⟩
        replace h := apR ex4 h
        refine lv_iinc (v := x4) (lv' := [(3, .int x4), (0, .ref (X.2.2.1 + 370)), (1, .int a1), (2, .int a2)]) hx hb dX7_copyAll_24 hl (k := 3) rfl (by rw [ex4]; rfl) (by decide) rfl (fun ls hl => ?_)
        refine lv_goto (tgt := 2) hx hb dX7_copyAll_27 (by decide) ?_
        exact ih2 x4 D3 _ _ _  hW hS (lv_sub hl [1, 2, 3, 0] rfl) h
  refine lv_iconst (v := 0) hx hb dX7_copyAll_0 (by decide) ?_
  refine lv_istore_n (lv' := [(3, .int 0), (0, .ref (X.2.2.1 + 370)), (1, .int a1), (2, .int a2)]) hx hb dX7_copyAll_1 rfl hl (by decide) rfl (fun ls hl => ?_)
  exact hL2 FU 0 D _ _ _  hW hS (lv_sub hl [1, 2, 3, 0] rfl) h
def f_X7_room_L44  (v1 : Int32) (D : wd_D) : Option (Int32 × wd_D) := ap (sI D 370 9 0) (fun D8 => (if v1 = 0 then some ((-1000100) - (gI D8 370 16), D8) else (f_X7_copyAll 189 0 D8).bind (fun q10 => ap (sI q10 370 3 0) (fun D11 => (rd 252 D11 371 41).bind (fun x12 => some (x12, D11))))))
def f_X7_room_L36 (k10 : Int32 → wd_D → Option (Int32 × wd_D)) (D : wd_D) : Option (Int32 × wd_D) := (f_X7_takesChild D).bind (fun q13 => ap q13.1 (fun x14 => k10 x14 q13.2))
def f_X7_room_L10  : Nat → Int32 → wd_D → Option (Int32 × wd_D)
  | 0, _, _ => none
  | n + 1, v1, D => (if v1 = 0 then f_X7_room_L44 v1 D else (if (gI D 370 14) < (gI D 370 9) then f_X7_room_L36 (f_X7_room_L10 n) D else (rd 252 D 371 230).bind (fun x6 => (if x6 = 0 then f_X7_room_L36 (f_X7_room_L10 n) D else f_X7_room_L44 v1 D))))
def f_X7_room  (D : wd_D) : Option (Int32 × wd_D) := ap (sI D 370 14 0) (fun D1 => (f_X7_takesLaw D1).bind (fun q2 => ap q2.1 (fun x3 => f_X7_room_L10 FU x3 q2.2)))
set_option maxHeartbeats 4000000 in
set_option maxRecDepth 100000 in
theorem x_X7_room (l : Launch) (X : wd_X)  (D : wd_D) {qv : Int32 × wd_D} (h : f_X7_room  D = some qv) : wd_Met l X yX7_room cX7_room 2 (some FieldType.int) ({ frames := 4, cells := 0, slots := 0, locals := 400 }) S0 S0 ([.ref (X.2.2.1 + 370)] : List Value) D qv.2 (some (.int qv.1)) 0 0 := by
  refine wd_enter (by decide) (Nat.le_of_ble_eq_true rfl) ?_
  intro p e s m below meth c CF hret hlk hnm hW hE ls hl
  have CF : CallFix p m c cX7_room 2 s ([.ref (X.2.2.1 + 370)] : List Value).toArray tg RX7 := CF
  have hx := CF.1
  have hb := CF.2.1
  have hown := CF.2.2.2.1
  have hts := CF.2.2.2.2
  have hS : va_S (wd_A X) s.heap s.heap [] := va_S.rf
  have hl : lv_has ls 2 [(0, .ref (X.2.2.1 + 370))] := hl
  unfold f_X7_room at h
  have hL44 : ∀ (v1 : Int32) (D : wd_D) (H : Heap) (locs : List Loc) (ls : Array Slot), Wd X S0 D H → va_S (wd_A X) s.heap H locs → lv_has ls 2 [(0, .ref (X.2.2.1 + 370)), (1, .int v1)] → f_X7_room_L44 v1 D = some qv → W p l e ({ frames := 4, cells := 0, slots := 0, locals := 400 }) s m ([.ref (X.2.2.1 + 370)] : List Value).toArray below meth c H locs 0 0 (MQ below (wd_Q X S0 qv.2 (some (.int qv.1))) ([.ref (X.2.2.1 + 370)] : List Value).toArray s 0 0 (wd_A X)) (F0 m 44 ls []) := by
    intro v1 D H locs ls hW hS hl h
    unfold f_X7_room_L44 at h
    refine lv_aload_n hx hb dX7_room_44 rfl (lv_at hl 0 rfl) ?_
    refine lv_iconst (v := 0) hx hb dX7_room_45 (by decide) ?_
    refine wd_putI CF hE hW hS fl_X7_72 sh_370 rfl rfl dX7_room_46 (fun D8 H locs eD8 hW hS => ?_)
    replace h := apR eD8 h
    refine lv_iload_n hx hb dX7_room_49 rfl (lv_at hl 1 rfl) ?_
    refine lv_if_ne (tgt := 61) hx hb dX7_room_50 (by decide) (fun c9 => ?_) (fun c9 => ?_)
    · rw [if_neg c9] at h
      refine lv_aload_n hx hb dX7_room_61 rfl (lv_at hl 0 rfl) ?_
      refine lv_sipush (v := 189) hx hb dX7_room_62 (by decide) ?_
      refine lv_iconst (v := 0) hx hb dX7_room_65 (by decide) ?_
      obtain ⟨q10, eq10, h⟩ := bdE h
      refine wd_callVv (ci := 7) (k := 370) CF hE hW hS (x_X7_copyAll l X 189 0 D8 eq10) mi_X7_copyAll vi_X7_copyAll tw887 ⟨by decide, rfl⟩ sh_370 ⟨rfl, rfl, Nat.le_of_ble_eq_true rfl, Nat.le_of_ble_eq_true rfl⟩ rfl hl.1 rfl (Nat.le_of_ble_eq_true rfl) dX7_room_66 ⟨Nat.le_of_ble_eq_true rfl, Nat.le_of_ble_eq_true rfl⟩ (fun H locs hW hS => ?_)
      refine lv_aload_n hx hb dX7_room_69 rfl (lv_at hl 0 rfl) ?_
      refine lv_iconst (v := 0) hx hb dX7_room_70 (by decide) ?_
      refine wd_putI CF hE hW hS fl_X7_120 sh_370 rfl rfl dX7_room_71 (fun D11 H locs eD11 hW hS => ?_)
      replace h := apR eD11 h
      refine lv_aload_n hx hb dX7_room_74 rfl (lv_at hl 0 rfl) ?_
      refine wd_getR CF hE hW fl_X7_7 sh_370 rf_370_0 rfl dX7_room_75 ?_
      refine lv_bipush (v := 41) hx hb dX7_room_78 (by decide) ?_
      obtain ⟨x12, ex12, h⟩ := bdE h
      refine wd_iald CF hE hW sh_371 ex12 dX7_room_80 ?_
      have h := Option.some.inj h
      subst h
      exact wd_iret CF hret hlk hW hS dX7_room_81
    · rw [if_pos c9] at h
      refine lv_ldc (v := (-1000100)) hx hb hown (hts _ tw886) dX7_room_53 ?_
      refine lv_aload_n hx hb dX7_room_55 rfl (lv_at hl 0 rfl) ?_
      refine wd_get CF hE hW fl_X7_79 sh_370 (v := .int (gI D8 370 16)) rfl dX7_room_56 ?_
      refine lv_isub hx hb dX7_room_59 ?_
      have h := Option.some.inj h
      subst h
      exact wd_iret CF hret hlk hW hS dX7_room_60
  have hL10 : ∀ (n10 : Nat) (v1 : Int32) (D : wd_D) (H : Heap) (locs : List Loc) (ls : Array Slot), Wd X S0 D H → va_S (wd_A X) s.heap H locs → lv_has ls 2 [(0, .ref (X.2.2.1 + 370)), (1, .int v1)] → f_X7_room_L10 n10 v1 D = some qv → W p l e ({ frames := 4, cells := 0, slots := 0, locals := 400 }) s m ([.ref (X.2.2.1 + 370)] : List Value).toArray below meth c H locs 0 0 (MQ below (wd_Q X S0 qv.2 (some (.int qv.1))) ([.ref (X.2.2.1 + 370)] : List Value).toArray s 0 0 (wd_A X)) (F0 m 10 ls []) := by
    intro n10
    induction n10 with
    | zero => intro v1 D H locs ls hW hS hl h; cases h
    | succ n10 ih10 =>
      have hL36 : ∀  (D : wd_D) (H : Heap) (locs : List Loc) (ls : Array Slot), Wd X S0 D H → va_S (wd_A X) s.heap H locs → lv_has ls 2 [(0, .ref (X.2.2.1 + 370))] → f_X7_room_L36 (f_X7_room_L10 n10) D = some qv → W p l e ({ frames := 4, cells := 0, slots := 0, locals := 400 }) s m ([.ref (X.2.2.1 + 370)] : List Value).toArray below meth c H locs 0 0 (MQ below (wd_Q X S0 qv.2 (some (.int qv.1))) ([.ref (X.2.2.1 + 370)] : List Value).toArray s 0 0 (wd_A X)) (F0 m 36 ls []) := by
        intro D H locs ls hW hS hl h
        unfold f_X7_room_L36 at h
        refine lv_aload_n hx hb dX7_room_36 rfl (lv_at hl 0 rfl) ?_
        obtain ⟨q13, eq13, h⟩ := bdE h
        refine wd_callVr (ci := 7) (k := 370) CF hE hW hS (x_X7_takesChild l X D eq13) mi_X7_takesChild vi_X7_takesChild tw879 ⟨by decide, rfl⟩ sh_370 ⟨rfl, rfl, Nat.le_of_ble_eq_true rfl, Nat.le_of_ble_eq_true rfl⟩ rfl hl.1 rfl (Nat.le_of_ble_eq_true rfl) dX7_room_37 ⟨Nat.le_of_ble_eq_true rfl, Nat.le_of_ble_eq_true rfl⟩ (fun H locs hW hS => ?_)
        refine lv_topi (fun x14 ex14 => ?_)
        replace h := apR ex14 h
        refine lv_istore_n (lv' := [(1, .int x14), (0, .ref (X.2.2.1 + 370))]) hx hb dX7_room_40 rfl hl (by decide) rfl (fun ls hl => ?_)
        refine lv_goto (tgt := 10) hx hb dX7_room_41 (by decide) ?_
        exact ih10 x14 q13.2 _ _ _  hW hS (lv_sub hl [1, 0] rfl) h
      intro v1 D H locs ls hW hS hl h
      rw [f_X7_room_L10] at h
      refine lv_iload_n hx hb dX7_room_10 rfl (lv_at hl 1 rfl) ?_
      refine lv_if_eq (tgt := 44) hx hb dX7_room_11 (by decide) (fun c4 => ?_) (fun c4 => ?_)
      · rw [if_pos c4] at h
        exact hL44 v1 D _ _ _  hW hS (lv_sub hl [0, 1] rfl) h
      · rw [if_neg c4] at h
        refine lv_aload_n hx hb dX7_room_14 rfl (lv_at hl 0 rfl) ?_
        refine wd_get CF hE hW fl_X7_82 sh_370 (v := .int (gI D 370 14)) rfl dX7_room_15 ?_
        refine lv_aload_n hx hb dX7_room_18 rfl (lv_at hl 0 rfl) ?_
        refine wd_get CF hE hW fl_X7_72 sh_370 (v := .int (gI D 370 9)) rfl dX7_room_19 ?_
        refine lv_icmp_lt (tgt := 36) hx hb dX7_room_22 (by decide) (fun c5 => ?_) (fun c5 => ?_)
        · rw [if_pos c5] at h
          exact hL36  D _ _ _  hW hS (lv_sub hl [0] rfl) h
        · rw [if_neg c5] at h
          refine lv_aload_n hx hb dX7_room_25 rfl (lv_at hl 0 rfl) ?_
          refine wd_getR CF hE hW fl_X7_7 sh_370 rf_370_0 rfl dX7_room_26 ?_
          refine lv_sipush (v := 230) hx hb dX7_room_29 (by decide) ?_
          obtain ⟨x6, ex6, h⟩ := bdE h
          refine wd_iald CF hE hW sh_371 ex6 dX7_room_32 ?_
          refine lv_if_ne (tgt := 44) hx hb dX7_room_33 (by decide) (fun c7 => ?_) (fun c7 => ?_)
          · rw [if_neg c7] at h
            exact hL44 v1 D _ _ _  hW hS (lv_sub hl [0, 1] rfl) h
          · rw [if_pos c7] at h
            exact hL36  D _ _ _  hW hS (lv_sub hl [0] rfl) h
  refine lv_aload_n hx hb dX7_room_0 rfl (lv_at hl 0 rfl) ?_
  refine lv_iconst (v := 0) hx hb dX7_room_1 (by decide) ?_
  refine wd_putI CF hE hW hS fl_X7_82 sh_370 rfl rfl dX7_room_2 (fun D1 H locs eD1 hW hS => ?_)
  replace h := apR eD1 h
  refine lv_aload_n hx hb dX7_room_5 rfl (lv_at hl 0 rfl) ?_
  obtain ⟨q2, eq2, h⟩ := bdE h
  refine wd_callVr (ci := 7) (k := 370) CF hE hW hS (x_X7_takesLaw l X D1 eq2) mi_X7_takesLaw vi_X7_takesLaw tw857 ⟨by decide, rfl⟩ sh_370 ⟨rfl, rfl, Nat.le_of_ble_eq_true rfl, Nat.le_of_ble_eq_true rfl⟩ rfl hl.1 rfl (Nat.le_of_ble_eq_true rfl) dX7_room_6 ⟨Nat.le_of_ble_eq_true rfl, Nat.le_of_ble_eq_true rfl⟩ (fun H locs hW hS => ?_)
  refine lv_topi (fun x3 ex3 => ?_)
  replace h := apR ex3 h
  refine lv_istore_n (lv' := [(1, .int x3), (0, .ref (X.2.2.1 + 370))]) hx hb dX7_room_9 rfl hl (by decide) rfl (fun ls hl => ?_)
  exact hL10 FU x3 q2.2 _ _ _  hW hS (lv_sub hl [1, 0] rfl) h
def f_X7_fault  (D : wd_D) : Int32 := (gI D 370 10)
set_option maxHeartbeats 4000000 in
set_option maxRecDepth 100000 in
theorem x_X7_fault (l : Launch) (X : wd_X)  (D : wd_D) : wd_Met l X yX7_fault cX7_fault 1 (some FieldType.int) ({ frames := 0, cells := 0, slots := 0, locals := 0 }) S0 S0 ([.ref (X.2.2.1 + 370)] : List Value) D D (some (.int (f_X7_fault  D))) 0 0 := by
  obtain ⟨rv, h⟩ : ∃ rv, f_X7_fault  D = rv := ⟨_, rfl⟩
  rw [h]
  refine wd_enter (by decide) (Nat.le_of_ble_eq_true rfl) ?_
  intro p e s m below meth c CF hret hlk hnm hW hE ls hl
  have CF : CallFix p m c cX7_fault 1 s ([.ref (X.2.2.1 + 370)] : List Value).toArray tg RX7 := CF
  have hx := CF.1
  have hb := CF.2.1
  have hown := CF.2.2.2.1
  have hts := CF.2.2.2.2
  have hS : va_S (wd_A X) s.heap s.heap [] := va_S.rf
  have hl : lv_has ls 1 [(0, .ref (X.2.2.1 + 370))] := hl
  unfold f_X7_fault at h
  refine lv_aload_n hx hb dX7_fault_0 rfl (lv_at hl 0 rfl) ?_
  refine wd_get CF hE hW fl_X7_76 sh_370 (v := .int (gI D 370 10)) rfl dX7_fault_1 ?_
  subst h
  exact wd_iret CF hret hlk hW hS dX7_fault_4
def f_X7_isRoom  (D : wd_D) : Option (Int32) := (rd 252 D 371 38).bind (fun x1 => (if x1 = 1 then some 1 else some 0))
set_option maxHeartbeats 4000000 in
set_option maxRecDepth 100000 in
theorem x_X7_isRoom (l : Launch) (X : wd_X)  (D : wd_D) {rv : Int32} (h : f_X7_isRoom  D = some rv) : wd_Met l X yX7_isRoom cX7_isRoom 1 (some FieldType.boolean) ({ frames := 0, cells := 0, slots := 0, locals := 0 }) S0 S0 ([.ref (X.2.2.1 + 370)] : List Value) D D (some (.int rv)) 0 0 := by
  refine wd_enter (by decide) (Nat.le_of_ble_eq_true rfl) ?_
  intro p e s m below meth c CF hret hlk hnm hW hE ls hl
  have CF : CallFix p m c cX7_isRoom 1 s ([.ref (X.2.2.1 + 370)] : List Value).toArray tg RX7 := CF
  have hx := CF.1
  have hb := CF.2.1
  have hown := CF.2.2.2.1
  have hts := CF.2.2.2.2
  have hS : va_S (wd_A X) s.heap s.heap [] := va_S.rf
  have hl : lv_has ls 1 [(0, .ref (X.2.2.1 + 370))] := hl
  unfold f_X7_isRoom at h
  refine lv_aload_n hx hb dX7_isRoom_0 rfl (lv_at hl 0 rfl) ?_
  refine wd_getR CF hE hW fl_X7_7 sh_370 rf_370_0 rfl dX7_isRoom_1 ?_
  refine lv_bipush (v := 38) hx hb dX7_isRoom_4 (by decide) ?_
  obtain ⟨x1, ex1, h⟩ := bdE h
  refine wd_iald CF hE hW sh_371 ex1 dX7_isRoom_6 ?_
  refine lv_iconst (v := 1) hx hb dX7_isRoom_7 (by decide) ?_
  refine lv_icmp_ne (tgt := 15) hx hb dX7_isRoom_8 (by decide) (fun c2 => ?_) (fun c2 => ?_)
  · rw [if_neg c2] at h
    refine lv_iconst (v := 0) hx hb dX7_isRoom_15 (by decide) ?_
    have h := Option.some.inj h
    subst h
    exact wd_zret CF hret hlk hW hS (Or.inl rfl) dX7_isRoom_16
  · rw [if_pos c2] at h
    refine lv_iconst (v := 1) hx hb dX7_isRoom_11 (by decide) ?_
    refine lv_goto (tgt := 16) hx hb dX7_isRoom_12 (by decide) ?_
    have h := Option.some.inj h
    subst h
    exact wd_zret CF hret hlk hW hS (Or.inr rfl) dX7_isRoom_16
def f_X7_isChild (a1 : Int32) (D : wd_D) : Option (Int32) := (rd 252 D 371 41).bind (fun x1 => some (f_X7_in a1.toInt64 0 ((x1 - 1).toInt64)))
set_option maxHeartbeats 4000000 in
set_option maxRecDepth 100000 in
theorem x_X7_isChild (l : Launch) (X : wd_X) (a1 : Int32) (D : wd_D) {rv : Int32} (h : f_X7_isChild a1 D = some rv) : wd_Met l X yX7_isChild cX7_isChild 2 (some FieldType.boolean) ({ frames := 1, cells := 0, slots := 0, locals := 100 }) S0 S0 ([.ref (X.2.2.1 + 370), .int a1] : List Value) D D (some (.int rv)) 0 0 := by
  refine wd_enter (by decide) (Nat.le_of_ble_eq_true rfl) ?_
  intro p e s m below meth c CF hret hlk hnm hW hE ls hl
  have CF : CallFix p m c cX7_isChild 2 s ([.ref (X.2.2.1 + 370), .int a1] : List Value).toArray tg RX7 := CF
  have hx := CF.1
  have hb := CF.2.1
  have hown := CF.2.2.2.1
  have hts := CF.2.2.2.2
  have hS : va_S (wd_A X) s.heap s.heap [] := va_S.rf
  have hl : lv_has ls 2 [(0, .ref (X.2.2.1 + 370)), (1, .int a1)] := hl
  unfold f_X7_isChild at h
  refine lv_iload_n hx hb dX7_isChild_0 rfl (lv_at hl 1 rfl) ?_
  refine lv_i2l hx hb dX7_isChild_1 rfl ?_
  refine lv_lconst (v := 0) hx hb dX7_isChild_2 (by decide) ?_
  refine lv_aload_n hx hb dX7_isChild_3 rfl (lv_at hl 0 rfl) ?_
  refine wd_getR CF hE hW fl_X7_7 sh_370 rf_370_0 rfl dX7_isChild_4 ?_
  refine lv_bipush (v := 41) hx hb dX7_isChild_7 (by decide) ?_
  obtain ⟨x1, ex1, h⟩ := bdE h
  refine wd_iald CF hE hW sh_371 ex1 dX7_isChild_9 ?_
  refine lv_iconst (v := 1) hx hb dX7_isChild_10 (by decide) ?_
  refine lv_isub hx hb dX7_isChild_11 ?_
  refine lv_i2l hx hb dX7_isChild_12 rfl ?_
  refine wd_callSr CF hE hW hS (x_X7_in l X a1.toInt64 0 ((x1 - 1).toInt64) D) mi_X7_in vi_X7_in tw818 ⟨rfl, rfl, Nat.le_of_ble_eq_true rfl, Nat.le_of_ble_eq_true rfl⟩ rfl hl.1 rfl (Nat.le_of_ble_eq_true rfl) dX7_isChild_13 ⟨Nat.le_of_ble_eq_true rfl, Nat.le_of_ble_eq_true rfl⟩ (fun H locs hW hS => ?_)
  have h := Option.some.inj h
  subst h
  exact wd_zret CF hret hlk hW hS (z_X7_in a1.toInt64 0 ((x1 - 1).toInt64)) dX7_isChild_16
def f_X7_off (a0 : Int32) (a1 : Int32) : Int32 := (if a1 ≤ a0 then (a0 - a1) else (a1 - a0))
set_option maxHeartbeats 4000000 in
set_option maxRecDepth 100000 in
theorem x_X7_off (l : Launch) (X : wd_X) (a0 : Int32) (a1 : Int32) (D : wd_D) : wd_Met l X yX7_off cX7_off 2 (some FieldType.int) ({ frames := 0, cells := 0, slots := 0, locals := 0 }) S0 S0 ([.int a0, .int a1] : List Value) D D (some (.int (f_X7_off a0 a1))) 0 0 := by
  obtain ⟨rv, h⟩ : ∃ rv, f_X7_off a0 a1 = rv := ⟨_, rfl⟩
  rw [h]
  refine wd_enter (by decide) (Nat.le_of_ble_eq_true rfl) ?_
  intro p e s m below meth c CF hret hlk hnm hW hE ls hl
  have CF : CallFix p m c cX7_off 2 s ([.int a0, .int a1] : List Value).toArray tg RX7 := CF
  have hx := CF.1
  have hb := CF.2.1
  have hown := CF.2.2.2.1
  have hts := CF.2.2.2.2
  have hS : va_S (wd_A X) s.heap s.heap [] := va_S.rf
  have hl : lv_has ls 2 [(0, .int a0), (1, .int a1)] := hl
  unfold f_X7_off at h
  refine lv_iload_n hx hb dX7_off_0 rfl (lv_at hl 0 rfl) ?_
  refine lv_iload_n hx hb dX7_off_1 rfl (lv_at hl 1 rfl) ?_
  refine lv_icmp_ge (tgt := 11) hx hb dX7_off_2 (by decide) (fun c1 => ?_) (fun c1 => ?_)
  · rw [if_pos c1] at h
    refine lv_iload_n hx hb dX7_off_11 rfl (lv_at hl 0 rfl) ?_
    refine lv_iload_n hx hb dX7_off_12 rfl (lv_at hl 1 rfl) ?_
    refine lv_isub hx hb dX7_off_13 ?_
    subst h
    exact wd_iret CF hret hlk hW hS dX7_off_14
  · rw [if_neg c1] at h
    refine lv_iload_n hx hb dX7_off_5 rfl (lv_at hl 1 rfl) ?_
    refine lv_iload_n hx hb dX7_off_6 rfl (lv_at hl 0 rfl) ?_
    refine lv_isub hx hb dX7_off_7 ?_
    refine lv_goto (tgt := 14) hx hb dX7_off_8 (by decide) ?_
    subst h
    exact wd_iret CF hret hlk hW hS dX7_off_14
def f_X7_isOut (a1 : Int32) (a2 : Int32) (D : wd_D) : Option (Int32) := (rd 252 D 371 (a1 + 36)).bind (fun x1 => some (f_X7_has x1 a2))
set_option maxHeartbeats 4000000 in
set_option maxRecDepth 100000 in
theorem x_X7_isOut (l : Launch) (X : wd_X) (a1 : Int32) (a2 : Int32) (D : wd_D) {rv : Int32} (h : f_X7_isOut a1 a2 D = some rv) : wd_Met l X yX7_isOut cX7_isOut 3 (some FieldType.boolean) ({ frames := 1, cells := 0, slots := 0, locals := 100 }) S0 S0 ([.ref (X.2.2.1 + 370), .int a1, .int a2] : List Value) D D (some (.int rv)) 0 0 := by
  refine wd_enter (by decide) (Nat.le_of_ble_eq_true rfl) ?_
  intro p e s m below meth c CF hret hlk hnm hW hE ls hl
  have CF : CallFix p m c cX7_isOut 3 s ([.ref (X.2.2.1 + 370), .int a1, .int a2] : List Value).toArray tg RX7 := CF
  have hx := CF.1
  have hb := CF.2.1
  have hown := CF.2.2.2.1
  have hts := CF.2.2.2.2
  have hS : va_S (wd_A X) s.heap s.heap [] := va_S.rf
  have hl : lv_has ls 3 [(0, .ref (X.2.2.1 + 370)), (1, .int a1), (2, .int a2)] := hl
  unfold f_X7_isOut at h
  refine lv_aload_n hx hb dX7_isOut_0 rfl (lv_at hl 0 rfl) ?_
  refine wd_getR CF hE hW fl_X7_7 sh_370 rf_370_0 rfl dX7_isOut_1 ?_
  refine lv_iload_n hx hb dX7_isOut_4 rfl (lv_at hl 1 rfl) ?_
  refine lv_bipush (v := 36) hx hb dX7_isOut_5 (by decide) ?_
  refine lv_iadd hx hb dX7_isOut_7 ?_
  obtain ⟨x1, ex1, h⟩ := bdE h
  refine wd_iald CF hE hW sh_371 ex1 dX7_isOut_8 ?_
  refine lv_iload_n hx hb dX7_isOut_9 rfl (lv_at hl 2 rfl) ?_
  refine wd_callSr CF hE hW hS (x_X7_has l X x1 a2 D) mi_X7_has vi_X7_has tw925 ⟨rfl, rfl, Nat.le_of_ble_eq_true rfl, Nat.le_of_ble_eq_true rfl⟩ rfl hl.1 rfl (Nat.le_of_ble_eq_true rfl) dX7_isOut_10 ⟨Nat.le_of_ble_eq_true rfl, Nat.le_of_ble_eq_true rfl⟩ (fun H locs hW hS => ?_)
  have h := Option.some.inj h
  subst h
  exact wd_zret CF hret hlk hW hS (z_X7_has x1 a2) dX7_isOut_13
def f_X7_noiseAt_L145 (k5 : Int32 → Int32 → Int32 → Int32 → wd_D → Option (Int32)) (a1 : Int32) (a2 : Int32) (v3 : Int32) (v4 : Int32) (D : wd_D) : Option (Int32) := ap (v4 + 1) (fun x12 => k5 a1 a2 v3 x12 D)
def f_X7_noiseAt_L143 (k5 : Int32 → Int32 → Int32 → Int32 → wd_D → Option (Int32)) (a1 : Int32) (a2 : Int32) (v4 : Int32) (z0 : Int32) (z1 : Int32) (D : wd_D) : Option (Int32) := ap (z1 + z0) (fun x17 => f_X7_noiseAt_L145 k5 a1 a2 x17 v4 D)
def f_X7_noiseAt_L96 (k5 : Int32 → Int32 → Int32 → Int32 → wd_D → Option (Int32)) (a1 : Int32) (a2 : Int32) (v3 : Int32) (v4 : Int32) (z0 : Int32) (D : wd_D) : Option (Int32) := (rd 252 D 371 ((a1 + 29) + v4)).bind (fun x13 => (rd 252 D 371 ((a1 + 29) + a2)).bind (fun x14 => ap (f_X7_off x13 x14) (fun x15 => (if z0 ≤ x15 then f_X7_noiseAt_L143 k5 a1 a2 v4 0 v3 D else f_X7_noiseAt_L143 k5 a1 a2 v4 (z0 - x15) v3 D))))
def f_X7_noiseAt_L5  : Nat → Int32 → Int32 → Int32 → Int32 → wd_D → Option (Int32)
  | 0, _, _, _, _, _ => none
  | n + 1, a1, a2, v3, v4, D => (rd 252 D 371 (a1 + 41)).bind (fun x1 => (if x1 ≤ v4 then some v3 else (if v4 = a2 then f_X7_noiseAt_L145 (f_X7_noiseAt_L5 n) a1 a2 v3 v4 D else (rd 252 D 371 ((a1 + 8) + v4)).bind (fun x4 => (if x4 = 1 then (f_X7_isOut a1 v4 D).bind (fun x6 => (if x6 = 0 then (rd 252 D 371 ((a1 + 42) + v4)).bind (fun x8 => (if x8 = 2 then (rd 252 D 371 ((a1 + 56) + v4)).bind (fun x11 => f_X7_noiseAt_L96 (f_X7_noiseAt_L5 n) a1 a2 v3 v4 (2 * x11) D) else (rd 252 D 371 ((a1 + 56) + v4)).bind (fun x10 => f_X7_noiseAt_L96 (f_X7_noiseAt_L5 n) a1 a2 v3 v4 x10 D))) else f_X7_noiseAt_L145 (f_X7_noiseAt_L5 n) a1 a2 v3 v4 D)) else f_X7_noiseAt_L145 (f_X7_noiseAt_L5 n) a1 a2 v3 v4 D)))))
def f_X7_noiseAt (a1 : Int32) (a2 : Int32) (D : wd_D) : Option (Int32) := f_X7_noiseAt_L5 FU a1 a2 0 0 D
set_option maxHeartbeats 4000000 in
set_option maxRecDepth 100000 in
theorem x_X7_noiseAt (l : Launch) (X : wd_X) (a1 : Int32) (a2 : Int32) (D : wd_D) {rv : Int32} (h : f_X7_noiseAt a1 a2 D = some rv) : wd_Met l X yX7_noiseAt cX7_noiseAt 7 (some FieldType.int) ({ frames := 2, cells := 0, slots := 0, locals := 200 }) S0 S0 ([.ref (X.2.2.1 + 370), .int a1, .int a2] : List Value) D D (some (.int rv)) 0 0 := by
  refine wd_enter (by decide) (Nat.le_of_ble_eq_true rfl) ?_
  intro p e s m below meth c CF hret hlk hnm hW hE ls hl
  have CF : CallFix p m c cX7_noiseAt 7 s ([.ref (X.2.2.1 + 370), .int a1, .int a2] : List Value).toArray tg RX7 := CF
  have hx := CF.1
  have hb := CF.2.1
  have hown := CF.2.2.2.1
  have hts := CF.2.2.2.2
  have hS : va_S (wd_A X) s.heap s.heap [] := va_S.rf
  have hl : lv_has ls 7 [(0, .ref (X.2.2.1 + 370)), (1, .int a1), (2, .int a2)] := hl
  unfold f_X7_noiseAt at h
  have hL5 : ∀ (n5 : Nat) (v3 : Int32) (v4 : Int32) (H : Heap) (locs : List Loc) (ls : Array Slot), Wd X S0 D H → va_S (wd_A X) s.heap H locs → lv_has ls 7 [(0, .ref (X.2.2.1 + 370)), (1, .int a1), (2, .int a2), (3, .int v3), (4, .int v4)] → f_X7_noiseAt_L5 n5 a1 a2 v3 v4 D = some rv → W p l e ({ frames := 2, cells := 0, slots := 0, locals := 200 }) s m ([.ref (X.2.2.1 + 370), .int a1, .int a2] : List Value).toArray below meth c H locs 0 0 (MQ below (wd_Q X S0 D (some (.int rv))) ([.ref (X.2.2.1 + 370), .int a1, .int a2] : List Value).toArray s 0 0 (wd_A X)) (F0 m 5 ls []) := by
    intro n5
    induction n5 with
    | zero => intro v3 v4 H locs ls hW hS hl h; cases h
    | succ n5 ih5 =>
      have hL145 : ∀ (v3 : Int32) (v4 : Int32) (H : Heap) (locs : List Loc) (ls : Array Slot), Wd X S0 D H → va_S (wd_A X) s.heap H locs → lv_has ls 7 [(0, .ref (X.2.2.1 + 370)), (1, .int a1), (2, .int a2), (3, .int v3), (4, .int v4)] → f_X7_noiseAt_L145 (f_X7_noiseAt_L5 n5) a1 a2 v3 v4 D = some rv → W p l e ({ frames := 2, cells := 0, slots := 0, locals := 200 }) s m ([.ref (X.2.2.1 + 370), .int a1, .int a2] : List Value).toArray below meth c H locs 0 0 (MQ below (wd_Q X S0 D (some (.int rv))) ([.ref (X.2.2.1 + 370), .int a1, .int a2] : List Value).toArray s 0 0 (wd_A X)) (F0 m 145 ls []) := by
        intro v3 v4 H locs ls hW hS hl h
        unfold f_X7_noiseAt_L145 at h
        obtain ⟨x12, ex12⟩ : ∃ y : Int32, y = v4 + 1 := ⟨_, rfl⟩
        replace h := apR ex12 h
        refine lv_iinc (v := x12) (lv' := [(4, .int x12), (0, .ref (X.2.2.1 + 370)), (1, .int a1), (2, .int a2), (3, .int v3)]) hx hb dX7_noiseAt_145 hl (k := 4) rfl (by rw [ex12]; rfl) (by decide) rfl (fun ls hl => ?_)
        refine lv_goto (tgt := 5) hx hb dX7_noiseAt_148 (by decide) ?_
        exact ih5 v3 x12 _ _ _  hW hS (lv_sub hl [1, 2, 3, 4, 0] rfl) h
      have hL143 : ∀ (v4 : Int32) (z0 : Int32) (z1 : Int32) (H : Heap) (locs : List Loc) (ls : Array Slot), Wd X S0 D H → va_S (wd_A X) s.heap H locs → lv_has ls 7 [(0, .ref (X.2.2.1 + 370)), (1, .int a1), (2, .int a2), (4, .int v4)] → f_X7_noiseAt_L143 (f_X7_noiseAt_L5 n5) a1 a2 v4 z0 z1 D = some rv → W p l e ({ frames := 2, cells := 0, slots := 0, locals := 200 }) s m ([.ref (X.2.2.1 + 370), .int a1, .int a2] : List Value).toArray below meth c H locs 0 0 (MQ below (wd_Q X S0 D (some (.int rv))) ([.ref (X.2.2.1 + 370), .int a1, .int a2] : List Value).toArray s 0 0 (wd_A X)) (F0 m 143 ls [.int z0, .int z1]) := by
        intro v4 z0 z1 H locs ls hW hS hl h
        unfold f_X7_noiseAt_L143 at h
        refine lv_iadd hx hb dX7_noiseAt_143 ?_
        refine lv_topi (fun x17 ex17 => ?_)
        replace h := apR ex17 h
        refine lv_istore_n (lv' := [(3, .int x17), (0, .ref (X.2.2.1 + 370)), (1, .int a1), (2, .int a2), (4, .int v4)]) hx hb dX7_noiseAt_144 rfl hl (by decide) rfl (fun ls hl => ?_)
        exact hL145 x17 v4 _ _ _  hW hS (lv_sub hl [1, 2, 3, 0, 4] rfl) h
      have hL96 : ∀ (v3 : Int32) (v4 : Int32) (z0 : Int32) (H : Heap) (locs : List Loc) (ls : Array Slot), Wd X S0 D H → va_S (wd_A X) s.heap H locs → lv_has ls 7 [(0, .ref (X.2.2.1 + 370)), (1, .int a1), (2, .int a2), (3, .int v3), (4, .int v4)] → f_X7_noiseAt_L96 (f_X7_noiseAt_L5 n5) a1 a2 v3 v4 z0 D = some rv → W p l e ({ frames := 2, cells := 0, slots := 0, locals := 200 }) s m ([.ref (X.2.2.1 + 370), .int a1, .int a2] : List Value).toArray below meth c H locs 0 0 (MQ below (wd_Q X S0 D (some (.int rv))) ([.ref (X.2.2.1 + 370), .int a1, .int a2] : List Value).toArray s 0 0 (wd_A X)) (F0 m 96 ls [.int z0]) := by
        intro v3 v4 z0 H locs ls hW hS hl h
        unfold f_X7_noiseAt_L96 at h
        refine lv_istore (lv' := [(5, .int z0), (0, .ref (X.2.2.1 + 370)), (1, .int a1), (2, .int a2), (3, .int v3), (4, .int v4)]) hx hb dX7_noiseAt_96 hl (by decide) rfl (fun ls hl => ?_)
        refine lv_aload_n hx hb dX7_noiseAt_98 rfl (lv_at hl 1 rfl) ?_
        refine wd_getR CF hE hW fl_X7_7 sh_370 rf_370_0 rfl dX7_noiseAt_99 ?_
        refine lv_iload_n hx hb dX7_noiseAt_102 rfl (lv_at hl 2 rfl) ?_
        refine lv_bipush (v := 29) hx hb dX7_noiseAt_103 (by decide) ?_
        refine lv_iadd hx hb dX7_noiseAt_105 ?_
        refine lv_iload hx hb dX7_noiseAt_106 (lv_at hl 5 rfl) ?_
        refine lv_iadd hx hb dX7_noiseAt_108 ?_
        obtain ⟨x13, ex13, h⟩ := bdE h
        refine wd_iald CF hE hW sh_371 ex13 dX7_noiseAt_109 ?_
        refine lv_aload_n hx hb dX7_noiseAt_110 rfl (lv_at hl 1 rfl) ?_
        refine wd_getR CF hE hW fl_X7_7 sh_370 rf_370_0 rfl dX7_noiseAt_111 ?_
        refine lv_iload_n hx hb dX7_noiseAt_114 rfl (lv_at hl 2 rfl) ?_
        refine lv_bipush (v := 29) hx hb dX7_noiseAt_115 (by decide) ?_
        refine lv_iadd hx hb dX7_noiseAt_117 ?_
        refine lv_iload_n hx hb dX7_noiseAt_118 rfl (lv_at hl 3 rfl) ?_
        refine lv_iadd hx hb dX7_noiseAt_119 ?_
        obtain ⟨x14, ex14, h⟩ := bdE h
        refine wd_iald CF hE hW sh_371 ex14 dX7_noiseAt_120 ?_
        refine wd_callSr CF hE hW hS (x_X7_off l X x13 x14 D) mi_X7_off vi_X7_off tw928 ⟨rfl, rfl, Nat.le_of_ble_eq_true rfl, Nat.le_of_ble_eq_true rfl⟩ rfl hl.1 rfl (Nat.le_of_ble_eq_true rfl) dX7_noiseAt_121 ⟨Nat.le_of_ble_eq_true rfl, Nat.le_of_ble_eq_true rfl⟩ (fun H locs hW hS => ?_)
        refine lv_topi (fun x15 ex15 => ?_)
        replace h := apR ex15 h
        refine lv_istore (lv' := [(6, .int x15), (5, .int z0), (0, .ref (X.2.2.1 + 370)), (1, .int a1), (2, .int a2), (3, .int v3), (4, .int v4)]) hx hb dX7_noiseAt_124 hl (by decide) rfl (fun ls hl => ?_)
        refine lv_iload_n hx hb dX7_noiseAt_126 rfl (lv_at hl 5 rfl) ?_
        refine lv_iload hx hb dX7_noiseAt_127 (lv_at hl 1 rfl) ?_
        refine lv_iload hx hb dX7_noiseAt_129 (lv_at hl 0 rfl) ?_
        refine lv_icmp_le (tgt := 142) hx hb dX7_noiseAt_131 (by decide) (fun c16 => ?_) (fun c16 => ?_)
        · rw [if_pos c16] at h
          refine lv_iconst (v := 0) hx hb dX7_noiseAt_142 (by decide) ?_
          exact hL143 v4 0 v3 _ _ _  hW hS (lv_sub hl [2, 3, 4, 6] rfl) h
        · rw [if_neg c16] at h
          refine lv_iload hx hb dX7_noiseAt_134 (lv_at hl 1 rfl) ?_
          refine lv_iload hx hb dX7_noiseAt_136 (lv_at hl 0 rfl) ?_
          refine lv_isub hx hb dX7_noiseAt_138 ?_
          refine lv_goto (tgt := 143) hx hb dX7_noiseAt_139 (by decide) ?_
          exact hL143 v4 (z0 - x15) v3 _ _ _  hW hS (lv_sub hl [2, 3, 4, 6] rfl) h
      intro v3 v4 H locs ls hW hS hl h
      rw [f_X7_noiseAt_L5] at h
      refine lv_iload hx hb dX7_noiseAt_5 (lv_at hl 4 rfl) ?_
      refine lv_aload_n hx hb dX7_noiseAt_7 rfl (lv_at hl 0 rfl) ?_
      refine wd_getR CF hE hW fl_X7_7 sh_370 rf_370_0 rfl dX7_noiseAt_8 ?_
      refine lv_iload_n hx hb dX7_noiseAt_11 rfl (lv_at hl 1 rfl) ?_
      refine lv_bipush (v := 41) hx hb dX7_noiseAt_12 (by decide) ?_
      refine lv_iadd hx hb dX7_noiseAt_14 ?_
      obtain ⟨x1, ex1, h⟩ := bdE h
      refine wd_iald CF hE hW sh_371 ex1 dX7_noiseAt_15 ?_
      refine lv_icmp_ge (tgt := 151) hx hb dX7_noiseAt_16 (by decide) (fun c2 => ?_) (fun c2 => ?_)
      · rw [if_pos c2] at h
        refine lv_iload_n hx hb dX7_noiseAt_151 rfl (lv_at hl 3 rfl) ?_
        have h := Option.some.inj h
        subst h
        exact wd_iret CF hret hlk hW hS dX7_noiseAt_152
      · rw [if_neg c2] at h
        refine lv_iload hx hb dX7_noiseAt_19 (lv_at hl 4 rfl) ?_
        refine lv_iload_n hx hb dX7_noiseAt_21 rfl (lv_at hl 2 rfl) ?_
        refine lv_icmp_eq (tgt := 145) hx hb dX7_noiseAt_22 (by decide) (fun c3 => ?_) (fun c3 => ?_)
        · rw [if_pos c3] at h
          exact hL145 v3 v4 _ _ _  hW hS (lv_sub hl [0, 1, 2, 3, 4] rfl) h
        · rw [if_neg c3] at h
          refine lv_aload_n hx hb dX7_noiseAt_25 rfl (lv_at hl 0 rfl) ?_
          refine wd_getR CF hE hW fl_X7_7 sh_370 rf_370_0 rfl dX7_noiseAt_26 ?_
          refine lv_iload_n hx hb dX7_noiseAt_29 rfl (lv_at hl 1 rfl) ?_
          refine lv_bipush (v := 8) hx hb dX7_noiseAt_30 (by decide) ?_
          refine lv_iadd hx hb dX7_noiseAt_32 ?_
          refine lv_iload hx hb dX7_noiseAt_33 (lv_at hl 4 rfl) ?_
          refine lv_iadd hx hb dX7_noiseAt_35 ?_
          obtain ⟨x4, ex4, h⟩ := bdE h
          refine wd_iald CF hE hW sh_371 ex4 dX7_noiseAt_36 ?_
          refine lv_iconst (v := 1) hx hb dX7_noiseAt_37 (by decide) ?_
          refine lv_icmp_ne (tgt := 145) hx hb dX7_noiseAt_38 (by decide) (fun c5 => ?_) (fun c5 => ?_)
          · rw [if_neg c5] at h
            exact hL145 v3 v4 _ _ _  hW hS (lv_sub hl [0, 1, 2, 3, 4] rfl) h
          · rw [if_pos c5] at h
            refine lv_aload_n hx hb dX7_noiseAt_41 rfl (lv_at hl 0 rfl) ?_
            refine lv_iload_n hx hb dX7_noiseAt_42 rfl (lv_at hl 1 rfl) ?_
            refine lv_iload hx hb dX7_noiseAt_43 (lv_at hl 4 rfl) ?_
            obtain ⟨x6, ex6, h⟩ := bdE h
            refine wd_callVr (ci := 7) (k := 370) CF hE hW hS (x_X7_isOut l X a1 v4 D ex6) mi_X7_isOut vi_X7_isOut tw921 ⟨by decide, rfl⟩ sh_370 ⟨rfl, rfl, Nat.le_of_ble_eq_true rfl, Nat.le_of_ble_eq_true rfl⟩ rfl hl.1 rfl (Nat.le_of_ble_eq_true rfl) dX7_noiseAt_45 ⟨Nat.le_of_ble_eq_true rfl, Nat.le_of_ble_eq_true rfl⟩ (fun H locs hW hS => ?_)
            refine lv_if_ne (tgt := 145) hx hb dX7_noiseAt_48 (by decide) (fun c7 => ?_) (fun c7 => ?_)
            · rw [if_neg c7] at h
              exact hL145 v3 v4 _ _ _  hW hS (lv_sub hl [0, 1, 2, 3, 4] rfl) h
            · rw [if_pos c7] at h
              refine lv_aload_n hx hb dX7_noiseAt_51 rfl (lv_at hl 0 rfl) ?_
              refine wd_getR CF hE hW fl_X7_7 sh_370 rf_370_0 rfl dX7_noiseAt_52 ?_
              refine lv_iload_n hx hb dX7_noiseAt_55 rfl (lv_at hl 1 rfl) ?_
              refine lv_bipush (v := 42) hx hb dX7_noiseAt_56 (by decide) ?_
              refine lv_iadd hx hb dX7_noiseAt_58 ?_
              refine lv_iload hx hb dX7_noiseAt_59 (lv_at hl 4 rfl) ?_
              refine lv_iadd hx hb dX7_noiseAt_61 ?_
              obtain ⟨x8, ex8, h⟩ := bdE h
              refine wd_iald CF hE hW sh_371 ex8 dX7_noiseAt_62 ?_
              refine lv_iconst (v := 2) hx hb dX7_noiseAt_63 (by decide) ?_
              refine lv_icmp_ne (tgt := 84) hx hb dX7_noiseAt_64 (by decide) (fun c9 => ?_) (fun c9 => ?_)
              · rw [if_neg c9] at h
                refine lv_aload_n hx hb dX7_noiseAt_84 rfl (lv_at hl 0 rfl) ?_
                refine wd_getR CF hE hW fl_X7_7 sh_370 rf_370_0 rfl dX7_noiseAt_85 ?_
                refine lv_iload_n hx hb dX7_noiseAt_88 rfl (lv_at hl 1 rfl) ?_
                refine lv_bipush (v := 56) hx hb dX7_noiseAt_89 (by decide) ?_
                refine lv_iadd hx hb dX7_noiseAt_91 ?_
                refine lv_iload hx hb dX7_noiseAt_92 (lv_at hl 4 rfl) ?_
                refine lv_iadd hx hb dX7_noiseAt_94 ?_
                obtain ⟨x10, ex10, h⟩ := bdE h
                refine wd_iald CF hE hW sh_371 ex10 dX7_noiseAt_95 ?_
                exact hL96 v3 v4 x10 _ _ _  hW hS (lv_sub hl [0, 1, 2, 3, 4] rfl) h
              · rw [if_pos c9] at h
                refine lv_iconst (v := 2) hx hb dX7_noiseAt_67 (by decide) ?_
                refine lv_aload_n hx hb dX7_noiseAt_68 rfl (lv_at hl 0 rfl) ?_
                refine wd_getR CF hE hW fl_X7_7 sh_370 rf_370_0 rfl dX7_noiseAt_69 ?_
                refine lv_iload_n hx hb dX7_noiseAt_72 rfl (lv_at hl 1 rfl) ?_
                refine lv_bipush (v := 56) hx hb dX7_noiseAt_73 (by decide) ?_
                refine lv_iadd hx hb dX7_noiseAt_75 ?_
                refine lv_iload hx hb dX7_noiseAt_76 (lv_at hl 4 rfl) ?_
                refine lv_iadd hx hb dX7_noiseAt_78 ?_
                obtain ⟨x11, ex11, h⟩ := bdE h
                refine wd_iald CF hE hW sh_371 ex11 dX7_noiseAt_79 ?_
                refine lv_imul hx hb dX7_noiseAt_80 ?_
                refine lv_goto (tgt := 96) hx hb dX7_noiseAt_81 (by decide) ?_
                exact hL96 v3 v4 (2 * x11) _ _ _  hW hS (lv_sub hl [0, 1, 2, 3, 4] rfl) h
  refine lv_iconst (v := 0) hx hb dX7_noiseAt_0 (by decide) ?_
  refine lv_istore_n (lv' := [(3, .int 0), (0, .ref (X.2.2.1 + 370)), (1, .int a1), (2, .int a2)]) hx hb dX7_noiseAt_1 rfl hl (by decide) rfl (fun ls hl => ?_)
  refine lv_iconst (v := 0) hx hb dX7_noiseAt_2 (by decide) ?_
  refine lv_istore (lv' := [(4, .int 0), (3, .int 0), (0, .ref (X.2.2.1 + 370)), (1, .int a1), (2, .int a2)]) hx hb dX7_noiseAt_3 hl (by decide) rfl (fun ls hl => ?_)
  exact hL5 FU 0 0 _ _ _  hW hS (lv_sub hl [2, 3, 4, 1, 0] rfl) h
