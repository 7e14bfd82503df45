/-! X7_bears, X7_wakesUp, X7_weepsOn, X7_liesOn, X7_passes, X7_rolls, X7_thoseWho, X7_allSleep, X7_minds, X7_undo, X7_minutes, X7_hand, X7_carry, X7_swaps, X7_change, X7_lorry, X7_need, X7_child, X7_stand, X7_isSpan, X7_tries, X7_goesOn, X7_ahead, X7_noise, X7_asleep, X7_allAsleep, X7_dinner -/
def f_X7_bears (a1 : Int32) (a2 : Int32) (D : wd_D) : Option (Int32) := (rd 252 D 371 ((a1 + 42) + a2)).bind (fun x1 => (if x1 < 4 then (rd 252 D 371 ((a1 + 49) + a2)).bind (fun x3 => some x3) else (rd 252 D 371 ((a1 + 49) + a2)).bind (fun x4 => some (2 * x4))))
set_option maxHeartbeats 4000000 in
set_option maxRecDepth 100000 in
theorem x_X7_bears (l : Launch) (X : wd_X) (a1 : Int32) (a2 : Int32) (D : wd_D) {rv : Int32} (h : f_X7_bears a1 a2 D = some rv) : wd_Met l X yX7_bears cX7_bears 3 (some FieldType.int) ({ frames := 0, cells := 0, slots := 0, locals := 0 }) S0 S0 ([.ref (X.2.2.1 + 370), .int a1, .int a2] : List Value) D D (some (.int rv)) 0 0 := by
  refine wd_enter (by decide) (Nat.le_of_ble_eq_true rfl) ?_
  intro p e s m below meth c CF hret hlk hnm hW hE ls hl
  have CF : CallFix p m c cX7_bears 3 s ([.ref (X.2.2.1 + 370), .int a1, .int a2] : List Value).toArray tg RX7 := CF
  have hx := CF.1
  have hb := CF.2.1
  have hown := CF.2.2.2.1
  have hts := CF.2.2.2.2
  have hS : va_S (wd_A X) s.heap s.heap [] := va_S.rf
  have hl : lv_has ls 3 [(0, .ref (X.2.2.1 + 370)), (1, .int a1), (2, .int a2)] := hl
  unfold f_X7_bears at h
  refine lv_aload_n hx hb dX7_bears_0 rfl (lv_at hl 0 rfl) ?_
  refine wd_getR CF hE hW fl_X7_7 sh_370 rf_370_0 rfl dX7_bears_1 ?_
  refine lv_iload_n hx hb dX7_bears_4 rfl (lv_at hl 1 rfl) ?_
  refine lv_bipush (v := 42) hx hb dX7_bears_5 (by decide) ?_
  refine lv_iadd hx hb dX7_bears_7 ?_
  refine lv_iload_n hx hb dX7_bears_8 rfl (lv_at hl 2 rfl) ?_
  refine lv_iadd hx hb dX7_bears_9 ?_
  obtain ⟨x1, ex1, h⟩ := bdE h
  refine wd_iald CF hE hW sh_371 ex1 dX7_bears_10 ?_
  refine lv_iconst (v := 4) hx hb dX7_bears_11 (by decide) ?_
  refine lv_icmp_lt (tgt := 31) hx hb dX7_bears_12 (by decide) (fun c2 => ?_) (fun c2 => ?_)
  · rw [if_pos c2] at h
    refine lv_aload_n hx hb dX7_bears_31 rfl (lv_at hl 0 rfl) ?_
    refine wd_getR CF hE hW fl_X7_7 sh_370 rf_370_0 rfl dX7_bears_32 ?_
    refine lv_iload_n hx hb dX7_bears_35 rfl (lv_at hl 1 rfl) ?_
    refine lv_bipush (v := 49) hx hb dX7_bears_36 (by decide) ?_
    refine lv_iadd hx hb dX7_bears_38 ?_
    refine lv_iload_n hx hb dX7_bears_39 rfl (lv_at hl 2 rfl) ?_
    refine lv_iadd hx hb dX7_bears_40 ?_
    obtain ⟨x3, ex3, h⟩ := bdE h
    refine wd_iald CF hE hW sh_371 ex3 dX7_bears_41 ?_
    have h := Option.some.inj h
    subst h
    exact wd_iret CF hret hlk hW hS dX7_bears_42
  · rw [if_neg c2] at h
    refine lv_iconst (v := 2) hx hb dX7_bears_15 (by decide) ?_
    refine lv_aload_n hx hb dX7_bears_16 rfl (lv_at hl 0 rfl) ?_
    refine wd_getR CF hE hW fl_X7_7 sh_370 rf_370_0 rfl dX7_bears_17 ?_
    refine lv_iload_n hx hb dX7_bears_20 rfl (lv_at hl 1 rfl) ?_
    refine lv_bipush (v := 49) hx hb dX7_bears_21 (by decide) ?_
    refine lv_iadd hx hb dX7_bears_23 ?_
    refine lv_iload_n hx hb dX7_bears_24 rfl (lv_at hl 2 rfl) ?_
    refine lv_iadd hx hb dX7_bears_25 ?_
    obtain ⟨x4, ex4, h⟩ := bdE h
    refine wd_iald CF hE hW sh_371 ex4 dX7_bears_26 ?_
    refine lv_imul hx hb dX7_bears_27 ?_
    refine lv_goto (tgt := 42) hx hb dX7_bears_28 (by decide) ?_
    have h := Option.some.inj h
    subst h
    exact wd_iret CF hret hlk hW hS dX7_bears_42
def f_X7_wakesUp_L68  (a1 : Int32) (a2 : Int32) (z0 : Int32) (z1 : Int32) (D : wd_D) : Option (wd_D) := (wr 252 D 371 z1 z0).bind (fun D7 => (wr 252 D7 371 ((a1 + 22) + a2) 0).bind (fun D8 => some D8))
def f_X7_wakesUp_L40  (a1 : Int32) (a2 : Int32) (v3 : Int32) (z0 : Int32) (z1 : Int32) (D : wd_D) : Option (wd_D) := (wr 252 D 371 z1 z0).bind (fun D4 => (if v3 = 0 then (rd 252 D4 371 (a1 + 40)).bind (fun x6 => f_X7_wakesUp_L68 a1 a2 x6 ((a1 + 15) + a2) D4) else f_X7_wakesUp_L68 a1 a2 0 ((a1 + 15) + a2) D4))
def f_X7_wakesUp_L20  (a1 : Int32) (a2 : Int32) (z0 : Int32) (D : wd_D) : Option (wd_D) := (if z0 = 0 then f_X7_wakesUp_L40 a1 a2 z0 1 ((a1 + 8) + a2) D else f_X7_wakesUp_L40 a1 a2 z0 0 ((a1 + 8) + a2) D)
def f_X7_wakesUp (a1 : Int32) (a2 : Int32) (D : wd_D) : Option (wd_D) := (rd 252 D 371 ((a1 + 42) + a2)).bind (fun x1 => (if x1 = 5 then f_X7_wakesUp_L20 a1 a2 1 D else f_X7_wakesUp_L20 a1 a2 0 D))
set_option maxHeartbeats 4000000 in
set_option maxRecDepth 100000 in
theorem x_X7_wakesUp (l : Launch) (X : wd_X) (a1 : Int32) (a2 : Int32) (D : wd_D) {qv : wd_D} (h : f_X7_wakesUp a1 a2 D = some qv) : wd_Met l X yX7_wakesUp cX7_wakesUp 4 (none : Option FieldType) ({ frames := 0, cells := 0, slots := 0, locals := 0 }) S0 S0 ([.ref (X.2.2.1 + 370), .int a1, .int a2] : List Value) D qv none 0 0 := by
  refine wd_enter (by decide) (Nat.le_of_ble_eq_true rfl) ?_
  intro p e s m below meth c CF hret hlk hnm hW hE ls hl
  have CF : CallFix p m c cX7_wakesUp 4 s ([.ref (X.2.2.1 + 370), .int a1, .int a2] : List Value).toArray tg RX7 := CF
  have hx := CF.1
  have hb := CF.2.1
  have hown := CF.2.2.2.1
  have hts := CF.2.2.2.2
  have hS : va_S (wd_A X) s.heap s.heap [] := va_S.rf
  have hl : lv_has ls 4 [(0, .ref (X.2.2.1 + 370)), (1, .int a1), (2, .int a2)] := hl
  unfold f_X7_wakesUp at h
  have hL68 : ∀ (z0 : Int32) (z1 : Int32) (D : wd_D) (H : Heap) (locs : List Loc) (ls : Array Slot), Wd X S0 D H → va_S (wd_A X) s.heap H locs → lv_has ls 4 [(0, .ref (X.2.2.1 + 370)), (1, .int a1), (2, .int a2)] → f_X7_wakesUp_L68 a1 a2 z0 z1 D = some qv → W p l e ({ frames := 0, cells := 0, slots := 0, locals := 0 }) s m ([.ref (X.2.2.1 + 370), .int a1, .int a2] : List Value).toArray below meth c H locs 0 0 (MQ below (wd_Q X S0 qv none) ([.ref (X.2.2.1 + 370), .int a1, .int a2] : List Value).toArray s 0 0 (wd_A X)) (F0 m 68 ls [.int z0, .int z1, .ref (X.2.2.1 + 371)]) := by
    intro z0 z1 D H locs ls hW hS hl h
    unfold f_X7_wakesUp_L68 at h
    obtain ⟨D7, eD7, h⟩ := bdE h
    refine wd_iast CF hE hW hS sh_371 eD7 dX7_wakesUp_68 (fun H locs hW hS => ?_)
    refine lv_aload_n hx hb dX7_wakesUp_69 rfl (lv_at hl 0 rfl) ?_
    refine wd_getR CF hE hW fl_X7_7 sh_370 rf_370_0 rfl dX7_wakesUp_70 ?_
    refine lv_iload_n hx hb dX7_wakesUp_73 rfl (lv_at hl 1 rfl) ?_
    refine lv_bipush (v := 22) hx hb dX7_wakesUp_74 (by decide) ?_
    refine lv_iadd hx hb dX7_wakesUp_76 ?_
    refine lv_iload_n hx hb dX7_wakesUp_77 rfl (lv_at hl 2 rfl) ?_
    refine lv_iadd hx hb dX7_wakesUp_78 ?_
    refine lv_iconst (v := 0) hx hb dX7_wakesUp_79 (by decide) ?_
    obtain ⟨D8, eD8, h⟩ := bdE h
    refine wd_iast CF hE hW hS sh_371 eD8 dX7_wakesUp_80 (fun H locs hW hS => ?_)
    have h := Option.some.inj h
    subst h
    exact wd_vret CF hret hlk hW hS dX7_wakesUp_81
  have hL40 : ∀ (v3 : Int32) (z0 : Int32) (z1 : Int32) (D : wd_D) (H : Heap) (locs : List Loc) (ls : Array Slot), Wd X S0 D H → va_S (wd_A X) s.heap H locs → lv_has ls 4 [(0, .ref (X.2.2.1 + 370)), (1, .int a1), (2, .int a2), (3, .int v3)] → f_X7_wakesUp_L40 a1 a2 v3 z0 z1 D = some qv → W p l e ({ frames := 0, cells := 0, slots := 0, locals := 0 }) s m ([.ref (X.2.2.1 + 370), .int a1, .int a2] : List Value).toArray below meth c H locs 0 0 (MQ below (wd_Q X S0 qv none) ([.ref (X.2.2.1 + 370), .int a1, .int a2] : List Value).toArray s 0 0 (wd_A X)) (F0 m 40 ls [.int z0, .int z1, .ref (X.2.2.1 + 371)]) := by
    intro v3 z0 z1 D H locs ls hW hS hl h
    unfold f_X7_wakesUp_L40 at h
    obtain ⟨D4, eD4, h⟩ := bdE h
    refine wd_iast CF hE hW hS sh_371 eD4 dX7_wakesUp_40 (fun H locs hW hS => ?_)
    refine lv_aload_n hx hb dX7_wakesUp_41 rfl (lv_at hl 0 rfl) ?_
    refine wd_getR CF hE hW fl_X7_7 sh_370 rf_370_0 rfl dX7_wakesUp_42 ?_
    refine lv_iload_n hx hb dX7_wakesUp_45 rfl (lv_at hl 1 rfl) ?_
    refine lv_bipush (v := 15) hx hb dX7_wakesUp_46 (by decide) ?_
    refine lv_iadd hx hb dX7_wakesUp_48 ?_
    refine lv_iload_n hx hb dX7_wakesUp_49 rfl (lv_at hl 2 rfl) ?_
    refine lv_iadd hx hb dX7_wakesUp_50 ?_
    refine lv_iload_n hx hb dX7_wakesUp_51 rfl (lv_at hl 3 rfl) ?_
    refine lv_if_eq (tgt := 59) hx hb dX7_wakesUp_52 (by decide) (fun c5 => ?_) (fun c5 => ?_)
    · rw [if_pos c5] at h
      refine lv_aload_n hx hb dX7_wakesUp_59 rfl (lv_at hl 0 rfl) ?_
      refine wd_getR CF hE hW fl_X7_7 sh_370 rf_370_0 rfl dX7_wakesUp_60 ?_
      refine lv_iload_n hx hb dX7_wakesUp_63 rfl (lv_at hl 1 rfl) ?_
      refine lv_bipush (v := 40) hx hb dX7_wakesUp_64 (by decide) ?_
      refine lv_iadd hx hb dX7_wakesUp_66 ?_
      obtain ⟨x6, ex6, h⟩ := bdE h
      refine wd_iald CF hE hW sh_371 ex6 dX7_wakesUp_67 ?_
      exact hL68 x6 ((a1 + 15) + a2) D4 _ _ _  hW hS (lv_sub hl [0, 1, 2] rfl) h
    · rw [if_neg c5] at h
      refine lv_iconst (v := 0) hx hb dX7_wakesUp_55 (by decide) ?_
      refine lv_goto (tgt := 68) hx hb dX7_wakesUp_56 (by decide) ?_
      exact hL68 0 ((a1 + 15) + a2) D4 _ _ _  hW hS (lv_sub hl [0, 1, 2] rfl) h
  have hL20 : ∀ (z0 : Int32) (D : wd_D) (H : Heap) (locs : List Loc) (ls : Array Slot), Wd X S0 D H → va_S (wd_A X) s.heap H locs → lv_has ls 4 [(0, .ref (X.2.2.1 + 370)), (1, .int a1), (2, .int a2)] → f_X7_wakesUp_L20 a1 a2 z0 D = some qv → W p l e ({ frames := 0, cells := 0, slots := 0, locals := 0 }) s m ([.ref (X.2.2.1 + 370), .int a1, .int a2] : List Value).toArray below meth c H locs 0 0 (MQ below (wd_Q X S0 qv none) ([.ref (X.2.2.1 + 370), .int a1, .int a2] : List Value).toArray s 0 0 (wd_A X)) (F0 m 20 ls [.int z0]) := by
    intro z0 D H locs ls hW hS hl h
    unfold f_X7_wakesUp_L20 at h
    refine lv_istore_n (lv' := [(3, .int z0), (0, .ref (X.2.2.1 + 370)), (1, .int a1), (2, .int a2)]) hx hb dX7_wakesUp_20 rfl hl (by decide) rfl (fun ls hl => ?_)
    refine lv_aload_n hx hb dX7_wakesUp_21 rfl (lv_at hl 1 rfl) ?_
    refine wd_getR CF hE hW fl_X7_7 sh_370 rf_370_0 rfl dX7_wakesUp_22 ?_
    refine lv_iload_n hx hb dX7_wakesUp_25 rfl (lv_at hl 2 rfl) ?_
    refine lv_bipush (v := 8) hx hb dX7_wakesUp_26 (by decide) ?_
    refine lv_iadd hx hb dX7_wakesUp_28 ?_
    refine lv_iload_n hx hb dX7_wakesUp_29 rfl (lv_at hl 3 rfl) ?_
    refine lv_iadd hx hb dX7_wakesUp_30 ?_
    refine lv_iload_n hx hb dX7_wakesUp_31 rfl (lv_at hl 0 rfl) ?_
    refine lv_if_eq (tgt := 39) hx hb dX7_wakesUp_32 (by decide) (fun c3 => ?_) (fun c3 => ?_)
    · rw [if_pos c3] at h
      refine lv_iconst (v := 1) hx hb dX7_wakesUp_39 (by decide) ?_
      exact hL40 z0 1 ((a1 + 8) + a2) D _ _ _  hW hS (lv_sub hl [1, 2, 3, 0] rfl) h
    · rw [if_neg c3] at h
      refine lv_iconst (v := 0) hx hb dX7_wakesUp_35 (by decide) ?_
      refine lv_goto (tgt := 40) hx hb dX7_wakesUp_36 (by decide) ?_
      exact hL40 z0 0 ((a1 + 8) + a2) D _ _ _  hW hS (lv_sub hl [1, 2, 3, 0] rfl) h
  refine lv_aload_n hx hb dX7_wakesUp_0 rfl (lv_at hl 0 rfl) ?_
  refine wd_getR CF hE hW fl_X7_7 sh_370 rf_370_0 rfl dX7_wakesUp_1 ?_
  refine lv_iload_n hx hb dX7_wakesUp_4 rfl (lv_at hl 1 rfl) ?_
  refine lv_bipush (v := 42) hx hb dX7_wakesUp_5 (by decide) ?_
  refine lv_iadd hx hb dX7_wakesUp_7 ?_
  refine lv_iload_n hx hb dX7_wakesUp_8 rfl (lv_at hl 2 rfl) ?_
  refine lv_iadd hx hb dX7_wakesUp_9 ?_
  obtain ⟨x1, ex1, h⟩ := bdE h
  refine wd_iald CF hE hW sh_371 ex1 dX7_wakesUp_10 ?_
  refine lv_iconst (v := 5) hx hb dX7_wakesUp_11 (by decide) ?_
  refine lv_icmp_ne (tgt := 19) hx hb dX7_wakesUp_12 (by decide) (fun c2 => ?_) (fun c2 => ?_)
  · rw [if_neg c2] at h
    refine lv_iconst (v := 0) hx hb dX7_wakesUp_19 (by decide) ?_
    exact hL20 0 D _ _ _  hW hS (lv_sub hl [0, 1, 2] rfl) h
  · rw [if_pos c2] at h
    refine lv_iconst (v := 1) hx hb dX7_wakesUp_15 (by decide) ?_
    refine lv_goto (tgt := 20) hx hb dX7_wakesUp_16 (by decide) ?_
    exact hL20 1 D _ _ _  hW hS (lv_sub hl [0, 1, 2] rfl) h
def f_X7_weepsOn (a1 : Int32) (a2 : Int32) (a3 : Int32) (D : wd_D) : Option (wd_D) := (rd 252 D 371 ((a1 + 15) + a2)).bind (fun x1 => (wr 252 D 371 ((a1 + 15) + a2) (x1 - a3)).bind (fun D2 => (rd 252 D2 371 ((a1 + 15) + a2)).bind (fun x3 => (if 0 < x3 then some D2 else (wr 252 D2 371 ((a1 + 15) + a2) 0).bind (fun D5 => (wr 252 D5 371 ((a1 + 8) + a2) 0).bind (fun D6 => (wr 252 D6 371 ((a1 + 22) + a2) 0).bind (fun D7 => some D7)))))))
set_option maxHeartbeats 4000000 in
set_option maxRecDepth 100000 in
theorem x_X7_weepsOn (l : Launch) (X : wd_X) (a1 : Int32) (a2 : Int32) (a3 : Int32) (D : wd_D) {qv : wd_D} (h : f_X7_weepsOn a1 a2 a3 D = some qv) : wd_Met l X yX7_weepsOn cX7_weepsOn 4 (none : Option FieldType) ({ frames := 0, cells := 0, slots := 0, locals := 0 }) S0 S0 ([.ref (X.2.2.1 + 370), .int a1, .int a2, .int a3] : List Value) D qv none 0 0 := by
  refine wd_enter (by decide) (Nat.le_of_ble_eq_true rfl) ?_
  intro p e s m below meth c CF hret hlk hnm hW hE ls hl
  have CF : CallFix p m c cX7_weepsOn 4 s ([.ref (X.2.2.1 + 370), .int a1, .int a2, .int a3] : List Value).toArray tg RX7 := CF
  have hx := CF.1
  have hb := CF.2.1
  have hown := CF.2.2.2.1
  have hts := CF.2.2.2.2
  have hS : va_S (wd_A X) s.heap s.heap [] := va_S.rf
  have hl : lv_has ls 4 [(0, .ref (X.2.2.1 + 370)), (1, .int a1), (2, .int a2), (3, .int a3)] := hl
  unfold f_X7_weepsOn at h
  refine lv_aload_n hx hb dX7_weepsOn_0 rfl (lv_at hl 0 rfl) ?_
  refine wd_getR CF hE hW fl_X7_7 sh_370 rf_370_0 rfl dX7_weepsOn_1 ?_
  refine lv_iload_n hx hb dX7_weepsOn_4 rfl (lv_at hl 1 rfl) ?_
  refine lv_bipush (v := 15) hx hb dX7_weepsOn_5 (by decide) ?_
  refine lv_iadd hx hb dX7_weepsOn_7 ?_
  refine lv_iload_n hx hb dX7_weepsOn_8 rfl (lv_at hl 2 rfl) ?_
  refine lv_iadd hx hb dX7_weepsOn_9 ?_
  refine lv_dup2_11 hx hb dX7_weepsOn_10 rfl rfl ?_
  obtain ⟨x1, ex1, h⟩ := bdE h
  refine wd_iald CF hE hW sh_371 ex1 dX7_weepsOn_11 ?_
  refine lv_iload_n hx hb dX7_weepsOn_12 rfl (lv_at hl 3 rfl) ?_
  refine lv_isub hx hb dX7_weepsOn_13 ?_
  obtain ⟨D2, eD2, h⟩ := bdE h
  refine wd_iast CF hE hW hS sh_371 eD2 dX7_weepsOn_14 (fun H locs hW hS => ?_)
  refine lv_aload_n hx hb dX7_weepsOn_15 rfl (lv_at hl 0 rfl) ?_
  refine wd_getR CF hE hW fl_X7_7 sh_370 rf_370_0 rfl dX7_weepsOn_16 ?_
  refine lv_iload_n hx hb dX7_weepsOn_19 rfl (lv_at hl 1 rfl) ?_
  refine lv_bipush (v := 15) hx hb dX7_weepsOn_20 (by decide) ?_
  refine lv_iadd hx hb dX7_weepsOn_22 ?_
  refine lv_iload_n hx hb dX7_weepsOn_23 rfl (lv_at hl 2 rfl) ?_
  refine lv_iadd hx hb dX7_weepsOn_24 ?_
  obtain ⟨x3, ex3, h⟩ := bdE h
  refine wd_iald CF hE hW sh_371 ex3 dX7_weepsOn_25 ?_
  refine lv_if_gt (tgt := 65) hx hb dX7_weepsOn_26 (by decide) (fun c4 => ?_) (fun c4 => ?_)
  · rw [if_pos c4] at h
    have h := Option.some.inj h
    subst h
    exact wd_vret CF hret hlk hW hS dX7_weepsOn_65
  · rw [if_neg c4] at h
    refine lv_aload_n hx hb dX7_weepsOn_29 rfl (lv_at hl 0 rfl) ?_
    refine wd_getR CF hE hW fl_X7_7 sh_370 rf_370_0 rfl dX7_weepsOn_30 ?_
    refine lv_iload_n hx hb dX7_weepsOn_33 rfl (lv_at hl 1 rfl) ?_
    refine lv_bipush (v := 15) hx hb dX7_weepsOn_34 (by decide) ?_
    refine lv_iadd hx hb dX7_weepsOn_36 ?_
    refine lv_iload_n hx hb dX7_weepsOn_37 rfl (lv_at hl 2 rfl) ?_
    refine lv_iadd hx hb dX7_weepsOn_38 ?_
    refine lv_iconst (v := 0) hx hb dX7_weepsOn_39 (by decide) ?_
    obtain ⟨D5, eD5, h⟩ := bdE h
    refine wd_iast CF hE hW hS sh_371 eD5 dX7_weepsOn_40 (fun H locs hW hS => ?_)
    refine lv_aload_n hx hb dX7_weepsOn_41 rfl (lv_at hl 0 rfl) ?_
    refine wd_getR CF hE hW fl_X7_7 sh_370 rf_370_0 rfl dX7_weepsOn_42 ?_
    refine lv_iload_n hx hb dX7_weepsOn_45 rfl (lv_at hl 1 rfl) ?_
    refine lv_bipush (v := 8) hx hb dX7_weepsOn_46 (by decide) ?_
    refine lv_iadd hx hb dX7_weepsOn_48 ?_
    refine lv_iload_n hx hb dX7_weepsOn_49 rfl (lv_at hl 2 rfl) ?_
    refine lv_iadd hx hb dX7_weepsOn_50 ?_
    refine lv_iconst (v := 0) hx hb dX7_weepsOn_51 (by decide) ?_
    obtain ⟨D6, eD6, h⟩ := bdE h
    refine wd_iast CF hE hW hS sh_371 eD6 dX7_weepsOn_52 (fun H locs hW hS => ?_)
    refine lv_aload_n hx hb dX7_weepsOn_53 rfl (lv_at hl 0 rfl) ?_
    refine wd_getR CF hE hW fl_X7_7 sh_370 rf_370_0 rfl dX7_weepsOn_54 ?_
    refine lv_iload_n hx hb dX7_weepsOn_57 rfl (lv_at hl 1 rfl) ?_
    refine lv_bipush (v := 22) hx hb dX7_weepsOn_58 (by decide) ?_
    refine lv_iadd hx hb dX7_weepsOn_60 ?_
    refine lv_iload_n hx hb dX7_weepsOn_61 rfl (lv_at hl 2 rfl) ?_
    refine lv_iadd hx hb dX7_weepsOn_62 ?_
    refine lv_iconst (v := 0) hx hb dX7_weepsOn_63 (by decide) ?_
    obtain ⟨D7, eD7, h⟩ := bdE h
    refine wd_iast CF hE hW hS sh_371 eD7 dX7_weepsOn_64 (fun H locs hW hS => ?_)
    have h := Option.some.inj h
    subst h
    exact wd_vret CF hret hlk hW hS dX7_weepsOn_65
def f_X7_liesOn_L78  (a1 : Int32) (a2 : Int32) (a3 : Int32) (z0 : Int32) (z1 : Int32) (D : wd_D) : Option (wd_D) := (wr 252 D 371 z1 z0).bind (fun D8 => (rd 252 D8 371 ((a1 + 22) + a2)).bind (fun x9 => (rd 252 D8 371 ((a1 + 1) + a2)).bind (fun x10 => (if x9 < x10 then some D8 else (wr 252 D8 371 ((a1 + 8) + a2) 2).bind (fun D12 => some D12)))))
def f_X7_liesOn_L44  (a1 : Int32) (a2 : Int32) (a3 : Int32) (z0 : Int32) (D : wd_D) : Option (wd_D) := (if a3 = 0 then (rd 252 D 371 ((a1 + 22) + a2)).bind (fun x7 => f_X7_liesOn_L78 a1 a2 a3 (x7 + z0) ((a1 + 22) + a2) D) else f_X7_liesOn_L78 a1 a2 a3 0 ((a1 + 22) + a2) D)
def f_X7_liesOn (a1 : Int32) (a2 : Int32) (a3 : Int32) (D : wd_D) : Option (wd_D) := (rd 252 D 371 (a1 + 37)).bind (fun x1 => ap (f_X7_has x1 a2) (fun x2 => (if x2 = 0 then (rd 252 D 371 ((a1 + 42) + a2)).bind (fun x4 => (if x4 = 3 then f_X7_liesOn_L44 a1 a2 a3 0 D else f_X7_liesOn_L44 a1 a2 a3 1 D)) else f_X7_liesOn_L44 a1 a2 a3 2 D)))
set_option maxHeartbeats 4000000 in
set_option maxRecDepth 100000 in
theorem x_X7_liesOn (l : Launch) (X : wd_X) (a1 : Int32) (a2 : Int32) (a3 : Int32) (D : wd_D) {qv : wd_D} (h : f_X7_liesOn a1 a2 a3 D = some qv) : wd_Met l X yX7_liesOn cX7_liesOn 6 (none : Option FieldType) ({ frames := 1, cells := 0, slots := 0, locals := 100 }) S0 S0 ([.ref (X.2.2.1 + 370), .int a1, .int a2, .int a3] : List Value) D qv none 0 0 := by
  refine wd_enter (by decide) (Nat.le_of_ble_eq_true rfl) ?_
  intro p e s m below meth c CF hret hlk hnm hW hE ls hl
  have CF : CallFix p m c cX7_liesOn 6 s ([.ref (X.2.2.1 + 370), .int a1, .int a2, .int a3] : List Value).toArray tg RX7 := CF
  have hx := CF.1
  have hb := CF.2.1
  have hown := CF.2.2.2.1
  have hts := CF.2.2.2.2
  have hS : va_S (wd_A X) s.heap s.heap [] := va_S.rf
  have hl : lv_has ls 6 [(0, .ref (X.2.2.1 + 370)), (1, .int a1), (2, .int a2), (3, .int a3)] := hl
  unfold f_X7_liesOn at h
  have hL78 : ∀ (z0 : Int32) (z1 : Int32) (D : wd_D) (H : Heap) (locs : List Loc) (ls : Array Slot), Wd X S0 D H → va_S (wd_A X) s.heap H locs → lv_has ls 6 [(0, .ref (X.2.2.1 + 370)), (1, .int a1), (2, .int a2)] → f_X7_liesOn_L78 a1 a2 a3 z0 z1 D = some qv → W p l e ({ frames := 1, cells := 0, slots := 0, locals := 100 }) s m ([.ref (X.2.2.1 + 370), .int a1, .int a2, .int a3] : List Value).toArray below meth c H locs 0 0 (MQ below (wd_Q X S0 qv none) ([.ref (X.2.2.1 + 370), .int a1, .int a2, .int a3] : List Value).toArray s 0 0 (wd_A X)) (F0 m 78 ls [.int z0, .int z1, .ref (X.2.2.1 + 371)]) := by
    intro z0 z1 D H locs ls hW hS hl h
    unfold f_X7_liesOn_L78 at h
    obtain ⟨D8, eD8, h⟩ := bdE h
    refine wd_iast CF hE hW hS sh_371 eD8 dX7_liesOn_78 (fun H locs hW hS => ?_)
    refine lv_aload_n hx hb dX7_liesOn_79 rfl (lv_at hl 0 rfl) ?_
    refine wd_getR CF hE hW fl_X7_7 sh_370 rf_370_0 rfl dX7_liesOn_80 ?_
    refine lv_iload_n hx hb dX7_liesOn_83 rfl (lv_at hl 1 rfl) ?_
    refine lv_bipush (v := 22) hx hb dX7_liesOn_84 (by decide) ?_
    refine lv_iadd hx hb dX7_liesOn_86 ?_
    refine lv_iload_n hx hb dX7_liesOn_87 rfl (lv_at hl 2 rfl) ?_
    refine lv_iadd hx hb dX7_liesOn_88 ?_
    obtain ⟨x9, ex9, h⟩ := bdE h
    refine wd_iald CF hE hW sh_371 ex9 dX7_liesOn_89 ?_
    refine lv_aload_n hx hb dX7_liesOn_90 rfl (lv_at hl 0 rfl) ?_
    refine wd_getR CF hE hW fl_X7_7 sh_370 rf_370_0 rfl dX7_liesOn_91 ?_
    refine lv_iload_n hx hb dX7_liesOn_94 rfl (lv_at hl 1 rfl) ?_
    refine lv_iconst (v := 1) hx hb dX7_liesOn_95 (by decide) ?_
    refine lv_iadd hx hb dX7_liesOn_96 ?_
    refine lv_iload_n hx hb dX7_liesOn_97 rfl (lv_at hl 2 rfl) ?_
    refine lv_iadd hx hb dX7_liesOn_98 ?_
    obtain ⟨x10, ex10, h⟩ := bdE h
    refine wd_iald CF hE hW sh_371 ex10 dX7_liesOn_99 ?_
    refine lv_icmp_lt (tgt := 115) hx hb dX7_liesOn_100 (by decide) (fun c11 => ?_) (fun c11 => ?_)
    · rw [if_pos c11] at h
      have h := Option.some.inj h
      subst h
      exact wd_vret CF hret hlk hW hS dX7_liesOn_115
    · rw [if_neg c11] at h
      refine lv_aload_n hx hb dX7_liesOn_103 rfl (lv_at hl 0 rfl) ?_
      refine wd_getR CF hE hW fl_X7_7 sh_370 rf_370_0 rfl dX7_liesOn_104 ?_
      refine lv_iload_n hx hb dX7_liesOn_107 rfl (lv_at hl 1 rfl) ?_
      refine lv_bipush (v := 8) hx hb dX7_liesOn_108 (by decide) ?_
      refine lv_iadd hx hb dX7_liesOn_110 ?_
      refine lv_iload_n hx hb dX7_liesOn_111 rfl (lv_at hl 2 rfl) ?_
      refine lv_iadd hx hb dX7_liesOn_112 ?_
      refine lv_iconst (v := 2) hx hb dX7_liesOn_113 (by decide) ?_
      obtain ⟨D12, eD12, h⟩ := bdE h
      refine wd_iast CF hE hW hS sh_371 eD12 dX7_liesOn_114 (fun H locs hW hS => ?_)
      have h := Option.some.inj h
      subst h
      exact wd_vret CF hret hlk hW hS dX7_liesOn_115
  have hL44 : ∀ (z0 : Int32) (D : wd_D) (H : Heap) (locs : List Loc) (ls : Array Slot), Wd X S0 D H → va_S (wd_A X) s.heap H locs → lv_has ls 6 [(0, .ref (X.2.2.1 + 370)), (1, .int a1), (2, .int a2), (3, .int a3)] → f_X7_liesOn_L44 a1 a2 a3 z0 D = some qv → W p l e ({ frames := 1, cells := 0, slots := 0, locals := 100 }) s m ([.ref (X.2.2.1 + 370), .int a1, .int a2, .int a3] : List Value).toArray below meth c H locs 0 0 (MQ below (wd_Q X S0 qv none) ([.ref (X.2.2.1 + 370), .int a1, .int a2, .int a3] : List Value).toArray s 0 0 (wd_A X)) (F0 m 44 ls [.int z0]) := by
    intro z0 D H locs ls hW hS hl h
    unfold f_X7_liesOn_L44 at h
    refine lv_istore (lv' := [(5, .int z0), (0, .ref (X.2.2.1 + 370)), (1, .int a1), (2, .int a2), (3, .int a3)]) hx hb dX7_liesOn_44 hl (by decide) rfl (fun ls hl => ?_)
    refine lv_aload_n hx hb dX7_liesOn_46 rfl (lv_at hl 1 rfl) ?_
    refine wd_getR CF hE hW fl_X7_7 sh_370 rf_370_0 rfl dX7_liesOn_47 ?_
    refine lv_iload_n hx hb dX7_liesOn_50 rfl (lv_at hl 2 rfl) ?_
    refine lv_bipush (v := 22) hx hb dX7_liesOn_51 (by decide) ?_
    refine lv_iadd hx hb dX7_liesOn_53 ?_
    refine lv_iload_n hx hb dX7_liesOn_54 rfl (lv_at hl 3 rfl) ?_
    refine lv_iadd hx hb dX7_liesOn_55 ?_
    refine lv_iload_n hx hb dX7_liesOn_56 rfl (lv_at hl 4 rfl) ?_
    refine lv_if_eq (tgt := 64) hx hb dX7_liesOn_57 (by decide) (fun c6 => ?_) (fun c6 => ?_)
    · rw [if_pos c6] at h
      refine lv_aload_n hx hb dX7_liesOn_64 rfl (lv_at hl 1 rfl) ?_
      refine wd_getR CF hE hW fl_X7_7 sh_370 rf_370_0 rfl dX7_liesOn_65 ?_
      refine lv_iload_n hx hb dX7_liesOn_68 rfl (lv_at hl 2 rfl) ?_
      refine lv_bipush (v := 22) hx hb dX7_liesOn_69 (by decide) ?_
      refine lv_iadd hx hb dX7_liesOn_71 ?_
      refine lv_iload_n hx hb dX7_liesOn_72 rfl (lv_at hl 3 rfl) ?_
      refine lv_iadd hx hb dX7_liesOn_73 ?_
      obtain ⟨x7, ex7, h⟩ := bdE h
      refine wd_iald CF hE hW sh_371 ex7 dX7_liesOn_74 ?_
      refine lv_iload hx hb dX7_liesOn_75 (lv_at hl 0 rfl) ?_
      refine lv_iadd hx hb dX7_liesOn_77 ?_
      exact hL78 (x7 + z0) ((a1 + 22) + a2) D _ _ _  hW hS (lv_sub hl [1, 2, 3] rfl) h
    · rw [if_neg c6] at h
      refine lv_iconst (v := 0) hx hb dX7_liesOn_60 (by decide) ?_
      refine lv_goto (tgt := 78) hx hb dX7_liesOn_61 (by decide) ?_
      exact hL78 0 ((a1 + 22) + a2) D _ _ _  hW hS (lv_sub hl [1, 2, 3] rfl) h
  refine lv_aload_n hx hb dX7_liesOn_0 rfl (lv_at hl 0 rfl) ?_
  refine wd_getR CF hE hW fl_X7_7 sh_370 rf_370_0 rfl dX7_liesOn_1 ?_
  refine lv_iload_n hx hb dX7_liesOn_4 rfl (lv_at hl 1 rfl) ?_
  refine lv_bipush (v := 37) hx hb dX7_liesOn_5 (by decide) ?_
  refine lv_iadd hx hb dX7_liesOn_7 ?_
  obtain ⟨x1, ex1, h⟩ := bdE h
  refine wd_iald CF hE hW sh_371 ex1 dX7_liesOn_8 ?_
  refine lv_iload_n hx hb dX7_liesOn_9 rfl (lv_at hl 2 rfl) ?_
  refine wd_callSr CF hE hW hS (x_X7_has l X x1 a2 D) mi_X7_has vi_X7_has tw925 ⟨rfl, rfl, Nat.le_of_ble_eq_true rfl, Nat.le_of_ble_eq_true rfl⟩ rfl hl.1 rfl (Nat.le_of_ble_eq_true rfl) dX7_liesOn_10 ⟨Nat.le_of_ble_eq_true rfl, Nat.le_of_ble_eq_true rfl⟩ (fun H locs hW hS => ?_)
  refine lv_topi (fun x2 ex2 => ?_)
  replace h := apR ex2 h
  refine lv_istore (lv' := [(4, .int x2), (0, .ref (X.2.2.1 + 370)), (1, .int a1), (2, .int a2), (3, .int a3)]) hx hb dX7_liesOn_13 hl (by decide) rfl (fun ls hl => ?_)
  refine lv_iload hx hb dX7_liesOn_15 (lv_at hl 0 rfl) ?_
  refine lv_if_eq (tgt := 24) hx hb dX7_liesOn_17 (by decide) (fun c3 => ?_) (fun c3 => ?_)
  · rw [if_pos c3] at h
    refine lv_aload_n hx hb dX7_liesOn_24 rfl (lv_at hl 1 rfl) ?_
    refine wd_getR CF hE hW fl_X7_7 sh_370 rf_370_0 rfl dX7_liesOn_25 ?_
    refine lv_iload_n hx hb dX7_liesOn_28 rfl (lv_at hl 2 rfl) ?_
    refine lv_bipush (v := 42) hx hb dX7_liesOn_29 (by decide) ?_
    refine lv_iadd hx hb dX7_liesOn_31 ?_
    refine lv_iload_n hx hb dX7_liesOn_32 rfl (lv_at hl 3 rfl) ?_
    refine lv_iadd hx hb dX7_liesOn_33 ?_
    obtain ⟨x4, ex4, h⟩ := bdE h
    refine wd_iald CF hE hW sh_371 ex4 dX7_liesOn_34 ?_
    refine lv_iconst (v := 3) hx hb dX7_liesOn_35 (by decide) ?_
    refine lv_icmp_ne (tgt := 43) hx hb dX7_liesOn_36 (by decide) (fun c5 => ?_) (fun c5 => ?_)
    · rw [if_neg c5] at h
      refine lv_iconst (v := 1) hx hb dX7_liesOn_43 (by decide) ?_
      exact hL44 1 D _ _ _  hW hS (lv_sub hl [1, 2, 3, 4] rfl) h
    · rw [if_pos c5] at h
      refine lv_iconst (v := 0) hx hb dX7_liesOn_39 (by decide) ?_
      refine lv_goto (tgt := 44) hx hb dX7_liesOn_40 (by decide) ?_
      exact hL44 0 D _ _ _  hW hS (lv_sub hl [1, 2, 3, 4] rfl) h
  · rw [if_neg c3] at h
    refine lv_iconst (v := 2) hx hb dX7_liesOn_20 (by decide) ?_
    refine lv_goto (tgt := 44) hx hb dX7_liesOn_21 (by decide) ?_
    exact hL44 2 D _ _ _  hW hS (lv_sub hl [1, 2, 3, 4] rfl) h
def f_X7_passes_L166 (k49 : Int32 → Int32 → wd_D → Option (wd_D)) (a1 : Int32) (v2 : Int32) (D : wd_D) : Option (wd_D) := ap (v2 + 1) (fun x26 => k49 a1 x26 D)
def f_X7_passes_L146 (k49 : Int32 → Int32 → wd_D → Option (wd_D)) (a1 : Int32) (v2 : Int32) (v4 : Int32) (D : wd_D) : Option (wd_D) := (if v4 = 0 then (rd 7 D 380 v2).bind (fun x23 => (if x23 = 0 then f_X7_passes_L166 k49 a1 v2 D else (f_X7_wakesUp a1 v2 D).bind (fun q25 => f_X7_passes_L166 k49 a1 v2 q25))) else f_X7_passes_L166 k49 a1 v2 D)
def f_X7_passes_L116 (k49 : Int32 → Int32 → wd_D → Option (wd_D)) (a1 : Int32) (v2 : Int32) (z0 : Int32) (z1 : Int32) (z2 : Int32) (D : wd_D) : Option (wd_D) := (f_X7_weepsOn z2 z1 z0 D).bind (fun q27 => f_X7_passes_L166 k49 a1 v2 q27)
def f_X7_passes_L115 (k49 : Int32 → Int32 → wd_D → Option (wd_D)) (a1 : Int32) (v2 : Int32) (z0 : Int32) (z1 : Int32) (D : wd_D) : Option (wd_D) := f_X7_passes_L116 k49 a1 v2 1 z0 z1 D
def f_X7_passes_L49  : Nat → Int32 → Int32 → wd_D → Option (wd_D)
  | 0, _, _, _ => none
  | n + 1, a1, v2, D => (rd 252 D 371 (a1 + 41)).bind (fun x6 => (if x6 ≤ v2 then (rd 252 D 371 (a1 + 0)).bind (fun x8 => (wr 252 D 371 (a1 + 0) (x8 + 1)).bind (fun D9 => some D9)) else (rd 252 D 371 ((a1 + 8) + v2)).bind (fun x10 => (f_X7_isOut a1 v2 D).bind (fun x11 => (if x10 = 1 then (if x11 = 0 then (rd 252 D 371 (a1 + 37)).bind (fun x18 => (if (f_X7_has x18 v2) = 0 then f_X7_passes_L115 (f_X7_passes_L49 n) a1 v2 v2 a1 D else f_X7_passes_L116 (f_X7_passes_L49 n) a1 v2 2 v2 a1 D)) else f_X7_passes_L115 (f_X7_passes_L49 n) a1 v2 v2 a1 D) else (if x11 = 0 then (if x10 = 0 then (rd 7 D 380 v2).bind (fun x15 => (f_X7_liesOn a1 v2 x15 D).bind (fun q16 => f_X7_passes_L166 (f_X7_passes_L49 n) a1 v2 q16)) else f_X7_passes_L146 (f_X7_passes_L49 n) a1 v2 x11 D) else f_X7_passes_L146 (f_X7_passes_L49 n) a1 v2 x11 D))))))
def f_X7_passes_L40 (k2 : Int32 → Int32 → wd_D → Option (wd_D)) (a1 : Int32) (v2 : Int32) (z0 : Int32) (z1 : Int32) (D : wd_D) : Option (wd_D) := (wr 7 D 380 z1 (vp_nar .boolean z0)).bind (fun D20 => ap (v2 + 1) (fun x21 => k2 a1 x21 D20))
def f_X7_passes_L2  : Nat → Int32 → Int32 → wd_D → Option (wd_D)
  | 0, _, _, _ => none
  | n + 1, a1, v2, D => (rd 252 D 371 (a1 + 41)).bind (fun x1 => (if x1 ≤ v2 then f_X7_passes_L49 FU a1 0 D else (f_X7_noiseAt a1 v2 D).bind (fun x3 => (f_X7_bears a1 v2 D).bind (fun x4 => (if x3 ≤ x4 then f_X7_passes_L40 (f_X7_passes_L2 n) a1 v2 0 v2 D else f_X7_passes_L40 (f_X7_passes_L2 n) a1 v2 1 v2 D)))))
def f_X7_passes (a1 : Int32) (D : wd_D) : Option (wd_D) := f_X7_passes_L2 FU a1 0 D
set_option maxHeartbeats 4000000 in
set_option maxRecDepth 100000 in
theorem x_X7_passes (l : Launch) (X : wd_X) (a1 : Int32) (D : wd_D) {qv : wd_D} (h : f_X7_passes a1 D = some qv) : wd_Met l X yX7_passes cX7_passes 5 (none : Option FieldType) ({ frames := 3, cells := 0, slots := 0, locals := 300 }) S0 S0 ([.ref (X.2.2.1 + 370), .int a1] : List Value) D qv none 0 0 := by
  refine wd_enter (by decide) (Nat.le_of_ble_eq_true rfl) ?_
  intro p e s m below meth c CF hret hlk hnm hW hE ls hl
  have CF : CallFix p m c cX7_passes 5 s ([.ref (X.2.2.1 + 370), .int a1] : List Value).toArray tg RX7 := CF
  have hx := CF.1
  have hb := CF.2.1
  have hown := CF.2.2.2.1
  have hts := CF.2.2.2.2
  have hS : va_S (wd_A X) s.heap s.heap [] := va_S.rf
  have hl : lv_has ls 5 [(0, .ref (X.2.2.1 + 370)), (1, .int a1)] := hl
  unfold f_X7_passes at h
  have hL49 : ∀ (n49 : Nat) (v2 : Int32) (D : wd_D) (H : Heap) (locs : List Loc) (ls : Array Slot), Wd X S0 D H → va_S (wd_A X) s.heap H locs → lv_has ls 5 [(0, .ref (X.2.2.1 + 370)), (1, .int a1), (2, .int v2)] → f_X7_passes_L49 n49 a1 v2 D = some qv → W p l e ({ frames := 3, cells := 0, slots := 0, locals := 300 }) s m ([.ref (X.2.2.1 + 370), .int a1] : List Value).toArray below meth c H locs 0 0 (MQ below (wd_Q X S0 qv none) ([.ref (X.2.2.1 + 370), .int a1] : List Value).toArray s 0 0 (wd_A X)) (F0 m 49 ls []) := by
    intro n49
    induction n49 with
    | zero => intro v2 D H locs ls hW hS hl h; cases h
    | succ n49 ih49 =>
      have hL166 : ∀ (v2 : Int32) (D : wd_D) (H : Heap) (locs : List Loc) (ls : Array Slot), Wd X S0 D H → va_S (wd_A X) s.heap H locs → lv_has ls 5 [(0, .ref (X.2.2.1 + 370)), (1, .int a1), (2, .int v2)] → f_X7_passes_L166 (f_X7_passes_L49 n49) a1 v2 D = some qv → W p l e ({ frames := 3, cells := 0, slots := 0, locals := 300 }) s m ([.ref (X.2.2.1 + 370), .int a1] : List Value).toArray below meth c H locs 0 0 (MQ below (wd_Q X S0 qv none) ([.ref (X.2.2.1 + 370), .int a1] : List Value).toArray s 0 0 (wd_A X)) (F0 m 166 ls []) := by
        intro v2 D H locs ls hW hS hl h
        unfold f_X7_passes_L166 at h
        obtain ⟨x26, ex26⟩ : ∃ y : Int32, y = v2 + 1 := ⟨_, rfl⟩
        replace h := apR ex26 h
        refine lv_iinc (v := x26) (lv' := [(2, .int x26), (0, .ref (X.2.2.1 + 370)), (1, .int a1)]) hx hb dX7_passes_166 hl (k := 2) rfl (by rw [ex26]; rfl) (by decide) rfl (fun ls hl => ?_)
        refine lv_goto (tgt := 49) hx hb dX7_passes_169 (by decide) ?_
        exact ih49 x26 D _ _ _  hW hS (lv_sub hl [1, 2, 0] rfl) h
      have hL146 : ∀ (v2 : Int32) (v4 : Int32) (D : wd_D) (H : Heap) (locs : List Loc) (ls : Array Slot), Wd X S0 D H → va_S (wd_A X) s.heap H locs → lv_has ls 5 [(0, .ref (X.2.2.1 + 370)), (1, .int a1), (2, .int v2), (4, .int v4)] → f_X7_passes_L146 (f_X7_passes_L49 n49) a1 v2 v4 D = some qv → W p l e ({ frames := 3, cells := 0, slots := 0, locals := 300 }) s m ([.ref (X.2.2.1 + 370), .int a1] : List Value).toArray below meth c H locs 0 0 (MQ below (wd_Q X S0 qv none) ([.ref (X.2.2.1 + 370), .int a1] : List Value).toArray s 0 0 (wd_A X)) (F0 m 146 ls []) := by
        intro v2 v4 D H locs ls hW hS hl h
        unfold f_X7_passes_L146 at h
        refine lv_iload hx hb dX7_passes_146 (lv_at hl 3 rfl) ?_
        refine lv_if_ne (tgt := 166) hx hb dX7_passes_148 (by decide) (fun c22 => ?_) (fun c22 => ?_)
        · rw [if_neg c22] at h
          exact hL166 v2 D _ _ _  hW hS (lv_sub hl [0, 1, 2] rfl) h
        · rw [if_pos c22] at h
          refine lv_aload_n hx hb dX7_passes_151 rfl (lv_at hl 0 rfl) ?_
          refine wd_getR CF hE hW fl_X7_38 sh_370 rf_370_17 rfl dX7_passes_152 ?_
          refine lv_iload_n hx hb dX7_passes_155 rfl (lv_at hl 2 rfl) ?_
          obtain ⟨x23, ex23, h⟩ := bdE h
          refine wd_zald CF hE hW sh_380 ex23 dX7_passes_156 ?_
          refine lv_if_eq (tgt := 166) hx hb dX7_passes_157 (by decide) (fun c24 => ?_) (fun c24 => ?_)
          · rw [if_pos c24] at h
            exact hL166 v2 D _ _ _  hW hS (lv_sub hl [0, 1, 2] rfl) h
          · rw [if_neg c24] at h
            refine lv_aload_n hx hb dX7_passes_160 rfl (lv_at hl 0 rfl) ?_
            refine lv_iload_n hx hb dX7_passes_161 rfl (lv_at hl 1 rfl) ?_
            refine lv_iload_n hx hb dX7_passes_162 rfl (lv_at hl 2 rfl) ?_
            obtain ⟨q25, eq25, h⟩ := bdE h
            refine wd_callVv (ci := 7) (k := 370) CF hE hW hS (x_X7_wakesUp l X a1 v2 D eq25) mi_X7_wakesUp vi_X7_wakesUp tw943 ⟨by decide, rfl⟩ sh_370 ⟨rfl, rfl, Nat.le_of_ble_eq_true rfl, Nat.le_of_ble_eq_true rfl⟩ rfl hl.1 rfl (Nat.le_of_ble_eq_true rfl) dX7_passes_163 ⟨Nat.le_of_ble_eq_true rfl, Nat.le_of_ble_eq_true rfl⟩ (fun H locs hW hS => ?_)
            exact hL166 v2 q25 _ _ _  hW hS (lv_sub hl [0, 1, 2] rfl) h
      have hL116 : ∀ (v2 : Int32) (z0 : Int32) (z1 : Int32) (z2 : Int32) (D : wd_D) (H : Heap) (locs : List Loc) (ls : Array Slot), Wd X S0 D H → va_S (wd_A X) s.heap H locs → lv_has ls 5 [(0, .ref (X.2.2.1 + 370)), (1, .int a1), (2, .int v2)] → f_X7_passes_L116 (f_X7_passes_L49 n49) a1 v2 z0 z1 z2 D = some qv → W p l e ({ frames := 3, cells := 0, slots := 0, locals := 300 }) s m ([.ref (X.2.2.1 + 370), .int a1] : List Value).toArray below meth c H locs 0 0 (MQ below (wd_Q X S0 qv none) ([.ref (X.2.2.1 + 370), .int a1] : List Value).toArray s 0 0 (wd_A X)) (F0 m 116 ls [.int z0, .int z1, .int z2, .ref (X.2.2.1 + 370)]) := by
        intro v2 z0 z1 z2 D H locs ls hW hS hl h
        unfold f_X7_passes_L116 at h
        obtain ⟨q27, eq27, h⟩ := bdE h
        refine wd_callVv (ci := 7) (k := 370) CF hE hW hS (x_X7_weepsOn l X z2 z1 z0 D eq27) mi_X7_weepsOn vi_X7_weepsOn tw935 ⟨by decide, rfl⟩ sh_370 ⟨rfl, rfl, Nat.le_of_ble_eq_true rfl, Nat.le_of_ble_eq_true rfl⟩ rfl hl.1 rfl (Nat.le_of_ble_eq_true rfl) dX7_passes_116 ⟨Nat.le_of_ble_eq_true rfl, Nat.le_of_ble_eq_true rfl⟩ (fun H locs hW hS => ?_)
        refine lv_goto (tgt := 166) hx hb dX7_passes_119 (by decide) ?_
        exact hL166 v2 q27 _ _ _  hW hS (lv_sub hl [0, 1, 2] rfl) h
      have hL115 : ∀ (v2 : Int32) (z0 : Int32) (z1 : Int32) (D : wd_D) (H : Heap) (locs : List Loc) (ls : Array Slot), Wd X S0 D H → va_S (wd_A X) s.heap H locs → lv_has ls 5 [(0, .ref (X.2.2.1 + 370)), (1, .int a1), (2, .int v2)] → f_X7_passes_L115 (f_X7_passes_L49 n49) a1 v2 z0 z1 D = some qv → W p l e ({ frames := 3, cells := 0, slots := 0, locals := 300 }) s m ([.ref (X.2.2.1 + 370), .int a1] : List Value).toArray below meth c H locs 0 0 (MQ below (wd_Q X S0 qv none) ([.ref (X.2.2.1 + 370), .int a1] : List Value).toArray s 0 0 (wd_A X)) (F0 m 115 ls [.int z0, .int z1, .ref (X.2.2.1 + 370)]) := by
        intro v2 z0 z1 D H locs ls hW hS hl h
        unfold f_X7_passes_L115 at h
        refine lv_iconst (v := 1) hx hb dX7_passes_115 (by decide) ?_
        exact hL116 v2 1 z0 z1 D _ _ _  hW hS (lv_sub hl [0, 1, 2] rfl) h
      intro v2 D H locs ls hW hS hl h
      rw [f_X7_passes_L49] at h
      refine lv_iload_n hx hb dX7_passes_49 rfl (lv_at hl 2 rfl) ?_
      refine lv_aload_n hx hb dX7_passes_50 rfl (lv_at hl 0 rfl) ?_
      refine wd_getR CF hE hW fl_X7_7 sh_370 rf_370_0 rfl dX7_passes_51 ?_
      refine lv_iload_n hx hb dX7_passes_54 rfl (lv_at hl 1 rfl) ?_
      refine lv_bipush (v := 41) hx hb dX7_passes_55 (by decide) ?_
      refine lv_iadd hx hb dX7_passes_57 ?_
      obtain ⟨x6, ex6, h⟩ := bdE h
      refine wd_iald CF hE hW sh_371 ex6 dX7_passes_58 ?_
      refine lv_icmp_ge (tgt := 172) hx hb dX7_passes_59 (by decide) (fun c7 => ?_) (fun c7 => ?_)
      · rw [if_pos c7] at h
        refine lv_aload_n hx hb dX7_passes_172 rfl (lv_at hl 0 rfl) ?_
        refine wd_getR CF hE hW fl_X7_7 sh_370 rf_370_0 rfl dX7_passes_173 ?_
        refine lv_iload_n hx hb dX7_passes_176 rfl (lv_at hl 1 rfl) ?_
        refine lv_iconst (v := 0) hx hb dX7_passes_177 (by decide) ?_
        refine lv_iadd hx hb dX7_passes_178 ?_
        refine lv_dup2_11 hx hb dX7_passes_179 rfl rfl ?_
        obtain ⟨x8, ex8, h⟩ := bdE h
        refine wd_iald CF hE hW sh_371 ex8 dX7_passes_180 ?_
        refine lv_iconst (v := 1) hx hb dX7_passes_181 (by decide) ?_
        refine lv_iadd hx hb dX7_passes_182 ?_
        obtain ⟨D9, eD9, h⟩ := bdE h
        refine wd_iast CF hE hW hS sh_371 eD9 dX7_passes_183 (fun H locs hW hS => ?_)
        have h := Option.some.inj h
        subst h
        exact wd_vret CF hret hlk hW hS dX7_passes_184
      · rw [if_neg c7] at h
        refine lv_aload_n hx hb dX7_passes_62 rfl (lv_at hl 0 rfl) ?_
        refine wd_getR CF hE hW fl_X7_7 sh_370 rf_370_0 rfl dX7_passes_63 ?_
        refine lv_iload_n hx hb dX7_passes_66 rfl (lv_at hl 1 rfl) ?_
        refine lv_bipush (v := 8) hx hb dX7_passes_67 (by decide) ?_
        refine lv_iadd hx hb dX7_passes_69 ?_
        refine lv_iload_n hx hb dX7_passes_70 rfl (lv_at hl 2 rfl) ?_
        refine lv_iadd hx hb dX7_passes_71 ?_
        obtain ⟨x10, ex10, h⟩ := bdE h
        refine wd_iald CF hE hW sh_371 ex10 dX7_passes_72 ?_
        refine lv_istore_n (lv' := [(3, .int x10), (0, .ref (X.2.2.1 + 370)), (1, .int a1), (2, .int v2)]) hx hb dX7_passes_73 rfl hl (by decide) rfl (fun ls hl => ?_)
        refine lv_aload_n hx hb dX7_passes_74 rfl (lv_at hl 1 rfl) ?_
        refine lv_iload_n hx hb dX7_passes_75 rfl (lv_at hl 2 rfl) ?_
        refine lv_iload_n hx hb dX7_passes_76 rfl (lv_at hl 3 rfl) ?_
        obtain ⟨x11, ex11, h⟩ := bdE h
        refine wd_callVr (ci := 7) (k := 370) CF hE hW hS (x_X7_isOut l X a1 v2 D ex11) mi_X7_isOut vi_X7_isOut tw921 ⟨by decide, rfl⟩ sh_370 ⟨rfl, rfl, Nat.le_of_ble_eq_true rfl, Nat.le_of_ble_eq_true rfl⟩ rfl hl.1 rfl (Nat.le_of_ble_eq_true rfl) dX7_passes_77 ⟨Nat.le_of_ble_eq_true rfl, Nat.le_of_ble_eq_true rfl⟩ (fun H locs hW hS => ?_)
        refine lv_istore (lv' := [(4, .int x11), (3, .int x10), (0, .ref (X.2.2.1 + 370)), (1, .int a1), (2, .int v2)]) hx hb dX7_passes_80 hl (by decide) rfl (fun ls hl => ?_)
        refine lv_iload_n hx hb dX7_passes_82 rfl (lv_at hl 1 rfl) ?_
        refine lv_iconst (v := 1) hx hb dX7_passes_83 (by decide) ?_
        refine lv_icmp_ne (tgt := 122) hx hb dX7_passes_84 (by decide) (fun c12 => ?_) (fun c12 => ?_)
        · rw [if_neg c12] at h
          refine lv_iload hx hb dX7_passes_122 (lv_at hl 0 rfl) ?_
          refine lv_if_ne (tgt := 146) hx hb dX7_passes_124 (by decide) (fun c13 => ?_) (fun c13 => ?_)
          · rw [if_neg c13] at h
            exact hL146 v2 x11 D _ _ _  hW hS (lv_sub hl [2, 3, 4, 0] rfl) h
          · rw [if_pos c13] at h
            refine lv_iload_n hx hb dX7_passes_127 rfl (lv_at hl 1 rfl) ?_
            refine lv_if_ne (tgt := 146) hx hb dX7_passes_128 (by decide) (fun c14 => ?_) (fun c14 => ?_)
            · rw [if_neg c14] at h
              exact hL146 v2 x11 D _ _ _  hW hS (lv_sub hl [2, 3, 4, 0] rfl) h
            · rw [if_pos c14] at h
              refine lv_aload_n hx hb dX7_passes_131 rfl (lv_at hl 2 rfl) ?_
              refine lv_iload_n hx hb dX7_passes_132 rfl (lv_at hl 3 rfl) ?_
              refine lv_iload_n hx hb dX7_passes_133 rfl (lv_at hl 4 rfl) ?_
              refine lv_aload_n hx hb dX7_passes_134 rfl (lv_at hl 2 rfl) ?_
              refine wd_getR CF hE hW fl_X7_38 sh_370 rf_370_17 rfl dX7_passes_135 ?_
              refine lv_iload_n hx hb dX7_passes_138 rfl (lv_at hl 4 rfl) ?_
              obtain ⟨x15, ex15, h⟩ := bdE h
              refine wd_zald CF hE hW sh_380 ex15 dX7_passes_139 ?_
              obtain ⟨q16, eq16, h⟩ := bdE h
              refine wd_callVv (ci := 7) (k := 370) CF hE hW hS (x_X7_liesOn l X a1 v2 x15 D eq16) mi_X7_liesOn vi_X7_liesOn tw939 ⟨by decide, rfl⟩ sh_370 ⟨rfl, rfl, Nat.le_of_ble_eq_true rfl, Nat.le_of_ble_eq_true rfl⟩ rfl hl.1 rfl (Nat.le_of_ble_eq_true rfl) dX7_passes_140 ⟨Nat.le_of_ble_eq_true rfl, Nat.le_of_ble_eq_true rfl⟩ (fun H locs hW hS => ?_)
              refine lv_goto (tgt := 166) hx hb dX7_passes_143 (by decide) ?_
              exact hL166 v2 q16 _ _ _  hW hS (lv_sub hl [2, 3, 4] rfl) h
        · rw [if_pos c12] at h
          refine lv_aload_n hx hb dX7_passes_87 rfl (lv_at hl 2 rfl) ?_
          refine lv_iload_n hx hb dX7_passes_88 rfl (lv_at hl 3 rfl) ?_
          refine lv_iload_n hx hb dX7_passes_89 rfl (lv_at hl 4 rfl) ?_
          refine lv_iload hx hb dX7_passes_90 (lv_at hl 0 rfl) ?_
          refine lv_if_ne (tgt := 115) hx hb dX7_passes_92 (by decide) (fun c17 => ?_) (fun c17 => ?_)
          · rw [if_neg c17] at h
            exact hL115 v2 v2 a1 D _ _ _  hW hS (lv_sub hl [2, 3, 4] rfl) h
          · rw [if_pos c17] at h
            refine lv_aload_n hx hb dX7_passes_95 rfl (lv_at hl 2 rfl) ?_
            refine wd_getR CF hE hW fl_X7_7 sh_370 rf_370_0 rfl dX7_passes_96 ?_
            refine lv_iload_n hx hb dX7_passes_99 rfl (lv_at hl 3 rfl) ?_
            refine lv_bipush (v := 37) hx hb dX7_passes_100 (by decide) ?_
            refine lv_iadd hx hb dX7_passes_102 ?_
            obtain ⟨x18, ex18, h⟩ := bdE h
            refine wd_iald CF hE hW sh_371 ex18 dX7_passes_103 ?_
            refine lv_iload_n hx hb dX7_passes_104 rfl (lv_at hl 4 rfl) ?_
            refine wd_callSr CF hE hW hS (x_X7_has l X x18 v2 D) mi_X7_has vi_X7_has tw925 ⟨rfl, rfl, Nat.le_of_ble_eq_true rfl, Nat.le_of_ble_eq_true rfl⟩ rfl hl.1 rfl (Nat.le_of_ble_eq_true rfl) dX7_passes_105 ⟨Nat.le_of_ble_eq_true rfl, Nat.le_of_ble_eq_true rfl⟩ (fun H locs hW hS => ?_)
            refine lv_if_eq (tgt := 115) hx hb dX7_passes_108 (by decide) (fun c19 => ?_) (fun c19 => ?_)
            · rw [if_pos c19] at h
              exact hL115 v2 v2 a1 D _ _ _  hW hS (lv_sub hl [2, 3, 4] rfl) h
            · rw [if_neg c19] at h
              refine lv_iconst (v := 2) hx hb dX7_passes_111 (by decide) ?_
              refine lv_goto (tgt := 116) hx hb dX7_passes_112 (by decide) ?_
              exact hL116 v2 2 v2 a1 D _ _ _  hW hS (lv_sub hl [2, 3, 4] rfl) h
  have hL2 : ∀ (n2 : Nat) (v2 : Int32) (D : wd_D) (H : Heap) (locs : List Loc) (ls : Array Slot), Wd X S0 D H → va_S (wd_A X) s.heap H locs → lv_has ls 5 [(0, .ref (X.2.2.1 + 370)), (1, .int a1), (2, .int v2)] → f_X7_passes_L2 n2 a1 v2 D = some qv → W p l e ({ frames := 3, cells := 0, slots := 0, locals := 300 }) s m ([.ref (X.2.2.1 + 370), .int a1] : List Value).toArray below meth c H locs 0 0 (MQ below (wd_Q X S0 qv none) ([.ref (X.2.2.1 + 370), .int a1] : List Value).toArray s 0 0 (wd_A X)) (F0 m 2 ls []) := by
    intro n2
    induction n2 with
    | zero => intro v2 D H locs ls hW hS hl h; cases h
    | succ n2 ih2 =>
      have hL40 : ∀ (v2 : Int32) (z0 : Int32) (z1 : Int32) (D : wd_D) (H : Heap) (locs : List Loc) (ls : Array Slot), Wd X S0 D H → va_S (wd_A X) s.heap H locs → lv_has ls 5 [(0, .ref (X.2.2.1 + 370)), (1, .int a1), (2, .int v2)] → f_X7_passes_L40 (f_X7_passes_L2 n2) a1 v2 z0 z1 D = some qv → W p l e ({ frames := 3, cells := 0, slots := 0, locals := 300 }) s m ([.ref (X.2.2.1 + 370), .int a1] : List Value).toArray below meth c H locs 0 0 (MQ below (wd_Q X S0 qv none) ([.ref (X.2.2.1 + 370), .int a1] : List Value).toArray s 0 0 (wd_A X)) (F0 m 40 ls [.int z0, .int z1, .ref (X.2.2.1 + 380)]) := by
        intro v2 z0 z1 D H locs ls hW hS hl h
        unfold f_X7_passes_L40 at h
        obtain ⟨D20, eD20, h⟩ := bdE h
        refine wd_zast CF hE hW hS sh_380 eD20 dX7_passes_40 (fun H locs hW hS => ?_)
        obtain ⟨x21, ex21⟩ : ∃ y : Int32, y = v2 + 1 := ⟨_, rfl⟩
        replace h := apR ex21 h
        refine lv_iinc (v := x21) (lv' := [(2, .int x21), (0, .ref (X.2.2.1 + 370)), (1, .int a1)]) hx hb dX7_passes_41 hl (k := 2) rfl (by rw [ex21]; rfl) (by decide) rfl (fun ls hl => ?_)
        refine lv_goto (tgt := 2) hx hb dX7_passes_44 (by decide) ?_
        exact ih2 x21 D20 _ _ _  hW hS (lv_sub hl [1, 2, 0] rfl) h
      intro v2 D H locs ls hW hS hl h
      rw [f_X7_passes_L2] at h
      refine lv_iload_n hx hb dX7_passes_2 rfl (lv_at hl 2 rfl) ?_
      refine lv_aload_n hx hb dX7_passes_3 rfl (lv_at hl 0 rfl) ?_
      refine wd_getR CF hE hW fl_X7_7 sh_370 rf_370_0 rfl dX7_passes_4 ?_
      refine lv_iload_n hx hb dX7_passes_7 rfl (lv_at hl 1 rfl) ?_
      refine lv_bipush (v := 41) hx hb dX7_passes_8 (by decide) ?_
      refine lv_iadd hx hb dX7_passes_10 ?_
      obtain ⟨x1, ex1, h⟩ := bdE h
      refine wd_iald CF hE hW sh_371 ex1 dX7_passes_11 ?_
      refine lv_icmp_ge (tgt := 47) hx hb dX7_passes_12 (by decide) (fun c2 => ?_) (fun c2 => ?_)
      · rw [if_pos c2] at h
        refine lv_iconst (v := 0) hx hb dX7_passes_47 (by decide) ?_
        refine lv_istore_n (lv' := [(2, .int 0), (0, .ref (X.2.2.1 + 370)), (1, .int a1)]) hx hb dX7_passes_48 rfl hl (by decide) rfl (fun ls hl => ?_)
        exact hL49 FU 0 D _ _ _  hW hS (lv_sub hl [1, 2, 0] rfl) h
      · rw [if_neg c2] at h
        refine lv_aload_n hx hb dX7_passes_15 rfl (lv_at hl 0 rfl) ?_
        refine wd_getR CF hE hW fl_X7_38 sh_370 rf_370_17 rfl dX7_passes_16 ?_
        refine lv_iload_n hx hb dX7_passes_19 rfl (lv_at hl 2 rfl) ?_
        refine lv_aload_n hx hb dX7_passes_20 rfl (lv_at hl 0 rfl) ?_
        refine lv_iload_n hx hb dX7_passes_21 rfl (lv_at hl 1 rfl) ?_
        refine lv_iload_n hx hb dX7_passes_22 rfl (lv_at hl 2 rfl) ?_
        obtain ⟨x3, ex3, h⟩ := bdE h
        refine wd_callVr (ci := 7) (k := 370) CF hE hW hS (x_X7_noiseAt l X a1 v2 D ex3) mi_X7_noiseAt vi_X7_noiseAt tw917 ⟨by decide, rfl⟩ sh_370 ⟨rfl, rfl, Nat.le_of_ble_eq_true rfl, Nat.le_of_ble_eq_true rfl⟩ rfl hl.1 rfl (Nat.le_of_ble_eq_true rfl) dX7_passes_23 ⟨Nat.le_of_ble_eq_true rfl, Nat.le_of_ble_eq_true rfl⟩ (fun H locs hW hS => ?_)
        refine lv_aload_n hx hb dX7_passes_26 rfl (lv_at hl 0 rfl) ?_
        refine lv_iload_n hx hb dX7_passes_27 rfl (lv_at hl 1 rfl) ?_
        refine lv_iload_n hx hb dX7_passes_28 rfl (lv_at hl 2 rfl) ?_
        obtain ⟨x4, ex4, h⟩ := bdE h
        refine wd_callVr (ci := 7) (k := 370) CF hE hW hS (x_X7_bears l X a1 v2 D ex4) mi_X7_bears vi_X7_bears tw931 ⟨by decide, rfl⟩ sh_370 ⟨rfl, rfl, Nat.le_of_ble_eq_true rfl, Nat.le_of_ble_eq_true rfl⟩ rfl hl.1 rfl (Nat.le_of_ble_eq_true rfl) dX7_passes_29 ⟨Nat.le_of_ble_eq_true rfl, Nat.le_of_ble_eq_true rfl⟩ (fun H locs hW hS => ?_)
        refine lv_icmp_le (tgt := 39) hx hb dX7_passes_32 (by decide) (fun c5 => ?_) (fun c5 => ?_)
        · rw [if_pos c5] at h
          refine lv_iconst (v := 0) hx hb dX7_passes_39 (by decide) ?_
          exact hL40 v2 0 v2 D _ _ _  hW hS (lv_sub hl [0, 1, 2] rfl) h
        · rw [if_neg c5] at h
          refine lv_iconst (v := 1) hx hb dX7_passes_35 (by decide) ?_
          refine lv_goto (tgt := 40) hx hb dX7_passes_36 (by decide) ?_
          exact hL40 v2 1 v2 D _ _ _  hW hS (lv_sub hl [0, 1, 2] rfl) h
  refine lv_iconst (v := 0) hx hb dX7_passes_0 (by decide) ?_
  refine lv_istore_n (lv' := [(2, .int 0), (0, .ref (X.2.2.1 + 370)), (1, .int a1)]) hx hb dX7_passes_1 rfl hl (by decide) rfl (fun ls hl => ?_)
  exact hL2 FU 0 D _ _ _  hW hS (lv_sub hl [1, 2, 0] rfl) h
def f_X7_rolls_L66 (k5 : Int32 → Int32 → Int32 → Int32 → wd_D → Option (Int32 × wd_D)) (a1 : Int32) (a2 : Int32) (v3 : Int32) (v4 : Int32) (D : wd_D) : Option (Int32 × wd_D) := ap (v4 + 1) (fun x11 => k5 a1 a2 v3 x11 D)
def f_X7_rolls_L5  : Nat → Int32 → Int32 → Int32 → Int32 → wd_D → Option (Int32 × wd_D)
  | 0, _, _, _, _, _ => none
  | n + 1, a1, a2, v3, v4, D => (rd 252 D 371 (a1 + 41)).bind (fun x1 => (if x1 ≤ v4 then some (v3, D) else (rd 252 D 371 ((a1 + 8) + v4)).bind (fun x3 => (if x3 = 2 then (f_X7_isOut a1 v4 D).bind (fun x5 => (if x5 = 0 then (f_X7_bears a1 v4 D).bind (fun x7 => (if a2 ≤ x7 then f_X7_rolls_L66 (f_X7_rolls_L5 n) a1 a2 v3 v4 D else (f_X7_wakesUp a1 v4 D).bind (fun q9 => ap (v3 + 1) (fun x10 => f_X7_rolls_L66 (f_X7_rolls_L5 n) a1 a2 x10 v4 q9)))) else f_X7_rolls_L66 (f_X7_rolls_L5 n) a1 a2 v3 v4 D)) else f_X7_rolls_L66 (f_X7_rolls_L5 n) a1 a2 v3 v4 D))))
def f_X7_rolls (a1 : Int32) (a2 : Int32) (D : wd_D) : Option (Int32 × wd_D) := f_X7_rolls_L5 FU a1 a2 0 0 D
set_option maxHeartbeats 4000000 in
set_option maxRecDepth 100000 in
theorem x_X7_rolls (l : Launch) (X : wd_X) (a1 : Int32) (a2 : Int32) (D : wd_D) {qv : Int32 × wd_D} (h : f_X7_rolls a1 a2 D = some qv) : wd_Met l X yX7_rolls cX7_rolls 5 (some FieldType.int) ({ frames := 2, cells := 0, slots := 0, locals := 200 }) S0 S0 ([.ref (X.2.2.1 + 370), .int a1, .int a2] : List Value) D qv.2 (some (.int qv.1)) 0 0 := by
  refine wd_enter (by decide) (Nat.le_of_ble_eq_true rfl) ?_
  intro p e s m below meth c CF hret hlk hnm hW hE ls hl
  have CF : CallFix p m c cX7_rolls 5 s ([.ref (X.2.2.1 + 370), .int a1, .int a2] : List Value).toArray tg RX7 := CF
  have hx := CF.1
  have hb := CF.2.1
  have hown := CF.2.2.2.1
  have hts := CF.2.2.2.2
  have hS : va_S (wd_A X) s.heap s.heap [] := va_S.rf
  have hl : lv_has ls 5 [(0, .ref (X.2.2.1 + 370)), (1, .int a1), (2, .int a2)] := hl
  unfold f_X7_rolls at h
  have hL5 : ∀ (n5 : Nat) (v3 : Int32) (v4 : Int32) (D : wd_D) (H : Heap) (locs : List Loc) (ls : Array Slot), Wd X S0 D H → va_S (wd_A X) s.heap H locs → lv_has ls 5 [(0, .ref (X.2.2.1 + 370)), (1, .int a1), (2, .int a2), (3, .int v3), (4, .int v4)] → f_X7_rolls_L5 n5 a1 a2 v3 v4 D = some qv → W p l e ({ frames := 2, cells := 0, slots := 0, locals := 200 }) s m ([.ref (X.2.2.1 + 370), .int a1, .int a2] : List Value).toArray below meth c H locs 0 0 (MQ below (wd_Q X S0 qv.2 (some (.int qv.1))) ([.ref (X.2.2.1 + 370), .int a1, .int a2] : List Value).toArray s 0 0 (wd_A X)) (F0 m 5 ls []) := by
    intro n5
    induction n5 with
    | zero => intro v3 v4 D H locs ls hW hS hl h; cases h
    | succ n5 ih5 =>
      have hL66 : ∀ (v3 : Int32) (v4 : Int32) (D : wd_D) (H : Heap) (locs : List Loc) (ls : Array Slot), Wd X S0 D H → va_S (wd_A X) s.heap H locs → lv_has ls 5 [(0, .ref (X.2.2.1 + 370)), (1, .int a1), (2, .int a2), (3, .int v3), (4, .int v4)] → f_X7_rolls_L66 (f_X7_rolls_L5 n5) a1 a2 v3 v4 D = some qv → W p l e ({ frames := 2, cells := 0, slots := 0, locals := 200 }) s m ([.ref (X.2.2.1 + 370), .int a1, .int a2] : List Value).toArray below meth c H locs 0 0 (MQ below (wd_Q X S0 qv.2 (some (.int qv.1))) ([.ref (X.2.2.1 + 370), .int a1, .int a2] : List Value).toArray s 0 0 (wd_A X)) (F0 m 66 ls []) := by
        intro v3 v4 D H locs ls hW hS hl h
        unfold f_X7_rolls_L66 at h
        obtain ⟨x11, ex11⟩ : ∃ y : Int32, y = v4 + 1 := ⟨_, rfl⟩
        replace h := apR ex11 h
        refine lv_iinc (v := x11) (lv' := [(4, .int x11), (0, .ref (X.2.2.1 + 370)), (1, .int a1), (2, .int a2), (3, .int v3)]) hx hb dX7_rolls_66 hl (k := 4) rfl (by rw [ex11]; rfl) (by decide) rfl (fun ls hl => ?_)
        refine lv_goto (tgt := 5) hx hb dX7_rolls_69 (by decide) ?_
        exact ih5 v3 x11 D _ _ _  hW hS (lv_sub hl [1, 2, 3, 4, 0] rfl) h
      intro v3 v4 D H locs ls hW hS hl h
      rw [f_X7_rolls_L5] at h
      refine lv_iload hx hb dX7_rolls_5 (lv_at hl 4 rfl) ?_
      refine lv_aload_n hx hb dX7_rolls_7 rfl (lv_at hl 0 rfl) ?_
      refine wd_getR CF hE hW fl_X7_7 sh_370 rf_370_0 rfl dX7_rolls_8 ?_
      refine lv_iload_n hx hb dX7_rolls_11 rfl (lv_at hl 1 rfl) ?_
      refine lv_bipush (v := 41) hx hb dX7_rolls_12 (by decide) ?_
      refine lv_iadd hx hb dX7_rolls_14 ?_
      obtain ⟨x1, ex1, h⟩ := bdE h
      refine wd_iald CF hE hW sh_371 ex1 dX7_rolls_15 ?_
      refine lv_icmp_ge (tgt := 72) hx hb dX7_rolls_16 (by decide) (fun c2 => ?_) (fun c2 => ?_)
      · rw [if_pos c2] at h
        refine lv_iload_n hx hb dX7_rolls_72 rfl (lv_at hl 3 rfl) ?_
        have h := Option.some.inj h
        subst h
        exact wd_iret CF hret hlk hW hS dX7_rolls_73
      · rw [if_neg c2] at h
        refine lv_aload_n hx hb dX7_rolls_19 rfl (lv_at hl 0 rfl) ?_
        refine wd_getR CF hE hW fl_X7_7 sh_370 rf_370_0 rfl dX7_rolls_20 ?_
        refine lv_iload_n hx hb dX7_rolls_23 rfl (lv_at hl 1 rfl) ?_
        refine lv_bipush (v := 8) hx hb dX7_rolls_24 (by decide) ?_
        refine lv_iadd hx hb dX7_rolls_26 ?_
        refine lv_iload hx hb dX7_rolls_27 (lv_at hl 4 rfl) ?_
        refine lv_iadd hx hb dX7_rolls_29 ?_
        obtain ⟨x3, ex3, h⟩ := bdE h
        refine wd_iald CF hE hW sh_371 ex3 dX7_rolls_30 ?_
        refine lv_iconst (v := 2) hx hb dX7_rolls_31 (by decide) ?_
        refine lv_icmp_ne (tgt := 66) hx hb dX7_rolls_32 (by decide) (fun c4 => ?_) (fun c4 => ?_)
        · rw [if_neg c4] at h
          exact hL66 v3 v4 D _ _ _  hW hS (lv_sub hl [0, 1, 2, 3, 4] rfl) h
        · rw [if_pos c4] at h
          refine lv_aload_n hx hb dX7_rolls_35 rfl (lv_at hl 0 rfl) ?_
          refine lv_iload_n hx hb dX7_rolls_36 rfl (lv_at hl 1 rfl) ?_
          refine lv_iload hx hb dX7_rolls_37 (lv_at hl 4 rfl) ?_
          obtain ⟨x5, ex5, h⟩ := bdE h
          refine wd_callVr (ci := 7) (k := 370) CF hE hW hS (x_X7_isOut l X a1 v4 D ex5) mi_X7_isOut vi_X7_isOut tw921 ⟨by decide, rfl⟩ sh_370 ⟨rfl, rfl, Nat.le_of_ble_eq_true rfl, Nat.le_of_ble_eq_true rfl⟩ rfl hl.1 rfl (Nat.le_of_ble_eq_true rfl) dX7_rolls_39 ⟨Nat.le_of_ble_eq_true rfl, Nat.le_of_ble_eq_true rfl⟩ (fun H locs hW hS => ?_)
          refine lv_if_ne (tgt := 66) hx hb dX7_rolls_42 (by decide) (fun c6 => ?_) (fun c6 => ?_)
          · rw [if_neg c6] at h
            exact hL66 v3 v4 D _ _ _  hW hS (lv_sub hl [0, 1, 2, 3, 4] rfl) h
          · rw [if_pos c6] at h
            refine lv_iload_n hx hb dX7_rolls_45 rfl (lv_at hl 2 rfl) ?_
            refine lv_aload_n hx hb dX7_rolls_46 rfl (lv_at hl 0 rfl) ?_
            refine lv_iload_n hx hb dX7_rolls_47 rfl (lv_at hl 1 rfl) ?_
            refine lv_iload hx hb dX7_rolls_48 (lv_at hl 4 rfl) ?_
            obtain ⟨x7, ex7, h⟩ := bdE h
            refine wd_callVr (ci := 7) (k := 370) CF hE hW hS (x_X7_bears l X a1 v4 D ex7) mi_X7_bears vi_X7_bears tw931 ⟨by decide, rfl⟩ sh_370 ⟨rfl, rfl, Nat.le_of_ble_eq_true rfl, Nat.le_of_ble_eq_true rfl⟩ rfl hl.1 rfl (Nat.le_of_ble_eq_true rfl) dX7_rolls_50 ⟨Nat.le_of_ble_eq_true rfl, Nat.le_of_ble_eq_true rfl⟩ (fun H locs hW hS => ?_)
            refine lv_icmp_le (tgt := 66) hx hb dX7_rolls_53 (by decide) (fun c8 => ?_) (fun c8 => ?_)
            · rw [if_pos c8] at h
              exact hL66 v3 v4 D _ _ _  hW hS (lv_sub hl [0, 1, 2, 3, 4] rfl) h
            · rw [if_neg c8] at h
              refine lv_aload_n hx hb dX7_rolls_56 rfl (lv_at hl 0 rfl) ?_
              refine lv_iload_n hx hb dX7_rolls_57 rfl (lv_at hl 1 rfl) ?_
              refine lv_iload hx hb dX7_rolls_58 (lv_at hl 4 rfl) ?_
              obtain ⟨q9, eq9, h⟩ := bdE h
              refine wd_callVv (ci := 7) (k := 370) CF hE hW hS (x_X7_wakesUp l X a1 v4 D eq9) mi_X7_wakesUp vi_X7_wakesUp tw943 ⟨by decide, rfl⟩ sh_370 ⟨rfl, rfl, Nat.le_of_ble_eq_true rfl, Nat.le_of_ble_eq_true rfl⟩ rfl hl.1 rfl (Nat.le_of_ble_eq_true rfl) dX7_rolls_60 ⟨Nat.le_of_ble_eq_true rfl, Nat.le_of_ble_eq_true rfl⟩ (fun H locs hW hS => ?_)
              obtain ⟨x10, ex10⟩ : ∃ y : Int32, y = v3 + 1 := ⟨_, rfl⟩
              replace h := apR ex10 h
              refine lv_iinc (v := x10) (lv' := [(3, .int x10), (0, .ref (X.2.2.1 + 370)), (1, .int a1), (2, .int a2), (4, .int v4)]) hx hb dX7_rolls_63 hl (k := 3) rfl (by rw [ex10]; rfl) (by decide) rfl (fun ls hl => ?_)
              exact hL66 x10 v4 q9 _ _ _  hW hS (lv_sub hl [1, 2, 3, 0, 4] rfl) h
  refine lv_iconst (v := 0) hx hb dX7_rolls_0 (by decide) ?_
  refine lv_istore_n (lv' := [(3, .int 0), (0, .ref (X.2.2.1 + 370)), (1, .int a1), (2, .int a2)]) hx hb dX7_rolls_1 rfl hl (by decide) rfl (fun ls hl => ?_)
  refine lv_iconst (v := 0) hx hb dX7_rolls_2 (by decide) ?_
  refine lv_istore (lv' := [(4, .int 0), (3, .int 0), (0, .ref (X.2.2.1 + 370)), (1, .int a1), (2, .int a2)]) hx hb dX7_rolls_3 hl (by decide) rfl (fun ls hl => ?_)
  exact hL5 FU 0 0 D _ _ _  hW hS (lv_sub hl [2, 3, 4, 1, 0] rfl) h
def f_X7_thoseWho_L44 (k5 : Int32 → Int32 → Int32 → Int32 → wd_D → Option (Int32)) (a1 : Int32) (a2 : Int32) (v4 : Int32) (z0 : Int32) (z1 : Int32) (D : wd_D) : Option (Int32) := ap (z1 ||| z0) (fun x5 => ap (v4 + 1) (fun x6 => k5 a1 a2 x5 x6 D))
def f_X7_thoseWho_L5  : Nat → Int32 → Int32 → Int32 → Int32 → wd_D → Option (Int32)
  | 0, _, _, _, _, _ => none
  | n + 1, a1, a2, v3, v4, D => (rd 252 D 371 (a1 + 41)).bind (fun x1 => (if x1 ≤ v4 then some v3 else (rd 252 D 371 ((a1 + 8) + v4)).bind (fun x3 => (if x3 = a2 then f_X7_thoseWho_L44 (f_X7_thoseWho_L5 n) a1 a2 v4 ((1 : Int32) <<< (v4 &&& 31)) v3 D else f_X7_thoseWho_L44 (f_X7_thoseWho_L5 n) a1 a2 v4 0 v3 D))))
def f_X7_thoseWho (a1 : Int32) (a2 : Int32) (D : wd_D) : Option (Int32) := f_X7_thoseWho_L5 FU a1 a2 0 0 D
set_option maxHeartbeats 4000000 in
set_option maxRecDepth 100000 in
theorem x_X7_thoseWho (l : Launch) (X : wd_X) (a1 : Int32) (a2 : Int32) (D : wd_D) {rv : Int32} (h : f_X7_thoseWho a1 a2 D = some rv) : wd_Met l X yX7_thoseWho cX7_thoseWho 5 (some FieldType.int) ({ frames := 0, cells := 0, slots := 0, locals := 0 }) S0 S0 ([.ref (X.2.2.1 + 370), .int a1, .int a2] : List Value) D D (some (.int rv)) 0 0 := by
  refine wd_enter (by decide) (Nat.le_of_ble_eq_true rfl) ?_
  intro p e s m below meth c CF hret hlk hnm hW hE ls hl
  have CF : CallFix p m c cX7_thoseWho 5 s ([.ref (X.2.2.1 + 370), .int a1, .int a2] : List Value).toArray tg RX7 := CF
  have hx := CF.1
  have hb := CF.2.1
  have hown := CF.2.2.2.1
  have hts := CF.2.2.2.2
  have hS : va_S (wd_A X) s.heap s.heap [] := va_S.rf
  have hl : lv_has ls 5 [(0, .ref (X.2.2.1 + 370)), (1, .int a1), (2, .int a2)] := hl
  unfold f_X7_thoseWho at h
  have hL5 : ∀ (n5 : Nat) (v3 : Int32) (v4 : Int32) (H : Heap) (locs : List Loc) (ls : Array Slot), Wd X S0 D H → va_S (wd_A X) s.heap H locs → lv_has ls 5 [(0, .ref (X.2.2.1 + 370)), (1, .int a1), (2, .int a2), (3, .int v3), (4, .int v4)] → f_X7_thoseWho_L5 n5 a1 a2 v3 v4 D = some rv → W p l e ({ frames := 0, cells := 0, slots := 0, locals := 0 }) s m ([.ref (X.2.2.1 + 370), .int a1, .int a2] : List Value).toArray below meth c H locs 0 0 (MQ below (wd_Q X S0 D (some (.int rv))) ([.ref (X.2.2.1 + 370), .int a1, .int a2] : List Value).toArray s 0 0 (wd_A X)) (F0 m 5 ls []) := by
    intro n5
    induction n5 with
    | zero => intro v3 v4 H locs ls hW hS hl h; cases h
    | succ n5 ih5 =>
      have hL44 : ∀ (v4 : Int32) (z0 : Int32) (z1 : Int32) (H : Heap) (locs : List Loc) (ls : Array Slot), Wd X S0 D H → va_S (wd_A X) s.heap H locs → lv_has ls 5 [(0, .ref (X.2.2.1 + 370)), (1, .int a1), (2, .int a2), (4, .int v4)] → f_X7_thoseWho_L44 (f_X7_thoseWho_L5 n5) a1 a2 v4 z0 z1 D = some rv → W p l e ({ frames := 0, cells := 0, slots := 0, locals := 0 }) s m ([.ref (X.2.2.1 + 370), .int a1, .int a2] : List Value).toArray below meth c H locs 0 0 (MQ below (wd_Q X S0 D (some (.int rv))) ([.ref (X.2.2.1 + 370), .int a1, .int a2] : List Value).toArray s 0 0 (wd_A X)) (F0 m 44 ls [.int z0, .int z1]) := by
        intro v4 z0 z1 H locs ls hW hS hl h
        unfold f_X7_thoseWho_L44 at h
        refine lv_ior hx hb dX7_thoseWho_44 ?_
        refine lv_topi (fun x5 ex5 => ?_)
        replace h := apR ex5 h
        refine lv_istore_n (lv' := [(3, .int x5), (0, .ref (X.2.2.1 + 370)), (1, .int a1), (2, .int a2), (4, .int v4)]) hx hb dX7_thoseWho_45 rfl hl (by decide) rfl (fun ls hl => ?_)
        obtain ⟨x6, ex6⟩ : ∃ y : Int32, y = v4 + 1 := ⟨_, rfl⟩
        replace h := apR ex6 h
        refine lv_iinc (v := x6) (lv' := [(4, .int x6), (3, .int x5), (0, .ref (X.2.2.1 + 370)), (1, .int a1), (2, .int a2)]) hx hb dX7_thoseWho_46 hl (k := 4) rfl (by rw [ex6]; rfl) (by decide) rfl (fun ls hl => ?_)
        refine lv_goto (tgt := 5) hx hb dX7_thoseWho_49 (by decide) ?_
        exact ih5 x5 x6 _ _ _  hW hS (lv_sub hl [2, 3, 4, 1, 0] rfl) h
      intro v3 v4 H locs ls hW hS hl h
      rw [f_X7_thoseWho_L5] at h
      refine lv_iload hx hb dX7_thoseWho_5 (lv_at hl 4 rfl) ?_
      refine lv_aload_n hx hb dX7_thoseWho_7 rfl (lv_at hl 0 rfl) ?_
      refine wd_getR CF hE hW fl_X7_7 sh_370 rf_370_0 rfl dX7_thoseWho_8 ?_
      refine lv_iload_n hx hb dX7_thoseWho_11 rfl (lv_at hl 1 rfl) ?_
      refine lv_bipush (v := 41) hx hb dX7_thoseWho_12 (by decide) ?_
      refine lv_iadd hx hb dX7_thoseWho_14 ?_
      obtain ⟨x1, ex1, h⟩ := bdE h
      refine wd_iald CF hE hW sh_371 ex1 dX7_thoseWho_15 ?_
      refine lv_icmp_ge (tgt := 52) hx hb dX7_thoseWho_16 (by decide) (fun c2 => ?_) (fun c2 => ?_)
      · rw [if_pos c2] at h
        refine lv_iload_n hx hb dX7_thoseWho_52 rfl (lv_at hl 3 rfl) ?_
        have h := Option.some.inj h
        subst h
        exact wd_iret CF hret hlk hW hS dX7_thoseWho_53
      · rw [if_neg c2] at h
        refine lv_iload_n hx hb dX7_thoseWho_19 rfl (lv_at hl 3 rfl) ?_
        refine lv_aload_n hx hb dX7_thoseWho_20 rfl (lv_at hl 0 rfl) ?_
        refine wd_getR CF hE hW fl_X7_7 sh_370 rf_370_0 rfl dX7_thoseWho_21 ?_
        refine lv_iload_n hx hb dX7_thoseWho_24 rfl (lv_at hl 1 rfl) ?_
        refine lv_bipush (v := 8) hx hb dX7_thoseWho_25 (by decide) ?_
        refine lv_iadd hx hb dX7_thoseWho_27 ?_
        refine lv_iload hx hb dX7_thoseWho_28 (lv_at hl 4 rfl) ?_
        refine lv_iadd hx hb dX7_thoseWho_30 ?_
        obtain ⟨x3, ex3, h⟩ := bdE h
        refine wd_iald CF hE hW sh_371 ex3 dX7_thoseWho_31 ?_
        refine lv_iload_n hx hb dX7_thoseWho_32 rfl (lv_at hl 2 rfl) ?_
        refine lv_icmp_ne (tgt := 43) hx hb dX7_thoseWho_33 (by decide) (fun c4 => ?_) (fun c4 => ?_)
        · rw [if_neg c4] at h
          refine lv_iconst (v := 0) hx hb dX7_thoseWho_43 (by decide) ?_
          exact hL44 v4 0 v3 _ _ _  hW hS (lv_sub hl [0, 1, 2, 4] rfl) h
        · rw [if_pos c4] at h
          refine lv_iconst (v := 1) hx hb dX7_thoseWho_36 (by decide) ?_
          refine lv_iload hx hb dX7_thoseWho_37 (lv_at hl 4 rfl) ?_
          refine lv_ishl hx hb dX7_thoseWho_39 ?_
          refine lv_goto (tgt := 44) hx hb dX7_thoseWho_40 (by decide) ?_
          exact hL44 v4 ((1 : Int32) <<< (v4 &&& 31)) v3 _ _ _  hW hS (lv_sub hl [0, 1, 2, 4] rfl) h
  refine lv_iconst (v := 0) hx hb dX7_thoseWho_0 (by decide) ?_
  refine lv_istore_n (lv' := [(3, .int 0), (0, .ref (X.2.2.1 + 370)), (1, .int a1), (2, .int a2)]) hx hb dX7_thoseWho_1 rfl hl (by decide) rfl (fun ls hl => ?_)
  refine lv_iconst (v := 0) hx hb dX7_thoseWho_2 (by decide) ?_
  refine lv_istore (lv' := [(4, .int 0), (3, .int 0), (0, .ref (X.2.2.1 + 370)), (1, .int a1), (2, .int a2)]) hx hb dX7_thoseWho_3 hl (by decide) rfl (fun ls hl => ?_)
  exact hL5 FU 0 0 _ _ _  hW hS (lv_sub hl [2, 3, 4, 1, 0] rfl) h
def f_X7_allSleep (a1 : Int32) (D : wd_D) : Option (Int32) := (rd 252 D 371 (a1 + 41)).bind (fun x1 => (rd 252 D 371 (a1 + 36)).bind (fun x2 => (f_X7_thoseWho a1 2 D).bind (fun x3 => (if (((((1 : Int32) <<< (x1 &&& 31)) - 1) &&& (x2 ^^^ (-1))) &&& (x3 ^^^ (-1))) = 0 then some 1 else some 0))))
set_option maxHeartbeats 4000000 in
set_option maxRecDepth 100000 in
theorem x_X7_allSleep (l : Launch) (X : wd_X) (a1 : Int32) (D : wd_D) {rv : Int32} (h : f_X7_allSleep a1 D = some rv) : wd_Met l X yX7_allSleep cX7_allSleep 2 (some FieldType.boolean) ({ frames := 1, cells := 0, slots := 0, locals := 100 }) S0 S0 ([.ref (X.2.2.1 + 370), .int a1] : List Value) D D (some (.int rv)) 0 0 := by
  refine wd_enter (by decide) (Nat.le_of_ble_eq_true rfl) ?_
  intro p e s m below meth c CF hret hlk hnm hW hE ls hl
  have CF : CallFix p m c cX7_allSleep 2 s ([.ref (X.2.2.1 + 370), .int a1] : List Value).toArray tg RX7 := CF
  have hx := CF.1
  have hb := CF.2.1
  have hown := CF.2.2.2.1
  have hts := CF.2.2.2.2
  have hS : va_S (wd_A X) s.heap s.heap [] := va_S.rf
  have hl : lv_has ls 2 [(0, .ref (X.2.2.1 + 370)), (1, .int a1)] := hl
  unfold f_X7_allSleep at h
  refine lv_iconst (v := 1) hx hb dX7_allSleep_0 (by decide) ?_
  refine lv_aload_n hx hb dX7_allSleep_1 rfl (lv_at hl 0 rfl) ?_
  refine wd_getR CF hE hW fl_X7_7 sh_370 rf_370_0 rfl dX7_allSleep_2 ?_
  refine lv_iload_n hx hb dX7_allSleep_5 rfl (lv_at hl 1 rfl) ?_
  refine lv_bipush (v := 41) hx hb dX7_allSleep_6 (by decide) ?_
  refine lv_iadd hx hb dX7_allSleep_8 ?_
  obtain ⟨x1, ex1, h⟩ := bdE h
  refine wd_iald CF hE hW sh_371 ex1 dX7_allSleep_9 ?_
  refine lv_ishl hx hb dX7_allSleep_10 ?_
  refine lv_iconst (v := 1) hx hb dX7_allSleep_11 (by decide) ?_
  refine lv_isub hx hb dX7_allSleep_12 ?_
  refine lv_aload_n hx hb dX7_allSleep_13 rfl (lv_at hl 0 rfl) ?_
  refine wd_getR CF hE hW fl_X7_7 sh_370 rf_370_0 rfl dX7_allSleep_14 ?_
  refine lv_iload_n hx hb dX7_allSleep_17 rfl (lv_at hl 1 rfl) ?_
  refine lv_bipush (v := 36) hx hb dX7_allSleep_18 (by decide) ?_
  refine lv_iadd hx hb dX7_allSleep_20 ?_
  obtain ⟨x2, ex2, h⟩ := bdE h
  refine wd_iald CF hE hW sh_371 ex2 dX7_allSleep_21 ?_
  refine lv_iconst (v := (-1)) hx hb dX7_allSleep_22 (by decide) ?_
  refine lv_ixor hx hb dX7_allSleep_23 ?_
  refine lv_iand hx hb dX7_allSleep_24 ?_
  refine lv_aload_n hx hb dX7_allSleep_25 rfl (lv_at hl 0 rfl) ?_
  refine lv_iload_n hx hb dX7_allSleep_26 rfl (lv_at hl 1 rfl) ?_
  refine lv_iconst (v := 2) hx hb dX7_allSleep_27 (by decide) ?_
  obtain ⟨x3, ex3, h⟩ := bdE h
  refine wd_callVr (ci := 7) (k := 370) CF hE hW hS (x_X7_thoseWho l X a1 2 D ex3) mi_X7_thoseWho vi_X7_thoseWho tw947 ⟨by decide, rfl⟩ sh_370 ⟨rfl, rfl, Nat.le_of_ble_eq_true rfl, Nat.le_of_ble_eq_true rfl⟩ rfl hl.1 rfl (Nat.le_of_ble_eq_true rfl) dX7_allSleep_28 ⟨Nat.le_of_ble_eq_true rfl, Nat.le_of_ble_eq_true rfl⟩ (fun H locs hW hS => ?_)
  refine lv_iconst (v := (-1)) hx hb dX7_allSleep_31 (by decide) ?_
  refine lv_ixor hx hb dX7_allSleep_32 ?_
  refine lv_iand hx hb dX7_allSleep_33 ?_
  refine lv_if_ne (tgt := 41) hx hb dX7_allSleep_34 (by decide) (fun c4 => ?_) (fun c4 => ?_)
  · rw [if_neg c4] at h
    refine lv_iconst (v := 0) hx hb dX7_allSleep_41 (by decide) ?_
    have h := Option.some.inj h
    subst h
    exact wd_zret CF hret hlk hW hS (Or.inl rfl) dX7_allSleep_42
  · rw [if_pos c4] at h
    refine lv_iconst (v := 1) hx hb dX7_allSleep_37 (by decide) ?_
    refine lv_goto (tgt := 42) hx hb dX7_allSleep_38 (by decide) ?_
    have h := Option.some.inj h
    subst h
    exact wd_zret CF hret hlk hW hS (Or.inr rfl) dX7_allSleep_42
def f_X7_minds_L51  : Nat → Int32 → wd_D → Option (wd_D)
  | 0, _, _ => none
  | n + 1, v1, D => (if 38 ≤ v1 then ap (sI D 370 3 ((gI D 370 3) + 1)) (fun D8 => some D8) else (rd 252 D 371 v1).bind (fun x9 => (wr 912 D 373 ((38 * (gI D 370 3)) + v1) x9).bind (fun D10 => ap (v1 + 1) (fun x11 => (f_X7_minds_L51 n) x11 D10))))
def f_X7_minds_L49  (D : wd_D) : Option (wd_D) := f_X7_minds_L51 FU 0 D
def f_X7_minds_L11  : Nat → Int32 → wd_D → Option (wd_D)
  | 0, _, _ => none
  | n + 1, v1, D => (if 874 ≤ v1 then ap (sI D 370 3 ((gI D 370 3) - 1)) (fun D3 => f_X7_minds_L49 D3) else (rd 912 D 373 (v1 + 38)).bind (fun x4 => (wr 912 D 373 v1 x4).bind (fun D5 => ap (v1 + 1) (fun x6 => (f_X7_minds_L11 n) x6 D5))))
def f_X7_minds  (D : wd_D) : Option (wd_D) := (if (gI D 370 3) = 24 then f_X7_minds_L11 FU 0 D else f_X7_minds_L49 D)
set_option maxHeartbeats 4000000 in
set_option maxRecDepth 100000 in
theorem x_X7_minds (l : Launch) (X : wd_X)  (D : wd_D) {qv : wd_D} (h : f_X7_minds  D = some qv) : wd_Met l X yX7_minds cX7_minds 2 (none : Option FieldType) ({ frames := 0, cells := 0, slots := 0, locals := 0 }) S0 S0 ([.ref (X.2.2.1 + 370)] : List Value) D qv none 0 0 := by
  refine wd_enter (by decide) (Nat.le_of_ble_eq_true rfl) ?_
  intro p e s m below meth c CF hret hlk hnm hW hE ls hl
  have CF : CallFix p m c cX7_minds 2 s ([.ref (X.2.2.1 + 370)] : List Value).toArray tg RX7 := CF
  have hx := CF.1
  have hb := CF.2.1
  have hown := CF.2.2.2.1
  have hts := CF.2.2.2.2
  have hS : va_S (wd_A X) s.heap s.heap [] := va_S.rf
  have hl : lv_has ls 2 [(0, .ref (X.2.2.1 + 370))] := hl
  unfold f_X7_minds at h
  have hL51 : ∀ (n51 : Nat) (v1 : Int32) (D : wd_D) (H : Heap) (locs : List Loc) (ls : Array Slot), Wd X S0 D H → va_S (wd_A X) s.heap H locs → lv_has ls 2 [(0, .ref (X.2.2.1 + 370)), (1, .int v1)] → f_X7_minds_L51 n51 v1 D = some qv → W p l e ({ frames := 0, cells := 0, slots := 0, locals := 0 }) s m ([.ref (X.2.2.1 + 370)] : List Value).toArray below meth c H locs 0 0 (MQ below (wd_Q X S0 qv none) ([.ref (X.2.2.1 + 370)] : List Value).toArray s 0 0 (wd_A X)) (F0 m 51 ls []) := by
    intro n51
    induction n51 with
    | zero => intro v1 D H locs ls hW hS hl h; cases h
    | succ n51 ih51 =>
      intro v1 D H locs ls hW hS hl h
      rw [f_X7_minds_L51] at h
      refine lv_iload_n hx hb dX7_minds_51 rfl (lv_at hl 1 rfl) ?_
      refine lv_bipush (v := 38) hx hb dX7_minds_52 (by decide) ?_
      refine lv_icmp_ge (tgt := 83) hx hb dX7_minds_54 (by decide) (fun c7 => ?_) (fun c7 => ?_)
      · rw [if_pos c7] at h
        refine lv_aload_n hx hb dX7_minds_83 rfl (lv_at hl 0 rfl) ?_
        refine lv_dup hx hb dX7_minds_84 rfl ?_
        refine wd_get CF hE hW fl_X7_120 sh_370 (v := .int (gI D 370 3)) rfl dX7_minds_85 ?_
        refine lv_iconst (v := 1) hx hb dX7_minds_88 (by decide) ?_
        refine lv_iadd hx hb dX7_minds_89 ?_
        refine wd_putI CF hE hW hS fl_X7_120 sh_370 rfl rfl dX7_minds_90 (fun D8 H locs eD8 hW hS => ?_)
        replace h := apR eD8 h
        have h := Option.some.inj h
        subst h
        exact wd_vret CF hret hlk hW hS dX7_minds_93
      · rw [if_neg c7] at h
        refine lv_aload_n hx hb dX7_minds_57 rfl (lv_at hl 0 rfl) ?_
        refine wd_getR CF hE hW fl_X7_17 sh_370 rf_370_2 rfl dX7_minds_58 ?_
        refine lv_bipush (v := 38) hx hb dX7_minds_61 (by decide) ?_
        refine lv_aload_n hx hb dX7_minds_63 rfl (lv_at hl 0 rfl) ?_
        refine wd_get CF hE hW fl_X7_120 sh_370 (v := .int (gI D 370 3)) rfl dX7_minds_64 ?_
        refine lv_imul hx hb dX7_minds_67 ?_
        refine lv_iload_n hx hb dX7_minds_68 rfl (lv_at hl 1 rfl) ?_
        refine lv_iadd hx hb dX7_minds_69 ?_
        refine lv_aload_n hx hb dX7_minds_70 rfl (lv_at hl 0 rfl) ?_
        refine wd_getR CF hE hW fl_X7_7 sh_370 rf_370_0 rfl dX7_minds_71 ?_
        refine lv_iload_n hx hb dX7_minds_74 rfl (lv_at hl 1 rfl) ?_
        obtain ⟨x9, ex9, h⟩ := bdE h
        refine wd_iald CF hE hW sh_371 ex9 dX7_minds_75 ?_
        obtain ⟨D10, eD10, h⟩ := bdE h
        refine wd_iast CF hE hW hS sh_373 eD10 dX7_minds_76 (fun H locs hW hS => ?_)
        obtain ⟨x11, ex11⟩ : ∃ y : Int32, y = v1 + 1 := ⟨_, rfl⟩
        replace h := apR ex11 h
        refine lv_iinc (v := x11) (lv' := [(1, .int x11), (0, .ref (X.2.2.1 + 370))]) hx hb dX7_minds_77 hl (k := 1) rfl (by rw [ex11]; rfl) (by decide) rfl (fun ls hl => ?_)
        refine lv_goto (tgt := 51) hx hb dX7_minds_80 (by decide) ?_
        exact ih51 x11 D10 _ _ _  hW hS (lv_sub hl [1, 0] rfl) h
  have hL49 : ∀  (D : wd_D) (H : Heap) (locs : List Loc) (ls : Array Slot), Wd X S0 D H → va_S (wd_A X) s.heap H locs → lv_has ls 2 [(0, .ref (X.2.2.1 + 370))] → f_X7_minds_L49 D = some qv → W p l e ({ frames := 0, cells := 0, slots := 0, locals := 0 }) s m ([.ref (X.2.2.1 + 370)] : List Value).toArray below meth c H locs 0 0 (MQ below (wd_Q X S0 qv none) ([.ref (X.2.2.1 + 370)] : List Value).toArray s 0 0 (wd_A X)) (F0 m 49 ls []) := by
    intro D H locs ls hW hS hl h
    unfold f_X7_minds_L49 at h
    refine lv_iconst (v := 0) hx hb dX7_minds_49 (by decide) ?_
    refine lv_istore_n (lv' := [(1, .int 0), (0, .ref (X.2.2.1 + 370))]) hx hb dX7_minds_50 rfl hl (by decide) rfl (fun ls hl => ?_)
    exact hL51 FU 0 D _ _ _  hW hS (lv_sub hl [1, 0] rfl) h
  have hL11 : ∀ (n11 : Nat) (v1 : Int32) (D : wd_D) (H : Heap) (locs : List Loc) (ls : Array Slot), Wd X S0 D H → va_S (wd_A X) s.heap H locs → lv_has ls 2 [(0, .ref (X.2.2.1 + 370)), (1, .int v1)] → f_X7_minds_L11 n11 v1 D = some qv → W p l e ({ frames := 0, cells := 0, slots := 0, locals := 0 }) s m ([.ref (X.2.2.1 + 370)] : List Value).toArray below meth c H locs 0 0 (MQ below (wd_Q X S0 qv none) ([.ref (X.2.2.1 + 370)] : List Value).toArray s 0 0 (wd_A X)) (F0 m 11 ls []) := by
    intro n11
    induction n11 with
    | zero => intro v1 D H locs ls hW hS hl h; cases h
    | succ n11 ih11 =>
      intro v1 D H locs ls hW hS hl h
      rw [f_X7_minds_L11] at h
      refine lv_iload_n hx hb dX7_minds_11 rfl (lv_at hl 1 rfl) ?_
      refine lv_sipush (v := 874) hx hb dX7_minds_12 (by decide) ?_
      refine lv_icmp_ge (tgt := 39) hx hb dX7_minds_15 (by decide) (fun c2 => ?_) (fun c2 => ?_)
      · rw [if_pos c2] at h
        refine lv_aload_n hx hb dX7_minds_39 rfl (lv_at hl 0 rfl) ?_
        refine lv_dup hx hb dX7_minds_40 rfl ?_
        refine wd_get CF hE hW fl_X7_120 sh_370 (v := .int (gI D 370 3)) rfl dX7_minds_41 ?_
        refine lv_iconst (v := 1) hx hb dX7_minds_44 (by decide) ?_
        refine lv_isub hx hb dX7_minds_45 ?_
        refine wd_putI CF hE hW hS fl_X7_120 sh_370 rfl rfl dX7_minds_46 (fun D3 H locs eD3 hW hS => ?_)
        replace h := apR eD3 h
        exact hL49  D3 _ _ _  hW hS (lv_sub hl [0] rfl) h
      · rw [if_neg c2] at h
        refine lv_aload_n hx hb dX7_minds_18 rfl (lv_at hl 0 rfl) ?_
        refine wd_getR CF hE hW fl_X7_17 sh_370 rf_370_2 rfl dX7_minds_19 ?_
        refine lv_iload_n hx hb dX7_minds_22 rfl (lv_at hl 1 rfl) ?_
        refine lv_aload_n hx hb dX7_minds_23 rfl (lv_at hl 0 rfl) ?_
        refine wd_getR CF hE hW fl_X7_17 sh_370 rf_370_2 rfl dX7_minds_24 ?_
        refine lv_iload_n hx hb dX7_minds_27 rfl (lv_at hl 1 rfl) ?_
        refine lv_bipush (v := 38) hx hb dX7_minds_28 (by decide) ?_
        refine lv_iadd hx hb dX7_minds_30 ?_
        obtain ⟨x4, ex4, h⟩ := bdE h
        refine wd_iald CF hE hW sh_373 ex4 dX7_minds_31 ?_
        obtain ⟨D5, eD5, h⟩ := bdE h
        refine wd_iast CF hE hW hS sh_373 eD5 dX7_minds_32 (fun H locs hW hS => ?_)
        obtain ⟨x6, ex6⟩ : ∃ y : Int32, y = v1 + 1 := ⟨_, rfl⟩
        replace h := apR ex6 h
        refine lv_iinc (v := x6) (lv' := [(1, .int x6), (0, .ref (X.2.2.1 + 370))]) hx hb dX7_minds_33 hl (k := 1) rfl (by rw [ex6]; rfl) (by decide) rfl (fun ls hl => ?_)
        refine lv_goto (tgt := 11) hx hb dX7_minds_36 (by decide) ?_
        exact ih11 x6 D5 _ _ _  hW hS (lv_sub hl [1, 0] rfl) h
  refine lv_aload_n hx hb dX7_minds_0 rfl (lv_at hl 0 rfl) ?_
  refine wd_get CF hE hW fl_X7_120 sh_370 (v := .int (gI D 370 3)) rfl dX7_minds_1 ?_
  refine lv_bipush (v := 24) hx hb dX7_minds_4 (by decide) ?_
  refine lv_icmp_ne (tgt := 49) hx hb dX7_minds_6 (by decide) (fun c1 => ?_) (fun c1 => ?_)
  · rw [if_neg c1] at h
    exact hL49  D _ _ _  hW hS (lv_sub hl [0] rfl) h
  · rw [if_pos c1] at h
    refine lv_iconst (v := 0) hx hb dX7_minds_9 (by decide) ?_
    refine lv_istore_n (lv' := [(1, .int 0), (0, .ref (X.2.2.1 + 370))]) hx hb dX7_minds_10 rfl hl (by decide) rfl (fun ls hl => ?_)
    exact hL11 FU 0 D _ _ _  hW hS (lv_sub hl [1, 0] rfl) h
def f_X7_undo_L22  : Nat → Int32 → wd_D → Option (Int32 × wd_D)
  | 0, _, _ => none
  | n + 1, v1, D => (if 38 ≤ v1 then some (gI D 370 3, D) else (rd 912 D 373 ((38 * (gI D 370 3)) + v1)).bind (fun x4 => (wr 252 D 371 v1 x4).bind (fun D5 => ap (v1 + 1) (fun x6 => (f_X7_undo_L22 n) x6 D5))))
def f_X7_undo  (D : wd_D) : Option (Int32 × wd_D) := (if (gI D 370 3) = 0 then some ((-1000002), D) else ap (sI D 370 3 ((gI D 370 3) - 1)) (fun D2 => f_X7_undo_L22 FU 0 D2))
set_option maxHeartbeats 4000000 in
set_option maxRecDepth 100000 in
theorem x_X7_undo (l : Launch) (X : wd_X)  (D : wd_D) {qv : Int32 × wd_D} (h : f_X7_undo  D = some qv) : wd_Met l X yX7_undo cX7_undo 2 (some FieldType.int) ({ frames := 0, cells := 0, slots := 0, locals := 0 }) S0 S0 ([.ref (X.2.2.1 + 370)] : List Value) D qv.2 (some (.int qv.1)) 0 0 := by
  refine wd_enter (by decide) (Nat.le_of_ble_eq_true rfl) ?_
  intro p e s m below meth c CF hret hlk hnm hW hE ls hl
  have CF : CallFix p m c cX7_undo 2 s ([.ref (X.2.2.1 + 370)] : List Value).toArray tg RX7 := CF
  have hx := CF.1
  have hb := CF.2.1
  have hown := CF.2.2.2.1
  have hts := CF.2.2.2.2
  have hS : va_S (wd_A X) s.heap s.heap [] := va_S.rf
  have hl : lv_has ls 2 [(0, .ref (X.2.2.1 + 370))] := hl
  unfold f_X7_undo at h
  have hL22 : ∀ (n22 : Nat) (v1 : Int32) (D : wd_D) (H : Heap) (locs : List Loc) (ls : Array Slot), Wd X S0 D H → va_S (wd_A X) s.heap H locs → lv_has ls 2 [(0, .ref (X.2.2.1 + 370)), (1, .int v1)] → f_X7_undo_L22 n22 v1 D = some qv → W p l e ({ frames := 0, cells := 0, slots := 0, locals := 0 }) s m ([.ref (X.2.2.1 + 370)] : List Value).toArray below meth c H locs 0 0 (MQ below (wd_Q X S0 qv.2 (some (.int qv.1))) ([.ref (X.2.2.1 + 370)] : List Value).toArray s 0 0 (wd_A X)) (F0 m 22 ls []) := by
    intro n22
    induction n22 with
    | zero => intro v1 D H locs ls hW hS hl h; cases h
    | succ n22 ih22 =>
      intro v1 D H locs ls hW hS hl h
      rw [f_X7_undo_L22] at h
      refine lv_iload_n hx hb dX7_undo_22 rfl (lv_at hl 1 rfl) ?_
      refine lv_bipush (v := 38) hx hb dX7_undo_23 (by decide) ?_
      refine lv_icmp_ge (tgt := 54) hx hb dX7_undo_25 (by decide) (fun c3 => ?_) (fun c3 => ?_)
      · rw [if_pos c3] at h
        refine lv_aload_n hx hb dX7_undo_54 rfl (lv_at hl 0 rfl) ?_
        refine wd_get CF hE hW fl_X7_120 sh_370 (v := .int (gI D 370 3)) rfl dX7_undo_55 ?_
        have h := Option.some.inj h
        subst h
        exact wd_iret CF hret hlk hW hS dX7_undo_58
      · rw [if_neg c3] at h
        refine lv_aload_n hx hb dX7_undo_28 rfl (lv_at hl 0 rfl) ?_
        refine wd_getR CF hE hW fl_X7_7 sh_370 rf_370_0 rfl dX7_undo_29 ?_
        refine lv_iload_n hx hb dX7_undo_32 rfl (lv_at hl 1 rfl) ?_
        refine lv_aload_n hx hb dX7_undo_33 rfl (lv_at hl 0 rfl) ?_
        refine wd_getR CF hE hW fl_X7_17 sh_370 rf_370_2 rfl dX7_undo_34 ?_
        refine lv_bipush (v := 38) hx hb dX7_undo_37 (by decide) ?_
        refine lv_aload_n hx hb dX7_undo_39 rfl (lv_at hl 0 rfl) ?_
        refine wd_get CF hE hW fl_X7_120 sh_370 (v := .int (gI D 370 3)) rfl dX7_undo_40 ?_
        refine lv_imul hx hb dX7_undo_43 ?_
        refine lv_iload_n hx hb dX7_undo_44 rfl (lv_at hl 1 rfl) ?_
        refine lv_iadd hx hb dX7_undo_45 ?_
        obtain ⟨x4, ex4, h⟩ := bdE h
        refine wd_iald CF hE hW sh_373 ex4 dX7_undo_46 ?_
        obtain ⟨D5, eD5, h⟩ := bdE h
        refine wd_iast CF hE hW hS sh_371 eD5 dX7_undo_47 (fun H locs hW hS => ?_)
        obtain ⟨x6, ex6⟩ : ∃ y : Int32, y = v1 + 1 := ⟨_, rfl⟩
        replace h := apR ex6 h
        refine lv_iinc (v := x6) (lv' := [(1, .int x6), (0, .ref (X.2.2.1 + 370))]) hx hb dX7_undo_48 hl (k := 1) rfl (by rw [ex6]; rfl) (by decide) rfl (fun ls hl => ?_)
        refine lv_goto (tgt := 22) hx hb dX7_undo_51 (by decide) ?_
        exact ih22 x6 D5 _ _ _  hW hS (lv_sub hl [1, 0] rfl) h
  refine lv_aload_n hx hb dX7_undo_0 rfl (lv_at hl 0 rfl) ?_
  refine wd_get CF hE hW fl_X7_120 sh_370 (v := .int (gI D 370 3)) rfl dX7_undo_1 ?_
  refine lv_if_ne (tgt := 10) hx hb dX7_undo_4 (by decide) (fun c1 => ?_) (fun c1 => ?_)
  · rw [if_neg c1] at h
    refine lv_aload_n hx hb dX7_undo_10 rfl (lv_at hl 0 rfl) ?_
    refine lv_dup hx hb dX7_undo_11 rfl ?_
    refine wd_get CF hE hW fl_X7_120 sh_370 (v := .int (gI D 370 3)) rfl dX7_undo_12 ?_
    refine lv_iconst (v := 1) hx hb dX7_undo_15 (by decide) ?_
    refine lv_isub hx hb dX7_undo_16 ?_
    refine wd_putI CF hE hW hS fl_X7_120 sh_370 rfl rfl dX7_undo_17 (fun D2 H locs eD2 hW hS => ?_)
    replace h := apR eD2 h
    refine lv_iconst (v := 0) hx hb dX7_undo_20 (by decide) ?_
    refine lv_istore_n (lv' := [(1, .int 0), (0, .ref (X.2.2.1 + 370))]) hx hb dX7_undo_21 rfl hl (by decide) rfl (fun ls hl => ?_)
    exact hL22 FU 0 D2 _ _ _  hW hS (lv_sub hl [1, 0] rfl) h
  · rw [if_pos c1] at h
    refine lv_ldc (v := (-1000002)) hx hb hown (hts _ tw899) dX7_undo_7 ?_
    have h := Option.some.inj h
    subst h
    exact wd_iret CF hret hlk hW hS dX7_undo_9
def f_X7_minutes_L44  : Nat → Int32 → Int32 → wd_D → Option (Int32 × wd_D)
  | 0, _, _, _ => none
  | n + 1, a1, v2, D => (if a1 ≤ v2 then (f_X7_thoseWho 0 2 D).bind (fun x7 => some (x7, D)) else (f_X7_minds D).bind (fun q8 => (f_X7_passes 0 q8).bind (fun q9 => ap (v2 + 1) (fun x10 => (f_X7_minutes_L44 n) a1 x10 q9))))
def f_X7_minutes (a1 : Int32) (D : wd_D) : Option (Int32 × wd_D) := (f_X7_isRoom D).bind (fun x1 => (if x1 = 0 then some ((-1000002), D) else (if (f_X7_in a1.toInt64 1 24) = 0 then some ((-1000001), D) else (rd 252 D 371 0).bind (fun x4 => (if (x4 + a1) ≤ 999 then f_X7_minutes_L44 FU a1 0 D else some ((-1000003), D))))))
set_option maxHeartbeats 4000000 in
set_option maxRecDepth 100000 in
theorem x_X7_minutes (l : Launch) (X : wd_X) (a1 : Int32) (D : wd_D) {qv : Int32 × wd_D} (h : f_X7_minutes a1 D = some qv) : wd_Met l X yX7_minutes cX7_minutes 3 (some FieldType.int) ({ frames := 4, cells := 0, slots := 0, locals := 400 }) S0 S0 ([.ref (X.2.2.1 + 370), .int a1] : List Value) D qv.2 (some (.int qv.1)) 0 0 := by
  refine wd_enter (by decide) (Nat.le_of_ble_eq_true rfl) ?_
  intro p e s m below meth c CF hret hlk hnm hW hE ls hl
  have CF : CallFix p m c cX7_minutes 3 s ([.ref (X.2.2.1 + 370), .int a1] : List Value).toArray tg RX7 := CF
  have hx := CF.1
  have hb := CF.2.1
  have hown := CF.2.2.2.1
  have hts := CF.2.2.2.2
  have hS : va_S (wd_A X) s.heap s.heap [] := va_S.rf
  have hl : lv_has ls 3 [(0, .ref (X.2.2.1 + 370)), (1, .int a1)] := hl
  unfold f_X7_minutes at h
  have hL44 : ∀ (n44 : Nat) (v2 : Int32) (D : wd_D) (H : Heap) (locs : List Loc) (ls : Array Slot), Wd X S0 D H → va_S (wd_A X) s.heap H locs → lv_has ls 3 [(0, .ref (X.2.2.1 + 370)), (1, .int a1), (2, .int v2)] → f_X7_minutes_L44 n44 a1 v2 D = some qv → W p l e ({ frames := 4, cells := 0, slots := 0, locals := 400 }) s m ([.ref (X.2.2.1 + 370), .int a1] : List Value).toArray below meth c H locs 0 0 (MQ below (wd_Q X S0 qv.2 (some (.int qv.1))) ([.ref (X.2.2.1 + 370), .int a1] : List Value).toArray s 0 0 (wd_A X)) (F0 m 44 ls []) := by
    intro n44
    induction n44 with
    | zero => intro v2 D H locs ls hW hS hl h; cases h
    | succ n44 ih44 =>
      intro v2 D H locs ls hW hS hl h
      rw [f_X7_minutes_L44] at h
      refine lv_iload_n hx hb dX7_minutes_44 rfl (lv_at hl 2 rfl) ?_
      refine lv_iload_n hx hb dX7_minutes_45 rfl (lv_at hl 1 rfl) ?_
      refine lv_icmp_ge (tgt := 64) hx hb dX7_minutes_46 (by decide) (fun c6 => ?_) (fun c6 => ?_)
      · rw [if_pos c6] at h
        refine lv_aload_n hx hb dX7_minutes_64 rfl (lv_at hl 0 rfl) ?_
        refine lv_iconst (v := 0) hx hb dX7_minutes_65 (by decide) ?_
        refine lv_iconst (v := 2) hx hb dX7_minutes_66 (by decide) ?_
        obtain ⟨x7, ex7, h⟩ := bdE h
        refine wd_callVr (ci := 7) (k := 370) CF hE hW hS (x_X7_thoseWho l X 0 2 D ex7) mi_X7_thoseWho vi_X7_thoseWho tw947 ⟨by decide, rfl⟩ sh_370 ⟨rfl, rfl, Nat.le_of_ble_eq_true rfl, Nat.le_of_ble_eq_true rfl⟩ rfl hl.1 rfl (Nat.le_of_ble_eq_true rfl) dX7_minutes_67 ⟨Nat.le_of_ble_eq_true rfl, Nat.le_of_ble_eq_true rfl⟩ (fun H locs hW hS => ?_)
        have h := Option.some.inj h
        subst h
        exact wd_iret CF hret hlk hW hS dX7_minutes_70
      · rw [if_neg c6] at h
        refine lv_aload_n hx hb dX7_minutes_49 rfl (lv_at hl 0 rfl) ?_
        obtain ⟨q8, eq8, h⟩ := bdE h
        refine wd_callVv (ci := 7) (k := 370) CF hE hW hS (x_X7_minds l X D eq8) mi_X7_minds vi_X7_minds tw909 ⟨by decide, rfl⟩ sh_370 ⟨rfl, rfl, Nat.le_of_ble_eq_true rfl, Nat.le_of_ble_eq_true rfl⟩ rfl hl.1 rfl (Nat.le_of_ble_eq_true rfl) dX7_minutes_50 ⟨Nat.le_of_ble_eq_true rfl, Nat.le_of_ble_eq_true rfl⟩ (fun H locs hW hS => ?_)
        refine lv_aload_n hx hb dX7_minutes_53 rfl (lv_at hl 0 rfl) ?_
        refine lv_iconst (v := 0) hx hb dX7_minutes_54 (by decide) ?_
        obtain ⟨q9, eq9, h⟩ := bdE h
        refine wd_callVv (ci := 7) (k := 370) CF hE hW hS (x_X7_passes l X 0 q8 eq9) mi_X7_passes vi_X7_passes tw913 ⟨by decide, rfl⟩ sh_370 ⟨rfl, rfl, Nat.le_of_ble_eq_true rfl, Nat.le_of_ble_eq_true rfl⟩ rfl hl.1 rfl (Nat.le_of_ble_eq_true rfl) dX7_minutes_55 ⟨Nat.le_of_ble_eq_true rfl, Nat.le_of_ble_eq_true rfl⟩ (fun H locs hW hS => ?_)
        obtain ⟨x10, ex10⟩ : ∃ y : Int32, y = v2 + 1 := ⟨_, rfl⟩
        replace h := apR ex10 h
        refine lv_iinc (v := x10) (lv' := [(2, .int x10), (0, .ref (X.2.2.1 + 370)), (1, .int a1)]) hx hb dX7_minutes_58 hl (k := 2) rfl (by rw [ex10]; rfl) (by decide) rfl (fun ls hl => ?_)
        refine lv_goto (tgt := 44) hx hb dX7_minutes_61 (by decide) ?_
        exact ih44 x10 q9 _ _ _  hW hS (lv_sub hl [1, 2, 0] rfl) h
  refine lv_aload_n hx hb dX7_minutes_0 rfl (lv_at hl 0 rfl) ?_
  obtain ⟨x1, ex1, h⟩ := bdE h
  refine wd_callVr (ci := 7) (k := 370) CF hE hW hS (x_X7_isRoom l X D ex1) mi_X7_isRoom vi_X7_isRoom tw904 ⟨by decide, rfl⟩ sh_370 ⟨rfl, rfl, Nat.le_of_ble_eq_true rfl, Nat.le_of_ble_eq_true rfl⟩ rfl hl.1 rfl (Nat.le_of_ble_eq_true rfl) dX7_minutes_1 ⟨Nat.le_of_ble_eq_true rfl, Nat.le_of_ble_eq_true rfl⟩ (fun H locs hW hS => ?_)
  refine lv_if_ne (tgt := 10) hx hb dX7_minutes_4 (by decide) (fun c2 => ?_) (fun c2 => ?_)
  · rw [if_neg c2] at h
    refine lv_iload_n hx hb dX7_minutes_10 rfl (lv_at hl 1 rfl) ?_
    refine lv_i2l hx hb dX7_minutes_11 rfl ?_
    refine lv_lconst (v := 1) hx hb dX7_minutes_12 (by decide) ?_
    refine lv_ldc2 (v := 24) hx hb hown (hts _ tw908) dX7_minutes_13 ?_
    refine wd_callSr CF hE hW hS (x_X7_in l X a1.toInt64 1 24 D) mi_X7_in vi_X7_in tw818 ⟨rfl, rfl, Nat.le_of_ble_eq_true rfl, Nat.le_of_ble_eq_true rfl⟩ rfl hl.1 rfl (Nat.le_of_ble_eq_true rfl) dX7_minutes_16 ⟨Nat.le_of_ble_eq_true rfl, Nat.le_of_ble_eq_true rfl⟩ (fun H locs hW hS => ?_)
    refine lv_if_ne (tgt := 25) hx hb dX7_minutes_19 (by decide) (fun c3 => ?_) (fun c3 => ?_)
    · rw [if_neg c3] at h
      refine lv_aload_n hx hb dX7_minutes_25 rfl (lv_at hl 0 rfl) ?_
      refine wd_getR CF hE hW fl_X7_7 sh_370 rf_370_0 rfl dX7_minutes_26 ?_
      refine lv_iconst (v := 0) hx hb dX7_minutes_29 (by decide) ?_
      obtain ⟨x4, ex4, h⟩ := bdE h
      refine wd_iald CF hE hW sh_371 ex4 dX7_minutes_30 ?_
      refine lv_iload_n hx hb dX7_minutes_31 rfl (lv_at hl 1 rfl) ?_
      refine lv_iadd hx hb dX7_minutes_32 ?_
      refine lv_sipush (v := 999) hx hb dX7_minutes_33 (by decide) ?_
      refine lv_icmp_le (tgt := 42) hx hb dX7_minutes_36 (by decide) (fun c5 => ?_) (fun c5 => ?_)
      · rw [if_pos c5] at h
        refine lv_iconst (v := 0) hx hb dX7_minutes_42 (by decide) ?_
        refine lv_istore_n (lv' := [(2, .int 0), (0, .ref (X.2.2.1 + 370)), (1, .int a1)]) hx hb dX7_minutes_43 rfl hl (by decide) rfl (fun ls hl => ?_)
        exact hL44 FU 0 D _ _ _  hW hS (lv_sub hl [1, 2, 0] rfl) h
      · rw [if_neg c5] at h
        refine lv_ldc (v := (-1000003)) hx hb hown (hts _ tw852) dX7_minutes_39 ?_
        have h := Option.some.inj h
        subst h
        exact wd_iret CF hret hlk hW hS dX7_minutes_41
    · rw [if_pos c3] at h
      refine lv_ldc (v := (-1000001)) hx hb hown (hts _ tw822) dX7_minutes_22 ?_
      have h := Option.some.inj h
      subst h
      exact wd_iret CF hret hlk hW hS dX7_minutes_24
  · rw [if_pos c2] at h
    refine lv_ldc (v := (-1000002)) hx hb hown (hts _ tw899) dX7_minutes_7 ?_
    have h := Option.some.inj h
    subst h
    exact wd_iret CF hret hlk hW hS dX7_minutes_9
def f_X7_hand_L76  (a1 : Int32) (a2 : Int32) (D : wd_D) : Option (Int32 × wd_D) := (f_X7_minds D).bind (fun q12 => (rd 252 q12 371 37).bind (fun x13 => (wr 252 q12 371 37 (x13 ^^^ ((1 : Int32) <<< (a1 &&& 31)))).bind (fun D14 => (rd 252 D14 371 37).bind (fun x15 => some (x15, D14)))))
def f_X7_hand_L42  (a1 : Int32) (a2 : Int32) (z0 : Int32) (z1 : Int32) (D : wd_D) : Option (Int32 × wd_D) := (if z1 = z0 then some ((-1000002), D) else (if a2 = 1 then (rd 252 D 371 37).bind (fun x8 => (f_X7_ones x8).bind (fun x9 => (rd 252 D 371 39).bind (fun x10 => (if x9 < x10 then f_X7_hand_L76 a1 a2 D else some ((-1000003), D))))) else f_X7_hand_L76 a1 a2 D))
def f_X7_hand (a1 : Int32) (a2 : Int32) (D : wd_D) : Option (Int32 × wd_D) := (f_X7_isChild a1 D).bind (fun x1 => (if x1 = 0 then some ((-1000001), D) else (if (f_X7_in a2.toInt64 0 1) = 0 then some ((-1000001), D) else (rd 252 D 371 37).bind (fun x4 => (if a2 = 1 then f_X7_hand_L42 a1 a2 1 (f_X7_has x4 a1) D else f_X7_hand_L42 a1 a2 0 (f_X7_has x4 a1) D)))))
set_option maxHeartbeats 4000000 in
set_option maxRecDepth 100000 in
theorem x_X7_hand (l : Launch) (X : wd_X) (a1 : Int32) (a2 : Int32) (D : wd_D) {qv : Int32 × wd_D} (h : f_X7_hand a1 a2 D = some qv) : wd_Met l X yX7_hand cX7_hand 3 (some FieldType.int) ({ frames := 2, cells := 0, slots := 0, locals := 200 }) S0 S0 ([.ref (X.2.2.1 + 370), .int a1, .int a2] : List Value) D qv.2 (some (.int qv.1)) 0 0 := by
  refine wd_enter (by decide) (Nat.le_of_ble_eq_true rfl) ?_
  intro p e s m below meth c CF hret hlk hnm hW hE ls hl
  have CF : CallFix p m c cX7_hand 3 s ([.ref (X.2.2.1 + 370), .int a1, .int a2] : List Value).toArray tg RX7 := CF
  have hx := CF.1
  have hb := CF.2.1
  have hown := CF.2.2.2.1
  have hts := CF.2.2.2.2
  have hS : va_S (wd_A X) s.heap s.heap [] := va_S.rf
  have hl : lv_has ls 3 [(0, .ref (X.2.2.1 + 370)), (1, .int a1), (2, .int a2)] := hl
  unfold f_X7_hand at h
  have hL76 : ∀  (D : wd_D) (H : Heap) (locs : List Loc) (ls : Array Slot), Wd X S0 D H → va_S (wd_A X) s.heap H locs → lv_has ls 3 [(0, .ref (X.2.2.1 + 370)), (1, .int a1)] → f_X7_hand_L76 a1 a2 D = some qv → W p l e ({ frames := 2, cells := 0, slots := 0, locals := 200 }) s m ([.ref (X.2.2.1 + 370), .int a1, .int a2] : List Value).toArray below meth c H locs 0 0 (MQ below (wd_Q X S0 qv.2 (some (.int qv.1))) ([.ref (X.2.2.1 + 370), .int a1, .int a2] : List Value).toArray s 0 0 (wd_A X)) (F0 m 76 ls []) := by
    intro D H locs ls hW hS hl h
    unfold f_X7_hand_L76 at h
    refine lv_aload_n hx hb dX7_hand_76 rfl (lv_at hl 0 rfl) ?_
    obtain ⟨q12, eq12, h⟩ := bdE h
    refine wd_callVv (ci := 7) (k := 370) CF hE hW hS (x_X7_minds l X D eq12) mi_X7_minds vi_X7_minds tw909 ⟨by decide, rfl⟩ sh_370 ⟨rfl, rfl, Nat.le_of_ble_eq_true rfl, Nat.le_of_ble_eq_true rfl⟩ rfl hl.1 rfl (Nat.le_of_ble_eq_true rfl) dX7_hand_77 ⟨Nat.le_of_ble_eq_true rfl, Nat.le_of_ble_eq_true rfl⟩ (fun H locs hW hS => ?_)
    refine lv_aload_n hx hb dX7_hand_80 rfl (lv_at hl 0 rfl) ?_
    refine wd_getR CF hE hW fl_X7_7 sh_370 rf_370_0 rfl dX7_hand_81 ?_
    refine lv_bipush (v := 37) hx hb dX7_hand_84 (by decide) ?_
    refine lv_dup2_11 hx hb dX7_hand_86 rfl rfl ?_
    obtain ⟨x13, ex13, h⟩ := bdE h
    refine wd_iald CF hE hW sh_371 ex13 dX7_hand_87 ?_
    refine lv_iconst (v := 1) hx hb dX7_hand_88 (by decide) ?_
    refine lv_iload_n hx hb dX7_hand_89 rfl (lv_at hl 1 rfl) ?_
    refine lv_ishl hx hb dX7_hand_90 ?_
    refine lv_ixor hx hb dX7_hand_91 ?_
    obtain ⟨D14, eD14, h⟩ := bdE h
    refine wd_iast CF hE hW hS sh_371 eD14 dX7_hand_92 (fun H locs hW hS => ?_)
    refine lv_aload_n hx hb dX7_hand_93 rfl (lv_at hl 0 rfl) ?_
    refine wd_getR CF hE hW fl_X7_7 sh_370 rf_370_0 rfl dX7_hand_94 ?_
    refine lv_bipush (v := 37) hx hb dX7_hand_97 (by decide) ?_
    obtain ⟨x15, ex15, h⟩ := bdE h
    refine wd_iald CF hE hW sh_371 ex15 dX7_hand_99 ?_
    have h := Option.some.inj h
    subst h
    exact wd_iret CF hret hlk hW hS dX7_hand_100
  have hL42 : ∀ (z0 : Int32) (z1 : Int32) (D : wd_D) (H : Heap) (locs : List Loc) (ls : Array Slot), Wd X S0 D H → va_S (wd_A X) s.heap H locs → lv_has ls 3 [(0, .ref (X.2.2.1 + 370)), (1, .int a1), (2, .int a2)] → f_X7_hand_L42 a1 a2 z0 z1 D = some qv → W p l e ({ frames := 2, cells := 0, slots := 0, locals := 200 }) s m ([.ref (X.2.2.1 + 370), .int a1, .int a2] : List Value).toArray below meth c H locs 0 0 (MQ below (wd_Q X S0 qv.2 (some (.int qv.1))) ([.ref (X.2.2.1 + 370), .int a1, .int a2] : List Value).toArray s 0 0 (wd_A X)) (F0 m 42 ls [.int z0, .int z1]) := by
    intro z0 z1 D H locs ls hW hS hl h
    unfold f_X7_hand_L42 at h
    refine lv_icmp_ne (tgt := 48) hx hb dX7_hand_42 (by decide) (fun c6 => ?_) (fun c6 => ?_)
    · rw [if_neg c6] at h
      refine lv_iload_n hx hb dX7_hand_48 rfl (lv_at hl 2 rfl) ?_
      refine lv_iconst (v := 1) hx hb dX7_hand_49 (by decide) ?_
      refine lv_icmp_ne (tgt := 76) hx hb dX7_hand_50 (by decide) (fun c7 => ?_) (fun c7 => ?_)
      · rw [if_neg c7] at h
        exact hL76  D _ _ _  hW hS (lv_sub hl [0, 1] rfl) h
      · rw [if_pos c7] at h
        refine lv_aload_n hx hb dX7_hand_53 rfl (lv_at hl 0 rfl) ?_
        refine wd_getR CF hE hW fl_X7_7 sh_370 rf_370_0 rfl dX7_hand_54 ?_
        refine lv_bipush (v := 37) hx hb dX7_hand_57 (by decide) ?_
        obtain ⟨x8, ex8, h⟩ := bdE h
        refine wd_iald CF hE hW sh_371 ex8 dX7_hand_59 ?_
        obtain ⟨x9, ex9, h⟩ := bdE h
        refine wd_callSr CF hE hW hS (x_X7_ones l X x8 D ex9) mi_X7_ones vi_X7_ones tw959 ⟨rfl, rfl, Nat.le_of_ble_eq_true rfl, Nat.le_of_ble_eq_true rfl⟩ rfl hl.1 rfl (Nat.le_of_ble_eq_true rfl) dX7_hand_60 ⟨Nat.le_of_ble_eq_true rfl, Nat.le_of_ble_eq_true rfl⟩ (fun H locs hW hS => ?_)
        refine lv_aload_n hx hb dX7_hand_63 rfl (lv_at hl 0 rfl) ?_
        refine wd_getR CF hE hW fl_X7_7 sh_370 rf_370_0 rfl dX7_hand_64 ?_
        refine lv_bipush (v := 39) hx hb dX7_hand_67 (by decide) ?_
        obtain ⟨x10, ex10, h⟩ := bdE h
        refine wd_iald CF hE hW sh_371 ex10 dX7_hand_69 ?_
        refine lv_icmp_lt (tgt := 76) hx hb dX7_hand_70 (by decide) (fun c11 => ?_) (fun c11 => ?_)
        · rw [if_pos c11] at h
          exact hL76  D _ _ _  hW hS (lv_sub hl [0, 1] rfl) h
        · rw [if_neg c11] at h
          refine lv_ldc (v := (-1000003)) hx hb hown (hts _ tw852) dX7_hand_73 ?_
          have h := Option.some.inj h
          subst h
          exact wd_iret CF hret hlk hW hS dX7_hand_75
    · rw [if_pos c6] at h
      refine lv_ldc (v := (-1000002)) hx hb hown (hts _ tw899) dX7_hand_45 ?_
      have h := Option.some.inj h
      subst h
      exact wd_iret CF hret hlk hW hS dX7_hand_47
  refine lv_aload_n hx hb dX7_hand_0 rfl (lv_at hl 0 rfl) ?_
  refine lv_iload_n hx hb dX7_hand_1 rfl (lv_at hl 1 rfl) ?_
  obtain ⟨x1, ex1, h⟩ := bdE h
  refine wd_callVr (ci := 7) (k := 370) CF hE hW hS (x_X7_isChild l X a1 D ex1) mi_X7_isChild vi_X7_isChild tw955 ⟨by decide, rfl⟩ sh_370 ⟨rfl, rfl, Nat.le_of_ble_eq_true rfl, Nat.le_of_ble_eq_true rfl⟩ rfl hl.1 rfl (Nat.le_of_ble_eq_true rfl) dX7_hand_2 ⟨Nat.le_of_ble_eq_true rfl, Nat.le_of_ble_eq_true rfl⟩ (fun H locs hW hS => ?_)
  refine lv_if_eq (tgt := 18) hx hb dX7_hand_5 (by decide) (fun c2 => ?_) (fun c2 => ?_)
  · rw [if_pos c2] at h
    refine lv_ldc (v := (-1000001)) hx hb hown (hts _ tw822) dX7_hand_18 ?_
    have h := Option.some.inj h
    subst h
    exact wd_iret CF hret hlk hW hS dX7_hand_20
  · rw [if_neg c2] at h
    refine lv_iload_n hx hb dX7_hand_8 rfl (lv_at hl 2 rfl) ?_
    refine lv_i2l hx hb dX7_hand_9 rfl ?_
    refine lv_lconst (v := 0) hx hb dX7_hand_10 (by decide) ?_
    refine lv_lconst (v := 1) hx hb dX7_hand_11 (by decide) ?_
    refine wd_callSr CF hE hW hS (x_X7_in l X a2.toInt64 0 1 D) mi_X7_in vi_X7_in tw818 ⟨rfl, rfl, Nat.le_of_ble_eq_true rfl, Nat.le_of_ble_eq_true rfl⟩ rfl hl.1 rfl (Nat.le_of_ble_eq_true rfl) dX7_hand_12 ⟨Nat.le_of_ble_eq_true rfl, Nat.le_of_ble_eq_true rfl⟩ (fun H locs hW hS => ?_)
    refine lv_if_ne (tgt := 21) hx hb dX7_hand_15 (by decide) (fun c3 => ?_) (fun c3 => ?_)
    · rw [if_neg c3] at h
      refine lv_aload_n hx hb dX7_hand_21 rfl (lv_at hl 0 rfl) ?_
      refine wd_getR CF hE hW fl_X7_7 sh_370 rf_370_0 rfl dX7_hand_22 ?_
      refine lv_bipush (v := 37) hx hb dX7_hand_25 (by decide) ?_
      obtain ⟨x4, ex4, h⟩ := bdE h
      refine wd_iald CF hE hW sh_371 ex4 dX7_hand_27 ?_
      refine lv_iload_n hx hb dX7_hand_28 rfl (lv_at hl 1 rfl) ?_
      refine wd_callSr CF hE hW hS (x_X7_has l X x4 a1 D) mi_X7_has vi_X7_has tw925 ⟨rfl, rfl, Nat.le_of_ble_eq_true rfl, Nat.le_of_ble_eq_true rfl⟩ rfl hl.1 rfl (Nat.le_of_ble_eq_true rfl) dX7_hand_29 ⟨Nat.le_of_ble_eq_true rfl, Nat.le_of_ble_eq_true rfl⟩ (fun H locs hW hS => ?_)
      refine lv_iload_n hx hb dX7_hand_32 rfl (lv_at hl 2 rfl) ?_
      refine lv_iconst (v := 1) hx hb dX7_hand_33 (by decide) ?_
      refine lv_icmp_ne (tgt := 41) hx hb dX7_hand_34 (by decide) (fun c5 => ?_) (fun c5 => ?_)
      · rw [if_neg c5] at h
        refine lv_iconst (v := 0) hx hb dX7_hand_41 (by decide) ?_
        exact hL42 0 (f_X7_has x4 a1) D _ _ _  hW hS (lv_sub hl [0, 1, 2] rfl) h
      · rw [if_pos c5] at h
        refine lv_iconst (v := 1) hx hb dX7_hand_37 (by decide) ?_
        refine lv_goto (tgt := 42) hx hb dX7_hand_38 (by decide) ?_
        exact hL42 1 (f_X7_has x4 a1) D _ _ _  hW hS (lv_sub hl [0, 1, 2] rfl) h
    · rw [if_pos c3] at h
      refine lv_ldc (v := (-1000001)) hx hb hown (hts _ tw822) dX7_hand_18 ?_
      have h := Option.some.inj h
      subst h
      exact wd_iret CF hret hlk hW hS dX7_hand_20
def f_X7_carry_L37  (a1 : Int32) (a2 : Int32) (z0 : Int32) (z1 : Int32) (D : wd_D) : Option (Int32 × wd_D) := (if z1 = z0 then some ((-1000002), D) else (f_X7_minds D).bind (fun q7 => (rd 252 q7 371 36).bind (fun x8 => (wr 252 q7 371 36 (x8 ^^^ ((1 : Int32) <<< (a1 &&& 31)))).bind (fun D9 => (rd 252 D9 371 36).bind (fun x10 => some (x10, D9))))))
def f_X7_carry (a1 : Int32) (a2 : Int32) (D : wd_D) : Option (Int32 × wd_D) := (f_X7_isChild a1 D).bind (fun x1 => (if x1 = 0 then some ((-1000001), D) else (if (f_X7_in a2.toInt64 0 1) = 0 then some ((-1000001), D) else (f_X7_isOut 0 a1 D).bind (fun x4 => (if a2 = 1 then f_X7_carry_L37 a1 a2 1 x4 D else f_X7_carry_L37 a1 a2 0 x4 D)))))
set_option maxHeartbeats 4000000 in
set_option maxRecDepth 100000 in
theorem x_X7_carry (l : Launch) (X : wd_X) (a1 : Int32) (a2 : Int32) (D : wd_D) {qv : Int32 × wd_D} (h : f_X7_carry a1 a2 D = some qv) : wd_Met l X yX7_carry cX7_carry 3 (some FieldType.int) ({ frames := 2, cells := 0, slots := 0, locals := 200 }) S0 S0 ([.ref (X.2.2.1 + 370), .int a1, .int a2] : List Value) D qv.2 (some (.int qv.1)) 0 0 := by
  refine wd_enter (by decide) (Nat.le_of_ble_eq_true rfl) ?_
  intro p e s m below meth c CF hret hlk hnm hW hE ls hl
  have CF : CallFix p m c cX7_carry 3 s ([.ref (X.2.2.1 + 370), .int a1, .int a2] : List Value).toArray tg RX7 := CF
  have hx := CF.1
  have hb := CF.2.1
  have hown := CF.2.2.2.1
  have hts := CF.2.2.2.2
  have hS : va_S (wd_A X) s.heap s.heap [] := va_S.rf
  have hl : lv_has ls 3 [(0, .ref (X.2.2.1 + 370)), (1, .int a1), (2, .int a2)] := hl
  unfold f_X7_carry at h
  have hL37 : ∀ (z0 : Int32) (z1 : Int32) (D : wd_D) (H : Heap) (locs : List Loc) (ls : Array Slot), Wd X S0 D H → va_S (wd_A X) s.heap H locs → lv_has ls 3 [(0, .ref (X.2.2.1 + 370)), (1, .int a1)] → f_X7_carry_L37 a1 a2 z0 z1 D = some qv → W p l e ({ frames := 2, cells := 0, slots := 0, locals := 200 }) s m ([.ref (X.2.2.1 + 370), .int a1, .int a2] : List Value).toArray below meth c H locs 0 0 (MQ below (wd_Q X S0 qv.2 (some (.int qv.1))) ([.ref (X.2.2.1 + 370), .int a1, .int a2] : List Value).toArray s 0 0 (wd_A X)) (F0 m 37 ls [.int z0, .int z1]) := by
    intro z0 z1 D H locs ls hW hS hl h
    unfold f_X7_carry_L37 at h
    refine lv_icmp_ne (tgt := 43) hx hb dX7_carry_37 (by decide) (fun c6 => ?_) (fun c6 => ?_)
    · rw [if_neg c6] at h
      refine lv_aload_n hx hb dX7_carry_43 rfl (lv_at hl 0 rfl) ?_
      obtain ⟨q7, eq7, h⟩ := bdE h
      refine wd_callVv (ci := 7) (k := 370) CF hE hW hS (x_X7_minds l X D eq7) mi_X7_minds vi_X7_minds tw909 ⟨by decide, rfl⟩ sh_370 ⟨rfl, rfl, Nat.le_of_ble_eq_true rfl, Nat.le_of_ble_eq_true rfl⟩ rfl hl.1 rfl (Nat.le_of_ble_eq_true rfl) dX7_carry_44 ⟨Nat.le_of_ble_eq_true rfl, Nat.le_of_ble_eq_true rfl⟩ (fun H locs hW hS => ?_)
      refine lv_aload_n hx hb dX7_carry_47 rfl (lv_at hl 0 rfl) ?_
      refine wd_getR CF hE hW fl_X7_7 sh_370 rf_370_0 rfl dX7_carry_48 ?_
      refine lv_bipush (v := 36) hx hb dX7_carry_51 (by decide) ?_
      refine lv_dup2_11 hx hb dX7_carry_53 rfl rfl ?_
      obtain ⟨x8, ex8, h⟩ := bdE h
      refine wd_iald CF hE hW sh_371 ex8 dX7_carry_54 ?_
      refine lv_iconst (v := 1) hx hb dX7_carry_55 (by decide) ?_
      refine lv_iload_n hx hb dX7_carry_56 rfl (lv_at hl 1 rfl) ?_
      refine lv_ishl hx hb dX7_carry_57 ?_
      refine lv_ixor hx hb dX7_carry_58 ?_
      obtain ⟨D9, eD9, h⟩ := bdE h
      refine wd_iast CF hE hW hS sh_371 eD9 dX7_carry_59 (fun H locs hW hS => ?_)
      refine lv_aload_n hx hb dX7_carry_60 rfl (lv_at hl 0 rfl) ?_
      refine wd_getR CF hE hW fl_X7_7 sh_370 rf_370_0 rfl dX7_carry_61 ?_
      refine lv_bipush (v := 36) hx hb dX7_carry_64 (by decide) ?_
      obtain ⟨x10, ex10, h⟩ := bdE h
      refine wd_iald CF hE hW sh_371 ex10 dX7_carry_66 ?_
      have h := Option.some.inj h
      subst h
      exact wd_iret CF hret hlk hW hS dX7_carry_67
    · rw [if_pos c6] at h
      refine lv_ldc (v := (-1000002)) hx hb hown (hts _ tw899) dX7_carry_40 ?_
      have h := Option.some.inj h
      subst h
      exact wd_iret CF hret hlk hW hS dX7_carry_42
  refine lv_aload_n hx hb dX7_carry_0 rfl (lv_at hl 0 rfl) ?_
  refine lv_iload_n hx hb dX7_carry_1 rfl (lv_at hl 1 rfl) ?_
  obtain ⟨x1, ex1, h⟩ := bdE h
  refine wd_callVr (ci := 7) (k := 370) CF hE hW hS (x_X7_isChild l X a1 D ex1) mi_X7_isChild vi_X7_isChild tw955 ⟨by decide, rfl⟩ sh_370 ⟨rfl, rfl, Nat.le_of_ble_eq_true rfl, Nat.le_of_ble_eq_true rfl⟩ rfl hl.1 rfl (Nat.le_of_ble_eq_true rfl) dX7_carry_2 ⟨Nat.le_of_ble_eq_true rfl, Nat.le_of_ble_eq_true rfl⟩ (fun H locs hW hS => ?_)
  refine lv_if_eq (tgt := 18) hx hb dX7_carry_5 (by decide) (fun c2 => ?_) (fun c2 => ?_)
  · rw [if_pos c2] at h
    refine lv_ldc (v := (-1000001)) hx hb hown (hts _ tw822) dX7_carry_18 ?_
    have h := Option.some.inj h
    subst h
    exact wd_iret CF hret hlk hW hS dX7_carry_20
  · rw [if_neg c2] at h
    refine lv_iload_n hx hb dX7_carry_8 rfl (lv_at hl 2 rfl) ?_
    refine lv_i2l hx hb dX7_carry_9 rfl ?_
    refine lv_lconst (v := 0) hx hb dX7_carry_10 (by decide) ?_
    refine lv_lconst (v := 1) hx hb dX7_carry_11 (by decide) ?_
    refine wd_callSr CF hE hW hS (x_X7_in l X a2.toInt64 0 1 D) mi_X7_in vi_X7_in tw818 ⟨rfl, rfl, Nat.le_of_ble_eq_true rfl, Nat.le_of_ble_eq_true rfl⟩ rfl hl.1 rfl (Nat.le_of_ble_eq_true rfl) dX7_carry_12 ⟨Nat.le_of_ble_eq_true rfl, Nat.le_of_ble_eq_true rfl⟩ (fun H locs hW hS => ?_)
    refine lv_if_ne (tgt := 21) hx hb dX7_carry_15 (by decide) (fun c3 => ?_) (fun c3 => ?_)
    · rw [if_neg c3] at h
      refine lv_aload_n hx hb dX7_carry_21 rfl (lv_at hl 0 rfl) ?_
      refine lv_iconst (v := 0) hx hb dX7_carry_22 (by decide) ?_
      refine lv_iload_n hx hb dX7_carry_23 rfl (lv_at hl 1 rfl) ?_
      obtain ⟨x4, ex4, h⟩ := bdE h
      refine wd_callVr (ci := 7) (k := 370) CF hE hW hS (x_X7_isOut l X 0 a1 D ex4) mi_X7_isOut vi_X7_isOut tw921 ⟨by decide, rfl⟩ sh_370 ⟨rfl, rfl, Nat.le_of_ble_eq_true rfl, Nat.le_of_ble_eq_true rfl⟩ rfl hl.1 rfl (Nat.le_of_ble_eq_true rfl) dX7_carry_24 ⟨Nat.le_of_ble_eq_true rfl, Nat.le_of_ble_eq_true rfl⟩ (fun H locs hW hS => ?_)
      refine lv_iload_n hx hb dX7_carry_27 rfl (lv_at hl 2 rfl) ?_
      refine lv_iconst (v := 1) hx hb dX7_carry_28 (by decide) ?_
      refine lv_icmp_ne (tgt := 36) hx hb dX7_carry_29 (by decide) (fun c5 => ?_) (fun c5 => ?_)
      · rw [if_neg c5] at h
        refine lv_iconst (v := 0) hx hb dX7_carry_36 (by decide) ?_
        exact hL37 0 x4 D _ _ _  hW hS (lv_sub hl [0, 1] rfl) h
      · rw [if_pos c5] at h
        refine lv_iconst (v := 1) hx hb dX7_carry_32 (by decide) ?_
        refine lv_goto (tgt := 37) hx hb dX7_carry_33 (by decide) ?_
        exact hL37 1 x4 D _ _ _  hW hS (lv_sub hl [0, 1] rfl) h
    · rw [if_pos c3] at h
      refine lv_ldc (v := (-1000001)) hx hb hown (hts _ tw822) dX7_carry_18 ?_
      have h := Option.some.inj h
      subst h
      exact wd_iret CF hret hlk hW hS dX7_carry_20
def f_X7_swaps (a1 : Int32) (a2 : Int32) (a3 : Int32) (D : wd_D) : Option (wd_D) := (rd 252 D 371 ((a1 + 29) + a2)).bind (fun x1 => (rd 252 D 371 ((a1 + 29) + a3)).bind (fun x2 => (wr 252 D 371 ((a1 + 29) + a2) x2).bind (fun D3 => (wr 252 D3 371 ((a1 + 29) + a3) x1).bind (fun D4 => some D4))))
set_option maxHeartbeats 4000000 in
set_option maxRecDepth 100000 in
theorem x_X7_swaps (l : Launch) (X : wd_X) (a1 : Int32) (a2 : Int32) (a3 : Int32) (D : wd_D) {qv : wd_D} (h : f_X7_swaps a1 a2 a3 D = some qv) : wd_Met l X yX7_swaps cX7_swaps 5 (none : Option FieldType) ({ frames := 0, cells := 0, slots := 0, locals := 0 }) S0 S0 ([.ref (X.2.2.1 + 370), .int a1, .int a2, .int a3] : List Value) D qv none 0 0 := by
  refine wd_enter (by decide) (Nat.le_of_ble_eq_true rfl) ?_
  intro p e s m below meth c CF hret hlk hnm hW hE ls hl
  have CF : CallFix p m c cX7_swaps 5 s ([.ref (X.2.2.1 + 370), .int a1, .int a2, .int a3] : List Value).toArray tg RX7 := CF
  have hx := CF.1
  have hb := CF.2.1
  have hown := CF.2.2.2.1
  have hts := CF.2.2.2.2
  have hS : va_S (wd_A X) s.heap s.heap [] := va_S.rf
  have hl : lv_has ls 5 [(0, .ref (X.2.2.1 + 370)), (1, .int a1), (2, .int a2), (3, .int a3)] := hl
  unfold f_X7_swaps at h
  refine lv_aload_n hx hb dX7_swaps_0 rfl (lv_at hl 0 rfl) ?_
  refine wd_getR CF hE hW fl_X7_7 sh_370 rf_370_0 rfl dX7_swaps_1 ?_
  refine lv_iload_n hx hb dX7_swaps_4 rfl (lv_at hl 1 rfl) ?_
  refine lv_bipush (v := 29) hx hb dX7_swaps_5 (by decide) ?_
  refine lv_iadd hx hb dX7_swaps_7 ?_
  refine lv_iload_n hx hb dX7_swaps_8 rfl (lv_at hl 2 rfl) ?_
  refine lv_iadd hx hb dX7_swaps_9 ?_
  obtain ⟨x1, ex1, h⟩ := bdE h
  refine wd_iald CF hE hW sh_371 ex1 dX7_swaps_10 ?_
  refine lv_istore (lv' := [(4, .int x1), (0, .ref (X.2.2.1 + 370)), (1, .int a1), (2, .int a2), (3, .int a3)]) hx hb dX7_swaps_11 hl (by decide) rfl (fun ls hl => ?_)
  refine lv_aload_n hx hb dX7_swaps_13 rfl (lv_at hl 1 rfl) ?_
  refine wd_getR CF hE hW fl_X7_7 sh_370 rf_370_0 rfl dX7_swaps_14 ?_
  refine lv_iload_n hx hb dX7_swaps_17 rfl (lv_at hl 2 rfl) ?_
  refine lv_bipush (v := 29) hx hb dX7_swaps_18 (by decide) ?_
  refine lv_iadd hx hb dX7_swaps_20 ?_
  refine lv_iload_n hx hb dX7_swaps_21 rfl (lv_at hl 3 rfl) ?_
  refine lv_iadd hx hb dX7_swaps_22 ?_
  refine lv_aload_n hx hb dX7_swaps_23 rfl (lv_at hl 1 rfl) ?_
  refine wd_getR CF hE hW fl_X7_7 sh_370 rf_370_0 rfl dX7_swaps_24 ?_
  refine lv_iload_n hx hb dX7_swaps_27 rfl (lv_at hl 2 rfl) ?_
  refine lv_bipush (v := 29) hx hb dX7_swaps_28 (by decide) ?_
  refine lv_iadd hx hb dX7_swaps_30 ?_
  refine lv_iload_n hx hb dX7_swaps_31 rfl (lv_at hl 4 rfl) ?_
  refine lv_iadd hx hb dX7_swaps_32 ?_
  obtain ⟨x2, ex2, h⟩ := bdE h
  refine wd_iald CF hE hW sh_371 ex2 dX7_swaps_33 ?_
  obtain ⟨D3, eD3, h⟩ := bdE h
  refine wd_iast CF hE hW hS sh_371 eD3 dX7_swaps_34 (fun H locs hW hS => ?_)
  refine lv_aload_n hx hb dX7_swaps_35 rfl (lv_at hl 1 rfl) ?_
  refine wd_getR CF hE hW fl_X7_7 sh_370 rf_370_0 rfl dX7_swaps_36 ?_
  refine lv_iload_n hx hb dX7_swaps_39 rfl (lv_at hl 2 rfl) ?_
  refine lv_bipush (v := 29) hx hb dX7_swaps_40 (by decide) ?_
  refine lv_iadd hx hb dX7_swaps_42 ?_
  refine lv_iload_n hx hb dX7_swaps_43 rfl (lv_at hl 4 rfl) ?_
  refine lv_iadd hx hb dX7_swaps_44 ?_
  refine lv_iload hx hb dX7_swaps_45 (lv_at hl 0 rfl) ?_
  obtain ⟨D4, eD4, h⟩ := bdE h
  refine wd_iast CF hE hW hS sh_371 eD4 dX7_swaps_47 (fun H locs hW hS => ?_)
  have h := Option.some.inj h
  subst h
  exact wd_vret CF hret hlk hW hS dX7_swaps_48
def f_X7_change (a1 : Int32) (a2 : Int32) (D : wd_D) : Option (Int32 × wd_D) := (f_X7_isChild a1 D).bind (fun x1 => (if x1 = 0 then some ((-1000001), D) else (f_X7_isChild a2 D).bind (fun x3 => (if x3 = 0 then some ((-1000001), D) else (if a1 = a2 then some ((-1000001), D) else (f_X7_minds D).bind (fun q6 => (f_X7_swaps 0 a1 a2 q6).bind (fun q7 => (rd 252 q7 371 (29 + a1)).bind (fun x8 => some (x8, q7)))))))))
set_option maxHeartbeats 4000000 in
set_option maxRecDepth 100000 in
theorem x_X7_change (l : Launch) (X : wd_X) (a1 : Int32) (a2 : Int32) (D : wd_D) {qv : Int32 × wd_D} (h : f_X7_change a1 a2 D = some qv) : wd_Met l X yX7_change cX7_change 3 (some FieldType.int) ({ frames := 2, cells := 0, slots := 0, locals := 200 }) S0 S0 ([.ref (X.2.2.1 + 370), .int a1, .int a2] : List Value) D qv.2 (some (.int qv.1)) 0 0 := by
  refine wd_enter (by decide) (Nat.le_of_ble_eq_true rfl) ?_
  intro p e s m below meth c CF hret hlk hnm hW hE ls hl
  have CF : CallFix p m c cX7_change 3 s ([.ref (X.2.2.1 + 370), .int a1, .int a2] : List Value).toArray tg RX7 := CF
  have hx := CF.1
  have hb := CF.2.1
  have hown := CF.2.2.2.1
  have hts := CF.2.2.2.2
  have hS : va_S (wd_A X) s.heap s.heap [] := va_S.rf
  have hl : lv_has ls 3 [(0, .ref (X.2.2.1 + 370)), (1, .int a1), (2, .int a2)] := hl
  unfold f_X7_change at h
  refine lv_aload_n hx hb dX7_change_0 rfl (lv_at hl 0 rfl) ?_
  refine lv_iload_n hx hb dX7_change_1 rfl (lv_at hl 1 rfl) ?_
  obtain ⟨x1, ex1, h⟩ := bdE h
  refine wd_callVr (ci := 7) (k := 370) CF hE hW hS (x_X7_isChild l X a1 D ex1) mi_X7_isChild vi_X7_isChild tw955 ⟨by decide, rfl⟩ sh_370 ⟨rfl, rfl, Nat.le_of_ble_eq_true rfl, Nat.le_of_ble_eq_true rfl⟩ rfl hl.1 rfl (Nat.le_of_ble_eq_true rfl) dX7_change_2 ⟨Nat.le_of_ble_eq_true rfl, Nat.le_of_ble_eq_true rfl⟩ (fun H locs hW hS => ?_)
  refine lv_if_eq (tgt := 21) hx hb dX7_change_5 (by decide) (fun c2 => ?_) (fun c2 => ?_)
  · rw [if_pos c2] at h
    refine lv_ldc (v := (-1000001)) hx hb hown (hts _ tw822) dX7_change_21 ?_
    have h := Option.some.inj h
    subst h
    exact wd_iret CF hret hlk hW hS dX7_change_23
  · rw [if_neg c2] at h
    refine lv_aload_n hx hb dX7_change_8 rfl (lv_at hl 0 rfl) ?_
    refine lv_iload_n hx hb dX7_change_9 rfl (lv_at hl 2 rfl) ?_
    obtain ⟨x3, ex3, h⟩ := bdE h
    refine wd_callVr (ci := 7) (k := 370) CF hE hW hS (x_X7_isChild l X a2 D ex3) mi_X7_isChild vi_X7_isChild tw955 ⟨by decide, rfl⟩ sh_370 ⟨rfl, rfl, Nat.le_of_ble_eq_true rfl, Nat.le_of_ble_eq_true rfl⟩ rfl hl.1 rfl (Nat.le_of_ble_eq_true rfl) dX7_change_10 ⟨Nat.le_of_ble_eq_true rfl, Nat.le_of_ble_eq_true rfl⟩ (fun H locs hW hS => ?_)
    refine lv_if_eq (tgt := 21) hx hb dX7_change_13 (by decide) (fun c4 => ?_) (fun c4 => ?_)
    · rw [if_pos c4] at h
      refine lv_ldc (v := (-1000001)) hx hb hown (hts _ tw822) dX7_change_21 ?_
      have h := Option.some.inj h
      subst h
      exact wd_iret CF hret hlk hW hS dX7_change_23
    · rw [if_neg c4] at h
      refine lv_iload_n hx hb dX7_change_16 rfl (lv_at hl 1 rfl) ?_
      refine lv_iload_n hx hb dX7_change_17 rfl (lv_at hl 2 rfl) ?_
      refine lv_icmp_ne (tgt := 24) hx hb dX7_change_18 (by decide) (fun c5 => ?_) (fun c5 => ?_)
      · rw [if_neg c5] at h
        refine lv_aload_n hx hb dX7_change_24 rfl (lv_at hl 0 rfl) ?_
        obtain ⟨q6, eq6, h⟩ := bdE h
        refine wd_callVv (ci := 7) (k := 370) CF hE hW hS (x_X7_minds l X D eq6) mi_X7_minds vi_X7_minds tw909 ⟨by decide, rfl⟩ sh_370 ⟨rfl, rfl, Nat.le_of_ble_eq_true rfl, Nat.le_of_ble_eq_true rfl⟩ rfl hl.1 rfl (Nat.le_of_ble_eq_true rfl) dX7_change_25 ⟨Nat.le_of_ble_eq_true rfl, Nat.le_of_ble_eq_true rfl⟩ (fun H locs hW hS => ?_)
        refine lv_aload_n hx hb dX7_change_28 rfl (lv_at hl 0 rfl) ?_
        refine lv_iconst (v := 0) hx hb dX7_change_29 (by decide) ?_
        refine lv_iload_n hx hb dX7_change_30 rfl (lv_at hl 1 rfl) ?_
        refine lv_iload_n hx hb dX7_change_31 rfl (lv_at hl 2 rfl) ?_
        obtain ⟨q7, eq7, h⟩ := bdE h
        refine wd_callVv (ci := 7) (k := 370) CF hE hW hS (x_X7_swaps l X 0 a1 a2 q6 eq7) mi_X7_swaps vi_X7_swaps tw970 ⟨by decide, rfl⟩ sh_370 ⟨rfl, rfl, Nat.le_of_ble_eq_true rfl, Nat.le_of_ble_eq_true rfl⟩ rfl hl.1 rfl (Nat.le_of_ble_eq_true rfl) dX7_change_32 ⟨Nat.le_of_ble_eq_true rfl, Nat.le_of_ble_eq_true rfl⟩ (fun H locs hW hS => ?_)
        refine lv_aload_n hx hb dX7_change_35 rfl (lv_at hl 0 rfl) ?_
        refine wd_getR CF hE hW fl_X7_7 sh_370 rf_370_0 rfl dX7_change_36 ?_
        refine lv_bipush (v := 29) hx hb dX7_change_39 (by decide) ?_
        refine lv_iload_n hx hb dX7_change_41 rfl (lv_at hl 1 rfl) ?_
        refine lv_iadd hx hb dX7_change_42 ?_
        obtain ⟨x8, ex8, h⟩ := bdE h
        refine wd_iald CF hE hW sh_371 ex8 dX7_change_43 ?_
        have h := Option.some.inj h
        subst h
        exact wd_iret CF hret hlk hW hS dX7_change_44
      · rw [if_pos c5] at h
        refine lv_ldc (v := (-1000001)) hx hb hown (hts _ tw822) dX7_change_21 ?_
        have h := Option.some.inj h
        subst h
        exact wd_iret CF hret hlk hW hS dX7_change_23
def f_X7_lorry (a1 : Int32) (D : wd_D) : Option (Int32 × wd_D) := (f_X7_isRoom D).bind (fun x1 => (if x1 = 0 then some ((-1000002), D) else (if (f_X7_in a1.toInt64 0 99) = 0 then some ((-1000001), D) else (f_X7_minds D).bind (fun q4 => (f_X7_rolls 0 a1 q4).bind (fun q5 => some (q5.1, q5.2))))))
set_option maxHeartbeats 4000000 in
set_option maxRecDepth 100000 in
theorem x_X7_lorry (l : Launch) (X : wd_X) (a1 : Int32) (D : wd_D) {qv : Int32 × wd_D} (h : f_X7_lorry a1 D = some qv) : wd_Met l X yX7_lorry cX7_lorry 2 (some FieldType.int) ({ frames := 3, cells := 0, slots := 0, locals := 300 }) S0 S0 ([.ref (X.2.2.1 + 370), .int a1] : List Value) D qv.2 (some (.int qv.1)) 0 0 := by
  refine wd_enter (by decide) (Nat.le_of_ble_eq_true rfl) ?_
  intro p e s m below meth c CF hret hlk hnm hW hE ls hl
  have CF : CallFix p m c cX7_lorry 2 s ([.ref (X.2.2.1 + 370), .int a1] : List Value).toArray tg RX7 := CF
  have hx := CF.1
  have hb := CF.2.1
  have hown := CF.2.2.2.1
  have hts := CF.2.2.2.2
  have hS : va_S (wd_A X) s.heap s.heap [] := va_S.rf
  have hl : lv_has ls 2 [(0, .ref (X.2.2.1 + 370)), (1, .int a1)] := hl
  unfold f_X7_lorry at h
  refine lv_aload_n hx hb dX7_lorry_0 rfl (lv_at hl 0 rfl) ?_
  obtain ⟨x1, ex1, h⟩ := bdE h
  refine wd_callVr (ci := 7) (k := 370) CF hE hW hS (x_X7_isRoom l X D ex1) mi_X7_isRoom vi_X7_isRoom tw904 ⟨by decide, rfl⟩ sh_370 ⟨rfl, rfl, Nat.le_of_ble_eq_true rfl, Nat.le_of_ble_eq_true rfl⟩ rfl hl.1 rfl (Nat.le_of_ble_eq_true rfl) dX7_lorry_1 ⟨Nat.le_of_ble_eq_true rfl, Nat.le_of_ble_eq_true rfl⟩ (fun H locs hW hS => ?_)
  refine lv_if_ne (tgt := 10) hx hb dX7_lorry_4 (by decide) (fun c2 => ?_) (fun c2 => ?_)
  · rw [if_neg c2] at h
    refine lv_iload_n hx hb dX7_lorry_10 rfl (lv_at hl 1 rfl) ?_
    refine lv_i2l hx hb dX7_lorry_11 rfl ?_
    refine lv_lconst (v := 0) hx hb dX7_lorry_12 (by decide) ?_
    refine lv_ldc2 (v := 99) hx hb hown (hts _ tw978) dX7_lorry_13 ?_
    refine wd_callSr CF hE hW hS (x_X7_in l X a1.toInt64 0 99 D) mi_X7_in vi_X7_in tw818 ⟨rfl, rfl, Nat.le_of_ble_eq_true rfl, Nat.le_of_ble_eq_true rfl⟩ rfl hl.1 rfl (Nat.le_of_ble_eq_true rfl) dX7_lorry_16 ⟨Nat.le_of_ble_eq_true rfl, Nat.le_of_ble_eq_true rfl⟩ (fun H locs hW hS => ?_)
    refine lv_if_ne (tgt := 25) hx hb dX7_lorry_19 (by decide) (fun c3 => ?_) (fun c3 => ?_)
    · rw [if_neg c3] at h
      refine lv_aload_n hx hb dX7_lorry_25 rfl (lv_at hl 0 rfl) ?_
      obtain ⟨q4, eq4, h⟩ := bdE h
      refine wd_callVv (ci := 7) (k := 370) CF hE hW hS (x_X7_minds l X D eq4) mi_X7_minds vi_X7_minds tw909 ⟨by decide, rfl⟩ sh_370 ⟨rfl, rfl, Nat.le_of_ble_eq_true rfl, Nat.le_of_ble_eq_true rfl⟩ rfl hl.1 rfl (Nat.le_of_ble_eq_true rfl) dX7_lorry_26 ⟨Nat.le_of_ble_eq_true rfl, Nat.le_of_ble_eq_true rfl⟩ (fun H locs hW hS => ?_)
      refine lv_aload_n hx hb dX7_lorry_29 rfl (lv_at hl 0 rfl) ?_
      refine lv_iconst (v := 0) hx hb dX7_lorry_30 (by decide) ?_
      refine lv_iload_n hx hb dX7_lorry_31 rfl (lv_at hl 1 rfl) ?_
      obtain ⟨q5, eq5, h⟩ := bdE h
      refine wd_callVr (ci := 7) (k := 370) CF hE hW hS (x_X7_rolls l X 0 a1 q4 eq5) mi_X7_rolls vi_X7_rolls tw979 ⟨by decide, rfl⟩ sh_370 ⟨rfl, rfl, Nat.le_of_ble_eq_true rfl, Nat.le_of_ble_eq_true rfl⟩ rfl hl.1 rfl (Nat.le_of_ble_eq_true rfl) dX7_lorry_32 ⟨Nat.le_of_ble_eq_true rfl, Nat.le_of_ble_eq_true rfl⟩ (fun H locs hW hS => ?_)
      have h := Option.some.inj h
      subst h
      exact wd_iret CF hret hlk hW hS dX7_lorry_35
    · rw [if_pos c3] at h
      refine lv_ldc (v := (-1000001)) hx hb hown (hts _ tw822) dX7_lorry_22 ?_
      have h := Option.some.inj h
      subst h
      exact wd_iret CF hret hlk hW hS dX7_lorry_24
  · rw [if_pos c2] at h
    refine lv_ldc (v := (-1000002)) hx hb hown (hts _ tw899) dX7_lorry_7 ?_
    have h := Option.some.inj h
    subst h
    exact wd_iret CF hret hlk hW hS dX7_lorry_9
def f_X7_need (a1 : Int32) (a2 : Int32) (D : wd_D) : Option (Int32 × wd_D) := (f_X7_isChild a1 D).bind (fun x1 => (if x1 = 0 then some ((-1000001), D) else (if (f_X7_in a2.toInt64 1 9) = 0 then some ((-1000001), D) else (f_X7_minds D).bind (fun q4 => (rd 252 q4 371 (1 + a1)).bind (fun x5 => (wr 252 q4 371 (1 + a1) a2).bind (fun D6 => some (x5, D6)))))))
set_option maxHeartbeats 4000000 in
set_option maxRecDepth 100000 in
theorem x_X7_need (l : Launch) (X : wd_X) (a1 : Int32) (a2 : Int32) (D : wd_D) {qv : Int32 × wd_D} (h : f_X7_need a1 a2 D = some qv) : wd_Met l X yX7_need cX7_need 4 (some FieldType.int) ({ frames := 2, cells := 0, slots := 0, locals := 200 }) S0 S0 ([.ref (X.2.2.1 + 370), .int a1, .int a2] : List Value) D qv.2 (some (.int qv.1)) 0 0 := by
  refine wd_enter (by decide) (Nat.le_of_ble_eq_true rfl) ?_
  intro p e s m below meth c CF hret hlk hnm hW hE ls hl
  have CF : CallFix p m c cX7_need 4 s ([.ref (X.2.2.1 + 370), .int a1, .int a2] : List Value).toArray tg RX7 := CF
  have hx := CF.1
  have hb := CF.2.1
  have hown := CF.2.2.2.1
  have hts := CF.2.2.2.2
  have hS : va_S (wd_A X) s.heap s.heap [] := va_S.rf
  have hl : lv_has ls 4 [(0, .ref (X.2.2.1 + 370)), (1, .int a1), (2, .int a2)] := hl
  unfold f_X7_need at h
  refine lv_aload_n hx hb dX7_need_0 rfl (lv_at hl 0 rfl) ?_
  refine lv_iload_n hx hb dX7_need_1 rfl (lv_at hl 1 rfl) ?_
  obtain ⟨x1, ex1, h⟩ := bdE h
  refine wd_callVr (ci := 7) (k := 370) CF hE hW hS (x_X7_isChild l X a1 D ex1) mi_X7_isChild vi_X7_isChild tw955 ⟨by decide, rfl⟩ sh_370 ⟨rfl, rfl, Nat.le_of_ble_eq_true rfl, Nat.le_of_ble_eq_true rfl⟩ rfl hl.1 rfl (Nat.le_of_ble_eq_true rfl) dX7_need_2 ⟨Nat.le_of_ble_eq_true rfl, Nat.le_of_ble_eq_true rfl⟩ (fun H locs hW hS => ?_)
  refine lv_if_eq (tgt := 20) hx hb dX7_need_5 (by decide) (fun c2 => ?_) (fun c2 => ?_)
  · rw [if_pos c2] at h
    refine lv_ldc (v := (-1000001)) hx hb hown (hts _ tw822) dX7_need_20 ?_
    have h := Option.some.inj h
    subst h
    exact wd_iret CF hret hlk hW hS dX7_need_22
  · rw [if_neg c2] at h
    refine lv_iload_n hx hb dX7_need_8 rfl (lv_at hl 2 rfl) ?_
    refine lv_i2l hx hb dX7_need_9 rfl ?_
    refine lv_lconst (v := 1) hx hb dX7_need_10 (by decide) ?_
    refine lv_ldc2 (v := 9) hx hb hown (hts _ tw987) dX7_need_11 ?_
    refine wd_callSr CF hE hW hS (x_X7_in l X a2.toInt64 1 9 D) mi_X7_in vi_X7_in tw818 ⟨rfl, rfl, Nat.le_of_ble_eq_true rfl, Nat.le_of_ble_eq_true rfl⟩ rfl hl.1 rfl (Nat.le_of_ble_eq_true rfl) dX7_need_14 ⟨Nat.le_of_ble_eq_true rfl, Nat.le_of_ble_eq_true rfl⟩ (fun H locs hW hS => ?_)
    refine lv_if_ne (tgt := 23) hx hb dX7_need_17 (by decide) (fun c3 => ?_) (fun c3 => ?_)
    · rw [if_neg c3] at h
      refine lv_aload_n hx hb dX7_need_23 rfl (lv_at hl 0 rfl) ?_
      obtain ⟨q4, eq4, h⟩ := bdE h
      refine wd_callVv (ci := 7) (k := 370) CF hE hW hS (x_X7_minds l X D eq4) mi_X7_minds vi_X7_minds tw909 ⟨by decide, rfl⟩ sh_370 ⟨rfl, rfl, Nat.le_of_ble_eq_true rfl, Nat.le_of_ble_eq_true rfl⟩ rfl hl.1 rfl (Nat.le_of_ble_eq_true rfl) dX7_need_24 ⟨Nat.le_of_ble_eq_true rfl, Nat.le_of_ble_eq_true rfl⟩ (fun H locs hW hS => ?_)
      refine lv_aload_n hx hb dX7_need_27 rfl (lv_at hl 0 rfl) ?_
      refine wd_getR CF hE hW fl_X7_7 sh_370 rf_370_0 rfl dX7_need_28 ?_
      refine lv_iconst (v := 1) hx hb dX7_need_31 (by decide) ?_
      refine lv_iload_n hx hb dX7_need_32 rfl (lv_at hl 1 rfl) ?_
      refine lv_iadd hx hb dX7_need_33 ?_
      obtain ⟨x5, ex5, h⟩ := bdE h
      refine wd_iald CF hE hW sh_371 ex5 dX7_need_34 ?_
      refine lv_istore_n (lv' := [(3, .int x5), (0, .ref (X.2.2.1 + 370)), (1, .int a1), (2, .int a2)]) hx hb dX7_need_35 rfl hl (by decide) rfl (fun ls hl => ?_)
      refine lv_aload_n hx hb dX7_need_36 rfl (lv_at hl 1 rfl) ?_
      refine wd_getR CF hE hW fl_X7_7 sh_370 rf_370_0 rfl dX7_need_37 ?_
      refine lv_iconst (v := 1) hx hb dX7_need_40 (by decide) ?_
      refine lv_iload_n hx hb dX7_need_41 rfl (lv_at hl 2 rfl) ?_
      refine lv_iadd hx hb dX7_need_42 ?_
      refine lv_iload_n hx hb dX7_need_43 rfl (lv_at hl 3 rfl) ?_
      obtain ⟨D6, eD6, h⟩ := bdE h
      refine wd_iast CF hE hW hS sh_371 eD6 dX7_need_44 (fun H locs hW hS => ?_)
      refine lv_iload_n hx hb dX7_need_45 rfl (lv_at hl 0 rfl) ?_
      have h := Option.some.inj h
      subst h
      exact wd_iret CF hret hlk hW hS dX7_need_46
    · rw [if_pos c3] at h
      refine lv_ldc (v := (-1000001)) hx hb hown (hts _ tw822) dX7_need_20 ?_
      have h := Option.some.inj h
      subst h
      exact wd_iret CF hret hlk hW hS dX7_need_22
def f_X7_child (a1 : Int32) (a2 : Int32) (D : wd_D) : Option (Int32) := (f_X7_isChild a1 D).bind (fun x1 => (if x1 = 0 then some (-1000001) else (if a2 = 0 then (rd 252 D 371 (1 + a1)).bind (fun x4 => some x4) else (if a2 = 1 then (rd 252 D 371 (49 + a1)).bind (fun x6 => some x6) else (if a2 = 2 then (rd 252 D 371 (56 + a1)).bind (fun x8 => some x8) else (if a2 = 3 then (rd 252 D 371 (29 + a1)).bind (fun x10 => some x10) else (if a2 = 4 then (rd 252 D 371 (8 + a1)).bind (fun x12 => some x12) else (if a2 = 5 then (rd 252 D 371 (15 + a1)).bind (fun x14 => some x14) else (if a2 = 6 then (rd 252 D 371 (22 + a1)).bind (fun x16 => some x16) else (if a2 = 7 then (f_X7_noiseAt 0 a1 D).bind (fun x18 => some x18) else some (-1000001)))))))))))
set_option maxHeartbeats 4000000 in
set_option maxRecDepth 100000 in
theorem x_X7_child (l : Launch) (X : wd_X) (a1 : Int32) (a2 : Int32) (D : wd_D) {rv : Int32} (h : f_X7_child a1 a2 D = some rv) : wd_Met l X yX7_child cX7_child 3 (some FieldType.int) ({ frames := 3, cells := 0, slots := 0, locals := 300 }) S0 S0 ([.ref (X.2.2.1 + 370), .int a1, .int a2] : List Value) D D (some (.int rv)) 0 0 := by
  refine wd_enter (by decide) (Nat.le_of_ble_eq_true rfl) ?_
  intro p e s m below meth c CF hret hlk hnm hW hE ls hl
  have CF : CallFix p m c cX7_child 3 s ([.ref (X.2.2.1 + 370), .int a1, .int a2] : List Value).toArray tg RX7 := CF
  have hx := CF.1
  have hb := CF.2.1
  have hown := CF.2.2.2.1
  have hts := CF.2.2.2.2
  have hS : va_S (wd_A X) s.heap s.heap [] := va_S.rf
  have hl : lv_has ls 3 [(0, .ref (X.2.2.1 + 370)), (1, .int a1), (2, .int a2)] := hl
  unfold f_X7_child at h
  refine lv_aload_n hx hb dX7_child_0 rfl (lv_at hl 0 rfl) ?_
  refine lv_iload_n hx hb dX7_child_1 rfl (lv_at hl 1 rfl) ?_
  obtain ⟨x1, ex1, h⟩ := bdE h
  refine wd_callVr (ci := 7) (k := 370) CF hE hW hS (x_X7_isChild l X a1 D ex1) mi_X7_isChild vi_X7_isChild tw955 ⟨by decide, rfl⟩ sh_370 ⟨rfl, rfl, Nat.le_of_ble_eq_true rfl, Nat.le_of_ble_eq_true rfl⟩ rfl hl.1 rfl (Nat.le_of_ble_eq_true rfl) dX7_child_2 ⟨Nat.le_of_ble_eq_true rfl, Nat.le_of_ble_eq_true rfl⟩ (fun H locs hW hS => ?_)
  refine lv_if_ne (tgt := 11) hx hb dX7_child_5 (by decide) (fun c2 => ?_) (fun c2 => ?_)
  · rw [if_neg c2] at h
    refine lv_iload_n hx hb dX7_child_11 rfl (lv_at hl 2 rfl) ?_
    by_cases c3 : a2 = 0
    · rw [if_pos c3] at h
      refine lv_tableIn (tgt := 60) (off := 48) hx hb dX7_child_12 (by rw [c3]; decide) (by rw [c3]; decide) (by rw [c3]; rfl) (by decide) ?_
      refine lv_aload_n hx hb dX7_child_60 rfl (lv_at hl 0 rfl) ?_
      refine wd_getR CF hE hW fl_X7_7 sh_370 rf_370_0 rfl dX7_child_61 ?_
      refine lv_iconst (v := 1) hx hb dX7_child_64 (by decide) ?_
      refine lv_iload_n hx hb dX7_child_65 rfl (lv_at hl 1 rfl) ?_
      refine lv_iadd hx hb dX7_child_66 ?_
      obtain ⟨x4, ex4, h⟩ := bdE h
      refine wd_iald CF hE hW sh_371 ex4 dX7_child_67 ?_
      have h := Option.some.inj h
      subst h
      exact wd_iret CF hret hlk hW hS dX7_child_68
    · rw [if_neg c3] at h
      by_cases c5 : a2 = 1
      · rw [if_pos c5] at h
        refine lv_tableIn (tgt := 69) (off := 57) hx hb dX7_child_12 (by rw [c5]; decide) (by rw [c5]; decide) (by rw [c5]; rfl) (by decide) ?_
        refine lv_aload_n hx hb dX7_child_69 rfl (lv_at hl 0 rfl) ?_
        refine wd_getR CF hE hW fl_X7_7 sh_370 rf_370_0 rfl dX7_child_70 ?_
        refine lv_bipush (v := 49) hx hb dX7_child_73 (by decide) ?_
        refine lv_iload_n hx hb dX7_child_75 rfl (lv_at hl 1 rfl) ?_
        refine lv_iadd hx hb dX7_child_76 ?_
        obtain ⟨x6, ex6, h⟩ := bdE h
        refine wd_iald CF hE hW sh_371 ex6 dX7_child_77 ?_
        have h := Option.some.inj h
        subst h
        exact wd_iret CF hret hlk hW hS dX7_child_78
      · rw [if_neg c5] at h
        by_cases c7 : a2 = 2
        · rw [if_pos c7] at h
          refine lv_tableIn (tgt := 79) (off := 67) hx hb dX7_child_12 (by rw [c7]; decide) (by rw [c7]; decide) (by rw [c7]; rfl) (by decide) ?_
          refine lv_aload_n hx hb dX7_child_79 rfl (lv_at hl 0 rfl) ?_
          refine wd_getR CF hE hW fl_X7_7 sh_370 rf_370_0 rfl dX7_child_80 ?_
          refine lv_bipush (v := 56) hx hb dX7_child_83 (by decide) ?_
          refine lv_iload_n hx hb dX7_child_85 rfl (lv_at hl 1 rfl) ?_
          refine lv_iadd hx hb dX7_child_86 ?_
          obtain ⟨x8, ex8, h⟩ := bdE h
          refine wd_iald CF hE hW sh_371 ex8 dX7_child_87 ?_
          have h := Option.some.inj h
          subst h
          exact wd_iret CF hret hlk hW hS dX7_child_88
        · rw [if_neg c7] at h
          by_cases c9 : a2 = 3
          · rw [if_pos c9] at h
            refine lv_tableIn (tgt := 89) (off := 77) hx hb dX7_child_12 (by rw [c9]; decide) (by rw [c9]; decide) (by rw [c9]; rfl) (by decide) ?_
            refine lv_aload_n hx hb dX7_child_89 rfl (lv_at hl 0 rfl) ?_
            refine wd_getR CF hE hW fl_X7_7 sh_370 rf_370_0 rfl dX7_child_90 ?_
            refine lv_bipush (v := 29) hx hb dX7_child_93 (by decide) ?_
            refine lv_iload_n hx hb dX7_child_95 rfl (lv_at hl 1 rfl) ?_
            refine lv_iadd hx hb dX7_child_96 ?_
            obtain ⟨x10, ex10, h⟩ := bdE h
            refine wd_iald CF hE hW sh_371 ex10 dX7_child_97 ?_
            have h := Option.some.inj h
            subst h
            exact wd_iret CF hret hlk hW hS dX7_child_98
          · rw [if_neg c9] at h
            by_cases c11 : a2 = 4
            · rw [if_pos c11] at h
              refine lv_tableIn (tgt := 99) (off := 87) hx hb dX7_child_12 (by rw [c11]; decide) (by rw [c11]; decide) (by rw [c11]; rfl) (by decide) ?_
              refine lv_aload_n hx hb dX7_child_99 rfl (lv_at hl 0 rfl) ?_
              refine wd_getR CF hE hW fl_X7_7 sh_370 rf_370_0 rfl dX7_child_100 ?_
              refine lv_bipush (v := 8) hx hb dX7_child_103 (by decide) ?_
              refine lv_iload_n hx hb dX7_child_105 rfl (lv_at hl 1 rfl) ?_
              refine lv_iadd hx hb dX7_child_106 ?_
              obtain ⟨x12, ex12, h⟩ := bdE h
              refine wd_iald CF hE hW sh_371 ex12 dX7_child_107 ?_
              have h := Option.some.inj h
              subst h
              exact wd_iret CF hret hlk hW hS dX7_child_108
            · rw [if_neg c11] at h
              by_cases c13 : a2 = 5
              · rw [if_pos c13] at h
                refine lv_tableIn (tgt := 109) (off := 97) hx hb dX7_child_12 (by rw [c13]; decide) (by rw [c13]; decide) (by rw [c13]; rfl) (by decide) ?_
                refine lv_aload_n hx hb dX7_child_109 rfl (lv_at hl 0 rfl) ?_
                refine wd_getR CF hE hW fl_X7_7 sh_370 rf_370_0 rfl dX7_child_110 ?_
                refine lv_bipush (v := 15) hx hb dX7_child_113 (by decide) ?_
                refine lv_iload_n hx hb dX7_child_115 rfl (lv_at hl 1 rfl) ?_
                refine lv_iadd hx hb dX7_child_116 ?_
                obtain ⟨x14, ex14, h⟩ := bdE h
                refine wd_iald CF hE hW sh_371 ex14 dX7_child_117 ?_
                have h := Option.some.inj h
                subst h
                exact wd_iret CF hret hlk hW hS dX7_child_118
              · rw [if_neg c13] at h
                by_cases c15 : a2 = 6
                · rw [if_pos c15] at h
                  refine lv_tableIn (tgt := 119) (off := 107) hx hb dX7_child_12 (by rw [c15]; decide) (by rw [c15]; decide) (by rw [c15]; rfl) (by decide) ?_
                  refine lv_aload_n hx hb dX7_child_119 rfl (lv_at hl 0 rfl) ?_
                  refine wd_getR CF hE hW fl_X7_7 sh_370 rf_370_0 rfl dX7_child_120 ?_
                  refine lv_bipush (v := 22) hx hb dX7_child_123 (by decide) ?_
                  refine lv_iload_n hx hb dX7_child_125 rfl (lv_at hl 1 rfl) ?_
                  refine lv_iadd hx hb dX7_child_126 ?_
                  obtain ⟨x16, ex16, h⟩ := bdE h
                  refine wd_iald CF hE hW sh_371 ex16 dX7_child_127 ?_
                  have h := Option.some.inj h
                  subst h
                  exact wd_iret CF hret hlk hW hS dX7_child_128
                · rw [if_neg c15] at h
                  by_cases c17 : a2 = 7
                  · rw [if_pos c17] at h
                    refine lv_tableIn (tgt := 129) (off := 117) hx hb dX7_child_12 (by rw [c17]; decide) (by rw [c17]; decide) (by rw [c17]; rfl) (by decide) ?_
                    refine lv_aload_n hx hb dX7_child_129 rfl (lv_at hl 0 rfl) ?_
                    refine lv_iconst (v := 0) hx hb dX7_child_130 (by decide) ?_
                    refine lv_iload_n hx hb dX7_child_131 rfl (lv_at hl 1 rfl) ?_
                    obtain ⟨x18, ex18, h⟩ := bdE h
                    refine wd_callVr (ci := 7) (k := 370) CF hE hW hS (x_X7_noiseAt l X 0 a1 D ex18) mi_X7_noiseAt vi_X7_noiseAt tw917 ⟨by decide, rfl⟩ sh_370 ⟨rfl, rfl, Nat.le_of_ble_eq_true rfl, Nat.le_of_ble_eq_true rfl⟩ rfl hl.1 rfl (Nat.le_of_ble_eq_true rfl) dX7_child_132 ⟨Nat.le_of_ble_eq_true rfl, Nat.le_of_ble_eq_true rfl⟩ (fun H locs hW hS => ?_)
                    have h := Option.some.inj h
                    subst h
                    exact wd_iret CF hret hlk hW hS dX7_child_135
                  · rw [if_neg c17] at h
                    have ic3 := lv_neT (a := 0) c3 (by decide)
                    have ic5 := lv_neT (a := 1) c5 (by decide)
                    have ic7 := lv_neT (a := 2) c7 (by decide)
                    have ic9 := lv_neT (a := 3) c9 (by decide)
                    have ic11 := lv_neT (a := 4) c11 (by decide)
                    have ic13 := lv_neT (a := 5) c13 (by decide)
                    have ic15 := lv_neT (a := 6) c15 (by decide)
                    have ic17 := lv_neT (a := 7) c17 (by decide)
                    refine lv_tableOut (tgt := 136) hx hb dX7_child_12 (by omega) (by decide) ?_
                    refine lv_ldc (v := (-1000001)) hx hb hown (hts _ tw822) dX7_child_136 ?_
                    have h := Option.some.inj h
                    subst h
                    exact wd_iret CF hret hlk hW hS dX7_child_138
  · rw [if_pos c2] at h
    refine lv_ldc (v := (-1000001)) hx hb hown (hts _ tw822) dX7_child_8 ?_
    have h := Option.some.inj h
    subst h
    exact wd_iret CF hret hlk hW hS dX7_child_10
def f_X7_stand (a1 : Int32) (D : wd_D) : Option (Int32) := (f_X7_isRoom D).bind (fun x1 => (if x1 = 0 then some (-1000002) else (if (f_X7_in a1.toInt64 0 2) = 0 then (if a1 = 3 then (rd 252 D 371 36).bind (fun x7 => some x7) else (if a1 = 4 then (rd 252 D 371 37).bind (fun x6 => some x6) else some (-1000001))) else (f_X7_thoseWho 0 a1 D).bind (fun x8 => some x8))))
set_option maxHeartbeats 4000000 in
set_option maxRecDepth 100000 in
theorem x_X7_stand (l : Launch) (X : wd_X) (a1 : Int32) (D : wd_D) {rv : Int32} (h : f_X7_stand a1 D = some rv) : wd_Met l X yX7_stand cX7_stand 2 (some FieldType.int) ({ frames := 1, cells := 0, slots := 0, locals := 100 }) S0 S0 ([.ref (X.2.2.1 + 370), .int a1] : List Value) D D (some (.int rv)) 0 0 := by
  refine wd_enter (by decide) (Nat.le_of_ble_eq_true rfl) ?_
  intro p e s m below meth c CF hret hlk hnm hW hE ls hl
  have CF : CallFix p m c cX7_stand 2 s ([.ref (X.2.2.1 + 370), .int a1] : List Value).toArray tg RX7 := CF
  have hx := CF.1
  have hb := CF.2.1
  have hown := CF.2.2.2.1
  have hts := CF.2.2.2.2
  have hS : va_S (wd_A X) s.heap s.heap [] := va_S.rf
  have hl : lv_has ls 2 [(0, .ref (X.2.2.1 + 370)), (1, .int a1)] := hl
  unfold f_X7_stand at h
  refine lv_aload_n hx hb dX7_stand_0 rfl (lv_at hl 0 rfl) ?_
  obtain ⟨x1, ex1, h⟩ := bdE h
  refine wd_callVr (ci := 7) (k := 370) CF hE hW hS (x_X7_isRoom l X D ex1) mi_X7_isRoom vi_X7_isRoom tw904 ⟨by decide, rfl⟩ sh_370 ⟨rfl, rfl, Nat.le_of_ble_eq_true rfl, Nat.le_of_ble_eq_true rfl⟩ rfl hl.1 rfl (Nat.le_of_ble_eq_true rfl) dX7_stand_1 ⟨Nat.le_of_ble_eq_true rfl, Nat.le_of_ble_eq_true rfl⟩ (fun H locs hW hS => ?_)
  refine lv_if_ne (tgt := 10) hx hb dX7_stand_4 (by decide) (fun c2 => ?_) (fun c2 => ?_)
  · rw [if_neg c2] at h
    refine lv_iload_n hx hb dX7_stand_10 rfl (lv_at hl 1 rfl) ?_
    refine lv_i2l hx hb dX7_stand_11 rfl ?_
    refine lv_lconst (v := 0) hx hb dX7_stand_12 (by decide) ?_
    refine lv_ldc2 (v := 2) hx hb hown (hts _ tw821) dX7_stand_13 ?_
    refine wd_callSr CF hE hW hS (x_X7_in l X a1.toInt64 0 2 D) mi_X7_in vi_X7_in tw818 ⟨rfl, rfl, Nat.le_of_ble_eq_true rfl, Nat.le_of_ble_eq_true rfl⟩ rfl hl.1 rfl (Nat.le_of_ble_eq_true rfl) dX7_stand_16 ⟨Nat.le_of_ble_eq_true rfl, Nat.le_of_ble_eq_true rfl⟩ (fun H locs hW hS => ?_)
    refine lv_if_eq (tgt := 31) hx hb dX7_stand_19 (by decide) (fun c3 => ?_) (fun c3 => ?_)
    · rw [if_pos c3] at h
      refine lv_iload_n hx hb dX7_stand_31 rfl (lv_at hl 1 rfl) ?_
      refine lv_iconst (v := 3) hx hb dX7_stand_32 (by decide) ?_
      refine lv_icmp_ne (tgt := 46) hx hb dX7_stand_33 (by decide) (fun c4 => ?_) (fun c4 => ?_)
      · rw [if_neg c4] at h
        refine lv_iload_n hx hb dX7_stand_46 rfl (lv_at hl 1 rfl) ?_
        refine lv_iconst (v := 4) hx hb dX7_stand_47 (by decide) ?_
        refine lv_icmp_ne (tgt := 61) hx hb dX7_stand_48 (by decide) (fun c5 => ?_) (fun c5 => ?_)
        · rw [if_neg c5] at h
          refine lv_ldc (v := (-1000001)) hx hb hown (hts _ tw822) dX7_stand_61 ?_
          have h := Option.some.inj h
          subst h
          exact wd_iret CF hret hlk hW hS dX7_stand_63
        · rw [if_pos c5] at h
          refine lv_aload_n hx hb dX7_stand_51 rfl (lv_at hl 0 rfl) ?_
          refine wd_getR CF hE hW fl_X7_7 sh_370 rf_370_0 rfl dX7_stand_52 ?_
          refine lv_bipush (v := 37) hx hb dX7_stand_55 (by decide) ?_
          obtain ⟨x6, ex6, h⟩ := bdE h
          refine wd_iald CF hE hW sh_371 ex6 dX7_stand_57 ?_
          refine lv_goto (tgt := 63) hx hb dX7_stand_58 (by decide) ?_
          have h := Option.some.inj h
          subst h
          exact wd_iret CF hret hlk hW hS dX7_stand_63
      · rw [if_pos c4] at h
        refine lv_aload_n hx hb dX7_stand_36 rfl (lv_at hl 0 rfl) ?_
        refine wd_getR CF hE hW fl_X7_7 sh_370 rf_370_0 rfl dX7_stand_37 ?_
        refine lv_bipush (v := 36) hx hb dX7_stand_40 (by decide) ?_
        obtain ⟨x7, ex7, h⟩ := bdE h
        refine wd_iald CF hE hW sh_371 ex7 dX7_stand_42 ?_
        refine lv_goto (tgt := 63) hx hb dX7_stand_43 (by decide) ?_
        have h := Option.some.inj h
        subst h
        exact wd_iret CF hret hlk hW hS dX7_stand_63
    · rw [if_neg c3] at h
      refine lv_aload_n hx hb dX7_stand_22 rfl (lv_at hl 0 rfl) ?_
      refine lv_iconst (v := 0) hx hb dX7_stand_23 (by decide) ?_
      refine lv_iload_n hx hb dX7_stand_24 rfl (lv_at hl 1 rfl) ?_
      obtain ⟨x8, ex8, h⟩ := bdE h
      refine wd_callVr (ci := 7) (k := 370) CF hE hW hS (x_X7_thoseWho l X 0 a1 D ex8) mi_X7_thoseWho vi_X7_thoseWho tw947 ⟨by decide, rfl⟩ sh_370 ⟨rfl, rfl, Nat.le_of_ble_eq_true rfl, Nat.le_of_ble_eq_true rfl⟩ rfl hl.1 rfl (Nat.le_of_ble_eq_true rfl) dX7_stand_25 ⟨Nat.le_of_ble_eq_true rfl, Nat.le_of_ble_eq_true rfl⟩ (fun H locs hW hS => ?_)
      refine lv_goto (tgt := 63) hx hb dX7_stand_28 (by decide) ?_
      have h := Option.some.inj h
      subst h
      exact wd_iret CF hret hlk hW hS dX7_stand_63
  · rw [if_pos c2] at h
    refine lv_ldc (v := (-1000002)) hx hb hown (hts _ tw899) dX7_stand_7 ?_
    have h := Option.some.inj h
    subst h
    exact wd_iret CF hret hlk hW hS dX7_stand_9
def f_X7_isSpan (a0 : Int32) (a1 : Int32) : Int32 := (f_X7_in a0.toInt64 a1.toInt64 60)
theorem z_X7_isSpan (a0 : Int32) (a1 : Int32) : f_X7_isSpan a0 a1 = 0 ∨ f_X7_isSpan a0 a1 = 1 := by
  unfold f_X7_isSpan
  (repeat' split) <;> first | exact Or.inl rfl | exact Or.inr rfl | apply z_X7_in
set_option maxHeartbeats 4000000 in
set_option maxRecDepth 100000 in
theorem x_X7_isSpan (l : Launch) (X : wd_X) (a0 : Int32) (a1 : Int32) (D : wd_D) : wd_Met l X yX7_isSpan cX7_isSpan 2 (some FieldType.boolean) ({ frames := 1, cells := 0, slots := 0, locals := 100 }) S0 S0 ([.int a0, .int a1] : List Value) D D (some (.int (f_X7_isSpan a0 a1))) 0 0 := by
  obtain ⟨rv, h⟩ : ∃ rv, f_X7_isSpan a0 a1 = rv := ⟨_, rfl⟩
  rw [h]
  refine wd_enter (by decide) (Nat.le_of_ble_eq_true rfl) ?_
  intro p e s m below meth c CF hret hlk hnm hW hE ls hl
  have CF : CallFix p m c cX7_isSpan 2 s ([.int a0, .int a1] : List Value).toArray tg RX7 := CF
  have hx := CF.1
  have hb := CF.2.1
  have hown := CF.2.2.2.1
  have hts := CF.2.2.2.2
  have hS : va_S (wd_A X) s.heap s.heap [] := va_S.rf
  have hl : lv_has ls 2 [(0, .int a0), (1, .int a1)] := hl
  unfold f_X7_isSpan at h
  refine lv_iload_n hx hb dX7_isSpan_0 rfl (lv_at hl 0 rfl) ?_
  refine lv_i2l hx hb dX7_isSpan_1 rfl ?_
  refine lv_iload_n hx hb dX7_isSpan_2 rfl (lv_at hl 1 rfl) ?_
  refine lv_i2l hx hb dX7_isSpan_3 rfl ?_
  refine lv_ldc2 (v := 60) hx hb hown (hts _ tw1003) dX7_isSpan_4 ?_
  refine wd_callSr CF hE hW hS (x_X7_in l X a0.toInt64 a1.toInt64 60 D) mi_X7_in vi_X7_in tw818 ⟨rfl, rfl, Nat.le_of_ble_eq_true rfl, Nat.le_of_ble_eq_true rfl⟩ rfl hl.1 rfl (Nat.le_of_ble_eq_true rfl) dX7_isSpan_7 ⟨Nat.le_of_ble_eq_true rfl, Nat.le_of_ble_eq_true rfl⟩ (fun H locs hW hS => ?_)
  subst h
  exact wd_zret CF hret hlk hW hS (z_X7_in a0.toInt64 a1.toInt64 60) dX7_isSpan_10
def f_X7_tries  (D : wd_D) : Option (wd_D) := (f_X7_copyAll 0 189 D).bind (fun q1 => some q1)
set_option maxHeartbeats 4000000 in
set_option maxRecDepth 100000 in
theorem x_X7_tries (l : Launch) (X : wd_X)  (D : wd_D) {qv : wd_D} (h : f_X7_tries  D = some qv) : wd_Met l X yX7_tries cX7_tries 1 (none : Option FieldType) ({ frames := 1, cells := 0, slots := 0, locals := 100 }) S0 S0 ([.ref (X.2.2.1 + 370)] : List Value) D qv none 0 0 := by
  refine wd_enter (by decide) (Nat.le_of_ble_eq_true rfl) ?_
  intro p e s m below meth c CF hret hlk hnm hW hE ls hl
  have CF : CallFix p m c cX7_tries 1 s ([.ref (X.2.2.1 + 370)] : List Value).toArray tg RX7 := CF
  have hx := CF.1
  have hb := CF.2.1
  have hown := CF.2.2.2.1
  have hts := CF.2.2.2.2
  have hS : va_S (wd_A X) s.heap s.heap [] := va_S.rf
  have hl : lv_has ls 1 [(0, .ref (X.2.2.1 + 370))] := hl
  unfold f_X7_tries at h
  refine lv_aload_n hx hb dX7_tries_0 rfl (lv_at hl 0 rfl) ?_
  refine lv_iconst (v := 0) hx hb dX7_tries_1 (by decide) ?_
  refine lv_sipush (v := 189) hx hb dX7_tries_2 (by decide) ?_
  obtain ⟨q1, eq1, h⟩ := bdE h
  refine wd_callVv (ci := 7) (k := 370) CF hE hW hS (x_X7_copyAll l X 0 189 D eq1) mi_X7_copyAll vi_X7_copyAll tw887 ⟨by decide, rfl⟩ sh_370 ⟨rfl, rfl, Nat.le_of_ble_eq_true rfl, Nat.le_of_ble_eq_true rfl⟩ rfl hl.1 rfl (Nat.le_of_ble_eq_true rfl) dX7_tries_5 ⟨Nat.le_of_ble_eq_true rfl, Nat.le_of_ble_eq_true rfl⟩ (fun H locs hW hS => ?_)
  have h := Option.some.inj h
  subst h
  exact wd_vret CF hret hlk hW hS dX7_tries_8
def f_X7_goesOn_L2  : Nat → Int32 → Int32 → wd_D → Option (wd_D)
  | 0, _, _, _ => none
  | n + 1, a1, v2, D => (if a1 ≤ v2 then some D else (f_X7_passes 189 D).bind (fun q2 => ap (v2 + 1) (fun x3 => (f_X7_goesOn_L2 n) a1 x3 q2)))
def f_X7_goesOn (a1 : Int32) (D : wd_D) : Option (wd_D) := f_X7_goesOn_L2 FU a1 0 D
set_option maxHeartbeats 4000000 in
set_option maxRecDepth 100000 in
theorem x_X7_goesOn (l : Launch) (X : wd_X) (a1 : Int32) (D : wd_D) {qv : wd_D} (h : f_X7_goesOn a1 D = some qv) : wd_Met l X yX7_goesOn cX7_goesOn 3 (none : Option FieldType) ({ frames := 4, cells := 0, slots := 0, locals := 400 }) S0 S0 ([.ref (X.2.2.1 + 370), .int a1] : List Value) D qv none 0 0 := by
  refine wd_enter (by decide) (Nat.le_of_ble_eq_true rfl) ?_
  intro p e s m below meth c CF hret hlk hnm hW hE ls hl
  have CF : CallFix p m c cX7_goesOn 3 s ([.ref (X.2.2.1 + 370), .int a1] : List Value).toArray tg RX7 := CF
  have hx := CF.1
  have hb := CF.2.1
  have hown := CF.2.2.2.1
  have hts := CF.2.2.2.2
  have hS : va_S (wd_A X) s.heap s.heap [] := va_S.rf
  have hl : lv_has ls 3 [(0, .ref (X.2.2.1 + 370)), (1, .int a1)] := hl
  unfold f_X7_goesOn at h
  have hL2 : ∀ (n2 : Nat) (v2 : Int32) (D : wd_D) (H : Heap) (locs : List Loc) (ls : Array Slot), Wd X S0 D H → va_S (wd_A X) s.heap H locs → lv_has ls 3 [(0, .ref (X.2.2.1 + 370)), (1, .int a1), (2, .int v2)] → f_X7_goesOn_L2 n2 a1 v2 D = some qv → W p l e ({ frames := 4, cells := 0, slots := 0, locals := 400 }) s m ([.ref (X.2.2.1 + 370), .int a1] : List Value).toArray below meth c H locs 0 0 (MQ below (wd_Q X S0 qv none) ([.ref (X.2.2.1 + 370), .int a1] : List Value).toArray s 0 0 (wd_A X)) (F0 m 2 ls []) := by
    intro n2
    induction n2 with
    | zero => intro v2 D H locs ls hW hS hl h; cases h
    | succ n2 ih2 =>
      intro v2 D H locs ls hW hS hl h
      rw [f_X7_goesOn_L2] at h
      refine lv_iload_n hx hb dX7_goesOn_2 rfl (lv_at hl 2 rfl) ?_
      refine lv_iload_n hx hb dX7_goesOn_3 rfl (lv_at hl 1 rfl) ?_
      refine lv_icmp_ge (tgt := 20) hx hb dX7_goesOn_4 (by decide) (fun c1 => ?_) (fun c1 => ?_)
      · rw [if_pos c1] at h
        have h := Option.some.inj h
        subst h
        exact wd_vret CF hret hlk hW hS dX7_goesOn_20
      · rw [if_neg c1] at h
        refine lv_aload_n hx hb dX7_goesOn_7 rfl (lv_at hl 0 rfl) ?_
        refine lv_sipush (v := 189) hx hb dX7_goesOn_8 (by decide) ?_
        obtain ⟨q2, eq2, h⟩ := bdE h
        refine wd_callVv (ci := 7) (k := 370) CF hE hW hS (x_X7_passes l X 189 D eq2) mi_X7_passes vi_X7_passes tw913 ⟨by decide, rfl⟩ sh_370 ⟨rfl, rfl, Nat.le_of_ble_eq_true rfl, Nat.le_of_ble_eq_true rfl⟩ rfl hl.1 rfl (Nat.le_of_ble_eq_true rfl) dX7_goesOn_11 ⟨Nat.le_of_ble_eq_true rfl, Nat.le_of_ble_eq_true rfl⟩ (fun H locs hW hS => ?_)
        obtain ⟨x3, ex3⟩ : ∃ y : Int32, y = v2 + 1 := ⟨_, rfl⟩
        replace h := apR ex3 h
        refine lv_iinc (v := x3) (lv' := [(2, .int x3), (0, .ref (X.2.2.1 + 370)), (1, .int a1)]) hx hb dX7_goesOn_14 hl (k := 2) rfl (by rw [ex3]; rfl) (by decide) rfl (fun ls hl => ?_)
        refine lv_goto (tgt := 2) hx hb dX7_goesOn_17 (by decide) ?_
        exact ih2 x3 q2 _ _ _  hW hS (lv_sub hl [1, 2, 0] rfl) h
  refine lv_iconst (v := 0) hx hb dX7_goesOn_0 (by decide) ?_
  refine lv_istore_n (lv' := [(2, .int 0), (0, .ref (X.2.2.1 + 370)), (1, .int a1)]) hx hb dX7_goesOn_1 rfl hl (by decide) rfl (fun ls hl => ?_)
  exact hL2 FU 0 D _ _ _  hW hS (lv_sub hl [1, 2, 0] rfl) h
def f_X7_ahead (a1 : Int32) (a2 : Int32) (D : wd_D) : Option (Int32 × wd_D) := (f_X7_isRoom D).bind (fun x1 => (if x1 = 0 then some ((-1000002), D) else (if (f_X7_isSpan a1 0) = 0 then some ((-1000001), D) else (if (f_X7_in a2.toInt64 0 2) = 0 then some ((-1000001), D) else (f_X7_tries D).bind (fun q5 => (f_X7_goesOn a1 q5).bind (fun q6 => (f_X7_thoseWho 189 a2 q6).bind (fun x7 => some (x7, q6))))))))
set_option maxHeartbeats 4000000 in
set_option maxRecDepth 100000 in
theorem x_X7_ahead (l : Launch) (X : wd_X) (a1 : Int32) (a2 : Int32) (D : wd_D) {qv : Int32 × wd_D} (h : f_X7_ahead a1 a2 D = some qv) : wd_Met l X yX7_ahead cX7_ahead 3 (some FieldType.int) ({ frames := 5, cells := 0, slots := 0, locals := 500 }) S0 S0 ([.ref (X.2.2.1 + 370), .int a1, .int a2] : List Value) D qv.2 (some (.int qv.1)) 0 0 := by
  refine wd_enter (by decide) (Nat.le_of_ble_eq_true rfl) ?_
  intro p e s m below meth c CF hret hlk hnm hW hE ls hl
  have CF : CallFix p m c cX7_ahead 3 s ([.ref (X.2.2.1 + 370), .int a1, .int a2] : List Value).toArray tg RX7 := CF
  have hx := CF.1
  have hb := CF.2.1
  have hown := CF.2.2.2.1
  have hts := CF.2.2.2.2
  have hS : va_S (wd_A X) s.heap s.heap [] := va_S.rf
  have hl : lv_has ls 3 [(0, .ref (X.2.2.1 + 370)), (1, .int a1), (2, .int a2)] := hl
  unfold f_X7_ahead at h
  refine lv_aload_n hx hb dX7_ahead_0 rfl (lv_at hl 0 rfl) ?_
  obtain ⟨x1, ex1, h⟩ := bdE h
  refine wd_callVr (ci := 7) (k := 370) CF hE hW hS (x_X7_isRoom l X D ex1) mi_X7_isRoom vi_X7_isRoom tw904 ⟨by decide, rfl⟩ sh_370 ⟨rfl, rfl, Nat.le_of_ble_eq_true rfl, Nat.le_of_ble_eq_true rfl⟩ rfl hl.1 rfl (Nat.le_of_ble_eq_true rfl) dX7_ahead_1 ⟨Nat.le_of_ble_eq_true rfl, Nat.le_of_ble_eq_true rfl⟩ (fun H locs hW hS => ?_)
  refine lv_if_ne (tgt := 10) hx hb dX7_ahead_4 (by decide) (fun c2 => ?_) (fun c2 => ?_)
  · rw [if_neg c2] at h
    refine lv_iload_n hx hb dX7_ahead_10 rfl (lv_at hl 1 rfl) ?_
    refine lv_iconst (v := 0) hx hb dX7_ahead_11 (by decide) ?_
    refine wd_callSr CF hE hW hS (x_X7_isSpan l X a1 0 D) mi_X7_isSpan vi_X7_isSpan tw1000 ⟨rfl, rfl, Nat.le_of_ble_eq_true rfl, Nat.le_of_ble_eq_true rfl⟩ rfl hl.1 rfl (Nat.le_of_ble_eq_true rfl) dX7_ahead_12 ⟨Nat.le_of_ble_eq_true rfl, Nat.le_of_ble_eq_true rfl⟩ (fun H locs hW hS => ?_)
    refine lv_if_eq (tgt := 30) hx hb dX7_ahead_15 (by decide) (fun c3 => ?_) (fun c3 => ?_)
    · rw [if_pos c3] at h
      refine lv_ldc (v := (-1000001)) hx hb hown (hts _ tw822) dX7_ahead_30 ?_
      have h := Option.some.inj h
      subst h
      exact wd_iret CF hret hlk hW hS dX7_ahead_32
    · rw [if_neg c3] at h
      refine lv_iload_n hx hb dX7_ahead_18 rfl (lv_at hl 2 rfl) ?_
      refine lv_i2l hx hb dX7_ahead_19 rfl ?_
      refine lv_lconst (v := 0) hx hb dX7_ahead_20 (by decide) ?_
      refine lv_ldc2 (v := 2) hx hb hown (hts _ tw821) dX7_ahead_21 ?_
      refine wd_callSr CF hE hW hS (x_X7_in l X a2.toInt64 0 2 D) mi_X7_in vi_X7_in tw818 ⟨rfl, rfl, Nat.le_of_ble_eq_true rfl, Nat.le_of_ble_eq_true rfl⟩ rfl hl.1 rfl (Nat.le_of_ble_eq_true rfl) dX7_ahead_24 ⟨Nat.le_of_ble_eq_true rfl, Nat.le_of_ble_eq_true rfl⟩ (fun H locs hW hS => ?_)
      refine lv_if_ne (tgt := 33) hx hb dX7_ahead_27 (by decide) (fun c4 => ?_) (fun c4 => ?_)
      · rw [if_neg c4] at h
        refine lv_aload_n hx hb dX7_ahead_33 rfl (lv_at hl 0 rfl) ?_
        obtain ⟨q5, eq5, h⟩ := bdE h
        refine wd_callVv (ci := 7) (k := 370) CF hE hW hS (x_X7_tries l X D eq5) mi_X7_tries vi_X7_tries tw1004 ⟨by decide, rfl⟩ sh_370 ⟨rfl, rfl, Nat.le_of_ble_eq_true rfl, Nat.le_of_ble_eq_true rfl⟩ rfl hl.1 rfl (Nat.le_of_ble_eq_true rfl) dX7_ahead_34 ⟨Nat.le_of_ble_eq_true rfl, Nat.le_of_ble_eq_true rfl⟩ (fun H locs hW hS => ?_)
        refine lv_aload_n hx hb dX7_ahead_37 rfl (lv_at hl 0 rfl) ?_
        refine lv_iload_n hx hb dX7_ahead_38 rfl (lv_at hl 1 rfl) ?_
        obtain ⟨q6, eq6, h⟩ := bdE h
        refine wd_callVv (ci := 7) (k := 370) CF hE hW hS (x_X7_goesOn l X a1 q5 eq6) mi_X7_goesOn vi_X7_goesOn tw1008 ⟨by decide, rfl⟩ sh_370 ⟨rfl, rfl, Nat.le_of_ble_eq_true rfl, Nat.le_of_ble_eq_true rfl⟩ rfl hl.1 rfl (Nat.le_of_ble_eq_true rfl) dX7_ahead_39 ⟨Nat.le_of_ble_eq_true rfl, Nat.le_of_ble_eq_true rfl⟩ (fun H locs hW hS => ?_)
        refine lv_aload_n hx hb dX7_ahead_42 rfl (lv_at hl 0 rfl) ?_
        refine lv_sipush (v := 189) hx hb dX7_ahead_43 (by decide) ?_
        refine lv_iload_n hx hb dX7_ahead_46 rfl (lv_at hl 2 rfl) ?_
        obtain ⟨x7, ex7, h⟩ := bdE h
        refine wd_callVr (ci := 7) (k := 370) CF hE hW hS (x_X7_thoseWho l X 189 a2 q6 ex7) mi_X7_thoseWho vi_X7_thoseWho tw947 ⟨by decide, rfl⟩ sh_370 ⟨rfl, rfl, Nat.le_of_ble_eq_true rfl, Nat.le_of_ble_eq_true rfl⟩ rfl hl.1 rfl (Nat.le_of_ble_eq_true rfl) dX7_ahead_47 ⟨Nat.le_of_ble_eq_true rfl, Nat.le_of_ble_eq_true rfl⟩ (fun H locs hW hS => ?_)
        have h := Option.some.inj h
        subst h
        exact wd_iret CF hret hlk hW hS dX7_ahead_50
      · rw [if_pos c4] at h
        refine lv_ldc (v := (-1000001)) hx hb hown (hts _ tw822) dX7_ahead_30 ?_
        have h := Option.some.inj h
        subst h
        exact wd_iret CF hret hlk hW hS dX7_ahead_32
  · rw [if_pos c2] at h
    refine lv_ldc (v := (-1000002)) hx hb hown (hts _ tw899) dX7_ahead_7 ?_
    have h := Option.some.inj h
    subst h
    exact wd_iret CF hret hlk hW hS dX7_ahead_9
def f_X7_noise (a1 : Int32) (a2 : Int32) (D : wd_D) : Option (Int32 × wd_D) := (f_X7_isChild a1 D).bind (fun x1 => (if x1 = 0 then some ((-1000001), D) else (if (f_X7_isSpan a2 0) = 0 then some ((-1000001), D) else (f_X7_tries D).bind (fun q4 => (f_X7_goesOn a2 q4).bind (fun q5 => (f_X7_noiseAt 189 a1 q5).bind (fun x6 => some (x6, q5)))))))
set_option maxHeartbeats 4000000 in
set_option maxRecDepth 100000 in
theorem x_X7_noise (l : Launch) (X : wd_X) (a1 : Int32) (a2 : Int32) (D : wd_D) {qv : Int32 × wd_D} (h : f_X7_noise a1 a2 D = some qv) : wd_Met l X yX7_noise cX7_noise 3 (some FieldType.int) ({ frames := 5, cells := 0, slots := 0, locals := 500 }) S0 S0 ([.ref (X.2.2.1 + 370), .int a1, .int a2] : List Value) D qv.2 (some (.int qv.1)) 0 0 := by
  refine wd_enter (by decide) (Nat.le_of_ble_eq_true rfl) ?_
  intro p e s m below meth c CF hret hlk hnm hW hE ls hl
  have CF : CallFix p m c cX7_noise 3 s ([.ref (X.2.2.1 + 370), .int a1, .int a2] : List Value).toArray tg RX7 := CF
  have hx := CF.1
  have hb := CF.2.1
  have hown := CF.2.2.2.1
  have hts := CF.2.2.2.2
  have hS : va_S (wd_A X) s.heap s.heap [] := va_S.rf
  have hl : lv_has ls 3 [(0, .ref (X.2.2.1 + 370)), (1, .int a1), (2, .int a2)] := hl
  unfold f_X7_noise at h
  refine lv_aload_n hx hb dX7_noise_0 rfl (lv_at hl 0 rfl) ?_
  refine lv_iload_n hx hb dX7_noise_1 rfl (lv_at hl 1 rfl) ?_
  obtain ⟨x1, ex1, h⟩ := bdE h
  refine wd_callVr (ci := 7) (k := 370) CF hE hW hS (x_X7_isChild l X a1 D ex1) mi_X7_isChild vi_X7_isChild tw955 ⟨by decide, rfl⟩ sh_370 ⟨rfl, rfl, Nat.le_of_ble_eq_true rfl, Nat.le_of_ble_eq_true rfl⟩ rfl hl.1 rfl (Nat.le_of_ble_eq_true rfl) dX7_noise_2 ⟨Nat.le_of_ble_eq_true rfl, Nat.le_of_ble_eq_true rfl⟩ (fun H locs hW hS => ?_)
  refine lv_if_eq (tgt := 16) hx hb dX7_noise_5 (by decide) (fun c2 => ?_) (fun c2 => ?_)
  · rw [if_pos c2] at h
    refine lv_ldc (v := (-1000001)) hx hb hown (hts _ tw822) dX7_noise_16 ?_
    have h := Option.some.inj h
    subst h
    exact wd_iret CF hret hlk hW hS dX7_noise_18
  · rw [if_neg c2] at h
    refine lv_iload_n hx hb dX7_noise_8 rfl (lv_at hl 2 rfl) ?_
    refine lv_iconst (v := 0) hx hb dX7_noise_9 (by decide) ?_
    refine wd_callSr CF hE hW hS (x_X7_isSpan l X a2 0 D) mi_X7_isSpan vi_X7_isSpan tw1000 ⟨rfl, rfl, Nat.le_of_ble_eq_true rfl, Nat.le_of_ble_eq_true rfl⟩ rfl hl.1 rfl (Nat.le_of_ble_eq_true rfl) dX7_noise_10 ⟨Nat.le_of_ble_eq_true rfl, Nat.le_of_ble_eq_true rfl⟩ (fun H locs hW hS => ?_)
    refine lv_if_ne (tgt := 19) hx hb dX7_noise_13 (by decide) (fun c3 => ?_) (fun c3 => ?_)
    · rw [if_neg c3] at h
      refine lv_aload_n hx hb dX7_noise_19 rfl (lv_at hl 0 rfl) ?_
      obtain ⟨q4, eq4, h⟩ := bdE h
      refine wd_callVv (ci := 7) (k := 370) CF hE hW hS (x_X7_tries l X D eq4) mi_X7_tries vi_X7_tries tw1004 ⟨by decide, rfl⟩ sh_370 ⟨rfl, rfl, Nat.le_of_ble_eq_true rfl, Nat.le_of_ble_eq_true rfl⟩ rfl hl.1 rfl (Nat.le_of_ble_eq_true rfl) dX7_noise_20 ⟨Nat.le_of_ble_eq_true rfl, Nat.le_of_ble_eq_true rfl⟩ (fun H locs hW hS => ?_)
      refine lv_aload_n hx hb dX7_noise_23 rfl (lv_at hl 0 rfl) ?_
      refine lv_iload_n hx hb dX7_noise_24 rfl (lv_at hl 2 rfl) ?_
      obtain ⟨q5, eq5, h⟩ := bdE h
      refine wd_callVv (ci := 7) (k := 370) CF hE hW hS (x_X7_goesOn l X a2 q4 eq5) mi_X7_goesOn vi_X7_goesOn tw1008 ⟨by decide, rfl⟩ sh_370 ⟨rfl, rfl, Nat.le_of_ble_eq_true rfl, Nat.le_of_ble_eq_true rfl⟩ rfl hl.1 rfl (Nat.le_of_ble_eq_true rfl) dX7_noise_25 ⟨Nat.le_of_ble_eq_true rfl, Nat.le_of_ble_eq_true rfl⟩ (fun H locs hW hS => ?_)
      refine lv_aload_n hx hb dX7_noise_28 rfl (lv_at hl 0 rfl) ?_
      refine lv_sipush (v := 189) hx hb dX7_noise_29 (by decide) ?_
      refine lv_iload_n hx hb dX7_noise_32 rfl (lv_at hl 1 rfl) ?_
      obtain ⟨x6, ex6, h⟩ := bdE h
      refine wd_callVr (ci := 7) (k := 370) CF hE hW hS (x_X7_noiseAt l X 189 a1 q5 ex6) mi_X7_noiseAt vi_X7_noiseAt tw917 ⟨by decide, rfl⟩ sh_370 ⟨rfl, rfl, Nat.le_of_ble_eq_true rfl, Nat.le_of_ble_eq_true rfl⟩ rfl hl.1 rfl (Nat.le_of_ble_eq_true rfl) dX7_noise_33 ⟨Nat.le_of_ble_eq_true rfl, Nat.le_of_ble_eq_true rfl⟩ (fun H locs hW hS => ?_)
      have h := Option.some.inj h
      subst h
      exact wd_iret CF hret hlk hW hS dX7_noise_36
    · rw [if_pos c3] at h
      refine lv_ldc (v := (-1000001)) hx hb hown (hts _ tw822) dX7_noise_16 ?_
      have h := Option.some.inj h
      subst h
      exact wd_iret CF hret hlk hW hS dX7_noise_18
def f_X7_asleep_L17  : Nat → Int32 → Int32 → wd_D → Option (Int32 × wd_D)
  | 0, _, _, _ => none
  | n + 1, a1, v2, D => (if 60 < v2 then some ((-1000000), D) else (rd 252 D 371 (197 + a1)).bind (fun x5 => (if x5 = 2 then some (v2, D) else (f_X7_passes 189 D).bind (fun q7 => ap (v2 + 1) (fun x8 => (f_X7_asleep_L17 n) a1 x8 q7)))))
def f_X7_asleep (a1 : Int32) (D : wd_D) : Option (Int32 × wd_D) := (f_X7_isChild a1 D).bind (fun x1 => (if x1 = 0 then some ((-1000001), D) else (f_X7_tries D).bind (fun q3 => f_X7_asleep_L17 FU a1 0 q3)))
set_option maxHeartbeats 4000000 in
set_option maxRecDepth 100000 in
theorem x_X7_asleep (l : Launch) (X : wd_X) (a1 : Int32) (D : wd_D) {qv : Int32 × wd_D} (h : f_X7_asleep a1 D = some qv) : wd_Met l X yX7_asleep cX7_asleep 3 (some FieldType.int) ({ frames := 4, cells := 0, slots := 0, locals := 400 }) S0 S0 ([.ref (X.2.2.1 + 370), .int a1] : List Value) D qv.2 (some (.int qv.1)) 0 0 := by
  refine wd_enter (by decide) (Nat.le_of_ble_eq_true rfl) ?_
  intro p e s m below meth c CF hret hlk hnm hW hE ls hl
  have CF : CallFix p m c cX7_asleep 3 s ([.ref (X.2.2.1 + 370), .int a1] : List Value).toArray tg RX7 := CF
  have hx := CF.1
  have hb := CF.2.1
  have hown := CF.2.2.2.1
  have hts := CF.2.2.2.2
  have hS : va_S (wd_A X) s.heap s.heap [] := va_S.rf
  have hl : lv_has ls 3 [(0, .ref (X.2.2.1 + 370)), (1, .int a1)] := hl
  unfold f_X7_asleep at h
  have hL17 : ∀ (n17 : Nat) (v2 : Int32) (D : wd_D) (H : Heap) (locs : List Loc) (ls : Array Slot), Wd X S0 D H → va_S (wd_A X) s.heap H locs → lv_has ls 3 [(0, .ref (X.2.2.1 + 370)), (1, .int a1), (2, .int v2)] → f_X7_asleep_L17 n17 a1 v2 D = some qv → W p l e ({ frames := 4, cells := 0, slots := 0, locals := 400 }) s m ([.ref (X.2.2.1 + 370), .int a1] : List Value).toArray below meth c H locs 0 0 (MQ below (wd_Q X S0 qv.2 (some (.int qv.1))) ([.ref (X.2.2.1 + 370), .int a1] : List Value).toArray s 0 0 (wd_A X)) (F0 m 17 ls []) := by
    intro n17
    induction n17 with
    | zero => intro v2 D H locs ls hW hS hl h; cases h
    | succ n17 ih17 =>
      intro v2 D H locs ls hW hS hl h
      rw [f_X7_asleep_L17] at h
      refine lv_iload_n hx hb dX7_asleep_17 rfl (lv_at hl 2 rfl) ?_
      refine lv_bipush (v := 60) hx hb dX7_asleep_18 (by decide) ?_
      refine lv_icmp_gt (tgt := 52) hx hb dX7_asleep_20 (by decide) (fun c4 => ?_) (fun c4 => ?_)
      · rw [if_pos c4] at h
        refine lv_ldc (v := (-1000000)) hx hb hown (hts _ tw1020) dX7_asleep_52 ?_
        have h := Option.some.inj h
        subst h
        exact wd_iret CF hret hlk hW hS dX7_asleep_54
      · rw [if_neg c4] at h
        refine lv_aload_n hx hb dX7_asleep_23 rfl (lv_at hl 0 rfl) ?_
        refine wd_getR CF hE hW fl_X7_7 sh_370 rf_370_0 rfl dX7_asleep_24 ?_
        refine lv_sipush (v := 197) hx hb dX7_asleep_27 (by decide) ?_
        refine lv_iload_n hx hb dX7_asleep_30 rfl (lv_at hl 1 rfl) ?_
        refine lv_iadd hx hb dX7_asleep_31 ?_
        obtain ⟨x5, ex5, h⟩ := bdE h
        refine wd_iald CF hE hW sh_371 ex5 dX7_asleep_32 ?_
        refine lv_iconst (v := 2) hx hb dX7_asleep_33 (by decide) ?_
        refine lv_icmp_ne (tgt := 39) hx hb dX7_asleep_34 (by decide) (fun c6 => ?_) (fun c6 => ?_)
        · rw [if_neg c6] at h
          refine lv_aload_n hx hb dX7_asleep_39 rfl (lv_at hl 0 rfl) ?_
          refine lv_sipush (v := 189) hx hb dX7_asleep_40 (by decide) ?_
          obtain ⟨q7, eq7, h⟩ := bdE h
          refine wd_callVv (ci := 7) (k := 370) CF hE hW hS (x_X7_passes l X 189 D eq7) mi_X7_passes vi_X7_passes tw913 ⟨by decide, rfl⟩ sh_370 ⟨rfl, rfl, Nat.le_of_ble_eq_true rfl, Nat.le_of_ble_eq_true rfl⟩ rfl hl.1 rfl (Nat.le_of_ble_eq_true rfl) dX7_asleep_43 ⟨Nat.le_of_ble_eq_true rfl, Nat.le_of_ble_eq_true rfl⟩ (fun H locs hW hS => ?_)
          obtain ⟨x8, ex8⟩ : ∃ y : Int32, y = v2 + 1 := ⟨_, rfl⟩
          replace h := apR ex8 h
          refine lv_iinc (v := x8) (lv' := [(2, .int x8), (0, .ref (X.2.2.1 + 370)), (1, .int a1)]) hx hb dX7_asleep_46 hl (k := 2) rfl (by rw [ex8]; rfl) (by decide) rfl (fun ls hl => ?_)
          refine lv_goto (tgt := 17) hx hb dX7_asleep_49 (by decide) ?_
          exact ih17 x8 q7 _ _ _  hW hS (lv_sub hl [1, 2, 0] rfl) h
        · rw [if_pos c6] at h
          refine lv_iload_n hx hb dX7_asleep_37 rfl (lv_at hl 2 rfl) ?_
          have h := Option.some.inj h
          subst h
          exact wd_iret CF hret hlk hW hS dX7_asleep_38
  refine lv_aload_n hx hb dX7_asleep_0 rfl (lv_at hl 0 rfl) ?_
  refine lv_iload_n hx hb dX7_asleep_1 rfl (lv_at hl 1 rfl) ?_
  obtain ⟨x1, ex1, h⟩ := bdE h
  refine wd_callVr (ci := 7) (k := 370) CF hE hW hS (x_X7_isChild l X a1 D ex1) mi_X7_isChild vi_X7_isChild tw955 ⟨by decide, rfl⟩ sh_370 ⟨rfl, rfl, Nat.le_of_ble_eq_true rfl, Nat.le_of_ble_eq_true rfl⟩ rfl hl.1 rfl (Nat.le_of_ble_eq_true rfl) dX7_asleep_2 ⟨Nat.le_of_ble_eq_true rfl, Nat.le_of_ble_eq_true rfl⟩ (fun H locs hW hS => ?_)
  refine lv_if_ne (tgt := 11) hx hb dX7_asleep_5 (by decide) (fun c2 => ?_) (fun c2 => ?_)
  · rw [if_neg c2] at h
    refine lv_aload_n hx hb dX7_asleep_11 rfl (lv_at hl 0 rfl) ?_
    obtain ⟨q3, eq3, h⟩ := bdE h
    refine wd_callVv (ci := 7) (k := 370) CF hE hW hS (x_X7_tries l X D eq3) mi_X7_tries vi_X7_tries tw1004 ⟨by decide, rfl⟩ sh_370 ⟨rfl, rfl, Nat.le_of_ble_eq_true rfl, Nat.le_of_ble_eq_true rfl⟩ rfl hl.1 rfl (Nat.le_of_ble_eq_true rfl) dX7_asleep_12 ⟨Nat.le_of_ble_eq_true rfl, Nat.le_of_ble_eq_true rfl⟩ (fun H locs hW hS => ?_)
    refine lv_iconst (v := 0) hx hb dX7_asleep_15 (by decide) ?_
    refine lv_istore_n (lv' := [(2, .int 0), (0, .ref (X.2.2.1 + 370)), (1, .int a1)]) hx hb dX7_asleep_16 rfl hl (by decide) rfl (fun ls hl => ?_)
    exact hL17 FU 0 q3 _ _ _  hW hS (lv_sub hl [1, 2, 0] rfl) h
  · rw [if_pos c2] at h
    refine lv_ldc (v := (-1000001)) hx hb hown (hts _ tw822) dX7_asleep_8 ?_
    have h := Option.some.inj h
    subst h
    exact wd_iret CF hret hlk hW hS dX7_asleep_10
def f_X7_allAsleep_L16  : Nat → Int32 → wd_D → Option (Int32 × wd_D)
  | 0, _, _ => none
  | n + 1, v1, D => (if 60 < v1 then some ((-1000000), D) else (f_X7_allSleep 189 D).bind (fun x5 => (if x5 = 0 then (f_X7_passes 189 D).bind (fun q7 => ap (v1 + 1) (fun x8 => (f_X7_allAsleep_L16 n) x8 q7)) else some (v1, D))))
def f_X7_allAsleep  (D : wd_D) : Option (Int32 × wd_D) := (f_X7_isRoom D).bind (fun x1 => (if x1 = 0 then some ((-1000002), D) else (f_X7_tries D).bind (fun q3 => f_X7_allAsleep_L16 FU 0 q3)))
set_option maxHeartbeats 4000000 in
set_option maxRecDepth 100000 in
theorem x_X7_allAsleep (l : Launch) (X : wd_X)  (D : wd_D) {qv : Int32 × wd_D} (h : f_X7_allAsleep  D = some qv) : wd_Met l X yX7_allAsleep cX7_allAsleep 2 (some FieldType.int) ({ frames := 4, cells := 0, slots := 0, locals := 400 }) S0 S0 ([.ref (X.2.2.1 + 370)] : List Value) D qv.2 (some (.int qv.1)) 0 0 := by
  refine wd_enter (by decide) (Nat.le_of_ble_eq_true rfl) ?_
  intro p e s m below meth c CF hret hlk hnm hW hE ls hl
  have CF : CallFix p m c cX7_allAsleep 2 s ([.ref (X.2.2.1 + 370)] : List Value).toArray tg RX7 := CF
  have hx := CF.1
  have hb := CF.2.1
  have hown := CF.2.2.2.1
  have hts := CF.2.2.2.2
  have hS : va_S (wd_A X) s.heap s.heap [] := va_S.rf
  have hl : lv_has ls 2 [(0, .ref (X.2.2.1 + 370))] := hl
  unfold f_X7_allAsleep at h
  have hL16 : ∀ (n16 : Nat) (v1 : Int32) (D : wd_D) (H : Heap) (locs : List Loc) (ls : Array Slot), Wd X S0 D H → va_S (wd_A X) s.heap H locs → lv_has ls 2 [(0, .ref (X.2.2.1 + 370)), (1, .int v1)] → f_X7_allAsleep_L16 n16 v1 D = some qv → W p l e ({ frames := 4, cells := 0, slots := 0, locals := 400 }) s m ([.ref (X.2.2.1 + 370)] : List Value).toArray below meth c H locs 0 0 (MQ below (wd_Q X S0 qv.2 (some (.int qv.1))) ([.ref (X.2.2.1 + 370)] : List Value).toArray s 0 0 (wd_A X)) (F0 m 16 ls []) := by
    intro n16
    induction n16 with
    | zero => intro v1 D H locs ls hW hS hl h; cases h
    | succ n16 ih16 =>
      intro v1 D H locs ls hW hS hl h
      rw [f_X7_allAsleep_L16] at h
      refine lv_iload_n hx hb dX7_allAsleep_16 rfl (lv_at hl 1 rfl) ?_
      refine lv_bipush (v := 60) hx hb dX7_allAsleep_17 (by decide) ?_
      refine lv_icmp_gt (tgt := 47) hx hb dX7_allAsleep_19 (by decide) (fun c4 => ?_) (fun c4 => ?_)
      · rw [if_pos c4] at h
        refine lv_ldc (v := (-1000000)) hx hb hown (hts _ tw1020) dX7_allAsleep_47 ?_
        have h := Option.some.inj h
        subst h
        exact wd_iret CF hret hlk hW hS dX7_allAsleep_49
      · rw [if_neg c4] at h
        refine lv_aload_n hx hb dX7_allAsleep_22 rfl (lv_at hl 0 rfl) ?_
        refine lv_sipush (v := 189) hx hb dX7_allAsleep_23 (by decide) ?_
        obtain ⟨x5, ex5, h⟩ := bdE h
        refine wd_callVr (ci := 7) (k := 370) CF hE hW hS (x_X7_allSleep l X 189 D ex5) mi_X7_allSleep vi_X7_allSleep tw1025 ⟨by decide, rfl⟩ sh_370 ⟨rfl, rfl, Nat.le_of_ble_eq_true rfl, Nat.le_of_ble_eq_true rfl⟩ rfl hl.1 rfl (Nat.le_of_ble_eq_true rfl) dX7_allAsleep_26 ⟨Nat.le_of_ble_eq_true rfl, Nat.le_of_ble_eq_true rfl⟩ (fun H locs hW hS => ?_)
        refine lv_if_eq (tgt := 34) hx hb dX7_allAsleep_29 (by decide) (fun c6 => ?_) (fun c6 => ?_)
        · rw [if_pos c6] at h
          refine lv_aload_n hx hb dX7_allAsleep_34 rfl (lv_at hl 0 rfl) ?_
          refine lv_sipush (v := 189) hx hb dX7_allAsleep_35 (by decide) ?_
          obtain ⟨q7, eq7, h⟩ := bdE h
          refine wd_callVv (ci := 7) (k := 370) CF hE hW hS (x_X7_passes l X 189 D eq7) mi_X7_passes vi_X7_passes tw913 ⟨by decide, rfl⟩ sh_370 ⟨rfl, rfl, Nat.le_of_ble_eq_true rfl, Nat.le_of_ble_eq_true rfl⟩ rfl hl.1 rfl (Nat.le_of_ble_eq_true rfl) dX7_allAsleep_38 ⟨Nat.le_of_ble_eq_true rfl, Nat.le_of_ble_eq_true rfl⟩ (fun H locs hW hS => ?_)
          obtain ⟨x8, ex8⟩ : ∃ y : Int32, y = v1 + 1 := ⟨_, rfl⟩
          replace h := apR ex8 h
          refine lv_iinc (v := x8) (lv' := [(1, .int x8), (0, .ref (X.2.2.1 + 370))]) hx hb dX7_allAsleep_41 hl (k := 1) rfl (by rw [ex8]; rfl) (by decide) rfl (fun ls hl => ?_)
          refine lv_goto (tgt := 16) hx hb dX7_allAsleep_44 (by decide) ?_
          exact ih16 x8 q7 _ _ _  hW hS (lv_sub hl [1, 0] rfl) h
        · rw [if_neg c6] at h
          refine lv_iload_n hx hb dX7_allAsleep_32 rfl (lv_at hl 1 rfl) ?_
          have h := Option.some.inj h
          subst h
          exact wd_iret CF hret hlk hW hS dX7_allAsleep_33
  refine lv_aload_n hx hb dX7_allAsleep_0 rfl (lv_at hl 0 rfl) ?_
  obtain ⟨x1, ex1, h⟩ := bdE h
  refine wd_callVr (ci := 7) (k := 370) CF hE hW hS (x_X7_isRoom l X D ex1) mi_X7_isRoom vi_X7_isRoom tw904 ⟨by decide, rfl⟩ sh_370 ⟨rfl, rfl, Nat.le_of_ble_eq_true rfl, Nat.le_of_ble_eq_true rfl⟩ rfl hl.1 rfl (Nat.le_of_ble_eq_true rfl) dX7_allAsleep_1 ⟨Nat.le_of_ble_eq_true rfl, Nat.le_of_ble_eq_true rfl⟩ (fun H locs hW hS => ?_)
  refine lv_if_ne (tgt := 10) hx hb dX7_allAsleep_4 (by decide) (fun c2 => ?_) (fun c2 => ?_)
  · rw [if_neg c2] at h
    refine lv_aload_n hx hb dX7_allAsleep_10 rfl (lv_at hl 0 rfl) ?_
    obtain ⟨q3, eq3, h⟩ := bdE h
    refine wd_callVv (ci := 7) (k := 370) CF hE hW hS (x_X7_tries l X D eq3) mi_X7_tries vi_X7_tries tw1004 ⟨by decide, rfl⟩ sh_370 ⟨rfl, rfl, Nat.le_of_ble_eq_true rfl, Nat.le_of_ble_eq_true rfl⟩ rfl hl.1 rfl (Nat.le_of_ble_eq_true rfl) dX7_allAsleep_11 ⟨Nat.le_of_ble_eq_true rfl, Nat.le_of_ble_eq_true rfl⟩ (fun H locs hW hS => ?_)
    refine lv_iconst (v := 0) hx hb dX7_allAsleep_14 (by decide) ?_
    refine lv_istore_n (lv' := [(1, .int 0), (0, .ref (X.2.2.1 + 370))]) hx hb dX7_allAsleep_15 rfl hl (by decide) rfl (fun ls hl => ?_)
    exact hL16 FU 0 q3 _ _ _  hW hS (lv_sub hl [1, 0] rfl) h
  · rw [if_pos c2] at h
    refine lv_ldc (v := (-1000002)) hx hb hown (hts _ tw899) dX7_allAsleep_7 ?_
    have h := Option.some.inj h
    subst h
    exact wd_iret CF hret hlk hW hS dX7_allAsleep_9
def f_X7_dinner_L73 (k32 : Int32 → Int32 → Int32 → Int32 → wd_D → Option (Int32 × wd_D)) (a1 : Int32) (v3 : Int32) (v4 : Int32) (z0 : Int32) (D : wd_D) : Option (Int32 × wd_D) := ap (v4 + 1) (fun x10 => k32 a1 z0 v3 x10 D)
def f_X7_dinner_L62 (k32 : Int32 → Int32 → Int32 → Int32 → wd_D → Option (Int32 × wd_D)) (a1 : Int32) (v2 : Int32) (v4 : Int32) (z0 : Int32) (D : wd_D) : Option (Int32 × wd_D) := (if z0 ≤ v2 then f_X7_dinner_L73 k32 a1 z0 v4 v2 D else f_X7_dinner_L73 k32 a1 z0 v4 z0 D)
def f_X7_dinner_L32  : Nat → Int32 → Int32 → Int32 → Int32 → wd_D → Option (Int32 × wd_D)
  | 0, _, _, _, _, _ => none
  | n + 1, a1, v2, v3, v4, D => (if a1 ≤ v4 then some (v2, D) else (f_X7_passes 189 D).bind (fun q6 => (f_X7_allSleep 189 q6).bind (fun x7 => (if x7 = 0 then f_X7_dinner_L62 (f_X7_dinner_L32 n) a1 v2 v4 0 q6 else f_X7_dinner_L62 (f_X7_dinner_L32 n) a1 v2 v4 (v3 + 1) q6))))
def f_X7_dinner (a1 : Int32) (D : wd_D) : Option (Int32 × wd_D) := (f_X7_isRoom D).bind (fun x1 => (if x1 = 0 then some ((-1000002), D) else (if (f_X7_isSpan a1 1) = 0 then some ((-1000001), D) else (f_X7_tries D).bind (fun q4 => f_X7_dinner_L32 FU a1 0 0 0 q4))))
set_option maxHeartbeats 4000000 in
set_option maxRecDepth 100000 in
theorem x_X7_dinner (l : Launch) (X : wd_X) (a1 : Int32) (D : wd_D) {qv : Int32 × wd_D} (h : f_X7_dinner a1 D = some qv) : wd_Met l X yX7_dinner cX7_dinner 5 (some FieldType.int) ({ frames := 4, cells := 0, slots := 0, locals := 400 }) S0 S0 ([.ref (X.2.2.1 + 370), .int a1] : List Value) D qv.2 (some (.int qv.1)) 0 0 := by
  refine wd_enter (by decide) (Nat.le_of_ble_eq_true rfl) ?_
  intro p e s m below meth c CF hret hlk hnm hW hE ls hl
  have CF : CallFix p m c cX7_dinner 5 s ([.ref (X.2.2.1 + 370), .int a1] : List Value).toArray tg RX7 := CF
  have hx := CF.1
  have hb := CF.2.1
  have hown := CF.2.2.2.1
  have hts := CF.2.2.2.2
  have hS : va_S (wd_A X) s.heap s.heap [] := va_S.rf
  have hl : lv_has ls 5 [(0, .ref (X.2.2.1 + 370)), (1, .int a1)] := hl
  unfold f_X7_dinner at h
  have hL32 : ∀ (n32 : Nat) (v2 : Int32) (v3 : Int32) (v4 : Int32) (D : wd_D) (H : Heap) (locs : List Loc) (ls : Array Slot), Wd X S0 D H → va_S (wd_A X) s.heap H locs → lv_has ls 5 [(0, .ref (X.2.2.1 + 370)), (1, .int a1), (2, .int v2), (3, .int v3), (4, .int v4)] → f_X7_dinner_L32 n32 a1 v2 v3 v4 D = some qv → W p l e ({ frames := 4, cells := 0, slots := 0, locals := 400 }) s m ([.ref (X.2.2.1 + 370), .int a1] : List Value).toArray below meth c H locs 0 0 (MQ below (wd_Q X S0 qv.2 (some (.int qv.1))) ([.ref (X.2.2.1 + 370), .int a1] : List Value).toArray s 0 0 (wd_A X)) (F0 m 32 ls []) := by
    intro n32
    induction n32 with
    | zero => intro v2 v3 v4 D H locs ls hW hS hl h; cases h
    | succ n32 ih32 =>
      have hL73 : ∀ (v3 : Int32) (v4 : Int32) (z0 : Int32) (D : wd_D) (H : Heap) (locs : List Loc) (ls : Array Slot), Wd X S0 D H → va_S (wd_A X) s.heap H locs → lv_has ls 5 [(0, .ref (X.2.2.1 + 370)), (1, .int a1), (3, .int v3), (4, .int v4)] → f_X7_dinner_L73 (f_X7_dinner_L32 n32) a1 v3 v4 z0 D = some qv → W p l e ({ frames := 4, cells := 0, slots := 0, locals := 400 }) s m ([.ref (X.2.2.1 + 370), .int a1] : List Value).toArray below meth c H locs 0 0 (MQ below (wd_Q X S0 qv.2 (some (.int qv.1))) ([.ref (X.2.2.1 + 370), .int a1] : List Value).toArray s 0 0 (wd_A X)) (F0 m 73 ls [.int z0]) := by
        intro v3 v4 z0 D H locs ls hW hS hl h
        unfold f_X7_dinner_L73 at h
        refine lv_istore_n (lv' := [(2, .int z0), (0, .ref (X.2.2.1 + 370)), (1, .int a1), (3, .int v3), (4, .int v4)]) hx hb dX7_dinner_73 rfl hl (by decide) rfl (fun ls hl => ?_)
        obtain ⟨x10, ex10⟩ : ∃ y : Int32, y = v4 + 1 := ⟨_, rfl⟩
        replace h := apR ex10 h
        refine lv_iinc (v := x10) (lv' := [(4, .int x10), (2, .int z0), (0, .ref (X.2.2.1 + 370)), (1, .int a1), (3, .int v3)]) hx hb dX7_dinner_74 hl (k := 4) rfl (by rw [ex10]; rfl) (by decide) rfl (fun ls hl => ?_)
        refine lv_goto (tgt := 32) hx hb dX7_dinner_77 (by decide) ?_
        exact ih32 z0 v3 x10 D _ _ _  hW hS (lv_sub hl [2, 3, 1, 4, 0] rfl) h
      have hL62 : ∀ (v2 : Int32) (v4 : Int32) (z0 : Int32) (D : wd_D) (H : Heap) (locs : List Loc) (ls : Array Slot), Wd X S0 D H → va_S (wd_A X) s.heap H locs → lv_has ls 5 [(0, .ref (X.2.2.1 + 370)), (1, .int a1), (2, .int v2), (4, .int v4)] → f_X7_dinner_L62 (f_X7_dinner_L32 n32) a1 v2 v4 z0 D = some qv → W p l e ({ frames := 4, cells := 0, slots := 0, locals := 400 }) s m ([.ref (X.2.2.1 + 370), .int a1] : List Value).toArray below meth c H locs 0 0 (MQ below (wd_Q X S0 qv.2 (some (.int qv.1))) ([.ref (X.2.2.1 + 370), .int a1] : List Value).toArray s 0 0 (wd_A X)) (F0 m 62 ls [.int z0]) := by
        intro v2 v4 z0 D H locs ls hW hS hl h
        unfold f_X7_dinner_L62 at h
        refine lv_istore_n (lv' := [(3, .int z0), (0, .ref (X.2.2.1 + 370)), (1, .int a1), (2, .int v2), (4, .int v4)]) hx hb dX7_dinner_62 rfl hl (by decide) rfl (fun ls hl => ?_)
        refine lv_iload_n hx hb dX7_dinner_63 rfl (lv_at hl 0 rfl) ?_
        refine lv_iload_n hx hb dX7_dinner_64 rfl (lv_at hl 3 rfl) ?_
        refine lv_icmp_le (tgt := 72) hx hb dX7_dinner_65 (by decide) (fun c9 => ?_) (fun c9 => ?_)
        · rw [if_pos c9] at h
          refine lv_iload_n hx hb dX7_dinner_72 rfl (lv_at hl 3 rfl) ?_
          exact hL73 z0 v4 v2 D _ _ _  hW hS (lv_sub hl [1, 2, 0, 4] rfl) h
        · rw [if_neg c9] at h
          refine lv_iload_n hx hb dX7_dinner_68 rfl (lv_at hl 0 rfl) ?_
          refine lv_goto (tgt := 73) hx hb dX7_dinner_69 (by decide) ?_
          exact hL73 z0 v4 z0 D _ _ _  hW hS (lv_sub hl [1, 2, 0, 4] rfl) h
      intro v2 v3 v4 D H locs ls hW hS hl h
      rw [f_X7_dinner_L32] at h
      refine lv_iload hx hb dX7_dinner_32 (lv_at hl 4 rfl) ?_
      refine lv_iload_n hx hb dX7_dinner_34 rfl (lv_at hl 1 rfl) ?_
      refine lv_icmp_ge (tgt := 80) hx hb dX7_dinner_35 (by decide) (fun c5 => ?_) (fun c5 => ?_)
      · rw [if_pos c5] at h
        refine lv_iload_n hx hb dX7_dinner_80 rfl (lv_at hl 2 rfl) ?_
        have h := Option.some.inj h
        subst h
        exact wd_iret CF hret hlk hW hS dX7_dinner_81
      · rw [if_neg c5] at h
        refine lv_aload_n hx hb dX7_dinner_38 rfl (lv_at hl 0 rfl) ?_
        refine lv_sipush (v := 189) hx hb dX7_dinner_39 (by decide) ?_
        obtain ⟨q6, eq6, h⟩ := bdE h
        refine wd_callVv (ci := 7) (k := 370) CF hE hW hS (x_X7_passes l X 189 D eq6) mi_X7_passes vi_X7_passes tw913 ⟨by decide, rfl⟩ sh_370 ⟨rfl, rfl, Nat.le_of_ble_eq_true rfl, Nat.le_of_ble_eq_true rfl⟩ rfl hl.1 rfl (Nat.le_of_ble_eq_true rfl) dX7_dinner_42 ⟨Nat.le_of_ble_eq_true rfl, Nat.le_of_ble_eq_true rfl⟩ (fun H locs hW hS => ?_)
        refine lv_aload_n hx hb dX7_dinner_45 rfl (lv_at hl 0 rfl) ?_
        refine lv_sipush (v := 189) hx hb dX7_dinner_46 (by decide) ?_
        obtain ⟨x7, ex7, h⟩ := bdE h
        refine wd_callVr (ci := 7) (k := 370) CF hE hW hS (x_X7_allSleep l X 189 q6 ex7) mi_X7_allSleep vi_X7_allSleep tw1025 ⟨by decide, rfl⟩ sh_370 ⟨rfl, rfl, Nat.le_of_ble_eq_true rfl, Nat.le_of_ble_eq_true rfl⟩ rfl hl.1 rfl (Nat.le_of_ble_eq_true rfl) dX7_dinner_49 ⟨Nat.le_of_ble_eq_true rfl, Nat.le_of_ble_eq_true rfl⟩ (fun H locs hW hS => ?_)
        refine lv_if_eq (tgt := 61) hx hb dX7_dinner_52 (by decide) (fun c8 => ?_) (fun c8 => ?_)
        · rw [if_pos c8] at h
          refine lv_iconst (v := 0) hx hb dX7_dinner_61 (by decide) ?_
          exact hL62 v2 v4 0 q6 _ _ _  hW hS (lv_sub hl [0, 1, 2, 4] rfl) h
        · rw [if_neg c8] at h
          refine lv_iload_n hx hb dX7_dinner_55 rfl (lv_at hl 3 rfl) ?_
          refine lv_iconst (v := 1) hx hb dX7_dinner_56 (by decide) ?_
          refine lv_iadd hx hb dX7_dinner_57 ?_
          refine lv_goto (tgt := 62) hx hb dX7_dinner_58 (by decide) ?_
          exact hL62 v2 v4 (v3 + 1) q6 _ _ _  hW hS (lv_sub hl [0, 1, 2, 4] rfl) h
  refine lv_aload_n hx hb dX7_dinner_0 rfl (lv_at hl 0 rfl) ?_
  obtain ⟨x1, ex1, h⟩ := bdE h
  refine wd_callVr (ci := 7) (k := 370) CF hE hW hS (x_X7_isRoom l X D ex1) mi_X7_isRoom vi_X7_isRoom tw904 ⟨by decide, rfl⟩ sh_370 ⟨rfl, rfl, Nat.le_of_ble_eq_true rfl, Nat.le_of_ble_eq_true rfl⟩ rfl hl.1 rfl (Nat.le_of_ble_eq_true rfl) dX7_dinner_1 ⟨Nat.le_of_ble_eq_true rfl, Nat.le_of_ble_eq_true rfl⟩ (fun H locs hW hS => ?_)
  refine lv_if_ne (tgt := 10) hx hb dX7_dinner_4 (by decide) (fun c2 => ?_) (fun c2 => ?_)
  · rw [if_neg c2] at h
    refine lv_iload_n hx hb dX7_dinner_10 rfl (lv_at hl 1 rfl) ?_
    refine lv_iconst (v := 1) hx hb dX7_dinner_11 (by decide) ?_
    refine wd_callSr CF hE hW hS (x_X7_isSpan l X a1 1 D) mi_X7_isSpan vi_X7_isSpan tw1000 ⟨rfl, rfl, Nat.le_of_ble_eq_true rfl, Nat.le_of_ble_eq_true rfl⟩ rfl hl.1 rfl (Nat.le_of_ble_eq_true rfl) dX7_dinner_12 ⟨Nat.le_of_ble_eq_true rfl, Nat.le_of_ble_eq_true rfl⟩ (fun H locs hW hS => ?_)
    refine lv_if_ne (tgt := 21) hx hb dX7_dinner_15 (by decide) (fun c3 => ?_) (fun c3 => ?_)
    · rw [if_neg c3] at h
      refine lv_aload_n hx hb dX7_dinner_21 rfl (lv_at hl 0 rfl) ?_
      obtain ⟨q4, eq4, h⟩ := bdE h
      refine wd_callVv (ci := 7) (k := 370) CF hE hW hS (x_X7_tries l X D eq4) mi_X7_tries vi_X7_tries tw1004 ⟨by decide, rfl⟩ sh_370 ⟨rfl, rfl, Nat.le_of_ble_eq_true rfl, Nat.le_of_ble_eq_true rfl⟩ rfl hl.1 rfl (Nat.le_of_ble_eq_true rfl) dX7_dinner_22 ⟨Nat.le_of_ble_eq_true rfl, Nat.le_of_ble_eq_true rfl⟩ (fun H locs hW hS => ?_)
      refine lv_iconst (v := 0) hx hb dX7_dinner_25 (by decide) ?_
      refine lv_istore_n (lv' := [(2, .int 0), (0, .ref (X.2.2.1 + 370)), (1, .int a1)]) hx hb dX7_dinner_26 rfl hl (by decide) rfl (fun ls hl => ?_)
      refine lv_iconst (v := 0) hx hb dX7_dinner_27 (by decide) ?_
      refine lv_istore_n (lv' := [(3, .int 0), (2, .int 0), (0, .ref (X.2.2.1 + 370)), (1, .int a1)]) hx hb dX7_dinner_28 rfl hl (by decide) rfl (fun ls hl => ?_)
      refine lv_iconst (v := 0) hx hb dX7_dinner_29 (by decide) ?_
      refine lv_istore (lv' := [(4, .int 0), (3, .int 0), (2, .int 0), (0, .ref (X.2.2.1 + 370)), (1, .int a1)]) hx hb dX7_dinner_30 hl (by decide) rfl (fun ls hl => ?_)
      exact hL32 FU 0 0 0 q4 _ _ _  hW hS (lv_sub hl [3, 4, 2, 1, 0] rfl) h
    · rw [if_pos c3] at h
      refine lv_ldc (v := (-1000001)) hx hb hown (hts _ tw822) dX7_dinner_18 ?_
      have h := Option.some.inj h
      subst h
      exact wd_iret CF hret hlk hW hS dX7_dinner_20
  · rw [if_pos c2] at h
    refine lv_ldc (v := (-1000002)) hx hb hown (hts _ tw899) dX7_dinner_7 ?_
    have h := Option.some.inj h
    subst h
    exact wd_iret CF hret hlk hW hS dX7_dinner_9
