/-! X6_dinner, X6_hands, X6_outs, X6_best, X6_silence, X6_wakes, X6_loudest, X6_who, X6_held, X6_lorries, X6_drawn, X6_image, X6_restore, X6_kind, X6_as, X6_ask, X6_trace, X6_presentRows, X6_count, X6_status -/
def f_X6_dinner (a1 : Int32) (D : wd_D) : Option (Int32 × wd_D) := (if (f_X6_noRoom D) = 0 then (if (f_X6_beyond a1 1 60) = 0 then (f_X1_longestDinner 4 a1 D).bind (fun q3 => some (q3.1, q3.2)) else some ((-1000001), D)) else some ((-1000002), D))
set_option maxHeartbeats 4000000 in
set_option maxRecDepth 100000 in
theorem x_X6_dinner (l : Launch) (X : wd_X) (a1 : Int32) (D : wd_D) {qv : Int32 × wd_D} (h : f_X6_dinner a1 D = some qv) : wd_Met l X yX6_dinner cX6_dinner 2 (some FieldType.int) ({ frames := 5, cells := 0, slots := 0, locals := 500 }) S0 S0 ([.ref (X.2.2.1 + 0), .int a1] : List Value) D qv.2 (some (.int qv.1)) 0 0 := by
  refine wd_enter (by decide) (Nat.le_of_ble_eq_true rfl) ?_
  intro p e s m below meth c CF hret hlk hnm hW hE ls hl
  have CF : CallFix p m c cX6_dinner 2 s ([.ref (X.2.2.1 + 0), .int a1] : List Value).toArray tg RX6 := CF
  have hx := CF.1
  have hb := CF.2.1
  have hown := CF.2.2.2.1
  have hts := CF.2.2.2.2
  have hS : va_S (wd_A X) s.heap s.heap [] := va_S.rf
  have hl : lv_has ls 2 [(0, .ref (X.2.2.1 + 0)), (1, .int a1)] := hl
  unfold f_X6_dinner at h
  refine lv_aload_n hx hb dX6_dinner_0 rfl (lv_at hl 0 rfl) ?_
  refine wd_callVr (ci := 6) (k := 0) CF hE hW hS (x_X6_noRoom l X D) mi_X6_noRoom vi_X6_noRoom tw397 ⟨by decide, rfl⟩ sh_0 ⟨rfl, rfl, Nat.le_of_ble_eq_true rfl, Nat.le_of_ble_eq_true rfl⟩ rfl hl.1 rfl (Nat.le_of_ble_eq_true rfl) dX6_dinner_1 ⟨Nat.le_of_ble_eq_true rfl, Nat.le_of_ble_eq_true rfl⟩ (fun H locs hW hS => ?_)
  refine lv_if_eq (tgt := 10) hx hb dX6_dinner_4 (by decide) (fun c1 => ?_) (fun c1 => ?_)
  · rw [if_pos c1] at h
    refine lv_iload_n hx hb dX6_dinner_10 rfl (lv_at hl 1 rfl) ?_
    refine lv_iconst (v := 1) hx hb dX6_dinner_11 (by decide) ?_
    refine lv_bipush (v := 60) hx hb dX6_dinner_12 (by decide) ?_
    refine wd_callSr CF hE hW hS (x_X6_beyond l X a1 1 60 D) mi_X6_beyond vi_X6_beyond tw265 ⟨rfl, rfl, Nat.le_of_ble_eq_true rfl, Nat.le_of_ble_eq_true rfl⟩ rfl hl.1 rfl (Nat.le_of_ble_eq_true rfl) dX6_dinner_14 ⟨Nat.le_of_ble_eq_true rfl, Nat.le_of_ble_eq_true rfl⟩ (fun H locs hW hS => ?_)
    refine lv_if_eq (tgt := 25) hx hb dX6_dinner_17 (by decide) (fun c2 => ?_) (fun c2 => ?_)
    · rw [if_pos c2] at h
      refine lv_aload_n hx hb dX6_dinner_25 rfl (lv_at hl 0 rfl) ?_
      refine wd_getR CF hE hW fl_X6_46 sh_0 rf_0_6 rfl dX6_dinner_26 ?_
      refine lv_aload_n hx hb dX6_dinner_29 rfl (lv_at hl 0 rfl) ?_
      refine wd_getR CF hE hW fl_X6_25 sh_0 rf_0_2 rfl dX6_dinner_30 ?_
      refine lv_iload_n hx hb dX6_dinner_33 rfl (lv_at hl 1 rfl) ?_
      obtain ⟨q3, eq3, h⟩ := bdE h
      refine wd_callVr (ci := 1) (k := 241) CF hE hW hS (x_X1_longestDinner l X 4 room_4 a1 D eq3) mi_X1_longestDinner vi_X1_longestDinner tw553 ⟨by decide, rfl⟩ sh_241 ⟨rfl, rfl, Nat.le_of_ble_eq_true rfl, Nat.le_of_ble_eq_true rfl⟩ rfl hl.1 rfl (Nat.le_of_ble_eq_true rfl) dX6_dinner_34 ⟨Nat.le_of_ble_eq_true rfl, Nat.le_of_ble_eq_true rfl⟩ (fun H locs hW hS => ?_)
      have h := Option.some.inj h
      subst h
      exact wd_iret CF hret hlk hW hS dX6_dinner_37
    · rw [if_neg c2] at h
      refine lv_ldc (v := (-1000001)) hx hb hown (hts _ tw268) dX6_dinner_20 ?_
      refine lv_goto (tgt := 37) hx hb dX6_dinner_22 (by decide) ?_
      have h := Option.some.inj h
      subst h
      exact wd_iret CF hret hlk hW hS dX6_dinner_37
  · rw [if_neg c1] at h
    refine lv_ldc (v := (-1000002)) hx hb hown (hts _ tw387) dX6_dinner_7 ?_
    have h := Option.some.inj h
    subst h
    exact wd_iret CF hret hlk hW hS dX6_dinner_9
def f_X6_hands (a1 : Int32) (a2 : Int32) (D : wd_D) : Option (Int32 × wd_D) := (if (f_X6_noRoom D) = 0 then (if (f_X6_beyond a1 1 30) = 0 then (if (f_X6_beyond a2 0 1) = 0 then (f_X1_planHands 4 a1 D).bind (fun q4 => (if a2 = 0 then some (gI q4 241 5, q4) else some (gI q4 241 4, q4))) else some ((-1000001), D)) else some ((-1000001), D)) else some ((-1000002), D))
set_option maxHeartbeats 4000000 in
set_option maxRecDepth 100000 in
theorem x_X6_hands (l : Launch) (X : wd_X) (a1 : Int32) (a2 : Int32) (D : wd_D) {qv : Int32 × wd_D} (h : f_X6_hands a1 a2 D = some qv) : wd_Met l X yX6_hands cX6_hands 3 (some FieldType.int) ({ frames := 6, cells := 0, slots := 0, locals := 600 }) S0 S0 ([.ref (X.2.2.1 + 0), .int a1, .int a2] : List Value) D qv.2 (some (.int qv.1)) 0 0 := by
  refine wd_enter (by decide) (Nat.le_of_ble_eq_true rfl) ?_
  intro p e s m below meth c CF hret hlk hnm hW hE ls hl
  have CF : CallFix p m c cX6_hands 3 s ([.ref (X.2.2.1 + 0), .int a1, .int a2] : List Value).toArray tg RX6 := CF
  have hx := CF.1
  have hb := CF.2.1
  have hown := CF.2.2.2.1
  have hts := CF.2.2.2.2
  have hS : va_S (wd_A X) s.heap s.heap [] := va_S.rf
  have hl : lv_has ls 3 [(0, .ref (X.2.2.1 + 0)), (1, .int a1), (2, .int a2)] := hl
  unfold f_X6_hands at h
  refine lv_aload_n hx hb dX6_hands_0 rfl (lv_at hl 0 rfl) ?_
  refine wd_callVr (ci := 6) (k := 0) CF hE hW hS (x_X6_noRoom l X D) mi_X6_noRoom vi_X6_noRoom tw397 ⟨by decide, rfl⟩ sh_0 ⟨rfl, rfl, Nat.le_of_ble_eq_true rfl, Nat.le_of_ble_eq_true rfl⟩ rfl hl.1 rfl (Nat.le_of_ble_eq_true rfl) dX6_hands_1 ⟨Nat.le_of_ble_eq_true rfl, Nat.le_of_ble_eq_true rfl⟩ (fun H locs hW hS => ?_)
  refine lv_if_eq (tgt := 10) hx hb dX6_hands_4 (by decide) (fun c1 => ?_) (fun c1 => ?_)
  · rw [if_pos c1] at h
    refine lv_iload_n hx hb dX6_hands_10 rfl (lv_at hl 1 rfl) ?_
    refine lv_iconst (v := 1) hx hb dX6_hands_11 (by decide) ?_
    refine lv_bipush (v := 30) hx hb dX6_hands_12 (by decide) ?_
    refine wd_callSr CF hE hW hS (x_X6_beyond l X a1 1 30 D) mi_X6_beyond vi_X6_beyond tw265 ⟨rfl, rfl, Nat.le_of_ble_eq_true rfl, Nat.le_of_ble_eq_true rfl⟩ rfl hl.1 rfl (Nat.le_of_ble_eq_true rfl) dX6_hands_14 ⟨Nat.le_of_ble_eq_true rfl, Nat.le_of_ble_eq_true rfl⟩ (fun H locs hW hS => ?_)
    refine lv_if_ne (tgt := 29) hx hb dX6_hands_17 (by decide) (fun c2 => ?_) (fun c2 => ?_)
    · rw [if_neg c2] at h
      refine lv_ldc (v := (-1000001)) hx hb hown (hts _ tw268) dX6_hands_29 ?_
      have h := Option.some.inj h
      subst h
      exact wd_iret CF hret hlk hW hS dX6_hands_31
    · rw [if_pos c2] at h
      refine lv_iload_n hx hb dX6_hands_20 rfl (lv_at hl 2 rfl) ?_
      refine lv_iconst (v := 0) hx hb dX6_hands_21 (by decide) ?_
      refine lv_iconst (v := 1) hx hb dX6_hands_22 (by decide) ?_
      refine wd_callSr CF hE hW hS (x_X6_beyond l X a2 0 1 D) mi_X6_beyond vi_X6_beyond tw265 ⟨rfl, rfl, Nat.le_of_ble_eq_true rfl, Nat.le_of_ble_eq_true rfl⟩ rfl hl.1 rfl (Nat.le_of_ble_eq_true rfl) dX6_hands_23 ⟨Nat.le_of_ble_eq_true rfl, Nat.le_of_ble_eq_true rfl⟩ (fun H locs hW hS => ?_)
      refine lv_if_eq (tgt := 32) hx hb dX6_hands_26 (by decide) (fun c3 => ?_) (fun c3 => ?_)
      · rw [if_pos c3] at h
        refine lv_aload_n hx hb dX6_hands_32 rfl (lv_at hl 0 rfl) ?_
        refine wd_getR CF hE hW fl_X6_46 sh_0 rf_0_6 rfl dX6_hands_33 ?_
        refine lv_aload_n hx hb dX6_hands_36 rfl (lv_at hl 0 rfl) ?_
        refine wd_getR CF hE hW fl_X6_25 sh_0 rf_0_2 rfl dX6_hands_37 ?_
        refine lv_iload_n hx hb dX6_hands_40 rfl (lv_at hl 1 rfl) ?_
        obtain ⟨q4, eq4, h⟩ := bdE h
        refine wd_callVv (ci := 1) (k := 241) CF hE hW hS (x_X1_planHands l X 4 room_4 a1 D eq4) mi_X1_planHands vi_X1_planHands tw563 ⟨by decide, rfl⟩ sh_241 ⟨rfl, rfl, Nat.le_of_ble_eq_true rfl, Nat.le_of_ble_eq_true rfl⟩ rfl hl.1 rfl (Nat.le_of_ble_eq_true rfl) dX6_hands_41 ⟨Nat.le_of_ble_eq_true rfl, Nat.le_of_ble_eq_true rfl⟩ (fun H locs hW hS => ?_)
        refine lv_iload_n hx hb dX6_hands_44 rfl (lv_at hl 2 rfl) ?_
        refine lv_if_ne (tgt := 58) hx hb dX6_hands_45 (by decide) (fun c5 => ?_) (fun c5 => ?_)
        · rw [if_neg c5] at h
          refine lv_aload_n hx hb dX6_hands_58 rfl (lv_at hl 0 rfl) ?_
          refine wd_getR CF hE hW fl_X6_46 sh_0 rf_0_6 rfl dX6_hands_59 ?_
          refine wd_get CF hE hW fl_X6_230 sh_241 (v := .int (gI q4 241 4)) rfl dX6_hands_62 ?_
          have h := Option.some.inj h
          subst h
          exact wd_iret CF hret hlk hW hS dX6_hands_65
        · rw [if_pos c5] at h
          refine lv_aload_n hx hb dX6_hands_48 rfl (lv_at hl 0 rfl) ?_
          refine wd_getR CF hE hW fl_X6_46 sh_0 rf_0_6 rfl dX6_hands_49 ?_
          refine wd_get CF hE hW fl_X6_227 sh_241 (v := .int (gI q4 241 5)) rfl dX6_hands_52 ?_
          refine lv_goto (tgt := 65) hx hb dX6_hands_55 (by decide) ?_
          have h := Option.some.inj h
          subst h
          exact wd_iret CF hret hlk hW hS dX6_hands_65
      · rw [if_neg c3] at h
        refine lv_ldc (v := (-1000001)) hx hb hown (hts _ tw268) dX6_hands_29 ?_
        have h := Option.some.inj h
        subst h
        exact wd_iret CF hret hlk hW hS dX6_hands_31
  · rw [if_neg c1] at h
    refine lv_ldc (v := (-1000002)) hx hb hown (hts _ tw387) dX6_hands_7 ?_
    have h := Option.some.inj h
    subst h
    exact wd_iret CF hret hlk hW hS dX6_hands_9
def f_X6_outs (a1 : Int32) (a2 : Int32) (D : wd_D) : Option (Int32 × wd_D) := (if (f_X6_noRoom D) = 0 then (if (f_X6_beyond a1 1 30) = 0 then (if (f_X6_beyond a2 0 1) = 0 then (f_X1_fewestOut 4 a1 D).bind (fun q4 => ap q4.1 (fun x5 => (if a2 = 0 then some (f_J6_bitCount_0f7a4 x5, q4.2) else some (x5, q4.2)))) else some ((-1000001), D)) else some ((-1000001), D)) else some ((-1000002), D))
set_option maxHeartbeats 4000000 in
set_option maxRecDepth 100000 in
theorem x_X6_outs (l : Launch) (X : wd_X) (a1 : Int32) (a2 : Int32) (D : wd_D) {qv : Int32 × wd_D} (h : f_X6_outs a1 a2 D = some qv) : wd_Met l X yX6_outs cX6_outs 4 (some FieldType.int) ({ frames := 6, cells := 0, slots := 0, locals := 600 }) S0 S0 ([.ref (X.2.2.1 + 0), .int a1, .int a2] : List Value) D qv.2 (some (.int qv.1)) 0 0 := by
  refine wd_enter (by decide) (Nat.le_of_ble_eq_true rfl) ?_
  intro p e s m below meth c CF hret hlk hnm hW hE ls hl
  have CF : CallFix p m c cX6_outs 4 s ([.ref (X.2.2.1 + 0), .int a1, .int a2] : List Value).toArray tg RX6 := CF
  have hx := CF.1
  have hb := CF.2.1
  have hown := CF.2.2.2.1
  have hts := CF.2.2.2.2
  have hS : va_S (wd_A X) s.heap s.heap [] := va_S.rf
  have hl : lv_has ls 4 [(0, .ref (X.2.2.1 + 0)), (1, .int a1), (2, .int a2)] := hl
  unfold f_X6_outs at h
  refine lv_aload_n hx hb dX6_outs_0 rfl (lv_at hl 0 rfl) ?_
  refine wd_callVr (ci := 6) (k := 0) CF hE hW hS (x_X6_noRoom l X D) mi_X6_noRoom vi_X6_noRoom tw397 ⟨by decide, rfl⟩ sh_0 ⟨rfl, rfl, Nat.le_of_ble_eq_true rfl, Nat.le_of_ble_eq_true rfl⟩ rfl hl.1 rfl (Nat.le_of_ble_eq_true rfl) dX6_outs_1 ⟨Nat.le_of_ble_eq_true rfl, Nat.le_of_ble_eq_true rfl⟩ (fun H locs hW hS => ?_)
  refine lv_if_eq (tgt := 10) hx hb dX6_outs_4 (by decide) (fun c1 => ?_) (fun c1 => ?_)
  · rw [if_pos c1] at h
    refine lv_iload_n hx hb dX6_outs_10 rfl (lv_at hl 1 rfl) ?_
    refine lv_iconst (v := 1) hx hb dX6_outs_11 (by decide) ?_
    refine lv_bipush (v := 30) hx hb dX6_outs_12 (by decide) ?_
    refine wd_callSr CF hE hW hS (x_X6_beyond l X a1 1 30 D) mi_X6_beyond vi_X6_beyond tw265 ⟨rfl, rfl, Nat.le_of_ble_eq_true rfl, Nat.le_of_ble_eq_true rfl⟩ rfl hl.1 rfl (Nat.le_of_ble_eq_true rfl) dX6_outs_14 ⟨Nat.le_of_ble_eq_true rfl, Nat.le_of_ble_eq_true rfl⟩ (fun H locs hW hS => ?_)
    refine lv_if_ne (tgt := 29) hx hb dX6_outs_17 (by decide) (fun c2 => ?_) (fun c2 => ?_)
    · rw [if_neg c2] at h
      refine lv_ldc (v := (-1000001)) hx hb hown (hts _ tw268) dX6_outs_29 ?_
      have h := Option.some.inj h
      subst h
      exact wd_iret CF hret hlk hW hS dX6_outs_31
    · rw [if_pos c2] at h
      refine lv_iload_n hx hb dX6_outs_20 rfl (lv_at hl 2 rfl) ?_
      refine lv_iconst (v := 0) hx hb dX6_outs_21 (by decide) ?_
      refine lv_iconst (v := 1) hx hb dX6_outs_22 (by decide) ?_
      refine wd_callSr CF hE hW hS (x_X6_beyond l X a2 0 1 D) mi_X6_beyond vi_X6_beyond tw265 ⟨rfl, rfl, Nat.le_of_ble_eq_true rfl, Nat.le_of_ble_eq_true rfl⟩ rfl hl.1 rfl (Nat.le_of_ble_eq_true rfl) dX6_outs_23 ⟨Nat.le_of_ble_eq_true rfl, Nat.le_of_ble_eq_true rfl⟩ (fun H locs hW hS => ?_)
      refine lv_if_eq (tgt := 32) hx hb dX6_outs_26 (by decide) (fun c3 => ?_) (fun c3 => ?_)
      · rw [if_pos c3] at h
        refine lv_aload_n hx hb dX6_outs_32 rfl (lv_at hl 0 rfl) ?_
        refine wd_getR CF hE hW fl_X6_46 sh_0 rf_0_6 rfl dX6_outs_33 ?_
        refine lv_aload_n hx hb dX6_outs_36 rfl (lv_at hl 0 rfl) ?_
        refine wd_getR CF hE hW fl_X6_25 sh_0 rf_0_2 rfl dX6_outs_37 ?_
        refine lv_iload_n hx hb dX6_outs_40 rfl (lv_at hl 1 rfl) ?_
        obtain ⟨q4, eq4, h⟩ := bdE h
        refine wd_callVr (ci := 1) (k := 241) CF hE hW hS (x_X1_fewestOut l X 4 room_4 a1 D eq4) mi_X1_fewestOut vi_X1_fewestOut tw577 ⟨by decide, rfl⟩ sh_241 ⟨rfl, rfl, Nat.le_of_ble_eq_true rfl, Nat.le_of_ble_eq_true rfl⟩ rfl hl.1 rfl (Nat.le_of_ble_eq_true rfl) dX6_outs_41 ⟨Nat.le_of_ble_eq_true rfl, Nat.le_of_ble_eq_true rfl⟩ (fun H locs hW hS => ?_)
        refine lv_topi (fun x5 ex5 => ?_)
        replace h := apR ex5 h
        refine lv_istore_n (lv' := [(3, .int x5), (0, .ref (X.2.2.1 + 0)), (1, .int a1), (2, .int a2)]) hx hb dX6_outs_44 rfl hl (by decide) rfl (fun ls hl => ?_)
        refine lv_iload_n hx hb dX6_outs_45 rfl (lv_at hl 3 rfl) ?_
        refine lv_if_ne (tgt := 56) hx hb dX6_outs_46 (by decide) (fun c6 => ?_) (fun c6 => ?_)
        · rw [if_neg c6] at h
          refine lv_iload_n hx hb dX6_outs_56 rfl (lv_at hl 0 rfl) ?_
          have h := Option.some.inj h
          subst h
          exact wd_iret CF hret hlk hW hS dX6_outs_57
        · rw [if_pos c6] at h
          refine lv_iload_n hx hb dX6_outs_49 rfl (lv_at hl 0 rfl) ?_
          refine wd_callSr CF hE hW hS (x_J6_bitCount_0f7a4 l X x5 q4.2) mi_J6_bitCount_0f7a4 vi_J6_bitCount_0f7a4 tw469 ⟨rfl, rfl, Nat.le_of_ble_eq_true rfl, Nat.le_of_ble_eq_true rfl⟩ rfl hl.1 rfl (Nat.le_of_ble_eq_true rfl) dX6_outs_50 ⟨Nat.le_of_ble_eq_true rfl, Nat.le_of_ble_eq_true rfl⟩ (fun H locs hW hS => ?_)
          refine lv_goto (tgt := 57) hx hb dX6_outs_53 (by decide) ?_
          have h := Option.some.inj h
          subst h
          exact wd_iret CF hret hlk hW hS dX6_outs_57
      · rw [if_neg c3] at h
        refine lv_ldc (v := (-1000001)) hx hb hown (hts _ tw268) dX6_outs_29 ?_
        have h := Option.some.inj h
        subst h
        exact wd_iret CF hret hlk hW hS dX6_outs_31
  · rw [if_neg c1] at h
    refine lv_ldc (v := (-1000002)) hx hb hown (hts _ tw387) dX6_outs_7 ?_
    have h := Option.some.inj h
    subst h
    exact wd_iret CF hret hlk hW hS dX6_outs_9
def f_X6_best (a1 : Int32) (a2 : Int32) (D : wd_D) : Option (Int32 × wd_D) := (if (f_X6_noRoom D) = 0 then (if (f_X6_beyond a1 1 30) = 0 then (if (f_X6_beyond a2 0 1) = 0 then (if 2 ≤ (gI D 4 0) then (f_X1_planChange 4 a1 D).bind (fun q5 => (if a2 = 0 then some (gI q5 241 4, q5) else some (gI q5 241 5, q5))) else some ((-1000000), D)) else some ((-1000001), D)) else some ((-1000001), D)) else some ((-1000002), D))
set_option maxHeartbeats 4000000 in
set_option maxRecDepth 100000 in
theorem x_X6_best (l : Launch) (X : wd_X) (a1 : Int32) (a2 : Int32) (D : wd_D) {qv : Int32 × wd_D} (h : f_X6_best a1 a2 D = some qv) : wd_Met l X yX6_best cX6_best 3 (some FieldType.int) ({ frames := 6, cells := 0, slots := 0, locals := 600 }) S0 S0 ([.ref (X.2.2.1 + 0), .int a1, .int a2] : List Value) D qv.2 (some (.int qv.1)) 0 0 := by
  refine wd_enter (by decide) (Nat.le_of_ble_eq_true rfl) ?_
  intro p e s m below meth c CF hret hlk hnm hW hE ls hl
  have CF : CallFix p m c cX6_best 3 s ([.ref (X.2.2.1 + 0), .int a1, .int a2] : List Value).toArray tg RX6 := CF
  have hx := CF.1
  have hb := CF.2.1
  have hown := CF.2.2.2.1
  have hts := CF.2.2.2.2
  have hS : va_S (wd_A X) s.heap s.heap [] := va_S.rf
  have hl : lv_has ls 3 [(0, .ref (X.2.2.1 + 0)), (1, .int a1), (2, .int a2)] := hl
  unfold f_X6_best at h
  refine lv_aload_n hx hb dX6_best_0 rfl (lv_at hl 0 rfl) ?_
  refine wd_callVr (ci := 6) (k := 0) CF hE hW hS (x_X6_noRoom l X D) mi_X6_noRoom vi_X6_noRoom tw397 ⟨by decide, rfl⟩ sh_0 ⟨rfl, rfl, Nat.le_of_ble_eq_true rfl, Nat.le_of_ble_eq_true rfl⟩ rfl hl.1 rfl (Nat.le_of_ble_eq_true rfl) dX6_best_1 ⟨Nat.le_of_ble_eq_true rfl, Nat.le_of_ble_eq_true rfl⟩ (fun H locs hW hS => ?_)
  refine lv_if_eq (tgt := 10) hx hb dX6_best_4 (by decide) (fun c1 => ?_) (fun c1 => ?_)
  · rw [if_pos c1] at h
    refine lv_iload_n hx hb dX6_best_10 rfl (lv_at hl 1 rfl) ?_
    refine lv_iconst (v := 1) hx hb dX6_best_11 (by decide) ?_
    refine lv_bipush (v := 30) hx hb dX6_best_12 (by decide) ?_
    refine wd_callSr CF hE hW hS (x_X6_beyond l X a1 1 30 D) mi_X6_beyond vi_X6_beyond tw265 ⟨rfl, rfl, Nat.le_of_ble_eq_true rfl, Nat.le_of_ble_eq_true rfl⟩ rfl hl.1 rfl (Nat.le_of_ble_eq_true rfl) dX6_best_14 ⟨Nat.le_of_ble_eq_true rfl, Nat.le_of_ble_eq_true rfl⟩ (fun H locs hW hS => ?_)
    refine lv_if_ne (tgt := 29) hx hb dX6_best_17 (by decide) (fun c2 => ?_) (fun c2 => ?_)
    · rw [if_neg c2] at h
      refine lv_ldc (v := (-1000001)) hx hb hown (hts _ tw268) dX6_best_29 ?_
      have h := Option.some.inj h
      subst h
      exact wd_iret CF hret hlk hW hS dX6_best_31
    · rw [if_pos c2] at h
      refine lv_iload_n hx hb dX6_best_20 rfl (lv_at hl 2 rfl) ?_
      refine lv_iconst (v := 0) hx hb dX6_best_21 (by decide) ?_
      refine lv_iconst (v := 1) hx hb dX6_best_22 (by decide) ?_
      refine wd_callSr CF hE hW hS (x_X6_beyond l X a2 0 1 D) mi_X6_beyond vi_X6_beyond tw265 ⟨rfl, rfl, Nat.le_of_ble_eq_true rfl, Nat.le_of_ble_eq_true rfl⟩ rfl hl.1 rfl (Nat.le_of_ble_eq_true rfl) dX6_best_23 ⟨Nat.le_of_ble_eq_true rfl, Nat.le_of_ble_eq_true rfl⟩ (fun H locs hW hS => ?_)
      refine lv_if_eq (tgt := 32) hx hb dX6_best_26 (by decide) (fun c3 => ?_) (fun c3 => ?_)
      · rw [if_pos c3] at h
        refine lv_aload_n hx hb dX6_best_32 rfl (lv_at hl 0 rfl) ?_
        refine wd_getR CF hE hW fl_X6_25 sh_0 rf_0_2 rfl dX6_best_33 ?_
        refine wd_get CF hE hW fl_X6_131 (rm_s room_4) (v := .int (gI D 4 0)) rfl dX6_best_36 ?_
        refine lv_iconst (v := 2) hx hb dX6_best_39 (by decide) ?_
        refine lv_icmp_ge (tgt := 46) hx hb dX6_best_40 (by decide) (fun c4 => ?_) (fun c4 => ?_)
        · rw [if_pos c4] at h
          refine lv_aload_n hx hb dX6_best_46 rfl (lv_at hl 0 rfl) ?_
          refine wd_getR CF hE hW fl_X6_46 sh_0 rf_0_6 rfl dX6_best_47 ?_
          refine lv_aload_n hx hb dX6_best_50 rfl (lv_at hl 0 rfl) ?_
          refine wd_getR CF hE hW fl_X6_25 sh_0 rf_0_2 rfl dX6_best_51 ?_
          refine lv_iload_n hx hb dX6_best_54 rfl (lv_at hl 1 rfl) ?_
          obtain ⟨q5, eq5, h⟩ := bdE h
          refine wd_callVv (ci := 1) (k := 241) CF hE hW hS (x_X1_planChange l X 4 room_4 a1 D eq5) mi_X1_planChange vi_X1_planChange tw586 ⟨by decide, rfl⟩ sh_241 ⟨rfl, rfl, Nat.le_of_ble_eq_true rfl, Nat.le_of_ble_eq_true rfl⟩ rfl hl.1 rfl (Nat.le_of_ble_eq_true rfl) dX6_best_55 ⟨Nat.le_of_ble_eq_true rfl, Nat.le_of_ble_eq_true rfl⟩ (fun H locs hW hS => ?_)
          refine lv_iload_n hx hb dX6_best_58 rfl (lv_at hl 2 rfl) ?_
          refine lv_if_ne (tgt := 72) hx hb dX6_best_59 (by decide) (fun c6 => ?_) (fun c6 => ?_)
          · rw [if_neg c6] at h
            refine lv_aload_n hx hb dX6_best_72 rfl (lv_at hl 0 rfl) ?_
            refine wd_getR CF hE hW fl_X6_46 sh_0 rf_0_6 rfl dX6_best_73 ?_
            refine wd_get CF hE hW fl_X6_227 sh_241 (v := .int (gI q5 241 5)) rfl dX6_best_76 ?_
            have h := Option.some.inj h
            subst h
            exact wd_iret CF hret hlk hW hS dX6_best_79
          · rw [if_pos c6] at h
            refine lv_aload_n hx hb dX6_best_62 rfl (lv_at hl 0 rfl) ?_
            refine wd_getR CF hE hW fl_X6_46 sh_0 rf_0_6 rfl dX6_best_63 ?_
            refine wd_get CF hE hW fl_X6_230 sh_241 (v := .int (gI q5 241 4)) rfl dX6_best_66 ?_
            refine lv_goto (tgt := 79) hx hb dX6_best_69 (by decide) ?_
            have h := Option.some.inj h
            subst h
            exact wd_iret CF hret hlk hW hS dX6_best_79
        · rw [if_neg c4] at h
          refine lv_ldc (v := (-1000000)) hx hb hown (hts _ tw585) dX6_best_43 ?_
          have h := Option.some.inj h
          subst h
          exact wd_iret CF hret hlk hW hS dX6_best_45
      · rw [if_neg c3] at h
        refine lv_ldc (v := (-1000001)) hx hb hown (hts _ tw268) dX6_best_29 ?_
        have h := Option.some.inj h
        subst h
        exact wd_iret CF hret hlk hW hS dX6_best_31
  · rw [if_neg c1] at h
    refine lv_ldc (v := (-1000002)) hx hb hown (hts _ tw387) dX6_best_7 ?_
    have h := Option.some.inj h
    subst h
    exact wd_iret CF hret hlk hW hS dX6_best_9
def f_X6_silence  (D : wd_D) : Option (Int32) := (if (f_X6_noRoom D) = 0 then (f_X3_loudestUnheeded 4 D).bind (fun x2 => some x2) else some (-1000002))
set_option maxHeartbeats 4000000 in
set_option maxRecDepth 100000 in
theorem x_X6_silence (l : Launch) (X : wd_X)  (D : wd_D) {rv : Int32} (h : f_X6_silence  D = some rv) : wd_Met l X yX6_silence cX6_silence 1 (some FieldType.int) ({ frames := 2, cells := 0, slots := 0, locals := 200 }) S0 S0 ([.ref (X.2.2.1 + 0)] : List Value) D D (some (.int rv)) 0 0 := by
  refine wd_enter (by decide) (Nat.le_of_ble_eq_true rfl) ?_
  intro p e s m below meth c CF hret hlk hnm hW hE ls hl
  have CF : CallFix p m c cX6_silence 1 s ([.ref (X.2.2.1 + 0)] : List Value).toArray tg RX6 := CF
  have hx := CF.1
  have hb := CF.2.1
  have hown := CF.2.2.2.1
  have hts := CF.2.2.2.2
  have hS : va_S (wd_A X) s.heap s.heap [] := va_S.rf
  have hl : lv_has ls 1 [(0, .ref (X.2.2.1 + 0))] := hl
  unfold f_X6_silence at h
  refine lv_aload_n hx hb dX6_silence_0 rfl (lv_at hl 0 rfl) ?_
  refine wd_callVr (ci := 6) (k := 0) CF hE hW hS (x_X6_noRoom l X D) mi_X6_noRoom vi_X6_noRoom tw397 ⟨by decide, rfl⟩ sh_0 ⟨rfl, rfl, Nat.le_of_ble_eq_true rfl, Nat.le_of_ble_eq_true rfl⟩ rfl hl.1 rfl (Nat.le_of_ble_eq_true rfl) dX6_silence_1 ⟨Nat.le_of_ble_eq_true rfl, Nat.le_of_ble_eq_true rfl⟩ (fun H locs hW hS => ?_)
  refine lv_if_eq (tgt := 12) hx hb dX6_silence_4 (by decide) (fun c1 => ?_) (fun c1 => ?_)
  · rw [if_pos c1] at h
    refine lv_aload_n hx hb dX6_silence_12 rfl (lv_at hl 0 rfl) ?_
    refine wd_getR CF hE hW fl_X6_25 sh_0 rf_0_2 rfl dX6_silence_13 ?_
    obtain ⟨x2, ex2, h⟩ := bdE h
    refine wd_callVr (ci := 3) (k := 4) CF hE hW hS (x_X3_loudestUnheeded l X 4 room_4 D ex2) mi_X3_loudestUnheeded vi_X3_loudestUnheeded tw595 ⟨by decide, rfl⟩ (rm_s room_4) ⟨rfl, rfl, Nat.le_of_ble_eq_true rfl, Nat.le_of_ble_eq_true rfl⟩ rfl hl.1 rfl (Nat.le_of_ble_eq_true rfl) dX6_silence_16 ⟨Nat.le_of_ble_eq_true rfl, Nat.le_of_ble_eq_true rfl⟩ (fun H locs hW hS => ?_)
    have h := Option.some.inj h
    subst h
    exact wd_iret CF hret hlk hW hS dX6_silence_19
  · rw [if_neg c1] at h
    refine lv_ldc (v := (-1000002)) hx hb hown (hts _ tw387) dX6_silence_7 ?_
    refine lv_goto (tgt := 19) hx hb dX6_silence_9 (by decide) ?_
    have h := Option.some.inj h
    subst h
    exact wd_iret CF hret hlk hW hS dX6_silence_19
def f_X6_wakes (a1 : Int32) (D : wd_D) : Option (Int32 × wd_D) := (if (f_X6_noChild a1 D) = 0 then (if (f_X6_has (gI D 4 5) a1) = 0 then (f_X1_wokenBy 4 a1 D).bind (fun q3 => some (q3.1, q3.2)) else some ((-1000002), D)) else some ((-1000001), D))
set_option maxHeartbeats 4000000 in
set_option maxRecDepth 100000 in
theorem x_X6_wakes (l : Launch) (X : wd_X) (a1 : Int32) (D : wd_D) {qv : Int32 × wd_D} (h : f_X6_wakes a1 D = some qv) : wd_Met l X yX6_wakes cX6_wakes 2 (some FieldType.int) ({ frames := 7, cells := 0, slots := 0, locals := 700 }) S0 S0 ([.ref (X.2.2.1 + 0), .int a1] : List Value) D qv.2 (some (.int qv.1)) 0 0 := by
  refine wd_enter (by decide) (Nat.le_of_ble_eq_true rfl) ?_
  intro p e s m below meth c CF hret hlk hnm hW hE ls hl
  have CF : CallFix p m c cX6_wakes 2 s ([.ref (X.2.2.1 + 0), .int a1] : List Value).toArray tg RX6 := CF
  have hx := CF.1
  have hb := CF.2.1
  have hown := CF.2.2.2.1
  have hts := CF.2.2.2.2
  have hS : va_S (wd_A X) s.heap s.heap [] := va_S.rf
  have hl : lv_has ls 2 [(0, .ref (X.2.2.1 + 0)), (1, .int a1)] := hl
  unfold f_X6_wakes at h
  refine lv_aload_n hx hb dX6_wakes_0 rfl (lv_at hl 0 rfl) ?_
  refine lv_iload_n hx hb dX6_wakes_1 rfl (lv_at hl 1 rfl) ?_
  refine wd_callVr (ci := 6) (k := 0) CF hE hW hS (x_X6_noChild l X a1 D) mi_X6_noChild vi_X6_noChild tw464 ⟨by decide, rfl⟩ sh_0 ⟨rfl, rfl, Nat.le_of_ble_eq_true rfl, Nat.le_of_ble_eq_true rfl⟩ rfl hl.1 rfl (Nat.le_of_ble_eq_true rfl) dX6_wakes_2 ⟨Nat.le_of_ble_eq_true rfl, Nat.le_of_ble_eq_true rfl⟩ (fun H locs hW hS => ?_)
  refine lv_if_eq (tgt := 11) hx hb dX6_wakes_5 (by decide) (fun c1 => ?_) (fun c1 => ?_)
  · rw [if_pos c1] at h
    refine lv_aload_n hx hb dX6_wakes_11 rfl (lv_at hl 0 rfl) ?_
    refine wd_getR CF hE hW fl_X6_25 sh_0 rf_0_2 rfl dX6_wakes_12 ?_
    refine wd_get CF hE hW fl_X6_172 (rm_s room_4) (v := .int (gI D 4 5)) rfl dX6_wakes_15 ?_
    refine lv_iload_n hx hb dX6_wakes_18 rfl (lv_at hl 1 rfl) ?_
    refine wd_callSr CF hE hW hS (x_X6_has l X (gI D 4 5) a1 D) mi_X6_has vi_X6_has tw468 ⟨rfl, rfl, Nat.le_of_ble_eq_true rfl, Nat.le_of_ble_eq_true rfl⟩ rfl hl.1 rfl (Nat.le_of_ble_eq_true rfl) dX6_wakes_19 ⟨Nat.le_of_ble_eq_true rfl, Nat.le_of_ble_eq_true rfl⟩ (fun H locs hW hS => ?_)
    refine lv_if_eq (tgt := 30) hx hb dX6_wakes_22 (by decide) (fun c2 => ?_) (fun c2 => ?_)
    · rw [if_pos c2] at h
      refine lv_aload_n hx hb dX6_wakes_30 rfl (lv_at hl 0 rfl) ?_
      refine wd_getR CF hE hW fl_X6_46 sh_0 rf_0_6 rfl dX6_wakes_31 ?_
      refine lv_aload_n hx hb dX6_wakes_34 rfl (lv_at hl 0 rfl) ?_
      refine wd_getR CF hE hW fl_X6_25 sh_0 rf_0_2 rfl dX6_wakes_35 ?_
      refine lv_iload_n hx hb dX6_wakes_38 rfl (lv_at hl 1 rfl) ?_
      obtain ⟨q3, eq3, h⟩ := bdE h
      refine wd_callVr (ci := 1) (k := 241) CF hE hW hS (x_X1_wokenBy l X 4 room_4 a1 D eq3) mi_X1_wokenBy vi_X1_wokenBy tw604 ⟨by decide, rfl⟩ sh_241 ⟨rfl, rfl, Nat.le_of_ble_eq_true rfl, Nat.le_of_ble_eq_true rfl⟩ rfl hl.1 rfl (Nat.le_of_ble_eq_true rfl) dX6_wakes_39 ⟨Nat.le_of_ble_eq_true rfl, Nat.le_of_ble_eq_true rfl⟩ (fun H locs hW hS => ?_)
      have h := Option.some.inj h
      subst h
      exact wd_iret CF hret hlk hW hS dX6_wakes_42
    · rw [if_neg c2] at h
      refine lv_ldc (v := (-1000002)) hx hb hown (hts _ tw387) dX6_wakes_25 ?_
      refine lv_goto (tgt := 42) hx hb dX6_wakes_27 (by decide) ?_
      have h := Option.some.inj h
      subst h
      exact wd_iret CF hret hlk hW hS dX6_wakes_42
  · rw [if_neg c1] at h
    refine lv_ldc (v := (-1000001)) hx hb hown (hts _ tw268) dX6_wakes_8 ?_
    have h := Option.some.inj h
    subst h
    exact wd_iret CF hret hlk hW hS dX6_wakes_10
def f_X6_loudest  (D : wd_D) : Option (Int32) := (if (f_X6_noRoom D) = 0 then (f_X3_whereLoudest 4 D).bind (fun x2 => some x2) else some (-1000002))
set_option maxHeartbeats 4000000 in
set_option maxRecDepth 100000 in
theorem x_X6_loudest (l : Launch) (X : wd_X)  (D : wd_D) {rv : Int32} (h : f_X6_loudest  D = some rv) : wd_Met l X yX6_loudest cX6_loudest 1 (some FieldType.int) ({ frames := 3, cells := 0, slots := 0, locals := 300 }) S0 S0 ([.ref (X.2.2.1 + 0)] : List Value) D D (some (.int rv)) 0 0 := by
  refine wd_enter (by decide) (Nat.le_of_ble_eq_true rfl) ?_
  intro p e s m below meth c CF hret hlk hnm hW hE ls hl
  have CF : CallFix p m c cX6_loudest 1 s ([.ref (X.2.2.1 + 0)] : List Value).toArray tg RX6 := CF
  have hx := CF.1
  have hb := CF.2.1
  have hown := CF.2.2.2.1
  have hts := CF.2.2.2.2
  have hS : va_S (wd_A X) s.heap s.heap [] := va_S.rf
  have hl : lv_has ls 1 [(0, .ref (X.2.2.1 + 0))] := hl
  unfold f_X6_loudest at h
  refine lv_aload_n hx hb dX6_loudest_0 rfl (lv_at hl 0 rfl) ?_
  refine wd_callVr (ci := 6) (k := 0) CF hE hW hS (x_X6_noRoom l X D) mi_X6_noRoom vi_X6_noRoom tw397 ⟨by decide, rfl⟩ sh_0 ⟨rfl, rfl, Nat.le_of_ble_eq_true rfl, Nat.le_of_ble_eq_true rfl⟩ rfl hl.1 rfl (Nat.le_of_ble_eq_true rfl) dX6_loudest_1 ⟨Nat.le_of_ble_eq_true rfl, Nat.le_of_ble_eq_true rfl⟩ (fun H locs hW hS => ?_)
  refine lv_if_eq (tgt := 12) hx hb dX6_loudest_4 (by decide) (fun c1 => ?_) (fun c1 => ?_)
  · rw [if_pos c1] at h
    refine lv_aload_n hx hb dX6_loudest_12 rfl (lv_at hl 0 rfl) ?_
    refine wd_getR CF hE hW fl_X6_25 sh_0 rf_0_2 rfl dX6_loudest_13 ?_
    obtain ⟨x2, ex2, h⟩ := bdE h
    refine wd_callVr (ci := 3) (k := 4) CF hE hW hS (x_X3_whereLoudest l X 4 room_4 D ex2) mi_X3_whereLoudest vi_X3_whereLoudest tw614 ⟨by decide, rfl⟩ (rm_s room_4) ⟨rfl, rfl, Nat.le_of_ble_eq_true rfl, Nat.le_of_ble_eq_true rfl⟩ rfl hl.1 rfl (Nat.le_of_ble_eq_true rfl) dX6_loudest_16 ⟨Nat.le_of_ble_eq_true rfl, Nat.le_of_ble_eq_true rfl⟩ (fun H locs hW hS => ?_)
    have h := Option.some.inj h
    subst h
    exact wd_iret CF hret hlk hW hS dX6_loudest_19
  · rw [if_neg c1] at h
    refine lv_ldc (v := (-1000002)) hx hb hown (hts _ tw387) dX6_loudest_7 ?_
    refine lv_goto (tgt := 19) hx hb dX6_loudest_9 (by decide) ?_
    have h := Option.some.inj h
    subst h
    exact wd_iret CF hret hlk hW hS dX6_loudest_19
def f_X6_who (a1 : Int32) (a2 : Int32) (a3 : Int32) (a4 : Int32) (a5 : Int32) (D : wd_D) : Option (Int32 × wd_D) := (if (f_X6_noChild a1 D) = 0 then (if (f_X6_beyond a2 0 3) = 0 then (if (f_X6_noRow a3) = 0 then (if (f_X6_beyond a5 1 12) = 0 then (ix 8 a3).bind (fun k5 => ap (f_X4_findingFor (336 + 2 * k5) a4 a5 D) (fun x6 => (if x6 = 0 then (ix 8 a3).bind (fun k8 => (f_X1_tell (336 + 2 * k8) a4 a5 D).bind (fun q9 => (f_X1_fittingTraits 4 a1 a2 q9).bind (fun q10 => ap (f_X6_foundNothing q10.1 q10.2) (fun q11 => some (q11.1, q11.2))))) else ap (f_X6_found x6 D) (fun q12 => some (q12.1, q12.2))))) else some ((-1000001), D)) else some ((-1000001), D)) else some ((-1000001), D)) else some ((-1000001), D))
set_option maxHeartbeats 4000000 in
set_option maxRecDepth 100000 in
theorem x_X6_who (l : Launch) (X : wd_X) (a1 : Int32) (a2 : Int32) (a3 : Int32) (a4 : Int32) (a5 : Int32) (D : wd_D) {qv : Int32 × wd_D} (h : f_X6_who a1 a2 a3 a4 a5 D = some qv) : wd_Met l X yX6_who cX6_who 7 (some FieldType.int) ({ frames := 6, cells := 0, slots := 0, locals := 600 }) S0 S0 ([.ref (X.2.2.1 + 0), .int a1, .int a2, .int a3, .int a4, .int a5] : List Value) D qv.2 (some (.int qv.1)) 0 0 := by
  refine wd_enter (by decide) (Nat.le_of_ble_eq_true rfl) ?_
  intro p e s m below meth c CF hret hlk hnm hW hE ls hl
  have CF : CallFix p m c cX6_who 7 s ([.ref (X.2.2.1 + 0), .int a1, .int a2, .int a3, .int a4, .int a5] : List Value).toArray tg RX6 := CF
  have hx := CF.1
  have hb := CF.2.1
  have hown := CF.2.2.2.1
  have hts := CF.2.2.2.2
  have hS : va_S (wd_A X) s.heap s.heap [] := va_S.rf
  have hl : lv_has ls 7 [(0, .ref (X.2.2.1 + 0)), (1, .int a1), (2, .int a2), (3, .int a3), (4, .int a4), (5, .int a5)] := hl
  unfold f_X6_who at h
  refine lv_aload_n hx hb dX6_who_0 rfl (lv_at hl 0 rfl) ?_
  refine lv_iload_n hx hb dX6_who_1 rfl (lv_at hl 1 rfl) ?_
  refine wd_callVr (ci := 6) (k := 0) CF hE hW hS (x_X6_noChild l X a1 D) mi_X6_noChild vi_X6_noChild tw464 ⟨by decide, rfl⟩ sh_0 ⟨rfl, rfl, Nat.le_of_ble_eq_true rfl, Nat.le_of_ble_eq_true rfl⟩ rfl hl.1 rfl (Nat.le_of_ble_eq_true rfl) dX6_who_2 ⟨Nat.le_of_ble_eq_true rfl, Nat.le_of_ble_eq_true rfl⟩ (fun H locs hW hS => ?_)
  refine lv_if_ne (tgt := 35) hx hb dX6_who_5 (by decide) (fun c1 => ?_) (fun c1 => ?_)
  · rw [if_neg c1] at h
    refine lv_ldc (v := (-1000001)) hx hb hown (hts _ tw268) dX6_who_35 ?_
    have h := Option.some.inj h
    subst h
    exact wd_iret CF hret hlk hW hS dX6_who_37
  · rw [if_pos c1] at h
    refine lv_iload_n hx hb dX6_who_8 rfl (lv_at hl 2 rfl) ?_
    refine lv_iconst (v := 0) hx hb dX6_who_9 (by decide) ?_
    refine lv_iconst (v := 3) hx hb dX6_who_10 (by decide) ?_
    refine wd_callSr CF hE hW hS (x_X6_beyond l X a2 0 3 D) mi_X6_beyond vi_X6_beyond tw265 ⟨rfl, rfl, Nat.le_of_ble_eq_true rfl, Nat.le_of_ble_eq_true rfl⟩ rfl hl.1 rfl (Nat.le_of_ble_eq_true rfl) dX6_who_11 ⟨Nat.le_of_ble_eq_true rfl, Nat.le_of_ble_eq_true rfl⟩ (fun H locs hW hS => ?_)
    refine lv_if_ne (tgt := 35) hx hb dX6_who_14 (by decide) (fun c2 => ?_) (fun c2 => ?_)
    · rw [if_neg c2] at h
      refine lv_ldc (v := (-1000001)) hx hb hown (hts _ tw268) dX6_who_35 ?_
      have h := Option.some.inj h
      subst h
      exact wd_iret CF hret hlk hW hS dX6_who_37
    · rw [if_pos c2] at h
      refine lv_iload_n hx hb dX6_who_17 rfl (lv_at hl 3 rfl) ?_
      refine wd_callSr CF hE hW hS (x_X6_noRow l X a3 D) mi_X6_noRow vi_X6_noRow tw262 ⟨rfl, rfl, Nat.le_of_ble_eq_true rfl, Nat.le_of_ble_eq_true rfl⟩ rfl hl.1 rfl (Nat.le_of_ble_eq_true rfl) dX6_who_18 ⟨Nat.le_of_ble_eq_true rfl, Nat.le_of_ble_eq_true rfl⟩ (fun H locs hW hS => ?_)
      refine lv_if_ne (tgt := 35) hx hb dX6_who_21 (by decide) (fun c3 => ?_) (fun c3 => ?_)
      · rw [if_neg c3] at h
        refine lv_ldc (v := (-1000001)) hx hb hown (hts _ tw268) dX6_who_35 ?_
        have h := Option.some.inj h
        subst h
        exact wd_iret CF hret hlk hW hS dX6_who_37
      · rw [if_pos c3] at h
        refine lv_iload hx hb dX6_who_24 (lv_at hl 5 rfl) ?_
        refine lv_iconst (v := 1) hx hb dX6_who_26 (by decide) ?_
        refine lv_bipush (v := 12) hx hb dX6_who_27 (by decide) ?_
        refine wd_callSr CF hE hW hS (x_X6_beyond l X a5 1 12 D) mi_X6_beyond vi_X6_beyond tw265 ⟨rfl, rfl, Nat.le_of_ble_eq_true rfl, Nat.le_of_ble_eq_true rfl⟩ rfl hl.1 rfl (Nat.le_of_ble_eq_true rfl) dX6_who_29 ⟨Nat.le_of_ble_eq_true rfl, Nat.le_of_ble_eq_true rfl⟩ (fun H locs hW hS => ?_)
        refine lv_if_eq (tgt := 38) hx hb dX6_who_32 (by decide) (fun c4 => ?_) (fun c4 => ?_)
        · rw [if_pos c4] at h
          refine lv_aload_n hx hb dX6_who_38 rfl (lv_at hl 0 rfl) ?_
          refine wd_getR CF hE hW fl_X6_11 sh_0 rf_0_0 rfl dX6_who_39 ?_
          refine lv_iload_n hx hb dX6_who_42 rfl (lv_at hl 3 rfl) ?_
          obtain ⟨k5, ek5, h⟩ := bdE h
          have gk5 := rfa_1 k5 (ix_lt ek5)
          refine wd_aald3 CF hE hW sh_1 ek5 gk5.1 dX6_who_43 ?_
          refine lv_iload hx hb dX6_who_44 (lv_at hl 4 rfl) ?_
          refine lv_iload hx hb dX6_who_46 (lv_at hl 5 rfl) ?_
          refine wd_callVr (ci := 4) (k := (336 + 2 * k5)) CF hE hW hS (x_X4_findingFor l X (336 + 2 * k5) gk5.2 a4 a5 D) mi_X4_findingFor vi_X4_findingFor tw286 ⟨by decide, rfl⟩ (rw_s gk5.2) ⟨rfl, rfl, Nat.le_of_ble_eq_true rfl, Nat.le_of_ble_eq_true rfl⟩ rfl hl.1 rfl (Nat.le_of_ble_eq_true rfl) dX6_who_48 ⟨Nat.le_of_ble_eq_true rfl, Nat.le_of_ble_eq_true rfl⟩ (fun H locs hW hS => ?_)
          refine lv_topi (fun x6 ex6 => ?_)
          replace h := apR ex6 h
          refine lv_istore (lv' := [(6, .int x6), (0, .ref (X.2.2.1 + 0)), (1, .int a1), (2, .int a2), (3, .int a3), (4, .int a4), (5, .int a5)]) hx hb dX6_who_51 hl (by decide) rfl (fun ls hl => ?_)
          refine lv_iload hx hb dX6_who_53 (lv_at hl 0 rfl) ?_
          refine lv_if_eq (tgt := 65) hx hb dX6_who_55 (by decide) (fun c7 => ?_) (fun c7 => ?_)
          · rw [if_pos c7] at h
            refine lv_aload_n hx hb dX6_who_65 rfl (lv_at hl 1 rfl) ?_
            refine wd_getR CF hE hW fl_X6_46 sh_0 rf_0_6 rfl dX6_who_66 ?_
            refine lv_aload_n hx hb dX6_who_69 rfl (lv_at hl 1 rfl) ?_
            refine wd_getR CF hE hW fl_X6_11 sh_0 rf_0_0 rfl dX6_who_70 ?_
            refine lv_iload_n hx hb dX6_who_73 rfl (lv_at hl 4 rfl) ?_
            obtain ⟨k8, ek8, h⟩ := bdE h
            have gk8 := rfa_1 k8 (ix_lt ek8)
            refine wd_aald3 CF hE hW sh_1 ek8 gk8.1 dX6_who_74 ?_
            refine lv_iload hx hb dX6_who_75 (lv_at hl 5 rfl) ?_
            refine lv_iload hx hb dX6_who_77 (lv_at hl 6 rfl) ?_
            obtain ⟨q9, eq9, h⟩ := bdE h
            refine wd_callVv (ci := 1) (k := 241) CF hE hW hS (x_X1_tell l X (336 + 2 * k8) gk8.2 a4 a5 D eq9) mi_X1_tell vi_X1_tell tw622 ⟨by decide, rfl⟩ sh_241 ⟨rfl, rfl, Nat.le_of_ble_eq_true rfl, Nat.le_of_ble_eq_true rfl⟩ rfl hl.1 rfl (Nat.le_of_ble_eq_true rfl) dX6_who_79 ⟨Nat.le_of_ble_eq_true rfl, Nat.le_of_ble_eq_true rfl⟩ (fun H locs hW hS => ?_)
            refine lv_aload_n hx hb dX6_who_82 rfl (lv_at hl 1 rfl) ?_
            refine lv_aload_n hx hb dX6_who_83 rfl (lv_at hl 1 rfl) ?_
            refine wd_getR CF hE hW fl_X6_46 sh_0 rf_0_6 rfl dX6_who_84 ?_
            refine lv_aload_n hx hb dX6_who_87 rfl (lv_at hl 1 rfl) ?_
            refine wd_getR CF hE hW fl_X6_25 sh_0 rf_0_2 rfl dX6_who_88 ?_
            refine lv_iload_n hx hb dX6_who_91 rfl (lv_at hl 2 rfl) ?_
            refine lv_iload_n hx hb dX6_who_92 rfl (lv_at hl 3 rfl) ?_
            obtain ⟨q10, eq10, h⟩ := bdE h
            refine wd_callVr (ci := 1) (k := 241) CF hE hW hS (x_X1_fittingTraits l X 4 room_4 a1 a2 q9 eq10) mi_X1_fittingTraits vi_X1_fittingTraits tw628 ⟨by decide, rfl⟩ sh_241 ⟨rfl, rfl, Nat.le_of_ble_eq_true rfl, Nat.le_of_ble_eq_true rfl⟩ rfl hl.1 rfl (Nat.le_of_ble_eq_true rfl) dX6_who_93 ⟨Nat.le_of_ble_eq_true rfl, Nat.le_of_ble_eq_true rfl⟩ (fun H locs hW hS => ?_)
            obtain ⟨q11, eq11⟩ : ∃ q, q = f_X6_foundNothing q10.1 q10.2 := ⟨_, rfl⟩
            replace h := apR eq11 h
            refine wd_callVr (ci := 6) (k := 0) CF hE hW hS (x_X6_foundNothing l X q10.1 q10.2 eq11.symm) mi_X6_foundNothing vi_X6_foundNothing tw278 ⟨by decide, rfl⟩ sh_0 ⟨rfl, rfl, Nat.le_of_ble_eq_true rfl, Nat.le_of_ble_eq_true rfl⟩ rfl hl.1 rfl (Nat.le_of_ble_eq_true rfl) dX6_who_96 ⟨Nat.le_of_ble_eq_true rfl, Nat.le_of_ble_eq_true rfl⟩ (fun H locs hW hS => ?_)
            have h := Option.some.inj h
            subst h
            exact wd_iret CF hret hlk hW hS dX6_who_99
          · rw [if_neg c7] at h
            refine lv_aload_n hx hb dX6_who_58 rfl (lv_at hl 1 rfl) ?_
            refine lv_iload hx hb dX6_who_59 (lv_at hl 0 rfl) ?_
            obtain ⟨q12, eq12⟩ : ∃ q, q = f_X6_found x6 D := ⟨_, rfl⟩
            replace h := apR eq12 h
            refine wd_callVr (ci := 6) (k := 0) CF hE hW hS (x_X6_found l X x6 D eq12.symm) mi_X6_found vi_X6_found tw269 ⟨by decide, rfl⟩ sh_0 ⟨rfl, rfl, Nat.le_of_ble_eq_true rfl, Nat.le_of_ble_eq_true rfl⟩ rfl hl.1 rfl (Nat.le_of_ble_eq_true rfl) dX6_who_61 ⟨Nat.le_of_ble_eq_true rfl, Nat.le_of_ble_eq_true rfl⟩ (fun H locs hW hS => ?_)
            have h := Option.some.inj h
            subst h
            exact wd_iret CF hret hlk hW hS dX6_who_64
        · rw [if_neg c4] at h
          refine lv_ldc (v := (-1000001)) hx hb hown (hts _ tw268) dX6_who_35 ?_
          have h := Option.some.inj h
          subst h
          exact wd_iret CF hret hlk hW hS dX6_who_37
def f_X6_held (a1 : Int32) (a2 : Int32) (a3 : Int32) (D : wd_D) : Option (Int32 × wd_D) := (if (f_X6_noRoom D) = 0 then (if (f_X6_noRow a1) = 0 then (if (f_X6_beyond a3 1 12) = 0 then (ix 8 a1).bind (fun k4 => ap (f_X4_findingFor (336 + 2 * k4) a2 a3 D) (fun x5 => (if x5 = 0 then (ix 8 a1).bind (fun k7 => (f_X1_tell (336 + 2 * k7) a2 a3 D).bind (fun q8 => (f_X1_fittingHands 4 q8).bind (fun q9 => ap (f_X6_foundNothing q9.1 q9.2) (fun q10 => some (q10.1, q10.2))))) else ap (f_X6_found x5 D) (fun q11 => some (q11.1, q11.2))))) else some ((-1000001), D)) else some ((-1000001), D)) else some ((-1000002), D))
set_option maxHeartbeats 4000000 in
set_option maxRecDepth 100000 in
theorem x_X6_held (l : Launch) (X : wd_X) (a1 : Int32) (a2 : Int32) (a3 : Int32) (D : wd_D) {qv : Int32 × wd_D} (h : f_X6_held a1 a2 a3 D = some qv) : wd_Met l X yX6_held cX6_held 5 (some FieldType.int) ({ frames := 6, cells := 0, slots := 0, locals := 600 }) S0 S0 ([.ref (X.2.2.1 + 0), .int a1, .int a2, .int a3] : List Value) D qv.2 (some (.int qv.1)) 0 0 := by
  refine wd_enter (by decide) (Nat.le_of_ble_eq_true rfl) ?_
  intro p e s m below meth c CF hret hlk hnm hW hE ls hl
  have CF : CallFix p m c cX6_held 5 s ([.ref (X.2.2.1 + 0), .int a1, .int a2, .int a3] : List Value).toArray tg RX6 := CF
  have hx := CF.1
  have hb := CF.2.1
  have hown := CF.2.2.2.1
  have hts := CF.2.2.2.2
  have hS : va_S (wd_A X) s.heap s.heap [] := va_S.rf
  have hl : lv_has ls 5 [(0, .ref (X.2.2.1 + 0)), (1, .int a1), (2, .int a2), (3, .int a3)] := hl
  unfold f_X6_held at h
  refine lv_aload_n hx hb dX6_held_0 rfl (lv_at hl 0 rfl) ?_
  refine wd_callVr (ci := 6) (k := 0) CF hE hW hS (x_X6_noRoom l X D) mi_X6_noRoom vi_X6_noRoom tw397 ⟨by decide, rfl⟩ sh_0 ⟨rfl, rfl, Nat.le_of_ble_eq_true rfl, Nat.le_of_ble_eq_true rfl⟩ rfl hl.1 rfl (Nat.le_of_ble_eq_true rfl) dX6_held_1 ⟨Nat.le_of_ble_eq_true rfl, Nat.le_of_ble_eq_true rfl⟩ (fun H locs hW hS => ?_)
  refine lv_if_eq (tgt := 10) hx hb dX6_held_4 (by decide) (fun c1 => ?_) (fun c1 => ?_)
  · rw [if_pos c1] at h
    refine lv_iload_n hx hb dX6_held_10 rfl (lv_at hl 1 rfl) ?_
    refine wd_callSr CF hE hW hS (x_X6_noRow l X a1 D) mi_X6_noRow vi_X6_noRow tw262 ⟨rfl, rfl, Nat.le_of_ble_eq_true rfl, Nat.le_of_ble_eq_true rfl⟩ rfl hl.1 rfl (Nat.le_of_ble_eq_true rfl) dX6_held_11 ⟨Nat.le_of_ble_eq_true rfl, Nat.le_of_ble_eq_true rfl⟩ (fun H locs hW hS => ?_)
    refine lv_if_ne (tgt := 27) hx hb dX6_held_14 (by decide) (fun c2 => ?_) (fun c2 => ?_)
    · rw [if_neg c2] at h
      refine lv_ldc (v := (-1000001)) hx hb hown (hts _ tw268) dX6_held_27 ?_
      have h := Option.some.inj h
      subst h
      exact wd_iret CF hret hlk hW hS dX6_held_29
    · rw [if_pos c2] at h
      refine lv_iload_n hx hb dX6_held_17 rfl (lv_at hl 3 rfl) ?_
      refine lv_iconst (v := 1) hx hb dX6_held_18 (by decide) ?_
      refine lv_bipush (v := 12) hx hb dX6_held_19 (by decide) ?_
      refine wd_callSr CF hE hW hS (x_X6_beyond l X a3 1 12 D) mi_X6_beyond vi_X6_beyond tw265 ⟨rfl, rfl, Nat.le_of_ble_eq_true rfl, Nat.le_of_ble_eq_true rfl⟩ rfl hl.1 rfl (Nat.le_of_ble_eq_true rfl) dX6_held_21 ⟨Nat.le_of_ble_eq_true rfl, Nat.le_of_ble_eq_true rfl⟩ (fun H locs hW hS => ?_)
      refine lv_if_eq (tgt := 30) hx hb dX6_held_24 (by decide) (fun c3 => ?_) (fun c3 => ?_)
      · rw [if_pos c3] at h
        refine lv_aload_n hx hb dX6_held_30 rfl (lv_at hl 0 rfl) ?_
        refine wd_getR CF hE hW fl_X6_11 sh_0 rf_0_0 rfl dX6_held_31 ?_
        refine lv_iload_n hx hb dX6_held_34 rfl (lv_at hl 1 rfl) ?_
        obtain ⟨k4, ek4, h⟩ := bdE h
        have gk4 := rfa_1 k4 (ix_lt ek4)
        refine wd_aald3 CF hE hW sh_1 ek4 gk4.1 dX6_held_35 ?_
        refine lv_iload_n hx hb dX6_held_36 rfl (lv_at hl 2 rfl) ?_
        refine lv_iload_n hx hb dX6_held_37 rfl (lv_at hl 3 rfl) ?_
        refine wd_callVr (ci := 4) (k := (336 + 2 * k4)) CF hE hW hS (x_X4_findingFor l X (336 + 2 * k4) gk4.2 a2 a3 D) mi_X4_findingFor vi_X4_findingFor tw286 ⟨by decide, rfl⟩ (rw_s gk4.2) ⟨rfl, rfl, Nat.le_of_ble_eq_true rfl, Nat.le_of_ble_eq_true rfl⟩ rfl hl.1 rfl (Nat.le_of_ble_eq_true rfl) dX6_held_38 ⟨Nat.le_of_ble_eq_true rfl, Nat.le_of_ble_eq_true rfl⟩ (fun H locs hW hS => ?_)
        refine lv_topi (fun x5 ex5 => ?_)
        replace h := apR ex5 h
        refine lv_istore (lv' := [(4, .int x5), (0, .ref (X.2.2.1 + 0)), (1, .int a1), (2, .int a2), (3, .int a3)]) hx hb dX6_held_41 hl (by decide) rfl (fun ls hl => ?_)
        refine lv_iload hx hb dX6_held_43 (lv_at hl 0 rfl) ?_
        refine lv_if_eq (tgt := 55) hx hb dX6_held_45 (by decide) (fun c6 => ?_) (fun c6 => ?_)
        · rw [if_pos c6] at h
          refine lv_aload_n hx hb dX6_held_55 rfl (lv_at hl 1 rfl) ?_
          refine wd_getR CF hE hW fl_X6_46 sh_0 rf_0_6 rfl dX6_held_56 ?_
          refine lv_aload_n hx hb dX6_held_59 rfl (lv_at hl 1 rfl) ?_
          refine wd_getR CF hE hW fl_X6_11 sh_0 rf_0_0 rfl dX6_held_60 ?_
          refine lv_iload_n hx hb dX6_held_63 rfl (lv_at hl 2 rfl) ?_
          obtain ⟨k7, ek7, h⟩ := bdE h
          have gk7 := rfa_1 k7 (ix_lt ek7)
          refine wd_aald3 CF hE hW sh_1 ek7 gk7.1 dX6_held_64 ?_
          refine lv_iload_n hx hb dX6_held_65 rfl (lv_at hl 3 rfl) ?_
          refine lv_iload_n hx hb dX6_held_66 rfl (lv_at hl 4 rfl) ?_
          obtain ⟨q8, eq8, h⟩ := bdE h
          refine wd_callVv (ci := 1) (k := 241) CF hE hW hS (x_X1_tell l X (336 + 2 * k7) gk7.2 a2 a3 D eq8) mi_X1_tell vi_X1_tell tw622 ⟨by decide, rfl⟩ sh_241 ⟨rfl, rfl, Nat.le_of_ble_eq_true rfl, Nat.le_of_ble_eq_true rfl⟩ rfl hl.1 rfl (Nat.le_of_ble_eq_true rfl) dX6_held_67 ⟨Nat.le_of_ble_eq_true rfl, Nat.le_of_ble_eq_true rfl⟩ (fun H locs hW hS => ?_)
          refine lv_aload_n hx hb dX6_held_70 rfl (lv_at hl 1 rfl) ?_
          refine lv_aload_n hx hb dX6_held_71 rfl (lv_at hl 1 rfl) ?_
          refine wd_getR CF hE hW fl_X6_46 sh_0 rf_0_6 rfl dX6_held_72 ?_
          refine lv_aload_n hx hb dX6_held_75 rfl (lv_at hl 1 rfl) ?_
          refine wd_getR CF hE hW fl_X6_25 sh_0 rf_0_2 rfl dX6_held_76 ?_
          obtain ⟨q9, eq9, h⟩ := bdE h
          refine wd_callVr (ci := 1) (k := 241) CF hE hW hS (x_X1_fittingHands l X 4 room_4 q8 eq9) mi_X1_fittingHands vi_X1_fittingHands tw643 ⟨by decide, rfl⟩ sh_241 ⟨rfl, rfl, Nat.le_of_ble_eq_true rfl, Nat.le_of_ble_eq_true rfl⟩ rfl hl.1 rfl (Nat.le_of_ble_eq_true rfl) dX6_held_79 ⟨Nat.le_of_ble_eq_true rfl, Nat.le_of_ble_eq_true rfl⟩ (fun H locs hW hS => ?_)
          obtain ⟨q10, eq10⟩ : ∃ q, q = f_X6_foundNothing q9.1 q9.2 := ⟨_, rfl⟩
          replace h := apR eq10 h
          refine wd_callVr (ci := 6) (k := 0) CF hE hW hS (x_X6_foundNothing l X q9.1 q9.2 eq10.symm) mi_X6_foundNothing vi_X6_foundNothing tw278 ⟨by decide, rfl⟩ sh_0 ⟨rfl, rfl, Nat.le_of_ble_eq_true rfl, Nat.le_of_ble_eq_true rfl⟩ rfl hl.1 rfl (Nat.le_of_ble_eq_true rfl) dX6_held_82 ⟨Nat.le_of_ble_eq_true rfl, Nat.le_of_ble_eq_true rfl⟩ (fun H locs hW hS => ?_)
          have h := Option.some.inj h
          subst h
          exact wd_iret CF hret hlk hW hS dX6_held_85
        · rw [if_neg c6] at h
          refine lv_aload_n hx hb dX6_held_48 rfl (lv_at hl 1 rfl) ?_
          refine lv_iload hx hb dX6_held_49 (lv_at hl 0 rfl) ?_
          obtain ⟨q11, eq11⟩ : ∃ q, q = f_X6_found x5 D := ⟨_, rfl⟩
          replace h := apR eq11 h
          refine wd_callVr (ci := 6) (k := 0) CF hE hW hS (x_X6_found l X x5 D eq11.symm) mi_X6_found vi_X6_found tw269 ⟨by decide, rfl⟩ sh_0 ⟨rfl, rfl, Nat.le_of_ble_eq_true rfl, Nat.le_of_ble_eq_true rfl⟩ rfl hl.1 rfl (Nat.le_of_ble_eq_true rfl) dX6_held_51 ⟨Nat.le_of_ble_eq_true rfl, Nat.le_of_ble_eq_true rfl⟩ (fun H locs hW hS => ?_)
          have h := Option.some.inj h
          subst h
          exact wd_iret CF hret hlk hW hS dX6_held_54
      · rw [if_neg c3] at h
        refine lv_ldc (v := (-1000001)) hx hb hown (hts _ tw268) dX6_held_27 ?_
        have h := Option.some.inj h
        subst h
        exact wd_iret CF hret hlk hW hS dX6_held_29
  · rw [if_neg c1] at h
    refine lv_ldc (v := (-1000002)) hx hb hown (hts _ tw387) dX6_held_7 ?_
    have h := Option.some.inj h
    subst h
    exact wd_iret CF hret hlk hW hS dX6_held_9
def f_X6_lorries (a1 : Int32) (a2 : Int32) (a3 : Int32) (a4 : Int32) (D : wd_D) : Option (Int64 × wd_D) := (if (f_X6_noRoom D) = 0 then (if (f_X6_beyond a1 0 99) = 0 then (if (f_X6_beyond a2 0 8) = 0 then (if (f_X6_beyond a3 0 10) = 0 then (if (f_X6_beyond a4 0 1) = 0 then (f_X1_countCases 4 a1 a2 a3 D).bind (fun q6 => (if a4 = 0 then some (gJ q6 241 6, q6) else some (gJ q6 241 7, q6))) else some ((-1000001), D)) else some ((-1000001), D)) else some ((-1000001), D)) else some ((-1000001), D)) else some ((-1000002), D))
set_option maxHeartbeats 4000000 in
set_option maxRecDepth 100000 in
theorem x_X6_lorries (l : Launch) (X : wd_X) (a1 : Int32) (a2 : Int32) (a3 : Int32) (a4 : Int32) (D : wd_D) {qv : Int64 × wd_D} (h : f_X6_lorries a1 a2 a3 a4 D = some qv) : wd_Met l X yX6_lorries cX6_lorries 5 (some FieldType.long) ({ frames := 16, cells := 0, slots := 0, locals := 1600 }) S0 S0 ([.ref (X.2.2.1 + 0), .int a1, .int a2, .int a3, .int a4] : List Value) D qv.2 (some (.long qv.1)) 0 0 := by
  refine wd_enter (by decide) (Nat.le_of_ble_eq_true rfl) ?_
  intro p e s m below meth c CF hret hlk hnm hW hE ls hl
  have CF : CallFix p m c cX6_lorries 5 s ([.ref (X.2.2.1 + 0), .int a1, .int a2, .int a3, .int a4] : List Value).toArray tg RX6 := CF
  have hx := CF.1
  have hb := CF.2.1
  have hown := CF.2.2.2.1
  have hts := CF.2.2.2.2
  have hS : va_S (wd_A X) s.heap s.heap [] := va_S.rf
  have hl : lv_has ls 5 [(0, .ref (X.2.2.1 + 0)), (1, .int a1), (2, .int a2), (3, .int a3), (4, .int a4)] := hl
  unfold f_X6_lorries at h
  refine lv_aload_n hx hb dX6_lorries_0 rfl (lv_at hl 0 rfl) ?_
  refine wd_callVr (ci := 6) (k := 0) CF hE hW hS (x_X6_noRoom l X D) mi_X6_noRoom vi_X6_noRoom tw397 ⟨by decide, rfl⟩ sh_0 ⟨rfl, rfl, Nat.le_of_ble_eq_true rfl, Nat.le_of_ble_eq_true rfl⟩ rfl hl.1 rfl (Nat.le_of_ble_eq_true rfl) dX6_lorries_1 ⟨Nat.le_of_ble_eq_true rfl, Nat.le_of_ble_eq_true rfl⟩ (fun H locs hW hS => ?_)
  refine lv_if_eq (tgt := 11) hx hb dX6_lorries_4 (by decide) (fun c1 => ?_) (fun c1 => ?_)
  · rw [if_pos c1] at h
    refine lv_iload_n hx hb dX6_lorries_11 rfl (lv_at hl 1 rfl) ?_
    refine lv_iconst (v := 0) hx hb dX6_lorries_12 (by decide) ?_
    refine lv_bipush (v := 99) hx hb dX6_lorries_13 (by decide) ?_
    refine wd_callSr CF hE hW hS (x_X6_beyond l X a1 0 99 D) mi_X6_beyond vi_X6_beyond tw265 ⟨rfl, rfl, Nat.le_of_ble_eq_true rfl, Nat.le_of_ble_eq_true rfl⟩ rfl hl.1 rfl (Nat.le_of_ble_eq_true rfl) dX6_lorries_15 ⟨Nat.le_of_ble_eq_true rfl, Nat.le_of_ble_eq_true rfl⟩ (fun H locs hW hS => ?_)
    refine lv_if_ne (tgt := 51) hx hb dX6_lorries_18 (by decide) (fun c2 => ?_) (fun c2 => ?_)
    · rw [if_neg c2] at h
      refine lv_ldc2 (v := (-1000001)) hx hb hown (hts _ tw652) dX6_lorries_51 ?_
      have h := Option.some.inj h
      subst h
      exact wd_lret CF hret hlk hW hS dX6_lorries_54
    · rw [if_pos c2] at h
      refine lv_iload_n hx hb dX6_lorries_21 rfl (lv_at hl 2 rfl) ?_
      refine lv_iconst (v := 0) hx hb dX6_lorries_22 (by decide) ?_
      refine lv_bipush (v := 8) hx hb dX6_lorries_23 (by decide) ?_
      refine wd_callSr CF hE hW hS (x_X6_beyond l X a2 0 8 D) mi_X6_beyond vi_X6_beyond tw265 ⟨rfl, rfl, Nat.le_of_ble_eq_true rfl, Nat.le_of_ble_eq_true rfl⟩ rfl hl.1 rfl (Nat.le_of_ble_eq_true rfl) dX6_lorries_25 ⟨Nat.le_of_ble_eq_true rfl, Nat.le_of_ble_eq_true rfl⟩ (fun H locs hW hS => ?_)
      refine lv_if_ne (tgt := 51) hx hb dX6_lorries_28 (by decide) (fun c3 => ?_) (fun c3 => ?_)
      · rw [if_neg c3] at h
        refine lv_ldc2 (v := (-1000001)) hx hb hown (hts _ tw652) dX6_lorries_51 ?_
        have h := Option.some.inj h
        subst h
        exact wd_lret CF hret hlk hW hS dX6_lorries_54
      · rw [if_pos c3] at h
        refine lv_iload_n hx hb dX6_lorries_31 rfl (lv_at hl 3 rfl) ?_
        refine lv_iconst (v := 0) hx hb dX6_lorries_32 (by decide) ?_
        refine lv_bipush (v := 10) hx hb dX6_lorries_33 (by decide) ?_
        refine wd_callSr CF hE hW hS (x_X6_beyond l X a3 0 10 D) mi_X6_beyond vi_X6_beyond tw265 ⟨rfl, rfl, Nat.le_of_ble_eq_true rfl, Nat.le_of_ble_eq_true rfl⟩ rfl hl.1 rfl (Nat.le_of_ble_eq_true rfl) dX6_lorries_35 ⟨Nat.le_of_ble_eq_true rfl, Nat.le_of_ble_eq_true rfl⟩ (fun H locs hW hS => ?_)
        refine lv_if_ne (tgt := 51) hx hb dX6_lorries_38 (by decide) (fun c4 => ?_) (fun c4 => ?_)
        · rw [if_neg c4] at h
          refine lv_ldc2 (v := (-1000001)) hx hb hown (hts _ tw652) dX6_lorries_51 ?_
          have h := Option.some.inj h
          subst h
          exact wd_lret CF hret hlk hW hS dX6_lorries_54
        · rw [if_pos c4] at h
          refine lv_iload hx hb dX6_lorries_41 (lv_at hl 4 rfl) ?_
          refine lv_iconst (v := 0) hx hb dX6_lorries_43 (by decide) ?_
          refine lv_iconst (v := 1) hx hb dX6_lorries_44 (by decide) ?_
          refine wd_callSr CF hE hW hS (x_X6_beyond l X a4 0 1 D) mi_X6_beyond vi_X6_beyond tw265 ⟨rfl, rfl, Nat.le_of_ble_eq_true rfl, Nat.le_of_ble_eq_true rfl⟩ rfl hl.1 rfl (Nat.le_of_ble_eq_true rfl) dX6_lorries_45 ⟨Nat.le_of_ble_eq_true rfl, Nat.le_of_ble_eq_true rfl⟩ (fun H locs hW hS => ?_)
          refine lv_if_eq (tgt := 55) hx hb dX6_lorries_48 (by decide) (fun c5 => ?_) (fun c5 => ?_)
          · rw [if_pos c5] at h
            refine lv_aload_n hx hb dX6_lorries_55 rfl (lv_at hl 0 rfl) ?_
            refine wd_getR CF hE hW fl_X6_46 sh_0 rf_0_6 rfl dX6_lorries_56 ?_
            refine lv_aload_n hx hb dX6_lorries_59 rfl (lv_at hl 0 rfl) ?_
            refine wd_getR CF hE hW fl_X6_25 sh_0 rf_0_2 rfl dX6_lorries_60 ?_
            refine lv_iload_n hx hb dX6_lorries_63 rfl (lv_at hl 1 rfl) ?_
            refine lv_iload_n hx hb dX6_lorries_64 rfl (lv_at hl 2 rfl) ?_
            refine lv_iload_n hx hb dX6_lorries_65 rfl (lv_at hl 3 rfl) ?_
            obtain ⟨q6, eq6, h⟩ := bdE h
            refine wd_callVv (ci := 1) (k := 241) CF hE hW hS (x_X1_countCases l X 4 room_4 a1 a2 a3 D eq6) mi_X1_countCases vi_X1_countCases tw653 ⟨by decide, rfl⟩ sh_241 ⟨rfl, rfl, Nat.le_of_ble_eq_true rfl, Nat.le_of_ble_eq_true rfl⟩ rfl hl.1 rfl (Nat.le_of_ble_eq_true rfl) dX6_lorries_66 ⟨Nat.le_of_ble_eq_true rfl, Nat.le_of_ble_eq_true rfl⟩ (fun H locs hW hS => ?_)
            refine lv_iload hx hb dX6_lorries_69 (lv_at hl 4 rfl) ?_
            refine lv_if_ne (tgt := 84) hx hb dX6_lorries_71 (by decide) (fun c7 => ?_) (fun c7 => ?_)
            · rw [if_neg c7] at h
              refine lv_aload_n hx hb dX6_lorries_84 rfl (lv_at hl 0 rfl) ?_
              refine wd_getR CF hE hW fl_X6_46 sh_0 rf_0_6 rfl dX6_lorries_85 ?_
              refine wd_get CF hE hW fl_X6_272 sh_241 (v := .long (gJ q6 241 7)) rfl dX6_lorries_88 ?_
              have h := Option.some.inj h
              subst h
              exact wd_lret CF hret hlk hW hS dX6_lorries_91
            · rw [if_pos c7] at h
              refine lv_aload_n hx hb dX6_lorries_74 rfl (lv_at hl 0 rfl) ?_
              refine wd_getR CF hE hW fl_X6_46 sh_0 rf_0_6 rfl dX6_lorries_75 ?_
              refine wd_get CF hE hW fl_X6_268 sh_241 (v := .long (gJ q6 241 6)) rfl dX6_lorries_78 ?_
              refine lv_goto (tgt := 91) hx hb dX6_lorries_81 (by decide) ?_
              have h := Option.some.inj h
              subst h
              exact wd_lret CF hret hlk hW hS dX6_lorries_91
          · rw [if_neg c5] at h
            refine lv_ldc2 (v := (-1000001)) hx hb hown (hts _ tw652) dX6_lorries_51 ?_
            have h := Option.some.inj h
            subst h
            exact wd_lret CF hret hlk hW hS dX6_lorries_54
  · rw [if_neg c1] at h
    refine lv_ldc2 (v := (-1000002)) hx hb hown (hts _ tw651) dX6_lorries_7 ?_
    have h := Option.some.inj h
    subst h
    exact wd_lret CF hret hlk hW hS dX6_lorries_10
def f_X6_drawn (a1 : Int32) (a2 : Int32) (a3 : Int32) (D : wd_D) : Option (Int32 × wd_D) := (if (f_X6_noRoom D) = 0 then (if (f_X6_beyond a1 0 60) = 0 then (if (f_X6_beyond a2 1 999999) = 0 then (if (f_X6_beyond a3 0 1) = 0 then (f_X1_drawDay 4 a1 a2 D).bind (fun q5 => ap q5.1 (fun x6 => (if a3 = 0 then (f_X3_thoseWho 242 2 q5.2).bind (fun x8 => some (f_J6_bitCount_0f7a4 x8, q5.2)) else some (x6, q5.2)))) else some ((-1000001), D)) else some ((-1000001), D)) else some ((-1000001), D)) else some ((-1000002), D))
set_option maxHeartbeats 4000000 in
set_option maxRecDepth 100000 in
theorem x_X6_drawn (l : Launch) (X : wd_X) (a1 : Int32) (a2 : Int32) (a3 : Int32) (D : wd_D) {qv : Int32 × wd_D} (h : f_X6_drawn a1 a2 a3 D = some qv) : wd_Met l X yX6_drawn cX6_drawn 5 (some FieldType.int) ({ frames := 5, cells := 0, slots := 0, locals := 500 }) S0 S0 ([.ref (X.2.2.1 + 0), .int a1, .int a2, .int a3] : List Value) D qv.2 (some (.int qv.1)) 0 0 := by
  refine wd_enter (by decide) (Nat.le_of_ble_eq_true rfl) ?_
  intro p e s m below meth c CF hret hlk hnm hW hE ls hl
  have CF : CallFix p m c cX6_drawn 5 s ([.ref (X.2.2.1 + 0), .int a1, .int a2, .int a3] : List Value).toArray tg RX6 := CF
  have hx := CF.1
  have hb := CF.2.1
  have hown := CF.2.2.2.1
  have hts := CF.2.2.2.2
  have hS : va_S (wd_A X) s.heap s.heap [] := va_S.rf
  have hl : lv_has ls 5 [(0, .ref (X.2.2.1 + 0)), (1, .int a1), (2, .int a2), (3, .int a3)] := hl
  unfold f_X6_drawn at h
  refine lv_aload_n hx hb dX6_drawn_0 rfl (lv_at hl 0 rfl) ?_
  refine wd_callVr (ci := 6) (k := 0) CF hE hW hS (x_X6_noRoom l X D) mi_X6_noRoom vi_X6_noRoom tw397 ⟨by decide, rfl⟩ sh_0 ⟨rfl, rfl, Nat.le_of_ble_eq_true rfl, Nat.le_of_ble_eq_true rfl⟩ rfl hl.1 rfl (Nat.le_of_ble_eq_true rfl) dX6_drawn_1 ⟨Nat.le_of_ble_eq_true rfl, Nat.le_of_ble_eq_true rfl⟩ (fun H locs hW hS => ?_)
  refine lv_if_eq (tgt := 10) hx hb dX6_drawn_4 (by decide) (fun c1 => ?_) (fun c1 => ?_)
  · rw [if_pos c1] at h
    refine lv_iload_n hx hb dX6_drawn_10 rfl (lv_at hl 1 rfl) ?_
    refine lv_iconst (v := 0) hx hb dX6_drawn_11 (by decide) ?_
    refine lv_bipush (v := 60) hx hb dX6_drawn_12 (by decide) ?_
    refine wd_callSr CF hE hW hS (x_X6_beyond l X a1 0 60 D) mi_X6_beyond vi_X6_beyond tw265 ⟨rfl, rfl, Nat.le_of_ble_eq_true rfl, Nat.le_of_ble_eq_true rfl⟩ rfl hl.1 rfl (Nat.le_of_ble_eq_true rfl) dX6_drawn_14 ⟨Nat.le_of_ble_eq_true rfl, Nat.le_of_ble_eq_true rfl⟩ (fun H locs hW hS => ?_)
    refine lv_if_ne (tgt := 40) hx hb dX6_drawn_17 (by decide) (fun c2 => ?_) (fun c2 => ?_)
    · rw [if_neg c2] at h
      refine lv_ldc (v := (-1000001)) hx hb hown (hts _ tw268) dX6_drawn_40 ?_
      have h := Option.some.inj h
      subst h
      exact wd_iret CF hret hlk hW hS dX6_drawn_42
    · rw [if_pos c2] at h
      refine lv_iload_n hx hb dX6_drawn_20 rfl (lv_at hl 2 rfl) ?_
      refine lv_iconst (v := 1) hx hb dX6_drawn_21 (by decide) ?_
      refine lv_ldcw (v := 999999) hx hb hown (hts _ tw675) dX6_drawn_22 ?_
      refine wd_callSr CF hE hW hS (x_X6_beyond l X a2 1 999999 D) mi_X6_beyond vi_X6_beyond tw265 ⟨rfl, rfl, Nat.le_of_ble_eq_true rfl, Nat.le_of_ble_eq_true rfl⟩ rfl hl.1 rfl (Nat.le_of_ble_eq_true rfl) dX6_drawn_25 ⟨Nat.le_of_ble_eq_true rfl, Nat.le_of_ble_eq_true rfl⟩ (fun H locs hW hS => ?_)
      refine lv_if_ne (tgt := 40) hx hb dX6_drawn_28 (by decide) (fun c3 => ?_) (fun c3 => ?_)
      · rw [if_neg c3] at h
        refine lv_ldc (v := (-1000001)) hx hb hown (hts _ tw268) dX6_drawn_40 ?_
        have h := Option.some.inj h
        subst h
        exact wd_iret CF hret hlk hW hS dX6_drawn_42
      · rw [if_pos c3] at h
        refine lv_iload_n hx hb dX6_drawn_31 rfl (lv_at hl 3 rfl) ?_
        refine lv_iconst (v := 0) hx hb dX6_drawn_32 (by decide) ?_
        refine lv_iconst (v := 1) hx hb dX6_drawn_33 (by decide) ?_
        refine wd_callSr CF hE hW hS (x_X6_beyond l X a3 0 1 D) mi_X6_beyond vi_X6_beyond tw265 ⟨rfl, rfl, Nat.le_of_ble_eq_true rfl, Nat.le_of_ble_eq_true rfl⟩ rfl hl.1 rfl (Nat.le_of_ble_eq_true rfl) dX6_drawn_34 ⟨Nat.le_of_ble_eq_true rfl, Nat.le_of_ble_eq_true rfl⟩ (fun H locs hW hS => ?_)
        refine lv_if_eq (tgt := 43) hx hb dX6_drawn_37 (by decide) (fun c4 => ?_) (fun c4 => ?_)
        · rw [if_pos c4] at h
          refine lv_aload_n hx hb dX6_drawn_43 rfl (lv_at hl 0 rfl) ?_
          refine wd_getR CF hE hW fl_X6_46 sh_0 rf_0_6 rfl dX6_drawn_44 ?_
          refine lv_aload_n hx hb dX6_drawn_47 rfl (lv_at hl 0 rfl) ?_
          refine wd_getR CF hE hW fl_X6_25 sh_0 rf_0_2 rfl dX6_drawn_48 ?_
          refine lv_iload_n hx hb dX6_drawn_51 rfl (lv_at hl 1 rfl) ?_
          refine lv_iload_n hx hb dX6_drawn_52 rfl (lv_at hl 2 rfl) ?_
          obtain ⟨q5, eq5, h⟩ := bdE h
          refine wd_callVr (ci := 1) (k := 241) CF hE hW hS (x_X1_drawDay l X 4 room_4 a1 a2 D eq5) mi_X1_drawDay vi_X1_drawDay tw676 ⟨by decide, rfl⟩ sh_241 ⟨rfl, rfl, Nat.le_of_ble_eq_true rfl, Nat.le_of_ble_eq_true rfl⟩ rfl hl.1 rfl (Nat.le_of_ble_eq_true rfl) dX6_drawn_53 ⟨Nat.le_of_ble_eq_true rfl, Nat.le_of_ble_eq_true rfl⟩ (fun H locs hW hS => ?_)
          refine lv_topi (fun x6 ex6 => ?_)
          replace h := apR ex6 h
          refine lv_istore (lv' := [(4, .int x6), (0, .ref (X.2.2.1 + 0)), (1, .int a1), (2, .int a2), (3, .int a3)]) hx hb dX6_drawn_56 hl (by decide) rfl (fun ls hl => ?_)
          refine lv_iload_n hx hb dX6_drawn_58 rfl (lv_at hl 4 rfl) ?_
          refine lv_if_ne (tgt := 79) hx hb dX6_drawn_59 (by decide) (fun c7 => ?_) (fun c7 => ?_)
          · rw [if_neg c7] at h
            refine lv_iload hx hb dX6_drawn_79 (lv_at hl 0 rfl) ?_
            have h := Option.some.inj h
            subst h
            exact wd_iret CF hret hlk hW hS dX6_drawn_81
          · rw [if_pos c7] at h
            refine lv_aload_n hx hb dX6_drawn_62 rfl (lv_at hl 1 rfl) ?_
            refine wd_getR CF hE hW fl_X6_46 sh_0 rf_0_6 rfl dX6_drawn_63 ?_
            refine wd_getR CF hE hW fl_X6_279 sh_241 rf_241_0 rfl dX6_drawn_66 ?_
            refine lv_iconst (v := 2) hx hb dX6_drawn_69 (by decide) ?_
            obtain ⟨x8, ex8, h⟩ := bdE h
            refine wd_callVr (ci := 3) (k := 242) CF hE hW hS (x_X3_thoseWho l X 242 room_242 2 q5.2 ex8) mi_X3_thoseWho vi_X3_thoseWho tw459 ⟨by decide, rfl⟩ (rm_s room_242) ⟨rfl, rfl, Nat.le_of_ble_eq_true rfl, Nat.le_of_ble_eq_true rfl⟩ rfl hl.1 rfl (Nat.le_of_ble_eq_true rfl) dX6_drawn_70 ⟨Nat.le_of_ble_eq_true rfl, Nat.le_of_ble_eq_true rfl⟩ (fun H locs hW hS => ?_)
            refine wd_callSr CF hE hW hS (x_J6_bitCount_0f7a4 l X x8 q5.2) mi_J6_bitCount_0f7a4 vi_J6_bitCount_0f7a4 tw469 ⟨rfl, rfl, Nat.le_of_ble_eq_true rfl, Nat.le_of_ble_eq_true rfl⟩ rfl hl.1 rfl (Nat.le_of_ble_eq_true rfl) dX6_drawn_73 ⟨Nat.le_of_ble_eq_true rfl, Nat.le_of_ble_eq_true rfl⟩ (fun H locs hW hS => ?_)
            refine lv_goto (tgt := 81) hx hb dX6_drawn_76 (by decide) ?_
            have h := Option.some.inj h
            subst h
            exact wd_iret CF hret hlk hW hS dX6_drawn_81
        · rw [if_neg c4] at h
          refine lv_ldc (v := (-1000001)) hx hb hown (hts _ tw268) dX6_drawn_40 ?_
          have h := Option.some.inj h
          subst h
          exact wd_iret CF hret hlk hW hS dX6_drawn_42
  · rw [if_neg c1] at h
    refine lv_ldc (v := (-1000002)) hx hb hown (hts _ tw387) dX6_drawn_7 ?_
    have h := Option.some.inj h
    subst h
    exact wd_iret CF hret hlk hW hS dX6_drawn_9
def f_X6_image (a1 : Int32) (D : wd_D) : Option (Int32 × wd_D) := (if (f_X6_beyond a1 0 1) = 0 then (if (f_X6_noRoom D) = 0 then (ix 2 a1).bind (fun k3 => (f_X3_become (352 + 9 * k3) 4 D).bind (fun q4 => some (1, q4))) else some ((-1000002), D)) else some ((-1000001), D))
set_option maxHeartbeats 4000000 in
set_option maxRecDepth 100000 in
theorem x_X6_image (l : Launch) (X : wd_X) (a1 : Int32) (D : wd_D) {qv : Int32 × wd_D} (h : f_X6_image a1 D = some qv) : wd_Met l X yX6_image cX6_image 2 (some FieldType.int) ({ frames := 2, cells := 0, slots := 0, locals := 200 }) S0 S0 ([.ref (X.2.2.1 + 0), .int a1] : List Value) D qv.2 (some (.int qv.1)) 0 0 := by
  refine wd_enter (by decide) (Nat.le_of_ble_eq_true rfl) ?_
  intro p e s m below meth c CF hret hlk hnm hW hE ls hl
  have CF : CallFix p m c cX6_image 2 s ([.ref (X.2.2.1 + 0), .int a1] : List Value).toArray tg RX6 := CF
  have hx := CF.1
  have hb := CF.2.1
  have hown := CF.2.2.2.1
  have hts := CF.2.2.2.2
  have hS : va_S (wd_A X) s.heap s.heap [] := va_S.rf
  have hl : lv_has ls 2 [(0, .ref (X.2.2.1 + 0)), (1, .int a1)] := hl
  unfold f_X6_image at h
  refine lv_iload_n hx hb dX6_image_0 rfl (lv_at hl 1 rfl) ?_
  refine lv_iconst (v := 0) hx hb dX6_image_1 (by decide) ?_
  refine lv_iconst (v := 1) hx hb dX6_image_2 (by decide) ?_
  refine wd_callSr CF hE hW hS (x_X6_beyond l X a1 0 1 D) mi_X6_beyond vi_X6_beyond tw265 ⟨rfl, rfl, Nat.le_of_ble_eq_true rfl, Nat.le_of_ble_eq_true rfl⟩ rfl hl.1 rfl (Nat.le_of_ble_eq_true rfl) dX6_image_3 ⟨Nat.le_of_ble_eq_true rfl, Nat.le_of_ble_eq_true rfl⟩ (fun H locs hW hS => ?_)
  refine lv_if_eq (tgt := 12) hx hb dX6_image_6 (by decide) (fun c1 => ?_) (fun c1 => ?_)
  · rw [if_pos c1] at h
    refine lv_aload_n hx hb dX6_image_12 rfl (lv_at hl 0 rfl) ?_
    refine wd_callVr (ci := 6) (k := 0) CF hE hW hS (x_X6_noRoom l X D) mi_X6_noRoom vi_X6_noRoom tw397 ⟨by decide, rfl⟩ sh_0 ⟨rfl, rfl, Nat.le_of_ble_eq_true rfl, Nat.le_of_ble_eq_true rfl⟩ rfl hl.1 rfl (Nat.le_of_ble_eq_true rfl) dX6_image_13 ⟨Nat.le_of_ble_eq_true rfl, Nat.le_of_ble_eq_true rfl⟩ (fun H locs hW hS => ?_)
    refine lv_if_eq (tgt := 22) hx hb dX6_image_16 (by decide) (fun c2 => ?_) (fun c2 => ?_)
    · rw [if_pos c2] at h
      refine lv_aload_n hx hb dX6_image_22 rfl (lv_at hl 0 rfl) ?_
      refine wd_getR CF hE hW fl_X6_32 sh_0 rf_0_4 rfl dX6_image_23 ?_
      refine lv_iload_n hx hb dX6_image_26 rfl (lv_at hl 1 rfl) ?_
      obtain ⟨k3, ek3, h⟩ := bdE h
      have gk3 := rfa_22 k3 (ix_lt ek3)
      refine wd_aald2 CF hE hW sh_22 ek3 gk3.1 dX6_image_27 ?_
      refine lv_aload_n hx hb dX6_image_28 rfl (lv_at hl 0 rfl) ?_
      refine wd_getR CF hE hW fl_X6_25 sh_0 rf_0_2 rfl dX6_image_29 ?_
      obtain ⟨q4, eq4, h⟩ := bdE h
      refine wd_callVv (ci := 3) (k := (352 + 9 * k3)) CF hE hW hS (x_X3_become l X (352 + 9 * k3) gk3.2 4 room_4 D eq4) mi_X3_become vi_X3_become tw370 ⟨by decide, rfl⟩ (rm_s gk3.2) ⟨rfl, rfl, Nat.le_of_ble_eq_true rfl, Nat.le_of_ble_eq_true rfl⟩ rfl hl.1 rfl (Nat.le_of_ble_eq_true rfl) dX6_image_32 ⟨Nat.le_of_ble_eq_true rfl, Nat.le_of_ble_eq_true rfl⟩ (fun H locs hW hS => ?_)
      refine lv_iconst (v := 1) hx hb dX6_image_35 (by decide) ?_
      have h := Option.some.inj h
      subst h
      exact wd_iret CF hret hlk hW hS dX6_image_36
    · rw [if_neg c2] at h
      refine lv_ldc (v := (-1000002)) hx hb hown (hts _ tw387) dX6_image_19 ?_
      have h := Option.some.inj h
      subst h
      exact wd_iret CF hret hlk hW hS dX6_image_21
  · rw [if_neg c1] at h
    refine lv_ldc (v := (-1000001)) hx hb hown (hts _ tw268) dX6_image_9 ?_
    have h := Option.some.inj h
    subst h
    exact wd_iret CF hret hlk hW hS dX6_image_11
def f_X6_restore (a1 : Int32) (D : wd_D) : Option (Int32 × wd_D) := (if (f_X6_beyond a1 0 1) = 0 then (ix 2 a1).bind (fun k2 => (if (gI D (352 + 9 * k2) 0) = 0 then some ((-1000002), D) else (ix 2 a1).bind (fun k4 => (f_X3_become 4 (352 + 9 * k4) D).bind (fun q5 => ap (f_X2_forget q5) (fun q6 => some (1, q6)))))) else some ((-1000001), D))
set_option maxHeartbeats 4000000 in
set_option maxRecDepth 100000 in
theorem x_X6_restore (l : Launch) (X : wd_X) (a1 : Int32) (D : wd_D) {qv : Int32 × wd_D} (h : f_X6_restore a1 D = some qv) : wd_Met l X yX6_restore cX6_restore 2 (some FieldType.int) ({ frames := 2, cells := 0, slots := 0, locals := 200 }) S0 S0 ([.ref (X.2.2.1 + 0), .int a1] : List Value) D qv.2 (some (.int qv.1)) 0 0 := by
  refine wd_enter (by decide) (Nat.le_of_ble_eq_true rfl) ?_
  intro p e s m below meth c CF hret hlk hnm hW hE ls hl
  have CF : CallFix p m c cX6_restore 2 s ([.ref (X.2.2.1 + 0), .int a1] : List Value).toArray tg RX6 := CF
  have hx := CF.1
  have hb := CF.2.1
  have hown := CF.2.2.2.1
  have hts := CF.2.2.2.2
  have hS : va_S (wd_A X) s.heap s.heap [] := va_S.rf
  have hl : lv_has ls 2 [(0, .ref (X.2.2.1 + 0)), (1, .int a1)] := hl
  unfold f_X6_restore at h
  refine lv_iload_n hx hb dX6_restore_0 rfl (lv_at hl 1 rfl) ?_
  refine lv_iconst (v := 0) hx hb dX6_restore_1 (by decide) ?_
  refine lv_iconst (v := 1) hx hb dX6_restore_2 (by decide) ?_
  refine wd_callSr CF hE hW hS (x_X6_beyond l X a1 0 1 D) mi_X6_beyond vi_X6_beyond tw265 ⟨rfl, rfl, Nat.le_of_ble_eq_true rfl, Nat.le_of_ble_eq_true rfl⟩ rfl hl.1 rfl (Nat.le_of_ble_eq_true rfl) dX6_restore_3 ⟨Nat.le_of_ble_eq_true rfl, Nat.le_of_ble_eq_true rfl⟩ (fun H locs hW hS => ?_)
  refine lv_if_eq (tgt := 12) hx hb dX6_restore_6 (by decide) (fun c1 => ?_) (fun c1 => ?_)
  · rw [if_pos c1] at h
    refine lv_aload_n hx hb dX6_restore_12 rfl (lv_at hl 0 rfl) ?_
    refine wd_getR CF hE hW fl_X6_32 sh_0 rf_0_4 rfl dX6_restore_13 ?_
    refine lv_iload_n hx hb dX6_restore_16 rfl (lv_at hl 1 rfl) ?_
    obtain ⟨k2, ek2, h⟩ := bdE h
    have gk2 := rfa_22 k2 (ix_lt ek2)
    refine wd_aald2 CF hE hW sh_22 ek2 gk2.1 dX6_restore_17 ?_
    refine wd_get CF hE hW fl_X6_131 (rm_s gk2.2) (v := .int (gI D (352 + 9 * k2) 0)) rfl dX6_restore_18 ?_
    refine lv_if_ne (tgt := 27) hx hb dX6_restore_21 (by decide) (fun c3 => ?_) (fun c3 => ?_)
    · rw [if_neg c3] at h
      refine lv_aload_n hx hb dX6_restore_27 rfl (lv_at hl 0 rfl) ?_
      refine wd_getR CF hE hW fl_X6_25 sh_0 rf_0_2 rfl dX6_restore_28 ?_
      refine lv_aload_n hx hb dX6_restore_31 rfl (lv_at hl 0 rfl) ?_
      refine wd_getR CF hE hW fl_X6_32 sh_0 rf_0_4 rfl dX6_restore_32 ?_
      refine lv_iload_n hx hb dX6_restore_35 rfl (lv_at hl 1 rfl) ?_
      obtain ⟨k4, ek4, h⟩ := bdE h
      have gk4 := rfa_22 k4 (ix_lt ek4)
      refine wd_aald2 CF hE hW sh_22 ek4 gk4.1 dX6_restore_36 ?_
      obtain ⟨q5, eq5, h⟩ := bdE h
      refine wd_callVv (ci := 3) (k := 4) CF hE hW hS (x_X3_become l X 4 room_4 (352 + 9 * k4) gk4.2 D eq5) mi_X3_become vi_X3_become tw370 ⟨by decide, rfl⟩ (rm_s room_4) ⟨rfl, rfl, Nat.le_of_ble_eq_true rfl, Nat.le_of_ble_eq_true rfl⟩ rfl hl.1 rfl (Nat.le_of_ble_eq_true rfl) dX6_restore_37 ⟨Nat.le_of_ble_eq_true rfl, Nat.le_of_ble_eq_true rfl⟩ (fun H locs hW hS => ?_)
      refine lv_aload_n hx hb dX6_restore_40 rfl (lv_at hl 0 rfl) ?_
      refine wd_getR CF hE hW fl_X6_39 sh_0 rf_0_5 rfl dX6_restore_41 ?_
      obtain ⟨q6, eq6⟩ : ∃ q, q = f_X2_forget q5 := ⟨_, rfl⟩
      replace h := apR eq6 h
      refine wd_callVv (ci := 2) (k := 23) CF hE hW hS (x_X2_forget l X q5 eq6.symm) mi_X2_forget vi_X2_forget tw375 ⟨by decide, rfl⟩ sh_23 ⟨rfl, rfl, Nat.le_of_ble_eq_true rfl, Nat.le_of_ble_eq_true rfl⟩ rfl hl.1 rfl (Nat.le_of_ble_eq_true rfl) dX6_restore_44 ⟨Nat.le_of_ble_eq_true rfl, Nat.le_of_ble_eq_true rfl⟩ (fun H locs hW hS => ?_)
      refine lv_iconst (v := 1) hx hb dX6_restore_47 (by decide) ?_
      have h := Option.some.inj h
      subst h
      exact wd_iret CF hret hlk hW hS dX6_restore_48
    · rw [if_pos c3] at h
      refine lv_ldc (v := (-1000002)) hx hb hown (hts _ tw387) dX6_restore_24 ?_
      have h := Option.some.inj h
      subst h
      exact wd_iret CF hret hlk hW hS dX6_restore_26
  · rw [if_neg c1] at h
    refine lv_ldc (v := (-1000001)) hx hb hown (hts _ tw268) dX6_restore_9 ?_
    have h := Option.some.inj h
    subst h
    exact wd_iret CF hret hlk hW hS dX6_restore_11
def f_X6_kind (a1 : Int32) (D : wd_D) : Option (Int32) := (if (f_X6_noChild a1 D) = 0 then (rd 7 D (4 + 1) a1).bind (fun x2 => some x2) else some (-1000001))
set_option maxHeartbeats 4000000 in
set_option maxRecDepth 100000 in
theorem x_X6_kind (l : Launch) (X : wd_X) (a1 : Int32) (D : wd_D) {rv : Int32} (h : f_X6_kind a1 D = some rv) : wd_Met l X yX6_kind cX6_kind 2 (some FieldType.int) ({ frames := 1, cells := 0, slots := 0, locals := 100 }) S0 S0 ([.ref (X.2.2.1 + 0), .int a1] : List Value) D D (some (.int rv)) 0 0 := by
  refine wd_enter (by decide) (Nat.le_of_ble_eq_true rfl) ?_
  intro p e s m below meth c CF hret hlk hnm hW hE ls hl
  have CF : CallFix p m c cX6_kind 2 s ([.ref (X.2.2.1 + 0), .int a1] : List Value).toArray tg RX6 := CF
  have hx := CF.1
  have hb := CF.2.1
  have hown := CF.2.2.2.1
  have hts := CF.2.2.2.2
  have hS : va_S (wd_A X) s.heap s.heap [] := va_S.rf
  have hl : lv_has ls 2 [(0, .ref (X.2.2.1 + 0)), (1, .int a1)] := hl
  unfold f_X6_kind at h
  refine lv_aload_n hx hb dX6_kind_0 rfl (lv_at hl 0 rfl) ?_
  refine lv_iload_n hx hb dX6_kind_1 rfl (lv_at hl 1 rfl) ?_
  refine wd_callVr (ci := 6) (k := 0) CF hE hW hS (x_X6_noChild l X a1 D) mi_X6_noChild vi_X6_noChild tw464 ⟨by decide, rfl⟩ sh_0 ⟨rfl, rfl, Nat.le_of_ble_eq_true rfl, Nat.le_of_ble_eq_true rfl⟩ rfl hl.1 rfl (Nat.le_of_ble_eq_true rfl) dX6_kind_2 ⟨Nat.le_of_ble_eq_true rfl, Nat.le_of_ble_eq_true rfl⟩ (fun H locs hW hS => ?_)
  refine lv_if_eq (tgt := 13) hx hb dX6_kind_5 (by decide) (fun c1 => ?_) (fun c1 => ?_)
  · rw [if_pos c1] at h
    refine lv_aload_n hx hb dX6_kind_13 rfl (lv_at hl 0 rfl) ?_
    refine wd_getR CF hE hW fl_X6_25 sh_0 rf_0_2 rfl dX6_kind_14 ?_
    refine wd_getR CF hE hW fl_X6_282 (rm_s room_4) (rm_r0 room_4) rfl dX6_kind_17 ?_
    refine lv_iload_n hx hb dX6_kind_20 rfl (lv_at hl 1 rfl) ?_
    obtain ⟨x2, ex2, h⟩ := bdE h
    refine wd_iald CF hE hW (rm_a0 room_4) ex2 dX6_kind_21 ?_
    have h := Option.some.inj h
    subst h
    exact wd_iret CF hret hlk hW hS dX6_kind_22
  · rw [if_neg c1] at h
    refine lv_ldc (v := (-1000001)) hx hb hown (hts _ tw268) dX6_kind_8 ?_
    refine lv_goto (tgt := 22) hx hb dX6_kind_10 (by decide) ?_
    have h := Option.some.inj h
    subst h
    exact wd_iret CF hret hlk hW hS dX6_kind_22
def f_X6_as (a1 : Int32) (a2 : Int32) (D : wd_D) : Option (Int32 × wd_D) := (if (f_X6_noChild a1 D) = 0 then (if (f_X6_beyond a2 0 5) = 0 then (rd 7 D (4 + 1) a1).bind (fun x3 => (f_X6_isOne x3 a2 D).bind (fun x4 => (if x4 = 0 then ap (f_X6_found 3 D) (fun q6 => some (q6.1, q6.2)) else ap (f_X6_foundNothing a1 D) (fun q7 => some (q7.1, q7.2))))) else some ((-1000001), D)) else some ((-1000001), D))
set_option maxHeartbeats 4000000 in
set_option maxRecDepth 100000 in
theorem x_X6_as (l : Launch) (X : wd_X) (a1 : Int32) (a2 : Int32) (D : wd_D) {qv : Int32 × wd_D} (h : f_X6_as a1 a2 D = some qv) : wd_Met l X yX6_as cX6_as 3 (some FieldType.int) ({ frames := 1, cells := 0, slots := 0, locals := 100 }) S0 S0 ([.ref (X.2.2.1 + 0), .int a1, .int a2] : List Value) D qv.2 (some (.int qv.1)) 0 0 := by
  refine wd_enter (by decide) (Nat.le_of_ble_eq_true rfl) ?_
  intro p e s m below meth c CF hret hlk hnm hW hE ls hl
  have CF : CallFix p m c cX6_as 3 s ([.ref (X.2.2.1 + 0), .int a1, .int a2] : List Value).toArray tg RX6 := CF
  have hx := CF.1
  have hb := CF.2.1
  have hown := CF.2.2.2.1
  have hts := CF.2.2.2.2
  have hS : va_S (wd_A X) s.heap s.heap [] := va_S.rf
  have hl : lv_has ls 3 [(0, .ref (X.2.2.1 + 0)), (1, .int a1), (2, .int a2)] := hl
  unfold f_X6_as at h
  refine lv_aload_n hx hb dX6_as_0 rfl (lv_at hl 0 rfl) ?_
  refine lv_iload_n hx hb dX6_as_1 rfl (lv_at hl 1 rfl) ?_
  refine wd_callVr (ci := 6) (k := 0) CF hE hW hS (x_X6_noChild l X a1 D) mi_X6_noChild vi_X6_noChild tw464 ⟨by decide, rfl⟩ sh_0 ⟨rfl, rfl, Nat.le_of_ble_eq_true rfl, Nat.le_of_ble_eq_true rfl⟩ rfl hl.1 rfl (Nat.le_of_ble_eq_true rfl) dX6_as_2 ⟨Nat.le_of_ble_eq_true rfl, Nat.le_of_ble_eq_true rfl⟩ (fun H locs hW hS => ?_)
  refine lv_if_ne (tgt := 17) hx hb dX6_as_5 (by decide) (fun c1 => ?_) (fun c1 => ?_)
  · rw [if_neg c1] at h
    refine lv_ldc (v := (-1000001)) hx hb hown (hts _ tw268) dX6_as_17 ?_
    have h := Option.some.inj h
    subst h
    exact wd_iret CF hret hlk hW hS dX6_as_19
  · rw [if_pos c1] at h
    refine lv_iload_n hx hb dX6_as_8 rfl (lv_at hl 2 rfl) ?_
    refine lv_iconst (v := 0) hx hb dX6_as_9 (by decide) ?_
    refine lv_iconst (v := 5) hx hb dX6_as_10 (by decide) ?_
    refine wd_callSr CF hE hW hS (x_X6_beyond l X a2 0 5 D) mi_X6_beyond vi_X6_beyond tw265 ⟨rfl, rfl, Nat.le_of_ble_eq_true rfl, Nat.le_of_ble_eq_true rfl⟩ rfl hl.1 rfl (Nat.le_of_ble_eq_true rfl) dX6_as_11 ⟨Nat.le_of_ble_eq_true rfl, Nat.le_of_ble_eq_true rfl⟩ (fun H locs hW hS => ?_)
    refine lv_if_eq (tgt := 20) hx hb dX6_as_14 (by decide) (fun c2 => ?_) (fun c2 => ?_)
    · rw [if_pos c2] at h
      refine lv_aload_n hx hb dX6_as_20 rfl (lv_at hl 0 rfl) ?_
      refine wd_getR CF hE hW fl_X6_25 sh_0 rf_0_2 rfl dX6_as_21 ?_
      refine wd_getR CF hE hW fl_X6_282 (rm_s room_4) (rm_r0 room_4) rfl dX6_as_24 ?_
      refine lv_iload_n hx hb dX6_as_27 rfl (lv_at hl 1 rfl) ?_
      obtain ⟨x3, ex3, h⟩ := bdE h
      refine wd_iald CF hE hW (rm_a0 room_4) ex3 dX6_as_28 ?_
      refine lv_iload_n hx hb dX6_as_29 rfl (lv_at hl 2 rfl) ?_
      obtain ⟨x4, ex4, h⟩ := bdE h
      refine wd_callSr CF hE hW hS (x_X6_isOne l X x3 a2 D ex4) mi_X6_isOne vi_X6_isOne tw701 ⟨rfl, rfl, Nat.le_of_ble_eq_true rfl, Nat.le_of_ble_eq_true rfl⟩ rfl hl.1 rfl (Nat.le_of_ble_eq_true rfl) dX6_as_30 ⟨Nat.le_of_ble_eq_true rfl, Nat.le_of_ble_eq_true rfl⟩ (fun H locs hW hS => ?_)
      refine lv_if_eq (tgt := 44) hx hb dX6_as_33 (by decide) (fun c5 => ?_) (fun c5 => ?_)
      · rw [if_pos c5] at h
        refine lv_aload_n hx hb dX6_as_44 rfl (lv_at hl 0 rfl) ?_
        refine lv_iconst (v := 3) hx hb dX6_as_45 (by decide) ?_
        obtain ⟨q6, eq6⟩ : ∃ q, q = f_X6_found 3 D := ⟨_, rfl⟩
        replace h := apR eq6 h
        refine wd_callVr (ci := 6) (k := 0) CF hE hW hS (x_X6_found l X 3 D eq6.symm) mi_X6_found vi_X6_found tw269 ⟨by decide, rfl⟩ sh_0 ⟨rfl, rfl, Nat.le_of_ble_eq_true rfl, Nat.le_of_ble_eq_true rfl⟩ rfl hl.1 rfl (Nat.le_of_ble_eq_true rfl) dX6_as_46 ⟨Nat.le_of_ble_eq_true rfl, Nat.le_of_ble_eq_true rfl⟩ (fun H locs hW hS => ?_)
        have h := Option.some.inj h
        subst h
        exact wd_iret CF hret hlk hW hS dX6_as_49
      · rw [if_neg c5] at h
        refine lv_aload_n hx hb dX6_as_36 rfl (lv_at hl 0 rfl) ?_
        refine lv_iload_n hx hb dX6_as_37 rfl (lv_at hl 1 rfl) ?_
        obtain ⟨q7, eq7⟩ : ∃ q, q = f_X6_foundNothing a1 D := ⟨_, rfl⟩
        replace h := apR eq7 h
        refine wd_callVr (ci := 6) (k := 0) CF hE hW hS (x_X6_foundNothing l X a1 D eq7.symm) mi_X6_foundNothing vi_X6_foundNothing tw278 ⟨by decide, rfl⟩ sh_0 ⟨rfl, rfl, Nat.le_of_ble_eq_true rfl, Nat.le_of_ble_eq_true rfl⟩ rfl hl.1 rfl (Nat.le_of_ble_eq_true rfl) dX6_as_38 ⟨Nat.le_of_ble_eq_true rfl, Nat.le_of_ble_eq_true rfl⟩ (fun H locs hW hS => ?_)
        refine lv_goto (tgt := 49) hx hb dX6_as_41 (by decide) ?_
        have h := Option.some.inj h
        subst h
        exact wd_iret CF hret hlk hW hS dX6_as_49
    · rw [if_neg c2] at h
      refine lv_ldc (v := (-1000001)) hx hb hown (hts _ tw268) dX6_as_17 ?_
      have h := Option.some.inj h
      subst h
      exact wd_iret CF hret hlk hW hS dX6_as_19
def f_X6_ask (a1 : Int32) (a2 : Int32) (D : wd_D) : Option (Int32 × wd_D) := (if (f_X6_noChild a1 D) = 0 then (if (f_X6_beyond a2 0 1) = 0 then (f_X0_answer 4 a1 a2 D).bind (fun q3 => some (q3.1, q3.2)) else some ((-1000001), D)) else some ((-1000001), D))
set_option maxHeartbeats 4000000 in
set_option maxRecDepth 100000 in
theorem x_X6_ask (l : Launch) (X : wd_X) (a1 : Int32) (a2 : Int32) (D : wd_D) {qv : Int32 × wd_D} (h : f_X6_ask a1 a2 D = some qv) : wd_Met l X yX6_ask cX6_ask 3 (some FieldType.int) ({ frames := 23, cells := 0, slots := 0, locals := 2300 }) S0 S0 ([.ref (X.2.2.1 + 0), .int a1, .int a2] : List Value) D qv.2 (some (.int qv.1)) 0 0 := by
  refine wd_enter (by decide) (Nat.le_of_ble_eq_true rfl) ?_
  intro p e s m below meth c CF hret hlk hnm hW hE ls hl
  have CF : CallFix p m c cX6_ask 3 s ([.ref (X.2.2.1 + 0), .int a1, .int a2] : List Value).toArray tg RX6 := CF
  have hx := CF.1
  have hb := CF.2.1
  have hown := CF.2.2.2.1
  have hts := CF.2.2.2.2
  have hS : va_S (wd_A X) s.heap s.heap [] := va_S.rf
  have hl : lv_has ls 3 [(0, .ref (X.2.2.1 + 0)), (1, .int a1), (2, .int a2)] := hl
  unfold f_X6_ask at h
  refine lv_aload_n hx hb dX6_ask_0 rfl (lv_at hl 0 rfl) ?_
  refine lv_iload_n hx hb dX6_ask_1 rfl (lv_at hl 1 rfl) ?_
  refine wd_callVr (ci := 6) (k := 0) CF hE hW hS (x_X6_noChild l X a1 D) mi_X6_noChild vi_X6_noChild tw464 ⟨by decide, rfl⟩ sh_0 ⟨rfl, rfl, Nat.le_of_ble_eq_true rfl, Nat.le_of_ble_eq_true rfl⟩ rfl hl.1 rfl (Nat.le_of_ble_eq_true rfl) dX6_ask_2 ⟨Nat.le_of_ble_eq_true rfl, Nat.le_of_ble_eq_true rfl⟩ (fun H locs hW hS => ?_)
  refine lv_if_ne (tgt := 17) hx hb dX6_ask_5 (by decide) (fun c1 => ?_) (fun c1 => ?_)
  · rw [if_neg c1] at h
    refine lv_ldc (v := (-1000001)) hx hb hown (hts _ tw268) dX6_ask_17 ?_
    have h := Option.some.inj h
    subst h
    exact wd_iret CF hret hlk hW hS dX6_ask_19
  · rw [if_pos c1] at h
    refine lv_iload_n hx hb dX6_ask_8 rfl (lv_at hl 2 rfl) ?_
    refine lv_iconst (v := 0) hx hb dX6_ask_9 (by decide) ?_
    refine lv_iconst (v := 1) hx hb dX6_ask_10 (by decide) ?_
    refine wd_callSr CF hE hW hS (x_X6_beyond l X a2 0 1 D) mi_X6_beyond vi_X6_beyond tw265 ⟨rfl, rfl, Nat.le_of_ble_eq_true rfl, Nat.le_of_ble_eq_true rfl⟩ rfl hl.1 rfl (Nat.le_of_ble_eq_true rfl) dX6_ask_11 ⟨Nat.le_of_ble_eq_true rfl, Nat.le_of_ble_eq_true rfl⟩ (fun H locs hW hS => ?_)
    refine lv_if_eq (tgt := 20) hx hb dX6_ask_14 (by decide) (fun c2 => ?_) (fun c2 => ?_)
    · rw [if_pos c2] at h
      refine lv_aload_n hx hb dX6_ask_20 rfl (lv_at hl 0 rfl) ?_
      refine wd_getR CF hE hW fl_X6_53 sh_0 rf_0_7 rfl dX6_ask_21 ?_
      refine lv_aload_n hx hb dX6_ask_24 rfl (lv_at hl 0 rfl) ?_
      refine wd_getR CF hE hW fl_X6_25 sh_0 rf_0_2 rfl dX6_ask_25 ?_
      refine lv_iload_n hx hb dX6_ask_28 rfl (lv_at hl 1 rfl) ?_
      refine lv_iload_n hx hb dX6_ask_29 rfl (lv_at hl 2 rfl) ?_
      obtain ⟨q3, eq3, h⟩ := bdE h
      refine wd_callVr (ci := 0) (k := 334) CF hE hW hS (x_X0_answer l X 4 room_4 a1 a2 D eq3) mi_X0_answer vi_X0_answer tw710 ⟨by decide, rfl⟩ sh_334 ⟨rfl, rfl, Nat.le_of_ble_eq_true rfl, Nat.le_of_ble_eq_true rfl⟩ rfl hl.1 rfl (Nat.le_of_ble_eq_true rfl) dX6_ask_30 ⟨Nat.le_of_ble_eq_true rfl, Nat.le_of_ble_eq_true rfl⟩ (fun H locs hW hS => ?_)
      have h := Option.some.inj h
      subst h
      exact wd_iret CF hret hlk hW hS dX6_ask_33
    · rw [if_neg c2] at h
      refine lv_ldc (v := (-1000001)) hx hb hown (hts _ tw268) dX6_ask_17 ?_
      have h := Option.some.inj h
      subst h
      exact wd_iret CF hret hlk hW hS dX6_ask_19
def f_X6_trace (a1 : Int32) (D : wd_D) : Option (Int32) := (if a1 < 0 then some (-1000000) else (if a1 < (gI D 334 1) then (rd 16 D 335 a1).bind (fun x3 => some x3) else some (-1000000)))
set_option maxHeartbeats 4000000 in
set_option maxRecDepth 100000 in
theorem x_X6_trace (l : Launch) (X : wd_X) (a1 : Int32) (D : wd_D) {rv : Int32} (h : f_X6_trace a1 D = some rv) : wd_Met l X yX6_trace cX6_trace 2 (some FieldType.int) ({ frames := 0, cells := 0, slots := 0, locals := 0 }) S0 S0 ([.ref (X.2.2.1 + 0), .int a1] : List Value) D D (some (.int rv)) 0 0 := by
  refine wd_enter (by decide) (Nat.le_of_ble_eq_true rfl) ?_
  intro p e s m below meth c CF hret hlk hnm hW hE ls hl
  have CF : CallFix p m c cX6_trace 2 s ([.ref (X.2.2.1 + 0), .int a1] : List Value).toArray tg RX6 := CF
  have hx := CF.1
  have hb := CF.2.1
  have hown := CF.2.2.2.1
  have hts := CF.2.2.2.2
  have hS : va_S (wd_A X) s.heap s.heap [] := va_S.rf
  have hl : lv_has ls 2 [(0, .ref (X.2.2.1 + 0)), (1, .int a1)] := hl
  unfold f_X6_trace at h
  refine lv_iload_n hx hb dX6_trace_0 rfl (lv_at hl 1 rfl) ?_
  refine lv_if_lt (tgt := 15) hx hb dX6_trace_1 (by decide) (fun c1 => ?_) (fun c1 => ?_)
  · rw [if_pos c1] at h
    refine lv_ldc (v := (-1000000)) hx hb hown (hts _ tw585) dX6_trace_15 ?_
    refine lv_goto (tgt := 29) hx hb dX6_trace_17 (by decide) ?_
    have h := Option.some.inj h
    subst h
    exact wd_iret CF hret hlk hW hS dX6_trace_29
  · rw [if_neg c1] at h
    refine lv_iload_n hx hb dX6_trace_4 rfl (lv_at hl 1 rfl) ?_
    refine lv_aload_n hx hb dX6_trace_5 rfl (lv_at hl 0 rfl) ?_
    refine wd_getR CF hE hW fl_X6_53 sh_0 rf_0_7 rfl dX6_trace_6 ?_
    refine wd_get CF hE hW fl_X6_291 sh_334 (v := .int (gI D 334 1)) rfl dX6_trace_9 ?_
    refine lv_icmp_lt (tgt := 20) hx hb dX6_trace_12 (by decide) (fun c2 => ?_) (fun c2 => ?_)
    · rw [if_pos c2] at h
      refine lv_aload_n hx hb dX6_trace_20 rfl (lv_at hl 0 rfl) ?_
      refine wd_getR CF hE hW fl_X6_53 sh_0 rf_0_7 rfl dX6_trace_21 ?_
      refine wd_getR CF hE hW fl_X6_294 sh_334 rf_334_0 rfl dX6_trace_24 ?_
      refine lv_iload_n hx hb dX6_trace_27 rfl (lv_at hl 1 rfl) ?_
      obtain ⟨x3, ex3, h⟩ := bdE h
      refine wd_iald CF hE hW sh_335 ex3 dX6_trace_28 ?_
      have h := Option.some.inj h
      subst h
      exact wd_iret CF hret hlk hW hS dX6_trace_29
    · rw [if_neg c2] at h
      refine lv_ldc (v := (-1000000)) hx hb hown (hts _ tw585) dX6_trace_15 ?_
      refine lv_goto (tgt := 29) hx hb dX6_trace_17 (by decide) ?_
      have h := Option.some.inj h
      subst h
      exact wd_iret CF hret hlk hW hS dX6_trace_29
def f_X6_presentRows_L26 (k4 : Int32 → Int32 → wd_D → Option (Int32)) (v1 : Int32) (v2 : Int32) (D : wd_D) : Option (Int32) := ap (v2 + 1) (fun x5 => k4 v1 x5 D)
def f_X6_presentRows_L4  : Nat → Int32 → Int32 → wd_D → Option (Int32)
  | 0, _, _, _ => none
  | n + 1, v1, v2, D => (if 8 ≤ v2 then some v1 else (ix 8 v2).bind (fun k2 => (if (gI D (336 + 2 * k2) 1) = (-1) then f_X6_presentRows_L26 (f_X6_presentRows_L4 n) v1 v2 D else ap (v1 + 1) (fun x4 => f_X6_presentRows_L26 (f_X6_presentRows_L4 n) x4 v2 D))))
def f_X6_presentRows  (D : wd_D) : Option (Int32) := f_X6_presentRows_L4 FU 0 0 D
set_option maxHeartbeats 4000000 in
set_option maxRecDepth 100000 in
theorem x_X6_presentRows (l : Launch) (X : wd_X)  (D : wd_D) {rv : Int32} (h : f_X6_presentRows  D = some rv) : wd_Met l X yX6_presentRows cX6_presentRows 3 (some FieldType.int) ({ frames := 0, cells := 0, slots := 0, locals := 0 }) S0 S0 ([.ref (X.2.2.1 + 0)] : List Value) D D (some (.int rv)) 0 0 := by
  refine wd_enter (by decide) (Nat.le_of_ble_eq_true rfl) ?_
  intro p e s m below meth c CF hret hlk hnm hW hE ls hl
  have CF : CallFix p m c cX6_presentRows 3 s ([.ref (X.2.2.1 + 0)] : List Value).toArray tg RX6 := CF
  have hx := CF.1
  have hb := CF.2.1
  have hown := CF.2.2.2.1
  have hts := CF.2.2.2.2
  have hS : va_S (wd_A X) s.heap s.heap [] := va_S.rf
  have hl : lv_has ls 3 [(0, .ref (X.2.2.1 + 0))] := hl
  unfold f_X6_presentRows at h
  have hL4 : ∀ (n4 : Nat) (v1 : Int32) (v2 : Int32) (H : Heap) (locs : List Loc) (ls : Array Slot), Wd X S0 D H → va_S (wd_A X) s.heap H locs → lv_has ls 3 [(0, .ref (X.2.2.1 + 0)), (1, .int v1), (2, .int v2)] → f_X6_presentRows_L4 n4 v1 v2 D = some rv → W p l e ({ frames := 0, cells := 0, slots := 0, locals := 0 }) s m ([.ref (X.2.2.1 + 0)] : List Value).toArray below meth c H locs 0 0 (MQ below (wd_Q X S0 D (some (.int rv))) ([.ref (X.2.2.1 + 0)] : List Value).toArray s 0 0 (wd_A X)) (F0 m 4 ls []) := by
    intro n4
    induction n4 with
    | zero => intro v1 v2 H locs ls hW hS hl h; cases h
    | succ n4 ih4 =>
      have hL26 : ∀ (v1 : Int32) (v2 : Int32) (H : Heap) (locs : List Loc) (ls : Array Slot), Wd X S0 D H → va_S (wd_A X) s.heap H locs → lv_has ls 3 [(0, .ref (X.2.2.1 + 0)), (1, .int v1), (2, .int v2)] → f_X6_presentRows_L26 (f_X6_presentRows_L4 n4) v1 v2 D = some rv → W p l e ({ frames := 0, cells := 0, slots := 0, locals := 0 }) s m ([.ref (X.2.2.1 + 0)] : List Value).toArray below meth c H locs 0 0 (MQ below (wd_Q X S0 D (some (.int rv))) ([.ref (X.2.2.1 + 0)] : List Value).toArray s 0 0 (wd_A X)) (F0 m 26 ls []) := by
        intro v1 v2 H locs ls hW hS hl h
        unfold f_X6_presentRows_L26 at h
        obtain ⟨x5, ex5⟩ : ∃ y : Int32, y = v2 + 1 := ⟨_, rfl⟩
        replace h := apR ex5 h
        refine lv_iinc (v := x5) (lv' := [(2, .int x5), (0, .ref (X.2.2.1 + 0)), (1, .int v1)]) hx hb dX6_presentRows_26 hl (k := 2) rfl (by rw [ex5]; rfl) (by decide) rfl (fun ls hl => ?_)
        refine lv_goto (tgt := 4) hx hb dX6_presentRows_29 (by decide) ?_
        exact ih4 v1 x5 _ _ _  hW hS (lv_sub hl [1, 2, 0] rfl) h
      intro v1 v2 H locs ls hW hS hl h
      rw [f_X6_presentRows_L4] at h
      refine lv_iload_n hx hb dX6_presentRows_4 rfl (lv_at hl 2 rfl) ?_
      refine lv_bipush (v := 8) hx hb dX6_presentRows_5 (by decide) ?_
      refine lv_icmp_ge (tgt := 32) hx hb dX6_presentRows_7 (by decide) (fun c1 => ?_) (fun c1 => ?_)
      · rw [if_pos c1] at h
        refine lv_iload_n hx hb dX6_presentRows_32 rfl (lv_at hl 1 rfl) ?_
        have h := Option.some.inj h
        subst h
        exact wd_iret CF hret hlk hW hS dX6_presentRows_33
      · rw [if_neg c1] at h
        refine lv_aload_n hx hb dX6_presentRows_10 rfl (lv_at hl 0 rfl) ?_
        refine wd_getR CF hE hW fl_X6_11 sh_0 rf_0_0 rfl dX6_presentRows_11 ?_
        refine lv_iload_n hx hb dX6_presentRows_14 rfl (lv_at hl 2 rfl) ?_
        obtain ⟨k2, ek2, h⟩ := bdE h
        have gk2 := rfa_1 k2 (ix_lt ek2)
        refine wd_aald3 CF hE hW sh_1 ek2 gk2.1 dX6_presentRows_15 ?_
        refine wd_get CF hE hW fl_X6_89 (rw_s gk2.2) (v := .int (gI D (336 + 2 * k2) 1)) rfl dX6_presentRows_16 ?_
        refine lv_iconst (v := (-1)) hx hb dX6_presentRows_19 (by decide) ?_
        refine lv_icmp_eq (tgt := 26) hx hb dX6_presentRows_20 (by decide) (fun c3 => ?_) (fun c3 => ?_)
        · rw [if_pos c3] at h
          exact hL26 v1 v2 _ _ _  hW hS (lv_sub hl [0, 1, 2] rfl) h
        · rw [if_neg c3] at h
          obtain ⟨x4, ex4⟩ : ∃ y : Int32, y = v1 + 1 := ⟨_, rfl⟩
          replace h := apR ex4 h
          refine lv_iinc (v := x4) (lv' := [(1, .int x4), (0, .ref (X.2.2.1 + 0)), (2, .int v2)]) hx hb dX6_presentRows_23 hl (k := 1) rfl (by rw [ex4]; rfl) (by decide) rfl (fun ls hl => ?_)
          exact hL26 x4 v2 _ _ _  hW hS (lv_sub hl [1, 0, 2] rfl) h
  refine lv_iconst (v := 0) hx hb dX6_presentRows_0 (by decide) ?_
  refine lv_istore_n (lv' := [(1, .int 0), (0, .ref (X.2.2.1 + 0))]) hx hb dX6_presentRows_1 rfl hl (by decide) rfl (fun ls hl => ?_)
  refine lv_iconst (v := 0) hx hb dX6_presentRows_2 (by decide) ?_
  refine lv_istore_n (lv' := [(2, .int 0), (1, .int 0), (0, .ref (X.2.2.1 + 0))]) hx hb dX6_presentRows_3 rfl hl (by decide) rfl (fun ls hl => ?_)
  exact hL4 FU 0 0 _ _ _  hW hS (lv_sub hl [2, 1, 0] rfl) h
def f_X6_count (a1 : Int32) (D : wd_D) : Option (Int32) := (if a1 = 0 then (f_X6_presentRows D).bind (fun x2 => some x2) else (if a1 = 1 then some (gI D 4 0) else (if a1 = 2 then some (gI D 4 3) else (if a1 = 3 then (f_X3_thoseWho 4 2 D).bind (fun x6 => some (f_J6_bitCount_0f7a4 x6)) else (if a1 = 4 then (f_X3_thoseWho 4 1 D).bind (fun x8 => some (f_J6_bitCount_0f7a4 x8)) else (if a1 = 5 then some (f_J6_bitCount_0f7a4 (gI D 4 5)) else (if a1 = 6 then some (gI D 23 2) else (if a1 = 7 then some (gI D 2 1) else some (-1000001)))))))))
set_option maxHeartbeats 4000000 in
set_option maxRecDepth 100000 in
theorem x_X6_count (l : Launch) (X : wd_X) (a1 : Int32) (D : wd_D) {rv : Int32} (h : f_X6_count a1 D = some rv) : wd_Met l X yX6_count cX6_count 2 (some FieldType.int) ({ frames := 1, cells := 0, slots := 0, locals := 100 }) S0 S0 ([.ref (X.2.2.1 + 0), .int a1] : List Value) D D (some (.int rv)) 0 0 := by
  refine wd_enter (by decide) (Nat.le_of_ble_eq_true rfl) ?_
  intro p e s m below meth c CF hret hlk hnm hW hE ls hl
  have CF : CallFix p m c cX6_count 2 s ([.ref (X.2.2.1 + 0), .int a1] : List Value).toArray tg RX6 := CF
  have hx := CF.1
  have hb := CF.2.1
  have hown := CF.2.2.2.1
  have hts := CF.2.2.2.2
  have hS : va_S (wd_A X) s.heap s.heap [] := va_S.rf
  have hl : lv_has ls 2 [(0, .ref (X.2.2.1 + 0)), (1, .int a1)] := hl
  unfold f_X6_count at h
  refine lv_iload_n hx hb dX6_count_0 rfl (lv_at hl 1 rfl) ?_
  by_cases c1 : a1 = 0
  · rw [if_pos c1] at h
    refine lv_tableIn (tgt := 48) (off := 47) hx hb dX6_count_1 (by rw [c1]; decide) (by rw [c1]; decide) (by rw [c1]; rfl) (by decide) ?_
    refine lv_aload_n hx hb dX6_count_48 rfl (lv_at hl 0 rfl) ?_
    obtain ⟨x2, ex2, h⟩ := bdE h
    refine wd_callVr (ci := 6) (k := 0) CF hE hW hS (x_X6_presentRows l X D ex2) mi_X6_presentRows vi_X6_presentRows tw740 ⟨by decide, rfl⟩ sh_0 ⟨rfl, rfl, Nat.le_of_ble_eq_true rfl, Nat.le_of_ble_eq_true rfl⟩ rfl hl.1 rfl (Nat.le_of_ble_eq_true rfl) dX6_count_49 ⟨Nat.le_of_ble_eq_true rfl, Nat.le_of_ble_eq_true rfl⟩ (fun H locs hW hS => ?_)
    have h := Option.some.inj h
    subst h
    exact wd_iret CF hret hlk hW hS dX6_count_52
  · rw [if_neg c1] at h
    by_cases c3 : a1 = 1
    · rw [if_pos c3] at h
      refine lv_tableIn (tgt := 53) (off := 52) hx hb dX6_count_1 (by rw [c3]; decide) (by rw [c3]; decide) (by rw [c3]; rfl) (by decide) ?_
      refine lv_aload_n hx hb dX6_count_53 rfl (lv_at hl 0 rfl) ?_
      refine wd_getR CF hE hW fl_X6_25 sh_0 rf_0_2 rfl dX6_count_54 ?_
      refine wd_get CF hE hW fl_X6_131 (rm_s room_4) (v := .int (gI D 4 0)) rfl dX6_count_57 ?_
      have h := Option.some.inj h
      subst h
      exact wd_iret CF hret hlk hW hS dX6_count_60
    · rw [if_neg c3] at h
      by_cases c4 : a1 = 2
      · rw [if_pos c4] at h
        refine lv_tableIn (tgt := 61) (off := 60) hx hb dX6_count_1 (by rw [c4]; decide) (by rw [c4]; decide) (by rw [c4]; rfl) (by decide) ?_
        refine lv_aload_n hx hb dX6_count_61 rfl (lv_at hl 0 rfl) ?_
        refine wd_getR CF hE hW fl_X6_25 sh_0 rf_0_2 rfl dX6_count_62 ?_
        refine wd_get CF hE hW fl_X6_143 (rm_s room_4) (v := .int (gI D 4 3)) rfl dX6_count_65 ?_
        have h := Option.some.inj h
        subst h
        exact wd_iret CF hret hlk hW hS dX6_count_68
      · rw [if_neg c4] at h
        by_cases c5 : a1 = 3
        · rw [if_pos c5] at h
          refine lv_tableIn (tgt := 69) (off := 68) hx hb dX6_count_1 (by rw [c5]; decide) (by rw [c5]; decide) (by rw [c5]; rfl) (by decide) ?_
          refine lv_aload_n hx hb dX6_count_69 rfl (lv_at hl 0 rfl) ?_
          refine wd_getR CF hE hW fl_X6_25 sh_0 rf_0_2 rfl dX6_count_70 ?_
          refine lv_iconst (v := 2) hx hb dX6_count_73 (by decide) ?_
          obtain ⟨x6, ex6, h⟩ := bdE h
          refine wd_callVr (ci := 3) (k := 4) CF hE hW hS (x_X3_thoseWho l X 4 room_4 2 D ex6) mi_X3_thoseWho vi_X3_thoseWho tw459 ⟨by decide, rfl⟩ (rm_s room_4) ⟨rfl, rfl, Nat.le_of_ble_eq_true rfl, Nat.le_of_ble_eq_true rfl⟩ rfl hl.1 rfl (Nat.le_of_ble_eq_true rfl) dX6_count_74 ⟨Nat.le_of_ble_eq_true rfl, Nat.le_of_ble_eq_true rfl⟩ (fun H locs hW hS => ?_)
          refine wd_callSr CF hE hW hS (x_J6_bitCount_0f7a4 l X x6 D) mi_J6_bitCount_0f7a4 vi_J6_bitCount_0f7a4 tw469 ⟨rfl, rfl, Nat.le_of_ble_eq_true rfl, Nat.le_of_ble_eq_true rfl⟩ rfl hl.1 rfl (Nat.le_of_ble_eq_true rfl) dX6_count_77 ⟨Nat.le_of_ble_eq_true rfl, Nat.le_of_ble_eq_true rfl⟩ (fun H locs hW hS => ?_)
          have h := Option.some.inj h
          subst h
          exact wd_iret CF hret hlk hW hS dX6_count_80
        · rw [if_neg c5] at h
          by_cases c7 : a1 = 4
          · rw [if_pos c7] at h
            refine lv_tableIn (tgt := 81) (off := 80) hx hb dX6_count_1 (by rw [c7]; decide) (by rw [c7]; decide) (by rw [c7]; rfl) (by decide) ?_
            refine lv_aload_n hx hb dX6_count_81 rfl (lv_at hl 0 rfl) ?_
            refine wd_getR CF hE hW fl_X6_25 sh_0 rf_0_2 rfl dX6_count_82 ?_
            refine lv_iconst (v := 1) hx hb dX6_count_85 (by decide) ?_
            obtain ⟨x8, ex8, h⟩ := bdE h
            refine wd_callVr (ci := 3) (k := 4) CF hE hW hS (x_X3_thoseWho l X 4 room_4 1 D ex8) mi_X3_thoseWho vi_X3_thoseWho tw459 ⟨by decide, rfl⟩ (rm_s room_4) ⟨rfl, rfl, Nat.le_of_ble_eq_true rfl, Nat.le_of_ble_eq_true rfl⟩ rfl hl.1 rfl (Nat.le_of_ble_eq_true rfl) dX6_count_86 ⟨Nat.le_of_ble_eq_true rfl, Nat.le_of_ble_eq_true rfl⟩ (fun H locs hW hS => ?_)
            refine wd_callSr CF hE hW hS (x_J6_bitCount_0f7a4 l X x8 D) mi_J6_bitCount_0f7a4 vi_J6_bitCount_0f7a4 tw469 ⟨rfl, rfl, Nat.le_of_ble_eq_true rfl, Nat.le_of_ble_eq_true rfl⟩ rfl hl.1 rfl (Nat.le_of_ble_eq_true rfl) dX6_count_89 ⟨Nat.le_of_ble_eq_true rfl, Nat.le_of_ble_eq_true rfl⟩ (fun H locs hW hS => ?_)
            have h := Option.some.inj h
            subst h
            exact wd_iret CF hret hlk hW hS dX6_count_92
          · rw [if_neg c7] at h
            by_cases c9 : a1 = 5
            · rw [if_pos c9] at h
              refine lv_tableIn (tgt := 93) (off := 92) hx hb dX6_count_1 (by rw [c9]; decide) (by rw [c9]; decide) (by rw [c9]; rfl) (by decide) ?_
              refine lv_aload_n hx hb dX6_count_93 rfl (lv_at hl 0 rfl) ?_
              refine wd_getR CF hE hW fl_X6_25 sh_0 rf_0_2 rfl dX6_count_94 ?_
              refine wd_get CF hE hW fl_X6_172 (rm_s room_4) (v := .int (gI D 4 5)) rfl dX6_count_97 ?_
              refine wd_callSr CF hE hW hS (x_J6_bitCount_0f7a4 l X (gI D 4 5) D) mi_J6_bitCount_0f7a4 vi_J6_bitCount_0f7a4 tw469 ⟨rfl, rfl, Nat.le_of_ble_eq_true rfl, Nat.le_of_ble_eq_true rfl⟩ rfl hl.1 rfl (Nat.le_of_ble_eq_true rfl) dX6_count_100 ⟨Nat.le_of_ble_eq_true rfl, Nat.le_of_ble_eq_true rfl⟩ (fun H locs hW hS => ?_)
              have h := Option.some.inj h
              subst h
              exact wd_iret CF hret hlk hW hS dX6_count_103
            · rw [if_neg c9] at h
              by_cases c10 : a1 = 6
              · rw [if_pos c10] at h
                refine lv_tableIn (tgt := 104) (off := 103) hx hb dX6_count_1 (by rw [c10]; decide) (by rw [c10]; decide) (by rw [c10]; rfl) (by decide) ?_
                refine lv_aload_n hx hb dX6_count_104 rfl (lv_at hl 0 rfl) ?_
                refine wd_getR CF hE hW fl_X6_39 sh_0 rf_0_5 rfl dX6_count_105 ?_
                refine wd_get CF hE hW fl_X6_134 sh_23 (v := .int (gI D 23 2)) rfl dX6_count_108 ?_
                have h := Option.some.inj h
                subst h
                exact wd_iret CF hret hlk hW hS dX6_count_111
              · rw [if_neg c10] at h
                by_cases c11 : a1 = 7
                · rw [if_pos c11] at h
                  refine lv_tableIn (tgt := 112) (off := 111) hx hb dX6_count_1 (by rw [c11]; decide) (by rw [c11]; decide) (by rw [c11]; rfl) (by decide) ?_
                  refine lv_aload_n hx hb dX6_count_112 rfl (lv_at hl 0 rfl) ?_
                  refine wd_getR CF hE hW fl_X6_18 sh_0 rf_0_1 rfl dX6_count_113 ?_
                  refine wd_get CF hE hW fl_X6_106 sh_2 (v := .int (gI D 2 1)) rfl dX6_count_116 ?_
                  have h := Option.some.inj h
                  subst h
                  exact wd_iret CF hret hlk hW hS dX6_count_119
                · rw [if_neg c11] at h
                  have ic1 := lv_neT (a := 0) c1 (by decide)
                  have ic3 := lv_neT (a := 1) c3 (by decide)
                  have ic4 := lv_neT (a := 2) c4 (by decide)
                  have ic5 := lv_neT (a := 3) c5 (by decide)
                  have ic7 := lv_neT (a := 4) c7 (by decide)
                  have ic9 := lv_neT (a := 5) c9 (by decide)
                  have ic10 := lv_neT (a := 6) c10 (by decide)
                  have ic11 := lv_neT (a := 7) c11 (by decide)
                  refine lv_tableOut (tgt := 120) hx hb dX6_count_1 (by omega) (by decide) ?_
                  refine lv_ldc (v := (-1000001)) hx hb hown (hts _ tw268) dX6_count_120 ?_
                  have h := Option.some.inj h
                  subst h
                  exact wd_iret CF hret hlk hW hS dX6_count_122
def f_X6_status  (D : wd_D) : Int32 := (gI D 0 9)
set_option maxHeartbeats 4000000 in
set_option maxRecDepth 100000 in
theorem x_X6_status (l : Launch) (X : wd_X)  (D : wd_D) : wd_Met l X yX6_status cX6_status 1 (some FieldType.int) ({ frames := 0, cells := 0, slots := 0, locals := 0 }) S0 S0 ([.ref (X.2.2.1 + 0)] : List Value) D D (some (.int (f_X6_status  D))) 0 0 := by
  obtain ⟨rv, h⟩ : ∃ rv, f_X6_status  D = rv := ⟨_, rfl⟩
  rw [h]
  refine wd_enter (by decide) (Nat.le_of_ble_eq_true rfl) ?_
  intro p e s m below meth c CF hret hlk hnm hW hE ls hl
  have CF : CallFix p m c cX6_status 1 s ([.ref (X.2.2.1 + 0)] : List Value).toArray tg RX6 := CF
  have hx := CF.1
  have hb := CF.2.1
  have hown := CF.2.2.2.1
  have hts := CF.2.2.2.2
  have hS : va_S (wd_A X) s.heap s.heap [] := va_S.rf
  have hl : lv_has ls 1 [(0, .ref (X.2.2.1 + 0))] := hl
  unfold f_X6_status at h
  refine lv_aload_n hx hb dX6_status_0 rfl (lv_at hl 0 rfl) ?_
  refine wd_get CF hE hW fl_X6_300 sh_0 (v := .int (gI D 0 9)) rfl dX6_status_1 ?_
  subst h
  exact wd_iret CF hret hlk hW hS dX6_status_4
