/-! X6_found, X6_foundNothing, X6_row, X6_set, X6_copy, X6_drop, X6_feed, X6_room, X6_fault, X6_undo, X6_noRoom, X6_minutes, X6_noChild, X6_hand, X6_carry, X6_change, X6_lorry, X6_need, X6_child, X6_stand, X6_ahead, X6_noise, X6_asleep, X6_allAsleep -/
def f_X6_found (a1 : Int32) (D : wd_D) : Int32 × wd_D := ap (sI D 0 9 a1) (fun D1 => ((-1000010) - a1, D1))
set_option maxHeartbeats 4000000 in
set_option maxRecDepth 100000 in
theorem x_X6_found (l : Launch) (X : wd_X) (a1 : Int32) (D : wd_D) {qv : Int32 × wd_D} (h : f_X6_found a1 D = qv) : wd_Met l X yX6_found cX6_found 2 (some FieldType.int) ({ frames := 0, cells := 0, slots := 0, locals := 0 }) S0 S0 ([.ref (X.2.2.1 + 0), .int a1] : List Value) D qv.2 (some (.int qv.1)) 0 0 := by
  refine wd_enter (by decide) (Nat.le_of_ble_eq_true rfl) ?_
  intro p e s m below meth c CF hret hlk hnm hW hE ls hl
  have CF : CallFix p m c cX6_found 2 s ([.ref (X.2.2.1 + 0), .int a1] : List Value).toArray tg RX6 := CF
  have hx := CF.1
  have hb := CF.2.1
  have hown := CF.2.2.2.1
  have hts := CF.2.2.2.2
  have hS : va_S (wd_A X) s.heap s.heap [] := va_S.rf
  have hl : lv_has ls 2 [(0, .ref (X.2.2.1 + 0)), (1, .int a1)] := hl
  unfold f_X6_found at h
  refine lv_aload_n hx hb dX6_found_0 rfl (lv_at hl 0 rfl) ?_
  refine lv_iload_n hx hb dX6_found_1 rfl (lv_at hl 1 rfl) ?_
  refine wd_putI CF hE hW hS fl_X6_300 sh_0 rfl rfl dX6_found_2 (fun D1 H locs eD1 hW hS => ?_)
  replace h := apR eD1 h
  refine lv_ldcw (v := (-1000010)) hx hb hown (hts _ tw273) dX6_found_5 ?_
  refine lv_iload_n hx hb dX6_found_8 rfl (lv_at hl 1 rfl) ?_
  refine lv_isub hx hb dX6_found_9 ?_
  subst h
  exact wd_iret CF hret hlk hW hS dX6_found_10
def f_X6_foundNothing (a1 : Int32) (D : wd_D) : Int32 × wd_D := ap (sI D 0 9 0) (fun D1 => (a1, D1))
set_option maxHeartbeats 4000000 in
set_option maxRecDepth 100000 in
theorem x_X6_foundNothing (l : Launch) (X : wd_X) (a1 : Int32) (D : wd_D) {qv : Int32 × wd_D} (h : f_X6_foundNothing a1 D = qv) : wd_Met l X yX6_foundNothing cX6_foundNothing 2 (some FieldType.int) ({ frames := 0, cells := 0, slots := 0, locals := 0 }) S0 S0 ([.ref (X.2.2.1 + 0), .int a1] : List Value) D qv.2 (some (.int qv.1)) 0 0 := by
  refine wd_enter (by decide) (Nat.le_of_ble_eq_true rfl) ?_
  intro p e s m below meth c CF hret hlk hnm hW hE ls hl
  have CF : CallFix p m c cX6_foundNothing 2 s ([.ref (X.2.2.1 + 0), .int a1] : List Value).toArray tg RX6 := CF
  have hx := CF.1
  have hb := CF.2.1
  have hown := CF.2.2.2.1
  have hts := CF.2.2.2.2
  have hS : va_S (wd_A X) s.heap s.heap [] := va_S.rf
  have hl : lv_has ls 2 [(0, .ref (X.2.2.1 + 0)), (1, .int a1)] := hl
  unfold f_X6_foundNothing at h
  refine lv_aload_n hx hb dX6_foundNothing_0 rfl (lv_at hl 0 rfl) ?_
  refine lv_iconst (v := 0) hx hb dX6_foundNothing_1 (by decide) ?_
  refine wd_putI CF hE hW hS fl_X6_300 sh_0 rfl rfl dX6_foundNothing_2 (fun D1 H locs eD1 hW hS => ?_)
  replace h := apR eD1 h
  refine lv_iload_n hx hb dX6_foundNothing_5 rfl (lv_at hl 1 rfl) ?_
  subst h
  exact wd_iret CF hret hlk hW hS dX6_foundNothing_6
def f_X6_row (a1 : Int32) (a2 : Int32) (a3 : Int32) (D : wd_D) : Option (Int32 × wd_D) := (if (f_X6_noRow a1) = 0 then (if (f_X6_beyond a2 0 2) = 0 then (if a3 ≤ 40 then (if 0 ≤ a3 then (ix 8 a1).bind (fun k5 => (f_X4_begin (336 + 2 * k5) a2 a3 D).bind (fun q6 => ap (f_X6_foundNothing a3 q6) (fun q7 => some (q7.1, q7.2)))) else ap (f_X6_found 4 D) (fun q8 => some (q8.1, q8.2))) else some ((-1000001), D)) else some ((-1000001), D)) else some ((-1000001), D))
set_option maxHeartbeats 4000000 in
set_option maxRecDepth 100000 in
theorem x_X6_row (l : Launch) (X : wd_X) (a1 : Int32) (a2 : Int32) (a3 : Int32) (D : wd_D) {qv : Int32 × wd_D} (h : f_X6_row a1 a2 a3 D = some qv) : wd_Met l X yX6_row cX6_row 4 (some FieldType.int) ({ frames := 1, cells := 0, slots := 0, locals := 100 }) S0 S0 ([.ref (X.2.2.1 + 0), .int a1, .int a2, .int a3] : List Value) D qv.2 (some (.int qv.1)) 0 0 := by
  refine wd_enter (by decide) (Nat.le_of_ble_eq_true rfl) ?_
  intro p e s m below meth c CF hret hlk hnm hW hE ls hl
  have CF : CallFix p m c cX6_row 4 s ([.ref (X.2.2.1 + 0), .int a1, .int a2, .int a3] : List Value).toArray tg RX6 := CF
  have hx := CF.1
  have hb := CF.2.1
  have hown := CF.2.2.2.1
  have hts := CF.2.2.2.2
  have hS : va_S (wd_A X) s.heap s.heap [] := va_S.rf
  have hl : lv_has ls 4 [(0, .ref (X.2.2.1 + 0)), (1, .int a1), (2, .int a2), (3, .int a3)] := hl
  unfold f_X6_row at h
  refine lv_iload_n hx hb dX6_row_0 rfl (lv_at hl 1 rfl) ?_
  refine wd_callSr CF hE hW hS (x_X6_noRow l X a1 D) mi_X6_noRow vi_X6_noRow tw262 ⟨rfl, rfl, Nat.le_of_ble_eq_true rfl, Nat.le_of_ble_eq_true rfl⟩ rfl hl.1 rfl (Nat.le_of_ble_eq_true rfl) dX6_row_1 ⟨Nat.le_of_ble_eq_true rfl, Nat.le_of_ble_eq_true rfl⟩ (fun H locs hW hS => ?_)
  refine lv_if_ne (tgt := 22) hx hb dX6_row_4 (by decide) (fun c1 => ?_) (fun c1 => ?_)
  · rw [if_neg c1] at h
    refine lv_ldc (v := (-1000001)) hx hb hown (hts _ tw268) dX6_row_22 ?_
    have h := Option.some.inj h
    subst h
    exact wd_iret CF hret hlk hW hS dX6_row_24
  · rw [if_pos c1] at h
    refine lv_iload_n hx hb dX6_row_7 rfl (lv_at hl 2 rfl) ?_
    refine lv_iconst (v := 0) hx hb dX6_row_8 (by decide) ?_
    refine lv_iconst (v := 2) hx hb dX6_row_9 (by decide) ?_
    refine wd_callSr CF hE hW hS (x_X6_beyond l X a2 0 2 D) mi_X6_beyond vi_X6_beyond tw265 ⟨rfl, rfl, Nat.le_of_ble_eq_true rfl, Nat.le_of_ble_eq_true rfl⟩ rfl hl.1 rfl (Nat.le_of_ble_eq_true rfl) dX6_row_10 ⟨Nat.le_of_ble_eq_true rfl, Nat.le_of_ble_eq_true rfl⟩ (fun H locs hW hS => ?_)
    refine lv_if_ne (tgt := 22) hx hb dX6_row_13 (by decide) (fun c2 => ?_) (fun c2 => ?_)
    · rw [if_neg c2] at h
      refine lv_ldc (v := (-1000001)) hx hb hown (hts _ tw268) dX6_row_22 ?_
      have h := Option.some.inj h
      subst h
      exact wd_iret CF hret hlk hW hS dX6_row_24
    · rw [if_pos c2] at h
      refine lv_iload_n hx hb dX6_row_16 rfl (lv_at hl 3 rfl) ?_
      refine lv_bipush (v := 40) hx hb dX6_row_17 (by decide) ?_
      refine lv_icmp_le (tgt := 25) hx hb dX6_row_19 (by decide) (fun c3 => ?_) (fun c3 => ?_)
      · rw [if_pos c3] at h
        refine lv_iload_n hx hb dX6_row_25 rfl (lv_at hl 3 rfl) ?_
        refine lv_if_ge (tgt := 35) hx hb dX6_row_26 (by decide) (fun c4 => ?_) (fun c4 => ?_)
        · rw [if_pos c4] at h
          refine lv_aload_n hx hb dX6_row_35 rfl (lv_at hl 0 rfl) ?_
          refine wd_getR CF hE hW fl_X6_11 sh_0 rf_0_0 rfl dX6_row_36 ?_
          refine lv_iload_n hx hb dX6_row_39 rfl (lv_at hl 1 rfl) ?_
          obtain ⟨k5, ek5, h⟩ := bdE h
          have gk5 := rfa_1 k5 (ix_lt ek5)
          refine wd_aald3 CF hE hW sh_1 ek5 gk5.1 dX6_row_40 ?_
          refine lv_iload_n hx hb dX6_row_41 rfl (lv_at hl 2 rfl) ?_
          refine lv_iload_n hx hb dX6_row_42 rfl (lv_at hl 3 rfl) ?_
          obtain ⟨q6, eq6, h⟩ := bdE h
          refine wd_callVv (ci := 4) (k := (336 + 2 * k5)) CF hE hW hS (x_X4_begin l X (336 + 2 * k5) gk5.2 a2 a3 D eq6) mi_X4_begin vi_X4_begin tw274 ⟨by decide, rfl⟩ (rw_s gk5.2) ⟨rfl, rfl, Nat.le_of_ble_eq_true rfl, Nat.le_of_ble_eq_true rfl⟩ rfl hl.1 rfl (Nat.le_of_ble_eq_true rfl) dX6_row_43 ⟨Nat.le_of_ble_eq_true rfl, Nat.le_of_ble_eq_true rfl⟩ (fun H locs hW hS => ?_)
          refine lv_aload_n hx hb dX6_row_46 rfl (lv_at hl 0 rfl) ?_
          refine lv_iload_n hx hb dX6_row_47 rfl (lv_at hl 3 rfl) ?_
          obtain ⟨q7, eq7⟩ : ∃ q, q = f_X6_foundNothing a3 q6 := ⟨_, rfl⟩
          replace h := apR eq7 h
          refine wd_callVr (ci := 6) (k := 0) CF hE hW hS (x_X6_foundNothing l X a3 q6 eq7.symm) mi_X6_foundNothing vi_X6_foundNothing tw278 ⟨by decide, rfl⟩ sh_0 ⟨rfl, rfl, Nat.le_of_ble_eq_true rfl, Nat.le_of_ble_eq_true rfl⟩ rfl hl.1 rfl (Nat.le_of_ble_eq_true rfl) dX6_row_48 ⟨Nat.le_of_ble_eq_true rfl, Nat.le_of_ble_eq_true rfl⟩ (fun H locs hW hS => ?_)
          have h := Option.some.inj h
          subst h
          exact wd_iret CF hret hlk hW hS dX6_row_51
        · rw [if_neg c4] at h
          refine lv_aload_n hx hb dX6_row_29 rfl (lv_at hl 0 rfl) ?_
          refine lv_iconst (v := 4) hx hb dX6_row_30 (by decide) ?_
          obtain ⟨q8, eq8⟩ : ∃ q, q = f_X6_found 4 D := ⟨_, rfl⟩
          replace h := apR eq8 h
          refine wd_callVr (ci := 6) (k := 0) CF hE hW hS (x_X6_found l X 4 D eq8.symm) mi_X6_found vi_X6_found tw269 ⟨by decide, rfl⟩ sh_0 ⟨rfl, rfl, Nat.le_of_ble_eq_true rfl, Nat.le_of_ble_eq_true rfl⟩ rfl hl.1 rfl (Nat.le_of_ble_eq_true rfl) dX6_row_31 ⟨Nat.le_of_ble_eq_true rfl, Nat.le_of_ble_eq_true rfl⟩ (fun H locs hW hS => ?_)
          have h := Option.some.inj h
          subst h
          exact wd_iret CF hret hlk hW hS dX6_row_34
      · rw [if_neg c3] at h
        refine lv_ldc (v := (-1000001)) hx hb hown (hts _ tw268) dX6_row_22 ?_
        have h := Option.some.inj h
        subst h
        exact wd_iret CF hret hlk hW hS dX6_row_24
def f_X6_set (a1 : Int32) (a2 : Int32) (a3 : Int32) (D : wd_D) : Option (Int32 × wd_D) := (if (f_X6_noRow a1) = 0 then (ix 8 a1).bind (fun k2 => ap (f_X4_findingFor (336 + 2 * k2) a2 1 D) (fun x3 => (if x3 = 0 then (ix 8 a1).bind (fun k5 => (ix 8 a1).bind (fun k6 => (wr 40 D ((336 + 2 * k5) + 1) a2 (f_X4_narrowed (336 + 2 * k6) a3 D)).bind (fun D7 => (ix 8 a1).bind (fun k8 => (rd 40 D7 ((336 + 2 * k8) + 1) a2).bind (fun x9 => ap (f_X6_foundNothing x9 D7) (fun q10 => some (q10.1, q10.2))))))) else ap (f_X6_found x3 D) (fun q11 => some (q11.1, q11.2))))) else some ((-1000001), D))
set_option maxHeartbeats 4000000 in
set_option maxRecDepth 100000 in
theorem x_X6_set (l : Launch) (X : wd_X) (a1 : Int32) (a2 : Int32) (a3 : Int32) (D : wd_D) {qv : Int32 × wd_D} (h : f_X6_set a1 a2 a3 D = some qv) : wd_Met l X yX6_set cX6_set 5 (some FieldType.int) ({ frames := 2, cells := 0, slots := 0, locals := 200 }) S0 S0 ([.ref (X.2.2.1 + 0), .int a1, .int a2, .int a3] : List Value) D qv.2 (some (.int qv.1)) 0 0 := by
  refine wd_enter (by decide) (Nat.le_of_ble_eq_true rfl) ?_
  intro p e s m below meth c CF hret hlk hnm hW hE ls hl
  have CF : CallFix p m c cX6_set 5 s ([.ref (X.2.2.1 + 0), .int a1, .int a2, .int a3] : List Value).toArray tg RX6 := CF
  have hx := CF.1
  have hb := CF.2.1
  have hown := CF.2.2.2.1
  have hts := CF.2.2.2.2
  have hS : va_S (wd_A X) s.heap s.heap [] := va_S.rf
  have hl : lv_has ls 5 [(0, .ref (X.2.2.1 + 0)), (1, .int a1), (2, .int a2), (3, .int a3)] := hl
  unfold f_X6_set at h
  refine lv_iload_n hx hb dX6_set_0 rfl (lv_at hl 1 rfl) ?_
  refine wd_callSr CF hE hW hS (x_X6_noRow l X a1 D) mi_X6_noRow vi_X6_noRow tw262 ⟨rfl, rfl, Nat.le_of_ble_eq_true rfl, Nat.le_of_ble_eq_true rfl⟩ rfl hl.1 rfl (Nat.le_of_ble_eq_true rfl) dX6_set_1 ⟨Nat.le_of_ble_eq_true rfl, Nat.le_of_ble_eq_true rfl⟩ (fun H locs hW hS => ?_)
  refine lv_if_eq (tgt := 10) hx hb dX6_set_4 (by decide) (fun c1 => ?_) (fun c1 => ?_)
  · rw [if_pos c1] at h
    refine lv_aload_n hx hb dX6_set_10 rfl (lv_at hl 0 rfl) ?_
    refine wd_getR CF hE hW fl_X6_11 sh_0 rf_0_0 rfl dX6_set_11 ?_
    refine lv_iload_n hx hb dX6_set_14 rfl (lv_at hl 1 rfl) ?_
    obtain ⟨k2, ek2, h⟩ := bdE h
    have gk2 := rfa_1 k2 (ix_lt ek2)
    refine wd_aald3 CF hE hW sh_1 ek2 gk2.1 dX6_set_15 ?_
    refine lv_iload_n hx hb dX6_set_16 rfl (lv_at hl 2 rfl) ?_
    refine lv_iconst (v := 1) hx hb dX6_set_17 (by decide) ?_
    refine wd_callVr (ci := 4) (k := (336 + 2 * k2)) CF hE hW hS (x_X4_findingFor l X (336 + 2 * k2) gk2.2 a2 1 D) mi_X4_findingFor vi_X4_findingFor tw286 ⟨by decide, rfl⟩ (rw_s gk2.2) ⟨rfl, rfl, Nat.le_of_ble_eq_true rfl, Nat.le_of_ble_eq_true rfl⟩ rfl hl.1 rfl (Nat.le_of_ble_eq_true rfl) dX6_set_18 ⟨Nat.le_of_ble_eq_true rfl, Nat.le_of_ble_eq_true rfl⟩ (fun H locs hW hS => ?_)
    refine lv_topi (fun x3 ex3 => ?_)
    replace h := apR ex3 h
    refine lv_istore (lv' := [(4, .int x3), (0, .ref (X.2.2.1 + 0)), (1, .int a1), (2, .int a2), (3, .int a3)]) hx hb dX6_set_21 hl (by decide) rfl (fun ls hl => ?_)
    refine lv_iload hx hb dX6_set_23 (lv_at hl 0 rfl) ?_
    refine lv_if_eq (tgt := 35) hx hb dX6_set_25 (by decide) (fun c4 => ?_) (fun c4 => ?_)
    · rw [if_pos c4] at h
      refine lv_aload_n hx hb dX6_set_35 rfl (lv_at hl 1 rfl) ?_
      refine wd_getR CF hE hW fl_X6_11 sh_0 rf_0_0 rfl dX6_set_36 ?_
      refine lv_iload_n hx hb dX6_set_39 rfl (lv_at hl 2 rfl) ?_
      obtain ⟨k5, ek5, h⟩ := bdE h
      have gk5 := rfa_1 k5 (ix_lt ek5)
      refine wd_aald3 CF hE hW sh_1 ek5 gk5.1 dX6_set_40 ?_
      refine wd_getR CF hE hW fl_X6_82 (rw_s gk5.2) (rw_r0 gk5.2) rfl dX6_set_41 ?_
      refine lv_iload_n hx hb dX6_set_44 rfl (lv_at hl 3 rfl) ?_
      refine lv_aload_n hx hb dX6_set_45 rfl (lv_at hl 1 rfl) ?_
      refine wd_getR CF hE hW fl_X6_11 sh_0 rf_0_0 rfl dX6_set_46 ?_
      refine lv_iload_n hx hb dX6_set_49 rfl (lv_at hl 2 rfl) ?_
      obtain ⟨k6, ek6, h⟩ := bdE h
      have gk6 := rfa_1 k6 (ix_lt ek6)
      refine wd_aald3 CF hE hW sh_1 ek6 gk6.1 dX6_set_50 ?_
      refine lv_iload_n hx hb dX6_set_51 rfl (lv_at hl 4 rfl) ?_
      refine wd_callVr (ci := 4) (k := (336 + 2 * k6)) CF hE hW hS (x_X4_narrowed l X (336 + 2 * k6) gk6.2 a3 D) mi_X4_narrowed vi_X4_narrowed tw294 ⟨by decide, rfl⟩ (rw_s gk6.2) ⟨rfl, rfl, Nat.le_of_ble_eq_true rfl, Nat.le_of_ble_eq_true rfl⟩ rfl hl.1 rfl (Nat.le_of_ble_eq_true rfl) dX6_set_52 ⟨Nat.le_of_ble_eq_true rfl, Nat.le_of_ble_eq_true rfl⟩ (fun H locs hW hS => ?_)
      obtain ⟨D7, eD7, h⟩ := bdE h
      refine wd_iast CF hE hW hS (rw_a0 gk5.2) eD7 dX6_set_55 (fun H locs hW hS => ?_)
      refine lv_aload_n hx hb dX6_set_56 rfl (lv_at hl 1 rfl) ?_
      refine lv_aload_n hx hb dX6_set_57 rfl (lv_at hl 1 rfl) ?_
      refine wd_getR CF hE hW fl_X6_11 sh_0 rf_0_0 rfl dX6_set_58 ?_
      refine lv_iload_n hx hb dX6_set_61 rfl (lv_at hl 2 rfl) ?_
      obtain ⟨k8, ek8, h⟩ := bdE h
      have gk8 := rfa_1 k8 (ix_lt ek8)
      refine wd_aald3 CF hE hW sh_1 ek8 gk8.1 dX6_set_62 ?_
      refine wd_getR CF hE hW fl_X6_82 (rw_s gk8.2) (rw_r0 gk8.2) rfl dX6_set_63 ?_
      refine lv_iload_n hx hb dX6_set_66 rfl (lv_at hl 3 rfl) ?_
      obtain ⟨x9, ex9, h⟩ := bdE h
      refine wd_iald CF hE hW (rw_a0 gk8.2) ex9 dX6_set_67 ?_
      obtain ⟨q10, eq10⟩ : ∃ q, q = f_X6_foundNothing x9 D7 := ⟨_, rfl⟩
      replace h := apR eq10 h
      refine wd_callVr (ci := 6) (k := 0) CF hE hW hS (x_X6_foundNothing l X x9 D7 eq10.symm) mi_X6_foundNothing vi_X6_foundNothing tw278 ⟨by decide, rfl⟩ sh_0 ⟨rfl, rfl, Nat.le_of_ble_eq_true rfl, Nat.le_of_ble_eq_true rfl⟩ rfl hl.1 rfl (Nat.le_of_ble_eq_true rfl) dX6_set_68 ⟨Nat.le_of_ble_eq_true rfl, Nat.le_of_ble_eq_true rfl⟩ (fun H locs hW hS => ?_)
      have h := Option.some.inj h
      subst h
      exact wd_iret CF hret hlk hW hS dX6_set_71
    · rw [if_neg c4] at h
      refine lv_aload_n hx hb dX6_set_28 rfl (lv_at hl 1 rfl) ?_
      refine lv_iload hx hb dX6_set_29 (lv_at hl 0 rfl) ?_
      obtain ⟨q11, eq11⟩ : ∃ q, q = f_X6_found x3 D := ⟨_, rfl⟩
      replace h := apR eq11 h
      refine wd_callVr (ci := 6) (k := 0) CF hE hW hS (x_X6_found l X x3 D eq11.symm) mi_X6_found vi_X6_found tw269 ⟨by decide, rfl⟩ sh_0 ⟨rfl, rfl, Nat.le_of_ble_eq_true rfl, Nat.le_of_ble_eq_true rfl⟩ rfl hl.1 rfl (Nat.le_of_ble_eq_true rfl) dX6_set_31 ⟨Nat.le_of_ble_eq_true rfl, Nat.le_of_ble_eq_true rfl⟩ (fun H locs hW hS => ?_)
      have h := Option.some.inj h
      subst h
      exact wd_iret CF hret hlk hW hS dX6_set_34
  · rw [if_neg c1] at h
    refine lv_ldc (v := (-1000001)) hx hb hown (hts _ tw268) dX6_set_7 ?_
    have h := Option.some.inj h
    subst h
    exact wd_iret CF hret hlk hW hS dX6_set_9
def f_X6_copy_L107  (a1 : Int32) (a2 : Int32) (a3 : Int32) (a4 : Int32) (a5 : Int32) (D : wd_D) : Option (Int32 × wd_D) := ap (f_X6_found 2 D) (fun q20 => some (q20.1, q20.2))
def f_X6_copy_L43  (a1 : Int32) (a2 : Int32) (a3 : Int32) (a4 : Int32) (a5 : Int32) (D : wd_D) : Option (Int32 × wd_D) := ap (f_X6_found 1 D) (fun q19 => some (q19.1, q19.2))
def f_X6_copy (a1 : Int32) (a2 : Int32) (a3 : Int32) (a4 : Int32) (a5 : Int32) (D : wd_D) : Option (Int32 × wd_D) := (if (f_X6_noRow a1) = 0 then (if (f_X6_noRow a3) = 0 then (ix 8 a1).bind (fun k3 => (if (gI D (336 + 2 * k3) 1) = (-1) then f_X6_copy_L43 a1 a2 a3 a4 a5 D else (ix 8 a3).bind (fun k5 => (if (gI D (336 + 2 * k5) 1) = (-1) then f_X6_copy_L43 a1 a2 a3 a4 a5 D else (ix 8 a1).bind (fun k7 => (ix 8 a3).bind (fun k8 => (if (gI D (336 + 2 * k7) 1) = (gI D (336 + 2 * k8) 1) then (ix 8 a1).bind (fun k10 => (if (f_X4_lacks (336 + 2 * k10) a2 a5 D) = 0 then (ix 8 a3).bind (fun k12 => (if (f_X4_lacks (336 + 2 * k12) a4 a5 D) = 0 then (ix 8 a1).bind (fun k14 => (ix 8 a3).bind (fun k15 => (cp 40 40 D ((336 + 2 * k14) + 1) a2 ((336 + 2 * k15) + 1) a4 a5).bind (fun D16 => ap (f_X6_foundNothing a5 D16) (fun q17 => some (q17.1, q17.2))))) else f_X6_copy_L107 a1 a2 a3 a4 a5 D)) else f_X6_copy_L107 a1 a2 a3 a4 a5 D)) else ap (f_X6_found 5 D) (fun q18 => some (q18.1, q18.2))))))))) else some ((-1000001), D)) else some ((-1000001), D))
set_option maxHeartbeats 4000000 in
set_option maxRecDepth 100000 in
theorem x_X6_copy (l : Launch) (X : wd_X) (a1 : Int32) (a2 : Int32) (a3 : Int32) (a4 : Int32) (a5 : Int32) (D : wd_D) {qv : Int32 × wd_D} (h : f_X6_copy a1 a2 a3 a4 a5 D = some qv) : wd_Met l X yX6_copy cX6_copy 6 (some FieldType.int) ({ frames := 1, cells := 0, slots := 0, locals := 100 }) S0 S0 ([.ref (X.2.2.1 + 0), .int a1, .int a2, .int a3, .int a4, .int a5] : List Value) D qv.2 (some (.int qv.1)) 0 0 := by
  refine wd_enter (by decide) (Nat.le_of_ble_eq_true rfl) ?_
  intro p e s m below meth c CF hret hlk hnm hW hE ls hl
  have CF : CallFix p m c cX6_copy 6 s ([.ref (X.2.2.1 + 0), .int a1, .int a2, .int a3, .int a4, .int a5] : List Value).toArray tg RX6 := CF
  have hx := CF.1
  have hb := CF.2.1
  have hown := CF.2.2.2.1
  have hts := CF.2.2.2.2
  have hS : va_S (wd_A X) s.heap s.heap [] := va_S.rf
  have hl : lv_has ls 6 [(0, .ref (X.2.2.1 + 0)), (1, .int a1), (2, .int a2), (3, .int a3), (4, .int a4), (5, .int a5)] := hl
  unfold f_X6_copy at h
  have hL107 : ∀  (D : wd_D) (H : Heap) (locs : List Loc) (ls : Array Slot), Wd X S0 D H → va_S (wd_A X) s.heap H locs → lv_has ls 6 [(0, .ref (X.2.2.1 + 0))] → f_X6_copy_L107 a1 a2 a3 a4 a5 D = some qv → W p l e ({ frames := 1, cells := 0, slots := 0, locals := 100 }) s m ([.ref (X.2.2.1 + 0), .int a1, .int a2, .int a3, .int a4, .int a5] : List Value).toArray below meth c H locs 0 0 (MQ below (wd_Q X S0 qv.2 (some (.int qv.1))) ([.ref (X.2.2.1 + 0), .int a1, .int a2, .int a3, .int a4, .int a5] : List Value).toArray s 0 0 (wd_A X)) (F0 m 107 ls []) := by
    intro D H locs ls hW hS hl h
    unfold f_X6_copy_L107 at h
    refine lv_aload_n hx hb dX6_copy_107 rfl (lv_at hl 0 rfl) ?_
    refine lv_iconst (v := 2) hx hb dX6_copy_108 (by decide) ?_
    obtain ⟨q20, eq20⟩ : ∃ q, q = f_X6_found 2 D := ⟨_, rfl⟩
    replace h := apR eq20 h
    refine wd_callVr (ci := 6) (k := 0) CF hE hW hS (x_X6_found l X 2 D eq20.symm) mi_X6_found vi_X6_found tw269 ⟨by decide, rfl⟩ sh_0 ⟨rfl, rfl, Nat.le_of_ble_eq_true rfl, Nat.le_of_ble_eq_true rfl⟩ rfl hl.1 rfl (Nat.le_of_ble_eq_true rfl) dX6_copy_109 ⟨Nat.le_of_ble_eq_true rfl, Nat.le_of_ble_eq_true rfl⟩ (fun H locs hW hS => ?_)
    have h := Option.some.inj h
    subst h
    exact wd_iret CF hret hlk hW hS dX6_copy_112
  have hL43 : ∀  (D : wd_D) (H : Heap) (locs : List Loc) (ls : Array Slot), Wd X S0 D H → va_S (wd_A X) s.heap H locs → lv_has ls 6 [(0, .ref (X.2.2.1 + 0))] → f_X6_copy_L43 a1 a2 a3 a4 a5 D = some qv → W p l e ({ frames := 1, cells := 0, slots := 0, locals := 100 }) s m ([.ref (X.2.2.1 + 0), .int a1, .int a2, .int a3, .int a4, .int a5] : List Value).toArray below meth c H locs 0 0 (MQ below (wd_Q X S0 qv.2 (some (.int qv.1))) ([.ref (X.2.2.1 + 0), .int a1, .int a2, .int a3, .int a4, .int a5] : List Value).toArray s 0 0 (wd_A X)) (F0 m 43 ls []) := by
    intro D H locs ls hW hS hl h
    unfold f_X6_copy_L43 at h
    refine lv_aload_n hx hb dX6_copy_43 rfl (lv_at hl 0 rfl) ?_
    refine lv_iconst (v := 1) hx hb dX6_copy_44 (by decide) ?_
    obtain ⟨q19, eq19⟩ : ∃ q, q = f_X6_found 1 D := ⟨_, rfl⟩
    replace h := apR eq19 h
    refine wd_callVr (ci := 6) (k := 0) CF hE hW hS (x_X6_found l X 1 D eq19.symm) mi_X6_found vi_X6_found tw269 ⟨by decide, rfl⟩ sh_0 ⟨rfl, rfl, Nat.le_of_ble_eq_true rfl, Nat.le_of_ble_eq_true rfl⟩ rfl hl.1 rfl (Nat.le_of_ble_eq_true rfl) dX6_copy_45 ⟨Nat.le_of_ble_eq_true rfl, Nat.le_of_ble_eq_true rfl⟩ (fun H locs hW hS => ?_)
    have h := Option.some.inj h
    subst h
    exact wd_iret CF hret hlk hW hS dX6_copy_48
  refine lv_iload_n hx hb dX6_copy_0 rfl (lv_at hl 1 rfl) ?_
  refine wd_callSr CF hE hW hS (x_X6_noRow l X a1 D) mi_X6_noRow vi_X6_noRow tw262 ⟨rfl, rfl, Nat.le_of_ble_eq_true rfl, Nat.le_of_ble_eq_true rfl⟩ rfl hl.1 rfl (Nat.le_of_ble_eq_true rfl) dX6_copy_1 ⟨Nat.le_of_ble_eq_true rfl, Nat.le_of_ble_eq_true rfl⟩ (fun H locs hW hS => ?_)
  refine lv_if_ne (tgt := 14) hx hb dX6_copy_4 (by decide) (fun c1 => ?_) (fun c1 => ?_)
  · rw [if_neg c1] at h
    refine lv_ldc (v := (-1000001)) hx hb hown (hts _ tw268) dX6_copy_14 ?_
    have h := Option.some.inj h
    subst h
    exact wd_iret CF hret hlk hW hS dX6_copy_16
  · rw [if_pos c1] at h
    refine lv_iload_n hx hb dX6_copy_7 rfl (lv_at hl 3 rfl) ?_
    refine wd_callSr CF hE hW hS (x_X6_noRow l X a3 D) mi_X6_noRow vi_X6_noRow tw262 ⟨rfl, rfl, Nat.le_of_ble_eq_true rfl, Nat.le_of_ble_eq_true rfl⟩ rfl hl.1 rfl (Nat.le_of_ble_eq_true rfl) dX6_copy_8 ⟨Nat.le_of_ble_eq_true rfl, Nat.le_of_ble_eq_true rfl⟩ (fun H locs hW hS => ?_)
    refine lv_if_eq (tgt := 17) hx hb dX6_copy_11 (by decide) (fun c2 => ?_) (fun c2 => ?_)
    · rw [if_pos c2] at h
      refine lv_aload_n hx hb dX6_copy_17 rfl (lv_at hl 0 rfl) ?_
      refine wd_getR CF hE hW fl_X6_11 sh_0 rf_0_0 rfl dX6_copy_18 ?_
      refine lv_iload_n hx hb dX6_copy_21 rfl (lv_at hl 1 rfl) ?_
      obtain ⟨k3, ek3, h⟩ := bdE h
      have gk3 := rfa_1 k3 (ix_lt ek3)
      refine wd_aald3 CF hE hW sh_1 ek3 gk3.1 dX6_copy_22 ?_
      refine wd_get CF hE hW fl_X6_89 (rw_s gk3.2) (v := .int (gI D (336 + 2 * k3) 1)) rfl dX6_copy_23 ?_
      refine lv_iconst (v := (-1)) hx hb dX6_copy_26 (by decide) ?_
      refine lv_icmp_eq (tgt := 43) hx hb dX6_copy_27 (by decide) (fun c4 => ?_) (fun c4 => ?_)
      · rw [if_pos c4] at h
        exact hL43  D _ _ _  hW hS (lv_sub hl [0] rfl) h
      · rw [if_neg c4] at h
        refine lv_aload_n hx hb dX6_copy_30 rfl (lv_at hl 0 rfl) ?_
        refine wd_getR CF hE hW fl_X6_11 sh_0 rf_0_0 rfl dX6_copy_31 ?_
        refine lv_iload_n hx hb dX6_copy_34 rfl (lv_at hl 3 rfl) ?_
        obtain ⟨k5, ek5, h⟩ := bdE h
        have gk5 := rfa_1 k5 (ix_lt ek5)
        refine wd_aald3 CF hE hW sh_1 ek5 gk5.1 dX6_copy_35 ?_
        refine wd_get CF hE hW fl_X6_89 (rw_s gk5.2) (v := .int (gI D (336 + 2 * k5) 1)) rfl dX6_copy_36 ?_
        refine lv_iconst (v := (-1)) hx hb dX6_copy_39 (by decide) ?_
        refine lv_icmp_ne (tgt := 49) hx hb dX6_copy_40 (by decide) (fun c6 => ?_) (fun c6 => ?_)
        · rw [if_neg c6] at h
          refine lv_aload_n hx hb dX6_copy_49 rfl (lv_at hl 0 rfl) ?_
          refine wd_getR CF hE hW fl_X6_11 sh_0 rf_0_0 rfl dX6_copy_50 ?_
          refine lv_iload_n hx hb dX6_copy_53 rfl (lv_at hl 1 rfl) ?_
          obtain ⟨k7, ek7, h⟩ := bdE h
          have gk7 := rfa_1 k7 (ix_lt ek7)
          refine wd_aald3 CF hE hW sh_1 ek7 gk7.1 dX6_copy_54 ?_
          refine wd_get CF hE hW fl_X6_89 (rw_s gk7.2) (v := .int (gI D (336 + 2 * k7) 1)) rfl dX6_copy_55 ?_
          refine lv_aload_n hx hb dX6_copy_58 rfl (lv_at hl 0 rfl) ?_
          refine wd_getR CF hE hW fl_X6_11 sh_0 rf_0_0 rfl dX6_copy_59 ?_
          refine lv_iload_n hx hb dX6_copy_62 rfl (lv_at hl 3 rfl) ?_
          obtain ⟨k8, ek8, h⟩ := bdE h
          have gk8 := rfa_1 k8 (ix_lt ek8)
          refine wd_aald3 CF hE hW sh_1 ek8 gk8.1 dX6_copy_63 ?_
          refine wd_get CF hE hW fl_X6_89 (rw_s gk8.2) (v := .int (gI D (336 + 2 * k8) 1)) rfl dX6_copy_64 ?_
          refine lv_icmp_eq (tgt := 76) hx hb dX6_copy_67 (by decide) (fun c9 => ?_) (fun c9 => ?_)
          · rw [if_pos c9] at h
            refine lv_aload_n hx hb dX6_copy_76 rfl (lv_at hl 0 rfl) ?_
            refine wd_getR CF hE hW fl_X6_11 sh_0 rf_0_0 rfl dX6_copy_77 ?_
            refine lv_iload_n hx hb dX6_copy_80 rfl (lv_at hl 1 rfl) ?_
            obtain ⟨k10, ek10, h⟩ := bdE h
            have gk10 := rfa_1 k10 (ix_lt ek10)
            refine wd_aald3 CF hE hW sh_1 ek10 gk10.1 dX6_copy_81 ?_
            refine lv_iload_n hx hb dX6_copy_82 rfl (lv_at hl 2 rfl) ?_
            refine lv_iload hx hb dX6_copy_83 (lv_at hl 5 rfl) ?_
            refine wd_callVr (ci := 4) (k := (336 + 2 * k10)) CF hE hW hS (x_X4_lacks l X (336 + 2 * k10) gk10.2 a2 a5 D) mi_X4_lacks vi_X4_lacks tw302 ⟨by decide, rfl⟩ (rw_s gk10.2) ⟨rfl, rfl, Nat.le_of_ble_eq_true rfl, Nat.le_of_ble_eq_true rfl⟩ rfl hl.1 rfl (Nat.le_of_ble_eq_true rfl) dX6_copy_85 ⟨Nat.le_of_ble_eq_true rfl, Nat.le_of_ble_eq_true rfl⟩ (fun H locs hW hS => ?_)
            refine lv_if_ne (tgt := 107) hx hb dX6_copy_88 (by decide) (fun c11 => ?_) (fun c11 => ?_)
            · rw [if_neg c11] at h
              exact hL107  D _ _ _  hW hS (lv_sub hl [0] rfl) h
            · rw [if_pos c11] at h
              refine lv_aload_n hx hb dX6_copy_91 rfl (lv_at hl 0 rfl) ?_
              refine wd_getR CF hE hW fl_X6_11 sh_0 rf_0_0 rfl dX6_copy_92 ?_
              refine lv_iload_n hx hb dX6_copy_95 rfl (lv_at hl 3 rfl) ?_
              obtain ⟨k12, ek12, h⟩ := bdE h
              have gk12 := rfa_1 k12 (ix_lt ek12)
              refine wd_aald3 CF hE hW sh_1 ek12 gk12.1 dX6_copy_96 ?_
              refine lv_iload hx hb dX6_copy_97 (lv_at hl 4 rfl) ?_
              refine lv_iload hx hb dX6_copy_99 (lv_at hl 5 rfl) ?_
              refine wd_callVr (ci := 4) (k := (336 + 2 * k12)) CF hE hW hS (x_X4_lacks l X (336 + 2 * k12) gk12.2 a4 a5 D) mi_X4_lacks vi_X4_lacks tw302 ⟨by decide, rfl⟩ (rw_s gk12.2) ⟨rfl, rfl, Nat.le_of_ble_eq_true rfl, Nat.le_of_ble_eq_true rfl⟩ rfl hl.1 rfl (Nat.le_of_ble_eq_true rfl) dX6_copy_101 ⟨Nat.le_of_ble_eq_true rfl, Nat.le_of_ble_eq_true rfl⟩ (fun H locs hW hS => ?_)
              refine lv_if_eq (tgt := 113) hx hb dX6_copy_104 (by decide) (fun c13 => ?_) (fun c13 => ?_)
              · rw [if_pos c13] at h
                refine lv_aload_n hx hb dX6_copy_113 rfl (lv_at hl 0 rfl) ?_
                refine wd_getR CF hE hW fl_X6_11 sh_0 rf_0_0 rfl dX6_copy_114 ?_
                refine lv_iload_n hx hb dX6_copy_117 rfl (lv_at hl 1 rfl) ?_
                obtain ⟨k14, ek14, h⟩ := bdE h
                have gk14 := rfa_1 k14 (ix_lt ek14)
                refine wd_aald3 CF hE hW sh_1 ek14 gk14.1 dX6_copy_118 ?_
                refine wd_getR CF hE hW fl_X6_82 (rw_s gk14.2) (rw_r0 gk14.2) rfl dX6_copy_119 ?_
                refine lv_iload_n hx hb dX6_copy_122 rfl (lv_at hl 2 rfl) ?_
                refine lv_aload_n hx hb dX6_copy_123 rfl (lv_at hl 0 rfl) ?_
                refine wd_getR CF hE hW fl_X6_11 sh_0 rf_0_0 rfl dX6_copy_124 ?_
                refine lv_iload_n hx hb dX6_copy_127 rfl (lv_at hl 3 rfl) ?_
                obtain ⟨k15, ek15, h⟩ := bdE h
                have gk15 := rfa_1 k15 (ix_lt ek15)
                refine wd_aald3 CF hE hW sh_1 ek15 gk15.1 dX6_copy_128 ?_
                refine wd_getR CF hE hW fl_X6_82 (rw_s gk15.2) (rw_r0 gk15.2) rfl dX6_copy_129 ?_
                refine lv_iload hx hb dX6_copy_132 (lv_at hl 4 rfl) ?_
                refine lv_iload hx hb dX6_copy_134 (lv_at hl 5 rfl) ?_
                obtain ⟨D16, eD16, h⟩ := bdE h
                refine wd_copy CF hE hW hS hl.1 (rw_a0 gk14.2) (rw_a0 gk15.2) eD16 tw303 tw305 tw304 tw9 (Nat.le_of_ble_eq_true rfl) (by decide) dX6_copy_136 (fun H locs hW hS => ?_)
                refine lv_aload_n hx hb dX6_copy_139 rfl (lv_at hl 0 rfl) ?_
                refine lv_iload hx hb dX6_copy_140 (lv_at hl 5 rfl) ?_
                obtain ⟨q17, eq17⟩ : ∃ q, q = f_X6_foundNothing a5 D16 := ⟨_, rfl⟩
                replace h := apR eq17 h
                refine wd_callVr (ci := 6) (k := 0) CF hE hW hS (x_X6_foundNothing l X a5 D16 eq17.symm) mi_X6_foundNothing vi_X6_foundNothing tw278 ⟨by decide, rfl⟩ sh_0 ⟨rfl, rfl, Nat.le_of_ble_eq_true rfl, Nat.le_of_ble_eq_true rfl⟩ rfl hl.1 rfl (Nat.le_of_ble_eq_true rfl) dX6_copy_142 ⟨Nat.le_of_ble_eq_true rfl, Nat.le_of_ble_eq_true rfl⟩ (fun H locs hW hS => ?_)
                have h := Option.some.inj h
                subst h
                exact wd_iret CF hret hlk hW hS dX6_copy_145
              · rw [if_neg c13] at h
                exact hL107  D _ _ _  hW hS (lv_sub hl [0] rfl) h
          · rw [if_neg c9] at h
            refine lv_aload_n hx hb dX6_copy_70 rfl (lv_at hl 0 rfl) ?_
            refine lv_iconst (v := 5) hx hb dX6_copy_71 (by decide) ?_
            obtain ⟨q18, eq18⟩ : ∃ q, q = f_X6_found 5 D := ⟨_, rfl⟩
            replace h := apR eq18 h
            refine wd_callVr (ci := 6) (k := 0) CF hE hW hS (x_X6_found l X 5 D eq18.symm) mi_X6_found vi_X6_found tw269 ⟨by decide, rfl⟩ sh_0 ⟨rfl, rfl, Nat.le_of_ble_eq_true rfl, Nat.le_of_ble_eq_true rfl⟩ rfl hl.1 rfl (Nat.le_of_ble_eq_true rfl) dX6_copy_72 ⟨Nat.le_of_ble_eq_true rfl, Nat.le_of_ble_eq_true rfl⟩ (fun H locs hW hS => ?_)
            have h := Option.some.inj h
            subst h
            exact wd_iret CF hret hlk hW hS dX6_copy_75
        · rw [if_pos c6] at h
          exact hL43  D _ _ _  hW hS (lv_sub hl [0] rfl) h
    · rw [if_neg c2] at h
      refine lv_ldc (v := (-1000001)) hx hb hown (hts _ tw268) dX6_copy_14 ?_
      have h := Option.some.inj h
      subst h
      exact wd_iret CF hret hlk hW hS dX6_copy_16
def f_X6_drop (a1 : Int32) (D : wd_D) : Option (Int32 × wd_D) := (if (f_X6_noRow a1) = 0 then (ix 8 a1).bind (fun k2 => (if (gI D (336 + 2 * k2) 1) = (-1) then ap (f_X6_found 1 D) (fun q8 => some (q8.1, q8.2)) else (ix 8 a1).bind (fun k4 => ap (sI D (336 + 2 * k4) 1 (-1)) (fun D5 => (ix 8 a1).bind (fun k6 => ap (f_X6_foundNothing (gI D5 (336 + 2 * k6) 2) D5) (fun q7 => some (q7.1, q7.2))))))) else some ((-1000001), D))
set_option maxHeartbeats 4000000 in
set_option maxRecDepth 100000 in
theorem x_X6_drop (l : Launch) (X : wd_X) (a1 : Int32) (D : wd_D) {qv : Int32 × wd_D} (h : f_X6_drop a1 D = some qv) : wd_Met l X yX6_drop cX6_drop 2 (some FieldType.int) ({ frames := 1, cells := 0, slots := 0, locals := 100 }) S0 S0 ([.ref (X.2.2.1 + 0), .int a1] : List Value) D qv.2 (some (.int qv.1)) 0 0 := by
  refine wd_enter (by decide) (Nat.le_of_ble_eq_true rfl) ?_
  intro p e s m below meth c CF hret hlk hnm hW hE ls hl
  have CF : CallFix p m c cX6_drop 2 s ([.ref (X.2.2.1 + 0), .int a1] : List Value).toArray tg RX6 := CF
  have hx := CF.1
  have hb := CF.2.1
  have hown := CF.2.2.2.1
  have hts := CF.2.2.2.2
  have hS : va_S (wd_A X) s.heap s.heap [] := va_S.rf
  have hl : lv_has ls 2 [(0, .ref (X.2.2.1 + 0)), (1, .int a1)] := hl
  unfold f_X6_drop at h
  refine lv_iload_n hx hb dX6_drop_0 rfl (lv_at hl 1 rfl) ?_
  refine wd_callSr CF hE hW hS (x_X6_noRow l X a1 D) mi_X6_noRow vi_X6_noRow tw262 ⟨rfl, rfl, Nat.le_of_ble_eq_true rfl, Nat.le_of_ble_eq_true rfl⟩ rfl hl.1 rfl (Nat.le_of_ble_eq_true rfl) dX6_drop_1 ⟨Nat.le_of_ble_eq_true rfl, Nat.le_of_ble_eq_true rfl⟩ (fun H locs hW hS => ?_)
  refine lv_if_eq (tgt := 10) hx hb dX6_drop_4 (by decide) (fun c1 => ?_) (fun c1 => ?_)
  · rw [if_pos c1] at h
    refine lv_aload_n hx hb dX6_drop_10 rfl (lv_at hl 0 rfl) ?_
    refine wd_getR CF hE hW fl_X6_11 sh_0 rf_0_0 rfl dX6_drop_11 ?_
    refine lv_iload_n hx hb dX6_drop_14 rfl (lv_at hl 1 rfl) ?_
    obtain ⟨k2, ek2, h⟩ := bdE h
    have gk2 := rfa_1 k2 (ix_lt ek2)
    refine wd_aald3 CF hE hW sh_1 ek2 gk2.1 dX6_drop_15 ?_
    refine wd_get CF hE hW fl_X6_89 (rw_s gk2.2) (v := .int (gI D (336 + 2 * k2) 1)) rfl dX6_drop_16 ?_
    refine lv_iconst (v := (-1)) hx hb dX6_drop_19 (by decide) ?_
    refine lv_icmp_ne (tgt := 29) hx hb dX6_drop_20 (by decide) (fun c3 => ?_) (fun c3 => ?_)
    · rw [if_neg c3] at h
      refine lv_aload_n hx hb dX6_drop_29 rfl (lv_at hl 0 rfl) ?_
      refine wd_getR CF hE hW fl_X6_11 sh_0 rf_0_0 rfl dX6_drop_30 ?_
      refine lv_iload_n hx hb dX6_drop_33 rfl (lv_at hl 1 rfl) ?_
      obtain ⟨k4, ek4, h⟩ := bdE h
      have gk4 := rfa_1 k4 (ix_lt ek4)
      refine wd_aald3 CF hE hW sh_1 ek4 gk4.1 dX6_drop_34 ?_
      refine lv_iconst (v := (-1)) hx hb dX6_drop_35 (by decide) ?_
      refine wd_putI CF hE hW hS fl_X6_89 (rw_s gk4.2) rfl rfl dX6_drop_36 (fun D5 H locs eD5 hW hS => ?_)
      replace h := apR eD5 h
      refine lv_aload_n hx hb dX6_drop_39 rfl (lv_at hl 0 rfl) ?_
      refine lv_aload_n hx hb dX6_drop_40 rfl (lv_at hl 0 rfl) ?_
      refine wd_getR CF hE hW fl_X6_11 sh_0 rf_0_0 rfl dX6_drop_41 ?_
      refine lv_iload_n hx hb dX6_drop_44 rfl (lv_at hl 1 rfl) ?_
      obtain ⟨k6, ek6, h⟩ := bdE h
      have gk6 := rfa_1 k6 (ix_lt ek6)
      refine wd_aald3 CF hE hW sh_1 ek6 gk6.1 dX6_drop_45 ?_
      refine wd_get CF hE hW fl_X6_103 (rw_s gk6.2) (v := .int (gI D5 (336 + 2 * k6) 2)) rfl dX6_drop_46 ?_
      obtain ⟨q7, eq7⟩ : ∃ q, q = f_X6_foundNothing (gI D5 (336 + 2 * k6) 2) D5 := ⟨_, rfl⟩
      replace h := apR eq7 h
      refine wd_callVr (ci := 6) (k := 0) CF hE hW hS (x_X6_foundNothing l X (gI D5 (336 + 2 * k6) 2) D5 eq7.symm) mi_X6_foundNothing vi_X6_foundNothing tw278 ⟨by decide, rfl⟩ sh_0 ⟨rfl, rfl, Nat.le_of_ble_eq_true rfl, Nat.le_of_ble_eq_true rfl⟩ rfl hl.1 rfl (Nat.le_of_ble_eq_true rfl) dX6_drop_49 ⟨Nat.le_of_ble_eq_true rfl, Nat.le_of_ble_eq_true rfl⟩ (fun H locs hW hS => ?_)
      have h := Option.some.inj h
      subst h
      exact wd_iret CF hret hlk hW hS dX6_drop_52
    · rw [if_pos c3] at h
      refine lv_aload_n hx hb dX6_drop_23 rfl (lv_at hl 0 rfl) ?_
      refine lv_iconst (v := 1) hx hb dX6_drop_24 (by decide) ?_
      obtain ⟨q8, eq8⟩ : ∃ q, q = f_X6_found 1 D := ⟨_, rfl⟩
      replace h := apR eq8 h
      refine wd_callVr (ci := 6) (k := 0) CF hE hW hS (x_X6_found l X 1 D eq8.symm) mi_X6_found vi_X6_found tw269 ⟨by decide, rfl⟩ sh_0 ⟨rfl, rfl, Nat.le_of_ble_eq_true rfl, Nat.le_of_ble_eq_true rfl⟩ rfl hl.1 rfl (Nat.le_of_ble_eq_true rfl) dX6_drop_25 ⟨Nat.le_of_ble_eq_true rfl, Nat.le_of_ble_eq_true rfl⟩ (fun H locs hW hS => ?_)
      have h := Option.some.inj h
      subst h
      exact wd_iret CF hret hlk hW hS dX6_drop_28
  · rw [if_neg c1] at h
    refine lv_ldc (v := (-1000001)) hx hb hown (hts _ tw268) dX6_drop_7 ?_
    have h := Option.some.inj h
    subst h
    exact wd_iret CF hret hlk hW hS dX6_drop_9
def f_X6_feed (a1 : Int32) (D : wd_D) : Option (Int32 × wd_D) := (if (f_X6_beyond a1 0 255) = 0 then (if (gI D 2 1) < 120 then (wr 120 D 3 (gI D 2 1) a1).bind (fun D3 => ap (sI D3 2 1 ((gI D3 2 1) + 1)) (fun D4 => some (gI D4 2 1, D4))) else some ((-1000003), D)) else some ((-1000001), D))
set_option maxHeartbeats 4000000 in
set_option maxRecDepth 100000 in
theorem x_X6_feed (l : Launch) (X : wd_X) (a1 : Int32) (D : wd_D) {qv : Int32 × wd_D} (h : f_X6_feed a1 D = some qv) : wd_Met l X yX6_feed cX6_feed 2 (some FieldType.int) ({ frames := 1, cells := 0, slots := 0, locals := 100 }) S0 S0 ([.ref (X.2.2.1 + 0), .int a1] : List Value) D qv.2 (some (.int qv.1)) 0 0 := by
  refine wd_enter (by decide) (Nat.le_of_ble_eq_true rfl) ?_
  intro p e s m below meth c CF hret hlk hnm hW hE ls hl
  have CF : CallFix p m c cX6_feed 2 s ([.ref (X.2.2.1 + 0), .int a1] : List Value).toArray tg RX6 := CF
  have hx := CF.1
  have hb := CF.2.1
  have hown := CF.2.2.2.1
  have hts := CF.2.2.2.2
  have hS : va_S (wd_A X) s.heap s.heap [] := va_S.rf
  have hl : lv_has ls 2 [(0, .ref (X.2.2.1 + 0)), (1, .int a1)] := hl
  unfold f_X6_feed at h
  refine lv_iload_n hx hb dX6_feed_0 rfl (lv_at hl 1 rfl) ?_
  refine lv_iconst (v := 0) hx hb dX6_feed_1 (by decide) ?_
  refine lv_sipush (v := 255) hx hb dX6_feed_2 (by decide) ?_
  refine wd_callSr CF hE hW hS (x_X6_beyond l X a1 0 255 D) mi_X6_beyond vi_X6_beyond tw265 ⟨rfl, rfl, Nat.le_of_ble_eq_true rfl, Nat.le_of_ble_eq_true rfl⟩ rfl hl.1 rfl (Nat.le_of_ble_eq_true rfl) dX6_feed_5 ⟨Nat.le_of_ble_eq_true rfl, Nat.le_of_ble_eq_true rfl⟩ (fun H locs hW hS => ?_)
  refine lv_if_eq (tgt := 14) hx hb dX6_feed_8 (by decide) (fun c1 => ?_) (fun c1 => ?_)
  · rw [if_pos c1] at h
    refine lv_aload_n hx hb dX6_feed_14 rfl (lv_at hl 0 rfl) ?_
    refine wd_getR CF hE hW fl_X6_18 sh_0 rf_0_1 rfl dX6_feed_15 ?_
    refine wd_get CF hE hW fl_X6_106 sh_2 (v := .int (gI D 2 1)) rfl dX6_feed_18 ?_
    refine lv_bipush (v := 120) hx hb dX6_feed_21 (by decide) ?_
    refine lv_icmp_lt (tgt := 29) hx hb dX6_feed_23 (by decide) (fun c2 => ?_) (fun c2 => ?_)
    · rw [if_pos c2] at h
      refine lv_aload_n hx hb dX6_feed_29 rfl (lv_at hl 0 rfl) ?_
      refine wd_getR CF hE hW fl_X6_18 sh_0 rf_0_1 rfl dX6_feed_30 ?_
      refine wd_getR CF hE hW fl_X6_110 sh_2 rf_2_0 rfl dX6_feed_33 ?_
      refine lv_aload_n hx hb dX6_feed_36 rfl (lv_at hl 0 rfl) ?_
      refine wd_getR CF hE hW fl_X6_18 sh_0 rf_0_1 rfl dX6_feed_37 ?_
      refine wd_get CF hE hW fl_X6_106 sh_2 (v := .int (gI D 2 1)) rfl dX6_feed_40 ?_
      refine lv_iload_n hx hb dX6_feed_43 rfl (lv_at hl 1 rfl) ?_
      obtain ⟨D3, eD3, h⟩ := bdE h
      refine wd_iast CF hE hW hS sh_3 eD3 dX6_feed_44 (fun H locs hW hS => ?_)
      refine lv_aload_n hx hb dX6_feed_45 rfl (lv_at hl 0 rfl) ?_
      refine wd_getR CF hE hW fl_X6_18 sh_0 rf_0_1 rfl dX6_feed_46 ?_
      refine lv_dup hx hb dX6_feed_49 rfl ?_
      refine wd_get CF hE hW fl_X6_106 sh_2 (v := .int (gI D3 2 1)) rfl dX6_feed_50 ?_
      refine lv_iconst (v := 1) hx hb dX6_feed_53 (by decide) ?_
      refine lv_iadd hx hb dX6_feed_54 ?_
      refine wd_putI CF hE hW hS fl_X6_106 sh_2 rfl rfl dX6_feed_55 (fun D4 H locs eD4 hW hS => ?_)
      replace h := apR eD4 h
      refine lv_aload_n hx hb dX6_feed_58 rfl (lv_at hl 0 rfl) ?_
      refine wd_getR CF hE hW fl_X6_18 sh_0 rf_0_1 rfl dX6_feed_59 ?_
      refine wd_get CF hE hW fl_X6_106 sh_2 (v := .int (gI D4 2 1)) rfl dX6_feed_62 ?_
      have h := Option.some.inj h
      subst h
      exact wd_iret CF hret hlk hW hS dX6_feed_65
    · rw [if_neg c2] at h
      refine lv_ldc (v := (-1000003)) hx hb hown (hts _ tw314) dX6_feed_26 ?_
      have h := Option.some.inj h
      subst h
      exact wd_iret CF hret hlk hW hS dX6_feed_28
  · rw [if_neg c1] at h
    refine lv_ldc (v := (-1000001)) hx hb hown (hts _ tw268) dX6_feed_11 ?_
    have h := Option.some.inj h
    subst h
    exact wd_iret CF hret hlk hW hS dX6_feed_13
def f_X6_room  (D : wd_D) : Option (Int32 × wd_D) := (f_X5_readInto 13 D).bind (fun q1 => ap q1.1 (fun x2 => ap (sI q1.2 2 1 0) (fun D3 => (if x2 < 0 then (f_X3_become 4 13 D3).bind (fun q5 => ap (f_X2_forget q5) (fun q6 => some (gI q6 4 0, q6))) else ap (sI D3 0 8 (gI D3 2 2)) (fun D7 => some ((-1000100) - x2, D7))))))
set_option maxHeartbeats 4000000 in
set_option maxRecDepth 100000 in
theorem x_X6_room (l : Launch) (X : wd_X)  (D : wd_D) {qv : Int32 × wd_D} (h : f_X6_room  D = some qv) : wd_Met l X yX6_room cX6_room 2 (some FieldType.int) ({ frames := 4, cells := 0, slots := 0, locals := 400 }) S0 S0 ([.ref (X.2.2.1 + 0)] : List Value) D qv.2 (some (.int qv.1)) 0 0 := by
  refine wd_enter (by decide) (Nat.le_of_ble_eq_true rfl) ?_
  intro p e s m below meth c CF hret hlk hnm hW hE ls hl
  have CF : CallFix p m c cX6_room 2 s ([.ref (X.2.2.1 + 0)] : List Value).toArray tg RX6 := CF
  have hx := CF.1
  have hb := CF.2.1
  have hown := CF.2.2.2.1
  have hts := CF.2.2.2.2
  have hS : va_S (wd_A X) s.heap s.heap [] := va_S.rf
  have hl : lv_has ls 2 [(0, .ref (X.2.2.1 + 0))] := hl
  unfold f_X6_room at h
  refine lv_aload_n hx hb dX6_room_0 rfl (lv_at hl 0 rfl) ?_
  refine wd_getR CF hE hW fl_X6_18 sh_0 rf_0_1 rfl dX6_room_1 ?_
  refine lv_aload_n hx hb dX6_room_4 rfl (lv_at hl 0 rfl) ?_
  refine wd_getR CF hE hW fl_X6_29 sh_0 rf_0_3 rfl dX6_room_5 ?_
  obtain ⟨q1, eq1, h⟩ := bdE h
  refine wd_callVr (ci := 5) (k := 2) CF hE hW hS (x_X5_readInto l X 13 room_13 D eq1) mi_X5_readInto vi_X5_readInto tw319 ⟨by decide, rfl⟩ sh_2 ⟨rfl, rfl, Nat.le_of_ble_eq_true rfl, Nat.le_of_ble_eq_true rfl⟩ rfl hl.1 rfl (Nat.le_of_ble_eq_true rfl) dX6_room_8 ⟨Nat.le_of_ble_eq_true rfl, Nat.le_of_ble_eq_true rfl⟩ (fun H locs hW hS => ?_)
  refine lv_topi (fun x2 ex2 => ?_)
  replace h := apR ex2 h
  refine lv_istore_n (lv' := [(1, .int x2), (0, .ref (X.2.2.1 + 0))]) hx hb dX6_room_11 rfl hl (by decide) rfl (fun ls hl => ?_)
  refine lv_aload_n hx hb dX6_room_12 rfl (lv_at hl 1 rfl) ?_
  refine wd_getR CF hE hW fl_X6_18 sh_0 rf_0_1 rfl dX6_room_13 ?_
  refine lv_iconst (v := 0) hx hb dX6_room_16 (by decide) ?_
  refine wd_putI CF hE hW hS fl_X6_106 sh_2 rfl rfl dX6_room_17 (fun D3 H locs eD3 hW hS => ?_)
  replace h := apR eD3 h
  refine lv_iload_n hx hb dX6_room_20 rfl (lv_at hl 0 rfl) ?_
  refine lv_if_lt (tgt := 40) hx hb dX6_room_21 (by decide) (fun c4 => ?_) (fun c4 => ?_)
  · rw [if_pos c4] at h
    refine lv_aload_n hx hb dX6_room_40 rfl (lv_at hl 1 rfl) ?_
    refine wd_getR CF hE hW fl_X6_25 sh_0 rf_0_2 rfl dX6_room_41 ?_
    refine lv_aload_n hx hb dX6_room_44 rfl (lv_at hl 1 rfl) ?_
    refine wd_getR CF hE hW fl_X6_29 sh_0 rf_0_3 rfl dX6_room_45 ?_
    obtain ⟨q5, eq5, h⟩ := bdE h
    refine wd_callVv (ci := 3) (k := 4) CF hE hW hS (x_X3_become l X 4 room_4 13 room_13 D3 eq5) mi_X3_become vi_X3_become tw370 ⟨by decide, rfl⟩ (rm_s room_4) ⟨rfl, rfl, Nat.le_of_ble_eq_true rfl, Nat.le_of_ble_eq_true rfl⟩ rfl hl.1 rfl (Nat.le_of_ble_eq_true rfl) dX6_room_48 ⟨Nat.le_of_ble_eq_true rfl, Nat.le_of_ble_eq_true rfl⟩ (fun H locs hW hS => ?_)
    refine lv_aload_n hx hb dX6_room_51 rfl (lv_at hl 1 rfl) ?_
    refine wd_getR CF hE hW fl_X6_39 sh_0 rf_0_5 rfl dX6_room_52 ?_
    obtain ⟨q6, eq6⟩ : ∃ q, q = f_X2_forget q5 := ⟨_, rfl⟩
    replace h := apR eq6 h
    refine wd_callVv (ci := 2) (k := 23) CF hE hW hS (x_X2_forget l X q5 eq6.symm) mi_X2_forget vi_X2_forget tw375 ⟨by decide, rfl⟩ sh_23 ⟨rfl, rfl, Nat.le_of_ble_eq_true rfl, Nat.le_of_ble_eq_true rfl⟩ rfl hl.1 rfl (Nat.le_of_ble_eq_true rfl) dX6_room_55 ⟨Nat.le_of_ble_eq_true rfl, Nat.le_of_ble_eq_true rfl⟩ (fun H locs hW hS => ?_)
    refine lv_aload_n hx hb dX6_room_58 rfl (lv_at hl 1 rfl) ?_
    refine wd_getR CF hE hW fl_X6_25 sh_0 rf_0_2 rfl dX6_room_59 ?_
    refine wd_get CF hE hW fl_X6_131 (rm_s room_4) (v := .int (gI q6 4 0)) rfl dX6_room_62 ?_
    have h := Option.some.inj h
    subst h
    exact wd_iret CF hret hlk hW hS dX6_room_65
  · rw [if_neg c4] at h
    refine lv_aload_n hx hb dX6_room_24 rfl (lv_at hl 1 rfl) ?_
    refine lv_aload_n hx hb dX6_room_25 rfl (lv_at hl 1 rfl) ?_
    refine wd_getR CF hE hW fl_X6_18 sh_0 rf_0_1 rfl dX6_room_26 ?_
    refine wd_get CF hE hW fl_X6_117 sh_2 (v := .int (gI D3 2 2)) rfl dX6_room_29 ?_
    refine wd_putI CF hE hW hS fl_X6_120 sh_0 rfl rfl dX6_room_32 (fun D7 H locs eD7 hW hS => ?_)
    replace h := apR eD7 h
    refine lv_ldc (v := (-1000100)) hx hb hown (hts _ tw369) dX6_room_35 ?_
    refine lv_iload_n hx hb dX6_room_37 rfl (lv_at hl 0 rfl) ?_
    refine lv_isub hx hb dX6_room_38 ?_
    have h := Option.some.inj h
    subst h
    exact wd_iret CF hret hlk hW hS dX6_room_39
def f_X6_fault  (D : wd_D) : Int32 := (gI D 0 8)
set_option maxHeartbeats 4000000 in
set_option maxRecDepth 100000 in
theorem x_X6_fault (l : Launch) (X : wd_X)  (D : wd_D) : wd_Met l X yX6_fault cX6_fault 1 (some FieldType.int) ({ frames := 0, cells := 0, slots := 0, locals := 0 }) S0 S0 ([.ref (X.2.2.1 + 0)] : List Value) D D (some (.int (f_X6_fault  D))) 0 0 := by
  obtain ⟨rv, h⟩ : ∃ rv, f_X6_fault  D = rv := ⟨_, rfl⟩
  rw [h]
  refine wd_enter (by decide) (Nat.le_of_ble_eq_true rfl) ?_
  intro p e s m below meth c CF hret hlk hnm hW hE ls hl
  have CF : CallFix p m c cX6_fault 1 s ([.ref (X.2.2.1 + 0)] : List Value).toArray tg RX6 := CF
  have hx := CF.1
  have hb := CF.2.1
  have hown := CF.2.2.2.1
  have hts := CF.2.2.2.2
  have hS : va_S (wd_A X) s.heap s.heap [] := va_S.rf
  have hl : lv_has ls 1 [(0, .ref (X.2.2.1 + 0))] := hl
  unfold f_X6_fault at h
  refine lv_aload_n hx hb dX6_fault_0 rfl (lv_at hl 0 rfl) ?_
  refine wd_get CF hE hW fl_X6_120 sh_0 (v := .int (gI D 0 8)) rfl dX6_fault_1 ?_
  subst h
  exact wd_iret CF hret hlk hW hS dX6_fault_4
def f_X6_undo  (D : wd_D) : Option (Int32 × wd_D) := (if (gI D 23 2) = 0 then some ((-1000002), D) else (f_X2_bringBack 4 D).bind (fun q2 => some (gI q2 23 2, q2)))
set_option maxHeartbeats 4000000 in
set_option maxRecDepth 100000 in
theorem x_X6_undo (l : Launch) (X : wd_X)  (D : wd_D) {qv : Int32 × wd_D} (h : f_X6_undo  D = some qv) : wd_Met l X yX6_undo cX6_undo 1 (some FieldType.int) ({ frames := 3, cells := 0, slots := 0, locals := 300 }) S0 S0 ([.ref (X.2.2.1 + 0)] : List Value) D qv.2 (some (.int qv.1)) 0 0 := by
  refine wd_enter (by decide) (Nat.le_of_ble_eq_true rfl) ?_
  intro p e s m below meth c CF hret hlk hnm hW hE ls hl
  have CF : CallFix p m c cX6_undo 1 s ([.ref (X.2.2.1 + 0)] : List Value).toArray tg RX6 := CF
  have hx := CF.1
  have hb := CF.2.1
  have hown := CF.2.2.2.1
  have hts := CF.2.2.2.2
  have hS : va_S (wd_A X) s.heap s.heap [] := va_S.rf
  have hl : lv_has ls 1 [(0, .ref (X.2.2.1 + 0))] := hl
  unfold f_X6_undo at h
  refine lv_aload_n hx hb dX6_undo_0 rfl (lv_at hl 0 rfl) ?_
  refine wd_getR CF hE hW fl_X6_39 sh_0 rf_0_5 rfl dX6_undo_1 ?_
  refine wd_get CF hE hW fl_X6_134 sh_23 (v := .int (gI D 23 2)) rfl dX6_undo_4 ?_
  refine lv_if_ne (tgt := 13) hx hb dX6_undo_7 (by decide) (fun c1 => ?_) (fun c1 => ?_)
  · rw [if_neg c1] at h
    refine lv_aload_n hx hb dX6_undo_13 rfl (lv_at hl 0 rfl) ?_
    refine wd_getR CF hE hW fl_X6_39 sh_0 rf_0_5 rfl dX6_undo_14 ?_
    refine lv_aload_n hx hb dX6_undo_17 rfl (lv_at hl 0 rfl) ?_
    refine wd_getR CF hE hW fl_X6_25 sh_0 rf_0_2 rfl dX6_undo_18 ?_
    obtain ⟨q2, eq2, h⟩ := bdE h
    refine wd_callVv (ci := 2) (k := 23) CF hE hW hS (x_X2_bringBack l X 4 room_4 D eq2) mi_X2_bringBack vi_X2_bringBack tw388 ⟨by decide, rfl⟩ sh_23 ⟨rfl, rfl, Nat.le_of_ble_eq_true rfl, Nat.le_of_ble_eq_true rfl⟩ rfl hl.1 rfl (Nat.le_of_ble_eq_true rfl) dX6_undo_21 ⟨Nat.le_of_ble_eq_true rfl, Nat.le_of_ble_eq_true rfl⟩ (fun H locs hW hS => ?_)
    refine lv_aload_n hx hb dX6_undo_24 rfl (lv_at hl 0 rfl) ?_
    refine wd_getR CF hE hW fl_X6_39 sh_0 rf_0_5 rfl dX6_undo_25 ?_
    refine wd_get CF hE hW fl_X6_134 sh_23 (v := .int (gI q2 23 2)) rfl dX6_undo_28 ?_
    have h := Option.some.inj h
    subst h
    exact wd_iret CF hret hlk hW hS dX6_undo_31
  · rw [if_pos c1] at h
    refine lv_ldc (v := (-1000002)) hx hb hown (hts _ tw387) dX6_undo_10 ?_
    have h := Option.some.inj h
    subst h
    exact wd_iret CF hret hlk hW hS dX6_undo_12
def f_X6_noRoom  (D : wd_D) : Int32 := (if (gI D 4 0) = 0 then 1 else 0)
theorem z_X6_noRoom  (D : wd_D) : f_X6_noRoom  D = 0 ∨ f_X6_noRoom  D = 1 := by
  unfold f_X6_noRoom
  (repeat' split) <;> first | exact Or.inl rfl | exact Or.inr rfl
set_option maxHeartbeats 4000000 in
set_option maxRecDepth 100000 in
theorem x_X6_noRoom (l : Launch) (X : wd_X)  (D : wd_D) : wd_Met l X yX6_noRoom cX6_noRoom 1 (some FieldType.boolean) ({ frames := 0, cells := 0, slots := 0, locals := 0 }) S0 S0 ([.ref (X.2.2.1 + 0)] : List Value) D D (some (.int (f_X6_noRoom  D))) 0 0 := by
  obtain ⟨rv, h⟩ : ∃ rv, f_X6_noRoom  D = rv := ⟨_, rfl⟩
  rw [h]
  refine wd_enter (by decide) (Nat.le_of_ble_eq_true rfl) ?_
  intro p e s m below meth c CF hret hlk hnm hW hE ls hl
  have CF : CallFix p m c cX6_noRoom 1 s ([.ref (X.2.2.1 + 0)] : List Value).toArray tg RX6 := CF
  have hx := CF.1
  have hb := CF.2.1
  have hown := CF.2.2.2.1
  have hts := CF.2.2.2.2
  have hS : va_S (wd_A X) s.heap s.heap [] := va_S.rf
  have hl : lv_has ls 1 [(0, .ref (X.2.2.1 + 0))] := hl
  unfold f_X6_noRoom at h
  refine lv_aload_n hx hb dX6_noRoom_0 rfl (lv_at hl 0 rfl) ?_
  refine wd_getR CF hE hW fl_X6_25 sh_0 rf_0_2 rfl dX6_noRoom_1 ?_
  refine wd_get CF hE hW fl_X6_131 (rm_s room_4) (v := .int (gI D 4 0)) rfl dX6_noRoom_4 ?_
  refine lv_if_ne (tgt := 14) hx hb dX6_noRoom_7 (by decide) (fun c1 => ?_) (fun c1 => ?_)
  · rw [if_neg c1] at h
    refine lv_iconst (v := 0) hx hb dX6_noRoom_14 (by decide) ?_
    subst h
    exact wd_zret CF hret hlk hW hS (Or.inl rfl) dX6_noRoom_15
  · rw [if_pos c1] at h
    refine lv_iconst (v := 1) hx hb dX6_noRoom_10 (by decide) ?_
    refine lv_goto (tgt := 15) hx hb dX6_noRoom_11 (by decide) ?_
    subst h
    exact wd_zret CF hret hlk hW hS (Or.inr rfl) dX6_noRoom_15
def f_X6_minutes_L43  : Nat → Int32 → Int32 → wd_D → Option (Int32 × wd_D)
  | 0, _, _, _ => none
  | n + 1, a1, v2, D => (if a1 ≤ v2 then (f_X3_thoseWho 4 2 D).bind (fun x5 => some (x5, D)) else (f_X2_keep 4 D).bind (fun q6 => (f_X3_passMinute 4 q6).bind (fun q7 => ap (v2 + 1) (fun x8 => (f_X6_minutes_L43 n) a1 x8 q7.2))))
def f_X6_minutes (a1 : Int32) (D : wd_D) : Option (Int32 × wd_D) := (if (f_X6_noRoom D) = 0 then (if (f_X6_beyond a1 1 24) = 0 then (if ((gI D 4 3) + a1) ≤ 999 then f_X6_minutes_L43 FU a1 0 D else some ((-1000003), D)) else some ((-1000001), D)) else some ((-1000002), D))
set_option maxHeartbeats 4000000 in
set_option maxRecDepth 100000 in
theorem x_X6_minutes (l : Launch) (X : wd_X) (a1 : Int32) (D : wd_D) {qv : Int32 × wd_D} (h : f_X6_minutes a1 D = some qv) : wd_Met l X yX6_minutes cX6_minutes 3 (some FieldType.int) ({ frames := 4, cells := 0, slots := 0, locals := 400 }) S0 S0 ([.ref (X.2.2.1 + 0), .int a1] : List Value) D qv.2 (some (.int qv.1)) 0 0 := by
  refine wd_enter (by decide) (Nat.le_of_ble_eq_true rfl) ?_
  intro p e s m below meth c CF hret hlk hnm hW hE ls hl
  have CF : CallFix p m c cX6_minutes 3 s ([.ref (X.2.2.1 + 0), .int a1] : List Value).toArray tg RX6 := CF
  have hx := CF.1
  have hb := CF.2.1
  have hown := CF.2.2.2.1
  have hts := CF.2.2.2.2
  have hS : va_S (wd_A X) s.heap s.heap [] := va_S.rf
  have hl : lv_has ls 3 [(0, .ref (X.2.2.1 + 0)), (1, .int a1)] := hl
  unfold f_X6_minutes at h
  have hL43 : ∀ (n43 : Nat) (v2 : Int32) (D : wd_D) (H : Heap) (locs : List Loc) (ls : Array Slot), Wd X S0 D H → va_S (wd_A X) s.heap H locs → lv_has ls 3 [(0, .ref (X.2.2.1 + 0)), (1, .int a1), (2, .int v2)] → f_X6_minutes_L43 n43 a1 v2 D = some qv → W p l e ({ frames := 4, cells := 0, slots := 0, locals := 400 }) s m ([.ref (X.2.2.1 + 0), .int a1] : List Value).toArray below meth c H locs 0 0 (MQ below (wd_Q X S0 qv.2 (some (.int qv.1))) ([.ref (X.2.2.1 + 0), .int a1] : List Value).toArray s 0 0 (wd_A X)) (F0 m 43 ls []) := by
    intro n43
    induction n43 with
    | zero => intro v2 D H locs ls hW hS hl h; cases h
    | succ n43 ih43 =>
      intro v2 D H locs ls hW hS hl h
      rw [f_X6_minutes_L43] at h
      refine lv_iload_n hx hb dX6_minutes_43 rfl (lv_at hl 2 rfl) ?_
      refine lv_iload_n hx hb dX6_minutes_44 rfl (lv_at hl 1 rfl) ?_
      refine lv_icmp_ge (tgt := 73) hx hb dX6_minutes_45 (by decide) (fun c4 => ?_) (fun c4 => ?_)
      · rw [if_pos c4] at h
        refine lv_aload_n hx hb dX6_minutes_73 rfl (lv_at hl 0 rfl) ?_
        refine wd_getR CF hE hW fl_X6_25 sh_0 rf_0_2 rfl dX6_minutes_74 ?_
        refine lv_iconst (v := 2) hx hb dX6_minutes_77 (by decide) ?_
        obtain ⟨x5, ex5, h⟩ := bdE h
        refine wd_callVr (ci := 3) (k := 4) CF hE hW hS (x_X3_thoseWho l X 4 room_4 2 D ex5) mi_X3_thoseWho vi_X3_thoseWho tw459 ⟨by decide, rfl⟩ (rm_s room_4) ⟨rfl, rfl, Nat.le_of_ble_eq_true rfl, Nat.le_of_ble_eq_true rfl⟩ rfl hl.1 rfl (Nat.le_of_ble_eq_true rfl) dX6_minutes_78 ⟨Nat.le_of_ble_eq_true rfl, Nat.le_of_ble_eq_true rfl⟩ (fun H locs hW hS => ?_)
        have h := Option.some.inj h
        subst h
        exact wd_iret CF hret hlk hW hS dX6_minutes_81
      · rw [if_neg c4] at h
        refine lv_aload_n hx hb dX6_minutes_48 rfl (lv_at hl 0 rfl) ?_
        refine wd_getR CF hE hW fl_X6_39 sh_0 rf_0_5 rfl dX6_minutes_49 ?_
        refine lv_aload_n hx hb dX6_minutes_52 rfl (lv_at hl 0 rfl) ?_
        refine wd_getR CF hE hW fl_X6_25 sh_0 rf_0_2 rfl dX6_minutes_53 ?_
        obtain ⟨q6, eq6, h⟩ := bdE h
        refine wd_callVv (ci := 2) (k := 23) CF hE hW hS (x_X2_keep l X 4 room_4 D eq6) mi_X2_keep vi_X2_keep tw401 ⟨by decide, rfl⟩ sh_23 ⟨rfl, rfl, Nat.le_of_ble_eq_true rfl, Nat.le_of_ble_eq_true rfl⟩ rfl hl.1 rfl (Nat.le_of_ble_eq_true rfl) dX6_minutes_56 ⟨Nat.le_of_ble_eq_true rfl, Nat.le_of_ble_eq_true rfl⟩ (fun H locs hW hS => ?_)
        refine lv_aload_n hx hb dX6_minutes_59 rfl (lv_at hl 0 rfl) ?_
        refine wd_getR CF hE hW fl_X6_25 sh_0 rf_0_2 rfl dX6_minutes_60 ?_
        obtain ⟨q7, eq7, h⟩ := bdE h
        refine wd_callVr (ci := 3) (k := 4) CF hE hW hS (x_X3_passMinute l X 4 room_4 q6 eq7) mi_X3_passMinute vi_X3_passMinute tw408 ⟨by decide, rfl⟩ (rm_s room_4) ⟨rfl, rfl, Nat.le_of_ble_eq_true rfl, Nat.le_of_ble_eq_true rfl⟩ rfl hl.1 rfl (Nat.le_of_ble_eq_true rfl) dX6_minutes_63 ⟨Nat.le_of_ble_eq_true rfl, Nat.le_of_ble_eq_true rfl⟩ (fun H locs hW hS => ?_)
        refine lv_pop hx hb dX6_minutes_66 rfl ?_
        obtain ⟨x8, ex8⟩ : ∃ y : Int32, y = v2 + 1 := ⟨_, rfl⟩
        replace h := apR ex8 h
        refine lv_iinc (v := x8) (lv' := [(2, .int x8), (0, .ref (X.2.2.1 + 0)), (1, .int a1)]) hx hb dX6_minutes_67 hl (k := 2) rfl (by rw [ex8]; rfl) (by decide) rfl (fun ls hl => ?_)
        refine lv_goto (tgt := 43) hx hb dX6_minutes_70 (by decide) ?_
        exact ih43 x8 q7.2 _ _ _  hW hS (lv_sub hl [1, 2, 0] rfl) h
  refine lv_aload_n hx hb dX6_minutes_0 rfl (lv_at hl 0 rfl) ?_
  refine wd_callVr (ci := 6) (k := 0) CF hE hW hS (x_X6_noRoom l X D) mi_X6_noRoom vi_X6_noRoom tw397 ⟨by decide, rfl⟩ sh_0 ⟨rfl, rfl, Nat.le_of_ble_eq_true rfl, Nat.le_of_ble_eq_true rfl⟩ rfl hl.1 rfl (Nat.le_of_ble_eq_true rfl) dX6_minutes_1 ⟨Nat.le_of_ble_eq_true rfl, Nat.le_of_ble_eq_true rfl⟩ (fun H locs hW hS => ?_)
  refine lv_if_eq (tgt := 10) hx hb dX6_minutes_4 (by decide) (fun c1 => ?_) (fun c1 => ?_)
  · rw [if_pos c1] at h
    refine lv_iload_n hx hb dX6_minutes_10 rfl (lv_at hl 1 rfl) ?_
    refine lv_iconst (v := 1) hx hb dX6_minutes_11 (by decide) ?_
    refine lv_bipush (v := 24) hx hb dX6_minutes_12 (by decide) ?_
    refine wd_callSr CF hE hW hS (x_X6_beyond l X a1 1 24 D) mi_X6_beyond vi_X6_beyond tw265 ⟨rfl, rfl, Nat.le_of_ble_eq_true rfl, Nat.le_of_ble_eq_true rfl⟩ rfl hl.1 rfl (Nat.le_of_ble_eq_true rfl) dX6_minutes_14 ⟨Nat.le_of_ble_eq_true rfl, Nat.le_of_ble_eq_true rfl⟩ (fun H locs hW hS => ?_)
    refine lv_if_eq (tgt := 23) hx hb dX6_minutes_17 (by decide) (fun c2 => ?_) (fun c2 => ?_)
    · rw [if_pos c2] at h
      refine lv_aload_n hx hb dX6_minutes_23 rfl (lv_at hl 0 rfl) ?_
      refine wd_getR CF hE hW fl_X6_25 sh_0 rf_0_2 rfl dX6_minutes_24 ?_
      refine wd_get CF hE hW fl_X6_143 (rm_s room_4) (v := .int (gI D 4 3)) rfl dX6_minutes_27 ?_
      refine lv_iload_n hx hb dX6_minutes_30 rfl (lv_at hl 1 rfl) ?_
      refine lv_iadd hx hb dX6_minutes_31 ?_
      refine lv_sipush (v := 999) hx hb dX6_minutes_32 (by decide) ?_
      refine lv_icmp_le (tgt := 41) hx hb dX6_minutes_35 (by decide) (fun c3 => ?_) (fun c3 => ?_)
      · rw [if_pos c3] at h
        refine lv_iconst (v := 0) hx hb dX6_minutes_41 (by decide) ?_
        refine lv_istore_n (lv' := [(2, .int 0), (0, .ref (X.2.2.1 + 0)), (1, .int a1)]) hx hb dX6_minutes_42 rfl hl (by decide) rfl (fun ls hl => ?_)
        exact hL43 FU 0 D _ _ _  hW hS (lv_sub hl [1, 2, 0] rfl) h
      · rw [if_neg c3] at h
        refine lv_ldc (v := (-1000003)) hx hb hown (hts _ tw314) dX6_minutes_38 ?_
        have h := Option.some.inj h
        subst h
        exact wd_iret CF hret hlk hW hS dX6_minutes_40
    · rw [if_neg c2] at h
      refine lv_ldc (v := (-1000001)) hx hb hown (hts _ tw268) dX6_minutes_20 ?_
      have h := Option.some.inj h
      subst h
      exact wd_iret CF hret hlk hW hS dX6_minutes_22
  · rw [if_neg c1] at h
    refine lv_ldc (v := (-1000002)) hx hb hown (hts _ tw387) dX6_minutes_7 ?_
    have h := Option.some.inj h
    subst h
    exact wd_iret CF hret hlk hW hS dX6_minutes_9
def f_X6_noChild (a1 : Int32) (D : wd_D) : Int32 := (if a1 < 0 then 1 else (if a1 < (gI D 4 0) then 0 else 1))
theorem z_X6_noChild (a1 : Int32) (D : wd_D) : f_X6_noChild a1 D = 0 ∨ f_X6_noChild a1 D = 1 := by
  unfold f_X6_noChild
  (repeat' split) <;> first | exact Or.inl rfl | exact Or.inr rfl
set_option maxHeartbeats 4000000 in
set_option maxRecDepth 100000 in
theorem x_X6_noChild (l : Launch) (X : wd_X) (a1 : Int32) (D : wd_D) : wd_Met l X yX6_noChild cX6_noChild 2 (some FieldType.boolean) ({ frames := 0, cells := 0, slots := 0, locals := 0 }) S0 S0 ([.ref (X.2.2.1 + 0), .int a1] : List Value) D D (some (.int (f_X6_noChild a1 D))) 0 0 := by
  obtain ⟨rv, h⟩ : ∃ rv, f_X6_noChild a1 D = rv := ⟨_, rfl⟩
  rw [h]
  refine wd_enter (by decide) (Nat.le_of_ble_eq_true rfl) ?_
  intro p e s m below meth c CF hret hlk hnm hW hE ls hl
  have CF : CallFix p m c cX6_noChild 2 s ([.ref (X.2.2.1 + 0), .int a1] : List Value).toArray tg RX6 := CF
  have hx := CF.1
  have hb := CF.2.1
  have hown := CF.2.2.2.1
  have hts := CF.2.2.2.2
  have hS : va_S (wd_A X) s.heap s.heap [] := va_S.rf
  have hl : lv_has ls 2 [(0, .ref (X.2.2.1 + 0)), (1, .int a1)] := hl
  unfold f_X6_noChild at h
  refine lv_iload_n hx hb dX6_noChild_0 rfl (lv_at hl 1 rfl) ?_
  refine lv_if_lt (tgt := 15) hx hb dX6_noChild_1 (by decide) (fun c1 => ?_) (fun c1 => ?_)
  · rw [if_pos c1] at h
    refine lv_iconst (v := 1) hx hb dX6_noChild_15 (by decide) ?_
    refine lv_goto (tgt := 20) hx hb dX6_noChild_16 (by decide) ?_
    subst h
    exact wd_zret CF hret hlk hW hS (Or.inr rfl) dX6_noChild_20
  · rw [if_neg c1] at h
    refine lv_iload_n hx hb dX6_noChild_4 rfl (lv_at hl 1 rfl) ?_
    refine lv_aload_n hx hb dX6_noChild_5 rfl (lv_at hl 0 rfl) ?_
    refine wd_getR CF hE hW fl_X6_25 sh_0 rf_0_2 rfl dX6_noChild_6 ?_
    refine wd_get CF hE hW fl_X6_131 (rm_s room_4) (v := .int (gI D 4 0)) rfl dX6_noChild_9 ?_
    refine lv_icmp_lt (tgt := 19) hx hb dX6_noChild_12 (by decide) (fun c2 => ?_) (fun c2 => ?_)
    · rw [if_pos c2] at h
      refine lv_iconst (v := 0) hx hb dX6_noChild_19 (by decide) ?_
      subst h
      exact wd_zret CF hret hlk hW hS (Or.inl rfl) dX6_noChild_20
    · rw [if_neg c2] at h
      refine lv_iconst (v := 1) hx hb dX6_noChild_15 (by decide) ?_
      refine lv_goto (tgt := 20) hx hb dX6_noChild_16 (by decide) ?_
      subst h
      exact wd_zret CF hret hlk hW hS (Or.inr rfl) dX6_noChild_20
def f_X6_hand_L75  (a1 : Int32) (a2 : Int32) (D : wd_D) : Option (Int32 × wd_D) := (f_X2_keep 4 D).bind (fun q7 => ap (sI q7 4 4 ((gI q7 4 4) ^^^ ((1 : Int32) <<< (a1 &&& 31)))) (fun D8 => some (gI D8 4 4, D8)))
def f_X6_hand_L41  (a1 : Int32) (a2 : Int32) (z0 : Int32) (z1 : Int32) (D : wd_D) : Option (Int32 × wd_D) := (if z1 = z0 then some ((-1000002), D) else (if a2 = 1 then (if (f_J6_bitCount_0f7a4 (gI D 4 4)) < (gI D 4 1) then f_X6_hand_L75 a1 a2 D else some ((-1000003), D)) else f_X6_hand_L75 a1 a2 D))
def f_X6_hand (a1 : Int32) (a2 : Int32) (D : wd_D) : Option (Int32 × wd_D) := (if (f_X6_noChild a1 D) = 0 then (if (f_X6_beyond a2 0 1) = 0 then (if a2 = 1 then f_X6_hand_L41 a1 a2 1 (f_X6_has (gI D 4 4) a1) D else f_X6_hand_L41 a1 a2 0 (f_X6_has (gI D 4 4) a1) D) else some ((-1000001), D)) else some ((-1000001), D))
set_option maxHeartbeats 4000000 in
set_option maxRecDepth 100000 in
theorem x_X6_hand (l : Launch) (X : wd_X) (a1 : Int32) (a2 : Int32) (D : wd_D) {qv : Int32 × wd_D} (h : f_X6_hand a1 a2 D = some qv) : wd_Met l X yX6_hand cX6_hand 3 (some FieldType.int) ({ frames := 3, cells := 0, slots := 0, locals := 300 }) S0 S0 ([.ref (X.2.2.1 + 0), .int a1, .int a2] : List Value) D qv.2 (some (.int qv.1)) 0 0 := by
  refine wd_enter (by decide) (Nat.le_of_ble_eq_true rfl) ?_
  intro p e s m below meth c CF hret hlk hnm hW hE ls hl
  have CF : CallFix p m c cX6_hand 3 s ([.ref (X.2.2.1 + 0), .int a1, .int a2] : List Value).toArray tg RX6 := CF
  have hx := CF.1
  have hb := CF.2.1
  have hown := CF.2.2.2.1
  have hts := CF.2.2.2.2
  have hS : va_S (wd_A X) s.heap s.heap [] := va_S.rf
  have hl : lv_has ls 3 [(0, .ref (X.2.2.1 + 0)), (1, .int a1), (2, .int a2)] := hl
  unfold f_X6_hand at h
  have hL75 : ∀  (D : wd_D) (H : Heap) (locs : List Loc) (ls : Array Slot), Wd X S0 D H → va_S (wd_A X) s.heap H locs → lv_has ls 3 [(0, .ref (X.2.2.1 + 0)), (1, .int a1)] → f_X6_hand_L75 a1 a2 D = some qv → W p l e ({ frames := 3, cells := 0, slots := 0, locals := 300 }) s m ([.ref (X.2.2.1 + 0), .int a1, .int a2] : List Value).toArray below meth c H locs 0 0 (MQ below (wd_Q X S0 qv.2 (some (.int qv.1))) ([.ref (X.2.2.1 + 0), .int a1, .int a2] : List Value).toArray s 0 0 (wd_A X)) (F0 m 75 ls []) := by
    intro D H locs ls hW hS hl h
    unfold f_X6_hand_L75 at h
    refine lv_aload_n hx hb dX6_hand_75 rfl (lv_at hl 0 rfl) ?_
    refine wd_getR CF hE hW fl_X6_39 sh_0 rf_0_5 rfl dX6_hand_76 ?_
    refine lv_aload_n hx hb dX6_hand_79 rfl (lv_at hl 0 rfl) ?_
    refine wd_getR CF hE hW fl_X6_25 sh_0 rf_0_2 rfl dX6_hand_80 ?_
    obtain ⟨q7, eq7, h⟩ := bdE h
    refine wd_callVv (ci := 2) (k := 23) CF hE hW hS (x_X2_keep l X 4 room_4 D eq7) mi_X2_keep vi_X2_keep tw401 ⟨by decide, rfl⟩ sh_23 ⟨rfl, rfl, Nat.le_of_ble_eq_true rfl, Nat.le_of_ble_eq_true rfl⟩ rfl hl.1 rfl (Nat.le_of_ble_eq_true rfl) dX6_hand_83 ⟨Nat.le_of_ble_eq_true rfl, Nat.le_of_ble_eq_true rfl⟩ (fun H locs hW hS => ?_)
    refine lv_aload_n hx hb dX6_hand_86 rfl (lv_at hl 0 rfl) ?_
    refine wd_getR CF hE hW fl_X6_25 sh_0 rf_0_2 rfl dX6_hand_87 ?_
    refine lv_dup hx hb dX6_hand_90 rfl ?_
    refine wd_get CF hE hW fl_X6_158 (rm_s room_4) (v := .int (gI q7 4 4)) rfl dX6_hand_91 ?_
    refine lv_iconst (v := 1) hx hb dX6_hand_94 (by decide) ?_
    refine lv_iload_n hx hb dX6_hand_95 rfl (lv_at hl 1 rfl) ?_
    refine lv_ishl hx hb dX6_hand_96 ?_
    refine lv_ixor hx hb dX6_hand_97 ?_
    refine wd_putI CF hE hW hS fl_X6_158 (rm_s room_4) rfl rfl dX6_hand_98 (fun D8 H locs eD8 hW hS => ?_)
    replace h := apR eD8 h
    refine lv_aload_n hx hb dX6_hand_101 rfl (lv_at hl 0 rfl) ?_
    refine wd_getR CF hE hW fl_X6_25 sh_0 rf_0_2 rfl dX6_hand_102 ?_
    refine wd_get CF hE hW fl_X6_158 (rm_s room_4) (v := .int (gI D8 4 4)) rfl dX6_hand_105 ?_
    have h := Option.some.inj h
    subst h
    exact wd_iret CF hret hlk hW hS dX6_hand_108
  have hL41 : ∀ (z0 : Int32) (z1 : Int32) (D : wd_D) (H : Heap) (locs : List Loc) (ls : Array Slot), Wd X S0 D H → va_S (wd_A X) s.heap H locs → lv_has ls 3 [(0, .ref (X.2.2.1 + 0)), (1, .int a1), (2, .int a2)] → f_X6_hand_L41 a1 a2 z0 z1 D = some qv → W p l e ({ frames := 3, cells := 0, slots := 0, locals := 300 }) s m ([.ref (X.2.2.1 + 0), .int a1, .int a2] : List Value).toArray below meth c H locs 0 0 (MQ below (wd_Q X S0 qv.2 (some (.int qv.1))) ([.ref (X.2.2.1 + 0), .int a1, .int a2] : List Value).toArray s 0 0 (wd_A X)) (F0 m 41 ls [.int z0, .int z1]) := by
    intro z0 z1 D H locs ls hW hS hl h
    unfold f_X6_hand_L41 at h
    refine lv_icmp_ne (tgt := 47) hx hb dX6_hand_41 (by decide) (fun c4 => ?_) (fun c4 => ?_)
    · rw [if_neg c4] at h
      refine lv_iload_n hx hb dX6_hand_47 rfl (lv_at hl 2 rfl) ?_
      refine lv_iconst (v := 1) hx hb dX6_hand_48 (by decide) ?_
      refine lv_icmp_ne (tgt := 75) hx hb dX6_hand_49 (by decide) (fun c5 => ?_) (fun c5 => ?_)
      · rw [if_neg c5] at h
        exact hL75  D _ _ _  hW hS (lv_sub hl [0, 1] rfl) h
      · rw [if_pos c5] at h
        refine lv_aload_n hx hb dX6_hand_52 rfl (lv_at hl 0 rfl) ?_
        refine wd_getR CF hE hW fl_X6_25 sh_0 rf_0_2 rfl dX6_hand_53 ?_
        refine wd_get CF hE hW fl_X6_158 (rm_s room_4) (v := .int (gI D 4 4)) rfl dX6_hand_56 ?_
        refine wd_callSr CF hE hW hS (x_J6_bitCount_0f7a4 l X (gI D 4 4) D) mi_J6_bitCount_0f7a4 vi_J6_bitCount_0f7a4 tw469 ⟨rfl, rfl, Nat.le_of_ble_eq_true rfl, Nat.le_of_ble_eq_true rfl⟩ rfl hl.1 rfl (Nat.le_of_ble_eq_true rfl) dX6_hand_59 ⟨Nat.le_of_ble_eq_true rfl, Nat.le_of_ble_eq_true rfl⟩ (fun H locs hW hS => ?_)
        refine lv_aload_n hx hb dX6_hand_62 rfl (lv_at hl 0 rfl) ?_
        refine wd_getR CF hE hW fl_X6_25 sh_0 rf_0_2 rfl dX6_hand_63 ?_
        refine wd_get CF hE hW fl_X6_169 (rm_s room_4) (v := .int (gI D 4 1)) rfl dX6_hand_66 ?_
        refine lv_icmp_lt (tgt := 75) hx hb dX6_hand_69 (by decide) (fun c6 => ?_) (fun c6 => ?_)
        · rw [if_pos c6] at h
          exact hL75  D _ _ _  hW hS (lv_sub hl [0, 1] rfl) h
        · rw [if_neg c6] at h
          refine lv_ldc (v := (-1000003)) hx hb hown (hts _ tw314) dX6_hand_72 ?_
          have h := Option.some.inj h
          subst h
          exact wd_iret CF hret hlk hW hS dX6_hand_74
    · rw [if_pos c4] at h
      refine lv_ldc (v := (-1000002)) hx hb hown (hts _ tw387) dX6_hand_44 ?_
      have h := Option.some.inj h
      subst h
      exact wd_iret CF hret hlk hW hS dX6_hand_46
  refine lv_aload_n hx hb dX6_hand_0 rfl (lv_at hl 0 rfl) ?_
  refine lv_iload_n hx hb dX6_hand_1 rfl (lv_at hl 1 rfl) ?_
  refine wd_callVr (ci := 6) (k := 0) CF hE hW hS (x_X6_noChild l X a1 D) mi_X6_noChild vi_X6_noChild tw464 ⟨by decide, rfl⟩ sh_0 ⟨rfl, rfl, Nat.le_of_ble_eq_true rfl, Nat.le_of_ble_eq_true rfl⟩ rfl hl.1 rfl (Nat.le_of_ble_eq_true rfl) dX6_hand_2 ⟨Nat.le_of_ble_eq_true rfl, Nat.le_of_ble_eq_true rfl⟩ (fun H locs hW hS => ?_)
  refine lv_if_ne (tgt := 17) hx hb dX6_hand_5 (by decide) (fun c1 => ?_) (fun c1 => ?_)
  · rw [if_neg c1] at h
    refine lv_ldc (v := (-1000001)) hx hb hown (hts _ tw268) dX6_hand_17 ?_
    have h := Option.some.inj h
    subst h
    exact wd_iret CF hret hlk hW hS dX6_hand_19
  · rw [if_pos c1] at h
    refine lv_iload_n hx hb dX6_hand_8 rfl (lv_at hl 2 rfl) ?_
    refine lv_iconst (v := 0) hx hb dX6_hand_9 (by decide) ?_
    refine lv_iconst (v := 1) hx hb dX6_hand_10 (by decide) ?_
    refine wd_callSr CF hE hW hS (x_X6_beyond l X a2 0 1 D) mi_X6_beyond vi_X6_beyond tw265 ⟨rfl, rfl, Nat.le_of_ble_eq_true rfl, Nat.le_of_ble_eq_true rfl⟩ rfl hl.1 rfl (Nat.le_of_ble_eq_true rfl) dX6_hand_11 ⟨Nat.le_of_ble_eq_true rfl, Nat.le_of_ble_eq_true rfl⟩ (fun H locs hW hS => ?_)
    refine lv_if_eq (tgt := 20) hx hb dX6_hand_14 (by decide) (fun c2 => ?_) (fun c2 => ?_)
    · rw [if_pos c2] at h
      refine lv_aload_n hx hb dX6_hand_20 rfl (lv_at hl 0 rfl) ?_
      refine wd_getR CF hE hW fl_X6_25 sh_0 rf_0_2 rfl dX6_hand_21 ?_
      refine wd_get CF hE hW fl_X6_158 (rm_s room_4) (v := .int (gI D 4 4)) rfl dX6_hand_24 ?_
      refine lv_iload_n hx hb dX6_hand_27 rfl (lv_at hl 1 rfl) ?_
      refine wd_callSr CF hE hW hS (x_X6_has l X (gI D 4 4) a1 D) mi_X6_has vi_X6_has tw468 ⟨rfl, rfl, Nat.le_of_ble_eq_true rfl, Nat.le_of_ble_eq_true rfl⟩ rfl hl.1 rfl (Nat.le_of_ble_eq_true rfl) dX6_hand_28 ⟨Nat.le_of_ble_eq_true rfl, Nat.le_of_ble_eq_true rfl⟩ (fun H locs hW hS => ?_)
      refine lv_iload_n hx hb dX6_hand_31 rfl (lv_at hl 2 rfl) ?_
      refine lv_iconst (v := 1) hx hb dX6_hand_32 (by decide) ?_
      refine lv_icmp_ne (tgt := 40) hx hb dX6_hand_33 (by decide) (fun c3 => ?_) (fun c3 => ?_)
      · rw [if_neg c3] at h
        refine lv_iconst (v := 0) hx hb dX6_hand_40 (by decide) ?_
        exact hL41 0 (f_X6_has (gI D 4 4) a1) D _ _ _  hW hS (lv_sub hl [0, 1, 2] rfl) h
      · rw [if_pos c3] at h
        refine lv_iconst (v := 1) hx hb dX6_hand_36 (by decide) ?_
        refine lv_goto (tgt := 41) hx hb dX6_hand_37 (by decide) ?_
        exact hL41 1 (f_X6_has (gI D 4 4) a1) D _ _ _  hW hS (lv_sub hl [0, 1, 2] rfl) h
    · rw [if_neg c2] at h
      refine lv_ldc (v := (-1000001)) hx hb hown (hts _ tw268) dX6_hand_17 ?_
      have h := Option.some.inj h
      subst h
      exact wd_iret CF hret hlk hW hS dX6_hand_19
def f_X6_carry_L41  (a1 : Int32) (a2 : Int32) (z0 : Int32) (z1 : Int32) (D : wd_D) : Option (Int32 × wd_D) := (if z1 = z0 then some ((-1000002), D) else (f_X2_keep 4 D).bind (fun q5 => ap (sI q5 4 5 ((gI q5 4 5) ^^^ ((1 : Int32) <<< (a1 &&& 31)))) (fun D6 => some (gI D6 4 5, D6))))
def f_X6_carry (a1 : Int32) (a2 : Int32) (D : wd_D) : Option (Int32 × wd_D) := (if (f_X6_noChild a1 D) = 0 then (if (f_X6_beyond a2 0 1) = 0 then (if a2 = 1 then f_X6_carry_L41 a1 a2 1 (f_X6_has (gI D 4 5) a1) D else f_X6_carry_L41 a1 a2 0 (f_X6_has (gI D 4 5) a1) D) else some ((-1000001), D)) else some ((-1000001), D))
set_option maxHeartbeats 4000000 in
set_option maxRecDepth 100000 in
theorem x_X6_carry (l : Launch) (X : wd_X) (a1 : Int32) (a2 : Int32) (D : wd_D) {qv : Int32 × wd_D} (h : f_X6_carry a1 a2 D = some qv) : wd_Met l X yX6_carry cX6_carry 3 (some FieldType.int) ({ frames := 3, cells := 0, slots := 0, locals := 300 }) S0 S0 ([.ref (X.2.2.1 + 0), .int a1, .int a2] : List Value) D qv.2 (some (.int qv.1)) 0 0 := by
  refine wd_enter (by decide) (Nat.le_of_ble_eq_true rfl) ?_
  intro p e s m below meth c CF hret hlk hnm hW hE ls hl
  have CF : CallFix p m c cX6_carry 3 s ([.ref (X.2.2.1 + 0), .int a1, .int a2] : List Value).toArray tg RX6 := CF
  have hx := CF.1
  have hb := CF.2.1
  have hown := CF.2.2.2.1
  have hts := CF.2.2.2.2
  have hS : va_S (wd_A X) s.heap s.heap [] := va_S.rf
  have hl : lv_has ls 3 [(0, .ref (X.2.2.1 + 0)), (1, .int a1), (2, .int a2)] := hl
  unfold f_X6_carry at h
  have hL41 : ∀ (z0 : Int32) (z1 : Int32) (D : wd_D) (H : Heap) (locs : List Loc) (ls : Array Slot), Wd X S0 D H → va_S (wd_A X) s.heap H locs → lv_has ls 3 [(0, .ref (X.2.2.1 + 0)), (1, .int a1)] → f_X6_carry_L41 a1 a2 z0 z1 D = some qv → W p l e ({ frames := 3, cells := 0, slots := 0, locals := 300 }) s m ([.ref (X.2.2.1 + 0), .int a1, .int a2] : List Value).toArray below meth c H locs 0 0 (MQ below (wd_Q X S0 qv.2 (some (.int qv.1))) ([.ref (X.2.2.1 + 0), .int a1, .int a2] : List Value).toArray s 0 0 (wd_A X)) (F0 m 41 ls [.int z0, .int z1]) := by
    intro z0 z1 D H locs ls hW hS hl h
    unfold f_X6_carry_L41 at h
    refine lv_icmp_ne (tgt := 47) hx hb dX6_carry_41 (by decide) (fun c4 => ?_) (fun c4 => ?_)
    · rw [if_neg c4] at h
      refine lv_aload_n hx hb dX6_carry_47 rfl (lv_at hl 0 rfl) ?_
      refine wd_getR CF hE hW fl_X6_39 sh_0 rf_0_5 rfl dX6_carry_48 ?_
      refine lv_aload_n hx hb dX6_carry_51 rfl (lv_at hl 0 rfl) ?_
      refine wd_getR CF hE hW fl_X6_25 sh_0 rf_0_2 rfl dX6_carry_52 ?_
      obtain ⟨q5, eq5, h⟩ := bdE h
      refine wd_callVv (ci := 2) (k := 23) CF hE hW hS (x_X2_keep l X 4 room_4 D eq5) mi_X2_keep vi_X2_keep tw401 ⟨by decide, rfl⟩ sh_23 ⟨rfl, rfl, Nat.le_of_ble_eq_true rfl, Nat.le_of_ble_eq_true rfl⟩ rfl hl.1 rfl (Nat.le_of_ble_eq_true rfl) dX6_carry_55 ⟨Nat.le_of_ble_eq_true rfl, Nat.le_of_ble_eq_true rfl⟩ (fun H locs hW hS => ?_)
      refine lv_aload_n hx hb dX6_carry_58 rfl (lv_at hl 0 rfl) ?_
      refine wd_getR CF hE hW fl_X6_25 sh_0 rf_0_2 rfl dX6_carry_59 ?_
      refine lv_dup hx hb dX6_carry_62 rfl ?_
      refine wd_get CF hE hW fl_X6_172 (rm_s room_4) (v := .int (gI q5 4 5)) rfl dX6_carry_63 ?_
      refine lv_iconst (v := 1) hx hb dX6_carry_66 (by decide) ?_
      refine lv_iload_n hx hb dX6_carry_67 rfl (lv_at hl 1 rfl) ?_
      refine lv_ishl hx hb dX6_carry_68 ?_
      refine lv_ixor hx hb dX6_carry_69 ?_
      refine wd_putI CF hE hW hS fl_X6_172 (rm_s room_4) rfl rfl dX6_carry_70 (fun D6 H locs eD6 hW hS => ?_)
      replace h := apR eD6 h
      refine lv_aload_n hx hb dX6_carry_73 rfl (lv_at hl 0 rfl) ?_
      refine wd_getR CF hE hW fl_X6_25 sh_0 rf_0_2 rfl dX6_carry_74 ?_
      refine wd_get CF hE hW fl_X6_172 (rm_s room_4) (v := .int (gI D6 4 5)) rfl dX6_carry_77 ?_
      have h := Option.some.inj h
      subst h
      exact wd_iret CF hret hlk hW hS dX6_carry_80
    · rw [if_pos c4] at h
      refine lv_ldc (v := (-1000002)) hx hb hown (hts _ tw387) dX6_carry_44 ?_
      have h := Option.some.inj h
      subst h
      exact wd_iret CF hret hlk hW hS dX6_carry_46
  refine lv_aload_n hx hb dX6_carry_0 rfl (lv_at hl 0 rfl) ?_
  refine lv_iload_n hx hb dX6_carry_1 rfl (lv_at hl 1 rfl) ?_
  refine wd_callVr (ci := 6) (k := 0) CF hE hW hS (x_X6_noChild l X a1 D) mi_X6_noChild vi_X6_noChild tw464 ⟨by decide, rfl⟩ sh_0 ⟨rfl, rfl, Nat.le_of_ble_eq_true rfl, Nat.le_of_ble_eq_true rfl⟩ rfl hl.1 rfl (Nat.le_of_ble_eq_true rfl) dX6_carry_2 ⟨Nat.le_of_ble_eq_true rfl, Nat.le_of_ble_eq_true rfl⟩ (fun H locs hW hS => ?_)
  refine lv_if_ne (tgt := 17) hx hb dX6_carry_5 (by decide) (fun c1 => ?_) (fun c1 => ?_)
  · rw [if_neg c1] at h
    refine lv_ldc (v := (-1000001)) hx hb hown (hts _ tw268) dX6_carry_17 ?_
    have h := Option.some.inj h
    subst h
    exact wd_iret CF hret hlk hW hS dX6_carry_19
  · rw [if_pos c1] at h
    refine lv_iload_n hx hb dX6_carry_8 rfl (lv_at hl 2 rfl) ?_
    refine lv_iconst (v := 0) hx hb dX6_carry_9 (by decide) ?_
    refine lv_iconst (v := 1) hx hb dX6_carry_10 (by decide) ?_
    refine wd_callSr CF hE hW hS (x_X6_beyond l X a2 0 1 D) mi_X6_beyond vi_X6_beyond tw265 ⟨rfl, rfl, Nat.le_of_ble_eq_true rfl, Nat.le_of_ble_eq_true rfl⟩ rfl hl.1 rfl (Nat.le_of_ble_eq_true rfl) dX6_carry_11 ⟨Nat.le_of_ble_eq_true rfl, Nat.le_of_ble_eq_true rfl⟩ (fun H locs hW hS => ?_)
    refine lv_if_eq (tgt := 20) hx hb dX6_carry_14 (by decide) (fun c2 => ?_) (fun c2 => ?_)
    · rw [if_pos c2] at h
      refine lv_aload_n hx hb dX6_carry_20 rfl (lv_at hl 0 rfl) ?_
      refine wd_getR CF hE hW fl_X6_25 sh_0 rf_0_2 rfl dX6_carry_21 ?_
      refine wd_get CF hE hW fl_X6_172 (rm_s room_4) (v := .int (gI D 4 5)) rfl dX6_carry_24 ?_
      refine lv_iload_n hx hb dX6_carry_27 rfl (lv_at hl 1 rfl) ?_
      refine wd_callSr CF hE hW hS (x_X6_has l X (gI D 4 5) a1 D) mi_X6_has vi_X6_has tw468 ⟨rfl, rfl, Nat.le_of_ble_eq_true rfl, Nat.le_of_ble_eq_true rfl⟩ rfl hl.1 rfl (Nat.le_of_ble_eq_true rfl) dX6_carry_28 ⟨Nat.le_of_ble_eq_true rfl, Nat.le_of_ble_eq_true rfl⟩ (fun H locs hW hS => ?_)
      refine lv_iload_n hx hb dX6_carry_31 rfl (lv_at hl 2 rfl) ?_
      refine lv_iconst (v := 1) hx hb dX6_carry_32 (by decide) ?_
      refine lv_icmp_ne (tgt := 40) hx hb dX6_carry_33 (by decide) (fun c3 => ?_) (fun c3 => ?_)
      · rw [if_neg c3] at h
        refine lv_iconst (v := 0) hx hb dX6_carry_40 (by decide) ?_
        exact hL41 0 (f_X6_has (gI D 4 5) a1) D _ _ _  hW hS (lv_sub hl [0, 1] rfl) h
      · rw [if_pos c3] at h
        refine lv_iconst (v := 1) hx hb dX6_carry_36 (by decide) ?_
        refine lv_goto (tgt := 41) hx hb dX6_carry_37 (by decide) ?_
        exact hL41 1 (f_X6_has (gI D 4 5) a1) D _ _ _  hW hS (lv_sub hl [0, 1] rfl) h
    · rw [if_neg c2] at h
      refine lv_ldc (v := (-1000001)) hx hb hown (hts _ tw268) dX6_carry_17 ?_
      have h := Option.some.inj h
      subst h
      exact wd_iret CF hret hlk hW hS dX6_carry_19
def f_X6_change (a1 : Int32) (a2 : Int32) (D : wd_D) : Option (Int32 × wd_D) := (if (f_X6_noChild a1 D) = 0 then (if (f_X6_noChild a2 D) = 0 then (if a1 = a2 then some ((-1000001), D) else (f_X2_keep 4 D).bind (fun q4 => (f_X3_swapCots 4 a1 a2 q4).bind (fun q5 => (rd 7 q5 (4 + 5) a1).bind (fun x6 => some (x6, q5))))) else some ((-1000001), D)) else some ((-1000001), D))
set_option maxHeartbeats 4000000 in
set_option maxRecDepth 100000 in
theorem x_X6_change (l : Launch) (X : wd_X) (a1 : Int32) (a2 : Int32) (D : wd_D) {qv : Int32 × wd_D} (h : f_X6_change a1 a2 D = some qv) : wd_Met l X yX6_change cX6_change 3 (some FieldType.int) ({ frames := 3, cells := 0, slots := 0, locals := 300 }) S0 S0 ([.ref (X.2.2.1 + 0), .int a1, .int a2] : List Value) D qv.2 (some (.int qv.1)) 0 0 := by
  refine wd_enter (by decide) (Nat.le_of_ble_eq_true rfl) ?_
  intro p e s m below meth c CF hret hlk hnm hW hE ls hl
  have CF : CallFix p m c cX6_change 3 s ([.ref (X.2.2.1 + 0), .int a1, .int a2] : List Value).toArray tg RX6 := CF
  have hx := CF.1
  have hb := CF.2.1
  have hown := CF.2.2.2.1
  have hts := CF.2.2.2.2
  have hS : va_S (wd_A X) s.heap s.heap [] := va_S.rf
  have hl : lv_has ls 3 [(0, .ref (X.2.2.1 + 0)), (1, .int a1), (2, .int a2)] := hl
  unfold f_X6_change at h
  refine lv_aload_n hx hb dX6_change_0 rfl (lv_at hl 0 rfl) ?_
  refine lv_iload_n hx hb dX6_change_1 rfl (lv_at hl 1 rfl) ?_
  refine wd_callVr (ci := 6) (k := 0) CF hE hW hS (x_X6_noChild l X a1 D) mi_X6_noChild vi_X6_noChild tw464 ⟨by decide, rfl⟩ sh_0 ⟨rfl, rfl, Nat.le_of_ble_eq_true rfl, Nat.le_of_ble_eq_true rfl⟩ rfl hl.1 rfl (Nat.le_of_ble_eq_true rfl) dX6_change_2 ⟨Nat.le_of_ble_eq_true rfl, Nat.le_of_ble_eq_true rfl⟩ (fun H locs hW hS => ?_)
  refine lv_if_ne (tgt := 21) hx hb dX6_change_5 (by decide) (fun c1 => ?_) (fun c1 => ?_)
  · rw [if_neg c1] at h
    refine lv_ldc (v := (-1000001)) hx hb hown (hts _ tw268) dX6_change_21 ?_
    have h := Option.some.inj h
    subst h
    exact wd_iret CF hret hlk hW hS dX6_change_23
  · rw [if_pos c1] at h
    refine lv_aload_n hx hb dX6_change_8 rfl (lv_at hl 0 rfl) ?_
    refine lv_iload_n hx hb dX6_change_9 rfl (lv_at hl 2 rfl) ?_
    refine wd_callVr (ci := 6) (k := 0) CF hE hW hS (x_X6_noChild l X a2 D) mi_X6_noChild vi_X6_noChild tw464 ⟨by decide, rfl⟩ sh_0 ⟨rfl, rfl, Nat.le_of_ble_eq_true rfl, Nat.le_of_ble_eq_true rfl⟩ rfl hl.1 rfl (Nat.le_of_ble_eq_true rfl) dX6_change_10 ⟨Nat.le_of_ble_eq_true rfl, Nat.le_of_ble_eq_true rfl⟩ (fun H locs hW hS => ?_)
    refine lv_if_ne (tgt := 21) hx hb dX6_change_13 (by decide) (fun c2 => ?_) (fun c2 => ?_)
    · rw [if_neg c2] at h
      refine lv_ldc (v := (-1000001)) hx hb hown (hts _ tw268) dX6_change_21 ?_
      have h := Option.some.inj h
      subst h
      exact wd_iret CF hret hlk hW hS dX6_change_23
    · rw [if_pos c2] at h
      refine lv_iload_n hx hb dX6_change_16 rfl (lv_at hl 1 rfl) ?_
      refine lv_iload_n hx hb dX6_change_17 rfl (lv_at hl 2 rfl) ?_
      refine lv_icmp_ne (tgt := 24) hx hb dX6_change_18 (by decide) (fun c3 => ?_) (fun c3 => ?_)
      · rw [if_neg c3] at h
        refine lv_aload_n hx hb dX6_change_24 rfl (lv_at hl 0 rfl) ?_
        refine wd_getR CF hE hW fl_X6_39 sh_0 rf_0_5 rfl dX6_change_25 ?_
        refine lv_aload_n hx hb dX6_change_28 rfl (lv_at hl 0 rfl) ?_
        refine wd_getR CF hE hW fl_X6_25 sh_0 rf_0_2 rfl dX6_change_29 ?_
        obtain ⟨q4, eq4, h⟩ := bdE h
        refine wd_callVv (ci := 2) (k := 23) CF hE hW hS (x_X2_keep l X 4 room_4 D eq4) mi_X2_keep vi_X2_keep tw401 ⟨by decide, rfl⟩ sh_23 ⟨rfl, rfl, Nat.le_of_ble_eq_true rfl, Nat.le_of_ble_eq_true rfl⟩ rfl hl.1 rfl (Nat.le_of_ble_eq_true rfl) dX6_change_32 ⟨Nat.le_of_ble_eq_true rfl, Nat.le_of_ble_eq_true rfl⟩ (fun H locs hW hS => ?_)
        refine lv_aload_n hx hb dX6_change_35 rfl (lv_at hl 0 rfl) ?_
        refine wd_getR CF hE hW fl_X6_25 sh_0 rf_0_2 rfl dX6_change_36 ?_
        refine lv_iload_n hx hb dX6_change_39 rfl (lv_at hl 1 rfl) ?_
        refine lv_iload_n hx hb dX6_change_40 rfl (lv_at hl 2 rfl) ?_
        obtain ⟨q5, eq5, h⟩ := bdE h
        refine wd_callVv (ci := 3) (k := 4) CF hE hW hS (x_X3_swapCots l X 4 room_4 a1 a2 q4 eq5) mi_X3_swapCots vi_X3_swapCots tw483 ⟨by decide, rfl⟩ (rm_s room_4) ⟨rfl, rfl, Nat.le_of_ble_eq_true rfl, Nat.le_of_ble_eq_true rfl⟩ rfl hl.1 rfl (Nat.le_of_ble_eq_true rfl) dX6_change_41 ⟨Nat.le_of_ble_eq_true rfl, Nat.le_of_ble_eq_true rfl⟩ (fun H locs hW hS => ?_)
        refine lv_aload_n hx hb dX6_change_44 rfl (lv_at hl 0 rfl) ?_
        refine wd_getR CF hE hW fl_X6_25 sh_0 rf_0_2 rfl dX6_change_45 ?_
        refine wd_getR CF hE hW fl_X6_178 (rm_s room_4) (rm_r4 room_4) rfl dX6_change_48 ?_
        refine lv_iload_n hx hb dX6_change_51 rfl (lv_at hl 1 rfl) ?_
        obtain ⟨x6, ex6, h⟩ := bdE h
        refine wd_iald CF hE hW (rm_a4 room_4) ex6 dX6_change_52 ?_
        have h := Option.some.inj h
        subst h
        exact wd_iret CF hret hlk hW hS dX6_change_53
      · rw [if_pos c3] at h
        refine lv_ldc (v := (-1000001)) hx hb hown (hts _ tw268) dX6_change_21 ?_
        have h := Option.some.inj h
        subst h
        exact wd_iret CF hret hlk hW hS dX6_change_23
def f_X6_lorry (a1 : Int32) (D : wd_D) : Option (Int32 × wd_D) := (if (f_X6_noRoom D) = 0 then (if (f_X6_beyond a1 0 99) = 0 then (f_X2_keep 4 D).bind (fun q3 => (f_X3_passLorry 4 a1 q3).bind (fun q4 => some (q4.1, q4.2))) else some ((-1000001), D)) else some ((-1000002), D))
set_option maxHeartbeats 4000000 in
set_option maxRecDepth 100000 in
theorem x_X6_lorry (l : Launch) (X : wd_X) (a1 : Int32) (D : wd_D) {qv : Int32 × wd_D} (h : f_X6_lorry a1 D = some qv) : wd_Met l X yX6_lorry cX6_lorry 2 (some FieldType.int) ({ frames := 3, cells := 0, slots := 0, locals := 300 }) S0 S0 ([.ref (X.2.2.1 + 0), .int a1] : List Value) D qv.2 (some (.int qv.1)) 0 0 := by
  refine wd_enter (by decide) (Nat.le_of_ble_eq_true rfl) ?_
  intro p e s m below meth c CF hret hlk hnm hW hE ls hl
  have CF : CallFix p m c cX6_lorry 2 s ([.ref (X.2.2.1 + 0), .int a1] : List Value).toArray tg RX6 := CF
  have hx := CF.1
  have hb := CF.2.1
  have hown := CF.2.2.2.1
  have hts := CF.2.2.2.2
  have hS : va_S (wd_A X) s.heap s.heap [] := va_S.rf
  have hl : lv_has ls 2 [(0, .ref (X.2.2.1 + 0)), (1, .int a1)] := hl
  unfold f_X6_lorry at h
  refine lv_aload_n hx hb dX6_lorry_0 rfl (lv_at hl 0 rfl) ?_
  refine wd_callVr (ci := 6) (k := 0) CF hE hW hS (x_X6_noRoom l X D) mi_X6_noRoom vi_X6_noRoom tw397 ⟨by decide, rfl⟩ sh_0 ⟨rfl, rfl, Nat.le_of_ble_eq_true rfl, Nat.le_of_ble_eq_true rfl⟩ rfl hl.1 rfl (Nat.le_of_ble_eq_true rfl) dX6_lorry_1 ⟨Nat.le_of_ble_eq_true rfl, Nat.le_of_ble_eq_true rfl⟩ (fun H locs hW hS => ?_)
  refine lv_if_eq (tgt := 10) hx hb dX6_lorry_4 (by decide) (fun c1 => ?_) (fun c1 => ?_)
  · rw [if_pos c1] at h
    refine lv_iload_n hx hb dX6_lorry_10 rfl (lv_at hl 1 rfl) ?_
    refine lv_iconst (v := 0) hx hb dX6_lorry_11 (by decide) ?_
    refine lv_bipush (v := 99) hx hb dX6_lorry_12 (by decide) ?_
    refine wd_callSr CF hE hW hS (x_X6_beyond l X a1 0 99 D) mi_X6_beyond vi_X6_beyond tw265 ⟨rfl, rfl, Nat.le_of_ble_eq_true rfl, Nat.le_of_ble_eq_true rfl⟩ rfl hl.1 rfl (Nat.le_of_ble_eq_true rfl) dX6_lorry_14 ⟨Nat.le_of_ble_eq_true rfl, Nat.le_of_ble_eq_true rfl⟩ (fun H locs hW hS => ?_)
    refine lv_if_eq (tgt := 23) hx hb dX6_lorry_17 (by decide) (fun c2 => ?_) (fun c2 => ?_)
    · rw [if_pos c2] at h
      refine lv_aload_n hx hb dX6_lorry_23 rfl (lv_at hl 0 rfl) ?_
      refine wd_getR CF hE hW fl_X6_39 sh_0 rf_0_5 rfl dX6_lorry_24 ?_
      refine lv_aload_n hx hb dX6_lorry_27 rfl (lv_at hl 0 rfl) ?_
      refine wd_getR CF hE hW fl_X6_25 sh_0 rf_0_2 rfl dX6_lorry_28 ?_
      obtain ⟨q3, eq3, h⟩ := bdE h
      refine wd_callVv (ci := 2) (k := 23) CF hE hW hS (x_X2_keep l X 4 room_4 D eq3) mi_X2_keep vi_X2_keep tw401 ⟨by decide, rfl⟩ sh_23 ⟨rfl, rfl, Nat.le_of_ble_eq_true rfl, Nat.le_of_ble_eq_true rfl⟩ rfl hl.1 rfl (Nat.le_of_ble_eq_true rfl) dX6_lorry_31 ⟨Nat.le_of_ble_eq_true rfl, Nat.le_of_ble_eq_true rfl⟩ (fun H locs hW hS => ?_)
      refine lv_aload_n hx hb dX6_lorry_34 rfl (lv_at hl 0 rfl) ?_
      refine wd_getR CF hE hW fl_X6_25 sh_0 rf_0_2 rfl dX6_lorry_35 ?_
      refine lv_iload_n hx hb dX6_lorry_38 rfl (lv_at hl 1 rfl) ?_
      obtain ⟨q4, eq4, h⟩ := bdE h
      refine wd_callVr (ci := 3) (k := 4) CF hE hW hS (x_X3_passLorry l X 4 room_4 a1 q3 eq4) mi_X3_passLorry vi_X3_passLorry tw491 ⟨by decide, rfl⟩ (rm_s room_4) ⟨rfl, rfl, Nat.le_of_ble_eq_true rfl, Nat.le_of_ble_eq_true rfl⟩ rfl hl.1 rfl (Nat.le_of_ble_eq_true rfl) dX6_lorry_39 ⟨Nat.le_of_ble_eq_true rfl, Nat.le_of_ble_eq_true rfl⟩ (fun H locs hW hS => ?_)
      have h := Option.some.inj h
      subst h
      exact wd_iret CF hret hlk hW hS dX6_lorry_42
    · rw [if_neg c2] at h
      refine lv_ldc (v := (-1000001)) hx hb hown (hts _ tw268) dX6_lorry_20 ?_
      have h := Option.some.inj h
      subst h
      exact wd_iret CF hret hlk hW hS dX6_lorry_22
  · rw [if_neg c1] at h
    refine lv_ldc (v := (-1000002)) hx hb hown (hts _ tw387) dX6_lorry_7 ?_
    have h := Option.some.inj h
    subst h
    exact wd_iret CF hret hlk hW hS dX6_lorry_9
def f_X6_need (a1 : Int32) (a2 : Int32) (D : wd_D) : Option (Int32 × wd_D) := (if (f_X6_noChild a1 D) = 0 then (if (f_X6_beyond a2 1 9) = 0 then (f_X2_keep 4 D).bind (fun q3 => (rd 7 q3 (4 + 2) a1).bind (fun x4 => (wr 7 q3 (4 + 2) a1 a2).bind (fun D5 => some (x4, D5)))) else some ((-1000001), D)) else some ((-1000001), D))
set_option maxHeartbeats 4000000 in
set_option maxRecDepth 100000 in
theorem x_X6_need (l : Launch) (X : wd_X) (a1 : Int32) (a2 : Int32) (D : wd_D) {qv : Int32 × wd_D} (h : f_X6_need a1 a2 D = some qv) : wd_Met l X yX6_need cX6_need 4 (some FieldType.int) ({ frames := 3, cells := 0, slots := 0, locals := 300 }) S0 S0 ([.ref (X.2.2.1 + 0), .int a1, .int a2] : List Value) D qv.2 (some (.int qv.1)) 0 0 := by
  refine wd_enter (by decide) (Nat.le_of_ble_eq_true rfl) ?_
  intro p e s m below meth c CF hret hlk hnm hW hE ls hl
  have CF : CallFix p m c cX6_need 4 s ([.ref (X.2.2.1 + 0), .int a1, .int a2] : List Value).toArray tg RX6 := CF
  have hx := CF.1
  have hb := CF.2.1
  have hown := CF.2.2.2.1
  have hts := CF.2.2.2.2
  have hS : va_S (wd_A X) s.heap s.heap [] := va_S.rf
  have hl : lv_has ls 4 [(0, .ref (X.2.2.1 + 0)), (1, .int a1), (2, .int a2)] := hl
  unfold f_X6_need at h
  refine lv_aload_n hx hb dX6_need_0 rfl (lv_at hl 0 rfl) ?_
  refine lv_iload_n hx hb dX6_need_1 rfl (lv_at hl 1 rfl) ?_
  refine wd_callVr (ci := 6) (k := 0) CF hE hW hS (x_X6_noChild l X a1 D) mi_X6_noChild vi_X6_noChild tw464 ⟨by decide, rfl⟩ sh_0 ⟨rfl, rfl, Nat.le_of_ble_eq_true rfl, Nat.le_of_ble_eq_true rfl⟩ rfl hl.1 rfl (Nat.le_of_ble_eq_true rfl) dX6_need_2 ⟨Nat.le_of_ble_eq_true rfl, Nat.le_of_ble_eq_true rfl⟩ (fun H locs hW hS => ?_)
  refine lv_if_ne (tgt := 18) hx hb dX6_need_5 (by decide) (fun c1 => ?_) (fun c1 => ?_)
  · rw [if_neg c1] at h
    refine lv_ldc (v := (-1000001)) hx hb hown (hts _ tw268) dX6_need_18 ?_
    have h := Option.some.inj h
    subst h
    exact wd_iret CF hret hlk hW hS dX6_need_20
  · rw [if_pos c1] at h
    refine lv_iload_n hx hb dX6_need_8 rfl (lv_at hl 2 rfl) ?_
    refine lv_iconst (v := 1) hx hb dX6_need_9 (by decide) ?_
    refine lv_bipush (v := 9) hx hb dX6_need_10 (by decide) ?_
    refine wd_callSr CF hE hW hS (x_X6_beyond l X a2 1 9 D) mi_X6_beyond vi_X6_beyond tw265 ⟨rfl, rfl, Nat.le_of_ble_eq_true rfl, Nat.le_of_ble_eq_true rfl⟩ rfl hl.1 rfl (Nat.le_of_ble_eq_true rfl) dX6_need_12 ⟨Nat.le_of_ble_eq_true rfl, Nat.le_of_ble_eq_true rfl⟩ (fun H locs hW hS => ?_)
    refine lv_if_eq (tgt := 21) hx hb dX6_need_15 (by decide) (fun c2 => ?_) (fun c2 => ?_)
    · rw [if_pos c2] at h
      refine lv_aload_n hx hb dX6_need_21 rfl (lv_at hl 0 rfl) ?_
      refine wd_getR CF hE hW fl_X6_39 sh_0 rf_0_5 rfl dX6_need_22 ?_
      refine lv_aload_n hx hb dX6_need_25 rfl (lv_at hl 0 rfl) ?_
      refine wd_getR CF hE hW fl_X6_25 sh_0 rf_0_2 rfl dX6_need_26 ?_
      obtain ⟨q3, eq3, h⟩ := bdE h
      refine wd_callVv (ci := 2) (k := 23) CF hE hW hS (x_X2_keep l X 4 room_4 D eq3) mi_X2_keep vi_X2_keep tw401 ⟨by decide, rfl⟩ sh_23 ⟨rfl, rfl, Nat.le_of_ble_eq_true rfl, Nat.le_of_ble_eq_true rfl⟩ rfl hl.1 rfl (Nat.le_of_ble_eq_true rfl) dX6_need_29 ⟨Nat.le_of_ble_eq_true rfl, Nat.le_of_ble_eq_true rfl⟩ (fun H locs hW hS => ?_)
      refine lv_aload_n hx hb dX6_need_32 rfl (lv_at hl 0 rfl) ?_
      refine wd_getR CF hE hW fl_X6_25 sh_0 rf_0_2 rfl dX6_need_33 ?_
      refine wd_getR CF hE hW fl_X6_184 (rm_s room_4) (rm_r1 room_4) rfl dX6_need_36 ?_
      refine lv_iload_n hx hb dX6_need_39 rfl (lv_at hl 1 rfl) ?_
      obtain ⟨x4, ex4, h⟩ := bdE h
      refine wd_iald CF hE hW (rm_a1 room_4) ex4 dX6_need_40 ?_
      refine lv_istore_n (lv' := [(3, .int x4), (0, .ref (X.2.2.1 + 0)), (1, .int a1), (2, .int a2)]) hx hb dX6_need_41 rfl hl (by decide) rfl (fun ls hl => ?_)
      refine lv_aload_n hx hb dX6_need_42 rfl (lv_at hl 1 rfl) ?_
      refine wd_getR CF hE hW fl_X6_25 sh_0 rf_0_2 rfl dX6_need_43 ?_
      refine wd_getR CF hE hW fl_X6_184 (rm_s room_4) (rm_r1 room_4) rfl dX6_need_46 ?_
      refine lv_iload_n hx hb dX6_need_49 rfl (lv_at hl 2 rfl) ?_
      refine lv_iload_n hx hb dX6_need_50 rfl (lv_at hl 3 rfl) ?_
      obtain ⟨D5, eD5, h⟩ := bdE h
      refine wd_iast CF hE hW hS (rm_a1 room_4) eD5 dX6_need_51 (fun H locs hW hS => ?_)
      refine lv_iload_n hx hb dX6_need_52 rfl (lv_at hl 0 rfl) ?_
      have h := Option.some.inj h
      subst h
      exact wd_iret CF hret hlk hW hS dX6_need_53
    · rw [if_neg c2] at h
      refine lv_ldc (v := (-1000001)) hx hb hown (hts _ tw268) dX6_need_18 ?_
      have h := Option.some.inj h
      subst h
      exact wd_iret CF hret hlk hW hS dX6_need_20
def f_X6_child (a1 : Int32) (a2 : Int32) (D : wd_D) : Option (Int32) := (if (f_X6_noChild a1 D) = 0 then (if a2 = 0 then (rd 7 D (4 + 2) a1).bind (fun x3 => some x3) else (if a2 = 1 then (rd 7 D (4 + 3) a1).bind (fun x5 => some x5) else (if a2 = 2 then (rd 7 D (4 + 4) a1).bind (fun x7 => some x7) else (if a2 = 3 then (rd 7 D (4 + 5) a1).bind (fun x9 => some x9) else (if a2 = 4 then (rd 7 D (4 + 6) a1).bind (fun x11 => some x11) else (if a2 = 5 then (rd 7 D (4 + 7) a1).bind (fun x13 => some x13) else (if a2 = 6 then (rd 7 D (4 + 8) a1).bind (fun x15 => some x15) else (if a2 = 7 then (f_X3_heardCriers 4 D).bind (fun x17 => (f_X3_noiseAt 4 a1 x17 D).bind (fun x18 => some x18)) else some (-1000001))))))))) else some (-1000001))
set_option maxHeartbeats 4000000 in
set_option maxRecDepth 100000 in
theorem x_X6_child (l : Launch) (X : wd_X) (a1 : Int32) (a2 : Int32) (D : wd_D) {rv : Int32} (h : f_X6_child a1 a2 D = some rv) : wd_Met l X yX6_child cX6_child 3 (some FieldType.int) ({ frames := 2, cells := 0, slots := 0, locals := 200 }) S0 S0 ([.ref (X.2.2.1 + 0), .int a1, .int a2] : List Value) D D (some (.int rv)) 0 0 := by
  refine wd_enter (by decide) (Nat.le_of_ble_eq_true rfl) ?_
  intro p e s m below meth c CF hret hlk hnm hW hE ls hl
  have CF : CallFix p m c cX6_child 3 s ([.ref (X.2.2.1 + 0), .int a1, .int a2] : List Value).toArray tg RX6 := CF
  have hx := CF.1
  have hb := CF.2.1
  have hown := CF.2.2.2.1
  have hts := CF.2.2.2.2
  have hS : va_S (wd_A X) s.heap s.heap [] := va_S.rf
  have hl : lv_has ls 3 [(0, .ref (X.2.2.1 + 0)), (1, .int a1), (2, .int a2)] := hl
  unfold f_X6_child at h
  refine lv_aload_n hx hb dX6_child_0 rfl (lv_at hl 0 rfl) ?_
  refine lv_iload_n hx hb dX6_child_1 rfl (lv_at hl 1 rfl) ?_
  refine wd_callVr (ci := 6) (k := 0) CF hE hW hS (x_X6_noChild l X a1 D) mi_X6_noChild vi_X6_noChild tw464 ⟨by decide, rfl⟩ sh_0 ⟨rfl, rfl, Nat.le_of_ble_eq_true rfl, Nat.le_of_ble_eq_true rfl⟩ rfl hl.1 rfl (Nat.le_of_ble_eq_true rfl) dX6_child_2 ⟨Nat.le_of_ble_eq_true rfl, Nat.le_of_ble_eq_true rfl⟩ (fun H locs hW hS => ?_)
  refine lv_if_eq (tgt := 11) hx hb dX6_child_5 (by decide) (fun c1 => ?_) (fun c1 => ?_)
  · rw [if_pos c1] at h
    refine lv_iload_n hx hb dX6_child_11 rfl (lv_at hl 2 rfl) ?_
    by_cases c2 : a2 = 0
    · rw [if_pos c2] at h
      refine lv_tableIn (tgt := 60) (off := 48) hx hb dX6_child_12 (by rw [c2]; decide) (by rw [c2]; decide) (by rw [c2]; rfl) (by decide) ?_
      refine lv_aload_n hx hb dX6_child_60 rfl (lv_at hl 0 rfl) ?_
      refine wd_getR CF hE hW fl_X6_25 sh_0 rf_0_2 rfl dX6_child_61 ?_
      refine wd_getR CF hE hW fl_X6_184 (rm_s room_4) (rm_r1 room_4) rfl dX6_child_64 ?_
      refine lv_iload_n hx hb dX6_child_67 rfl (lv_at hl 1 rfl) ?_
      obtain ⟨x3, ex3, h⟩ := bdE h
      refine wd_iald CF hE hW (rm_a1 room_4) ex3 dX6_child_68 ?_
      have h := Option.some.inj h
      subst h
      exact wd_iret CF hret hlk hW hS dX6_child_69
    · rw [if_neg c2] at h
      by_cases c4 : a2 = 1
      · rw [if_pos c4] at h
        refine lv_tableIn (tgt := 70) (off := 58) hx hb dX6_child_12 (by rw [c4]; decide) (by rw [c4]; decide) (by rw [c4]; rfl) (by decide) ?_
        refine lv_aload_n hx hb dX6_child_70 rfl (lv_at hl 0 rfl) ?_
        refine wd_getR CF hE hW fl_X6_25 sh_0 rf_0_2 rfl dX6_child_71 ?_
        refine wd_getR CF hE hW fl_X6_187 (rm_s room_4) (rm_r2 room_4) rfl dX6_child_74 ?_
        refine lv_iload_n hx hb dX6_child_77 rfl (lv_at hl 1 rfl) ?_
        obtain ⟨x5, ex5, h⟩ := bdE h
        refine wd_iald CF hE hW (rm_a2 room_4) ex5 dX6_child_78 ?_
        have h := Option.some.inj h
        subst h
        exact wd_iret CF hret hlk hW hS dX6_child_79
      · rw [if_neg c4] at h
        by_cases c6 : a2 = 2
        · rw [if_pos c6] at h
          refine lv_tableIn (tgt := 80) (off := 68) hx hb dX6_child_12 (by rw [c6]; decide) (by rw [c6]; decide) (by rw [c6]; rfl) (by decide) ?_
          refine lv_aload_n hx hb dX6_child_80 rfl (lv_at hl 0 rfl) ?_
          refine wd_getR CF hE hW fl_X6_25 sh_0 rf_0_2 rfl dX6_child_81 ?_
          refine wd_getR CF hE hW fl_X6_190 (rm_s room_4) (rm_r3 room_4) rfl dX6_child_84 ?_
          refine lv_iload_n hx hb dX6_child_87 rfl (lv_at hl 1 rfl) ?_
          obtain ⟨x7, ex7, h⟩ := bdE h
          refine wd_iald CF hE hW (rm_a3 room_4) ex7 dX6_child_88 ?_
          have h := Option.some.inj h
          subst h
          exact wd_iret CF hret hlk hW hS dX6_child_89
        · rw [if_neg c6] at h
          by_cases c8 : a2 = 3
          · rw [if_pos c8] at h
            refine lv_tableIn (tgt := 90) (off := 78) hx hb dX6_child_12 (by rw [c8]; decide) (by rw [c8]; decide) (by rw [c8]; rfl) (by decide) ?_
            refine lv_aload_n hx hb dX6_child_90 rfl (lv_at hl 0 rfl) ?_
            refine wd_getR CF hE hW fl_X6_25 sh_0 rf_0_2 rfl dX6_child_91 ?_
            refine wd_getR CF hE hW fl_X6_178 (rm_s room_4) (rm_r4 room_4) rfl dX6_child_94 ?_
            refine lv_iload_n hx hb dX6_child_97 rfl (lv_at hl 1 rfl) ?_
            obtain ⟨x9, ex9, h⟩ := bdE h
            refine wd_iald CF hE hW (rm_a4 room_4) ex9 dX6_child_98 ?_
            have h := Option.some.inj h
            subst h
            exact wd_iret CF hret hlk hW hS dX6_child_99
          · rw [if_neg c8] at h
            by_cases c10 : a2 = 4
            · rw [if_pos c10] at h
              refine lv_tableIn (tgt := 100) (off := 88) hx hb dX6_child_12 (by rw [c10]; decide) (by rw [c10]; decide) (by rw [c10]; rfl) (by decide) ?_
              refine lv_aload_n hx hb dX6_child_100 rfl (lv_at hl 0 rfl) ?_
              refine wd_getR CF hE hW fl_X6_25 sh_0 rf_0_2 rfl dX6_child_101 ?_
              refine wd_getR CF hE hW fl_X6_193 (rm_s room_4) (rm_r5 room_4) rfl dX6_child_104 ?_
              refine lv_iload_n hx hb dX6_child_107 rfl (lv_at hl 1 rfl) ?_
              obtain ⟨x11, ex11, h⟩ := bdE h
              refine wd_iald CF hE hW (rm_a5 room_4) ex11 dX6_child_108 ?_
              have h := Option.some.inj h
              subst h
              exact wd_iret CF hret hlk hW hS dX6_child_109
            · rw [if_neg c10] at h
              by_cases c12 : a2 = 5
              · rw [if_pos c12] at h
                refine lv_tableIn (tgt := 110) (off := 98) hx hb dX6_child_12 (by rw [c12]; decide) (by rw [c12]; decide) (by rw [c12]; rfl) (by decide) ?_
                refine lv_aload_n hx hb dX6_child_110 rfl (lv_at hl 0 rfl) ?_
                refine wd_getR CF hE hW fl_X6_25 sh_0 rf_0_2 rfl dX6_child_111 ?_
                refine wd_getR CF hE hW fl_X6_196 (rm_s room_4) (rm_r6 room_4) rfl dX6_child_114 ?_
                refine lv_iload_n hx hb dX6_child_117 rfl (lv_at hl 1 rfl) ?_
                obtain ⟨x13, ex13, h⟩ := bdE h
                refine wd_iald CF hE hW (rm_a6 room_4) ex13 dX6_child_118 ?_
                have h := Option.some.inj h
                subst h
                exact wd_iret CF hret hlk hW hS dX6_child_119
              · rw [if_neg c12] at h
                by_cases c14 : a2 = 6
                · rw [if_pos c14] at h
                  refine lv_tableIn (tgt := 120) (off := 108) hx hb dX6_child_12 (by rw [c14]; decide) (by rw [c14]; decide) (by rw [c14]; rfl) (by decide) ?_
                  refine lv_aload_n hx hb dX6_child_120 rfl (lv_at hl 0 rfl) ?_
                  refine wd_getR CF hE hW fl_X6_25 sh_0 rf_0_2 rfl dX6_child_121 ?_
                  refine wd_getR CF hE hW fl_X6_199 (rm_s room_4) (rm_r7 room_4) rfl dX6_child_124 ?_
                  refine lv_iload_n hx hb dX6_child_127 rfl (lv_at hl 1 rfl) ?_
                  obtain ⟨x15, ex15, h⟩ := bdE h
                  refine wd_iald CF hE hW (rm_a7 room_4) ex15 dX6_child_128 ?_
                  have h := Option.some.inj h
                  subst h
                  exact wd_iret CF hret hlk hW hS dX6_child_129
                · rw [if_neg c14] at h
                  by_cases c16 : a2 = 7
                  · rw [if_pos c16] at h
                    refine lv_tableIn (tgt := 130) (off := 118) hx hb dX6_child_12 (by rw [c16]; decide) (by rw [c16]; decide) (by rw [c16]; rfl) (by decide) ?_
                    refine lv_aload_n hx hb dX6_child_130 rfl (lv_at hl 0 rfl) ?_
                    refine wd_getR CF hE hW fl_X6_25 sh_0 rf_0_2 rfl dX6_child_131 ?_
                    refine lv_iload_n hx hb dX6_child_134 rfl (lv_at hl 1 rfl) ?_
                    refine lv_aload_n hx hb dX6_child_135 rfl (lv_at hl 0 rfl) ?_
                    refine wd_getR CF hE hW fl_X6_25 sh_0 rf_0_2 rfl dX6_child_136 ?_
                    obtain ⟨x17, ex17, h⟩ := bdE h
                    refine wd_callVr (ci := 3) (k := 4) CF hE hW hS (x_X3_heardCriers l X 4 room_4 D ex17) mi_X3_heardCriers vi_X3_heardCriers tw503 ⟨by decide, rfl⟩ (rm_s room_4) ⟨rfl, rfl, Nat.le_of_ble_eq_true rfl, Nat.le_of_ble_eq_true rfl⟩ rfl hl.1 rfl (Nat.le_of_ble_eq_true rfl) dX6_child_139 ⟨Nat.le_of_ble_eq_true rfl, Nat.le_of_ble_eq_true rfl⟩ (fun H locs hW hS => ?_)
                    obtain ⟨x18, ex18, h⟩ := bdE h
                    refine wd_callVr (ci := 3) (k := 4) CF hE hW hS (x_X3_noiseAt l X 4 room_4 a1 x17 D ex18) mi_X3_noiseAt vi_X3_noiseAt tw504 ⟨by decide, rfl⟩ (rm_s room_4) ⟨rfl, rfl, Nat.le_of_ble_eq_true rfl, Nat.le_of_ble_eq_true rfl⟩ rfl hl.1 rfl (Nat.le_of_ble_eq_true rfl) dX6_child_142 ⟨Nat.le_of_ble_eq_true rfl, Nat.le_of_ble_eq_true rfl⟩ (fun H locs hW hS => ?_)
                    have h := Option.some.inj h
                    subst h
                    exact wd_iret CF hret hlk hW hS dX6_child_145
                  · rw [if_neg c16] at h
                    have ic2 := lv_neT (a := 0) c2 (by decide)
                    have ic4 := lv_neT (a := 1) c4 (by decide)
                    have ic6 := lv_neT (a := 2) c6 (by decide)
                    have ic8 := lv_neT (a := 3) c8 (by decide)
                    have ic10 := lv_neT (a := 4) c10 (by decide)
                    have ic12 := lv_neT (a := 5) c12 (by decide)
                    have ic14 := lv_neT (a := 6) c14 (by decide)
                    have ic16 := lv_neT (a := 7) c16 (by decide)
                    refine lv_tableOut (tgt := 146) hx hb dX6_child_12 (by omega) (by decide) ?_
                    refine lv_ldc (v := (-1000001)) hx hb hown (hts _ tw268) dX6_child_146 ?_
                    have h := Option.some.inj h
                    subst h
                    exact wd_iret CF hret hlk hW hS dX6_child_148
  · rw [if_neg c1] at h
    refine lv_ldc (v := (-1000001)) hx hb hown (hts _ tw268) dX6_child_8 ?_
    have h := Option.some.inj h
    subst h
    exact wd_iret CF hret hlk hW hS dX6_child_10
def f_X6_stand (a1 : Int32) (D : wd_D) : Option (Int32) := (if (f_X6_noRoom D) = 0 then (if a1 = 0 then (f_X3_thoseWho 4 0 D).bind (fun x3 => some x3) else (if a1 = 1 then (f_X3_thoseWho 4 1 D).bind (fun x5 => some x5) else (if a1 = 2 then (f_X3_thoseWho 4 2 D).bind (fun x7 => some x7) else (if a1 = 3 then some (gI D 4 5) else (if a1 = 4 then some (gI D 4 4) else some (-1000001)))))) else some (-1000002))
set_option maxHeartbeats 4000000 in
set_option maxRecDepth 100000 in
theorem x_X6_stand (l : Launch) (X : wd_X) (a1 : Int32) (D : wd_D) {rv : Int32} (h : f_X6_stand a1 D = some rv) : wd_Met l X yX6_stand cX6_stand 2 (some FieldType.int) ({ frames := 1, cells := 0, slots := 0, locals := 100 }) S0 S0 ([.ref (X.2.2.1 + 0), .int a1] : List Value) D D (some (.int rv)) 0 0 := by
  refine wd_enter (by decide) (Nat.le_of_ble_eq_true rfl) ?_
  intro p e s m below meth c CF hret hlk hnm hW hE ls hl
  have CF : CallFix p m c cX6_stand 2 s ([.ref (X.2.2.1 + 0), .int a1] : List Value).toArray tg RX6 := CF
  have hx := CF.1
  have hb := CF.2.1
  have hown := CF.2.2.2.1
  have hts := CF.2.2.2.2
  have hS : va_S (wd_A X) s.heap s.heap [] := va_S.rf
  have hl : lv_has ls 2 [(0, .ref (X.2.2.1 + 0)), (1, .int a1)] := hl
  unfold f_X6_stand at h
  refine lv_aload_n hx hb dX6_stand_0 rfl (lv_at hl 0 rfl) ?_
  refine wd_callVr (ci := 6) (k := 0) CF hE hW hS (x_X6_noRoom l X D) mi_X6_noRoom vi_X6_noRoom tw397 ⟨by decide, rfl⟩ sh_0 ⟨rfl, rfl, Nat.le_of_ble_eq_true rfl, Nat.le_of_ble_eq_true rfl⟩ rfl hl.1 rfl (Nat.le_of_ble_eq_true rfl) dX6_stand_1 ⟨Nat.le_of_ble_eq_true rfl, Nat.le_of_ble_eq_true rfl⟩ (fun H locs hW hS => ?_)
  refine lv_if_eq (tgt := 10) hx hb dX6_stand_4 (by decide) (fun c1 => ?_) (fun c1 => ?_)
  · rw [if_pos c1] at h
    refine lv_iload_n hx hb dX6_stand_10 rfl (lv_at hl 1 rfl) ?_
    by_cases c2 : a1 = 0
    · rw [if_pos c2] at h
      refine lv_tableIn (tgt := 44) (off := 33) hx hb dX6_stand_11 (by rw [c2]; decide) (by rw [c2]; decide) (by rw [c2]; rfl) (by decide) ?_
      refine lv_aload_n hx hb dX6_stand_44 rfl (lv_at hl 0 rfl) ?_
      refine wd_getR CF hE hW fl_X6_25 sh_0 rf_0_2 rfl dX6_stand_45 ?_
      refine lv_iconst (v := 0) hx hb dX6_stand_48 (by decide) ?_
      obtain ⟨x3, ex3, h⟩ := bdE h
      refine wd_callVr (ci := 3) (k := 4) CF hE hW hS (x_X3_thoseWho l X 4 room_4 0 D ex3) mi_X3_thoseWho vi_X3_thoseWho tw459 ⟨by decide, rfl⟩ (rm_s room_4) ⟨rfl, rfl, Nat.le_of_ble_eq_true rfl, Nat.le_of_ble_eq_true rfl⟩ rfl hl.1 rfl (Nat.le_of_ble_eq_true rfl) dX6_stand_49 ⟨Nat.le_of_ble_eq_true rfl, Nat.le_of_ble_eq_true rfl⟩ (fun H locs hW hS => ?_)
      have h := Option.some.inj h
      subst h
      exact wd_iret CF hret hlk hW hS dX6_stand_52
    · rw [if_neg c2] at h
      by_cases c4 : a1 = 1
      · rw [if_pos c4] at h
        refine lv_tableIn (tgt := 53) (off := 42) hx hb dX6_stand_11 (by rw [c4]; decide) (by rw [c4]; decide) (by rw [c4]; rfl) (by decide) ?_
        refine lv_aload_n hx hb dX6_stand_53 rfl (lv_at hl 0 rfl) ?_
        refine wd_getR CF hE hW fl_X6_25 sh_0 rf_0_2 rfl dX6_stand_54 ?_
        refine lv_iconst (v := 1) hx hb dX6_stand_57 (by decide) ?_
        obtain ⟨x5, ex5, h⟩ := bdE h
        refine wd_callVr (ci := 3) (k := 4) CF hE hW hS (x_X3_thoseWho l X 4 room_4 1 D ex5) mi_X3_thoseWho vi_X3_thoseWho tw459 ⟨by decide, rfl⟩ (rm_s room_4) ⟨rfl, rfl, Nat.le_of_ble_eq_true rfl, Nat.le_of_ble_eq_true rfl⟩ rfl hl.1 rfl (Nat.le_of_ble_eq_true rfl) dX6_stand_58 ⟨Nat.le_of_ble_eq_true rfl, Nat.le_of_ble_eq_true rfl⟩ (fun H locs hW hS => ?_)
        have h := Option.some.inj h
        subst h
        exact wd_iret CF hret hlk hW hS dX6_stand_61
      · rw [if_neg c4] at h
        by_cases c6 : a1 = 2
        · rw [if_pos c6] at h
          refine lv_tableIn (tgt := 62) (off := 51) hx hb dX6_stand_11 (by rw [c6]; decide) (by rw [c6]; decide) (by rw [c6]; rfl) (by decide) ?_
          refine lv_aload_n hx hb dX6_stand_62 rfl (lv_at hl 0 rfl) ?_
          refine wd_getR CF hE hW fl_X6_25 sh_0 rf_0_2 rfl dX6_stand_63 ?_
          refine lv_iconst (v := 2) hx hb dX6_stand_66 (by decide) ?_
          obtain ⟨x7, ex7, h⟩ := bdE h
          refine wd_callVr (ci := 3) (k := 4) CF hE hW hS (x_X3_thoseWho l X 4 room_4 2 D ex7) mi_X3_thoseWho vi_X3_thoseWho tw459 ⟨by decide, rfl⟩ (rm_s room_4) ⟨rfl, rfl, Nat.le_of_ble_eq_true rfl, Nat.le_of_ble_eq_true rfl⟩ rfl hl.1 rfl (Nat.le_of_ble_eq_true rfl) dX6_stand_67 ⟨Nat.le_of_ble_eq_true rfl, Nat.le_of_ble_eq_true rfl⟩ (fun H locs hW hS => ?_)
          have h := Option.some.inj h
          subst h
          exact wd_iret CF hret hlk hW hS dX6_stand_70
        · rw [if_neg c6] at h
          by_cases c8 : a1 = 3
          · rw [if_pos c8] at h
            refine lv_tableIn (tgt := 71) (off := 60) hx hb dX6_stand_11 (by rw [c8]; decide) (by rw [c8]; decide) (by rw [c8]; rfl) (by decide) ?_
            refine lv_aload_n hx hb dX6_stand_71 rfl (lv_at hl 0 rfl) ?_
            refine wd_getR CF hE hW fl_X6_25 sh_0 rf_0_2 rfl dX6_stand_72 ?_
            refine wd_get CF hE hW fl_X6_172 (rm_s room_4) (v := .int (gI D 4 5)) rfl dX6_stand_75 ?_
            have h := Option.some.inj h
            subst h
            exact wd_iret CF hret hlk hW hS dX6_stand_78
          · rw [if_neg c8] at h
            by_cases c9 : a1 = 4
            · rw [if_pos c9] at h
              refine lv_tableIn (tgt := 79) (off := 68) hx hb dX6_stand_11 (by rw [c9]; decide) (by rw [c9]; decide) (by rw [c9]; rfl) (by decide) ?_
              refine lv_aload_n hx hb dX6_stand_79 rfl (lv_at hl 0 rfl) ?_
              refine wd_getR CF hE hW fl_X6_25 sh_0 rf_0_2 rfl dX6_stand_80 ?_
              refine wd_get CF hE hW fl_X6_158 (rm_s room_4) (v := .int (gI D 4 4)) rfl dX6_stand_83 ?_
              have h := Option.some.inj h
              subst h
              exact wd_iret CF hret hlk hW hS dX6_stand_86
            · rw [if_neg c9] at h
              have ic2 := lv_neT (a := 0) c2 (by decide)
              have ic4 := lv_neT (a := 1) c4 (by decide)
              have ic6 := lv_neT (a := 2) c6 (by decide)
              have ic8 := lv_neT (a := 3) c8 (by decide)
              have ic9 := lv_neT (a := 4) c9 (by decide)
              refine lv_tableOut (tgt := 87) hx hb dX6_stand_11 (by omega) (by decide) ?_
              refine lv_ldc (v := (-1000001)) hx hb hown (hts _ tw268) dX6_stand_87 ?_
              have h := Option.some.inj h
              subst h
              exact wd_iret CF hret hlk hW hS dX6_stand_89
  · rw [if_neg c1] at h
    refine lv_ldc (v := (-1000002)) hx hb hown (hts _ tw387) dX6_stand_7 ?_
    have h := Option.some.inj h
    subst h
    exact wd_iret CF hret hlk hW hS dX6_stand_9
def f_X6_ahead (a1 : Int32) (a2 : Int32) (D : wd_D) : Option (Int32 × wd_D) := (if (f_X6_noRoom D) = 0 then (if (f_X6_beyond a1 0 60) = 0 then (if (f_X6_beyond a2 0 2) = 0 then (f_X1_after 4 a1 D).bind (fun q4 => (f_X3_thoseWho 242 a2 q4).bind (fun x5 => some (x5, q4))) else some ((-1000001), D)) else some ((-1000001), D)) else some ((-1000002), D))
set_option maxHeartbeats 4000000 in
set_option maxRecDepth 100000 in
theorem x_X6_ahead (l : Launch) (X : wd_X) (a1 : Int32) (a2 : Int32) (D : wd_D) {qv : Int32 × wd_D} (h : f_X6_ahead a1 a2 D = some qv) : wd_Met l X yX6_ahead cX6_ahead 3 (some FieldType.int) ({ frames := 6, cells := 0, slots := 0, locals := 600 }) S0 S0 ([.ref (X.2.2.1 + 0), .int a1, .int a2] : List Value) D qv.2 (some (.int qv.1)) 0 0 := by
  refine wd_enter (by decide) (Nat.le_of_ble_eq_true rfl) ?_
  intro p e s m below meth c CF hret hlk hnm hW hE ls hl
  have CF : CallFix p m c cX6_ahead 3 s ([.ref (X.2.2.1 + 0), .int a1, .int a2] : List Value).toArray tg RX6 := CF
  have hx := CF.1
  have hb := CF.2.1
  have hown := CF.2.2.2.1
  have hts := CF.2.2.2.2
  have hS : va_S (wd_A X) s.heap s.heap [] := va_S.rf
  have hl : lv_has ls 3 [(0, .ref (X.2.2.1 + 0)), (1, .int a1), (2, .int a2)] := hl
  unfold f_X6_ahead at h
  refine lv_aload_n hx hb dX6_ahead_0 rfl (lv_at hl 0 rfl) ?_
  refine wd_callVr (ci := 6) (k := 0) CF hE hW hS (x_X6_noRoom l X D) mi_X6_noRoom vi_X6_noRoom tw397 ⟨by decide, rfl⟩ sh_0 ⟨rfl, rfl, Nat.le_of_ble_eq_true rfl, Nat.le_of_ble_eq_true rfl⟩ rfl hl.1 rfl (Nat.le_of_ble_eq_true rfl) dX6_ahead_1 ⟨Nat.le_of_ble_eq_true rfl, Nat.le_of_ble_eq_true rfl⟩ (fun H locs hW hS => ?_)
  refine lv_if_eq (tgt := 10) hx hb dX6_ahead_4 (by decide) (fun c1 => ?_) (fun c1 => ?_)
  · rw [if_pos c1] at h
    refine lv_iload_n hx hb dX6_ahead_10 rfl (lv_at hl 1 rfl) ?_
    refine lv_iconst (v := 0) hx hb dX6_ahead_11 (by decide) ?_
    refine lv_bipush (v := 60) hx hb dX6_ahead_12 (by decide) ?_
    refine wd_callSr CF hE hW hS (x_X6_beyond l X a1 0 60 D) mi_X6_beyond vi_X6_beyond tw265 ⟨rfl, rfl, Nat.le_of_ble_eq_true rfl, Nat.le_of_ble_eq_true rfl⟩ rfl hl.1 rfl (Nat.le_of_ble_eq_true rfl) dX6_ahead_14 ⟨Nat.le_of_ble_eq_true rfl, Nat.le_of_ble_eq_true rfl⟩ (fun H locs hW hS => ?_)
    refine lv_if_ne (tgt := 29) hx hb dX6_ahead_17 (by decide) (fun c2 => ?_) (fun c2 => ?_)
    · rw [if_neg c2] at h
      refine lv_ldc (v := (-1000001)) hx hb hown (hts _ tw268) dX6_ahead_29 ?_
      have h := Option.some.inj h
      subst h
      exact wd_iret CF hret hlk hW hS dX6_ahead_31
    · rw [if_pos c2] at h
      refine lv_iload_n hx hb dX6_ahead_20 rfl (lv_at hl 2 rfl) ?_
      refine lv_iconst (v := 0) hx hb dX6_ahead_21 (by decide) ?_
      refine lv_iconst (v := 2) hx hb dX6_ahead_22 (by decide) ?_
      refine wd_callSr CF hE hW hS (x_X6_beyond l X a2 0 2 D) mi_X6_beyond vi_X6_beyond tw265 ⟨rfl, rfl, Nat.le_of_ble_eq_true rfl, Nat.le_of_ble_eq_true rfl⟩ rfl hl.1 rfl (Nat.le_of_ble_eq_true rfl) dX6_ahead_23 ⟨Nat.le_of_ble_eq_true rfl, Nat.le_of_ble_eq_true rfl⟩ (fun H locs hW hS => ?_)
      refine lv_if_eq (tgt := 32) hx hb dX6_ahead_26 (by decide) (fun c3 => ?_) (fun c3 => ?_)
      · rw [if_pos c3] at h
        refine lv_aload_n hx hb dX6_ahead_32 rfl (lv_at hl 0 rfl) ?_
        refine wd_getR CF hE hW fl_X6_46 sh_0 rf_0_6 rfl dX6_ahead_33 ?_
        refine lv_aload_n hx hb dX6_ahead_36 rfl (lv_at hl 0 rfl) ?_
        refine wd_getR CF hE hW fl_X6_25 sh_0 rf_0_2 rfl dX6_ahead_37 ?_
        refine lv_iload_n hx hb dX6_ahead_40 rfl (lv_at hl 1 rfl) ?_
        obtain ⟨q4, eq4, h⟩ := bdE h
        refine wd_callVr (ci := 1) (k := 241) CF hE hW hS (x_X1_after l X 4 room_4 a1 D eq4) mi_X1_after vi_X1_after tw513 ⟨by decide, rfl⟩ sh_241 ⟨rfl, rfl, Nat.le_of_ble_eq_true rfl, Nat.le_of_ble_eq_true rfl⟩ rfl hl.1 rfl (Nat.le_of_ble_eq_true rfl) dX6_ahead_41 ⟨Nat.le_of_ble_eq_true rfl, Nat.le_of_ble_eq_true rfl⟩ (fun H locs hW hS => ?_)
        refine lv_iload_n hx hb dX6_ahead_44 rfl (lv_at hl 2 rfl) ?_
        obtain ⟨x5, ex5, h⟩ := bdE h
        refine wd_callVr (ci := 3) (k := 242) CF hE hW hS (x_X3_thoseWho l X 242 room_242 a2 q4 ex5) mi_X3_thoseWho vi_X3_thoseWho tw459 ⟨by decide, rfl⟩ (rm_s room_242) ⟨rfl, rfl, Nat.le_of_ble_eq_true rfl, Nat.le_of_ble_eq_true rfl⟩ rfl hl.1 rfl (Nat.le_of_ble_eq_true rfl) dX6_ahead_45 ⟨Nat.le_of_ble_eq_true rfl, Nat.le_of_ble_eq_true rfl⟩ (fun H locs hW hS => ?_)
        have h := Option.some.inj h
        subst h
        exact wd_iret CF hret hlk hW hS dX6_ahead_48
      · rw [if_neg c3] at h
        refine lv_ldc (v := (-1000001)) hx hb hown (hts _ tw268) dX6_ahead_29 ?_
        have h := Option.some.inj h
        subst h
        exact wd_iret CF hret hlk hW hS dX6_ahead_31
  · rw [if_neg c1] at h
    refine lv_ldc (v := (-1000002)) hx hb hown (hts _ tw387) dX6_ahead_7 ?_
    have h := Option.some.inj h
    subst h
    exact wd_iret CF hret hlk hW hS dX6_ahead_9
def f_X6_noise (a1 : Int32) (a2 : Int32) (D : wd_D) : Option (Int32 × wd_D) := (if (f_X6_noChild a1 D) = 0 then (if (f_X6_beyond a2 0 60) = 0 then (f_X1_after 4 a2 D).bind (fun q3 => (f_X3_heardCriers 242 q3).bind (fun x4 => (f_X3_noiseAt 242 a1 x4 q3).bind (fun x5 => some (x5, q3)))) else some ((-1000001), D)) else some ((-1000001), D))
set_option maxHeartbeats 4000000 in
set_option maxRecDepth 100000 in
theorem x_X6_noise (l : Launch) (X : wd_X) (a1 : Int32) (a2 : Int32) (D : wd_D) {qv : Int32 × wd_D} (h : f_X6_noise a1 a2 D = some qv) : wd_Met l X yX6_noise cX6_noise 4 (some FieldType.int) ({ frames := 6, cells := 0, slots := 0, locals := 600 }) S0 S0 ([.ref (X.2.2.1 + 0), .int a1, .int a2] : List Value) D qv.2 (some (.int qv.1)) 0 0 := by
  refine wd_enter (by decide) (Nat.le_of_ble_eq_true rfl) ?_
  intro p e s m below meth c CF hret hlk hnm hW hE ls hl
  have CF : CallFix p m c cX6_noise 4 s ([.ref (X.2.2.1 + 0), .int a1, .int a2] : List Value).toArray tg RX6 := CF
  have hx := CF.1
  have hb := CF.2.1
  have hown := CF.2.2.2.1
  have hts := CF.2.2.2.2
  have hS : va_S (wd_A X) s.heap s.heap [] := va_S.rf
  have hl : lv_has ls 4 [(0, .ref (X.2.2.1 + 0)), (1, .int a1), (2, .int a2)] := hl
  unfold f_X6_noise at h
  refine lv_aload_n hx hb dX6_noise_0 rfl (lv_at hl 0 rfl) ?_
  refine lv_iload_n hx hb dX6_noise_1 rfl (lv_at hl 1 rfl) ?_
  refine wd_callVr (ci := 6) (k := 0) CF hE hW hS (x_X6_noChild l X a1 D) mi_X6_noChild vi_X6_noChild tw464 ⟨by decide, rfl⟩ sh_0 ⟨rfl, rfl, Nat.le_of_ble_eq_true rfl, Nat.le_of_ble_eq_true rfl⟩ rfl hl.1 rfl (Nat.le_of_ble_eq_true rfl) dX6_noise_2 ⟨Nat.le_of_ble_eq_true rfl, Nat.le_of_ble_eq_true rfl⟩ (fun H locs hW hS => ?_)
  refine lv_if_ne (tgt := 18) hx hb dX6_noise_5 (by decide) (fun c1 => ?_) (fun c1 => ?_)
  · rw [if_neg c1] at h
    refine lv_ldc (v := (-1000001)) hx hb hown (hts _ tw268) dX6_noise_18 ?_
    have h := Option.some.inj h
    subst h
    exact wd_iret CF hret hlk hW hS dX6_noise_20
  · rw [if_pos c1] at h
    refine lv_iload_n hx hb dX6_noise_8 rfl (lv_at hl 2 rfl) ?_
    refine lv_iconst (v := 0) hx hb dX6_noise_9 (by decide) ?_
    refine lv_bipush (v := 60) hx hb dX6_noise_10 (by decide) ?_
    refine wd_callSr CF hE hW hS (x_X6_beyond l X a2 0 60 D) mi_X6_beyond vi_X6_beyond tw265 ⟨rfl, rfl, Nat.le_of_ble_eq_true rfl, Nat.le_of_ble_eq_true rfl⟩ rfl hl.1 rfl (Nat.le_of_ble_eq_true rfl) dX6_noise_12 ⟨Nat.le_of_ble_eq_true rfl, Nat.le_of_ble_eq_true rfl⟩ (fun H locs hW hS => ?_)
    refine lv_if_eq (tgt := 21) hx hb dX6_noise_15 (by decide) (fun c2 => ?_) (fun c2 => ?_)
    · rw [if_pos c2] at h
      refine lv_aload_n hx hb dX6_noise_21 rfl (lv_at hl 0 rfl) ?_
      refine wd_getR CF hE hW fl_X6_46 sh_0 rf_0_6 rfl dX6_noise_22 ?_
      refine lv_aload_n hx hb dX6_noise_25 rfl (lv_at hl 0 rfl) ?_
      refine wd_getR CF hE hW fl_X6_25 sh_0 rf_0_2 rfl dX6_noise_26 ?_
      refine lv_iload_n hx hb dX6_noise_29 rfl (lv_at hl 2 rfl) ?_
      obtain ⟨q3, eq3, h⟩ := bdE h
      refine wd_callVr (ci := 1) (k := 241) CF hE hW hS (x_X1_after l X 4 room_4 a2 D eq3) mi_X1_after vi_X1_after tw513 ⟨by decide, rfl⟩ sh_241 ⟨rfl, rfl, Nat.le_of_ble_eq_true rfl, Nat.le_of_ble_eq_true rfl⟩ rfl hl.1 rfl (Nat.le_of_ble_eq_true rfl) dX6_noise_30 ⟨Nat.le_of_ble_eq_true rfl, Nat.le_of_ble_eq_true rfl⟩ (fun H locs hW hS => ?_)
      refine lv_astore_n (lv' := [(3, .ref (X.2.2.1 + 242)), (0, .ref (X.2.2.1 + 0)), (1, .int a1), (2, .int a2)]) hx hb dX6_noise_33 rfl hl (by decide) rfl (fun ls hl => ?_)
      refine lv_aload_n hx hb dX6_noise_34 rfl (lv_at hl 0 rfl) ?_
      refine lv_iload_n hx hb dX6_noise_35 rfl (lv_at hl 2 rfl) ?_
      refine lv_aload_n hx hb dX6_noise_36 rfl (lv_at hl 0 rfl) ?_
      obtain ⟨x4, ex4, h⟩ := bdE h
      refine wd_callVr (ci := 3) (k := 242) CF hE hW hS (x_X3_heardCriers l X 242 room_242 q3 ex4) mi_X3_heardCriers vi_X3_heardCriers tw503 ⟨by decide, rfl⟩ (rm_s room_242) ⟨rfl, rfl, Nat.le_of_ble_eq_true rfl, Nat.le_of_ble_eq_true rfl⟩ rfl hl.1 rfl (Nat.le_of_ble_eq_true rfl) dX6_noise_37 ⟨Nat.le_of_ble_eq_true rfl, Nat.le_of_ble_eq_true rfl⟩ (fun H locs hW hS => ?_)
      obtain ⟨x5, ex5, h⟩ := bdE h
      refine wd_callVr (ci := 3) (k := 242) CF hE hW hS (x_X3_noiseAt l X 242 room_242 a1 x4 q3 ex5) mi_X3_noiseAt vi_X3_noiseAt tw504 ⟨by decide, rfl⟩ (rm_s room_242) ⟨rfl, rfl, Nat.le_of_ble_eq_true rfl, Nat.le_of_ble_eq_true rfl⟩ rfl hl.1 rfl (Nat.le_of_ble_eq_true rfl) dX6_noise_40 ⟨Nat.le_of_ble_eq_true rfl, Nat.le_of_ble_eq_true rfl⟩ (fun H locs hW hS => ?_)
      have h := Option.some.inj h
      subst h
      exact wd_iret CF hret hlk hW hS dX6_noise_43
    · rw [if_neg c2] at h
      refine lv_ldc (v := (-1000001)) hx hb hown (hts _ tw268) dX6_noise_18 ?_
      have h := Option.some.inj h
      subst h
      exact wd_iret CF hret hlk hW hS dX6_noise_20
def f_X6_asleep (a1 : Int32) (D : wd_D) : Option (Int32 × wd_D) := (if (f_X6_noChild a1 D) = 0 then (f_X1_firstAsleep 4 ((1 : Int32) <<< (a1 &&& 31)) D).bind (fun q2 => some (q2.1, q2.2)) else some ((-1000001), D))
set_option maxHeartbeats 4000000 in
set_option maxRecDepth 100000 in
theorem x_X6_asleep (l : Launch) (X : wd_X) (a1 : Int32) (D : wd_D) {qv : Int32 × wd_D} (h : f_X6_asleep a1 D = some qv) : wd_Met l X yX6_asleep cX6_asleep 2 (some FieldType.int) ({ frames := 5, cells := 0, slots := 0, locals := 500 }) S0 S0 ([.ref (X.2.2.1 + 0), .int a1] : List Value) D qv.2 (some (.int qv.1)) 0 0 := by
  refine wd_enter (by decide) (Nat.le_of_ble_eq_true rfl) ?_
  intro p e s m below meth c CF hret hlk hnm hW hE ls hl
  have CF : CallFix p m c cX6_asleep 2 s ([.ref (X.2.2.1 + 0), .int a1] : List Value).toArray tg RX6 := CF
  have hx := CF.1
  have hb := CF.2.1
  have hown := CF.2.2.2.1
  have hts := CF.2.2.2.2
  have hS : va_S (wd_A X) s.heap s.heap [] := va_S.rf
  have hl : lv_has ls 2 [(0, .ref (X.2.2.1 + 0)), (1, .int a1)] := hl
  unfold f_X6_asleep at h
  refine lv_aload_n hx hb dX6_asleep_0 rfl (lv_at hl 0 rfl) ?_
  refine lv_iload_n hx hb dX6_asleep_1 rfl (lv_at hl 1 rfl) ?_
  refine wd_callVr (ci := 6) (k := 0) CF hE hW hS (x_X6_noChild l X a1 D) mi_X6_noChild vi_X6_noChild tw464 ⟨by decide, rfl⟩ sh_0 ⟨rfl, rfl, Nat.le_of_ble_eq_true rfl, Nat.le_of_ble_eq_true rfl⟩ rfl hl.1 rfl (Nat.le_of_ble_eq_true rfl) dX6_asleep_2 ⟨Nat.le_of_ble_eq_true rfl, Nat.le_of_ble_eq_true rfl⟩ (fun H locs hW hS => ?_)
  refine lv_if_eq (tgt := 13) hx hb dX6_asleep_5 (by decide) (fun c1 => ?_) (fun c1 => ?_)
  · rw [if_pos c1] at h
    refine lv_aload_n hx hb dX6_asleep_13 rfl (lv_at hl 0 rfl) ?_
    refine wd_getR CF hE hW fl_X6_46 sh_0 rf_0_6 rfl dX6_asleep_14 ?_
    refine lv_aload_n hx hb dX6_asleep_17 rfl (lv_at hl 0 rfl) ?_
    refine wd_getR CF hE hW fl_X6_25 sh_0 rf_0_2 rfl dX6_asleep_18 ?_
    refine lv_iconst (v := 1) hx hb dX6_asleep_21 (by decide) ?_
    refine lv_iload_n hx hb dX6_asleep_22 rfl (lv_at hl 1 rfl) ?_
    refine lv_ishl hx hb dX6_asleep_23 ?_
    obtain ⟨q2, eq2, h⟩ := bdE h
    refine wd_callVr (ci := 1) (k := 241) CF hE hW hS (x_X1_firstAsleep l X 4 room_4 ((1 : Int32) <<< (a1 &&& 31)) D eq2) mi_X1_firstAsleep vi_X1_firstAsleep tw531 ⟨by decide, rfl⟩ sh_241 ⟨rfl, rfl, Nat.le_of_ble_eq_true rfl, Nat.le_of_ble_eq_true rfl⟩ rfl hl.1 rfl (Nat.le_of_ble_eq_true rfl) dX6_asleep_24 ⟨Nat.le_of_ble_eq_true rfl, Nat.le_of_ble_eq_true rfl⟩ (fun H locs hW hS => ?_)
    have h := Option.some.inj h
    subst h
    exact wd_iret CF hret hlk hW hS dX6_asleep_27
  · rw [if_neg c1] at h
    refine lv_ldc (v := (-1000001)) hx hb hown (hts _ tw268) dX6_asleep_8 ?_
    refine lv_goto (tgt := 27) hx hb dX6_asleep_10 (by decide) ?_
    have h := Option.some.inj h
    subst h
    exact wd_iret CF hret hlk hW hS dX6_asleep_27
def f_X6_allAsleep  (D : wd_D) : Option (Int32 × wd_D) := (if (f_X6_noRoom D) = 0 then (f_X1_firstAsleep 4 ((f_X3_everybody 4 D) &&& ((gI D 4 5) ^^^ (-1))) D).bind (fun q2 => some (q2.1, q2.2)) else some ((-1000002), D))
set_option maxHeartbeats 4000000 in
set_option maxRecDepth 100000 in
theorem x_X6_allAsleep (l : Launch) (X : wd_X)  (D : wd_D) {qv : Int32 × wd_D} (h : f_X6_allAsleep  D = some qv) : wd_Met l X yX6_allAsleep cX6_allAsleep 1 (some FieldType.int) ({ frames := 5, cells := 0, slots := 0, locals := 500 }) S0 S0 ([.ref (X.2.2.1 + 0)] : List Value) D qv.2 (some (.int qv.1)) 0 0 := by
  refine wd_enter (by decide) (Nat.le_of_ble_eq_true rfl) ?_
  intro p e s m below meth c CF hret hlk hnm hW hE ls hl
  have CF : CallFix p m c cX6_allAsleep 1 s ([.ref (X.2.2.1 + 0)] : List Value).toArray tg RX6 := CF
  have hx := CF.1
  have hb := CF.2.1
  have hown := CF.2.2.2.1
  have hts := CF.2.2.2.2
  have hS : va_S (wd_A X) s.heap s.heap [] := va_S.rf
  have hl : lv_has ls 1 [(0, .ref (X.2.2.1 + 0))] := hl
  unfold f_X6_allAsleep at h
  refine lv_aload_n hx hb dX6_allAsleep_0 rfl (lv_at hl 0 rfl) ?_
  refine wd_callVr (ci := 6) (k := 0) CF hE hW hS (x_X6_noRoom l X D) mi_X6_noRoom vi_X6_noRoom tw397 ⟨by decide, rfl⟩ sh_0 ⟨rfl, rfl, Nat.le_of_ble_eq_true rfl, Nat.le_of_ble_eq_true rfl⟩ rfl hl.1 rfl (Nat.le_of_ble_eq_true rfl) dX6_allAsleep_1 ⟨Nat.le_of_ble_eq_true rfl, Nat.le_of_ble_eq_true rfl⟩ (fun H locs hW hS => ?_)
  refine lv_if_eq (tgt := 12) hx hb dX6_allAsleep_4 (by decide) (fun c1 => ?_) (fun c1 => ?_)
  · rw [if_pos c1] at h
    refine lv_aload_n hx hb dX6_allAsleep_12 rfl (lv_at hl 0 rfl) ?_
    refine wd_getR CF hE hW fl_X6_46 sh_0 rf_0_6 rfl dX6_allAsleep_13 ?_
    refine lv_aload_n hx hb dX6_allAsleep_16 rfl (lv_at hl 0 rfl) ?_
    refine wd_getR CF hE hW fl_X6_25 sh_0 rf_0_2 rfl dX6_allAsleep_17 ?_
    refine lv_aload_n hx hb dX6_allAsleep_20 rfl (lv_at hl 0 rfl) ?_
    refine wd_getR CF hE hW fl_X6_25 sh_0 rf_0_2 rfl dX6_allAsleep_21 ?_
    refine wd_callVr (ci := 3) (k := 4) CF hE hW hS (x_X3_everybody l X 4 room_4 D) mi_X3_everybody vi_X3_everybody tw545 ⟨by decide, rfl⟩ (rm_s room_4) ⟨rfl, rfl, Nat.le_of_ble_eq_true rfl, Nat.le_of_ble_eq_true rfl⟩ rfl hl.1 rfl (Nat.le_of_ble_eq_true rfl) dX6_allAsleep_24 ⟨Nat.le_of_ble_eq_true rfl, Nat.le_of_ble_eq_true rfl⟩ (fun H locs hW hS => ?_)
    refine lv_aload_n hx hb dX6_allAsleep_27 rfl (lv_at hl 0 rfl) ?_
    refine wd_getR CF hE hW fl_X6_25 sh_0 rf_0_2 rfl dX6_allAsleep_28 ?_
    refine wd_get CF hE hW fl_X6_172 (rm_s room_4) (v := .int (gI D 4 5)) rfl dX6_allAsleep_31 ?_
    refine lv_iconst (v := (-1)) hx hb dX6_allAsleep_34 (by decide) ?_
    refine lv_ixor hx hb dX6_allAsleep_35 ?_
    refine lv_iand hx hb dX6_allAsleep_36 ?_
    obtain ⟨q2, eq2, h⟩ := bdE h
    refine wd_callVr (ci := 1) (k := 241) CF hE hW hS (x_X1_firstAsleep l X 4 room_4 ((f_X3_everybody 4 D) &&& ((gI D 4 5) ^^^ (-1))) D eq2) mi_X1_firstAsleep vi_X1_firstAsleep tw531 ⟨by decide, rfl⟩ sh_241 ⟨rfl, rfl, Nat.le_of_ble_eq_true rfl, Nat.le_of_ble_eq_true rfl⟩ rfl hl.1 rfl (Nat.le_of_ble_eq_true rfl) dX6_allAsleep_37 ⟨Nat.le_of_ble_eq_true rfl, Nat.le_of_ble_eq_true rfl⟩ (fun H locs hW hS => ?_)
    have h := Option.some.inj h
    subst h
    exact wd_iret CF hret hlk hW hS dX6_allAsleep_40
  · rw [if_neg c1] at h
    refine lv_ldc (v := (-1000002)) hx hb hown (hts _ tw387) dX6_allAsleep_7 ?_
    refine lv_goto (tgt := 40) hx hb dX6_allAsleep_9 (by decide) ?_
    have h := Option.some.inj h
    subst h
    exact wd_iret CF hret hlk hW hS dX6_allAsleep_40
