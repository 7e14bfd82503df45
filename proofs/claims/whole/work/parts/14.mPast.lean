/-! X2_keep, X2_bringBack, X2_forget, X0_nearest, X0_leave, X0_give, X0_answer -/
def f_X2_keep (r1 : Nat) (D : wd_D) : Option (wd_D) := (ix 24 (gI D 23 1)).bind (fun k1 => (f_X3_become (25 + 9 * k1) r1 D).bind (fun q2 => ap (sI q2 23 1 (((gI q2 23 1) + 1) - ((gI q2 23 1) + 1) / 24 * 24)) (fun D3 => ap (sI D3 23 2 (if 24 < ((gI D3 23 2) + 1) then 24 else ((gI D3 23 2) + 1))) (fun D4 => some D4))))
set_option maxHeartbeats 4000000 in
set_option maxRecDepth 100000 in
theorem x_X2_keep (l : Launch) (X : wd_X) (r1 : Nat) (hr1 : RoomAt r1) (D : wd_D) {qv : wd_D} (h : f_X2_keep r1 D = some qv) : wd_Met l X yX2_keep cX2_keep 2 (none : Option FieldType) ({ frames := 2, cells := 0, slots := 0, locals := 200 }) S0 S0 ([.ref (X.2.2.1 + 23), .ref (X.2.2.1 + r1)] : List Value) D qv none 0 0 := by
  refine wd_enter (by decide) (Nat.le_of_ble_eq_true rfl) ?_
  intro p e s m below meth c CF hret hlk hnm hW hE ls hl
  have CF : CallFix p m c cX2_keep 2 s ([.ref (X.2.2.1 + 23), .ref (X.2.2.1 + r1)] : List Value).toArray tg RX2 := CF
  have hx := CF.1
  have hb := CF.2.1
  have hown := CF.2.2.2.1
  have hts := CF.2.2.2.2
  have hS : va_S (wd_A X) s.heap s.heap [] := va_S.rf
  have hl : lv_has ls 2 [(0, .ref (X.2.2.1 + 23)), (1, .ref (X.2.2.1 + r1))] := hl
  unfold f_X2_keep at h
  refine lv_aload_n hx hb dX2_keep_0 rfl (lv_at hl 0 rfl) ?_
  refine wd_getR CF hE hW fl_X2_11 sh_23 rf_23_0 rfl dX2_keep_1 ?_
  refine lv_aload_n hx hb dX2_keep_4 rfl (lv_at hl 0 rfl) ?_
  refine wd_get CF hE hW fl_X2_18 sh_23 (v := .int (gI D 23 1)) rfl dX2_keep_5 ?_
  obtain ⟨k1, ek1, h⟩ := bdE h
  have gk1 := rfa_24 k1 (ix_lt ek1)
  refine wd_aald2 CF hE hW sh_24 ek1 gk1.1 dX2_keep_8 ?_
  refine lv_aload_n hx hb dX2_keep_9 rfl (lv_at hl 1 rfl) ?_
  obtain ⟨q2, eq2, h⟩ := bdE h
  refine wd_callVv (ci := 3) (k := (25 + 9 * k1)) CF hE hW hS (x_X3_become l X (25 + 9 * k1) gk1.2 r1 hr1 D eq2) mi_X3_become vi_X3_become tw392 ⟨by decide, rfl⟩ (rm_s gk1.2) ⟨rfl, rfl, Nat.le_of_ble_eq_true rfl, Nat.le_of_ble_eq_true rfl⟩ rfl hl.1 rfl (Nat.le_of_ble_eq_true rfl) dX2_keep_10 ⟨Nat.le_of_ble_eq_true rfl, Nat.le_of_ble_eq_true rfl⟩ (fun H locs hW hS => ?_)
  refine lv_aload_n hx hb dX2_keep_13 rfl (lv_at hl 0 rfl) ?_
  refine lv_aload_n hx hb dX2_keep_14 rfl (lv_at hl 0 rfl) ?_
  refine wd_get CF hE hW fl_X2_18 sh_23 (v := .int (gI q2 23 1)) rfl dX2_keep_15 ?_
  refine lv_iconst (v := 1) hx hb dX2_keep_18 (by decide) ?_
  refine lv_iadd hx hb dX2_keep_19 ?_
  refine lv_bipush (v := 24) hx hb dX2_keep_20 (by decide) ?_
  refine lv_irem hx hb dX2_keep_22 (by decide) ?_
  refine wd_putI CF hE hW hS fl_X2_18 sh_23 rfl rfl dX2_keep_23 (fun D3 H locs eD3 hW hS => ?_)
  replace h := apR eD3 h
  refine lv_aload_n hx hb dX2_keep_26 rfl (lv_at hl 0 rfl) ?_
  refine lv_aload_n hx hb dX2_keep_27 rfl (lv_at hl 0 rfl) ?_
  refine wd_get CF hE hW fl_X2_26 sh_23 (v := .int (gI D3 23 2)) rfl dX2_keep_28 ?_
  refine lv_iconst (v := 1) hx hb dX2_keep_31 (by decide) ?_
  refine lv_iadd hx hb dX2_keep_32 ?_
  refine lv_bipush (v := 24) hx hb dX2_keep_33 (by decide) ?_
  refine va_mmin hx hb (CF.2.2.1.trans hl.1.symm) hown (hts _ tw405) (hts _ tw406) (hts _ tw10) (hts _ tw407) (Nat.le_of_ble_eq_true rfl) (Nat.le_of_ble_eq_true rfl) (Nat.le_of_ble_eq_true rfl) (Nat.le_of_ble_eq_true rfl) dX2_keep_35 ?_
  refine wd_putI CF hE hW hS fl_X2_26 sh_23 rfl rfl dX2_keep_38 (fun D4 H locs eD4 hW hS => ?_)
  replace h := apR eD4 h
  have h := Option.some.inj h
  subst h
  exact wd_vret CF hret hlk hW hS dX2_keep_41
def f_X2_bringBack (r1 : Nat) (D : wd_D) : Option (wd_D) := (if (gI D 23 2) = 0 then some D else ap (sI D 23 1 ((((gI D 23 1) + 24) - 1) - (((gI D 23 1) + 24) - 1) / 24 * 24)) (fun D2 => ap (sI D2 23 2 ((gI D2 23 2) - 1)) (fun D3 => (ix 24 (gI D3 23 1)).bind (fun k4 => (f_X3_become r1 (25 + 9 * k4) D3).bind (fun q5 => some q5)))))
set_option maxHeartbeats 4000000 in
set_option maxRecDepth 100000 in
theorem x_X2_bringBack (l : Launch) (X : wd_X) (r1 : Nat) (hr1 : RoomAt r1) (D : wd_D) {qv : wd_D} (h : f_X2_bringBack r1 D = some qv) : wd_Met l X yX2_bringBack cX2_bringBack 2 (none : Option FieldType) ({ frames := 2, cells := 0, slots := 0, locals := 200 }) S0 S0 ([.ref (X.2.2.1 + 23), .ref (X.2.2.1 + r1)] : List Value) D qv none 0 0 := by
  refine wd_enter (by decide) (Nat.le_of_ble_eq_true rfl) ?_
  intro p e s m below meth c CF hret hlk hnm hW hE ls hl
  have CF : CallFix p m c cX2_bringBack 2 s ([.ref (X.2.2.1 + 23), .ref (X.2.2.1 + r1)] : List Value).toArray tg RX2 := CF
  have hx := CF.1
  have hb := CF.2.1
  have hown := CF.2.2.2.1
  have hts := CF.2.2.2.2
  have hS : va_S (wd_A X) s.heap s.heap [] := va_S.rf
  have hl : lv_has ls 2 [(0, .ref (X.2.2.1 + 23)), (1, .ref (X.2.2.1 + r1))] := hl
  unfold f_X2_bringBack at h
  refine lv_aload_n hx hb dX2_bringBack_0 rfl (lv_at hl 0 rfl) ?_
  refine wd_get CF hE hW fl_X2_26 sh_23 (v := .int (gI D 23 2)) rfl dX2_bringBack_1 ?_
  refine lv_if_ne (tgt := 8) hx hb dX2_bringBack_4 (by decide) (fun c1 => ?_) (fun c1 => ?_)
  · rw [if_neg c1] at h
    refine lv_aload_n hx hb dX2_bringBack_8 rfl (lv_at hl 0 rfl) ?_
    refine lv_aload_n hx hb dX2_bringBack_9 rfl (lv_at hl 0 rfl) ?_
    refine wd_get CF hE hW fl_X2_18 sh_23 (v := .int (gI D 23 1)) rfl dX2_bringBack_10 ?_
    refine lv_bipush (v := 24) hx hb dX2_bringBack_13 (by decide) ?_
    refine lv_iadd hx hb dX2_bringBack_15 ?_
    refine lv_iconst (v := 1) hx hb dX2_bringBack_16 (by decide) ?_
    refine lv_isub hx hb dX2_bringBack_17 ?_
    refine lv_bipush (v := 24) hx hb dX2_bringBack_18 (by decide) ?_
    refine lv_irem hx hb dX2_bringBack_20 (by decide) ?_
    refine wd_putI CF hE hW hS fl_X2_18 sh_23 rfl rfl dX2_bringBack_21 (fun D2 H locs eD2 hW hS => ?_)
    replace h := apR eD2 h
    refine lv_aload_n hx hb dX2_bringBack_24 rfl (lv_at hl 0 rfl) ?_
    refine lv_dup hx hb dX2_bringBack_25 rfl ?_
    refine wd_get CF hE hW fl_X2_26 sh_23 (v := .int (gI D2 23 2)) rfl dX2_bringBack_26 ?_
    refine lv_iconst (v := 1) hx hb dX2_bringBack_29 (by decide) ?_
    refine lv_isub hx hb dX2_bringBack_30 ?_
    refine wd_putI CF hE hW hS fl_X2_26 sh_23 rfl rfl dX2_bringBack_31 (fun D3 H locs eD3 hW hS => ?_)
    replace h := apR eD3 h
    refine lv_aload_n hx hb dX2_bringBack_34 rfl (lv_at hl 1 rfl) ?_
    refine lv_aload_n hx hb dX2_bringBack_35 rfl (lv_at hl 0 rfl) ?_
    refine wd_getR CF hE hW fl_X2_11 sh_23 rf_23_0 rfl dX2_bringBack_36 ?_
    refine lv_aload_n hx hb dX2_bringBack_39 rfl (lv_at hl 0 rfl) ?_
    refine wd_get CF hE hW fl_X2_18 sh_23 (v := .int (gI D3 23 1)) rfl dX2_bringBack_40 ?_
    obtain ⟨k4, ek4, h⟩ := bdE h
    have gk4 := rfa_24 k4 (ix_lt ek4)
    refine wd_aald2 CF hE hW sh_24 ek4 gk4.1 dX2_bringBack_43 ?_
    obtain ⟨q5, eq5, h⟩ := bdE h
    refine wd_callVv (ci := 3) (k := r1) CF hE hW hS (x_X3_become l X r1 hr1 (25 + 9 * k4) gk4.2 D3 eq5) mi_X3_become vi_X3_become tw392 ⟨by decide, rfl⟩ (rm_s hr1) ⟨rfl, rfl, Nat.le_of_ble_eq_true rfl, Nat.le_of_ble_eq_true rfl⟩ rfl hl.1 rfl (Nat.le_of_ble_eq_true rfl) dX2_bringBack_44 ⟨Nat.le_of_ble_eq_true rfl, Nat.le_of_ble_eq_true rfl⟩ (fun H locs hW hS => ?_)
    have h := Option.some.inj h
    subst h
    exact wd_vret CF hret hlk hW hS dX2_bringBack_47
  · rw [if_pos c1] at h
    have h := Option.some.inj h
    subst h
    exact wd_vret CF hret hlk hW hS dX2_bringBack_7
def f_X2_forget  (D : wd_D) : wd_D := ap (sI D 23 2 0) (fun D1 => D1)
set_option maxHeartbeats 4000000 in
set_option maxRecDepth 100000 in
theorem x_X2_forget (l : Launch) (X : wd_X)  (D : wd_D) {qv : wd_D} (h : f_X2_forget  D = qv) : wd_Met l X yX2_forget cX2_forget 1 (none : Option FieldType) ({ frames := 0, cells := 0, slots := 0, locals := 0 }) S0 S0 ([.ref (X.2.2.1 + 23)] : List Value) D qv none 0 0 := by
  refine wd_enter (by decide) (Nat.le_of_ble_eq_true rfl) ?_
  intro p e s m below meth c CF hret hlk hnm hW hE ls hl
  have CF : CallFix p m c cX2_forget 1 s ([.ref (X.2.2.1 + 23)] : List Value).toArray tg RX2 := CF
  have hx := CF.1
  have hb := CF.2.1
  have hown := CF.2.2.2.1
  have hts := CF.2.2.2.2
  have hS : va_S (wd_A X) s.heap s.heap [] := va_S.rf
  have hl : lv_has ls 1 [(0, .ref (X.2.2.1 + 23))] := hl
  unfold f_X2_forget at h
  refine lv_aload_n hx hb dX2_forget_0 rfl (lv_at hl 0 rfl) ?_
  refine lv_iconst (v := 0) hx hb dX2_forget_1 (by decide) ?_
  refine wd_putI CF hE hW hS fl_X2_26 sh_23 rfl rfl dX2_forget_2 (fun D1 H locs eD1 hW hS => ?_)
  replace h := apR eD1 h
  subst h
  exact wd_vret CF hret hlk hW hS dX2_forget_5
def f_X0_nearest_L4  : Nat → Nat → Int32 → Int32 → Int32 → wd_D → Option (Int32)
  | 0, _, _, _, _, _ => none
  | n + 1, k0, a1, v2, v3, D => (if 6 ≤ v3 then (rs k0 0).bind (fun x2 => some x2) else (if v2 ≤ 0 then (rs k0 0).bind (fun x4 => some x4) else (if (Int32.ofNat (st_L k0).length) ≤ v2 then (rs k0 0).bind (fun x6 => some x6) else (rs k0 v2).bind (fun x7 => (if x7 = 0 then (rs 3 v2).bind (fun x9 => ap (v3 + 1) (fun x10 => (f_X0_nearest_L4 n) k0 a1 x9 x10 D)) else (rs k0 v2).bind (fun x11 => some x11))))))
def f_X0_nearest (k0 : Nat) (a1 : Int32) (D : wd_D) : Option (Int32) := f_X0_nearest_L4 FU k0 a1 a1 0 D
set_option maxHeartbeats 4000000 in
set_option maxRecDepth 100000 in
theorem x_X0_nearest (l : Launch) (X : wd_X) (k0 : Nat) (hk0 : k0 < 6) (a1 : Int32) (D : wd_D) {rv : Int32} (h : f_X0_nearest k0 a1 D = some rv) : wd_Met l X yX0_nearest cX0_nearest 4 (some FieldType.int) ({ frames := 0, cells := 0, slots := 0, locals := 0 }) S0 S0 ([.ref (X.2.2.2 k0), .int a1] : List Value) D D (some (.int rv)) 0 0 := by
  refine wd_enter (by decide) (Nat.le_of_ble_eq_true rfl) ?_
  intro p e s m below meth c CF hret hlk hnm hW hE ls hl
  have CF : CallFix p m c cX0_nearest 4 s ([.ref (X.2.2.2 k0), .int a1] : List Value).toArray tg RX0 := CF
  have hx := CF.1
  have hb := CF.2.1
  have hown := CF.2.2.2.1
  have hts := CF.2.2.2.2
  have hS : va_S (wd_A X) s.heap s.heap [] := va_S.rf
  have hl : lv_has ls 4 [(0, .ref (X.2.2.2 k0)), (1, .int a1)] := hl
  unfold f_X0_nearest at h
  have hL4 : ∀ (n4 : Nat) (v2 : Int32) (v3 : Int32) (H : Heap) (locs : List Loc) (ls : Array Slot), Wd X S0 D H → va_S (wd_A X) s.heap H locs → lv_has ls 4 [(0, .ref (X.2.2.2 k0)), (2, .int v2), (3, .int v3)] → f_X0_nearest_L4 n4 k0 a1 v2 v3 D = some rv → W p l e ({ frames := 0, cells := 0, slots := 0, locals := 0 }) s m ([.ref (X.2.2.2 k0), .int a1] : List Value).toArray below meth c H locs 0 0 (MQ below (wd_Q X S0 D (some (.int rv))) ([.ref (X.2.2.2 k0), .int a1] : List Value).toArray s 0 0 (wd_A X)) (F0 m 4 ls []) := by
    intro n4
    induction n4 with
    | zero => intro v2 v3 H locs ls hW hS hl h; cases h
    | succ n4 ih4 =>
      intro v2 v3 H locs ls hW hS hl h
      rw [f_X0_nearest_L4] at h
      refine lv_iload_n hx hb dX0_nearest_4 rfl (lv_at hl 2 rfl) ?_
      refine wd_sgetN CF hE hS 3 (by decide) tn721 dX0_nearest_5 ?_
      refine wd_slen CF hE hS 3 (by decide) (v := 6) rfl dX0_nearest_8 ?_
      refine lv_icmp_ge (tgt := 44) hx hb dX0_nearest_9 (by decide) (fun c1 => ?_) (fun c1 => ?_)
      · rw [if_pos c1] at h
        refine lv_aload_n hx hb dX0_nearest_44 rfl (lv_at hl 0 rfl) ?_
        refine lv_iconst (v := 0) hx hb dX0_nearest_45 (by decide) ?_
        obtain ⟨x2, ex2, h⟩ := bdE h
        refine wd_sald CF hE hS k0 hk0 ex2 dX0_nearest_46 ?_
        have h := Option.some.inj h
        subst h
        exact wd_iret CF hret hlk hW hS dX0_nearest_47
      · rw [if_neg c1] at h
        refine lv_iload_n hx hb dX0_nearest_12 rfl (lv_at hl 1 rfl) ?_
        refine lv_if_le (tgt := 44) hx hb dX0_nearest_13 (by decide) (fun c3 => ?_) (fun c3 => ?_)
        · rw [if_pos c3] at h
          refine lv_aload_n hx hb dX0_nearest_44 rfl (lv_at hl 0 rfl) ?_
          refine lv_iconst (v := 0) hx hb dX0_nearest_45 (by decide) ?_
          obtain ⟨x4, ex4, h⟩ := bdE h
          refine wd_sald CF hE hS k0 hk0 ex4 dX0_nearest_46 ?_
          have h := Option.some.inj h
          subst h
          exact wd_iret CF hret hlk hW hS dX0_nearest_47
        · rw [if_neg c3] at h
          refine lv_iload_n hx hb dX0_nearest_16 rfl (lv_at hl 1 rfl) ?_
          refine lv_aload_n hx hb dX0_nearest_17 rfl (lv_at hl 0 rfl) ?_
          refine wd_slen CF hE hS k0 hk0 (v := Int32.ofNat (st_L k0).length) rfl dX0_nearest_18 ?_
          refine lv_icmp_ge (tgt := 44) hx hb dX0_nearest_19 (by decide) (fun c5 => ?_) (fun c5 => ?_)
          · rw [if_pos c5] at h
            refine lv_aload_n hx hb dX0_nearest_44 rfl (lv_at hl 0 rfl) ?_
            refine lv_iconst (v := 0) hx hb dX0_nearest_45 (by decide) ?_
            obtain ⟨x6, ex6, h⟩ := bdE h
            refine wd_sald CF hE hS k0 hk0 ex6 dX0_nearest_46 ?_
            have h := Option.some.inj h
            subst h
            exact wd_iret CF hret hlk hW hS dX0_nearest_47
          · rw [if_neg c5] at h
            refine lv_aload_n hx hb dX0_nearest_22 rfl (lv_at hl 0 rfl) ?_
            refine lv_iload_n hx hb dX0_nearest_23 rfl (lv_at hl 1 rfl) ?_
            obtain ⟨x7, ex7, h⟩ := bdE h
            refine wd_sald CF hE hS k0 hk0 ex7 dX0_nearest_24 ?_
            refine lv_if_eq (tgt := 32) hx hb dX0_nearest_25 (by decide) (fun c8 => ?_) (fun c8 => ?_)
            · rw [if_pos c8] at h
              refine wd_sgetN CF hE hS 3 (by decide) tn721 dX0_nearest_32 ?_
              refine lv_iload_n hx hb dX0_nearest_35 rfl (lv_at hl 1 rfl) ?_
              obtain ⟨x9, ex9, h⟩ := bdE h
              refine wd_sald CF hE hS 3 (by decide) ex9 dX0_nearest_36 ?_
              refine lv_istore_n (lv' := [(2, .int x9), (0, .ref (X.2.2.2 k0)), (3, .int v3)]) hx hb dX0_nearest_37 rfl hl (by decide) rfl (fun ls hl => ?_)
              obtain ⟨x10, ex10⟩ : ∃ y : Int32, y = v3 + 1 := ⟨_, rfl⟩
              replace h := apR ex10 h
              refine lv_iinc (v := x10) (lv' := [(3, .int x10), (2, .int x9), (0, .ref (X.2.2.2 k0))]) hx hb dX0_nearest_38 hl (k := 2) rfl (by rw [ex10]; rfl) (by decide) rfl (fun ls hl => ?_)
              refine lv_goto (tgt := 4) hx hb dX0_nearest_41 (by decide) ?_
              exact ih4 x9 x10 _ _ _  hW hS (lv_sub hl [2, 1, 0] rfl) h
            · rw [if_neg c8] at h
              refine lv_aload_n hx hb dX0_nearest_28 rfl (lv_at hl 0 rfl) ?_
              refine lv_iload_n hx hb dX0_nearest_29 rfl (lv_at hl 1 rfl) ?_
              obtain ⟨x11, ex11, h⟩ := bdE h
              refine wd_sald CF hE hS k0 hk0 ex11 dX0_nearest_30 ?_
              have h := Option.some.inj h
              subst h
              exact wd_iret CF hret hlk hW hS dX0_nearest_31
  refine lv_iload_n hx hb dX0_nearest_0 rfl (lv_at hl 1 rfl) ?_
  refine lv_istore_n (lv' := [(2, .int a1), (0, .ref (X.2.2.2 k0)), (1, .int a1)]) hx hb dX0_nearest_1 rfl hl (by decide) rfl (fun ls hl => ?_)
  refine lv_iconst (v := 0) hx hb dX0_nearest_2 (by decide) ?_
  refine lv_istore_n (lv' := [(3, .int 0), (2, .int a1), (0, .ref (X.2.2.2 k0)), (1, .int a1)]) hx hb dX0_nearest_3 rfl hl (by decide) rfl (fun ls hl => ?_)
  exact hL4 FU a1 0 _ _ _  hW hS (lv_sub hl [2, 1, 0] rfl) h
def f_X0_leave (a1 : Int32) (D : wd_D) : Option (wd_D) := (if 16 ≤ (gI D 334 1) then some D else (wr 16 D 335 (gI D 334 1) a1).bind (fun D2 => ap (sI D2 334 1 ((gI D2 334 1) + 1)) (fun D3 => some D3)))
set_option maxHeartbeats 4000000 in
set_option maxRecDepth 100000 in
theorem x_X0_leave (l : Launch) (X : wd_X) (a1 : Int32) (D : wd_D) {qv : wd_D} (h : f_X0_leave a1 D = some qv) : wd_Met l X yX0_leave cX0_leave 2 (none : Option FieldType) ({ frames := 0, cells := 0, slots := 0, locals := 0 }) S0 S0 ([.ref (X.2.2.1 + 334), .int a1] : List Value) D qv none 0 0 := by
  refine wd_enter (by decide) (Nat.le_of_ble_eq_true rfl) ?_
  intro p e s m below meth c CF hret hlk hnm hW hE ls hl
  have CF : CallFix p m c cX0_leave 2 s ([.ref (X.2.2.1 + 334), .int a1] : List Value).toArray tg RX0 := CF
  have hx := CF.1
  have hb := CF.2.1
  have hown := CF.2.2.2.1
  have hts := CF.2.2.2.2
  have hS : va_S (wd_A X) s.heap s.heap [] := va_S.rf
  have hl : lv_has ls 2 [(0, .ref (X.2.2.1 + 334)), (1, .int a1)] := hl
  unfold f_X0_leave at h
  refine lv_aload_n hx hb dX0_leave_0 rfl (lv_at hl 0 rfl) ?_
  refine wd_get CF hE hW fl_X0_15 sh_334 (v := .int (gI D 334 1)) rfl dX0_leave_1 ?_
  refine lv_bipush (v := 16) hx hb dX0_leave_4 (by decide) ?_
  refine lv_icmp_ge (tgt := 29) hx hb dX0_leave_6 (by decide) (fun c1 => ?_) (fun c1 => ?_)
  · rw [if_pos c1] at h
    have h := Option.some.inj h
    subst h
    exact wd_vret CF hret hlk hW hS dX0_leave_29
  · rw [if_neg c1] at h
    refine lv_aload_n hx hb dX0_leave_9 rfl (lv_at hl 0 rfl) ?_
    refine wd_getR CF hE hW fl_X0_9 sh_334 rf_334_0 rfl dX0_leave_10 ?_
    refine lv_aload_n hx hb dX0_leave_13 rfl (lv_at hl 0 rfl) ?_
    refine wd_get CF hE hW fl_X0_15 sh_334 (v := .int (gI D 334 1)) rfl dX0_leave_14 ?_
    refine lv_iload_n hx hb dX0_leave_17 rfl (lv_at hl 1 rfl) ?_
    obtain ⟨D2, eD2, h⟩ := bdE h
    refine wd_iast CF hE hW hS sh_335 eD2 dX0_leave_18 (fun H locs hW hS => ?_)
    refine lv_aload_n hx hb dX0_leave_19 rfl (lv_at hl 0 rfl) ?_
    refine lv_dup hx hb dX0_leave_20 rfl ?_
    refine wd_get CF hE hW fl_X0_15 sh_334 (v := .int (gI D2 334 1)) rfl dX0_leave_21 ?_
    refine lv_iconst (v := 1) hx hb dX0_leave_24 (by decide) ?_
    refine lv_iadd hx hb dX0_leave_25 ?_
    refine wd_putI CF hE hW hS fl_X0_15 sh_334 rfl rfl dX0_leave_26 (fun D3 H locs eD3 hW hS => ?_)
    replace h := apR eD3 h
    have h := Option.some.inj h
    subst h
    exact wd_vret CF hret hlk hW hS dX0_leave_29
def f_X0_give : Nat → Int32 → Int32 → wd_D → Option (Int32 × wd_D)
  | 0, _, _, _ => none
  | n + 1, a1, a2, D => (if a2 ≤ 16 then (f_X0_leave a1 D).bind (fun q2 => ap (a2 + 1) (fun x3 => (if a1 = 10 then some (gI q2 334 3, q2) else (if a1 = 11 then (f_X0_give n 10 x3 q2).bind (fun q6 => (f_X0_give n (gI q6.2 334 6) x3 q6.2).bind (fun q7 => some (q6.1 + q7.1, q7.2))) else (if a1 = 12 then (f_X0_give n 11 x3 q2).bind (fun q9 => some (-q9.1, q9.2)) else (if a1 = 13 then (f_X0_give n 10 x3 q2).bind (fun q11 => some (q11.1 - 100, q11.2)) else (if a1 = 14 then (f_X0_give n 13 x3 q2).bind (fun q13 => some (2 * q13.1, q13.2)) else (if a1 = 15 then some (0, q2) else (if a1 = 16 then some (0, q2) else (if a1 = 17 then some (0, q2) else (if a1 = 18 then some (0, q2) else (if a1 = 19 then some (0, q2) else (if a1 = 20 then some (gI q2 334 2, q2) else (if a1 = 21 then (f_X0_give n 20 x3 q2).bind (fun q21 => some (q21.1 + (gI q21.2 334 4), q21.2)) else (if a1 = 22 then (f_X0_give n 21 x3 q2).bind (fun q23 => some (q23.1 - 1000, q23.2)) else (if a1 = 23 then (f_X0_give n 20 x3 q2).bind (fun q25 => (f_X0_give n (gI q25.2 334 5) x3 q25.2).bind (fun q26 => some (q25.1 - q26.1, q26.2))) else (if a1 = 24 then (f_X0_give n 21 x3 q2).bind (fun q28 => some (2 * q28.1, q28.2)) else some (0, q2)))))))))))))))))) else some (0, D))
set_option maxHeartbeats 4000000 in
set_option maxRecDepth 100000 in
theorem x_X0_give (l : Launch) (X : wd_X) : ∀ (n : Nat) (a1 : Int32) (a2 : Int32) (D : wd_D) {qv : Int32 × wd_D} (h : f_X0_give n a1 a2 D = some qv), wd_Met l X yX0_give cX0_give 4 (some FieldType.int) ({ frames := 1 + n, cells := 0, slots := 0, locals := 100 * (1 + n) }) S0 S0 ([.ref (X.2.2.1 + 334), .int a1, .int a2] : List Value) D qv.2 (some (.int qv.1)) 0 0 := by
  intro n
  induction n with
  | zero => intro a1 a2 D qv h; cases h
  | succ n ih_rec =>
    intro a1 a2 D qv h
    rw [f_X0_give] at h
    refine wd_enter (by decide) (Nat.le_of_ble_eq_true rfl) ?_
    intro p e s m below meth c CF hret hlk hnm hW hE ls hl
    have CF : CallFix p m c cX0_give 4 s ([.ref (X.2.2.1 + 334), .int a1, .int a2] : List Value).toArray tg RX0 := CF
    have hx := CF.1
    have hb := CF.2.1
    have hown := CF.2.2.2.1
    have hts := CF.2.2.2.2
    have hS : va_S (wd_A X) s.heap s.heap [] := va_S.rf
    have hl : lv_has ls 4 [(0, .ref (X.2.2.1 + 334)), (1, .int a1), (2, .int a2)] := hl
    refine lv_iload_n hx hb dX0_give_0 rfl (lv_at hl 2 rfl) ?_
    refine lv_bipush (v := 16) hx hb dX0_give_1 (by decide) ?_
    refine lv_icmp_le (tgt := 8) hx hb dX0_give_3 (by decide) (fun c1 => ?_) (fun c1 => ?_)
    · rw [if_pos c1] at h
      refine lv_aload_n hx hb dX0_give_8 rfl (lv_at hl 0 rfl) ?_
      refine lv_iload_n hx hb dX0_give_9 rfl (lv_at hl 1 rfl) ?_
      obtain ⟨q2, eq2, h⟩ := bdE h
      refine wd_callVv (ci := 0) (k := 334) CF hE hW hS (x_X0_leave l X a1 D eq2) mi_X0_leave vi_X0_leave tw728 ⟨by decide, rfl⟩ sh_334 ⟨rfl, rfl, (by dsimp only; omega), (by dsimp only; omega)⟩ rfl hl.1 rfl (Nat.le_of_ble_eq_true rfl) dX0_give_10 ⟨Nat.le_of_ble_eq_true rfl, Nat.le_of_ble_eq_true rfl⟩ (fun H locs hW hS => ?_)
      refine lv_iload_n hx hb dX0_give_13 rfl (lv_at hl 2 rfl) ?_
      refine lv_iconst (v := 1) hx hb dX0_give_14 (by decide) ?_
      refine lv_iadd hx hb dX0_give_15 ?_
      refine lv_topi (fun x3 ex3 => ?_)
      replace h := apR ex3 h
      refine lv_istore_n (lv' := [(3, .int x3), (0, .ref (X.2.2.1 + 334)), (1, .int a1), (2, .int a2)]) hx hb dX0_give_16 rfl hl (by decide) rfl (fun ls hl => ?_)
      refine lv_iload_n hx hb dX0_give_17 rfl (lv_at hl 2 rfl) ?_
      by_cases c4 : a1 = 10
      · rw [if_pos c4] at h
        refine lv_tableIn (tgt := 92) (off := 74) hx hb dX0_give_18 (by rw [c4]; decide) (by rw [c4]; decide) (by rw [c4]; rfl) (by decide) ?_
        refine lv_aload_n hx hb dX0_give_92 rfl (lv_at hl 1 rfl) ?_
        refine wd_get CF hE hW fl_X0_27 sh_334 (v := .int (gI q2 334 3)) rfl dX0_give_93 ?_
        have h := Option.some.inj h
        subst h
        exact wd_iret CF hret hlk hW hS dX0_give_96
      · rw [if_neg c4] at h
        by_cases c5 : a1 = 11
        · rw [if_pos c5] at h
          refine lv_tableIn (tgt := 97) (off := 79) hx hb dX0_give_18 (by rw [c5]; decide) (by rw [c5]; decide) (by rw [c5]; rfl) (by decide) ?_
          refine lv_aload_n hx hb dX0_give_97 rfl (lv_at hl 1 rfl) ?_
          refine lv_bipush (v := 10) hx hb dX0_give_98 (by decide) ?_
          refine lv_iload_n hx hb dX0_give_100 rfl (lv_at hl 0 rfl) ?_
          obtain ⟨q6, eq6, h⟩ := bdE h
          refine wd_callVr (ci := 0) (k := 334) CF hE hW hS (ih_rec 10 x3 q2 eq6) mi_X0_give vi_X0_give tw724 ⟨by decide, rfl⟩ sh_334 ⟨rfl, rfl, (by dsimp only; omega), (by dsimp only; omega)⟩ rfl hl.1 rfl (Nat.le_of_ble_eq_true rfl) dX0_give_101 ⟨Nat.le_of_ble_eq_true rfl, Nat.le_of_ble_eq_true rfl⟩ (fun H locs hW hS => ?_)
          refine lv_aload_n hx hb dX0_give_104 rfl (lv_at hl 1 rfl) ?_
          refine lv_aload_n hx hb dX0_give_105 rfl (lv_at hl 1 rfl) ?_
          refine wd_get CF hE hW fl_X0_57 sh_334 (v := .int (gI q6.2 334 6)) rfl dX0_give_106 ?_
          refine lv_iload_n hx hb dX0_give_109 rfl (lv_at hl 0 rfl) ?_
          obtain ⟨q7, eq7, h⟩ := bdE h
          refine wd_callVr (ci := 0) (k := 334) CF hE hW hS (ih_rec (gI q6.2 334 6) x3 q6.2 eq7) mi_X0_give vi_X0_give tw724 ⟨by decide, rfl⟩ sh_334 ⟨rfl, rfl, (by dsimp only; omega), (by dsimp only; omega)⟩ rfl hl.1 rfl (Nat.le_of_ble_eq_true rfl) dX0_give_110 ⟨Nat.le_of_ble_eq_true rfl, Nat.le_of_ble_eq_true rfl⟩ (fun H locs hW hS => ?_)
          refine lv_iadd hx hb dX0_give_113 ?_
          have h := Option.some.inj h
          subst h
          exact wd_iret CF hret hlk hW hS dX0_give_114
        · rw [if_neg c5] at h
          by_cases c8 : a1 = 12
          · rw [if_pos c8] at h
            refine lv_tableIn (tgt := 115) (off := 97) hx hb dX0_give_18 (by rw [c8]; decide) (by rw [c8]; decide) (by rw [c8]; rfl) (by decide) ?_
            refine lv_aload_n hx hb dX0_give_115 rfl (lv_at hl 1 rfl) ?_
            refine lv_bipush (v := 11) hx hb dX0_give_116 (by decide) ?_
            refine lv_iload_n hx hb dX0_give_118 rfl (lv_at hl 0 rfl) ?_
            obtain ⟨q9, eq9, h⟩ := bdE h
            refine wd_callVr (ci := 0) (k := 334) CF hE hW hS (ih_rec 11 x3 q2 eq9) mi_X0_give vi_X0_give tw724 ⟨by decide, rfl⟩ sh_334 ⟨rfl, rfl, (by dsimp only; omega), (by dsimp only; omega)⟩ rfl hl.1 rfl (Nat.le_of_ble_eq_true rfl) dX0_give_119 ⟨Nat.le_of_ble_eq_true rfl, Nat.le_of_ble_eq_true rfl⟩ (fun H locs hW hS => ?_)
            refine lv_ineg hx hb dX0_give_122 ?_
            have h := Option.some.inj h
            subst h
            exact wd_iret CF hret hlk hW hS dX0_give_123
          · rw [if_neg c8] at h
            by_cases c10 : a1 = 13
            · rw [if_pos c10] at h
              refine lv_tableIn (tgt := 124) (off := 106) hx hb dX0_give_18 (by rw [c10]; decide) (by rw [c10]; decide) (by rw [c10]; rfl) (by decide) ?_
              refine lv_aload_n hx hb dX0_give_124 rfl (lv_at hl 1 rfl) ?_
              refine lv_bipush (v := 10) hx hb dX0_give_125 (by decide) ?_
              refine lv_iload_n hx hb dX0_give_127 rfl (lv_at hl 0 rfl) ?_
              obtain ⟨q11, eq11, h⟩ := bdE h
              refine wd_callVr (ci := 0) (k := 334) CF hE hW hS (ih_rec 10 x3 q2 eq11) mi_X0_give vi_X0_give tw724 ⟨by decide, rfl⟩ sh_334 ⟨rfl, rfl, (by dsimp only; omega), (by dsimp only; omega)⟩ rfl hl.1 rfl (Nat.le_of_ble_eq_true rfl) dX0_give_128 ⟨Nat.le_of_ble_eq_true rfl, Nat.le_of_ble_eq_true rfl⟩ (fun H locs hW hS => ?_)
              refine lv_bipush (v := 100) hx hb dX0_give_131 (by decide) ?_
              refine lv_isub hx hb dX0_give_133 ?_
              have h := Option.some.inj h
              subst h
              exact wd_iret CF hret hlk hW hS dX0_give_134
            · rw [if_neg c10] at h
              by_cases c12 : a1 = 14
              · rw [if_pos c12] at h
                refine lv_tableIn (tgt := 135) (off := 117) hx hb dX0_give_18 (by rw [c12]; decide) (by rw [c12]; decide) (by rw [c12]; rfl) (by decide) ?_
                refine lv_iconst (v := 2) hx hb dX0_give_135 (by decide) ?_
                refine lv_aload_n hx hb dX0_give_136 rfl (lv_at hl 1 rfl) ?_
                refine lv_bipush (v := 13) hx hb dX0_give_137 (by decide) ?_
                refine lv_iload_n hx hb dX0_give_139 rfl (lv_at hl 0 rfl) ?_
                obtain ⟨q13, eq13, h⟩ := bdE h
                refine wd_callVr (ci := 0) (k := 334) CF hE hW hS (ih_rec 13 x3 q2 eq13) mi_X0_give vi_X0_give tw724 ⟨by decide, rfl⟩ sh_334 ⟨rfl, rfl, (by dsimp only; omega), (by dsimp only; omega)⟩ rfl hl.1 rfl (Nat.le_of_ble_eq_true rfl) dX0_give_140 ⟨Nat.le_of_ble_eq_true rfl, Nat.le_of_ble_eq_true rfl⟩ (fun H locs hW hS => ?_)
                refine lv_imul hx hb dX0_give_143 ?_
                have h := Option.some.inj h
                subst h
                exact wd_iret CF hret hlk hW hS dX0_give_144
              · rw [if_neg c12] at h
                by_cases c14 : a1 = 15
                · rw [if_pos c14] at h
                  refine lv_tableIn (tgt := 203) (off := 185) hx hb dX0_give_18 (by rw [c14]; decide) (by rw [c14]; decide) (by rw [c14]; rfl) (by decide) ?_
                  refine lv_iconst (v := 0) hx hb dX0_give_203 (by decide) ?_
                  have h := Option.some.inj h
                  subst h
                  exact wd_iret CF hret hlk hW hS dX0_give_204
                · rw [if_neg c14] at h
                  by_cases c15 : a1 = 16
                  · rw [if_pos c15] at h
                    refine lv_tableIn (tgt := 203) (off := 185) hx hb dX0_give_18 (by rw [c15]; decide) (by rw [c15]; decide) (by rw [c15]; rfl) (by decide) ?_
                    refine lv_iconst (v := 0) hx hb dX0_give_203 (by decide) ?_
                    have h := Option.some.inj h
                    subst h
                    exact wd_iret CF hret hlk hW hS dX0_give_204
                  · rw [if_neg c15] at h
                    by_cases c16 : a1 = 17
                    · rw [if_pos c16] at h
                      refine lv_tableIn (tgt := 203) (off := 185) hx hb dX0_give_18 (by rw [c16]; decide) (by rw [c16]; decide) (by rw [c16]; rfl) (by decide) ?_
                      refine lv_iconst (v := 0) hx hb dX0_give_203 (by decide) ?_
                      have h := Option.some.inj h
                      subst h
                      exact wd_iret CF hret hlk hW hS dX0_give_204
                    · rw [if_neg c16] at h
                      by_cases c17 : a1 = 18
                      · rw [if_pos c17] at h
                        refine lv_tableIn (tgt := 203) (off := 185) hx hb dX0_give_18 (by rw [c17]; decide) (by rw [c17]; decide) (by rw [c17]; rfl) (by decide) ?_
                        refine lv_iconst (v := 0) hx hb dX0_give_203 (by decide) ?_
                        have h := Option.some.inj h
                        subst h
                        exact wd_iret CF hret hlk hW hS dX0_give_204
                      · rw [if_neg c17] at h
                        by_cases c18 : a1 = 19
                        · rw [if_pos c18] at h
                          refine lv_tableIn (tgt := 203) (off := 185) hx hb dX0_give_18 (by rw [c18]; decide) (by rw [c18]; decide) (by rw [c18]; rfl) (by decide) ?_
                          refine lv_iconst (v := 0) hx hb dX0_give_203 (by decide) ?_
                          have h := Option.some.inj h
                          subst h
                          exact wd_iret CF hret hlk hW hS dX0_give_204
                        · rw [if_neg c18] at h
                          by_cases c19 : a1 = 20
                          · rw [if_pos c19] at h
                            refine lv_tableIn (tgt := 145) (off := 127) hx hb dX0_give_18 (by rw [c19]; decide) (by rw [c19]; decide) (by rw [c19]; rfl) (by decide) ?_
                            refine lv_aload_n hx hb dX0_give_145 rfl (lv_at hl 1 rfl) ?_
                            refine wd_get CF hE hW fl_X0_19 sh_334 (v := .int (gI q2 334 2)) rfl dX0_give_146 ?_
                            have h := Option.some.inj h
                            subst h
                            exact wd_iret CF hret hlk hW hS dX0_give_149
                          · rw [if_neg c19] at h
                            by_cases c20 : a1 = 21
                            · rw [if_pos c20] at h
                              refine lv_tableIn (tgt := 150) (off := 132) hx hb dX0_give_18 (by rw [c20]; decide) (by rw [c20]; decide) (by rw [c20]; rfl) (by decide) ?_
                              refine lv_aload_n hx hb dX0_give_150 rfl (lv_at hl 1 rfl) ?_
                              refine lv_bipush (v := 20) hx hb dX0_give_151 (by decide) ?_
                              refine lv_iload_n hx hb dX0_give_153 rfl (lv_at hl 0 rfl) ?_
                              obtain ⟨q21, eq21, h⟩ := bdE h
                              refine wd_callVr (ci := 0) (k := 334) CF hE hW hS (ih_rec 20 x3 q2 eq21) mi_X0_give vi_X0_give tw724 ⟨by decide, rfl⟩ sh_334 ⟨rfl, rfl, (by dsimp only; omega), (by dsimp only; omega)⟩ rfl hl.1 rfl (Nat.le_of_ble_eq_true rfl) dX0_give_154 ⟨Nat.le_of_ble_eq_true rfl, Nat.le_of_ble_eq_true rfl⟩ (fun H locs hW hS => ?_)
                              refine lv_aload_n hx hb dX0_give_157 rfl (lv_at hl 1 rfl) ?_
                              refine wd_get CF hE hW fl_X0_38 sh_334 (v := .int (gI q21.2 334 4)) rfl dX0_give_158 ?_
                              refine lv_iadd hx hb dX0_give_161 ?_
                              have h := Option.some.inj h
                              subst h
                              exact wd_iret CF hret hlk hW hS dX0_give_162
                            · rw [if_neg c20] at h
                              by_cases c22 : a1 = 22
                              · rw [if_pos c22] at h
                                refine lv_tableIn (tgt := 163) (off := 145) hx hb dX0_give_18 (by rw [c22]; decide) (by rw [c22]; decide) (by rw [c22]; rfl) (by decide) ?_
                                refine lv_aload_n hx hb dX0_give_163 rfl (lv_at hl 1 rfl) ?_
                                refine lv_bipush (v := 21) hx hb dX0_give_164 (by decide) ?_
                                refine lv_iload_n hx hb dX0_give_166 rfl (lv_at hl 0 rfl) ?_
                                obtain ⟨q23, eq23, h⟩ := bdE h
                                refine wd_callVr (ci := 0) (k := 334) CF hE hW hS (ih_rec 21 x3 q2 eq23) mi_X0_give vi_X0_give tw724 ⟨by decide, rfl⟩ sh_334 ⟨rfl, rfl, (by dsimp only; omega), (by dsimp only; omega)⟩ rfl hl.1 rfl (Nat.le_of_ble_eq_true rfl) dX0_give_167 ⟨Nat.le_of_ble_eq_true rfl, Nat.le_of_ble_eq_true rfl⟩ (fun H locs hW hS => ?_)
                                refine lv_sipush (v := 1000) hx hb dX0_give_170 (by decide) ?_
                                refine lv_isub hx hb dX0_give_173 ?_
                                have h := Option.some.inj h
                                subst h
                                exact wd_iret CF hret hlk hW hS dX0_give_174
                              · rw [if_neg c22] at h
                                by_cases c24 : a1 = 23
                                · rw [if_pos c24] at h
                                  refine lv_tableIn (tgt := 175) (off := 157) hx hb dX0_give_18 (by rw [c24]; decide) (by rw [c24]; decide) (by rw [c24]; rfl) (by decide) ?_
                                  refine lv_aload_n hx hb dX0_give_175 rfl (lv_at hl 1 rfl) ?_
                                  refine lv_bipush (v := 20) hx hb dX0_give_176 (by decide) ?_
                                  refine lv_iload_n hx hb dX0_give_178 rfl (lv_at hl 0 rfl) ?_
                                  obtain ⟨q25, eq25, h⟩ := bdE h
                                  refine wd_callVr (ci := 0) (k := 334) CF hE hW hS (ih_rec 20 x3 q2 eq25) mi_X0_give vi_X0_give tw724 ⟨by decide, rfl⟩ sh_334 ⟨rfl, rfl, (by dsimp only; omega), (by dsimp only; omega)⟩ rfl hl.1 rfl (Nat.le_of_ble_eq_true rfl) dX0_give_179 ⟨Nat.le_of_ble_eq_true rfl, Nat.le_of_ble_eq_true rfl⟩ (fun H locs hW hS => ?_)
                                  refine lv_aload_n hx hb dX0_give_182 rfl (lv_at hl 1 rfl) ?_
                                  refine lv_aload_n hx hb dX0_give_183 rfl (lv_at hl 1 rfl) ?_
                                  refine wd_get CF hE hW fl_X0_51 sh_334 (v := .int (gI q25.2 334 5)) rfl dX0_give_184 ?_
                                  refine lv_iload_n hx hb dX0_give_187 rfl (lv_at hl 0 rfl) ?_
                                  obtain ⟨q26, eq26, h⟩ := bdE h
                                  refine wd_callVr (ci := 0) (k := 334) CF hE hW hS (ih_rec (gI q25.2 334 5) x3 q25.2 eq26) mi_X0_give vi_X0_give tw724 ⟨by decide, rfl⟩ sh_334 ⟨rfl, rfl, (by dsimp only; omega), (by dsimp only; omega)⟩ rfl hl.1 rfl (Nat.le_of_ble_eq_true rfl) dX0_give_188 ⟨Nat.le_of_ble_eq_true rfl, Nat.le_of_ble_eq_true rfl⟩ (fun H locs hW hS => ?_)
                                  refine lv_isub hx hb dX0_give_191 ?_
                                  have h := Option.some.inj h
                                  subst h
                                  exact wd_iret CF hret hlk hW hS dX0_give_192
                                · rw [if_neg c24] at h
                                  by_cases c27 : a1 = 24
                                  · rw [if_pos c27] at h
                                    refine lv_tableIn (tgt := 193) (off := 175) hx hb dX0_give_18 (by rw [c27]; decide) (by rw [c27]; decide) (by rw [c27]; rfl) (by decide) ?_
                                    refine lv_iconst (v := 2) hx hb dX0_give_193 (by decide) ?_
                                    refine lv_aload_n hx hb dX0_give_194 rfl (lv_at hl 1 rfl) ?_
                                    refine lv_bipush (v := 21) hx hb dX0_give_195 (by decide) ?_
                                    refine lv_iload_n hx hb dX0_give_197 rfl (lv_at hl 0 rfl) ?_
                                    obtain ⟨q28, eq28, h⟩ := bdE h
                                    refine wd_callVr (ci := 0) (k := 334) CF hE hW hS (ih_rec 21 x3 q2 eq28) mi_X0_give vi_X0_give tw724 ⟨by decide, rfl⟩ sh_334 ⟨rfl, rfl, (by dsimp only; omega), (by dsimp only; omega)⟩ rfl hl.1 rfl (Nat.le_of_ble_eq_true rfl) dX0_give_198 ⟨Nat.le_of_ble_eq_true rfl, Nat.le_of_ble_eq_true rfl⟩ (fun H locs hW hS => ?_)
                                    refine lv_imul hx hb dX0_give_201 ?_
                                    have h := Option.some.inj h
                                    subst h
                                    exact wd_iret CF hret hlk hW hS dX0_give_202
                                  · rw [if_neg c27] at h
                                    have ic4 := lv_neT (a := 10) c4 (by decide)
                                    have ic5 := lv_neT (a := 11) c5 (by decide)
                                    have ic8 := lv_neT (a := 12) c8 (by decide)
                                    have ic10 := lv_neT (a := 13) c10 (by decide)
                                    have ic12 := lv_neT (a := 14) c12 (by decide)
                                    have ic14 := lv_neT (a := 15) c14 (by decide)
                                    have ic15 := lv_neT (a := 16) c15 (by decide)
                                    have ic16 := lv_neT (a := 17) c16 (by decide)
                                    have ic17 := lv_neT (a := 18) c17 (by decide)
                                    have ic18 := lv_neT (a := 19) c18 (by decide)
                                    have ic19 := lv_neT (a := 20) c19 (by decide)
                                    have ic20 := lv_neT (a := 21) c20 (by decide)
                                    have ic22 := lv_neT (a := 22) c22 (by decide)
                                    have ic24 := lv_neT (a := 23) c24 (by decide)
                                    have ic27 := lv_neT (a := 24) c27 (by decide)
                                    refine lv_tableOut (tgt := 203) hx hb dX0_give_18 (by omega) (by decide) ?_
                                    refine lv_iconst (v := 0) hx hb dX0_give_203 (by decide) ?_
                                    have h := Option.some.inj h
                                    subst h
                                    exact wd_iret CF hret hlk hW hS dX0_give_204
    · rw [if_neg c1] at h
      refine lv_iconst (v := 0) hx hb dX0_give_6 (by decide) ?_
      have h := Option.some.inj h
      subst h
      exact wd_iret CF hret hlk hW hS dX0_give_7
def f_X0_answer_L81  (r1 : Nat) (a2 : Int32) (a3 : Int32) (z0 : Int32) (D : wd_D) : Option (Int32 × wd_D) := (f_X0_give 20 z0 0 D).bind (fun q15 => some (q15.1, q15.2))
def f_X0_answer (r1 : Nat) (a2 : Int32) (a3 : Int32) (D : wd_D) : Option (Int32 × wd_D) := ap (sI D 334 1 0) (fun D1 => ap (sI D1 334 2 a2) (fun D2 => (rd 7 D2 (r1 + 2) a2).bind (fun x3 => ap (sI D2 334 3 x3) (fun D4 => (f_X3_heardCriers r1 D4).bind (fun x5 => (f_X3_noiseAt r1 a2 x5 D4).bind (fun x6 => ap (sI D4 334 4 x6) (fun D7 => (rd 7 D7 (r1 + 1) a2).bind (fun x8 => (f_X0_nearest 4 x8 D7).bind (fun x9 => ap (sI D7 334 5 x9) (fun D10 => (rd 7 D10 (r1 + 1) a2).bind (fun x11 => (f_X0_nearest 5 x11 D10).bind (fun x12 => ap (sI D10 334 6 x12) (fun D13 => (if a3 = 0 then f_X0_answer_L81 r1 a2 a3 (gI D13 334 5) D13 else f_X0_answer_L81 r1 a2 a3 (gI D13 334 6) D13))))))))))))))
set_option maxHeartbeats 4000000 in
set_option maxRecDepth 100000 in
theorem x_X0_answer (l : Launch) (X : wd_X) (r1 : Nat) (hr1 : RoomAt r1) (a2 : Int32) (a3 : Int32) (D : wd_D) {qv : Int32 × wd_D} (h : f_X0_answer r1 a2 a3 D = some qv) : wd_Met l X yX0_answer cX0_answer 4 (some FieldType.int) ({ frames := 22, cells := 0, slots := 0, locals := 2200 }) S0 S0 ([.ref (X.2.2.1 + 334), .ref (X.2.2.1 + r1), .int a2, .int a3] : List Value) D qv.2 (some (.int qv.1)) 0 0 := by
  refine wd_enter (by decide) (Nat.le_of_ble_eq_true rfl) ?_
  intro p e s m below meth c CF hret hlk hnm hW hE ls hl
  have CF : CallFix p m c cX0_answer 4 s ([.ref (X.2.2.1 + 334), .ref (X.2.2.1 + r1), .int a2, .int a3] : List Value).toArray tg RX0 := CF
  have hx := CF.1
  have hb := CF.2.1
  have hown := CF.2.2.2.1
  have hts := CF.2.2.2.2
  have hS : va_S (wd_A X) s.heap s.heap [] := va_S.rf
  have hl : lv_has ls 4 [(0, .ref (X.2.2.1 + 334)), (1, .ref (X.2.2.1 + r1)), (2, .int a2), (3, .int a3)] := hl
  unfold f_X0_answer at h
  have hL81 : ∀ (z0 : Int32) (D : wd_D) (H : Heap) (locs : List Loc) (ls : Array Slot), Wd X S0 D H → va_S (wd_A X) s.heap H locs → lv_has ls 4 [] → f_X0_answer_L81 r1 a2 a3 z0 D = some qv → W p l e ({ frames := 22, cells := 0, slots := 0, locals := 2200 }) s m ([.ref (X.2.2.1 + 334), .ref (X.2.2.1 + r1), .int a2, .int a3] : List Value).toArray below meth c H locs 0 0 (MQ below (wd_Q X S0 qv.2 (some (.int qv.1))) ([.ref (X.2.2.1 + 334), .ref (X.2.2.1 + r1), .int a2, .int a3] : List Value).toArray s 0 0 (wd_A X)) (F0 m 81 ls [.int z0, .ref (X.2.2.1 + 334)]) := by
    intro z0 D H locs ls hW hS hl h
    unfold f_X0_answer_L81 at h
    refine lv_iconst (v := 0) hx hb dX0_answer_81 (by decide) ?_
    obtain ⟨q15, eq15, h⟩ := bdE h
    refine wd_callVr (ci := 0) (k := 334) CF hE hW hS (x_X0_give l X 20 z0 0 D eq15) mi_X0_give vi_X0_give tw724 ⟨by decide, rfl⟩ sh_334 ⟨rfl, rfl, Nat.le_of_ble_eq_true rfl, Nat.le_of_ble_eq_true rfl⟩ rfl hl.1 rfl (Nat.le_of_ble_eq_true rfl) dX0_answer_82 ⟨Nat.le_of_ble_eq_true rfl, Nat.le_of_ble_eq_true rfl⟩ (fun H locs hW hS => ?_)
    have h := Option.some.inj h
    subst h
    exact wd_iret CF hret hlk hW hS dX0_answer_85
  refine lv_aload_n hx hb dX0_answer_0 rfl (lv_at hl 0 rfl) ?_
  refine lv_iconst (v := 0) hx hb dX0_answer_1 (by decide) ?_
  refine wd_putI CF hE hW hS fl_X0_15 sh_334 rfl rfl dX0_answer_2 (fun D1 H locs eD1 hW hS => ?_)
  replace h := apR eD1 h
  refine lv_aload_n hx hb dX0_answer_5 rfl (lv_at hl 0 rfl) ?_
  refine lv_iload_n hx hb dX0_answer_6 rfl (lv_at hl 2 rfl) ?_
  refine wd_putI CF hE hW hS fl_X0_19 sh_334 rfl rfl dX0_answer_7 (fun D2 H locs eD2 hW hS => ?_)
  replace h := apR eD2 h
  refine lv_aload_n hx hb dX0_answer_10 rfl (lv_at hl 0 rfl) ?_
  refine lv_aload_n hx hb dX0_answer_11 rfl (lv_at hl 1 rfl) ?_
  refine wd_getR CF hE hW fl_X0_22 (rm_s hr1) (rm_r1 hr1) rfl dX0_answer_12 ?_
  refine lv_iload_n hx hb dX0_answer_15 rfl (lv_at hl 2 rfl) ?_
  obtain ⟨x3, ex3, h⟩ := bdE h
  refine wd_iald CF hE hW (rm_a1 hr1) ex3 dX0_answer_16 ?_
  refine wd_putI CF hE hW hS fl_X0_27 sh_334 rfl rfl dX0_answer_17 (fun D4 H locs eD4 hW hS => ?_)
  replace h := apR eD4 h
  refine lv_aload_n hx hb dX0_answer_20 rfl (lv_at hl 0 rfl) ?_
  refine lv_aload_n hx hb dX0_answer_21 rfl (lv_at hl 1 rfl) ?_
  refine lv_iload_n hx hb dX0_answer_22 rfl (lv_at hl 2 rfl) ?_
  refine lv_aload_n hx hb dX0_answer_23 rfl (lv_at hl 1 rfl) ?_
  obtain ⟨x5, ex5, h⟩ := bdE h
  refine wd_callVr (ci := 3) (k := r1) CF hE hW hS (x_X3_heardCriers l X r1 hr1 D4 ex5) mi_X3_heardCriers vi_X3_heardCriers tw714 ⟨by decide, rfl⟩ (rm_s hr1) ⟨rfl, rfl, Nat.le_of_ble_eq_true rfl, Nat.le_of_ble_eq_true rfl⟩ rfl hl.1 rfl (Nat.le_of_ble_eq_true rfl) dX0_answer_24 ⟨Nat.le_of_ble_eq_true rfl, Nat.le_of_ble_eq_true rfl⟩ (fun H locs hW hS => ?_)
  obtain ⟨x6, ex6, h⟩ := bdE h
  refine wd_callVr (ci := 3) (k := r1) CF hE hW hS (x_X3_noiseAt l X r1 hr1 a2 x5 D4 ex6) mi_X3_noiseAt vi_X3_noiseAt tw715 ⟨by decide, rfl⟩ (rm_s hr1) ⟨rfl, rfl, Nat.le_of_ble_eq_true rfl, Nat.le_of_ble_eq_true rfl⟩ rfl hl.1 rfl (Nat.le_of_ble_eq_true rfl) dX0_answer_27 ⟨Nat.le_of_ble_eq_true rfl, Nat.le_of_ble_eq_true rfl⟩ (fun H locs hW hS => ?_)
  refine wd_putI CF hE hW hS fl_X0_38 sh_334 rfl rfl dX0_answer_30 (fun D7 H locs eD7 hW hS => ?_)
  replace h := apR eD7 h
  refine lv_aload_n hx hb dX0_answer_33 rfl (lv_at hl 0 rfl) ?_
  refine wd_sget CF hE hS 4 (by decide) tw716 dX0_answer_34 ?_
  refine lv_aload_n hx hb dX0_answer_37 rfl (lv_at hl 1 rfl) ?_
  refine wd_getR CF hE hW fl_X0_44 (rm_s hr1) (rm_r0 hr1) rfl dX0_answer_38 ?_
  refine lv_iload_n hx hb dX0_answer_41 rfl (lv_at hl 2 rfl) ?_
  obtain ⟨x8, ex8, h⟩ := bdE h
  refine wd_iald CF hE hW (rm_a0 hr1) ex8 dX0_answer_42 ?_
  obtain ⟨x9, ex9, h⟩ := bdE h
  refine wd_callSr CF hE hW hS (x_X0_nearest l X 4 (by decide) x8 D7 ex9) mi_X0_nearest vi_X0_nearest tw718 ⟨rfl, rfl, Nat.le_of_ble_eq_true rfl, Nat.le_of_ble_eq_true rfl⟩ rfl hl.1 rfl (Nat.le_of_ble_eq_true rfl) dX0_answer_43 ⟨Nat.le_of_ble_eq_true rfl, Nat.le_of_ble_eq_true rfl⟩ (fun H locs hW hS => ?_)
  refine wd_putI CF hE hW hS fl_X0_51 sh_334 rfl rfl dX0_answer_46 (fun D10 H locs eD10 hW hS => ?_)
  replace h := apR eD10 h
  refine lv_aload_n hx hb dX0_answer_49 rfl (lv_at hl 0 rfl) ?_
  refine wd_sget CF hE hS 5 (by decide) tw722 dX0_answer_50 ?_
  refine lv_aload_n hx hb dX0_answer_53 rfl (lv_at hl 1 rfl) ?_
  refine wd_getR CF hE hW fl_X0_44 (rm_s hr1) (rm_r0 hr1) rfl dX0_answer_54 ?_
  refine lv_iload_n hx hb dX0_answer_57 rfl (lv_at hl 2 rfl) ?_
  obtain ⟨x11, ex11, h⟩ := bdE h
  refine wd_iald CF hE hW (rm_a0 hr1) ex11 dX0_answer_58 ?_
  obtain ⟨x12, ex12, h⟩ := bdE h
  refine wd_callSr CF hE hW hS (x_X0_nearest l X 5 (by decide) x11 D10 ex12) mi_X0_nearest vi_X0_nearest tw718 ⟨rfl, rfl, Nat.le_of_ble_eq_true rfl, Nat.le_of_ble_eq_true rfl⟩ rfl hl.1 rfl (Nat.le_of_ble_eq_true rfl) dX0_answer_59 ⟨Nat.le_of_ble_eq_true rfl, Nat.le_of_ble_eq_true rfl⟩ (fun H locs hW hS => ?_)
  refine wd_putI CF hE hW hS fl_X0_57 sh_334 rfl rfl dX0_answer_62 (fun D13 H locs eD13 hW hS => ?_)
  replace h := apR eD13 h
  refine lv_aload_n hx hb dX0_answer_65 rfl (lv_at hl 0 rfl) ?_
  refine lv_iload_n hx hb dX0_answer_66 rfl (lv_at hl 3 rfl) ?_
  refine lv_if_ne (tgt := 77) hx hb dX0_answer_67 (by decide) (fun c14 => ?_) (fun c14 => ?_)
  · rw [if_neg c14] at h
    refine lv_aload_n hx hb dX0_answer_77 rfl (lv_at hl 0 rfl) ?_
    refine wd_get CF hE hW fl_X0_57 sh_334 (v := .int (gI D13 334 6)) rfl dX0_answer_78 ?_
    exact hL81 (gI D13 334 6) D13 _ _ _  hW hS (lv_sub hl [] rfl) h
  · rw [if_pos c14] at h
    refine lv_aload_n hx hb dX0_answer_70 rfl (lv_at hl 0 rfl) ?_
    refine wd_get CF hE hW fl_X0_51 sh_334 (v := .int (gI D13 334 5)) rfl dX0_answer_71 ?_
    refine lv_goto (tgt := 81) hx hb dX0_answer_74 (by decide) ?_
    exact hL81 (gI D13 334 5) D13 _ _ _  hW hS (lv_sub hl [] rfl) h
