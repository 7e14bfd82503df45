/-! X5_isFigure, X5_widthAt, X5_kindOf, X5_canStand, X5_valueAt, X5_faultAt, X5_put, X5_readInto -/
def f_X5_isFigure (a0 : Int32) : Int32 := (if a0 < 48 then 0 else (if 57 < a0 then 0 else 1))
theorem z_X5_isFigure (a0 : Int32) : f_X5_isFigure a0 = 0 ∨ f_X5_isFigure a0 = 1 := by
  unfold f_X5_isFigure
  (repeat' split) <;> first | exact Or.inl rfl | exact Or.inr rfl
set_option maxHeartbeats 4000000 in
set_option maxRecDepth 100000 in
theorem x_X5_isFigure (l : Launch) (X : wd_X) (a0 : Int32) (D : wd_D) : wd_Met l X yX5_isFigure cX5_isFigure 1 (some FieldType.boolean) ({ frames := 0, cells := 0, slots := 0, locals := 0 }) S0 S0 ([.int a0] : List Value) D D (some (.int (f_X5_isFigure a0))) 0 0 := by
  obtain ⟨rv, h⟩ : ∃ rv, f_X5_isFigure a0 = rv := ⟨_, rfl⟩
  rw [h]
  refine wd_enter (by decide) (Nat.le_of_ble_eq_true rfl) ?_
  intro p e s m below meth c CF hret hlk hnm hW hE ls hl
  have CF : CallFix p m c cX5_isFigure 1 s ([.int a0] : List Value).toArray tg RX5 := CF
  have hx := CF.1
  have hb := CF.2.1
  have hown := CF.2.2.2.1
  have hts := CF.2.2.2.2
  have hS : va_S (wd_A X) s.heap s.heap [] := va_S.rf
  have hl : lv_has ls 1 [(0, .int a0)] := hl
  unfold f_X5_isFigure at h
  refine lv_iload_n hx hb dX5_isFigure_0 rfl (lv_at hl 0 rfl) ?_
  refine lv_bipush (v := 48) hx hb dX5_isFigure_1 (by decide) ?_
  refine lv_icmp_lt (tgt := 16) hx hb dX5_isFigure_3 (by decide) (fun c1 => ?_) (fun c1 => ?_)
  · rw [if_pos c1] at h
    refine lv_iconst (v := 0) hx hb dX5_isFigure_16 (by decide) ?_
    subst h
    exact wd_zret CF hret hlk hW hS (Or.inl rfl) dX5_isFigure_17
  · rw [if_neg c1] at h
    refine lv_iload_n hx hb dX5_isFigure_6 rfl (lv_at hl 0 rfl) ?_
    refine lv_bipush (v := 57) hx hb dX5_isFigure_7 (by decide) ?_
    refine lv_icmp_gt (tgt := 16) hx hb dX5_isFigure_9 (by decide) (fun c2 => ?_) (fun c2 => ?_)
    · rw [if_pos c2] at h
      refine lv_iconst (v := 0) hx hb dX5_isFigure_16 (by decide) ?_
      subst h
      exact wd_zret CF hret hlk hW hS (Or.inl rfl) dX5_isFigure_17
    · rw [if_neg c2] at h
      refine lv_iconst (v := 1) hx hb dX5_isFigure_12 (by decide) ?_
      refine lv_goto (tgt := 17) hx hb dX5_isFigure_13 (by decide) ?_
      subst h
      exact wd_zret CF hret hlk hW hS (Or.inr rfl) dX5_isFigure_17
def f_X5_widthAt_L69  (a1 : Int32) (v3 : Int32) (D : wd_D) : Option (Int32) := (if v3 ≤ 2 then some v3 else some 0)
def f_X5_widthAt_L38  : Nat → Int32 → Int32 → Int32 → wd_D → Option (Int32)
  | 0, _, _, _, _ => none
  | n + 1, a1, v3, v4, D => (if (gI D 2 1) ≤ v4 then f_X5_widthAt_L69 a1 v3 D else (rd 120 D 3 v4).bind (fun x7 => (if (f_X5_isFigure x7) = 0 then f_X5_widthAt_L69 a1 v3 D else ap (v3 + 1) (fun x9 => ap (v4 + 1) (fun x10 => (f_X5_widthAt_L38 n) a1 x9 x10 D)))))
def f_X5_widthAt_L19  (a1 : Int32) (v2 : Int32) (D : wd_D) : Option (Int32) := (if v2 = 44 then some 1 else (if v2 = 59 then some 1 else f_X5_widthAt_L38 FU a1 0 a1 D))
def f_X5_widthAt (a1 : Int32) (D : wd_D) : Option (Int32) := (rd 120 D 3 a1).bind (fun x1 => (if x1 < 97 then f_X5_widthAt_L19 a1 x1 D else (if x1 ≤ 122 then some 1 else f_X5_widthAt_L19 a1 x1 D)))
set_option maxHeartbeats 4000000 in
set_option maxRecDepth 100000 in
theorem x_X5_widthAt (l : Launch) (X : wd_X) (a1 : Int32) (D : wd_D) {rv : Int32} (h : f_X5_widthAt a1 D = some rv) : wd_Met l X yX5_widthAt cX5_widthAt 5 (some FieldType.int) ({ frames := 1, cells := 0, slots := 0, locals := 100 }) S0 S0 ([.ref (X.2.2.1 + 2), .int a1] : List Value) D D (some (.int rv)) 0 0 := by
  refine wd_enter (by decide) (Nat.le_of_ble_eq_true rfl) ?_
  intro p e s m below meth c CF hret hlk hnm hW hE ls hl
  have CF : CallFix p m c cX5_widthAt 5 s ([.ref (X.2.2.1 + 2), .int a1] : List Value).toArray tg RX5 := CF
  have hx := CF.1
  have hb := CF.2.1
  have hown := CF.2.2.2.1
  have hts := CF.2.2.2.2
  have hS : va_S (wd_A X) s.heap s.heap [] := va_S.rf
  have hl : lv_has ls 5 [(0, .ref (X.2.2.1 + 2)), (1, .int a1)] := hl
  unfold f_X5_widthAt at h
  have hL69 : ∀ (v3 : Int32) (H : Heap) (locs : List Loc) (ls : Array Slot), Wd X S0 D H → va_S (wd_A X) s.heap H locs → lv_has ls 5 [(3, .int v3)] → f_X5_widthAt_L69 a1 v3 D = some rv → W p l e ({ frames := 1, cells := 0, slots := 0, locals := 100 }) s m ([.ref (X.2.2.1 + 2), .int a1] : List Value).toArray below meth c H locs 0 0 (MQ below (wd_Q X S0 D (some (.int rv))) ([.ref (X.2.2.1 + 2), .int a1] : List Value).toArray s 0 0 (wd_A X)) (F0 m 69 ls []) := by
    intro v3 H locs ls hW hS hl h
    unfold f_X5_widthAt_L69 at h
    refine lv_iload_n hx hb dX5_widthAt_69 rfl (lv_at hl 0 rfl) ?_
    refine lv_iconst (v := 2) hx hb dX5_widthAt_70 (by decide) ?_
    refine lv_icmp_le (tgt := 78) hx hb dX5_widthAt_71 (by decide) (fun c11 => ?_) (fun c11 => ?_)
    · rw [if_pos c11] at h
      refine lv_iload_n hx hb dX5_widthAt_78 rfl (lv_at hl 0 rfl) ?_
      have h := Option.some.inj h
      subst h
      exact wd_iret CF hret hlk hW hS dX5_widthAt_79
    · rw [if_neg c11] at h
      refine lv_iconst (v := 0) hx hb dX5_widthAt_74 (by decide) ?_
      refine lv_goto (tgt := 79) hx hb dX5_widthAt_75 (by decide) ?_
      have h := Option.some.inj h
      subst h
      exact wd_iret CF hret hlk hW hS dX5_widthAt_79
  have hL38 : ∀ (n38 : Nat) (v3 : Int32) (v4 : Int32) (H : Heap) (locs : List Loc) (ls : Array Slot), Wd X S0 D H → va_S (wd_A X) s.heap H locs → lv_has ls 5 [(0, .ref (X.2.2.1 + 2)), (3, .int v3), (4, .int v4)] → f_X5_widthAt_L38 n38 a1 v3 v4 D = some rv → W p l e ({ frames := 1, cells := 0, slots := 0, locals := 100 }) s m ([.ref (X.2.2.1 + 2), .int a1] : List Value).toArray below meth c H locs 0 0 (MQ below (wd_Q X S0 D (some (.int rv))) ([.ref (X.2.2.1 + 2), .int a1] : List Value).toArray s 0 0 (wd_A X)) (F0 m 38 ls []) := by
    intro n38
    induction n38 with
    | zero => intro v3 v4 H locs ls hW hS hl h; cases h
    | succ n38 ih38 =>
      intro v3 v4 H locs ls hW hS hl h
      rw [f_X5_widthAt_L38] at h
      refine lv_iload hx hb dX5_widthAt_38 (lv_at hl 2 rfl) ?_
      refine lv_aload_n hx hb dX5_widthAt_40 rfl (lv_at hl 0 rfl) ?_
      refine wd_get CF hE hW fl_X5_20 sh_2 (v := .int (gI D 2 1)) rfl dX5_widthAt_41 ?_
      refine lv_icmp_ge (tgt := 69) hx hb dX5_widthAt_44 (by decide) (fun c6 => ?_) (fun c6 => ?_)
      · rw [if_pos c6] at h
        exact hL69 v3 _ _ _  hW hS (lv_sub hl [1] rfl) h
      · rw [if_neg c6] at h
        refine lv_aload_n hx hb dX5_widthAt_47 rfl (lv_at hl 0 rfl) ?_
        refine wd_getR CF hE hW fl_X5_9 sh_2 rf_2_0 rfl dX5_widthAt_48 ?_
        refine lv_iload hx hb dX5_widthAt_51 (lv_at hl 2 rfl) ?_
        obtain ⟨x7, ex7, h⟩ := bdE h
        refine wd_iald CF hE hW sh_3 ex7 dX5_widthAt_53 ?_
        refine wd_callSr CF hE hW hS (x_X5_isFigure l X x7 D) mi_X5_isFigure vi_X5_isFigure tw331 ⟨rfl, rfl, Nat.le_of_ble_eq_true rfl, Nat.le_of_ble_eq_true rfl⟩ rfl hl.1 rfl (Nat.le_of_ble_eq_true rfl) dX5_widthAt_54 ⟨Nat.le_of_ble_eq_true rfl, Nat.le_of_ble_eq_true rfl⟩ (fun H locs hW hS => ?_)
        refine lv_if_eq (tgt := 69) hx hb dX5_widthAt_57 (by decide) (fun c8 => ?_) (fun c8 => ?_)
        · rw [if_pos c8] at h
          exact hL69 v3 _ _ _  hW hS (lv_sub hl [1] rfl) h
        · rw [if_neg c8] at h
          obtain ⟨x9, ex9⟩ : ∃ y : Int32, y = v3 + 1 := ⟨_, rfl⟩
          replace h := apR ex9 h
          refine lv_iinc (v := x9) (lv' := [(3, .int x9), (0, .ref (X.2.2.1 + 2)), (4, .int v4)]) hx hb dX5_widthAt_60 hl (k := 1) rfl (by rw [ex9]; rfl) (by decide) rfl (fun ls hl => ?_)
          obtain ⟨x10, ex10⟩ : ∃ y : Int32, y = v4 + 1 := ⟨_, rfl⟩
          replace h := apR ex10 h
          refine lv_iinc (v := x10) (lv' := [(4, .int x10), (3, .int x9), (0, .ref (X.2.2.1 + 2))]) hx hb dX5_widthAt_63 hl (k := 2) rfl (by rw [ex10]; rfl) (by decide) rfl (fun ls hl => ?_)
          refine lv_goto (tgt := 38) hx hb dX5_widthAt_66 (by decide) ?_
          exact ih38 x9 x10 _ _ _  hW hS (lv_sub hl [2, 1, 0] rfl) h
  have hL19 : ∀ (v2 : Int32) (H : Heap) (locs : List Loc) (ls : Array Slot), Wd X S0 D H → va_S (wd_A X) s.heap H locs → lv_has ls 5 [(0, .ref (X.2.2.1 + 2)), (1, .int a1), (2, .int v2)] → f_X5_widthAt_L19 a1 v2 D = some rv → W p l e ({ frames := 1, cells := 0, slots := 0, locals := 100 }) s m ([.ref (X.2.2.1 + 2), .int a1] : List Value).toArray below meth c H locs 0 0 (MQ below (wd_Q X S0 D (some (.int rv))) ([.ref (X.2.2.1 + 2), .int a1] : List Value).toArray s 0 0 (wd_A X)) (F0 m 19 ls []) := by
    intro v2 H locs ls hW hS hl h
    unfold f_X5_widthAt_L19 at h
    refine lv_iload_n hx hb dX5_widthAt_19 rfl (lv_at hl 2 rfl) ?_
    refine lv_bipush (v := 44) hx hb dX5_widthAt_20 (by decide) ?_
    refine lv_icmp_eq (tgt := 31) hx hb dX5_widthAt_22 (by decide) (fun c4 => ?_) (fun c4 => ?_)
    · rw [if_pos c4] at h
      refine lv_iconst (v := 1) hx hb dX5_widthAt_31 (by decide) ?_
      have h := Option.some.inj h
      subst h
      exact wd_iret CF hret hlk hW hS dX5_widthAt_32
    · rw [if_neg c4] at h
      refine lv_iload_n hx hb dX5_widthAt_25 rfl (lv_at hl 2 rfl) ?_
      refine lv_bipush (v := 59) hx hb dX5_widthAt_26 (by decide) ?_
      refine lv_icmp_ne (tgt := 33) hx hb dX5_widthAt_28 (by decide) (fun c5 => ?_) (fun c5 => ?_)
      · rw [if_neg c5] at h
        refine lv_iconst (v := 0) hx hb dX5_widthAt_33 (by decide) ?_
        refine lv_istore_n (lv' := [(3, .int 0), (0, .ref (X.2.2.1 + 2)), (1, .int a1), (2, .int v2)]) hx hb dX5_widthAt_34 rfl hl (by decide) rfl (fun ls hl => ?_)
        refine lv_iload_n hx hb dX5_widthAt_35 rfl (lv_at hl 2 rfl) ?_
        refine lv_istore (lv' := [(4, .int a1), (3, .int 0), (0, .ref (X.2.2.1 + 2)), (1, .int a1), (2, .int v2)]) hx hb dX5_widthAt_36 hl (by decide) rfl (fun ls hl => ?_)
        exact hL38 FU 0 a1 _ _ _  hW hS (lv_sub hl [2, 1, 0] rfl) h
      · rw [if_pos c5] at h
        refine lv_iconst (v := 1) hx hb dX5_widthAt_31 (by decide) ?_
        have h := Option.some.inj h
        subst h
        exact wd_iret CF hret hlk hW hS dX5_widthAt_32
  refine lv_aload_n hx hb dX5_widthAt_0 rfl (lv_at hl 0 rfl) ?_
  refine wd_getR CF hE hW fl_X5_9 sh_2 rf_2_0 rfl dX5_widthAt_1 ?_
  refine lv_iload_n hx hb dX5_widthAt_4 rfl (lv_at hl 1 rfl) ?_
  obtain ⟨x1, ex1, h⟩ := bdE h
  refine wd_iald CF hE hW sh_3 ex1 dX5_widthAt_5 ?_
  refine lv_istore_n (lv' := [(2, .int x1), (0, .ref (X.2.2.1 + 2)), (1, .int a1)]) hx hb dX5_widthAt_6 rfl hl (by decide) rfl (fun ls hl => ?_)
  refine lv_iload_n hx hb dX5_widthAt_7 rfl (lv_at hl 0 rfl) ?_
  refine lv_bipush (v := 97) hx hb dX5_widthAt_8 (by decide) ?_
  refine lv_icmp_lt (tgt := 19) hx hb dX5_widthAt_10 (by decide) (fun c2 => ?_) (fun c2 => ?_)
  · rw [if_pos c2] at h
    exact hL19 x1 _ _ _  hW hS (lv_sub hl [1, 2, 0] rfl) h
  · rw [if_neg c2] at h
    refine lv_iload_n hx hb dX5_widthAt_13 rfl (lv_at hl 0 rfl) ?_
    refine lv_bipush (v := 122) hx hb dX5_widthAt_14 (by decide) ?_
    refine lv_icmp_le (tgt := 31) hx hb dX5_widthAt_16 (by decide) (fun c3 => ?_) (fun c3 => ?_)
    · rw [if_pos c3] at h
      refine lv_iconst (v := 1) hx hb dX5_widthAt_31 (by decide) ?_
      have h := Option.some.inj h
      subst h
      exact wd_iret CF hret hlk hW hS dX5_widthAt_32
    · rw [if_neg c3] at h
      exact hL19 x1 _ _ _  hW hS (lv_sub hl [1, 2, 0] rfl) h
def f_X5_kindOf (a0 : Int32) : Int32 := (if a0 = 100 then 4 else (if a0 = 108 then 2 else (if a0 = 112 then 1 else (if a0 = 115 then 3 else (if a0 = 116 then 5 else 0)))))
set_option maxHeartbeats 4000000 in
set_option maxRecDepth 100000 in
theorem x_X5_kindOf (l : Launch) (X : wd_X) (a0 : Int32) (D : wd_D) : wd_Met l X yX5_kindOf cX5_kindOf 1 (some FieldType.int) ({ frames := 0, cells := 0, slots := 0, locals := 0 }) S0 S0 ([.int a0] : List Value) D D (some (.int (f_X5_kindOf a0))) 0 0 := by
  obtain ⟨rv, h⟩ : ∃ rv, f_X5_kindOf a0 = rv := ⟨_, rfl⟩
  rw [h]
  refine wd_enter (by decide) (Nat.le_of_ble_eq_true rfl) ?_
  intro p e s m below meth c CF hret hlk hnm hW hE ls hl
  have CF : CallFix p m c cX5_kindOf 1 s ([.int a0] : List Value).toArray tg RX5 := CF
  have hx := CF.1
  have hb := CF.2.1
  have hown := CF.2.2.2.1
  have hts := CF.2.2.2.2
  have hS : va_S (wd_A X) s.heap s.heap [] := va_S.rf
  have hl : lv_has ls 1 [(0, .int a0)] := hl
  unfold f_X5_kindOf at h
  refine lv_iload_n hx hb dX5_kindOf_0 rfl (lv_at hl 0 rfl) ?_
  by_cases c1 : a0 = 100
  · rw [if_pos c1] at h
    refine lv_lookup (tgt := 58) (off := 57) hx hb dX5_kindOf_1 (by decide) (by rw [c1]; decide) (by decide) ?_
    refine lv_iconst (v := 4) hx hb dX5_kindOf_58 (by decide) ?_
    subst h
    exact wd_iret CF hret hlk hW hS dX5_kindOf_59
  · rw [if_neg c1] at h
    by_cases c2 : a0 = 108
    · rw [if_pos c2] at h
      refine lv_lookup (tgt := 54) (off := 53) hx hb dX5_kindOf_1 (by decide) (by rw [c2]; decide) (by decide) ?_
      refine lv_iconst (v := 2) hx hb dX5_kindOf_54 (by decide) ?_
      subst h
      exact wd_iret CF hret hlk hW hS dX5_kindOf_55
    · rw [if_neg c2] at h
      by_cases c3 : a0 = 112
      · rw [if_pos c3] at h
        refine lv_lookup (tgt := 52) (off := 51) hx hb dX5_kindOf_1 (by decide) (by rw [c3]; decide) (by decide) ?_
        refine lv_iconst (v := 1) hx hb dX5_kindOf_52 (by decide) ?_
        subst h
        exact wd_iret CF hret hlk hW hS dX5_kindOf_53
      · rw [if_neg c3] at h
        by_cases c4 : a0 = 115
        · rw [if_pos c4] at h
          refine lv_lookup (tgt := 56) (off := 55) hx hb dX5_kindOf_1 (by decide) (by rw [c4]; decide) (by decide) ?_
          refine lv_iconst (v := 3) hx hb dX5_kindOf_56 (by decide) ?_
          subst h
          exact wd_iret CF hret hlk hW hS dX5_kindOf_57
        · rw [if_neg c4] at h
          by_cases c5 : a0 = 116
          · rw [if_pos c5] at h
            refine lv_lookup (tgt := 60) (off := 59) hx hb dX5_kindOf_1 (by decide) (by rw [c5]; decide) (by decide) ?_
            refine lv_iconst (v := 5) hx hb dX5_kindOf_60 (by decide) ?_
            subst h
            exact wd_iret CF hret hlk hW hS dX5_kindOf_61
          · rw [if_neg c5] at h
            refine lv_lookup (tgt := 62) (off := 61) hx hb dX5_kindOf_1 (by decide) (by show Op.lookupswitch.offset [(100, 57), (108, 53), (112, 51), (115, 55), (116, 59)] 61 (a0 : Int32).toInt = 61; rw [lv_osw c1 (by decide), lv_osw c2 (by decide), lv_osw c3 (by decide), lv_osw c4 (by decide), lv_osw c5 (by decide)]; rfl) (by decide) ?_
            refine lv_iconst (v := 0) hx hb dX5_kindOf_62 (by decide) ?_
            subst h
            exact wd_iret CF hret hlk hW hS dX5_kindOf_63
def f_X5_canStand (a0 : Int32) (a1 : Int32) : Int32 := (if a1 = 0 then (if a0 = 107 then 1 else 0) else (if a1 = 1 then (f_X5_isFigure a0) else (if a1 = 2 then (if a0 = 44 then 1 else 0) else (if a1 = 3 then (if a0 = 59 then 1 else 0) else (if (f_X5_kindOf a0) = 0 then 0 else 1)))))
theorem z_X5_canStand (a0 : Int32) (a1 : Int32) : f_X5_canStand a0 a1 = 0 ∨ f_X5_canStand a0 a1 = 1 := by
  unfold f_X5_canStand
  (repeat' split) <;> first | exact Or.inl rfl | exact Or.inr rfl | apply z_X5_isFigure
set_option maxHeartbeats 4000000 in
set_option maxRecDepth 100000 in
theorem x_X5_canStand (l : Launch) (X : wd_X) (a0 : Int32) (a1 : Int32) (D : wd_D) : wd_Met l X yX5_canStand cX5_canStand 2 (some FieldType.boolean) ({ frames := 1, cells := 0, slots := 0, locals := 100 }) S0 S0 ([.int a0, .int a1] : List Value) D D (some (.int (f_X5_canStand a0 a1))) 0 0 := by
  obtain ⟨rv, h⟩ : ∃ rv, f_X5_canStand a0 a1 = rv := ⟨_, rfl⟩
  rw [h]
  refine wd_enter (by decide) (Nat.le_of_ble_eq_true rfl) ?_
  intro p e s m below meth c CF hret hlk hnm hW hE ls hl
  have CF : CallFix p m c cX5_canStand 2 s ([.int a0, .int a1] : List Value).toArray tg RX5 := CF
  have hx := CF.1
  have hb := CF.2.1
  have hown := CF.2.2.2.1
  have hts := CF.2.2.2.2
  have hS : va_S (wd_A X) s.heap s.heap [] := va_S.rf
  have hl : lv_has ls 2 [(0, .int a0), (1, .int a1)] := hl
  unfold f_X5_canStand at h
  refine lv_iload_n hx hb dX5_canStand_0 rfl (lv_at hl 1 rfl) ?_
  by_cases c1 : a1 = 0
  · rw [if_pos c1] at h
    refine lv_tableIn (tgt := 32) (off := 31) hx hb dX5_canStand_1 (by rw [c1]; decide) (by rw [c1]; decide) (by rw [c1]; rfl) (by decide) ?_
    refine lv_iload_n hx hb dX5_canStand_32 rfl (lv_at hl 0 rfl) ?_
    refine lv_bipush (v := 107) hx hb dX5_canStand_33 (by decide) ?_
    refine lv_icmp_ne (tgt := 42) hx hb dX5_canStand_35 (by decide) (fun c2 => ?_) (fun c2 => ?_)
    · rw [if_neg c2] at h
      refine lv_iconst (v := 0) hx hb dX5_canStand_42 (by decide) ?_
      subst h
      exact wd_zret CF hret hlk hW hS (Or.inl rfl) dX5_canStand_43
    · rw [if_pos c2] at h
      refine lv_iconst (v := 1) hx hb dX5_canStand_38 (by decide) ?_
      refine lv_goto (tgt := 43) hx hb dX5_canStand_39 (by decide) ?_
      subst h
      exact wd_zret CF hret hlk hW hS (Or.inr rfl) dX5_canStand_43
  · rw [if_neg c1] at h
    by_cases c3 : a1 = 1
    · rw [if_pos c3] at h
      refine lv_tableIn (tgt := 44) (off := 43) hx hb dX5_canStand_1 (by rw [c3]; decide) (by rw [c3]; decide) (by rw [c3]; rfl) (by decide) ?_
      refine lv_iload_n hx hb dX5_canStand_44 rfl (lv_at hl 0 rfl) ?_
      refine wd_callSr CF hE hW hS (x_X5_isFigure l X a0 D) mi_X5_isFigure vi_X5_isFigure tw331 ⟨rfl, rfl, Nat.le_of_ble_eq_true rfl, Nat.le_of_ble_eq_true rfl⟩ rfl hl.1 rfl (Nat.le_of_ble_eq_true rfl) dX5_canStand_45 ⟨Nat.le_of_ble_eq_true rfl, Nat.le_of_ble_eq_true rfl⟩ (fun H locs hW hS => ?_)
      subst h
      exact wd_zret CF hret hlk hW hS (z_X5_isFigure a0) dX5_canStand_48
    · rw [if_neg c3] at h
      by_cases c4 : a1 = 2
      · rw [if_pos c4] at h
        refine lv_tableIn (tgt := 49) (off := 48) hx hb dX5_canStand_1 (by rw [c4]; decide) (by rw [c4]; decide) (by rw [c4]; rfl) (by decide) ?_
        refine lv_iload_n hx hb dX5_canStand_49 rfl (lv_at hl 0 rfl) ?_
        refine lv_bipush (v := 44) hx hb dX5_canStand_50 (by decide) ?_
        refine lv_icmp_ne (tgt := 59) hx hb dX5_canStand_52 (by decide) (fun c5 => ?_) (fun c5 => ?_)
        · rw [if_neg c5] at h
          refine lv_iconst (v := 0) hx hb dX5_canStand_59 (by decide) ?_
          subst h
          exact wd_zret CF hret hlk hW hS (Or.inl rfl) dX5_canStand_60
        · rw [if_pos c5] at h
          refine lv_iconst (v := 1) hx hb dX5_canStand_55 (by decide) ?_
          refine lv_goto (tgt := 60) hx hb dX5_canStand_56 (by decide) ?_
          subst h
          exact wd_zret CF hret hlk hW hS (Or.inr rfl) dX5_canStand_60
      · rw [if_neg c4] at h
        by_cases c6 : a1 = 3
        · rw [if_pos c6] at h
          refine lv_tableIn (tgt := 61) (off := 60) hx hb dX5_canStand_1 (by rw [c6]; decide) (by rw [c6]; decide) (by rw [c6]; rfl) (by decide) ?_
          refine lv_iload_n hx hb dX5_canStand_61 rfl (lv_at hl 0 rfl) ?_
          refine lv_bipush (v := 59) hx hb dX5_canStand_62 (by decide) ?_
          refine lv_icmp_ne (tgt := 71) hx hb dX5_canStand_64 (by decide) (fun c7 => ?_) (fun c7 => ?_)
          · rw [if_neg c7] at h
            refine lv_iconst (v := 0) hx hb dX5_canStand_71 (by decide) ?_
            subst h
            exact wd_zret CF hret hlk hW hS (Or.inl rfl) dX5_canStand_72
          · rw [if_pos c7] at h
            refine lv_iconst (v := 1) hx hb dX5_canStand_67 (by decide) ?_
            refine lv_goto (tgt := 72) hx hb dX5_canStand_68 (by decide) ?_
            subst h
            exact wd_zret CF hret hlk hW hS (Or.inr rfl) dX5_canStand_72
        · rw [if_neg c6] at h
          have ic1 := lv_neT (a := 0) c1 (by decide)
          have ic3 := lv_neT (a := 1) c3 (by decide)
          have ic4 := lv_neT (a := 2) c4 (by decide)
          have ic6 := lv_neT (a := 3) c6 (by decide)
          refine lv_tableOut (tgt := 73) hx hb dX5_canStand_1 (by omega) (by decide) ?_
          refine lv_iload_n hx hb dX5_canStand_73 rfl (lv_at hl 0 rfl) ?_
          refine wd_callSr CF hE hW hS (x_X5_kindOf l X a0 D) mi_X5_kindOf vi_X5_kindOf tw343 ⟨rfl, rfl, Nat.le_of_ble_eq_true rfl, Nat.le_of_ble_eq_true rfl⟩ rfl hl.1 rfl (Nat.le_of_ble_eq_true rfl) dX5_canStand_74 ⟨Nat.le_of_ble_eq_true rfl, Nat.le_of_ble_eq_true rfl⟩ (fun H locs hW hS => ?_)
          refine lv_if_eq (tgt := 84) hx hb dX5_canStand_77 (by decide) (fun c8 => ?_) (fun c8 => ?_)
          · rw [if_pos c8] at h
            refine lv_iconst (v := 0) hx hb dX5_canStand_84 (by decide) ?_
            subst h
            exact wd_zret CF hret hlk hW hS (Or.inl rfl) dX5_canStand_85
          · rw [if_neg c8] at h
            refine lv_iconst (v := 1) hx hb dX5_canStand_80 (by decide) ?_
            refine lv_goto (tgt := 85) hx hb dX5_canStand_81 (by decide) ?_
            subst h
            exact wd_zret CF hret hlk hW hS (Or.inr rfl) dX5_canStand_85
def f_X5_valueAt_L24  : Nat → Int32 → Int32 → Int32 → Int32 → wd_D → Option (Int32)
  | 0, _, _, _, _, _ => none
  | n + 1, a1, a2, v3, v4, D => (if (a1 + a2) ≤ v4 then some v3 else (if (gI D 2 1) ≤ v4 then some v3 else (rd 120 D 3 v4).bind (fun x6 => ap (((10 * v3) + x6) - 48) (fun x7 => ap (v4 + 1) (fun x8 => (f_X5_valueAt_L24 n) a1 a2 x7 x8 D)))))
def f_X5_valueAt (a1 : Int32) (a2 : Int32) (D : wd_D) : Option (Int32) := (rd 120 D 3 a1).bind (fun x1 => (if (f_X5_isFigure x1) = 0 then (rd 120 D 3 a1).bind (fun x3 => some x3) else f_X5_valueAt_L24 FU a1 a2 0 a1 D))
set_option maxHeartbeats 4000000 in
set_option maxRecDepth 100000 in
theorem x_X5_valueAt (l : Launch) (X : wd_X) (a1 : Int32) (a2 : Int32) (D : wd_D) {rv : Int32} (h : f_X5_valueAt a1 a2 D = some rv) : wd_Met l X yX5_valueAt cX5_valueAt 5 (some FieldType.int) ({ frames := 1, cells := 0, slots := 0, locals := 100 }) S0 S0 ([.ref (X.2.2.1 + 2), .int a1, .int a2] : List Value) D D (some (.int rv)) 0 0 := by
  refine wd_enter (by decide) (Nat.le_of_ble_eq_true rfl) ?_
  intro p e s m below meth c CF hret hlk hnm hW hE ls hl
  have CF : CallFix p m c cX5_valueAt 5 s ([.ref (X.2.2.1 + 2), .int a1, .int a2] : List Value).toArray tg RX5 := CF
  have hx := CF.1
  have hb := CF.2.1
  have hown := CF.2.2.2.1
  have hts := CF.2.2.2.2
  have hS : va_S (wd_A X) s.heap s.heap [] := va_S.rf
  have hl : lv_has ls 5 [(0, .ref (X.2.2.1 + 2)), (1, .int a1), (2, .int a2)] := hl
  unfold f_X5_valueAt at h
  have hL24 : ∀ (n24 : Nat) (v3 : Int32) (v4 : Int32) (H : Heap) (locs : List Loc) (ls : Array Slot), Wd X S0 D H → va_S (wd_A X) s.heap H locs → lv_has ls 5 [(0, .ref (X.2.2.1 + 2)), (1, .int a1), (2, .int a2), (3, .int v3), (4, .int v4)] → f_X5_valueAt_L24 n24 a1 a2 v3 v4 D = some rv → W p l e ({ frames := 1, cells := 0, slots := 0, locals := 100 }) s m ([.ref (X.2.2.1 + 2), .int a1, .int a2] : List Value).toArray below meth c H locs 0 0 (MQ below (wd_Q X S0 D (some (.int rv))) ([.ref (X.2.2.1 + 2), .int a1, .int a2] : List Value).toArray s 0 0 (wd_A X)) (F0 m 24 ls []) := by
    intro n24
    induction n24 with
    | zero => intro v3 v4 H locs ls hW hS hl h; cases h
    | succ n24 ih24 =>
      intro v3 v4 H locs ls hW hS hl h
      rw [f_X5_valueAt_L24] at h
      refine lv_iload hx hb dX5_valueAt_24 (lv_at hl 4 rfl) ?_
      refine lv_iload_n hx hb dX5_valueAt_26 rfl (lv_at hl 1 rfl) ?_
      refine lv_iload_n hx hb dX5_valueAt_27 rfl (lv_at hl 2 rfl) ?_
      refine lv_iadd hx hb dX5_valueAt_28 ?_
      refine lv_icmp_ge (tgt := 63) hx hb dX5_valueAt_29 (by decide) (fun c4 => ?_) (fun c4 => ?_)
      · rw [if_pos c4] at h
        refine lv_iload_n hx hb dX5_valueAt_63 rfl (lv_at hl 3 rfl) ?_
        have h := Option.some.inj h
        subst h
        exact wd_iret CF hret hlk hW hS dX5_valueAt_64
      · rw [if_neg c4] at h
        refine lv_iload hx hb dX5_valueAt_32 (lv_at hl 4 rfl) ?_
        refine lv_aload_n hx hb dX5_valueAt_34 rfl (lv_at hl 0 rfl) ?_
        refine wd_get CF hE hW fl_X5_20 sh_2 (v := .int (gI D 2 1)) rfl dX5_valueAt_35 ?_
        refine lv_icmp_ge (tgt := 63) hx hb dX5_valueAt_38 (by decide) (fun c5 => ?_) (fun c5 => ?_)
        · rw [if_pos c5] at h
          refine lv_iload_n hx hb dX5_valueAt_63 rfl (lv_at hl 3 rfl) ?_
          have h := Option.some.inj h
          subst h
          exact wd_iret CF hret hlk hW hS dX5_valueAt_64
        · rw [if_neg c5] at h
          refine lv_bipush (v := 10) hx hb dX5_valueAt_41 (by decide) ?_
          refine lv_iload_n hx hb dX5_valueAt_43 rfl (lv_at hl 3 rfl) ?_
          refine lv_imul hx hb dX5_valueAt_44 ?_
          refine lv_aload_n hx hb dX5_valueAt_45 rfl (lv_at hl 0 rfl) ?_
          refine wd_getR CF hE hW fl_X5_9 sh_2 rf_2_0 rfl dX5_valueAt_46 ?_
          refine lv_iload hx hb dX5_valueAt_49 (lv_at hl 4 rfl) ?_
          obtain ⟨x6, ex6, h⟩ := bdE h
          refine wd_iald CF hE hW sh_3 ex6 dX5_valueAt_51 ?_
          refine lv_iadd hx hb dX5_valueAt_52 ?_
          refine lv_bipush (v := 48) hx hb dX5_valueAt_53 (by decide) ?_
          refine lv_isub hx hb dX5_valueAt_55 ?_
          refine lv_topi (fun x7 ex7 => ?_)
          replace h := apR ex7 h
          refine lv_istore_n (lv' := [(3, .int x7), (0, .ref (X.2.2.1 + 2)), (1, .int a1), (2, .int a2), (4, .int v4)]) hx hb dX5_valueAt_56 rfl hl (by decide) rfl (fun ls hl => ?_)
          obtain ⟨x8, ex8⟩ : ∃ y : Int32, y = v4 + 1 := ⟨_, rfl⟩
          replace h := apR ex8 h
          refine lv_iinc (v := x8) (lv' := [(4, .int x8), (3, .int x7), (0, .ref (X.2.2.1 + 2)), (1, .int a1), (2, .int a2)]) hx hb dX5_valueAt_57 hl (k := 4) rfl (by rw [ex8]; rfl) (by decide) rfl (fun ls hl => ?_)
          refine lv_goto (tgt := 24) hx hb dX5_valueAt_60 (by decide) ?_
          exact ih24 x7 x8 _ _ _  hW hS (lv_sub hl [2, 3, 4, 1, 0] rfl) h
  refine lv_aload_n hx hb dX5_valueAt_0 rfl (lv_at hl 0 rfl) ?_
  refine wd_getR CF hE hW fl_X5_9 sh_2 rf_2_0 rfl dX5_valueAt_1 ?_
  refine lv_iload_n hx hb dX5_valueAt_4 rfl (lv_at hl 1 rfl) ?_
  obtain ⟨x1, ex1, h⟩ := bdE h
  refine wd_iald CF hE hW sh_3 ex1 dX5_valueAt_5 ?_
  refine wd_callSr CF hE hW hS (x_X5_isFigure l X x1 D) mi_X5_isFigure vi_X5_isFigure tw331 ⟨rfl, rfl, Nat.le_of_ble_eq_true rfl, Nat.le_of_ble_eq_true rfl⟩ rfl hl.1 rfl (Nat.le_of_ble_eq_true rfl) dX5_valueAt_6 ⟨Nat.le_of_ble_eq_true rfl, Nat.le_of_ble_eq_true rfl⟩ (fun H locs hW hS => ?_)
  refine lv_if_ne (tgt := 19) hx hb dX5_valueAt_9 (by decide) (fun c2 => ?_) (fun c2 => ?_)
  · rw [if_neg c2] at h
    refine lv_iconst (v := 0) hx hb dX5_valueAt_19 (by decide) ?_
    refine lv_istore_n (lv' := [(3, .int 0), (0, .ref (X.2.2.1 + 2)), (1, .int a1), (2, .int a2)]) hx hb dX5_valueAt_20 rfl hl (by decide) rfl (fun ls hl => ?_)
    refine lv_iload_n hx hb dX5_valueAt_21 rfl (lv_at hl 2 rfl) ?_
    refine lv_istore (lv' := [(4, .int a1), (3, .int 0), (0, .ref (X.2.2.1 + 2)), (1, .int a1), (2, .int a2)]) hx hb dX5_valueAt_22 hl (by decide) rfl (fun ls hl => ?_)
    exact hL24 FU 0 a1 _ _ _  hW hS (lv_sub hl [2, 3, 4, 1, 0] rfl) h
  · rw [if_pos c2] at h
    refine lv_aload_n hx hb dX5_valueAt_12 rfl (lv_at hl 0 rfl) ?_
    refine wd_getR CF hE hW fl_X5_9 sh_2 rf_2_0 rfl dX5_valueAt_13 ?_
    refine lv_iload_n hx hb dX5_valueAt_16 rfl (lv_at hl 1 rfl) ?_
    obtain ⟨x3, ex3, h⟩ := bdE h
    refine wd_iald CF hE hW sh_3 ex3 dX5_valueAt_17 ?_
    have h := Option.some.inj h
    subst h
    exact wd_iret CF hret hlk hW hS dX5_valueAt_18
def f_X5_faultAt_L56  (a1 : Int32) (a2 : Int32) (a3 : Int32) (a4 : Int32) (D : wd_D) : Option (Int32) := (rs 0 a3).bind (fun x11 => (if x11 = 4 then (if a4 < 7 then some 0 else some 3) else some 0))
def f_X5_faultAt (a1 : Int32) (a2 : Int32) (a3 : Int32) (a4 : Int32) (D : wd_D) : Option (Int32) := (if a2 = 0 then some 1 else (rd 120 D 3 a1).bind (fun x2 => (rs 0 a3).bind (fun x3 => (if (f_X5_canStand x2 x3) = 0 then some 1 else (rs 0 a3).bind (fun x5 => (if x5 = 1 then (f_X5_valueAt a1 a2 D).bind (fun x7 => (rs 1 a3).bind (fun x8 => (rs 2 a3).bind (fun x9 => (if (f_X6_beyond x7 x8 x9) = 0 then f_X5_faultAt_L56 a1 a2 a3 a4 D else some 2)))) else f_X5_faultAt_L56 a1 a2 a3 a4 D))))))
set_option maxHeartbeats 4000000 in
set_option maxRecDepth 100000 in
theorem x_X5_faultAt (l : Launch) (X : wd_X) (a1 : Int32) (a2 : Int32) (a3 : Int32) (a4 : Int32) (D : wd_D) {rv : Int32} (h : f_X5_faultAt a1 a2 a3 a4 D = some rv) : wd_Met l X yX5_faultAt cX5_faultAt 5 (some FieldType.int) ({ frames := 2, cells := 0, slots := 0, locals := 200 }) S0 S0 ([.ref (X.2.2.1 + 2), .int a1, .int a2, .int a3, .int a4] : List Value) D D (some (.int rv)) 0 0 := by
  refine wd_enter (by decide) (Nat.le_of_ble_eq_true rfl) ?_
  intro p e s m below meth c CF hret hlk hnm hW hE ls hl
  have CF : CallFix p m c cX5_faultAt 5 s ([.ref (X.2.2.1 + 2), .int a1, .int a2, .int a3, .int a4] : List Value).toArray tg RX5 := CF
  have hx := CF.1
  have hb := CF.2.1
  have hown := CF.2.2.2.1
  have hts := CF.2.2.2.2
  have hS : va_S (wd_A X) s.heap s.heap [] := va_S.rf
  have hl : lv_has ls 5 [(0, .ref (X.2.2.1 + 2)), (1, .int a1), (2, .int a2), (3, .int a3), (4, .int a4)] := hl
  unfold f_X5_faultAt at h
  have hL56 : ∀  (H : Heap) (locs : List Loc) (ls : Array Slot), Wd X S0 D H → va_S (wd_A X) s.heap H locs → lv_has ls 5 [(3, .int a3), (4, .int a4)] → f_X5_faultAt_L56 a1 a2 a3 a4 D = some rv → W p l e ({ frames := 2, cells := 0, slots := 0, locals := 200 }) s m ([.ref (X.2.2.1 + 2), .int a1, .int a2, .int a3, .int a4] : List Value).toArray below meth c H locs 0 0 (MQ below (wd_Q X S0 D (some (.int rv))) ([.ref (X.2.2.1 + 2), .int a1, .int a2, .int a3, .int a4] : List Value).toArray s 0 0 (wd_A X)) (F0 m 56 ls []) := by
    intro H locs ls hW hS hl h
    unfold f_X5_faultAt_L56 at h
    refine wd_sget CF hE hS 0 (by decide) tw338 dX5_faultAt_56 ?_
    refine lv_iload_n hx hb dX5_faultAt_59 rfl (lv_at hl 0 rfl) ?_
    obtain ⟨x11, ex11, h⟩ := bdE h
    refine wd_sald CF hE hS 0 (by decide) ex11 dX5_faultAt_60 ?_
    refine lv_iconst (v := 4) hx hb dX5_faultAt_61 (by decide) ?_
    refine lv_icmp_ne (tgt := 76) hx hb dX5_faultAt_62 (by decide) (fun c12 => ?_) (fun c12 => ?_)
    · rw [if_neg c12] at h
      refine lv_iconst (v := 0) hx hb dX5_faultAt_76 (by decide) ?_
      have h := Option.some.inj h
      subst h
      exact wd_iret CF hret hlk hW hS dX5_faultAt_77
    · rw [if_pos c12] at h
      refine lv_iload hx hb dX5_faultAt_65 (lv_at hl 1 rfl) ?_
      refine lv_bipush (v := 7) hx hb dX5_faultAt_67 (by decide) ?_
      refine lv_icmp_lt (tgt := 76) hx hb dX5_faultAt_69 (by decide) (fun c13 => ?_) (fun c13 => ?_)
      · rw [if_pos c13] at h
        refine lv_iconst (v := 0) hx hb dX5_faultAt_76 (by decide) ?_
        have h := Option.some.inj h
        subst h
        exact wd_iret CF hret hlk hW hS dX5_faultAt_77
      · rw [if_neg c13] at h
        refine lv_iconst (v := 3) hx hb dX5_faultAt_72 (by decide) ?_
        refine lv_goto (tgt := 77) hx hb dX5_faultAt_73 (by decide) ?_
        have h := Option.some.inj h
        subst h
        exact wd_iret CF hret hlk hW hS dX5_faultAt_77
  refine lv_iload_n hx hb dX5_faultAt_0 rfl (lv_at hl 2 rfl) ?_
  refine lv_if_eq (tgt := 21) hx hb dX5_faultAt_1 (by decide) (fun c1 => ?_) (fun c1 => ?_)
  · rw [if_pos c1] at h
    refine lv_iconst (v := 1) hx hb dX5_faultAt_21 (by decide) ?_
    have h := Option.some.inj h
    subst h
    exact wd_iret CF hret hlk hW hS dX5_faultAt_22
  · rw [if_neg c1] at h
    refine lv_aload_n hx hb dX5_faultAt_4 rfl (lv_at hl 0 rfl) ?_
    refine wd_getR CF hE hW fl_X5_9 sh_2 rf_2_0 rfl dX5_faultAt_5 ?_
    refine lv_iload_n hx hb dX5_faultAt_8 rfl (lv_at hl 1 rfl) ?_
    obtain ⟨x2, ex2, h⟩ := bdE h
    refine wd_iald CF hE hW sh_3 ex2 dX5_faultAt_9 ?_
    refine wd_sget CF hE hS 0 (by decide) tw338 dX5_faultAt_10 ?_
    refine lv_iload_n hx hb dX5_faultAt_13 rfl (lv_at hl 3 rfl) ?_
    obtain ⟨x3, ex3, h⟩ := bdE h
    refine wd_sald CF hE hS 0 (by decide) ex3 dX5_faultAt_14 ?_
    refine wd_callSr CF hE hW hS (x_X5_canStand l X x2 x3 D) mi_X5_canStand vi_X5_canStand tw340 ⟨rfl, rfl, Nat.le_of_ble_eq_true rfl, Nat.le_of_ble_eq_true rfl⟩ rfl hl.1 rfl (Nat.le_of_ble_eq_true rfl) dX5_faultAt_15 ⟨Nat.le_of_ble_eq_true rfl, Nat.le_of_ble_eq_true rfl⟩ (fun H locs hW hS => ?_)
    refine lv_if_ne (tgt := 23) hx hb dX5_faultAt_18 (by decide) (fun c4 => ?_) (fun c4 => ?_)
    · rw [if_neg c4] at h
      refine wd_sget CF hE hS 0 (by decide) tw338 dX5_faultAt_23 ?_
      refine lv_iload_n hx hb dX5_faultAt_26 rfl (lv_at hl 3 rfl) ?_
      obtain ⟨x5, ex5, h⟩ := bdE h
      refine wd_sald CF hE hS 0 (by decide) ex5 dX5_faultAt_27 ?_
      refine lv_iconst (v := 1) hx hb dX5_faultAt_28 (by decide) ?_
      refine lv_icmp_ne (tgt := 56) hx hb dX5_faultAt_29 (by decide) (fun c6 => ?_) (fun c6 => ?_)
      · rw [if_neg c6] at h
        exact hL56  _ _ _  hW hS (lv_sub hl [3, 4] rfl) h
      · rw [if_pos c6] at h
        refine lv_aload_n hx hb dX5_faultAt_32 rfl (lv_at hl 0 rfl) ?_
        refine lv_iload_n hx hb dX5_faultAt_33 rfl (lv_at hl 1 rfl) ?_
        refine lv_iload_n hx hb dX5_faultAt_34 rfl (lv_at hl 2 rfl) ?_
        obtain ⟨x7, ex7, h⟩ := bdE h
        refine wd_callVr (ci := 5) (k := 2) CF hE hW hS (x_X5_valueAt l X a1 a2 D ex7) mi_X5_valueAt vi_X5_valueAt tw346 ⟨by decide, rfl⟩ sh_2 ⟨rfl, rfl, Nat.le_of_ble_eq_true rfl, Nat.le_of_ble_eq_true rfl⟩ rfl hl.1 rfl (Nat.le_of_ble_eq_true rfl) dX5_faultAt_35 ⟨Nat.le_of_ble_eq_true rfl, Nat.le_of_ble_eq_true rfl⟩ (fun H locs hW hS => ?_)
        refine wd_sget CF hE hS 1 (by decide) tw350 dX5_faultAt_38 ?_
        refine lv_iload_n hx hb dX5_faultAt_41 rfl (lv_at hl 3 rfl) ?_
        obtain ⟨x8, ex8, h⟩ := bdE h
        refine wd_sald CF hE hS 1 (by decide) ex8 dX5_faultAt_42 ?_
        refine wd_sget CF hE hS 2 (by decide) tw352 dX5_faultAt_43 ?_
        refine lv_iload_n hx hb dX5_faultAt_46 rfl (lv_at hl 3 rfl) ?_
        obtain ⟨x9, ex9, h⟩ := bdE h
        refine wd_sald CF hE hS 2 (by decide) ex9 dX5_faultAt_47 ?_
        refine wd_callSNr CF hE hW hS (x_X6_beyond l X x7 x8 x9 D) mi_X6_beyond vi_X6_beyond tn354 ⟨rfl, rfl, Nat.le_of_ble_eq_true rfl, Nat.le_of_ble_eq_true rfl⟩ rfl hl.1 rfl (Nat.le_of_ble_eq_true rfl) dX5_faultAt_48 ⟨Nat.le_of_ble_eq_true rfl, Nat.le_of_ble_eq_true rfl⟩ (fun H locs hW hS => ?_)
        refine lv_if_eq (tgt := 56) hx hb dX5_faultAt_51 (by decide) (fun c10 => ?_) (fun c10 => ?_)
        · rw [if_pos c10] at h
          exact hL56  _ _ _  hW hS (lv_sub hl [3, 4] rfl) h
        · rw [if_neg c10] at h
          refine lv_iconst (v := 2) hx hb dX5_faultAt_54 (by decide) ?_
          have h := Option.some.inj h
          subst h
          exact wd_iret CF hret hlk hW hS dX5_faultAt_55
    · rw [if_pos c4] at h
      refine lv_iconst (v := 1) hx hb dX5_faultAt_21 (by decide) ?_
      have h := Option.some.inj h
      subst h
      exact wd_iret CF hret hlk hW hS dX5_faultAt_22
def f_X5_put_L89  (r0 : Nat) (a1 : Int32) (a2 : Int32) (v3 : Int32) (D : wd_D) : Option (wd_D) := (if v3 < 0 then some D else (if a1 = 10 then (wr 7 D (r0 + 4) v3 a2).bind (fun D16 => some D16) else some D))
def f_X5_put_L69  (r0 : Nat) (a1 : Int32) (a2 : Int32) (v3 : Int32) (D : wd_D) : Option (wd_D) := (if v3 < 0 then f_X5_put_L89 r0 a1 a2 v3 D else (if a1 = 8 then (wr 7 D (r0 + 3) v3 a2).bind (fun D13 => some D13) else f_X5_put_L89 r0 a1 a2 v3 D))
def f_X5_put (r0 : Nat) (a1 : Int32) (a2 : Int32) (D : wd_D) : Option (wd_D) := ap ((gI D r0 0) - 1) (fun x1 => (if a1 = 1 then ap (sI D r0 1 a2) (fun D10 => some D10) else (if a1 = 3 then ap (sI D r0 2 a2) (fun D9 => some D9) else (if a1 = 5 then (f_X3_addChild r0 (f_X5_kindOf a2) D).bind (fun q8 => some q8) else (if x1 < 0 then f_X5_put_L69 r0 a1 a2 x1 D else (if a1 = 6 then (wr 7 D (r0 + 2) x1 a2).bind (fun D7 => some D7) else f_X5_put_L69 r0 a1 a2 x1 D))))))
set_option maxHeartbeats 4000000 in
set_option maxRecDepth 100000 in
theorem x_X5_put (l : Launch) (X : wd_X) (r0 : Nat) (hr0 : RoomAt r0) (a1 : Int32) (a2 : Int32) (D : wd_D) {qv : wd_D} (h : f_X5_put r0 a1 a2 D = some qv) : wd_Met l X yX5_put cX5_put 4 (none : Option FieldType) ({ frames := 2, cells := 0, slots := 0, locals := 200 }) S0 S0 ([.ref (X.2.2.1 + r0), .int a1, .int a2] : List Value) D qv none 0 0 := by
  refine wd_enter (by decide) (Nat.le_of_ble_eq_true rfl) ?_
  intro p e s m below meth c CF hret hlk hnm hW hE ls hl
  have CF : CallFix p m c cX5_put 4 s ([.ref (X.2.2.1 + r0), .int a1, .int a2] : List Value).toArray tg RX5 := CF
  have hx := CF.1
  have hb := CF.2.1
  have hown := CF.2.2.2.1
  have hts := CF.2.2.2.2
  have hS : va_S (wd_A X) s.heap s.heap [] := va_S.rf
  have hl : lv_has ls 4 [(0, .ref (X.2.2.1 + r0)), (1, .int a1), (2, .int a2)] := hl
  unfold f_X5_put at h
  have hL89 : ∀ (v3 : Int32) (D : wd_D) (H : Heap) (locs : List Loc) (ls : Array Slot), Wd X S0 D H → va_S (wd_A X) s.heap H locs → lv_has ls 4 [(0, .ref (X.2.2.1 + r0)), (1, .int a1), (2, .int a2), (3, .int v3)] → f_X5_put_L89 r0 a1 a2 v3 D = some qv → W p l e ({ frames := 2, cells := 0, slots := 0, locals := 200 }) s m ([.ref (X.2.2.1 + r0), .int a1, .int a2] : List Value).toArray below meth c H locs 0 0 (MQ below (wd_Q X S0 qv none) ([.ref (X.2.2.1 + r0), .int a1, .int a2] : List Value).toArray s 0 0 (wd_A X)) (F0 m 89 ls []) := by
    intro v3 D H locs ls hW hS hl h
    unfold f_X5_put_L89 at h
    refine lv_iload_n hx hb dX5_put_89 rfl (lv_at hl 3 rfl) ?_
    refine lv_if_lt (tgt := 106) hx hb dX5_put_90 (by decide) (fun c14 => ?_) (fun c14 => ?_)
    · rw [if_pos c14] at h
      have h := Option.some.inj h
      subst h
      exact wd_vret CF hret hlk hW hS dX5_put_106
    · rw [if_neg c14] at h
      refine lv_iload_n hx hb dX5_put_93 rfl (lv_at hl 1 rfl) ?_
      refine lv_bipush (v := 10) hx hb dX5_put_94 (by decide) ?_
      refine lv_icmp_ne (tgt := 106) hx hb dX5_put_96 (by decide) (fun c15 => ?_) (fun c15 => ?_)
      · rw [if_neg c15] at h
        have h := Option.some.inj h
        subst h
        exact wd_vret CF hret hlk hW hS dX5_put_106
      · rw [if_pos c15] at h
        refine lv_aload_n hx hb dX5_put_99 rfl (lv_at hl 0 rfl) ?_
        refine wd_getR CF hE hW fl_X5_91 (rm_s hr0) (rm_r3 hr0) rfl dX5_put_100 ?_
        refine lv_iload_n hx hb dX5_put_103 rfl (lv_at hl 3 rfl) ?_
        refine lv_iload_n hx hb dX5_put_104 rfl (lv_at hl 2 rfl) ?_
        obtain ⟨D16, eD16, h⟩ := bdE h
        refine wd_iast CF hE hW hS (rm_a3 hr0) eD16 dX5_put_105 (fun H locs hW hS => ?_)
        have h := Option.some.inj h
        subst h
        exact wd_vret CF hret hlk hW hS dX5_put_106
  have hL69 : ∀ (v3 : Int32) (D : wd_D) (H : Heap) (locs : List Loc) (ls : Array Slot), Wd X S0 D H → va_S (wd_A X) s.heap H locs → lv_has ls 4 [(0, .ref (X.2.2.1 + r0)), (1, .int a1), (2, .int a2), (3, .int v3)] → f_X5_put_L69 r0 a1 a2 v3 D = some qv → W p l e ({ frames := 2, cells := 0, slots := 0, locals := 200 }) s m ([.ref (X.2.2.1 + r0), .int a1, .int a2] : List Value).toArray below meth c H locs 0 0 (MQ below (wd_Q X S0 qv none) ([.ref (X.2.2.1 + r0), .int a1, .int a2] : List Value).toArray s 0 0 (wd_A X)) (F0 m 69 ls []) := by
    intro v3 D H locs ls hW hS hl h
    unfold f_X5_put_L69 at h
    refine lv_iload_n hx hb dX5_put_69 rfl (lv_at hl 3 rfl) ?_
    refine lv_if_lt (tgt := 89) hx hb dX5_put_70 (by decide) (fun c11 => ?_) (fun c11 => ?_)
    · rw [if_pos c11] at h
      exact hL89 v3 D _ _ _  hW hS (lv_sub hl [0, 1, 2, 3] rfl) h
    · rw [if_neg c11] at h
      refine lv_iload_n hx hb dX5_put_73 rfl (lv_at hl 1 rfl) ?_
      refine lv_bipush (v := 8) hx hb dX5_put_74 (by decide) ?_
      refine lv_icmp_ne (tgt := 89) hx hb dX5_put_76 (by decide) (fun c12 => ?_) (fun c12 => ?_)
      · rw [if_neg c12] at h
        exact hL89 v3 D _ _ _  hW hS (lv_sub hl [0, 1, 2, 3] rfl) h
      · rw [if_pos c12] at h
        refine lv_aload_n hx hb dX5_put_79 rfl (lv_at hl 0 rfl) ?_
        refine wd_getR CF hE hW fl_X5_88 (rm_s hr0) (rm_r2 hr0) rfl dX5_put_80 ?_
        refine lv_iload_n hx hb dX5_put_83 rfl (lv_at hl 3 rfl) ?_
        refine lv_iload_n hx hb dX5_put_84 rfl (lv_at hl 2 rfl) ?_
        obtain ⟨D13, eD13, h⟩ := bdE h
        refine wd_iast CF hE hW hS (rm_a2 hr0) eD13 dX5_put_85 (fun H locs hW hS => ?_)
        refine lv_goto (tgt := 106) hx hb dX5_put_86 (by decide) ?_
        have h := Option.some.inj h
        subst h
        exact wd_vret CF hret hlk hW hS dX5_put_106
  refine lv_aload_n hx hb dX5_put_0 rfl (lv_at hl 0 rfl) ?_
  refine wd_get CF hE hW fl_X5_28 (rm_s hr0) (v := .int (gI D r0 0)) rfl dX5_put_1 ?_
  refine lv_iconst (v := 1) hx hb dX5_put_4 (by decide) ?_
  refine lv_isub hx hb dX5_put_5 ?_
  refine lv_topi (fun x1 ex1 => ?_)
  replace h := apR ex1 h
  refine lv_istore_n (lv' := [(3, .int x1), (0, .ref (X.2.2.1 + r0)), (1, .int a1), (2, .int a2)]) hx hb dX5_put_6 rfl hl (by decide) rfl (fun ls hl => ?_)
  refine lv_iload_n hx hb dX5_put_7 rfl (lv_at hl 2 rfl) ?_
  refine lv_iconst (v := 1) hx hb dX5_put_8 (by decide) ?_
  refine lv_icmp_ne (tgt := 20) hx hb dX5_put_9 (by decide) (fun c2 => ?_) (fun c2 => ?_)
  · rw [if_neg c2] at h
    refine lv_iload_n hx hb dX5_put_20 rfl (lv_at hl 2 rfl) ?_
    refine lv_iconst (v := 3) hx hb dX5_put_21 (by decide) ?_
    refine lv_icmp_ne (tgt := 33) hx hb dX5_put_22 (by decide) (fun c3 => ?_) (fun c3 => ?_)
    · rw [if_neg c3] at h
      refine lv_iload_n hx hb dX5_put_33 rfl (lv_at hl 2 rfl) ?_
      refine lv_iconst (v := 5) hx hb dX5_put_34 (by decide) ?_
      refine lv_icmp_ne (tgt := 49) hx hb dX5_put_35 (by decide) (fun c4 => ?_) (fun c4 => ?_)
      · rw [if_neg c4] at h
        refine lv_iload_n hx hb dX5_put_49 rfl (lv_at hl 0 rfl) ?_
        refine lv_if_lt (tgt := 69) hx hb dX5_put_50 (by decide) (fun c5 => ?_) (fun c5 => ?_)
        · rw [if_pos c5] at h
          exact hL69 x1 D _ _ _  hW hS (lv_sub hl [1, 2, 3, 0] rfl) h
        · rw [if_neg c5] at h
          refine lv_iload_n hx hb dX5_put_53 rfl (lv_at hl 2 rfl) ?_
          refine lv_bipush (v := 6) hx hb dX5_put_54 (by decide) ?_
          refine lv_icmp_ne (tgt := 69) hx hb dX5_put_56 (by decide) (fun c6 => ?_) (fun c6 => ?_)
          · rw [if_neg c6] at h
            exact hL69 x1 D _ _ _  hW hS (lv_sub hl [1, 2, 3, 0] rfl) h
          · rw [if_pos c6] at h
            refine lv_aload_n hx hb dX5_put_59 rfl (lv_at hl 1 rfl) ?_
            refine wd_getR CF hE hW fl_X5_85 (rm_s hr0) (rm_r1 hr0) rfl dX5_put_60 ?_
            refine lv_iload_n hx hb dX5_put_63 rfl (lv_at hl 0 rfl) ?_
            refine lv_iload_n hx hb dX5_put_64 rfl (lv_at hl 3 rfl) ?_
            obtain ⟨D7, eD7, h⟩ := bdE h
            refine wd_iast CF hE hW hS (rm_a1 hr0) eD7 dX5_put_65 (fun H locs hW hS => ?_)
            refine lv_goto (tgt := 106) hx hb dX5_put_66 (by decide) ?_
            have h := Option.some.inj h
            subst h
            exact wd_vret CF hret hlk hW hS dX5_put_106
      · rw [if_pos c4] at h
        refine lv_aload_n hx hb dX5_put_38 rfl (lv_at hl 1 rfl) ?_
        refine lv_iload_n hx hb dX5_put_39 rfl (lv_at hl 3 rfl) ?_
        refine wd_callSr CF hE hW hS (x_X5_kindOf l X a2 D) mi_X5_kindOf vi_X5_kindOf tw343 ⟨rfl, rfl, Nat.le_of_ble_eq_true rfl, Nat.le_of_ble_eq_true rfl⟩ rfl hl.1 rfl (Nat.le_of_ble_eq_true rfl) dX5_put_40 ⟨Nat.le_of_ble_eq_true rfl, Nat.le_of_ble_eq_true rfl⟩ (fun H locs hW hS => ?_)
        obtain ⟨q8, eq8, h⟩ := bdE h
        refine wd_callVv (ci := 3) (k := r0) CF hE hW hS (x_X3_addChild l X r0 hr0 (f_X5_kindOf a2) D eq8) mi_X3_addChild vi_X3_addChild tw358 ⟨by decide, rfl⟩ (rm_s hr0) ⟨rfl, rfl, Nat.le_of_ble_eq_true rfl, Nat.le_of_ble_eq_true rfl⟩ rfl hl.1 rfl (Nat.le_of_ble_eq_true rfl) dX5_put_43 ⟨Nat.le_of_ble_eq_true rfl, Nat.le_of_ble_eq_true rfl⟩ (fun H locs hW hS => ?_)
        refine lv_goto (tgt := 106) hx hb dX5_put_46 (by decide) ?_
        have h := Option.some.inj h
        subst h
        exact wd_vret CF hret hlk hW hS dX5_put_106
    · rw [if_pos c3] at h
      refine lv_aload_n hx hb dX5_put_25 rfl (lv_at hl 1 rfl) ?_
      refine lv_iload_n hx hb dX5_put_26 rfl (lv_at hl 3 rfl) ?_
      refine wd_putI CF hE hW hS fl_X5_78 (rm_s hr0) rfl rfl dX5_put_27 (fun D9 H locs eD9 hW hS => ?_)
      replace h := apR eD9 h
      refine lv_goto (tgt := 106) hx hb dX5_put_30 (by decide) ?_
      have h := Option.some.inj h
      subst h
      exact wd_vret CF hret hlk hW hS dX5_put_106
  · rw [if_pos c2] at h
    refine lv_aload_n hx hb dX5_put_12 rfl (lv_at hl 1 rfl) ?_
    refine lv_iload_n hx hb dX5_put_13 rfl (lv_at hl 3 rfl) ?_
    refine wd_putI CF hE hW hS fl_X5_75 (rm_s hr0) rfl rfl dX5_put_14 (fun D10 H locs eD10 hW hS => ?_)
    replace h := apR eD10 h
    refine lv_goto (tgt := 106) hx hb dX5_put_17 (by decide) ?_
    have h := Option.some.inj h
    subst h
    exact wd_vret CF hret hlk hW hS dX5_put_106
def f_X5_readInto_L106  (r1 : Nat) (D : wd_D) : Option (Int32 × wd_D) := ap (sI D 2 2 1) (fun D12 => some (gI D12 2 1, D12))
def f_X5_readInto_L80 (k11 : Nat → Int32 → Int32 → wd_D → Option (Int32 × wd_D)) (r1 : Nat) (v3 : Int32) (v4 : Int32) (z0 : Int32) (D : wd_D) : Option (Int32 × wd_D) := ap (v4 + (if 1 < v3 then v3 else 1)) (fun x13 => k11 r1 z0 x13 D)
def f_X5_readInto_L11  : Nat → Nat → Int32 → Int32 → wd_D → Option (Int32 × wd_D)
  | 0, _, _, _, _ => none
  | n + 1, r1, v2, v4, D => (if (gI D 2 1) ≤ v4 then (if v2 = 5 then (if (gI D r1 0) = 0 then f_X5_readInto_L106 r1 D else some ((-1), D)) else f_X5_readInto_L106 r1 D) else (f_X5_widthAt v4 D).bind (fun x5 => (f_X5_faultAt v4 x5 v2 (gI D r1 0) D).bind (fun x6 => ap (sI D 2 2 x6) (fun D7 => (if (gI D7 2 2) = 0 then (f_X5_valueAt v4 x5 D7).bind (fun x9 => (f_X5_put r1 v2 x9 D7).bind (fun q10 => (if 12 ≤ (v2 + 1) then f_X5_readInto_L80 (f_X5_readInto_L11 n) r1 x5 v4 5 q10 else f_X5_readInto_L80 (f_X5_readInto_L11 n) r1 x5 v4 (v2 + 1) q10))) else some (v4, D7))))))
def f_X5_readInto (r1 : Nat) (D : wd_D) : Option (Int32 × wd_D) := ap (f_X3_clear r1 D) (fun q1 => f_X5_readInto_L11 FU r1 0 0 q1)
set_option maxHeartbeats 4000000 in
set_option maxRecDepth 100000 in
theorem x_X5_readInto (l : Launch) (X : wd_X) (r1 : Nat) (hr1 : RoomAt r1) (D : wd_D) {qv : Int32 × wd_D} (h : f_X5_readInto r1 D = some qv) : wd_Met l X yX5_readInto cX5_readInto 5 (some FieldType.int) ({ frames := 3, cells := 0, slots := 0, locals := 300 }) S0 S0 ([.ref (X.2.2.1 + 2), .ref (X.2.2.1 + r1)] : List Value) D qv.2 (some (.int qv.1)) 0 0 := by
  refine wd_enter (by decide) (Nat.le_of_ble_eq_true rfl) ?_
  intro p e s m below meth c CF hret hlk hnm hW hE ls hl
  have CF : CallFix p m c cX5_readInto 5 s ([.ref (X.2.2.1 + 2), .ref (X.2.2.1 + r1)] : List Value).toArray tg RX5 := CF
  have hx := CF.1
  have hb := CF.2.1
  have hown := CF.2.2.2.1
  have hts := CF.2.2.2.2
  have hS : va_S (wd_A X) s.heap s.heap [] := va_S.rf
  have hl : lv_has ls 5 [(0, .ref (X.2.2.1 + 2)), (1, .ref (X.2.2.1 + r1))] := hl
  unfold f_X5_readInto at h
  have hL106 : ∀  (D : wd_D) (H : Heap) (locs : List Loc) (ls : Array Slot), Wd X S0 D H → va_S (wd_A X) s.heap H locs → lv_has ls 5 [(0, .ref (X.2.2.1 + 2))] → f_X5_readInto_L106 r1 D = some qv → W p l e ({ frames := 3, cells := 0, slots := 0, locals := 300 }) s m ([.ref (X.2.2.1 + 2), .ref (X.2.2.1 + r1)] : List Value).toArray below meth c H locs 0 0 (MQ below (wd_Q X S0 qv.2 (some (.int qv.1))) ([.ref (X.2.2.1 + 2), .ref (X.2.2.1 + r1)] : List Value).toArray s 0 0 (wd_A X)) (F0 m 106 ls []) := by
    intro D H locs ls hW hS hl h
    unfold f_X5_readInto_L106 at h
    refine lv_aload_n hx hb dX5_readInto_106 rfl (lv_at hl 0 rfl) ?_
    refine lv_iconst (v := 1) hx hb dX5_readInto_107 (by decide) ?_
    refine wd_putI CF hE hW hS fl_X5_35 sh_2 rfl rfl dX5_readInto_108 (fun D12 H locs eD12 hW hS => ?_)
    replace h := apR eD12 h
    refine lv_aload_n hx hb dX5_readInto_111 rfl (lv_at hl 0 rfl) ?_
    refine wd_get CF hE hW fl_X5_20 sh_2 (v := .int (gI D12 2 1)) rfl dX5_readInto_112 ?_
    have h := Option.some.inj h
    subst h
    exact wd_iret CF hret hlk hW hS dX5_readInto_115
  have hL11 : ∀ (n11 : Nat) (v2 : Int32) (v4 : Int32) (D : wd_D) (H : Heap) (locs : List Loc) (ls : Array Slot), Wd X S0 D H → va_S (wd_A X) s.heap H locs → lv_has ls 5 [(0, .ref (X.2.2.1 + 2)), (1, .ref (X.2.2.1 + r1)), (2, .int v2), (4, .int v4)] → f_X5_readInto_L11 n11 r1 v2 v4 D = some qv → W p l e ({ frames := 3, cells := 0, slots := 0, locals := 300 }) s m ([.ref (X.2.2.1 + 2), .ref (X.2.2.1 + r1)] : List Value).toArray below meth c H locs 0 0 (MQ below (wd_Q X S0 qv.2 (some (.int qv.1))) ([.ref (X.2.2.1 + 2), .ref (X.2.2.1 + r1)] : List Value).toArray s 0 0 (wd_A X)) (F0 m 11 ls []) := by
    intro n11
    induction n11 with
    | zero => intro v2 v4 D H locs ls hW hS hl h; cases h
    | succ n11 ih11 =>
      have hL80 : ∀ (v3 : Int32) (v4 : Int32) (z0 : Int32) (D : wd_D) (H : Heap) (locs : List Loc) (ls : Array Slot), Wd X S0 D H → va_S (wd_A X) s.heap H locs → lv_has ls 5 [(0, .ref (X.2.2.1 + 2)), (1, .ref (X.2.2.1 + r1)), (3, .int v3), (4, .int v4)] → f_X5_readInto_L80 (f_X5_readInto_L11 n11) r1 v3 v4 z0 D = some qv → W p l e ({ frames := 3, cells := 0, slots := 0, locals := 300 }) s m ([.ref (X.2.2.1 + 2), .ref (X.2.2.1 + r1)] : List Value).toArray below meth c H locs 0 0 (MQ below (wd_Q X S0 qv.2 (some (.int qv.1))) ([.ref (X.2.2.1 + 2), .ref (X.2.2.1 + r1)] : List Value).toArray s 0 0 (wd_A X)) (F0 m 80 ls [.int z0]) := by
        intro v3 v4 z0 D H locs ls hW hS hl h
        unfold f_X5_readInto_L80 at h
        refine lv_istore_n (lv' := [(2, .int z0), (0, .ref (X.2.2.1 + 2)), (1, .ref (X.2.2.1 + r1)), (3, .int v3), (4, .int v4)]) hx hb dX5_readInto_80 rfl hl (by decide) rfl (fun ls hl => ?_)
        refine lv_iload hx hb dX5_readInto_81 (lv_at hl 4 rfl) ?_
        refine lv_iconst (v := 1) hx hb dX5_readInto_83 (by decide) ?_
        refine lv_iload_n hx hb dX5_readInto_84 rfl (lv_at hl 3 rfl) ?_
        refine va_mmax hx hb (CF.2.2.1.trans hl.1.symm) hown (hts _ tw366) (hts _ tw367) (hts _ tw10) (hts _ tw368) (Nat.le_of_ble_eq_true rfl) (Nat.le_of_ble_eq_true rfl) (Nat.le_of_ble_eq_true rfl) (Nat.le_of_ble_eq_true rfl) dX5_readInto_85 ?_
        refine lv_iadd hx hb dX5_readInto_88 ?_
        refine lv_topi (fun x13 ex13 => ?_)
        replace h := apR ex13 h
        refine lv_istore (lv' := [(4, .int x13), (2, .int z0), (0, .ref (X.2.2.1 + 2)), (1, .ref (X.2.2.1 + r1)), (3, .int v3)]) hx hb dX5_readInto_89 hl (by decide) rfl (fun ls hl => ?_)
        refine lv_goto (tgt := 11) hx hb dX5_readInto_91 (by decide) ?_
        exact ih11 z0 x13 D _ _ _  hW hS (lv_sub hl [2, 3, 1, 0] rfl) h
      intro v2 v4 D H locs ls hW hS hl h
      rw [f_X5_readInto_L11] at h
      refine lv_iload hx hb dX5_readInto_11 (lv_at hl 3 rfl) ?_
      refine lv_aload_n hx hb dX5_readInto_13 rfl (lv_at hl 0 rfl) ?_
      refine wd_get CF hE hW fl_X5_20 sh_2 (v := .int (gI D 2 1)) rfl dX5_readInto_14 ?_
      refine lv_icmp_ge (tgt := 94) hx hb dX5_readInto_17 (by decide) (fun c2 => ?_) (fun c2 => ?_)
      · rw [if_pos c2] at h
        refine lv_iload_n hx hb dX5_readInto_94 rfl (lv_at hl 2 rfl) ?_
        refine lv_iconst (v := 5) hx hb dX5_readInto_95 (by decide) ?_
        refine lv_icmp_ne (tgt := 106) hx hb dX5_readInto_96 (by decide) (fun c3 => ?_) (fun c3 => ?_)
        · rw [if_neg c3] at h
          exact hL106  D _ _ _  hW hS (lv_sub hl [0] rfl) h
        · rw [if_pos c3] at h
          refine lv_aload_n hx hb dX5_readInto_99 rfl (lv_at hl 1 rfl) ?_
          refine wd_get CF hE hW fl_X5_28 (rm_s hr1) (v := .int (gI D r1 0)) rfl dX5_readInto_100 ?_
          refine lv_if_ne (tgt := 116) hx hb dX5_readInto_103 (by decide) (fun c4 => ?_) (fun c4 => ?_)
          · rw [if_neg c4] at h
            refine lv_iconst (v := (-1)) hx hb dX5_readInto_116 (by decide) ?_
            have h := Option.some.inj h
            subst h
            exact wd_iret CF hret hlk hW hS dX5_readInto_117
          · rw [if_pos c4] at h
            exact hL106  D _ _ _  hW hS (lv_sub hl [0] rfl) h
      · rw [if_neg c2] at h
        refine lv_aload_n hx hb dX5_readInto_20 rfl (lv_at hl 0 rfl) ?_
        refine lv_iload hx hb dX5_readInto_21 (lv_at hl 3 rfl) ?_
        obtain ⟨x5, ex5, h⟩ := bdE h
        refine wd_callVr (ci := 5) (k := 2) CF hE hW hS (x_X5_widthAt l X v4 D ex5) mi_X5_widthAt vi_X5_widthAt tw327 ⟨by decide, rfl⟩ sh_2 ⟨rfl, rfl, Nat.le_of_ble_eq_true rfl, Nat.le_of_ble_eq_true rfl⟩ rfl hl.1 rfl (Nat.le_of_ble_eq_true rfl) dX5_readInto_23 ⟨Nat.le_of_ble_eq_true rfl, Nat.le_of_ble_eq_true rfl⟩ (fun H locs hW hS => ?_)
        refine lv_istore_n (lv' := [(3, .int x5), (0, .ref (X.2.2.1 + 2)), (1, .ref (X.2.2.1 + r1)), (2, .int v2), (4, .int v4)]) hx hb dX5_readInto_26 rfl hl (by decide) rfl (fun ls hl => ?_)
        refine lv_aload_n hx hb dX5_readInto_27 rfl (lv_at hl 1 rfl) ?_
        refine lv_aload_n hx hb dX5_readInto_28 rfl (lv_at hl 1 rfl) ?_
        refine lv_iload hx hb dX5_readInto_29 (lv_at hl 4 rfl) ?_
        refine lv_iload_n hx hb dX5_readInto_31 rfl (lv_at hl 0 rfl) ?_
        refine lv_iload_n hx hb dX5_readInto_32 rfl (lv_at hl 3 rfl) ?_
        refine lv_aload_n hx hb dX5_readInto_33 rfl (lv_at hl 2 rfl) ?_
        refine wd_get CF hE hW fl_X5_28 (rm_s hr1) (v := .int (gI D r1 0)) rfl dX5_readInto_34 ?_
        obtain ⟨x6, ex6, h⟩ := bdE h
        refine wd_callVr (ci := 5) (k := 2) CF hE hW hS (x_X5_faultAt l X v4 x5 v2 (gI D r1 0) D ex6) mi_X5_faultAt vi_X5_faultAt tw334 ⟨by decide, rfl⟩ sh_2 ⟨rfl, rfl, Nat.le_of_ble_eq_true rfl, Nat.le_of_ble_eq_true rfl⟩ rfl hl.1 rfl (Nat.le_of_ble_eq_true rfl) dX5_readInto_37 ⟨Nat.le_of_ble_eq_true rfl, Nat.le_of_ble_eq_true rfl⟩ (fun H locs hW hS => ?_)
        refine wd_putI CF hE hW hS fl_X5_35 sh_2 rfl rfl dX5_readInto_40 (fun D7 H locs eD7 hW hS => ?_)
        replace h := apR eD7 h
        refine lv_aload_n hx hb dX5_readInto_43 rfl (lv_at hl 1 rfl) ?_
        refine wd_get CF hE hW fl_X5_35 sh_2 (v := .int (gI D7 2 2)) rfl dX5_readInto_44 ?_
        refine lv_if_eq (tgt := 53) hx hb dX5_readInto_47 (by decide) (fun c8 => ?_) (fun c8 => ?_)
        · rw [if_pos c8] at h
          refine lv_aload_n hx hb dX5_readInto_53 rfl (lv_at hl 2 rfl) ?_
          refine lv_iload_n hx hb dX5_readInto_54 rfl (lv_at hl 3 rfl) ?_
          refine lv_aload_n hx hb dX5_readInto_55 rfl (lv_at hl 1 rfl) ?_
          refine lv_iload hx hb dX5_readInto_56 (lv_at hl 4 rfl) ?_
          refine lv_iload_n hx hb dX5_readInto_58 rfl (lv_at hl 0 rfl) ?_
          obtain ⟨x9, ex9, h⟩ := bdE h
          refine wd_callVr (ci := 5) (k := 2) CF hE hW hS (x_X5_valueAt l X v4 x5 D7 ex9) mi_X5_valueAt vi_X5_valueAt tw346 ⟨by decide, rfl⟩ sh_2 ⟨rfl, rfl, Nat.le_of_ble_eq_true rfl, Nat.le_of_ble_eq_true rfl⟩ rfl hl.1 rfl (Nat.le_of_ble_eq_true rfl) dX5_readInto_59 ⟨Nat.le_of_ble_eq_true rfl, Nat.le_of_ble_eq_true rfl⟩ (fun H locs hW hS => ?_)
          obtain ⟨q10, eq10, h⟩ := bdE h
          refine wd_callSv CF hE hW hS (x_X5_put l X r1 hr1 v2 x9 D7 eq10) mi_X5_put vi_X5_put tw355 ⟨rfl, rfl, Nat.le_of_ble_eq_true rfl, Nat.le_of_ble_eq_true rfl⟩ rfl hl.1 rfl (Nat.le_of_ble_eq_true rfl) dX5_readInto_62 ⟨Nat.le_of_ble_eq_true rfl, Nat.le_of_ble_eq_true rfl⟩ (fun H locs hW hS => ?_)
          refine lv_iload_n hx hb dX5_readInto_65 rfl (lv_at hl 3 rfl) ?_
          refine lv_iconst (v := 1) hx hb dX5_readInto_66 (by decide) ?_
          refine lv_iadd hx hb dX5_readInto_67 ?_
          refine lv_bipush (v := 12) hx hb dX5_readInto_68 (by decide) ?_
          refine lv_icmp_ge (tgt := 79) hx hb dX5_readInto_70 (by decide) (fun c11 => ?_) (fun c11 => ?_)
          · rw [if_pos c11] at h
            refine lv_iconst (v := 5) hx hb dX5_readInto_79 (by decide) ?_
            exact hL80 x5 v4 5 q10 _ _ _  hW hS (lv_sub hl [1, 2, 0, 4] rfl) h
          · rw [if_neg c11] at h
            refine lv_iload_n hx hb dX5_readInto_73 rfl (lv_at hl 3 rfl) ?_
            refine lv_iconst (v := 1) hx hb dX5_readInto_74 (by decide) ?_
            refine lv_iadd hx hb dX5_readInto_75 ?_
            refine lv_goto (tgt := 80) hx hb dX5_readInto_76 (by decide) ?_
            exact hL80 x5 v4 (v2 + 1) q10 _ _ _  hW hS (lv_sub hl [1, 2, 0, 4] rfl) h
        · rw [if_neg c8] at h
          refine lv_iload hx hb dX5_readInto_50 (lv_at hl 4 rfl) ?_
          have h := Option.some.inj h
          subst h
          exact wd_iret CF hret hlk hW hS dX5_readInto_52
  refine lv_aload_n hx hb dX5_readInto_0 rfl (lv_at hl 1 rfl) ?_
  obtain ⟨q1, eq1⟩ : ∃ q, q = f_X3_clear r1 D := ⟨_, rfl⟩
  replace h := apR eq1 h
  refine wd_callVv (ci := 3) (k := r1) CF hE hW hS (x_X3_clear l X r1 hr1 D eq1.symm) mi_X3_clear vi_X3_clear tw323 ⟨by decide, rfl⟩ (rm_s hr1) ⟨rfl, rfl, Nat.le_of_ble_eq_true rfl, Nat.le_of_ble_eq_true rfl⟩ rfl hl.1 rfl (Nat.le_of_ble_eq_true rfl) dX5_readInto_1 ⟨Nat.le_of_ble_eq_true rfl, Nat.le_of_ble_eq_true rfl⟩ (fun H locs hW hS => ?_)
  refine lv_iconst (v := 0) hx hb dX5_readInto_4 (by decide) ?_
  refine lv_istore_n (lv' := [(2, .int 0), (0, .ref (X.2.2.1 + 2)), (1, .ref (X.2.2.1 + r1))]) hx hb dX5_readInto_5 rfl hl (by decide) rfl (fun ls hl => ?_)
  refine lv_iconst (v := 0) hx hb dX5_readInto_6 (by decide) ?_
  refine lv_istore_n (lv' := [(3, .int 0), (2, .int 0), (0, .ref (X.2.2.1 + 2)), (1, .ref (X.2.2.1 + r1))]) hx hb dX5_readInto_7 rfl hl (by decide) rfl (fun ls hl => ?_)
  refine lv_iconst (v := 0) hx hb dX5_readInto_8 (by decide) ?_
  refine lv_istore (lv' := [(4, .int 0), (3, .int 0), (2, .int 0), (0, .ref (X.2.2.1 + 2)), (1, .ref (X.2.2.1 + r1))]) hx hb dX5_readInto_9 hl (by decide) rfl (fun ls hl => ?_)
  exact hL11 FU 0 0 q1 _ _ _  hW hS (lv_sub hl [3, 4, 2, 0] rfl) h
