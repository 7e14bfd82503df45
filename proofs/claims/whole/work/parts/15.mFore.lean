/-! X1_after, X1_firstAsleep, X1_longestDinner, X1_weighHands, X1_planHands, X1_fewestOut, X1_planChange, X1_wokenBy, X1_tell, X1_goesAsTold, X1_traitsOf, X1_fittingTraits, X1_fittingHands, X1_casesAsleep, X1_cancelBy, X1_cancel, X1_countCases, X1_drawDay -/
def f_X1_after (r1 : Nat) (a2 : Int32) (D : wd_D) : Option (wd_D) := (f_X3_become 242 r1 D).bind (fun q1 => (f_X3_passMinutes 242 a2 q1).bind (fun q2 => some q2))
set_option maxHeartbeats 4000000 in
set_option maxRecDepth 100000 in
theorem x_X1_after (l : Launch) (X : wd_X) (r1 : Nat) (hr1 : RoomAt r1) (a2 : Int32) (D : wd_D) {qv : wd_D} (h : f_X1_after r1 a2 D = some qv) : wd_Met l X yX1_after cX1_after 3 (Option.some (FieldType.object "AsleepCots$Room")) ({ frames := 5, cells := 0, slots := 0, locals := 500 }) S0 S0 ([.ref (X.2.2.1 + 241), .ref (X.2.2.1 + r1), .int a2] : List Value) D qv (some (.ref (X.2.2.1 + 242))) 0 0 := by
  refine wd_enter (by decide) (Nat.le_of_ble_eq_true rfl) ?_
  intro p e s m below meth c CF hret hlk hnm hW hE ls hl
  have CF : CallFix p m c cX1_after 3 s ([.ref (X.2.2.1 + 241), .ref (X.2.2.1 + r1), .int a2] : List Value).toArray tg RX1 := CF
  have hx := CF.1
  have hb := CF.2.1
  have hown := CF.2.2.2.1
  have hts := CF.2.2.2.2
  have hS : va_S (wd_A X) s.heap s.heap [] := va_S.rf
  have hl : lv_has ls 3 [(0, .ref (X.2.2.1 + 241)), (1, .ref (X.2.2.1 + r1)), (2, .int a2)] := hl
  unfold f_X1_after at h
  refine lv_aload_n hx hb dX1_after_0 rfl (lv_at hl 0 rfl) ?_
  refine wd_getR CF hE hW fl_X1_12 sh_241 rf_241_0 rfl dX1_after_1 ?_
  refine lv_aload_n hx hb dX1_after_4 rfl (lv_at hl 1 rfl) ?_
  obtain ⟨q1, eq1, h⟩ := bdE h
  refine wd_callVv (ci := 3) (k := 242) CF hE hW hS (x_X3_become l X 242 room_242 r1 hr1 D eq1) mi_X3_become vi_X3_become tw517 ⟨by decide, rfl⟩ (rm_s room_242) ⟨rfl, rfl, Nat.le_of_ble_eq_true rfl, Nat.le_of_ble_eq_true rfl⟩ rfl hl.1 rfl (Nat.le_of_ble_eq_true rfl) dX1_after_5 ⟨Nat.le_of_ble_eq_true rfl, Nat.le_of_ble_eq_true rfl⟩ (fun H locs hW hS => ?_)
  refine lv_aload_n hx hb dX1_after_8 rfl (lv_at hl 0 rfl) ?_
  refine wd_getR CF hE hW fl_X1_12 sh_241 rf_241_0 rfl dX1_after_9 ?_
  refine lv_iload_n hx hb dX1_after_12 rfl (lv_at hl 2 rfl) ?_
  obtain ⟨q2, eq2, h⟩ := bdE h
  refine wd_callVv (ci := 3) (k := 242) CF hE hW hS (x_X3_passMinutes l X 242 room_242 a2 q1 eq2) mi_X3_passMinutes vi_X3_passMinutes tw518 ⟨by decide, rfl⟩ (rm_s room_242) ⟨rfl, rfl, Nat.le_of_ble_eq_true rfl, Nat.le_of_ble_eq_true rfl⟩ rfl hl.1 rfl (Nat.le_of_ble_eq_true rfl) dX1_after_13 ⟨Nat.le_of_ble_eq_true rfl, Nat.le_of_ble_eq_true rfl⟩ (fun H locs hW hS => ?_)
  refine lv_aload_n hx hb dX1_after_16 rfl (lv_at hl 0 rfl) ?_
  refine wd_getR CF hE hW fl_X1_12 sh_241 rf_241_0 rfl dX1_after_17 ?_
  have h := Option.some.inj h
  subst h
  exact wd_aret CF hret (by first | exact Or.inl ⟨_, rfl⟩ | exact Or.inr ⟨_, rfl⟩) hlk hW hS dX1_after_20
def f_X1_firstAsleep_L10  : Nat → Nat → Int32 → Int32 → wd_D → Option (Int32 × wd_D)
  | 0, _, _, _, _ => none
  | n + 1, r1, a2, v3, D => (if 60 ≤ v3 then (f_X3_sleepAll 242 a2 D).bind (fun x3 => (if x3 = 0 then some ((-1000000), D) else some (60, D))) else (f_X3_sleepAll 242 a2 D).bind (fun x5 => (if x5 = 0 then (f_X3_passMinute 242 D).bind (fun q7 => (if q7.1 = 0 then some ((-1000000), q7.2) else ap (v3 + 1) (fun x9 => (f_X1_firstAsleep_L10 n) r1 a2 x9 q7.2))) else some (v3, D))))
def f_X1_firstAsleep (r1 : Nat) (a2 : Int32) (D : wd_D) : Option (Int32 × wd_D) := (f_X3_become 242 r1 D).bind (fun q1 => f_X1_firstAsleep_L10 FU r1 a2 0 q1)
set_option maxHeartbeats 4000000 in
set_option maxRecDepth 100000 in
theorem x_X1_firstAsleep (l : Launch) (X : wd_X) (r1 : Nat) (hr1 : RoomAt r1) (a2 : Int32) (D : wd_D) {qv : Int32 × wd_D} (h : f_X1_firstAsleep r1 a2 D = some qv) : wd_Met l X yX1_firstAsleep cX1_firstAsleep 4 (some FieldType.int) ({ frames := 4, cells := 0, slots := 0, locals := 400 }) S0 S0 ([.ref (X.2.2.1 + 241), .ref (X.2.2.1 + r1), .int a2] : List Value) D qv.2 (some (.int qv.1)) 0 0 := by
  refine wd_enter (by decide) (Nat.le_of_ble_eq_true rfl) ?_
  intro p e s m below meth c CF hret hlk hnm hW hE ls hl
  have CF : CallFix p m c cX1_firstAsleep 4 s ([.ref (X.2.2.1 + 241), .ref (X.2.2.1 + r1), .int a2] : List Value).toArray tg RX1 := CF
  have hx := CF.1
  have hb := CF.2.1
  have hown := CF.2.2.2.1
  have hts := CF.2.2.2.2
  have hS : va_S (wd_A X) s.heap s.heap [] := va_S.rf
  have hl : lv_has ls 4 [(0, .ref (X.2.2.1 + 241)), (1, .ref (X.2.2.1 + r1)), (2, .int a2)] := hl
  unfold f_X1_firstAsleep at h
  have hL10 : ∀ (n10 : Nat) (v3 : Int32) (D : wd_D) (H : Heap) (locs : List Loc) (ls : Array Slot), Wd X S0 D H → va_S (wd_A X) s.heap H locs → lv_has ls 4 [(0, .ref (X.2.2.1 + 241)), (2, .int a2), (3, .int v3)] → f_X1_firstAsleep_L10 n10 r1 a2 v3 D = some qv → W p l e ({ frames := 4, cells := 0, slots := 0, locals := 400 }) s m ([.ref (X.2.2.1 + 241), .ref (X.2.2.1 + r1), .int a2] : List Value).toArray below meth c H locs 0 0 (MQ below (wd_Q X S0 qv.2 (some (.int qv.1))) ([.ref (X.2.2.1 + 241), .ref (X.2.2.1 + r1), .int a2] : List Value).toArray s 0 0 (wd_A X)) (F0 m 10 ls []) := by
    intro n10
    induction n10 with
    | zero => intro v3 D H locs ls hW hS hl h; cases h
    | succ n10 ih10 =>
      intro v3 D H locs ls hW hS hl h
      rw [f_X1_firstAsleep_L10] at h
      refine lv_iload_n hx hb dX1_firstAsleep_10 rfl (lv_at hl 2 rfl) ?_
      refine lv_bipush (v := 60) hx hb dX1_firstAsleep_11 (by decide) ?_
      refine lv_icmp_ge (tgt := 48) hx hb dX1_firstAsleep_13 (by decide) (fun c2 => ?_) (fun c2 => ?_)
      · rw [if_pos c2] at h
        refine lv_aload_n hx hb dX1_firstAsleep_48 rfl (lv_at hl 0 rfl) ?_
        refine wd_getR CF hE hW fl_X1_12 sh_241 rf_241_0 rfl dX1_firstAsleep_49 ?_
        refine lv_iload_n hx hb dX1_firstAsleep_52 rfl (lv_at hl 1 rfl) ?_
        obtain ⟨x3, ex3, h⟩ := bdE h
        refine wd_callVr (ci := 3) (k := 242) CF hE hW hS (x_X3_sleepAll l X 242 room_242 a2 D ex3) mi_X3_sleepAll vi_X3_sleepAll tw535 ⟨by decide, rfl⟩ (rm_s room_242) ⟨rfl, rfl, Nat.le_of_ble_eq_true rfl, Nat.le_of_ble_eq_true rfl⟩ rfl hl.1 rfl (Nat.le_of_ble_eq_true rfl) dX1_firstAsleep_53 ⟨Nat.le_of_ble_eq_true rfl, Nat.le_of_ble_eq_true rfl⟩ (fun H locs hW hS => ?_)
        refine lv_if_eq (tgt := 64) hx hb dX1_firstAsleep_56 (by decide) (fun c4 => ?_) (fun c4 => ?_)
        · rw [if_pos c4] at h
          refine lv_ldc (v := (-1000000)) hx hb hown (hts _ tw540) dX1_firstAsleep_64 ?_
          have h := Option.some.inj h
          subst h
          exact wd_iret CF hret hlk hW hS dX1_firstAsleep_66
        · rw [if_neg c4] at h
          refine lv_bipush (v := 60) hx hb dX1_firstAsleep_59 (by decide) ?_
          refine lv_goto (tgt := 66) hx hb dX1_firstAsleep_61 (by decide) ?_
          have h := Option.some.inj h
          subst h
          exact wd_iret CF hret hlk hW hS dX1_firstAsleep_66
      · rw [if_neg c2] at h
        refine lv_aload_n hx hb dX1_firstAsleep_16 rfl (lv_at hl 0 rfl) ?_
        refine wd_getR CF hE hW fl_X1_12 sh_241 rf_241_0 rfl dX1_firstAsleep_17 ?_
        refine lv_iload_n hx hb dX1_firstAsleep_20 rfl (lv_at hl 1 rfl) ?_
        obtain ⟨x5, ex5, h⟩ := bdE h
        refine wd_callVr (ci := 3) (k := 242) CF hE hW hS (x_X3_sleepAll l X 242 room_242 a2 D ex5) mi_X3_sleepAll vi_X3_sleepAll tw535 ⟨by decide, rfl⟩ (rm_s room_242) ⟨rfl, rfl, Nat.le_of_ble_eq_true rfl, Nat.le_of_ble_eq_true rfl⟩ rfl hl.1 rfl (Nat.le_of_ble_eq_true rfl) dX1_firstAsleep_21 ⟨Nat.le_of_ble_eq_true rfl, Nat.le_of_ble_eq_true rfl⟩ (fun H locs hW hS => ?_)
        refine lv_if_eq (tgt := 29) hx hb dX1_firstAsleep_24 (by decide) (fun c6 => ?_) (fun c6 => ?_)
        · rw [if_pos c6] at h
          refine lv_aload_n hx hb dX1_firstAsleep_29 rfl (lv_at hl 0 rfl) ?_
          refine wd_getR CF hE hW fl_X1_12 sh_241 rf_241_0 rfl dX1_firstAsleep_30 ?_
          obtain ⟨q7, eq7, h⟩ := bdE h
          refine wd_callVr (ci := 3) (k := 242) CF hE hW hS (x_X3_passMinute l X 242 room_242 D eq7) mi_X3_passMinute vi_X3_passMinute tw539 ⟨by decide, rfl⟩ (rm_s room_242) ⟨rfl, rfl, Nat.le_of_ble_eq_true rfl, Nat.le_of_ble_eq_true rfl⟩ rfl hl.1 rfl (Nat.le_of_ble_eq_true rfl) dX1_firstAsleep_33 ⟨Nat.le_of_ble_eq_true rfl, Nat.le_of_ble_eq_true rfl⟩ (fun H locs hW hS => ?_)
          refine lv_if_ne (tgt := 42) hx hb dX1_firstAsleep_36 (by decide) (fun c8 => ?_) (fun c8 => ?_)
          · rw [if_neg c8] at h
            obtain ⟨x9, ex9⟩ : ∃ y : Int32, y = v3 + 1 := ⟨_, rfl⟩
            replace h := apR ex9 h
            refine lv_iinc (v := x9) (lv' := [(3, .int x9), (0, .ref (X.2.2.1 + 241)), (2, .int a2)]) hx hb dX1_firstAsleep_42 hl (k := 2) rfl (by rw [ex9]; rfl) (by decide) rfl (fun ls hl => ?_)
            refine lv_goto (tgt := 10) hx hb dX1_firstAsleep_45 (by decide) ?_
            exact ih10 x9 q7.2 _ _ _  hW hS (lv_sub hl [1, 2, 0] rfl) h
          · rw [if_pos c8] at h
            refine lv_ldc (v := (-1000000)) hx hb hown (hts _ tw540) dX1_firstAsleep_39 ?_
            have h := Option.some.inj h
            subst h
            exact wd_iret CF hret hlk hW hS dX1_firstAsleep_41
        · rw [if_neg c6] at h
          refine lv_iload_n hx hb dX1_firstAsleep_27 rfl (lv_at hl 2 rfl) ?_
          have h := Option.some.inj h
          subst h
          exact wd_iret CF hret hlk hW hS dX1_firstAsleep_28
  refine lv_aload_n hx hb dX1_firstAsleep_0 rfl (lv_at hl 0 rfl) ?_
  refine wd_getR CF hE hW fl_X1_12 sh_241 rf_241_0 rfl dX1_firstAsleep_1 ?_
  refine lv_aload_n hx hb dX1_firstAsleep_4 rfl (lv_at hl 1 rfl) ?_
  obtain ⟨q1, eq1, h⟩ := bdE h
  refine wd_callVv (ci := 3) (k := 242) CF hE hW hS (x_X3_become l X 242 room_242 r1 hr1 D eq1) mi_X3_become vi_X3_become tw517 ⟨by decide, rfl⟩ (rm_s room_242) ⟨rfl, rfl, Nat.le_of_ble_eq_true rfl, Nat.le_of_ble_eq_true rfl⟩ rfl hl.1 rfl (Nat.le_of_ble_eq_true rfl) dX1_firstAsleep_5 ⟨Nat.le_of_ble_eq_true rfl, Nat.le_of_ble_eq_true rfl⟩ (fun H locs hW hS => ?_)
  refine lv_iconst (v := 0) hx hb dX1_firstAsleep_8 (by decide) ?_
  refine lv_istore_n (lv' := [(3, .int 0), (0, .ref (X.2.2.1 + 241)), (1, .ref (X.2.2.1 + r1)), (2, .int a2)]) hx hb dX1_firstAsleep_9 rfl hl (by decide) rfl (fun ls hl => ?_)
  exact hL10 FU 0 q1 _ _ _  hW hS (lv_sub hl [1, 3, 0] rfl) h
def f_X1_longestDinner_L62 (k29 : Nat → Int32 → Int32 → Int32 → Int32 → Int32 → wd_D → Option (Int32 × wd_D)) (r1 : Nat) (a2 : Int32) (v3 : Int32) (v4 : Int32) (v6 : Int32) (z0 : Int32) (D : wd_D) : Option (Int32 × wd_D) := ap (if v4 < z0 then z0 else v4) (fun x7 => ap (v6 + 1) (fun x8 => k29 r1 a2 v3 x7 z0 x8 D))
def f_X1_longestDinner_L29  : Nat → Nat → Int32 → Int32 → Int32 → Int32 → Int32 → wd_D → Option (Int32 × wd_D)
  | 0, _, _, _, _, _, _, _ => none
  | n + 1, r1, a2, v3, v4, v5, v6, D => (if a2 ≤ v6 then some (v4, D) else (f_X3_passMinute 242 D).bind (fun q4 => (f_X3_sleepAll 242 v3 q4.2).bind (fun x5 => (if x5 = 0 then f_X1_longestDinner_L62 (f_X1_longestDinner_L29 n) r1 a2 v3 v4 v6 0 q4.2 else f_X1_longestDinner_L62 (f_X1_longestDinner_L29 n) r1 a2 v3 v4 v6 (v5 + 1) q4.2))))
def f_X1_longestDinner (r1 : Nat) (a2 : Int32) (D : wd_D) : Option (Int32 × wd_D) := (f_X3_become 242 r1 D).bind (fun q1 => ap ((f_X3_everybody r1 q1) &&& ((gI q1 r1 5) ^^^ (-1))) (fun x2 => f_X1_longestDinner_L29 FU r1 a2 x2 0 0 0 q1))
set_option maxHeartbeats 4000000 in
set_option maxRecDepth 100000 in
theorem x_X1_longestDinner (l : Launch) (X : wd_X) (r1 : Nat) (hr1 : RoomAt r1) (a2 : Int32) (D : wd_D) {qv : Int32 × wd_D} (h : f_X1_longestDinner r1 a2 D = some qv) : wd_Met l X yX1_longestDinner cX1_longestDinner 7 (some FieldType.int) ({ frames := 4, cells := 0, slots := 0, locals := 400 }) S0 S0 ([.ref (X.2.2.1 + 241), .ref (X.2.2.1 + r1), .int a2] : List Value) D qv.2 (some (.int qv.1)) 0 0 := by
  refine wd_enter (by decide) (Nat.le_of_ble_eq_true rfl) ?_
  intro p e s m below meth c CF hret hlk hnm hW hE ls hl
  have CF : CallFix p m c cX1_longestDinner 7 s ([.ref (X.2.2.1 + 241), .ref (X.2.2.1 + r1), .int a2] : List Value).toArray tg RX1 := CF
  have hx := CF.1
  have hb := CF.2.1
  have hown := CF.2.2.2.1
  have hts := CF.2.2.2.2
  have hS : va_S (wd_A X) s.heap s.heap [] := va_S.rf
  have hl : lv_has ls 7 [(0, .ref (X.2.2.1 + 241)), (1, .ref (X.2.2.1 + r1)), (2, .int a2)] := hl
  unfold f_X1_longestDinner at h
  have hL29 : ∀ (n29 : Nat) (v3 : Int32) (v4 : Int32) (v5 : Int32) (v6 : Int32) (D : wd_D) (H : Heap) (locs : List Loc) (ls : Array Slot), Wd X S0 D H → va_S (wd_A X) s.heap H locs → lv_has ls 7 [(0, .ref (X.2.2.1 + 241)), (2, .int a2), (3, .int v3), (4, .int v4), (5, .int v5), (6, .int v6)] → f_X1_longestDinner_L29 n29 r1 a2 v3 v4 v5 v6 D = some qv → W p l e ({ frames := 4, cells := 0, slots := 0, locals := 400 }) s m ([.ref (X.2.2.1 + 241), .ref (X.2.2.1 + r1), .int a2] : List Value).toArray below meth c H locs 0 0 (MQ below (wd_Q X S0 qv.2 (some (.int qv.1))) ([.ref (X.2.2.1 + 241), .ref (X.2.2.1 + r1), .int a2] : List Value).toArray s 0 0 (wd_A X)) (F0 m 29 ls []) := by
    intro n29
    induction n29 with
    | zero => intro v3 v4 v5 v6 D H locs ls hW hS hl h; cases h
    | succ n29 ih29 =>
      have hL62 : ∀ (v3 : Int32) (v4 : Int32) (v6 : Int32) (z0 : Int32) (D : wd_D) (H : Heap) (locs : List Loc) (ls : Array Slot), Wd X S0 D H → va_S (wd_A X) s.heap H locs → lv_has ls 7 [(0, .ref (X.2.2.1 + 241)), (2, .int a2), (3, .int v3), (4, .int v4), (6, .int v6)] → f_X1_longestDinner_L62 (f_X1_longestDinner_L29 n29) r1 a2 v3 v4 v6 z0 D = some qv → W p l e ({ frames := 4, cells := 0, slots := 0, locals := 400 }) s m ([.ref (X.2.2.1 + 241), .ref (X.2.2.1 + r1), .int a2] : List Value).toArray below meth c H locs 0 0 (MQ below (wd_Q X S0 qv.2 (some (.int qv.1))) ([.ref (X.2.2.1 + 241), .ref (X.2.2.1 + r1), .int a2] : List Value).toArray s 0 0 (wd_A X)) (F0 m 62 ls [.int z0]) := by
        intro v3 v4 v6 z0 D H locs ls hW hS hl h
        unfold f_X1_longestDinner_L62 at h
        refine lv_istore (lv' := [(5, .int z0), (0, .ref (X.2.2.1 + 241)), (2, .int a2), (3, .int v3), (4, .int v4), (6, .int v6)]) hx hb dX1_longestDinner_62 hl (by decide) rfl (fun ls hl => ?_)
        refine lv_iload hx hb dX1_longestDinner_64 (lv_at hl 4 rfl) ?_
        refine lv_iload hx hb dX1_longestDinner_66 (lv_at hl 0 rfl) ?_
        refine va_mmax hx hb (CF.2.2.1.trans hl.1.symm) hown (hts _ tw558) (hts _ tw367) (hts _ tw10) (hts _ tw368) (Nat.le_of_ble_eq_true rfl) (Nat.le_of_ble_eq_true rfl) (Nat.le_of_ble_eq_true rfl) (Nat.le_of_ble_eq_true rfl) dX1_longestDinner_68 ?_
        refine lv_topi (fun x7 ex7 => ?_)
        replace h := apR ex7 h
        refine lv_istore (lv' := [(4, .int x7), (5, .int z0), (0, .ref (X.2.2.1 + 241)), (2, .int a2), (3, .int v3), (6, .int v6)]) hx hb dX1_longestDinner_71 hl (by decide) rfl (fun ls hl => ?_)
        obtain ⟨x8, ex8⟩ : ∃ y : Int32, y = v6 + 1 := ⟨_, rfl⟩
        replace h := apR ex8 h
        refine lv_iinc (v := x8) (lv' := [(6, .int x8), (4, .int x7), (5, .int z0), (0, .ref (X.2.2.1 + 241)), (2, .int a2), (3, .int v3)]) hx hb dX1_longestDinner_73 hl (k := 5) rfl (by rw [ex8]; rfl) (by decide) rfl (fun ls hl => ?_)
        refine lv_goto (tgt := 29) hx hb dX1_longestDinner_76 (by decide) ?_
        exact ih29 v3 x7 z0 x8 D _ _ _  hW hS (lv_sub hl [3, 4, 5, 1, 2, 0] rfl) h
      intro v3 v4 v5 v6 D H locs ls hW hS hl h
      rw [f_X1_longestDinner_L29] at h
      refine lv_iload hx hb dX1_longestDinner_29 (lv_at hl 5 rfl) ?_
      refine lv_iload_n hx hb dX1_longestDinner_31 rfl (lv_at hl 1 rfl) ?_
      refine lv_icmp_ge (tgt := 79) hx hb dX1_longestDinner_32 (by decide) (fun c3 => ?_) (fun c3 => ?_)
      · rw [if_pos c3] at h
        refine lv_iload hx hb dX1_longestDinner_79 (lv_at hl 3 rfl) ?_
        have h := Option.some.inj h
        subst h
        exact wd_iret CF hret hlk hW hS dX1_longestDinner_81
      · rw [if_neg c3] at h
        refine lv_aload_n hx hb dX1_longestDinner_35 rfl (lv_at hl 0 rfl) ?_
        refine wd_getR CF hE hW fl_X1_12 sh_241 rf_241_0 rfl dX1_longestDinner_36 ?_
        obtain ⟨q4, eq4, h⟩ := bdE h
        refine wd_callVr (ci := 3) (k := 242) CF hE hW hS (x_X3_passMinute l X 242 room_242 D eq4) mi_X3_passMinute vi_X3_passMinute tw539 ⟨by decide, rfl⟩ (rm_s room_242) ⟨rfl, rfl, Nat.le_of_ble_eq_true rfl, Nat.le_of_ble_eq_true rfl⟩ rfl hl.1 rfl (Nat.le_of_ble_eq_true rfl) dX1_longestDinner_39 ⟨Nat.le_of_ble_eq_true rfl, Nat.le_of_ble_eq_true rfl⟩ (fun H locs hW hS => ?_)
        refine lv_pop hx hb dX1_longestDinner_42 rfl ?_
        refine lv_aload_n hx hb dX1_longestDinner_43 rfl (lv_at hl 0 rfl) ?_
        refine wd_getR CF hE hW fl_X1_12 sh_241 rf_241_0 rfl dX1_longestDinner_44 ?_
        refine lv_iload_n hx hb dX1_longestDinner_47 rfl (lv_at hl 2 rfl) ?_
        obtain ⟨x5, ex5, h⟩ := bdE h
        refine wd_callVr (ci := 3) (k := 242) CF hE hW hS (x_X3_sleepAll l X 242 room_242 v3 q4.2 ex5) mi_X3_sleepAll vi_X3_sleepAll tw535 ⟨by decide, rfl⟩ (rm_s room_242) ⟨rfl, rfl, Nat.le_of_ble_eq_true rfl, Nat.le_of_ble_eq_true rfl⟩ rfl hl.1 rfl (Nat.le_of_ble_eq_true rfl) dX1_longestDinner_48 ⟨Nat.le_of_ble_eq_true rfl, Nat.le_of_ble_eq_true rfl⟩ (fun H locs hW hS => ?_)
        refine lv_if_eq (tgt := 61) hx hb dX1_longestDinner_51 (by decide) (fun c6 => ?_) (fun c6 => ?_)
        · rw [if_pos c6] at h
          refine lv_iconst (v := 0) hx hb dX1_longestDinner_61 (by decide) ?_
          exact hL62 v3 v4 v6 0 q4.2 _ _ _  hW hS (lv_sub hl [0, 1, 2, 3, 5] rfl) h
        · rw [if_neg c6] at h
          refine lv_iload hx hb dX1_longestDinner_54 (lv_at hl 4 rfl) ?_
          refine lv_iconst (v := 1) hx hb dX1_longestDinner_56 (by decide) ?_
          refine lv_iadd hx hb dX1_longestDinner_57 ?_
          refine lv_goto (tgt := 62) hx hb dX1_longestDinner_58 (by decide) ?_
          exact hL62 v3 v4 v6 (v5 + 1) q4.2 _ _ _  hW hS (lv_sub hl [0, 1, 2, 3, 5] rfl) h
  refine lv_aload_n hx hb dX1_longestDinner_0 rfl (lv_at hl 0 rfl) ?_
  refine wd_getR CF hE hW fl_X1_12 sh_241 rf_241_0 rfl dX1_longestDinner_1 ?_
  refine lv_aload_n hx hb dX1_longestDinner_4 rfl (lv_at hl 1 rfl) ?_
  obtain ⟨q1, eq1, h⟩ := bdE h
  refine wd_callVv (ci := 3) (k := 242) CF hE hW hS (x_X3_become l X 242 room_242 r1 hr1 D eq1) mi_X3_become vi_X3_become tw517 ⟨by decide, rfl⟩ (rm_s room_242) ⟨rfl, rfl, Nat.le_of_ble_eq_true rfl, Nat.le_of_ble_eq_true rfl⟩ rfl hl.1 rfl (Nat.le_of_ble_eq_true rfl) dX1_longestDinner_5 ⟨Nat.le_of_ble_eq_true rfl, Nat.le_of_ble_eq_true rfl⟩ (fun H locs hW hS => ?_)
  refine lv_aload_n hx hb dX1_longestDinner_8 rfl (lv_at hl 1 rfl) ?_
  refine wd_callVr (ci := 3) (k := r1) CF hE hW hS (x_X3_everybody l X r1 hr1 q1) mi_X3_everybody vi_X3_everybody tw557 ⟨by decide, rfl⟩ (rm_s hr1) ⟨rfl, rfl, Nat.le_of_ble_eq_true rfl, Nat.le_of_ble_eq_true rfl⟩ rfl hl.1 rfl (Nat.le_of_ble_eq_true rfl) dX1_longestDinner_9 ⟨Nat.le_of_ble_eq_true rfl, Nat.le_of_ble_eq_true rfl⟩ (fun H locs hW hS => ?_)
  refine lv_aload_n hx hb dX1_longestDinner_12 rfl (lv_at hl 1 rfl) ?_
  refine wd_get CF hE hW fl_X1_47 (rm_s hr1) (v := .int (gI q1 r1 5)) rfl dX1_longestDinner_13 ?_
  refine lv_iconst (v := (-1)) hx hb dX1_longestDinner_16 (by decide) ?_
  refine lv_ixor hx hb dX1_longestDinner_17 ?_
  refine lv_iand hx hb dX1_longestDinner_18 ?_
  refine lv_topi (fun x2 ex2 => ?_)
  replace h := apR ex2 h
  refine lv_istore_n (lv' := [(3, .int x2), (0, .ref (X.2.2.1 + 241)), (1, .ref (X.2.2.1 + r1)), (2, .int a2)]) hx hb dX1_longestDinner_19 rfl hl (by decide) rfl (fun ls hl => ?_)
  refine lv_iconst (v := 0) hx hb dX1_longestDinner_20 (by decide) ?_
  refine lv_istore (lv' := [(4, .int 0), (3, .int x2), (0, .ref (X.2.2.1 + 241)), (1, .ref (X.2.2.1 + r1)), (2, .int a2)]) hx hb dX1_longestDinner_21 hl (by decide) rfl (fun ls hl => ?_)
  refine lv_iconst (v := 0) hx hb dX1_longestDinner_23 (by decide) ?_
  refine lv_istore (lv' := [(5, .int 0), (4, .int 0), (3, .int x2), (0, .ref (X.2.2.1 + 241)), (1, .ref (X.2.2.1 + r1)), (2, .int a2)]) hx hb dX1_longestDinner_24 hl (by decide) rfl (fun ls hl => ?_)
  refine lv_iconst (v := 0) hx hb dX1_longestDinner_26 (by decide) ?_
  refine lv_istore (lv' := [(6, .int 0), (5, .int 0), (4, .int 0), (3, .int x2), (0, .ref (X.2.2.1 + 241)), (1, .ref (X.2.2.1 + r1)), (2, .int a2)]) hx hb dX1_longestDinner_27 hl (by decide) rfl (fun ls hl => ?_)
  exact hL29 FU x2 0 0 0 q1 _ _ _  hW hS (lv_sub hl [4, 6, 3, 2, 1, 0] rfl) h
def f_X1_weighHands_L40  (a1 : Int32) (a2 : Int32) (D : wd_D) : wd_D := ap (sI D 241 4 a1) (fun D5 => ap (sI D5 241 5 a2) (fun D6 => D6))
def f_X1_weighHands_L19  (a1 : Int32) (a2 : Int32) (z0 : Int32) (D : wd_D) : wd_D := (if (gI D 241 5) < a2 then f_X1_weighHands_L40 a1 a2 D else (if a2 = (gI D 241 5) then (if z0 = 0 then D else f_X1_weighHands_L40 a1 a2 D) else D))
def f_X1_weighHands (a1 : Int32) (a2 : Int32) (D : wd_D) : wd_D := (if (f_J6_bitCount_0f7a4 (gI D 241 4)) ≤ (f_J6_bitCount_0f7a4 a1) then f_X1_weighHands_L19 a1 a2 0 D else f_X1_weighHands_L19 a1 a2 1 D)
set_option maxHeartbeats 4000000 in
set_option maxRecDepth 100000 in
theorem x_X1_weighHands (l : Launch) (X : wd_X) (a1 : Int32) (a2 : Int32) (D : wd_D) {qv : wd_D} (h : f_X1_weighHands a1 a2 D = qv) : wd_Met l X yX1_weighHands cX1_weighHands 4 (none : Option FieldType) ({ frames := 1, cells := 0, slots := 0, locals := 100 }) S0 S0 ([.ref (X.2.2.1 + 241), .int a1, .int a2] : List Value) D qv none 0 0 := by
  refine wd_enter (by decide) (Nat.le_of_ble_eq_true rfl) ?_
  intro p e s m below meth c CF hret hlk hnm hW hE ls hl
  have CF : CallFix p m c cX1_weighHands 4 s ([.ref (X.2.2.1 + 241), .int a1, .int a2] : List Value).toArray tg RX1 := CF
  have hx := CF.1
  have hb := CF.2.1
  have hown := CF.2.2.2.1
  have hts := CF.2.2.2.2
  have hS : va_S (wd_A X) s.heap s.heap [] := va_S.rf
  have hl : lv_has ls 4 [(0, .ref (X.2.2.1 + 241)), (1, .int a1), (2, .int a2)] := hl
  unfold f_X1_weighHands at h
  have hL40 : ∀  (D : wd_D) (H : Heap) (locs : List Loc) (ls : Array Slot), Wd X S0 D H → va_S (wd_A X) s.heap H locs → lv_has ls 4 [(0, .ref (X.2.2.1 + 241)), (1, .int a1), (2, .int a2)] → f_X1_weighHands_L40 a1 a2 D = qv → W p l e ({ frames := 1, cells := 0, slots := 0, locals := 100 }) s m ([.ref (X.2.2.1 + 241), .int a1, .int a2] : List Value).toArray below meth c H locs 0 0 (MQ below (wd_Q X S0 qv none) ([.ref (X.2.2.1 + 241), .int a1, .int a2] : List Value).toArray s 0 0 (wd_A X)) (F0 m 40 ls []) := by
    intro D H locs ls hW hS hl h
    unfold f_X1_weighHands_L40 at h
    refine lv_aload_n hx hb dX1_weighHands_40 rfl (lv_at hl 0 rfl) ?_
    refine lv_iload_n hx hb dX1_weighHands_41 rfl (lv_at hl 1 rfl) ?_
    refine wd_putI CF hE hW hS fl_X1_79 sh_241 rfl rfl dX1_weighHands_42 (fun D5 H locs eD5 hW hS => ?_)
    replace h := apR eD5 h
    refine lv_aload_n hx hb dX1_weighHands_45 rfl (lv_at hl 0 rfl) ?_
    refine lv_iload_n hx hb dX1_weighHands_46 rfl (lv_at hl 2 rfl) ?_
    refine wd_putI CF hE hW hS fl_X1_57 sh_241 rfl rfl dX1_weighHands_47 (fun D6 H locs eD6 hW hS => ?_)
    replace h := apR eD6 h
    subst h
    exact wd_vret CF hret hlk hW hS dX1_weighHands_50
  have hL19 : ∀ (z0 : Int32) (D : wd_D) (H : Heap) (locs : List Loc) (ls : Array Slot), Wd X S0 D H → va_S (wd_A X) s.heap H locs → lv_has ls 4 [(0, .ref (X.2.2.1 + 241)), (1, .int a1), (2, .int a2)] → f_X1_weighHands_L19 a1 a2 z0 D = qv → W p l e ({ frames := 1, cells := 0, slots := 0, locals := 100 }) s m ([.ref (X.2.2.1 + 241), .int a1, .int a2] : List Value).toArray below meth c H locs 0 0 (MQ below (wd_Q X S0 qv none) ([.ref (X.2.2.1 + 241), .int a1, .int a2] : List Value).toArray s 0 0 (wd_A X)) (F0 m 19 ls [.int z0]) := by
    intro z0 D H locs ls hW hS hl h
    unfold f_X1_weighHands_L19 at h
    refine lv_istore_n (lv' := [(3, .int z0), (0, .ref (X.2.2.1 + 241)), (1, .int a1), (2, .int a2)]) hx hb dX1_weighHands_19 rfl hl (by decide) rfl (fun ls hl => ?_)
    refine lv_iload_n hx hb dX1_weighHands_20 rfl (lv_at hl 3 rfl) ?_
    refine lv_aload_n hx hb dX1_weighHands_21 rfl (lv_at hl 1 rfl) ?_
    refine wd_get CF hE hW fl_X1_57 sh_241 (v := .int (gI D 241 5)) rfl dX1_weighHands_22 ?_
    refine lv_icmp_gt (tgt := 40) hx hb dX1_weighHands_25 (by decide) (fun c2 => ?_) (fun c2 => ?_)
    · rw [if_pos c2] at h
      exact hL40  D _ _ _  hW hS (lv_sub hl [1, 2, 3] rfl) h
    · rw [if_neg c2] at h
      refine lv_iload_n hx hb dX1_weighHands_28 rfl (lv_at hl 3 rfl) ?_
      refine lv_aload_n hx hb dX1_weighHands_29 rfl (lv_at hl 1 rfl) ?_
      refine wd_get CF hE hW fl_X1_57 sh_241 (v := .int (gI D 241 5)) rfl dX1_weighHands_30 ?_
      refine lv_icmp_ne (tgt := 50) hx hb dX1_weighHands_33 (by decide) (fun c3 => ?_) (fun c3 => ?_)
      · rw [if_neg c3] at h
        subst h
        exact wd_vret CF hret hlk hW hS dX1_weighHands_50
      · rw [if_pos c3] at h
        refine lv_iload_n hx hb dX1_weighHands_36 rfl (lv_at hl 0 rfl) ?_
        refine lv_if_eq (tgt := 50) hx hb dX1_weighHands_37 (by decide) (fun c4 => ?_) (fun c4 => ?_)
        · rw [if_pos c4] at h
          subst h
          exact wd_vret CF hret hlk hW hS dX1_weighHands_50
        · rw [if_neg c4] at h
          exact hL40  D _ _ _  hW hS (lv_sub hl [1, 2, 3] rfl) h
  refine lv_iload_n hx hb dX1_weighHands_0 rfl (lv_at hl 1 rfl) ?_
  refine wd_callSr CF hE hW hS (x_J6_bitCount_0f7a4 l X a1 D) mi_J6_bitCount_0f7a4 vi_J6_bitCount_0f7a4 tw567 ⟨rfl, rfl, Nat.le_of_ble_eq_true rfl, Nat.le_of_ble_eq_true rfl⟩ rfl hl.1 rfl (Nat.le_of_ble_eq_true rfl) dX1_weighHands_1 ⟨Nat.le_of_ble_eq_true rfl, Nat.le_of_ble_eq_true rfl⟩ (fun H locs hW hS => ?_)
  refine lv_aload_n hx hb dX1_weighHands_4 rfl (lv_at hl 0 rfl) ?_
  refine wd_get CF hE hW fl_X1_79 sh_241 (v := .int (gI D 241 4)) rfl dX1_weighHands_5 ?_
  refine wd_callSr CF hE hW hS (x_J6_bitCount_0f7a4 l X (gI D 241 4) D) mi_J6_bitCount_0f7a4 vi_J6_bitCount_0f7a4 tw567 ⟨rfl, rfl, Nat.le_of_ble_eq_true rfl, Nat.le_of_ble_eq_true rfl⟩ rfl hl.1 rfl (Nat.le_of_ble_eq_true rfl) dX1_weighHands_8 ⟨Nat.le_of_ble_eq_true rfl, Nat.le_of_ble_eq_true rfl⟩ (fun H locs hW hS => ?_)
  refine lv_icmp_ge (tgt := 18) hx hb dX1_weighHands_11 (by decide) (fun c1 => ?_) (fun c1 => ?_)
  · rw [if_pos c1] at h
    refine lv_iconst (v := 0) hx hb dX1_weighHands_18 (by decide) ?_
    exact hL19 0 D _ _ _  hW hS (lv_sub hl [0, 1, 2] rfl) h
  · rw [if_neg c1] at h
    refine lv_iconst (v := 1) hx hb dX1_weighHands_14 (by decide) ?_
    refine lv_goto (tgt := 19) hx hb dX1_weighHands_15 (by decide) ?_
    exact hL19 1 D _ _ _  hW hS (lv_sub hl [0, 1, 2] rfl) h
def f_X1_planHands_L66 (k7 : Nat → Int32 → Int32 → wd_D → Option (wd_D)) (r1 : Nat) (a2 : Int32) (v3 : Int32) (D : wd_D) : Option (wd_D) := ap (v3 + 1) (fun x9 => k7 r1 a2 x9 D)
def f_X1_planHands_L7  : Nat → Nat → Int32 → Int32 → wd_D → Option (wd_D)
  | 0, _, _, _, _ => none
  | n + 1, r1, a2, v3, D => (if (f_X3_everybody r1 D) < v3 then some D else (if (gI D r1 1) < (f_J6_bitCount_0f7a4 v3) then f_X1_planHands_L66 (f_X1_planHands_L7 n) r1 a2 v3 D else (f_X3_become 242 r1 D).bind (fun q4 => ap (sI q4 242 4 v3) (fun D5 => (f_X3_passMinutes 242 a2 D5).bind (fun q6 => (f_X3_thoseWho 242 2 q6).bind (fun x7 => ap (f_X1_weighHands v3 (f_J6_bitCount_0f7a4 x7) q6) (fun q8 => f_X1_planHands_L66 (f_X1_planHands_L7 n) r1 a2 v3 q8)))))))
def f_X1_planHands (r1 : Nat) (a2 : Int32) (D : wd_D) : Option (wd_D) := ap (sI D 241 5 (-1)) (fun D1 => f_X1_planHands_L7 FU r1 a2 0 D1)
set_option maxHeartbeats 4000000 in
set_option maxRecDepth 100000 in
theorem x_X1_planHands (l : Launch) (X : wd_X) (r1 : Nat) (hr1 : RoomAt r1) (a2 : Int32) (D : wd_D) {qv : wd_D} (h : f_X1_planHands r1 a2 D = some qv) : wd_Met l X yX1_planHands cX1_planHands 4 (none : Option FieldType) ({ frames := 5, cells := 0, slots := 0, locals := 500 }) S0 S0 ([.ref (X.2.2.1 + 241), .ref (X.2.2.1 + r1), .int a2] : List Value) D qv none 0 0 := by
  refine wd_enter (by decide) (Nat.le_of_ble_eq_true rfl) ?_
  intro p e s m below meth c CF hret hlk hnm hW hE ls hl
  have CF : CallFix p m c cX1_planHands 4 s ([.ref (X.2.2.1 + 241), .ref (X.2.2.1 + r1), .int a2] : List Value).toArray tg RX1 := CF
  have hx := CF.1
  have hb := CF.2.1
  have hown := CF.2.2.2.1
  have hts := CF.2.2.2.2
  have hS : va_S (wd_A X) s.heap s.heap [] := va_S.rf
  have hl : lv_has ls 4 [(0, .ref (X.2.2.1 + 241)), (1, .ref (X.2.2.1 + r1)), (2, .int a2)] := hl
  unfold f_X1_planHands at h
  have hL7 : ∀ (n7 : Nat) (v3 : Int32) (D : wd_D) (H : Heap) (locs : List Loc) (ls : Array Slot), Wd X S0 D H → va_S (wd_A X) s.heap H locs → lv_has ls 4 [(0, .ref (X.2.2.1 + 241)), (1, .ref (X.2.2.1 + r1)), (2, .int a2), (3, .int v3)] → f_X1_planHands_L7 n7 r1 a2 v3 D = some qv → W p l e ({ frames := 5, cells := 0, slots := 0, locals := 500 }) s m ([.ref (X.2.2.1 + 241), .ref (X.2.2.1 + r1), .int a2] : List Value).toArray below meth c H locs 0 0 (MQ below (wd_Q X S0 qv none) ([.ref (X.2.2.1 + 241), .ref (X.2.2.1 + r1), .int a2] : List Value).toArray s 0 0 (wd_A X)) (F0 m 7 ls []) := by
    intro n7
    induction n7 with
    | zero => intro v3 D H locs ls hW hS hl h; cases h
    | succ n7 ih7 =>
      have hL66 : ∀ (v3 : Int32) (D : wd_D) (H : Heap) (locs : List Loc) (ls : Array Slot), Wd X S0 D H → va_S (wd_A X) s.heap H locs → lv_has ls 4 [(0, .ref (X.2.2.1 + 241)), (1, .ref (X.2.2.1 + r1)), (2, .int a2), (3, .int v3)] → f_X1_planHands_L66 (f_X1_planHands_L7 n7) r1 a2 v3 D = some qv → W p l e ({ frames := 5, cells := 0, slots := 0, locals := 500 }) s m ([.ref (X.2.2.1 + 241), .ref (X.2.2.1 + r1), .int a2] : List Value).toArray below meth c H locs 0 0 (MQ below (wd_Q X S0 qv none) ([.ref (X.2.2.1 + 241), .ref (X.2.2.1 + r1), .int a2] : List Value).toArray s 0 0 (wd_A X)) (F0 m 66 ls []) := by
        intro v3 D H locs ls hW hS hl h
        unfold f_X1_planHands_L66 at h
        obtain ⟨x9, ex9⟩ : ∃ y : Int32, y = v3 + 1 := ⟨_, rfl⟩
        replace h := apR ex9 h
        refine lv_iinc (v := x9) (lv' := [(3, .int x9), (0, .ref (X.2.2.1 + 241)), (1, .ref (X.2.2.1 + r1)), (2, .int a2)]) hx hb dX1_planHands_66 hl (k := 3) rfl (by rw [ex9]; rfl) (by decide) rfl (fun ls hl => ?_)
        refine lv_goto (tgt := 7) hx hb dX1_planHands_69 (by decide) ?_
        exact ih7 x9 D _ _ _  hW hS (lv_sub hl [1, 2, 3, 0] rfl) h
      intro v3 D H locs ls hW hS hl h
      rw [f_X1_planHands_L7] at h
      refine lv_iload_n hx hb dX1_planHands_7 rfl (lv_at hl 3 rfl) ?_
      refine lv_aload_n hx hb dX1_planHands_8 rfl (lv_at hl 1 rfl) ?_
      refine wd_callVr (ci := 3) (k := r1) CF hE hW hS (x_X3_everybody l X r1 hr1 D) mi_X3_everybody vi_X3_everybody tw557 ⟨by decide, rfl⟩ (rm_s hr1) ⟨rfl, rfl, Nat.le_of_ble_eq_true rfl, Nat.le_of_ble_eq_true rfl⟩ rfl hl.1 rfl (Nat.le_of_ble_eq_true rfl) dX1_planHands_9 ⟨Nat.le_of_ble_eq_true rfl, Nat.le_of_ble_eq_true rfl⟩ (fun H locs hW hS => ?_)
      refine lv_icmp_gt (tgt := 72) hx hb dX1_planHands_12 (by decide) (fun c2 => ?_) (fun c2 => ?_)
      · rw [if_pos c2] at h
        have h := Option.some.inj h
        subst h
        exact wd_vret CF hret hlk hW hS dX1_planHands_72
      · rw [if_neg c2] at h
        refine lv_iload_n hx hb dX1_planHands_15 rfl (lv_at hl 3 rfl) ?_
        refine wd_callSr CF hE hW hS (x_J6_bitCount_0f7a4 l X v3 D) mi_J6_bitCount_0f7a4 vi_J6_bitCount_0f7a4 tw567 ⟨rfl, rfl, Nat.le_of_ble_eq_true rfl, Nat.le_of_ble_eq_true rfl⟩ rfl hl.1 rfl (Nat.le_of_ble_eq_true rfl) dX1_planHands_16 ⟨Nat.le_of_ble_eq_true rfl, Nat.le_of_ble_eq_true rfl⟩ (fun H locs hW hS => ?_)
        refine lv_aload_n hx hb dX1_planHands_19 rfl (lv_at hl 1 rfl) ?_
        refine wd_get CF hE hW fl_X1_66 (rm_s hr1) (v := .int (gI D r1 1)) rfl dX1_planHands_20 ?_
        refine lv_icmp_gt (tgt := 66) hx hb dX1_planHands_23 (by decide) (fun c3 => ?_) (fun c3 => ?_)
        · rw [if_pos c3] at h
          exact hL66 v3 D _ _ _  hW hS (lv_sub hl [0, 1, 2, 3] rfl) h
        · rw [if_neg c3] at h
          refine lv_aload_n hx hb dX1_planHands_26 rfl (lv_at hl 0 rfl) ?_
          refine wd_getR CF hE hW fl_X1_12 sh_241 rf_241_0 rfl dX1_planHands_27 ?_
          refine lv_aload_n hx hb dX1_planHands_30 rfl (lv_at hl 1 rfl) ?_
          obtain ⟨q4, eq4, h⟩ := bdE h
          refine wd_callVv (ci := 3) (k := 242) CF hE hW hS (x_X3_become l X 242 room_242 r1 hr1 D eq4) mi_X3_become vi_X3_become tw517 ⟨by decide, rfl⟩ (rm_s room_242) ⟨rfl, rfl, Nat.le_of_ble_eq_true rfl, Nat.le_of_ble_eq_true rfl⟩ rfl hl.1 rfl (Nat.le_of_ble_eq_true rfl) dX1_planHands_31 ⟨Nat.le_of_ble_eq_true rfl, Nat.le_of_ble_eq_true rfl⟩ (fun H locs hW hS => ?_)
          refine lv_aload_n hx hb dX1_planHands_34 rfl (lv_at hl 0 rfl) ?_
          refine wd_getR CF hE hW fl_X1_12 sh_241 rf_241_0 rfl dX1_planHands_35 ?_
          refine lv_iload_n hx hb dX1_planHands_38 rfl (lv_at hl 3 rfl) ?_
          refine wd_putI CF hE hW hS fl_X1_69 (rm_s room_242) rfl rfl dX1_planHands_39 (fun D5 H locs eD5 hW hS => ?_)
          replace h := apR eD5 h
          refine lv_aload_n hx hb dX1_planHands_42 rfl (lv_at hl 0 rfl) ?_
          refine wd_getR CF hE hW fl_X1_12 sh_241 rf_241_0 rfl dX1_planHands_43 ?_
          refine lv_iload_n hx hb dX1_planHands_46 rfl (lv_at hl 2 rfl) ?_
          obtain ⟨q6, eq6, h⟩ := bdE h
          refine wd_callVv (ci := 3) (k := 242) CF hE hW hS (x_X3_passMinutes l X 242 room_242 a2 D5 eq6) mi_X3_passMinutes vi_X3_passMinutes tw518 ⟨by decide, rfl⟩ (rm_s room_242) ⟨rfl, rfl, Nat.le_of_ble_eq_true rfl, Nat.le_of_ble_eq_true rfl⟩ rfl hl.1 rfl (Nat.le_of_ble_eq_true rfl) dX1_planHands_47 ⟨Nat.le_of_ble_eq_true rfl, Nat.le_of_ble_eq_true rfl⟩ (fun H locs hW hS => ?_)
          refine lv_aload_n hx hb dX1_planHands_50 rfl (lv_at hl 0 rfl) ?_
          refine lv_iload_n hx hb dX1_planHands_51 rfl (lv_at hl 3 rfl) ?_
          refine lv_aload_n hx hb dX1_planHands_52 rfl (lv_at hl 0 rfl) ?_
          refine wd_getR CF hE hW fl_X1_12 sh_241 rf_241_0 rfl dX1_planHands_53 ?_
          refine lv_iconst (v := 2) hx hb dX1_planHands_56 (by decide) ?_
          obtain ⟨x7, ex7, h⟩ := bdE h
          refine wd_callVr (ci := 3) (k := 242) CF hE hW hS (x_X3_thoseWho l X 242 room_242 2 q6 ex7) mi_X3_thoseWho vi_X3_thoseWho tw568 ⟨by decide, rfl⟩ (rm_s room_242) ⟨rfl, rfl, Nat.le_of_ble_eq_true rfl, Nat.le_of_ble_eq_true rfl⟩ rfl hl.1 rfl (Nat.le_of_ble_eq_true rfl) dX1_planHands_57 ⟨Nat.le_of_ble_eq_true rfl, Nat.le_of_ble_eq_true rfl⟩ (fun H locs hW hS => ?_)
          refine wd_callSr CF hE hW hS (x_J6_bitCount_0f7a4 l X x7 q6) mi_J6_bitCount_0f7a4 vi_J6_bitCount_0f7a4 tw567 ⟨rfl, rfl, Nat.le_of_ble_eq_true rfl, Nat.le_of_ble_eq_true rfl⟩ rfl hl.1 rfl (Nat.le_of_ble_eq_true rfl) dX1_planHands_60 ⟨Nat.le_of_ble_eq_true rfl, Nat.le_of_ble_eq_true rfl⟩ (fun H locs hW hS => ?_)
          obtain ⟨q8, eq8⟩ : ∃ q, q = f_X1_weighHands v3 (f_J6_bitCount_0f7a4 x7) q6 := ⟨_, rfl⟩
          replace h := apR eq8 h
          refine wd_callVv (ci := 1) (k := 241) CF hE hW hS (x_X1_weighHands l X v3 (f_J6_bitCount_0f7a4 x7) q6 eq8.symm) mi_X1_weighHands vi_X1_weighHands tw569 ⟨by decide, rfl⟩ sh_241 ⟨rfl, rfl, Nat.le_of_ble_eq_true rfl, Nat.le_of_ble_eq_true rfl⟩ rfl hl.1 rfl (Nat.le_of_ble_eq_true rfl) dX1_planHands_63 ⟨Nat.le_of_ble_eq_true rfl, Nat.le_of_ble_eq_true rfl⟩ (fun H locs hW hS => ?_)
          exact hL66 v3 q8 _ _ _  hW hS (lv_sub hl [0, 1, 2, 3] rfl) h
  refine lv_aload_n hx hb dX1_planHands_0 rfl (lv_at hl 0 rfl) ?_
  refine lv_iconst (v := (-1)) hx hb dX1_planHands_1 (by decide) ?_
  refine wd_putI CF hE hW hS fl_X1_57 sh_241 rfl rfl dX1_planHands_2 (fun D1 H locs eD1 hW hS => ?_)
  replace h := apR eD1 h
  refine lv_iconst (v := 0) hx hb dX1_planHands_5 (by decide) ?_
  refine lv_istore_n (lv' := [(3, .int 0), (0, .ref (X.2.2.1 + 241)), (1, .ref (X.2.2.1 + r1)), (2, .int a2)]) hx hb dX1_planHands_6 rfl hl (by decide) rfl (fun ls hl => ?_)
  exact hL7 FU 0 D1 _ _ _  hW hS (lv_sub hl [1, 2, 3, 0] rfl) h
def f_X1_fewestOut_L110 (k15 : Nat → Int32 → Int32 → Int32 → wd_D → Option (Int32 × wd_D)) (r1 : Nat) (a2 : Int32) (v3 : Int32) (v4 : Int32) (D : wd_D) : Option (Int32 × wd_D) := ap (v4 + 1) (fun x10 => k15 r1 a2 v3 x10 D)
def f_X1_fewestOut_L109 (k15 : Nat → Int32 → Int32 → Int32 → wd_D → Option (Int32 × wd_D)) (r1 : Nat) (a2 : Int32) (v4 : Int32) (z0 : Int32) (D : wd_D) : Option (Int32 × wd_D) := f_X1_fewestOut_L110 k15 r1 a2 z0 v4 D
def f_X1_fewestOut_L15  : Nat → Nat → Int32 → Int32 → Int32 → wd_D → Option (Int32 × wd_D)
  | 0, _, _, _, _, _ => none
  | n + 1, r1, a2, v3, v4, D => (if (f_X3_everybody r1 D) < v4 then some (v3, D) else (if (v4 &&& (gI D r1 5)) = 0 then (if (f_J6_bitCount_0f7a4 v3) ≤ (f_J6_bitCount_0f7a4 v4) then f_X1_fewestOut_L110 (f_X1_fewestOut_L15 n) r1 a2 v3 v4 D else (f_X3_become 242 r1 D).bind (fun q5 => ap (sI q5 242 5 ((gI q5 242 5) ||| v4)) (fun D6 => (f_X3_passMinutes 242 a2 D6).bind (fun q7 => (f_X3_sleepAll 242 ((f_X3_everybody 242 q7) &&& ((gI q7 242 5) ^^^ (-1))) q7).bind (fun x8 => (if x8 = 0 then f_X1_fewestOut_L109 (f_X1_fewestOut_L15 n) r1 a2 v4 v3 q7 else f_X1_fewestOut_L109 (f_X1_fewestOut_L15 n) r1 a2 v4 v4 q7)))))) else f_X1_fewestOut_L110 (f_X1_fewestOut_L15 n) r1 a2 v3 v4 D))
def f_X1_fewestOut (r1 : Nat) (a2 : Int32) (D : wd_D) : Option (Int32 × wd_D) := ap ((f_X3_everybody r1 D) &&& ((gI D r1 5) ^^^ (-1))) (fun x1 => f_X1_fewestOut_L15 FU r1 a2 x1 0 D)
set_option maxHeartbeats 4000000 in
set_option maxRecDepth 100000 in
theorem x_X1_fewestOut (l : Launch) (X : wd_X) (r1 : Nat) (hr1 : RoomAt r1) (a2 : Int32) (D : wd_D) {qv : Int32 × wd_D} (h : f_X1_fewestOut r1 a2 D = some qv) : wd_Met l X yX1_fewestOut cX1_fewestOut 5 (some FieldType.int) ({ frames := 5, cells := 0, slots := 0, locals := 500 }) S0 S0 ([.ref (X.2.2.1 + 241), .ref (X.2.2.1 + r1), .int a2] : List Value) D qv.2 (some (.int qv.1)) 0 0 := by
  refine wd_enter (by decide) (Nat.le_of_ble_eq_true rfl) ?_
  intro p e s m below meth c CF hret hlk hnm hW hE ls hl
  have CF : CallFix p m c cX1_fewestOut 5 s ([.ref (X.2.2.1 + 241), .ref (X.2.2.1 + r1), .int a2] : List Value).toArray tg RX1 := CF
  have hx := CF.1
  have hb := CF.2.1
  have hown := CF.2.2.2.1
  have hts := CF.2.2.2.2
  have hS : va_S (wd_A X) s.heap s.heap [] := va_S.rf
  have hl : lv_has ls 5 [(0, .ref (X.2.2.1 + 241)), (1, .ref (X.2.2.1 + r1)), (2, .int a2)] := hl
  unfold f_X1_fewestOut at h
  have hL15 : ∀ (n15 : Nat) (v3 : Int32) (v4 : Int32) (D : wd_D) (H : Heap) (locs : List Loc) (ls : Array Slot), Wd X S0 D H → va_S (wd_A X) s.heap H locs → lv_has ls 5 [(0, .ref (X.2.2.1 + 241)), (1, .ref (X.2.2.1 + r1)), (2, .int a2), (3, .int v3), (4, .int v4)] → f_X1_fewestOut_L15 n15 r1 a2 v3 v4 D = some qv → W p l e ({ frames := 5, cells := 0, slots := 0, locals := 500 }) s m ([.ref (X.2.2.1 + 241), .ref (X.2.2.1 + r1), .int a2] : List Value).toArray below meth c H locs 0 0 (MQ below (wd_Q X S0 qv.2 (some (.int qv.1))) ([.ref (X.2.2.1 + 241), .ref (X.2.2.1 + r1), .int a2] : List Value).toArray s 0 0 (wd_A X)) (F0 m 15 ls []) := by
    intro n15
    induction n15 with
    | zero => intro v3 v4 D H locs ls hW hS hl h; cases h
    | succ n15 ih15 =>
      have hL110 : ∀ (v3 : Int32) (v4 : Int32) (D : wd_D) (H : Heap) (locs : List Loc) (ls : Array Slot), Wd X S0 D H → va_S (wd_A X) s.heap H locs → lv_has ls 5 [(0, .ref (X.2.2.1 + 241)), (1, .ref (X.2.2.1 + r1)), (2, .int a2), (3, .int v3), (4, .int v4)] → f_X1_fewestOut_L110 (f_X1_fewestOut_L15 n15) r1 a2 v3 v4 D = some qv → W p l e ({ frames := 5, cells := 0, slots := 0, locals := 500 }) s m ([.ref (X.2.2.1 + 241), .ref (X.2.2.1 + r1), .int a2] : List Value).toArray below meth c H locs 0 0 (MQ below (wd_Q X S0 qv.2 (some (.int qv.1))) ([.ref (X.2.2.1 + 241), .ref (X.2.2.1 + r1), .int a2] : List Value).toArray s 0 0 (wd_A X)) (F0 m 110 ls []) := by
        intro v3 v4 D H locs ls hW hS hl h
        unfold f_X1_fewestOut_L110 at h
        obtain ⟨x10, ex10⟩ : ∃ y : Int32, y = v4 + 1 := ⟨_, rfl⟩
        replace h := apR ex10 h
        refine lv_iinc (v := x10) (lv' := [(4, .int x10), (0, .ref (X.2.2.1 + 241)), (1, .ref (X.2.2.1 + r1)), (2, .int a2), (3, .int v3)]) hx hb dX1_fewestOut_110 hl (k := 4) rfl (by rw [ex10]; rfl) (by decide) rfl (fun ls hl => ?_)
        refine lv_goto (tgt := 15) hx hb dX1_fewestOut_113 (by decide) ?_
        exact ih15 v3 x10 D _ _ _  hW hS (lv_sub hl [1, 2, 3, 4, 0] rfl) h
      have hL109 : ∀ (v4 : Int32) (z0 : Int32) (D : wd_D) (H : Heap) (locs : List Loc) (ls : Array Slot), Wd X S0 D H → va_S (wd_A X) s.heap H locs → lv_has ls 5 [(0, .ref (X.2.2.1 + 241)), (1, .ref (X.2.2.1 + r1)), (2, .int a2), (4, .int v4)] → f_X1_fewestOut_L109 (f_X1_fewestOut_L15 n15) r1 a2 v4 z0 D = some qv → W p l e ({ frames := 5, cells := 0, slots := 0, locals := 500 }) s m ([.ref (X.2.2.1 + 241), .ref (X.2.2.1 + r1), .int a2] : List Value).toArray below meth c H locs 0 0 (MQ below (wd_Q X S0 qv.2 (some (.int qv.1))) ([.ref (X.2.2.1 + 241), .ref (X.2.2.1 + r1), .int a2] : List Value).toArray s 0 0 (wd_A X)) (F0 m 109 ls [.int z0]) := by
        intro v4 z0 D H locs ls hW hS hl h
        unfold f_X1_fewestOut_L109 at h
        refine lv_istore_n (lv' := [(3, .int z0), (0, .ref (X.2.2.1 + 241)), (1, .ref (X.2.2.1 + r1)), (2, .int a2), (4, .int v4)]) hx hb dX1_fewestOut_109 rfl hl (by decide) rfl (fun ls hl => ?_)
        exact hL110 z0 v4 D _ _ _  hW hS (lv_sub hl [1, 2, 3, 0, 4] rfl) h
      intro v3 v4 D H locs ls hW hS hl h
      rw [f_X1_fewestOut_L15] at h
      refine lv_iload hx hb dX1_fewestOut_15 (lv_at hl 4 rfl) ?_
      refine lv_aload_n hx hb dX1_fewestOut_17 rfl (lv_at hl 1 rfl) ?_
      refine wd_callVr (ci := 3) (k := r1) CF hE hW hS (x_X3_everybody l X r1 hr1 D) mi_X3_everybody vi_X3_everybody tw557 ⟨by decide, rfl⟩ (rm_s hr1) ⟨rfl, rfl, Nat.le_of_ble_eq_true rfl, Nat.le_of_ble_eq_true rfl⟩ rfl hl.1 rfl (Nat.le_of_ble_eq_true rfl) dX1_fewestOut_18 ⟨Nat.le_of_ble_eq_true rfl, Nat.le_of_ble_eq_true rfl⟩ (fun H locs hW hS => ?_)
      refine lv_icmp_gt (tgt := 116) hx hb dX1_fewestOut_21 (by decide) (fun c2 => ?_) (fun c2 => ?_)
      · rw [if_pos c2] at h
        refine lv_iload_n hx hb dX1_fewestOut_116 rfl (lv_at hl 3 rfl) ?_
        have h := Option.some.inj h
        subst h
        exact wd_iret CF hret hlk hW hS dX1_fewestOut_117
      · rw [if_neg c2] at h
        refine lv_iload hx hb dX1_fewestOut_24 (lv_at hl 4 rfl) ?_
        refine lv_aload_n hx hb dX1_fewestOut_26 rfl (lv_at hl 1 rfl) ?_
        refine wd_get CF hE hW fl_X1_47 (rm_s hr1) (v := .int (gI D r1 5)) rfl dX1_fewestOut_27 ?_
        refine lv_iand hx hb dX1_fewestOut_30 ?_
        refine lv_if_ne (tgt := 110) hx hb dX1_fewestOut_31 (by decide) (fun c3 => ?_) (fun c3 => ?_)
        · rw [if_neg c3] at h
          exact hL110 v3 v4 D _ _ _  hW hS (lv_sub hl [0, 1, 2, 3, 4] rfl) h
        · rw [if_pos c3] at h
          refine lv_iload hx hb dX1_fewestOut_34 (lv_at hl 4 rfl) ?_
          refine wd_callSr CF hE hW hS (x_J6_bitCount_0f7a4 l X v4 D) mi_J6_bitCount_0f7a4 vi_J6_bitCount_0f7a4 tw567 ⟨rfl, rfl, Nat.le_of_ble_eq_true rfl, Nat.le_of_ble_eq_true rfl⟩ rfl hl.1 rfl (Nat.le_of_ble_eq_true rfl) dX1_fewestOut_36 ⟨Nat.le_of_ble_eq_true rfl, Nat.le_of_ble_eq_true rfl⟩ (fun H locs hW hS => ?_)
          refine lv_iload_n hx hb dX1_fewestOut_39 rfl (lv_at hl 3 rfl) ?_
          refine wd_callSr CF hE hW hS (x_J6_bitCount_0f7a4 l X v3 D) mi_J6_bitCount_0f7a4 vi_J6_bitCount_0f7a4 tw567 ⟨rfl, rfl, Nat.le_of_ble_eq_true rfl, Nat.le_of_ble_eq_true rfl⟩ rfl hl.1 rfl (Nat.le_of_ble_eq_true rfl) dX1_fewestOut_40 ⟨Nat.le_of_ble_eq_true rfl, Nat.le_of_ble_eq_true rfl⟩ (fun H locs hW hS => ?_)
          refine lv_icmp_ge (tgt := 110) hx hb dX1_fewestOut_43 (by decide) (fun c4 => ?_) (fun c4 => ?_)
          · rw [if_pos c4] at h
            exact hL110 v3 v4 D _ _ _  hW hS (lv_sub hl [0, 1, 2, 3, 4] rfl) h
          · rw [if_neg c4] at h
            refine lv_aload_n hx hb dX1_fewestOut_46 rfl (lv_at hl 0 rfl) ?_
            refine wd_getR CF hE hW fl_X1_12 sh_241 rf_241_0 rfl dX1_fewestOut_47 ?_
            refine lv_aload_n hx hb dX1_fewestOut_50 rfl (lv_at hl 1 rfl) ?_
            obtain ⟨q5, eq5, h⟩ := bdE h
            refine wd_callVv (ci := 3) (k := 242) CF hE hW hS (x_X3_become l X 242 room_242 r1 hr1 D eq5) mi_X3_become vi_X3_become tw517 ⟨by decide, rfl⟩ (rm_s room_242) ⟨rfl, rfl, Nat.le_of_ble_eq_true rfl, Nat.le_of_ble_eq_true rfl⟩ rfl hl.1 rfl (Nat.le_of_ble_eq_true rfl) dX1_fewestOut_51 ⟨Nat.le_of_ble_eq_true rfl, Nat.le_of_ble_eq_true rfl⟩ (fun H locs hW hS => ?_)
            refine lv_aload_n hx hb dX1_fewestOut_54 rfl (lv_at hl 0 rfl) ?_
            refine wd_getR CF hE hW fl_X1_12 sh_241 rf_241_0 rfl dX1_fewestOut_55 ?_
            refine lv_dup hx hb dX1_fewestOut_58 rfl ?_
            refine wd_get CF hE hW fl_X1_47 (rm_s room_242) (v := .int (gI q5 242 5)) rfl dX1_fewestOut_59 ?_
            refine lv_iload hx hb dX1_fewestOut_62 (lv_at hl 4 rfl) ?_
            refine lv_ior hx hb dX1_fewestOut_64 ?_
            refine wd_putI CF hE hW hS fl_X1_47 (rm_s room_242) rfl rfl dX1_fewestOut_65 (fun D6 H locs eD6 hW hS => ?_)
            replace h := apR eD6 h
            refine lv_aload_n hx hb dX1_fewestOut_68 rfl (lv_at hl 0 rfl) ?_
            refine wd_getR CF hE hW fl_X1_12 sh_241 rf_241_0 rfl dX1_fewestOut_69 ?_
            refine lv_iload_n hx hb dX1_fewestOut_72 rfl (lv_at hl 2 rfl) ?_
            obtain ⟨q7, eq7, h⟩ := bdE h
            refine wd_callVv (ci := 3) (k := 242) CF hE hW hS (x_X3_passMinutes l X 242 room_242 a2 D6 eq7) mi_X3_passMinutes vi_X3_passMinutes tw518 ⟨by decide, rfl⟩ (rm_s room_242) ⟨rfl, rfl, Nat.le_of_ble_eq_true rfl, Nat.le_of_ble_eq_true rfl⟩ rfl hl.1 rfl (Nat.le_of_ble_eq_true rfl) dX1_fewestOut_73 ⟨Nat.le_of_ble_eq_true rfl, Nat.le_of_ble_eq_true rfl⟩ (fun H locs hW hS => ?_)
            refine lv_aload_n hx hb dX1_fewestOut_76 rfl (lv_at hl 0 rfl) ?_
            refine wd_getR CF hE hW fl_X1_12 sh_241 rf_241_0 rfl dX1_fewestOut_77 ?_
            refine lv_aload_n hx hb dX1_fewestOut_80 rfl (lv_at hl 0 rfl) ?_
            refine wd_getR CF hE hW fl_X1_12 sh_241 rf_241_0 rfl dX1_fewestOut_81 ?_
            refine wd_callVr (ci := 3) (k := 242) CF hE hW hS (x_X3_everybody l X 242 room_242 q7) mi_X3_everybody vi_X3_everybody tw557 ⟨by decide, rfl⟩ (rm_s room_242) ⟨rfl, rfl, Nat.le_of_ble_eq_true rfl, Nat.le_of_ble_eq_true rfl⟩ rfl hl.1 rfl (Nat.le_of_ble_eq_true rfl) dX1_fewestOut_84 ⟨Nat.le_of_ble_eq_true rfl, Nat.le_of_ble_eq_true rfl⟩ (fun H locs hW hS => ?_)
            refine lv_aload_n hx hb dX1_fewestOut_87 rfl (lv_at hl 0 rfl) ?_
            refine wd_getR CF hE hW fl_X1_12 sh_241 rf_241_0 rfl dX1_fewestOut_88 ?_
            refine wd_get CF hE hW fl_X1_47 (rm_s room_242) (v := .int (gI q7 242 5)) rfl dX1_fewestOut_91 ?_
            refine lv_iconst (v := (-1)) hx hb dX1_fewestOut_94 (by decide) ?_
            refine lv_ixor hx hb dX1_fewestOut_95 ?_
            refine lv_iand hx hb dX1_fewestOut_96 ?_
            obtain ⟨x8, ex8, h⟩ := bdE h
            refine wd_callVr (ci := 3) (k := 242) CF hE hW hS (x_X3_sleepAll l X 242 room_242 ((f_X3_everybody 242 q7) &&& ((gI q7 242 5) ^^^ (-1))) q7 ex8) mi_X3_sleepAll vi_X3_sleepAll tw535 ⟨by decide, rfl⟩ (rm_s room_242) ⟨rfl, rfl, Nat.le_of_ble_eq_true rfl, Nat.le_of_ble_eq_true rfl⟩ rfl hl.1 rfl (Nat.le_of_ble_eq_true rfl) dX1_fewestOut_97 ⟨Nat.le_of_ble_eq_true rfl, Nat.le_of_ble_eq_true rfl⟩ (fun H locs hW hS => ?_)
            refine lv_if_eq (tgt := 108) hx hb dX1_fewestOut_100 (by decide) (fun c9 => ?_) (fun c9 => ?_)
            · rw [if_pos c9] at h
              refine lv_iload_n hx hb dX1_fewestOut_108 rfl (lv_at hl 3 rfl) ?_
              exact hL109 v4 v3 q7 _ _ _  hW hS (lv_sub hl [0, 1, 2, 4] rfl) h
            · rw [if_neg c9] at h
              refine lv_iload hx hb dX1_fewestOut_103 (lv_at hl 4 rfl) ?_
              refine lv_goto (tgt := 109) hx hb dX1_fewestOut_105 (by decide) ?_
              exact hL109 v4 v4 q7 _ _ _  hW hS (lv_sub hl [0, 1, 2, 4] rfl) h
  refine lv_aload_n hx hb dX1_fewestOut_0 rfl (lv_at hl 1 rfl) ?_
  refine wd_callVr (ci := 3) (k := r1) CF hE hW hS (x_X3_everybody l X r1 hr1 D) mi_X3_everybody vi_X3_everybody tw557 ⟨by decide, rfl⟩ (rm_s hr1) ⟨rfl, rfl, Nat.le_of_ble_eq_true rfl, Nat.le_of_ble_eq_true rfl⟩ rfl hl.1 rfl (Nat.le_of_ble_eq_true rfl) dX1_fewestOut_1 ⟨Nat.le_of_ble_eq_true rfl, Nat.le_of_ble_eq_true rfl⟩ (fun H locs hW hS => ?_)
  refine lv_aload_n hx hb dX1_fewestOut_4 rfl (lv_at hl 1 rfl) ?_
  refine wd_get CF hE hW fl_X1_47 (rm_s hr1) (v := .int (gI D r1 5)) rfl dX1_fewestOut_5 ?_
  refine lv_iconst (v := (-1)) hx hb dX1_fewestOut_8 (by decide) ?_
  refine lv_ixor hx hb dX1_fewestOut_9 ?_
  refine lv_iand hx hb dX1_fewestOut_10 ?_
  refine lv_topi (fun x1 ex1 => ?_)
  replace h := apR ex1 h
  refine lv_istore_n (lv' := [(3, .int x1), (0, .ref (X.2.2.1 + 241)), (1, .ref (X.2.2.1 + r1)), (2, .int a2)]) hx hb dX1_fewestOut_11 rfl hl (by decide) rfl (fun ls hl => ?_)
  refine lv_iconst (v := 0) hx hb dX1_fewestOut_12 (by decide) ?_
  refine lv_istore (lv' := [(4, .int 0), (3, .int x1), (0, .ref (X.2.2.1 + 241)), (1, .ref (X.2.2.1 + r1)), (2, .int a2)]) hx hb dX1_fewestOut_13 hl (by decide) rfl (fun ls hl => ?_)
  exact hL15 FU x1 0 D _ _ _  hW hS (lv_sub hl [2, 3, 4, 1, 0] rfl) h
def f_X1_planChange_L94 (k20 : Nat → Int32 → Int32 → Int32 → wd_D → Option (wd_D)) (k7 : Nat → Int32 → Int32 → wd_D → Option (wd_D)) (r1 : Nat) (a2 : Int32) (v3 : Int32) (v4 : Int32) (D : wd_D) : Option (wd_D) := ap (v4 + 1) (fun x14 => k20 r1 a2 v3 x14 D)
def f_X1_planChange_L20 (k7 : Nat → Int32 → Int32 → wd_D → Option (wd_D)) : Nat → Nat → Int32 → Int32 → Int32 → wd_D → Option (wd_D)
  | 0, _, _, _, _, _ => none
  | n + 1, r1, a2, v3, v4, D => (if (gI D r1 0) ≤ v4 then ap (v3 + 1) (fun x5 => k7 r1 a2 x5 D) else (f_X3_become 242 r1 D).bind (fun q6 => (f_X3_swapCots 242 v3 v4 q6).bind (fun q7 => (f_X3_passMinutes 242 a2 q7).bind (fun q8 => (f_X3_thoseWho 242 2 q8).bind (fun x9 => ap (f_J6_bitCount_0f7a4 x9) (fun x10 => (if x10 ≤ (gI q8 241 5) then f_X1_planChange_L94 (f_X1_planChange_L20 k7 n) k7 r1 a2 v3 v4 q8 else ap (sI q8 241 4 ((10 * v3) + v4)) (fun D12 => ap (sI D12 241 5 x10) (fun D13 => f_X1_planChange_L94 (f_X1_planChange_L20 k7 n) k7 r1 a2 v3 v4 D13)))))))))
def f_X1_planChange_L7  : Nat → Nat → Int32 → Int32 → wd_D → Option (wd_D)
  | 0, _, _, _, _ => none
  | n + 1, r1, a2, v3, D => (if (gI D r1 0) ≤ v3 then some D else ap (v3 + 1) (fun x3 => f_X1_planChange_L20 (f_X1_planChange_L7 n) FU r1 a2 v3 x3 D))
def f_X1_planChange (r1 : Nat) (a2 : Int32) (D : wd_D) : Option (wd_D) := ap (sI D 241 5 (-1)) (fun D1 => f_X1_planChange_L7 FU r1 a2 0 D1)
set_option maxHeartbeats 4000000 in
set_option maxRecDepth 100000 in
theorem x_X1_planChange (l : Launch) (X : wd_X) (r1 : Nat) (hr1 : RoomAt r1) (a2 : Int32) (D : wd_D) {qv : wd_D} (h : f_X1_planChange r1 a2 D = some qv) : wd_Met l X yX1_planChange cX1_planChange 6 (none : Option FieldType) ({ frames := 5, cells := 0, slots := 0, locals := 500 }) S0 S0 ([.ref (X.2.2.1 + 241), .ref (X.2.2.1 + r1), .int a2] : List Value) D qv none 0 0 := by
  refine wd_enter (by decide) (Nat.le_of_ble_eq_true rfl) ?_
  intro p e s m below meth c CF hret hlk hnm hW hE ls hl
  have CF : CallFix p m c cX1_planChange 6 s ([.ref (X.2.2.1 + 241), .ref (X.2.2.1 + r1), .int a2] : List Value).toArray tg RX1 := CF
  have hx := CF.1
  have hb := CF.2.1
  have hown := CF.2.2.2.1
  have hts := CF.2.2.2.2
  have hS : va_S (wd_A X) s.heap s.heap [] := va_S.rf
  have hl : lv_has ls 6 [(0, .ref (X.2.2.1 + 241)), (1, .ref (X.2.2.1 + r1)), (2, .int a2)] := hl
  unfold f_X1_planChange at h
  have hL7 : ∀ (n7 : Nat) (v3 : Int32) (D : wd_D) (H : Heap) (locs : List Loc) (ls : Array Slot), Wd X S0 D H → va_S (wd_A X) s.heap H locs → lv_has ls 6 [(0, .ref (X.2.2.1 + 241)), (1, .ref (X.2.2.1 + r1)), (2, .int a2), (3, .int v3)] → f_X1_planChange_L7 n7 r1 a2 v3 D = some qv → W p l e ({ frames := 5, cells := 0, slots := 0, locals := 500 }) s m ([.ref (X.2.2.1 + 241), .ref (X.2.2.1 + r1), .int a2] : List Value).toArray below meth c H locs 0 0 (MQ below (wd_Q X S0 qv none) ([.ref (X.2.2.1 + 241), .ref (X.2.2.1 + r1), .int a2] : List Value).toArray s 0 0 (wd_A X)) (F0 m 7 ls []) := by
    intro n7
    induction n7 with
    | zero => intro v3 D H locs ls hW hS hl h; cases h
    | succ n7 ih7 =>
      have hL20 : ∀ (n20 : Nat) (v3 : Int32) (v4 : Int32) (D : wd_D) (H : Heap) (locs : List Loc) (ls : Array Slot), Wd X S0 D H → va_S (wd_A X) s.heap H locs → lv_has ls 6 [(0, .ref (X.2.2.1 + 241)), (1, .ref (X.2.2.1 + r1)), (2, .int a2), (3, .int v3), (4, .int v4)] → f_X1_planChange_L20 (f_X1_planChange_L7 n7) n20 r1 a2 v3 v4 D = some qv → W p l e ({ frames := 5, cells := 0, slots := 0, locals := 500 }) s m ([.ref (X.2.2.1 + 241), .ref (X.2.2.1 + r1), .int a2] : List Value).toArray below meth c H locs 0 0 (MQ below (wd_Q X S0 qv none) ([.ref (X.2.2.1 + 241), .ref (X.2.2.1 + r1), .int a2] : List Value).toArray s 0 0 (wd_A X)) (F0 m 20 ls []) := by
        intro n20
        induction n20 with
        | zero => intro v3 v4 D H locs ls hW hS hl h; cases h
        | succ n20 ih20 =>
          have hL94 : ∀ (v3 : Int32) (v4 : Int32) (D : wd_D) (H : Heap) (locs : List Loc) (ls : Array Slot), Wd X S0 D H → va_S (wd_A X) s.heap H locs → lv_has ls 6 [(0, .ref (X.2.2.1 + 241)), (1, .ref (X.2.2.1 + r1)), (2, .int a2), (3, .int v3), (4, .int v4)] → f_X1_planChange_L94 (f_X1_planChange_L20 (f_X1_planChange_L7 n7) n20) (f_X1_planChange_L7 n7) r1 a2 v3 v4 D = some qv → W p l e ({ frames := 5, cells := 0, slots := 0, locals := 500 }) s m ([.ref (X.2.2.1 + 241), .ref (X.2.2.1 + r1), .int a2] : List Value).toArray below meth c H locs 0 0 (MQ below (wd_Q X S0 qv none) ([.ref (X.2.2.1 + 241), .ref (X.2.2.1 + r1), .int a2] : List Value).toArray s 0 0 (wd_A X)) (F0 m 94 ls []) := by
            intro v3 v4 D H locs ls hW hS hl h
            unfold f_X1_planChange_L94 at h
            obtain ⟨x14, ex14⟩ : ∃ y : Int32, y = v4 + 1 := ⟨_, rfl⟩
            replace h := apR ex14 h
            refine lv_iinc (v := x14) (lv' := [(4, .int x14), (0, .ref (X.2.2.1 + 241)), (1, .ref (X.2.2.1 + r1)), (2, .int a2), (3, .int v3)]) hx hb dX1_planChange_94 hl (k := 4) rfl (by rw [ex14]; rfl) (by decide) rfl (fun ls hl => ?_)
            refine lv_goto (tgt := 20) hx hb dX1_planChange_97 (by decide) ?_
            exact ih20 v3 x14 D _ _ _  hW hS (lv_sub hl [1, 2, 3, 4, 0] rfl) h
          intro v3 v4 D H locs ls hW hS hl h
          rw [f_X1_planChange_L20] at h
          refine lv_iload hx hb dX1_planChange_20 (lv_at hl 4 rfl) ?_
          refine lv_aload_n hx hb dX1_planChange_22 rfl (lv_at hl 1 rfl) ?_
          refine wd_get CF hE hW fl_X1_82 (rm_s hr1) (v := .int (gI D r1 0)) rfl dX1_planChange_23 ?_
          refine lv_icmp_ge (tgt := 100) hx hb dX1_planChange_26 (by decide) (fun c4 => ?_) (fun c4 => ?_)
          · rw [if_pos c4] at h
            obtain ⟨x5, ex5⟩ : ∃ y : Int32, y = v3 + 1 := ⟨_, rfl⟩
            replace h := apR ex5 h
            refine lv_iinc (v := x5) (lv' := [(3, .int x5), (0, .ref (X.2.2.1 + 241)), (1, .ref (X.2.2.1 + r1)), (2, .int a2), (4, .int v4)]) hx hb dX1_planChange_100 hl (k := 3) rfl (by rw [ex5]; rfl) (by decide) rfl (fun ls hl => ?_)
            refine lv_goto (tgt := 7) hx hb dX1_planChange_103 (by decide) ?_
            exact ih7 x5 D _ _ _  hW hS (lv_sub hl [1, 2, 3, 0] rfl) h
          · rw [if_neg c4] at h
            refine lv_aload_n hx hb dX1_planChange_29 rfl (lv_at hl 0 rfl) ?_
            refine wd_getR CF hE hW fl_X1_12 sh_241 rf_241_0 rfl dX1_planChange_30 ?_
            refine lv_aload_n hx hb dX1_planChange_33 rfl (lv_at hl 1 rfl) ?_
            obtain ⟨q6, eq6, h⟩ := bdE h
            refine wd_callVv (ci := 3) (k := 242) CF hE hW hS (x_X3_become l X 242 room_242 r1 hr1 D eq6) mi_X3_become vi_X3_become tw517 ⟨by decide, rfl⟩ (rm_s room_242) ⟨rfl, rfl, Nat.le_of_ble_eq_true rfl, Nat.le_of_ble_eq_true rfl⟩ rfl hl.1 rfl (Nat.le_of_ble_eq_true rfl) dX1_planChange_34 ⟨Nat.le_of_ble_eq_true rfl, Nat.le_of_ble_eq_true rfl⟩ (fun H locs hW hS => ?_)
            refine lv_aload_n hx hb dX1_planChange_37 rfl (lv_at hl 0 rfl) ?_
            refine wd_getR CF hE hW fl_X1_12 sh_241 rf_241_0 rfl dX1_planChange_38 ?_
            refine lv_iload_n hx hb dX1_planChange_41 rfl (lv_at hl 3 rfl) ?_
            refine lv_iload hx hb dX1_planChange_42 (lv_at hl 4 rfl) ?_
            obtain ⟨q7, eq7, h⟩ := bdE h
            refine wd_callVv (ci := 3) (k := 242) CF hE hW hS (x_X3_swapCots l X 242 room_242 v3 v4 q6 eq7) mi_X3_swapCots vi_X3_swapCots tw590 ⟨by decide, rfl⟩ (rm_s room_242) ⟨rfl, rfl, Nat.le_of_ble_eq_true rfl, Nat.le_of_ble_eq_true rfl⟩ rfl hl.1 rfl (Nat.le_of_ble_eq_true rfl) dX1_planChange_44 ⟨Nat.le_of_ble_eq_true rfl, Nat.le_of_ble_eq_true rfl⟩ (fun H locs hW hS => ?_)
            refine lv_aload_n hx hb dX1_planChange_47 rfl (lv_at hl 0 rfl) ?_
            refine wd_getR CF hE hW fl_X1_12 sh_241 rf_241_0 rfl dX1_planChange_48 ?_
            refine lv_iload_n hx hb dX1_planChange_51 rfl (lv_at hl 2 rfl) ?_
            obtain ⟨q8, eq8, h⟩ := bdE h
            refine wd_callVv (ci := 3) (k := 242) CF hE hW hS (x_X3_passMinutes l X 242 room_242 a2 q7 eq8) mi_X3_passMinutes vi_X3_passMinutes tw518 ⟨by decide, rfl⟩ (rm_s room_242) ⟨rfl, rfl, Nat.le_of_ble_eq_true rfl, Nat.le_of_ble_eq_true rfl⟩ rfl hl.1 rfl (Nat.le_of_ble_eq_true rfl) dX1_planChange_52 ⟨Nat.le_of_ble_eq_true rfl, Nat.le_of_ble_eq_true rfl⟩ (fun H locs hW hS => ?_)
            refine lv_aload_n hx hb dX1_planChange_55 rfl (lv_at hl 0 rfl) ?_
            refine wd_getR CF hE hW fl_X1_12 sh_241 rf_241_0 rfl dX1_planChange_56 ?_
            refine lv_iconst (v := 2) hx hb dX1_planChange_59 (by decide) ?_
            obtain ⟨x9, ex9, h⟩ := bdE h
            refine wd_callVr (ci := 3) (k := 242) CF hE hW hS (x_X3_thoseWho l X 242 room_242 2 q8 ex9) mi_X3_thoseWho vi_X3_thoseWho tw568 ⟨by decide, rfl⟩ (rm_s room_242) ⟨rfl, rfl, Nat.le_of_ble_eq_true rfl, Nat.le_of_ble_eq_true rfl⟩ rfl hl.1 rfl (Nat.le_of_ble_eq_true rfl) dX1_planChange_60 ⟨Nat.le_of_ble_eq_true rfl, Nat.le_of_ble_eq_true rfl⟩ (fun H locs hW hS => ?_)
            refine wd_callSr CF hE hW hS (x_J6_bitCount_0f7a4 l X x9 q8) mi_J6_bitCount_0f7a4 vi_J6_bitCount_0f7a4 tw567 ⟨rfl, rfl, Nat.le_of_ble_eq_true rfl, Nat.le_of_ble_eq_true rfl⟩ rfl hl.1 rfl (Nat.le_of_ble_eq_true rfl) dX1_planChange_63 ⟨Nat.le_of_ble_eq_true rfl, Nat.le_of_ble_eq_true rfl⟩ (fun H locs hW hS => ?_)
            refine lv_topi (fun x10 ex10 => ?_)
            replace h := apR ex10 h
            refine lv_istore (lv' := [(5, .int x10), (0, .ref (X.2.2.1 + 241)), (1, .ref (X.2.2.1 + r1)), (2, .int a2), (3, .int v3), (4, .int v4)]) hx hb dX1_planChange_66 hl (by decide) rfl (fun ls hl => ?_)
            refine lv_iload hx hb dX1_planChange_68 (lv_at hl 0 rfl) ?_
            refine lv_aload_n hx hb dX1_planChange_70 rfl (lv_at hl 1 rfl) ?_
            refine wd_get CF hE hW fl_X1_57 sh_241 (v := .int (gI q8 241 5)) rfl dX1_planChange_71 ?_
            refine lv_icmp_le (tgt := 94) hx hb dX1_planChange_74 (by decide) (fun c11 => ?_) (fun c11 => ?_)
            · rw [if_pos c11] at h
              exact hL94 v3 v4 q8 _ _ _  hW hS (lv_sub hl [1, 2, 3, 4, 5] rfl) h
            · rw [if_neg c11] at h
              refine lv_aload_n hx hb dX1_planChange_77 rfl (lv_at hl 1 rfl) ?_
              refine lv_bipush (v := 10) hx hb dX1_planChange_78 (by decide) ?_
              refine lv_iload_n hx hb dX1_planChange_80 rfl (lv_at hl 4 rfl) ?_
              refine lv_imul hx hb dX1_planChange_81 ?_
              refine lv_iload hx hb dX1_planChange_82 (lv_at hl 5 rfl) ?_
              refine lv_iadd hx hb dX1_planChange_84 ?_
              refine wd_putI CF hE hW hS fl_X1_79 sh_241 rfl rfl dX1_planChange_85 (fun D12 H locs eD12 hW hS => ?_)
              replace h := apR eD12 h
              refine lv_aload_n hx hb dX1_planChange_88 rfl (lv_at hl 1 rfl) ?_
              refine lv_iload hx hb dX1_planChange_89 (lv_at hl 0 rfl) ?_
              refine wd_putI CF hE hW hS fl_X1_57 sh_241 rfl rfl dX1_planChange_91 (fun D13 H locs eD13 hW hS => ?_)
              replace h := apR eD13 h
              exact hL94 v3 v4 D13 _ _ _  hW hS (lv_sub hl [1, 2, 3, 4, 5] rfl) h
      intro v3 D H locs ls hW hS hl h
      rw [f_X1_planChange_L7] at h
      refine lv_iload_n hx hb dX1_planChange_7 rfl (lv_at hl 3 rfl) ?_
      refine lv_aload_n hx hb dX1_planChange_8 rfl (lv_at hl 1 rfl) ?_
      refine wd_get CF hE hW fl_X1_82 (rm_s hr1) (v := .int (gI D r1 0)) rfl dX1_planChange_9 ?_
      refine lv_icmp_ge (tgt := 106) hx hb dX1_planChange_12 (by decide) (fun c2 => ?_) (fun c2 => ?_)
      · rw [if_pos c2] at h
        have h := Option.some.inj h
        subst h
        exact wd_vret CF hret hlk hW hS dX1_planChange_106
      · rw [if_neg c2] at h
        refine lv_iload_n hx hb dX1_planChange_15 rfl (lv_at hl 3 rfl) ?_
        refine lv_iconst (v := 1) hx hb dX1_planChange_16 (by decide) ?_
        refine lv_iadd hx hb dX1_planChange_17 ?_
        refine lv_topi (fun x3 ex3 => ?_)
        replace h := apR ex3 h
        refine lv_istore (lv' := [(4, .int x3), (0, .ref (X.2.2.1 + 241)), (1, .ref (X.2.2.1 + r1)), (2, .int a2), (3, .int v3)]) hx hb dX1_planChange_18 hl (by decide) rfl (fun ls hl => ?_)
        exact hL20 FU v3 x3 D _ _ _  hW hS (lv_sub hl [1, 2, 3, 4, 0] rfl) h
  refine lv_aload_n hx hb dX1_planChange_0 rfl (lv_at hl 0 rfl) ?_
  refine lv_iconst (v := (-1)) hx hb dX1_planChange_1 (by decide) ?_
  refine wd_putI CF hE hW hS fl_X1_57 sh_241 rfl rfl dX1_planChange_2 (fun D1 H locs eD1 hW hS => ?_)
  replace h := apR eD1 h
  refine lv_iconst (v := 0) hx hb dX1_planChange_5 (by decide) ?_
  refine lv_istore_n (lv' := [(3, .int 0), (0, .ref (X.2.2.1 + 241)), (1, .ref (X.2.2.1 + r1)), (2, .int a2)]) hx hb dX1_planChange_6 rfl hl (by decide) rfl (fun ls hl => ?_)
  exact hL7 FU 0 D1 _ _ _  hW hS (lv_sub hl [1, 2, 3, 0] rfl) h
def f_X1_wokenBy (r1 : Nat) (a2 : Int32) (D : wd_D) : Option (Int32 × wd_D) := (f_X1_after r1 1 D).bind (fun q1 => (f_X3_thoseWho 242 2 q1).bind (fun x2 => (f_X3_become 242 r1 q1).bind (fun q3 => (f_X3_cry 242 a2 q3).bind (fun q4 => (f_X3_passMinute 242 q4).bind (fun q5 => (f_X3_thoseWho 242 2 q5.2).bind (fun x6 => some ((x2 &&& (x6 ^^^ (-1))) &&& (((1 : Int32) <<< (a2 &&& 31)) ^^^ (-1)), q5.2)))))))
set_option maxHeartbeats 4000000 in
set_option maxRecDepth 100000 in
theorem x_X1_wokenBy (l : Launch) (X : wd_X) (r1 : Nat) (hr1 : RoomAt r1) (a2 : Int32) (D : wd_D) {qv : Int32 × wd_D} (h : f_X1_wokenBy r1 a2 D = some qv) : wd_Met l X yX1_wokenBy cX1_wokenBy 4 (some FieldType.int) ({ frames := 6, cells := 0, slots := 0, locals := 600 }) S0 S0 ([.ref (X.2.2.1 + 241), .ref (X.2.2.1 + r1), .int a2] : List Value) D qv.2 (some (.int qv.1)) 0 0 := by
  refine wd_enter (by decide) (Nat.le_of_ble_eq_true rfl) ?_
  intro p e s m below meth c CF hret hlk hnm hW hE ls hl
  have CF : CallFix p m c cX1_wokenBy 4 s ([.ref (X.2.2.1 + 241), .ref (X.2.2.1 + r1), .int a2] : List Value).toArray tg RX1 := CF
  have hx := CF.1
  have hb := CF.2.1
  have hown := CF.2.2.2.1
  have hts := CF.2.2.2.2
  have hS : va_S (wd_A X) s.heap s.heap [] := va_S.rf
  have hl : lv_has ls 4 [(0, .ref (X.2.2.1 + 241)), (1, .ref (X.2.2.1 + r1)), (2, .int a2)] := hl
  unfold f_X1_wokenBy at h
  refine lv_aload_n hx hb dX1_wokenBy_0 rfl (lv_at hl 0 rfl) ?_
  refine lv_aload_n hx hb dX1_wokenBy_1 rfl (lv_at hl 1 rfl) ?_
  refine lv_iconst (v := 1) hx hb dX1_wokenBy_2 (by decide) ?_
  obtain ⟨q1, eq1, h⟩ := bdE h
  refine wd_callVr (ci := 1) (k := 241) CF hE hW hS (x_X1_after l X r1 hr1 1 D eq1) mi_X1_after vi_X1_after tw608 ⟨by decide, rfl⟩ sh_241 ⟨rfl, rfl, Nat.le_of_ble_eq_true rfl, Nat.le_of_ble_eq_true rfl⟩ rfl hl.1 rfl (Nat.le_of_ble_eq_true rfl) dX1_wokenBy_3 ⟨Nat.le_of_ble_eq_true rfl, Nat.le_of_ble_eq_true rfl⟩ (fun H locs hW hS => ?_)
  refine lv_iconst (v := 2) hx hb dX1_wokenBy_6 (by decide) ?_
  obtain ⟨x2, ex2, h⟩ := bdE h
  refine wd_callVr (ci := 3) (k := 242) CF hE hW hS (x_X3_thoseWho l X 242 room_242 2 q1 ex2) mi_X3_thoseWho vi_X3_thoseWho tw568 ⟨by decide, rfl⟩ (rm_s room_242) ⟨rfl, rfl, Nat.le_of_ble_eq_true rfl, Nat.le_of_ble_eq_true rfl⟩ rfl hl.1 rfl (Nat.le_of_ble_eq_true rfl) dX1_wokenBy_7 ⟨Nat.le_of_ble_eq_true rfl, Nat.le_of_ble_eq_true rfl⟩ (fun H locs hW hS => ?_)
  refine lv_istore_n (lv' := [(3, .int x2), (0, .ref (X.2.2.1 + 241)), (1, .ref (X.2.2.1 + r1)), (2, .int a2)]) hx hb dX1_wokenBy_10 rfl hl (by decide) rfl (fun ls hl => ?_)
  refine lv_aload_n hx hb dX1_wokenBy_11 rfl (lv_at hl 1 rfl) ?_
  refine wd_getR CF hE hW fl_X1_12 sh_241 rf_241_0 rfl dX1_wokenBy_12 ?_
  refine lv_aload_n hx hb dX1_wokenBy_15 rfl (lv_at hl 2 rfl) ?_
  obtain ⟨q3, eq3, h⟩ := bdE h
  refine wd_callVv (ci := 3) (k := 242) CF hE hW hS (x_X3_become l X 242 room_242 r1 hr1 q1 eq3) mi_X3_become vi_X3_become tw517 ⟨by decide, rfl⟩ (rm_s room_242) ⟨rfl, rfl, Nat.le_of_ble_eq_true rfl, Nat.le_of_ble_eq_true rfl⟩ rfl hl.1 rfl (Nat.le_of_ble_eq_true rfl) dX1_wokenBy_16 ⟨Nat.le_of_ble_eq_true rfl, Nat.le_of_ble_eq_true rfl⟩ (fun H locs hW hS => ?_)
  refine lv_aload_n hx hb dX1_wokenBy_19 rfl (lv_at hl 1 rfl) ?_
  refine wd_getR CF hE hW fl_X1_12 sh_241 rf_241_0 rfl dX1_wokenBy_20 ?_
  refine lv_iload_n hx hb dX1_wokenBy_23 rfl (lv_at hl 3 rfl) ?_
  obtain ⟨q4, eq4, h⟩ := bdE h
  refine wd_callVv (ci := 3) (k := 242) CF hE hW hS (x_X3_cry l X 242 room_242 a2 q3 eq4) mi_X3_cry vi_X3_cry tw609 ⟨by decide, rfl⟩ (rm_s room_242) ⟨rfl, rfl, Nat.le_of_ble_eq_true rfl, Nat.le_of_ble_eq_true rfl⟩ rfl hl.1 rfl (Nat.le_of_ble_eq_true rfl) dX1_wokenBy_24 ⟨Nat.le_of_ble_eq_true rfl, Nat.le_of_ble_eq_true rfl⟩ (fun H locs hW hS => ?_)
  refine lv_aload_n hx hb dX1_wokenBy_27 rfl (lv_at hl 1 rfl) ?_
  refine wd_getR CF hE hW fl_X1_12 sh_241 rf_241_0 rfl dX1_wokenBy_28 ?_
  obtain ⟨q5, eq5, h⟩ := bdE h
  refine wd_callVr (ci := 3) (k := 242) CF hE hW hS (x_X3_passMinute l X 242 room_242 q4 eq5) mi_X3_passMinute vi_X3_passMinute tw539 ⟨by decide, rfl⟩ (rm_s room_242) ⟨rfl, rfl, Nat.le_of_ble_eq_true rfl, Nat.le_of_ble_eq_true rfl⟩ rfl hl.1 rfl (Nat.le_of_ble_eq_true rfl) dX1_wokenBy_31 ⟨Nat.le_of_ble_eq_true rfl, Nat.le_of_ble_eq_true rfl⟩ (fun H locs hW hS => ?_)
  refine lv_pop hx hb dX1_wokenBy_34 rfl ?_
  refine lv_iload_n hx hb dX1_wokenBy_35 rfl (lv_at hl 0 rfl) ?_
  refine lv_aload_n hx hb dX1_wokenBy_36 rfl (lv_at hl 1 rfl) ?_
  refine wd_getR CF hE hW fl_X1_12 sh_241 rf_241_0 rfl dX1_wokenBy_37 ?_
  refine lv_iconst (v := 2) hx hb dX1_wokenBy_40 (by decide) ?_
  obtain ⟨x6, ex6, h⟩ := bdE h
  refine wd_callVr (ci := 3) (k := 242) CF hE hW hS (x_X3_thoseWho l X 242 room_242 2 q5.2 ex6) mi_X3_thoseWho vi_X3_thoseWho tw568 ⟨by decide, rfl⟩ (rm_s room_242) ⟨rfl, rfl, Nat.le_of_ble_eq_true rfl, Nat.le_of_ble_eq_true rfl⟩ rfl hl.1 rfl (Nat.le_of_ble_eq_true rfl) dX1_wokenBy_41 ⟨Nat.le_of_ble_eq_true rfl, Nat.le_of_ble_eq_true rfl⟩ (fun H locs hW hS => ?_)
  refine lv_iconst (v := (-1)) hx hb dX1_wokenBy_44 (by decide) ?_
  refine lv_ixor hx hb dX1_wokenBy_45 ?_
  refine lv_iand hx hb dX1_wokenBy_46 ?_
  refine lv_iconst (v := 1) hx hb dX1_wokenBy_47 (by decide) ?_
  refine lv_iload_n hx hb dX1_wokenBy_48 rfl (lv_at hl 3 rfl) ?_
  refine lv_ishl hx hb dX1_wokenBy_49 ?_
  refine lv_iconst (v := (-1)) hx hb dX1_wokenBy_50 (by decide) ?_
  refine lv_ixor hx hb dX1_wokenBy_51 ?_
  refine lv_iand hx hb dX1_wokenBy_52 ?_
  have h := Option.some.inj h
  subst h
  exact wd_iret CF hret hlk hW hS dX1_wokenBy_53
def f_X1_tell (r1 : Nat) (a2 : Int32) (a3 : Int32) (D : wd_D) : Option (wd_D) := ap (sI D 241 3 0) (fun D1 => (if (f_X4_lacks r1 a2 a3 D1) = 0 then (if a3 ≤ 12 then (cp 40 12 D1 (r1 + 1) a2 252 0 a3).bind (fun D4 => ap (sI D4 241 3 a3) (fun D5 => some D5)) else some D1) else some D1))
set_option maxHeartbeats 4000000 in
set_option maxRecDepth 100000 in
theorem x_X1_tell (l : Launch) (X : wd_X) (r1 : Nat) (hr1 : RowAt r1) (a2 : Int32) (a3 : Int32) (D : wd_D) {qv : wd_D} (h : f_X1_tell r1 a2 a3 D = some qv) : wd_Met l X yX1_tell cX1_tell 4 (none : Option FieldType) ({ frames := 1, cells := 0, slots := 0, locals := 100 }) S0 S0 ([.ref (X.2.2.1 + 241), .ref (X.2.2.1 + r1), .int a2, .int a3] : List Value) D qv none 0 0 := by
  refine wd_enter (by decide) (Nat.le_of_ble_eq_true rfl) ?_
  intro p e s m below meth c CF hret hlk hnm hW hE ls hl
  have CF : CallFix p m c cX1_tell 4 s ([.ref (X.2.2.1 + 241), .ref (X.2.2.1 + r1), .int a2, .int a3] : List Value).toArray tg RX1 := CF
  have hx := CF.1
  have hb := CF.2.1
  have hown := CF.2.2.2.1
  have hts := CF.2.2.2.2
  have hS : va_S (wd_A X) s.heap s.heap [] := va_S.rf
  have hl : lv_has ls 4 [(0, .ref (X.2.2.1 + 241)), (1, .ref (X.2.2.1 + r1)), (2, .int a2), (3, .int a3)] := hl
  unfold f_X1_tell at h
  refine lv_aload_n hx hb dX1_tell_0 rfl (lv_at hl 0 rfl) ?_
  refine lv_iconst (v := 0) hx hb dX1_tell_1 (by decide) ?_
  refine wd_putI CF hE hW hS fl_X1_95 sh_241 rfl rfl dX1_tell_2 (fun D1 H locs eD1 hW hS => ?_)
  replace h := apR eD1 h
  refine lv_aload_n hx hb dX1_tell_5 rfl (lv_at hl 1 rfl) ?_
  refine lv_iload_n hx hb dX1_tell_6 rfl (lv_at hl 2 rfl) ?_
  refine lv_iload_n hx hb dX1_tell_7 rfl (lv_at hl 3 rfl) ?_
  refine wd_callVr (ci := 4) (k := r1) CF hE hW hS (x_X4_lacks l X r1 hr1 a2 a3 D1) mi_X4_lacks vi_X4_lacks tw626 ⟨by decide, rfl⟩ (rw_s hr1) ⟨rfl, rfl, Nat.le_of_ble_eq_true rfl, Nat.le_of_ble_eq_true rfl⟩ rfl hl.1 rfl (Nat.le_of_ble_eq_true rfl) dX1_tell_8 ⟨Nat.le_of_ble_eq_true rfl, Nat.le_of_ble_eq_true rfl⟩ (fun H locs hW hS => ?_)
  refine lv_if_ne (tgt := 20) hx hb dX1_tell_11 (by decide) (fun c2 => ?_) (fun c2 => ?_)
  · rw [if_neg c2] at h
    have h := Option.some.inj h
    subst h
    exact wd_vret CF hret hlk hW hS dX1_tell_20
  · rw [if_pos c2] at h
    refine lv_iload_n hx hb dX1_tell_14 rfl (lv_at hl 3 rfl) ?_
    refine lv_bipush (v := 12) hx hb dX1_tell_15 (by decide) ?_
    refine lv_icmp_le (tgt := 21) hx hb dX1_tell_17 (by decide) (fun c3 => ?_) (fun c3 => ?_)
    · rw [if_pos c3] at h
      refine lv_aload_n hx hb dX1_tell_21 rfl (lv_at hl 1 rfl) ?_
      refine wd_getR CF hE hW fl_X1_104 (rw_s hr1) (rw_r0 hr1) rfl dX1_tell_22 ?_
      refine lv_iload_n hx hb dX1_tell_25 rfl (lv_at hl 2 rfl) ?_
      refine lv_aload_n hx hb dX1_tell_26 rfl (lv_at hl 0 rfl) ?_
      refine wd_getR CF hE hW fl_X1_22 sh_241 rf_241_2 rfl dX1_tell_27 ?_
      refine lv_iconst (v := 0) hx hb dX1_tell_30 (by decide) ?_
      refine lv_iload_n hx hb dX1_tell_31 rfl (lv_at hl 3 rfl) ?_
      obtain ⟨D4, eD4, h⟩ := bdE h
      refine wd_copy CF hE hW hS hl.1 (rw_a0 hr1) sh_252 eD4 tw627 tw305 tw304 tw9 (Nat.le_of_ble_eq_true rfl) (by decide) dX1_tell_32 (fun H locs hW hS => ?_)
      refine lv_aload_n hx hb dX1_tell_35 rfl (lv_at hl 0 rfl) ?_
      refine lv_iload_n hx hb dX1_tell_36 rfl (lv_at hl 3 rfl) ?_
      refine wd_putI CF hE hW hS fl_X1_95 sh_241 rfl rfl dX1_tell_37 (fun D5 H locs eD5 hW hS => ?_)
      replace h := apR eD5 h
      have h := Option.some.inj h
      subst h
      exact wd_vret CF hret hlk hW hS dX1_tell_40
    · rw [if_neg c3] at h
      have h := Option.some.inj h
      subst h
      exact wd_vret CF hret hlk hW hS dX1_tell_20
def f_X1_goesAsTold_L2  : Nat → Int32 → wd_D → Option (Int32 × wd_D)
  | 0, _, _ => none
  | n + 1, v1, D => (if (gI D 241 3) ≤ v1 then some (1, D) else (f_X3_passMinute 242 D).bind (fun q2 => (f_X3_thoseWho 242 2 q2.2).bind (fun x3 => (rd 12 q2.2 252 v1).bind (fun x4 => (if x3 = x4 then ap (v1 + 1) (fun x6 => (f_X1_goesAsTold_L2 n) x6 q2.2) else some (0, q2.2))))))
def f_X1_goesAsTold  (D : wd_D) : Option (Int32 × wd_D) := f_X1_goesAsTold_L2 FU 0 D
set_option maxHeartbeats 4000000 in
set_option maxRecDepth 100000 in
theorem x_X1_goesAsTold (l : Launch) (X : wd_X)  (D : wd_D) {qv : Int32 × wd_D} (h : f_X1_goesAsTold  D = some qv) : wd_Met l X yX1_goesAsTold cX1_goesAsTold 2 (some FieldType.boolean) ({ frames := 4, cells := 0, slots := 0, locals := 400 }) S0 S0 ([.ref (X.2.2.1 + 241)] : List Value) D qv.2 (some (.int qv.1)) 0 0 := by
  refine wd_enter (by decide) (Nat.le_of_ble_eq_true rfl) ?_
  intro p e s m below meth c CF hret hlk hnm hW hE ls hl
  have CF : CallFix p m c cX1_goesAsTold 2 s ([.ref (X.2.2.1 + 241)] : List Value).toArray tg RX1 := CF
  have hx := CF.1
  have hb := CF.2.1
  have hown := CF.2.2.2.1
  have hts := CF.2.2.2.2
  have hS : va_S (wd_A X) s.heap s.heap [] := va_S.rf
  have hl : lv_has ls 2 [(0, .ref (X.2.2.1 + 241))] := hl
  unfold f_X1_goesAsTold at h
  have hL2 : ∀ (n2 : Nat) (v1 : Int32) (D : wd_D) (H : Heap) (locs : List Loc) (ls : Array Slot), Wd X S0 D H → va_S (wd_A X) s.heap H locs → lv_has ls 2 [(0, .ref (X.2.2.1 + 241)), (1, .int v1)] → f_X1_goesAsTold_L2 n2 v1 D = some qv → W p l e ({ frames := 4, cells := 0, slots := 0, locals := 400 }) s m ([.ref (X.2.2.1 + 241)] : List Value).toArray below meth c H locs 0 0 (MQ below (wd_Q X S0 qv.2 (some (.int qv.1))) ([.ref (X.2.2.1 + 241)] : List Value).toArray s 0 0 (wd_A X)) (F0 m 2 ls []) := by
    intro n2
    induction n2 with
    | zero => intro v1 D H locs ls hW hS hl h; cases h
    | succ n2 ih2 =>
      intro v1 D H locs ls hW hS hl h
      rw [f_X1_goesAsTold_L2] at h
      refine lv_iload_n hx hb dX1_goesAsTold_2 rfl (lv_at hl 1 rfl) ?_
      refine lv_aload_n hx hb dX1_goesAsTold_3 rfl (lv_at hl 0 rfl) ?_
      refine wd_get CF hE hW fl_X1_95 sh_241 (v := .int (gI D 241 3)) rfl dX1_goesAsTold_4 ?_
      refine lv_icmp_ge (tgt := 43) hx hb dX1_goesAsTold_7 (by decide) (fun c1 => ?_) (fun c1 => ?_)
      · rw [if_pos c1] at h
        refine lv_iconst (v := 1) hx hb dX1_goesAsTold_43 (by decide) ?_
        have h := Option.some.inj h
        subst h
        exact wd_zret CF hret hlk hW hS (Or.inr rfl) dX1_goesAsTold_44
      · rw [if_neg c1] at h
        refine lv_aload_n hx hb dX1_goesAsTold_10 rfl (lv_at hl 0 rfl) ?_
        refine wd_getR CF hE hW fl_X1_12 sh_241 rf_241_0 rfl dX1_goesAsTold_11 ?_
        obtain ⟨q2, eq2, h⟩ := bdE h
        refine wd_callVr (ci := 3) (k := 242) CF hE hW hS (x_X3_passMinute l X 242 room_242 D eq2) mi_X3_passMinute vi_X3_passMinute tw539 ⟨by decide, rfl⟩ (rm_s room_242) ⟨rfl, rfl, Nat.le_of_ble_eq_true rfl, Nat.le_of_ble_eq_true rfl⟩ rfl hl.1 rfl (Nat.le_of_ble_eq_true rfl) dX1_goesAsTold_14 ⟨Nat.le_of_ble_eq_true rfl, Nat.le_of_ble_eq_true rfl⟩ (fun H locs hW hS => ?_)
        refine lv_pop hx hb dX1_goesAsTold_17 rfl ?_
        refine lv_aload_n hx hb dX1_goesAsTold_18 rfl (lv_at hl 0 rfl) ?_
        refine wd_getR CF hE hW fl_X1_12 sh_241 rf_241_0 rfl dX1_goesAsTold_19 ?_
        refine lv_iconst (v := 2) hx hb dX1_goesAsTold_22 (by decide) ?_
        obtain ⟨x3, ex3, h⟩ := bdE h
        refine wd_callVr (ci := 3) (k := 242) CF hE hW hS (x_X3_thoseWho l X 242 room_242 2 q2.2 ex3) mi_X3_thoseWho vi_X3_thoseWho tw568 ⟨by decide, rfl⟩ (rm_s room_242) ⟨rfl, rfl, Nat.le_of_ble_eq_true rfl, Nat.le_of_ble_eq_true rfl⟩ rfl hl.1 rfl (Nat.le_of_ble_eq_true rfl) dX1_goesAsTold_23 ⟨Nat.le_of_ble_eq_true rfl, Nat.le_of_ble_eq_true rfl⟩ (fun H locs hW hS => ?_)
        refine lv_aload_n hx hb dX1_goesAsTold_26 rfl (lv_at hl 0 rfl) ?_
        refine wd_getR CF hE hW fl_X1_22 sh_241 rf_241_2 rfl dX1_goesAsTold_27 ?_
        refine lv_iload_n hx hb dX1_goesAsTold_30 rfl (lv_at hl 1 rfl) ?_
        obtain ⟨x4, ex4, h⟩ := bdE h
        refine wd_iald CF hE hW sh_252 ex4 dX1_goesAsTold_31 ?_
        refine lv_icmp_eq (tgt := 37) hx hb dX1_goesAsTold_32 (by decide) (fun c5 => ?_) (fun c5 => ?_)
        · rw [if_pos c5] at h
          obtain ⟨x6, ex6⟩ : ∃ y : Int32, y = v1 + 1 := ⟨_, rfl⟩
          replace h := apR ex6 h
          refine lv_iinc (v := x6) (lv' := [(1, .int x6), (0, .ref (X.2.2.1 + 241))]) hx hb dX1_goesAsTold_37 hl (k := 1) rfl (by rw [ex6]; rfl) (by decide) rfl (fun ls hl => ?_)
          refine lv_goto (tgt := 2) hx hb dX1_goesAsTold_40 (by decide) ?_
          exact ih2 x6 q2.2 _ _ _  hW hS (lv_sub hl [1, 0] rfl) h
        · rw [if_neg c5] at h
          refine lv_iconst (v := 0) hx hb dX1_goesAsTold_35 (by decide) ?_
          have h := Option.some.inj h
          subst h
          exact wd_zret CF hret hlk hW hS (Or.inl rfl) dX1_goesAsTold_36
  refine lv_iconst (v := 0) hx hb dX1_goesAsTold_0 (by decide) ?_
  refine lv_istore_n (lv' := [(1, .int 0), (0, .ref (X.2.2.1 + 241))]) hx hb dX1_goesAsTold_1 rfl hl (by decide) rfl (fun ls hl => ?_)
  exact hL2 FU 0 D _ _ _  hW hS (lv_sub hl [1, 0] rfl) h
def f_X1_traitsOf (r0 : Nat) (a1 : Int32) : Nat := (if a1 = 0 then (r0 + 1) else (if a1 = 1 then (r0 + 2) else (if a1 = 2 then (r0 + 3) else (r0 + 4))))
theorem ar_X1_traitsOf (r0 : Nat) (hr0 : RoomAt r0) (a1 : Int32) : S0.1[f_X1_traitsOf r0 a1]? = some (.inr (0, 7)) := by
  unfold f_X1_traitsOf
  (repeat' split) <;> first | exact rm_a0 hr0 | exact rm_a1 hr0 | exact rm_a2 hr0 | exact rm_a3 hr0
set_option maxHeartbeats 4000000 in
set_option maxRecDepth 100000 in
theorem x_X1_traitsOf (l : Launch) (X : wd_X) (r0 : Nat) (hr0 : RoomAt r0) (a1 : Int32) (D : wd_D) : wd_Met l X yX1_traitsOf cX1_traitsOf 2 (Option.some (FieldType.array FieldType.int)) ({ frames := 0, cells := 0, slots := 0, locals := 0 }) S0 S0 ([.ref (X.2.2.1 + r0), .int a1] : List Value) D D (some (.ref (X.2.2.1 + (f_X1_traitsOf r0 a1)))) 0 0 := by
  obtain ⟨rv, h⟩ : ∃ rv, f_X1_traitsOf r0 a1 = rv := ⟨_, rfl⟩
  rw [h]
  refine wd_enter (by decide) (Nat.le_of_ble_eq_true rfl) ?_
  intro p e s m below meth c CF hret hlk hnm hW hE ls hl
  have CF : CallFix p m c cX1_traitsOf 2 s ([.ref (X.2.2.1 + r0), .int a1] : List Value).toArray tg RX1 := CF
  have hx := CF.1
  have hb := CF.2.1
  have hown := CF.2.2.2.1
  have hts := CF.2.2.2.2
  have hS : va_S (wd_A X) s.heap s.heap [] := va_S.rf
  have hl : lv_has ls 2 [(0, .ref (X.2.2.1 + r0)), (1, .int a1)] := hl
  unfold f_X1_traitsOf at h
  refine lv_iload_n hx hb dX1_traitsOf_0 rfl (lv_at hl 1 rfl) ?_
  by_cases c1 : a1 = 0
  · rw [if_pos c1] at h
    refine lv_tableIn (tgt := 28) (off := 27) hx hb dX1_traitsOf_1 (by rw [c1]; decide) (by rw [c1]; decide) (by rw [c1]; rfl) (by decide) ?_
    refine lv_aload_n hx hb dX1_traitsOf_28 rfl (lv_at hl 0 rfl) ?_
    refine wd_getR CF hE hW fl_X1_120 (rm_s hr0) (rm_r0 hr0) rfl dX1_traitsOf_29 ?_
    subst h
    exact wd_aret CF hret (by first | exact Or.inl ⟨_, rfl⟩ | exact Or.inr ⟨_, rfl⟩) hlk hW hS dX1_traitsOf_32
  · rw [if_neg c1] at h
    by_cases c2 : a1 = 1
    · rw [if_pos c2] at h
      refine lv_tableIn (tgt := 33) (off := 32) hx hb dX1_traitsOf_1 (by rw [c2]; decide) (by rw [c2]; decide) (by rw [c2]; rfl) (by decide) ?_
      refine lv_aload_n hx hb dX1_traitsOf_33 rfl (lv_at hl 0 rfl) ?_
      refine wd_getR CF hE hW fl_X1_123 (rm_s hr0) (rm_r1 hr0) rfl dX1_traitsOf_34 ?_
      subst h
      exact wd_aret CF hret (by first | exact Or.inl ⟨_, rfl⟩ | exact Or.inr ⟨_, rfl⟩) hlk hW hS dX1_traitsOf_37
    · rw [if_neg c2] at h
      by_cases c3 : a1 = 2
      · rw [if_pos c3] at h
        refine lv_tableIn (tgt := 38) (off := 37) hx hb dX1_traitsOf_1 (by rw [c3]; decide) (by rw [c3]; decide) (by rw [c3]; rfl) (by decide) ?_
        refine lv_aload_n hx hb dX1_traitsOf_38 rfl (lv_at hl 0 rfl) ?_
        refine wd_getR CF hE hW fl_X1_126 (rm_s hr0) (rm_r2 hr0) rfl dX1_traitsOf_39 ?_
        subst h
        exact wd_aret CF hret (by first | exact Or.inl ⟨_, rfl⟩ | exact Or.inr ⟨_, rfl⟩) hlk hW hS dX1_traitsOf_42
      · rw [if_neg c3] at h
        have ic1 := lv_neT (a := 0) c1 (by decide)
        have ic2 := lv_neT (a := 1) c2 (by decide)
        have ic3 := lv_neT (a := 2) c3 (by decide)
        refine lv_tableOut (tgt := 43) hx hb dX1_traitsOf_1 (by omega) (by decide) ?_
        refine lv_aload_n hx hb dX1_traitsOf_43 rfl (lv_at hl 0 rfl) ?_
        refine wd_getR CF hE hW fl_X1_129 (rm_s hr0) (rm_r3 hr0) rfl dX1_traitsOf_44 ?_
        subst h
        exact wd_aret CF hret (by first | exact Or.inl ⟨_, rfl⟩ | exact Or.inr ⟨_, rfl⟩) hlk hW hS dX1_traitsOf_47
def f_X1_fittingTraits_L78 (k35 : Nat → Int32 → Int32 → Int32 → Int32 → Int32 → wd_D → Option (Int32 × wd_D)) (r1 : Nat) (a2 : Int32) (a3 : Int32) (v5 : Int32) (v6 : Int32) (v7 : Int32) (D : wd_D) : Option (Int32 × wd_D) := ap (v7 + 1) (fun x10 => k35 r1 a2 a3 v5 v6 x10 D)
def f_X1_fittingTraits_L35  : Nat → Nat → Int32 → Int32 → Int32 → Int32 → Int32 → wd_D → Option (Int32 × wd_D)
  | 0, _, _, _, _, _, _, _ => none
  | n + 1, r1, a2, a3, v5, v6, v7, D => (if v5 < v7 then some (v6, D) else (f_X3_become 242 r1 D).bind (fun q5 => (wr 7 q5 (f_X1_traitsOf 242 a3) a2 v7).bind (fun D6 => (f_X1_goesAsTold D6).bind (fun q7 => (if q7.1 = 0 then f_X1_fittingTraits_L78 (f_X1_fittingTraits_L35 n) r1 a2 a3 v5 v6 v7 q7.2 else ap (v6 ||| ((1 : Int32) <<< (v7 &&& 31))) (fun x9 => f_X1_fittingTraits_L78 (f_X1_fittingTraits_L35 n) r1 a2 a3 v5 x9 v7 q7.2))))))
def f_X1_fittingTraits_L26  (r1 : Nat) (a2 : Int32) (a3 : Int32) (v4 : Int32) (z0 : Int32) (D : wd_D) : Option (Int32 × wd_D) := f_X1_fittingTraits_L35 FU r1 a2 a3 z0 0 v4 D
def f_X1_fittingTraits_L14  (r1 : Nat) (a2 : Int32) (a3 : Int32) (z0 : Int32) (D : wd_D) : Option (Int32 × wd_D) := (if a3 = 0 then f_X1_fittingTraits_L26 r1 a2 a3 z0 5 D else f_X1_fittingTraits_L26 r1 a2 a3 z0 9 D)
def f_X1_fittingTraits_L9  (r1 : Nat) (a2 : Int32) (a3 : Int32) (D : wd_D) : Option (Int32 × wd_D) := f_X1_fittingTraits_L14 r1 a2 a3 1 D
def f_X1_fittingTraits (r1 : Nat) (a2 : Int32) (a3 : Int32) (D : wd_D) : Option (Int32 × wd_D) := (if a3 = 0 then f_X1_fittingTraits_L9 r1 a2 a3 D else (if a3 = 1 then f_X1_fittingTraits_L9 r1 a2 a3 D else f_X1_fittingTraits_L14 r1 a2 a3 0 D))
set_option maxHeartbeats 4000000 in
set_option maxRecDepth 100000 in
theorem x_X1_fittingTraits (l : Launch) (X : wd_X) (r1 : Nat) (hr1 : RoomAt r1) (a2 : Int32) (a3 : Int32) (D : wd_D) {qv : Int32 × wd_D} (h : f_X1_fittingTraits r1 a2 a3 D = some qv) : wd_Met l X yX1_fittingTraits cX1_fittingTraits 8 (some FieldType.int) ({ frames := 5, cells := 0, slots := 0, locals := 500 }) S0 S0 ([.ref (X.2.2.1 + 241), .ref (X.2.2.1 + r1), .int a2, .int a3] : List Value) D qv.2 (some (.int qv.1)) 0 0 := by
  refine wd_enter (by decide) (Nat.le_of_ble_eq_true rfl) ?_
  intro p e s m below meth c CF hret hlk hnm hW hE ls hl
  have CF : CallFix p m c cX1_fittingTraits 8 s ([.ref (X.2.2.1 + 241), .ref (X.2.2.1 + r1), .int a2, .int a3] : List Value).toArray tg RX1 := CF
  have hx := CF.1
  have hb := CF.2.1
  have hown := CF.2.2.2.1
  have hts := CF.2.2.2.2
  have hS : va_S (wd_A X) s.heap s.heap [] := va_S.rf
  have hl : lv_has ls 8 [(0, .ref (X.2.2.1 + 241)), (1, .ref (X.2.2.1 + r1)), (2, .int a2), (3, .int a3)] := hl
  unfold f_X1_fittingTraits at h
  have hL35 : ∀ (n35 : Nat) (v5 : Int32) (v6 : Int32) (v7 : Int32) (D : wd_D) (H : Heap) (locs : List Loc) (ls : Array Slot), Wd X S0 D H → va_S (wd_A X) s.heap H locs → lv_has ls 8 [(0, .ref (X.2.2.1 + 241)), (1, .ref (X.2.2.1 + r1)), (2, .int a2), (3, .int a3), (5, .int v5), (6, .int v6), (7, .int v7)] → f_X1_fittingTraits_L35 n35 r1 a2 a3 v5 v6 v7 D = some qv → W p l e ({ frames := 5, cells := 0, slots := 0, locals := 500 }) s m ([.ref (X.2.2.1 + 241), .ref (X.2.2.1 + r1), .int a2, .int a3] : List Value).toArray below meth c H locs 0 0 (MQ below (wd_Q X S0 qv.2 (some (.int qv.1))) ([.ref (X.2.2.1 + 241), .ref (X.2.2.1 + r1), .int a2, .int a3] : List Value).toArray s 0 0 (wd_A X)) (F0 m 35 ls []) := by
    intro n35
    induction n35 with
    | zero => intro v5 v6 v7 D H locs ls hW hS hl h; cases h
    | succ n35 ih35 =>
      have hL78 : ∀ (v5 : Int32) (v6 : Int32) (v7 : Int32) (D : wd_D) (H : Heap) (locs : List Loc) (ls : Array Slot), Wd X S0 D H → va_S (wd_A X) s.heap H locs → lv_has ls 8 [(0, .ref (X.2.2.1 + 241)), (1, .ref (X.2.2.1 + r1)), (2, .int a2), (3, .int a3), (5, .int v5), (6, .int v6), (7, .int v7)] → f_X1_fittingTraits_L78 (f_X1_fittingTraits_L35 n35) r1 a2 a3 v5 v6 v7 D = some qv → W p l e ({ frames := 5, cells := 0, slots := 0, locals := 500 }) s m ([.ref (X.2.2.1 + 241), .ref (X.2.2.1 + r1), .int a2, .int a3] : List Value).toArray below meth c H locs 0 0 (MQ below (wd_Q X S0 qv.2 (some (.int qv.1))) ([.ref (X.2.2.1 + 241), .ref (X.2.2.1 + r1), .int a2, .int a3] : List Value).toArray s 0 0 (wd_A X)) (F0 m 78 ls []) := by
        intro v5 v6 v7 D H locs ls hW hS hl h
        unfold f_X1_fittingTraits_L78 at h
        obtain ⟨x10, ex10⟩ : ∃ y : Int32, y = v7 + 1 := ⟨_, rfl⟩
        replace h := apR ex10 h
        refine lv_iinc (v := x10) (lv' := [(7, .int x10), (0, .ref (X.2.2.1 + 241)), (1, .ref (X.2.2.1 + r1)), (2, .int a2), (3, .int a3), (5, .int v5), (6, .int v6)]) hx hb dX1_fittingTraits_78 hl (k := 6) rfl (by rw [ex10]; rfl) (by decide) rfl (fun ls hl => ?_)
        refine lv_goto (tgt := 35) hx hb dX1_fittingTraits_81 (by decide) ?_
        exact ih35 v5 v6 x10 D _ _ _  hW hS (lv_sub hl [1, 2, 3, 4, 5, 6, 0] rfl) h
      intro v5 v6 v7 D H locs ls hW hS hl h
      rw [f_X1_fittingTraits_L35] at h
      refine lv_iload hx hb dX1_fittingTraits_35 (lv_at hl 6 rfl) ?_
      refine lv_iload hx hb dX1_fittingTraits_37 (lv_at hl 4 rfl) ?_
      refine lv_icmp_gt (tgt := 84) hx hb dX1_fittingTraits_39 (by decide) (fun c4 => ?_) (fun c4 => ?_)
      · rw [if_pos c4] at h
        refine lv_iload hx hb dX1_fittingTraits_84 (lv_at hl 5 rfl) ?_
        have h := Option.some.inj h
        subst h
        exact wd_iret CF hret hlk hW hS dX1_fittingTraits_86
      · rw [if_neg c4] at h
        refine lv_aload_n hx hb dX1_fittingTraits_42 rfl (lv_at hl 0 rfl) ?_
        refine wd_getR CF hE hW fl_X1_12 sh_241 rf_241_0 rfl dX1_fittingTraits_43 ?_
        refine lv_aload_n hx hb dX1_fittingTraits_46 rfl (lv_at hl 1 rfl) ?_
        obtain ⟨q5, eq5, h⟩ := bdE h
        refine wd_callVv (ci := 3) (k := 242) CF hE hW hS (x_X3_become l X 242 room_242 r1 hr1 D eq5) mi_X3_become vi_X3_become tw517 ⟨by decide, rfl⟩ (rm_s room_242) ⟨rfl, rfl, Nat.le_of_ble_eq_true rfl, Nat.le_of_ble_eq_true rfl⟩ rfl hl.1 rfl (Nat.le_of_ble_eq_true rfl) dX1_fittingTraits_47 ⟨Nat.le_of_ble_eq_true rfl, Nat.le_of_ble_eq_true rfl⟩ (fun H locs hW hS => ?_)
        refine lv_aload_n hx hb dX1_fittingTraits_50 rfl (lv_at hl 0 rfl) ?_
        refine wd_getR CF hE hW fl_X1_12 sh_241 rf_241_0 rfl dX1_fittingTraits_51 ?_
        refine lv_iload_n hx hb dX1_fittingTraits_54 rfl (lv_at hl 3 rfl) ?_
        refine wd_callSr CF hE hW hS (x_X1_traitsOf l X 242 room_242 a3 q5) mi_X1_traitsOf vi_X1_traitsOf tw632 ⟨rfl, rfl, Nat.le_of_ble_eq_true rfl, Nat.le_of_ble_eq_true rfl⟩ rfl hl.1 rfl (Nat.le_of_ble_eq_true rfl) dX1_fittingTraits_55 ⟨Nat.le_of_ble_eq_true rfl, Nat.le_of_ble_eq_true rfl⟩ (fun H locs hW hS => ?_)
        refine lv_iload_n hx hb dX1_fittingTraits_58 rfl (lv_at hl 2 rfl) ?_
        refine lv_iload hx hb dX1_fittingTraits_59 (lv_at hl 6 rfl) ?_
        obtain ⟨D6, eD6, h⟩ := bdE h
        refine wd_iast CF hE hW hS (ar_X1_traitsOf 242 room_242 a3) eD6 dX1_fittingTraits_61 (fun H locs hW hS => ?_)
        refine lv_aload_n hx hb dX1_fittingTraits_62 rfl (lv_at hl 0 rfl) ?_
        obtain ⟨q7, eq7, h⟩ := bdE h
        refine wd_callVr (ci := 1) (k := 241) CF hE hW hS (x_X1_goesAsTold l X D6 eq7) mi_X1_goesAsTold vi_X1_goesAsTold tw635 ⟨by decide, rfl⟩ sh_241 ⟨rfl, rfl, Nat.le_of_ble_eq_true rfl, Nat.le_of_ble_eq_true rfl⟩ rfl hl.1 rfl (Nat.le_of_ble_eq_true rfl) dX1_fittingTraits_63 ⟨Nat.le_of_ble_eq_true rfl, Nat.le_of_ble_eq_true rfl⟩ (fun H locs hW hS => ?_)
        refine lv_if_eq (tgt := 78) hx hb dX1_fittingTraits_66 (by decide) (fun c8 => ?_) (fun c8 => ?_)
        · rw [if_pos c8] at h
          exact hL78 v5 v6 v7 q7.2 _ _ _  hW hS (lv_sub hl [0, 1, 2, 3, 4, 5, 6] rfl) h
        · rw [if_neg c8] at h
          refine lv_iload hx hb dX1_fittingTraits_69 (lv_at hl 5 rfl) ?_
          refine lv_iconst (v := 1) hx hb dX1_fittingTraits_71 (by decide) ?_
          refine lv_iload hx hb dX1_fittingTraits_72 (lv_at hl 6 rfl) ?_
          refine lv_ishl hx hb dX1_fittingTraits_74 ?_
          refine lv_ior hx hb dX1_fittingTraits_75 ?_
          refine lv_topi (fun x9 ex9 => ?_)
          replace h := apR ex9 h
          refine lv_istore (lv' := [(6, .int x9), (0, .ref (X.2.2.1 + 241)), (1, .ref (X.2.2.1 + r1)), (2, .int a2), (3, .int a3), (5, .int v5), (7, .int v7)]) hx hb dX1_fittingTraits_76 hl (by decide) rfl (fun ls hl => ?_)
          exact hL78 v5 x9 v7 q7.2 _ _ _  hW hS (lv_sub hl [1, 2, 3, 4, 5, 0, 6] rfl) h
  have hL26 : ∀ (v4 : Int32) (z0 : Int32) (D : wd_D) (H : Heap) (locs : List Loc) (ls : Array Slot), Wd X S0 D H → va_S (wd_A X) s.heap H locs → lv_has ls 8 [(0, .ref (X.2.2.1 + 241)), (1, .ref (X.2.2.1 + r1)), (2, .int a2), (3, .int a3), (4, .int v4)] → f_X1_fittingTraits_L26 r1 a2 a3 v4 z0 D = some qv → W p l e ({ frames := 5, cells := 0, slots := 0, locals := 500 }) s m ([.ref (X.2.2.1 + 241), .ref (X.2.2.1 + r1), .int a2, .int a3] : List Value).toArray below meth c H locs 0 0 (MQ below (wd_Q X S0 qv.2 (some (.int qv.1))) ([.ref (X.2.2.1 + 241), .ref (X.2.2.1 + r1), .int a2, .int a3] : List Value).toArray s 0 0 (wd_A X)) (F0 m 26 ls [.int z0]) := by
    intro v4 z0 D H locs ls hW hS hl h
    unfold f_X1_fittingTraits_L26 at h
    refine lv_istore (lv' := [(5, .int z0), (0, .ref (X.2.2.1 + 241)), (1, .ref (X.2.2.1 + r1)), (2, .int a2), (3, .int a3), (4, .int v4)]) hx hb dX1_fittingTraits_26 hl (by decide) rfl (fun ls hl => ?_)
    refine lv_iconst (v := 0) hx hb dX1_fittingTraits_28 (by decide) ?_
    refine lv_istore (lv' := [(6, .int 0), (5, .int z0), (0, .ref (X.2.2.1 + 241)), (1, .ref (X.2.2.1 + r1)), (2, .int a2), (3, .int a3), (4, .int v4)]) hx hb dX1_fittingTraits_29 hl (by decide) rfl (fun ls hl => ?_)
    refine lv_iload hx hb dX1_fittingTraits_31 (lv_at hl 6 rfl) ?_
    refine lv_istore (lv' := [(7, .int v4), (6, .int 0), (5, .int z0), (0, .ref (X.2.2.1 + 241)), (1, .ref (X.2.2.1 + r1)), (2, .int a2), (3, .int a3), (4, .int v4)]) hx hb dX1_fittingTraits_33 hl (by decide) rfl (fun ls hl => ?_)
    exact hL35 FU z0 0 v4 D _ _ _  hW hS (lv_sub hl [3, 4, 5, 6, 2, 1, 0] rfl) h
  have hL14 : ∀ (z0 : Int32) (D : wd_D) (H : Heap) (locs : List Loc) (ls : Array Slot), Wd X S0 D H → va_S (wd_A X) s.heap H locs → lv_has ls 8 [(0, .ref (X.2.2.1 + 241)), (1, .ref (X.2.2.1 + r1)), (2, .int a2), (3, .int a3)] → f_X1_fittingTraits_L14 r1 a2 a3 z0 D = some qv → W p l e ({ frames := 5, cells := 0, slots := 0, locals := 500 }) s m ([.ref (X.2.2.1 + 241), .ref (X.2.2.1 + r1), .int a2, .int a3] : List Value).toArray below meth c H locs 0 0 (MQ below (wd_Q X S0 qv.2 (some (.int qv.1))) ([.ref (X.2.2.1 + 241), .ref (X.2.2.1 + r1), .int a2, .int a3] : List Value).toArray s 0 0 (wd_A X)) (F0 m 14 ls [.int z0]) := by
    intro z0 D H locs ls hW hS hl h
    unfold f_X1_fittingTraits_L14 at h
    refine lv_istore (lv' := [(4, .int z0), (0, .ref (X.2.2.1 + 241)), (1, .ref (X.2.2.1 + r1)), (2, .int a2), (3, .int a3)]) hx hb dX1_fittingTraits_14 hl (by decide) rfl (fun ls hl => ?_)
    refine lv_iload_n hx hb dX1_fittingTraits_16 rfl (lv_at hl 4 rfl) ?_
    refine lv_if_ne (tgt := 24) hx hb dX1_fittingTraits_17 (by decide) (fun c3 => ?_) (fun c3 => ?_)
    · rw [if_neg c3] at h
      refine lv_bipush (v := 9) hx hb dX1_fittingTraits_24 (by decide) ?_
      exact hL26 z0 9 D _ _ _  hW hS (lv_sub hl [1, 2, 3, 4, 0] rfl) h
    · rw [if_pos c3] at h
      refine lv_iconst (v := 5) hx hb dX1_fittingTraits_20 (by decide) ?_
      refine lv_goto (tgt := 26) hx hb dX1_fittingTraits_21 (by decide) ?_
      exact hL26 z0 5 D _ _ _  hW hS (lv_sub hl [1, 2, 3, 4, 0] rfl) h
  have hL9 : ∀  (D : wd_D) (H : Heap) (locs : List Loc) (ls : Array Slot), Wd X S0 D H → va_S (wd_A X) s.heap H locs → lv_has ls 8 [(0, .ref (X.2.2.1 + 241)), (1, .ref (X.2.2.1 + r1)), (2, .int a2), (3, .int a3)] → f_X1_fittingTraits_L9 r1 a2 a3 D = some qv → W p l e ({ frames := 5, cells := 0, slots := 0, locals := 500 }) s m ([.ref (X.2.2.1 + 241), .ref (X.2.2.1 + r1), .int a2, .int a3] : List Value).toArray below meth c H locs 0 0 (MQ below (wd_Q X S0 qv.2 (some (.int qv.1))) ([.ref (X.2.2.1 + 241), .ref (X.2.2.1 + r1), .int a2, .int a3] : List Value).toArray s 0 0 (wd_A X)) (F0 m 9 ls []) := by
    intro D H locs ls hW hS hl h
    unfold f_X1_fittingTraits_L9 at h
    refine lv_iconst (v := 1) hx hb dX1_fittingTraits_9 (by decide) ?_
    refine lv_goto (tgt := 14) hx hb dX1_fittingTraits_10 (by decide) ?_
    exact hL14 1 D _ _ _  hW hS (lv_sub hl [0, 1, 2, 3] rfl) h
  refine lv_iload_n hx hb dX1_fittingTraits_0 rfl (lv_at hl 3 rfl) ?_
  refine lv_if_eq (tgt := 9) hx hb dX1_fittingTraits_1 (by decide) (fun c1 => ?_) (fun c1 => ?_)
  · rw [if_pos c1] at h
    exact hL9  D _ _ _  hW hS (lv_sub hl [0, 1, 2, 3] rfl) h
  · rw [if_neg c1] at h
    refine lv_iload_n hx hb dX1_fittingTraits_4 rfl (lv_at hl 3 rfl) ?_
    refine lv_iconst (v := 1) hx hb dX1_fittingTraits_5 (by decide) ?_
    refine lv_icmp_ne (tgt := 13) hx hb dX1_fittingTraits_6 (by decide) (fun c2 => ?_) (fun c2 => ?_)
    · rw [if_neg c2] at h
      refine lv_iconst (v := 0) hx hb dX1_fittingTraits_13 (by decide) ?_
      exact hL14 0 D _ _ _  hW hS (lv_sub hl [0, 1, 2, 3] rfl) h
    · rw [if_pos c2] at h
      exact hL9  D _ _ _  hW hS (lv_sub hl [0, 1, 2, 3] rfl) h
def f_X1_fittingHands_L48 (k4 : Nat → Int32 → Int32 → wd_D → Option (Int32 × wd_D)) (r1 : Nat) (v2 : Int32) (v3 : Int32) (D : wd_D) : Option (Int32 × wd_D) := ap (v3 + 1) (fun x10 => k4 r1 v2 x10 D)
def f_X1_fittingHands_L4  : Nat → Nat → Int32 → Int32 → wd_D → Option (Int32 × wd_D)
  | 0, _, _, _, _ => none
  | n + 1, r1, v2, v3, D => (if (gI D r1 0) ≤ v3 then (f_X3_become 242 r1 D).bind (fun q2 => (f_X1_goesAsTold q2).bind (fun q3 => (if q3.1 = 0 then some (v2, q3.2) else some (v2 ||| 128, q3.2)))) else (f_X3_become 242 r1 D).bind (fun q5 => ap (sI q5 242 4 ((gI q5 242 4) ||| ((1 : Int32) <<< (v3 &&& 31)))) (fun D6 => (f_X1_goesAsTold D6).bind (fun q7 => (if q7.1 = 0 then f_X1_fittingHands_L48 (f_X1_fittingHands_L4 n) r1 v2 v3 q7.2 else ap (v2 ||| ((1 : Int32) <<< (v3 &&& 31))) (fun x9 => f_X1_fittingHands_L48 (f_X1_fittingHands_L4 n) r1 x9 v3 q7.2))))))
def f_X1_fittingHands (r1 : Nat) (D : wd_D) : Option (Int32 × wd_D) := f_X1_fittingHands_L4 FU r1 0 0 D
set_option maxHeartbeats 4000000 in
set_option maxRecDepth 100000 in
theorem x_X1_fittingHands (l : Launch) (X : wd_X) (r1 : Nat) (hr1 : RoomAt r1) (D : wd_D) {qv : Int32 × wd_D} (h : f_X1_fittingHands r1 D = some qv) : wd_Met l X yX1_fittingHands cX1_fittingHands 4 (some FieldType.int) ({ frames := 5, cells := 0, slots := 0, locals := 500 }) S0 S0 ([.ref (X.2.2.1 + 241), .ref (X.2.2.1 + r1)] : List Value) D qv.2 (some (.int qv.1)) 0 0 := by
  refine wd_enter (by decide) (Nat.le_of_ble_eq_true rfl) ?_
  intro p e s m below meth c CF hret hlk hnm hW hE ls hl
  have CF : CallFix p m c cX1_fittingHands 4 s ([.ref (X.2.2.1 + 241), .ref (X.2.2.1 + r1)] : List Value).toArray tg RX1 := CF
  have hx := CF.1
  have hb := CF.2.1
  have hown := CF.2.2.2.1
  have hts := CF.2.2.2.2
  have hS : va_S (wd_A X) s.heap s.heap [] := va_S.rf
  have hl : lv_has ls 4 [(0, .ref (X.2.2.1 + 241)), (1, .ref (X.2.2.1 + r1))] := hl
  unfold f_X1_fittingHands at h
  have hL4 : ∀ (n4 : Nat) (v2 : Int32) (v3 : Int32) (D : wd_D) (H : Heap) (locs : List Loc) (ls : Array Slot), Wd X S0 D H → va_S (wd_A X) s.heap H locs → lv_has ls 4 [(0, .ref (X.2.2.1 + 241)), (1, .ref (X.2.2.1 + r1)), (2, .int v2), (3, .int v3)] → f_X1_fittingHands_L4 n4 r1 v2 v3 D = some qv → W p l e ({ frames := 5, cells := 0, slots := 0, locals := 500 }) s m ([.ref (X.2.2.1 + 241), .ref (X.2.2.1 + r1)] : List Value).toArray below meth c H locs 0 0 (MQ below (wd_Q X S0 qv.2 (some (.int qv.1))) ([.ref (X.2.2.1 + 241), .ref (X.2.2.1 + r1)] : List Value).toArray s 0 0 (wd_A X)) (F0 m 4 ls []) := by
    intro n4
    induction n4 with
    | zero => intro v2 v3 D H locs ls hW hS hl h; cases h
    | succ n4 ih4 =>
      have hL48 : ∀ (v2 : Int32) (v3 : Int32) (D : wd_D) (H : Heap) (locs : List Loc) (ls : Array Slot), Wd X S0 D H → va_S (wd_A X) s.heap H locs → lv_has ls 4 [(0, .ref (X.2.2.1 + 241)), (1, .ref (X.2.2.1 + r1)), (2, .int v2), (3, .int v3)] → f_X1_fittingHands_L48 (f_X1_fittingHands_L4 n4) r1 v2 v3 D = some qv → W p l e ({ frames := 5, cells := 0, slots := 0, locals := 500 }) s m ([.ref (X.2.2.1 + 241), .ref (X.2.2.1 + r1)] : List Value).toArray below meth c H locs 0 0 (MQ below (wd_Q X S0 qv.2 (some (.int qv.1))) ([.ref (X.2.2.1 + 241), .ref (X.2.2.1 + r1)] : List Value).toArray s 0 0 (wd_A X)) (F0 m 48 ls []) := by
        intro v2 v3 D H locs ls hW hS hl h
        unfold f_X1_fittingHands_L48 at h
        obtain ⟨x10, ex10⟩ : ∃ y : Int32, y = v3 + 1 := ⟨_, rfl⟩
        replace h := apR ex10 h
        refine lv_iinc (v := x10) (lv' := [(3, .int x10), (0, .ref (X.2.2.1 + 241)), (1, .ref (X.2.2.1 + r1)), (2, .int v2)]) hx hb dX1_fittingHands_48 hl (k := 3) rfl (by rw [ex10]; rfl) (by decide) rfl (fun ls hl => ?_)
        refine lv_goto (tgt := 4) hx hb dX1_fittingHands_51 (by decide) ?_
        exact ih4 v2 x10 D _ _ _  hW hS (lv_sub hl [1, 2, 3, 0] rfl) h
      intro v2 v3 D H locs ls hW hS hl h
      rw [f_X1_fittingHands_L4] at h
      refine lv_iload_n hx hb dX1_fittingHands_4 rfl (lv_at hl 3 rfl) ?_
      refine lv_aload_n hx hb dX1_fittingHands_5 rfl (lv_at hl 1 rfl) ?_
      refine wd_get CF hE hW fl_X1_82 (rm_s hr1) (v := .int (gI D r1 0)) rfl dX1_fittingHands_6 ?_
      refine lv_icmp_ge (tgt := 54) hx hb dX1_fittingHands_9 (by decide) (fun c1 => ?_) (fun c1 => ?_)
      · rw [if_pos c1] at h
        refine lv_aload_n hx hb dX1_fittingHands_54 rfl (lv_at hl 0 rfl) ?_
        refine wd_getR CF hE hW fl_X1_12 sh_241 rf_241_0 rfl dX1_fittingHands_55 ?_
        refine lv_aload_n hx hb dX1_fittingHands_58 rfl (lv_at hl 1 rfl) ?_
        obtain ⟨q2, eq2, h⟩ := bdE h
        refine wd_callVv (ci := 3) (k := 242) CF hE hW hS (x_X3_become l X 242 room_242 r1 hr1 D eq2) mi_X3_become vi_X3_become tw517 ⟨by decide, rfl⟩ (rm_s room_242) ⟨rfl, rfl, Nat.le_of_ble_eq_true rfl, Nat.le_of_ble_eq_true rfl⟩ rfl hl.1 rfl (Nat.le_of_ble_eq_true rfl) dX1_fittingHands_59 ⟨Nat.le_of_ble_eq_true rfl, Nat.le_of_ble_eq_true rfl⟩ (fun H locs hW hS => ?_)
        refine lv_aload_n hx hb dX1_fittingHands_62 rfl (lv_at hl 0 rfl) ?_
        obtain ⟨q3, eq3, h⟩ := bdE h
        refine wd_callVr (ci := 1) (k := 241) CF hE hW hS (x_X1_goesAsTold l X q2 eq3) mi_X1_goesAsTold vi_X1_goesAsTold tw635 ⟨by decide, rfl⟩ sh_241 ⟨rfl, rfl, Nat.le_of_ble_eq_true rfl, Nat.le_of_ble_eq_true rfl⟩ rfl hl.1 rfl (Nat.le_of_ble_eq_true rfl) dX1_fittingHands_63 ⟨Nat.le_of_ble_eq_true rfl, Nat.le_of_ble_eq_true rfl⟩ (fun H locs hW hS => ?_)
        refine lv_if_eq (tgt := 77) hx hb dX1_fittingHands_66 (by decide) (fun c4 => ?_) (fun c4 => ?_)
        · rw [if_pos c4] at h
          refine lv_iload_n hx hb dX1_fittingHands_77 rfl (lv_at hl 2 rfl) ?_
          have h := Option.some.inj h
          subst h
          exact wd_iret CF hret hlk hW hS dX1_fittingHands_78
        · rw [if_neg c4] at h
          refine lv_iload_n hx hb dX1_fittingHands_69 rfl (lv_at hl 2 rfl) ?_
          refine lv_sipush (v := 128) hx hb dX1_fittingHands_70 (by decide) ?_
          refine lv_ior hx hb dX1_fittingHands_73 ?_
          refine lv_goto (tgt := 78) hx hb dX1_fittingHands_74 (by decide) ?_
          have h := Option.some.inj h
          subst h
          exact wd_iret CF hret hlk hW hS dX1_fittingHands_78
      · rw [if_neg c1] at h
        refine lv_aload_n hx hb dX1_fittingHands_12 rfl (lv_at hl 0 rfl) ?_
        refine wd_getR CF hE hW fl_X1_12 sh_241 rf_241_0 rfl dX1_fittingHands_13 ?_
        refine lv_aload_n hx hb dX1_fittingHands_16 rfl (lv_at hl 1 rfl) ?_
        obtain ⟨q5, eq5, h⟩ := bdE h
        refine wd_callVv (ci := 3) (k := 242) CF hE hW hS (x_X3_become l X 242 room_242 r1 hr1 D eq5) mi_X3_become vi_X3_become tw517 ⟨by decide, rfl⟩ (rm_s room_242) ⟨rfl, rfl, Nat.le_of_ble_eq_true rfl, Nat.le_of_ble_eq_true rfl⟩ rfl hl.1 rfl (Nat.le_of_ble_eq_true rfl) dX1_fittingHands_17 ⟨Nat.le_of_ble_eq_true rfl, Nat.le_of_ble_eq_true rfl⟩ (fun H locs hW hS => ?_)
        refine lv_aload_n hx hb dX1_fittingHands_20 rfl (lv_at hl 0 rfl) ?_
        refine wd_getR CF hE hW fl_X1_12 sh_241 rf_241_0 rfl dX1_fittingHands_21 ?_
        refine lv_dup hx hb dX1_fittingHands_24 rfl ?_
        refine wd_get CF hE hW fl_X1_69 (rm_s room_242) (v := .int (gI q5 242 4)) rfl dX1_fittingHands_25 ?_
        refine lv_iconst (v := 1) hx hb dX1_fittingHands_28 (by decide) ?_
        refine lv_iload_n hx hb dX1_fittingHands_29 rfl (lv_at hl 3 rfl) ?_
        refine lv_ishl hx hb dX1_fittingHands_30 ?_
        refine lv_ior hx hb dX1_fittingHands_31 ?_
        refine wd_putI CF hE hW hS fl_X1_69 (rm_s room_242) rfl rfl dX1_fittingHands_32 (fun D6 H locs eD6 hW hS => ?_)
        replace h := apR eD6 h
        refine lv_aload_n hx hb dX1_fittingHands_35 rfl (lv_at hl 0 rfl) ?_
        obtain ⟨q7, eq7, h⟩ := bdE h
        refine wd_callVr (ci := 1) (k := 241) CF hE hW hS (x_X1_goesAsTold l X D6 eq7) mi_X1_goesAsTold vi_X1_goesAsTold tw635 ⟨by decide, rfl⟩ sh_241 ⟨rfl, rfl, Nat.le_of_ble_eq_true rfl, Nat.le_of_ble_eq_true rfl⟩ rfl hl.1 rfl (Nat.le_of_ble_eq_true rfl) dX1_fittingHands_36 ⟨Nat.le_of_ble_eq_true rfl, Nat.le_of_ble_eq_true rfl⟩ (fun H locs hW hS => ?_)
        refine lv_if_eq (tgt := 48) hx hb dX1_fittingHands_39 (by decide) (fun c8 => ?_) (fun c8 => ?_)
        · rw [if_pos c8] at h
          exact hL48 v2 v3 q7.2 _ _ _  hW hS (lv_sub hl [0, 1, 2, 3] rfl) h
        · rw [if_neg c8] at h
          refine lv_iload_n hx hb dX1_fittingHands_42 rfl (lv_at hl 2 rfl) ?_
          refine lv_iconst (v := 1) hx hb dX1_fittingHands_43 (by decide) ?_
          refine lv_iload_n hx hb dX1_fittingHands_44 rfl (lv_at hl 3 rfl) ?_
          refine lv_ishl hx hb dX1_fittingHands_45 ?_
          refine lv_ior hx hb dX1_fittingHands_46 ?_
          refine lv_topi (fun x9 ex9 => ?_)
          replace h := apR ex9 h
          refine lv_istore_n (lv' := [(2, .int x9), (0, .ref (X.2.2.1 + 241)), (1, .ref (X.2.2.1 + r1)), (3, .int v3)]) hx hb dX1_fittingHands_47 rfl hl (by decide) rfl (fun ls hl => ?_)
          exact hL48 x9 v3 q7.2 _ _ _  hW hS (lv_sub hl [1, 2, 0, 3] rfl) h
  refine lv_iconst (v := 0) hx hb dX1_fittingHands_0 (by decide) ?_
  refine lv_istore_n (lv' := [(2, .int 0), (0, .ref (X.2.2.1 + 241)), (1, .ref (X.2.2.1 + r1))]) hx hb dX1_fittingHands_1 rfl hl (by decide) rfl (fun ls hl => ?_)
  refine lv_iconst (v := 0) hx hb dX1_fittingHands_2 (by decide) ?_
  refine lv_istore_n (lv' := [(3, .int 0), (2, .int 0), (0, .ref (X.2.2.1 + 241)), (1, .ref (X.2.2.1 + r1))]) hx hb dX1_fittingHands_3 rfl hl (by decide) rfl (fun ls hl => ?_)
  exact hL4 FU 0 0 D _ _ _  hW hS (lv_sub hl [2, 3, 1, 0] rfl) h
def f_X1_casesAsleep_L115 (krec : Int32 → Int32 → Int32 → Int32 → wd_D → Option (Int64 × wd_D))  (a1 : Int32) (a2 : Int32) (a3 : Int32) (a4 : Int32) (q5 : Nat) (q6 : Nat) (v8 : Int32) (z0 : Int64) (D : wd_D) : Option (Int64 × wd_D) := (if 10 ≤ v8 then some (z0, D) else (f_X3_become q6 q5 D).bind (fun q15 => (f_X3_passMinute q6 q15).bind (fun q16 => (krec (a1 + 1) a2 a3 a4 q16.2).bind (fun q17 => ap (z0 + (((10 - v8).toInt64) * q17.1)) (fun x18 => some (x18, q17.2))))))
def f_X1_casesAsleep_L89 (krec : Int32 → Int32 → Int32 → Int32 → wd_D → Option (Int64 × wd_D))  (a1 : Int32) (a2 : Int32) (a3 : Int32) (a4 : Int32) (q5 : Nat) (q6 : Nat) (z0 : Int32) (D : wd_D) : Option (Int64 × wd_D) := (if z0 = 0 then f_X1_casesAsleep_L115 krec a1 a2 a3 a4 q5 q6 z0 0 D else (krec (a1 + 1) a2 a3 a4 D).bind (fun q13 => f_X1_casesAsleep_L115 krec a1 a2 a3 a4 q5 q6 z0 (z0.toInt64 * q13.1) q13.2))
def f_X1_casesAsleep_L19 (krec : Int32 → Int32 → Int32 → Int32 → wd_D → Option (Int64 × wd_D))  (a1 : Int32) (a2 : Int32) (a3 : Int32) (a4 : Int32) (q5 : Nat) (D : wd_D) : Option (Int64 × wd_D) := (f_X3_sleepAll q5 ((f_X3_everybody q5 D) &&& ((gI D q5 5) ^^^ (-1))) D).bind (fun x10 => (if x10 = 0 then some (0, D) else some (1, D)))
def f_X1_casesAsleep : Nat → Int32 → Int32 → Int32 → Int32 → wd_D → Option (Int64 × wd_D)
  | 0, _, _, _, _, _ => none
  | n + 1, a1, a2, a3, a4, D => (ix 9 a1).bind (fun k1 => (if a3 ≤ a1 then f_X1_casesAsleep_L19 (f_X1_casesAsleep n) a1 a2 a3 a4 (253 + 9 * k1) D else (if a1 < 8 then (ix 9 (a1 + 1)).bind (fun k4 => (f_X3_become (253 + 9 * k4) (253 + 9 * k1) D).bind (fun q5 => (f_X3_passLorry (253 + 9 * k4) a2 q5).bind (fun q6 => ap q6.1 (fun x7 => (f_X3_passMinute (253 + 9 * k4) q6.2).bind (fun q8 => (if x7 = 0 then f_X1_casesAsleep_L89 (f_X1_casesAsleep n) a1 a2 a3 a4 (253 + 9 * k1) (253 + 9 * k4) 10 q8.2 else f_X1_casesAsleep_L89 (f_X1_casesAsleep n) a1 a2 a3 a4 (253 + 9 * k1) (253 + 9 * k4) a4 q8.2)))))) else f_X1_casesAsleep_L19 (f_X1_casesAsleep n) a1 a2 a3 a4 (253 + 9 * k1) D)))
set_option maxHeartbeats 4000000 in
set_option maxRecDepth 100000 in
theorem x_X1_casesAsleep (l : Launch) (X : wd_X) : ∀ (n : Nat) (a1 : Int32) (a2 : Int32) (a3 : Int32) (a4 : Int32) (D : wd_D) {qv : Int64 × wd_D} (h : f_X1_casesAsleep n a1 a2 a3 a4 D = some qv), wd_Met l X yX1_casesAsleep cX1_casesAsleep 11 (some FieldType.long) ({ frames := 4 + n, cells := 0, slots := 0, locals := 100 * (4 + n) }) S0 S0 ([.ref (X.2.2.1 + 241), .int a1, .int a2, .int a3, .int a4] : List Value) D qv.2 (some (.long qv.1)) 0 0 := by
  intro n
  induction n with
  | zero => intro a1 a2 a3 a4 D qv h; cases h
  | succ n ih_rec =>
    intro a1 a2 a3 a4 D qv h
    rw [f_X1_casesAsleep] at h
    refine wd_enter (by decide) (Nat.le_of_ble_eq_true rfl) ?_
    intro p e s m below meth c CF hret hlk hnm hW hE ls hl
    have CF : CallFix p m c cX1_casesAsleep 11 s ([.ref (X.2.2.1 + 241), .int a1, .int a2, .int a3, .int a4] : List Value).toArray tg RX1 := CF
    have hx := CF.1
    have hb := CF.2.1
    have hown := CF.2.2.2.1
    have hts := CF.2.2.2.2
    have hS : va_S (wd_A X) s.heap s.heap [] := va_S.rf
    have hl : lv_has ls 11 [(0, .ref (X.2.2.1 + 241)), (1, .int a1), (2, .int a2), (3, .int a3), (4, .int a4)] := hl
    have hL115 : ∀ (q5 : Nat) (q6 : Nat) (v8 : Int32) (z0 : Int64) (D : wd_D) (H : Heap) (locs : List Loc) (ls : Array Slot) (hq5 : RoomAt q5) (hq6 : RoomAt q6), Wd X S0 D H → va_S (wd_A X) s.heap H locs → lv_has ls 11 [(0, .ref (X.2.2.1 + 241)), (1, .int a1), (2, .int a2), (3, .int a3), (4, .int a4), (5, .ref (X.2.2.1 + q5)), (6, .ref (X.2.2.1 + q6)), (8, .int v8)] → f_X1_casesAsleep_L115 (f_X1_casesAsleep n) a1 a2 a3 a4 q5 q6 v8 z0 D = some qv → W p l e ({ frames := 4 + (n + 1), cells := 0, slots := 0, locals := 100 * (4 + (n + 1)) }) s m ([.ref (X.2.2.1 + 241), .int a1, .int a2, .int a3, .int a4] : List Value).toArray below meth c H locs 0 0 (MQ below (wd_Q X S0 qv.2 (some (.long qv.1))) ([.ref (X.2.2.1 + 241), .int a1, .int a2, .int a3, .int a4] : List Value).toArray s 0 0 (wd_A X)) (F0 m 115 ls [.long z0]) := by
      intro q5 q6 v8 z0 D H locs ls hq5 hq6 hW hS hl h
      unfold f_X1_casesAsleep_L115 at h
      refine lv_lstore (lv' := [(9, .long z0), (0, .ref (X.2.2.1 + 241)), (1, .int a1), (2, .int a2), (3, .int a3), (4, .int a4), (5, .ref (X.2.2.1 + q5)), (6, .ref (X.2.2.1 + q6)), (8, .int v8)]) hx hb dX1_casesAsleep_115 hl (by decide) rfl (fun ls hl => ?_)
      refine lv_iload hx hb dX1_casesAsleep_117 (lv_at hl 8 rfl) ?_
      refine lv_bipush (v := 10) hx hb dX1_casesAsleep_119 (by decide) ?_
      refine lv_icmp_ge (tgt := 160) hx hb dX1_casesAsleep_121 (by decide) (fun c14 => ?_) (fun c14 => ?_)
      · rw [if_pos c14] at h
        refine lv_lload hx hb dX1_casesAsleep_160 (lv_at hl 0 rfl) ?_
        have h := Option.some.inj h
        subst h
        exact wd_lret CF hret hlk hW hS dX1_casesAsleep_162
      · rw [if_neg c14] at h
        refine lv_aload hx hb dX1_casesAsleep_124 (lv_at hl 7 rfl) ?_
        refine lv_aload hx hb dX1_casesAsleep_126 (lv_at hl 6 rfl) ?_
        obtain ⟨q15, eq15, h⟩ := bdE h
        refine wd_callVv (ci := 3) (k := q6) CF hE hW hS (x_X3_become l X q6 hq6 q5 hq5 D eq15) mi_X3_become vi_X3_become tw517 ⟨by decide, rfl⟩ (rm_s hq6) ⟨rfl, rfl, (by dsimp only; omega), (by dsimp only; omega)⟩ rfl hl.1 rfl (Nat.le_of_ble_eq_true rfl) dX1_casesAsleep_128 ⟨Nat.le_of_ble_eq_true rfl, Nat.le_of_ble_eq_true rfl⟩ (fun H locs hW hS => ?_)
        refine lv_aload hx hb dX1_casesAsleep_131 (lv_at hl 7 rfl) ?_
        obtain ⟨q16, eq16, h⟩ := bdE h
        refine wd_callVr (ci := 3) (k := q6) CF hE hW hS (x_X3_passMinute l X q6 hq6 q15 eq16) mi_X3_passMinute vi_X3_passMinute tw539 ⟨by decide, rfl⟩ (rm_s hq6) ⟨rfl, rfl, (by dsimp only; omega), (by dsimp only; omega)⟩ rfl hl.1 rfl (Nat.le_of_ble_eq_true rfl) dX1_casesAsleep_133 ⟨Nat.le_of_ble_eq_true rfl, Nat.le_of_ble_eq_true rfl⟩ (fun H locs hW hS => ?_)
        refine lv_pop hx hb dX1_casesAsleep_136 rfl ?_
        refine lv_lload hx hb dX1_casesAsleep_137 (lv_at hl 0 rfl) ?_
        refine lv_bipush (v := 10) hx hb dX1_casesAsleep_139 (by decide) ?_
        refine lv_iload hx hb dX1_casesAsleep_141 (lv_at hl 8 rfl) ?_
        refine lv_isub hx hb dX1_casesAsleep_143 ?_
        refine lv_i2l hx hb dX1_casesAsleep_144 rfl ?_
        refine lv_aload_n hx hb dX1_casesAsleep_145 rfl (lv_at hl 1 rfl) ?_
        refine lv_iload_n hx hb dX1_casesAsleep_146 rfl (lv_at hl 2 rfl) ?_
        refine lv_iconst (v := 1) hx hb dX1_casesAsleep_147 (by decide) ?_
        refine lv_iadd hx hb dX1_casesAsleep_148 ?_
        refine lv_iload_n hx hb dX1_casesAsleep_149 rfl (lv_at hl 3 rfl) ?_
        refine lv_iload_n hx hb dX1_casesAsleep_150 rfl (lv_at hl 4 rfl) ?_
        refine lv_iload hx hb dX1_casesAsleep_151 (lv_at hl 5 rfl) ?_
        obtain ⟨q17, eq17, h⟩ := bdE h
        refine wd_callVr (ci := 1) (k := 241) CF hE hW hS (ih_rec (a1 + 1) a2 a3 a4 q16.2 eq17) mi_X1_casesAsleep vi_X1_casesAsleep tw657 ⟨by decide, rfl⟩ sh_241 ⟨rfl, rfl, (by dsimp only; omega), (by dsimp only; omega)⟩ rfl hl.1 rfl (Nat.le_of_ble_eq_true rfl) dX1_casesAsleep_153 ⟨Nat.le_of_ble_eq_true rfl, Nat.le_of_ble_eq_true rfl⟩ (fun H locs hW hS => ?_)
        refine lv_lmul hx hb dX1_casesAsleep_156 ?_
        refine lv_ladd hx hb dX1_casesAsleep_157 ?_
        refine lv_topl (fun x18 ex18 => ?_)
        replace h := apR ex18 h
        refine lv_lstore (lv' := [(9, .long x18), (0, .ref (X.2.2.1 + 241)), (1, .int a1), (2, .int a2), (3, .int a3), (4, .int a4), (5, .ref (X.2.2.1 + q5)), (6, .ref (X.2.2.1 + q6)), (8, .int v8)]) hx hb dX1_casesAsleep_158 hl (by decide) rfl (fun ls hl => ?_)
        refine lv_lload hx hb dX1_casesAsleep_160 (lv_at hl 0 rfl) ?_
        have h := Option.some.inj h
        subst h
        exact wd_lret CF hret hlk hW hS dX1_casesAsleep_162
    have hL89 : ∀ (q5 : Nat) (q6 : Nat) (z0 : Int32) (D : wd_D) (H : Heap) (locs : List Loc) (ls : Array Slot) (hq5 : RoomAt q5) (hq6 : RoomAt q6), Wd X S0 D H → va_S (wd_A X) s.heap H locs → lv_has ls 11 [(0, .ref (X.2.2.1 + 241)), (1, .int a1), (2, .int a2), (3, .int a3), (4, .int a4), (5, .ref (X.2.2.1 + q5)), (6, .ref (X.2.2.1 + q6))] → f_X1_casesAsleep_L89 (f_X1_casesAsleep n) a1 a2 a3 a4 q5 q6 z0 D = some qv → W p l e ({ frames := 4 + (n + 1), cells := 0, slots := 0, locals := 100 * (4 + (n + 1)) }) s m ([.ref (X.2.2.1 + 241), .int a1, .int a2, .int a3, .int a4] : List Value).toArray below meth c H locs 0 0 (MQ below (wd_Q X S0 qv.2 (some (.long qv.1))) ([.ref (X.2.2.1 + 241), .int a1, .int a2, .int a3, .int a4] : List Value).toArray s 0 0 (wd_A X)) (F0 m 89 ls [.int z0]) := by
      intro q5 q6 z0 D H locs ls hq5 hq6 hW hS hl h
      unfold f_X1_casesAsleep_L89 at h
      refine lv_istore (lv' := [(8, .int z0), (0, .ref (X.2.2.1 + 241)), (1, .int a1), (2, .int a2), (3, .int a3), (4, .int a4), (5, .ref (X.2.2.1 + q5)), (6, .ref (X.2.2.1 + q6))]) hx hb dX1_casesAsleep_89 hl (by decide) rfl (fun ls hl => ?_)
      refine lv_iload hx hb dX1_casesAsleep_91 (lv_at hl 0 rfl) ?_
      refine lv_if_ne (tgt := 100) hx hb dX1_casesAsleep_93 (by decide) (fun c12 => ?_) (fun c12 => ?_)
      · rw [if_neg c12] at h
        refine lv_iload hx hb dX1_casesAsleep_100 (lv_at hl 0 rfl) ?_
        refine lv_i2l hx hb dX1_casesAsleep_102 rfl ?_
        refine lv_aload_n hx hb dX1_casesAsleep_103 rfl (lv_at hl 1 rfl) ?_
        refine lv_iload_n hx hb dX1_casesAsleep_104 rfl (lv_at hl 2 rfl) ?_
        refine lv_iconst (v := 1) hx hb dX1_casesAsleep_105 (by decide) ?_
        refine lv_iadd hx hb dX1_casesAsleep_106 ?_
        refine lv_iload_n hx hb dX1_casesAsleep_107 rfl (lv_at hl 3 rfl) ?_
        refine lv_iload_n hx hb dX1_casesAsleep_108 rfl (lv_at hl 4 rfl) ?_
        refine lv_iload hx hb dX1_casesAsleep_109 (lv_at hl 5 rfl) ?_
        obtain ⟨q13, eq13, h⟩ := bdE h
        refine wd_callVr (ci := 1) (k := 241) CF hE hW hS (ih_rec (a1 + 1) a2 a3 a4 D eq13) mi_X1_casesAsleep vi_X1_casesAsleep tw657 ⟨by decide, rfl⟩ sh_241 ⟨rfl, rfl, (by dsimp only; omega), (by dsimp only; omega)⟩ rfl hl.1 rfl (Nat.le_of_ble_eq_true rfl) dX1_casesAsleep_111 ⟨Nat.le_of_ble_eq_true rfl, Nat.le_of_ble_eq_true rfl⟩ (fun H locs hW hS => ?_)
        refine lv_lmul hx hb dX1_casesAsleep_114 ?_
        exact hL115 q5 q6 z0 (z0.toInt64 * q13.1) q13.2 _ _ _ hq5 hq6 hW hS (lv_sub hl [1, 2, 3, 4, 5, 6, 7, 0] rfl) h
      · rw [if_pos c12] at h
        refine lv_lconst (v := 0) hx hb dX1_casesAsleep_96 (by decide) ?_
        refine lv_goto (tgt := 115) hx hb dX1_casesAsleep_97 (by decide) ?_
        exact hL115 q5 q6 z0 0 D _ _ _ hq5 hq6 hW hS (lv_sub hl [1, 2, 3, 4, 5, 6, 7, 0] rfl) h
    have hL19 : ∀ (q5 : Nat) (D : wd_D) (H : Heap) (locs : List Loc) (ls : Array Slot) (hq5 : RoomAt q5), Wd X S0 D H → va_S (wd_A X) s.heap H locs → lv_has ls 11 [(5, .ref (X.2.2.1 + q5))] → f_X1_casesAsleep_L19 (f_X1_casesAsleep n) a1 a2 a3 a4 q5 D = some qv → W p l e ({ frames := 4 + (n + 1), cells := 0, slots := 0, locals := 100 * (4 + (n + 1)) }) s m ([.ref (X.2.2.1 + 241), .int a1, .int a2, .int a3, .int a4] : List Value).toArray below meth c H locs 0 0 (MQ below (wd_Q X S0 qv.2 (some (.long qv.1))) ([.ref (X.2.2.1 + 241), .int a1, .int a2, .int a3, .int a4] : List Value).toArray s 0 0 (wd_A X)) (F0 m 19 ls []) := by
      intro q5 D H locs ls hq5 hW hS hl h
      unfold f_X1_casesAsleep_L19 at h
      refine lv_aload hx hb dX1_casesAsleep_19 (lv_at hl 0 rfl) ?_
      refine lv_aload hx hb dX1_casesAsleep_21 (lv_at hl 0 rfl) ?_
      refine wd_callVr (ci := 3) (k := q5) CF hE hW hS (x_X3_everybody l X q5 hq5 D) mi_X3_everybody vi_X3_everybody tw557 ⟨by decide, rfl⟩ (rm_s hq5) ⟨rfl, rfl, (by dsimp only; omega), (by dsimp only; omega)⟩ rfl hl.1 rfl (Nat.le_of_ble_eq_true rfl) dX1_casesAsleep_23 ⟨Nat.le_of_ble_eq_true rfl, Nat.le_of_ble_eq_true rfl⟩ (fun H locs hW hS => ?_)
      refine lv_aload hx hb dX1_casesAsleep_26 (lv_at hl 0 rfl) ?_
      refine wd_get CF hE hW fl_X1_47 (rm_s hq5) (v := .int (gI D q5 5)) rfl dX1_casesAsleep_28 ?_
      refine lv_iconst (v := (-1)) hx hb dX1_casesAsleep_31 (by decide) ?_
      refine lv_ixor hx hb dX1_casesAsleep_32 ?_
      refine lv_iand hx hb dX1_casesAsleep_33 ?_
      obtain ⟨x10, ex10, h⟩ := bdE h
      refine wd_callVr (ci := 3) (k := q5) CF hE hW hS (x_X3_sleepAll l X q5 hq5 ((f_X3_everybody q5 D) &&& ((gI D q5 5) ^^^ (-1))) D ex10) mi_X3_sleepAll vi_X3_sleepAll tw535 ⟨by decide, rfl⟩ (rm_s hq5) ⟨rfl, rfl, (by dsimp only; omega), (by dsimp only; omega)⟩ rfl hl.1 rfl (Nat.le_of_ble_eq_true rfl) dX1_casesAsleep_34 ⟨Nat.le_of_ble_eq_true rfl, Nat.le_of_ble_eq_true rfl⟩ (fun H locs hW hS => ?_)
      refine lv_if_eq (tgt := 44) hx hb dX1_casesAsleep_37 (by decide) (fun c11 => ?_) (fun c11 => ?_)
      · rw [if_pos c11] at h
        refine lv_lconst (v := 0) hx hb dX1_casesAsleep_44 (by decide) ?_
        have h := Option.some.inj h
        subst h
        exact wd_lret CF hret hlk hW hS dX1_casesAsleep_45
      · rw [if_neg c11] at h
        refine lv_lconst (v := 1) hx hb dX1_casesAsleep_40 (by decide) ?_
        refine lv_goto (tgt := 45) hx hb dX1_casesAsleep_41 (by decide) ?_
        have h := Option.some.inj h
        subst h
        exact wd_lret CF hret hlk hW hS dX1_casesAsleep_45
    refine lv_aload_n hx hb dX1_casesAsleep_0 rfl (lv_at hl 0 rfl) ?_
    refine wd_getR CF hE hW fl_X1_18 sh_241 rf_241_1 rfl dX1_casesAsleep_1 ?_
    refine lv_iload_n hx hb dX1_casesAsleep_4 rfl (lv_at hl 1 rfl) ?_
    obtain ⟨k1, ek1, h⟩ := bdE h
    have gk1 := rfa_251 k1 (ix_lt ek1)
    refine wd_aald2 CF hE hW sh_251 ek1 gk1.1 dX1_casesAsleep_5 ?_
    refine lv_astore (lv' := [(5, .ref (X.2.2.1 + (253 + 9 * k1))), (0, .ref (X.2.2.1 + 241)), (1, .int a1), (2, .int a2), (3, .int a3), (4, .int a4)]) hx hb dX1_casesAsleep_6 hl (by decide) rfl (fun ls hl => ?_)
    refine lv_iload_n hx hb dX1_casesAsleep_8 rfl (lv_at hl 2 rfl) ?_
    refine lv_iload_n hx hb dX1_casesAsleep_9 rfl (lv_at hl 4 rfl) ?_
    refine lv_icmp_ge (tgt := 19) hx hb dX1_casesAsleep_10 (by decide) (fun c2 => ?_) (fun c2 => ?_)
    · rw [if_pos c2] at h
      exact hL19 (253 + 9 * k1) D _ _ _ gk1.2 hW hS (lv_sub hl [0] rfl) h
    · rw [if_neg c2] at h
      refine lv_iload_n hx hb dX1_casesAsleep_13 rfl (lv_at hl 2 rfl) ?_
      refine lv_bipush (v := 8) hx hb dX1_casesAsleep_14 (by decide) ?_
      refine lv_icmp_lt (tgt := 46) hx hb dX1_casesAsleep_16 (by decide) (fun c3 => ?_) (fun c3 => ?_)
      · rw [if_pos c3] at h
        refine lv_aload_n hx hb dX1_casesAsleep_46 rfl (lv_at hl 1 rfl) ?_
        refine wd_getR CF hE hW fl_X1_18 sh_241 rf_241_1 rfl dX1_casesAsleep_47 ?_
        refine lv_iload_n hx hb dX1_casesAsleep_50 rfl (lv_at hl 2 rfl) ?_
        refine lv_iconst (v := 1) hx hb dX1_casesAsleep_51 (by decide) ?_
        refine lv_iadd hx hb dX1_casesAsleep_52 ?_
        obtain ⟨k4, ek4, h⟩ := bdE h
        have gk4 := rfa_251 k4 (ix_lt ek4)
        refine wd_aald2 CF hE hW sh_251 ek4 gk4.1 dX1_casesAsleep_53 ?_
        refine lv_astore (lv' := [(6, .ref (X.2.2.1 + (253 + 9 * k4))), (5, .ref (X.2.2.1 + (253 + 9 * k1))), (0, .ref (X.2.2.1 + 241)), (1, .int a1), (2, .int a2), (3, .int a3), (4, .int a4)]) hx hb dX1_casesAsleep_54 hl (by decide) rfl (fun ls hl => ?_)
        refine lv_aload hx hb dX1_casesAsleep_56 (lv_at hl 0 rfl) ?_
        refine lv_aload hx hb dX1_casesAsleep_58 (lv_at hl 1 rfl) ?_
        obtain ⟨q5, eq5, h⟩ := bdE h
        refine wd_callVv (ci := 3) (k := (253 + 9 * k4)) CF hE hW hS (x_X3_become l X (253 + 9 * k4) gk4.2 (253 + 9 * k1) gk1.2 D eq5) mi_X3_become vi_X3_become tw517 ⟨by decide, rfl⟩ (rm_s gk4.2) ⟨rfl, rfl, (by dsimp only; omega), (by dsimp only; omega)⟩ rfl hl.1 rfl (Nat.le_of_ble_eq_true rfl) dX1_casesAsleep_60 ⟨Nat.le_of_ble_eq_true rfl, Nat.le_of_ble_eq_true rfl⟩ (fun H locs hW hS => ?_)
        refine lv_aload hx hb dX1_casesAsleep_63 (lv_at hl 0 rfl) ?_
        refine lv_iload_n hx hb dX1_casesAsleep_65 rfl (lv_at hl 4 rfl) ?_
        obtain ⟨q6, eq6, h⟩ := bdE h
        refine wd_callVr (ci := 3) (k := (253 + 9 * k4)) CF hE hW hS (x_X3_passLorry l X (253 + 9 * k4) gk4.2 a2 q5 eq6) mi_X3_passLorry vi_X3_passLorry tw661 ⟨by decide, rfl⟩ (rm_s gk4.2) ⟨rfl, rfl, (by dsimp only; omega), (by dsimp only; omega)⟩ rfl hl.1 rfl (Nat.le_of_ble_eq_true rfl) dX1_casesAsleep_66 ⟨Nat.le_of_ble_eq_true rfl, Nat.le_of_ble_eq_true rfl⟩ (fun H locs hW hS => ?_)
        refine lv_topi (fun x7 ex7 => ?_)
        replace h := apR ex7 h
        refine lv_istore (lv' := [(7, .int x7), (6, .ref (X.2.2.1 + (253 + 9 * k4))), (5, .ref (X.2.2.1 + (253 + 9 * k1))), (0, .ref (X.2.2.1 + 241)), (1, .int a1), (2, .int a2), (3, .int a3), (4, .int a4)]) hx hb dX1_casesAsleep_69 hl (by decide) rfl (fun ls hl => ?_)
        refine lv_aload hx hb dX1_casesAsleep_71 (lv_at hl 1 rfl) ?_
        obtain ⟨q8, eq8, h⟩ := bdE h
        refine wd_callVr (ci := 3) (k := (253 + 9 * k4)) CF hE hW hS (x_X3_passMinute l X (253 + 9 * k4) gk4.2 q6.2 eq8) mi_X3_passMinute vi_X3_passMinute tw539 ⟨by decide, rfl⟩ (rm_s gk4.2) ⟨rfl, rfl, (by dsimp only; omega), (by dsimp only; omega)⟩ rfl hl.1 rfl (Nat.le_of_ble_eq_true rfl) dX1_casesAsleep_73 ⟨Nat.le_of_ble_eq_true rfl, Nat.le_of_ble_eq_true rfl⟩ (fun H locs hW hS => ?_)
        refine lv_pop hx hb dX1_casesAsleep_76 rfl ?_
        refine lv_iload hx hb dX1_casesAsleep_77 (lv_at hl 0 rfl) ?_
        refine lv_if_ne (tgt := 87) hx hb dX1_casesAsleep_79 (by decide) (fun c9 => ?_) (fun c9 => ?_)
        · rw [if_neg c9] at h
          refine lv_iload hx hb dX1_casesAsleep_87 (lv_at hl 7 rfl) ?_
          exact hL89 (253 + 9 * k1) (253 + 9 * k4) a4 q8.2 _ _ _ gk1.2 gk4.2 hW hS (lv_sub hl [3, 4, 5, 6, 7, 2, 1] rfl) h
        · rw [if_pos c9] at h
          refine lv_bipush (v := 10) hx hb dX1_casesAsleep_82 (by decide) ?_
          refine lv_goto (tgt := 89) hx hb dX1_casesAsleep_84 (by decide) ?_
          exact hL89 (253 + 9 * k1) (253 + 9 * k4) 10 q8.2 _ _ _ gk1.2 gk4.2 hW hS (lv_sub hl [3, 4, 5, 6, 7, 2, 1] rfl) h
      · rw [if_neg c3] at h
        exact hL19 (253 + 9 * k1) D _ _ _ gk1.2 hW hS (lv_sub hl [0] rfl) h
def f_X1_cancelBy (a1 : Int32) (D : wd_D) : Option (wd_D) := (if a1 = 0 then some D else (nzL a1.toInt64).bind (fun x2 => (if (lg_cmp ((gJ D 241 6) - (gJ D 241 6) / a1.toInt64 * a1.toInt64) 0) = 0 then (nzL a1.toInt64).bind (fun x4 => (if (lg_cmp ((gJ D 241 7) - (gJ D 241 7) / a1.toInt64 * a1.toInt64) 0) = 0 then (nzL a1.toInt64).bind (fun x6 => ap (sJ D 241 6 ((gJ D 241 6) / a1.toInt64)) (fun D7 => (nzL a1.toInt64).bind (fun x8 => ap (sJ D7 241 7 ((gJ D7 241 7) / a1.toInt64)) (fun D9 => some D9)))) else some D)) else some D)))
set_option maxHeartbeats 4000000 in
set_option maxRecDepth 100000 in
theorem x_X1_cancelBy (l : Launch) (X : wd_X) (a1 : Int32) (D : wd_D) {qv : wd_D} (h : f_X1_cancelBy a1 D = some qv) : wd_Met l X yX1_cancelBy cX1_cancelBy 2 (none : Option FieldType) ({ frames := 0, cells := 0, slots := 0, locals := 0 }) S0 S0 ([.ref (X.2.2.1 + 241), .int a1] : List Value) D qv none 0 0 := by
  refine wd_enter (by decide) (Nat.le_of_ble_eq_true rfl) ?_
  intro p e s m below meth c CF hret hlk hnm hW hE ls hl
  have CF : CallFix p m c cX1_cancelBy 2 s ([.ref (X.2.2.1 + 241), .int a1] : List Value).toArray tg RX1 := CF
  have hx := CF.1
  have hb := CF.2.1
  have hown := CF.2.2.2.1
  have hts := CF.2.2.2.2
  have hS : va_S (wd_A X) s.heap s.heap [] := va_S.rf
  have hl : lv_has ls 2 [(0, .ref (X.2.2.1 + 241)), (1, .int a1)] := hl
  unfold f_X1_cancelBy at h
  refine lv_iload_n hx hb dX1_cancelBy_0 rfl (lv_at hl 1 rfl) ?_
  refine lv_if_eq (tgt := 50) hx hb dX1_cancelBy_1 (by decide) (fun c1 => ?_) (fun c1 => ?_)
  · rw [if_pos c1] at h
    have h := Option.some.inj h
    subst h
    exact wd_vret CF hret hlk hW hS dX1_cancelBy_50
  · rw [if_neg c1] at h
    refine lv_aload_n hx hb dX1_cancelBy_4 rfl (lv_at hl 0 rfl) ?_
    refine wd_get CF hE hW fl_X1_136 sh_241 (v := .long (gJ D 241 6)) rfl dX1_cancelBy_5 ?_
    refine lv_iload_n hx hb dX1_cancelBy_8 rfl (lv_at hl 1 rfl) ?_
    refine lv_i2l hx hb dX1_cancelBy_9 rfl ?_
    obtain ⟨x2, ex2, h⟩ := bdE h
    have nx2 := (nzL_e ex2).2
    refine lv_lrem hx hb dX1_cancelBy_10 nx2 ?_
    refine lv_lconst (v := 0) hx hb dX1_cancelBy_11 (by decide) ?_
    refine W.lcmp hx hb dX1_cancelBy_12 ?_
    refine lv_if_ne (tgt := 50) hx hb dX1_cancelBy_13 (by decide) (fun c3 => ?_) (fun c3 => ?_)
    · rw [if_neg c3] at h
      have h := Option.some.inj h
      subst h
      exact wd_vret CF hret hlk hW hS dX1_cancelBy_50
    · rw [if_pos c3] at h
      refine lv_aload_n hx hb dX1_cancelBy_16 rfl (lv_at hl 0 rfl) ?_
      refine wd_get CF hE hW fl_X1_140 sh_241 (v := .long (gJ D 241 7)) rfl dX1_cancelBy_17 ?_
      refine lv_iload_n hx hb dX1_cancelBy_20 rfl (lv_at hl 1 rfl) ?_
      refine lv_i2l hx hb dX1_cancelBy_21 rfl ?_
      obtain ⟨x4, ex4, h⟩ := bdE h
      have nx4 := (nzL_e ex4).2
      refine lv_lrem hx hb dX1_cancelBy_22 nx4 ?_
      refine lv_lconst (v := 0) hx hb dX1_cancelBy_23 (by decide) ?_
      refine W.lcmp hx hb dX1_cancelBy_24 ?_
      refine lv_if_ne (tgt := 50) hx hb dX1_cancelBy_25 (by decide) (fun c5 => ?_) (fun c5 => ?_)
      · rw [if_neg c5] at h
        have h := Option.some.inj h
        subst h
        exact wd_vret CF hret hlk hW hS dX1_cancelBy_50
      · rw [if_pos c5] at h
        refine lv_aload_n hx hb dX1_cancelBy_28 rfl (lv_at hl 0 rfl) ?_
        refine lv_dup hx hb dX1_cancelBy_29 rfl ?_
        refine wd_get CF hE hW fl_X1_136 sh_241 (v := .long (gJ D 241 6)) rfl dX1_cancelBy_30 ?_
        refine lv_iload_n hx hb dX1_cancelBy_33 rfl (lv_at hl 1 rfl) ?_
        refine lv_i2l hx hb dX1_cancelBy_34 rfl ?_
        obtain ⟨x6, ex6, h⟩ := bdE h
        have nx6 := (nzL_e ex6).2
        refine lv_ldiv hx hb dX1_cancelBy_35 nx6 ?_
        refine wd_putJ CF hE hW hS fl_X1_136 sh_241 rfl rfl dX1_cancelBy_36 (fun D7 H locs eD7 hW hS => ?_)
        replace h := apR eD7 h
        refine lv_aload_n hx hb dX1_cancelBy_39 rfl (lv_at hl 0 rfl) ?_
        refine lv_dup hx hb dX1_cancelBy_40 rfl ?_
        refine wd_get CF hE hW fl_X1_140 sh_241 (v := .long (gJ D7 241 7)) rfl dX1_cancelBy_41 ?_
        refine lv_iload_n hx hb dX1_cancelBy_44 rfl (lv_at hl 1 rfl) ?_
        refine lv_i2l hx hb dX1_cancelBy_45 rfl ?_
        obtain ⟨x8, ex8, h⟩ := bdE h
        have nx8 := (nzL_e ex8).2
        refine lv_ldiv hx hb dX1_cancelBy_46 nx8 ?_
        refine wd_putJ CF hE hW hS fl_X1_140 sh_241 rfl rfl dX1_cancelBy_47 (fun D9 H locs eD9 hW hS => ?_)
        replace h := apR eD9 h
        have h := Option.some.inj h
        subst h
        exact wd_vret CF hret hlk hW hS dX1_cancelBy_50
def f_X1_cancel_L16  : Nat → Int32 → Int32 → wd_D → Option (wd_D)
  | 0, _, _, _ => none
  | n + 1, a1, v2, D => (if a1 ≤ v2 then some D else (f_X1_cancelBy 2 D).bind (fun q4 => (f_X1_cancelBy 5 q4).bind (fun q5 => ap (v2 + 1) (fun x6 => (f_X1_cancel_L16 n) a1 x6 q5))))
def f_X1_cancel_L14  (a1 : Int32) (D : wd_D) : Option (wd_D) := f_X1_cancel_L16 FU a1 0 D
def f_X1_cancel (a1 : Int32) (D : wd_D) : Option (wd_D) := (if (lg_cmp (gJ D 241 6) 0) = 0 then ap (sJ D 241 7 1) (fun D2 => f_X1_cancel_L14 a1 D2) else f_X1_cancel_L14 a1 D)
set_option maxHeartbeats 4000000 in
set_option maxRecDepth 100000 in
theorem x_X1_cancel (l : Launch) (X : wd_X) (a1 : Int32) (D : wd_D) {qv : wd_D} (h : f_X1_cancel a1 D = some qv) : wd_Met l X yX1_cancel cX1_cancel 3 (none : Option FieldType) ({ frames := 1, cells := 0, slots := 0, locals := 100 }) S0 S0 ([.ref (X.2.2.1 + 241), .int a1] : List Value) D qv none 0 0 := by
  refine wd_enter (by decide) (Nat.le_of_ble_eq_true rfl) ?_
  intro p e s m below meth c CF hret hlk hnm hW hE ls hl
  have CF : CallFix p m c cX1_cancel 3 s ([.ref (X.2.2.1 + 241), .int a1] : List Value).toArray tg RX1 := CF
  have hx := CF.1
  have hb := CF.2.1
  have hown := CF.2.2.2.1
  have hts := CF.2.2.2.2
  have hS : va_S (wd_A X) s.heap s.heap [] := va_S.rf
  have hl : lv_has ls 3 [(0, .ref (X.2.2.1 + 241)), (1, .int a1)] := hl
  unfold f_X1_cancel at h
  have hL16 : ∀ (n16 : Nat) (v2 : Int32) (D : wd_D) (H : Heap) (locs : List Loc) (ls : Array Slot), Wd X S0 D H → va_S (wd_A X) s.heap H locs → lv_has ls 3 [(0, .ref (X.2.2.1 + 241)), (1, .int a1), (2, .int v2)] → f_X1_cancel_L16 n16 a1 v2 D = some qv → W p l e ({ frames := 1, cells := 0, slots := 0, locals := 100 }) s m ([.ref (X.2.2.1 + 241), .int a1] : List Value).toArray below meth c H locs 0 0 (MQ below (wd_Q X S0 qv none) ([.ref (X.2.2.1 + 241), .int a1] : List Value).toArray s 0 0 (wd_A X)) (F0 m 16 ls []) := by
    intro n16
    induction n16 with
    | zero => intro v2 D H locs ls hW hS hl h; cases h
    | succ n16 ih16 =>
      intro v2 D H locs ls hW hS hl h
      rw [f_X1_cancel_L16] at h
      refine lv_iload_n hx hb dX1_cancel_16 rfl (lv_at hl 2 rfl) ?_
      refine lv_iload_n hx hb dX1_cancel_17 rfl (lv_at hl 1 rfl) ?_
      refine lv_icmp_ge (tgt := 37) hx hb dX1_cancel_18 (by decide) (fun c3 => ?_) (fun c3 => ?_)
      · rw [if_pos c3] at h
        have h := Option.some.inj h
        subst h
        exact wd_vret CF hret hlk hW hS dX1_cancel_37
      · rw [if_neg c3] at h
        refine lv_aload_n hx hb dX1_cancel_21 rfl (lv_at hl 0 rfl) ?_
        refine lv_iconst (v := 2) hx hb dX1_cancel_22 (by decide) ?_
        obtain ⟨q4, eq4, h⟩ := bdE h
        refine wd_callVv (ci := 1) (k := 241) CF hE hW hS (x_X1_cancelBy l X 2 D eq4) mi_X1_cancelBy vi_X1_cancelBy tw667 ⟨by decide, rfl⟩ sh_241 ⟨rfl, rfl, Nat.le_of_ble_eq_true rfl, Nat.le_of_ble_eq_true rfl⟩ rfl hl.1 rfl (Nat.le_of_ble_eq_true rfl) dX1_cancel_23 ⟨Nat.le_of_ble_eq_true rfl, Nat.le_of_ble_eq_true rfl⟩ (fun H locs hW hS => ?_)
        refine lv_aload_n hx hb dX1_cancel_26 rfl (lv_at hl 0 rfl) ?_
        refine lv_iconst (v := 5) hx hb dX1_cancel_27 (by decide) ?_
        obtain ⟨q5, eq5, h⟩ := bdE h
        refine wd_callVv (ci := 1) (k := 241) CF hE hW hS (x_X1_cancelBy l X 5 q4 eq5) mi_X1_cancelBy vi_X1_cancelBy tw667 ⟨by decide, rfl⟩ sh_241 ⟨rfl, rfl, Nat.le_of_ble_eq_true rfl, Nat.le_of_ble_eq_true rfl⟩ rfl hl.1 rfl (Nat.le_of_ble_eq_true rfl) dX1_cancel_28 ⟨Nat.le_of_ble_eq_true rfl, Nat.le_of_ble_eq_true rfl⟩ (fun H locs hW hS => ?_)
        obtain ⟨x6, ex6⟩ : ∃ y : Int32, y = v2 + 1 := ⟨_, rfl⟩
        replace h := apR ex6 h
        refine lv_iinc (v := x6) (lv' := [(2, .int x6), (0, .ref (X.2.2.1 + 241)), (1, .int a1)]) hx hb dX1_cancel_31 hl (k := 2) rfl (by rw [ex6]; rfl) (by decide) rfl (fun ls hl => ?_)
        refine lv_goto (tgt := 16) hx hb dX1_cancel_34 (by decide) ?_
        exact ih16 x6 q5 _ _ _  hW hS (lv_sub hl [1, 2, 0] rfl) h
  have hL14 : ∀  (D : wd_D) (H : Heap) (locs : List Loc) (ls : Array Slot), Wd X S0 D H → va_S (wd_A X) s.heap H locs → lv_has ls 3 [(0, .ref (X.2.2.1 + 241)), (1, .int a1)] → f_X1_cancel_L14 a1 D = some qv → W p l e ({ frames := 1, cells := 0, slots := 0, locals := 100 }) s m ([.ref (X.2.2.1 + 241), .int a1] : List Value).toArray below meth c H locs 0 0 (MQ below (wd_Q X S0 qv none) ([.ref (X.2.2.1 + 241), .int a1] : List Value).toArray s 0 0 (wd_A X)) (F0 m 14 ls []) := by
    intro D H locs ls hW hS hl h
    unfold f_X1_cancel_L14 at h
    refine lv_iconst (v := 0) hx hb dX1_cancel_14 (by decide) ?_
    refine lv_istore_n (lv' := [(2, .int 0), (0, .ref (X.2.2.1 + 241)), (1, .int a1)]) hx hb dX1_cancel_15 rfl hl (by decide) rfl (fun ls hl => ?_)
    exact hL16 FU 0 D _ _ _  hW hS (lv_sub hl [1, 2, 0] rfl) h
  refine lv_aload_n hx hb dX1_cancel_0 rfl (lv_at hl 0 rfl) ?_
  refine wd_get CF hE hW fl_X1_136 sh_241 (v := .long (gJ D 241 6)) rfl dX1_cancel_1 ?_
  refine lv_lconst (v := 0) hx hb dX1_cancel_4 (by decide) ?_
  refine W.lcmp hx hb dX1_cancel_5 ?_
  refine lv_if_ne (tgt := 14) hx hb dX1_cancel_6 (by decide) (fun c1 => ?_) (fun c1 => ?_)
  · rw [if_neg c1] at h
    exact hL14  D _ _ _  hW hS (lv_sub hl [0, 1] rfl) h
  · rw [if_pos c1] at h
    refine lv_aload_n hx hb dX1_cancel_9 rfl (lv_at hl 0 rfl) ?_
    refine lv_lconst (v := 1) hx hb dX1_cancel_10 (by decide) ?_
    refine wd_putJ CF hE hW hS fl_X1_140 sh_241 rfl rfl dX1_cancel_11 (fun D2 H locs eD2 hW hS => ?_)
    replace h := apR eD2 h
    exact hL14  D2 _ _ _  hW hS (lv_sub hl [0, 1] rfl) h
def f_X1_countCases_L31  : Nat → Nat → Int32 → Int32 → Int32 → Int32 → wd_D → Option (wd_D)
  | 0, _, _, _, _, _, _ => none
  | n + 1, r1, a2, a3, a4, v5, D => (if a3 ≤ v5 then (f_X1_cancel a3 D).bind (fun q7 => some q7) else ap (sJ D 241 7 ((gJ D 241 7) * 10)) (fun D8 => ap (v5 + 1) (fun x9 => (f_X1_countCases_L31 n) r1 a2 a3 a4 x9 D8)))
def f_X1_countCases (r1 : Nat) (a2 : Int32) (a3 : Int32) (a4 : Int32) (D : wd_D) : Option (wd_D) := (ix 9 0).bind (fun k1 => (f_X3_become (253 + 9 * k1) r1 D).bind (fun q2 => (f_X1_casesAsleep 10 0 a2 a3 a4 q2).bind (fun q3 => ap (sJ q3.2 241 6 q3.1) (fun D4 => ap (sJ D4 241 7 1) (fun D5 => f_X1_countCases_L31 FU r1 a2 a3 a4 0 D5)))))
set_option maxHeartbeats 4000000 in
set_option maxRecDepth 100000 in
theorem x_X1_countCases (l : Launch) (X : wd_X) (r1 : Nat) (hr1 : RoomAt r1) (a2 : Int32) (a3 : Int32) (a4 : Int32) (D : wd_D) {qv : wd_D} (h : f_X1_countCases r1 a2 a3 a4 D = some qv) : wd_Met l X yX1_countCases cX1_countCases 6 (none : Option FieldType) ({ frames := 15, cells := 0, slots := 0, locals := 1500 }) S0 S0 ([.ref (X.2.2.1 + 241), .ref (X.2.2.1 + r1), .int a2, .int a3, .int a4] : List Value) D qv none 0 0 := by
  refine wd_enter (by decide) (Nat.le_of_ble_eq_true rfl) ?_
  intro p e s m below meth c CF hret hlk hnm hW hE ls hl
  have CF : CallFix p m c cX1_countCases 6 s ([.ref (X.2.2.1 + 241), .ref (X.2.2.1 + r1), .int a2, .int a3, .int a4] : List Value).toArray tg RX1 := CF
  have hx := CF.1
  have hb := CF.2.1
  have hown := CF.2.2.2.1
  have hts := CF.2.2.2.2
  have hS : va_S (wd_A X) s.heap s.heap [] := va_S.rf
  have hl : lv_has ls 6 [(0, .ref (X.2.2.1 + 241)), (1, .ref (X.2.2.1 + r1)), (2, .int a2), (3, .int a3), (4, .int a4)] := hl
  unfold f_X1_countCases at h
  have hL31 : ∀ (n31 : Nat) (v5 : Int32) (D : wd_D) (H : Heap) (locs : List Loc) (ls : Array Slot), Wd X S0 D H → va_S (wd_A X) s.heap H locs → lv_has ls 6 [(0, .ref (X.2.2.1 + 241)), (3, .int a3), (5, .int v5)] → f_X1_countCases_L31 n31 r1 a2 a3 a4 v5 D = some qv → W p l e ({ frames := 15, cells := 0, slots := 0, locals := 1500 }) s m ([.ref (X.2.2.1 + 241), .ref (X.2.2.1 + r1), .int a2, .int a3, .int a4] : List Value).toArray below meth c H locs 0 0 (MQ below (wd_Q X S0 qv none) ([.ref (X.2.2.1 + 241), .ref (X.2.2.1 + r1), .int a2, .int a3, .int a4] : List Value).toArray s 0 0 (wd_A X)) (F0 m 31 ls []) := by
    intro n31
    induction n31 with
    | zero => intro v5 D H locs ls hW hS hl h; cases h
    | succ n31 ih31 =>
      intro v5 D H locs ls hW hS hl h
      rw [f_X1_countCases_L31] at h
      refine lv_iload hx hb dX1_countCases_31 (lv_at hl 2 rfl) ?_
      refine lv_iload_n hx hb dX1_countCases_33 rfl (lv_at hl 1 rfl) ?_
      refine lv_icmp_ge (tgt := 55) hx hb dX1_countCases_34 (by decide) (fun c6 => ?_) (fun c6 => ?_)
      · rw [if_pos c6] at h
        refine lv_aload_n hx hb dX1_countCases_55 rfl (lv_at hl 0 rfl) ?_
        refine lv_iload_n hx hb dX1_countCases_56 rfl (lv_at hl 1 rfl) ?_
        obtain ⟨q7, eq7, h⟩ := bdE h
        refine wd_callVv (ci := 1) (k := 241) CF hE hW hS (x_X1_cancel l X a3 D eq7) mi_X1_cancel vi_X1_cancel tw663 ⟨by decide, rfl⟩ sh_241 ⟨rfl, rfl, Nat.le_of_ble_eq_true rfl, Nat.le_of_ble_eq_true rfl⟩ rfl hl.1 rfl (Nat.le_of_ble_eq_true rfl) dX1_countCases_57 ⟨Nat.le_of_ble_eq_true rfl, Nat.le_of_ble_eq_true rfl⟩ (fun H locs hW hS => ?_)
        have h := Option.some.inj h
        subst h
        exact wd_vret CF hret hlk hW hS dX1_countCases_60
      · rw [if_neg c6] at h
        refine lv_aload_n hx hb dX1_countCases_37 rfl (lv_at hl 0 rfl) ?_
        refine lv_dup hx hb dX1_countCases_38 rfl ?_
        refine wd_get CF hE hW fl_X1_140 sh_241 (v := .long (gJ D 241 7)) rfl dX1_countCases_39 ?_
        refine lv_ldc2 (v := 10) hx hb hown (hts _ tw662) dX1_countCases_42 ?_
        refine lv_lmul hx hb dX1_countCases_45 ?_
        refine wd_putJ CF hE hW hS fl_X1_140 sh_241 rfl rfl dX1_countCases_46 (fun D8 H locs eD8 hW hS => ?_)
        replace h := apR eD8 h
        obtain ⟨x9, ex9⟩ : ∃ y : Int32, y = v5 + 1 := ⟨_, rfl⟩
        replace h := apR ex9 h
        refine lv_iinc (v := x9) (lv' := [(5, .int x9), (0, .ref (X.2.2.1 + 241)), (3, .int a3)]) hx hb dX1_countCases_49 hl (k := 2) rfl (by rw [ex9]; rfl) (by decide) rfl (fun ls hl => ?_)
        refine lv_goto (tgt := 31) hx hb dX1_countCases_52 (by decide) ?_
        exact ih31 x9 D8 _ _ _  hW hS (lv_sub hl [1, 2, 0] rfl) h
  refine lv_aload_n hx hb dX1_countCases_0 rfl (lv_at hl 0 rfl) ?_
  refine wd_getR CF hE hW fl_X1_18 sh_241 rf_241_1 rfl dX1_countCases_1 ?_
  refine lv_iconst (v := 0) hx hb dX1_countCases_4 (by decide) ?_
  obtain ⟨k1, ek1, h⟩ := bdE h
  have gk1 := rfa_251 k1 (ix_lt ek1)
  refine wd_aald2 CF hE hW sh_251 ek1 gk1.1 dX1_countCases_5 ?_
  refine lv_aload_n hx hb dX1_countCases_6 rfl (lv_at hl 1 rfl) ?_
  obtain ⟨q2, eq2, h⟩ := bdE h
  refine wd_callVv (ci := 3) (k := (253 + 9 * k1)) CF hE hW hS (x_X3_become l X (253 + 9 * k1) gk1.2 r1 hr1 D eq2) mi_X3_become vi_X3_become tw517 ⟨by decide, rfl⟩ (rm_s gk1.2) ⟨rfl, rfl, Nat.le_of_ble_eq_true rfl, Nat.le_of_ble_eq_true rfl⟩ rfl hl.1 rfl (Nat.le_of_ble_eq_true rfl) dX1_countCases_7 ⟨Nat.le_of_ble_eq_true rfl, Nat.le_of_ble_eq_true rfl⟩ (fun H locs hW hS => ?_)
  refine lv_aload_n hx hb dX1_countCases_10 rfl (lv_at hl 0 rfl) ?_
  refine lv_aload_n hx hb dX1_countCases_11 rfl (lv_at hl 0 rfl) ?_
  refine lv_iconst (v := 0) hx hb dX1_countCases_12 (by decide) ?_
  refine lv_iload_n hx hb dX1_countCases_13 rfl (lv_at hl 2 rfl) ?_
  refine lv_iload_n hx hb dX1_countCases_14 rfl (lv_at hl 3 rfl) ?_
  refine lv_iload hx hb dX1_countCases_15 (lv_at hl 4 rfl) ?_
  obtain ⟨q3, eq3, h⟩ := bdE h
  refine wd_callVr (ci := 1) (k := 241) CF hE hW hS (x_X1_casesAsleep l X 10 0 a2 a3 a4 q2 eq3) mi_X1_casesAsleep vi_X1_casesAsleep tw657 ⟨by decide, rfl⟩ sh_241 ⟨rfl, rfl, Nat.le_of_ble_eq_true rfl, Nat.le_of_ble_eq_true rfl⟩ rfl hl.1 rfl (Nat.le_of_ble_eq_true rfl) dX1_countCases_17 ⟨Nat.le_of_ble_eq_true rfl, Nat.le_of_ble_eq_true rfl⟩ (fun H locs hW hS => ?_)
  refine wd_putJ CF hE hW hS fl_X1_136 sh_241 rfl rfl dX1_countCases_20 (fun D4 H locs eD4 hW hS => ?_)
  replace h := apR eD4 h
  refine lv_aload_n hx hb dX1_countCases_23 rfl (lv_at hl 0 rfl) ?_
  refine lv_lconst (v := 1) hx hb dX1_countCases_24 (by decide) ?_
  refine wd_putJ CF hE hW hS fl_X1_140 sh_241 rfl rfl dX1_countCases_25 (fun D5 H locs eD5 hW hS => ?_)
  replace h := apR eD5 h
  refine lv_iconst (v := 0) hx hb dX1_countCases_28 (by decide) ?_
  refine lv_istore (lv' := [(5, .int 0), (0, .ref (X.2.2.1 + 241)), (1, .ref (X.2.2.1 + r1)), (2, .int a2), (3, .int a3), (4, .int a4)]) hx hb dX1_countCases_29 hl (by decide) rfl (fun ls hl => ?_)
  exact hL31 FU 0 D5 _ _ _  hW hS (lv_sub hl [1, 4, 0] rfl) h
def f_X1_drawDay_L135 (k18 : Nat → Int32 → Int32 → Int64 → Int32 → Int32 → wd_D → Option (Int32 × wd_D)) (r1 : Nat) (a2 : Int32) (a3 : Int32) (v4 : Int64) (v7 : Int32) (z0 : Int32) (z1 : Int32) (D : wd_D) : Option (Int32 × wd_D) := ap (z1 + z0) (fun x14 => ap (v7 + 1) (fun x15 => k18 r1 a2 a3 v4 x14 x15 D))
def f_X1_drawDay_L109 (k18 : Nat → Int32 → Int32 → Int64 → Int32 → Int32 → wd_D → Option (Int32 × wd_D)) (r1 : Nat) (a2 : Int32) (a3 : Int32) (v4 : Int64) (v6 : Int32) (v7 : Int32) (D : wd_D) : Option (Int32 × wd_D) := (f_X3_passMinute 242 D).bind (fun q11 => (f_X3_thoseWho 242 1 q11.2).bind (fun x12 => (if x12 = 0 then f_X1_drawDay_L135 k18 r1 a2 a3 v4 v7 0 v6 q11.2 else f_X1_drawDay_L135 k18 r1 a2 a3 v4 v7 1 v6 q11.2)))
def f_X1_drawDay_L62 (k18 : Nat → Int32 → Int32 → Int64 → Int32 → Int32 → wd_D → Option (Int32 × wd_D)) (r1 : Nat) (a2 : Int32) (a3 : Int32) (v4 : Int64) (v6 : Int32) (v7 : Int32) (D : wd_D) : Option (Int32 × wd_D) := (if (lg_cmp (v4 - v4 / 7 * 7) 0) = 0 then (if (gI D 242 0) ≤ 0 then f_X1_drawDay_L109 k18 r1 a2 a3 v4 v6 v7 D else (nzL ((gI D 242 0).toInt64)).bind (fun x9 => ap (sI D 242 5 ((gI D 242 5) ||| ((1 : Int32) <<< (((v4 - v4 / ((gI D 242 0).toInt64) * ((gI D 242 0).toInt64)).toInt32) &&& 31)))) (fun D10 => f_X1_drawDay_L109 k18 r1 a2 a3 v4 v6 v7 D10))) else f_X1_drawDay_L109 k18 r1 a2 a3 v4 v6 v7 D)
def f_X1_drawDay_L18  : Nat → Nat → Int32 → Int32 → Int64 → Int32 → Int32 → wd_D → Option (Int32 × wd_D)
  | 0, _, _, _, _, _, _, _ => none
  | n + 1, r1, a2, a3, v4, v6, v7, D => (if a2 ≤ v7 then some (v6, D) else ap ((v4 * 16807) - (v4 * 16807) / 2147483647 * 2147483647) (fun x4 => (if (lg_cmp (x4 - x4 / 6 * 6) 0) = 0 then (f_X3_passLorry 242 ((x4 - x4 / 20 * 20).toInt32) D).bind (fun q6 => f_X1_drawDay_L62 (f_X1_drawDay_L18 n) r1 a2 a3 x4 v6 v7 q6.2) else f_X1_drawDay_L62 (f_X1_drawDay_L18 n) r1 a2 a3 x4 v6 v7 D)))
def f_X1_drawDay (r1 : Nat) (a2 : Int32) (a3 : Int32) (D : wd_D) : Option (Int32 × wd_D) := (f_X3_become 242 r1 D).bind (fun q1 => ap a3.toInt64 (fun x2 => f_X1_drawDay_L18 FU r1 a2 a3 x2 0 0 q1))
set_option maxHeartbeats 4000000 in
set_option maxRecDepth 100000 in
theorem x_X1_drawDay (l : Launch) (X : wd_X) (r1 : Nat) (hr1 : RoomAt r1) (a2 : Int32) (a3 : Int32) (D : wd_D) {qv : Int32 × wd_D} (h : f_X1_drawDay r1 a2 a3 D = some qv) : wd_Met l X yX1_drawDay cX1_drawDay 8 (some FieldType.int) ({ frames := 4, cells := 0, slots := 0, locals := 400 }) S0 S0 ([.ref (X.2.2.1 + 241), .ref (X.2.2.1 + r1), .int a2, .int a3] : List Value) D qv.2 (some (.int qv.1)) 0 0 := by
  refine wd_enter (by decide) (Nat.le_of_ble_eq_true rfl) ?_
  intro p e s m below meth c CF hret hlk hnm hW hE ls hl
  have CF : CallFix p m c cX1_drawDay 8 s ([.ref (X.2.2.1 + 241), .ref (X.2.2.1 + r1), .int a2, .int a3] : List Value).toArray tg RX1 := CF
  have hx := CF.1
  have hb := CF.2.1
  have hown := CF.2.2.2.1
  have hts := CF.2.2.2.2
  have hS : va_S (wd_A X) s.heap s.heap [] := va_S.rf
  have hl : lv_has ls 8 [(0, .ref (X.2.2.1 + 241)), (1, .ref (X.2.2.1 + r1)), (2, .int a2), (3, .int a3)] := hl
  unfold f_X1_drawDay at h
  have hL18 : ∀ (n18 : Nat) (v4 : Int64) (v6 : Int32) (v7 : Int32) (D : wd_D) (H : Heap) (locs : List Loc) (ls : Array Slot), Wd X S0 D H → va_S (wd_A X) s.heap H locs → lv_has ls 8 [(0, .ref (X.2.2.1 + 241)), (2, .int a2), (4, .long v4), (6, .int v6), (7, .int v7)] → f_X1_drawDay_L18 n18 r1 a2 a3 v4 v6 v7 D = some qv → W p l e ({ frames := 4, cells := 0, slots := 0, locals := 400 }) s m ([.ref (X.2.2.1 + 241), .ref (X.2.2.1 + r1), .int a2, .int a3] : List Value).toArray below meth c H locs 0 0 (MQ below (wd_Q X S0 qv.2 (some (.int qv.1))) ([.ref (X.2.2.1 + 241), .ref (X.2.2.1 + r1), .int a2, .int a3] : List Value).toArray s 0 0 (wd_A X)) (F0 m 18 ls []) := by
    intro n18
    induction n18 with
    | zero => intro v4 v6 v7 D H locs ls hW hS hl h; cases h
    | succ n18 ih18 =>
      have hL135 : ∀ (v4 : Int64) (v7 : Int32) (z0 : Int32) (z1 : Int32) (D : wd_D) (H : Heap) (locs : List Loc) (ls : Array Slot), Wd X S0 D H → va_S (wd_A X) s.heap H locs → lv_has ls 8 [(0, .ref (X.2.2.1 + 241)), (2, .int a2), (4, .long v4), (7, .int v7)] → f_X1_drawDay_L135 (f_X1_drawDay_L18 n18) r1 a2 a3 v4 v7 z0 z1 D = some qv → W p l e ({ frames := 4, cells := 0, slots := 0, locals := 400 }) s m ([.ref (X.2.2.1 + 241), .ref (X.2.2.1 + r1), .int a2, .int a3] : List Value).toArray below meth c H locs 0 0 (MQ below (wd_Q X S0 qv.2 (some (.int qv.1))) ([.ref (X.2.2.1 + 241), .ref (X.2.2.1 + r1), .int a2, .int a3] : List Value).toArray s 0 0 (wd_A X)) (F0 m 135 ls [.int z0, .int z1]) := by
        intro v4 v7 z0 z1 D H locs ls hW hS hl h
        unfold f_X1_drawDay_L135 at h
        refine lv_iadd hx hb dX1_drawDay_135 ?_
        refine lv_topi (fun x14 ex14 => ?_)
        replace h := apR ex14 h
        refine lv_istore (lv' := [(6, .int x14), (0, .ref (X.2.2.1 + 241)), (2, .int a2), (4, .long v4), (7, .int v7)]) hx hb dX1_drawDay_136 hl (by decide) rfl (fun ls hl => ?_)
        obtain ⟨x15, ex15⟩ : ∃ y : Int32, y = v7 + 1 := ⟨_, rfl⟩
        replace h := apR ex15 h
        refine lv_iinc (v := x15) (lv' := [(7, .int x15), (6, .int x14), (0, .ref (X.2.2.1 + 241)), (2, .int a2), (4, .long v4)]) hx hb dX1_drawDay_138 hl (k := 4) rfl (by rw [ex15]; rfl) (by decide) rfl (fun ls hl => ?_)
        refine lv_goto (tgt := 18) hx hb dX1_drawDay_141 (by decide) ?_
        exact ih18 v4 x14 x15 D _ _ _  hW hS (lv_sub hl [2, 3, 4, 1, 0] rfl) h
      have hL109 : ∀ (v4 : Int64) (v6 : Int32) (v7 : Int32) (D : wd_D) (H : Heap) (locs : List Loc) (ls : Array Slot), Wd X S0 D H → va_S (wd_A X) s.heap H locs → lv_has ls 8 [(0, .ref (X.2.2.1 + 241)), (2, .int a2), (4, .long v4), (6, .int v6), (7, .int v7)] → f_X1_drawDay_L109 (f_X1_drawDay_L18 n18) r1 a2 a3 v4 v6 v7 D = some qv → W p l e ({ frames := 4, cells := 0, slots := 0, locals := 400 }) s m ([.ref (X.2.2.1 + 241), .ref (X.2.2.1 + r1), .int a2, .int a3] : List Value).toArray below meth c H locs 0 0 (MQ below (wd_Q X S0 qv.2 (some (.int qv.1))) ([.ref (X.2.2.1 + 241), .ref (X.2.2.1 + r1), .int a2, .int a3] : List Value).toArray s 0 0 (wd_A X)) (F0 m 109 ls []) := by
        intro v4 v6 v7 D H locs ls hW hS hl h
        unfold f_X1_drawDay_L109 at h
        refine lv_aload_n hx hb dX1_drawDay_109 rfl (lv_at hl 0 rfl) ?_
        refine wd_getR CF hE hW fl_X1_12 sh_241 rf_241_0 rfl dX1_drawDay_110 ?_
        obtain ⟨q11, eq11, h⟩ := bdE h
        refine wd_callVr (ci := 3) (k := 242) CF hE hW hS (x_X3_passMinute l X 242 room_242 D eq11) mi_X3_passMinute vi_X3_passMinute tw539 ⟨by decide, rfl⟩ (rm_s room_242) ⟨rfl, rfl, Nat.le_of_ble_eq_true rfl, Nat.le_of_ble_eq_true rfl⟩ rfl hl.1 rfl (Nat.le_of_ble_eq_true rfl) dX1_drawDay_113 ⟨Nat.le_of_ble_eq_true rfl, Nat.le_of_ble_eq_true rfl⟩ (fun H locs hW hS => ?_)
        refine lv_pop hx hb dX1_drawDay_116 rfl ?_
        refine lv_iload hx hb dX1_drawDay_117 (lv_at hl 3 rfl) ?_
        refine lv_aload_n hx hb dX1_drawDay_119 rfl (lv_at hl 0 rfl) ?_
        refine wd_getR CF hE hW fl_X1_12 sh_241 rf_241_0 rfl dX1_drawDay_120 ?_
        refine lv_iconst (v := 1) hx hb dX1_drawDay_123 (by decide) ?_
        obtain ⟨x12, ex12, h⟩ := bdE h
        refine wd_callVr (ci := 3) (k := 242) CF hE hW hS (x_X3_thoseWho l X 242 room_242 1 q11.2 ex12) mi_X3_thoseWho vi_X3_thoseWho tw568 ⟨by decide, rfl⟩ (rm_s room_242) ⟨rfl, rfl, Nat.le_of_ble_eq_true rfl, Nat.le_of_ble_eq_true rfl⟩ rfl hl.1 rfl (Nat.le_of_ble_eq_true rfl) dX1_drawDay_124 ⟨Nat.le_of_ble_eq_true rfl, Nat.le_of_ble_eq_true rfl⟩ (fun H locs hW hS => ?_)
        refine lv_if_eq (tgt := 134) hx hb dX1_drawDay_127 (by decide) (fun c13 => ?_) (fun c13 => ?_)
        · rw [if_pos c13] at h
          refine lv_iconst (v := 0) hx hb dX1_drawDay_134 (by decide) ?_
          exact hL135 v4 v7 0 v6 q11.2 _ _ _  hW hS (lv_sub hl [0, 1, 2, 4] rfl) h
        · rw [if_neg c13] at h
          refine lv_iconst (v := 1) hx hb dX1_drawDay_130 (by decide) ?_
          refine lv_goto (tgt := 135) hx hb dX1_drawDay_131 (by decide) ?_
          exact hL135 v4 v7 1 v6 q11.2 _ _ _  hW hS (lv_sub hl [0, 1, 2, 4] rfl) h
      have hL62 : ∀ (v4 : Int64) (v6 : Int32) (v7 : Int32) (D : wd_D) (H : Heap) (locs : List Loc) (ls : Array Slot), Wd X S0 D H → va_S (wd_A X) s.heap H locs → lv_has ls 8 [(0, .ref (X.2.2.1 + 241)), (2, .int a2), (4, .long v4), (6, .int v6), (7, .int v7)] → f_X1_drawDay_L62 (f_X1_drawDay_L18 n18) r1 a2 a3 v4 v6 v7 D = some qv → W p l e ({ frames := 4, cells := 0, slots := 0, locals := 400 }) s m ([.ref (X.2.2.1 + 241), .ref (X.2.2.1 + r1), .int a2, .int a3] : List Value).toArray below meth c H locs 0 0 (MQ below (wd_Q X S0 qv.2 (some (.int qv.1))) ([.ref (X.2.2.1 + 241), .ref (X.2.2.1 + r1), .int a2, .int a3] : List Value).toArray s 0 0 (wd_A X)) (F0 m 62 ls []) := by
        intro v4 v6 v7 D H locs ls hW hS hl h
        unfold f_X1_drawDay_L62 at h
        refine lv_lload hx hb dX1_drawDay_62 (lv_at hl 2 rfl) ?_
        refine lv_ldc2 (v := 7) hx hb hown (hts _ tw684) dX1_drawDay_64 ?_
        refine lv_lrem hx hb dX1_drawDay_67 (by decide) ?_
        refine lv_lconst (v := 0) hx hb dX1_drawDay_68 (by decide) ?_
        refine W.lcmp hx hb dX1_drawDay_69 ?_
        refine lv_if_ne (tgt := 109) hx hb dX1_drawDay_70 (by decide) (fun c7 => ?_) (fun c7 => ?_)
        · rw [if_neg c7] at h
          exact hL109 v4 v6 v7 D _ _ _  hW hS (lv_sub hl [0, 1, 2, 3, 4] rfl) h
        · rw [if_pos c7] at h
          refine lv_aload_n hx hb dX1_drawDay_73 rfl (lv_at hl 0 rfl) ?_
          refine wd_getR CF hE hW fl_X1_12 sh_241 rf_241_0 rfl dX1_drawDay_74 ?_
          refine wd_get CF hE hW fl_X1_82 (rm_s room_242) (v := .int (gI D 242 0)) rfl dX1_drawDay_77 ?_
          refine lv_if_le (tgt := 109) hx hb dX1_drawDay_80 (by decide) (fun c8 => ?_) (fun c8 => ?_)
          · rw [if_pos c8] at h
            exact hL109 v4 v6 v7 D _ _ _  hW hS (lv_sub hl [0, 1, 2, 3, 4] rfl) h
          · rw [if_neg c8] at h
            refine lv_aload_n hx hb dX1_drawDay_83 rfl (lv_at hl 0 rfl) ?_
            refine wd_getR CF hE hW fl_X1_12 sh_241 rf_241_0 rfl dX1_drawDay_84 ?_
            refine lv_dup hx hb dX1_drawDay_87 rfl ?_
            refine wd_get CF hE hW fl_X1_47 (rm_s room_242) (v := .int (gI D 242 5)) rfl dX1_drawDay_88 ?_
            refine lv_iconst (v := 1) hx hb dX1_drawDay_91 (by decide) ?_
            refine lv_lload hx hb dX1_drawDay_92 (lv_at hl 2 rfl) ?_
            refine lv_aload_n hx hb dX1_drawDay_94 rfl (lv_at hl 0 rfl) ?_
            refine wd_getR CF hE hW fl_X1_12 sh_241 rf_241_0 rfl dX1_drawDay_95 ?_
            refine wd_get CF hE hW fl_X1_82 (rm_s room_242) (v := .int (gI D 242 0)) rfl dX1_drawDay_98 ?_
            refine lv_i2l hx hb dX1_drawDay_101 rfl ?_
            obtain ⟨x9, ex9, h⟩ := bdE h
            have nx9 := (nzL_e ex9).2
            refine lv_lrem hx hb dX1_drawDay_102 nx9 ?_
            refine lv_l2i hx hb dX1_drawDay_103 rfl ?_
            refine lv_ishl hx hb dX1_drawDay_104 ?_
            refine lv_ior hx hb dX1_drawDay_105 ?_
            refine wd_putI CF hE hW hS fl_X1_47 (rm_s room_242) rfl rfl dX1_drawDay_106 (fun D10 H locs eD10 hW hS => ?_)
            replace h := apR eD10 h
            exact hL109 v4 v6 v7 D10 _ _ _  hW hS (lv_sub hl [0, 1, 2, 3, 4] rfl) h
      intro v4 v6 v7 D H locs ls hW hS hl h
      rw [f_X1_drawDay_L18] at h
      refine lv_iload hx hb dX1_drawDay_18 (lv_at hl 4 rfl) ?_
      refine lv_iload_n hx hb dX1_drawDay_20 rfl (lv_at hl 1 rfl) ?_
      refine lv_icmp_ge (tgt := 144) hx hb dX1_drawDay_21 (by decide) (fun c3 => ?_) (fun c3 => ?_)
      · rw [if_pos c3] at h
        refine lv_iload hx hb dX1_drawDay_144 (lv_at hl 3 rfl) ?_
        have h := Option.some.inj h
        subst h
        exact wd_iret CF hret hlk hW hS dX1_drawDay_146
      · rw [if_neg c3] at h
        refine lv_lload hx hb dX1_drawDay_24 (lv_at hl 2 rfl) ?_
        refine lv_ldc2 (v := 16807) hx hb hown (hts _ tw680) dX1_drawDay_26 ?_
        refine lv_lmul hx hb dX1_drawDay_29 ?_
        refine lv_ldc2 (v := 2147483647) hx hb hown (hts _ tw681) dX1_drawDay_30 ?_
        refine lv_lrem hx hb dX1_drawDay_33 (by decide) ?_
        refine lv_topl (fun x4 ex4 => ?_)
        replace h := apR ex4 h
        refine lv_lstore (lv' := [(4, .long x4), (0, .ref (X.2.2.1 + 241)), (2, .int a2), (6, .int v6), (7, .int v7)]) hx hb dX1_drawDay_34 hl (by decide) rfl (fun ls hl => ?_)
        refine lv_lload hx hb dX1_drawDay_36 (lv_at hl 0 rfl) ?_
        refine lv_ldc2 (v := 6) hx hb hown (hts _ tw682) dX1_drawDay_38 ?_
        refine lv_lrem hx hb dX1_drawDay_41 (by decide) ?_
        refine lv_lconst (v := 0) hx hb dX1_drawDay_42 (by decide) ?_
        refine W.lcmp hx hb dX1_drawDay_43 ?_
        refine lv_if_ne (tgt := 62) hx hb dX1_drawDay_44 (by decide) (fun c5 => ?_) (fun c5 => ?_)
        · rw [if_neg c5] at h
          exact hL62 x4 v6 v7 D _ _ _  hW hS (lv_sub hl [1, 2, 0, 3, 4] rfl) h
        · rw [if_pos c5] at h
          refine lv_aload_n hx hb dX1_drawDay_47 rfl (lv_at hl 1 rfl) ?_
          refine wd_getR CF hE hW fl_X1_12 sh_241 rf_241_0 rfl dX1_drawDay_48 ?_
          refine lv_lload hx hb dX1_drawDay_51 (lv_at hl 0 rfl) ?_
          refine lv_ldc2 (v := 20) hx hb hown (hts _ tw683) dX1_drawDay_53 ?_
          refine lv_lrem hx hb dX1_drawDay_56 (by decide) ?_
          refine lv_l2i hx hb dX1_drawDay_57 rfl ?_
          obtain ⟨q6, eq6, h⟩ := bdE h
          refine wd_callVr (ci := 3) (k := 242) CF hE hW hS (x_X3_passLorry l X 242 room_242 ((x4 - x4 / 20 * 20).toInt32) D eq6) mi_X3_passLorry vi_X3_passLorry tw661 ⟨by decide, rfl⟩ (rm_s room_242) ⟨rfl, rfl, Nat.le_of_ble_eq_true rfl, Nat.le_of_ble_eq_true rfl⟩ rfl hl.1 rfl (Nat.le_of_ble_eq_true rfl) dX1_drawDay_58 ⟨Nat.le_of_ble_eq_true rfl, Nat.le_of_ble_eq_true rfl⟩ (fun H locs hW hS => ?_)
          refine lv_pop hx hb dX1_drawDay_61 rfl ?_
          exact hL62 x4 v6 v7 q6.2 _ _ _  hW hS (lv_sub hl [1, 2, 0, 3, 4] rfl) h
  refine lv_aload_n hx hb dX1_drawDay_0 rfl (lv_at hl 0 rfl) ?_
  refine wd_getR CF hE hW fl_X1_12 sh_241 rf_241_0 rfl dX1_drawDay_1 ?_
  refine lv_aload_n hx hb dX1_drawDay_4 rfl (lv_at hl 1 rfl) ?_
  obtain ⟨q1, eq1, h⟩ := bdE h
  refine wd_callVv (ci := 3) (k := 242) CF hE hW hS (x_X3_become l X 242 room_242 r1 hr1 D eq1) mi_X3_become vi_X3_become tw517 ⟨by decide, rfl⟩ (rm_s room_242) ⟨rfl, rfl, Nat.le_of_ble_eq_true rfl, Nat.le_of_ble_eq_true rfl⟩ rfl hl.1 rfl (Nat.le_of_ble_eq_true rfl) dX1_drawDay_5 ⟨Nat.le_of_ble_eq_true rfl, Nat.le_of_ble_eq_true rfl⟩ (fun H locs hW hS => ?_)
  refine lv_iload_n hx hb dX1_drawDay_8 rfl (lv_at hl 3 rfl) ?_
  refine lv_i2l hx hb dX1_drawDay_9 rfl ?_
  refine lv_topl (fun x2 ex2 => ?_)
  replace h := apR ex2 h
  refine lv_lstore (lv' := [(4, .long x2), (0, .ref (X.2.2.1 + 241)), (1, .ref (X.2.2.1 + r1)), (2, .int a2), (3, .int a3)]) hx hb dX1_drawDay_10 hl (by decide) rfl (fun ls hl => ?_)
  refine lv_iconst (v := 0) hx hb dX1_drawDay_12 (by decide) ?_
  refine lv_istore (lv' := [(6, .int 0), (4, .long x2), (0, .ref (X.2.2.1 + 241)), (1, .ref (X.2.2.1 + r1)), (2, .int a2), (3, .int a3)]) hx hb dX1_drawDay_13 hl (by decide) rfl (fun ls hl => ?_)
  refine lv_iconst (v := 0) hx hb dX1_drawDay_15 (by decide) ?_
  refine lv_istore (lv' := [(7, .int 0), (6, .int 0), (4, .long x2), (0, .ref (X.2.2.1 + 241)), (1, .ref (X.2.2.1 + r1)), (2, .int a2), (3, .int a3)]) hx hb dX1_drawDay_16 hl (by decide) rfl (fun ls hl => ?_)
  exact hL18 FU x2 0 0 q1 _ _ _  hW hS (lv_sub hl [3, 5, 2, 1, 0] rfl) h
