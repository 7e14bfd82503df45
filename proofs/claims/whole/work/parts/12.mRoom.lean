/-! X3_thoseWho, X3_heardCriers, X3_callsOf, X3_noiseAt, X3_become, X3_lieDown, X3_calmDown, X3_bearsOf, X3_cry, X3_wake, X3_calmGained, X3_listen, X3_passMinute, X3_passMinutes, X3_sleepAll, X3_everybody, X3_swapCots, X3_passLorry, X3_clear, X3_addChild, X3_whereLoudest, X3_loudestUnheeded -/
def f_X3_thoseWho_L28 (k4 : Nat → Int32 → Int32 → Int32 → wd_D → Option (Int32)) (t : Nat) (a1 : Int32) (v2 : Int32) (v3 : Int32) (D : wd_D) : Option (Int32) := ap (v3 + 1) (fun x5 => k4 t a1 v2 x5 D)
def f_X3_thoseWho_L4  : Nat → Nat → Int32 → Int32 → Int32 → wd_D → Option (Int32)
  | 0, _, _, _, _, _ => none
  | n + 1, t, a1, v2, v3, D => (if (gI D t 0) ≤ v3 then some v2 else (rd 7 D (t + 6) v3).bind (fun x2 => (if x2 = a1 then ap (v2 ||| ((1 : Int32) <<< (v3 &&& 31))) (fun x4 => f_X3_thoseWho_L28 (f_X3_thoseWho_L4 n) t a1 x4 v3 D) else f_X3_thoseWho_L28 (f_X3_thoseWho_L4 n) t a1 v2 v3 D)))
def f_X3_thoseWho (t : Nat) (a1 : Int32) (D : wd_D) : Option (Int32) := f_X3_thoseWho_L4 FU t a1 0 0 D
set_option maxHeartbeats 4000000 in
set_option maxRecDepth 100000 in
theorem x_X3_thoseWho (l : Launch) (X : wd_X) (t : Nat) (ht : RoomAt t) (a1 : Int32) (D : wd_D) {rv : Int32} (h : f_X3_thoseWho t a1 D = some rv) : wd_Met l X yX3_thoseWho cX3_thoseWho 4 (some FieldType.int) ({ frames := 0, cells := 0, slots := 0, locals := 0 }) S0 S0 ([.ref (X.2.2.1 + t), .int a1] : List Value) D D (some (.int rv)) 0 0 := by
  refine wd_enter (by decide) (Nat.le_of_ble_eq_true rfl) ?_
  intro p e s m below meth c CF hret hlk hnm hW hE ls hl
  have CF : CallFix p m c cX3_thoseWho 4 s ([.ref (X.2.2.1 + t), .int a1] : List Value).toArray tg RX3 := CF
  have hx := CF.1
  have hb := CF.2.1
  have hown := CF.2.2.2.1
  have hts := CF.2.2.2.2
  have hS : va_S (wd_A X) s.heap s.heap [] := va_S.rf
  have hl : lv_has ls 4 [(0, .ref (X.2.2.1 + t)), (1, .int a1)] := hl
  unfold f_X3_thoseWho at h
  have hL4 : ∀ (n4 : Nat) (v2 : Int32) (v3 : Int32) (H : Heap) (locs : List Loc) (ls : Array Slot), Wd X S0 D H → va_S (wd_A X) s.heap H locs → lv_has ls 4 [(0, .ref (X.2.2.1 + t)), (1, .int a1), (2, .int v2), (3, .int v3)] → f_X3_thoseWho_L4 n4 t a1 v2 v3 D = some rv → W p l e ({ frames := 0, cells := 0, slots := 0, locals := 0 }) s m ([.ref (X.2.2.1 + t), .int a1] : List Value).toArray below meth c H locs 0 0 (MQ below (wd_Q X S0 D (some (.int rv))) ([.ref (X.2.2.1 + t), .int a1] : List Value).toArray s 0 0 (wd_A X)) (F0 m 4 ls []) := by
    intro n4
    induction n4 with
    | zero => intro v2 v3 H locs ls hW hS hl h; cases h
    | succ n4 ih4 =>
      have hL28 : ∀ (v2 : Int32) (v3 : Int32) (H : Heap) (locs : List Loc) (ls : Array Slot), Wd X S0 D H → va_S (wd_A X) s.heap H locs → lv_has ls 4 [(0, .ref (X.2.2.1 + t)), (1, .int a1), (2, .int v2), (3, .int v3)] → f_X3_thoseWho_L28 (f_X3_thoseWho_L4 n4) t a1 v2 v3 D = some rv → W p l e ({ frames := 0, cells := 0, slots := 0, locals := 0 }) s m ([.ref (X.2.2.1 + t), .int a1] : List Value).toArray below meth c H locs 0 0 (MQ below (wd_Q X S0 D (some (.int rv))) ([.ref (X.2.2.1 + t), .int a1] : List Value).toArray s 0 0 (wd_A X)) (F0 m 28 ls []) := by
        intro v2 v3 H locs ls hW hS hl h
        unfold f_X3_thoseWho_L28 at h
        obtain ⟨x5, ex5⟩ : ∃ y : Int32, y = v3 + 1 := ⟨_, rfl⟩
        replace h := apR ex5 h
        refine lv_iinc (v := x5) (lv' := [(3, .int x5), (0, .ref (X.2.2.1 + t)), (1, .int a1), (2, .int v2)]) hx hb dX3_thoseWho_28 hl (k := 3) rfl (by rw [ex5]; rfl) (by decide) rfl (fun ls hl => ?_)
        refine lv_goto (tgt := 4) hx hb dX3_thoseWho_31 (by decide) ?_
        exact ih4 v2 x5 _ _ _  hW hS (lv_sub hl [1, 2, 3, 0] rfl) h
      intro v2 v3 H locs ls hW hS hl h
      rw [f_X3_thoseWho_L4] at h
      refine lv_iload_n hx hb dX3_thoseWho_4 rfl (lv_at hl 3 rfl) ?_
      refine lv_aload_n hx hb dX3_thoseWho_5 rfl (lv_at hl 0 rfl) ?_
      refine wd_get CF hE hW fl_X3_36 (rm_s ht) (v := .int (gI D t 0)) rfl dX3_thoseWho_6 ?_
      refine lv_icmp_ge (tgt := 34) hx hb dX3_thoseWho_9 (by decide) (fun c1 => ?_) (fun c1 => ?_)
      · rw [if_pos c1] at h
        refine lv_iload_n hx hb dX3_thoseWho_34 rfl (lv_at hl 2 rfl) ?_
        have h := Option.some.inj h
        subst h
        exact wd_iret CF hret hlk hW hS dX3_thoseWho_35
      · rw [if_neg c1] at h
        refine lv_aload_n hx hb dX3_thoseWho_12 rfl (lv_at hl 0 rfl) ?_
        refine wd_getR CF hE hW fl_X3_27 (rm_s ht) (rm_r5 ht) rfl dX3_thoseWho_13 ?_
        refine lv_iload_n hx hb dX3_thoseWho_16 rfl (lv_at hl 3 rfl) ?_
        obtain ⟨x2, ex2, h⟩ := bdE h
        refine wd_iald CF hE hW (rm_a5 ht) ex2 dX3_thoseWho_17 ?_
        refine lv_iload_n hx hb dX3_thoseWho_18 rfl (lv_at hl 1 rfl) ?_
        refine lv_icmp_ne (tgt := 28) hx hb dX3_thoseWho_19 (by decide) (fun c3 => ?_) (fun c3 => ?_)
        · rw [if_neg c3] at h
          exact hL28 v2 v3 _ _ _  hW hS (lv_sub hl [0, 1, 2, 3] rfl) h
        · rw [if_pos c3] at h
          refine lv_iload_n hx hb dX3_thoseWho_22 rfl (lv_at hl 2 rfl) ?_
          refine lv_iconst (v := 1) hx hb dX3_thoseWho_23 (by decide) ?_
          refine lv_iload_n hx hb dX3_thoseWho_24 rfl (lv_at hl 3 rfl) ?_
          refine lv_ishl hx hb dX3_thoseWho_25 ?_
          refine lv_ior hx hb dX3_thoseWho_26 ?_
          refine lv_topi (fun x4 ex4 => ?_)
          replace h := apR ex4 h
          refine lv_istore_n (lv' := [(2, .int x4), (0, .ref (X.2.2.1 + t)), (1, .int a1), (3, .int v3)]) hx hb dX3_thoseWho_27 rfl hl (by decide) rfl (fun ls hl => ?_)
          exact hL28 x4 v3 _ _ _  hW hS (lv_sub hl [1, 2, 0, 3] rfl) h
  refine lv_iconst (v := 0) hx hb dX3_thoseWho_0 (by decide) ?_
  refine lv_istore_n (lv' := [(2, .int 0), (0, .ref (X.2.2.1 + t)), (1, .int a1)]) hx hb dX3_thoseWho_1 rfl hl (by decide) rfl (fun ls hl => ?_)
  refine lv_iconst (v := 0) hx hb dX3_thoseWho_2 (by decide) ?_
  refine lv_istore_n (lv' := [(3, .int 0), (2, .int 0), (0, .ref (X.2.2.1 + t)), (1, .int a1)]) hx hb dX3_thoseWho_3 rfl hl (by decide) rfl (fun ls hl => ?_)
  exact hL4 FU 0 0 _ _ _  hW hS (lv_sub hl [2, 3, 1, 0] rfl) h
def f_X3_heardCriers (t : Nat) (D : wd_D) : Option (Int32) := (f_X3_thoseWho t 1 D).bind (fun x1 => some (x1 &&& ((gI D t 5) ^^^ (-1))))
set_option maxHeartbeats 4000000 in
set_option maxRecDepth 100000 in
theorem x_X3_heardCriers (l : Launch) (X : wd_X) (t : Nat) (ht : RoomAt t) (D : wd_D) {rv : Int32} (h : f_X3_heardCriers t D = some rv) : wd_Met l X yX3_heardCriers cX3_heardCriers 1 (some FieldType.int) ({ frames := 1, cells := 0, slots := 0, locals := 100 }) S0 S0 ([.ref (X.2.2.1 + t)] : List Value) D D (some (.int rv)) 0 0 := by
  refine wd_enter (by decide) (Nat.le_of_ble_eq_true rfl) ?_
  intro p e s m below meth c CF hret hlk hnm hW hE ls hl
  have CF : CallFix p m c cX3_heardCriers 1 s ([.ref (X.2.2.1 + t)] : List Value).toArray tg RX3 := CF
  have hx := CF.1
  have hb := CF.2.1
  have hown := CF.2.2.2.1
  have hts := CF.2.2.2.2
  have hS : va_S (wd_A X) s.heap s.heap [] := va_S.rf
  have hl : lv_has ls 1 [(0, .ref (X.2.2.1 + t))] := hl
  unfold f_X3_heardCriers at h
  refine lv_aload_n hx hb dX3_heardCriers_0 rfl (lv_at hl 0 rfl) ?_
  refine lv_iconst (v := 1) hx hb dX3_heardCriers_1 (by decide) ?_
  obtain ⟨x1, ex1, h⟩ := bdE h
  refine wd_callVr (ci := 3) (k := t) CF hE hW hS (x_X3_thoseWho l X t ht 1 D ex1) mi_X3_thoseWho vi_X3_thoseWho tw416 ⟨by decide, rfl⟩ (rm_s ht) ⟨rfl, rfl, Nat.le_of_ble_eq_true rfl, Nat.le_of_ble_eq_true rfl⟩ rfl hl.1 rfl (Nat.le_of_ble_eq_true rfl) dX3_heardCriers_2 ⟨Nat.le_of_ble_eq_true rfl, Nat.le_of_ble_eq_true rfl⟩ (fun H locs hW hS => ?_)
  refine lv_aload_n hx hb dX3_heardCriers_5 rfl (lv_at hl 0 rfl) ?_
  refine wd_get CF hE hW fl_X3_52 (rm_s ht) (v := .int (gI D t 5)) rfl dX3_heardCriers_6 ?_
  refine lv_iconst (v := (-1)) hx hb dX3_heardCriers_9 (by decide) ?_
  refine lv_ixor hx hb dX3_heardCriers_10 ?_
  refine lv_iand hx hb dX3_heardCriers_11 ?_
  have h := Option.some.inj h
  subst h
  exact wd_iret CF hret hlk hW hS dX3_heardCriers_12
def f_X3_callsOf (t : Nat) (a1 : Int32) (D : wd_D) : Option (Int32) := (rd 7 D (t + 1) a1).bind (fun x1 => (if x1 = 2 then (rd 7 D (t + 4) a1).bind (fun x4 => some (2 * x4)) else (rd 7 D (t + 4) a1).bind (fun x3 => some x3)))
set_option maxHeartbeats 4000000 in
set_option maxRecDepth 100000 in
theorem x_X3_callsOf (l : Launch) (X : wd_X) (t : Nat) (ht : RoomAt t) (a1 : Int32) (D : wd_D) {rv : Int32} (h : f_X3_callsOf t a1 D = some rv) : wd_Met l X yX3_callsOf cX3_callsOf 2 (some FieldType.int) ({ frames := 0, cells := 0, slots := 0, locals := 0 }) S0 S0 ([.ref (X.2.2.1 + t), .int a1] : List Value) D D (some (.int rv)) 0 0 := by
  refine wd_enter (by decide) (Nat.le_of_ble_eq_true rfl) ?_
  intro p e s m below meth c CF hret hlk hnm hW hE ls hl
  have CF : CallFix p m c cX3_callsOf 2 s ([.ref (X.2.2.1 + t), .int a1] : List Value).toArray tg RX3 := CF
  have hx := CF.1
  have hb := CF.2.1
  have hown := CF.2.2.2.1
  have hts := CF.2.2.2.2
  have hS : va_S (wd_A X) s.heap s.heap [] := va_S.rf
  have hl : lv_has ls 2 [(0, .ref (X.2.2.1 + t)), (1, .int a1)] := hl
  unfold f_X3_callsOf at h
  refine lv_aload_n hx hb dX3_callsOf_0 rfl (lv_at hl 0 rfl) ?_
  refine wd_getR CF hE hW fl_X3_9 (rm_s ht) (rm_r0 ht) rfl dX3_callsOf_1 ?_
  refine lv_iload_n hx hb dX3_callsOf_4 rfl (lv_at hl 1 rfl) ?_
  obtain ⟨x1, ex1, h⟩ := bdE h
  refine wd_iald CF hE hW (rm_a0 ht) ex1 dX3_callsOf_5 ?_
  refine lv_iconst (v := 2) hx hb dX3_callsOf_6 (by decide) ?_
  refine lv_icmp_ne (tgt := 21) hx hb dX3_callsOf_7 (by decide) (fun c2 => ?_) (fun c2 => ?_)
  · rw [if_neg c2] at h
    refine lv_aload_n hx hb dX3_callsOf_21 rfl (lv_at hl 0 rfl) ?_
    refine wd_getR CF hE hW fl_X3_21 (rm_s ht) (rm_r3 ht) rfl dX3_callsOf_22 ?_
    refine lv_iload_n hx hb dX3_callsOf_25 rfl (lv_at hl 1 rfl) ?_
    obtain ⟨x3, ex3, h⟩ := bdE h
    refine wd_iald CF hE hW (rm_a3 ht) ex3 dX3_callsOf_26 ?_
    have h := Option.some.inj h
    subst h
    exact wd_iret CF hret hlk hW hS dX3_callsOf_27
  · rw [if_pos c2] at h
    refine lv_iconst (v := 2) hx hb dX3_callsOf_10 (by decide) ?_
    refine lv_aload_n hx hb dX3_callsOf_11 rfl (lv_at hl 0 rfl) ?_
    refine wd_getR CF hE hW fl_X3_21 (rm_s ht) (rm_r3 ht) rfl dX3_callsOf_12 ?_
    refine lv_iload_n hx hb dX3_callsOf_15 rfl (lv_at hl 1 rfl) ?_
    obtain ⟨x4, ex4, h⟩ := bdE h
    refine wd_iald CF hE hW (rm_a3 ht) ex4 dX3_callsOf_16 ?_
    refine lv_imul hx hb dX3_callsOf_17 ?_
    refine lv_goto (tgt := 27) hx hb dX3_callsOf_18 (by decide) ?_
    have h := Option.some.inj h
    subst h
    exact wd_iret CF hret hlk hW hS dX3_callsOf_27
def f_X3_noiseAt_L64 (k5 : Nat → Int32 → Int32 → Int32 → Int32 → wd_D → Option (Int32)) (t : Nat) (a1 : Int32) (a2 : Int32) (v3 : Int32) (v4 : Int32) (D : wd_D) : Option (Int32) := ap (v4 + 1) (fun x9 => k5 t a1 a2 v3 x9 D)
def f_X3_noiseAt_L5  : Nat → Nat → Int32 → Int32 → Int32 → Int32 → wd_D → Option (Int32)
  | 0, _, _, _, _, _, _ => none
  | n + 1, t, a1, a2, v3, v4, D => (if (gI D t 0) ≤ v4 then some v3 else (if a2 = 0 then some v3 else (if v4 = a1 then f_X3_noiseAt_L64 (f_X3_noiseAt_L5 n) t a1 a2 v3 v4 D else (if (f_X6_has a2 v4) = 0 then f_X3_noiseAt_L64 (f_X3_noiseAt_L5 n) t a1 a2 v3 v4 D else (f_X3_callsOf t v4 D).bind (fun x5 => (rd 7 D (t + 5) v4).bind (fun x6 => (rd 7 D (t + 5) a1).bind (fun x7 => ap (v3 + (if 0 < (x5 - (if 0 ≤ (x6 - x7) then (x6 - x7) else 0 - (x6 - x7))) then (x5 - (if 0 ≤ (x6 - x7) then (x6 - x7) else 0 - (x6 - x7))) else 0)) (fun x8 => f_X3_noiseAt_L64 (f_X3_noiseAt_L5 n) t a1 a2 x8 v4 D))))))))
def f_X3_noiseAt (t : Nat) (a1 : Int32) (a2 : Int32) (D : wd_D) : Option (Int32) := f_X3_noiseAt_L5 FU t a1 a2 0 0 D
set_option maxHeartbeats 4000000 in
set_option maxRecDepth 100000 in
theorem x_X3_noiseAt (l : Launch) (X : wd_X) (t : Nat) (ht : RoomAt t) (a1 : Int32) (a2 : Int32) (D : wd_D) {rv : Int32} (h : f_X3_noiseAt t a1 a2 D = some rv) : wd_Met l X yX3_noiseAt cX3_noiseAt 5 (some FieldType.int) ({ frames := 1, cells := 0, slots := 0, locals := 100 }) S0 S0 ([.ref (X.2.2.1 + t), .int a1, .int a2] : List Value) D D (some (.int rv)) 0 0 := by
  refine wd_enter (by decide) (Nat.le_of_ble_eq_true rfl) ?_
  intro p e s m below meth c CF hret hlk hnm hW hE ls hl
  have CF : CallFix p m c cX3_noiseAt 5 s ([.ref (X.2.2.1 + t), .int a1, .int a2] : List Value).toArray tg RX3 := CF
  have hx := CF.1
  have hb := CF.2.1
  have hown := CF.2.2.2.1
  have hts := CF.2.2.2.2
  have hS : va_S (wd_A X) s.heap s.heap [] := va_S.rf
  have hl : lv_has ls 5 [(0, .ref (X.2.2.1 + t)), (1, .int a1), (2, .int a2)] := hl
  unfold f_X3_noiseAt at h
  have hL5 : ∀ (n5 : Nat) (v3 : Int32) (v4 : Int32) (H : Heap) (locs : List Loc) (ls : Array Slot), Wd X S0 D H → va_S (wd_A X) s.heap H locs → lv_has ls 5 [(0, .ref (X.2.2.1 + t)), (1, .int a1), (2, .int a2), (3, .int v3), (4, .int v4)] → f_X3_noiseAt_L5 n5 t a1 a2 v3 v4 D = some rv → W p l e ({ frames := 1, cells := 0, slots := 0, locals := 100 }) s m ([.ref (X.2.2.1 + t), .int a1, .int a2] : List Value).toArray below meth c H locs 0 0 (MQ below (wd_Q X S0 D (some (.int rv))) ([.ref (X.2.2.1 + t), .int a1, .int a2] : List Value).toArray s 0 0 (wd_A X)) (F0 m 5 ls []) := by
    intro n5
    induction n5 with
    | zero => intro v3 v4 H locs ls hW hS hl h; cases h
    | succ n5 ih5 =>
      have hL64 : ∀ (v3 : Int32) (v4 : Int32) (H : Heap) (locs : List Loc) (ls : Array Slot), Wd X S0 D H → va_S (wd_A X) s.heap H locs → lv_has ls 5 [(0, .ref (X.2.2.1 + t)), (1, .int a1), (2, .int a2), (3, .int v3), (4, .int v4)] → f_X3_noiseAt_L64 (f_X3_noiseAt_L5 n5) t a1 a2 v3 v4 D = some rv → W p l e ({ frames := 1, cells := 0, slots := 0, locals := 100 }) s m ([.ref (X.2.2.1 + t), .int a1, .int a2] : List Value).toArray below meth c H locs 0 0 (MQ below (wd_Q X S0 D (some (.int rv))) ([.ref (X.2.2.1 + t), .int a1, .int a2] : List Value).toArray s 0 0 (wd_A X)) (F0 m 64 ls []) := by
        intro v3 v4 H locs ls hW hS hl h
        unfold f_X3_noiseAt_L64 at h
        obtain ⟨x9, ex9⟩ : ∃ y : Int32, y = v4 + 1 := ⟨_, rfl⟩
        replace h := apR ex9 h
        refine lv_iinc (v := x9) (lv' := [(4, .int x9), (0, .ref (X.2.2.1 + t)), (1, .int a1), (2, .int a2), (3, .int v3)]) hx hb dX3_noiseAt_64 hl (k := 4) rfl (by rw [ex9]; rfl) (by decide) rfl (fun ls hl => ?_)
        refine lv_goto (tgt := 5) hx hb dX3_noiseAt_67 (by decide) ?_
        exact ih5 v3 x9 _ _ _  hW hS (lv_sub hl [1, 2, 3, 4, 0] rfl) h
      intro v3 v4 H locs ls hW hS hl h
      rw [f_X3_noiseAt_L5] at h
      refine lv_iload hx hb dX3_noiseAt_5 (lv_at hl 4 rfl) ?_
      refine lv_aload_n hx hb dX3_noiseAt_7 rfl (lv_at hl 0 rfl) ?_
      refine wd_get CF hE hW fl_X3_36 (rm_s ht) (v := .int (gI D t 0)) rfl dX3_noiseAt_8 ?_
      refine lv_icmp_ge (tgt := 70) hx hb dX3_noiseAt_11 (by decide) (fun c1 => ?_) (fun c1 => ?_)
      · rw [if_pos c1] at h
        refine lv_iload_n hx hb dX3_noiseAt_70 rfl (lv_at hl 3 rfl) ?_
        have h := Option.some.inj h
        subst h
        exact wd_iret CF hret hlk hW hS dX3_noiseAt_71
      · rw [if_neg c1] at h
        refine lv_iload_n hx hb dX3_noiseAt_14 rfl (lv_at hl 2 rfl) ?_
        refine lv_if_eq (tgt := 70) hx hb dX3_noiseAt_15 (by decide) (fun c2 => ?_) (fun c2 => ?_)
        · rw [if_pos c2] at h
          refine lv_iload_n hx hb dX3_noiseAt_70 rfl (lv_at hl 3 rfl) ?_
          have h := Option.some.inj h
          subst h
          exact wd_iret CF hret hlk hW hS dX3_noiseAt_71
        · rw [if_neg c2] at h
          refine lv_iload hx hb dX3_noiseAt_18 (lv_at hl 4 rfl) ?_
          refine lv_iload_n hx hb dX3_noiseAt_20 rfl (lv_at hl 1 rfl) ?_
          refine lv_icmp_eq (tgt := 64) hx hb dX3_noiseAt_21 (by decide) (fun c3 => ?_) (fun c3 => ?_)
          · rw [if_pos c3] at h
            exact hL64 v3 v4 _ _ _  hW hS (lv_sub hl [0, 1, 2, 3, 4] rfl) h
          · rw [if_neg c3] at h
            refine lv_iload_n hx hb dX3_noiseAt_24 rfl (lv_at hl 2 rfl) ?_
            refine lv_iload hx hb dX3_noiseAt_25 (lv_at hl 4 rfl) ?_
            refine wd_callSNr CF hE hW hS (x_X6_has l X a2 v4 D) mi_X6_has vi_X6_has tn424 ⟨rfl, rfl, Nat.le_of_ble_eq_true rfl, Nat.le_of_ble_eq_true rfl⟩ rfl hl.1 rfl (Nat.le_of_ble_eq_true rfl) dX3_noiseAt_27 ⟨Nat.le_of_ble_eq_true rfl, Nat.le_of_ble_eq_true rfl⟩ (fun H locs hW hS => ?_)
            refine lv_if_eq (tgt := 64) hx hb dX3_noiseAt_30 (by decide) (fun c4 => ?_) (fun c4 => ?_)
            · rw [if_pos c4] at h
              exact hL64 v3 v4 _ _ _  hW hS (lv_sub hl [0, 1, 2, 3, 4] rfl) h
            · rw [if_neg c4] at h
              refine lv_iload_n hx hb dX3_noiseAt_33 rfl (lv_at hl 3 rfl) ?_
              refine lv_iconst (v := 0) hx hb dX3_noiseAt_34 (by decide) ?_
              refine lv_aload_n hx hb dX3_noiseAt_35 rfl (lv_at hl 0 rfl) ?_
              refine lv_iload hx hb dX3_noiseAt_36 (lv_at hl 4 rfl) ?_
              obtain ⟨x5, ex5, h⟩ := bdE h
              refine wd_callVr (ci := 3) (k := t) CF hE hW hS (x_X3_callsOf l X t ht v4 D ex5) mi_X3_callsOf vi_X3_callsOf tw431 ⟨by decide, rfl⟩ (rm_s ht) ⟨rfl, rfl, Nat.le_of_ble_eq_true rfl, Nat.le_of_ble_eq_true rfl⟩ rfl hl.1 rfl (Nat.le_of_ble_eq_true rfl) dX3_noiseAt_38 ⟨Nat.le_of_ble_eq_true rfl, Nat.le_of_ble_eq_true rfl⟩ (fun H locs hW hS => ?_)
              refine lv_aload_n hx hb dX3_noiseAt_41 rfl (lv_at hl 0 rfl) ?_
              refine wd_getR CF hE hW fl_X3_24 (rm_s ht) (rm_r4 ht) rfl dX3_noiseAt_42 ?_
              refine lv_iload hx hb dX3_noiseAt_45 (lv_at hl 4 rfl) ?_
              obtain ⟨x6, ex6, h⟩ := bdE h
              refine wd_iald CF hE hW (rm_a4 ht) ex6 dX3_noiseAt_47 ?_
              refine lv_aload_n hx hb dX3_noiseAt_48 rfl (lv_at hl 0 rfl) ?_
              refine wd_getR CF hE hW fl_X3_24 (rm_s ht) (rm_r4 ht) rfl dX3_noiseAt_49 ?_
              refine lv_iload_n hx hb dX3_noiseAt_52 rfl (lv_at hl 1 rfl) ?_
              obtain ⟨x7, ex7, h⟩ := bdE h
              refine wd_iald CF hE hW (rm_a4 ht) ex7 dX3_noiseAt_53 ?_
              refine lv_isub hx hb dX3_noiseAt_54 ?_
              refine va_mabs hx hb (CF.2.2.1.trans hl.1.symm) hown (hts _ tw435) (hts _ tw436) (hts _ tw10) (hts _ tw437) (Nat.le_of_ble_eq_true rfl) (Nat.le_of_ble_eq_true rfl) (Nat.le_of_ble_eq_true rfl) (Nat.le_of_ble_eq_true rfl) dX3_noiseAt_55 ?_
              refine lv_isub hx hb dX3_noiseAt_58 ?_
              refine va_mmax hx hb (CF.2.2.1.trans hl.1.symm) hown (hts _ tw438) (hts _ tw367) (hts _ tw10) (hts _ tw368) (Nat.le_of_ble_eq_true rfl) (Nat.le_of_ble_eq_true rfl) (Nat.le_of_ble_eq_true rfl) (Nat.le_of_ble_eq_true rfl) dX3_noiseAt_59 ?_
              refine lv_iadd hx hb dX3_noiseAt_62 ?_
              refine lv_topi (fun x8 ex8 => ?_)
              replace h := apR ex8 h
              refine lv_istore_n (lv' := [(3, .int x8), (0, .ref (X.2.2.1 + t)), (1, .int a1), (2, .int a2), (4, .int v4)]) hx hb dX3_noiseAt_63 rfl hl (by decide) rfl (fun ls hl => ?_)
              exact hL64 x8 v4 _ _ _  hW hS (lv_sub hl [1, 2, 3, 0, 4] rfl) h
  refine lv_iconst (v := 0) hx hb dX3_noiseAt_0 (by decide) ?_
  refine lv_istore_n (lv' := [(3, .int 0), (0, .ref (X.2.2.1 + t)), (1, .int a1), (2, .int a2)]) hx hb dX3_noiseAt_1 rfl hl (by decide) rfl (fun ls hl => ?_)
  refine lv_iconst (v := 0) hx hb dX3_noiseAt_2 (by decide) ?_
  refine lv_istore (lv' := [(4, .int 0), (3, .int 0), (0, .ref (X.2.2.1 + t)), (1, .int a1), (2, .int a2)]) hx hb dX3_noiseAt_3 hl (by decide) rfl (fun ls hl => ?_)
  exact hL5 FU 0 0 _ _ _  hW hS (lv_sub hl [2, 3, 4, 1, 0] rfl) h
def f_X3_become (t : Nat) (r1 : Nat) (D : wd_D) : Option (wd_D) := ap (sI D t 0 (gI D r1 0)) (fun D1 => ap (sI D1 t 1 (gI D1 r1 1)) (fun D2 => ap (sI D2 t 2 (gI D2 r1 2)) (fun D3 => ap (sI D3 t 3 (gI D3 r1 3)) (fun D4 => ap (sI D4 t 4 (gI D4 r1 4)) (fun D5 => ap (sI D5 t 5 (gI D5 r1 5)) (fun D6 => (cp 7 7 D6 (r1 + 1) 0 (t + 1) 0 7).bind (fun D7 => (cp 7 7 D7 (r1 + 2) 0 (t + 2) 0 7).bind (fun D8 => (cp 7 7 D8 (r1 + 3) 0 (t + 3) 0 7).bind (fun D9 => (cp 7 7 D9 (r1 + 4) 0 (t + 4) 0 7).bind (fun D10 => (cp 7 7 D10 (r1 + 5) 0 (t + 5) 0 7).bind (fun D11 => (cp 7 7 D11 (r1 + 6) 0 (t + 6) 0 7).bind (fun D12 => (cp 7 7 D12 (r1 + 7) 0 (t + 7) 0 7).bind (fun D13 => (cp 7 7 D13 (r1 + 8) 0 (t + 8) 0 7).bind (fun D14 => some D14))))))))))))))
set_option maxHeartbeats 4000000 in
set_option maxRecDepth 100000 in
theorem x_X3_become (l : Launch) (X : wd_X) (t : Nat) (ht : RoomAt t) (r1 : Nat) (hr1 : RoomAt r1) (D : wd_D) {qv : wd_D} (h : f_X3_become t r1 D = some qv) : wd_Met l X yX3_become cX3_become 2 (none : Option FieldType) ({ frames := 1, cells := 0, slots := 0, locals := 100 }) S0 S0 ([.ref (X.2.2.1 + t), .ref (X.2.2.1 + r1)] : List Value) D qv none 0 0 := by
  refine wd_enter (by decide) (Nat.le_of_ble_eq_true rfl) ?_
  intro p e s m below meth c CF hret hlk hnm hW hE ls hl
  have CF : CallFix p m c cX3_become 2 s ([.ref (X.2.2.1 + t), .ref (X.2.2.1 + r1)] : List Value).toArray tg RX3 := CF
  have hx := CF.1
  have hb := CF.2.1
  have hown := CF.2.2.2.1
  have hts := CF.2.2.2.2
  have hS : va_S (wd_A X) s.heap s.heap [] := va_S.rf
  have hl : lv_has ls 2 [(0, .ref (X.2.2.1 + t)), (1, .ref (X.2.2.1 + r1))] := hl
  unfold f_X3_become at h
  refine lv_aload_n hx hb dX3_become_0 rfl (lv_at hl 0 rfl) ?_
  refine lv_aload_n hx hb dX3_become_1 rfl (lv_at hl 1 rfl) ?_
  refine wd_get CF hE hW fl_X3_36 (rm_s hr1) (v := .int (gI D r1 0)) rfl dX3_become_2 ?_
  refine wd_putI CF hE hW hS fl_X3_36 (rm_s ht) rfl rfl dX3_become_5 (fun D1 H locs eD1 hW hS => ?_)
  replace h := apR eD1 h
  refine lv_aload_n hx hb dX3_become_8 rfl (lv_at hl 0 rfl) ?_
  refine lv_aload_n hx hb dX3_become_9 rfl (lv_at hl 1 rfl) ?_
  refine wd_get CF hE hW fl_X3_40 (rm_s hr1) (v := .int (gI D1 r1 1)) rfl dX3_become_10 ?_
  refine wd_putI CF hE hW hS fl_X3_40 (rm_s ht) rfl rfl dX3_become_13 (fun D2 H locs eD2 hW hS => ?_)
  replace h := apR eD2 h
  refine lv_aload_n hx hb dX3_become_16 rfl (lv_at hl 0 rfl) ?_
  refine lv_aload_n hx hb dX3_become_17 rfl (lv_at hl 1 rfl) ?_
  refine wd_get CF hE hW fl_X3_43 (rm_s hr1) (v := .int (gI D2 r1 2)) rfl dX3_become_18 ?_
  refine wd_putI CF hE hW hS fl_X3_43 (rm_s ht) rfl rfl dX3_become_21 (fun D3 H locs eD3 hW hS => ?_)
  replace h := apR eD3 h
  refine lv_aload_n hx hb dX3_become_24 rfl (lv_at hl 0 rfl) ?_
  refine lv_aload_n hx hb dX3_become_25 rfl (lv_at hl 1 rfl) ?_
  refine wd_get CF hE hW fl_X3_46 (rm_s hr1) (v := .int (gI D3 r1 3)) rfl dX3_become_26 ?_
  refine wd_putI CF hE hW hS fl_X3_46 (rm_s ht) rfl rfl dX3_become_29 (fun D4 H locs eD4 hW hS => ?_)
  replace h := apR eD4 h
  refine lv_aload_n hx hb dX3_become_32 rfl (lv_at hl 0 rfl) ?_
  refine lv_aload_n hx hb dX3_become_33 rfl (lv_at hl 1 rfl) ?_
  refine wd_get CF hE hW fl_X3_49 (rm_s hr1) (v := .int (gI D4 r1 4)) rfl dX3_become_34 ?_
  refine wd_putI CF hE hW hS fl_X3_49 (rm_s ht) rfl rfl dX3_become_37 (fun D5 H locs eD5 hW hS => ?_)
  replace h := apR eD5 h
  refine lv_aload_n hx hb dX3_become_40 rfl (lv_at hl 0 rfl) ?_
  refine lv_aload_n hx hb dX3_become_41 rfl (lv_at hl 1 rfl) ?_
  refine wd_get CF hE hW fl_X3_52 (rm_s hr1) (v := .int (gI D5 r1 5)) rfl dX3_become_42 ?_
  refine wd_putI CF hE hW hS fl_X3_52 (rm_s ht) rfl rfl dX3_become_45 (fun D6 H locs eD6 hW hS => ?_)
  replace h := apR eD6 h
  refine lv_aload_n hx hb dX3_become_48 rfl (lv_at hl 1 rfl) ?_
  refine wd_getR CF hE hW fl_X3_9 (rm_s hr1) (rm_r0 hr1) rfl dX3_become_49 ?_
  refine lv_iconst (v := 0) hx hb dX3_become_52 (by decide) ?_
  refine lv_aload_n hx hb dX3_become_53 rfl (lv_at hl 0 rfl) ?_
  refine wd_getR CF hE hW fl_X3_9 (rm_s ht) (rm_r0 ht) rfl dX3_become_54 ?_
  refine lv_iconst (v := 0) hx hb dX3_become_57 (by decide) ?_
  refine lv_bipush (v := 7) hx hb dX3_become_58 (by decide) ?_
  obtain ⟨D7, eD7, h⟩ := bdE h
  refine wd_copy CF hE hW hS hl.1 (rm_a0 hr1) (rm_a0 ht) eD7 tw374 tw305 tw304 tw9 (Nat.le_of_ble_eq_true rfl) (by decide) dX3_become_60 (fun H locs hW hS => ?_)
  refine lv_aload_n hx hb dX3_become_63 rfl (lv_at hl 1 rfl) ?_
  refine wd_getR CF hE hW fl_X3_15 (rm_s hr1) (rm_r1 hr1) rfl dX3_become_64 ?_
  refine lv_iconst (v := 0) hx hb dX3_become_67 (by decide) ?_
  refine lv_aload_n hx hb dX3_become_68 rfl (lv_at hl 0 rfl) ?_
  refine wd_getR CF hE hW fl_X3_15 (rm_s ht) (rm_r1 ht) rfl dX3_become_69 ?_
  refine lv_iconst (v := 0) hx hb dX3_become_72 (by decide) ?_
  refine lv_bipush (v := 7) hx hb dX3_become_73 (by decide) ?_
  obtain ⟨D8, eD8, h⟩ := bdE h
  refine wd_copy CF hE hW hS hl.1 (rm_a1 hr1) (rm_a1 ht) eD8 tw374 tw305 tw304 tw9 (Nat.le_of_ble_eq_true rfl) (by decide) dX3_become_75 (fun H locs hW hS => ?_)
  refine lv_aload_n hx hb dX3_become_78 rfl (lv_at hl 1 rfl) ?_
  refine wd_getR CF hE hW fl_X3_18 (rm_s hr1) (rm_r2 hr1) rfl dX3_become_79 ?_
  refine lv_iconst (v := 0) hx hb dX3_become_82 (by decide) ?_
  refine lv_aload_n hx hb dX3_become_83 rfl (lv_at hl 0 rfl) ?_
  refine wd_getR CF hE hW fl_X3_18 (rm_s ht) (rm_r2 ht) rfl dX3_become_84 ?_
  refine lv_iconst (v := 0) hx hb dX3_become_87 (by decide) ?_
  refine lv_bipush (v := 7) hx hb dX3_become_88 (by decide) ?_
  obtain ⟨D9, eD9, h⟩ := bdE h
  refine wd_copy CF hE hW hS hl.1 (rm_a2 hr1) (rm_a2 ht) eD9 tw374 tw305 tw304 tw9 (Nat.le_of_ble_eq_true rfl) (by decide) dX3_become_90 (fun H locs hW hS => ?_)
  refine lv_aload_n hx hb dX3_become_93 rfl (lv_at hl 1 rfl) ?_
  refine wd_getR CF hE hW fl_X3_21 (rm_s hr1) (rm_r3 hr1) rfl dX3_become_94 ?_
  refine lv_iconst (v := 0) hx hb dX3_become_97 (by decide) ?_
  refine lv_aload_n hx hb dX3_become_98 rfl (lv_at hl 0 rfl) ?_
  refine wd_getR CF hE hW fl_X3_21 (rm_s ht) (rm_r3 ht) rfl dX3_become_99 ?_
  refine lv_iconst (v := 0) hx hb dX3_become_102 (by decide) ?_
  refine lv_bipush (v := 7) hx hb dX3_become_103 (by decide) ?_
  obtain ⟨D10, eD10, h⟩ := bdE h
  refine wd_copy CF hE hW hS hl.1 (rm_a3 hr1) (rm_a3 ht) eD10 tw374 tw305 tw304 tw9 (Nat.le_of_ble_eq_true rfl) (by decide) dX3_become_105 (fun H locs hW hS => ?_)
  refine lv_aload_n hx hb dX3_become_108 rfl (lv_at hl 1 rfl) ?_
  refine wd_getR CF hE hW fl_X3_24 (rm_s hr1) (rm_r4 hr1) rfl dX3_become_109 ?_
  refine lv_iconst (v := 0) hx hb dX3_become_112 (by decide) ?_
  refine lv_aload_n hx hb dX3_become_113 rfl (lv_at hl 0 rfl) ?_
  refine wd_getR CF hE hW fl_X3_24 (rm_s ht) (rm_r4 ht) rfl dX3_become_114 ?_
  refine lv_iconst (v := 0) hx hb dX3_become_117 (by decide) ?_
  refine lv_bipush (v := 7) hx hb dX3_become_118 (by decide) ?_
  obtain ⟨D11, eD11, h⟩ := bdE h
  refine wd_copy CF hE hW hS hl.1 (rm_a4 hr1) (rm_a4 ht) eD11 tw374 tw305 tw304 tw9 (Nat.le_of_ble_eq_true rfl) (by decide) dX3_become_120 (fun H locs hW hS => ?_)
  refine lv_aload_n hx hb dX3_become_123 rfl (lv_at hl 1 rfl) ?_
  refine wd_getR CF hE hW fl_X3_27 (rm_s hr1) (rm_r5 hr1) rfl dX3_become_124 ?_
  refine lv_iconst (v := 0) hx hb dX3_become_127 (by decide) ?_
  refine lv_aload_n hx hb dX3_become_128 rfl (lv_at hl 0 rfl) ?_
  refine wd_getR CF hE hW fl_X3_27 (rm_s ht) (rm_r5 ht) rfl dX3_become_129 ?_
  refine lv_iconst (v := 0) hx hb dX3_become_132 (by decide) ?_
  refine lv_bipush (v := 7) hx hb dX3_become_133 (by decide) ?_
  obtain ⟨D12, eD12, h⟩ := bdE h
  refine wd_copy CF hE hW hS hl.1 (rm_a5 hr1) (rm_a5 ht) eD12 tw374 tw305 tw304 tw9 (Nat.le_of_ble_eq_true rfl) (by decide) dX3_become_135 (fun H locs hW hS => ?_)
  refine lv_aload_n hx hb dX3_become_138 rfl (lv_at hl 1 rfl) ?_
  refine wd_getR CF hE hW fl_X3_30 (rm_s hr1) (rm_r6 hr1) rfl dX3_become_139 ?_
  refine lv_iconst (v := 0) hx hb dX3_become_142 (by decide) ?_
  refine lv_aload_n hx hb dX3_become_143 rfl (lv_at hl 0 rfl) ?_
  refine wd_getR CF hE hW fl_X3_30 (rm_s ht) (rm_r6 ht) rfl dX3_become_144 ?_
  refine lv_iconst (v := 0) hx hb dX3_become_147 (by decide) ?_
  refine lv_bipush (v := 7) hx hb dX3_become_148 (by decide) ?_
  obtain ⟨D13, eD13, h⟩ := bdE h
  refine wd_copy CF hE hW hS hl.1 (rm_a6 hr1) (rm_a6 ht) eD13 tw374 tw305 tw304 tw9 (Nat.le_of_ble_eq_true rfl) (by decide) dX3_become_150 (fun H locs hW hS => ?_)
  refine lv_aload_n hx hb dX3_become_153 rfl (lv_at hl 1 rfl) ?_
  refine wd_getR CF hE hW fl_X3_33 (rm_s hr1) (rm_r7 hr1) rfl dX3_become_154 ?_
  refine lv_iconst (v := 0) hx hb dX3_become_157 (by decide) ?_
  refine lv_aload_n hx hb dX3_become_158 rfl (lv_at hl 0 rfl) ?_
  refine wd_getR CF hE hW fl_X3_33 (rm_s ht) (rm_r7 ht) rfl dX3_become_159 ?_
  refine lv_iconst (v := 0) hx hb dX3_become_162 (by decide) ?_
  refine lv_bipush (v := 7) hx hb dX3_become_163 (by decide) ?_
  obtain ⟨D14, eD14, h⟩ := bdE h
  refine wd_copy CF hE hW hS hl.1 (rm_a7 hr1) (rm_a7 ht) eD14 tw374 tw305 tw304 tw9 (Nat.le_of_ble_eq_true rfl) (by decide) dX3_become_165 (fun H locs hW hS => ?_)
  have h := Option.some.inj h
  subst h
  exact wd_vret CF hret hlk hW hS dX3_become_168
def f_X3_lieDown (t : Nat) (a1 : Int32) (D : wd_D) : Option (wd_D) := (wr 7 D (t + 6) a1 0).bind (fun D1 => (wr 7 D1 (t + 7) a1 0).bind (fun D2 => (wr 7 D2 (t + 8) a1 0).bind (fun D3 => some D3)))
set_option maxHeartbeats 4000000 in
set_option maxRecDepth 100000 in
theorem x_X3_lieDown (l : Launch) (X : wd_X) (t : Nat) (ht : RoomAt t) (a1 : Int32) (D : wd_D) {qv : wd_D} (h : f_X3_lieDown t a1 D = some qv) : wd_Met l X yX3_lieDown cX3_lieDown 2 (none : Option FieldType) ({ frames := 0, cells := 0, slots := 0, locals := 0 }) S0 S0 ([.ref (X.2.2.1 + t), .int a1] : List Value) D qv none 0 0 := by
  refine wd_enter (by decide) (Nat.le_of_ble_eq_true rfl) ?_
  intro p e s m below meth c CF hret hlk hnm hW hE ls hl
  have CF : CallFix p m c cX3_lieDown 2 s ([.ref (X.2.2.1 + t), .int a1] : List Value).toArray tg RX3 := CF
  have hx := CF.1
  have hb := CF.2.1
  have hown := CF.2.2.2.1
  have hts := CF.2.2.2.2
  have hS : va_S (wd_A X) s.heap s.heap [] := va_S.rf
  have hl : lv_has ls 2 [(0, .ref (X.2.2.1 + t)), (1, .int a1)] := hl
  unfold f_X3_lieDown at h
  refine lv_aload_n hx hb dX3_lieDown_0 rfl (lv_at hl 0 rfl) ?_
  refine wd_getR CF hE hW fl_X3_27 (rm_s ht) (rm_r5 ht) rfl dX3_lieDown_1 ?_
  refine lv_iload_n hx hb dX3_lieDown_4 rfl (lv_at hl 1 rfl) ?_
  refine lv_iconst (v := 0) hx hb dX3_lieDown_5 (by decide) ?_
  obtain ⟨D1, eD1, h⟩ := bdE h
  refine wd_iast CF hE hW hS (rm_a5 ht) eD1 dX3_lieDown_6 (fun H locs hW hS => ?_)
  refine lv_aload_n hx hb dX3_lieDown_7 rfl (lv_at hl 0 rfl) ?_
  refine wd_getR CF hE hW fl_X3_30 (rm_s ht) (rm_r6 ht) rfl dX3_lieDown_8 ?_
  refine lv_iload_n hx hb dX3_lieDown_11 rfl (lv_at hl 1 rfl) ?_
  refine lv_iconst (v := 0) hx hb dX3_lieDown_12 (by decide) ?_
  obtain ⟨D2, eD2, h⟩ := bdE h
  refine wd_iast CF hE hW hS (rm_a6 ht) eD2 dX3_lieDown_13 (fun H locs hW hS => ?_)
  refine lv_aload_n hx hb dX3_lieDown_14 rfl (lv_at hl 0 rfl) ?_
  refine wd_getR CF hE hW fl_X3_33 (rm_s ht) (rm_r7 ht) rfl dX3_lieDown_15 ?_
  refine lv_iload_n hx hb dX3_lieDown_18 rfl (lv_at hl 1 rfl) ?_
  refine lv_iconst (v := 0) hx hb dX3_lieDown_19 (by decide) ?_
  obtain ⟨D3, eD3, h⟩ := bdE h
  refine wd_iast CF hE hW hS (rm_a7 ht) eD3 dX3_lieDown_20 (fun H locs hW hS => ?_)
  have h := Option.some.inj h
  subst h
  exact wd_vret CF hret hlk hW hS dX3_lieDown_21
def f_X3_calmDown_L34  (t : Nat) (a1 : Int32) (z0 : Int32) (z1 : Int32) (z2 : Int32) (D : wd_D) : Option (wd_D) := (wr 7 D (t + 7) z2 (z1 - z0)).bind (fun D4 => (rd 7 D4 (t + 7) a1).bind (fun x5 => (if 0 < x5 then some D4 else (f_X3_lieDown t a1 D4).bind (fun q7 => some q7))))
def f_X3_calmDown_L33  (t : Nat) (a1 : Int32) (z0 : Int32) (z1 : Int32) (D : wd_D) : Option (wd_D) := f_X3_calmDown_L34 t a1 1 z0 z1 D
def f_X3_calmDown (t : Nat) (a1 : Int32) (D : wd_D) : Option (wd_D) := (rd 7 D (t + 7) a1).bind (fun x1 => (if (f_X6_has (gI D t 4) a1) = 0 then f_X3_calmDown_L33 t a1 x1 a1 D else (if (f_X6_has (gI D t 5) a1) = 0 then f_X3_calmDown_L34 t a1 2 x1 a1 D else f_X3_calmDown_L33 t a1 x1 a1 D)))
set_option maxHeartbeats 4000000 in
set_option maxRecDepth 100000 in
theorem x_X3_calmDown (l : Launch) (X : wd_X) (t : Nat) (ht : RoomAt t) (a1 : Int32) (D : wd_D) {qv : wd_D} (h : f_X3_calmDown t a1 D = some qv) : wd_Met l X yX3_calmDown cX3_calmDown 2 (none : Option FieldType) ({ frames := 1, cells := 0, slots := 0, locals := 100 }) S0 S0 ([.ref (X.2.2.1 + t), .int a1] : List Value) D qv none 0 0 := by
  refine wd_enter (by decide) (Nat.le_of_ble_eq_true rfl) ?_
  intro p e s m below meth c CF hret hlk hnm hW hE ls hl
  have CF : CallFix p m c cX3_calmDown 2 s ([.ref (X.2.2.1 + t), .int a1] : List Value).toArray tg RX3 := CF
  have hx := CF.1
  have hb := CF.2.1
  have hown := CF.2.2.2.1
  have hts := CF.2.2.2.2
  have hS : va_S (wd_A X) s.heap s.heap [] := va_S.rf
  have hl : lv_has ls 2 [(0, .ref (X.2.2.1 + t)), (1, .int a1)] := hl
  unfold f_X3_calmDown at h
  have hL34 : ∀ (z0 : Int32) (z1 : Int32) (z2 : Int32) (D : wd_D) (H : Heap) (locs : List Loc) (ls : Array Slot), Wd X S0 D H → va_S (wd_A X) s.heap H locs → lv_has ls 2 [(0, .ref (X.2.2.1 + t)), (1, .int a1)] → f_X3_calmDown_L34 t a1 z0 z1 z2 D = some qv → W p l e ({ frames := 1, cells := 0, slots := 0, locals := 100 }) s m ([.ref (X.2.2.1 + t), .int a1] : List Value).toArray below meth c H locs 0 0 (MQ below (wd_Q X S0 qv none) ([.ref (X.2.2.1 + t), .int a1] : List Value).toArray s 0 0 (wd_A X)) (F0 m 34 ls [.int z0, .int z1, .int z2, .ref (X.2.2.1 + (t + 7))]) := by
    intro z0 z1 z2 D H locs ls hW hS hl h
    unfold f_X3_calmDown_L34 at h
    refine lv_isub hx hb dX3_calmDown_34 ?_
    obtain ⟨D4, eD4, h⟩ := bdE h
    refine wd_iast CF hE hW hS (rm_a6 ht) eD4 dX3_calmDown_35 (fun H locs hW hS => ?_)
    refine lv_aload_n hx hb dX3_calmDown_36 rfl (lv_at hl 0 rfl) ?_
    refine wd_getR CF hE hW fl_X3_30 (rm_s ht) (rm_r6 ht) rfl dX3_calmDown_37 ?_
    refine lv_iload_n hx hb dX3_calmDown_40 rfl (lv_at hl 1 rfl) ?_
    obtain ⟨x5, ex5, h⟩ := bdE h
    refine wd_iald CF hE hW (rm_a6 ht) ex5 dX3_calmDown_41 ?_
    refine lv_if_gt (tgt := 50) hx hb dX3_calmDown_42 (by decide) (fun c6 => ?_) (fun c6 => ?_)
    · rw [if_pos c6] at h
      have h := Option.some.inj h
      subst h
      exact wd_vret CF hret hlk hW hS dX3_calmDown_50
    · rw [if_neg c6] at h
      refine lv_aload_n hx hb dX3_calmDown_45 rfl (lv_at hl 0 rfl) ?_
      refine lv_iload_n hx hb dX3_calmDown_46 rfl (lv_at hl 1 rfl) ?_
      obtain ⟨q7, eq7, h⟩ := bdE h
      refine wd_callVv (ci := 3) (k := t) CF hE hW hS (x_X3_lieDown l X t ht a1 D4 eq7) mi_X3_lieDown vi_X3_lieDown tw362 ⟨by decide, rfl⟩ (rm_s ht) ⟨rfl, rfl, Nat.le_of_ble_eq_true rfl, Nat.le_of_ble_eq_true rfl⟩ rfl hl.1 rfl (Nat.le_of_ble_eq_true rfl) dX3_calmDown_47 ⟨Nat.le_of_ble_eq_true rfl, Nat.le_of_ble_eq_true rfl⟩ (fun H locs hW hS => ?_)
      have h := Option.some.inj h
      subst h
      exact wd_vret CF hret hlk hW hS dX3_calmDown_50
  have hL33 : ∀ (z0 : Int32) (z1 : Int32) (D : wd_D) (H : Heap) (locs : List Loc) (ls : Array Slot), Wd X S0 D H → va_S (wd_A X) s.heap H locs → lv_has ls 2 [(0, .ref (X.2.2.1 + t)), (1, .int a1)] → f_X3_calmDown_L33 t a1 z0 z1 D = some qv → W p l e ({ frames := 1, cells := 0, slots := 0, locals := 100 }) s m ([.ref (X.2.2.1 + t), .int a1] : List Value).toArray below meth c H locs 0 0 (MQ below (wd_Q X S0 qv none) ([.ref (X.2.2.1 + t), .int a1] : List Value).toArray s 0 0 (wd_A X)) (F0 m 33 ls [.int z0, .int z1, .ref (X.2.2.1 + (t + 7))]) := by
    intro z0 z1 D H locs ls hW hS hl h
    unfold f_X3_calmDown_L33 at h
    refine lv_iconst (v := 1) hx hb dX3_calmDown_33 (by decide) ?_
    exact hL34 1 z0 z1 D _ _ _  hW hS (lv_sub hl [0, 1] rfl) h
  refine lv_aload_n hx hb dX3_calmDown_0 rfl (lv_at hl 0 rfl) ?_
  refine wd_getR CF hE hW fl_X3_30 (rm_s ht) (rm_r6 ht) rfl dX3_calmDown_1 ?_
  refine lv_iload_n hx hb dX3_calmDown_4 rfl (lv_at hl 1 rfl) ?_
  refine lv_dup2_11 hx hb dX3_calmDown_5 rfl rfl ?_
  obtain ⟨x1, ex1, h⟩ := bdE h
  refine wd_iald CF hE hW (rm_a6 ht) ex1 dX3_calmDown_6 ?_
  refine lv_aload_n hx hb dX3_calmDown_7 rfl (lv_at hl 0 rfl) ?_
  refine wd_get CF hE hW fl_X3_49 (rm_s ht) (v := .int (gI D t 4)) rfl dX3_calmDown_8 ?_
  refine lv_iload_n hx hb dX3_calmDown_11 rfl (lv_at hl 1 rfl) ?_
  refine wd_callSNr CF hE hW hS (x_X6_has l X (gI D t 4) a1 D) mi_X6_has vi_X6_has tn424 ⟨rfl, rfl, Nat.le_of_ble_eq_true rfl, Nat.le_of_ble_eq_true rfl⟩ rfl hl.1 rfl (Nat.le_of_ble_eq_true rfl) dX3_calmDown_12 ⟨Nat.le_of_ble_eq_true rfl, Nat.le_of_ble_eq_true rfl⟩ (fun H locs hW hS => ?_)
  refine lv_if_eq (tgt := 33) hx hb dX3_calmDown_15 (by decide) (fun c2 => ?_) (fun c2 => ?_)
  · rw [if_pos c2] at h
    exact hL33 x1 a1 D _ _ _  hW hS (lv_sub hl [0, 1] rfl) h
  · rw [if_neg c2] at h
    refine lv_aload_n hx hb dX3_calmDown_18 rfl (lv_at hl 0 rfl) ?_
    refine wd_get CF hE hW fl_X3_52 (rm_s ht) (v := .int (gI D t 5)) rfl dX3_calmDown_19 ?_
    refine lv_iload_n hx hb dX3_calmDown_22 rfl (lv_at hl 1 rfl) ?_
    refine wd_callSNr CF hE hW hS (x_X6_has l X (gI D t 5) a1 D) mi_X6_has vi_X6_has tn424 ⟨rfl, rfl, Nat.le_of_ble_eq_true rfl, Nat.le_of_ble_eq_true rfl⟩ rfl hl.1 rfl (Nat.le_of_ble_eq_true rfl) dX3_calmDown_23 ⟨Nat.le_of_ble_eq_true rfl, Nat.le_of_ble_eq_true rfl⟩ (fun H locs hW hS => ?_)
    refine lv_if_ne (tgt := 33) hx hb dX3_calmDown_26 (by decide) (fun c3 => ?_) (fun c3 => ?_)
    · rw [if_neg c3] at h
      exact hL33 x1 a1 D _ _ _  hW hS (lv_sub hl [0, 1] rfl) h
    · rw [if_pos c3] at h
      refine lv_iconst (v := 2) hx hb dX3_calmDown_29 (by decide) ?_
      refine lv_goto (tgt := 34) hx hb dX3_calmDown_30 (by decide) ?_
      exact hL34 2 x1 a1 D _ _ _  hW hS (lv_sub hl [0, 1] rfl) h
def f_X3_bearsOf_L20  (t : Nat) (a1 : Int32) (D : wd_D) : Option (Int32) := (rd 7 D (t + 3) a1).bind (fun x6 => some (2 * x6))
def f_X3_bearsOf (t : Nat) (a1 : Int32) (D : wd_D) : Option (Int32) := (rd 7 D (t + 1) a1).bind (fun x1 => (if x1 = 4 then f_X3_bearsOf_L20 t a1 D else (rd 7 D (t + 1) a1).bind (fun x3 => (if x3 = 5 then f_X3_bearsOf_L20 t a1 D else (rd 7 D (t + 3) a1).bind (fun x5 => some x5)))))
set_option maxHeartbeats 4000000 in
set_option maxRecDepth 100000 in
theorem x_X3_bearsOf (l : Launch) (X : wd_X) (t : Nat) (ht : RoomAt t) (a1 : Int32) (D : wd_D) {rv : Int32} (h : f_X3_bearsOf t a1 D = some rv) : wd_Met l X yX3_bearsOf cX3_bearsOf 2 (some FieldType.int) ({ frames := 0, cells := 0, slots := 0, locals := 0 }) S0 S0 ([.ref (X.2.2.1 + t), .int a1] : List Value) D D (some (.int rv)) 0 0 := by
  refine wd_enter (by decide) (Nat.le_of_ble_eq_true rfl) ?_
  intro p e s m below meth c CF hret hlk hnm hW hE ls hl
  have CF : CallFix p m c cX3_bearsOf 2 s ([.ref (X.2.2.1 + t), .int a1] : List Value).toArray tg RX3 := CF
  have hx := CF.1
  have hb := CF.2.1
  have hown := CF.2.2.2.1
  have hts := CF.2.2.2.2
  have hS : va_S (wd_A X) s.heap s.heap [] := va_S.rf
  have hl : lv_has ls 2 [(0, .ref (X.2.2.1 + t)), (1, .int a1)] := hl
  unfold f_X3_bearsOf at h
  have hL20 : ∀  (H : Heap) (locs : List Loc) (ls : Array Slot), Wd X S0 D H → va_S (wd_A X) s.heap H locs → lv_has ls 2 [(0, .ref (X.2.2.1 + t)), (1, .int a1)] → f_X3_bearsOf_L20 t a1 D = some rv → W p l e ({ frames := 0, cells := 0, slots := 0, locals := 0 }) s m ([.ref (X.2.2.1 + t), .int a1] : List Value).toArray below meth c H locs 0 0 (MQ below (wd_Q X S0 D (some (.int rv))) ([.ref (X.2.2.1 + t), .int a1] : List Value).toArray s 0 0 (wd_A X)) (F0 m 20 ls []) := by
    intro H locs ls hW hS hl h
    unfold f_X3_bearsOf_L20 at h
    refine lv_iconst (v := 2) hx hb dX3_bearsOf_20 (by decide) ?_
    refine lv_aload_n hx hb dX3_bearsOf_21 rfl (lv_at hl 0 rfl) ?_
    refine wd_getR CF hE hW fl_X3_18 (rm_s ht) (rm_r2 ht) rfl dX3_bearsOf_22 ?_
    refine lv_iload_n hx hb dX3_bearsOf_25 rfl (lv_at hl 1 rfl) ?_
    obtain ⟨x6, ex6, h⟩ := bdE h
    refine wd_iald CF hE hW (rm_a2 ht) ex6 dX3_bearsOf_26 ?_
    refine lv_imul hx hb dX3_bearsOf_27 ?_
    refine lv_goto (tgt := 37) hx hb dX3_bearsOf_28 (by decide) ?_
    have h := Option.some.inj h
    subst h
    exact wd_iret CF hret hlk hW hS dX3_bearsOf_37
  refine lv_aload_n hx hb dX3_bearsOf_0 rfl (lv_at hl 0 rfl) ?_
  refine wd_getR CF hE hW fl_X3_9 (rm_s ht) (rm_r0 ht) rfl dX3_bearsOf_1 ?_
  refine lv_iload_n hx hb dX3_bearsOf_4 rfl (lv_at hl 1 rfl) ?_
  obtain ⟨x1, ex1, h⟩ := bdE h
  refine wd_iald CF hE hW (rm_a0 ht) ex1 dX3_bearsOf_5 ?_
  refine lv_iconst (v := 4) hx hb dX3_bearsOf_6 (by decide) ?_
  refine lv_icmp_eq (tgt := 20) hx hb dX3_bearsOf_7 (by decide) (fun c2 => ?_) (fun c2 => ?_)
  · rw [if_pos c2] at h
    exact hL20  _ _ _  hW hS (lv_sub hl [0, 1] rfl) h
  · rw [if_neg c2] at h
    refine lv_aload_n hx hb dX3_bearsOf_10 rfl (lv_at hl 0 rfl) ?_
    refine wd_getR CF hE hW fl_X3_9 (rm_s ht) (rm_r0 ht) rfl dX3_bearsOf_11 ?_
    refine lv_iload_n hx hb dX3_bearsOf_14 rfl (lv_at hl 1 rfl) ?_
    obtain ⟨x3, ex3, h⟩ := bdE h
    refine wd_iald CF hE hW (rm_a0 ht) ex3 dX3_bearsOf_15 ?_
    refine lv_iconst (v := 5) hx hb dX3_bearsOf_16 (by decide) ?_
    refine lv_icmp_ne (tgt := 31) hx hb dX3_bearsOf_17 (by decide) (fun c4 => ?_) (fun c4 => ?_)
    · rw [if_neg c4] at h
      refine lv_aload_n hx hb dX3_bearsOf_31 rfl (lv_at hl 0 rfl) ?_
      refine wd_getR CF hE hW fl_X3_18 (rm_s ht) (rm_r2 ht) rfl dX3_bearsOf_32 ?_
      refine lv_iload_n hx hb dX3_bearsOf_35 rfl (lv_at hl 1 rfl) ?_
      obtain ⟨x5, ex5, h⟩ := bdE h
      refine wd_iald CF hE hW (rm_a2 ht) ex5 dX3_bearsOf_36 ?_
      have h := Option.some.inj h
      subst h
      exact wd_iret CF hret hlk hW hS dX3_bearsOf_37
    · rw [if_pos c4] at h
      exact hL20  _ _ _  hW hS (lv_sub hl [0, 1] rfl) h
def f_X3_cry (t : Nat) (a1 : Int32) (D : wd_D) : Option (wd_D) := (wr 7 D (t + 6) a1 1).bind (fun D1 => (wr 7 D1 (t + 7) a1 (gI D1 t 2)).bind (fun D2 => (wr 7 D2 (t + 8) a1 0).bind (fun D3 => some D3)))
set_option maxHeartbeats 4000000 in
set_option maxRecDepth 100000 in
theorem x_X3_cry (l : Launch) (X : wd_X) (t : Nat) (ht : RoomAt t) (a1 : Int32) (D : wd_D) {qv : wd_D} (h : f_X3_cry t a1 D = some qv) : wd_Met l X yX3_cry cX3_cry 2 (none : Option FieldType) ({ frames := 0, cells := 0, slots := 0, locals := 0 }) S0 S0 ([.ref (X.2.2.1 + t), .int a1] : List Value) D qv none 0 0 := by
  refine wd_enter (by decide) (Nat.le_of_ble_eq_true rfl) ?_
  intro p e s m below meth c CF hret hlk hnm hW hE ls hl
  have CF : CallFix p m c cX3_cry 2 s ([.ref (X.2.2.1 + t), .int a1] : List Value).toArray tg RX3 := CF
  have hx := CF.1
  have hb := CF.2.1
  have hown := CF.2.2.2.1
  have hts := CF.2.2.2.2
  have hS : va_S (wd_A X) s.heap s.heap [] := va_S.rf
  have hl : lv_has ls 2 [(0, .ref (X.2.2.1 + t)), (1, .int a1)] := hl
  unfold f_X3_cry at h
  refine lv_aload_n hx hb dX3_cry_0 rfl (lv_at hl 0 rfl) ?_
  refine wd_getR CF hE hW fl_X3_27 (rm_s ht) (rm_r5 ht) rfl dX3_cry_1 ?_
  refine lv_iload_n hx hb dX3_cry_4 rfl (lv_at hl 1 rfl) ?_
  refine lv_iconst (v := 1) hx hb dX3_cry_5 (by decide) ?_
  obtain ⟨D1, eD1, h⟩ := bdE h
  refine wd_iast CF hE hW hS (rm_a5 ht) eD1 dX3_cry_6 (fun H locs hW hS => ?_)
  refine lv_aload_n hx hb dX3_cry_7 rfl (lv_at hl 0 rfl) ?_
  refine wd_getR CF hE hW fl_X3_30 (rm_s ht) (rm_r6 ht) rfl dX3_cry_8 ?_
  refine lv_iload_n hx hb dX3_cry_11 rfl (lv_at hl 1 rfl) ?_
  refine lv_aload_n hx hb dX3_cry_12 rfl (lv_at hl 0 rfl) ?_
  refine wd_get CF hE hW fl_X3_43 (rm_s ht) (v := .int (gI D1 t 2)) rfl dX3_cry_13 ?_
  obtain ⟨D2, eD2, h⟩ := bdE h
  refine wd_iast CF hE hW hS (rm_a6 ht) eD2 dX3_cry_16 (fun H locs hW hS => ?_)
  refine lv_aload_n hx hb dX3_cry_17 rfl (lv_at hl 0 rfl) ?_
  refine wd_getR CF hE hW fl_X3_33 (rm_s ht) (rm_r7 ht) rfl dX3_cry_18 ?_
  refine lv_iload_n hx hb dX3_cry_21 rfl (lv_at hl 1 rfl) ?_
  refine lv_iconst (v := 0) hx hb dX3_cry_22 (by decide) ?_
  obtain ⟨D3, eD3, h⟩ := bdE h
  refine wd_iast CF hE hW hS (rm_a7 ht) eD3 dX3_cry_23 (fun H locs hW hS => ?_)
  have h := Option.some.inj h
  subst h
  exact wd_vret CF hret hlk hW hS dX3_cry_24
def f_X3_wake (t : Nat) (a1 : Int32) (D : wd_D) : Option (wd_D) := (rd 7 D (t + 1) a1).bind (fun x1 => (if x1 = 5 then (f_X3_lieDown t a1 D).bind (fun q4 => some q4) else (f_X3_cry t a1 D).bind (fun q3 => some q3)))
set_option maxHeartbeats 4000000 in
set_option maxRecDepth 100000 in
theorem x_X3_wake (l : Launch) (X : wd_X) (t : Nat) (ht : RoomAt t) (a1 : Int32) (D : wd_D) {qv : wd_D} (h : f_X3_wake t a1 D = some qv) : wd_Met l X yX3_wake cX3_wake 2 (none : Option FieldType) ({ frames := 1, cells := 0, slots := 0, locals := 100 }) S0 S0 ([.ref (X.2.2.1 + t), .int a1] : List Value) D qv none 0 0 := by
  refine wd_enter (by decide) (Nat.le_of_ble_eq_true rfl) ?_
  intro p e s m below meth c CF hret hlk hnm hW hE ls hl
  have CF : CallFix p m c cX3_wake 2 s ([.ref (X.2.2.1 + t), .int a1] : List Value).toArray tg RX3 := CF
  have hx := CF.1
  have hb := CF.2.1
  have hown := CF.2.2.2.1
  have hts := CF.2.2.2.2
  have hS : va_S (wd_A X) s.heap s.heap [] := va_S.rf
  have hl : lv_has ls 2 [(0, .ref (X.2.2.1 + t)), (1, .int a1)] := hl
  unfold f_X3_wake at h
  refine lv_aload_n hx hb dX3_wake_0 rfl (lv_at hl 0 rfl) ?_
  refine wd_getR CF hE hW fl_X3_9 (rm_s ht) (rm_r0 ht) rfl dX3_wake_1 ?_
  refine lv_iload_n hx hb dX3_wake_4 rfl (lv_at hl 1 rfl) ?_
  obtain ⟨x1, ex1, h⟩ := bdE h
  refine wd_iald CF hE hW (rm_a0 ht) ex1 dX3_wake_5 ?_
  refine lv_iconst (v := 5) hx hb dX3_wake_6 (by decide) ?_
  refine lv_icmp_ne (tgt := 18) hx hb dX3_wake_7 (by decide) (fun c2 => ?_) (fun c2 => ?_)
  · rw [if_neg c2] at h
    refine lv_aload_n hx hb dX3_wake_18 rfl (lv_at hl 0 rfl) ?_
    refine lv_iload_n hx hb dX3_wake_19 rfl (lv_at hl 1 rfl) ?_
    obtain ⟨q3, eq3, h⟩ := bdE h
    refine wd_callVv (ci := 3) (k := t) CF hE hW hS (x_X3_cry l X t ht a1 D eq3) mi_X3_cry vi_X3_cry tw451 ⟨by decide, rfl⟩ (rm_s ht) ⟨rfl, rfl, Nat.le_of_ble_eq_true rfl, Nat.le_of_ble_eq_true rfl⟩ rfl hl.1 rfl (Nat.le_of_ble_eq_true rfl) dX3_wake_20 ⟨Nat.le_of_ble_eq_true rfl, Nat.le_of_ble_eq_true rfl⟩ (fun H locs hW hS => ?_)
    have h := Option.some.inj h
    subst h
    exact wd_vret CF hret hlk hW hS dX3_wake_23
  · rw [if_pos c2] at h
    refine lv_aload_n hx hb dX3_wake_10 rfl (lv_at hl 0 rfl) ?_
    refine lv_iload_n hx hb dX3_wake_11 rfl (lv_at hl 1 rfl) ?_
    obtain ⟨q4, eq4, h⟩ := bdE h
    refine wd_callVv (ci := 3) (k := t) CF hE hW hS (x_X3_lieDown l X t ht a1 D eq4) mi_X3_lieDown vi_X3_lieDown tw362 ⟨by decide, rfl⟩ (rm_s ht) ⟨rfl, rfl, Nat.le_of_ble_eq_true rfl, Nat.le_of_ble_eq_true rfl⟩ rfl hl.1 rfl (Nat.le_of_ble_eq_true rfl) dX3_wake_12 ⟨Nat.le_of_ble_eq_true rfl, Nat.le_of_ble_eq_true rfl⟩ (fun H locs hW hS => ?_)
    refine lv_goto (tgt := 23) hx hb dX3_wake_15 (by decide) ?_
    have h := Option.some.inj h
    subst h
    exact wd_vret CF hret hlk hW hS dX3_wake_23
def f_X3_calmGained (t : Nat) (a1 : Int32) (D : wd_D) : Option (Int32) := (if (f_X6_has (gI D t 4) a1) = 0 then (rd 7 D (t + 1) a1).bind (fun x2 => (if x2 = 3 then some 0 else some 1)) else some 2)
set_option maxHeartbeats 4000000 in
set_option maxRecDepth 100000 in
theorem x_X3_calmGained (l : Launch) (X : wd_X) (t : Nat) (ht : RoomAt t) (a1 : Int32) (D : wd_D) {rv : Int32} (h : f_X3_calmGained t a1 D = some rv) : wd_Met l X yX3_calmGained cX3_calmGained 2 (some FieldType.int) ({ frames := 1, cells := 0, slots := 0, locals := 100 }) S0 S0 ([.ref (X.2.2.1 + t), .int a1] : List Value) D D (some (.int rv)) 0 0 := by
  refine wd_enter (by decide) (Nat.le_of_ble_eq_true rfl) ?_
  intro p e s m below meth c CF hret hlk hnm hW hE ls hl
  have CF : CallFix p m c cX3_calmGained 2 s ([.ref (X.2.2.1 + t), .int a1] : List Value).toArray tg RX3 := CF
  have hx := CF.1
  have hb := CF.2.1
  have hown := CF.2.2.2.1
  have hts := CF.2.2.2.2
  have hS : va_S (wd_A X) s.heap s.heap [] := va_S.rf
  have hl : lv_has ls 2 [(0, .ref (X.2.2.1 + t)), (1, .int a1)] := hl
  unfold f_X3_calmGained at h
  refine lv_aload_n hx hb dX3_calmGained_0 rfl (lv_at hl 0 rfl) ?_
  refine wd_get CF hE hW fl_X3_49 (rm_s ht) (v := .int (gI D t 4)) rfl dX3_calmGained_1 ?_
  refine lv_iload_n hx hb dX3_calmGained_4 rfl (lv_at hl 1 rfl) ?_
  refine wd_callSNr CF hE hW hS (x_X6_has l X (gI D t 4) a1 D) mi_X6_has vi_X6_has tn424 ⟨rfl, rfl, Nat.le_of_ble_eq_true rfl, Nat.le_of_ble_eq_true rfl⟩ rfl hl.1 rfl (Nat.le_of_ble_eq_true rfl) dX3_calmGained_5 ⟨Nat.le_of_ble_eq_true rfl, Nat.le_of_ble_eq_true rfl⟩ (fun H locs hW hS => ?_)
  refine lv_if_eq (tgt := 13) hx hb dX3_calmGained_8 (by decide) (fun c1 => ?_) (fun c1 => ?_)
  · rw [if_pos c1] at h
    refine lv_aload_n hx hb dX3_calmGained_13 rfl (lv_at hl 0 rfl) ?_
    refine wd_getR CF hE hW fl_X3_9 (rm_s ht) (rm_r0 ht) rfl dX3_calmGained_14 ?_
    refine lv_iload_n hx hb dX3_calmGained_17 rfl (lv_at hl 1 rfl) ?_
    obtain ⟨x2, ex2, h⟩ := bdE h
    refine wd_iald CF hE hW (rm_a0 ht) ex2 dX3_calmGained_18 ?_
    refine lv_iconst (v := 3) hx hb dX3_calmGained_19 (by decide) ?_
    refine lv_icmp_ne (tgt := 27) hx hb dX3_calmGained_20 (by decide) (fun c3 => ?_) (fun c3 => ?_)
    · rw [if_neg c3] at h
      refine lv_iconst (v := 1) hx hb dX3_calmGained_27 (by decide) ?_
      have h := Option.some.inj h
      subst h
      exact wd_iret CF hret hlk hW hS dX3_calmGained_28
    · rw [if_pos c3] at h
      refine lv_iconst (v := 0) hx hb dX3_calmGained_23 (by decide) ?_
      refine lv_goto (tgt := 28) hx hb dX3_calmGained_24 (by decide) ?_
      have h := Option.some.inj h
      subst h
      exact wd_iret CF hret hlk hW hS dX3_calmGained_28
  · rw [if_neg c1] at h
    refine lv_iconst (v := 2) hx hb dX3_calmGained_11 (by decide) ?_
    have h := Option.some.inj h
    subst h
    exact wd_iret CF hret hlk hW hS dX3_calmGained_12
def f_X3_listen_L71  (t : Nat) (a1 : Int32) (a2 : Int32) (v3 : Int32) (D : wd_D) : Option (Int32 × wd_D) := (rd 7 D (t + 6) a1).bind (fun x15 => (if x15 = 2 then some (1, D) else (rd 7 D (t + 8) a1).bind (fun x17 => (if x17 = v3 then some (0, D) else some (1, D)))))
def f_X3_listen_L48  (t : Nat) (a1 : Int32) (a2 : Int32) (v3 : Int32) (z0 : Int32) (z1 : Int32) (D : wd_D) : Option (Int32 × wd_D) := (wr 7 D (t + 8) z1 z0).bind (fun D10 => (rd 7 D10 (t + 8) a1).bind (fun x11 => (rd 7 D10 (t + 2) a1).bind (fun x12 => (if x11 < x12 then f_X3_listen_L71 t a1 a2 v3 D10 else (wr 7 D10 (t + 6) a1 2).bind (fun D14 => f_X3_listen_L71 t a1 a2 v3 D14)))))
def f_X3_listen (t : Nat) (a1 : Int32) (a2 : Int32) (D : wd_D) : Option (Int32 × wd_D) := (rd 7 D (t + 6) a1).bind (fun x1 => (if x1 = 2 then (if a2 = 0 then (bo a2).bind (fun x7 => some (x7, D)) else (f_X3_wake t a1 D).bind (fun q8 => (bo a2).bind (fun x9 => some (x9, q8)))) else (rd 7 D (t + 8) a1).bind (fun x3 => (if a2 = 0 then (f_X3_calmGained t a1 D).bind (fun x5 => f_X3_listen_L48 t a1 a2 x3 (x3 + x5) a1 D) else f_X3_listen_L48 t a1 a2 x3 0 a1 D))))
set_option maxHeartbeats 4000000 in
set_option maxRecDepth 100000 in
theorem x_X3_listen (l : Launch) (X : wd_X) (t : Nat) (ht : RoomAt t) (a1 : Int32) (a2 : Int32) (D : wd_D) {qv : Int32 × wd_D} (h : f_X3_listen t a1 a2 D = some qv) : wd_Met l X yX3_listen cX3_listen 4 (some FieldType.boolean) ({ frames := 2, cells := 0, slots := 0, locals := 200 }) S0 S0 ([.ref (X.2.2.1 + t), .int a1, .int a2] : List Value) D qv.2 (some (.int qv.1)) 0 0 := by
  refine wd_enter (by decide) (Nat.le_of_ble_eq_true rfl) ?_
  intro p e s m below meth c CF hret hlk hnm hW hE ls hl
  have CF : CallFix p m c cX3_listen 4 s ([.ref (X.2.2.1 + t), .int a1, .int a2] : List Value).toArray tg RX3 := CF
  have hx := CF.1
  have hb := CF.2.1
  have hown := CF.2.2.2.1
  have hts := CF.2.2.2.2
  have hS : va_S (wd_A X) s.heap s.heap [] := va_S.rf
  have hl : lv_has ls 4 [(0, .ref (X.2.2.1 + t)), (1, .int a1), (2, .int a2)] := hl
  unfold f_X3_listen at h
  have hL71 : ∀ (v3 : Int32) (D : wd_D) (H : Heap) (locs : List Loc) (ls : Array Slot), Wd X S0 D H → va_S (wd_A X) s.heap H locs → lv_has ls 4 [(0, .ref (X.2.2.1 + t)), (1, .int a1), (3, .int v3)] → f_X3_listen_L71 t a1 a2 v3 D = some qv → W p l e ({ frames := 2, cells := 0, slots := 0, locals := 200 }) s m ([.ref (X.2.2.1 + t), .int a1, .int a2] : List Value).toArray below meth c H locs 0 0 (MQ below (wd_Q X S0 qv.2 (some (.int qv.1))) ([.ref (X.2.2.1 + t), .int a1, .int a2] : List Value).toArray s 0 0 (wd_A X)) (F0 m 71 ls []) := by
    intro v3 D H locs ls hW hS hl h
    unfold f_X3_listen_L71 at h
    refine lv_aload_n hx hb dX3_listen_71 rfl (lv_at hl 0 rfl) ?_
    refine wd_getR CF hE hW fl_X3_27 (rm_s ht) (rm_r5 ht) rfl dX3_listen_72 ?_
    refine lv_iload_n hx hb dX3_listen_75 rfl (lv_at hl 1 rfl) ?_
    obtain ⟨x15, ex15, h⟩ := bdE h
    refine wd_iald CF hE hW (rm_a5 ht) ex15 dX3_listen_76 ?_
    refine lv_iconst (v := 2) hx hb dX3_listen_77 (by decide) ?_
    refine lv_icmp_eq (tgt := 91) hx hb dX3_listen_78 (by decide) (fun c16 => ?_) (fun c16 => ?_)
    · rw [if_pos c16] at h
      refine lv_iconst (v := 1) hx hb dX3_listen_91 (by decide) ?_
      refine lv_goto (tgt := 96) hx hb dX3_listen_92 (by decide) ?_
      have h := Option.some.inj h
      subst h
      exact wd_zret CF hret hlk hW hS (Or.inr rfl) dX3_listen_96
    · rw [if_neg c16] at h
      refine lv_aload_n hx hb dX3_listen_81 rfl (lv_at hl 0 rfl) ?_
      refine wd_getR CF hE hW fl_X3_33 (rm_s ht) (rm_r7 ht) rfl dX3_listen_82 ?_
      refine lv_iload_n hx hb dX3_listen_85 rfl (lv_at hl 1 rfl) ?_
      obtain ⟨x17, ex17, h⟩ := bdE h
      refine wd_iald CF hE hW (rm_a7 ht) ex17 dX3_listen_86 ?_
      refine lv_iload_n hx hb dX3_listen_87 rfl (lv_at hl 2 rfl) ?_
      refine lv_icmp_eq (tgt := 95) hx hb dX3_listen_88 (by decide) (fun c18 => ?_) (fun c18 => ?_)
      · rw [if_pos c18] at h
        refine lv_iconst (v := 0) hx hb dX3_listen_95 (by decide) ?_
        have h := Option.some.inj h
        subst h
        exact wd_zret CF hret hlk hW hS (Or.inl rfl) dX3_listen_96
      · rw [if_neg c18] at h
        refine lv_iconst (v := 1) hx hb dX3_listen_91 (by decide) ?_
        refine lv_goto (tgt := 96) hx hb dX3_listen_92 (by decide) ?_
        have h := Option.some.inj h
        subst h
        exact wd_zret CF hret hlk hW hS (Or.inr rfl) dX3_listen_96
  have hL48 : ∀ (v3 : Int32) (z0 : Int32) (z1 : Int32) (D : wd_D) (H : Heap) (locs : List Loc) (ls : Array Slot), Wd X S0 D H → va_S (wd_A X) s.heap H locs → lv_has ls 4 [(0, .ref (X.2.2.1 + t)), (1, .int a1), (3, .int v3)] → f_X3_listen_L48 t a1 a2 v3 z0 z1 D = some qv → W p l e ({ frames := 2, cells := 0, slots := 0, locals := 200 }) s m ([.ref (X.2.2.1 + t), .int a1, .int a2] : List Value).toArray below meth c H locs 0 0 (MQ below (wd_Q X S0 qv.2 (some (.int qv.1))) ([.ref (X.2.2.1 + t), .int a1, .int a2] : List Value).toArray s 0 0 (wd_A X)) (F0 m 48 ls [.int z0, .int z1, .ref (X.2.2.1 + (t + 8))]) := by
    intro v3 z0 z1 D H locs ls hW hS hl h
    unfold f_X3_listen_L48 at h
    obtain ⟨D10, eD10, h⟩ := bdE h
    refine wd_iast CF hE hW hS (rm_a7 ht) eD10 dX3_listen_48 (fun H locs hW hS => ?_)
    refine lv_aload_n hx hb dX3_listen_49 rfl (lv_at hl 0 rfl) ?_
    refine wd_getR CF hE hW fl_X3_33 (rm_s ht) (rm_r7 ht) rfl dX3_listen_50 ?_
    refine lv_iload_n hx hb dX3_listen_53 rfl (lv_at hl 1 rfl) ?_
    obtain ⟨x11, ex11, h⟩ := bdE h
    refine wd_iald CF hE hW (rm_a7 ht) ex11 dX3_listen_54 ?_
    refine lv_aload_n hx hb dX3_listen_55 rfl (lv_at hl 0 rfl) ?_
    refine wd_getR CF hE hW fl_X3_15 (rm_s ht) (rm_r1 ht) rfl dX3_listen_56 ?_
    refine lv_iload_n hx hb dX3_listen_59 rfl (lv_at hl 1 rfl) ?_
    obtain ⟨x12, ex12, h⟩ := bdE h
    refine wd_iald CF hE hW (rm_a1 ht) ex12 dX3_listen_60 ?_
    refine lv_icmp_lt (tgt := 71) hx hb dX3_listen_61 (by decide) (fun c13 => ?_) (fun c13 => ?_)
    · rw [if_pos c13] at h
      exact hL71 v3 D10 _ _ _  hW hS (lv_sub hl [0, 1, 2] rfl) h
    · rw [if_neg c13] at h
      refine lv_aload_n hx hb dX3_listen_64 rfl (lv_at hl 0 rfl) ?_
      refine wd_getR CF hE hW fl_X3_27 (rm_s ht) (rm_r5 ht) rfl dX3_listen_65 ?_
      refine lv_iload_n hx hb dX3_listen_68 rfl (lv_at hl 1 rfl) ?_
      refine lv_iconst (v := 2) hx hb dX3_listen_69 (by decide) ?_
      obtain ⟨D14, eD14, h⟩ := bdE h
      refine wd_iast CF hE hW hS (rm_a5 ht) eD14 dX3_listen_70 (fun H locs hW hS => ?_)
      exact hL71 v3 D14 _ _ _  hW hS (lv_sub hl [0, 1, 2] rfl) h
  refine lv_aload_n hx hb dX3_listen_0 rfl (lv_at hl 0 rfl) ?_
  refine wd_getR CF hE hW fl_X3_27 (rm_s ht) (rm_r5 ht) rfl dX3_listen_1 ?_
  refine lv_iload_n hx hb dX3_listen_4 rfl (lv_at hl 1 rfl) ?_
  obtain ⟨x1, ex1, h⟩ := bdE h
  refine wd_iald CF hE hW (rm_a5 ht) ex1 dX3_listen_5 ?_
  refine lv_iconst (v := 2) hx hb dX3_listen_6 (by decide) ?_
  refine lv_icmp_ne (tgt := 21) hx hb dX3_listen_7 (by decide) (fun c2 => ?_) (fun c2 => ?_)
  · rw [if_neg c2] at h
    refine lv_aload_n hx hb dX3_listen_21 rfl (lv_at hl 0 rfl) ?_
    refine wd_getR CF hE hW fl_X3_33 (rm_s ht) (rm_r7 ht) rfl dX3_listen_22 ?_
    refine lv_iload_n hx hb dX3_listen_25 rfl (lv_at hl 1 rfl) ?_
    obtain ⟨x3, ex3, h⟩ := bdE h
    refine wd_iald CF hE hW (rm_a7 ht) ex3 dX3_listen_26 ?_
    refine lv_istore_n (lv' := [(3, .int x3), (0, .ref (X.2.2.1 + t)), (1, .int a1), (2, .int a2)]) hx hb dX3_listen_27 rfl hl (by decide) rfl (fun ls hl => ?_)
    refine lv_aload_n hx hb dX3_listen_28 rfl (lv_at hl 1 rfl) ?_
    refine wd_getR CF hE hW fl_X3_33 (rm_s ht) (rm_r7 ht) rfl dX3_listen_29 ?_
    refine lv_iload_n hx hb dX3_listen_32 rfl (lv_at hl 2 rfl) ?_
    refine lv_iload_n hx hb dX3_listen_33 rfl (lv_at hl 3 rfl) ?_
    refine lv_if_eq (tgt := 41) hx hb dX3_listen_34 (by decide) (fun c4 => ?_) (fun c4 => ?_)
    · rw [if_pos c4] at h
      refine lv_iload_n hx hb dX3_listen_41 rfl (lv_at hl 0 rfl) ?_
      refine lv_aload_n hx hb dX3_listen_42 rfl (lv_at hl 1 rfl) ?_
      refine lv_iload_n hx hb dX3_listen_43 rfl (lv_at hl 2 rfl) ?_
      obtain ⟨x5, ex5, h⟩ := bdE h
      refine wd_callVr (ci := 3) (k := t) CF hE hW hS (x_X3_calmGained l X t ht a1 D ex5) mi_X3_calmGained vi_X3_calmGained tw455 ⟨by decide, rfl⟩ (rm_s ht) ⟨rfl, rfl, Nat.le_of_ble_eq_true rfl, Nat.le_of_ble_eq_true rfl⟩ rfl hl.1 rfl (Nat.le_of_ble_eq_true rfl) dX3_listen_44 ⟨Nat.le_of_ble_eq_true rfl, Nat.le_of_ble_eq_true rfl⟩ (fun H locs hW hS => ?_)
      refine lv_iadd hx hb dX3_listen_47 ?_
      exact hL48 x3 (x3 + x5) a1 D _ _ _  hW hS (lv_sub hl [1, 2, 0] rfl) h
    · rw [if_neg c4] at h
      refine lv_iconst (v := 0) hx hb dX3_listen_37 (by decide) ?_
      refine lv_goto (tgt := 48) hx hb dX3_listen_38 (by decide) ?_
      exact hL48 x3 0 a1 D _ _ _  hW hS (lv_sub hl [1, 2, 0] rfl) h
  · rw [if_pos c2] at h
    refine lv_iload_n hx hb dX3_listen_10 rfl (lv_at hl 2 rfl) ?_
    refine lv_if_eq (tgt := 19) hx hb dX3_listen_11 (by decide) (fun c6 => ?_) (fun c6 => ?_)
    · rw [if_pos c6] at h
      refine lv_iload_n hx hb dX3_listen_19 rfl (lv_at hl 2 rfl) ?_
      obtain ⟨x7, ex7, h⟩ := bdE h
      obtain ⟨fx7, gx7⟩ := bo_e ex7
      subst fx7
      have h := Option.some.inj h
      subst h
      exact wd_zret CF hret hlk hW hS gx7 dX3_listen_20
    · rw [if_neg c6] at h
      refine lv_aload_n hx hb dX3_listen_14 rfl (lv_at hl 0 rfl) ?_
      refine lv_iload_n hx hb dX3_listen_15 rfl (lv_at hl 1 rfl) ?_
      obtain ⟨q8, eq8, h⟩ := bdE h
      refine wd_callVv (ci := 3) (k := t) CF hE hW hS (x_X3_wake l X t ht a1 D eq8) mi_X3_wake vi_X3_wake tw447 ⟨by decide, rfl⟩ (rm_s ht) ⟨rfl, rfl, Nat.le_of_ble_eq_true rfl, Nat.le_of_ble_eq_true rfl⟩ rfl hl.1 rfl (Nat.le_of_ble_eq_true rfl) dX3_listen_16 ⟨Nat.le_of_ble_eq_true rfl, Nat.le_of_ble_eq_true rfl⟩ (fun H locs hW hS => ?_)
      refine lv_iload_n hx hb dX3_listen_19 rfl (lv_at hl 2 rfl) ?_
      obtain ⟨x9, ex9, h⟩ := bdE h
      obtain ⟨fx9, gx9⟩ := bo_e ex9
      subst fx9
      have h := Option.some.inj h
      subst h
      exact wd_zret CF hret hlk hW hS gx9 dX3_listen_20
def f_X3_passMinute_L77 (k9 : Nat → Int32 → Int32 → Int32 → wd_D → Option (Int32 × wd_D)) (t : Nat) (v1 : Int32) (v2 : Int32) (v3 : Int32) (D : wd_D) : Option (Int32 × wd_D) := ap (v3 + 1) (fun x12 => k9 t v1 v2 x12 D)
def f_X3_passMinute_L69 (k9 : Nat → Int32 → Int32 → Int32 → wd_D → Option (Int32 × wd_D)) (t : Nat) (v1 : Int32) (v2 : Int32) (v3 : Int32) (z0 : Int32) (z1 : Int32) (D : wd_D) : Option (Int32 × wd_D) := (f_X3_listen t z1 z0 D).bind (fun q13 => (if q13.1 = 0 then f_X3_passMinute_L77 k9 t v1 v2 v3 q13.2 else f_X3_passMinute_L77 k9 t v1 1 v3 q13.2))
def f_X3_passMinute_L9  : Nat → Nat → Int32 → Int32 → Int32 → wd_D → Option (Int32 × wd_D)
  | 0, _, _, _, _, _ => none
  | n + 1, t, v1, v2, v3, D => (if (gI D t 0) ≤ v3 then ap (sI D t 3 ((gI D t 3) + 1)) (fun D3 => (bo v2).bind (fun x4 => some (x4, D3))) else (rd 7 D (t + 6) v3).bind (fun x5 => (if x5 = 1 then (f_X3_calmDown t v3 D).bind (fun q11 => f_X3_passMinute_L77 (f_X3_passMinute_L9 n) t v1 1 v3 q11) else (if (f_X6_has (gI D t 5) v3) = 0 then (f_X3_noiseAt t v3 v1 D).bind (fun x8 => (f_X3_bearsOf t v3 D).bind (fun x9 => (if x8 ≤ x9 then f_X3_passMinute_L69 (f_X3_passMinute_L9 n) t v1 v2 v3 0 v3 D else f_X3_passMinute_L69 (f_X3_passMinute_L9 n) t v1 v2 v3 1 v3 D))) else f_X3_passMinute_L77 (f_X3_passMinute_L9 n) t v1 v2 v3 D))))
def f_X3_passMinute (t : Nat) (D : wd_D) : Option (Int32 × wd_D) := (f_X3_heardCriers t D).bind (fun x1 => f_X3_passMinute_L9 FU t x1 0 0 D)
set_option maxHeartbeats 4000000 in
set_option maxRecDepth 100000 in
theorem x_X3_passMinute (l : Launch) (X : wd_X) (t : Nat) (ht : RoomAt t) (D : wd_D) {qv : Int32 × wd_D} (h : f_X3_passMinute t D = some qv) : wd_Met l X yX3_passMinute cX3_passMinute 4 (some FieldType.boolean) ({ frames := 3, cells := 0, slots := 0, locals := 300 }) S0 S0 ([.ref (X.2.2.1 + t)] : List Value) D qv.2 (some (.int qv.1)) 0 0 := by
  refine wd_enter (by decide) (Nat.le_of_ble_eq_true rfl) ?_
  intro p e s m below meth c CF hret hlk hnm hW hE ls hl
  have CF : CallFix p m c cX3_passMinute 4 s ([.ref (X.2.2.1 + t)] : List Value).toArray tg RX3 := CF
  have hx := CF.1
  have hb := CF.2.1
  have hown := CF.2.2.2.1
  have hts := CF.2.2.2.2
  have hS : va_S (wd_A X) s.heap s.heap [] := va_S.rf
  have hl : lv_has ls 4 [(0, .ref (X.2.2.1 + t))] := hl
  unfold f_X3_passMinute at h
  have hL9 : ∀ (n9 : Nat) (v1 : Int32) (v2 : Int32) (v3 : Int32) (D : wd_D) (H : Heap) (locs : List Loc) (ls : Array Slot), Wd X S0 D H → va_S (wd_A X) s.heap H locs → lv_has ls 4 [(0, .ref (X.2.2.1 + t)), (1, .int v1), (2, .int v2), (3, .int v3)] → f_X3_passMinute_L9 n9 t v1 v2 v3 D = some qv → W p l e ({ frames := 3, cells := 0, slots := 0, locals := 300 }) s m ([.ref (X.2.2.1 + t)] : List Value).toArray below meth c H locs 0 0 (MQ below (wd_Q X S0 qv.2 (some (.int qv.1))) ([.ref (X.2.2.1 + t)] : List Value).toArray s 0 0 (wd_A X)) (F0 m 9 ls []) := by
    intro n9
    induction n9 with
    | zero => intro v1 v2 v3 D H locs ls hW hS hl h; cases h
    | succ n9 ih9 =>
      have hL77 : ∀ (v1 : Int32) (v2 : Int32) (v3 : Int32) (D : wd_D) (H : Heap) (locs : List Loc) (ls : Array Slot), Wd X S0 D H → va_S (wd_A X) s.heap H locs → lv_has ls 4 [(0, .ref (X.2.2.1 + t)), (1, .int v1), (2, .int v2), (3, .int v3)] → f_X3_passMinute_L77 (f_X3_passMinute_L9 n9) t v1 v2 v3 D = some qv → W p l e ({ frames := 3, cells := 0, slots := 0, locals := 300 }) s m ([.ref (X.2.2.1 + t)] : List Value).toArray below meth c H locs 0 0 (MQ below (wd_Q X S0 qv.2 (some (.int qv.1))) ([.ref (X.2.2.1 + t)] : List Value).toArray s 0 0 (wd_A X)) (F0 m 77 ls []) := by
        intro v1 v2 v3 D H locs ls hW hS hl h
        unfold f_X3_passMinute_L77 at h
        obtain ⟨x12, ex12⟩ : ∃ y : Int32, y = v3 + 1 := ⟨_, rfl⟩
        replace h := apR ex12 h
        refine lv_iinc (v := x12) (lv' := [(3, .int x12), (0, .ref (X.2.2.1 + t)), (1, .int v1), (2, .int v2)]) hx hb dX3_passMinute_77 hl (k := 3) rfl (by rw [ex12]; rfl) (by decide) rfl (fun ls hl => ?_)
        refine lv_goto (tgt := 9) hx hb dX3_passMinute_80 (by decide) ?_
        exact ih9 v1 v2 x12 D _ _ _  hW hS (lv_sub hl [1, 2, 3, 0] rfl) h
      have hL69 : ∀ (v1 : Int32) (v2 : Int32) (v3 : Int32) (z0 : Int32) (z1 : Int32) (D : wd_D) (H : Heap) (locs : List Loc) (ls : Array Slot), Wd X S0 D H → va_S (wd_A X) s.heap H locs → lv_has ls 4 [(0, .ref (X.2.2.1 + t)), (1, .int v1), (2, .int v2), (3, .int v3)] → f_X3_passMinute_L69 (f_X3_passMinute_L9 n9) t v1 v2 v3 z0 z1 D = some qv → W p l e ({ frames := 3, cells := 0, slots := 0, locals := 300 }) s m ([.ref (X.2.2.1 + t)] : List Value).toArray below meth c H locs 0 0 (MQ below (wd_Q X S0 qv.2 (some (.int qv.1))) ([.ref (X.2.2.1 + t)] : List Value).toArray s 0 0 (wd_A X)) (F0 m 69 ls [.int z0, .int z1, .ref (X.2.2.1 + t)]) := by
        intro v1 v2 v3 z0 z1 D H locs ls hW hS hl h
        unfold f_X3_passMinute_L69 at h
        obtain ⟨q13, eq13, h⟩ := bdE h
        refine wd_callVr (ci := 3) (k := t) CF hE hW hS (x_X3_listen l X t ht z1 z0 D eq13) mi_X3_listen vi_X3_listen tw443 ⟨by decide, rfl⟩ (rm_s ht) ⟨rfl, rfl, Nat.le_of_ble_eq_true rfl, Nat.le_of_ble_eq_true rfl⟩ rfl hl.1 rfl (Nat.le_of_ble_eq_true rfl) dX3_passMinute_69 ⟨Nat.le_of_ble_eq_true rfl, Nat.le_of_ble_eq_true rfl⟩ (fun H locs hW hS => ?_)
        refine lv_if_eq (tgt := 77) hx hb dX3_passMinute_72 (by decide) (fun c14 => ?_) (fun c14 => ?_)
        · rw [if_pos c14] at h
          exact hL77 v1 v2 v3 q13.2 _ _ _  hW hS (lv_sub hl [0, 1, 2, 3] rfl) h
        · rw [if_neg c14] at h
          refine lv_iconst (v := 1) hx hb dX3_passMinute_75 (by decide) ?_
          refine lv_istore_n (lv' := [(2, .int 1), (0, .ref (X.2.2.1 + t)), (1, .int v1), (3, .int v3)]) hx hb dX3_passMinute_76 rfl hl (by decide) rfl (fun ls hl => ?_)
          exact hL77 v1 1 v3 q13.2 _ _ _  hW hS (lv_sub hl [1, 2, 0, 3] rfl) h
      intro v1 v2 v3 D H locs ls hW hS hl h
      rw [f_X3_passMinute_L9] at h
      refine lv_iload_n hx hb dX3_passMinute_9 rfl (lv_at hl 3 rfl) ?_
      refine lv_aload_n hx hb dX3_passMinute_10 rfl (lv_at hl 0 rfl) ?_
      refine wd_get CF hE hW fl_X3_36 (rm_s ht) (v := .int (gI D t 0)) rfl dX3_passMinute_11 ?_
      refine lv_icmp_ge (tgt := 83) hx hb dX3_passMinute_14 (by decide) (fun c2 => ?_) (fun c2 => ?_)
      · rw [if_pos c2] at h
        refine lv_aload_n hx hb dX3_passMinute_83 rfl (lv_at hl 0 rfl) ?_
        refine lv_dup hx hb dX3_passMinute_84 rfl ?_
        refine wd_get CF hE hW fl_X3_46 (rm_s ht) (v := .int (gI D t 3)) rfl dX3_passMinute_85 ?_
        refine lv_iconst (v := 1) hx hb dX3_passMinute_88 (by decide) ?_
        refine lv_iadd hx hb dX3_passMinute_89 ?_
        refine wd_putI CF hE hW hS fl_X3_46 (rm_s ht) rfl rfl dX3_passMinute_90 (fun D3 H locs eD3 hW hS => ?_)
        replace h := apR eD3 h
        refine lv_iload_n hx hb dX3_passMinute_93 rfl (lv_at hl 2 rfl) ?_
        obtain ⟨x4, ex4, h⟩ := bdE h
        obtain ⟨fx4, gx4⟩ := bo_e ex4
        subst fx4
        have h := Option.some.inj h
        subst h
        exact wd_zret CF hret hlk hW hS gx4 dX3_passMinute_94
      · rw [if_neg c2] at h
        refine lv_aload_n hx hb dX3_passMinute_17 rfl (lv_at hl 0 rfl) ?_
        refine wd_getR CF hE hW fl_X3_27 (rm_s ht) (rm_r5 ht) rfl dX3_passMinute_18 ?_
        refine lv_iload_n hx hb dX3_passMinute_21 rfl (lv_at hl 3 rfl) ?_
        obtain ⟨x5, ex5, h⟩ := bdE h
        refine wd_iald CF hE hW (rm_a5 ht) ex5 dX3_passMinute_22 ?_
        refine lv_iconst (v := 1) hx hb dX3_passMinute_23 (by decide) ?_
        refine lv_icmp_ne (tgt := 37) hx hb dX3_passMinute_24 (by decide) (fun c6 => ?_) (fun c6 => ?_)
        · rw [if_neg c6] at h
          refine lv_aload_n hx hb dX3_passMinute_37 rfl (lv_at hl 0 rfl) ?_
          refine wd_get CF hE hW fl_X3_52 (rm_s ht) (v := .int (gI D t 5)) rfl dX3_passMinute_38 ?_
          refine lv_iload_n hx hb dX3_passMinute_41 rfl (lv_at hl 3 rfl) ?_
          refine wd_callSNr CF hE hW hS (x_X6_has l X (gI D t 5) v3 D) mi_X6_has vi_X6_has tn424 ⟨rfl, rfl, Nat.le_of_ble_eq_true rfl, Nat.le_of_ble_eq_true rfl⟩ rfl hl.1 rfl (Nat.le_of_ble_eq_true rfl) dX3_passMinute_42 ⟨Nat.le_of_ble_eq_true rfl, Nat.le_of_ble_eq_true rfl⟩ (fun H locs hW hS => ?_)
          refine lv_if_ne (tgt := 77) hx hb dX3_passMinute_45 (by decide) (fun c7 => ?_) (fun c7 => ?_)
          · rw [if_neg c7] at h
            exact hL77 v1 v2 v3 D _ _ _  hW hS (lv_sub hl [0, 1, 2, 3] rfl) h
          · rw [if_pos c7] at h
            refine lv_aload_n hx hb dX3_passMinute_48 rfl (lv_at hl 0 rfl) ?_
            refine lv_iload_n hx hb dX3_passMinute_49 rfl (lv_at hl 3 rfl) ?_
            refine lv_aload_n hx hb dX3_passMinute_50 rfl (lv_at hl 0 rfl) ?_
            refine lv_iload_n hx hb dX3_passMinute_51 rfl (lv_at hl 3 rfl) ?_
            refine lv_iload_n hx hb dX3_passMinute_52 rfl (lv_at hl 1 rfl) ?_
            obtain ⟨x8, ex8, h⟩ := bdE h
            refine wd_callVr (ci := 3) (k := t) CF hE hW hS (x_X3_noiseAt l X t ht v3 v1 D ex8) mi_X3_noiseAt vi_X3_noiseAt tw427 ⟨by decide, rfl⟩ (rm_s ht) ⟨rfl, rfl, Nat.le_of_ble_eq_true rfl, Nat.le_of_ble_eq_true rfl⟩ rfl hl.1 rfl (Nat.le_of_ble_eq_true rfl) dX3_passMinute_53 ⟨Nat.le_of_ble_eq_true rfl, Nat.le_of_ble_eq_true rfl⟩ (fun H locs hW hS => ?_)
            refine lv_aload_n hx hb dX3_passMinute_56 rfl (lv_at hl 0 rfl) ?_
            refine lv_iload_n hx hb dX3_passMinute_57 rfl (lv_at hl 3 rfl) ?_
            obtain ⟨x9, ex9, h⟩ := bdE h
            refine wd_callVr (ci := 3) (k := t) CF hE hW hS (x_X3_bearsOf l X t ht v3 D ex9) mi_X3_bearsOf vi_X3_bearsOf tw439 ⟨by decide, rfl⟩ (rm_s ht) ⟨rfl, rfl, Nat.le_of_ble_eq_true rfl, Nat.le_of_ble_eq_true rfl⟩ rfl hl.1 rfl (Nat.le_of_ble_eq_true rfl) dX3_passMinute_58 ⟨Nat.le_of_ble_eq_true rfl, Nat.le_of_ble_eq_true rfl⟩ (fun H locs hW hS => ?_)
            refine lv_icmp_le (tgt := 68) hx hb dX3_passMinute_61 (by decide) (fun c10 => ?_) (fun c10 => ?_)
            · rw [if_pos c10] at h
              refine lv_iconst (v := 0) hx hb dX3_passMinute_68 (by decide) ?_
              exact hL69 v1 v2 v3 0 v3 D _ _ _  hW hS (lv_sub hl [0, 1, 2, 3] rfl) h
            · rw [if_neg c10] at h
              refine lv_iconst (v := 1) hx hb dX3_passMinute_64 (by decide) ?_
              refine lv_goto (tgt := 69) hx hb dX3_passMinute_65 (by decide) ?_
              exact hL69 v1 v2 v3 1 v3 D _ _ _  hW hS (lv_sub hl [0, 1, 2, 3] rfl) h
        · rw [if_pos c6] at h
          refine lv_aload_n hx hb dX3_passMinute_27 rfl (lv_at hl 0 rfl) ?_
          refine lv_iload_n hx hb dX3_passMinute_28 rfl (lv_at hl 3 rfl) ?_
          obtain ⟨q11, eq11, h⟩ := bdE h
          refine wd_callVv (ci := 3) (k := t) CF hE hW hS (x_X3_calmDown l X t ht v3 D eq11) mi_X3_calmDown vi_X3_calmDown tw420 ⟨by decide, rfl⟩ (rm_s ht) ⟨rfl, rfl, Nat.le_of_ble_eq_true rfl, Nat.le_of_ble_eq_true rfl⟩ rfl hl.1 rfl (Nat.le_of_ble_eq_true rfl) dX3_passMinute_29 ⟨Nat.le_of_ble_eq_true rfl, Nat.le_of_ble_eq_true rfl⟩ (fun H locs hW hS => ?_)
          refine lv_iconst (v := 1) hx hb dX3_passMinute_32 (by decide) ?_
          refine lv_istore_n (lv' := [(2, .int 1), (0, .ref (X.2.2.1 + t)), (1, .int v1), (3, .int v3)]) hx hb dX3_passMinute_33 rfl hl (by decide) rfl (fun ls hl => ?_)
          refine lv_goto (tgt := 77) hx hb dX3_passMinute_34 (by decide) ?_
          exact hL77 v1 1 v3 q11 _ _ _  hW hS (lv_sub hl [1, 2, 0, 3] rfl) h
  refine lv_aload_n hx hb dX3_passMinute_0 rfl (lv_at hl 0 rfl) ?_
  obtain ⟨x1, ex1, h⟩ := bdE h
  refine wd_callVr (ci := 3) (k := t) CF hE hW hS (x_X3_heardCriers l X t ht D ex1) mi_X3_heardCriers vi_X3_heardCriers tw412 ⟨by decide, rfl⟩ (rm_s ht) ⟨rfl, rfl, Nat.le_of_ble_eq_true rfl, Nat.le_of_ble_eq_true rfl⟩ rfl hl.1 rfl (Nat.le_of_ble_eq_true rfl) dX3_passMinute_1 ⟨Nat.le_of_ble_eq_true rfl, Nat.le_of_ble_eq_true rfl⟩ (fun H locs hW hS => ?_)
  refine lv_istore_n (lv' := [(1, .int x1), (0, .ref (X.2.2.1 + t))]) hx hb dX3_passMinute_4 rfl hl (by decide) rfl (fun ls hl => ?_)
  refine lv_iconst (v := 0) hx hb dX3_passMinute_5 (by decide) ?_
  refine lv_istore_n (lv' := [(2, .int 0), (1, .int x1), (0, .ref (X.2.2.1 + t))]) hx hb dX3_passMinute_6 rfl hl (by decide) rfl (fun ls hl => ?_)
  refine lv_iconst (v := 0) hx hb dX3_passMinute_7 (by decide) ?_
  refine lv_istore_n (lv' := [(3, .int 0), (2, .int 0), (1, .int x1), (0, .ref (X.2.2.1 + t))]) hx hb dX3_passMinute_8 rfl hl (by decide) rfl (fun ls hl => ?_)
  exact hL9 FU x1 0 0 D _ _ _  hW hS (lv_sub hl [3, 2, 1, 0] rfl) h
def f_X3_passMinutes_L2  : Nat → Nat → Int32 → Int32 → wd_D → Option (wd_D)
  | 0, _, _, _, _ => none
  | n + 1, t, a1, v2, D => (if a1 ≤ v2 then some D else (f_X3_passMinute t D).bind (fun q2 => (if q2.1 = 0 then ap (sI q2.2 t 3 ((gI q2.2 t 3) + ((a1 - 1) - v2))) (fun D5 => some D5) else ap (v2 + 1) (fun x4 => (f_X3_passMinutes_L2 n) t a1 x4 q2.2))))
def f_X3_passMinutes (t : Nat) (a1 : Int32) (D : wd_D) : Option (wd_D) := f_X3_passMinutes_L2 FU t a1 0 D
set_option maxHeartbeats 4000000 in
set_option maxRecDepth 100000 in
theorem x_X3_passMinutes (l : Launch) (X : wd_X) (t : Nat) (ht : RoomAt t) (a1 : Int32) (D : wd_D) {qv : wd_D} (h : f_X3_passMinutes t a1 D = some qv) : wd_Met l X yX3_passMinutes cX3_passMinutes 3 (none : Option FieldType) ({ frames := 4, cells := 0, slots := 0, locals := 400 }) S0 S0 ([.ref (X.2.2.1 + t), .int a1] : List Value) D qv none 0 0 := by
  refine wd_enter (by decide) (Nat.le_of_ble_eq_true rfl) ?_
  intro p e s m below meth c CF hret hlk hnm hW hE ls hl
  have CF : CallFix p m c cX3_passMinutes 3 s ([.ref (X.2.2.1 + t), .int a1] : List Value).toArray tg RX3 := CF
  have hx := CF.1
  have hb := CF.2.1
  have hown := CF.2.2.2.1
  have hts := CF.2.2.2.2
  have hS : va_S (wd_A X) s.heap s.heap [] := va_S.rf
  have hl : lv_has ls 3 [(0, .ref (X.2.2.1 + t)), (1, .int a1)] := hl
  unfold f_X3_passMinutes at h
  have hL2 : ∀ (n2 : Nat) (v2 : Int32) (D : wd_D) (H : Heap) (locs : List Loc) (ls : Array Slot), Wd X S0 D H → va_S (wd_A X) s.heap H locs → lv_has ls 3 [(0, .ref (X.2.2.1 + t)), (1, .int a1), (2, .int v2)] → f_X3_passMinutes_L2 n2 t a1 v2 D = some qv → W p l e ({ frames := 4, cells := 0, slots := 0, locals := 400 }) s m ([.ref (X.2.2.1 + t), .int a1] : List Value).toArray below meth c H locs 0 0 (MQ below (wd_Q X S0 qv none) ([.ref (X.2.2.1 + t), .int a1] : List Value).toArray s 0 0 (wd_A X)) (F0 m 2 ls []) := by
    intro n2
    induction n2 with
    | zero => intro v2 D H locs ls hW hS hl h; cases h
    | succ n2 ih2 =>
      intro v2 D H locs ls hW hS hl h
      rw [f_X3_passMinutes_L2] at h
      refine lv_iload_n hx hb dX3_passMinutes_2 rfl (lv_at hl 2 rfl) ?_
      refine lv_iload_n hx hb dX3_passMinutes_3 rfl (lv_at hl 1 rfl) ?_
      refine lv_icmp_ge (tgt := 35) hx hb dX3_passMinutes_4 (by decide) (fun c1 => ?_) (fun c1 => ?_)
      · rw [if_pos c1] at h
        have h := Option.some.inj h
        subst h
        exact wd_vret CF hret hlk hW hS dX3_passMinutes_35
      · rw [if_neg c1] at h
        refine lv_aload_n hx hb dX3_passMinutes_7 rfl (lv_at hl 0 rfl) ?_
        obtain ⟨q2, eq2, h⟩ := bdE h
        refine wd_callVr (ci := 3) (k := t) CF hE hW hS (x_X3_passMinute l X t ht D eq2) mi_X3_passMinute vi_X3_passMinute tw522 ⟨by decide, rfl⟩ (rm_s ht) ⟨rfl, rfl, Nat.le_of_ble_eq_true rfl, Nat.le_of_ble_eq_true rfl⟩ rfl hl.1 rfl (Nat.le_of_ble_eq_true rfl) dX3_passMinutes_8 ⟨Nat.le_of_ble_eq_true rfl, Nat.le_of_ble_eq_true rfl⟩ (fun H locs hW hS => ?_)
        refine lv_if_ne (tgt := 29) hx hb dX3_passMinutes_11 (by decide) (fun c3 => ?_) (fun c3 => ?_)
        · rw [if_neg c3] at h
          obtain ⟨x4, ex4⟩ : ∃ y : Int32, y = v2 + 1 := ⟨_, rfl⟩
          replace h := apR ex4 h
          refine lv_iinc (v := x4) (lv' := [(2, .int x4), (0, .ref (X.2.2.1 + t)), (1, .int a1)]) hx hb dX3_passMinutes_29 hl (k := 2) rfl (by rw [ex4]; rfl) (by decide) rfl (fun ls hl => ?_)
          refine lv_goto (tgt := 2) hx hb dX3_passMinutes_32 (by decide) ?_
          exact ih2 x4 q2.2 _ _ _  hW hS (lv_sub hl [1, 2, 0] rfl) h
        · rw [if_pos c3] at h
          refine lv_aload_n hx hb dX3_passMinutes_14 rfl (lv_at hl 0 rfl) ?_
          refine lv_dup hx hb dX3_passMinutes_15 rfl ?_
          refine wd_get CF hE hW fl_X3_46 (rm_s ht) (v := .int (gI q2.2 t 3)) rfl dX3_passMinutes_16 ?_
          refine lv_iload_n hx hb dX3_passMinutes_19 rfl (lv_at hl 1 rfl) ?_
          refine lv_iconst (v := 1) hx hb dX3_passMinutes_20 (by decide) ?_
          refine lv_isub hx hb dX3_passMinutes_21 ?_
          refine lv_iload_n hx hb dX3_passMinutes_22 rfl (lv_at hl 2 rfl) ?_
          refine lv_isub hx hb dX3_passMinutes_23 ?_
          refine lv_iadd hx hb dX3_passMinutes_24 ?_
          refine wd_putI CF hE hW hS fl_X3_46 (rm_s ht) rfl rfl dX3_passMinutes_25 (fun D5 H locs eD5 hW hS => ?_)
          replace h := apR eD5 h
          have h := Option.some.inj h
          subst h
          exact wd_vret CF hret hlk hW hS dX3_passMinutes_28
  refine lv_iconst (v := 0) hx hb dX3_passMinutes_0 (by decide) ?_
  refine lv_istore_n (lv' := [(2, .int 0), (0, .ref (X.2.2.1 + t)), (1, .int a1)]) hx hb dX3_passMinutes_1 rfl hl (by decide) rfl (fun ls hl => ?_)
  exact hL2 FU 0 D _ _ _  hW hS (lv_sub hl [1, 2, 0] rfl) h
def f_X3_sleepAll (t : Nat) (a1 : Int32) (D : wd_D) : Option (Int32) := (f_X3_thoseWho t 2 D).bind (fun x1 => (if (a1 &&& (x1 ^^^ (-1))) = 0 then some 1 else some 0))
set_option maxHeartbeats 4000000 in
set_option maxRecDepth 100000 in
theorem x_X3_sleepAll (l : Launch) (X : wd_X) (t : Nat) (ht : RoomAt t) (a1 : Int32) (D : wd_D) {rv : Int32} (h : f_X3_sleepAll t a1 D = some rv) : wd_Met l X yX3_sleepAll cX3_sleepAll 2 (some FieldType.boolean) ({ frames := 1, cells := 0, slots := 0, locals := 100 }) S0 S0 ([.ref (X.2.2.1 + t), .int a1] : List Value) D D (some (.int rv)) 0 0 := by
  refine wd_enter (by decide) (Nat.le_of_ble_eq_true rfl) ?_
  intro p e s m below meth c CF hret hlk hnm hW hE ls hl
  have CF : CallFix p m c cX3_sleepAll 2 s ([.ref (X.2.2.1 + t), .int a1] : List Value).toArray tg RX3 := CF
  have hx := CF.1
  have hb := CF.2.1
  have hown := CF.2.2.2.1
  have hts := CF.2.2.2.2
  have hS : va_S (wd_A X) s.heap s.heap [] := va_S.rf
  have hl : lv_has ls 2 [(0, .ref (X.2.2.1 + t)), (1, .int a1)] := hl
  unfold f_X3_sleepAll at h
  refine lv_iload_n hx hb dX3_sleepAll_0 rfl (lv_at hl 1 rfl) ?_
  refine lv_aload_n hx hb dX3_sleepAll_1 rfl (lv_at hl 0 rfl) ?_
  refine lv_iconst (v := 2) hx hb dX3_sleepAll_2 (by decide) ?_
  obtain ⟨x1, ex1, h⟩ := bdE h
  refine wd_callVr (ci := 3) (k := t) CF hE hW hS (x_X3_thoseWho l X t ht 2 D ex1) mi_X3_thoseWho vi_X3_thoseWho tw416 ⟨by decide, rfl⟩ (rm_s ht) ⟨rfl, rfl, Nat.le_of_ble_eq_true rfl, Nat.le_of_ble_eq_true rfl⟩ rfl hl.1 rfl (Nat.le_of_ble_eq_true rfl) dX3_sleepAll_3 ⟨Nat.le_of_ble_eq_true rfl, Nat.le_of_ble_eq_true rfl⟩ (fun H locs hW hS => ?_)
  refine lv_iconst (v := (-1)) hx hb dX3_sleepAll_6 (by decide) ?_
  refine lv_ixor hx hb dX3_sleepAll_7 ?_
  refine lv_iand hx hb dX3_sleepAll_8 ?_
  refine lv_if_ne (tgt := 16) hx hb dX3_sleepAll_9 (by decide) (fun c2 => ?_) (fun c2 => ?_)
  · rw [if_neg c2] at h
    refine lv_iconst (v := 0) hx hb dX3_sleepAll_16 (by decide) ?_
    have h := Option.some.inj h
    subst h
    exact wd_zret CF hret hlk hW hS (Or.inl rfl) dX3_sleepAll_17
  · rw [if_pos c2] at h
    refine lv_iconst (v := 1) hx hb dX3_sleepAll_12 (by decide) ?_
    refine lv_goto (tgt := 17) hx hb dX3_sleepAll_13 (by decide) ?_
    have h := Option.some.inj h
    subst h
    exact wd_zret CF hret hlk hW hS (Or.inr rfl) dX3_sleepAll_17
def f_X3_everybody (t : Nat) (D : wd_D) : Int32 := (((1 : Int32) <<< ((gI D t 0) &&& 31)) - 1)
set_option maxHeartbeats 4000000 in
set_option maxRecDepth 100000 in
theorem x_X3_everybody (l : Launch) (X : wd_X) (t : Nat) (ht : RoomAt t) (D : wd_D) : wd_Met l X yX3_everybody cX3_everybody 1 (some FieldType.int) ({ frames := 0, cells := 0, slots := 0, locals := 0 }) S0 S0 ([.ref (X.2.2.1 + t)] : List Value) D D (some (.int (f_X3_everybody t D))) 0 0 := by
  obtain ⟨rv, h⟩ : ∃ rv, f_X3_everybody t D = rv := ⟨_, rfl⟩
  rw [h]
  refine wd_enter (by decide) (Nat.le_of_ble_eq_true rfl) ?_
  intro p e s m below meth c CF hret hlk hnm hW hE ls hl
  have CF : CallFix p m c cX3_everybody 1 s ([.ref (X.2.2.1 + t)] : List Value).toArray tg RX3 := CF
  have hx := CF.1
  have hb := CF.2.1
  have hown := CF.2.2.2.1
  have hts := CF.2.2.2.2
  have hS : va_S (wd_A X) s.heap s.heap [] := va_S.rf
  have hl : lv_has ls 1 [(0, .ref (X.2.2.1 + t))] := hl
  unfold f_X3_everybody at h
  refine lv_iconst (v := 1) hx hb dX3_everybody_0 (by decide) ?_
  refine lv_aload_n hx hb dX3_everybody_1 rfl (lv_at hl 0 rfl) ?_
  refine wd_get CF hE hW fl_X3_36 (rm_s ht) (v := .int (gI D t 0)) rfl dX3_everybody_2 ?_
  refine lv_ishl hx hb dX3_everybody_5 ?_
  refine lv_iconst (v := 1) hx hb dX3_everybody_6 (by decide) ?_
  refine lv_isub hx hb dX3_everybody_7 ?_
  subst h
  exact wd_iret CF hret hlk hW hS dX3_everybody_8
def f_X3_swapCots (t : Nat) (a1 : Int32) (a2 : Int32) (D : wd_D) : Option (wd_D) := (rd 7 D (t + 5) a1).bind (fun x1 => (rd 7 D (t + 5) a2).bind (fun x2 => (wr 7 D (t + 5) a1 x2).bind (fun D3 => (wr 7 D3 (t + 5) a2 x1).bind (fun D4 => some D4))))
set_option maxHeartbeats 4000000 in
set_option maxRecDepth 100000 in
theorem x_X3_swapCots (l : Launch) (X : wd_X) (t : Nat) (ht : RoomAt t) (a1 : Int32) (a2 : Int32) (D : wd_D) {qv : wd_D} (h : f_X3_swapCots t a1 a2 D = some qv) : wd_Met l X yX3_swapCots cX3_swapCots 4 (none : Option FieldType) ({ frames := 0, cells := 0, slots := 0, locals := 0 }) S0 S0 ([.ref (X.2.2.1 + t), .int a1, .int a2] : List Value) D qv none 0 0 := by
  refine wd_enter (by decide) (Nat.le_of_ble_eq_true rfl) ?_
  intro p e s m below meth c CF hret hlk hnm hW hE ls hl
  have CF : CallFix p m c cX3_swapCots 4 s ([.ref (X.2.2.1 + t), .int a1, .int a2] : List Value).toArray tg RX3 := CF
  have hx := CF.1
  have hb := CF.2.1
  have hown := CF.2.2.2.1
  have hts := CF.2.2.2.2
  have hS : va_S (wd_A X) s.heap s.heap [] := va_S.rf
  have hl : lv_has ls 4 [(0, .ref (X.2.2.1 + t)), (1, .int a1), (2, .int a2)] := hl
  unfold f_X3_swapCots at h
  refine lv_aload_n hx hb dX3_swapCots_0 rfl (lv_at hl 0 rfl) ?_
  refine wd_getR CF hE hW fl_X3_24 (rm_s ht) (rm_r4 ht) rfl dX3_swapCots_1 ?_
  refine lv_iload_n hx hb dX3_swapCots_4 rfl (lv_at hl 1 rfl) ?_
  obtain ⟨x1, ex1, h⟩ := bdE h
  refine wd_iald CF hE hW (rm_a4 ht) ex1 dX3_swapCots_5 ?_
  refine lv_istore_n (lv' := [(3, .int x1), (0, .ref (X.2.2.1 + t)), (1, .int a1), (2, .int a2)]) hx hb dX3_swapCots_6 rfl hl (by decide) rfl (fun ls hl => ?_)
  refine lv_aload_n hx hb dX3_swapCots_7 rfl (lv_at hl 1 rfl) ?_
  refine wd_getR CF hE hW fl_X3_24 (rm_s ht) (rm_r4 ht) rfl dX3_swapCots_8 ?_
  refine lv_iload_n hx hb dX3_swapCots_11 rfl (lv_at hl 2 rfl) ?_
  refine lv_aload_n hx hb dX3_swapCots_12 rfl (lv_at hl 1 rfl) ?_
  refine wd_getR CF hE hW fl_X3_24 (rm_s ht) (rm_r4 ht) rfl dX3_swapCots_13 ?_
  refine lv_iload_n hx hb dX3_swapCots_16 rfl (lv_at hl 3 rfl) ?_
  obtain ⟨x2, ex2, h⟩ := bdE h
  refine wd_iald CF hE hW (rm_a4 ht) ex2 dX3_swapCots_17 ?_
  obtain ⟨D3, eD3, h⟩ := bdE h
  refine wd_iast CF hE hW hS (rm_a4 ht) eD3 dX3_swapCots_18 (fun H locs hW hS => ?_)
  refine lv_aload_n hx hb dX3_swapCots_19 rfl (lv_at hl 1 rfl) ?_
  refine wd_getR CF hE hW fl_X3_24 (rm_s ht) (rm_r4 ht) rfl dX3_swapCots_20 ?_
  refine lv_iload_n hx hb dX3_swapCots_23 rfl (lv_at hl 3 rfl) ?_
  refine lv_iload_n hx hb dX3_swapCots_24 rfl (lv_at hl 0 rfl) ?_
  obtain ⟨D4, eD4, h⟩ := bdE h
  refine wd_iast CF hE hW hS (rm_a4 ht) eD4 dX3_swapCots_25 (fun H locs hW hS => ?_)
  have h := Option.some.inj h
  subst h
  exact wd_vret CF hret hlk hW hS dX3_swapCots_26
def f_X3_passLorry_L50 (k4 : Nat → Int32 → Int32 → Int32 → wd_D → Option (Int32 × wd_D)) (t : Nat) (a1 : Int32) (v2 : Int32) (v3 : Int32) (D : wd_D) : Option (Int32 × wd_D) := ap (v3 + 1) (fun x9 => k4 t a1 v2 x9 D)
def f_X3_passLorry_L4  : Nat → Nat → Int32 → Int32 → Int32 → wd_D → Option (Int32 × wd_D)
  | 0, _, _, _, _, _ => none
  | n + 1, t, a1, v2, v3, D => (if (gI D t 0) ≤ v3 then some (v2, D) else (rd 7 D (t + 6) v3).bind (fun x2 => (if x2 = 2 then (if (f_X6_has (gI D t 5) v3) = 0 then (f_X3_bearsOf t v3 D).bind (fun x5 => (if a1 ≤ x5 then f_X3_passLorry_L50 (f_X3_passLorry_L4 n) t a1 v2 v3 D else (f_X3_wake t v3 D).bind (fun q7 => ap (v2 + 1) (fun x8 => f_X3_passLorry_L50 (f_X3_passLorry_L4 n) t a1 x8 v3 q7)))) else f_X3_passLorry_L50 (f_X3_passLorry_L4 n) t a1 v2 v3 D) else f_X3_passLorry_L50 (f_X3_passLorry_L4 n) t a1 v2 v3 D)))
def f_X3_passLorry (t : Nat) (a1 : Int32) (D : wd_D) : Option (Int32 × wd_D) := f_X3_passLorry_L4 FU t a1 0 0 D
set_option maxHeartbeats 4000000 in
set_option maxRecDepth 100000 in
theorem x_X3_passLorry (l : Launch) (X : wd_X) (t : Nat) (ht : RoomAt t) (a1 : Int32) (D : wd_D) {qv : Int32 × wd_D} (h : f_X3_passLorry t a1 D = some qv) : wd_Met l X yX3_passLorry cX3_passLorry 4 (some FieldType.int) ({ frames := 2, cells := 0, slots := 0, locals := 200 }) S0 S0 ([.ref (X.2.2.1 + t), .int a1] : List Value) D qv.2 (some (.int qv.1)) 0 0 := by
  refine wd_enter (by decide) (Nat.le_of_ble_eq_true rfl) ?_
  intro p e s m below meth c CF hret hlk hnm hW hE ls hl
  have CF : CallFix p m c cX3_passLorry 4 s ([.ref (X.2.2.1 + t), .int a1] : List Value).toArray tg RX3 := CF
  have hx := CF.1
  have hb := CF.2.1
  have hown := CF.2.2.2.1
  have hts := CF.2.2.2.2
  have hS : va_S (wd_A X) s.heap s.heap [] := va_S.rf
  have hl : lv_has ls 4 [(0, .ref (X.2.2.1 + t)), (1, .int a1)] := hl
  unfold f_X3_passLorry at h
  have hL4 : ∀ (n4 : Nat) (v2 : Int32) (v3 : Int32) (D : wd_D) (H : Heap) (locs : List Loc) (ls : Array Slot), Wd X S0 D H → va_S (wd_A X) s.heap H locs → lv_has ls 4 [(0, .ref (X.2.2.1 + t)), (1, .int a1), (2, .int v2), (3, .int v3)] → f_X3_passLorry_L4 n4 t a1 v2 v3 D = some qv → W p l e ({ frames := 2, cells := 0, slots := 0, locals := 200 }) s m ([.ref (X.2.2.1 + t), .int a1] : List Value).toArray below meth c H locs 0 0 (MQ below (wd_Q X S0 qv.2 (some (.int qv.1))) ([.ref (X.2.2.1 + t), .int a1] : List Value).toArray s 0 0 (wd_A X)) (F0 m 4 ls []) := by
    intro n4
    induction n4 with
    | zero => intro v2 v3 D H locs ls hW hS hl h; cases h
    | succ n4 ih4 =>
      have hL50 : ∀ (v2 : Int32) (v3 : Int32) (D : wd_D) (H : Heap) (locs : List Loc) (ls : Array Slot), Wd X S0 D H → va_S (wd_A X) s.heap H locs → lv_has ls 4 [(0, .ref (X.2.2.1 + t)), (1, .int a1), (2, .int v2), (3, .int v3)] → f_X3_passLorry_L50 (f_X3_passLorry_L4 n4) t a1 v2 v3 D = some qv → W p l e ({ frames := 2, cells := 0, slots := 0, locals := 200 }) s m ([.ref (X.2.2.1 + t), .int a1] : List Value).toArray below meth c H locs 0 0 (MQ below (wd_Q X S0 qv.2 (some (.int qv.1))) ([.ref (X.2.2.1 + t), .int a1] : List Value).toArray s 0 0 (wd_A X)) (F0 m 50 ls []) := by
        intro v2 v3 D H locs ls hW hS hl h
        unfold f_X3_passLorry_L50 at h
        obtain ⟨x9, ex9⟩ : ∃ y : Int32, y = v3 + 1 := ⟨_, rfl⟩
        replace h := apR ex9 h
        refine lv_iinc (v := x9) (lv' := [(3, .int x9), (0, .ref (X.2.2.1 + t)), (1, .int a1), (2, .int v2)]) hx hb dX3_passLorry_50 hl (k := 3) rfl (by rw [ex9]; rfl) (by decide) rfl (fun ls hl => ?_)
        refine lv_goto (tgt := 4) hx hb dX3_passLorry_53 (by decide) ?_
        exact ih4 v2 x9 D _ _ _  hW hS (lv_sub hl [1, 2, 3, 0] rfl) h
      intro v2 v3 D H locs ls hW hS hl h
      rw [f_X3_passLorry_L4] at h
      refine lv_iload_n hx hb dX3_passLorry_4 rfl (lv_at hl 3 rfl) ?_
      refine lv_aload_n hx hb dX3_passLorry_5 rfl (lv_at hl 0 rfl) ?_
      refine wd_get CF hE hW fl_X3_36 (rm_s ht) (v := .int (gI D t 0)) rfl dX3_passLorry_6 ?_
      refine lv_icmp_ge (tgt := 56) hx hb dX3_passLorry_9 (by decide) (fun c1 => ?_) (fun c1 => ?_)
      · rw [if_pos c1] at h
        refine lv_iload_n hx hb dX3_passLorry_56 rfl (lv_at hl 2 rfl) ?_
        have h := Option.some.inj h
        subst h
        exact wd_iret CF hret hlk hW hS dX3_passLorry_57
      · rw [if_neg c1] at h
        refine lv_aload_n hx hb dX3_passLorry_12 rfl (lv_at hl 0 rfl) ?_
        refine wd_getR CF hE hW fl_X3_27 (rm_s ht) (rm_r5 ht) rfl dX3_passLorry_13 ?_
        refine lv_iload_n hx hb dX3_passLorry_16 rfl (lv_at hl 3 rfl) ?_
        obtain ⟨x2, ex2, h⟩ := bdE h
        refine wd_iald CF hE hW (rm_a5 ht) ex2 dX3_passLorry_17 ?_
        refine lv_iconst (v := 2) hx hb dX3_passLorry_18 (by decide) ?_
        refine lv_icmp_ne (tgt := 50) hx hb dX3_passLorry_19 (by decide) (fun c3 => ?_) (fun c3 => ?_)
        · rw [if_neg c3] at h
          exact hL50 v2 v3 D _ _ _  hW hS (lv_sub hl [0, 1, 2, 3] rfl) h
        · rw [if_pos c3] at h
          refine lv_aload_n hx hb dX3_passLorry_22 rfl (lv_at hl 0 rfl) ?_
          refine wd_get CF hE hW fl_X3_52 (rm_s ht) (v := .int (gI D t 5)) rfl dX3_passLorry_23 ?_
          refine lv_iload_n hx hb dX3_passLorry_26 rfl (lv_at hl 3 rfl) ?_
          refine wd_callSNr CF hE hW hS (x_X6_has l X (gI D t 5) v3 D) mi_X6_has vi_X6_has tn424 ⟨rfl, rfl, Nat.le_of_ble_eq_true rfl, Nat.le_of_ble_eq_true rfl⟩ rfl hl.1 rfl (Nat.le_of_ble_eq_true rfl) dX3_passLorry_27 ⟨Nat.le_of_ble_eq_true rfl, Nat.le_of_ble_eq_true rfl⟩ (fun H locs hW hS => ?_)
          refine lv_if_ne (tgt := 50) hx hb dX3_passLorry_30 (by decide) (fun c4 => ?_) (fun c4 => ?_)
          · rw [if_neg c4] at h
            exact hL50 v2 v3 D _ _ _  hW hS (lv_sub hl [0, 1, 2, 3] rfl) h
          · rw [if_pos c4] at h
            refine lv_iload_n hx hb dX3_passLorry_33 rfl (lv_at hl 1 rfl) ?_
            refine lv_aload_n hx hb dX3_passLorry_34 rfl (lv_at hl 0 rfl) ?_
            refine lv_iload_n hx hb dX3_passLorry_35 rfl (lv_at hl 3 rfl) ?_
            obtain ⟨x5, ex5, h⟩ := bdE h
            refine wd_callVr (ci := 3) (k := t) CF hE hW hS (x_X3_bearsOf l X t ht v3 D ex5) mi_X3_bearsOf vi_X3_bearsOf tw439 ⟨by decide, rfl⟩ (rm_s ht) ⟨rfl, rfl, Nat.le_of_ble_eq_true rfl, Nat.le_of_ble_eq_true rfl⟩ rfl hl.1 rfl (Nat.le_of_ble_eq_true rfl) dX3_passLorry_36 ⟨Nat.le_of_ble_eq_true rfl, Nat.le_of_ble_eq_true rfl⟩ (fun H locs hW hS => ?_)
            refine lv_icmp_le (tgt := 50) hx hb dX3_passLorry_39 (by decide) (fun c6 => ?_) (fun c6 => ?_)
            · rw [if_pos c6] at h
              exact hL50 v2 v3 D _ _ _  hW hS (lv_sub hl [0, 1, 2, 3] rfl) h
            · rw [if_neg c6] at h
              refine lv_aload_n hx hb dX3_passLorry_42 rfl (lv_at hl 0 rfl) ?_
              refine lv_iload_n hx hb dX3_passLorry_43 rfl (lv_at hl 3 rfl) ?_
              obtain ⟨q7, eq7, h⟩ := bdE h
              refine wd_callVv (ci := 3) (k := t) CF hE hW hS (x_X3_wake l X t ht v3 D eq7) mi_X3_wake vi_X3_wake tw447 ⟨by decide, rfl⟩ (rm_s ht) ⟨rfl, rfl, Nat.le_of_ble_eq_true rfl, Nat.le_of_ble_eq_true rfl⟩ rfl hl.1 rfl (Nat.le_of_ble_eq_true rfl) dX3_passLorry_44 ⟨Nat.le_of_ble_eq_true rfl, Nat.le_of_ble_eq_true rfl⟩ (fun H locs hW hS => ?_)
              obtain ⟨x8, ex8⟩ : ∃ y : Int32, y = v2 + 1 := ⟨_, rfl⟩
              replace h := apR ex8 h
              refine lv_iinc (v := x8) (lv' := [(2, .int x8), (0, .ref (X.2.2.1 + t)), (1, .int a1), (3, .int v3)]) hx hb dX3_passLorry_47 hl (k := 2) rfl (by rw [ex8]; rfl) (by decide) rfl (fun ls hl => ?_)
              exact hL50 x8 v3 q7 _ _ _  hW hS (lv_sub hl [1, 2, 0, 3] rfl) h
  refine lv_iconst (v := 0) hx hb dX3_passLorry_0 (by decide) ?_
  refine lv_istore_n (lv' := [(2, .int 0), (0, .ref (X.2.2.1 + t)), (1, .int a1)]) hx hb dX3_passLorry_1 rfl hl (by decide) rfl (fun ls hl => ?_)
  refine lv_iconst (v := 0) hx hb dX3_passLorry_2 (by decide) ?_
  refine lv_istore_n (lv' := [(3, .int 0), (2, .int 0), (0, .ref (X.2.2.1 + t)), (1, .int a1)]) hx hb dX3_passLorry_3 rfl hl (by decide) rfl (fun ls hl => ?_)
  exact hL4 FU 0 0 D _ _ _  hW hS (lv_sub hl [2, 3, 1, 0] rfl) h
def f_X3_clear (t : Nat) (D : wd_D) : wd_D := ap (sI D t 0 0) (fun D1 => ap (sI D1 t 1 0) (fun D2 => ap (sI D2 t 2 0) (fun D3 => ap (sI D3 t 3 0) (fun D4 => ap (sI D4 t 4 0) (fun D5 => ap (sI D5 t 5 0) (fun D6 => D6))))))
set_option maxHeartbeats 4000000 in
set_option maxRecDepth 100000 in
theorem x_X3_clear (l : Launch) (X : wd_X) (t : Nat) (ht : RoomAt t) (D : wd_D) {qv : wd_D} (h : f_X3_clear t D = qv) : wd_Met l X yX3_clear cX3_clear 1 (none : Option FieldType) ({ frames := 0, cells := 0, slots := 0, locals := 0 }) S0 S0 ([.ref (X.2.2.1 + t)] : List Value) D qv none 0 0 := by
  refine wd_enter (by decide) (Nat.le_of_ble_eq_true rfl) ?_
  intro p e s m below meth c CF hret hlk hnm hW hE ls hl
  have CF : CallFix p m c cX3_clear 1 s ([.ref (X.2.2.1 + t)] : List Value).toArray tg RX3 := CF
  have hx := CF.1
  have hb := CF.2.1
  have hown := CF.2.2.2.1
  have hts := CF.2.2.2.2
  have hS : va_S (wd_A X) s.heap s.heap [] := va_S.rf
  have hl : lv_has ls 1 [(0, .ref (X.2.2.1 + t))] := hl
  unfold f_X3_clear at h
  refine lv_aload_n hx hb dX3_clear_0 rfl (lv_at hl 0 rfl) ?_
  refine lv_iconst (v := 0) hx hb dX3_clear_1 (by decide) ?_
  refine wd_putI CF hE hW hS fl_X3_36 (rm_s ht) rfl rfl dX3_clear_2 (fun D1 H locs eD1 hW hS => ?_)
  replace h := apR eD1 h
  refine lv_aload_n hx hb dX3_clear_5 rfl (lv_at hl 0 rfl) ?_
  refine lv_iconst (v := 0) hx hb dX3_clear_6 (by decide) ?_
  refine wd_putI CF hE hW hS fl_X3_40 (rm_s ht) rfl rfl dX3_clear_7 (fun D2 H locs eD2 hW hS => ?_)
  replace h := apR eD2 h
  refine lv_aload_n hx hb dX3_clear_10 rfl (lv_at hl 0 rfl) ?_
  refine lv_iconst (v := 0) hx hb dX3_clear_11 (by decide) ?_
  refine wd_putI CF hE hW hS fl_X3_43 (rm_s ht) rfl rfl dX3_clear_12 (fun D3 H locs eD3 hW hS => ?_)
  replace h := apR eD3 h
  refine lv_aload_n hx hb dX3_clear_15 rfl (lv_at hl 0 rfl) ?_
  refine lv_iconst (v := 0) hx hb dX3_clear_16 (by decide) ?_
  refine wd_putI CF hE hW hS fl_X3_46 (rm_s ht) rfl rfl dX3_clear_17 (fun D4 H locs eD4 hW hS => ?_)
  replace h := apR eD4 h
  refine lv_aload_n hx hb dX3_clear_20 rfl (lv_at hl 0 rfl) ?_
  refine lv_iconst (v := 0) hx hb dX3_clear_21 (by decide) ?_
  refine wd_putI CF hE hW hS fl_X3_49 (rm_s ht) rfl rfl dX3_clear_22 (fun D5 H locs eD5 hW hS => ?_)
  replace h := apR eD5 h
  refine lv_aload_n hx hb dX3_clear_25 rfl (lv_at hl 0 rfl) ?_
  refine lv_iconst (v := 0) hx hb dX3_clear_26 (by decide) ?_
  refine wd_putI CF hE hW hS fl_X3_52 (rm_s ht) rfl rfl dX3_clear_27 (fun D6 H locs eD6 hW hS => ?_)
  replace h := apR eD6 h
  subst h
  exact wd_vret CF hret hlk hW hS dX3_clear_30
def f_X3_addChild (t : Nat) (a1 : Int32) (D : wd_D) : Option (wd_D) := (if (gI D t 0) < 7 then (wr 7 D (t + 1) (gI D t 0) a1).bind (fun D2 => (wr 7 D2 (t + 5) (gI D2 t 0) (gI D2 t 0)).bind (fun D3 => (f_X3_lieDown t (gI D3 t 0) D3).bind (fun q4 => ap (sI q4 t 0 ((gI q4 t 0) + 1)) (fun D5 => some D5)))) else some D)
set_option maxHeartbeats 4000000 in
set_option maxRecDepth 100000 in
theorem x_X3_addChild (l : Launch) (X : wd_X) (t : Nat) (ht : RoomAt t) (a1 : Int32) (D : wd_D) {qv : wd_D} (h : f_X3_addChild t a1 D = some qv) : wd_Met l X yX3_addChild cX3_addChild 2 (none : Option FieldType) ({ frames := 1, cells := 0, slots := 0, locals := 100 }) S0 S0 ([.ref (X.2.2.1 + t), .int a1] : List Value) D qv none 0 0 := by
  refine wd_enter (by decide) (Nat.le_of_ble_eq_true rfl) ?_
  intro p e s m below meth c CF hret hlk hnm hW hE ls hl
  have CF : CallFix p m c cX3_addChild 2 s ([.ref (X.2.2.1 + t), .int a1] : List Value).toArray tg RX3 := CF
  have hx := CF.1
  have hb := CF.2.1
  have hown := CF.2.2.2.1
  have hts := CF.2.2.2.2
  have hS : va_S (wd_A X) s.heap s.heap [] := va_S.rf
  have hl : lv_has ls 2 [(0, .ref (X.2.2.1 + t)), (1, .int a1)] := hl
  unfold f_X3_addChild at h
  refine lv_aload_n hx hb dX3_addChild_0 rfl (lv_at hl 0 rfl) ?_
  refine wd_get CF hE hW fl_X3_36 (rm_s ht) (v := .int (gI D t 0)) rfl dX3_addChild_1 ?_
  refine lv_bipush (v := 7) hx hb dX3_addChild_4 (by decide) ?_
  refine lv_icmp_lt (tgt := 10) hx hb dX3_addChild_6 (by decide) (fun c1 => ?_) (fun c1 => ?_)
  · rw [if_pos c1] at h
    refine lv_aload_n hx hb dX3_addChild_10 rfl (lv_at hl 0 rfl) ?_
    refine wd_getR CF hE hW fl_X3_9 (rm_s ht) (rm_r0 ht) rfl dX3_addChild_11 ?_
    refine lv_aload_n hx hb dX3_addChild_14 rfl (lv_at hl 0 rfl) ?_
    refine wd_get CF hE hW fl_X3_36 (rm_s ht) (v := .int (gI D t 0)) rfl dX3_addChild_15 ?_
    refine lv_iload_n hx hb dX3_addChild_18 rfl (lv_at hl 1 rfl) ?_
    obtain ⟨D2, eD2, h⟩ := bdE h
    refine wd_iast CF hE hW hS (rm_a0 ht) eD2 dX3_addChild_19 (fun H locs hW hS => ?_)
    refine lv_aload_n hx hb dX3_addChild_20 rfl (lv_at hl 0 rfl) ?_
    refine wd_getR CF hE hW fl_X3_24 (rm_s ht) (rm_r4 ht) rfl dX3_addChild_21 ?_
    refine lv_aload_n hx hb dX3_addChild_24 rfl (lv_at hl 0 rfl) ?_
    refine wd_get CF hE hW fl_X3_36 (rm_s ht) (v := .int (gI D2 t 0)) rfl dX3_addChild_25 ?_
    refine lv_aload_n hx hb dX3_addChild_28 rfl (lv_at hl 0 rfl) ?_
    refine wd_get CF hE hW fl_X3_36 (rm_s ht) (v := .int (gI D2 t 0)) rfl dX3_addChild_29 ?_
    obtain ⟨D3, eD3, h⟩ := bdE h
    refine wd_iast CF hE hW hS (rm_a4 ht) eD3 dX3_addChild_32 (fun H locs hW hS => ?_)
    refine lv_aload_n hx hb dX3_addChild_33 rfl (lv_at hl 0 rfl) ?_
    refine lv_aload_n hx hb dX3_addChild_34 rfl (lv_at hl 0 rfl) ?_
    refine wd_get CF hE hW fl_X3_36 (rm_s ht) (v := .int (gI D3 t 0)) rfl dX3_addChild_35 ?_
    obtain ⟨q4, eq4, h⟩ := bdE h
    refine wd_callVv (ci := 3) (k := t) CF hE hW hS (x_X3_lieDown l X t ht (gI D3 t 0) D3 eq4) mi_X3_lieDown vi_X3_lieDown tw362 ⟨by decide, rfl⟩ (rm_s ht) ⟨rfl, rfl, Nat.le_of_ble_eq_true rfl, Nat.le_of_ble_eq_true rfl⟩ rfl hl.1 rfl (Nat.le_of_ble_eq_true rfl) dX3_addChild_38 ⟨Nat.le_of_ble_eq_true rfl, Nat.le_of_ble_eq_true rfl⟩ (fun H locs hW hS => ?_)
    refine lv_aload_n hx hb dX3_addChild_41 rfl (lv_at hl 0 rfl) ?_
    refine lv_dup hx hb dX3_addChild_42 rfl ?_
    refine wd_get CF hE hW fl_X3_36 (rm_s ht) (v := .int (gI q4 t 0)) rfl dX3_addChild_43 ?_
    refine lv_iconst (v := 1) hx hb dX3_addChild_46 (by decide) ?_
    refine lv_iadd hx hb dX3_addChild_47 ?_
    refine wd_putI CF hE hW hS fl_X3_36 (rm_s ht) rfl rfl dX3_addChild_48 (fun D5 H locs eD5 hW hS => ?_)
    replace h := apR eD5 h
    have h := Option.some.inj h
    subst h
    exact wd_vret CF hret hlk hW hS dX3_addChild_51
  · rw [if_neg c1] at h
    have h := Option.some.inj h
    subst h
    exact wd_vret CF hret hlk hW hS dX3_addChild_9
def f_X3_whereLoudest_L34 (k9 : Nat → Int32 → Int32 → Int32 → wd_D → Option (Int32)) (t : Nat) (v1 : Int32) (v2 : Int32) (v3 : Int32) (D : wd_D) : Option (Int32) := ap (v3 + 1) (fun x6 => k9 t v1 v2 x6 D)
def f_X3_whereLoudest_L9  : Nat → Nat → Int32 → Int32 → Int32 → wd_D → Option (Int32)
  | 0, _, _, _, _, _ => none
  | n + 1, t, v1, v2, v3, D => (if (gI D t 0) ≤ v3 then some v2 else (f_X3_noiseAt t v3 v1 D).bind (fun x3 => (f_X3_noiseAt t v2 v1 D).bind (fun x4 => (if x3 ≤ x4 then f_X3_whereLoudest_L34 (f_X3_whereLoudest_L9 n) t v1 v2 v3 D else f_X3_whereLoudest_L34 (f_X3_whereLoudest_L9 n) t v1 v3 v3 D))))
def f_X3_whereLoudest (t : Nat) (D : wd_D) : Option (Int32) := (f_X3_heardCriers t D).bind (fun x1 => f_X3_whereLoudest_L9 FU t x1 0 1 D)
set_option maxHeartbeats 4000000 in
set_option maxRecDepth 100000 in
theorem x_X3_whereLoudest (l : Launch) (X : wd_X) (t : Nat) (ht : RoomAt t) (D : wd_D) {rv : Int32} (h : f_X3_whereLoudest t D = some rv) : wd_Met l X yX3_whereLoudest cX3_whereLoudest 4 (some FieldType.int) ({ frames := 2, cells := 0, slots := 0, locals := 200 }) S0 S0 ([.ref (X.2.2.1 + t)] : List Value) D D (some (.int rv)) 0 0 := by
  refine wd_enter (by decide) (Nat.le_of_ble_eq_true rfl) ?_
  intro p e s m below meth c CF hret hlk hnm hW hE ls hl
  have CF : CallFix p m c cX3_whereLoudest 4 s ([.ref (X.2.2.1 + t)] : List Value).toArray tg RX3 := CF
  have hx := CF.1
  have hb := CF.2.1
  have hown := CF.2.2.2.1
  have hts := CF.2.2.2.2
  have hS : va_S (wd_A X) s.heap s.heap [] := va_S.rf
  have hl : lv_has ls 4 [(0, .ref (X.2.2.1 + t))] := hl
  unfold f_X3_whereLoudest at h
  have hL9 : ∀ (n9 : Nat) (v1 : Int32) (v2 : Int32) (v3 : Int32) (H : Heap) (locs : List Loc) (ls : Array Slot), Wd X S0 D H → va_S (wd_A X) s.heap H locs → lv_has ls 4 [(0, .ref (X.2.2.1 + t)), (1, .int v1), (2, .int v2), (3, .int v3)] → f_X3_whereLoudest_L9 n9 t v1 v2 v3 D = some rv → W p l e ({ frames := 2, cells := 0, slots := 0, locals := 200 }) s m ([.ref (X.2.2.1 + t)] : List Value).toArray below meth c H locs 0 0 (MQ below (wd_Q X S0 D (some (.int rv))) ([.ref (X.2.2.1 + t)] : List Value).toArray s 0 0 (wd_A X)) (F0 m 9 ls []) := by
    intro n9
    induction n9 with
    | zero => intro v1 v2 v3 H locs ls hW hS hl h; cases h
    | succ n9 ih9 =>
      have hL34 : ∀ (v1 : Int32) (v2 : Int32) (v3 : Int32) (H : Heap) (locs : List Loc) (ls : Array Slot), Wd X S0 D H → va_S (wd_A X) s.heap H locs → lv_has ls 4 [(0, .ref (X.2.2.1 + t)), (1, .int v1), (2, .int v2), (3, .int v3)] → f_X3_whereLoudest_L34 (f_X3_whereLoudest_L9 n9) t v1 v2 v3 D = some rv → W p l e ({ frames := 2, cells := 0, slots := 0, locals := 200 }) s m ([.ref (X.2.2.1 + t)] : List Value).toArray below meth c H locs 0 0 (MQ below (wd_Q X S0 D (some (.int rv))) ([.ref (X.2.2.1 + t)] : List Value).toArray s 0 0 (wd_A X)) (F0 m 34 ls []) := by
        intro v1 v2 v3 H locs ls hW hS hl h
        unfold f_X3_whereLoudest_L34 at h
        obtain ⟨x6, ex6⟩ : ∃ y : Int32, y = v3 + 1 := ⟨_, rfl⟩
        replace h := apR ex6 h
        refine lv_iinc (v := x6) (lv' := [(3, .int x6), (0, .ref (X.2.2.1 + t)), (1, .int v1), (2, .int v2)]) hx hb dX3_whereLoudest_34 hl (k := 3) rfl (by rw [ex6]; rfl) (by decide) rfl (fun ls hl => ?_)
        refine lv_goto (tgt := 9) hx hb dX3_whereLoudest_37 (by decide) ?_
        exact ih9 v1 v2 x6 _ _ _  hW hS (lv_sub hl [1, 2, 3, 0] rfl) h
      intro v1 v2 v3 H locs ls hW hS hl h
      rw [f_X3_whereLoudest_L9] at h
      refine lv_iload_n hx hb dX3_whereLoudest_9 rfl (lv_at hl 3 rfl) ?_
      refine lv_aload_n hx hb dX3_whereLoudest_10 rfl (lv_at hl 0 rfl) ?_
      refine wd_get CF hE hW fl_X3_36 (rm_s ht) (v := .int (gI D t 0)) rfl dX3_whereLoudest_11 ?_
      refine lv_icmp_ge (tgt := 40) hx hb dX3_whereLoudest_14 (by decide) (fun c2 => ?_) (fun c2 => ?_)
      · rw [if_pos c2] at h
        refine lv_iload_n hx hb dX3_whereLoudest_40 rfl (lv_at hl 2 rfl) ?_
        have h := Option.some.inj h
        subst h
        exact wd_iret CF hret hlk hW hS dX3_whereLoudest_41
      · rw [if_neg c2] at h
        refine lv_aload_n hx hb dX3_whereLoudest_17 rfl (lv_at hl 0 rfl) ?_
        refine lv_iload_n hx hb dX3_whereLoudest_18 rfl (lv_at hl 3 rfl) ?_
        refine lv_iload_n hx hb dX3_whereLoudest_19 rfl (lv_at hl 1 rfl) ?_
        obtain ⟨x3, ex3, h⟩ := bdE h
        refine wd_callVr (ci := 3) (k := t) CF hE hW hS (x_X3_noiseAt l X t ht v3 v1 D ex3) mi_X3_noiseAt vi_X3_noiseAt tw427 ⟨by decide, rfl⟩ (rm_s ht) ⟨rfl, rfl, Nat.le_of_ble_eq_true rfl, Nat.le_of_ble_eq_true rfl⟩ rfl hl.1 rfl (Nat.le_of_ble_eq_true rfl) dX3_whereLoudest_20 ⟨Nat.le_of_ble_eq_true rfl, Nat.le_of_ble_eq_true rfl⟩ (fun H locs hW hS => ?_)
        refine lv_aload_n hx hb dX3_whereLoudest_23 rfl (lv_at hl 0 rfl) ?_
        refine lv_iload_n hx hb dX3_whereLoudest_24 rfl (lv_at hl 2 rfl) ?_
        refine lv_iload_n hx hb dX3_whereLoudest_25 rfl (lv_at hl 1 rfl) ?_
        obtain ⟨x4, ex4, h⟩ := bdE h
        refine wd_callVr (ci := 3) (k := t) CF hE hW hS (x_X3_noiseAt l X t ht v2 v1 D ex4) mi_X3_noiseAt vi_X3_noiseAt tw427 ⟨by decide, rfl⟩ (rm_s ht) ⟨rfl, rfl, Nat.le_of_ble_eq_true rfl, Nat.le_of_ble_eq_true rfl⟩ rfl hl.1 rfl (Nat.le_of_ble_eq_true rfl) dX3_whereLoudest_26 ⟨Nat.le_of_ble_eq_true rfl, Nat.le_of_ble_eq_true rfl⟩ (fun H locs hW hS => ?_)
        refine lv_icmp_le (tgt := 34) hx hb dX3_whereLoudest_29 (by decide) (fun c5 => ?_) (fun c5 => ?_)
        · rw [if_pos c5] at h
          exact hL34 v1 v2 v3 _ _ _  hW hS (lv_sub hl [0, 1, 2, 3] rfl) h
        · rw [if_neg c5] at h
          refine lv_iload_n hx hb dX3_whereLoudest_32 rfl (lv_at hl 3 rfl) ?_
          refine lv_istore_n (lv' := [(2, .int v3), (0, .ref (X.2.2.1 + t)), (1, .int v1), (3, .int v3)]) hx hb dX3_whereLoudest_33 rfl hl (by decide) rfl (fun ls hl => ?_)
          exact hL34 v1 v3 v3 _ _ _  hW hS (lv_sub hl [1, 2, 0, 3] rfl) h
  refine lv_aload_n hx hb dX3_whereLoudest_0 rfl (lv_at hl 0 rfl) ?_
  obtain ⟨x1, ex1, h⟩ := bdE h
  refine wd_callVr (ci := 3) (k := t) CF hE hW hS (x_X3_heardCriers l X t ht D ex1) mi_X3_heardCriers vi_X3_heardCriers tw412 ⟨by decide, rfl⟩ (rm_s ht) ⟨rfl, rfl, Nat.le_of_ble_eq_true rfl, Nat.le_of_ble_eq_true rfl⟩ rfl hl.1 rfl (Nat.le_of_ble_eq_true rfl) dX3_whereLoudest_1 ⟨Nat.le_of_ble_eq_true rfl, Nat.le_of_ble_eq_true rfl⟩ (fun H locs hW hS => ?_)
  refine lv_istore_n (lv' := [(1, .int x1), (0, .ref (X.2.2.1 + t))]) hx hb dX3_whereLoudest_4 rfl hl (by decide) rfl (fun ls hl => ?_)
  refine lv_iconst (v := 0) hx hb dX3_whereLoudest_5 (by decide) ?_
  refine lv_istore_n (lv' := [(2, .int 0), (1, .int x1), (0, .ref (X.2.2.1 + t))]) hx hb dX3_whereLoudest_6 rfl hl (by decide) rfl (fun ls hl => ?_)
  refine lv_iconst (v := 1) hx hb dX3_whereLoudest_7 (by decide) ?_
  refine lv_istore_n (lv' := [(3, .int 1), (2, .int 0), (1, .int x1), (0, .ref (X.2.2.1 + t))]) hx hb dX3_whereLoudest_8 rfl hl (by decide) rfl (fun ls hl => ?_)
  exact hL9 FU x1 0 1 _ _ _  hW hS (lv_sub hl [3, 2, 1, 0] rfl) h
def f_X3_loudestUnheeded_L44 (k5 : Nat → Int32 → Int32 → wd_D → Option (Int32)) (t : Nat) (v1 : Int32) (v2 : Int32) (D : wd_D) : Option (Int32) := ap (v2 + 1) (fun x7 => k5 t v1 x7 D)
def f_X3_loudestUnheeded_L5  : Nat → Nat → Int32 → Int32 → wd_D → Option (Int32)
  | 0, _, _, _, _ => none
  | n + 1, t, v1, v2, D => (if (gI D t 0) ≤ v2 then some v1 else (rd 7 D (t + 6) v2).bind (fun x2 => (if x2 = 2 then (if (f_X6_has (gI D t 5) v2) = 0 then (f_X3_bearsOf t v2 D).bind (fun x5 => ap (if x5 < v1 then x5 else v1) (fun x6 => f_X3_loudestUnheeded_L44 (f_X3_loudestUnheeded_L5 n) t x6 v2 D)) else f_X3_loudestUnheeded_L44 (f_X3_loudestUnheeded_L5 n) t v1 v2 D) else f_X3_loudestUnheeded_L44 (f_X3_loudestUnheeded_L5 n) t v1 v2 D)))
def f_X3_loudestUnheeded (t : Nat) (D : wd_D) : Option (Int32) := f_X3_loudestUnheeded_L5 FU t 99 0 D
set_option maxHeartbeats 4000000 in
set_option maxRecDepth 100000 in
theorem x_X3_loudestUnheeded (l : Launch) (X : wd_X) (t : Nat) (ht : RoomAt t) (D : wd_D) {rv : Int32} (h : f_X3_loudestUnheeded t D = some rv) : wd_Met l X yX3_loudestUnheeded cX3_loudestUnheeded 3 (some FieldType.int) ({ frames := 1, cells := 0, slots := 0, locals := 100 }) S0 S0 ([.ref (X.2.2.1 + t)] : List Value) D D (some (.int rv)) 0 0 := by
  refine wd_enter (by decide) (Nat.le_of_ble_eq_true rfl) ?_
  intro p e s m below meth c CF hret hlk hnm hW hE ls hl
  have CF : CallFix p m c cX3_loudestUnheeded 3 s ([.ref (X.2.2.1 + t)] : List Value).toArray tg RX3 := CF
  have hx := CF.1
  have hb := CF.2.1
  have hown := CF.2.2.2.1
  have hts := CF.2.2.2.2
  have hS : va_S (wd_A X) s.heap s.heap [] := va_S.rf
  have hl : lv_has ls 3 [(0, .ref (X.2.2.1 + t))] := hl
  unfold f_X3_loudestUnheeded at h
  have hL5 : ∀ (n5 : Nat) (v1 : Int32) (v2 : Int32) (H : Heap) (locs : List Loc) (ls : Array Slot), Wd X S0 D H → va_S (wd_A X) s.heap H locs → lv_has ls 3 [(0, .ref (X.2.2.1 + t)), (1, .int v1), (2, .int v2)] → f_X3_loudestUnheeded_L5 n5 t v1 v2 D = some rv → W p l e ({ frames := 1, cells := 0, slots := 0, locals := 100 }) s m ([.ref (X.2.2.1 + t)] : List Value).toArray below meth c H locs 0 0 (MQ below (wd_Q X S0 D (some (.int rv))) ([.ref (X.2.2.1 + t)] : List Value).toArray s 0 0 (wd_A X)) (F0 m 5 ls []) := by
    intro n5
    induction n5 with
    | zero => intro v1 v2 H locs ls hW hS hl h; cases h
    | succ n5 ih5 =>
      have hL44 : ∀ (v1 : Int32) (v2 : Int32) (H : Heap) (locs : List Loc) (ls : Array Slot), Wd X S0 D H → va_S (wd_A X) s.heap H locs → lv_has ls 3 [(0, .ref (X.2.2.1 + t)), (1, .int v1), (2, .int v2)] → f_X3_loudestUnheeded_L44 (f_X3_loudestUnheeded_L5 n5) t v1 v2 D = some rv → W p l e ({ frames := 1, cells := 0, slots := 0, locals := 100 }) s m ([.ref (X.2.2.1 + t)] : List Value).toArray below meth c H locs 0 0 (MQ below (wd_Q X S0 D (some (.int rv))) ([.ref (X.2.2.1 + t)] : List Value).toArray s 0 0 (wd_A X)) (F0 m 44 ls []) := by
        intro v1 v2 H locs ls hW hS hl h
        unfold f_X3_loudestUnheeded_L44 at h
        obtain ⟨x7, ex7⟩ : ∃ y : Int32, y = v2 + 1 := ⟨_, rfl⟩
        replace h := apR ex7 h
        refine lv_iinc (v := x7) (lv' := [(2, .int x7), (0, .ref (X.2.2.1 + t)), (1, .int v1)]) hx hb dX3_loudestUnheeded_44 hl (k := 2) rfl (by rw [ex7]; rfl) (by decide) rfl (fun ls hl => ?_)
        refine lv_goto (tgt := 5) hx hb dX3_loudestUnheeded_47 (by decide) ?_
        exact ih5 v1 x7 _ _ _  hW hS (lv_sub hl [1, 2, 0] rfl) h
      intro v1 v2 H locs ls hW hS hl h
      rw [f_X3_loudestUnheeded_L5] at h
      refine lv_iload_n hx hb dX3_loudestUnheeded_5 rfl (lv_at hl 2 rfl) ?_
      refine lv_aload_n hx hb dX3_loudestUnheeded_6 rfl (lv_at hl 0 rfl) ?_
      refine wd_get CF hE hW fl_X3_36 (rm_s ht) (v := .int (gI D t 0)) rfl dX3_loudestUnheeded_7 ?_
      refine lv_icmp_ge (tgt := 50) hx hb dX3_loudestUnheeded_10 (by decide) (fun c1 => ?_) (fun c1 => ?_)
      · rw [if_pos c1] at h
        refine lv_iload_n hx hb dX3_loudestUnheeded_50 rfl (lv_at hl 1 rfl) ?_
        have h := Option.some.inj h
        subst h
        exact wd_iret CF hret hlk hW hS dX3_loudestUnheeded_51
      · rw [if_neg c1] at h
        refine lv_aload_n hx hb dX3_loudestUnheeded_13 rfl (lv_at hl 0 rfl) ?_
        refine wd_getR CF hE hW fl_X3_27 (rm_s ht) (rm_r5 ht) rfl dX3_loudestUnheeded_14 ?_
        refine lv_iload_n hx hb dX3_loudestUnheeded_17 rfl (lv_at hl 2 rfl) ?_
        obtain ⟨x2, ex2, h⟩ := bdE h
        refine wd_iald CF hE hW (rm_a5 ht) ex2 dX3_loudestUnheeded_18 ?_
        refine lv_iconst (v := 2) hx hb dX3_loudestUnheeded_19 (by decide) ?_
        refine lv_icmp_ne (tgt := 44) hx hb dX3_loudestUnheeded_20 (by decide) (fun c3 => ?_) (fun c3 => ?_)
        · rw [if_neg c3] at h
          exact hL44 v1 v2 _ _ _  hW hS (lv_sub hl [0, 1, 2] rfl) h
        · rw [if_pos c3] at h
          refine lv_aload_n hx hb dX3_loudestUnheeded_23 rfl (lv_at hl 0 rfl) ?_
          refine wd_get CF hE hW fl_X3_52 (rm_s ht) (v := .int (gI D t 5)) rfl dX3_loudestUnheeded_24 ?_
          refine lv_iload_n hx hb dX3_loudestUnheeded_27 rfl (lv_at hl 2 rfl) ?_
          refine wd_callSNr CF hE hW hS (x_X6_has l X (gI D t 5) v2 D) mi_X6_has vi_X6_has tn424 ⟨rfl, rfl, Nat.le_of_ble_eq_true rfl, Nat.le_of_ble_eq_true rfl⟩ rfl hl.1 rfl (Nat.le_of_ble_eq_true rfl) dX3_loudestUnheeded_28 ⟨Nat.le_of_ble_eq_true rfl, Nat.le_of_ble_eq_true rfl⟩ (fun H locs hW hS => ?_)
          refine lv_if_ne (tgt := 44) hx hb dX3_loudestUnheeded_31 (by decide) (fun c4 => ?_) (fun c4 => ?_)
          · rw [if_neg c4] at h
            exact hL44 v1 v2 _ _ _  hW hS (lv_sub hl [0, 1, 2] rfl) h
          · rw [if_pos c4] at h
            refine lv_iload_n hx hb dX3_loudestUnheeded_34 rfl (lv_at hl 1 rfl) ?_
            refine lv_aload_n hx hb dX3_loudestUnheeded_35 rfl (lv_at hl 0 rfl) ?_
            refine lv_iload_n hx hb dX3_loudestUnheeded_36 rfl (lv_at hl 2 rfl) ?_
            obtain ⟨x5, ex5, h⟩ := bdE h
            refine wd_callVr (ci := 3) (k := t) CF hE hW hS (x_X3_bearsOf l X t ht v2 D ex5) mi_X3_bearsOf vi_X3_bearsOf tw439 ⟨by decide, rfl⟩ (rm_s ht) ⟨rfl, rfl, Nat.le_of_ble_eq_true rfl, Nat.le_of_ble_eq_true rfl⟩ rfl hl.1 rfl (Nat.le_of_ble_eq_true rfl) dX3_loudestUnheeded_37 ⟨Nat.le_of_ble_eq_true rfl, Nat.le_of_ble_eq_true rfl⟩ (fun H locs hW hS => ?_)
            refine va_mmin hx hb (CF.2.2.1.trans hl.1.symm) hown (hts _ tw599) (hts _ tw406) (hts _ tw10) (hts _ tw407) (Nat.le_of_ble_eq_true rfl) (Nat.le_of_ble_eq_true rfl) (Nat.le_of_ble_eq_true rfl) (Nat.le_of_ble_eq_true rfl) dX3_loudestUnheeded_40 ?_
            refine lv_topi (fun x6 ex6 => ?_)
            replace h := apR ex6 h
            refine lv_istore_n (lv' := [(1, .int x6), (0, .ref (X.2.2.1 + t)), (2, .int v2)]) hx hb dX3_loudestUnheeded_43 rfl hl (by decide) rfl (fun ls hl => ?_)
            exact hL44 x6 v2 _ _ _  hW hS (lv_sub hl [1, 0, 2] rfl) h
  refine lv_bipush (v := 99) hx hb dX3_loudestUnheeded_0 (by decide) ?_
  refine lv_istore_n (lv' := [(1, .int 99), (0, .ref (X.2.2.1 + t))]) hx hb dX3_loudestUnheeded_2 rfl hl (by decide) rfl (fun ls hl => ?_)
  refine lv_iconst (v := 0) hx hb dX3_loudestUnheeded_3 (by decide) ?_
  refine lv_istore_n (lv' := [(2, .int 0), (1, .int 99), (0, .ref (X.2.2.1 + t))]) hx hb dX3_loudestUnheeded_4 rfl hl (by decide) rfl (fun ls hl => ?_)
  exact hL5 FU 99 0 _ _ _  hW hS (lv_sub hl [2, 1, 0] rfl) h
