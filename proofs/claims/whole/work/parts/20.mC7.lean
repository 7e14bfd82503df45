/-! X7_isLook, X7_hands, X7_outs, X7_best, X7_silence, X7_wakes, X7_loudest, X7_isSo, X7_who, X7_held, X7_lorries, X7_drawn, X7_image, X7_restore, X7_kind, X7_as, X7_begins, X7_markLent, X7_markPlain, X7_sizeDeep, X7_mark, X7_sizePlain, X7_size, X7_ask, X7_trace, X7_count, X7_status -/
def f_X7_isLook (a1 : Int32) (a2 : Int32) : Int32 := (if (f_X7_in a1.toInt64 1 30) = 0 then 0 else (if (f_X7_in a2.toInt64 0 1) = 0 then 0 else 1))
theorem z_X7_isLook (a1 : Int32) (a2 : Int32) : f_X7_isLook a1 a2 = 0 ∨ f_X7_isLook a1 a2 = 1 := by
  unfold f_X7_isLook
  (repeat' split) <;> first | exact Or.inl rfl | exact Or.inr rfl | apply z_X7_in
set_option maxHeartbeats 4000000 in
set_option maxRecDepth 100000 in
theorem x_X7_isLook (l : Launch) (X : wd_X) (a1 : Int32) (a2 : Int32) (D : wd_D) : wd_Met l X yX7_isLook cX7_isLook 3 (some FieldType.boolean) ({ frames := 1, cells := 0, slots := 0, locals := 100 }) S0 S0 ([.ref (X.2.2.1 + 370), .int a1, .int a2] : List Value) D D (some (.int (f_X7_isLook a1 a2))) 0 0 := by
  obtain ⟨rv, h⟩ : ∃ rv, f_X7_isLook a1 a2 = rv := ⟨_, rfl⟩
  rw [h]
  refine wd_enter (by decide) (Nat.le_of_ble_eq_true rfl) ?_
  intro p e s m below meth c CF hret hlk hnm hW hE ls hl
  have CF : CallFix p m c cX7_isLook 3 s ([.ref (X.2.2.1 + 370), .int a1, .int a2] : List Value).toArray tg RX7 := CF
  have hx := CF.1
  have hb := CF.2.1
  have hown := CF.2.2.2.1
  have hts := CF.2.2.2.2
  have hS : va_S (wd_A X) s.heap s.heap [] := va_S.rf
  have hl : lv_has ls 3 [(0, .ref (X.2.2.1 + 370)), (1, .int a1), (2, .int a2)] := hl
  unfold f_X7_isLook at h
  refine lv_iload_n hx hb dX7_isLook_0 rfl (lv_at hl 1 rfl) ?_
  refine lv_i2l hx hb dX7_isLook_1 rfl ?_
  refine lv_lconst (v := 1) hx hb dX7_isLook_2 (by decide) ?_
  refine lv_ldc2 (v := 30) hx hb hown (hts _ tw1041) dX7_isLook_3 ?_
  refine wd_callSr CF hE hW hS (x_X7_in l X a1.toInt64 1 30 D) mi_X7_in vi_X7_in tw818 ⟨rfl, rfl, Nat.le_of_ble_eq_true rfl, Nat.le_of_ble_eq_true rfl⟩ rfl hl.1 rfl (Nat.le_of_ble_eq_true rfl) dX7_isLook_6 ⟨Nat.le_of_ble_eq_true rfl, Nat.le_of_ble_eq_true rfl⟩ (fun H locs hW hS => ?_)
  refine lv_if_eq (tgt := 26) hx hb dX7_isLook_9 (by decide) (fun c1 => ?_) (fun c1 => ?_)
  · rw [if_pos c1] at h
    refine lv_iconst (v := 0) hx hb dX7_isLook_26 (by decide) ?_
    subst h
    exact wd_zret CF hret hlk hW hS (Or.inl rfl) dX7_isLook_27
  · rw [if_neg c1] at h
    refine lv_iload_n hx hb dX7_isLook_12 rfl (lv_at hl 2 rfl) ?_
    refine lv_i2l hx hb dX7_isLook_13 rfl ?_
    refine lv_lconst (v := 0) hx hb dX7_isLook_14 (by decide) ?_
    refine lv_lconst (v := 1) hx hb dX7_isLook_15 (by decide) ?_
    refine wd_callSr CF hE hW hS (x_X7_in l X a2.toInt64 0 1 D) mi_X7_in vi_X7_in tw818 ⟨rfl, rfl, Nat.le_of_ble_eq_true rfl, Nat.le_of_ble_eq_true rfl⟩ rfl hl.1 rfl (Nat.le_of_ble_eq_true rfl) dX7_isLook_16 ⟨Nat.le_of_ble_eq_true rfl, Nat.le_of_ble_eq_true rfl⟩ (fun H locs hW hS => ?_)
    refine lv_if_eq (tgt := 26) hx hb dX7_isLook_19 (by decide) (fun c2 => ?_) (fun c2 => ?_)
    · rw [if_pos c2] at h
      refine lv_iconst (v := 0) hx hb dX7_isLook_26 (by decide) ?_
      subst h
      exact wd_zret CF hret hlk hW hS (Or.inl rfl) dX7_isLook_27
    · rw [if_neg c2] at h
      refine lv_iconst (v := 1) hx hb dX7_isLook_22 (by decide) ?_
      refine lv_goto (tgt := 27) hx hb dX7_isLook_23 (by decide) ?_
      subst h
      exact wd_zret CF hret hlk hW hS (Or.inr rfl) dX7_isLook_27
def f_X7_hands_L150 (k30 : Int32 → Int32 → Int32 → Int32 → Int32 → wd_D → Option (Int32 × wd_D)) (a1 : Int32) (a2 : Int32) (v3 : Int32) (v4 : Int32) (v5 : Int32) (D : wd_D) : Option (Int32 × wd_D) := ap (v5 + 1) (fun x20 => k30 a1 a2 v3 v4 x20 D)
def f_X7_hands_L148 (k30 : Int32 → Int32 → Int32 → Int32 → Int32 → wd_D → Option (Int32 × wd_D)) (a1 : Int32) (a2 : Int32) (v3 : Int32) (v5 : Int32) (z0 : Int32) (D : wd_D) : Option (Int32 × wd_D) := f_X7_hands_L150 k30 a1 a2 v3 z0 v5 D
def f_X7_hands_L135 (k30 : Int32 → Int32 → Int32 → Int32 → Int32 → wd_D → Option (Int32 × wd_D)) (a1 : Int32) (a2 : Int32) (v4 : Int32) (v5 : Int32) (v6 : Int32) (v7 : Int32) (z0 : Int32) (D : wd_D) : Option (Int32 × wd_D) := (if v7 = 0 then f_X7_hands_L148 k30 a1 a2 z0 v5 v4 D else f_X7_hands_L148 k30 a1 a2 z0 v5 v6 D)
def f_X7_hands_L122 (k30 : Int32 → Int32 → Int32 → Int32 → Int32 → wd_D → Option (Int32 × wd_D)) (a1 : Int32) (a2 : Int32) (v3 : Int32) (v4 : Int32) (v5 : Int32) (v6 : Int32) (z0 : Int32) (D : wd_D) : Option (Int32 × wd_D) := (if z0 = 0 then f_X7_hands_L135 k30 a1 a2 v4 v5 v6 z0 v3 D else f_X7_hands_L135 k30 a1 a2 v4 v5 v6 z0 v5 D)
def f_X7_hands_L121 (k30 : Int32 → Int32 → Int32 → Int32 → Int32 → wd_D → Option (Int32 × wd_D)) (a1 : Int32) (a2 : Int32) (v3 : Int32) (v4 : Int32) (v5 : Int32) (v6 : Int32) (D : wd_D) : Option (Int32 × wd_D) := f_X7_hands_L122 k30 a1 a2 v3 v4 v5 v6 0 D
def f_X7_hands_L117 (k30 : Int32 → Int32 → Int32 → Int32 → Int32 → wd_D → Option (Int32 × wd_D)) (a1 : Int32) (a2 : Int32) (v3 : Int32) (v4 : Int32) (v5 : Int32) (v6 : Int32) (D : wd_D) : Option (Int32 × wd_D) := f_X7_hands_L122 k30 a1 a2 v3 v4 v5 v6 1 D
def f_X7_hands_L30  : Nat → Int32 → Int32 → Int32 → Int32 → Int32 → wd_D → Option (Int32 × wd_D)
  | 0, _, _, _, _, _, _ => none
  | n + 1, a1, a2, v3, v4, v5, D => (rd 252 D 371 41).bind (fun x4 => (if ((1 : Int32) <<< (x4 &&& 31)) ≤ v5 then (if a2 = 0 then some (v4, D) else some (v3, D)) else (f_X7_ones v5).bind (fun x7 => (rd 252 D 371 39).bind (fun x8 => (if x8 < x7 then f_X7_hands_L150 (f_X7_hands_L30 n) a1 a2 v3 v4 v5 D else (f_X7_tries D).bind (fun q10 => (wr 252 q10 371 226 v5).bind (fun D11 => (f_X7_goesOn a1 D11).bind (fun q12 => (f_X7_thoseWho 189 2 q12).bind (fun x13 => (f_X7_ones x13).bind (fun x14 => (if v4 < x14 then f_X7_hands_L117 (f_X7_hands_L30 n) a1 a2 v3 v4 v5 x14 q12 else (if x14 = v4 then (f_X7_ones v5).bind (fun x17 => (f_X7_ones v3).bind (fun x18 => (if x18 ≤ x17 then f_X7_hands_L121 (f_X7_hands_L30 n) a1 a2 v3 v4 v5 x14 q12 else f_X7_hands_L117 (f_X7_hands_L30 n) a1 a2 v3 v4 v5 x14 q12))) else f_X7_hands_L121 (f_X7_hands_L30 n) a1 a2 v3 v4 v5 x14 q12))))))))))))
def f_X7_hands (a1 : Int32) (a2 : Int32) (D : wd_D) : Option (Int32 × wd_D) := (f_X7_isRoom D).bind (fun x1 => (if x1 = 0 then some ((-1000002), D) else (if (f_X7_isLook a1 a2) = 0 then some ((-1000001), D) else f_X7_hands_L30 FU a1 a2 0 (-1) 0 D)))
set_option maxHeartbeats 4000000 in
set_option maxRecDepth 100000 in
theorem x_X7_hands (l : Launch) (X : wd_X) (a1 : Int32) (a2 : Int32) (D : wd_D) {qv : Int32 × wd_D} (h : f_X7_hands a1 a2 D = some qv) : wd_Met l X yX7_hands cX7_hands 8 (some FieldType.int) ({ frames := 5, cells := 0, slots := 0, locals := 500 }) S0 S0 ([.ref (X.2.2.1 + 370), .int a1, .int a2] : List Value) D qv.2 (some (.int qv.1)) 0 0 := by
  refine wd_enter (by decide) (Nat.le_of_ble_eq_true rfl) ?_
  intro p e s m below meth c CF hret hlk hnm hW hE ls hl
  have CF : CallFix p m c cX7_hands 8 s ([.ref (X.2.2.1 + 370), .int a1, .int a2] : List Value).toArray tg RX7 := CF
  have hx := CF.1
  have hb := CF.2.1
  have hown := CF.2.2.2.1
  have hts := CF.2.2.2.2
  have hS : va_S (wd_A X) s.heap s.heap [] := va_S.rf
  have hl : lv_has ls 8 [(0, .ref (X.2.2.1 + 370)), (1, .int a1), (2, .int a2)] := hl
  unfold f_X7_hands at h
  have hL30 : ∀ (n30 : Nat) (v3 : Int32) (v4 : Int32) (v5 : Int32) (D : wd_D) (H : Heap) (locs : List Loc) (ls : Array Slot), Wd X S0 D H → va_S (wd_A X) s.heap H locs → lv_has ls 8 [(0, .ref (X.2.2.1 + 370)), (1, .int a1), (2, .int a2), (3, .int v3), (4, .int v4), (5, .int v5)] → f_X7_hands_L30 n30 a1 a2 v3 v4 v5 D = some qv → W p l e ({ frames := 5, cells := 0, slots := 0, locals := 500 }) s m ([.ref (X.2.2.1 + 370), .int a1, .int a2] : List Value).toArray below meth c H locs 0 0 (MQ below (wd_Q X S0 qv.2 (some (.int qv.1))) ([.ref (X.2.2.1 + 370), .int a1, .int a2] : List Value).toArray s 0 0 (wd_A X)) (F0 m 30 ls []) := by
    intro n30
    induction n30 with
    | zero => intro v3 v4 v5 D H locs ls hW hS hl h; cases h
    | succ n30 ih30 =>
      have hL150 : ∀ (v3 : Int32) (v4 : Int32) (v5 : Int32) (D : wd_D) (H : Heap) (locs : List Loc) (ls : Array Slot), Wd X S0 D H → va_S (wd_A X) s.heap H locs → lv_has ls 8 [(0, .ref (X.2.2.1 + 370)), (1, .int a1), (2, .int a2), (3, .int v3), (4, .int v4), (5, .int v5)] → f_X7_hands_L150 (f_X7_hands_L30 n30) a1 a2 v3 v4 v5 D = some qv → W p l e ({ frames := 5, cells := 0, slots := 0, locals := 500 }) s m ([.ref (X.2.2.1 + 370), .int a1, .int a2] : List Value).toArray below meth c H locs 0 0 (MQ below (wd_Q X S0 qv.2 (some (.int qv.1))) ([.ref (X.2.2.1 + 370), .int a1, .int a2] : List Value).toArray s 0 0 (wd_A X)) (F0 m 150 ls []) := by
        intro v3 v4 v5 D H locs ls hW hS hl h
        unfold f_X7_hands_L150 at h
        obtain ⟨x20, ex20⟩ : ∃ y : Int32, y = v5 + 1 := ⟨_, rfl⟩
        replace h := apR ex20 h
        refine lv_iinc (v := x20) (lv' := [(5, .int x20), (0, .ref (X.2.2.1 + 370)), (1, .int a1), (2, .int a2), (3, .int v3), (4, .int v4)]) hx hb dX7_hands_150 hl (k := 5) rfl (by rw [ex20]; rfl) (by decide) rfl (fun ls hl => ?_)
        refine lv_goto (tgt := 30) hx hb dX7_hands_153 (by decide) ?_
        exact ih30 v3 v4 x20 D _ _ _  hW hS (lv_sub hl [1, 2, 3, 4, 5, 0] rfl) h
      have hL148 : ∀ (v3 : Int32) (v5 : Int32) (z0 : Int32) (D : wd_D) (H : Heap) (locs : List Loc) (ls : Array Slot), Wd X S0 D H → va_S (wd_A X) s.heap H locs → lv_has ls 8 [(0, .ref (X.2.2.1 + 370)), (1, .int a1), (2, .int a2), (3, .int v3), (5, .int v5)] → f_X7_hands_L148 (f_X7_hands_L30 n30) a1 a2 v3 v5 z0 D = some qv → W p l e ({ frames := 5, cells := 0, slots := 0, locals := 500 }) s m ([.ref (X.2.2.1 + 370), .int a1, .int a2] : List Value).toArray below meth c H locs 0 0 (MQ below (wd_Q X S0 qv.2 (some (.int qv.1))) ([.ref (X.2.2.1 + 370), .int a1, .int a2] : List Value).toArray s 0 0 (wd_A X)) (F0 m 148 ls [.int z0]) := by
        intro v3 v5 z0 D H locs ls hW hS hl h
        unfold f_X7_hands_L148 at h
        refine lv_istore (lv' := [(4, .int z0), (0, .ref (X.2.2.1 + 370)), (1, .int a1), (2, .int a2), (3, .int v3), (5, .int v5)]) hx hb dX7_hands_148 hl (by decide) rfl (fun ls hl => ?_)
        exact hL150 v3 z0 v5 D _ _ _  hW hS (lv_sub hl [1, 2, 3, 4, 0, 5] rfl) h
      have hL135 : ∀ (v4 : Int32) (v5 : Int32) (v6 : Int32) (v7 : Int32) (z0 : Int32) (D : wd_D) (H : Heap) (locs : List Loc) (ls : Array Slot), Wd X S0 D H → va_S (wd_A X) s.heap H locs → lv_has ls 8 [(0, .ref (X.2.2.1 + 370)), (1, .int a1), (2, .int a2), (4, .int v4), (5, .int v5), (6, .int v6), (7, .int v7)] → f_X7_hands_L135 (f_X7_hands_L30 n30) a1 a2 v4 v5 v6 v7 z0 D = some qv → W p l e ({ frames := 5, cells := 0, slots := 0, locals := 500 }) s m ([.ref (X.2.2.1 + 370), .int a1, .int a2] : List Value).toArray below meth c H locs 0 0 (MQ below (wd_Q X S0 qv.2 (some (.int qv.1))) ([.ref (X.2.2.1 + 370), .int a1, .int a2] : List Value).toArray s 0 0 (wd_A X)) (F0 m 135 ls [.int z0]) := by
        intro v4 v5 v6 v7 z0 D H locs ls hW hS hl h
        unfold f_X7_hands_L135 at h
        refine lv_istore_n (lv' := [(3, .int z0), (0, .ref (X.2.2.1 + 370)), (1, .int a1), (2, .int a2), (4, .int v4), (5, .int v5), (6, .int v6), (7, .int v7)]) hx hb dX7_hands_135 rfl hl (by decide) rfl (fun ls hl => ?_)
        refine lv_iload hx hb dX7_hands_136 (lv_at hl 7 rfl) ?_
        refine lv_if_eq (tgt := 146) hx hb dX7_hands_138 (by decide) (fun c22 => ?_) (fun c22 => ?_)
        · rw [if_pos c22] at h
          refine lv_iload hx hb dX7_hands_146 (lv_at hl 4 rfl) ?_
          exact hL148 z0 v5 v4 D _ _ _  hW hS (lv_sub hl [1, 2, 3, 0, 5] rfl) h
        · rw [if_neg c22] at h
          refine lv_iload hx hb dX7_hands_141 (lv_at hl 6 rfl) ?_
          refine lv_goto (tgt := 148) hx hb dX7_hands_143 (by decide) ?_
          exact hL148 z0 v5 v6 D _ _ _  hW hS (lv_sub hl [1, 2, 3, 0, 5] rfl) h
      have hL122 : ∀ (v3 : Int32) (v4 : Int32) (v5 : Int32) (v6 : Int32) (z0 : Int32) (D : wd_D) (H : Heap) (locs : List Loc) (ls : Array Slot), Wd X S0 D H → va_S (wd_A X) s.heap H locs → lv_has ls 8 [(0, .ref (X.2.2.1 + 370)), (1, .int a1), (2, .int a2), (3, .int v3), (4, .int v4), (5, .int v5), (6, .int v6)] → f_X7_hands_L122 (f_X7_hands_L30 n30) a1 a2 v3 v4 v5 v6 z0 D = some qv → W p l e ({ frames := 5, cells := 0, slots := 0, locals := 500 }) s m ([.ref (X.2.2.1 + 370), .int a1, .int a2] : List Value).toArray below meth c H locs 0 0 (MQ below (wd_Q X S0 qv.2 (some (.int qv.1))) ([.ref (X.2.2.1 + 370), .int a1, .int a2] : List Value).toArray s 0 0 (wd_A X)) (F0 m 122 ls [.int z0]) := by
        intro v3 v4 v5 v6 z0 D H locs ls hW hS hl h
        unfold f_X7_hands_L122 at h
        refine lv_istore (lv' := [(7, .int z0), (0, .ref (X.2.2.1 + 370)), (1, .int a1), (2, .int a2), (3, .int v3), (4, .int v4), (5, .int v5), (6, .int v6)]) hx hb dX7_hands_122 hl (by decide) rfl (fun ls hl => ?_)
        refine lv_iload hx hb dX7_hands_124 (lv_at hl 0 rfl) ?_
        refine lv_if_eq (tgt := 134) hx hb dX7_hands_126 (by decide) (fun c21 => ?_) (fun c21 => ?_)
        · rw [if_pos c21] at h
          refine lv_iload_n hx hb dX7_hands_134 rfl (lv_at hl 4 rfl) ?_
          exact hL135 v4 v5 v6 z0 v3 D _ _ _  hW hS (lv_sub hl [1, 2, 3, 5, 6, 7, 0] rfl) h
        · rw [if_neg c21] at h
          refine lv_iload hx hb dX7_hands_129 (lv_at hl 6 rfl) ?_
          refine lv_goto (tgt := 135) hx hb dX7_hands_131 (by decide) ?_
          exact hL135 v4 v5 v6 z0 v5 D _ _ _  hW hS (lv_sub hl [1, 2, 3, 5, 6, 7, 0] rfl) h
      have hL121 : ∀ (v3 : Int32) (v4 : Int32) (v5 : Int32) (v6 : Int32) (D : wd_D) (H : Heap) (locs : List Loc) (ls : Array Slot), Wd X S0 D H → va_S (wd_A X) s.heap H locs → lv_has ls 8 [(0, .ref (X.2.2.1 + 370)), (1, .int a1), (2, .int a2), (3, .int v3), (4, .int v4), (5, .int v5), (6, .int v6)] → f_X7_hands_L121 (f_X7_hands_L30 n30) a1 a2 v3 v4 v5 v6 D = some qv → W p l e ({ frames := 5, cells := 0, slots := 0, locals := 500 }) s m ([.ref (X.2.2.1 + 370), .int a1, .int a2] : List Value).toArray below meth c H locs 0 0 (MQ below (wd_Q X S0 qv.2 (some (.int qv.1))) ([.ref (X.2.2.1 + 370), .int a1, .int a2] : List Value).toArray s 0 0 (wd_A X)) (F0 m 121 ls []) := by
        intro v3 v4 v5 v6 D H locs ls hW hS hl h
        unfold f_X7_hands_L121 at h
        refine lv_iconst (v := 0) hx hb dX7_hands_121 (by decide) ?_
        exact hL122 v3 v4 v5 v6 0 D _ _ _  hW hS (lv_sub hl [0, 1, 2, 3, 4, 5, 6] rfl) h
      have hL117 : ∀ (v3 : Int32) (v4 : Int32) (v5 : Int32) (v6 : Int32) (D : wd_D) (H : Heap) (locs : List Loc) (ls : Array Slot), Wd X S0 D H → va_S (wd_A X) s.heap H locs → lv_has ls 8 [(0, .ref (X.2.2.1 + 370)), (1, .int a1), (2, .int a2), (3, .int v3), (4, .int v4), (5, .int v5), (6, .int v6)] → f_X7_hands_L117 (f_X7_hands_L30 n30) a1 a2 v3 v4 v5 v6 D = some qv → W p l e ({ frames := 5, cells := 0, slots := 0, locals := 500 }) s m ([.ref (X.2.2.1 + 370), .int a1, .int a2] : List Value).toArray below meth c H locs 0 0 (MQ below (wd_Q X S0 qv.2 (some (.int qv.1))) ([.ref (X.2.2.1 + 370), .int a1, .int a2] : List Value).toArray s 0 0 (wd_A X)) (F0 m 117 ls []) := by
        intro v3 v4 v5 v6 D H locs ls hW hS hl h
        unfold f_X7_hands_L117 at h
        refine lv_iconst (v := 1) hx hb dX7_hands_117 (by decide) ?_
        refine lv_goto (tgt := 122) hx hb dX7_hands_118 (by decide) ?_
        exact hL122 v3 v4 v5 v6 1 D _ _ _  hW hS (lv_sub hl [0, 1, 2, 3, 4, 5, 6] rfl) h
      intro v3 v4 v5 D H locs ls hW hS hl h
      rw [f_X7_hands_L30] at h
      refine lv_iload hx hb dX7_hands_30 (lv_at hl 5 rfl) ?_
      refine lv_iconst (v := 1) hx hb dX7_hands_32 (by decide) ?_
      refine lv_aload_n hx hb dX7_hands_33 rfl (lv_at hl 0 rfl) ?_
      refine wd_getR CF hE hW fl_X7_7 sh_370 rf_370_0 rfl dX7_hands_34 ?_
      refine lv_bipush (v := 41) hx hb dX7_hands_37 (by decide) ?_
      obtain ⟨x4, ex4, h⟩ := bdE h
      refine wd_iald CF hE hW sh_371 ex4 dX7_hands_39 ?_
      refine lv_ishl hx hb dX7_hands_40 ?_
      refine lv_icmp_ge (tgt := 156) hx hb dX7_hands_41 (by decide) (fun c5 => ?_) (fun c5 => ?_)
      · rw [if_pos c5] at h
        refine lv_iload_n hx hb dX7_hands_156 rfl (lv_at hl 2 rfl) ?_
        refine lv_if_ne (tgt := 165) hx hb dX7_hands_157 (by decide) (fun c6 => ?_) (fun c6 => ?_)
        · rw [if_neg c6] at h
          refine lv_iload_n hx hb dX7_hands_165 rfl (lv_at hl 3 rfl) ?_
          have h := Option.some.inj h
          subst h
          exact wd_iret CF hret hlk hW hS dX7_hands_166
        · rw [if_pos c6] at h
          refine lv_iload hx hb dX7_hands_160 (lv_at hl 4 rfl) ?_
          refine lv_goto (tgt := 166) hx hb dX7_hands_162 (by decide) ?_
          have h := Option.some.inj h
          subst h
          exact wd_iret CF hret hlk hW hS dX7_hands_166
      · rw [if_neg c5] at h
        refine lv_iload hx hb dX7_hands_44 (lv_at hl 5 rfl) ?_
        obtain ⟨x7, ex7, h⟩ := bdE h
        refine wd_callSr CF hE hW hS (x_X7_ones l X v5 D ex7) mi_X7_ones vi_X7_ones tw959 ⟨rfl, rfl, Nat.le_of_ble_eq_true rfl, Nat.le_of_ble_eq_true rfl⟩ rfl hl.1 rfl (Nat.le_of_ble_eq_true rfl) dX7_hands_46 ⟨Nat.le_of_ble_eq_true rfl, Nat.le_of_ble_eq_true rfl⟩ (fun H locs hW hS => ?_)
        refine lv_aload_n hx hb dX7_hands_49 rfl (lv_at hl 0 rfl) ?_
        refine wd_getR CF hE hW fl_X7_7 sh_370 rf_370_0 rfl dX7_hands_50 ?_
        refine lv_bipush (v := 39) hx hb dX7_hands_53 (by decide) ?_
        obtain ⟨x8, ex8, h⟩ := bdE h
        refine wd_iald CF hE hW sh_371 ex8 dX7_hands_55 ?_
        refine lv_icmp_gt (tgt := 150) hx hb dX7_hands_56 (by decide) (fun c9 => ?_) (fun c9 => ?_)
        · rw [if_pos c9] at h
          exact hL150 v3 v4 v5 D _ _ _  hW hS (lv_sub hl [0, 1, 2, 3, 4, 5] rfl) h
        · rw [if_neg c9] at h
          refine lv_aload_n hx hb dX7_hands_59 rfl (lv_at hl 0 rfl) ?_
          obtain ⟨q10, eq10, h⟩ := bdE h
          refine wd_callVv (ci := 7) (k := 370) CF hE hW hS (x_X7_tries l X D eq10) mi_X7_tries vi_X7_tries tw1004 ⟨by decide, rfl⟩ sh_370 ⟨rfl, rfl, Nat.le_of_ble_eq_true rfl, Nat.le_of_ble_eq_true rfl⟩ rfl hl.1 rfl (Nat.le_of_ble_eq_true rfl) dX7_hands_60 ⟨Nat.le_of_ble_eq_true rfl, Nat.le_of_ble_eq_true rfl⟩ (fun H locs hW hS => ?_)
          refine lv_aload_n hx hb dX7_hands_63 rfl (lv_at hl 0 rfl) ?_
          refine wd_getR CF hE hW fl_X7_7 sh_370 rf_370_0 rfl dX7_hands_64 ?_
          refine lv_sipush (v := 226) hx hb dX7_hands_67 (by decide) ?_
          refine lv_iload hx hb dX7_hands_70 (lv_at hl 5 rfl) ?_
          obtain ⟨D11, eD11, h⟩ := bdE h
          refine wd_iast CF hE hW hS sh_371 eD11 dX7_hands_72 (fun H locs hW hS => ?_)
          refine lv_aload_n hx hb dX7_hands_73 rfl (lv_at hl 0 rfl) ?_
          refine lv_iload_n hx hb dX7_hands_74 rfl (lv_at hl 1 rfl) ?_
          obtain ⟨q12, eq12, h⟩ := bdE h
          refine wd_callVv (ci := 7) (k := 370) CF hE hW hS (x_X7_goesOn l X a1 D11 eq12) mi_X7_goesOn vi_X7_goesOn tw1008 ⟨by decide, rfl⟩ sh_370 ⟨rfl, rfl, Nat.le_of_ble_eq_true rfl, Nat.le_of_ble_eq_true rfl⟩ rfl hl.1 rfl (Nat.le_of_ble_eq_true rfl) dX7_hands_75 ⟨Nat.le_of_ble_eq_true rfl, Nat.le_of_ble_eq_true rfl⟩ (fun H locs hW hS => ?_)
          refine lv_aload_n hx hb dX7_hands_78 rfl (lv_at hl 0 rfl) ?_
          refine lv_sipush (v := 189) hx hb dX7_hands_79 (by decide) ?_
          refine lv_iconst (v := 2) hx hb dX7_hands_82 (by decide) ?_
          obtain ⟨x13, ex13, h⟩ := bdE h
          refine wd_callVr (ci := 7) (k := 370) CF hE hW hS (x_X7_thoseWho l X 189 2 q12 ex13) mi_X7_thoseWho vi_X7_thoseWho tw947 ⟨by decide, rfl⟩ sh_370 ⟨rfl, rfl, Nat.le_of_ble_eq_true rfl, Nat.le_of_ble_eq_true rfl⟩ rfl hl.1 rfl (Nat.le_of_ble_eq_true rfl) dX7_hands_83 ⟨Nat.le_of_ble_eq_true rfl, Nat.le_of_ble_eq_true rfl⟩ (fun H locs hW hS => ?_)
          obtain ⟨x14, ex14, h⟩ := bdE h
          refine wd_callSr CF hE hW hS (x_X7_ones l X x13 q12 ex14) mi_X7_ones vi_X7_ones tw959 ⟨rfl, rfl, Nat.le_of_ble_eq_true rfl, Nat.le_of_ble_eq_true rfl⟩ rfl hl.1 rfl (Nat.le_of_ble_eq_true rfl) dX7_hands_86 ⟨Nat.le_of_ble_eq_true rfl, Nat.le_of_ble_eq_true rfl⟩ (fun H locs hW hS => ?_)
          refine lv_istore (lv' := [(6, .int x14), (0, .ref (X.2.2.1 + 370)), (1, .int a1), (2, .int a2), (3, .int v3), (4, .int v4), (5, .int v5)]) hx hb dX7_hands_89 hl (by decide) rfl (fun ls hl => ?_)
          refine lv_iload hx hb dX7_hands_91 (lv_at hl 0 rfl) ?_
          refine lv_iload hx hb dX7_hands_93 (lv_at hl 5 rfl) ?_
          refine lv_icmp_gt (tgt := 117) hx hb dX7_hands_95 (by decide) (fun c15 => ?_) (fun c15 => ?_)
          · rw [if_pos c15] at h
            exact hL117 v3 v4 v5 x14 q12 _ _ _  hW hS (lv_sub hl [1, 2, 3, 4, 5, 6, 0] rfl) h
          · rw [if_neg c15] at h
            refine lv_iload hx hb dX7_hands_98 (lv_at hl 0 rfl) ?_
            refine lv_iload hx hb dX7_hands_100 (lv_at hl 5 rfl) ?_
            refine lv_icmp_ne (tgt := 121) hx hb dX7_hands_102 (by decide) (fun c16 => ?_) (fun c16 => ?_)
            · rw [if_neg c16] at h
              exact hL121 v3 v4 v5 x14 q12 _ _ _  hW hS (lv_sub hl [1, 2, 3, 4, 5, 6, 0] rfl) h
            · rw [if_pos c16] at h
              refine lv_iload hx hb dX7_hands_105 (lv_at hl 6 rfl) ?_
              obtain ⟨x17, ex17, h⟩ := bdE h
              refine wd_callSr CF hE hW hS (x_X7_ones l X v5 q12 ex17) mi_X7_ones vi_X7_ones tw959 ⟨rfl, rfl, Nat.le_of_ble_eq_true rfl, Nat.le_of_ble_eq_true rfl⟩ rfl hl.1 rfl (Nat.le_of_ble_eq_true rfl) dX7_hands_107 ⟨Nat.le_of_ble_eq_true rfl, Nat.le_of_ble_eq_true rfl⟩ (fun H locs hW hS => ?_)
              refine lv_iload_n hx hb dX7_hands_110 rfl (lv_at hl 4 rfl) ?_
              obtain ⟨x18, ex18, h⟩ := bdE h
              refine wd_callSr CF hE hW hS (x_X7_ones l X v3 q12 ex18) mi_X7_ones vi_X7_ones tw959 ⟨rfl, rfl, Nat.le_of_ble_eq_true rfl, Nat.le_of_ble_eq_true rfl⟩ rfl hl.1 rfl (Nat.le_of_ble_eq_true rfl) dX7_hands_111 ⟨Nat.le_of_ble_eq_true rfl, Nat.le_of_ble_eq_true rfl⟩ (fun H locs hW hS => ?_)
              refine lv_icmp_ge (tgt := 121) hx hb dX7_hands_114 (by decide) (fun c19 => ?_) (fun c19 => ?_)
              · rw [if_pos c19] at h
                exact hL121 v3 v4 v5 x14 q12 _ _ _  hW hS (lv_sub hl [1, 2, 3, 4, 5, 6, 0] rfl) h
              · rw [if_neg c19] at h
                exact hL117 v3 v4 v5 x14 q12 _ _ _  hW hS (lv_sub hl [1, 2, 3, 4, 5, 6, 0] rfl) h
  refine lv_aload_n hx hb dX7_hands_0 rfl (lv_at hl 0 rfl) ?_
  obtain ⟨x1, ex1, h⟩ := bdE h
  refine wd_callVr (ci := 7) (k := 370) CF hE hW hS (x_X7_isRoom l X D ex1) mi_X7_isRoom vi_X7_isRoom tw904 ⟨by decide, rfl⟩ sh_370 ⟨rfl, rfl, Nat.le_of_ble_eq_true rfl, Nat.le_of_ble_eq_true rfl⟩ rfl hl.1 rfl (Nat.le_of_ble_eq_true rfl) dX7_hands_1 ⟨Nat.le_of_ble_eq_true rfl, Nat.le_of_ble_eq_true rfl⟩ (fun H locs hW hS => ?_)
  refine lv_if_ne (tgt := 10) hx hb dX7_hands_4 (by decide) (fun c2 => ?_) (fun c2 => ?_)
  · rw [if_neg c2] at h
    refine lv_aload_n hx hb dX7_hands_10 rfl (lv_at hl 0 rfl) ?_
    refine lv_iload_n hx hb dX7_hands_11 rfl (lv_at hl 1 rfl) ?_
    refine lv_iload_n hx hb dX7_hands_12 rfl (lv_at hl 2 rfl) ?_
    refine wd_callVr (ci := 7) (k := 370) CF hE hW hS (x_X7_isLook l X a1 a2 D) mi_X7_isLook vi_X7_isLook tw1037 ⟨by decide, rfl⟩ sh_370 ⟨rfl, rfl, Nat.le_of_ble_eq_true rfl, Nat.le_of_ble_eq_true rfl⟩ rfl hl.1 rfl (Nat.le_of_ble_eq_true rfl) dX7_hands_13 ⟨Nat.le_of_ble_eq_true rfl, Nat.le_of_ble_eq_true rfl⟩ (fun H locs hW hS => ?_)
    refine lv_if_ne (tgt := 22) hx hb dX7_hands_16 (by decide) (fun c3 => ?_) (fun c3 => ?_)
    · rw [if_neg c3] at h
      refine lv_iconst (v := 0) hx hb dX7_hands_22 (by decide) ?_
      refine lv_istore_n (lv' := [(3, .int 0), (0, .ref (X.2.2.1 + 370)), (1, .int a1), (2, .int a2)]) hx hb dX7_hands_23 rfl hl (by decide) rfl (fun ls hl => ?_)
      refine lv_iconst (v := (-1)) hx hb dX7_hands_24 (by decide) ?_
      refine lv_istore (lv' := [(4, .int (-1)), (3, .int 0), (0, .ref (X.2.2.1 + 370)), (1, .int a1), (2, .int a2)]) hx hb dX7_hands_25 hl (by decide) rfl (fun ls hl => ?_)
      refine lv_iconst (v := 0) hx hb dX7_hands_27 (by decide) ?_
      refine lv_istore (lv' := [(5, .int 0), (4, .int (-1)), (3, .int 0), (0, .ref (X.2.2.1 + 370)), (1, .int a1), (2, .int a2)]) hx hb dX7_hands_28 hl (by decide) rfl (fun ls hl => ?_)
      exact hL30 FU 0 (-1) 0 D _ _ _  hW hS (lv_sub hl [3, 4, 5, 2, 1, 0] rfl) h
    · rw [if_pos c3] at h
      refine lv_ldc (v := (-1000001)) hx hb hown (hts _ tw822) dX7_hands_19 ?_
      have h := Option.some.inj h
      subst h
      exact wd_iret CF hret hlk hW hS dX7_hands_21
  · rw [if_pos c2] at h
    refine lv_ldc (v := (-1000002)) hx hb hown (hts _ tw899) dX7_hands_7 ?_
    have h := Option.some.inj h
    subst h
    exact wd_iret CF hret hlk hW hS dX7_hands_9
def f_X7_outs_L112 (k28 : Int32 → Int32 → Int32 → Int32 → wd_D → Option (Int32 × wd_D)) (a1 : Int32) (a2 : Int32) (v3 : Int32) (v4 : Int32) (D : wd_D) : Option (Int32 × wd_D) := ap (v4 + 1) (fun x14 => k28 a1 a2 v3 x14 D)
def f_X7_outs_L111 (k28 : Int32 → Int32 → Int32 → Int32 → wd_D → Option (Int32 × wd_D)) (a1 : Int32) (a2 : Int32) (v4 : Int32) (z0 : Int32) (D : wd_D) : Option (Int32 × wd_D) := f_X7_outs_L112 k28 a1 a2 z0 v4 D
def f_X7_outs_L73 (k28 : Int32 → Int32 → Int32 → Int32 → wd_D → Option (Int32 × wd_D)) (a1 : Int32) (a2 : Int32) (v3 : Int32) (v4 : Int32) (D : wd_D) : Option (Int32 × wd_D) := (f_X7_tries D).bind (fun q15 => (rd 252 q15 371 225).bind (fun x16 => (wr 252 q15 371 225 (x16 ||| v4)).bind (fun D17 => (f_X7_goesOn a1 D17).bind (fun q18 => (f_X7_allSleep 189 q18).bind (fun x19 => (if x19 = 0 then f_X7_outs_L111 k28 a1 a2 v4 v3 q18 else f_X7_outs_L111 k28 a1 a2 v4 v4 q18))))))
def f_X7_outs_L28  : Nat → Int32 → Int32 → Int32 → Int32 → wd_D → Option (Int32 × wd_D)
  | 0, _, _, _, _, _ => none
  | n + 1, a1, a2, v3, v4, D => (rd 252 D 371 41).bind (fun x4 => (if ((1 : Int32) <<< (x4 &&& 31)) ≤ v4 then (if a2 = 0 then (f_X7_ones v3).bind (fun x7 => some (x7, D)) else some (v3, D)) else (rd 252 D 371 36).bind (fun x8 => (if (v4 &&& x8) = 0 then (if v3 = (-1000000) then f_X7_outs_L73 (f_X7_outs_L28 n) a1 a2 v3 v4 D else (f_X7_ones v4).bind (fun x11 => (f_X7_ones v3).bind (fun x12 => (if x12 ≤ x11 then f_X7_outs_L112 (f_X7_outs_L28 n) a1 a2 v3 v4 D else f_X7_outs_L73 (f_X7_outs_L28 n) a1 a2 v3 v4 D)))) else f_X7_outs_L112 (f_X7_outs_L28 n) a1 a2 v3 v4 D))))
def f_X7_outs (a1 : Int32) (a2 : Int32) (D : wd_D) : Option (Int32 × wd_D) := (f_X7_isRoom D).bind (fun x1 => (if x1 = 0 then some ((-1000002), D) else (if (f_X7_isLook a1 a2) = 0 then some ((-1000001), D) else f_X7_outs_L28 FU a1 a2 (-1000000) 0 D)))
set_option maxHeartbeats 4000000 in
set_option maxRecDepth 100000 in
theorem x_X7_outs (l : Launch) (X : wd_X) (a1 : Int32) (a2 : Int32) (D : wd_D) {qv : Int32 × wd_D} (h : f_X7_outs a1 a2 D = some qv) : wd_Met l X yX7_outs cX7_outs 5 (some FieldType.int) ({ frames := 5, cells := 0, slots := 0, locals := 500 }) S0 S0 ([.ref (X.2.2.1 + 370), .int a1, .int a2] : List Value) D qv.2 (some (.int qv.1)) 0 0 := by
  refine wd_enter (by decide) (Nat.le_of_ble_eq_true rfl) ?_
  intro p e s m below meth c CF hret hlk hnm hW hE ls hl
  have CF : CallFix p m c cX7_outs 5 s ([.ref (X.2.2.1 + 370), .int a1, .int a2] : List Value).toArray tg RX7 := CF
  have hx := CF.1
  have hb := CF.2.1
  have hown := CF.2.2.2.1
  have hts := CF.2.2.2.2
  have hS : va_S (wd_A X) s.heap s.heap [] := va_S.rf
  have hl : lv_has ls 5 [(0, .ref (X.2.2.1 + 370)), (1, .int a1), (2, .int a2)] := hl
  unfold f_X7_outs at h
  have hL28 : ∀ (n28 : Nat) (v3 : Int32) (v4 : Int32) (D : wd_D) (H : Heap) (locs : List Loc) (ls : Array Slot), Wd X S0 D H → va_S (wd_A X) s.heap H locs → lv_has ls 5 [(0, .ref (X.2.2.1 + 370)), (1, .int a1), (2, .int a2), (3, .int v3), (4, .int v4)] → f_X7_outs_L28 n28 a1 a2 v3 v4 D = some qv → W p l e ({ frames := 5, cells := 0, slots := 0, locals := 500 }) s m ([.ref (X.2.2.1 + 370), .int a1, .int a2] : List Value).toArray below meth c H locs 0 0 (MQ below (wd_Q X S0 qv.2 (some (.int qv.1))) ([.ref (X.2.2.1 + 370), .int a1, .int a2] : List Value).toArray s 0 0 (wd_A X)) (F0 m 28 ls []) := by
    intro n28
    induction n28 with
    | zero => intro v3 v4 D H locs ls hW hS hl h; cases h
    | succ n28 ih28 =>
      have hL112 : ∀ (v3 : Int32) (v4 : Int32) (D : wd_D) (H : Heap) (locs : List Loc) (ls : Array Slot), Wd X S0 D H → va_S (wd_A X) s.heap H locs → lv_has ls 5 [(0, .ref (X.2.2.1 + 370)), (1, .int a1), (2, .int a2), (3, .int v3), (4, .int v4)] → f_X7_outs_L112 (f_X7_outs_L28 n28) a1 a2 v3 v4 D = some qv → W p l e ({ frames := 5, cells := 0, slots := 0, locals := 500 }) s m ([.ref (X.2.2.1 + 370), .int a1, .int a2] : List Value).toArray below meth c H locs 0 0 (MQ below (wd_Q X S0 qv.2 (some (.int qv.1))) ([.ref (X.2.2.1 + 370), .int a1, .int a2] : List Value).toArray s 0 0 (wd_A X)) (F0 m 112 ls []) := by
        intro v3 v4 D H locs ls hW hS hl h
        unfold f_X7_outs_L112 at h
        obtain ⟨x14, ex14⟩ : ∃ y : Int32, y = v4 + 1 := ⟨_, rfl⟩
        replace h := apR ex14 h
        refine lv_iinc (v := x14) (lv' := [(4, .int x14), (0, .ref (X.2.2.1 + 370)), (1, .int a1), (2, .int a2), (3, .int v3)]) hx hb dX7_outs_112 hl (k := 4) rfl (by rw [ex14]; rfl) (by decide) rfl (fun ls hl => ?_)
        refine lv_goto (tgt := 28) hx hb dX7_outs_115 (by decide) ?_
        exact ih28 v3 x14 D _ _ _  hW hS (lv_sub hl [1, 2, 3, 4, 0] rfl) h
      have hL111 : ∀ (v4 : Int32) (z0 : Int32) (D : wd_D) (H : Heap) (locs : List Loc) (ls : Array Slot), Wd X S0 D H → va_S (wd_A X) s.heap H locs → lv_has ls 5 [(0, .ref (X.2.2.1 + 370)), (1, .int a1), (2, .int a2), (4, .int v4)] → f_X7_outs_L111 (f_X7_outs_L28 n28) a1 a2 v4 z0 D = some qv → W p l e ({ frames := 5, cells := 0, slots := 0, locals := 500 }) s m ([.ref (X.2.2.1 + 370), .int a1, .int a2] : List Value).toArray below meth c H locs 0 0 (MQ below (wd_Q X S0 qv.2 (some (.int qv.1))) ([.ref (X.2.2.1 + 370), .int a1, .int a2] : List Value).toArray s 0 0 (wd_A X)) (F0 m 111 ls [.int z0]) := by
        intro v4 z0 D H locs ls hW hS hl h
        unfold f_X7_outs_L111 at h
        refine lv_istore_n (lv' := [(3, .int z0), (0, .ref (X.2.2.1 + 370)), (1, .int a1), (2, .int a2), (4, .int v4)]) hx hb dX7_outs_111 rfl hl (by decide) rfl (fun ls hl => ?_)
        exact hL112 z0 v4 D _ _ _  hW hS (lv_sub hl [1, 2, 3, 0, 4] rfl) h
      have hL73 : ∀ (v3 : Int32) (v4 : Int32) (D : wd_D) (H : Heap) (locs : List Loc) (ls : Array Slot), Wd X S0 D H → va_S (wd_A X) s.heap H locs → lv_has ls 5 [(0, .ref (X.2.2.1 + 370)), (1, .int a1), (2, .int a2), (3, .int v3), (4, .int v4)] → f_X7_outs_L73 (f_X7_outs_L28 n28) a1 a2 v3 v4 D = some qv → W p l e ({ frames := 5, cells := 0, slots := 0, locals := 500 }) s m ([.ref (X.2.2.1 + 370), .int a1, .int a2] : List Value).toArray below meth c H locs 0 0 (MQ below (wd_Q X S0 qv.2 (some (.int qv.1))) ([.ref (X.2.2.1 + 370), .int a1, .int a2] : List Value).toArray s 0 0 (wd_A X)) (F0 m 73 ls []) := by
        intro v3 v4 D H locs ls hW hS hl h
        unfold f_X7_outs_L73 at h
        refine lv_aload_n hx hb dX7_outs_73 rfl (lv_at hl 0 rfl) ?_
        obtain ⟨q15, eq15, h⟩ := bdE h
        refine wd_callVv (ci := 7) (k := 370) CF hE hW hS (x_X7_tries l X D eq15) mi_X7_tries vi_X7_tries tw1004 ⟨by decide, rfl⟩ sh_370 ⟨rfl, rfl, Nat.le_of_ble_eq_true rfl, Nat.le_of_ble_eq_true rfl⟩ rfl hl.1 rfl (Nat.le_of_ble_eq_true rfl) dX7_outs_74 ⟨Nat.le_of_ble_eq_true rfl, Nat.le_of_ble_eq_true rfl⟩ (fun H locs hW hS => ?_)
        refine lv_aload_n hx hb dX7_outs_77 rfl (lv_at hl 0 rfl) ?_
        refine wd_getR CF hE hW fl_X7_7 sh_370 rf_370_0 rfl dX7_outs_78 ?_
        refine lv_sipush (v := 225) hx hb dX7_outs_81 (by decide) ?_
        refine lv_dup2_11 hx hb dX7_outs_84 rfl rfl ?_
        obtain ⟨x16, ex16, h⟩ := bdE h
        refine wd_iald CF hE hW sh_371 ex16 dX7_outs_85 ?_
        refine lv_iload hx hb dX7_outs_86 (lv_at hl 4 rfl) ?_
        refine lv_ior hx hb dX7_outs_88 ?_
        obtain ⟨D17, eD17, h⟩ := bdE h
        refine wd_iast CF hE hW hS sh_371 eD17 dX7_outs_89 (fun H locs hW hS => ?_)
        refine lv_aload_n hx hb dX7_outs_90 rfl (lv_at hl 0 rfl) ?_
        refine lv_iload_n hx hb dX7_outs_91 rfl (lv_at hl 1 rfl) ?_
        obtain ⟨q18, eq18, h⟩ := bdE h
        refine wd_callVv (ci := 7) (k := 370) CF hE hW hS (x_X7_goesOn l X a1 D17 eq18) mi_X7_goesOn vi_X7_goesOn tw1008 ⟨by decide, rfl⟩ sh_370 ⟨rfl, rfl, Nat.le_of_ble_eq_true rfl, Nat.le_of_ble_eq_true rfl⟩ rfl hl.1 rfl (Nat.le_of_ble_eq_true rfl) dX7_outs_92 ⟨Nat.le_of_ble_eq_true rfl, Nat.le_of_ble_eq_true rfl⟩ (fun H locs hW hS => ?_)
        refine lv_aload_n hx hb dX7_outs_95 rfl (lv_at hl 0 rfl) ?_
        refine lv_sipush (v := 189) hx hb dX7_outs_96 (by decide) ?_
        obtain ⟨x19, ex19, h⟩ := bdE h
        refine wd_callVr (ci := 7) (k := 370) CF hE hW hS (x_X7_allSleep l X 189 q18 ex19) mi_X7_allSleep vi_X7_allSleep tw1025 ⟨by decide, rfl⟩ sh_370 ⟨rfl, rfl, Nat.le_of_ble_eq_true rfl, Nat.le_of_ble_eq_true rfl⟩ rfl hl.1 rfl (Nat.le_of_ble_eq_true rfl) dX7_outs_99 ⟨Nat.le_of_ble_eq_true rfl, Nat.le_of_ble_eq_true rfl⟩ (fun H locs hW hS => ?_)
        refine lv_if_eq (tgt := 110) hx hb dX7_outs_102 (by decide) (fun c20 => ?_) (fun c20 => ?_)
        · rw [if_pos c20] at h
          refine lv_iload_n hx hb dX7_outs_110 rfl (lv_at hl 3 rfl) ?_
          exact hL111 v4 v3 q18 _ _ _  hW hS (lv_sub hl [0, 1, 2, 4] rfl) h
        · rw [if_neg c20] at h
          refine lv_iload hx hb dX7_outs_105 (lv_at hl 4 rfl) ?_
          refine lv_goto (tgt := 111) hx hb dX7_outs_107 (by decide) ?_
          exact hL111 v4 v4 q18 _ _ _  hW hS (lv_sub hl [0, 1, 2, 4] rfl) h
      intro v3 v4 D H locs ls hW hS hl h
      rw [f_X7_outs_L28] at h
      refine lv_iload hx hb dX7_outs_28 (lv_at hl 4 rfl) ?_
      refine lv_iconst (v := 1) hx hb dX7_outs_30 (by decide) ?_
      refine lv_aload_n hx hb dX7_outs_31 rfl (lv_at hl 0 rfl) ?_
      refine wd_getR CF hE hW fl_X7_7 sh_370 rf_370_0 rfl dX7_outs_32 ?_
      refine lv_bipush (v := 41) hx hb dX7_outs_35 (by decide) ?_
      obtain ⟨x4, ex4, h⟩ := bdE h
      refine wd_iald CF hE hW sh_371 ex4 dX7_outs_37 ?_
      refine lv_ishl hx hb dX7_outs_38 ?_
      refine lv_icmp_ge (tgt := 118) hx hb dX7_outs_39 (by decide) (fun c5 => ?_) (fun c5 => ?_)
      · rw [if_pos c5] at h
        refine lv_iload_n hx hb dX7_outs_118 rfl (lv_at hl 2 rfl) ?_
        refine lv_if_ne (tgt := 129) hx hb dX7_outs_119 (by decide) (fun c6 => ?_) (fun c6 => ?_)
        · rw [if_neg c6] at h
          refine lv_iload_n hx hb dX7_outs_129 rfl (lv_at hl 3 rfl) ?_
          have h := Option.some.inj h
          subst h
          exact wd_iret CF hret hlk hW hS dX7_outs_130
        · rw [if_pos c6] at h
          refine lv_iload_n hx hb dX7_outs_122 rfl (lv_at hl 3 rfl) ?_
          obtain ⟨x7, ex7, h⟩ := bdE h
          refine wd_callSr CF hE hW hS (x_X7_ones l X v3 D ex7) mi_X7_ones vi_X7_ones tw959 ⟨rfl, rfl, Nat.le_of_ble_eq_true rfl, Nat.le_of_ble_eq_true rfl⟩ rfl hl.1 rfl (Nat.le_of_ble_eq_true rfl) dX7_outs_123 ⟨Nat.le_of_ble_eq_true rfl, Nat.le_of_ble_eq_true rfl⟩ (fun H locs hW hS => ?_)
          refine lv_goto (tgt := 130) hx hb dX7_outs_126 (by decide) ?_
          have h := Option.some.inj h
          subst h
          exact wd_iret CF hret hlk hW hS dX7_outs_130
      · rw [if_neg c5] at h
        refine lv_iload hx hb dX7_outs_42 (lv_at hl 4 rfl) ?_
        refine lv_aload_n hx hb dX7_outs_44 rfl (lv_at hl 0 rfl) ?_
        refine wd_getR CF hE hW fl_X7_7 sh_370 rf_370_0 rfl dX7_outs_45 ?_
        refine lv_bipush (v := 36) hx hb dX7_outs_48 (by decide) ?_
        obtain ⟨x8, ex8, h⟩ := bdE h
        refine wd_iald CF hE hW sh_371 ex8 dX7_outs_50 ?_
        refine lv_iand hx hb dX7_outs_51 ?_
        refine lv_if_ne (tgt := 112) hx hb dX7_outs_52 (by decide) (fun c9 => ?_) (fun c9 => ?_)
        · rw [if_neg c9] at h
          exact hL112 v3 v4 D _ _ _  hW hS (lv_sub hl [0, 1, 2, 3, 4] rfl) h
        · rw [if_pos c9] at h
          refine lv_iload_n hx hb dX7_outs_55 rfl (lv_at hl 3 rfl) ?_
          refine lv_ldc (v := (-1000000)) hx hb hown (hts _ tw1020) dX7_outs_56 ?_
          refine lv_icmp_eq (tgt := 73) hx hb dX7_outs_58 (by decide) (fun c10 => ?_) (fun c10 => ?_)
          · rw [if_pos c10] at h
            exact hL73 v3 v4 D _ _ _  hW hS (lv_sub hl [0, 1, 2, 3, 4] rfl) h
          · rw [if_neg c10] at h
            refine lv_iload hx hb dX7_outs_61 (lv_at hl 4 rfl) ?_
            obtain ⟨x11, ex11, h⟩ := bdE h
            refine wd_callSr CF hE hW hS (x_X7_ones l X v4 D ex11) mi_X7_ones vi_X7_ones tw959 ⟨rfl, rfl, Nat.le_of_ble_eq_true rfl, Nat.le_of_ble_eq_true rfl⟩ rfl hl.1 rfl (Nat.le_of_ble_eq_true rfl) dX7_outs_63 ⟨Nat.le_of_ble_eq_true rfl, Nat.le_of_ble_eq_true rfl⟩ (fun H locs hW hS => ?_)
            refine lv_iload_n hx hb dX7_outs_66 rfl (lv_at hl 3 rfl) ?_
            obtain ⟨x12, ex12, h⟩ := bdE h
            refine wd_callSr CF hE hW hS (x_X7_ones l X v3 D ex12) mi_X7_ones vi_X7_ones tw959 ⟨rfl, rfl, Nat.le_of_ble_eq_true rfl, Nat.le_of_ble_eq_true rfl⟩ rfl hl.1 rfl (Nat.le_of_ble_eq_true rfl) dX7_outs_67 ⟨Nat.le_of_ble_eq_true rfl, Nat.le_of_ble_eq_true rfl⟩ (fun H locs hW hS => ?_)
            refine lv_icmp_ge (tgt := 112) hx hb dX7_outs_70 (by decide) (fun c13 => ?_) (fun c13 => ?_)
            · rw [if_pos c13] at h
              exact hL112 v3 v4 D _ _ _  hW hS (lv_sub hl [0, 1, 2, 3, 4] rfl) h
            · rw [if_neg c13] at h
              exact hL73 v3 v4 D _ _ _  hW hS (lv_sub hl [0, 1, 2, 3, 4] rfl) h
  refine lv_aload_n hx hb dX7_outs_0 rfl (lv_at hl 0 rfl) ?_
  obtain ⟨x1, ex1, h⟩ := bdE h
  refine wd_callVr (ci := 7) (k := 370) CF hE hW hS (x_X7_isRoom l X D ex1) mi_X7_isRoom vi_X7_isRoom tw904 ⟨by decide, rfl⟩ sh_370 ⟨rfl, rfl, Nat.le_of_ble_eq_true rfl, Nat.le_of_ble_eq_true rfl⟩ rfl hl.1 rfl (Nat.le_of_ble_eq_true rfl) dX7_outs_1 ⟨Nat.le_of_ble_eq_true rfl, Nat.le_of_ble_eq_true rfl⟩ (fun H locs hW hS => ?_)
  refine lv_if_ne (tgt := 10) hx hb dX7_outs_4 (by decide) (fun c2 => ?_) (fun c2 => ?_)
  · rw [if_neg c2] at h
    refine lv_aload_n hx hb dX7_outs_10 rfl (lv_at hl 0 rfl) ?_
    refine lv_iload_n hx hb dX7_outs_11 rfl (lv_at hl 1 rfl) ?_
    refine lv_iload_n hx hb dX7_outs_12 rfl (lv_at hl 2 rfl) ?_
    refine wd_callVr (ci := 7) (k := 370) CF hE hW hS (x_X7_isLook l X a1 a2 D) mi_X7_isLook vi_X7_isLook tw1037 ⟨by decide, rfl⟩ sh_370 ⟨rfl, rfl, Nat.le_of_ble_eq_true rfl, Nat.le_of_ble_eq_true rfl⟩ rfl hl.1 rfl (Nat.le_of_ble_eq_true rfl) dX7_outs_13 ⟨Nat.le_of_ble_eq_true rfl, Nat.le_of_ble_eq_true rfl⟩ (fun H locs hW hS => ?_)
    refine lv_if_ne (tgt := 22) hx hb dX7_outs_16 (by decide) (fun c3 => ?_) (fun c3 => ?_)
    · rw [if_neg c3] at h
      refine lv_ldc (v := (-1000000)) hx hb hown (hts _ tw1020) dX7_outs_22 ?_
      refine lv_istore_n (lv' := [(3, .int (-1000000)), (0, .ref (X.2.2.1 + 370)), (1, .int a1), (2, .int a2)]) hx hb dX7_outs_24 rfl hl (by decide) rfl (fun ls hl => ?_)
      refine lv_iconst (v := 0) hx hb dX7_outs_25 (by decide) ?_
      refine lv_istore (lv' := [(4, .int 0), (3, .int (-1000000)), (0, .ref (X.2.2.1 + 370)), (1, .int a1), (2, .int a2)]) hx hb dX7_outs_26 hl (by decide) rfl (fun ls hl => ?_)
      exact hL28 FU (-1000000) 0 D _ _ _  hW hS (lv_sub hl [2, 3, 4, 1, 0] rfl) h
    · rw [if_pos c3] at h
      refine lv_ldc (v := (-1000001)) hx hb hown (hts _ tw822) dX7_outs_19 ?_
      have h := Option.some.inj h
      subst h
      exact wd_iret CF hret hlk hW hS dX7_outs_21
  · rw [if_pos c2] at h
    refine lv_ldc (v := (-1000002)) hx hb hown (hts _ tw899) dX7_outs_7 ?_
    have h := Option.some.inj h
    subst h
    exact wd_iret CF hret hlk hW hS dX7_outs_9
def f_X7_best_L129 (k50 : Int32 → Int32 → Int32 → Int32 → Int32 → Int32 → wd_D → Option (Int32 × wd_D)) (k32 : Int32 → Int32 → Int32 → Int32 → Int32 → wd_D → Option (Int32 × wd_D)) (a1 : Int32) (a2 : Int32) (v3 : Int32) (v5 : Int32) (v6 : Int32) (z0 : Int32) (D : wd_D) : Option (Int32 × wd_D) := ap (v6 + 1) (fun x18 => k50 a1 a2 v3 z0 v5 x18 D)
def f_X7_best_L114 (k50 : Int32 → Int32 → Int32 → Int32 → Int32 → Int32 → wd_D → Option (Int32 × wd_D)) (k32 : Int32 → Int32 → Int32 → Int32 → Int32 → wd_D → Option (Int32 × wd_D)) (a1 : Int32) (a2 : Int32) (v4 : Int32) (v5 : Int32) (v6 : Int32) (v7 : Int32) (z0 : Int32) (D : wd_D) : Option (Int32 × wd_D) := (if v7 ≤ v4 then f_X7_best_L129 k50 k32 a1 a2 z0 v5 v6 v4 D else f_X7_best_L129 k50 k32 a1 a2 z0 v5 v6 v7 D)
def f_X7_best_L50 (k32 : Int32 → Int32 → Int32 → Int32 → Int32 → wd_D → Option (Int32 × wd_D)) : Nat → Int32 → Int32 → Int32 → Int32 → Int32 → Int32 → wd_D → Option (Int32 × wd_D)
  | 0, _, _, _, _, _, _, _ => none
  | n + 1, a1, a2, v3, v4, v5, v6, D => (rd 252 D 371 41).bind (fun x8 => (if x8 ≤ v6 then ap (v5 + 1) (fun x10 => k32 a1 a2 v3 v4 x10 D) else (f_X7_tries D).bind (fun q11 => (f_X7_swaps 189 v5 v6 q11).bind (fun q12 => (f_X7_goesOn a1 q12).bind (fun q13 => (f_X7_thoseWho 189 2 q13).bind (fun x14 => (f_X7_ones x14).bind (fun x15 => (if x15 ≤ v4 then f_X7_best_L114 (f_X7_best_L50 k32 n) k32 a1 a2 v4 v5 v6 x15 v3 q13 else f_X7_best_L114 (f_X7_best_L50 k32 n) k32 a1 a2 v4 v5 v6 x15 ((10 * v5) + v6) q13))))))))
def f_X7_best_L32  : Nat → Int32 → Int32 → Int32 → Int32 → Int32 → wd_D → Option (Int32 × wd_D)
  | 0, _, _, _, _, _, _ => none
  | n + 1, a1, a2, v3, v4, v5, D => (rd 252 D 371 41).bind (fun x4 => (if x4 ≤ v5 then (if a2 = 0 then some (v3, D) else some (v4, D)) else ap (v5 + 1) (fun x7 => f_X7_best_L50 (f_X7_best_L32 n) FU a1 a2 v3 v4 v5 x7 D)))
def f_X7_best (a1 : Int32) (a2 : Int32) (D : wd_D) : Option (Int32 × wd_D) := (f_X7_isRoom D).bind (fun x1 => (if x1 = 0 then some ((-1000002), D) else (if (f_X7_isLook a1 a2) = 0 then some ((-1000001), D) else f_X7_best_L32 FU a1 a2 (-1000000) (-1000000) 0 D)))
set_option maxHeartbeats 4000000 in
set_option maxRecDepth 100000 in
theorem x_X7_best (l : Launch) (X : wd_X) (a1 : Int32) (a2 : Int32) (D : wd_D) {qv : Int32 × wd_D} (h : f_X7_best a1 a2 D = some qv) : wd_Met l X yX7_best cX7_best 8 (some FieldType.int) ({ frames := 5, cells := 0, slots := 0, locals := 500 }) S0 S0 ([.ref (X.2.2.1 + 370), .int a1, .int a2] : List Value) D qv.2 (some (.int qv.1)) 0 0 := by
  refine wd_enter (by decide) (Nat.le_of_ble_eq_true rfl) ?_
  intro p e s m below meth c CF hret hlk hnm hW hE ls hl
  have CF : CallFix p m c cX7_best 8 s ([.ref (X.2.2.1 + 370), .int a1, .int a2] : List Value).toArray tg RX7 := CF
  have hx := CF.1
  have hb := CF.2.1
  have hown := CF.2.2.2.1
  have hts := CF.2.2.2.2
  have hS : va_S (wd_A X) s.heap s.heap [] := va_S.rf
  have hl : lv_has ls 8 [(0, .ref (X.2.2.1 + 370)), (1, .int a1), (2, .int a2)] := hl
  unfold f_X7_best at h
  have hL32 : ∀ (n32 : Nat) (v3 : Int32) (v4 : Int32) (v5 : Int32) (D : wd_D) (H : Heap) (locs : List Loc) (ls : Array Slot), Wd X S0 D H → va_S (wd_A X) s.heap H locs → lv_has ls 8 [(0, .ref (X.2.2.1 + 370)), (1, .int a1), (2, .int a2), (3, .int v3), (4, .int v4), (5, .int v5)] → f_X7_best_L32 n32 a1 a2 v3 v4 v5 D = some qv → W p l e ({ frames := 5, cells := 0, slots := 0, locals := 500 }) s m ([.ref (X.2.2.1 + 370), .int a1, .int a2] : List Value).toArray below meth c H locs 0 0 (MQ below (wd_Q X S0 qv.2 (some (.int qv.1))) ([.ref (X.2.2.1 + 370), .int a1, .int a2] : List Value).toArray s 0 0 (wd_A X)) (F0 m 32 ls []) := by
    intro n32
    induction n32 with
    | zero => intro v3 v4 v5 D H locs ls hW hS hl h; cases h
    | succ n32 ih32 =>
      have hL50 : ∀ (n50 : Nat) (v3 : Int32) (v4 : Int32) (v5 : Int32) (v6 : Int32) (D : wd_D) (H : Heap) (locs : List Loc) (ls : Array Slot), Wd X S0 D H → va_S (wd_A X) s.heap H locs → lv_has ls 8 [(0, .ref (X.2.2.1 + 370)), (1, .int a1), (2, .int a2), (3, .int v3), (4, .int v4), (5, .int v5), (6, .int v6)] → f_X7_best_L50 (f_X7_best_L32 n32) n50 a1 a2 v3 v4 v5 v6 D = some qv → W p l e ({ frames := 5, cells := 0, slots := 0, locals := 500 }) s m ([.ref (X.2.2.1 + 370), .int a1, .int a2] : List Value).toArray below meth c H locs 0 0 (MQ below (wd_Q X S0 qv.2 (some (.int qv.1))) ([.ref (X.2.2.1 + 370), .int a1, .int a2] : List Value).toArray s 0 0 (wd_A X)) (F0 m 50 ls []) := by
        intro n50
        induction n50 with
        | zero => intro v3 v4 v5 v6 D H locs ls hW hS hl h; cases h
        | succ n50 ih50 =>
          have hL129 : ∀ (v3 : Int32) (v5 : Int32) (v6 : Int32) (z0 : Int32) (D : wd_D) (H : Heap) (locs : List Loc) (ls : Array Slot), Wd X S0 D H → va_S (wd_A X) s.heap H locs → lv_has ls 8 [(0, .ref (X.2.2.1 + 370)), (1, .int a1), (2, .int a2), (3, .int v3), (5, .int v5), (6, .int v6)] → f_X7_best_L129 (f_X7_best_L50 (f_X7_best_L32 n32) n50) (f_X7_best_L32 n32) a1 a2 v3 v5 v6 z0 D = some qv → W p l e ({ frames := 5, cells := 0, slots := 0, locals := 500 }) s m ([.ref (X.2.2.1 + 370), .int a1, .int a2] : List Value).toArray below meth c H locs 0 0 (MQ below (wd_Q X S0 qv.2 (some (.int qv.1))) ([.ref (X.2.2.1 + 370), .int a1, .int a2] : List Value).toArray s 0 0 (wd_A X)) (F0 m 129 ls [.int z0]) := by
            intro v3 v5 v6 z0 D H locs ls hW hS hl h
            unfold f_X7_best_L129 at h
            refine lv_istore (lv' := [(4, .int z0), (0, .ref (X.2.2.1 + 370)), (1, .int a1), (2, .int a2), (3, .int v3), (5, .int v5), (6, .int v6)]) hx hb dX7_best_129 hl (by decide) rfl (fun ls hl => ?_)
            obtain ⟨x18, ex18⟩ : ∃ y : Int32, y = v6 + 1 := ⟨_, rfl⟩
            replace h := apR ex18 h
            refine lv_iinc (v := x18) (lv' := [(6, .int x18), (4, .int z0), (0, .ref (X.2.2.1 + 370)), (1, .int a1), (2, .int a2), (3, .int v3), (5, .int v5)]) hx hb dX7_best_131 hl (k := 6) rfl (by rw [ex18]; rfl) (by decide) rfl (fun ls hl => ?_)
            refine lv_goto (tgt := 50) hx hb dX7_best_134 (by decide) ?_
            exact ih50 v3 z0 v5 x18 D _ _ _  hW hS (lv_sub hl [2, 3, 4, 5, 1, 6, 0] rfl) h
          have hL114 : ∀ (v4 : Int32) (v5 : Int32) (v6 : Int32) (v7 : Int32) (z0 : Int32) (D : wd_D) (H : Heap) (locs : List Loc) (ls : Array Slot), Wd X S0 D H → va_S (wd_A X) s.heap H locs → lv_has ls 8 [(0, .ref (X.2.2.1 + 370)), (1, .int a1), (2, .int a2), (4, .int v4), (5, .int v5), (6, .int v6), (7, .int v7)] → f_X7_best_L114 (f_X7_best_L50 (f_X7_best_L32 n32) n50) (f_X7_best_L32 n32) a1 a2 v4 v5 v6 v7 z0 D = some qv → W p l e ({ frames := 5, cells := 0, slots := 0, locals := 500 }) s m ([.ref (X.2.2.1 + 370), .int a1, .int a2] : List Value).toArray below meth c H locs 0 0 (MQ below (wd_Q X S0 qv.2 (some (.int qv.1))) ([.ref (X.2.2.1 + 370), .int a1, .int a2] : List Value).toArray s 0 0 (wd_A X)) (F0 m 114 ls [.int z0]) := by
            intro v4 v5 v6 v7 z0 D H locs ls hW hS hl h
            unfold f_X7_best_L114 at h
            refine lv_istore_n (lv' := [(3, .int z0), (0, .ref (X.2.2.1 + 370)), (1, .int a1), (2, .int a2), (4, .int v4), (5, .int v5), (6, .int v6), (7, .int v7)]) hx hb dX7_best_114 rfl hl (by decide) rfl (fun ls hl => ?_)
            refine lv_iload hx hb dX7_best_115 (lv_at hl 7 rfl) ?_
            refine lv_iload hx hb dX7_best_117 (lv_at hl 4 rfl) ?_
            refine lv_icmp_le (tgt := 127) hx hb dX7_best_119 (by decide) (fun c17 => ?_) (fun c17 => ?_)
            · rw [if_pos c17] at h
              refine lv_iload hx hb dX7_best_127 (lv_at hl 4 rfl) ?_
              exact hL129 z0 v5 v6 v4 D _ _ _  hW hS (lv_sub hl [1, 2, 3, 0, 5, 6] rfl) h
            · rw [if_neg c17] at h
              refine lv_iload hx hb dX7_best_122 (lv_at hl 7 rfl) ?_
              refine lv_goto (tgt := 129) hx hb dX7_best_124 (by decide) ?_
              exact hL129 z0 v5 v6 v7 D _ _ _  hW hS (lv_sub hl [1, 2, 3, 0, 5, 6] rfl) h
          intro v3 v4 v5 v6 D H locs ls hW hS hl h
          rw [f_X7_best_L50] at h
          refine lv_iload hx hb dX7_best_50 (lv_at hl 6 rfl) ?_
          refine lv_aload_n hx hb dX7_best_52 rfl (lv_at hl 0 rfl) ?_
          refine wd_getR CF hE hW fl_X7_7 sh_370 rf_370_0 rfl dX7_best_53 ?_
          refine lv_bipush (v := 41) hx hb dX7_best_56 (by decide) ?_
          obtain ⟨x8, ex8, h⟩ := bdE h
          refine wd_iald CF hE hW sh_371 ex8 dX7_best_58 ?_
          refine lv_icmp_ge (tgt := 137) hx hb dX7_best_59 (by decide) (fun c9 => ?_) (fun c9 => ?_)
          · rw [if_pos c9] at h
            obtain ⟨x10, ex10⟩ : ∃ y : Int32, y = v5 + 1 := ⟨_, rfl⟩
            replace h := apR ex10 h
            refine lv_iinc (v := x10) (lv' := [(5, .int x10), (0, .ref (X.2.2.1 + 370)), (1, .int a1), (2, .int a2), (3, .int v3), (4, .int v4), (6, .int v6)]) hx hb dX7_best_137 hl (k := 5) rfl (by rw [ex10]; rfl) (by decide) rfl (fun ls hl => ?_)
            refine lv_goto (tgt := 32) hx hb dX7_best_140 (by decide) ?_
            exact ih32 v3 v4 x10 D _ _ _  hW hS (lv_sub hl [1, 2, 3, 4, 5, 0] rfl) h
          · rw [if_neg c9] at h
            refine lv_aload_n hx hb dX7_best_62 rfl (lv_at hl 0 rfl) ?_
            obtain ⟨q11, eq11, h⟩ := bdE h
            refine wd_callVv (ci := 7) (k := 370) CF hE hW hS (x_X7_tries l X D eq11) mi_X7_tries vi_X7_tries tw1004 ⟨by decide, rfl⟩ sh_370 ⟨rfl, rfl, Nat.le_of_ble_eq_true rfl, Nat.le_of_ble_eq_true rfl⟩ rfl hl.1 rfl (Nat.le_of_ble_eq_true rfl) dX7_best_63 ⟨Nat.le_of_ble_eq_true rfl, Nat.le_of_ble_eq_true rfl⟩ (fun H locs hW hS => ?_)
            refine lv_aload_n hx hb dX7_best_66 rfl (lv_at hl 0 rfl) ?_
            refine lv_sipush (v := 189) hx hb dX7_best_67 (by decide) ?_
            refine lv_iload hx hb dX7_best_70 (lv_at hl 5 rfl) ?_
            refine lv_iload hx hb dX7_best_72 (lv_at hl 6 rfl) ?_
            obtain ⟨q12, eq12, h⟩ := bdE h
            refine wd_callVv (ci := 7) (k := 370) CF hE hW hS (x_X7_swaps l X 189 v5 v6 q11 eq12) mi_X7_swaps vi_X7_swaps tw970 ⟨by decide, rfl⟩ sh_370 ⟨rfl, rfl, Nat.le_of_ble_eq_true rfl, Nat.le_of_ble_eq_true rfl⟩ rfl hl.1 rfl (Nat.le_of_ble_eq_true rfl) dX7_best_74 ⟨Nat.le_of_ble_eq_true rfl, Nat.le_of_ble_eq_true rfl⟩ (fun H locs hW hS => ?_)
            refine lv_aload_n hx hb dX7_best_77 rfl (lv_at hl 0 rfl) ?_
            refine lv_iload_n hx hb dX7_best_78 rfl (lv_at hl 1 rfl) ?_
            obtain ⟨q13, eq13, h⟩ := bdE h
            refine wd_callVv (ci := 7) (k := 370) CF hE hW hS (x_X7_goesOn l X a1 q12 eq13) mi_X7_goesOn vi_X7_goesOn tw1008 ⟨by decide, rfl⟩ sh_370 ⟨rfl, rfl, Nat.le_of_ble_eq_true rfl, Nat.le_of_ble_eq_true rfl⟩ rfl hl.1 rfl (Nat.le_of_ble_eq_true rfl) dX7_best_79 ⟨Nat.le_of_ble_eq_true rfl, Nat.le_of_ble_eq_true rfl⟩ (fun H locs hW hS => ?_)
            refine lv_aload_n hx hb dX7_best_82 rfl (lv_at hl 0 rfl) ?_
            refine lv_sipush (v := 189) hx hb dX7_best_83 (by decide) ?_
            refine lv_iconst (v := 2) hx hb dX7_best_86 (by decide) ?_
            obtain ⟨x14, ex14, h⟩ := bdE h
            refine wd_callVr (ci := 7) (k := 370) CF hE hW hS (x_X7_thoseWho l X 189 2 q13 ex14) mi_X7_thoseWho vi_X7_thoseWho tw947 ⟨by decide, rfl⟩ sh_370 ⟨rfl, rfl, Nat.le_of_ble_eq_true rfl, Nat.le_of_ble_eq_true rfl⟩ rfl hl.1 rfl (Nat.le_of_ble_eq_true rfl) dX7_best_87 ⟨Nat.le_of_ble_eq_true rfl, Nat.le_of_ble_eq_true rfl⟩ (fun H locs hW hS => ?_)
            obtain ⟨x15, ex15, h⟩ := bdE h
            refine wd_callSr CF hE hW hS (x_X7_ones l X x14 q13 ex15) mi_X7_ones vi_X7_ones tw959 ⟨rfl, rfl, Nat.le_of_ble_eq_true rfl, Nat.le_of_ble_eq_true rfl⟩ rfl hl.1 rfl (Nat.le_of_ble_eq_true rfl) dX7_best_90 ⟨Nat.le_of_ble_eq_true rfl, Nat.le_of_ble_eq_true rfl⟩ (fun H locs hW hS => ?_)
            refine lv_istore (lv' := [(7, .int x15), (0, .ref (X.2.2.1 + 370)), (1, .int a1), (2, .int a2), (3, .int v3), (4, .int v4), (5, .int v5), (6, .int v6)]) hx hb dX7_best_93 hl (by decide) rfl (fun ls hl => ?_)
            refine lv_iload hx hb dX7_best_95 (lv_at hl 0 rfl) ?_
            refine lv_iload hx hb dX7_best_97 (lv_at hl 5 rfl) ?_
            refine lv_icmp_le (tgt := 113) hx hb dX7_best_99 (by decide) (fun c16 => ?_) (fun c16 => ?_)
            · rw [if_pos c16] at h
              refine lv_iload_n hx hb dX7_best_113 rfl (lv_at hl 4 rfl) ?_
              exact hL114 v4 v5 v6 x15 v3 q13 _ _ _  hW hS (lv_sub hl [1, 2, 3, 5, 6, 7, 0] rfl) h
            · rw [if_neg c16] at h
              refine lv_bipush (v := 10) hx hb dX7_best_102 (by decide) ?_
              refine lv_iload hx hb dX7_best_104 (lv_at hl 6 rfl) ?_
              refine lv_imul hx hb dX7_best_106 ?_
              refine lv_iload hx hb dX7_best_107 (lv_at hl 7 rfl) ?_
              refine lv_iadd hx hb dX7_best_109 ?_
              refine lv_goto (tgt := 114) hx hb dX7_best_110 (by decide) ?_
              exact hL114 v4 v5 v6 x15 ((10 * v5) + v6) q13 _ _ _  hW hS (lv_sub hl [1, 2, 3, 5, 6, 7, 0] rfl) h
      intro v3 v4 v5 D H locs ls hW hS hl h
      rw [f_X7_best_L32] at h
      refine lv_iload hx hb dX7_best_32 (lv_at hl 5 rfl) ?_
      refine lv_aload_n hx hb dX7_best_34 rfl (lv_at hl 0 rfl) ?_
      refine wd_getR CF hE hW fl_X7_7 sh_370 rf_370_0 rfl dX7_best_35 ?_
      refine lv_bipush (v := 41) hx hb dX7_best_38 (by decide) ?_
      obtain ⟨x4, ex4, h⟩ := bdE h
      refine wd_iald CF hE hW sh_371 ex4 dX7_best_40 ?_
      refine lv_icmp_ge (tgt := 143) hx hb dX7_best_41 (by decide) (fun c5 => ?_) (fun c5 => ?_)
      · rw [if_pos c5] at h
        refine lv_iload_n hx hb dX7_best_143 rfl (lv_at hl 2 rfl) ?_
        refine lv_if_ne (tgt := 151) hx hb dX7_best_144 (by decide) (fun c6 => ?_) (fun c6 => ?_)
        · rw [if_neg c6] at h
          refine lv_iload hx hb dX7_best_151 (lv_at hl 4 rfl) ?_
          have h := Option.some.inj h
          subst h
          exact wd_iret CF hret hlk hW hS dX7_best_153
        · rw [if_pos c6] at h
          refine lv_iload_n hx hb dX7_best_147 rfl (lv_at hl 3 rfl) ?_
          refine lv_goto (tgt := 153) hx hb dX7_best_148 (by decide) ?_
          have h := Option.some.inj h
          subst h
          exact wd_iret CF hret hlk hW hS dX7_best_153
      · rw [if_neg c5] at h
        refine lv_iload hx hb dX7_best_44 (lv_at hl 5 rfl) ?_
        refine lv_iconst (v := 1) hx hb dX7_best_46 (by decide) ?_
        refine lv_iadd hx hb dX7_best_47 ?_
        refine lv_topi (fun x7 ex7 => ?_)
        replace h := apR ex7 h
        refine lv_istore (lv' := [(6, .int x7), (0, .ref (X.2.2.1 + 370)), (1, .int a1), (2, .int a2), (3, .int v3), (4, .int v4), (5, .int v5)]) hx hb dX7_best_48 hl (by decide) rfl (fun ls hl => ?_)
        exact hL50 FU v3 v4 v5 x7 D _ _ _  hW hS (lv_sub hl [1, 2, 3, 4, 5, 6, 0] rfl) h
  refine lv_aload_n hx hb dX7_best_0 rfl (lv_at hl 0 rfl) ?_
  obtain ⟨x1, ex1, h⟩ := bdE h
  refine wd_callVr (ci := 7) (k := 370) CF hE hW hS (x_X7_isRoom l X D ex1) mi_X7_isRoom vi_X7_isRoom tw904 ⟨by decide, rfl⟩ sh_370 ⟨rfl, rfl, Nat.le_of_ble_eq_true rfl, Nat.le_of_ble_eq_true rfl⟩ rfl hl.1 rfl (Nat.le_of_ble_eq_true rfl) dX7_best_1 ⟨Nat.le_of_ble_eq_true rfl, Nat.le_of_ble_eq_true rfl⟩ (fun H locs hW hS => ?_)
  refine lv_if_ne (tgt := 10) hx hb dX7_best_4 (by decide) (fun c2 => ?_) (fun c2 => ?_)
  · rw [if_neg c2] at h
    refine lv_aload_n hx hb dX7_best_10 rfl (lv_at hl 0 rfl) ?_
    refine lv_iload_n hx hb dX7_best_11 rfl (lv_at hl 1 rfl) ?_
    refine lv_iload_n hx hb dX7_best_12 rfl (lv_at hl 2 rfl) ?_
    refine wd_callVr (ci := 7) (k := 370) CF hE hW hS (x_X7_isLook l X a1 a2 D) mi_X7_isLook vi_X7_isLook tw1037 ⟨by decide, rfl⟩ sh_370 ⟨rfl, rfl, Nat.le_of_ble_eq_true rfl, Nat.le_of_ble_eq_true rfl⟩ rfl hl.1 rfl (Nat.le_of_ble_eq_true rfl) dX7_best_13 ⟨Nat.le_of_ble_eq_true rfl, Nat.le_of_ble_eq_true rfl⟩ (fun H locs hW hS => ?_)
    refine lv_if_ne (tgt := 22) hx hb dX7_best_16 (by decide) (fun c3 => ?_) (fun c3 => ?_)
    · rw [if_neg c3] at h
      refine lv_ldc (v := (-1000000)) hx hb hown (hts _ tw1020) dX7_best_22 ?_
      refine lv_istore_n (lv' := [(3, .int (-1000000)), (0, .ref (X.2.2.1 + 370)), (1, .int a1), (2, .int a2)]) hx hb dX7_best_24 rfl hl (by decide) rfl (fun ls hl => ?_)
      refine lv_ldc (v := (-1000000)) hx hb hown (hts _ tw1020) dX7_best_25 ?_
      refine lv_istore (lv' := [(4, .int (-1000000)), (3, .int (-1000000)), (0, .ref (X.2.2.1 + 370)), (1, .int a1), (2, .int a2)]) hx hb dX7_best_27 hl (by decide) rfl (fun ls hl => ?_)
      refine lv_iconst (v := 0) hx hb dX7_best_29 (by decide) ?_
      refine lv_istore (lv' := [(5, .int 0), (4, .int (-1000000)), (3, .int (-1000000)), (0, .ref (X.2.2.1 + 370)), (1, .int a1), (2, .int a2)]) hx hb dX7_best_30 hl (by decide) rfl (fun ls hl => ?_)
      exact hL32 FU (-1000000) (-1000000) 0 D _ _ _  hW hS (lv_sub hl [3, 4, 5, 2, 1, 0] rfl) h
    · rw [if_pos c3] at h
      refine lv_ldc (v := (-1000001)) hx hb hown (hts _ tw822) dX7_best_19 ?_
      have h := Option.some.inj h
      subst h
      exact wd_iret CF hret hlk hW hS dX7_best_21
  · rw [if_pos c2] at h
    refine lv_ldc (v := (-1000002)) hx hb hown (hts _ tw899) dX7_best_7 ?_
    have h := Option.some.inj h
    subst h
    exact wd_iret CF hret hlk hW hS dX7_best_9
def f_X7_silence_L78 (k15 : Int32 → Int32 → wd_D → Option (Int32)) (v2 : Int32) (z0 : Int32) (D : wd_D) : Option (Int32) := ap (v2 + 1) (fun x13 => k15 z0 x13 D)
def f_X7_silence_L77 (k15 : Int32 → Int32 → wd_D → Option (Int32)) (v1 : Int32) (v2 : Int32) (D : wd_D) : Option (Int32) := f_X7_silence_L78 k15 v2 v1 D
def f_X7_silence_L53 (k15 : Int32 → Int32 → wd_D → Option (Int32)) (v1 : Int32) (v2 : Int32) (z0 : Int32) (D : wd_D) : Option (Int32) := (if z0 = 0 then f_X7_silence_L77 k15 v1 v2 D else (f_X7_bears 0 v2 D).bind (fun x10 => (if v1 ≤ x10 then f_X7_silence_L77 k15 v1 v2 D else (f_X7_bears 0 v2 D).bind (fun x12 => f_X7_silence_L78 k15 v2 x12 D))))
def f_X7_silence_L52 (k15 : Int32 → Int32 → wd_D → Option (Int32)) (v1 : Int32) (v2 : Int32) (D : wd_D) : Option (Int32) := f_X7_silence_L53 k15 v1 v2 0 D
def f_X7_silence_L15  : Nat → Int32 → Int32 → wd_D → Option (Int32)
  | 0, _, _, _ => none
  | n + 1, v1, v2, D => (rd 252 D 371 41).bind (fun x3 => (if x3 ≤ v2 then some v1 else (rd 252 D 371 (8 + v2)).bind (fun x5 => (if x5 = 2 then (f_X7_isOut 0 v2 D).bind (fun x7 => (if x7 = 0 then f_X7_silence_L53 (f_X7_silence_L15 n) v1 v2 1 D else f_X7_silence_L52 (f_X7_silence_L15 n) v1 v2 D)) else f_X7_silence_L52 (f_X7_silence_L15 n) v1 v2 D))))
def f_X7_silence  (D : wd_D) : Option (Int32) := (f_X7_isRoom D).bind (fun x1 => (if x1 = 0 then some (-1000002) else f_X7_silence_L15 FU 99 0 D))
set_option maxHeartbeats 4000000 in
set_option maxRecDepth 100000 in
theorem x_X7_silence (l : Launch) (X : wd_X)  (D : wd_D) {rv : Int32} (h : f_X7_silence  D = some rv) : wd_Met l X yX7_silence cX7_silence 4 (some FieldType.int) ({ frames := 2, cells := 0, slots := 0, locals := 200 }) S0 S0 ([.ref (X.2.2.1 + 370)] : List Value) D D (some (.int rv)) 0 0 := by
  refine wd_enter (by decide) (Nat.le_of_ble_eq_true rfl) ?_
  intro p e s m below meth c CF hret hlk hnm hW hE ls hl
  have CF : CallFix p m c cX7_silence 4 s ([.ref (X.2.2.1 + 370)] : List Value).toArray tg RX7 := CF
  have hx := CF.1
  have hb := CF.2.1
  have hown := CF.2.2.2.1
  have hts := CF.2.2.2.2
  have hS : va_S (wd_A X) s.heap s.heap [] := va_S.rf
  have hl : lv_has ls 4 [(0, .ref (X.2.2.1 + 370))] := hl
  unfold f_X7_silence at h
  have hL15 : ∀ (n15 : Nat) (v1 : Int32) (v2 : Int32) (H : Heap) (locs : List Loc) (ls : Array Slot), Wd X S0 D H → va_S (wd_A X) s.heap H locs → lv_has ls 4 [(0, .ref (X.2.2.1 + 370)), (1, .int v1), (2, .int v2)] → f_X7_silence_L15 n15 v1 v2 D = some rv → W p l e ({ frames := 2, cells := 0, slots := 0, locals := 200 }) s m ([.ref (X.2.2.1 + 370)] : List Value).toArray below meth c H locs 0 0 (MQ below (wd_Q X S0 D (some (.int rv))) ([.ref (X.2.2.1 + 370)] : List Value).toArray s 0 0 (wd_A X)) (F0 m 15 ls []) := by
    intro n15
    induction n15 with
    | zero => intro v1 v2 H locs ls hW hS hl h; cases h
    | succ n15 ih15 =>
      have hL78 : ∀ (v2 : Int32) (z0 : Int32) (H : Heap) (locs : List Loc) (ls : Array Slot), Wd X S0 D H → va_S (wd_A X) s.heap H locs → lv_has ls 4 [(0, .ref (X.2.2.1 + 370)), (2, .int v2)] → f_X7_silence_L78 (f_X7_silence_L15 n15) v2 z0 D = some rv → W p l e ({ frames := 2, cells := 0, slots := 0, locals := 200 }) s m ([.ref (X.2.2.1 + 370)] : List Value).toArray below meth c H locs 0 0 (MQ below (wd_Q X S0 D (some (.int rv))) ([.ref (X.2.2.1 + 370)] : List Value).toArray s 0 0 (wd_A X)) (F0 m 78 ls [.int z0]) := by
        intro v2 z0 H locs ls hW hS hl h
        unfold f_X7_silence_L78 at h
        refine lv_istore_n (lv' := [(1, .int z0), (0, .ref (X.2.2.1 + 370)), (2, .int v2)]) hx hb dX7_silence_78 rfl hl (by decide) rfl (fun ls hl => ?_)
        obtain ⟨x13, ex13⟩ : ∃ y : Int32, y = v2 + 1 := ⟨_, rfl⟩
        replace h := apR ex13 h
        refine lv_iinc (v := x13) (lv' := [(2, .int x13), (1, .int z0), (0, .ref (X.2.2.1 + 370))]) hx hb dX7_silence_79 hl (k := 2) rfl (by rw [ex13]; rfl) (by decide) rfl (fun ls hl => ?_)
        refine lv_goto (tgt := 15) hx hb dX7_silence_82 (by decide) ?_
        exact ih15 z0 x13 _ _ _  hW hS (lv_sub hl [2, 1, 0] rfl) h
      have hL77 : ∀ (v1 : Int32) (v2 : Int32) (H : Heap) (locs : List Loc) (ls : Array Slot), Wd X S0 D H → va_S (wd_A X) s.heap H locs → lv_has ls 4 [(0, .ref (X.2.2.1 + 370)), (1, .int v1), (2, .int v2)] → f_X7_silence_L77 (f_X7_silence_L15 n15) v1 v2 D = some rv → W p l e ({ frames := 2, cells := 0, slots := 0, locals := 200 }) s m ([.ref (X.2.2.1 + 370)] : List Value).toArray below meth c H locs 0 0 (MQ below (wd_Q X S0 D (some (.int rv))) ([.ref (X.2.2.1 + 370)] : List Value).toArray s 0 0 (wd_A X)) (F0 m 77 ls []) := by
        intro v1 v2 H locs ls hW hS hl h
        unfold f_X7_silence_L77 at h
        refine lv_iload_n hx hb dX7_silence_77 rfl (lv_at hl 1 rfl) ?_
        exact hL78 v2 v1 _ _ _  hW hS (lv_sub hl [0, 2] rfl) h
      have hL53 : ∀ (v1 : Int32) (v2 : Int32) (z0 : Int32) (H : Heap) (locs : List Loc) (ls : Array Slot), Wd X S0 D H → va_S (wd_A X) s.heap H locs → lv_has ls 4 [(0, .ref (X.2.2.1 + 370)), (1, .int v1), (2, .int v2)] → f_X7_silence_L53 (f_X7_silence_L15 n15) v1 v2 z0 D = some rv → W p l e ({ frames := 2, cells := 0, slots := 0, locals := 200 }) s m ([.ref (X.2.2.1 + 370)] : List Value).toArray below meth c H locs 0 0 (MQ below (wd_Q X S0 D (some (.int rv))) ([.ref (X.2.2.1 + 370)] : List Value).toArray s 0 0 (wd_A X)) (F0 m 53 ls [.int z0]) := by
        intro v1 v2 z0 H locs ls hW hS hl h
        unfold f_X7_silence_L53 at h
        refine lv_istore_n (lv' := [(3, .int z0), (0, .ref (X.2.2.1 + 370)), (1, .int v1), (2, .int v2)]) hx hb dX7_silence_53 rfl hl (by decide) rfl (fun ls hl => ?_)
        refine lv_iload_n hx hb dX7_silence_54 rfl (lv_at hl 0 rfl) ?_
        refine lv_if_eq (tgt := 77) hx hb dX7_silence_55 (by decide) (fun c9 => ?_) (fun c9 => ?_)
        · rw [if_pos c9] at h
          exact hL77 v1 v2 _ _ _  hW hS (lv_sub hl [1, 2, 3] rfl) h
        · rw [if_neg c9] at h
          refine lv_aload_n hx hb dX7_silence_58 rfl (lv_at hl 1 rfl) ?_
          refine lv_iconst (v := 0) hx hb dX7_silence_59 (by decide) ?_
          refine lv_iload_n hx hb dX7_silence_60 rfl (lv_at hl 3 rfl) ?_
          obtain ⟨x10, ex10, h⟩ := bdE h
          refine wd_callVr (ci := 7) (k := 370) CF hE hW hS (x_X7_bears l X 0 v2 D ex10) mi_X7_bears vi_X7_bears tw931 ⟨by decide, rfl⟩ sh_370 ⟨rfl, rfl, Nat.le_of_ble_eq_true rfl, Nat.le_of_ble_eq_true rfl⟩ rfl hl.1 rfl (Nat.le_of_ble_eq_true rfl) dX7_silence_61 ⟨Nat.le_of_ble_eq_true rfl, Nat.le_of_ble_eq_true rfl⟩ (fun H locs hW hS => ?_)
          refine lv_iload_n hx hb dX7_silence_64 rfl (lv_at hl 2 rfl) ?_
          refine lv_icmp_ge (tgt := 77) hx hb dX7_silence_65 (by decide) (fun c11 => ?_) (fun c11 => ?_)
          · rw [if_pos c11] at h
            exact hL77 v1 v2 _ _ _  hW hS (lv_sub hl [1, 2, 3] rfl) h
          · rw [if_neg c11] at h
            refine lv_aload_n hx hb dX7_silence_68 rfl (lv_at hl 1 rfl) ?_
            refine lv_iconst (v := 0) hx hb dX7_silence_69 (by decide) ?_
            refine lv_iload_n hx hb dX7_silence_70 rfl (lv_at hl 3 rfl) ?_
            obtain ⟨x12, ex12, h⟩ := bdE h
            refine wd_callVr (ci := 7) (k := 370) CF hE hW hS (x_X7_bears l X 0 v2 D ex12) mi_X7_bears vi_X7_bears tw931 ⟨by decide, rfl⟩ sh_370 ⟨rfl, rfl, Nat.le_of_ble_eq_true rfl, Nat.le_of_ble_eq_true rfl⟩ rfl hl.1 rfl (Nat.le_of_ble_eq_true rfl) dX7_silence_71 ⟨Nat.le_of_ble_eq_true rfl, Nat.le_of_ble_eq_true rfl⟩ (fun H locs hW hS => ?_)
            refine lv_goto (tgt := 78) hx hb dX7_silence_74 (by decide) ?_
            exact hL78 v2 x12 _ _ _  hW hS (lv_sub hl [1, 3] rfl) h
      have hL52 : ∀ (v1 : Int32) (v2 : Int32) (H : Heap) (locs : List Loc) (ls : Array Slot), Wd X S0 D H → va_S (wd_A X) s.heap H locs → lv_has ls 4 [(0, .ref (X.2.2.1 + 370)), (1, .int v1), (2, .int v2)] → f_X7_silence_L52 (f_X7_silence_L15 n15) v1 v2 D = some rv → W p l e ({ frames := 2, cells := 0, slots := 0, locals := 200 }) s m ([.ref (X.2.2.1 + 370)] : List Value).toArray below meth c H locs 0 0 (MQ below (wd_Q X S0 D (some (.int rv))) ([.ref (X.2.2.1 + 370)] : List Value).toArray s 0 0 (wd_A X)) (F0 m 52 ls []) := by
        intro v1 v2 H locs ls hW hS hl h
        unfold f_X7_silence_L52 at h
        refine lv_iconst (v := 0) hx hb dX7_silence_52 (by decide) ?_
        exact hL53 v1 v2 0 _ _ _  hW hS (lv_sub hl [0, 1, 2] rfl) h
      intro v1 v2 H locs ls hW hS hl h
      rw [f_X7_silence_L15] at h
      refine lv_iload_n hx hb dX7_silence_15 rfl (lv_at hl 2 rfl) ?_
      refine lv_aload_n hx hb dX7_silence_16 rfl (lv_at hl 0 rfl) ?_
      refine wd_getR CF hE hW fl_X7_7 sh_370 rf_370_0 rfl dX7_silence_17 ?_
      refine lv_bipush (v := 41) hx hb dX7_silence_20 (by decide) ?_
      obtain ⟨x3, ex3, h⟩ := bdE h
      refine wd_iald CF hE hW sh_371 ex3 dX7_silence_22 ?_
      refine lv_icmp_ge (tgt := 85) hx hb dX7_silence_23 (by decide) (fun c4 => ?_) (fun c4 => ?_)
      · rw [if_pos c4] at h
        refine lv_iload_n hx hb dX7_silence_85 rfl (lv_at hl 1 rfl) ?_
        have h := Option.some.inj h
        subst h
        exact wd_iret CF hret hlk hW hS dX7_silence_86
      · rw [if_neg c4] at h
        refine lv_aload_n hx hb dX7_silence_26 rfl (lv_at hl 0 rfl) ?_
        refine wd_getR CF hE hW fl_X7_7 sh_370 rf_370_0 rfl dX7_silence_27 ?_
        refine lv_bipush (v := 8) hx hb dX7_silence_30 (by decide) ?_
        refine lv_iload_n hx hb dX7_silence_32 rfl (lv_at hl 2 rfl) ?_
        refine lv_iadd hx hb dX7_silence_33 ?_
        obtain ⟨x5, ex5, h⟩ := bdE h
        refine wd_iald CF hE hW sh_371 ex5 dX7_silence_34 ?_
        refine lv_iconst (v := 2) hx hb dX7_silence_35 (by decide) ?_
        refine lv_icmp_ne (tgt := 52) hx hb dX7_silence_36 (by decide) (fun c6 => ?_) (fun c6 => ?_)
        · rw [if_neg c6] at h
          exact hL52 v1 v2 _ _ _  hW hS (lv_sub hl [0, 1, 2] rfl) h
        · rw [if_pos c6] at h
          refine lv_aload_n hx hb dX7_silence_39 rfl (lv_at hl 0 rfl) ?_
          refine lv_iconst (v := 0) hx hb dX7_silence_40 (by decide) ?_
          refine lv_iload_n hx hb dX7_silence_41 rfl (lv_at hl 2 rfl) ?_
          obtain ⟨x7, ex7, h⟩ := bdE h
          refine wd_callVr (ci := 7) (k := 370) CF hE hW hS (x_X7_isOut l X 0 v2 D ex7) mi_X7_isOut vi_X7_isOut tw921 ⟨by decide, rfl⟩ sh_370 ⟨rfl, rfl, Nat.le_of_ble_eq_true rfl, Nat.le_of_ble_eq_true rfl⟩ rfl hl.1 rfl (Nat.le_of_ble_eq_true rfl) dX7_silence_42 ⟨Nat.le_of_ble_eq_true rfl, Nat.le_of_ble_eq_true rfl⟩ (fun H locs hW hS => ?_)
          refine lv_if_ne (tgt := 52) hx hb dX7_silence_45 (by decide) (fun c8 => ?_) (fun c8 => ?_)
          · rw [if_neg c8] at h
            exact hL52 v1 v2 _ _ _  hW hS (lv_sub hl [0, 1, 2] rfl) h
          · rw [if_pos c8] at h
            refine lv_iconst (v := 1) hx hb dX7_silence_48 (by decide) ?_
            refine lv_goto (tgt := 53) hx hb dX7_silence_49 (by decide) ?_
            exact hL53 v1 v2 1 _ _ _  hW hS (lv_sub hl [0, 1, 2] rfl) h
  refine lv_aload_n hx hb dX7_silence_0 rfl (lv_at hl 0 rfl) ?_
  obtain ⟨x1, ex1, h⟩ := bdE h
  refine wd_callVr (ci := 7) (k := 370) CF hE hW hS (x_X7_isRoom l X D ex1) mi_X7_isRoom vi_X7_isRoom tw904 ⟨by decide, rfl⟩ sh_370 ⟨rfl, rfl, Nat.le_of_ble_eq_true rfl, Nat.le_of_ble_eq_true rfl⟩ rfl hl.1 rfl (Nat.le_of_ble_eq_true rfl) dX7_silence_1 ⟨Nat.le_of_ble_eq_true rfl, Nat.le_of_ble_eq_true rfl⟩ (fun H locs hW hS => ?_)
  refine lv_if_ne (tgt := 10) hx hb dX7_silence_4 (by decide) (fun c2 => ?_) (fun c2 => ?_)
  · rw [if_neg c2] at h
    refine lv_bipush (v := 99) hx hb dX7_silence_10 (by decide) ?_
    refine lv_istore_n (lv' := [(1, .int 99), (0, .ref (X.2.2.1 + 370))]) hx hb dX7_silence_12 rfl hl (by decide) rfl (fun ls hl => ?_)
    refine lv_iconst (v := 0) hx hb dX7_silence_13 (by decide) ?_
    refine lv_istore_n (lv' := [(2, .int 0), (1, .int 99), (0, .ref (X.2.2.1 + 370))]) hx hb dX7_silence_14 rfl hl (by decide) rfl (fun ls hl => ?_)
    exact hL15 FU 99 0 _ _ _  hW hS (lv_sub hl [2, 1, 0] rfl) h
  · rw [if_pos c2] at h
    refine lv_ldc (v := (-1000002)) hx hb hown (hts _ tw899) dX7_silence_7 ?_
    have h := Option.some.inj h
    subst h
    exact wd_iret CF hret hlk hW hS dX7_silence_9
def f_X7_wakes (a1 : Int32) (D : wd_D) : Option (Int32 × wd_D) := (f_X7_isChild a1 D).bind (fun x1 => (if x1 = 0 then some ((-1000001), D) else (f_X7_isOut 0 a1 D).bind (fun x3 => (if x3 = 0 then (f_X7_tries D).bind (fun q5 => (f_X7_goesOn 1 q5).bind (fun q6 => (f_X7_thoseWho 189 2 q6).bind (fun x7 => (f_X7_tries q6).bind (fun q8 => (wr 252 q8 371 (197 + a1) 1).bind (fun D9 => (rd 252 D9 371 40).bind (fun x10 => (wr 252 D9 371 (204 + a1) x10).bind (fun D11 => (f_X7_goesOn 1 D11).bind (fun q12 => (f_X7_thoseWho 189 2 q12).bind (fun x13 => some ((x7 &&& (x13 ^^^ (-1))) &&& (((1 : Int32) <<< (a1 &&& 31)) ^^^ (-1)), q12)))))))))) else some ((-1000002), D)))))
set_option maxHeartbeats 4000000 in
set_option maxRecDepth 100000 in
theorem x_X7_wakes (l : Launch) (X : wd_X) (a1 : Int32) (D : wd_D) {qv : Int32 × wd_D} (h : f_X7_wakes a1 D = some qv) : wd_Met l X yX7_wakes cX7_wakes 3 (some FieldType.int) ({ frames := 5, cells := 0, slots := 0, locals := 500 }) S0 S0 ([.ref (X.2.2.1 + 370), .int a1] : List Value) D qv.2 (some (.int qv.1)) 0 0 := by
  refine wd_enter (by decide) (Nat.le_of_ble_eq_true rfl) ?_
  intro p e s m below meth c CF hret hlk hnm hW hE ls hl
  have CF : CallFix p m c cX7_wakes 3 s ([.ref (X.2.2.1 + 370), .int a1] : List Value).toArray tg RX7 := CF
  have hx := CF.1
  have hb := CF.2.1
  have hown := CF.2.2.2.1
  have hts := CF.2.2.2.2
  have hS : va_S (wd_A X) s.heap s.heap [] := va_S.rf
  have hl : lv_has ls 3 [(0, .ref (X.2.2.1 + 370)), (1, .int a1)] := hl
  unfold f_X7_wakes at h
  refine lv_aload_n hx hb dX7_wakes_0 rfl (lv_at hl 0 rfl) ?_
  refine lv_iload_n hx hb dX7_wakes_1 rfl (lv_at hl 1 rfl) ?_
  obtain ⟨x1, ex1, h⟩ := bdE h
  refine wd_callVr (ci := 7) (k := 370) CF hE hW hS (x_X7_isChild l X a1 D ex1) mi_X7_isChild vi_X7_isChild tw955 ⟨by decide, rfl⟩ sh_370 ⟨rfl, rfl, Nat.le_of_ble_eq_true rfl, Nat.le_of_ble_eq_true rfl⟩ rfl hl.1 rfl (Nat.le_of_ble_eq_true rfl) dX7_wakes_2 ⟨Nat.le_of_ble_eq_true rfl, Nat.le_of_ble_eq_true rfl⟩ (fun H locs hW hS => ?_)
  refine lv_if_ne (tgt := 11) hx hb dX7_wakes_5 (by decide) (fun c2 => ?_) (fun c2 => ?_)
  · rw [if_neg c2] at h
    refine lv_aload_n hx hb dX7_wakes_11 rfl (lv_at hl 0 rfl) ?_
    refine lv_iconst (v := 0) hx hb dX7_wakes_12 (by decide) ?_
    refine lv_iload_n hx hb dX7_wakes_13 rfl (lv_at hl 1 rfl) ?_
    obtain ⟨x3, ex3, h⟩ := bdE h
    refine wd_callVr (ci := 7) (k := 370) CF hE hW hS (x_X7_isOut l X 0 a1 D ex3) mi_X7_isOut vi_X7_isOut tw921 ⟨by decide, rfl⟩ sh_370 ⟨rfl, rfl, Nat.le_of_ble_eq_true rfl, Nat.le_of_ble_eq_true rfl⟩ rfl hl.1 rfl (Nat.le_of_ble_eq_true rfl) dX7_wakes_14 ⟨Nat.le_of_ble_eq_true rfl, Nat.le_of_ble_eq_true rfl⟩ (fun H locs hW hS => ?_)
    refine lv_if_eq (tgt := 23) hx hb dX7_wakes_17 (by decide) (fun c4 => ?_) (fun c4 => ?_)
    · rw [if_pos c4] at h
      refine lv_aload_n hx hb dX7_wakes_23 rfl (lv_at hl 0 rfl) ?_
      obtain ⟨q5, eq5, h⟩ := bdE h
      refine wd_callVv (ci := 7) (k := 370) CF hE hW hS (x_X7_tries l X D eq5) mi_X7_tries vi_X7_tries tw1004 ⟨by decide, rfl⟩ sh_370 ⟨rfl, rfl, Nat.le_of_ble_eq_true rfl, Nat.le_of_ble_eq_true rfl⟩ rfl hl.1 rfl (Nat.le_of_ble_eq_true rfl) dX7_wakes_24 ⟨Nat.le_of_ble_eq_true rfl, Nat.le_of_ble_eq_true rfl⟩ (fun H locs hW hS => ?_)
      refine lv_aload_n hx hb dX7_wakes_27 rfl (lv_at hl 0 rfl) ?_
      refine lv_iconst (v := 1) hx hb dX7_wakes_28 (by decide) ?_
      obtain ⟨q6, eq6, h⟩ := bdE h
      refine wd_callVv (ci := 7) (k := 370) CF hE hW hS (x_X7_goesOn l X 1 q5 eq6) mi_X7_goesOn vi_X7_goesOn tw1008 ⟨by decide, rfl⟩ sh_370 ⟨rfl, rfl, Nat.le_of_ble_eq_true rfl, Nat.le_of_ble_eq_true rfl⟩ rfl hl.1 rfl (Nat.le_of_ble_eq_true rfl) dX7_wakes_29 ⟨Nat.le_of_ble_eq_true rfl, Nat.le_of_ble_eq_true rfl⟩ (fun H locs hW hS => ?_)
      refine lv_aload_n hx hb dX7_wakes_32 rfl (lv_at hl 0 rfl) ?_
      refine lv_sipush (v := 189) hx hb dX7_wakes_33 (by decide) ?_
      refine lv_iconst (v := 2) hx hb dX7_wakes_36 (by decide) ?_
      obtain ⟨x7, ex7, h⟩ := bdE h
      refine wd_callVr (ci := 7) (k := 370) CF hE hW hS (x_X7_thoseWho l X 189 2 q6 ex7) mi_X7_thoseWho vi_X7_thoseWho tw947 ⟨by decide, rfl⟩ sh_370 ⟨rfl, rfl, Nat.le_of_ble_eq_true rfl, Nat.le_of_ble_eq_true rfl⟩ rfl hl.1 rfl (Nat.le_of_ble_eq_true rfl) dX7_wakes_37 ⟨Nat.le_of_ble_eq_true rfl, Nat.le_of_ble_eq_true rfl⟩ (fun H locs hW hS => ?_)
      refine lv_istore_n (lv' := [(2, .int x7), (0, .ref (X.2.2.1 + 370)), (1, .int a1)]) hx hb dX7_wakes_40 rfl hl (by decide) rfl (fun ls hl => ?_)
      refine lv_aload_n hx hb dX7_wakes_41 rfl (lv_at hl 1 rfl) ?_
      obtain ⟨q8, eq8, h⟩ := bdE h
      refine wd_callVv (ci := 7) (k := 370) CF hE hW hS (x_X7_tries l X q6 eq8) mi_X7_tries vi_X7_tries tw1004 ⟨by decide, rfl⟩ sh_370 ⟨rfl, rfl, Nat.le_of_ble_eq_true rfl, Nat.le_of_ble_eq_true rfl⟩ rfl hl.1 rfl (Nat.le_of_ble_eq_true rfl) dX7_wakes_42 ⟨Nat.le_of_ble_eq_true rfl, Nat.le_of_ble_eq_true rfl⟩ (fun H locs hW hS => ?_)
      refine lv_aload_n hx hb dX7_wakes_45 rfl (lv_at hl 1 rfl) ?_
      refine wd_getR CF hE hW fl_X7_7 sh_370 rf_370_0 rfl dX7_wakes_46 ?_
      refine lv_sipush (v := 197) hx hb dX7_wakes_49 (by decide) ?_
      refine lv_iload_n hx hb dX7_wakes_52 rfl (lv_at hl 2 rfl) ?_
      refine lv_iadd hx hb dX7_wakes_53 ?_
      refine lv_iconst (v := 1) hx hb dX7_wakes_54 (by decide) ?_
      obtain ⟨D9, eD9, h⟩ := bdE h
      refine wd_iast CF hE hW hS sh_371 eD9 dX7_wakes_55 (fun H locs hW hS => ?_)
      refine lv_aload_n hx hb dX7_wakes_56 rfl (lv_at hl 1 rfl) ?_
      refine wd_getR CF hE hW fl_X7_7 sh_370 rf_370_0 rfl dX7_wakes_57 ?_
      refine lv_sipush (v := 204) hx hb dX7_wakes_60 (by decide) ?_
      refine lv_iload_n hx hb dX7_wakes_63 rfl (lv_at hl 2 rfl) ?_
      refine lv_iadd hx hb dX7_wakes_64 ?_
      refine lv_aload_n hx hb dX7_wakes_65 rfl (lv_at hl 1 rfl) ?_
      refine wd_getR CF hE hW fl_X7_7 sh_370 rf_370_0 rfl dX7_wakes_66 ?_
      refine lv_bipush (v := 40) hx hb dX7_wakes_69 (by decide) ?_
      obtain ⟨x10, ex10, h⟩ := bdE h
      refine wd_iald CF hE hW sh_371 ex10 dX7_wakes_71 ?_
      obtain ⟨D11, eD11, h⟩ := bdE h
      refine wd_iast CF hE hW hS sh_371 eD11 dX7_wakes_72 (fun H locs hW hS => ?_)
      refine lv_aload_n hx hb dX7_wakes_73 rfl (lv_at hl 1 rfl) ?_
      refine lv_iconst (v := 1) hx hb dX7_wakes_74 (by decide) ?_
      obtain ⟨q12, eq12, h⟩ := bdE h
      refine wd_callVv (ci := 7) (k := 370) CF hE hW hS (x_X7_goesOn l X 1 D11 eq12) mi_X7_goesOn vi_X7_goesOn tw1008 ⟨by decide, rfl⟩ sh_370 ⟨rfl, rfl, Nat.le_of_ble_eq_true rfl, Nat.le_of_ble_eq_true rfl⟩ rfl hl.1 rfl (Nat.le_of_ble_eq_true rfl) dX7_wakes_75 ⟨Nat.le_of_ble_eq_true rfl, Nat.le_of_ble_eq_true rfl⟩ (fun H locs hW hS => ?_)
      refine lv_iload_n hx hb dX7_wakes_78 rfl (lv_at hl 0 rfl) ?_
      refine lv_aload_n hx hb dX7_wakes_79 rfl (lv_at hl 1 rfl) ?_
      refine lv_sipush (v := 189) hx hb dX7_wakes_80 (by decide) ?_
      refine lv_iconst (v := 2) hx hb dX7_wakes_83 (by decide) ?_
      obtain ⟨x13, ex13, h⟩ := bdE h
      refine wd_callVr (ci := 7) (k := 370) CF hE hW hS (x_X7_thoseWho l X 189 2 q12 ex13) mi_X7_thoseWho vi_X7_thoseWho tw947 ⟨by decide, rfl⟩ sh_370 ⟨rfl, rfl, Nat.le_of_ble_eq_true rfl, Nat.le_of_ble_eq_true rfl⟩ rfl hl.1 rfl (Nat.le_of_ble_eq_true rfl) dX7_wakes_84 ⟨Nat.le_of_ble_eq_true rfl, Nat.le_of_ble_eq_true rfl⟩ (fun H locs hW hS => ?_)
      refine lv_iconst (v := (-1)) hx hb dX7_wakes_87 (by decide) ?_
      refine lv_ixor hx hb dX7_wakes_88 ?_
      refine lv_iand hx hb dX7_wakes_89 ?_
      refine lv_iconst (v := 1) hx hb dX7_wakes_90 (by decide) ?_
      refine lv_iload_n hx hb dX7_wakes_91 rfl (lv_at hl 2 rfl) ?_
      refine lv_ishl hx hb dX7_wakes_92 ?_
      refine lv_iconst (v := (-1)) hx hb dX7_wakes_93 (by decide) ?_
      refine lv_ixor hx hb dX7_wakes_94 ?_
      refine lv_iand hx hb dX7_wakes_95 ?_
      have h := Option.some.inj h
      subst h
      exact wd_iret CF hret hlk hW hS dX7_wakes_96
    · rw [if_neg c4] at h
      refine lv_ldc (v := (-1000002)) hx hb hown (hts _ tw899) dX7_wakes_20 ?_
      have h := Option.some.inj h
      subst h
      exact wd_iret CF hret hlk hW hS dX7_wakes_22
  · rw [if_pos c2] at h
    refine lv_ldc (v := (-1000001)) hx hb hown (hts _ tw822) dX7_wakes_8 ?_
    have h := Option.some.inj h
    subst h
    exact wd_iret CF hret hlk hW hS dX7_wakes_10
def f_X7_loudest_L45 (k14 : Int32 → Int32 → wd_D → Option (Int32)) (v2 : Int32) (z0 : Int32) (D : wd_D) : Option (Int32) := ap (v2 + 1) (fun x8 => k14 z0 x8 D)
def f_X7_loudest_L14  : Nat → Int32 → Int32 → wd_D → Option (Int32)
  | 0, _, _, _ => none
  | n + 1, v1, v2, D => (rd 252 D 371 41).bind (fun x3 => (if x3 ≤ v2 then some v1 else (f_X7_noiseAt 0 v2 D).bind (fun x5 => (f_X7_noiseAt 0 v1 D).bind (fun x6 => (if x5 ≤ x6 then f_X7_loudest_L45 (f_X7_loudest_L14 n) v2 v1 D else f_X7_loudest_L45 (f_X7_loudest_L14 n) v2 v2 D)))))
def f_X7_loudest  (D : wd_D) : Option (Int32) := (f_X7_isRoom D).bind (fun x1 => (if x1 = 0 then some (-1000002) else f_X7_loudest_L14 FU 0 1 D))
set_option maxHeartbeats 4000000 in
set_option maxRecDepth 100000 in
theorem x_X7_loudest (l : Launch) (X : wd_X)  (D : wd_D) {rv : Int32} (h : f_X7_loudest  D = some rv) : wd_Met l X yX7_loudest cX7_loudest 3 (some FieldType.int) ({ frames := 3, cells := 0, slots := 0, locals := 300 }) S0 S0 ([.ref (X.2.2.1 + 370)] : List Value) D D (some (.int rv)) 0 0 := by
  refine wd_enter (by decide) (Nat.le_of_ble_eq_true rfl) ?_
  intro p e s m below meth c CF hret hlk hnm hW hE ls hl
  have CF : CallFix p m c cX7_loudest 3 s ([.ref (X.2.2.1 + 370)] : List Value).toArray tg RX7 := CF
  have hx := CF.1
  have hb := CF.2.1
  have hown := CF.2.2.2.1
  have hts := CF.2.2.2.2
  have hS : va_S (wd_A X) s.heap s.heap [] := va_S.rf
  have hl : lv_has ls 3 [(0, .ref (X.2.2.1 + 370))] := hl
  unfold f_X7_loudest at h
  have hL14 : ∀ (n14 : Nat) (v1 : Int32) (v2 : Int32) (H : Heap) (locs : List Loc) (ls : Array Slot), Wd X S0 D H → va_S (wd_A X) s.heap H locs → lv_has ls 3 [(0, .ref (X.2.2.1 + 370)), (1, .int v1), (2, .int v2)] → f_X7_loudest_L14 n14 v1 v2 D = some rv → W p l e ({ frames := 3, cells := 0, slots := 0, locals := 300 }) s m ([.ref (X.2.2.1 + 370)] : List Value).toArray below meth c H locs 0 0 (MQ below (wd_Q X S0 D (some (.int rv))) ([.ref (X.2.2.1 + 370)] : List Value).toArray s 0 0 (wd_A X)) (F0 m 14 ls []) := by
    intro n14
    induction n14 with
    | zero => intro v1 v2 H locs ls hW hS hl h; cases h
    | succ n14 ih14 =>
      have hL45 : ∀ (v2 : Int32) (z0 : Int32) (H : Heap) (locs : List Loc) (ls : Array Slot), Wd X S0 D H → va_S (wd_A X) s.heap H locs → lv_has ls 3 [(0, .ref (X.2.2.1 + 370)), (2, .int v2)] → f_X7_loudest_L45 (f_X7_loudest_L14 n14) v2 z0 D = some rv → W p l e ({ frames := 3, cells := 0, slots := 0, locals := 300 }) s m ([.ref (X.2.2.1 + 370)] : List Value).toArray below meth c H locs 0 0 (MQ below (wd_Q X S0 D (some (.int rv))) ([.ref (X.2.2.1 + 370)] : List Value).toArray s 0 0 (wd_A X)) (F0 m 45 ls [.int z0]) := by
        intro v2 z0 H locs ls hW hS hl h
        unfold f_X7_loudest_L45 at h
        refine lv_istore_n (lv' := [(1, .int z0), (0, .ref (X.2.2.1 + 370)), (2, .int v2)]) hx hb dX7_loudest_45 rfl hl (by decide) rfl (fun ls hl => ?_)
        obtain ⟨x8, ex8⟩ : ∃ y : Int32, y = v2 + 1 := ⟨_, rfl⟩
        replace h := apR ex8 h
        refine lv_iinc (v := x8) (lv' := [(2, .int x8), (1, .int z0), (0, .ref (X.2.2.1 + 370))]) hx hb dX7_loudest_46 hl (k := 2) rfl (by rw [ex8]; rfl) (by decide) rfl (fun ls hl => ?_)
        refine lv_goto (tgt := 14) hx hb dX7_loudest_49 (by decide) ?_
        exact ih14 z0 x8 _ _ _  hW hS (lv_sub hl [2, 1, 0] rfl) h
      intro v1 v2 H locs ls hW hS hl h
      rw [f_X7_loudest_L14] at h
      refine lv_iload_n hx hb dX7_loudest_14 rfl (lv_at hl 2 rfl) ?_
      refine lv_aload_n hx hb dX7_loudest_15 rfl (lv_at hl 0 rfl) ?_
      refine wd_getR CF hE hW fl_X7_7 sh_370 rf_370_0 rfl dX7_loudest_16 ?_
      refine lv_bipush (v := 41) hx hb dX7_loudest_19 (by decide) ?_
      obtain ⟨x3, ex3, h⟩ := bdE h
      refine wd_iald CF hE hW sh_371 ex3 dX7_loudest_21 ?_
      refine lv_icmp_ge (tgt := 52) hx hb dX7_loudest_22 (by decide) (fun c4 => ?_) (fun c4 => ?_)
      · rw [if_pos c4] at h
        refine lv_iload_n hx hb dX7_loudest_52 rfl (lv_at hl 1 rfl) ?_
        have h := Option.some.inj h
        subst h
        exact wd_iret CF hret hlk hW hS dX7_loudest_53
      · rw [if_neg c4] at h
        refine lv_aload_n hx hb dX7_loudest_25 rfl (lv_at hl 0 rfl) ?_
        refine lv_iconst (v := 0) hx hb dX7_loudest_26 (by decide) ?_
        refine lv_iload_n hx hb dX7_loudest_27 rfl (lv_at hl 2 rfl) ?_
        obtain ⟨x5, ex5, h⟩ := bdE h
        refine wd_callVr (ci := 7) (k := 370) CF hE hW hS (x_X7_noiseAt l X 0 v2 D ex5) mi_X7_noiseAt vi_X7_noiseAt tw917 ⟨by decide, rfl⟩ sh_370 ⟨rfl, rfl, Nat.le_of_ble_eq_true rfl, Nat.le_of_ble_eq_true rfl⟩ rfl hl.1 rfl (Nat.le_of_ble_eq_true rfl) dX7_loudest_28 ⟨Nat.le_of_ble_eq_true rfl, Nat.le_of_ble_eq_true rfl⟩ (fun H locs hW hS => ?_)
        refine lv_aload_n hx hb dX7_loudest_31 rfl (lv_at hl 0 rfl) ?_
        refine lv_iconst (v := 0) hx hb dX7_loudest_32 (by decide) ?_
        refine lv_iload_n hx hb dX7_loudest_33 rfl (lv_at hl 1 rfl) ?_
        obtain ⟨x6, ex6, h⟩ := bdE h
        refine wd_callVr (ci := 7) (k := 370) CF hE hW hS (x_X7_noiseAt l X 0 v1 D ex6) mi_X7_noiseAt vi_X7_noiseAt tw917 ⟨by decide, rfl⟩ sh_370 ⟨rfl, rfl, Nat.le_of_ble_eq_true rfl, Nat.le_of_ble_eq_true rfl⟩ rfl hl.1 rfl (Nat.le_of_ble_eq_true rfl) dX7_loudest_34 ⟨Nat.le_of_ble_eq_true rfl, Nat.le_of_ble_eq_true rfl⟩ (fun H locs hW hS => ?_)
        refine lv_icmp_le (tgt := 44) hx hb dX7_loudest_37 (by decide) (fun c7 => ?_) (fun c7 => ?_)
        · rw [if_pos c7] at h
          refine lv_iload_n hx hb dX7_loudest_44 rfl (lv_at hl 1 rfl) ?_
          exact hL45 v2 v1 _ _ _  hW hS (lv_sub hl [0, 2] rfl) h
        · rw [if_neg c7] at h
          refine lv_iload_n hx hb dX7_loudest_40 rfl (lv_at hl 2 rfl) ?_
          refine lv_goto (tgt := 45) hx hb dX7_loudest_41 (by decide) ?_
          exact hL45 v2 v2 _ _ _  hW hS (lv_sub hl [0, 2] rfl) h
  refine lv_aload_n hx hb dX7_loudest_0 rfl (lv_at hl 0 rfl) ?_
  obtain ⟨x1, ex1, h⟩ := bdE h
  refine wd_callVr (ci := 7) (k := 370) CF hE hW hS (x_X7_isRoom l X D ex1) mi_X7_isRoom vi_X7_isRoom tw904 ⟨by decide, rfl⟩ sh_370 ⟨rfl, rfl, Nat.le_of_ble_eq_true rfl, Nat.le_of_ble_eq_true rfl⟩ rfl hl.1 rfl (Nat.le_of_ble_eq_true rfl) dX7_loudest_1 ⟨Nat.le_of_ble_eq_true rfl, Nat.le_of_ble_eq_true rfl⟩ (fun H locs hW hS => ?_)
  refine lv_if_ne (tgt := 10) hx hb dX7_loudest_4 (by decide) (fun c2 => ?_) (fun c2 => ?_)
  · rw [if_neg c2] at h
    refine lv_iconst (v := 0) hx hb dX7_loudest_10 (by decide) ?_
    refine lv_istore_n (lv' := [(1, .int 0), (0, .ref (X.2.2.1 + 370))]) hx hb dX7_loudest_11 rfl hl (by decide) rfl (fun ls hl => ?_)
    refine lv_iconst (v := 1) hx hb dX7_loudest_12 (by decide) ?_
    refine lv_istore_n (lv' := [(2, .int 1), (1, .int 0), (0, .ref (X.2.2.1 + 370))]) hx hb dX7_loudest_13 rfl hl (by decide) rfl (fun ls hl => ?_)
    exact hL14 FU 0 1 _ _ _  hW hS (lv_sub hl [2, 1, 0] rfl) h
  · rw [if_pos c2] at h
    refine lv_ldc (v := (-1000002)) hx hb hown (hts _ tw899) dX7_loudest_7 ?_
    have h := Option.some.inj h
    subst h
    exact wd_iret CF hret hlk hW hS dX7_loudest_9
def f_X7_isSo_L47 (k5 : Int32 → Int32 → Int32 → Int32 → wd_D → Option (Int32 × wd_D)) (a1 : Int32) (a2 : Int32) (v4 : Int32) (z0 : Int32) (D : wd_D) : Option (Int32 × wd_D) := ap (v4 + 1) (fun x8 => k5 a1 a2 z0 x8 D)
def f_X7_isSo_L46 (k5 : Int32 → Int32 → Int32 → Int32 → wd_D → Option (Int32 × wd_D)) (a1 : Int32) (a2 : Int32) (v4 : Int32) (D : wd_D) : Option (Int32 × wd_D) := f_X7_isSo_L47 k5 a1 a2 v4 0 D
def f_X7_isSo_L5  : Nat → Int32 → Int32 → Int32 → Int32 → wd_D → Option (Int32 × wd_D)
  | 0, _, _, _, _, _ => none
  | n + 1, a1, a2, v3, v4, D => (if a2 ≤ v4 then (bo v3).bind (fun x2 => some (x2, D)) else (f_X7_passes 189 D).bind (fun q3 => (if v3 = 0 then f_X7_isSo_L46 (f_X7_isSo_L5 n) a1 a2 v4 q3 else (f_X7_thoseWho 189 2 q3).bind (fun x5 => (rd 320 q3 374 (a1 + v4)).bind (fun x6 => (if x5 = x6 then f_X7_isSo_L47 (f_X7_isSo_L5 n) a1 a2 v4 1 q3 else f_X7_isSo_L46 (f_X7_isSo_L5 n) a1 a2 v4 q3))))))
def f_X7_isSo (a1 : Int32) (a2 : Int32) (D : wd_D) : Option (Int32 × wd_D) := f_X7_isSo_L5 FU a1 a2 1 0 D
set_option maxHeartbeats 4000000 in
set_option maxRecDepth 100000 in
theorem x_X7_isSo (l : Launch) (X : wd_X) (a1 : Int32) (a2 : Int32) (D : wd_D) {qv : Int32 × wd_D} (h : f_X7_isSo a1 a2 D = some qv) : wd_Met l X yX7_isSo cX7_isSo 5 (some FieldType.boolean) ({ frames := 4, cells := 0, slots := 0, locals := 400 }) S0 S0 ([.ref (X.2.2.1 + 370), .int a1, .int a2] : List Value) D qv.2 (some (.int qv.1)) 0 0 := by
  refine wd_enter (by decide) (Nat.le_of_ble_eq_true rfl) ?_
  intro p e s m below meth c CF hret hlk hnm hW hE ls hl
  have CF : CallFix p m c cX7_isSo 5 s ([.ref (X.2.2.1 + 370), .int a1, .int a2] : List Value).toArray tg RX7 := CF
  have hx := CF.1
  have hb := CF.2.1
  have hown := CF.2.2.2.1
  have hts := CF.2.2.2.2
  have hS : va_S (wd_A X) s.heap s.heap [] := va_S.rf
  have hl : lv_has ls 5 [(0, .ref (X.2.2.1 + 370)), (1, .int a1), (2, .int a2)] := hl
  unfold f_X7_isSo at h
  have hL5 : ∀ (n5 : Nat) (v3 : Int32) (v4 : Int32) (D : wd_D) (H : Heap) (locs : List Loc) (ls : Array Slot), Wd X S0 D H → va_S (wd_A X) s.heap H locs → lv_has ls 5 [(0, .ref (X.2.2.1 + 370)), (1, .int a1), (2, .int a2), (3, .int v3), (4, .int v4)] → f_X7_isSo_L5 n5 a1 a2 v3 v4 D = some qv → W p l e ({ frames := 4, cells := 0, slots := 0, locals := 400 }) s m ([.ref (X.2.2.1 + 370), .int a1, .int a2] : List Value).toArray below meth c H locs 0 0 (MQ below (wd_Q X S0 qv.2 (some (.int qv.1))) ([.ref (X.2.2.1 + 370), .int a1, .int a2] : List Value).toArray s 0 0 (wd_A X)) (F0 m 5 ls []) := by
    intro n5
    induction n5 with
    | zero => intro v3 v4 D H locs ls hW hS hl h; cases h
    | succ n5 ih5 =>
      have hL47 : ∀ (v4 : Int32) (z0 : Int32) (D : wd_D) (H : Heap) (locs : List Loc) (ls : Array Slot), Wd X S0 D H → va_S (wd_A X) s.heap H locs → lv_has ls 5 [(0, .ref (X.2.2.1 + 370)), (1, .int a1), (2, .int a2), (4, .int v4)] → f_X7_isSo_L47 (f_X7_isSo_L5 n5) a1 a2 v4 z0 D = some qv → W p l e ({ frames := 4, cells := 0, slots := 0, locals := 400 }) s m ([.ref (X.2.2.1 + 370), .int a1, .int a2] : List Value).toArray below meth c H locs 0 0 (MQ below (wd_Q X S0 qv.2 (some (.int qv.1))) ([.ref (X.2.2.1 + 370), .int a1, .int a2] : List Value).toArray s 0 0 (wd_A X)) (F0 m 47 ls [.int z0]) := by
        intro v4 z0 D H locs ls hW hS hl h
        unfold f_X7_isSo_L47 at h
        refine lv_istore_n (lv' := [(3, .int z0), (0, .ref (X.2.2.1 + 370)), (1, .int a1), (2, .int a2), (4, .int v4)]) hx hb dX7_isSo_47 rfl hl (by decide) rfl (fun ls hl => ?_)
        obtain ⟨x8, ex8⟩ : ∃ y : Int32, y = v4 + 1 := ⟨_, rfl⟩
        replace h := apR ex8 h
        refine lv_iinc (v := x8) (lv' := [(4, .int x8), (3, .int z0), (0, .ref (X.2.2.1 + 370)), (1, .int a1), (2, .int a2)]) hx hb dX7_isSo_48 hl (k := 4) rfl (by rw [ex8]; rfl) (by decide) rfl (fun ls hl => ?_)
        refine lv_goto (tgt := 5) hx hb dX7_isSo_51 (by decide) ?_
        exact ih5 z0 x8 D _ _ _  hW hS (lv_sub hl [2, 3, 4, 1, 0] rfl) h
      have hL46 : ∀ (v4 : Int32) (D : wd_D) (H : Heap) (locs : List Loc) (ls : Array Slot), Wd X S0 D H → va_S (wd_A X) s.heap H locs → lv_has ls 5 [(0, .ref (X.2.2.1 + 370)), (1, .int a1), (2, .int a2), (4, .int v4)] → f_X7_isSo_L46 (f_X7_isSo_L5 n5) a1 a2 v4 D = some qv → W p l e ({ frames := 4, cells := 0, slots := 0, locals := 400 }) s m ([.ref (X.2.2.1 + 370), .int a1, .int a2] : List Value).toArray below meth c H locs 0 0 (MQ below (wd_Q X S0 qv.2 (some (.int qv.1))) ([.ref (X.2.2.1 + 370), .int a1, .int a2] : List Value).toArray s 0 0 (wd_A X)) (F0 m 46 ls []) := by
        intro v4 D H locs ls hW hS hl h
        unfold f_X7_isSo_L46 at h
        refine lv_iconst (v := 0) hx hb dX7_isSo_46 (by decide) ?_
        exact hL47 v4 0 D _ _ _  hW hS (lv_sub hl [0, 1, 2, 3] rfl) h
      intro v3 v4 D H locs ls hW hS hl h
      rw [f_X7_isSo_L5] at h
      refine lv_iload hx hb dX7_isSo_5 (lv_at hl 4 rfl) ?_
      refine lv_iload_n hx hb dX7_isSo_7 rfl (lv_at hl 2 rfl) ?_
      refine lv_icmp_ge (tgt := 54) hx hb dX7_isSo_8 (by decide) (fun c1 => ?_) (fun c1 => ?_)
      · rw [if_pos c1] at h
        refine lv_iload_n hx hb dX7_isSo_54 rfl (lv_at hl 3 rfl) ?_
        obtain ⟨x2, ex2, h⟩ := bdE h
        obtain ⟨fx2, gx2⟩ := bo_e ex2
        subst fx2
        have h := Option.some.inj h
        subst h
        exact wd_zret CF hret hlk hW hS gx2 dX7_isSo_55
      · rw [if_neg c1] at h
        refine lv_aload_n hx hb dX7_isSo_11 rfl (lv_at hl 0 rfl) ?_
        refine lv_sipush (v := 189) hx hb dX7_isSo_12 (by decide) ?_
        obtain ⟨q3, eq3, h⟩ := bdE h
        refine wd_callVv (ci := 7) (k := 370) CF hE hW hS (x_X7_passes l X 189 D eq3) mi_X7_passes vi_X7_passes tw913 ⟨by decide, rfl⟩ sh_370 ⟨rfl, rfl, Nat.le_of_ble_eq_true rfl, Nat.le_of_ble_eq_true rfl⟩ rfl hl.1 rfl (Nat.le_of_ble_eq_true rfl) dX7_isSo_15 ⟨Nat.le_of_ble_eq_true rfl, Nat.le_of_ble_eq_true rfl⟩ (fun H locs hW hS => ?_)
        refine lv_iload_n hx hb dX7_isSo_18 rfl (lv_at hl 3 rfl) ?_
        refine lv_if_eq (tgt := 46) hx hb dX7_isSo_19 (by decide) (fun c4 => ?_) (fun c4 => ?_)
        · rw [if_pos c4] at h
          exact hL46 v4 q3 _ _ _  hW hS (lv_sub hl [0, 1, 2, 4] rfl) h
        · rw [if_neg c4] at h
          refine lv_aload_n hx hb dX7_isSo_22 rfl (lv_at hl 0 rfl) ?_
          refine lv_sipush (v := 189) hx hb dX7_isSo_23 (by decide) ?_
          refine lv_iconst (v := 2) hx hb dX7_isSo_26 (by decide) ?_
          obtain ⟨x5, ex5, h⟩ := bdE h
          refine wd_callVr (ci := 7) (k := 370) CF hE hW hS (x_X7_thoseWho l X 189 2 q3 ex5) mi_X7_thoseWho vi_X7_thoseWho tw947 ⟨by decide, rfl⟩ sh_370 ⟨rfl, rfl, Nat.le_of_ble_eq_true rfl, Nat.le_of_ble_eq_true rfl⟩ rfl hl.1 rfl (Nat.le_of_ble_eq_true rfl) dX7_isSo_27 ⟨Nat.le_of_ble_eq_true rfl, Nat.le_of_ble_eq_true rfl⟩ (fun H locs hW hS => ?_)
          refine lv_aload_n hx hb dX7_isSo_30 rfl (lv_at hl 0 rfl) ?_
          refine wd_getR CF hE hW fl_X7_20 sh_370 rf_370_4 rfl dX7_isSo_31 ?_
          refine lv_iload_n hx hb dX7_isSo_34 rfl (lv_at hl 1 rfl) ?_
          refine lv_iload hx hb dX7_isSo_35 (lv_at hl 4 rfl) ?_
          refine lv_iadd hx hb dX7_isSo_37 ?_
          obtain ⟨x6, ex6, h⟩ := bdE h
          refine wd_iald CF hE hW sh_374 ex6 dX7_isSo_38 ?_
          refine lv_icmp_ne (tgt := 46) hx hb dX7_isSo_39 (by decide) (fun c7 => ?_) (fun c7 => ?_)
          · rw [if_neg c7] at h
            exact hL46 v4 q3 _ _ _  hW hS (lv_sub hl [0, 1, 2, 4] rfl) h
          · rw [if_pos c7] at h
            refine lv_iconst (v := 1) hx hb dX7_isSo_42 (by decide) ?_
            refine lv_goto (tgt := 47) hx hb dX7_isSo_43 (by decide) ?_
            exact hL47 v4 1 q3 _ _ _  hW hS (lv_sub hl [0, 1, 2, 4] rfl) h
  refine lv_iconst (v := 1) hx hb dX7_isSo_0 (by decide) ?_
  refine lv_istore_n (lv' := [(3, .int 1), (0, .ref (X.2.2.1 + 370)), (1, .int a1), (2, .int a2)]) hx hb dX7_isSo_1 rfl hl (by decide) rfl (fun ls hl => ?_)
  refine lv_iconst (v := 0) hx hb dX7_isSo_2 (by decide) ?_
  refine lv_istore (lv' := [(4, .int 0), (3, .int 1), (0, .ref (X.2.2.1 + 370)), (1, .int a1), (2, .int a2)]) hx hb dX7_isSo_3 hl (by decide) rfl (fun ls hl => ?_)
  exact hL5 FU 1 0 D _ _ _  hW hS (lv_sub hl [2, 3, 4, 1, 0] rfl) h
def f_X7_who_L169 (k109 : Int32 → Int32 → Int32 → Int32 → Int32 → Int32 → Int32 → Int32 → wd_D → Option (Int32 × wd_D)) (a1 : Int32) (a2 : Int32) (a3 : Int32) (a4 : Int32) (a5 : Int32) (v7 : Int32) (v9 : Int32) (z0 : Int32) (z1 : Int32) (D : wd_D) : Option (Int32 × wd_D) := ap (z1 ||| z0) (fun x20 => ap (v9 + 1) (fun x21 => k109 a1 a2 a3 a4 a5 v7 x20 x21 D))
def f_X7_who_L121 (k109 : Int32 → Int32 → Int32 → Int32 → Int32 → Int32 → Int32 → Int32 → wd_D → Option (Int32 × wd_D)) (a1 : Int32) (a2 : Int32) (a3 : Int32) (a4 : Int32) (a5 : Int32) (v7 : Int32) (v8 : Int32) (v9 : Int32) (z0 : Int32) (z1 : Int32) (D : wd_D) : Option (Int32 × wd_D) := (if z0 < z1 then ap (f_X7_good v8 D) (fun q15 => some (q15.1, q15.2)) else (f_X7_tries D).bind (fun q16 => (wr 252 q16 371 ((189 + v7) + a1) v9).bind (fun D17 => (f_X7_isSo ((40 * a3) + a4) a5 D17).bind (fun q18 => (if q18.1 = 0 then f_X7_who_L169 k109 a1 a2 a3 a4 a5 v7 v9 0 v8 q18.2 else f_X7_who_L169 k109 a1 a2 a3 a4 a5 v7 v9 ((1 : Int32) <<< (v9 &&& 31)) v8 q18.2)))))
def f_X7_who_L109  : Nat → Int32 → Int32 → Int32 → Int32 → Int32 → Int32 → Int32 → Int32 → wd_D → Option (Int32 × wd_D)
  | 0, _, _, _, _, _, _, _, _, _ => none
  | n + 1, a1, a2, a3, a4, a5, v7, v8, v9, D => (if a2 = 0 then f_X7_who_L121 (f_X7_who_L109 n) a1 a2 a3 a4 a5 v7 v8 v9 5 v9 D else f_X7_who_L121 (f_X7_who_L109 n) a1 a2 a3 a4 a5 v7 v8 v9 9 v9 D)
def f_X7_who_L107  (a1 : Int32) (a2 : Int32) (a3 : Int32) (a4 : Int32) (a5 : Int32) (v7 : Int32) (v8 : Int32) (z0 : Int32) (D : wd_D) : Option (Int32 × wd_D) := f_X7_who_L109 FU a1 a2 a3 a4 a5 v7 v8 z0 D
def f_X7_who_L92  (a1 : Int32) (a2 : Int32) (a3 : Int32) (a4 : Int32) (a5 : Int32) (z0 : Int32) (D : wd_D) : Option (Int32 × wd_D) := (if 2 ≤ a2 then f_X7_who_L107 a1 a2 a3 a4 a5 z0 0 0 D else f_X7_who_L107 a1 a2 a3 a4 a5 z0 0 1 D)
def f_X7_who (a1 : Int32) (a2 : Int32) (a3 : Int32) (a4 : Int32) (a5 : Int32) (D : wd_D) : Option (Int32 × wd_D) := (f_X7_isChild a1 D).bind (fun x1 => (if x1 = 0 then some ((-1000001), D) else (if (f_X7_in a2.toInt64 0 3) = 0 then some ((-1000001), D) else (if (f_X7_isRow a3) = 0 then some ((-1000001), D) else (if (f_X7_in a5.toInt64 1 12) = 0 then some ((-1000001), D) else (f_X7_against a3 a4 a5 D).bind (fun q6 => ap q6.1 (fun x7 => (if 0 ≤ x7 then (if a2 = 0 then f_X7_who_L92 a1 a2 a3 a4 a5 42 q6.2 else (if a2 = 1 then f_X7_who_L92 a1 a2 a3 a4 a5 1 q6.2 else (if a2 = 2 then f_X7_who_L92 a1 a2 a3 a4 a5 49 q6.2 else f_X7_who_L92 a1 a2 a3 a4 a5 56 q6.2))) else some (x7, q6.2)))))))))
set_option maxHeartbeats 4000000 in
set_option maxRecDepth 100000 in
theorem x_X7_who (l : Launch) (X : wd_X) (a1 : Int32) (a2 : Int32) (a3 : Int32) (a4 : Int32) (a5 : Int32) (D : wd_D) {qv : Int32 × wd_D} (h : f_X7_who a1 a2 a3 a4 a5 D = some qv) : wd_Met l X yX7_who cX7_who 10 (some FieldType.int) ({ frames := 5, cells := 0, slots := 0, locals := 500 }) S0 S0 ([.ref (X.2.2.1 + 370), .int a1, .int a2, .int a3, .int a4, .int a5] : List Value) D qv.2 (some (.int qv.1)) 0 0 := by
  refine wd_enter (by decide) (Nat.le_of_ble_eq_true rfl) ?_
  intro p e s m below meth c CF hret hlk hnm hW hE ls hl
  have CF : CallFix p m c cX7_who 10 s ([.ref (X.2.2.1 + 370), .int a1, .int a2, .int a3, .int a4, .int a5] : List Value).toArray tg RX7 := CF
  have hx := CF.1
  have hb := CF.2.1
  have hown := CF.2.2.2.1
  have hts := CF.2.2.2.2
  have hS : va_S (wd_A X) s.heap s.heap [] := va_S.rf
  have hl : lv_has ls 10 [(0, .ref (X.2.2.1 + 370)), (1, .int a1), (2, .int a2), (3, .int a3), (4, .int a4), (5, .int a5)] := hl
  unfold f_X7_who at h
  have hL109 : ∀ (n109 : Nat) (v7 : Int32) (v8 : Int32) (v9 : Int32) (D : wd_D) (H : Heap) (locs : List Loc) (ls : Array Slot), Wd X S0 D H → va_S (wd_A X) s.heap H locs → lv_has ls 10 [(0, .ref (X.2.2.1 + 370)), (1, .int a1), (2, .int a2), (3, .int a3), (4, .int a4), (5, .int a5), (7, .int v7), (8, .int v8), (9, .int v9)] → f_X7_who_L109 n109 a1 a2 a3 a4 a5 v7 v8 v9 D = some qv → W p l e ({ frames := 5, cells := 0, slots := 0, locals := 500 }) s m ([.ref (X.2.2.1 + 370), .int a1, .int a2, .int a3, .int a4, .int a5] : List Value).toArray below meth c H locs 0 0 (MQ below (wd_Q X S0 qv.2 (some (.int qv.1))) ([.ref (X.2.2.1 + 370), .int a1, .int a2, .int a3, .int a4, .int a5] : List Value).toArray s 0 0 (wd_A X)) (F0 m 109 ls []) := by
    intro n109
    induction n109 with
    | zero => intro v7 v8 v9 D H locs ls hW hS hl h; cases h
    | succ n109 ih109 =>
      have hL169 : ∀ (v7 : Int32) (v9 : Int32) (z0 : Int32) (z1 : Int32) (D : wd_D) (H : Heap) (locs : List Loc) (ls : Array Slot), Wd X S0 D H → va_S (wd_A X) s.heap H locs → lv_has ls 10 [(0, .ref (X.2.2.1 + 370)), (1, .int a1), (2, .int a2), (3, .int a3), (4, .int a4), (5, .int a5), (7, .int v7), (9, .int v9)] → f_X7_who_L169 (f_X7_who_L109 n109) a1 a2 a3 a4 a5 v7 v9 z0 z1 D = some qv → W p l e ({ frames := 5, cells := 0, slots := 0, locals := 500 }) s m ([.ref (X.2.2.1 + 370), .int a1, .int a2, .int a3, .int a4, .int a5] : List Value).toArray below meth c H locs 0 0 (MQ below (wd_Q X S0 qv.2 (some (.int qv.1))) ([.ref (X.2.2.1 + 370), .int a1, .int a2, .int a3, .int a4, .int a5] : List Value).toArray s 0 0 (wd_A X)) (F0 m 169 ls [.int z0, .int z1]) := by
        intro v7 v9 z0 z1 D H locs ls hW hS hl h
        unfold f_X7_who_L169 at h
        refine lv_ior hx hb dX7_who_169 ?_
        refine lv_topi (fun x20 ex20 => ?_)
        replace h := apR ex20 h
        refine lv_istore (lv' := [(8, .int x20), (0, .ref (X.2.2.1 + 370)), (1, .int a1), (2, .int a2), (3, .int a3), (4, .int a4), (5, .int a5), (7, .int v7), (9, .int v9)]) hx hb dX7_who_170 hl (by decide) rfl (fun ls hl => ?_)
        obtain ⟨x21, ex21⟩ : ∃ y : Int32, y = v9 + 1 := ⟨_, rfl⟩
        replace h := apR ex21 h
        refine lv_iinc (v := x21) (lv' := [(9, .int x21), (8, .int x20), (0, .ref (X.2.2.1 + 370)), (1, .int a1), (2, .int a2), (3, .int a3), (4, .int a4), (5, .int a5), (7, .int v7)]) hx hb dX7_who_172 hl (k := 8) rfl (by rw [ex21]; rfl) (by decide) rfl (fun ls hl => ?_)
        refine lv_goto (tgt := 109) hx hb dX7_who_175 (by decide) ?_
        exact ih109 v7 x20 x21 D _ _ _  hW hS (lv_sub hl [2, 3, 4, 5, 6, 7, 8, 1, 0] rfl) h
      have hL121 : ∀ (v7 : Int32) (v8 : Int32) (v9 : Int32) (z0 : Int32) (z1 : Int32) (D : wd_D) (H : Heap) (locs : List Loc) (ls : Array Slot), Wd X S0 D H → va_S (wd_A X) s.heap H locs → lv_has ls 10 [(0, .ref (X.2.2.1 + 370)), (1, .int a1), (2, .int a2), (3, .int a3), (4, .int a4), (5, .int a5), (7, .int v7), (8, .int v8), (9, .int v9)] → f_X7_who_L121 (f_X7_who_L109 n109) a1 a2 a3 a4 a5 v7 v8 v9 z0 z1 D = some qv → W p l e ({ frames := 5, cells := 0, slots := 0, locals := 500 }) s m ([.ref (X.2.2.1 + 370), .int a1, .int a2, .int a3, .int a4, .int a5] : List Value).toArray below meth c H locs 0 0 (MQ below (wd_Q X S0 qv.2 (some (.int qv.1))) ([.ref (X.2.2.1 + 370), .int a1, .int a2, .int a3, .int a4, .int a5] : List Value).toArray s 0 0 (wd_A X)) (F0 m 121 ls [.int z0, .int z1]) := by
        intro v7 v8 v9 z0 z1 D H locs ls hW hS hl h
        unfold f_X7_who_L121 at h
        refine lv_icmp_gt (tgt := 178) hx hb dX7_who_121 (by decide) (fun c14 => ?_) (fun c14 => ?_)
        · rw [if_pos c14] at h
          refine lv_aload_n hx hb dX7_who_178 rfl (lv_at hl 0 rfl) ?_
          refine lv_iload hx hb dX7_who_179 (lv_at hl 7 rfl) ?_
          obtain ⟨q15, eq15⟩ : ∃ q, q = f_X7_good v8 D := ⟨_, rfl⟩
          replace h := apR eq15 h
          refine wd_callVr (ci := 7) (k := 370) CF hE hW hS (x_X7_good l X v8 D eq15.symm) mi_X7_good vi_X7_good tw828 ⟨by decide, rfl⟩ sh_370 ⟨rfl, rfl, Nat.le_of_ble_eq_true rfl, Nat.le_of_ble_eq_true rfl⟩ rfl hl.1 rfl (Nat.le_of_ble_eq_true rfl) dX7_who_181 ⟨Nat.le_of_ble_eq_true rfl, Nat.le_of_ble_eq_true rfl⟩ (fun H locs hW hS => ?_)
          have h := Option.some.inj h
          subst h
          exact wd_iret CF hret hlk hW hS dX7_who_184
        · rw [if_neg c14] at h
          refine lv_aload_n hx hb dX7_who_124 rfl (lv_at hl 0 rfl) ?_
          obtain ⟨q16, eq16, h⟩ := bdE h
          refine wd_callVv (ci := 7) (k := 370) CF hE hW hS (x_X7_tries l X D eq16) mi_X7_tries vi_X7_tries tw1004 ⟨by decide, rfl⟩ sh_370 ⟨rfl, rfl, Nat.le_of_ble_eq_true rfl, Nat.le_of_ble_eq_true rfl⟩ rfl hl.1 rfl (Nat.le_of_ble_eq_true rfl) dX7_who_125 ⟨Nat.le_of_ble_eq_true rfl, Nat.le_of_ble_eq_true rfl⟩ (fun H locs hW hS => ?_)
          refine lv_aload_n hx hb dX7_who_128 rfl (lv_at hl 0 rfl) ?_
          refine wd_getR CF hE hW fl_X7_7 sh_370 rf_370_0 rfl dX7_who_129 ?_
          refine lv_sipush (v := 189) hx hb dX7_who_132 (by decide) ?_
          refine lv_iload hx hb dX7_who_135 (lv_at hl 6 rfl) ?_
          refine lv_iadd hx hb dX7_who_137 ?_
          refine lv_iload_n hx hb dX7_who_138 rfl (lv_at hl 1 rfl) ?_
          refine lv_iadd hx hb dX7_who_139 ?_
          refine lv_iload hx hb dX7_who_140 (lv_at hl 8 rfl) ?_
          obtain ⟨D17, eD17, h⟩ := bdE h
          refine wd_iast CF hE hW hS sh_371 eD17 dX7_who_142 (fun H locs hW hS => ?_)
          refine lv_iload hx hb dX7_who_143 (lv_at hl 7 rfl) ?_
          refine lv_aload_n hx hb dX7_who_145 rfl (lv_at hl 0 rfl) ?_
          refine lv_bipush (v := 40) hx hb dX7_who_146 (by decide) ?_
          refine lv_iload_n hx hb dX7_who_148 rfl (lv_at hl 3 rfl) ?_
          refine lv_imul hx hb dX7_who_149 ?_
          refine lv_iload hx hb dX7_who_150 (lv_at hl 4 rfl) ?_
          refine lv_iadd hx hb dX7_who_152 ?_
          refine lv_iload hx hb dX7_who_153 (lv_at hl 5 rfl) ?_
          obtain ⟨q18, eq18, h⟩ := bdE h
          refine wd_callVr (ci := 7) (k := 370) CF hE hW hS (x_X7_isSo l X ((40 * a3) + a4) a5 D17 eq18) mi_X7_isSo vi_X7_isSo tw1072 ⟨by decide, rfl⟩ sh_370 ⟨rfl, rfl, Nat.le_of_ble_eq_true rfl, Nat.le_of_ble_eq_true rfl⟩ rfl hl.1 rfl (Nat.le_of_ble_eq_true rfl) dX7_who_155 ⟨Nat.le_of_ble_eq_true rfl, Nat.le_of_ble_eq_true rfl⟩ (fun H locs hW hS => ?_)
          refine lv_if_eq (tgt := 168) hx hb dX7_who_158 (by decide) (fun c19 => ?_) (fun c19 => ?_)
          · rw [if_pos c19] at h
            refine lv_iconst (v := 0) hx hb dX7_who_168 (by decide) ?_
            exact hL169 v7 v9 0 v8 q18.2 _ _ _  hW hS (lv_sub hl [0, 1, 2, 3, 4, 5, 6, 8] rfl) h
          · rw [if_neg c19] at h
            refine lv_iconst (v := 1) hx hb dX7_who_161 (by decide) ?_
            refine lv_iload hx hb dX7_who_162 (lv_at hl 8 rfl) ?_
            refine lv_ishl hx hb dX7_who_164 ?_
            refine lv_goto (tgt := 169) hx hb dX7_who_165 (by decide) ?_
            exact hL169 v7 v9 ((1 : Int32) <<< (v9 &&& 31)) v8 q18.2 _ _ _  hW hS (lv_sub hl [0, 1, 2, 3, 4, 5, 6, 8] rfl) h
      intro v7 v8 v9 D H locs ls hW hS hl h
      rw [f_X7_who_L109] at h
      refine lv_iload hx hb dX7_who_109 (lv_at hl 8 rfl) ?_
      refine lv_iload_n hx hb dX7_who_111 rfl (lv_at hl 2 rfl) ?_
      refine lv_if_ne (tgt := 119) hx hb dX7_who_112 (by decide) (fun c13 => ?_) (fun c13 => ?_)
      · rw [if_neg c13] at h
        refine lv_bipush (v := 9) hx hb dX7_who_119 (by decide) ?_
        exact hL121 v7 v8 v9 9 v9 D _ _ _  hW hS (lv_sub hl [0, 1, 2, 3, 4, 5, 6, 7, 8] rfl) h
      · rw [if_pos c13] at h
        refine lv_iconst (v := 5) hx hb dX7_who_115 (by decide) ?_
        refine lv_goto (tgt := 121) hx hb dX7_who_116 (by decide) ?_
        exact hL121 v7 v8 v9 5 v9 D _ _ _  hW hS (lv_sub hl [0, 1, 2, 3, 4, 5, 6, 7, 8] rfl) h
  have hL107 : ∀ (v7 : Int32) (v8 : Int32) (z0 : Int32) (D : wd_D) (H : Heap) (locs : List Loc) (ls : Array Slot), Wd X S0 D H → va_S (wd_A X) s.heap H locs → lv_has ls 10 [(0, .ref (X.2.2.1 + 370)), (1, .int a1), (2, .int a2), (3, .int a3), (4, .int a4), (5, .int a5), (7, .int v7), (8, .int v8)] → f_X7_who_L107 a1 a2 a3 a4 a5 v7 v8 z0 D = some qv → W p l e ({ frames := 5, cells := 0, slots := 0, locals := 500 }) s m ([.ref (X.2.2.1 + 370), .int a1, .int a2, .int a3, .int a4, .int a5] : List Value).toArray below meth c H locs 0 0 (MQ below (wd_Q X S0 qv.2 (some (.int qv.1))) ([.ref (X.2.2.1 + 370), .int a1, .int a2, .int a3, .int a4, .int a5] : List Value).toArray s 0 0 (wd_A X)) (F0 m 107 ls [.int z0]) := by
    intro v7 v8 z0 D H locs ls hW hS hl h
    unfold f_X7_who_L107 at h
    refine lv_istore (lv' := [(9, .int z0), (0, .ref (X.2.2.1 + 370)), (1, .int a1), (2, .int a2), (3, .int a3), (4, .int a4), (5, .int a5), (7, .int v7), (8, .int v8)]) hx hb dX7_who_107 hl (by decide) rfl (fun ls hl => ?_)
    exact hL109 FU v7 v8 z0 D _ _ _  hW hS (lv_sub hl [1, 2, 3, 4, 5, 6, 7, 8, 0] rfl) h
  have hL92 : ∀ (z0 : Int32) (D : wd_D) (H : Heap) (locs : List Loc) (ls : Array Slot), Wd X S0 D H → va_S (wd_A X) s.heap H locs → lv_has ls 10 [(0, .ref (X.2.2.1 + 370)), (1, .int a1), (2, .int a2), (3, .int a3), (4, .int a4), (5, .int a5)] → f_X7_who_L92 a1 a2 a3 a4 a5 z0 D = some qv → W p l e ({ frames := 5, cells := 0, slots := 0, locals := 500 }) s m ([.ref (X.2.2.1 + 370), .int a1, .int a2, .int a3, .int a4, .int a5] : List Value).toArray below meth c H locs 0 0 (MQ below (wd_Q X S0 qv.2 (some (.int qv.1))) ([.ref (X.2.2.1 + 370), .int a1, .int a2, .int a3, .int a4, .int a5] : List Value).toArray s 0 0 (wd_A X)) (F0 m 92 ls [.int z0]) := by
    intro z0 D H locs ls hW hS hl h
    unfold f_X7_who_L92 at h
    refine lv_istore (lv' := [(7, .int z0), (0, .ref (X.2.2.1 + 370)), (1, .int a1), (2, .int a2), (3, .int a3), (4, .int a4), (5, .int a5)]) hx hb dX7_who_92 hl (by decide) rfl (fun ls hl => ?_)
    refine lv_iconst (v := 0) hx hb dX7_who_94 (by decide) ?_
    refine lv_istore (lv' := [(8, .int 0), (7, .int z0), (0, .ref (X.2.2.1 + 370)), (1, .int a1), (2, .int a2), (3, .int a3), (4, .int a4), (5, .int a5)]) hx hb dX7_who_95 hl (by decide) rfl (fun ls hl => ?_)
    refine lv_iload_n hx hb dX7_who_97 rfl (lv_at hl 4 rfl) ?_
    refine lv_iconst (v := 2) hx hb dX7_who_98 (by decide) ?_
    refine lv_icmp_ge (tgt := 106) hx hb dX7_who_99 (by decide) (fun c12 => ?_) (fun c12 => ?_)
    · rw [if_pos c12] at h
      refine lv_iconst (v := 0) hx hb dX7_who_106 (by decide) ?_
      exact hL107 z0 0 0 D _ _ _  hW hS (lv_sub hl [2, 3, 4, 5, 6, 7, 1, 0] rfl) h
    · rw [if_neg c12] at h
      refine lv_iconst (v := 1) hx hb dX7_who_102 (by decide) ?_
      refine lv_goto (tgt := 107) hx hb dX7_who_103 (by decide) ?_
      exact hL107 z0 0 1 D _ _ _  hW hS (lv_sub hl [2, 3, 4, 5, 6, 7, 1, 0] rfl) h
  refine lv_aload_n hx hb dX7_who_0 rfl (lv_at hl 0 rfl) ?_
  refine lv_iload_n hx hb dX7_who_1 rfl (lv_at hl 1 rfl) ?_
  obtain ⟨x1, ex1, h⟩ := bdE h
  refine wd_callVr (ci := 7) (k := 370) CF hE hW hS (x_X7_isChild l X a1 D ex1) mi_X7_isChild vi_X7_isChild tw955 ⟨by decide, rfl⟩ sh_370 ⟨rfl, rfl, Nat.le_of_ble_eq_true rfl, Nat.le_of_ble_eq_true rfl⟩ rfl hl.1 rfl (Nat.le_of_ble_eq_true rfl) dX7_who_2 ⟨Nat.le_of_ble_eq_true rfl, Nat.le_of_ble_eq_true rfl⟩ (fun H locs hW hS => ?_)
  refine lv_if_eq (tgt := 40) hx hb dX7_who_5 (by decide) (fun c2 => ?_) (fun c2 => ?_)
  · rw [if_pos c2] at h
    refine lv_ldc (v := (-1000001)) hx hb hown (hts _ tw822) dX7_who_40 ?_
    have h := Option.some.inj h
    subst h
    exact wd_iret CF hret hlk hW hS dX7_who_42
  · rw [if_neg c2] at h
    refine lv_iload_n hx hb dX7_who_8 rfl (lv_at hl 2 rfl) ?_
    refine lv_i2l hx hb dX7_who_9 rfl ?_
    refine lv_lconst (v := 0) hx hb dX7_who_10 (by decide) ?_
    refine lv_ldc2 (v := 3) hx hb hown (hts _ tw1066) dX7_who_11 ?_
    refine wd_callSr CF hE hW hS (x_X7_in l X a2.toInt64 0 3 D) mi_X7_in vi_X7_in tw818 ⟨rfl, rfl, Nat.le_of_ble_eq_true rfl, Nat.le_of_ble_eq_true rfl⟩ rfl hl.1 rfl (Nat.le_of_ble_eq_true rfl) dX7_who_14 ⟨Nat.le_of_ble_eq_true rfl, Nat.le_of_ble_eq_true rfl⟩ (fun H locs hW hS => ?_)
    refine lv_if_eq (tgt := 40) hx hb dX7_who_17 (by decide) (fun c3 => ?_) (fun c3 => ?_)
    · rw [if_pos c3] at h
      refine lv_ldc (v := (-1000001)) hx hb hown (hts _ tw822) dX7_who_40 ?_
      have h := Option.some.inj h
      subst h
      exact wd_iret CF hret hlk hW hS dX7_who_42
    · rw [if_neg c3] at h
      refine lv_iload_n hx hb dX7_who_20 rfl (lv_at hl 3 rfl) ?_
      refine wd_callSr CF hE hW hS (x_X7_isRow l X a3 D) mi_X7_isRow vi_X7_isRow tw814 ⟨rfl, rfl, Nat.le_of_ble_eq_true rfl, Nat.le_of_ble_eq_true rfl⟩ rfl hl.1 rfl (Nat.le_of_ble_eq_true rfl) dX7_who_21 ⟨Nat.le_of_ble_eq_true rfl, Nat.le_of_ble_eq_true rfl⟩ (fun H locs hW hS => ?_)
      refine lv_if_eq (tgt := 40) hx hb dX7_who_24 (by decide) (fun c4 => ?_) (fun c4 => ?_)
      · rw [if_pos c4] at h
        refine lv_ldc (v := (-1000001)) hx hb hown (hts _ tw822) dX7_who_40 ?_
        have h := Option.some.inj h
        subst h
        exact wd_iret CF hret hlk hW hS dX7_who_42
      · rw [if_neg c4] at h
        refine lv_iload hx hb dX7_who_27 (lv_at hl 5 rfl) ?_
        refine lv_i2l hx hb dX7_who_29 rfl ?_
        refine lv_lconst (v := 1) hx hb dX7_who_30 (by decide) ?_
        refine lv_ldc2 (v := 12) hx hb hown (hts _ tw1067) dX7_who_31 ?_
        refine wd_callSr CF hE hW hS (x_X7_in l X a5.toInt64 1 12 D) mi_X7_in vi_X7_in tw818 ⟨rfl, rfl, Nat.le_of_ble_eq_true rfl, Nat.le_of_ble_eq_true rfl⟩ rfl hl.1 rfl (Nat.le_of_ble_eq_true rfl) dX7_who_34 ⟨Nat.le_of_ble_eq_true rfl, Nat.le_of_ble_eq_true rfl⟩ (fun H locs hW hS => ?_)
        refine lv_if_ne (tgt := 43) hx hb dX7_who_37 (by decide) (fun c5 => ?_) (fun c5 => ?_)
        · rw [if_neg c5] at h
          refine lv_aload_n hx hb dX7_who_43 rfl (lv_at hl 0 rfl) ?_
          refine lv_iload_n hx hb dX7_who_44 rfl (lv_at hl 3 rfl) ?_
          refine lv_iload hx hb dX7_who_45 (lv_at hl 4 rfl) ?_
          refine lv_iload hx hb dX7_who_47 (lv_at hl 5 rfl) ?_
          obtain ⟨q6, eq6, h⟩ := bdE h
          refine wd_callVr (ci := 7) (k := 370) CF hE hW hS (x_X7_against l X a3 a4 a5 D eq6) mi_X7_against vi_X7_against tw1068 ⟨by decide, rfl⟩ sh_370 ⟨rfl, rfl, Nat.le_of_ble_eq_true rfl, Nat.le_of_ble_eq_true rfl⟩ rfl hl.1 rfl (Nat.le_of_ble_eq_true rfl) dX7_who_49 ⟨Nat.le_of_ble_eq_true rfl, Nat.le_of_ble_eq_true rfl⟩ (fun H locs hW hS => ?_)
          refine lv_topi (fun x7 ex7 => ?_)
          replace h := apR ex7 h
          refine lv_istore (lv' := [(6, .int x7), (0, .ref (X.2.2.1 + 370)), (1, .int a1), (2, .int a2), (3, .int a3), (4, .int a4), (5, .int a5)]) hx hb dX7_who_52 hl (by decide) rfl (fun ls hl => ?_)
          refine lv_iload hx hb dX7_who_54 (lv_at hl 0 rfl) ?_
          refine lv_if_ge (tgt := 62) hx hb dX7_who_56 (by decide) (fun c8 => ?_) (fun c8 => ?_)
          · rw [if_pos c8] at h
            refine lv_iload_n hx hb dX7_who_62 rfl (lv_at hl 3 rfl) ?_
            refine lv_if_ne (tgt := 71) hx hb dX7_who_63 (by decide) (fun c9 => ?_) (fun c9 => ?_)
            · rw [if_neg c9] at h
              refine lv_iload_n hx hb dX7_who_71 rfl (lv_at hl 3 rfl) ?_
              refine lv_iconst (v := 1) hx hb dX7_who_72 (by decide) ?_
              refine lv_icmp_ne (tgt := 80) hx hb dX7_who_73 (by decide) (fun c10 => ?_) (fun c10 => ?_)
              · rw [if_neg c10] at h
                refine lv_iload_n hx hb dX7_who_80 rfl (lv_at hl 3 rfl) ?_
                refine lv_iconst (v := 2) hx hb dX7_who_81 (by decide) ?_
                refine lv_icmp_ne (tgt := 90) hx hb dX7_who_82 (by decide) (fun c11 => ?_) (fun c11 => ?_)
                · rw [if_neg c11] at h
                  refine lv_bipush (v := 56) hx hb dX7_who_90 (by decide) ?_
                  exact hL92 56 q6.2 _ _ _  hW hS (lv_sub hl [1, 2, 3, 4, 5, 6] rfl) h
                · rw [if_pos c11] at h
                  refine lv_bipush (v := 49) hx hb dX7_who_85 (by decide) ?_
                  refine lv_goto (tgt := 92) hx hb dX7_who_87 (by decide) ?_
                  exact hL92 49 q6.2 _ _ _  hW hS (lv_sub hl [1, 2, 3, 4, 5, 6] rfl) h
              · rw [if_pos c10] at h
                refine lv_iconst (v := 1) hx hb dX7_who_76 (by decide) ?_
                refine lv_goto (tgt := 92) hx hb dX7_who_77 (by decide) ?_
                exact hL92 1 q6.2 _ _ _  hW hS (lv_sub hl [1, 2, 3, 4, 5, 6] rfl) h
            · rw [if_pos c9] at h
              refine lv_bipush (v := 42) hx hb dX7_who_66 (by decide) ?_
              refine lv_goto (tgt := 92) hx hb dX7_who_68 (by decide) ?_
              exact hL92 42 q6.2 _ _ _  hW hS (lv_sub hl [1, 2, 3, 4, 5, 6] rfl) h
          · rw [if_neg c8] at h
            refine lv_iload hx hb dX7_who_59 (lv_at hl 0 rfl) ?_
            have h := Option.some.inj h
            subst h
            exact wd_iret CF hret hlk hW hS dX7_who_61
        · rw [if_pos c5] at h
          refine lv_ldc (v := (-1000001)) hx hb hown (hts _ tw822) dX7_who_40 ?_
          have h := Option.some.inj h
          subst h
          exact wd_iret CF hret hlk hW hS dX7_who_42
def f_X7_held_L134 (k79 : Int32 → Int32 → Int32 → Int32 → Int32 → wd_D → Option (Int32 × wd_D)) (a1 : Int32) (a2 : Int32) (a3 : Int32) (v6 : Int32) (z0 : Int32) (z1 : Int32) (D : wd_D) : Option (Int32 × wd_D) := ap (z1 ||| z0) (fun x19 => ap (v6 + 1) (fun x20 => k79 a1 a2 a3 x19 x20 D))
def f_X7_held_L79  : Nat → Int32 → Int32 → Int32 → Int32 → Int32 → wd_D → Option (Int32 × wd_D)
  | 0, _, _, _, _, _, _ => none
  | n + 1, a1, a2, a3, v5, v6, D => (rd 252 D 371 41).bind (fun x11 => (if x11 ≤ v6 then ap (f_X7_good v5 D) (fun q13 => some (q13.1, q13.2)) else (f_X7_tries D).bind (fun q14 => (rd 252 q14 371 226).bind (fun x15 => (wr 252 q14 371 226 (x15 ||| ((1 : Int32) <<< (v6 &&& 31)))).bind (fun D16 => (f_X7_isSo ((40 * a1) + a2) a3 D16).bind (fun q17 => (if q17.1 = 0 then f_X7_held_L134 (f_X7_held_L79 n) a1 a2 a3 v6 0 v5 q17.2 else f_X7_held_L134 (f_X7_held_L79 n) a1 a2 a3 v6 ((1 : Int32) <<< (v6 &&& 31)) v5 q17.2)))))))
def f_X7_held_L74  (a1 : Int32) (a2 : Int32) (a3 : Int32) (z0 : Int32) (D : wd_D) : Option (Int32 × wd_D) := f_X7_held_L79 FU a1 a2 a3 z0 0 D
def f_X7_held (a1 : Int32) (a2 : Int32) (a3 : Int32) (D : wd_D) : Option (Int32 × wd_D) := (f_X7_isRoom D).bind (fun x1 => (if x1 = 0 then some ((-1000002), D) else (if (f_X7_isRow a1) = 0 then some ((-1000001), D) else (if (f_X7_in a3.toInt64 1 12) = 0 then some ((-1000001), D) else (f_X7_against a1 a2 a3 D).bind (fun q5 => ap q5.1 (fun x6 => (if 0 ≤ x6 then (f_X7_tries q5.2).bind (fun q8 => (f_X7_isSo ((40 * a1) + a2) a3 q8).bind (fun q9 => (if q9.1 = 0 then f_X7_held_L74 a1 a2 a3 0 q9.2 else f_X7_held_L74 a1 a2 a3 128 q9.2))) else some (x6, q5.2))))))))
set_option maxHeartbeats 4000000 in
set_option maxRecDepth 100000 in
theorem x_X7_held (l : Launch) (X : wd_X) (a1 : Int32) (a2 : Int32) (a3 : Int32) (D : wd_D) {qv : Int32 × wd_D} (h : f_X7_held a1 a2 a3 D = some qv) : wd_Met l X yX7_held cX7_held 7 (some FieldType.int) ({ frames := 5, cells := 0, slots := 0, locals := 500 }) S0 S0 ([.ref (X.2.2.1 + 370), .int a1, .int a2, .int a3] : List Value) D qv.2 (some (.int qv.1)) 0 0 := by
  refine wd_enter (by decide) (Nat.le_of_ble_eq_true rfl) ?_
  intro p e s m below meth c CF hret hlk hnm hW hE ls hl
  have CF : CallFix p m c cX7_held 7 s ([.ref (X.2.2.1 + 370), .int a1, .int a2, .int a3] : List Value).toArray tg RX7 := CF
  have hx := CF.1
  have hb := CF.2.1
  have hown := CF.2.2.2.1
  have hts := CF.2.2.2.2
  have hS : va_S (wd_A X) s.heap s.heap [] := va_S.rf
  have hl : lv_has ls 7 [(0, .ref (X.2.2.1 + 370)), (1, .int a1), (2, .int a2), (3, .int a3)] := hl
  unfold f_X7_held at h
  have hL79 : ∀ (n79 : Nat) (v5 : Int32) (v6 : Int32) (D : wd_D) (H : Heap) (locs : List Loc) (ls : Array Slot), Wd X S0 D H → va_S (wd_A X) s.heap H locs → lv_has ls 7 [(0, .ref (X.2.2.1 + 370)), (1, .int a1), (2, .int a2), (3, .int a3), (5, .int v5), (6, .int v6)] → f_X7_held_L79 n79 a1 a2 a3 v5 v6 D = some qv → W p l e ({ frames := 5, cells := 0, slots := 0, locals := 500 }) s m ([.ref (X.2.2.1 + 370), .int a1, .int a2, .int a3] : List Value).toArray below meth c H locs 0 0 (MQ below (wd_Q X S0 qv.2 (some (.int qv.1))) ([.ref (X.2.2.1 + 370), .int a1, .int a2, .int a3] : List Value).toArray s 0 0 (wd_A X)) (F0 m 79 ls []) := by
    intro n79
    induction n79 with
    | zero => intro v5 v6 D H locs ls hW hS hl h; cases h
    | succ n79 ih79 =>
      have hL134 : ∀ (v6 : Int32) (z0 : Int32) (z1 : Int32) (D : wd_D) (H : Heap) (locs : List Loc) (ls : Array Slot), Wd X S0 D H → va_S (wd_A X) s.heap H locs → lv_has ls 7 [(0, .ref (X.2.2.1 + 370)), (1, .int a1), (2, .int a2), (3, .int a3), (6, .int v6)] → f_X7_held_L134 (f_X7_held_L79 n79) a1 a2 a3 v6 z0 z1 D = some qv → W p l e ({ frames := 5, cells := 0, slots := 0, locals := 500 }) s m ([.ref (X.2.2.1 + 370), .int a1, .int a2, .int a3] : List Value).toArray below meth c H locs 0 0 (MQ below (wd_Q X S0 qv.2 (some (.int qv.1))) ([.ref (X.2.2.1 + 370), .int a1, .int a2, .int a3] : List Value).toArray s 0 0 (wd_A X)) (F0 m 134 ls [.int z0, .int z1]) := by
        intro v6 z0 z1 D H locs ls hW hS hl h
        unfold f_X7_held_L134 at h
        refine lv_ior hx hb dX7_held_134 ?_
        refine lv_topi (fun x19 ex19 => ?_)
        replace h := apR ex19 h
        refine lv_istore (lv' := [(5, .int x19), (0, .ref (X.2.2.1 + 370)), (1, .int a1), (2, .int a2), (3, .int a3), (6, .int v6)]) hx hb dX7_held_135 hl (by decide) rfl (fun ls hl => ?_)
        obtain ⟨x20, ex20⟩ : ∃ y : Int32, y = v6 + 1 := ⟨_, rfl⟩
        replace h := apR ex20 h
        refine lv_iinc (v := x20) (lv' := [(6, .int x20), (5, .int x19), (0, .ref (X.2.2.1 + 370)), (1, .int a1), (2, .int a2), (3, .int a3)]) hx hb dX7_held_137 hl (k := 5) rfl (by rw [ex20]; rfl) (by decide) rfl (fun ls hl => ?_)
        refine lv_goto (tgt := 79) hx hb dX7_held_140 (by decide) ?_
        exact ih79 x19 x20 D _ _ _  hW hS (lv_sub hl [2, 3, 4, 5, 1, 0] rfl) h
      intro v5 v6 D H locs ls hW hS hl h
      rw [f_X7_held_L79] at h
      refine lv_iload hx hb dX7_held_79 (lv_at hl 5 rfl) ?_
      refine lv_aload_n hx hb dX7_held_81 rfl (lv_at hl 0 rfl) ?_
      refine wd_getR CF hE hW fl_X7_7 sh_370 rf_370_0 rfl dX7_held_82 ?_
      refine lv_bipush (v := 41) hx hb dX7_held_85 (by decide) ?_
      obtain ⟨x11, ex11, h⟩ := bdE h
      refine wd_iald CF hE hW sh_371 ex11 dX7_held_87 ?_
      refine lv_icmp_ge (tgt := 143) hx hb dX7_held_88 (by decide) (fun c12 => ?_) (fun c12 => ?_)
      · rw [if_pos c12] at h
        refine lv_aload_n hx hb dX7_held_143 rfl (lv_at hl 0 rfl) ?_
        refine lv_iload hx hb dX7_held_144 (lv_at hl 4 rfl) ?_
        obtain ⟨q13, eq13⟩ : ∃ q, q = f_X7_good v5 D := ⟨_, rfl⟩
        replace h := apR eq13 h
        refine wd_callVr (ci := 7) (k := 370) CF hE hW hS (x_X7_good l X v5 D eq13.symm) mi_X7_good vi_X7_good tw828 ⟨by decide, rfl⟩ sh_370 ⟨rfl, rfl, Nat.le_of_ble_eq_true rfl, Nat.le_of_ble_eq_true rfl⟩ rfl hl.1 rfl (Nat.le_of_ble_eq_true rfl) dX7_held_146 ⟨Nat.le_of_ble_eq_true rfl, Nat.le_of_ble_eq_true rfl⟩ (fun H locs hW hS => ?_)
        have h := Option.some.inj h
        subst h
        exact wd_iret CF hret hlk hW hS dX7_held_149
      · rw [if_neg c12] at h
        refine lv_aload_n hx hb dX7_held_91 rfl (lv_at hl 0 rfl) ?_
        obtain ⟨q14, eq14, h⟩ := bdE h
        refine wd_callVv (ci := 7) (k := 370) CF hE hW hS (x_X7_tries l X D eq14) mi_X7_tries vi_X7_tries tw1004 ⟨by decide, rfl⟩ sh_370 ⟨rfl, rfl, Nat.le_of_ble_eq_true rfl, Nat.le_of_ble_eq_true rfl⟩ rfl hl.1 rfl (Nat.le_of_ble_eq_true rfl) dX7_held_92 ⟨Nat.le_of_ble_eq_true rfl, Nat.le_of_ble_eq_true rfl⟩ (fun H locs hW hS => ?_)
        refine lv_aload_n hx hb dX7_held_95 rfl (lv_at hl 0 rfl) ?_
        refine wd_getR CF hE hW fl_X7_7 sh_370 rf_370_0 rfl dX7_held_96 ?_
        refine lv_sipush (v := 226) hx hb dX7_held_99 (by decide) ?_
        refine lv_dup2_11 hx hb dX7_held_102 rfl rfl ?_
        obtain ⟨x15, ex15, h⟩ := bdE h
        refine wd_iald CF hE hW sh_371 ex15 dX7_held_103 ?_
        refine lv_iconst (v := 1) hx hb dX7_held_104 (by decide) ?_
        refine lv_iload hx hb dX7_held_105 (lv_at hl 5 rfl) ?_
        refine lv_ishl hx hb dX7_held_107 ?_
        refine lv_ior hx hb dX7_held_108 ?_
        obtain ⟨D16, eD16, h⟩ := bdE h
        refine wd_iast CF hE hW hS sh_371 eD16 dX7_held_109 (fun H locs hW hS => ?_)
        refine lv_iload hx hb dX7_held_110 (lv_at hl 4 rfl) ?_
        refine lv_aload_n hx hb dX7_held_112 rfl (lv_at hl 0 rfl) ?_
        refine lv_bipush (v := 40) hx hb dX7_held_113 (by decide) ?_
        refine lv_iload_n hx hb dX7_held_115 rfl (lv_at hl 1 rfl) ?_
        refine lv_imul hx hb dX7_held_116 ?_
        refine lv_iload_n hx hb dX7_held_117 rfl (lv_at hl 2 rfl) ?_
        refine lv_iadd hx hb dX7_held_118 ?_
        refine lv_iload_n hx hb dX7_held_119 rfl (lv_at hl 3 rfl) ?_
        obtain ⟨q17, eq17, h⟩ := bdE h
        refine wd_callVr (ci := 7) (k := 370) CF hE hW hS (x_X7_isSo l X ((40 * a1) + a2) a3 D16 eq17) mi_X7_isSo vi_X7_isSo tw1072 ⟨by decide, rfl⟩ sh_370 ⟨rfl, rfl, Nat.le_of_ble_eq_true rfl, Nat.le_of_ble_eq_true rfl⟩ rfl hl.1 rfl (Nat.le_of_ble_eq_true rfl) dX7_held_120 ⟨Nat.le_of_ble_eq_true rfl, Nat.le_of_ble_eq_true rfl⟩ (fun H locs hW hS => ?_)
        refine lv_if_eq (tgt := 133) hx hb dX7_held_123 (by decide) (fun c18 => ?_) (fun c18 => ?_)
        · rw [if_pos c18] at h
          refine lv_iconst (v := 0) hx hb dX7_held_133 (by decide) ?_
          exact hL134 v6 0 v5 q17.2 _ _ _  hW hS (lv_sub hl [0, 1, 2, 3, 5] rfl) h
        · rw [if_neg c18] at h
          refine lv_iconst (v := 1) hx hb dX7_held_126 (by decide) ?_
          refine lv_iload hx hb dX7_held_127 (lv_at hl 5 rfl) ?_
          refine lv_ishl hx hb dX7_held_129 ?_
          refine lv_goto (tgt := 134) hx hb dX7_held_130 (by decide) ?_
          exact hL134 v6 ((1 : Int32) <<< (v6 &&& 31)) v5 q17.2 _ _ _  hW hS (lv_sub hl [0, 1, 2, 3, 5] rfl) h
  have hL74 : ∀ (z0 : Int32) (D : wd_D) (H : Heap) (locs : List Loc) (ls : Array Slot), Wd X S0 D H → va_S (wd_A X) s.heap H locs → lv_has ls 7 [(0, .ref (X.2.2.1 + 370)), (1, .int a1), (2, .int a2), (3, .int a3)] → f_X7_held_L74 a1 a2 a3 z0 D = some qv → W p l e ({ frames := 5, cells := 0, slots := 0, locals := 500 }) s m ([.ref (X.2.2.1 + 370), .int a1, .int a2, .int a3] : List Value).toArray below meth c H locs 0 0 (MQ below (wd_Q X S0 qv.2 (some (.int qv.1))) ([.ref (X.2.2.1 + 370), .int a1, .int a2, .int a3] : List Value).toArray s 0 0 (wd_A X)) (F0 m 74 ls [.int z0]) := by
    intro z0 D H locs ls hW hS hl h
    unfold f_X7_held_L74 at h
    refine lv_istore (lv' := [(5, .int z0), (0, .ref (X.2.2.1 + 370)), (1, .int a1), (2, .int a2), (3, .int a3)]) hx hb dX7_held_74 hl (by decide) rfl (fun ls hl => ?_)
    refine lv_iconst (v := 0) hx hb dX7_held_76 (by decide) ?_
    refine lv_istore (lv' := [(6, .int 0), (5, .int z0), (0, .ref (X.2.2.1 + 370)), (1, .int a1), (2, .int a2), (3, .int a3)]) hx hb dX7_held_77 hl (by decide) rfl (fun ls hl => ?_)
    exact hL79 FU z0 0 D _ _ _  hW hS (lv_sub hl [2, 3, 4, 5, 1, 0] rfl) h
  refine lv_aload_n hx hb dX7_held_0 rfl (lv_at hl 0 rfl) ?_
  obtain ⟨x1, ex1, h⟩ := bdE h
  refine wd_callVr (ci := 7) (k := 370) CF hE hW hS (x_X7_isRoom l X D ex1) mi_X7_isRoom vi_X7_isRoom tw904 ⟨by decide, rfl⟩ sh_370 ⟨rfl, rfl, Nat.le_of_ble_eq_true rfl, Nat.le_of_ble_eq_true rfl⟩ rfl hl.1 rfl (Nat.le_of_ble_eq_true rfl) dX7_held_1 ⟨Nat.le_of_ble_eq_true rfl, Nat.le_of_ble_eq_true rfl⟩ (fun H locs hW hS => ?_)
  refine lv_if_ne (tgt := 10) hx hb dX7_held_4 (by decide) (fun c2 => ?_) (fun c2 => ?_)
  · rw [if_neg c2] at h
    refine lv_iload_n hx hb dX7_held_10 rfl (lv_at hl 1 rfl) ?_
    refine wd_callSr CF hE hW hS (x_X7_isRow l X a1 D) mi_X7_isRow vi_X7_isRow tw814 ⟨rfl, rfl, Nat.le_of_ble_eq_true rfl, Nat.le_of_ble_eq_true rfl⟩ rfl hl.1 rfl (Nat.le_of_ble_eq_true rfl) dX7_held_11 ⟨Nat.le_of_ble_eq_true rfl, Nat.le_of_ble_eq_true rfl⟩ (fun H locs hW hS => ?_)
    refine lv_if_eq (tgt := 29) hx hb dX7_held_14 (by decide) (fun c3 => ?_) (fun c3 => ?_)
    · rw [if_pos c3] at h
      refine lv_ldc (v := (-1000001)) hx hb hown (hts _ tw822) dX7_held_29 ?_
      have h := Option.some.inj h
      subst h
      exact wd_iret CF hret hlk hW hS dX7_held_31
    · rw [if_neg c3] at h
      refine lv_iload_n hx hb dX7_held_17 rfl (lv_at hl 3 rfl) ?_
      refine lv_i2l hx hb dX7_held_18 rfl ?_
      refine lv_lconst (v := 1) hx hb dX7_held_19 (by decide) ?_
      refine lv_ldc2 (v := 12) hx hb hown (hts _ tw1067) dX7_held_20 ?_
      refine wd_callSr CF hE hW hS (x_X7_in l X a3.toInt64 1 12 D) mi_X7_in vi_X7_in tw818 ⟨rfl, rfl, Nat.le_of_ble_eq_true rfl, Nat.le_of_ble_eq_true rfl⟩ rfl hl.1 rfl (Nat.le_of_ble_eq_true rfl) dX7_held_23 ⟨Nat.le_of_ble_eq_true rfl, Nat.le_of_ble_eq_true rfl⟩ (fun H locs hW hS => ?_)
      refine lv_if_ne (tgt := 32) hx hb dX7_held_26 (by decide) (fun c4 => ?_) (fun c4 => ?_)
      · rw [if_neg c4] at h
        refine lv_aload_n hx hb dX7_held_32 rfl (lv_at hl 0 rfl) ?_
        refine lv_iload_n hx hb dX7_held_33 rfl (lv_at hl 1 rfl) ?_
        refine lv_iload_n hx hb dX7_held_34 rfl (lv_at hl 2 rfl) ?_
        refine lv_iload_n hx hb dX7_held_35 rfl (lv_at hl 3 rfl) ?_
        obtain ⟨q5, eq5, h⟩ := bdE h
        refine wd_callVr (ci := 7) (k := 370) CF hE hW hS (x_X7_against l X a1 a2 a3 D eq5) mi_X7_against vi_X7_against tw1068 ⟨by decide, rfl⟩ sh_370 ⟨rfl, rfl, Nat.le_of_ble_eq_true rfl, Nat.le_of_ble_eq_true rfl⟩ rfl hl.1 rfl (Nat.le_of_ble_eq_true rfl) dX7_held_36 ⟨Nat.le_of_ble_eq_true rfl, Nat.le_of_ble_eq_true rfl⟩ (fun H locs hW hS => ?_)
        refine lv_topi (fun x6 ex6 => ?_)
        replace h := apR ex6 h
        refine lv_istore (lv' := [(4, .int x6), (0, .ref (X.2.2.1 + 370)), (1, .int a1), (2, .int a2), (3, .int a3)]) hx hb dX7_held_39 hl (by decide) rfl (fun ls hl => ?_)
        refine lv_iload hx hb dX7_held_41 (lv_at hl 0 rfl) ?_
        refine lv_if_ge (tgt := 49) hx hb dX7_held_43 (by decide) (fun c7 => ?_) (fun c7 => ?_)
        · rw [if_pos c7] at h
          refine lv_aload_n hx hb dX7_held_49 rfl (lv_at hl 1 rfl) ?_
          obtain ⟨q8, eq8, h⟩ := bdE h
          refine wd_callVv (ci := 7) (k := 370) CF hE hW hS (x_X7_tries l X q5.2 eq8) mi_X7_tries vi_X7_tries tw1004 ⟨by decide, rfl⟩ sh_370 ⟨rfl, rfl, Nat.le_of_ble_eq_true rfl, Nat.le_of_ble_eq_true rfl⟩ rfl hl.1 rfl (Nat.le_of_ble_eq_true rfl) dX7_held_50 ⟨Nat.le_of_ble_eq_true rfl, Nat.le_of_ble_eq_true rfl⟩ (fun H locs hW hS => ?_)
          refine lv_aload_n hx hb dX7_held_53 rfl (lv_at hl 1 rfl) ?_
          refine lv_bipush (v := 40) hx hb dX7_held_54 (by decide) ?_
          refine lv_iload_n hx hb dX7_held_56 rfl (lv_at hl 2 rfl) ?_
          refine lv_imul hx hb dX7_held_57 ?_
          refine lv_iload_n hx hb dX7_held_58 rfl (lv_at hl 3 rfl) ?_
          refine lv_iadd hx hb dX7_held_59 ?_
          refine lv_iload_n hx hb dX7_held_60 rfl (lv_at hl 4 rfl) ?_
          obtain ⟨q9, eq9, h⟩ := bdE h
          refine wd_callVr (ci := 7) (k := 370) CF hE hW hS (x_X7_isSo l X ((40 * a1) + a2) a3 q8 eq9) mi_X7_isSo vi_X7_isSo tw1072 ⟨by decide, rfl⟩ sh_370 ⟨rfl, rfl, Nat.le_of_ble_eq_true rfl, Nat.le_of_ble_eq_true rfl⟩ rfl hl.1 rfl (Nat.le_of_ble_eq_true rfl) dX7_held_61 ⟨Nat.le_of_ble_eq_true rfl, Nat.le_of_ble_eq_true rfl⟩ (fun H locs hW hS => ?_)
          refine lv_if_eq (tgt := 73) hx hb dX7_held_64 (by decide) (fun c10 => ?_) (fun c10 => ?_)
          · rw [if_pos c10] at h
            refine lv_iconst (v := 0) hx hb dX7_held_73 (by decide) ?_
            exact hL74 0 q9.2 _ _ _  hW hS (lv_sub hl [1, 2, 3, 4] rfl) h
          · rw [if_neg c10] at h
            refine lv_sipush (v := 128) hx hb dX7_held_67 (by decide) ?_
            refine lv_goto (tgt := 74) hx hb dX7_held_70 (by decide) ?_
            exact hL74 128 q9.2 _ _ _  hW hS (lv_sub hl [1, 2, 3, 4] rfl) h
        · rw [if_neg c7] at h
          refine lv_iload hx hb dX7_held_46 (lv_at hl 0 rfl) ?_
          have h := Option.some.inj h
          subst h
          exact wd_iret CF hret hlk hW hS dX7_held_48
      · rw [if_pos c4] at h
        refine lv_ldc (v := (-1000001)) hx hb hown (hts _ tw822) dX7_held_29 ?_
        have h := Option.some.inj h
        subst h
        exact wd_iret CF hret hlk hW hS dX7_held_31
  · rw [if_pos c2] at h
    refine lv_ldc (v := (-1000002)) hx hb hown (hts _ tw899) dX7_held_7 ?_
    have h := Option.some.inj h
    subst h
    exact wd_iret CF hret hlk hW hS dX7_held_9
def f_X7_lorries_L209  : Nat → Int32 → Int32 → Int32 → Int32 → Int64 → Int64 → Int64 → Int64 → wd_D → Option (Int64 × wd_D)
  | 0, _, _, _, _, _, _, _, _, _ => none
  | n + 1, a1, a2, a3, a4, v5, v7, v9, v11, D => (if (lg_cmp v11 0) = 0 then (if a4 = 0 then (nzL v9).bind (fun x15 => some (v5 / v9, D)) else (nzL v9).bind (fun x14 => some (v7 / v9, D))) else (nzL v11).bind (fun x16 => ap (v9 - v9 / v11 * v11) (fun x17 => (f_X7_lorries_L209 n) a1 a2 a3 a4 v5 v7 v11 x17 D)))
def f_X7_lorries_L192 (k94 : Int32 → Int32 → Int32 → Int32 → Int64 → Int64 → Int32 → wd_D → Option (Int64 × wd_D)) (a1 : Int32) (a2 : Int32) (a3 : Int32) (a4 : Int32) (v7 : Int64) (v9 : Int32) (z0 : Int64) (z1 : Int64) (D : wd_D) : Option (Int64 × wd_D) := ap (z1 + z0) (fun x23 => ap (v9 + 1) (fun x24 => k94 a1 a2 a3 a4 x23 v7 x24 D))
def f_X7_lorries_L161 (k112 : Int32 → Int32 → Int32 → Int32 → Int64 → Int64 → Int32 → Int64 → Int32 → wd_D → Option (Int64 × wd_D)) (k94 : Int32 → Int32 → Int32 → Int32 → Int64 → Int64 → Int32 → wd_D → Option (Int64 × wd_D)) (a1 : Int32) (a2 : Int32) (a3 : Int32) (a4 : Int32) (v5 : Int64) (v7 : Int64) (v9 : Int32) (v10 : Int64) (v12 : Int32) (D : wd_D) : Option (Int64 × wd_D) := (f_X7_passes 189 D).bind (fun q28 => ap (v12 + 1) (fun x29 => k112 a1 a2 a3 a4 v5 v7 v9 v10 x29 q28))
def f_X7_lorries_L144 (k112 : Int32 → Int32 → Int32 → Int32 → Int64 → Int64 → Int32 → Int64 → Int32 → wd_D → Option (Int64 × wd_D)) (k94 : Int32 → Int32 → Int32 → Int32 → Int64 → Int64 → Int32 → wd_D → Option (Int64 × wd_D)) (a1 : Int32) (a2 : Int32) (a3 : Int32) (a4 : Int32) (v5 : Int64) (v7 : Int64) (v9 : Int32) (v12 : Int32) (v13 : Int32) (z0 : Int64) (z1 : Int64) (D : wd_D) : Option (Int64 × wd_D) := ap (z1 * z0) (fun x25 => (if v13 = 0 then f_X7_lorries_L161 k112 k94 a1 a2 a3 a4 v5 v7 v9 x25 v12 D else (f_X7_rolls 189 a1 D).bind (fun q27 => f_X7_lorries_L161 k112 k94 a1 a2 a3 a4 v5 v7 v9 x25 v12 q27.2)))
def f_X7_lorries_L112 (k94 : Int32 → Int32 → Int32 → Int32 → Int64 → Int64 → Int32 → wd_D → Option (Int64 × wd_D)) : Nat → Int32 → Int32 → Int32 → Int32 → Int64 → Int64 → Int32 → Int64 → Int32 → wd_D → Option (Int64 × wd_D)
  | 0, _, _, _, _, _, _, _, _, _, _ => none
  | n + 1, a1, a2, a3, a4, v5, v7, v9, v10, v12, D => (if a2 ≤ v12 then (f_X7_allSleep 189 D).bind (fun x19 => (if x19 = 0 then f_X7_lorries_L192 k94 a1 a2 a3 a4 v7 v9 0 v5 D else f_X7_lorries_L192 k94 a1 a2 a3 a4 v7 v9 v10 v5 D)) else ap (f_X7_has v9 v12) (fun x21 => (if x21 = 0 then f_X7_lorries_L144 (f_X7_lorries_L112 k94 n) k94 a1 a2 a3 a4 v5 v7 v9 v12 x21 ((10 - a3).toInt64) v10 D else f_X7_lorries_L144 (f_X7_lorries_L112 k94 n) k94 a1 a2 a3 a4 v5 v7 v9 v12 x21 a3.toInt64 v10 D)))
def f_X7_lorries_L94  : Nat → Int32 → Int32 → Int32 → Int32 → Int64 → Int64 → Int32 → wd_D → Option (Int64 × wd_D)
  | 0, _, _, _, _, _, _, _, _ => none
  | n + 1, a1, a2, a3, a4, v5, v7, v9, D => (if ((1 : Int32) <<< (a2 &&& 31)) ≤ v9 then f_X7_lorries_L209 FU a1 a2 a3 a4 v5 v7 v5 v7 D else (f_X7_tries D).bind (fun q11 => f_X7_lorries_L112 (f_X7_lorries_L94 n) FU a1 a2 a3 a4 v5 v7 v9 1 0 q11))
def f_X7_lorries_L71  : Nat → Int32 → Int32 → Int32 → Int32 → Int64 → Int64 → Int32 → wd_D → Option (Int64 × wd_D)
  | 0, _, _, _, _, _, _, _, _ => none
  | n + 1, a1, a2, a3, a4, v5, v7, v9, D => (if a2 ≤ v9 then f_X7_lorries_L94 FU a1 a2 a3 a4 v5 v7 0 D else ap (v7 * 10) (fun x8 => ap (v9 + 1) (fun x9 => (f_X7_lorries_L71 n) a1 a2 a3 a4 v5 x8 x9 D)))
def f_X7_lorries (a1 : Int32) (a2 : Int32) (a3 : Int32) (a4 : Int32) (D : wd_D) : Option (Int64 × wd_D) := (f_X7_isRoom D).bind (fun x1 => (if x1 = 0 then some ((-1000002), D) else (if (f_X7_in a1.toInt64 0 99) = 0 then some ((-1000001), D) else (if (f_X7_in a2.toInt64 0 8) = 0 then some ((-1000001), D) else (if (f_X7_in a3.toInt64 0 10) = 0 then some ((-1000001), D) else (if (f_X7_in a4.toInt64 0 1) = 0 then some ((-1000001), D) else f_X7_lorries_L71 FU a1 a2 a3 a4 0 1 0 D))))))
set_option maxHeartbeats 4000000 in
set_option maxRecDepth 100000 in
theorem x_X7_lorries (l : Launch) (X : wd_X) (a1 : Int32) (a2 : Int32) (a3 : Int32) (a4 : Int32) (D : wd_D) {qv : Int64 × wd_D} (h : f_X7_lorries a1 a2 a3 a4 D = some qv) : wd_Met l X yX7_lorries cX7_lorries 15 (some FieldType.long) ({ frames := 4, cells := 0, slots := 0, locals := 400 }) S0 S0 ([.ref (X.2.2.1 + 370), .int a1, .int a2, .int a3, .int a4] : List Value) D qv.2 (some (.long qv.1)) 0 0 := by
  refine wd_enter (by decide) (Nat.le_of_ble_eq_true rfl) ?_
  intro p e s m below meth c CF hret hlk hnm hW hE ls hl
  have CF : CallFix p m c cX7_lorries 15 s ([.ref (X.2.2.1 + 370), .int a1, .int a2, .int a3, .int a4] : List Value).toArray tg RX7 := CF
  have hx := CF.1
  have hb := CF.2.1
  have hown := CF.2.2.2.1
  have hts := CF.2.2.2.2
  have hS : va_S (wd_A X) s.heap s.heap [] := va_S.rf
  have hl : lv_has ls 15 [(0, .ref (X.2.2.1 + 370)), (1, .int a1), (2, .int a2), (3, .int a3), (4, .int a4)] := hl
  unfold f_X7_lorries at h
  have hL209 : ∀ (n209 : Nat) (v5 : Int64) (v7 : Int64) (v9 : Int64) (v11 : Int64) (D : wd_D) (H : Heap) (locs : List Loc) (ls : Array Slot), Wd X S0 D H → va_S (wd_A X) s.heap H locs → lv_has ls 15 [(4, .int a4), (5, .long v5), (7, .long v7), (9, .long v9), (11, .long v11)] → f_X7_lorries_L209 n209 a1 a2 a3 a4 v5 v7 v9 v11 D = some qv → W p l e ({ frames := 4, cells := 0, slots := 0, locals := 400 }) s m ([.ref (X.2.2.1 + 370), .int a1, .int a2, .int a3, .int a4] : List Value).toArray below meth c H locs 0 0 (MQ below (wd_Q X S0 qv.2 (some (.long qv.1))) ([.ref (X.2.2.1 + 370), .int a1, .int a2, .int a3, .int a4] : List Value).toArray s 0 0 (wd_A X)) (F0 m 209 ls []) := by
    intro n209
    induction n209 with
    | zero => intro v5 v7 v9 v11 D H locs ls hW hS hl h; cases h
    | succ n209 ih209 =>
      intro v5 v7 v9 v11 D H locs ls hW hS hl h
      rw [f_X7_lorries_L209] at h
      refine lv_lload hx hb dX7_lorries_209 (lv_at hl 4 rfl) ?_
      refine lv_lconst (v := 0) hx hb dX7_lorries_211 (by decide) ?_
      refine W.lcmp hx hb dX7_lorries_212 ?_
      refine lv_if_eq (tgt := 234) hx hb dX7_lorries_213 (by decide) (fun c12 => ?_) (fun c12 => ?_)
      · rw [if_pos c12] at h
        refine lv_iload hx hb dX7_lorries_234 (lv_at hl 0 rfl) ?_
        refine lv_if_ne (tgt := 247) hx hb dX7_lorries_236 (by decide) (fun c13 => ?_) (fun c13 => ?_)
        · rw [if_neg c13] at h
          refine lv_lload hx hb dX7_lorries_247 (lv_at hl 2 rfl) ?_
          refine lv_lload hx hb dX7_lorries_249 (lv_at hl 3 rfl) ?_
          obtain ⟨x14, ex14, h⟩ := bdE h
          have nx14 := (nzL_e ex14).2
          refine lv_ldiv hx hb dX7_lorries_251 nx14 ?_
          have h := Option.some.inj h
          subst h
          exact wd_lret CF hret hlk hW hS dX7_lorries_252
        · rw [if_pos c13] at h
          refine lv_lload hx hb dX7_lorries_239 (lv_at hl 1 rfl) ?_
          refine lv_lload hx hb dX7_lorries_241 (lv_at hl 3 rfl) ?_
          obtain ⟨x15, ex15, h⟩ := bdE h
          have nx15 := (nzL_e ex15).2
          refine lv_ldiv hx hb dX7_lorries_243 nx15 ?_
          refine lv_goto (tgt := 252) hx hb dX7_lorries_244 (by decide) ?_
          have h := Option.some.inj h
          subst h
          exact wd_lret CF hret hlk hW hS dX7_lorries_252
      · rw [if_neg c12] at h
        refine lv_lload hx hb dX7_lorries_216 (lv_at hl 3 rfl) ?_
        refine lv_lload hx hb dX7_lorries_218 (lv_at hl 4 rfl) ?_
        obtain ⟨x16, ex16, h⟩ := bdE h
        have nx16 := (nzL_e ex16).2
        refine lv_lrem hx hb dX7_lorries_220 nx16 ?_
        refine lv_topl (fun x17 ex17 => ?_)
        replace h := apR ex17 h
        refine lv_lstore (lv' := [(13, .long x17), (4, .int a4), (5, .long v5), (7, .long v7), (9, .long v9), (11, .long v11)]) hx hb dX7_lorries_221 hl (by decide) rfl (fun ls hl => ?_)
        refine lv_lload hx hb dX7_lorries_223 (lv_at hl 5 rfl) ?_
        refine lv_lstore (lv' := [(9, .long v11), (13, .long x17), (4, .int a4), (5, .long v5), (7, .long v7), (11, .long v11)]) hx hb dX7_lorries_225 hl (by decide) rfl (fun ls hl => ?_)
        refine lv_lload hx hb dX7_lorries_227 (lv_at hl 1 rfl) ?_
        refine lv_lstore (lv' := [(11, .long x17), (9, .long v11), (13, .long x17), (4, .int a4), (5, .long v5), (7, .long v7)]) hx hb dX7_lorries_229 hl (by decide) rfl (fun ls hl => ?_)
        refine lv_goto (tgt := 209) hx hb dX7_lorries_231 (by decide) ?_
        exact ih209 v5 v7 v11 x17 D _ _ _  hW hS (lv_sub hl [3, 4, 5, 1, 0] rfl) h
  have hL94 : ∀ (n94 : Nat) (v5 : Int64) (v7 : Int64) (v9 : Int32) (D : wd_D) (H : Heap) (locs : List Loc) (ls : Array Slot), Wd X S0 D H → va_S (wd_A X) s.heap H locs → lv_has ls 15 [(0, .ref (X.2.2.1 + 370)), (1, .int a1), (2, .int a2), (3, .int a3), (4, .int a4), (5, .long v5), (7, .long v7), (9, .int v9)] → f_X7_lorries_L94 n94 a1 a2 a3 a4 v5 v7 v9 D = some qv → W p l e ({ frames := 4, cells := 0, slots := 0, locals := 400 }) s m ([.ref (X.2.2.1 + 370), .int a1, .int a2, .int a3, .int a4] : List Value).toArray below meth c H locs 0 0 (MQ below (wd_Q X S0 qv.2 (some (.long qv.1))) ([.ref (X.2.2.1 + 370), .int a1, .int a2, .int a3, .int a4] : List Value).toArray s 0 0 (wd_A X)) (F0 m 94 ls []) := by
    intro n94
    induction n94 with
    | zero => intro v5 v7 v9 D H locs ls hW hS hl h; cases h
    | succ n94 ih94 =>
      have hL192 : ∀ (v7 : Int64) (v9 : Int32) (z0 : Int64) (z1 : Int64) (D : wd_D) (H : Heap) (locs : List Loc) (ls : Array Slot), Wd X S0 D H → va_S (wd_A X) s.heap H locs → lv_has ls 15 [(0, .ref (X.2.2.1 + 370)), (1, .int a1), (2, .int a2), (3, .int a3), (4, .int a4), (7, .long v7), (9, .int v9)] → f_X7_lorries_L192 (f_X7_lorries_L94 n94) a1 a2 a3 a4 v7 v9 z0 z1 D = some qv → W p l e ({ frames := 4, cells := 0, slots := 0, locals := 400 }) s m ([.ref (X.2.2.1 + 370), .int a1, .int a2, .int a3, .int a4] : List Value).toArray below meth c H locs 0 0 (MQ below (wd_Q X S0 qv.2 (some (.long qv.1))) ([.ref (X.2.2.1 + 370), .int a1, .int a2, .int a3, .int a4] : List Value).toArray s 0 0 (wd_A X)) (F0 m 192 ls [.long z0, .long z1]) := by
        intro v7 v9 z0 z1 D H locs ls hW hS hl h
        unfold f_X7_lorries_L192 at h
        refine lv_ladd hx hb dX7_lorries_192 ?_
        refine lv_topl (fun x23 ex23 => ?_)
        replace h := apR ex23 h
        refine lv_lstore (lv' := [(5, .long x23), (0, .ref (X.2.2.1 + 370)), (1, .int a1), (2, .int a2), (3, .int a3), (4, .int a4), (7, .long v7), (9, .int v9)]) hx hb dX7_lorries_193 hl (by decide) rfl (fun ls hl => ?_)
        obtain ⟨x24, ex24⟩ : ∃ y : Int32, y = v9 + 1 := ⟨_, rfl⟩
        replace h := apR ex24 h
        refine lv_iinc (v := x24) (lv' := [(9, .int x24), (5, .long x23), (0, .ref (X.2.2.1 + 370)), (1, .int a1), (2, .int a2), (3, .int a3), (4, .int a4), (7, .long v7)]) hx hb dX7_lorries_195 hl (k := 7) rfl (by rw [ex24]; rfl) (by decide) rfl (fun ls hl => ?_)
        refine lv_goto (tgt := 94) hx hb dX7_lorries_198 (by decide) ?_
        exact ih94 x23 v7 x24 D _ _ _  hW hS (lv_sub hl [2, 3, 4, 5, 6, 1, 7, 0] rfl) h
      have hL112 : ∀ (n112 : Nat) (v5 : Int64) (v7 : Int64) (v9 : Int32) (v10 : Int64) (v12 : Int32) (D : wd_D) (H : Heap) (locs : List Loc) (ls : Array Slot), Wd X S0 D H → va_S (wd_A X) s.heap H locs → lv_has ls 15 [(0, .ref (X.2.2.1 + 370)), (1, .int a1), (2, .int a2), (3, .int a3), (4, .int a4), (5, .long v5), (7, .long v7), (9, .int v9), (10, .long v10), (12, .int v12)] → f_X7_lorries_L112 (f_X7_lorries_L94 n94) n112 a1 a2 a3 a4 v5 v7 v9 v10 v12 D = some qv → W p l e ({ frames := 4, cells := 0, slots := 0, locals := 400 }) s m ([.ref (X.2.2.1 + 370), .int a1, .int a2, .int a3, .int a4] : List Value).toArray below meth c H locs 0 0 (MQ below (wd_Q X S0 qv.2 (some (.long qv.1))) ([.ref (X.2.2.1 + 370), .int a1, .int a2, .int a3, .int a4] : List Value).toArray s 0 0 (wd_A X)) (F0 m 112 ls []) := by
        intro n112
        induction n112 with
        | zero => intro v5 v7 v9 v10 v12 D H locs ls hW hS hl h; cases h
        | succ n112 ih112 =>
          have hL161 : ∀ (v5 : Int64) (v7 : Int64) (v9 : Int32) (v10 : Int64) (v12 : Int32) (D : wd_D) (H : Heap) (locs : List Loc) (ls : Array Slot), Wd X S0 D H → va_S (wd_A X) s.heap H locs → lv_has ls 15 [(0, .ref (X.2.2.1 + 370)), (1, .int a1), (2, .int a2), (3, .int a3), (4, .int a4), (5, .long v5), (7, .long v7), (9, .int v9), (10, .long v10), (12, .int v12)] → f_X7_lorries_L161 (f_X7_lorries_L112 (f_X7_lorries_L94 n94) n112) (f_X7_lorries_L94 n94) a1 a2 a3 a4 v5 v7 v9 v10 v12 D = some qv → W p l e ({ frames := 4, cells := 0, slots := 0, locals := 400 }) s m ([.ref (X.2.2.1 + 370), .int a1, .int a2, .int a3, .int a4] : List Value).toArray below meth c H locs 0 0 (MQ below (wd_Q X S0 qv.2 (some (.long qv.1))) ([.ref (X.2.2.1 + 370), .int a1, .int a2, .int a3, .int a4] : List Value).toArray s 0 0 (wd_A X)) (F0 m 161 ls []) := by
            intro v5 v7 v9 v10 v12 D H locs ls hW hS hl h
            unfold f_X7_lorries_L161 at h
            refine lv_aload_n hx hb dX7_lorries_161 rfl (lv_at hl 0 rfl) ?_
            refine lv_sipush (v := 189) hx hb dX7_lorries_162 (by decide) ?_
            obtain ⟨q28, eq28, h⟩ := bdE h
            refine wd_callVv (ci := 7) (k := 370) CF hE hW hS (x_X7_passes l X 189 D eq28) mi_X7_passes vi_X7_passes tw913 ⟨by decide, rfl⟩ sh_370 ⟨rfl, rfl, Nat.le_of_ble_eq_true rfl, Nat.le_of_ble_eq_true rfl⟩ rfl hl.1 rfl (Nat.le_of_ble_eq_true rfl) dX7_lorries_165 ⟨Nat.le_of_ble_eq_true rfl, Nat.le_of_ble_eq_true rfl⟩ (fun H locs hW hS => ?_)
            obtain ⟨x29, ex29⟩ : ∃ y : Int32, y = v12 + 1 := ⟨_, rfl⟩
            replace h := apR ex29 h
            refine lv_iinc (v := x29) (lv' := [(12, .int x29), (0, .ref (X.2.2.1 + 370)), (1, .int a1), (2, .int a2), (3, .int a3), (4, .int a4), (5, .long v5), (7, .long v7), (9, .int v9), (10, .long v10)]) hx hb dX7_lorries_168 hl (k := 9) rfl (by rw [ex29]; rfl) (by decide) rfl (fun ls hl => ?_)
            refine lv_goto (tgt := 112) hx hb dX7_lorries_171 (by decide) ?_
            exact ih112 v5 v7 v9 v10 x29 q28 _ _ _  hW hS (lv_sub hl [1, 2, 3, 4, 5, 6, 7, 8, 9, 0] rfl) h
          have hL144 : ∀ (v5 : Int64) (v7 : Int64) (v9 : Int32) (v12 : Int32) (v13 : Int32) (z0 : Int64) (z1 : Int64) (D : wd_D) (H : Heap) (locs : List Loc) (ls : Array Slot), Wd X S0 D H → va_S (wd_A X) s.heap H locs → lv_has ls 15 [(0, .ref (X.2.2.1 + 370)), (1, .int a1), (2, .int a2), (3, .int a3), (4, .int a4), (5, .long v5), (7, .long v7), (9, .int v9), (12, .int v12), (13, .int v13)] → f_X7_lorries_L144 (f_X7_lorries_L112 (f_X7_lorries_L94 n94) n112) (f_X7_lorries_L94 n94) a1 a2 a3 a4 v5 v7 v9 v12 v13 z0 z1 D = some qv → W p l e ({ frames := 4, cells := 0, slots := 0, locals := 400 }) s m ([.ref (X.2.2.1 + 370), .int a1, .int a2, .int a3, .int a4] : List Value).toArray below meth c H locs 0 0 (MQ below (wd_Q X S0 qv.2 (some (.long qv.1))) ([.ref (X.2.2.1 + 370), .int a1, .int a2, .int a3, .int a4] : List Value).toArray s 0 0 (wd_A X)) (F0 m 144 ls [.long z0, .long z1]) := by
            intro v5 v7 v9 v12 v13 z0 z1 D H locs ls hW hS hl h
            unfold f_X7_lorries_L144 at h
            refine lv_lmul hx hb dX7_lorries_144 ?_
            refine lv_topl (fun x25 ex25 => ?_)
            replace h := apR ex25 h
            refine lv_lstore (lv' := [(10, .long x25), (0, .ref (X.2.2.1 + 370)), (1, .int a1), (2, .int a2), (3, .int a3), (4, .int a4), (5, .long v5), (7, .long v7), (9, .int v9), (12, .int v12), (13, .int v13)]) hx hb dX7_lorries_145 hl (by decide) rfl (fun ls hl => ?_)
            refine lv_iload hx hb dX7_lorries_147 (lv_at hl 10 rfl) ?_
            refine lv_if_eq (tgt := 161) hx hb dX7_lorries_149 (by decide) (fun c26 => ?_) (fun c26 => ?_)
            · rw [if_pos c26] at h
              exact hL161 v5 v7 v9 x25 v12 D _ _ _  hW hS (lv_sub hl [1, 2, 3, 4, 5, 6, 7, 8, 0, 9] rfl) h
            · rw [if_neg c26] at h
              refine lv_aload_n hx hb dX7_lorries_152 rfl (lv_at hl 1 rfl) ?_
              refine lv_sipush (v := 189) hx hb dX7_lorries_153 (by decide) ?_
              refine lv_iload_n hx hb dX7_lorries_156 rfl (lv_at hl 2 rfl) ?_
              obtain ⟨q27, eq27, h⟩ := bdE h
              refine wd_callVr (ci := 7) (k := 370) CF hE hW hS (x_X7_rolls l X 189 a1 D eq27) mi_X7_rolls vi_X7_rolls tw979 ⟨by decide, rfl⟩ sh_370 ⟨rfl, rfl, Nat.le_of_ble_eq_true rfl, Nat.le_of_ble_eq_true rfl⟩ rfl hl.1 rfl (Nat.le_of_ble_eq_true rfl) dX7_lorries_157 ⟨Nat.le_of_ble_eq_true rfl, Nat.le_of_ble_eq_true rfl⟩ (fun H locs hW hS => ?_)
              refine lv_pop hx hb dX7_lorries_160 rfl ?_
              exact hL161 v5 v7 v9 x25 v12 q27.2 _ _ _  hW hS (lv_sub hl [1, 2, 3, 4, 5, 6, 7, 8, 0, 9] rfl) h
          intro v5 v7 v9 v10 v12 D H locs ls hW hS hl h
          rw [f_X7_lorries_L112] at h
          refine lv_iload hx hb dX7_lorries_112 (lv_at hl 9 rfl) ?_
          refine lv_iload_n hx hb dX7_lorries_114 rfl (lv_at hl 2 rfl) ?_
          refine lv_icmp_ge (tgt := 174) hx hb dX7_lorries_115 (by decide) (fun c18 => ?_) (fun c18 => ?_)
          · rw [if_pos c18] at h
            refine lv_lload hx hb dX7_lorries_174 (lv_at hl 5 rfl) ?_
            refine lv_aload_n hx hb dX7_lorries_176 rfl (lv_at hl 0 rfl) ?_
            refine lv_sipush (v := 189) hx hb dX7_lorries_177 (by decide) ?_
            obtain ⟨x19, ex19, h⟩ := bdE h
            refine wd_callVr (ci := 7) (k := 370) CF hE hW hS (x_X7_allSleep l X 189 D ex19) mi_X7_allSleep vi_X7_allSleep tw1025 ⟨by decide, rfl⟩ sh_370 ⟨rfl, rfl, Nat.le_of_ble_eq_true rfl, Nat.le_of_ble_eq_true rfl⟩ rfl hl.1 rfl (Nat.le_of_ble_eq_true rfl) dX7_lorries_180 ⟨Nat.le_of_ble_eq_true rfl, Nat.le_of_ble_eq_true rfl⟩ (fun H locs hW hS => ?_)
            refine lv_if_eq (tgt := 191) hx hb dX7_lorries_183 (by decide) (fun c20 => ?_) (fun c20 => ?_)
            · rw [if_pos c20] at h
              refine lv_lconst (v := 0) hx hb dX7_lorries_191 (by decide) ?_
              exact hL192 v7 v9 0 v5 D _ _ _  hW hS (lv_sub hl [0, 1, 2, 3, 4, 6, 7] rfl) h
            · rw [if_neg c20] at h
              refine lv_lload hx hb dX7_lorries_186 (lv_at hl 8 rfl) ?_
              refine lv_goto (tgt := 192) hx hb dX7_lorries_188 (by decide) ?_
              exact hL192 v7 v9 v10 v5 D _ _ _  hW hS (lv_sub hl [0, 1, 2, 3, 4, 6, 7] rfl) h
          · rw [if_neg c18] at h
            refine lv_iload hx hb dX7_lorries_118 (lv_at hl 7 rfl) ?_
            refine lv_iload hx hb dX7_lorries_120 (lv_at hl 9 rfl) ?_
            refine wd_callSr CF hE hW hS (x_X7_has l X v9 v12 D) mi_X7_has vi_X7_has tw925 ⟨rfl, rfl, Nat.le_of_ble_eq_true rfl, Nat.le_of_ble_eq_true rfl⟩ rfl hl.1 rfl (Nat.le_of_ble_eq_true rfl) dX7_lorries_122 ⟨Nat.le_of_ble_eq_true rfl, Nat.le_of_ble_eq_true rfl⟩ (fun H locs hW hS => ?_)
            refine lv_topi (fun x21 ex21 => ?_)
            replace h := apR ex21 h
            refine lv_istore (lv' := [(13, .int x21), (0, .ref (X.2.2.1 + 370)), (1, .int a1), (2, .int a2), (3, .int a3), (4, .int a4), (5, .long v5), (7, .long v7), (9, .int v9), (10, .long v10), (12, .int v12)]) hx hb dX7_lorries_125 hl (by decide) rfl (fun ls hl => ?_)
            refine lv_lload hx hb dX7_lorries_127 (lv_at hl 9 rfl) ?_
            refine lv_iload hx hb dX7_lorries_129 (lv_at hl 0 rfl) ?_
            refine lv_if_eq (tgt := 139) hx hb dX7_lorries_131 (by decide) (fun c22 => ?_) (fun c22 => ?_)
            · rw [if_pos c22] at h
              refine lv_bipush (v := 10) hx hb dX7_lorries_139 (by decide) ?_
              refine lv_iload_n hx hb dX7_lorries_141 rfl (lv_at hl 4 rfl) ?_
              refine lv_isub hx hb dX7_lorries_142 ?_
              refine lv_i2l hx hb dX7_lorries_143 rfl ?_
              exact hL144 v5 v7 v9 v12 x21 ((10 - a3).toInt64) v10 D _ _ _  hW hS (lv_sub hl [1, 2, 3, 4, 5, 6, 7, 8, 10, 0] rfl) h
            · rw [if_neg c22] at h
              refine lv_iload_n hx hb dX7_lorries_134 rfl (lv_at hl 4 rfl) ?_
              refine lv_i2l hx hb dX7_lorries_135 rfl ?_
              refine lv_goto (tgt := 144) hx hb dX7_lorries_136 (by decide) ?_
              exact hL144 v5 v7 v9 v12 x21 a3.toInt64 v10 D _ _ _  hW hS (lv_sub hl [1, 2, 3, 4, 5, 6, 7, 8, 10, 0] rfl) h
      intro v5 v7 v9 D H locs ls hW hS hl h
      rw [f_X7_lorries_L94] at h
      refine lv_iload hx hb dX7_lorries_94 (lv_at hl 7 rfl) ?_
      refine lv_iconst (v := 1) hx hb dX7_lorries_96 (by decide) ?_
      refine lv_iload_n hx hb dX7_lorries_97 rfl (lv_at hl 2 rfl) ?_
      refine lv_ishl hx hb dX7_lorries_98 ?_
      refine lv_icmp_ge (tgt := 201) hx hb dX7_lorries_99 (by decide) (fun c10 => ?_) (fun c10 => ?_)
      · rw [if_pos c10] at h
        refine lv_lload hx hb dX7_lorries_201 (lv_at hl 5 rfl) ?_
        refine lv_lstore (lv' := [(9, .long v5), (0, .ref (X.2.2.1 + 370)), (1, .int a1), (2, .int a2), (3, .int a3), (4, .int a4), (5, .long v5), (7, .long v7)]) hx hb dX7_lorries_203 hl (by decide) rfl (fun ls hl => ?_)
        refine lv_lload hx hb dX7_lorries_205 (lv_at hl 7 rfl) ?_
        refine lv_lstore (lv' := [(11, .long v7), (9, .long v5), (0, .ref (X.2.2.1 + 370)), (1, .int a1), (2, .int a2), (3, .int a3), (4, .int a4), (5, .long v5), (7, .long v7)]) hx hb dX7_lorries_207 hl (by decide) rfl (fun ls hl => ?_)
        exact hL209 FU v5 v7 v5 v7 D _ _ _  hW hS (lv_sub hl [6, 7, 8, 1, 0] rfl) h
      · rw [if_neg c10] at h
        refine lv_lconst (v := 1) hx hb dX7_lorries_102 (by decide) ?_
        refine lv_lstore (lv' := [(10, .long 1), (0, .ref (X.2.2.1 + 370)), (1, .int a1), (2, .int a2), (3, .int a3), (4, .int a4), (5, .long v5), (7, .long v7), (9, .int v9)]) hx hb dX7_lorries_103 hl (by decide) rfl (fun ls hl => ?_)
        refine lv_aload_n hx hb dX7_lorries_105 rfl (lv_at hl 1 rfl) ?_
        obtain ⟨q11, eq11, h⟩ := bdE h
        refine wd_callVv (ci := 7) (k := 370) CF hE hW hS (x_X7_tries l X D eq11) mi_X7_tries vi_X7_tries tw1004 ⟨by decide, rfl⟩ sh_370 ⟨rfl, rfl, Nat.le_of_ble_eq_true rfl, Nat.le_of_ble_eq_true rfl⟩ rfl hl.1 rfl (Nat.le_of_ble_eq_true rfl) dX7_lorries_106 ⟨Nat.le_of_ble_eq_true rfl, Nat.le_of_ble_eq_true rfl⟩ (fun H locs hW hS => ?_)
        refine lv_iconst (v := 0) hx hb dX7_lorries_109 (by decide) ?_
        refine lv_istore (lv' := [(12, .int 0), (10, .long 1), (0, .ref (X.2.2.1 + 370)), (1, .int a1), (2, .int a2), (3, .int a3), (4, .int a4), (5, .long v5), (7, .long v7), (9, .int v9)]) hx hb dX7_lorries_110 hl (by decide) rfl (fun ls hl => ?_)
        exact hL112 FU v5 v7 v9 1 0 q11 _ _ _  hW hS (lv_sub hl [2, 3, 4, 5, 6, 7, 8, 9, 1, 0] rfl) h
  have hL71 : ∀ (n71 : Nat) (v5 : Int64) (v7 : Int64) (v9 : Int32) (D : wd_D) (H : Heap) (locs : List Loc) (ls : Array Slot), Wd X S0 D H → va_S (wd_A X) s.heap H locs → lv_has ls 15 [(0, .ref (X.2.2.1 + 370)), (1, .int a1), (2, .int a2), (3, .int a3), (4, .int a4), (5, .long v5), (7, .long v7), (9, .int v9)] → f_X7_lorries_L71 n71 a1 a2 a3 a4 v5 v7 v9 D = some qv → W p l e ({ frames := 4, cells := 0, slots := 0, locals := 400 }) s m ([.ref (X.2.2.1 + 370), .int a1, .int a2, .int a3, .int a4] : List Value).toArray below meth c H locs 0 0 (MQ below (wd_Q X S0 qv.2 (some (.long qv.1))) ([.ref (X.2.2.1 + 370), .int a1, .int a2, .int a3, .int a4] : List Value).toArray s 0 0 (wd_A X)) (F0 m 71 ls []) := by
    intro n71
    induction n71 with
    | zero => intro v5 v7 v9 D H locs ls hW hS hl h; cases h
    | succ n71 ih71 =>
      intro v5 v7 v9 D H locs ls hW hS hl h
      rw [f_X7_lorries_L71] at h
      refine lv_iload hx hb dX7_lorries_71 (lv_at hl 7 rfl) ?_
      refine lv_iload_n hx hb dX7_lorries_73 rfl (lv_at hl 2 rfl) ?_
      refine lv_icmp_ge (tgt := 91) hx hb dX7_lorries_74 (by decide) (fun c7 => ?_) (fun c7 => ?_)
      · rw [if_pos c7] at h
        refine lv_iconst (v := 0) hx hb dX7_lorries_91 (by decide) ?_
        refine lv_istore (lv' := [(9, .int 0), (0, .ref (X.2.2.1 + 370)), (1, .int a1), (2, .int a2), (3, .int a3), (4, .int a4), (5, .long v5), (7, .long v7)]) hx hb dX7_lorries_92 hl (by decide) rfl (fun ls hl => ?_)
        exact hL94 FU v5 v7 0 D _ _ _  hW hS (lv_sub hl [1, 2, 3, 4, 5, 6, 7, 0] rfl) h
      · rw [if_neg c7] at h
        refine lv_lload hx hb dX7_lorries_77 (lv_at hl 6 rfl) ?_
        refine lv_ldc2 (v := 10) hx hb hown (hts _ tw1086) dX7_lorries_79 ?_
        refine lv_lmul hx hb dX7_lorries_82 ?_
        refine lv_topl (fun x8 ex8 => ?_)
        replace h := apR ex8 h
        refine lv_lstore (lv' := [(7, .long x8), (0, .ref (X.2.2.1 + 370)), (1, .int a1), (2, .int a2), (3, .int a3), (4, .int a4), (5, .long v5), (9, .int v9)]) hx hb dX7_lorries_83 hl (by decide) rfl (fun ls hl => ?_)
        obtain ⟨x9, ex9⟩ : ∃ y : Int32, y = v9 + 1 := ⟨_, rfl⟩
        replace h := apR ex9 h
        refine lv_iinc (v := x9) (lv' := [(9, .int x9), (7, .long x8), (0, .ref (X.2.2.1 + 370)), (1, .int a1), (2, .int a2), (3, .int a3), (4, .int a4), (5, .long v5)]) hx hb dX7_lorries_85 hl (k := 7) rfl (by rw [ex9]; rfl) (by decide) rfl (fun ls hl => ?_)
        refine lv_goto (tgt := 71) hx hb dX7_lorries_88 (by decide) ?_
        exact ih71 v5 x8 x9 D _ _ _  hW hS (lv_sub hl [2, 3, 4, 5, 6, 7, 1, 0] rfl) h
  refine lv_aload_n hx hb dX7_lorries_0 rfl (lv_at hl 0 rfl) ?_
  obtain ⟨x1, ex1, h⟩ := bdE h
  refine wd_callVr (ci := 7) (k := 370) CF hE hW hS (x_X7_isRoom l X D ex1) mi_X7_isRoom vi_X7_isRoom tw904 ⟨by decide, rfl⟩ sh_370 ⟨rfl, rfl, Nat.le_of_ble_eq_true rfl, Nat.le_of_ble_eq_true rfl⟩ rfl hl.1 rfl (Nat.le_of_ble_eq_true rfl) dX7_lorries_1 ⟨Nat.le_of_ble_eq_true rfl, Nat.le_of_ble_eq_true rfl⟩ (fun H locs hW hS => ?_)
  refine lv_if_ne (tgt := 11) hx hb dX7_lorries_4 (by decide) (fun c2 => ?_) (fun c2 => ?_)
  · rw [if_neg c2] at h
    refine lv_iload_n hx hb dX7_lorries_11 rfl (lv_at hl 1 rfl) ?_
    refine lv_i2l hx hb dX7_lorries_12 rfl ?_
    refine lv_lconst (v := 0) hx hb dX7_lorries_13 (by decide) ?_
    refine lv_ldc2 (v := 99) hx hb hown (hts _ tw978) dX7_lorries_14 ?_
    refine wd_callSr CF hE hW hS (x_X7_in l X a1.toInt64 0 99 D) mi_X7_in vi_X7_in tw818 ⟨rfl, rfl, Nat.le_of_ble_eq_true rfl, Nat.le_of_ble_eq_true rfl⟩ rfl hl.1 rfl (Nat.le_of_ble_eq_true rfl) dX7_lorries_17 ⟨Nat.le_of_ble_eq_true rfl, Nat.le_of_ble_eq_true rfl⟩ (fun H locs hW hS => ?_)
    refine lv_if_eq (tgt := 58) hx hb dX7_lorries_20 (by decide) (fun c3 => ?_) (fun c3 => ?_)
    · rw [if_pos c3] at h
      refine lv_ldc2 (v := (-1000001)) hx hb hown (hts _ tw1087) dX7_lorries_58 ?_
      have h := Option.some.inj h
      subst h
      exact wd_lret CF hret hlk hW hS dX7_lorries_61
    · rw [if_neg c3] at h
      refine lv_iload_n hx hb dX7_lorries_23 rfl (lv_at hl 2 rfl) ?_
      refine lv_i2l hx hb dX7_lorries_24 rfl ?_
      refine lv_lconst (v := 0) hx hb dX7_lorries_25 (by decide) ?_
      refine lv_ldc2 (v := 8) hx hb hown (hts _ tw1085) dX7_lorries_26 ?_
      refine wd_callSr CF hE hW hS (x_X7_in l X a2.toInt64 0 8 D) mi_X7_in vi_X7_in tw818 ⟨rfl, rfl, Nat.le_of_ble_eq_true rfl, Nat.le_of_ble_eq_true rfl⟩ rfl hl.1 rfl (Nat.le_of_ble_eq_true rfl) dX7_lorries_29 ⟨Nat.le_of_ble_eq_true rfl, Nat.le_of_ble_eq_true rfl⟩ (fun H locs hW hS => ?_)
      refine lv_if_eq (tgt := 58) hx hb dX7_lorries_32 (by decide) (fun c4 => ?_) (fun c4 => ?_)
      · rw [if_pos c4] at h
        refine lv_ldc2 (v := (-1000001)) hx hb hown (hts _ tw1087) dX7_lorries_58 ?_
        have h := Option.some.inj h
        subst h
        exact wd_lret CF hret hlk hW hS dX7_lorries_61
      · rw [if_neg c4] at h
        refine lv_iload_n hx hb dX7_lorries_35 rfl (lv_at hl 3 rfl) ?_
        refine lv_i2l hx hb dX7_lorries_36 rfl ?_
        refine lv_lconst (v := 0) hx hb dX7_lorries_37 (by decide) ?_
        refine lv_ldc2 (v := 10) hx hb hown (hts _ tw1086) dX7_lorries_38 ?_
        refine wd_callSr CF hE hW hS (x_X7_in l X a3.toInt64 0 10 D) mi_X7_in vi_X7_in tw818 ⟨rfl, rfl, Nat.le_of_ble_eq_true rfl, Nat.le_of_ble_eq_true rfl⟩ rfl hl.1 rfl (Nat.le_of_ble_eq_true rfl) dX7_lorries_41 ⟨Nat.le_of_ble_eq_true rfl, Nat.le_of_ble_eq_true rfl⟩ (fun H locs hW hS => ?_)
        refine lv_if_eq (tgt := 58) hx hb dX7_lorries_44 (by decide) (fun c5 => ?_) (fun c5 => ?_)
        · rw [if_pos c5] at h
          refine lv_ldc2 (v := (-1000001)) hx hb hown (hts _ tw1087) dX7_lorries_58 ?_
          have h := Option.some.inj h
          subst h
          exact wd_lret CF hret hlk hW hS dX7_lorries_61
        · rw [if_neg c5] at h
          refine lv_iload hx hb dX7_lorries_47 (lv_at hl 4 rfl) ?_
          refine lv_i2l hx hb dX7_lorries_49 rfl ?_
          refine lv_lconst (v := 0) hx hb dX7_lorries_50 (by decide) ?_
          refine lv_lconst (v := 1) hx hb dX7_lorries_51 (by decide) ?_
          refine wd_callSr CF hE hW hS (x_X7_in l X a4.toInt64 0 1 D) mi_X7_in vi_X7_in tw818 ⟨rfl, rfl, Nat.le_of_ble_eq_true rfl, Nat.le_of_ble_eq_true rfl⟩ rfl hl.1 rfl (Nat.le_of_ble_eq_true rfl) dX7_lorries_52 ⟨Nat.le_of_ble_eq_true rfl, Nat.le_of_ble_eq_true rfl⟩ (fun H locs hW hS => ?_)
          refine lv_if_ne (tgt := 62) hx hb dX7_lorries_55 (by decide) (fun c6 => ?_) (fun c6 => ?_)
          · rw [if_neg c6] at h
            refine lv_lconst (v := 0) hx hb dX7_lorries_62 (by decide) ?_
            refine lv_lstore (lv' := [(5, .long 0), (0, .ref (X.2.2.1 + 370)), (1, .int a1), (2, .int a2), (3, .int a3), (4, .int a4)]) hx hb dX7_lorries_63 hl (by decide) rfl (fun ls hl => ?_)
            refine lv_lconst (v := 1) hx hb dX7_lorries_65 (by decide) ?_
            refine lv_lstore (lv' := [(7, .long 1), (5, .long 0), (0, .ref (X.2.2.1 + 370)), (1, .int a1), (2, .int a2), (3, .int a3), (4, .int a4)]) hx hb dX7_lorries_66 hl (by decide) rfl (fun ls hl => ?_)
            refine lv_iconst (v := 0) hx hb dX7_lorries_68 (by decide) ?_
            refine lv_istore (lv' := [(9, .int 0), (7, .long 1), (5, .long 0), (0, .ref (X.2.2.1 + 370)), (1, .int a1), (2, .int a2), (3, .int a3), (4, .int a4)]) hx hb dX7_lorries_69 hl (by decide) rfl (fun ls hl => ?_)
            exact hL71 FU 0 1 0 D _ _ _  hW hS (lv_sub hl [3, 4, 5, 6, 7, 2, 1, 0] rfl) h
          · rw [if_pos c6] at h
            refine lv_ldc2 (v := (-1000001)) hx hb hown (hts _ tw1087) dX7_lorries_58 ?_
            have h := Option.some.inj h
            subst h
            exact wd_lret CF hret hlk hW hS dX7_lorries_61
  · rw [if_pos c2] at h
    refine lv_ldc2 (v := (-1000002)) hx hb hown (hts _ tw1084) dX7_lorries_7 ?_
    have h := Option.some.inj h
    subst h
    exact wd_lret CF hret hlk hW hS dX7_lorries_10
def f_X7_drawn_L162 (k57 : Int32 → Int32 → Int32 → Int64 → Int32 → Int32 → wd_D → Option (Int32 × wd_D)) (a1 : Int32) (a2 : Int32) (a3 : Int32) (v4 : Int64) (v7 : Int32) (z0 : Int32) (z1 : Int32) (D : wd_D) : Option (Int32 × wd_D) := ap (z1 + z0) (fun x23 => ap (v7 + 1) (fun x24 => k57 a1 a2 a3 v4 x23 x24 D))
def f_X7_drawn_L137 (k57 : Int32 → Int32 → Int32 → Int64 → Int32 → Int32 → wd_D → Option (Int32 × wd_D)) (a1 : Int32) (a2 : Int32) (a3 : Int32) (v4 : Int64) (v6 : Int32) (v7 : Int32) (D : wd_D) : Option (Int32 × wd_D) := (f_X7_passes 189 D).bind (fun q20 => (f_X7_thoseWho 189 1 q20).bind (fun x21 => (if x21 = 0 then f_X7_drawn_L162 k57 a1 a2 a3 v4 v7 0 v6 q20 else f_X7_drawn_L162 k57 a1 a2 a3 v4 v7 1 v6 q20)))
def f_X7_drawn_L101 (k57 : Int32 → Int32 → Int32 → Int64 → Int32 → Int32 → wd_D → Option (Int32 × wd_D)) (a1 : Int32) (a2 : Int32) (a3 : Int32) (v4 : Int64) (v6 : Int32) (v7 : Int32) (D : wd_D) : Option (Int32 × wd_D) := (if (lg_cmp (v4 - v4 / 7 * 7) 0) = 0 then (rd 252 D 371 225).bind (fun x16 => (rd 252 D 371 41).bind (fun x17 => (nzL x17.toInt64).bind (fun x18 => (wr 252 D 371 225 (x16 ||| ((1 : Int32) <<< (((v4 - v4 / x17.toInt64 * x17.toInt64).toInt32) &&& 31)))).bind (fun D19 => f_X7_drawn_L137 k57 a1 a2 a3 v4 v6 v7 D19)))) else f_X7_drawn_L137 k57 a1 a2 a3 v4 v6 v7 D)
def f_X7_drawn_L57  : Nat → Int32 → Int32 → Int32 → Int64 → Int32 → Int32 → wd_D → Option (Int32 × wd_D)
  | 0, _, _, _, _, _, _, _ => none
  | n + 1, a1, a2, a3, v4, v6, v7, D => (if a1 ≤ v7 then (if a3 = 0 then (f_X7_thoseWho 189 2 D).bind (fun x10 => (f_X7_ones x10).bind (fun x11 => some (x11, D))) else some (v6, D)) else ap ((v4 * 16807) - (v4 * 16807) / 2147483647 * 2147483647) (fun x12 => (if (lg_cmp (x12 - x12 / 6 * 6) 0) = 0 then (f_X7_rolls 189 ((x12 - x12 / 20 * 20).toInt32) D).bind (fun q14 => f_X7_drawn_L101 (f_X7_drawn_L57 n) a1 a2 a3 x12 v6 v7 q14.2) else f_X7_drawn_L101 (f_X7_drawn_L57 n) a1 a2 a3 x12 v6 v7 D)))
def f_X7_drawn (a1 : Int32) (a2 : Int32) (a3 : Int32) (D : wd_D) : Option (Int32 × wd_D) := (f_X7_isRoom D).bind (fun x1 => (if x1 = 0 then some ((-1000002), D) else (if (f_X7_isSpan a1 0) = 0 then some ((-1000001), D) else (if (f_X7_in a2.toInt64 1 999999) = 0 then some ((-1000001), D) else (if (f_X7_in a3.toInt64 0 1) = 0 then some ((-1000001), D) else (f_X7_tries D).bind (fun q6 => ap a2.toInt64 (fun x7 => f_X7_drawn_L57 FU a1 a2 a3 x7 0 0 q6)))))))
set_option maxHeartbeats 4000000 in
set_option maxRecDepth 100000 in
theorem x_X7_drawn (l : Launch) (X : wd_X) (a1 : Int32) (a2 : Int32) (a3 : Int32) (D : wd_D) {qv : Int32 × wd_D} (h : f_X7_drawn a1 a2 a3 D = some qv) : wd_Met l X yX7_drawn cX7_drawn 8 (some FieldType.int) ({ frames := 4, cells := 0, slots := 0, locals := 400 }) S0 S0 ([.ref (X.2.2.1 + 370), .int a1, .int a2, .int a3] : List Value) D qv.2 (some (.int qv.1)) 0 0 := by
  refine wd_enter (by decide) (Nat.le_of_ble_eq_true rfl) ?_
  intro p e s m below meth c CF hret hlk hnm hW hE ls hl
  have CF : CallFix p m c cX7_drawn 8 s ([.ref (X.2.2.1 + 370), .int a1, .int a2, .int a3] : List Value).toArray tg RX7 := CF
  have hx := CF.1
  have hb := CF.2.1
  have hown := CF.2.2.2.1
  have hts := CF.2.2.2.2
  have hS : va_S (wd_A X) s.heap s.heap [] := va_S.rf
  have hl : lv_has ls 8 [(0, .ref (X.2.2.1 + 370)), (1, .int a1), (2, .int a2), (3, .int a3)] := hl
  unfold f_X7_drawn at h
  have hL57 : ∀ (n57 : Nat) (v4 : Int64) (v6 : Int32) (v7 : Int32) (D : wd_D) (H : Heap) (locs : List Loc) (ls : Array Slot), Wd X S0 D H → va_S (wd_A X) s.heap H locs → lv_has ls 8 [(0, .ref (X.2.2.1 + 370)), (1, .int a1), (3, .int a3), (4, .long v4), (6, .int v6), (7, .int v7)] → f_X7_drawn_L57 n57 a1 a2 a3 v4 v6 v7 D = some qv → W p l e ({ frames := 4, cells := 0, slots := 0, locals := 400 }) s m ([.ref (X.2.2.1 + 370), .int a1, .int a2, .int a3] : List Value).toArray below meth c H locs 0 0 (MQ below (wd_Q X S0 qv.2 (some (.int qv.1))) ([.ref (X.2.2.1 + 370), .int a1, .int a2, .int a3] : List Value).toArray s 0 0 (wd_A X)) (F0 m 57 ls []) := by
    intro n57
    induction n57 with
    | zero => intro v4 v6 v7 D H locs ls hW hS hl h; cases h
    | succ n57 ih57 =>
      have hL162 : ∀ (v4 : Int64) (v7 : Int32) (z0 : Int32) (z1 : Int32) (D : wd_D) (H : Heap) (locs : List Loc) (ls : Array Slot), Wd X S0 D H → va_S (wd_A X) s.heap H locs → lv_has ls 8 [(0, .ref (X.2.2.1 + 370)), (1, .int a1), (3, .int a3), (4, .long v4), (7, .int v7)] → f_X7_drawn_L162 (f_X7_drawn_L57 n57) a1 a2 a3 v4 v7 z0 z1 D = some qv → W p l e ({ frames := 4, cells := 0, slots := 0, locals := 400 }) s m ([.ref (X.2.2.1 + 370), .int a1, .int a2, .int a3] : List Value).toArray below meth c H locs 0 0 (MQ below (wd_Q X S0 qv.2 (some (.int qv.1))) ([.ref (X.2.2.1 + 370), .int a1, .int a2, .int a3] : List Value).toArray s 0 0 (wd_A X)) (F0 m 162 ls [.int z0, .int z1]) := by
        intro v4 v7 z0 z1 D H locs ls hW hS hl h
        unfold f_X7_drawn_L162 at h
        refine lv_iadd hx hb dX7_drawn_162 ?_
        refine lv_topi (fun x23 ex23 => ?_)
        replace h := apR ex23 h
        refine lv_istore (lv' := [(6, .int x23), (0, .ref (X.2.2.1 + 370)), (1, .int a1), (3, .int a3), (4, .long v4), (7, .int v7)]) hx hb dX7_drawn_163 hl (by decide) rfl (fun ls hl => ?_)
        obtain ⟨x24, ex24⟩ : ∃ y : Int32, y = v7 + 1 := ⟨_, rfl⟩
        replace h := apR ex24 h
        refine lv_iinc (v := x24) (lv' := [(7, .int x24), (6, .int x23), (0, .ref (X.2.2.1 + 370)), (1, .int a1), (3, .int a3), (4, .long v4)]) hx hb dX7_drawn_165 hl (k := 5) rfl (by rw [ex24]; rfl) (by decide) rfl (fun ls hl => ?_)
        refine lv_goto (tgt := 57) hx hb dX7_drawn_168 (by decide) ?_
        exact ih57 v4 x23 x24 D _ _ _  hW hS (lv_sub hl [2, 3, 4, 5, 1, 0] rfl) h
      have hL137 : ∀ (v4 : Int64) (v6 : Int32) (v7 : Int32) (D : wd_D) (H : Heap) (locs : List Loc) (ls : Array Slot), Wd X S0 D H → va_S (wd_A X) s.heap H locs → lv_has ls 8 [(0, .ref (X.2.2.1 + 370)), (1, .int a1), (3, .int a3), (4, .long v4), (6, .int v6), (7, .int v7)] → f_X7_drawn_L137 (f_X7_drawn_L57 n57) a1 a2 a3 v4 v6 v7 D = some qv → W p l e ({ frames := 4, cells := 0, slots := 0, locals := 400 }) s m ([.ref (X.2.2.1 + 370), .int a1, .int a2, .int a3] : List Value).toArray below meth c H locs 0 0 (MQ below (wd_Q X S0 qv.2 (some (.int qv.1))) ([.ref (X.2.2.1 + 370), .int a1, .int a2, .int a3] : List Value).toArray s 0 0 (wd_A X)) (F0 m 137 ls []) := by
        intro v4 v6 v7 D H locs ls hW hS hl h
        unfold f_X7_drawn_L137 at h
        refine lv_aload_n hx hb dX7_drawn_137 rfl (lv_at hl 0 rfl) ?_
        refine lv_sipush (v := 189) hx hb dX7_drawn_138 (by decide) ?_
        obtain ⟨q20, eq20, h⟩ := bdE h
        refine wd_callVv (ci := 7) (k := 370) CF hE hW hS (x_X7_passes l X 189 D eq20) mi_X7_passes vi_X7_passes tw913 ⟨by decide, rfl⟩ sh_370 ⟨rfl, rfl, Nat.le_of_ble_eq_true rfl, Nat.le_of_ble_eq_true rfl⟩ rfl hl.1 rfl (Nat.le_of_ble_eq_true rfl) dX7_drawn_141 ⟨Nat.le_of_ble_eq_true rfl, Nat.le_of_ble_eq_true rfl⟩ (fun H locs hW hS => ?_)
        refine lv_iload hx hb dX7_drawn_144 (lv_at hl 4 rfl) ?_
        refine lv_aload_n hx hb dX7_drawn_146 rfl (lv_at hl 0 rfl) ?_
        refine lv_sipush (v := 189) hx hb dX7_drawn_147 (by decide) ?_
        refine lv_iconst (v := 1) hx hb dX7_drawn_150 (by decide) ?_
        obtain ⟨x21, ex21, h⟩ := bdE h
        refine wd_callVr (ci := 7) (k := 370) CF hE hW hS (x_X7_thoseWho l X 189 1 q20 ex21) mi_X7_thoseWho vi_X7_thoseWho tw947 ⟨by decide, rfl⟩ sh_370 ⟨rfl, rfl, Nat.le_of_ble_eq_true rfl, Nat.le_of_ble_eq_true rfl⟩ rfl hl.1 rfl (Nat.le_of_ble_eq_true rfl) dX7_drawn_151 ⟨Nat.le_of_ble_eq_true rfl, Nat.le_of_ble_eq_true rfl⟩ (fun H locs hW hS => ?_)
        refine lv_if_eq (tgt := 161) hx hb dX7_drawn_154 (by decide) (fun c22 => ?_) (fun c22 => ?_)
        · rw [if_pos c22] at h
          refine lv_iconst (v := 0) hx hb dX7_drawn_161 (by decide) ?_
          exact hL162 v4 v7 0 v6 q20 _ _ _  hW hS (lv_sub hl [0, 1, 2, 3, 5] rfl) h
        · rw [if_neg c22] at h
          refine lv_iconst (v := 1) hx hb dX7_drawn_157 (by decide) ?_
          refine lv_goto (tgt := 162) hx hb dX7_drawn_158 (by decide) ?_
          exact hL162 v4 v7 1 v6 q20 _ _ _  hW hS (lv_sub hl [0, 1, 2, 3, 5] rfl) h
      have hL101 : ∀ (v4 : Int64) (v6 : Int32) (v7 : Int32) (D : wd_D) (H : Heap) (locs : List Loc) (ls : Array Slot), Wd X S0 D H → va_S (wd_A X) s.heap H locs → lv_has ls 8 [(0, .ref (X.2.2.1 + 370)), (1, .int a1), (3, .int a3), (4, .long v4), (6, .int v6), (7, .int v7)] → f_X7_drawn_L101 (f_X7_drawn_L57 n57) a1 a2 a3 v4 v6 v7 D = some qv → W p l e ({ frames := 4, cells := 0, slots := 0, locals := 400 }) s m ([.ref (X.2.2.1 + 370), .int a1, .int a2, .int a3] : List Value).toArray below meth c H locs 0 0 (MQ below (wd_Q X S0 qv.2 (some (.int qv.1))) ([.ref (X.2.2.1 + 370), .int a1, .int a2, .int a3] : List Value).toArray s 0 0 (wd_A X)) (F0 m 101 ls []) := by
        intro v4 v6 v7 D H locs ls hW hS hl h
        unfold f_X7_drawn_L101 at h
        refine lv_lload hx hb dX7_drawn_101 (lv_at hl 3 rfl) ?_
        refine lv_ldc2 (v := 7) hx hb hown (hts _ tw817) dX7_drawn_103 ?_
        refine lv_lrem hx hb dX7_drawn_106 (by decide) ?_
        refine lv_lconst (v := 0) hx hb dX7_drawn_107 (by decide) ?_
        refine W.lcmp hx hb dX7_drawn_108 ?_
        refine lv_if_ne (tgt := 137) hx hb dX7_drawn_109 (by decide) (fun c15 => ?_) (fun c15 => ?_)
        · rw [if_neg c15] at h
          exact hL137 v4 v6 v7 D _ _ _  hW hS (lv_sub hl [0, 1, 2, 3, 4, 5] rfl) h
        · rw [if_pos c15] at h
          refine lv_aload_n hx hb dX7_drawn_112 rfl (lv_at hl 0 rfl) ?_
          refine wd_getR CF hE hW fl_X7_7 sh_370 rf_370_0 rfl dX7_drawn_113 ?_
          refine lv_sipush (v := 225) hx hb dX7_drawn_116 (by decide) ?_
          refine lv_dup2_11 hx hb dX7_drawn_119 rfl rfl ?_
          obtain ⟨x16, ex16, h⟩ := bdE h
          refine wd_iald CF hE hW sh_371 ex16 dX7_drawn_120 ?_
          refine lv_iconst (v := 1) hx hb dX7_drawn_121 (by decide) ?_
          refine lv_lload hx hb dX7_drawn_122 (lv_at hl 3 rfl) ?_
          refine lv_aload_n hx hb dX7_drawn_124 rfl (lv_at hl 0 rfl) ?_
          refine wd_getR CF hE hW fl_X7_7 sh_370 rf_370_0 rfl dX7_drawn_125 ?_
          refine lv_bipush (v := 41) hx hb dX7_drawn_128 (by decide) ?_
          obtain ⟨x17, ex17, h⟩ := bdE h
          refine wd_iald CF hE hW sh_371 ex17 dX7_drawn_130 ?_
          refine lv_i2l hx hb dX7_drawn_131 rfl ?_
          obtain ⟨x18, ex18, h⟩ := bdE h
          have nx18 := (nzL_e ex18).2
          refine lv_lrem hx hb dX7_drawn_132 nx18 ?_
          refine lv_l2i hx hb dX7_drawn_133 rfl ?_
          refine lv_ishl hx hb dX7_drawn_134 ?_
          refine lv_ior hx hb dX7_drawn_135 ?_
          obtain ⟨D19, eD19, h⟩ := bdE h
          refine wd_iast CF hE hW hS sh_371 eD19 dX7_drawn_136 (fun H locs hW hS => ?_)
          exact hL137 v4 v6 v7 D19 _ _ _  hW hS (lv_sub hl [0, 1, 2, 3, 4, 5] rfl) h
      intro v4 v6 v7 D H locs ls hW hS hl h
      rw [f_X7_drawn_L57] at h
      refine lv_iload hx hb dX7_drawn_57 (lv_at hl 5 rfl) ?_
      refine lv_iload_n hx hb dX7_drawn_59 rfl (lv_at hl 1 rfl) ?_
      refine lv_icmp_ge (tgt := 171) hx hb dX7_drawn_60 (by decide) (fun c8 => ?_) (fun c8 => ?_)
      · rw [if_pos c8] at h
        refine lv_iload_n hx hb dX7_drawn_171 rfl (lv_at hl 2 rfl) ?_
        refine lv_if_ne (tgt := 189) hx hb dX7_drawn_172 (by decide) (fun c9 => ?_) (fun c9 => ?_)
        · rw [if_neg c9] at h
          refine lv_iload hx hb dX7_drawn_189 (lv_at hl 4 rfl) ?_
          have h := Option.some.inj h
          subst h
          exact wd_iret CF hret hlk hW hS dX7_drawn_191
        · rw [if_pos c9] at h
          refine lv_aload_n hx hb dX7_drawn_175 rfl (lv_at hl 0 rfl) ?_
          refine lv_sipush (v := 189) hx hb dX7_drawn_176 (by decide) ?_
          refine lv_iconst (v := 2) hx hb dX7_drawn_179 (by decide) ?_
          obtain ⟨x10, ex10, h⟩ := bdE h
          refine wd_callVr (ci := 7) (k := 370) CF hE hW hS (x_X7_thoseWho l X 189 2 D ex10) mi_X7_thoseWho vi_X7_thoseWho tw947 ⟨by decide, rfl⟩ sh_370 ⟨rfl, rfl, Nat.le_of_ble_eq_true rfl, Nat.le_of_ble_eq_true rfl⟩ rfl hl.1 rfl (Nat.le_of_ble_eq_true rfl) dX7_drawn_180 ⟨Nat.le_of_ble_eq_true rfl, Nat.le_of_ble_eq_true rfl⟩ (fun H locs hW hS => ?_)
          obtain ⟨x11, ex11, h⟩ := bdE h
          refine wd_callSr CF hE hW hS (x_X7_ones l X x10 D ex11) mi_X7_ones vi_X7_ones tw959 ⟨rfl, rfl, Nat.le_of_ble_eq_true rfl, Nat.le_of_ble_eq_true rfl⟩ rfl hl.1 rfl (Nat.le_of_ble_eq_true rfl) dX7_drawn_183 ⟨Nat.le_of_ble_eq_true rfl, Nat.le_of_ble_eq_true rfl⟩ (fun H locs hW hS => ?_)
          refine lv_goto (tgt := 191) hx hb dX7_drawn_186 (by decide) ?_
          have h := Option.some.inj h
          subst h
          exact wd_iret CF hret hlk hW hS dX7_drawn_191
      · rw [if_neg c8] at h
        refine lv_lload hx hb dX7_drawn_63 (lv_at hl 3 rfl) ?_
        refine lv_ldc2 (v := 16807) hx hb hown (hts _ tw1093) dX7_drawn_65 ?_
        refine lv_lmul hx hb dX7_drawn_68 ?_
        refine lv_ldc2 (v := 2147483647) hx hb hown (hts _ tw1094) dX7_drawn_69 ?_
        refine lv_lrem hx hb dX7_drawn_72 (by decide) ?_
        refine lv_topl (fun x12 ex12 => ?_)
        replace h := apR ex12 h
        refine lv_lstore (lv' := [(4, .long x12), (0, .ref (X.2.2.1 + 370)), (1, .int a1), (3, .int a3), (6, .int v6), (7, .int v7)]) hx hb dX7_drawn_73 hl (by decide) rfl (fun ls hl => ?_)
        refine lv_lload hx hb dX7_drawn_75 (lv_at hl 0 rfl) ?_
        refine lv_ldc2 (v := 6) hx hb hown (hts _ tw1095) dX7_drawn_77 ?_
        refine lv_lrem hx hb dX7_drawn_80 (by decide) ?_
        refine lv_lconst (v := 0) hx hb dX7_drawn_81 (by decide) ?_
        refine W.lcmp hx hb dX7_drawn_82 ?_
        refine lv_if_ne (tgt := 101) hx hb dX7_drawn_83 (by decide) (fun c13 => ?_) (fun c13 => ?_)
        · rw [if_neg c13] at h
          exact hL101 x12 v6 v7 D _ _ _  hW hS (lv_sub hl [1, 2, 3, 0, 4, 5] rfl) h
        · rw [if_pos c13] at h
          refine lv_aload_n hx hb dX7_drawn_86 rfl (lv_at hl 1 rfl) ?_
          refine lv_sipush (v := 189) hx hb dX7_drawn_87 (by decide) ?_
          refine lv_lload hx hb dX7_drawn_90 (lv_at hl 0 rfl) ?_
          refine lv_ldc2 (v := 20) hx hb hown (hts _ tw1096) dX7_drawn_92 ?_
          refine lv_lrem hx hb dX7_drawn_95 (by decide) ?_
          refine lv_l2i hx hb dX7_drawn_96 rfl ?_
          obtain ⟨q14, eq14, h⟩ := bdE h
          refine wd_callVr (ci := 7) (k := 370) CF hE hW hS (x_X7_rolls l X 189 ((x12 - x12 / 20 * 20).toInt32) D eq14) mi_X7_rolls vi_X7_rolls tw979 ⟨by decide, rfl⟩ sh_370 ⟨rfl, rfl, Nat.le_of_ble_eq_true rfl, Nat.le_of_ble_eq_true rfl⟩ rfl hl.1 rfl (Nat.le_of_ble_eq_true rfl) dX7_drawn_97 ⟨Nat.le_of_ble_eq_true rfl, Nat.le_of_ble_eq_true rfl⟩ (fun H locs hW hS => ?_)
          refine lv_pop hx hb dX7_drawn_100 rfl ?_
          exact hL101 x12 v6 v7 q14.2 _ _ _  hW hS (lv_sub hl [1, 2, 3, 0, 4, 5] rfl) h
  refine lv_aload_n hx hb dX7_drawn_0 rfl (lv_at hl 0 rfl) ?_
  obtain ⟨x1, ex1, h⟩ := bdE h
  refine wd_callVr (ci := 7) (k := 370) CF hE hW hS (x_X7_isRoom l X D ex1) mi_X7_isRoom vi_X7_isRoom tw904 ⟨by decide, rfl⟩ sh_370 ⟨rfl, rfl, Nat.le_of_ble_eq_true rfl, Nat.le_of_ble_eq_true rfl⟩ rfl hl.1 rfl (Nat.le_of_ble_eq_true rfl) dX7_drawn_1 ⟨Nat.le_of_ble_eq_true rfl, Nat.le_of_ble_eq_true rfl⟩ (fun H locs hW hS => ?_)
  refine lv_if_ne (tgt := 10) hx hb dX7_drawn_4 (by decide) (fun c2 => ?_) (fun c2 => ?_)
  · rw [if_neg c2] at h
    refine lv_iload_n hx hb dX7_drawn_10 rfl (lv_at hl 1 rfl) ?_
    refine lv_iconst (v := 0) hx hb dX7_drawn_11 (by decide) ?_
    refine wd_callSr CF hE hW hS (x_X7_isSpan l X a1 0 D) mi_X7_isSpan vi_X7_isSpan tw1000 ⟨rfl, rfl, Nat.le_of_ble_eq_true rfl, Nat.le_of_ble_eq_true rfl⟩ rfl hl.1 rfl (Nat.le_of_ble_eq_true rfl) dX7_drawn_12 ⟨Nat.le_of_ble_eq_true rfl, Nat.le_of_ble_eq_true rfl⟩ (fun H locs hW hS => ?_)
    refine lv_if_eq (tgt := 40) hx hb dX7_drawn_15 (by decide) (fun c3 => ?_) (fun c3 => ?_)
    · rw [if_pos c3] at h
      refine lv_ldc (v := (-1000001)) hx hb hown (hts _ tw822) dX7_drawn_40 ?_
      have h := Option.some.inj h
      subst h
      exact wd_iret CF hret hlk hW hS dX7_drawn_42
    · rw [if_neg c3] at h
      refine lv_iload_n hx hb dX7_drawn_18 rfl (lv_at hl 2 rfl) ?_
      refine lv_i2l hx hb dX7_drawn_19 rfl ?_
      refine lv_lconst (v := 1) hx hb dX7_drawn_20 (by decide) ?_
      refine lv_ldc2 (v := 999999) hx hb hown (hts _ tw1092) dX7_drawn_21 ?_
      refine wd_callSr CF hE hW hS (x_X7_in l X a2.toInt64 1 999999 D) mi_X7_in vi_X7_in tw818 ⟨rfl, rfl, Nat.le_of_ble_eq_true rfl, Nat.le_of_ble_eq_true rfl⟩ rfl hl.1 rfl (Nat.le_of_ble_eq_true rfl) dX7_drawn_24 ⟨Nat.le_of_ble_eq_true rfl, Nat.le_of_ble_eq_true rfl⟩ (fun H locs hW hS => ?_)
      refine lv_if_eq (tgt := 40) hx hb dX7_drawn_27 (by decide) (fun c4 => ?_) (fun c4 => ?_)
      · rw [if_pos c4] at h
        refine lv_ldc (v := (-1000001)) hx hb hown (hts _ tw822) dX7_drawn_40 ?_
        have h := Option.some.inj h
        subst h
        exact wd_iret CF hret hlk hW hS dX7_drawn_42
      · rw [if_neg c4] at h
        refine lv_iload_n hx hb dX7_drawn_30 rfl (lv_at hl 3 rfl) ?_
        refine lv_i2l hx hb dX7_drawn_31 rfl ?_
        refine lv_lconst (v := 0) hx hb dX7_drawn_32 (by decide) ?_
        refine lv_lconst (v := 1) hx hb dX7_drawn_33 (by decide) ?_
        refine wd_callSr CF hE hW hS (x_X7_in l X a3.toInt64 0 1 D) mi_X7_in vi_X7_in tw818 ⟨rfl, rfl, Nat.le_of_ble_eq_true rfl, Nat.le_of_ble_eq_true rfl⟩ rfl hl.1 rfl (Nat.le_of_ble_eq_true rfl) dX7_drawn_34 ⟨Nat.le_of_ble_eq_true rfl, Nat.le_of_ble_eq_true rfl⟩ (fun H locs hW hS => ?_)
        refine lv_if_ne (tgt := 43) hx hb dX7_drawn_37 (by decide) (fun c5 => ?_) (fun c5 => ?_)
        · rw [if_neg c5] at h
          refine lv_aload_n hx hb dX7_drawn_43 rfl (lv_at hl 0 rfl) ?_
          obtain ⟨q6, eq6, h⟩ := bdE h
          refine wd_callVv (ci := 7) (k := 370) CF hE hW hS (x_X7_tries l X D eq6) mi_X7_tries vi_X7_tries tw1004 ⟨by decide, rfl⟩ sh_370 ⟨rfl, rfl, Nat.le_of_ble_eq_true rfl, Nat.le_of_ble_eq_true rfl⟩ rfl hl.1 rfl (Nat.le_of_ble_eq_true rfl) dX7_drawn_44 ⟨Nat.le_of_ble_eq_true rfl, Nat.le_of_ble_eq_true rfl⟩ (fun H locs hW hS => ?_)
          refine lv_iload_n hx hb dX7_drawn_47 rfl (lv_at hl 2 rfl) ?_
          refine lv_i2l hx hb dX7_drawn_48 rfl ?_
          refine lv_topl (fun x7 ex7 => ?_)
          replace h := apR ex7 h
          refine lv_lstore (lv' := [(4, .long x7), (0, .ref (X.2.2.1 + 370)), (1, .int a1), (2, .int a2), (3, .int a3)]) hx hb dX7_drawn_49 hl (by decide) rfl (fun ls hl => ?_)
          refine lv_iconst (v := 0) hx hb dX7_drawn_51 (by decide) ?_
          refine lv_istore (lv' := [(6, .int 0), (4, .long x7), (0, .ref (X.2.2.1 + 370)), (1, .int a1), (2, .int a2), (3, .int a3)]) hx hb dX7_drawn_52 hl (by decide) rfl (fun ls hl => ?_)
          refine lv_iconst (v := 0) hx hb dX7_drawn_54 (by decide) ?_
          refine lv_istore (lv' := [(7, .int 0), (6, .int 0), (4, .long x7), (0, .ref (X.2.2.1 + 370)), (1, .int a1), (2, .int a2), (3, .int a3)]) hx hb dX7_drawn_55 hl (by decide) rfl (fun ls hl => ?_)
          exact hL57 FU x7 0 0 q6 _ _ _  hW hS (lv_sub hl [3, 4, 6, 2, 1, 0] rfl) h
        · rw [if_pos c5] at h
          refine lv_ldc (v := (-1000001)) hx hb hown (hts _ tw822) dX7_drawn_40 ?_
          have h := Option.some.inj h
          subst h
          exact wd_iret CF hret hlk hW hS dX7_drawn_42
  · rw [if_pos c2] at h
    refine lv_ldc (v := (-1000002)) hx hb hown (hts _ tw899) dX7_drawn_7 ?_
    have h := Option.some.inj h
    subst h
    exact wd_iret CF hret hlk hW hS dX7_drawn_9
def f_X7_image (a1 : Int32) (D : wd_D) : Option (Int32 × wd_D) := (if (f_X7_in a1.toInt64 0 1) = 0 then some ((-1000001), D) else (f_X7_isRoom D).bind (fun x2 => (if x2 = 0 then some ((-1000002), D) else (f_X7_copyAll 0 (63 * (1 + a1)) D).bind (fun q4 => (wr 2 q4 372 a1 (vp_nar .boolean 1)).bind (fun D5 => some (1, D5))))))
set_option maxHeartbeats 4000000 in
set_option maxRecDepth 100000 in
theorem x_X7_image (l : Launch) (X : wd_X) (a1 : Int32) (D : wd_D) {qv : Int32 × wd_D} (h : f_X7_image a1 D = some qv) : wd_Met l X yX7_image cX7_image 2 (some FieldType.int) ({ frames := 1, cells := 0, slots := 0, locals := 100 }) S0 S0 ([.ref (X.2.2.1 + 370), .int a1] : List Value) D qv.2 (some (.int qv.1)) 0 0 := by
  refine wd_enter (by decide) (Nat.le_of_ble_eq_true rfl) ?_
  intro p e s m below meth c CF hret hlk hnm hW hE ls hl
  have CF : CallFix p m c cX7_image 2 s ([.ref (X.2.2.1 + 370), .int a1] : List Value).toArray tg RX7 := CF
  have hx := CF.1
  have hb := CF.2.1
  have hown := CF.2.2.2.1
  have hts := CF.2.2.2.2
  have hS : va_S (wd_A X) s.heap s.heap [] := va_S.rf
  have hl : lv_has ls 2 [(0, .ref (X.2.2.1 + 370)), (1, .int a1)] := hl
  unfold f_X7_image at h
  refine lv_iload_n hx hb dX7_image_0 rfl (lv_at hl 1 rfl) ?_
  refine lv_i2l hx hb dX7_image_1 rfl ?_
  refine lv_lconst (v := 0) hx hb dX7_image_2 (by decide) ?_
  refine lv_lconst (v := 1) hx hb dX7_image_3 (by decide) ?_
  refine wd_callSr CF hE hW hS (x_X7_in l X a1.toInt64 0 1 D) mi_X7_in vi_X7_in tw818 ⟨rfl, rfl, Nat.le_of_ble_eq_true rfl, Nat.le_of_ble_eq_true rfl⟩ rfl hl.1 rfl (Nat.le_of_ble_eq_true rfl) dX7_image_4 ⟨Nat.le_of_ble_eq_true rfl, Nat.le_of_ble_eq_true rfl⟩ (fun H locs hW hS => ?_)
  refine lv_if_ne (tgt := 13) hx hb dX7_image_7 (by decide) (fun c1 => ?_) (fun c1 => ?_)
  · rw [if_neg c1] at h
    refine lv_aload_n hx hb dX7_image_13 rfl (lv_at hl 0 rfl) ?_
    obtain ⟨x2, ex2, h⟩ := bdE h
    refine wd_callVr (ci := 7) (k := 370) CF hE hW hS (x_X7_isRoom l X D ex2) mi_X7_isRoom vi_X7_isRoom tw904 ⟨by decide, rfl⟩ sh_370 ⟨rfl, rfl, Nat.le_of_ble_eq_true rfl, Nat.le_of_ble_eq_true rfl⟩ rfl hl.1 rfl (Nat.le_of_ble_eq_true rfl) dX7_image_14 ⟨Nat.le_of_ble_eq_true rfl, Nat.le_of_ble_eq_true rfl⟩ (fun H locs hW hS => ?_)
    refine lv_if_ne (tgt := 23) hx hb dX7_image_17 (by decide) (fun c3 => ?_) (fun c3 => ?_)
    · rw [if_neg c3] at h
      refine lv_aload_n hx hb dX7_image_23 rfl (lv_at hl 0 rfl) ?_
      refine lv_iconst (v := 0) hx hb dX7_image_24 (by decide) ?_
      refine lv_bipush (v := 63) hx hb dX7_image_25 (by decide) ?_
      refine lv_iconst (v := 1) hx hb dX7_image_27 (by decide) ?_
      refine lv_iload_n hx hb dX7_image_28 rfl (lv_at hl 1 rfl) ?_
      refine lv_iadd hx hb dX7_image_29 ?_
      refine lv_imul hx hb dX7_image_30 ?_
      obtain ⟨q4, eq4, h⟩ := bdE h
      refine wd_callVv (ci := 7) (k := 370) CF hE hW hS (x_X7_copyAll l X 0 (63 * (1 + a1)) D eq4) mi_X7_copyAll vi_X7_copyAll tw887 ⟨by decide, rfl⟩ sh_370 ⟨rfl, rfl, Nat.le_of_ble_eq_true rfl, Nat.le_of_ble_eq_true rfl⟩ rfl hl.1 rfl (Nat.le_of_ble_eq_true rfl) dX7_image_31 ⟨Nat.le_of_ble_eq_true rfl, Nat.le_of_ble_eq_true rfl⟩ (fun H locs hW hS => ?_)
      refine lv_aload_n hx hb dX7_image_34 rfl (lv_at hl 0 rfl) ?_
      refine wd_getR CF hE hW fl_X7_13 sh_370 rf_370_1 rfl dX7_image_35 ?_
      refine lv_iload_n hx hb dX7_image_38 rfl (lv_at hl 1 rfl) ?_
      refine lv_iconst (v := 1) hx hb dX7_image_39 (by decide) ?_
      obtain ⟨D5, eD5, h⟩ := bdE h
      refine wd_zast CF hE hW hS sh_372 eD5 dX7_image_40 (fun H locs hW hS => ?_)
      refine lv_iconst (v := 1) hx hb dX7_image_41 (by decide) ?_
      have h := Option.some.inj h
      subst h
      exact wd_iret CF hret hlk hW hS dX7_image_42
    · rw [if_pos c3] at h
      refine lv_ldc (v := (-1000002)) hx hb hown (hts _ tw899) dX7_image_20 ?_
      have h := Option.some.inj h
      subst h
      exact wd_iret CF hret hlk hW hS dX7_image_22
  · rw [if_pos c1] at h
    refine lv_ldc (v := (-1000001)) hx hb hown (hts _ tw822) dX7_image_10 ?_
    have h := Option.some.inj h
    subst h
    exact wd_iret CF hret hlk hW hS dX7_image_12
def f_X7_restore (a1 : Int32) (D : wd_D) : Option (Int32 × wd_D) := (if (f_X7_in a1.toInt64 0 1) = 0 then some ((-1000001), D) else (rd 2 D 372 a1).bind (fun x2 => (if x2 = 0 then some ((-1000002), D) else (f_X7_copyAll (63 * (1 + a1)) 0 D).bind (fun q4 => ap (sI q4 370 3 0) (fun D5 => some (1, D5))))))
set_option maxHeartbeats 4000000 in
set_option maxRecDepth 100000 in
theorem x_X7_restore (l : Launch) (X : wd_X) (a1 : Int32) (D : wd_D) {qv : Int32 × wd_D} (h : f_X7_restore a1 D = some qv) : wd_Met l X yX7_restore cX7_restore 2 (some FieldType.int) ({ frames := 1, cells := 0, slots := 0, locals := 100 }) S0 S0 ([.ref (X.2.2.1 + 370), .int a1] : List Value) D qv.2 (some (.int qv.1)) 0 0 := by
  refine wd_enter (by decide) (Nat.le_of_ble_eq_true rfl) ?_
  intro p e s m below meth c CF hret hlk hnm hW hE ls hl
  have CF : CallFix p m c cX7_restore 2 s ([.ref (X.2.2.1 + 370), .int a1] : List Value).toArray tg RX7 := CF
  have hx := CF.1
  have hb := CF.2.1
  have hown := CF.2.2.2.1
  have hts := CF.2.2.2.2
  have hS : va_S (wd_A X) s.heap s.heap [] := va_S.rf
  have hl : lv_has ls 2 [(0, .ref (X.2.2.1 + 370)), (1, .int a1)] := hl
  unfold f_X7_restore at h
  refine lv_iload_n hx hb dX7_restore_0 rfl (lv_at hl 1 rfl) ?_
  refine lv_i2l hx hb dX7_restore_1 rfl ?_
  refine lv_lconst (v := 0) hx hb dX7_restore_2 (by decide) ?_
  refine lv_lconst (v := 1) hx hb dX7_restore_3 (by decide) ?_
  refine wd_callSr CF hE hW hS (x_X7_in l X a1.toInt64 0 1 D) mi_X7_in vi_X7_in tw818 ⟨rfl, rfl, Nat.le_of_ble_eq_true rfl, Nat.le_of_ble_eq_true rfl⟩ rfl hl.1 rfl (Nat.le_of_ble_eq_true rfl) dX7_restore_4 ⟨Nat.le_of_ble_eq_true rfl, Nat.le_of_ble_eq_true rfl⟩ (fun H locs hW hS => ?_)
  refine lv_if_ne (tgt := 13) hx hb dX7_restore_7 (by decide) (fun c1 => ?_) (fun c1 => ?_)
  · rw [if_neg c1] at h
    refine lv_aload_n hx hb dX7_restore_13 rfl (lv_at hl 0 rfl) ?_
    refine wd_getR CF hE hW fl_X7_13 sh_370 rf_370_1 rfl dX7_restore_14 ?_
    refine lv_iload_n hx hb dX7_restore_17 rfl (lv_at hl 1 rfl) ?_
    obtain ⟨x2, ex2, h⟩ := bdE h
    refine wd_zald CF hE hW sh_372 ex2 dX7_restore_18 ?_
    refine lv_if_ne (tgt := 25) hx hb dX7_restore_19 (by decide) (fun c3 => ?_) (fun c3 => ?_)
    · rw [if_neg c3] at h
      refine lv_aload_n hx hb dX7_restore_25 rfl (lv_at hl 0 rfl) ?_
      refine lv_bipush (v := 63) hx hb dX7_restore_26 (by decide) ?_
      refine lv_iconst (v := 1) hx hb dX7_restore_28 (by decide) ?_
      refine lv_iload_n hx hb dX7_restore_29 rfl (lv_at hl 1 rfl) ?_
      refine lv_iadd hx hb dX7_restore_30 ?_
      refine lv_imul hx hb dX7_restore_31 ?_
      refine lv_iconst (v := 0) hx hb dX7_restore_32 (by decide) ?_
      obtain ⟨q4, eq4, h⟩ := bdE h
      refine wd_callVv (ci := 7) (k := 370) CF hE hW hS (x_X7_copyAll l X (63 * (1 + a1)) 0 D eq4) mi_X7_copyAll vi_X7_copyAll tw887 ⟨by decide, rfl⟩ sh_370 ⟨rfl, rfl, Nat.le_of_ble_eq_true rfl, Nat.le_of_ble_eq_true rfl⟩ rfl hl.1 rfl (Nat.le_of_ble_eq_true rfl) dX7_restore_33 ⟨Nat.le_of_ble_eq_true rfl, Nat.le_of_ble_eq_true rfl⟩ (fun H locs hW hS => ?_)
      refine lv_aload_n hx hb dX7_restore_36 rfl (lv_at hl 0 rfl) ?_
      refine lv_iconst (v := 0) hx hb dX7_restore_37 (by decide) ?_
      refine wd_putI CF hE hW hS fl_X7_120 sh_370 rfl rfl dX7_restore_38 (fun D5 H locs eD5 hW hS => ?_)
      replace h := apR eD5 h
      refine lv_iconst (v := 1) hx hb dX7_restore_41 (by decide) ?_
      have h := Option.some.inj h
      subst h
      exact wd_iret CF hret hlk hW hS dX7_restore_42
    · rw [if_pos c3] at h
      refine lv_ldc (v := (-1000002)) hx hb hown (hts _ tw899) dX7_restore_22 ?_
      have h := Option.some.inj h
      subst h
      exact wd_iret CF hret hlk hW hS dX7_restore_24
  · rw [if_pos c1] at h
    refine lv_ldc (v := (-1000001)) hx hb hown (hts _ tw822) dX7_restore_10 ?_
    have h := Option.some.inj h
    subst h
    exact wd_iret CF hret hlk hW hS dX7_restore_12
def f_X7_kind (a1 : Int32) (D : wd_D) : Option (Int32) := (f_X7_isChild a1 D).bind (fun x1 => (if x1 = 0 then some (-1000001) else (rd 252 D 371 (42 + a1)).bind (fun x3 => some x3)))
set_option maxHeartbeats 4000000 in
set_option maxRecDepth 100000 in
theorem x_X7_kind (l : Launch) (X : wd_X) (a1 : Int32) (D : wd_D) {rv : Int32} (h : f_X7_kind a1 D = some rv) : wd_Met l X yX7_kind cX7_kind 2 (some FieldType.int) ({ frames := 2, cells := 0, slots := 0, locals := 200 }) S0 S0 ([.ref (X.2.2.1 + 370), .int a1] : List Value) D D (some (.int rv)) 0 0 := by
  refine wd_enter (by decide) (Nat.le_of_ble_eq_true rfl) ?_
  intro p e s m below meth c CF hret hlk hnm hW hE ls hl
  have CF : CallFix p m c cX7_kind 2 s ([.ref (X.2.2.1 + 370), .int a1] : List Value).toArray tg RX7 := CF
  have hx := CF.1
  have hb := CF.2.1
  have hown := CF.2.2.2.1
  have hts := CF.2.2.2.2
  have hS : va_S (wd_A X) s.heap s.heap [] := va_S.rf
  have hl : lv_has ls 2 [(0, .ref (X.2.2.1 + 370)), (1, .int a1)] := hl
  unfold f_X7_kind at h
  refine lv_aload_n hx hb dX7_kind_0 rfl (lv_at hl 0 rfl) ?_
  refine lv_iload_n hx hb dX7_kind_1 rfl (lv_at hl 1 rfl) ?_
  obtain ⟨x1, ex1, h⟩ := bdE h
  refine wd_callVr (ci := 7) (k := 370) CF hE hW hS (x_X7_isChild l X a1 D ex1) mi_X7_isChild vi_X7_isChild tw955 ⟨by decide, rfl⟩ sh_370 ⟨rfl, rfl, Nat.le_of_ble_eq_true rfl, Nat.le_of_ble_eq_true rfl⟩ rfl hl.1 rfl (Nat.le_of_ble_eq_true rfl) dX7_kind_2 ⟨Nat.le_of_ble_eq_true rfl, Nat.le_of_ble_eq_true rfl⟩ (fun H locs hW hS => ?_)
  refine lv_if_eq (tgt := 20) hx hb dX7_kind_5 (by decide) (fun c2 => ?_) (fun c2 => ?_)
  · rw [if_pos c2] at h
    refine lv_ldc (v := (-1000001)) hx hb hown (hts _ tw822) dX7_kind_20 ?_
    have h := Option.some.inj h
    subst h
    exact wd_iret CF hret hlk hW hS dX7_kind_22
  · rw [if_neg c2] at h
    refine lv_aload_n hx hb dX7_kind_8 rfl (lv_at hl 0 rfl) ?_
    refine wd_getR CF hE hW fl_X7_7 sh_370 rf_370_0 rfl dX7_kind_9 ?_
    refine lv_bipush (v := 42) hx hb dX7_kind_12 (by decide) ?_
    refine lv_iload_n hx hb dX7_kind_14 rfl (lv_at hl 1 rfl) ?_
    refine lv_iadd hx hb dX7_kind_15 ?_
    obtain ⟨x3, ex3, h⟩ := bdE h
    refine wd_iald CF hE hW sh_371 ex3 dX7_kind_16 ?_
    refine lv_goto (tgt := 22) hx hb dX7_kind_17 (by decide) ?_
    have h := Option.some.inj h
    subst h
    exact wd_iret CF hret hlk hW hS dX7_kind_22
def f_X7_as_L67  (a1 : Int32) (a2 : Int32) (z0 : Int32) (D : wd_D) : Option (Int32 × wd_D) := (if z0 = 0 then ap (f_X7_found 3 D) (fun q12 => some (q12.1, q12.2)) else ap (f_X7_good a1 D) (fun q13 => some (q13.1, q13.2)))
def f_X7_as_L66  (a1 : Int32) (a2 : Int32) (D : wd_D) : Option (Int32 × wd_D) := f_X7_as_L67 a1 a2 0 D
def f_X7_as_L62  (a1 : Int32) (a2 : Int32) (D : wd_D) : Option (Int32 × wd_D) := f_X7_as_L67 a1 a2 1 D
def f_X7_as_L52  (a1 : Int32) (a2 : Int32) (v3 : Int32) (D : wd_D) : Option (Int32 × wd_D) := (if a2 = 4 then (if v3 = 5 then f_X7_as_L62 a1 a2 D else f_X7_as_L66 a1 a2 D) else f_X7_as_L66 a1 a2 D)
def f_X7_as (a1 : Int32) (a2 : Int32) (D : wd_D) : Option (Int32 × wd_D) := (f_X7_isChild a1 D).bind (fun x1 => (if x1 = 0 then some ((-1000001), D) else (if (f_X7_in a2.toInt64 0 5) = 0 then some ((-1000001), D) else (rd 252 D 371 (42 + a1)).bind (fun x4 => (if a2 = 0 then f_X7_as_L62 a1 a2 D else (if a2 = x4 then f_X7_as_L62 a1 a2 D else (if a2 = 1 then (if x4 < 4 then f_X7_as_L62 a1 a2 D else f_X7_as_L52 a1 a2 x4 D) else f_X7_as_L52 a1 a2 x4 D)))))))
set_option maxHeartbeats 4000000 in
set_option maxRecDepth 100000 in
theorem x_X7_as (l : Launch) (X : wd_X) (a1 : Int32) (a2 : Int32) (D : wd_D) {qv : Int32 × wd_D} (h : f_X7_as a1 a2 D = some qv) : wd_Met l X yX7_as cX7_as 5 (some FieldType.int) ({ frames := 2, cells := 0, slots := 0, locals := 200 }) S0 S0 ([.ref (X.2.2.1 + 370), .int a1, .int a2] : List Value) D qv.2 (some (.int qv.1)) 0 0 := by
  refine wd_enter (by decide) (Nat.le_of_ble_eq_true rfl) ?_
  intro p e s m below meth c CF hret hlk hnm hW hE ls hl
  have CF : CallFix p m c cX7_as 5 s ([.ref (X.2.2.1 + 370), .int a1, .int a2] : List Value).toArray tg RX7 := CF
  have hx := CF.1
  have hb := CF.2.1
  have hown := CF.2.2.2.1
  have hts := CF.2.2.2.2
  have hS : va_S (wd_A X) s.heap s.heap [] := va_S.rf
  have hl : lv_has ls 5 [(0, .ref (X.2.2.1 + 370)), (1, .int a1), (2, .int a2)] := hl
  unfold f_X7_as at h
  have hL67 : ∀ (z0 : Int32) (D : wd_D) (H : Heap) (locs : List Loc) (ls : Array Slot), Wd X S0 D H → va_S (wd_A X) s.heap H locs → lv_has ls 5 [(0, .ref (X.2.2.1 + 370)), (1, .int a1)] → f_X7_as_L67 a1 a2 z0 D = some qv → W p l e ({ frames := 2, cells := 0, slots := 0, locals := 200 }) s m ([.ref (X.2.2.1 + 370), .int a1, .int a2] : List Value).toArray below meth c H locs 0 0 (MQ below (wd_Q X S0 qv.2 (some (.int qv.1))) ([.ref (X.2.2.1 + 370), .int a1, .int a2] : List Value).toArray s 0 0 (wd_A X)) (F0 m 67 ls [.int z0]) := by
    intro z0 D H locs ls hW hS hl h
    unfold f_X7_as_L67 at h
    refine lv_istore (lv' := [(4, .int z0), (0, .ref (X.2.2.1 + 370)), (1, .int a1)]) hx hb dX7_as_67 hl (by decide) rfl (fun ls hl => ?_)
    refine lv_iload hx hb dX7_as_69 (lv_at hl 0 rfl) ?_
    refine lv_if_eq (tgt := 82) hx hb dX7_as_71 (by decide) (fun c11 => ?_) (fun c11 => ?_)
    · rw [if_pos c11] at h
      refine lv_aload_n hx hb dX7_as_82 rfl (lv_at hl 1 rfl) ?_
      refine lv_iconst (v := 3) hx hb dX7_as_83 (by decide) ?_
      obtain ⟨q12, eq12⟩ : ∃ q, q = f_X7_found 3 D := ⟨_, rfl⟩
      replace h := apR eq12 h
      refine wd_callVr (ci := 7) (k := 370) CF hE hW hS (x_X7_found l X 3 D eq12.symm) mi_X7_found vi_X7_found tw823 ⟨by decide, rfl⟩ sh_370 ⟨rfl, rfl, Nat.le_of_ble_eq_true rfl, Nat.le_of_ble_eq_true rfl⟩ rfl hl.1 rfl (Nat.le_of_ble_eq_true rfl) dX7_as_84 ⟨Nat.le_of_ble_eq_true rfl, Nat.le_of_ble_eq_true rfl⟩ (fun H locs hW hS => ?_)
      have h := Option.some.inj h
      subst h
      exact wd_iret CF hret hlk hW hS dX7_as_87
    · rw [if_neg c11] at h
      refine lv_aload_n hx hb dX7_as_74 rfl (lv_at hl 1 rfl) ?_
      refine lv_iload_n hx hb dX7_as_75 rfl (lv_at hl 2 rfl) ?_
      obtain ⟨q13, eq13⟩ : ∃ q, q = f_X7_good a1 D := ⟨_, rfl⟩
      replace h := apR eq13 h
      refine wd_callVr (ci := 7) (k := 370) CF hE hW hS (x_X7_good l X a1 D eq13.symm) mi_X7_good vi_X7_good tw828 ⟨by decide, rfl⟩ sh_370 ⟨rfl, rfl, Nat.le_of_ble_eq_true rfl, Nat.le_of_ble_eq_true rfl⟩ rfl hl.1 rfl (Nat.le_of_ble_eq_true rfl) dX7_as_76 ⟨Nat.le_of_ble_eq_true rfl, Nat.le_of_ble_eq_true rfl⟩ (fun H locs hW hS => ?_)
      refine lv_goto (tgt := 87) hx hb dX7_as_79 (by decide) ?_
      have h := Option.some.inj h
      subst h
      exact wd_iret CF hret hlk hW hS dX7_as_87
  have hL66 : ∀  (D : wd_D) (H : Heap) (locs : List Loc) (ls : Array Slot), Wd X S0 D H → va_S (wd_A X) s.heap H locs → lv_has ls 5 [(0, .ref (X.2.2.1 + 370)), (1, .int a1)] → f_X7_as_L66 a1 a2 D = some qv → W p l e ({ frames := 2, cells := 0, slots := 0, locals := 200 }) s m ([.ref (X.2.2.1 + 370), .int a1, .int a2] : List Value).toArray below meth c H locs 0 0 (MQ below (wd_Q X S0 qv.2 (some (.int qv.1))) ([.ref (X.2.2.1 + 370), .int a1, .int a2] : List Value).toArray s 0 0 (wd_A X)) (F0 m 66 ls []) := by
    intro D H locs ls hW hS hl h
    unfold f_X7_as_L66 at h
    refine lv_iconst (v := 0) hx hb dX7_as_66 (by decide) ?_
    exact hL67 0 D _ _ _  hW hS (lv_sub hl [0, 1] rfl) h
  have hL62 : ∀  (D : wd_D) (H : Heap) (locs : List Loc) (ls : Array Slot), Wd X S0 D H → va_S (wd_A X) s.heap H locs → lv_has ls 5 [(0, .ref (X.2.2.1 + 370)), (1, .int a1)] → f_X7_as_L62 a1 a2 D = some qv → W p l e ({ frames := 2, cells := 0, slots := 0, locals := 200 }) s m ([.ref (X.2.2.1 + 370), .int a1, .int a2] : List Value).toArray below meth c H locs 0 0 (MQ below (wd_Q X S0 qv.2 (some (.int qv.1))) ([.ref (X.2.2.1 + 370), .int a1, .int a2] : List Value).toArray s 0 0 (wd_A X)) (F0 m 62 ls []) := by
    intro D H locs ls hW hS hl h
    unfold f_X7_as_L62 at h
    refine lv_iconst (v := 1) hx hb dX7_as_62 (by decide) ?_
    refine lv_goto (tgt := 67) hx hb dX7_as_63 (by decide) ?_
    exact hL67 1 D _ _ _  hW hS (lv_sub hl [0, 1] rfl) h
  have hL52 : ∀ (v3 : Int32) (D : wd_D) (H : Heap) (locs : List Loc) (ls : Array Slot), Wd X S0 D H → va_S (wd_A X) s.heap H locs → lv_has ls 5 [(0, .ref (X.2.2.1 + 370)), (1, .int a1), (2, .int a2), (3, .int v3)] → f_X7_as_L52 a1 a2 v3 D = some qv → W p l e ({ frames := 2, cells := 0, slots := 0, locals := 200 }) s m ([.ref (X.2.2.1 + 370), .int a1, .int a2] : List Value).toArray below meth c H locs 0 0 (MQ below (wd_Q X S0 qv.2 (some (.int qv.1))) ([.ref (X.2.2.1 + 370), .int a1, .int a2] : List Value).toArray s 0 0 (wd_A X)) (F0 m 52 ls []) := by
    intro v3 D H locs ls hW hS hl h
    unfold f_X7_as_L52 at h
    refine lv_iload_n hx hb dX7_as_52 rfl (lv_at hl 2 rfl) ?_
    refine lv_iconst (v := 4) hx hb dX7_as_53 (by decide) ?_
    refine lv_icmp_ne (tgt := 66) hx hb dX7_as_54 (by decide) (fun c9 => ?_) (fun c9 => ?_)
    · rw [if_neg c9] at h
      exact hL66  D _ _ _  hW hS (lv_sub hl [0, 1] rfl) h
    · rw [if_pos c9] at h
      refine lv_iload_n hx hb dX7_as_57 rfl (lv_at hl 3 rfl) ?_
      refine lv_iconst (v := 5) hx hb dX7_as_58 (by decide) ?_
      refine lv_icmp_ne (tgt := 66) hx hb dX7_as_59 (by decide) (fun c10 => ?_) (fun c10 => ?_)
      · rw [if_neg c10] at h
        exact hL66  D _ _ _  hW hS (lv_sub hl [0, 1] rfl) h
      · rw [if_pos c10] at h
        exact hL62  D _ _ _  hW hS (lv_sub hl [0, 1] rfl) h
  refine lv_aload_n hx hb dX7_as_0 rfl (lv_at hl 0 rfl) ?_
  refine lv_iload_n hx hb dX7_as_1 rfl (lv_at hl 1 rfl) ?_
  obtain ⟨x1, ex1, h⟩ := bdE h
  refine wd_callVr (ci := 7) (k := 370) CF hE hW hS (x_X7_isChild l X a1 D ex1) mi_X7_isChild vi_X7_isChild tw955 ⟨by decide, rfl⟩ sh_370 ⟨rfl, rfl, Nat.le_of_ble_eq_true rfl, Nat.le_of_ble_eq_true rfl⟩ rfl hl.1 rfl (Nat.le_of_ble_eq_true rfl) dX7_as_2 ⟨Nat.le_of_ble_eq_true rfl, Nat.le_of_ble_eq_true rfl⟩ (fun H locs hW hS => ?_)
  refine lv_if_eq (tgt := 20) hx hb dX7_as_5 (by decide) (fun c2 => ?_) (fun c2 => ?_)
  · rw [if_pos c2] at h
    refine lv_ldc (v := (-1000001)) hx hb hown (hts _ tw822) dX7_as_20 ?_
    have h := Option.some.inj h
    subst h
    exact wd_iret CF hret hlk hW hS dX7_as_22
  · rw [if_neg c2] at h
    refine lv_iload_n hx hb dX7_as_8 rfl (lv_at hl 2 rfl) ?_
    refine lv_i2l hx hb dX7_as_9 rfl ?_
    refine lv_lconst (v := 0) hx hb dX7_as_10 (by decide) ?_
    refine lv_ldc2 (v := 5) hx hb hown (hts _ tw1113) dX7_as_11 ?_
    refine wd_callSr CF hE hW hS (x_X7_in l X a2.toInt64 0 5 D) mi_X7_in vi_X7_in tw818 ⟨rfl, rfl, Nat.le_of_ble_eq_true rfl, Nat.le_of_ble_eq_true rfl⟩ rfl hl.1 rfl (Nat.le_of_ble_eq_true rfl) dX7_as_14 ⟨Nat.le_of_ble_eq_true rfl, Nat.le_of_ble_eq_true rfl⟩ (fun H locs hW hS => ?_)
    refine lv_if_ne (tgt := 23) hx hb dX7_as_17 (by decide) (fun c3 => ?_) (fun c3 => ?_)
    · rw [if_neg c3] at h
      refine lv_aload_n hx hb dX7_as_23 rfl (lv_at hl 0 rfl) ?_
      refine wd_getR CF hE hW fl_X7_7 sh_370 rf_370_0 rfl dX7_as_24 ?_
      refine lv_bipush (v := 42) hx hb dX7_as_27 (by decide) ?_
      refine lv_iload_n hx hb dX7_as_29 rfl (lv_at hl 1 rfl) ?_
      refine lv_iadd hx hb dX7_as_30 ?_
      obtain ⟨x4, ex4, h⟩ := bdE h
      refine wd_iald CF hE hW sh_371 ex4 dX7_as_31 ?_
      refine lv_istore_n (lv' := [(3, .int x4), (0, .ref (X.2.2.1 + 370)), (1, .int a1), (2, .int a2)]) hx hb dX7_as_32 rfl hl (by decide) rfl (fun ls hl => ?_)
      refine lv_iload_n hx hb dX7_as_33 rfl (lv_at hl 3 rfl) ?_
      refine lv_if_eq (tgt := 62) hx hb dX7_as_34 (by decide) (fun c5 => ?_) (fun c5 => ?_)
      · rw [if_pos c5] at h
        exact hL62  D _ _ _  hW hS (lv_sub hl [1, 2] rfl) h
      · rw [if_neg c5] at h
        refine lv_iload_n hx hb dX7_as_37 rfl (lv_at hl 3 rfl) ?_
        refine lv_iload_n hx hb dX7_as_38 rfl (lv_at hl 0 rfl) ?_
        refine lv_icmp_eq (tgt := 62) hx hb dX7_as_39 (by decide) (fun c6 => ?_) (fun c6 => ?_)
        · rw [if_pos c6] at h
          exact hL62  D _ _ _  hW hS (lv_sub hl [1, 2] rfl) h
        · rw [if_neg c6] at h
          refine lv_iload_n hx hb dX7_as_42 rfl (lv_at hl 3 rfl) ?_
          refine lv_iconst (v := 1) hx hb dX7_as_43 (by decide) ?_
          refine lv_icmp_ne (tgt := 52) hx hb dX7_as_44 (by decide) (fun c7 => ?_) (fun c7 => ?_)
          · rw [if_neg c7] at h
            exact hL52 x4 D _ _ _  hW hS (lv_sub hl [1, 2, 3, 0] rfl) h
          · rw [if_pos c7] at h
            refine lv_iload_n hx hb dX7_as_47 rfl (lv_at hl 0 rfl) ?_
            refine lv_iconst (v := 4) hx hb dX7_as_48 (by decide) ?_
            refine lv_icmp_lt (tgt := 62) hx hb dX7_as_49 (by decide) (fun c8 => ?_) (fun c8 => ?_)
            · rw [if_pos c8] at h
              exact hL62  D _ _ _  hW hS (lv_sub hl [1, 2] rfl) h
            · rw [if_neg c8] at h
              exact hL52 x4 D _ _ _  hW hS (lv_sub hl [1, 2, 3, 0] rfl) h
    · rw [if_pos c3] at h
      refine lv_ldc (v := (-1000001)) hx hb hown (hts _ tw822) dX7_as_20 ?_
      have h := Option.some.inj h
      subst h
      exact wd_iret CF hret hlk hW hS dX7_as_22
def f_X7_begins (a1 : Int32) (D : wd_D) : Option (wd_D) := (if 16 ≤ (gI D 370 12) then some D else (wr 16 D 378 (gI D 370 12) a1).bind (fun D2 => ap (sI D2 370 12 ((gI D2 370 12) + 1)) (fun D3 => some D3)))
set_option maxHeartbeats 4000000 in
set_option maxRecDepth 100000 in
theorem x_X7_begins (l : Launch) (X : wd_X) (a1 : Int32) (D : wd_D) {qv : wd_D} (h : f_X7_begins a1 D = some qv) : wd_Met l X yX7_begins cX7_begins 2 (none : Option FieldType) ({ frames := 0, cells := 0, slots := 0, locals := 0 }) S0 S0 ([.ref (X.2.2.1 + 370), .int a1] : List Value) D qv none 0 0 := by
  refine wd_enter (by decide) (Nat.le_of_ble_eq_true rfl) ?_
  intro p e s m below meth c CF hret hlk hnm hW hE ls hl
  have CF : CallFix p m c cX7_begins 2 s ([.ref (X.2.2.1 + 370), .int a1] : List Value).toArray tg RX7 := CF
  have hx := CF.1
  have hb := CF.2.1
  have hown := CF.2.2.2.1
  have hts := CF.2.2.2.2
  have hS : va_S (wd_A X) s.heap s.heap [] := va_S.rf
  have hl : lv_has ls 2 [(0, .ref (X.2.2.1 + 370)), (1, .int a1)] := hl
  unfold f_X7_begins at h
  refine lv_aload_n hx hb dX7_begins_0 rfl (lv_at hl 0 rfl) ?_
  refine wd_get CF hE hW fl_X7_233 sh_370 (v := .int (gI D 370 12)) rfl dX7_begins_1 ?_
  refine lv_bipush (v := 16) hx hb dX7_begins_4 (by decide) ?_
  refine lv_icmp_ge (tgt := 29) hx hb dX7_begins_6 (by decide) (fun c1 => ?_) (fun c1 => ?_)
  · rw [if_pos c1] at h
    have h := Option.some.inj h
    subst h
    exact wd_vret CF hret hlk hW hS dX7_begins_29
  · rw [if_neg c1] at h
    refine lv_aload_n hx hb dX7_begins_9 rfl (lv_at hl 0 rfl) ?_
    refine wd_getR CF hE hW fl_X7_32 sh_370 rf_370_11 rfl dX7_begins_10 ?_
    refine lv_aload_n hx hb dX7_begins_13 rfl (lv_at hl 0 rfl) ?_
    refine wd_get CF hE hW fl_X7_233 sh_370 (v := .int (gI D 370 12)) rfl dX7_begins_14 ?_
    refine lv_iload_n hx hb dX7_begins_17 rfl (lv_at hl 1 rfl) ?_
    obtain ⟨D2, eD2, h⟩ := bdE h
    refine wd_iast CF hE hW hS sh_378 eD2 dX7_begins_18 (fun H locs hW hS => ?_)
    refine lv_aload_n hx hb dX7_begins_19 rfl (lv_at hl 0 rfl) ?_
    refine lv_dup hx hb dX7_begins_20 rfl ?_
    refine wd_get CF hE hW fl_X7_233 sh_370 (v := .int (gI D2 370 12)) rfl dX7_begins_21 ?_
    refine lv_iconst (v := 1) hx hb dX7_begins_24 (by decide) ?_
    refine lv_iadd hx hb dX7_begins_25 ?_
    refine wd_putI CF hE hW hS fl_X7_233 sh_370 rfl rfl dX7_begins_26 (fun D3 H locs eD3 hW hS => ?_)
    replace h := apR eD3 h
    have h := Option.some.inj h
    subst h
    exact wd_vret CF hret hlk hW hS dX7_begins_29
def f_X7_markLent (a1 : Int32) (D : wd_D) : Option (Int32 × wd_D) := (f_X7_begins 20 D).bind (fun q1 => some (a1, q1))
set_option maxHeartbeats 4000000 in
set_option maxRecDepth 100000 in
theorem x_X7_markLent (l : Launch) (X : wd_X) (a1 : Int32) (D : wd_D) {qv : Int32 × wd_D} (h : f_X7_markLent a1 D = some qv) : wd_Met l X yX7_markLent cX7_markLent 2 (some FieldType.int) ({ frames := 1, cells := 0, slots := 0, locals := 100 }) S0 S0 ([.ref (X.2.2.1 + 370), .int a1] : List Value) D qv.2 (some (.int qv.1)) 0 0 := by
  refine wd_enter (by decide) (Nat.le_of_ble_eq_true rfl) ?_
  intro p e s m below meth c CF hret hlk hnm hW hE ls hl
  have CF : CallFix p m c cX7_markLent 2 s ([.ref (X.2.2.1 + 370), .int a1] : List Value).toArray tg RX7 := CF
  have hx := CF.1
  have hb := CF.2.1
  have hown := CF.2.2.2.1
  have hts := CF.2.2.2.2
  have hS : va_S (wd_A X) s.heap s.heap [] := va_S.rf
  have hl : lv_has ls 2 [(0, .ref (X.2.2.1 + 370)), (1, .int a1)] := hl
  unfold f_X7_markLent at h
  refine lv_aload_n hx hb dX7_markLent_0 rfl (lv_at hl 0 rfl) ?_
  refine lv_bipush (v := 20) hx hb dX7_markLent_1 (by decide) ?_
  obtain ⟨q1, eq1, h⟩ := bdE h
  refine wd_callVv (ci := 7) (k := 370) CF hE hW hS (x_X7_begins l X 20 D eq1) mi_X7_begins vi_X7_begins tw1122 ⟨by decide, rfl⟩ sh_370 ⟨rfl, rfl, Nat.le_of_ble_eq_true rfl, Nat.le_of_ble_eq_true rfl⟩ rfl hl.1 rfl (Nat.le_of_ble_eq_true rfl) dX7_markLent_3 ⟨Nat.le_of_ble_eq_true rfl, Nat.le_of_ble_eq_true rfl⟩ (fun H locs hW hS => ?_)
  refine lv_iload_n hx hb dX7_markLent_6 rfl (lv_at hl 1 rfl) ?_
  have h := Option.some.inj h
  subst h
  exact wd_iret CF hret hlk hW hS dX7_markLent_7
def f_X7_markPlain (a1 : Int32) (D : wd_D) : Option (Int32 × wd_D) := (f_X7_begins 21 D).bind (fun q1 => (f_X7_markLent a1 q1).bind (fun q2 => (f_X7_noiseAt 0 a1 q2.2).bind (fun x3 => some (q2.1 + x3, q2.2))))
set_option maxHeartbeats 4000000 in
set_option maxRecDepth 100000 in
theorem x_X7_markPlain (l : Launch) (X : wd_X) (a1 : Int32) (D : wd_D) {qv : Int32 × wd_D} (h : f_X7_markPlain a1 D = some qv) : wd_Met l X yX7_markPlain cX7_markPlain 2 (some FieldType.int) ({ frames := 3, cells := 0, slots := 0, locals := 300 }) S0 S0 ([.ref (X.2.2.1 + 370), .int a1] : List Value) D qv.2 (some (.int qv.1)) 0 0 := by
  refine wd_enter (by decide) (Nat.le_of_ble_eq_true rfl) ?_
  intro p e s m below meth c CF hret hlk hnm hW hE ls hl
  have CF : CallFix p m c cX7_markPlain 2 s ([.ref (X.2.2.1 + 370), .int a1] : List Value).toArray tg RX7 := CF
  have hx := CF.1
  have hb := CF.2.1
  have hown := CF.2.2.2.1
  have hts := CF.2.2.2.2
  have hS : va_S (wd_A X) s.heap s.heap [] := va_S.rf
  have hl : lv_has ls 2 [(0, .ref (X.2.2.1 + 370)), (1, .int a1)] := hl
  unfold f_X7_markPlain at h
  refine lv_aload_n hx hb dX7_markPlain_0 rfl (lv_at hl 0 rfl) ?_
  refine lv_bipush (v := 21) hx hb dX7_markPlain_1 (by decide) ?_
  obtain ⟨q1, eq1, h⟩ := bdE h
  refine wd_callVv (ci := 7) (k := 370) CF hE hW hS (x_X7_begins l X 21 D eq1) mi_X7_begins vi_X7_begins tw1122 ⟨by decide, rfl⟩ sh_370 ⟨rfl, rfl, Nat.le_of_ble_eq_true rfl, Nat.le_of_ble_eq_true rfl⟩ rfl hl.1 rfl (Nat.le_of_ble_eq_true rfl) dX7_markPlain_3 ⟨Nat.le_of_ble_eq_true rfl, Nat.le_of_ble_eq_true rfl⟩ (fun H locs hW hS => ?_)
  refine lv_aload_n hx hb dX7_markPlain_6 rfl (lv_at hl 0 rfl) ?_
  refine lv_iload_n hx hb dX7_markPlain_7 rfl (lv_at hl 1 rfl) ?_
  obtain ⟨q2, eq2, h⟩ := bdE h
  refine wd_callVr (ci := 7) (k := 370) CF hE hW hS (x_X7_markLent l X a1 q1 eq2) mi_X7_markLent vi_X7_markLent tw1138 ⟨by decide, rfl⟩ sh_370 ⟨rfl, rfl, Nat.le_of_ble_eq_true rfl, Nat.le_of_ble_eq_true rfl⟩ rfl hl.1 rfl (Nat.le_of_ble_eq_true rfl) dX7_markPlain_8 ⟨Nat.le_of_ble_eq_true rfl, Nat.le_of_ble_eq_true rfl⟩ (fun H locs hW hS => ?_)
  refine lv_aload_n hx hb dX7_markPlain_11 rfl (lv_at hl 0 rfl) ?_
  refine lv_iconst (v := 0) hx hb dX7_markPlain_12 (by decide) ?_
  refine lv_iload_n hx hb dX7_markPlain_13 rfl (lv_at hl 1 rfl) ?_
  obtain ⟨x3, ex3, h⟩ := bdE h
  refine wd_callVr (ci := 7) (k := 370) CF hE hW hS (x_X7_noiseAt l X 0 a1 q2.2 ex3) mi_X7_noiseAt vi_X7_noiseAt tw917 ⟨by decide, rfl⟩ sh_370 ⟨rfl, rfl, Nat.le_of_ble_eq_true rfl, Nat.le_of_ble_eq_true rfl⟩ rfl hl.1 rfl (Nat.le_of_ble_eq_true rfl) dX7_markPlain_14 ⟨Nat.le_of_ble_eq_true rfl, Nat.le_of_ble_eq_true rfl⟩ (fun H locs hW hS => ?_)
  refine lv_iadd hx hb dX7_markPlain_17 ?_
  have h := Option.some.inj h
  subst h
  exact wd_iret CF hret hlk hW hS dX7_markPlain_18
def f_X7_sizeDeep_L10  (a1 : Int32) (a2 : Int32) (D : wd_D) : Option (Int32 × wd_D) := (f_X7_begins 13 D).bind (fun q3 => (f_X7_begins 10 q3).bind (fun q4 => (rd 252 q4 371 (1 + a1)).bind (fun x5 => ap (x5 - 100) (fun x6 => (if a2 = 0 then some (x6, q4) else some (2 * x6, q4))))))
def f_X7_sizeDeep (a1 : Int32) (a2 : Int32) (D : wd_D) : Option (Int32 × wd_D) := (if a2 = 0 then f_X7_sizeDeep_L10 a1 a2 D else (f_X7_begins 14 D).bind (fun q2 => f_X7_sizeDeep_L10 a1 a2 q2))
set_option maxHeartbeats 4000000 in
set_option maxRecDepth 100000 in
theorem x_X7_sizeDeep (l : Launch) (X : wd_X) (a1 : Int32) (a2 : Int32) (D : wd_D) {qv : Int32 × wd_D} (h : f_X7_sizeDeep a1 a2 D = some qv) : wd_Met l X yX7_sizeDeep cX7_sizeDeep 4 (some FieldType.int) ({ frames := 1, cells := 0, slots := 0, locals := 100 }) S0 S0 ([.ref (X.2.2.1 + 370), .int a1, .int a2] : List Value) D qv.2 (some (.int qv.1)) 0 0 := by
  refine wd_enter (by decide) (Nat.le_of_ble_eq_true rfl) ?_
  intro p e s m below meth c CF hret hlk hnm hW hE ls hl
  have CF : CallFix p m c cX7_sizeDeep 4 s ([.ref (X.2.2.1 + 370), .int a1, .int a2] : List Value).toArray tg RX7 := CF
  have hx := CF.1
  have hb := CF.2.1
  have hown := CF.2.2.2.1
  have hts := CF.2.2.2.2
  have hS : va_S (wd_A X) s.heap s.heap [] := va_S.rf
  have hl : lv_has ls 4 [(0, .ref (X.2.2.1 + 370)), (1, .int a1), (2, .int a2)] := hl
  unfold f_X7_sizeDeep at h
  have hL10 : ∀  (D : wd_D) (H : Heap) (locs : List Loc) (ls : Array Slot), Wd X S0 D H → va_S (wd_A X) s.heap H locs → lv_has ls 4 [(0, .ref (X.2.2.1 + 370)), (1, .int a1), (2, .int a2)] → f_X7_sizeDeep_L10 a1 a2 D = some qv → W p l e ({ frames := 1, cells := 0, slots := 0, locals := 100 }) s m ([.ref (X.2.2.1 + 370), .int a1, .int a2] : List Value).toArray below meth c H locs 0 0 (MQ below (wd_Q X S0 qv.2 (some (.int qv.1))) ([.ref (X.2.2.1 + 370), .int a1, .int a2] : List Value).toArray s 0 0 (wd_A X)) (F0 m 10 ls []) := by
    intro D H locs ls hW hS hl h
    unfold f_X7_sizeDeep_L10 at h
    refine lv_aload_n hx hb dX7_sizeDeep_10 rfl (lv_at hl 0 rfl) ?_
    refine lv_bipush (v := 13) hx hb dX7_sizeDeep_11 (by decide) ?_
    obtain ⟨q3, eq3, h⟩ := bdE h
    refine wd_callVv (ci := 7) (k := 370) CF hE hW hS (x_X7_begins l X 13 D eq3) mi_X7_begins vi_X7_begins tw1122 ⟨by decide, rfl⟩ sh_370 ⟨rfl, rfl, Nat.le_of_ble_eq_true rfl, Nat.le_of_ble_eq_true rfl⟩ rfl hl.1 rfl (Nat.le_of_ble_eq_true rfl) dX7_sizeDeep_13 ⟨Nat.le_of_ble_eq_true rfl, Nat.le_of_ble_eq_true rfl⟩ (fun H locs hW hS => ?_)
    refine lv_aload_n hx hb dX7_sizeDeep_16 rfl (lv_at hl 0 rfl) ?_
    refine lv_bipush (v := 10) hx hb dX7_sizeDeep_17 (by decide) ?_
    obtain ⟨q4, eq4, h⟩ := bdE h
    refine wd_callVv (ci := 7) (k := 370) CF hE hW hS (x_X7_begins l X 10 q3 eq4) mi_X7_begins vi_X7_begins tw1122 ⟨by decide, rfl⟩ sh_370 ⟨rfl, rfl, Nat.le_of_ble_eq_true rfl, Nat.le_of_ble_eq_true rfl⟩ rfl hl.1 rfl (Nat.le_of_ble_eq_true rfl) dX7_sizeDeep_19 ⟨Nat.le_of_ble_eq_true rfl, Nat.le_of_ble_eq_true rfl⟩ (fun H locs hW hS => ?_)
    refine lv_aload_n hx hb dX7_sizeDeep_22 rfl (lv_at hl 0 rfl) ?_
    refine wd_getR CF hE hW fl_X7_7 sh_370 rf_370_0 rfl dX7_sizeDeep_23 ?_
    refine lv_iconst (v := 1) hx hb dX7_sizeDeep_26 (by decide) ?_
    refine lv_iload_n hx hb dX7_sizeDeep_27 rfl (lv_at hl 1 rfl) ?_
    refine lv_iadd hx hb dX7_sizeDeep_28 ?_
    obtain ⟨x5, ex5, h⟩ := bdE h
    refine wd_iald CF hE hW sh_371 ex5 dX7_sizeDeep_29 ?_
    refine lv_bipush (v := 100) hx hb dX7_sizeDeep_30 (by decide) ?_
    refine lv_isub hx hb dX7_sizeDeep_32 ?_
    refine lv_topi (fun x6 ex6 => ?_)
    replace h := apR ex6 h
    refine lv_istore_n (lv' := [(3, .int x6), (0, .ref (X.2.2.1 + 370)), (1, .int a1), (2, .int a2)]) hx hb dX7_sizeDeep_33 rfl hl (by decide) rfl (fun ls hl => ?_)
    refine lv_iload_n hx hb dX7_sizeDeep_34 rfl (lv_at hl 3 rfl) ?_
    refine lv_if_eq (tgt := 44) hx hb dX7_sizeDeep_35 (by decide) (fun c7 => ?_) (fun c7 => ?_)
    · rw [if_pos c7] at h
      refine lv_iload_n hx hb dX7_sizeDeep_44 rfl (lv_at hl 0 rfl) ?_
      have h := Option.some.inj h
      subst h
      exact wd_iret CF hret hlk hW hS dX7_sizeDeep_45
    · rw [if_neg c7] at h
      refine lv_iconst (v := 2) hx hb dX7_sizeDeep_38 (by decide) ?_
      refine lv_iload_n hx hb dX7_sizeDeep_39 rfl (lv_at hl 0 rfl) ?_
      refine lv_imul hx hb dX7_sizeDeep_40 ?_
      refine lv_goto (tgt := 45) hx hb dX7_sizeDeep_41 (by decide) ?_
      have h := Option.some.inj h
      subst h
      exact wd_iret CF hret hlk hW hS dX7_sizeDeep_45
  refine lv_iload_n hx hb dX7_sizeDeep_0 rfl (lv_at hl 2 rfl) ?_
  refine lv_if_eq (tgt := 10) hx hb dX7_sizeDeep_1 (by decide) (fun c1 => ?_) (fun c1 => ?_)
  · rw [if_pos c1] at h
    exact hL10  D _ _ _  hW hS (lv_sub hl [0, 1, 2] rfl) h
  · rw [if_neg c1] at h
    refine lv_aload_n hx hb dX7_sizeDeep_4 rfl (lv_at hl 0 rfl) ?_
    refine lv_bipush (v := 14) hx hb dX7_sizeDeep_5 (by decide) ?_
    obtain ⟨q2, eq2, h⟩ := bdE h
    refine wd_callVv (ci := 7) (k := 370) CF hE hW hS (x_X7_begins l X 14 D eq2) mi_X7_begins vi_X7_begins tw1122 ⟨by decide, rfl⟩ sh_370 ⟨rfl, rfl, Nat.le_of_ble_eq_true rfl, Nat.le_of_ble_eq_true rfl⟩ rfl hl.1 rfl (Nat.le_of_ble_eq_true rfl) dX7_sizeDeep_7 ⟨Nat.le_of_ble_eq_true rfl, Nat.le_of_ble_eq_true rfl⟩ (fun H locs hW hS => ?_)
    exact hL10  q2 _ _ _  hW hS (lv_sub hl [0, 1, 2] rfl) h
def f_X7_mark_L95  (a1 : Int32) (z0 : Int32) (z1 : Int32) (z3 : Int32) (D : wd_D) : Option (Int32 × wd_D) := (f_X7_sizeDeep z1 z0 D).bind (fun q13 => some (z3 - q13.1, q13.2))
def f_X7_mark (a1 : Int32) (D : wd_D) : Option (Int32 × wd_D) := (rd 252 D 371 (42 + a1)).bind (fun x1 => (if x1 = 1 then (f_X7_markPlain a1 D).bind (fun q3 => some (q3.1, q3.2)) else (if x1 = 2 then (f_X7_begins 24 D).bind (fun q5 => (f_X7_markPlain a1 q5).bind (fun q6 => some (2 * q6.1, q6.2))) else (if x1 = 3 then (f_X7_begins 22 D).bind (fun q8 => (f_X7_markPlain a1 q8).bind (fun q9 => some (q9.1 - 1000, q9.2))) else (f_X7_begins 23 D).bind (fun q10 => (f_X7_markLent a1 q10).bind (fun q11 => (if x1 = 5 then f_X7_mark_L95 a1 1 a1 q11.1 q11.2 else f_X7_mark_L95 a1 0 a1 q11.1 q11.2)))))))
set_option maxHeartbeats 4000000 in
set_option maxRecDepth 100000 in
theorem x_X7_mark (l : Launch) (X : wd_X) (a1 : Int32) (D : wd_D) {qv : Int32 × wd_D} (h : f_X7_mark a1 D = some qv) : wd_Met l X yX7_mark cX7_mark 3 (some FieldType.int) ({ frames := 4, cells := 0, slots := 0, locals := 400 }) S0 S0 ([.ref (X.2.2.1 + 370), .int a1] : List Value) D qv.2 (some (.int qv.1)) 0 0 := by
  refine wd_enter (by decide) (Nat.le_of_ble_eq_true rfl) ?_
  intro p e s m below meth c CF hret hlk hnm hW hE ls hl
  have CF : CallFix p m c cX7_mark 3 s ([.ref (X.2.2.1 + 370), .int a1] : List Value).toArray tg RX7 := CF
  have hx := CF.1
  have hb := CF.2.1
  have hown := CF.2.2.2.1
  have hts := CF.2.2.2.2
  have hS : va_S (wd_A X) s.heap s.heap [] := va_S.rf
  have hl : lv_has ls 3 [(0, .ref (X.2.2.1 + 370)), (1, .int a1)] := hl
  unfold f_X7_mark at h
  have hL95 : ∀ (z0 : Int32) (z1 : Int32) (z3 : Int32) (D : wd_D) (H : Heap) (locs : List Loc) (ls : Array Slot), Wd X S0 D H → va_S (wd_A X) s.heap H locs → lv_has ls 3 [] → f_X7_mark_L95 a1 z0 z1 z3 D = some qv → W p l e ({ frames := 4, cells := 0, slots := 0, locals := 400 }) s m ([.ref (X.2.2.1 + 370), .int a1] : List Value).toArray below meth c H locs 0 0 (MQ below (wd_Q X S0 qv.2 (some (.int qv.1))) ([.ref (X.2.2.1 + 370), .int a1] : List Value).toArray s 0 0 (wd_A X)) (F0 m 95 ls [.int z0, .int z1, .ref (X.2.2.1 + 370), .int z3]) := by
    intro z0 z1 z3 D H locs ls hW hS hl h
    unfold f_X7_mark_L95 at h
    obtain ⟨q13, eq13, h⟩ := bdE h
    refine wd_callVr (ci := 7) (k := 370) CF hE hW hS (x_X7_sizeDeep l X z1 z0 D eq13) mi_X7_sizeDeep vi_X7_sizeDeep tw1142 ⟨by decide, rfl⟩ sh_370 ⟨rfl, rfl, Nat.le_of_ble_eq_true rfl, Nat.le_of_ble_eq_true rfl⟩ rfl hl.1 rfl (Nat.le_of_ble_eq_true rfl) dX7_mark_95 ⟨Nat.le_of_ble_eq_true rfl, Nat.le_of_ble_eq_true rfl⟩ (fun H locs hW hS => ?_)
    refine lv_isub hx hb dX7_mark_98 ?_
    have h := Option.some.inj h
    subst h
    exact wd_iret CF hret hlk hW hS dX7_mark_99
  refine lv_aload_n hx hb dX7_mark_0 rfl (lv_at hl 0 rfl) ?_
  refine wd_getR CF hE hW fl_X7_7 sh_370 rf_370_0 rfl dX7_mark_1 ?_
  refine lv_bipush (v := 42) hx hb dX7_mark_4 (by decide) ?_
  refine lv_iload_n hx hb dX7_mark_6 rfl (lv_at hl 1 rfl) ?_
  refine lv_iadd hx hb dX7_mark_7 ?_
  obtain ⟨x1, ex1, h⟩ := bdE h
  refine wd_iald CF hE hW sh_371 ex1 dX7_mark_8 ?_
  refine lv_istore_n (lv' := [(2, .int x1), (0, .ref (X.2.2.1 + 370)), (1, .int a1)]) hx hb dX7_mark_9 rfl hl (by decide) rfl (fun ls hl => ?_)
  refine lv_iload_n hx hb dX7_mark_10 rfl (lv_at hl 0 rfl) ?_
  by_cases c2 : x1 = 1
  · rw [if_pos c2] at h
    refine lv_tableIn (tgt := 66) (off := 55) hx hb dX7_mark_11 (by rw [c2]; decide) (by rw [c2]; decide) (by rw [c2]; rfl) (by decide) ?_
    refine lv_aload_n hx hb dX7_mark_66 rfl (lv_at hl 1 rfl) ?_
    refine lv_iload_n hx hb dX7_mark_67 rfl (lv_at hl 2 rfl) ?_
    obtain ⟨q3, eq3, h⟩ := bdE h
    refine wd_callVr (ci := 7) (k := 370) CF hE hW hS (x_X7_markPlain l X a1 D eq3) mi_X7_markPlain vi_X7_markPlain tw1134 ⟨by decide, rfl⟩ sh_370 ⟨rfl, rfl, Nat.le_of_ble_eq_true rfl, Nat.le_of_ble_eq_true rfl⟩ rfl hl.1 rfl (Nat.le_of_ble_eq_true rfl) dX7_mark_68 ⟨Nat.le_of_ble_eq_true rfl, Nat.le_of_ble_eq_true rfl⟩ (fun H locs hW hS => ?_)
    have h := Option.some.inj h
    subst h
    exact wd_iret CF hret hlk hW hS dX7_mark_71
  · rw [if_neg c2] at h
    by_cases c4 : x1 = 2
    · rw [if_pos c4] at h
      refine lv_tableIn (tgt := 36) (off := 25) hx hb dX7_mark_11 (by rw [c4]; decide) (by rw [c4]; decide) (by rw [c4]; rfl) (by decide) ?_
      refine lv_aload_n hx hb dX7_mark_36 rfl (lv_at hl 1 rfl) ?_
      refine lv_bipush (v := 24) hx hb dX7_mark_37 (by decide) ?_
      obtain ⟨q5, eq5, h⟩ := bdE h
      refine wd_callVv (ci := 7) (k := 370) CF hE hW hS (x_X7_begins l X 24 D eq5) mi_X7_begins vi_X7_begins tw1122 ⟨by decide, rfl⟩ sh_370 ⟨rfl, rfl, Nat.le_of_ble_eq_true rfl, Nat.le_of_ble_eq_true rfl⟩ rfl hl.1 rfl (Nat.le_of_ble_eq_true rfl) dX7_mark_39 ⟨Nat.le_of_ble_eq_true rfl, Nat.le_of_ble_eq_true rfl⟩ (fun H locs hW hS => ?_)
      refine lv_iconst (v := 2) hx hb dX7_mark_42 (by decide) ?_
      refine lv_aload_n hx hb dX7_mark_43 rfl (lv_at hl 1 rfl) ?_
      refine lv_iload_n hx hb dX7_mark_44 rfl (lv_at hl 2 rfl) ?_
      obtain ⟨q6, eq6, h⟩ := bdE h
      refine wd_callVr (ci := 7) (k := 370) CF hE hW hS (x_X7_markPlain l X a1 q5 eq6) mi_X7_markPlain vi_X7_markPlain tw1134 ⟨by decide, rfl⟩ sh_370 ⟨rfl, rfl, Nat.le_of_ble_eq_true rfl, Nat.le_of_ble_eq_true rfl⟩ rfl hl.1 rfl (Nat.le_of_ble_eq_true rfl) dX7_mark_45 ⟨Nat.le_of_ble_eq_true rfl, Nat.le_of_ble_eq_true rfl⟩ (fun H locs hW hS => ?_)
      refine lv_imul hx hb dX7_mark_48 ?_
      have h := Option.some.inj h
      subst h
      exact wd_iret CF hret hlk hW hS dX7_mark_49
    · rw [if_neg c4] at h
      by_cases c7 : x1 = 3
      · rw [if_pos c7] at h
        refine lv_tableIn (tgt := 50) (off := 39) hx hb dX7_mark_11 (by rw [c7]; decide) (by rw [c7]; decide) (by rw [c7]; rfl) (by decide) ?_
        refine lv_aload_n hx hb dX7_mark_50 rfl (lv_at hl 1 rfl) ?_
        refine lv_bipush (v := 22) hx hb dX7_mark_51 (by decide) ?_
        obtain ⟨q8, eq8, h⟩ := bdE h
        refine wd_callVv (ci := 7) (k := 370) CF hE hW hS (x_X7_begins l X 22 D eq8) mi_X7_begins vi_X7_begins tw1122 ⟨by decide, rfl⟩ sh_370 ⟨rfl, rfl, Nat.le_of_ble_eq_true rfl, Nat.le_of_ble_eq_true rfl⟩ rfl hl.1 rfl (Nat.le_of_ble_eq_true rfl) dX7_mark_53 ⟨Nat.le_of_ble_eq_true rfl, Nat.le_of_ble_eq_true rfl⟩ (fun H locs hW hS => ?_)
        refine lv_aload_n hx hb dX7_mark_56 rfl (lv_at hl 1 rfl) ?_
        refine lv_iload_n hx hb dX7_mark_57 rfl (lv_at hl 2 rfl) ?_
        obtain ⟨q9, eq9, h⟩ := bdE h
        refine wd_callVr (ci := 7) (k := 370) CF hE hW hS (x_X7_markPlain l X a1 q8 eq9) mi_X7_markPlain vi_X7_markPlain tw1134 ⟨by decide, rfl⟩ sh_370 ⟨rfl, rfl, Nat.le_of_ble_eq_true rfl, Nat.le_of_ble_eq_true rfl⟩ rfl hl.1 rfl (Nat.le_of_ble_eq_true rfl) dX7_mark_58 ⟨Nat.le_of_ble_eq_true rfl, Nat.le_of_ble_eq_true rfl⟩ (fun H locs hW hS => ?_)
        refine lv_sipush (v := 1000) hx hb dX7_mark_61 (by decide) ?_
        refine lv_isub hx hb dX7_mark_64 ?_
        have h := Option.some.inj h
        subst h
        exact wd_iret CF hret hlk hW hS dX7_mark_65
      · rw [if_neg c7] at h
        have ic2 := lv_neT (a := 1) c2 (by decide)
        have ic4 := lv_neT (a := 2) c4 (by decide)
        have ic7 := lv_neT (a := 3) c7 (by decide)
        refine lv_tableOut (tgt := 72) hx hb dX7_mark_11 (by omega) (by decide) ?_
        refine lv_aload_n hx hb dX7_mark_72 rfl (lv_at hl 1 rfl) ?_
        refine lv_bipush (v := 23) hx hb dX7_mark_73 (by decide) ?_
        obtain ⟨q10, eq10, h⟩ := bdE h
        refine wd_callVv (ci := 7) (k := 370) CF hE hW hS (x_X7_begins l X 23 D eq10) mi_X7_begins vi_X7_begins tw1122 ⟨by decide, rfl⟩ sh_370 ⟨rfl, rfl, Nat.le_of_ble_eq_true rfl, Nat.le_of_ble_eq_true rfl⟩ rfl hl.1 rfl (Nat.le_of_ble_eq_true rfl) dX7_mark_75 ⟨Nat.le_of_ble_eq_true rfl, Nat.le_of_ble_eq_true rfl⟩ (fun H locs hW hS => ?_)
        refine lv_aload_n hx hb dX7_mark_78 rfl (lv_at hl 1 rfl) ?_
        refine lv_iload_n hx hb dX7_mark_79 rfl (lv_at hl 2 rfl) ?_
        obtain ⟨q11, eq11, h⟩ := bdE h
        refine wd_callVr (ci := 7) (k := 370) CF hE hW hS (x_X7_markLent l X a1 q10 eq11) mi_X7_markLent vi_X7_markLent tw1138 ⟨by decide, rfl⟩ sh_370 ⟨rfl, rfl, Nat.le_of_ble_eq_true rfl, Nat.le_of_ble_eq_true rfl⟩ rfl hl.1 rfl (Nat.le_of_ble_eq_true rfl) dX7_mark_80 ⟨Nat.le_of_ble_eq_true rfl, Nat.le_of_ble_eq_true rfl⟩ (fun H locs hW hS => ?_)
        refine lv_aload_n hx hb dX7_mark_83 rfl (lv_at hl 1 rfl) ?_
        refine lv_iload_n hx hb dX7_mark_84 rfl (lv_at hl 2 rfl) ?_
        refine lv_iload_n hx hb dX7_mark_85 rfl (lv_at hl 0 rfl) ?_
        refine lv_iconst (v := 5) hx hb dX7_mark_86 (by decide) ?_
        refine lv_icmp_ne (tgt := 94) hx hb dX7_mark_87 (by decide) (fun c12 => ?_) (fun c12 => ?_)
        · rw [if_neg c12] at h
          refine lv_iconst (v := 0) hx hb dX7_mark_94 (by decide) ?_
          exact hL95 0 a1 q11.1 q11.2 _ _ _  hW hS (lv_sub hl [] rfl) h
        · rw [if_pos c12] at h
          refine lv_iconst (v := 1) hx hb dX7_mark_90 (by decide) ?_
          refine lv_goto (tgt := 95) hx hb dX7_mark_91 (by decide) ?_
          exact hL95 1 a1 q11.1 q11.2 _ _ _  hW hS (lv_sub hl [] rfl) h
def f_X7_sizePlain (a1 : Int32) (D : wd_D) : Option (Int32 × wd_D) := (f_X7_begins 11 D).bind (fun q1 => (f_X7_begins 10 q1).bind (fun q2 => (rd 252 q2 371 (1 + a1)).bind (fun x3 => (f_X7_mark a1 q2).bind (fun q4 => some (x3 + q4.1, q4.2)))))
set_option maxHeartbeats 4000000 in
set_option maxRecDepth 100000 in
theorem x_X7_sizePlain (l : Launch) (X : wd_X) (a1 : Int32) (D : wd_D) {qv : Int32 × wd_D} (h : f_X7_sizePlain a1 D = some qv) : wd_Met l X yX7_sizePlain cX7_sizePlain 2 (some FieldType.int) ({ frames := 5, cells := 0, slots := 0, locals := 500 }) S0 S0 ([.ref (X.2.2.1 + 370), .int a1] : List Value) D qv.2 (some (.int qv.1)) 0 0 := by
  refine wd_enter (by decide) (Nat.le_of_ble_eq_true rfl) ?_
  intro p e s m below meth c CF hret hlk hnm hW hE ls hl
  have CF : CallFix p m c cX7_sizePlain 2 s ([.ref (X.2.2.1 + 370), .int a1] : List Value).toArray tg RX7 := CF
  have hx := CF.1
  have hb := CF.2.1
  have hown := CF.2.2.2.1
  have hts := CF.2.2.2.2
  have hS : va_S (wd_A X) s.heap s.heap [] := va_S.rf
  have hl : lv_has ls 2 [(0, .ref (X.2.2.1 + 370)), (1, .int a1)] := hl
  unfold f_X7_sizePlain at h
  refine lv_aload_n hx hb dX7_sizePlain_0 rfl (lv_at hl 0 rfl) ?_
  refine lv_bipush (v := 11) hx hb dX7_sizePlain_1 (by decide) ?_
  obtain ⟨q1, eq1, h⟩ := bdE h
  refine wd_callVv (ci := 7) (k := 370) CF hE hW hS (x_X7_begins l X 11 D eq1) mi_X7_begins vi_X7_begins tw1122 ⟨by decide, rfl⟩ sh_370 ⟨rfl, rfl, Nat.le_of_ble_eq_true rfl, Nat.le_of_ble_eq_true rfl⟩ rfl hl.1 rfl (Nat.le_of_ble_eq_true rfl) dX7_sizePlain_3 ⟨Nat.le_of_ble_eq_true rfl, Nat.le_of_ble_eq_true rfl⟩ (fun H locs hW hS => ?_)
  refine lv_aload_n hx hb dX7_sizePlain_6 rfl (lv_at hl 0 rfl) ?_
  refine lv_bipush (v := 10) hx hb dX7_sizePlain_7 (by decide) ?_
  obtain ⟨q2, eq2, h⟩ := bdE h
  refine wd_callVv (ci := 7) (k := 370) CF hE hW hS (x_X7_begins l X 10 q1 eq2) mi_X7_begins vi_X7_begins tw1122 ⟨by decide, rfl⟩ sh_370 ⟨rfl, rfl, Nat.le_of_ble_eq_true rfl, Nat.le_of_ble_eq_true rfl⟩ rfl hl.1 rfl (Nat.le_of_ble_eq_true rfl) dX7_sizePlain_9 ⟨Nat.le_of_ble_eq_true rfl, Nat.le_of_ble_eq_true rfl⟩ (fun H locs hW hS => ?_)
  refine lv_aload_n hx hb dX7_sizePlain_12 rfl (lv_at hl 0 rfl) ?_
  refine wd_getR CF hE hW fl_X7_7 sh_370 rf_370_0 rfl dX7_sizePlain_13 ?_
  refine lv_iconst (v := 1) hx hb dX7_sizePlain_16 (by decide) ?_
  refine lv_iload_n hx hb dX7_sizePlain_17 rfl (lv_at hl 1 rfl) ?_
  refine lv_iadd hx hb dX7_sizePlain_18 ?_
  obtain ⟨x3, ex3, h⟩ := bdE h
  refine wd_iald CF hE hW sh_371 ex3 dX7_sizePlain_19 ?_
  refine lv_aload_n hx hb dX7_sizePlain_20 rfl (lv_at hl 0 rfl) ?_
  refine lv_iload_n hx hb dX7_sizePlain_21 rfl (lv_at hl 1 rfl) ?_
  obtain ⟨q4, eq4, h⟩ := bdE h
  refine wd_callVr (ci := 7) (k := 370) CF hE hW hS (x_X7_mark l X a1 q2 eq4) mi_X7_mark vi_X7_mark tw1130 ⟨by decide, rfl⟩ sh_370 ⟨rfl, rfl, Nat.le_of_ble_eq_true rfl, Nat.le_of_ble_eq_true rfl⟩ rfl hl.1 rfl (Nat.le_of_ble_eq_true rfl) dX7_sizePlain_22 ⟨Nat.le_of_ble_eq_true rfl, Nat.le_of_ble_eq_true rfl⟩ (fun H locs hW hS => ?_)
  refine lv_iadd hx hb dX7_sizePlain_25 ?_
  have h := Option.some.inj h
  subst h
  exact wd_iret CF hret hlk hW hS dX7_sizePlain_26
def f_X7_size_L67  (a1 : Int32) (z0 : Int32) (z1 : Int32) (D : wd_D) : Option (Int32 × wd_D) := (f_X7_sizeDeep z1 z0 D).bind (fun q10 => some (q10.1, q10.2))
def f_X7_size (a1 : Int32) (D : wd_D) : Option (Int32 × wd_D) := (rd 252 D 371 (42 + a1)).bind (fun x1 => (if x1 = 1 then (f_X7_sizePlain a1 D).bind (fun q3 => some (q3.1, q3.2)) else (if x1 = 2 then (f_X7_begins 12 D).bind (fun q5 => (f_X7_sizePlain a1 q5).bind (fun q6 => some (-q6.1, q6.2))) else (if x1 = 3 then (f_X7_sizePlain a1 D).bind (fun q8 => some (q8.1, q8.2)) else (if x1 = 5 then f_X7_size_L67 a1 1 a1 D else f_X7_size_L67 a1 0 a1 D)))))
set_option maxHeartbeats 4000000 in
set_option maxRecDepth 100000 in
theorem x_X7_size (l : Launch) (X : wd_X) (a1 : Int32) (D : wd_D) {qv : Int32 × wd_D} (h : f_X7_size a1 D = some qv) : wd_Met l X yX7_size cX7_size 3 (some FieldType.int) ({ frames := 6, cells := 0, slots := 0, locals := 600 }) S0 S0 ([.ref (X.2.2.1 + 370), .int a1] : List Value) D qv.2 (some (.int qv.1)) 0 0 := by
  refine wd_enter (by decide) (Nat.le_of_ble_eq_true rfl) ?_
  intro p e s m below meth c CF hret hlk hnm hW hE ls hl
  have CF : CallFix p m c cX7_size 3 s ([.ref (X.2.2.1 + 370), .int a1] : List Value).toArray tg RX7 := CF
  have hx := CF.1
  have hb := CF.2.1
  have hown := CF.2.2.2.1
  have hts := CF.2.2.2.2
  have hS : va_S (wd_A X) s.heap s.heap [] := va_S.rf
  have hl : lv_has ls 3 [(0, .ref (X.2.2.1 + 370)), (1, .int a1)] := hl
  unfold f_X7_size at h
  have hL67 : ∀ (z0 : Int32) (z1 : Int32) (D : wd_D) (H : Heap) (locs : List Loc) (ls : Array Slot), Wd X S0 D H → va_S (wd_A X) s.heap H locs → lv_has ls 3 [] → f_X7_size_L67 a1 z0 z1 D = some qv → W p l e ({ frames := 6, cells := 0, slots := 0, locals := 600 }) s m ([.ref (X.2.2.1 + 370), .int a1] : List Value).toArray below meth c H locs 0 0 (MQ below (wd_Q X S0 qv.2 (some (.int qv.1))) ([.ref (X.2.2.1 + 370), .int a1] : List Value).toArray s 0 0 (wd_A X)) (F0 m 67 ls [.int z0, .int z1, .ref (X.2.2.1 + 370)]) := by
    intro z0 z1 D H locs ls hW hS hl h
    unfold f_X7_size_L67 at h
    obtain ⟨q10, eq10, h⟩ := bdE h
    refine wd_callVr (ci := 7) (k := 370) CF hE hW hS (x_X7_sizeDeep l X z1 z0 D eq10) mi_X7_sizeDeep vi_X7_sizeDeep tw1142 ⟨by decide, rfl⟩ sh_370 ⟨rfl, rfl, Nat.le_of_ble_eq_true rfl, Nat.le_of_ble_eq_true rfl⟩ rfl hl.1 rfl (Nat.le_of_ble_eq_true rfl) dX7_size_67 ⟨Nat.le_of_ble_eq_true rfl, Nat.le_of_ble_eq_true rfl⟩ (fun H locs hW hS => ?_)
    have h := Option.some.inj h
    subst h
    exact wd_iret CF hret hlk hW hS dX7_size_70
  refine lv_aload_n hx hb dX7_size_0 rfl (lv_at hl 0 rfl) ?_
  refine wd_getR CF hE hW fl_X7_7 sh_370 rf_370_0 rfl dX7_size_1 ?_
  refine lv_bipush (v := 42) hx hb dX7_size_4 (by decide) ?_
  refine lv_iload_n hx hb dX7_size_6 rfl (lv_at hl 1 rfl) ?_
  refine lv_iadd hx hb dX7_size_7 ?_
  obtain ⟨x1, ex1, h⟩ := bdE h
  refine wd_iald CF hE hW sh_371 ex1 dX7_size_8 ?_
  refine lv_istore_n (lv' := [(2, .int x1), (0, .ref (X.2.2.1 + 370)), (1, .int a1)]) hx hb dX7_size_9 rfl hl (by decide) rfl (fun ls hl => ?_)
  refine lv_iload_n hx hb dX7_size_10 rfl (lv_at hl 0 rfl) ?_
  by_cases c2 : x1 = 1
  · rw [if_pos c2] at h
    refine lv_tableIn (tgt := 49) (off := 38) hx hb dX7_size_11 (by rw [c2]; decide) (by rw [c2]; decide) (by rw [c2]; rfl) (by decide) ?_
    refine lv_aload_n hx hb dX7_size_49 rfl (lv_at hl 1 rfl) ?_
    refine lv_iload_n hx hb dX7_size_50 rfl (lv_at hl 2 rfl) ?_
    obtain ⟨q3, eq3, h⟩ := bdE h
    refine wd_callVr (ci := 7) (k := 370) CF hE hW hS (x_X7_sizePlain l X a1 D eq3) mi_X7_sizePlain vi_X7_sizePlain tw1126 ⟨by decide, rfl⟩ sh_370 ⟨rfl, rfl, Nat.le_of_ble_eq_true rfl, Nat.le_of_ble_eq_true rfl⟩ rfl hl.1 rfl (Nat.le_of_ble_eq_true rfl) dX7_size_51 ⟨Nat.le_of_ble_eq_true rfl, Nat.le_of_ble_eq_true rfl⟩ (fun H locs hW hS => ?_)
    have h := Option.some.inj h
    subst h
    exact wd_iret CF hret hlk hW hS dX7_size_54
  · rw [if_neg c2] at h
    by_cases c4 : x1 = 2
    · rw [if_pos c4] at h
      refine lv_tableIn (tgt := 36) (off := 25) hx hb dX7_size_11 (by rw [c4]; decide) (by rw [c4]; decide) (by rw [c4]; rfl) (by decide) ?_
      refine lv_aload_n hx hb dX7_size_36 rfl (lv_at hl 1 rfl) ?_
      refine lv_bipush (v := 12) hx hb dX7_size_37 (by decide) ?_
      obtain ⟨q5, eq5, h⟩ := bdE h
      refine wd_callVv (ci := 7) (k := 370) CF hE hW hS (x_X7_begins l X 12 D eq5) mi_X7_begins vi_X7_begins tw1122 ⟨by decide, rfl⟩ sh_370 ⟨rfl, rfl, Nat.le_of_ble_eq_true rfl, Nat.le_of_ble_eq_true rfl⟩ rfl hl.1 rfl (Nat.le_of_ble_eq_true rfl) dX7_size_39 ⟨Nat.le_of_ble_eq_true rfl, Nat.le_of_ble_eq_true rfl⟩ (fun H locs hW hS => ?_)
      refine lv_aload_n hx hb dX7_size_42 rfl (lv_at hl 1 rfl) ?_
      refine lv_iload_n hx hb dX7_size_43 rfl (lv_at hl 2 rfl) ?_
      obtain ⟨q6, eq6, h⟩ := bdE h
      refine wd_callVr (ci := 7) (k := 370) CF hE hW hS (x_X7_sizePlain l X a1 q5 eq6) mi_X7_sizePlain vi_X7_sizePlain tw1126 ⟨by decide, rfl⟩ sh_370 ⟨rfl, rfl, Nat.le_of_ble_eq_true rfl, Nat.le_of_ble_eq_true rfl⟩ rfl hl.1 rfl (Nat.le_of_ble_eq_true rfl) dX7_size_44 ⟨Nat.le_of_ble_eq_true rfl, Nat.le_of_ble_eq_true rfl⟩ (fun H locs hW hS => ?_)
      refine lv_ineg hx hb dX7_size_47 ?_
      have h := Option.some.inj h
      subst h
      exact wd_iret CF hret hlk hW hS dX7_size_48
    · rw [if_neg c4] at h
      by_cases c7 : x1 = 3
      · rw [if_pos c7] at h
        refine lv_tableIn (tgt := 49) (off := 38) hx hb dX7_size_11 (by rw [c7]; decide) (by rw [c7]; decide) (by rw [c7]; rfl) (by decide) ?_
        refine lv_aload_n hx hb dX7_size_49 rfl (lv_at hl 1 rfl) ?_
        refine lv_iload_n hx hb dX7_size_50 rfl (lv_at hl 2 rfl) ?_
        obtain ⟨q8, eq8, h⟩ := bdE h
        refine wd_callVr (ci := 7) (k := 370) CF hE hW hS (x_X7_sizePlain l X a1 D eq8) mi_X7_sizePlain vi_X7_sizePlain tw1126 ⟨by decide, rfl⟩ sh_370 ⟨rfl, rfl, Nat.le_of_ble_eq_true rfl, Nat.le_of_ble_eq_true rfl⟩ rfl hl.1 rfl (Nat.le_of_ble_eq_true rfl) dX7_size_51 ⟨Nat.le_of_ble_eq_true rfl, Nat.le_of_ble_eq_true rfl⟩ (fun H locs hW hS => ?_)
        have h := Option.some.inj h
        subst h
        exact wd_iret CF hret hlk hW hS dX7_size_54
      · rw [if_neg c7] at h
        have ic2 := lv_neT (a := 1) c2 (by decide)
        have ic4 := lv_neT (a := 2) c4 (by decide)
        have ic7 := lv_neT (a := 3) c7 (by decide)
        refine lv_tableOut (tgt := 55) hx hb dX7_size_11 (by omega) (by decide) ?_
        refine lv_aload_n hx hb dX7_size_55 rfl (lv_at hl 1 rfl) ?_
        refine lv_iload_n hx hb dX7_size_56 rfl (lv_at hl 2 rfl) ?_
        refine lv_iload_n hx hb dX7_size_57 rfl (lv_at hl 0 rfl) ?_
        refine lv_iconst (v := 5) hx hb dX7_size_58 (by decide) ?_
        refine lv_icmp_ne (tgt := 66) hx hb dX7_size_59 (by decide) (fun c9 => ?_) (fun c9 => ?_)
        · rw [if_neg c9] at h
          refine lv_iconst (v := 0) hx hb dX7_size_66 (by decide) ?_
          exact hL67 0 a1 D _ _ _  hW hS (lv_sub hl [] rfl) h
        · rw [if_pos c9] at h
          refine lv_iconst (v := 1) hx hb dX7_size_62 (by decide) ?_
          refine lv_goto (tgt := 67) hx hb dX7_size_63 (by decide) ?_
          exact hL67 1 a1 D _ _ _  hW hS (lv_sub hl [] rfl) h
def f_X7_ask (a1 : Int32) (a2 : Int32) (D : wd_D) : Option (Int32 × wd_D) := (f_X7_isChild a1 D).bind (fun x1 => (if x1 = 0 then some ((-1000001), D) else (if (f_X7_in a2.toInt64 0 1) = 0 then some ((-1000001), D) else ap (sI D 370 12 0) (fun D4 => (if a2 = 0 then (f_X7_size a1 D4).bind (fun q7 => some (q7.1, q7.2)) else (f_X7_mark a1 D4).bind (fun q6 => some (q6.1, q6.2)))))))
set_option maxHeartbeats 4000000 in
set_option maxRecDepth 100000 in
theorem x_X7_ask (l : Launch) (X : wd_X) (a1 : Int32) (a2 : Int32) (D : wd_D) {qv : Int32 × wd_D} (h : f_X7_ask a1 a2 D = some qv) : wd_Met l X yX7_ask cX7_ask 3 (some FieldType.int) ({ frames := 7, cells := 0, slots := 0, locals := 700 }) S0 S0 ([.ref (X.2.2.1 + 370), .int a1, .int a2] : List Value) D qv.2 (some (.int qv.1)) 0 0 := by
  refine wd_enter (by decide) (Nat.le_of_ble_eq_true rfl) ?_
  intro p e s m below meth c CF hret hlk hnm hW hE ls hl
  have CF : CallFix p m c cX7_ask 3 s ([.ref (X.2.2.1 + 370), .int a1, .int a2] : List Value).toArray tg RX7 := CF
  have hx := CF.1
  have hb := CF.2.1
  have hown := CF.2.2.2.1
  have hts := CF.2.2.2.2
  have hS : va_S (wd_A X) s.heap s.heap [] := va_S.rf
  have hl : lv_has ls 3 [(0, .ref (X.2.2.1 + 370)), (1, .int a1), (2, .int a2)] := hl
  unfold f_X7_ask at h
  refine lv_aload_n hx hb dX7_ask_0 rfl (lv_at hl 0 rfl) ?_
  refine lv_iload_n hx hb dX7_ask_1 rfl (lv_at hl 1 rfl) ?_
  obtain ⟨x1, ex1, h⟩ := bdE h
  refine wd_callVr (ci := 7) (k := 370) CF hE hW hS (x_X7_isChild l X a1 D ex1) mi_X7_isChild vi_X7_isChild tw955 ⟨by decide, rfl⟩ sh_370 ⟨rfl, rfl, Nat.le_of_ble_eq_true rfl, Nat.le_of_ble_eq_true rfl⟩ rfl hl.1 rfl (Nat.le_of_ble_eq_true rfl) dX7_ask_2 ⟨Nat.le_of_ble_eq_true rfl, Nat.le_of_ble_eq_true rfl⟩ (fun H locs hW hS => ?_)
  refine lv_if_eq (tgt := 18) hx hb dX7_ask_5 (by decide) (fun c2 => ?_) (fun c2 => ?_)
  · rw [if_pos c2] at h
    refine lv_ldc (v := (-1000001)) hx hb hown (hts _ tw822) dX7_ask_18 ?_
    have h := Option.some.inj h
    subst h
    exact wd_iret CF hret hlk hW hS dX7_ask_20
  · rw [if_neg c2] at h
    refine lv_iload_n hx hb dX7_ask_8 rfl (lv_at hl 2 rfl) ?_
    refine lv_i2l hx hb dX7_ask_9 rfl ?_
    refine lv_lconst (v := 0) hx hb dX7_ask_10 (by decide) ?_
    refine lv_lconst (v := 1) hx hb dX7_ask_11 (by decide) ?_
    refine wd_callSr CF hE hW hS (x_X7_in l X a2.toInt64 0 1 D) mi_X7_in vi_X7_in tw818 ⟨rfl, rfl, Nat.le_of_ble_eq_true rfl, Nat.le_of_ble_eq_true rfl⟩ rfl hl.1 rfl (Nat.le_of_ble_eq_true rfl) dX7_ask_12 ⟨Nat.le_of_ble_eq_true rfl, Nat.le_of_ble_eq_true rfl⟩ (fun H locs hW hS => ?_)
    refine lv_if_ne (tgt := 21) hx hb dX7_ask_15 (by decide) (fun c3 => ?_) (fun c3 => ?_)
    · rw [if_neg c3] at h
      refine lv_aload_n hx hb dX7_ask_21 rfl (lv_at hl 0 rfl) ?_
      refine lv_iconst (v := 0) hx hb dX7_ask_22 (by decide) ?_
      refine wd_putI CF hE hW hS fl_X7_233 sh_370 rfl rfl dX7_ask_23 (fun D4 H locs eD4 hW hS => ?_)
      replace h := apR eD4 h
      refine lv_iload_n hx hb dX7_ask_26 rfl (lv_at hl 2 rfl) ?_
      refine lv_if_ne (tgt := 38) hx hb dX7_ask_27 (by decide) (fun c5 => ?_) (fun c5 => ?_)
      · rw [if_neg c5] at h
        refine lv_aload_n hx hb dX7_ask_38 rfl (lv_at hl 0 rfl) ?_
        refine lv_iload_n hx hb dX7_ask_39 rfl (lv_at hl 1 rfl) ?_
        obtain ⟨q6, eq6, h⟩ := bdE h
        refine wd_callVr (ci := 7) (k := 370) CF hE hW hS (x_X7_mark l X a1 D4 eq6) mi_X7_mark vi_X7_mark tw1130 ⟨by decide, rfl⟩ sh_370 ⟨rfl, rfl, Nat.le_of_ble_eq_true rfl, Nat.le_of_ble_eq_true rfl⟩ rfl hl.1 rfl (Nat.le_of_ble_eq_true rfl) dX7_ask_40 ⟨Nat.le_of_ble_eq_true rfl, Nat.le_of_ble_eq_true rfl⟩ (fun H locs hW hS => ?_)
        have h := Option.some.inj h
        subst h
        exact wd_iret CF hret hlk hW hS dX7_ask_43
      · rw [if_pos c5] at h
        refine lv_aload_n hx hb dX7_ask_30 rfl (lv_at hl 0 rfl) ?_
        refine lv_iload_n hx hb dX7_ask_31 rfl (lv_at hl 1 rfl) ?_
        obtain ⟨q7, eq7, h⟩ := bdE h
        refine wd_callVr (ci := 7) (k := 370) CF hE hW hS (x_X7_size l X a1 D4 eq7) mi_X7_size vi_X7_size tw1118 ⟨by decide, rfl⟩ sh_370 ⟨rfl, rfl, Nat.le_of_ble_eq_true rfl, Nat.le_of_ble_eq_true rfl⟩ rfl hl.1 rfl (Nat.le_of_ble_eq_true rfl) dX7_ask_32 ⟨Nat.le_of_ble_eq_true rfl, Nat.le_of_ble_eq_true rfl⟩ (fun H locs hW hS => ?_)
        refine lv_goto (tgt := 43) hx hb dX7_ask_35 (by decide) ?_
        have h := Option.some.inj h
        subst h
        exact wd_iret CF hret hlk hW hS dX7_ask_43
    · rw [if_pos c3] at h
      refine lv_ldc (v := (-1000001)) hx hb hown (hts _ tw822) dX7_ask_18 ?_
      have h := Option.some.inj h
      subst h
      exact wd_iret CF hret hlk hW hS dX7_ask_20
def f_X7_trace (a1 : Int32) (D : wd_D) : Option (Int32) := (if (f_X7_in a1.toInt64 0 (((gI D 370 12) - 1).toInt64)) = 0 then some (-1000000) else (rd 16 D 378 a1).bind (fun x2 => some x2))
set_option maxHeartbeats 4000000 in
set_option maxRecDepth 100000 in
theorem x_X7_trace (l : Launch) (X : wd_X) (a1 : Int32) (D : wd_D) {rv : Int32} (h : f_X7_trace a1 D = some rv) : wd_Met l X yX7_trace cX7_trace 2 (some FieldType.int) ({ frames := 1, cells := 0, slots := 0, locals := 100 }) S0 S0 ([.ref (X.2.2.1 + 370), .int a1] : List Value) D D (some (.int rv)) 0 0 := by
  refine wd_enter (by decide) (Nat.le_of_ble_eq_true rfl) ?_
  intro p e s m below meth c CF hret hlk hnm hW hE ls hl
  have CF : CallFix p m c cX7_trace 2 s ([.ref (X.2.2.1 + 370), .int a1] : List Value).toArray tg RX7 := CF
  have hx := CF.1
  have hb := CF.2.1
  have hown := CF.2.2.2.1
  have hts := CF.2.2.2.2
  have hS : va_S (wd_A X) s.heap s.heap [] := va_S.rf
  have hl : lv_has ls 2 [(0, .ref (X.2.2.1 + 370)), (1, .int a1)] := hl
  unfold f_X7_trace at h
  refine lv_iload_n hx hb dX7_trace_0 rfl (lv_at hl 1 rfl) ?_
  refine lv_i2l hx hb dX7_trace_1 rfl ?_
  refine lv_lconst (v := 0) hx hb dX7_trace_2 (by decide) ?_
  refine lv_aload_n hx hb dX7_trace_3 rfl (lv_at hl 0 rfl) ?_
  refine wd_get CF hE hW fl_X7_233 sh_370 (v := .int (gI D 370 12)) rfl dX7_trace_4 ?_
  refine lv_iconst (v := 1) hx hb dX7_trace_7 (by decide) ?_
  refine lv_isub hx hb dX7_trace_8 ?_
  refine lv_i2l hx hb dX7_trace_9 rfl ?_
  refine wd_callSr CF hE hW hS (x_X7_in l X a1.toInt64 0 (((gI D 370 12) - 1).toInt64) D) mi_X7_in vi_X7_in tw818 ⟨rfl, rfl, Nat.le_of_ble_eq_true rfl, Nat.le_of_ble_eq_true rfl⟩ rfl hl.1 rfl (Nat.le_of_ble_eq_true rfl) dX7_trace_10 ⟨Nat.le_of_ble_eq_true rfl, Nat.le_of_ble_eq_true rfl⟩ (fun H locs hW hS => ?_)
  refine lv_if_eq (tgt := 25) hx hb dX7_trace_13 (by decide) (fun c1 => ?_) (fun c1 => ?_)
  · rw [if_pos c1] at h
    refine lv_ldc (v := (-1000000)) hx hb hown (hts _ tw1020) dX7_trace_25 ?_
    have h := Option.some.inj h
    subst h
    exact wd_iret CF hret hlk hW hS dX7_trace_27
  · rw [if_neg c1] at h
    refine lv_aload_n hx hb dX7_trace_16 rfl (lv_at hl 0 rfl) ?_
    refine wd_getR CF hE hW fl_X7_32 sh_370 rf_370_11 rfl dX7_trace_17 ?_
    refine lv_iload_n hx hb dX7_trace_20 rfl (lv_at hl 1 rfl) ?_
    obtain ⟨x2, ex2, h⟩ := bdE h
    refine wd_iald CF hE hW sh_378 ex2 dX7_trace_21 ?_
    refine lv_goto (tgt := 27) hx hb dX7_trace_22 (by decide) ?_
    have h := Option.some.inj h
    subst h
    exact wd_iret CF hret hlk hW hS dX7_trace_27
def f_X7_count_L73 (k52 : Int32 → Int32 → Int32 → wd_D → Option (Int32)) (a1 : Int32) (v3 : Int32) (z0 : Int32) (z1 : Int32) (D : wd_D) : Option (Int32) := ap (z1 + z0) (fun x20 => ap (v3 + 1) (fun x21 => k52 a1 x20 x21 D))
def f_X7_count_L52  : Nat → Int32 → Int32 → Int32 → wd_D → Option (Int32)
  | 0, _, _, _, _ => none
  | n + 1, a1, v2, v3, D => (if 8 ≤ v3 then some v2 else (rd 8 D 375 v3).bind (fun x18 => (if 0 ≤ x18 then f_X7_count_L73 (f_X7_count_L52 n) a1 v3 1 v2 D else f_X7_count_L73 (f_X7_count_L52 n) a1 v3 0 v2 D)))
def f_X7_count (a1 : Int32) (D : wd_D) : Option (Int32) := (if a1 = 0 then f_X7_count_L52 FU a1 0 0 D else (if a1 = 1 then (rd 252 D 371 41).bind (fun x3 => some x3) else (if a1 = 2 then (rd 252 D 371 0).bind (fun x5 => some x5) else (if a1 = 3 then (f_X7_thoseWho 0 2 D).bind (fun x7 => (f_X7_ones x7).bind (fun x8 => some x8)) else (if a1 = 4 then (f_X7_thoseWho 0 1 D).bind (fun x10 => (f_X7_ones x10).bind (fun x11 => some x11)) else (if a1 = 5 then (rd 252 D 371 36).bind (fun x13 => (f_X7_ones x13).bind (fun x14 => some x14)) else (if a1 = 6 then some (gI D 370 3) else (if a1 = 7 then some (gI D 370 9) else some (-1000001)))))))))
set_option maxHeartbeats 4000000 in
set_option maxRecDepth 100000 in
theorem x_X7_count (l : Launch) (X : wd_X) (a1 : Int32) (D : wd_D) {rv : Int32} (h : f_X7_count a1 D = some rv) : wd_Met l X yX7_count cX7_count 4 (some FieldType.int) ({ frames := 1, cells := 0, slots := 0, locals := 100 }) S0 S0 ([.ref (X.2.2.1 + 370), .int a1] : List Value) D D (some (.int rv)) 0 0 := by
  refine wd_enter (by decide) (Nat.le_of_ble_eq_true rfl) ?_
  intro p e s m below meth c CF hret hlk hnm hW hE ls hl
  have CF : CallFix p m c cX7_count 4 s ([.ref (X.2.2.1 + 370), .int a1] : List Value).toArray tg RX7 := CF
  have hx := CF.1
  have hb := CF.2.1
  have hown := CF.2.2.2.1
  have hts := CF.2.2.2.2
  have hS : va_S (wd_A X) s.heap s.heap [] := va_S.rf
  have hl : lv_has ls 4 [(0, .ref (X.2.2.1 + 370)), (1, .int a1)] := hl
  unfold f_X7_count at h
  have hL52 : ∀ (n52 : Nat) (v2 : Int32) (v3 : Int32) (H : Heap) (locs : List Loc) (ls : Array Slot), Wd X S0 D H → va_S (wd_A X) s.heap H locs → lv_has ls 4 [(0, .ref (X.2.2.1 + 370)), (2, .int v2), (3, .int v3)] → f_X7_count_L52 n52 a1 v2 v3 D = some rv → W p l e ({ frames := 1, cells := 0, slots := 0, locals := 100 }) s m ([.ref (X.2.2.1 + 370), .int a1] : List Value).toArray below meth c H locs 0 0 (MQ below (wd_Q X S0 D (some (.int rv))) ([.ref (X.2.2.1 + 370), .int a1] : List Value).toArray s 0 0 (wd_A X)) (F0 m 52 ls []) := by
    intro n52
    induction n52 with
    | zero => intro v2 v3 H locs ls hW hS hl h; cases h
    | succ n52 ih52 =>
      have hL73 : ∀ (v3 : Int32) (z0 : Int32) (z1 : Int32) (H : Heap) (locs : List Loc) (ls : Array Slot), Wd X S0 D H → va_S (wd_A X) s.heap H locs → lv_has ls 4 [(0, .ref (X.2.2.1 + 370)), (3, .int v3)] → f_X7_count_L73 (f_X7_count_L52 n52) a1 v3 z0 z1 D = some rv → W p l e ({ frames := 1, cells := 0, slots := 0, locals := 100 }) s m ([.ref (X.2.2.1 + 370), .int a1] : List Value).toArray below meth c H locs 0 0 (MQ below (wd_Q X S0 D (some (.int rv))) ([.ref (X.2.2.1 + 370), .int a1] : List Value).toArray s 0 0 (wd_A X)) (F0 m 73 ls [.int z0, .int z1]) := by
        intro v3 z0 z1 H locs ls hW hS hl h
        unfold f_X7_count_L73 at h
        refine lv_iadd hx hb dX7_count_73 ?_
        refine lv_topi (fun x20 ex20 => ?_)
        replace h := apR ex20 h
        refine lv_istore_n (lv' := [(2, .int x20), (0, .ref (X.2.2.1 + 370)), (3, .int v3)]) hx hb dX7_count_74 rfl hl (by decide) rfl (fun ls hl => ?_)
        obtain ⟨x21, ex21⟩ : ∃ y : Int32, y = v3 + 1 := ⟨_, rfl⟩
        replace h := apR ex21 h
        refine lv_iinc (v := x21) (lv' := [(3, .int x21), (2, .int x20), (0, .ref (X.2.2.1 + 370))]) hx hb dX7_count_75 hl (k := 2) rfl (by rw [ex21]; rfl) (by decide) rfl (fun ls hl => ?_)
        refine lv_goto (tgt := 52) hx hb dX7_count_78 (by decide) ?_
        exact ih52 x20 x21 _ _ _  hW hS (lv_sub hl [2, 1, 0] rfl) h
      intro v2 v3 H locs ls hW hS hl h
      rw [f_X7_count_L52] at h
      refine lv_iload_n hx hb dX7_count_52 rfl (lv_at hl 2 rfl) ?_
      refine lv_bipush (v := 8) hx hb dX7_count_53 (by decide) ?_
      refine lv_icmp_ge (tgt := 81) hx hb dX7_count_55 (by decide) (fun c17 => ?_) (fun c17 => ?_)
      · rw [if_pos c17] at h
        refine lv_iload_n hx hb dX7_count_81 rfl (lv_at hl 1 rfl) ?_
        have h := Option.some.inj h
        subst h
        exact wd_iret CF hret hlk hW hS dX7_count_82
      · rw [if_neg c17] at h
        refine lv_iload_n hx hb dX7_count_58 rfl (lv_at hl 1 rfl) ?_
        refine lv_aload_n hx hb dX7_count_59 rfl (lv_at hl 0 rfl) ?_
        refine wd_getR CF hE hW fl_X7_23 sh_370 rf_370_5 rfl dX7_count_60 ?_
        refine lv_iload_n hx hb dX7_count_63 rfl (lv_at hl 2 rfl) ?_
        obtain ⟨x18, ex18, h⟩ := bdE h
        refine wd_iald CF hE hW sh_375 ex18 dX7_count_64 ?_
        refine lv_if_ge (tgt := 72) hx hb dX7_count_65 (by decide) (fun c19 => ?_) (fun c19 => ?_)
        · rw [if_pos c19] at h
          refine lv_iconst (v := 1) hx hb dX7_count_72 (by decide) ?_
          exact hL73 v3 1 v2 _ _ _  hW hS (lv_sub hl [0, 2] rfl) h
        · rw [if_neg c19] at h
          refine lv_iconst (v := 0) hx hb dX7_count_68 (by decide) ?_
          refine lv_goto (tgt := 73) hx hb dX7_count_69 (by decide) ?_
          exact hL73 v3 0 v2 _ _ _  hW hS (lv_sub hl [0, 2] rfl) h
  refine lv_iload_n hx hb dX7_count_0 rfl (lv_at hl 1 rfl) ?_
  by_cases c1 : a1 = 0
  · rw [if_pos c1] at h
    refine lv_tableIn (tgt := 48) (off := 47) hx hb dX7_count_1 (by rw [c1]; decide) (by rw [c1]; decide) (by rw [c1]; rfl) (by decide) ?_
    refine lv_iconst (v := 0) hx hb dX7_count_48 (by decide) ?_
    refine lv_istore_n (lv' := [(2, .int 0), (0, .ref (X.2.2.1 + 370)), (1, .int a1)]) hx hb dX7_count_49 rfl hl (by decide) rfl (fun ls hl => ?_)
    refine lv_iconst (v := 0) hx hb dX7_count_50 (by decide) ?_
    refine lv_istore_n (lv' := [(3, .int 0), (2, .int 0), (0, .ref (X.2.2.1 + 370)), (1, .int a1)]) hx hb dX7_count_51 rfl hl (by decide) rfl (fun ls hl => ?_)
    exact hL52 FU 0 0 _ _ _  hW hS (lv_sub hl [2, 1, 0] rfl) h
  · rw [if_neg c1] at h
    by_cases c2 : a1 = 1
    · rw [if_pos c2] at h
      refine lv_tableIn (tgt := 83) (off := 82) hx hb dX7_count_1 (by rw [c2]; decide) (by rw [c2]; decide) (by rw [c2]; rfl) (by decide) ?_
      refine lv_aload_n hx hb dX7_count_83 rfl (lv_at hl 0 rfl) ?_
      refine wd_getR CF hE hW fl_X7_7 sh_370 rf_370_0 rfl dX7_count_84 ?_
      refine lv_bipush (v := 41) hx hb dX7_count_87 (by decide) ?_
      obtain ⟨x3, ex3, h⟩ := bdE h
      refine wd_iald CF hE hW sh_371 ex3 dX7_count_89 ?_
      have h := Option.some.inj h
      subst h
      exact wd_iret CF hret hlk hW hS dX7_count_90
    · rw [if_neg c2] at h
      by_cases c4 : a1 = 2
      · rw [if_pos c4] at h
        refine lv_tableIn (tgt := 91) (off := 90) hx hb dX7_count_1 (by rw [c4]; decide) (by rw [c4]; decide) (by rw [c4]; rfl) (by decide) ?_
        refine lv_aload_n hx hb dX7_count_91 rfl (lv_at hl 0 rfl) ?_
        refine wd_getR CF hE hW fl_X7_7 sh_370 rf_370_0 rfl dX7_count_92 ?_
        refine lv_iconst (v := 0) hx hb dX7_count_95 (by decide) ?_
        obtain ⟨x5, ex5, h⟩ := bdE h
        refine wd_iald CF hE hW sh_371 ex5 dX7_count_96 ?_
        have h := Option.some.inj h
        subst h
        exact wd_iret CF hret hlk hW hS dX7_count_97
      · rw [if_neg c4] at h
        by_cases c6 : a1 = 3
        · rw [if_pos c6] at h
          refine lv_tableIn (tgt := 98) (off := 97) hx hb dX7_count_1 (by rw [c6]; decide) (by rw [c6]; decide) (by rw [c6]; rfl) (by decide) ?_
          refine lv_aload_n hx hb dX7_count_98 rfl (lv_at hl 0 rfl) ?_
          refine lv_iconst (v := 0) hx hb dX7_count_99 (by decide) ?_
          refine lv_iconst (v := 2) hx hb dX7_count_100 (by decide) ?_
          obtain ⟨x7, ex7, h⟩ := bdE h
          refine wd_callVr (ci := 7) (k := 370) CF hE hW hS (x_X7_thoseWho l X 0 2 D ex7) mi_X7_thoseWho vi_X7_thoseWho tw947 ⟨by decide, rfl⟩ sh_370 ⟨rfl, rfl, Nat.le_of_ble_eq_true rfl, Nat.le_of_ble_eq_true rfl⟩ rfl hl.1 rfl (Nat.le_of_ble_eq_true rfl) dX7_count_101 ⟨Nat.le_of_ble_eq_true rfl, Nat.le_of_ble_eq_true rfl⟩ (fun H locs hW hS => ?_)
          obtain ⟨x8, ex8, h⟩ := bdE h
          refine wd_callSr CF hE hW hS (x_X7_ones l X x7 D ex8) mi_X7_ones vi_X7_ones tw959 ⟨rfl, rfl, Nat.le_of_ble_eq_true rfl, Nat.le_of_ble_eq_true rfl⟩ rfl hl.1 rfl (Nat.le_of_ble_eq_true rfl) dX7_count_104 ⟨Nat.le_of_ble_eq_true rfl, Nat.le_of_ble_eq_true rfl⟩ (fun H locs hW hS => ?_)
          have h := Option.some.inj h
          subst h
          exact wd_iret CF hret hlk hW hS dX7_count_107
        · rw [if_neg c6] at h
          by_cases c9 : a1 = 4
          · rw [if_pos c9] at h
            refine lv_tableIn (tgt := 108) (off := 107) hx hb dX7_count_1 (by rw [c9]; decide) (by rw [c9]; decide) (by rw [c9]; rfl) (by decide) ?_
            refine lv_aload_n hx hb dX7_count_108 rfl (lv_at hl 0 rfl) ?_
            refine lv_iconst (v := 0) hx hb dX7_count_109 (by decide) ?_
            refine lv_iconst (v := 1) hx hb dX7_count_110 (by decide) ?_
            obtain ⟨x10, ex10, h⟩ := bdE h
            refine wd_callVr (ci := 7) (k := 370) CF hE hW hS (x_X7_thoseWho l X 0 1 D ex10) mi_X7_thoseWho vi_X7_thoseWho tw947 ⟨by decide, rfl⟩ sh_370 ⟨rfl, rfl, Nat.le_of_ble_eq_true rfl, Nat.le_of_ble_eq_true rfl⟩ rfl hl.1 rfl (Nat.le_of_ble_eq_true rfl) dX7_count_111 ⟨Nat.le_of_ble_eq_true rfl, Nat.le_of_ble_eq_true rfl⟩ (fun H locs hW hS => ?_)
            obtain ⟨x11, ex11, h⟩ := bdE h
            refine wd_callSr CF hE hW hS (x_X7_ones l X x10 D ex11) mi_X7_ones vi_X7_ones tw959 ⟨rfl, rfl, Nat.le_of_ble_eq_true rfl, Nat.le_of_ble_eq_true rfl⟩ rfl hl.1 rfl (Nat.le_of_ble_eq_true rfl) dX7_count_114 ⟨Nat.le_of_ble_eq_true rfl, Nat.le_of_ble_eq_true rfl⟩ (fun H locs hW hS => ?_)
            have h := Option.some.inj h
            subst h
            exact wd_iret CF hret hlk hW hS dX7_count_117
          · rw [if_neg c9] at h
            by_cases c12 : a1 = 5
            · rw [if_pos c12] at h
              refine lv_tableIn (tgt := 118) (off := 117) hx hb dX7_count_1 (by rw [c12]; decide) (by rw [c12]; decide) (by rw [c12]; rfl) (by decide) ?_
              refine lv_aload_n hx hb dX7_count_118 rfl (lv_at hl 0 rfl) ?_
              refine wd_getR CF hE hW fl_X7_7 sh_370 rf_370_0 rfl dX7_count_119 ?_
              refine lv_bipush (v := 36) hx hb dX7_count_122 (by decide) ?_
              obtain ⟨x13, ex13, h⟩ := bdE h
              refine wd_iald CF hE hW sh_371 ex13 dX7_count_124 ?_
              obtain ⟨x14, ex14, h⟩ := bdE h
              refine wd_callSr CF hE hW hS (x_X7_ones l X x13 D ex14) mi_X7_ones vi_X7_ones tw959 ⟨rfl, rfl, Nat.le_of_ble_eq_true rfl, Nat.le_of_ble_eq_true rfl⟩ rfl hl.1 rfl (Nat.le_of_ble_eq_true rfl) dX7_count_125 ⟨Nat.le_of_ble_eq_true rfl, Nat.le_of_ble_eq_true rfl⟩ (fun H locs hW hS => ?_)
              have h := Option.some.inj h
              subst h
              exact wd_iret CF hret hlk hW hS dX7_count_128
            · rw [if_neg c12] at h
              by_cases c15 : a1 = 6
              · rw [if_pos c15] at h
                refine lv_tableIn (tgt := 129) (off := 128) hx hb dX7_count_1 (by rw [c15]; decide) (by rw [c15]; decide) (by rw [c15]; rfl) (by decide) ?_
                refine lv_aload_n hx hb dX7_count_129 rfl (lv_at hl 0 rfl) ?_
                refine wd_get CF hE hW fl_X7_120 sh_370 (v := .int (gI D 370 3)) rfl dX7_count_130 ?_
                have h := Option.some.inj h
                subst h
                exact wd_iret CF hret hlk hW hS dX7_count_133
              · rw [if_neg c15] at h
                by_cases c16 : a1 = 7
                · rw [if_pos c16] at h
                  refine lv_tableIn (tgt := 134) (off := 133) hx hb dX7_count_1 (by rw [c16]; decide) (by rw [c16]; decide) (by rw [c16]; rfl) (by decide) ?_
                  refine lv_aload_n hx hb dX7_count_134 rfl (lv_at hl 0 rfl) ?_
                  refine wd_get CF hE hW fl_X7_72 sh_370 (v := .int (gI D 370 9)) rfl dX7_count_135 ?_
                  have h := Option.some.inj h
                  subst h
                  exact wd_iret CF hret hlk hW hS dX7_count_138
                · rw [if_neg c16] at h
                  have ic1 := lv_neT (a := 0) c1 (by decide)
                  have ic2 := lv_neT (a := 1) c2 (by decide)
                  have ic4 := lv_neT (a := 2) c4 (by decide)
                  have ic6 := lv_neT (a := 3) c6 (by decide)
                  have ic9 := lv_neT (a := 4) c9 (by decide)
                  have ic12 := lv_neT (a := 5) c12 (by decide)
                  have ic15 := lv_neT (a := 6) c15 (by decide)
                  have ic16 := lv_neT (a := 7) c16 (by decide)
                  refine lv_tableOut (tgt := 139) hx hb dX7_count_1 (by omega) (by decide) ?_
                  refine lv_ldc (v := (-1000001)) hx hb hown (hts _ tw822) dX7_count_139 ?_
                  have h := Option.some.inj h
                  subst h
                  exact wd_iret CF hret hlk hW hS dX7_count_141
def f_X7_status  (D : wd_D) : Int32 := (gI D 370 7)
set_option maxHeartbeats 4000000 in
set_option maxRecDepth 100000 in
theorem x_X7_status (l : Launch) (X : wd_X)  (D : wd_D) : wd_Met l X yX7_status cX7_status 1 (some FieldType.int) ({ frames := 0, cells := 0, slots := 0, locals := 0 }) S0 S0 ([.ref (X.2.2.1 + 370)] : List Value) D D (some (.int (f_X7_status  D))) 0 0 := by
  obtain ⟨rv, h⟩ : ∃ rv, f_X7_status  D = rv := ⟨_, rfl⟩
  rw [h]
  refine wd_enter (by decide) (Nat.le_of_ble_eq_true rfl) ?_
  intro p e s m below meth c CF hret hlk hnm hW hE ls hl
  have CF : CallFix p m c cX7_status 1 s ([.ref (X.2.2.1 + 370)] : List Value).toArray tg RX7 := CF
  have hx := CF.1
  have hb := CF.2.1
  have hown := CF.2.2.2.1
  have hts := CF.2.2.2.2
  have hS : va_S (wd_A X) s.heap s.heap [] := va_S.rf
  have hl : lv_has ls 1 [(0, .ref (X.2.2.1 + 370))] := hl
  unfold f_X7_status at h
  refine lv_aload_n hx hb dX7_status_0 rfl (lv_at hl 0 rfl) ?_
  refine wd_get CF hE hW fl_X7_41 sh_370 (v := .int (gI D 370 7)) rfl dX7_status_1 ?_
  subst h
  exact wd_iret CF hret hlk hW hS dX7_status_4
