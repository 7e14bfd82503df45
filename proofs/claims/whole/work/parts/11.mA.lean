/-! J6_bitCount_0f7a4, X6_has, X6_beyond, X6_noRow, X6_isOne, X4_lacks, X4_begin, X4_narrowed, X4_findingFor -/
def f_J6_bitCount_0f7a4 (a0 : Int32) : Int32 := ap (a0 - (((a0.toUInt32 >>> ((1 : Int32).toUInt32 &&& Int32.toUInt32 31)).toInt32) &&& 1431655765)) (fun x1 => ap ((x1 &&& 858993459) + (((x1.toUInt32 >>> ((2 : Int32).toUInt32 &&& Int32.toUInt32 31)).toInt32) &&& 858993459)) (fun x2 => ap ((x2 + ((x2.toUInt32 >>> ((4 : Int32).toUInt32 &&& Int32.toUInt32 31)).toInt32)) &&& 252645135) (fun x3 => ap (x3 + ((x3.toUInt32 >>> ((8 : Int32).toUInt32 &&& Int32.toUInt32 31)).toInt32)) (fun x4 => ap (x4 + ((x4.toUInt32 >>> ((16 : Int32).toUInt32 &&& Int32.toUInt32 31)).toInt32)) (fun x5 => (x5 &&& 63))))))
set_option maxHeartbeats 4000000 in
set_option maxRecDepth 100000 in
theorem x_J6_bitCount_0f7a4 (l : Launch) (X : wd_X) (a0 : Int32) (D : wd_D) : wd_Met l X yJ6_bitCount_0f7a4 cJ6_bitCount_0f7a4 1 (some FieldType.int) ({ frames := 0, cells := 0, slots := 0, locals := 0 }) S0 S0 ([.int a0] : List Value) D D (some (.int (f_J6_bitCount_0f7a4 a0))) 0 0 := by
  obtain ⟨rv, h⟩ : ∃ rv, f_J6_bitCount_0f7a4 a0 = rv := ⟨_, rfl⟩
  rw [h]
  refine wd_enter (by decide) (Nat.le_of_ble_eq_true rfl) ?_
  intro p e s m below meth c CF hret hlk hnm hW hE ls hl
  have CF : CallFix p m c cJ6_bitCount_0f7a4 1 s ([.int a0] : List Value).toArray tg RJ6 := CF
  have hx := CF.1
  have hb := CF.2.1
  have hown := CF.2.2.2.1
  have hts := CF.2.2.2.2
  have hS : va_S (wd_A X) s.heap s.heap [] := va_S.rf
  have hl : lv_has ls 1 [(0, .int a0)] := hl
  unfold f_J6_bitCount_0f7a4 at h
  refine lv_iload_n hx hb dJ6_bitCount_0f7a4_0 rfl (lv_at hl 0 rfl) ?_
  refine lv_iload_n hx hb dJ6_bitCount_0f7a4_1 rfl (lv_at hl 0 rfl) ?_
  refine lv_iconst (v := 1) hx hb dJ6_bitCount_0f7a4_2 (by decide) ?_
  refine lv_iushr hx hb dJ6_bitCount_0f7a4_3 rfl ?_
  refine lv_ldcw (v := 1431655765) hx hb hown (hts _ tw472) dJ6_bitCount_0f7a4_4 ?_
  refine lv_iand hx hb dJ6_bitCount_0f7a4_7 ?_
  refine lv_isub hx hb dJ6_bitCount_0f7a4_8 ?_
  refine lv_topi (fun x1 ex1 => ?_)
  replace h := apR ex1 h
  refine lv_istore_n (lv' := [(0, .int x1)]) hx hb dJ6_bitCount_0f7a4_9 rfl hl (by decide) rfl (fun ls hl => ?_)
  refine lv_iload_n hx hb dJ6_bitCount_0f7a4_10 rfl (lv_at hl 0 rfl) ?_
  refine lv_ldcw (v := 858993459) hx hb hown (hts _ tw473) dJ6_bitCount_0f7a4_11 ?_
  refine lv_iand hx hb dJ6_bitCount_0f7a4_14 ?_
  refine lv_iload_n hx hb dJ6_bitCount_0f7a4_15 rfl (lv_at hl 0 rfl) ?_
  refine lv_iconst (v := 2) hx hb dJ6_bitCount_0f7a4_16 (by decide) ?_
  refine lv_iushr hx hb dJ6_bitCount_0f7a4_17 rfl ?_
  refine lv_ldcw (v := 858993459) hx hb hown (hts _ tw473) dJ6_bitCount_0f7a4_18 ?_
  refine lv_iand hx hb dJ6_bitCount_0f7a4_21 ?_
  refine lv_iadd hx hb dJ6_bitCount_0f7a4_22 ?_
  refine lv_topi (fun x2 ex2 => ?_)
  replace h := apR ex2 h
  refine lv_istore_n (lv' := [(0, .int x2)]) hx hb dJ6_bitCount_0f7a4_23 rfl hl (by decide) rfl (fun ls hl => ?_)
  refine lv_iload_n hx hb dJ6_bitCount_0f7a4_24 rfl (lv_at hl 0 rfl) ?_
  refine lv_iload_n hx hb dJ6_bitCount_0f7a4_25 rfl (lv_at hl 0 rfl) ?_
  refine lv_iconst (v := 4) hx hb dJ6_bitCount_0f7a4_26 (by decide) ?_
  refine lv_iushr hx hb dJ6_bitCount_0f7a4_27 rfl ?_
  refine lv_iadd hx hb dJ6_bitCount_0f7a4_28 ?_
  refine lv_ldcw (v := 252645135) hx hb hown (hts _ tw474) dJ6_bitCount_0f7a4_29 ?_
  refine lv_iand hx hb dJ6_bitCount_0f7a4_32 ?_
  refine lv_topi (fun x3 ex3 => ?_)
  replace h := apR ex3 h
  refine lv_istore_n (lv' := [(0, .int x3)]) hx hb dJ6_bitCount_0f7a4_33 rfl hl (by decide) rfl (fun ls hl => ?_)
  refine lv_iload_n hx hb dJ6_bitCount_0f7a4_34 rfl (lv_at hl 0 rfl) ?_
  refine lv_iload_n hx hb dJ6_bitCount_0f7a4_35 rfl (lv_at hl 0 rfl) ?_
  refine lv_bipush (v := 8) hx hb dJ6_bitCount_0f7a4_36 (by decide) ?_
  refine lv_iushr hx hb dJ6_bitCount_0f7a4_38 rfl ?_
  refine lv_iadd hx hb dJ6_bitCount_0f7a4_39 ?_
  refine lv_topi (fun x4 ex4 => ?_)
  replace h := apR ex4 h
  refine lv_istore_n (lv' := [(0, .int x4)]) hx hb dJ6_bitCount_0f7a4_40 rfl hl (by decide) rfl (fun ls hl => ?_)
  refine lv_iload_n hx hb dJ6_bitCount_0f7a4_41 rfl (lv_at hl 0 rfl) ?_
  refine lv_iload_n hx hb dJ6_bitCount_0f7a4_42 rfl (lv_at hl 0 rfl) ?_
  refine lv_bipush (v := 16) hx hb dJ6_bitCount_0f7a4_43 (by decide) ?_
  refine lv_iushr hx hb dJ6_bitCount_0f7a4_45 rfl ?_
  refine lv_iadd hx hb dJ6_bitCount_0f7a4_46 ?_
  refine lv_topi (fun x5 ex5 => ?_)
  replace h := apR ex5 h
  refine lv_istore_n (lv' := [(0, .int x5)]) hx hb dJ6_bitCount_0f7a4_47 rfl hl (by decide) rfl (fun ls hl => ?_)
  refine lv_iload_n hx hb dJ6_bitCount_0f7a4_48 rfl (lv_at hl 0 rfl) ?_
  refine lv_bipush (v := 63) hx hb dJ6_bitCount_0f7a4_49 (by decide) ?_
  refine lv_iand hx hb dJ6_bitCount_0f7a4_51 ?_
  subst h
  exact wd_iret CF hret hlk hW hS dJ6_bitCount_0f7a4_52
def f_X6_has (a0 : Int32) (a1 : Int32) : Int32 := (if ((a0 >>> (a1 &&& 31)) &&& 1) = 1 then 1 else 0)
theorem z_X6_has (a0 : Int32) (a1 : Int32) : f_X6_has a0 a1 = 0 ∨ f_X6_has a0 a1 = 1 := by
  unfold f_X6_has
  (repeat' split) <;> first | exact Or.inl rfl | exact Or.inr rfl
set_option maxHeartbeats 4000000 in
set_option maxRecDepth 100000 in
theorem x_X6_has (l : Launch) (X : wd_X) (a0 : Int32) (a1 : Int32) (D : wd_D) : wd_Met l X yX6_has cX6_has 2 (some FieldType.boolean) ({ frames := 0, cells := 0, slots := 0, locals := 0 }) S0 S0 ([.int a0, .int a1] : List Value) D D (some (.int (f_X6_has a0 a1))) 0 0 := by
  obtain ⟨rv, h⟩ : ∃ rv, f_X6_has a0 a1 = rv := ⟨_, rfl⟩
  rw [h]
  refine wd_enter (by decide) (Nat.le_of_ble_eq_true rfl) ?_
  intro p e s m below meth c CF hret hlk hnm hW hE ls hl
  have CF : CallFix p m c cX6_has 2 s ([.int a0, .int a1] : List Value).toArray tg RX6 := CF
  have hx := CF.1
  have hb := CF.2.1
  have hown := CF.2.2.2.1
  have hts := CF.2.2.2.2
  have hS : va_S (wd_A X) s.heap s.heap [] := va_S.rf
  have hl : lv_has ls 2 [(0, .int a0), (1, .int a1)] := hl
  unfold f_X6_has at h
  refine lv_iload_n hx hb dX6_has_0 rfl (lv_at hl 0 rfl) ?_
  refine lv_iload_n hx hb dX6_has_1 rfl (lv_at hl 1 rfl) ?_
  refine lv_ishr hx hb dX6_has_2 ?_
  refine lv_iconst (v := 1) hx hb dX6_has_3 (by decide) ?_
  refine lv_iand hx hb dX6_has_4 ?_
  refine lv_iconst (v := 1) hx hb dX6_has_5 (by decide) ?_
  refine lv_icmp_ne (tgt := 13) hx hb dX6_has_6 (by decide) (fun c1 => ?_) (fun c1 => ?_)
  · rw [if_neg c1] at h
    refine lv_iconst (v := 0) hx hb dX6_has_13 (by decide) ?_
    subst h
    exact wd_zret CF hret hlk hW hS (Or.inl rfl) dX6_has_14
  · rw [if_pos c1] at h
    refine lv_iconst (v := 1) hx hb dX6_has_9 (by decide) ?_
    refine lv_goto (tgt := 14) hx hb dX6_has_10 (by decide) ?_
    subst h
    exact wd_zret CF hret hlk hW hS (Or.inr rfl) dX6_has_14
def f_X6_beyond (a0 : Int32) (a1 : Int32) (a2 : Int32) : Int32 := (if a0 < a1 then 1 else (if a0 ≤ a2 then 0 else 1))
theorem z_X6_beyond (a0 : Int32) (a1 : Int32) (a2 : Int32) : f_X6_beyond a0 a1 a2 = 0 ∨ f_X6_beyond a0 a1 a2 = 1 := by
  unfold f_X6_beyond
  (repeat' split) <;> first | exact Or.inl rfl | exact Or.inr rfl
set_option maxHeartbeats 4000000 in
set_option maxRecDepth 100000 in
theorem x_X6_beyond (l : Launch) (X : wd_X) (a0 : Int32) (a1 : Int32) (a2 : Int32) (D : wd_D) : wd_Met l X yX6_beyond cX6_beyond 3 (some FieldType.boolean) ({ frames := 0, cells := 0, slots := 0, locals := 0 }) S0 S0 ([.int a0, .int a1, .int a2] : List Value) D D (some (.int (f_X6_beyond a0 a1 a2))) 0 0 := by
  obtain ⟨rv, h⟩ : ∃ rv, f_X6_beyond a0 a1 a2 = rv := ⟨_, rfl⟩
  rw [h]
  refine wd_enter (by decide) (Nat.le_of_ble_eq_true rfl) ?_
  intro p e s m below meth c CF hret hlk hnm hW hE ls hl
  have CF : CallFix p m c cX6_beyond 3 s ([.int a0, .int a1, .int a2] : List Value).toArray tg RX6 := CF
  have hx := CF.1
  have hb := CF.2.1
  have hown := CF.2.2.2.1
  have hts := CF.2.2.2.2
  have hS : va_S (wd_A X) s.heap s.heap [] := va_S.rf
  have hl : lv_has ls 3 [(0, .int a0), (1, .int a1), (2, .int a2)] := hl
  unfold f_X6_beyond at h
  refine lv_iload_n hx hb dX6_beyond_0 rfl (lv_at hl 0 rfl) ?_
  refine lv_iload_n hx hb dX6_beyond_1 rfl (lv_at hl 1 rfl) ?_
  refine lv_icmp_lt (tgt := 10) hx hb dX6_beyond_2 (by decide) (fun c1 => ?_) (fun c1 => ?_)
  · rw [if_pos c1] at h
    refine lv_iconst (v := 1) hx hb dX6_beyond_10 (by decide) ?_
    refine lv_goto (tgt := 15) hx hb dX6_beyond_11 (by decide) ?_
    subst h
    exact wd_zret CF hret hlk hW hS (Or.inr rfl) dX6_beyond_15
  · rw [if_neg c1] at h
    refine lv_iload_n hx hb dX6_beyond_5 rfl (lv_at hl 0 rfl) ?_
    refine lv_iload_n hx hb dX6_beyond_6 rfl (lv_at hl 2 rfl) ?_
    refine lv_icmp_le (tgt := 14) hx hb dX6_beyond_7 (by decide) (fun c2 => ?_) (fun c2 => ?_)
    · rw [if_pos c2] at h
      refine lv_iconst (v := 0) hx hb dX6_beyond_14 (by decide) ?_
      subst h
      exact wd_zret CF hret hlk hW hS (Or.inl rfl) dX6_beyond_15
    · rw [if_neg c2] at h
      refine lv_iconst (v := 1) hx hb dX6_beyond_10 (by decide) ?_
      refine lv_goto (tgt := 15) hx hb dX6_beyond_11 (by decide) ?_
      subst h
      exact wd_zret CF hret hlk hW hS (Or.inr rfl) dX6_beyond_15
def f_X6_noRow (a0 : Int32) : Int32 := (if a0 < 0 then 1 else (if a0 < 8 then 0 else 1))
theorem z_X6_noRow (a0 : Int32) : f_X6_noRow a0 = 0 ∨ f_X6_noRow a0 = 1 := by
  unfold f_X6_noRow
  (repeat' split) <;> first | exact Or.inl rfl | exact Or.inr rfl
set_option maxHeartbeats 4000000 in
set_option maxRecDepth 100000 in
theorem x_X6_noRow (l : Launch) (X : wd_X) (a0 : Int32) (D : wd_D) : wd_Met l X yX6_noRow cX6_noRow 1 (some FieldType.boolean) ({ frames := 0, cells := 0, slots := 0, locals := 0 }) S0 S0 ([.int a0] : List Value) D D (some (.int (f_X6_noRow a0))) 0 0 := by
  obtain ⟨rv, h⟩ : ∃ rv, f_X6_noRow a0 = rv := ⟨_, rfl⟩
  rw [h]
  refine wd_enter (by decide) (Nat.le_of_ble_eq_true rfl) ?_
  intro p e s m below meth c CF hret hlk hnm hW hE ls hl
  have CF : CallFix p m c cX6_noRow 1 s ([.int a0] : List Value).toArray tg RX6 := CF
  have hx := CF.1
  have hb := CF.2.1
  have hown := CF.2.2.2.1
  have hts := CF.2.2.2.2
  have hS : va_S (wd_A X) s.heap s.heap [] := va_S.rf
  have hl : lv_has ls 1 [(0, .int a0)] := hl
  unfold f_X6_noRow at h
  refine lv_iload_n hx hb dX6_noRow_0 rfl (lv_at hl 0 rfl) ?_
  refine lv_if_lt (tgt := 10) hx hb dX6_noRow_1 (by decide) (fun c1 => ?_) (fun c1 => ?_)
  · rw [if_pos c1] at h
    refine lv_iconst (v := 1) hx hb dX6_noRow_10 (by decide) ?_
    refine lv_goto (tgt := 15) hx hb dX6_noRow_11 (by decide) ?_
    subst h
    exact wd_zret CF hret hlk hW hS (Or.inr rfl) dX6_noRow_15
  · rw [if_neg c1] at h
    refine lv_iload_n hx hb dX6_noRow_4 rfl (lv_at hl 0 rfl) ?_
    refine lv_bipush (v := 8) hx hb dX6_noRow_5 (by decide) ?_
    refine lv_icmp_lt (tgt := 14) hx hb dX6_noRow_7 (by decide) (fun c2 => ?_) (fun c2 => ?_)
    · rw [if_pos c2] at h
      refine lv_iconst (v := 0) hx hb dX6_noRow_14 (by decide) ?_
      subst h
      exact wd_zret CF hret hlk hW hS (Or.inl rfl) dX6_noRow_15
    · rw [if_neg c2] at h
      refine lv_iconst (v := 1) hx hb dX6_noRow_10 (by decide) ?_
      refine lv_goto (tgt := 15) hx hb dX6_noRow_11 (by decide) ?_
      subst h
      exact wd_zret CF hret hlk hW hS (Or.inr rfl) dX6_noRow_15
def f_X6_isOne_L4  : Nat → Int32 → Int32 → Int32 → Int32 → wd_D → Option (Int32)
  | 0, _, _, _, _, _ => none
  | n + 1, a0, a1, v2, v3, D => (if 6 ≤ v3 then some 0 else (if v2 < 0 then some 0 else (if 6 ≤ v2 then some 0 else (if v2 = a1 then some 1 else (rs 3 v2).bind (fun x5 => ap (v3 + 1) (fun x6 => (f_X6_isOne_L4 n) a0 a1 x5 x6 D))))))
def f_X6_isOne (a0 : Int32) (a1 : Int32) (D : wd_D) : Option (Int32) := f_X6_isOne_L4 FU a0 a1 a0 0 D
set_option maxHeartbeats 4000000 in
set_option maxRecDepth 100000 in
theorem x_X6_isOne (l : Launch) (X : wd_X) (a0 : Int32) (a1 : Int32) (D : wd_D) {rv : Int32} (h : f_X6_isOne a0 a1 D = some rv) : wd_Met l X yX6_isOne cX6_isOne 4 (some FieldType.boolean) ({ frames := 0, cells := 0, slots := 0, locals := 0 }) S0 S0 ([.int a0, .int a1] : List Value) D D (some (.int rv)) 0 0 := by
  refine wd_enter (by decide) (Nat.le_of_ble_eq_true rfl) ?_
  intro p e s m below meth c CF hret hlk hnm hW hE ls hl
  have CF : CallFix p m c cX6_isOne 4 s ([.int a0, .int a1] : List Value).toArray tg RX6 := CF
  have hx := CF.1
  have hb := CF.2.1
  have hown := CF.2.2.2.1
  have hts := CF.2.2.2.2
  have hS : va_S (wd_A X) s.heap s.heap [] := va_S.rf
  have hl : lv_has ls 4 [(0, .int a0), (1, .int a1)] := hl
  unfold f_X6_isOne at h
  have hL4 : ∀ (n4 : Nat) (v2 : Int32) (v3 : Int32) (H : Heap) (locs : List Loc) (ls : Array Slot), Wd X S0 D H → va_S (wd_A X) s.heap H locs → lv_has ls 4 [(1, .int a1), (2, .int v2), (3, .int v3)] → f_X6_isOne_L4 n4 a0 a1 v2 v3 D = some rv → W p l e ({ frames := 0, cells := 0, slots := 0, locals := 0 }) s m ([.int a0, .int a1] : List Value).toArray below meth c H locs 0 0 (MQ below (wd_Q X S0 D (some (.int rv))) ([.int a0, .int a1] : List Value).toArray s 0 0 (wd_A X)) (F0 m 4 ls []) := by
    intro n4
    induction n4 with
    | zero => intro v2 v3 H locs ls hW hS hl h; cases h
    | succ n4 ih4 =>
      intro v2 v3 H locs ls hW hS hl h
      rw [f_X6_isOne_L4] at h
      refine lv_iload_n hx hb dX6_isOne_4 rfl (lv_at hl 2 rfl) ?_
      refine wd_sget CF hE hS 3 (by decide) tw704 dX6_isOne_5 ?_
      refine wd_slen CF hE hS 3 (by decide) (v := 6) rfl dX6_isOne_8 ?_
      refine lv_icmp_ge (tgt := 43) hx hb dX6_isOne_9 (by decide) (fun c1 => ?_) (fun c1 => ?_)
      · rw [if_pos c1] at h
        refine lv_iconst (v := 0) hx hb dX6_isOne_43 (by decide) ?_
        have h := Option.some.inj h
        subst h
        exact wd_zret CF hret hlk hW hS (Or.inl rfl) dX6_isOne_44
      · rw [if_neg c1] at h
        refine lv_iload_n hx hb dX6_isOne_12 rfl (lv_at hl 1 rfl) ?_
        refine lv_if_lt (tgt := 43) hx hb dX6_isOne_13 (by decide) (fun c2 => ?_) (fun c2 => ?_)
        · rw [if_pos c2] at h
          refine lv_iconst (v := 0) hx hb dX6_isOne_43 (by decide) ?_
          have h := Option.some.inj h
          subst h
          exact wd_zret CF hret hlk hW hS (Or.inl rfl) dX6_isOne_44
        · rw [if_neg c2] at h
          refine lv_iload_n hx hb dX6_isOne_16 rfl (lv_at hl 1 rfl) ?_
          refine wd_sget CF hE hS 3 (by decide) tw704 dX6_isOne_17 ?_
          refine wd_slen CF hE hS 3 (by decide) (v := 6) rfl dX6_isOne_20 ?_
          refine lv_icmp_ge (tgt := 43) hx hb dX6_isOne_21 (by decide) (fun c3 => ?_) (fun c3 => ?_)
          · rw [if_pos c3] at h
            refine lv_iconst (v := 0) hx hb dX6_isOne_43 (by decide) ?_
            have h := Option.some.inj h
            subst h
            exact wd_zret CF hret hlk hW hS (Or.inl rfl) dX6_isOne_44
          · rw [if_neg c3] at h
            refine lv_iload_n hx hb dX6_isOne_24 rfl (lv_at hl 1 rfl) ?_
            refine lv_iload_n hx hb dX6_isOne_25 rfl (lv_at hl 0 rfl) ?_
            refine lv_icmp_ne (tgt := 31) hx hb dX6_isOne_26 (by decide) (fun c4 => ?_) (fun c4 => ?_)
            · rw [if_neg c4] at h
              refine wd_sget CF hE hS 3 (by decide) tw704 dX6_isOne_31 ?_
              refine lv_iload_n hx hb dX6_isOne_34 rfl (lv_at hl 1 rfl) ?_
              obtain ⟨x5, ex5, h⟩ := bdE h
              refine wd_sald CF hE hS 3 (by decide) ex5 dX6_isOne_35 ?_
              refine lv_istore_n (lv' := [(2, .int x5), (1, .int a1), (3, .int v3)]) hx hb dX6_isOne_36 rfl hl (by decide) rfl (fun ls hl => ?_)
              obtain ⟨x6, ex6⟩ : ∃ y : Int32, y = v3 + 1 := ⟨_, rfl⟩
              replace h := apR ex6 h
              refine lv_iinc (v := x6) (lv' := [(3, .int x6), (2, .int x5), (1, .int a1)]) hx hb dX6_isOne_37 hl (k := 2) rfl (by rw [ex6]; rfl) (by decide) rfl (fun ls hl => ?_)
              refine lv_goto (tgt := 4) hx hb dX6_isOne_40 (by decide) ?_
              exact ih4 x5 x6 _ _ _  hW hS (lv_sub hl [2, 1, 0] rfl) h
            · rw [if_pos c4] at h
              refine lv_iconst (v := 1) hx hb dX6_isOne_29 (by decide) ?_
              have h := Option.some.inj h
              subst h
              exact wd_zret CF hret hlk hW hS (Or.inr rfl) dX6_isOne_30
  refine lv_iload_n hx hb dX6_isOne_0 rfl (lv_at hl 0 rfl) ?_
  refine lv_istore_n (lv' := [(2, .int a0), (0, .int a0), (1, .int a1)]) hx hb dX6_isOne_1 rfl hl (by decide) rfl (fun ls hl => ?_)
  refine lv_iconst (v := 0) hx hb dX6_isOne_2 (by decide) ?_
  refine lv_istore_n (lv' := [(3, .int 0), (2, .int a0), (0, .int a0), (1, .int a1)]) hx hb dX6_isOne_3 rfl hl (by decide) rfl (fun ls hl => ?_)
  exact hL4 FU a0 0 _ _ _  hW hS (lv_sub hl [3, 1, 0] rfl) h
def f_X4_lacks (t : Nat) (a1 : Int32) (a2 : Int32) (D : wd_D) : Int32 := (if a2 < 0 then 1 else (if a1 < 0 then 1 else (if a1 ≤ ((gI D t 2) - a2) then 0 else 1)))
theorem z_X4_lacks (t : Nat) (a1 : Int32) (a2 : Int32) (D : wd_D) : f_X4_lacks t a1 a2 D = 0 ∨ f_X4_lacks t a1 a2 D = 1 := by
  unfold f_X4_lacks
  (repeat' split) <;> first | exact Or.inl rfl | exact Or.inr rfl
set_option maxHeartbeats 4000000 in
set_option maxRecDepth 100000 in
theorem x_X4_lacks (l : Launch) (X : wd_X) (t : Nat) (ht : RowAt t) (a1 : Int32) (a2 : Int32) (D : wd_D) : wd_Met l X yX4_lacks cX4_lacks 3 (some FieldType.boolean) ({ frames := 0, cells := 0, slots := 0, locals := 0 }) S0 S0 ([.ref (X.2.2.1 + t), .int a1, .int a2] : List Value) D D (some (.int (f_X4_lacks t a1 a2 D))) 0 0 := by
  obtain ⟨rv, h⟩ : ∃ rv, f_X4_lacks t a1 a2 D = rv := ⟨_, rfl⟩
  rw [h]
  refine wd_enter (by decide) (Nat.le_of_ble_eq_true rfl) ?_
  intro p e s m below meth c CF hret hlk hnm hW hE ls hl
  have CF : CallFix p m c cX4_lacks 3 s ([.ref (X.2.2.1 + t), .int a1, .int a2] : List Value).toArray tg RX4 := CF
  have hx := CF.1
  have hb := CF.2.1
  have hown := CF.2.2.2.1
  have hts := CF.2.2.2.2
  have hS : va_S (wd_A X) s.heap s.heap [] := va_S.rf
  have hl : lv_has ls 3 [(0, .ref (X.2.2.1 + t)), (1, .int a1), (2, .int a2)] := hl
  unfold f_X4_lacks at h
  refine lv_iload_n hx hb dX4_lacks_0 rfl (lv_at hl 2 rfl) ?_
  refine lv_if_lt (tgt := 18) hx hb dX4_lacks_1 (by decide) (fun c1 => ?_) (fun c1 => ?_)
  · rw [if_pos c1] at h
    refine lv_iconst (v := 1) hx hb dX4_lacks_18 (by decide) ?_
    refine lv_goto (tgt := 23) hx hb dX4_lacks_19 (by decide) ?_
    subst h
    exact wd_zret CF hret hlk hW hS (Or.inr rfl) dX4_lacks_23
  · rw [if_neg c1] at h
    refine lv_iload_n hx hb dX4_lacks_4 rfl (lv_at hl 1 rfl) ?_
    refine lv_if_lt (tgt := 18) hx hb dX4_lacks_5 (by decide) (fun c2 => ?_) (fun c2 => ?_)
    · rw [if_pos c2] at h
      refine lv_iconst (v := 1) hx hb dX4_lacks_18 (by decide) ?_
      refine lv_goto (tgt := 23) hx hb dX4_lacks_19 (by decide) ?_
      subst h
      exact wd_zret CF hret hlk hW hS (Or.inr rfl) dX4_lacks_23
    · rw [if_neg c2] at h
      refine lv_iload_n hx hb dX4_lacks_8 rfl (lv_at hl 1 rfl) ?_
      refine lv_aload_n hx hb dX4_lacks_9 rfl (lv_at hl 0 rfl) ?_
      refine wd_get CF hE hW fl_X4_19 (rw_s ht) (v := .int (gI D t 2)) rfl dX4_lacks_10 ?_
      refine lv_iload_n hx hb dX4_lacks_13 rfl (lv_at hl 2 rfl) ?_
      refine lv_isub hx hb dX4_lacks_14 ?_
      refine lv_icmp_le (tgt := 22) hx hb dX4_lacks_15 (by decide) (fun c3 => ?_) (fun c3 => ?_)
      · rw [if_pos c3] at h
        refine lv_iconst (v := 0) hx hb dX4_lacks_22 (by decide) ?_
        subst h
        exact wd_zret CF hret hlk hW hS (Or.inl rfl) dX4_lacks_23
      · rw [if_neg c3] at h
        refine lv_iconst (v := 1) hx hb dX4_lacks_18 (by decide) ?_
        refine lv_goto (tgt := 23) hx hb dX4_lacks_19 (by decide) ?_
        subst h
        exact wd_zret CF hret hlk hW hS (Or.inr rfl) dX4_lacks_23
def f_X4_begin_L12  : Nat → Nat → Int32 → Int32 → Int32 → wd_D → Option (wd_D)
  | 0, _, _, _, _, _ => none
  | n + 1, t, a1, a2, v3, D => (if 40 ≤ v3 then some D else (wr 40 D (t + 1) v3 0).bind (fun D4 => ap (v3 + 1) (fun x5 => (f_X4_begin_L12 n) t a1 a2 x5 D4)))
def f_X4_begin (t : Nat) (a1 : Int32) (a2 : Int32) (D : wd_D) : Option (wd_D) := ap (sI D t 1 a1) (fun D1 => ap (sI D1 t 2 a2) (fun D2 => f_X4_begin_L12 FU t a1 a2 0 D2))
set_option maxHeartbeats 4000000 in
set_option maxRecDepth 100000 in
theorem x_X4_begin (l : Launch) (X : wd_X) (t : Nat) (ht : RowAt t) (a1 : Int32) (a2 : Int32) (D : wd_D) {qv : wd_D} (h : f_X4_begin t a1 a2 D = some qv) : wd_Met l X yX4_begin cX4_begin 4 (none : Option FieldType) ({ frames := 0, cells := 0, slots := 0, locals := 0 }) S0 S0 ([.ref (X.2.2.1 + t), .int a1, .int a2] : List Value) D qv none 0 0 := by
  refine wd_enter (by decide) (Nat.le_of_ble_eq_true rfl) ?_
  intro p e s m below meth c CF hret hlk hnm hW hE ls hl
  have CF : CallFix p m c cX4_begin 4 s ([.ref (X.2.2.1 + t), .int a1, .int a2] : List Value).toArray tg RX4 := CF
  have hx := CF.1
  have hb := CF.2.1
  have hown := CF.2.2.2.1
  have hts := CF.2.2.2.2
  have hS : va_S (wd_A X) s.heap s.heap [] := va_S.rf
  have hl : lv_has ls 4 [(0, .ref (X.2.2.1 + t)), (1, .int a1), (2, .int a2)] := hl
  unfold f_X4_begin at h
  have hL12 : ∀ (n12 : Nat) (v3 : Int32) (D : wd_D) (H : Heap) (locs : List Loc) (ls : Array Slot), Wd X S0 D H → va_S (wd_A X) s.heap H locs → lv_has ls 4 [(0, .ref (X.2.2.1 + t)), (3, .int v3)] → f_X4_begin_L12 n12 t a1 a2 v3 D = some qv → W p l e ({ frames := 0, cells := 0, slots := 0, locals := 0 }) s m ([.ref (X.2.2.1 + t), .int a1, .int a2] : List Value).toArray below meth c H locs 0 0 (MQ below (wd_Q X S0 qv none) ([.ref (X.2.2.1 + t), .int a1, .int a2] : List Value).toArray s 0 0 (wd_A X)) (F0 m 12 ls []) := by
    intro n12
    induction n12 with
    | zero => intro v3 D H locs ls hW hS hl h; cases h
    | succ n12 ih12 =>
      intro v3 D H locs ls hW hS hl h
      rw [f_X4_begin_L12] at h
      refine lv_iload_n hx hb dX4_begin_12 rfl (lv_at hl 1 rfl) ?_
      refine lv_bipush (v := 40) hx hb dX4_begin_13 (by decide) ?_
      refine lv_icmp_ge (tgt := 31) hx hb dX4_begin_15 (by decide) (fun c3 => ?_) (fun c3 => ?_)
      · rw [if_pos c3] at h
        have h := Option.some.inj h
        subst h
        exact wd_vret CF hret hlk hW hS dX4_begin_31
      · rw [if_neg c3] at h
        refine lv_aload_n hx hb dX4_begin_18 rfl (lv_at hl 0 rfl) ?_
        refine wd_getR CF hE hW fl_X4_9 (rw_s ht) (rw_r0 ht) rfl dX4_begin_19 ?_
        refine lv_iload_n hx hb dX4_begin_22 rfl (lv_at hl 1 rfl) ?_
        refine lv_iconst (v := 0) hx hb dX4_begin_23 (by decide) ?_
        obtain ⟨D4, eD4, h⟩ := bdE h
        refine wd_iast CF hE hW hS (rw_a0 ht) eD4 dX4_begin_24 (fun H locs hW hS => ?_)
        obtain ⟨x5, ex5⟩ : ∃ y : Int32, y = v3 + 1 := ⟨_, rfl⟩
        replace h := apR ex5 h
        refine lv_iinc (v := x5) (lv' := [(3, .int x5), (0, .ref (X.2.2.1 + t))]) hx hb dX4_begin_25 hl (k := 1) rfl (by rw [ex5]; rfl) (by decide) rfl (fun ls hl => ?_)
        refine lv_goto (tgt := 12) hx hb dX4_begin_28 (by decide) ?_
        exact ih12 x5 D4 _ _ _  hW hS (lv_sub hl [1, 0] rfl) h
  refine lv_aload_n hx hb dX4_begin_0 rfl (lv_at hl 0 rfl) ?_
  refine lv_iload_n hx hb dX4_begin_1 rfl (lv_at hl 1 rfl) ?_
  refine wd_putI CF hE hW hS fl_X4_15 (rw_s ht) rfl rfl dX4_begin_2 (fun D1 H locs eD1 hW hS => ?_)
  replace h := apR eD1 h
  refine lv_aload_n hx hb dX4_begin_5 rfl (lv_at hl 0 rfl) ?_
  refine lv_iload_n hx hb dX4_begin_6 rfl (lv_at hl 2 rfl) ?_
  refine wd_putI CF hE hW hS fl_X4_19 (rw_s ht) rfl rfl dX4_begin_7 (fun D2 H locs eD2 hW hS => ?_)
  replace h := apR eD2 h
  refine lv_iconst (v := 0) hx hb dX4_begin_10 (by decide) ?_
  refine lv_istore_n (lv' := [(3, .int 0), (0, .ref (X.2.2.1 + t)), (1, .int a1), (2, .int a2)]) hx hb dX4_begin_11 rfl hl (by decide) rfl (fun ls hl => ?_)
  exact hL12 FU 0 D2 _ _ _  hW hS (lv_sub hl [1, 0] rfl) h
def f_X4_narrowed (t : Nat) (a1 : Int32) (D : wd_D) : Int32 := ap (gI D t 1) (fun x1 => (if x1 = 0 then a1.toInt8.toInt32 else (if x1 = 1 then a1.toInt16.toInt32 else a1)))
set_option maxHeartbeats 4000000 in
set_option maxRecDepth 100000 in
theorem x_X4_narrowed (l : Launch) (X : wd_X) (t : Nat) (ht : RowAt t) (a1 : Int32) (D : wd_D) : wd_Met l X yX4_narrowed cX4_narrowed 2 (some FieldType.int) ({ frames := 0, cells := 0, slots := 0, locals := 0 }) S0 S0 ([.ref (X.2.2.1 + t), .int a1] : List Value) D D (some (.int (f_X4_narrowed t a1 D))) 0 0 := by
  obtain ⟨rv, h⟩ : ∃ rv, f_X4_narrowed t a1 D = rv := ⟨_, rfl⟩
  rw [h]
  refine wd_enter (by decide) (Nat.le_of_ble_eq_true rfl) ?_
  intro p e s m below meth c CF hret hlk hnm hW hE ls hl
  have CF : CallFix p m c cX4_narrowed 2 s ([.ref (X.2.2.1 + t), .int a1] : List Value).toArray tg RX4 := CF
  have hx := CF.1
  have hb := CF.2.1
  have hown := CF.2.2.2.1
  have hts := CF.2.2.2.2
  have hS : va_S (wd_A X) s.heap s.heap [] := va_S.rf
  have hl : lv_has ls 2 [(0, .ref (X.2.2.1 + t)), (1, .int a1)] := hl
  unfold f_X4_narrowed at h
  refine lv_aload_n hx hb dX4_narrowed_0 rfl (lv_at hl 0 rfl) ?_
  refine wd_get CF hE hW fl_X4_15 (rw_s ht) (v := .int (gI D t 1)) rfl dX4_narrowed_1 ?_
  refine lv_topi (fun x1 ex1 => ?_)
  replace h := apR ex1 h
  by_cases c2 : x1 = 0
  · rw [if_pos c2] at h
    refine lv_lookup (tgt := 32) (off := 28) hx hb dX4_narrowed_4 (by decide) (by rw [c2]; decide) (by decide) ?_
    refine lv_iload_n hx hb dX4_narrowed_32 rfl (lv_at hl 1 rfl) ?_
    refine lv_i2b hx hb dX4_narrowed_33 rfl ?_
    subst h
    exact wd_iret CF hret hlk hW hS dX4_narrowed_34
  · rw [if_neg c2] at h
    by_cases c3 : x1 = 1
    · rw [if_pos c3] at h
      refine lv_lookup (tgt := 35) (off := 31) hx hb dX4_narrowed_4 (by decide) (by rw [c3]; decide) (by decide) ?_
      refine lv_iload_n hx hb dX4_narrowed_35 rfl (lv_at hl 1 rfl) ?_
      refine lv_i2s hx hb dX4_narrowed_36 rfl ?_
      subst h
      exact wd_iret CF hret hlk hW hS dX4_narrowed_37
    · rw [if_neg c3] at h
      refine lv_lookup (tgt := 38) (off := 34) hx hb dX4_narrowed_4 (by decide) (by show Op.lookupswitch.offset [(0, 28), (1, 31)] 34 (x1 : Int32).toInt = 34; rw [lv_osw c2 (by decide), lv_osw c3 (by decide)]; rfl) (by decide) ?_
      refine lv_iload_n hx hb dX4_narrowed_38 rfl (lv_at hl 1 rfl) ?_
      subst h
      exact wd_iret CF hret hlk hW hS dX4_narrowed_39
def f_X4_findingFor (t : Nat) (a1 : Int32) (a2 : Int32) (D : wd_D) : Int32 := (if (gI D t 1) = (-1) then 1 else (if (f_X4_lacks t a1 a2 D) = 0 then 0 else 2))
set_option maxHeartbeats 4000000 in
set_option maxRecDepth 100000 in
theorem x_X4_findingFor (l : Launch) (X : wd_X) (t : Nat) (ht : RowAt t) (a1 : Int32) (a2 : Int32) (D : wd_D) : wd_Met l X yX4_findingFor cX4_findingFor 3 (some FieldType.int) ({ frames := 1, cells := 0, slots := 0, locals := 100 }) S0 S0 ([.ref (X.2.2.1 + t), .int a1, .int a2] : List Value) D D (some (.int (f_X4_findingFor t a1 a2 D))) 0 0 := by
  obtain ⟨rv, h⟩ : ∃ rv, f_X4_findingFor t a1 a2 D = rv := ⟨_, rfl⟩
  rw [h]
  refine wd_enter (by decide) (Nat.le_of_ble_eq_true rfl) ?_
  intro p e s m below meth c CF hret hlk hnm hW hE ls hl
  have CF : CallFix p m c cX4_findingFor 3 s ([.ref (X.2.2.1 + t), .int a1, .int a2] : List Value).toArray tg RX4 := CF
  have hx := CF.1
  have hb := CF.2.1
  have hown := CF.2.2.2.1
  have hts := CF.2.2.2.2
  have hS : va_S (wd_A X) s.heap s.heap [] := va_S.rf
  have hl : lv_has ls 3 [(0, .ref (X.2.2.1 + t)), (1, .int a1), (2, .int a2)] := hl
  unfold f_X4_findingFor at h
  refine lv_aload_n hx hb dX4_findingFor_0 rfl (lv_at hl 0 rfl) ?_
  refine wd_get CF hE hW fl_X4_15 (rw_s ht) (v := .int (gI D t 1)) rfl dX4_findingFor_1 ?_
  refine lv_iconst (v := (-1)) hx hb dX4_findingFor_4 (by decide) ?_
  refine lv_icmp_ne (tgt := 10) hx hb dX4_findingFor_5 (by decide) (fun c1 => ?_) (fun c1 => ?_)
  · rw [if_neg c1] at h
    refine lv_aload_n hx hb dX4_findingFor_10 rfl (lv_at hl 0 rfl) ?_
    refine lv_iload_n hx hb dX4_findingFor_11 rfl (lv_at hl 1 rfl) ?_
    refine lv_iload_n hx hb dX4_findingFor_12 rfl (lv_at hl 2 rfl) ?_
    refine wd_callVr (ci := 4) (k := t) CF hE hW hS (x_X4_lacks l X t ht a1 a2 D) mi_X4_lacks vi_X4_lacks tw290 ⟨by decide, rfl⟩ (rw_s ht) ⟨rfl, rfl, Nat.le_of_ble_eq_true rfl, Nat.le_of_ble_eq_true rfl⟩ rfl hl.1 rfl (Nat.le_of_ble_eq_true rfl) dX4_findingFor_13 ⟨Nat.le_of_ble_eq_true rfl, Nat.le_of_ble_eq_true rfl⟩ (fun H locs hW hS => ?_)
    refine lv_if_eq (tgt := 23) hx hb dX4_findingFor_16 (by decide) (fun c2 => ?_) (fun c2 => ?_)
    · rw [if_pos c2] at h
      refine lv_iconst (v := 0) hx hb dX4_findingFor_23 (by decide) ?_
      subst h
      exact wd_iret CF hret hlk hW hS dX4_findingFor_24
    · rw [if_neg c2] at h
      refine lv_iconst (v := 2) hx hb dX4_findingFor_19 (by decide) ?_
      refine lv_goto (tgt := 24) hx hb dX4_findingFor_20 (by decide) ?_
      subst h
      exact wd_iret CF hret hlk hW hS dX4_findingFor_24
  · rw [if_pos c1] at h
    refine lv_iconst (v := 1) hx hb dX4_findingFor_8 (by decide) ?_
    subst h
    exact wd_iret CF hret hlk hW hS dX4_findingFor_9
