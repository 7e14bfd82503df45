/-! constructor of the other -/
def mdS (S : wd_S) (k : Nat) : wd_S := sS (pS (sS (pS (sS (pS (sS (pS (sS (pS (sS (pS (sS (pS (sS (pS (sS (pS (sS (pS (S) (.inr (0, 252))) k 0 (k + 1)) (.inr (1, 2))) k 1 (k + 2)) (.inr (0, 912))) k 2 (k + 3)) (.inr (0, 320))) k 4 (k + 4)) (.inr (0, 8))) k 5 (k + 5)) (.inr (0, 8))) k 6 (k + 6)) (.inr (0, 120))) k 8 (k + 7)) (.inr (0, 16))) k 11 (k + 8)) (.inr (0, 40))) k 13 (k + 9)) (.inr (1, 7))) k 17 (k + 10)
def mdD (D : wd_D) (n : Nat) : Nat → wd_D
  | 0 => D
  | i + 1 => sI (mdD D n i) n i (-1)
set_option maxHeartbeats 4000000 in
theorem n_X7 (l : Launch) (X : wd_X) (S : wd_S) (D : wd_D) (k : Nat) (hl0 : S.1.length = k + 1) (hs0 : S.1[k]? = some (.inl 7)) (hz0 : ZA S D (k + 1)) : wd_New l X yX7_init cX7_init 2 ({ frames := 1, cells := 10, slots := 1685, locals := 40 }) S (mdS S k) k D (mdD D (k + 5) 8) 10 1685 := by
  refine wd_enterI (by decide) (by decide) ?_
  intro p e s m below meth c CF hret hlk hnm hW hE hb0 hsz ls hl
  have CF : CallFix p m c cX7_init 2 s ([.ref (X.2.2.1 + k)] : List Value).toArray tg RX7 := CF
  have hx := CF.1
  have hb := CF.2.1
  have hS : va_S (wd_A X) s.heap s.heap [] := va_S.rf
  refine lv_aload_n hx hb dX7_init_0 rfl (lv_at hl 0 rfl) ?_
  refine wd_obj CF hl.1 tw753 dX7_init_1 (by decide) (by decide) ?_
  have z0l := hl0
  have z0k := hs0
  have z0z := hz0
  refine lv_aload_n hx hb dX7_init_4 rfl (lv_at hl 0 rfl) ?_
  refine lv_sipush (v := 252) hx hb dX7_init_5 (by decide) ?_
  refine wd_newI CF hE hW hS hb0 (by rw [z0l]; omega) 252 (by decide) (by decide) (by decide) (z0z.at z0l) (Nat.le_of_ble_eq_true rfl) (Nat.le_of_ble_eq_true rfl) dX7_init_8 (fun H hW hS => ?_)
  rw [z0l]
  refine wd_putR CF hE hW hS hnm (k := k) (q := k + 1) fl_X7_7 (pS_at z0k) (fun _ => rfl) rfl rfl (fun _ => rfl) (fun _ => rfl) dX7_init_10 (fun H locs hW hS => ?_)
  obtain ⟨S1, eS1⟩ : ∃ z, z = sS (pS S (.inr (0, 252))) k 0 (k + 1) := ⟨_, rfl⟩
  have hW : Wd X S1 D H := by rw [eS1]; exact hW
  have z1l : S1.1.length = k + 2 := by rw [eS1]; exact pS_l z0l
  have z1k : S1.1[k]? = some (.inl 7) := by rw [eS1]; exact pS_at z0k
  have z1z : ZA S1 D (k + 2) := by rw [eS1]; exact (z0z.p).s (by omega)
  refine lv_aload_n hx hb dX7_init_13 rfl (lv_at hl 0 rfl) ?_
  refine lv_iconst (v := 2) hx hb dX7_init_14 (by decide) ?_
  refine wd_newZ CF hE hW hS hb0 (by rw [z1l]; omega) 2 (by decide) (by decide) (by decide) (z1z.at z1l) (Nat.le_of_ble_eq_true rfl) (Nat.le_of_ble_eq_true rfl) dX7_init_15 (fun H hW hS => ?_)
  rw [z1l]
  refine wd_putR CF hE hW hS hnm (k := k) (q := k + 2) fl_X7_13 (pS_at z1k) (fun _ => rfl) rfl rfl (fun _ => rfl) (fun _ => rfl) dX7_init_17 (fun H locs hW hS => ?_)
  obtain ⟨S2, eS2⟩ : ∃ z, z = sS (pS S1 (.inr (1, 2))) k 1 (k + 2) := ⟨_, rfl⟩
  have hW : Wd X S2 D H := by rw [eS2]; exact hW
  have z2l : S2.1.length = k + 3 := by rw [eS2]; exact pS_l z1l
  have z2k : S2.1[k]? = some (.inl 7) := by rw [eS2]; exact pS_at z1k
  have z2z : ZA S2 D (k + 3) := by rw [eS2]; exact (z1z.p).s (by omega)
  refine lv_aload_n hx hb dX7_init_20 rfl (lv_at hl 0 rfl) ?_
  refine lv_sipush (v := 912) hx hb dX7_init_21 (by decide) ?_
  refine wd_newI CF hE hW hS hb0 (by rw [z2l]; omega) 912 (by decide) (by decide) (by decide) (z2z.at z2l) (Nat.le_of_ble_eq_true rfl) (Nat.le_of_ble_eq_true rfl) dX7_init_24 (fun H hW hS => ?_)
  rw [z2l]
  refine wd_putR CF hE hW hS hnm (k := k) (q := k + 3) fl_X7_17 (pS_at z2k) (fun _ => rfl) rfl rfl (fun _ => rfl) (fun _ => rfl) dX7_init_26 (fun H locs hW hS => ?_)
  obtain ⟨S3, eS3⟩ : ∃ z, z = sS (pS S2 (.inr (0, 912))) k 2 (k + 3) := ⟨_, rfl⟩
  have hW : Wd X S3 D H := by rw [eS3]; exact hW
  have z3l : S3.1.length = k + 4 := by rw [eS3]; exact pS_l z2l
  have z3k : S3.1[k]? = some (.inl 7) := by rw [eS3]; exact pS_at z2k
  have z3z : ZA S3 D (k + 4) := by rw [eS3]; exact (z2z.p).s (by omega)
  refine lv_aload_n hx hb dX7_init_29 rfl (lv_at hl 0 rfl) ?_
  refine lv_sipush (v := 320) hx hb dX7_init_30 (by decide) ?_
  refine wd_newI CF hE hW hS hb0 (by rw [z3l]; omega) 320 (by decide) (by decide) (by decide) (z3z.at z3l) (Nat.le_of_ble_eq_true rfl) (Nat.le_of_ble_eq_true rfl) dX7_init_33 (fun H hW hS => ?_)
  rw [z3l]
  refine wd_putR CF hE hW hS hnm (k := k) (q := k + 4) fl_X7_20 (pS_at z3k) (fun _ => rfl) rfl rfl (fun _ => rfl) (fun _ => rfl) dX7_init_35 (fun H locs hW hS => ?_)
  obtain ⟨S4, eS4⟩ : ∃ z, z = sS (pS S3 (.inr (0, 320))) k 4 (k + 4) := ⟨_, rfl⟩
  have hW : Wd X S4 D H := by rw [eS4]; exact hW
  have z4l : S4.1.length = k + 5 := by rw [eS4]; exact pS_l z3l
  have z4k : S4.1[k]? = some (.inl 7) := by rw [eS4]; exact pS_at z3k
  have z4z : ZA S4 D (k + 5) := by rw [eS4]; exact (z3z.p).s (by omega)
  refine lv_aload_n hx hb dX7_init_38 rfl (lv_at hl 0 rfl) ?_
  refine lv_bipush (v := 8) hx hb dX7_init_39 (by decide) ?_
  refine wd_newI CF hE hW hS hb0 (by rw [z4l]; omega) 8 (by decide) (by decide) (by decide) (z4z.at z4l) (Nat.le_of_ble_eq_true rfl) (Nat.le_of_ble_eq_true rfl) dX7_init_41 (fun H hW hS => ?_)
  rw [z4l]
  refine wd_putR CF hE hW hS hnm (k := k) (q := k + 5) fl_X7_23 (pS_at z4k) (fun _ => rfl) rfl rfl (fun _ => rfl) (fun _ => rfl) dX7_init_43 (fun H locs hW hS => ?_)
  obtain ⟨S5, eS5⟩ : ∃ z, z = sS (pS S4 (.inr (0, 8))) k 5 (k + 5) := ⟨_, rfl⟩
  have hW : Wd X S5 D H := by rw [eS5]; exact hW
  have z5l : S5.1.length = k + 6 := by rw [eS5]; exact pS_l z4l
  have z5k : S5.1[k]? = some (.inl 7) := by rw [eS5]; exact pS_at z4k
  have z5z : ZA S5 D (k + 6) := by rw [eS5]; exact (z4z.p).s (by omega)
  have z5a : S5.1[k + 5]? = some (.inr (0, 8)) := by rw [eS5]; exact pS_new z4l
  have z5f : S5.2 k 5 = some (k + 5) := by rw [eS5]; exact if_pos ⟨rfl, rfl⟩
  refine lv_aload_n hx hb dX7_init_46 rfl (lv_at hl 0 rfl) ?_
  refine lv_bipush (v := 8) hx hb dX7_init_47 (by decide) ?_
  refine wd_newI CF hE hW hS hb0 (by rw [z5l]; omega) 8 (by decide) (by decide) (by decide) (z5z.at z5l) (Nat.le_of_ble_eq_true rfl) (Nat.le_of_ble_eq_true rfl) dX7_init_49 (fun H hW hS => ?_)
  rw [z5l]
  refine wd_putR CF hE hW hS hnm (k := k) (q := k + 6) fl_X7_26 (pS_at z5k) (fun _ => rfl) rfl rfl (fun _ => rfl) (fun _ => rfl) dX7_init_51 (fun H locs hW hS => ?_)
  obtain ⟨S6, eS6⟩ : ∃ z, z = sS (pS S5 (.inr (0, 8))) k 6 (k + 6) := ⟨_, rfl⟩
  have hW : Wd X S6 D H := by rw [eS6]; exact hW
  have z6l : S6.1.length = k + 7 := by rw [eS6]; exact pS_l z5l
  have z6k : S6.1[k]? = some (.inl 7) := by rw [eS6]; exact pS_at z5k
  have z6z : ZA S6 D (k + 7) := by rw [eS6]; exact (z5z.p).s (by omega)
  have z6a : S6.1[k + 5]? = some (.inr (0, 8)) := by rw [eS6]; exact pS_at z5a
  have z6f : S6.2 k 5 = some (k + 5) := by
    rw [eS6]
    show (if k = k ∧ 5 = 6 then _ else S5.2 k 5) = _
    rw [if_neg (by omega)]; exact z5f
  refine lv_aload_n hx hb dX7_init_54 rfl (lv_at hl 0 rfl) ?_
  refine lv_bipush (v := 120) hx hb dX7_init_55 (by decide) ?_
  refine wd_newI CF hE hW hS hb0 (by rw [z6l]; omega) 120 (by decide) (by decide) (by decide) (z6z.at z6l) (Nat.le_of_ble_eq_true rfl) (Nat.le_of_ble_eq_true rfl) dX7_init_57 (fun H hW hS => ?_)
  rw [z6l]
  refine wd_putR CF hE hW hS hnm (k := k) (q := k + 7) fl_X7_29 (pS_at z6k) (fun _ => rfl) rfl rfl (fun _ => rfl) (fun _ => rfl) dX7_init_59 (fun H locs hW hS => ?_)
  obtain ⟨S7, eS7⟩ : ∃ z, z = sS (pS S6 (.inr (0, 120))) k 8 (k + 7) := ⟨_, rfl⟩
  have hW : Wd X S7 D H := by rw [eS7]; exact hW
  have z7l : S7.1.length = k + 8 := by rw [eS7]; exact pS_l z6l
  have z7k : S7.1[k]? = some (.inl 7) := by rw [eS7]; exact pS_at z6k
  have z7z : ZA S7 D (k + 8) := by rw [eS7]; exact (z6z.p).s (by omega)
  have z7a : S7.1[k + 5]? = some (.inr (0, 8)) := by rw [eS7]; exact pS_at z6a
  have z7f : S7.2 k 5 = some (k + 5) := by
    rw [eS7]
    show (if k = k ∧ 5 = 8 then _ else S6.2 k 5) = _
    rw [if_neg (by omega)]; exact z6f
  refine lv_aload_n hx hb dX7_init_62 rfl (lv_at hl 0 rfl) ?_
  refine lv_bipush (v := 16) hx hb dX7_init_63 (by decide) ?_
  refine wd_newI CF hE hW hS hb0 (by rw [z7l]; omega) 16 (by decide) (by decide) (by decide) (z7z.at z7l) (Nat.le_of_ble_eq_true rfl) (Nat.le_of_ble_eq_true rfl) dX7_init_65 (fun H hW hS => ?_)
  rw [z7l]
  refine wd_putR CF hE hW hS hnm (k := k) (q := k + 8) fl_X7_32 (pS_at z7k) (fun _ => rfl) rfl rfl (fun _ => rfl) (fun _ => rfl) dX7_init_67 (fun H locs hW hS => ?_)
  obtain ⟨S8, eS8⟩ : ∃ z, z = sS (pS S7 (.inr (0, 16))) k 11 (k + 8) := ⟨_, rfl⟩
  have hW : Wd X S8 D H := by rw [eS8]; exact hW
  have z8l : S8.1.length = k + 9 := by rw [eS8]; exact pS_l z7l
  have z8k : S8.1[k]? = some (.inl 7) := by rw [eS8]; exact pS_at z7k
  have z8z : ZA S8 D (k + 9) := by rw [eS8]; exact (z7z.p).s (by omega)
  have z8a : S8.1[k + 5]? = some (.inr (0, 8)) := by rw [eS8]; exact pS_at z7a
  have z8f : S8.2 k 5 = some (k + 5) := by
    rw [eS8]
    show (if k = k ∧ 5 = 11 then _ else S7.2 k 5) = _
    rw [if_neg (by omega)]; exact z7f
  refine lv_aload_n hx hb dX7_init_70 rfl (lv_at hl 0 rfl) ?_
  refine lv_bipush (v := 40) hx hb dX7_init_71 (by decide) ?_
  refine wd_newI CF hE hW hS hb0 (by rw [z8l]; omega) 40 (by decide) (by decide) (by decide) (z8z.at z8l) (Nat.le_of_ble_eq_true rfl) (Nat.le_of_ble_eq_true rfl) dX7_init_73 (fun H hW hS => ?_)
  rw [z8l]
  refine wd_putR CF hE hW hS hnm (k := k) (q := k + 9) fl_X7_35 (pS_at z8k) (fun _ => rfl) rfl rfl (fun _ => rfl) (fun _ => rfl) dX7_init_75 (fun H locs hW hS => ?_)
  obtain ⟨S9, eS9⟩ : ∃ z, z = sS (pS S8 (.inr (0, 40))) k 13 (k + 9) := ⟨_, rfl⟩
  have hW : Wd X S9 D H := by rw [eS9]; exact hW
  have z9l : S9.1.length = k + 10 := by rw [eS9]; exact pS_l z8l
  have z9k : S9.1[k]? = some (.inl 7) := by rw [eS9]; exact pS_at z8k
  have z9z : ZA S9 D (k + 10) := by rw [eS9]; exact (z8z.p).s (by omega)
  have z9a : S9.1[k + 5]? = some (.inr (0, 8)) := by rw [eS9]; exact pS_at z8a
  have z9f : S9.2 k 5 = some (k + 5) := by
    rw [eS9]
    show (if k = k ∧ 5 = 13 then _ else S8.2 k 5) = _
    rw [if_neg (by omega)]; exact z8f
  refine lv_aload_n hx hb dX7_init_78 rfl (lv_at hl 0 rfl) ?_
  refine lv_bipush (v := 7) hx hb dX7_init_79 (by decide) ?_
  refine wd_newZ CF hE hW hS hb0 (by rw [z9l]; omega) 7 (by decide) (by decide) (by decide) (z9z.at z9l) (Nat.le_of_ble_eq_true rfl) (Nat.le_of_ble_eq_true rfl) dX7_init_81 (fun H hW hS => ?_)
  rw [z9l]
  refine wd_putR CF hE hW hS hnm (k := k) (q := k + 10) fl_X7_38 (pS_at z9k) (fun _ => rfl) rfl rfl (fun _ => rfl) (fun _ => rfl) dX7_init_83 (fun H locs hW hS => ?_)
  obtain ⟨S10, eS10⟩ : ∃ z, z = sS (pS S9 (.inr (1, 7))) k 17 (k + 10) := ⟨_, rfl⟩
  have hW : Wd X S10 D H := by rw [eS10]; exact hW
  have z10l : S10.1.length = k + 11 := by rw [eS10]; exact pS_l z9l
  have z10k : S10.1[k]? = some (.inl 7) := by rw [eS10]; exact pS_at z9k
  have z10z : ZA S10 D (k + 11) := by rw [eS10]; exact (z9z.p).s (by omega)
  have z10a : S10.1[k + 5]? = some (.inr (0, 8)) := by rw [eS10]; exact pS_at z9a
  have z10f : S10.2 k 5 = some (k + 5) := by
    rw [eS10]
    show (if k = k ∧ 5 = 17 then _ else S9.2 k 5) = _
    rw [if_neg (by omega)]; exact z9f
  have eT : S10 = mdS S k := by rw [eS10, eS9, eS8, eS7, eS6, eS5, eS4, eS3, eS2, eS1]; rfl
  rw [eT] at hW z10k z10a z10f
  have hL : ∀ dd i H locs ls, i + dd = 8 → Wd X (mdS S k) (mdD D (k + 5) i) H → va_S (wd_A X) s.heap H locs → lv_has ls 2 [(0, .ref (X.2.2.1 + k)), (1, .int (nI i))] → W p l e ({ frames := 1, cells := 10, slots := 1685, locals := 40 }) s m ([.ref (X.2.2.1 + k)] : List Value).toArray below meth c H locs 10 1685 (MQ below (wd_Q X (mdS S k) (mdD D (k + 5) 8) none) ([.ref (X.2.2.1 + k)] : List Value).toArray s 10 1685 (wd_A X)) (F0 m 88 ls []) := by
    intro dd
    induction dd with
    | zero =>
      intro i H locs ls hi hW hS hl
      have ei : i = 8 := by omega
      subst ei
      refine lv_iload_n hx hb dX7_init_88 rfl (lv_at hl 1 rfl) ?_
      refine lv_bipush (v := 8) hx hb dX7_init_89 (by decide) ?_
      refine lv_icmp_ge (tgt := 107) hx hb dX7_init_91 (by decide) (fun cc => ?_) (fun cc => ?_)
      · exact wd_vret CF hret hlk hW hS dX7_init_107
      · exact absurd (show nI 8 ≤ nI 8 by decide) cc
    | succ dd ih =>
      intro i H locs ls hi hW hS hl
      refine lv_iload_n hx hb dX7_init_88 rfl (lv_at hl 1 rfl) ?_
      refine lv_bipush (v := 8) hx hb dX7_init_89 (by decide) ?_
      refine lv_icmp_ge (tgt := 107) hx hb dX7_init_91 (by decide) (fun cc => ?_) (fun cc => ?_)
      · exact absurd ((le_nI (a := 8) (by omega) (by omega)).mp cc) (by omega)
      · refine lv_aload_n hx hb dX7_init_94 rfl (lv_at hl 0 rfl) ?_
        refine wd_getR CF hE hW fl_X7_23 z10k (q := k + 5) z10f rfl dX7_init_95 ?_
        refine lv_iload_n hx hb dX7_init_98 rfl (lv_at hl 1 rfl) ?_
        refine lv_iconst (v := -1) hx hb dX7_init_99 (by decide) ?_
        refine wd_iast CF hE hW hS z10a (D1 := mdD D (k + 5) (i + 1)) (wr_nI _ _ _ (by omega)) dX7_init_100 (fun H locs hW hS => ?_)
        obtain ⟨x1, ex1⟩ : ∃ y : Int32, y = nI i + 1 := ⟨_, rfl⟩
        refine lv_iinc (v := x1) (lv' := [(1, .int x1), (0, .ref (X.2.2.1 + k))]) hx hb dX7_init_101 hl (k := 1) rfl (by rw [ex1]; rfl) (by decide) rfl (fun ls hl => ?_)
        refine lv_goto (tgt := 88) hx hb dX7_init_104 (by decide) ?_
        rw [ex1, nI_1] at hl
        exact ih (i + 1) _ _ _ (by omega) hW hS (lv_sub hl [1, 0] rfl)
  refine lv_iconst (v := 0) hx hb dX7_init_86 (by decide) ?_
  refine lv_istore_n (lv' := [(1, .int 0), (0, .ref (X.2.2.1 + k))]) hx hb dX7_init_87 rfl hl (by decide) rfl (fun ls hl => ?_)
  exact W.rc (by decide) (by decide) (hL 8 0 _ _ _ (by omega) hW hS (lv_sub hl [1, 0] rfl))
