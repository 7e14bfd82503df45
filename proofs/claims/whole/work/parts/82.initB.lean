/-! constructors with loops -/
theorem W.rc {p : Program} {l : Launch} {e : Env} {R : Room} {s : State} {m : MethodId} {args : Array Value} {below : List Frame} {meth : Method} {c : Code} {H : Heap} {locs : List Loc} {cells slots cells' slots' : Nat} {Q : State → Prop} {g : JFrame} (h1 : cells = cells') (h2 : slots = slots') (kk : W p l e R s m args below meth c H locs cells' slots' Q g) : W p l e R s m args below meth c H locs cells slots Q g := by
  subst h1 h2; exact kk
def lpS (S : wd_S) (r : Nat) : Nat → wd_S
  | 0 => S
  | i + 1 => sS (rmS (pS (lpS S r i) (.inl 3)) (S.1.length + 9 * i)) r i (S.1.length + 9 * i)
theorem rm_len {S : wd_S} {k n : Nat} (h : S.1.length = n) : (rmS S k).1.length = n + 8 := by simp [rmS, h]
theorem rm_at {S : wd_S} {k a : Nat} {x : wd_Sh} (h : S.1[a]? = some x) : (rmS S k).1[a]? = some x := by
  show (S.1 ++ _)[a]? = some x
  rw [List.getElem?_append_left (List.getElem?_eq_some_iff.mp h).1]; exact h
theorem ZA.r {S : wd_S} {D : wd_D} {n k : Nat} (h : ZA S D n) (hk : k < n) : ZA (rmS S k) D (n + 8) := fun i hi b => by
  obtain ⟨z1, z2, z3⟩ := h i (by omega) b
  refine ⟨z1, z2, ?_⟩
  show (if i = k ∧ 6 ≤ b ∧ b < 14 then _ else S.2 i b) = none
  rw [if_neg (by omega)]; exact z3
theorem lp_len {S : wd_S} {r : Nat} : ∀ i, (lpS S r i).1.length = S.1.length + 9 * i
  | 0 => rfl
  | i + 1 => by
    show (rmS (pS (lpS S r i) (.inl 3)) (S.1.length + 9 * i)).1.length = _
    rw [rm_len (pS_l (lp_len i))]; omega
theorem lp_at {S : wd_S} {r a : Nat} {x : wd_Sh} (h : S.1[a]? = some x) : ∀ i, (lpS S r i).1[a]? = some x
  | 0 => h
  | i + 1 => rm_at (k := S.1.length + 9 * i) (pS_at (lp_at h i))
theorem lp_za {S : wd_S} {D : wd_D} {r n : Nat} (hn : S.1.length = n) (h : ZA S D n) (hr : r < n) : ∀ i, ZA (lpS S r i) D (n + 9 * i)
  | 0 => h
  | i + 1 => by
    have := ((lp_za hn h hr i).p (sh := .inl 3)).r (k := n + 9 * i) (by omega)
    have h2 := this.s (k := r) (j := i) (q := n + 9 * i) (by omega)
    show ZA (sS (rmS (pS (lpS S r i) (.inl 3)) (S.1.length + 9 * i)) r i (S.1.length + 9 * i)) D _
    rw [hn, show n + 9 * (i + 1) = n + 9 * i + 1 + 8 by omega]
    exact h2
theorem lp_o {S : wd_S} {r a b : Nat} (ha : a ≠ r) (hl : a < S.1.length) : ∀ i, (lpS S r i).2 a b = S.2 a b
  | 0 => rfl
  | i + 1 => by
    show (if a = r ∧ b = i then _ else (if a = S.1.length + 9 * i ∧ 6 ≤ b ∧ b < 14 then _ else (lpS S r i).2 a b)) = _
    rw [if_neg (by omega), if_neg (by omega), lp_o ha hl i]
theorem mi3 : wd_MI yX3_init cX3_init 1 := ⟨⟨tw46, tw3, by decide, by decide, by decide +kernel⟩, rfl, tw45⟩

def psS (S : wd_S) (k : Nat) : wd_S := lpS (sS (pS S (.inr (2, 24))) k 0 (k + 1)) (k + 1) 24
set_option maxHeartbeats 2000000 in
theorem n_X2 (l : Launch) (X : wd_X) (S : wd_S) (D : wd_D) (k : Nat) (hl0 : S.1.length = k + 1) (hs0 : S.1[k]? = some (.inl 2)) (hz0 : ZA S D (k + 1)) : wd_New l X yX2_init cX2_init 2 ({ frames := 3, cells := 217, slots := 1704, locals := 120 }) S (psS S k) k D D 217 1704 := by
  refine wd_enterI (by decide) (by decide) ?_
  intro p e s m below meth c CF hret hlk hnm hW hE hb0 hsz ls hl
  have CF : CallFix p m c cX2_init 2 s ([.ref (X.2.2.1 + k)] : List Value).toArray tg RX2 := CF
  have hx := CF.1
  have hb := CF.2.1
  have hS : va_S (wd_A X) s.heap s.heap [] := va_S.rf
  refine lv_aload_n hx hb dX2_init_0 rfl (lv_at hl 0 rfl) ?_
  refine wd_obj CF hl.1 tw126 dX2_init_1 (by decide) (by decide) ?_
  refine lv_aload_n hx hb dX2_init_4 rfl (lv_at hl 0 rfl) ?_
  refine lv_bipush (v := 24) hx hb dX2_init_5 (by decide) ?_
  refine wd_newQ2 CF hE hW hS hb0 (by rw [hl0]; omega) 24 (by decide) (by decide) (by decide) tw127 (hz0.at hl0) (Nat.le_of_ble_eq_true rfl) (Nat.le_of_ble_eq_true rfl) dX2_init_7 (fun H hW hS => ?_)
  rw [hl0]
  refine wd_putR CF hE hW hS hnm (k := k) (q := k + 1) fl_X2_11 (pS_at hs0) (fun _ => rfl) rfl rfl (fun _ => rfl) (fun _ => rfl) dX2_init_10 (fun H locs hW hS => ?_)
  obtain ⟨T, eT⟩ : ∃ z, z = sS (pS S (.inr (2, 24))) k 0 (k + 1) := ⟨_, rfl⟩
  rw [← eT] at hW
  have T_l : T.1.length = k + 1 + 1 := by rw [eT]; exact pS_l hl0
  have T_k : T.1[k]? = some (.inl 2) := by rw [eT]; exact pS_at hs0
  have T_r : T.1[k + 1]? = some (.inr (2, 24)) := by rw [eT]; exact pS_new hl0
  have T_z : ZA T D (k + 1 + 1) := by rw [eT]; exact (hz0.p).s (by omega)
  have T_f : T.2 k 0 = some (k + 1) := by rw [eT]; exact if_pos ⟨rfl, rfl⟩
  have ePs : psS S k = lpS T (k + 1) 24 := by rw [eT]; rfl
  rw [ePs]
  have hL : ∀ d i H locs ls, i + d = 24 → Wd X (lpS T (k + 1) i) D H → va_S (wd_A X) s.heap H locs → lv_has ls 2 [(0, .ref (X.2.2.1 + k)), (1, .int (nI i))] → W p l e ({ frames := 3, cells := 217, slots := 1704, locals := 120 }) s m ([.ref (X.2.2.1 + k)] : List Value).toArray below meth c H locs (1 + 9 * i) (24 + 70 * i) (MQ below (wd_Q X (lpS T (k + 1) 24) D none) ([.ref (X.2.2.1 + k)] : List Value).toArray s 217 1704 (wd_A X)) (F0 m 15 ls []) := by
    intro d
    induction d with
    | zero =>
      intro i H locs ls hi hW hS hl
      have ei : i = 24 := by omega
      subst ei
      refine lv_iload_n hx hb dX2_init_15 rfl (lv_at hl 1 rfl) ?_
      refine lv_bipush (v := 24) hx hb dX2_init_16 (by decide) ?_
      refine lv_icmp_ge (tgt := 40) hx hb dX2_init_18 (by decide) (fun cc => ?_) (fun cc => ?_)
      · exact W.rc (by decide) (by decide) (wd_vret CF hret hlk hW hS dX2_init_40)
      · exact absurd (show nI 24 ≤ nI 24 by decide) cc
    | succ d ih =>
      intro i H locs ls hi hW hS hl
      refine lv_iload_n hx hb dX2_init_15 rfl (lv_at hl 1 rfl) ?_
      refine lv_bipush (v := 24) hx hb dX2_init_16 (by decide) ?_
      refine lv_icmp_ge (tgt := 40) hx hb dX2_init_18 (by decide) (fun cc => ?_) (fun cc => ?_)
      · exact absurd ((le_nI (a := 24) (by omega) (by omega)).mp cc) (by omega)
      · have hli := lp_len (S := T) (r := k + 1) i
        rw [T_l] at hli
        have hzi := lp_za T_l T_z (show k + 1 < _ by omega) i
        refine lv_aload_n hx hb dX2_init_21 rfl (lv_at hl 0 rfl) ?_
        refine wd_getR CF hE hW fl_X2_11 (lp_at T_k i) (q := k + 1) (by rw [lp_o (by omega) (by rw [T_l]; omega)]; exact T_f) rfl dX2_init_22 ?_
        refine lv_iload_n hx hb dX2_init_25 rfl (lv_at hl 1 rfl) ?_
        refine wd_newO CF hE hW hS hb0 (by rw [hli]; omega) 3 (by decide) tw127 tw43 tw3 (hzi.at hli) (by show 1 + 9 * i + 1 ≤ _; dsimp only; omega) (by show 24 + 70 * i + 14 ≤ _; dsimp only; omega) dX2_init_26 (fun H hW hS => ?_)
        refine lv_dup hx hb dX2_init_29 rfl ?_
        rw [hli]
        refine wd_callIN CF hE hW hS hb0 (by rw [pS_l hli]; omega) (n_X3 l X (pS (lpS T (k + 1) i) (.inl 3)) D _ (pS_l hli) (pS_new hli) (hzi.p)) mi3 tn128 ⟨rfl, rfl, by decide, by decide⟩ hl.1 rfl (Nat.le_of_ble_eq_true rfl) dX2_init_30 ⟨by show 1 + 9 * i + 1 + 8 ≤ _; dsimp only; omega, by show 24 + 70 * i + 14 + 56 ≤ _; dsimp only; omega⟩ (fun H locs hW hS => ?_)
        refine wd_astR2 CF hE hW hS (k := k + 1) (n := 24) (a := i) (rm_at (pS_at (lp_at T_r i))) (rm_at (pS_new hli)) (ix_nI (by omega)) dX2_init_33 (fun H locs hW hS => ?_)
        obtain ⟨x1, ex1⟩ : ∃ y : Int32, y = nI i + 1 := ⟨_, rfl⟩
        refine lv_iinc (v := x1) (lv' := [(1, .int x1), (0, .ref (X.2.2.1 + k))]) hx hb dX2_init_34 hl (k := 1) rfl (by rw [ex1]; rfl) (by decide) rfl (fun ls hl => ?_)
        refine lv_goto (tgt := 15) hx hb dX2_init_37 (by decide) ?_
        rw [ex1, nI_1] at hl
        have hW : Wd X (lpS T (k + 1) (i + 1)) D H := by
          show Wd X (sS (rmS (pS (lpS T (k + 1) i) (.inl 3)) (T.1.length + 9 * i)) (k + 1) i (T.1.length + 9 * i)) D H
          rw [T_l]; exact hW
        exact W.rc (by omega) (by rw [show wd_N 3 = 14 from rfl]; omega) (ih (i + 1) _ _ _ (by omega) hW hS (lv_sub hl [1, 0] rfl))
  refine lv_iconst (v := 0) hx hb dX2_init_13 (by decide) ?_
  refine lv_istore_n (lv' := [(1, .int 0), (0, .ref (X.2.2.1 + k))]) hx hb dX2_init_14 rfl hl (by decide) rfl (fun ls hl => ?_)
  exact hL 24 0 _ _ _ (by omega) hW hS (lv_sub hl [1, 0] rfl)
def fsT (S : wd_S) (k : Nat) : wd_S := sS (pS (sS (pS (sS (rmS (pS S (.inl 3)) (k + 1)) k 0 (k + 1)) (.inr (2, 9))) k 1 (k + 10)) (.inr (0, 12))) k 2 (k + 11)
def fsS (S : wd_S) (k : Nat) : wd_S := lpS (fsT S k) (k + 10) 9
set_option maxHeartbeats 2000000 in
theorem n_X1 (l : Launch) (X : wd_X) (S : wd_S) (D : wd_D) (k : Nat) (hl0 : S.1.length = k + 1) (hs0 : S.1[k]? = some (.inl 1)) (hz0 : ZA S D (k + 1)) : wd_New l X yX1_init cX1_init 2 ({ frames := 3, cells := 92, slots := 721, locals := 120 }) S (fsS S k) k D D 92 721 := by
  refine wd_enterI (by decide) (by decide) ?_
  intro p e s m below meth c CF hret hlk hnm hW hE hb0 hsz ls hl
  have CF : CallFix p m c cX1_init 2 s ([.ref (X.2.2.1 + k)] : List Value).toArray tg RX1 := CF
  have hx := CF.1
  have hb := CF.2.1
  have hS : va_S (wd_A X) s.heap s.heap [] := va_S.rf
  refine lv_aload_n hx hb dX1_init_0 rfl (lv_at hl 0 rfl) ?_
  refine wd_obj CF hl.1 tw145 dX1_init_1 (by decide) (by decide) ?_
  refine lv_aload_n hx hb dX1_init_4 rfl (lv_at hl 0 rfl) ?_
  refine wd_newO CF hE hW hS hb0 (by rw [hl0]; omega) 3 (by decide) tw146 tw43 tw3 (hz0.at hl0) (Nat.le_of_ble_eq_true rfl) (Nat.le_of_ble_eq_true rfl) dX1_init_5 (fun H hW hS => ?_)
  refine lv_dup hx hb dX1_init_8 rfl ?_
  rw [hl0]
  refine wd_callIN CF hE hW hS hb0 (by rw [pS_l hl0]; omega) (n_X3 l X (pS S (.inl 3)) D _ (pS_l hl0) (pS_new hl0) (hz0.p)) mi3 tn147 ⟨rfl, rfl, by decide, by decide⟩ hl.1 rfl (Nat.le_of_ble_eq_true rfl) dX1_init_9 ⟨by decide, by decide⟩ (fun H locs hW hS => ?_)
  have l1 : (rmS (pS S (.inl 3)) (k + 1)).1.length = k + 10 := rm_len (pS_l hl0)
  have s1 : (rmS (pS S (.inl 3)) (k + 1)).1[k]? = some (.inl 1) := rm_at (pS_at hs0)
  have z1 : ZA (rmS (pS S (.inl 3)) (k + 1)) D (k + 10) := (hz0.p).r (by omega)
  refine wd_putR CF hE hW hS hnm (k := k) (q := k + 1) fl_X1_12 s1 (fun _ => rfl) rfl rfl (fun _ => rfl) (fun _ => rfl) dX1_init_12 (fun H locs hW hS => ?_)
  have l2 : (sS (rmS (pS S (.inl 3)) (k + 1)) k 0 (k + 1)).1.length = k + 10 := l1
  have z2 : ZA (sS (rmS (pS S (.inl 3)) (k + 1)) k 0 (k + 1)) D (k + 10) := z1.s (by omega)
  refine lv_aload_n hx hb dX1_init_15 rfl (lv_at hl 0 rfl) ?_
  refine lv_bipush (v := 9) hx hb dX1_init_16 (by decide) ?_
  refine wd_newQ2 CF hE hW hS hb0 (by rw [l2]; omega) 9 (by decide) (by decide) (by decide) tw146 (z2.at l2) (by decide) (by decide) dX1_init_18 (fun H hW hS => ?_)
  rw [l2]
  refine wd_putR CF hE hW hS hnm (k := k) (q := k + 10) fl_X1_18 (pS_at s1) (fun _ => rfl) rfl rfl (fun _ => rfl) (fun _ => rfl) dX1_init_21 (fun H locs hW hS => ?_)
  obtain ⟨V, eV⟩ : ∃ z, z = sS (pS (sS (rmS (pS S (.inl 3)) (k + 1)) k 0 (k + 1)) (.inr (2, 9))) k 1 (k + 10) := ⟨_, rfl⟩
  rw [← eV] at hW
  have l3 : V.1.length = k + 11 := by rw [eV]; exact pS_l l2
  have z3 : ZA V D (k + 11) := by rw [eV]; exact (z2.p).s (by omega)
  have s3 : V.1[k]? = some (.inl 1) := by rw [eV]; exact pS_at s1
  have r3 : V.1[k + 10]? = some (.inr (2, 9)) := by rw [eV]; exact pS_new l2
  have f3 : V.2 k 1 = some (k + 10) := by rw [eV]; exact if_pos ⟨rfl, rfl⟩
  refine lv_aload_n hx hb dX1_init_24 rfl (lv_at hl 0 rfl) ?_
  refine lv_bipush (v := 12) hx hb dX1_init_25 (by decide) ?_
  refine wd_newI CF hE hW hS hb0 (by rw [l3]; omega) 12 (by decide) (by decide) (by decide) (z3.at l3) (by decide) (by decide) dX1_init_27 (fun H hW hS => ?_)
  rw [l3]
  refine wd_putR CF hE hW hS hnm (k := k) (q := k + 11) fl_X1_22 (pS_at s3) (fun _ => rfl) rfl rfl (fun _ => rfl) (fun _ => rfl) dX1_init_29 (fun H locs hW hS => ?_)
  obtain ⟨T, eT⟩ : ∃ z, z = sS (pS V (.inr (0, 12))) k 2 (k + 11) := ⟨_, rfl⟩
  rw [← eT] at hW
  have T_l : T.1.length = k + 12 := by rw [eT]; exact pS_l l3
  have T_k : T.1[k]? = some (.inl 1) := by rw [eT]; exact pS_at s3
  have T_r : T.1[k + 10]? = some (.inr (2, 9)) := by rw [eT]; exact pS_at r3
  have T_z : ZA T D (k + 12) := by rw [eT]; exact (z3.p).s (by omega)
  have T_f : T.2 k 1 = some (k + 10) := by
    rw [eT]
    show (if k = k ∧ 1 = 2 then _ else V.2 k 1) = _
    rw [if_neg (by omega)]; exact f3
  have ePs : fsS S k = lpS T (k + 10) 9 := by rw [eT, eV]; rfl
  rw [ePs]
  have hL : ∀ d i H locs ls, i + d = 9 → Wd X (lpS T (k + 10) i) D H → va_S (wd_A X) s.heap H locs → lv_has ls 2 [(0, .ref (X.2.2.1 + k)), (1, .int (nI i))] → W p l e ({ frames := 3, cells := 92, slots := 721, locals := 120 }) s m ([.ref (X.2.2.1 + k)] : List Value).toArray below meth c H locs (11 + 9 * i) (91 + 70 * i) (MQ below (wd_Q X (lpS T (k + 10) 9) D none) ([.ref (X.2.2.1 + k)] : List Value).toArray s 92 721 (wd_A X)) (F0 m 34 ls []) := by
    intro d
    induction d with
    | zero =>
      intro i H locs ls hi hW hS hl
      have ei : i = 9 := by omega
      subst ei
      refine lv_iload_n hx hb dX1_init_34 rfl (lv_at hl 1 rfl) ?_
      refine lv_aload_n hx hb dX1_init_35 rfl (lv_at hl 0 rfl) ?_
      refine wd_getR CF hE hW fl_X1_18 (lp_at T_k _) (q := k + 10) (by rw [lp_o (by omega) (by rw [T_l]; omega)]; exact T_f) rfl dX1_init_36 ?_
      refine wd_alen2 CF hE hW (lp_at T_r _) (v := 9) rfl dX1_init_39 ?_
      refine lv_icmp_ge (tgt := 62) hx hb dX1_init_40 (by decide) (fun cc => ?_) (fun cc => ?_)
      · exact W.rc (by decide) (by decide) (wd_vret CF hret hlk hW hS dX1_init_62)
      · exact absurd (show nI 9 ≤ nI 9 by decide) cc
    | succ d ih =>
      intro i H locs ls hi hW hS hl
      refine lv_iload_n hx hb dX1_init_34 rfl (lv_at hl 1 rfl) ?_
      refine lv_aload_n hx hb dX1_init_35 rfl (lv_at hl 0 rfl) ?_
      refine wd_getR CF hE hW fl_X1_18 (lp_at T_k _) (q := k + 10) (by rw [lp_o (by omega) (by rw [T_l]; omega)]; exact T_f) rfl dX1_init_36 ?_
      refine wd_alen2 CF hE hW (lp_at T_r _) (v := 9) rfl dX1_init_39 ?_
      refine lv_icmp_ge (tgt := 62) hx hb dX1_init_40 (by decide) (fun cc => ?_) (fun cc => ?_)
      · exact absurd ((le_nI (a := 9) (by omega) (by omega)).mp cc) (by omega)
      · have hli := lp_len (S := T) (r := k + 10) i
        rw [T_l] at hli
        have hzi := lp_za T_l T_z (show k + 10 < _ by omega) i
        refine lv_aload_n hx hb dX1_init_43 rfl (lv_at hl 0 rfl) ?_
        refine wd_getR CF hE hW fl_X1_18 (lp_at T_k i) (q := k + 10) (by rw [lp_o (by omega) (by rw [T_l]; omega)]; exact T_f) rfl dX1_init_44 ?_
        refine lv_iload_n hx hb dX1_init_47 rfl (lv_at hl 1 rfl) ?_
        refine wd_newO CF hE hW hS hb0 (by rw [hli]; omega) 3 (by decide) tw146 tw43 tw3 (hzi.at hli) (by show 11 + 9 * i + 1 ≤ _; dsimp only; omega) (by show 91 + 70 * i + 14 ≤ _; dsimp only; omega) dX1_init_48 (fun H hW hS => ?_)
        refine lv_dup hx hb dX1_init_51 rfl ?_
        rw [hli]
        refine wd_callIN CF hE hW hS hb0 (by rw [pS_l hli]; omega) (n_X3 l X (pS (lpS T (k + 10) i) (.inl 3)) D _ (pS_l hli) (pS_new hli) (hzi.p)) mi3 tn147 ⟨rfl, rfl, by decide, by decide⟩ hl.1 rfl (Nat.le_of_ble_eq_true rfl) dX1_init_52 ⟨by show 11 + 9 * i + 1 + 8 ≤ _; dsimp only; omega, by show 91 + 70 * i + 14 + 56 ≤ _; dsimp only; omega⟩ (fun H locs hW hS => ?_)
        refine wd_astR2 CF hE hW hS (k := k + 10) (n := 9) (a := i) (rm_at (pS_at (lp_at T_r i))) (rm_at (pS_new hli)) (ix_nI (by omega)) dX1_init_55 (fun H locs hW hS => ?_)
        obtain ⟨x1, ex1⟩ : ∃ y : Int32, y = nI i + 1 := ⟨_, rfl⟩
        refine lv_iinc (v := x1) (lv' := [(1, .int x1), (0, .ref (X.2.2.1 + k))]) hx hb dX1_init_56 hl (k := 1) rfl (by rw [ex1]; rfl) (by decide) rfl (fun ls hl => ?_)
        refine lv_goto (tgt := 34) hx hb dX1_init_59 (by decide) ?_
        rw [ex1, nI_1] at hl
        have hW : Wd X (lpS T (k + 10) (i + 1)) D H := by
          show Wd X (sS (rmS (pS (lpS T (k + 10) i) (.inl 3)) (T.1.length + 9 * i)) (k + 10) i (T.1.length + 9 * i)) D H
          rw [T_l]; exact hW
        exact W.rc (by omega) (by rw [show wd_N 3 = 14 from rfl]; omega) (ih (i + 1) _ _ _ (by omega) hW hS (lv_sub hl [1, 0] rfl))
  refine lv_iconst (v := 0) hx hb dX1_init_32 (by decide) ?_
  refine lv_istore_n (lv' := [(1, .int 0), (0, .ref (X.2.2.1 + k))]) hx hb dX1_init_33 rfl hl (by decide) rfl (fun ls hl => ?_)
  exact hL 9 0 _ _ _ (by omega) hW hS (lv_sub hl [1, 0] rfl)
