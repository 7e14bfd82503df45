/-! constructor of the class -/
def dz : wd_D := (fun _ _ => 0, fun _ _ => 0)
/-- T is S grown by n places behind place k -/
def Bd (S T : wd_S) (k n : Nat) : Prop := T.1.length = k + 1 + n ∧ (∀ (a : Nat) (x : wd_Sh), S.1[a]? = some x → T.1[a]? = some x) ∧ (∀ a b, a < k → T.2 a b = S.2 a b) ∧ (∀ a b, k + 1 + n ≤ a → T.2 a b = S.2 a b)
theorem Bd.za {S T : wd_S} {D : wd_D} {k n : Nat} (h : Bd S T k n) (hz : ZA S D (k + 1)) : ZA T D (k + 1 + n) := fun i hi b => by
  obtain ⟨z1, z2, z3⟩ := hz i (by omega) b
  exact ⟨z1, z2, by rw [h.2.2.2 i b hi]; exact z3⟩
theorem bd1 {S : wd_S} {k N : Nat} (h : S.1.length = k + 1) : Bd S (sS (pS S (.inr (0, N))) k 0 (k + 1)) k 1 := by
  refine ⟨pS_l h, fun a x h => pS_at h, fun a b ha => ?_, fun a b ha => ?_⟩
  · show (if a = k ∧ b = 0 then _ else S.2 a b) = _
    rw [if_neg (by omega)]
  · show (if a = k ∧ b = 0 then _ else S.2 a b) = _
    rw [if_neg (by omega)]
theorem tp_bd {S : wd_S} {k : Nat} (h : S.1.length = k + 1) : Bd S (tpS S k) k 1 := bd1 h
theorem as_bd {S : wd_S} {k : Nat} (h : S.1.length = k + 1) : Bd S (asS S k) k 1 := bd1 h
theorem rw_bd {S : wd_S} {k : Nat} (h : S.1.length = k + 1) : Bd S (rwS S k) k 1 := bd1 h
theorem rm_bd {S : wd_S} {k : Nat} (h : S.1.length = k + 1) : Bd S (rmS S k) k 8 := by
  refine ⟨rm_len h, fun a x h => rm_at h, fun a b ha => ?_, fun a b ha => ?_⟩
  · show (if a = k ∧ 6 ≤ b ∧ b < 14 then _ else S.2 a b) = _
    rw [if_neg (by omega)]
  · show (if a = k ∧ 6 ≤ b ∧ b < 14 then _ else S.2 a b) = _
    rw [if_neg (by omega)]
theorem lp_o2 {S : wd_S} {r a b n : Nat} (ha : a ≠ r) : ∀ i, S.1.length + 9 * i ≤ a → (lpS S r i).2 a b = S.2 a b
  | 0, _ => rfl
  | i + 1, hl => by
    show (if a = r ∧ b = i then _ else (if a = S.1.length + 9 * i ∧ 6 ≤ b ∧ b < 14 then _ else (lpS S r i).2 a b)) = _
    rw [if_neg (by omega), if_neg (by omega), lp_o2 (n := n) ha i (by omega)]
theorem ps_bd {S : wd_S} {k : Nat} (h : S.1.length = k + 1) : Bd S (psS S k) k 217 := by
  have hT : (sS (pS S (.inr (2, 24))) k 0 (k + 1)).1.length = k + 2 := pS_l h
  refine ⟨?_, fun a x h => lp_at (S := sS (pS S (.inr (2, 24))) k 0 (k + 1)) (pS_at h) 24, fun a b ha => ?_, fun a b ha => ?_⟩
  · show (lpS _ _ 24).1.length = _
    rw [lp_len, hT]
  · show (lpS _ _ 24).2 a b = _
    rw [lp_o (by omega) (by rw [hT]; omega)]
    show (if a = k ∧ b = 0 then _ else S.2 a b) = _
    rw [if_neg (by omega)]
  · show (lpS _ _ 24).2 a b = _
    rw [lp_o2 (n := 0) (by omega) _ (by rw [hT]; omega)]
    show (if a = k ∧ b = 0 then _ else S.2 a b) = _
    rw [if_neg (by omega)]
theorem fsT_l {S : wd_S} {k : Nat} (h : S.1.length = k + 1) : (fsT S k).1.length = k + 12 := pS_l (pS_l (rm_len (k := k + 1) (pS_l h)))
theorem fsT_at {S : wd_S} {k a : Nat} {x : wd_Sh} (h : S.1[a]? = some x) : (fsT S k).1[a]? = some x := pS_at (pS_at (rm_at (k := k + 1) (pS_at h)))
theorem fsT_o {S : wd_S} {k a b : Nat} (h1 : a ≠ k) (h2 : a ≠ k + 1) : (fsT S k).2 a b = S.2 a b := by
  show (if a = k ∧ b = 2 then _ else (if a = k ∧ b = 1 then _ else (if a = k ∧ b = 0 then _ else (if a = k + 1 ∧ 6 ≤ b ∧ b < 14 then _ else S.2 a b)))) = _
  rw [if_neg (by omega), if_neg (by omega), if_neg (by omega), if_neg (by omega)]
theorem fs_bd {S : wd_S} {k : Nat} (h : S.1.length = k + 1) : Bd S (fsS S k) k 92 := by
  have hT := fsT_l h
  refine ⟨?_, fun a x h => lp_at (S := fsT S k) (fsT_at h) 9, fun a b ha => ?_, fun a b ha => ?_⟩
  · show (lpS _ _ 9).1.length = _
    rw [lp_len, hT]
  · show (lpS _ _ 9).2 a b = _
    rw [lp_o (by omega) (by rw [hT]; omega)]
    exact fsT_o (by omega) (by omega)
  · show (lpS _ _ 9).2 a b = _
    rw [lp_o2 (n := 0) (by omega) _ (by rw [hT]; omega)]
    exact fsT_o (by omega) (by omega)
/-- what is known of a stage: its length, its object, nothing beyond -/
def St (S : wd_S) (n : Nat) : Prop := S.1.length = n ∧ S.1[0]? = some (.inl 6) ∧ ZA S dz n
theorem St.g {S T : wd_S} {n m j ci : Nat} (h : St S n) (b : Bd (pS S (.inl ci)) T n m) (hn : 0 < n) : St (sS T 0 j n) (n + 1 + m) := by
  refine ⟨b.1, b.2.1 _ _ (pS_at h.2.1), ?_⟩
  exact (b.za h.2.2.p).s (by omega)
theorem St.o {S T : wd_S} {n m j ci j' : Nat} (b : Bd (pS S (.inl ci)) T n m) (hn : 0 < n) (hj : j' ≠ j) : (sS T 0 j n).2 0 j' = S.2 0 j' := by
  show (if 0 = 0 ∧ j' = j then _ else T.2 0 j') = _
  rw [if_neg (fun z => hj z.2), b.2.2.1 0 j' hn]; rfl
def x6s : wd_S := ([.inl 6], fun _ _ => none)

def x6a : wd_S := sS (pS x6s (.inr (3, 8))) 0 0 1
theorem x6a_st : St x6a 2 := by
  refine ⟨rfl, rfl, ?_⟩
  exact (show ZA (pS x6s (.inr (3, 8))) dz 2 from fun i hi b => ⟨rfl, rfl, rfl⟩).s (by omega)
theorem x6a_1 : x6a.1[1]? = some (.inr (3, 8)) := rfl
theorem x6a_f : x6a.2 0 0 = some 1 := rfl
def x6b : wd_S := sS (tpS (pS x6a (.inl 5)) 2) 0 1 2
theorem x6b_bd : Bd (pS x6a (.inl 5)) (tpS (pS x6a (.inl 5)) 2) 2 1 := tp_bd (pS_l x6a_st.1)
theorem x6b_st : St x6b 4 := x6a_st.g x6b_bd (by decide)
theorem x6b_1 : x6b.1[1]? = some (.inr (3, 8)) := x6b_bd.2.1 _ _ (pS_at x6a_1)
theorem x6b_f : x6b.2 0 0 = some 1 := (St.o x6b_bd (by decide) (by decide)).trans x6a_f
def x6c : wd_S := sS (rmS (pS x6b (.inl 3)) 4) 0 2 4
theorem x6c_bd : Bd (pS x6b (.inl 3)) (rmS (pS x6b (.inl 3)) 4) 4 8 := rm_bd (pS_l x6b_st.1)
theorem x6c_st : St x6c 13 := x6b_st.g x6c_bd (by decide)
theorem x6c_1 : x6c.1[1]? = some (.inr (3, 8)) := x6c_bd.2.1 _ _ (pS_at x6b_1)
theorem x6c_f : x6c.2 0 0 = some 1 := (St.o x6c_bd (by decide) (by decide)).trans x6b_f
def x6d : wd_S := sS (rmS (pS x6c (.inl 3)) 13) 0 3 13
theorem x6d_bd : Bd (pS x6c (.inl 3)) (rmS (pS x6c (.inl 3)) 13) 13 8 := rm_bd (pS_l x6c_st.1)
theorem x6d_st : St x6d 22 := x6c_st.g x6d_bd (by decide)
theorem x6d_1 : x6d.1[1]? = some (.inr (3, 8)) := x6d_bd.2.1 _ _ (pS_at x6c_1)
theorem x6d_f : x6d.2 0 0 = some 1 := (St.o x6d_bd (by decide) (by decide)).trans x6c_f
def x6e : wd_S := sS (pS x6d (.inr (2, 2))) 0 4 22
theorem x6e_st : St x6e 23 := ⟨pS_l x6d_st.1, pS_at x6d_st.2.1, (x6d_st.2.2.p).s (by omega)⟩
theorem x6e_1 : x6e.1[1]? = some (.inr (3, 8)) := pS_at x6d_1
theorem x6e_22 : x6e.1[22]? = some (.inr (2, 2)) := pS_new x6d_st.1
theorem x6e_f : x6e.2 0 0 = some 1 := x6d_f
theorem x6e_4 : x6e.2 0 4 = some 22 := rfl
def x6f : wd_S := sS (psS (pS x6e (.inl 2)) 23) 0 5 23
theorem x6f_bd : Bd (pS x6e (.inl 2)) (psS (pS x6e (.inl 2)) 23) 23 217 := ps_bd (pS_l x6e_st.1)
theorem x6f_st : St x6f 241 := x6e_st.g x6f_bd (by decide)
theorem x6f_1 : x6f.1[1]? = some (.inr (3, 8)) := x6f_bd.2.1 _ _ (pS_at x6e_1)
theorem x6f_f : x6f.2 0 0 = some 1 := (St.o x6f_bd (by decide) (by decide)).trans x6e_f
theorem x6f_22 : x6f.1[22]? = some (.inr (2, 2)) := x6f_bd.2.1 _ _ (pS_at x6e_22)
theorem x6f_4 : x6f.2 0 4 = some 22 := (St.o x6f_bd (by decide) (by decide)).trans x6e_4
def x6g : wd_S := sS (fsS (pS x6f (.inl 1)) 241) 0 6 241
theorem x6g_bd : Bd (pS x6f (.inl 1)) (fsS (pS x6f (.inl 1)) 241) 241 92 := fs_bd (pS_l x6f_st.1)
theorem x6g_st : St x6g 334 := x6f_st.g x6g_bd (by decide)
theorem x6g_1 : x6g.1[1]? = some (.inr (3, 8)) := x6g_bd.2.1 _ _ (pS_at x6f_1)
theorem x6g_f : x6g.2 0 0 = some 1 := (St.o x6g_bd (by decide) (by decide)).trans x6f_f
theorem x6g_22 : x6g.1[22]? = some (.inr (2, 2)) := x6g_bd.2.1 _ _ (pS_at x6f_22)
theorem x6g_4 : x6g.2 0 4 = some 22 := (St.o x6g_bd (by decide) (by decide)).trans x6f_4
def x6h : wd_S := sS (asS (pS x6g (.inl 0)) 334) 0 7 334
theorem x6h_bd : Bd (pS x6g (.inl 0)) (asS (pS x6g (.inl 0)) 334) 334 1 := as_bd (pS_l x6g_st.1)
theorem x6h_st : St x6h 336 := x6g_st.g x6h_bd (by decide)
theorem x6h_1 : x6h.1[1]? = some (.inr (3, 8)) := x6h_bd.2.1 _ _ (pS_at x6g_1)
theorem x6h_f : x6h.2 0 0 = some 1 := (St.o x6h_bd (by decide) (by decide)).trans x6g_f
theorem x6h_22 : x6h.1[22]? = some (.inr (2, 2)) := x6h_bd.2.1 _ _ (pS_at x6g_22)
theorem x6h_4 : x6h.2 0 4 = some 22 := (St.o x6h_bd (by decide) (by decide)).trans x6g_4
def lrS (S : wd_S) (r : Nat) : Nat → wd_S
  | 0 => S
  | i + 1 => sS (rwS (pS (lrS S r i) (.inl 4)) (S.1.length + 2 * i)) r i (S.1.length + 2 * i)
def rwD (D : wd_D) (n : Nat) : Nat → wd_D
  | 0 => D
  | i + 1 => sI (rwD D n i) (n + 2 * i) 1 (-1)
theorem lr_len {S : wd_S} {r : Nat} : ∀ i, (lrS S r i).1.length = S.1.length + 2 * i
  | 0 => rfl
  | i + 1 => by
    show (rwS (pS (lrS S r i) (.inl 4)) (S.1.length + 2 * i)).1.length = _
    rw [(rw_bd (pS_l (lr_len i))).1]; omega
theorem lr_at {S : wd_S} {r a : Nat} {x : wd_Sh} (h : S.1[a]? = some x) : ∀ i, (lrS S r i).1[a]? = some x
  | 0 => h
  | i + 1 => (rw_bd (S := pS (lrS S r i) (.inl 4)) (k := S.1.length + 2 * i) (pS_l (lr_len i))).2.1 _ _ (pS_at (lr_at h i))
theorem ZA.d {S : wd_S} {D : wd_D} {n k j : Nat} {v : Int32} (h : ZA S D n) (hk : k < n) : ZA S (sI D k j v) n := fun i hi b => by
  obtain ⟨z1, z2, z3⟩ := h i hi b
  refine ⟨?_, z2, z3⟩
  show (if i = k ∧ b = j then v else D.1 i b) = 0
  rw [if_neg (by omega)]; exact z1
theorem lr_za {S : wd_S} {D : wd_D} {r n : Nat} (hn : S.1.length = n) (h : ZA S D n) (hr : r < n) : ∀ i, ZA (lrS S r i) (rwD D n i) (n + 2 * i)
  | 0 => h
  | i + 1 => by
    have hb := rw_bd (S := pS (lrS S r i) (.inl 4)) (k := n + 2 * i) (pS_l (by rw [lr_len, hn]))
    have h1 := hb.za (D := rwD D n i) ((lr_za hn h hr i).p)
    have h2 := (h1.s (k := r) (j := i) (q := n + 2 * i) (by omega)).d (k := n + 2 * i) (j := 1) (v := -1) (by omega)
    show ZA (sS (rwS (pS (lrS S r i) (.inl 4)) (S.1.length + 2 * i)) r i (S.1.length + 2 * i)) (sI (rwD D n i) (n + 2 * i) 1 (-1)) _
    rw [hn, show n + 2 * (i + 1) = n + 2 * i + 1 + 1 by omega]
    exact h2
theorem lr_o {S : wd_S} {r a b : Nat} (ha : a ≠ r) (hl : a < S.1.length) : ∀ i, (lrS S r i).2 a b = S.2 a b
  | 0 => rfl
  | i + 1 => by
    show (if a = r ∧ b = i then _ else (if a = S.1.length + 2 * i ∧ b = 0 then _ else (lrS S r i).2 a b)) = _
    rw [if_neg (by omega), if_neg (by omega), lr_o ha hl i]
theorem mi5 : wd_MI yX5_init cX5_init 1 := ⟨⟨tw26, tw2, by decide, by decide, by decide +kernel⟩, rfl, tw25⟩
theorem mi2 : wd_MI yX2_init cX2_init 2 := ⟨⟨tw125, tw4, by decide, by decide, by decide +kernel⟩, rfl, tw124⟩
theorem mi1 : wd_MI yX1_init cX1_init 2 := ⟨⟨tw144, tw5, by decide, by decide, by decide +kernel⟩, rfl, tw143⟩
theorem mi0 : wd_MI yX0_init cX0_init 1 := ⟨⟨tw182, tw6, by decide, by decide, by decide +kernel⟩, rfl, tw181⟩
theorem mi4 : wd_MI yX4_init cX4_init 1 := ⟨⟨tw211, tw7, by decide, by decide, by decide +kernel⟩, rfl, tw210⟩
theorem mi6 : wd_MI yX6_init cX6_init 2 := ⟨⟨tw16, tw1, by decide, by decide, by decide +kernel⟩, rfl, tw15⟩
theorem mi7 : wd_MI yX7_init cX7_init 2 := ⟨⟨tw752, tw8, by decide, by decide, by decide +kernel⟩, rfl, tw751⟩
def x6i : wd_S := lrS x6h 1 8
def x6D : wd_D := rwD dz 336 8
def x6j : wd_S := lpS x6i 22 2
theorem x6i_l : x6i.1.length = 352 := by
  show (lrS x6h 1 8).1.length = _
  rw [lr_len, x6h_st.1]
theorem x6i_z : ZA x6i x6D 352 := lr_za x6h_st.1 x6h_st.2.2 (by decide) 8
theorem x6i_k : x6i.1[0]? = some (.inl 6) := lr_at x6h_st.2.1 8
theorem x6i_22 : x6i.1[22]? = some (.inr (2, 2)) := lr_at x6h_22 8
theorem x6i_f : x6i.2 0 4 = some 22 := (lr_o (by decide) (by rw [x6h_st.1]; decide) 8).trans x6h_4
theorem x6j_l : x6j.1.length = 370 := by
  show (lpS x6i 22 2).1.length = _
  rw [lp_len, x6i_l]
theorem x6j_z : ZA x6j x6D 370 := lp_za x6i_l x6i_z (by decide) 2

set_option maxHeartbeats 4000000 in
theorem n_X6 (l : Launch) (X : wd_X) : wd_New l X yX6_init cX6_init 2 ({ frames := 5, cells := 369, slots := 3216, locals := 200 }) x6s x6j 0 dz x6D 369 3216 := by
  refine wd_enterI (by decide) (by decide) ?_
  intro p e s m below meth c CF hret hlk hnm hW hE hb0 hsz ls hl
  have CF : CallFix p m c cX6_init 2 s ([.ref (X.2.2.1 + 0)] : List Value).toArray tg RX6 := CF
  have hsz : s.heap.size ≤ X.2.2.1 + 1 := hsz
  have hx := CF.1
  have hb := CF.2.1
  have hS : va_S (wd_A X) s.heap s.heap [] := va_S.rf
  have hI : ∀ dd i H locs ls, i + dd = 2 → Wd X (lpS x6i 22 i) x6D H → va_S (wd_A X) s.heap H locs → lv_has ls 2 [(0, .ref (X.2.2.1 + 0)), (1, .int (nI i))] → W p l e ({ frames := 5, cells := 369, slots := 3216, locals := 200 }) s m ([.ref (X.2.2.1 + 0)] : List Value).toArray below meth c H locs (351 + 9 * i) (3076 + 70 * i) (MQ below (wd_Q X x6j x6D none) ([.ref (X.2.2.1 + 0)] : List Value).toArray s 369 3216 (wd_A X)) (F0 m 116 ls []) := by
    intro dd
    induction dd with
    | zero =>
      intro i H locs ls hi hW hS hl
      have ei : i = 2 := by omega
      subst ei
      refine lv_iload_n hx hb dX6_init_116 rfl (lv_at hl 1 rfl) ?_
      refine lv_iconst (v := 2) hx hb dX6_init_117 (by decide) ?_
      refine lv_icmp_ge (tgt := 140) hx hb dX6_init_118 (by decide) (fun cc => ?_) (fun cc => ?_)
      · exact W.rc (by decide) (by decide) (wd_vret CF hret hlk hW hS dX6_init_140)
      · exact absurd (show nI 2 ≤ nI 2 by decide) cc
    | succ dd ih =>
      intro i H locs ls hi hW hS hl
      refine lv_iload_n hx hb dX6_init_116 rfl (lv_at hl 1 rfl) ?_
      refine lv_iconst (v := 2) hx hb dX6_init_117 (by decide) ?_
      refine lv_icmp_ge (tgt := 140) hx hb dX6_init_118 (by decide) (fun cc => ?_) (fun cc => ?_)
      · exact absurd ((le_nI (a := 2) (by omega) (by omega)).mp cc) (by omega)
      · have hli := lp_len (S := x6i) (r := 22) i
        rw [x6i_l] at hli
        have hzi := lp_za x6i_l x6i_z (show 22 < _ by decide) i
        refine lv_aload_n hx hb dX6_init_121 rfl (lv_at hl 0 rfl) ?_
        refine wd_getR CF hE hW fl_X6_32 (lp_at x6i_k i) (q := 22) (by rw [lp_o (by decide) (by rw [x6i_l]; decide)]; exact x6i_f) rfl dX6_init_122 ?_
        refine lv_iload_n hx hb dX6_init_125 rfl (lv_at hl 1 rfl) ?_
        refine wd_newO CF hE hW hS hb0 (by rw [hli]; omega) 3 (by decide) tw42 tw43 tw3 (hzi.at hli) (by show 351 + 9 * i + 1 ≤ _; dsimp only; omega) (by show 3076 + 70 * i + 14 ≤ _; dsimp only; omega) dX6_init_126 (fun H hW hS => ?_)
        refine lv_dup hx hb dX6_init_129 rfl ?_
        rw [hli]
        refine wd_callIN CF hE hW hS hb0 (by rw [pS_l hli]; omega) (n_X3 l X (pS (lpS x6i 22 i) (.inl 3)) x6D _ (pS_l hli) (pS_new hli) (hzi.p)) mi3 tn44 ⟨rfl, rfl, by decide, by decide⟩ hl.1 rfl (Nat.le_of_ble_eq_true rfl) dX6_init_130 ⟨by show 351 + 9 * i + 1 + 8 ≤ _; dsimp only; omega, by show 3076 + 70 * i + 14 + 56 ≤ _; dsimp only; omega⟩ (fun H locs hW hS => ?_)
        refine wd_astR2 CF hE hW hS (k := 22) (n := 2) (a := i) (rm_at (pS_at (lp_at x6i_22 i))) (rm_at (pS_new hli)) (ix_nI (by omega)) dX6_init_133 (fun H locs hW hS => ?_)
        obtain ⟨x1, ex1⟩ : ∃ y : Int32, y = nI i + 1 := ⟨_, rfl⟩
        refine lv_iinc (v := x1) (lv' := [(1, .int x1), (0, .ref (X.2.2.1 + 0))]) hx hb dX6_init_134 hl (k := 1) rfl (by rw [ex1]; rfl) (by decide) rfl (fun ls hl => ?_)
        refine lv_goto (tgt := 116) hx hb dX6_init_137 (by decide) ?_
        rw [ex1, nI_1] at hl
        have hW : Wd X (lpS x6i 22 (i + 1)) x6D H := by
          show Wd X (sS (rmS (pS (lpS x6i 22 i) (.inl 3)) (x6i.1.length + 9 * i)) 22 i (x6i.1.length + 9 * i)) x6D H
          rw [x6i_l]; exact hW
        exact W.rc (by omega) (by rw [show wd_N 3 = 14 from rfl]; omega) (ih (i + 1) _ _ _ (by omega) hW hS (lv_sub hl [1, 0] rfl))
  have hR : ∀ dd i H locs ls, i + dd = 8 → Wd X (lrS x6h 1 i) (rwD dz 336 i) H → va_S (wd_A X) s.heap H locs → lv_has ls 2 [(0, .ref (X.2.2.1 + 0)), (1, .int (nI i))] → W p l e ({ frames := 5, cells := 369, slots := 3216, locals := 200 }) s m ([.ref (X.2.2.1 + 0)] : List Value).toArray below meth c H locs (335 + 2 * i) (2732 + 43 * i) (MQ below (wd_Q X x6j x6D none) ([.ref (X.2.2.1 + 0)] : List Value).toArray s 369 3216 (wd_A X)) (F0 m 89 ls []) := by
    intro dd
    induction dd with
    | zero =>
      intro i H locs ls hi hW hS hl
      have ei : i = 8 := by omega
      subst ei
      refine lv_iload_n hx hb dX6_init_89 rfl (lv_at hl 1 rfl) ?_
      refine lv_bipush (v := 8) hx hb dX6_init_90 (by decide) ?_
      refine lv_icmp_ge (tgt := 114) hx hb dX6_init_92 (by decide) (fun cc => ?_) (fun cc => ?_)
      · refine lv_iconst (v := 0) hx hb dX6_init_114 (by decide) ?_
        refine lv_istore_n (lv' := [(1, .int 0), (0, .ref (X.2.2.1 + 0))]) hx hb dX6_init_115 rfl hl (by decide) rfl (fun ls hl => ?_)
        exact W.rc (by decide) (by decide) (hI 2 0 _ _ _ (by omega) hW hS (lv_sub hl [1, 0] rfl))
      · exact absurd (show nI 8 ≤ nI 8 by decide) cc
    | succ dd ih =>
      intro i H locs ls hi hW hS hl
      refine lv_iload_n hx hb dX6_init_89 rfl (lv_at hl 1 rfl) ?_
      refine lv_bipush (v := 8) hx hb dX6_init_90 (by decide) ?_
      refine lv_icmp_ge (tgt := 114) hx hb dX6_init_92 (by decide) (fun cc => ?_) (fun cc => ?_)
      · exact absurd ((le_nI (a := 8) (by omega) (by omega)).mp cc) (by omega)
      · have hli := lr_len (S := x6h) (r := 1) i
        rw [x6h_st.1] at hli
        have hzi := lr_za x6h_st.1 x6h_st.2.2 (show 1 < _ by decide) i
        refine lv_aload_n hx hb dX6_init_95 rfl (lv_at hl 0 rfl) ?_
        refine wd_getR CF hE hW fl_X6_11 (lr_at x6h_st.2.1 i) (q := 1) (by rw [lr_o (by decide) (by rw [x6h_st.1]; decide)]; exact x6h_f) rfl dX6_init_96 ?_
        refine lv_iload_n hx hb dX6_init_99 rfl (lv_at hl 1 rfl) ?_
        refine wd_newO CF hE hW hS hb0 (by rw [hli]; omega) 4 (by decide) tw20 tw208 tw7 (hzi.at hli) (by show 335 + 2 * i + 1 ≤ _; dsimp only; omega) (by show 2732 + 43 * i + 3 ≤ _; dsimp only; omega) dX6_init_100 (fun H hW hS => ?_)
        refine lv_dup hx hb dX6_init_103 rfl ?_
        rw [hli]
        have hB := rw_bd (S := pS (lrS x6h 1 i) (.inl 4)) (k := 336 + 2 * i) (pS_l hli)
        refine wd_callIN CF hE hW hS hb0 (by rw [pS_l hli]; omega) (n_X4 l X (pS (lrS x6h 1 i) (.inl 4)) (rwD dz 336 i) _ (pS_l hli) (pS_new hli) (hzi.p)) mi4 tn209 ⟨rfl, rfl, by decide, by decide⟩ hl.1 rfl (Nat.le_of_ble_eq_true rfl) dX6_init_104 ⟨by show 335 + 2 * i + 1 + 1 ≤ _; dsimp only; omega, by show 2732 + 43 * i + 3 + 40 ≤ _; dsimp only; omega⟩ (fun H locs hW hS => ?_)
        refine wd_astR3 CF hE hW hS (k := 1) (n := 8) (a := i) (hB.2.1 _ _ (pS_at (lr_at x6h_1 i))) (hB.2.1 _ _ (pS_new hli)) (ix_nI (by omega)) dX6_init_107 (fun H locs hW hS => ?_)
        obtain ⟨x1, ex1⟩ : ∃ y : Int32, y = nI i + 1 := ⟨_, rfl⟩
        refine lv_iinc (v := x1) (lv' := [(1, .int x1), (0, .ref (X.2.2.1 + 0))]) hx hb dX6_init_108 hl (k := 1) rfl (by rw [ex1]; rfl) (by decide) rfl (fun ls hl => ?_)
        refine lv_goto (tgt := 89) hx hb dX6_init_111 (by decide) ?_
        rw [ex1, nI_1] at hl
        have hW : Wd X (lrS x6h 1 (i + 1)) (rwD dz 336 (i + 1)) H := by
          show Wd X (sS (rwS (pS (lrS x6h 1 i) (.inl 4)) (x6h.1.length + 2 * i)) 1 i (x6h.1.length + 2 * i)) (sI (rwD dz 336 i) (336 + 2 * i) 1 (-1)) H
          rw [x6h_st.1]; exact hW
        exact W.rc (by omega) (by rw [show wd_N 4 = 3 from rfl]; omega) (ih (i + 1) _ _ _ (by omega) hW hS (lv_sub hl [1, 0] rfl))
  refine lv_aload_n hx hb dX6_init_0 rfl (lv_at hl 0 rfl) ?_
  refine wd_obj CF hl.1 tw17 dX6_init_1 (by decide) (by decide) ?_
  refine lv_aload_n hx hb dX6_init_4 rfl (lv_at hl 0 rfl) ?_
  refine lv_bipush (v := 8) hx hb dX6_init_5 (by decide) ?_
  refine wd_newQ3 CF hE hW hS hb0 (show s.heap.size + 0 ≤ X.2.2.1 + 1 by omega) 8 (by decide) (by decide) (by decide) tw20 (fun j => ⟨rfl, rfl, rfl⟩) (Nat.le_of_ble_eq_true rfl) (Nat.le_of_ble_eq_true rfl) dX6_init_7 (fun H hW hS => ?_)
  refine wd_putR CF hE hW hS hnm (k := 0) (q := 1) fl_X6_11 rfl (fun _ => rfl) rfl rfl (fun _ => rfl) (fun _ => rfl) dX6_init_10 (fun H locs hW hS => ?_)
  have hW : Wd X x6a dz H := hW
  refine lv_aload_n hx hb dX6_init_13 rfl (lv_at hl 0 rfl) ?_
  refine wd_newO CF hE hW hS hb0 (by rw [x6a_st.1]; omega) 5 (by decide) tw22 tw23 tw2 (x6a_st.2.2.at x6a_st.1) (Nat.le_of_ble_eq_true rfl) (Nat.le_of_ble_eq_true rfl) dX6_init_14 (fun H hW hS => ?_)
  refine lv_dup hx hb dX6_init_17 rfl ?_
  rw [x6a_st.1]
  refine wd_callIN CF hE hW hS hb0 (by rw [pS_l x6a_st.1]; omega) (n_X5 l X (pS x6a (.inl 5)) dz 2 (pS_l x6a_st.1) (pS_new x6a_st.1) (x6a_st.2.2.p)) mi5 tn24 ⟨rfl, rfl, by decide, by decide⟩ hl.1 rfl (Nat.le_of_ble_eq_true rfl) dX6_init_18 ⟨Nat.le_of_ble_eq_true rfl, Nat.le_of_ble_eq_true rfl⟩ (fun H locs hW hS => ?_)
  refine wd_putR CF hE hW hS hnm (k := 0) (q := 2) fl_X6_18 (x6b_bd.2.1 _ _ (pS_at x6a_st.2.1)) (fun _ => rfl) rfl rfl (fun _ => rfl) (fun _ => rfl) dX6_init_21 (fun H locs hW hS => ?_)
  have hW : Wd X x6b dz H := hW
  refine lv_aload_n hx hb dX6_init_24 rfl (lv_at hl 0 rfl) ?_
  refine wd_newO CF hE hW hS hb0 (by rw [x6b_st.1]; omega) 3 (by decide) tw42 tw43 tw3 (x6b_st.2.2.at x6b_st.1) (Nat.le_of_ble_eq_true rfl) (Nat.le_of_ble_eq_true rfl) dX6_init_25 (fun H hW hS => ?_)
  refine lv_dup hx hb dX6_init_28 rfl ?_
  rw [x6b_st.1]
  refine wd_callIN CF hE hW hS hb0 (by rw [pS_l x6b_st.1]; omega) (n_X3 l X (pS x6b (.inl 3)) dz 4 (pS_l x6b_st.1) (pS_new x6b_st.1) (x6b_st.2.2.p)) mi3 tn44 ⟨rfl, rfl, by decide, by decide⟩ hl.1 rfl (Nat.le_of_ble_eq_true rfl) dX6_init_29 ⟨Nat.le_of_ble_eq_true rfl, Nat.le_of_ble_eq_true rfl⟩ (fun H locs hW hS => ?_)
  refine wd_putR CF hE hW hS hnm (k := 0) (q := 4) fl_X6_25 (x6c_bd.2.1 _ _ (pS_at x6b_st.2.1)) (fun _ => rfl) rfl rfl (fun _ => rfl) (fun _ => rfl) dX6_init_32 (fun H locs hW hS => ?_)
  have hW : Wd X x6c dz H := hW
  refine lv_aload_n hx hb dX6_init_35 rfl (lv_at hl 0 rfl) ?_
  refine wd_newO CF hE hW hS hb0 (by rw [x6c_st.1]; omega) 3 (by decide) tw42 tw43 tw3 (x6c_st.2.2.at x6c_st.1) (Nat.le_of_ble_eq_true rfl) (Nat.le_of_ble_eq_true rfl) dX6_init_36 (fun H hW hS => ?_)
  refine lv_dup hx hb dX6_init_39 rfl ?_
  rw [x6c_st.1]
  refine wd_callIN CF hE hW hS hb0 (by rw [pS_l x6c_st.1]; omega) (n_X3 l X (pS x6c (.inl 3)) dz 13 (pS_l x6c_st.1) (pS_new x6c_st.1) (x6c_st.2.2.p)) mi3 tn44 ⟨rfl, rfl, by decide, by decide⟩ hl.1 rfl (Nat.le_of_ble_eq_true rfl) dX6_init_40 ⟨Nat.le_of_ble_eq_true rfl, Nat.le_of_ble_eq_true rfl⟩ (fun H locs hW hS => ?_)
  refine wd_putR CF hE hW hS hnm (k := 0) (q := 13) fl_X6_29 (x6d_bd.2.1 _ _ (pS_at x6c_st.2.1)) (fun _ => rfl) rfl rfl (fun _ => rfl) (fun _ => rfl) dX6_init_43 (fun H locs hW hS => ?_)
  have hW : Wd X x6d dz H := hW
  refine lv_aload_n hx hb dX6_init_46 rfl (lv_at hl 0 rfl) ?_
  refine lv_iconst (v := 2) hx hb dX6_init_47 (by decide) ?_
  refine wd_newQ2 CF hE hW hS hb0 (by rw [x6d_st.1]; omega) 2 (by decide) (by decide) (by decide) tw42 (x6d_st.2.2.at x6d_st.1) (Nat.le_of_ble_eq_true rfl) (Nat.le_of_ble_eq_true rfl) dX6_init_48 (fun H hW hS => ?_)
  rw [x6d_st.1]
  refine wd_putR CF hE hW hS hnm (k := 0) (q := 22) fl_X6_32 (pS_at x6d_st.2.1) (fun _ => rfl) rfl rfl (fun _ => rfl) (fun _ => rfl) dX6_init_51 (fun H locs hW hS => ?_)
  have hW : Wd X x6e dz H := hW
  refine lv_aload_n hx hb dX6_init_54 rfl (lv_at hl 0 rfl) ?_
  refine wd_newO CF hE hW hS hb0 (by rw [x6e_st.1]; omega) 2 (by decide) tw121 tw122 tw4 (x6e_st.2.2.at x6e_st.1) (Nat.le_of_ble_eq_true rfl) (Nat.le_of_ble_eq_true rfl) dX6_init_55 (fun H hW hS => ?_)
  refine lv_dup hx hb dX6_init_58 rfl ?_
  rw [x6e_st.1]
  refine wd_callI CF hE hW hS hb0 (by rw [pS_l x6e_st.1]; omega) (n_X2 l X (pS x6e (.inl 2)) dz 23 (pS_l x6e_st.1) (pS_new x6e_st.1) (x6e_st.2.2.p)) mi2 tw123 ⟨rfl, rfl, by decide, by decide⟩ hl.1 rfl (Nat.le_of_ble_eq_true rfl) dX6_init_59 ⟨Nat.le_of_ble_eq_true rfl, Nat.le_of_ble_eq_true rfl⟩ (fun H locs hW hS => ?_)
  refine wd_putR CF hE hW hS hnm (k := 0) (q := 23) fl_X6_39 (x6f_bd.2.1 _ _ (pS_at x6e_st.2.1)) (fun _ => rfl) rfl rfl (fun _ => rfl) (fun _ => rfl) dX6_init_62 (fun H locs hW hS => ?_)
  have hW : Wd X x6f dz H := hW
  refine lv_aload_n hx hb dX6_init_65 rfl (lv_at hl 0 rfl) ?_
  refine wd_newO CF hE hW hS hb0 (by rw [x6f_st.1]; omega) 1 (by decide) tw140 tw141 tw5 (x6f_st.2.2.at x6f_st.1) (Nat.le_of_ble_eq_true rfl) (Nat.le_of_ble_eq_true rfl) dX6_init_66 (fun H hW hS => ?_)
  refine lv_dup hx hb dX6_init_69 rfl ?_
  rw [x6f_st.1]
  refine wd_callI CF hE hW hS hb0 (by rw [pS_l x6f_st.1]; omega) (n_X1 l X (pS x6f (.inl 1)) dz 241 (pS_l x6f_st.1) (pS_new x6f_st.1) (x6f_st.2.2.p)) mi1 tw142 ⟨rfl, rfl, by decide, by decide⟩ hl.1 rfl (Nat.le_of_ble_eq_true rfl) dX6_init_70 ⟨Nat.le_of_ble_eq_true rfl, Nat.le_of_ble_eq_true rfl⟩ (fun H locs hW hS => ?_)
  refine wd_putR CF hE hW hS hnm (k := 0) (q := 241) fl_X6_46 (x6g_bd.2.1 _ _ (pS_at x6f_st.2.1)) (fun _ => rfl) rfl rfl (fun _ => rfl) (fun _ => rfl) dX6_init_73 (fun H locs hW hS => ?_)
  have hW : Wd X x6g dz H := hW
  refine lv_aload_n hx hb dX6_init_76 rfl (lv_at hl 0 rfl) ?_
  refine wd_newO CF hE hW hS hb0 (by rw [x6g_st.1]; omega) 0 (by decide) tw178 tw179 tw6 (x6g_st.2.2.at x6g_st.1) (Nat.le_of_ble_eq_true rfl) (Nat.le_of_ble_eq_true rfl) dX6_init_77 (fun H hW hS => ?_)
  refine lv_dup hx hb dX6_init_80 rfl ?_
  rw [x6g_st.1]
  refine wd_callIN CF hE hW hS hb0 (by rw [pS_l x6g_st.1]; omega) (n_X0 l X (pS x6g (.inl 0)) dz 334 (pS_l x6g_st.1) (pS_new x6g_st.1) (x6g_st.2.2.p)) mi0 tn180 ⟨rfl, rfl, by decide, by decide⟩ hl.1 rfl (Nat.le_of_ble_eq_true rfl) dX6_init_81 ⟨Nat.le_of_ble_eq_true rfl, Nat.le_of_ble_eq_true rfl⟩ (fun H locs hW hS => ?_)
  refine wd_putR CF hE hW hS hnm (k := 0) (q := 334) fl_X6_53 (x6h_bd.2.1 _ _ (pS_at x6g_st.2.1)) (fun _ => rfl) rfl rfl (fun _ => rfl) (fun _ => rfl) dX6_init_84 (fun H locs hW hS => ?_)
  have hW : Wd X x6h dz H := hW
  refine lv_iconst (v := 0) hx hb dX6_init_87 (by decide) ?_
  refine lv_istore_n (lv' := [(1, .int 0), (0, .ref (X.2.2.1 + 0))]) hx hb dX6_init_88 rfl hl (by decide) rfl (fun ls hl => ?_)
  exact W.rc (by decide) (by decide) (hR 8 0 _ _ _ (by omega) hW hS (lv_sub hl [1, 0] rfl))
