/-! THE CLAIM OUT OF ONE WALK OF THE LAW'S BODY. Your part is whole_start (and what it stands on); all else here is the same for every law, but numbers. -/
def R_law : String := "AsleepCotsLaw"
def lw_P (b : Addr) (xs : List Int32) (args : Array Value) (s : State) : Prop := args = #[.ref b] ∧ s.IntsAt b xs ∧ xs.length ≤ 384 ∧ (Jvm.Cond.and given_1 narrow_1).before args s = true
def lw_Q (_ : Array Value) (s : State) (o : Outcome) (t : State) : Prop := o = .returned (some (.int 1)) ∧ Framed s o t [] 600000 7302250
def lw_Z (below : List Frame) (a : Array Value) (s : State) : State → Prop := fun t => ∃ o, t.status = .running ∧ Ended t below o ∧ lw_Q a s o t
/-- the law's own end, with 1 on the stack, nothing written that was there before, its room as the claim has it -/
theorem lw_ret {p : Program} {l : Launch} {e : Env} {s : State} {m : MethodId} {below : List Frame} {meth : Method} {c : Code} {b : Nat} (hx : p.tables.exec = Jvm.exec) (hb : c.code = code) (hr : meth.sig.returnType = ret) (hlocks : meth.locks = false) {pc : Nat} {H : Heap} {ls : Array Slot} (hdg : decode code pc = .ok (.ireturn, 1)) : W p l e room_1 s m #[Value.ref b] below meth c H [] 600000 7302250 (lw_Z below #[Value.ref b] s) (F0 m pc ls [.int 1]) := by
  intro T hT X
  obtain ⟨fs, hret, hrun, hended, hW, hframe⟩ := X.leave (v := some (.int 1)) (hlocks := hlocks) (fun h => by rw [hr] at h; cases h)
  have hmeth' : T.vm.method? m = some meth := X.method'
  refine ⟨T.setFrames fs, ?_, .returned (some (.int 1)), hrun, hended, rfl, ⟨_, rfl⟩, hW, hframe⟩
  jvm_step X.here [X.here.top, hx, hb, hdg, hmeth', hr, ret, narrow_b1]
  (try refine ⟨rfl, ?_⟩); (try refine ⟨rfl, ?_⟩)
  first | (intro acts; rw [hret _ acts rfl rfl rfl]) | rw [hret _ _ rfl rfl rfl]
  exact Steps.refl _
/-- what holds at the law's entry: the machine, the code, the tables' words (any of lw_tbl by 'hts w (by decide +kernel)'), the script of L ints xs at the cell b, what the Statement gives of the start (any of its parts by flat_of_before) -/
def lw_At (p : Program) (s : State) (m : MethodId) (meth : Method) (c : Code) (b L : Nat) (xs : Nat → Int32) : Prop :=
  p.tables.exec = Jvm.exec ∧ c.code = code ∧ meth.sig.returnType = ret ∧ c.maxLocals = 4 ∧ s.vm.findClass R_law = some m.cls ∧ (∀ w ∈ lw_tbl, w.before #[Value.ref b] s = true) ∧ va_X b L xs s s.heap ∧ b < s.heap.size ∧ meth.locks = false ∧ (Jvm.Cond.and given_1 narrow_1).before #[Value.ref b] s = true
theorem hd_gt {i L : Nat} (hi : i ≤ 384) (hL : L ≤ 384) : Int32.ofNat L - 6 < nI i ↔ L < i + 6 := by
  have h1 : (Int32.ofNat L - 6).toInt = (L : Int) - 6 := by
    rw [Int32.toInt_sub, show (Int32.ofNat L).toInt = (L : Int) from nI_toInt (by omega), show (6 : Int32).toInt = 6 from rfl]
    apply Int.bmod_eq_of_le <;> omega
  rw [Int32.lt_iff_toInt_lt, h1, nI_toInt (by omega)]
  omega
theorem and63 (x : Int32) : ∃ n, n < 64 ∧ x &&& 63 = nI n := by
  refine ⟨(x &&& 63).toBitVec.toNat, ?_, ?_⟩
  · show (x.toBitVec &&& 63#32).toNat < 64
    rw [BitVec.toNat_and]
    exact Nat.and_lt_two_pow _ (by decide : (63#32).toNat < 2 ^ 6)
  · apply Int32.toBitVec_inj.mp
    show _ = BitVec.ofNat 32 _
    simp
/-- the law's loop -/
theorem law_loop {p : Program} {l : Launch} {e : Env} {s : State} {m : MethodId} {below : List Frame} {meth : Method} {c : Code} {X : wd_X} {b L : Nat} {xs : Nat → Int32} (C : lw_C p s m c X b L xs) (hbase : X.2.2.1 = s.heap.size) (hr : meth.sig.returnType = ret) (hlocks : meth.locks = false) {cells slots : Nat} (hc : cells ≤ 600000 ∧ slots ≤ 7302250) :
    ∀ (n i : Nat) (D : wd_D) (H : Heap) (locs : List Loc) (ls : Array Slot), i ≤ L → L ≤ i + n → Inv D → Wd X S0 D H → va_S (wd_A X) s.heap H locs → lw_Ls ls b X.2.2.1 i → W p l e room_1 s m #[Value.ref b] below meth c H locs cells slots (lw_Z below #[Value.ref b] s) (F0 m 18 ls []) := by
  have CF := C.1
  have hx := CF.1
  have hb := CF.2.1
  have hX := C.2.2.1
  have hbl := C.2.2.2.1
  have hbA := C.2.2.2.2.1
  have hL := C.2.2.2.2.2
  intro n
  induction n with
  | zero =>
    intro i D H locs ls h1 h2 hI hW hS hl
    have hl4 : lv_has ls 4 [(0, .ref b), (1, .ref (X.2.2.1 + 0)), (2, .ref (X.2.2.1 + 370)), (3, .int (nI i))] := hl
    refine lv_iload_n hx hb dL_law_18 rfl (lv_at hl4 3 rfl) ?_
    refine lv_aload_n hx hb dL_law_19 rfl (lv_at hl4 0 rfl) ?_
    refine va_slen hx hb hX hbl hbA hS dL_law_20 ?_
    refine lv_bipush (v := 6) hx hb dL_law_21 (by decide) ?_
    refine lv_isub hx hb dL_law_23 ?_
    refine lv_icmp_gt (tgt := 1348) hx hb dL_law_24 (by decide) (fun cc => ?_) (fun cc => ?_)
    · refine lv_iconst (v := 1) hx hb dL_law_1348 (by decide) ?_
      refine va_forget (fun q hq => by rw [← hbase]; exact hS.2.2 q hq) ?_
      refine W.widen (k := 600000) (n := 7302250) hc.1 hc.2 ?_
      exact lw_ret hx hb hr hlocks dL_law_1349
    · exact absurd ((hd_gt (by omega) hL).mpr (by omega)) cc
  | succ n ih =>
    intro i D H locs ls h1 h2 hI hW hS hl
    have hl4 : lv_has ls 4 [(0, .ref b), (1, .ref (X.2.2.1 + 0)), (2, .ref (X.2.2.1 + 370)), (3, .int (nI i))] := hl
    refine lv_iload_n hx hb dL_law_18 rfl (lv_at hl4 3 rfl) ?_
    refine lv_aload_n hx hb dL_law_19 rfl (lv_at hl4 0 rfl) ?_
    refine va_slen hx hb hX hbl hbA hS dL_law_20 ?_
    refine lv_bipush (v := 6) hx hb dL_law_21 (by decide) ?_
    refine lv_isub hx hb dL_law_23 ?_
    refine lv_icmp_gt (tgt := 1348) hx hb dL_law_24 (by decide) (fun cc => ?_) (fun cc => ?_)
    · refine lv_iconst (v := 1) hx hb dL_law_1348 (by decide) ?_
      refine va_forget (fun q hq => by rw [← hbase]; exact hS.2.2 q hq) ?_
      refine W.widen (k := 600000) (n := 7302250) hc.1 hc.2 ?_
      exact lw_ret hx hb hr hlocks dL_law_1349
    · have hi : i + 5 < L := by
        rcases Nat.lt_or_ge L (i + 6) with z | z
        · exact absurd ((hd_gt (by omega) hL).mpr z) cc
        · omega
      have kk : lw_N p l e s m below meth c cells slots (lw_Z below #[Value.ref b] s) ls X b := by
        intro D2 H2 locs2 hI2 hW2 hS2
        obtain ⟨x1, ex1⟩ : ∃ y : Int32, y = nI i + 6 := ⟨_, rfl⟩
        refine lv_iinc (v := x1) (lv' := [(3, .int x1), (0, .ref b), (1, .ref (X.2.2.1 + 0)), (2, .ref (X.2.2.1 + 370))]) hx hb dL_law_1342 hl4 (k := 3) rfl (by rw [ex1]; rfl) (by decide) rfl (fun ls hl => ?_)
        refine lv_goto (tgt := 18) hx hb dL_law_1345 (by decide) ?_
        rw [ex1, show nI i + 6 = nI (i + 6) from nI_add i 6] at hl
        exact ih (i + 6) D2 H2 locs2 ls (by omega) (by omega) hI2 hW2 hS2 (lv_sub hl [1, 2, 3, 0] rfl)
      refine lv_aload_n hx hb dL_law_27 rfl (lv_at hl4 0 rfl) ?_
      refine lv_iload_n hx hb dL_law_28 rfl (lv_at hl4 3 rfl) ?_
      refine va_sld hx hb hX hbl hbA hS (sc_in (n := i) (by omega) hL).1 dL_law_29 ?_
      refine lv_bipush (v := 63) hx hb dL_law_30 (by decide) ?_
      refine lv_iand hx hb dL_law_32 ?_
      obtain ⟨t, ht, et⟩ := and63 (xs (nI i).toNatClampNeg)
      rw [et]
      rcases Nat.lt_or_ge t 39 with h39 | h39
      · rcases (show t = 0 ∨ t = 1 ∨ t = 2 ∨ t = 3 ∨ t = 4 ∨ t = 5 ∨ t = 6 ∨ t = 7 ∨ t = 8 ∨ t = 9 ∨ t = 10 ∨ t = 11 ∨ t = 12 ∨ t = 13 ∨ t = 14 ∨ t = 15 ∨ t = 16 ∨ t = 17 ∨ t = 18 ∨ t = 19 ∨ t = 20 ∨ t = 21 ∨ t = 22 ∨ t = 23 ∨ t = 24 ∨ t = 25 ∨ t = 26 ∨ t = 27 ∨ t = 28 ∨ t = 29 ∨ t = 30 ∨ t = 31 ∨ t = 32 ∨ t = 33 ∨ t = 34 ∨ t = 35 ∨ t = 36 ∨ t = 37 ∨ t = 38 by omega) with rfl | rfl | rfl | rfl | rfl | rfl | rfl | rfl | rfl | rfl | rfl | rfl | rfl | rfl | rfl | rfl | rfl | rfl | rfl | rfl | rfl | rfl | rfl | rfl | rfl | rfl | rfl | rfl | rfl | rfl | rfl | rfl | rfl | rfl | rfl | rfl | rfl | rfl | rfl
        · exact lv_tableIn (off := 171) (tgt := 204) hx hb dL_law_33 (by decide) (by decide) (by decide +kernel) (by decide) (arm_0 C hc hI hW hS hi hl kk)
        · exact lv_tableIn (off := 214) (tgt := 247) hx hb dL_law_33 (by decide) (by decide) (by decide +kernel) (by decide) (arm_1 C hc hI hW hS hi hl kk)
        · exact lv_tableIn (off := 257) (tgt := 290) hx hb dL_law_33 (by decide) (by decide) (by decide +kernel) (by decide) (arm_2 C hc hI hW hS hi hl kk)
        · exact lv_tableIn (off := 320) (tgt := 353) hx hb dL_law_33 (by decide) (by decide) (by decide +kernel) (by decide) (arm_3 C hc hI hW hS hi hl kk)
        · exact lv_tableIn (off := 343) (tgt := 376) hx hb dL_law_33 (by decide) (by decide) (by decide +kernel) (by decide) (arm_4 C hc hI hW hS hi hl kk)
        · exact lv_tableIn (off := 366) (tgt := 399) hx hb dL_law_33 (by decide) (by decide) (by decide +kernel) (by decide) (arm_5 C hc hI hW hS hi hl kk)
        · exact lv_tableIn (off := 379) (tgt := 412) hx hb dL_law_33 (by decide) (by decide) (by decide +kernel) (by decide) (arm_6 C hc hI hW hS hi hl kk)
        · exact lv_tableIn (off := 392) (tgt := 425) hx hb dL_law_33 (by decide) (by decide) (by decide +kernel) (by decide) (arm_7 C hc hI hW hS hi hl kk)
        · exact lv_tableIn (off := 405) (tgt := 438) hx hb dL_law_33 (by decide) (by decide) (by decide +kernel) (by decide) (arm_8 C hc hI hW hS hi hl kk)
        · exact lv_tableIn (off := 428) (tgt := 461) hx hb dL_law_33 (by decide) (by decide) (by decide +kernel) (by decide) (arm_9 C hc hI hW hS hi hl kk)
        · exact lv_tableIn (off := 461) (tgt := 494) hx hb dL_law_33 (by decide) (by decide) (by decide +kernel) (by decide) (arm_10 C hc hI hW hS hi hl kk)
        · exact lv_tableIn (off := 494) (tgt := 527) hx hb dL_law_33 (by decide) (by decide) (by decide +kernel) (by decide) (arm_11 C hc hI hW hS hi hl kk)
        · exact lv_tableIn (off := 527) (tgt := 560) hx hb dL_law_33 (by decide) (by decide) (by decide +kernel) (by decide) (arm_12 C hc hI hW hS hi hl kk)
        · exact lv_tableIn (off := 550) (tgt := 583) hx hb dL_law_33 (by decide) (by decide) (by decide +kernel) (by decide) (arm_13 C hc hI hW hS hi hl kk)
        · exact lv_tableIn (off := 583) (tgt := 616) hx hb dL_law_33 (by decide) (by decide) (by decide +kernel) (by decide) (arm_14 C hc hI hW hS hi hl kk)
        · exact lv_tableIn (off := 616) (tgt := 649) hx hb dL_law_33 (by decide) (by decide) (by decide +kernel) (by decide) (arm_15 C hc hI hW hS hi hl kk)
        · exact lv_tableIn (off := 639) (tgt := 672) hx hb dL_law_33 (by decide) (by decide) (by decide +kernel) (by decide) (arm_16 C hc hI hW hS hi hl kk)
        · exact lv_tableIn (off := 672) (tgt := 705) hx hb dL_law_33 (by decide) (by decide) (by decide +kernel) (by decide) (arm_17 C hc hI hW hS hi hl kk)
        · exact lv_tableIn (off := 705) (tgt := 738) hx hb dL_law_33 (by decide) (by decide) (by decide +kernel) (by decide) (arm_18 C hc hI hW hS hi hl kk)
        · exact lv_tableIn (off := 728) (tgt := 761) hx hb dL_law_33 (by decide) (by decide) (by decide +kernel) (by decide) (arm_19 C hc hI hW hS hi hl kk)
        · exact lv_tableIn (off := 741) (tgt := 774) hx hb dL_law_33 (by decide) (by decide) (by decide +kernel) (by decide) (arm_20 C hc hI hW hS hi hl kk)
        · exact lv_tableIn (off := 764) (tgt := 797) hx hb dL_law_33 (by decide) (by decide) (by decide +kernel) (by decide) (arm_21 C hc hI hW hS hi hl kk)
        · exact lv_tableIn (off := 797) (tgt := 830) hx hb dL_law_33 (by decide) (by decide) (by decide +kernel) (by decide) (arm_22 C hc hI hW hS hi hl kk)
        · exact lv_tableIn (off := 830) (tgt := 863) hx hb dL_law_33 (by decide) (by decide) (by decide +kernel) (by decide) (arm_23 C hc hI hW hS hi hl kk)
        · exact lv_tableIn (off := 863) (tgt := 896) hx hb dL_law_33 (by decide) (by decide) (by decide +kernel) (by decide) (arm_24 C hc hI hW hS hi hl kk)
        · exact lv_tableIn (off := 876) (tgt := 909) hx hb dL_law_33 (by decide) (by decide) (by decide +kernel) (by decide) (arm_25 C hc hI hW hS hi hl kk)
        · exact lv_tableIn (off := 899) (tgt := 932) hx hb dL_law_33 (by decide) (by decide) (by decide +kernel) (by decide) (arm_26 C hc hI hW hS hi hl kk)
        · exact lv_tableIn (off := 912) (tgt := 945) hx hb dL_law_33 (by decide) (by decide) (by decide +kernel) (by decide) (arm_27 C hc hI hW hS hi hl kk)
        · exact lv_tableIn (off := 975) (tgt := 1008) hx hb dL_law_33 (by decide) (by decide) (by decide +kernel) (by decide) (arm_28 C hc hI hW hS hi hl kk)
        · exact lv_tableIn (off := 1018) (tgt := 1051) hx hb dL_law_33 (by decide) (by decide) (by decide +kernel) (by decide) (arm_29 C hc hI hW hS hi hl kk)
        · exact lv_tableIn (off := 1072) (tgt := 1105) hx hb dL_law_33 (by decide) (by decide) (by decide +kernel) (by decide) (arm_30 C hc hI hW hS hi hl kk)
        · exact lv_tableIn (off := 1115) (tgt := 1148) hx hb dL_law_33 (by decide) (by decide) (by decide +kernel) (by decide) (arm_31 C hc hI hW hS hi hl kk)
        · exact lv_tableIn (off := 1138) (tgt := 1171) hx hb dL_law_33 (by decide) (by decide) (by decide +kernel) (by decide) (arm_32 C hc hI hW hS hi hl kk)
        · exact lv_tableIn (off := 1161) (tgt := 1194) hx hb dL_law_33 (by decide) (by decide) (by decide +kernel) (by decide) (arm_33 C hc hI hW hS hi hl kk)
        · exact lv_tableIn (off := 1184) (tgt := 1217) hx hb dL_law_33 (by decide) (by decide) (by decide +kernel) (by decide) (arm_34 C hc hI hW hS hi hl kk)
        · exact lv_tableIn (off := 1217) (tgt := 1250) hx hb dL_law_33 (by decide) (by decide) (by decide +kernel) (by decide) (arm_35 C hc hI hW hS hi hl kk)
        · exact lv_tableIn (off := 1250) (tgt := 1283) hx hb dL_law_33 (by decide) (by decide) (by decide +kernel) (by decide) (arm_36 C hc hI hW hS hi hl kk)
        · exact lv_tableIn (off := 1273) (tgt := 1306) hx hb dL_law_33 (by decide) (by decide) (by decide +kernel) (by decide) (arm_37 C hc hI hW hS hi hl kk)
        · exact lv_tableIn (off := 1296) (tgt := 1329) hx hb dL_law_33 (by decide) (by decide) (by decide +kernel) (by decide) (arm_38 C hc hI hW hS hi hl kk)
      · exact lv_tableOut (tgt := 1342) hx hb dL_law_33 (Or.inr (by rw [nI_toInt (by omega)]; omega)) (by decide) (kk D H locs hI hW hS)
set_option maxHeartbeats 4000000 in
theorem whole_start {p : Program} {e : Env} {s : State} {m : MethodId} {below : List Frame} {meth : Method} {c : Code} (l : Launch) {b L : Nat} {xs : Nat → Int32} (hL : L ≤ 384) (C0 : lw_At p s m meth c b L xs) : W p l e room_1 s m #[Value.ref b] below meth c s.heap [] 0 0 (lw_Z below #[Value.ref b] s) (entryFrame m ([Value.ref b] : List Value).toArray 4) := by
  obtain ⟨hx, hb, hr, hml, hown, hts, hX, hbl, hlocks, hgv⟩ := C0
  obtain ⟨X, hbase, hE⟩ := en_start hts hgv
  have CF : CallFix p m c cL_law 4 s #[Value.ref b] tg "AsleepCotsLaw" := ⟨hx, hb, hml, hown, fun w h => hts w (List.mem_filter.mp h).1⟩
  have hbA : ¬ wd_A X b := by
    show ¬ X.2.2.1 ≤ b
    omega
  have hb0 : X.2.2.1 ≤ s.heap.size := Nat.le_of_eq hbase
  have hl := lv_entry ([.ref b]) (n := 4) (Nat.le_of_ble_eq_true rfl)
  rw [lg_entry_eq]
  generalize (lg_sl ([.ref b]) ++ List.replicate (4 - (lg_sl ([.ref b])).length) Slot.unset).toArray = ls at hl ⊢
  have hl : lv_has ls 4 [(0, .ref b)] := hl
  have hW : Wd X ([], fun _ _ => none) dz s.heap := fun k q h => by simp [wd_W] at h
  have hS : va_S (wd_A X) s.heap s.heap [] := va_S.rf
  refine wd_newO CF hE hW hS hb0 (show s.heap.size + 0 ≤ X.2.2.1 + 0 by omega) 6 (by decide) tw12 tw13 tw1 (fun j => ⟨rfl, rfl, rfl⟩) (Nat.le_of_ble_eq_true rfl) (Nat.le_of_ble_eq_true rfl) dL_law_0 (fun H hW hS => ?_)
  have hW : Wd X x6s dz H := hW
  refine lv_dup hx hb dL_law_3 rfl ?_
  refine wd_callI CF hE hW hS hb0 (show s.heap.size + (0 + 1) ≤ X.2.2.1 + 1 by omega) (n_X6 l X) mi6 tw14 ⟨rfl, rfl, Nat.le_of_ble_eq_true rfl, Nat.le_of_ble_eq_true rfl⟩ hl.1 rfl (Nat.le_of_ble_eq_true rfl) dL_law_4 ⟨Nat.le_of_ble_eq_true rfl, Nat.le_of_ble_eq_true rfl⟩ (fun H locs hW hS => ?_)
  refine lv_astore_n (lv' := [(1, .ref (X.2.2.1 + 0)), (0, .ref b)]) hx hb dL_law_7 rfl hl (by decide) rfl (fun ls hl => ?_)
  refine wd_newO CF hE hW hS hb0 (by rw [x6j_l]; omega) 7 (by decide) tw748 tw749 tw8 (x6j_z.at x6j_l) (Nat.le_of_ble_eq_true rfl) (Nat.le_of_ble_eq_true rfl) dL_law_8 (fun H hW hS => ?_)
  refine lv_dup hx hb dL_law_11 rfl ?_
  rw [x6j_l]
  refine wd_callI CF hE hW hS hb0 (by rw [pS_l x6j_l]; omega) (n_X7 l X (pS x6j (.inl 7)) x6D 370 (pS_l x6j_l) (pS_new x6j_l) (x6j_z.p)) mi7 tw750 ⟨rfl, rfl, Nat.le_of_ble_eq_true rfl, Nat.le_of_ble_eq_true rfl⟩ hl.1 rfl (Nat.le_of_ble_eq_true rfl) dL_law_12 ⟨Nat.le_of_ble_eq_true rfl, Nat.le_of_ble_eq_true rfl⟩ (fun H locs hW hS => ?_)
  have hW : Wd X S0 D0 H := by rw [← x7_S0]; exact hW
  refine lv_astore_n (lv' := [(2, .ref (X.2.2.1 + 370)), (1, .ref (X.2.2.1 + 0)), (0, .ref b)]) hx hb dL_law_15 rfl hl (by decide) rfl (fun ls hl => ?_)
  refine lv_iconst (v := 0) hx hb dL_law_16 (by decide) ?_
  refine lv_istore_n (lv' := [(3, .int 0), (2, .ref (X.2.2.1 + 370)), (1, .ref (X.2.2.1 + 0)), (0, .ref b)]) hx hb dL_law_17 rfl hl (by decide) rfl (fun ls hl => ?_)
  refine W.widen (k := 381) (n := 4929) (Nat.le_of_ble_eq_true rfl) (Nat.le_of_ble_eq_true rfl) ?_
  exact law_loop ⟨CF, hE, hX, hbl, hbA, hL⟩ hbase hr hlocks ⟨by decide, by decide⟩ L 0 D0 H locs ls (by omega) (by omega) D0_Inv hW hS (lv_sub hl [3, 2, 1, 0] rfl)
set_option maxHeartbeats 4000000 in
theorem lw_walk (l : Launch) (b : Addr) (xs : List Int32) : MetFree l x (headSpec (Jvm.Cond.code x code maxLocals ret :: tables_1) room_1) (lw_P b xs) (fun _ _ _ _ _ => True) lw_Q := by
  refine MetFree.of_bodyS (code := code) (maxLocals := maxLocals) (ret := ret) (by decide) ?_ ?_
  · intro args s m h hn
    obtain ⟨meth, c, h1, h2, h3, h4, h5, h6, -, -⟩ := Cond.code_spec hn (atoms_spec (ws := Jvm.Cond.code x code maxLocals ret :: tables_1) h _ List.mem_cons_self)
    exact ⟨meth, c, h1, h2, h3, h4, h5, h6⟩
  · intro p e s m args below meth c s₁ B hml0 hP _
    obtain ⟨rfl, hx, hbd, hgv⟩ := hP
    obtain ⟨scr, harrAt, hlist, hof, hsmall⟩ := hx
    obtain ⟨hcb, hkn, -, -⟩ := State.arrayAt?_spec harrAt
    have hown : s.vm.findClass R_law = some m.cls := findClass_of_methodNamed B.named
    have hts0 : ∀ c ∈ (Jvm.Cond.code x code maxLocals ret :: tables_1), c.before #[Value.ref b] s = true := atoms_spec (ws := Jvm.Cond.code x code maxLocals ret :: tables_1) B.pre
    have hts : ∀ w ∈ lw_tbl, w.before #[Value.ref b] s = true := k2_hts_sels lw_privs (fun w hw => hts0 w (List.mem_cons_of_mem _ hw)) lw_privs_ok
    have hml : c.maxLocals = 4 := B.maxLocals_eq (hts0 _ List.mem_cons_self)
    have X₀ : Stand p l e room_1 s m #[Value.ref b] below meth c s₁ [] 0 0 := Stand.of_body B
    have hh0 : s₁.heap = s.heap := by rw [B.state]; rfl
    have hsz : scr.slots.size = xs.length := by rw [← Array.length_toList, hlist, List.length_map]
    have hval : ∀ j : Nat, j < xs.length → scr.slots[j]? = some (.int (xs.getD j 0)) := fun j hj => by
      rw [← Array.getElem?_toList, hlist]
      simp [hj]
    have hbl : b < s.heap.size := (Array.getElem?_eq_some_iff.mp hcb).1
    have hX : va_X b xs.length (fun j => xs.getD j 0) s s.heap := ⟨scr, hcb, hof, hkn, hsz, hval⟩
    have K : W p l e room_1 s m #[Value.ref b] below meth c s₁.heap [] 0 0 (lw_Z below #[Value.ref b] s) (entryFrame m ([Value.ref b] : List Value).toArray 4) := by
      rw [hh0]
      exact whole_start l hbd ⟨B.exec, B.bytes, B.returns, hml, hown, hts, hX, hbl, B.notSynchronized, hgv⟩
    obtain ⟨t, a1, o, b1, b2, b3⟩ := K s₁ rfl X₀
    exact ⟨t, o, a1, b1, b2, b3⟩
theorem lw_pre_spec {args : Array Value} {s : State} (h : (Jvm.Cond.and given_1 narrow_1).before args s = true) (hr : rest_1_c.before args s = true) : ∃ (b : Addr) (xs : List Int32), lw_P b xs args s := by
  have hs := flat_of_before _ h
  have hq := flat_of_before _ hr
  have hc : (Cond.count 1).before args s = true := hs _ (by decide +kernel)
  have harr : (Cond.arrayOf (.arg 0) .int).before args s = true := hs _ (by decide +kernel)
  have hle : (Cond.le (.length (.arg 0)) (.int 384)).before args s = true := hs _ (by decide +kernel)
  have hlen : (Cond.isInt (.length (.arg 0))).before args s = true := hq _ (by decide +kernel)
  have hall : (Cond.all (.arg 0) (.isInt (.elem (.arg 0) (.index 0)))).before args s = true := hq _ (by decide +kernel)
  obtain ⟨b, xs, hb, hx⟩ := State.ints_of_pre rfl harr hlen hall
  have hsm : xs.length < 2 ^ 31 := hx.choose_spec.2.2.2
  have hev : (Term.length (.arg 0)).eval args s none [] s = some (.int xs.length.toInt32) := hx.length_eval hb
  have hv := Cond.le_ints hev (show (Term.int 384).eval args s none [] s = some (.int 384) from rfl)
  have hd : xs.length.toInt32 ≤ 384 := by
    simpa [Cond.before, Cond.holds, hv] using hle
  have hN : xs.length ≤ 384 := (Int32.ofNat_le_ofNat hsm (by decide)).mp (show Int32.ofNat xs.length ≤ Int32.ofNat 384 from hd)
  exact ⟨b, xs, Cond.one_arg hc (show args[0]? = some (.ref b) from hb), hx, hN, h⟩
theorem lw_comes (l : Launch) : Comes l x (Jvm.Cond.code x code maxLocals ret :: tables_1) room_1 (fun tb e args s => Calls_1 tb e args s ∧ rest_1 tb e args s ∧ Pre_1 tb e args s)
    (fun _ _ args s o t => lw_Q args s o t) := by
  intro p e ha hc hk s m args below hf hfit hheap happ hpre
  obtain ⟨b, xs, hP⟩ := lw_pre_spec hpre.2.2 hpre.2.1
  obtain ⟨k, o, h1, h2, h3, hQ⟩ := lw_walk l b xs p e ha hc hk s m args below hf ((Spec.applies_iff_loose hf).mp happ).1 hP trivial
  exact ⟨k, o, h1, h2, h3, hQ⟩
theorem lw_frame {s t : State} {o : Outcome} {args : Array Value} (h : Framed s o t [] 600000 7302250) :
    Framed s o t (fieldLocs frame_1_writes args s ++ arrayLocs frame_1_arrays args s ++ staticLocs frame_1_statics s) 600000 7302250 := h
theorem lw_limb (L : Cond) (hL : ∀ (args : Array Value) (s t : State), L.after args s (.returned (some (.int 1))) t = true) :
    ArmFor flags0 classFile x code maxLocals ret World_1 tables_1 room_1 Calls_1 rest_1 Pre_1
      (fun tb e a s o t => postC L tb e a s o t ∧ Framed s o t (fieldLocs frame_1_writes a s ++ arrayLocs frame_1_arrays a s ++ staticLocs frame_1_statics s) 600000 7302250) := by
  intro l _ _ _ p e ha hc hk s m args below hf hfit hheap happ hpre
  obtain ⟨k, o, h1, h2, h3, rfl, hF⟩ := lw_comes l p e ha hc hk s m args below hf hfit hheap happ hpre
  exact ⟨k, _, h1, h2, h3, hL args s _, lw_frame hF⟩
theorem i_vc : Claimed_1_1 ∧ Claimed_1_2 := ⟨lw_limb limb_1_1 (fun args s t => by simp [limb_1_1, Cond.after, Cond.holds, Cond.value]), lw_limb limb_1_2 (fun args s t => Cond.after_iff.mpr (by
  first | (rw [show limb_1_2 = Cond.eq .result (.int 1) from rfl, Cond.eq_ints (x := 1) (y := 1) rfl rfl]; simp; done) | (simp [limb_1_2, Cond.value, Term.eval]; done)))⟩
