/-! calls, entries, ends; arraycopy -/
def wd_Q (X : wd_X) (S : wd_S) (D : wd_D) (r : Option Value) : Array Value → State → Outcome → State → Prop := fun _ st oc t => oc = .returned r ∧ Wd X S D t.heap ∧ va_F (wd_A X) st t
abbrev wd_Pc (X : wd_X) (S : wd_S) (D : wd_D) (av : List Value) : Array Value → State → Prop := va_Pc av (fun U => Wd X S D U.heap ∧ wd_Env X U)
def wd_Met (l : Launch) (X : wd_X) (y : MethodName) (bytes : ByteArray) (maxL : Nat) (ret : Option FieldType) (rm : Room) (S S' : wd_S) (av : List Value) (D D' : wd_D) (r : Option Value) (mc ms : Nat) : Prop := Met l y (Cond.code y bytes maxL ret :: tg) rm (wd_Pc X S D av) (wd_Q X S' D' r) mc ms (wd_A X)
def wd_M (y : MethodName) (bytes : ByteArray) (maxL : Nat) (ret : Option FieldType) (n : Nat) : Prop := Cond.code y bytes maxL ret ∈ tg ∧ Cond.initialized y.cls ∈ tg ∧ y.cls ≠ "java/lang/invoke/MethodHandle" ∧ y.cls ≠ "java/lang/invoke/VarHandle" ∧ (parseMethodDescriptor y.desc).map (fun d => d.parameters.length) = some n
theorem wd_Sta.warm {X : wd_X} {s U : State} {H : Heap} {locs : List Loc} (h : wd_Sta X s s.heap) (hS : va_S (wd_A X) s.heap H locs) (hv : s.vm.Alike U.vm) : wd_Sta X U H := fun k hk => ⟨((h k hk).1.kept (fun a h1 h2 => hS.2.1 a h1 h2)).moved hv, ((h k hk).2.kept (fun a h1 h2 => hS.2.1 a h1 h2)).moved hv⟩
theorem wd_Env.warm {X : wd_X} {s U : State} {H : Heap} {locs : List Loc} (h : wd_Env X s) (hS : va_S (wd_A X) s.heap H locs) (hU : U.heap = H) (hv : s.WarmedH U.vm) : wd_Env X U := by
  obtain ⟨h1, h2, h3, h4, h5⟩ := h
  refine ⟨va_K.moved hv.alike h1, fun w hw => ⟨fun a i y h e => ?_, fun a i b n d h e => ?_⟩, h3.moved hv.alike, h4.moved hv.alike, by rw [hU]; exact h5.warm hS hv.alike⟩
  · have h9 := (h2 w hw).1 a i y h e
    subst e
    exact va_Nw.warmM hv h9
  · have h9 := (h2 w hw).2 a i b n d h e
    subst e
    exact va_Nw.warmF hv h9
theorem wd_Env.blind {X : wd_X} {U : State} {g : JFrame} {mk : MethodId} {a : Array Value} (h : wd_Env X U) : wd_Env X (U.calling g mk a) := by
  obtain ⟨h1, h2, h3, h4, h5⟩ := h
  have hv : U.vm.Alike (U.calling g mk a).vm := Vm.Alike.refl U.vm
  refine ⟨va_K.moved hv h1, fun w hw => ⟨fun a' i y h e => ?_, fun a' i b n d h e => ?_⟩, h3.moved hv, h4.moved hv, h5.warm (H := U.heap) va_S.rf hv⟩
  · have h9 := (h2 w hw).1 a' i y h e
    subst e
    exact va_Nw.same rfl rfl h9
  · have h9 := (h2 w hw).2 a' i b n d h e
    subst e
    exact va_Nw.same rfl rfl h9
section WC
variable {p : Program} {l : Launch} {e : Env} {R : Room} {s : State} {m : MethodId} {args : Array Value} {below : List Frame} {meth : Method} {c : Code} {H : Heap} {locs : List Loc} {cells slots : Nat} {Q : State → Prop}
variable {cc : ByteArray} {pc : Nat} {ls : Array Slot} {rest st0 As : List Value} {X : wd_X} {S S' : wd_S} {D D' : wd_D} {nL mc ms n idx : Nat} {own : String} {r : Option Value} {rm : Room} {y : MethodName} {bytes : ByteArray} {maxL : Nat} {ret : Option FieldType}
theorem wd_blind {av : List Value} : FrameBlind (wd_Pc X S D av) := fun _ _ _ _ q => ⟨q.1, q.2.1, q.2.2.blind⟩
theorem wd_go {a : Array Value} (hr : va_Run p l e R s m args below meth c H locs cells slots mc ms (F0 m pc ls st0) rest (wd_Q X S' D' r a) (wd_A X)) (hS : va_S (wd_A X) s.heap H locs)
    (kk : ∀ (H1 : Heap) (locs1 : List Loc), Wd X S' D' H1 → va_S (wd_A X) s.heap H1 locs1 → W p l e R s m args below meth c H1 locs1 (cells + mc) (slots + ms) Q (F0 m (pc + 3) ls (r.toList ++ rest))) : W p l e R s m args below meth c H locs cells slots Q (F0 m pc ls st0) := by
  intro T hT Y
  obtain ⟨v, st₀, t, T', L, h0, X', hL, e1, e2, ⟨hv, hw, hz, hk⟩, st⟩ := hr T hT Y
  cases hv
  rw [h0] at hz hk
  obtain ⟨t2, a1, b1⟩ := kk T'.heap (locs ++ L) (by rw [e1]; exact hw)
    ⟨Nat.le_trans hS.1 (by rw [e1]; exact hz), fun q h1 h2 => by rw [e1, hk q (Nat.lt_of_lt_of_le h1 hS.1) h2]; exact hS.2.1 q h1 h2, fun q hq => by
      rcases List.mem_append.mp hq with h | h
      · exact hS.2.2 q h
      · exact hL q h⟩ T' rfl X'
  exact ⟨t2, st t2 a1, b1⟩
theorem wd_cb (hts : ∀ w ∈ tg, w.before args s = true) (mi : wd_M y bytes maxL ret n) (hl : Cond.methodLink own idx y ∈ tg) (hrm : rm.cells = mc ∧ rm.slots = ms ∧ rm.frames + 1 ≤ R.frames ∧ 8 + (maxL + 11) + rm.locals ≤ R.locals) : CallB R s args own idx y bytes maxL ret (Cond.code y bytes maxL ret :: tg) rm mc ms n :=
  callB_of n hts (tg_goodIn mi.1) rfl hrm.1 hrm.2.1 (hts _ mi.2.1) (hts _ hl) mi.2.2 hrm.2.2
theorem wd_callV (CF : CallFix p m c cc nL s args tg own) (hE : wd_Env X s) (hW : Wd X S D H) (hS : va_S (wd_A X) s.heap H locs) {k ci : Nat} (hM : wd_Met l X y bytes maxL ret rm S S' (.ref (X.2.2.1 + k) :: As) D D' r mc ms) (mi : wd_M y bytes maxL ret n) (vi : Cond.instanceMethod y ∈ tg ∧ Cond.selects y.cls y y ∈ tg) (hl : Cond.methodLink own idx y ∈ tg) (hci : ci < 8 ∧ wd_R ci = y.cls) (hsh : S.1[k]? = some (.inl ci))
    (hrm : rm.cells = mc ∧ rm.slots = ms ∧ rm.frames + 1 ≤ R.frames ∧ 8 + (maxL + 11) + rm.locals ≤ R.locals) (hn : As.length = n) (hls : ls.size = nL) (hst : st0 = As.reverse ++ .ref (X.2.2.1 + k) :: rest) (hr : (rest.map fun v => v.category).sum ≤ 8) (hdg : decode cc pc = .ok (.invokevirtual idx, 3)) (hf : cells + mc ≤ R.cells ∧ slots + ms ≤ R.slots)
    (kk : ∀ (H1 : Heap) (locs1 : List Loc), Wd X S' D' H1 → va_S (wd_A X) s.heap H1 locs1 → W p l e R s m args below meth c H1 locs1 (cells + mc) (slots + ms) Q (F0 m (pc + 3) ls (r.toList ++ rest))) : W p l e R s m args below meth c H locs cells slots Q (F0 m pc ls st0) := by
  have hts := CF.2.2.2.2
  obtain ⟨cell, g1, g2, g3⟩ := va_recv hE.1 hW (wd_cl ci hci.1) (wd_at hsh)
  refine wd_go (va_runV (As := As) (rest := rest) (C := y.cls) CF hM ⟨wd_cb hts mi hl hrm, hts _ vi.1, hts _ vi.2⟩ ⟨wd_blind, ⟨cell, g1, g2, by rw [← hci.2]; exact g3⟩, fun U hU hw => ⟨rfl, by rw [hU]; exact hW, hE.warm hS hU hw⟩⟩ rfl hn hls hst (lv_room hr) hdg hf) hS kk
theorem wd_callS (CF : CallFix p m c cc nL s args tg own) (hE : wd_Env X s) (hW : Wd X S D H) (hS : va_S (wd_A X) s.heap H locs) (hM : wd_Met l X y bytes maxL ret rm S S' As D D' r mc ms) (mi : wd_M y bytes maxL ret n) (vi : Cond.static y ∈ tg) (hl : Cond.methodLink own idx y ∈ tg)
    (hrm : rm.cells = mc ∧ rm.slots = ms ∧ rm.frames + 1 ≤ R.frames ∧ 8 + (maxL + 11) + rm.locals ≤ R.locals) (hn : As.length = n) (hls : ls.size = nL) (hst : st0 = As.reverse ++ rest) (hr : (rest.map fun v => v.category).sum ≤ 8) (hdg : decode cc pc = .ok (.invokestatic idx, 3)) (hf : cells + mc ≤ R.cells ∧ slots + ms ≤ R.slots)
    (kk : ∀ (H1 : Heap) (locs1 : List Loc), Wd X S' D' H1 → va_S (wd_A X) s.heap H1 locs1 → W p l e R s m args below meth c H1 locs1 (cells + mc) (slots + ms) Q (F0 m (pc + 3) ls (r.toList ++ rest))) : W p l e R s m args below meth c H locs cells slots Q (F0 m pc ls st0) := by
  have hts := CF.2.2.2.2
  refine wd_go (va_runS (As := As) (rest := rest) CF hM ⟨wd_cb hts mi hl hrm, hts _ vi⟩ ⟨wd_blind, fun U hU hw => ⟨rfl, by rw [hU]; exact hW, hE.warm hS hU hw⟩⟩ rfl hn hls hst (lv_room hr) hdg hf) hS kk
theorem wd_callSN (CF : CallFix p m c cc nL s args tg own) (hE : wd_Env X s) (hW : Wd X S D H) (hS : va_S (wd_A X) s.heap H locs) {host : String} (hM : wd_Met l X y bytes maxL ret rm S S' As D D' r mc ms) (mi : wd_M y bytes maxL ret n) (vi : Cond.static y ∈ tg) (hl : Cond.methodLinkNest own idx y host ∈ lw_tbl)
    (hrm : rm.cells = mc ∧ rm.slots = ms ∧ rm.frames + 1 ≤ R.frames ∧ 8 + (maxL + 11) + rm.locals ≤ R.locals) (hn : As.length = n) (hls : ls.size = nL) (hst : st0 = As.reverse ++ rest) (hr : (rest.map fun v => v.category).sum ≤ 8) (hdg : decode cc pc = .ok (.invokestatic idx, 3)) (hf : cells + mc ≤ R.cells ∧ slots + ms ≤ R.slots)
    (kk : ∀ (H1 : Heap) (locs1 : List Loc), Wd X S' D' H1 → va_S (wd_A X) s.heap H1 locs1 → W p l e R s m args below meth c H1 locs1 (cells + mc) (slots + ms) Q (F0 m (pc + 3) ls (r.toList ++ rest))) : W p l e R s m args below meth c H locs cells slots Q (F0 m pc ls st0) := by
  have hts := CF.2.2.2.2
  refine wd_go (va_runSN (As := As) (rest := rest) CF hM ⟨va_cnB n hts (tg_goodIn mi.1) rfl hrm.1 hrm.2.1 ((hE.2.1 _ hl).1 _ _ _ _ rfl) (hts _ mi.2.1) mi.2.2 hrm.2.2, hts _ vi, trivial⟩ ⟨wd_blind, fun U hU hw => ⟨rfl, by rw [hU]; exact hW, hE.warm hS hU hw⟩⟩ rfl hn hls hst (lv_room hr) hdg hf) hS kk
theorem wd_enter {av : List Value} (hy : plainName y.cls = true) (hA : (lg_sl av).length ≤ maxL)
    (body : ∀ (p : Program) (e : Env) (s : State) (m : MethodId) (below : List Frame) (meth : Method) (c : Code), CallFix p m c bytes maxL s av.toArray tg y.cls → meth.sig.returnType = ret → meth.locks = false → meth.name = y.name → Wd X S D s.heap → wd_Env X s → ∀ ls : Array Slot, lv_has ls maxL (lv_args 0 av) →
      W p l e rm s m av.toArray below meth c s.heap [] 0 0 (MQ below (wd_Q X S' D' r) av.toArray s mc ms (wd_A X)) (F0 m 0 ls [])) : wd_Met l X y bytes maxL ret rm S S' av D D' r mc ms := by
  refine Met.ofW (cc := bytes) (maxL := maxL) (ret := ret) hy rfl ?_
  intro p e s m args below meth c s₁ B hml hv
  obtain ⟨rfl, hW, hE⟩ := hv
  have hts := atoms_spec (ws := Cond.code y bytes maxL ret :: tg) B.pre
  have hl := lv_entry av (n := maxL) hA
  rw [lg_entry_eq]
  exact body p e s m below meth c ⟨B.exec, B.bytes, hml, findClass_of_methodNamed B.named, fun w h => hts w (List.mem_cons_of_mem _ h)⟩ B.returns B.notSynchronized (name_of_methodNamed B.named B.method).1 hW hE _ hl
theorem wd_iret {v : Int32} (CF : CallFix p m c cc nL s args tg own) (hr : meth.sig.returnType = some .int) (hk : meth.locks = false) (hW : Wd X S D H) (hS : va_S (wd_A X) s.heap H locs) (hdg : decode cc pc = .ok (.ireturn, 1)) : W p l e R s m args below meth c H locs cells slots (MQ below (wd_Q X S D (some (.int v))) args s cells slots (wd_A X)) (F0 m pc ls [.int v]) :=
  W.iret CF.1 CF.2.1 hr (fun t ht _ => ⟨rfl, by rw [ht]; exact hW, hS.F ht⟩) hS.2.2 hdg hk
theorem wd_zret {v : Int32} (CF : CallFix p m c cc nL s args tg own) (hr : meth.sig.returnType = some .boolean) (hk : meth.locks = false) (hW : Wd X S D H) (hS : va_S (wd_A X) s.heap H locs) (hv : v = 0 ∨ v = 1) (hdg : decode cc pc = .ok (.ireturn, 1)) : W p l e R s m args below meth c H locs cells slots (MQ below (wd_Q X S D (some (.int v))) args s cells slots (wd_A X)) (F0 m pc ls [.int v]) :=
  W.zret CF.1 CF.2.1 hr (by rcases hv with rfl | rfl <;> rfl) (fun t ht _ => ⟨rfl, by rw [ht]; exact hW, hS.F ht⟩) hS.2.2 hdg hk
theorem wd_lret {v : Int64} (CF : CallFix p m c cc nL s args tg own) (hr : meth.sig.returnType = some .long) (hk : meth.locks = false) (hW : Wd X S D H) (hS : va_S (wd_A X) s.heap H locs) (hdg : decode cc pc = .ok (.lreturn, 1)) : W p l e R s m args below meth c H locs cells slots (MQ below (wd_Q X S D (some (.long v))) args s cells slots (wd_A X)) (F0 m pc ls [.long v]) :=
  W.lret CF.1 CF.2.1 hr (fun t ht _ => ⟨rfl, by rw [ht]; exact hW, hS.F ht⟩) hS.2.2 hdg hk
theorem wd_vret (CF : CallFix p m c cc nL s args tg own) (hr : meth.sig.returnType = none) (hk : meth.locks = false) (hW : Wd X S D H) (hS : va_S (wd_A X) s.heap H locs) (hdg : decode cc pc = .ok (.return_, 1)) : W p l e R s m args below meth c H locs cells slots (MQ below (wd_Q X S D none) args s cells slots (wd_A X)) (F0 m pc ls []) :=
  W.vret CF.1 CF.2.1 hr (fun t ht _ => ⟨rfl, by rw [ht]; exact hW, hS.F ht⟩) hS.2.2 hdg hk
end WC
def cpD (D : wd_D) (k0 sp k1 dp n : Nat) : wd_D := (fun a b => if a = k1 ∧ dp ≤ b ∧ b < dp + n then D.1 k0 (sp + (b - dp)) else D.1 a b, D.2)
def cp (n0 n1 : Nat) (D : wd_D) (k0 : Nat) (sp : Int32) (k1 : Nat) (dp n : Int32) : Option wd_D := if sp < 0 ∨ dp < 0 ∨ n < 0 ∨ n0 < sp.toNatClampNeg + n.toNatClampNeg ∨ n1 < dp.toNatClampNeg + n.toNatClampNeg then none else some (cpD D k0 sp.toNatClampNeg k1 dp.toNatClampNeg n.toNatClampNeg)
theorem wd_oC {X : wd_X} {S : wd_S} {D : wd_D} {k0 sp k1 dp n a : Nat} (sh : wd_Sh) (h : a ≠ k1) : wd_E X S (cpD D k0 sp k1 dp n) a sh = wd_E X S D a sh := by
  have e : (cpD D k0 sp k1 dp n).1 a = D.1 a := by funext b; simp [cpD, h]
  have e1 : (cpD D k0 sp k1 dp n).2 = D.2 := rfl
  rcases sh with ci | ⟨t, n⟩
  · simp only [wd_E]
    congr 2
    refine List.map_congr_left (fun b _ => ?_)
    cases wd_ty ci b <;> simp [fv, e, e1] <;> rfl
  · match t with
    | 0 => simp [wd_E, e]
    | 1 => simp [wd_E, e]
    | 2 => simp [wd_E]
    | t + 3 => simp [wd_E]
section WCP
variable {p : Program} {l : Launch} {e : Env} {R : Room} {s : State} {m : MethodId} {args : Array Value} {below : List Frame} {meth : Method} {c : Code} {H : Heap} {locs : List Loc} {cells slots : Nat} {Q : State → Prop}
variable {cc : ByteArray} {pc : Nat} {ls : Array Slot} {rest : List Value} {X : wd_X} {S : wd_S} {D : wd_D} {nL idx : Nat} {own : String}
theorem wd_copy (CF : CallFix p m c cc nL s args tg own) (hE : wd_Env X s) (hW : Wd X S D H) (hS : va_S (wd_A X) s.heap H locs) (hls : ls.size = nL) {k0 k1 n0 n1 : Nat} (hs0 : S.1[k0]? = some (.inr (0, n0))) (hs1 : S.1[k1]? = some (.inr (0, n1))) {sp dp n : Int32} {D1 : wd_D} (h : cp n0 n1 D k0 sp k1 dp n = some D1) (hl : Cond.methodLink own idx arraycopyName ∈ tg)
    (hnat : Cond.native arraycopyName ∈ tg) (hstat : Cond.static arraycopyName ∈ tg) (hini : Cond.initialized "java/lang/System" ∈ tg) (hfr : 1 ≤ R.frames) (hlo : (rest.map fun v => v.category).sum + (nativeFrameWords "java/lang/System" "arraycopy" 5 + 11) ≤ R.locals) (hdg : decode cc pc = .ok (.invokestatic idx, 3))
    (kk : ∀ (H1 : Heap) (locs1 : List Loc), Wd X S D1 H1 → va_S (wd_A X) s.heap H1 locs1 → W p l e R s m args below meth c H1 locs1 cells slots Q (F0 m (pc + 3) ls rest)) : W p l e R s m args below meth c H locs cells slots Q (F0 m pc ls (.int n :: .int dp :: .ref (X.2.2.1 + k1) :: .int sp :: .ref (X.2.2.1 + k0) :: rest)) := by
  obtain ⟨hx, hb, hml, hown, hts⟩ := CF
  unfold cp at h
  split at h
  · cases h
  · rename_i hc
    simp only [not_or] at hc
    obtain ⟨c1, c2, c3, c4, c5⟩ := hc
    have h2 := Option.some.inj h
    subst h2
    refine va_copyi (ty := .int) (f := D.1 k0) (g := D.1 k1) (n0 := n0) (n1 := n1) (c0 := X.2.1.1) (c1 := X.2.1.1) hx hb (hml.trans hls.symm) hown (hts _ hl) (hts _ hnat) (hts _ hstat) (hts _ hini) hE.1 hW (wd_apart X S D) hS k0 k1 0 0 (wd_at hs0) (wd_at hs1) rfl rfl rfl c1 c2 c3 (by omega) (by omega) (fun _ _ => rfl) hfr hlo hdg fun H1 locs1 hP1 hD1 hS1 => ?_
    have hw := wd_set (X := X) (S := S) (S' := S) (D := D) (D' := cpD D k0 sp.toNatClampNeg k1 dp.toNatClampNeg n.toNatClampNeg) hs1 rfl (fun a sh' ha => wd_oC sh' ha)
    have he : va_cpy (D.1 k0) (D.1 k1) sp.toNatClampNeg dp.toNatClampNeg n.toNatClampNeg = (cpD D k0 sp.toNatClampNeg k1 dp.toNatClampNeg n.toNatClampNeg).1 k1 := by
      funext b; simp [va_cpy, cpD]
    simp only [wd_E] at hw
    rw [he, hw] at hP1
    exact kk H1 locs1 hP1 hS1
end WCP
