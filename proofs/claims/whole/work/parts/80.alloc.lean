/-! NEW CELLS -/
def sS (S : wd_S) (k j q : Nat) : wd_S := (S.1, fun a b => if a = k ∧ b = j then some q else S.2 a b)
def pS (S : wd_S) (sh : wd_Sh) : wd_S := (S.1 ++ [sh], S.2)
def Zr (S : wd_S) (D : wd_D) (n : Nat) : Prop := ∀ j, D.1 n j = 0 ∧ D.2 n j = 0 ∧ S.2 n j = none
theorem wd_Wp (X : wd_X) (S : wd_S) (D : wd_D) (sh : wd_Sh) : wd_W X (pS S sh) D = wd_W X S D ++ [(X.2.2.1 + S.1.length, wd_E X S D S.1.length sh)] := by
  show (S.1 ++ [sh]).mapIdx (fun k sh => (X.2.2.1 + k, wd_E X (pS S sh) D k sh)) = S.1.mapIdx _ ++ _
  rw [List.mapIdx_append]
  have e : ∀ (z : wd_Sh) k sh, wd_E X (pS S z) D k sh = wd_E X S D k sh := fun z k sh => by
    rcases sh with ci | ⟨t, n⟩
    · rfl
    · match t with
      | 0 => rfl
      | 1 => rfl
      | 2 => rfl
      | t + 3 => rfl
  simp only [e]
  simp
theorem wd_Wl (X : wd_X) (S : wd_S) (D : wd_D) : (wd_W X S D).length = S.1.length := by simp [wd_W]
theorem wd_push {X : wd_X} {S : wd_S} {D : wd_D} {H1 : Heap} {q : Nat} {sh : wd_Sh} (hP : va_P X.1 vwCl (wd_W X S D ++ [(q, wd_E X S D S.1.length sh)]) H1) (hD : va_D (wd_A X) (wd_W X S D ++ [(q, wd_E X S D S.1.length sh)])) (hz : H1.size ≤ X.2.2.1 + S.1.length + 1) : q = X.2.2.1 + S.1.length ∧ Wd X (pS S sh) D H1 := by
  have hq : (wd_W X S D ++ [(q, wd_E X S D S.1.length sh)])[S.1.length]? = some (q, wd_E X S D S.1.length sh) := by
    rw [List.getElem?_append_right (by rw [wd_Wl]; omega), wd_Wl, Nat.sub_self]; rfl
  have h1 : X.2.2.1 ≤ q := hD.2 _ _ hq
  have h2 : q < H1.size := (hP _ _ hq).lt
  have e : q = X.2.2.1 + S.1.length := by
    apply Classical.byContradiction
    intro hne
    have hl : q - X.2.2.1 < S.1.length := by omega
    have hk : (wd_W X S D ++ [(q, wd_E X S D S.1.length sh)])[q - X.2.2.1]? = some (X.2.2.1 + (q - X.2.2.1), wd_E X S D (q - X.2.2.1) (S.1[q - X.2.2.1]'hl)) := by
      rw [List.getElem?_append_left (by rw [wd_Wl]; exact hl)]
      exact wd_at (List.getElem?_eq_getElem hl)
    have := hD.1 _ _ _ _ hq hk (by show q = X.2.2.1 + (q - X.2.2.1); omega)
    omega
  subst e
  refine ⟨rfl, ?_⟩
  show va_P X.1 vwCl (wd_W X (pS S sh) D) H1
  rw [wd_Wp]; exact hP
theorem wd_oS {X : wd_X} {S : wd_S} {D : wd_D} {k j q a : Nat} (sh : wd_Sh) (h : a ≠ k) : wd_E X (sS S k j q) D a sh = wd_E X S D a sh := by
  have e : (sS S k j q).2 a = S.2 a := by funext b; simp [sS, h]
  rcases sh with ci | ⟨t, n⟩
  · simp only [wd_E]
    congr 2
    refine List.map_congr_left (fun b _ => ?_)
    cases wd_ty ci b <;> simp [fv, e]
  · match t with
    | 0 => simp [wd_E]
    | 1 => simp [wd_E]
    | 2 => simp [wd_E, e]
    | t + 3 => simp [wd_E, e]
theorem wd_fsR {X : wd_X} {S : wd_S} {D : wd_D} {k ci j q : Nat} (ht : ∀ S', fv X S' D k j (wd_ty ci j) = va_rf (wd_f X.2.2.1 (S'.2 k j))) : ((List.range (wd_N ci)).map (fun i => fv X S D k i (wd_ty ci i))).set j (.ref (X.2.2.1 + q)) = (List.range (wd_N ci)).map (fun i => fv X (sS S k j q) D k i (wd_ty ci i)) := by
  apply List.ext_getElem?
  intro i
  rw [List.getElem?_set]
  by_cases hi : j = i
  · subst hi
    by_cases hl : j < wd_N ci
    · simp [hl, ht, sS, wd_f, va_rf]
    · simp [hl]
  · rw [if_neg hi, List.getElem?_map, List.getElem?_map]
    cases hs : (List.range (wd_N ci))[i]? with
    | none => rfl
    | some b =>
      have hb : b = i := by
        have := List.getElem?_range (n := wd_N ci) (i := i) (by simpa using (List.getElem?_eq_some_iff.mp hs).1)
        rw [this] at hs; exact (Option.some.inj hs).symm
      subst hb
      simp only [Option.map_some]
      have e : (sS S k j q).2 k b = S.2 k b := by
        show (if k = k ∧ b = j then some q else S.2 k b) = _
        rw [if_neg (fun z => hi z.2.symm)]
      cases wd_ty ci b <;> simp [fv, e]
def okTy : FieldType → Bool
  | .int => true
  | .long => true
  | .object _ => true
  | .array _ => true
  | _ => false
theorem ok_ty : ∀ ci, ci < 8 → ∀ j, j < wd_N ci → okTy (wd_ty ci j) = true := by decide +kernel
theorem fv_def {X : wd_X} {S : wd_S} {D : wd_D} {n j : Nat} {ty : FieldType} (h : okTy ty = true) (z1 : D.1 n j = 0) (z2 : D.2 n j = 0) (z3 : S.2 n j = none) : defaultValue ty = fv X S D n j ty := by
  cases ty <;> simp [okTy] at h <;> simp [fv, z1, z2, z3, defaultValue, wd_f, va_rf]
section WN
variable {p : Program} {l : Launch} {e : Env} {R : Room} {s : State} {m : MethodId} {args : Array Value} {below : List Frame} {meth : Method} {c : Code} {H : Heap} {locs : List Loc} {cells slots : Nat} {Q : State → Prop}
variable {cc : ByteArray} {pc : Nat} {ls : Array Slot} {rest : List Value} {X : wd_X} {S : wd_S} {D : wd_D} {nL idx : Nat} {own : String}
theorem wd_hA (hb : X.2.2.1 ≤ s.heap.size) : ∀ q, s.heap.size ≤ q → wd_A X q := fun q h => Nat.le_trans hb h
/-- an object -/
theorem wd_newO (CF : CallFix p m c cc nL s args tg own) (hE : wd_Env X s) (hW : Wd X S D H) (hS : va_S (wd_A X) s.heap H locs) (hb : X.2.2.1 ≤ s.heap.size) (hz : s.heap.size + cells ≤ X.2.2.1 + S.1.length) (ci : Nat) (h8 : ci < 8) (hcl : Cond.classLink own idx (wd_R ci) ∈ tg) (hinst : Cond.instantiable (wd_R ci) (wd_N ci) ∈ tg) (hini : Cond.initialized (wd_R ci) ∈ tg) (hZ : Zr S D S.1.length) (hcells : cells + 1 ≤ R.cells) (hslots : slots + wd_N ci ≤ R.slots) (hdg : decode cc pc = .ok (.new idx, 3))
    (kk : ∀ H1, Wd X (pS S (.inl ci)) D H1 → va_S (wd_A X) s.heap H1 locs → W p l e R s m args below meth c H1 locs (cells + 1) (slots + wd_N ci) Q (F0 m (pc + 3) ls (.ref (X.2.2.1 + S.1.length) :: rest))) : W p l e R s m args below meth c H locs cells slots Q (F0 m pc ls rest) := by
  obtain ⟨hx, hbb, -, hown, hts⟩ := CF
  refine va_new (C := wd_R ci) (T := wd_T ci) (N := wd_N ci) (ci := ci) (fs := (List.range (wd_N ci)).map (fun j => fv X S D S.1.length j (wd_ty ci j))) hx hbb hts (wd_in ci h8) (wd_ty ci) (wd_pd ci h8) hown (hts _ hcl) (hts _ hinst) (hts _ hini) hE.1 hW (wd_apart X S D) hS (wd_hA hb) (wd_cl ci h8) (fun j hj => ?_) hcells hslots hdg fun q H1 hP1 hD1 hS1 => W.sized fun hsz => ?_
  · obtain ⟨z1, z2, z3⟩ := hZ j
    show _ = ((List.range (wd_N ci)).map (fun j => fv X S D S.1.length j (wd_ty ci j))).getD j .null
    rw [List.getD_eq_getElem?_getD, List.getElem?_map, List.getElem?_range hj]
    simp only [Option.map_some, Option.getD_some]
    exact fv_def (ok_ty ci h8 j hj) z1 z2 z3
  · obtain ⟨rfl, hw⟩ := wd_push (sh := .inl ci) hP1 hD1 (by omega)
    exact kk H1 hw hS1
/-- a row of ints -/
theorem wd_newI (CF : CallFix p m c cc nL s args tg own) (hE : wd_Env X s) (hW : Wd X S D H) (hS : va_S (wd_A X) s.heap H locs) (hb : X.2.2.1 ≤ s.heap.size) (hz : s.heap.size + cells ≤ X.2.2.1 + S.1.length) (N : Nat) {n : Int32} (hn : ¬ n < 0) (hN : n.toNatClampNeg = N) (hby : N ≤ 1000) (hZ : Zr S D S.1.length) (hcells : cells + 1 ≤ R.cells) (hslots : slots + N ≤ R.slots) (hdg : decode cc pc = .ok (.newarray .int, 2))
    (kk : ∀ H1, Wd X (pS S (.inr (0, N))) D H1 → va_S (wd_A X) s.heap H1 locs → W p l e R s m args below meth c H1 locs (cells + 1) (slots + N) Q (F0 m (pc + 2) ls (.ref (X.2.2.1 + S.1.length) :: rest))) : W p l e R s m args below meth c H locs cells slots Q (F0 m pc ls (.int n :: rest)) := by
  obtain ⟨hx, hbb, -, hown, hts⟩ := CF
  have e0 : D.1 S.1.length = fun _ => 0 := funext (fun j => (hZ j).1)
  refine va_newa (atype := .int) (ty := .int) (a0 := (N, .inl (D.1 S.1.length))) hx hbb (hts _ tw41) rfl hE.1 hW (wd_apart X S D) hS (wd_hA hb) (fun cA => by rw [e0]; rfl) hn hN (by show N * 4 ≤ _; omega) hcells hslots hdg fun q cA H1 hK1 hP1 hD1 hS1 => W.sized fun hsz => ?_
  have h1 : s.vm.findClass ("[" ++ FieldType.int.toString) = some cA := (hK1.2 4 (cA, .int) rfl).2
  have h2 : s.vm.findClass ("[" ++ FieldType.int.toString) = some X.2.1.1 := (hE.1.2 0 (X.2.1.1, .int) rfl).2
  have hc : cA = X.2.1.1 := Option.some.inj (h1.symm.trans h2)
  subst hc
  obtain ⟨rfl, hw⟩ := wd_push (sh := .inr (0, N)) hP1 hD1 (by omega)
  exact kk H1 hw hS1
theorem wd_newZ (CF : CallFix p m c cc nL s args tg own) (hE : wd_Env X s) (hW : Wd X S D H) (hS : va_S (wd_A X) s.heap H locs) (hb : X.2.2.1 ≤ s.heap.size) (hz : s.heap.size + cells ≤ X.2.2.1 + S.1.length) (N : Nat) {n : Int32} (hn : ¬ n < 0) (hN : n.toNatClampNeg = N) (hby : N ≤ 1000) (hZ : Zr S D S.1.length) (hcells : cells + 1 ≤ R.cells) (hslots : slots + N ≤ R.slots) (hdg : decode cc pc = .ok (.newarray .boolean, 2))
    (kk : ∀ H1, Wd X (pS S (.inr (1, N))) D H1 → va_S (wd_A X) s.heap H1 locs → W p l e R s m args below meth c H1 locs (cells + 1) (slots + N) Q (F0 m (pc + 2) ls (.ref (X.2.2.1 + S.1.length) :: rest))) : W p l e R s m args below meth c H locs cells slots Q (F0 m pc ls (.int n :: rest)) := by
  obtain ⟨hx, hbb, -, hown, hts⟩ := CF
  have e0 : D.1 S.1.length = fun _ => 0 := funext (fun j => (hZ j).1)
  refine va_newa (atype := .boolean) (ty := .boolean) (a0 := (N, .inl (D.1 S.1.length))) hx hbb (hts _ tw809) rfl hE.1 hW (wd_apart X S D) hS (wd_hA hb) (fun cA => by rw [e0]; rfl) hn hN (by show N * 1 ≤ _; omega) hcells hslots hdg fun q cA H1 hK1 hP1 hD1 hS1 => W.sized fun hsz => ?_
  have h1 : s.vm.findClass ("[" ++ FieldType.boolean.toString) = some cA := (hK1.2 4 (cA, .boolean) rfl).2
  have h2 : s.vm.findClass ("[" ++ FieldType.boolean.toString) = some X.2.1.2.1 := (hE.1.2 1 (X.2.1.2.1, .boolean) rfl).2
  have hc : cA = X.2.1.2.1 := Option.some.inj (h1.symm.trans h2)
  subst hc
  obtain ⟨rfl, hw⟩ := wd_push (sh := .inr (1, N)) hP1 hD1 (by omega)
  exact kk H1 hw hS1
/-- a row of rooms; of rows -/
theorem wd_newQ2 (CF : CallFix p m c cc nL s args tg own) (hE : wd_Env X s) (hW : Wd X S D H) (hS : va_S (wd_A X) s.heap H locs) (hb : X.2.2.1 ≤ s.heap.size) (hz : s.heap.size + cells ≤ X.2.2.1 + S.1.length) (N : Nat) {n : Int32} (hn : ¬ n < 0) (hN : n.toNatClampNeg = N) (hby : N ≤ 1000) (hcl : Cond.classLink own idx RX3 ∈ tg) (hZ : Zr S D S.1.length) (hcells : cells + 1 ≤ R.cells) (hslots : slots + N ≤ R.slots) (hdg : decode cc pc = .ok (.anewarray idx, 3))
    (kk : ∀ H1, Wd X (pS S (.inr (2, N))) D H1 → va_S (wd_A X) s.heap H1 locs → W p l e R s m args below meth c H1 locs (cells + 1) (slots + N) Q (F0 m (pc + 3) ls (.ref (X.2.2.1 + S.1.length) :: rest))) : W p l e R s m args below meth c H locs cells slots Q (F0 m pc ls (.int n :: rest)) := by
  obtain ⟨hx, hbb, -, hown, hts⟩ := CF
  have e0 : (fun j => wd_f X.2.2.1 (S.2 S.1.length j)) = fun _ => none := funext (fun j => by rw [(hZ j).2.2]; rfl)
  refine va_newq (C := RX3) hx hbb hown (hts _ hcl) hE.2.2.1 hE.1 hW (wd_apart X S D) hS (wd_hA hb) hn hN (by omega) hcells hslots hdg fun q cA H1 hK1 hP1 hD1 hS1 => W.sized fun hsz => ?_
  obtain ⟨-, kA, comp, -, -, -, h1⟩ := hK1.2 4 (cA, .object RX3) rfl
  obtain ⟨-, kB, comp', -, -, -, h2⟩ := hE.1.2 2 (X.2.1.2.2.1, .object RX3) rfl
  have hc : cA = X.2.1.2.2.1 := Option.some.inj (h1.symm.trans h2)
  subst hc
  rw [← e0] at hP1 hD1
  obtain ⟨rfl, hw⟩ := wd_push (sh := .inr (2, N)) hP1 hD1 (by omega)
  exact kk H1 hw hS1
theorem wd_newQ3 (CF : CallFix p m c cc nL s args tg own) (hE : wd_Env X s) (hW : Wd X S D H) (hS : va_S (wd_A X) s.heap H locs) (hb : X.2.2.1 ≤ s.heap.size) (hz : s.heap.size + cells ≤ X.2.2.1 + S.1.length) (N : Nat) {n : Int32} (hn : ¬ n < 0) (hN : n.toNatClampNeg = N) (hby : N ≤ 1000) (hcl : Cond.classLink own idx RX4 ∈ tg) (hZ : Zr S D S.1.length) (hcells : cells + 1 ≤ R.cells) (hslots : slots + N ≤ R.slots) (hdg : decode cc pc = .ok (.anewarray idx, 3))
    (kk : ∀ H1, Wd X (pS S (.inr (3, N))) D H1 → va_S (wd_A X) s.heap H1 locs → W p l e R s m args below meth c H1 locs (cells + 1) (slots + N) Q (F0 m (pc + 3) ls (.ref (X.2.2.1 + S.1.length) :: rest))) : W p l e R s m args below meth c H locs cells slots Q (F0 m pc ls (.int n :: rest)) := by
  obtain ⟨hx, hbb, -, hown, hts⟩ := CF
  have e0 : (fun j => wd_f X.2.2.1 (S.2 S.1.length j)) = fun _ => none := funext (fun j => by rw [(hZ j).2.2]; rfl)
  refine va_newq (C := RX4) hx hbb hown (hts _ hcl) hE.2.2.2.1 hE.1 hW (wd_apart X S D) hS (wd_hA hb) hn hN (by omega) hcells hslots hdg fun q cA H1 hK1 hP1 hD1 hS1 => W.sized fun hsz => ?_
  obtain ⟨-, kA, comp, -, -, -, h1⟩ := hK1.2 4 (cA, .object RX4) rfl
  obtain ⟨-, kB, comp', -, -, -, h2⟩ := hE.1.2 3 (X.2.1.2.2.2, .object RX4) rfl
  have hc : cA = X.2.1.2.2.2 := Option.some.inj (h1.symm.trans h2)
  subst hc
  rw [← e0] at hP1 hD1
  obtain ⟨rfl, hw⟩ := wd_push (sh := .inr (3, N)) hP1 hD1 (by omega)
  exact kk H1 hw hS1
/-- a final field in a constructor, a reference -/
theorem wd_putR (CF : CallFix p m c cc nL s args tg own) (hE : wd_Env X s) (hW : Wd X S D H) (hS : va_S (wd_A X) s.heap H locs) (hnm : meth.name = "<init>") {k ci j q : Nat} (hF : wd_FL own idx ci j) (hsh : S.1[k]? = some (.inl ci)) (ht : ∀ S', fv X S' D k j (wd_ty ci j) = va_rf (wd_f X.2.2.1 (S'.2 k j))) (hfin : (wd_T ci j).2.2.2 = true) (hdecl : (wd_T ci j).1 = own) (hn : ∀ a, narrow (wd_ty ci j) (.ref a) = .ref a) (hfit : ∀ a, fits (wd_ty ci j) (.ref a) = true) (hdg : decode cc pc = .ok (.putfield idx, 3))
    (kk : ∀ (H1 : Heap) (locs1 : List Loc), Wd X (sS S k j q) D H1 → va_S (wd_A X) s.heap H1 locs1 → W p l e R s m args below meth c H1 locs1 cells slots Q (F0 m (pc + 3) ls rest)) : W p l e R s m args below meth c H locs cells slots Q (F0 m pc ls (.ref (X.2.2.1 + q) :: .ref (X.2.2.1 + k) :: rest)) := by
  obtain ⟨hx, hb, -, hown, hts⟩ := CF
  obtain ⟨h8, hj, hl, hd⟩ := hF
  refine va_putF (T := wd_T ci) (C := wd_R ci) (N := wd_N ci) (ci := ci) hx hb hts (wd_in ci h8) (wd_ty ci) (wd_pd ci h8) (wd_nm ci h8) hown hE.1 hW (wd_apart X S D) hS k (wd_at hsh) (wd_cl ci h8) j hj (hts _ hl) (fun x h => by rw [hd] at h; exact h) hfin hnm hdecl (ty := wd_ty ci j) (v := .ref (X.2.2.1 + q)) (wd_pd ci h8 j hj) (hn _) (hfit _) (by simp [hj]) hdg fun H1 locs1 hP1 hD1 hS1 => ?_
  rw [wd_fsR ht] at hP1
  have hw := wd_set (X := X) (S := S) (S' := sS S k j q) (D := D) (D' := D) hsh rfl (fun a sh' ha => wd_oS sh' ha)
  simp only [wd_E] at hw hP1
  rw [hw] at hP1
  exact kk H1 locs1 hP1 hS1
/-- a reference into a row -/
theorem wd_upS {k a q : Nat} : va_up (fun j => wd_f X.2.2.1 (S.2 k j)) a (some (X.2.2.1 + q)) = fun j => wd_f X.2.2.1 ((sS S k a q).2 k j) := by
  funext j
  unfold va_up sS
  dsimp only
  by_cases h : j = a
  · subst h; simp [wd_f]
  · simp [h]
theorem wd_astR2 (CF : CallFix p m c cc nL s args tg own) (hE : wd_Env X s) (hW : Wd X S D H) (hS : va_S (wd_A X) s.heap H locs) {k n q : Nat} (hsh : S.1[k]? = some (.inr (2, n))) (hq : S.1[q]? = some (.inl 3)) {i : Int32} {a : Nat} (h : ix n i = some a) (hdg : decode cc pc = .ok (.aastore, 1))
    (kk : ∀ (H1 : Heap) (locs1 : List Loc), Wd X (sS S k a q) D H1 → va_S (wd_A X) s.heap H1 locs1 → W p l e R s m args below meth c H1 locs1 cells slots Q (F0 m (pc + 1) ls rest)) : W p l e R s m args below meth c H locs cells slots Q (F0 m pc ls (.ref (X.2.2.1 + q) :: .int i :: .ref (X.2.2.1 + k) :: rest)) := by
  obtain ⟨hx, hb, -, hown, hts⟩ := CF
  obtain ⟨h1, h2⟩ := ix_e h
  subst h2
  refine va_astq (r := (wd_R 3, wd_T 3, wd_N 3)) (f := fun j => wd_f X.2.2.1 (S.2 k j)) (n := n) (cA := X.2.1.2.2.1) hx hb hE.1 hW (wd_apart X S D) hS k 2 q 3 (wd_at hsh) rfl (wd_at hq) (wd_cl 3 (by decide)) (wd_vin h1) hdg fun H1 locs1 hP1 hD1 hS1 => ?_
  rw [wd_upS] at hP1
  have hw := wd_set (X := X) (S := S) (S' := sS S k i.toNatClampNeg q) (D := D) (D' := D) hsh rfl (fun a sh' ha => wd_oS sh' ha)
  simp only [wd_E] at hw hP1
  rw [hw] at hP1
  exact kk H1 locs1 hP1 hS1
theorem wd_astR3 (CF : CallFix p m c cc nL s args tg own) (hE : wd_Env X s) (hW : Wd X S D H) (hS : va_S (wd_A X) s.heap H locs) {k n q : Nat} (hsh : S.1[k]? = some (.inr (3, n))) (hq : S.1[q]? = some (.inl 4)) {i : Int32} {a : Nat} (h : ix n i = some a) (hdg : decode cc pc = .ok (.aastore, 1))
    (kk : ∀ (H1 : Heap) (locs1 : List Loc), Wd X (sS S k a q) D H1 → va_S (wd_A X) s.heap H1 locs1 → W p l e R s m args below meth c H1 locs1 cells slots Q (F0 m (pc + 1) ls rest)) : W p l e R s m args below meth c H locs cells slots Q (F0 m pc ls (.ref (X.2.2.1 + q) :: .int i :: .ref (X.2.2.1 + k) :: rest)) := by
  obtain ⟨hx, hb, -, hown, hts⟩ := CF
  obtain ⟨h1, h2⟩ := ix_e h
  subst h2
  refine va_astq (r := (wd_R 4, wd_T 4, wd_N 4)) (f := fun j => wd_f X.2.2.1 (S.2 k j)) (n := n) (cA := X.2.1.2.2.2) hx hb hE.1 hW (wd_apart X S D) hS k 3 q 4 (wd_at hsh) rfl (wd_at hq) (wd_cl 4 (by decide)) (wd_vin h1) hdg fun H1 locs1 hP1 hD1 hS1 => ?_
  rw [wd_upS] at hP1
  have hw := wd_set (X := X) (S := S) (S' := sS S k i.toNatClampNeg q) (D := D) (D' := D) hsh rfl (fun a sh' ha => wd_oS sh' ha)
  simp only [wd_E] at hw hP1
  rw [hw] at hP1
  exact kk H1 locs1 hP1 hS1
/-- Object.<init> -/
theorem wd_obj (CF : CallFix p m c cc nL s args tg own) (hls : ls.size = nL) (hl : Cond.methodLink own idx ⟨"java/lang/Object", "<init>", "()V"⟩ ∈ tg) {a : Nat} (hdg : decode cc pc = .ok (.invokespecial idx, 3)) (hfr : 1 ≤ R.frames) (hlo : (rest.map fun v => v.category).sum + 12 ≤ R.locals)
    (kk : W p l e R s m args below meth c H locs cells slots Q (F0 m (pc + 3) ls rest)) : W p l e R s m args below meth c H locs cells slots Q (F0 m pc ls (.ref a :: rest)) := by
  obtain ⟨hx, hb, hml, hown, hts⟩ := CF
  exact W.objInit hx hb hown (hts _ hl) (hts _ tw18) (hts _ tw19) rfl (hls.trans hml.symm) rfl hdg hfr (by show 2 * 0 + _ + 12 ≤ _; omega) kk
end WN
/-! constructors -/
def wd_New (l : Launch) (X : wd_X) (y : MethodName) (bytes : ByteArray) (maxL : Nat) (rm : Room) (S S' : wd_S) (k : Nat) (D D' : wd_D) (mc ms : Nat) : Prop := Met l y (Cond.code y bytes maxL none :: tg) rm (va_Pc [.ref (X.2.2.1 + k)] (fun U => Wd X S D U.heap ∧ wd_Env X U ∧ X.2.2.1 ≤ U.heap.size ∧ U.heap.size ≤ X.2.2.1 + S.1.length)) (wd_Q X S' D' none) mc ms (wd_A X)
section WI
variable {p : Program} {l : Launch} {e : Env} {R : Room} {s : State} {m : MethodId} {args : Array Value} {below : List Frame} {meth : Method} {c : Code} {H : Heap} {locs : List Loc} {cells slots : Nat} {Q : State → Prop}
variable {cc : ByteArray} {pc : Nat} {ls : Array Slot} {rest st0 : List Value} {X : wd_X} {S S' : wd_S} {D D' : wd_D} {nL mc ms idx k : Nat} {own : String} {rm : Room} {y : MethodName} {bytes : ByteArray} {maxL : Nat}
theorem wd_initB : FrameBlind (va_Pc [.ref (X.2.2.1 + k)] (fun U => Wd X S D U.heap ∧ wd_Env X U ∧ X.2.2.1 ≤ U.heap.size ∧ U.heap.size ≤ X.2.2.1 + S.1.length)) := fun _ _ _ _ q => ⟨q.1, q.2.1, q.2.2.1.blind, q.2.2.2⟩
def wd_MI (y : MethodName) (bytes : ByteArray) (maxL : Nat) : Prop := wd_M y bytes maxL none 0 ∧ y.name = "<init>" ∧ Cond.instanceMethod y ∈ tg
theorem wd_callI (CF : CallFix p m c cc nL s args tg own) (hE : wd_Env X s) (hW : Wd X S D H) (hS : va_S (wd_A X) s.heap H locs) (hb : X.2.2.1 ≤ s.heap.size) (hz : s.heap.size + cells ≤ X.2.2.1 + S.1.length) (hM : wd_New l X y bytes maxL rm S S' k D D' mc ms) (mi : wd_MI y bytes maxL) (hl : Cond.methodLink own idx y ∈ tg) (hrm : rm.cells = mc ∧ rm.slots = ms ∧ rm.frames + 1 ≤ R.frames ∧ 8 + (maxL + 11) + rm.locals ≤ R.locals) (hls : ls.size = nL) (hst : st0 = .ref (X.2.2.1 + k) :: rest) (hr : (rest.map fun v => v.category).sum ≤ 8) (hdg : decode cc pc = .ok (.invokespecial idx, 3)) (hf : cells + mc ≤ R.cells ∧ slots + ms ≤ R.slots)
    (kk : ∀ (H1 : Heap) (locs1 : List Loc), Wd X S' D' H1 → va_S (wd_A X) s.heap H1 locs1 → W p l e R s m args below meth c H1 locs1 (cells + mc) (slots + ms) Q (F0 m (pc + 3) ls rest)) : W p l e R s m args below meth c H locs cells slots Q (F0 m pc ls st0) := by
  have hts := CF.2.2.2.2
  refine W.sized fun hsz => ?_
  refine wd_go (r := none) (va_runI (As := []) (rest := rest) (n := 0) CF hM ⟨wd_cb hts mi.1 hl hrm, mi.2.1, hts _ mi.2.2⟩ ⟨wd_initB, fun U hU hw => ⟨rfl, by rw [hU]; exact hW, hE.warm hS hU hw, by rw [hU]; exact Nat.le_trans hb hS.1, by rw [hU]; omega⟩⟩ rfl rfl hls hst (lv_room hr) hdg hf) hS kk
theorem wd_callIN (CF : CallFix p m c cc nL s args tg own) (hE : wd_Env X s) (hW : Wd X S D H) (hS : va_S (wd_A X) s.heap H locs) (hb : X.2.2.1 ≤ s.heap.size) (hz : s.heap.size + cells ≤ X.2.2.1 + S.1.length) {host : String} (hM : wd_New l X y bytes maxL rm S S' k D D' mc ms) (mi : wd_MI y bytes maxL) (hl : Cond.methodLinkNest own idx y host ∈ lw_tbl) (hrm : rm.cells = mc ∧ rm.slots = ms ∧ rm.frames + 1 ≤ R.frames ∧ 8 + (maxL + 11) + rm.locals ≤ R.locals) (hls : ls.size = nL) (hst : st0 = .ref (X.2.2.1 + k) :: rest) (hr : (rest.map fun v => v.category).sum ≤ 8) (hdg : decode cc pc = .ok (.invokespecial idx, 3)) (hf : cells + mc ≤ R.cells ∧ slots + ms ≤ R.slots)
    (kk : ∀ (H1 : Heap) (locs1 : List Loc), Wd X S' D' H1 → va_S (wd_A X) s.heap H1 locs1 → W p l e R s m args below meth c H1 locs1 (cells + mc) (slots + ms) Q (F0 m (pc + 3) ls rest)) : W p l e R s m args below meth c H locs cells slots Q (F0 m pc ls st0) := by
  have hts := CF.2.2.2.2
  refine W.sized fun hsz => ?_
  refine wd_go (r := none) (va_runIN (As := []) (rest := rest) (n := 0) CF hM ⟨va_cnB 0 hts (tg_goodIn mi.1.1) rfl hrm.1 hrm.2.1 ((hE.2.1 _ hl).1 _ _ _ _ rfl) (hts _ mi.1.2.1) mi.1.2.2 hrm.2.2, mi.2.1, hts _ mi.2.2⟩ ⟨wd_initB, fun U hU hw => ⟨rfl, by rw [hU]; exact hW, hE.warm hS hU hw, by rw [hU]; exact Nat.le_trans hb hS.1, by rw [hU]; omega⟩⟩ rfl rfl hls hst (lv_room hr) hdg hf) hS kk
theorem wd_enterI (hy : plainName y.cls = true) (hA : 1 ≤ maxL)
    (body : ∀ (p : Program) (e : Env) (s : State) (m : MethodId) (below : List Frame) (meth : Method) (c : Code), CallFix p m c bytes maxL s ([.ref (X.2.2.1 + k)] : List Value).toArray tg y.cls → meth.sig.returnType = none → meth.locks = false → meth.name = y.name → Wd X S D s.heap → wd_Env X s → X.2.2.1 ≤ s.heap.size → s.heap.size ≤ X.2.2.1 + S.1.length → ∀ ls : Array Slot, lv_has ls maxL [(0, .ref (X.2.2.1 + k))] →
      W p l e rm s m ([.ref (X.2.2.1 + k)] : List Value).toArray below meth c s.heap [] 0 0 (MQ below (wd_Q X S' D' none) ([.ref (X.2.2.1 + k)] : List Value).toArray s mc ms (wd_A X)) (F0 m 0 ls [])) : wd_New l X y bytes maxL rm S S' k D D' mc ms := by
  refine Met.ofW (cc := bytes) (maxL := maxL) (ret := none) hy rfl ?_
  intro p e s m args below meth c s₁ B hml hv
  obtain ⟨rfl, hW, hE, h1, h2⟩ := hv
  have hts := atoms_spec (ws := Cond.code y bytes maxL none :: tg) B.pre
  have hl := lv_entry ([.ref (X.2.2.1 + k)] : List Value) (n := maxL) hA
  rw [lg_entry_eq]
  exact body p e s m below meth c ⟨B.exec, B.bytes, hml, findClass_of_methodNamed B.named, fun w h => hts w (List.mem_cons_of_mem _ h)⟩ B.returns B.notSynchronized (name_of_methodNamed B.named B.method).1 hW hE h1 h2 _ hl
end WI
