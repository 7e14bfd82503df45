/-! rows of the world: an instruction, a row -/
theorem wd_inX0 : ∀ w ∈ u_ws RX0 TX0 7, w ∈ tg := by decide +kernel
theorem wd_inX1 : ∀ w ∈ u_ws RX1 TX1 8, w ∈ tg := by decide +kernel
theorem wd_inX2 : ∀ w ∈ u_ws RX2 TX2 3, w ∈ tg := by decide +kernel
theorem wd_inX3 : ∀ w ∈ u_ws RX3 TX3 14, w ∈ tg := by decide +kernel
theorem wd_inX4 : ∀ w ∈ u_ws RX4 TX4 3, w ∈ tg := by decide +kernel
theorem wd_inX5 : ∀ w ∈ u_ws RX5 TX5 3, w ∈ tg := by decide +kernel
theorem wd_inX6 : ∀ w ∈ u_ws RX6 TX6 10, w ∈ tg := by decide +kernel
theorem wd_inX7 : ∀ w ∈ u_ws RX7 TX7 18, w ∈ tg := by decide +kernel
theorem wd_in : ∀ ci, ci < 8 → ∀ w ∈ u_ws (wd_R ci) (wd_T ci) (wd_N ci), w ∈ tg
  | 0, _ => wd_inX0 | 1, _ => wd_inX1 | 2, _ => wd_inX2 | 3, _ => wd_inX3 | 4, _ => wd_inX4 | 5, _ => wd_inX5 | 6, _ => wd_inX6 | 7, _ => wd_inX7
  | n + 8, h => absurd h (by omega)
/-- a field of a class, as an instruction of a class names it -/
def wd_FL (own : String) (idx ci j : Nat) : Prop := ci < 8 ∧ j < wd_N ci ∧ Cond.fieldLink own idx (wd_R ci) (wd_T ci j).2.1 (wd_T ci j).2.2.1 ∈ tg ∧ (wd_T ci j).1 = wd_R ci
def wd_bad (i : Int32) (n : Nat) : Bool := decide (i < 0) || decide (n ≤ i.toNatClampNeg)
theorem wd_vin {i : Int32} {n : Nat} (h : wd_bad i n = false) : vp_in i n := by
  intro q
  simp only [wd_bad, Bool.or_eq_false_iff, decide_eq_false_iff_not] at h
  rcases q with q | q
  · exact h.1 q
  · exact h.2 q
def rd (n : Nat) (D : wd_D) (k : Nat) (i : Int32) : Option Int32 := if wd_bad i n then none else some (D.1 k i.toNatClampNeg)
def wr (n : Nat) (D : wd_D) (k : Nat) (i v : Int32) : Option wd_D := if wd_bad i n then none else some (sI D k i.toNatClampNeg v)
def ix (n : Nat) (i : Int32) : Option Nat := if wd_bad i n then none else some i.toNatClampNeg
def rs (k : Nat) (i : Int32) : Option Int32 := if wd_bad i (st_L k).length then none else some (st_v k i.toNatClampNeg)
theorem rd_e {n : Nat} {D : wd_D} {k : Nat} {i x : Int32} (h : rd n D k i = some x) : wd_bad i n = false ∧ D.1 k i.toNatClampNeg = x := by
  unfold rd at h
  cases hb : wd_bad i n with
  | true => rw [hb] at h; cases h
  | false => rw [hb] at h; exact ⟨rfl, Option.some.inj h⟩
theorem wr_e {n : Nat} {D D1 : wd_D} {k : Nat} {i v : Int32} (h : wr n D k i v = some D1) : wd_bad i n = false ∧ sI D k i.toNatClampNeg v = D1 := by
  unfold wr at h
  cases hb : wd_bad i n with
  | true => rw [hb] at h; cases h
  | false => rw [hb] at h; exact ⟨rfl, Option.some.inj h⟩
theorem ix_e {n q : Nat} {i : Int32} (h : ix n i = some q) : wd_bad i n = false ∧ i.toNatClampNeg = q := by
  unfold ix at h
  cases hb : wd_bad i n with
  | true => rw [hb] at h; cases h
  | false => rw [hb] at h; exact ⟨rfl, Option.some.inj h⟩
theorem rs_e {k : Nat} {i x : Int32} (h : rs k i = some x) : wd_bad i (st_L k).length = false ∧ st_v k i.toNatClampNeg = x := by
  unfold rs at h
  cases hb : wd_bad i (st_L k).length with
  | true => rw [hb] at h; cases h
  | false => rw [hb] at h; exact ⟨rfl, Option.some.inj h⟩
def ap {α β : Type} (x : α) (f : α → β) : β := f x
theorem apR {α β : Type} {x y : α} {f : α → β} {t : β} (e : y = x) (h : ap x f = t) : f y = t := by subst e; exact h
theorem bdE {α β : Type} {o : Option α} {f : α → Option β} {r : β} (h : o.bind f = some r) : ∃ x, o = some x ∧ f x = some r := by
  cases o with
  | none => cases h
  | some x => exact ⟨x, rfl, h⟩
section WD
variable {p : Program} {l : Launch} {e : Env} {R : Room} {s : State} {m : MethodId} {args : Array Value} {below : List Frame} {meth : Method} {c : Code} {H : Heap} {locs : List Loc} {cells slots : Nat} {Q : State → Prop}
variable {cc : ByteArray} {pc : Nat} {ls : Array Slot} {rest : List Value} {X : wd_X} {S : wd_S} {D : wd_D} {nL : Nat} {own : String}
theorem W.sized {g : JFrame} (kk : H.size ≤ s.heap.size + cells → W p l e R s m args below meth c H locs cells slots Q g) : W p l e R s m args below meth c H locs cells slots Q g :=
  fun T hT Y => kk (by rw [← hT]; exact Y.heapSize) T hT Y
theorem wd_get (CF : CallFix p m c cc nL s args tg own) (hE : wd_Env X s) (hW : Wd X S D H) {k ci j idx : Nat} (hF : wd_FL own idx ci j) (hsh : S.1[k]? = some (.inl ci)) {v : Value} (hv : fv X S D k j (wd_ty ci j) = v) (hdg : decode cc pc = .ok (.getfield idx, 3))
    (kk : W p l e R s m args below meth c H locs cells slots Q (F0 m (pc + 3) ls (v :: rest))) : W p l e R s m args below meth c H locs cells slots Q (F0 m pc ls (.ref (X.2.2.1 + k) :: rest)) := by
  obtain ⟨hx, hb, -, hown, hts⟩ := CF
  obtain ⟨h8, hj, hl, hd⟩ := hF
  refine va_get (T := wd_T ci) (C := wd_R ci) (N := wd_N ci) (ci := ci) hx hb hts (wd_in ci h8) hown hE.1 hW k (wd_at hsh) (wd_cl ci h8) j hj (hts _ hl) (fun x h => by rw [hd] at h; exact h) (v := v) ?_ hdg kk
  simp [hj, hv]
theorem wd_getR (CF : CallFix p m c cc nL s args tg own) (hE : wd_Env X s) (hW : Wd X S D H) {k ci j idx q : Nat} (hF : wd_FL own idx ci j) (hsh : S.1[k]? = some (.inl ci)) (hq : S.2 k j = some q) (ht : fv X S D k j (wd_ty ci j) = va_rf (wd_f X.2.2.1 (S.2 k j))) (hdg : decode cc pc = .ok (.getfield idx, 3))
    (kk : W p l e R s m args below meth c H locs cells slots Q (F0 m (pc + 3) ls (.ref (X.2.2.1 + q) :: rest))) : W p l e R s m args below meth c H locs cells slots Q (F0 m pc ls (.ref (X.2.2.1 + k) :: rest)) :=
  wd_get CF hE hW hF hsh (v := .ref (X.2.2.1 + q)) (by rw [ht, hq]; rfl) hdg kk
theorem wd_putI (CF : CallFix p m c cc nL s args tg own) (hE : wd_Env X s) (hW : Wd X S D H) (hS : va_S (wd_A X) s.heap H locs) {k ci j idx : Nat} (hF : wd_FL own idx ci j) (hsh : S.1[k]? = some (.inl ci)) (ht : wd_ty ci j = .int) (hf : (wd_T ci j).2.2.2 = false) {v : Int32} (hdg : decode cc pc = .ok (.putfield idx, 3))
    (kk : ∀ (D1 : wd_D) (H1 : Heap) (locs1 : List Loc), D1 = sI D k j v → Wd X S D1 H1 → va_S (wd_A X) s.heap H1 locs1 → W p l e R s m args below meth c H1 locs1 cells slots Q (F0 m (pc + 3) ls rest)) : W p l e R s m args below meth c H locs cells slots Q (F0 m pc ls (.int v :: .ref (X.2.2.1 + k) :: rest)) := by
  obtain ⟨hx, hb, -, hown, hts⟩ := CF
  obtain ⟨h8, hj, hl, hd⟩ := hF
  refine va_put (T := wd_T ci) (C := wd_R ci) (N := wd_N ci) (ci := ci) hx hb hts (wd_in ci h8) (wd_ty ci) (wd_pd ci h8) (wd_nm ci h8) hown hE.1 hW (wd_apart X S D) hS k (wd_at hsh) (wd_cl ci h8) j hj (hts _ hl) (fun x h => by rw [hd] at h; exact h) hf (ty := .int) (v := .int v) (by rw [wd_pd ci h8 j hj, ht]) rfl rfl (by simp [hj]) hdg fun H1 locs1 hP1 hD1 hS1 => ?_
  rw [wd_fsI ht] at hP1
  have hw := wd_set (X := X) (S := S) (S' := S) (D := D) (D' := sI D k j v) hsh rfl (fun a sh' ha => wd_oI sh' ha)
  simp only [wd_E] at hw hP1
  rw [hw] at hP1
  exact kk _ H1 locs1 rfl hP1 hS1
theorem wd_putJ (CF : CallFix p m c cc nL s args tg own) (hE : wd_Env X s) (hW : Wd X S D H) (hS : va_S (wd_A X) s.heap H locs) {k ci j idx : Nat} (hF : wd_FL own idx ci j) (hsh : S.1[k]? = some (.inl ci)) (ht : wd_ty ci j = .long) (hf : (wd_T ci j).2.2.2 = false) {v : Int64} (hdg : decode cc pc = .ok (.putfield idx, 3))
    (kk : ∀ (D1 : wd_D) (H1 : Heap) (locs1 : List Loc), D1 = sJ D k j v → Wd X S D1 H1 → va_S (wd_A X) s.heap H1 locs1 → W p l e R s m args below meth c H1 locs1 cells slots Q (F0 m (pc + 3) ls rest)) : W p l e R s m args below meth c H locs cells slots Q (F0 m pc ls (.long v :: .ref (X.2.2.1 + k) :: rest)) := by
  obtain ⟨hx, hb, -, hown, hts⟩ := CF
  obtain ⟨h8, hj, hl, hd⟩ := hF
  refine va_put (T := wd_T ci) (C := wd_R ci) (N := wd_N ci) (ci := ci) hx hb hts (wd_in ci h8) (wd_ty ci) (wd_pd ci h8) (wd_nm ci h8) hown hE.1 hW (wd_apart X S D) hS k (wd_at hsh) (wd_cl ci h8) j hj (hts _ hl) (fun x h => by rw [hd] at h; exact h) hf (ty := .long) (v := .long v) (by rw [wd_pd ci h8 j hj, ht]) rfl rfl (by simp [hj]) hdg fun H1 locs1 hP1 hD1 hS1 => ?_
  rw [wd_fsJ ht] at hP1
  have hw := wd_set (X := X) (S := S) (S' := S) (D := D) (D' := sJ D k j v) hsh rfl (fun a sh' ha => wd_oJ sh' ha)
  simp only [wd_E] at hw hP1
  rw [hw] at hP1
  exact kk _ H1 locs1 rfl hP1 hS1
theorem wd_iald (CF : CallFix p m c cc nL s args tg own) (hE : wd_Env X s) (hW : Wd X S D H) {k n : Nat} (hsh : S.1[k]? = some (.inr (0, n))) {i x : Int32} (h : rd n D k i = some x) (hdg : decode cc pc = .ok (.iaload, 1))
    (kk : W p l e R s m args below meth c H locs cells slots Q (F0 m (pc + 1) ls (.int x :: rest))) : W p l e R s m args below meth c H locs cells slots Q (F0 m pc ls (.int i :: .ref (X.2.2.1 + k) :: rest)) := by
  obtain ⟨hx, hb, -, hown, hts⟩ := CF
  obtain ⟨h1, h2⟩ := rd_e h
  subst h2
  exact va_iald (f := D.1 k) (n := n) (cA := X.2.1.1) hx hb hE.1 hW k 0 (wd_at hsh) rfl (wd_vin h1) hdg kk
theorem wd_zald (CF : CallFix p m c cc nL s args tg own) (hE : wd_Env X s) (hW : Wd X S D H) {k n : Nat} (hsh : S.1[k]? = some (.inr (1, n))) {i x : Int32} (h : rd n D k i = some x) (hdg : decode cc pc = .ok (.baload, 1))
    (kk : W p l e R s m args below meth c H locs cells slots Q (F0 m (pc + 1) ls (.int x :: rest))) : W p l e R s m args below meth c H locs cells slots Q (F0 m pc ls (.int i :: .ref (X.2.2.1 + k) :: rest)) := by
  obtain ⟨hx, hb, -, hown, hts⟩ := CF
  obtain ⟨h1, h2⟩ := rd_e h
  subst h2
  exact va_zald (f := D.1 k) (n := n) (cA := X.2.1.2.1) hx hb hE.1 hW k 1 (wd_at hsh) rfl (wd_vin h1) hdg kk
theorem wd_updE {k a : Nat} {v : Int32} : upd (D.1 k) a v = (sI D k a v).1 k := by
  funext b; simp [upd, sI]
theorem wd_iast (CF : CallFix p m c cc nL s args tg own) (hE : wd_Env X s) (hW : Wd X S D H) (hS : va_S (wd_A X) s.heap H locs) {k n : Nat} (hsh : S.1[k]? = some (.inr (0, n))) {i v : Int32} {D1 : wd_D} (h : wr n D k i v = some D1) (hdg : decode cc pc = .ok (.iastore, 1))
    (kk : ∀ (H1 : Heap) (locs1 : List Loc), Wd X S D1 H1 → va_S (wd_A X) s.heap H1 locs1 → W p l e R s m args below meth c H1 locs1 cells slots Q (F0 m (pc + 1) ls rest)) : W p l e R s m args below meth c H locs cells slots Q (F0 m pc ls (.int v :: .int i :: .ref (X.2.2.1 + k) :: rest)) := by
  obtain ⟨hx, hb, -, hown, hts⟩ := CF
  obtain ⟨h1, h2⟩ := wr_e h
  subst h2
  refine va_iast (f := D.1 k) (n := n) (cA := X.2.1.1) hx hb hE.1 hW (wd_apart X S D) hS k 0 (wd_at hsh) rfl (wd_vin h1) hdg fun H1 locs1 hP1 hD1 hS1 => ?_
  have hw := wd_set (X := X) (S := S) (S' := S) (D := D) (D' := sI D k i.toNatClampNeg v) hsh rfl (fun a sh' ha => wd_oI sh' ha)
  simp only [wd_E] at hw
  rw [wd_updE, hw] at hP1
  exact kk H1 locs1 hP1 hS1
theorem wd_zast (CF : CallFix p m c cc nL s args tg own) (hE : wd_Env X s) (hW : Wd X S D H) (hS : va_S (wd_A X) s.heap H locs) {k n : Nat} (hsh : S.1[k]? = some (.inr (1, n))) {i v : Int32} {D1 : wd_D} (h : wr n D k i (vp_nar .boolean v) = some D1) (hdg : decode cc pc = .ok (.bastore, 1))
    (kk : ∀ (H1 : Heap) (locs1 : List Loc), Wd X S D1 H1 → va_S (wd_A X) s.heap H1 locs1 → W p l e R s m args below meth c H1 locs1 cells slots Q (F0 m (pc + 1) ls rest)) : W p l e R s m args below meth c H locs cells slots Q (F0 m pc ls (.int v :: .int i :: .ref (X.2.2.1 + k) :: rest)) := by
  obtain ⟨hx, hb, -, hown, hts⟩ := CF
  obtain ⟨h1, h2⟩ := wr_e h
  subst h2
  refine va_zast (f := D.1 k) (n := n) (cA := X.2.1.2.1) hx hb hE.1 hW (wd_apart X S D) hS k 1 (wd_at hsh) rfl (wd_vin h1) hdg fun H1 locs1 hP1 hD1 hS1 => ?_
  have hw := wd_set (X := X) (S := S) (S' := S) (D := D) (D' := sI D k i.toNatClampNeg (vp_nar .boolean v)) hsh rfl (fun a sh' ha => wd_oI sh' ha)
  simp only [wd_E] at hw
  rw [wd_updE, hw] at hP1
  exact kk H1 locs1 hP1 hS1
theorem wd_aald2 (CF : CallFix p m c cc nL s args tg own) (hE : wd_Env X s) (hW : Wd X S D H) {k n : Nat} (hsh : S.1[k]? = some (.inr (2, n))) {i : Int32} {a q : Nat} (h : ix n i = some a) (hq : S.2 k a = some q) (hdg : decode cc pc = .ok (.aaload, 1))
    (kk : W p l e R s m args below meth c H locs cells slots Q (F0 m (pc + 1) ls (.ref (X.2.2.1 + q) :: rest))) : W p l e R s m args below meth c H locs cells slots Q (F0 m pc ls (.int i :: .ref (X.2.2.1 + k) :: rest)) := by
  obtain ⟨hx, hb, -, hown, hts⟩ := CF
  obtain ⟨h1, h2⟩ := ix_e h
  subst h2
  refine va_aldq (C := RX3) (f := fun j => wd_f X.2.2.1 (S.2 k j)) (n := n) (cA := X.2.1.2.2.1) hx hb hE.1 hW k 2 (wd_at hsh) rfl (wd_vin h1) hdg ?_
  rw [hq]; exact kk
theorem wd_aald3 (CF : CallFix p m c cc nL s args tg own) (hE : wd_Env X s) (hW : Wd X S D H) {k n : Nat} (hsh : S.1[k]? = some (.inr (3, n))) {i : Int32} {a q : Nat} (h : ix n i = some a) (hq : S.2 k a = some q) (hdg : decode cc pc = .ok (.aaload, 1))
    (kk : W p l e R s m args below meth c H locs cells slots Q (F0 m (pc + 1) ls (.ref (X.2.2.1 + q) :: rest))) : W p l e R s m args below meth c H locs cells slots Q (F0 m pc ls (.int i :: .ref (X.2.2.1 + k) :: rest)) := by
  obtain ⟨hx, hb, -, hown, hts⟩ := CF
  obtain ⟨h1, h2⟩ := ix_e h
  subst h2
  refine va_aldq (C := RX4) (f := fun j => wd_f X.2.2.1 (S.2 k j)) (n := n) (cA := X.2.1.2.2.2) hx hb hE.1 hW k 3 (wd_at hsh) rfl (wd_vin h1) hdg ?_
  rw [hq]; exact kk
theorem wd_alen2 (CF : CallFix p m c cc nL s args tg own) (hE : wd_Env X s) (hW : Wd X S D H) {k n : Nat} (hsh : S.1[k]? = some (.inr (2, n))) {v : Int32} (hv : Int32.ofNat n = v) (hdg : decode cc pc = .ok (.arraylength, 1))
    (kk : W p l e R s m args below meth c H locs cells slots Q (F0 m (pc + 1) ls (.int v :: rest))) : W p l e R s m args below meth c H locs cells slots Q (F0 m pc ls (.ref (X.2.2.1 + k) :: rest)) := by
  obtain ⟨hx, hb, -, hown, hts⟩ := CF
  exact va_alen hx hb hE.1 hW k 2 (wd_at hsh) rfl hv hdg kk
-- the tables
theorem wd_sget (CF : CallFix p m c cc nL s args tg own) (hE : wd_Env X s) (hS : va_S (wd_A X) s.heap H locs) (k : Nat) (hk : k < 6) {idx : Nat} (hl : Cond.fieldLink own idx (st_C k) (st_n k) "[I" ∈ tg) (hdg : decode cc pc = .ok (.getstatic idx, 3))
    (kk : W p l e R s m args below meth c H locs cells slots Q (F0 m (pc + 3) ls (.ref (X.2.2.2 k) :: rest))) : W p l e R s m args below meth c H locs cells slots Q (F0 m pc ls rest) := by
  obtain ⟨hx, hb, -, hown, hts⟩ := CF
  exact va_gets hx hb (hE.2.2.2.2 k hk).1 hS hown (hts _ hl) (fun _ h => h) hdg kk
theorem wd_sald (CF : CallFix p m c cc nL s args tg own) (hE : wd_Env X s) (hS : va_S (wd_A X) s.heap H locs) (k : Nat) (hk : k < 6) {i x : Int32} (h : rs k i = some x) (hdg : decode cc pc = .ok (.iaload, 1))
    (kk : W p l e R s m args below meth c H locs cells slots Q (F0 m (pc + 1) ls (.int x :: rest))) : W p l e R s m args below meth c H locs cells slots Q (F0 m pc ls (.int i :: .ref (X.2.2.2 k) :: rest)) := by
  obtain ⟨hx, hb, -, hown, hts⟩ := CF
  obtain ⟨h1, h2⟩ := rs_e h
  subst h2
  obtain ⟨cell, g1, g2, g3, g4, g5, g6, g7⟩ := (hE.2.2.2.2 k hk).2
  have hv := wd_vin h1
  have hlt : i.toNatClampNeg < (st_L k).length := Nat.not_le.mp fun q => hv (Or.inr q)
  exact W.iald (v := .int (st_v k i.toNatClampNeg)) hx hb (by rw [hS.2.1 _ (Array.getElem?_eq_some_iff.mp g1).1 g7]; exact g1) g2 g3 (fun q => hv (q.elim Or.inl (fun z => absurd (Nat.le_trans g4 z) (Nat.not_le.mpr hlt)))) (g6 _ hlt) rfl rfl hdg kk
theorem wd_slen (CF : CallFix p m c cc nL s args tg own) (hE : wd_Env X s) (hS : va_S (wd_A X) s.heap H locs) (k : Nat) (hk : k < 6) {v : Int32} (hv : Int32.ofNat (st_L k).length = v) (hdg : decode cc pc = .ok (.arraylength, 1))
    (kk : W p l e R s m args below meth c H locs cells slots Q (F0 m (pc + 1) ls (.int v :: rest))) : W p l e R s m args below meth c H locs cells slots Q (F0 m pc ls (.ref (X.2.2.2 k) :: rest)) := by
  obtain ⟨hx, hb, -, hown, hts⟩ := CF
  obtain ⟨cell, g1, g2, g3, g4, g5, g6, g7⟩ := (hE.2.2.2.2 k hk).2
  exact W.alen (n := v) hx hb (by rw [hS.2.1 _ (Array.getElem?_eq_some_iff.mp g1).1 g7]; exact g1) g2 (by rw [g5, hv]) rfl rfl hdg kk
end WD
