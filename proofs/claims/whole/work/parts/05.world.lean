/-! THE WORLD: every cell that the law makes has a place k, and lies at the address base + k; what it holds is read off D (numbers) and S (shapes, references) -/
abbrev wd_Sh : Type := Nat ⊕ (Nat × Nat)
abbrev wd_S : Type := List wd_Sh × (Nat → Nat → Option Nat)
abbrev wd_D : Type := (Nat → Nat → Int32) × (Nat → Nat → Int64)
abbrev wd_C : Type := ClassId × ClassId × ClassId × ClassId
abbrev wd_X : Type := va_G × wd_C × Nat × (Nat → Nat)
def gI (D : wd_D) (k j : Nat) : Int32 := D.1 k j
def gJ (D : wd_D) (k j : Nat) : Int64 := D.2 k j
def sI (D : wd_D) (k j : Nat) (v : Int32) : wd_D := (fun a b => if a = k ∧ b = j then v else D.1 a b, D.2)
def sJ (D : wd_D) (k j : Nat) (v : Int64) : wd_D := (D.1, fun a b => if a = k ∧ b = j then v else D.2 a b)
def wd_N : Nat → Nat
  | 0 => 7 | 1 => 8 | 2 => 3 | 3 => 14 | 4 => 3 | 5 => 3 | 6 => 10 | _ => 18
def wd_R : Nat → String
  | 0 => RX0 | 1 => RX1 | 2 => RX2 | 3 => RX3 | 4 => RX4 | 5 => RX5 | 6 => RX6 | _ => RX7
def wd_T : Nat → u_T
  | 0 => TX0 | 1 => TX1 | 2 => TX2 | 3 => TX3 | 4 => TX4 | 5 => TX5 | 6 => TX6 | _ => TX7
def wd_ty : Nat → Nat → FieldType
  | 0 => tyX0 | 1 => tyX1 | 2 => tyX2 | 3 => tyX3 | 4 => tyX4 | 5 => tyX5 | 6 => tyX6 | _ => tyX7
def wd_f (b : Nat) (r : Option Nat) : Option Nat := r.map (fun q => b + q)
def fv (X : wd_X) (S : wd_S) (D : wd_D) (k j : Nat) : FieldType → Value
  | .int => .int (D.1 k j)
  | .long => .long (D.2 k j)
  | _ => va_rf (wd_f X.2.2.1 (S.2 k j))
def wd_E (X : wd_X) (S : wd_S) (D : wd_D) (k : Nat) : wd_Sh → va_E
  | .inl ci => .inr (ci, (List.range (wd_N ci)).map (fun j => fv X S D k j (wd_ty ci j)))
  | .inr (0, n) => .inl (X.2.1.1, n, .inl (D.1 k))
  | .inr (1, n) => .inl (X.2.1.2.1, n, .inl (D.1 k))
  | .inr (2, n) => .inl (X.2.1.2.2.1, n, .inr (.inr (.inr (.inr (fun j => wd_f X.2.2.1 (S.2 k j))))))
  | .inr (_, n) => .inl (X.2.1.2.2.2, n, .inr (.inr (.inr (.inr (fun j => wd_f X.2.2.1 (S.2 k j))))))
def wd_W (X : wd_X) (S : wd_S) (D : wd_D) : va_W := S.1.mapIdx (fun k sh => (X.2.2.1 + k, wd_E X S D k sh))
def wd_A (X : wd_X) : Nat → Prop := fun q => X.2.2.1 ≤ q
def Wd (X : wd_X) (S : wd_S) (D : wd_D) (H : Heap) : Prop := va_P X.1 vwCl (wd_W X S D) H
def wd_tys (X : wd_X) : List (ClassId × FieldType) := [(X.2.1.1, .int), (X.2.1.2.1, .boolean), (X.2.1.2.2.1, .object RX3), (X.2.1.2.2.2, .object RX4)]
-- the six tables of numbers that the class holds
def st_C : Nat → String
  | 0 => RX5 | 1 => RX5 | 2 => RX5 | 3 => RX6 | 4 => RX0 | _ => RX0
def st_n : Nat → String
  | 0 => "STANDS" | 1 => "LEAST" | 2 => "MOST" | 3 => "ABOVE" | 4 => "SIZE_BODIES" | _ => "MARK_BODIES"
def st_L : Nat → List Int32
  | 0 => [0, 1, 2, 1, 3, 4, 1, 2, 1, 2, 1, 3]
  | 1 => [0, 0, 0, 1, 0, 0, 1, 0, 0, 0, 0, 0]
  | 2 => [0, 3, 0, 9, 0, 0, 9, 0, 9, 0, 9, 0]
  | 3 => [-1, 0, 1, 1, 0, 4]
  | 4 => [10, 11, 12, 0, 13, 14]
  | _ => [20, 21, 24, 22, 23, 0]
def st_v (k j : Nat) : Int32 := (st_L k).getD j 0
def wd_Sta (X : wd_X) (U : State) (H : Heap) : Prop := ∀ k, k < 6 → va_Z (st_C k) (st_n k) "[I" (.ref (X.2.2.2 k)) (wd_A X) U H ∧ va_T .int (X.2.2.2 k) (st_L k).length (fun j => .int (st_v k j)) (wd_A X) U H
-- the words of nest mates
def wd_nestM : List (String × Nat × MethodName) := [(RX6, 17, yX5_init), (RX6, 24, yX3_init), (RX6, 46, yX0_init), (RX6, 49, yX4_init)]
def wd_Env (X : wd_X) (U : State) : Prop := va_K X.1 vwCl (wd_tys X) U ∧ (∀ w ∈ lw_tbl, (∀ a i y h, w = .methodLinkNest a i y h → va_Nw w U) ∧ (∀ a i b n d h, w = .fieldLinkNest a i b n d h → va_Nw w U)) ∧ va_AO RX3 U ∧ va_AO RX4 U ∧ wd_Sta X U U.heap
theorem wd_at {X : wd_X} {S : wd_S} {D : wd_D} {k : Nat} {sh : wd_Sh} (h : S.1[k]? = some sh) : (wd_W X S D)[k]? = some (X.2.2.1 + k, wd_E X S D k sh) := by
  simp [wd_W, h]
theorem wd_apart (X : wd_X) (S : wd_S) (D : wd_D) : va_D (wd_A X) (wd_W X S D) := by
  have key : ∀ (i : Nat) (q : Nat × va_E), (wd_W X S D)[i]? = some q → q.1 = X.2.2.1 + i := by
    intro i q h
    rw [wd_W, List.getElem?_mapIdx] at h
    cases hs : S.1[i]? with
    | none => rw [hs] at h; cases h
    | some sh => rw [hs] at h; cases h; rfl
  refine ⟨fun i j p q hi hj hpq => ?_, fun k q hk => ?_⟩
  · have h1 := key i p hi
    have h2 := key j q hj
    omega
  · show X.2.2.1 ≤ q.1
    rw [key k q hk]
    omega
theorem wd_set {X : wd_X} {S S' : wd_S} {D D' : wd_D} {k : Nat} {sh : wd_Sh} (h : S.1[k]? = some sh) (hS : S'.1 = S.1) (ho : ∀ a sh', a ≠ k → wd_E X S' D' a sh' = wd_E X S D a sh') : (wd_W X S D).set k (X.2.2.1 + k, wd_E X S' D' k sh) = wd_W X S' D' := by
  apply List.ext_getElem?
  intro i
  rw [List.getElem?_set]
  by_cases hi : k = i
  · subst hi
    have hl : k < (wd_W X S D).length := (List.getElem?_eq_some_iff.mp (wd_at (D := D) (X := X) h)).1
    rw [if_pos rfl, if_pos hl, wd_at (S := S') (by rw [hS]; exact h)]
  · rw [if_neg hi, wd_W, wd_W, List.getElem?_mapIdx, List.getElem?_mapIdx, hS]
    cases hs : S.1[i]? with
    | none => rfl
    | some sh' => simp only [Option.map_some]; rw [ho i sh' (fun e => hi e.symm)]
theorem wd_oI {X : wd_X} {S : wd_S} {D : wd_D} {k j a : Nat} {v : Int32} (sh : wd_Sh) (h : a ≠ k) : wd_E X S (sI D k j v) a sh = wd_E X S D a sh := by
  have e : (sI D k j v).1 a = D.1 a := by funext b; simp [sI, h]
  rcases sh with ci | ⟨t, n⟩
  · simp only [wd_E]
    congr 2
    refine List.map_congr_left (fun b _ => ?_)
    cases wd_ty ci b <;> simp [fv, e] <;> rfl
  · match t with
    | 0 => simp [wd_E, e]
    | 1 => simp [wd_E, e]
    | 2 => simp [wd_E]
    | t + 3 => simp [wd_E]
theorem wd_oJ {X : wd_X} {S : wd_S} {D : wd_D} {k j a : Nat} {v : Int64} (sh : wd_Sh) (h : a ≠ k) : wd_E X S (sJ D k j v) a sh = wd_E X S D a sh := by
  have e : (sJ D k j v).2 a = D.2 a := by funext b; simp [sJ, h]
  have e1 : (sJ D k j v).1 = D.1 := rfl
  rcases sh with ci | ⟨t, n⟩
  · simp only [wd_E]
    congr 2
    refine List.map_congr_left (fun b _ => ?_)
    cases wd_ty ci b <;> simp [fv, e, e1] <;> rfl
  · match t with
    | 0 => simp [wd_E, e1]
    | 1 => simp [wd_E, e1]
    | 2 => simp [wd_E]
    | t + 3 => simp [wd_E]
theorem wd_fsI {X : wd_X} {S : wd_S} {D : wd_D} {k ci j : Nat} {v : Int32} (ht : wd_ty ci j = .int) : ((List.range (wd_N ci)).map (fun i => fv X S D k i (wd_ty ci i))).set j (.int v) = (List.range (wd_N ci)).map (fun i => fv X S (sI D k j v) k i (wd_ty ci i)) := by
  apply List.ext_getElem?
  intro i
  rw [List.getElem?_set]
  by_cases hi : j = i
  · subst hi
    by_cases hl : j < wd_N ci
    · simp [hl, ht, fv, sI]
    · simp [hl]
  · rw [if_neg hi, List.getElem?_map, List.getElem?_map]
    cases hs : (List.range (wd_N ci))[i]? with
    | none => rfl
    | some b =>
      have hb : b = i := by
        have := List.getElem?_range (n := wd_N ci) (i := i) (by simpa using (List.getElem?_eq_some_iff.mp hs).1)
        rw [this] at hs; exact (Option.some.inj hs).symm
      subst hb
      simp only [Option.map_some]
      cases wd_ty ci b <;> simp [fv, sI] <;> try rfl
      intro e; exact absurd e.symm hi
theorem wd_fsJ {X : wd_X} {S : wd_S} {D : wd_D} {k ci j : Nat} {v : Int64} (ht : wd_ty ci j = .long) : ((List.range (wd_N ci)).map (fun i => fv X S D k i (wd_ty ci i))).set j (.long v) = (List.range (wd_N ci)).map (fun i => fv X S (sJ D k j v) k i (wd_ty ci i)) := by
  apply List.ext_getElem?
  intro i
  rw [List.getElem?_set]
  by_cases hi : j = i
  · subst hi
    by_cases hl : j < wd_N ci
    · simp [hl, ht, fv, sJ]
    · simp [hl]
  · rw [if_neg hi, List.getElem?_map, List.getElem?_map]
    cases hs : (List.range (wd_N ci))[i]? with
    | none => rfl
    | some b =>
      have hb : b = i := by
        have := List.getElem?_range (n := wd_N ci) (i := i) (by simpa using (List.getElem?_eq_some_iff.mp hs).1)
        rw [this] at hs; exact (Option.some.inj hs).symm
      subst hb
      simp only [Option.map_some]
      cases wd_ty ci b <;> simp [fv, sJ] <;> try rfl
      intro e; exact absurd e.symm hi
theorem wd_cl : ∀ ci, ci < 8 → vwCl[ci]? = some (wd_R ci, wd_T ci, wd_N ci)
  | 0, _ => rfl | 1, _ => rfl | 2, _ => rfl | 3, _ => rfl | 4, _ => rfl | 5, _ => rfl | 6, _ => rfl | 7, _ => rfl
  | n + 8, h => absurd h (by omega)
theorem wd_pd : ∀ ci, ci < 8 → ∀ k, k < wd_N ci → parseFieldDescriptor (wd_T ci k).2.2.1 = some (wd_ty ci k)
  | 0, _ => tyX0_ok | 1, _ => tyX1_ok | 2, _ => tyX2_ok | 3, _ => tyX3_ok | 4, _ => tyX4_ok | 5, _ => tyX5_ok | 6, _ => tyX6_ok | 7, _ => tyX7_ok
  | n + 8, h => absurd h (by omega)
theorem wd_nm : ∀ ci, ci < 8 → ∀ a, a < wd_N ci → ∀ b, b < wd_N ci → a ≠ b → (wd_T ci a).2.1 ≠ (wd_T ci b).2.1
  | 0, _ => nmX0 | 1, _ => nmX1 | 2, _ => nmX2 | 3, _ => nmX3 | 4, _ => nmX4 | 5, _ => nmX5 | 6, _ => nmX6 | 7, _ => nmX7
  | n + 8, h => absurd h (by omega)
