/-! THE START: what the launch gives -/
theorem en_inst : ∀ ci, ci < 8 → Cond.instantiable (wd_R ci) (wd_N ci) ∈ tg
  | 0, _ => tw179 | 1, _ => tw141 | 2, _ => tw122 | 3, _ => tw43 | 4, _ => tw208 | 5, _ => tw23 | 6, _ => tw13 | 7, _ => tw749
  | n + 8, h => absurd h (by omega)
theorem en_lay : ∀ k, k < 6 → Cond.laysStatic (st_C k) (st_n k) "[I" ∈ lw_tbl := by decide +kernel
theorem en_ini : ∀ k, k < 6 → Cond.initialized (st_C k) ∈ lw_tbl := by decide +kernel
theorem en_ao3 : Cond.arrayOver (.object RX3) ∈ lw_tbl := by decide +kernel
theorem en_ao4 : Cond.arrayOver (.object RX4) ∈ lw_tbl := by decide +kernel
theorem en_arr : ∀ k, k < 6 → Cond.arrayOf (.static (st_C k) (st_n k) "[I") .int ∈ flatC (Jvm.Cond.and given_1 narrow_1) := by decide +kernel
theorem en_len : ∀ k, k < 6 → Cond.eq (.length (.static (st_C k) (st_n k) "[I")) (.int (Int32.ofNat (st_L k).length)) ∈ flatC (Jvm.Cond.and given_1 narrow_1) := by decide +kernel
theorem en_el : ∀ k, k < 6 → ∀ j, j < (st_L k).length → Cond.eq (.elem (.static (st_C k) (st_n k) "[I") (.int (Int32.ofNat j))) (.int (st_v k j)) ∈ flatC (Jvm.Cond.and given_1 narrow_1) := by decide +kernel
theorem en_lt : ∀ k, k < 6 → (st_L k).length < 2 ^ 31 := by decide +kernel
theorem en_pick {α β : Type} {r : α → β → Prop} (h : ∀ x, ∃ y, r x y) : ∃ f : α → β, ∀ x, r x (f x) := ⟨fun x => Classical.choose (h x), fun x => Classical.choose_spec (h x)⟩
theorem en_start {s : State} {b : Nat} (hts : ∀ w ∈ lw_tbl, w.before #[Value.ref b] s = true) (hgv : (Jvm.Cond.and given_1 narrow_1).before #[Value.ref b] s = true) : ∃ X : wd_X, X.2.2.1 = s.heap.size ∧ wd_Env X s := by
  have htg : ∀ w ∈ tg, w.before #[Value.ref b] s = true := fun w h => hts w (List.mem_filter.mp h).1
  have hs := flat_of_before _ hgv
  obtain ⟨dP, hdP⟩ := en_pick (r := fun (ci : Nat) (q : ClassId × (Nat → Nat)) => ci < 8 → u_Kn s (wd_R ci) (wd_T ci) (wd_N ci) q.1 q.2) (fun ci => by
    by_cases h : ci < 8
    · obtain ⟨cC, iS, hk⟩ := u_known htg (wd_in ci h) (htg _ (en_inst ci h))
      exact ⟨(cC, iS), fun _ => hk⟩
    · exact ⟨(0, fun _ => 0), fun z => absurd z h⟩)
  obtain ⟨f, hf⟩ := en_pick (r := fun (k : Nat) (t : Nat) => k < 6 → va_Z (st_C k) (st_n k) "[I" (.ref t) (fun q => s.heap.size ≤ q) s s.heap ∧ va_T .int t (st_L k).length (fun j => .int (st_v k j)) (fun q => s.heap.size ≤ q) s s.heap) (fun k => by
    by_cases h : k < 6
    · have hA : ∀ a : Nat, a < s.heap.size → ¬ (fun q => s.heap.size ≤ q) a := fun a ha => Nat.not_le.mpr ha
      obtain ⟨t, ht, hT⟩ := va_Tof (f := fun j => .int (st_v k j)) (en_lt k h) (hs _ (en_arr k h)) (va_eqt (hs _ (en_len k h))) (fun j hj => va_eqt (hs _ (en_el k h j hj))) hA
      exact ⟨t, fun _ => ⟨va_Zof (hts _ (en_lay k h)) (hts _ (en_ini k h)) ht hA, hT⟩⟩
    · exact ⟨0, fun z => absurd z h⟩)
  obtain ⟨cI, kI, oI, i1, i2, i3⟩ := Cond.arrayClass_spec (htg _ tw41)
  obtain ⟨cZ, kZ, oZ, z1, z2, z3⟩ := Cond.arrayClass_spec (htg _ tw809)
  have a3 : va_AO RX3 s := va_AO.of (hts _ en_ao3)
  have a4 : va_AO RX4 s := va_AO.of (hts _ en_ao4)
  obtain ⟨o3, c3, k3, p1, -, p3, p4, p5⟩ := Cond.arrayOver_spec a3
  obtain ⟨o4, c4, k4, q1, -, q3, q4, q5⟩ := Cond.arrayOver_spec a4
  refine ⟨((fun c => (dP c).1, fun c => (dP c).2), (cI, cZ, c3, c4), s.heap.size, f), rfl, ⟨fun c q hq => ?_, fun k q hk => ?_⟩, fun w hw => ⟨fun a i y h e => ?_, fun a i bb n d h e => ?_⟩, a3, a4, hf⟩
  · by_cases h : c < 8
    · have := wd_cl c h
      rw [this] at hq
      cases hq
      exact hdP c h
    · have : vwCl[c]? = none := List.getElem?_eq_none (by show 8 ≤ c; omega)
      rw [this] at hq; cases hq
  · match k, hk with
    | 0, hk => cases hk; exact ⟨fun n z => ⟨fun k h => (by cases h), kI, i2, oI, i3⟩, i1⟩
    | 1, hk => cases hk; exact ⟨fun n z => ⟨fun k h => (by cases h), kZ, z2, oZ, z3⟩, z1⟩
    | 2, hk => cases hk; exact ⟨fun n z => ⟨fun k h => (by cases h), k3, p3, o3, p4⟩, k3, o3, p3, p4, p1, p5⟩
    | 3, hk => cases hk; exact ⟨fun n z => ⟨fun k h => (by cases h), k4, q3, o4, q4⟩, k4, o4, q3, q4, q1, q5⟩
    | k + 4, hk => simp [wd_tys] at hk
  · subst e; exact va_Nw.of rfl (hts _ hw)
  · subst e; exact va_Nw.of rfl (hts _ hw)
