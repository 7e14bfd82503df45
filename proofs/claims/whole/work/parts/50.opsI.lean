/-! who -/
theorem nfound {x : Int32} (hx : x = 1 ∨ x = 2) : ¬ (0 : Int32) ≤ -1000010 - x := by
  rcases hx with rfl | rfl <;> decide +kernel
theorem nfound0 {x : Int32} (hx : x = 1 ∨ x = 2) : ¬ x = 0 := by
  rcases hx with rfl | rfl <;> decide
theorem m_ag {o : Option (Int32 × wd_D)} {x : Int32} {E : wd_D} {F : Int32 × wd_D → Option (Int32 × wd_D)} (h : o = some (x, E)) (hn : ¬ 0 ≤ x) : o.bind (fun q => ap q.1 (fun y => if 0 ≤ y then F q else some (y, q.2))) = some (x, E) := by
  subst h; exact if_neg hn
theorem c_ag {x y : Int32} {D : wd_D} {A : Option (Int32 × wd_D)} (h : y = x) (hx : ¬ x = 0) : ap y (fun z => if z = 0 then A else ap (f_X6_found z D) (fun q => some (q.1, q.2))) = some (-1000010 - x, sI D 0 9 x) := by
  subst h; exact if_neg hx
theorem fit_c {w : Nat} {a2 : Int32} {D1 : wd_D} {q : Option (Int32 × wd_D)} (hw : w < 4) (x2 : f_X1_fittingTraits_L35 FU 4 a2 (nI w) (nI (thi w)) 0 (nI (tlo w)) D1 = q) : f_X1_fittingTraits 4 a2 (nI w) D1 = q := by
  unfold f_X1_fittingTraits
  have k1 : ¬ nI 1 = (0 : Int32) := by decide
  have k2 : ¬ nI 2 = (0 : Int32) := by decide
  have k3 : ¬ nI 3 = (0 : Int32) := by decide
  rcases (show w = 0 ∨ w = 1 ∨ w = 2 ∨ w = 3 by omega) with rfl | rfl | rfl | rfl
  · rw [if_pos (show nI 0 = (0 : Int32) from rfl), f_X1_fittingTraits_L9, f_X1_fittingTraits_L14, if_pos (show nI 0 = (0 : Int32) from rfl), f_X1_fittingTraits_L26, ← x2]; rfl
  · rw [if_neg k1, if_pos (show nI 1 = (1 : Int32) from rfl), f_X1_fittingTraits_L9, f_X1_fittingTraits_L14, if_neg k1, f_X1_fittingTraits_L26, ← x2]; rfl
  · rw [if_neg k2, if_neg (show ¬ nI 2 = (1 : Int32) by decide), f_X1_fittingTraits_L14, if_neg k2, f_X1_fittingTraits_L26, ← x2]; rfl
  · rw [if_neg k3, if_neg (show ¬ nI 3 = (1 : Int32) by decide), f_X1_fittingTraits_L14, if_neg k3, f_X1_fittingTraits_L26, ← x2]; rfl
theorem who_m {w : Nat} {a1 a3 a4 a5 : Int32} {E : wd_D} {q : Option (Int32 × wd_D)} (hw : w < 4) (x : f_X7_who_L109 FU a1 (nI w) a3 a4 a5 (nI (fld w)) 0 (nI (tlo w)) E = q) : (if nI w = 0 then f_X7_who_L92 a1 (nI w) a3 a4 a5 42 E else (if nI w = 1 then f_X7_who_L92 a1 (nI w) a3 a4 a5 1 E else (if nI w = 2 then f_X7_who_L92 a1 (nI w) a3 a4 a5 49 E else f_X7_who_L92 a1 (nI w) a3 a4 a5 56 E))) = q := by
  have k1 : ¬ nI 1 = (0 : Int32) := by decide
  have k2 : ¬ nI 2 = (0 : Int32) := by decide
  have k3 : ¬ nI 3 = (0 : Int32) := by decide
  rcases (show w = 0 ∨ w = 1 ∨ w = 2 ∨ w = 3 by omega) with rfl | rfl | rfl | rfl
  · rw [if_pos (show nI 0 = (0 : Int32) from rfl), f_X7_who_L92, if_neg (show ¬ (2 : Int32) ≤ nI 0 by decide), f_X7_who_L107, ← x]; rfl
  · rw [if_neg k1, if_pos (show nI 1 = (1 : Int32) from rfl), f_X7_who_L92, if_neg (show ¬ (2 : Int32) ≤ nI 1 by decide), f_X7_who_L107, ← x]; rfl
  · rw [if_neg k2, if_neg (show ¬ nI 2 = (1 : Int32) by decide), if_pos (show nI 2 = (2 : Int32) from rfl), f_X7_who_L92, if_pos (show (2 : Int32) ≤ nI 2 by decide), f_X7_who_L107, ← x]; rfl
  · rw [if_neg k3, if_neg (show ¬ nI 3 = (1 : Int32) by decide), if_neg (show ¬ nI 3 = (2 : Int32) by decide), f_X7_who_L92, if_pos (show (2 : Int32) ≤ nI 3 by decide), f_X7_who_L107, ← x]; rfl
theorem op_who {D : wd_D} (h : Inv D) (a1 a2 a3 a4 a5 : Int32) : ∃ v D1 D2, f_X6_who a1 a2 a3 a4 a5 D = some (v, D1) ∧ f_X7_who a1 a2 a3 a4 a5 D1 = some (v, D2) ∧ Inv D2 := by
  obtain ⟨n, r, hN, -⟩ := h.2.2.2.2.1
  have hR := h.2.2.2.1
  have ok := hN.2.2.1
  have hn := ok.1
  have ms : ∀ E, PNow E n r → f_X7_who a1 a2 a3 a4 a5 E = if (if a1 < 0 then (1 : Int32) else if a1 < nI n then 0 else 1) = 0 then (if f_X6_beyond a2 0 3 = 0 then (if f_X6_noRow a3 = 0 then (if f_X6_beyond a5 1 12 = 0 then (f_X7_against a3 a4 a5 E).bind (fun q6 => ap q6.1 (fun x7 => (if 0 ≤ x7 then (if a2 = 0 then f_X7_who_L92 a1 a2 a3 a4 a5 42 q6.2 else (if a2 = 1 then f_X7_who_L92 a1 a2 a3 a4 a5 1 q6.2 else (if a2 = 2 then f_X7_who_L92 a1 a2 a3 a4 a5 49 q6.2 else f_X7_who_L92 a1 a2 a3 a4 a5 56 q6.2))) else some (x7, q6.2)))) else some (-1000001, E)) else some (-1000001, E)) else some (-1000001, E)) else some (-1000001, E) := by
    intro E hE
    unfold f_X7_who
    rw [isChild_e hE.2.1 ok, Option.bind_some, show f_X7_in a2.toInt64 0 3 = if f_X6_beyond a2 0 3 = 0 then 1 else 0 from in_bey a2 0 3, isRow_e, show f_X7_in a5.toInt64 1 12 = if f_X6_beyond a5 1 12 = 0 then 1 else 0 from in_bey a5 1 12, ib, ib, ib, ib]
  unfold f_X6_who
  rw [noChild_e hN.1 ok]
  by_cases hz : (if a1 < 0 then (1 : Int32) else if a1 < nI n then 0 else 1) = 0
  · rw [if_pos hz]
    by_cases c2 : f_X6_beyond a2 0 3 = 0
    · rw [if_pos c2]
      by_cases c3 : f_X6_noRow a3 = 0
      · rw [if_pos c3]
        by_cases c5 : f_X6_beyond a5 1 12 = 0
        · rw [if_pos c5]
          obtain ⟨i, i8, e3⟩ := row_nI c3
          obtain ⟨T0, t1, t2, e5⟩ := bey_nI (lo := 1) (hi := 12) (by decide) (by decide) c5
          have hb5 : ¬ a5 < 0 := by rw [e5]; exact nI_pos (by omega)
          rw [show ix 8 a3 = some i from by rw [e3]; exact ix_nI i8, Option.bind_some]
          rcases row_look i8 (hR i i8) a4 a5 hb5 with ⟨x, hx, g1, g2⟩ | ⟨I, T, sz, ea, eb, hIT, hsz, hs, hs2, g1, g2, g3⟩
          · refine ⟨-1000010 - x, sI D 0 9 x, sI (sI D 0 9 x) 370 7 x, c_ag g1 (nfound0 hx), ?_, h.two.fin x⟩
            rw [ms _ (hN.at (fun k j z => sI_ne (by omega))), if_pos hz, if_pos c2, if_pos c3, if_pos c5]
            have := g2 (sI D 0 9 x) (sI_ne (by omega))
            rw [← e3] at this
            exact m_ag this (nfound hx)
          · simp only [ap]
            rw [g1, if_pos rfl, Option.bind_some]
            obtain ⟨c, hc, e1⟩ := child_nI ok.1 hz
            obtain ⟨w, w1, w2, e2⟩ := bey_nI (lo := 0) (hi := 3) (by decide) (by decide) c2
            have hT12 : T ≤ 12 := by
              have : T0 = T := (nI_eq (by omega) (by omega)).mp (e5.symm.trans eb)
              omega
            obtain ⟨D1, t1', s1, q3, q4⟩ := c_tell i8 hs hsz hIT hT12
            have hN1 := hN.scr s1
            have hP2 : 40 * a3 + a4 = nI (40 * i + I) := by rw [e3, ea, show (40 : Int32) = nI 40 from rfl, pk_mul, nI_add]
            obtain ⟨sv, D2, x2, s2, g⟩ := w_loop (P := 40 * i + I) (tl := fun j => D.1 (336 + 2 * i + 1) (I + j)) hT12 (by omega) hc (show w < 4 by omega) a3 a4 hP2 (thi w + 1 - tlo w) (tlo w) FU D1 0 (by
              have : tlo w ≤ thi w + 1 := by
                rcases (show w = 0 ∨ w = 1 ∨ w = 2 ∨ w = 3 by omega) with rfl | rfl | rfl | rfl <;> simp [thi, tlo]
              omega) (Nat.le_refl _) (by
              have : thi w ≤ 9 := by
                rcases (show w = 0 ∨ w = 1 ∨ w = 2 ∨ w = 3 by omega) with rfl | rfl | rfl | rfl <;> simp [thi]
              unfold FU; omega) hN1 q3 q4
            have s12 := s1.tr s2
            have hN2 : PNow (sI D2 0 9 0) n r := (hN.scr s12).at (fun k j z => sI_ne (by omega))
            have lv374 : ∀ j, live 374 j := fun j => by unfold live; omega
            obtain ⟨E', x, t⟩ := g (sI D2 0 9 0) FU (by
              have : thi w ≤ 9 := by
                rcases (show w = 0 ∨ w = 1 ∨ w = 2 ∨ w = 3 by omega) with rfl | rfl | rfl | rfl <;> simp [thi]
              unfold FU; omega) hN2 (fun j hj => by
                rw [sI_ne (by omega), s12 374 _ (lv374 _)]
                exact (g3 j hj).symm)
            have hI2 : Inv2 E' := (h.two.scr s12).s0.scr t
            refine ⟨sv, sI D2 0 9 0, sI E' 370 7 0, ?_, ?_, ?_⟩
            · have eft : f_X1_fittingTraits 4 a1 a2 D1 = some (sv, D2) := by
                rw [e1, e2]; exact fit_c (by omega) x2
              rw [ea, eb, t1', Option.bind_some, eft, Option.bind_some]; rfl
            · rw [ms _ hN2, if_pos hz, if_pos c2, if_pos c3, if_pos c5]
              have := g2 (sI D2 0 9 0) (by rw [sI_ne (by omega)]; exact s12 375 i (by unfold live; omega))
              rw [← e3] at this
              rw [this, Option.bind_some]
              simp only [ap]
              rw [if_pos (by decide)]
              rw [e1, e2, eb]
              exact who_m (by omega) x
            · refine hI2.s7.of ?_
              rw [sI_eq, sI_ne (by omega), t 0 9 (by unfold live; omega), sI_eq]
        · rw [if_neg c5]
          exact ⟨_, D, D, rfl, by rw [ms D hN, if_pos hz, if_pos c2, if_pos c3, if_neg c5], h⟩
      · rw [if_neg c3]
        exact ⟨_, D, D, rfl, by rw [ms D hN, if_pos hz, if_pos c2, if_neg c3], h⟩
    · rw [if_neg c2]
      exact ⟨_, D, D, rfl, by rw [ms D hN, if_pos hz, if_neg c2], h⟩
  · rw [if_neg hz]
    exact ⟨_, D, D, rfl, by rw [ms D hN, if_neg hz], h⟩
