/-! both constructors done: the shape is S0, and what holds between the calls holds -/
abbrev wd_R2 : Type := Nat → Nat → Option Nat
def u1 (f : wd_R2) (k j q : Nat) : wd_R2 := fun a b => if a = k ∧ b = j then some q else f a b
def u8 (f : wd_R2) (k : Nat) : wd_R2 := fun a b => if a = k ∧ 6 ≤ b ∧ b < 14 then some (k + (b - 5)) else f a b
def lpC (f : wd_R2) (r n m : Nat) : wd_R2 := fun a b => if a = r ∧ b < m then some (n + 9 * b) else if n ≤ a ∧ a < n + 9 * m ∧ (a - n) % 9 = 0 ∧ 6 ≤ b ∧ b < 14 then some (a + (b - 5)) else f a b
def lrC (f : wd_R2) (r n m : Nat) : wd_R2 := fun a b => if a = r ∧ b < m then some (n + 2 * b) else if n ≤ a ∧ a < n + 2 * m ∧ (a - n) % 2 = 0 ∧ b = 0 then some (a + 1) else f a b
theorem lp_c {S : wd_S} {r n : Nat} (hn : S.1.length = n) (hr : r < n) : ∀ m, (lpS S r m).2 = lpC S.2 r n m
  | 0 => by
    funext a b
    show S.2 a b = if a = r ∧ b < 0 then some (n + 9 * b) else if n ≤ a ∧ a < n + 9 * 0 ∧ (a - n) % 9 = 0 ∧ 6 ≤ b ∧ b < 14 then some (a + (b - 5)) else S.2 a b
    rw [if_neg (by omega), if_neg (by omega)]
  | m + 1 => by
    funext a b
    show (if a = r ∧ b = m then some (S.1.length + 9 * m) else if a = S.1.length + 9 * m ∧ 6 ≤ b ∧ b < 14 then some (S.1.length + 9 * m + (b - 5)) else (lpS S r m).2 a b) = _
    rw [lp_c hn hr m, hn]
    show _ = if a = r ∧ b < m + 1 then some (n + 9 * b) else if n ≤ a ∧ a < n + 9 * (m + 1) ∧ (a - n) % 9 = 0 ∧ 6 ≤ b ∧ b < 14 then some (a + (b - 5)) else S.2 a b
    by_cases h1 : a = r ∧ b = m
    · rw [if_pos h1, if_pos (by omega), h1.2]
    · rw [if_neg h1]
      by_cases h2 : a = n + 9 * m ∧ 6 ≤ b ∧ b < 14
      · rw [if_pos h2, if_neg (by omega), if_pos (by omega), h2.1]
      · rw [if_neg h2]
        show (if a = r ∧ b < m then some (n + 9 * b) else if n ≤ a ∧ a < n + 9 * m ∧ (a - n) % 9 = 0 ∧ 6 ≤ b ∧ b < 14 then some (a + (b - 5)) else S.2 a b) = _
        by_cases h3 : a = r ∧ b < m
        · rw [if_pos h3, if_pos (by omega)]
        · rw [if_neg h3]
          by_cases h4 : n ≤ a ∧ a < n + 9 * m ∧ (a - n) % 9 = 0 ∧ 6 ≤ b ∧ b < 14
          · rw [if_pos h4, if_neg (show ¬ (a = r ∧ b < m + 1) by omega), if_pos (by omega)]
          · rw [if_neg h4, if_neg (show ¬ (a = r ∧ b < m + 1) by omega), if_neg (by omega)]
theorem lr_c {S : wd_S} {r n : Nat} (hn : S.1.length = n) (hr : r < n) : ∀ m, (lrS S r m).2 = lrC S.2 r n m
  | 0 => by
    funext a b
    show S.2 a b = if a = r ∧ b < 0 then some (n + 2 * b) else if n ≤ a ∧ a < n + 2 * 0 ∧ (a - n) % 2 = 0 ∧ b = 0 then some (a + 1) else S.2 a b
    rw [if_neg (by omega), if_neg (by omega)]
  | m + 1 => by
    funext a b
    show (if a = r ∧ b = m then some (S.1.length + 2 * m) else if a = S.1.length + 2 * m ∧ b = 0 then some (S.1.length + 2 * m + 1) else (lrS S r m).2 a b) = _
    rw [lr_c hn hr m, hn]
    show _ = if a = r ∧ b < m + 1 then some (n + 2 * b) else if n ≤ a ∧ a < n + 2 * (m + 1) ∧ (a - n) % 2 = 0 ∧ b = 0 then some (a + 1) else S.2 a b
    by_cases h1 : a = r ∧ b = m
    · rw [if_pos h1, if_pos (by omega), h1.2]
    · rw [if_neg h1]
      by_cases h2 : a = n + 2 * m ∧ b = 0
      · rw [if_pos h2, if_neg (by omega), if_pos (by omega), h2.1]
      · rw [if_neg h2]
        show (if a = r ∧ b < m then some (n + 2 * b) else if n ≤ a ∧ a < n + 2 * m ∧ (a - n) % 2 = 0 ∧ b = 0 then some (a + 1) else S.2 a b) = _
        by_cases h3 : a = r ∧ b < m
        · rw [if_pos h3, if_pos (by omega)]
        · rw [if_neg h3]
          by_cases h4 : n ≤ a ∧ a < n + 2 * m ∧ (a - n) % 2 = 0 ∧ b = 0
          · rw [if_pos h4, if_neg (show ¬ (a = r ∧ b < m + 1) by omega), if_pos (by omega)]
          · rw [if_neg h4, if_neg (show ¬ (a = r ∧ b < m + 1) by omega), if_neg (by omega)]
def F6e : wd_R2 := u1 (u1 (u8 (u1 (u8 (u1 (u1 (u1 (fun _ _ => none) 0 0 1) 2 0 3) 0 1 2) 4) 0 2 4) 13) 0 3 13) 0 4 22
def F6f : wd_R2 := u1 (lpC (u1 F6e 23 0 24) 24 25 24) 0 5 23
def F6g : wd_R2 := u1 (lpC (u1 (u1 (u1 (u8 F6f 242) 241 0 242) 241 1 251) 241 2 252) 251 253 9) 0 6 241
def F6h : wd_R2 := u1 (u1 F6g 334 0 335) 0 7 334
def F6i : wd_R2 := lrC F6h 1 336 8
def F6j : wd_R2 := lpC F6i 22 352 2
def FM : wd_R2 := u1 (u1 (u1 (u1 (u1 (u1 (u1 (u1 (u1 (u1 F6j 370 0 371) 370 1 372) 370 2 373) 370 4 374) 370 5 375) 370 6 376) 370 8 377) 370 11 378) 370 13 379) 370 17 380
theorem e6e : x6e.2 = F6e := rfl
theorem e6f : x6f.2 = F6f := by
  show u1 (lpS (sS (pS (pS x6e (.inl 2)) (.inr (2, 24))) 23 0 24) 24 24).2 0 5 23 = _
  rw [lp_c (S := sS (pS (pS x6e (.inl 2)) (.inr (2, 24))) 23 0 24) (n := 25) (pS_l (pS_l x6e_st.1)) (by decide)]
  show u1 (lpC (u1 x6e.2 23 0 24) 24 25 24) 0 5 23 = _
  rw [e6e]; rfl
theorem e6g : x6g.2 = F6g := by
  show u1 (lpS (fsT (pS x6f (.inl 1)) 241) 251 9).2 0 6 241 = _
  rw [lp_c (n := 253) (fsT_l (k := 241) (pS_l x6f_st.1)) (by decide)]
  show u1 (lpC (u1 (u1 (u1 (u8 x6f.2 242) 241 0 242) 241 1 251) 241 2 252) 251 253 9) 0 6 241 = _
  rw [e6f]; rfl
theorem e6h : x6h.2 = F6h := by
  show u1 (u1 x6g.2 334 0 335) 0 7 334 = _
  rw [e6g]; rfl
theorem e6i : x6i.2 = F6i := by
  show (lrS x6h 1 8).2 = _
  rw [lr_c (n := 336) x6h_st.1 (by decide), e6h]; rfl
theorem e6j : x6j.2 = F6j := by
  show (lpS x6i 22 2).2 = _
  rw [lp_c (n := 352) x6i_l (by decide), e6i]; rfl
def x7 : wd_S := mdS (pS x6j (.inl 7)) 370
theorem eFM : x7.2 = FM := by
  show u1 (u1 (u1 (u1 (u1 (u1 (u1 (u1 (u1 (u1 x6j.2 370 0 371) 370 1 372) 370 2 373) 370 4 374) 370 5 375) 370 6 376) 370 8 377) 370 11 378) 370 13 379) 370 17 380 = _
  rw [e6j]; rfl
theorem u1_f {f : wd_R2} {k j q a b : Nat} (h : a ≠ k ∨ b ≠ j) : u1 f k j q a b = f a b := if_neg (by omega)
theorem u8_f {f : wd_R2} {k a b : Nat} (h : a ≠ k ∨ 14 ≤ b) : u8 f k a b = f a b := if_neg (by omega)
theorem lpC_f {f : wd_R2} {r n m a b : Nat} (h : (a ≠ r ∧ n + 9 * m ≤ a) ∨ (14 ≤ b ∧ m ≤ b)) : lpC f r n m a b = f a b := by
  unfold lpC; rw [if_neg (by omega), if_neg (by omega)]
theorem lrC_f {f : wd_R2} {r n m a b : Nat} (h : (a ≠ r ∧ n + 2 * m ≤ a) ∨ (14 ≤ b ∧ m ≤ b)) : lrC f r n m a b = f a b := by
  unfold lrC; rw [if_neg (by omega), if_neg (by omega)]
theorem FM_out {a b : Nat} (h : 381 ≤ a ∨ 24 ≤ b) : FM a b = none := by
  unfold FM
  rw [u1_f (by omega), u1_f (by omega), u1_f (by omega), u1_f (by omega), u1_f (by omega), u1_f (by omega), u1_f (by omega), u1_f (by omega), u1_f (by omega), u1_f (by omega)]
  unfold F6j F6i F6h
  rw [lpC_f (by omega), lrC_f (by omega), u1_f (by omega), u1_f (by omega)]
  unfold F6g
  rw [u1_f (by omega), lpC_f (by omega), u1_f (by omega), u1_f (by omega), u1_f (by omega), u8_f (by omega)]
  unfold F6f
  rw [u1_f (by omega), lpC_f (by omega), u1_f (by omega)]
  unfold F6e
  rw [u1_f (by omega), u1_f (by omega), u8_f (by omega), u1_f (by omega), u8_f (by omega), u1_f (by omega), u1_f (by omega), u1_f (by omega)]
theorem shf_out {a : Nat} (h : 381 ≤ a) : shf a = .inr (1, 7) := by
  unfold shf
  rw [if_neg (by omega), if_neg (by omega), if_neg (by omega), if_neg (by omega), if_neg (by omega), if_neg (by omega), if_neg (by omega), if_neg (by omega), if_neg (by omega), if_neg (by omega), if_neg (by omega), if_neg (by omega), if_neg (by omega), if_neg (by omega), if_neg (by omega), if_neg (by omega), if_neg (by omega), if_neg (by omega), if_neg (by omega), if_neg (by omega), if_neg (by omega)]
theorem rf0_out {a b : Nat} (h : 381 ≤ a ∨ 24 ≤ b) : rf0 a b = none := by
  rcases Nat.lt_or_ge a 381 with ha | ha
  · have hb : 24 ≤ b := by omega
    have l8 : ([1, 2, 4, 13, 22, 23, 241, 334] : List Nat)[b]? = none := List.getElem?_eq_none (by show 8 ≤ b; omega)
    have l3 : ([242, 251, 252] : List Nat)[b]? = none := List.getElem?_eq_none (by show 3 ≤ b; omega)
    unfold rf0
    rw [l8, l3]
    simp only [show (b = 0) = False from eq_false (by omega), show (b = 1) = False from eq_false (by omega), show (b = 2) = False from eq_false (by omega), show (b = 4) = False from eq_false (by omega), show (b = 5) = False from eq_false (by omega), show (b = 6) = False from eq_false (by omega), show (b = 8) = False from eq_false (by omega), show (b = 11) = False from eq_false (by omega), show (b = 13) = False from eq_false (by omega), show (b = 17) = False from eq_false (by omega), show (b < 8) = False from eq_false (by omega), show (b < 2) = False from eq_false (by omega), show (b < 24) = False from eq_false (by omega), show (b < 9) = False from eq_false (by omega), show (6 ≤ b ∧ b < 14) = False from eq_false (by omega), if_false, ite_self]
  · unfold rf0
    rw [shf_out ha]
    rw [if_neg (by omega), if_neg (by omega), if_neg (by omega), if_neg (by omega), if_neg (by omega), if_neg (by omega), if_neg (by omega), if_neg (by omega), if_neg (by omega), if_neg (by omega), if_neg (by decide), if_neg (by decide)]
theorem FM_in : ∀ a, a < 381 → ∀ b, b < 24 → FM a b = rf0 a b := by decide +kernel
theorem x7_S0 : x7 = S0 := by
  refine Prod.ext ?_ ?_
  · show x7.1 = (List.range 381).map shf
    decide +kernel
  · rw [eFM]
    show FM = rf0
    funext a b
    by_cases h : 381 ≤ a ∨ 24 ≤ b
    · rw [FM_out h, rf0_out h]
    · exact FM_in a (by omega) b (by omega)
def D0 : wd_D := mdD x6D 375 8
theorem rwD_c {D : wd_D} {n : Nat} : ∀ m a b, (rwD D n m).1 a b = if n ≤ a ∧ a < n + 2 * m ∧ (a - n) % 2 = 0 ∧ b = 1 then -1 else D.1 a b
  | 0, a, b => by rw [if_neg (by omega)]; rfl
  | m + 1, a, b => by
    show (if a = n + 2 * m ∧ b = 1 then -1 else (rwD D n m).1 a b) = _
    by_cases h1 : a = n + 2 * m ∧ b = 1
    · rw [if_pos h1, if_pos (by omega)]
    · rw [if_neg h1, rwD_c m a b]
      by_cases h2 : n ≤ a ∧ a < n + 2 * m ∧ (a - n) % 2 = 0 ∧ b = 1
      · rw [if_pos h2, if_pos (by omega)]
      · rw [if_neg h2, if_neg (by omega)]
theorem mdD_c {D : wd_D} {n : Nat} : ∀ m a b, (mdD D n m).1 a b = if a = n ∧ b < m then -1 else D.1 a b
  | 0, a, b => by rw [if_neg (by omega)]; rfl
  | m + 1, a, b => by
    show (if a = n ∧ b = m then -1 else (mdD D n m).1 a b) = _
    by_cases h1 : a = n ∧ b = m
    · rw [if_pos h1, if_pos (by omega)]
    · rw [if_neg h1, mdD_c m a b]
      by_cases h2 : a = n ∧ b < m
      · rw [if_pos h2, if_pos (by omega)]
      · rw [if_neg h2, if_neg (by omega)]
theorem D0_z {a b : Nat} (h1 : a ≠ 375) (h2 : a < 336 ∨ 352 ≤ a ∨ b ≠ 1) : D0.1 a b = 0 := by
  show (mdD (rwD dz 336 8) 375 8).1 a b = 0
  rw [mdD_c, if_neg (by omega), rwD_c, if_neg (by omega)]; rfl
theorem D0_l {i : Nat} (h : i < 8) : D0.1 (336 + 2 * i) 1 = -1 := by
  show (mdD (rwD dz 336 8) 375 8).1 _ _ = _
  rw [mdD_c, if_neg (by omega), rwD_c, if_pos (by omega)]
theorem D0_s {i : Nat} (h : i < 8) : D0.1 375 i = -1 := by
  show (mdD (rwD dz 336 8) 375 8).1 _ _ = _
  rw [mdD_c, if_pos (by omega)]
theorem loc_10 : ∀ j, j < 63 → (loc j).1 < 10 := by decide +kernel
theorem D0_Inv : Inv D0 := by
  have n0 : (0 : Int32) = nI 0 := by decide
  refine ⟨?_, ?_, ⟨0, by omega, ?_, ?_, fun j hj => absurd hj (by omega)⟩, fun i hi => Or.inl ⟨D0_l hi, D0_s hi⟩, ⟨0, fun _ => 0, ⟨fun j hj _ => ?_, fun j hj => ?_, ⟨by omega, n0, ⟨0, by decide, n0⟩, ⟨0, by decide, n0⟩, ⟨0, by decide, n0⟩, fun k hk => absurd hk (by omega)⟩, ?_⟩, ⟨0, 0, by omega, by omega, ?_, ?_, ?_, fun i hi => absurd hi (by omega)⟩⟩, fun k hk => Or.inl ⟨?_, ?_⟩, ⟨0, by omega, ?_, ?_, fun j hj => absurd hj (by omega)⟩⟩
  · rw [D0_z (by omega) (by omega), D0_z (by omega) (by omega)]
  · rw [D0_z (by omega) (by omega), D0_z (by omega) (by omega)]
  · rw [D0_z (by omega) (by omega)]; exact n0
  · rw [D0_z (by omega) (by omega)]; exact n0
  · have := loc_10 j hj
    exact D0_z (by omega) (by omega)
  · exact D0_z (by omega) (by omega)
  · rfl
  · rw [D0_z (by omega) (by omega)]; exact n0
  · rw [D0_z (by omega) (by omega)]; exact n0
  · rw [D0_z (by omega) (by omega)]; exact n0
  · exact D0_z (by omega) (by omega)
  · exact D0_z (by omega) (by omega)
  · rw [D0_z (by omega) (by omega)]; exact n0
  · rw [D0_z (by omega) (by omega)]; exact n0
