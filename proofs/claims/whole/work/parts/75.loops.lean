/-! calls with loops that go side by side -/
theorem inb8 {i : Nat} (h : i < 8) : inb (nI i) 8 = true := by rw [inb_T, tI (by omega)]; omega
theorem nI_npos {n : Nat} (h : n < 2147483648) : ¬ nI n < 0 := by rw [Int32.lt_iff_toInt_lt, tI h, t_0]; omega
theorem l_left {x m : VM} (hI : Inv x m) {i : Nat} (i1 : i < x.2.2.2 5) (i2 : i < 8) : ∃ r, f_X5_leftOfAll x i = some r ∧ f_X12_leftOf m (nI i) = some r := by
  obtain ⟨n1, n2, n3⟩ := n_sce hI i1
  unfold f_X5_leftOfAll f_X12_leftOf
  refine lp_cnt2 (V := Int32 × Int32) (W := Int32 × Int32) (d := none) (e := none) (x.2.2.2 (20 + i)) (fun k v w => ∃ s, v = (s, nI k) ∧ w = (s, nI k)) (fun o p => ∃ s, o = some s ∧ p = some s) ?_ ?_ 0 (0, 0) (0, 0) (Nat.zero_le _) ⟨0, rfl, rfl⟩
  · rintro k v w hk ⟨s, rfl, rfl⟩
    left
    unfold b_X5_leftOfAll_4 b_X12_leftOf_4
    simp (disch := omega) only [n1, n2, if_pos, if_neg, inb_T, tI, Int32.le_iff_toInt_le, nI_clamp, lm_8, nI_add, nI_1, d8, m8]
    exact ⟨_, _, rfl, rfl, _, rfl, by rw [(hI.sce i k i1 hk).2.2.2.1.1]⟩
  · rintro v w ⟨s, rfl, rfl⟩
    unfold b_X5_leftOfAll_4 b_X12_leftOf_4
    simp (disch := omega) only [n1, n2, if_pos, inb_T, tI, Int32.le_iff_toInt_le, nI_clamp]
    exact ⟨_, _, rfl, rfl, _, rfl, rfl⟩
theorem s_about : S_about Inv := by
  intro x m p q hI
  unfold f_X11_about f_X12_about
  rcases c_pic hI p with ⟨e1, e2⟩ | ⟨i, i1, i2, rfl, e1, e2⟩
  · rw [e1, e2]; exact ⟨_, rfl, rfl, hI⟩
  · rw [e1, e2]
    obtain ⟨a1, a2, a3, a4, a5, a6, a7, a8⟩ := hI.pic i i1
    have a9 := (hI.dra i i1).1.1
    obtain ⟨r, r1, r2⟩ := l_left hI i1 i2
    simp only [Option.elim_some, if_neg n10, if_pos i1, if_pos (inb8 i2), nI_clamp (show i < 2 ^ 31 by omega), r1, r2]
    by_cases h0 : q = 0
    · rw [if_pos h0, if_pos h0]; exact ⟨_, rfl, by rw [a1.1], hI⟩
    · rw [if_neg h0, if_neg h0]
      by_cases h1 : q = 1
      · rw [if_pos h1, if_pos h1]; exact ⟨_, rfl, by rw [a2], hI⟩
      · rw [if_neg h1, if_neg h1]
        by_cases h2 : q = 2
        · rw [if_pos h2, if_pos h2, a3.1]
          rcases a3.2 with z | z
          · rw [z]; exact ⟨_, rfl, rfl, hI⟩
          · rw [z]; exact ⟨_, rfl, rfl, hI⟩
        · rw [if_neg h2, if_neg h2]
          by_cases h3 : q = 3
          · rw [if_pos h3, if_pos h3]; exact ⟨_, rfl, rfl, hI⟩
          · rw [if_neg h3, if_neg h3]
            by_cases h4 : q = 4
            · rw [if_pos h4, if_pos h4]; exact ⟨_, rfl, by rw [a4], hI⟩
            · rw [if_neg h4, if_neg h4]
              by_cases h5 : q = 5
              · rw [if_pos h5, if_pos h5]; exact ⟨_, rfl, by rw [a5], hI⟩
              · rw [if_neg h5, if_neg h5]
                by_cases h6 : q = 6
                · rw [if_pos h6, if_pos h6]; exact ⟨_, rfl, by rw [a6], hI⟩
                · rw [if_neg h6, if_neg h6]
                  by_cases h7 : q = 7
                  · rw [if_pos h7, if_pos h7]; exact ⟨_, rfl, by rw [a7], hI⟩
                  · rw [if_neg h7, if_neg h7]
                    by_cases h8 : q = 8
                    · rw [if_pos h8, if_pos h8]; exact ⟨_, rfl, by rw [a9], hI⟩
                    · rw [if_neg h8, if_neg h8]; exact ⟨_, rfl, rfl, hI⟩
theorem l_lin {x m : VM} (hI : Inv x m) {i : Nat} (i1 : i < x.2.2.2 5) (i2 : i < 8) (h : Int32) : ∃ r, f_X5_linesOf x i h = some r ∧ f_X12_creditOf m (nI i) h = some r := by
  obtain ⟨_, ⟨b1, b2, _⟩, b3⟩ := hI.dra i i1
  obtain ⟨n, n1, n2, n3⟩ := rng_nI (a := 0) (b := 60) b2 (by decide)
  rw [n3] at b1
  rw [n3, tI (by omega)] at b3
  unfold f_X5_linesOf f_X12_creditOf
  refine lp_cnt2 (V := Int32 × Int32) (W := Int32 × Int32) (d := none) (e := none) n (fun k v w => ∃ s, v = (s, nI k) ∧ w = (s, nI k)) (fun o p => ∃ s, o = some s ∧ p = some s) ?_ ?_ 0 (0, 0) (0, 0) (Nat.zero_le _) ⟨0, rfl, rfl⟩
  · rintro k v w hk ⟨s, rfl, rfl⟩
    left
    unfold b_X5_linesOf_4 b_X12_creditOf_5
    simp (disch := omega) only [n3, b1, if_pos, if_neg, inb_T, tI, Int32.le_iff_toInt_le, nI_clamp, lm_60, nI_add, nI_1]
    rw [(b3 k (by omega)).2]
    by_cases e : x.2.1 511 i k = h
    · simp only [if_pos e]; exact ⟨_, _, rfl, rfl, _, rfl, rfl⟩
    · simp only [if_neg e]; exact ⟨_, _, rfl, rfl, _, rfl, rfl⟩
  · rintro v w ⟨s, rfl, rfl⟩
    unfold b_X5_linesOf_4 b_X12_creditOf_5
    simp (disch := omega) only [n3, b1, if_pos, inb_T, tI, Int32.le_iff_toInt_le, nI_clamp]
    exact ⟨_, _, rfl, rfl, _, rfl, rfl⟩
theorem s_credit : S_credit Inv := by
  intro x m p q hI
  unfold f_X11_credit f_X12_credit
  rcases c_pic hI p with ⟨e1, e2⟩ | ⟨i, i1, i2, rfl, e1, e2⟩
  · rw [e1, e2]; exact ⟨_, rfl, rfl, hI⟩
  · rw [e1, e2]
    obtain ⟨r, r1, r2⟩ := l_lin hI i1 i2 q
    rcases ar q 0 5 (by decide) with h | h | ⟨k, h1, h2, rfl⟩
    · refine ⟨-1, ?_, ?_, hI⟩ <;> simp (disch := omega) only [Int32.lt_iff_toInt_lt, Int32.le_iff_toInt_le, i32eq, tI, t_0, t_1, t_2, t_3, t_4, t_5, t_6, t_7, t_8, t_9, t_10, t_16, t_31, t_40, t_48, t_50, t_52, t_57, t_60, t_61, t_64, t_90, t_99, t_100, t_108, t_112, t_114, t_115, t_119, t_121, t_200, t_256, t_364, t_400, t_480, t_960, t_999, t_1000, t_4000, t_99999, t_1000000000, t_2147483647, t_m1, t_m2, t_m3, t_m4, t_m5, t_m6, t_m7, t_m1000, nI_clamp, inb_T, Option.elim_some, Option.elim_none, if_pos, if_neg, rfx1, rfm1, rfx2, rfm2, rfx3, rfm3, rfx4, rfm4, rfx5, rfm5, rfx6, rfm6, rfx7, rfm7, nI_add, pk_mul, lm_2, lm_4, lm_5, lm_7, lm_8, lm_10, lm_40, lm_60, lm_61, lm_364, lm_1000, la_1, al_1, la_10, al_10, la_11, al_11, la_100, al_100, la_364, al_364, d8, m8, ↓reduceIte, rA1, rA3, rI2, rJ1, rJ2, rJ4, rN1, rN2, rN3, rAs, rIs, rJs, rAn, rIn, rJn]
    · refine ⟨-1, ?_, ?_, hI⟩ <;> simp (disch := omega) only [Int32.lt_iff_toInt_lt, Int32.le_iff_toInt_le, i32eq, tI, t_0, t_1, t_2, t_3, t_4, t_5, t_6, t_7, t_8, t_9, t_10, t_16, t_31, t_40, t_48, t_50, t_52, t_57, t_60, t_61, t_64, t_90, t_99, t_100, t_108, t_112, t_114, t_115, t_119, t_121, t_200, t_256, t_364, t_400, t_480, t_960, t_999, t_1000, t_4000, t_99999, t_1000000000, t_2147483647, t_m1, t_m2, t_m3, t_m4, t_m5, t_m6, t_m7, t_m1000, nI_clamp, inb_T, Option.elim_some, Option.elim_none, if_pos, if_neg, rfx1, rfm1, rfx2, rfm2, rfx3, rfm3, rfx4, rfm4, rfx5, rfm5, rfx6, rfm6, rfx7, rfm7, nI_add, pk_mul, lm_2, lm_4, lm_5, lm_7, lm_8, lm_10, lm_40, lm_60, lm_61, lm_364, lm_1000, la_1, al_1, la_10, al_10, la_11, al_11, la_100, al_100, la_364, al_364, d8, m8, ↓reduceIte, rA1, rA3, rI2, rJ1, rJ2, rJ4, rN1, rN2, rN3, rAs, rIs, rJs, rAn, rIn, rJn]
    · refine ⟨r, ?_, ?_, hI⟩ <;> simp (disch := omega) only [Int32.lt_iff_toInt_lt, Int32.le_iff_toInt_le, i32eq, tI, t_0, t_1, t_2, t_3, t_4, t_5, t_6, t_7, t_8, t_9, t_10, t_16, t_31, t_40, t_48, t_50, t_52, t_57, t_60, t_61, t_64, t_90, t_99, t_100, t_108, t_112, t_114, t_115, t_119, t_121, t_200, t_256, t_364, t_400, t_480, t_960, t_999, t_1000, t_4000, t_99999, t_1000000000, t_2147483647, t_m1, t_m2, t_m3, t_m4, t_m5, t_m6, t_m7, t_m1000, nI_clamp, inb_T, Option.elim_some, Option.elim_none, if_pos, if_neg, rfx1, rfm1, rfx2, rfm2, rfx3, rfm3, rfx4, rfm4, rfx5, rfm5, rfx6, rfm6, rfx7, rfm7, nI_add, pk_mul, lm_2, lm_4, lm_5, lm_7, lm_8, lm_10, lm_40, lm_60, lm_61, lm_364, lm_1000, la_1, al_1, la_10, al_10, la_11, al_11, la_100, al_100, la_364, al_364, d8, m8, ↓reduceIte, rA1, rA3, rI2, rJ1, rJ2, rJ4, rN1, rN2, rN3, rAs, rIs, rJs, rAn, rIn, rJn, r1, r2]
theorem s_named : S_named Inv := by
  intro x m p hI
  show Sm Inv _ _
  unfold f_X11_named f_X12_named
  rcases c_pic hI p with ⟨e1, e2⟩ | ⟨i, i1, i2, rfl, e1, e2⟩
  · rw [e1, e2]; exact Sm.mk rfl (hI.ref1 0)
  · rw [e1, e2]
    simp only [Option.elim_some, if_neg n10]
    have b1 := (hI.dra i i1).2.1.1
    refine lp_cnt2 (V := Int32 × Int32) (W := Int32 × Int32) (d := none) (e := none) 6 (fun k v w => ∃ s, v = (s, nI k) ∧ w = (s, nI k)) (fun o p => Sm Inv o p) ?_ ?_ 0 (0, 0) (0, 0) (Nat.zero_le _) ⟨0, rfl, rfl⟩
    · rintro k v w hk ⟨s, rfl, rfl⟩
      left
      obtain ⟨r, r1, r2⟩ := l_lin hI i1 i2 (nI k)
      unfold b_X11_named_21 b_X12_named_18
      rw [if_neg (show ¬ (6 : Int32) ≤ nI k by rw [Int32.le_iff_toInt_le, tI (by omega), t_6]; omega), if_neg (show ¬ (6 : Int32) ≤ nI k by rw [Int32.le_iff_toInt_le, tI (by omega), t_6]; omega)]
      simp only [if_pos i1, r1, r2, Option.elim_some, if_pos (inb8 i2), nI_clamp (show i < 2 ^ 31 by omega), b1, nI_1]
      by_cases h1 : r ≤ 0
      · simp only [if_pos h1]; exact ⟨_, _, rfl, rfl, _, rfl, rfl⟩
      · simp only [if_neg h1]
        by_cases h2 : 5 * r < x.1 512 i
        · simp only [if_pos h2]; exact ⟨_, _, rfl, rfl, _, rfl, rfl⟩
        · simp only [if_neg h2]; exact ⟨_, _, rfl, rfl, _, rfl, rfl⟩
    · rintro v w ⟨s, rfl, rfl⟩
      exact ⟨_, _, rfl, rfl, Sm.mk rfl hI⟩
theorem s_barred : S_barred Inv := by
  intro x m p q hI
  show Sm Inv _ _
  unfold f_X11_barred f_X12_barred
  rcases c_sce hI p q with ⟨e1, e2⟩ | ⟨i, j, i1, i2, j1, j2, rfl, rfl, e1, e2⟩
  · rw [e1, e2]; exact Sm.mk rfl (hI.ref1 0)
  · rw [e1, e2]
    simp only [Option.elim_some, if_neg n10]
    refine lp_cnt2 (V := Int32 × Int32) (W := Int32 × Int32) (d := none) (e := none) 4 (fun k v w => ∃ s, v = (s, nI k) ∧ w = (s, nI k)) (fun o p => Sm Inv o p) ?_ ?_ 0 (0, 0) (0, 0) (Nat.zero_le _) ⟨0, rfl, rfl⟩
    · rintro k v w hk ⟨s, rfl, rfl⟩
      left
      unfold b_X11_barred_23 b_X12_barred_20
      rw [if_neg (show ¬ (4 : Int32) ≤ nI k by rw [Int32.le_iff_toInt_le, tI (by omega), t_4]; omega), if_neg (show ¬ (4 : Int32) ≤ nI k by rw [Int32.le_iff_toInt_le, tI (by omega), t_4]; omega)]
      simp (disch := omega) only [d8, m8, inb_T, tI, if_pos, nI_clamp, lm_8, lm_4, nI_add, nI_1]
      rw [((hI.sce i j i1 j1).2.2.2.2.1 k hk).1, (hI.cod k hk).1]
      by_cases h1 : x.2.1 804 (8 * i + j) k ≤ x.2.1 1110 0 k
      · simp only [if_pos h1]; exact ⟨_, _, rfl, rfl, _, rfl, rfl⟩
      · simp only [if_neg h1]; exact ⟨_, _, rfl, rfl, _, rfl, rfl⟩
    · rintro v w ⟨s, rfl, rfl⟩
      exact ⟨_, _, rfl, rfl, Sm.mk rfl hI⟩
theorem s_mend : S_mend Inv := by
  intro x m p hI
  show Sm Inv _ _
  unfold f_X11_mend f_X12_mend
  rcases c_pic hI p with ⟨e1, e2⟩ | ⟨i, i1, i2, rfl, e1, e2⟩
  · rw [e1, e2]; exact Sm.mk rfl (hI.ref1 0)
  · rw [e1, e2]
    simp only [Option.elim_some, if_neg n10]
    obtain ⟨n1, n2, n3⟩ := n_sce hI i1
    refine lp_cnt2 (V := Int32 × Int32) (W := Int32 × Int32) (d := none) (e := none) (x.2.2.2 (20 + i)) (fun k v w => ∃ s, v = (s, nI k) ∧ w = (s, nI k)) (fun o p => Sm Inv o p) ?_ ?_ 0 (0, 0) (0, 0) (Nat.zero_le _) ⟨0, rfl, rfl⟩
    · rintro k v w hk ⟨s, rfl, rfl⟩
      left
      have inner : ∃ t, loopF (Sum.inr none) (b_X11_mend_33 x (nI i) (s, nI k) i) (s, 0) = Sum.inl (t, nI (k + 1)) ∧ loopF (Sum.inr none) (b_X12_mend_31 m (nI i) (s, nI k)) (s, 0) = Sum.inl (t, nI (k + 1)) := by
        refine lp_cnt2 (V := Int32 × Int32) (W := Int32 × Int32) (d := Sum.inr none) (e := Sum.inr none) 4 (fun j v w => ∃ s, v = (s, nI j) ∧ w = (s, nI j)) (fun o p => ∃ t, o = Sum.inl (t, nI (k + 1)) ∧ p = Sum.inl (t, nI (k + 1))) ?_ ?_ 0 (s, 0) (s, 0) (Nat.zero_le _) ⟨s, rfl, rfl⟩
        · rintro j v w hj ⟨s, rfl, rfl⟩
          left
          unfold b_X11_mend_33 b_X12_mend_31
          rw [if_neg (show ¬ (4 : Int32) ≤ nI j by rw [Int32.le_iff_toInt_le, tI (by omega), t_4]; omega), if_neg (show ¬ (4 : Int32) ≤ nI j by rw [Int32.le_iff_toInt_le, tI (by omega), t_4]; omega)]
          simp (disch := omega) only [d8, m8, inb_T, tI, if_pos, nI_clamp, lm_8, lm_4, nI_add, nI_1]
          rw [((hI.sce i k i1 hk).2.2.2.2.1 j hj).1, (hI.cod j hj).1]
          by_cases h1 : x.2.1 804 (8 * i + k) j - x.2.1 1110 0 j ≤ 0
          · rw [if_pos h1, if_neg (Int32.not_lt.mpr h1)]
            exact ⟨_, _, rfl, rfl, _, rfl, by rw [Int32.add_zero]⟩
          · rw [if_neg h1, if_pos (Int32.not_le.mp h1)]
            exact ⟨_, _, rfl, rfl, _, rfl, rfl⟩
        · rintro v w ⟨s', rfl, rfl⟩
          refine ⟨_, _, rfl, rfl, s', ?_, ?_⟩ <;> rw [nI_1]
      obtain ⟨t, t1, t2⟩ := inner
      unfold b_X11_mend_21 b_X12_mend_18
      have lt : ¬ nI (x.2.2.2 (20 + i)) ≤ nI k := by rw [Int32.le_iff_toInt_le, tI (by omega), tI (by omega)]; omega
      simp only [if_pos i1, n1, n2, if_pos (inb8 i2), nI_clamp (show i < 2 ^ 31 by omega), if_neg lt, t1, t2]
      exact ⟨_, _, rfl, rfl, _, rfl, rfl⟩
    · rintro v w ⟨s, rfl, rfl⟩
      unfold b_X11_mend_21 b_X12_mend_18
      simp only [if_pos i1, n1, n2, if_pos (inb8 i2), nI_clamp (show i < 2 ^ 31 by omega), if_pos (Int32.le_refl _)]
      exact ⟨_, _, rfl, rfl, Sm.mk rfl hI⟩
