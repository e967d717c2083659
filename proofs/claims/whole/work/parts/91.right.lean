/-! previews put right -/
theorem lN_0 : lN 0 = 0 := rfl
theorem lN_z {b : Nat} (hb : b < 9223372036854775808) : (lN b = 0) = (b = 0) := by
  apply propext
  have := pk_lEQ (a := b) (b := 0) hb (by decide)
  rw [lN_0] at this
  exact this
theorem gcd_st (a b : Nat) : Nat.gcd b (a % b) = Nat.gcd a b := by rw [Nat.gcd_comm b, ← Nat.gcd_rec, Nat.gcd_comm]
theorem gcdM (m : VM) (p q : Int64) : ∀ (b a : Nat), a < 9223372036854775808 → b < 9223372036854775808 → loopF none (b_X12_common_6 m p q) (lN a, lN b) = some (lN (Nat.gcd a b)) := by
  intro b
  induction b using Nat.strongRecOn with
  | ind b ih =>
    intro a ha hb
    by_cases e : b = 0
    · subst e
      rw [Nat.gcd_zero_right]
      apply lp_inr
      unfold b_X12_common_6
      simp only [lg0, if_pos (show lN 0 = 0 from rfl)]
    · have st : b_X12_common_6 m p q (lN a, lN b) = Sum.inl (lN b, lN (a % b)) := by
        unfold b_X12_common_6
        simp only [lg0, lN_z hb, e, not_false_eq_true, if_true, if_false, pk_lRem ha (show 0 < b by omega) hb]
      have lt := Nat.mod_lt a (show b > 0 by omega)
      rw [lp_inl st, ih (a % b) lt b hb (by omega), gcd_st]
theorem gcdX (x : VM) (p q : Int64) : ∀ (k a b c : Nat), a < 9223372036854775808 → b < 9223372036854775808 → b < 2 ^ k → c + 2 * k ≤ 200 → loopF none (b_X11_commonDivisor_9 x p q) (lN a, lN b, nI c) = some (lN (Nat.gcd a b)) := by
  intro k
  have t200 : (200 : Int32).toInt = 200 := rfl
  have z0 : ∀ a c, b_X11_commonDivisor_9 x p q (lN a, lN 0, c) = Sum.inr (some (lN a)) := by
    intro a c
    unfold b_X11_commonDivisor_9
    simp only [lg0, if_pos (show lN 0 = 0 from rfl), ite_self]
  have st : ∀ a b c, a < 9223372036854775808 → b < 9223372036854775808 → 0 < b → c < 200 → b_X11_commonDivisor_9 x p q (lN a, lN b, nI c) = Sum.inl (lN b, lN (a % b), nI (c + 1)) := by
    intro a b c ha hb h0 hc
    unfold b_X11_commonDivisor_9
    have e : ¬ b = 0 := by omega
    simp only [if_neg (show ¬ (200 : Int32) ≤ nI c by rw [Int32.le_iff_toInt_le, tI (by omega), t200]; omega), lg0, lN_z hb, e, not_false_eq_true, if_true, if_false, pk_lRem ha h0 hb, nI_1]
  induction k with
  | zero =>
    intro a b c ha hb hk hc
    have e : b = 0 := by omega
    subst e
    rw [Nat.gcd_zero_right]
    exact lp_inr (z0 _ _)
  | succ k ih =>
    intro a b c ha hb hk hc
    by_cases e : b = 0
    · subst e
      rw [Nat.gcd_zero_right]
      exact lp_inr (z0 _ _)
    · have lt := Nat.mod_lt a (show b > 0 by omega)
      rw [lp_inl (st a b c ha hb (by omega) (by omega)), ← gcd_st a b]
      by_cases e2 : a % b = 0
      · rw [e2, Nat.gcd_zero_right]
        exact lp_inr (z0 _ _)
      · rw [lp_inl (st b (a % b) (c + 1) hb (by omega) (by omega) (by omega)), ← gcd_st b (a % b)]
        have lt2 := Nat.mod_lt b (show a % b > 0 by omega)
        have half : 2 * (b % (a % b)) < b := by
          rcases Nat.lt_or_ge (2 * (a % b)) (b + 1) with q | q
          · omega
          · have : b % (a % b) = b - a % b := by
              rw [Nat.mod_eq_sub_mod (by omega)]
              exact Nat.mod_eq_of_lt (by omega)
            omega
        rw [Nat.pow_succ] at hk
        exact ih (a % b) (b % (a % b)) (c + 1 + 1) (by omega) (by omega) (by omega) (by omega)
theorem low_end {u l U D A g : Nat} (h : u * D = U * l) (hc : Nat.gcd u l = 1) (hl : 0 < l) (hD : 0 < D) (hA : 0 < A) (eg : g = Nat.gcd A u) : U / Nat.gcd U (D * A) = u / g ∧ D * A / Nat.gcd U (D * A) = l * (A / g) := by
  have g0 : 0 < g := by rw [eg]; exact Nat.gcd_pos_of_pos_left _ hA
  obtain ⟨A1, hA1⟩ : g ∣ A := by rw [eg]; exact Nat.gcd_dvd_left _ _
  obtain ⟨u1, hu1⟩ : g ∣ u := by rw [eg]; exact Nat.gcd_dvd_right _ _
  have eA : A / g = A1 := by rw [hA1, Nat.mul_div_cancel_left _ g0]
  have eu : u / g = u1 := by rw [hu1, Nat.mul_div_cancel_left _ g0]
  have A10 : 0 < A1 := by
    rcases Nat.eq_zero_or_pos A1 with z | z
    · rw [z] at hA1; omega
    · exact z
  have c1 : Nat.gcd u1 A1 = 1 := by
    have : g * Nat.gcd A1 u1 = g := by rw [← Nat.gcd_mul_left, ← hA1, ← hu1]; exact eg.symm
    rw [Nat.gcd_comm]
    exact Nat.eq_of_mul_eq_mul_left g0 (by omega)
  have c2 : Nat.gcd u1 l = 1 := Nat.Coprime.coprime_dvd_left ⟨g, by rw [hu1, Nat.mul_comm]⟩ hc
  have c3 : Nat.gcd u1 (l * A1) = 1 := Nat.Coprime.mul_right c2 c1
  rw [eA, eu]
  refine low_uniq ?_ c3 (Nat.mul_pos hl A10) (Nat.mul_pos hD hA)
  calc u1 * (D * A) = (g * u1) * D * A1 := by rw [hA1]; ac_rfl
    _ = U * l * A1 := by rw [← hu1, h]
    _ = U * (l * A1) := by ac_rfl
/-- sizes stay small -/
theorem low_bd {up low a' c k : Nat} (hu : up ≤ 99 * k * low) (hl : 0 < low) (hc : 0 < c) (ha : a' ≤ 99 * c) {g b a h u' l' e : Nat} (eg : g = Nat.gcd c a') (eb : b = c / g) (ea : a = a' / g) (eh : h = Nat.gcd low b) (eu : u' = up * (b / h) + a * (low / h)) (el : l' = low / h * b) (ee : e = Nat.gcd l' u') : l' ≤ low * c ∧ u' ≤ 99 * (k + 1) * l' ∧ u' / e ≤ 99 * (k + 1) * (l' / e) ∧ l' / e ≤ l' := by
  have g0 : 0 < g := by rw [eg]; exact Nat.gcd_pos_of_pos_left _ hc
  obtain ⟨c1, hc1⟩ : g ∣ c := by rw [eg]; exact Nat.gcd_dvd_left _ _
  obtain ⟨a1, ha1⟩ : g ∣ a' := by rw [eg]; exact Nat.gcd_dvd_right _ _
  have eb' : b = c1 := by rw [eb, hc1, Nat.mul_div_cancel_left _ g0]
  have ea' : a = a1 := by rw [ea, ha1, Nat.mul_div_cancel_left _ g0]
  have b0 : 0 < b := by
    rcases Nat.eq_zero_or_pos b with z | z
    · rw [← eb', z] at hc1; omega
    · exact z
  have k0 : 0 < h := by rw [eh]; exact Nat.gcd_pos_of_pos_left _ hl
  obtain ⟨l1, hl1⟩ : h ∣ low := by rw [eh]; exact Nat.gcd_dvd_left _ _
  obtain ⟨b1, hb1⟩ : h ∣ b := by rw [eh]; exact Nat.gcd_dvd_right _ _
  have el1 : low / h = l1 := by rw [hl1, Nat.mul_div_cancel_left _ k0]
  have eb1 : b / h = b1 := by rw [hb1, Nat.mul_div_cancel_left _ k0]
  have ab : a ≤ 99 * b := by
    rw [hc1, ← eb', ha1, ← ea'] at ha
    apply Nat.le_of_mul_le_mul_left (c := g) _ g0
    calc g * a ≤ 99 * (g * b) := ha
      _ = g * (99 * b) := by ac_rfl
  have bc : b ≤ c := by rw [eb]; exact Nat.div_le_self _ _
  have ul : u' ≤ 99 * (k + 1) * l' := by
    apply Nat.le_of_mul_le_mul_left (c := h) _ k0
    have s1 : h * u' = up * b + a * low := by rw [eu, eb1, el1, Nat.mul_add, hb1, hl1]; ac_rfl
    have s2 : h * (99 * (k + 1) * l') = 99 * (k + 1) * (low * b) := by rw [el, el1, hl1]; ac_rfl
    rw [s1, s2]
    have t1 : up * b ≤ 99 * k * low * b := Nat.mul_le_mul_right b hu
    have t2 : a * low ≤ 99 * b * low := Nat.mul_le_mul_right low ab
    have t3 : 99 * (k + 1) * (low * b) = 99 * k * low * b + 99 * b * low := by
      rw [Nat.mul_add, Nat.add_mul]
      congr 1
      · ac_rfl
      · rw [Nat.mul_one]; ac_rfl
    omega
  refine ⟨?_, ul, ?_, Nat.div_le_self _ _⟩
  · rw [el]
    exact Nat.mul_le_mul (Nat.div_le_self _ _) bc
  · rcases Nat.eq_zero_or_pos e with z | z
    · rw [z, Nat.div_zero, Nat.div_zero]; omega
    · obtain ⟨l2, hl2⟩ : e ∣ l' := by rw [ee]; exact Nat.gcd_dvd_left _ _
      obtain ⟨u2, hu2⟩ : e ∣ u' := by rw [ee]; exact Nat.gcd_dvd_right _ _
      rw [hl2, hu2, Nat.mul_div_cancel_left _ z, Nat.mul_div_cancel_left _ z]
      rw [hl2, hu2] at ul
      apply Nat.le_of_mul_le_mul_left (c := e) _ z
      calc e * u2 ≤ 99 * (k + 1) * (e * l2) := ul
        _ = e * (99 * (k + 1) * l2) := by ac_rfl
theorem bd4 : ∀ k, k ≤ 4 → 999 ^ k ≤ 996005996001 := by decide
theorem s_putRight : S_putRight Inv := by
  intro x m p lo hlo hI
  unfold f_X11_putRight f_X12_putRight
  rcases c_pic hI p with ⟨e1, e2⟩ | ⟨i, i1, i2, rfl, e1, e2⟩
  · rw [e1, e2]; exact ⟨_, rfl, rfl, hI⟩
  · rw [e1, e2]
    simp only [Option.elim_some, if_neg n10]
    have key : ∃ r, loopF none (b_X11_putRight_26 x (nI i) lo i) (0, 1, 0, 0) = some r ∧ loopF none (b_X12_putRight_23 m (nI i) lo) (0, 1, 0, 0) = some r := by
      refine lp_cnt2 (V := Int64 × Int64 × Int64 × Int32) (W := Int64 × Int64 × Int32 × Int32) (d := none) (e := none) 4 (fun k v w => ∃ U D A u l, v = (lN U, lN D, lN A, nI k) ∧ w = (lN u, lN l, nI A, nI k) ∧ u * D = U * l ∧ Nat.gcd u l = 1 ∧ 0 < l ∧ 0 < D ∧ D ≤ 999 ^ k ∧ l ≤ 999 ^ k ∧ u ≤ 99 * k * l ∧ U ≤ 99 * k * D ∧ A ≤ 99 * k) (fun o o' => ∃ r, o = some r ∧ o' = some r) ?_ ?_ 0 _ _ (Nat.zero_le _) ⟨0, 1, 0, 0, 1, rfl, rfl, by omega, by decide, by omega, by omega, by decide, by decide, by omega, by omega, by omega⟩
      · rintro k v w hk ⟨U, D, A, u, l, rfl, rfl, q1, q2, q3, q4, q5, q6, q7, q8, q9⟩
        left
        obtain ⟨b1, b2, b3, b4⟩ := (hI.pic i i1).2.2.2.2.2.2.2.2.2.2 k hk
        obtain ⟨c, c1, c2, c3⟩ := rng_nI (a := 0) (b := 999) b3 (by decide)
        rw [c3, tI (by omega)] at b4
        obtain ⟨b, bb1, bb2, bb3⟩ := rng_nI (a := 0) (b := c) b4 (by omega)
        obtain ⟨s1, s2⟩ := hI.sha k hk
        obtain ⟨a, a1, a2, a3⟩ := rng_nI (a := 0) (b := 99) s2 (by decide)
        have kb := bd4 k (by omega)
        have ik : inb (nI k) 4 = true := by rw [inb_T, tI (by omega)]; omega
        have ik2 : inb (nI (4 * i + k)) 32 = true := by rw [inb_T, tI (by omega)]; omega
        have g4 : ¬ (4 : Int32) ≤ nI k := by rw [Int32.le_iff_toInt_le, tI (by omega), t_4]; omega
        unfold b_X11_putRight_26 b_X12_putRight_23
        simp only [if_neg g4, if_pos i1, if_pos ik, nI_clamp (show k < 2 ^ 31 by omega), lm_4, nI_add, if_pos ik2, nI_clamp (show 4 * i + k < 2 ^ 31 by omega), b1, b2, c3, bb3, s1, a3, nI_1, nI_l (show c < 2 ^ 31 by omega), nI_l (show b < 2 ^ 31 by omega), nI_l (show a < 2 ^ 31 by omega), lN_mul, lN_add]
        by_cases ec : c = 0
        · subst ec
          refine ⟨(lN U, lN D, lN A, nI (k + 1)), (lN u, lN l, nI A, nI (k + 1)), ?_, ?_, U, D, A, u, l, rfl, rfl, q1, q2, q3, q4, ?_, ?_, ?_, ?_, by omega⟩
          · rw [if_pos (show nI 0 ≤ (0 : Int32) by decide)]
          · rw [if_pos (show nI 0 = (0 : Int32) from rfl)]
          · rw [Nat.pow_succ]; omega
          · rw [Nat.pow_succ]; omega
          · exact Nat.le_trans q7 (Nat.mul_le_mul_right _ (by omega))
          · exact Nat.le_trans q8 (Nat.mul_le_mul_right _ (by omega))
        · have ab : a * b ≤ 99 * c := Nat.mul_le_mul a2 bb2
          have hc0 : 0 < c := by omega
          obtain ⟨g, eg⟩ : ∃ g, g = Nat.gcd c (a * b) := ⟨_, rfl⟩
          obtain ⟨bq, ebq⟩ : ∃ bq, bq = c / g := ⟨_, rfl⟩
          obtain ⟨aq, eaq⟩ : ∃ aq, aq = a * b / g := ⟨_, rfl⟩
          obtain ⟨h, eh⟩ : ∃ h, h = Nat.gcd l bq := ⟨_, rfl⟩
          obtain ⟨u1, eu1⟩ : ∃ u1, u1 = u * (bq / h) + aq * (l / h) := ⟨_, rfl⟩
          obtain ⟨l1, el1⟩ : ∃ l1, l1 = l / h * bq := ⟨_, rfl⟩
          obtain ⟨e, ee⟩ : ∃ e, e = Nat.gcd l1 u1 := ⟨_, rfl⟩
          obtain ⟨w1, w2, w3, w4, w5, w6, w7, w8⟩ := low_step q1 q3 q4 hc0 eg ebq eaq eh eu1 el1 ee
          obtain ⟨v1, v2, v3, v4⟩ := low_bd q7 q3 hc0 ab eg ebq eaq eh eu1 el1 ee
          have pw : 999 ^ (k + 1) = 999 ^ k * 999 := Nat.pow_succ _ _
          have l1b : l1 ≤ 999 ^ (k + 1) := by rw [pw]; exact Nat.le_trans v1 (Nat.mul_le_mul q6 c2)
          have kb1 := bd4 (k + 1) (by omega)
          have u1b : u1 ≤ 99 * (k + 1) * l1 := v2
          have u1c : u1 ≤ 396 * 996005996001 := Nat.le_trans u1b (Nat.mul_le_mul (by omega) (by omega))
          have gle : g ≤ c := by rw [eg]; exact Nat.gcd_le_left _ hc0
          have hle : h ≤ l := by rw [eh]; exact Nat.gcd_le_left _ q3
          have ele : e ≤ l1 := by rw [ee]; exact Nat.gcd_le_left _ w6
          have bqle : bq ≤ c := by rw [ebq]; exact Nat.div_le_self _ _
          have m1 : f_X12_common m (lN c) (lN (a * b)) = some (lN g) := by unfold f_X12_common; rw [gcdM m _ _ _ _ (by omega) (by omega), eg]
          have d1 : lN c / lN g = lN bq := by rw [pk_lDiv (by omega) w8 (by omega), ebq]
          have d2 : lN (a * b) / lN g = lN aq := by rw [pk_lDiv (by omega) w8 (by omega), eaq]
          have m2 : f_X12_common m (lN l) (lN bq) = some (lN h) := by unfold f_X12_common; rw [gcdM m _ _ _ _ (by omega) (by omega), eh]
          have d3 : lN bq / lN h = lN (bq / h) := pk_lDiv (by omega) w5 (by omega)
          have d4 : lN l / lN h = lN (l / h) := pk_lDiv (by omega) w5 (by omega)
          have m3 : f_X12_common m (lN l1) (lN u1) = some (lN e) := by unfold f_X12_common; rw [gcdM m _ _ _ _ (by omega) (by omega), ee]
          have d5 : lN u1 / lN e = lN (u1 / e) := pk_lDiv (by omega) w7 (by omega)
          have d6 : lN l1 / lN e = lN (l1 / e) := pk_lDiv (by omega) w7 (by omega)
          have ng : ¬ lN g = 0 := by rw [lN_z (by omega)]; omega
          have nh : ¬ lN h = 0 := by rw [lN_z (by omega)]; omega
          have ne : ¬ lN e = 0 := by rw [lN_z (by omega)]; omega
          refine ⟨(lN (U * c + D * (a * b)), lN (D * c), lN (A + a), nI (k + 1)), (lN (u1 / e), lN (l1 / e), nI (A + a), nI (k + 1)), ?_, ?_, U * c + D * (a * b), D * c, A + a, u1 / e, l1 / e, rfl, rfl, w1, w2, w3, Nat.mul_pos q4 hc0, ?_, by omega, v3, ?_, by omega⟩
          · rw [if_neg (show ¬ nI c ≤ (0 : Int32) by rw [Int32.le_iff_toInt_le, tI (by omega), t_0]; omega), Nat.mul_assoc]
          · rw [if_neg (nI_ne0 hc0 (by omega)), m1]
            simp only [Option.elim_some, ng, not_false_eq_true, if_true, d1, d2, m2, nh, d3, d4, lN_mul, lN_add, ← eu1, ← el1, m3, ne, d5, d6]
          · rw [pw]; exact Nat.mul_le_mul q5 c2
          · calc U * c + D * (a * b) ≤ 99 * k * D * c + D * (99 * c) := Nat.add_le_add (Nat.mul_le_mul_right _ q8) (Nat.mul_le_mul_left _ ab)
              _ = 99 * (k + 1) * (D * c) := by
                rw [Nat.mul_add 99 k 1, Nat.add_mul]
                congr 1
                · ac_rfl
                · rw [Nat.mul_one]; ac_rfl
      · rintro v w ⟨U, D, A, u, l, rfl, rfl, q1, q2, q3, q4, q5, q6, q7, q8, q9⟩
        have kb := bd4 4 (by omega)
        have g4 : (4 : Int32) ≤ nI 4 := by decide
        unfold b_X11_putRight_26 b_X12_putRight_23
        simp only [if_pos g4, lg0, lN_z (show A < 9223372036854775808 by omega)]
        by_cases eA : A = 0
        · subst eA
          rw [if_pos rfl, if_pos (show nI 0 = (0 : Int32) from rfl)]
          rcases hlo with rfl | rfl
          · exact ⟨_, _, rfl, rfl, _, rfl, rfl⟩
          · exact ⟨_, _, rfl, rfl, _, rfl, rfl⟩
        · have hA0 : 0 < A := by omega
          have Ub : U ≤ 396 * 996005996001 := Nat.le_trans q8 (Nat.mul_le_mul (by omega) (by omega))
          have ub : u ≤ 396 * 996005996001 := Nat.le_trans q7 (Nat.mul_le_mul (by omega) (by omega))
          have DA : D * A ≤ 996005996001 * 396 := Nat.mul_le_mul (by omega) (by omega)
          have DA0 : 0 < D * A := Nat.mul_pos q4 hA0
          obtain ⟨g, eg⟩ : ∃ g, g = Nat.gcd A u := ⟨_, rfl⟩
          have g0 : 0 < g := by rw [eg]; exact Nat.gcd_pos_of_pos_left _ hA0
          have gle : g ≤ A := by rw [eg]; exact Nat.gcd_le_left _ hA0
          obtain ⟨z1, z2⟩ := low_end q1 q2 q3 q4 hA0 eg
          obtain ⟨G, eG⟩ : ∃ G, G = Nat.gcd U (D * A) := ⟨_, rfl⟩
          have G0 : 0 < G := by rw [eG]; exact Nat.gcd_pos_of_pos_right _ DA0
          have Gle : G ≤ D * A := by rw [eG]; exact Nat.gcd_le_right _ DA0
          rw [← eG] at z1 z2
          have mx : f_X11_commonDivisor x (lN U) (lN (D * A)) = some (lN G) := by
            unfold f_X11_commonDivisor
            have := gcdX x (lN U) (lN (D * A)) 63 U (D * A) 0 (by omega) (by omega) (by omega) (by omega)
            rw [← eG] at this
            exact this
          have mm : f_X12_common m (lN A) (lN u) = some (lN g) := by unfold f_X12_common; rw [gcdM m _ _ _ _ (by omega) (by omega), eg]
          have nG : ¬ lN G = 0 := by rw [lN_z (by omega)]; omega
          have ng : ¬ lN g = 0 := by rw [lN_z (by omega)]; omega
          have cG : ¬ lg_cmp (lN G) 0 ≤ 0 := by
            rw [lg_cmp_le, ← lN_0, pk_lLE (by omega) (by omega)]; omega
          have x1 : lN U / lN G = lN (u / g) := by rw [pk_lDiv (by omega) G0 (by omega), z1]
          have x2 : lN (D * A) / lN G = lN (l * (A / g)) := by rw [pk_lDiv (by omega) G0 (by omega), z2]
          have y1 : lN u / lN g = lN (u / g) := pk_lDiv (by omega) g0 (by omega)
          have y2 : lN A / lN g = lN (A / g) := pk_lDiv (by omega) g0 (by omega)
          have nA : ¬ nI A = 0 := nI_ne0 hA0 (by omega)
          unfold j_X11_putRight_146
          simp only [if_neg eA, if_neg nA, lN_mul, mx, Option.elim_some, if_neg cG, nG, not_false_eq_true, if_true, nI_l (show A < 2 ^ 31 by omega), mm, ng, x1, x2, y1, y2]
          rcases hlo with rfl | rfl
          · exact ⟨_, _, rfl, rfl, _, rfl, rfl⟩
          · exact ⟨_, _, rfl, rfl, _, rfl, rfl⟩
    obtain ⟨r, r1, r2⟩ := key
    rw [r1, r2]
    exact ⟨r, rfl, rfl, hI⟩
