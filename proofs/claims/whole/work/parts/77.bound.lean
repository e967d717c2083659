/-! bound, status -/
theorem s_bound : S_bound Inv := by
  intro x m p hI
  show Sm Inv _ _
  unfold f_X11_bound f_X12_bound
  rcases c_pic hI p with ⟨e1, e2⟩ | ⟨i, i1, i2, rfl, e1, e2⟩
  · rw [e1, e2]; exact Sm.mk rfl (hI.ref1 0)
  · rw [e1, e2]
    simp only [Option.elim_some, if_neg n10]
    obtain ⟨n1, n2, n3⟩ := n_sce hI i1
    obtain ⟨g, g1, g2, g3, g4⟩ := chgN hI
    have key : ∃ r, f_X3_boundOf x i = some r ∧ loopF none (b_X12_bound_21 m (nI i)) (0, 0, 0) = some (r, m) := by
      unfold f_X3_boundOf
      refine lp_cnt2 (V := Int32 × Int32 × Int32) (W := Int32 × Int32 × Int32) (d := none) (e := none) (x.2.2.2 (20 + i)) (fun k v w => ∃ c pl, pl < 1024 ∧ v = (c, nI pl, nI k) ∧ w = (c + nI g * nI (pcN pl), nI pl, nI k)) (fun o p => ∃ r, o = some r ∧ p = some (r, m)) ?_ ?_ 0 (0, 0, 0) (0, 0, 0) (Nat.zero_le _) ⟨0, 0, by decide, rfl, by rw [show pcN 0 = 0 from rfl, pk_mul, Nat.mul_zero]; rfl⟩
      · rintro k v w hk ⟨c, pl, hpl, rfl, rfl⟩
        left
        obtain ⟨ca, ca1, ca2, ca3, ca4⟩ := caN hI i1 hk
        obtain ⟨pa, pa1, pa2, pa3⟩ := plN hI i1 hk
        obtain ⟨da, da1, da2, da3, da4⟩ := dyN hI i1 hk
        have dc := l_dc hI (t := ca) (by omega)
        obtain ⟨r, r1, r2⟩ := l_dp hI (t := ca) (by omega)
        unfold b_X3_boundOf_7 b_X12_bound_21 j_X12_bound_89
        simp (disch := omega) only [if_pos, n1, n2, Int32.le_iff_toInt_le, tI, if_neg, inb_T, nI_clamp, d8, m8, lm_8, nI_add, ca3, ca4, pa2, pa3, da3, da4, dc, r1, r2, Option.elim_some, bt_0, g3, shl1 pa (by omega), nI_or, nI_1]
        have hpl2 : pl ||| 2 ^ pa < 1024 := Nat.or_lt_two_pow (n := 10) hpl (Nat.pow_lt_pow_right (by decide) (by omega))
        have e := pcN_or pa (by omega) pl hpl
        by_cases h : pl.testBit pa = true
        · rw [if_neg (by rw [h]; decide)]
          refine ⟨_, _, rfl, rfl, _, _, hpl2, rfl, ?_⟩
          rw [e, if_pos h, Nat.add_zero]
          refine Prod.ext ?_ rfl
          show c + nI g * nI (pcN pl) + nI da * nI (dD x ca) = c + nI da * nI (dD x ca) + nI g * nI (pcN pl)
          rw [Int32.add_assoc, Int32.add_comm (nI g * nI (pcN pl)), Int32.add_assoc]
        · rw [if_pos (by revert h; cases pl.testBit pa <;> simp)]
          refine ⟨_, _, rfl, rfl, _, _, hpl2, rfl, ?_⟩
          rw [e, if_neg h]
          refine Prod.ext ?_ rfl
          show c + nI g * nI (pcN pl) + nI da * nI (dD x ca) + nI g = c + nI da * nI (dD x ca) + nI g * nI (pcN pl + 1)
          rw [pk_mul g, pk_mul g, Nat.mul_add, Nat.mul_one, ← nI_add (g * pcN pl) g, Int32.add_assoc c, Int32.add_comm (nI (g * pcN pl)), ← Int32.add_assoc c, Int32.add_assoc, Int32.add_assoc]
      · rintro v w ⟨c, pl, hpl, rfl, rfl⟩
        unfold b_X3_boundOf_7 b_X12_bound_21
        simp only [if_pos i1, n1, n2, if_pos (inb8 i2), nI_clamp (show i < 2 ^ 31 by omega), if_pos (Int32.le_refl _), bcN pl hpl, Option.elim_some, g2]
        exact ⟨_, _, rfl, rfl, _, rfl, rfl⟩
    obtain ⟨r, r1, r2⟩ := key
    rw [r1, r2]
    exact Sm.mk rfl hI
theorem l_who (x m : VM) (hI : Inv x m) (q : Int32) (C : (Int32 × Int32) → (Int32 × Int32) ⊕ Option Int32) (hC : ∀ k s, k < x.2.2.2 4 → ∃ t, b_X11_peopleWho_4 x q (s, nI k) = Sum.inl (t, nI (k + 1)) ∧ C (s, nI k) = Sum.inl (t, nI (k + 1))) (hf : ∀ s, C (s, nI (x.2.2.2 4)) = Sum.inr (some s)) : ∃ r, f_X11_peopleWho x q = some r ∧ loopF none C (0, 0) = some r := by
  unfold f_X11_peopleWho
  refine lp_cnt2 (V := Int32 × Int32) (W := Int32 × Int32) (d := none) (e := none) (x.2.2.2 4) (fun k v w => ∃ s, v = (s, nI k) ∧ w = (s, nI k)) (fun o p => ∃ s, o = some s ∧ p = some s) ?_ ?_ 0 (0, 0) (0, 0) (Nat.zero_le _) ⟨0, rfl, rfl⟩
  · rintro k v w hk ⟨s, rfl, rfl⟩
    left
    obtain ⟨t, t1, t2⟩ := hC k s hk
    exact ⟨_, _, t1, t2, t, rfl, rfl⟩
  · rintro v w ⟨s, rfl, rfl⟩
    refine ⟨_, _, ?_, hf s, s, rfl, rfl⟩
    unfold b_X11_peopleWho_4
    rw [hI.bas.1.1.1, if_pos (Int32.le_refl _)]
theorem l_shw (x m : VM) (hI : Inv x m) : f_X11_showings x = some (nI (cntS x)) := by
  have hc := hI.bas.1.2.2.1
  have cf : ∀ (p : Nat → Bool) k, ((List.range (k + 1)).filter p).length = ((List.range k).filter p).length + if p k = true then 1 else 0 := by
    intro p k
    rw [List.range_succ, List.filter_append, List.length_append]
    congr 1
    by_cases h : p k = true
    · rw [if_pos h]; simp [h]
    · rw [if_neg h]; simp [h]
  unfold f_X11_showings cntS
  refine lp_seq (fun h => (nI (((List.range h).map fun h => ((List.range 40).filter fun w => decide (¬ x.2.1 103 h w = -1)).length).sum), nI h)) (x.2.2.2 1) _ (fun h hh => ?_) ?_
  · have inner : ∀ s : Nat, loopF (Sum.inr none) (b_X11_showings_14 x (nI s, nI h)) (nI s, 0) = Sum.inl (nI (s + ((List.range 40).filter fun w => decide (¬ x.2.1 103 h w = -1)).length), nI (h + 1)) := by
      intro s
      refine lp_seq (fun w => (nI (s + ((List.range w).filter fun w => decide (¬ x.2.1 103 h w = -1)).length), nI w)) 40 _ (fun w hw => ?_) ?_
      · unfold b_X11_showings_14
        simp (disch := omega) only [Int32.le_iff_toInt_le, t_40, tI, if_neg, if_pos, inb_T, nI_clamp, nI_1]
        rw [cf]
        by_cases e : x.2.1 103 h w = -1
        · rw [if_pos e, if_neg (by simp [e])]; rfl
        · rw [if_neg e, if_pos (by simp [e])]; rfl
      · unfold b_X11_showings_14
        rw [if_pos (show (40 : Int32) ≤ nI 40 by decide), nI_1]
    unfold b_X11_showings_4
    rw [hc.1, if_neg (by rw [Int32.le_iff_toInt_le, tI (by omega), tI (by omega)]; omega)]
    rw [inner]
    show Sum.inl _ = Sum.inl (nI (((List.range (h + 1)).map _).sum), _)
    rw [List.range_succ (n := h), List.map_append, List.sum_append]
    simp only [List.map_cons, List.map_nil, List.sum_cons, List.sum_nil, Nat.add_zero]
  · unfold b_X11_showings_4
    rw [hc.1, if_pos (Int32.le_refl _)]
theorem s_status : S_status Inv := by
  intro x m q hI
  have hN := hI.now.1
  have c3 : m.1 1202 0 = nI (x.2.2.2 4) := by rw [hI.cnt.1, hI.bas.1.1.1]
  have h16 := hI.bas.1.1.2
  unfold f_X12_status
  by_cases h10 : q.toInt ≤ 10
  · rw [if_pos (by rw [Int32.le_iff_toInt_le]; exact h10)]
    unfold f_X11_status j_X12_status_22
    by_cases h0 : q = 0
    · simp only [if_pos h0]; exact ⟨_, rfl, by rw [hI.cnt.1], hI⟩
    · simp only [if_neg h0]
      by_cases h1 : q = 1
      · simp only [if_pos h1]; exact ⟨_, rfl, by rw [hI.cnt.2.1], hI⟩
      · simp only [if_neg h1]
        by_cases h2 : q = 2
        · simp only [if_pos h2]; exact ⟨_, rfl, by rw [hI.law.1.1], hI⟩
        · simp only [if_neg h2]
          by_cases h3 : q = 3
          · simp only [if_pos h3]; exact ⟨_, rfl, by rw [hI.cnt.2.2], hI⟩
          · simp only [if_neg h3]
            by_cases h4 : q = 4
            · simp only [if_pos h4]; exact ⟨_, rfl, by rw [hN], hI⟩
            · simp only [if_neg h4]
              by_cases h5 : q = 5
              · simp only [if_pos h5]; exact ⟨_, rfl, by rw [hI.pur], hI⟩
              · simp only [if_neg h5]
                by_cases h6 : q = 6
                · simp only [if_pos h6]
                  obtain ⟨r, r1, r2⟩ := l_who x m hI q (b_X12_status_112 m q) (fun k s hk => by
                    have lt : ¬ nI (x.2.2.2 4) ≤ nI k := by rw [Int32.le_iff_toInt_le, tI (by omega), tI (by omega)]; omega
                    have ein : inb (nI k) 16 = true := by rw [inb_T, tI (by omega)]; omega
                    unfold b_X11_peopleWho_4 b_X12_status_112
                    simp only [hI.bas.1.1.1, c3, if_neg lt, if_pos ein, nI_clamp (show k < 2 ^ 31 by omega), if_pos hk, if_pos h6, hN, nI_1]
                    rcases c_und (hI.per k hk) hk (by omega) (x.1 1116 0) with ⟨a1, a2, _⟩ | ⟨a1, a2, _⟩
                    · rw [a1, a2]; exact ⟨_, rfl, rfl⟩
                    · rw [a1, a2]; exact ⟨_, rfl, rfl⟩) (fun s => by
                    unfold b_X12_status_112
                    rw [c3, if_pos (Int32.le_refl _)])
                  rw [r1, r2]; exact ⟨r, rfl, rfl, hI⟩
                · simp only [if_neg h6]
                  by_cases h7 : q = 7
                  · simp only [if_pos h7]
                    obtain ⟨r, r1, r2⟩ := l_who x m hI q (b_X12_status_145 m q) (fun k s hk => by
                      have lt : ¬ nI (x.2.2.2 4) ≤ nI k := by rw [Int32.le_iff_toInt_le, tI (by omega), tI (by omega)]; omega
                      have ein : inb (nI k) 16 = true := by rw [inb_T, tI (by omega)]; omega
                      unfold b_X11_peopleWho_4 b_X12_status_145
                      simp only [hI.bas.1.1.1, c3, if_neg lt, if_pos ein, nI_clamp (show k < 2 ^ 31 by omega), if_pos hk, if_neg h6, if_pos h7, (hI.per k hk).2.2.2.1.1, nI_1]
                      by_cases e : x.1 406 k = 0
                      · simp only [if_pos e]; exact ⟨_, rfl, rfl⟩
                      · simp only [if_neg e]; exact ⟨_, rfl, rfl⟩) (fun s => by
                      unfold b_X12_status_145
                      rw [c3, if_pos (Int32.le_refl _)])
                    rw [r1, r2]; exact ⟨r, rfl, rfl, hI⟩
                  · simp only [if_neg h7]
                    by_cases h8 : q = 8
                    · simp only [if_pos h8]
                      obtain ⟨r, r1, r2⟩ := l_who x m hI q (b_X12_status_175 m q) (fun k s hk => by
                        have lt : ¬ nI (x.2.2.2 4) ≤ nI k := by rw [Int32.le_iff_toInt_le, tI (by omega), tI (by omega)]; omega
                        have ein : inb (nI k) 16 = true := by rw [inb_T, tI (by omega)]; omega
                        unfold b_X11_peopleWho_4 b_X12_status_175
                        simp only [hI.bas.1.1.1, c3, if_neg lt, if_pos ein, nI_clamp (show k < 2 ^ 31 by omega), if_pos hk, if_neg h6, if_neg h7, hN, nI_1, if_neg n10, if_true]
                        rcases c_len (hI.per k hk) (by omega) with ⟨a1, a2⟩ | ⟨a1, a2, _⟩
                        · rw [a1, if_pos a2]; exact ⟨_, rfl, rfl⟩
                        · rw [a1, if_neg a2]; exact ⟨_, rfl, rfl⟩) (fun s => by
                        unfold b_X12_status_175
                        rw [c3, if_pos (Int32.le_refl _)])
                      rw [r1, r2]; exact ⟨r, rfl, rfl, hI⟩
                    · simp only [if_neg h8]
                      by_cases h9 : q = 9
                      · simp only [if_pos h9]
                        rw [l_shw x m hI]
                        exact ⟨_, rfl, by rw [hI.shw], hI⟩
                      · simp only [if_neg h9]
                        rw [if_pos (by rw [Int32.le_iff_toInt_le]; exact h10)]
                        exact ⟨_, rfl, rfl, hI⟩
  · rw [if_neg (by rw [Int32.le_iff_toInt_le]; exact h10)]
    have big : ∀ k : Int32, k.toInt ≤ 9 → ¬ q = k := fun k hk z => by rw [z] at h10; omega
    have ex : f_X11_status x q = if 7 ≤ (q - 11) then some (-1) else if inb (q - 11) 7 = true then some (x.2.1 1112 0 ((q - 11).toNatClampNeg)) else none := by
      unfold f_X11_status
      rw [if_neg (big 0 (by decide)), if_neg (big 1 (by decide)), if_neg (big 2 (by decide)), if_neg (big 3 (by decide)), if_neg (big 4 (by decide)), if_neg (big 5 (by decide)), if_neg (big 6 (by decide)), if_neg (big 7 (by decide)), if_neg (big 8 (by decide)), if_neg (big 9 (by decide)), if_neg (by rw [Int32.le_iff_toInt_le]; exact h10)]
    rw [ex]
    have t11 : (11 : Int32).toInt = 11 := rfl
    have t18 : (18 : Int32).toInt = 18 := rfl
    have q1 : (q - 11).toInt = q.toInt - 11 := by
      have := Int32.toInt_lt q
      rw [subT] <;> rw [t11] <;> omega
    have q2 : (q - 10).toInt = q.toInt - 10 := by
      have := Int32.toInt_lt q
      rw [subT] <;> rw [t_10] <;> omega
    by_cases h18 : 18 ≤ q.toInt
    · rw [if_pos (show (7 : Int32) ≤ q - 11 by rw [Int32.le_iff_toInt_le, q1, t_7]; omega), if_pos (show (18 : Int32) ≤ q by rw [Int32.le_iff_toInt_le, t18]; omega)]
      unfold j_X12_status_22
      rw [if_neg (big 0 (by decide)), if_neg (big 1 (by decide)), if_neg (big 2 (by decide)), if_neg (big 3 (by decide)), if_neg (big 4 (by decide)), if_neg (big 5 (by decide)), if_neg (big 6 (by decide)), if_neg (big 7 (by decide)), if_neg (big 8 (by decide)), if_neg (big 9 (by decide))]
      exact ⟨_, rfl, rfl, hI⟩
    · rw [if_neg (show ¬ (7 : Int32) ≤ q - 11 by rw [Int32.le_iff_toInt_le, q1, t_7]; omega), if_neg (show ¬ (18 : Int32) ≤ q by rw [Int32.le_iff_toInt_le, t18]; omega), if_pos (by rw [inb_T, q1]; omega), if_pos (by rw [inb_T, q2]; omega)]
      have z1 : (q - 11).toNatClampNeg = (q.toInt - 11).toNat := by show (q - 11).toInt.toNat = _; rw [q1]
      have z2 : (q - 10).toNatClampNeg = (q.toInt - 11).toNat + 1 := by show (q - 10).toInt.toNat = _; rw [q2]; omega
      rw [z1, z2]
      exact ⟨_, rfl, by rw [hI.ref _ (by omega)], hI⟩
