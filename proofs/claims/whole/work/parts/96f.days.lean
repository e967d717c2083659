section
variable {x m : VM}
theorem now_up {x m : VM} (h : InvN x m) (v u : Int32) : InvN (setI x 1116 0 v) (setI m 1200 0 u) := ⟨h.bas, h.cnt, h.pur, h.clr, h.fau, h.cod, h.sha, h.fee, h.law, h.she, h.pe0, h.pic, h.ord, h.dra, h.pi0, h.sce, h.sc0, h.hal, h.ha0, h.shw, h.pla, h.cac, h.ref⟩
/-- a day -/
theorem l_day (hI : Inv x m) {d : Nat} (hd : d < 4000) (x1 : x.1 1116 0 = nI d) : ∃ y z, f_X11_liveDay x = some y ∧ f_X12_lives m = some z ∧ Inv y z ∧ y.1 1116 0 = nI (d + 1) := by
  have x5 := hI.bas.1.2.1.2
  have x4 := hI.bas.1.1.2
  obtain ⟨F, r1, r2⟩ := l_rdp hI
  obtain ⟨F', y, z, i1, i2, i3, q1, q2⟩ := l_pics hI x m r2
  unfold f_X11_liveDay f_X12_lives
  rw [r1]
  simp only [Option.elim_some]
  rw [q1, q2]
  have y1 : y.1 1116 0 = nI d := by rw [i3, x1]
  have z1 : z.1 1200 0 = nI d := by rw [i1.now.1, y1]
  have hP : ∀ w, w < y.2.2.2 4 → PerAt (nI d) (d + 3276) y z w := by
    intro w hw
    have := i1.per w hw
    rw [y1] at this
    exact per_mono this (by rw [tI (by omega)]; omega)
  obtain ⟨y2, z2, l1, l2, l3, l4, l5, l6, l7⟩ := l_leng i1.toN (by omega) y1 z1 hP m (nI (x.2.2.2 5), z)
  have c1 : y.1 1114 0 = nI (x.2.2.2 5) := by rw [i1.bas.1.2.1.1, i2]
  have c2 : z.1 1204 0 = nI (x.2.2.2 5) := by rw [i1.cnt.2.1, c1]
  have e1 : y2.1 1113 0 = nI (y.2.2.2 4) := by rw [l3.bas.1.1.1, l6]
  have e2 : z2.1 1202 0 = nI (y.2.2.2 4) := by rw [l3.cnt.1, e1]
  have l7' : ∀ w, w < y2.2.2.2 4 → PerAt (nI d) (d + 3277) y2 z2 w := fun w hw => l7 w (by rw [l6] at hw; exact hw)
  by_cases e6 : (nI d - nI d / 7 * 7 : Int32) = 6
  · obtain ⟨y3, z3, p1, p2, p3, p4, p5, p6, p7⟩ := l_pay l3 (by omega) l4 l5 l7' m (nI (x.2.2.2 5), z) (nI (y.2.2.2 4), z2)
    have f1 : y3.1 1113 0 = nI (y2.2.2.2 4) := by rw [p3.bas.1.1.1, p6]
    have f2 : z3.1 1202 0 = nI (y2.2.2.2 4) := by rw [p3.cnt.1, f1]
    have p7' : ∀ w, w < (setI y3 1116 0 (nI (d + 1))).2.2.2 4 → PerAt (nI d) (d + 3277) (setI y3 1116 0 (nI (d + 1))) (setI z3 1200 0 (nI (d + 1))) w := fun w hw => per_k (p7 w (by rw [← p6]; exact hw)) (fun F hF => by rw [rIn (show F ≠ 1116 by omega)]) rfl rfl rfl (fun F hF => rfl) (fun k hk => rfl) (fun j hj => rfl)
    obtain ⟨Y, Z, g1, g2, g3, g4⟩ := l_settle (B := b_X11_liveDay_85_16 x (nI F', nI (x.2.2.2 5), y)) (C := b_X12_lives_232_15 m (nI (x.2.2.2 5), z) (nI (y.2.2.2 4), z2) (nI (y2.2.2.2 4), z3)) (fo := fun q => Sum.inr (some q)) (no := Sum.inr none) (dO := Sum.inr none) (fp := fun q => Sum.inr (Sum.inr (Sum.inr (some q)))) (np := Sum.inr (Sum.inr (Sum.inr none))) (dP := Sum.inr (Sum.inr (Sum.inr none))) (fun v => rfl) (fun v => rfl) hd (now_up p3 (nI (d + 1)) (nI (d + 1))) sI_s sI_s p7'
    refine ⟨Y, Z, ?_, ?_, g3, g4⟩
    · apply lp_inr
      unfold b_X11_liveDay_7
      simp only [c1, l1, l4, p1, p4, Option.elim_some, if_pos e6, nI_1]
      rw [if_pos (Int32.le_refl _)]
      exact g1
    · apply lp_inr
      unfold b_X12_lives_7
      simp only [c2]
      rw [if_pos (Int32.le_refl _), l2]
      apply lp_inr
      unfold b_X12_lives_45
      simp only [e2, l5, if_pos e6]
      rw [if_pos (Int32.le_refl _), p2]
      apply lp_inr
      unfold b_X12_lives_106
      simp only [f2, p5, nI_1]
      rw [if_pos (Int32.le_refl _)]
      exact g2
  · have p7' : ∀ w, w < (setI y2 1116 0 (nI (d + 1))).2.2.2 4 → PerAt (nI d) (d + 3277) (setI y2 1116 0 (nI (d + 1))) (setI z2 1200 0 (nI (d + 1))) w := fun w hw => per_k (l7' w hw) (fun F hF => by rw [rIn (show F ≠ 1116 by omega)]) rfl rfl rfl (fun F hF => rfl) (fun k hk => rfl) (fun j hj => rfl)
    obtain ⟨Y, Z, g1, g2, g3, g4⟩ := l_settle (B := b_X11_liveDay_85 x (nI F', nI (x.2.2.2 5), y)) (C := b_X12_lives_232 m (nI (x.2.2.2 5), z) (nI (y.2.2.2 4), z2)) (fo := fun q => Sum.inr (some q)) (no := Sum.inr none) (dO := Sum.inr none) (fp := fun q => Sum.inr (Sum.inr (some q))) (np := Sum.inr (Sum.inr none)) (dP := Sum.inr (Sum.inr none)) (fun v => rfl) (fun v => rfl) hd (now_up l3 (nI (d + 1)) (nI (d + 1))) sI_s sI_s p7'
    refine ⟨Y, Z, ?_, ?_, g3, g4⟩
    · apply lp_inr
      unfold b_X11_liveDay_7
      simp only [c1, l1, l4, Option.elim_some, if_neg e6, nI_1]
      rw [if_pos (Int32.le_refl _)]
      exact g1
    · apply lp_inr
      unfold b_X12_lives_7
      simp only [c2]
      rw [if_pos (Int32.le_refl _), l2]
      apply lp_inr
      unfold b_X12_lives_45
      simp only [e2, l5, if_neg e6, nI_1]
      rw [if_pos (Int32.le_refl _)]
      exact g2
theorem s_days : S_days Inv := by
  intro x m p hI
  show Sm Inv _ _
  obtain ⟨d, d1, d2, d3⟩ := rng_nI (a := 0) (b := 4000) hI.now.2 (by decide)
  have m3 : m.1 1200 0 = nI d := by rw [hI.now.1, d3]
  unfold f_X11_days f_X12_days
  by_cases p1 : p < 1
  · rw [if_pos p1, if_pos p1]
    exact Sm.mk rfl (hI.ref1 5)
  rw [if_neg p1, if_neg p1]
  by_cases p2 : p ≤ 100
  · rw [if_pos p2, if_pos p2]
    obtain ⟨k, k1, k2, rfl⟩ := rng_nI (v := p) (a := 1) (b := 100) ⟨by rw [Int32.lt_iff_toInt_lt] at p1; exact Int.not_lt.mp p1, by rw [Int32.le_iff_toInt_le] at p2; exact p2⟩ (by decide)
    rw [d3, m3]
    have c1 : (nI k ≤ 4000 - nI d) ↔ k + d ≤ 4000 := by
      rw [Int32.le_iff_toInt_le, tI (by omega), subT (by rw [tI (by omega), show (4000 : Int32).toInt = 4000 from rfl]; omega) (by rw [tI (by omega), show (4000 : Int32).toInt = 4000 from rfl]; omega), tI (by omega), show (4000 : Int32).toInt = 4000 from rfl]; omega
    have c2 : (nI d + nI k ≤ 4000) ↔ k + d ≤ 4000 := by
      rw [nI_add, Int32.le_iff_toInt_le, tI (by omega), show (4000 : Int32).toInt = 4000 from rfl]; omega
    by_cases e : k + d ≤ 4000
    · rw [if_pos (c1.mpr e), if_pos (c2.mpr e)]
      refine lp_cnt2 (V := Int32 × VM) (W := Int32 × VM) k (fun i v w => ∃ y z, v = (nI i, y) ∧ w = (nI i, z) ∧ Inv y z ∧ y.1 1116 0 = nI (d + i)) (Sm Inv) ?_ ?_ 0 _ _ (Nat.zero_le _) ⟨x, m, rfl, rfl, hI, d3⟩
      · rintro i v w hi ⟨y, z, rfl, rfl, h1, h2⟩
        left
        obtain ⟨Y, Z, g1, g2, g3, g4⟩ := l_day h1 (show d + i < 4000 by omega) h2
        have lt : ¬ nI k ≤ nI i := by rw [Int32.le_iff_toInt_le, tI (by omega), tI (by omega)]; omega
        unfold b_X11_days_39 b_X12_days_39
        simp only [if_neg lt, g1, g2, Option.elim_some, nI_1]
        exact ⟨_, _, rfl, rfl, Y, Z, rfl, rfl, g3, g4⟩
      · rintro v w ⟨y, z, rfl, rfl, h1, h2⟩
        unfold b_X11_days_39 b_X12_days_39
        simp only [if_pos (Int32.le_refl (nI k)), h1.now.1]
        exact ⟨_, _, rfl, rfl, Sm.mk rfl h1⟩
    · rw [if_neg (fun q => e (c1.mp q)), if_neg (fun q => e (c2.mp q))]
      exact Sm.mk rfl (hI.ref1 6)
  · rw [if_neg p2, if_neg p2]
    exact Sm.mk rfl (hI.ref1 5)
end
