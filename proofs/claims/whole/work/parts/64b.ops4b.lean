theorem s_hall : S_hall Inv := by
  intro x m p q r hI
  show Sm Inv _ _
  unfold f_X11_hall f_X12_hall
  rcases ar p 0 2 (by decide) with h | h | ⟨p, h1, h2, rfl⟩
  · simp (disch := omega) only [Int32.lt_iff_toInt_lt, Int32.le_iff_toInt_le, i32eq, tI, t_0, t_1, t_2, t_3, t_4, t_5, t_6, t_7, t_8, t_9, t_10, t_16, t_31, t_40, t_48, t_50, t_52, t_57, t_60, t_61, t_64, t_90, t_99, t_100, t_108, t_112, t_114, t_115, t_119, t_121, t_200, t_256, t_364, t_400, t_480, t_960, t_999, t_1000, t_4000, t_99999, t_1000000000, t_2147483647, t_m1, t_m2, t_m3, t_m4, t_m5, t_m6, t_m7, t_m1000, nI_clamp, inb_T, Option.elim_some, Option.elim_none, if_pos, if_neg, rfx1, rfm1, rfx2, rfm2, rfx3, rfm3, rfx4, rfm4, rfx5, rfm5, rfx6, rfm6, rfx7, rfm7, nI_add, pk_mul, lm_2, lm_4, lm_5, lm_7, lm_8, lm_10, lm_40, lm_60, lm_61, lm_364, lm_1000, la_1, al_1, la_10, al_10, la_11, al_11, la_100, al_100, la_364, al_364, d8, m8, ↓reduceIte, rA1, rA3, rI2, rJ1, rJ2, rJ4, rN1, rN2, rN3, rAs, rIs, rJs, rAn, rIn, rJn]; exact Sm.mk rfl (hI.ref1 0)
  · simp (disch := omega) only [Int32.lt_iff_toInt_lt, Int32.le_iff_toInt_le, i32eq, tI, t_0, t_1, t_2, t_3, t_4, t_5, t_6, t_7, t_8, t_9, t_10, t_16, t_31, t_40, t_48, t_50, t_52, t_57, t_60, t_61, t_64, t_90, t_99, t_100, t_108, t_112, t_114, t_115, t_119, t_121, t_200, t_256, t_364, t_400, t_480, t_960, t_999, t_1000, t_4000, t_99999, t_1000000000, t_2147483647, t_m1, t_m2, t_m3, t_m4, t_m5, t_m6, t_m7, t_m1000, nI_clamp, inb_T, Option.elim_some, Option.elim_none, if_pos, if_neg, rfx1, rfm1, rfx2, rfm2, rfx3, rfm3, rfx4, rfm4, rfx5, rfm5, rfx6, rfm6, rfx7, rfm7, nI_add, pk_mul, lm_2, lm_4, lm_5, lm_7, lm_8, lm_10, lm_40, lm_60, lm_61, lm_364, lm_1000, la_1, al_1, la_10, al_10, la_11, al_11, la_100, al_100, la_364, al_364, d8, m8, ↓reduceIte, rA1, rA3, rI2, rJ1, rJ2, rJ4, rN1, rN2, rN3, rAs, rIs, rJs, rAn, rIn, rJn]; exact Sm.mk rfl (hI.ref1 0)
  · rcases ar q 0 3 (by decide) with h | h | ⟨q, h3, h4, rfl⟩
    · simp (disch := omega) only [Int32.lt_iff_toInt_lt, Int32.le_iff_toInt_le, i32eq, tI, t_0, t_1, t_2, t_3, t_4, t_5, t_6, t_7, t_8, t_9, t_10, t_16, t_31, t_40, t_48, t_50, t_52, t_57, t_60, t_61, t_64, t_90, t_99, t_100, t_108, t_112, t_114, t_115, t_119, t_121, t_200, t_256, t_364, t_400, t_480, t_960, t_999, t_1000, t_4000, t_99999, t_1000000000, t_2147483647, t_m1, t_m2, t_m3, t_m4, t_m5, t_m6, t_m7, t_m1000, nI_clamp, inb_T, Option.elim_some, Option.elim_none, if_pos, if_neg, rfx1, rfm1, rfx2, rfm2, rfx3, rfm3, rfx4, rfm4, rfx5, rfm5, rfx6, rfm6, rfx7, rfm7, nI_add, pk_mul, lm_2, lm_4, lm_5, lm_7, lm_8, lm_10, lm_40, lm_60, lm_61, lm_364, lm_1000, la_1, al_1, la_10, al_10, la_11, al_11, la_100, al_100, la_364, al_364, d8, m8, ↓reduceIte, rA1, rA3, rI2, rJ1, rJ2, rJ4, rN1, rN2, rN3, rAs, rIs, rJs, rAn, rIn, rJn]; exact Sm.mk rfl (hI.ref1 5)
    · simp (disch := omega) only [Int32.lt_iff_toInt_lt, Int32.le_iff_toInt_le, i32eq, tI, t_0, t_1, t_2, t_3, t_4, t_5, t_6, t_7, t_8, t_9, t_10, t_16, t_31, t_40, t_48, t_50, t_52, t_57, t_60, t_61, t_64, t_90, t_99, t_100, t_108, t_112, t_114, t_115, t_119, t_121, t_200, t_256, t_364, t_400, t_480, t_960, t_999, t_1000, t_4000, t_99999, t_1000000000, t_2147483647, t_m1, t_m2, t_m3, t_m4, t_m5, t_m6, t_m7, t_m1000, nI_clamp, inb_T, Option.elim_some, Option.elim_none, if_pos, if_neg, rfx1, rfm1, rfx2, rfm2, rfx3, rfm3, rfx4, rfm4, rfx5, rfm5, rfx6, rfm6, rfx7, rfm7, nI_add, pk_mul, lm_2, lm_4, lm_5, lm_7, lm_8, lm_10, lm_40, lm_60, lm_61, lm_364, lm_1000, la_1, al_1, la_10, al_10, la_11, al_11, la_100, al_100, la_364, al_364, d8, m8, ↓reduceIte, rA1, rA3, rI2, rJ1, rJ2, rJ4, rN1, rN2, rN3, rAs, rIs, rJs, rAn, rIn, rJn]; exact Sm.mk rfl (hI.ref1 5)
    · rcases ar r 0 90 (by decide) with h | h | ⟨r, h5, h6, rfl⟩
      · simp (disch := omega) only [Int32.lt_iff_toInt_lt, Int32.le_iff_toInt_le, i32eq, tI, t_0, t_1, t_2, t_3, t_4, t_5, t_6, t_7, t_8, t_9, t_10, t_16, t_31, t_40, t_48, t_50, t_52, t_57, t_60, t_61, t_64, t_90, t_99, t_100, t_108, t_112, t_114, t_115, t_119, t_121, t_200, t_256, t_364, t_400, t_480, t_960, t_999, t_1000, t_4000, t_99999, t_1000000000, t_2147483647, t_m1, t_m2, t_m3, t_m4, t_m5, t_m6, t_m7, t_m1000, nI_clamp, inb_T, Option.elim_some, Option.elim_none, if_pos, if_neg, rfx1, rfm1, rfx2, rfm2, rfx3, rfm3, rfx4, rfm4, rfx5, rfm5, rfx6, rfm6, rfx7, rfm7, nI_add, pk_mul, lm_2, lm_4, lm_5, lm_7, lm_8, lm_10, lm_40, lm_60, lm_61, lm_364, lm_1000, la_1, al_1, la_10, al_10, la_11, al_11, la_100, al_100, la_364, al_364, d8, m8, ↓reduceIte, rA1, rA3, rI2, rJ1, rJ2, rJ4, rN1, rN2, rN3, rAs, rIs, rJs, rAn, rIn, rJn]; exact Sm.mk rfl (hI.ref1 5)
      · simp (disch := omega) only [Int32.lt_iff_toInt_lt, Int32.le_iff_toInt_le, i32eq, tI, t_0, t_1, t_2, t_3, t_4, t_5, t_6, t_7, t_8, t_9, t_10, t_16, t_31, t_40, t_48, t_50, t_52, t_57, t_60, t_61, t_64, t_90, t_99, t_100, t_108, t_112, t_114, t_115, t_119, t_121, t_200, t_256, t_364, t_400, t_480, t_960, t_999, t_1000, t_4000, t_99999, t_1000000000, t_2147483647, t_m1, t_m2, t_m3, t_m4, t_m5, t_m6, t_m7, t_m1000, nI_clamp, inb_T, Option.elim_some, Option.elim_none, if_pos, if_neg, rfx1, rfm1, rfx2, rfm2, rfx3, rfm3, rfx4, rfm4, rfx5, rfm5, rfx6, rfm6, rfx7, rfm7, nI_add, pk_mul, lm_2, lm_4, lm_5, lm_7, lm_8, lm_10, lm_40, lm_60, lm_61, lm_364, lm_1000, la_1, al_1, la_10, al_10, la_11, al_11, la_100, al_100, la_364, al_364, d8, m8, ↓reduceIte, rA1, rA3, rI2, rJ1, rJ2, rJ4, rN1, rN2, rN3, rAs, rIs, rJs, rAn, rIn, rJn]; exact Sm.mk rfl (hI.ref1 5)
      · obtain ⟨c1, c2⟩ := hI.bas.1.2.2.1
        have c3 := hI.cnt.2.2
        rcases (show x.2.2.2 1 = 6 ∨ x.2.2.2 1 < 6 by omega) with hc | hc
        · simp (disch := omega) only [Int32.lt_iff_toInt_lt, Int32.le_iff_toInt_le, i32eq, tI, t_0, t_1, t_2, t_3, t_4, t_5, t_6, t_7, t_8, t_9, t_10, t_16, t_31, t_40, t_48, t_50, t_52, t_57, t_60, t_61, t_64, t_90, t_99, t_100, t_108, t_112, t_114, t_115, t_119, t_121, t_200, t_256, t_364, t_400, t_480, t_960, t_999, t_1000, t_4000, t_99999, t_1000000000, t_2147483647, t_m1, t_m2, t_m3, t_m4, t_m5, t_m6, t_m7, t_m1000, nI_clamp, inb_T, Option.elim_some, Option.elim_none, if_pos, if_neg, rfx1, rfm1, rfx2, rfm2, rfx3, rfm3, rfx4, rfm4, rfx5, rfm5, rfx6, rfm6, rfx7, rfm7, nI_add, pk_mul, lm_2, lm_4, lm_5, lm_7, lm_8, lm_10, lm_40, lm_60, lm_61, lm_364, lm_1000, la_1, al_1, la_10, al_10, la_11, al_11, la_100, al_100, la_364, al_364, d8, m8, ↓reduceIte, rA1, rA3, rI2, rJ1, rJ2, rJ4, rN1, rN2, rN3, rAs, rIs, rJs, rAn, rIn, rJn, c3, c1]; exact Sm.mk rfl (hI.ref1 6)
        · have e : (nw1 x (nI p) (nI q) (nI r)).1 1115 0 = nI (x.2.2.2 1) := c1
          simp (disch := omega) only [Int32.lt_iff_toInt_lt, Int32.le_iff_toInt_le, i32eq, tI, t_0, t_1, t_2, t_3, t_4, t_5, t_6, t_7, t_8, t_9, t_10, t_16, t_31, t_40, t_48, t_50, t_52, t_57, t_60, t_61, t_64, t_90, t_99, t_100, t_108, t_112, t_114, t_115, t_119, t_121, t_200, t_256, t_364, t_400, t_480, t_960, t_999, t_1000, t_4000, t_99999, t_1000000000, t_2147483647, t_m1, t_m2, t_m3, t_m4, t_m5, t_m6, t_m7, t_m1000, nI_clamp, inb_T, Option.elim_some, Option.elim_none, if_pos, if_neg, rfx1, rfm1, rfx2, rfm2, rfx3, rfm3, rfx4, rfm4, rfx5, rfm5, rfx6, rfm6, rfx7, rfm7, nI_add, pk_mul, lm_2, lm_4, lm_5, lm_7, lm_8, lm_10, lm_40, lm_60, lm_61, lm_364, lm_1000, la_1, al_1, la_10, al_10, la_11, al_11, la_100, al_100, la_364, al_364, d8, m8, ↓reduceIte, rA1, rA3, rI2, rJ1, rJ2, rJ4, rN1, rN2, rN3, rAs, rIs, rJs, rAn, rIn, rJn, c3, c1, e]
          have cN1 : ∀ k, (setI (nw1 x (nI p) (nI q) (nI r)) 1115 0 (nI (x.2.2.2 1 + 1))).2.2.2 (20 + k) = x.2.2.2 (20 + k) := fun k => if_neg (by omega)
          refine Sm.mk rfl ⟨(?_), (⟨hI.cnt.1, hI.cnt.2.1, rfl⟩), hI.now, hI.pur, hI.clr, hI.fau, hI.cod, hI.sha, hI.fee, hI.law, hI.she, hI.per, hI.pe0, hI.pic, (?_), hI.dra, hI.pi0, (?_), (?_), (?_), (?_), (?_), hI.pla, (?_), hI.ref⟩
          · exact ⟨⟨hI.bas.1.1, hI.bas.1.2.1, ⟨rfl, (by omega : x.2.2.2 1 + 1 ≤ 6)⟩, fun p hp => by rw [cN1]; exact hI.bas.1.2.2.2 p hp⟩, hI.bas.2⟩
          · exact fun p hp h1 i hi => by rw [cN1] at hi; rw [cN1]; exact hI.ord p hp h1 i hi
          · exact fun p s hp hs => hI.sce p s hp (by rw [cN1] at hs; exact hs)
          · exact fun p s hp hs hh => hI.sc0 p s hp hs (fun q => by have := hh q; rw [cN1] at this; exact this)
          · intro h hh
            have hh' : h < x.2.2.2 1 + 1 := hh
            by_cases eh : h = x.2.2.2 1
            · subst eh
              obtain ⟨w1, w2⟩ := hI.ha0 (x.2.2.2 1) (Nat.le_refl _) (by omega)
              have y0 : (nw1 x (nI p) (nI q) (nI r)).1 100 (x.2.2.2 1) = nI p := nV_I rfl
              have y1 : (nw1 x (nI p) (nI q) (nI r)).1 101 (x.2.2.2 1) = nI q := nV_I rfl
              have y2 : (nw1 x (nI p) (nI q) (nI r)).1 102 (x.2.2.2 1) = nI r := nV_I rfl
              have y5 : (nw1 x (nI p) (nI q) (nI r)).1 105 (x.2.2.2 1) = 0 := nV_I rfl
              have y3 : (nw1 x (nI p) (nI q) (nI r)).2.1 103 (x.2.2.2 1) = fil (-1) 40 := nV_A rfl
              have y4 : (nw1 x (nI p) (nI q) (nI r)).2.1 104 (x.2.2.2 1) = fun _ => 0 := nV_A rfl
              show upd _ _ _ _ = (nw1 x (nI p) (nI q) (nI r)).1 100 (x.2.2.2 1) ∧ upd _ _ _ _ = (nw1 x (nI p) (nI q) (nI r)).1 101 (x.2.2.2 1) ∧ (upd _ _ _ _ = (nw1 x (nI p) (nI q) (nI r)).1 102 (x.2.2.2 1) ∧ rng ((nw1 x (nI p) (nI q) (nI r)).1 102 (x.2.2.2 1)) 0 90) ∧ m.2.1 1263 0 (x.2.2.2 1) = (nw1 x (nI p) (nI q) (nI r)).1 105 (x.2.2.2 1) ∧ ∀ w, w < 40 → (m.2.1 1264 0 (40 * x.2.2.2 1 + w) = (nw1 x (nI p) (nI q) (nI r)).2.1 103 (x.2.2.2 1) w ∧ ((nw1 x (nI p) (nI q) (nI r)).2.1 103 (x.2.2.2 1) w = -1 ∨ ∃ p', p' < x.2.2.2 5 ∧ (nw1 x (nI p) (nI q) (nI r)).2.1 103 (x.2.2.2 1) w = nI p')) ∧ m.2.1 1265 0 (40 * x.2.2.2 1 + w) = (nw1 x (nI p) (nI q) (nI r)).2.1 104 (x.2.2.2 1) w ∧ ((nw1 x (nI p) (nI q) (nI r)).2.1 104 (x.2.2.2 1) w = 0 ∨ (nw1 x (nI p) (nI q) (nI r)).2.1 104 (x.2.2.2 1) w = 1)
              rw [y0, y1, y2, y5, y3, y4]
              refine ⟨pk_us, pk_us, ⟨pk_us, rng_I (a := 0) (b := 90) h5 h6 (by decide)⟩, w1, fun w hw => ?_⟩
              have f1 : fil (-1) 40 w = -1 := if_pos hw
              rw [f1]
              exact ⟨⟨(w2 w hw).1, Or.inl rfl⟩, (w2 w hw).2, Or.inl rfl⟩
            · have hlt : h < x.2.2.2 1 := by omega
              obtain ⟨w1, w2, w3, w4, w5⟩ := hI.hal h hlt
              have y0 : ∀ F, (nw1 x (nI p) (nI q) (nI r)).1 F h = x.1 F h := fun F => nV_In (fun q => eh q.2)
              have y1 : ∀ F, (nw1 x (nI p) (nI q) (nI r)).2.1 F h = x.2.1 F h := fun F => nV_An (fun q => eh q.2)
              refine ⟨(u_n eh).trans (w1.trans (y0 100).symm), (u_n eh).trans (w2.trans (y0 101).symm), ⟨(u_n eh).trans (w3.1.trans (y0 102).symm), ?_⟩, w4.trans (y0 105).symm, fun w hw => ?_⟩
              · exact (y0 102).symm ▸ w3.2
              · have e3 : (setI (nw1 x (nI p) (nI q) (nI r)) 1115 0 (nI (x.2.2.2 1 + 1))).2.1 103 h = x.2.1 103 h := y1 103
                have e4 : (setI (nw1 x (nI p) (nI q) (nI r)) 1115 0 (nI (x.2.2.2 1 + 1))).2.1 104 h = x.2.1 104 h := y1 104
                rw [e3, e4]
                exact w5 w hw
          · exact fun h hh h6 => hI.ha0 h (by have : x.2.2.2 1 + 1 ≤ h := hh; omega) h6
          · have : cntS (setI (nw1 x (nI p) (nI q) (nI r)) 1115 0 (nI (x.2.2.2 1 + 1))) = cntS x := by
              unfold cntS
              show ((List.range (x.2.2.2 1 + 1)).map fun h => ((List.range 40).filter fun w => decide (¬ (nw1 x (nI p) (nI q) (nI r)).2.1 103 h w = -1)).length).sum = _
              rw [show List.range (x.2.2.2 1 + 1) = List.range (x.2.2.2 1) ++ [x.2.2.2 1] from List.range_succ, List.map_append, List.sum_append]
              have y3 : (nw1 x (nI p) (nI q) (nI r)).2.1 103 (x.2.2.2 1) = fil (-1) 40 := nV_A rfl
              have z : ((List.range 40).filter fun w => decide (¬ fil (-1) 40 w = -1)).length = 0 := by decide
              have z2 : (List.map (fun h => ((List.range 40).filter fun w => decide (¬ (nw1 x (nI p) (nI q) (nI r)).2.1 103 h w = -1)).length) [x.2.2.2 1]).sum = 0 := by
                show ((List.range 40).filter fun w => decide (¬ (nw1 x (nI p) (nI q) (nI r)).2.1 103 (x.2.2.2 1) w = -1)).length + 0 = 0
                rw [y3, z]
              rw [z2, Nat.add_zero]
              congr 1
              apply List.map_congr_left
              intro h hh
              have hh2 : h ≠ x.2.2.2 1 := by have := List.mem_range.mp hh; omega
              have y1 : (nw1 x (nI p) (nI q) (nI r)).2.1 103 h = x.2.1 103 h := nV_An (fun q => hh2 q.2)
              rw [y1]
            show m.1 1210 0 = nI (cntS (setI (nw1 x (nI p) (nI q) (nI r)) 1115 0 (nI (x.2.2.2 1 + 1))))
            rw [this]
            exact hI.shw
          · intro j hj
            have := hI.cac j hj
            unfold bSpecX at this ⊢
            rw [cN1]
            exact this
