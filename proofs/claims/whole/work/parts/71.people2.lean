/-! calls on people -/
theorem rIw {x : VM} {F G w w' : Nat} {v : Int32} (h : w' ≠ w) : (setI x G w v).1 F w' = x.1 F w' := if_neg (fun q => h q.2)
theorem rAw {m : VM} {F G w w' : Nat} {v : Int32} (h : w' ≠ w) : (setA m G 0 (upd (m.2.1 G 0) w v)).2.1 F 0 w' = m.2.1 F 0 w' := by
  by_cases e : F = G
  · subst e; rw [rAs]; exact u_n h
  · rw [rAn e]
theorem cof_congr {x x' : VM} {w : Nat} {l d : Int32} (h1 : x'.1 202 0 = x.1 202 0) (h2 : x'.2.1 200 0 = x.2.1 200 0) (h3 : x'.2.1 201 0 = x.2.1 201 0) (h4 : x'.2.1 401 w = x.2.1 401 w) (h5 : x'.2.2.2 4 = x.2.2.2 4) : f_X4_countOf x' w l d = f_X4_countOf x w l d := by
  have e : b_X2_areAgainst_2 x' l d = b_X2_areAgainst_2 x l d := by
    funext v
    unfold b_X2_areAgainst_2
    rw [h1, h2, h3]
  unfold f_X4_countOf f_X2_areAgainst
  rw [e, h4, h5]
theorem con_congr {m m' : VM} {w l d : Int32} (h1 : m'.1 1203 0 = m.1 1203 0) (h2 : m'.2.1 1230 0 = m.2.1 1230 0) (h3 : m'.2.1 1231 0 = m.2.1 1231 0) (h4 : m'.2.1 1229 0 = m.2.1 1229 0) : f_X12_countsOn m' w l d = f_X12_countsOn m w l d := by
  have e : b_X12_countsOn_6 m' w l d = b_X12_countsOn_6 m w l d := by
    funext v
    unfold b_X12_countsOn_6
    rw [h1, h2, h3, h4]
  unfold f_X12_countsOn
  rw [e]
theorem per_upd {x m x' m' : VM} {w : Nat} (hI : IPer x m) (hn : x'.1 1116 0 = x.1 1116 0) (hc : x'.2.2.2 4 = x.2.2.2 4) (hw : PerAt (x.1 1116 0) ((x.1 1116 0).toInt + 3276) x' m' w) (hx : ∀ w', w' ≠ w → ∀ F, F / 100 = 4 → x'.1 F w' = x.1 F w') (h1 : ∀ w', w' ≠ w → x'.2.1 401 w' = x.2.1 401 w') (h2 : ∀ w', w' ≠ w → x'.2.2.1 402 w' = x.2.2.1 402 w') (h3 : x'.2.1 300 0 = x.2.1 300 0) (hm : ∀ w', w' ≠ w → ∀ F, (1217 ≤ F ∧ F ≤ 1228) ∨ F = 1232 → m'.2.1 F 0 w' = m.2.1 F 0 w') (h4 : ∀ w', w' ≠ w → ∀ k, k < 5 → m'.2.1 1229 0 (5 * w' + k) = m.2.1 1229 0 (5 * w' + k)) (h5 : ∀ w', w' ≠ w → ∀ j, j < 60 → m'.2.2.1 1233 0 (60 * w' + j) = m.2.2.1 1233 0 (60 * w' + j)) : IPer x' m' := by
  intro w' hw'
  rw [hn]
  by_cases e : w' = w
  · subst e; exact hw
  · exact per_k (hI w' (by rw [hc] at hw'; exact hw')) (hx w' e) (h1 w' e) (h2 w' e) (by rw [h3]) (hm w' e) (h4 w' e) (h5 w' e)
theorem pe0_upd {x m x' m' : VM} {w : Nat} (hI : IPe0 x m) (hc : x'.2.2.2 4 = x.2.2.2 4) (hw : w < x.2.2.2 4) (h3 : x'.2.1 300 0 = x.2.1 300 0) (hm : ∀ w', w' ≠ w → ∀ F, (1217 ≤ F ∧ F ≤ 1228) ∨ F = 1232 → m'.2.1 F 0 w' = m.2.1 F 0 w') : IPe0 x' m' := by
  intro w' h1 h16
  rw [hc] at h1
  have e : w' ≠ w := by omega
  obtain ⟨z1, z2, z3, z4, z5, z6, z7, z8, z9, z10, z11, z12⟩ := hI w' h1 h16
  rw [hm w' e 1227 (by omega), hm w' e 1228 (by omega), hm w' e 1218 (by omega), hm w' e 1220 (by omega), hm w' e 1221 (by omega), hm w' e 1226 (by omega), hm w' e 1222 (by omega), hm w' e 1223 (by omega), hm w' e 1224 (by omega), hm w' e 1225 (by omega), hm w' e 1232 (by omega), h3]
  exact ⟨z1, z2, z3, z4, z5, z6, z7, z8, z9, z10, z11, z12⟩
theorem s_counts : S_counts Inv := by
  intro x m p l d hI
  unfold f_X11_counts f_X12_counts
  rcases c_per hI p with ⟨e1, e2⟩ | ⟨w, w1, w2, rfl, e1, e2⟩
  · rw [e1, e2]; exact ⟨_, rfl, rfl, hI⟩
  · rw [e1, e2]
    rcases ar l 0 4 (by decide) with h | h | ⟨l, h1, h2, rfl⟩
    · refine ⟨-1, ?_, ?_, hI⟩ <;> simp (disch := omega) only [Int32.lt_iff_toInt_lt, Int32.le_iff_toInt_le, i32eq, tI, t_0, t_1, t_2, t_3, t_4, t_5, t_6, t_7, t_8, t_9, t_10, t_16, t_31, t_40, t_48, t_50, t_52, t_57, t_60, t_61, t_64, t_90, t_99, t_100, t_108, t_112, t_114, t_115, t_119, t_121, t_200, t_256, t_364, t_400, t_480, t_960, t_999, t_1000, t_4000, t_99999, t_1000000000, t_2147483647, t_m1, t_m2, t_m3, t_m4, t_m5, t_m6, t_m7, t_m1000, nI_clamp, inb_T, Option.elim_some, Option.elim_none, if_pos, if_neg, rfx1, rfm1, rfx2, rfm2, rfx3, rfm3, rfx4, rfm4, rfx5, rfm5, rfx6, rfm6, rfx7, rfm7, nI_add, pk_mul, lm_2, lm_4, lm_5, lm_7, lm_8, lm_10, lm_40, lm_60, lm_61, lm_364, lm_1000, la_1, al_1, la_10, al_10, la_11, al_11, la_100, al_100, la_364, al_364, d8, m8, ↓reduceIte, rA1, rA3, rI2, rJ1, rJ2, rJ4, rN1, rN2, rN3, rAs, rIs, rJs, rAn, rIn, rJn]
    · refine ⟨-1, ?_, ?_, hI⟩ <;> simp (disch := omega) only [Int32.lt_iff_toInt_lt, Int32.le_iff_toInt_le, i32eq, tI, t_0, t_1, t_2, t_3, t_4, t_5, t_6, t_7, t_8, t_9, t_10, t_16, t_31, t_40, t_48, t_50, t_52, t_57, t_60, t_61, t_64, t_90, t_99, t_100, t_108, t_112, t_114, t_115, t_119, t_121, t_200, t_256, t_364, t_400, t_480, t_960, t_999, t_1000, t_4000, t_99999, t_1000000000, t_2147483647, t_m1, t_m2, t_m3, t_m4, t_m5, t_m6, t_m7, t_m1000, nI_clamp, inb_T, Option.elim_some, Option.elim_none, if_pos, if_neg, rfx1, rfm1, rfx2, rfm2, rfx3, rfm3, rfx4, rfm4, rfx5, rfm5, rfx6, rfm6, rfx7, rfm7, nI_add, pk_mul, lm_2, lm_4, lm_5, lm_7, lm_8, lm_10, lm_40, lm_60, lm_61, lm_364, lm_1000, la_1, al_1, la_10, al_10, la_11, al_11, la_100, al_100, la_364, al_364, d8, m8, ↓reduceIte, rA1, rA3, rI2, rJ1, rJ2, rJ4, rN1, rN2, rN3, rAs, rIs, rJs, rAn, rIn, rJn]
    · rcases (hI.per w w1).2.1 with ⟨a1, a2⟩ | ⟨a1, a2, a3, a4⟩
      · refine ⟨-1, ?_, ?_, hI⟩ <;> simp (disch := omega) only [Int32.lt_iff_toInt_lt, Int32.le_iff_toInt_le, i32eq, tI, t_0, t_1, t_2, t_3, t_4, t_5, t_6, t_7, t_8, t_9, t_10, t_16, t_31, t_40, t_48, t_50, t_52, t_57, t_60, t_61, t_64, t_90, t_99, t_100, t_108, t_112, t_114, t_115, t_119, t_121, t_200, t_256, t_364, t_400, t_480, t_960, t_999, t_1000, t_4000, t_99999, t_1000000000, t_2147483647, t_m1, t_m2, t_m3, t_m4, t_m5, t_m6, t_m7, t_m1000, nI_clamp, inb_T, Option.elim_some, Option.elim_none, if_pos, if_neg, rfx1, rfm1, rfx2, rfm2, rfx3, rfm3, rfx4, rfm4, rfx5, rfm5, rfx6, rfm6, rfx7, rfm7, nI_add, pk_mul, lm_2, lm_4, lm_5, lm_7, lm_8, lm_10, lm_40, lm_60, lm_61, lm_364, lm_1000, la_1, al_1, la_10, al_10, la_11, al_11, la_100, al_100, la_364, al_364, d8, m8, ↓reduceIte, rA1, rA3, rI2, rJ1, rJ2, rJ4, rN1, rN2, rN3, rAs, rIs, rJs, rAn, rIn, rJn, a1, a2]
      · have ne : ¬ x.1 405 w = -1 := fun q => by rw [q] at a3; exact absurd a3.1 (by decide)
        have ne' : ¬ (x.1 405 w).toInt = -1 := by omega
        obtain ⟨r, r1, r2⟩ := c_cnt hI.law (hI.per w w1) w1 w2 ne (show l < 5 by omega) d
        refine ⟨r, ?_, ?_, hI⟩ <;> simp (disch := omega) only [Int32.lt_iff_toInt_lt, Int32.le_iff_toInt_le, i32eq, tI, t_0, t_1, t_2, t_3, t_4, t_5, t_6, t_7, t_8, t_9, t_10, t_16, t_31, t_40, t_48, t_50, t_52, t_57, t_60, t_61, t_64, t_90, t_99, t_100, t_108, t_112, t_114, t_115, t_119, t_121, t_200, t_256, t_364, t_400, t_480, t_960, t_999, t_1000, t_4000, t_99999, t_1000000000, t_2147483647, t_m1, t_m2, t_m3, t_m4, t_m5, t_m6, t_m7, t_m1000, nI_clamp, inb_T, Option.elim_some, Option.elim_none, if_pos, if_neg, rfx1, rfm1, rfx2, rfm2, rfx3, rfm3, rfx4, rfm4, rfx5, rfm5, rfx6, rfm6, rfx7, rfm7, nI_add, pk_mul, lm_2, lm_4, lm_5, lm_7, lm_8, lm_10, lm_40, lm_60, lm_61, lm_364, lm_1000, la_1, al_1, la_10, al_10, la_11, al_11, la_100, al_100, la_364, al_364, d8, m8, ↓reduceIte, rA1, rA3, rI2, rJ1, rJ2, rJ4, rN1, rN2, rN3, rAs, rIs, rJs, rAn, rIn, rJn, a1, r1, r2]
theorem s_recall : S_recall Inv := by
  intro x m p hI
  show Sm Inv _ _
  unfold f_X11_recall f_X12_recall
  rcases c_per hI p with ⟨e1, e2⟩ | ⟨w, w1, w2, rfl, e1, e2⟩
  · rw [e1, e2]; exact Sm.mk rfl (hI.ref1 0)
  · rw [e1, e2]
    obtain ⟨a1, a2, a3, a4, a5, a6, a7, a8, a9, a10⟩ := hI.per w w1
    rcases a4.2 with h | h
    · simp (disch := omega) only [Int32.lt_iff_toInt_lt, Int32.le_iff_toInt_le, i32eq, tI, t_0, t_1, t_2, t_3, t_4, t_5, t_6, t_7, t_8, t_9, t_10, t_16, t_31, t_40, t_48, t_50, t_52, t_57, t_60, t_61, t_64, t_90, t_99, t_100, t_108, t_112, t_114, t_115, t_119, t_121, t_200, t_256, t_364, t_400, t_480, t_960, t_999, t_1000, t_4000, t_99999, t_1000000000, t_2147483647, t_m1, t_m2, t_m3, t_m4, t_m5, t_m6, t_m7, t_m1000, nI_clamp, inb_T, Option.elim_some, Option.elim_none, if_pos, if_neg, rfx1, rfm1, rfx2, rfm2, rfx3, rfm3, rfx4, rfm4, rfx5, rfm5, rfx6, rfm6, rfx7, rfm7, nI_add, pk_mul, lm_2, lm_4, lm_5, lm_7, lm_8, lm_10, lm_40, lm_60, lm_61, lm_364, lm_1000, la_1, al_1, la_10, al_10, la_11, al_11, la_100, al_100, la_364, al_364, d8, m8, ↓reduceIte, rA1, rA3, rI2, rJ1, rJ2, rJ4, rN1, rN2, rN3, rAs, rIs, rJs, rAn, rIn, rJn, a4.1, h]; exact Sm.mk rfl (hI.ref1 5)
    · simp (disch := omega) only [Int32.lt_iff_toInt_lt, Int32.le_iff_toInt_le, i32eq, tI, t_0, t_1, t_2, t_3, t_4, t_5, t_6, t_7, t_8, t_9, t_10, t_16, t_31, t_40, t_48, t_50, t_52, t_57, t_60, t_61, t_64, t_90, t_99, t_100, t_108, t_112, t_114, t_115, t_119, t_121, t_200, t_256, t_364, t_400, t_480, t_960, t_999, t_1000, t_4000, t_99999, t_1000000000, t_2147483647, t_m1, t_m2, t_m3, t_m4, t_m5, t_m6, t_m7, t_m1000, nI_clamp, inb_T, Option.elim_some, Option.elim_none, if_pos, if_neg, rfx1, rfm1, rfx2, rfm2, rfx3, rfm3, rfx4, rfm4, rfx5, rfm5, rfx6, rfm6, rfx7, rfm7, nI_add, pk_mul, lm_2, lm_4, lm_5, lm_7, lm_8, lm_10, lm_40, lm_60, lm_61, lm_364, lm_1000, la_1, al_1, la_10, al_10, la_11, al_11, la_100, al_100, la_364, al_364, d8, m8, ↓reduceIte, rA1, rA3, rI2, rJ1, rJ2, rJ4, rN1, rN2, rN3, rAs, rIs, rJs, rAn, rIn, rJn, a4.1, h]
      refine Sm.mk rfl ⟨hI.bas, hI.cnt, hI.now, hI.pur, hI.clr, hI.fau, hI.cod, hI.sha, hI.fee, hI.law, hI.she, (?_), (?_), hI.pic, hI.ord, hI.dra, hI.pi0, hI.sce, hI.sc0, hI.hal, hI.ha0, hI.shw, hI.pla, hI.cac, hI.ref⟩
      · refine per_upd (w := w) hI.per rfl rfl ?_ (fun w' e F hF => rIw e) (fun w' e => rfl) (fun w' e => rfl) rfl (fun w' e F hF => rAw e) (fun _ _ _ _ => rfl) (fun _ _ _ _ => rfl)
        exact ⟨a1, a2, a3, ⟨pk_us.trans sI_s.symm, Or.inl sI_s⟩, a5, a6, a7, a8, a9, fun q => ⟨sI_s, (a10 q).2⟩⟩
      · exact pe0_upd hI.pe0 rfl w1 rfl (fun w' e F hF => rAw e)
theorem s_lend : S_lend Inv := by
  intro x m p n c hI
  show Sm Inv _ _
  unfold f_X11_lend f_X12_lend
  rcases c_per hI p with ⟨e1, e2⟩ | ⟨w, w1, w2, rfl, e1, e2⟩
  · rw [e1, e2]; exact Sm.mk rfl (hI.ref1 0)
  · rw [e1, e2]
    rcases ar n 1 400 (by decide) with h | h | ⟨n, h1, h2, rfl⟩
    · simp (disch := omega) only [Int32.lt_iff_toInt_lt, Int32.le_iff_toInt_le, i32eq, tI, t_0, t_1, t_2, t_3, t_4, t_5, t_6, t_7, t_8, t_9, t_10, t_16, t_31, t_40, t_48, t_50, t_52, t_57, t_60, t_61, t_64, t_90, t_99, t_100, t_108, t_112, t_114, t_115, t_119, t_121, t_200, t_256, t_364, t_400, t_480, t_960, t_999, t_1000, t_4000, t_99999, t_1000000000, t_2147483647, t_m1, t_m2, t_m3, t_m4, t_m5, t_m6, t_m7, t_m1000, nI_clamp, inb_T, Option.elim_some, Option.elim_none, if_pos, if_neg, rfx1, rfm1, rfx2, rfm2, rfx3, rfm3, rfx4, rfm4, rfx5, rfm5, rfx6, rfm6, rfx7, rfm7, nI_add, pk_mul, lm_2, lm_4, lm_5, lm_7, lm_8, lm_10, lm_40, lm_60, lm_61, lm_364, lm_1000, la_1, al_1, la_10, al_10, la_11, al_11, la_100, al_100, la_364, al_364, d8, m8, ↓reduceIte, rA1, rA3, rI2, rJ1, rJ2, rJ4, rN1, rN2, rN3, rAs, rIs, rJs, rAn, rIn, rJn]; exact Sm.mk rfl (hI.ref1 5)
    · simp (disch := omega) only [Int32.lt_iff_toInt_lt, Int32.le_iff_toInt_le, i32eq, tI, t_0, t_1, t_2, t_3, t_4, t_5, t_6, t_7, t_8, t_9, t_10, t_16, t_31, t_40, t_48, t_50, t_52, t_57, t_60, t_61, t_64, t_90, t_99, t_100, t_108, t_112, t_114, t_115, t_119, t_121, t_200, t_256, t_364, t_400, t_480, t_960, t_999, t_1000, t_4000, t_99999, t_1000000000, t_2147483647, t_m1, t_m2, t_m3, t_m4, t_m5, t_m6, t_m7, t_m1000, nI_clamp, inb_T, Option.elim_some, Option.elim_none, if_pos, if_neg, rfx1, rfm1, rfx2, rfm2, rfx3, rfm3, rfx4, rfm4, rfx5, rfm5, rfx6, rfm6, rfx7, rfm7, nI_add, pk_mul, lm_2, lm_4, lm_5, lm_7, lm_8, lm_10, lm_40, lm_60, lm_61, lm_364, lm_1000, la_1, al_1, la_10, al_10, la_11, al_11, la_100, al_100, la_364, al_364, d8, m8, ↓reduceIte, rA1, rA3, rI2, rJ1, rJ2, rJ4, rN1, rN2, rN3, rAs, rIs, rJs, rAn, rIn, rJn]; exact Sm.mk rfl (hI.ref1 5)
    · rcases ar c 0 99999 (by decide) with h | h | ⟨c, h3, h4, rfl⟩
      · simp (disch := omega) only [Int32.lt_iff_toInt_lt, Int32.le_iff_toInt_le, i32eq, tI, t_0, t_1, t_2, t_3, t_4, t_5, t_6, t_7, t_8, t_9, t_10, t_16, t_31, t_40, t_48, t_50, t_52, t_57, t_60, t_61, t_64, t_90, t_99, t_100, t_108, t_112, t_114, t_115, t_119, t_121, t_200, t_256, t_364, t_400, t_480, t_960, t_999, t_1000, t_4000, t_99999, t_1000000000, t_2147483647, t_m1, t_m2, t_m3, t_m4, t_m5, t_m6, t_m7, t_m1000, nI_clamp, inb_T, Option.elim_some, Option.elim_none, if_pos, if_neg, rfx1, rfm1, rfx2, rfm2, rfx3, rfm3, rfx4, rfm4, rfx5, rfm5, rfx6, rfm6, rfx7, rfm7, nI_add, pk_mul, lm_2, lm_4, lm_5, lm_7, lm_8, lm_10, lm_40, lm_60, lm_61, lm_364, lm_1000, la_1, al_1, la_10, al_10, la_11, al_11, la_100, al_100, la_364, al_364, d8, m8, ↓reduceIte, rA1, rA3, rI2, rJ1, rJ2, rJ4, rN1, rN2, rN3, rAs, rIs, rJs, rAn, rIn, rJn]; exact Sm.mk rfl (hI.ref1 5)
      · simp (disch := omega) only [Int32.lt_iff_toInt_lt, Int32.le_iff_toInt_le, i32eq, tI, t_0, t_1, t_2, t_3, t_4, t_5, t_6, t_7, t_8, t_9, t_10, t_16, t_31, t_40, t_48, t_50, t_52, t_57, t_60, t_61, t_64, t_90, t_99, t_100, t_108, t_112, t_114, t_115, t_119, t_121, t_200, t_256, t_364, t_400, t_480, t_960, t_999, t_1000, t_4000, t_99999, t_1000000000, t_2147483647, t_m1, t_m2, t_m3, t_m4, t_m5, t_m6, t_m7, t_m1000, nI_clamp, inb_T, Option.elim_some, Option.elim_none, if_pos, if_neg, rfx1, rfm1, rfx2, rfm2, rfx3, rfm3, rfx4, rfm4, rfx5, rfm5, rfx6, rfm6, rfx7, rfm7, nI_add, pk_mul, lm_2, lm_4, lm_5, lm_7, lm_8, lm_10, lm_40, lm_60, lm_61, lm_364, lm_1000, la_1, al_1, la_10, al_10, la_11, al_11, la_100, al_100, la_364, al_364, d8, m8, ↓reduceIte, rA1, rA3, rI2, rJ1, rJ2, rJ4, rN1, rN2, rN3, rAs, rIs, rJs, rAn, rIn, rJn]; exact Sm.mk rfl (hI.ref1 5)
      · obtain ⟨k, k1, k2, k3⟩ := rng_nI (a := 0) (b := 4000) hI.now.2 (by decide)
        have hP := hI.per w w1
        rcases c_wrk hI.now.1 hP w1 w2 with ⟨b1, b2, b3, b4, b5, b6⟩ | ⟨b1, b2⟩
        · obtain ⟨r, r1, r2⟩ := c_cnt hI.law hP w1 w2 b4 (show 4 < 5 by decide) (x.1 1116 0)
          have r1' : ∀ v, f_X4_countOf (setI x 407 w v) w 4 (x.1 1116 0) = some r := fun v => (cof_congr rfl rfl rfl rfl rfl).trans r1
          have r2' : f_X12_countsOn m (nI w) 4 (x.1 1116 0) = some r := r2
          have hN := hI.now.1
          simp (disch := omega) only [Int32.lt_iff_toInt_lt, Int32.le_iff_toInt_le, i32eq, tI, t_0, t_1, t_2, t_3, t_4, t_5, t_6, t_7, t_8, t_9, t_10, t_16, t_31, t_40, t_48, t_50, t_52, t_57, t_60, t_61, t_64, t_90, t_99, t_100, t_108, t_112, t_114, t_115, t_119, t_121, t_200, t_256, t_364, t_400, t_480, t_960, t_999, t_1000, t_4000, t_99999, t_1000000000, t_2147483647, t_m1, t_m2, t_m3, t_m4, t_m5, t_m6, t_m7, t_m1000, nI_clamp, inb_T, Option.elim_some, Option.elim_none, if_pos, if_neg, rfx1, rfm1, rfx2, rfm2, rfx3, rfm3, rfx4, rfm4, rfx5, rfm5, rfx6, rfm6, rfx7, rfm7, nI_add, pk_mul, lm_2, lm_4, lm_5, lm_7, lm_8, lm_10, lm_40, lm_60, lm_61, lm_364, lm_1000, la_1, al_1, la_10, al_10, la_11, al_11, la_100, al_100, la_364, al_364, d8, m8, ↓reduceIte, rA1, rA3, rI2, rJ1, rJ2, rJ4, rN1, rN2, rN3, rAs, rIs, rJs, rAn, rIn, rJn, hN, r1', r2', b1, b2]
          rw [hI.pur]
          refine Sm.mk rfl ⟨hI.bas, hI.cnt, hI.now, (rfl), hI.clr, hI.fau, hI.cod, hI.sha, hI.fee, hI.law, hI.she, (?_), (?_), hI.pic, hI.ord, hI.dra, hI.pi0, hI.sce, hI.sc0, hI.hal, hI.ha0, hI.shw, hI.pla, hI.cac, hI.ref⟩
          · refine per_upd (w := w) hI.per rfl rfl ?_ (fun w' e F hF => (rIn (by omega)).trans (rIw e)) (fun w' e => rfl) (fun w' e => rfl) rfl (fun w' e F hF => rAw e) (fun _ _ _ _ => rfl) (fun _ _ _ _ => rfl)
            obtain ⟨a1, a2, a3, a4, a5, a6, a7, a8, a9, a10⟩ := hP
            have es : (nI k + nI n).toInt = ((k + n : Nat) : Int) := by rw [nI_add, tI (by omega)]
            refine ⟨a1, a2, a3, a4, ⟨?_, ?_⟩, a6, a7, a8, a9, fun q => absurd b3 q⟩
            · show rng (upd (m.2.1 1220 0) w _ w) (-1) 4400
              rw [pk_us, k3]
              unfold rng
              rw [es]; omega
            · show (setI (setI x 407 w (x.1 1116 0 + nI n)) 1117 0 _).1 407 w = if ¬ upd (m.2.1 1220 0) w (x.1 1116 0 + nI n) w = -1 ∧ x.1 1116 0 < upd (m.2.1 1220 0) w (x.1 1116 0 + nI n) w then upd (m.2.1 1220 0) w (x.1 1116 0 + nI n) w else -1
              rw [pk_us, rIn (by decide), sI_s, if_pos]
              rw [k3]
              refine ⟨fun z => ?_, ?_⟩
              · rw [i32eq, es, t_m1] at z; omega
              · rw [Int32.lt_iff_toInt_lt, es, tI (by omega)]; omega
          · exact pe0_upd hI.pe0 rfl w1 rfl (fun w' e F hF => rAw e)
        · have hN := hI.now.1
          simp (disch := omega) only [Int32.lt_iff_toInt_lt, Int32.le_iff_toInt_le, i32eq, tI, t_0, t_1, t_2, t_3, t_4, t_5, t_6, t_7, t_8, t_9, t_10, t_16, t_31, t_40, t_48, t_50, t_52, t_57, t_60, t_61, t_64, t_90, t_99, t_100, t_108, t_112, t_114, t_115, t_119, t_121, t_200, t_256, t_364, t_400, t_480, t_960, t_999, t_1000, t_4000, t_99999, t_1000000000, t_2147483647, t_m1, t_m2, t_m3, t_m4, t_m5, t_m6, t_m7, t_m1000, nI_clamp, inb_T, Option.elim_some, Option.elim_none, if_pos, if_neg, rfx1, rfm1, rfx2, rfm2, rfx3, rfm3, rfx4, rfm4, rfx5, rfm5, rfx6, rfm6, rfx7, rfm7, nI_add, pk_mul, lm_2, lm_4, lm_5, lm_7, lm_8, lm_10, lm_40, lm_60, lm_61, lm_364, lm_1000, la_1, al_1, la_10, al_10, la_11, al_11, la_100, al_100, la_364, al_364, d8, m8, ↓reduceIte, rA1, rA3, rI2, rJ1, rJ2, rJ4, rN1, rN2, rN3, rAs, rIs, rJs, rAn, rIn, rJn, hN, b1, b2]; exact Sm.mk rfl (hI.ref1 5)
