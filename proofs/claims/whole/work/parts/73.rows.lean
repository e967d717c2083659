/-! row, copy, ill -/
theorem setJJ (x : VM) (F i : Nat) (f g : Nat → Int64) : setJ (setJ x F i f) F i g = setJ x F i g := by
  unfold setJ
  refine Prod.ext rfl (Prod.ext rfl (Prod.ext ?_ rfl))
  funext F' i'
  show (if F' = F ∧ i' = i then g else if F' = F ∧ i' = i then f else x.2.2.1 F' i') = if F' = F ∧ i' = i then g else x.2.2.1 F' i'
  split <;> rfl
theorem setJ_id (x : VM) (F i : Nat) : setJ x F i (x.2.2.1 F i) = x := by
  unfold setJ
  refine Prod.ext rfl (Prod.ext rfl (Prod.ext ?_ rfl))
  funext F' i'
  show (if F' = F ∧ i' = i then x.2.2.1 F i else x.2.2.1 F' i') = x.2.2.1 F' i'
  split
  · rename_i h; rw [h.1, h.2]
  · rfl
theorem setAA (x : VM) (F i : Nat) (f g : Nat → Int32) : setA (setA x F i f) F i g = setA x F i g := by
  unfold setA
  refine Prod.ext rfl (Prod.ext ?_ rfl)
  funext F' i'
  show (if F' = F ∧ i' = i then g else if F' = F ∧ i' = i then f else x.2.1 F' i') = if F' = F ∧ i' = i then g else x.2.1 F' i'
  split <;> rfl
theorem setA_id (x : VM) (F i : Nat) : setA x F i (x.2.1 F i) = x := by
  unfold setA
  refine Prod.ext rfl (Prod.ext ?_ rfl)
  funext F' i'
  show (if F' = F ∧ i' = i then x.2.1 F i else x.2.1 F' i') = x.2.1 F' i'
  split
  · rename_i h; rw [h.1, h.2]
  · rfl
theorem setII (x : VM) (F i : Nat) (f g : Int32) : setI (setI x F i f) F i g = setI x F i g := by
  unfold setI
  refine Prod.ext ?_ rfl
  funext F' i'
  show (if F' = F ∧ i' = i then g else if F' = F ∧ i' = i then f else x.1 F' i') = if F' = F ∧ i' = i then g else x.1 F' i'
  split <;> rfl
theorem setI_id (x : VM) (F i : Nat) : setI x F i (x.1 F i) = x := by
  unfold setI
  refine Prod.ext ?_ rfl
  funext F' i'
  show (if F' = F ∧ i' = i then x.1 F i else x.1 F' i') = x.1 F' i'
  split
  · rename_i h; rw [h.1, h.2]
  · rfl
/-- a row of longs cleared, or filled, in a loop -/
theorem clrX (y x : VM) (s : Nat) (p q : Int32) (hs : s < 8) : ∃ h, loopF none (b_X9_becomeRow_17 x s p q) (0, y) = some (setJ y 900 s h) ∧ ∀ j, j < 60 → h j = 0 := by
  refine lp_cnt (V := Int32 × VM) (d := none) 60 (fun i v => ∃ h, v = (nI i, setJ y 900 s h) ∧ ∀ j, j < i → h j = 0) (fun o => ∃ h, o = some (setJ y 900 s h) ∧ ∀ j, j < 60 → h j = 0) ?_ ?_ 0 (0, y) (by omega) ⟨y.2.2.1 900 s, by rw [setJ_id]; rfl, fun j hj => absurd hj (Nat.not_lt_zero j)⟩
  · rintro i v hi ⟨h, rfl, hh⟩
    left
    unfold b_X9_becomeRow_17
    simp (disch := omega) only [Int32.le_iff_toInt_le, tI, t_60, if_neg, if_pos, inb_T, nI_clamp, nI_1]
    rw [sJ_s, setJJ]
    refine ⟨_, rfl, _, rfl, fun j hj => ?_⟩
    by_cases e : j = i
    · subst e; exact pk_uLs
    · rw [pk_uLn e]; exact hh j (by omega)
  · rintro v ⟨h, rfl, hh⟩
    unfold b_X9_becomeRow_17
    rw [if_pos (show (60 : Int32) ≤ nI 60 by decide)]
    exact ⟨_, rfl, h, rfl, hh⟩
theorem clrM (y m : VM) (s : Nat) (p q : Int32) (hs : s < 8) : ∃ h, loopF none (b_X12_row_77 m (nI s) p q) (0, y) = some (1, setJ y 1215 0 h) ∧ (∀ j, j < 60 → h (60 * s + j) = 0) ∧ ∀ k, (k < 60 * s ∨ 60 * s + 60 ≤ k) → h k = y.2.2.1 1215 0 k := by
  refine lp_cnt (V := Int32 × VM) (d := none) 60 (fun i v => ∃ h, v = (nI i, setJ y 1215 0 h) ∧ (∀ j, j < i → h (60 * s + j) = 0) ∧ ∀ k, (k < 60 * s ∨ 60 * s + 60 ≤ k) → h k = y.2.2.1 1215 0 k) (fun o => ∃ h, o = some (1, setJ y 1215 0 h) ∧ (∀ j, j < 60 → h (60 * s + j) = 0) ∧ ∀ k, (k < 60 * s ∨ 60 * s + 60 ≤ k) → h k = y.2.2.1 1215 0 k) ?_ ?_ 0 (0, y) (by omega) ⟨y.2.2.1 1215 0, by rw [setJ_id]; rfl, fun j hj => absurd hj (Nat.not_lt_zero j), fun k _ => rfl⟩
  · rintro i v hi ⟨h, rfl, hh, hk⟩
    left
    unfold b_X12_row_77
    simp (disch := omega) only [Int32.le_iff_toInt_le, tI, t_60, if_neg, if_pos, inb_T, lm_60, nI_add, nI_clamp, nI_1]
    rw [sJ_s, setJJ]
    refine ⟨_, rfl, _, rfl, fun j hj => ?_, fun k hq => ?_⟩
    · by_cases e : j = i
      · subst e; exact pk_uLs
      · rw [pk_uLn (by omega)]; exact hh j (by omega)
    · rw [pk_uLn (by omega)]; exact hk k hq
  · rintro v ⟨h, rfl, hh⟩
    unfold b_X12_row_77
    rw [if_pos (show (60 : Int32) ≤ nI 60 by decide)]
    exact ⟨_, rfl, h, rfl, hh⟩
theorem s_row : S_row Inv := by
  intro x m p o n hI
  show Sm Inv _ _
  unfold f_X11_row f_X12_row
  rcases c_shelf x m p with ⟨e1, e2⟩ | ⟨s, h1, rfl, e1, e2⟩
  · rw [e1, e2]; exact Sm.mk rfl (hI.ref1 0)
  · rw [e1, e2]
    by_cases hn : n.toInt < 0
    · simp (disch := omega) only [Int32.lt_iff_toInt_lt, Int32.le_iff_toInt_le, i32eq, tI, t_0, t_1, t_2, t_3, t_4, t_5, t_6, t_7, t_8, t_9, t_10, t_16, t_31, t_40, t_48, t_50, t_52, t_57, t_60, t_61, t_64, t_90, t_99, t_100, t_108, t_112, t_114, t_115, t_119, t_121, t_200, t_256, t_364, t_400, t_480, t_960, t_999, t_1000, t_4000, t_99999, t_1000000000, t_2147483647, t_m1, t_m2, t_m3, t_m4, t_m5, t_m6, t_m7, t_m1000, nI_clamp, inb_T, Option.elim_some, Option.elim_none, if_pos, if_neg, rfx1, rfm1, rfx2, rfm2, rfx3, rfm3, rfx4, rfm4, rfx5, rfm5, rfx6, rfm6, rfx7, rfm7, nI_add, pk_mul, lm_2, lm_4, lm_5, lm_7, lm_8, lm_10, lm_40, lm_60, lm_61, lm_364, lm_1000, la_1, al_1, la_10, al_10, la_11, al_11, la_100, al_100, la_364, al_364, d8, m8, ↓reduceIte, rA1, rA3, rI2, rJ1, rJ2, rJ4, rN1, rN2, rN3, rAs, rIs, rJs, rAn, rIn, rJn]; exact Sm.mk rfl (hI.ref1 3)
    · rcases ar o 0 3 (by decide) with h | h | ⟨o, h3, h4, rfl⟩
      · simp (disch := omega) only [Int32.lt_iff_toInt_lt, Int32.le_iff_toInt_le, i32eq, tI, t_0, t_1, t_2, t_3, t_4, t_5, t_6, t_7, t_8, t_9, t_10, t_16, t_31, t_40, t_48, t_50, t_52, t_57, t_60, t_61, t_64, t_90, t_99, t_100, t_108, t_112, t_114, t_115, t_119, t_121, t_200, t_256, t_364, t_400, t_480, t_960, t_999, t_1000, t_4000, t_99999, t_1000000000, t_2147483647, t_m1, t_m2, t_m3, t_m4, t_m5, t_m6, t_m7, t_m1000, nI_clamp, inb_T, Option.elim_some, Option.elim_none, if_pos, if_neg, rfx1, rfm1, rfx2, rfm2, rfx3, rfm3, rfx4, rfm4, rfx5, rfm5, rfx6, rfm6, rfx7, rfm7, nI_add, pk_mul, lm_2, lm_4, lm_5, lm_7, lm_8, lm_10, lm_40, lm_60, lm_61, lm_364, lm_1000, la_1, al_1, la_10, al_10, la_11, al_11, la_100, al_100, la_364, al_364, d8, m8, ↓reduceIte, rA1, rA3, rI2, rJ1, rJ2, rJ4, rN1, rN2, rN3, rAs, rIs, rJs, rAn, rIn, rJn]; exact Sm.mk rfl (hI.ref1 5)
      · simp (disch := omega) only [Int32.lt_iff_toInt_lt, Int32.le_iff_toInt_le, i32eq, tI, t_0, t_1, t_2, t_3, t_4, t_5, t_6, t_7, t_8, t_9, t_10, t_16, t_31, t_40, t_48, t_50, t_52, t_57, t_60, t_61, t_64, t_90, t_99, t_100, t_108, t_112, t_114, t_115, t_119, t_121, t_200, t_256, t_364, t_400, t_480, t_960, t_999, t_1000, t_4000, t_99999, t_1000000000, t_2147483647, t_m1, t_m2, t_m3, t_m4, t_m5, t_m6, t_m7, t_m1000, nI_clamp, inb_T, Option.elim_some, Option.elim_none, if_pos, if_neg, rfx1, rfm1, rfx2, rfm2, rfx3, rfm3, rfx4, rfm4, rfx5, rfm5, rfx6, rfm6, rfx7, rfm7, nI_add, pk_mul, lm_2, lm_4, lm_5, lm_7, lm_8, lm_10, lm_40, lm_60, lm_61, lm_364, lm_1000, la_1, al_1, la_10, al_10, la_11, al_11, la_100, al_100, la_364, al_364, d8, m8, ↓reduceIte, rA1, rA3, rI2, rJ1, rJ2, rJ4, rN1, rN2, rN3, rAs, rIs, rJs, rAn, rIn, rJn]; exact Sm.mk rfl (hI.ref1 5)
      · rcases ar n 0 60 (by decide) with h | h | ⟨n, h5, h6, rfl⟩
        · omega
        · simp (disch := omega) only [Int32.lt_iff_toInt_lt, Int32.le_iff_toInt_le, i32eq, tI, t_0, t_1, t_2, t_3, t_4, t_5, t_6, t_7, t_8, t_9, t_10, t_16, t_31, t_40, t_48, t_50, t_52, t_57, t_60, t_61, t_64, t_90, t_99, t_100, t_108, t_112, t_114, t_115, t_119, t_121, t_200, t_256, t_364, t_400, t_480, t_960, t_999, t_1000, t_4000, t_99999, t_1000000000, t_2147483647, t_m1, t_m2, t_m3, t_m4, t_m5, t_m6, t_m7, t_m1000, nI_clamp, inb_T, Option.elim_some, Option.elim_none, if_pos, if_neg, rfx1, rfm1, rfx2, rfm2, rfx3, rfm3, rfx4, rfm4, rfx5, rfm5, rfx6, rfm6, rfx7, rfm7, nI_add, pk_mul, lm_2, lm_4, lm_5, lm_7, lm_8, lm_10, lm_40, lm_60, lm_61, lm_364, lm_1000, la_1, al_1, la_10, al_10, la_11, al_11, la_100, al_100, la_364, al_364, d8, m8, ↓reduceIte, rA1, rA3, rI2, rJ1, rJ2, rJ4, rN1, rN2, rN3, rAs, rIs, rJs, rAn, rIn, rJn]; exact Sm.mk rfl (hI.ref1 6)
        · unfold f_X9_becomeRow
          obtain ⟨f, f1, f2⟩ := clrX (setI (setI (setI x 901 s (nI o)) 902 s (nI n)) 903 s (-1)) x s (nI o) (nI n) h1
          obtain ⟨g, g1, g2, g3⟩ := clrM (setA (setA (setA m 1211 0 (upd (m.2.1 1211 0) s 1)) 1212 0 (upd (m.2.1 1212 0) s (nI o))) 1213 0 (upd (m.2.1 1213 0) s (nI n))) m s (nI o) (nI n) h1
          simp (disch := omega) only [Int32.lt_iff_toInt_lt, Int32.le_iff_toInt_le, i32eq, tI, t_0, t_1, t_2, t_3, t_4, t_5, t_6, t_7, t_8, t_9, t_10, t_16, t_31, t_40, t_48, t_50, t_52, t_57, t_60, t_61, t_64, t_90, t_99, t_100, t_108, t_112, t_114, t_115, t_119, t_121, t_200, t_256, t_364, t_400, t_480, t_960, t_999, t_1000, t_4000, t_99999, t_1000000000, t_2147483647, t_m1, t_m2, t_m3, t_m4, t_m5, t_m6, t_m7, t_m1000, nI_clamp, inb_T, Option.elim_some, Option.elim_none, if_pos, if_neg, rfx1, rfm1, rfx2, rfm2, rfx3, rfm3, rfx4, rfm4, rfx5, rfm5, rfx6, rfm6, rfx7, rfm7, nI_add, pk_mul, lm_2, lm_4, lm_5, lm_7, lm_8, lm_10, lm_40, lm_60, lm_61, lm_364, lm_1000, la_1, al_1, la_10, al_10, la_11, al_11, la_100, al_100, la_364, al_364, d8, m8, ↓reduceIte, rA1, rA3, rI2, rJ1, rJ2, rJ4, rN1, rN2, rN3, rAs, rIs, rJs, rAn, rIn, rJn, f1, g1]
          refine Sm.mk rfl ⟨hI.bas, hI.cnt, hI.now, hI.pur, hI.clr, hI.fau, hI.cod, hI.sha, hI.fee, hI.law, (?_), hI.per, hI.pe0, hI.pic, hI.ord, hI.dra, hI.pi0, hI.sce, hI.sc0, hI.hal, hI.ha0, hI.shw, hI.pla, hI.cac, hI.ref⟩
          intro s' hs'
          by_cases e : s' = s
          · subst e
            refine Or.inr (Or.inl ⟨pk_us, pk_us.trans sI_s.symm, ?_, pk_us.trans sI_s.symm, ?_, fun j hj => ?_⟩)
            · have : rng (nI o) 0 3 := rng_I (a := 0) (b := 3) h3 h4 (by decide)
              exact (sI_s (x := x) (F := 901) (a := s') (h := nI o)).symm ▸ this
            · have : rng (nI n) 0 60 := rng_I (a := 0) (b := 60) h5 h6 (by decide)
              exact (sI_s (x := setI x 901 s' (nI o)) (F := 902) (a := s') (h := nI n)).symm ▸ this
            · rw [sJ_s, sJ_s, g2 j hj, f2 j hj]
          · refine she_k (hI.she s' hs') (sI_n e) (sI_n e) (sI_n e) (u_n e) (u_n e) (u_n e) rfl (fun j hj => ?_) (fun j hj => ?_) rfl
            · rw [sJ_n e]; rfl
            · rw [sJ_s, g3 _ (by omega)]; rfl
theorem subT {a b : Int32} (h1 : -2147483648 ≤ a.toInt - b.toInt) (h2 : a.toInt - b.toInt < 2147483648) : (a - b).toInt = a.toInt - b.toInt := by
  rw [Int32.toInt_sub]
  exact Int.bmod_eq_of_le (by simpa using h1) (by simpa using h2)
theorem hspan {x : VM} {s n : Nat} {p q : Int32} (hs : s < 8) (hn : x.1 902 s = nI n) (h60 : n ≤ 60) (hq : 0 ≤ q.toInt) : (f_X9_hasSpan x s p q = some 1 ∧ 0 ≤ p.toInt ∧ p.toInt + q.toInt ≤ n) ∨ (f_X9_hasSpan x s p q = some 0 ∧ ¬ (0 ≤ p.toInt ∧ p.toInt + q.toInt ≤ n)) := by
  unfold f_X9_hasSpan
  by_cases h0 : p.toInt < 0
  · right
    rw [if_pos (by rw [Int32.lt_iff_toInt_lt]; exact h0)]
    exact ⟨rfl, by omega⟩
  · rw [if_neg (by rw [Int32.lt_iff_toInt_lt]; exact h0), if_pos hs, hn]
    have e1 : (p.toInt64 + q.toInt64).toInt = p.toInt + q.toInt := by
      have := Int32.toInt_lt p
      have := Int32.toInt_lt q
      rw [Int64.toInt_add, Int32.toInt_toInt64, Int32.toInt_toInt64]
      exact Int.bmod_eq_of_le (by omega) (by omega)
    have e2 : (nI n).toInt64.toInt = n := by rw [Int32.toInt_toInt64, tI (by omega)]
    have e3 : 0 < lg_cmp (p.toInt64 + q.toInt64) (nI n).toInt64 ↔ (n : Int) < p.toInt + q.toInt := by
      rw [lg_cmp_gt, Int64.lt_iff_toInt_lt, e1, e2]
    by_cases h1 : (n : Int) < p.toInt + q.toInt
    · right
      rw [if_pos (e3.mpr h1)]
      exact ⟨rfl, by omega⟩
    · left
      rw [if_neg (fun z => h1 (e3.mp z))]
      exact ⟨rfl, by omega, by omega⟩
