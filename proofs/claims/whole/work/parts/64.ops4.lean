/-! calls that make or fill -/
theorem gAr {x : VM} {F a0 b0 a b : Nat} {w : Int32} : (setA x F a0 (upd (x.2.1 F a0) b0 w)).2.1 F a b = if a = a0 ∧ b = b0 then w else x.2.1 F a b := by
  by_cases e : a = a0
  · subst e
    rw [sA_s]
    unfold upd
    by_cases e2 : b = b0
    · rw [if_pos e2, if_pos ⟨rfl, e2⟩]
    · rw [if_neg e2, if_neg (fun q => e2 q.2)]
  · rw [sA_n e, if_neg (fun q => e q.1)]
theorem gU {S a0 b0 a b : Nat} {f : Nat → Int32} {v : Int32} (hb : b < S) (hb0 : b0 < S) : upd f (S * a0 + b0) v (S * a + b) = if a = a0 ∧ b = b0 then v else f (S * a + b) := by
  unfold upd
  by_cases e : a = a0 ∧ b = b0
  · rw [if_pos e, if_pos ((upk hb hb0).mpr e)]
  · rw [if_neg e, if_neg (fun q => e ((upk hb hb0).mp q))]
theorem gI {x : VM} {F a0 a : Nat} {w : Int32} : (setI x F a0 w).1 F a = if a = a0 then w else x.1 F a := by
  by_cases e : a = a0
  · subst e; rw [sI_s, if_pos rfl]
  · rw [sI_n e, if_neg e]
theorem nV_I {x : VM} {c0 i0 F : Nat} {I : Nat → Int32} {B : Nat → Nat → Int32} {N : Nat → Nat} (h : F / 100 = c0) : (nwV x c0 i0 I B N).1 F i0 = I (F % 100) := if_pos ⟨h, rfl⟩
theorem nV_A {x : VM} {c0 i0 F : Nat} {I : Nat → Int32} {B : Nat → Nat → Int32} {N : Nat → Nat} (h : F / 100 = c0) : (nwV x c0 i0 I B N).2.1 F i0 = B (F % 100) := if_pos ⟨h, rfl⟩
theorem nV_J {x : VM} {c0 i0 F : Nat} {I : Nat → Int32} {B : Nat → Nat → Int32} {N : Nat → Nat} (h : F / 100 = c0) : (nwV x c0 i0 I B N).2.2.1 F i0 = fun _ => 0 := if_pos ⟨h, rfl⟩
theorem nV_In {x : VM} {c0 i0 F i : Nat} {I : Nat → Int32} {B : Nat → Nat → Int32} {N : Nat → Nat} (h : ¬ (F / 100 = c0 ∧ i = i0)) : (nwV x c0 i0 I B N).1 F i = x.1 F i := if_neg h
theorem nV_An {x : VM} {c0 i0 F i : Nat} {I : Nat → Int32} {B : Nat → Nat → Int32} {N : Nat → Nat} (h : ¬ (F / 100 = c0 ∧ i = i0)) : (nwV x c0 i0 I B N).2.1 F i = x.2.1 F i := if_neg h
theorem nV_Jn {x : VM} {c0 i0 F i : Nat} {I : Nat → Int32} {B : Nat → Nat → Int32} {N : Nat → Nat} (h : ¬ (F / 100 = c0 ∧ i = i0)) : (nwV x c0 i0 I B N).2.2.1 F i = x.2.2.1 F i := if_neg h
theorem pakN {x : VM} {S F a0 b0 : Nat} {f : Nat → Int32} {v w : Int32} (Q : Int32 → Int32 → Prop) (hv : Q v w) : Q (upd f (S * a0 + b0) v (S * a0 + b0)) ((setA x F a0 (upd (x.2.1 F a0) b0 w)).2.1 F a0 b0) := by
  rw [sA_s]
  unfold upd
  rw [if_pos rfl, if_pos rfl]
  exact hv
theorem s_preview : S_preview Inv := by
  intro x m p q c l hI
  show Sm Inv _ _
  unfold f_X11_preview f_X12_preview
  rcases c_pic hI p with ⟨e1, e2⟩ | ⟨i, i1, i2, rfl, e1, e2⟩
  · rw [e1, e2]; exact Sm.mk rfl (hI.ref1 0)
  · rw [e1, e2]
    rcases ar q 0 3 (by decide) with h | h | ⟨k, h1, h2, rfl⟩
    · simp (disch := omega) only [Int32.lt_iff_toInt_lt, Int32.le_iff_toInt_le, i32eq, tI, t_0, t_1, t_2, t_3, t_4, t_5, t_6, t_7, t_8, t_9, t_10, t_16, t_31, t_40, t_48, t_50, t_52, t_57, t_60, t_61, t_64, t_90, t_99, t_100, t_108, t_112, t_114, t_115, t_119, t_121, t_200, t_256, t_364, t_400, t_480, t_960, t_999, t_1000, t_4000, t_99999, t_1000000000, t_2147483647, t_m1, t_m2, t_m3, t_m4, t_m5, t_m6, t_m7, t_m1000, nI_clamp, inb_T, Option.elim_some, Option.elim_none, if_pos, if_neg, rfx1, rfm1, rfx2, rfm2, rfx3, rfm3, rfx4, rfm4, rfx5, rfm5, rfx6, rfm6, rfx7, rfm7, nI_add, pk_mul, lm_2, lm_4, lm_5, lm_7, lm_8, lm_10, lm_40, lm_60, lm_61, lm_364, lm_1000, la_1, al_1, la_10, al_10, la_11, al_11, la_100, al_100, la_364, al_364, d8, m8, ↓reduceIte, rA1, rA3, rI2, rJ1, rJ2, rJ4, rN1, rN2, rN3, rAs, rIs, rJs, rAn, rIn, rJn]; exact Sm.mk rfl (hI.ref1 0)
    · simp (disch := omega) only [Int32.lt_iff_toInt_lt, Int32.le_iff_toInt_le, i32eq, tI, t_0, t_1, t_2, t_3, t_4, t_5, t_6, t_7, t_8, t_9, t_10, t_16, t_31, t_40, t_48, t_50, t_52, t_57, t_60, t_61, t_64, t_90, t_99, t_100, t_108, t_112, t_114, t_115, t_119, t_121, t_200, t_256, t_364, t_400, t_480, t_960, t_999, t_1000, t_4000, t_99999, t_1000000000, t_2147483647, t_m1, t_m2, t_m3, t_m4, t_m5, t_m6, t_m7, t_m1000, nI_clamp, inb_T, Option.elim_some, Option.elim_none, if_pos, if_neg, rfx1, rfm1, rfx2, rfm2, rfx3, rfm3, rfx4, rfm4, rfx5, rfm5, rfx6, rfm6, rfx7, rfm7, nI_add, pk_mul, lm_2, lm_4, lm_5, lm_7, lm_8, lm_10, lm_40, lm_60, lm_61, lm_364, lm_1000, la_1, al_1, la_10, al_10, la_11, al_11, la_100, al_100, la_364, al_364, d8, m8, ↓reduceIte, rA1, rA3, rI2, rJ1, rJ2, rJ4, rN1, rN2, rN3, rAs, rIs, rJs, rAn, rIn, rJn]; exact Sm.mk rfl (hI.ref1 0)
    · rcases ar c 1 99 (by decide) with h | h | ⟨c, h3, h4, rfl⟩
      · simp (disch := omega) only [Int32.lt_iff_toInt_lt, Int32.le_iff_toInt_le, i32eq, tI, t_0, t_1, t_2, t_3, t_4, t_5, t_6, t_7, t_8, t_9, t_10, t_16, t_31, t_40, t_48, t_50, t_52, t_57, t_60, t_61, t_64, t_90, t_99, t_100, t_108, t_112, t_114, t_115, t_119, t_121, t_200, t_256, t_364, t_400, t_480, t_960, t_999, t_1000, t_4000, t_99999, t_1000000000, t_2147483647, t_m1, t_m2, t_m3, t_m4, t_m5, t_m6, t_m7, t_m1000, nI_clamp, inb_T, Option.elim_some, Option.elim_none, if_pos, if_neg, rfx1, rfm1, rfx2, rfm2, rfx3, rfm3, rfx4, rfm4, rfx5, rfm5, rfx6, rfm6, rfx7, rfm7, nI_add, pk_mul, lm_2, lm_4, lm_5, lm_7, lm_8, lm_10, lm_40, lm_60, lm_61, lm_364, lm_1000, la_1, al_1, la_10, al_10, la_11, al_11, la_100, al_100, la_364, al_364, d8, m8, ↓reduceIte, rA1, rA3, rI2, rJ1, rJ2, rJ4, rN1, rN2, rN3, rAs, rIs, rJs, rAn, rIn, rJn]; exact Sm.mk rfl (hI.ref1 5)
      · simp (disch := omega) only [Int32.lt_iff_toInt_lt, Int32.le_iff_toInt_le, i32eq, tI, t_0, t_1, t_2, t_3, t_4, t_5, t_6, t_7, t_8, t_9, t_10, t_16, t_31, t_40, t_48, t_50, t_52, t_57, t_60, t_61, t_64, t_90, t_99, t_100, t_108, t_112, t_114, t_115, t_119, t_121, t_200, t_256, t_364, t_400, t_480, t_960, t_999, t_1000, t_4000, t_99999, t_1000000000, t_2147483647, t_m1, t_m2, t_m3, t_m4, t_m5, t_m6, t_m7, t_m1000, nI_clamp, inb_T, Option.elim_some, Option.elim_none, if_pos, if_neg, rfx1, rfm1, rfx2, rfm2, rfx3, rfm3, rfx4, rfm4, rfx5, rfm5, rfx6, rfm6, rfx7, rfm7, nI_add, pk_mul, lm_2, lm_4, lm_5, lm_7, lm_8, lm_10, lm_40, lm_60, lm_61, lm_364, lm_1000, la_1, al_1, la_10, al_10, la_11, al_11, la_100, al_100, la_364, al_364, d8, m8, ↓reduceIte, rA1, rA3, rI2, rJ1, rJ2, rJ4, rN1, rN2, rN3, rAs, rIs, rJs, rAn, rIn, rJn]; exact Sm.mk rfl (hI.ref1 5)
      · rcases ar l 0 c (by omega) with h | h | ⟨l, h5, h6, rfl⟩
        · simp (disch := omega) only [Int32.lt_iff_toInt_lt, Int32.le_iff_toInt_le, i32eq, tI, t_0, t_1, t_2, t_3, t_4, t_5, t_6, t_7, t_8, t_9, t_10, t_16, t_31, t_40, t_48, t_50, t_52, t_57, t_60, t_61, t_64, t_90, t_99, t_100, t_108, t_112, t_114, t_115, t_119, t_121, t_200, t_256, t_364, t_400, t_480, t_960, t_999, t_1000, t_4000, t_99999, t_1000000000, t_2147483647, t_m1, t_m2, t_m3, t_m4, t_m5, t_m6, t_m7, t_m1000, nI_clamp, inb_T, Option.elim_some, Option.elim_none, if_pos, if_neg, rfx1, rfm1, rfx2, rfm2, rfx3, rfm3, rfx4, rfm4, rfx5, rfm5, rfx6, rfm6, rfx7, rfm7, nI_add, pk_mul, lm_2, lm_4, lm_5, lm_7, lm_8, lm_10, lm_40, lm_60, lm_61, lm_364, lm_1000, la_1, al_1, la_10, al_10, la_11, al_11, la_100, al_100, la_364, al_364, d8, m8, ↓reduceIte, rA1, rA3, rI2, rJ1, rJ2, rJ4, rN1, rN2, rN3, rAs, rIs, rJs, rAn, rIn, rJn]; exact Sm.mk rfl (hI.ref1 5)
        · simp (disch := omega) only [Int32.lt_iff_toInt_lt, Int32.le_iff_toInt_le, i32eq, tI, t_0, t_1, t_2, t_3, t_4, t_5, t_6, t_7, t_8, t_9, t_10, t_16, t_31, t_40, t_48, t_50, t_52, t_57, t_60, t_61, t_64, t_90, t_99, t_100, t_108, t_112, t_114, t_115, t_119, t_121, t_200, t_256, t_364, t_400, t_480, t_960, t_999, t_1000, t_4000, t_99999, t_1000000000, t_2147483647, t_m1, t_m2, t_m3, t_m4, t_m5, t_m6, t_m7, t_m1000, nI_clamp, inb_T, Option.elim_some, Option.elim_none, if_pos, if_neg, rfx1, rfm1, rfx2, rfm2, rfx3, rfm3, rfx4, rfm4, rfx5, rfm5, rfx6, rfm6, rfx7, rfm7, nI_add, pk_mul, lm_2, lm_4, lm_5, lm_7, lm_8, lm_10, lm_40, lm_60, lm_61, lm_364, lm_1000, la_1, al_1, la_10, al_10, la_11, al_11, la_100, al_100, la_364, al_364, d8, m8, ↓reduceIte, rA1, rA3, rI2, rJ1, rJ2, rJ4, rN1, rN2, rN3, rAs, rIs, rJs, rAn, rIn, rJn]; exact Sm.mk rfl (hI.ref1 5)
        · obtain ⟨b1, b2, b3, b4⟩ := (hI.pic i i1).2.2.2.2.2.2.2.2.2.2 k (by omega)
          obtain ⟨cc, c1, c2, c3⟩ := rng_nI (a := 0) (b := 999) b3 (by decide)
          rw [c3, tI (by omega)] at b4
          obtain ⟨ll, l1, l2, l3⟩ := rng_nI (a := 0) (b := cc) b4 (by omega)
          by_cases hs : cc + c ≤ 999
          · simp (disch := omega) only [Int32.lt_iff_toInt_lt, Int32.le_iff_toInt_le, i32eq, tI, t_0, t_1, t_2, t_3, t_4, t_5, t_6, t_7, t_8, t_9, t_10, t_16, t_31, t_40, t_48, t_50, t_52, t_57, t_60, t_61, t_64, t_90, t_99, t_100, t_108, t_112, t_114, t_115, t_119, t_121, t_200, t_256, t_364, t_400, t_480, t_960, t_999, t_1000, t_4000, t_99999, t_1000000000, t_2147483647, t_m1, t_m2, t_m3, t_m4, t_m5, t_m6, t_m7, t_m1000, nI_clamp, inb_T, Option.elim_some, Option.elim_none, if_pos, if_neg, rfx1, rfm1, rfx2, rfm2, rfx3, rfm3, rfx4, rfm4, rfx5, rfm5, rfx6, rfm6, rfx7, rfm7, nI_add, pk_mul, lm_2, lm_4, lm_5, lm_7, lm_8, lm_10, lm_40, lm_60, lm_61, lm_364, lm_1000, la_1, al_1, la_10, al_10, la_11, al_11, la_100, al_100, la_364, al_364, d8, m8, ↓reduceIte, rA1, rA3, rI2, rJ1, rJ2, rJ4, rN1, rN2, rN3, rAs, rIs, rJs, rAn, rIn, rJn, b1, b2, c3, l3, pk_us]
            refine Sm.mk rfl ⟨hI.bas, hI.cnt, hI.now, hI.pur, hI.clr, hI.fau, hI.cod, hI.sha, hI.fee, hI.law, hI.she, hI.per, hI.pe0, (?_), hI.ord, hI.dra, (?_), hI.sce, hI.sc0, hI.hal, hI.ha0, hI.shw, hI.pla, hI.cac, hI.ref⟩
            · intro p' hp
              obtain ⟨a1, a2, a3, a4, a5, a6, a7, a8, a9, a10, a11⟩ := hI.pic p' hp
              refine ⟨a1, a2, a3, a4, a5, a6, a7, a8, a9, a10, fun k' hk' => ?_⟩
              have := a11 k' hk'
              have hk : k < 4 := by omega
              have y1 : (setA (setA x 514 i (upd (x.2.1 514 i) k (nI (cc + c)))) 515 i (upd (x.2.1 515 i) k (nI (ll + l)))).2.1 514 p' k' = if p' = i ∧ k' = k then nI (cc + c) else x.2.1 514 p' k' := gAr
              have y2 : (setA (setA x 514 i (upd (x.2.1 514 i) k (nI (cc + c)))) 515 i (upd (x.2.1 515 i) k (nI (ll + l)))).2.1 515 p' k' = if p' = i ∧ k' = k then nI (ll + l) else x.2.1 515 p' k' := gAr
              rw [y1, y2]
              show upd (m.2.1 1258 0) (4 * i + k) (nI (cc + c)) (4 * p' + k') = _ ∧ upd (m.2.1 1259 0) (4 * i + k) (nI (ll + l)) (4 * p' + k') = _ ∧ _
              rw [gU hk' hk, gU hk' hk]
              by_cases e : p' = i ∧ k' = k
              · rw [if_pos e, if_pos e, if_pos e, if_pos e, tI (by omega)]
                exact ⟨rfl, rfl, rng_I (a := 0) (b := 999) (by omega) hs (by decide), rng_I (a := 0) (by omega) (by omega) (by omega)⟩
              · rw [if_neg e, if_neg e, if_neg e, if_neg e]
                exact this
            · intro p' hp hp8
              obtain ⟨a1, a2, a3, a4, a5, a6, a7, a8, a9, a10, a11⟩ := hI.pi0 p' hp hp8
              have : x.2.2.2 5 ≤ p' := hp
              exact ⟨a1, a2, a3, a4, a5, a6, a7, a8, a9, a10, fun k' hk' => ⟨(u_n (by omega)).trans (a11 k' hk').1, (u_n (by omega)).trans (a11 k' hk').2⟩⟩
          · simp (disch := omega) only [Int32.lt_iff_toInt_lt, Int32.le_iff_toInt_le, i32eq, tI, t_0, t_1, t_2, t_3, t_4, t_5, t_6, t_7, t_8, t_9, t_10, t_16, t_31, t_40, t_48, t_50, t_52, t_57, t_60, t_61, t_64, t_90, t_99, t_100, t_108, t_112, t_114, t_115, t_119, t_121, t_200, t_256, t_364, t_400, t_480, t_960, t_999, t_1000, t_4000, t_99999, t_1000000000, t_2147483647, t_m1, t_m2, t_m3, t_m4, t_m5, t_m6, t_m7, t_m1000, nI_clamp, inb_T, Option.elim_some, Option.elim_none, if_pos, if_neg, rfx1, rfm1, rfx2, rfm2, rfx3, rfm3, rfx4, rfm4, rfx5, rfm5, rfx6, rfm6, rfx7, rfm7, nI_add, pk_mul, lm_2, lm_4, lm_5, lm_7, lm_8, lm_10, lm_40, lm_60, lm_61, lm_364, lm_1000, la_1, al_1, la_10, al_10, la_11, al_11, la_100, al_100, la_364, al_364, d8, m8, ↓reduceIte, rA1, rA3, rI2, rJ1, rJ2, rJ4, rN1, rN2, rN3, rAs, rIs, rJs, rAn, rIn, rJn, b1, b2, c3, l3]; exact Sm.mk rfl (hI.ref1 6)
theorem s_take : S_take Inv := by
  intro x m p q l w f hI
  show Sm Inv _ _
  unfold f_X11_take f_X12_take
  rcases c_sce hI p q with ⟨e1, e2⟩ | ⟨i, j, i1, i2, j1, j2, rfl, rfl, e1, e2⟩
  · rw [e1, e2]; exact Sm.mk rfl (hI.ref1 0)
  · rw [e1, e2]
    rcases ar l 1 99 (by decide) with h | h | ⟨l, h1, h2, rfl⟩
    · simp (disch := omega) only [Int32.lt_iff_toInt_lt, Int32.le_iff_toInt_le, i32eq, tI, t_0, t_1, t_2, t_3, t_4, t_5, t_6, t_7, t_8, t_9, t_10, t_16, t_31, t_40, t_48, t_50, t_52, t_57, t_60, t_61, t_64, t_90, t_99, t_100, t_108, t_112, t_114, t_115, t_119, t_121, t_200, t_256, t_364, t_400, t_480, t_960, t_999, t_1000, t_4000, t_99999, t_1000000000, t_2147483647, t_m1, t_m2, t_m3, t_m4, t_m5, t_m6, t_m7, t_m1000, nI_clamp, inb_T, Option.elim_some, Option.elim_none, if_pos, if_neg, rfx1, rfm1, rfx2, rfm2, rfx3, rfm3, rfx4, rfm4, rfx5, rfm5, rfx6, rfm6, rfx7, rfm7, nI_add, pk_mul, lm_2, lm_4, lm_5, lm_7, lm_8, lm_10, lm_40, lm_60, lm_61, lm_364, lm_1000, la_1, al_1, la_10, al_10, la_11, al_11, la_100, al_100, la_364, al_364, d8, m8, ↓reduceIte, rA1, rA3, rI2, rJ1, rJ2, rJ4, rN1, rN2, rN3, rAs, rIs, rJs, rAn, rIn, rJn]; exact Sm.mk rfl (hI.ref1 5)
    · simp (disch := omega) only [Int32.lt_iff_toInt_lt, Int32.le_iff_toInt_le, i32eq, tI, t_0, t_1, t_2, t_3, t_4, t_5, t_6, t_7, t_8, t_9, t_10, t_16, t_31, t_40, t_48, t_50, t_52, t_57, t_60, t_61, t_64, t_90, t_99, t_100, t_108, t_112, t_114, t_115, t_119, t_121, t_200, t_256, t_364, t_400, t_480, t_960, t_999, t_1000, t_4000, t_99999, t_1000000000, t_2147483647, t_m1, t_m2, t_m3, t_m4, t_m5, t_m6, t_m7, t_m1000, nI_clamp, inb_T, Option.elim_some, Option.elim_none, if_pos, if_neg, rfx1, rfm1, rfx2, rfm2, rfx3, rfm3, rfx4, rfm4, rfx5, rfm5, rfx6, rfm6, rfx7, rfm7, nI_add, pk_mul, lm_2, lm_4, lm_5, lm_7, lm_8, lm_10, lm_40, lm_60, lm_61, lm_364, lm_1000, la_1, al_1, la_10, al_10, la_11, al_11, la_100, al_100, la_364, al_364, d8, m8, ↓reduceIte, rA1, rA3, rI2, rJ1, rJ2, rJ4, rN1, rN2, rN3, rAs, rIs, rJs, rAn, rIn, rJn]; exact Sm.mk rfl (hI.ref1 5)
    · rcases ar w 0 99 (by decide) with h | h | ⟨w, h3, h4, rfl⟩
      · simp (disch := omega) only [Int32.lt_iff_toInt_lt, Int32.le_iff_toInt_le, i32eq, tI, t_0, t_1, t_2, t_3, t_4, t_5, t_6, t_7, t_8, t_9, t_10, t_16, t_31, t_40, t_48, t_50, t_52, t_57, t_60, t_61, t_64, t_90, t_99, t_100, t_108, t_112, t_114, t_115, t_119, t_121, t_200, t_256, t_364, t_400, t_480, t_960, t_999, t_1000, t_4000, t_99999, t_1000000000, t_2147483647, t_m1, t_m2, t_m3, t_m4, t_m5, t_m6, t_m7, t_m1000, nI_clamp, inb_T, Option.elim_some, Option.elim_none, if_pos, if_neg, rfx1, rfm1, rfx2, rfm2, rfx3, rfm3, rfx4, rfm4, rfx5, rfm5, rfx6, rfm6, rfx7, rfm7, nI_add, pk_mul, lm_2, lm_4, lm_5, lm_7, lm_8, lm_10, lm_40, lm_60, lm_61, lm_364, lm_1000, la_1, al_1, la_10, al_10, la_11, al_11, la_100, al_100, la_364, al_364, d8, m8, ↓reduceIte, rA1, rA3, rI2, rJ1, rJ2, rJ4, rN1, rN2, rN3, rAs, rIs, rJs, rAn, rIn, rJn]; exact Sm.mk rfl (hI.ref1 5)
      · simp (disch := omega) only [Int32.lt_iff_toInt_lt, Int32.le_iff_toInt_le, i32eq, tI, t_0, t_1, t_2, t_3, t_4, t_5, t_6, t_7, t_8, t_9, t_10, t_16, t_31, t_40, t_48, t_50, t_52, t_57, t_60, t_61, t_64, t_90, t_99, t_100, t_108, t_112, t_114, t_115, t_119, t_121, t_200, t_256, t_364, t_400, t_480, t_960, t_999, t_1000, t_4000, t_99999, t_1000000000, t_2147483647, t_m1, t_m2, t_m3, t_m4, t_m5, t_m6, t_m7, t_m1000, nI_clamp, inb_T, Option.elim_some, Option.elim_none, if_pos, if_neg, rfx1, rfm1, rfx2, rfm2, rfx3, rfm3, rfx4, rfm4, rfx5, rfm5, rfx6, rfm6, rfx7, rfm7, nI_add, pk_mul, lm_2, lm_4, lm_5, lm_7, lm_8, lm_10, lm_40, lm_60, lm_61, lm_364, lm_1000, la_1, al_1, la_10, al_10, la_11, al_11, la_100, al_100, la_364, al_364, d8, m8, ↓reduceIte, rA1, rA3, rI2, rJ1, rJ2, rJ4, rN1, rN2, rN3, rAs, rIs, rJs, rAn, rIn, rJn]; exact Sm.mk rfl (hI.ref1 5)
      · rcases ar f 0 99 (by decide) with h | h | ⟨f, h5, h6, rfl⟩
        · simp (disch := omega) only [Int32.lt_iff_toInt_lt, Int32.le_iff_toInt_le, i32eq, tI, t_0, t_1, t_2, t_3, t_4, t_5, t_6, t_7, t_8, t_9, t_10, t_16, t_31, t_40, t_48, t_50, t_52, t_57, t_60, t_61, t_64, t_90, t_99, t_100, t_108, t_112, t_114, t_115, t_119, t_121, t_200, t_256, t_364, t_400, t_480, t_960, t_999, t_1000, t_4000, t_99999, t_1000000000, t_2147483647, t_m1, t_m2, t_m3, t_m4, t_m5, t_m6, t_m7, t_m1000, nI_clamp, inb_T, Option.elim_some, Option.elim_none, if_pos, if_neg, rfx1, rfm1, rfx2, rfm2, rfx3, rfm3, rfx4, rfm4, rfx5, rfm5, rfx6, rfm6, rfx7, rfm7, nI_add, pk_mul, lm_2, lm_4, lm_5, lm_7, lm_8, lm_10, lm_40, lm_60, lm_61, lm_364, lm_1000, la_1, al_1, la_10, al_10, la_11, al_11, la_100, al_100, la_364, al_364, d8, m8, ↓reduceIte, rA1, rA3, rI2, rJ1, rJ2, rJ4, rN1, rN2, rN3, rAs, rIs, rJs, rAn, rIn, rJn]; exact Sm.mk rfl (hI.ref1 5)
        · simp (disch := omega) only [Int32.lt_iff_toInt_lt, Int32.le_iff_toInt_le, i32eq, tI, t_0, t_1, t_2, t_3, t_4, t_5, t_6, t_7, t_8, t_9, t_10, t_16, t_31, t_40, t_48, t_50, t_52, t_57, t_60, t_61, t_64, t_90, t_99, t_100, t_108, t_112, t_114, t_115, t_119, t_121, t_200, t_256, t_364, t_400, t_480, t_960, t_999, t_1000, t_4000, t_99999, t_1000000000, t_2147483647, t_m1, t_m2, t_m3, t_m4, t_m5, t_m6, t_m7, t_m1000, nI_clamp, inb_T, Option.elim_some, Option.elim_none, if_pos, if_neg, rfx1, rfm1, rfx2, rfm2, rfx3, rfm3, rfx4, rfm4, rfx5, rfm5, rfx6, rfm6, rfx7, rfm7, nI_add, pk_mul, lm_2, lm_4, lm_5, lm_7, lm_8, lm_10, lm_40, lm_60, lm_61, lm_364, lm_1000, la_1, al_1, la_10, al_10, la_11, al_11, la_100, al_100, la_364, al_364, d8, m8, ↓reduceIte, rA1, rA3, rI2, rJ1, rJ2, rJ4, rN1, rN2, rN3, rAs, rIs, rJs, rAn, rIn, rJn]; exact Sm.mk rfl (hI.ref1 5)
        · obtain ⟨b1, b2⟩ := (hI.sce i j i1 j1).2.2.2.2.2.1
          obtain ⟨cc, c1, c2, c3⟩ := rng_nI (a := 0) (b := 4) b2 (by decide)
          rcases (show cc = 4 ∨ cc < 4 by omega) with hc | hc
          · simp (disch := omega) only [Int32.lt_iff_toInt_lt, Int32.le_iff_toInt_le, i32eq, tI, t_0, t_1, t_2, t_3, t_4, t_5, t_6, t_7, t_8, t_9, t_10, t_16, t_31, t_40, t_48, t_50, t_52, t_57, t_60, t_61, t_64, t_90, t_99, t_100, t_108, t_112, t_114, t_115, t_119, t_121, t_200, t_256, t_364, t_400, t_480, t_960, t_999, t_1000, t_4000, t_99999, t_1000000000, t_2147483647, t_m1, t_m2, t_m3, t_m4, t_m5, t_m6, t_m7, t_m1000, nI_clamp, inb_T, Option.elim_some, Option.elim_none, if_pos, if_neg, rfx1, rfm1, rfx2, rfm2, rfx3, rfm3, rfx4, rfm4, rfx5, rfm5, rfx6, rfm6, rfx7, rfm7, nI_add, pk_mul, lm_2, lm_4, lm_5, lm_7, lm_8, lm_10, lm_40, lm_60, lm_61, lm_364, lm_1000, la_1, al_1, la_10, al_10, la_11, al_11, la_100, al_100, la_364, al_364, d8, m8, ↓reduceIte, rA1, rA3, rI2, rJ1, rJ2, rJ4, rN1, rN2, rN3, rAs, rIs, rJs, rAn, rIn, rJn, b1, c3]; exact Sm.mk rfl (hI.ref1 6)
          · simp (disch := omega) only [Int32.lt_iff_toInt_lt, Int32.le_iff_toInt_le, i32eq, tI, t_0, t_1, t_2, t_3, t_4, t_5, t_6, t_7, t_8, t_9, t_10, t_16, t_31, t_40, t_48, t_50, t_52, t_57, t_60, t_61, t_64, t_90, t_99, t_100, t_108, t_112, t_114, t_115, t_119, t_121, t_200, t_256, t_364, t_400, t_480, t_960, t_999, t_1000, t_4000, t_99999, t_1000000000, t_2147483647, t_m1, t_m2, t_m3, t_m4, t_m5, t_m6, t_m7, t_m1000, nI_clamp, inb_T, Option.elim_some, Option.elim_none, if_pos, if_neg, rfx1, rfm1, rfx2, rfm2, rfx3, rfm3, rfx4, rfm4, rfx5, rfm5, rfx6, rfm6, rfx7, rfm7, nI_add, pk_mul, lm_2, lm_4, lm_5, lm_7, lm_8, lm_10, lm_40, lm_60, lm_61, lm_364, lm_1000, la_1, al_1, la_10, al_10, la_11, al_11, la_100, al_100, la_364, al_364, d8, m8, ↓reduceIte, rA1, rA3, rI2, rJ1, rJ2, rJ4, rN1, rN2, rN3, rAs, rIs, rJs, rAn, rIn, rJn, b1, c3]
            refine Sm.mk rfl ⟨hI.bas, hI.cnt, hI.now, hI.pur, hI.clr, hI.fau, hI.cod, hI.sha, hI.fee, hI.law, hI.she, hI.per, hI.pe0, hI.pic, hI.ord, hI.dra, hI.pi0, (?_), (?_), hI.hal, hI.ha0, hI.shw, hI.pla, hI.cac, hI.ref⟩
            · intro p' s' hp hs
              have hs8 : s' < 8 := by have := (n_sce hI hp).2.2; have : s' < x.2.2.2 (20 + p') := hs; omega
              obtain ⟨a1, a2, a3, a4, a5, a6, a7⟩ := hI.sce p' s' hp hs
              refine ⟨a1, a2, a3, a4, a5, pakI2 (fun a b => a = b ∧ rng b 0 4) a6 ⟨rfl, rng_I (a := 0) (b := 4) (by omega) (by omega) (by decide)⟩, fun t ht => ?_⟩
              have hcc : cc < 4 := hc
              have ht4 : t < 4 := by
                by_cases e : 8 * p' + s' = 8 * i + j
                · rw [e, gI, if_pos rfl, tI (by omega)] at ht; omega
                · rw [gI, if_neg e] at ht
                  have z : (x.1 805 (8 * p' + s')).toInt ≤ 4 := a6.2.2
                  have z2 : (t : Int) < (x.1 805 (8 * p' + s')).toInt := ht
                  omega
              by_cases e : 8 * p' + s' = 8 * i + j ∧ t = cc
              · obtain ⟨e, rfl⟩ := e
                rw [e]
                exact ⟨pakN (fun a b => a = b ∧ rng b 1 99) ⟨rfl, rng_I (a := 1) (b := 99) h1 h2 (by decide)⟩, pakN (fun a b => a = b ∧ rng b 0 99) ⟨rfl, rng_I (a := 0) (b := 99) h3 h4 (by decide)⟩, pakN (fun a b => a = b ∧ rng b 0 99) ⟨rfl, rng_I (a := 0) (b := 99) h5 h6 (by decide)⟩⟩
              · have ht' : (t : Int) < (x.1 805 (8 * p' + s')).toInt := by
                  by_cases e2 : 8 * p' + s' = 8 * i + j
                  · rw [e2, gI, if_pos rfl, tI (by omega)] at ht
                    rw [e2, c3, tI (by omega)]
                    have : t ≠ cc := fun z => e ⟨e2, z⟩
                    omega
                  · rw [gI, if_neg e2] at ht; exact ht
                obtain ⟨⟨v1, v2⟩, ⟨v3, v4⟩, v5, v6⟩ := a7 t ht'
                exact ⟨pakA (fun a b => a = b ∧ rng b 1 99) ⟨v1, v2⟩ ⟨rfl, rng_I (a := 1) (b := 99) h1 h2 (by decide)⟩ ht4 hcc, pakA (fun a b => a = b ∧ rng b 0 99) ⟨v3, v4⟩ ⟨rfl, rng_I (a := 0) (b := 99) h3 h4 (by decide)⟩ ht4 hcc, pakA (fun a b => a = b ∧ rng b 0 99) ⟨v5, v6⟩ ⟨rfl, rng_I (a := 0) (b := 99) h5 h6 (by decide)⟩ ht4 hcc⟩
            · intro p' s' hp hs hh
              obtain ⟨b1, b2, b3⟩ := hI.sc0 p' s' hp hs hh
              have z := not_live j1 i1 hh
              exact ⟨b1, (u_n (by omega)).trans b2, b3⟩
