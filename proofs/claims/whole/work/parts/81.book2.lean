/-! showings counted; book -/
theorem sum_smB (f : Nat → Nat) : ∀ n, ((List.range n).map f).sum = smB f n
  | 0 => rfl
  | n + 1 => by
    rw [List.range_succ, List.map_append, List.sum_append, sum_smB f n]
    simp [smB]
theorem fil_smB (p : Nat → Bool) : ∀ n, ((List.range n).filter p).length = smB (fun i => if p i = true then 1 else 0) n
  | 0 => rfl
  | n + 1 => by
    rw [List.range_succ, List.filter_append, List.length_append, fil_smB p n]
    show smB _ n + (List.filter p [n]).length = smB _ n + (if p n = true then 1 else 0)
    congr 1
    by_cases h : p n = true
    · simp [h]
    · simp [h]
theorem smB_upd {f g : Nat → Nat} {k d : Nat} : ∀ n, k < n → (∀ i, i < n → i ≠ k → g i = f i) → g k = f k + d → smB g n = smB f n + d
  | 0, h, _, _ => by omega
  | n + 1, h, h1, h2 => by
    unfold smB
    by_cases e : k = n
    · subst e
      rw [smB_congr (f := g) (g := f) k (fun i hi => h1 i (by omega) (by omega)), h2]
      omega
    · rw [smB_upd n (by omega) (fun i hi he => h1 i (by omega) he) h2, h1 n (by omega) (by omega)]
      omega
theorem cntS_eq (x : VM) : cntS x = smB (fun h => smB (fun w => if x.2.1 103 h w = -1 then 0 else 1) 40) (x.2.2.2 1) := by
  unfold cntS
  rw [sum_smB]
  refine smB_congr _ (fun h _ => ?_)
  rw [fil_smB]
  refine smB_congr _ (fun w _ => ?_)
  by_cases e : x.2.1 103 h w = -1
  · simp [e]
  · simp [e]
theorem cntS_set {x : VM} {h w : Nat} {p : Int32} (h1 : h < x.2.2.2 1) (hw : w < 40) (hz : x.2.1 103 h w = -1) (hp : ¬ p = -1) : cntS (setA x 103 h (upd (x.2.1 103 h) w p)) = cntS x + 1 := by
  rw [cntS_eq, cntS_eq]
  refine smB_upd (k := h) _ h1 (fun i _ hi => ?_) ?_
  · rw [sA_n hi]
  · refine smB_upd (k := w) _ hw (fun i _ hi => ?_) ?_
    · rw [sA_s, u_n hi]
    · rw [sA_s, pk_us, if_neg hp, if_pos hz]
theorem hal_set {x m : VM} {h w i : Nat} (hh : IHal x m) (hw : w < 40) (hi : i < x.2.2.2 5) : IHal (setA x 103 h (upd (x.2.1 103 h) w (nI i))) (setA m 1264 0 (upd (m.2.1 1264 0) (40 * h + w) (nI i))) := by
  intro h' hh'
  obtain ⟨a1, a2, a3, a4, a5⟩ := hh h' hh'
  refine ⟨a1, a2, a3, a4, fun w' hw' => ?_⟩
  obtain ⟨b1, b2⟩ := a5 w' hw'
  exact ⟨pakA (fun a b => a = b ∧ (b = -1 ∨ ∃ p, p < x.2.2.2 5 ∧ b = nI p)) b1 ⟨rfl, Or.inr ⟨i, hi, rfl⟩⟩ hw' hw, b2⟩
theorem ha0_set {x m : VM} {h w : Nat} {v : Int32} (hh : IHa0 x m) (h1 : h < x.2.2.2 1) (hw : w < 40) : IHa0 x (setA m 1264 0 (upd (m.2.1 1264 0) (40 * h + w) v)) := by
  intro h' hh' h6
  obtain ⟨a1, a2⟩ := hh h' hh' h6
  exact ⟨a1, fun w' hw' => ⟨(u_n (by omega)).trans (a2 w' hw').1, (a2 w' hw').2⟩⟩
theorem s_book : S_book Inv := by
  intro x m p q r hI
  show Sm Inv _ _
  unfold f_X11_book f_X12_book f_X11_isHallWeek
  have t39 : (39 : Int32).toInt = 39 := rfl
  rcases c_hal hI q with ⟨e1, e2⟩ | ⟨h, h1, h2, rfl, e1, e2⟩
  · rcases c_pic hI p with ⟨f1, f2⟩ | ⟨i, i1, i2, rfl, f1, f2⟩
    · rw [e1, e2, f2]; exact Sm.mk rfl (hI.ref1 0)
    · rw [e1, e2, f2]; exact Sm.mk rfl (hI.ref1 0)
  · rcases c_pic hI p with ⟨f1, f2⟩ | ⟨i, i1, i2, rfl, f1, f2⟩
    · rw [e1, e2, f1, f2]; exact Sm.mk rfl (hI.ref1 0)
    · rw [e1, e2, f1, f2]
      rcases ar r 0 39 (by decide) with g | g | ⟨w, w1, w2, rfl⟩
      · simp (disch := omega) only [Int32.lt_iff_toInt_lt, Int32.le_iff_toInt_le, i32eq, tI, t_0, t_1, t_2, t_3, t_4, t_5, t_6, t_7, t_8, t_9, t_10, t_16, t_31, t_40, t_48, t_50, t_52, t_57, t_60, t_61, t_64, t_90, t_99, t_100, t_108, t_112, t_114, t_115, t_119, t_121, t_200, t_256, t_364, t_400, t_480, t_960, t_999, t_1000, t_4000, t_99999, t_1000000000, t_2147483647, t_m1, t_m2, t_m3, t_m4, t_m5, t_m6, t_m7, t_m1000, nI_clamp, inb_T, Option.elim_some, Option.elim_none, if_pos, if_neg, rfx1, rfm1, rfx2, rfm2, rfx3, rfm3, rfx4, rfm4, rfx5, rfm5, rfx6, rfm6, rfx7, rfm7, nI_add, pk_mul, lm_2, lm_4, lm_5, lm_7, lm_8, lm_10, lm_40, lm_60, lm_61, lm_364, lm_1000, la_1, al_1, la_10, al_10, la_11, al_11, la_100, al_100, la_364, al_364, d8, m8, ↓reduceIte, rA1, rA3, rI2, rJ1, rJ2, rJ4, rN1, rN2, rN3, rAs, rIs, rJs, rAn, rIn, rJn, t39]; exact Sm.mk rfl (hI.ref1 5)
      · simp (disch := omega) only [Int32.lt_iff_toInt_lt, Int32.le_iff_toInt_le, i32eq, tI, t_0, t_1, t_2, t_3, t_4, t_5, t_6, t_7, t_8, t_9, t_10, t_16, t_31, t_40, t_48, t_50, t_52, t_57, t_60, t_61, t_64, t_90, t_99, t_100, t_108, t_112, t_114, t_115, t_119, t_121, t_200, t_256, t_364, t_400, t_480, t_960, t_999, t_1000, t_4000, t_99999, t_1000000000, t_2147483647, t_m1, t_m2, t_m3, t_m4, t_m5, t_m6, t_m7, t_m1000, nI_clamp, inb_T, Option.elim_some, Option.elim_none, if_pos, if_neg, rfx1, rfm1, rfx2, rfm2, rfx3, rfm3, rfx4, rfm4, rfx5, rfm5, rfx6, rfm6, rfx7, rfm7, nI_add, pk_mul, lm_2, lm_4, lm_5, lm_7, lm_8, lm_10, lm_40, lm_60, lm_61, lm_364, lm_1000, la_1, al_1, la_10, al_10, la_11, al_11, la_100, al_100, la_364, al_364, d8, m8, ↓reduceIte, rA1, rA3, rI2, rJ1, rJ2, rJ4, rN1, rN2, rN3, rAs, rIs, rJs, rAn, rIn, rJn, t39]; exact Sm.mk rfl (hI.ref1 5)
      · obtain ⟨b, b1, b2, b3⟩ := l_may hI.bas.1 hI.cnt hI.clr hI.hal (nI i) h1 (show w < 40 by omega)
        rcases b3 with rfl | ⟨rfl, b3⟩
        · simp (disch := omega) only [Int32.lt_iff_toInt_lt, Int32.le_iff_toInt_le, i32eq, tI, t_0, t_1, t_2, t_3, t_4, t_5, t_6, t_7, t_8, t_9, t_10, t_16, t_31, t_40, t_48, t_50, t_52, t_57, t_60, t_61, t_64, t_90, t_99, t_100, t_108, t_112, t_114, t_115, t_119, t_121, t_200, t_256, t_364, t_400, t_480, t_960, t_999, t_1000, t_4000, t_99999, t_1000000000, t_2147483647, t_m1, t_m2, t_m3, t_m4, t_m5, t_m6, t_m7, t_m1000, nI_clamp, inb_T, Option.elim_some, Option.elim_none, if_pos, if_neg, rfx1, rfm1, rfx2, rfm2, rfx3, rfm3, rfx4, rfm4, rfx5, rfm5, rfx6, rfm6, rfx7, rfm7, nI_add, pk_mul, lm_2, lm_4, lm_5, lm_7, lm_8, lm_10, lm_40, lm_60, lm_61, lm_364, lm_1000, la_1, al_1, la_10, al_10, la_11, al_11, la_100, al_100, la_364, al_364, d8, m8, ↓reduceIte, rA1, rA3, rI2, rJ1, rJ2, rJ4, rN1, rN2, rN3, rAs, rIs, rJs, rAn, rIn, rJn, t39, b1, b2]; exact Sm.mk rfl (hI.ref1 5)
        · simp (disch := omega) only [Int32.lt_iff_toInt_lt, Int32.le_iff_toInt_le, i32eq, tI, t_0, t_1, t_2, t_3, t_4, t_5, t_6, t_7, t_8, t_9, t_10, t_16, t_31, t_40, t_48, t_50, t_52, t_57, t_60, t_61, t_64, t_90, t_99, t_100, t_108, t_112, t_114, t_115, t_119, t_121, t_200, t_256, t_364, t_400, t_480, t_960, t_999, t_1000, t_4000, t_99999, t_1000000000, t_2147483647, t_m1, t_m2, t_m3, t_m4, t_m5, t_m6, t_m7, t_m1000, nI_clamp, inb_T, Option.elim_some, Option.elim_none, if_pos, if_neg, rfx1, rfm1, rfx2, rfm2, rfx3, rfm3, rfx4, rfm4, rfx5, rfm5, rfx6, rfm6, rfx7, rfm7, nI_add, pk_mul, lm_2, lm_4, lm_5, lm_7, lm_8, lm_10, lm_40, lm_60, lm_61, lm_364, lm_1000, la_1, al_1, la_10, al_10, la_11, al_11, la_100, al_100, la_364, al_364, d8, m8, ↓reduceIte, rA1, rA3, rI2, rJ1, rJ2, rJ4, rN1, rN2, rN3, rAs, rIs, rJs, rAn, rIn, rJn, t39, b1, b2]
          have ne : ¬ nI i = -1 := by rw [i32eq, tI (by omega), t_m1]; omega
          refine Sm.mk rfl ⟨hI.bas, hI.cnt, hI.now, hI.pur, hI.clr, hI.fau, hI.cod, hI.sha, hI.fee, hI.law, hI.she, hI.per, hI.pe0, hI.pic, hI.ord, hI.dra, hI.pi0, hI.sce, hI.sc0, (hal_set hI.hal (by omega) i1), (ha0_set hI.ha0 h1 (by omega)), (?_), hI.pla, hI.cac, hI.ref⟩
          show m.1 1210 0 + 1 = nI (cntS (setA x 103 h (upd (x.2.1 103 h) w (nI i))))
          rw [cntS_set h1 (by omega) b3 ne, show m.1 1210 0 = nI (cntS x) from hI.shw, nI_1]
