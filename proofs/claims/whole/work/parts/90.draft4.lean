def dX (w : VM) (p s z : Nat) : VM := setI (setI (setJ (setA w 511 p (va_cpy (w.2.1 1 0) (w.2.1 511 p) 0 0 z)) 510 p (va_cpy (w.2.2.1 900 s) (w.2.2.1 510 p) 0 0 z)) 512 p (nI z)) 509 p (w.1 509 p + 1)
theorem j56 {x w : VM} {p s z : Nat} {h a : Int32} {v : Int32 × VM} (p1 : p < w.2.2.2 5) (s8 : s < 8) (hz : w.1 902 s = nI z) (z60 : z ≤ 60) : j_X0_add_56 x p h s v a w = Sum.inr (some (a, dX w p s z)) := by
  unfold j_X0_add_56
  have t0 : (0 : Int32).toNatClampNeg = 0 := rfl
  simp (disch := omega) only [if_pos, rA1, rJ1, rIn, rA3, rI2, hz, spn_T, t_0, tI, nI_clamp, t0, rJ4]
  rfl
theorem dra_end {W Y : VM} {p s z : Nat} {c : Int32} {o : (Int32 × VM) ⊕ Option (Int32 × VM)} {m : VM} (hW : Inv W Y) (p1 : p < W.2.2.2 5) (p8 : p < 8) (s8 : s < 8) (z60 : z ≤ 60) (hr : ∀ j, j < 60 → Y.2.2.1 1215 0 (60 * s + j) = W.2.2.1 900 s j) (hH : ∀ j, j < z → W.2.1 1 0 j = Y.2.1 1277 0 j) (hd : ¬ W.1 509 p = 8) (he : endM m Y p s z c o) : ∃ y, o = Sum.inr (some (c, y)) ∧ Inv (dX W p s z) y := by
  obtain ⟨J, K, e1, e2, e3⟩ := he
  refine ⟨_, e1, ?_⟩
  obtain ⟨⟨d1, d2⟩, d3, d4⟩ := hW.dra p p1
  obtain ⟨k, k1, k2, k3⟩ := rng_nI (a := 0) (b := 8) d2 (by decide)
  have k8 : k < 8 := by
    rcases (show k = 8 ∨ k < 8 by omega) with e | e
    · exact absurd (by rw [k3, e]; rfl) hd
    · exact e
  refine ⟨hW.bas, hW.cnt, hW.now, hW.pur, hW.clr, hW.fau, hW.cod, hW.sha, hW.fee, hW.law, hW.she, hW.per, hW.pe0, hW.pic, hW.ord, (?_), (?_), hW.sce, hW.sc0, hW.hal, hW.ha0, hW.shw, hW.pla, hW.cac, hW.ref⟩
  · intro q hq
    have hq' : q < W.2.2.2 5 := hq
    by_cases e : q = p
    · subst e
      have y1 : (dX W q s z).1 509 q = nI (k + 1) := by unfold dX; rw [sI_s, k3, nI_1]
      have y2 : (dX W q s z).1 512 q = nI z := by unfold dX; rw [rIn (by decide), sI_s]
      have y3 : (dX W q s z).2.2.1 510 q = va_cpy (W.2.2.1 900 s) (W.2.2.1 510 q) 0 0 z := by unfold dX; rw [rI2, rI2, sJ_s]
      have y4 : (dX W q s z).2.1 511 q = va_cpy (W.2.1 1 0) (W.2.1 511 q) 0 0 z := by unfold dX; rw [rI2, rI2, rJ2, sA_s]
      rw [y1, y2, y3, y4]
      refine ⟨⟨?_, rng_I (a := 0) (b := 8) (by omega) (by omega) (by decide)⟩, ⟨pk_us, rng_I (a := 0) (b := 60) (by omega) z60 (by decide), fun z0 => absurd z0 (nI_ne0 (by omega) (by omega))⟩, fun j hj => ?_⟩
      · show upd (Y.2.1 1247 0) q (Y.2.1 1247 0 q + 1) q = nI (k + 1)
        rw [pk_us, d1, k3, nI_1]
      · rw [tI (by omega)] at hj
        have hj' : j < z := by omega
        show J (60 * q + j) = _ ∧ K (60 * q + j) = _
        rw [(e2 j hj').1, (e2 j hj').2, pk_cpy_in (by omega) (by omega), pk_cpy_in (by omega) (by omega), hr j (by omega), show 0 + (j - 0) = j by omega, hH j hj']
        exact ⟨rfl, rfl⟩
    · obtain ⟨a1, a2, a3⟩ := hW.dra q hq
      have y1 : (dX W p s z).1 509 q = W.1 509 q := by unfold dX; rw [sI_n e, rIn (by decide)]; rfl
      have y2 : (dX W p s z).1 512 q = W.1 512 q := by unfold dX; rw [rIn (by decide), sI_n e]; rfl
      have y3 : (dX W p s z).2.2.1 510 q = W.2.2.1 510 q := by unfold dX; rw [rI2, rI2, sJ_n e]; rfl
      have y4 : (dX W p s z).2.1 511 q = W.2.1 511 q := by unfold dX; rw [rI2, rI2, rJ2, sA_n e]
      rw [y1, y2, y3, y4]
      refine ⟨⟨(u_n e).trans a1.1, a1.2⟩, ⟨(u_n e).trans a2.1, a2.2⟩, fun j hj => ?_⟩
      have j60 : j < 60 := by have := a2.2.1.2; omega
      show J (60 * q + j) = _ ∧ K (60 * q + j) = _
      rw [(e3 (60 * q + j) (by omega)).1, (e3 (60 * q + j) (by omega)).2]
      exact a3 j hj
  · intro q hq h8
    have hq' : W.2.2.2 5 ≤ q := hq
    obtain ⟨a1, a2, a3, a4, a5, a6, a7, a8, a9⟩ := hW.pi0 q hq h8
    exact ⟨a1, a2, a3, a4, a5, a6, (u_n (by omega)).trans a7, (u_n (by omega)).trans a8, a9⟩
theorem draft_main {x m : VM} {p s : Nat} {h : Int32} (hI : Inv x m) (p1 : p < x.2.2.2 5) (p8 : p < 8) (s8 : s < 8) (hr : isRow x m s) (hd : ¬ x.1 509 p = 8) : Sm Inv (f_X0_add x p h s) (loopF none (b_X12_draft_80 m (nI p) h (nI s)) (m.2.1 1248 0 p, m)) := by
  obtain ⟨r1, r2, r3, r4, r5, r6⟩ := hr
  obtain ⟨z, z1, z60, z3⟩ := rng_nI (a := 0) (b := 60) r5 (by decide)
  obtain ⟨⟨d1, d2⟩, ⟨d3, d4, d5⟩, d6⟩ := hI.dra p p1
  obtain ⟨n, n1, n60, n3⟩ := rng_nI (a := 0) (b := 60) d4 (by decide)
  rw [n3, tI (by omega)] at d6
  have hn : m.2.1 1248 0 p = nI n := by rw [d3, n3]
  have hz : m.2.1 1213 0 s = nI z := by rw [r4, z3]
  rw [hn]
  -- the class: the new hands first
  have xfill : ∃ H0, (∀ j, j < z → H0 j = h) ∧ ∀ r, b_X0_add_6 x p h s (nI z, setA x 1 0 H0) = Sum.inr r → f_X0_add x p h s = r := by
    unfold f_X0_add
    refine lp_cnt (V := Int32 × VM) (d := none) z (fun k v => ∃ H, v = (nI k, setA x 1 0 H) ∧ ∀ j, j < k → H j = h) (fun o => ∃ H0, (∀ j, j < z → H0 j = h) ∧ ∀ r, b_X0_add_6 x p h s (nI z, setA x 1 0 H0) = Sum.inr r → o = r) ?_ ?_ 0 _ (Nat.zero_le _) ⟨x.2.1 1 0, by rw [setA_id] <;> rfl, fun j hj => by omega⟩
    · rintro k v hk ⟨H, rfl, hH⟩
      left
      have xz : (setA x 1 0 H).1 902 s = nI z := z3
      unfold b_X0_add_6
      rw [if_pos s8, xz, if_neg (by rw [Int32.le_iff_toInt_le, tI (by omega), tI (by omega)]; omega), if_pos (by rw [inb_T, tI (by omega)]; omega), nI_clamp (by omega), nI_1, sA_s, setAA]
      refine ⟨_, rfl, _, rfl, fun j hj => ?_⟩
      by_cases e : j = k
      · subst e; exact pk_us
      · rw [u_n e]; exact hH j (by omega)
    · rintro v ⟨H, rfl, hH⟩
      have : ∃ r, b_X0_add_6 x p h s (nI z, setA x 1 0 H) = Sum.inr r := by
        have xz : (setA x 1 0 H).1 902 s = nI z := z3
        have p1' : p < (setA x 1 0 H).2.2.2 5 := p1
        unfold b_X0_add_6
        rw [if_pos s8, xz, if_pos (Int32.le_refl _), if_pos p1']
        by_cases e : (setA x 1 0 H).1 509 p ≤ 0
        · rw [if_pos e, j56 p1' s8 xz z60]; exact ⟨_, rfl⟩
        · rw [if_neg e]
          obtain ⟨T, T1, T2⟩ := keepX (x := setA x 1 0 H) (p := p) (s := s) (n := n) (z := z) p1 s8 n3 n60 z3 z60
          rw [T1]
          simp only [Option.elim_some]
          cases hk : f_X0_keepHands (setA (setA x 1 0 H) 0 0 T) p s with
          | none => exact ⟨_, rfl⟩
          | some q =>
            simp only [Option.elim_some]
            unfold j_X0_add_56
            repeat' split
            all_goals exact ⟨_, rfl⟩
      obtain ⟨r, hr⟩ := this
      exact ⟨r, hr, H, hH, fun r' hr' => by rw [hr] at hr'; exact Sum.inr.inj hr'⟩
  obtain ⟨H0, hH0, hadd⟩ := xfill
  -- the reference: table, hands, walk
  refine keepM (a := x.2.2.1 510 p) (b := x.2.2.1 900 s) p8 s8 hn n60 hz z60 (fun i hi => (d6 i (by omega)).1) (fun j hj => r6 j (by omega)) (fun o => Sm Inv (f_X0_add x p h s) o) (fun T hT => ?_)
  have key : ∃ o', loopF (Sum.inr none) (b_X12_draft_282 m (nI p) h (nI s) (-1, setA m 1276 0 T)) (0, setA m 1276 0 T) = Sum.inr o' ∧ Sm Inv (f_X0_add x p h s) o' := by
    refine handM (y := setA m 1276 0 T) (v17 := (-1, setA m 1276 0 T)) hz s8 z60 (fun q => ∃ o', q = Sum.inr o' ∧ Sm Inv (f_X0_add x p h s) o') (fun H hH => ?_)
    have xz : (setA x 1 0 H0).1 902 s = nI z := z3
    have p1' : p < (setA x 1 0 H0).2.2.2 5 := p1
    by_cases e : x.1 509 p ≤ 0
    · -- the first draft
      have n0 : n = 0 := by
        have : x.1 509 p = 0 := by
          rw [Int32.le_iff_toInt_le, t_0] at e
          have := d2.1
          rw [i32eq, t_0]; omega
        have := d5 this
        rw [n3] at this
        exact (nI_eq (by omega) (by omega)).mp this
      obtain ⟨o, o1, o2⟩ := exitM (m := m) (h := h) (y := setA (setA m 1276 0 T) 1277 0 H) (v17 := (-1, setA m 1276 0 T)) (v19 := (nI z, setA (setA m 1276 0 T) 1277 0 H)) (i := 0) (j := 0) (k := 0) p8 s8 hn n60 hz z60 (by omega) (by omega) (Or.inl n0.symm)
      have hJ : Inv (setA x 1 0 H0) (setA (setA m 1276 0 T) 1277 0 H) := ⟨hI.bas, hI.cnt, hI.now, hI.pur, hI.clr, hI.fau, hI.cod, hI.sha, hI.fee, hI.law, hI.she, hI.per, hI.pe0, hI.pic, hI.ord, hI.dra, hI.pi0, hI.sce, hI.sc0, hI.hal, hI.ha0, hI.shw, hI.pla, hI.cac, hI.ref⟩
      obtain ⟨y, y1, y2⟩ := dra_end hJ p1 p8 s8 z60 r6 (fun j hj => by rw [rAs, rAs, hH0 j hj, hH j hj]) hd o2
      refine ⟨o, lp_inr o1, _, y1, ?_⟩
      have ex : f_X0_add x p h s = some (0, dX (setA x 1 0 H0) p s z) := by
        apply hadd
        unfold b_X0_add_6
        have e' : (setA x 1 0 H0).1 509 p ≤ 0 := e
        rw [if_pos s8, xz, if_pos (Int32.le_refl _), if_pos p1', if_pos e', j56 p1' s8 xz z60]
      rw [ex]
      exact Sm.mk rfl y2
    · obtain ⟨T', T1, T2⟩ := keepX (x := setA x 1 0 H0) (p := p) (s := s) (n := n) (z := z) p1 s8 n3 n60 z3 z60
      obtain ⟨Hx, Hm, o, w1, w2, w3, w4⟩ := walkXM (m := m) (h := h) (x2 := setA (setA x 1 0 H0) 0 0 T') (m2 := setA (setA m 1276 0 T) 1277 0 H) (v17 := (-1, setA m 1276 0 T)) (v19 := (nI z, setA (setA m 1276 0 T) 1277 0 H)) (a := x.2.2.1 510 p) (b := x.2.2.1 900 s) (n := n) (z := z) p1 p8 s8 hn n60 hz z60 n3 z3 rfl rfl (fun i hi => (d6 i (by omega)).1) (fun j hj => r6 j (by omega)) (fun i hi => (d6 i (by omega)).2) (fun i j hi hj => by rw [rAs]; exact T2 i j hi hj) (fun i j hi hj => by rw [rAn (by decide), rAs]; exact hT i j hi hj) (fun j hj => by rw [rAn (by decide), rAs, rAs, hH0 j hj, hH j hj])
      have hJ : Inv (setA (setA (setA x 1 0 H0) 0 0 T') 1 0 Hx) (setA (setA (setA m 1276 0 T) 1277 0 H) 1277 0 Hm) := ⟨hI.bas, hI.cnt, hI.now, hI.pur, hI.clr, hI.fau, hI.cod, hI.sha, hI.fee, hI.law, hI.she, hI.per, hI.pe0, hI.pic, hI.ord, hI.dra, hI.pi0, hI.sce, hI.sc0, hI.hal, hI.ha0, hI.shw, hI.pla, hI.cac, hI.ref⟩
      obtain ⟨y, y1, y2⟩ := dra_end hJ p1 p8 s8 z60 r6 (fun j hj => by rw [rAs, rAs]; exact w4 j hj) hd w3
      refine ⟨o, w2, _, y1, ?_⟩
      have ex : f_X0_add x p h s = some (nI (Lr (x.2.2.1 510 p) (x.2.2.1 900 s) n z 0 0), dX (setA (setA (setA x 1 0 H0) 0 0 T') 1 0 Hx) p s z) := by
        apply hadd
        unfold b_X0_add_6
        have e' : ¬ (setA x 1 0 H0).1 509 p ≤ 0 := e
        have p2 : p < (setA (setA (setA x 1 0 H0) 0 0 T') 1 0 Hx).2.2.2 5 := p1
        have xz2 : (setA (setA (setA x 1 0 H0) 0 0 T') 1 0 Hx).1 902 s = nI z := z3
        have t0 : (0 : Int32).toNatClampNeg = 61 * 0 + 0 := rfl
        rw [if_pos s8, xz, if_pos (Int32.le_refl _), if_pos p1', if_neg e', T1]
        simp only [Option.elim_some, w1]
        rw [j56 p2 s8 xz2 z60, rAn (by decide), rAs, t0, T2 0 0 (by omega) (by omega)]
        rfl
      rw [ex]
      exact Sm.mk rfl y2
  obtain ⟨o', k1, k2⟩ := key
  exact ⟨o', k1, k2⟩
theorem s_draft : S_draft Inv := by
  intro x m p q r hI
  show Sm Inv _ _
  unfold f_X11_draft f_X12_draft
  rcases c_pic hI p with ⟨e1, e2⟩ | ⟨i, i1, i2, rfl, e1, e2⟩
  · rw [e1, e2]
    rcases c_row hI r with ⟨f1, f2, f3⟩ | ⟨s, s8, rfl, f3, h | h | h⟩
    · rw [f1]; exact Sm.mk rfl (hI.ref1 0)
    · rw [h.1]; exact Sm.mk rfl (hI.ref1 0)
    · rw [h.1]; exact Sm.mk rfl (hI.ref1 0)
    · rw [h.1]; exact Sm.mk rfl (hI.ref1 0)
  · rw [e1, e2]
    rcases ar q 0 5 (by decide) with g | g | ⟨k, k1, k2, rfl⟩
    · rcases c_row hI r with ⟨f1, f2, f3⟩ | ⟨s, s8, rfl, f3, h | h | h⟩
      · simp (disch := omega) only [Int32.lt_iff_toInt_lt, Int32.le_iff_toInt_le, i32eq, tI, t_0, t_1, t_2, t_3, t_4, t_5, t_6, t_7, t_8, t_9, t_10, t_16, t_31, t_40, t_48, t_50, t_52, t_57, t_60, t_61, t_64, t_90, t_99, t_100, t_108, t_112, t_114, t_115, t_119, t_121, t_200, t_256, t_364, t_400, t_480, t_960, t_999, t_1000, t_4000, t_99999, t_1000000000, t_2147483647, t_m1, t_m2, t_m3, t_m4, t_m5, t_m6, t_m7, t_m1000, nI_clamp, inb_T, Option.elim_some, Option.elim_none, if_pos, if_neg, rfx1, rfm1, rfx2, rfm2, rfx3, rfm3, rfx4, rfm4, rfx5, rfm5, rfx6, rfm6, rfx7, rfm7, nI_add, pk_mul, lm_2, lm_4, lm_5, lm_7, lm_8, lm_10, lm_40, lm_60, lm_61, lm_364, lm_1000, la_1, al_1, la_10, al_10, la_11, al_11, la_100, al_100, la_364, al_364, d8, m8, ↓reduceIte, rA1, rA3, rI2, rJ1, rJ2, rJ4, rN1, rN2, rN3, rAs, rIs, rJs, rAn, rIn, rJn, f1]; exact Sm.mk rfl (hI.ref1 0)
      · simp (disch := omega) only [Int32.lt_iff_toInt_lt, Int32.le_iff_toInt_le, i32eq, tI, t_0, t_1, t_2, t_3, t_4, t_5, t_6, t_7, t_8, t_9, t_10, t_16, t_31, t_40, t_48, t_50, t_52, t_57, t_60, t_61, t_64, t_90, t_99, t_100, t_108, t_112, t_114, t_115, t_119, t_121, t_200, t_256, t_364, t_400, t_480, t_960, t_999, t_1000, t_4000, t_99999, t_1000000000, t_2147483647, t_m1, t_m2, t_m3, t_m4, t_m5, t_m6, t_m7, t_m1000, nI_clamp, inb_T, Option.elim_some, Option.elim_none, if_pos, if_neg, rfx1, rfm1, rfx2, rfm2, rfx3, rfm3, rfx4, rfm4, rfx5, rfm5, rfx6, rfm6, rfx7, rfm7, nI_add, pk_mul, lm_2, lm_4, lm_5, lm_7, lm_8, lm_10, lm_40, lm_60, lm_61, lm_364, lm_1000, la_1, al_1, la_10, al_10, la_11, al_11, la_100, al_100, la_364, al_364, d8, m8, ↓reduceIte, rA1, rA3, rI2, rJ1, rJ2, rJ4, rN1, rN2, rN3, rAs, rIs, rJs, rAn, rIn, rJn, h.1]; exact Sm.mk rfl (hI.ref1 0)
      · simp (disch := omega) only [Int32.lt_iff_toInt_lt, Int32.le_iff_toInt_le, i32eq, tI, t_0, t_1, t_2, t_3, t_4, t_5, t_6, t_7, t_8, t_9, t_10, t_16, t_31, t_40, t_48, t_50, t_52, t_57, t_60, t_61, t_64, t_90, t_99, t_100, t_108, t_112, t_114, t_115, t_119, t_121, t_200, t_256, t_364, t_400, t_480, t_960, t_999, t_1000, t_4000, t_99999, t_1000000000, t_2147483647, t_m1, t_m2, t_m3, t_m4, t_m5, t_m6, t_m7, t_m1000, nI_clamp, inb_T, Option.elim_some, Option.elim_none, if_pos, if_neg, rfx1, rfm1, rfx2, rfm2, rfx3, rfm3, rfx4, rfm4, rfx5, rfm5, rfx6, rfm6, rfx7, rfm7, nI_add, pk_mul, lm_2, lm_4, lm_5, lm_7, lm_8, lm_10, lm_40, lm_60, lm_61, lm_364, lm_1000, la_1, al_1, la_10, al_10, la_11, al_11, la_100, al_100, la_364, al_364, d8, m8, ↓reduceIte, rA1, rA3, rI2, rJ1, rJ2, rJ4, rN1, rN2, rN3, rAs, rIs, rJs, rAn, rIn, rJn, h.1]; exact Sm.mk rfl (hI.ref1 0)
      · simp (disch := omega) only [Int32.lt_iff_toInt_lt, Int32.le_iff_toInt_le, i32eq, tI, t_0, t_1, t_2, t_3, t_4, t_5, t_6, t_7, t_8, t_9, t_10, t_16, t_31, t_40, t_48, t_50, t_52, t_57, t_60, t_61, t_64, t_90, t_99, t_100, t_108, t_112, t_114, t_115, t_119, t_121, t_200, t_256, t_364, t_400, t_480, t_960, t_999, t_1000, t_4000, t_99999, t_1000000000, t_2147483647, t_m1, t_m2, t_m3, t_m4, t_m5, t_m6, t_m7, t_m1000, nI_clamp, inb_T, Option.elim_some, Option.elim_none, if_pos, if_neg, rfx1, rfm1, rfx2, rfm2, rfx3, rfm3, rfx4, rfm4, rfx5, rfm5, rfx6, rfm6, rfx7, rfm7, nI_add, pk_mul, lm_2, lm_4, lm_5, lm_7, lm_8, lm_10, lm_40, lm_60, lm_61, lm_364, lm_1000, la_1, al_1, la_10, al_10, la_11, al_11, la_100, al_100, la_364, al_364, d8, m8, ↓reduceIte, rA1, rA3, rI2, rJ1, rJ2, rJ4, rN1, rN2, rN3, rAs, rIs, rJs, rAn, rIn, rJn, h.1]; exact Sm.mk rfl (hI.ref1 0)
    · rcases c_row hI r with ⟨f1, f2, f3⟩ | ⟨s, s8, rfl, f3, h | h | h⟩
      · simp (disch := omega) only [Int32.lt_iff_toInt_lt, Int32.le_iff_toInt_le, i32eq, tI, t_0, t_1, t_2, t_3, t_4, t_5, t_6, t_7, t_8, t_9, t_10, t_16, t_31, t_40, t_48, t_50, t_52, t_57, t_60, t_61, t_64, t_90, t_99, t_100, t_108, t_112, t_114, t_115, t_119, t_121, t_200, t_256, t_364, t_400, t_480, t_960, t_999, t_1000, t_4000, t_99999, t_1000000000, t_2147483647, t_m1, t_m2, t_m3, t_m4, t_m5, t_m6, t_m7, t_m1000, nI_clamp, inb_T, Option.elim_some, Option.elim_none, if_pos, if_neg, rfx1, rfm1, rfx2, rfm2, rfx3, rfm3, rfx4, rfm4, rfx5, rfm5, rfx6, rfm6, rfx7, rfm7, nI_add, pk_mul, lm_2, lm_4, lm_5, lm_7, lm_8, lm_10, lm_40, lm_60, lm_61, lm_364, lm_1000, la_1, al_1, la_10, al_10, la_11, al_11, la_100, al_100, la_364, al_364, d8, m8, ↓reduceIte, rA1, rA3, rI2, rJ1, rJ2, rJ4, rN1, rN2, rN3, rAs, rIs, rJs, rAn, rIn, rJn, f1]; exact Sm.mk rfl (hI.ref1 0)
      · simp (disch := omega) only [Int32.lt_iff_toInt_lt, Int32.le_iff_toInt_le, i32eq, tI, t_0, t_1, t_2, t_3, t_4, t_5, t_6, t_7, t_8, t_9, t_10, t_16, t_31, t_40, t_48, t_50, t_52, t_57, t_60, t_61, t_64, t_90, t_99, t_100, t_108, t_112, t_114, t_115, t_119, t_121, t_200, t_256, t_364, t_400, t_480, t_960, t_999, t_1000, t_4000, t_99999, t_1000000000, t_2147483647, t_m1, t_m2, t_m3, t_m4, t_m5, t_m6, t_m7, t_m1000, nI_clamp, inb_T, Option.elim_some, Option.elim_none, if_pos, if_neg, rfx1, rfm1, rfx2, rfm2, rfx3, rfm3, rfx4, rfm4, rfx5, rfm5, rfx6, rfm6, rfx7, rfm7, nI_add, pk_mul, lm_2, lm_4, lm_5, lm_7, lm_8, lm_10, lm_40, lm_60, lm_61, lm_364, lm_1000, la_1, al_1, la_10, al_10, la_11, al_11, la_100, al_100, la_364, al_364, d8, m8, ↓reduceIte, rA1, rA3, rI2, rJ1, rJ2, rJ4, rN1, rN2, rN3, rAs, rIs, rJs, rAn, rIn, rJn, h.1]; exact Sm.mk rfl (hI.ref1 0)
      · simp (disch := omega) only [Int32.lt_iff_toInt_lt, Int32.le_iff_toInt_le, i32eq, tI, t_0, t_1, t_2, t_3, t_4, t_5, t_6, t_7, t_8, t_9, t_10, t_16, t_31, t_40, t_48, t_50, t_52, t_57, t_60, t_61, t_64, t_90, t_99, t_100, t_108, t_112, t_114, t_115, t_119, t_121, t_200, t_256, t_364, t_400, t_480, t_960, t_999, t_1000, t_4000, t_99999, t_1000000000, t_2147483647, t_m1, t_m2, t_m3, t_m4, t_m5, t_m6, t_m7, t_m1000, nI_clamp, inb_T, Option.elim_some, Option.elim_none, if_pos, if_neg, rfx1, rfm1, rfx2, rfm2, rfx3, rfm3, rfx4, rfm4, rfx5, rfm5, rfx6, rfm6, rfx7, rfm7, nI_add, pk_mul, lm_2, lm_4, lm_5, lm_7, lm_8, lm_10, lm_40, lm_60, lm_61, lm_364, lm_1000, la_1, al_1, la_10, al_10, la_11, al_11, la_100, al_100, la_364, al_364, d8, m8, ↓reduceIte, rA1, rA3, rI2, rJ1, rJ2, rJ4, rN1, rN2, rN3, rAs, rIs, rJs, rAn, rIn, rJn, h.1]; exact Sm.mk rfl (hI.ref1 0)
      · simp (disch := omega) only [Int32.lt_iff_toInt_lt, Int32.le_iff_toInt_le, i32eq, tI, t_0, t_1, t_2, t_3, t_4, t_5, t_6, t_7, t_8, t_9, t_10, t_16, t_31, t_40, t_48, t_50, t_52, t_57, t_60, t_61, t_64, t_90, t_99, t_100, t_108, t_112, t_114, t_115, t_119, t_121, t_200, t_256, t_364, t_400, t_480, t_960, t_999, t_1000, t_4000, t_99999, t_1000000000, t_2147483647, t_m1, t_m2, t_m3, t_m4, t_m5, t_m6, t_m7, t_m1000, nI_clamp, inb_T, Option.elim_some, Option.elim_none, if_pos, if_neg, rfx1, rfm1, rfx2, rfm2, rfx3, rfm3, rfx4, rfm4, rfx5, rfm5, rfx6, rfm6, rfx7, rfm7, nI_add, pk_mul, lm_2, lm_4, lm_5, lm_7, lm_8, lm_10, lm_40, lm_60, lm_61, lm_364, lm_1000, la_1, al_1, la_10, al_10, la_11, al_11, la_100, al_100, la_364, al_364, d8, m8, ↓reduceIte, rA1, rA3, rI2, rJ1, rJ2, rJ4, rN1, rN2, rN3, rAs, rIs, rJs, rAn, rIn, rJn, h.1]; exact Sm.mk rfl (hI.ref1 0)
    · rcases c_row hI r with ⟨f1, f2, f3⟩ | ⟨s, s8, rfl, f3, h | h | h⟩
      · simp (disch := omega) only [Int32.lt_iff_toInt_lt, Int32.le_iff_toInt_le, i32eq, tI, t_0, t_1, t_2, t_3, t_4, t_5, t_6, t_7, t_8, t_9, t_10, t_16, t_31, t_40, t_48, t_50, t_52, t_57, t_60, t_61, t_64, t_90, t_99, t_100, t_108, t_112, t_114, t_115, t_119, t_121, t_200, t_256, t_364, t_400, t_480, t_960, t_999, t_1000, t_4000, t_99999, t_1000000000, t_2147483647, t_m1, t_m2, t_m3, t_m4, t_m5, t_m6, t_m7, t_m1000, nI_clamp, inb_T, Option.elim_some, Option.elim_none, if_pos, if_neg, rfx1, rfm1, rfx2, rfm2, rfx3, rfm3, rfx4, rfm4, rfx5, rfm5, rfx6, rfm6, rfx7, rfm7, nI_add, pk_mul, lm_2, lm_4, lm_5, lm_7, lm_8, lm_10, lm_40, lm_60, lm_61, lm_364, lm_1000, la_1, al_1, la_10, al_10, la_11, al_11, la_100, al_100, la_364, al_364, d8, m8, ↓reduceIte, rA1, rA3, rI2, rJ1, rJ2, rJ4, rN1, rN2, rN3, rAs, rIs, rJs, rAn, rIn, rJn, f1, f2]; exact Sm.mk rfl (hI.ref1 0)
      · simp (disch := omega) only [Int32.lt_iff_toInt_lt, Int32.le_iff_toInt_le, i32eq, tI, t_0, t_1, t_2, t_3, t_4, t_5, t_6, t_7, t_8, t_9, t_10, t_16, t_31, t_40, t_48, t_50, t_52, t_57, t_60, t_61, t_64, t_90, t_99, t_100, t_108, t_112, t_114, t_115, t_119, t_121, t_200, t_256, t_364, t_400, t_480, t_960, t_999, t_1000, t_4000, t_99999, t_1000000000, t_2147483647, t_m1, t_m2, t_m3, t_m4, t_m5, t_m6, t_m7, t_m1000, nI_clamp, inb_T, Option.elim_some, Option.elim_none, if_pos, if_neg, rfx1, rfm1, rfx2, rfm2, rfx3, rfm3, rfx4, rfm4, rfx5, rfm5, rfx6, rfm6, rfx7, rfm7, nI_add, pk_mul, lm_2, lm_4, lm_5, lm_7, lm_8, lm_10, lm_40, lm_60, lm_61, lm_364, lm_1000, la_1, al_1, la_10, al_10, la_11, al_11, la_100, al_100, la_364, al_364, d8, m8, ↓reduceIte, rA1, rA3, rI2, rJ1, rJ2, rJ4, rN1, rN2, rN3, rAs, rIs, rJs, rAn, rIn, rJn, h.1, h.2.1]; exact Sm.mk rfl (hI.ref1 1)
      · simp (disch := omega) only [Int32.lt_iff_toInt_lt, Int32.le_iff_toInt_le, i32eq, tI, t_0, t_1, t_2, t_3, t_4, t_5, t_6, t_7, t_8, t_9, t_10, t_16, t_31, t_40, t_48, t_50, t_52, t_57, t_60, t_61, t_64, t_90, t_99, t_100, t_108, t_112, t_114, t_115, t_119, t_121, t_200, t_256, t_364, t_400, t_480, t_960, t_999, t_1000, t_4000, t_99999, t_1000000000, t_2147483647, t_m1, t_m2, t_m3, t_m4, t_m5, t_m6, t_m7, t_m1000, nI_clamp, inb_T, Option.elim_some, Option.elim_none, if_pos, if_neg, rfx1, rfm1, rfx2, rfm2, rfx3, rfm3, rfx4, rfm4, rfx5, rfm5, rfx6, rfm6, rfx7, rfm7, nI_add, pk_mul, lm_2, lm_4, lm_5, lm_7, lm_8, lm_10, lm_40, lm_60, lm_61, lm_364, lm_1000, la_1, al_1, la_10, al_10, la_11, al_11, la_100, al_100, la_364, al_364, d8, m8, ↓reduceIte, rA1, rA3, rI2, rJ1, rJ2, rJ4, rN1, rN2, rN3, rAs, rIs, rJs, rAn, rIn, rJn, h.1, h.2.1]; exact Sm.mk rfl (hI.ref1 2)
      · obtain ⟨⟨d1, d2⟩, _⟩ := hI.dra i i1
        obtain ⟨c, c1, c2, c3⟩ := rng_nI (a := 0) (b := 8) d2 (by decide)
        rcases (show c = 8 ∨ c < 8 by omega) with ec | ec
        · simp (disch := omega) only [Int32.lt_iff_toInt_lt, Int32.le_iff_toInt_le, i32eq, tI, t_0, t_1, t_2, t_3, t_4, t_5, t_6, t_7, t_8, t_9, t_10, t_16, t_31, t_40, t_48, t_50, t_52, t_57, t_60, t_61, t_64, t_90, t_99, t_100, t_108, t_112, t_114, t_115, t_119, t_121, t_200, t_256, t_364, t_400, t_480, t_960, t_999, t_1000, t_4000, t_99999, t_1000000000, t_2147483647, t_m1, t_m2, t_m3, t_m4, t_m5, t_m6, t_m7, t_m1000, nI_clamp, inb_T, Option.elim_some, Option.elim_none, if_pos, if_neg, rfx1, rfm1, rfx2, rfm2, rfx3, rfm3, rfx4, rfm4, rfx5, rfm5, rfx6, rfm6, rfx7, rfm7, nI_add, pk_mul, lm_2, lm_4, lm_5, lm_7, lm_8, lm_10, lm_40, lm_60, lm_61, lm_364, lm_1000, la_1, al_1, la_10, al_10, la_11, al_11, la_100, al_100, la_364, al_364, d8, m8, ↓reduceIte, rA1, rA3, rI2, rJ1, rJ2, rJ4, rN1, rN2, rN3, rAs, rIs, rJs, rAn, rIn, rJn, h.1, h.2.1, d1, c3]; exact Sm.mk rfl (hI.ref1 6)
        · have hd : ¬ x.1 509 i = 8 := by rw [i32eq, c3, tI (by omega), t_8]; omega
          obtain ⟨v, x', m', v1, v2, v3⟩ := draft_main (h := nI k) hI i1 i2 s8 h.2.2 hd
          simp (disch := omega) only [Int32.lt_iff_toInt_lt, Int32.le_iff_toInt_le, i32eq, tI, t_0, t_1, t_2, t_3, t_4, t_5, t_6, t_7, t_8, t_9, t_10, t_16, t_31, t_40, t_48, t_50, t_52, t_57, t_60, t_61, t_64, t_90, t_99, t_100, t_108, t_112, t_114, t_115, t_119, t_121, t_200, t_256, t_364, t_400, t_480, t_960, t_999, t_1000, t_4000, t_99999, t_1000000000, t_2147483647, t_m1, t_m2, t_m3, t_m4, t_m5, t_m6, t_m7, t_m1000, nI_clamp, inb_T, Option.elim_some, Option.elim_none, if_pos, if_neg, rfx1, rfm1, rfx2, rfm2, rfx3, rfm3, rfx4, rfm4, rfx5, rfm5, rfx6, rfm6, rfx7, rfm7, nI_add, pk_mul, lm_2, lm_4, lm_5, lm_7, lm_8, lm_10, lm_40, lm_60, lm_61, lm_364, lm_1000, la_1, al_1, la_10, al_10, la_11, al_11, la_100, al_100, la_364, al_364, d8, m8, ↓reduceIte, rA1, rA3, rI2, rJ1, rJ2, rJ4, rN1, rN2, rN3, rAs, rIs, rJs, rAn, rIn, rJn, h.1, h.2.1, d1, c3, v1, v2]
          exact Sm.mk rfl v3
