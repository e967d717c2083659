/-! a new scene -/
theorem s_u2 : ∀ n, n < 32 → (((nI n).toUInt32 &&& Int32.toUInt32 31).toBitVec % 32).toNat = n := by decide +kernel
theorem shl1 : ∀ N, N < 31 → (1 : Int32) <<< (nI N &&& 31) = nI (2 ^ N) := by decide +kernel
theorem neg_tn {p : Int32} (h : p.toInt < 0) : 2147483648 ≤ p.toBitVec.toNat := by
  have e : p.toInt = p.toBitVec.toInt := rfl
  rw [e, BitVec.toInt_eq_toNat_cond] at h
  have := p.toBitVec.isLt
  split at h <;> omega
theorem hbb (x : VM) (p : Int32) {N : Nat} (hN : N ≤ 16) : (p.toInt < 0 ∧ f_X11_hasBitBeyond x p (nI N) = some 1) ∨ ((2 ^ N : Nat) ≤ p.toInt ∧ f_X11_hasBitBeyond x p (nI N) = some 1) ∨ ∃ k, k < 2 ^ N ∧ p = nI k ∧ f_X11_hasBitBeyond x p (nI N) = some 0 := by
  have h16 : 2 ^ N ≤ 65536 := Nat.pow_le_pow_right (by decide) hN
  have h0 := Nat.two_pow_pos N
  unfold f_X11_hasBitBeyond
  rcases ix p (2 ^ N) (by omega) with h | h | ⟨k, h1, rfl⟩
  · left
    refine ⟨h, if_neg (fun z => ?_)⟩
    have e := pk_ushr p (nI N) N (s_u2 N (by omega))
    rw [z] at e
    have h2 := neg_tn h
    have h3 : 1 ≤ p.toBitVec.toNat / 2 ^ N := (Nat.le_div_iff_mul_le (Nat.two_pow_pos N)).mpr (by omega)
    have h4 : (0 : Int32).toBitVec.toNat = 0 := rfl
    omega
  · right; left
    refine ⟨h, ?_⟩
    rcases ix p 2147483647 (by decide) with h5 | h5 | ⟨k, h1, rfl⟩
    · omega
    · have e : p = nI 2147483647 := by
        have := Int32.toInt_lt p
        rw [i32eq, tI (by decide)]; omega
      rw [e, pk_ushrN (by decide) (nI N) N (s_u2 N (by omega)), if_neg]
      have h6 : 1 ≤ 2147483647 / 2 ^ N := (Nat.le_div_iff_mul_le (Nat.two_pow_pos N)).mpr (by omega)
      exact nI_ne0 (by omega) (Nat.lt_of_le_of_lt (Nat.div_le_self _ _) (by decide))
    · rw [tI (by omega)] at h
      rw [pk_ushrN (by omega) (nI N) N (s_u2 N (by omega)), if_neg]
      have h6 : 1 ≤ k / 2 ^ N := (Nat.le_div_iff_mul_le (Nat.two_pow_pos N)).mpr (by omega)
      exact nI_ne0 (by omega) (Nat.lt_of_le_of_lt (Nat.div_le_self _ _) (by omega))
  · right; right
    refine ⟨k, h1, rfl, ?_⟩
    rw [pk_ushrN (by omega) (nI N) N (s_u2 N (by omega)), Nat.div_eq_of_lt h1, if_pos nI_0]
section
variable {x m : VM} {i a b d : Nat}
def scX (x : VM) (i a b d : Nat) : VM := setI (nw8 (setN x 0 0) i (nI a) (nI b) (nI d)) 502 i (nI (x.2.2.2 (20 + i) + 1))
def scM (x m : VM) (i a b d : Nat) : VM := setA (setA (setA (setA m 1236 0 (upd (m.2.1 1236 0) (8 * i + x.2.2.2 (20 + i)) (nI a))) 1237 0 (upd (m.2.1 1237 0) (8 * i + x.2.2.2 (20 + i)) (nI b))) 1238 0 (upd (m.2.1 1238 0) (8 * i + x.2.2.2 (20 + i)) (nI d))) 1235 0 (upd (m.2.1 1235 0) i (nI (x.2.2.2 (20 + i) + 1)))
theorem sc_i : (scX x i a b d).2.2.2 (20 + i) = x.2.2.2 (20 + i) + 1 := (if_pos rfl).trans (by rw [cN])
theorem sc_0 : (scX x i a b d).2.2.2 0 = 0 := (if_neg (by omega)).trans rfl
theorem sc_k {k : Nat} (h0 : k ≠ 0) (h : k ≠ 20 + i) : (scX x i a b d).2.2.2 k = x.2.2.2 k := (if_neg h).trans (if_neg h0)
theorem sc_4 : (scX x i a b d).2.2.2 4 = x.2.2.2 4 := sc_k (by decide) (by omega)
theorem sc_5 : (scX x i a b d).2.2.2 5 = x.2.2.2 5 := sc_k (by decide) (by omega)
theorem sc_1 : (scX x i a b d).2.2.2 1 = x.2.2.2 1 := sc_k (by decide) (by omega)
theorem sc_p {q : Nat} (h : q ≠ i) : (scX x i a b d).2.2.2 (20 + q) = x.2.2.2 (20 + q) := sc_k (by omega) (by omega)
theorem sc_I {F q : Nat} (hF : F ≠ 502) (h : q ≠ 8 * i + x.2.2.2 (20 + i)) : (scX x i a b d).1 F q = x.1 F q := (rIn hF).trans (show (nw8 (setN x 0 0) i (nI a) (nI b) (nI d)).1 F q = _ from nV_In (fun z => h (by rw [z.2, cN])))
theorem sc_A {F q : Nat} (h : q ≠ 8 * i + x.2.2.2 (20 + i)) : (scX x i a b d).2.1 F q = x.2.1 F q := show (nw8 (setN x 0 0) i (nI a) (nI b) (nI d)).2.1 F q = _ from nV_An (fun z => h (by rw [z.2, cN]))
theorem sc_bas (hI : Inv x m) (hi : i < x.2.2.2 5) (hc : x.2.2.2 (20 + i) < 8) : IBas (scX x i a b d) (scM x m i a b d) := by
  have h1 := hI.bas.1.1
  have h2 := hI.bas.1.2.1
  have h3 := hI.bas.1.2.2.1
  refine ⟨⟨?_, ?_, ?_, fun q hq => ?_⟩, ?_⟩
  · rw [sc_4]; exact h1
  · rw [sc_5]; exact h2
  · rw [sc_1]; exact h3
  · rw [sc_5] at hq
    by_cases e : q = i
    · subst e
      rw [sc_i]
      exact ⟨sI_s, by omega⟩
    · rw [sc_p e]
      have : (scX x i a b d).1 502 q = x.1 502 q := (sI_n e).trans rfl
      rw [this]
      exact hI.bas.1.2.2.2 q hq
  · rw [sc_0]; omega
theorem sc_she (hI : Inv x m) : IShe (scX x i a b d) (scM x m i a b d) := by
  intro s hs
  rw [sc_5]
  exact hI.she s hs
theorem sc_per (hI : Inv x m) : IPer (scX x i a b d) (scM x m i a b d) := fun w hw => hI.per w (by rw [sc_4] at hw; exact hw)
theorem sc_pe0 (hI : Inv x m) : IPe0 (scX x i a b d) (scM x m i a b d) := fun w hw => hI.pe0 w (by rw [sc_4] at hw; exact hw)
theorem sc_pic (hI : Inv x m) : IPic (scX x i a b d) (scM x m i a b d) := by
  intro q hq
  rw [sc_5] at hq
  obtain ⟨a1, a2, a3⟩ := hI.pic q hq
  refine ⟨a1, ?_, a3⟩
  by_cases e : q = i
  · subst e
    exact pk_us.trans sI_s.symm
  · exact (u_n e).trans (a2.trans (sI_n e).symm)
theorem sc_ord (hI : Inv x m) (hb : x.1 503 i = 0) : IOrd (scX x i a b d) (scM x m i a b d) := by
  intro q hq h1
  rw [sc_5] at hq
  by_cases e : q = i
  · subst e
    have : x.1 503 q = 1 := h1
    rw [hb] at this
    exact absurd this (by decide)
  · rw [sc_p e]
    exact hI.ord q hq h1
theorem sc_dra (hI : Inv x m) : IDra (scX x i a b d) (scM x m i a b d) := fun q hq => hI.dra q (by rw [sc_5] at hq; exact hq)
theorem sc_pi0 (hI : Inv x m) (hi : i < x.2.2.2 5) : IPi0 (scX x i a b d) (scM x m i a b d) := by
  intro q hq h8
  rw [sc_5] at hq
  obtain ⟨a1, a2⟩ := hI.pi0 q hq h8
  exact ⟨(u_n (by omega)).trans a1, a2⟩
theorem sc_sce (hI : Inv x m) (hi : i < x.2.2.2 5) (hc : x.2.2.2 (20 + i) < 8) (ha : a ≤ 9) (hb : b < 2 ^ x.2.2.2 4) (d1 : 1 ≤ d) (d4 : d ≤ 4) : ISce (scX x i a b d) (scM x m i a b d) := by
  intro q s hq hs
  rw [sc_5] at hq
  have h8 := (n_sce hI hq).2.2
  have h16 : 2 ^ x.2.2.2 4 ≤ 65536 := Nat.pow_le_pow_right (by decide) hI.bas.1.1.2
  rw [sc_4]
  by_cases e : q = i ∧ s = x.2.2.2 (20 + i)
  · obtain ⟨rfl, rfl⟩ := e
    obtain ⟨z1, z2, z3⟩ := hI.sc0 q (x.2.2.2 (20 + q)) (by have := hI.bas.1.2.1.2; omega) hc (fun _ => Nat.le_refl _)
    have y : ∀ F, F / 100 = 8 → (scX x q a b d).1 F (8 * q + x.2.2.2 (20 + q)) = (fun k => if k = 0 then nI a else if k = 1 then nI b else if k = 2 then nI d else 0) (F % 100) := fun F hF => (rIn (by omega)).trans (by rw [← cN x 0 q]; exact nV_I hF)
    have z : ∀ F, F / 100 = 8 → (scX x q a b d).2.1 F (8 * q + x.2.2.2 (20 + q)) = fun _ => 0 := fun F hF => by
      show (nw8 (setN x 0 0) q (nI a) (nI b) (nI d)).2.1 F _ = _
      rw [← cN x 0 q]; exact nV_A hF
    have q0 : (scX x q a b d).1 800 (8 * q + x.2.2.2 (20 + q)) = nI a := y 800 rfl
    have q1 : (scX x q a b d).1 801 (8 * q + x.2.2.2 (20 + q)) = nI b := y 801 rfl
    have q2 : (scX x q a b d).1 802 (8 * q + x.2.2.2 (20 + q)) = nI d := y 802 rfl
    have q3 : (scX x q a b d).1 803 (8 * q + x.2.2.2 (20 + q)) = 0 := y 803 rfl
    have q5 : (scX x q a b d).1 805 (8 * q + x.2.2.2 (20 + q)) = 0 := y 805 rfl
    rw [q0, q1, q2, q3, q5, z 804 rfl]
    refine ⟨⟨pk_us, rng_I (a := 0) (b := 9) (by omega) ha (by decide)⟩, ⟨pk_us, ?_⟩, ⟨pk_us, rng_I (a := 1) (b := 4) d1 d4 (by decide)⟩, ⟨z1, rng0 (by decide)⟩, fun k hk => ⟨z3 k hk, rng0 (by decide)⟩, ⟨z2, rng0 (by decide)⟩, fun t ht => by rw [t_0] at ht; omega⟩
    have e2 : ((2 ^ x.2.2.2 4 : Nat) : Int) = 2 ^ x.2.2.2 4 := by rw [Int.natCast_pow]; rfl
    unfold rng
    rw [tI (by omega)]
    omega
  · have hs' : s < x.2.2.2 (20 + q) := by
      by_cases e2 : q = i
      · subst e2
        rw [sc_i] at hs
        have : s ≠ x.2.2.2 (20 + q) := fun z => e ⟨rfl, z⟩
        omega
      · rw [sc_p e2] at hs; exact hs
    have ne : 8 * q + s ≠ 8 * i + x.2.2.2 (20 + i) := fun z => e ⟨by omega, by omega⟩
    have := hI.sce q s hq hs'
    rw [sc_I (by decide) ne, sc_I (by decide) ne, sc_I (by decide) ne, sc_I (by decide) ne, sc_I (by decide) ne, sc_A ne, sc_A ne, sc_A ne, sc_A ne]
    obtain ⟨a1, a2, a3, a4⟩ := this
    exact ⟨⟨(u_n ne).trans a1.1, a1.2⟩, ⟨(u_n ne).trans a2.1, a2.2⟩, ⟨(u_n ne).trans a3.1, a3.2⟩, a4⟩
theorem sc_sc0 (hI : Inv x m) (hi : i < x.2.2.2 5) : ISc0 (scX x i a b d) (scM x m i a b d) := by
  intro q s hq hs hh
  refine hI.sc0 q s hq hs (fun z => ?_)
  have := hh (by rw [sc_5]; exact z)
  by_cases e : q = i
  · subst e; rw [sc_i] at this; omega
  · rw [sc_p e] at this; exact this
theorem sc_hal (hI : Inv x m) : IHal (scX x i a b d) (scM x m i a b d) := by
  intro h hh
  rw [sc_1] at hh
  rw [sc_5]
  exact hI.hal h hh
theorem sc_ha0 (hI : Inv x m) : IHa0 (scX x i a b d) (scM x m i a b d) := fun h hh => hI.ha0 h (by rw [sc_1] at hh; exact hh)
theorem sc_shw (hI : Inv x m) : IShw (scX x i a b d) (scM x m i a b d) := by
  have : cntS (scX x i a b d) = cntS x := by
    unfold cntS
    rw [sc_1]
    rfl
  unfold IShw
  rw [this]
  exact hI.shw
theorem sc_pla (hI : Inv x m) : IPla (scX x i a b d) (scM x m i a b d) := by
  obtain ⟨⟨n, a1, a2, a3⟩, a4⟩ := hI.pla
  exact ⟨⟨n, by rw [sc_5]; omega, a2, a3⟩, a4⟩
theorem sc_cac : ICac (scX x i a b d) (scM x m i a b d) := by
  intro j hj
  rw [sc_0] at hj
  omega
end
theorem s_scene : S_scene Inv := by
  intro x m p q r s hI
  show Sm Inv _ _
  unfold f_X11_scene f_X12_scene
  rcases c_pic hI p with ⟨e1, e2⟩ | ⟨i, i1, i2, rfl, e1, e2⟩
  · rw [e1, e2]; exact Sm.mk rfl (hI.ref1 0)
  · rw [e1, e2]
    obtain ⟨n1, n2, n3⟩ := n_sce hI i1
    obtain ⟨b1, b2⟩ := (hI.pic i i1).2.2.1
    obtain ⟨g1, g2⟩ := hI.bas.1.1
    have g3 := hI.cnt.1
    have h16 : 2 ^ x.2.2.2 4 ≤ 65536 := Nat.pow_le_pow_right (by decide) g2
    have h0 := Nat.two_pow_pos (x.2.2.2 4)
    rw [g3, g1, shl1 _ (by omega)]
    rcases hbb x r g2 with ⟨c1, c2⟩ | ⟨c1, c2⟩ | ⟨k, c1, rfl, c2⟩
    · simp only [c2, Option.elim_some, if_pos i1]
      simp (disch := omega) only [Int32.lt_iff_toInt_lt, Int32.le_iff_toInt_le, i32eq, tI, t_0, t_1, t_2, t_3, t_4, t_5, t_6, t_7, t_8, t_9, t_10, t_16, t_31, t_40, t_48, t_50, t_52, t_57, t_60, t_61, t_64, t_90, t_99, t_100, t_108, t_112, t_114, t_115, t_119, t_121, t_200, t_256, t_364, t_400, t_480, t_960, t_999, t_1000, t_4000, t_99999, t_1000000000, t_2147483647, t_m1, t_m2, t_m3, t_m4, t_m5, t_m6, t_m7, t_m1000, nI_clamp, inb_T, Option.elim_some, Option.elim_none, if_pos, if_neg, rfx1, rfm1, rfx2, rfm2, rfx3, rfm3, rfx4, rfm4, rfx5, rfm5, rfx6, rfm6, rfx7, rfm7, nI_add, pk_mul, lm_2, lm_4, lm_5, lm_7, lm_8, lm_10, lm_40, lm_60, lm_61, lm_364, lm_1000, la_1, al_1, la_10, al_10, la_11, al_11, la_100, al_100, la_364, al_364, d8, m8, ↓reduceIte, rA1, rA3, rI2, rJ1, rJ2, rJ4, rN1, rN2, rN3, rAs, rIs, rJs, rAn, rIn, rJn]; exact Sm.mk rfl (hI.ref1 0)
    · simp only [c2, Option.elim_some, if_pos i1]
      simp (disch := omega) only [Int32.lt_iff_toInt_lt, Int32.le_iff_toInt_le, i32eq, tI, t_0, t_1, t_2, t_3, t_4, t_5, t_6, t_7, t_8, t_9, t_10, t_16, t_31, t_40, t_48, t_50, t_52, t_57, t_60, t_61, t_64, t_90, t_99, t_100, t_108, t_112, t_114, t_115, t_119, t_121, t_200, t_256, t_364, t_400, t_480, t_960, t_999, t_1000, t_4000, t_99999, t_1000000000, t_2147483647, t_m1, t_m2, t_m3, t_m4, t_m5, t_m6, t_m7, t_m1000, nI_clamp, inb_T, Option.elim_some, Option.elim_none, if_pos, if_neg, rfx1, rfm1, rfx2, rfm2, rfx3, rfm3, rfx4, rfm4, rfx5, rfm5, rfx6, rfm6, rfx7, rfm7, nI_add, pk_mul, lm_2, lm_4, lm_5, lm_7, lm_8, lm_10, lm_40, lm_60, lm_61, lm_364, lm_1000, la_1, al_1, la_10, al_10, la_11, al_11, la_100, al_100, la_364, al_364, d8, m8, ↓reduceIte, rA1, rA3, rI2, rJ1, rJ2, rJ4, rN1, rN2, rN3, rAs, rIs, rJs, rAn, rIn, rJn]; exact Sm.mk rfl (hI.ref1 0)
    · simp only [c2, Option.elim_some, if_pos i1]
      rcases ar q 0 9 (by decide) with h | h | ⟨a, h1, h2, rfl⟩
      · simp (disch := omega) only [Int32.lt_iff_toInt_lt, Int32.le_iff_toInt_le, i32eq, tI, t_0, t_1, t_2, t_3, t_4, t_5, t_6, t_7, t_8, t_9, t_10, t_16, t_31, t_40, t_48, t_50, t_52, t_57, t_60, t_61, t_64, t_90, t_99, t_100, t_108, t_112, t_114, t_115, t_119, t_121, t_200, t_256, t_364, t_400, t_480, t_960, t_999, t_1000, t_4000, t_99999, t_1000000000, t_2147483647, t_m1, t_m2, t_m3, t_m4, t_m5, t_m6, t_m7, t_m1000, nI_clamp, inb_T, Option.elim_some, Option.elim_none, if_pos, if_neg, rfx1, rfm1, rfx2, rfm2, rfx3, rfm3, rfx4, rfm4, rfx5, rfm5, rfx6, rfm6, rfx7, rfm7, nI_add, pk_mul, lm_2, lm_4, lm_5, lm_7, lm_8, lm_10, lm_40, lm_60, lm_61, lm_364, lm_1000, la_1, al_1, la_10, al_10, la_11, al_11, la_100, al_100, la_364, al_364, d8, m8, ↓reduceIte, rA1, rA3, rI2, rJ1, rJ2, rJ4, rN1, rN2, rN3, rAs, rIs, rJs, rAn, rIn, rJn]; exact Sm.mk rfl (hI.ref1 5)
      · simp (disch := omega) only [Int32.lt_iff_toInt_lt, Int32.le_iff_toInt_le, i32eq, tI, t_0, t_1, t_2, t_3, t_4, t_5, t_6, t_7, t_8, t_9, t_10, t_16, t_31, t_40, t_48, t_50, t_52, t_57, t_60, t_61, t_64, t_90, t_99, t_100, t_108, t_112, t_114, t_115, t_119, t_121, t_200, t_256, t_364, t_400, t_480, t_960, t_999, t_1000, t_4000, t_99999, t_1000000000, t_2147483647, t_m1, t_m2, t_m3, t_m4, t_m5, t_m6, t_m7, t_m1000, nI_clamp, inb_T, Option.elim_some, Option.elim_none, if_pos, if_neg, rfx1, rfm1, rfx2, rfm2, rfx3, rfm3, rfx4, rfm4, rfx5, rfm5, rfx6, rfm6, rfx7, rfm7, nI_add, pk_mul, lm_2, lm_4, lm_5, lm_7, lm_8, lm_10, lm_40, lm_60, lm_61, lm_364, lm_1000, la_1, al_1, la_10, al_10, la_11, al_11, la_100, al_100, la_364, al_364, d8, m8, ↓reduceIte, rA1, rA3, rI2, rJ1, rJ2, rJ4, rN1, rN2, rN3, rAs, rIs, rJs, rAn, rIn, rJn]; exact Sm.mk rfl (hI.ref1 5)
      · rcases ar s 1 4 (by decide) with h | h | ⟨d, h3, h4, rfl⟩
        · simp (disch := omega) only [Int32.lt_iff_toInt_lt, Int32.le_iff_toInt_le, i32eq, tI, t_0, t_1, t_2, t_3, t_4, t_5, t_6, t_7, t_8, t_9, t_10, t_16, t_31, t_40, t_48, t_50, t_52, t_57, t_60, t_61, t_64, t_90, t_99, t_100, t_108, t_112, t_114, t_115, t_119, t_121, t_200, t_256, t_364, t_400, t_480, t_960, t_999, t_1000, t_4000, t_99999, t_1000000000, t_2147483647, t_m1, t_m2, t_m3, t_m4, t_m5, t_m6, t_m7, t_m1000, nI_clamp, inb_T, Option.elim_some, Option.elim_none, if_pos, if_neg, rfx1, rfm1, rfx2, rfm2, rfx3, rfm3, rfx4, rfm4, rfx5, rfm5, rfx6, rfm6, rfx7, rfm7, nI_add, pk_mul, lm_2, lm_4, lm_5, lm_7, lm_8, lm_10, lm_40, lm_60, lm_61, lm_364, lm_1000, la_1, al_1, la_10, al_10, la_11, al_11, la_100, al_100, la_364, al_364, d8, m8, ↓reduceIte, rA1, rA3, rI2, rJ1, rJ2, rJ4, rN1, rN2, rN3, rAs, rIs, rJs, rAn, rIn, rJn]; exact Sm.mk rfl (hI.ref1 5)
        · simp (disch := omega) only [Int32.lt_iff_toInt_lt, Int32.le_iff_toInt_le, i32eq, tI, t_0, t_1, t_2, t_3, t_4, t_5, t_6, t_7, t_8, t_9, t_10, t_16, t_31, t_40, t_48, t_50, t_52, t_57, t_60, t_61, t_64, t_90, t_99, t_100, t_108, t_112, t_114, t_115, t_119, t_121, t_200, t_256, t_364, t_400, t_480, t_960, t_999, t_1000, t_4000, t_99999, t_1000000000, t_2147483647, t_m1, t_m2, t_m3, t_m4, t_m5, t_m6, t_m7, t_m1000, nI_clamp, inb_T, Option.elim_some, Option.elim_none, if_pos, if_neg, rfx1, rfm1, rfx2, rfm2, rfx3, rfm3, rfx4, rfm4, rfx5, rfm5, rfx6, rfm6, rfx7, rfm7, nI_add, pk_mul, lm_2, lm_4, lm_5, lm_7, lm_8, lm_10, lm_40, lm_60, lm_61, lm_364, lm_1000, la_1, al_1, la_10, al_10, la_11, al_11, la_100, al_100, la_364, al_364, d8, m8, ↓reduceIte, rA1, rA3, rI2, rJ1, rJ2, rJ4, rN1, rN2, rN3, rAs, rIs, rJs, rAn, rIn, rJn]; exact Sm.mk rfl (hI.ref1 5)
        · rcases b2 with b2 | b2
          · rcases (show x.2.2.2 (20 + i) = 8 ∨ x.2.2.2 (20 + i) < 8 by omega) with hc | hc
            · simp (disch := omega) only [Int32.lt_iff_toInt_lt, Int32.le_iff_toInt_le, i32eq, tI, t_0, t_1, t_2, t_3, t_4, t_5, t_6, t_7, t_8, t_9, t_10, t_16, t_31, t_40, t_48, t_50, t_52, t_57, t_60, t_61, t_64, t_90, t_99, t_100, t_108, t_112, t_114, t_115, t_119, t_121, t_200, t_256, t_364, t_400, t_480, t_960, t_999, t_1000, t_4000, t_99999, t_1000000000, t_2147483647, t_m1, t_m2, t_m3, t_m4, t_m5, t_m6, t_m7, t_m1000, nI_clamp, inb_T, Option.elim_some, Option.elim_none, if_pos, if_neg, rfx1, rfm1, rfx2, rfm2, rfx3, rfm3, rfx4, rfm4, rfx5, rfm5, rfx6, rfm6, rfx7, rfm7, nI_add, pk_mul, lm_2, lm_4, lm_5, lm_7, lm_8, lm_10, lm_40, lm_60, lm_61, lm_364, lm_1000, la_1, al_1, la_10, al_10, la_11, al_11, la_100, al_100, la_364, al_364, d8, m8, ↓reduceIte, rA1, rA3, rI2, rJ1, rJ2, rJ4, rN1, rN2, rN3, rAs, rIs, rJs, rAn, rIn, rJn, b1, b2, n1, n2]; exact Sm.mk rfl (hI.ref1 6)
            · have e : (nw8 (setN x 0 0) i (nI a) (nI k) (nI d)).1 502 i = nI (x.2.2.2 (20 + i)) := n1
              simp (disch := omega) only [Int32.lt_iff_toInt_lt, Int32.le_iff_toInt_le, i32eq, tI, t_0, t_1, t_2, t_3, t_4, t_5, t_6, t_7, t_8, t_9, t_10, t_16, t_31, t_40, t_48, t_50, t_52, t_57, t_60, t_61, t_64, t_90, t_99, t_100, t_108, t_112, t_114, t_115, t_119, t_121, t_200, t_256, t_364, t_400, t_480, t_960, t_999, t_1000, t_4000, t_99999, t_1000000000, t_2147483647, t_m1, t_m2, t_m3, t_m4, t_m5, t_m6, t_m7, t_m1000, nI_clamp, inb_T, Option.elim_some, Option.elim_none, if_pos, if_neg, rfx1, rfm1, rfx2, rfm2, rfx3, rfm3, rfx4, rfm4, rfx5, rfm5, rfx6, rfm6, rfx7, rfm7, nI_add, pk_mul, lm_2, lm_4, lm_5, lm_7, lm_8, lm_10, lm_40, lm_60, lm_61, lm_364, lm_1000, la_1, al_1, la_10, al_10, la_11, al_11, la_100, al_100, la_364, al_364, d8, m8, ↓reduceIte, rA1, rA3, rI2, rJ1, rJ2, rJ4, rN1, rN2, rN3, rAs, rIs, rJs, rAn, rIn, rJn, b1, b2, n1, n2, e]
              exact Sm.mk rfl (show Inv (scX x i a k d) (scM x m i a k d) from ⟨(sc_bas hI i1 hc), hI.cnt, hI.now, hI.pur, hI.clr, hI.fau, hI.cod, hI.sha, hI.fee, hI.law, (sc_she hI), (sc_per hI), (sc_pe0 hI), (sc_pic hI), (sc_ord hI b2), (sc_dra hI), (sc_pi0 hI i1), (sc_sce hI i1 hc h2 c1 h3 h4), (sc_sc0 hI i1), (sc_hal hI), (sc_ha0 hI), (sc_shw hI), (sc_pla hI), (sc_cac), hI.ref⟩)
          · simp (disch := omega) only [Int32.lt_iff_toInt_lt, Int32.le_iff_toInt_le, i32eq, tI, t_0, t_1, t_2, t_3, t_4, t_5, t_6, t_7, t_8, t_9, t_10, t_16, t_31, t_40, t_48, t_50, t_52, t_57, t_60, t_61, t_64, t_90, t_99, t_100, t_108, t_112, t_114, t_115, t_119, t_121, t_200, t_256, t_364, t_400, t_480, t_960, t_999, t_1000, t_4000, t_99999, t_1000000000, t_2147483647, t_m1, t_m2, t_m3, t_m4, t_m5, t_m6, t_m7, t_m1000, nI_clamp, inb_T, Option.elim_some, Option.elim_none, if_pos, if_neg, rfx1, rfm1, rfx2, rfm2, rfx3, rfm3, rfx4, rfm4, rfx5, rfm5, rfx6, rfm6, rfx7, rfm7, nI_add, pk_mul, lm_2, lm_4, lm_5, lm_7, lm_8, lm_10, lm_40, lm_60, lm_61, lm_364, lm_1000, la_1, al_1, la_10, al_10, la_11, al_11, la_100, al_100, la_364, al_364, d8, m8, ↓reduceIte, rA1, rA3, rI2, rJ1, rJ2, rJ4, rN1, rN2, rN3, rAs, rIs, rJs, rAn, rIn, rJn, b1, b2]; exact Sm.mk rfl (hI.ref1 5)
