/-! a new picture -/
theorem rng0 {b : Int} (h : 0 ≤ b) : rng 0 0 b := ⟨by decide, h⟩
section
variable {x m : VM} {p : Nat}
def pcX (x : VM) (p : Nat) : VM := setI (nw5 x (nI p)) 1114 0 (nI (x.2.2.2 5 + 1))
def pcM (x m : VM) (p : Nat) : VM := setI (setA m 1234 0 (upd (m.2.1 1234 0) (x.2.2.2 5) (nI p))) 1204 0 (nI (x.2.2.2 5 + 1))
theorem pc_k {k : Nat} (h5 : k ≠ 5) (h : k < 20) : (pcX x p).2.2.2 k = x.2.2.2 k := (if_neg h5).trans (if_neg (by omega))
theorem pc_5 : (pcX x p).2.2.2 5 = x.2.2.2 5 + 1 := rfl
theorem pc_n : (pcX x p).2.2.2 (20 + x.2.2.2 5) = 0 := (if_neg (by omega)).trans (if_pos rfl)
theorem pc_p {q : Nat} (h : q ≠ x.2.2.2 5) : (pcX x p).2.2.2 (20 + q) = x.2.2.2 (20 + q) := (if_neg (by omega)).trans (if_neg (by omega))
theorem pc_I {F q : Nat} (hF : F ≠ 1114) (h : q ≠ x.2.2.2 5) : (pcX x p).1 F q = x.1 F q := (rIn hF).trans (nV_In (fun z => h z.2))
theorem pc_A {F q : Nat} (h : q ≠ x.2.2.2 5) : (pcX x p).2.1 F q = x.2.1 F q := show (nw5 x (nI p)).2.1 F q = x.2.1 F q from nV_An (fun z => h z.2)
theorem pc_J {F q : Nat} (h : q ≠ x.2.2.2 5) : (pcX x p).2.2.1 F q = x.2.2.1 F q := show (nw5 x (nI p)).2.2.1 F q = x.2.2.1 F q from nV_Jn (fun z => h z.2)
theorem pc_bas (hI : Inv x m) (hc : x.2.2.2 5 < 8) : IBas (pcX x p) (pcM x m p) := by
  have h1 := hI.bas.1.1
  have h2 := hI.bas.1.2.2.1
  refine ⟨⟨?_, ⟨rfl, by rw [pc_5]; omega⟩, ?_, fun q hq => ?_⟩, ?_⟩
  · rw [pc_k (by decide) (by decide)]; exact h1
  · rw [pc_k (by decide) (by decide)]; exact h2
  · by_cases e : q = x.2.2.2 5
    · subst e
      rw [pc_n]
      exact ⟨show (nw5 x (nI p)).1 502 (x.2.2.2 5) = nI 0 from nV_I rfl, by omega⟩
    · rw [pc_p e, pc_I (by decide) e]
      rw [pc_5] at hq
      exact hI.bas.1.2.2.2 q (by omega)
  · rw [pc_k (by decide) (by decide), pc_5]
    have := hI.bas.2
    omega
theorem pc_she (hI : Inv x m) : IShe (pcX x p) (pcM x m p) := by
  intro s hs
  rcases hI.she s hs with h | h | h
  · exact Or.inl h
  · exact Or.inr (Or.inl h)
  · obtain ⟨a1, a2, a3, q, b1, b2⟩ := h
    exact Or.inr (Or.inr ⟨a1, a2, a3, q, by rw [pc_5]; omega, b2⟩)
theorem pc_per (hI : Inv x m) : IPer (pcX x p) (pcM x m p) := fun w hw => hI.per w (by rw [pc_k (by decide) (by decide)] at hw; exact hw)
theorem pc_pe0 (hI : Inv x m) : IPe0 (pcX x p) (pcM x m p) := fun w hw => hI.pe0 w (by rw [pc_k (by decide) (by decide)] at hw; exact hw)
theorem pc_pic (hI : Inv x m) (hp : p ≤ 5) (hc : x.2.2.2 5 < 8) : IPic (pcX x p) (pcM x m p) := by
  intro q hq
  rw [pc_5] at hq
  by_cases e : q = x.2.2.2 5
  · subst e
    obtain ⟨a1, a2, a3, a4, a5, a6, a7, a8, a9, a10, a11⟩ := hI.pi0 (x.2.2.2 5) (Nat.le_refl _) hc
    have y : ∀ F, F / 100 = 5 → (pcX x p).1 F (x.2.2.2 5) = (fun k => if k = 0 then nI p else if k = 5 then (-1) else if k = 16 then 1 else 0) (F % 100) := fun F hF => (rIn (by omega)).trans (nV_I hF)
    have q0 : (pcX x p).1 500 (x.2.2.2 5) = nI p := y 500 rfl
    have q2 : (pcX x p).1 502 (x.2.2.2 5) = 0 := y 502 rfl
    have q3 : (pcX x p).1 503 (x.2.2.2 5) = 0 := y 503 rfl
    have q5 : (pcX x p).1 505 (x.2.2.2 5) = -1 := y 505 rfl
    have q6 : (pcX x p).1 506 (x.2.2.2 5) = 0 := y 506 rfl
    have q7 : (pcX x p).1 507 (x.2.2.2 5) = 0 := y 507 rfl
    have q8 : (pcX x p).1 508 (x.2.2.2 5) = 0 := y 508 rfl
    have q16 : (pcX x p).1 516 (x.2.2.2 5) = 1 := y 516 rfl
    have z : ∀ F, F / 100 = 5 → (pcX x p).2.1 F (x.2.2.2 5) = (fun k => if k = 13 then (fil (-1) 8) else fun _ => 0) (F % 100) := fun F hF => show (nw5 x (nI p)).2.1 F (x.2.2.2 5) = _ from nV_A hF
    have q17 : (pcX x p).2.1 517 (x.2.2.2 5) = fun _ => 0 := z 517 rfl
    have q13 : (pcX x p).2.1 513 (x.2.2.2 5) = fil (-1) 8 := z 513 rfl
    have q14 : (pcX x p).2.1 514 (x.2.2.2 5) = fun _ => 0 := z 514 rfl
    have q15 : (pcX x p).2.1 515 (x.2.2.2 5) = fun _ => 0 := z 515 rfl
    rw [q0, q2, q3, q5, q6, q7, q8, q16, q17, q13, q14, q15]
    refine ⟨⟨pk_us, rng_I (a := 0) (b := 5) (by omega) hp (by decide)⟩, a1, ⟨a2, Or.inl rfl⟩, a3, a4, a5, a6, ⟨a9, by unfold rng; decide⟩, fun s hs => ⟨(a10 s hs).2, rng0 (by decide)⟩, fun s hs => (a10 s hs).1.trans (if_pos hs).symm, fun k hk => ⟨(a11 k hk).1, (a11 k hk).2, rng0 (by decide), rng0 (show (0 : Int) ≤ (0 : Int32).toInt by decide)⟩⟩
  · have := hI.pic q (by omega)
    rw [pc_I (by decide) e, pc_I (by decide) e, pc_I (by decide) e, pc_I (by decide) e, pc_I (by decide) e, pc_I (by decide) e, pc_I (by decide) e, pc_I (by decide) e, pc_A e, pc_A e, pc_A e, pc_A e]
    exact ⟨⟨(u_n e).trans this.1.1, this.1.2⟩, this.2⟩
theorem pc_ord (hI : Inv x m) : IOrd (pcX x p) (pcM x m p) := by
  intro q hq h1
  rw [pc_5] at hq
  by_cases e : q = x.2.2.2 5
  · subst e
    have q3 : (pcX x p).1 503 (x.2.2.2 5) = 0 := show (nw5 x (nI p)).1 503 (x.2.2.2 5) = 0 from nV_I rfl
    rw [q3] at h1
    exact absurd h1 (by decide)
  · rw [pc_I (by decide) e] at h1
    rw [pc_p e, pc_A e]
    exact hI.ord q (by omega) h1
theorem pc_dra (hI : Inv x m) (hc : x.2.2.2 5 < 8) : IDra (pcX x p) (pcM x m p) := by
  intro q hq
  rw [pc_5] at hq
  by_cases e : q = x.2.2.2 5
  · subst e
    obtain ⟨a1, a2, a3, a4, a5, a6, a7, a8, a9⟩ := hI.pi0 (x.2.2.2 5) (Nat.le_refl _) hc
    have q9 : (pcX x p).1 509 (x.2.2.2 5) = 0 := show (nw5 x (nI p)).1 509 (x.2.2.2 5) = 0 from nV_I rfl
    have q12 : (pcX x p).1 512 (x.2.2.2 5) = 0 := show (nw5 x (nI p)).1 512 (x.2.2.2 5) = 0 from nV_I rfl
    rw [q9, q12]
    exact ⟨⟨a7, by unfold rng; decide⟩, ⟨a8, by unfold rng; decide, fun _ => rfl⟩, fun k hk => by rw [t_0] at hk; omega⟩
  · have := hI.dra q (by omega)
    rw [pc_I (by decide) e, pc_I (by decide) e, pc_A e, pc_J e]
    exact this
theorem pc_pi0 (hI : Inv x m) : IPi0 (pcX x p) (pcM x m p) := fun q hq h8 => hI.pi0 q (by rw [pc_5] at hq; omega) h8
theorem pc_sce (hI : Inv x m) : ISce (pcX x p) (pcM x m p) := by
  intro q s hq hs
  rw [pc_5] at hq
  by_cases e : q = x.2.2.2 5
  · subst e
    rw [pc_n] at hs
    omega
  · rw [pc_p e] at hs
    rw [pc_k (by decide) (by decide)]
    exact hI.sce q s (by omega) hs
theorem pc_sc0 (hI : Inv x m) : ISc0 (pcX x p) (pcM x m p) := by
  intro q s hq hs hh
  refine hI.sc0 q s hq hs (fun z => ?_)
  have := hh (by rw [pc_5]; omega)
  rw [pc_p (by omega)] at this
  exact this
theorem pc_hal (hI : Inv x m) : IHal (pcX x p) (pcM x m p) := by
  intro h hh
  rw [pc_k (by decide) (by decide)] at hh
  obtain ⟨a1, a2, a3, a4, a5⟩ := hI.hal h hh
  refine ⟨a1, a2, a3, a4, fun w hw => ?_⟩
  obtain ⟨⟨b1, b2⟩, b3⟩ := a5 w hw
  refine ⟨⟨b1, ?_⟩, b3⟩
  rcases b2 with b2 | ⟨q, b2, b4⟩
  · exact Or.inl b2
  · exact Or.inr ⟨q, by rw [pc_5]; omega, b4⟩
theorem pc_ha0 (hI : Inv x m) : IHa0 (pcX x p) (pcM x m p) := fun h hh => hI.ha0 h (by rw [pc_k (by decide) (by decide)] at hh; exact hh)
theorem pc_shw (hI : Inv x m) : IShw (pcX x p) (pcM x m p) := by
  have : cntS (pcX x p) = cntS x := by
    unfold cntS
    rw [pc_k (by decide) (by decide)]
    rfl
  unfold IShw
  rw [this]
  exact hI.shw
theorem pc_pla (hI : Inv x m) : IPla (pcX x p) (pcM x m p) := by
  obtain ⟨⟨n, a1, a2, a3⟩, a4⟩ := hI.pla
  exact ⟨⟨n, by rw [pc_5]; omega, a2, a3⟩, a4⟩
theorem pc_cac (hI : Inv x m) : ICac (pcX x p) (pcM x m p) := by
  intro j hj
  rw [pc_k (by decide) (by decide)] at hj
  have e : j ≠ x.2.2.2 5 := by have := hI.bas.2; omega
  obtain ⟨d1, d2⟩ := hI.cac j hj
  rw [pc_p e]
  refine ⟨d1, ?_⟩
  unfold bSpecX at d2 ⊢
  rw [pc_p e]
  unfold pcX
  simp (disch := omega) only [rIn, rI2, nw5, nVnI, nVnA]
  exact d2
theorem s_picture : S_picture Inv := by
  intro x m p hI
  show Sm Inv _ _
  unfold f_X11_picture f_X12_picture f_X11_isKind
  rcases ar p 0 5 (by decide) with h | h | ⟨p, h1, h2, rfl⟩
  · simp (disch := omega) only [Int32.lt_iff_toInt_lt, Int32.le_iff_toInt_le, i32eq, tI, t_0, t_1, t_2, t_3, t_4, t_5, t_6, t_7, t_8, t_9, t_10, t_16, t_31, t_40, t_48, t_50, t_52, t_57, t_60, t_61, t_64, t_90, t_99, t_100, t_108, t_112, t_114, t_115, t_119, t_121, t_200, t_256, t_364, t_400, t_480, t_960, t_999, t_1000, t_4000, t_99999, t_1000000000, t_2147483647, t_m1, t_m2, t_m3, t_m4, t_m5, t_m6, t_m7, t_m1000, nI_clamp, inb_T, Option.elim_some, Option.elim_none, if_pos, if_neg, rfx1, rfm1, rfx2, rfm2, rfx3, rfm3, rfx4, rfm4, rfx5, rfm5, rfx6, rfm6, rfx7, rfm7, nI_add, pk_mul, lm_2, lm_4, lm_5, lm_7, lm_8, lm_10, lm_40, lm_60, lm_61, lm_364, lm_1000, la_1, al_1, la_10, al_10, la_11, al_11, la_100, al_100, la_364, al_364, d8, m8, ↓reduceIte, rA1, rA3, rI2, rJ1, rJ2, rJ4, rN1, rN2, rN3, rAs, rIs, rJs, rAn, rIn, rJn]; exact Sm.mk rfl (hI.ref1 0)
  · simp (disch := omega) only [Int32.lt_iff_toInt_lt, Int32.le_iff_toInt_le, i32eq, tI, t_0, t_1, t_2, t_3, t_4, t_5, t_6, t_7, t_8, t_9, t_10, t_16, t_31, t_40, t_48, t_50, t_52, t_57, t_60, t_61, t_64, t_90, t_99, t_100, t_108, t_112, t_114, t_115, t_119, t_121, t_200, t_256, t_364, t_400, t_480, t_960, t_999, t_1000, t_4000, t_99999, t_1000000000, t_2147483647, t_m1, t_m2, t_m3, t_m4, t_m5, t_m6, t_m7, t_m1000, nI_clamp, inb_T, Option.elim_some, Option.elim_none, if_pos, if_neg, rfx1, rfm1, rfx2, rfm2, rfx3, rfm3, rfx4, rfm4, rfx5, rfm5, rfx6, rfm6, rfx7, rfm7, nI_add, pk_mul, lm_2, lm_4, lm_5, lm_7, lm_8, lm_10, lm_40, lm_60, lm_61, lm_364, lm_1000, la_1, al_1, la_10, al_10, la_11, al_11, la_100, al_100, la_364, al_364, d8, m8, ↓reduceIte, rA1, rA3, rI2, rJ1, rJ2, rJ4, rN1, rN2, rN3, rAs, rIs, rJs, rAn, rIn, rJn]; exact Sm.mk rfl (hI.ref1 0)
  · obtain ⟨c1, c2⟩ := hI.bas.1.2.1
    have c3 := hI.cnt.2.1
    rcases (show x.2.2.2 5 = 8 ∨ x.2.2.2 5 < 8 by omega) with hc | hc
    · simp (disch := omega) only [Int32.lt_iff_toInt_lt, Int32.le_iff_toInt_le, i32eq, tI, t_0, t_1, t_2, t_3, t_4, t_5, t_6, t_7, t_8, t_9, t_10, t_16, t_31, t_40, t_48, t_50, t_52, t_57, t_60, t_61, t_64, t_90, t_99, t_100, t_108, t_112, t_114, t_115, t_119, t_121, t_200, t_256, t_364, t_400, t_480, t_960, t_999, t_1000, t_4000, t_99999, t_1000000000, t_2147483647, t_m1, t_m2, t_m3, t_m4, t_m5, t_m6, t_m7, t_m1000, nI_clamp, inb_T, Option.elim_some, Option.elim_none, if_pos, if_neg, rfx1, rfm1, rfx2, rfm2, rfx3, rfm3, rfx4, rfm4, rfx5, rfm5, rfx6, rfm6, rfx7, rfm7, nI_add, pk_mul, lm_2, lm_4, lm_5, lm_7, lm_8, lm_10, lm_40, lm_60, lm_61, lm_364, lm_1000, la_1, al_1, la_10, al_10, la_11, al_11, la_100, al_100, la_364, al_364, d8, m8, ↓reduceIte, rA1, rA3, rI2, rJ1, rJ2, rJ4, rN1, rN2, rN3, rAs, rIs, rJs, rAn, rIn, rJn, c3, c1]; exact Sm.mk rfl (hI.ref1 6)
    · have e : (nw5 x (nI p)).1 1114 0 = nI (x.2.2.2 5) := c1
      simp (disch := omega) only [Int32.lt_iff_toInt_lt, Int32.le_iff_toInt_le, i32eq, tI, t_0, t_1, t_2, t_3, t_4, t_5, t_6, t_7, t_8, t_9, t_10, t_16, t_31, t_40, t_48, t_50, t_52, t_57, t_60, t_61, t_64, t_90, t_99, t_100, t_108, t_112, t_114, t_115, t_119, t_121, t_200, t_256, t_364, t_400, t_480, t_960, t_999, t_1000, t_4000, t_99999, t_1000000000, t_2147483647, t_m1, t_m2, t_m3, t_m4, t_m5, t_m6, t_m7, t_m1000, nI_clamp, inb_T, Option.elim_some, Option.elim_none, if_pos, if_neg, rfx1, rfm1, rfx2, rfm2, rfx3, rfm3, rfx4, rfm4, rfx5, rfm5, rfx6, rfm6, rfx7, rfm7, nI_add, pk_mul, lm_2, lm_4, lm_5, lm_7, lm_8, lm_10, lm_40, lm_60, lm_61, lm_364, lm_1000, la_1, al_1, la_10, al_10, la_11, al_11, la_100, al_100, la_364, al_364, d8, m8, ↓reduceIte, rA1, rA3, rI2, rJ1, rJ2, rJ4, rN1, rN2, rN3, rAs, rIs, rJs, rAn, rIn, rJn, c3, c1, e]
      exact Sm.mk rfl (show Inv (pcX x p) (pcM x m p) from ⟨(pc_bas hI hc), (⟨hI.cnt.1, rfl, hI.cnt.2.2⟩), hI.now, hI.pur, hI.clr, hI.fau, hI.cod, hI.sha, hI.fee, hI.law, (pc_she hI), (pc_per hI), (pc_pe0 hI), (pc_pic hI h2 hc), (pc_ord hI), (pc_dra hI hc), (pc_pi0 hI), (pc_sce hI), (pc_sc0 hI), (pc_hal hI), (pc_ha0 hI), (pc_shw hI), (pc_pla hI), (pc_cac hI), hI.ref⟩)
end
