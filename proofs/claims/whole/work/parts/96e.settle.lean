theorem eff_step {a b c e y y' : Int32} (h : effY a b y = effY c e y ∧ a.toInt ≤ y.toInt ∧ c.toInt ≤ y.toInt) (hy : y.toInt ≤ y'.toInt) : effY a b y' = effY c e y' ∧ a.toInt ≤ y'.toInt ∧ c.toInt ≤ y'.toInt := by
  obtain ⟨h1, h2, h3⟩ := h
  refine ⟨?_, by omega, by omega⟩
  by_cases q : y = y'
  · rw [← q]; exact h1
  · have q' : y.toInt ≠ y'.toInt := fun r => q (Int32.toInt_inj.mp r)
    have n1 : ¬ a = y' := fun r => by rw [r] at h2; omega
    have n2 : ¬ c = y' := fun r => by rw [r] at h3; omega
    unfold effY
    rw [if_neg n1, if_neg n2]
section
variable {x m : VM}
/-- one is settled at the new day -/
theorem settle_one {y z : VM} {d k : Nat} (hd : d < 4000) (h1 : InvN y z) (h2 : y.1 1116 0 = nI (d + 1)) (h3 : z.1 1200 0 = nI (d + 1)) (ky : k < y.2.2.2 4) (k16 : k < 16) (hk : PerAt (nI d) (d + 3277) y z k) : ∃ y' z', f_X4_settle y k (nI (d + 1)) = some y' ∧ (f_X12_isUnderOn z (nI k) (nI (d + 1)) = some 1 ∧ z' = z ∨ f_X12_isUnderOn z (nI k) (nI (d + 1)) = some 0 ∧ z' = setA (setA z 1228 0 (upd (z.2.1 1228 0) k 0)) 1220 0 (upd (z.2.1 1220 0) k (-1))) ∧ InvN y' z' ∧ y'.1 1116 0 = nI (d + 1) ∧ z'.1 1200 0 = nI (d + 1) ∧ y'.2.2.2 = y.2.2.2 ∧ PerAt (nI (d + 1)) (d + 3277) y' z' k ∧ ∀ now B w, w ≠ k → PerAt now B y z w → PerAt now B y' z' w := by
  have tD : (nI (d + 1)).toInt = d + 1 := by rw [tI (by omega)]; omega
  have td : (nI d).toInt = d := by rw [tI (by omega)]
  have nx : ∀ {y' z' : VM}, y' = y → z' = z → True := fun _ _ => trivial
  have hk0 := hk
  obtain ⟨a1, a2, a3, a4, a5, a6, a7, a8, a9, a10⟩ := hk
  obtain ⟨b, b1, b2, b3⟩ := rng_nI (a := 0) (b := d) (v := y.1 404 k) ⟨a3.2.1, by have := a3.2.2; rw [td] at this; exact this⟩ (by omega)
  have hy : (yrT (nI d) (y.1 404 k)).toInt ≤ (yrT (nI (d + 1)) (y.1 404 k)).toInt := by
    rw [b3, yr_n (by omega) (by omega), yr_n (by omega) (by omega), tI (by omega), tI (by omega)]
    have : (d - b) / 364 ≤ (d + 1 - b) / 364 := Nat.div_le_div_right (by omega)
    omega
  have c7 := eff_step a7 hy
  have c8 := eff_step a8 hy
  have c3 : z.2.1 1218 0 k = y.1 404 k ∧ 0 ≤ (y.1 404 k).toInt ∧ (y.1 404 k).toInt ≤ (nI (d + 1)).toInt := ⟨a3.1, a3.2.1, by rw [tD]; have := a3.2.2; rw [td] at this; omega⟩
  unfold f_X4_settle
  rw [if_pos ky]
  rcases c_und hk0 ky k16 (nI (d + 1)) with ⟨u1, u2, u3, u4⟩ | ⟨u1, u2, u3⟩
  · rw [u1]
    simp only [Option.elim_some, if_neg n10]
    by_cases q : nI (d + 1) < y.1 407 k
    · rw [if_pos q]
      refine ⟨y, z, rfl, Or.inl ⟨u2, rfl⟩, h1, h2, h3, rfl, ⟨a1, a2, c3, a4, ⟨a5.1, ?_⟩, a6, c7, c8, a9, fun v => absurd u3 v⟩, fun now B w _ h => h⟩
      by_cases r : ¬ z.2.1 1220 0 k = -1 ∧ nI d < z.2.1 1220 0 k
      · have a52 := a5.2
        rw [if_pos r] at a52
        rw [a52] at q
        rw [if_pos ⟨r.1, q⟩]; exact a52
      · have a52 := a5.2
        rw [if_neg r] at a52
        rw [a52, Int32.lt_iff_toInt_lt, tD] at q
        exact absurd q (by rw [show (-1 : Int32).toInt = -1 from rfl]; omega)
    · rw [if_neg q]
      have hm : ∀ w', w' ≠ k → ∀ F, (1217 ≤ F ∧ F ≤ 1228) ∨ F = 1232 → z.2.1 F 0 w' = z.2.1 F 0 w' := fun _ _ _ _ => rfl
      refine ⟨setI y 407 k (-1), z, rfl, Or.inl ⟨u2, rfl⟩, ⟨h1.bas, h1.cnt, h1.pur, h1.clr, h1.fau, h1.cod, h1.sha, h1.fee, h1.law, h1.she, (pe0_upd h1.pe0 rfl ky rfl hm), h1.pic, h1.ord, h1.dra, h1.pi0, h1.sce, h1.sc0, h1.hal, h1.ha0, h1.shw, h1.pla, h1.cac, h1.ref⟩, h2, h3, rfl, ⟨a1, a2, c3, a4, ⟨a5.1, ?_⟩, a6, c7, c8, a9, fun v => absurd u3 v⟩, fun now B w e h => per_k h (fun F hF => rIw e) rfl rfl rfl (fun F hF => rfl) (fun k hk => rfl) (fun j hj => rfl)⟩
      have y7 : (setI y 407 k (-1)).1 407 k = -1 := sI_s
      rw [y7]
      by_cases r : ¬ z.2.1 1220 0 k = -1 ∧ nI (d + 1) < z.2.1 1220 0 k
      · have r' : nI d < z.2.1 1220 0 k := by
          have := r.2
          rw [Int32.lt_iff_toInt_lt, tD] at this
          rw [Int32.lt_iff_toInt_lt, td]; omega
        have a52 := a5.2
        rw [if_pos ⟨r.1, r'⟩] at a52
        rw [a52] at q
        exact absurd r.2 q
      · rw [if_neg r]
  · rw [u1]
    simp only [Option.elim_some, if_true]
    have hm : ∀ w', w' ≠ k → ∀ F, (1217 ≤ F ∧ F ≤ 1228) ∨ F = 1232 → (setA (setA z 1228 0 (upd (z.2.1 1228 0) k 0)) 1220 0 (upd (z.2.1 1220 0) k (-1))).2.1 F 0 w' = z.2.1 F 0 w' := by
      intro w' e F hF
      exact (rAw2 e rfl).trans (rAw2 e rfl)
    have y6 : (setI (setI y 406 k 0) 407 k (-1)).1 406 k = 0 := by rw [rIn (by decide)]; exact sI_s
    have y7 : (setI (setI y 406 k 0) 407 k (-1)).1 407 k = -1 := sI_s
    have z8 : (setA (setA z 1228 0 (upd (z.2.1 1228 0) k 0)) 1220 0 (upd (z.2.1 1220 0) k (-1))).2.1 1228 0 k = 0 := by rw [rAn (by decide), rAs]; exact pk_us
    have z0 : (setA (setA z 1228 0 (upd (z.2.1 1228 0) k 0)) 1220 0 (upd (z.2.1 1220 0) k (-1))).2.1 1220 0 k = -1 := by rw [rAs]; exact pk_us
    refine ⟨setI (setI y 406 k 0) 407 k (-1), _, rfl, Or.inr ⟨u2, rfl⟩, ⟨h1.bas, h1.cnt, h1.pur, h1.clr, h1.fau, h1.cod, h1.sha, h1.fee, h1.law, h1.she, (pe0_upd h1.pe0 rfl ky rfl hm), h1.pic, h1.ord, h1.dra, h1.pi0, h1.sce, h1.sc0, h1.hal, h1.ha0, h1.shw, h1.pla, h1.cac, h1.ref⟩, h2, h3, rfl, ⟨a1, a2, c3, ⟨?_, Or.inl y6⟩, ⟨?_, ?_⟩, a6, c7, c8, a9, fun v => ⟨y6, y7⟩⟩, fun now B w e h => per_k h (fun F hF => by rw [rIw e, rIw e]) rfl rfl rfl (hm w e) (fun k hk => rfl) (fun j hj => rfl)⟩
    · rw [y6, z8]
    · rw [z0]; unfold rng; decide
    · rw [z0, y7, if_neg (fun r => r.1 rfl)]
/-- all are settled at the new day -/
theorem l_settle {O P : Type} {B : Int32 × VM → (Int32 × VM) ⊕ O} {C : Int32 × VM → (Int32 × VM) ⊕ P} {fo : VM → O} {no dO : O} {fp : VM → P} {np dP : P} {d : Nat}
    (hB : ∀ v, B v = if (v.2.1 1113 0) ≤ v.1 then Sum.inr (fo v.2) else if inb v.1 16 = true then if v.1.toNatClampNeg < v.2.2.2.2 4 then (f_X4_settle v.2 v.1.toNatClampNeg (v.2.1 1116 0)).elim (Sum.inr no) (fun r11 => Sum.inl (v.1 + 1, r11)) else Sum.inr no else Sum.inr no)
    (hC : ∀ v, C v = if (v.2.1 1202 0) ≤ v.1 then Sum.inr (fp v.2) else (f_X12_isUnderOn v.2 v.1 (v.2.1 1200 0)).elim (Sum.inr np) (fun r8 => if r8 = 0 then if inb v.1 16 = true then if inb v.1 16 = true then Sum.inl (v.1 + 1, setA (setA v.2 1228 0 (upd (v.2.2.1 1228 0) v.1.toNatClampNeg 0)) 1220 0 (upd ((setA v.2 1228 0 (upd (v.2.2.1 1228 0) v.1.toNatClampNeg 0)).2.1 1220 0) v.1.toNatClampNeg (-1))) else Sum.inr np else Sum.inr np else Sum.inl (v.1 + 1, v.2)))
    (hd : d < 4000) (hN : InvN x m) (x1 : x.1 1116 0 = nI (d + 1)) (m1 : m.1 1200 0 = nI (d + 1)) (hP : ∀ w, w < x.2.2.2 4 → PerAt (nI d) (d + 3277) x m w) : ∃ y z, loopF dO B (0, x) = fo y ∧ loopF dP C (0, m) = fp z ∧ Inv y z ∧ y.1 1116 0 = nI (d + 1) := by
  obtain ⟨n1, n2⟩ := hN.bas.1.1
  obtain ⟨v, w, ⟨y, z, rfl, rfl, h1, h2, h3, h4, h5, h6⟩, q1, q2⟩ := lp_cnt2t (V := Int32 × VM) (W := Int32 × VM) (d := dO) (e := dP) (B := B) (C := C) (x.2.2.2 4) (fun k v w => ∃ y z, v = (nI k, y) ∧ w = (nI k, z) ∧ InvN y z ∧ y.1 1116 0 = nI (d + 1) ∧ z.1 1200 0 = nI (d + 1) ∧ y.2.2.2 = x.2.2.2 ∧ (∀ w, w < k → PerAt (nI (d + 1)) (d + 3277) y z w) ∧ ∀ w, k ≤ w → w < x.2.2.2 4 → PerAt (nI d) (d + 3277) y z w) (by
    rintro k v w hk ⟨y, z, rfl, rfl, h1, h2, h3, h4, h5, h6⟩
    have k16 : k < 16 := by omega
    have ky : k < y.2.2.2 4 := by rw [h4]; exact hk
    have c1 : y.1 1113 0 = nI (x.2.2.2 4) := by rw [h1.bas.1.1.1, h4]
    have c2 : z.1 1202 0 = nI (x.2.2.2 4) := by rw [h1.cnt.1, c1]
    have lt : ¬ nI (x.2.2.2 4) ≤ nI k := by rw [Int32.le_iff_toInt_le, tI (by omega), tI (by omega)]; omega
    have ein : inb (nI k) 16 = true := by rw [inb_T, tI (by omega)]; omega
    obtain ⟨y', z', p1, p2, p3, p4, p5, p6, p7, p8⟩ := settle_one hd h1 h2 h3 ky k16 (h6 k (Nat.le_refl _) hk)
    rw [hB, hC]
    simp only [c1, c2, if_neg lt, if_pos ein, nI_clamp (show k < 2 ^ 31 by omega), if_pos ky, nI_1, h2, h3, p1, Option.elim_some]
    refine ⟨(nI (k + 1), y'), (nI (k + 1), z'), rfl, ?_, y', z', rfl, rfl, p3, p4, p5, by rw [p6, h4], fun w hw => ?_, fun w hw hw4 => p8 _ _ w (by omega) (h6 w (by omega) hw4)⟩
    · rcases p2 with ⟨u1, u2⟩ | ⟨u1, u2⟩
      · rw [u1, u2]; rfl
      · rw [u1, u2]; rfl
    · by_cases e : w = k
      · rw [e]; exact p7
      · exact p8 _ _ w e (h5 w (by omega))) 0 (0, x) (0, m) (Nat.zero_le _) ⟨x, m, rfl, rfl, hN, x1, m1, rfl, fun w hw => by omega, fun w _ hw => hP w hw⟩
  have c1 : y.1 1113 0 = nI (x.2.2.2 4) := by rw [h1.bas.1.1.1, h4]
  have c2 : z.1 1202 0 = nI (x.2.2.2 4) := by rw [h1.cnt.1, c1]
  refine ⟨y, z, ?_, ?_, h1.full ⟨by rw [h2, h3], by rw [h2]; exact ⟨by rw [tI (by omega)]; omega, by rw [tI (by omega)]; omega⟩⟩ (fun w hw => ?_), h2⟩
  · rw [q1]
    apply lp_inr
    rw [hB]
    simp only [c1]
    rw [if_pos (Int32.le_refl _)]
  · rw [q2]
    apply lp_inr
    rw [hC]
    simp only [c2]
    rw [if_pos (Int32.le_refl _)]
  · rw [h2]
    rw [h4] at hw
    exact per_mono (h5 w hw) (by rw [tI (by omega)]; omega)
end
