/-! the cost of an order -/
theorem thereEq {n k : Nat} {ca tl : Nat → Nat} {r : Nat} (ho : isOrd n tl) (hk : k < n) (hr : ∀ s, r.testBit s = true ↔ s < n ∧ ∀ j, j < k + 1 → tl j ≠ s) : orB (fun j => ca (tl j)) (fun j => decide (j ≤ k)) n &&& orB (fun j => ca (tl j)) (fun j => decide (k ≤ j)) n = ca (tl k) ||| (orB (fun j => ca (tl j)) (fun _ => true) k &&& orB ca (fun s => r.testBit s) n) := by
  apply Nat.eq_of_testBit_eq
  intro b
  rw [Bool.eq_iff_iff, Nat.testBit_and, Nat.testBit_or, Nat.testBit_and, Bool.and_eq_true, Bool.or_eq_true, Bool.and_eq_true, orB_bit, orB_bit, orB_bit, orB_bit]
  constructor
  · rintro ⟨⟨j1, a1, a2, a3⟩, j2, b1, b2, b3⟩
    have a2' := of_decide_eq_true a2
    have b2' := of_decide_eq_true b2
    by_cases e1 : j1 = k
    · subst e1; exact Or.inl a3
    · by_cases e2 : j2 = k
      · subst e2; exact Or.inl b3
      · exact Or.inr ⟨⟨j1, by omega, rfl, a3⟩, tl j2, ho.1 j2 b1, (hr _).mpr ⟨ho.1 j2 b1, fun j hj e => by have := ho.2.1 j j2 (by omega) b1 e; omega⟩, b3⟩
  · rintro (h | ⟨⟨j1, a1, _, a3⟩, s, b1, b2, b3⟩)
    · exact ⟨⟨k, hk, decide_eq_true (Nat.le_refl _), h⟩, k, hk, decide_eq_true (Nat.le_refl _), h⟩
    · obtain ⟨j2, c1, c2⟩ := ho.2.2 s b1
      have c3 : k < j2 := by
        have := ((hr s).mp b2).2
        apply Nat.lt_of_not_le
        intro z
        exact this j2 (by omega) c2
      subst c2
      exact ⟨⟨j1, by omega, decide_eq_true (by omega), a3⟩, j2, c1, decide_eq_true (by omega), b3⟩
section
variable {x m : VM}
theorem l_there (hI : Inv x m) {i a : Nat} (i1 : i < x.2.2.2 5) (i2 : i < 8) (ha : a < x.2.2.2 (20 + i)) {tl : Nat → Nat} (ho : isOrd (x.2.2.2 (20 + i)) tl) (ht : ∀ j, j < x.2.2.2 (20 + i) → x.2.1 303 0 j = nI (tl j)) : f_X3_peopleThere x i (nI a) = some (nI (orB (fun j => caX x i (tl j)) (fun j => decide (j ≤ a)) (x.2.2.2 (20 + i)) &&& orB (fun j => caX x i (tl j)) (fun j => decide (a ≤ j)) (x.2.2.2 (20 + i)))) := by
  obtain ⟨n1, n2, n3⟩ := n_sce hI i1
  unfold f_X3_peopleThere
  refine lp_seq (fun k => (nI (orB (fun j => caX x i (tl j)) (fun j => decide (j ≤ a)) k), nI (orB (fun j => caX x i (tl j)) (fun j => decide (a ≤ j)) k), nI k)) (x.2.2.2 (20 + i)) _ (fun k hk => ?_) ?_
  · have hb := ho.1 k hk
    have hc := (caX_ok hI i1 hb).2.2.1
    unfold b_X3_peopleThere_8 j_X3_peopleThere_45
    have l1 : (nI a < nI k) = (a < k) := propext (nI_ltI (by omega) (by omega))
    have l2 : (nI k < nI a) = (k < a) := propext (nI_ltI (by omega) (by omega))
    simp (disch := omega) only [n1, if_pos, Int32.le_iff_toInt_le, l1, l2, tI, if_neg, inb_T, nI_clamp, ht k hk, d8, m8, hc, nI_or, nI_1]
    show _ = Sum.inl (nI (orB _ _ k ||| if decide (k ≤ a) = true then caX x i (tl k) else 0), nI (orB _ _ k ||| if decide (a ≤ k) = true then caX x i (tl k) else 0), nI (k + 1))
    simp only [decide_eq_true_eq]
    by_cases h1 : a < k
    · rw [if_pos h1, if_neg (show ¬ k ≤ a by omega), if_pos (show a ≤ k by omega), Nat.or_zero]
    · rw [if_neg h1]
      by_cases h2 : k < a
      · rw [if_pos h2, if_pos (show k ≤ a by omega), if_neg (show ¬ a ≤ k by omega), Nat.or_zero]
      · rw [if_neg h2, if_pos (show k ≤ a by omega), if_pos (show a ≤ k by omega)]
  · unfold b_X3_peopleThere_8
    simp only [n1, if_pos i1, if_pos (Int32.le_refl _), nI_and]
theorem l_cost (hI : Inv x m) {i : Nat} (i1 : i < x.2.2.2 5) (i2 : i < 8) {tl : Nat → Nat} (ho : isOrd (x.2.2.2 (20 + i)) tl) (ht : ∀ j, j < x.2.2.2 (20 + i) → x.2.1 303 0 j = nI (tl j) ∧ m.2.1 1271 0 j = nI (tl j)) : ∃ r, f_X3_costOf x i = some r ∧ f_X12_costOf m (nI i) = some r := by
  obtain ⟨n1, n2, n3⟩ := n_sce hI i1
  obtain ⟨g, g1, g2, g3, g4⟩ := chgN hI
  unfold f_X3_costOf f_X12_costOf
  rw [if_pos (inb8 i2), nI_clamp (show i < 2 ^ 31 by omega), n2, allB n3]
  refine lp_cnt2 (V := Int32 × Int32) (W := Int32 × Int32 × Int32 × Int32 × Int32) (d := none) (e := none) (x.2.2.2 (20 + i)) (fun k v w => ∃ c r, v = (c, nI k) ∧ w = (nI r, nI (orB (fun j => caX x i (tl j)) (fun _ => true) k), if k = 0 then -1 else x.1 800 (8 * i + tl (k - 1)), c, nI k) ∧ r < 256 ∧ ∀ s, r.testBit s = true ↔ s < x.2.2.2 (20 + i) ∧ ∀ j, j < k → tl j ≠ s) (fun o p => ∃ s, o = some s ∧ p = some s) ?_ ?_ 0 _ _ (Nat.zero_le _) ⟨0, 2 ^ x.2.2.2 (20 + i) - 1, rfl, rfl, all_lt n3, fun s => ?_⟩
  · rintro k v w hk ⟨c, r, rfl, rfl, r1, r2⟩
    left
    have hb := ho.1 k hk
    obtain ⟨ca1, ca2, ca3, ca4⟩ := caX_ok hI i1 hb
    obtain ⟨pa, pa1, pa2, pa3⟩ := plN hI i1 hb
    obtain ⟨da, da1, da2, da3, da4⟩ := dyN hI i1 hb
    have hdf : dfN r (2 ^ tl k) < 256 := by
      unfold dfN
      exact Nat.xor_lt_two_pow (n := 8) r1 (Nat.lt_of_le_of_lt Nat.and_le_left r1)
    have hdr : ∀ s, (dfN r (2 ^ tl k)).testBit s = true ↔ s < x.2.2.2 (20 + i) ∧ ∀ j, j < k + 1 → tl j ≠ s := by
      intro s
      rw [dfN_bit, Bool.and_eq_true, r2 s, Nat.testBit_two_pow, Bool.not_eq_true', decide_eq_false_iff_not]
      constructor
      · rintro ⟨⟨a1, a2⟩, a3⟩
        refine ⟨a1, fun j hj e => ?_⟩
        by_cases e2 : j = k
        · subst e2; exact a3 e
        · exact a2 j (by omega) e
      · rintro ⟨a1, a2⟩
        exact ⟨⟨a1, fun j hj => a2 j (by omega)⟩, a2 k (by omega)⟩
    have th := thereEq (ca := caX x i) ho hk hdr
    have lt : caX x i (tl k) ||| (orB (fun j => caX x i (tl j)) (fun _ => true) k &&& orB (caX x i) (fun s => (dfN r (2 ^ tl k)).testBit s) (x.2.2.2 (20 + i))) < 65536 := Nat.or_lt_two_pow (n := 16) ca2 (Nat.and_lt_two_pow _ (or_all_lt hI i1 _))
    have pt := l_there hI i1 i2 hk ho (fun j hj => (ht j hj).1)
    rw [th] at pt
    have dc := l_dc hI (Nat.lt_trans lt (by decide))
    obtain ⟨dp, dp1, dp2⟩ := l_dp hI (Nat.lt_trans lt (by decide))
    have iS := l_inS hI i1 i2 hdf
    have stp : ∀ st, f_X12_step m (nI i) (nI (tl k)) st (nI (orB (fun j => caX x i (tl j)) (fun _ => true) k)) (nI (dfN r (2 ^ tl k))) = some (nI da * nI (dD x (caX x i (tl k) ||| (orB (fun j => caX x i (tl j)) (fun _ => true) k &&& orB (caX x i) (fun s => (dfN r (2 ^ tl k)).testBit s) (x.2.2.2 (20 + i))))) + if nI pa = st then 0 else nI g) := by
      intro st
      unfold f_X12_step
      simp (disch := omega) only [lm_8, nI_add, inb_T, tI, if_pos, nI_clamp, iS, Option.elim_some, ca4, nI_and, nI_or, dp1, pa3, da4, dp2, g3]
      split <;> rfl
    have bm : b_X12_costOf_22 m (nI i) (nI r, nI (orB (fun j => caX x i (tl j)) (fun _ => true) k), (if k = 0 then -1 else x.1 800 (8 * i + tl (k - 1))), c, nI k) = Sum.inl (nI (dfN r (2 ^ tl k)), nI (orB (fun j => caX x i (tl j)) (fun _ => true) (k + 1)), nI pa, c + (nI da * nI (dD x (caX x i (tl k) ||| (orB (fun j => caX x i (tl j)) (fun _ => true) k &&& orB (caX x i) (fun s => (dfN r (2 ^ tl k)).testBit s) (x.2.2.2 (20 + i))))) + if nI pa = (if k = 0 then -1 else x.1 800 (8 * i + tl (k - 1))) then 0 else nI g), nI (k + 1)) := by
      unfold b_X12_costOf_22
      simp (disch := omega) only [n2, inb_T, tI, if_pos, nI_clamp, Int32.le_iff_toInt_le, if_neg, (ht k hk).2, shl1 (tl k) (by omega), nI_df, stp, Option.elim_some, lm_8, nI_add, ca4, pa3, nI_or, nI_1]
      rfl
    have bx : b_X3_costOf_4 x i (c, nI k) = Sum.inl (c + (nI da * nI (dD x (caX x i (tl k) ||| (orB (fun j => caX x i (tl j)) (fun _ => true) k &&& orB (caX x i) (fun s => (dfN r (2 ^ tl k)).testBit s) (x.2.2.2 (20 + i))))) + if nI pa = (if k = 0 then -1 else x.1 800 (8 * i + tl (k - 1))) then 0 else nI g), nI (k + 1)) := by
      have hne : ¬ nI pa = -1 := by rw [i32eq, tI (by omega), t_m1]; omega
      have fin : ∀ a, j_X3_costOf_60 x i (c, nI k) a = Sum.inl (a + nI da * nI (dD x (caX x i (tl k) ||| (orB (fun j => caX x i (tl j)) (fun _ => true) k &&& orB (caX x i) (fun s => (dfN r (2 ^ tl k)).testBit s) (x.2.2.2 (20 + i))))), nI (k + 1)) := by
        intro a
        unfold j_X3_costOf_60
        simp (disch := omega) only [(ht k hk).1, nI_clamp, d8, m8, if_pos, pt, dc, Option.elim_some, da3, nI_1]
      have ha1 : ∀ b : Int32, c + (b + nI g) = c + nI g + b := fun b => by rw [Int32.add_comm b, Int32.add_assoc]
      unfold b_X3_costOf_4 j_X3_costOf_53
      rcases Nat.eq_zero_or_pos k with e0 | e0
      · subst e0
        have k0 : nI 0 = (0 : Int32) := rfl
        have lt0 : ¬ nI (x.2.2.2 (20 + i)) ≤ nI 0 := by rw [Int32.le_iff_toInt_le, tI (by omega), tI (by omega)]; omega
        simp (disch := omega) only [n1, if_pos, if_neg lt0, tI, inb_T, nI_clamp, (ht 0 hk).1, if_pos k0, fin, g2]
        rw [if_pos True.intro, if_neg hne, ha1]
      · obtain ⟨k', rfl⟩ : ∃ k', k = k' + 1 := ⟨k - 1, by omega⟩
        have hk' : k' < x.2.2.2 (20 + i) := by omega
        have hb' := ho.1 k' hk'
        have kz : ¬ nI (k' + 1) = 0 := nI_ne0 (by omega) (by omega)
        have lt0 : ¬ nI (x.2.2.2 (20 + i)) ≤ nI (k' + 1) := by rw [Int32.le_iff_toInt_le, tI (by omega), tI (by omega)]; omega
        simp (disch := omega) only [n1, if_neg lt0, if_neg kz, if_pos, tI, inb_T, nI_clamp, (ht (k' + 1) hk).1, nI_pred, (ht k' hk').1, d8, m8, fin, g2, Nat.add_sub_cancel]
        rw [if_neg (show ¬ k' + 1 = 0 by omega), pa2]
        by_cases e : x.1 800 (8 * i + tl k') = nI pa
        · rw [if_pos e, if_pos e.symm, Int32.add_zero]
        · rw [if_neg e, if_neg (fun z => e z.symm), ha1]
    refine ⟨_, _, bx, bm, _, _, rfl, ?_, hdf, hdr⟩
    rw [if_neg (Nat.succ_ne_zero k), Nat.add_sub_cancel, pa2]
  · rintro v w ⟨c, r, rfl, rfl, r1, r2⟩
    unfold b_X3_costOf_4 b_X12_costOf_22
    simp only [n1, n2, if_pos i1, if_pos (inb8 i2), nI_clamp (show i < 2 ^ 31 by omega), if_pos (Int32.le_refl _)]
    exact ⟨_, _, rfl, rfl, _, rfl, rfl⟩
  · rw [Nat.testBit_two_pow_sub_one, decide_eq_true_iff]
    exact ⟨fun h => ⟨h, fun j hj => by omega⟩, fun h => h.1⟩
end
theorem s_judge : S_judge Inv := by
  intro x m p q hI
  show Sm Inv _ _
  unfold f_X11_judge f_X12_judge f_X11_orderLack
  rcases c_pic hI p with ⟨e1, e2⟩ | ⟨i, i1, i2, rfl, e1, e2⟩
  · rw [e1, e2]; simp (disch := omega) only [Int32.lt_iff_toInt_lt, Int32.le_iff_toInt_le, i32eq, tI, t_0, t_1, t_2, t_3, t_4, t_5, t_6, t_7, t_8, t_9, t_10, t_16, t_31, t_40, t_48, t_50, t_52, t_57, t_60, t_61, t_64, t_90, t_99, t_100, t_108, t_112, t_114, t_115, t_119, t_121, t_200, t_256, t_364, t_400, t_480, t_960, t_999, t_1000, t_4000, t_99999, t_1000000000, t_2147483647, t_m1, t_m2, t_m3, t_m4, t_m5, t_m6, t_m7, t_m1000, nI_clamp, inb_T, Option.elim_some, Option.elim_none, if_pos, if_neg, rfx1, rfm1, rfx2, rfm2, rfx3, rfm3, rfx4, rfm4, rfx5, rfm5, rfx6, rfm6, rfx7, rfm7, nI_add, pk_mul, lm_2, lm_4, lm_5, lm_7, lm_8, lm_10, lm_40, lm_60, lm_61, lm_364, lm_1000, la_1, al_1, la_10, al_10, la_11, al_11, la_100, al_100, la_364, al_364, d8, m8, ↓reduceIte, rA1, rA3, rI2, rJ1, rJ2, rJ4, rN1, rN2, rN3, rAs, rIs, rJs, rAn, rIn, rJn]; exact Sm.mk rfl (hI.ref1 0)
  · rw [e1, e2]
    rcases c_row hI q with ⟨f1, f2, f3⟩ | ⟨s, s8, rfl, f3, h | h | h⟩
    · simp (disch := omega) only [Int32.lt_iff_toInt_lt, Int32.le_iff_toInt_le, i32eq, tI, t_0, t_1, t_2, t_3, t_4, t_5, t_6, t_7, t_8, t_9, t_10, t_16, t_31, t_40, t_48, t_50, t_52, t_57, t_60, t_61, t_64, t_90, t_99, t_100, t_108, t_112, t_114, t_115, t_119, t_121, t_200, t_256, t_364, t_400, t_480, t_960, t_999, t_1000, t_4000, t_99999, t_1000000000, t_2147483647, t_m1, t_m2, t_m3, t_m4, t_m5, t_m6, t_m7, t_m1000, nI_clamp, inb_T, Option.elim_some, Option.elim_none, if_pos, if_neg, rfx1, rfm1, rfx2, rfm2, rfx3, rfm3, rfx4, rfm4, rfx5, rfm5, rfx6, rfm6, rfx7, rfm7, nI_add, pk_mul, lm_2, lm_4, lm_5, lm_7, lm_8, lm_10, lm_40, lm_60, lm_61, lm_364, lm_1000, la_1, al_1, la_10, al_10, la_11, al_11, la_100, al_100, la_364, al_364, d8, m8, ↓reduceIte, rA1, rA3, rI2, rJ1, rJ2, rJ4, rN1, rN2, rN3, rAs, rIs, rJs, rAn, rIn, rJn, f1, f2]; exact Sm.mk rfl (hI.ref1 0)
    · simp (disch := omega) only [Int32.lt_iff_toInt_lt, Int32.le_iff_toInt_le, i32eq, tI, t_0, t_1, t_2, t_3, t_4, t_5, t_6, t_7, t_8, t_9, t_10, t_16, t_31, t_40, t_48, t_50, t_52, t_57, t_60, t_61, t_64, t_90, t_99, t_100, t_108, t_112, t_114, t_115, t_119, t_121, t_200, t_256, t_364, t_400, t_480, t_960, t_999, t_1000, t_4000, t_99999, t_1000000000, t_2147483647, t_m1, t_m2, t_m3, t_m4, t_m5, t_m6, t_m7, t_m1000, nI_clamp, inb_T, Option.elim_some, Option.elim_none, if_pos, if_neg, rfx1, rfm1, rfx2, rfm2, rfx3, rfm3, rfx4, rfm4, rfx5, rfm5, rfx6, rfm6, rfx7, rfm7, nI_add, pk_mul, lm_2, lm_4, lm_5, lm_7, lm_8, lm_10, lm_40, lm_60, lm_61, lm_364, lm_1000, la_1, al_1, la_10, al_10, la_11, al_11, la_100, al_100, la_364, al_364, d8, m8, ↓reduceIte, rA1, rA3, rI2, rJ1, rJ2, rJ4, rN1, rN2, rN3, rAs, rIs, rJs, rAn, rIn, rJn, h.1, h.2.1]; exact Sm.mk rfl (hI.ref1 1)
    · simp (disch := omega) only [Int32.lt_iff_toInt_lt, Int32.le_iff_toInt_le, i32eq, tI, t_0, t_1, t_2, t_3, t_4, t_5, t_6, t_7, t_8, t_9, t_10, t_16, t_31, t_40, t_48, t_50, t_52, t_57, t_60, t_61, t_64, t_90, t_99, t_100, t_108, t_112, t_114, t_115, t_119, t_121, t_200, t_256, t_364, t_400, t_480, t_960, t_999, t_1000, t_4000, t_99999, t_1000000000, t_2147483647, t_m1, t_m2, t_m3, t_m4, t_m5, t_m6, t_m7, t_m1000, nI_clamp, inb_T, Option.elim_some, Option.elim_none, if_pos, if_neg, rfx1, rfm1, rfx2, rfm2, rfx3, rfm3, rfx4, rfm4, rfx5, rfm5, rfx6, rfm6, rfx7, rfm7, nI_add, pk_mul, lm_2, lm_4, lm_5, lm_7, lm_8, lm_10, lm_40, lm_60, lm_61, lm_364, lm_1000, la_1, al_1, la_10, al_10, la_11, al_11, la_100, al_100, la_364, al_364, d8, m8, ↓reduceIte, rA1, rA3, rI2, rJ1, rJ2, rJ4, rN1, rN2, rN3, rAs, rIs, rJs, rAn, rIn, rJn, h.1, h.2.1]; exact Sm.mk rfl (hI.ref1 2)
    · simp only [Option.elim_some, h.1, h.2.1, if_neg n10, if_true, if_pos (inb8 s8), nI_clamp (show s < 2 ^ 31 by omega)]
      rcases l_read hI i1 i2 s8 h.2.2 with ⟨u, u', a1, a2⟩ | ⟨u, u', tl, a1, a2, a3, a4⟩
      · rw [a1, a2]
        have hJ : Inv (setA x 303 0 u) (setA m 1271 0 u') := ⟨hI.bas, hI.cnt, hI.now, hI.pur, hI.clr, hI.fau, hI.cod, hI.sha, hI.fee, hI.law, hI.she, hI.per, hI.pe0, hI.pic, hI.ord, hI.dra, hI.pi0, hI.sce, hI.sc0, hI.hal, hI.ha0, hI.shw, hI.pla, hI.cac, hI.ref⟩
        simp (disch := omega) only [Int32.lt_iff_toInt_lt, Int32.le_iff_toInt_le, i32eq, tI, t_0, t_1, t_2, t_3, t_4, t_5, t_6, t_7, t_8, t_9, t_10, t_16, t_31, t_40, t_48, t_50, t_52, t_57, t_60, t_61, t_64, t_90, t_99, t_100, t_108, t_112, t_114, t_115, t_119, t_121, t_200, t_256, t_364, t_400, t_480, t_960, t_999, t_1000, t_4000, t_99999, t_1000000000, t_2147483647, t_m1, t_m2, t_m3, t_m4, t_m5, t_m6, t_m7, t_m1000, nI_clamp, inb_T, Option.elim_some, Option.elim_none, if_pos, if_neg, rfx1, rfm1, rfx2, rfm2, rfx3, rfm3, rfx4, rfm4, rfx5, rfm5, rfx6, rfm6, rfx7, rfm7, nI_add, pk_mul, lm_2, lm_4, lm_5, lm_7, lm_8, lm_10, lm_40, lm_60, lm_61, lm_364, lm_1000, la_1, al_1, la_10, al_10, la_11, al_11, la_100, al_100, la_364, al_364, d8, m8, ↓reduceIte, rA1, rA3, rI2, rJ1, rJ2, rJ4, rN1, rN2, rN3, rAs, rIs, rJs, rAn, rIn, rJn]
        exact Sm.mk rfl (hJ.ref1 5)
      · rw [a1, a2]
        have hJ : Inv (setA x 303 0 u) (setA m 1271 0 u') := ⟨hI.bas, hI.cnt, hI.now, hI.pur, hI.clr, hI.fau, hI.cod, hI.sha, hI.fee, hI.law, hI.she, hI.per, hI.pe0, hI.pic, hI.ord, hI.dra, hI.pi0, hI.sce, hI.sc0, hI.hal, hI.ha0, hI.shw, hI.pla, hI.cac, hI.ref⟩
        have i1' : i < (setA x 303 0 u).2.2.2 5 := i1
        obtain ⟨r, r1, r2⟩ := l_cost hJ i1 i2 (tl := tl) a3 (fun j hj => by rw [rAs, rAs]; exact a4 j hj)
        simp only [Option.elim_some, if_neg n10, if_true, if_pos (inb8 i2), nI_clamp (show i < 2 ^ 31 by omega), if_pos i1', r1, r2]
        exact Sm.mk rfl hJ
