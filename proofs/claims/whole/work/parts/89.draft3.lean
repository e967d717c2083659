section
variable {x m : VM} {p s n z : Nat} {h : Int32}
/-- what the reference ends with: y is its state behind the walk -/
def endM (m y : VM) (p s z : Nat) (c : Int32) (o : (Int32 × VM) ⊕ Option (Int32 × VM)) : Prop := ∃ J K, o = Sum.inr (some (c, setA (setA (setJ (setA y 1248 0 (upd (y.2.1 1248 0) p (nI z))) 1250 0 J) 1249 0 K) 1247 0 (upd (y.2.1 1247 0) p (y.2.1 1247 0 p + 1)))) ∧ (∀ j, j < z → J (60 * p + j) = y.2.2.1 1215 0 (60 * s + j) ∧ K (60 * p + j) = y.2.1 1277 0 j) ∧ ∀ q, (q < 60 * p ∨ 60 * p + 60 ≤ q) → J q = y.2.2.1 1250 0 q ∧ K q = y.2.1 1249 0 q
theorem exitM {y : VM} {v17 v19 : Int32 × VM} {i j k : Nat} (p8 : p < 8) (s8 : s < 8) (hn : m.2.1 1248 0 p = nI n) (n60 : n ≤ 60) (hz : m.2.1 1213 0 s = nI z) (z60 : z ≤ 60) (hi : i ≤ n) (hj : j ≤ z) (he : i = n ∨ j = z) : ∃ o, b_X12_draft_312 m (nI p) h (nI s) v17 v19 (nI i, nI j, nI k, y) = Sum.inr (Sum.inr o) ∧ endM m y p s z (nI k) o := by
  unfold b_X12_draft_312
  rw [nI_clamp (by omega), nI_clamp (by omega), hn, hz]
  by_cases e : i = n
  · rw [if_pos (by rw [e]; exact Int32.le_refl _), if_pos (inb8 p8)]
    obtain ⟨J, K, h1, h2, h3⟩ := layM (m := m) (h := h) (y := setA y 1248 0 (upd (y.2.1 1248 0) p (nI z))) (v17 := v17) (v19 := v19) (v21 := (nI i, nI j, nI k, y)) p8 s8 hz z60 _ (Or.inl rfl)
    exact ⟨_, h1, J, K, rfl, h2, h3⟩
  · rw [if_neg (by rw [Int32.le_iff_toInt_le, tI (by omega), tI (by omega)]; omega), if_pos (by rw [he.resolve_left e]; exact Int32.le_refl _), if_pos (inb8 p8)]
    obtain ⟨J, K, h1, h2, h3⟩ := layM (m := m) (h := h) (y := setA y 1248 0 (upd (y.2.1 1248 0) p (nI z))) (v17 := v17) (v19 := v19) (v21 := (nI i, nI j, nI k, y)) p8 s8 hz z60 _ (Or.inr rfl)
    exact ⟨_, h1, J, K, rfl, h2, h3⟩
theorem walkXM {x2 m2 : VM} {v17 v19 : Int32 × VM} {a b : Nat → Int64} (p1 : p < x2.2.2.2 5) (p8 : p < 8) (s8 : s < 8) (hn : m.2.1 1248 0 p = nI n) (n60 : n ≤ 60) (hz : m.2.1 1213 0 s = nI z) (z60 : z ≤ 60) (xn : x2.1 512 p = nI n) (xz : x2.1 902 s = nI z) (xa : x2.2.2.1 510 p = a) (xb : x2.2.2.1 900 s = b) (ma : ∀ i, i < n → m2.2.2.1 1250 0 (60 * p + i) = a i) (mb : ∀ j, j < z → m2.2.2.1 1215 0 (60 * s + j) = b j) (mh : ∀ i, i < n → m2.2.1 1249 0 (60 * p + i) = x2.2.1 511 p i) (xT : ∀ i j, i ≤ n → j ≤ z → x2.2.1 0 0 (61 * i + j) = nI (Lr a b n z i j)) (mT : ∀ i j, i ≤ n → j ≤ z → m2.2.1 1276 0 (61 * i + j) = nI (Lr a b n z i j)) (hH : ∀ j, j < z → x2.2.1 1 0 j = m2.2.1 1277 0 j) : ∃ H H' o, f_X0_keepHands x2 p s = some (setA x2 1 0 H) ∧ loopF (Sum.inr (Sum.inr none)) (b_X12_draft_312 m (nI p) h (nI s) v17 v19) (0, 0, 0, m2) = Sum.inr o ∧ endM m (setA m2 1277 0 H') p s z (nI (Lr a b n z 0 0)) o ∧ ∀ j, j < z → H j = H' j := by
  unfold f_X0_keepHands
  rw [if_pos p1, if_pos s8]
  refine lp_rel (V := Int32 × Int32 × Int32 × VM) (W := Int32 × Int32 × Int32 × VM) (d := none) (e := Sum.inr (Sum.inr none)) (fun k v w => ∃ i j st c H H', v = (nI i, nI j, nI st, setA x2 1 0 H) ∧ w = (nI i, nI j, nI c, setA m2 1277 0 H') ∧ i ≤ n ∧ j ≤ z ∧ st ≤ i + j ∧ c + Lr a b n z i j = Lr a b n z 0 0 ∧ (∀ t, t < z → H t = H' t) ∧ k = (n - i) + (z - j)) (fun o o' => ∃ H H' q, o = some (setA x2 1 0 H) ∧ o' = Sum.inr q ∧ endM m (setA m2 1277 0 H') p s z (nI (Lr a b n z 0 0)) q ∧ ∀ j, j < z → H j = H' j) ?_ (n + z) (0, 0, 0, x2) (0, 0, 0, m2) ⟨0, 0, 0, 0, x2.2.1 1 0, m2.2.1 1277 0, by rw [setA_id]; rfl, by rw [setA_id]; rfl, by omega, by omega, by omega, by omega, hH, by omega⟩
  rintro k v w ⟨i, j, st, c, H, H', rfl, rfl, hi, hj, hst, hc, hHH, rfl⟩
  have xn' : (setA x2 1 0 H).1 512 p = nI n := xn
  have xz' : (setA x2 1 0 H).1 902 s = nI z := xz
  have p1' : p < (setA x2 1 0 H).2.2.2 5 := p1
  by_cases ee : i = n ∨ j = z
  · right
    have hc0 : Lr a b n z i j = 0 := by rcases ee with rfl | rfl; exact Lr_n; exact Lr_z
    obtain ⟨o, o1, o2⟩ := exitM (m := m) (h := h) (y := setA m2 1277 0 H') (v17 := v17) (v19 := v19) (k := c) p8 s8 hn n60 hz z60 hi hj ee
    refine ⟨some (setA x2 1 0 H), Sum.inr o, ?_, o1, H, H', o, rfl, rfl, by rw [show Lr a b n z 0 0 = c by omega]; exact o2, hHH⟩
    unfold b_X0_keepHands_19
    simp only [xn, xz, xn', xz', if_pos p1', if_pos s8]
    by_cases g : nI n + nI z ≤ nI st
    · rw [if_pos g]
    · rw [if_neg g]
      by_cases e : i = n
      · rw [if_pos (by rw [e]; exact Int32.le_refl _)]
      · rw [if_neg (by rw [Int32.le_iff_toInt_le, tI (by omega), tI (by omega)]; omega), if_pos (by rw [ee.resolve_left e]; exact Int32.le_refl _)]
  · left
    have hin : i < n := by omega
    have hjz : j < z := by omega
    have c60 := Lr_le (a := a) (b := b) (n := n) (z := z) (i := 0) (j := 0)
    have l0 := Lr_le (a := a) (b := b) (n := n) (z := z) (i := i) (j := j)
    have l1 := Lr_le (a := a) (b := b) (n := n) (z := z) (i := i + 1) (j := j + 1)
    have l2 := Lr_le (a := a) (b := b) (n := n) (z := z) (i := i + 1) (j := j)
    have rec1 := Lr_s (a := a) (b := b) hin hjz
    have g : ¬ nI n + nI z ≤ nI st := by rw [nI_add, Int32.le_iff_toInt_le, tI (by omega), tI (by omega)]; omega
    have gi : ¬ nI n ≤ nI i := by rw [Int32.le_iff_toInt_le, tI (by omega), tI (by omega)]; omega
    have gj : ¬ nI z ≤ nI j := by rw [Int32.le_iff_toInt_le, tI (by omega), tI (by omega)]; omega
    have ii : inb (nI i) 60 = true := by rw [inb_T, tI (by omega)]; omega
    have ij : inb (nI j) 60 = true := by rw [inb_T, tI (by omega)]; omega
    have e2 : (nI i + 1) * 61 + nI j = nI (61 * (i + 1) + j) := by rw [nI_1, show (61 : Int32) = nI 61 from rfl, pk_mul, nI_add, Nat.mul_comm]
    have e0 : nI i * 61 + nI j = nI (61 * i + j) := by rw [show (61 : Int32) = nI 61 from rfl, pk_mul, nI_add, Nat.mul_comm]
    have f1 : 61 * (nI i + 1) + nI j + 1 = nI (61 * (i + 1) + (j + 1)) := by rw [nI_1, lm_61, nI_add, nI_1, Nat.add_assoc]
    have f2 : 61 * (nI i + 1) + nI j = nI (61 * (i + 1) + j) := by rw [nI_1, lm_61, nI_add]
    have f0 : 61 * nI i + nI j = nI (61 * i + j) := by rw [lm_61, nI_add]
    have e2' : nI (i + 1) * 61 + nI j = nI (61 * (i + 1) + j) := by rw [← nI_1]; exact e2
    have f1' : 61 * nI (i + 1) + nI j + 1 = nI (61 * (i + 1) + (j + 1)) := by rw [← nI_1 i]; exact f1
    have f2' : 61 * nI (i + 1) + nI j = nI (61 * (i + 1) + j) := by rw [← nI_1]; exact f2
    have i1 : inb (nI (61 * (i + 1) + (j + 1))) 3721 = true := by rw [inb_T, tI (by omega)]; omega
    have i2 : inb (nI (61 * (i + 1) + j)) 3721 = true := by rw [inb_T, tI (by omega)]; omega
    have i0 : inb (nI (61 * i + j)) 3721 = true := by rw [inb_T, tI (by omega)]; omega
    have a1 : inb (60 * nI p + nI i) 480 = true := by rw [lm_60, nI_add, inb_T, tI (by omega)]; omega
    have a2 : inb (60 * nI s + nI j) 480 = true := by rw [lm_60, nI_add, inb_T, tI (by omega)]; omega
    have c1 : (60 * nI p + nI i).toNatClampNeg = 60 * p + i := by rw [lm_60, nI_add, nI_clamp (by omega)]
    have c2 : (60 * nI s + nI j).toNatClampNeg = 60 * s + j := by rw [lm_60, nI_add, nI_clamp (by omega)]
    have xT1 : (setA x2 1 0 H).2.1 0 0 (61 * (i + 1) + j) = nI (Lr a b n z (i + 1) j) := xT _ _ (by omega) (by omega)
    have xT0 : (setA x2 1 0 H).2.1 0 0 (61 * i + j) = nI (Lr a b n z i j) := xT _ _ (by omega) (by omega)
    have mT2 : (setA m2 1277 0 H').2.1 1276 0 (61 * (i + 1) + (j + 1)) = nI (Lr a b n z (i + 1) (j + 1)) := mT _ _ (by omega) (by omega)
    have mT1 : (setA m2 1277 0 H').2.1 1276 0 (61 * (i + 1) + j) = nI (Lr a b n z (i + 1) j) := mT _ _ (by omega) (by omega)
    have mT0 : (setA m2 1277 0 H').2.1 1276 0 (61 * i + j) = nI (Lr a b n z i j) := mT _ _ (by omega) (by omega)
    have xh : (setA x2 1 0 H).2.1 511 p i = x2.2.1 511 p i := rfl
    have mh' : (setA m2 1277 0 H').2.1 1249 0 (60 * p + i) = x2.2.1 511 p i := mh i hin
    by_cases c3 : a i = b j
    · rw [if_pos c3] at rec1
      have q1 : nI (Lr a b n z (i + 1) (j + 1) + 1) = nI (Lr a b n z i j) := by rw [rec1, Nat.add_comm]
      refine ⟨(n - (i + 1)) + (z - (j + 1)), (nI (i + 1), nI (j + 1), nI (st + 1), setA x2 1 0 (upd H j (x2.2.1 511 p i))), (nI (i + 1), nI (j + 1), nI (c + 1), setA m2 1277 0 (upd H' j (x2.2.1 511 p i))), by omega, ?_, ?_, i + 1, j + 1, st + 1, c + 1, _, _, rfl, rfl, by omega, by omega, by omega, by omega, fun t ht => ?_, rfl⟩
      · unfold b_X0_keepHands_19
        simp only [xn, xz, xn', xz', if_pos p1, if_pos s8, if_neg g, if_neg gi, if_neg gj, if_pos ii, if_pos ij, nI_clamp (show i < 2 ^ 31 by omega), nI_clamp (show j < 2 ^ 31 by omega), rA3, xa, xb, lg0, if_pos c3, xh, sA_s, setAA, nI_1]
      · unfold b_X12_draft_312
        simp only [nI_clamp (show p < 2 ^ 31 by omega), nI_clamp (show s < 2 ^ 31 by omega), hn, hz, if_neg gi, if_neg gj, f0, f1', if_pos i0, if_pos a1, if_pos a2, c1, c2, rA3, ma i hin, mb j hjz, lg0, if_pos c3, if_pos i1, nI_clamp (show 61 * (i + 1) + (j + 1) < 2 ^ 31 by omega), nI_clamp (show 61 * i + j < 2 ^ 31 by omega), mT2, mT0, q1, if_true, if_pos ij, nI_clamp (show j < 2 ^ 31 by omega), mh', sA_s, setAA, nI_1]
      · by_cases e : t = j
        · subst e; rw [pk_us, pk_us]
        · rw [u_n e, u_n e]; exact hHH t ht
    · rw [if_neg c3] at rec1
      by_cases c4 : nI (Lr a b n z (i + 1) j) = nI (Lr a b n z i j)
      · have c4' : Lr a b n z (i + 1) j = Lr a b n z i j := (nI_eq (by omega) (by omega)).mp c4
        refine ⟨(n - (i + 1)) + (z - j), (nI (i + 1), nI j, nI (st + 1), setA x2 1 0 H), (nI (i + 1), nI j, nI c, setA m2 1277 0 H'), by omega, ?_, ?_, i + 1, j, st + 1, c, _, _, rfl, rfl, by omega, by omega, by omega, by omega, hHH, rfl⟩
        · unfold b_X0_keepHands_19
          simp only [xn, xz, xn', xz', if_pos p1, if_pos s8, if_neg g, if_neg gi, if_neg gj, if_pos ii, if_pos ij, nI_clamp (show i < 2 ^ 31 by omega), nI_clamp (show j < 2 ^ 31 by omega), rA3, xa, xb, lg0, if_neg c3, e2', e0, if_pos i2, if_pos i0, nI_clamp (show 61 * (i + 1) + j < 2 ^ 31 by omega), nI_clamp (show 61 * i + j < 2 ^ 31 by omega), xT1, xT0, if_pos c4, nI_1]
        · unfold b_X12_draft_312 j_X12_draft_424
          simp only [nI_clamp (show p < 2 ^ 31 by omega), nI_clamp (show s < 2 ^ 31 by omega), hn, hz, if_neg gi, if_neg gj, f0, f2', if_pos i0, if_pos i2, if_pos a1, if_pos a2, c1, c2, rA3, ma i hin, mb j hjz, lg0, if_neg c3, nI_clamp (show 61 * (i + 1) + j < 2 ^ 31 by omega), nI_clamp (show 61 * i + j < 2 ^ 31 by omega), mT1, mT0, if_pos c4, nI_1]
      · have c4' : Lr a b n z (i + 1) j ≠ Lr a b n z i j := fun q => c4 (by rw [q])
        have c5 : Lr a b n z i (j + 1) = Lr a b n z i j := by omega
        refine ⟨(n - i) + (z - (j + 1)), (nI i, nI (j + 1), nI (st + 1), setA x2 1 0 H), (nI i, nI (j + 1), nI c, setA m2 1277 0 H'), by omega, ?_, ?_, i, j + 1, st + 1, c, _, _, rfl, rfl, by omega, by omega, by omega, by omega, hHH, rfl⟩
        · unfold b_X0_keepHands_19
          simp only [xn, xz, xn', xz', if_pos p1, if_pos s8, if_neg g, if_neg gi, if_neg gj, if_pos ii, if_pos ij, nI_clamp (show i < 2 ^ 31 by omega), nI_clamp (show j < 2 ^ 31 by omega), rA3, xa, xb, lg0, if_neg c3, e2', e0, if_pos i2, if_pos i0, nI_clamp (show 61 * (i + 1) + j < 2 ^ 31 by omega), nI_clamp (show 61 * i + j < 2 ^ 31 by omega), xT1, xT0, if_neg c4, nI_1]
        · unfold b_X12_draft_312 j_X12_draft_424
          simp only [nI_clamp (show p < 2 ^ 31 by omega), nI_clamp (show s < 2 ^ 31 by omega), hn, hz, if_neg gi, if_neg gj, f0, f2', if_pos i0, if_pos i2, if_pos a1, if_pos a2, c1, c2, rA3, ma i hin, mb j hjz, lg0, if_neg c3, nI_clamp (show 61 * (i + 1) + j < 2 ^ 31 by omega), nI_clamp (show 61 * i + j < 2 ^ 31 by omega), mT1, mT0, if_neg c4, nI_1]
end
