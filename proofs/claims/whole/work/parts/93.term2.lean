section
variable {x m : VM} {s n : Nat}
def isDg (g : Int32) : Prop := 48 ≤ g.toInt ∧ g.toInt ≤ 57
theorem dgN {g : Int32} (h : isDg g) : ∃ c, c ≤ 9 ∧ g = nI (48 + c) ∧ g - 48 = nI c := by
  obtain ⟨h1, h2⟩ := h
  rcases ar g 48 57 (by decide) with q | q | ⟨k, k1, k2, rfl⟩
  · omega
  · omega
  · refine ⟨k - 48, by omega, by rw [show 48 + (k - 48) = k by omega], ?_⟩
    exact pk_sub (a := k) (b := 48) k1
theorem fDg {op : Int32} {cl : Nat → Int32} {a : Nat} (s8 : s < 8) (hn : x.1 902 s = nI n) (n60 : n ≤ 60) (ha : a < n) (hd : isDg (x.2.2.1 900 s a).toInt32) : b_X10_findFault_2 x s (nI a, tX x op cl) = (f_X10_addDigit (tX x op cl) ((x.2.2.1 900 s a).toInt32 - 48)).elim (Sum.inr none) (fun r => if r.1 = 0 then Sum.inr (some (nI a, r.2)) else Sum.inl (nI (a + 1), r.2)) := by
  have h2 : (tX x op cl).1 902 s = nI n := hn
  have h3 : (tX x op cl).2.2.1 900 s = x.2.2.1 900 s := rfl
  have t48 : (48 : Int32).toInt = 48 := rfl
  unfold isDg at hd
  unfold b_X10_findFault_2 j_X10_findFault_35
  simp only [if_pos s8, h2, h3, if_neg (show ¬ nI n ≤ nI a by rw [Int32.le_iff_toInt_le, tI (by omega), tI (by omega)]; omega), if_pos (show inb (nI a) 60 = true by rw [inb_T, tI (by omega)]; omega), nI_clamp (show a < 2 ^ 31 by omega), if_neg (show ¬ (x.2.2.1 900 s a).toInt32 < 48 by rw [Int32.lt_iff_toInt_lt, t48]; omega), if_neg (show ¬ 57 < (x.2.2.1 900 s a).toInt32 by rw [Int32.lt_iff_toInt_lt, t_57]; omega), if_neg n10, nI_1]
theorem fOp {op : Int32} {cl : Nat → Int32} {a : Nat} (s8 : s < 8) (hn : x.1 902 s = nI n) (n60 : n ≤ 60) (ha : a < n) (hd : ¬ isDg (x.2.2.1 900 s a).toInt32) : b_X10_findFault_2 x s (nI a, tX x op cl) = (f_X10_openClause (tX x op cl) (x.2.2.1 900 s a).toInt32).elim (Sum.inr none) (fun r => if r.1 = 0 then Sum.inr (some (nI a, r.2)) else Sum.inl (nI (a + 1), r.2)) := by
  have h2 : (tX x op cl).1 902 s = nI n := hn
  have h3 : (tX x op cl).2.2.1 900 s = x.2.2.1 900 s := rfl
  have t48 : (48 : Int32).toInt = 48 := rfl
  unfold isDg at hd
  unfold b_X10_findFault_2 j_X10_findFault_34 j_X10_findFault_35
  simp only [if_pos s8, h2, h3, if_neg (show ¬ nI n ≤ nI a by rw [Int32.le_iff_toInt_le, tI (by omega), tI (by omega)]; omega), if_pos (show inb (nI a) 60 = true by rw [inb_T, tI (by omega)]; omega), nI_clamp (show a < 2 ^ 31 by omega), if_true, nI_1]
  by_cases h4 : (x.2.2.1 900 s a).toInt32 < 48
  · rw [if_pos h4]
  · rw [if_neg h4, if_pos]
    rw [Int32.lt_iff_toInt_lt, t48] at h4
    rw [Int32.lt_iff_toInt_lt, t_57]; omega
theorem fEn {op : Int32} {cl : Nat → Int32} (s8 : s < 8) (hn : x.1 902 s = nI n) : b_X10_findFault_2 x s (nI n, tX x op cl) = (f_X10_hasNumber (tX x op cl)).elim (Sum.inr none) (fun r => if r = 0 then Sum.inr (some (nI n, tX x op cl)) else Sum.inr (some (-1, tX x op cl))) := by
  have h2 : (tX x op cl).1 902 s = nI n := hn
  unfold b_X10_findFault_2
  simp only [if_pos s8, h2, if_pos (Int32.le_refl _)]
def okV (t : Nat) (v : Int32) : Prop := v = -1 ∨ ∃ u, u ≤ 99 ∧ v = nI u ∧ (t = 0 → 1 ≤ u ∧ u ≤ 9)
/-- where a number can't go on -/
def stpT (x : VM) (s n a L : Nat) (v : Int32) : Prop := a = n ∨ (a < n ∧ (¬ isDg (x.2.2.1 900 s a).toInt32 ∨ ∃ c, c ≤ 9 ∧ (x.2.2.1 900 s a).toInt32 = nI (48 + c) ∧ ¬ accC v c L))
theorem upd_upd (f : Nat → Int32) (k : Nat) (v w : Int32) : upd (upd f k v) k w = upd f k w := by
  funext j
  unfold upd
  split <;> rfl
theorem accT {v : Int32} {c t : Nat} (ht : t < 6) (hc : c ≤ 9) (hv : okV t v) : (∃ u, u ≤ 99 ∧ numC v c = nI u ∧ (t = 0 → 1 ≤ u ∧ u ≤ 9)) ∧ accC v c (ltS t) ∧ ¬ v = 0 ∧ ¬ sv3 (ltS t) < numC v c ∧ ¬ (nI t = 0 ∧ numC v c = 0) ∨ (¬ accC v c (ltS t) ∧ (v = 0 ∨ sv3 (ltS t) < numC v c ∨ (nI t = 0 ∧ numC v c = 0))) := by
  obtain ⟨w, w1, w2⟩ : ∃ w, w < 1000 ∧ numC v c = nI w := by
    unfold numC
    rcases hv with rfl | ⟨u, u1, rfl, _⟩
    · exact ⟨c, by omega, by rw [if_pos rfl]⟩
    · refine ⟨u * 10 + c, by omega, ?_⟩
      rw [if_neg (by rw [i32eq, tI (by omega), t_m1]; omega), show (10 : Int32) = nI 10 from rfl, pk_mul, nI_add]
  have m3 : ∃ q, q ≤ 99 ∧ sv3 (ltS t) = nI q ∧ sv2 (ltS t) = nI (if t = 0 then 1 else 0) ∧ (t = 0 → q = 9) := by
    rcases (show t = 0 ∨ t = 1 ∨ t = 2 ∨ t = 3 ∨ t = 4 ∨ t = 5 by omega) with rfl | rfl | rfl | rfl | rfl | rfl
    · exact ⟨9, by decide, rfl, rfl, fun _ => rfl⟩
    · exact ⟨52, by decide, rfl, rfl, fun z => by omega⟩
    · exact ⟨1, by decide, rfl, rfl, fun z => by omega⟩
    · exact ⟨9, by decide, rfl, rfl, fun z => by omega⟩
    · exact ⟨50, by decide, rfl, rfl, fun z => by omega⟩
    · exact ⟨99, by decide, rfl, rfl, fun z => by omega⟩
  obtain ⟨q, q1, q2, q3, q4⟩ := m3
  have t0 : (nI t = 0) = (t = 0) := propext (nI_eq (a := t) (b := 0) (by omega) (by omega))
  have w0 : (nI w = 0) = (w = 0) := propext (nI_eq (a := w) (b := 0) (by omega) (by omega))
  have l1 : (nI q < nI w) = (q < w) := propext (nI_ltI (by omega) (by omega))
  have l2 : (nI w ≤ nI q) = (w ≤ q) := propext (nI_leI (by omega) (by omega))
  have l3 : (nI w < nI (if t = 0 then 1 else 0)) = (w < if t = 0 then 1 else 0) := propext (nI_ltI (by omega) (by split <;> omega))
  unfold accC
  rw [w2, q2, q3, t0, w0, l1, l2, l3]
  by_cases h0 : v = 0
  · exact Or.inr ⟨fun z => z.1 h0, Or.inl h0⟩
  · by_cases h1 : q < w
    · exact Or.inr ⟨fun z => by omega, Or.inr (Or.inl h1)⟩
    · by_cases h2 : t = 0 ∧ w = 0
      · refine Or.inr ⟨fun z => z.2.1 (by rw [if_pos h2.1]; omega), Or.inr (Or.inr h2)⟩
      · refine Or.inl ⟨⟨w, by omega, rfl, fun z => by have := q4 z; omega⟩, ⟨h0, ?_, by omega⟩, h0, h1, h2⟩
        split <;> omega
theorem innerT {Z : VM} {v1 : Int32 × VM} {a0 k : Int32} {rd cl : Nat → Int32} {t : Nat} (s8 : s < 8) (hn : x.1 902 s = nI n) (n60 : n ≤ 60) (ht : t < 6) (hz : v1.2.2.1 1213 0 s = nI n) (hc : ∀ j, j < 60 → Z.2.2.1 1215 0 (60 * s + j) = x.2.2.1 900 s j) : ∀ (d a : Nat) (v : Int32), n - a ≤ d → a ≤ n → okV t v → ∃ a' v', a ≤ a' ∧ a' ≤ n ∧ okV t v' ∧ stpT x s n a' (ltS t) v' ∧ loopF none (b_X10_findFault_2 x s) (nI a, tX x (nI (ltS t)) (upd cl (ltS t) v)) = loopF none (b_X10_findFault_2 x s) (nI a', tX x (nI (ltS t)) (upd cl (ltS t) v')) ∧ loopF (Sum.inr (Sum.inr none)) (b_X12_reads_92 m (nI s) v1 (a0, k, Z) (nI t)) (nI a, v) = if v' = -1 then Sum.inr (Sum.inr (some (nI a', Z))) else Sum.inl (nI a', k + 1, setA Z 1270 0 (upd (Z.2.1 1270 0) t v')) := by
  have l6 := ltS_lt ht
  have ex : ∀ a v, j_X12_reads_188 m (nI s) v1 (a0, k, Z) (nI a, v) (nI t) = Sum.inr (if v = -1 then Sum.inr (Sum.inr (some (nI a, Z))) else Sum.inl (nI a, k + 1, setA Z 1270 0 (upd (Z.2.1 1270 0) t v))) := by
    intro a v
    unfold j_X12_reads_188
    by_cases e : v = -1
    · rw [if_pos e, if_pos e]
    · rw [if_neg e, if_neg e, if_pos (by rw [inb_T, tI (by omega)]; omega), nI_clamp (by omega)]
  intro d
  induction d with
  | zero =>
    intro a v hd ha hv
    have e : a = n := by omega
    subst e
    refine ⟨a, v, Nat.le_refl _, Nat.le_refl _, hv, Or.inl rfl, rfl, ?_⟩
    apply lp_inr
    unfold b_X12_reads_92
    rw [nI_clamp (by omega), hz, if_pos (Int32.le_refl _)]
    exact ex a v
  | succ d ih =>
    intro a v hd ha hv
    by_cases e : a = n
    · subst e
      refine ⟨a, v, Nat.le_refl _, Nat.le_refl _, hv, Or.inl rfl, rfl, ?_⟩
      apply lp_inr
      unfold b_X12_reads_92
      rw [nI_clamp (by omega), hz, if_pos (Int32.le_refl _)]
      exact ex a v
    · have lt : ¬ nI n ≤ nI a := by rw [Int32.le_iff_toInt_le, tI (by omega), tI (by omega)]; omega
      have ia : inb (60 * nI s + nI a) 480 = true := by rw [lm_60, nI_add, inb_T, tI (by omega)]; omega
      have ca : (60 * nI s + nI a).toNatClampNeg = 60 * s + a := by rw [lm_60, nI_add, nI_clamp (by omega)]
      by_cases hdg : isDg (x.2.2.1 900 s a).toInt32
      · obtain ⟨c, c1, c2, c3⟩ := dgN hdg
        have en : (if v = -1 then j_X12_reads_148 m (nI s) v1 (a0, k, Z) (nI a, v) (nI t) (nI c) else j_X12_reads_148 m (nI s) v1 (a0, k, Z) (nI a, v) (nI t) (10 * v + nI c)) = j_X12_reads_148 m (nI s) v1 (a0, k, Z) (nI a, v) (nI t) (numC v c) := by
          unfold numC
          by_cases e1 : v = -1
          · rw [if_pos e1, if_pos e1]
          · rw [if_neg e1, if_neg e1, Int32.mul_comm]
        have bm : b_X12_reads_92 m (nI s) v1 (a0, k, Z) (nI t) (nI a, v) = j_X12_reads_148 m (nI s) v1 (a0, k, Z) (nI a, v) (nI t) (numC v c) := by
          unfold b_X12_reads_92
          simp only [nI_clamp (show s < 2 ^ 31 by omega), hz, if_neg lt, if_pos ia, ca, hc a (by omega), c3, if_neg (nI_npos (show c < 2147483648 by omega)), if_pos (show nI c ≤ 9 by rw [Int32.le_iff_toInt_le, tI (by omega), t_9]; omega)]
          exact en
        rcases accT (c := c) ht c1 hv with ⟨⟨u, u1, u2, u3⟩, q1, q2, q3, q4⟩ | ⟨q1, q2⟩
        · have bm2 : b_X12_reads_92 m (nI s) v1 (a0, k, Z) (nI t) (nI a, v) = Sum.inl (nI (a + 1), numC v c) := by
            rw [bm]
            unfold j_X12_reads_148
            rw [if_neg q2, topM _ t ht]
            simp only [Option.elim_some]
            rw [if_neg q3, nI_1]
            by_cases e0 : nI t = 0
            · rw [if_pos e0, if_neg (fun z => q4 ⟨e0, z⟩)]
            · rw [if_neg e0]
          have bx : b_X10_findFault_2 x s (nI a, tX x (nI (ltS t)) (upd cl (ltS t) v)) = Sum.inl (nI (a + 1), tX x (nI (ltS t)) (upd cl (ltS t) (numC v c))) := by
            rw [fDg s8 hn n60 (by omega) hdg, c3]
            rcases addD (x := x) (cl := upd cl (ltS t) v) (c := c) l6 with ⟨y1, y2⟩ | ⟨y1, y2⟩
            · rw [y2, pk_us, upd_upd]
              simp only [Option.elim_some]
              rw [if_neg n10]
            · rw [pk_us] at y1; exact absurd q1 y1
          obtain ⟨a', v', r1, r2, r3, r4, r5, r6⟩ := ih (a + 1) (numC v c) (by omega) (by omega) (Or.inr ⟨u, u1, u2, u3⟩)
          exact ⟨a', v', by omega, r2, r3, r4, by rw [lp_inl bx, r5], by rw [lp_inl bm2, r6]⟩
        · refine ⟨a, v, Nat.le_refl _, ha, hv, Or.inr ⟨by omega, Or.inr ⟨c, c1, c2, q1⟩⟩, rfl, lp_inr ?_⟩
          rw [bm, ← ex a v]
          unfold j_X12_reads_148
          by_cases y0 : v = 0
          · rw [if_pos y0]
          · rw [if_neg y0, topM _ t ht]
            simp only [Option.elim_some]
            by_cases y1 : sv3 (ltS t) < numC v c
            · rw [if_pos y1]
            · rw [if_neg y1]
              obtain ⟨y2, y3⟩ := (q2.resolve_left y0).resolve_left y1
              rw [if_pos y2, if_pos y3]
      · refine ⟨a, v, Nat.le_refl _, ha, hv, Or.inr ⟨by omega, Or.inl hdg⟩, rfl, lp_inr ?_⟩
        rw [← ex a v]
        have t48 : (48 : Int32).toInt = 48 := rfl
        unfold b_X12_reads_92
        simp only [nI_clamp (show s < 2 ^ 31 by omega), hz, if_neg lt, if_pos ia, ca, hc a (by omega)]
        by_cases y1 : (x.2.2.1 900 s a).toInt32 - 48 < 0
        · rw [if_pos y1]
        · rw [if_neg y1, if_neg]
          intro y2
          apply hdg
          unfold isDg
          rw [Int32.lt_iff_toInt_lt, t_0] at y1
          rw [Int32.le_iff_toInt_le, t_9] at y2
          have b1 := Int32.le_toInt (x.2.2.1 900 s a).toInt32
          have b2 := Int32.toInt_lt (x.2.2.1 900 s a).toInt32
          by_cases y3 : -2147483648 ≤ (x.2.2.1 900 s a).toInt32.toInt - 48
          · rw [subT (by rw [t48]; exact y3) (by rw [t48]; omega), t48] at y1 y2
            omega
          · rw [Int32.toInt_sub, t48] at y1 y2
            have e32 : ((2 ^ 32 : Nat) : Int) = 4294967296 := by decide
            unfold Int.bmod at y1 y2
            simp only [e32] at y1 y2
            split at y2 <;> omega
end
