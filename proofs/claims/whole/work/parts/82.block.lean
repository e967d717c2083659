/-! block -/
theorem lp_cnt2g {V W O P : Type} {d : O} {e : P} {B : V → V ⊕ O} {C : W → W ⊕ P} (N : Nat) (R : Nat → V → W → Prop) (Q : O → P → Prop) (step : ∀ i v w, i < N → R i v w → (∃ v' w', B v = .inl v' ∧ C w = .inl w' ∧ R (i + 1) v' w') ∨ Q (loopF d B v) (loopF e C w)) (fin : ∀ v w, R N v w → Q (loopF d B v) (loopF e C w)) (i : Nat) (v : V) (w : W) (hi : i ≤ N) (h : R i v w) : Q (loopF d B v) (loopF e C w) := by
  have key : ∀ k i v w, i + k = N → R i v w → Q (loopF d B v) (loopF e C w) := by
    intro k
    induction k with
    | zero =>
      intro i v w e h
      exact fin v w (by have : i = N := by omega
                        rw [← this]; exact h)
    | succ k ih =>
      intro i v w e h
      rcases step i v w (by omega) h with ⟨v', w', e1, e2, e3⟩ | q
      · rw [lp_inl e1, lp_inl e2]; exact ih (i + 1) v' w' (by omega) e3
      · exact q
  exact key (N - i) i v w (by omega) h
theorem lN_or (a b : Nat) : lN a ||| lN b = lN (a ||| b) := by
  apply Int64.toBitVec_inj.1
  show BitVec.ofNat 64 a ||| BitVec.ofNat 64 b = BitVec.ofNat 64 (a ||| b)
  apply BitVec.eq_of_getLsbD_eq
  intro i hi
  simp [hi]
theorem shl1L : ∀ w, w < 40 → (1 : Int64) <<< ((nI w).toInt64 &&& 63) = lN (2 ^ w) := by decide +kernel
theorem s_l3 : ∀ w, w < 40 → (((nI w).toInt64 &&& 63).toBitVec.smod 64).toNat = w := by decide +kernel
theorem btL {T w : Nat} (hw : w < 40) : (lg_cmp ((lN T >>> ((nI w).toInt64 &&& 63)) &&& 1) 1 = 0) = (T.testBit w = true) := by
  have e : (lN T >>> ((nI w).toInt64 &&& 63)) &&& 1 = if T.testBit w = true then 1 else 0 := by
    apply Int64.toBitVec_inj.1
    apply BitVec.eq_of_getLsbD_eq
    intro i hi
    rw [Int64.toBitVec_and, BitVec.getLsbD_and, Int64.toBitVec_shiftRight]
    show (((lN T).toBitVec.sshiftRight (((nI w).toInt64 &&& 63).toBitVec.smod 64).toNat).getLsbD i && _) = _
    rw [s_l3 w hw, BitVec.getLsbD_sshiftRight]
    have z : ∀ i, i < 64 → (1 : Int64).toBitVec.getLsbD i = decide (i = 0) := by decide +kernel
    rw [z i hi]
    by_cases e0 : i = 0
    · subst e0
      rw [if_pos (by omega)]
      have l : (lN T).toBitVec.getLsbD (w + 0) = T.testBit w := by
        show (BitVec.ofNat 64 T).getLsbD (w + 0) = _
        rw [BitVec.getLsbD_ofNat]
        simp; omega
      rw [l]
      by_cases hb : T.testBit w = true
      · rw [if_pos hb, hb]; rfl
      · rw [if_neg hb]
        have : T.testBit w = false := by revert hb; cases T.testBit w <;> simp
        rw [this]; rfl
    · have z0 : ∀ i, i < 64 → (0 : Int64).toBitVec.getLsbD i = false := by decide +kernel
      rw [decide_eq_false e0, Bool.and_false]
      by_cases hb : T.testBit w = true
      · rw [if_pos hb, z i hi, decide_eq_false e0]
      · rw [if_neg hb, z0 i hi]
  rw [e]
  by_cases hb : T.testBit w = true
  · rw [if_pos hb]; simp [hb]; decide
  · rw [if_neg hb]; simp [hb]; decide
theorem giveX {y : VM} {h T : Nat} (h1 : h < y.2.2.2 1) : ∃ g, f_X1_giveBack y h (lN T) = some (setA y 103 h g) ∧ ∀ w, w < 40 → g w = if T.testBit w = true then -1 else y.2.1 103 h w := by
  unfold f_X1_giveBack
  refine lp_cnt (V := Int32 × VM) (d := none) 40 (fun i v => ∃ g, v = (nI i, setA y 103 h g) ∧ ∀ w, w < 40 → g w = if w < i ∧ T.testBit w = true then -1 else y.2.1 103 h w) (fun o => ∃ g, o = some (setA y 103 h g) ∧ ∀ w, w < 40 → g w = if T.testBit w = true then -1 else y.2.1 103 h w) ?_ ?_ 0 _ (by omega) ⟨y.2.1 103 h, by rw [setA_id]; rfl, fun w hw => by rw [if_neg (by omega)]⟩
  · rintro i v hi ⟨g, rfl, hg⟩
    left
    unfold b_X1_giveBack_2
    have h1' : h < (setA y 103 h g).2.2.2 1 := h1
    rw [if_neg (show ¬ (40 : Int32) ≤ nI i by rw [Int32.le_iff_toInt_le, tI (by omega), t_40]; omega)]
    simp only [btL hi, if_pos h1', if_pos (show inb (nI i) 40 = true by rw [inb_T, tI (by omega)]; omega), nI_clamp (show i < 2 ^ 31 by omega), nI_1, sA_s, setAA]
    by_cases hb : T.testBit i = true
    · rw [if_pos hb]
      refine ⟨_, rfl, _, rfl, fun w hw => ?_⟩
      by_cases e : w = i
      · subst e; rw [pk_us, if_pos ⟨by omega, hb⟩]
      · rw [u_n e, hg w hw]
        by_cases e2 : w < i ∧ T.testBit w = true
        · rw [if_pos e2, if_pos ⟨by omega, e2.2⟩]
        · rw [if_neg e2, if_neg (fun z => e2 ⟨by omega, z.2⟩)]
    · rw [if_neg hb]
      refine ⟨_, rfl, _, rfl, fun w hw => ?_⟩
      rw [hg w hw]
      by_cases e2 : w < i ∧ T.testBit w = true
      · rw [if_pos e2, if_pos ⟨by omega, e2.2⟩]
      · rw [if_neg e2, if_neg]
        rintro ⟨z1, z2⟩
        by_cases e : w = i
        · subst e; exact hb z2
        · exact e2 ⟨by omega, z2⟩
  · rintro v ⟨g, rfl, hg⟩
    refine ⟨_, rfl, g, rfl, fun w hw => ?_⟩
    rw [hg w hw]
    by_cases e2 : T.testBit w = true
    · rw [if_pos e2, if_pos ⟨hw, e2⟩]
    · rw [if_neg e2, if_neg (fun z => e2 z.2)]
theorem giveM {m z : VM} {h n : Nat} {wk : Nat → Nat} {p2 p3 last k : Int32} (h6 : h < 6) (n8 : n ≤ 8) (hk : ∀ j, j < n → wk j < 40 ∧ z.2.1 1283 0 j = nI (wk j)) : ∃ G, loopF (Sum.inr none) (b_X12_block_188 m (nI h) p2 p3 (nI n, last, 0, k, z)) (0, z) = Sum.inr (some (-6, rM (setA z 1264 0 G) 6)) ∧ (∀ w, w < 40 → (∃ j, j < n ∧ wk j = w) → G (40 * h + w) = -1) ∧ ∀ q, (∀ j, j < n → q ≠ 40 * h + wk j) → G q = z.2.1 1264 0 q := by
  refine lp_cnt (V := Int32 × VM) (d := Sum.inr none) n (fun i v => ∃ G, v = (nI i, setA z 1264 0 G) ∧ (∀ w, w < 40 → (∃ j, j < i ∧ wk j = w) → G (40 * h + w) = -1) ∧ ∀ q, (∀ j, j < i → q ≠ 40 * h + wk j) → G q = z.2.1 1264 0 q) (fun o => ∃ G, o = Sum.inr (some (-6, rM (setA z 1264 0 G) 6)) ∧ (∀ w, w < 40 → (∃ j, j < n ∧ wk j = w) → G (40 * h + w) = -1) ∧ ∀ q, (∀ j, j < n → q ≠ 40 * h + wk j) → G q = z.2.1 1264 0 q) ?_ ?_ 0 _ (by omega) ⟨z.2.1 1264 0, by rw [setA_id]; rfl, fun w hw ⟨j, hj, _⟩ => by omega, fun q _ => rfl⟩
  · rintro i v hi ⟨G, rfl, hG1, hG2⟩
    left
    obtain ⟨k1, k2⟩ := hk i hi
    unfold b_X12_block_188
    simp (disch := omega) only [Int32.le_iff_toInt_le, tI, if_neg, inb_T, if_pos, nI_clamp, rAn, k2, lm_40, nI_add, nI_1]
    rw [sA_s, setAA]
    refine ⟨_, rfl, _, rfl, fun w hw hj => ?_, fun q hq => ?_⟩
    · by_cases e : wk i = w
      · rw [← e]; exact pk_us
      · rw [u_n (by omega)]
        obtain ⟨j, j1, j2⟩ := hj
        exact hG1 w hw ⟨j, by have : j ≠ i := fun z => e (by rw [← z]; exact j2)
                              omega, j2⟩
    · rw [u_n (hq i (by omega))]
      exact hG2 q (fun j hj => hq j (by omega))
  · rintro v ⟨G, rfl, hG⟩
    refine ⟨_, ?_, G, rfl, hG⟩
    unfold b_X12_block_188
    rw [if_pos (Int32.le_refl _), rfm6]
    rfl
