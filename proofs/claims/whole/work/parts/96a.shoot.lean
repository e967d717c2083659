/-! a day's shooting -/
section
variable {x m : VM}
/-- bits F are those that are ready and not in U -/
def freeF (x : VM) (F U : Nat) : Prop := F < 65536 ∧ U < 65536 ∧ ∀ w, F.testBit w = true ↔ w < x.2.2.2 4 ∧ f_X4_isReady x w (x.1 1116 0) = some 1 ∧ U.testBit w = false
theorem l_rdp (hI : Inv x m) : ∃ F, f_X11_readyPeople x = some (nI F) ∧ freeF x F 0 := by
  obtain ⟨n1, n2⟩ := hI.bas.1.1
  obtain ⟨d, d1, d2, d3⟩ := rng_nI (a := 0) (b := 4000) hI.now.2 (by decide)
  have key : ∃ F, f_X11_readyPeople x = some (nI F) ∧ F < 65536 ∧ ∀ w, F.testBit w = true ↔ w < x.2.2.2 4 ∧ f_X4_isReady x w (x.1 1116 0) = some 1 := by
    unfold f_X11_readyPeople
    refine lp_cnt (V := Int32 × Int32) (d := none) (x.2.2.2 4) (fun k v => ∃ F, v = (nI F, nI k) ∧ F < 65536 ∧ ∀ w, F.testBit w = true ↔ w < k ∧ f_X4_isReady x w (x.1 1116 0) = some 1) (fun o => ∃ F, o = some (nI F) ∧ F < 65536 ∧ ∀ w, F.testBit w = true ↔ w < x.2.2.2 4 ∧ f_X4_isReady x w (x.1 1116 0) = some 1) ?_ ?_ 0 _ (Nat.zero_le _) ⟨0, rfl, by decide, fun w => by rw [Nat.zero_testBit]; exact ⟨fun h => (by cases h), fun h => (by omega)⟩⟩
    · rintro k v hk ⟨F, rfl, F1, F2⟩
      left
      have lt : ¬ nI (x.2.2.2 4) ≤ nI k := by rw [Int32.le_iff_toInt_le, tI (by omega), tI (by omega)]; omega
      unfold b_X11_readyPeople_4
      simp only [n1, if_neg lt, if_pos (show inb (nI k) 16 = true by rw [inb_T, tI (by omega)]; omega), nI_clamp (show k < 2 ^ 31 by omega), if_pos hk, nI_1, shl1 k (by omega), nI_or]
      rcases c_rdy hI.now.1 d3 (by omega) (hI.per k hk) hk (by omega) with ⟨a1, a2⟩ | ⟨a1, a2⟩
      · rw [a1]
        refine ⟨_, rfl, F ||| 2 ^ k, rfl, Nat.or_lt_two_pow (n := 16) F1 (Nat.pow_lt_pow_right (by decide) (by omega)), fun w => ?_⟩
        rw [tb_or2, Bool.or_eq_true, F2 w, decide_eq_true_iff]
        constructor
        · rintro (⟨b1, b2⟩ | rfl)
          · exact ⟨by omega, b2⟩
          · exact ⟨by omega, a1⟩
        · rintro ⟨b1, b2⟩
          by_cases e : k = w
          · exact Or.inr e
          · exact Or.inl ⟨by omega, b2⟩
      · rw [a1]
        refine ⟨_, rfl, F, rfl, F1, fun w => ?_⟩
        rw [F2 w]
        constructor
        · rintro ⟨b1, b2⟩; exact ⟨by omega, b2⟩
        · rintro ⟨b1, b2⟩
          refine ⟨?_, b2⟩
          have : w ≠ k := fun e => by subst e; rw [a1] at b2; exact absurd (Option.some.inj b2) (by decide)
          omega
    · rintro v ⟨F, rfl, F1, F2⟩
      refine ⟨_, ?_, F, rfl, F1, F2⟩
      unfold b_X11_readyPeople_4
      rw [n1, if_pos (Int32.le_refl _)]
  obtain ⟨F, f1, f2, f3⟩ := key
  refine ⟨F, f1, f2, by decide, fun w => ?_⟩
  rw [f3 w, Nat.zero_testBit]
  exact ⟨fun h => ⟨h.1, h.2, rfl⟩, fun h => ⟨h.1, h.2.1⟩⟩
theorem dfN_0 {c F : Nat} : dfN c F = 0 ↔ ∀ w, c.testBit w = true → F.testBit w = true := by
  constructor
  · intro h w hw
    have := dfN_bit c F w
    rw [h, Nat.zero_testBit, hw] at this
    revert this
    cases F.testBit w <;> simp
  · intro h
    apply Nat.eq_of_testBit_eq
    intro w
    rw [dfN_bit, Nat.zero_testBit]
    have := h w
    revert this
    cases c.testBit w <;> cases F.testBit w <;> simp
theorem l_can (hI : Inv x m) {p s F U : Nat} (p1 : p < x.2.2.2 5) (p8 : p < 8) (hs : s < x.2.2.2 (20 + p)) (s8 : s < 8) (hF : freeF x F U) (hU : m.1 1275 0 = nI U) : (dfN (caX x p s) F = 0 ∧ f_X12_canShoot m (nI (8 * p + s)) = some 1) ∨ (¬ dfN (caX x p s) F = 0 ∧ f_X12_canShoot m (nI (8 * p + s)) = some 0) := by
  obtain ⟨n1, n2⟩ := hI.bas.1.1
  have n3 : m.1 1202 0 = nI (x.2.2.2 4) := by rw [hI.cnt.1, n1]
  obtain ⟨d, d1, d2, d3⟩ := rng_nI (a := 0) (b := 4000) hI.now.2 (by decide)
  obtain ⟨c1, c2, c3, c4⟩ := caX_ok hI p1 hs
  obtain ⟨F1, U1, F2⟩ := hF
  rw [dfN_0]
  unfold f_X12_canShoot
  refine lp_cnt (V := Int32) (d := none) (x.2.2.2 4) (fun k v => v = nI k ∧ ∀ w, w < k → (caX x p s).testBit w = true → F.testBit w = true) (fun o => ((∀ w, (caX x p s).testBit w = true → F.testBit w = true) ∧ o = some 1) ∨ (¬ (∀ w, (caX x p s).testBit w = true → F.testBit w = true) ∧ o = some 0)) ?_ ?_ 0 _ (Nat.zero_le _) ⟨rfl, fun w hw => by omega⟩
  · rintro k v hk ⟨rfl, hv⟩
    have lt : ¬ nI (x.2.2.2 4) ≤ nI k := by rw [Int32.le_iff_toInt_le, tI (by omega), tI (by omega)]; omega
    unfold b_X12_canShoot_2
    simp only [n3, if_neg lt, if_pos (show inb (nI (8 * p + s)) 64 = true by rw [inb_T, tI (by omega)]; omega), nI_clamp (show 8 * p + s < 2 ^ 31 by omega), c4, hU, bt_1 (show caX x p s < 2147483648 by omega) (show k < 32 by omega), bt_1 (show U < 2147483648 by omega) (show k < 32 by omega), hI.now.1, nI_1]
    by_cases hb : (caX x p s).testBit k = true
    · rw [if_pos hb]
      by_cases hu : U.testBit k = true
      · rw [if_pos hu]
        right
        refine ⟨_, rfl, Or.inr ⟨fun h => ?_, rfl⟩⟩
        have := ((F2 k).mp (h k hb)).2.2
        rw [hu] at this; cases this
      · rw [if_neg hu]
        have hu0 : U.testBit k = false := by revert hu; cases U.testBit k <;> simp
        rcases c_rdy hI.now.1 d3 (by omega) (hI.per k hk) hk (by omega) with ⟨a1, a2⟩ | ⟨a1, a2⟩
        · left
          rw [a2]
          refine ⟨_, rfl, rfl, fun w hw hb' => ?_⟩
          by_cases e : w = k
          · subst e; exact (F2 w).mpr ⟨hk, a1, hu0⟩
          · exact hv w (by omega) hb'
        · right
          rw [a2]
          refine ⟨_, rfl, Or.inr ⟨fun h => ?_, rfl⟩⟩
          have := ((F2 k).mp (h k hb)).2.1
          rw [a1] at this
          exact absurd (Option.some.inj this) (by decide)
    · left
      rw [if_neg hb]
      refine ⟨_, rfl, rfl, fun w hw hb' => ?_⟩
      by_cases e : w = k
      · subst e; exact absurd hb' hb
      · exact hv w (by omega) hb'
  · rintro v ⟨rfl, hv⟩
    refine ⟨some 1, ?_, Or.inl ⟨fun w hw => ?_, rfl⟩⟩
    · unfold b_X12_canShoot_2
      rw [n3, if_pos (Int32.le_refl _)]
    · by_cases e : w < x.2.2.2 4
      · exact hv w e hw
      · exfalso
        have : (caX x p s).testBit w = false := Nat.testBit_lt_two_pow (Nat.lt_of_lt_of_le c1 (Nat.pow_le_pow_right (by decide) (by omega)))
        rw [this] at hw; cases hw
/-- the three things that a picture's day may be -/
def shM (m : VM) (p s : Nat) : VM := if m.2.1 1236 0 (8 * p + s) = m.2.1 1243 0 p then setI (setA (setA (setI m 1201 0 (m.1 1201 0 - m.1 1206 0)) 1242 0 (upd (m.2.1 1242 0) (8 * p + s) (m.2.1 1242 0 (8 * p + s) - 1))) 1245 0 (upd (m.2.1 1245 0) p (m.2.1 1245 0 p + 1))) 1275 0 (m.1 1275 0 ||| m.2.1 1237 0 (8 * p + s)) else setA (setI (setA m 1243 0 (upd (m.2.1 1243 0) p (m.2.1 1236 0 (8 * p + s)))) 1201 0 (m.1 1201 0 - m.1 1207 0)) 1246 0 (upd (m.2.1 1246 0) p (m.2.1 1246 0 p + 1))
theorem l_next (hI : Inv x m) {p F U : Nat} (p1 : p < x.2.2.2 5) (p8 : p < 8) (hb : x.1 503 p = 1) (hF : freeF x F U) (hU : m.1 1275 0 = nI U) : (f_X5_nextScene x p (nI F) = some (-1) ∧ f_X12_shoots m (nI p) = some (setA m 1244 0 (upd (m.2.1 1244 0) p (m.2.1 1244 0 p + 1)))) ∨ (∃ s, s < x.2.2.2 (20 + p) ∧ 0 < (x.1 803 (8 * p + s)).toInt ∧ dfN (caX x p s) F = 0 ∧ f_X5_nextScene x p (nI F) = some (nI s) ∧ f_X12_shoots m (nI p) = some (shM m p s)) := by
  obtain ⟨n1, n2, n3⟩ := n_sce hI p1
  unfold f_X5_nextScene f_X12_shoots
  have ip := inb8 p8
  have cp : (nI p).toNatClampNeg = p := nI_clamp (by omega)
  refine lp_cnt2 (V := Int32) (W := Int32) (d := none) (e := none) (x.2.2.2 (20 + p)) (fun k v w => v = nI k ∧ w = nI k) (fun o o' => (o = some (-1) ∧ o' = some (setA m 1244 0 (upd (m.2.1 1244 0) p (m.2.1 1244 0 p + 1)))) ∨ (∃ s, s < x.2.2.2 (20 + p) ∧ 0 < (x.1 803 (8 * p + s)).toInt ∧ dfN (caX x p s) F = 0 ∧ o = some (nI s) ∧ o' = some (shM m p s))) ?_ ?_ 0 _ _ (Nat.zero_le _) ⟨rfl, rfl⟩
  · rintro k v w hk ⟨rfl, rfl⟩
    have lt : ¬ nI (x.2.2.2 (20 + p)) ≤ nI k := by rw [Int32.le_iff_toInt_le, tI (by omega), tI (by omega)]; omega
    obtain ⟨o1, s, s1, s2⟩ := hI.ord p p1 hb k hk
    have s8 : s < 8 := by omega
    have o2 : m.2.1 1241 0 (8 * p + k) = nI s := by rw [o1, s2]
    obtain ⟨l1, l2⟩ := (hI.sce p s p1 s1).2.2.2.1
    obtain ⟨l, l3, l4, l5⟩ := rng_nI (a := 0) (b := 9) l2 (by decide)
    obtain ⟨c1, c2, c3, c4⟩ := caX_ok hI p1 s1
    have can := l_can hI p1 p8 s1 s8 hF hU
    unfold b_X5_nextScene_2 b_X12_shoots_2
    simp (disch := omega) only [n1, n2, if_pos p1, if_pos ip, cp, if_neg lt, inb_T, tI, if_pos, nI_clamp, s2, o2, d8, m8, lm_8, nI_add, l1, l5, c3, nI_df, nI_1]
    by_cases hl : l = 0
    · subst hl
      left
      rw [if_pos (show nI 0 ≤ (0 : Int32) by decide), if_pos (show nI 0 = (0 : Int32) from rfl)]
      exact ⟨_, _, rfl, rfl, rfl, rfl⟩
    · rw [if_neg (show ¬ nI l ≤ 0 from nI_nle (by omega) (by omega)), if_neg (show ¬ nI l = 0 from nI_ne0 (by omega) (by omega))]
      rcases can with ⟨q1, q2⟩ | ⟨q1, q2⟩
      · right
        rw [q2, if_pos (show nI (dfN (caX x p s) F) = 0 by rw [q1]; rfl)]
        simp only [Option.elim_some]
        rw [if_neg n10]
        refine ⟨some (nI s), some (shM m p s), rfl, ?_, Or.inr ⟨s, s1, by rw [l5, tI (by omega)]; omega, q1, rfl, rfl⟩⟩
        unfold shM
        simp (disch := omega) only [rIn, rI2, rAn, rA1, rAs, rIs, l1, l5]
        split <;> rfl
      · left
        rw [q2, if_neg (show ¬ nI (dfN (caX x p s) F) = 0 by
          have : dfN (caX x p s) F < 65536 := by unfold dfN; exact Nat.xor_lt_two_pow (n := 16) c2 (Nat.lt_of_le_of_lt Nat.and_le_left c2)
          exact nI_ne0 (by omega) (by omega))]
        exact ⟨_, _, rfl, rfl, rfl, rfl⟩
  · rintro v w ⟨rfl, rfl⟩
    unfold b_X5_nextScene_2 b_X12_shoots_2
    simp only [n1, n2, if_pos p1, if_pos ip, cp, if_pos (Int32.le_refl _)]
    exact ⟨_, _, rfl, rfl, Or.inl ⟨rfl, rfl⟩⟩
end
