/-! plan: the reference, whether a picture may begin -/
theorem mb19 : b_X12_mayBegin_27_19 = b_X12_mayBegin_27 := rfl
theorem mb35 : b_X12_mayBegin_27_35 = b_X12_mayBegin_27 := rfl
theorem and0 {a b : Nat} : a &&& b = 0 ↔ ∀ i, ¬ (a.testBit i = true ∧ b.testBit i = true) := by
  constructor
  · intro h i ⟨h1, h2⟩
    have : (a &&& b).testBit i = true := by rw [Nat.testBit_and, h1, h2]; rfl
    rw [h, Nat.zero_testBit] at this; cases this
  · intro h
    apply Nat.eq_of_testBit_eq
    intro i
    have := h i
    rw [Nat.testBit_and, Nat.zero_testBit]
    revert this
    cases a.testBit i <;> cases b.testBit i <;> simp
theorem pP_bit {lot fk tr : Nat → Nat} {s b : Nat} : ∀ i, (pP lot fk tr i s).testBit b = true ↔ ∃ q, q < i ∧ (tr q ≤ s ∧ s < tr q + lot q) ∧ (fk q).testBit b = true
  | 0 => by
    unfold pP
    rw [Nat.zero_testBit]
    constructor
    · intro h; cases h
    · rintro ⟨q, hq, _⟩; omega
  | i + 1 => by
    unfold pP
    by_cases c : tr i ≤ s ∧ s < tr i + lot i
    · rw [if_pos c, Nat.testBit_or, Bool.or_eq_true, pP_bit i]
      constructor
      · rintro (⟨q, h1, h2⟩ | h)
        · exact ⟨q, by omega, h2⟩
        · exact ⟨i, by omega, c, h⟩
      · rintro ⟨q, h1, h2, h3⟩
        by_cases e : q = i
        · subst e; exact Or.inr h3
        · exact Or.inl ⟨q, by omega, h2, h3⟩
    · rw [if_neg c, pP_bit i]
      constructor
      · rintro ⟨q, h1, h2⟩; exact ⟨q, by omega, h2⟩
      · rintro ⟨q, h1, h2, h3⟩
        by_cases e : q = i
        · subst e; exact absurd h2 c
        · exact ⟨q, by omega, h2, h3⟩
def plM (m z : VM) : Prop := z.1 = m.1 ∧ (∀ F i, F ≠ 1284 → F ≠ 1285 → F ≠ 1268 → z.2.1 F i = m.2.1 F i) ∧ z.2.2 = m.2.2 ∧ ∀ F i, i ≠ 0 → z.2.1 F i = m.2.1 F i
def pDaM (lot fk : Nat → Nat) (gr : Nat → Int32) (st n : Nat) (V : Nat → Nat → Nat) (rs : Nat → Nat) (m : VM) : Prop := n ≤ 5 ∧ st ≤ 3 ∧ (∀ i, i ≤ n → m.2.1 1286 0 i = nI (rs i) ∧ rs i ≤ 10000) ∧ ∀ i, i < n → lot i ≤ 4 ∧ m.2.1 1266 0 i = nI (lot i) ∧ m.2.1 1287 0 i = nI (fk i) ∧ fk i < 65536 ∧ (∀ t, t < 8 → m.2.1 1267 0 (8 * i + t) = nI (V i t) ∧ V i t ≤ 999) ∧ ∀ y : VM, f_X12_isUnder y (m.2.1 1234 0 i) 3 = some (gr i)
def pPth (z : VM) (i : Nat) (tr : Nat → Nat) : Prop := ∀ s, s < i → z.2.1 1284 0 s = nI (tr s) ∧ tr s ≤ 8
section
variable {lot fk : Nat → Nat} {gr : Nat → Int32} {st n : Nat} {V : Nat → Nat → Nat} {rs : Nat → Nat} {m : VM}
theorem pDaM.to (h : pDaM lot fk gr st n V rs m) {z : VM} (hz : plM m z) : pDaM lot fk gr st n V rs z := by
  obtain ⟨a1, a2, a3, a4⟩ := h
  refine ⟨a1, a2, fun i hi => by rw [hz.2.1 1286 0 (by decide) (by decide) (by decide)]; exact a3 i hi, fun i hi => ?_⟩
  obtain ⟨b1, b2, b3, b4, b5, b6⟩ := a4 i hi
  refine ⟨b1, by rw [hz.2.1 1266 0 (by decide) (by decide) (by decide)]; exact b2, by rw [hz.2.1 1287 0 (by decide) (by decide) (by decide)]; exact b3, b4, fun t ht => by rw [hz.2.1 1267 0 (by decide) (by decide) (by decide)]; exact b5 t ht, fun y => by rw [hz.2.1 1234 0 (by decide) (by decide) (by decide)]; exact b6 y⟩
theorem p_isIn (hD : pDaM lot fk gr st n V rs m) {q t s : Nat} (hq : q < n) (ht : t ≤ 8) (hs : s < 8) : f_X12_isIn m (nI q) (nI t) (nI s) = if t ≤ s ∧ s < t + lot q then some 1 else some 0 := by
  obtain ⟨b1, b2, b3, b4, b5, b6⟩ := hD.2.2.2 q hq
  have n5 := hD.1
  unfold f_X12_isIn
  by_cases c1 : 8 ≤ t
  · rw [if_pos (by rw [Int32.le_iff_toInt_le, tI (by omega), show (8 : Int32).toInt = 8 from rfl]; omega), if_neg (by omega)]
  · rw [if_neg (by rw [Int32.le_iff_toInt_le, tI (by omega), show (8 : Int32).toInt = 8 from rfl]; omega)]
    by_cases c2 : s < t
    · rw [if_pos (by rw [Int32.lt_iff_toInt_lt, tI (by omega), tI (by omega)]; omega), if_neg (by omega)]
    · rw [if_neg (by rw [Int32.lt_iff_toInt_lt, tI (by omega), tI (by omega)]; omega), if_pos (inb8 (by omega)), nI_clamp (by omega), b2, nI_add]
      by_cases c3 : t + lot q ≤ s
      · rw [if_pos (by rw [Int32.le_iff_toInt_le, tI (by omega), tI (by omega)]; omega), if_neg (by omega)]
      · rw [if_neg (by rw [Int32.le_iff_toInt_le, tI (by omega), tI (by omega)]; omega), if_pos (by omega)]
theorem p_slot (hD : pDaM lot fk gr st n V rs m) {i t s : Nat} {tr : Nat → Nat} (hi : i < n) (hs : s < 8) (hP : pPth m i tr) : (loopF (Sum.inr none) (b_X12_mayBegin_53 m (nI i) (nI t) (nI st) (nI s)) (1, 0) = Sum.inl (nI (s + 1)) ∧ (pU lot tr i s < st ∧ pP lot fk tr i s &&& fk i = 0)) ∨ (loopF (Sum.inr none) (b_X12_mayBegin_53 m (nI i) (nI t) (nI st) (nI s)) (1, 0) = Sum.inr (some 0) ∧ ¬ (pU lot tr i s < st ∧ pP lot fk tr i s &&& fk i = 0)) := by
  have n5 := hD.1
  have s3 := hD.2.1
  refine lp_cnt (V := Int32 × Int32) (d := Sum.inr none) i (fun q v => v = (nI (1 + pU lot tr q s), nI q) ∧ pP lot fk tr q s &&& fk i = 0) (fun o => (o = Sum.inl (nI (s + 1)) ∧ (pU lot tr i s < st ∧ pP lot fk tr i s &&& fk i = 0)) ∨ (o = Sum.inr (some 0) ∧ ¬ (pU lot tr i s < st ∧ pP lot fk tr i s &&& fk i = 0))) ?_ ?_ 0 _ (Nat.zero_le _) ⟨rfl, Nat.zero_and _⟩
  · rintro q v hq ⟨rfl, h1⟩
    obtain ⟨p1, p2⟩ := hP q hq
    have u1 := pU_le (lot := lot) (tr := tr) (s := s) q
    have lt : ¬ nI i ≤ nI q := by rw [Int32.le_iff_toInt_le, tI (by omega), tI (by omega)]; omega
    unfold b_X12_mayBegin_53
    simp only [if_neg lt]
    rw [if_pos (by rw [inb_T, tI (by omega)]; omega), nI_clamp (by omega), p1, p_isIn hD (by omega) p2 hs]
    by_cases c : tr q ≤ s ∧ s < tr q + lot q
    · rw [if_pos c, Option.elim_some, if_neg n10, if_pos (inb8 (by omega)), if_pos (inb8 (by omega)), nI_clamp (by omega), (hD.2.2.2 i hi).2.2.1, (hD.2.2.2 q (by omega)).2.2.1, nI_and]
      have a8 : fk i &&& fk q < 65536 := Nat.lt_of_le_of_lt Nat.and_le_left (hD.2.2.2 i hi).2.2.2.1
      by_cases r : fk i &&& fk q = 0
      · rw [r, if_pos (show nI 0 = 0 from rfl), nI_1, nI_1]
        left
        refine ⟨_, rfl, ?_, ?_⟩
        · show _ = (nI (1 + (pU lot tr q s + if tr q ≤ s ∧ s < tr q + lot q then 1 else 0)), nI (q + 1))
          rw [if_pos c]; rfl
        · show (if tr q ≤ s ∧ s < tr q + lot q then pP lot fk tr q s ||| fk q else pP lot fk tr q s) &&& fk i = 0
          rw [if_pos c]
          rw [and0] at h1 r ⊢
          rintro b ⟨b1, b2⟩
          rw [Nat.testBit_or, Bool.or_eq_true] at b1
          rcases b1 with b1 | b1
          · exact h1 b ⟨b1, b2⟩
          · exact r b ⟨b2, b1⟩
      · rw [if_neg (by rw [i32eq, tI (by omega), t_0]; omega)]
        right
        refine ⟨_, rfl, Or.inr ⟨rfl, fun h => r ?_⟩⟩
        have h2 := and0.mp h.2
        rw [and0]
        rintro b ⟨b1, b2⟩
        exact h2 b ⟨(pP_bit i).mpr ⟨q, hq, c, b2⟩, b1⟩
    · rw [if_neg c, Option.elim_some, if_pos rfl, nI_1]
      left
      refine ⟨_, rfl, ?_, ?_⟩
      · show _ = (nI (1 + (pU lot tr q s + if tr q ≤ s ∧ s < tr q + lot q then 1 else 0)), nI (q + 1))
        simp only [if_neg c, Nat.add_zero]
      · show (if tr q ≤ s ∧ s < tr q + lot q then pP lot fk tr q s ||| fk q else pP lot fk tr q s) &&& fk i = 0
        rw [if_neg c]; exact h1
  · rintro v ⟨rfl, h1⟩
    have u1 := pU_le (lot := lot) (tr := tr) (s := s) i
    unfold b_X12_mayBegin_53
    simp only [if_pos (Int32.le_refl (nI i)), nI_1]
    by_cases c : pU lot tr i s < st
    · rw [if_pos (by rw [Int32.le_iff_toInt_le, tI (by omega), tI (by omega)]; omega)]
      exact ⟨_, rfl, Or.inl ⟨rfl, c, h1⟩⟩
    · rw [if_neg (by rw [Int32.le_iff_toInt_le, tI (by omega), tI (by omega)]; omega)]
      exact ⟨_, rfl, Or.inr ⟨rfl, fun h => c h.1⟩⟩
theorem p_may (hD : pDaM lot fk gr st n V rs m) {i t : Nat} {tr : Nat → Nat} (hi : i < n) (ht : t < 8) (hP : pPth m i tr) : (f_X12_mayBegin m (nI i) (nI t) (nI st) = some 1 ∧ pOk lot fk gr st tr i t) ∨ (f_X12_mayBegin m (nI i) (nI t) (nI st) = some 0 ∧ ¬ pOk lot fk gr st tr i t) := by
  have n5 := hD.1
  obtain ⟨b1, b2, b3, b4, b5, b6⟩ := hD.2.2.2 i hi
  have lp : (loopF none (b_X12_mayBegin_27 m (nI i) (nI t) (nI st)) (nI t) = some 1 ∧ ∀ s, t ≤ s → s < t + lot i → s < 8 → pU lot tr i s < st ∧ pP lot fk tr i s &&& fk i = 0) ∨ (loopF none (b_X12_mayBegin_27 m (nI i) (nI t) (nI st)) (nI t) = some 0 ∧ ¬ ∀ s, t ≤ s → s < t + lot i → s < 8 → pU lot tr i s < st ∧ pP lot fk tr i s &&& fk i = 0) := by
    refine lp_cnt (V := Int32) (d := none) (min (t + lot i) 8) (fun k v => v = nI k ∧ t ≤ k ∧ ∀ s, t ≤ s → s < k → pU lot tr i s < st ∧ pP lot fk tr i s &&& fk i = 0) (fun o => (o = some 1 ∧ ∀ s, t ≤ s → s < t + lot i → s < 8 → pU lot tr i s < st ∧ pP lot fk tr i s &&& fk i = 0) ∨ (o = some 0 ∧ ¬ ∀ s, t ≤ s → s < t + lot i → s < 8 → pU lot tr i s < st ∧ pP lot fk tr i s &&& fk i = 0)) ?_ ?_ t _ (by omega) ⟨rfl, Nat.le_refl _, fun s h1 h2 => by omega⟩
    · rintro k v hk ⟨rfl, k1, k2⟩
      have k8 : k < 8 := by omega
      unfold b_X12_mayBegin_27
      rw [if_neg (by rw [Int32.le_iff_toInt_le, tI (by omega), show (8 : Int32).toInt = 8 from rfl]; omega), if_pos (inb8 (by omega)), nI_clamp (by omega), b2, nI_add, if_neg (by rw [Int32.le_iff_toInt_le, tI (by omega), tI (by omega)]; omega)]
      rcases p_slot hD (t := t) (s := k) hi k8 hP with ⟨g1, g2⟩ | ⟨g1, g2⟩
      · left
        refine ⟨_, g1, rfl, by omega, fun s h1 h2 => ?_⟩
        by_cases e : s = k
        · subst e; exact g2
        · exact k2 s h1 (by omega)
      · right
        exact ⟨_, g1, Or.inr ⟨rfl, fun h => g2 (h k k1 (by omega) k8)⟩⟩
    · rintro v ⟨rfl, k1, k2⟩
      refine ⟨some 1, ?_, Or.inl ⟨rfl, fun s h1 h2 h3 => k2 s h1 (by omega)⟩⟩
      unfold b_X12_mayBegin_27
      by_cases c : 8 ≤ t + lot i
      · rw [if_pos (by rw [Int32.le_iff_toInt_le, tI (by omega), show (8 : Int32).toInt = 8 from rfl]; omega)]
      · rw [if_neg (by rw [Int32.le_iff_toInt_le, tI (by omega), show (8 : Int32).toInt = 8 from rfl]; omega), if_pos (inb8 (by omega)), nI_clamp (by omega), b2, nI_add, if_pos (by rw [Int32.le_iff_toInt_le, tI (by omega), tI (by omega)]; omega)]
  unfold f_X12_mayBegin pOk
  rw [if_pos (inb8 (by omega)), nI_clamp (by omega), b6, Option.elim_some, mb19, mb35]
  by_cases c1 : gr i = 0
  · rw [if_pos c1]
    rcases lp with ⟨g1, g2⟩ | ⟨g1, g2⟩
    · exact Or.inl ⟨g1, Or.inl c1, g2⟩
    · exact Or.inr ⟨g1, fun h => g2 h.2⟩
  · rw [if_neg c1]
    by_cases c2 : t % 4 = 0
    · have : (if nI t = 0 then loopF none (b_X12_mayBegin_27 m (nI i) (nI t) (nI st)) (nI t) else if nI t = 4 then loopF none (b_X12_mayBegin_27 m (nI i) (nI t) (nI st)) (nI t) else some 0) = loopF none (b_X12_mayBegin_27 m (nI i) (nI t) (nI st)) (nI t) := by
        rcases (show t = 0 ∨ t = 4 by omega) with rfl | rfl
        · rw [if_pos (show nI 0 = 0 from rfl)]
        · rw [if_neg (by decide), if_pos (show nI 4 = 4 from rfl)]
      rw [this]
      rcases lp with ⟨g1, g2⟩ | ⟨g1, g2⟩
      · exact Or.inl ⟨g1, Or.inr c2, g2⟩
      · exact Or.inr ⟨g1, fun h => g2 h.2⟩
    · rw [if_neg (by rw [i32eq, tI (by omega), t_0]; omega), if_neg (by rw [i32eq, tI (by omega), t_4]; omega)]
      exact Or.inr ⟨rfl, fun h => h.1.elim c1 c2⟩
end
