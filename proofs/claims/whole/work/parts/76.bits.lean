/-! bits; a day's cost; bound -/
theorem s_l2 : ∀ n, n < 32 → ((nI n &&& 31).toBitVec.smod 32).toNat = n := by decide +kernel
theorem bt1 {t w : Nat} (ht : t < 2147483648) (hw : w < 32) : ((nI t >>> (nI w &&& 31)) &&& 1) = if t.testBit w = true then 1 else 0 := by
  rw [pk_shrN ht (nI w &&& 31) w (s_l2 w hw), pk_andN (n := t / 2 ^ w) (Nat.lt_of_le_of_lt (Nat.div_le_self _ _) (by omega)) 1 rfl, Nat.testBit_eq_decide_div_mod_eq]
  have h2 : t / 2 ^ w % 2 < 2 := Nat.mod_lt _ (by decide)
  rcases (show t / 2 ^ w % 2 = 0 ∨ t / 2 ^ w % 2 = 1 by omega) with h | h
  · have : t / 2 ^ w % 2 ^ 1 = 0 := h
    rw [this]; rfl
  · have : t / 2 ^ w % 2 ^ 1 = 1 := h
    rw [this]; rfl
theorem bt_1 {t w : Nat} (ht : t < 2147483648) (hw : w < 32) : (((nI t >>> (nI w &&& 31)) &&& 1) = 1) = (t.testBit w = true) := by
  rw [bt1 ht hw]
  by_cases h : t.testBit w = true
  · rw [if_pos h]; simp [h]
  · rw [if_neg h]; simp [h]
theorem bt_0 {t w : Nat} (ht : t < 2147483648) (hw : w < 32) : (((nI t >>> (nI w &&& 31)) &&& 1) = 0) = (t.testBit w = false) := by
  rw [bt1 ht hw]
  by_cases h : t.testBit w = true
  · rw [if_pos h]; simp [h]
  · rw [if_neg h]; simp [h]
theorem nI_or (a b : Nat) : nI a ||| nI b = nI (a ||| b) := by
  apply Int32.toBitVec_inj.1
  show BitVec.ofNat 32 a ||| BitVec.ofNat 32 b = BitVec.ofNat 32 (a ||| b)
  apply BitVec.eq_of_getLsbD_eq
  intro i hi
  simp [hi]
theorem nI_and (a b : Nat) : nI a &&& nI b = nI (a &&& b) := by
  apply Int32.toBitVec_inj.1
  show BitVec.ofNat 32 a &&& BitVec.ofNat 32 b = BitVec.ofNat 32 (a &&& b)
  apply BitVec.eq_of_getLsbD_eq
  intro i hi
  simp [hi]
theorem nI_xor (a b : Nat) : nI a ^^^ nI b = nI (a ^^^ b) := by
  apply Int32.toBitVec_inj.1
  show BitVec.ofNat 32 a ^^^ BitVec.ofNat 32 b = BitVec.ofNat 32 (a ^^^ b)
  apply BitVec.eq_of_getLsbD_eq
  intro i hi
  simp [hi]
/-- those of a that aren't in b -/
def dfN (a b : Nat) : Nat := a ^^^ (a &&& b)
theorem dfN_bit (a b i : Nat) : (dfN a b).testBit i = (a.testBit i && !b.testBit i) := by
  unfold dfN
  rw [Nat.testBit_xor, Nat.testBit_and]
  cases a.testBit i <;> cases b.testBit i <;> rfl
theorem nI_df (a b : Nat) : nI a &&& (nI b ^^^ (-1)) = nI (dfN a b) := by
  apply Int32.toBitVec_inj.1
  show BitVec.ofNat 32 a &&& (BitVec.ofNat 32 b ^^^ (BitVec.ofInt 32 (-1))) = BitVec.ofNat 32 (dfN a b)
  apply BitVec.eq_of_getLsbD_eq
  intro i hi
  have h1 : (BitVec.ofInt 32 (-1)).getLsbD i = true := by
    have : ∀ i, i < 32 → (BitVec.ofInt 32 (-1)).getLsbD i = true := by decide +kernel
    exact this i hi
  rw [BitVec.getLsbD_and, BitVec.getLsbD_xor, h1, BitVec.getLsbD_ofNat, BitVec.getLsbD_ofNat, BitVec.getLsbD_ofNat, dfN_bit]
  simp [hi]
theorem tb_or2 (b s i : Nat) : (b ||| 2 ^ s).testBit i = (b.testBit i || decide (s = i)) := by
  rw [Nat.testBit_or, Nat.testBit_two_pow]
theorem tn_nI {n : Nat} (h : n < 2147483648) : tn (nI n) = n := nI_clamp h
section
variable {x m : VM}
theorem dp_ok (hI : Inv x m) {w : Nat} (hw : w < 16) : ∃ d, d ≤ 142 ∧ x.2.1 300 0 w = nI d ∧ (w < x.2.2.2 4 → m.2.1 1217 0 w / 7 = nI d) ∧ (x.2.2.2 4 ≤ w → d = 0) := by
  by_cases h : w < x.2.2.2 4
  · obtain ⟨⟨a1, a2, a3⟩, _⟩ := hI.per w h
    obtain ⟨p, p1, p2, p3⟩ := rng_nI (a := 1) (b := 999) a2 (by decide)
    have e : nI p / 7 = nI (p / 7) := pk_div (d := 7) (by omega) (by omega) (by omega)
    refine ⟨p / 7, by omega, by rw [a3, p3, e], fun _ => by rw [a1, p3, e], fun q => by omega⟩
  · have := (hI.pe0 w (by omega) hw).2.2.2.2.2.2.2.2.2.2.2
    exact ⟨0, by omega, this, fun q => absurd q h, fun _ => rfl⟩
/-- the day's cost by sets of people, as the reference has it -/
def dD (x : VM) (t : Nat) : Nat := dayD (tn (x.1 301 0)) (fun w => tn (x.2.1 300 0 w)) t
theorem smB_le {f : Nat → Nat} {c : Nat} : ∀ n, (∀ i, i < n → f i ≤ c) → smB f n ≤ n * c
  | 0, _ => by unfold smB; omega
  | n + 1, h => by
    unfold smB
    have a := smB_le n (fun i hi => h i (by omega))
    have b := h n (by omega)
    rw [Nat.add_mul]
    omega
theorem smB_0 {f : Nat → Nat} {k : Nat} : ∀ n, (∀ i, k ≤ i → i < k + n → f i = 0) → smB f (k + n) = smB f k
  | 0, _ => rfl
  | n + 1, h => by
    show smB f (k + n) + f (k + n) = _
    rw [smB_0 n (fun i h1 h2 => h i h1 (by omega)), h (k + n) (by omega) (by omega), Nat.add_zero]
theorem feeN (hI : Inv x m) : ∃ f, f ≤ 999 ∧ x.1 301 0 = nI f ∧ m.1 1206 0 = nI f ∧ tn (x.1 301 0) = f := by
  obtain ⟨f, f1, f2, f3⟩ := rng_nI (a := 0) (b := 999) hI.fee.1.2 (by decide)
  exact ⟨f, f2, f3, by rw [hI.fee.1.1, f3], by rw [f3]; exact tn_nI (by omega)⟩
theorem chgN (hI : Inv x m) : ∃ f, f ≤ 999 ∧ x.1 302 0 = nI f ∧ m.1 1207 0 = nI f ∧ tn (x.1 302 0) = f := by
  obtain ⟨f, f1, f2, f3⟩ := rng_nI (a := 0) (b := 999) hI.fee.2.2 (by decide)
  exact ⟨f, f2, f3, by rw [hI.fee.2.1, f3], by rw [f3]; exact tn_nI (by omega)⟩
theorem dD_le (hI : Inv x m) (t : Nat) : dD x t ≤ 3300 := by
  obtain ⟨f, f1, f2, f3, f4⟩ := feeN hI
  unfold dD dayD
  rw [f4]
  have := smB_le (f := fun w => if t.testBit w = true then tn (x.2.1 300 0 w) else 0) (c := 142) 16 (fun w hw => by
    obtain ⟨d, d1, d2, _⟩ := dp_ok hI hw
    show (if t.testBit w = true then tn (x.2.1 300 0 w) else 0) ≤ 142
    rw [d2, tn_nI (by omega)]
    split <;> omega)
  show f + smB (fun w => if t.testBit w = true then tn (x.2.1 300 0 w) else 0) 16 ≤ 3300
  omega
theorem l_dc (hI : Inv x m) {t : Nat} (ht : t < 2147483648) : f_X3_dayCost x (nI t) = some (nI (dD x t)) := by
  obtain ⟨f, f1, f2, f3, f4⟩ := feeN hI
  unfold f_X3_dayCost
  rw [f2]
  refine lp_seq (fun k => (nI (f + smB (fun w => if t.testBit w = true then tn (x.2.1 300 0 w) else 0) k), nI k)) 16 (some (nI (dD x t))) (fun k hk => ?_) ?_
  · unfold b_X3_dayCost_7
    obtain ⟨d, d1, d2, _⟩ := dp_ok hI hk
    simp (disch := omega) only [Int32.le_iff_toInt_le, t_16, tI, if_neg, bt_1, inb_T, if_pos, nI_clamp, nI_1]
    rw [d2]
    show (if t.testBit k = true then Sum.inl (nI (f + smB _ k) + nI d, nI (k + 1)) else Sum.inl (nI (f + smB _ k), nI (k + 1))) = Sum.inl (nI (f + (smB _ k + if t.testBit k = true then tn (x.2.1 300 0 k) else 0)), nI (k + 1))
    rw [d2, tn_nI (by omega)]
    by_cases h : t.testBit k = true
    · rw [if_pos h, if_pos h, nI_add, Nat.add_assoc]
    · rw [if_neg h, if_neg h]; rfl
  · unfold b_X3_dayCost_7
    rw [if_pos (show (16 : Int32) ≤ nI 16 by decide)]
    unfold dD dayD
    rw [f4]
theorem l_dp (hI : Inv x m) {t : Nat} (ht : t < 2147483648) : ∃ r, f_X12_dayPay m (nI t) = some r ∧ m.1 1206 0 + r = nI (dD x t) := by
  obtain ⟨f, f1, f2, f3, f4⟩ := feeN hI
  obtain ⟨n1, n2⟩ := hI.bas.1.1
  have n3 : m.1 1202 0 = nI (x.2.2.2 4) := by rw [hI.cnt.1, n1]
  refine ⟨nI (smB (fun w => if t.testBit w = true then tn (x.2.1 300 0 w) else 0) (x.2.2.2 4)), ?_, ?_⟩
  · unfold f_X12_dayPay
    refine lp_seq (fun k => (nI (smB (fun w => if t.testBit w = true then tn (x.2.1 300 0 w) else 0) k), nI k)) (x.2.2.2 4) (some (nI (smB (fun w => if t.testBit w = true then tn (x.2.1 300 0 w) else 0) (x.2.2.2 4)))) (fun k hk => ?_) ?_
    · unfold b_X12_dayPay_4
      obtain ⟨d, d1, d2, d3, _⟩ := dp_ok hI (show k < 16 by omega)
      simp (disch := omega) only [n3, Int32.le_iff_toInt_le, tI, if_neg, bt_1, inb_T, if_pos, nI_clamp, nI_1]
      rw [d3 hk]
      show (if t.testBit k = true then Sum.inl (nI (smB _ k) + nI d, nI (k + 1)) else Sum.inl (nI (smB _ k), nI (k + 1))) = Sum.inl (nI (smB _ k + if t.testBit k = true then tn (x.2.1 300 0 k) else 0), nI (k + 1))
      rw [d2, tn_nI (by omega)]
      by_cases h : t.testBit k = true
      · rw [if_pos h, if_pos h, nI_add]
      · rw [if_neg h, if_neg h]; rfl
    · unfold b_X12_dayPay_4
      simp only [n3, if_pos (Int32.le_refl _)]
  · rw [f3, nI_add]
    unfold dD dayD
    rw [f4]
    have e : (16 : Nat) = x.2.2.2 4 + (16 - x.2.2.2 4) := by omega
    rw [e, smB_0]
    intro w h1 h2
    obtain ⟨d, d1, d2, d3, d4⟩ := dp_ok hI (show w < 16 by omega)
    show (if t.testBit w = true then tn (x.2.1 300 0 w) else 0) = 0
    rw [d2, tn_nI (by omega), d4 h1]
    split <;> rfl
theorem caN (hI : Inv x m) {p s : Nat} (hp : p < x.2.2.2 5) (hs : s < x.2.2.2 (20 + p)) : ∃ c, c < 2 ^ x.2.2.2 4 ∧ c < 65536 ∧ x.1 801 (8 * p + s) = nI c ∧ m.2.1 1237 0 (8 * p + s) = nI c := by
  have h := (hI.sce p s hp hs).2.1
  have h16 : 2 ^ x.2.2.2 4 ≤ 65536 := Nat.pow_le_pow_right (by decide) hI.bas.1.1.2
  have h0 := Nat.two_pow_pos (x.2.2.2 4)
  have e : ((2 ^ x.2.2.2 4 : Nat) : Int) = 2 ^ x.2.2.2 4 := by rw [Int.natCast_pow]; rfl
  have hr := h.2
  unfold rng at hr
  rcases ix (x.1 801 (8 * p + s)) (2 ^ x.2.2.2 4) (by omega) with q | q | ⟨c, q, q2⟩
  · omega
  · omega
  · exact ⟨c, q, by omega, q2, by rw [h.1, q2]⟩
theorem plN (hI : Inv x m) {p s : Nat} (hp : p < x.2.2.2 5) (hs : s < x.2.2.2 (20 + p)) : ∃ c, c ≤ 9 ∧ x.1 800 (8 * p + s) = nI c ∧ m.2.1 1236 0 (8 * p + s) = nI c := by
  have h := (hI.sce p s hp hs).1
  obtain ⟨c, c1, c2, c3⟩ := rng_nI (a := 0) (b := 9) h.2 (by decide)
  exact ⟨c, c2, c3, by rw [h.1, c3]⟩
theorem dyN (hI : Inv x m) {p s : Nat} (hp : p < x.2.2.2 5) (hs : s < x.2.2.2 (20 + p)) : ∃ c, 1 ≤ c ∧ c ≤ 4 ∧ x.1 802 (8 * p + s) = nI c ∧ m.2.1 1238 0 (8 * p + s) = nI c := by
  have h := (hI.sce p s hp hs).2.2.1
  obtain ⟨c, c1, c2, c3⟩ := rng_nI (a := 1) (b := 4) h.2 (by decide)
  exact ⟨c, c1, c2, c3, by rw [h.1, c3]⟩
end
