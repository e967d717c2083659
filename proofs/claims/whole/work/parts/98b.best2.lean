/-! best: the class -/
def bDat (n : Nat) (pl : Nat → Int32) (ca dy D : Nat → Nat) (chg i : Nat) (X : VM) : Prop := (n ≤ 8) ∧ (i < 8) ∧ (i < X.2.2.2 5) ∧ (X.2.2.2 (20 + i) = n) ∧ (X.1 502 i = nI n) ∧ (∀ s, s < n → X.1 800 (8 * i + s) = pl s) ∧ (∀ s, s < n → X.1 801 (8 * i + s) = nI (ca s) ∧ ca s < 65536) ∧ (∀ s, s < n → X.1 802 (8 * i + s) = nI (dy s) ∧ dy s ≤ 4) ∧ (X.1 302 0 = nI chg ∧ chg ≤ 999) ∧ (∀ t, t < 2147483648 → f_X3_dayCost X (nI t) = some (nI (D t))) ∧ (∀ t, D t ≤ 3300)
theorem bDat.hn {n : Nat} {pl : Nat → Int32} {ca dy D : Nat → Nat} {chg i : Nat} {X : VM} (h : bDat n pl ca dy D chg i X) : n ≤ 8 := h.1
theorem bDat.hi {n : Nat} {pl : Nat → Int32} {ca dy D : Nat → Nat} {chg i : Nat} {X : VM} (h : bDat n pl ca dy D chg i X) : i < 8 := h.2.1
theorem bDat.hc {n : Nat} {pl : Nat → Int32} {ca dy D : Nat → Nat} {chg i : Nat} {X : VM} (h : bDat n pl ca dy D chg i X) : i < X.2.2.2 5 := h.2.2.1
theorem bDat.hm {n : Nat} {pl : Nat → Int32} {ca dy D : Nat → Nat} {chg i : Nat} {X : VM} (h : bDat n pl ca dy D chg i X) : X.2.2.2 (20 + i) = n := h.2.2.2.1
theorem bDat.h502 {n : Nat} {pl : Nat → Int32} {ca dy D : Nat → Nat} {chg i : Nat} {X : VM} (h : bDat n pl ca dy D chg i X) : X.1 502 i = nI n := h.2.2.2.2.1
theorem bDat.h800 {n : Nat} {pl : Nat → Int32} {ca dy D : Nat → Nat} {chg i : Nat} {X : VM} (h : bDat n pl ca dy D chg i X) : ∀ s, s < n → X.1 800 (8 * i + s) = pl s := h.2.2.2.2.2.1
theorem bDat.h801 {n : Nat} {pl : Nat → Int32} {ca dy D : Nat → Nat} {chg i : Nat} {X : VM} (h : bDat n pl ca dy D chg i X) : ∀ s, s < n → X.1 801 (8 * i + s) = nI (ca s) ∧ ca s < 65536 := h.2.2.2.2.2.2.1
theorem bDat.h802 {n : Nat} {pl : Nat → Int32} {ca dy D : Nat → Nat} {chg i : Nat} {X : VM} (h : bDat n pl ca dy D chg i X) : ∀ s, s < n → X.1 802 (8 * i + s) = nI (dy s) ∧ dy s ≤ 4 := h.2.2.2.2.2.2.2.1
theorem bDat.h302 {n : Nat} {pl : Nat → Int32} {ca dy D : Nat → Nat} {chg i : Nat} {X : VM} (h : bDat n pl ca dy D chg i X) : X.1 302 0 = nI chg ∧ chg ≤ 999 := h.2.2.2.2.2.2.2.2.1
theorem bDat.hD {n : Nat} {pl : Nat → Int32} {ca dy D : Nat → Nat} {chg i : Nat} {X : VM} (h : bDat n pl ca dy D chg i X) : ∀ t, t < 2147483648 → f_X3_dayCost X (nI t) = some (nI (D t)) := h.2.2.2.2.2.2.2.2.2.1
theorem bDat.hDl {n : Nat} {pl : Nat → Int32} {ca dy D : Nat → Nat} {chg i : Nat} {X : VM} (h : bDat n pl ca dy D chg i X) : ∀ t, D t ≤ 3300 := h.2.2.2.2.2.2.2.2.2.2
section
variable {n : Nat} {pl : Nat → Int32} {ca dy D : Nat → Nat} {chg i : Nat} {X : VM}
theorem bDat.p304 (h : bDat n pl ca dy D chg i X) (f : Nat → Int32) : bDat n pl ca dy D chg i (setA X 304 0 f) := ⟨h.hn, h.hi, h.hc, h.hm, h.h502, h.h800, h.h801, h.h802, h.h302, h.hD, h.hDl⟩
theorem bDat.p306 (h : bDat n pl ca dy D chg i X) (f : Nat → Int32) : bDat n pl ca dy D chg i (setA X 306 0 f) := ⟨h.hn, h.hi, h.hc, h.hm, h.h502, h.h800, h.h801, h.h802, h.h302, h.hD, h.hDl⟩
theorem bDat.p307 (h : bDat n pl ca dy D chg i X) (f : Nat → Int32) : bDat n pl ca dy D chg i (setA X 307 0 f) := ⟨h.hn, h.hi, h.hc, h.hm, h.h502, h.h800, h.h801, h.h802, h.h302, h.hD, h.hDl⟩
theorem bDat.cnd (h : bDat n pl ca dy D chg i X) {s : Nat} (hs : s < n) : (8 * i + s) / 8 < X.2.2.2 5 ∧ (8 * i + s) % 8 < X.2.2.2 (20 + (8 * i + s) / 8) := by
  have := h.hn
  rw [show (8 * i + s) / 8 = i by omega, show (8 * i + s) % 8 = s by omega, h.hm]
  exact ⟨h.hc, hs⟩
theorem bDat.two (h : bDat n pl ca dy D chg i X) : 2 ^ n ≤ 256 := Nat.pow_le_pow_right (n := 2) (by decide) h.hn
/-- a last scene, or none -/
def bVal (b l : Nat) : Prop := (b = 0 → l = 0) ∧ (b ≠ 0 → b.testBit l = true)
theorem mul8 (a : Nat) : nI a * 8 = nI (a * 8) := pk_mul a 8
theorem b_chg (h : bDat n pl ca dy D chg i X) {b l s : Nat} (hb : b < 256) (hl : l < n) (hs : s < n) : f_X3_changeCost X i (nI b) (nI l) (nI s) = some (nI (if b ≠ 0 ∧ pl l = pl s then 0 else chg)) := by
  have n8 := h.hn
  unfold f_X3_changeCost j_X3_changeCost_30
  by_cases c : b = 0
  · subst c
    rw [if_pos (show nI 0 = 0 from rfl), if_pos rfl, h.h302.1, if_neg (by omega)]
  · rw [if_neg (by rw [i32eq, tI (by omega), t_0]; omega), if_pos h.hc, if_pos (inb8 (by omega)), nI_clamp (by omega), h.hm, if_pos hl, if_pos (h.cnd hl), if_pos (inb8 (by omega)), nI_clamp (by omega), if_pos hs, if_pos (h.cnd hs), h.h800 l hl, h.h800 s hs]
    by_cases e : pl l = pl s
    · rw [if_pos e, if_neg n10, if_pos ⟨c, e⟩]; rfl
    · rw [if_neg e, if_pos rfl, h.h302.1, if_neg (fun q => e q.2)]
theorem dfN_lt {a b n : Nat} (h : a < 2 ^ n) : dfN a b < 2 ^ n := by
  unfold dfN
  exact Nat.xor_lt_two_pow h (Nat.lt_of_le_of_lt Nat.and_le_left h)
theorem b_onw (h : bDat n pl ca dy D chg i X) (hg : ∀ t, t < 2 ^ n → X.2.1 306 0 t = nI (orB ca (fun j => t.testBit j) n)) {b s v : Nat} (hb : b < 2 ^ n) (hs : s < n) (hv : X.2.1 307 0 ((b ||| 2 ^ s) * 8 + s) = nI v) : f_X3_onwardCost X i (nI (2 ^ n - 1)) (nI b) (nI s) = some (nI (dy s * D (ca s ||| (orB ca (fun j => b.testBit j) n &&& orB ca (fun j => !b.testBit j) n)) + v)) := by
  have n8 := h.hn
  have w := h.two
  have w0 := Nat.two_pow_pos n
  have hs2 : 2 ^ s < 2 ^ n := Nat.pow_lt_pow_right (by decide) hs
  have hbs : b ||| 2 ^ s < 2 ^ n := Nat.or_lt_two_pow hb hs2
  have hdf : dfN (2 ^ n - 1) b < 2 ^ n := dfN_lt (by omega)
  have ed : orB ca (fun j => (dfN (2 ^ n - 1) b).testBit j) n = orB ca (fun j => !b.testBit j) n := orB_congr n (fun j hj => by
    show (dfN (2 ^ n - 1) b).testBit j = !b.testBit j
    rw [dfN_bit, Nat.testBit_two_pow_sub_one]
    simp [hj]) (fun _ _ => rfl)
  have l1 : orB ca (fun j => b.testBit j) n &&& orB ca (fun j => !b.testBit j) n < 65536 := Nat.lt_of_le_of_lt Nat.and_le_left (orB_lt (N := 16) _ (fun j hj => (h.h801 j hj).2))
  have l2 : ca s ||| (orB ca (fun j => b.testBit j) n &&& orB ca (fun j => !b.testBit j) n) < 65536 := Nat.or_lt_two_pow (n := 16) (h.h801 s hs).2 l1
  unfold f_X3_onwardCost
  rw [if_pos h.hc, if_pos (inb8 (by omega)), nI_clamp (by omega), h.hm, if_pos hs, if_pos (h.cnd hs), if_pos (by rw [inb_T, tI (by omega)]; omega), nI_df, if_pos (by rw [inb_T, tI (by omega)]; omega), shl1 s (by omega), nI_or, mul8, nI_add, if_pos (by rw [inb_T, tI (by omega)]; omega), nI_clamp (by omega), nI_clamp (by omega), nI_clamp (by omega), hg b hb, hg _ hdf, ed, (h.h801 s hs).1, nI_and, nI_or, h.hD _ (by omega), Option.elim_some, (h.h802 s hs).1, pk_mul, hv, nI_add]
/-! who is in a set of scenes -/
def lowB (t : Nat) : Nat := fsB (fun s => t.testBit s) 8 0
theorem ntz : ∀ t, t < 256 → t ≠ 0 → f_J6_numberOfTrailingZeros_0f7a4 (nI t) = some (nI (lowB t)) ∧ t.testBit (lowB t) = true ∧ lowB t < 8 ∧ (t &&& (t - 1)) ||| 2 ^ lowB t = t ∧ (t &&& (t - 1)) < t := by decide +kernel
theorem orB_low {t : Nat} (h8 : t < 256) (ht : t ≠ 0) (hn : lowB t < n) : orB ca (fun j => t.testBit j) n = orB ca (fun j => (t &&& (t - 1)).testBit j) n ||| ca (lowB t) := by
  obtain ⟨_, _, _, q4, _⟩ := ntz t h8 ht
  have hb : ∀ j, t.testBit j = ((t &&& (t - 1)).testBit j || decide (lowB t = j)) := fun j => by rw [← tb_or2, q4]
  apply Nat.eq_of_testBit_eq
  intro w
  have : ∀ a b : Bool, (a = true ↔ b = true) → a = b := by decide
  apply this
  rw [Nat.testBit_or, Bool.or_eq_true, orB_bit, orB_bit]
  constructor
  · rintro ⟨s, s1, s2, s3⟩
    rw [hb, Bool.or_eq_true, decide_eq_true_eq] at s2
    rcases s2 with s2 | s2
    · exact Or.inl ⟨s, s1, s2, s3⟩
    · right; rw [s2]; exact s3
  · rintro (⟨s, s1, s2, s3⟩ | s3)
    · exact ⟨s, s1, by rw [hb, s2]; rfl, s3⟩
    · exact ⟨lowB t, hn, by rw [hb, Bool.or_eq_true, decide_eq_true_eq]; exact Or.inr rfl, s3⟩
theorem low_lt {t : Nat} (h8 : t < 256) (ht : t ≠ 0) (hn : t < 2 ^ n) : lowB t < n := by
  obtain ⟨_, q2, _⟩ := ntz t h8 ht
  by_cases c : lowB t < n
  · exact c
  · exfalso
    rw [Nat.testBit_lt_two_pow (Nat.lt_of_lt_of_le hn (Nat.pow_le_pow_right (n := 2) (by decide) (by omega)))] at q2
    cases q2
end
