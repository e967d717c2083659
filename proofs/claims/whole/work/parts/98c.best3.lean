/-! best: the class's table of what is to come -/
theorem or_gt {b s : Nat} (h : b.testBit s = false) : b < b ||| 2 ^ s := by
  have h1 : b ≤ b ||| 2 ^ s := Nat.left_le_or
  by_cases e : b = b ||| 2 ^ s
  · exfalso
    have : (b ||| 2 ^ s).testBit s = true := by rw [tb_or2]; simp
    rw [← e, h] at this; cases this
  · omega
theorem pcB_lt {b s n : Nat} (hs : s < n) (h : b.testBit s = false) : pcB b n < n := by
  have h1 := pcB_le b n
  by_cases e : pcB b n = n
  · have := pcB_full n e s hs
    rw [h] at this; cases this
  · omega
theorem pcB_all {n : Nat} : ∀ j, j ≤ n → pcB (2 ^ n - 1) j = j
  | 0, _ => rfl
  | j + 1, h => by
    unfold pcB
    rw [pcB_all j (by omega), Nat.testBit_two_pow_sub_one, if_pos (by simp; omega)]
def bTab (n : Nat) (pl : Nat → Int32) (ca dy D : Nat → Nat) (chg : Nat) (h : Nat → Int32) (b : Nat) : Prop := ∀ b' l, b ≤ b' → b' < 2 ^ n → l < n → bVal b' l → h (b' * 8 + l) = nI (bC n pl ca dy D chg (n - pcB b' n) b' l)
section
variable {n : Nat} {pl : Nat → Int32} {ca dy D : Nat → Nat} {chg i : Nat} {X : VM}
theorem bF_le (h : bDat n pl ca dy D chg i X) {b l s : Nat} (hs : s < n) (hb : b.testBit s = false) : bF n pl ca dy D chg (n - pcB b n - 1) b l s ≤ 200000 := by
  have n8 := h.hn
  have h1 := pcB_lt hs hb
  have h2 := bSt_le (K := 0) (pl := pl) (ca := ca) h.hDl (fun s hs => (h.h802 s hs).2) h.h302.2 (b := b) (l := l) hs
  have h3 := bC_le (pl := pl) (ca := ca) h.hDl (fun s hs => (h.h802 s hs).2) h.h302.2 (n - pcB b n - 1) (b ||| 2 ^ s) s (by rw [pcB_or hb, if_pos hs]; omega)
  unfold bF
  omega
theorem bC_le8 (h : bDat n pl ca dy D chg i X) {b l : Nat} : bC n pl ca dy D chg (n - pcB b n) b l ≤ 200000 := by
  have n8 := h.hn
  have h1 := pcB_le b n
  have h3 := bC_le (pl := pl) (ca := ca) h.hDl (fun s hs => (h.h802 s hs).2) h.h302.2 (n - pcB b n) b l (by omega)
  omega
/-- the way on from b by s -/
theorem b_on (h : bDat n pl ca dy D chg i X) {hh : Nat → Int32} {b s : Nat} (hT : bTab n pl ca dy D chg hh (b + 1)) (hb : b < 2 ^ n) (hs : s < n) (hf : b.testBit s = false) : hh ((b ||| 2 ^ s) * 8 + s) = nI (bC n pl ca dy D chg (n - pcB b n - 1) (b ||| 2 ^ s) s) := by
  have hs2 : 2 ^ s < 2 ^ n := Nat.pow_lt_pow_right (by decide) hs
  have hg := or_gt hf
  have := hT (b ||| 2 ^ s) s (by omega) (Nat.or_lt_two_pow hb hs2) hs ⟨fun q => by omega, fun _ => by rw [tb_or2]; simp⟩
  rw [this, pcB_or hf, if_pos hs, Nat.sub_sub]
theorem b_nxt (h : bDat n pl ca dy D chg i X) (hg : ∀ t, t < 2 ^ n → X.2.1 306 0 t = nI (orB ca (fun j => t.testBit j) n)) {hh : Nat → Int32} {b t : Nat} (hT : bTab n pl ca dy D chg hh (b + 1)) (hb : b < 2 ^ n) (ht : t < n) (hf : b.testBit t = false) (hR : ∀ l, l < n → bVal b l → hh (b * 8 + l) = nI (mnB (fun s => !b.testBit s) (bF n pl ca dy D chg (n - pcB b n - 1) b l) t)) : ∃ h', f_X3_fillWithNext (setA X 307 0 hh) i (nI (2 ^ n - 1)) (nI b) (nI t) = some (setA X 307 0 h') ∧ (∀ j, (b + 1) * 8 ≤ j → h' j = hh j) ∧ ∀ l, l < n → bVal b l → h' (b * 8 + l) = nI (mnB (fun s => !b.testBit s) (bF n pl ca dy D chg (n - pcB b n - 1) b l) (t + 1)) := by
  have n8 := h.hn
  have w := h.two
  have on := b_onw (h.p307 hh) (fun u hu => hg u hu) hb ht (v := bC n pl ca dy D chg (n - pcB b n - 1) (b ||| 2 ^ t) t) (b_on h hT hb ht hf)
  unfold f_X3_fillWithNext
  rw [on, Option.elim_some]
  generalize hr : nI (dy t * D (ca t ||| (orB ca (fun j => b.testBit j) n &&& orB ca (fun j => !b.testBit j) n)) + bC n pl ca dy D chg (n - pcB b n - 1) (b ||| 2 ^ t) t) = r1
  refine lp_cnt (V := Int32 × VM) (d := none) n (fun q v => ∃ h', v = (nI q, setA X 307 0 h') ∧ (∀ j, (b + 1) * 8 ≤ j → h' j = hh j) ∧ ∀ l, l < n → bVal b l → h' (b * 8 + l) = nI (mnB (fun s => !b.testBit s) (bF n pl ca dy D chg (n - pcB b n - 1) b l) (if l < q then t + 1 else t))) (fun o => ∃ h', o = some (setA X 307 0 h') ∧ (∀ j, (b + 1) * 8 ≤ j → h' j = hh j) ∧ ∀ l, l < n → bVal b l → h' (b * 8 + l) = nI (mnB (fun s => !b.testBit s) (bF n pl ca dy D chg (n - pcB b n - 1) b l) (t + 1))) ?_ ?_ 0 _ (Nat.zero_le _) ⟨hh, rfl, fun j _ => rfl, fun l hl hv => by rw [if_neg (by omega)]; exact hR l hl hv⟩
  · rintro q v hq ⟨h', rfl, g1, g2⟩
    left
    have hX := h.p307 h'
    have lt : ¬ nI n ≤ nI q := by rw [Int32.le_iff_toInt_le, tI (by omega), tI (by omega)]; omega
    have skip : ¬ bVal b q → ∃ v', Sum.inl (nI (q + 1), setA X 307 0 h') = (Sum.inl v' : (Int32 × VM) ⊕ Option VM) ∧ ∃ h2, v' = (nI (q + 1), setA X 307 0 h2) ∧ (∀ j, (b + 1) * 8 ≤ j → h2 j = hh j) ∧ ∀ l, l < n → bVal b l → h2 (b * 8 + l) = nI (mnB (fun s => !b.testBit s) (bF n pl ca dy D chg (n - pcB b n - 1) b l) (if l < q + 1 then t + 1 else t)) := by
      intro hv
      refine ⟨_, rfl, h', rfl, g1, fun l hl hv2 => ?_⟩
      have : l ≠ q := fun e => hv (e ▸ hv2)
      rw [g2 l hl hv2]
      by_cases c : l < q
      · rw [if_pos c, if_pos (by omega)]
      · rw [if_neg c, if_neg (by omega)]
    have take : bVal b q → ∃ v', j_X3_fillWithNext_45 (setA X 307 0 hh) i (nI (2 ^ n - 1)) (nI b) (nI t) (nI q, setA X 307 0 h') r1 = Sum.inl v' ∧ ∃ h2, v' = (nI (q + 1), setA X 307 0 h2) ∧ (∀ j, (b + 1) * 8 ≤ j → h2 j = hh j) ∧ ∀ l, l < n → bVal b l → h2 (b * 8 + l) = nI (mnB (fun s => !b.testBit s) (bF n pl ca dy D chg (n - pcB b n - 1) b l) (if l < q + 1 then t + 1 else t)) := by
      intro hv
      have old := g2 q hq hv
      rw [if_neg (Nat.lt_irrefl _)] at old
      have f1 := bF_le h (l := q) ht hf
      have ef : dy t * D (ca t ||| (orB ca (fun j => b.testBit j) n &&& orB ca (fun j => !b.testBit j) n)) + bC n pl ca dy D chg (n - pcB b n - 1) (b ||| 2 ^ t) t + (if b ≠ 0 ∧ pl q = pl t then 0 else chg) = bF n pl ca dy D chg (n - pcB b n - 1) b q t := by unfold bF bSt; omega
      have m1 := mnB_top (p := fun s => !b.testBit s) (f := bF n pl ca dy D chg (n - pcB b n - 1) b q) t
      unfold j_X3_fillWithNext_45
      simp only []
      rw [b_chg hX (by omega) hq ht, Option.elim_some, mul8, nI_add, if_pos (by rw [inb_T, tI (by omega)]; omega), if_pos (by rw [inb_T, tI (by omega)]; omega), nI_clamp (by omega), rAs, old, ← hr, nI_add, ef, nI_1, setAA]
      refine ⟨_, rfl, _, rfl, fun j hj => ?_, fun l hl hv2 => ?_⟩
      · rw [u_n (by omega)]; exact g1 j hj
      · by_cases e : l = q
        · subst e
          rw [pk_us, if_pos (Nat.lt_succ_self _)]
          have em : mnB (fun s => !b.testBit s) (bF n pl ca dy D chg (n - pcB b n - 1) b l) (t + 1) = min (mnB (fun s => !b.testBit s) (bF n pl ca dy D chg (n - pcB b n - 1) b l) t) (bF n pl ca dy D chg (n - pcB b n - 1) b l t) := if_pos (by simp only [hf]; rfl)
          rw [em]
          by_cases c : bF n pl ca dy D chg (n - pcB b n - 1) b l t < mnB (fun s => !b.testBit s) (bF n pl ca dy D chg (n - pcB b n - 1) b l) t
          · rw [if_pos (by rw [Int32.lt_iff_toInt_lt, tI (by omega), tI (by omega)]; omega), Nat.min_eq_right (by omega)]
          · rw [if_neg (by rw [Int32.lt_iff_toInt_lt, tI (by omega), tI (by omega)]; omega), Nat.min_eq_left (by omega)]
        · rw [u_n (by omega), g2 l hl hv2]
          by_cases c : l < q
          · rw [if_pos c, if_pos (by omega)]
          · rw [if_neg c, if_neg (by omega)]
    unfold b_X3_fillWithNext_14
    simp only [if_pos hX.hc, hX.h502, if_neg lt, nI_1]
    by_cases c : b = 0
    · rw [if_pos (by rw [c]; rfl)]
      by_cases e : q = 0
      · rw [if_pos (by rw [e]; rfl)]
        exact take ⟨fun _ => e, fun z => absurd c z⟩
      · rw [if_neg (by rw [i32eq, tI (by omega), t_0]; omega)]
        exact skip (fun z => e (z.1 c))
    · rw [if_neg (by rw [i32eq, tI (by omega), t_0]; omega)]
      simp only [bt_1 (show b < 2147483648 by omega) (show q < 32 by omega)]
      by_cases e : b.testBit q = true
      · rw [if_pos e]
        exact take ⟨fun z => absurd z c, fun _ => e⟩
      · rw [if_neg e]
        exact skip (fun z => e (z.2 c))
  · rintro v ⟨h', rfl, g1, g2⟩
    have hX := h.p307 h'
    unfold b_X3_fillWithNext_14
    simp only [if_pos hX.hc, hX.h502, if_pos (Int32.le_refl (nI n))]
    exact ⟨_, rfl, h', rfl, g1, fun l hl hv => by rw [g2 l hl hv, if_pos hl]⟩
/-- a row of the table -/
theorem b_row (h : bDat n pl ca dy D chg i X) (hg : ∀ t, t < 2 ^ n → X.2.1 306 0 t = nI (orB ca (fun j => t.testBit j) n)) {hh : Nat → Int32} {b : Nat} (hT : bTab n pl ca dy D chg hh (b + 1)) (hb : b + 1 < 2 ^ n) (Xo Y0 : VM) (v1 : Int32 × VM) : ∃ h', loopF (Sum.inr (Sum.inr none)) (b_X3_fillLeast_37 Xo i (nI (2 ^ n - 1)) v1 (nI b, Y0)) (0, setA X 307 0 hh) = Sum.inl (nI b + (-1), setA X 307 0 h') ∧ bTab n pl ca dy D chg h' b := by
  have n8 := h.hn
  have w := h.two
  refine lp_cnt (V := Int32 × VM) (d := Sum.inr (Sum.inr none)) 8 (fun q v => ∃ h', v = (nI q, setA X 307 0 h') ∧ (∀ j, (b + 1) * 8 ≤ j → h' j = hh j) ∧ ∀ l, l < q → h' (b * 8 + l) = nI 1000000000) (fun o => ∃ h', o = Sum.inl (nI b + (-1), setA X 307 0 h') ∧ bTab n pl ca dy D chg h' b) ?_ ?_ 0 _ (Nat.zero_le _) ⟨hh, rfl, fun j _ => rfl, fun l hl => by omega⟩
  · rintro q v hq ⟨h', rfl, g1, g2⟩
    left
    have lt : ¬ (8 : Int32) ≤ nI q := by rw [Int32.le_iff_toInt_le, tI (by omega), show (8 : Int32).toInt = 8 from rfl]; omega
    unfold b_X3_fillLeast_37
    simp only [if_neg lt, mul8, nI_add, nI_1]
    rw [if_pos (by rw [inb_T, tI (by omega)]; omega), nI_clamp (by omega), rAs, setAA]
    refine ⟨_, rfl, _, rfl, fun j hj => ?_, fun l hl => ?_⟩
    · rw [u_n (by omega)]; exact g1 j hj
    · by_cases e : l = q
      · subst e; rw [pk_us]; rfl
      · rw [u_n (by omega)]; exact g2 l (by omega)
  · rintro v ⟨h1, rfl, g1, g2⟩
    unfold b_X3_fillLeast_37
    simp only [if_pos (show (8 : Int32) ≤ nI 8 by decide)]
    refine lp_cnt (V := Int32 × VM) (d := Sum.inr (Sum.inr (Sum.inr none))) n (fun t v => ∃ h', v = (nI t, setA X 307 0 h') ∧ (∀ j, (b + 1) * 8 ≤ j → h' j = hh j) ∧ ∀ l, l < n → bVal b l → h' (b * 8 + l) = nI (mnB (fun s => !b.testBit s) (bF n pl ca dy D chg (n - pcB b n - 1) b l) t)) (fun o => ∃ o', o = Sum.inr o' ∧ ∃ h', o' = Sum.inl (nI b + (-1), setA X 307 0 h') ∧ bTab n pl ca dy D chg h' b) ?_ ?_ 0 _ (Nat.zero_le _) ⟨h1, rfl, g1, fun l hl _ => g2 l (by omega)⟩
    · rintro t v ht ⟨h', rfl, k1, k2⟩
      left
      have hX := h.p307 h'
      have lt : ¬ nI n ≤ nI t := by rw [Int32.le_iff_toInt_le, tI (by omega), tI (by omega)]; omega
      have hT' : bTab n pl ca dy D chg h' (b + 1) := fun b' l q1 q2 q3 q4 => by rw [k1 _ (by omega)]; exact hT b' l q1 q2 q3 q4
      unfold b_X3_fillLeast_67
      simp only [if_pos hX.hc, hX.h502, if_neg lt, nI_1, bt_0 (show b < 2147483648 by omega) (show t < 32 by omega)]
      by_cases c : b.testBit t = false
      · rw [if_pos c]
        obtain ⟨h2, r1, r2, r3⟩ := b_nxt h hg hT' (by omega) ht c k2
        rw [r1, Option.elim_some]
        exact ⟨_, rfl, h2, rfl, fun j hj => (r2 j hj).trans (k1 j hj), r3⟩
      · rw [if_neg c]
        refine ⟨_, rfl, h', rfl, k1, fun l hl hv => ?_⟩
        rw [k2 l hl hv]
        have : mnB (fun s => !b.testBit s) (bF n pl ca dy D chg (n - pcB b n - 1) b l) (t + 1) = mnB (fun s => !b.testBit s) (bF n pl ca dy D chg (n - pcB b n - 1) b l) t := if_neg (by simp only [Bool.not_eq_true']; exact c)
        rw [this]
    · rintro v ⟨h', rfl, k1, k2⟩
      have hX := h.p307 h'
      unfold b_X3_fillLeast_67
      simp only [if_pos hX.hc, hX.h502, if_pos (Int32.le_refl (nI n))]
      refine ⟨_, rfl, _, rfl, h', rfl, fun b' l q1 q2 q3 q4 => ?_⟩
      by_cases e : b' = b
      · subst e
        rw [k2 l q3 q4]
        have hp : pcB b' n < n := by
          by_cases c : pcB b' n = n
          · exfalso
            have hall := pcB_full n c
            have : b' = 2 ^ n - 1 := by
              apply Nat.eq_of_testBit_eq
              intro j
              rw [Nat.testBit_two_pow_sub_one]
              by_cases hj : j < n
              · rw [hall j hj]; simp [hj]
              · rw [Nat.testBit_lt_two_pow (Nat.lt_of_lt_of_le q2 (Nat.pow_le_pow_right (n := 2) (by decide) (by omega)))]; simp [hj]
            omega
          · have := pcB_le b' n
            omega
        obtain ⟨k, hk⟩ : ∃ k, n - pcB b' n = k + 1 := ⟨n - pcB b' n - 1, by omega⟩
        rw [hk, bC_s, Nat.add_sub_cancel]
      · rw [k1 _ (by omega)]
        exact hT b' l (by omega) q2 q3 q4
theorem b_fill (h : bDat n pl ca dy D chg i X) (hn : 0 < n) (hg : ∀ t, t < 2 ^ n → X.2.1 306 0 t = nI (orB ca (fun j => t.testBit j) n)) : ∃ h', f_X3_fillLeast X i (nI (2 ^ n - 1)) = some (setA X 307 0 h') ∧ bTab n pl ca dy D chg h' 0 := by
  have n8 := h.hn
  have w := h.two
  have w0 : 2 ≤ 2 ^ n := (show 2 ^ 1 ≤ 2 ^ n from Nat.pow_le_pow_right (by decide) hn)
  unfold f_X3_fillLeast
  refine lp_cnt (V := Int32 × VM) (d := none) 8 (fun q v => ∃ h', v = (nI q, setA X 307 0 h') ∧ ∀ l, l < q → h' ((2 ^ n - 1) * 8 + l) = 0) (fun o => ∃ h', o = some (setA X 307 0 h') ∧ bTab n pl ca dy D chg h' 0) ?_ ?_ 0 _ (Nat.zero_le _) ⟨X.2.1 307 0, by rw [setA_id]; rfl, fun l hl => by omega⟩
  · rintro q v hq ⟨h', rfl, g2⟩
    left
    have lt : ¬ (8 : Int32) ≤ nI q := by rw [Int32.le_iff_toInt_le, tI (by omega), show (8 : Int32).toInt = 8 from rfl]; omega
    unfold b_X3_fillLeast_2
    simp only [if_neg lt, mul8, nI_add, nI_1]
    rw [if_pos (by rw [inb_T, tI (by omega)]; omega), nI_clamp (by omega), rAs, setAA]
    refine ⟨_, rfl, _, rfl, fun l hl => ?_⟩
    by_cases e : l = q
    · subst e; rw [pk_us]
    · rw [u_n (by omega)]; exact g2 l (by omega)
  · rintro v ⟨h1, rfl, g2⟩
    unfold b_X3_fillLeast_2
    simp only [if_pos (show (8 : Int32) ≤ nI 8 by decide)]
    refine lp_down (V := Int32 × VM) (d := Sum.inr none) (fun j v => ∃ a h', v = (a, setA X 307 0 h') ∧ j ≤ 2 ^ n - 1 ∧ a.toInt = (j : Int) - 1 ∧ bTab n pl ca dy D chg h' j) (fun o => ∃ o', o = Sum.inr o' ∧ ∃ h', o' = some (setA X 307 0 h') ∧ bTab n pl ca dy D chg h' 0) ?_ ?_ (2 ^ n - 1) _ ⟨_, h1, rfl, Nat.le_refl _, ?_, ?_⟩
    · rintro j v ⟨a, h', rfl, hj, ha, hT⟩
      left
      have ea : a = nI j := Int32.toInt_inj.mp (by rw [ha, tI (by omega)]; omega)
      subst ea
      obtain ⟨h2, r1, r2⟩ := b_row h hg hT (by omega) X (setA X 307 0 h') (nI 8, setA X 307 0 h1)
      unfold b_X3_fillLeast_30
      simp only [if_neg (nI_npos (show j < 2147483648 by omega))]
      rw [r1]
      refine ⟨_, rfl, _, h2, rfl, by omega, ?_, r2⟩
      rw [addT (by rw [tI (by omega), t_m1]; omega) (by rw [tI (by omega), t_m1]; omega), tI (by omega), t_m1]; omega
    · rintro v ⟨a, h', rfl, hj, ha, hT⟩
      unfold b_X3_fillLeast_30
      simp only []
      rw [if_pos (by rw [Int32.lt_iff_toInt_lt, ha, t_0]; omega)]
      exact ⟨_, rfl, _, rfl, h', rfl, hT⟩
    · rw [subT (by rw [tI (by omega), t_1]; omega) (by rw [tI (by omega), t_1]; omega), tI (by omega), t_1]
    · intro b' l q1 q2 q3 q4
      have : b' = 2 ^ n - 1 := by omega
      subst this
      rw [g2 l (by omega), pcB_all n (Nat.le_refl _), Nat.sub_self]; rfl
end
