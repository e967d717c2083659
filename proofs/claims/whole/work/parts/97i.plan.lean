/-! plan: the plain search over all slots -/
def pU (lot tr : Nat → Nat) : Nat → Nat → Nat
  | 0, _ => 0
  | i + 1, s => pU lot tr i s + (if tr i ≤ s ∧ s < tr i + lot i then 1 else 0)
def pP (lot fk tr : Nat → Nat) : Nat → Nat → Nat
  | 0, _ => 0
  | i + 1, s => if tr i ≤ s ∧ s < tr i + lot i then pP lot fk tr i s ||| fk i else pP lot fk tr i s
def updN (f : Nat → Nat) (k v : Nat) : Nat → Nat := fun j => if j = k then v else f j
theorem uN_s {f : Nat → Nat} {k v : Nat} : updN f k v k = v := if_pos rfl
theorem uN_n {f : Nat → Nat} {k v j : Nat} (h : j ≠ k) : updN f k v j = f j := if_neg h
theorem pU_congr {lot tr tr' : Nat → Nat} {s : Nat} : ∀ i, (∀ q, q < i → tr q = tr' q) → pU lot tr i s = pU lot tr' i s
  | 0, _ => rfl
  | i + 1, h => by
    unfold pU
    rw [pU_congr i (fun q hq => h q (by omega)), h i (by omega)]
theorem pP_congr {lot fk tr tr' : Nat → Nat} {s : Nat} : ∀ i, (∀ q, q < i → tr q = tr' q) → pP lot fk tr i s = pP lot fk tr' i s
  | 0, _ => rfl
  | i + 1, h => by
    unfold pP
    rw [pP_congr i (fun q hq => h q (by omega)), h i (by omega)]
theorem pU_le {lot tr : Nat → Nat} {s : Nat} : ∀ i, pU lot tr i s ≤ i
  | 0 => Nat.le_refl _
  | i + 1 => by
    have := pU_le (lot := lot) (tr := tr) (s := s) i
    unfold pU
    by_cases c : tr i ≤ s ∧ s < tr i + lot i
    · rw [if_pos c]; omega
    · rw [if_neg c]; omega
theorem pP_lt {lot fk tr : Nat → Nat} {s n : Nat} (hf : ∀ i, i < n → fk i < 65536) : ∀ i, i ≤ n → pP lot fk tr i s < 65536
  | 0, _ => by unfold pP; decide
  | i + 1, h => by
    have := pP_lt (lot := lot) (tr := tr) (s := s) hf i (by omega)
    unfold pP
    by_cases c : tr i ≤ s ∧ s < tr i + lot i
    · rw [if_pos c]; exact Nat.or_lt_two_pow (n := 16) this (hf i (by omega))
    · rw [if_neg c]; exact this
def pOk (lot fk : Nat → Nat) (gr : Nat → Int32) (st : Nat) (tr : Nat → Nat) (i t : Nat) : Prop := (gr i = 0 ∨ t % 4 = 0) ∧ ∀ s, t ≤ s → s < t + lot i → s < 8 → pU lot tr i s < st ∧ pP lot fk tr i s &&& fk i = 0
noncomputable def pStep (lot fk : Nat → Nat) (gr : Nat → Int32) (st : Nat) (V : Nat → Nat → Nat) (rec : Nat → Nat → (Nat → Nat) → Int × (Nat → Nat) → Int × (Nat → Nat)) (i w : Nat) (tr : Nat → Nat) (t : Nat) (b : Int × (Nat → Nat)) : Int × (Nat → Nat) :=
  if t < 8 then (@ite _ (pOk lot fk gr st tr i t) (Classical.propDecidable _) (rec (i + 1) (w + V i t) (updN tr i t) b) b) else rec (i + 1) w (updN tr i 8) b
noncomputable def pDfs (lot fk : Nat → Nat) (gr : Nat → Int32) (st : Nat) (V : Nat → Nat → Nat) : Nat → Nat → Nat → (Nat → Nat) → Int × (Nat → Nat) → Int × (Nat → Nat)
  | 0, _, w, tr, b => if b.1 < (w : Int) then ((w : Int), tr) else b
  | k + 1, i, w, tr, b => fdN (pStep lot fk gr st V (pDfs lot fk gr st V k) i w tr) 9 b
section
variable {lot fk : Nat → Nat} {gr : Nat → Int32} {st n : Nat} {V : Nat → Nat → Nat}
theorem p_y (rec : Nat → Nat → (Nat → Nat) → Int × (Nat → Nat) → Int × (Nat → Nat)) {i w : Nat} {tr : Nat → Nat} {t : Nat} {b : Int × (Nat → Nat)} (ht : t < 8) (h : pOk lot fk gr st tr i t) : pStep lot fk gr st V rec i w tr t b = rec (i + 1) (w + V i t) (updN tr i t) b := by
  unfold pStep; rw [if_pos ht, if_pos h]
theorem p_n (rec : Nat → Nat → (Nat → Nat) → Int × (Nat → Nat) → Int × (Nat → Nat)) {i w : Nat} {tr : Nat → Nat} {t : Nat} {b : Int × (Nat → Nat)} (ht : t < 8) (h : ¬ pOk lot fk gr st tr i t) : pStep lot fk gr st V rec i w tr t b = b := by
  unfold pStep; rw [if_pos ht, if_neg h]
theorem p_o (rec : Nat → Nat → (Nat → Nat) → Int × (Nat → Nat) → Int × (Nat → Nat)) {i w : Nat} {tr : Nat → Nat} {t : Nat} {b : Int × (Nat → Nat)} (ht : ¬ t < 8) : pStep lot fk gr st V rec i w tr t b = rec (i + 1) w (updN tr i 8) b := by
  unfold pStep; rw [if_neg ht]
theorem p_low {M : Nat → Nat} (h0 : ∀ i, i < n → M (i + 1) ≤ M i) (h1 : ∀ i t, i < n → t < 8 → V i t + M (i + 1) ≤ M i) : ∀ (k i w : Nat) (tr : Nat → Nat) (b : Int × (Nat → Nat)), i + k = n → (w : Int) + (M i : Int) ≤ b.1 → pDfs lot fk gr st V k i w tr b = b := by
  intro k
  induction k with
  | zero =>
    intro i w tr b e h
    unfold pDfs
    rw [if_neg (by omega)]
  | succ k ih =>
    intro i w tr b e h
    show fdN _ _ _ = _
    apply fdN_id
    intro t ht
    have q0 := h0 i (by omega)
    by_cases q : t < 8
    · have q1 := h1 i t (by omega) q
      by_cases r : pOk lot fk gr st tr i t
      · rw [p_y _ q r]
        exact ih _ _ _ _ (by omega) (by omega)
      · rw [p_n _ q r]
    · rw [p_o _ q]
      exact ih _ _ _ _ (by omega) (by omega)
theorem p_none : ∀ (k i w : Nat) (tr : Nat → Nat) (b : Int × (Nat → Nat)), (w : Int) ≤ (pDfs lot fk gr st V k i w tr b).1 := by
  intro k
  induction k with
  | zero =>
    intro i w tr b
    unfold pDfs
    by_cases q : b.1 < (w : Int)
    · rw [if_pos q]; exact Int.le_refl _
    · rw [if_neg q]; omega
  | succ k ih =>
    intro i w tr b
    show _ ≤ (pStep lot fk gr st V (pDfs lot fk gr st V k) i w tr 8 (fdN (pStep lot fk gr st V (pDfs lot fk gr st V k) i w tr) 8 b)).1
    rw [p_o _ (by decide)]
    exact ih _ _ _ _
end
/-! the class: free slots, slots in use -/
theorem p_free {y : VM} {t lt f st : Nat} {Uf Pf : Nat → Nat} (h2 : y.1 602 0 = nI st) (hst : st ≤ 3) (h7 : ∀ s, s < 8 → y.2.1 607 0 s = nI (Uf s) ∧ y.2.1 608 0 s = nI (Pf s)) (hU : ∀ s, s < 8 → Uf s ≤ 8) (hP : ∀ s, s < 8 → Pf s < 65536) (ht : t < 8) (hl : lt ≤ 4) : (f_X6_isFree y (nI t) (nI lt) (nI f) = some 1 ∧ ∀ s, t ≤ s → s < t + lt → s < 8 → Uf s < st ∧ Pf s &&& f = 0) ∨ (f_X6_isFree y (nI t) (nI lt) (nI f) = some 0 ∧ ¬ ∀ s, t ≤ s → s < t + lt → s < 8 → Uf s < st ∧ Pf s &&& f = 0) := by
  unfold f_X6_isFree
  refine lp_cnt (V := Int32) (d := none) (min (t + lt) 8) (fun k v => v = nI k ∧ t ≤ k ∧ ∀ s, t ≤ s → s < k → Uf s < st ∧ Pf s &&& f = 0) (fun o => (o = some 1 ∧ ∀ s, t ≤ s → s < t + lt → s < 8 → Uf s < st ∧ Pf s &&& f = 0) ∨ (o = some 0 ∧ ¬ ∀ s, t ≤ s → s < t + lt → s < 8 → Uf s < st ∧ Pf s &&& f = 0)) ?_ ?_ t _ (by omega) ⟨rfl, Nat.le_refl _, fun s h1 h2 => by omega⟩
  · rintro k v hk ⟨rfl, k1, k2⟩
    have k8 : k < 8 := by omega
    have u8 := hU k k8
    have p8 := hP k k8
    unfold b_X6_isFree_3
    rw [nI_add, if_neg (by rw [Int32.le_iff_toInt_le, tI (by omega), tI (by omega)]; omega), if_neg (by rw [Int32.le_iff_toInt_le, tI (by omega), show (8 : Int32).toInt = 8 from rfl]; omega), if_pos (inb8 k8), nI_clamp (by omega), h2, (h7 k k8).1, (h7 k k8).2]
    by_cases q : Uf k < st
    · rw [if_neg (by rw [Int32.le_iff_toInt_le, tI (by omega), tI (by omega)]; omega), if_pos (inb8 k8), nI_and]
      have a8 : Pf k &&& f < 65536 := Nat.lt_of_le_of_lt Nat.and_le_left p8
      by_cases r : Pf k &&& f = 0
      · rw [r, if_pos (show nI 0 = 0 from rfl), nI_1]
        left
        refine ⟨_, rfl, rfl, by omega, fun s h1 h2 => ?_⟩
        by_cases e : s = k
        · subst e; exact ⟨q, r⟩
        · exact k2 s h1 (by omega)
      · rw [if_neg (by rw [i32eq, tI (by omega), t_0]; omega)]
        right
        exact ⟨_, rfl, Or.inr ⟨rfl, fun h => r (h k k1 (by omega) k8).2⟩⟩
    · rw [if_pos (by rw [Int32.le_iff_toInt_le, tI (by omega), tI (by omega)]; omega)]
      right
      exact ⟨_, rfl, Or.inr ⟨rfl, fun h => q (h k k1 (by omega) k8).1⟩⟩
  · rintro v ⟨rfl, k1, k2⟩
    refine ⟨some 1, ?_, Or.inl ⟨rfl, fun s h1 h2 h3 => k2 s h1 (by omega)⟩⟩
    unfold b_X6_isFree_3
    rw [nI_add]
    by_cases c : t + lt ≤ 8
    · rw [if_pos (by rw [Int32.le_iff_toInt_le, tI (by omega), tI (by omega)]; omega)]
    · rw [if_neg (by rw [Int32.le_iff_toInt_le, tI (by omega), tI (by omega)]; omega), if_pos (by rw [Int32.le_iff_toInt_le, tI (by omega), show (8 : Int32).toInt = 8 from rfl]; omega)]
theorem p_use (y : VM) {t lt f : Nat} (v : Int32) (ht : t < 8) (hl : lt ≤ 4) : ∃ y', f_X6_use y (nI t) (nI lt) (nI f) v = some y' ∧ y'.1 = y.1 ∧ y'.2.2 = y.2.2 ∧ (∀ F i, F ≠ 607 → F ≠ 608 → y'.2.1 F i = y.2.1 F i) ∧ (∀ F i, i ≠ 0 → y'.2.1 F i = y.2.1 F i) ∧ ∀ s, s < 8 → y'.2.1 607 0 s = (if t ≤ s ∧ s < t + lt then y.2.1 607 0 s + v else y.2.1 607 0 s) ∧ y'.2.1 608 0 s = (if t ≤ s ∧ s < t + lt then y.2.1 608 0 s ^^^ nI f else y.2.1 608 0 s) := by
  unfold f_X6_use
  refine lp_cnt (V := Int32 × VM) (d := none) (min (t + lt) 8) (fun k u => ∃ z, u = (nI k, z) ∧ t ≤ k ∧ z.1 = y.1 ∧ z.2.2 = y.2.2 ∧ (∀ F i, F ≠ 607 → F ≠ 608 → z.2.1 F i = y.2.1 F i) ∧ (∀ F i, i ≠ 0 → z.2.1 F i = y.2.1 F i) ∧ ∀ s, s < 8 → z.2.1 607 0 s = (if t ≤ s ∧ s < k then y.2.1 607 0 s + v else y.2.1 607 0 s) ∧ z.2.1 608 0 s = (if t ≤ s ∧ s < k then y.2.1 608 0 s ^^^ nI f else y.2.1 608 0 s)) (fun o => ∃ y' : VM, o = some y' ∧ y'.1 = y.1 ∧ y'.2.2 = y.2.2 ∧ (∀ F i, F ≠ 607 → F ≠ 608 → y'.2.1 F i = y.2.1 F i) ∧ (∀ F i, i ≠ 0 → y'.2.1 F i = y.2.1 F i) ∧ ∀ s, s < 8 → y'.2.1 607 0 s = (if t ≤ s ∧ s < t + lt then y.2.1 607 0 s + v else y.2.1 607 0 s) ∧ y'.2.1 608 0 s = (if t ≤ s ∧ s < t + lt then y.2.1 608 0 s ^^^ nI f else y.2.1 608 0 s)) ?_ ?_ t _ (by omega) ⟨y, rfl, Nat.le_refl _, rfl, rfl, fun F i _ _ => rfl, fun F i _ => rfl, fun s hs => ⟨by rw [if_neg (by omega)], by rw [if_neg (by omega)]⟩⟩
  · rintro k u hk ⟨z, rfl, k1, a1, a2, a3, a4, a5⟩
    left
    have k8 : k < 8 := by omega
    unfold b_X6_use_3
    simp only [nI_add]
    rw [if_neg (by rw [Int32.le_iff_toInt_le, tI (by omega), tI (by omega)]; omega), if_neg (by rw [Int32.le_iff_toInt_le, tI (by omega), show (8 : Int32).toInt = 8 from rfl]; omega), if_pos (inb8 k8), if_pos (inb8 k8), if_pos (inb8 k8), if_pos (inb8 k8), nI_clamp (by omega), nI_1]
    refine ⟨_, rfl, _, rfl, by omega, a1, a2, fun F i q1 q2 => ?_, fun F i hi => ?_, fun s hs => ?_⟩
    · rw [rAn q2, rAn q1]; exact a3 F i q1 q2
    · by_cases e : F = 608
      · subst e; rw [sA_n hi, rAn (by decide)]; exact a4 _ i hi
      · rw [rAn e]
        by_cases e : F = 607
        · subst e; rw [sA_n hi]; exact a4 _ i hi
        · rw [rAn e]; exact a4 F i hi
    · rw [rAn (show 607 ≠ 608 by decide), rAs, rAs, rAn (show 608 ≠ 607 by decide)]
      obtain ⟨b1, b2⟩ := a5 s hs
      by_cases e : s = k
      · subst e
        rw [if_neg (by omega)] at b1 b2
        rw [pk_us, pk_us, b1, b2, if_pos (by omega), if_pos (by omega)]
        exact ⟨rfl, rfl⟩
      · rw [u_n e, u_n e, b1, b2]
        by_cases c : t ≤ s ∧ s < k
        · rw [if_pos c, if_pos c, if_pos (by omega), if_pos (by omega)]; exact ⟨rfl, rfl⟩
        · rw [if_neg c, if_neg c, if_neg (by omega), if_neg (by omega)]; exact ⟨rfl, rfl⟩
  · rintro u ⟨z, rfl, k1, a1, a2, a3, a4, a5⟩
    refine ⟨some z, ?_, z, rfl, a1, a2, a3, a4, fun s hs => ?_⟩
    · unfold b_X6_use_3
      simp only [nI_add]
      by_cases c : t + lt ≤ 8
      · rw [if_pos (by rw [Int32.le_iff_toInt_le, tI (by omega), tI (by omega)]; omega)]
      · rw [if_neg (by rw [Int32.le_iff_toInt_le, tI (by omega), tI (by omega)]; omega), if_pos (by rw [Int32.le_iff_toInt_le, tI (by omega), show (8 : Int32).toInt = 8 from rfl]; omega)]
    · obtain ⟨b1, b2⟩ := a5 s hs
      rw [b1, b2]
      by_cases c : t ≤ s ∧ s < t + lt
      · simp only [if_pos c, if_pos (show t ≤ s ∧ s < min (t + lt) 8 by omega), and_self]
      · simp only [if_neg c, if_neg (show ¬ (t ≤ s ∧ s < min (t + lt) 8) by omega), and_self]
