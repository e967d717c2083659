/-! best: the class walks the best order -/
theorem pcB_0 : ∀ n, pcB 0 n = 0
  | 0 => rfl
  | n + 1 => by unfold pcB; rw [pcB_0 n, Nat.zero_testBit]; rfl
theorem orB_0 {c : Nat → Nat} : ∀ n, orB c (fun j => Nat.testBit 0 j) n = 0
  | 0 => rfl
  | n + 1 => by unfold orB; rw [orB_0 n, Nat.zero_testBit, if_neg (by decide)]; rfl
section
variable {n : Nat} {pl : Nat → Int32} {ca dy D : Nat → Nat} {chg i : Nat} {X : VM}
theorem b_fst (h : bDat n pl ca dy D chg i X) (hg : ∀ t, t < 2 ^ n → X.2.1 306 0 t = nI (orB ca (fun j => t.testBit j) n)) (hT : bTab n pl ca dy D chg (X.2.1 307 0) 0) {b l k : Nat} (hb : b < 2 ^ n) (hl : l < n) (hv : bVal b l) (hk : n - pcB b n = k + 1) : f_X3_firstOfBest X i (nI (2 ^ n - 1)) (nI b) (nI l) = some (nI (bN n pl ca dy D chg k b l)) ∧ bN n pl ca dy D chg k b l < n ∧ b.testBit (bN n pl ca dy D chg k b l) = false := by
  have n8 := h.hn
  have w := h.two
  have t0 := hT b l (Nat.zero_le _) hb hl hv
  have c8 := bC_le8 h (b := b) (l := l)
  rw [hk] at t0 c8
  obtain ⟨s1, s2, s3, s4⟩ := bN_ok (n := n) (pl := pl) (ca := ca) (dy := dy) (D := D) (chg := chg) (k := k) (b := b) (l := l) (by omega)
  have hT' : bTab n pl ca dy D chg (X.2.1 307 0) (b + 1) := fun b' l' q1 q2 q3 q4 => hT b' l' (Nat.zero_le _) q2 q3 q4
  have ek : n - pcB b n - 1 = k := by omega
  have try' : ∀ t, t < n → b.testBit t = false → ∃ u v, f_X3_onwardCost X i (nI (2 ^ n - 1)) (nI b) (nI t) = some u ∧ f_X3_changeCost X i (nI b) (nI l) (nI t) = some v ∧ u + v = nI (bF n pl ca dy D chg k b l t) ∧ bF n pl ca dy D chg k b l t ≤ 200000 := by
    intro t ht hf
    have on := b_onw h hg hb ht (b_on h hT' hb ht hf)
    have f1 := bF_le h (l := l) ht hf
    rw [ek] at on f1
    refine ⟨_, _, on, b_chg h (by omega) hl ht, ?_, f1⟩
    rw [nI_add]
    refine congrArg nI ?_
    unfold bF bSt; omega
  refine ⟨?_, s1, s2⟩
  generalize bN n pl ca dy D chg k b l = N at s1 s2 s3 s4 ⊢
  unfold f_X3_firstOfBest
  rw [mul8, nI_add, if_pos (by rw [inb_T, tI (by omega)]; omega)]
  refine lp_cnt (V := Int32) (d := none) N (fun t v => v = nI t) (fun o => o = some (nI N)) ?_ ?_ 0 _ (Nat.zero_le _) rfl
  · rintro t v ht rfl
    left
    have lt : ¬ nI n ≤ nI t := by rw [Int32.le_iff_toInt_le, tI (by omega), tI (by omega)]; omega
    unfold b_X3_firstOfBest_17
    rw [if_pos h.hc, h.h502, if_neg lt]
    simp only [bt_0 (show b < 2147483648 by omega) (show t < 32 by omega), nI_1]
    by_cases c : b.testBit t = false
    · obtain ⟨u, v, r1, r2, r3, r4⟩ := try' t (by omega) c
      rw [if_pos c, r1, Option.elim_some, r2, Option.elim_some, r3, mul8, nI_add, nI_clamp (by omega), t0, if_neg (by rw [i32eq, tI (by omega), tI (by omega)]; have := s4 t ht c; omega)]
      exact ⟨_, rfl, rfl⟩
    · rw [if_neg c]
      exact ⟨_, rfl, rfl⟩
  · rintro v rfl
    have lt : ¬ nI n ≤ nI N := by rw [Int32.le_iff_toInt_le, tI (by omega), tI (by omega)]; omega
    obtain ⟨u, v, r1, r2, r3, r4⟩ := try' N s1 s2
    unfold b_X3_firstOfBest_17
    rw [if_pos h.hc, h.h502, if_neg lt]
    simp only [bt_0 (show b < 2147483648 by omega) (show N < 32 by omega)]
    rw [if_pos s2, r1, Option.elim_some, r2, Option.elim_some, r3, mul8, nI_add, nI_clamp (by omega), t0, s3, if_pos rfl]
    exact ⟨_, rfl, rfl⟩
theorem b_wlk (h : bDat n pl ca dy D chg i X) (hn : 0 < n) (hg : ∀ t, t < 2 ^ n → X.2.1 306 0 t = nI (orB ca (fun j => t.testBit j) n)) (hT : bTab n pl ca dy D chg (X.2.1 307 0) 0) : ∃ o, f_X3_walkBest X i (nI (2 ^ n - 1)) = some (setA X 304 0 o) ∧ ∀ j, j < n → o j = nI ((bW n pl ca dy D chg n 0 0).getD j 0) := by
  have n8 := h.hn
  have w := h.two
  obtain ⟨W, hW⟩ : ∃ W, W = bW n pl ca dy D chg n 0 0 := ⟨_, rfl⟩
  rw [← hW]
  unfold f_X3_walkBest
  refine lp_cnt (V := Int32 × Int32 × Int32 × VM) (d := none) n (fun a v => ∃ b l o, v = (nI b, nI l, nI a, setA X 304 0 o) ∧ b < 2 ^ n ∧ l < n ∧ bVal b l ∧ pcB b n = a ∧ (∀ j, j < a → o j = nI (W.getD j 0)) ∧ ∀ j, W.getD (a + j) 0 = (bW n pl ca dy D chg (n - a) b l).getD j 0) (fun r => ∃ o, r = some (setA X 304 0 o) ∧ ∀ j, j < n → o j = nI (W.getD j 0)) ?_ ?_ 0 _ (Nat.zero_le _) ⟨0, 0, X.2.1 304 0, by rw [setA_id]; rfl, Nat.two_pow_pos n, hn, ⟨fun _ => rfl, fun q => absurd rfl q⟩, pcB_0 n, fun j hj => by omega, fun j => by rw [hW, Nat.zero_add]; rfl⟩
  · rintro a v ha ⟨b, l, o, rfl, b1, b2, b3, b4, b5, b6⟩
    left
    have hX := h.p304 o
    have lt : ¬ nI n ≤ nI a := by rw [Int32.le_iff_toInt_le, tI (by omega), tI (by omega)]; omega
    obtain ⟨k, hk⟩ : ∃ k, n - a = k + 1 := ⟨n - a - 1, by omega⟩
    obtain ⟨f1, f2, f3⟩ := b_fst hX (fun t ht => hg t ht) (fun b' l' q1 q2 q3 q4 => hT b' l' q1 q2 q3 q4) (k := k) b1 b2 b3 (by rw [b4]; exact hk)
    rw [hk, bW_s] at b6
    generalize bN n pl ca dy D chg k b l = s at f1 f2 f3 b6
    have s2 : 2 ^ s < 2 ^ n := Nat.pow_lt_pow_right (by decide) f2
    unfold b_X3_walkBest_8
    simp only [if_pos hX.hc, hX.h502, if_neg lt]
    rw [f1, Option.elim_some, if_pos (inb8 (by omega)), shl1 s (by omega), nI_or, nI_1, nI_clamp (by omega), rAs, setAA]
    refine ⟨_, rfl, b ||| 2 ^ s, s, _, rfl, Nat.or_lt_two_pow b1 s2, f2, ⟨fun q => by have := or_gt f3; omega, fun _ => by rw [tb_or2]; simp⟩, by rw [pcB_or f3, if_pos f2, b4], fun j hj => ?_, fun j => ?_⟩
    · by_cases e : j = a
      · subst e
        rw [pk_us]
        have := b6 0
        rw [Nat.add_zero] at this
        rw [this]; rfl
      · rw [u_n e]; exact b5 j (by omega)
    · have := b6 (j + 1)
      rw [show a + 1 + j = a + (j + 1) by omega, this, show n - (a + 1) = k by omega]
      rfl
  · rintro v ⟨b, l, o, rfl, b1, b2, b3, b4, b5, b6⟩
    have hX := h.p304 o
    unfold b_X3_walkBest_8
    simp only [if_pos hX.hc, hX.h502, if_pos (Int32.le_refl (nI n))]
    exact ⟨_, rfl, o, rfl, b5⟩
end
def dyX (x : VM) (i s : Nat) : Nat := tn (x.1 802 (8 * i + s))
def chX (x : VM) : Nat := tn (x.1 302 0)
section
variable {x m : VM}
theorem b_dat (hI : Inv x m) {i : Nat} (hi : i < x.2.2.2 5) (h8 : i < 8) (v : Nat) : bDat (x.2.2.2 (20 + i)) (fun s => x.1 800 (8 * i + s)) (caX x i) (dyX x i) (dD x) (chX x) i (setN x 0 v) := by
  obtain ⟨n1, n2, n3⟩ := n_sce hI hi
  obtain ⟨f, f1, f2, f3, f4⟩ := chgN hI
  refine ⟨n3, h8, hi, cN x v i, n1, fun s hs => rfl, fun s hs => ⟨(caX_ok hI hi hs).2.2.1, (caX_ok hI hi hs).2.1⟩, fun s hs => ?_, ?_, fun t ht => l_dc hI ht, dD_le hI⟩
  · obtain ⟨c, c1, c2, c3, c4⟩ := dyN hI hi hs
    have e : dyX x i s = c := by unfold dyX; rw [c3]; exact tn_nI (by omega)
    rw [e]; exact ⟨c3, c2⟩
  · have e : chX x = f := f4
    rw [e]; exact ⟨f2, f1⟩
theorem b_fnd (hI : Inv x m) {i : Nat} (hi : i < x.2.2.2 5) (h8 : i < 8) (hn : 0 < x.2.2.2 (20 + i)) : (x.2.2.2 0 = i + 1 ∧ f_X3_findBest x i = some x) ∨ ∃ g h o, f_X3_findBest x i = some (setA (setA (setA (setN x 0 (i + 1)) 306 0 g) 307 0 h) 304 0 o) ∧ bSpec (x.2.2.2 (20 + i)) (fun s => x.1 800 (8 * i + s)) (caX x i) (dyX x i) (dD x) (chX x) (h 0) o := by
  have hD := b_dat hI hi h8 (i + 1)
  generalize x.2.2.2 (20 + i) = n at hD hn ⊢
  have n8 := hD.hn
  have w := hD.two
  have w0 := Nat.two_pow_pos n
  unfold f_X3_findBest
  rw [if_pos hi, if_pos hI.bas.2]
  by_cases c : x.2.2.2 0 = i + 1
  · rw [if_pos c]; exact Or.inl ⟨c, rfl⟩
  rw [if_neg c, if_pos hD.hc]
  right
  have h5 := hD.h502
  have hall : (1 : Int32) <<< ((setN x 0 (i + 1)).1 502 i &&& 31) - 1 = nI (2 ^ n - 1) := by rw [h5, allB n8]
  generalize hX : setN x 0 (i + 1) = X at hD hall ⊢
  refine lp_cnt (V := Int32 × VM) (d := none) (2 ^ n) (fun t v => ∃ g, v = (nI t, setA X 306 0 g) ∧ 1 ≤ t ∧ ∀ u, u < t → g u = nI (orB (caX x i) (fun j => u.testBit j) n)) (fun r => ∃ g h o, r = some (setA (setA (setA X 306 0 g) 307 0 h) 304 0 o) ∧ bSpec n (fun s => x.1 800 (8 * i + s)) (caX x i) (dyX x i) (dD x) (chX x) (h 0) o) ?_ ?_ 1 _ w0 ⟨_, rfl, Nat.le_refl _, fun u hu => ?_⟩
  · rintro t v ht ⟨g, rfl, t1, g1⟩
    left
    obtain ⟨q1, q2, q3, q4, q5⟩ := ntz t (by omega) (by omega)
    have hlo := low_lt (n := n) (t := t) (by omega) (by omega) ht
    have hXg := hD.p306 g
    have ep : nI t - 1 = nI (t - 1) := by
      obtain ⟨k, rfl⟩ : ∃ k, t = k + 1 := ⟨t - 1, by omega⟩
      rw [nI_pred, Nat.add_sub_cancel]
    unfold b_X3_findBest_32
    simp only []
    rw [hX, hall, if_neg (by rw [Int32.lt_iff_toInt_lt, tI (by omega), tI (by omega)]; omega), q1, Option.elim_some, ep, nI_and, if_pos (by rw [inb_T, tI (by omega)]; omega), if_pos hXg.hc, if_pos (inb8 (by omega)), nI_clamp (show lowB t < 2 ^ 31 by omega), hXg.hm, if_pos hlo, if_pos (hXg.cnd hlo), if_pos (by rw [inb_T, tI (by omega)]; omega), nI_clamp (show t < 2 ^ 31 by omega), nI_clamp (by omega), rAs, g1 _ q5, (hXg.h801 _ hlo).1, nI_or, nI_1, setAA]
    refine ⟨_, rfl, _, rfl, by omega, fun u hu => ?_⟩
    by_cases e : u = t
    · subst e
      rw [pk_us, orB_low (by omega) (by omega) hlo]
    · rw [u_n e]; exact g1 u (by omega)
  · rintro v ⟨g, rfl, t1, g1⟩
    obtain ⟨h, r1, r2⟩ := b_fill (hD.p306 g) hn g1
    obtain ⟨o, r3, r4⟩ := b_wlk ((hD.p306 g).p307 h) hn g1 r2
    unfold b_X3_findBest_32
    simp only []
    rw [hX, hall, if_pos (by rw [Int32.lt_iff_toInt_lt, tI (by omega), tI (by omega)]; omega), r1, Option.elim_some, r3, Option.elim_some]
    refine ⟨_, rfl, g, h, o, rfl, ?_, r4⟩
    have := r2 0 0 (Nat.le_refl _) w0 hn ⟨fun _ => rfl, fun q => absurd rfl q⟩
    rw [pcB_0, Nat.sub_zero] at this
    exact this
  · have : u = 0 := by omega
    subst this
    rw [show (0 : Int32).toNatClampNeg = 0 from rfl, pk_us, orB_0]; rfl
end
