/-! plan: the class's search -/
def pE (t : Nat) : Int32 := if t < 8 then nI t else -1
theorem pE_y {t : Nat} (h : t < 8) : pE t = nI t := if_pos h
theorem xor_dis {a b : Nat} (h : a &&& b = 0) : a ^^^ b = a ||| b ∧ (a ||| b) ^^^ b = a := by
  have hb : ∀ i, (a.testBit i && b.testBit i) = false := fun i => by rw [← Nat.testBit_and, h, Nat.zero_testBit]
  constructor
  · apply Nat.eq_of_testBit_eq
    intro i
    have := hb i
    rw [Nat.testBit_xor, Nat.testBit_or]
    revert this
    cases a.testBit i <;> cases b.testBit i <;> decide
  · apply Nat.eq_of_testBit_eq
    intro i
    have := hb i
    rw [Nat.testBit_xor, Nat.testBit_or]
    revert this
    cases a.testBit i <;> cases b.testBit i <;> decide
theorem pU_s {lot tr : Nat → Nat} {i t s : Nat} : pU lot (updN tr i t) (i + 1) s = pU lot tr i s + (if t ≤ s ∧ s < t + lot i then 1 else 0) := by
  show pU lot (updN tr i t) i s + (if updN tr i t i ≤ s ∧ s < updN tr i t i + lot i then 1 else 0) = _
  rw [uN_s, pU_congr (tr' := tr) i (fun q hq => uN_n (by omega))]
theorem pP_s {lot fk tr : Nat → Nat} {i t s : Nat} : pP lot fk (updN tr i t) (i + 1) s = if t ≤ s ∧ s < t + lot i then pP lot fk tr i s ||| fk i else pP lot fk tr i s := by
  show (if updN tr i t i ≤ s ∧ s < updN tr i t i + lot i then pP lot fk (updN tr i t) i s ||| fk i else pP lot fk (updN tr i t) i s) = _
  rw [uN_s, pP_congr (tr' := tr) i (fun q hq => uN_n (by omega))]
def plX (x y : VM) : Prop := (∀ F i, F ≠ 603 → y.1 F i = x.1 F i) ∧ (∀ F i, F ≠ 600 → F ≠ 604 → F ≠ 607 → F ≠ 608 → y.2.1 F i = x.2.1 F i) ∧ y.2.2 = x.2.2 ∧ (∀ F i, i ≠ 0 → y.1 F i = x.1 F i) ∧ ∀ F i, i ≠ 0 → y.2.1 F i = x.2.1 F i
theorem plX.use {x y y' : VM} (h : plX x y) (a1 : y'.1 = y.1) (a2 : y'.2.2 = y.2.2) (a3 : ∀ F i, F ≠ 607 → F ≠ 608 → y'.2.1 F i = y.2.1 F i) (a4 : ∀ F i, i ≠ 0 → y'.2.1 F i = y.2.1 F i) : plX x y' := ⟨fun F i q => by rw [a1]; exact h.1 F i q, fun F i q1 q2 q3 q4 => by rw [a3 F i q3 q4]; exact h.2.1 F i q1 q2 q3 q4, a2.trans h.2.2.1, fun F i hi => by rw [a1]; exact h.2.2.2.1 F i hi, fun F i hi => (a4 F i hi).trans (h.2.2.2.2 F i hi)⟩
theorem plX.put {x y : VM} (h : plX x y) {G : Nat} (hG : G = 600 ∨ G = 604) (f : Nat → Int32) : plX x (setA y G 0 f) := by
  refine ⟨h.1, fun F i q1 q2 q3 q4 => ?_, h.2.2.1, h.2.2.2.1, fun F i hi => ?_⟩
  · rw [rAn (by omega)]; exact h.2.1 F i q1 q2 q3 q4
  · by_cases e : F = G
    · subst e; rw [sA_n hi]; exact h.2.2.2.2 _ i hi
    · rw [rAn e]; exact h.2.2.2.2 F i hi
def pDat (lot fk : Nat → Nat) (gr : Nat → Int32) (st n : Nat) (V : Nat → Nat → Nat) (x : VM) : Prop := n ≤ 5 ∧ n ≤ x.2.2.2 5 ∧ x.1 601 0 = nI n ∧ x.1 602 0 = nI st ∧ st ≤ 3 ∧ ∀ i, i < n → lot i ≤ 4 ∧ x.1 516 i = nI (lot i) ∧ x.2.1 605 0 i = nI (fk i) ∧ fk i < 65536 ∧ (∀ t, t < 8 → x.2.1 517 i t = nI (V i t) ∧ V i t ≤ 999) ∧ ∀ y : VM, f_X11_isUnderKind y (x.1 500 i) 3 = some (gr i)
def pOkC (lot fk : Nat → Nat) (n : Nat) (x y : VM) (i : Nat) (tr : Nat → Nat) (b : Int × (Nat → Nat)) : Prop := plX x y ∧ (y.1 603 0).toInt = b.1 ∧ (0 ≤ b.1 → ∀ s, s < n → y.2.1 600 0 s = pE (b.2 s)) ∧ (∀ s, s < i → y.2.1 604 0 s = pE (tr s)) ∧ ∀ s, s < 8 → y.2.1 607 0 s = nI (pU lot tr i s) ∧ y.2.1 608 0 s = nI (pP lot fk tr i s)
section
variable {lot fk : Nat → Nat} {gr : Nat → Int32} {st n : Nat} {V : Nat → Nat → Nat} {x : VM}
theorem pDat.to (h : pDat lot fk gr st n V x) {y : VM} (hy : plX x y) : pDat lot fk gr st n V y := by
  obtain ⟨a1, a2, a3, a4, a5, a6⟩ := h
  refine ⟨a1, by rw [hy.2.2.1]; exact a2, by rw [hy.1 _ _ (by decide)]; exact a3, by rw [hy.1 _ _ (by decide)]; exact a4, a5, fun i hi => ?_⟩
  obtain ⟨b1, b2, b3, b4, b5, b6⟩ := a6 i hi
  refine ⟨b1, by rw [hy.1 _ _ (by decide)]; exact b2, by rw [hy.2.1 605 0 (by decide) (by decide) (by decide) (by decide)]; exact b3, b4, fun t ht => ?_, fun z => by rw [hy.1 _ _ (by decide)]; exact b6 z⟩
  rw [hy.2.1 517 i (by decide) (by decide) (by decide) (by decide)]; exact b5 t ht
theorem pOkC.in (hD : pDat lot fk gr st n V x) {z : VM} {i t : Nat} {tr : Nat → Nat} {b : Int × (Nat → Nat)} (h : pOkC lot fk n x z i tr b) (hi : i < n) (ht : t < 8) (hd : ∀ s, t ≤ s → s < t + lot i → s < 8 → pP lot fk tr i s &&& fk i = 0) : ∃ y, f_X6_use (setA z 604 0 (upd (z.2.1 604 0) i (nI t))) (nI t) (nI (lot i)) (nI (fk i)) 1 = some y ∧ pOkC lot fk n x y (i + 1) (updN tr i t) b := by
  obtain ⟨h1, h2, h3, h4, h5⟩ := h
  obtain ⟨y, g1, g2, g3, g4, g5, g6⟩ := p_use (setA z 604 0 (upd (z.2.1 604 0) i (nI t))) (t := t) (lt := lot i) (f := fk i) 1 ht (hD.2.2.2.2.2 i hi).1
  refine ⟨y, g1, (h1.put (Or.inr rfl) _).use g2 g3 g4 g5, by rw [g2]; exact h2, fun q s hs => ?_, fun s hs => ?_, fun s hs => ?_⟩
  · rw [g4 600 0 (by decide) (by decide), rAn (by decide)]; exact h3 q s hs
  · rw [g4 604 0 (by decide) (by decide), rAs]
    by_cases e : s = i
    · subst e; rw [pk_us, uN_s, pE_y ht]
    · rw [u_n e, uN_n e]; exact h4 s (by omega)
  · obtain ⟨a1, a2⟩ := g6 s hs
    rw [a1, a2, rAn (by decide), rAn (by decide), (h5 s hs).1, (h5 s hs).2, pU_s, pP_s]
    by_cases c : t ≤ s ∧ s < t + lot i
    · constructor
      · rw [if_pos c, if_pos c, nI_1]
      · rw [if_pos c, if_pos c, nI_xor, (xor_dis (hd s c.1 c.2 hs)).1]
    · constructor
      · rw [if_neg c, if_neg c, Nat.add_zero]
      · rw [if_neg c, if_neg c]
theorem pOkC.out (hD : pDat lot fk gr st n V x) {z : VM} {i t : Nat} {tr : Nat → Nat} {b : Int × (Nat → Nat)} (h : pOkC lot fk n x z (i + 1) (updN tr i t) b) (hi : i < n) (ht : t < 8) (hd : ∀ s, t ≤ s → s < t + lot i → s < 8 → pP lot fk tr i s &&& fk i = 0) : ∃ y, f_X6_use z (nI t) (nI (lot i)) (nI (fk i)) (-1) = some y ∧ pOkC lot fk n x y i tr b := by
  obtain ⟨h1, h2, h3, h4, h5⟩ := h
  obtain ⟨y, g1, g2, g3, g4, g5, g6⟩ := p_use z (t := t) (lt := lot i) (f := fk i) (-1) ht (hD.2.2.2.2.2 i hi).1
  refine ⟨y, g1, h1.use g2 g3 g4 g5, by rw [g2]; exact h2, fun q s hs => ?_, fun s hs => ?_, fun s hs => ?_⟩
  · rw [g4 600 0 (by decide) (by decide)]; exact h3 q s hs
  · rw [g4 604 0 (by decide) (by decide), h4 s (by omega), uN_n (by omega)]
  · obtain ⟨a1, a2⟩ := g6 s hs
    obtain ⟨b1, b2⟩ := h5 s hs
    rw [pU_s] at b1
    rw [pP_s] at b2
    rw [a1, a2, b1, b2]
    by_cases c : t ≤ s ∧ s < t + lot i
    · constructor
      · rw [if_pos c, if_pos c, pk_m1]
      · rw [if_pos c, if_pos c, nI_xor, (xor_dis (hd s c.1 c.2 hs)).2]
    · constructor
      · rw [if_neg c, if_neg c, Nat.add_zero]
      · rw [if_neg c, if_neg c]
theorem pOkC.non {z : VM} {i : Nat} {tr : Nat → Nat} {b : Int × (Nat → Nat)} (h : pOkC lot fk n x z i tr b) : pOkC lot fk n x (setA z 604 0 (upd (z.2.1 604 0) i (-1))) (i + 1) (updN tr i 8) b := by
  obtain ⟨h1, h2, h3, h4, h5⟩ := h
  refine ⟨h1.put (Or.inr rfl) _, h2, fun q s hs => ?_, fun s hs => ?_, fun s hs => ?_⟩
  · rw [rAn (by decide)]; exact h3 q s hs
  · rw [rAs]
    by_cases e : s = i
    · subst e; rw [pk_us, uN_s]; rfl
    · rw [u_n e, uN_n e]; exact h4 s (by omega)
  · rw [rAn (by decide), rAn (by decide), pU_s, pP_s, if_neg (show ¬ (8 ≤ s ∧ s < 8 + lot i) by omega), if_neg (show ¬ (8 ≤ s ∧ s < 8 + lot i) by omega)]
    exact h5 s hs
theorem pOkC.dwn {z : VM} {i : Nat} {tr : Nat → Nat} {b : Int × (Nat → Nat)} (h : pOkC lot fk n x z (i + 1) (updN tr i 8) b) : pOkC lot fk n x z i tr b := by
  obtain ⟨h1, h2, h3, h4, h5⟩ := h
  refine ⟨h1, h2, h3, fun s hs => by rw [h4 s (by omega), uN_n (by omega)], fun s hs => ?_⟩
  have := h5 s hs
  rw [pU_s, pP_s, if_neg (show ¬ (8 ≤ s ∧ s < 8 + lot i) by omega), if_neg (show ¬ (8 ≤ s ∧ s < 8 + lot i) by omega)] at this
  exact this
theorem p_cls {M : Nat → Nat} (hD : pDat lot fk gr st n V x) (hM : ∀ i, i ≤ n → x.2.1 606 0 i = nI (M i) ∧ M i ≤ 10000) (hMn : M n = 0) (h0 : ∀ i, i < n → M (i + 1) ≤ M i) (h1 : ∀ i t, i < n → t < 8 → V i t + M (i + 1) ≤ M i) : ∀ (k i fu : Nat) (y : VM) (w : Nat) (tr : Nat → Nat) (b : Int × (Nat → Nat)), i + k = n → k < fu → w ≤ 999 * i → pOkC lot fk n x y i tr b → ∃ y', f_X6_search fu y (nI i) (nI w) = some y' ∧ pOkC lot fk n x y' i tr (pDfs lot fk gr st V k i w tr b) := by
  have n5 := hD.1
  intro k
  induction k with
  | zero =>
    intro i fu y w tr b e hf hw hy
    obtain ⟨fu, rfl⟩ : ∃ q, fu = q + 1 := ⟨fu - 1, by omega⟩
    have ei : i = n := e
    subst ei
    have hDy := hD.to hy.1
    obtain ⟨c1, c2, c3, c4, c5⟩ := hy
    have y7 : y.2.1 606 0 i = nI 0 := by rw [c1.2.1 606 0 (by decide) (by decide) (by decide) (by decide), (hM i (Nat.le_refl _)).1, hMn]
    have ein : inb (nI i) 9 = true := by rw [inb_T, tI (by omega)]; omega
    show ∃ y', fb_X6_search (f_X6_search fu) y (nI i) (nI w) = some y' ∧ _
    unfold fb_X6_search pDfs
    rw [if_pos ein, nI_clamp (by omega), y7, nI_add, Nat.add_zero]
    by_cases q : b.1 < (w : Int)
    · rw [if_pos (by rw [Int32.lt_iff_toInt_lt, tI (by omega), c2]; exact q), hDy.2.2.1, if_neg (by rw [Int32.lt_iff_toInt_lt]; omega), if_pos q]
      have e5 : (setI y 603 0 (nI w)).1 601 0 = nI i := by rw [rIn (by decide)]; exact hDy.2.2.1
      have esp : spn 0 (nI i) 8 = true := by rw [spn_T, tI (by omega), t_0]; omega
      rw [e5, if_pos esp, if_pos esp, nI_clamp (by omega), show (0 : Int32).toNatClampNeg = 0 from rfl]
      have hp : plX x (setI y 603 0 (nI w)) := by
        refine ⟨fun F j q => by rw [rIn q]; exact c1.1 F j q, c1.2.1, c1.2.2.1, fun F j hj => ?_, c1.2.2.2.2⟩
        by_cases e : F = 603
        · subst e; rw [sI_n hj]; exact c1.2.2.2.1 _ j hj
        · rw [rIn e]; exact c1.2.2.2.1 F j hj
      refine ⟨_, rfl, hp.put (Or.inl rfl) _, ?_, fun _ s hs => ?_, fun s hs => ?_, fun s hs => ?_⟩
      · rw [rA1, sI_s, tI (by omega)]
      · rw [sA_s, show va_cpy ((setI y 603 0 (nI w)).2.1 604 0) ((setI y 603 0 (nI w)).2.1 600 0) 0 0 i s = _ from if_pos ⟨Nat.zero_le _, by omega⟩, Nat.sub_zero, Nat.zero_add]
        exact c4 s hs
      · rw [rAn (by decide)]; exact c4 s hs
      · rw [rAn (by decide), rAn (by decide)]; exact c5 s hs
    · rw [if_neg (by rw [Int32.lt_iff_toInt_lt, tI (by omega), c2]; exact q), if_neg q]
      exact ⟨_, rfl, c1, c2, c3, c4, c5⟩
  | succ k ih =>
    intro i fu y w tr b e hf hw hy
    obtain ⟨fu, rfl⟩ : ∃ q, fu = q + 1 := ⟨fu - 1, by omega⟩
    have hi : i < n := by omega
    have hDy := hD.to hy.1
    obtain ⟨m1, m2⟩ := hM i (by omega)
    have y7 : y.2.1 606 0 i = nI (M i) := by rw [hy.1.2.1 606 0 (by decide) (by decide) (by decide) (by decide)]; exact m1
    have ein : inb (nI i) 9 = true := by rw [inb_T, tI (by omega)]; omega
    have e8 : inb (nI i) 8 = true := inb8 (by omega)
    show ∃ y', fb_X6_search (f_X6_search fu) y (nI i) (nI w) = some y' ∧ _
    unfold fb_X6_search
    rw [if_pos ein, nI_clamp (by omega), y7, nI_add]
    by_cases q : b.1 < (w : Int) + (M i : Int)
    · have hug := (hDy.2.2.2.2.2 i hi).2.2.2.2.2 y
      rw [if_pos (by rw [Int32.lt_iff_toInt_lt, tI (by omega), hy.2.1]; omega), hDy.2.2.1, if_pos (by rw [Int32.lt_iff_toInt_lt, tI (by omega), tI (by omega)]; omega), if_pos e8, if_pos (by have := hDy.2.1; omega), hug, Option.elim_some]
      refine lp_cnt (V := Int32 × VM) (d := none) 8 (fun t v => ∃ z, v = (nI t, z) ∧ pOkC lot fk n x z i tr (fdN (pStep lot fk gr st V (pDfs lot fk gr st V k) i w tr) t b)) (fun o => ∃ y', o = some y' ∧ pOkC lot fk n x y' i tr (pDfs lot fk gr st V (k + 1) i w tr b)) ?_ ?_ 0 _ (Nat.zero_le _) ⟨y, rfl, hy⟩
      · rintro t v ht ⟨z, rfl, hz⟩
        left
        have hDz := hD.to hz.1
        obtain ⟨d1, d2, d3, d4, d5, d6⟩ := hDz.2.2.2.2.2 i hi
        have lt : ¬ (8 : Int32) ≤ nI t := by rw [Int32.le_iff_toInt_le, tI (by omega), show (8 : Int32).toInt = 8 from rfl]; omega
        show ∃ v', _ ∧ ∃ z', v' = (nI (t + 1), z') ∧ pOkC lot fk n x z' i tr (pStep lot fk gr st V (pDfs lot fk gr st V k) i w tr t (fdN (pStep lot fk gr st V (pDfs lot fk gr st V k) i w tr) t b))
        generalize hB : fdN (pStep lot fk gr st V (pDfs lot fk gr st V k) i w tr) t b = B at hz ⊢
        have hfr := p_free (y := z) (t := t) (lt := lot i) (f := fk i) (st := st) (Uf := pU lot tr i) (Pf := pP lot fk tr i) hDz.2.2.2.1 hDz.2.2.2.2.1 hz.2.2.2.2 (fun s hs => by have := pU_le (lot := lot) (tr := tr) (s := s) i; omega) (fun s hs => pP_lt (n := n) (fun j hj => (hD.2.2.2.2.2 j hj).2.2.2.1) i (by omega)) ht d1
        have key : (gr i = 0 ∨ t % 4 = 0) → ∃ z', j_X6_search_85 (f_X6_search fu) y (nI i) (nI w) (nI t, z) = Sum.inl (nI (t + 1), z') ∧ pOkC lot fk n x z' i tr (pStep lot fk gr st V (pDfs lot fk gr st V k) i w tr t B) := by
          intro hg
          unfold j_X6_search_85
          simp only [nI_clamp (show i < 2 ^ 31 by omega), if_pos e8, nI_1, if_pos (show i < z.2.2.2 5 by have := hDz.2.1; omega), d2, d3]
          rcases hfr with ⟨f1, f2⟩ | ⟨f1, f2⟩
          · rw [f1, Option.elim_some, if_neg n10, p_y _ ht ⟨hg, f2⟩]
            have d2' : (setA z 604 0 (upd (z.2.1 604 0) i (nI t))).1 516 i = nI (lot i) := d2
            have d3' : (setA z 604 0 (upd (z.2.1 604 0) i (nI t))).2.1 605 0 i = nI (fk i) := d3
            rw [d2', d3']
            obtain ⟨y1, g1, g2⟩ := hz.in hD hi ht (fun s s1 s2 s3 => (f2 s s1 s2 s3).2)
            rw [g1, Option.elim_some]
            have hD1 := hD.to g2.1
            rw [if_pos (show i < y1.2.2.2 5 by have := hD1.2.1; omega), if_pos (inb8 ht), nI_clamp (by omega), ((hD1.2.2.2.2.2 i hi).2.2.2.2.1 t ht).1, nI_add]
            have hv := (d5 t ht).2
            obtain ⟨y2, r1, r2⟩ := ih (i + 1) fu y1 (w + V i t) (updN tr i t) B (by omega) (by omega) (by omega) g2
            rw [r1, Option.elim_some]
            have hD2 := hD.to r2.1
            obtain ⟨d21, d22, d23, d24, d25, d26⟩ := hD2.2.2.2.2.2 i hi
            rw [if_pos (show i < y2.2.2.2 5 by have := hD2.2.1; omega), d22, d23]
            obtain ⟨y3, s1, s2⟩ := r2.out hD hi ht (fun s s1 s2 s3 => (f2 s s1 s2 s3).2)
            rw [s1, Option.elim_some]
            exact ⟨y3, rfl, s2⟩
          · rw [f1, Option.elim_some, if_pos rfl, p_n _ ht (fun q => f2 q.2)]
            exact ⟨z, rfl, hz⟩
        unfold b_X6_search_66
        simp only [if_neg lt, nI_1]
        rw [show (4 : Int32) = nI 4 from rfl, pk_rem (by omega) (by omega) (by omega)]
        by_cases c1 : gr i = 0
        · obtain ⟨z', k1, k2⟩ := key (Or.inl c1)
          rw [if_pos c1, k1]
          exact ⟨_, rfl, z', rfl, k2⟩
        · rw [if_neg c1]
          by_cases c2 : t % 4 = 0
          · obtain ⟨z', k1, k2⟩ := key (Or.inr c2)
            rw [if_pos (by rw [c2]; rfl), k1]
            exact ⟨_, rfl, z', rfl, k2⟩
          · rw [if_neg (by rw [i32eq, tI (by omega), t_0]; omega), p_n _ ht (fun q => q.1.elim c1 c2)]
            exact ⟨_, rfl, z, rfl, hz⟩
      · rintro v ⟨z, rfl, hz⟩
        unfold b_X6_search_66
        simp only [show (8 : Int32) ≤ nI 8 from Int32.le_refl _, if_true, if_pos e8, nI_clamp (show i < 2 ^ 31 by omega), nI_1]
        obtain ⟨y', r1, r2⟩ := ih (i + 1) fu _ w _ _ (by omega) (by omega) (by omega) hz.non
        rw [r1]
        refine ⟨_, rfl, y', rfl, ?_⟩
        have : pDfs lot fk gr st V (k + 1) i w tr b = pDfs lot fk gr st V k (i + 1) w (updN tr i 8) (fdN (pStep lot fk gr st V (pDfs lot fk gr st V k) i w tr) 8 b) := by
          show pStep lot fk gr st V (pDfs lot fk gr st V k) i w tr 8 (fdN (pStep lot fk gr st V (pDfs lot fk gr st V k) i w tr) 8 b) = _
          exact p_o _ (by decide)
        rw [this]
        exact r2.dwn
    · rw [if_neg (by rw [Int32.lt_iff_toInt_lt, tI (by omega), hy.2.1]; omega), p_low (n := n) h0 h1 (k + 1) i w tr b e (by omega)]
      exact ⟨y, rfl, hy⟩
end
