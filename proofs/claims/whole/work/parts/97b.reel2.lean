def rOkC (n p : Nat) (x y : VM) (i : Nat) (tr : Nat → Int32) (b : Int × (Nat → Int32)) : Prop := rlX p x y ∧ (y.1 703 0).toInt = b.1 ∧ (∀ s, s < n → y.2.1 513 p s = b.2 s) ∧ (∀ s, n ≤ s → y.2.1 513 p s = x.2.1 513 p s) ∧ ∀ s, s < i → y.2.1 700 0 s = tr s
section
variable {T : Nat → Nat} {L W : Nat → Nat → Nat} {C : Nat → Nat → Int32} {l n p : Nat} {x : VM}
theorem rOkC.tr {y : VM} {i : Nat} {tr : Nat → Int32} {b : Int × (Nat → Int32)} (h : rOkC n p x y i tr b) (v : Int32) : rOkC n p x (setA y 700 0 (upd (y.2.1 700 0) i v)) (i + 1) (upd tr i v) b := by
  obtain ⟨⟨a1, a2, a3, a4⟩, h2, h3, h4, h5⟩ := h
  refine ⟨⟨a1, fun F j q r => by rw [rAn q]; exact a2 F j q r, a3, fun j hj => ⟨(a4 j hj).1, by rw [sA_n hj]; exact (a4 j hj).2⟩⟩, h2, fun s hs => by rw [rAn (by decide)]; exact h3 s hs, fun s hs => by rw [rAn (by decide)]; exact h4 s hs, fun s hs => ?_⟩
  rw [rAs]
  by_cases e : s = i
  · subst e; rw [pk_us, pk_us]
  · rw [u_n e, u_n e]; exact h5 s (by omega)
theorem rOkC.down {y : VM} {i : Nat} {tr : Nat → Int32} {v : Int32} {b : Int × (Nat → Int32)} (h : rOkC n p x y (i + 1) (upd tr i v) b) : rOkC n p x y i tr b := by
  obtain ⟨h1, h2, h3, h4, h5⟩ := h
  exact ⟨h1, h2, h3, h4, fun s hs => by rw [h5 s (by omega), u_n (by omega)]⟩
theorem r_cls {M : Nat → Int} (hD : rDat T L W C l n p x) (p8 : p < 8) (x2 : x.1 702 0 = nI l) (hM : ∀ i, i ≤ n → (x.2.1 701 0 i).toInt = M i ∧ 0 ≤ M i ∧ M i ≤ 1000000) (hMn : M n = 0) (h0 : ∀ i, i < n → M (i + 1) ≤ M i) (h1 : ∀ i t, i < n → t < T i → 1000 * (W i t : Int) - (L i t : Int) + M (i + 1) ≤ M i) : ∀ (k i fu : Nat) (y : VM) (f : Int32) (len w : Nat) (val : Int32) (tr : Nat → Int32) (b : Int × (Nat → Int32)), i + k = n → k < fu → len ≤ l → w ≤ 99 * i → val.toInt = 1000 * (w : Int) - (len : Int) → rOkC n p x y i tr b → ∃ y', f_X7_search fu y p (nI i) f (nI len) val = some y' ∧ rOkC n p x y' i tr (rDfs T L W C l k i f len w tr b) := by
  have n8 := hD.hn
  have l4 := hD.hl
  intro k
  induction k with
  | zero =>
    intro i fu y f len w val tr b e hf hlen hw hv hy
    obtain ⟨fu, rfl⟩ : ∃ q, fu = q + 1 := ⟨fu - 1, by omega⟩
    have ei : i = n := e
    subst ei
    have hDy := hD.to hy.1
    obtain ⟨⟨a1, a2, a3, a4⟩, b2, b3, b4, b5⟩ := hy
    obtain ⟨m1, m2, m3⟩ := hM i (Nat.le_refl _)
    have y7 : (y.2.1 701 0 i).toInt = M i := by rw [a2 _ _ (by decide) (fun q => absurd q (by decide))]; exact m1
    have ein : inb (nI i) 9 = true := by rw [inb_T, tI (by omega)]; omega
    show ∃ y', fb_X7_search (f_X7_search fu) y p (nI i) f (nI len) val = some y' ∧ _
    unfold fb_X7_search rDfs
    rw [if_pos ein, nI_clamp (by omega)]
    have hs : (val + y.2.1 701 0 i).toInt = 1000 * (w : Int) - (len : Int) + M i := by rw [addT (by omega) (by omega), hv, y7]
    rw [hMn, Int.add_zero] at hs
    by_cases q : b.1 < 1000 * (w : Int) - (len : Int)
    · rw [if_pos (by rw [Int32.lt_iff_toInt_lt, hs, b2]; exact q), if_pos hDy.hp, hDy.h502, if_neg (by rw [Int32.lt_iff_toInt_lt]; omega), if_pos q]
      have e5 : (setI y 703 0 val).1 502 p = nI i := by rw [rIn (by decide)]; exact hDy.h502
      have esp : spn 0 (nI i) 8 = true := by rw [spn_T, tI (by omega), t_0]; omega
      rw [e5, if_pos esp, if_pos esp, nI_clamp (by omega), show (0 : Int32).toNatClampNeg = 0 from rfl]
      refine ⟨_, rfl, ⟨⟨fun F j q => by rw [rA1, rIn q]; exact a1 F j q, fun F j q r => ?_, a3, fun j hj => ⟨by rw [rA1, sI_n hj]; exact (a4 j hj).1, by rw [rAn (by decide)]; exact (a4 j hj).2⟩⟩, ?_, ?_, ?_, ?_⟩⟩
      · by_cases e : F = 513
        · subst e; rw [sA_n (r rfl)]; exact a2 _ _ q r
        · rw [rAn e]; exact a2 _ _ q r
      · rw [rA1, sI_s, hv]
      · intro s hs
        rw [sA_s, show va_cpy ((setI y 703 0 val).2.1 700 0) ((setI y 703 0 val).2.1 513 p) 0 0 i s = _ from if_pos ⟨Nat.zero_le _, by omega⟩, Nat.sub_zero, Nat.zero_add]
        exact b5 s hs
      · intro s hs
        rw [sA_s, show va_cpy ((setI y 703 0 val).2.1 700 0) ((setI y 703 0 val).2.1 513 p) 0 0 i s = _ from if_neg (by omega)]
        exact b4 s hs
      · intro s hs
        rw [rAn (by decide)]
        exact b5 s hs
    · rw [if_neg (by rw [Int32.lt_iff_toInt_lt, hs, b2]; exact q), if_neg q]
      exact ⟨_, rfl, ⟨a1, a2, a3, a4⟩, b2, b3, b4, b5⟩
  | succ k ih =>
    intro i fu y f len w val tr b e hf hlen hw hv hy
    obtain ⟨fu, rfl⟩ : ∃ q, fu = q + 1 := ⟨fu - 1, by omega⟩
    have hi : i < n := by omega
    have hDy := hD.to hy.1
    obtain ⟨m1, m2, m3⟩ := hM i (by omega)
    have y7 : (y.2.1 701 0 i).toInt = M i := by rw [hy.1.2.1 _ _ (by decide) (fun q => absurd q (by decide))]; exact m1
    have ein : inb (nI i) 9 = true := by rw [inb_T, tI (by omega)]; omega
    have t4 := hD.hT i hi
    show ∃ y', fb_X7_search (f_X7_search fu) y p (nI i) f (nI len) val = some y' ∧ _
    unfold fb_X7_search
    rw [if_pos ein, nI_clamp (by omega)]
    have hs : (val + y.2.1 701 0 i).toInt = 1000 * (w : Int) - (len : Int) + M i := by rw [addT (by omega) (by omega), hv, y7]
    by_cases q : b.1 < 1000 * (w : Int) - (len : Int) + M i
    · rw [if_pos (by rw [Int32.lt_iff_toInt_lt, hs, hy.2.1]; exact q), if_pos hDy.hp, hDy.h502, if_pos (by rw [Int32.lt_iff_toInt_lt, tI (by omega), tI (by omega)]; omega), if_pos (inb8 (by omega)), if_pos (by rw [hDy.hc]; exact hi)]
      refine lp_cnt (V := Int32 × VM) (d := none) (T i) (fun t v => ∃ z, v = (nI t, z) ∧ rOkC n p x z i tr (fdN (rStep T L W C l (rDfs T L W C l k) i f len w tr) t b)) (fun o => ∃ y', o = some y' ∧ rOkC n p x y' i tr (rDfs T L W C l (k + 1) i f len w tr b)) ?_ ?_ 0 _ (Nat.zero_le _) ⟨y, rfl, hy⟩
      · rintro t v ht ⟨z, rfl, hz⟩
        left
        have hDz := hD.to hz.1
        have lt : ¬ nI (T i) ≤ nI t := by rw [Int32.le_iff_toInt_le, tI (by omega), tI (by omega)]; omega
        have ein4 : inb (nI t) 4 = true := by rw [inb_T, tI (by omega)]; omega
        have l1 := hD.hL i t hi ht
        have w1 := hD.hW i t hi ht
        show ∃ v', _ ∧ ∃ z', v' = (nI (t + 1), z') ∧ rOkC n p x z' i tr (rStep T L W C l (rDfs T L W C l k) i f len w tr t (fdN (rStep T L W C l (rDfs T L W C l k) i f len w tr) t b))
        generalize hB : fdN (rStep T L W C l (rDfs T L W C l k) i f len w tr) t b = B at hz ⊢
        have key0 : j_X7_search_95 (f_X7_search fu) y p (nI i) f (nI len) val (nI t, z) 0 = Sum.inl (nI (t + 1), z) := by
          unfold j_X7_search_95
          simp only [if_pos ein4, if_true, nI_1]
        have key1 : ∃ z', j_X7_search_95 (f_X7_search fu) y p (nI i) f (nI len) val (nI t, z) 1 = Sum.inl (nI (t + 1), z') ∧ rOkC n p x z' i tr (if len + L i t ≤ l then rDfs T L W C l k (i + 1) (C i t - C i t / 10 * 10) (len + L i t) (w + W i t) (upd tr i (nI t)) B else B) := by
          unfold j_X7_search_95
          simp only [if_pos ein4, if_neg n10, nI_clamp (show i < 2 ^ 31 by omega), nI_clamp (show t < 2 ^ 31 by omega), hDz.h806 i t hi ht, nI_add, hz.1.1 702 0 (by decide), x2, nI_1]
          by_cases c : len + L i t ≤ l
          · rw [if_neg (by rw [Int32.lt_iff_toInt_lt, tI (by omega), tI (by omega)]; omega), if_pos (inb8 (by omega)), if_pos c]
            have hz2 := hz.tr (nI t)
            have hD2 := hD.to hz2.1
            obtain ⟨v, v1, v2⟩ := hD2.val hi ht
            rw [v1]
            simp only [Option.elim_some, hD2.h808 i t hi ht]
            obtain ⟨y', r1, r2⟩ := ih (i + 1) fu _ (C i t - C i t / 10 * 10) (len + L i t) (w + W i t) (val + v) _ B (by omega) (by omega) c (by omega) (by rw [addT (by omega) (by omega), v2, hv]; omega) hz2
            rw [r1]
            exact ⟨y', rfl, r2.down⟩
          · rw [if_pos (by rw [Int32.lt_iff_toInt_lt, tI (by omega), tI (by omega)]; omega), if_neg c]
            exact ⟨z, rfl, hz⟩
        obtain ⟨z', g1, g2⟩ := key1
        unfold b_X7_search_60 j_X7_search_90
        simp only [nI_clamp (show i < 2 ^ 31 by omega), nI_clamp (show t < 2 ^ 31 by omega), if_pos (hDz.cnd hi), hDz.h805 i hi, if_neg lt, if_pos ein4, hDz.h808 i t hi ht, key0, g1]
        unfold rStep
        rw [if_pos ht]
        by_cases c1 : f = -1
        · rw [if_pos c1]
          refine ⟨_, rfl, z', rfl, ?_⟩
          by_cases c : len + L i t ≤ l
          · rw [if_pos ⟨Or.inl c1, c⟩]; rw [if_pos c] at g2; exact g2
          · rw [if_neg (fun q => c q.2)]; rw [if_neg c] at g2; exact g2
        · rw [if_neg c1]
          by_cases c2 : C i t / 10 = f
          · rw [if_pos c2]
            refine ⟨_, rfl, z', rfl, ?_⟩
            by_cases c : len + L i t ≤ l
            · rw [if_pos ⟨Or.inr c2, c⟩]; rw [if_pos c] at g2; exact g2
            · rw [if_neg (fun q => c q.2)]; rw [if_neg c] at g2; exact g2
          · rw [if_neg c2, if_neg (fun q => q.1.elim c1 c2)]
            exact ⟨_, rfl, z, rfl, hz⟩
      · rintro v ⟨z, rfl, hz⟩
        have hDz := hD.to hz.1
        unfold b_X7_search_60
        simp only [nI_clamp (show i < 2 ^ 31 by omega), if_pos (hDz.cnd hi), hDz.h805 i hi, if_pos (Int32.le_refl (nI (T i))), if_pos (inb8 (show i < 8 by omega)), nI_1]
        obtain ⟨y', r1, r2⟩ := ih (i + 1) fu _ f len w val _ _ (by omega) (by omega) hlen (by omega) hv (hz.tr (-1))
        rw [r1]
        refine ⟨_, rfl, y', rfl, ?_⟩
        have : rDfs T L W C l (k + 1) i f len w tr b = rDfs T L W C l k (i + 1) f len w (upd tr i (-1)) (fdN (rStep T L W C l (rDfs T L W C l k) i f len w tr) (T i) b) := by
          show rStep T L W C l (rDfs T L W C l k) i f len w tr (T i) (fdN (rStep T L W C l (rDfs T L W C l k) i f len w tr) (T i) b) = _
          exact if_neg (Nat.lt_irrefl _)
        rw [this]
        exact r2.down
    · rw [if_neg (by rw [Int32.lt_iff_toInt_lt, hs, hy.2.1]; exact q), r_low (n := n) h0 h1 (by omega) (k + 1) i f len w tr b e (by omega)]
      exact ⟨y, rfl, hy⟩
end
