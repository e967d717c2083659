/-! best: what least and first are -/
theorem mnB_le {p : Nat → Bool} {f : Nat → Nat} : ∀ n s, s < n → p s = true → mnB p f n ≤ f s
  | 0, s, h, _ => by omega
  | n + 1, s, h, hp => by
    unfold mnB
    by_cases e : s = n
    · subst e; rw [if_pos hp]; exact Nat.min_le_right _ _
    · have := mnB_le (p := p) (f := f) n s (by omega) hp
      by_cases c : p n = true
      · rw [if_pos c]; exact Nat.le_trans (Nat.min_le_left _ _) this
      · rw [if_neg c]; exact this
theorem mnB_top {p : Nat → Bool} {f : Nat → Nat} : ∀ n, mnB p f n ≤ 1000000000
  | 0 => Nat.le_refl _
  | n + 1 => by
    have := mnB_top (p := p) (f := f) n
    unfold mnB
    by_cases c : p n = true
    · rw [if_pos c]; exact Nat.le_trans (Nat.min_le_left _ _) this
    · rw [if_neg c]; exact this
theorem mnB_ex {p : Nat → Bool} {f : Nat → Nat} : ∀ n, mnB p f n < 1000000000 → ∃ s, s < n ∧ p s = true ∧ f s = mnB p f n
  | 0, h => absurd h (Nat.lt_irrefl _)
  | n + 1, h => by
    unfold mnB at h ⊢
    by_cases c : p n = true
    · rw [if_pos c] at h ⊢
      by_cases d : mnB p f n ≤ f n
      · rw [Nat.min_eq_left d] at h ⊢
        obtain ⟨s, s1, s2, s3⟩ := mnB_ex n h
        exact ⟨s, by omega, s2, s3⟩
      · rw [Nat.min_eq_right (by omega)]
        exact ⟨n, by omega, c, rfl⟩
    · rw [if_neg c] at h ⊢
      obtain ⟨s, s1, s2, s3⟩ := mnB_ex n h
      exact ⟨s, by omega, s2, s3⟩
theorem fsB_go {p : Nat → Bool} : ∀ (n i s : Nat), i ≤ s → s < i + n → p s = true → (∀ j, i ≤ j → j < s → ¬ p j = true) → fsB p n i = s
  | 0, i, s, h1, h2, _, _ => by omega
  | n + 1, i, s, h1, h2, hp, hn => by
    unfold fsB
    by_cases e : i = s
    · subst e; rw [if_pos hp]
    · rw [if_neg (hn i (Nat.le_refl _) (by omega))]
      exact fsB_go n (i + 1) s (by omega) (by omega) hp (fun j h3 h4 => hn j (by omega) h4)
/-- the first that p has -/
theorem fst_ex {p : Nat → Bool} : ∀ n, (∃ s, s < n ∧ p s = true) → ∃ s, s < n ∧ p s = true ∧ ∀ j, j < s → ¬ p j = true
  | 0, h => by obtain ⟨s, h1, _⟩ := h; omega
  | n + 1, h => by
    by_cases c : ∃ s, s < n ∧ p s = true
    · obtain ⟨s, h1, h2⟩ := fst_ex n c
      exact ⟨s, by omega, h2⟩
    · obtain ⟨s, h1, h2⟩ := h
      have e : s = n := by
        by_cases e : s = n
        · exact e
        · exact absurd ⟨s, by omega, h2⟩ c
      subst e
      exact ⟨s, h1, h2, fun j hj q => c ⟨j, hj, q⟩⟩
section
variable {n : Nat} {pl : Nat → Int32} {ca dy D : Nat → Nat} {chg : Nat}
def bF (n : Nat) (pl : Nat → Int32) (ca dy D : Nat → Nat) (chg k b l s : Nat) : Nat := bSt n pl ca dy D chg b l s + bC n pl ca dy D chg k (b ||| 2 ^ s) s
def bN (n : Nat) (pl : Nat → Int32) (ca dy D : Nat → Nat) (chg k b l : Nat) : Nat := fsB (fun s => !b.testBit s && decide (bF n pl ca dy D chg k b l s = bC n pl ca dy D chg (k + 1) b l)) n 0
theorem bC_s (k b l : Nat) : bC n pl ca dy D chg (k + 1) b l = mnB (fun s => !b.testBit s) (bF n pl ca dy D chg k b l) n := rfl
theorem bW_s (k b l : Nat) : bW n pl ca dy D chg (k + 1) b l = bN n pl ca dy D chg k b l :: bW n pl ca dy D chg k (b ||| 2 ^ bN n pl ca dy D chg k b l) (bN n pl ca dy D chg k b l) := rfl
theorem bN_of {k b l s : Nat} (hs : s < n) (hb : b.testBit s = false) (he : bF n pl ca dy D chg k b l s = bC n pl ca dy D chg (k + 1) b l) (hn : ∀ j, j < s → b.testBit j = false → bF n pl ca dy D chg k b l j ≠ bC n pl ca dy D chg (k + 1) b l) : bN n pl ca dy D chg k b l = s := by
  refine fsB_go n 0 s (Nat.zero_le _) (by omega) ?_ ?_
  · show (!b.testBit s && decide _) = true
    rw [hb, he]; simp
  · intro j _ hj q
    simp only [Bool.and_eq_true, Bool.not_eq_true', decide_eq_true_eq] at q
    exact hn j hj q.1 q.2
theorem bN_ok {k b l : Nat} (h : bC n pl ca dy D chg (k + 1) b l < 1000000000) : bN n pl ca dy D chg k b l < n ∧ b.testBit (bN n pl ca dy D chg k b l) = false ∧ bF n pl ca dy D chg k b l (bN n pl ca dy D chg k b l) = bC n pl ca dy D chg (k + 1) b l ∧ ∀ j, j < bN n pl ca dy D chg k b l → b.testBit j = false → bF n pl ca dy D chg k b l j ≠ bC n pl ca dy D chg (k + 1) b l := by
  rw [bC_s] at h
  obtain ⟨s, s1, s2, s3⟩ := mnB_ex n h
  obtain ⟨t, t1, t2, t3⟩ := fst_ex (p := fun s => !b.testBit s && decide (bF n pl ca dy D chg k b l s = bC n pl ca dy D chg (k + 1) b l)) n ⟨s, s1, by
    simp only [Bool.and_eq_true, decide_eq_true_eq]; exact ⟨s2, s3⟩⟩
  simp only [Bool.and_eq_true, Bool.not_eq_true', decide_eq_true_eq] at t2 t3
  have e := bN_of t1 t2.1 t2.2 (fun j hj hb q => t3 j hj ⟨hb, q⟩)
  rw [e]
  exact ⟨t1, t2.1, t2.2, fun j hj hb q => t3 j hj ⟨hb, q⟩⟩
theorem bSt_le {K : Nat} (hD : ∀ t, D t ≤ 3300) (hd : ∀ s, s < n → dy s ≤ 4) (hc : chg ≤ 999) {b l s : Nat} (hs : s < n) : bSt n pl ca dy D chg b l s ≤ 14200 := by
  unfold bSt
  have h1 := hd s hs
  have h2 := hD (ca s ||| (orB ca (fun i => b.testBit i) n &&& orB ca (fun i => !b.testBit i) n))
  have h3 := Nat.mul_le_mul h1 h2
  by_cases c : b ≠ 0 ∧ pl l = pl s
  · rw [if_pos c]; omega
  · rw [if_neg c]; omega
theorem bC_le (hD : ∀ t, D t ≤ 3300) (hd : ∀ s, s < n → dy s ≤ 4) (hc : chg ≤ 999) : ∀ (k b l : Nat), pcB b n + k = n → bC n pl ca dy D chg k b l ≤ 14200 * k
  | 0, b, l, _ => Nat.zero_le _
  | k + 1, b, l, h => by
    have : ∃ s, s < n ∧ b.testBit s = false := by
      by_cases c : ∃ s, s < n ∧ b.testBit s = false
      · exact c
      · exfalso
        have h2 : ∀ j, j ≤ n → pcB b j = j := by
          intro j
          induction j with
          | zero => intro _; rfl
          | succ j ih =>
            intro hj
            have hb : b.testBit j = true := by
              cases hb : b.testBit j
              · exact absurd ⟨j, by omega, hb⟩ c
              · rfl
            show pcB b j + (if b.testBit j = true then 1 else 0) = j + 1
            rw [ih (by omega), if_pos hb]
        have := h2 n (Nat.le_refl _)
        omega
    obtain ⟨s, s1, s2⟩ := this
    rw [bC_s]
    have h1 := mnB_le (p := fun s => !b.testBit s) (f := bF n pl ca dy D chg k b l) n s s1 (by simp only [s2]; rfl)
    have h2 := bSt_le (K := 0) (pl := pl) (ca := ca) hD hd hc (b := b) (l := l) s1
    have h3 := bC_le hD hd hc k (b ||| 2 ^ s) s (by rw [pcB_or s2, if_pos s1]; omega)
    unfold bF at h1
    unfold bF
    omega
/-! the plain search over all orders -/
def sStep (n : Nat) (pl : Nat → Int32) (ca dy D : Nat → Nat) (chg : Nat) (rec : Nat → Nat → Nat → Nat → (Nat → Nat) → Nat × (Nat → Nat) → Nat × (Nat → Nat)) (i b l c : Nat) (tr : Nat → Nat) (s : Nat) (B : Nat × (Nat → Nat)) : Nat × (Nat → Nat) :=
  if b.testBit s = true then B else rec (i + 1) (b ||| 2 ^ s) s (c + bSt n pl ca dy D chg b l s) (updN tr i s) B
def sDfs (n : Nat) (pl : Nat → Int32) (ca dy D : Nat → Nat) (chg : Nat) : Nat → Nat → Nat → Nat → Nat → (Nat → Nat) → Nat × (Nat → Nat) → Nat × (Nat → Nat)
  | 0, _, _, _, c, tr, B => if c < B.1 then (c, tr) else B
  | k + 1, i, b, l, c, tr, B => fdN (sStep n pl ca dy D chg (sDfs n pl ca dy D chg k) i b l c tr) n B
theorem s_low : ∀ (k i b l c : Nat) (tr : Nat → Nat) (B : Nat × (Nat → Nat)), B.1 ≤ c → sDfs n pl ca dy D chg k i b l c tr B = B := by
  intro k
  induction k with
  | zero =>
    intro i b l c tr B h
    unfold sDfs
    rw [if_neg (by omega)]
  | succ k ih =>
    intro i b l c tr B h
    show fdN _ _ _ = _
    apply fdN_id
    intro s hs
    unfold sStep
    by_cases q : b.testBit s = true
    · rw [if_pos q]
    · rw [if_neg q]
      exact ih _ _ _ _ _ _ (by omega)
theorem s_val : ∀ (k i b l c : Nat) (tr : Nat → Nat) (B : Nat × (Nat → Nat)), i + k = n → B.1 ≤ 1000000000 → (c + bC n pl ca dy D chg k b l < B.1 → (sDfs n pl ca dy D chg k i b l c tr B).1 = c + bC n pl ca dy D chg k b l ∧ ∀ j, j < n → (sDfs n pl ca dy D chg k i b l c tr B).2 j = if j < i then tr j else (bW n pl ca dy D chg k b l).getD (j - i) 0) ∧ (¬ c + bC n pl ca dy D chg k b l < B.1 → sDfs n pl ca dy D chg k i b l c tr B = B) := by
  intro k
  induction k with
  | zero =>
    intro i b l c tr B e hB
    have e1 : sDfs n pl ca dy D chg 0 i b l c tr B = if c < B.1 then (c, tr) else B := rfl
    have e2 : bC n pl ca dy D chg 0 b l = 0 := rfl
    rw [e1, e2, Nat.add_zero]
    constructor
    · intro h
      rw [if_pos h]
      exact ⟨rfl, fun j hj => by rw [if_pos (by omega)]⟩
    · intro h
      rw [if_neg h]
  | succ k ih =>
    intro i b l c tr B e hB
    obtain ⟨F, hF⟩ : ∃ F, F = bF n pl ca dy D chg k b l := ⟨_, rfl⟩
    obtain ⟨p, hp⟩ : ∃ p : Nat → Bool, p = fun s => !b.testBit s := ⟨_, rfl⟩
    obtain ⟨G, hG⟩ : ∃ G, G = sStep n pl ca dy D chg (sDfs n pl ca dy D chg k) i b l c tr := ⟨_, rfl⟩
    have key : ∀ s, s ≤ n → (c + mnB p F s < B.1 → (fdN G s B).1 = c + mnB p F s ∧ ∃ t, t < s ∧ p t = true ∧ F t = mnB p F s ∧ (∀ j, j < t → p j = true → F j ≠ mnB p F s) ∧ ∀ j, j < n → (fdN G s B).2 j = if j < i then tr j else if j = i then t else (bW n pl ca dy D chg k (b ||| 2 ^ t) t).getD (j - (i + 1)) 0) ∧ (¬ c + mnB p F s < B.1 → fdN G s B = B) := by
      intro s
      induction s with
      | zero =>
        intro _
        have e0 : mnB p F 0 = 1000000000 := rfl
        rw [e0]
        exact ⟨fun h => by omega, fun _ => rfl⟩
      | succ s ihs =>
        intro hs
        obtain ⟨k1, k2⟩ := ihs (by omega)
        have en : fdN G (s + 1) B = G s (fdN G s B) := rfl
        rw [en]
        have em : mnB p F (s + 1) = if p s = true then min (mnB p F s) (F s) else mnB p F s := rfl
        by_cases hb : b.testBit s = true
        · have ps : ¬ p s = true := by rw [hp]; simp only [hb]; decide
          rw [em, if_neg ps]
          have eg : G s (fdN G s B) = fdN G s B := by rw [hG]; unfold sStep; rw [if_pos hb]
          rw [eg]
          refine ⟨fun h => ?_, k2⟩
          obtain ⟨a1, t, a2, a3⟩ := k1 h
          exact ⟨a1, t, by omega, a3⟩
        · have ps : p s = true := by
            rw [hp]
            cases hh : b.testBit s
            · show (!b.testBit s) = true
              rw [hh]; rfl
            · exact absurd hh hb
          rw [em, if_pos ps]
          have eg : G s (fdN G s B) = sDfs n pl ca dy D chg k (i + 1) (b ||| 2 ^ s) s (c + bSt n pl ca dy D chg b l s) (updN tr i s) (fdN G s B) := by
            have : ∀ Y, sStep n pl ca dy D chg (sDfs n pl ca dy D chg k) i b l c tr s Y = sDfs n pl ca dy D chg k (i + 1) (b ||| 2 ^ s) s (c + bSt n pl ca dy D chg b l s) (updN tr i s) Y := fun Y => by unfold sStep; rw [if_neg hb]
            rw [← this, ← hG]
          rw [eg]
          have hY : (fdN G s B).1 ≤ 1000000000 := by
            by_cases q : c + mnB p F s < B.1
            · rw [(k1 q).1]; omega
            · rw [k2 q]; exact hB
          obtain ⟨v1, v2⟩ := ih (i + 1) (b ||| 2 ^ s) s (c + bSt n pl ca dy D chg b l s) (updN tr i s) (fdN G s B) (by omega) hY
          have eF : c + bSt n pl ca dy D chg b l s + bC n pl ca dy D chg k (b ||| 2 ^ s) s = c + F s := by rw [hF]; unfold bF; omega
          rw [eF] at v1 v2
          have lt : c + F s < (fdN G s B).1 ↔ c + F s < B.1 ∧ F s < mnB p F s := by
            by_cases q : c + mnB p F s < B.1
            · rw [(k1 q).1]; omega
            · rw [k2 q]; omega
          by_cases q : c + F s < (fdN G s B).1
          · obtain ⟨w1, w2⟩ := v1 q
            have q2 := (lt.mp q).2
            have q1 := (lt.mp q).1
            rw [Nat.min_eq_right (by omega)]
            refine ⟨fun _ => ⟨w1, s, by omega, ps, rfl, fun j hj hpj => ?_, fun j hj => ?_⟩, fun h => absurd q1 h⟩
            · have := mnB_le (p := p) (f := F) s j hj hpj
              omega
            · rw [w2 j hj]
              by_cases c1 : j < i
              · rw [if_pos (by omega), if_pos c1, uN_n (by omega)]
              · rw [if_neg c1]
                by_cases c2 : j = i
                · subst c2; rw [if_pos (by omega), if_pos rfl, uN_s]
                · rw [if_neg (by omega), if_neg c2]
          · have w := v2 q
            rw [w]
            by_cases q1 : c + mnB p F s < B.1
            · obtain ⟨a1, t, a2, a3, a4, a5, a6⟩ := k1 q1
              have q3 : mnB p F s ≤ F s := by rw [a1] at q; omega
              rw [Nat.min_eq_left q3]
              exact ⟨fun _ => ⟨a1, t, by omega, a3, a4, a5, a6⟩, fun h => absurd q1 h⟩
            · rw [k2 q1] at q
              refine ⟨fun h => ?_, fun _ => k2 q1⟩
              exfalso
              have : B.1 ≤ c + min (mnB p F s) (F s) := by
                by_cases z : mnB p F s ≤ F s
                · rw [Nat.min_eq_left z]; omega
                · rw [Nat.min_eq_right (by omega)]; omega
              omega
    obtain ⟨k1, k2⟩ := key n (Nat.le_refl _)
    have e1 : sDfs n pl ca dy D chg (k + 1) i b l c tr B = fdN G n B := by rw [hG]; rfl
    have e2 : bC n pl ca dy D chg (k + 1) b l = mnB p F n := by rw [hp, hF]; rfl
    rw [e1, e2]
    refine ⟨fun h => ?_, k2⟩
    obtain ⟨a1, t, a2, a3, a4, a5, a6⟩ := k1 h
    refine ⟨a1, fun j hj => ?_⟩
    have et : bN n pl ca dy D chg k b l = t := by
      refine bN_of a2 ?_ ?_ ?_
      · rw [hp] at a3
        simp only [Bool.not_eq_true'] at a3
        exact a3
      · rw [e2, ← hF]; exact a4
      · intro j hj hb
        rw [e2, ← hF]
        exact a5 j hj (by rw [hp]; simp only [hb]; rfl)
    rw [a6 j hj, bW_s, et]
    by_cases c1 : j < i
    · rw [if_pos c1, if_pos c1]
    · rw [if_neg c1, if_neg c1]
      by_cases c2 : j = i
      · subst c2; rw [if_pos rfl, Nat.sub_self]; rfl
      · rw [if_neg c2, show j - i = (j - (i + 1)) + 1 by omega]; rfl
end
