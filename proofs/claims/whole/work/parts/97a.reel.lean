/-! reel: the plain search over all, and what both searches have to do with it -/
def fdN {β : Type} (g : Nat → β → β) : Nat → β → β
  | 0, b => b
  | n + 1, b => g n (fdN g n b)
theorem fdN_id {β : Type} {g : Nat → β → β} {b : β} : ∀ n, (∀ t, t < n → g t b = b) → fdN g n b = b
  | 0, _ => rfl
  | n + 1, h => by
    show g n (fdN g n b) = b
    rw [fdN_id n (fun t ht => h t (by omega))]; exact h n (by omega)
theorem fdN_rel {β : Type} {g : Nat → β → β} {R : β → β → Prop} (hg : ∀ t a b, R a b → R (g t a) (g t b)) {a b : β} (h : R a b) : ∀ n, R (fdN g n a) (fdN g n b)
  | 0 => h
  | n + 1 => hg n _ _ (fdN_rel hg h n)
def rStep (T : Nat → Nat) (L W : Nat → Nat → Nat) (C : Nat → Nat → Int32) (l : Nat) (rec : Nat → Int32 → Nat → Nat → (Nat → Int32) → Int × (Nat → Int32) → Int × (Nat → Int32)) (i : Nat) (f : Int32) (len w : Nat) (tr : Nat → Int32) (t : Nat) (b : Int × (Nat → Int32)) : Int × (Nat → Int32) :=
  if t < T i then (if (f = -1 ∨ C i t / 10 = f) ∧ len + L i t ≤ l then rec (i + 1) (C i t - C i t / 10 * 10) (len + L i t) (w + W i t) (upd tr i (nI t)) b else b) else rec (i + 1) f len w (upd tr i (-1)) b
def rDfs (T : Nat → Nat) (L W : Nat → Nat → Nat) (C : Nat → Nat → Int32) (l : Nat) : Nat → Nat → Int32 → Nat → Nat → (Nat → Int32) → Int × (Nat → Int32) → Int × (Nat → Int32)
  | 0, _, _, len, w, tr, b => if b.1 < 1000 * (w : Int) - (len : Int) then (1000 * (w : Int) - (len : Int), tr) else b
  | k + 1, i, f, len, w, tr, b => fdN (rStep T L W C l (rDfs T L W C l k) i f len w tr) (T i + 1) b
section
variable {T : Nat → Nat} {L W : Nat → Nat → Nat} {C : Nat → Nat → Int32} {l n : Nat}
theorem r_low {M : Nat → Int} (h0 : ∀ i, i < n → M (i + 1) ≤ M i) (h1 : ∀ i t, i < n → t < T i → 1000 * (W i t : Int) - (L i t : Int) + M (i + 1) ≤ M i) (h2 : 0 ≤ M n) : ∀ (k i : Nat) (f : Int32) (len w : Nat) (tr : Nat → Int32) (b : Int × (Nat → Int32)), i + k = n → 1000 * (w : Int) - (len : Int) + M i ≤ b.1 → rDfs T L W C l k i f len w tr b = b := by
  intro k
  induction k with
  | zero =>
    intro i f len w tr b e h
    have : i = n := e
    subst this
    unfold rDfs
    rw [if_neg (by omega)]
  | succ k ih =>
    intro i f len w tr b e h
    show fdN _ _ _ = _
    apply fdN_id
    intro t ht
    unfold rStep
    have q0 := h0 i (by omega)
    by_cases q : t < T i
    · rw [if_pos q]
      have q1 := h1 i t (by omega) q
      by_cases r : (f = -1 ∨ C i t / 10 = f) ∧ len + L i t ≤ l
      · rw [if_pos r]
        exact ih _ _ _ _ _ _ (by omega) (by omega)
      · rw [if_neg r]
    · rw [if_neg q]
      exact ih _ _ _ _ _ _ (by omega) (by omega)
theorem r_none : ∀ (k i : Nat) (f : Int32) (len w : Nat) (tr : Nat → Int32) (b : Int × (Nat → Int32)), 1000 * (w : Int) - (len : Int) ≤ (rDfs T L W C l k i f len w tr b).1 := by
  intro k
  induction k with
  | zero =>
    intro i f len w tr b
    unfold rDfs
    by_cases q : b.1 < 1000 * (w : Int) - (len : Int)
    · rw [if_pos q]; exact Int.le_refl _
    · rw [if_neg q]; omega
  | succ k ih =>
    intro i f len w tr b
    show _ ≤ (rStep T L W C l (rDfs T L W C l k) i f len w tr (T i) (fdN (rStep T L W C l (rDfs T L W C l k) i f len w tr) (T i) b)).1
    unfold rStep
    rw [if_neg (Nat.lt_irrefl _)]
    exact ih _ _ _ _ _ _
def rRel (a b : Int × (Nat → Int32)) : Prop := ((b.1 ≤ -1 ∧ a.1 = -1) ∨ (0 ≤ b.1 ∧ a.1 = b.1 ∧ a.2 = b.2))
theorem r_rel : ∀ (k i : Nat) (f : Int32) (len w : Nat) (tr : Nat → Int32) (a b : Int × (Nat → Int32)), rRel a b → rRel (rDfs T L W C l k i f len w tr a) (rDfs T L W C l k i f len w tr b) := by
  intro k
  induction k with
  | zero =>
    intro i f len w tr a b h
    unfold rDfs
    by_cases q : b.1 < 1000 * (w : Int) - (len : Int)
    · rw [if_pos q]
      by_cases r : a.1 < 1000 * (w : Int) - (len : Int)
      · rw [if_pos r]
        rcases h with ⟨h1, h2⟩ | ⟨h1, h2, h3⟩
        · exact Or.inr ⟨by simp only []; omega, rfl, rfl⟩
        · exact Or.inr ⟨by simp only []; omega, rfl, rfl⟩
      · rw [if_neg r]
        rcases h with ⟨h1, h2⟩ | ⟨h1, h2, h3⟩
        · exact Or.inl ⟨by simp only []; omega, h2⟩
        · omega
    · rw [if_neg q]
      rcases h with ⟨h1, h2⟩ | ⟨h1, h2, h3⟩
      · rw [if_neg (by omega)]; exact Or.inl ⟨h1, h2⟩
      · rw [if_neg (by omega)]; exact Or.inr ⟨h1, h2, h3⟩
  | succ k ih =>
    intro i f len w tr a b h
    refine fdN_rel (R := rRel) ?_ h _
    intro t a b h
    unfold rStep
    by_cases q : t < T i
    · rw [if_pos q, if_pos q]
      by_cases r : (f = -1 ∨ C i t / 10 = f) ∧ len + L i t ≤ l
      · rw [if_pos r, if_pos r]
        exact ih _ _ _ _ _ _ _ h
      · rw [if_neg r, if_neg r]; exact h
    · rw [if_neg q, if_neg q]
      exact ih _ _ _ _ _ _ _ h
end
/-! the class's search -/
def rlX (p : Nat) (x y : VM) : Prop := (∀ F i, F ≠ 703 → y.1 F i = x.1 F i) ∧ (∀ F i, F ≠ 700 → (F = 513 → i ≠ p) → y.2.1 F i = x.2.1 F i) ∧ y.2.2 = x.2.2 ∧ ∀ i, i ≠ 0 → y.1 703 i = x.1 703 i ∧ y.2.1 700 i = x.2.1 700 i
def rDat (T : Nat → Nat) (L W : Nat → Nat → Nat) (C : Nat → Nat → Int32) (l n p : Nat) (x : VM) : Prop := (n ≤ 8) ∧ (l ≤ 400) ∧ (p < x.2.2.2 5) ∧ (x.2.2.2 (20 + p) = n) ∧ (x.1 502 p = nI n) ∧ (∀ i, i < n → T i ≤ 4) ∧ (∀ i, i < n → x.1 805 (8 * p + i) = nI (T i)) ∧ (∀ i t, i < n → t < T i → x.2.1 806 (8 * p + i) t = nI (L i t)) ∧ (∀ i t, i < n → t < T i → x.2.1 807 (8 * p + i) t = nI (W i t)) ∧ (∀ i t, i < n → t < T i → x.2.1 808 (8 * p + i) t = C i t) ∧ (∀ i t, i < n → t < T i → L i t ≤ 99) ∧ (∀ i t, i < n → t < T i → W i t ≤ 99)
theorem rDat.hn {T : Nat → Nat} {L W : Nat → Nat → Nat} {C : Nat → Nat → Int32} {l n p : Nat} {x : VM} (h : rDat T L W C l n p x) : n ≤ 8 := h.1
theorem rDat.hl {T : Nat → Nat} {L W : Nat → Nat → Nat} {C : Nat → Nat → Int32} {l n p : Nat} {x : VM} (h : rDat T L W C l n p x) : l ≤ 400 := h.2.1
theorem rDat.hp {T : Nat → Nat} {L W : Nat → Nat → Nat} {C : Nat → Nat → Int32} {l n p : Nat} {x : VM} (h : rDat T L W C l n p x) : p < x.2.2.2 5 := h.2.2.1
theorem rDat.hc {T : Nat → Nat} {L W : Nat → Nat → Nat} {C : Nat → Nat → Int32} {l n p : Nat} {x : VM} (h : rDat T L W C l n p x) : x.2.2.2 (20 + p) = n := h.2.2.2.1
theorem rDat.h502 {T : Nat → Nat} {L W : Nat → Nat → Nat} {C : Nat → Nat → Int32} {l n p : Nat} {x : VM} (h : rDat T L W C l n p x) : x.1 502 p = nI n := h.2.2.2.2.1
theorem rDat.hT {T : Nat → Nat} {L W : Nat → Nat → Nat} {C : Nat → Nat → Int32} {l n p : Nat} {x : VM} (h : rDat T L W C l n p x) : ∀ i, i < n → T i ≤ 4 := h.2.2.2.2.2.1
theorem rDat.h805 {T : Nat → Nat} {L W : Nat → Nat → Nat} {C : Nat → Nat → Int32} {l n p : Nat} {x : VM} (h : rDat T L W C l n p x) : ∀ i, i < n → x.1 805 (8 * p + i) = nI (T i) := h.2.2.2.2.2.2.1
theorem rDat.h806 {T : Nat → Nat} {L W : Nat → Nat → Nat} {C : Nat → Nat → Int32} {l n p : Nat} {x : VM} (h : rDat T L W C l n p x) : ∀ i t, i < n → t < T i → x.2.1 806 (8 * p + i) t = nI (L i t) := h.2.2.2.2.2.2.2.1
theorem rDat.h807 {T : Nat → Nat} {L W : Nat → Nat → Nat} {C : Nat → Nat → Int32} {l n p : Nat} {x : VM} (h : rDat T L W C l n p x) : ∀ i t, i < n → t < T i → x.2.1 807 (8 * p + i) t = nI (W i t) := h.2.2.2.2.2.2.2.2.1
theorem rDat.h808 {T : Nat → Nat} {L W : Nat → Nat → Nat} {C : Nat → Nat → Int32} {l n p : Nat} {x : VM} (h : rDat T L W C l n p x) : ∀ i t, i < n → t < T i → x.2.1 808 (8 * p + i) t = C i t := h.2.2.2.2.2.2.2.2.2.1
theorem rDat.hL {T : Nat → Nat} {L W : Nat → Nat → Nat} {C : Nat → Nat → Int32} {l n p : Nat} {x : VM} (h : rDat T L W C l n p x) : ∀ i t, i < n → t < T i → L i t ≤ 99 := h.2.2.2.2.2.2.2.2.2.2.1
theorem rDat.hW {T : Nat → Nat} {L W : Nat → Nat → Nat} {C : Nat → Nat → Int32} {l n p : Nat} {x : VM} (h : rDat T L W C l n p x) : ∀ i t, i < n → t < T i → W i t ≤ 99 := h.2.2.2.2.2.2.2.2.2.2.2
section
variable {T : Nat → Nat} {L W : Nat → Nat → Nat} {C : Nat → Nat → Int32} {l n p : Nat} {x : VM}
theorem rDat.to (h : rDat T L W C l n p x) {y : VM} (hy : rlX p x y) : rDat T L W C l n p y := by
  obtain ⟨a1, a2, a3, _⟩ := hy
  exact ⟨h.hn, h.hl, by rw [a3]; exact h.hp, by rw [a3]; exact h.hc, by rw [a1 _ _ (by decide)]; exact h.h502, h.hT, fun i hi => by rw [a1 _ _ (by decide)]; exact h.h805 i hi, fun i t hi ht => by rw [a2 _ _ (by decide) (fun q => absurd q (by decide))]; exact h.h806 i t hi ht, fun i t hi ht => by rw [a2 _ _ (by decide) (fun q => absurd q (by decide))]; exact h.h807 i t hi ht, fun i t hi ht => by rw [a2 _ _ (by decide) (fun q => absurd q (by decide))]; exact h.h808 i t hi ht, h.hL, h.hW⟩
theorem rDat.cnd (h : rDat T L W C l n p x) {i : Nat} (hi : i < n) : (8 * p + i) / 8 < x.2.2.2 5 ∧ (8 * p + i) % 8 < x.2.2.2 (20 + (8 * p + i) / 8) := by
  have := h.hn
  rw [show (8 * p + i) / 8 = p by omega, show (8 * p + i) % 8 = i by omega, h.hc]
  exact ⟨h.hp, hi⟩
theorem rDat.val (h : rDat T L W C l n p x) {i t : Nat} (hi : i < n) (ht : t < T i) : ∃ v, f_X7_valueOf x (8 * p + i) (nI t) = some v ∧ v.toInt = 1000 * (W i t : Int) - (L i t : Int) := by
  have t4 := h.hT i hi
  have ein : inb (nI t) 4 = true := by rw [inb_T, tI (by omega)]; omega
  have l1 := h.hL i t hi ht
  have w1 := h.hW i t hi ht
  unfold f_X7_valueOf
  rw [if_pos (h.cnd hi), if_pos ein, if_pos ein, nI_clamp (by omega), h.h806 i t hi ht, h.h807 i t hi ht]
  refine ⟨_, rfl, ?_⟩
  have e1 : nI (W i t) * 1000 = nI (W i t * 1000) := pk_mul _ _
  rw [e1, pk_sub_toInt (by omega) (by omega)]
  omega
theorem rDat.most (h : rDat T L W C l n p x) {i : Nat} (hi : i < n) : ∃ r, f_X7_mostOf x (8 * p + i) = some r ∧ 0 ≤ r.toInt ∧ r.toInt ≤ 99000 ∧ ∀ t, t < T i → 1000 * (W i t : Int) - (L i t : Int) ≤ r.toInt := by
  have t4 := h.hT i hi
  unfold f_X7_mostOf
  refine lp_cnt (V := Int32 × Int32) (d := none) (T i) (fun k v => ∃ a, v = (a, nI k) ∧ 0 ≤ a.toInt ∧ a.toInt ≤ 99000 ∧ ∀ t, t < k → 1000 * (W i t : Int) - (L i t : Int) ≤ a.toInt) (fun o => ∃ r : Int32, o = some r ∧ 0 ≤ r.toInt ∧ r.toInt ≤ 99000 ∧ ∀ t, t < T i → 1000 * (W i t : Int) - (L i t : Int) ≤ r.toInt) ?_ ?_ 0 _ (Nat.zero_le _) ⟨0, rfl, by decide, by decide, fun t ht => by omega⟩
  · rintro k v hk ⟨a, rfl, a1, a2, a3⟩
    left
    obtain ⟨v, v1, v2⟩ := h.val hi hk
    have w1 := h.hW i k hi hk
    have lt : ¬ nI (T i) ≤ nI k := by rw [Int32.le_iff_toInt_le, tI (by omega), tI (by omega)]; omega
    unfold b_X7_mostOf_4
    rw [if_pos (h.cnd hi), h.h805 i hi]
    simp only [if_neg lt, v1, Option.elim_some, nI_1]
    refine ⟨_, rfl, _, rfl, ?_⟩
    by_cases q : a < v
    · rw [if_pos q]
      rw [Int32.lt_iff_toInt_lt] at q
      refine ⟨by omega, by omega, fun t ht => ?_⟩
      by_cases e : t = k
      · subst e; omega
      · have := a3 t (by omega); omega
    · rw [if_neg q]
      rw [Int32.lt_iff_toInt_lt] at q
      refine ⟨a1, a2, fun t ht => ?_⟩
      by_cases e : t = k
      · subst e; omega
      · exact a3 t (by omega)
  · rintro v ⟨a, rfl, a1, a2, a3⟩
    unfold b_X7_mostOf_4
    rw [if_pos (h.cnd hi), h.h805 i hi, if_pos (Int32.le_refl _)]
    exact ⟨_, rfl, a, rfl, a1, a2, a3⟩
end
