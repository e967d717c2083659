/-! tools: loops, numbers, arguments -/
theorem lp_inl {V O : Type} {d : O} {B : V → V ⊕ O} {v v' : V} (h : B v = .inl v') : loopF d B v = loopF d B v' := by rw [loopF_eq, h]; rfl
theorem lp_inr {V O : Type} {d : O} {B : V → V ⊕ O} {v : V} {o : O} (h : B v = .inr o) : loopF d B v = o := by rw [loopF_eq, h]; rfl
theorem lp_seq {V O : Type} {d : O} {B : V → V ⊕ O} (s : Nat → V) (n : Nat) (o : O) (step : ∀ i, i < n → B (s i) = .inl (s (i + 1))) (fin : B (s n) = .inr o) : loopF d B (s 0) = o := by
  have key : ∀ k, k ≤ n → loopF d B (s (n - k)) = o := by
    intro k
    induction k with
    | zero => intro _; rw [Nat.sub_zero]; exact lp_inr fin
    | succ k ih =>
      intro h
      rw [lp_inl (step _ (by omega)), show n - (k + 1) + 1 = n - k by omega]
      exact ih (by omega)
  have := key n (Nat.le_refl n)
  rwa [Nat.sub_self] at this
/-- a loop goes on to a later state of a row of states -/
theorem lp_to {V O : Type} {d : O} {B : V → V ⊕ O} (s : Nat → V) (n : Nat) (step : ∀ i, i < n → B (s i) = .inl (s (i + 1))) : loopF d B (s 0) = loopF d B (s n) := by
  induction n with
  | zero => rfl
  | succ n ih => rw [ih (fun i hi => step i (by omega)), lp_inl (step n (by omega))]
theorem lp_cnt {V O : Type} {d : O} {B : V → V ⊕ O} (N : Nat) (I : Nat → V → Prop) (Q : O → Prop) (step : ∀ i v, i < N → I i v → (∃ v', B v = .inl v' ∧ I (i + 1) v') ∨ ∃ o, B v = .inr o ∧ Q o) (fin : ∀ v, I N v → ∃ o, B v = .inr o ∧ Q o) (i : Nat) (v : V) (hi : i ≤ N) (h : I i v) : Q (loopF d B v) := by
  have key : ∀ k i v, i + k = N → I i v → Q (loopF d B v) := by
    intro k
    induction k with
    | zero =>
      intro i v e h
      obtain ⟨o, e1, e2⟩ := fin v (by have : i = N := by omega
                                      rw [← this]; exact h)
      rw [lp_inr e1]; exact e2
    | succ k ih =>
      intro i v e h
      rcases step i v (by omega) h with ⟨v', e1, e2⟩ | ⟨o, e1, e2⟩
      · rw [lp_inl e1]; exact ih (i + 1) v' (by omega) e2
      · rw [lp_inr e1]; exact e2
  exact key (N - i) i v (by omega) h
theorem lp_cnt2 {V W O P : Type} {d : O} {e : P} {B : V → V ⊕ O} {C : W → W ⊕ P} (N : Nat) (R : Nat → V → W → Prop) (Q : O → P → Prop) (step : ∀ i v w, i < N → R i v w → (∃ v' w', B v = .inl v' ∧ C w = .inl w' ∧ R (i + 1) v' w') ∨ ∃ o p, B v = .inr o ∧ C w = .inr p ∧ Q o p) (fin : ∀ v w, R N v w → ∃ o p, B v = .inr o ∧ C w = .inr p ∧ Q o p) (i : Nat) (v : V) (w : W) (hi : i ≤ N) (h : R i v w) : Q (loopF d B v) (loopF e C w) := by
  have key : ∀ k i v w, i + k = N → R i v w → Q (loopF d B v) (loopF e C w) := by
    intro k
    induction k with
    | zero =>
      intro i v w e h
      obtain ⟨o, p, e1, e2, e3⟩ := fin v w (by have : i = N := by omega
                                               rw [← this]; exact h)
      rw [lp_inr e1, lp_inr e2]; exact e3
    | succ k ih =>
      intro i v w e h
      rcases step i v w (by omega) h with ⟨v', w', e1, e2, e3⟩ | ⟨o, p, e1, e2, e3⟩
      · rw [lp_inl e1, lp_inl e2]; exact ih (i + 1) v' w' (by omega) e3
      · rw [lp_inr e1, lp_inr e2]; exact e3
  exact key (N - i) i v w (by omega) h
theorem i32eq (a b : Int32) : (a = b) = (a.toInt = b.toInt) := propext ⟨fun h => by rw [h], fun h => Int32.toInt_inj.mp h⟩
theorem tI {n : Nat} (h : n < 2147483648) : (nI n).toInt = (n : Int) := nI_toInt h
theorem t_0 : (0 : Int32).toInt = 0 := rfl
theorem t_1 : (1 : Int32).toInt = 1 := rfl
theorem t_2 : (2 : Int32).toInt = 2 := rfl
theorem t_3 : (3 : Int32).toInt = 3 := rfl
theorem t_4 : (4 : Int32).toInt = 4 := rfl
theorem t_5 : (5 : Int32).toInt = 5 := rfl
theorem t_6 : (6 : Int32).toInt = 6 := rfl
theorem t_7 : (7 : Int32).toInt = 7 := rfl
theorem t_8 : (8 : Int32).toInt = 8 := rfl
theorem t_9 : (9 : Int32).toInt = 9 := rfl
theorem t_10 : (10 : Int32).toInt = 10 := rfl
theorem t_16 : (16 : Int32).toInt = 16 := rfl
theorem t_31 : (31 : Int32).toInt = 31 := rfl
theorem t_40 : (40 : Int32).toInt = 40 := rfl
theorem t_48 : (48 : Int32).toInt = 48 := rfl
theorem t_50 : (50 : Int32).toInt = 50 := rfl
theorem t_52 : (52 : Int32).toInt = 52 := rfl
theorem t_57 : (57 : Int32).toInt = 57 := rfl
theorem t_60 : (60 : Int32).toInt = 60 := rfl
theorem t_61 : (61 : Int32).toInt = 61 := rfl
theorem t_64 : (64 : Int32).toInt = 64 := rfl
theorem t_90 : (90 : Int32).toInt = 90 := rfl
theorem t_99 : (99 : Int32).toInt = 99 := rfl
theorem t_100 : (100 : Int32).toInt = 100 := rfl
theorem t_108 : (108 : Int32).toInt = 108 := rfl
theorem t_112 : (112 : Int32).toInt = 112 := rfl
theorem t_114 : (114 : Int32).toInt = 114 := rfl
theorem t_115 : (115 : Int32).toInt = 115 := rfl
theorem t_119 : (119 : Int32).toInt = 119 := rfl
theorem t_121 : (121 : Int32).toInt = 121 := rfl
theorem t_200 : (200 : Int32).toInt = 200 := rfl
theorem t_256 : (256 : Int32).toInt = 256 := rfl
theorem t_364 : (364 : Int32).toInt = 364 := rfl
theorem t_400 : (400 : Int32).toInt = 400 := rfl
theorem t_480 : (480 : Int32).toInt = 480 := rfl
theorem t_960 : (960 : Int32).toInt = 960 := rfl
theorem t_999 : (999 : Int32).toInt = 999 := rfl
theorem t_1000 : (1000 : Int32).toInt = 1000 := rfl
theorem t_4000 : (4000 : Int32).toInt = 4000 := rfl
theorem t_99999 : (99999 : Int32).toInt = 99999 := rfl
theorem t_1000000000 : (1000000000 : Int32).toInt = 1000000000 := rfl
theorem t_2147483647 : (2147483647 : Int32).toInt = 2147483647 := rfl
theorem t_m1 : (-1 : Int32).toInt = -1 := rfl
theorem t_m2 : (-2 : Int32).toInt = -2 := rfl
theorem t_m3 : (-3 : Int32).toInt = -3 := rfl
theorem t_m4 : (-4 : Int32).toInt = -4 := rfl
theorem t_m5 : (-5 : Int32).toInt = -5 := rfl
theorem t_m6 : (-6 : Int32).toInt = -6 := rfl
theorem t_m7 : (-7 : Int32).toInt = -7 := rfl
theorem t_m1000 : (-1000 : Int32).toInt = -1000 := rfl
theorem inb_T (i : Int32) (n : Nat) : (inb i n = true) = (0 ≤ i.toInt ∧ i.toInt < n) := propext ⟨of_decide_eq_true, fun h => decide_eq_true h⟩
theorem lm_2 (k : Nat) : (2 : Int32) * nI k = nI (2 * k) := pk_mul 2 k
theorem lm_4 (k : Nat) : (4 : Int32) * nI k = nI (4 * k) := pk_mul 4 k
theorem lm_5 (k : Nat) : (5 : Int32) * nI k = nI (5 * k) := pk_mul 5 k
theorem lm_7 (k : Nat) : (7 : Int32) * nI k = nI (7 * k) := pk_mul 7 k
theorem lm_8 (k : Nat) : (8 : Int32) * nI k = nI (8 * k) := pk_mul 8 k
theorem lm_10 (k : Nat) : (10 : Int32) * nI k = nI (10 * k) := pk_mul 10 k
theorem lm_40 (k : Nat) : (40 : Int32) * nI k = nI (40 * k) := pk_mul 40 k
theorem lm_60 (k : Nat) : (60 : Int32) * nI k = nI (60 * k) := pk_mul 60 k
theorem lm_61 (k : Nat) : (61 : Int32) * nI k = nI (61 * k) := pk_mul 61 k
theorem lm_364 (k : Nat) : (364 : Int32) * nI k = nI (364 * k) := pk_mul 364 k
theorem lm_1000 (k : Nat) : (1000 : Int32) * nI k = nI (1000 * k) := pk_mul 1000 k
theorem la_1 (k : Nat) : (1 : Int32) + nI k = nI (1 + k) := nI_add 1 k
theorem al_1 (k : Nat) : nI k + (1 : Int32) = nI (k + 1) := nI_add k 1
theorem la_10 (k : Nat) : (10 : Int32) + nI k = nI (10 + k) := nI_add 10 k
theorem al_10 (k : Nat) : nI k + (10 : Int32) = nI (k + 10) := nI_add k 10
theorem la_11 (k : Nat) : (11 : Int32) + nI k = nI (11 + k) := nI_add 11 k
theorem al_11 (k : Nat) : nI k + (11 : Int32) = nI (k + 11) := nI_add k 11
theorem la_100 (k : Nat) : (100 : Int32) + nI k = nI (100 + k) := nI_add 100 k
theorem al_100 (k : Nat) : nI k + (100 : Int32) = nI (k + 100) := nI_add k 100
theorem la_364 (k : Nat) : (364 : Int32) + nI k = nI (364 + k) := nI_add 364 k
theorem al_364 (k : Nat) : nI k + (364 : Int32) = nI (k + 364) := nI_add k 364
theorem d8 {i j : Nat} (h : j < 8) : (8 * i + j) / 8 = i := by omega
theorem m8 {i j : Nat} (h : j < 8) : (8 * i + j) % 8 = j := by omega
theorem ar (p : Int32) (a b : Nat) (hb : b < 2147483648) : p.toInt < (a : Int) ∨ (b : Int) < p.toInt ∨ ∃ n, a ≤ n ∧ n ≤ b ∧ p = nI n := by
  by_cases h1 : p.toInt < (a : Int)
  · exact Or.inl h1
  · by_cases h2 : (b : Int) < p.toInt
    · exact Or.inr (Or.inl h2)
    · refine Or.inr (Or.inr ⟨p.toInt.toNat, by omega, by omega, Int32.toInt_inj.mp ?_⟩)
      rw [tI (by omega)]; omega
theorem rng_nI {v : Int32} {a b : Nat} (h : rng v a b) (hb : b < 2147483648) : ∃ n, a ≤ n ∧ n ≤ b ∧ v = nI n := by
  rcases ar v a b hb with q | q | q
  · exact absurd h.1 (by omega)
  · exact absurd h.2 (by omega)
  · exact q
theorem rng_I {n a b : Nat} (h1 : a ≤ n) (h2 : n ≤ b) (hb : b < 2147483648) : rng (nI n) a b := by
  unfold rng; rw [tI (by omega)]; omega
/-! reads behind writes -/
section
variable {x : VM} {F F' a b n : Nat}
theorem rA1 {h : Nat → Int32} : (setA x F a h).1 = x.1 := rfl
theorem rA3 {h : Nat → Int32} : (setA x F a h).2.2 = x.2.2 := rfl
theorem rI2 {h : Int32} : (setI x F a h).2 = x.2 := rfl
theorem rJ1 {h : Nat → Int64} : (setJ x F a h).1 = x.1 := rfl
theorem rJ2 {h : Nat → Int64} : (setJ x F a h).2.1 = x.2.1 := rfl
theorem rJ4 {h : Nat → Int64} : (setJ x F a h).2.2.2 = x.2.2.2 := rfl
theorem rN1 : (setN x a n).1 = x.1 := rfl
theorem rN2 : (setN x a n).2.1 = x.2.1 := rfl
theorem rN3 : (setN x a n).2.2.1 = x.2.2.1 := rfl
theorem rAs {h : Nat → Int32} : (setA x F a h).2.1 F a = h := if_pos ⟨rfl, rfl⟩
theorem rIs {h : Int32} : (setI x F a h).1 F a = h := if_pos ⟨rfl, rfl⟩
theorem rJs {h : Nat → Int64} : (setJ x F a h).2.2.1 F a = h := if_pos ⟨rfl, rfl⟩
theorem rAn {h : Nat → Int32} (e : F' ≠ F) : (setA x F a h).2.1 F' b = x.2.1 F' b := if_neg (fun q => e q.1)
theorem rIn {h : Int32} (e : F' ≠ F) : (setI x F a h).1 F' b = x.1 F' b := if_neg (fun q => e q.1)
theorem rJn {h : Nat → Int64} (e : F' ≠ F) : (setJ x F a h).2.2.1 F' b = x.2.2.1 F' b := if_neg (fun q => e q.1)
end
/-! refusals -/
def rX (x : VM) (n : Nat) : VM := setA x 1112 0 (upd (x.2.1 1112 0) n (x.2.1 1112 0 n + 1))
def rM (m : VM) (n : Nat) : VM := setA m 1269 0 (upd (m.2.1 1269 0) n (m.2.1 1269 0 n + 1))
theorem rfx1 (x : VM) : f_X11_refused x (-1) = some (-1, rX x 0) := rfl
theorem rfx2 (x : VM) : f_X11_refused x (-2) = some (-2, rX x 1) := rfl
theorem rfx3 (x : VM) : f_X11_refused x (-3) = some (-3, rX x 2) := rfl
theorem rfx4 (x : VM) : f_X11_refused x (-4) = some (-4, rX x 3) := rfl
theorem rfx5 (x : VM) : f_X11_refused x (-5) = some (-5, rX x 4) := rfl
theorem rfx6 (x : VM) : f_X11_refused x (-6) = some (-6, rX x 5) := rfl
theorem rfx7 (x : VM) : f_X11_refused x (-7) = some (-7, rX x 6) := rfl
theorem rfm1 (m : VM) : f_X12_no m (-1) = some (-1, rM m 1) := rfl
theorem rfm2 (m : VM) : f_X12_no m (-2) = some (-2, rM m 2) := rfl
theorem rfm3 (m : VM) : f_X12_no m (-3) = some (-3, rM m 3) := rfl
theorem rfm4 (m : VM) : f_X12_no m (-4) = some (-4, rM m 4) := rfl
theorem rfm5 (m : VM) : f_X12_no m (-5) = some (-5, rM m 5) := rfl
theorem rfm6 (m : VM) : f_X12_no m (-6) = some (-6, rM m 6) := rfl
theorem rfm7 (m : VM) : f_X12_no m (-7) = some (-7, rM m 7) := rfl
