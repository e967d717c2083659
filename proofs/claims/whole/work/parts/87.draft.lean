/-! drafts -/
theorem lp_down {V O : Type} {d : O} {B : V → V ⊕ O} (I : Nat → V → Prop) (Q : O → Prop) (step : ∀ t v, I (t + 1) v → (∃ v', B v = .inl v' ∧ I t v') ∨ ∃ o, B v = .inr o ∧ Q o) (fin : ∀ v, I 0 v → ∃ o, B v = .inr o ∧ Q o) : ∀ (t : Nat) (v : V), I t v → Q (loopF d B v)
  | 0, v, h => by
    obtain ⟨o, e1, e2⟩ := fin v h
    rw [lp_inr e1]; exact e2
  | t + 1, v, h => by
    rcases step t v h with ⟨v', e1, e2⟩ | ⟨o, e1, e2⟩
    · rw [lp_inl e1]; exact lp_down I Q step fin t v' e2
    · rw [lp_inr e1]; exact e2
theorem lp_rel {V W O P : Type} {d : O} {e : P} {B : V → V ⊕ O} {C : W → W ⊕ P} (R : Nat → V → W → Prop) (Q : O → P → Prop) (step : ∀ k v w, R k v w → (∃ k' v' w', k' < k ∧ B v = .inl v' ∧ C w = .inl w' ∧ R k' v' w') ∨ ∃ o p, B v = .inr o ∧ C w = .inr p ∧ Q o p) (k : Nat) (v : V) (w : W) (h : R k v w) : Q (loopF d B v) (loopF e C w) := by
  induction k using Nat.strongRecOn generalizing v w with
  | ind k ih =>
    rcases step k v w h with ⟨k', v', w', h1, e1, e2, h2⟩ | ⟨o, p, e1, e2, h2⟩
    · rw [lp_inl e1, lp_inl e2]; exact ih k' h1 v' w' h2
    · rw [lp_inr e1, lp_inr e2]; exact h2
theorem lg0 (a b : Int64) : (lg_cmp a b = 0) = (a = b) := by
  unfold lg_cmp
  apply propext
  by_cases h1 : a > b
  · rw [if_pos h1]
    constructor
    · intro h; exact absurd h (by decide)
    · intro h; subst h; exact absurd h1 (Int64.lt_irrefl)
  · rw [if_neg h1]
    by_cases h2 : a = b
    · rw [if_pos h2]; exact ⟨fun _ => h2, fun _ => rfl⟩
    · rw [if_neg h2]
      exact ⟨fun h => absurd h (by decide), fun h => absurd h h2⟩
theorem nIm1 : nI 0 + (-1) = -1 := by decide
theorem lcs_le (e : Nat → Nat → Prop) [∀ p q, Decidable (e p q)] (q : Nat) : ∀ p, lcs e p q ≤ p
  | 0 => by rw [lcs_0]; exact Nat.le_refl _
  | p + 1 => by
    have := lcs_le e q p
    have := (lcs_all e _ p q (Nat.le_refl _)).2.2.1
    omega
section
variable (a b : Nat → Int64) (n z : Nat)
def Lr (i j : Nat) : Nat := lcs (fun p q => a (n - p) = b (z - q)) (n - i) (z - j)
variable {a b n z}
theorem Lr_n {j : Nat} : Lr a b n z n j = 0 := by unfold Lr; rw [Nat.sub_self, lcs_0]
theorem Lr_z {i : Nat} : Lr a b n z i z = 0 := by unfold Lr; rw [Nat.sub_self, lcs_00]
theorem Lr_le {i j : Nat} : Lr a b n z i j ≤ n := by unfold Lr; exact Nat.le_trans (lcs_le _ _ _) (Nat.sub_le _ _)
theorem Lr_s {i j : Nat} (hi : i < n) (hj : j < z) : Lr a b n z i j = if a i = b j then 1 + Lr a b n z (i + 1) (j + 1) else max (Lr a b n z (i + 1) j) (Lr a b n z i (j + 1)) := by
  unfold Lr
  have e1 : n - i = (n - (i + 1)) + 1 := by omega
  have e2 : z - j = (z - (j + 1)) + 1 := by omega
  rw [e1, e2, lcs_s, show n - (n - (i + 1) + 1) = i by omega, show z - (z - (j + 1) + 1) = j by omega]
theorem Lr_g {i j : Nat} (hi : i < n) (hj : j < z) : Lr a b n z (i + 1) j ≤ Lr a b n z (i + 1) (j + 1) + 1 ∧ Lr a b n z i (j + 1) ≤ Lr a b n z (i + 1) (j + 1) + 1 := by
  unfold Lr
  have e1 : n - i = (n - (i + 1)) + 1 := by omega
  have e2 : z - j = (z - (j + 1)) + 1 := by omega
  have := lcs_all (fun p q => a (n - p) = b (z - q)) _ (n - (i + 1)) (z - (j + 1)) (Nat.le_refl _)
  rw [e1, e2]
  exact ⟨this.2.2.2, this.2.2.1⟩
end
section
variable {x m : VM} {p s n z : Nat}
theorem keepX (i1 : p < x.2.2.2 5) (s8 : s < 8) (hn : x.1 512 p = nI n) (n60 : n ≤ 60) (hz : x.1 902 s = nI z) (z60 : z ≤ 60) : ∃ T, f_X0_fillCanKeep x p s = some (setA x 0 0 T) ∧ ∀ i j, i ≤ n → j ≤ z → T (61 * i + j) = nI (Lr (x.2.2.1 510 p) (x.2.2.1 900 s) n z i j) := by
  unfold f_X0_fillCanKeep
  rw [if_pos i1, hn]
  have key := lp_down (V := Int32 × VM) (d := none) (B := b_X0_fillCanKeep_5 x p s) (fun t v => t ≤ n + 1 ∧ ∃ T, v = (nI t + (-1), setA x 0 0 T) ∧ ∀ i j, t ≤ i → i ≤ n → j ≤ z → T (61 * i + j) = nI (Lr (x.2.2.1 510 p) (x.2.2.1 900 s) n z i j)) (fun o => ∃ T, o = some (setA x 0 0 T) ∧ ∀ i j, i ≤ n → j ≤ z → T (61 * i + j) = nI (Lr (x.2.2.1 510 p) (x.2.2.1 900 s) n z i j)) ?_ ?_ (n + 1) (nI n, x) ⟨Nat.le_refl _, x.2.1 0 0, by rw [setA_id, pk_m1], fun i j h1 h2 => by omega⟩
  · obtain ⟨T, h1, h2⟩ := key
    exact ⟨T, h1, h2⟩
  · rintro i v ⟨hi, T, rfl, hT⟩
    left
    rw [pk_m1]
    have inner : ∃ T', loopF (Sum.inr none) (b_X0_fillCanKeep_15 x p s (nI i, setA x 0 0 T)) (nI z, setA x 0 0 T) = Sum.inl (nI i + (-1), setA x 0 0 T') ∧ ∀ i' j, i ≤ i' → i' ≤ n → j ≤ z → T' (61 * i' + j) = nI (Lr (x.2.2.1 510 p) (x.2.2.1 900 s) n z i' j) := by
      refine lp_down (V := Int32 × VM) (d := Sum.inr none) (fun t v => t ≤ z + 1 ∧ ∃ T, v = (nI t + (-1), setA x 0 0 T) ∧ (∀ i' j, i + 1 ≤ i' → i' ≤ n → j ≤ z → T (61 * i' + j) = nI (Lr (x.2.2.1 510 p) (x.2.2.1 900 s) n z i' j)) ∧ ∀ j, t ≤ j → j ≤ z → T (61 * i + j) = nI (Lr (x.2.2.1 510 p) (x.2.2.1 900 s) n z i j)) (fun o => ∃ T', o = Sum.inl (nI i + (-1), setA x 0 0 T') ∧ ∀ i' j, i ≤ i' → i' ≤ n → j ≤ z → T' (61 * i' + j) = nI (Lr (x.2.2.1 510 p) (x.2.2.1 900 s) n z i' j)) ?_ ?_ (z + 1) _ ⟨Nat.le_refl _, T, by rw [pk_m1], hT, fun j h1 h2 => by omega⟩
      · rintro j v ⟨hj, T, rfl, hT, hR⟩
        left
        rw [pk_m1]
        have wr : ∀ val, val = nI (Lr (x.2.2.1 510 p) (x.2.2.1 900 s) n z i j) → ∃ v', j_X0_fillCanKeep_111 x p s (nI i, setA x 0 0 T) (nI j, setA x 0 0 T) val = Sum.inl v' ∧ j ≤ z + 1 ∧ ∃ T, v' = (nI j + (-1), setA x 0 0 T) ∧ (∀ i' j, i + 1 ≤ i' → i' ≤ n → j ≤ z → T (61 * i' + j) = nI (Lr (x.2.2.1 510 p) (x.2.2.1 900 s) n z i' j)) ∧ ∀ j', j ≤ j' → j' ≤ z → T (61 * i + j') = nI (Lr (x.2.2.1 510 p) (x.2.2.1 900 s) n z i j') := by
          intro val hv
          unfold j_X0_fillCanKeep_111
          have e61 : nI i * 61 + nI j = nI (61 * i + j) := by rw [show (61 : Int32) = nI 61 from rfl, pk_mul, nI_add, Nat.mul_comm]
          rw [e61, if_pos (by rw [inb_T, tI (by omega)]; omega), nI_clamp (by omega), sA_s, setAA]
          refine ⟨_, rfl, by omega, _, rfl, fun i' j' h1 h2 h3 => ?_, fun j' h1 h2 => ?_⟩
          · rw [u_n (by omega)]; exact hT i' j' h1 h2 h3
          · by_cases e : j' = j
            · subst e; rw [pk_us]; exact hv
            · rw [u_n (by omega)]; exact hR j' (by omega) h2
        unfold b_X0_fillCanKeep_15
        have h1' : (setA x 0 0 T).1 512 p = nI n := hn
        have h2' : (setA x 0 0 T).1 902 s = nI z := hz
        have i1' : p < (setA x 0 0 T).2.2.2 5 := i1
        rw [if_neg (nI_npos (by omega)), if_pos i1', h1', h2', if_pos s8]
        by_cases c1 : i = n
        · rw [if_pos (by rw [c1]; exact Int32.le_refl _)]
          exact wr 0 (by rw [c1, Lr_n]; rfl)
        · rw [if_neg (by rw [Int32.le_iff_toInt_le, tI (by omega), tI (by omega)]; omega)]
          by_cases c2 : j = z
          · rw [if_pos (by rw [c2]; exact Int32.le_refl _)]
            exact wr 0 (by rw [c2, Lr_z]; rfl)
          · rw [if_neg (by rw [Int32.le_iff_toInt_le, tI (by omega), tI (by omega)]; omega)]
            have hin : i < n := by omega
            have hjz : j < z := by omega
            have e1 : (nI i + 1) * 61 + nI j + 1 = nI (61 * (i + 1) + (j + 1)) := by rw [nI_1, show (61 : Int32) = nI 61 from rfl, pk_mul, nI_add, nI_1, Nat.mul_comm, Nat.add_assoc]
            have e2 : (nI i + 1) * 61 + nI j = nI (61 * (i + 1) + j) := by rw [nI_1, show (61 : Int32) = nI 61 from rfl, pk_mul, nI_add, Nat.mul_comm]
            have e3 : nI i * 61 + nI j + 1 = nI (61 * i + (j + 1)) := by rw [show (61 : Int32) = nI 61 from rfl, pk_mul, nI_add, nI_1, Nat.mul_comm, Nat.add_assoc]
            have l1 := Lr_le (a := x.2.2.1 510 p) (b := x.2.2.1 900 s) (n := n) (z := z) (i := i + 1) (j := j + 1)
            have l2 := Lr_le (a := x.2.2.1 510 p) (b := x.2.2.1 900 s) (n := n) (z := z) (i := i + 1) (j := j)
            have l3 := Lr_le (a := x.2.2.1 510 p) (b := x.2.2.1 900 s) (n := n) (z := z) (i := i) (j := j + 1)
            have t1 := hT (i + 1) (j + 1) (by omega) (by omega) (by omega)
            have t2 := hT (i + 1) j (by omega) (by omega) (by omega)
            have t3 := hR (j + 1) (by omega) (by omega)
            have rec1 := Lr_s (a := x.2.2.1 510 p) (b := x.2.2.1 900 s) hin hjz
            unfold j_X0_fillCanKeep_109
            rw [if_pos (show inb (nI i) 60 = true by rw [inb_T, tI (by omega)]; omega), if_pos (show inb (nI j) 60 = true by rw [inb_T, tI (by omega)]; omega), rA3, nI_clamp (by omega), nI_clamp (by omega), e1, e2, e3]
            simp only [lg0, sA_s]
            by_cases c3 : x.2.2.1 510 p i = x.2.2.1 900 s j
            · rw [if_pos c3, if_pos (show inb (nI (61 * (i + 1) + (j + 1))) 3721 = true by rw [inb_T, tI (by omega)]; omega), nI_clamp (by omega), t1]
              exact wr _ (by rw [la_1, rec1, if_pos c3])
            · rw [if_neg c3, if_pos (show inb (nI (61 * (i + 1) + j)) 3721 = true by rw [inb_T, tI (by omega)]; omega), if_pos (show inb (nI (61 * i + (j + 1))) 3721 = true by rw [inb_T, tI (by omega)]; omega), nI_clamp (by omega), nI_clamp (by omega), t2, t3]
              refine wr _ ?_
              rw [rec1, if_neg c3]
              by_cases c4 : Lr (x.2.2.1 510 p) (x.2.2.1 900 s) n z (i + 1) j < Lr (x.2.2.1 510 p) (x.2.2.1 900 s) n z i (j + 1)
              · rw [if_pos ((nI_ltI (by omega) (by omega)).mpr c4), Nat.max_eq_right (by omega)]
              · rw [if_neg (fun q => c4 ((nI_ltI (by omega) (by omega)).mp q)), Nat.max_eq_left (by omega)]
      · rintro v ⟨_, T, rfl, hT, hR⟩
        rw [nIm1]
        refine ⟨_, rfl, T, rfl, fun i' j h1 h2 h3 => ?_⟩
        by_cases e : i' = i
        · subst e; exact hR j (by omega) h3
        · exact hT i' j (by omega) h2 h3
    obtain ⟨T', h1, h2⟩ := inner
    refine ⟨_, ?_, by omega, T', rfl, h2⟩
    unfold b_X0_fillCanKeep_5
    have h2' : (setA x 0 0 T).1 902 s = nI z := hz
    rw [if_neg (nI_npos (by omega)), if_pos s8, h2']
    exact h1
  · rintro v ⟨_, T, rfl, hT⟩
    rw [nIm1]
    exact ⟨_, rfl, T, rfl, fun i j h1 h2 => hT i j (by omega) h1 h2⟩
end
