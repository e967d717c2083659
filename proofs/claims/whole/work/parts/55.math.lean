/-! longest common rows -/
def lcs (e : Nat → Nat → Prop) [∀ p q, Decidable (e p q)] : Nat → Nat → Nat
  | 0, _ => 0
  | _ + 1, 0 => 0
  | p + 1, q + 1 => if e (p + 1) (q + 1) then 1 + lcs e p q else max (lcs e p (q + 1)) (lcs e (p + 1) q)
termination_by p q => p + q
theorem lcs_0 (e : Nat → Nat → Prop) [∀ p q, Decidable (e p q)] (q : Nat) : lcs e 0 q = 0 := by rw [lcs]
theorem lcs_00 (e : Nat → Nat → Prop) [∀ p q, Decidable (e p q)] (p : Nat) : lcs e p 0 = 0 := by cases p <;> rw [lcs]
theorem lcs_s (e : Nat → Nat → Prop) [∀ p q, Decidable (e p q)] (p q : Nat) : lcs e (p + 1) (q + 1) = if e (p + 1) (q + 1) then 1 + lcs e p q else max (lcs e p (q + 1)) (lcs e (p + 1) q) := by rw [lcs]
theorem lcs_all (e : Nat → Nat → Prop) [∀ p q, Decidable (e p q)] : ∀ s p q, p + q ≤ s → lcs e p q ≤ lcs e (p + 1) q ∧ lcs e p q ≤ lcs e p (q + 1) ∧ lcs e (p + 1) q ≤ lcs e p q + 1 ∧ lcs e p (q + 1) ≤ lcs e p q + 1 := by
  intro s
  induction s with
  | zero =>
    intro p q h
    have e1 : p = 0 := by omega
    have e2 : q = 0 := by omega
    subst e1 e2
    simp [lcs_0, lcs_00]
  | succ s ih =>
    intro p q h
    refine ⟨?_, ?_, ?_, ?_⟩
    · cases q with
      | zero => rw [lcs_00]; exact Nat.zero_le _
      | succ q =>
        rw [lcs_s]
        have := (ih p q (by omega)).2.2.2
        split <;> omega
    · cases p with
      | zero => rw [lcs_0]; exact Nat.zero_le _
      | succ p =>
        rw [lcs_s]
        have := (ih p q (by omega)).2.2.1
        split <;> omega
    · cases q with
      | zero => rw [lcs_00]; exact Nat.zero_le _
      | succ q =>
        rw [lcs_s]
        have := ih p q (by omega)
        split <;> omega
    · cases p with
      | zero => rw [lcs_0]; exact Nat.zero_le _
      | succ p =>
        rw [lcs_s]
        have := ih p q (by omega)
        split <;> omega
/-! fractions in lowest terms -/
theorem low_uniq {u l U D : Nat} (h : u * D = U * l) (hc : Nat.gcd u l = 1) (hl : 0 < l) (hD : 0 < D) : U / Nat.gcd U D = u ∧ D / Nat.gcd U D = l := by
  by_cases hu : u = 0
  · subst hu
    have hl1 : l = 1 := by rw [Nat.gcd_zero_left] at hc; exact hc
    subst hl1
    have hU : U = 0 := by omega
    subst hU
    rw [Nat.gcd_zero_left, Nat.zero_div, Nat.div_self hD]
    exact ⟨rfl, rfl⟩
  · have d1 : u ∣ U := by
      have : u ∣ U * l := ⟨D, h.symm⟩
      exact Nat.Coprime.dvd_of_dvd_mul_right hc this
    obtain ⟨t, rfl⟩ := d1
    have e : D = t * l := by
      have : u * D = u * (t * l) := by rw [h, Nat.mul_assoc]
      exact Nat.eq_of_mul_eq_mul_left (by omega) this
    subst e
    have ht : 0 < t := by
      rcases Nat.eq_zero_or_pos t with z | z
      · subst z; simp at hD
      · exact z
    have g : Nat.gcd (u * t) (t * l) = t := by
      rw [Nat.mul_comm u t, Nat.gcd_mul_left, hc, Nat.mul_one]
    rw [g, Nat.mul_div_cancel _ ht, Nat.mul_div_cancel_left _ ht]
    exact ⟨rfl, rfl⟩
/-- one step of adding fractions in lowest terms -/
theorem low_step {up low U D a' c : Nat} (h : up * D = U * low) (hl : 0 < low) (hD : 0 < D) (hc : 0 < c) {g b a k u' l' e : Nat} (eg : g = Nat.gcd c a') (eb : b = c / g) (ea : a = a' / g) (ek : k = Nat.gcd low b) (eu : u' = up * (b / k) + a * (low / k)) (el : l' = low / k * b) (ee : e = Nat.gcd l' u') : (u' / e) * (D * c) = (U * c + D * a') * (l' / e) ∧ Nat.gcd (u' / e) (l' / e) = 1 ∧ 0 < l' / e ∧ 0 < b ∧ 0 < k ∧ 0 < l' ∧ 0 < e ∧ 0 < g := by
  have g0 : 0 < g := by rw [eg]; exact Nat.gcd_pos_of_pos_left _ hc
  obtain ⟨c1, hc1⟩ : g ∣ c := by rw [eg]; exact Nat.gcd_dvd_left _ _
  obtain ⟨a1, ha1⟩ : g ∣ a' := by rw [eg]; exact Nat.gcd_dvd_right _ _
  have eb' : b = c1 := by rw [eb, hc1, Nat.mul_div_cancel_left _ g0]
  have ea' : a = a1 := by rw [ea, ha1, Nat.mul_div_cancel_left _ g0]
  have b0 : 0 < b := by
    rcases Nat.eq_zero_or_pos b with z | z
    · rw [← eb', z] at hc1; omega
    · exact z
  have k0 : 0 < k := by rw [ek]; exact Nat.gcd_pos_of_pos_left _ hl
  obtain ⟨l1, hl1⟩ : k ∣ low := by rw [ek]; exact Nat.gcd_dvd_left _ _
  obtain ⟨b1, hb1⟩ : k ∣ b := by rw [ek]; exact Nat.gcd_dvd_right _ _
  have el1 : low / k = l1 := by rw [hl1, Nat.mul_div_cancel_left _ k0]
  have eb1 : b / k = b1 := by rw [hb1, Nat.mul_div_cancel_left _ k0]
  have l10 : 0 < l1 := by
    rcases Nat.eq_zero_or_pos l1 with z | z
    · rw [z] at hl1; omega
    · exact z
  have l'0 : 0 < l' := by rw [el, el1]; exact Nat.mul_pos l10 b0
  have e0 : 0 < e := by rw [ee]; exact Nat.gcd_pos_of_pos_left _ l'0
  obtain ⟨l2, hl2⟩ : e ∣ l' := by rw [ee]; exact Nat.gcd_dvd_left _ _
  obtain ⟨u2, hu2⟩ : e ∣ u' := by rw [ee]; exact Nat.gcd_dvd_right _ _
  have el2 : l' / e = l2 := by rw [hl2, Nat.mul_div_cancel_left _ e0]
  have eu2 : u' / e = u2 := by rw [hu2, Nat.mul_div_cancel_left _ e0]
  have gg : Nat.gcd u2 l2 = 1 := by
    have : e * Nat.gcd u2 l2 = e := by
      rw [← Nat.gcd_mul_left, ← hu2, ← hl2, Nat.gcd_comm]; exact ee.symm
    exact Nat.eq_of_mul_eq_mul_left e0 (by omega)
  have cross : u' * (D * c) = (U * c + D * a') * l' := by
    have h1 : k * (u' * (D * c)) = k * ((U * c + D * a') * l') := by
      have s1 : k * u' = up * b + a * low := by
        rw [eu, eb1, el1, Nat.mul_add, hb1, hl1]
        ac_rfl
      have s2 : k * l' = low * b := by
        rw [el, el1, hl1]
        ac_rfl
      have s3 : a * c = a' * b := by
        rw [ea', eb', hc1, ha1]
        ac_rfl
      calc k * (u' * (D * c)) = (k * u') * (D * c) := by ac_rfl
        _ = (up * b + a * low) * (D * c) := by rw [s1]
        _ = (up * D) * (b * c) + (a * c) * (low * D) := by rw [Nat.add_mul]; ac_rfl
        _ = (U * low) * (b * c) + (a' * b) * (low * D) := by rw [h, s3]
        _ = (U * c + D * a') * (low * b) := by rw [Nat.add_mul]; ac_rfl
        _ = (U * c + D * a') * (k * l') := by rw [s2]
        _ = k * ((U * c + D * a') * l') := by ac_rfl
    exact Nat.eq_of_mul_eq_mul_left k0 h1
  refine ⟨?_, by rw [el2, eu2]; exact gg, by rw [el2]; (rcases Nat.eq_zero_or_pos l2 with z | z; (rw [z] at hl2; omega); exact z), b0, k0, l'0, e0, g0⟩
  rw [eu2, el2]
  have : e * (u2 * (D * c)) = e * ((U * c + D * a') * l2) := by
    calc e * (u2 * (D * c)) = (e * u2) * (D * c) := by ac_rfl
      _ = (U * c + D * a') * (e * l2) := by rw [← hu2, ← hl2, cross]
      _ = e * ((U * c + D * a') * l2) := by ac_rfl
  exact Nat.eq_of_mul_eq_mul_left e0 this
