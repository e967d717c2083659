/-! may a picture be booked -/
def nearP (x : VM) (h : Nat) (p : Int32) (w c : Nat) : Prop := ∃ v, v < 40 ∧ v ≤ w + c ∧ w ≤ v + c ∧ x.2.1 103 h v = p
theorem nearX {x : VM} {h w c : Nat} (p : Int32) (hh : h < x.2.2.2 1) (hw : w < 40) (hc : c ≤ 9) : (nearP x h p w c ∧ f_X1_showsNear x h p (nI w) (nI c) = some 1) ∨ (¬ nearP x h p w c ∧ f_X1_showsNear x h p (nI w) (nI c) = some 0) := by
  have t39 : (39 : Int32).toInt = 39 := rfl
  have elo : (if (0 : Int32) < nI w - nI c then nI w - nI c else 0) = nI (w - c) := by
    by_cases h1 : w ≤ c
    · rw [if_neg, show w - c = 0 by omega]
      · rfl
      · rw [Int32.lt_iff_toInt_lt, pk_sub_toInt (by omega) (by omega), t_0]; omega
    · rw [pk_sub (by omega)]
      rw [if_pos]
      rw [Int32.lt_iff_toInt_lt, tI (by omega), t_0]; omega
  have ehi : (if nI w + nI c < (39 : Int32) then nI w + nI c else (39 : Int32)) = nI (min (w + c) 39) := by
    rw [nI_add]
    by_cases h1 : w + c < 39
    · rw [if_pos, Nat.min_eq_left (by omega)]
      rw [Int32.lt_iff_toInt_lt, tI (by omega), t39]; omega
    · rw [if_neg, Nat.min_eq_right (by omega)]
      · rfl
      · rw [Int32.lt_iff_toInt_lt, tI (by omega), t39]; omega
  unfold f_X1_showsNear
  rw [elo]
  refine lp_cnt (V := Int32) (d := none) (min (w + c) 39 + 1) (fun k v => v = nI k ∧ w - c ≤ k ∧ ∀ u, w - c ≤ u → u < k → ¬ x.2.1 103 h u = p) (fun o => (nearP x h p w c ∧ o = some 1) ∨ (¬ nearP x h p w c ∧ o = some 0)) ?_ ?_ (w - c) (nI (w - c)) (by omega) ⟨rfl, Nat.le_refl _, fun u h1 h2 => by omega⟩
  · rintro k v hk ⟨rfl, hl, hv⟩
    unfold b_X1_showsNear_19
    rw [ehi]
    simp (disch := omega) only [Int32.lt_iff_toInt_lt, tI, if_neg, if_pos, inb_T, nI_clamp, nI_1]
    by_cases e : x.2.1 103 h k = p
    · right
      rw [if_pos e]
      exact ⟨_, rfl, Or.inl ⟨⟨k, by omega, by omega, by omega, e⟩, rfl⟩⟩
    · left
      rw [if_neg e]
      refine ⟨_, rfl, rfl, by omega, fun u h1 h2 => ?_⟩
      by_cases e2 : u = k
      · subst e2; exact e
      · exact hv u h1 (by omega)
  · rintro v ⟨rfl, hl, hv⟩
    unfold b_X1_showsNear_19
    rw [ehi, if_pos (by rw [Int32.lt_iff_toInt_lt, tI (by omega), tI (by omega)]; omega)]
    exact ⟨_, rfl, Or.inr ⟨fun ⟨u, u1, u2, u3, u4⟩ => hv u (by omega) (by omega) u4, rfl⟩⟩
theorem addT1 {v : Int32} (h : v.toInt < 2147483647) : (v + 1).toInt = v.toInt + 1 := by
  have := Int32.le_toInt v
  rw [Int32.toInt_add, t_1]
  exact Int.bmod_eq_of_le (by omega) (by omega)
theorem addT {a b : Int32} (h1 : -2147483648 ≤ a.toInt + b.toInt) (h2 : a.toInt + b.toInt < 2147483648) : (a + b).toInt = a.toInt + b.toInt := by
  rw [Int32.toInt_add]
  exact Int.bmod_eq_of_le (by omega) (by omega)
theorem nearM {x m : VM} {h g w c : Nat} {q : Int32} (p : Int32) (hm : ∀ v, v < 40 → m.2.1 1264 0 (40 * h + v) = x.2.1 103 h v) (hh : h < 6) (hw : w < 40) (hc : c ≤ 9) (hcl : m.1 1208 0 = nI c) : (nearP x h p w c ∧ loopF (Sum.inr none) (b_X12_mayBook_72 m p q (nI w) (nI h)) (nI w - nI c) = Sum.inr (some 0)) ∨ (¬ nearP x h p w c ∧ loopF (Sum.inr none) (b_X12_mayBook_72 m p q (nI w) (nI h)) (nI w - nI c) = Sum.inl (nI (h + 1))) := by
  refine lp_cnt (V := Int32) (d := Sum.inr none) (2 * c + 1) (fun k v => v.toInt = (w : Int) + k - c ∧ ∀ u : Nat, u < 40 → (w : Int) - c ≤ u → (u : Int) < w + k - c → ¬ x.2.1 103 h u = p) (fun o => (nearP x h p w c ∧ o = Sum.inr (some 0)) ∨ (¬ nearP x h p w c ∧ o = Sum.inl (nI (h + 1)))) ?_ ?_ 0 _ (by omega) ⟨by rw [pk_sub_toInt (by omega) (by omega)]; omega, fun u h1 h2 h3 => by omega⟩
  · rintro k v hk ⟨ev, hv⟩
    have e1 : (v + 1).toInt = (w : Int) + (k + 1 : Nat) - c := by rw [addT1 (by omega), ev]; omega
    unfold b_X12_mayBook_72
    rw [hcl, nI_add, if_neg (by rw [Int32.lt_iff_toInt_lt, tI (by omega), ev]; omega)]
    by_cases h0 : v.toInt < 0
    · left
      rw [if_pos (by rw [Int32.lt_iff_toInt_lt]; exact h0)]
      exact ⟨_, rfl, e1, fun u h1 h2 h3 => hv u h1 h2 (by omega)⟩
    · rw [if_neg (by rw [Int32.lt_iff_toInt_lt]; exact h0)]
      by_cases h4 : 40 ≤ v.toInt
      · left
        rw [if_pos (by rw [Int32.le_iff_toInt_le, t_40]; exact h4)]
        exact ⟨_, rfl, e1, fun u h1 h2 h3 => hv u h1 h2 (by omega)⟩
      · rw [if_neg (by rw [Int32.le_iff_toInt_le, t_40]; exact h4)]
        obtain ⟨u, u1, rfl⟩ : ∃ u, u < 40 ∧ v = nI u := by
          rcases ix v 40 (by decide) with z | z | z
          · omega
          · omega
          · exact z
        rw [tI (by omega)] at ev
        simp (disch := omega) only [lm_40, nI_add, inb_T, tI, if_pos, nI_clamp]
        rw [hm u u1]
        by_cases e : x.2.1 103 h u = p
        · right
          rw [if_pos e]
          exact ⟨_, rfl, Or.inl ⟨⟨u, u1, by omega, by omega, e⟩, rfl⟩⟩
        · left
          rw [if_neg e]
          refine ⟨_, rfl, e1, fun u' h1 h2 h3 => ?_⟩
          by_cases e2 : u' = u
          · subst e2; exact e
          · exact hv u' h1 h2 (by omega)
  · rintro v ⟨ev, hv⟩
    unfold b_X12_mayBook_72
    rw [hcl, nI_add, if_pos (by rw [Int32.lt_iff_toInt_lt, tI (by omega), ev]; omega), nI_1]
    exact ⟨_, rfl, Or.inr ⟨fun ⟨u, u1, u2, u3, u4⟩ => hv u u1 (by omega) (by omega) u4, rfl⟩⟩
theorem l_may {x m : VM} (hb : KX x) (hc : ICnt x m) (hcl : IClr x m) (hh : IHal x m) {h w : Nat} (p : Int32) (h1 : h < x.2.2.2 1) (hw : w < 40) : ∃ r, f_X11_mayBook x p h (nI w) = some r ∧ f_X12_mayBook m p (nI h) (nI w) = some r ∧ (r = 0 ∨ (r = 1 ∧ x.2.1 103 h w = -1)) := by
  obtain ⟨b1, b2⟩ := hb.2.2.1
  have b3 : m.1 1205 0 = nI (x.2.2.2 1) := by rw [hc.2.2, b1]
  obtain ⟨c, c1, c2, c3⟩ := rng_nI (a := 0) (b := 9) hcl.2 (by decide)
  have c4 : m.1 1208 0 = nI c := by rw [hcl.1, c3]
  have h6 : h < 6 := by omega
  have ih : inb (nI h) 6 = true := by rw [inb_T, tI (by omega)]; omega
  have hs := ((hh h h1).2.2.2.2 w hw).1.1
  unfold f_X11_mayBook f_X12_mayBook
  simp (disch := omega) only [if_pos, inb_T, tI, nI_clamp, lm_40, nI_add]
  rw [hs]
  by_cases hz : x.2.1 103 h w = -1
  · simp only [if_pos hz]
    refine lp_cnt2 (V := Int32) (W := Int32) (d := none) (e := none) (x.2.2.2 1) (fun k v v' => v = nI k ∧ v' = nI k) (fun o o' => ∃ r, o = some r ∧ o' = some r ∧ (r = 0 ∨ (r = 1 ∧ x.2.1 103 h w = -1))) ?_ ?_ 0 0 0 (Nat.zero_le _) ⟨rfl, rfl⟩
    · rintro k v v' hk ⟨rfl, rfl⟩
      have k6 : k < 6 := by omega
      have ik : inb (nI k) 6 = true := by rw [inb_T, tI (by omega)]; omega
      have lt : ¬ nI (x.2.2.2 1) ≤ nI k := by rw [Int32.le_iff_toInt_le, tI (by omega), tI (by omega)]; omega
      obtain ⟨a1, a2, a3, a4, a5⟩ := hh k hk
      obtain ⟨d1, d2, _⟩ := hh h h1
      unfold b_X11_mayBook_15 b_X12_mayBook_20 j_X11_mayBook_61 j_X11_mayBook_62
      simp only [b1, b3, if_neg lt, if_pos ik, if_pos ih, nI_clamp (show k < 2 ^ 31 by omega), nI_clamp (show h < 2 ^ 31 by omega), if_pos hk, a1, a2, d1, d2, nI_1, c3, c4, if_neg n10, if_true]
      by_cases e1 : x.1 100 k = x.1 100 h
      · simp only [if_pos e1]
        by_cases e2 : x.1 101 k = x.1 101 h
        · simp only [if_pos e2]
          exact Or.inl ⟨_, _, rfl, rfl, rfl, rfl⟩
        · simp only [if_neg e2]
          rcases nearX p hk hw c2 with ⟨q1, q2⟩ | ⟨q1, q2⟩
          · rcases nearM (q := nI h) (g := 0) p (fun v hv => (a5 v hv).1.1) k6 hw c2 c4 with ⟨q3, q4⟩ | ⟨q3, q4⟩
            · right
              rw [q2, q4]
              exact ⟨_, _, rfl, rfl, 0, rfl, rfl, Or.inl rfl⟩
            · exact absurd q1 q3
          · rcases nearM (q := nI h) (g := 0) p (fun v hv => (a5 v hv).1.1) k6 hw c2 c4 with ⟨q3, q4⟩ | ⟨q3, q4⟩
            · exact absurd q3 q1
            · left
              rw [q2, q4]
              exact ⟨_, _, rfl, rfl, rfl, rfl⟩
      · simp only [if_neg e1]
        exact Or.inl ⟨_, _, rfl, rfl, rfl, rfl⟩
    · rintro v v' ⟨rfl, rfl⟩
      unfold b_X11_mayBook_15 b_X12_mayBook_20
      simp only [b1, b3, if_pos (Int32.le_refl _)]
      exact ⟨_, _, rfl, rfl, 1, rfl, rfl, Or.inr ⟨rfl, hz⟩⟩
  · simp only [if_neg hz]
    exact ⟨0, rfl, rfl, Or.inl rfl⟩
