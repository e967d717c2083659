section
variable {T : Nat → Nat} {L W : Nat → Nat → Nat} {C : Nat → Nat → Int32} {l n p : Nat} {x : VM}
theorem rDat.up (h : rDat T L W C l n p x) (a b : Int32) (mf : Nat → Int32) : rDat T L W C l n p (setA (setI (setI x 702 0 a) 703 0 b) 701 0 mf) := ⟨h.hn, h.hl, h.hp, h.hc, h.h502, h.hT, h.h805, h.h806, h.h807, h.h808, h.hL, h.hW⟩
theorem r_find (hD : rDat T L W C l n p x) (p8 : p < 8) (tr : Nat → Int32) : ∃ r mf y, f_X7_findBest x p (nI l) = some (r, y) ∧ rOkC n p (setA (setI (setI x 702 0 (nI l)) 703 0 (-1)) 701 0 mf) y 0 tr (rDfs T L W C l n 0 (-1) 0 0 tr (-1, x.2.1 513 p)) ∧ r = (y.1 703 0 + 1000 - 1) / 1000 := by
  have n8 := hD.hn
  unfold f_X7_findBest
  rw [if_pos hD.hp]
  have e5 : (setI (setI x 702 0 (nI l)) 703 0 (-1)).1 502 p = nI n := hD.h502
  have e6 : ∀ mf, (setA (setI (setI x 702 0 (nI l)) 703 0 (-1)) 701 0 mf).1 502 p = nI n := fun mf => hD.h502
  rw [e6, e5, if_pos (by rw [inb_T, tI (by omega)]; omega), nI_clamp (by omega)]
  refine lp_down (V := Int32 × VM) (d := none) (fun j v => ∃ a mf, v = (a, setA (setI (setI x 702 0 (nI l)) 703 0 (-1)) 701 0 mf) ∧ j ≤ n ∧ a.toInt = (j : Int) - 1 ∧ mf n = 0 ∧ (∀ i, j ≤ i → i ≤ n → 0 ≤ (mf i).toInt ∧ (mf i).toInt ≤ 99000 * ((n : Int) - i)) ∧ ∀ i, j ≤ i → i < n → (mf (i + 1)).toInt ≤ (mf i).toInt ∧ ∀ t, t < T i → 1000 * (W i t : Int) - (L i t : Int) + (mf (i + 1)).toInt ≤ (mf i).toInt) (fun o => ∃ r mf y, o = some (r, y) ∧ rOkC n p (setA (setI (setI x 702 0 (nI l)) 703 0 (-1)) 701 0 mf) y 0 tr (rDfs T L W C l n 0 (-1) 0 0 tr (-1, x.2.1 513 p)) ∧ r = (y.1 703 0 + 1000 - 1) / 1000) ?_ ?_ n _ ⟨_, _, rfl, Nat.le_refl _, ?_, pk_us, ?_, fun i h1 h2 => by omega⟩
  · rintro j v ⟨a, mf, rfl, hj, ha, h1, h2, h3⟩
    left
    have ea : a = nI j := Int32.toInt_inj.mp (by rw [ha, tI (by omega)]; omega)
    subst ea
    have hD2 := hD.up (nI l) (-1) mf
    obtain ⟨r, r1, r2, r3, r4⟩ := hD2.most (show j < n by omega)
    unfold b_X7_findBest_27
    simp only [if_neg (nI_npos (show j < 2147483648 by omega)), nI_1, nI_clamp (show j < 2 ^ 31 by omega), nI_clamp (show j + 1 < 2 ^ 31 by omega)]
    rw [if_pos (by rw [inb_T, tI (by omega)]; omega), if_pos hD2.hp, if_pos (inb8 (by omega)), if_pos (by rw [hD2.hc]; omega), r1]
    simp only [Option.elim_some]
    rw [if_pos (by rw [inb_T, tI (by omega)]; omega), setAA, rAs]
    have b1 := h2 (j + 1) (Nat.le_refl _) (by omega)
    have ne : j + 1 ≠ j := by omega
    have es : (mf (j + 1) + r).toInt = (mf (j + 1)).toInt + r.toInt := addT (by omega) (by omega)
    refine ⟨_, rfl, _, _, rfl, by omega, ?_, ?_, ?_, ?_⟩
    · rw [addT (by rw [tI (by omega), t_m1]; omega) (by rw [tI (by omega), t_m1]; omega), tI (by omega), t_m1]; omega
    · rw [u_n (by omega)]; exact h1
    · intro i q1 q2
      by_cases e : i = j
      · subst e; rw [pk_us, es]; omega
      · rw [u_n e]; exact h2 i (by omega) q2
    · intro i q1 q2
      rw [u_n (show i + 1 ≠ j by omega)]
      by_cases e : i = j
      · subst e
        rw [pk_us, es]
        exact ⟨by omega, fun t ht => by have := r4 t ht; omega⟩
      · rw [u_n e]; exact h3 i (by omega) q2
  · rintro v ⟨a, mf, rfl, hj, ha, h1, h2, h3⟩
    have hD2 := hD.up (nI l) (-1) mf
    unfold b_X7_findBest_27
    simp only []
    rw [if_pos (by rw [Int32.lt_iff_toInt_lt, ha, t_0]; omega)]
    obtain ⟨y, g1, g2⟩ := r_cls (x := setA (setI (setI x 702 0 (nI l)) 703 0 (-1)) 701 0 mf) (M := fun i => (mf i).toInt) hD2 p8 rfl (fun i hi => ⟨rfl, by have := h2 i (Nat.zero_le _) hi; omega⟩) (by rw [h1]; rfl) (fun i hi => (h3 i (Nat.zero_le _) hi).1) (fun i t hi ht => (h3 i (Nat.zero_le _) hi).2 t ht) n 0 12 (setA (setI (setI x 702 0 (nI l)) 703 0 (-1)) 701 0 mf) (-1) 0 0 0 tr (-1, x.2.1 513 p) (by omega) (by omega) (by omega) (by omega) rfl ⟨⟨fun F i q => rfl, fun F i q r => rfl, rfl, fun i hi => ⟨rfl, rfl⟩⟩, rfl, fun s hs => rfl, fun s hs => rfl, fun s hs => by omega⟩
    have g1' : f_X7_search 12 (setA (setI (setI x 702 0 (nI l)) 703 0 (-1)) 701 0 mf) p 0 (-1) 0 0 = some y := g1
    rw [g1']
    exact ⟨_, rfl, _, mf, y, rfl, g2, rfl⟩
  · rw [subT (by rw [tI (by omega), t_1]; omega) (by rw [tI (by omega), t_1]; omega), tI (by omega), t_1]
  · intro i q1 q2
    have : i = n := by omega
    subst this
    rw [pk_us, t_0]; omega
end
