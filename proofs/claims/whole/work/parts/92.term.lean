/-! terms are read -/
def tX (x : VM) (op : Int32) (cl : Nat → Int32) : VM := setA (setI x 1001 0 op) 1000 0 cl
theorem tX_op {x : VM} {op : Int32} {cl : Nat → Int32} : (tX x op cl).1 1001 0 = op := show (setI x 1001 0 op).1 1001 0 = op from sI_s
theorem tX_cl {x : VM} {op : Int32} {cl : Nat → Int32} : (tX x op cl).2.1 1000 0 = cl := sA_s
theorem tX_A {x : VM} {op : Int32} {cl cl' : Nat → Int32} : setA (tX x op cl) 1000 0 cl' = tX x op cl' := setAA _ _ _ _ _
theorem tX_I {x : VM} {op op' : Int32} {cl : Nat → Int32} : setI (tX x op cl) 1001 0 op' = tX x op' cl := by
  refine Prod.ext ?_ rfl
  funext F a
  show (if F = 1001 ∧ a = 0 then op' else if F = 1001 ∧ a = 0 then op else x.1 F a) = if F = 1001 ∧ a = 0 then op' else x.1 F a
  split <;> rfl
/-- the letter of a slot -/
def ltS (t : Nat) : Nat := if t = 0 then 5 else t - 1
theorem ltS_lt {t : Nat} (h : t < 6) : ltS t < 6 := by unfold ltS; split <;> omega
theorem ltS_inj {t u : Nat} (h1 : t < 6) (h2 : u < 6) (h : ltS t = ltS u) : t = u := by
  unfold ltS at h
  split at h <;> split at h <;> omega
theorem ltS_sur {l : Nat} (h : l < 6) : ∃ t, t < 6 ∧ ltS t = l := by
  rcases (show l = 5 ∨ l < 5 by omega) with e | e
  · exact ⟨0, by omega, e.symm⟩
  · exact ⟨l + 1, by omega, by unfold ltS; rw [if_neg (by omega)]; omega⟩
theorem sv1_inj : ∀ a, a < 6 → ∀ b, b < 6 → sv1 a = sv1 b → a = b := by decide
theorem slotM (m : VM) (g : Int32) : (∃ t, t < 6 ∧ sv1 (ltS t) = g ∧ f_X12_slot m g = some (nI t)) ∨ ((∀ l, l < 6 → ¬ sv1 l = g) ∧ f_X12_slot m g = some (-1)) := by
  unfold f_X12_slot
  by_cases h0 : g = 121
  · rw [if_pos h0]; exact Or.inl ⟨0, by decide, h0.symm, rfl⟩
  · rw [if_neg h0]
    by_cases h1 : g = 119
    · rw [if_pos h1]; exact Or.inl ⟨1, by decide, h1.symm, rfl⟩
    · rw [if_neg h1]
      by_cases h2 : g = 115
      · rw [if_pos h2]; exact Or.inl ⟨2, by decide, h2.symm, rfl⟩
      · rw [if_neg h2]
        by_cases h3 : g = 114
        · rw [if_pos h3]; exact Or.inl ⟨3, by decide, h3.symm, rfl⟩
        · rw [if_neg h3]
          by_cases h4 : g = 112
          · rw [if_pos h4]; exact Or.inl ⟨4, by decide, h4.symm, rfl⟩
          · rw [if_neg h4]
            by_cases h5 : g = 108
            · rw [if_pos h5]; exact Or.inl ⟨5, by decide, h5.symm, rfl⟩
            · rw [if_neg h5]
              refine Or.inr ⟨fun l hl => ?_, rfl⟩
              rcases (show l = 0 ∨ l = 1 ∨ l = 2 ∨ l = 3 ∨ l = 4 ∨ l = 5 by omega) with rfl | rfl | rfl | rfl | rfl | rfl
              · exact fun z => h1 z.symm
              · exact fun z => h2 z.symm
              · exact fun z => h3 z.symm
              · exact fun z => h4 z.symm
              · exact fun z => h5 z.symm
              · exact fun z => h0 z.symm
theorem topM (m : VM) : ∀ t, t < 6 → f_X12_top m (nI t) = some (sv3 (ltS t)) := by
  intro t ht
  rcases (show t = 0 ∨ t = 1 ∨ t = 2 ∨ t = 3 ∨ t = 4 ∨ t = 5 by omega) with rfl | rfl | rfl | rfl | rfl | rfl <;> rfl
section
variable {x : VM} {cl : Nat → Int32}
theorem openL (Y : VM) (g : Int32) (hY : Y.2.1 1000 0 = cl) (B : Int32 → Int32 ⊕ Option (Int32 × VM)) (hB : B = b_X10_openClause_19 Y g ∨ B = b_X10_openClause_19_11 Y g) : (∃ l, l < 6 ∧ sv1 l = g ∧ cl l = -1 ∧ loopF none B 0 = some (1, setI Y 1001 0 (nI l))) ∨ ((∀ l, l < 6 → ¬ (sv1 l = g ∧ cl l = -1)) ∧ loopF none B 0 = some (0, Y)) := by
  refine lp_cnt (V := Int32) (d := none) 6 (fun k v => v = nI k ∧ ∀ l, l < k → ¬ (sv1 l = g ∧ cl l = -1)) (fun o => (∃ l, l < 6 ∧ sv1 l = g ∧ cl l = -1 ∧ o = some (1, setI Y 1001 0 (nI l))) ∨ ((∀ l, l < 6 → ¬ (sv1 l = g ∧ cl l = -1)) ∧ o = some (0, Y))) ?_ ?_ 0 0 (by omega) ⟨rfl, fun l hl => by omega⟩
  · rintro k v hk ⟨rfl, hv⟩
    have eB : B (nI k) = if sv1 k = g then (if cl k = -1 then Sum.inr (some (1, setI Y 1001 0 (nI k))) else Sum.inl (nI (k + 1))) else Sum.inl (nI (k + 1)) := by
      rcases hB with rfl | rfl
      · unfold b_X10_openClause_19
        simp (disch := omega) only [Int32.le_iff_toInt_le, t_6, tI, if_neg, inb_T, if_pos, nI_clamp, hY, nI_1]
      · unfold b_X10_openClause_19_11
        simp (disch := omega) only [Int32.le_iff_toInt_le, t_6, tI, if_neg, inb_T, if_pos, nI_clamp, hY, nI_1]
    rw [eB]
    by_cases h1 : sv1 k = g
    · rw [if_pos h1]
      by_cases h2 : cl k = -1
      · rw [if_pos h2]
        exact Or.inr ⟨_, rfl, Or.inl ⟨k, hk, h1, h2, rfl⟩⟩
      · rw [if_neg h2]
        refine Or.inl ⟨_, rfl, rfl, fun l hl => ?_⟩
        by_cases e : l = k
        · subst e; exact fun z => h2 z.2
        · exact hv l (by omega)
    · rw [if_neg h1]
      refine Or.inl ⟨_, rfl, rfl, fun l hl => ?_⟩
      by_cases e : l = k
      · subst e; exact fun z => h1 z.1
      · exact hv l (by omega)
  · rintro v ⟨rfl, hv⟩
    refine ⟨_, ?_, Or.inr ⟨hv, rfl⟩⟩
    rcases hB with rfl | rfl
    · rfl
    · rfl
theorem openC (g op : Int32) (hop : op = -1 ∨ ∃ L, L < 6 ∧ op = nI L ∧ ¬ cl L = -1) : (∃ l, l < 6 ∧ sv1 l = g ∧ cl l = -1 ∧ f_X10_openClause (tX x op cl) g = some (1, tX x (nI l) cl)) ∨ ((∀ l, l < 6 → ¬ (sv1 l = g ∧ cl l = -1)) ∧ f_X10_openClause (tX x op cl) g = some (0, tX x op cl)) := by
  unfold f_X10_openClause
  rw [tX_op]
  rcases hop with rfl | ⟨L, L1, rfl, L2⟩
  · rw [if_pos rfl]
    rcases openL (tX x (-1) cl) g tX_cl _ (Or.inl rfl) with ⟨l, l1, l2, l3, l4⟩ | ⟨l1, l2⟩
    · exact Or.inl ⟨l, l1, l2, l3, by rw [l4, tX_I]⟩
    · exact Or.inr ⟨l1, l2⟩
  · have ne : ¬ nI L = -1 := by rw [i32eq, tI (by omega), t_m1]; omega
    rw [if_neg ne]
    have hn : f_X10_hasNumber (tX x (nI L) cl) = some 1 := by
      unfold f_X10_hasNumber
      rw [tX_op, tX_cl, if_neg ne, if_pos (by rw [inb_T, tI (by omega)]; omega), nI_clamp (by omega), if_neg L2]
    rw [hn]
    simp only [Option.elim_some]
    rw [if_neg n10]
    rcases openL (tX x (nI L) cl) g tX_cl _ (Or.inr rfl) with ⟨l, l1, l2, l3, l4⟩ | ⟨l1, l2⟩
    · exact Or.inl ⟨l, l1, l2, l3, by rw [l4, tX_I]⟩
    · exact Or.inr ⟨l1, l2⟩
/-- no clause may be opened where the last has no number -/
theorem openN (g : Int32) {L : Nat} (hL : L < 6) (h : cl L = -1) : f_X10_openClause (tX x (nI L) cl) g = some (0, tX x (nI L) cl) := by
  have ne : ¬ nI L = -1 := by rw [i32eq, tI (by omega), t_m1]; omega
  unfold f_X10_openClause f_X10_hasNumber
  rw [tX_op, tX_cl, if_neg ne, if_neg ne, if_pos (by rw [inb_T, tI (by omega)]; omega), nI_clamp (by omega), if_pos h]
  rfl
def numC (v : Int32) (c : Nat) : Int32 := if v = -1 then nI c else v * 10 + nI c
def accC (v : Int32) (c L : Nat) : Prop := ¬ v = 0 ∧ ¬ numC v c < sv2 L ∧ numC v c ≤ sv3 L
theorem addD {c L : Nat} (hL : L < 6) : (accC (cl L) c L ∧ f_X10_addDigit (tX x (nI L) cl) (nI c) = some (1, tX x (nI L) (upd cl L (numC (cl L) c)))) ∨ (¬ accC (cl L) c L ∧ f_X10_addDigit (tX x (nI L) cl) (nI c) = some (0, tX x (nI L) cl)) := by
  have ne : ¬ nI L = -1 := by rw [i32eq, tI (by omega), t_m1]; omega
  have ein : inb (nI L) 6 = true := by rw [inb_T, tI (by omega)]; omega
  have e : f_X10_addDigit (tX x (nI L) cl) (nI c) = j_X10_addDigit_35 (tX x (nI L) cl) (nI c) (numC (cl L) c) := by
    unfold f_X10_addDigit numC
    rw [tX_op, tX_cl, if_neg ne, if_pos ein, nI_clamp (by omega)]
    split <;> rfl
  rw [e]
  unfold j_X10_addDigit_35 accC
  rw [tX_op, tX_cl, nI_clamp (by omega)]
  simp only [if_pos ein, tX_A]
  by_cases h0 : cl L = 0
  · rw [if_pos h0]; exact Or.inr ⟨fun z => z.1 h0, rfl⟩
  · rw [if_neg h0]
    by_cases h1 : numC (cl L) c < sv2 L
    · rw [if_pos h1]; exact Or.inr ⟨fun z => z.2.1 h1, rfl⟩
    · rw [if_neg h1]
      by_cases h2 : numC (cl L) c ≤ sv3 L
      · rw [if_pos h2]; exact Or.inl ⟨⟨h0, h1, h2⟩, rfl⟩
      · rw [if_neg h2]; exact Or.inr ⟨fun z => h2 z.2.2, rfl⟩
theorem addN (c : Int32) : f_X10_addDigit (tX x (-1) cl) c = some (0, tX x (-1) cl) := by
  unfold f_X10_addDigit
  rw [tX_op, if_pos rfl]
end
