/-! orders: read, and their cost -/
/-- how many bits below n -/
def pcB (t : Nat) : Nat → Nat
  | 0 => 0
  | n + 1 => pcB t n + if t.testBit n = true then 1 else 0
theorem pcB_le (t : Nat) : ∀ n, pcB t n ≤ n
  | 0 => Nat.le_refl _
  | n + 1 => by
    have := pcB_le t n
    unfold pcB
    split <;> omega
theorem pcB_full {t : Nat} : ∀ n, pcB t n = n → ∀ s, s < n → t.testBit s = true
  | 0, _, s, hs => by omega
  | n + 1, h, s, hs => by
    unfold pcB at h
    have := pcB_le t n
    by_cases e : t.testBit n = true
    · rw [if_pos e] at h
      by_cases e2 : s = n
      · subst e2; exact e
      · exact pcB_full n (by omega) s (by omega)
    · rw [if_neg e] at h; omega
theorem pcB_or {t s : Nat} (hb : t.testBit s = false) : ∀ n, pcB (t ||| 2 ^ s) n = pcB t n + if s < n then 1 else 0
  | 0 => by
    show 0 = 0 + if s < 0 then 1 else 0
    rw [if_neg (by omega)]
  | n + 1 => by
    unfold pcB
    rw [pcB_or hb n, tb_or2]
    by_cases e : s = n
    · subst e
      rw [hb, if_neg (Nat.lt_irrefl _), if_pos (by simp), if_neg (by simp), if_pos (by omega)]
    · by_cases e2 : t.testBit n = true
      · rw [e2]
        by_cases e3 : s < n
        · simp [e3]; omega
        · simp [e3]; omega
      · have e2' : t.testBit n = false := by revert e2; cases t.testBit n <;> simp
        rw [e2']
        by_cases e3 : s < n
        · simp [e, e3]; omega
        · simp [e, e3]; omega
/-- all numbers below n, each once -/
def isOrd (n : Nat) (tl : Nat → Nat) : Prop := (∀ j, j < n → tl j < n) ∧ (∀ i j, i < n → j < n → tl i = tl j → i = j) ∧ ∀ s, s < n → ∃ j, j < n ∧ tl j = s
theorem l_read {x m : VM} (hI : Inv x m) {i s : Nat} (i1 : i < x.2.2.2 5) (i2 : i < 8) (hs : s < 8) (hr : isRow x m s) : (∃ h h', f_X3_readOrder x i s = some (0, setA x 303 0 h) ∧ f_X12_isOrder m (nI i) (nI s) = some (0, setA m 1271 0 h')) ∨ (∃ h h' tl, f_X3_readOrder x i s = some (1, setA x 303 0 h) ∧ f_X12_isOrder m (nI i) (nI s) = some (1, setA m 1271 0 h') ∧ isOrd (x.2.2.2 (20 + i)) tl ∧ ∀ j, j < x.2.2.2 (20 + i) → h j = nI (tl j) ∧ h' j = nI (tl j)) := by
  obtain ⟨n1, n2, n3⟩ := n_sce hI i1
  obtain ⟨r1, r2, r3, r4, r5, r6⟩ := hr
  obtain ⟨z, z1, z2, z3⟩ := rng_nI (a := 0) (b := 60) r5 (by decide)
  have is : inb (nI s) 8 = true := inb8 hs
  have ii : inb (nI i) 8 = true := inb8 i2
  have r4' : m.2.1 1213 0 s = nI z := by rw [r4, z3]
  unfold f_X3_readOrder f_X12_isOrder
  simp only [if_pos hs, if_pos i1, if_pos is, if_pos ii, nI_clamp (show s < 2 ^ 31 by omega), nI_clamp (show i < 2 ^ 31 by omega), n1, n2, z3, r4']
  by_cases ez : z = x.2.2.2 (20 + i)
  · rw [ez]
    simp only [if_true]
    refine lp_cnt2 (V := Int32 × Int32 × VM) (W := Int32 × Int32 × VM) (d := none) (e := none) (x.2.2.2 (20 + i)) (fun k v w => ∃ u h h' tl, v = (nI u, nI k, setA x 303 0 h) ∧ w = (nI u, nI k, setA m 1271 0 h') ∧ u < 256 ∧ pcB u (x.2.2.2 (20 + i)) = k ∧ (∀ j, j < k → tl j < x.2.2.2 (20 + i) ∧ h j = nI (tl j) ∧ h' j = nI (tl j) ∧ u.testBit (tl j) = true) ∧ (∀ a b, a < k → b < k → tl a = tl b → a = b) ∧ ∀ t, u.testBit t = true → ∃ j, j < k ∧ tl j = t) (fun o o' => (∃ h h', o = some (0, setA x 303 0 h) ∧ o' = some (0, setA m 1271 0 h')) ∨ (∃ h h' tl, o = some (1, setA x 303 0 h) ∧ o' = some (1, setA m 1271 0 h') ∧ isOrd (x.2.2.2 (20 + i)) tl ∧ ∀ j, j < x.2.2.2 (20 + i) → h j = nI (tl j) ∧ h' j = nI (tl j))) ?_ ?_ 0 (0, 0, x) (0, 0, m) (Nat.zero_le _) ⟨0, x.2.1 303 0, m.2.1 1271 0, fun _ => 0, by rw [setA_id]; rfl, by rw [setA_id]; rfl, by decide, ?_, fun j hj => by omega, fun a b ha => by omega, fun t ht => by rw [Nat.zero_testBit] at ht; cases ht⟩
    · rintro k v w hk ⟨u, h, h', tl, rfl, rfl, u1, u2, u3, u4, u5⟩
      have lt : ¬ nI (x.2.2.2 (20 + i)) ≤ nI k := by rw [Int32.le_iff_toInt_le, tI (by omega), tI (by omega)]; omega
      have i1' : i < (setA x 303 0 h).2.2.2 5 := i1
      have hm : (setA m 1271 0 h').2.1 1235 0 i = nI (x.2.2.2 (20 + i)) := n2
      have hm2 : (setA m 1271 0 h').2.1 1213 0 s = nI (x.2.2.2 (20 + i)) := by rw [← ez]; exact r4'
      have hx : (setA x 303 0 h).1 502 i = nI (x.2.2.2 (20 + i)) := n1
      have hc : m.2.2.1 1215 0 (60 * s + k) = x.2.2.1 900 s k := r6 k (by omega)
      have ik : inb (nI k) 8 = true := inb8 (by omega)
      have ik60 : inb (nI k) 60 = true := by rw [inb_T, tI (by omega)]; omega
      have ik480 : inb (nI (60 * s + k)) 480 = true := by rw [inb_T, tI (by omega)]; omega
      unfold b_X3_readOrder_18 b_X12_isOrder_22
      simp only [rA3, if_pos i1, if_pos is, if_pos ii, nI_clamp (show s < 2 ^ 31 by omega), nI_clamp (show i < 2 ^ 31 by omega), hx, hm, hm2, if_neg lt, if_pos hs, if_pos ik60, nI_clamp (show k < 2 ^ 31 by omega), lm_60, nI_add, if_pos ik480, nI_clamp (show 60 * s + k < 2 ^ 31 by omega), hc, nI_1, if_pos ik, sA_s, setAA]
      rcases ix (x.2.2.1 900 s k).toInt32 (x.2.2.2 (20 + i)) (by omega) with q | q | ⟨t, q, eq⟩
      · right
        have q1 : (x.2.2.1 900 s k).toInt32 < 0 := by rw [Int32.lt_iff_toInt_lt]; exact q
        simp only [if_pos q1]
        exact ⟨_, _, rfl, rfl, Or.inl ⟨h, h', rfl, rfl⟩⟩
      · right
        have q1 : ¬ (x.2.2.1 900 s k).toInt32 < 0 := by rw [Int32.lt_iff_toInt_lt, t_0]; omega
        have q2 : nI (x.2.2.2 (20 + i)) ≤ (x.2.2.1 900 s k).toInt32 := by rw [Int32.le_iff_toInt_le, tI (by omega)]; exact q
        simp only [if_neg q1, if_pos q2]
        exact ⟨_, _, rfl, rfl, Or.inl ⟨h, h', rfl, rfl⟩⟩
      · rw [eq]
        have q1 : ¬ nI t < 0 := nI_npos (by omega)
        have q2 : ¬ nI (x.2.2.2 (20 + i)) ≤ nI t := by rw [Int32.le_iff_toInt_le, tI (by omega), tI (by omega)]; omega
        simp only [if_neg q1, if_neg q2, bt_1 (show u < 2147483648 by omega) (show t < 32 by omega), shl1 t (by omega), nI_or]
        by_cases hb : u.testBit t = true
        · right
          simp only [if_pos hb]
          exact ⟨_, _, rfl, rfl, Or.inl ⟨h, h', rfl, rfl⟩⟩
        · left
          have hb0 : u.testBit t = false := by revert hb; cases u.testBit t <;> simp
          simp only [if_neg hb]
          refine ⟨_, _, rfl, rfl, u ||| 2 ^ t, upd h k (nI t), upd h' k (nI t), fun j => if j = k then t else tl j, rfl, rfl, Nat.or_lt_two_pow (n := 8) u1 (Nat.pow_lt_pow_right (by decide) (by omega)), ?_, ?_, ?_, ?_⟩
          · rw [pcB_or hb0, u2, if_pos q]
          · intro j hj
            by_cases e : j = k
            · subst e
              simp only [if_true]
              exact ⟨q, pk_us, pk_us, by rw [tb_or2]; simp⟩
            · simp only [if_neg e]
              obtain ⟨a1, a2, a3, a4⟩ := u3 j (by omega)
              exact ⟨a1, (u_n e).trans a2, (u_n e).trans a3, by rw [tb_or2, a4]; rfl⟩
          · intro a b ha hb' hab
            by_cases ea : a = k
            · by_cases eb : b = k
              · omega
              · simp only [if_pos ea, if_neg eb] at hab
                exact absurd (by rw [hab]; exact (u3 b (by omega)).2.2.2) hb
            · by_cases eb : b = k
              · simp only [if_neg ea, if_pos eb] at hab
                exact absurd (by rw [← hab]; exact (u3 a (by omega)).2.2.2) hb
              · simp only [if_neg ea, if_neg eb] at hab
                exact u4 a b (by omega) (by omega) hab
          · intro t' ht'
            rw [tb_or2, Bool.or_eq_true, decide_eq_true_iff] at ht'
            by_cases e : t = t'
            · exact ⟨k, by omega, by simp only [if_true]; exact e⟩
            · obtain ⟨j, j1, j2⟩ := u5 t' (ht'.resolve_right e)
              refine ⟨j, by omega, ?_⟩
              show (if j = k then t else tl j) = t'
              rw [if_neg (by omega)]
              exact j2
    · rintro v w ⟨u, h, h', tl, rfl, rfl, u1, u2, u3, u4, u5⟩
      have i1' : i < (setA x 303 0 h).2.2.2 5 := i1
      have hm2 : (setA m 1271 0 h').2.1 1213 0 s = nI (x.2.2.2 (20 + i)) := by rw [← ez]; exact r4'
      have hx : (setA x 303 0 h).1 502 i = nI (x.2.2.2 (20 + i)) := n1
      unfold b_X3_readOrder_18 b_X12_isOrder_22
      simp only [if_pos i1', if_pos is, nI_clamp (show s < 2 ^ 31 by omega), hx, hm2, if_pos (Int32.le_refl _)]
      refine ⟨_, _, rfl, rfl, Or.inr ⟨h, h', tl, rfl, rfl, ⟨fun j hj => (u3 j hj).1, u4, fun t ht => u5 t (pcB_full _ u2 t ht)⟩, fun j hj => ⟨(u3 j hj).2.1, (u3 j hj).2.2.1⟩⟩⟩
    · have : ∀ n, pcB 0 n = 0 := by
        intro n
        induction n with
        | zero => rfl
        | succ n ih => unfold pcB; rw [ih, Nat.zero_testBit]; rfl
      exact this _
  · have ne : ¬ nI z = nI (x.2.2.2 (20 + i)) := by rw [nI_eq (by omega) (by omega)]; exact ez
    simp only [if_neg ne]
    exact Or.inl ⟨x.2.1 303 0, m.2.1 1271 0, by rw [setA_id], by rw [setA_id]⟩
