section
variable {m : VM} {p s n z : Nat} {a b : Nat → Int64} {h : Int32}
theorem keepM (p8 : p < 8) (s8 : s < 8) (hn : m.2.1 1248 0 p = nI n) (n60 : n ≤ 60) (hz : m.2.1 1213 0 s = nI z) (z60 : z ≤ 60) (ha : ∀ i, i < n → m.2.2.1 1250 0 (60 * p + i) = a i) (hb : ∀ j, j < z → m.2.2.1 1215 0 (60 * s + j) = b j) (Q : Option (Int32 × VM) → Prop) (hQ : ∀ T, (∀ i j, i ≤ n → j ≤ z → T (61 * i + j) = nI (Lr a b n z i j)) → ∃ o, loopF (Sum.inr none) (b_X12_draft_282 m (nI p) h (nI s) (-1, setA m 1276 0 T)) (0, setA m 1276 0 T) = Sum.inr o ∧ Q o) : Q (loopF none (b_X12_draft_80 m (nI p) h (nI s)) (nI n, m)) := by
  refine lp_down (V := Int32 × VM) (d := none) (fun t v => t ≤ n + 1 ∧ ∃ T, v = (nI t + (-1), setA m 1276 0 T) ∧ ∀ i j, t ≤ i → i ≤ n → j ≤ z → T (61 * i + j) = nI (Lr a b n z i j)) Q ?_ ?_ (n + 1) (nI n, m) ⟨Nat.le_refl _, m.2.1 1276 0, by rw [setA_id, pk_m1], fun i j h1 h2 => by omega⟩
  · rintro i v ⟨hi, T, rfl, hT⟩
    left
    rw [pk_m1]
    have inner : ∃ T', loopF (Sum.inr none) (b_X12_draft_89 m (nI p) h (nI s) (nI i, setA m 1276 0 T)) (nI z, setA m 1276 0 T) = Sum.inl (nI i + (-1), setA m 1276 0 T') ∧ ∀ i' j, i ≤ i' → i' ≤ n → j ≤ z → T' (61 * i' + j) = nI (Lr a b n z i' j) := by
      refine lp_down (V := Int32 × VM) (d := Sum.inr none) (fun t v => t ≤ z + 1 ∧ ∃ T, v = (nI t + (-1), setA m 1276 0 T) ∧ (∀ i' j, i + 1 ≤ i' → i' ≤ n → j ≤ z → T (61 * i' + j) = nI (Lr a b n z i' j)) ∧ ∀ j, t ≤ j → j ≤ z → T (61 * i + j) = nI (Lr a b n z i j)) (fun o => ∃ T', o = Sum.inl (nI i + (-1), setA m 1276 0 T') ∧ ∀ i' j, i ≤ i' → i' ≤ n → j ≤ z → T' (61 * i' + j) = nI (Lr a b n z i' j)) ?_ ?_ (z + 1) _ ⟨Nat.le_refl _, T, by rw [pk_m1], hT, fun j h1 h2 => by omega⟩
      · rintro j v ⟨hj, T, rfl, hT, hR⟩
        left
        rw [pk_m1]
        have wr : ∀ val, val = nI (Lr a b n z i j) → ∃ v', j_X12_draft_252 m (nI p) h (nI s) (nI i, setA m 1276 0 T) (nI j, setA m 1276 0 T) val = Sum.inl v' ∧ j ≤ z + 1 ∧ ∃ T, v' = (nI j + (-1), setA m 1276 0 T) ∧ (∀ i' j, i + 1 ≤ i' → i' ≤ n → j ≤ z → T (61 * i' + j) = nI (Lr a b n z i' j)) ∧ ∀ j', j ≤ j' → j' ≤ z → T (61 * i + j') = nI (Lr a b n z i j') := by
          intro val hv
          unfold j_X12_draft_252
          rw [lm_61, nI_add, if_pos (by rw [inb_T, tI (by omega)]; omega), nI_clamp (by omega), sA_s, setAA]
          refine ⟨_, rfl, by omega, _, rfl, fun i' j' h1 h2 h3 => ?_, fun j' h1 h2 => ?_⟩
          · rw [u_n (by omega)]; exact hT i' j' h1 h2 h3
          · by_cases e : j' = j
            · subst e; rw [pk_us]; exact hv
            · rw [u_n (by omega)]; exact hR j' (by omega) h2
        unfold b_X12_draft_89
        rw [if_neg (nI_npos (by omega)), nI_clamp (by omega), nI_clamp (by omega), hn, hz]
        by_cases c1 : i = n
        · rw [if_pos (by rw [c1]; exact Int32.le_refl _)]
          exact wr 0 (by rw [c1, Lr_n]; rfl)
        · rw [if_neg (by rw [Int32.le_iff_toInt_le, tI (by omega), tI (by omega)]; omega)]
          by_cases c2 : j = z
          · rw [if_pos (by rw [c2]; exact Int32.le_refl _)]
            exact wr 0 (by rw [c2, Lr_z]; rfl)
          · rw [if_neg (by rw [Int32.le_iff_toInt_le, tI (by omega), tI (by omega)]; omega)]
            have hin : i < n := by omega
            have hjz : j < z := by omega
            have e1 : 61 * (nI i + 1) + nI j + 1 = nI (61 * (i + 1) + (j + 1)) := by rw [nI_1, lm_61, nI_add, nI_1, Nat.add_assoc]
            have e2 : 61 * (nI i + 1) + nI j = nI (61 * (i + 1) + j) := by rw [nI_1, lm_61, nI_add]
            have e3 : 61 * nI i + nI j + 1 = nI (61 * i + (j + 1)) := by rw [lm_61, nI_add, nI_1, Nat.add_assoc]
            have l1 := Lr_le (a := a) (b := b) (n := n) (z := z) (i := i + 1) (j := j + 1)
            have l2 := Lr_le (a := a) (b := b) (n := n) (z := z) (i := i + 1) (j := j)
            have l3 := Lr_le (a := a) (b := b) (n := n) (z := z) (i := i) (j := j + 1)
            have lg := Lr_g (a := a) (b := b) hin hjz
            have t1 := hT (i + 1) (j + 1) (by omega) (by omega) (by omega)
            have t2 := hT (i + 1) j (by omega) (by omega) (by omega)
            have t3 := hR (j + 1) (by omega) (by omega)
            have rec1 := Lr_s (a := a) (b := b) hin hjz
            have i1 : inb (nI (61 * (i + 1) + (j + 1))) 3721 = true := by rw [inb_T, tI (by omega)]; omega
            have i2 : inb (nI (61 * (i + 1) + j)) 3721 = true := by rw [inb_T, tI (by omega)]; omega
            have i3 : inb (nI (61 * i + (j + 1))) 3721 = true := by rw [inb_T, tI (by omega)]; omega
            have w177 : ∀ mx, mx ≤ 60 → mx = max (Lr a b n z (i + 1) j) (Lr a b n z i (j + 1)) → ∃ v', j_X12_draft_177 m (nI p) h (nI s) (nI i, setA m 1276 0 T) (nI j, setA m 1276 0 T) (nI mx) = Sum.inl v' ∧ j ≤ z + 1 ∧ ∃ T, v' = (nI j + (-1), setA m 1276 0 T) ∧ (∀ i' j, i + 1 ≤ i' → i' ≤ n → j ≤ z → T (61 * i' + j) = nI (Lr a b n z i' j)) ∧ ∀ j', j ≤ j' → j' ≤ z → T (61 * i + j') = nI (Lr a b n z i j') := by
              intro mx m60 hmx
              unfold j_X12_draft_177
              rw [lm_60, lm_60, nI_add, nI_add, if_pos (by rw [inb_T, tI (by omega)]; omega), if_pos (by rw [inb_T, tI (by omega)]; omega), nI_clamp (by omega), nI_clamp (by omega), rA3, ha i hin, hb j hjz, e1]
              simp only [lg0, if_pos i1, nI_clamp (show 61 * (i + 1) + (j + 1) < 2 ^ 31 by omega), sA_s, t1, nI_1]
              by_cases c3 : a i = b j
              · rw [if_pos c3]
                by_cases c4 : Lr a b n z (i + 1) (j + 1) + 1 ≤ mx
                · rw [if_pos ((nI_leI (by omega) (by omega)).mpr c4)]
                  exact wr _ (by rw [rec1, if_pos c3, show mx = 1 + Lr a b n z (i + 1) (j + 1) by omega])
                · rw [if_neg (fun q => c4 ((nI_leI (by omega) (by omega)).mp q))]
                  exact wr _ (by rw [rec1, if_pos c3, Nat.add_comm])
              · rw [if_neg c3]
                exact wr _ (by rw [rec1, if_neg c3, hmx])
            rw [e2, e3]
            simp only [if_pos i2, if_pos i3, nI_clamp (show 61 * (i + 1) + j < 2 ^ 31 by omega), nI_clamp (show 61 * i + (j + 1) < 2 ^ 31 by omega), sA_s, t2, t3]
            by_cases c4 : Lr a b n z (i + 1) j ≤ Lr a b n z i (j + 1)
            · rw [if_pos ((nI_leI (by omega) (by omega)).mpr c4)]
              exact w177 _ (by omega) (by omega)
            · rw [if_neg (fun q => c4 ((nI_leI (by omega) (by omega)).mp q))]
              exact w177 _ (by omega) (by omega)
      · rintro v ⟨_, T, rfl, hT, hR⟩
        rw [nIm1]
        refine ⟨_, rfl, T, rfl, fun i' j h1 h2 h3 => ?_⟩
        by_cases e : i' = i
        · subst e; exact hR j (by omega) h3
        · exact hT i' j (by omega) h2 h3
    obtain ⟨T', h1, h2⟩ := inner
    refine ⟨_, ?_, by omega, T', rfl, h2⟩
    unfold b_X12_draft_80
    rw [if_neg (nI_npos (by omega)), nI_clamp (by omega), hz]
    exact h1
  · rintro v ⟨_, T, rfl, hT⟩
    rw [nIm1]
    obtain ⟨o, o1, o2⟩ := hQ T (fun i j h1 h2 => hT i j (by omega) h1 h2)
    exact ⟨o, o1, o2⟩
theorem handM {y : VM} {v17 : Int32 × VM} (hz : m.2.1 1213 0 s = nI z) (s8 : s < 8) (z60 : z ≤ 60) (Q : (Int32 × VM) ⊕ Option (Int32 × VM) → Prop) (hQ : ∀ H, (∀ j, j < z → H j = h) → ∃ o, loopF (Sum.inr (Sum.inr none)) (b_X12_draft_312 m (nI p) h (nI s) v17 (nI z, setA y 1277 0 H)) (0, 0, 0, setA y 1277 0 H) = Sum.inr o ∧ Q o) : Q (loopF (Sum.inr none) (b_X12_draft_282 m (nI p) h (nI s) v17) (0, y)) := by
  refine lp_cnt (V := Int32 × VM) (d := Sum.inr none) z (fun k v => ∃ H, v = (nI k, setA y 1277 0 H) ∧ ∀ j, j < k → H j = h) Q ?_ ?_ 0 _ (Nat.zero_le _) ⟨y.2.1 1277 0, by rw [setA_id]; rfl, fun j hj => by omega⟩
  · rintro k v hk ⟨H, rfl, hH⟩
    left
    unfold b_X12_draft_282
    rw [nI_clamp (by omega), hz, if_neg (by rw [Int32.le_iff_toInt_le, tI (by omega), tI (by omega)]; omega), if_pos (by rw [inb_T, tI (by omega)]; omega), nI_clamp (by omega), nI_1, sA_s, setAA]
    refine ⟨_, rfl, _, rfl, fun j hj => ?_⟩
    by_cases e : j = k
    · subst e; exact pk_us
    · rw [u_n e]; exact hH j (by omega)
  · rintro v ⟨H, rfl, hH⟩
    unfold b_X12_draft_282
    rw [nI_clamp (by omega), hz, if_pos (Int32.le_refl _)]
    exact hQ H hH
theorem setAJ (y : VM) (J J' : Nat → Int64) (K K' : Nat → Int32) : setA (setJ (setA (setJ y 1250 0 J) 1249 0 K) 1250 0 J') 1249 0 K' = setA (setJ y 1250 0 J') 1249 0 K' := by
  refine Prod.ext rfl (Prod.ext ?_ (Prod.ext ?_ rfl))
  · funext F a
    show (if F = 1249 ∧ a = 0 then K' else if F = 1249 ∧ a = 0 then K else y.2.1 F a) = if F = 1249 ∧ a = 0 then K' else y.2.1 F a
    split <;> rfl
  · funext F a
    show (if F = 1250 ∧ a = 0 then J' else if F = 1250 ∧ a = 0 then J else y.2.2.1 F a) = if F = 1250 ∧ a = 0 then J' else y.2.2.1 F a
    split <;> rfl
theorem setAJ_id (y : VM) : setA (setJ y 1250 0 (y.2.2.1 1250 0)) 1249 0 (y.2.1 1249 0) = y := by
  rw [setJ_id, setA_id]
/-- the new lines and hands are laid down -/
theorem layM {y : VM} {v17 v19 : Int32 × VM} {v21 : Int32 × Int32 × Int32 × VM} (p8 : p < 8) (s8 : s < 8) (hz : m.2.1 1213 0 s = nI z) (z60 : z ≤ 60) (B : (Int32 × VM) → (Int32 × VM) ⊕ ((Int32 × Int32 × Int32 × VM) ⊕ ((Int32 × VM) ⊕ ((Int32 × VM) ⊕ (Option (Int32 × VM)))))) (hB : B = b_X12_draft_467 m (nI p) h (nI s) v17 v19 v21 ∨ B = b_X12_draft_467_35 m (nI p) h (nI s) v17 v19 v21) : ∃ J K, loopF (Sum.inr (Sum.inr (Sum.inr none))) B (0, y) = Sum.inr (Sum.inr (Sum.inr (some (v21.2.2.1, setA (setA (setJ y 1250 0 J) 1249 0 K) 1247 0 (upd (y.2.1 1247 0) p (y.2.1 1247 0 p + 1)))))) ∧ (∀ j, j < z → J (60 * p + j) = y.2.2.1 1215 0 (60 * s + j) ∧ K (60 * p + j) = y.2.1 1277 0 j) ∧ ∀ q, (q < 60 * p ∨ 60 * p + 60 ≤ q) → J q = y.2.2.1 1250 0 q ∧ K q = y.2.1 1249 0 q := by
  refine lp_cnt (V := Int32 × VM) (d := Sum.inr (Sum.inr (Sum.inr none))) z (fun k v => ∃ J K, v = (nI k, setA (setJ y 1250 0 J) 1249 0 K) ∧ (∀ j, j < k → J (60 * p + j) = y.2.2.1 1215 0 (60 * s + j) ∧ K (60 * p + j) = y.2.1 1277 0 j) ∧ ∀ q, (q < 60 * p ∨ 60 * p + 60 ≤ q) → J q = y.2.2.1 1250 0 q ∧ K q = y.2.1 1249 0 q) (fun o => ∃ J K, o = Sum.inr (Sum.inr (Sum.inr (some (v21.2.2.1, setA (setA (setJ y 1250 0 J) 1249 0 K) 1247 0 (upd (y.2.1 1247 0) p (y.2.1 1247 0 p + 1)))))) ∧ (∀ j, j < z → J (60 * p + j) = y.2.2.1 1215 0 (60 * s + j) ∧ K (60 * p + j) = y.2.1 1277 0 j) ∧ ∀ q, (q < 60 * p ∨ 60 * p + 60 ≤ q) → J q = y.2.2.1 1250 0 q ∧ K q = y.2.1 1249 0 q) ?_ ?_ 0 _ (Nat.zero_le _) ⟨y.2.2.1 1250 0, y.2.1 1249 0, by rw [setAJ_id]; rfl, fun j hj => by omega, fun q _ => ⟨rfl, rfl⟩⟩
  · rintro k v hk ⟨J, K, rfl, h1, h2⟩
    left
    have eB : B (nI k, setA (setJ y 1250 0 J) 1249 0 K) = Sum.inl (nI (k + 1), setA (setJ y 1250 0 (vp_updL J (60 * p + k) (y.2.2.1 1215 0 (60 * s + k)))) 1249 0 (upd K (60 * p + k) (y.2.1 1277 0 k))) := by
      rcases hB with rfl | rfl
      · unfold b_X12_draft_467
        simp (disch := omega) only [nI_clamp, hz, Int32.le_iff_toInt_le, tI, if_neg, inb_T, if_pos, lm_60, nI_add, nI_1, rA3, rJn, rJs, rJ2, rAs, rAn]
        rw [setAJ]
      · unfold b_X12_draft_467_35
        simp (disch := omega) only [nI_clamp, hz, Int32.le_iff_toInt_le, tI, if_neg, inb_T, if_pos, lm_60, nI_add, nI_1, rA3, rJn, rJs, rJ2, rAs, rAn]
        rw [setAJ]
    refine ⟨_, eB, _, _, rfl, fun j hj => ?_, fun q hq => ?_⟩
    · by_cases e : j = k
      · subst e; exact ⟨pk_uLs, pk_us⟩
      · rw [pk_uLn (by omega), u_n (by omega)]; exact h1 j (by omega)
    · rw [pk_uLn (by omega), u_n (by omega)]; exact h2 q hq
  · rintro v ⟨J, K, rfl, h1, h2⟩
    have eB : B (nI z, setA (setJ y 1250 0 J) 1249 0 K) = Sum.inr (Sum.inr (Sum.inr (Sum.inr (some (v21.2.2.1, setA (setA (setJ y 1250 0 J) 1249 0 K) 1247 0 (upd (y.2.1 1247 0) p (y.2.1 1247 0 p + 1))))))) := by
      rcases hB with rfl | rfl
      · unfold b_X12_draft_467
        simp (disch := omega) only [nI_clamp, hz, if_pos (Int32.le_refl _), inb_T, tI, if_pos, rAn, rJ2]
      · unfold b_X12_draft_467_35
        simp (disch := omega) only [nI_clamp, hz, if_pos (Int32.le_refl _), inb_T, tI, if_pos, rAn, rJ2]
    exact ⟨_, eB, J, K, rfl, h1, h2⟩
end
