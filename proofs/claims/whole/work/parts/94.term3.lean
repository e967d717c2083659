section
variable {x m : VM} {s n : Nat}
def qT (x m : VM) (o : Option (Int32 × VM)) (o' : (Int32 × VM) ⊕ Option (Int32 × VM)) : Prop := ∃ f op cl rd, o = some (f, tX x op cl) ∧ o' = Sum.inr (some (f, setA m 1270 0 rd)) ∧ (f = -1 → ∀ t, t < 6 → cl (ltS t) = rd t ∧ okV t (rd t))
theorem outerT {v1 : Int32 × VM} (s8 : s < 8) (hn : x.1 902 s = nI n) (n60 : n ≤ 60) (hz : v1.2.2.1 1213 0 s = nI n) (hc : ∀ j, j < 60 → m.2.2.1 1215 0 (60 * s + j) = x.2.2.1 900 s j) (m' : VM) : ∀ (d a k : Nat) (op : Int32) (cl rd : Nat → Int32), n - a ≤ d → a ≤ n → k ≤ a → (∀ t, t < 6 → cl (ltS t) = rd t ∧ okV t (rd t)) → ((k = 0 ∧ op = -1 ∧ a = 0) ∨ (0 < k ∧ ∃ L, L < 6 ∧ op = nI L ∧ ¬ cl L = -1 ∧ stpT x s n a L (cl L))) → qT x m (loopF none (b_X10_findFault_2 x s) (nI a, tX x op cl)) (loopF (Sum.inr none) (b_X12_reads_33 m' (nI s) v1) (nI a, nI k, setA m 1270 0 rd)) := by
  intro d
  induction d using Nat.strongRecOn with
  | ind d ih =>
    intro a k op cl rd hd ha hk hcl hst
    have zc : (nI s).toNatClampNeg = s := nI_clamp (by omega)
    have hasN : ∀ L, L < 6 → op = nI L → ¬ cl L = -1 → f_X10_hasNumber (tX x op cl) = some 1 := by
      intro L L1 L2 L3
      have ne : ¬ nI L = -1 := by rw [i32eq, tI (by omega), t_m1]; omega
      unfold f_X10_hasNumber
      rw [tX_op, tX_cl, L2, if_neg ne, if_pos (by rw [inb_T, tI (by omega)]; omega), nI_clamp (by omega), if_neg L3]
    -- where the reading stops with a fault here
    by_cases ean : a = n
    · rcases hst with ⟨k0, o1, a0⟩ | ⟨kp, L, L1, L2, L3, L4⟩
      · subst k0; subst o1
        have n0 : n = 0 := by omega
        have bx : b_X10_findFault_2 x s (nI a, tX x (-1) cl) = Sum.inr (some (nI n, tX x (-1) cl)) := by
          rw [ean, fEn s8 hn]
          unfold f_X10_hasNumber
          rw [tX_op, if_pos rfl]; rfl
        have bm : b_X12_reads_33 m' (nI s) v1 (nI a, nI 0, setA m 1270 0 rd) = Sum.inr (Sum.inr (some (nI n, setA m 1270 0 rd))) := by
          unfold b_X12_reads_33 j_X12_reads_43
          rw [zc, hz, ean, if_neg (Int32.lt_irrefl), if_pos (show nI 0 = (0 : Int32) from rfl), if_pos rfl]
        rw [lp_inr bx, lp_inr bm]
        refine ⟨_, _, _, _, rfl, rfl, fun z => ?_⟩
        rw [i32eq, tI (by omega), t_m1] at z; omega
      · have bx : b_X10_findFault_2 x s (nI a, tX x op cl) = Sum.inr (some (-1, tX x op cl)) := by
          rw [ean, fEn s8 hn, hasN L L1 L2 L3]; rfl
        have bm : b_X12_reads_33 m' (nI s) v1 (nI a, nI k, setA m 1270 0 rd) = Sum.inr (Sum.inr (some (-1, setA m 1270 0 rd))) := by
          unfold b_X12_reads_33
          rw [zc, hz, ean, if_neg (Int32.lt_irrefl), if_neg (nI_ne0 kp (by omega))]
        rw [lp_inr bx, lp_inr bm]
        exact ⟨_, _, _, _, rfl, rfl, fun _ => hcl⟩
    · have han : a < n := by omega
      have na1 : ¬ nI a = -1 := by rw [i32eq, tI (by omega), t_m1]; omega
      have ia : inb (60 * nI s + nI a) 480 = true := by rw [lm_60, nI_add, inb_T, tI (by omega)]; omega
      have ca : (60 * nI s + nI a).toNatClampNeg = 60 * s + a := by rw [lm_60, nI_add, nI_clamp (by omega)]
      have hca : (setA m 1270 0 rd).2.2.1 1215 0 (60 * s + a) = x.2.2.1 900 s a := hc a (by omega)
      have b33 : b_X12_reads_33 m' (nI s) v1 (nI a, nI k, setA m 1270 0 rd) = (f_X12_slot (setA m 1270 0 rd) (x.2.2.1 900 s a).toInt32).elim (Sum.inr (Sum.inr none)) (fun r7 => if r7 = (-1) then Sum.inr (Sum.inr (some (nI a, setA m 1270 0 rd))) else if inb r7 6 = true then if rd r7.toNatClampNeg = (-1) then loopF (Sum.inr (Sum.inr none)) (b_X12_reads_92 m' (nI s) v1 (nI a, nI k, setA m 1270 0 rd) r7) (nI (a + 1), (-1)) else Sum.inr (Sum.inr (some (nI a, setA m 1270 0 rd))) else Sum.inr (Sum.inr none)) := by
        unfold b_X12_reads_33 j_X12_reads_43
        simp only [zc, hz, if_pos (show nI a < nI n by rw [Int32.lt_iff_toInt_lt, tI (by omega), tI (by omega)]; omega), if_neg (show ¬ nI a = nI n by rw [nI_eq (by omega) (by omega)]; omega), if_pos ia, ca, hca, sA_s, nI_1]
      have fault : b_X10_findFault_2 x s (nI a, tX x op cl) = Sum.inr (some (nI a, tX x op cl)) → b_X12_reads_33 m' (nI s) v1 (nI a, nI k, setA m 1270 0 rd) = Sum.inr (Sum.inr (some (nI a, setA m 1270 0 rd))) → qT x m (loopF none (b_X10_findFault_2 x s) (nI a, tX x op cl)) (loopF (Sum.inr none) (b_X12_reads_33 m' (nI s) v1) (nI a, nI k, setA m 1270 0 rd)) := by
        intro h1 h2
        rw [lp_inr h1, lp_inr h2]
        exact ⟨_, _, _, _, rfl, rfl, fun z => absurd z na1⟩
      have hop : op = -1 ∨ ∃ L, L < 6 ∧ op = nI L ∧ ¬ cl L = -1 := by
        rcases hst with ⟨_, o1, _⟩ | ⟨_, L, L1, L2, L3, _⟩
        · exact Or.inl o1
        · exact Or.inr ⟨L, L1, L2, L3⟩
      by_cases hdg : isDg (x.2.2.1 900 s a).toInt32
      · obtain ⟨c, c1, c2, c3⟩ := dgN hdg
        apply fault
        · rw [fDg s8 hn n60 han hdg, c3]
          rcases hst with ⟨_, o1, _⟩ | ⟨_, L, L1, L2, L3, L4⟩
          · rw [o1, addN]; rfl
          · rcases addD (x := x) (cl := cl) (c := c) L1 with ⟨y1, y2⟩ | ⟨y1, y2⟩
            · exfalso
              rcases L4 with L4 | ⟨_, L4 | ⟨c', d1, d2, d3⟩⟩
              · omega
              · exact L4 hdg
              · rw [c2] at d2
                have : 48 + c = 48 + c' := (nI_eq (by omega) (by omega)).mp d2
                have : c = c' := by omega
                subst this
                exact d3 y1
            · rw [L2, y2]; rfl
        · rw [b33]
          rcases slotM (setA m 1270 0 rd) (x.2.2.1 900 s a).toInt32 with ⟨t, t1, t2, t3⟩ | ⟨t1, t2⟩
          · exfalso
            have : ∀ l, l < 6 → 57 < (sv1 l).toInt := by decide
            have := this (ltS t) (ltS_lt t1)
            rw [t2] at this
            unfold isDg at hdg
            omega
          · rw [t2]; rfl
      · rcases slotM (setA m 1270 0 rd) (x.2.2.1 900 s a).toInt32 with ⟨t, t1, t2, t3⟩ | ⟨t1, t2⟩
        · by_cases hr : rd t = -1
          · -- a clause is opened
            have lt6 := ltS_lt t1
            have hl : cl (ltS t) = -1 := by rw [(hcl t t1).1, hr]
            have bx : b_X10_findFault_2 x s (nI a, tX x op cl) = Sum.inl (nI (a + 1), tX x (nI (ltS t)) cl) := by
              rw [fOp s8 hn n60 han hdg]
              rcases openC (x := x) (x.2.2.1 900 s a).toInt32 op hop with ⟨l, l1, l2, l3, l4⟩ | ⟨l1, l2⟩
              · have : l = ltS t := sv1_inj l l1 _ lt6 (by rw [l2, t2])
                rw [l4, this]
                simp only [Option.elim_some]
                rw [if_neg n10]
              · exact absurd ⟨t2, hl⟩ (l1 _ lt6)
            have ecl : cl = upd cl (ltS t) (-1) := by
              funext j
              unfold upd
              by_cases e : j = ltS t
              · rw [if_pos e, e, hl]
              · rw [if_neg e]
            obtain ⟨a', v', r1, r2, r3, r4, r5, r6⟩ := innerT (x := x) (m := m') (n := n) (Z := setA m 1270 0 rd) (v1 := v1) (a0 := nI a) (k := nI k) (rd := rd) (cl := cl) (t := t) s8 hn n60 t1 hz hc (n - (a + 1)) (a + 1) (-1) (Nat.le_refl _) (by omega) (Or.inl rfl)
            rw [lp_inl bx, ecl, r5]
            have bm : b_X12_reads_33 m' (nI s) v1 (nI a, nI k, setA m 1270 0 rd) = if v' = -1 then Sum.inr (Sum.inr (some (nI a', setA m 1270 0 rd))) else Sum.inl (nI a', nI (k + 1), setA m 1270 0 (upd rd t v')) := by
              rw [b33, t3]
              simp only [Option.elim_some]
              rw [if_neg (show ¬ nI t = -1 by rw [i32eq, tI (by omega), t_m1]; omega), if_pos (show inb (nI t) 6 = true by rw [inb_T, tI (by omega)]; omega), nI_clamp (by omega), if_pos hr, r6, sA_s, setAA, nI_1]
            by_cases ev : v' = -1
            · rw [if_pos ev] at bm
              have na' : ¬ nI a' = -1 := by rw [i32eq, tI (by omega), t_m1]; omega
              have bx2 : b_X10_findFault_2 x s (nI a', tX x (nI (ltS t)) (upd cl (ltS t) v')) = Sum.inr (some (nI a', tX x (nI (ltS t)) (upd cl (ltS t) v'))) := by
                rcases r4 with e | ⟨e, e2 | ⟨c, d1, d2, d3⟩⟩
                · rw [e, fEn s8 hn]
                  unfold f_X10_hasNumber
                  rw [tX_op, tX_cl, if_neg (show ¬ nI (ltS t) = -1 by rw [i32eq, tI (by omega), t_m1]; omega), if_pos (show inb (nI (ltS t)) 6 = true by rw [inb_T, tI (by omega)]; omega), nI_clamp (by omega), pk_us, if_pos ev]
                  rfl
                · rw [fOp s8 hn n60 e e2, openN _ lt6 (by rw [pk_us]; exact ev)]
                  rfl
                · have hdg' : isDg (x.2.2.1 900 s a').toInt32 := by unfold isDg; rw [d2, tI (by omega)]; omega
                  rw [fDg s8 hn n60 e hdg', d2, show nI (48 + c) - 48 = nI c by rw [show (48 : Int32) = nI 48 from rfl, pk_sub (by omega), Nat.add_sub_cancel_left]]
                  rcases addD (x := x) (cl := upd cl (ltS t) v') (c := c) lt6 with ⟨y1, y2⟩ | ⟨y1, y2⟩
                  · rw [pk_us] at y1; exact absurd y1 d3
                  · rw [y2]; rfl
              rw [lp_inr bx2, lp_inr bm]
              exact ⟨_, _, _, _, rfl, rfl, fun z => absurd z na'⟩
            · rw [if_neg ev] at bm
              rw [lp_inl bm]
              refine ih (n - a') (by omega) a' (k + 1) (nI (ltS t)) (upd cl (ltS t) v') (upd rd t v') (Nat.le_refl _) r2 (by omega) (fun t' ht' => ?_) (Or.inr ⟨by omega, ltS t, lt6, rfl, by rw [pk_us]; exact ev, by rw [pk_us]; exact r4⟩)
              by_cases e : t' = t
              · subst e; rw [pk_us, pk_us]; exact ⟨rfl, r3⟩
              · rw [u_n (fun z => e (ltS_inj ht' t1 z)), u_n e]; exact hcl t' ht'
          · apply fault
            · rw [fOp s8 hn n60 han hdg]
              rcases openC (x := x) (x.2.2.1 900 s a).toInt32 op hop with ⟨l, l1, l2, l3, l4⟩ | ⟨l1, l2⟩
              · exfalso
                have : l = ltS t := sv1_inj l l1 _ (ltS_lt t1) (by rw [l2, t2])
                rw [this, (hcl t t1).1] at l3
                exact hr l3
              · rw [l2]; rfl
            · rw [b33, t3]
              simp only [Option.elim_some]
              rw [if_neg (show ¬ nI t = -1 by rw [i32eq, tI (by omega), t_m1]; omega), if_pos (show inb (nI t) 6 = true by rw [inb_T, tI (by omega)]; omega), nI_clamp (by omega), if_neg hr]
        · apply fault
          · rw [fOp s8 hn n60 han hdg]
            rcases openC (x := x) (x.2.2.1 900 s a).toInt32 op hop with ⟨l, l1, l2, l3, l4⟩ | ⟨l1, l2⟩
            · exact absurd l2 (t1 l l1)
            · rw [l2]; rfl
          · rw [b33, t2]; rfl
/-- both have read the same -/
theorem l_reads (hI : Inv x m) (s8 : s < 8) (hr : isRow x m s) : ∃ f op cl rd, f_X10_read x s = some (setI (tX x op cl) 1002 0 f) ∧ f_X12_reads m (nI s) = some (f, setA m 1270 0 rd) ∧ (f = -1 → ∀ t, t < 6 → cl (ltS t) = rd t ∧ okV t (rd t)) := by
  obtain ⟨r1, r2, r3, r4, r5, r6⟩ := hr
  obtain ⟨n, z1, n60, hn⟩ := rng_nI (a := 0) (b := 60) r5 (by decide)
  have hz : m.2.1 1213 0 s = nI n := by rw [r4, hn]
  have lx : ∃ cl0, (∀ l, l < 6 → cl0 l = -1) ∧ ∀ r, b_X10_read_7 x s (nI 6, tX x (-1) cl0) = Sum.inr r → f_X10_read x s = r := by
    unfold f_X10_read
    refine lp_cnt (V := Int32 × VM) (d := none) 6 (fun k v => ∃ cl, v = (nI k, tX x (-1) cl) ∧ ∀ l, l < k → cl l = -1) (fun o => ∃ cl0, (∀ l, l < 6 → cl0 l = -1) ∧ ∀ r, b_X10_read_7 x s (nI 6, tX x (-1) cl0) = Sum.inr r → o = r) ?_ ?_ 0 _ (by omega) ⟨(setI x 1001 0 (-1)).2.1 1000 0, by unfold tX; rw [setA_id] <;> rfl, fun l hl => by omega⟩
    · rintro k v hk ⟨cl, rfl, hv⟩
      left
      unfold b_X10_read_7
      rw [if_neg (by rw [Int32.le_iff_toInt_le, tI (by omega), t_6]; omega), if_pos (by rw [inb_T, tI (by omega)]; omega), nI_clamp (by omega), nI_1, tX_cl, tX_A]
      refine ⟨_, rfl, _, rfl, fun l hl => ?_⟩
      by_cases e : l = k
      · subst e; exact pk_us
      · rw [u_n e]; exact hv l (by omega)
    · rintro v ⟨cl, rfl, hv⟩
      have : ∃ r, b_X10_read_7 x s (nI 6, tX x (-1) cl) = Sum.inr r := by
        unfold b_X10_read_7
        rw [if_pos (show (6 : Int32) ≤ nI 6 by decide)]
        cases f_X10_findFault (tX x (-1) cl) s <;> exact ⟨_, rfl⟩
      obtain ⟨r, hr⟩ := this
      exact ⟨r, hr, cl, hv, fun r' hr' => by rw [hr] at hr'; exact Sum.inr.inj hr'⟩
  have lm : ∃ rd0, (∀ l, l < 6 → rd0 l = -1) ∧ ∀ r, b_X12_reads_2 m (nI s) (nI 6, setA m 1270 0 rd0) = Sum.inr r → f_X12_reads m (nI s) = r := by
    unfold f_X12_reads
    refine lp_cnt (V := Int32 × VM) (d := none) 6 (fun k v => ∃ rd, v = (nI k, setA m 1270 0 rd) ∧ ∀ l, l < k → rd l = -1) (fun o => ∃ rd0, (∀ l, l < 6 → rd0 l = -1) ∧ ∀ r, b_X12_reads_2 m (nI s) (nI 6, setA m 1270 0 rd0) = Sum.inr r → o = r) ?_ ?_ 0 _ (by omega) ⟨m.2.1 1270 0, by rw [setA_id] <;> rfl, fun l hl => by omega⟩
    · rintro k v hk ⟨rd, rfl, hv⟩
      left
      unfold b_X12_reads_2
      rw [if_neg (by rw [Int32.le_iff_toInt_le, tI (by omega), t_6]; omega), if_pos (by rw [inb_T, tI (by omega)]; omega), nI_clamp (by omega), nI_1, sA_s, setAA]
      refine ⟨_, rfl, _, rfl, fun l hl => ?_⟩
      by_cases e : l = k
      · subst e; exact pk_us
      · rw [u_n e]; exact hv l (by omega)
    · rintro v ⟨rd, rfl, hv⟩
      have : ∃ r, b_X12_reads_2 m (nI s) (nI 6, setA m 1270 0 rd) = Sum.inr r := by
        have hz' : (nI 6, setA m 1270 0 rd).2.2.1 1213 0 s = nI n := hz
        obtain ⟨f, op, cl, rd', h1, h2, h3⟩ := outerT (x := x) (m := m) (v1 := (nI 6, setA m 1270 0 rd)) s8 hn n60 hz' r6 m n 0 0 (-1) (fun _ => -1) rd (by omega) (by omega) (by omega) (fun t ht => ⟨(hv t ht).symm, Or.inl (hv t ht)⟩) (Or.inl ⟨rfl, rfl, rfl⟩)
        unfold b_X12_reads_2
        rw [if_pos (show (6 : Int32) ≤ nI 6 by decide), if_pos (inb8 s8)]
        exact ⟨_, h2⟩
      obtain ⟨r, hr⟩ := this
      exact ⟨r, hr, rd, hv, fun r' hr' => by rw [hr] at hr'; exact Sum.inr.inj hr'⟩
  obtain ⟨cl0, c1, c2⟩ := lx
  obtain ⟨rd0, d1, d2⟩ := lm
  have hz' : (nI 6, setA m 1270 0 rd0).2.2.1 1213 0 s = nI n := hz
  obtain ⟨f, op, cl, rd', h1, h2, h3⟩ := outerT (x := x) (m := m) (v1 := (nI 6, setA m 1270 0 rd0)) s8 hn n60 hz' r6 m n 0 0 (-1) cl0 rd0 (by omega) (by omega) (by omega) (fun t ht => ⟨by rw [c1 _ (ltS_lt ht), d1 t ht], Or.inl (d1 t ht)⟩) (Or.inl ⟨rfl, rfl, rfl⟩)
  refine ⟨f, op, cl, rd', ?_, ?_, h3⟩
  · apply c2
    unfold b_X10_read_7 f_X10_findFault
    rw [if_pos (show (6 : Int32) ≤ nI 6 by decide)]
    have h1' : loopF none (b_X10_findFault_2 (tX x (-1) cl0) s) (0, tX x (-1) cl0) = some (f, tX x op cl) := h1
    rw [h1']
    rfl
  · apply d2
    unfold b_X12_reads_2
    rw [if_pos (show (6 : Int32) ≤ nI 6 by decide), if_pos (inb8 s8)]
    exact h2
end
