/-! plan: both together -/
theorem pS3m (X : VM) (cf mf cf' mf' : Nat → Int32) : setA (setA (setA (setA X 1287 0 cf) 1286 0 mf) 1287 0 cf') 1286 0 mf' = setA (setA X 1287 0 cf') 1286 0 mf' := by
  refine Prod.ext rfl (Prod.ext ?_ rfl)
  funext F i
  show (if F = 1286 ∧ i = 0 then mf' else if F = 1287 ∧ i = 0 then cf' else if F = 1286 ∧ i = 0 then mf else if F = 1287 ∧ i = 0 then cf else X.2.1 F i) = if F = 1286 ∧ i = 0 then mf' else if F = 1287 ∧ i = 0 then cf' else X.2.1 F i
  by_cases e1 : F = 1286 ∧ i = 0
  · rw [if_pos e1, if_pos e1]
  · rw [if_neg e1, if_neg e1, if_neg e1]
    by_cases e2 : F = 1287 ∧ i = 0
    · rw [if_pos e2, if_pos e2]
    · rw [if_neg e2, if_neg e2, if_neg e2]
theorem p_topM (mm Z : VM) (p1 r48 : Int32) {j : Nat} {V : Nat → Nat} (hj : j < 8) (hV : ∀ t, t < 8 → Z.2.1 1267 0 (8 * j + t) = nI (V t) ∧ V t ≤ 999) : ∃ top, loopF (Sum.inr none) (b_X12_plan_79 mm p1 (nI j, Z) r48) (0, 0) = Sum.inl (nI j + (-1), setA (setA Z 1287 0 (upd (Z.2.1 1287 0) j r48)) 1286 0 (upd (Z.2.1 1286 0) j (Z.2.1 1286 0 (j + 1) + nI top))) ∧ top ≤ 999 ∧ ∀ t, t < 8 → V t ≤ top := by
  have e9 : inb (nI j) 9 = true := by rw [inb_T, tI (by omega)]; omega
  have e9' : inb (nI (j + 1)) 9 = true := by rw [inb_T, tI (by omega)]; omega
  refine lp_cnt (V := Int32 × Int32) (d := Sum.inr none) 8 (fun t v => ∃ top, v = (nI top, nI t) ∧ top ≤ 999 ∧ ∀ u, u < t → V u ≤ top) (fun o => ∃ top, o = Sum.inl (nI j + (-1), setA (setA Z 1287 0 (upd (Z.2.1 1287 0) j r48)) 1286 0 (upd (Z.2.1 1286 0) j (Z.2.1 1286 0 (j + 1) + nI top))) ∧ top ≤ 999 ∧ ∀ t, t < 8 → V t ≤ top) ?_ ?_ 0 _ (Nat.zero_le _) ⟨0, rfl, by omega, fun u hu => by omega⟩
  · rintro t v ht ⟨top, rfl, h1, h2⟩
    left
    have lt : ¬ (8 : Int32) ≤ nI t := by rw [Int32.le_iff_toInt_le, tI (by omega), show (8 : Int32).toInt = 8 from rfl]; omega
    have e64 : inb (nI (8 * j + t)) 64 = true := by rw [inb_T, tI (by omega)]; omega
    obtain ⟨v1, v2⟩ := hV t ht
    have v1' : ∀ f, (setA Z 1287 0 f).2.1 1267 0 (8 * j + t) = nI (V t) := fun f => v1
    unfold b_X12_plan_79
    simp only [lm_8, nI_add, if_neg lt, if_pos e64, nI_clamp (show 8 * j + t < 2 ^ 31 by omega), v1', nI_1]
    by_cases q : V t ≤ top
    · rw [if_pos (by rw [Int32.le_iff_toInt_le, tI (by omega), tI (by omega)]; omega)]
      refine ⟨_, rfl, top, rfl, h1, fun u hu => ?_⟩
      by_cases e : u = t
      · subst e; exact q
      · exact h2 u (by omega)
    · rw [if_neg (by rw [Int32.le_iff_toInt_le, tI (by omega), tI (by omega)]; omega)]
      refine ⟨_, rfl, V t, rfl, v2, fun u hu => ?_⟩
      by_cases e : u = t
      · subst e; exact Nat.le_refl _
      · have := h2 u (by omega); omega
  · rintro v ⟨top, rfl, h1, h2⟩
    unfold b_X12_plan_79
    simp only [if_pos (show (8 : Int32) ≤ nI 8 by decide), nI_1, if_pos e9, if_pos e9', nI_clamp (show j < 2 ^ 31 by omega), nI_clamp (show j + 1 < 2 ^ 31 by omega)]
    refine ⟨_, rfl, top, ?_, h1, h2⟩
    rw [rAn (show 1286 ≠ 1287 by decide)]
section
variable {x m : VM}
theorem p_refAll (hI : Inv x m) {n st : Nat} (hn : x.2.2.2 5 = n) (n5 : n ≤ 5) (st3 : st ≤ 3) (h4 : m.1 1204 0 = nI n) (tr : Nat → Nat) : ∃ mo ff rf z, loopF none (b_X12_plan_48 m (nI st)) (nI n - 1, setA m 1286 0 (upd (m.2.1 1286 0) n 0)) = some (mo, z) ∧ pOkR n (setA (setA m 1287 0 ff) 1286 0 rf) z mo (pDfs (pLot x) (pFk x) (pGr x) st (pV x) n 0 0 tr (-1, tr)) := by
  refine lp_down (V := Int32 × VM) (d := none) (fun j v => ∃ a ff rf, ∃ rs : Nat → Nat, v = (a, setA (setA m 1287 0 ff) 1286 0 rf) ∧ j ≤ n ∧ a.toInt = (j : Int) - 1 ∧ (∀ i, j ≤ i → i ≤ n → rf i = nI (rs i) ∧ rs i ≤ 999 * (n - i)) ∧ ∀ i, j ≤ i → i < n → ff i = nI (pFk x i) ∧ rs (i + 1) ≤ rs i ∧ ∀ t, t < 8 → pV x i t + rs (i + 1) ≤ rs i) (fun o => ∃ mo ff rf z, o = some (mo, z) ∧ pOkR n (setA (setA m 1287 0 ff) 1286 0 rf) z mo (pDfs (pLot x) (pFk x) (pGr x) st (pV x) n 0 0 tr (-1, tr))) ?_ ?_ n _ ⟨nI n - 1, m.2.1 1287 0, upd (m.2.1 1286 0) n 0, fun _ => 0, by rw [setA_id]; try rfl, Nat.le_refl _, ?_, ?_, fun i h1 h2 => by omega⟩
  · rintro j v ⟨a, ff, rf, rs, rfl, hj, ha, h2, h3⟩
    left
    have ea : a = nI j := Int32.toInt_inj.mp (by rw [ha, tI (by omega)]; omega)
    subst ea
    have jn : j < x.2.2.2 5 := by omega
    obtain ⟨q1, q2, q3⟩ := p_facts hI jn
    have nS := n_sce hI jn
    have h35 : (setA (setA m 1287 0 ff) 1286 0 rf).2.1 1235 0 j = nI (x.2.2.2 (20 + j)) := nS.2.1
    have hin : f_X12_inSome (setA (setA m 1287 0 ff) 1286 0 rf) (nI j) (nI (2 ^ x.2.2.2 (20 + j) - 1)) = some (nI (pFk x j)) := l_all hI jn (by omega)
    unfold b_X12_plan_48
    simp only [if_neg (nI_npos (show j < 2147483648 by omega)), if_pos (inb8 (show j < 8 by omega)), nI_clamp (show j < 2 ^ 31 by omega)]
    rw [h35, allB nS.2.2, hin, Option.elim_some]
    obtain ⟨top, t1, t2, t3⟩ := p_topM m (setA (setA m 1287 0 ff) 1286 0 rf) (nI st) (nI (pFk x j)) (j := j) (V := pV x j) (by omega) (fun t ht => ⟨(q2 t ht).2.2, (q2 t ht).2.1⟩)
    rw [t1, pS3m]
    obtain ⟨r1, r2⟩ := h2 (j + 1) (Nat.le_refl _) (by omega)
    obtain ⟨M', hM'⟩ : ∃ M' : Nat → Nat, ∀ i, M' i = if i = j then rs (j + 1) + top else rs i := ⟨_, fun i => rfl⟩
    refine ⟨_, rfl, _, _, _, M', rfl, by omega, ?_, ?_, ?_⟩
    · rw [addT (by rw [tI (by omega), t_m1]; omega) (by rw [tI (by omega), t_m1]; omega), tI (by omega), t_m1]; omega
    · intro i k1 k2
      rw [hM']
      by_cases e : i = j
      · subst e
        rw [pk_us, if_pos rfl]
        show rf (i + 1) + nI top = _ ∧ _
        rw [r1, nI_add]
        refine ⟨rfl, ?_⟩
        have : 999 * (n - (i + 1)) + 999 = 999 * (n - i) := by omega
        omega
      · rw [u_n e, if_neg e]; exact h2 i (by omega) k2
    · intro i k1 k2
      rw [hM', hM', if_neg (show ¬ i + 1 = j by omega)]
      by_cases e : i = j
      · subst e
        rw [pk_us, if_pos rfl]
        exact ⟨rfl, by omega, fun t ht => by have := t3 t ht; omega⟩
      · rw [u_n e, if_neg e]; exact h3 i (by omega) k2
  · rintro v ⟨a, ff, rf, rs, rfl, hj, ha, h2, h3⟩
    unfold b_X12_plan_48
    simp only [show (0 : Int32).toNatClampNeg = 0 from rfl]
    rw [if_pos (by rw [Int32.lt_iff_toInt_lt, ha, t_0]; omega)]
    have hD : pDaM (pLot x) (pFk x) (pGr x) st n (pV x) rs (setA (setA m 1287 0 ff) 1286 0 rf) := by
      refine ⟨n5, st3, fun i hi => ⟨(h2 i (Nat.zero_le _) hi).1, by have := (h2 i (Nat.zero_le _) hi).2; omega⟩, fun i hi => ?_⟩
      obtain ⟨q1, q2, q3⟩ := p_facts hI (show i < x.2.2.2 5 by omega)
      exact ⟨q1.1, q1.2.2, (h3 i (Nat.zero_le _) hi).1, q3, fun t ht => ⟨(q2 t ht).2.2, (q2 t ht).2.1⟩, (pGr_ok hI (show i < x.2.2.2 5 by omega)).2⟩
    generalize hZ : setA (setA (setA (setA m 1287 0 ff) 1286 0 rf) 1285 0 _) 1284 0 _ = Z
    have k0 : plM (setA (setA m 1287 0 ff) 1286 0 rf) Z := by
      rw [← hZ]
      exact (plM.put ⟨rfl, fun F i _ _ _ => rfl, rfl, fun F i _ => rfl⟩ (by omega) _).put (by omega) _
    have k1 : Z.2.1 1284 0 0 = -1 := by rw [← hZ, rAs, pk_us]
    have k2 : Z.2.1 1285 0 0 = 0 := by rw [← hZ, rAn (by decide), rAs, pk_us]
    obtain ⟨z', mo', g1, g2, g3⟩ := p_ref hD (mm := m) h4 (a, setA (setA m 1287 0 ff) 1286 0 rf) (fun i hi => (h3 i (Nat.zero_le _) hi).2.1) (fun i t hi ht => (h3 i (Nat.zero_le _) hi).2.2 t ht) n 0 Z (-1) 0 tr (-1, tr) (by omega) (by omega) ⟨k0, rfl, fun q => absurd (show (0 : Int) ≤ -1 from q) (by decide), show (-1 : Int) ≤ -1 by decide, show (-1 : Int) ≤ 5000 by decide⟩ (fun s hs => by omega) k1 k2
    have g1' : loopF (Sum.inr none) (b_X12_plan_165 m (nI st) (a, setA (setA m 1287 0 ff) 1286 0 rf)) (-1, 0, Z) = Sum.inr (some (mo', z')) := by
      refine g1.trans ?_
      apply lp_inr
      unfold b_X12_plan_165
      simp only [nIm1]
      rw [if_pos (by decide)]
    rw [g1']
    exact ⟨_, rfl, mo', ff, rf, z', rfl, g2⟩
  · rw [subT (by rw [tI (by omega), t_1]; omega) (by rw [tI (by omega), t_1]; omega), tI (by omega), t_1]
  · intro i q1 q2
    have : i = n := by omega
    subst this
    rw [pk_us]; exact ⟨rfl, Nat.zero_le _⟩
end
theorem plX_ex {x y : VM} (h : plX x y) : ∃ v f1 f2 f3 f4, y = setA (setA (setA (setA (setI x 603 0 v) 600 0 f1) 604 0 f2) 607 0 f3) 608 0 f4 := by
  obtain ⟨a1, a2, a3, a4, a5⟩ := h
  refine ⟨y.1 603 0, y.2.1 600 0, y.2.1 604 0, y.2.1 607 0, y.2.1 608 0, Prod.ext ?_ (Prod.ext ?_ a3)⟩
  · funext F i
    show y.1 F i = if F = 603 ∧ i = 0 then y.1 603 0 else x.1 F i
    by_cases e : F = 603 ∧ i = 0
    · rw [if_pos e, e.1, e.2]
    · rw [if_neg e]
      by_cases e0 : i = 0
      · exact a1 F i (fun q => e ⟨q, e0⟩)
      · exact a4 F i e0
  · funext F i
    show y.2.1 F i = if F = 608 ∧ i = 0 then y.2.1 608 0 else if F = 607 ∧ i = 0 then y.2.1 607 0 else if F = 604 ∧ i = 0 then y.2.1 604 0 else if F = 600 ∧ i = 0 then y.2.1 600 0 else x.2.1 F i
    by_cases e0 : i = 0
    · subst e0
      by_cases e1 : F = 608
      · subst e1; rw [if_pos ⟨rfl, rfl⟩]
      · rw [if_neg (fun q => e1 q.1)]
        by_cases e2 : F = 607
        · subst e2; rw [if_pos ⟨rfl, rfl⟩]
        · rw [if_neg (fun q => e2 q.1)]
          by_cases e3 : F = 604
          · subst e3; rw [if_pos ⟨rfl, rfl⟩]
          · rw [if_neg (fun q => e3 q.1)]
            by_cases e4 : F = 600
            · subst e4; rw [if_pos ⟨rfl, rfl⟩]
            · rw [if_neg (fun q => e4 q.1)]; exact a2 F 0 e4 e3 e2 e1
    · rw [if_neg (fun q => e0 q.2), if_neg (fun q => e0 q.2), if_neg (fun q => e0 q.2), if_neg (fun q => e0 q.2)]; exact a5 F i e0
theorem plM_ex {m z : VM} (h : plM m z) : ∃ f1 f2 f3, z = setA (setA (setA m 1284 0 f1) 1285 0 f2) 1268 0 f3 := by
  obtain ⟨a1, a2, a3, a4⟩ := h
  refine ⟨z.2.1 1284 0, z.2.1 1285 0, z.2.1 1268 0, Prod.ext a1 (Prod.ext ?_ a3)⟩
  funext F i
  show z.2.1 F i = if F = 1268 ∧ i = 0 then z.2.1 1268 0 else if F = 1285 ∧ i = 0 then z.2.1 1285 0 else if F = 1284 ∧ i = 0 then z.2.1 1284 0 else m.2.1 F i
  by_cases e0 : i = 0
  · subst e0
    by_cases e1 : F = 1268
    · subst e1; rw [if_pos ⟨rfl, rfl⟩]
    · rw [if_neg (fun q => e1 q.1)]
      by_cases e2 : F = 1285
      · subst e2; rw [if_pos ⟨rfl, rfl⟩]
      · rw [if_neg (fun q => e2 q.1)]
        by_cases e3 : F = 1284
        · subst e3; rw [if_pos ⟨rfl, rfl⟩]
        · rw [if_neg (fun q => e3 q.1)]; exact a2 F 0 e3 e2 e1
  · rw [if_neg (fun q => e0 q.2), if_neg (fun q => e0 q.2), if_neg (fun q => e0 q.2)]; exact a4 F i e0
theorem plan_inv {x m : VM} (hI : Inv x m) {n st : Nat} {v : Int32} {cf mf f1 f2 f3 f4 ff rf g1 g2 g3 : Nat → Int32} (hn : n ≤ x.2.2.2 5) (h1 : ∀ p, p < 8 → g3 p = if p < n then f1 p else -1) (h2 : ∀ s, s < 8 → f3 s = 0 ∧ f4 s = 0) : Inv (setA (setA (setA (setA (setI (setA (setA (pX1 x n st) 605 0 cf) 606 0 mf) 603 0 v) 600 0 f1) 604 0 f2) 607 0 f3) 608 0 f4) (setA (setA (setA (setA (setA m 1287 0 ff) 1286 0 rf) 1284 0 g1) 1285 0 g2) 1268 0 g3) := by
  have hp : IPla (setA (setA (setA (setA (setI (setA (setA (pX1 x n st) 605 0 cf) 606 0 mf) 603 0 v) 600 0 f1) 604 0 f2) 607 0 f3) 608 0 f4) (setA (setA (setA (setA (setA m 1287 0 ff) 1286 0 rf) 1284 0 g1) 1285 0 g2) 1268 0 g3) := ⟨⟨n, hn, rfl, h1⟩, h2⟩
  exact ⟨hI.bas, hI.cnt, hI.now, hI.pur, hI.clr, hI.fau, hI.cod, hI.sha, hI.fee, hI.law, hI.she, hI.per, hI.pe0, hI.pic, hI.ord, hI.dra, hI.pi0, hI.sce, hI.sc0, hI.hal, hI.ha0, hI.shw, (hp), hI.cac, hI.ref⟩
theorem s_plan : S_plan Inv := by
  intro x m p1 hI
  show Sm Inv _ _
  have e4 := hI.cnt.2.1
  have e1 := hI.bas.1.2.1.1
  have e8 := hI.bas.1.2.1.2
  unfold f_X11_plan f_X12_plan
  by_cases c1 : p1 < 1
  · rw [if_pos c1, if_pos c1]
    exact Sm.mk rfl (hI.ref1 5)
  rw [if_neg c1, if_neg c1]
  by_cases c2 : p1 ≤ 3
  · rw [if_pos c2, if_pos c2, e4, e1]
    obtain ⟨st, l1, l2, rfl⟩ := rng_nI (v := p1) (a := 1) (b := 3) ⟨by rw [Int32.lt_iff_toInt_lt] at c1; exact Int.not_lt.mp c1, by rw [Int32.le_iff_toInt_le] at c2; exact c2⟩ (by decide)
    obtain ⟨n, hn⟩ : ∃ n, x.2.2.2 5 = n := ⟨_, rfl⟩
    rw [hn] at e8 e1 ⊢
    by_cases c3 : n ≤ 5
    · rw [if_pos (by rw [Int32.le_iff_toInt_le, tI (by omega), show (5 : Int32).toInt = 5 from rfl]; omega), if_pos (by rw [Int32.le_iff_toInt_le, tI (by omega), show (5 : Int32).toInt = 5 from rfl]; omega), if_pos (by rw [inb_T, tI (by omega)]; omega), nI_clamp (by omega)]
      obtain ⟨r, cf, mf, y, g1, g2, g3⟩ := p_find hI hn c3 l2 (fun _ => 0)
      obtain ⟨mo, ff, rf, z, k1, k2⟩ := p_refAll hI hn c3 l2 (e4.trans e1) (fun _ => 0)
      rw [g1, k1]
      have h0 := p_none (lot := pLot x) (fk := pFk x) (gr := pGr x) (st := st) (V := pV x) n 0 0 (fun _ => 0) (-1, fun _ => 0)
      generalize pDfs (pLot x) (pFk x) (pGr x) st (pV x) n 0 0 (fun _ => 0) (-1, fun _ => 0) = A at g2 k2 h0
      obtain ⟨y1, y2, y3, _, y5⟩ := g2
      obtain ⟨z1, z2, z3, _, _⟩ := k2
      have hr : r = mo := by rw [g3]; exact Int32.toInt_inj.mp (y2.trans z2.symm)
      obtain ⟨v, f1, f2, f3, f4, rfl⟩ := plX_ex y1
      obtain ⟨b1, b2, b3, rfl⟩ := plM_ex z1
      refine Sm.mk hr (plan_inv hI (by omega) (fun p hp => ?_) (fun s hs => y5 s hs))
      have a := z3 h0 p hp
      rw [rAs] at a
      rw [a]
      by_cases c : p < n
      · rw [if_pos c, if_pos c]; exact (y3 h0 p c).symm
      · rw [if_neg c, if_neg c]
    · rw [if_neg (by rw [Int32.le_iff_toInt_le, tI (by omega), show (5 : Int32).toInt = 5 from rfl]; omega), if_neg (by rw [Int32.le_iff_toInt_le, tI (by omega), show (5 : Int32).toInt = 5 from rfl]; omega)]
      exact Sm.mk rfl (hI.ref1 6)
  · rw [if_neg c2, if_neg c2]
    exact Sm.mk rfl (hI.ref1 5)
