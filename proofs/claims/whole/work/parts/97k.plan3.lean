/-! plan: the class's whole search -/
theorem uk2 {k : Nat} (hk : k ≤ 5) : ∃ r, ∀ x m : VM, f_X11_isUnderKind x (nI k) 3 = some r ∧ f_X12_isUnder m (nI k) 3 = some r := by
  unfold f_X11_isUnderKind f_X12_isUnder
  rcases (show k = 0 ∨ k = 1 ∨ k = 2 ∨ k = 3 ∨ k = 4 ∨ k = 5 by omega) with rfl | rfl | rfl | rfl | rfl | rfl <;> exact ⟨_, fun x m => ⟨loopF_of (n := 8) rfl, loopF_of (n := 8) rfl⟩⟩
def pLot (x : VM) (i : Nat) : Nat := (x.1 516 i).toInt.toNat
def pV (x : VM) (i t : Nat) : Nat := (x.2.1 517 i t).toInt.toNat
def pFk (x : VM) (i : Nat) : Nat := orB (caX x i) (fun _ => true) (x.2.2.2 (20 + i))
noncomputable def pGr (x : VM) (i : Nat) : Int32 := (f_X11_isUnderKind x (x.1 500 i) 3).getD 0
theorem pGr_ok {x m : VM} (hI : Inv x m) {i : Nat} (hi : i < x.2.2.2 5) : (∀ y : VM, f_X11_isUnderKind y (x.1 500 i) 3 = some (pGr x i)) ∧ ∀ y : VM, f_X12_isUnder y (m.2.1 1234 0 i) 3 = some (pGr x i) := by
  obtain ⟨k1, k2⟩ := (hI.pic i hi).1
  obtain ⟨kk, k3, k4, k5⟩ := rng_nI (a := 0) (b := 5) k2 (by decide)
  obtain ⟨r, hr⟩ := uk2 k4
  have e : pGr x i = r := by unfold pGr; rw [k5, (hr x x).1]; rfl
  rw [e, k1, k5]
  exact ⟨fun y => (hr y y).1, fun y => (hr y y).2⟩
theorem p_top {y : VM} {i : Nat} {V : Nat → Nat} (hc : i < y.2.2.2 5) (hV : ∀ t, t < 8 → y.2.1 517 i t = nI (V t) ∧ V t ≤ 999) : ∃ top, f_X6_mostOf y i = some (nI top) ∧ top ≤ 999 ∧ ∀ t, t < 8 → V t ≤ top := by
  unfold f_X6_mostOf
  refine lp_cnt (V := Int32 × Int32) (d := none) 8 (fun k v => ∃ a, v = (nI a, nI k) ∧ a ≤ 999 ∧ ∀ t, t < k → V t ≤ a) (fun o => ∃ top, o = some (nI top) ∧ top ≤ 999 ∧ ∀ t, t < 8 → V t ≤ top) ?_ ?_ 0 _ (Nat.zero_le _) ⟨0, rfl, by omega, fun t ht => by omega⟩
  · rintro k v hk ⟨a, rfl, a1, a2⟩
    left
    obtain ⟨v1, v2⟩ := hV k hk
    have lt : ¬ (8 : Int32) ≤ nI k := by rw [Int32.le_iff_toInt_le, tI (by omega), show (8 : Int32).toInt = 8 from rfl]; omega
    unfold b_X6_mostOf_4
    simp only [if_neg lt, if_pos hc, if_pos (inb8 hk), nI_clamp (show k < 2 ^ 31 by omega), v1, nI_1]
    refine ⟨_, rfl, if a < V k then V k else a, ?_, ?_, ?_⟩
    · by_cases q : a < V k
      · rw [if_pos q, if_pos (by rw [Int32.lt_iff_toInt_lt, tI (by omega), tI (by omega)]; omega)]
      · rw [if_neg q, if_neg (by rw [Int32.lt_iff_toInt_lt, tI (by omega), tI (by omega)]; omega)]
    · by_cases q : a < V k
      · rw [if_pos q]; omega
      · rw [if_neg q]; omega
    · intro t ht
      by_cases e : t = k
      · subst e
        by_cases q : a < V t
        · rw [if_pos q]; omega
        · rw [if_neg q]; omega
      · have := a2 t (by omega)
        by_cases q : a < V k
        · rw [if_pos q]; omega
        · rw [if_neg q]; omega
  · rintro v ⟨a, rfl, a1, a2⟩
    unfold b_X6_mostOf_4
    simp only [if_pos (show (8 : Int32) ≤ nI 8 by decide)]
    exact ⟨_, rfl, a, rfl, a1, a2⟩
theorem pS3 (X : VM) (cf mf cf' mf' : Nat → Int32) : setA (setA (setA (setA X 605 0 cf) 606 0 mf) 605 0 cf') 606 0 mf' = setA (setA X 605 0 cf') 606 0 mf' := by
  refine Prod.ext rfl (Prod.ext ?_ rfl)
  funext F i
  show (if F = 606 ∧ i = 0 then mf' else if F = 605 ∧ i = 0 then cf' else if F = 606 ∧ i = 0 then mf else if F = 605 ∧ i = 0 then cf else X.2.1 F i) = if F = 606 ∧ i = 0 then mf' else if F = 605 ∧ i = 0 then cf' else X.2.1 F i
  by_cases e1 : F = 606 ∧ i = 0
  · rw [if_pos e1, if_pos e1]
  · rw [if_neg e1, if_neg e1, if_neg e1]
    by_cases e2 : F = 605 ∧ i = 0
    · rw [if_pos e2, if_pos e2]
    · rw [if_neg e2, if_neg e2, if_neg e2]
def pX1 (x : VM) (n st : Nat) : VM := setI (setI (setI x 601 0 (nI n)) 602 0 (nI st)) 603 0 (-1)
section
variable {x m : VM}
theorem p_facts (hI : Inv x m) {i : Nat} (hi : i < x.2.2.2 5) : (pLot x i ≤ 4 ∧ x.1 516 i = nI (pLot x i) ∧ m.2.1 1266 0 i = nI (pLot x i)) ∧ (∀ t, t < 8 → x.2.1 517 i t = nI (pV x i t) ∧ pV x i t ≤ 999 ∧ m.2.1 1267 0 (8 * i + t) = nI (pV x i t)) ∧ pFk x i < 65536 := by
  have h := hI.pic i hi
  have a := rng_t (a := 1) (b := 4) h.2.2.2.2.2.2.2.1.2 (by decide)
  refine ⟨⟨a.2, a.1, h.2.2.2.2.2.2.2.1.1.trans a.1⟩, fun t ht => ?_, or_all_lt hI hi _⟩
  have b := rng_t (a := 0) (b := 999) (h.2.2.2.2.2.2.2.2.1 t ht).2 (by decide)
  exact ⟨b.1, b.2, (h.2.2.2.2.2.2.2.2.1 t ht).1.trans b.1⟩
theorem p_find (hI : Inv x m) {n st : Nat} (hn : x.2.2.2 5 = n) (n5 : n ≤ 5) (st3 : st ≤ 3) (tr : Nat → Nat) : ∃ r cf mf y, f_X6_findBest x (nI n) (nI st) = some (r, y) ∧ pOkC (pLot x) (pFk x) n (setA (setA (pX1 x n st) 605 0 cf) 606 0 mf) y 0 tr (pDfs (pLot x) (pFk x) (pGr x) st (pV x) n 0 0 tr (-1, tr)) ∧ r = y.1 603 0 := by
  unfold f_X6_findBest
  rw [if_neg (show ¬ (8 : Int32) < nI n by rw [Int32.lt_iff_toInt_lt, tI (by omega), show (8 : Int32).toInt = 8 from rfl]; omega)]
  have e1 : (setI (setI (setI x 601 0 (nI n)) 602 0 (nI st)) 603 0 (-1)).1 601 0 = nI n := rfl
  have e2 : ∀ f, (setA (setI (setI (setI x 601 0 (nI n)) 602 0 (nI st)) 603 0 (-1)) 606 0 f).1 601 0 = nI n := fun f => rfl
  rw [e2, e1, if_pos (by rw [inb_T, tI (by omega)]; omega), nI_clamp (by omega)]
  show ∃ r cf mf y, loopF none _ (nI n - 1, setA (pX1 x n st) 606 0 _) = _ ∧ _
  refine lp_down (V := Int32 × VM) (d := none) (fun j v => ∃ a cf mf, ∃ M : Nat → Nat, v = (a, setA (setA (pX1 x n st) 605 0 cf) 606 0 mf) ∧ j ≤ n ∧ a.toInt = (j : Int) - 1 ∧ M n = 0 ∧ (∀ i, j ≤ i → i ≤ n → mf i = nI (M i) ∧ M i ≤ 999 * (n - i)) ∧ ∀ i, j ≤ i → i < n → cf i = nI (pFk x i) ∧ M (i + 1) ≤ M i ∧ ∀ t, t < 8 → pV x i t + M (i + 1) ≤ M i) (fun o => ∃ r cf mf y, o = some (r, y) ∧ pOkC (pLot x) (pFk x) n (setA (setA (pX1 x n st) 605 0 cf) 606 0 mf) y 0 tr (pDfs (pLot x) (pFk x) (pGr x) st (pV x) n 0 0 tr (-1, tr)) ∧ r = y.1 603 0) ?_ ?_ n _ ⟨nI n - 1, (pX1 x n st).2.1 605 0, upd ((pX1 x n st).2.1 606 0) n 0, fun _ => 0, by rw [setA_id]; try rfl, Nat.le_refl _, ?_, rfl, ?_, fun i h1 h2 => by omega⟩
  · rintro j v ⟨a, cf, mf, M, rfl, hj, ha, h1, h2, h3⟩
    left
    have ea : a = nI j := Int32.toInt_inj.mp (by rw [ha, tI (by omega)]; omega)
    subst ea
    have jn : j < x.2.2.2 5 := by omega
    obtain ⟨q1, q2, q3⟩ := p_facts hI jn
    have hc : ∀ F G f g, (setA (setA (pX1 x n st) F 0 f) G 0 g).2.2.2 5 = x.2.2.2 5 := fun _ _ _ _ => rfl
    have hcas : f_X5_castOfAll (setA (setA (pX1 x n st) 605 0 cf) 606 0 mf) j = some (nI (pFk x j)) := l_cas hI jn (by omega)
    unfold b_X6_findBest_38
    simp only [if_neg (nI_npos (show j < 2147483648 by omega)), nI_1, nI_clamp (show j < 2 ^ 31 by omega), nI_clamp (show j + 1 < 2 ^ 31 by omega), if_pos (inb8 (show j < 8 by omega)), if_pos (show inb (nI (j + 1)) 9 = true by rw [inb_T, tI (by omega)]; omega), if_pos (show inb (nI j) 9 = true by rw [inb_T, tI (by omega)]; omega)]
    rw [hc, if_pos jn, hcas, Option.elim_some, if_pos jn]
    obtain ⟨top, t1, t2, t3⟩ := p_top (y := setA (setA (setA (pX1 x n st) 605 0 cf) 606 0 mf) 605 0 (upd ((setA (setA (pX1 x n st) 605 0 cf) 606 0 mf).2.1 605 0) j (nI (pFk x j)))) (i := j) (V := pV x j) jn (fun t ht => ⟨(q2 t ht).1, (q2 t ht).2.1⟩)
    rw [t1, Option.elim_some, pS3]
    obtain ⟨r1, r2⟩ := h2 (j + 1) (Nat.le_refl _) (by omega)
    obtain ⟨M', hM'⟩ : ∃ M' : Nat → Nat, ∀ i, M' i = if i = j then M (j + 1) + top else M i := ⟨_, fun i => rfl⟩
    refine ⟨_, rfl, _, _, _, M', rfl, by omega, ?_, ?_, ?_, ?_⟩
    · rw [addT (by rw [tI (by omega), t_m1]; omega) (by rw [tI (by omega), t_m1]; omega), tI (by omega), t_m1]; omega
    · rw [hM', if_neg (by omega)]; exact h1
    · intro i k1 k2
      rw [hM']
      by_cases e : i = j
      · subst e
        rw [pk_us, if_pos rfl]
        show mf (i + 1) + nI top = _ ∧ _
        rw [r1, nI_add]
        refine ⟨rfl, ?_⟩
        have : 999 * (n - (i + 1)) + 999 = 999 * (n - i) := by omega
        omega
      · rw [u_n e, if_neg e]; exact h2 i (by omega) k2
    · intro i k1 k2
      rw [hM', hM', if_neg (show ¬ i + 1 = j by omega)]
      by_cases e : i = j
      · subst e
        rw [pk_us, if_pos rfl]
        exact ⟨rfl, by omega, fun t ht => by have := t3 t ht; omega⟩
      · rw [u_n e, if_neg e]; exact h3 i (by omega) k2
  · rintro v ⟨a, cf, mf, M, rfl, hj, ha, h1, h2, h3⟩
    unfold b_X6_findBest_38
    simp only []
    rw [if_pos (by rw [Int32.lt_iff_toInt_lt, ha, t_0]; omega)]
    have hD : pDat (pLot x) (pFk x) (pGr x) st n (pV x) (setA (setA (pX1 x n st) 605 0 cf) 606 0 mf) := by
      refine ⟨n5, by show n ≤ x.2.2.2 5; omega, rfl, rfl, st3, fun i hi => ?_⟩
      obtain ⟨q1, q2, q3⟩ := p_facts hI (show i < x.2.2.2 5 by omega)
      exact ⟨q1.1, q1.2.1, (h3 i (Nat.zero_le _) hi).1, q3, fun t ht => ⟨(q2 t ht).1, (q2 t ht).2.1⟩, (pGr_ok hI (show i < x.2.2.2 5 by omega)).1⟩
    obtain ⟨y, g1, g2⟩ := p_cls (M := M) hD (fun i hi => ⟨(h2 i (Nat.zero_le _) hi).1, by have := (h2 i (Nat.zero_le _) hi).2; omega⟩) h1 (fun i hi => (h3 i (Nat.zero_le _) hi).2.1) (fun i t hi ht => (h3 i (Nat.zero_le _) hi).2.2 t ht) n 0 12 (setA (setA (pX1 x n st) 605 0 cf) 606 0 mf) 0 tr (-1, tr) (by omega) (by omega) (by omega) ⟨⟨fun F i q => rfl, fun F i _ _ _ _ => rfl, rfl, fun F i _ => rfl, fun F i _ => rfl⟩, rfl, fun q => absurd (show (0 : Int) ≤ -1 from q) (by decide), fun s hs => by omega, fun s hs => hI.pla.2 s hs⟩
    have g1' : f_X6_search 12 (setA (setA (pX1 x n st) 605 0 cf) 606 0 mf) 0 0 = some y := g1
    rw [g1']
    exact ⟨_, rfl, _, cf, mf, y, rfl, g2, rfl⟩
  · rw [subT (by rw [tI (by omega), t_1]; omega) (by rw [tI (by omega), t_1]; omega), tI (by omega), t_1]
  · intro i q1 q2
    have : i = n := by omega
    subst this
    rw [pk_us]; exact ⟨rfl, Nat.zero_le _⟩
end
