/-! plan: the reference's search -/
def pOkR (n : Nat) (m z : VM) (mo : Int32) (b : Int × (Nat → Nat)) : Prop := plM m z ∧ mo.toInt = b.1 ∧ (0 ≤ b.1 → ∀ p, p < 8 → z.2.1 1268 0 p = if p < n then pE (b.2 p) else -1) ∧ -1 ≤ b.1 ∧ b.1 ≤ 5000
def pKep (z z' : VM) (i : Nat) : Prop := (∀ s, s < i → z'.2.1 1284 0 s = z.2.1 1284 0 s) ∧ ∀ s, s ≤ i → z'.2.1 1285 0 s = z.2.1 1285 0 s
theorem pKep.trans {a b c : VM} {i : Nat} (h1 : pKep a b i) (h2 : pKep b c i) : pKep a c i := ⟨fun s hs => (h2.1 s hs).trans (h1.1 s hs), fun s hs => (h2.2 s hs).trans (h1.2 s hs)⟩
theorem plM.put {m z : VM} (h : plM m z) {G : Nat} (hG : G = 1284 ∨ G = 1285 ∨ G = 1268) (f : Nat → Int32) : plM m (setA z G 0 f) := by
  obtain ⟨a1, a2, a3, a4⟩ := h
  refine ⟨a1, fun F i q1 q2 q3 => ?_, a3, fun F i hi => ?_⟩
  · rw [rAn (by omega)]; exact a2 F i q1 q2 q3
  · by_cases e : F = G
    · subst e; rw [sA_n hi]; exact a4 _ i hi
    · rw [rAn e]; exact a4 F i hi
theorem pOkR.put {n : Nat} {m z : VM} {mo : Int32} {b : Int × (Nat → Nat)} (h : pOkR n m z mo b) {G : Nat} (hG : G = 1284 ∨ G = 1285) (f : Nat → Int32) : pOkR n m (setA z G 0 f) mo b := by
  obtain ⟨h1, h2, h3, h4⟩ := h
  exact ⟨h1.put (by omega) f, h2, fun q p hp => by rw [rAn (by omega)]; exact h3 q p hp, h4⟩
def pZ (z : VM) (i : Nat) (a : Int32) : VM := setA z 1285 0 (upd (z.2.1 1285 0) (i + 1) a)
theorem pZ_kep {z : VM} {i : Nat} (a : Int32) : pKep z (pZ z i a) i := by
  unfold pZ
  exact ⟨fun s hs => by rw [rAn (by decide)], fun s hs => by rw [rAs, u_n (by omega)]⟩
section
variable {lot fk : Nat → Nat} {gr : Nat → Int32} {st n : Nat} {V : Nat → Nat → Nat} {rs : Nat → Nat} {m : VM}
theorem p_go (hD : pDaM lot fk gr st n V rs m) (mm : VM) (v8 : Int32 × VM) (zo : VM) {z : VM} {mo : Int32} {w i t : Nat} {tr : Nat → Nat} (hz : plM m z) (c1 : z.2.1 1285 0 i = nI w) (hi : i < n) (ht : t < 8) (hw : w ≤ 5000) (hP : pPth z i tr) : (b_X12_plan_265 mm (nI st) v8 (mo, nI i, zo) (nI t, 0, z) = Sum.inl (nI t, 1, pZ z i (nI (w + V i t))) ∧ mo.toInt < w + V i t + rs (i + 1) ∧ pOk lot fk gr st tr i t) ∨ (b_X12_plan_265 mm (nI st) v8 (mo, nI i, zo) (nI t, 0, z) = Sum.inl (nI (t + 1), 0, pZ z i (nI (w + V i t))) ∧ ¬ (mo.toInt < w + V i t + rs (i + 1) ∧ pOk lot fk gr st tr i t)) := by
  have n5 := hD.1
  have hDz := hD.to hz
  obtain ⟨r1, r2⟩ := hDz.2.2.1 (i + 1) (by omega)
  obtain ⟨v1, v2⟩ := (hDz.2.2.2 i hi).2.2.2.2.1 t ht
  have e9 : inb (nI i) 9 = true := by rw [inb_T, tI (by omega)]; omega
  have e9' : inb (nI (i + 1)) 9 = true := by rw [inb_T, tI (by omega)]; omega
  have e64 : inb (nI (8 * i + t)) 64 = true := by rw [inb_T, tI (by omega)]; omega
  have k1 : ¬ (8 : Int32) < nI t := by rw [Int32.lt_iff_toInt_lt, tI (by omega), show (8 : Int32).toInt = 8 from rfl]; omega
  have k2 : ¬ (8 : Int32) ≤ nI t := by rw [Int32.le_iff_toInt_le, tI (by omega), show (8 : Int32).toInt = 8 from rfl]; omega
  have k3 : ¬ nI t = 8 := by rw [i32eq, tI (by omega), show (8 : Int32).toInt = 8 from rfl]; omega
  have hDZ := hD.to (hz.put (G := 1285) (by omega) (upd (z.2.1 1285 0) (i + 1) (nI (w + V i t))))
  have hPZ : pPth (pZ z i (nI (w + V i t))) i tr := fun s hs => by unfold pZ; rw [rAn (by decide)]; exact hP s hs
  have hm := p_may hDZ hi ht hPZ
  unfold b_X12_plan_265 j_X12_plan_316
  simp only [if_neg k1, if_neg k2, if_true, if_pos e9, lm_8, nI_add, if_pos e64, nI_clamp (show 8 * i + t < 2 ^ 31 by omega), v1, nI_1, if_pos e9', nI_clamp (show i < 2 ^ 31 by omega), nI_clamp (show i + 1 < 2 ^ 31 by omega), c1, if_neg k3, if_neg n10]
  have h85 : (setA z 1285 0 (upd (z.2.1 1285 0) (i + 1) (nI (w + V i t)))).2.1 1285 0 (i + 1) = nI (w + V i t) := by rw [rAs, pk_us]
  have h86 : (setA z 1285 0 (upd (z.2.1 1285 0) (i + 1) (nI (w + V i t)))).2.1 1286 0 (i + 1) = nI (rs (i + 1)) := by rw [rAn (by decide)]; exact r1
  rw [h85, h86, nI_add]
  by_cases q : mo.toInt < w + V i t + rs (i + 1)
  · rw [if_neg (by rw [Int32.le_iff_toInt_le, tI (by omega)]; omega)]
    rcases hm with ⟨g1, g2⟩ | ⟨g1, g2⟩
    · left
      rw [show f_X12_mayBegin (setA z 1285 0 (upd (z.2.1 1285 0) (i + 1) (nI (w + V i t)))) (nI i) (nI t) (nI st) = some 1 from g1, Option.elim_some, if_neg n10]
      exact ⟨rfl, q, g2⟩
    · right
      rw [show f_X12_mayBegin (setA z 1285 0 (upd (z.2.1 1285 0) (i + 1) (nI (w + V i t)))) (nI i) (nI t) (nI st) = some 0 from g1, Option.elim_some, if_pos rfl]
      exact ⟨rfl, fun h => g2 h.2⟩
  · rw [if_pos (by rw [Int32.le_iff_toInt_le, tI (by omega)]; omega)]
    right
    exact ⟨rfl, fun h => q h.1⟩
theorem p_go8 (hD : pDaM lot fk gr st n V rs m) (mm : VM) (v8 : Int32 × VM) (zo : VM) {z : VM} {mo : Int32} {w i : Nat} (hz : plM m z) (c1 : z.2.1 1285 0 i = nI w) (hi : i < n) (hw : w ≤ 5000) : b_X12_plan_265 mm (nI st) v8 (mo, nI i, zo) (nI 8, 0, z) = if mo.toInt < w + rs (i + 1) then Sum.inl (nI 8, 1, pZ z i (nI w)) else Sum.inl (nI 9, 0, pZ z i (nI w)) := by
  have n5 := hD.1
  have hDz := hD.to hz
  obtain ⟨r1, r2⟩ := hDz.2.2.1 (i + 1) (by omega)
  have e9 : inb (nI i) 9 = true := by rw [inb_T, tI (by omega)]; omega
  have e9' : inb (nI (i + 1)) 9 = true := by rw [inb_T, tI (by omega)]; omega
  have k1 : ¬ (8 : Int32) < nI 8 := by decide
  have k2 : (8 : Int32) ≤ nI 8 := by decide
  have k3 : nI 8 = 8 := rfl
  have add0 : ∀ k, nI k + 0 = nI k := fun k => nI_add k 0
  unfold b_X12_plan_265 j_X12_plan_316
  simp only [if_neg k1, if_pos k2, if_true, if_pos e9, nI_1, if_pos e9', nI_clamp (show i < 2 ^ 31 by omega), nI_clamp (show i + 1 < 2 ^ 31 by omega), c1, if_pos k3, if_neg n10, add0]
  have h85 : (setA z 1285 0 (upd (z.2.1 1285 0) (i + 1) (nI w))).2.1 1285 0 (i + 1) = nI w := by rw [rAs, pk_us]
  have h86 : (setA z 1285 0 (upd (z.2.1 1285 0) (i + 1) (nI w))).2.1 1286 0 (i + 1) = nI (rs (i + 1)) := by rw [rAn (by decide)]; exact r1
  rw [h85, h86, nI_add]
  by_cases q : mo.toInt < w + rs (i + 1)
  · rw [if_neg (by rw [Int32.le_iff_toInt_le, tI (by omega)]; omega), if_pos q]; rfl
  · rw [if_pos (by rw [Int32.le_iff_toInt_le, tI (by omega)]; omega), if_neg q]; rfl
theorem p_gone (mm : VM) (v8 : Int32 × VM) {zo z : VM} {mo : Int32} {i t : Nat} (hi : i < 8) (ht : t ≤ 8) : b_X12_plan_265 mm (nI st) v8 (mo, nI i, zo) (nI t, 1, z) = Sum.inr (Sum.inl (mo, nI (i + 1), setA (setA z 1284 0 (upd (z.2.1 1284 0) i (nI t))) 1284 0 (upd (upd (z.2.1 1284 0) i (nI t)) (i + 1) (-1)))) := by
  have e9 : inb (nI i) 9 = true := by rw [inb_T, tI (by omega)]; omega
  have e9' : inb (nI (i + 1)) 9 = true := by rw [inb_T, tI (by omega)]; omega
  have k1 : ¬ (8 : Int32) < nI t := by rw [Int32.lt_iff_toInt_lt, tI (by omega), show (8 : Int32).toInt = 8 from rfl]; omega
  unfold b_X12_plan_265 j_X12_plan_378
  simp only [if_neg k1, if_neg n10, if_pos e9, nI_1, if_pos e9', nI_clamp (show i < 2 ^ 31 by omega), nI_clamp (show i + 1 < 2 ^ 31 by omega), rAs]
theorem p_past (mm : VM) (v8 : Int32 × VM) {zo z : VM} {mo : Int32} {i : Nat} : b_X12_plan_265 mm (nI st) v8 (mo, nI i, zo) (nI 9, 0, z) = Sum.inr (Sum.inl (mo, nI i + (-1), z)) := by
  have k1 : (8 : Int32) < nI 9 := by decide
  unfold b_X12_plan_265 j_X12_plan_378
  simp only [if_pos k1, if_true]
theorem p_wri (hD : pDaM lot fk gr st n V rs m) {mm : VM} (h4 : mm.1 1204 0 = nI n) {z : VM} {mo : Int32} {w : Nat} {tr : Nat → Nat} {b : Int × (Nat → Nat)} (hz : pOkR n m z mo b) (hP : pPth z n tr) (c1 : z.2.1 1285 0 n = nI w) (v8 : Int32 × VM) (hw : w ≤ 5000) : ∃ z', loopF (Sum.inr (Sum.inr none)) (b_X12_plan_196 mm (nI st) v8 (mo, nI n, z)) (0, z) = Sum.inl (nI w, nI n + (-1), z') ∧ pOkR n m z' (nI w) ((w : Int), tr) ∧ pKep z z' n := by
  have n5 := hD.1
  refine lp_cnt (V := Int32 × VM) (d := Sum.inr (Sum.inr none)) 8 (fun s v => ∃ z', v = (nI s, z') ∧ plM m z' ∧ (∀ j, j < s → z'.2.1 1268 0 j = if j < n then pE (tr j) else -1) ∧ ∀ F, F ≠ 1268 → z'.2.1 F 0 = z.2.1 F 0) (fun o => ∃ z', o = Sum.inl (nI w, nI n + (-1), z') ∧ pOkR n m z' (nI w) ((w : Int), tr) ∧ pKep z z' n) ?_ ?_ 0 _ (Nat.zero_le _) ⟨z, rfl, hz.1, fun j hj => by omega, fun F _ => rfl⟩
  · rintro s v hs ⟨z', rfl, g1, g2, g3⟩
    left
    have k2 : ¬ (8 : Int32) ≤ nI s := by rw [Int32.le_iff_toInt_le, tI (by omega), show (8 : Int32).toInt = 8 from rfl]; omega
    have e9 : inb (nI s) 9 = true := by rw [inb_T, tI (by omega)]; omega
    have key : ∀ u, u = (if s < n then pE (tr s) else -1) → ∃ z2, setA z' 1268 0 (upd (z'.2.1 1268 0) s u) = z2 ∧ plM m z2 ∧ (∀ j, j < s + 1 → z2.2.1 1268 0 j = if j < n then pE (tr j) else -1) ∧ ∀ F, F ≠ 1268 → z2.2.1 F 0 = z.2.1 F 0 := by
      intro u hu
      refine ⟨_, rfl, g1.put (by omega) _, fun j hj => ?_, fun F hF => by rw [rAn hF]; exact g3 F hF⟩
      rw [rAs]
      by_cases e : j = s
      · subst e; rw [pk_us]; exact hu
      · rw [u_n e]; exact g2 j (by omega)
    unfold b_X12_plan_196
    simp only [if_neg k2, h4, if_pos (inb8 hs), if_pos e9, nI_clamp (show s < 2 ^ 31 by omega), g3 1284 (by decide), nI_1]
    by_cases q : s < n
    · rw [if_neg (by rw [Int32.le_iff_toInt_le, tI (by omega), tI (by omega)]; omega), (hP s q).1]
      have t8 := (hP s q).2
      by_cases r : tr s < 8
      · rw [if_neg (by rw [Int32.le_iff_toInt_le, tI (by omega), show (8 : Int32).toInt = 8 from rfl]; omega)]
        obtain ⟨z2, y1, y2⟩ := key (nI (tr s)) (by rw [if_pos q]; exact (if_pos r).symm)
        rw [y1]
        exact ⟨_, rfl, z2, rfl, y2⟩
      · rw [if_pos (by rw [Int32.le_iff_toInt_le, tI (by omega), show (8 : Int32).toInt = 8 from rfl]; omega)]
        obtain ⟨z2, y1, y2⟩ := key (-1) (by rw [if_pos q]; exact (if_neg r).symm)
        rw [y1]
        exact ⟨_, rfl, z2, rfl, y2⟩
    · rw [if_pos (by rw [Int32.le_iff_toInt_le, tI (by omega), tI (by omega)]; omega)]
      obtain ⟨z2, y1, y2⟩ := key (-1) (by rw [if_neg q])
      rw [y1]
      exact ⟨_, rfl, z2, rfl, y2⟩
  · rintro v ⟨z', rfl, g1, g2, g3⟩
    unfold b_X12_plan_196
    simp only [if_pos (show (8 : Int32) ≤ nI 8 by decide), h4, nI_clamp (show n < 2 ^ 31 by omega), c1]
    exact ⟨_, rfl, z', rfl, ⟨g1, tI (by omega), fun _ => g2, by simp only []; omega, by simp only []; omega⟩, fun s hs => by rw [g3 _ (by decide)], fun s hs => by rw [g3 _ (by decide)]⟩
theorem p_ref (hD : pDaM lot fk gr st n V rs m) {mm : VM} (h4 : mm.1 1204 0 = nI n) (v8 : Int32 × VM) (hr0 : ∀ i, i < n → rs (i + 1) ≤ rs i) (hr1 : ∀ i t, i < n → t < 8 → V i t + rs (i + 1) ≤ rs i) : ∀ (k i : Nat) (z : VM) (mo : Int32) (w : Nat) (tr : Nat → Nat) (b : Int × (Nat → Nat)), i + k = n → w ≤ 999 * i → pOkR n m z mo b → pPth z i tr → z.2.1 1284 0 i = -1 → z.2.1 1285 0 i = nI w → ∃ z' mo', loopF (Sum.inr none) (b_X12_plan_165 mm (nI st) v8) (mo, nI i, z) = loopF (Sum.inr none) (b_X12_plan_165 mm (nI st) v8) (mo', nI i + (-1), z') ∧ pOkR n m z' mo' (pDfs lot fk gr st V k i w tr b) ∧ pKep z z' i := by
  have n5 := hD.1
  intro k
  induction k with
  | zero =>
    intro i z mo w tr b e hw hz hP c0 c1
    have ei : i = n := e
    subst ei
    have ein : inb (nI i) 9 = true := by rw [inb_T, tI (by omega)]; omega
    obtain ⟨z', g1, g2, g3⟩ := p_wri hD h4 hz hP c1 v8 (by omega)
    have hb : b_X12_plan_165 mm (nI st) v8 (mo, nI i, z) = if b.1 < (w : Int) then Sum.inl (nI w, nI i + (-1), z') else Sum.inl (mo, nI i + (-1), z) := by
      unfold b_X12_plan_165
      simp only [if_neg (nI_npos (show i < 2147483648 by omega)), h4, if_true, if_pos ein, nI_clamp (show i < 2 ^ 31 by omega), c1]
      by_cases q : b.1 < (w : Int)
      · rw [if_neg (by rw [Int32.le_iff_toInt_le, tI (by omega), hz.2.1]; omega), if_pos q]; exact g1
      · rw [if_pos (by rw [Int32.le_iff_toInt_le, tI (by omega), hz.2.1]; omega), if_neg q]
    unfold pDfs
    by_cases q : b.1 < (w : Int)
    · rw [if_pos q] at hb ⊢
      exact ⟨z', _, lp_inl hb, g2, g3⟩
    · rw [if_neg q] at hb ⊢
      exact ⟨z, mo, lp_inl hb, hz, fun s hs => rfl, fun s hs => rfl⟩
  | succ k ih =>
    intro i z0 mo0 w tr b e hw hz0 hP0 c00 c10
    have hi : i < n := by omega
    have e9 : inb (nI i) 9 = true := by rw [inb_T, tI (by omega)]; omega
    have nn : ¬ nI i = nI n := by rw [i32eq, tI (by omega), tI (by omega)]; omega
    have enter : ∀ mo z c, z.2.1 1284 0 i + 1 = c → b_X12_plan_165 mm (nI st) v8 (mo, nI i, z) = loopF (Sum.inr (Sum.inr none)) (b_X12_plan_265 mm (nI st) v8 (mo, nI i, z)) (c, 0, z) := by
      intro mo z c hc
      unfold b_X12_plan_165
      simp only [if_neg (nI_npos (show i < 2147483648 by omega)), h4, if_neg nn, if_pos e9, nI_clamp (show i < 2 ^ 31 by omega), hc]
    have inner : ∀ j t z zo mo, t + j = 9 → pOkR n m z mo (fdN (pStep lot fk gr st V (pDfs lot fk gr st V k) i w tr) t b) → pKep z0 z i → ∃ z' mo', (loopF (Sum.inr (Sum.inr none)) (b_X12_plan_265 mm (nI st) v8 (mo, nI i, zo)) (nI t, 0, z)).elim (fun v' => loopF (Sum.inr none) (b_X12_plan_165 mm (nI st) v8) v') id = loopF (Sum.inr none) (b_X12_plan_165 mm (nI st) v8) (mo', nI i + (-1), z') ∧ pOkR n m z' mo' (pDfs lot fk gr st V (k + 1) i w tr b) ∧ pKep z0 z' i := by
      intro j
      induction j with
      | zero =>
        intro t z zo mo ht hz hk
        have : t = 9 := ht
        subst this
        rw [lp_inr (p_past mm v8)]
        exact ⟨z, mo, rfl, hz, hk⟩
      | succ j ihj =>
        intro t z zo mo ht hz hk
        have c1 : z.2.1 1285 0 i = nI w := (hk.2 i (Nat.le_refl _)).trans c10
        have hPz : pPth z i tr := fun s hs => ⟨(hk.1 s hs).trans (hP0 s hs).1, (hP0 s hs).2⟩
        generalize hB : fdN (pStep lot fk gr st V (pDfs lot fk gr st V k) i w tr) t b = B at hz
        have nxt : fdN (pStep lot fk gr st V (pDfs lot fk gr st V k) i w tr) (t + 1) b = pStep lot fk gr st V (pDfs lot fk gr st V k) i w tr t B := by rw [← hB]; rfl
        /- going down -/
        have deep : ∀ (w2 : Nat), w2 ≤ 999 * (i + 1) → pStep lot fk gr st V (pDfs lot fk gr st V k) i w tr t B = pDfs lot fk gr st V k (i + 1) w2 (updN tr i t) B → b_X12_plan_265 mm (nI st) v8 (mo, nI i, zo) (nI t, 0, z) = Sum.inl (nI t, 1, pZ z i (nI w2)) → ∃ z' mo', (loopF (Sum.inr (Sum.inr none)) (b_X12_plan_265 mm (nI st) v8 (mo, nI i, zo)) (nI t, 0, z)).elim (fun v' => loopF (Sum.inr none) (b_X12_plan_165 mm (nI st) v8) v') id = loopF (Sum.inr none) (b_X12_plan_165 mm (nI st) v8) (mo', nI i + (-1), z') ∧ pOkR n m z' mo' (pDfs lot fk gr st V (k + 1) i w tr b) ∧ pKep z0 z' i := by
          intro w2 hw2 hst hb
          have hz2 : pOkR n m (pZ z i (nI w2)) mo B := hz.put (by omega) _
          rw [lp_inl hb, lp_inr (p_gone mm v8 (by omega) (by omega)), setAA]
          have hk2 : pKep z0 (pZ z i (nI w2)) i := hk.trans (pZ_kep _)
          generalize hZ : setA (pZ z i (nI w2)) 1284 0 (upd (upd ((pZ z i (nI w2)).2.1 1284 0) i (nI t)) (i + 1) (-1)) = Z
          have hzZ : pOkR n m Z mo B := by rw [← hZ]; exact hz2.put (by omega) _
          have a78 : ∀ s, s < i → Z.2.1 1284 0 s = z0.2.1 1284 0 s := by
            intro s hs
            rw [← hZ, rAs, u_n (by omega), u_n (by omega)]; exact hk2.1 s hs
          have a78i : Z.2.1 1284 0 i = nI t := by rw [← hZ, rAs, u_n (by omega), pk_us]
          have a78j : Z.2.1 1284 0 (i + 1) = -1 := by rw [← hZ, rAs, pk_us]
          have a79 : ∀ s, s ≤ i → Z.2.1 1285 0 s = z0.2.1 1285 0 s := by
            intro s hs
            rw [← hZ, rAn (by decide)]; exact hk2.2 s hs
          have y79 : Z.2.1 1285 0 (i + 1) = nI w2 := by rw [← hZ, rAn (by decide)]; unfold pZ; rw [rAs, pk_us]
          have hPZ : pPth Z (i + 1) (updN tr i t) := by
            intro s hs
            by_cases es : s = i
            · subst es; rw [uN_s]; exact ⟨a78i, by omega⟩
            · rw [uN_n es]
              exact ⟨(a78 s (by omega)).trans (hP0 s (by omega)).1, (hP0 s (by omega)).2⟩
          obtain ⟨z', mo', g1, g2, g3⟩ := ih (i + 1) Z mo w2 (updN tr i t) B (by omega) hw2 hzZ hPZ a78j y79
          have hkZ : pKep z0 z' i := ⟨fun s hs => (g3.1 s (by omega)).trans (a78 s hs), fun s hs => (g3.2 s (by omega)).trans (a79 s hs)⟩
          obtain ⟨z3, mo3, s1, s2, s3⟩ := ihj (t + 1) z' z' mo' (by omega) (by rw [nxt, hst]; exact g2) hkZ
          refine ⟨z3, mo3, ?_, s2, s3⟩
          show loopF (Sum.inr none) (b_X12_plan_165 mm (nI st) v8) (mo, nI (i + 1), Z) = _
          rw [g1, pk_m1, loopF_eq, enter mo' z' (nI (t + 1)) (by rw [g3.1 i (by omega), a78i, nI_1])]
          exact s1
        /- passing by -/
        have pass : ∀ (z2 : VM), pOkR n m z2 mo B → pKep z z2 i → pStep lot fk gr st V (pDfs lot fk gr st V k) i w tr t B = B → b_X12_plan_265 mm (nI st) v8 (mo, nI i, zo) (nI t, 0, z) = Sum.inl (nI (t + 1), 0, z2) → ∃ z' mo', (loopF (Sum.inr (Sum.inr none)) (b_X12_plan_265 mm (nI st) v8 (mo, nI i, zo)) (nI t, 0, z)).elim (fun v' => loopF (Sum.inr none) (b_X12_plan_165 mm (nI st) v8) v') id = loopF (Sum.inr none) (b_X12_plan_165 mm (nI st) v8) (mo', nI i + (-1), z') ∧ pOkR n m z' mo' (pDfs lot fk gr st V (k + 1) i w tr b) ∧ pKep z0 z' i := by
          intro z2 hz2 hk2 hst hb
          rw [lp_inl hb]
          exact ihj (t + 1) z2 zo mo (by omega) (by rw [nxt, hst]; exact hz2) (hk.trans hk2)
        have hmo := hz.2.1
        by_cases q : t < 8
        · have v2 := ((hD.2.2.2 i hi).2.2.2.2.1 t q).2
          rcases p_go hD mm v8 zo (mo := mo) hz.1 c1 hi q (by omega) hPz with ⟨g, g1, g2⟩ | ⟨g, g1⟩
          · exact deep _ (by omega) (p_y _ q g2) g
          · refine pass _ (hz.put (by omega) _) (pZ_kep _) ?_ g
            by_cases r : pOk lot fk gr st tr i t
            · rw [p_y _ q r]
              have r2 : ¬ mo.toInt < w + V i t + rs (i + 1) := fun r2 => g1 ⟨r2, r⟩
              exact p_low (n := n) hr0 hr1 k (i + 1) _ _ B (by omega) (by omega)
            · rw [p_n _ q r]
        · have : t = 8 := by omega
          subst this
          have g := p_go8 hD mm v8 zo (mo := mo) hz.1 c1 hi (by omega)
          by_cases gg : mo.toInt < w + rs (i + 1)
          · rw [if_pos gg] at g
            exact deep _ (by omega) (p_o _ q) g
          · rw [if_neg gg] at g
            refine pass _ (hz.put (by omega) _) (pZ_kep _) ?_ g
            rw [p_o _ q]
            exact p_low (n := n) hr0 hr1 k (i + 1) _ _ B (by omega) (by omega)
    obtain ⟨z', mo', s1, s2, s3⟩ := inner 9 0 z0 z0 mo0 (by omega) hz0 ⟨fun s hs => rfl, fun s hs => rfl⟩
    refine ⟨z', mo', ?_, s2, s3⟩
    rw [loopF_eq, enter mo0 z0 (nI 0) (by rw [c00]; rfl)]
    exact s1
end
