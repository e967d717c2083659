theorem l_ear {y z m : VM} {h f n : Nat} {p k last p2 C : Int32} (hY : Inv y (setI z 1210 0 C)) (h1 : h < y.2.2.2 1) (hf : f < 40) : (∃ w, w < 40 ∧ y.2.1 103 h w = -1 ∧ f_X11_earliestWeek y p h (nI f) = some (nI w) ∧ ∀ o, j_X12_block_127 m (nI h) p2 (nI f) (nI n, last, 1, p, z) (nI w) 1 = Sum.inr o → loopF (Sum.inr none) (b_X12_block_90 m (nI h) p2 (nI f) (nI n, last, 1, p, z)) (nI f) = o) ∨ (f_X11_earliestWeek y p h (nI f) = some (-1) ∧ loopF (Sum.inr none) (b_X12_block_90 m (nI h) p2 (nI f) (nI n, last, 1, p, z)) (nI f) = Sum.inl (nI n, last, 0, p + 1, z)) := by
  unfold f_X11_earliestWeek
  refine lp_cnt2 (V := Int32) (W := Int32) (d := none) (e := Sum.inr none) 40 (fun w v v' => v = nI w ∧ v' = nI w) (fun o o' => (∃ w, w < 40 ∧ y.2.1 103 h w = -1 ∧ o = some (nI w) ∧ ∀ q, j_X12_block_127 m (nI h) p2 (nI f) (nI n, last, 1, p, z) (nI w) 1 = Sum.inr q → o' = q) ∨ (o = some (-1) ∧ o' = Sum.inl (nI n, last, 0, p + 1, z))) ?_ ?_ f (nI f) (nI f) (by omega) ⟨rfl, rfl⟩
  · rintro w v v' hw ⟨rfl, rfl⟩
    have ge : ¬ (40 : Int32) ≤ nI w := by rw [Int32.le_iff_toInt_le, tI (by omega), t_40]; omega
    obtain ⟨r, r1, r2, r3⟩ := l_may hY.bas.1 hY.cnt hY.clr hY.hal p h1 hw
    have r2' : f_X12_mayBook z p (nI h) (nI w) = some r := r2
    unfold b_X11_earliestWeek_3 b_X12_block_90 j_X12_block_115
    simp only [if_neg ge, r1, r2', Option.elim_some, nI_1]
    rcases r3 with rfl | ⟨rfl, r3⟩
    · left
      exact ⟨_, _, rfl, rfl, rfl, rfl⟩
    · right
      rw [if_neg n10]
      have : ∃ o, j_X12_block_127 m (nI h) p2 (nI f) (nI n, last, 1, p, z) (nI w) 1 = Sum.inr o := by
        unfold j_X12_block_127
        rw [if_neg n10]
        split
        · split
          · split <;> exact ⟨_, rfl⟩
          · exact ⟨_, rfl⟩
        · exact ⟨_, rfl⟩
      obtain ⟨o, ho⟩ := this
      refine ⟨_, o, rfl, ?_, Or.inl ⟨w, hw, r3, rfl, fun q hq => ?_⟩⟩
      · rw [if_neg n10]; exact ho
      · rw [ho] at hq; exact Sum.inr.inj hq
  · rintro v v' ⟨rfl, rfl⟩
    have ge : (40 : Int32) ≤ nI 40 := by decide
    unfold b_X11_earliestWeek_3 b_X12_block_90 j_X12_block_115 j_X12_block_127
    simp only [if_pos ge]
    exact ⟨_, _, rfl, rfl, Or.inr ⟨rfl, rfl⟩⟩
def rBl (x : VM) (h k : Nat) (v : Int32 × Int64 × Int32 × VM) (v' : Int32 × Int32 × Int32 × Int32 × VM) : Prop := ∃ (n : Nat) (last : Int32) (y z : VM) (T : Nat) (wk : Nat → Nat) (C : Int32), v = (last, lN T, nI k, y) ∧ v' = (nI n, last, 1, nI k, z) ∧ n ≤ k ∧ Inv y (setI z 1210 0 C) ∧ z.1 1210 0 = nI (cntS x) ∧ cntS y = cntS x + n ∧ y.2.2.2 = x.2.2.2 ∧ (∀ h', h' ≠ h → y.2.1 103 h' = x.2.1 103 h') ∧ (∀ j, j < n → wk j < 40 ∧ z.2.1 1283 0 j = nI (wk j) ∧ x.2.1 103 h (wk j) = -1 ∧ ¬ y.2.1 103 h (wk j) = -1) ∧ (∀ w, w < 40 → (∀ j, j < n → wk j ≠ w) → y.2.1 103 h w = x.2.1 103 h w) ∧ ∀ w, T.testBit w = true ↔ ∃ j, j < n ∧ wk j = w
theorem block_main {x m : VM} {h f t : Nat} {p1 : Int32} (hI : Inv x m) (h1 : h < x.2.2.2 1) (hf : f < 40) (ht : t < 256) : Sm Inv (loopF none (b_X11_block_56 x p1 (nI t) (nI f) h) (-1, 0, 0, x)) (loopF none (b_X12_block_61 m (nI h) (nI t) (nI f)) (0, -1, 1, 0, m)) := by
  have h6 : h < 6 := by have := hI.bas.1.2.2.1.2; omega
  have p8 := hI.bas.1.2.1.2
  refine lp_cnt2g (V := Int32 × Int64 × Int32 × VM) (W := Int32 × Int32 × Int32 × Int32 × VM) (d := none) (e := none) (x.2.2.2 5) (rBl x h) (fun o o' => Sm Inv o o') ?_ ?_ 0 _ _ (Nat.zero_le _) ⟨0, -1, x, m, 0, fun _ => 0, m.1 1210 0, rfl, rfl, Nat.le_refl _, ?_, hI.shw, rfl, rfl, fun _ _ => rfl, fun j hj => by omega, fun _ _ _ => rfl, fun w => ?_⟩
  · rintro k v v' hk ⟨n, last, y, z, T, wk, C, rfl, rfl, hn, hY, hz, hcy, hyc, ho, hwk, hot, hT⟩
    have c1 : y.1 1114 0 = nI (x.2.2.2 5) := by rw [hY.bas.1.2.1.1, hyc]
    have c2 : z.1 1204 0 = nI (x.2.2.2 5) := by have : z.1 1204 0 = y.1 1114 0 := hY.cnt.2.1; rw [this, c1]
    have lt : ¬ nI (x.2.2.2 5) ≤ nI k := by rw [Int32.le_iff_toInt_le, tI (by omega), tI (by omega)]; omega
    have h1y : h < y.2.2.2 1 := by rw [hyc]; exact h1
    by_cases hb : t.testBit k = true
    · have hb0 : ¬ t.testBit k = false := by rw [hb]; decide
      rcases l_ear (m := m) (n := n) (p := nI k) (k := nI k) (last := last) (p2 := nI t) hY h1y hf with ⟨w, w1, w2, w3, w4⟩ | ⟨w3, w4⟩
      · left
        have ne1 : ¬ nI w = -1 := by rw [i32eq, tI (by omega), t_m1]; omega
        have nek : ¬ nI k = -1 := by rw [i32eq, tI (by omega), t_m1]; omega
        have hwn : ∀ j, j < n → wk j ≠ w := fun j hj e => (hwk j hj).2.2.2 (by rw [e]; exact w2)
        have xw : x.2.1 103 h w = -1 := by rw [← hot w w1 hwn]; exact w2
        have bx : b_X11_block_56 x p1 (nI t) (nI f) h (last, lN T, nI k, y) = Sum.inl (if last < nI w then nI w else last, lN (T ||| 2 ^ w), nI (k + 1), setA y 103 h (upd (y.2.1 103 h) w (nI k))) := by
          unfold b_X11_block_56
          simp only [c1, if_neg lt, bt_1 (show t < 2147483648 by omega) (show k < 32 by omega), if_pos hb, w3, Option.elim_some, if_neg ne1, if_pos h1y, if_pos (show inb (nI w) 40 = true by rw [inb_T, tI (by omega)]; omega), nI_clamp (show w < 2 ^ 31 by omega), nI_1, shl1L w w1, lN_or]
        have ln : (if last < nI w then nI w else last) = if nI w ≤ last then last else nI w := by
          by_cases e : nI w ≤ last
          · rw [if_pos e, if_neg (Int32.not_lt.mpr e)]
          · rw [if_neg e, if_pos (Int32.not_le.mp e)]
        have bm : b_X12_block_61 m (nI h) (nI t) (nI f) (nI n, last, 1, nI k, z) = Sum.inl (nI (n + 1), if last < nI w then nI w else last, 1, nI (k + 1), setA (setA z 1264 0 (upd (z.2.1 1264 0) (40 * h + w) (nI k))) 1283 0 (upd (z.2.1 1283 0) n (nI w))) := by
          unfold b_X12_block_61
          simp only [c2, if_neg lt, if_neg n10, bt_0 (show t < 2147483648 by omega) (show k < 32 by omega), if_neg hb0]
          apply w4
          unfold j_X12_block_127
          rw [ln]
          simp (disch := omega) only [if_neg n10, inb_T, tI, lm_40, nI_add, if_pos, nI_clamp, nI_1, rAn]
          split <;> rfl
        obtain ⟨C', hC'⟩ : ∃ C', C' = nI (cntS (setA y 103 h (upd (y.2.1 103 h) w (nI k)))) := ⟨_, rfl⟩
        refine ⟨_, _, bx, bm, n + 1, _, _, _, _, fun j => if j < n then wk j else w, C', rfl, rfl, by omega, ?_, hz, ?_, hyc, ?_, ?_, ?_, ?_⟩
        · have hk5 : k < y.2.2.2 5 := by rw [hyc]; exact hk
          exact ⟨hY.bas, hY.cnt, hY.now, hY.pur, hY.clr, hY.fau, hY.cod, hY.sha, hY.fee, hY.law, hY.she, hY.per, hY.pe0, hY.pic, hY.ord, hY.dra, hY.pi0, hY.sce, hY.sc0, (hal_set hY.hal w1 hk5), (ha0_set hY.ha0 h1y w1), (hC'), hY.pla, hY.cac, hY.ref⟩
        · rw [cntS_set h1y w1 w2 nek, hcy, Nat.add_assoc]
        · intro h' e
          rw [sA_n e]; exact ho h' e
        · intro j hj
          by_cases e : j < n
          · simp only [if_pos e]
            obtain ⟨q1, q2, q3, q4⟩ := hwk j e
            refine ⟨q1, ?_, q3, ?_⟩
            · rw [rAs, u_n (by omega)]; exact q2
            · rw [sA_s, u_n (hwn j e)]; exact q4
          · have ej : j = n := by omega
            subst ej
            simp only [Nat.lt_irrefl, if_false]
            refine ⟨w1, ?_, xw, ?_⟩
            · rw [rAs]; exact pk_us
            · rw [sA_s, pk_us]; exact nek
        · intro w' hw' hj
          have e1 : w' ≠ w := fun e => hj n (by omega) (by simp only [Nat.lt_irrefl, if_false]; exact e.symm)
          rw [sA_s, u_n e1]
          exact hot w' hw' (fun j hjn e => hj j (by omega) (by simp only [if_pos hjn]; exact e))
        · intro w'
          rw [tb_or2, Bool.or_eq_true, hT w', decide_eq_true_iff]
          constructor
          · rintro (⟨j, j1, j2⟩ | e)
            · exact ⟨j, by omega, by simp only [if_pos j1]; exact j2⟩
            · exact ⟨n, by omega, by simp only [Nat.lt_irrefl, if_false]; exact e⟩
          · rintro ⟨j, j1, j2⟩
            by_cases e : j < n
            · simp only [if_pos e] at j2; exact Or.inl ⟨j, e, j2⟩
            · simp only [if_neg e] at j2; exact Or.inr j2
      · right
        obtain ⟨g, g1, g2⟩ := giveX (T := T) h1y
        obtain ⟨G, G1, G2, G3⟩ := giveM (m := m) (z := z) (h := h) (n := n) (wk := wk) (p2 := nI t) (p3 := nI f) (last := last) (k := nI k + 1) h6 (by omega) (fun j hj => ⟨(hwk j hj).1, (hwk j hj).2.1⟩)
        have bx : b_X11_block_56 x p1 (nI t) (nI f) h (last, lN T, nI k, y) = Sum.inr (some (-6, rX (setA y 103 h g) 5)) := by
          unfold b_X11_block_56
          simp only [c1, if_neg lt, bt_1 (show t < 2147483648 by omega) (show k < 32 by omega), if_pos hb, w3, Option.elim_some, if_true, if_pos h1y, g1, rfx6]
        have bm : b_X12_block_61 m (nI h) (nI t) (nI f) (nI n, last, 1, nI k, z) = Sum.inl (nI n, last, 0, nI k + 1, z) := by
          unfold b_X12_block_61
          simp only [c2, if_neg lt, if_neg n10, bt_0 (show t < 2147483648 by omega) (show k < 32 by omega), if_neg hb0]
          exact w4
        have bm2 : b_X12_block_61 m (nI h) (nI t) (nI f) (nI n, last, 0, nI k + 1, z) = Sum.inr (some (-6, rM (setA z 1264 0 G) 6)) := by
          unfold b_X12_block_61 j_X12_block_180
          simp only [if_true, G1, ite_self]
        rw [lp_inr bx, lp_inl bm, lp_inr bm2]
        refine Sm.mk rfl (Inv.ref1 (n := 5) ?_)
        have hyx : ∀ w, w < 40 → g w = x.2.1 103 h w := by
          intro w hw
          rw [g2 w hw]
          by_cases e : T.testBit w = true
          · rw [if_pos e]
            obtain ⟨j, j1, j2⟩ := (hT w).mp e
            rw [← j2]; exact (hwk j j1).2.2.1.symm
          · rw [if_neg e]
            exact hot w hw (fun j hj he => e ((hT w).mpr ⟨j, hj, he⟩))
        refine ⟨hY.bas, hY.cnt, hY.now, hY.pur, hY.clr, hY.fau, hY.cod, hY.sha, hY.fee, hY.law, hY.she, hY.per, hY.pe0, hY.pic, hY.ord, hY.dra, hY.pi0, hY.sce, hY.sc0, (?_), (?_), (?_), hY.pla, hY.cac, hY.ref⟩
        · intro h' hh'
          obtain ⟨a1, a2, a3, a4, a5⟩ := hY.hal h' hh'
          refine ⟨a1, a2, a3, a4, fun w' hw' => ?_⟩
          obtain ⟨b1, b2⟩ := a5 w' hw'
          refine ⟨?_, b2⟩
          show G (40 * h' + w') = (setA y 103 h g).2.1 103 h' w' ∧ _
          by_cases e : h' = h
          · subst e
            rw [sA_s]
            rw [g2 w' hw']
            by_cases e2 : T.testBit w' = true
            · rw [if_pos e2, G2 w' hw' ((hT w').mp e2)]
              exact ⟨rfl, Or.inl rfl⟩
            · rw [if_neg e2, G3 _ (fun j hj he => e2 ((hT w').mpr ⟨j, hj, by have := (hwk j hj).1; omega⟩))]
              exact b1
          · rw [sA_n e, G3 _ (fun j hj he => by have := (hwk j hj).1; omega)]
            exact b1
        · intro h' hh' h6'
          obtain ⟨a1, a2⟩ := hY.ha0 h' hh' h6'
          have hh2 : y.2.2.2 1 ≤ h' := hh'
          refine ⟨a1, fun w' hw' => ⟨?_, (a2 w' hw').2⟩⟩
          show G (40 * h' + w') = -1
          rw [G3 _ (fun j hj he => by have := (hwk j hj).1; omega)]
          exact (a2 w' hw').1
        · show z.1 1210 0 = nI (cntS (setA y 103 h g))
          rw [hz, cntS_eq, cntS_eq]
          show nI (smB _ (x.2.2.2 1)) = nI (smB _ (y.2.2.2 1))
          rw [hyc]
          congr 1
          refine smB_congr _ (fun h' _ => smB_congr _ (fun w' hw' => ?_))
          by_cases e : h' = h
          · subst e; rw [sA_s, hyx w' hw']
          · rw [sA_n e, ho h' e]
    · left
      have hb0 : t.testBit k = false := by revert hb; cases t.testBit k <;> simp
      refine ⟨(last, lN T, nI (k + 1), y), (nI n, last, 1, nI (k + 1), z), ?_, ?_, n, last, y, z, T, wk, C, rfl, rfl, by omega, hY, hz, hcy, hyc, ho, hwk, hot, hT⟩
      · unfold b_X11_block_56
        simp only [c1, if_neg lt, bt_1 (show t < 2147483648 by omega) (show k < 32 by omega), if_neg hb, nI_1]
      · unfold b_X12_block_61
        simp only [c2, if_neg lt, if_neg n10, bt_0 (show t < 2147483648 by omega) (show k < 32 by omega), if_pos hb0, nI_1]
  · rintro v v' ⟨n, last, y, z, T, wk, C, rfl, rfl, hn, hY, hz, hcy, hyc, ho, hwk, hot, hT⟩
    have c1 : y.1 1114 0 = nI (x.2.2.2 5) := by rw [hY.bas.1.2.1.1, hyc]
    have c2 : z.1 1204 0 = nI (x.2.2.2 5) := by have : z.1 1204 0 = y.1 1114 0 := hY.cnt.2.1; rw [this, c1]
    have bx : b_X11_block_56 x p1 (nI t) (nI f) h (last, lN T, nI (x.2.2.2 5), y) = Sum.inr (some (last, y)) := by
      unfold b_X11_block_56
      simp only [c1, if_pos (Int32.le_refl _)]
    have bm : b_X12_block_61 m (nI h) (nI t) (nI f) (nI n, last, 1, nI (x.2.2.2 5), z) = Sum.inr (some (last, setI z 1210 0 C)) := by
      unfold b_X12_block_61 j_X12_block_180
      have hC : C = nI (cntS x + n) := by rw [← hcy]; exact hY.shw
      simp only [c2, if_pos (Int32.le_refl _), if_neg n10, hz, nI_add]
      rw [hC]
    rw [lp_inr bx, lp_inr bm]
    exact Sm.mk rfl hY
  · rw [setI_id]; exact hI
  · rw [Nat.zero_testBit]
    exact ⟨fun h => (by cases h), fun ⟨j, hj, _⟩ => by omega⟩
theorem s_block : S_block Inv := by
  intro x m p q r hI
  show Sm Inv _ _
  unfold f_X11_block f_X12_block f_X11_isHallWeek
  have t39 : (39 : Int32).toInt = 39 := rfl
  rcases c_hal hI p with ⟨e1, e2⟩ | ⟨h, h1, h2, rfl, e1, e2⟩
  · rw [e1, e2]; exact Sm.mk rfl (hI.ref1 0)
  · rw [e1, e2]
    obtain ⟨g1, g2⟩ := hI.bas.1.2.1
    have g3 := hI.cnt.2.1
    have h16 : 2 ^ x.2.2.2 5 ≤ 256 := Nat.pow_le_pow_right (by decide) g2
    have h0 := Nat.two_pow_pos (x.2.2.2 5)
    rw [g3, g1, shl1 _ (by omega)]
    rcases hbb x q (show x.2.2.2 5 ≤ 16 by omega) with ⟨c1, c2⟩ | ⟨c1, c2⟩ | ⟨t, c1, rfl, c2⟩
    · simp only [c2, Option.elim_some]
      simp (disch := omega) only [Int32.lt_iff_toInt_lt, Int32.le_iff_toInt_le, i32eq, tI, t_0, t_1, t_2, t_3, t_4, t_5, t_6, t_7, t_8, t_9, t_10, t_16, t_31, t_40, t_48, t_50, t_52, t_57, t_60, t_61, t_64, t_90, t_99, t_100, t_108, t_112, t_114, t_115, t_119, t_121, t_200, t_256, t_364, t_400, t_480, t_960, t_999, t_1000, t_4000, t_99999, t_1000000000, t_2147483647, t_m1, t_m2, t_m3, t_m4, t_m5, t_m6, t_m7, t_m1000, nI_clamp, inb_T, Option.elim_some, Option.elim_none, if_pos, if_neg, rfx1, rfm1, rfx2, rfm2, rfx3, rfm3, rfx4, rfm4, rfx5, rfm5, rfx6, rfm6, rfx7, rfm7, nI_add, pk_mul, lm_2, lm_4, lm_5, lm_7, lm_8, lm_10, lm_40, lm_60, lm_61, lm_364, lm_1000, la_1, al_1, la_10, al_10, la_11, al_11, la_100, al_100, la_364, al_364, d8, m8, ↓reduceIte, rA1, rA3, rI2, rJ1, rJ2, rJ4, rN1, rN2, rN3, rAs, rIs, rJs, rAn, rIn, rJn]; exact Sm.mk rfl (hI.ref1 0)
    · simp only [c2, Option.elim_some]
      simp (disch := omega) only [Int32.lt_iff_toInt_lt, Int32.le_iff_toInt_le, i32eq, tI, t_0, t_1, t_2, t_3, t_4, t_5, t_6, t_7, t_8, t_9, t_10, t_16, t_31, t_40, t_48, t_50, t_52, t_57, t_60, t_61, t_64, t_90, t_99, t_100, t_108, t_112, t_114, t_115, t_119, t_121, t_200, t_256, t_364, t_400, t_480, t_960, t_999, t_1000, t_4000, t_99999, t_1000000000, t_2147483647, t_m1, t_m2, t_m3, t_m4, t_m5, t_m6, t_m7, t_m1000, nI_clamp, inb_T, Option.elim_some, Option.elim_none, if_pos, if_neg, rfx1, rfm1, rfx2, rfm2, rfx3, rfm3, rfx4, rfm4, rfx5, rfm5, rfx6, rfm6, rfx7, rfm7, nI_add, pk_mul, lm_2, lm_4, lm_5, lm_7, lm_8, lm_10, lm_40, lm_60, lm_61, lm_364, lm_1000, la_1, al_1, la_10, al_10, la_11, al_11, la_100, al_100, la_364, al_364, d8, m8, ↓reduceIte, rA1, rA3, rI2, rJ1, rJ2, rJ4, rN1, rN2, rN3, rAs, rIs, rJs, rAn, rIn, rJn]; exact Sm.mk rfl (hI.ref1 0)
    · simp only [c2, Option.elim_some]
      rcases ar r 0 39 (by decide) with g | g | ⟨f, f1, f2, rfl⟩
      · simp (disch := omega) only [Int32.lt_iff_toInt_lt, Int32.le_iff_toInt_le, i32eq, tI, t_0, t_1, t_2, t_3, t_4, t_5, t_6, t_7, t_8, t_9, t_10, t_16, t_31, t_40, t_48, t_50, t_52, t_57, t_60, t_61, t_64, t_90, t_99, t_100, t_108, t_112, t_114, t_115, t_119, t_121, t_200, t_256, t_364, t_400, t_480, t_960, t_999, t_1000, t_4000, t_99999, t_1000000000, t_2147483647, t_m1, t_m2, t_m3, t_m4, t_m5, t_m6, t_m7, t_m1000, nI_clamp, inb_T, Option.elim_some, Option.elim_none, if_pos, if_neg, rfx1, rfm1, rfx2, rfm2, rfx3, rfm3, rfx4, rfm4, rfx5, rfm5, rfx6, rfm6, rfx7, rfm7, nI_add, pk_mul, lm_2, lm_4, lm_5, lm_7, lm_8, lm_10, lm_40, lm_60, lm_61, lm_364, lm_1000, la_1, al_1, la_10, al_10, la_11, al_11, la_100, al_100, la_364, al_364, d8, m8, ↓reduceIte, rA1, rA3, rI2, rJ1, rJ2, rJ4, rN1, rN2, rN3, rAs, rIs, rJs, rAn, rIn, rJn, t39]; exact Sm.mk rfl (hI.ref1 5)
      · simp (disch := omega) only [Int32.lt_iff_toInt_lt, Int32.le_iff_toInt_le, i32eq, tI, t_0, t_1, t_2, t_3, t_4, t_5, t_6, t_7, t_8, t_9, t_10, t_16, t_31, t_40, t_48, t_50, t_52, t_57, t_60, t_61, t_64, t_90, t_99, t_100, t_108, t_112, t_114, t_115, t_119, t_121, t_200, t_256, t_364, t_400, t_480, t_960, t_999, t_1000, t_4000, t_99999, t_1000000000, t_2147483647, t_m1, t_m2, t_m3, t_m4, t_m5, t_m6, t_m7, t_m1000, nI_clamp, inb_T, Option.elim_some, Option.elim_none, if_pos, if_neg, rfx1, rfm1, rfx2, rfm2, rfx3, rfm3, rfx4, rfm4, rfx5, rfm5, rfx6, rfm6, rfx7, rfm7, nI_add, pk_mul, lm_2, lm_4, lm_5, lm_7, lm_8, lm_10, lm_40, lm_60, lm_61, lm_364, lm_1000, la_1, al_1, la_10, al_10, la_11, al_11, la_100, al_100, la_364, al_364, d8, m8, ↓reduceIte, rA1, rA3, rI2, rJ1, rJ2, rJ4, rN1, rN2, rN3, rAs, rIs, rJs, rAn, rIn, rJn, t39]; exact Sm.mk rfl (hI.ref1 5)
      · by_cases ht : t = 0
        · subst ht
          simp (disch := omega) only [Int32.lt_iff_toInt_lt, Int32.le_iff_toInt_le, i32eq, tI, t_0, t_1, t_2, t_3, t_4, t_5, t_6, t_7, t_8, t_9, t_10, t_16, t_31, t_40, t_48, t_50, t_52, t_57, t_60, t_61, t_64, t_90, t_99, t_100, t_108, t_112, t_114, t_115, t_119, t_121, t_200, t_256, t_364, t_400, t_480, t_960, t_999, t_1000, t_4000, t_99999, t_1000000000, t_2147483647, t_m1, t_m2, t_m3, t_m4, t_m5, t_m6, t_m7, t_m1000, nI_clamp, inb_T, Option.elim_some, Option.elim_none, if_pos, if_neg, rfx1, rfm1, rfx2, rfm2, rfx3, rfm3, rfx4, rfm4, rfx5, rfm5, rfx6, rfm6, rfx7, rfm7, nI_add, pk_mul, lm_2, lm_4, lm_5, lm_7, lm_8, lm_10, lm_40, lm_60, lm_61, lm_364, lm_1000, la_1, al_1, la_10, al_10, la_11, al_11, la_100, al_100, la_364, al_364, d8, m8, ↓reduceIte, rA1, rA3, rI2, rJ1, rJ2, rJ4, rN1, rN2, rN3, rAs, rIs, rJs, rAn, rIn, rJn, t39]; exact Sm.mk rfl (hI.ref1 5)
        · simp (disch := omega) only [Int32.lt_iff_toInt_lt, Int32.le_iff_toInt_le, i32eq, tI, t_0, t_1, t_2, t_3, t_4, t_5, t_6, t_7, t_8, t_9, t_10, t_16, t_31, t_40, t_48, t_50, t_52, t_57, t_60, t_61, t_64, t_90, t_99, t_100, t_108, t_112, t_114, t_115, t_119, t_121, t_200, t_256, t_364, t_400, t_480, t_960, t_999, t_1000, t_4000, t_99999, t_1000000000, t_2147483647, t_m1, t_m2, t_m3, t_m4, t_m5, t_m6, t_m7, t_m1000, nI_clamp, inb_T, Option.elim_some, Option.elim_none, if_pos, if_neg, rfx1, rfm1, rfx2, rfm2, rfx3, rfm3, rfx4, rfm4, rfx5, rfm5, rfx6, rfm6, rfx7, rfm7, nI_add, pk_mul, lm_2, lm_4, lm_5, lm_7, lm_8, lm_10, lm_40, lm_60, lm_61, lm_364, lm_1000, la_1, al_1, la_10, al_10, la_11, al_11, la_100, al_100, la_364, al_364, d8, m8, ↓reduceIte, rA1, rA3, rI2, rJ1, rJ2, rJ4, rN1, rN2, rN3, rAs, rIs, rJs, rAn, rIn, rJn, t39]
          exact block_main hI h1 (by omega) (by omega)
