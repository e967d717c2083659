/-! copy, ill -/
theorem cpyM {m : VM} {p q i j n : Nat} (hp : p < 8) (hq : q < 8) (hi : i + n ≤ 60) (hj : j + n ≤ 60) : ∃ h g, loopF none (b_X12_copy_165 m (nI p) (nI q) (nI i) (nI j) (nI n)) (0, m) = some (1, setJ (setJ m 1216 0 h) 1215 0 g) ∧ ∀ k, g k = if 60 * q + j ≤ k ∧ k < 60 * q + j + n then m.2.2.1 1215 0 (60 * p + i + (k - (60 * q + j))) else m.2.2.1 1215 0 k := by
  refine lp_cnt (V := Int32 × VM) (d := none) n (fun k v => ∃ h, v = (nI k, setJ m 1216 0 h) ∧ ∀ t, t < k → h t = m.2.2.1 1215 0 (60 * p + i + t)) (fun o => ∃ h g, o = some (1, setJ (setJ m 1216 0 h) 1215 0 g) ∧ ∀ k, g k = if 60 * q + j ≤ k ∧ k < 60 * q + j + n then m.2.2.1 1215 0 (60 * p + i + (k - (60 * q + j))) else m.2.2.1 1215 0 k) ?_ ?_ 0 (0, m) (by omega) ⟨m.2.2.1 1216 0, by rw [setJ_id]; rfl, fun t ht => absurd ht (Nat.not_lt_zero t)⟩
  · rintro k v hk ⟨h, rfl, hh⟩
    left
    unfold b_X12_copy_165
    simp (disch := omega) only [Int32.le_iff_toInt_le, tI, if_neg, if_pos, inb_T, lm_60, nI_add, nI_clamp, nI_1]
    rw [sJ_s, setJJ]
    refine ⟨_, rfl, _, rfl, fun t ht => ?_⟩
    by_cases e : t = k
    · subst e; rw [pk_uLs, rJn (by decide)]
    · rw [pk_uLn e]; exact hh t (by omega)
  · rintro v ⟨h, rfl, hh⟩
    unfold b_X12_copy_165
    rw [if_pos (Int32.le_refl _)]
    have key : ∃ g, loopF (Sum.inr none) (b_X12_copy_202 m (nI p) (nI q) (nI i) (nI j) (nI n) (nI n, setJ m 1216 0 h)) (0, setJ m 1216 0 h) = Sum.inr (some (1, setJ (setJ m 1216 0 h) 1215 0 g)) ∧ ∀ k, g k = if 60 * q + j ≤ k ∧ k < 60 * q + j + n then m.2.2.1 1215 0 (60 * p + i + (k - (60 * q + j))) else m.2.2.1 1215 0 k := by
      refine lp_cnt (V := Int32 × VM) (d := Sum.inr none) n (fun k v => ∃ g, v = (nI k, setJ (setJ m 1216 0 h) 1215 0 g) ∧ ∀ t, g t = if 60 * q + j ≤ t ∧ t < 60 * q + j + k then m.2.2.1 1215 0 (60 * p + i + (t - (60 * q + j))) else m.2.2.1 1215 0 t) (fun o => ∃ g, o = Sum.inr (some (1, setJ (setJ m 1216 0 h) 1215 0 g)) ∧ ∀ k, g k = if 60 * q + j ≤ k ∧ k < 60 * q + j + n then m.2.2.1 1215 0 (60 * p + i + (k - (60 * q + j))) else m.2.2.1 1215 0 k) ?_ ?_ 0 (0, setJ m 1216 0 h) (by omega) ⟨m.2.2.1 1215 0, ?_, fun t => by rw [if_neg (by omega)]⟩
      · rintro k v hk ⟨g, rfl, hg⟩
        left
        unfold b_X12_copy_202
        simp (disch := omega) only [Int32.le_iff_toInt_le, tI, if_neg, if_pos, inb_T, lm_60, nI_add, nI_clamp, nI_1]
        rw [sJ_s, setJJ]
        refine ⟨_, rfl, _, rfl, fun t => ?_⟩
        by_cases e : t = 60 * q + j + k
        · subst e
          rw [pk_uLs, rJn (by decide), sJ_s, if_pos (by omega), hh k hk, show 60 * q + j + k - (60 * q + j) = k by omega]
        · rw [pk_uLn e, hg t]
          by_cases e2 : 60 * q + j ≤ t ∧ t < 60 * q + j + k
          · rw [if_pos e2, if_pos (by omega)]
          · rw [if_neg e2, if_neg (by omega)]
      · rintro v ⟨g, rfl, hg⟩
        unfold b_X12_copy_202
        rw [if_pos (Int32.le_refl _)]
        exact ⟨_, rfl, g, rfl, hg⟩
      · have := setJ_id (setJ m 1216 0 h) 1215 0
        rw [rJn (by decide)] at this
        rw [this]; rfl
    obtain ⟨g, g1, g2⟩ := key
    exact ⟨_, g1, h, g, rfl, g2⟩
theorem she_copy {x m : VM} {p q i j n : Nat} {h g : Nat → Int64} (hI : Inv x m) (hp : p < 8) (hq : q < 8) (rp : isRow x m p) (hi : i + n ≤ 60) (hj : j + n ≤ 60) (hg : ∀ k, g k = if 60 * q + j ≤ k ∧ k < 60 * q + j + n then m.2.2.1 1215 0 (60 * p + i + (k - (60 * q + j))) else m.2.2.1 1215 0 k) : IShe (setJ x 900 q (va_cpy (x.2.2.1 900 p) (x.2.2.1 900 q) i j n)) (setJ (setJ m 1216 0 h) 1215 0 g) := by
  intro s hs
  by_cases e : s = q
  · subst e
    rcases hI.she s hs with a | a | a
    · exact Or.inl a
    · refine Or.inr (Or.inl ⟨a.1, a.2.1, a.2.2.1, a.2.2.2.1, a.2.2.2.2.1, fun t ht => ?_⟩)
      rw [sJ_s, sJ_s, hg]
      by_cases e2 : j ≤ t ∧ t < j + n
      · rw [if_pos (by omega), pk_cpy_in e2.1 e2.2, ← rp.2.2.2.2.2 (i + (t - j)) (by omega), show 60 * p + i + (60 * s + t - (60 * s + j)) = 60 * p + (i + (t - j)) by omega]
      · rw [if_neg (by omega), pk_cpy_out (by omega)]
        exact a.2.2.2.2.2 t ht
    · exact Or.inr (Or.inr a)
  · refine she_k (hI.she s hs) rfl rfl rfl rfl rfl rfl rfl (fun t ht => ?_) (fun t ht => ?_) rfl
    · rw [sJ_n e]
    · rw [sJ_s, hg, if_neg (by omega)]
theorem spn_T (p n : Int32) (N : Nat) : (spn p n N = true) = (0 ≤ p.toInt ∧ 0 ≤ n.toInt ∧ p.toInt + n.toInt ≤ N) := propext ⟨of_decide_eq_true, fun h => decide_eq_true h⟩
theorem copy_rows {x m : VM} {p q : Nat} {i j n : Int32} (hI : Inv x m) (h1 : p < 8) (h2 : q < 8) (b : isRow x m p) (d : isRow x m q) (hss : x.1 901 p = x.1 901 q) : Sm Inv (j_X11_copy_78 x (nI p) (nI q) i j n p q 1) (j_X12_copy_82 m (nI p) (nI q) i j n) := by
  unfold j_X11_copy_78 j_X12_copy_82
  have ip : inb (nI p) 8 = true := by rw [inb_T, tI (by omega)]; omega
  have iq : inb (nI q) 8 = true := by rw [inb_T, tI (by omega)]; omega
  simp only [if_neg n10, if_pos hss, if_pos ip, if_pos iq, nI_clamp (show p < 2 ^ 31 by omega), nI_clamp (show q < 2 ^ 31 by omega), b.1, d.1, b.2.2.2.1, d.2.2.2.1]
  obtain ⟨u, u1, u2, u3⟩ := rng_nI (a := 0) (b := 60) b.2.2.2.2.1 (by decide)
  obtain ⟨v, v1, v2, v3⟩ := rng_nI (a := 0) (b := 60) d.2.2.2.2.1 (by decide)
  rw [u3, v3]
  by_cases hn : n.toInt < 0
  · rw [if_neg (show ¬ (0 : Int32) ≤ n by rw [Int32.le_iff_toInt_le, t_0]; omega), if_neg (show ¬ (0 : Int32) ≤ n by rw [Int32.le_iff_toInt_le, t_0]; omega)]
    exact Sm.mk rfl (hI.ref1 3)
  · have h0 : (0 : Int32) ≤ n := by rw [Int32.le_iff_toInt_le, t_0]; omega
    simp only [if_pos h0]
    have su : (nI u - n).toInt = (u : Int) - n.toInt := by
      have := Int32.toInt_lt n
      rw [subT] <;> rw [tI (by omega)] <;> omega
    have sv : (nI v - n).toInt = (v : Int) - n.toInt := by
      have := Int32.toInt_lt n
      rw [subT] <;> rw [tI (by omega)] <;> omega
    rcases hspan (p := i) (q := n) h1 u3 u2 (by omega) with ⟨w1, w2, w3⟩ | ⟨w1, w2⟩
    · rw [w1]
      simp (disch := omega) only [Option.elim_some, if_neg n10, Int32.lt_iff_toInt_lt, Int32.le_iff_toInt_le, t_0, su, sv, if_neg, if_pos]
      rcases hspan (p := j) (q := n) h2 v3 v2 (by omega) with ⟨y1, y2, y3⟩ | ⟨y1, y2⟩
      · obtain ⟨n, n60, rfl⟩ : ∃ k, k ≤ 60 ∧ n = nI k := by
          rcases ar n 0 60 (by decide) with z | z | ⟨k, _, k2, rfl⟩
          · omega
          · omega
          · exact ⟨k, k2, rfl⟩
        obtain ⟨i, i60, rfl⟩ : ∃ k, k ≤ 60 ∧ i = nI k := by
          rcases ar i 0 60 (by decide) with z | z | ⟨k, _, k2, rfl⟩
          · omega
          · omega
          · exact ⟨k, k2, rfl⟩
        obtain ⟨j, j60, rfl⟩ : ∃ k, k ≤ 60 ∧ j = nI k := by
          rcases ar j 0 60 (by decide) with z | z | ⟨k, _, k2, rfl⟩
          · omega
          · omega
          · exact ⟨k, k2, rfl⟩
        rw [tI (by omega), tI (by omega)] at w3 y3
        have iu : i + n ≤ 60 := by omega
        have jv : j + n ≤ 60 := by omega
        obtain ⟨h, g, g1, g2⟩ := cpyM (m := m) h1 h2 iu jv
        rw [y1]
        simp (disch := omega) only [Option.elim_some, if_neg n10, spn_T, tI, if_pos, if_neg, nI_clamp, g1]
        exact Sm.mk rfl ⟨hI.bas, hI.cnt, hI.now, hI.pur, hI.clr, hI.fau, hI.cod, hI.sha, hI.fee, hI.law, (she_copy hI h1 h2 b iu jv g2), hI.per, hI.pe0, hI.pic, hI.ord, hI.dra, hI.pi0, hI.sce, hI.sc0, hI.hal, hI.ha0, hI.shw, hI.pla, hI.cac, hI.ref⟩
      · rw [y1]
        by_cases hj0 : j.toInt < 0
        · simp (disch := omega) only [Option.elim_some, if_pos]
          exact Sm.mk rfl (hI.ref1 4)
        · simp (disch := omega) only [Option.elim_some, if_pos, if_neg]
          exact Sm.mk rfl (hI.ref1 4)
    · rw [w1]
      by_cases hi0 : i.toInt < 0
      · simp (disch := omega) only [Option.elim_some, Int32.lt_iff_toInt_lt, t_0, if_pos]
        exact Sm.mk rfl (hI.ref1 4)
      · by_cases hj0 : j.toInt < 0
        · simp (disch := omega) only [Option.elim_some, Int32.lt_iff_toInt_lt, t_0, if_pos, if_neg]
          exact Sm.mk rfl (hI.ref1 4)
        · simp (disch := omega) only [Option.elim_some, Int32.lt_iff_toInt_lt, t_0, su, if_pos, if_neg]
          exact Sm.mk rfl (hI.ref1 4)
theorem copy_x {x : VM} {p q : Nat} {i j n a c : Int32} (h1 : p < 8) (h2 : q < 8) (e1 : f_X11_shelfAt x (nI p) = some (some p)) (f1 : f_X11_shelfAt x (nI q) = some (some q)) (ha : f_X9_lackOfRow x p = some a) (hc : f_X9_lackOfRow x q = some c) : f_X11_copy x (nI p) (nI q) i j n = if a = -2 then some (-2, rX x 1) else if c = -2 then some (-2, rX x 1) else if a = 0 then if c = 0 then j_X11_copy_78 x (nI p) (nI q) i j n p q 1 else some (-3, rX x 2) else some (-3, rX x 2) := by
  have z : ∀ p q, j_X11_copy_77 x p q i j n p.toNatClampNeg q.toNatClampNeg = some (-3, rX x 2) := fun _ _ => rfl
  have z2 : j_X11_copy_77 x (nI p) (nI q) i j n p q = some (-3, rX x 2) := rfl
  unfold f_X11_copy
  simp only [e1, f1, ha, hc, Option.elim_some, if_pos h1, if_pos h2, z2, rfx2]
theorem copy_m {m : VM} {p q : Nat} {i j n : Int32} (h1 : p < 8) (h2 : q < 8) (e1 : f_X12_isShelf m (nI p) = some 1) (f1 : f_X12_isShelf m (nI q) = some 1) : f_X12_copy m (nI p) (nI q) i j n = if m.2.1 1211 0 p = 2 then some (-2, rM m 2) else if m.2.1 1211 0 q = 2 then some (-2, rM m 2) else if m.2.1 1211 0 p = 1 then if m.2.1 1211 0 q = 1 then if m.2.1 1212 0 p = m.2.1 1212 0 q then j_X12_copy_82 m (nI p) (nI q) i j n else some (-2, rM m 2) else j_X12_copy_82 m (nI p) (nI q) i j n else j_X12_copy_82 m (nI p) (nI q) i j n := by
  have ip : inb (nI p) 8 = true := by rw [inb_T, tI (by omega)]; omega
  have iq : inb (nI q) 8 = true := by rw [inb_T, tI (by omega)]; omega
  unfold f_X12_copy
  simp only [e1, f1, Option.elim_some, if_neg n10, if_pos ip, if_pos iq, nI_clamp (show p < 2 ^ 31 by omega), nI_clamp (show q < 2 ^ 31 by omega), rfm2]
theorem copy_0 {m : VM} {p q : Nat} {i j n : Int32} (h1 : p < 8) (h2 : q < 8) (h : m.2.1 1211 0 p = 0 ∨ m.2.1 1211 0 q = 0) : j_X12_copy_82 m (nI p) (nI q) i j n = some (-3, rM m 3) := by
  have ip : inb (nI p) 8 = true := by rw [inb_T, tI (by omega)]; omega
  have iq : inb (nI q) 8 = true := by rw [inb_T, tI (by omega)]; omega
  unfold j_X12_copy_82
  simp only [if_pos ip, if_pos iq, nI_clamp (show p < 2 ^ 31 by omega), nI_clamp (show q < 2 ^ 31 by omega), rfm3, Option.elim_some]
  by_cases e : m.2.1 1211 0 p = 0
  · rw [if_pos e]
  · rw [if_neg e]
    rcases h with h | h
    · exact absurd h e
    · rw [if_pos h]
theorem s_copy : S_copy Inv := by
  intro x m p q i j n hI
  show Sm Inv _ _
  rcases c_shelf x m p with ⟨e1, e2⟩ | ⟨p, h1, rfl, e1, e2⟩
  · unfold f_X11_copy f_X12_copy
    rw [e1, e2]
    rcases c_shelf x m q with ⟨f1, f2⟩ | ⟨q, h2, rfl, f1, f2⟩
    · rw [f1]; exact Sm.mk rfl (hI.ref1 0)
    · rw [f1]; exact Sm.mk rfl (hI.ref1 0)
  · rcases c_shelf x m q with ⟨f1, f2⟩ | ⟨q, h2, rfl, f1, f2⟩
    · unfold f_X11_copy f_X12_copy
      rw [e1, e2, f1, f2]; exact Sm.mk rfl (hI.ref1 0)
    · rw [copy_m h1 h2 e2 f2]
      rcases c_she hI h1 with ⟨a, b, _⟩ | ⟨a, b⟩ | ⟨a, b, _⟩
      · rcases c_she hI h2 with ⟨c, d, _⟩ | ⟨c, d⟩ | ⟨c, d, _⟩
        · rw [copy_x h1 h2 e1 f1 a c, copy_0 h1 h2 (Or.inl b), b, d]; exact Sm.mk rfl (hI.ref1 2)
        · rw [copy_x h1 h2 e1 f1 a c, copy_0 h1 h2 (Or.inl b), b, d.1]; exact Sm.mk rfl (hI.ref1 2)
        · rw [copy_x h1 h2 e1 f1 a c, b, d]; exact Sm.mk rfl (hI.ref1 1)
      · rcases c_she hI h2 with ⟨c, d, _⟩ | ⟨c, d⟩ | ⟨c, d, _⟩
        · rw [copy_x h1 h2 e1 f1 a c, copy_0 h1 h2 (Or.inr d), b.1, d]; exact Sm.mk rfl (hI.ref1 2)
        · rw [copy_x h1 h2 e1 f1 a c, b.1, d.1, b.2.1, d.2.1]
          have := copy_rows (i := i) (j := j) (n := n) hI h1 h2 b d
          by_cases hss : x.1 901 p = x.1 901 q
          · have t := this hss
            rw [if_pos hss]
            exact t
          · rw [if_neg hss]
            have : j_X11_copy_78 x (nI p) (nI q) i j n p q 1 = some (-2, rX x 1) := by
              unfold j_X11_copy_78
              rw [if_neg n10, if_neg hss]; rfl
            rw [this]
            exact Sm.mk rfl (hI.ref1 1)
        · rw [copy_x h1 h2 e1 f1 a c, b.1, d]; exact Sm.mk rfl (hI.ref1 1)
      · rcases c_she hI h2 with ⟨c, d, _⟩ | ⟨c, d⟩ | ⟨c, d, _⟩
        · rw [copy_x h1 h2 e1 f1 a c, b]; exact Sm.mk rfl (hI.ref1 1)
        · rw [copy_x h1 h2 e1 f1 a c, b]; exact Sm.mk rfl (hI.ref1 1)
        · rw [copy_x h1 h2 e1 f1 a c, b]; exact Sm.mk rfl (hI.ref1 1)
theorem illM {m : VM} {w s n : Nat} (hw : w < 16) (hs : s < 8) (hn : n ≤ 60) (hz : m.2.1 1213 0 s = nI n) : ∃ g, loopF none (b_X12_ill_45 m (nI w) (nI s)) (0, setA m 1232 0 (upd (m.2.1 1232 0) w (nI n))) = some (nI n, setJ (setA m 1232 0 (upd (m.2.1 1232 0) w (nI n))) 1233 0 g) ∧ (∀ j, j < n → g (60 * w + j) = m.2.2.1 1215 0 (60 * s + j)) ∧ ∀ k, (k < 60 * w ∨ 60 * w + 60 ≤ k) → g k = m.2.2.1 1233 0 k := by
  refine lp_cnt (V := Int32 × VM) (d := none) n (fun i v => ∃ g, v = (nI i, setJ (setA m 1232 0 (upd (m.2.1 1232 0) w (nI n))) 1233 0 g) ∧ (∀ j, j < i → g (60 * w + j) = m.2.2.1 1215 0 (60 * s + j)) ∧ ∀ k, (k < 60 * w ∨ 60 * w + 60 ≤ k) → g k = m.2.2.1 1233 0 k) (fun o => ∃ g, o = some (nI n, setJ (setA m 1232 0 (upd (m.2.1 1232 0) w (nI n))) 1233 0 g) ∧ (∀ j, j < n → g (60 * w + j) = m.2.2.1 1215 0 (60 * s + j)) ∧ ∀ k, (k < 60 * w ∨ 60 * w + 60 ≤ k) → g k = m.2.2.1 1233 0 k) ?_ ?_ 0 _ (by omega) ⟨m.2.2.1 1233 0, ?_, fun j hj => absurd hj (Nat.not_lt_zero j), fun k _ => rfl⟩
  · rintro i v hi ⟨g, rfl, hg, hk⟩
    left
    unfold b_X12_ill_45
    simp (disch := omega) only [inb_T, tI, nI_clamp, if_pos, rJ2, rAn, hz, Int32.le_iff_toInt_le, if_neg, lm_60, nI_add, nI_1]
    rw [sJ_s, setJJ, rJn (by decide), rA3]
    refine ⟨_, rfl, _, rfl, fun j hj => ?_, fun k hq => ?_⟩
    · by_cases e : j = i
      · subst e; exact pk_uLs
      · rw [pk_uLn (by omega)]; exact hg j (by omega)
    · rw [pk_uLn (by omega)]; exact hk k hq
  · rintro v ⟨g, rfl, hg⟩
    refine ⟨_, ?_, g, rfl, hg⟩
    unfold b_X12_ill_45
    simp (disch := omega) only [inb_T, tI, nI_clamp, if_pos, rJ2, rAn, hz, Int32.le_iff_toInt_le]
  · have := setJ_id (setA m 1232 0 (upd (m.2.1 1232 0) w (nI n))) 1233 0
    rw [rA3] at this
    rw [this]; rfl
theorem s_ill : S_ill Inv := by
  intro x m p q hI
  show Sm Inv _ _
  unfold f_X11_ill f_X12_ill
  rcases c_per hI p with ⟨e1, e2⟩ | ⟨w, w1, w2, rfl, e1, e2⟩
  · rw [e1, e2]
    rcases c_row hI q with ⟨f1, _⟩ | ⟨s, _, rfl, _, h | h | h⟩
    · rw [f1]; exact Sm.mk rfl (hI.ref1 0)
    · rw [h.1]; exact Sm.mk rfl (hI.ref1 0)
    · rw [h.1]; exact Sm.mk rfl (hI.ref1 0)
    · rw [h.1]; exact Sm.mk rfl (hI.ref1 0)
  · rw [e1, e2]
    rcases c_row hI q with ⟨f1, f2, f3⟩ | ⟨s, s8, rfl, f3, h | h | h⟩
    · simp only [Option.elim_some, f1, f2]; exact Sm.mk rfl (hI.ref1 0)
    · simp only [Option.elim_some, h.1, h.2.1]; exact Sm.mk rfl (hI.ref1 1)
    · simp only [Option.elim_some, h.1, h.2.1]; exact Sm.mk rfl (hI.ref1 2)
    · obtain ⟨a1, a2, b1, b2, b3, b4, b5, b6⟩ := h
      obtain ⟨n, n1, n2, n3⟩ := rng_nI (a := 0) (b := 60) b5 (by decide)
      obtain ⟨g, g1, g2, g3⟩ := illM (m := m) w2 s8 n2 (by rw [b4, n3])
      unfold f_X4_takeIllness
      have t0 : (0 : Int32).toNatClampNeg = 0 := rfl
      simp (disch := omega) only [Int32.lt_iff_toInt_lt, Int32.le_iff_toInt_le, i32eq, tI, t_0, t_1, t_2, t_3, t_4, t_5, t_6, t_7, t_8, t_9, t_10, t_16, t_31, t_40, t_48, t_50, t_52, t_57, t_60, t_61, t_64, t_90, t_99, t_100, t_108, t_112, t_114, t_115, t_119, t_121, t_200, t_256, t_364, t_400, t_480, t_960, t_999, t_1000, t_4000, t_99999, t_1000000000, t_2147483647, t_m1, t_m2, t_m3, t_m4, t_m5, t_m6, t_m7, t_m1000, nI_clamp, inb_T, Option.elim_some, Option.elim_none, if_pos, if_neg, rfx1, rfm1, rfx2, rfm2, rfx3, rfm3, rfx4, rfm4, rfx5, rfm5, rfx6, rfm6, rfx7, rfm7, nI_add, pk_mul, lm_2, lm_4, lm_5, lm_7, lm_8, lm_10, lm_40, lm_60, lm_61, lm_364, lm_1000, la_1, al_1, la_10, al_10, la_11, al_11, la_100, al_100, la_364, al_364, d8, m8, ↓reduceIte, rA1, rA3, rI2, rJ1, rJ2, rJ4, rN1, rN2, rN3, rAs, rIs, rJs, rAn, rIn, rJn, a1, a2, b4, n3, spn_T, g1, t0]
      refine Sm.mk rfl ⟨hI.bas, hI.cnt, hI.now, hI.pur, hI.clr, hI.fau, hI.cod, hI.sha, hI.fee, hI.law, hI.she, (?_), (?_), hI.pic, hI.ord, hI.dra, hI.pi0, hI.sce, hI.sc0, hI.hal, hI.ha0, hI.shw, hI.pla, hI.cac, hI.ref⟩
      · refine per_upd (w := w) hI.per rfl rfl ?_ (fun w' e F hF => rIw e) (fun w' e => rfl) (fun w' e => ?_) rfl (fun w' e F hF => rAw e) (fun _ _ _ _ => rfl) (fun w' e j hj => ?_)
        · obtain ⟨c1, c2, c3, c4, c5, c6, c7, c8, c9, c10⟩ := hI.per w w1
          refine ⟨c1, c2, c3, c4, c5, c6, c7, c8, ⟨pk_us.trans sI_s.symm, ?_, fun j hj => ?_⟩, c10⟩
          · have : rng (nI n) 0 60 := rng_I (a := 0) (b := 60) n1 n2 (by decide)
            exact (sI_s (x := x) (F := 403) (a := w) (h := nI n)).symm ▸ this
          · have hj' : (j : Int) < ((setI x 403 w (nI n)).1 403 w).toInt := hj
            rw [sI_s, tI (by omega)] at hj'
            rw [sJ_s, sJ_s, g2 j (by omega), pk_cpy_in (by omega) (by omega), b6 j (by omega), show 0 + (j - 0) = j by omega]
        · rw [sJ_n e]; rfl
        · rw [sJ_s, g3 _ (by omega)]
      · exact pe0_upd hI.pe0 rfl w1 rfl (fun w' e F hF => rAw e)
