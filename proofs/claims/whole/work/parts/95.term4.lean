/-! a term begins -/
def tE (Z : VM) (w : Nat) : VM := setA (setA (setA (setA (setA (setA Z 1222 0 (upd (Z.2.1 1222 0) w 0)) 1223 0 (upd (Z.2.1 1223 0) w 0)) 1224 0 (upd (Z.2.1 1224 0) w 0)) 1225 0 (upd (Z.2.1 1225 0) w 0)) 1228 0 (upd (Z.2.1 1228 0) w 0)) 1220 0 (upd (Z.2.1 1220 0) w (-1))
theorem begM {m Z : VM} {w : Nat} {q : Int32} (h16 : w < 16) (B : (Int32 × VM) → (Int32 × VM) ⊕ (Option (Int32 × VM))) (hB : B = b_X12_term_121 m (nI w) q ∨ B = b_X12_term_121_31 m (nI w) q) : ∃ C, loopF none B (0, Z) = some (Z.2.1 1219 0 w, tE (setA Z 1229 0 C) w) ∧ (∀ k, k < 5 → C (5 * w + k) = Z.2.1 1270 0 (k + 1)) ∧ ∀ j, (j < 5 * w ∨ 5 * w + 5 ≤ j) → C j = Z.2.1 1229 0 j := by
  refine lp_cnt (V := Int32 × VM) (d := none) 5 (fun k v => ∃ C, v = (nI k, setA Z 1229 0 C) ∧ (∀ k', k' < k → C (5 * w + k') = Z.2.1 1270 0 (k' + 1)) ∧ ∀ j, (j < 5 * w ∨ 5 * w + 5 ≤ j) → C j = Z.2.1 1229 0 j) (fun o => ∃ C, o = some (Z.2.1 1219 0 w, tE (setA Z 1229 0 C) w) ∧ (∀ k, k < 5 → C (5 * w + k) = Z.2.1 1270 0 (k + 1)) ∧ ∀ j, (j < 5 * w ∨ 5 * w + 5 ≤ j) → C j = Z.2.1 1229 0 j) ?_ ?_ 0 _ (by omega) ⟨Z.2.1 1229 0, by rw [setA_id] <;> rfl, fun k hk => by omega, fun j _ => rfl⟩
  · rintro k v hk ⟨C, rfl, h1, h2⟩
    left
    have eB : B (nI k, setA Z 1229 0 C) = Sum.inl (nI (k + 1), setA Z 1229 0 (upd C (5 * w + k) (Z.2.1 1270 0 (k + 1)))) := by
      rcases hB with rfl | rfl
      · unfold b_X12_term_121
        simp (disch := omega) only [Int32.le_iff_toInt_le, t_5, tI, if_neg, inb_T, if_pos, nI_clamp, lm_5, nI_add, nI_1, rAn, rAs, setAA]
      · unfold b_X12_term_121_31
        simp (disch := omega) only [Int32.le_iff_toInt_le, t_5, tI, if_neg, inb_T, if_pos, nI_clamp, lm_5, nI_add, nI_1, rAn, rAs, setAA]
    refine ⟨_, eB, _, rfl, fun k' hk' => ?_, fun j hj => ?_⟩
    · by_cases e : k' = k
      · subst e; exact pk_us
      · rw [u_n (by omega)]; exact h1 k' (by omega)
    · rw [u_n (by omega)]; exact h2 j hj
  · rintro v ⟨C, rfl, h1, h2⟩
    have g5 : (5 : Int32) ≤ nI 5 := by decide
    have ein : inb (nI w) 16 = true := by rw [inb_T, tI (by omega)]; omega
    have eB : B (nI 5, setA Z 1229 0 C) = Sum.inr (some (Z.2.1 1219 0 w, tE (setA Z 1229 0 C) w)) := by
      rcases hB with rfl | rfl
      · unfold b_X12_term_121 tE
        simp (disch := omega) only [if_pos g5, if_pos ein, nI_clamp, rAn, rAs]
      · unfold b_X12_term_121_31 tE
        simp (disch := omega) only [if_pos g5, if_pos ein, nI_clamp, rAn, rAs]
    exact ⟨_, eB, C, rfl, h1, h2⟩
def tB (y : VM) (w : Nat) (K : Nat → Int32) (d : Int32) : VM := setI (setI (setI (setI (setI (setI (setA y 401 w K) 404 w d) 405 w (d + 364 * K 5)) 409 w 0) 410 w 0) 411 w 0) 412 w 0
theorem begX {y : VM} {w : Nat} {d : Int32} (w1 : w < y.2.2.2 4) : ∃ K, f_X4_beginTerm y w d = some (tB y w K d) ∧ ∀ l, l < 6 → K l = if y.2.1 1000 0 l = -1 then sv4 l else y.2.1 1000 0 l := by
  unfold f_X4_beginTerm
  refine lp_cnt (V := Int32 × VM) (d := none) 6 (fun k v => ∃ K, v = (nI k, setA y 401 w K) ∧ ∀ l, l < k → K l = if y.2.1 1000 0 l = -1 then sv4 l else y.2.1 1000 0 l) (fun o => ∃ K, o = some (tB y w K d) ∧ ∀ l, l < 6 → K l = if y.2.1 1000 0 l = -1 then sv4 l else y.2.1 1000 0 l) ?_ ?_ 0 _ (by omega) ⟨y.2.1 401 w, by rw [setA_id] <;> rfl, fun l hl => by omega⟩
  · rintro k v hk ⟨K, rfl, h1⟩
    left
    have w1' : w < (setA y 401 w K).2.2.2 4 := w1
    have e1 : (setA y 401 w K).2.1 1000 0 = y.2.1 1000 0 := rfl
    have eB : b_X4_beginTerm_2 y w d (nI k, setA y 401 w K) = Sum.inl (nI (k + 1), setA y 401 w (upd K k (if y.2.1 1000 0 k = -1 then sv4 k else y.2.1 1000 0 k))) := by
      unfold b_X4_beginTerm_2
      simp only [if_neg (show ¬ (6 : Int32) ≤ nI k by rw [Int32.le_iff_toInt_le, tI (by omega), t_6]; omega), if_pos w1', if_pos (show inb (nI k) 6 = true by rw [inb_T, tI (by omega)]; omega), nI_clamp (show k < 2 ^ 31 by omega), e1, sA_s, setAA, nI_1]
      by_cases e : y.2.1 1000 0 k = -1
      · rw [if_pos e, if_pos e]
      · rw [if_neg e, if_neg e]
    refine ⟨_, eB, _, rfl, fun l hl => ?_⟩
    by_cases e : l = k
    · subst e; exact pk_us
    · rw [u_n e]; exact h1 l (by omega)
  · rintro v ⟨K, rfl, h1⟩
    have w1' : w < (setA y 401 w K).2.2.2 4 := w1
    refine ⟨_, ?_, K, rfl, h1⟩
    unfold b_X4_beginTerm_2 j_X4_beginTerm_44 tB
    have c5 : (5 : Int32).toNatClampNeg = 5 := rfl
    rw [if_pos (show (6 : Int32) ≤ nI 6 by decide), if_pos w1', rI2, sA_s, c5]
theorem rAw2 {Y : VM} {F G w w' : Nat} {v : Int32} {f : Nat → Int32} (h : w' ≠ w) (hf : f w' = Y.2.1 G 0 w') : (setA Y G 0 (upd f w v)).2.1 F 0 w' = Y.2.1 F 0 w' := by
  by_cases e : F = G
  · subst e; rw [rAs, u_n h]; exact hf
  · rw [rAn e]
theorem term_inv {x m : VM} {w : Nat} {K C cl rd : Nat → Int32} (hI : Inv x m) (w1 : w < x.2.2.2 4) (w2 : w < 16) (hu : ¬ undT (m.2.1 1227 0 w) (x.1 404 w) (x.1 405 w) (x.1 1116 0)) (hcl : ∀ t, t < 6 → cl (ltS t) = rd t ∧ okV t (rd t)) (hK : ∀ l, l < 6 → K l = if cl l = -1 then sv4 l else cl l) (hC1 : ∀ k, k < 5 → C (5 * w + k) = rd (k + 1)) (hC2 : ∀ j, (j < 5 * w ∨ 5 * w + 5 ≤ j) → C j = m.2.1 1229 0 j) (e : Int32) (he : e = x.1 1116 0 + 364 * (if rd 0 = -1 then 1 else rd 0)) : Inv (tB x w K (x.1 1116 0)) (tE (setA (setA (setA (setA m 1227 0 (upd (m.2.1 1227 0) w 1)) 1218 0 (upd (m.2.1 1218 0) w (x.1 1116 0))) 1219 0 (upd (m.2.1 1219 0) w e)) 1229 0 C) w) ∧ (tB x w K (x.1 1116 0)).1 405 w = e := by
  obtain ⟨d, d1, d2, d3⟩ := rng_nI (a := 0) (b := 4000) hI.now.2 (by decide)
  obtain ⟨y, y1, y9, y3⟩ : ∃ y, 1 ≤ y ∧ y ≤ 9 ∧ (if rd 0 = -1 then 1 else rd 0) = nI y := by
    rcases (hcl 0 (by omega)).2 with q | ⟨u, u1, u2, u3⟩
    · exact ⟨1, by omega, by omega, by rw [if_pos q]; rfl⟩
    · obtain ⟨u4, u5⟩ := u3 rfl
      exact ⟨u, u4, u5, by rw [if_neg (by rw [u2, i32eq, tI (by omega), t_m1]; omega), u2]⟩
  have K5 : K 5 = nI y := by
    rw [hK 5 (by omega), ← y3]
    have := (hcl 0 (by omega)).1
    rw [show ltS 0 = 5 from rfl] at this
    rw [this]; rfl
  have ee : e = nI (d + 364 * y) := by rw [he, y3, d3, lm_364, nI_add]
  have x404 : (tB x w K (x.1 1116 0)).1 404 w = x.1 1116 0 := by unfold tB; simp (disch := omega) only [rIn, rIs]
  have x405 : (tB x w K (x.1 1116 0)).1 405 w = e := by
    unfold tB; simp (disch := omega) only [rIn, rIs]
    rw [K5, he, y3]
  refine ⟨?_, x405⟩
  have hP := hI.per w w1
  obtain ⟨a1, a2, a3, a4, a5, a6, a7, a8, a9, a10⟩ := hP
  obtain ⟨z1, z2⟩ := a10 hu
  have hm : ∀ w', w' ≠ w → ∀ F, (1217 ≤ F ∧ F ≤ 1228) ∨ F = 1232 → (tE (setA (setA (setA (setA m 1227 0 (upd (m.2.1 1227 0) w 1)) 1218 0 (upd (m.2.1 1218 0) w (x.1 1116 0))) 1219 0 (upd (m.2.1 1219 0) w e)) 1229 0 C) w).2.1 F 0 w' = m.2.1 F 0 w' := by
    intro w' e' F hF
    unfold tE
    refine (rAw2 e' rfl).trans ((rAw2 e' rfl).trans ((rAw2 e' rfl).trans ((rAw2 e' rfl).trans ((rAw2 e' rfl).trans ((rAw2 e' rfl).trans ?_)))))
    rw [rAn (by omega)]
    exact (rAw2 e' rfl).trans ((rAw2 e' rfl).trans (rAw2 e' rfl))
  refine ⟨hI.bas, hI.cnt, hI.now, hI.pur, hI.clr, hI.fau, hI.cod, hI.sha, hI.fee, hI.law, hI.she, (?_), (?_), hI.pic, hI.ord, hI.dra, hI.pi0, hI.sce, hI.sc0, hI.hal, hI.ha0, hI.shw, hI.pla, hI.cac, hI.ref⟩
  · refine per_upd (w := w) hI.per rfl rfl ?_ (fun w' e F hF => ?_) (fun w' e => ?_) (fun w' e => rfl) rfl hm (fun w' e k hk => ?_) (fun _ _ _ _ => rfl)
    · have n0 : yrT (x.1 1116 0) (x.1 1116 0) = 0 := by rw [d3, yr_n (Nat.le_refl _) (by omega), Nat.sub_self]; rfl
      have x409 : (tB x w K (x.1 1116 0)).1 409 w = 0 := by unfold tB; simp (disch := omega) only [rIn, rIs]
      have x410 : (tB x w K (x.1 1116 0)).1 410 w = 0 := by unfold tB; simp (disch := omega) only [rIn, rIs]
      have x411 : (tB x w K (x.1 1116 0)).1 411 w = 0 := by unfold tB; simp (disch := omega) only [rIn, rIs]
      have x412 : (tB x w K (x.1 1116 0)).1 412 w = 0 := by unfold tB; simp (disch := omega) only [rIn, rIs]
      have x401 : (tB x w K (x.1 1116 0)).2.1 401 w = K := by unfold tB; simp only [rI2]; exact sA_s
      refine ⟨a1, Or.inr ⟨pk_us, pk_us.trans x405.symm, ?_, fun k hk => ?_⟩, ⟨pk_us.trans x404.symm, ?_, ?_⟩, ⟨pk_us.trans z1.symm, Or.inl z1⟩, ⟨?_, ?_⟩, a6, ⟨?_, ?_, ?_⟩, ⟨?_, ?_, ?_⟩, a9, fun _ => ⟨z1, z2⟩⟩
      · rw [x405, ee, d3, tI (by omega), tI (by omega)]; omega
      · rw [x401]
        show K k = if C (5 * w + k) = -1 then wout k else C (5 * w + k)
        rw [hC1 k hk, hK k (by omega), sv4_w k hk]
        have := (hcl (k + 1) (by omega)).1
        rw [show ltS (k + 1) = k from by unfold ltS; rw [if_neg (by omega)]; omega] at this
        rw [this]
      · rw [x404, d3, tI (by omega)]; omega
      · rw [x404]; exact Int.le_refl _
      · show rng (upd _ w (-1) w) (-1) 4400
        rw [pk_us]; unfold rng; decide
      · show x.1 407 w = if ¬ upd _ w (-1) w = -1 ∧ x.1 1116 0 < upd _ w (-1) w then upd _ w (-1) w else -1
        rw [pk_us, if_neg (fun q => q.1 rfl)]; exact z2
      · rw [x409, x410, x404, n0]
        show effY 0 0 0 = effY (upd _ w 0 w) (upd _ w 0 w) 0
        rw [pk_us, pk_us]
      · rw [x409, x404, n0]; exact Int.le_refl _
      · rw [x404, n0]
        show (upd _ w 0 w).toInt ≤ _
        rw [pk_us]; exact Int.le_refl _
      · rw [x411, x412, x404, n0]
        show effY 0 0 0 = effY (upd _ w 0 w) (upd _ w 0 w) 0
        rw [pk_us, pk_us]
      · rw [x411, x404, n0]; exact Int.le_refl _
      · rw [x404, n0]
        show (upd _ w 0 w).toInt ≤ _
        rw [pk_us]; exact Int.le_refl _
    · unfold tB
      rw [rIw e, rIw e, rIw e, rIw e, rIw e, rIw e, rA1]
    · unfold tB
      simp only [rI2]
      rw [sA_n e]
    · show C (5 * w' + k) = _
      exact hC2 _ (by omega)
  · exact pe0_upd hI.pe0 rfl w1 rfl hm
theorem s_term : S_term Inv := by
  intro x m p q hI
  show Sm Inv _ _
  unfold f_X11_term f_X12_term
  rcases c_per hI p with ⟨e1, e2⟩ | ⟨w, w1, w2, rfl, e1, e2⟩
  · rw [e1, e2]
    rcases c_row hI q with ⟨f1, _⟩ | ⟨s, _, rfl, _, h | h | h⟩
    · rw [f1]; exact Sm.mk rfl (hI.ref1 0)
    · rw [h.1]; exact Sm.mk rfl (hI.ref1 0)
    · rw [h.1]; exact Sm.mk rfl (hI.ref1 0)
    · rw [h.1]; exact Sm.mk rfl (hI.ref1 0)
  · rw [e1, e2]
    rcases c_row hI q with ⟨f1, f2, f3⟩ | ⟨s, s8, rfl, f3, h | h | h⟩
    · simp only [Option.elim_some, f1, f2]; exact Sm.mk rfl (hI.ref1 0)
    · simp only [Option.elim_some, h.1, h.2.1]; exact Sm.mk rfl (hI.ref1 1)
    · simp only [Option.elim_some, h.1, h.2.1]; exact Sm.mk rfl (hI.ref1 2)
    · obtain ⟨f, op, cl, rd, g1, g2, g3⟩ := l_reads hI s8 h.2.2
      have ein : inb (nI w) 16 = true := by rw [inb_T, tI (by omega)]; omega
      have hJ : Inv (setI (tX x op cl) 1002 0 f) (setI (setA m 1270 0 rd) 1209 0 f) := ⟨hI.bas, hI.cnt, hI.now, hI.pur, hI.clr, (rfl), hI.cod, hI.sha, hI.fee, hI.law, hI.she, hI.per, hI.pe0, hI.pic, hI.ord, hI.dra, hI.pi0, hI.sce, hI.sc0, hI.hal, hI.ha0, hI.shw, hI.pla, hI.cac, hI.ref⟩
      have w1' : w < (setI (tX x op cl) 1002 0 f).2.2.2 4 := w1
      have hN : (setI (setA m 1270 0 rd) 1209 0 f).1 1200 0 = x.1 1116 0 := hI.now.1
      have hNx : (setI (tX x op cl) 1002 0 f).1 1116 0 = x.1 1116 0 := rfl
      have hR : (setI (setA m 1270 0 rd) 1209 0 f).2.1 1270 0 = rd := by rw [rI2, rAs]
      have hX : (setI (tX x op cl) 1002 0 f).2.1 1000 0 = cl := by rw [rI2, tX_cl]
      have hF : (setI (setA m 1270 0 rd) 1209 0 f).1 1209 0 = f := sI_s
      have hFx : (setI (tX x op cl) 1002 0 f).1 1002 0 = f := sI_s
      simp only [Option.elim_some, h.1, h.2.1, if_neg n10, if_true, if_neg (show ¬ (0 : Int32) = -1 by decide), if_pos (inb8 s8), nI_clamp (show s < 2 ^ 31 by omega), g1, g2]
      generalize setI (tX x op cl) 1002 0 f = X1 at *
      generalize setI (setA m 1270 0 rd) 1209 0 f = M1 at *
      simp only [hF, hFx, hN, hNx]
      by_cases ef : f = -1
      · simp only [if_pos ef, if_pos w1']
        have hP := hJ.per w w1'
        rw [hNx] at hP
        rcases c_und hP w1' w2 (x.1 1116 0) with ⟨a1, a2, a3, a4⟩ | ⟨a1, a2, a3⟩
        · rw [a1, a2]; exact Sm.mk rfl (hJ.ref1 5)
        · rw [a1, a2]
          obtain ⟨K, K1, K2⟩ := begX (d := x.1 1116 0) w1'
          rw [hX] at K2
          have c0 : (0 : Int32).toNatClampNeg = 0 := rfl
          have w1t : w < (tB X1 w K (x.1 1116 0)).2.2.2 4 := w1'
          simp (disch := omega) only [Option.elim_some, if_true, K1, if_pos w1t, if_pos ein, nI_clamp (show w < 2 ^ 31 by omega), c0, rA1, rAn, hN, hR]
          by_cases e0 : rd 0 = -1
          · rw [if_pos e0]
            obtain ⟨C, C1, C2, C3⟩ := begM (m := m) (q := nI s) (Z := setA (setA (setA M1 1227 0 (upd (M1.2.1 1227 0) w 1)) 1218 0 (upd (M1.2.1 1218 0) w (x.1 1116 0))) 1219 0 (upd (M1.2.1 1219 0) w (x.1 1116 0 + 364 * 1))) w2 _ (Or.inr rfl)
            have C2' : ∀ k, k < 5 → C (5 * w + k) = rd (k + 1) := fun k hk => (C2 k hk).trans (by show M1.2.1 1270 0 (k + 1) = _; rw [hR])
            obtain ⟨t1, t2⟩ := term_inv (cl := cl) (rd := rd) (C := C) (e := x.1 1116 0 + 364 * 1) hJ w1' w2 (by rw [hNx]; exact a3) (g3 ef) K2 C2' C3 (by rw [if_pos e0, hNx])
            rw [hNx] at t1 t2
            rw [C1, t2]
            exact Sm.mk pk_us.symm t1
          · rw [if_neg e0]
            obtain ⟨C, C1, C2, C3⟩ := begM (m := m) (q := nI s) (Z := setA (setA (setA M1 1227 0 (upd (M1.2.1 1227 0) w 1)) 1218 0 (upd (M1.2.1 1218 0) w (x.1 1116 0))) 1219 0 (upd (M1.2.1 1219 0) w (x.1 1116 0 + 364 * rd 0))) w2 _ (Or.inl rfl)
            have C2' : ∀ k, k < 5 → C (5 * w + k) = rd (k + 1) := fun k hk => (C2 k hk).trans (by show M1.2.1 1270 0 (k + 1) = _; rw [hR])
            obtain ⟨t1, t2⟩ := term_inv (cl := cl) (rd := rd) (C := C) (e := x.1 1116 0 + 364 * rd 0) hJ w1' w2 (by rw [hNx]; exact a3) (g3 ef) K2 C2' C3 (by rw [if_neg e0, hNx])
            rw [hNx] at t1 t2
            rw [C1, t2]
            exact Sm.mk pk_us.symm t1
      · simp only [if_neg ef]
        exact Sm.mk rfl (hJ.ref1 5)
