theorem lp_cnt2t {V W O P : Type} {d : O} {e : P} {B : V → V ⊕ O} {C : W → W ⊕ P} (N : Nat) (R : Nat → V → W → Prop) (step : ∀ i v w, i < N → R i v w → ∃ v' w', B v = .inl v' ∧ C w = .inl w' ∧ R (i + 1) v' w') (i : Nat) (v : V) (w : W) (hi : i ≤ N) (h : R i v w) : ∃ v' w', R N v' w' ∧ loopF d B v = loopF d B v' ∧ loopF e C w = loopF e C w' := by
  have key : ∀ k i v w, i + k = N → R i v w → ∃ v' w', R N v' w' ∧ loopF d B v = loopF d B v' ∧ loopF e C w = loopF e C w' := by
    intro k
    induction k with
    | zero =>
      intro i v w e h
      have : i = N := by omega
      subst this
      exact ⟨v, w, h, rfl, rfl⟩
    | succ k ih =>
      intro i v w e h
      obtain ⟨v', w', e1, e2, e3⟩ := step i v w (by omega) h
      obtain ⟨v2, w2, q1, q2, q3⟩ := ih (i + 1) v' w' (by omega) e3
      exact ⟨v2, w2, q1, by rw [lp_inl e1, q2], by rw [lp_inl e2, q3]⟩
  exact key (N - i) i v w (by omega) h
section
variable {x m : VM}
theorem inv_idle (hI : Inv x m) {p : Nat} (p1 : p < x.2.2.2 5) : Inv (setI x 506 p (x.1 506 p + 1)) (setA m 1244 0 (upd (m.2.1 1244 0) p (m.2.1 1244 0 p + 1))) := by
  refine ⟨hI.bas, hI.cnt, hI.now, hI.pur, hI.clr, hI.fau, hI.cod, hI.sha, hI.fee, hI.law, hI.she, hI.per, hI.pe0, (?_), hI.ord, hI.dra, (?_), hI.sce, hI.sc0, hI.hal, hI.ha0, hI.shw, hI.pla, hI.cac, hI.ref⟩
  · intro q hq
    obtain ⟨a1, a2, a3, a4, a5, a6⟩ := hI.pic q hq
    have b5 := (hI.pic p p1).2.2.2.2.1
    exact ⟨a1, a2, a3, a4, pakI (fun a b => a = b) a5 (by rw [b5]), a6⟩
  · intro q hq h8
    obtain ⟨a1, a2, a3, a4, a5⟩ := hI.pi0 q hq h8
    exact ⟨a1, a2, a3, (u_n (by have : x.2.2.2 5 ≤ q := hq; omega)).trans a4, a5⟩
theorem inv_move (hI : Inv x m) {p : Nat} {v : Int32} (p1 : p < x.2.2.2 5) : Inv (setI (setI (setI x 505 p v) 508 p (x.1 508 p + 1)) 1117 0 (x.1 1117 0 - x.1 302 0)) (setA (setI (setA m 1243 0 (upd (m.2.1 1243 0) p v)) 1201 0 (m.1 1201 0 - m.1 1207 0)) 1246 0 (upd (m.2.1 1246 0) p (m.2.1 1246 0 p + 1))) := by
  refine ⟨hI.bas, hI.cnt, hI.now, (?_), hI.clr, hI.fau, hI.cod, hI.sha, hI.fee, hI.law, hI.she, hI.per, hI.pe0, (?_), hI.ord, hI.dra, (?_), hI.sce, hI.sc0, hI.hal, hI.ha0, hI.shw, hI.pla, hI.cac, hI.ref⟩
  · show m.1 1201 0 - m.1 1207 0 = x.1 1117 0 - x.1 302 0
    rw [hI.fee.2.1, show m.1 1201 0 = x.1 1117 0 from hI.pur]
  · intro q hq
    obtain ⟨a1, a2, a3, a4, a5, a6, a7, a8⟩ := hI.pic q hq
    have b7 := (hI.pic p p1).2.2.2.2.2.2.1
    exact ⟨a1, a2, a3, pakI (x := x) (F := 505) (fun a b => a = b) a4 rfl, a5, a6, pakI (x := setI x 505 p v) (F := 508) (fun a b => a = b) a7 (by rw [b7]), a8⟩
  · intro q hq h8
    obtain ⟨a1, a2, a3, a4, a5, a6, a7⟩ := hI.pi0 q hq h8
    have : x.2.2.2 5 ≤ q := hq
    exact ⟨a1, a2, (u_n (by omega)).trans a3, a4, a5, (u_n (by omega)).trans a6, a7⟩
theorem inv_shot (hI : Inv x m) {p s : Nat} {u : Int32} (p1 : p < x.2.2.2 5) (s1 : s < x.2.2.2 (20 + p)) (hl : 0 < (x.1 803 (8 * p + s)).toInt) : Inv (setI (setI (setI x 803 (8 * p + s) (x.1 803 (8 * p + s) - 1)) 507 p (x.1 507 p + 1)) 1117 0 (x.1 1117 0 - x.1 301 0)) (setI (setA (setA (setI m 1201 0 (m.1 1201 0 - m.1 1206 0)) 1242 0 (upd (m.2.1 1242 0) (8 * p + s) (m.2.1 1242 0 (8 * p + s) - 1))) 1245 0 (upd (m.2.1 1245 0) p (m.2.1 1245 0 p + 1))) 1275 0 u) := by
  obtain ⟨l1, l2⟩ := (hI.sce p s p1 s1).2.2.2.1
  obtain ⟨l, l3, l4, l5⟩ := rng_nI (a := 0) (b := 9) l2 (by decide)
  rw [l5, tI (by omega)] at hl
  obtain ⟨l', rfl⟩ : ∃ l', l = l' + 1 := ⟨l - 1, by omega⟩
  refine ⟨hI.bas, hI.cnt, hI.now, (?_), hI.clr, hI.fau, hI.cod, hI.sha, hI.fee, hI.law, hI.she, hI.per, hI.pe0, (?_), hI.ord, hI.dra, (?_), (?_), (?_), hI.hal, hI.ha0, hI.shw, hI.pla, hI.cac, hI.ref⟩
  · show m.1 1201 0 - m.1 1206 0 = x.1 1117 0 - x.1 301 0
    rw [hI.fee.1.1, show m.1 1201 0 = x.1 1117 0 from hI.pur]
  · intro q hq
    obtain ⟨a1, a2, a3, a4, a5, a6, a7⟩ := hI.pic q hq
    have b6 := (hI.pic p p1).2.2.2.2.2.1
    exact ⟨a1, a2, a3, a4, a5, pakI (x := setI x 803 (8 * p + s) (x.1 803 (8 * p + s) - 1)) (F := 507) (fun a b => a = b) a6 (by rw [b6]), a7⟩
  · intro q hq h8
    obtain ⟨a1, a2, a3, a4, a5, a6⟩ := hI.pi0 q hq h8
    have : x.2.2.2 5 ≤ q := hq
    exact ⟨a1, a2, a3, a4, (u_n (by omega)).trans a5, a6⟩
  · intro p' s' hp hs
    obtain ⟨a1, a2, a3, a4, a5⟩ := hI.sce p' s' hp hs
    refine ⟨a1, a2, a3, ?_, a5⟩
    exact pakI2 (x := x) (F := 803) (S := 8) (fun a b => a = b ∧ rng b 0 9) a4 ⟨by rw [l1], by rw [l5, nI_pred]; exact rng_I (a := 0) (b := 9) (by omega) (by omega) (by decide)⟩
  · intro p' s' hp hs hh
    obtain ⟨b1, b2⟩ := hI.sc0 p' s' hp hs hh
    have z := not_live s1 p1 hh
    have s8 := (n_sce hI p1).2.2
    exact ⟨(u_n (by omega)).trans b1, b2⟩
theorem l_shoot (hI : Inv x m) {p F U : Nat} (p1 : p < x.2.2.2 5) (p8 : p < 8) (hb : x.1 503 p = 1) (hF : freeF x F U) (hU : m.1 1275 0 = nI U) : ∃ r x' m' F' U', f_X11_shoot x p (nI F) = some (r, x') ∧ f_X12_shoots m (nI p) = some m' ∧ nI F &&& (r ^^^ (-1)) = nI F' ∧ m'.1 1275 0 = nI U' ∧ Inv x' m' ∧ freeF x' F' U' ∧ x'.2.2.2 = x.2.2.2 ∧ x'.1 1116 0 = x.1 1116 0 := by
  obtain ⟨n1, n2, n3⟩ := n_sce hI p1
  obtain ⟨F1, U1, F2⟩ := hF
  have f0 : nI F &&& ((0 : Int32) ^^^ (-1)) = nI F := by
    rw [show (0 : Int32) = nI 0 from rfl, nI_df]
    congr 1
    unfold dfN
    rw [Nat.and_zero, Nat.xor_zero]
  rcases l_next hI p1 p8 hb ⟨F1, U1, F2⟩ hU with ⟨e1, e2⟩ | ⟨s, s1, s2, s3, e1, e2⟩
  · refine ⟨0, _, _, F, U, ?_, e2, f0, hU, inv_idle hI p1, ⟨F1, U1, F2⟩, rfl, rfl⟩
    unfold f_X11_shoot
    rw [if_pos p1, e1]
    rfl
  · obtain ⟨c1, c2, c3, c4⟩ := caX_ok hI p1 s1
    obtain ⟨pa, pa1, pa2, pa3⟩ := plN hI p1 s1
    have st := (hI.pic p p1).2.2.2.1
    have ne : ¬ nI s = -1 := by rw [i32eq, tI (by omega), t_m1]; omega
    have sx : f_X11_shoot x p (nI F) = if nI pa = x.1 505 p then some (nI (caX x p s), setI (setI (setI x 803 (8 * p + s) (x.1 803 (8 * p + s) - 1)) 507 p (x.1 507 p + 1)) 1117 0 (x.1 1117 0 - x.1 301 0)) else some (0, setI (setI (setI x 505 p (nI pa)) 508 p (x.1 508 p + 1)) 1117 0 (x.1 1117 0 - x.1 302 0)) := by
      unfold f_X11_shoot
      rw [if_pos p1, e1]
      simp only [Option.elim_some, if_neg ne]
      simp (disch := omega) only [inb_T, tI, if_pos, nI_clamp, d8, m8, pa2, rIn, c3]
    by_cases e : nI pa = x.1 505 p
    · rw [if_pos e] at sx
      have em : shM m p s = setI (setA (setA (setI m 1201 0 (m.1 1201 0 - m.1 1206 0)) 1242 0 (upd (m.2.1 1242 0) (8 * p + s) (m.2.1 1242 0 (8 * p + s) - 1))) 1245 0 (upd (m.2.1 1245 0) p (m.2.1 1245 0 p + 1))) 1275 0 (nI (U ||| caX x p s)) := by
        unfold shM
        rw [if_pos (by rw [pa3, st]; exact e), hU, c4, nI_or]
      rw [em] at e2
      refine ⟨_, _, _, dfN F (caX x p s), U ||| caX x p s, sx, e2, nI_df _ _, sI_s, inv_shot hI p1 s1 s2, ⟨?_, Nat.or_lt_two_pow (n := 16) U1 c2, fun w => ?_⟩, rfl, rfl⟩
      · unfold dfN; exact Nat.xor_lt_two_pow (n := 16) F1 (Nat.lt_of_le_of_lt Nat.and_le_left F1)
      · rw [dfN_bit, Bool.and_eq_true, F2 w, Nat.testBit_or]
        constructor
        · rintro ⟨⟨b1, b2, b3⟩, b4⟩
          refine ⟨b1, b2, ?_⟩
          rw [b3]
          revert b4
          cases (caX x p s).testBit w <;> simp
        · rintro ⟨b1, b2, b3⟩
          rw [Bool.or_eq_false_iff] at b3
          exact ⟨⟨b1, b2, b3.1⟩, by rw [b3.2]; rfl⟩
    · rw [if_neg e] at sx
      have em : shM m p s = setA (setI (setA m 1243 0 (upd (m.2.1 1243 0) p (nI pa))) 1201 0 (m.1 1201 0 - m.1 1207 0)) 1246 0 (upd (m.2.1 1246 0) p (m.2.1 1246 0 p + 1)) := by
        unfold shM
        rw [if_neg (by rw [pa3, st]; exact e), pa3]
      rw [em] at e2
      exact ⟨_, _, _, F, U, sx, e2, f0, hU, inv_move hI p1, ⟨F1, U1, F2⟩, rfl, rfl⟩
theorem l_pics (hI : Inv x m) {F : Nat} (x0 m0 : VM) (hF : freeF x F 0) : ∃ F' y z, Inv y z ∧ y.2.2.2 = x.2.2.2 ∧ y.1 1116 0 = x.1 1116 0 ∧ loopF none (b_X11_liveDay_7 x0) (nI F, 0, x) = loopF none (b_X11_liveDay_7 x0) (nI F', nI (x.2.2.2 5), y) ∧ loopF none (b_X12_lives_7 m0) (0, setI m 1275 0 0) = loopF none (b_X12_lives_7 m0) (nI (x.2.2.2 5), z) := by
  have hJ : Inv x (setI m 1275 0 0) := ⟨hI.bas, hI.cnt, hI.now, hI.pur, hI.clr, hI.fau, hI.cod, hI.sha, hI.fee, hI.law, hI.she, hI.per, hI.pe0, hI.pic, hI.ord, hI.dra, hI.pi0, hI.sce, hI.sc0, hI.hal, hI.ha0, hI.shw, hI.pla, hI.cac, hI.ref⟩
  obtain ⟨v, w, ⟨F', U', y, z, rfl, rfl, h1, h2, h3, h4, h5⟩, q1, q2⟩ := lp_cnt2t (V := Int32 × Int32 × VM) (W := Int32 × VM) (d := none) (e := none) (B := b_X11_liveDay_7 x0) (C := b_X12_lives_7 m0) (x.2.2.2 5) (fun k v w => ∃ F U y z, v = (nI F, nI k, y) ∧ w = (nI k, z) ∧ Inv y z ∧ freeF y F U ∧ z.1 1275 0 = nI U ∧ y.2.2.2 = x.2.2.2 ∧ y.1 1116 0 = x.1 1116 0) (by
    rintro k v w hk ⟨F, U, y, z, rfl, rfl, h1, h2, h3, h4, h5⟩
    have p8 : k < 8 := by have := hI.bas.1.2.1.2; omega
    have x8 := hI.bas.1.2.1.2
    have c1 : y.1 1114 0 = nI (x.2.2.2 5) := by rw [h1.bas.1.2.1.1, h4]
    have c2 : z.1 1204 0 = nI (x.2.2.2 5) := by rw [h1.cnt.2.1, c1]
    have p1 : k < y.2.2.2 5 := by rw [h4]; exact hk
    have lt : ¬ nI (x.2.2.2 5) ≤ nI k := by rw [Int32.le_iff_toInt_le, tI (by omega), tI (by omega)]; omega
    obtain ⟨b1, b2⟩ := (h1.pic k p1).2.2.1
    obtain ⟨r, r1, r2⟩ := l_left h1 p1 p8
    unfold b_X11_liveDay_7 b_X12_lives_7
    simp only [c1, c2, if_neg lt, if_pos (inb8 p8), nI_clamp (show k < 2 ^ 31 by omega), if_pos p1, b1, r1, r2, Option.elim_some, nI_1]
    rcases b2 with b2 | b2
    · simp only [if_pos b2]
      exact ⟨_, _, rfl, rfl, F, U, y, z, rfl, rfl, h1, h2, h3, h4, h5⟩
    · have nb : ¬ y.1 503 k = 0 := by rw [b2]; decide
      simp only [if_neg nb]
      by_cases er : r ≤ 0
      · simp only [if_pos er]
        exact ⟨_, _, rfl, rfl, F, U, y, z, rfl, rfl, h1, h2, h3, h4, h5⟩
      · simp only [if_neg er]
        obtain ⟨r', y', z', F', U', a1, a2, a3, a4, a5, a6, a7, a8⟩ := l_shoot h1 p1 p8 b2 h2 h3
        simp only [a1, a2, Option.elim_some, a3]
        exact ⟨_, _, rfl, rfl, F', U', y', z', rfl, rfl, a5, a6, a4, by rw [a7, h4], by rw [a8, h5]⟩) 0 (nI F, 0, x) (0, setI m 1275 0 0) (Nat.zero_le _) ⟨F, 0, x, setI m 1275 0 0, rfl, rfl, hJ, hF, sI_s, rfl, rfl⟩
  exact ⟨F', y, z, h1, h4, h5, q1, q2⟩
end
