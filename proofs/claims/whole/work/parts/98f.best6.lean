/-! best: the reference's whole search; both together -/
theorem orB_add {ca : Nat → Nat} {n b s : Nat} (hs : s < n) : orB ca (fun j => (b ||| 2 ^ s).testBit j) n = orB ca (fun j => b.testBit j) n ||| ca s := by
  apply Nat.eq_of_testBit_eq
  intro w
  have key : ∀ a b : Bool, (a = true ↔ b = true) → a = b := by decide
  apply key
  rw [Nat.testBit_or, Bool.or_eq_true, orB_bit, orB_bit]
  constructor
  · rintro ⟨j, j1, j2, j3⟩
    rw [tb_or2, Bool.or_eq_true, decide_eq_true_eq] at j2
    rcases j2 with j2 | j2
    · exact Or.inl ⟨j, j1, j2, j3⟩
    · right; rw [j2]; exact j3
  · rintro (⟨j, j1, j2, j3⟩ | j3)
    · exact ⟨j, j1, by rw [tb_or2, j2]; rfl, j3⟩
    · exact ⟨s, hs, by rw [tb_or2, Bool.or_eq_true, decide_eq_true_eq]; exact Or.inr rfl, j3⟩
section
variable {n : Nat} {pl : Nat → Int32} {ca dy D : Nat → Nat} {chg p : Nat} {m : VM}
theorem k_wri (hD : kDat n pl ca dy D chg p m) {z : VM} {le : Int32} {b l c : Nat} {tr : Nat → Nat} (hz : skM m z) (hP : kPth n z n tr b l) (c1 : z.2.1 1273 0 n = nI c) (hc : c ≤ 200000) (u : Int32) : ∃ z', loopF (Sum.inr none) (b_X12_seeks_72 m (nI p) (le, u, nI n, z)) (0, z) = Sum.inl (nI c, u, nI n + (-1), z') ∧ kOkR n m z' (nI c) (c, tr) ∧ kKep z z' n := by
  obtain ⟨⟨n8, p8, h35, hdy, hch, hDl⟩, h37, hstep⟩ := hD
  refine lp_cnt (V := Int32 × VM) (d := Sum.inr none) n (fun s v => ∃ z', v = (nI s, z') ∧ skM m z' ∧ (∀ j, j < s → z'.2.1 1272 0 j = nI (tr j)) ∧ ∀ F, F ≠ 1272 → z'.2.1 F 0 = z.2.1 F 0) (fun o => ∃ z', o = Sum.inl (nI c, u, nI n + (-1), z') ∧ kOkR n m z' (nI c) (c, tr) ∧ kKep z z' n) ?_ ?_ 0 _ (Nat.zero_le _) ⟨z, rfl, hz, fun j hj => by omega, fun F _ => rfl⟩
  · rintro s v hs ⟨z', rfl, g1, g2, g3⟩
    left
    have lt : ¬ nI n ≤ nI s := by rw [Int32.le_iff_toInt_le, tI (by omega), tI (by omega)]; omega
    unfold b_X12_seeks_72
    simp only [nI_clamp (show p < 2 ^ 31 by omega), h35, if_neg lt, if_pos (inb8 (show s < 8 by omega)), nI_clamp (show s < 2 ^ 31 by omega), g3 1271 (by decide), (hP.1 s hs).1, nI_1]
    refine ⟨_, rfl, _, rfl, g1.put (by omega) _, fun j hj => ?_, fun F hF => by rw [rAn hF]; exact g3 F hF⟩
    rw [rAs]
    by_cases e : j = s
    · subst e; rw [pk_us]
    · rw [u_n e]; exact g2 j (by omega)
  · rintro v ⟨z', rfl, g1, g2, g3⟩
    unfold b_X12_seeks_72
    simp only [nI_clamp (show p < 2 ^ 31 by omega), h35, if_pos (Int32.le_refl (nI n)), nI_clamp (show n < 2 ^ 31 by omega), c1]
    exact ⟨_, rfl, z', rfl, ⟨g1, Or.inr ⟨rfl, hc, g2⟩⟩, fun s hs => by rw [g3 _ (by decide)], fun s hs => ⟨by rw [g3 _ (by decide)], by rw [g3 _ (by decide)]⟩⟩
theorem k_ref (hD : kDat n pl ca dy D chg p m) : ∀ (k i : Nat) (z : VM) (le : Int32) (b l c : Nat) (tr : Nat → Nat) (B : Nat × (Nat → Nat)), i + k = n → c ≤ 14200 * i → kOkR n m z le B → kPth n z i tr b l → (0 < k → z.2.1 1271 0 i = -1) → z.2.1 1273 0 i = nI c → z.2.1 1274 0 i = nI (orB ca (fun j => b.testBit j) n) → ∃ z' le', loopF none (b_X12_seeks_36 m (nI p)) (le, nI b, nI i, z) = loopF none (b_X12_seeks_36 m (nI p)) (le', nI b, nI i + (-1), z') ∧ kOkR n m z' le' (sDfs n pl ca dy D chg k i b l c tr B) ∧ kKep z z' i := by
  have hD' := hD
  obtain ⟨⟨n8, p8, h35, hdy, hch, hDl⟩, h37, hstep⟩ := hD'
  have hw : 2 ^ n ≤ 256 := Nat.pow_le_pow_right (n := 2) (by decide) n8
  intro k
  induction k with
  | zero =>
    intro i z le b l c tr B e hc hz hP c0 c1 c2
    have ei : i = n := e
    subst ei
    have ein : inb (nI i) 9 = true := by rw [inb_T, tI (by omega)]; omega
    obtain ⟨z', g1, g2, g3⟩ := k_wri hD (le := le) hz.1 hP c1 (by omega) (nI b)
    have e1 : sDfs i pl ca dy D chg 0 i b l c tr B = if c < B.1 then (c, tr) else B := rfl
    rw [e1]
    have hb : b_X12_seeks_36 m (nI p) (le, nI b, nI i, z) = if c < B.1 then Sum.inl (nI c, nI b, nI i + (-1), z') else Sum.inl (le, nI b, nI i + (-1), z) := by
      unfold b_X12_seeks_36
      simp only [if_neg (nI_npos (show i < 2147483648 by omega)), nI_clamp (show p < 2 ^ 31 by omega), h35, if_true, if_pos ein, nI_clamp (show i < 2 ^ 31 by omega), c1, sk47, g1]
      rcases hz.lt (c := c) (by omega) with ⟨q1, q2 | ⟨q2, q3⟩⟩ | ⟨q1, q2, q3⟩
      · rw [if_pos q2, if_pos q1]
      · rw [if_neg q2, if_neg q3, if_pos q1]
      · rw [if_neg q2, if_pos q3, if_neg q1]
    by_cases q : c < B.1
    · rw [if_pos q] at hb ⊢
      exact ⟨z', _, lp_inl hb, g2, g3⟩
    · rw [if_neg q] at hb ⊢
      exact ⟨z, le, lp_inl hb, hz, fun s hs => rfl, fun s hs => ⟨rfl, rfl⟩⟩
  | succ k ih =>
    intro i z0 le0 b l c tr B0 e hc hz0 hP0 c00 c10 c20
    have hi : i < n := by omega
    have hb2 := hP0.2.1
    have e8 : inb (nI i) 8 = true := inb8 (by omega)
    have nn : ¬ nI i = nI n := by rw [i32eq, tI (by omega), tI (by omega)]; omega
    have en0 : ∀ le z, z.2.1 1271 0 i = -1 → b_X12_seeks_36 m (nI p) (le, nI b, nI i, z) = loopF (Sum.inr none) (b_X12_seeks_145 m (nI p) (le, nI b, nI i, z) (nI b)) (nI 0, 0, z) := by
      intro le z hr
      unfold b_X12_seeks_36 j_X12_seeks_131
      simp only [if_neg (nI_npos (show i < 2147483648 by omega)), nI_clamp (show p < 2 ^ 31 by omega), h35, if_neg nn, if_pos e8, nI_clamp (show i < 2 ^ 31 by omega), hr, if_true]
      rfl
    have en1 : ∀ le z s, s < n → b.testBit s = false → z.2.1 1271 0 i = nI s → b_X12_seeks_36 m (nI p) (le, nI (b ||| 2 ^ s), nI i, z) = loopF (Sum.inr none) (b_X12_seeks_145 m (nI p) (le, nI (b ||| 2 ^ s), nI i, z) (nI b)) (nI (s + 1), 0, z) := by
      intro le z s hs hf hr
      have ns : ¬ nI s = -1 := by rw [i32eq, tI (by omega), t_m1]; omega
      unfold b_X12_seeks_36 j_X12_seeks_131
      simp only [if_neg (nI_npos (show i < 2147483648 by omega)), nI_clamp (show p < 2 ^ 31 by omega), h35, if_neg nn, if_pos e8, nI_clamp (show i < 2 ^ 31 by omega), hr, if_neg ns, shl1 s (by omega), nI_df, dfN_or hf, nI_1]
    have inner : ∀ j s u z zo le, s + j = n → kOkR n m z le (fdN (sStep n pl ca dy D chg (sDfs n pl ca dy D chg k) i b l c tr) s B0) → kKep z0 z i → ∃ z' le', (loopF (Sum.inr none) (b_X12_seeks_145 m (nI p) (le, u, nI i, zo) (nI b)) (nI s, 0, z)).elim (fun v' => loopF none (b_X12_seeks_36 m (nI p)) v') id = loopF none (b_X12_seeks_36 m (nI p)) (le', nI b, nI i + (-1), z') ∧ kOkR n m z' le' (sDfs n pl ca dy D chg (k + 1) i b l c tr B0) ∧ kKep z0 z' i := by
      intro j
      induction j with
      | zero =>
        intro s u z zo le hs hz hk
        have : s = n := hs
        subst this
        rw [lp_inr (k_past hD u (nI b) zo hi)]
        refine ⟨_, le, rfl, hz.put (by omega) _, hk.trans ⟨fun t ht => by rw [rAs, u_n (by omega)], fun t ht => ⟨by rw [rAn (by decide)], by rw [rAn (by decide)]⟩⟩⟩
      | succ j ihj =>
        intro s u z zo le hs hz hk
        have hsn : s < n := by omega
        have c1 : z.2.1 1273 0 i = nI c := ((hk.2 i (Nat.le_refl _)).1).trans c10
        have c2 : z.2.1 1274 0 i = nI (orB ca (fun j => b.testBit j) n) := ((hk.2 i (Nat.le_refl _)).2).trans c20
        have hPz : kPth n z i tr b l := ⟨fun t ht => ⟨(hk.1 t ht).trans (hP0.1 t ht).1, (hP0.1 t ht).2⟩, hP0.2⟩
        generalize hB : fdN (sStep n pl ca dy D chg (sDfs n pl ca dy D chg k) i b l c tr) s B0 = B at hz
        have nxt : fdN (sStep n pl ca dy D chg (sDfs n pl ca dy D chg k) i b l c tr) (s + 1) B0 = sStep n pl ca dy D chg (sDfs n pl ca dy D chg k) i b l c tr s B := by rw [← hB]; rfl
        have pass : ∀ (z2 : VM), kOkR n m z2 le B → kKep z z2 i → sStep n pl ca dy D chg (sDfs n pl ca dy D chg k) i b l c tr s B = B → b_X12_seeks_145 m (nI p) (le, u, nI i, zo) (nI b) (nI s, 0, z) = Sum.inl (nI (s + 1), 0, z2) → ∃ z' le', (loopF (Sum.inr none) (b_X12_seeks_145 m (nI p) (le, u, nI i, zo) (nI b)) (nI s, 0, z)).elim (fun v' => loopF none (b_X12_seeks_36 m (nI p)) v') id = loopF none (b_X12_seeks_36 m (nI p)) (le', nI b, nI i + (-1), z') ∧ kOkR n m z' le' (sDfs n pl ca dy D chg (k + 1) i b l c tr B0) ∧ kKep z0 z' i := by
          intro z2 hz2 hk2 hst hb
          rw [lp_inl hb]
          exact ihj (s + 1) u z2 zo le (by omega) (by rw [nxt, hst]; exact hz2) (hk.trans hk2)
        by_cases hf : b.testBit s = true
        · exact pass z hz ⟨fun _ _ => rfl, fun _ _ => ⟨rfl, rfl⟩⟩ (by unfold sStep; rw [if_pos hf]) (k_skip hD u zo hb2 hsn hf)
        · have hf' : b.testBit s = false := by revert hf; cases b.testBit s <;> simp
          have hst : sStep n pl ca dy D chg (sDfs n pl ca dy D chg k) i b l c tr s B = sDfs n pl ca dy D chg k (i + 1) (b ||| 2 ^ s) s (c + bSt n pl ca dy D chg b l s) (updN tr i s) B := by unfold sStep; rw [if_neg hf]
          have bs := bSt_le (K := 0) (n := n) (pl := pl) (ca := ca) hDl hdy hch (b := b) (l := l) hsn
          rcases k_gate hD u zo hz hPz c1 c2 hi hsn hc hf' with ⟨q1, g⟩ | ⟨q1, g⟩
          · generalize hc2 : c + bSt n pl ca dy D chg b l s = cc at q1 g hst
            have hz2 : kOkR n m (kZ z i (nI cc)) le B := hz.put (by omega) _
            have hk2 : kKep z0 (kZ z i (nI cc)) i := hk.trans (kZ_kep _)
            have c22 : (kZ z i (nI cc)).2.1 1274 0 i = nI (orB ca (fun j => b.testBit j) n) := by unfold kZ; rw [rAn (by decide)]; exact c2
            obtain ⟨Z, y1, y2, y3, y4, y5, y6, y7, y8⟩ := k_gone hD u zo (le := le) hz2.1 c22 hi hsn
            rw [lp_inl g, lp_inr y1]
            have hs2 : 2 ^ s < 2 ^ n := Nat.pow_lt_pow_right (by decide) hsn
            have hPZ : kPth n Z (i + 1) (updN tr i s) (b ||| 2 ^ s) s := by
              refine ⟨fun t ht => ?_, Nat.or_lt_two_pow hb2 hs2, fun q => by omega, fun _ => ⟨by rw [Nat.add_sub_cancel, uN_s], by rw [tb_or2]; simp⟩⟩
              by_cases es : t = i
              · subst es; rw [uN_s]; exact ⟨y4, hsn⟩
              · rw [uN_n es]
                exact ⟨(y3 t (by omega)).trans ((hk2.1 t (by omega)).trans (hP0.1 t (by omega)).1), (hP0.1 t (by omega)).2⟩
            have y9 : Z.2.1 1273 0 (i + 1) = nI cc := by rw [y6]; unfold kZ; rw [rAs, pk_us]
            obtain ⟨z', le', g1, g2, g3⟩ := ih (i + 1) Z le (b ||| 2 ^ s) s cc (updN tr i s) B (by omega) (by omega) (y2 B hz2) hPZ (fun q => y5 (by omega)) y9 (by rw [y8, orB_add hsn])
            have hkZ : kKep z0 z' i := by
              refine ⟨fun t ht => (g3.1 t (by omega)).trans ((y3 t ht).trans (hk2.1 t ht)), fun t ht => ?_⟩
              obtain ⟨a1, a2⟩ := g3.2 t (by omega)
              exact ⟨a1.trans ((y6 t).trans (hk2.2 t ht).1), a2.trans ((y7 t ht).trans (hk2.2 t ht).2)⟩
            obtain ⟨z3, le3, s1, s2, s3⟩ := ihj (s + 1) (nI (b ||| 2 ^ s)) z' z' le' (by omega) (by rw [nxt, hst]; exact g2) hkZ
            refine ⟨z3, le3, ?_, s2, s3⟩
            show loopF none (b_X12_seeks_36 m (nI p)) (le, nI (b ||| 2 ^ s), nI (i + 1), Z) = _
            rw [g1, pk_m1, loopF_eq, en1 le' z' s hsn hf' ((g3.1 i (by omega)).trans y4)]
            exact s1
          · exact pass _ (hz.put (by omega) _) (kZ_kep _) (by rw [hst]; exact s_low k _ _ _ _ _ B (by omega)) g
    obtain ⟨z', le', s1, s2, s3⟩ := inner n 0 (nI b) z0 z0 le0 (by omega) hz0 ⟨fun s hs => rfl, fun s hs => ⟨rfl, rfl⟩⟩
    refine ⟨z', le', ?_, s2, s3⟩
    rw [loopF_eq, en0 le0 z0 (c00 (by omega))]
    exact s1
theorem k_all (hD : kDat n pl ca dy D chg p m) (hn : 0 < n) : ∃ z, f_X12_seeks m (nI p) = some (nI (bC n pl ca dy D chg n 0 0), z) ∧ skM m z ∧ ∀ j, j < n → z.2.1 1272 0 j = nI ((bW n pl ca dy D chg n 0 0).getD j 0) := by
  have hD' := hD
  obtain ⟨⟨n8, p8, h35, hdy, hch, hDl⟩, h37, hstep⟩ := hD'
  have hcl := bC_le (n := n) (pl := pl) (ca := ca) hDl hdy hch n 0 0 (by rw [pcB_0]; omega)
  unfold f_X12_seeks
  rw [if_pos (inb8 p8)]
  simp only [show (0 : Int32).toNatClampNeg = 0 from rfl]
  generalize hZ : setA (setA (setA m 1273 0 _) 1274 0 _) 1271 0 _ = Z
  have k0 : skM m Z := by
    rw [← hZ]
    exact ((skM.put ⟨rfl, fun F i _ _ _ _ => rfl, rfl, fun F i _ => rfl⟩ (by omega) _).put (by omega) _).put (by omega) _
  have k1 : Z.2.1 1271 0 0 = -1 := by rw [← hZ, rAs, pk_us]
  have k2 : Z.2.1 1273 0 0 = nI 0 := by rw [← hZ, rAn (by decide), rAn (by decide), rAs, pk_us]; rfl
  have k3 : Z.2.1 1274 0 0 = nI (orB ca (fun j => Nat.testBit 0 j) n) := by rw [orB_0, ← hZ, rAn (by decide), rAs, pk_us]; rfl
  obtain ⟨z', le', g1, g2, g3⟩ := k_ref hD n 0 Z (-1) 0 0 0 (fun _ => 0) (1000000000, fun _ => 0) (by omega) (by omega) ⟨k0, Or.inl ⟨rfl, rfl⟩⟩ ⟨fun s hs => by omega, Nat.two_pow_pos n, fun _ => rfl, fun q => by omega⟩ (fun _ => k1) k2 k3
  have hv := (s_val (n := n) (pl := pl) (ca := ca) (dy := dy) (D := D) (chg := chg) n 0 0 0 0 (fun _ => 0) (1000000000, fun _ => 0) (by omega) (Nat.le_refl _)).1 (by show 0 + bC n pl ca dy D chg n 0 0 < 1000000000; omega)
  rw [Nat.zero_add] at hv
  have g1' : loopF none (b_X12_seeks_36 m (nI p)) (-1, 0, 0, Z) = some (le', z') := by
    refine g1.trans ?_
    apply lp_inr
    unfold b_X12_seeks_36
    simp only [nIm1]
    rw [if_pos (by decide)]
  rw [g1']
  rcases g2.2 with ⟨q1, q2⟩ | ⟨q1, q2, q3⟩
  · rw [hv.1] at q2; omega
  · rw [hv.1] at q1
    refine ⟨z', by rw [q1], g2.1, fun j hj => ?_⟩
    rw [q3 j hj, hv.2 j hj, if_neg (by omega), Nat.sub_zero]
end
section
variable {x m : VM}
theorem k_dat (hI : Inv x m) {i : Nat} (hi : i < x.2.2.2 5) (h8 : i < 8) : kDat (x.2.2.2 (20 + i)) (fun s => x.1 800 (8 * i + s)) (caX x i) (dyX x i) (dD x) (chX x) i m := by
  have hD := b_dat hI hi h8 0
  obtain ⟨n1, n2, n3⟩ := n_sce hI hi
  refine ⟨⟨n3, h8, n2, fun s hs => (hD.h802 s hs).2, hD.h302.2, dD_le hI⟩, fun s hs => (caX_ok hI hi hs).2.2.2, fun b l s sto h1 h2 h3 h4 z hz => ?_⟩
  rw [sk_step hz]
  exact k_step hI hi h8 rfl h1 h2 h3 h4
theorem best_m (hI : Inv x m) {z : VM} (hz : skM m z) : Inv x z := by
  obtain ⟨f1, f2, f3, f4, rfl⟩ := skM_ex hz
  exact ⟨hI.bas, hI.cnt, hI.now, hI.pur, hI.clr, hI.fau, hI.cod, hI.sha, hI.fee, hI.law, hI.she, hI.per, hI.pe0, hI.pic, hI.ord, hI.dra, hI.pi0, hI.sce, hI.sc0, hI.hal, hI.ha0, hI.shw, hI.pla, hI.cac, hI.ref⟩
theorem best_x (hI : Inv x m) {i : Nat} (hi : i < x.2.2.2 5) (hn : 0 < x.2.2.2 (20 + i)) {g h o : Nat → Int32} (hs : bSpec (x.2.2.2 (20 + i)) (fun s => x.1 800 (8 * i + s)) (caX x i) (dyX x i) (dD x) (chX x) (h 0) o) : Inv (setA (setA (setA (setN x 0 (i + 1)) 306 0 g) 307 0 h) 304 0 o) m := by
  have hc : ICac (setA (setA (setA (setN x 0 (i + 1)) 306 0 g) 307 0 h) 304 0 o) m := by
    intro j hj
    have hj' : i + 1 = j + 1 := hj
    have : i = j := by omega
    subst this
    show 0 < (setN x 0 (i + 1)).2.2.2 (20 + i) ∧ bSpec ((setN x 0 (i + 1)).2.2.2 (20 + i)) (fun s => x.1 800 (8 * i + s)) (caX x i) (dyX x i) (dD x) (chX x) (h 0) o
    rw [cN]
    exact ⟨hn, hs⟩
  exact ⟨(bas_N hI (show i + 1 ≤ x.2.2.2 5 by omega)), hI.cnt, hI.now, hI.pur, hI.clr, hI.fau, hI.cod, hI.sha, hI.fee, hI.law, hI.she, hI.per, hI.pe0, hI.pic, (ord_N hI (i + 1)), hI.dra, hI.pi0, (sce_N hI (i + 1)), (sc0_N hI (i + 1)), hI.hal, hI.ha0, hI.shw, hI.pla, (hc), hI.ref⟩
/-- the class's best order -/
theorem best_c (hI : Inv x m) {i : Nat} (hi : i < x.2.2.2 5) (h8 : i < 8) (hn : 0 < x.2.2.2 (20 + i)) : ∃ y, f_X3_findBest x i = some y ∧ Inv y m ∧ bSpec (x.2.2.2 (20 + i)) (fun s => x.1 800 (8 * i + s)) (caX x i) (dyX x i) (dD x) (chX x) (y.2.1 307 0 0) (y.2.1 304 0) := by
  rcases b_fnd hI hi h8 hn with ⟨c, e⟩ | ⟨g, h, o, e, hs⟩
  · exact ⟨x, e, hI, (hI.cac i c).2⟩
  · exact ⟨_, e, best_x hI hi hn hs, hs⟩
theorem s_best : S_best Inv := by
  intro x m p1 hI
  show Sm Inv _ _
  unfold f_X11_best f_X12_best
  rcases c_pic hI p1 with ⟨e1, e2⟩ | ⟨i, hi, h8, rfl, e1, e2⟩
  · rw [e1, e2]
    exact Sm.mk rfl (hI.ref1 0)
  rw [e1, e2]
  obtain ⟨n1, n2, n3⟩ := n_sce hI hi
  simp only [Option.elim_some, if_neg n10, if_pos hi, if_pos (inb8 h8), nI_clamp (show i < 2 ^ 31 by omega), n1, n2]
  by_cases c : x.2.2.2 (20 + i) = 0
  · rw [if_pos (by rw [c]; rfl), if_pos (by rw [c]; rfl)]
    exact Sm.mk rfl (hI.ref1 5)
  · rw [if_neg (by rw [i32eq, tI (by omega), t_0]; omega), if_neg (by rw [i32eq, tI (by omega), t_0]; omega)]
    obtain ⟨y, y1, y2, y3⟩ := best_c hI hi h8 (by omega)
    obtain ⟨z, z1, z2, z3⟩ := k_all (k_dat hI hi h8) (by omega)
    rw [y1, z1]
    unfold f_X3_bestCost
    exact Sm.mk y3.1 (best_m y2 z2)
theorem s_bestScene : S_bestScene Inv := by
  intro x m p1 p2 hI
  show Sm Inv _ _
  unfold f_X11_bestScene f_X12_bestScene
  rcases c_pic hI p1 with ⟨e1, e2⟩ | ⟨i, hi, h8, rfl, e1, e2⟩
  · rw [e1, e2]
    exact Sm.mk rfl hI
  rw [e1, e2]
  obtain ⟨n1, n2, n3⟩ := n_sce hI hi
  simp only [Option.elim_some, if_neg n10, if_pos hi, if_pos (inb8 h8), nI_clamp (show i < 2 ^ 31 by omega), n1, n2]
  rcases ix p2 (x.2.2.2 (20 + i)) (by omega) with h | h | ⟨j, hj, rfl⟩
  · rw [if_pos (by rw [Int32.lt_iff_toInt_lt, t_0]; exact h), if_pos (by rw [Int32.lt_iff_toInt_lt, t_0]; exact h)]
    exact Sm.mk rfl hI
  · have k1 : ¬ p2 < 0 := by rw [Int32.lt_iff_toInt_lt, t_0]; omega
    have k2 : ¬ p2 < nI (x.2.2.2 (20 + i)) := by rw [Int32.lt_iff_toInt_lt, tI (by omega)]; omega
    rw [if_neg k1, if_neg k2, if_neg k1, if_neg k2]
    exact Sm.mk rfl hI
  · rw [if_neg (nI_npos (by omega)), if_neg (nI_npos (by omega)), if_pos (by rw [Int32.lt_iff_toInt_lt, tI (by omega), tI (by omega)]; omega), if_pos (by rw [Int32.lt_iff_toInt_lt, tI (by omega), tI (by omega)]; omega)]
    obtain ⟨y, y1, y2, y3⟩ := best_c hI hi h8 (by omega)
    obtain ⟨z, z1, z2, z3⟩ := k_all (k_dat hI hi h8) (by omega)
    rw [y1, z1]
    simp only [Option.elim_some, if_pos (inb8 (show j < 8 by omega)), nI_clamp (show j < 2 ^ 31 by omega)]
    exact Sm.mk ((y3.2 j hj).trans (z3 j hj).symm) (best_m y2 z2)
end
