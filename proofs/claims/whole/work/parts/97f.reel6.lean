section
variable {T : Nat → Nat} {L W : Nat → Nat → Nat} {C : Nat → Nat → Int32} {l n p : Nat} {m : VM}
theorem rZ_ok {z : VM} {mo le : Int32} {b : Int × (Nat → Int32)} {i : Nat} (h : rOkR n p m z mo le b) (a b' c : Int32) : rOkR n p m (rZ z i a b' c) mo le b := ((h.put (by omega) _).put (by omega) _).put (by omega) _
theorem rZ_kep {z : VM} {i : Nat} (a b c : Int32) : rKep z (rZ z i a b c) i := by
  unfold rZ
  refine ⟨fun s hs => by rw [rAn (by decide), rAn (by decide), rAn (by decide)], fun s hs => ⟨?_, ?_, ?_⟩⟩
  · rw [rAn (by decide), rAn (by decide), rAs, u_n (by omega)]
  · rw [rAn (by decide), rAs, u_n (by omega)]
  · rw [rAs, u_n (by omega)]
theorem r_gone (mm : VM) (v10 : Int32 × VM) {zo z : VM} {mo le : Int32} {i t : Nat} (hi : i < 8) (hp : p < 8) (ht : t ≤ 4) (g : T i ≤ 4) (h : z.2.1 1252 0 (8 * p + i) = nI (T i)) (q : t ≤ T i) : b_X12_reel_337 mm (nI p) (nI l) v10 (mo, le, nI i, zo) (nI t, 1, z) = Sum.inr (Sum.inl (mo, le, nI (i + 1), setA (setA z 1278 0 (upd (z.2.1 1278 0) i (nI t))) 1278 0 (upd (upd (z.2.1 1278 0) i (nI t)) (i + 1) (-1)))) := by
  have e9 : inb (nI i) 9 = true := by rw [inb_T, tI (by omega)]; omega
  have e9' : inb (nI (i + 1)) 9 = true := by rw [inb_T, tI (by omega)]; omega
  have e64 : inb (nI (8 * p + i)) 64 = true := by rw [inb_T, tI (by omega)]; omega
  have k1 : ¬ nI (T i) < nI t := by rw [Int32.lt_iff_toInt_lt, tI (by omega), tI (by omega)]; omega
  unfold b_X12_reel_337 j_X12_reel_573
  simp only [lm_8, nI_add, if_pos e64, nI_clamp (show 8 * p + i < 2 ^ 31 by omega), h, if_neg k1, if_neg n10, if_pos e9, nI_1, if_pos e9', nI_clamp (show i < 2 ^ 31 by omega), nI_clamp (show i + 1 < 2 ^ 31 by omega), rAs]
theorem r_past (mm : VM) (v10 : Int32 × VM) {zo z : VM} {mo le : Int32} {i t : Nat} (hi : i < 8) (hp : p < 8) (g : T i ≤ 4) (h : z.2.1 1252 0 (8 * p + i) = nI (T i)) (q : t = T i + 1) : b_X12_reel_337 mm (nI p) (nI l) v10 (mo, le, nI i, zo) (nI t, 0, z) = Sum.inr (Sum.inl (mo, le, nI i + (-1), z)) := by
  have e64 : inb (nI (8 * p + i)) 64 = true := by rw [inb_T, tI (by omega)]; omega
  have k1 : nI (T i) < nI t := by rw [Int32.lt_iff_toInt_lt, tI (by omega), tI (by omega)]; omega
  unfold b_X12_reel_337 j_X12_reel_573
  simp only [lm_8, nI_add, if_pos e64, nI_clamp (show 8 * p + i < 2 ^ 31 by omega), h, if_pos k1, if_true]
theorem r_ref (hD : rDaM T L W C l n p m) {mm : VM} (h35 : mm.2.1 1235 0 p = nI n) (v10 : Int32 × VM) {rs : Nat → Nat} (hrs : ∀ i, i ≤ n → m.2.1 1282 0 i = nI (rs i) ∧ rs i ≤ 792) (hr0 : ∀ i, i < n → rs (i + 1) ≤ rs i) (hr1 : ∀ i t, i < n → t < T i → W i t + rs (i + 1) ≤ rs i) : ∀ (k i : Nat) (z : VM) (mo le f : Int32) (len w : Nat) (tr : Nat → Int32) (b : Int × (Nat → Int32)), i + k = n → len ≤ l → w ≤ 99 * i → rOkR n p m z mo le b → rPth T z i tr → z.2.1 1278 0 i = -1 → z.2.1 1279 0 i = nI len → z.2.1 1280 0 i = nI w → z.2.1 1281 0 i = f → ∃ z' mo' le', loopF (Sum.inr none) (b_X12_reel_188 mm (nI p) (nI l) v10) (mo, le, nI i, z) = loopF (Sum.inr none) (b_X12_reel_188 mm (nI p) (nI l) v10) (mo', le', nI i + (-1), z') ∧ rOkR n p m z' mo' le' (rDfs T L W C l k i f len w tr b) ∧ rKep z z' i := by
  have n8 := hD.hn
  have p8 := hD.hp
  have l4 := hD.hl
  intro k
  induction k with
  | zero =>
    intro i z mo le f len w tr b e hlen hw hz hP c0 c1 c2 c3
    have ei : i = n := e
    subst ei
    have ein : inb (nI i) 9 = true := by rw [inb_T, tI (by omega)]; omega
    obtain ⟨z', g1, g2, g3⟩ := r_write hD h35 (f := f) hz hP c1 c2 v10 (by omega) (by omega)
    obtain ⟨b1, b2, b3, b4, b5⟩ := hz.2.2.2
    have go : b.1 < 1000 * (w : Int) - (len : Int) → b_X12_reel_188 mm (nI p) (nI l) v10 (mo, le, nI i, z) = j_X12_reel_232 mm (nI p) (nI l) v10 (mo, le, nI i, z) := by
      intro q
      unfold b_X12_reel_188
      simp only [if_neg (nI_npos (show i < 2147483648 by omega)), nI_clamp (show p < 2 ^ 31 by omega), h35, if_true, if_pos ein, nI_clamp (show i < 2 ^ 31 by omega), c1, c2]
      by_cases r : mo < nI w
      · rw [if_pos r]
      · rw [if_neg r]
        rw [Int32.lt_iff_toInt_lt, tI (by omega)] at r
        have em : nI w = mo := Int32.toInt_inj.mp (by rw [tI (by omega)]; omega)
        rw [if_pos em, if_neg (by rw [Int32.le_iff_toInt_le, tI (by omega)]; rw [← em, tI (by omega)] at b5; omega)]
    have stay : ¬ b.1 < 1000 * (w : Int) - (len : Int) → b_X12_reel_188 mm (nI p) (nI l) v10 (mo, le, nI i, z) = Sum.inl (mo, le, nI i + (-1), z) := by
      intro q
      unfold b_X12_reel_188
      simp only [if_neg (nI_npos (show i < 2147483648 by omega)), nI_clamp (show p < 2 ^ 31 by omega), h35, if_true, if_pos ein, nI_clamp (show i < 2 ^ 31 by omega), c1, c2]
      rw [if_neg (by rw [Int32.lt_iff_toInt_lt, tI (by omega)]; omega)]
      by_cases r : nI w = mo
      · rw [if_pos r, if_pos (by rw [Int32.le_iff_toInt_le, tI (by omega)]; rw [← r, tI (by omega)] at b5; omega)]
      · rw [if_neg r]
    unfold rDfs
    by_cases q : b.1 < 1000 * (w : Int) - (len : Int)
    · rw [if_pos q]
      exact ⟨z', _, _, lp_inl ((go q).trans g1), g2, g3⟩
    · rw [if_neg q]
      exact ⟨z, mo, le, lp_inl (stay q), hz, fun s hs => rfl, fun s hs => ⟨rfl, rfl, rfl⟩⟩
  | succ k ih =>
    intro i z0 mo0 le0 f len w tr b e hlen hw hz0 hP0 c00 c10 c20 c30
    have hi : i < n := by omega
    have t4 := hD.hT i hi
    have e9 : inb (nI i) 9 = true := by rw [inb_T, tI (by omega)]; omega
    have nn : ¬ nI i = nI n := by rw [i32eq, tI (by omega), tI (by omega)]; omega
    have enter : ∀ mo le z c, z.2.1 1278 0 i + 1 = c → b_X12_reel_188 mm (nI p) (nI l) v10 (mo, le, nI i, z) = loopF (Sum.inr (Sum.inr none)) (b_X12_reel_337 mm (nI p) (nI l) v10 (mo, le, nI i, z)) (c, 0, z) := by
      intro mo le z c hc
      unfold b_X12_reel_188
      simp only [if_neg (nI_npos (show i < 2147483648 by omega)), nI_clamp (show p < 2 ^ 31 by omega), h35, if_neg nn, if_pos e9, nI_clamp (show i < 2 ^ 31 by omega), hc]
    have inner : ∀ j t z zo mo le, t + j = T i + 1 → rOkR n p m z mo le (fdN (rStep T L W C l (rDfs T L W C l k) i f len w tr) t b) → rKep z0 z i → ∃ z' mo' le', (loopF (Sum.inr (Sum.inr none)) (b_X12_reel_337 mm (nI p) (nI l) v10 (mo, le, nI i, zo)) (nI t, 0, z)).elim (fun v' => loopF (Sum.inr none) (b_X12_reel_188 mm (nI p) (nI l) v10) v') id = loopF (Sum.inr none) (b_X12_reel_188 mm (nI p) (nI l) v10) (mo', le', nI i + (-1), z') ∧ rOkR n p m z' mo' le' (rDfs T L W C l (k + 1) i f len w tr b) ∧ rKep z0 z' i := by
      intro j
      induction j with
      | zero =>
        intro t z zo mo le ht hz hk
        have hDz := hD.to hz.1
        rw [lp_inr (r_past mm v10 (by omega) p8 t4 (hDz.h1252 i hi) (show t = T i + 1 from ht))]
        refine ⟨z, mo, le, rfl, ?_, hk⟩
        have : t = T i + 1 := ht
        subst this
        exact hz
      | succ j ihj =>
        intro t z zo mo le ht hz hk
        have hDz := hD.to hz.1
        have c1 : z.2.1 1279 0 i = nI len := ((hk.2 i (Nat.le_refl _)).1).trans c10
        have c2 : z.2.1 1280 0 i = nI w := ((hk.2 i (Nat.le_refl _)).2.1).trans c20
        have c3 : z.2.1 1281 0 i = f := ((hk.2 i (Nat.le_refl _)).2.2).trans c30
        obtain ⟨b1, b2, b3, b4, b5⟩ := hz.2.2.2
        generalize hB : fdN (rStep T L W C l (rDfs T L W C l k) i f len w tr) t b = B at hz b5
        have nxt : fdN (rStep T L W C l (rDfs T L W C l k) i f len w tr) (t + 1) b = rStep T L W C l (rDfs T L W C l k) i f len w tr t B := by rw [← hB]; rfl
        /- going down with a take -/
        have deep : ∀ (len2 w2 : Nat) (f2 v : Int32), len2 ≤ l → w2 ≤ 99 * (i + 1) → v = (if t < T i then nI t else -1) → rStep T L W C l (rDfs T L W C l k) i f len w tr t B = rDfs T L W C l k (i + 1) f2 len2 w2 (upd tr i v) B → b_X12_reel_337 mm (nI p) (nI l) v10 (mo, le, nI i, zo) (nI t, 0, z) = Sum.inl (nI t, 1, rZ z i (nI len2) (nI w2) f2) → ∃ z' mo' le', (loopF (Sum.inr (Sum.inr none)) (b_X12_reel_337 mm (nI p) (nI l) v10 (mo, le, nI i, zo)) (nI t, 0, z)).elim (fun v' => loopF (Sum.inr none) (b_X12_reel_188 mm (nI p) (nI l) v10) v') id = loopF (Sum.inr none) (b_X12_reel_188 mm (nI p) (nI l) v10) (mo', le', nI i + (-1), z') ∧ rOkR n p m z' mo' le' (rDfs T L W C l (k + 1) i f len w tr b) ∧ rKep z0 z' i := by
          intro len2 w2 f2 v hl2 hw2 hv hst hb
          have hz2 := rZ_ok (i := i) hz (nI len2) (nI w2) f2
          have hD2 := hD.to hz2.1
          rw [lp_inl hb, lp_inr (r_gone mm v10 (by omega) p8 (by omega) t4 (hD2.h1252 i hi) (by omega)), setAA]
          have hk2 : rKep z0 (rZ z i (nI len2) (nI w2) f2) i := hk.trans (rZ_kep _ _ _)
          generalize hZ : setA (rZ z i (nI len2) (nI w2) f2) 1278 0 (upd (upd ((rZ z i (nI len2) (nI w2) f2).2.1 1278 0) i (nI t)) (i + 1) (-1)) = Z
          have hzZ : rOkR n p m Z mo le B := by rw [← hZ]; exact hz2.put (by omega) _
          have a78 : ∀ s, s < i → Z.2.1 1278 0 s = z0.2.1 1278 0 s := by
            intro s hs
            rw [← hZ, rAs, u_n (by omega), u_n (by omega)]; exact hk2.1 s hs
          have a78i : Z.2.1 1278 0 i = nI t := by rw [← hZ, rAs, u_n (by omega), pk_us]
          have a78j : Z.2.1 1278 0 (i + 1) = -1 := by rw [← hZ, rAs, pk_us]
          have a79 : ∀ s, s ≤ i → Z.2.1 1279 0 s = z0.2.1 1279 0 s ∧ Z.2.1 1280 0 s = z0.2.1 1280 0 s ∧ Z.2.1 1281 0 s = z0.2.1 1281 0 s := by
            intro s hs
            rw [← hZ, rAn (by decide), rAn (by decide), rAn (by decide)]; exact hk2.2 s hs
          have y79 : Z.2.1 1279 0 (i + 1) = nI len2 := by rw [← hZ, rAn (by decide)]; unfold rZ; rw [rAn (by decide), rAn (by decide), rAs, pk_us]
          have y80 : Z.2.1 1280 0 (i + 1) = nI w2 := by rw [← hZ, rAn (by decide)]; unfold rZ; rw [rAn (by decide), rAs, pk_us]
          have y81 : Z.2.1 1281 0 (i + 1) = f2 := by rw [← hZ, rAn (by decide)]; unfold rZ; rw [rAs, pk_us]
          have hPZ : rPth T Z (i + 1) (upd tr i v) := by
            intro s hs
            by_cases es : s = i
            · subst es; exact ⟨t, by omega, a78i, by rw [pk_us]; exact hv⟩
            · rw [u_n es]
              obtain ⟨u, u1, u2, u3⟩ := hP0 s (by omega)
              exact ⟨u, u1, (a78 s (by omega)).trans u2, u3⟩
          obtain ⟨z', mo', le', g1, g2, g3⟩ := ih (i + 1) Z mo le f2 len2 w2 (upd tr i v) B (by omega) hl2 hw2 hzZ hPZ a78j y79 y80 y81
          have hkZ : rKep z0 z' i := by
            refine ⟨fun s hs => (g3.1 s (by omega)).trans (a78 s hs), fun s hs => ?_⟩
            obtain ⟨q1, q2, q3⟩ := g3.2 s (by omega)
            obtain ⟨r1, r2, r3⟩ := a79 s hs
            exact ⟨q1.trans r1, q2.trans r2, q3.trans r3⟩
          obtain ⟨z3, mo3, le3, s1, s2, s3⟩ := ihj (t + 1) z' z' mo' le' (by omega) (by rw [nxt, hst]; exact g2) hkZ
          refine ⟨z3, mo3, le3, ?_, s2, s3⟩
          show loopF (Sum.inr none) (b_X12_reel_188 mm (nI p) (nI l) v10) (mo, le, nI (i + 1), Z) = _
          rw [g1, pk_m1, loopF_eq, enter mo' le' z' (nI (t + 1)) (by rw [g3.1 i (by omega), a78i, nI_1])]
          exact s1
        /- passing by -/
        have pass : ∀ (z2 : VM), rOkR n p m z2 mo le B → rKep z z2 i → rStep T L W C l (rDfs T L W C l k) i f len w tr t B = B → b_X12_reel_337 mm (nI p) (nI l) v10 (mo, le, nI i, zo) (nI t, 0, z) = Sum.inl (nI (t + 1), 0, z2) → ∃ z' mo' le', (loopF (Sum.inr (Sum.inr none)) (b_X12_reel_337 mm (nI p) (nI l) v10 (mo, le, nI i, zo)) (nI t, 0, z)).elim (fun v' => loopF (Sum.inr none) (b_X12_reel_188 mm (nI p) (nI l) v10) v') id = loopF (Sum.inr none) (b_X12_reel_188 mm (nI p) (nI l) v10) (mo', le', nI i + (-1), z') ∧ rOkR n p m z' mo' le' (rDfs T L W C l (k + 1) i f len w tr b) ∧ rKep z0 z' i := by
          intro z2 hz2 hk2 hst hb
          rw [lp_inl hb]
          exact ihj (t + 1) z2 zo mo le (by omega) (by rw [nxt, hst]; exact hz2) (hk.trans hk2)
        by_cases q : t < T i
        · have g := r_gate hD mm v10 zo hrs (mo := mo) (le := le) hz.1 c1 c2 c3 hi q (by omega) (by omega)
          have w1 := hD.hW i t hi q
          have hstep : rStep T L W C l (rDfs T L W C l k) i f len w tr t B = if (f = -1 ∨ C i t / 10 = f) ∧ len + L i t ≤ l then rDfs T L W C l k (i + 1) (C i t - C i t / 10 * 10) (len + L i t) (w + W i t) (upd tr i (nI t)) B else B := by
            unfold rStep; rw [if_pos q]
          by_cases gg : len + L i t ≤ l ∧ mo.toInt ≤ w + W i t + rs (i + 1) ∧ (f = -1 ∨ C i t / 10 = f)
          · rw [if_pos gg] at g
            exact deep _ _ _ (nI t) gg.1 (by omega) (by rw [if_pos q]) (by rw [hstep, if_pos ⟨gg.2.2, gg.1⟩]) g
          · rw [if_neg gg] at g
            refine pass _ (rZ_ok hz _ _ _) (rZ_kep _ _ _) ?_ g
            rw [hstep]
            by_cases r : (f = -1 ∨ C i t / 10 = f) ∧ len + L i t ≤ l
            · rw [if_pos r]
              have r2 : ¬ mo.toInt ≤ w + W i t + rs (i + 1) := fun r2 => gg ⟨r.2, r2, r.1⟩
              exact r_low (n := n) (M := fun i => 1000 * (rs i : Int)) (fun i hi => by have := hr0 i hi; omega) (fun i t hi ht => by have := hr1 i t hi ht; omega) (by omega) k (i + 1) _ _ _ _ B (by omega) (by omega)
            · rw [if_neg r]
        · have g := r_gat0 hD mm v10 zo hrs (mo := mo) (le := le) hz.1 c1 c2 c3 hi (show t = T i by omega) hlen (by omega)
          have hstep : rStep T L W C l (rDfs T L W C l k) i f len w tr t B = rDfs T L W C l k (i + 1) f len w (upd tr i (-1)) B := by
            unfold rStep; rw [if_neg q]
          by_cases gg : mo.toInt ≤ w + rs (i + 1)
          · rw [if_pos gg] at g
            exact deep _ _ _ (-1) hlen (by omega) (by rw [if_neg q]) hstep g
          · rw [if_neg gg] at g
            refine pass _ (rZ_ok hz _ _ _) (rZ_kep _ _ _) ?_ g
            rw [hstep]
            exact r_low (n := n) (M := fun i => 1000 * (rs i : Int)) (fun i hi => by have := hr0 i hi; omega) (fun i t hi ht => by have := hr1 i t hi ht; omega) (by omega) k (i + 1) _ _ _ _ B (by omega) (by omega)
    obtain ⟨z', mo', le', s1, s2, s3⟩ := inner (T i + 1) 0 z0 z0 mo0 le0 (by omega) hz0 ⟨fun s hs => rfl, fun s hs => ⟨rfl, rfl, rfl⟩⟩
    refine ⟨z', mo', le', ?_, s2, s3⟩
    rw [loopF_eq, enter mo0 le0 z0 (nI 0) (by rw [c00]; rfl)]
    exact s1
end
