def rZ (z : VM) (i : Nat) (a b c : Int32) : VM := setA (setA (setA z 1279 0 (upd (z.2.1 1279 0) (i + 1) a)) 1280 0 (upd (z.2.1 1280 0) (i + 1) b)) 1281 0 (upd (z.2.1 1281 0) (i + 1) c)
section
variable {T : Nat → Nat} {L W : Nat → Nat → Nat} {C : Nat → Nat → Int32} {l n p : Nat} {m : VM}
/-- a take is looked at -/
theorem r_gate (hD : rDaM T L W C l n p m) (mm : VM) (v10 : Int32 × VM) (zo : VM) {rs : Nat → Nat} (hrs : ∀ i, i ≤ n → m.2.1 1282 0 i = nI (rs i) ∧ rs i ≤ 792) {z : VM} {mo le f : Int32} {w len i t : Nat} (hz : rlM m z) (c1 : z.2.1 1279 0 i = nI len) (c2 : z.2.1 1280 0 i = nI w) (c3 : z.2.1 1281 0 i = f) (hi : i < n) (ht : t < T i) (hlen : len ≤ 400) (hw : w ≤ 792) : b_X12_reel_337 mm (nI p) (nI l) v10 (mo, le, nI i, zo) (nI t, 0, z) = if (len + L i t ≤ l ∧ mo.toInt ≤ w + W i t + rs (i + 1) ∧ (f = -1 ∨ C i t / 10 = f)) then Sum.inl (nI t, 1, rZ z i (nI (len + L i t)) (nI (w + W i t)) (C i t - C i t / 10 * 10)) else Sum.inl (nI (t + 1), 0, rZ z i (nI (len + L i t)) (nI (w + W i t)) (C i t - C i t / 10 * 10)) := by
  have n8 := hD.hn
  have p8 := hD.hp
  have l4 := hD.hl
  have t4 := hD.hT i hi
  have hDz := hD.to hz
  have l1 := hD.hL i t hi ht
  have w1 := hD.hW i t hi ht
  have e9 : inb (nI i) 9 = true := by rw [inb_T, tI (by omega)]; omega
  have e9' : inb (nI (i + 1)) 9 = true := by rw [inb_T, tI (by omega)]; omega
  have e64 : inb (nI (8 * p + i)) 64 = true := by rw [inb_T, tI (by omega)]; omega
  have e256 : inb (nI (4 * (8 * p + i) + t)) 256 = true := by rw [inb_T, tI (by omega)]; omega
  have k1 : ¬ nI (T i) < nI t := by rw [Int32.lt_iff_toInt_lt, tI (by omega), tI (by omega)]; omega
  have k2 : ¬ nI (T i) ≤ nI t := by rw [Int32.le_iff_toInt_le, tI (by omega), tI (by omega)]; omega
  obtain ⟨r1, r2⟩ := hrs (i + 1) (by omega)
  have r1' : z.2.1 1282 0 (i + 1) = nI (rs (i + 1)) := by rw [hz.2.1 1282 0 (by decide) (by decide) (by decide) (by decide) (by decide)]; exact r1
  unfold b_X12_reel_337
  simp only [lm_8, nI_add, if_pos e64, nI_clamp (show 8 * p + i < 2 ^ 31 by omega), hDz.h1252 i hi, if_neg k1, if_neg k2, if_true]
  unfold j_X12_reel_380
  simp only [lm_8, lm_4, nI_add, if_pos e9, if_neg n10, if_pos e256, nI_clamp (show i < 2 ^ 31 by omega), nI_clamp (show 4 * (8 * p + i) + t < 2 ^ 31 by omega), hDz.h1253 i t hi ht, c1, nI_1]
  unfold j_X12_reel_413
  simp only [lm_8, lm_4, nI_add, if_pos e9', if_pos e9, if_neg n10, if_pos e256, nI_clamp (show i < 2 ^ 31 by omega), nI_clamp (show i + 1 < 2 ^ 31 by omega), nI_clamp (show 4 * (8 * p + i) + t < 2 ^ 31 by omega), nI_1]
  rw [rAn (show 1254 ≠ 1279 by decide), rAn (show 1280 ≠ 1279 by decide), c2, hDz.h1254 i t hi ht]
  unfold j_X12_reel_446
  simp only [lm_8, lm_4, nI_add, if_pos e9', if_neg n10, if_pos e256, nI_clamp (show i + 1 < 2 ^ 31 by omega), nI_clamp (show 4 * (8 * p + i) + t < 2 ^ 31 by omega), nI_1]
  have g55 : ∀ u v, (setA (setA z 1279 0 u) 1280 0 v).2.1 1255 0 (4 * (8 * p + i) + t) = C i t := fun u v => by rw [rAn (by decide), rAn (by decide)]; exact hDz.h1255 i t hi ht
  rw [g55, rAn (show 1280 ≠ 1279 by decide)]
  unfold j_X12_reel_481
  have h79 : (rZ z i (nI (len + L i t)) (nI (w + W i t)) (C i t - C i t / 10 * 10)).2.1 1279 0 (i + 1) = nI (len + L i t) := by unfold rZ; rw [rAn (by decide), rAn (by decide), rAs, pk_us]
  have h80 : (rZ z i (nI (len + L i t)) (nI (w + W i t)) (C i t - C i t / 10 * 10)).2.1 1280 0 (i + 1) = nI (w + W i t) := by unfold rZ; rw [rAn (by decide), rAs, pk_us]
  have h82 : (rZ z i (nI (len + L i t)) (nI (w + W i t)) (C i t - C i t / 10 * 10)).2.1 1282 0 (i + 1) = nI (rs (i + 1)) := by unfold rZ; rw [rAn (by decide), rAn (by decide), rAn (by decide)]; exact r1'
  have h81 : (rZ z i (nI (len + L i t)) (nI (w + W i t)) (C i t - C i t / 10 * 10)).2.1 1281 0 i = f := by unfold rZ; rw [rAs, u_n (by omega)]; exact c3
  have h55 : (rZ z i (nI (len + L i t)) (nI (w + W i t)) (C i t - C i t / 10 * 10)).2.1 1255 0 (4 * (8 * p + i) + t) = C i t := by unfold rZ; rw [rAn (by decide), rAn (by decide), rAn (by decide)]; exact hDz.h1255 i t hi ht
  have hZ : setA (setA (setA z 1279 0 (upd (z.2.1 1279 0) (i + 1) (nI (len + L i t)))) 1280 0 (upd (z.2.1 1280 0) (i + 1) (nI (w + W i t)))) 1281 0 (upd ((setA (setA z 1279 0 (upd (z.2.1 1279 0) (i + 1) (nI (len + L i t)))) 1280 0 (upd (z.2.1 1280 0) (i + 1) (nI (w + W i t)))).2.1 1281 0) (i + 1) (C i t - C i t / 10 * 10)) = rZ z i (nI (len + L i t)) (nI (w + W i t)) (C i t - C i t / 10 * 10) := rfl
  simp only [lm_8, lm_4, nI_add, if_pos e9', if_pos e9, if_neg n10, if_true, if_pos e256, nI_clamp (show i < 2 ^ 31 by omega), nI_clamp (show i + 1 < 2 ^ 31 by omega), nI_clamp (show 4 * (8 * p + i) + t < 2 ^ 31 by omega), nI_1, hZ, h79, h80, h81, h82, h55]
  by_cases q1 : len + L i t ≤ l
  · rw [if_neg (show ¬ nI l < nI (len + L i t) by rw [Int32.lt_iff_toInt_lt, tI (by omega), tI (by omega)]; omega)]
    by_cases q2 : mo.toInt ≤ w + W i t + rs (i + 1)
    · rw [if_neg (show ¬ nI (w + W i t + rs (i + 1)) < mo by rw [Int32.lt_iff_toInt_lt, tI (by omega)]; omega)]
      by_cases q3 : f = -1
      · rw [if_pos q3, if_pos ⟨q1, q2, Or.inl q3⟩]
      · rw [if_neg q3]
        by_cases q4 : C i t / 10 = f
        · rw [if_pos q4.symm, if_pos ⟨q1, q2, Or.inr q4⟩]
        · rw [if_neg (fun q => q4 q.symm), if_neg (fun q => q.2.2.elim q3 q4)]
    · rw [if_pos (show nI (w + W i t + rs (i + 1)) < mo by rw [Int32.lt_iff_toInt_lt, tI (by omega)]; omega), if_neg (fun q => q2 q.2.1)]
  · rw [if_pos (show nI l < nI (len + L i t) by rw [Int32.lt_iff_toInt_lt, tI (by omega), tI (by omega)]; omega), if_neg (fun q => q1 q.1)]
/-- none is taken -/
theorem r_gat0 (hD : rDaM T L W C l n p m) (mm : VM) (v10 : Int32 × VM) (zo : VM) {rs : Nat → Nat} (hrs : ∀ i, i ≤ n → m.2.1 1282 0 i = nI (rs i) ∧ rs i ≤ 792) {z : VM} {mo le f : Int32} {w len i t : Nat} (hz : rlM m z) (c1 : z.2.1 1279 0 i = nI len) (c2 : z.2.1 1280 0 i = nI w) (c3 : z.2.1 1281 0 i = f) (hi : i < n) (ht : t = T i) (hlen : len ≤ l) (hw : w ≤ 792) : b_X12_reel_337 mm (nI p) (nI l) v10 (mo, le, nI i, zo) (nI t, 0, z) = if mo.toInt ≤ w + rs (i + 1) then Sum.inl (nI t, 1, rZ z i (nI len) (nI w) f) else Sum.inl (nI (t + 1), 0, rZ z i (nI len) (nI w) f) := by
  have n8 := hD.hn
  have p8 := hD.hp
  have l4 := hD.hl
  have t4 := hD.hT i hi
  have hDz := hD.to hz
  have e9 : inb (nI i) 9 = true := by rw [inb_T, tI (by omega)]; omega
  have e9' : inb (nI (i + 1)) 9 = true := by rw [inb_T, tI (by omega)]; omega
  have e64 : inb (nI (8 * p + i)) 64 = true := by rw [inb_T, tI (by omega)]; omega
  have k1 : ¬ nI (T i) < nI t := by rw [Int32.lt_iff_toInt_lt, tI (by omega), tI (by omega)]; omega
  have k2 : nI (T i) ≤ nI t := by rw [Int32.le_iff_toInt_le, tI (by omega), tI (by omega)]; omega
  obtain ⟨r1, r2⟩ := hrs (i + 1) (by omega)
  have r1' : z.2.1 1282 0 (i + 1) = nI (rs (i + 1)) := by rw [hz.2.1 1282 0 (by decide) (by decide) (by decide) (by decide) (by decide)]; exact r1
  have add0 : ∀ k, nI k + 0 = nI k := fun k => nI_add k 0
  unfold b_X12_reel_337
  simp only [lm_8, nI_add, if_pos e64, nI_clamp (show 8 * p + i < 2 ^ 31 by omega), hDz.h1252 i hi, if_neg k1, if_pos k2, if_true]
  unfold j_X12_reel_380
  simp only [if_pos e9, if_true, nI_clamp (show i < 2 ^ 31 by omega), c1, nI_1]
  unfold j_X12_reel_413
  simp only [if_pos e9', if_pos e9, if_true, nI_clamp (show i < 2 ^ 31 by omega), nI_clamp (show i + 1 < 2 ^ 31 by omega), nI_1, add0]
  rw [rAn (show 1280 ≠ 1279 by decide), c2]
  unfold j_X12_reel_446
  simp only [if_pos e9', if_pos e9, if_true, nI_clamp (show i < 2 ^ 31 by omega), nI_clamp (show i + 1 < 2 ^ 31 by omega), nI_1, add0]
  have g81 : ∀ u v, (setA (setA z 1279 0 u) 1280 0 v).2.1 1281 0 i = f := fun u v => by rw [rAn (by decide), rAn (by decide)]; exact c3
  rw [g81, rAn (show 1280 ≠ 1279 by decide)]
  unfold j_X12_reel_481
  have h79 : (rZ z i (nI len) (nI w) f).2.1 1279 0 (i + 1) = nI len := by unfold rZ; rw [rAn (by decide), rAn (by decide), rAs, pk_us]
  have h80 : (rZ z i (nI len) (nI w) f).2.1 1280 0 (i + 1) = nI w := by unfold rZ; rw [rAn (by decide), rAs, pk_us]
  have h82 : (rZ z i (nI len) (nI w) f).2.1 1282 0 (i + 1) = nI (rs (i + 1)) := by unfold rZ; rw [rAn (by decide), rAn (by decide), rAn (by decide)]; exact r1'
  have hZ : setA (setA (setA z 1279 0 (upd (z.2.1 1279 0) (i + 1) (nI len))) 1280 0 (upd (z.2.1 1280 0) (i + 1) (nI w))) 1281 0 (upd ((setA (setA z 1279 0 (upd (z.2.1 1279 0) (i + 1) (nI len))) 1280 0 (upd (z.2.1 1280 0) (i + 1) (nI w))).2.1 1281 0) (i + 1) f) = rZ z i (nI len) (nI w) f := rfl
  simp only [if_pos e9', if_neg n10, if_true, nI_clamp (show i < 2 ^ 31 by omega), nI_clamp (show i + 1 < 2 ^ 31 by omega), nI_1, hZ, h79, h80, h82, nI_add]
  rw [if_neg (show ¬ nI l < nI len by rw [Int32.lt_iff_toInt_lt, tI (by omega), tI (by omega)]; omega)]
  by_cases q2 : mo.toInt ≤ w + rs (i + 1)
  · rw [if_neg (show ¬ nI (w + rs (i + 1)) < mo by rw [Int32.lt_iff_toInt_lt, tI (by omega)]; omega), if_pos q2]
  · rw [if_pos (show nI (w + rs (i + 1)) < mo by rw [Int32.lt_iff_toInt_lt, tI (by omega)]; omega), if_neg q2]
end
