/-! the reference's search -/
def rDaM (T : Nat → Nat) (L W : Nat → Nat → Nat) (C : Nat → Nat → Int32) (l n p : Nat) (m : VM) : Prop := (n ≤ 8) ∧ (l ≤ 400) ∧ (p < 8) ∧ (∀ i, i < n → T i ≤ 4) ∧ (∀ i, i < n → m.2.1 1252 0 (8 * p + i) = nI (T i)) ∧ (∀ i t, i < n → t < T i → m.2.1 1253 0 (4 * (8 * p + i) + t) = nI (L i t)) ∧ (∀ i t, i < n → t < T i → m.2.1 1254 0 (4 * (8 * p + i) + t) = nI (W i t)) ∧ (∀ i t, i < n → t < T i → m.2.1 1255 0 (4 * (8 * p + i) + t) = C i t) ∧ (∀ i t, i < n → t < T i → L i t ≤ 99) ∧ (∀ i t, i < n → t < T i → W i t ≤ 99)
theorem rDaM.hn {T : Nat → Nat} {L W : Nat → Nat → Nat} {C : Nat → Nat → Int32} {l n p : Nat} {m : VM} (h : rDaM T L W C l n p m) : n ≤ 8 := h.1
theorem rDaM.hl {T : Nat → Nat} {L W : Nat → Nat → Nat} {C : Nat → Nat → Int32} {l n p : Nat} {m : VM} (h : rDaM T L W C l n p m) : l ≤ 400 := h.2.1
theorem rDaM.hp {T : Nat → Nat} {L W : Nat → Nat → Nat} {C : Nat → Nat → Int32} {l n p : Nat} {m : VM} (h : rDaM T L W C l n p m) : p < 8 := h.2.2.1
theorem rDaM.hT {T : Nat → Nat} {L W : Nat → Nat → Nat} {C : Nat → Nat → Int32} {l n p : Nat} {m : VM} (h : rDaM T L W C l n p m) : ∀ i, i < n → T i ≤ 4 := h.2.2.2.1
theorem rDaM.h1252 {T : Nat → Nat} {L W : Nat → Nat → Nat} {C : Nat → Nat → Int32} {l n p : Nat} {m : VM} (h : rDaM T L W C l n p m) : ∀ i, i < n → m.2.1 1252 0 (8 * p + i) = nI (T i) := h.2.2.2.2.1
theorem rDaM.h1253 {T : Nat → Nat} {L W : Nat → Nat → Nat} {C : Nat → Nat → Int32} {l n p : Nat} {m : VM} (h : rDaM T L W C l n p m) : ∀ i t, i < n → t < T i → m.2.1 1253 0 (4 * (8 * p + i) + t) = nI (L i t) := h.2.2.2.2.2.1
theorem rDaM.h1254 {T : Nat → Nat} {L W : Nat → Nat → Nat} {C : Nat → Nat → Int32} {l n p : Nat} {m : VM} (h : rDaM T L W C l n p m) : ∀ i t, i < n → t < T i → m.2.1 1254 0 (4 * (8 * p + i) + t) = nI (W i t) := h.2.2.2.2.2.2.1
theorem rDaM.h1255 {T : Nat → Nat} {L W : Nat → Nat → Nat} {C : Nat → Nat → Int32} {l n p : Nat} {m : VM} (h : rDaM T L W C l n p m) : ∀ i t, i < n → t < T i → m.2.1 1255 0 (4 * (8 * p + i) + t) = C i t := h.2.2.2.2.2.2.2.1
theorem rDaM.hL {T : Nat → Nat} {L W : Nat → Nat → Nat} {C : Nat → Nat → Int32} {l n p : Nat} {m : VM} (h : rDaM T L W C l n p m) : ∀ i t, i < n → t < T i → L i t ≤ 99 := h.2.2.2.2.2.2.2.2.1
theorem rDaM.hW {T : Nat → Nat} {L W : Nat → Nat → Nat} {C : Nat → Nat → Int32} {l n p : Nat} {m : VM} (h : rDaM T L W C l n p m) : ∀ i t, i < n → t < T i → W i t ≤ 99 := h.2.2.2.2.2.2.2.2.2
def rlM (m z : VM) : Prop := z.1 = m.1 ∧ (∀ F i, F ≠ 1278 → F ≠ 1279 → F ≠ 1280 → F ≠ 1281 → F ≠ 1256 → z.2.1 F i = m.2.1 F i) ∧ z.2.2 = m.2.2 ∧ ∀ F i, i ≠ 0 → z.2.1 F i = m.2.1 F i
def rOkR (n p : Nat) (m z : VM) (mo le : Int32) (b : Int × (Nat → Int32)) : Prop := rlM m z ∧ (∀ s, s < n → z.2.1 1256 0 (8 * p + s) = b.2 s) ∧ (∀ j, (j < 8 * p ∨ 8 * p + n ≤ j) → z.2.1 1256 0 j = m.2.1 1256 0 j) ∧ (-1 ≤ mo.toInt ∧ mo.toInt ≤ 792 ∧ 0 ≤ le.toInt ∧ le.toInt ≤ 400 ∧ b.1 = 1000 * mo.toInt - le.toInt)
def rPth (T : Nat → Nat) (z : VM) (i : Nat) (tr : Nat → Int32) : Prop := ∀ s, s < i → ∃ t, t ≤ T s ∧ z.2.1 1278 0 s = nI t ∧ tr s = if t < T s then nI t else -1
def rKep (z z' : VM) (i : Nat) : Prop := (∀ s, s < i → z'.2.1 1278 0 s = z.2.1 1278 0 s) ∧ ∀ s, s ≤ i → z'.2.1 1279 0 s = z.2.1 1279 0 s ∧ z'.2.1 1280 0 s = z.2.1 1280 0 s ∧ z'.2.1 1281 0 s = z.2.1 1281 0 s
theorem rKep.trans {a b c : VM} {i : Nat} (h1 : rKep a b i) (h2 : rKep b c i) : rKep a c i := ⟨fun s hs => (h2.1 s hs).trans (h1.1 s hs), fun s hs => ⟨((h2.2 s hs).1).trans (h1.2 s hs).1, ((h2.2 s hs).2.1).trans (h1.2 s hs).2.1, ((h2.2 s hs).2.2).trans (h1.2 s hs).2.2⟩⟩
theorem rKep.mono {a b : VM} {i j : Nat} (h : rKep a b j) (hi : i ≤ j) : rKep a b i := ⟨fun s hs => h.1 s (by omega), fun s hs => h.2 s (by omega)⟩
theorem rPth.kep {T : Nat → Nat} {z z' : VM} {i : Nat} {tr : Nat → Int32} (h : rPth T z i tr) (k : rKep z z' i) : rPth T z' i tr := by
  intro s hs
  obtain ⟨t, t1, t2, t3⟩ := h s hs
  exact ⟨t, t1, (k.1 s hs).trans t2, t3⟩
section
variable {T : Nat → Nat} {L W : Nat → Nat → Nat} {C : Nat → Nat → Int32} {l n p : Nat} {m : VM}
theorem rDaM.to (h : rDaM T L W C l n p m) {z : VM} (hz : rlM m z) : rDaM T L W C l n p z := by
  obtain ⟨a1, a2, a3, _⟩ := hz
  refine ⟨h.hn, h.hl, h.hp, h.hT, fun i hi => ?_, fun i t hi ht => ?_, fun i t hi ht => ?_, fun i t hi ht => ?_, h.hL, h.hW⟩
  · rw [a2 1252 0 (by decide) (by decide) (by decide) (by decide) (by decide)]; exact h.h1252 i hi
  · rw [a2 1253 0 (by decide) (by decide) (by decide) (by decide) (by decide)]; exact h.h1253 i t hi ht
  · rw [a2 1254 0 (by decide) (by decide) (by decide) (by decide) (by decide)]; exact h.h1254 i t hi ht
  · rw [a2 1255 0 (by decide) (by decide) (by decide) (by decide) (by decide)]; exact h.h1255 i t hi ht
/-- a scratch array is written -/
theorem rlM.put {z : VM} (h : rlM m z) {G : Nat} (hG : G = 1278 ∨ G = 1279 ∨ G = 1280 ∨ G = 1281 ∨ G = 1256) (f : Nat → Int32) : rlM m (setA z G 0 f) := by
  obtain ⟨a1, a2, a3, a4⟩ := h
  refine ⟨a1, fun F i q1 q2 q3 q4 q5 => ?_, a3, fun F i hi => ?_⟩
  · rw [rAn (by omega)]; exact a2 F i q1 q2 q3 q4 q5
  · by_cases e : F = G
    · subst e; rw [sA_n hi]; exact a4 _ i hi
    · rw [rAn e]; exact a4 F i hi
theorem rOkR.put {z : VM} {mo le : Int32} {b : Int × (Nat → Int32)} (h : rOkR n p m z mo le b) {G : Nat} (hG : G = 1278 ∨ G = 1279 ∨ G = 1280 ∨ G = 1281) (f : Nat → Int32) : rOkR n p m (setA z G 0 f) mo le b := by
  obtain ⟨h1, h2, h3, h4⟩ := h
  exact ⟨h1.put (by omega) f, fun s hs => by rw [rAn (by omega)]; exact h2 s hs, fun j hj => by rw [rAn (by omega)]; exact h3 j hj, h4⟩
/-- the reel is written down -/
theorem r_write (hD : rDaM T L W C l n p m) {mm : VM} (h35 : mm.2.1 1235 0 p = nI n) {z : VM} {mo le f : Int32} {w len : Nat} {tr : Nat → Int32} {b : Int × (Nat → Int32)} (hz : rOkR n p m z mo le b) (hP : rPth T z n tr) (c1 : z.2.1 1279 0 n = nI len) (c2 : z.2.1 1280 0 n = nI w) (v10 : Int32 × VM) (hlen : len ≤ 400) (hw : w ≤ 792) : ∃ z', j_X12_reel_232 mm (nI p) (nI l) v10 (mo, le, nI n, z) = Sum.inl (nI w, nI len, nI n + (-1), z') ∧ rOkR n p m z' (nI w) (nI len) (1000 * (w : Int) - (len : Int), tr) ∧ rKep z z' n := by
  have n8 := hD.hn
  have p8 := hD.hp
  unfold j_X12_reel_232
  have ein : inb (nI n) 9 = true := by rw [inb_T, tI (by omega)]; omega
  rw [nI_clamp (by omega), h35, if_pos ein, if_pos ein]
  refine lp_cnt (V := Int32 × VM) (d := Sum.inr (Sum.inr none)) n (fun s v => ∃ z', v = (nI s, z') ∧ rlM m z' ∧ (∀ j, j < s → z'.2.1 1256 0 (8 * p + j) = tr j) ∧ (∀ j, (j < 8 * p ∨ 8 * p + n ≤ j) → z'.2.1 1256 0 j = m.2.1 1256 0 j) ∧ ∀ F, F ≠ 1256 → z'.2.1 F 0 = z.2.1 F 0) (fun o => ∃ z', o = Sum.inl (nI w, nI len, nI n + (-1), z') ∧ rOkR n p m z' (nI w) (nI len) (1000 * (w : Int) - (len : Int), tr) ∧ rKep z z' n) ?_ ?_ 0 _ (Nat.zero_le _) ⟨z, rfl, hz.1, fun j hj => by omega, hz.2.2.1, fun F _ => rfl⟩
  · rintro s v hs ⟨z', rfl, g1, g2, g3, g4⟩
    left
    have hDz := hD.to g1
    have lt : ¬ nI n ≤ nI s := by rw [Int32.le_iff_toInt_le, tI (by omega), tI (by omega)]; omega
    have t4 := hD.hT s hs
    obtain ⟨t, t1, t2, t3⟩ := hP s hs
    have e9 : inb (nI s) 9 = true := by rw [inb_T, tI (by omega)]; omega
    have e64 : inb (nI (8 * p + s)) 64 = true := by rw [inb_T, tI (by omega)]; omega
    unfold b_X12_reel_251
    simp only [nI_clamp (show p < 2 ^ 31 by omega), h35, if_neg lt, if_pos e9, lm_8, nI_add, if_pos e64, nI_clamp (show 8 * p + s < 2 ^ 31 by omega), nI_clamp (show s < 2 ^ 31 by omega), hDz.h1252 s hs, g4 1278 (by decide), t2, nI_1]
    have key : ∀ u, u = tr s → ∃ z2, setA z' 1256 0 (upd (z'.2.1 1256 0) (8 * p + s) u) = z2 ∧ rlM m z2 ∧ (∀ j, j < s + 1 → z2.2.1 1256 0 (8 * p + j) = tr j) ∧ (∀ j, (j < 8 * p ∨ 8 * p + n ≤ j) → z2.2.1 1256 0 j = m.2.1 1256 0 j) ∧ ∀ F, F ≠ 1256 → z2.2.1 F 0 = z.2.1 F 0 := by
      intro u hu
      refine ⟨_, rfl, g1.put (by omega) _, fun j hj => ?_, fun j hj => ?_, fun F hF => by rw [rAn hF]; exact g4 F hF⟩
      · rw [rAs]
        by_cases e : j = s
        · subst e; rw [pk_us]; exact hu
        · rw [u_n (by omega)]; exact g2 j (by omega)
      · rw [rAs, u_n (by omega)]; exact g3 j hj
    by_cases q : t < T s
    · rw [if_neg (by rw [Int32.le_iff_toInt_le, tI (by omega), tI (by omega)]; omega)]
      obtain ⟨z2, k1, k2⟩ := key (nI t) (by rw [t3, if_pos q])
      rw [k1]
      exact ⟨_, rfl, z2, rfl, k2⟩
    · rw [if_pos (by rw [Int32.le_iff_toInt_le, tI (by omega), tI (by omega)]; omega)]
      obtain ⟨z2, k1, k2⟩ := key (-1) (by rw [t3, if_neg q])
      rw [k1]
      exact ⟨_, rfl, z2, rfl, k2⟩
  · rintro v ⟨z', rfl, g1, g2, g3, g4⟩
    unfold b_X12_reel_251
    simp only [nI_clamp (show p < 2 ^ 31 by omega), h35, if_pos (Int32.le_refl (nI n)), nI_clamp (show n < 2 ^ 31 by omega), c1, c2]
    refine ⟨_, rfl, z', rfl, ⟨g1, g2, g3, by rw [tI (by omega), tI (by omega)]; exact ⟨by omega, by omega, by omega, by omega, rfl⟩⟩, fun s hs => by rw [g4 _ (by decide)], fun s hs => ⟨by rw [g4 _ (by decide)], by rw [g4 _ (by decide)], by rw [g4 _ (by decide)]⟩⟩
end
