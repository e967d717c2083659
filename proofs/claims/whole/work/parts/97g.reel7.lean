theorem rlX_ex {p : Nat} {x y : VM} (h : rlX p x y) : ∃ f v R, y = setA (setI (setA x 700 0 f) 703 0 v) 513 p R := by
  obtain ⟨a1, a2, a3, a4⟩ := h
  refine ⟨y.2.1 700 0, y.1 703 0, y.2.1 513 p, Prod.ext ?_ (Prod.ext ?_ a3)⟩
  · funext F i
    show y.1 F i = if F = 703 ∧ i = 0 then y.1 703 0 else x.1 F i
    by_cases e : F = 703
    · subst e
      by_cases e0 : i = 0
      · subst e0; rw [if_pos ⟨rfl, rfl⟩]
      · rw [if_neg (fun q => e0 q.2)]; exact (a4 i e0).1
    · rw [if_neg (fun q => e q.1)]; exact a1 F i e
  · funext F i
    show y.2.1 F i = if F = 513 ∧ i = p then y.2.1 513 p else if F = 700 ∧ i = 0 then y.2.1 700 0 else x.2.1 F i
    by_cases e : F = 513 ∧ i = p
    · rw [if_pos e, e.1, e.2]
    · rw [if_neg e]
      by_cases e7 : F = 700
      · subst e7
        by_cases e0 : i = 0
        · subst e0; rw [if_pos ⟨rfl, rfl⟩]
        · rw [if_neg (fun q => e0 q.2)]; exact (a4 i e0).2
      · rw [if_neg (fun q => e7 q.1)]; exact a2 F i e7 (fun q r => e ⟨q, r⟩)
theorem rlM_ex {m z : VM} (h : rlM m z) : ∃ f1 f2 f3 f4 R, z = setA (setA (setA (setA (setA m 1278 0 f1) 1279 0 f2) 1280 0 f3) 1281 0 f4) 1256 0 R := by
  obtain ⟨a1, a2, a3, a4⟩ := h
  refine ⟨z.2.1 1278 0, z.2.1 1279 0, z.2.1 1280 0, z.2.1 1281 0, z.2.1 1256 0, Prod.ext a1 (Prod.ext ?_ a3)⟩
  funext F i
  show z.2.1 F i = if F = 1256 ∧ i = 0 then z.2.1 1256 0 else if F = 1281 ∧ i = 0 then z.2.1 1281 0 else if F = 1280 ∧ i = 0 then z.2.1 1280 0 else if F = 1279 ∧ i = 0 then z.2.1 1279 0 else if F = 1278 ∧ i = 0 then z.2.1 1278 0 else m.2.1 F i
  by_cases e0 : i = 0
  · subst e0
    by_cases e1 : F = 1256
    · subst e1; rw [if_pos ⟨rfl, rfl⟩]
    · rw [if_neg (fun q => e1 q.1)]
      by_cases e2 : F = 1281
      · subst e2; rw [if_pos ⟨rfl, rfl⟩]
      · rw [if_neg (fun q => e2 q.1)]
        by_cases e3 : F = 1280
        · subst e3; rw [if_pos ⟨rfl, rfl⟩]
        · rw [if_neg (fun q => e3 q.1)]
          by_cases e4 : F = 1279
          · subst e4; rw [if_pos ⟨rfl, rfl⟩]
          · rw [if_neg (fun q => e4 q.1)]
            by_cases e5 : F = 1278
            · subst e5; rw [if_pos ⟨rfl, rfl⟩]
            · rw [if_neg (fun q => e5 q.1)]; exact a2 F 0 e5 e4 e3 e2 e1
  · rw [if_neg (fun q => e0 q.2), if_neg (fun q => e0 q.2), if_neg (fun q => e0 q.2), if_neg (fun q => e0 q.2), if_neg (fun q => e0 q.2)]; exact a4 F i e0
section
variable {T : Nat → Nat} {L W : Nat → Nat → Nat} {C : Nat → Nat → Int32} {l n p : Nat} {m : VM}
theorem rDaM.up (h : rDaM T L W C l n p m) (rf : Nat → Int32) : rDaM T L W C l n p (setA m 1282 0 rf) := ⟨h.hn, h.hl, h.hp, h.hT, h.h1252, h.h1253, h.h1254, h.h1255, h.hL, h.hW⟩
theorem r_top (hD : rDaM T L W C l n p m) (mm : VM) {s : Nat} (hs : s < n) : ∃ top, loopF (Sum.inr none) (b_X12_reel_62 mm (nI p) (nI l) (nI s, m)) (0, 0) = Sum.inl (nI s + (-1), setA m 1282 0 (upd (m.2.1 1282 0) s (m.2.1 1282 0 (s + 1) + nI top))) ∧ top ≤ 99 ∧ ∀ t, t < T s → W s t ≤ top := by
  have n8 := hD.hn
  have p8 := hD.hp
  have t4 := hD.hT s hs
  have e64 : inb (nI (8 * p + s)) 64 = true := by rw [inb_T, tI (by omega)]; omega
  have e9 : inb (nI s) 9 = true := by rw [inb_T, tI (by omega)]; omega
  have e9' : inb (nI (s + 1)) 9 = true := by rw [inb_T, tI (by omega)]; omega
  refine lp_cnt (V := Int32 × Int32) (d := Sum.inr none) (T s) (fun t v => ∃ top, v = (nI top, nI t) ∧ top ≤ 99 ∧ ∀ u, u < t → W s u ≤ top) (fun o => ∃ top, o = Sum.inl (nI s + (-1), setA m 1282 0 (upd (m.2.1 1282 0) s (m.2.1 1282 0 (s + 1) + nI top))) ∧ top ≤ 99 ∧ ∀ t, t < T s → W s t ≤ top) ?_ ?_ 0 _ (Nat.zero_le _) ⟨0, rfl, by omega, fun u hu => by omega⟩
  · rintro t v ht ⟨top, rfl, h1, h2⟩
    left
    have lt : ¬ nI (T s) ≤ nI t := by rw [Int32.le_iff_toInt_le, tI (by omega), tI (by omega)]; omega
    have e256 : inb (nI (4 * (8 * p + s) + t)) 256 = true := by rw [inb_T, tI (by omega)]; omega
    have w1 := hD.hW s t hs ht
    unfold b_X12_reel_62
    simp only [lm_8, lm_4, nI_add, if_pos e64, nI_clamp (show 8 * p + s < 2 ^ 31 by omega), hD.h1252 s hs, if_neg lt, if_pos e256, nI_clamp (show 4 * (8 * p + s) + t < 2 ^ 31 by omega), hD.h1254 s t hs ht, nI_1]
    by_cases q : W s t ≤ top
    · rw [if_pos (by rw [Int32.le_iff_toInt_le, tI (by omega), tI (by omega)]; omega)]
      refine ⟨_, rfl, top, rfl, h1, fun u hu => ?_⟩
      by_cases e : u = t
      · subst e; exact q
      · exact h2 u (by omega)
    · rw [if_neg (by rw [Int32.le_iff_toInt_le, tI (by omega), tI (by omega)]; omega)]
      refine ⟨_, rfl, W s t, rfl, w1, fun u hu => ?_⟩
      by_cases e : u = t
      · subst e; exact Nat.le_refl _
      · have := h2 u (by omega); omega
  · rintro v ⟨top, rfl, h1, h2⟩
    unfold b_X12_reel_62
    simp only [lm_8, nI_add, if_pos e64, nI_clamp (show 8 * p + s < 2 ^ 31 by omega), hD.h1252 s hs, if_pos (Int32.le_refl (nI (T s))), nI_1, if_pos e9, if_pos e9', nI_clamp (show s < 2 ^ 31 by omega), nI_clamp (show s + 1 < 2 ^ 31 by omega)]
    exact ⟨_, rfl, top, rfl, h1, h2⟩
theorem r_refAll (hD : rDaM T L W C l n p m) (h35 : m.2.1 1235 0 p = nI n) (tr : Nat → Int32) : ∃ mo le rf z, loopF none (b_X12_reel_51 m (nI p) (nI l)) (nI n - 1, setA m 1282 0 (upd (m.2.1 1282 0) n 0)) = some (mo, z) ∧ rOkR n p (setA m 1282 0 rf) z mo le (rDfs T L W C l n 0 (-1) 0 0 tr (-1000, fun s => m.2.1 1256 0 (8 * p + s))) := by
  have n8 := hD.hn
  have p8 := hD.hp
  refine lp_down (V := Int32 × VM) (d := none) (fun j v => ∃ a rf rs, v = (a, setA m 1282 0 rf) ∧ j ≤ n ∧ a.toInt = (j : Int) - 1 ∧ (∀ i, j ≤ i → i ≤ n → rf i = nI (rs i) ∧ rs i ≤ 99 * (n - i)) ∧ ∀ i, j ≤ i → i < n → rs (i + 1) ≤ rs i ∧ ∀ t, t < T i → W i t + rs (i + 1) ≤ rs i) (fun o => ∃ mo le rf z, o = some (mo, z) ∧ rOkR n p (setA m 1282 0 rf) z mo le (rDfs T L W C l n 0 (-1) 0 0 tr (-1000, fun s => m.2.1 1256 0 (8 * p + s)))) ?_ ?_ n _ ⟨_, _, fun _ => 0, rfl, Nat.le_refl _, ?_, ?_, fun i h1 h2 => by omega⟩
  · rintro j v ⟨a, rf, rs, rfl, hj, ha, h2, h3⟩
    left
    have ea : a = nI j := Int32.toInt_inj.mp (by rw [ha, tI (by omega)]; omega)
    subst ea
    obtain ⟨top, g1, g2, g3⟩ := r_top (hD.up rf) m (show j < n by omega)
    unfold b_X12_reel_51
    simp only [if_neg (nI_npos (show j < 2147483648 by omega))]
    rw [g1, setAA, rAs]
    obtain ⟨r1, r2⟩ := h2 (j + 1) (Nat.le_refl _) (by omega)
    obtain ⟨ru, hu⟩ : ∃ ru : Nat → Nat, ∀ i, ru i = if i = j then rs (j + 1) + top else rs i := ⟨_, fun i => rfl⟩
    refine ⟨_, rfl, _, _, ru, rfl, by omega, ?_, ?_, ?_⟩
    · rw [addT (by rw [tI (by omega), t_m1]; omega) (by rw [tI (by omega), t_m1]; omega), tI (by omega), t_m1]; omega
    · intro i q1 q2
      by_cases e : i = j
      · subst e
        rw [pk_us, hu, if_pos rfl, r1, nI_add]
        refine ⟨rfl, ?_⟩
        have : 99 * (n - (i + 1)) + 99 = 99 * (n - i) := by omega
        omega
      · rw [u_n e, hu, if_neg e]; exact h2 i (by omega) q2
    · intro i q1 q2
      rw [hu, hu, if_neg (show ¬ i + 1 = j by omega)]
      by_cases e : i = j
      · subst e
        rw [if_pos rfl]
        exact ⟨by omega, fun t ht => by have := g3 t ht; omega⟩
      · rw [if_neg e]; exact h3 i (by omega) q2
  · rintro v ⟨a, rf, rs, rfl, hj, ha, h2, h3⟩
    unfold b_X12_reel_51
    simp only [show (0 : Int32).toNatClampNeg = 0 from rfl]
    rw [if_pos (by rw [Int32.lt_iff_toInt_lt, ha, t_0]; omega)]
    generalize hZ : setA (setA (setA (setA (setA m 1282 0 rf) 1279 0 _) 1280 0 _) 1281 0 _) 1278 0 _ = Z
    have k0 : rlM (setA m 1282 0 rf) Z := by
      rw [← hZ]
      exact (((rlM.put ⟨rfl, fun F i _ _ _ _ _ => rfl, rfl, fun F i _ => rfl⟩ (by omega) _).put (by omega) _).put (by omega) _).put (by omega) _
    have k1 : Z.2.1 1278 0 0 = -1 := by rw [← hZ, rAs, pk_us]
    have k2 : Z.2.1 1279 0 0 = 0 := by rw [← hZ, rAn (by decide), rAn (by decide), rAn (by decide), rAs, pk_us]
    have k3 : Z.2.1 1280 0 0 = 0 := by rw [← hZ, rAn (by decide), rAn (by decide), rAs, pk_us]
    have k4 : Z.2.1 1281 0 0 = -1 := by rw [← hZ, rAn (by decide), rAs, pk_us]
    have k5 : Z.2.1 1256 0 = m.2.1 1256 0 := by rw [← hZ, rAn (by decide), rAn (by decide), rAn (by decide), rAn (by decide), rAn (by decide)]
    obtain ⟨z', mo', le', g1, g2, g3⟩ := r_ref (hD.up rf) h35 (a, setA m 1282 0 rf) (rs := rs) (fun i hi => ⟨(h2 i (Nat.zero_le _) hi).1, by have := (h2 i (Nat.zero_le _) hi).2; omega⟩) (fun i hi => (h3 i (Nat.zero_le _) hi).1) (fun i t hi ht => (h3 i (Nat.zero_le _) hi).2 t ht) n 0 Z (-1) 0 (-1) 0 0 tr (-1000, fun s => m.2.1 1256 0 (8 * p + s)) (by omega) (by omega) (by omega) ⟨k0, fun s hs => by rw [k5], fun j hj => by rw [k5]; rfl, by decide, by decide, by decide, by decide, rfl⟩ (fun s hs => by omega) k1 k2 k3 k4
    have g1' : loopF (Sum.inr none) (b_X12_reel_188 m (nI p) (nI l) (a, setA m 1282 0 rf)) (-1, 0, 0, Z) = Sum.inr (some (mo', z')) := by
      refine g1.trans ?_
      apply lp_inr
      unfold b_X12_reel_188
      simp only [nIm1]
      rw [if_pos (by decide)]
    rw [g1']
    exact ⟨_, rfl, mo', le', rf, z', rfl, g2⟩
  · rw [subT (by rw [tI (by omega), t_1]; omega) (by rw [tI (by omega), t_1]; omega), tI (by omega), t_1]
  · intro i q1 q2
    have : i = n := by omega
    subst this
    rw [pk_us]; exact ⟨rfl, Nat.zero_le _⟩
end
