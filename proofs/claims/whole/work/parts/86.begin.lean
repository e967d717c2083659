/-! begin -/
def bgX (x : VM) (i k : Nat) : VM := (fun F a => if F = 803 ∧ 8 * i ≤ a ∧ a < 8 * i + k then x.1 802 a else if F = 503 ∧ a = i then 1 else x.1 F a, fun F a => if F = 504 ∧ a = i then (fun j => if j < k then x.2.1 303 0 j else x.2.1 504 i j) else x.2.1 F a, x.2.2)
def bgM (m : VM) (i k : Nat) : VM := (m.1, fun F a => if F = 1240 ∧ a = 0 then upd (m.2.1 1240 0) i 1 else if F = 1241 ∧ a = 0 then (fun q => if 8 * i ≤ q ∧ q < 8 * i + k then m.2.1 1271 0 (q - 8 * i) else m.2.1 1241 0 q) else if F = 1242 ∧ a = 0 then (fun q => if 8 * i ≤ q ∧ q < 8 * i + k then m.2.1 1238 0 q else m.2.1 1242 0 q) else m.2.1 F a, m.2.2)
theorem bgX_0 (x : VM) (i : Nat) : setI x 503 i 1 = bgX x i 0 := by
  refine Prod.ext ?_ (Prod.ext ?_ rfl)
  · funext F a
    show (if F = 503 ∧ a = i then 1 else x.1 F a) = if F = 803 ∧ 8 * i ≤ a ∧ a < 8 * i + 0 then x.1 802 a else if F = 503 ∧ a = i then 1 else x.1 F a
    rw [if_neg (show ¬ (F = 803 ∧ 8 * i ≤ a ∧ a < 8 * i + 0) by omega)]
  · funext F a
    show x.2.1 F a = if F = 504 ∧ a = i then (fun j => if j < 0 then x.2.1 303 0 j else x.2.1 504 i j) else x.2.1 F a
    by_cases e : F = 504 ∧ a = i
    · rw [if_pos e, e.1, e.2]
      funext j
      rw [if_neg (Nat.not_lt_zero j)]
    · rw [if_neg e]
theorem bgX_s (x : VM) (i k : Nat) (hk : k < 8) : setI (setA (bgX x i k) 504 i (upd ((bgX x i k).2.1 504 i) k ((bgX x i k).2.1 303 0 k))) 803 (8 * i + k) ((bgX x i k).1 802 (8 * i + k)) = bgX x i (k + 1) := by
  refine Prod.ext ?_ (Prod.ext ?_ rfl)
  · funext F a
    show (if F = 803 ∧ a = 8 * i + k then x.1 802 (8 * i + k) else if F = 803 ∧ 8 * i ≤ a ∧ a < 8 * i + k then x.1 802 a else if F = 503 ∧ a = i then 1 else x.1 F a) = if F = 803 ∧ 8 * i ≤ a ∧ a < 8 * i + (k + 1) then x.1 802 a else if F = 503 ∧ a = i then 1 else x.1 F a
    by_cases e1 : F = 803 ∧ a = 8 * i + k
    · rw [if_pos e1, if_pos (by omega), e1.2]
    · rw [if_neg e1]
      by_cases e2 : F = 803 ∧ 8 * i ≤ a ∧ a < 8 * i + k
      · rw [if_pos e2, if_pos (by omega)]
      · rw [if_neg e2, if_neg (show ¬ (F = 803 ∧ 8 * i ≤ a ∧ a < 8 * i + (k + 1)) by omega)]
  · funext F a
    show (if F = 504 ∧ a = i then upd ((bgX x i k).2.1 504 i) k ((bgX x i k).2.1 303 0 k) else if F = 504 ∧ a = i then (fun j => if j < k then x.2.1 303 0 j else x.2.1 504 i j) else x.2.1 F a) = if F = 504 ∧ a = i then (fun j => if j < k + 1 then x.2.1 303 0 j else x.2.1 504 i j) else x.2.1 F a
    by_cases e : F = 504 ∧ a = i
    · rw [if_pos e, if_pos e]
      funext j
      have e1 : (bgX x i k).2.1 504 i = fun j => if j < k then x.2.1 303 0 j else x.2.1 504 i j := if_pos ⟨rfl, rfl⟩
      have e2 : (bgX x i k).2.1 303 0 = x.2.1 303 0 := rfl
      rw [e1, e2]
      by_cases ej : j = k
      · subst ej; rw [pk_us, if_pos (by omega)]
      · rw [u_n ej]
        by_cases e3 : j < k
        · rw [if_pos e3, if_pos (by omega)]
        · rw [if_neg e3, if_neg (by omega)]
    · rw [if_neg e, if_neg e, if_neg e]
theorem bgM_0 (m : VM) (i : Nat) : setA m 1240 0 (upd (m.2.1 1240 0) i 1) = bgM m i 0 := by
  refine Prod.ext rfl (Prod.ext ?_ rfl)
  funext F a
  show (if F = 1240 ∧ a = 0 then upd (m.2.1 1240 0) i 1 else m.2.1 F a) = if F = 1240 ∧ a = 0 then upd (m.2.1 1240 0) i 1 else if F = 1241 ∧ a = 0 then (fun q => if 8 * i ≤ q ∧ q < 8 * i + 0 then m.2.1 1271 0 (q - 8 * i) else m.2.1 1241 0 q) else if F = 1242 ∧ a = 0 then (fun q => if 8 * i ≤ q ∧ q < 8 * i + 0 then m.2.1 1238 0 q else m.2.1 1242 0 q) else m.2.1 F a
  by_cases e0 : F = 1240 ∧ a = 0
  · rw [if_pos e0, if_pos e0]
  · rw [if_neg e0, if_neg e0]
    by_cases e1 : F = 1241 ∧ a = 0
    · rw [if_pos e1, e1.1, e1.2]
      funext q
      rw [if_neg (show ¬ (8 * i ≤ q ∧ q < 8 * i + 0) by omega)]
    · rw [if_neg e1]
      by_cases e2 : F = 1242 ∧ a = 0
      · rw [if_pos e2, e2.1, e2.2]
        funext q
        rw [if_neg (show ¬ (8 * i ≤ q ∧ q < 8 * i + 0) by omega)]
      · rw [if_neg e2]
theorem bgM_s (m : VM) (i k : Nat) (hk : k < 8) : setA (setA (bgM m i k) 1241 0 (upd ((bgM m i k).2.1 1241 0) (8 * i + k) ((bgM m i k).2.1 1271 0 k))) 1242 0 (upd ((bgM m i k).2.1 1242 0) (8 * i + k) ((bgM m i k).2.1 1238 0 (8 * i + k))) = bgM m i (k + 1) := by
  refine Prod.ext rfl (Prod.ext ?_ rfl)
  funext F a
  have a1 : (bgM m i k).2.1 1241 0 = fun q => if 8 * i ≤ q ∧ q < 8 * i + k then m.2.1 1271 0 (q - 8 * i) else m.2.1 1241 0 q := rfl
  have a2 : (bgM m i k).2.1 1242 0 = fun q => if 8 * i ≤ q ∧ q < 8 * i + k then m.2.1 1238 0 q else m.2.1 1242 0 q := rfl
  have a3 : (bgM m i k).2.1 1271 0 = m.2.1 1271 0 := rfl
  have a4 : (bgM m i k).2.1 1238 0 = m.2.1 1238 0 := rfl
  rw [a1, a2, a3, a4]
  show (if F = 1242 ∧ a = 0 then _ else if F = 1241 ∧ a = 0 then _ else if F = 1240 ∧ a = 0 then upd (m.2.1 1240 0) i 1 else if F = 1241 ∧ a = 0 then (fun q => if 8 * i ≤ q ∧ q < 8 * i + k then m.2.1 1271 0 (q - 8 * i) else m.2.1 1241 0 q) else if F = 1242 ∧ a = 0 then (fun q => if 8 * i ≤ q ∧ q < 8 * i + k then m.2.1 1238 0 q else m.2.1 1242 0 q) else m.2.1 F a) = if F = 1240 ∧ a = 0 then upd (m.2.1 1240 0) i 1 else if F = 1241 ∧ a = 0 then (fun q => if 8 * i ≤ q ∧ q < 8 * i + (k + 1) then m.2.1 1271 0 (q - 8 * i) else m.2.1 1241 0 q) else if F = 1242 ∧ a = 0 then (fun q => if 8 * i ≤ q ∧ q < 8 * i + (k + 1) then m.2.1 1238 0 q else m.2.1 1242 0 q) else m.2.1 F a
  by_cases e2 : F = 1242 ∧ a = 0
  · rw [if_pos e2, if_neg (show ¬ (F = 1240 ∧ a = 0) by omega), if_neg (show ¬ (F = 1241 ∧ a = 0) by omega), if_pos e2]
    funext q
    by_cases eq : q = 8 * i + k
    · subst eq; rw [pk_us, if_pos (by omega)]
    · rw [u_n eq]
      by_cases e3 : 8 * i ≤ q ∧ q < 8 * i + k
      · rw [if_pos e3, if_pos (by omega)]
      · rw [if_neg e3, if_neg (by omega)]
  · rw [if_neg e2]
    by_cases e1 : F = 1241 ∧ a = 0
    · rw [if_pos e1, if_neg (show ¬ (F = 1240 ∧ a = 0) by omega), if_pos e1]
      funext q
      by_cases eq : q = 8 * i + k
      · subst eq; rw [pk_us, if_pos (by omega), show 8 * i + k - 8 * i = k by omega]
      · rw [u_n eq]
        by_cases e3 : 8 * i ≤ q ∧ q < 8 * i + k
        · rw [if_pos e3, if_pos (by omega)]
        · rw [if_neg e3, if_neg (by omega)]
    · rw [if_neg e1, if_neg e1, if_neg e1, if_neg e2, if_neg e2]
theorem bg_inv {x m : VM} (hI : Inv x m) {i : Nat} (i1 : i < x.2.2.2 5) (i2 : i < 8) {tl : Nat → Nat} (ho : isOrd (x.2.2.2 (20 + i)) tl) (ht : ∀ j, j < x.2.2.2 (20 + i) → x.2.1 303 0 j = nI (tl j) ∧ m.2.1 1271 0 j = nI (tl j)) : Inv (bgX x i (x.2.2.2 (20 + i))) (bgM m i (x.2.2.2 (20 + i))) := by
  have n3 := (n_sce hI i1).2.2
  refine ⟨hI.bas, hI.cnt, hI.now, hI.pur, hI.clr, hI.fau, hI.cod, hI.sha, hI.fee, hI.law, hI.she, hI.per, hI.pe0, (?_), (?_), hI.dra, (?_), (?_), (?_), hI.hal, hI.ha0, hI.shw, hI.pla, hI.cac, hI.ref⟩
  · intro p hp
    obtain ⟨a1, a2, a3, a4⟩ := hI.pic p hp
    refine ⟨a1, a2, ?_, a4⟩
    show upd (m.2.1 1240 0) i 1 p = (if 503 = 503 ∧ p = i then 1 else x.1 503 p) ∧ ((if 503 = 503 ∧ p = i then 1 else x.1 503 p) = 0 ∨ (if 503 = 503 ∧ p = i then 1 else x.1 503 p) = 1)
    by_cases e : p = i
    · subst e; rw [pk_us, if_pos ⟨rfl, rfl⟩]; exact ⟨rfl, Or.inr rfl⟩
    · rw [u_n e, if_neg (fun z => e z.2)]; exact a3
  · intro p hp hb j hj
    have hj' : j < x.2.2.2 (20 + p) := hj
    by_cases e : p = i
    · subst e
      show (if 8 * p ≤ 8 * p + j ∧ 8 * p + j < 8 * p + x.2.2.2 (20 + p) then m.2.1 1271 0 (8 * p + j - 8 * p) else m.2.1 1241 0 (8 * p + j)) = (if 504 = 504 ∧ p = p then (fun j => if j < x.2.2.2 (20 + p) then x.2.1 303 0 j else x.2.1 504 p j) else x.2.1 504 p) j ∧ ∃ k, k < x.2.2.2 (20 + p) ∧ (if 504 = 504 ∧ p = p then (fun j => if j < x.2.2.2 (20 + p) then x.2.1 303 0 j else x.2.1 504 p j) else x.2.1 504 p) j = nI k
      rw [if_pos (by omega), if_pos ⟨rfl, rfl⟩, show 8 * p + j - 8 * p = j by omega]
      simp only [if_pos hj']
      exact ⟨by rw [(ht j hj').1, (ht j hj').2], tl j, ho.1 j hj', (ht j hj').1⟩
    · have p8 := (n_sce hI hp).2.2
      have hb' : x.1 503 p = 1 := by
        have : (if 503 = 503 ∧ p = i then (1 : Int32) else x.1 503 p) = 1 := hb
        rw [if_neg (fun z => e z.2)] at this; exact this
      have := hI.ord p hp hb' j hj'
      show (if 8 * i ≤ 8 * p + j ∧ 8 * p + j < 8 * i + x.2.2.2 (20 + i) then m.2.1 1271 0 (8 * p + j - 8 * i) else m.2.1 1241 0 (8 * p + j)) = (if 504 = 504 ∧ p = i then _ else x.2.1 504 p) j ∧ ∃ k, k < x.2.2.2 (20 + p) ∧ (if 504 = 504 ∧ p = i then _ else x.2.1 504 p) j = nI k
      rw [if_neg (by omega), if_neg (fun z => e z.2)]
      exact this
  · intro p hp h8
    obtain ⟨a1, a2, a3⟩ := hI.pi0 p hp h8
    exact ⟨a1, (u_n (by have : x.2.2.2 5 ≤ p := hp; omega)).trans a2, a3⟩
  · intro p s hp hs
    have hs' : s < x.2.2.2 (20 + p) := hs
    have p8 := (n_sce hI hp).2.2
    obtain ⟨a1, a2, a3, a4, a5⟩ := hI.sce p s hp hs
    refine ⟨a1, a2, a3, ?_, a5⟩
    show (if 8 * i ≤ 8 * p + s ∧ 8 * p + s < 8 * i + x.2.2.2 (20 + i) then m.2.1 1238 0 (8 * p + s) else m.2.1 1242 0 (8 * p + s)) = (if 803 = 803 ∧ 8 * i ≤ 8 * p + s ∧ 8 * p + s < 8 * i + x.2.2.2 (20 + i) then x.1 802 (8 * p + s) else x.1 803 (8 * p + s)) ∧ rng (if 803 = 803 ∧ 8 * i ≤ 8 * p + s ∧ 8 * p + s < 8 * i + x.2.2.2 (20 + i) then x.1 802 (8 * p + s) else x.1 803 (8 * p + s)) 0 9
    by_cases e : 8 * i ≤ 8 * p + s ∧ 8 * p + s < 8 * i + x.2.2.2 (20 + i)
    · rw [if_pos e, if_pos ⟨rfl, e⟩]
      refine ⟨a3.1, ?_⟩
      have := a3.2
      unfold rng at this ⊢
      omega
    · rw [if_neg e, if_neg (fun z => e z.2)]
      exact a4
  · intro p s hp hs hh
    obtain ⟨b1, b2⟩ := hI.sc0 p s hp hs hh
    refine ⟨?_, b2⟩
    show (if 8 * i ≤ 8 * p + s ∧ 8 * p + s < 8 * i + x.2.2.2 (20 + i) then m.2.1 1238 0 (8 * p + s) else m.2.1 1242 0 (8 * p + s)) = 0
    rw [if_neg]
    · exact b1
    · rintro ⟨z1, z2⟩
      have ep : p = i := by omega
      subst ep
      have : x.2.2.2 (20 + p) ≤ s := hh i1
      omega
theorem s_begin : S_begin Inv := by
  intro x m p q hI
  show Sm Inv _ _
  unfold f_X11_begin f_X12_begin f_X11_orderLack
  rcases c_pic hI p with ⟨e1, e2⟩ | ⟨i, i1, i2, rfl, e1, e2⟩
  · rw [e1, e2]; simp (disch := omega) only [Int32.lt_iff_toInt_lt, Int32.le_iff_toInt_le, i32eq, tI, t_0, t_1, t_2, t_3, t_4, t_5, t_6, t_7, t_8, t_9, t_10, t_16, t_31, t_40, t_48, t_50, t_52, t_57, t_60, t_61, t_64, t_90, t_99, t_100, t_108, t_112, t_114, t_115, t_119, t_121, t_200, t_256, t_364, t_400, t_480, t_960, t_999, t_1000, t_4000, t_99999, t_1000000000, t_2147483647, t_m1, t_m2, t_m3, t_m4, t_m5, t_m6, t_m7, t_m1000, nI_clamp, inb_T, Option.elim_some, Option.elim_none, if_pos, if_neg, rfx1, rfm1, rfx2, rfm2, rfx3, rfm3, rfx4, rfm4, rfx5, rfm5, rfx6, rfm6, rfx7, rfm7, nI_add, pk_mul, lm_2, lm_4, lm_5, lm_7, lm_8, lm_10, lm_40, lm_60, lm_61, lm_364, lm_1000, la_1, al_1, la_10, al_10, la_11, al_11, la_100, al_100, la_364, al_364, d8, m8, ↓reduceIte, rA1, rA3, rI2, rJ1, rJ2, rJ4, rN1, rN2, rN3, rAs, rIs, rJs, rAn, rIn, rJn]; exact Sm.mk rfl (hI.ref1 0)
  · rw [e1, e2]
    rcases c_row hI q with ⟨f1, f2, f3⟩ | ⟨s, s8, rfl, f3, h | h | h⟩
    · simp (disch := omega) only [Int32.lt_iff_toInt_lt, Int32.le_iff_toInt_le, i32eq, tI, t_0, t_1, t_2, t_3, t_4, t_5, t_6, t_7, t_8, t_9, t_10, t_16, t_31, t_40, t_48, t_50, t_52, t_57, t_60, t_61, t_64, t_90, t_99, t_100, t_108, t_112, t_114, t_115, t_119, t_121, t_200, t_256, t_364, t_400, t_480, t_960, t_999, t_1000, t_4000, t_99999, t_1000000000, t_2147483647, t_m1, t_m2, t_m3, t_m4, t_m5, t_m6, t_m7, t_m1000, nI_clamp, inb_T, Option.elim_some, Option.elim_none, if_pos, if_neg, rfx1, rfm1, rfx2, rfm2, rfx3, rfm3, rfx4, rfm4, rfx5, rfm5, rfx6, rfm6, rfx7, rfm7, nI_add, pk_mul, lm_2, lm_4, lm_5, lm_7, lm_8, lm_10, lm_40, lm_60, lm_61, lm_364, lm_1000, la_1, al_1, la_10, al_10, la_11, al_11, la_100, al_100, la_364, al_364, d8, m8, ↓reduceIte, rA1, rA3, rI2, rJ1, rJ2, rJ4, rN1, rN2, rN3, rAs, rIs, rJs, rAn, rIn, rJn, f1, f2]; exact Sm.mk rfl (hI.ref1 0)
    · simp (disch := omega) only [Int32.lt_iff_toInt_lt, Int32.le_iff_toInt_le, i32eq, tI, t_0, t_1, t_2, t_3, t_4, t_5, t_6, t_7, t_8, t_9, t_10, t_16, t_31, t_40, t_48, t_50, t_52, t_57, t_60, t_61, t_64, t_90, t_99, t_100, t_108, t_112, t_114, t_115, t_119, t_121, t_200, t_256, t_364, t_400, t_480, t_960, t_999, t_1000, t_4000, t_99999, t_1000000000, t_2147483647, t_m1, t_m2, t_m3, t_m4, t_m5, t_m6, t_m7, t_m1000, nI_clamp, inb_T, Option.elim_some, Option.elim_none, if_pos, if_neg, rfx1, rfm1, rfx2, rfm2, rfx3, rfm3, rfx4, rfm4, rfx5, rfm5, rfx6, rfm6, rfx7, rfm7, nI_add, pk_mul, lm_2, lm_4, lm_5, lm_7, lm_8, lm_10, lm_40, lm_60, lm_61, lm_364, lm_1000, la_1, al_1, la_10, al_10, la_11, al_11, la_100, al_100, la_364, al_364, d8, m8, ↓reduceIte, rA1, rA3, rI2, rJ1, rJ2, rJ4, rN1, rN2, rN3, rAs, rIs, rJs, rAn, rIn, rJn, h.1, h.2.1]; exact Sm.mk rfl (hI.ref1 1)
    · simp (disch := omega) only [Int32.lt_iff_toInt_lt, Int32.le_iff_toInt_le, i32eq, tI, t_0, t_1, t_2, t_3, t_4, t_5, t_6, t_7, t_8, t_9, t_10, t_16, t_31, t_40, t_48, t_50, t_52, t_57, t_60, t_61, t_64, t_90, t_99, t_100, t_108, t_112, t_114, t_115, t_119, t_121, t_200, t_256, t_364, t_400, t_480, t_960, t_999, t_1000, t_4000, t_99999, t_1000000000, t_2147483647, t_m1, t_m2, t_m3, t_m4, t_m5, t_m6, t_m7, t_m1000, nI_clamp, inb_T, Option.elim_some, Option.elim_none, if_pos, if_neg, rfx1, rfm1, rfx2, rfm2, rfx3, rfm3, rfx4, rfm4, rfx5, rfm5, rfx6, rfm6, rfx7, rfm7, nI_add, pk_mul, lm_2, lm_4, lm_5, lm_7, lm_8, lm_10, lm_40, lm_60, lm_61, lm_364, lm_1000, la_1, al_1, la_10, al_10, la_11, al_11, la_100, al_100, la_364, al_364, d8, m8, ↓reduceIte, rA1, rA3, rI2, rJ1, rJ2, rJ4, rN1, rN2, rN3, rAs, rIs, rJs, rAn, rIn, rJn, h.1, h.2.1]; exact Sm.mk rfl (hI.ref1 2)
    · obtain ⟨n1, n2, n3⟩ := n_sce hI i1
      obtain ⟨b1, b2⟩ := (hI.pic i i1).2.2.1
      simp only [Option.elim_some, h.1, h.2.1, if_neg n10, if_true, if_pos (inb8 s8), nI_clamp (show s < 2 ^ 31 by omega), if_pos (inb8 i2), nI_clamp (show i < 2 ^ 31 by omega), n2, b1]
      rcases l_read hI i1 i2 s8 h.2.2 with ⟨u, u', a1, a2⟩ | ⟨u, u', tl, a1, a2, a3, a4⟩
      · have hJ : Inv (setA x 303 0 u) (setA m 1271 0 u') := ⟨hI.bas, hI.cnt, hI.now, hI.pur, hI.clr, hI.fau, hI.cod, hI.sha, hI.fee, hI.law, hI.she, hI.per, hI.pe0, hI.pic, hI.ord, hI.dra, hI.pi0, hI.sce, hI.sc0, hI.hal, hI.ha0, hI.shw, hI.pla, hI.cac, hI.ref⟩
        have hK : Inv (setA x 303 0 u) m := ⟨hI.bas, hI.cnt, hI.now, hI.pur, hI.clr, hI.fau, hI.cod, hI.sha, hI.fee, hI.law, hI.she, hI.per, hI.pe0, hI.pic, hI.ord, hI.dra, hI.pi0, hI.sce, hI.sc0, hI.hal, hI.ha0, hI.shw, hI.pla, hI.cac, hI.ref⟩
        rw [a1, a2]
        have ex : ((some ((0 : Int32), setA x 303 0 u)).elim none fun r6p => if r6p.1 = 0 then some ((-6 : Int32), r6p.2) else some (0, r6p.2)) = some (-6, setA x 303 0 u) := rfl
        rw [ex]
        simp only [Option.elim_some]
        rw [if_neg (show ¬ (-6 : Int32) = 0 by decide), rfx6]
        by_cases c1 : x.1 503 i = 0
        · simp only [if_pos c1]
          by_cases c2 : nI (x.2.2.2 (20 + i)) = 0
          · simp only [if_pos c2]; exact Sm.mk rfl (hK.ref1 5)
          · simp only [if_neg c2]; exact Sm.mk rfl (hJ.ref1 5)
        · simp only [if_neg c1]; exact Sm.mk rfl (hK.ref1 5)
      · have hJ : Inv (setA x 303 0 u) (setA m 1271 0 u') := ⟨hI.bas, hI.cnt, hI.now, hI.pur, hI.clr, hI.fau, hI.cod, hI.sha, hI.fee, hI.law, hI.she, hI.per, hI.pe0, hI.pic, hI.ord, hI.dra, hI.pi0, hI.sce, hI.sc0, hI.hal, hI.ha0, hI.shw, hI.pla, hI.cac, hI.ref⟩
        have hK : Inv (setA x 303 0 u) m := ⟨hI.bas, hI.cnt, hI.now, hI.pur, hI.clr, hI.fau, hI.cod, hI.sha, hI.fee, hI.law, hI.she, hI.per, hI.pe0, hI.pic, hI.ord, hI.dra, hI.pi0, hI.sce, hI.sc0, hI.hal, hI.ha0, hI.shw, hI.pla, hI.cac, hI.ref⟩
        rw [a1, a2]
        have ex : ((some ((1 : Int32), setA x 303 0 u)).elim none fun r6p => if r6p.1 = 0 then some ((-6 : Int32), r6p.2) else some (0, r6p.2)) = some (0, setA x 303 0 u) := rfl
        rw [ex]
        have i1' : i < (setA x 303 0 u).2.2.2 5 := i1
        have n1' : (setA x 303 0 u).1 502 i = nI (x.2.2.2 (20 + i)) := n1
        have c0 : (setA x 303 0 u).1 503 i = x.1 503 i := rfl
        simp only [Option.elim_some, if_true, if_pos i1', n1', c0]
        by_cases c1 : x.1 503 i = 0
        · simp only [if_pos c1]
          by_cases c2 : nI (x.2.2.2 (20 + i)) = 0
          · simp only [if_pos c2]; exact Sm.mk rfl (hK.ref1 5)
          · simp only [if_neg c2, if_neg n10]
            have hB := bg_inv hJ i1 i2 (tl := tl) a3 (fun j hj => by rw [rAs, rAs]; exact a4 j hj)
            have lx : f_X5_beginShooting (setA x 303 0 u) i = some (bgX (setA x 303 0 u) i (x.2.2.2 (20 + i))) := by
              unfold f_X5_beginShooting
              rw [if_pos i1', bgX_0]
              refine lp_seq (fun k => (nI k, bgX (setA x 303 0 u) i k)) (x.2.2.2 (20 + i)) _ (fun k hk => ?_) ?_
              · have g1 : (bgX (setA x 303 0 u) i k).2.2.2 = x.2.2.2 := rfl
                have g2 : (bgX (setA x 303 0 u) i k).1 502 i = nI (x.2.2.2 (20 + i)) := n1
                unfold b_X5_beginShooting_7
                simp (disch := omega) only [g1, g2, if_pos, Int32.le_iff_toInt_le, tI, t_8, if_neg, inb_T, nI_clamp, d8, m8, nI_1, rA1]
                rw [bgX_s _ _ _ (by omega)]
              · have g1 : (bgX (setA x 303 0 u) i (x.2.2.2 (20 + i))).2.2.2 = x.2.2.2 := rfl
                have g2 : (bgX (setA x 303 0 u) i (x.2.2.2 (20 + i))).1 502 i = nI (x.2.2.2 (20 + i)) := n1
                unfold b_X5_beginShooting_7
                simp only [g1, g2, if_pos i1, if_pos (Int32.le_refl _)]
            obtain ⟨r, r1, r2⟩ := l_cost hB i1 i2 (tl := tl) a3 (fun j hj => by
              refine ⟨?_, ?_⟩
              · show (setA x 303 0 u).2.1 303 0 j = _; rw [rAs]; exact (a4 j hj).1
              · show (setA m 1271 0 u').2.1 1271 0 j = _; rw [rAs]; exact (a4 j hj).2)
            have r1 : f_X3_costOf (bgX (setA x 303 0 u) i (x.2.2.2 (20 + i))) i = some r := r1
            have r2 : f_X12_costOf (bgM (setA m 1271 0 u') i (x.2.2.2 (20 + i))) (nI i) = some r := r2
            have lm : loopF none (b_X12_begin_74 m (nI i) (nI s)) (0, setA (setA m 1271 0 u') 1240 0 (upd ((setA m 1271 0 u').2.1 1240 0) i 1)) = some (r, bgM (setA m 1271 0 u') i (x.2.2.2 (20 + i))) := by
              rw [bgM_0]
              refine lp_seq (fun k => (nI k, bgM (setA m 1271 0 u') i k)) (x.2.2.2 (20 + i)) _ (fun k hk => ?_) ?_
              · have g2 : (bgM (setA m 1271 0 u') i k).2.1 1235 0 i = nI (x.2.2.2 (20 + i)) := n2
                unfold b_X12_begin_74
                simp (disch := omega) only [g2, if_pos, Int32.le_iff_toInt_le, tI, if_neg, inb_T, nI_clamp, lm_8, nI_add, nI_1, rAn]
                rw [bgM_s _ _ _ (by omega)]
              · have g2 : (bgM (setA m 1271 0 u') i (x.2.2.2 (20 + i))).2.1 1235 0 i = nI (x.2.2.2 (20 + i)) := n2
                unfold b_X12_begin_74
                simp only [g2, if_pos (inb8 i2), nI_clamp (show i < 2 ^ 31 by omega), if_pos (Int32.le_refl _), r2, Option.elim_some]
            rw [lx, lm]
            simp only [Option.elim_some, r1]
            exact Sm.mk rfl hB
        · simp only [if_neg c1]; exact Sm.mk rfl (hK.ref1 5)
