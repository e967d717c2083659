/-! a new person -/
theorem per_k {now : Int32} {B : Int} {x m x' m' : VM} {w : Nat} (h : PerAt now B x m w) (hx : ∀ F, F / 100 = 4 → x'.1 F w = x.1 F w) (h1 : x'.2.1 401 w = x.2.1 401 w) (h2 : x'.2.2.1 402 w = x.2.2.1 402 w) (h3 : x'.2.1 300 0 w = x.2.1 300 0 w) (hm : ∀ F, (1217 ≤ F ∧ F ≤ 1228) ∨ F = 1232 → m'.2.1 F 0 w = m.2.1 F 0 w) (hc : ∀ k, k < 5 → m'.2.1 1229 0 (5 * w + k) = m.2.1 1229 0 (5 * w + k)) (hj : ∀ j, j < 60 → m'.2.2.1 1233 0 (60 * w + j) = m.2.2.1 1233 0 (60 * w + j)) : PerAt now B x' m' w := by
  unfold PerAt at h ⊢
  rw [hx 400 rfl, hx 403 rfl, hx 404 rfl, hx 405 rfl, hx 406 rfl, hx 407 rfl, hx 408 rfl, hx 409 rfl, hx 410 rfl, hx 411 rfl, hx 412 rfl, hx 413 rfl, h1, h2, h3, hm 1217 (by omega), hm 1218 (by omega), hm 1219 (by omega), hm 1220 (by omega), hm 1221 (by omega), hm 1222 (by omega), hm 1223 (by omega), hm 1224 (by omega), hm 1225 (by omega), hm 1226 (by omega), hm 1227 (by omega), hm 1228 (by omega), hm 1232 (by omega)]
  obtain ⟨a1, a2, a3, a4, a5, a6, a7, a8, a9, a10⟩ := h
  refine ⟨a1, ?_, a3, a4, a5, a6, a7, a8, ⟨a9.1, a9.2.1, fun j q => ?_⟩, a10⟩
  · rcases a2 with a2 | a2
    · exact Or.inl a2
    · exact Or.inr ⟨a2.1, a2.2.1, a2.2.2.1, fun k hk => by rw [hc k hk]; exact a2.2.2.2 k hk⟩
  · rw [hj j (by have := a9.2.1.2; omega)]
    exact a9.2.2 j q
theorem yr_n {k j : Nat} (h : j ≤ k) (hk : k < 1073741824) : yrT (nI k) (nI j) = nI ((k - j) / 364) := by
  unfold yrT
  rw [pk_sub h]
  exact pk_div (d := 364) (by omega) (by omega) (by omega)
theorem mnB_congr {p : Nat → Bool} {f g : Nat → Nat} : ∀ n, (∀ i, i < n → p i = true → f i = g i) → mnB p f n = mnB p g n
  | 0, _ => rfl
  | n + 1, h => by
    unfold mnB
    rw [mnB_congr n (fun i hi => h i (by omega))]
    by_cases e : p n = true
    · rw [if_pos e, if_pos e, h n (by omega) e]
    · rw [if_neg e, if_neg e]
theorem fsB_congr {p q : Nat → Bool} : ∀ n i, (∀ j, i ≤ j → j < i + n → p j = q j) → fsB p n i = fsB q n i
  | 0, _, _ => rfl
  | n + 1, i, h => by
    unfold fsB
    rw [h i (by omega) (by omega), fsB_congr n (i + 1) (fun j h1 h2 => h j (by omega) (by omega))]
theorem orB_lt {c : Nat → Nat} {p : Nat → Bool} {N : Nat} : ∀ n, (∀ i, i < n → c i < 2 ^ N) → orB c p n < 2 ^ N
  | 0, _ => Nat.two_pow_pos N
  | n + 1, h => by
    unfold orB
    refine Nat.or_lt_two_pow (orB_lt n (fun i hi => h i (by omega))) ?_
    by_cases e : p n = true
    · rw [if_pos e]; exact h n (by omega)
    · rw [if_neg e]; exact Nat.two_pow_pos N
section
variable {n N : Nat} {pl : Nat → Int32} {ca dy D D' : Nat → Nat} {chg : Nat}
theorem bSt_congr (hc : ∀ i, i < n → ca i < 2 ^ N) (hD : ∀ t, t < 2 ^ N → D t = D' t) (b l : Nat) {s : Nat} (hs : s < n) : bSt n pl ca dy D chg b l s = bSt n pl ca dy D' chg b l s := by
  unfold bSt
  rw [hD]
  exact Nat.or_lt_two_pow (hc s hs) (Nat.and_lt_two_pow _ (orB_lt n hc))
theorem bC_congr (hc : ∀ i, i < n → ca i < 2 ^ N) (hD : ∀ t, t < 2 ^ N → D t = D' t) : ∀ k b l, bC n pl ca dy D chg k b l = bC n pl ca dy D' chg k b l
  | 0, _, _ => rfl
  | k + 1, b, l => by
    unfold bC
    exact mnB_congr n (fun s hs _ => by rw [bSt_congr hc hD b l hs, bC_congr hc hD k])
theorem bW_congr (hc : ∀ i, i < n → ca i < 2 ^ N) (hD : ∀ t, t < 2 ^ N → D t = D' t) : ∀ k b l, bW n pl ca dy D chg k b l = bW n pl ca dy D' chg k b l
  | 0, _, _ => rfl
  | k + 1, b, l => by
    unfold bW
    have e : fsB (fun s => !b.testBit s && decide (bSt n pl ca dy D chg b l s + bC n pl ca dy D chg k (b ||| 2 ^ s) s = bC n pl ca dy D chg (k + 1) b l)) n 0 = fsB (fun s => !b.testBit s && decide (bSt n pl ca dy D' chg b l s + bC n pl ca dy D' chg k (b ||| 2 ^ s) s = bC n pl ca dy D' chg (k + 1) b l)) n 0 :=
      fsB_congr n 0 (fun s _ hs => by
        show (!b.testBit s && decide (_ = _)) = (!b.testBit s && decide (_ = _))
        rw [bSt_congr hc hD b l (by omega), bC_congr hc hD k, bC_congr hc hD (k + 1)])
    rw [e, bW_congr hc hD k]
theorem bSpec_congr (hc : ∀ i, i < n → ca i < 2 ^ N) (hD : ∀ t, t < 2 ^ N → D t = D' t) {c : Int32} {o : Nat → Int32} (h : bSpec n pl ca dy D chg c o) : bSpec n pl ca dy D' chg c o := by
  unfold bSpec at h ⊢
  rw [← bC_congr hc hD, ← bW_congr hc hD]
  exact h
end
theorem smB_congr {f g : Nat → Nat} : ∀ n, (∀ i, i < n → f i = g i) → smB f n = smB g n
  | 0, _ => rfl
  | n + 1, h => by
    unfold smB
    rw [smB_congr n (fun i hi => h i (by omega)), h n (by omega)]
theorem ca_lt {x m : VM} (hI : Inv x m) {p s : Nat} (hp : p < x.2.2.2 5) (hs : s < x.2.2.2 (20 + p)) : tn (x.1 801 (8 * p + s)) < 2 ^ x.2.2.2 4 := by
  have h := (hI.sce p s hp hs).2.1.2
  unfold rng at h
  unfold tn
  have e : ((2 ^ x.2.2.2 4 : Nat) : Int) = 2 ^ x.2.2.2 4 := by rw [Int.natCast_pow]; rfl
  have := Nat.two_pow_pos (x.2.2.2 4)
  show (x.1 801 (8 * p + s)).toInt.toNat < _
  omega
theorem nVnI {x : VM} {c0 i0 F i : Nat} {I : Nat → Int32} {B : Nat → Nat → Int32} {N : Nat → Nat} (h : F / 100 ≠ c0) : (nwV x c0 i0 I B N).1 F i = x.1 F i := if_neg (fun q => h q.1)
theorem nVnA {x : VM} {c0 i0 F i : Nat} {I : Nat → Int32} {B : Nat → Nat → Int32} {N : Nat → Nat} (h : F / 100 ≠ c0) : (nwV x c0 i0 I B N).2.1 F i = x.2.1 F i := if_neg (fun q => h q.1)
theorem nVnJ {x : VM} {c0 i0 F i : Nat} {I : Nat → Int32} {B : Nat → Nat → Int32} {N : Nat → Nat} (h : F / 100 ≠ c0) : (nwV x c0 i0 I B N).2.2.1 F i = x.2.2.1 F i := if_neg (fun q => h q.1)
theorem pe_c {x : VM} (p k : Nat) : (setI (setA (nw4 x (nI p)) 300 0 (upd ((nw4 x (nI p)).2.1 300 0) (x.2.2.2 4) (nI p / 7))) 1113 0 (nI (x.2.2.2 4 + 1))).2.2.2 (20 + k) = x.2.2.2 (20 + k) := if_neg (by omega)
theorem pe_bas {x m : VM} {p : Nat} (hI : Inv x m) (h1 : 1 ≤ p) (h2 : p ≤ 999) (hc : x.2.2.2 4 < 16) : IBas (setI (setA (nw4 x (nI p)) 300 0 (upd ((nw4 x (nI p)).2.1 300 0) (x.2.2.2 4) (nI p / 7))) 1113 0 (nI (x.2.2.2 4 + 1))) (setI (setA m 1217 0 (upd (m.2.1 1217 0) (x.2.2.2 4) (nI p))) 1202 0 (nI (x.2.2.2 4 + 1))) := by
  exact ⟨⟨⟨rfl, (by omega : x.2.2.2 4 + 1 ≤ 16)⟩, hI.bas.1.2.1, hI.bas.1.2.2.1, fun p hp => by rw [pe_c]; exact hI.bas.1.2.2.2 p hp⟩, hI.bas.2⟩
theorem pe_per {x m : VM} {p : Nat} (hI : Inv x m) (h1 : 1 ≤ p) (h2 : p ≤ 999) (hc : x.2.2.2 4 < 16) : IPer (setI (setA (nw4 x (nI p)) 300 0 (upd ((nw4 x (nI p)).2.1 300 0) (x.2.2.2 4) (nI p / 7))) 1113 0 (nI (x.2.2.2 4 + 1))) (setI (setA m 1217 0 (upd (m.2.1 1217 0) (x.2.2.2 4) (nI p))) 1202 0 (nI (x.2.2.2 4 + 1))) := by
  intro w hw
  have hw' : w < x.2.2.2 4 + 1 := hw
  by_cases ew : w = x.2.2.2 4
  · subst ew
    obtain ⟨z1, z2, z3, z4, z5, z6, z7, z8, z9, z10, z11, z12⟩ := hI.pe0 (x.2.2.2 4) (Nat.le_refl _) hc
    obtain ⟨k, k1, k2, k3⟩ := rng_nI (a := 0) (b := 4000) hI.now.2 (by decide)
    have y : ∀ F, F / 100 = 4 → (nw4 x (nI p)).1 F (x.2.2.2 4) = (fun k => if k = 0 then nI p else if k = 5 then (-1) else if k = 7 then (-1) else 0) (F % 100) := fun F hF => nV_I hF
    show PerAt (x.1 1116 0) ((x.1 1116 0).toInt + 3276) _ _ _
    unfold PerAt
    have q0 : (nw4 x (nI p)).1 400 (x.2.2.2 4) = nI p := y 400 rfl
    have q3 : (nw4 x (nI p)).1 403 (x.2.2.2 4) = 0 := y 403 rfl
    have q4 : (nw4 x (nI p)).1 404 (x.2.2.2 4) = nI 0 := y 404 rfl
    have q5 : (nw4 x (nI p)).1 405 (x.2.2.2 4) = -1 := y 405 rfl
    have q6 : (nw4 x (nI p)).1 406 (x.2.2.2 4) = 0 := y 406 rfl
    have q7 : (nw4 x (nI p)).1 407 (x.2.2.2 4) = -1 := y 407 rfl
    have q8 : (nw4 x (nI p)).1 408 (x.2.2.2 4) = 0 := y 408 rfl
    have q9 : (nw4 x (nI p)).1 409 (x.2.2.2 4) = 0 := y 409 rfl
    have q10 : (nw4 x (nI p)).1 410 (x.2.2.2 4) = 0 := y 410 rfl
    have q11 : (nw4 x (nI p)).1 411 (x.2.2.2 4) = 0 := y 411 rfl
    have q12 : (nw4 x (nI p)).1 412 (x.2.2.2 4) = 0 := y 412 rfl
    have q13 : (nw4 x (nI p)).1 413 (x.2.2.2 4) = 0 := y 413 rfl
    simp (disch := omega) only [rIn, rI2, rA1, rAn, rAs, rA3]
    rw [q0, q3, q4, q5, q6, q7, q8, q9, q10, q11, q12, q13, z1, z2, z3, z4, z5, z6, z7, z8, z9, z10, z11, k3, yr_n (Nat.zero_le _) (by omega)]
    refine ⟨⟨pk_us, rng_I (a := 1) (b := 999) h1 h2 (by decide), pk_us⟩, Or.inl ⟨rfl, rfl⟩, ⟨rfl, by decide, ?_⟩, ⟨rfl, Or.inl rfl⟩, ⟨by unfold rng; decide, ?_⟩, ⟨rfl, rfl⟩, ⟨rfl, ?_, ?_⟩, ⟨rfl, ?_, ?_⟩, ⟨rfl, by unfold rng; decide, fun j hj => ?_⟩, fun _ => ⟨rfl, rfl⟩⟩
    · rw [tI (by omega), tI (by omega)]; omega
    · rw [if_neg]
      rintro ⟨_, q⟩
      rw [Int32.lt_iff_toInt_lt, tI (by omega), t_0] at q
      omega
    · rw [tI (by omega), t_0]; omega
    · rw [tI (by omega), t_0]; omega
    · rw [tI (by omega), t_0]; omega
    · rw [tI (by omega), t_0]; omega
    · rw [t_0] at hj; omega
  · have hlt : w < x.2.2.2 4 := by omega
    have y0 : ∀ F, (nw4 x (nI p)).1 F w = x.1 F w := fun F => nV_In (fun q => ew q.2)
    have y1 : ∀ F, (nw4 x (nI p)).2.1 F w = x.2.1 F w := fun F => nV_An (fun q => ew q.2)
    have y2 : ∀ F, (nw4 x (nI p)).2.2.1 F w = x.2.2.1 F w := fun F => nV_Jn (fun q => ew q.2)
    refine per_k (hI.per w hlt) (fun F hF => ?_) ?_ ?_ ?_ (fun F hF => ?_) (fun k hk => rfl) (fun j hj => rfl)
    · rw [rIn (by omega), rA1]; exact y0 F
    · rw [rI2, rAn (by omega)]; exact y1 401
    · rw [rI2, rA3]; exact y2 402
    · rw [rI2, rAs]; exact u_n ew
    · rw [rI2]
      by_cases e17 : F = 1217
      · subst e17; rw [rAs]; exact u_n ew
      · rw [rAn e17]
theorem pe_pe0 {x m : VM} {p : Nat} (hI : Inv x m) (h1 : 1 ≤ p) (h2 : p ≤ 999) (hc : x.2.2.2 4 < 16) : IPe0 (setI (setA (nw4 x (nI p)) 300 0 (upd ((nw4 x (nI p)).2.1 300 0) (x.2.2.2 4) (nI p / 7))) 1113 0 (nI (x.2.2.2 4 + 1))) (setI (setA m 1217 0 (upd (m.2.1 1217 0) (x.2.2.2 4) (nI p))) 1202 0 (nI (x.2.2.2 4 + 1))) := by
  intro w hw h16
  have hw' : x.2.2.2 4 + 1 ≤ w := hw
  obtain ⟨z1, z2, z3, z4, z5, z6, z7, z8, z9, z10, z11, z12⟩ := hI.pe0 w (by omega) h16
  exact ⟨z1, z2, z3, z4, z5, z6, z7, z8, z9, z10, z11, (u_n (by omega)).trans z12⟩
theorem pe_ord {x m : VM} {p : Nat} (hI : Inv x m) (h1 : 1 ≤ p) (h2 : p ≤ 999) (hc : x.2.2.2 4 < 16) : IOrd (setI (setA (nw4 x (nI p)) 300 0 (upd ((nw4 x (nI p)).2.1 300 0) (x.2.2.2 4) (nI p / 7))) 1113 0 (nI (x.2.2.2 4 + 1))) (setI (setA m 1217 0 (upd (m.2.1 1217 0) (x.2.2.2 4) (nI p))) 1202 0 (nI (x.2.2.2 4 + 1))) := by
  exact fun p hp h1 i hi => by rw [pe_c] at hi; rw [pe_c]; exact hI.ord p hp h1 i hi
theorem pe_sce {x m : VM} {p : Nat} (hI : Inv x m) (h1 : 1 ≤ p) (h2 : p ≤ 999) (hc : x.2.2.2 4 < 16) : ISce (setI (setA (nw4 x (nI p)) 300 0 (upd ((nw4 x (nI p)).2.1 300 0) (x.2.2.2 4) (nI p / 7))) 1113 0 (nI (x.2.2.2 4 + 1))) (setI (setA m 1217 0 (upd (m.2.1 1217 0) (x.2.2.2 4) (nI p))) 1202 0 (nI (x.2.2.2 4 + 1))) := by
  intro p' s hp hs
  obtain ⟨a1, a2, a3⟩ := hI.sce p' s hp (by rw [pe_c] at hs; exact hs)
  refine ⟨a1, ⟨a2.1, a2.2.1, Int.le_trans a2.2.2 ?_⟩, a3⟩
  show (2 : Int) ^ x.2.2.2 4 - 1 ≤ 2 ^ (x.2.2.2 4 + 1) - 1
  rw [Int.pow_succ]
  have : (0 : Int) < 2 ^ x.2.2.2 4 := Int.pow_pos (by decide)
  omega
theorem pe_sc0 {x m : VM} {p : Nat} (hI : Inv x m) (h1 : 1 ≤ p) (h2 : p ≤ 999) (hc : x.2.2.2 4 < 16) : ISc0 (setI (setA (nw4 x (nI p)) 300 0 (upd ((nw4 x (nI p)).2.1 300 0) (x.2.2.2 4) (nI p / 7))) 1113 0 (nI (x.2.2.2 4 + 1))) (setI (setA m 1217 0 (upd (m.2.1 1217 0) (x.2.2.2 4) (nI p))) 1202 0 (nI (x.2.2.2 4 + 1))) := by
  exact fun p s hp hs hh => hI.sc0 p s hp hs (fun q => by have := hh q; rw [pe_c] at this; exact this)
theorem pe_cac {x m : VM} {p : Nat} (hI : Inv x m) (h1 : 1 ≤ p) (h2 : p ≤ 999) (hc : x.2.2.2 4 < 16) : ICac (setI (setA (nw4 x (nI p)) 300 0 (upd ((nw4 x (nI p)).2.1 300 0) (x.2.2.2 4) (nI p / 7))) 1113 0 (nI (x.2.2.2 4 + 1))) (setI (setA m 1217 0 (upd (m.2.1 1217 0) (x.2.2.2 4) (nI p))) 1202 0 (nI (x.2.2.2 4 + 1))) := by
  intro j hj
  have hj' : x.2.2.2 0 = j + 1 := hj
  have hjp : j < x.2.2.2 5 := by have := hI.bas.2; omega
  obtain ⟨d1, d2⟩ := hI.cac j hj
  rw [pe_c]
  refine ⟨d1, ?_⟩
  unfold bSpecX at d2 ⊢
  rw [pe_c]
  simp (disch := omega) only [rIn, rA1, rI2, rAn, rAs, nw4, nVnI, nVnA]
  refine bSpec_congr (N := x.2.2.2 4) (D := dayD (tn (x.1 301 0)) (fun w => tn (x.2.1 300 0 w))) (fun i hi => ca_lt hI hjp hi) (fun t ht => ?_) d2
  unfold dayD
  rw [smB_congr 16 (g := fun w => if t.testBit w = true then tn (upd (x.2.1 300 0) (x.2.2.2 4) (nI p / 7) w) else 0)]
  intro w hw
  by_cases ew : w = x.2.2.2 4
  · subst ew
    simp only [Nat.testBit_lt_two_pow ht, Bool.false_eq_true, if_false]
  · simp only [u_n ew]
theorem s_person : S_person Inv := by
  intro x m p hI
  show Sm Inv _ _
  unfold f_X11_person f_X12_person mk_person
  rcases ar p 1 999 (by decide) with h | h | ⟨p, h1, h2, rfl⟩
  · simp (disch := omega) only [Int32.lt_iff_toInt_lt, Int32.le_iff_toInt_le, i32eq, tI, t_0, t_1, t_2, t_3, t_4, t_5, t_6, t_7, t_8, t_9, t_10, t_16, t_31, t_40, t_48, t_50, t_52, t_57, t_60, t_61, t_64, t_90, t_99, t_100, t_108, t_112, t_114, t_115, t_119, t_121, t_200, t_256, t_364, t_400, t_480, t_960, t_999, t_1000, t_4000, t_99999, t_1000000000, t_2147483647, t_m1, t_m2, t_m3, t_m4, t_m5, t_m6, t_m7, t_m1000, nI_clamp, inb_T, Option.elim_some, Option.elim_none, if_pos, if_neg, rfx1, rfm1, rfx2, rfm2, rfx3, rfm3, rfx4, rfm4, rfx5, rfm5, rfx6, rfm6, rfx7, rfm7, nI_add, pk_mul, lm_2, lm_4, lm_5, lm_7, lm_8, lm_10, lm_40, lm_60, lm_61, lm_364, lm_1000, la_1, al_1, la_10, al_10, la_11, al_11, la_100, al_100, la_364, al_364, d8, m8, ↓reduceIte, rA1, rA3, rI2, rJ1, rJ2, rJ4, rN1, rN2, rN3, rAs, rIs, rJs, rAn, rIn, rJn]; exact Sm.mk rfl (hI.ref1 5)
  · simp (disch := omega) only [Int32.lt_iff_toInt_lt, Int32.le_iff_toInt_le, i32eq, tI, t_0, t_1, t_2, t_3, t_4, t_5, t_6, t_7, t_8, t_9, t_10, t_16, t_31, t_40, t_48, t_50, t_52, t_57, t_60, t_61, t_64, t_90, t_99, t_100, t_108, t_112, t_114, t_115, t_119, t_121, t_200, t_256, t_364, t_400, t_480, t_960, t_999, t_1000, t_4000, t_99999, t_1000000000, t_2147483647, t_m1, t_m2, t_m3, t_m4, t_m5, t_m6, t_m7, t_m1000, nI_clamp, inb_T, Option.elim_some, Option.elim_none, if_pos, if_neg, rfx1, rfm1, rfx2, rfm2, rfx3, rfm3, rfx4, rfm4, rfx5, rfm5, rfx6, rfm6, rfx7, rfm7, nI_add, pk_mul, lm_2, lm_4, lm_5, lm_7, lm_8, lm_10, lm_40, lm_60, lm_61, lm_364, lm_1000, la_1, al_1, la_10, al_10, la_11, al_11, la_100, al_100, la_364, al_364, d8, m8, ↓reduceIte, rA1, rA3, rI2, rJ1, rJ2, rJ4, rN1, rN2, rN3, rAs, rIs, rJs, rAn, rIn, rJn]; exact Sm.mk rfl (hI.ref1 5)
  · obtain ⟨c1, c2⟩ := hI.bas.1.1
    have c3 := hI.cnt.1
    rcases (show x.2.2.2 4 = 16 ∨ x.2.2.2 4 < 16 by omega) with hc | hc
    · simp (disch := omega) only [Int32.lt_iff_toInt_lt, Int32.le_iff_toInt_le, i32eq, tI, t_0, t_1, t_2, t_3, t_4, t_5, t_6, t_7, t_8, t_9, t_10, t_16, t_31, t_40, t_48, t_50, t_52, t_57, t_60, t_61, t_64, t_90, t_99, t_100, t_108, t_112, t_114, t_115, t_119, t_121, t_200, t_256, t_364, t_400, t_480, t_960, t_999, t_1000, t_4000, t_99999, t_1000000000, t_2147483647, t_m1, t_m2, t_m3, t_m4, t_m5, t_m6, t_m7, t_m1000, nI_clamp, inb_T, Option.elim_some, Option.elim_none, if_pos, if_neg, rfx1, rfm1, rfx2, rfm2, rfx3, rfm3, rfx4, rfm4, rfx5, rfm5, rfx6, rfm6, rfx7, rfm7, nI_add, pk_mul, lm_2, lm_4, lm_5, lm_7, lm_8, lm_10, lm_40, lm_60, lm_61, lm_364, lm_1000, la_1, al_1, la_10, al_10, la_11, al_11, la_100, al_100, la_364, al_364, d8, m8, ↓reduceIte, rA1, rA3, rI2, rJ1, rJ2, rJ4, rN1, rN2, rN3, rAs, rIs, rJs, rAn, rIn, rJn, c3, c1]; exact Sm.mk rfl (hI.ref1 6)
    · have e : (nw4 x (nI p)).1 1113 0 = nI (x.2.2.2 4) := c1
      simp (disch := omega) only [Int32.lt_iff_toInt_lt, Int32.le_iff_toInt_le, i32eq, tI, t_0, t_1, t_2, t_3, t_4, t_5, t_6, t_7, t_8, t_9, t_10, t_16, t_31, t_40, t_48, t_50, t_52, t_57, t_60, t_61, t_64, t_90, t_99, t_100, t_108, t_112, t_114, t_115, t_119, t_121, t_200, t_256, t_364, t_400, t_480, t_960, t_999, t_1000, t_4000, t_99999, t_1000000000, t_2147483647, t_m1, t_m2, t_m3, t_m4, t_m5, t_m6, t_m7, t_m1000, nI_clamp, inb_T, Option.elim_some, Option.elim_none, if_pos, if_neg, rfx1, rfm1, rfx2, rfm2, rfx3, rfm3, rfx4, rfm4, rfx5, rfm5, rfx6, rfm6, rfx7, rfm7, nI_add, pk_mul, lm_2, lm_4, lm_5, lm_7, lm_8, lm_10, lm_40, lm_60, lm_61, lm_364, lm_1000, la_1, al_1, la_10, al_10, la_11, al_11, la_100, al_100, la_364, al_364, d8, m8, ↓reduceIte, rA1, rA3, rI2, rJ1, rJ2, rJ4, rN1, rN2, rN3, rAs, rIs, rJs, rAn, rIn, rJn, c3, c1, e]
      exact Sm.mk rfl ⟨(pe_bas hI h1 h2 hc), (⟨rfl, hI.cnt.2⟩), hI.now, hI.pur, hI.clr, hI.fau, hI.cod, hI.sha, hI.fee, hI.law, hI.she, (pe_per hI h1 h2 hc), (pe_pe0 hI h1 h2 hc), hI.pic, (pe_ord hI h1 h2 hc), hI.dra, hI.pi0, (pe_sce hI h1 h2 hc), (pe_sc0 hI h1 h2 hc), hI.hal, hI.ha0, hI.shw, hI.pla, (pe_cac hI h1 h2 hc), hI.ref⟩
