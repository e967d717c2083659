/-! who is in some scene; takings -/
theorem orB_bit {c : Nat → Nat} {p : Nat → Bool} {b : Nat} : ∀ n, (orB c p n).testBit b = true ↔ ∃ s, s < n ∧ p s = true ∧ (c s).testBit b = true
  | 0 => by
    unfold orB
    rw [Nat.zero_testBit]
    constructor
    · intro h; cases h
    · rintro ⟨s, hs, _⟩; omega
  | n + 1 => by
    unfold orB
    rw [Nat.testBit_or, Bool.or_eq_true, orB_bit n]
    constructor
    · rintro (⟨s, h1, h2⟩ | h)
      · exact ⟨s, by omega, h2⟩
      · by_cases e : p n = true
        · rw [if_pos e] at h; exact ⟨n, by omega, e, h⟩
        · rw [if_neg e, Nat.zero_testBit] at h; cases h
    · rintro ⟨s, h1, h2, h3⟩
      by_cases e : s = n
      · subst e; right; rw [if_pos h2]; exact h3
      · left; exact ⟨s, by omega, h2, h3⟩
theorem orB_congr {c c' : Nat → Nat} {p q : Nat → Bool} : ∀ n, (∀ i, i < n → p i = q i) → (∀ i, i < n → c i = c' i) → orB c p n = orB c' q n
  | 0, _, _ => rfl
  | n + 1, h, h' => by
    unfold orB
    rw [orB_congr n (fun i hi => h i (by omega)) (fun i hi => h' i (by omega)), h n (by omega), h' n (by omega)]
section
variable {x m : VM}
def caX (x : VM) (i s : Nat) : Nat := tn (x.1 801 (8 * i + s))
theorem caX_ok (hI : Inv x m) {p s : Nat} (hp : p < x.2.2.2 5) (hs : s < x.2.2.2 (20 + p)) : caX x p s < 2 ^ x.2.2.2 4 ∧ caX x p s < 65536 ∧ x.1 801 (8 * p + s) = nI (caX x p s) ∧ m.2.1 1237 0 (8 * p + s) = nI (caX x p s) := by
  obtain ⟨c, c1, c2, c3, c4⟩ := caN hI hp hs
  have e : caX x p s = c := by unfold caX; rw [c3]; exact tn_nI (by omega)
  rw [e]
  exact ⟨c1, c2, c3, c4⟩
theorem l_inS (hI : Inv x m) {i t : Nat} (i1 : i < x.2.2.2 5) (i2 : i < 8) (ht : t < 256) : f_X12_inSome m (nI i) (nI t) = some (nI (orB (caX x i) (fun s => t.testBit s) (x.2.2.2 (20 + i)))) := by
  obtain ⟨n1, n2, n3⟩ := n_sce hI i1
  unfold f_X12_inSome
  refine lp_seq (fun k => (nI (orB (caX x i) (fun s => t.testBit s) k), nI k)) (x.2.2.2 (20 + i)) _ (fun k hk => ?_) ?_
  · unfold b_X12_inSome_5
    simp (disch := omega) only [n2, inb_T, tI, if_pos, nI_clamp, Int32.le_iff_toInt_le, if_neg, bt_1, lm_8, nI_add, nI_1]
    rw [(caX_ok hI i1 hk).2.2.2]
    show (if t.testBit k = true then Sum.inl (nI (orB (caX x i) _ k) ||| nI (caX x i k), nI (k + 1)) else Sum.inl (nI (orB (caX x i) _ k), nI (k + 1))) = Sum.inl (nI (orB (caX x i) _ k ||| if t.testBit k = true then caX x i k else 0), nI (k + 1))
    by_cases h : t.testBit k = true
    · rw [if_pos h, if_pos h, nI_or]
    · rw [if_neg h, if_neg h, Nat.or_zero]
  · unfold b_X12_inSome_5
    simp only [n2, if_pos (inb8 i2), nI_clamp (show i < 2 ^ 31 by omega), if_pos (Int32.le_refl _)]
theorem l_cas (hI : Inv x m) {i : Nat} (i1 : i < x.2.2.2 5) (i2 : i < 8) : f_X5_castOfAll x i = some (nI (orB (caX x i) (fun _ => true) (x.2.2.2 (20 + i)))) := by
  obtain ⟨n1, n2, n3⟩ := n_sce hI i1
  unfold f_X5_castOfAll
  refine lp_seq (fun k => (nI (orB (caX x i) (fun _ => true) k), nI k)) (x.2.2.2 (20 + i)) _ (fun k hk => ?_) ?_
  · unfold b_X5_castOfAll_4
    simp (disch := omega) only [n1, inb_T, tI, if_pos, nI_clamp, Int32.le_iff_toInt_le, if_neg, d8, m8, nI_1]
    rw [(caX_ok hI i1 hk).2.2.1, nI_or]
    rfl
  · unfold b_X5_castOfAll_4
    simp only [n1, if_pos i1, if_pos (Int32.le_refl _)]
theorem allB {n : Nat} (h : n ≤ 8) : (1 : Int32) <<< (nI n &&& 31) - 1 = nI (2 ^ n - 1) := by
  rw [shl1 n (by omega)]
  have := Nat.two_pow_pos n
  obtain ⟨k, hk⟩ : ∃ k, 2 ^ n = k + 1 := ⟨2 ^ n - 1, by omega⟩
  rw [hk, nI_pred, Nat.add_sub_cancel]
theorem all_lt {n : Nat} (h : n ≤ 8) : 2 ^ n - 1 < 256 := by
  have : 2 ^ n ≤ 2 ^ 8 := Nat.pow_le_pow_right (by decide) h
  have := Nat.two_pow_pos n
  omega
theorem l_all (hI : Inv x m) {i : Nat} (i1 : i < x.2.2.2 5) (i2 : i < 8) : f_X12_inSome m (nI i) (nI (2 ^ x.2.2.2 (20 + i) - 1)) = some (nI (orB (caX x i) (fun _ => true) (x.2.2.2 (20 + i)))) := by
  have n3 := (n_sce hI i1).2.2
  rw [l_inS hI i1 i2 (all_lt n3)]
  rw [orB_congr _ (fun s hs => ?_) (fun _ _ => rfl)]
  show (2 ^ x.2.2.2 (20 + i) - 1).testBit s = true
  rw [Nat.testBit_two_pow_sub_one]
  simp [hs]
theorem or_all_lt (hI : Inv x m) {i : Nat} (i1 : i < x.2.2.2 5) (p : Nat → Bool) : orB (caX x i) p (x.2.2.2 (20 + i)) < 65536 := orB_lt (N := 16) _ (fun s hs => (caX_ok hI i1 hs).2.1)
end
/-- the hall's week told, its coins got -/
def hUp (y : VM) (h w : Nat) (v : Int32) : VM := setI (setA y 104 h (upd (y.2.1 104 h) w 1)) 105 h (y.1 105 h + v)
theorem pay_loop {x m : VM} {i h w cast : Nat} {v left p1 p2 p3 : Int32} (hc : cast < 65536) (hle : left = p3 - p3 * (m.2.1 1262 0 p1.toNatClampNeg) / 100) (M1 : VM) (hJ : Inv (hUp x h w v) M1) : ∃ r x' m', loopF none (b_X11_payParts_11 x i left (nI cast)) (left, 0, x) = some (r, x') ∧ loopF none (b_X12_takings_152 m p1 p2 p3 (nI cast)) (left, 0, M1) = some (r, setI m' 1201 0 (m'.1 1201 0 + r)) ∧ Inv (hUp x' h w v) m' ∧ x'.2.2.2 = x.2.2.2 := by
  have hn := hJ.bas.1.1
  refine lp_cnt2 (V := Int32 × Int32 × VM) (W := Int32 × Int32 × VM) (d := none) (e := none) (x.2.2.2 4) (fun k v' w' => ∃ r y n, v' = (r, nI k, y) ∧ w' = (r, nI k, n) ∧ Inv (hUp y h w v) n ∧ y.2.2.2 = x.2.2.2) (fun o p => ∃ r x' m', o = some (r, x') ∧ p = some (r, setI m' 1201 0 (m'.1 1201 0 + r)) ∧ Inv (hUp x' h w v) m' ∧ x'.2.2.2 = x.2.2.2) ?_ ?_ 0 (left, 0, x) (left, 0, M1) (Nat.zero_le _) ⟨left, x, M1, rfl, rfl, hJ, rfl⟩
  · rintro k v' w' hk ⟨r, y, n, rfl, rfl, hY, hy⟩
    left
    have k16 : k < 16 := by have : x.2.2.2 4 ≤ 16 := hn.2; omega
    have c1 : y.1 1113 0 = nI (x.2.2.2 4) := by have := hY.bas.1.1.1; rw [show (hUp y h w v).2.2.2 4 = x.2.2.2 4 by rw [← hy]; rfl] at this; exact this
    have c2 : n.1 1202 0 = nI (x.2.2.2 4) := by rw [hY.cnt.1]; exact c1
    have cN : n.1 1200 0 = y.1 1116 0 := hY.now.1
    have hky : k < y.2.2.2 4 := by rw [hy]; exact hk
    have lt : ¬ nI (x.2.2.2 4) ≤ nI k := by have : x.2.2.2 4 ≤ 16 := hn.2; rw [Int32.le_iff_toInt_le, tI (by omega), tI (by omega)]; omega
    have ein : inb (nI k) 16 = true := by rw [inb_T, tI (by omega)]; omega
    unfold b_X11_payParts_11 b_X12_takings_152 j_X12_takings_217
    simp only [c1, c2, if_neg lt, if_pos ein, nI_clamp (show k < 2 ^ 31 by omega), if_pos hky, bt_1 (show cast < 2147483648 by omega) (show k < 32 by omega), bt_0 (show cast < 2147483648 by omega) (show k < 32 by omega), nI_1, cN]
    by_cases hb : cast.testBit k = true
    · rw [if_pos hb, if_neg (show ¬ cast.testBit k = false by rw [hb]; decide)]
      have hP := hY.per k hky
      have u0 : f_X4_isUnder y k (y.1 1116 0) = f_X4_isUnder (hUp y h w v) k (y.1 1116 0) := rfl
      rw [u0]
      rcases c_und hP hky k16 (y.1 1116 0) with ⟨a1, a2, a3, a4⟩ | ⟨a1, a2, a3⟩
      · obtain ⟨cc, r1, r2⟩ := c_cnt hY.law hP hky k16 a4 (show 3 < 5 by decide) (y.1 1116 0)
        have r1' : f_X4_countOf y k 3 (y.1 1116 0) = some cc := (cof_congr (x := hUp y h w v) rfl rfl rfl rfl rfl).trans r1
        have r2' : f_X12_countsOn n (nI k) 3 (y.1 1116 0) = some cc := r2
        simp only [a1, a2, r1', r2', Option.elim_some, if_neg n10]
        have hle2 : p3 - p3 * ((setA m 1265 0 (upd (m.2.1 1265 0) ((40 * p1 + p2).toNatClampNeg) 1)).2.1 1262 0 p1.toNatClampNeg) / 100 = left := by rw [rAn (by decide), hle]
        rw [hle2]
        have step : ∀ g, Inv (hUp (setI y 413 k (y.1 413 k + g)) h w v) (setA n 1226 0 (upd (n.2.1 1226 0) k (n.2.1 1226 0 k + g))) := by
          intro g
          refine ⟨hY.bas, hY.cnt, hY.now, hY.pur, hY.clr, hY.fau, hY.cod, hY.sha, hY.fee, hY.law, hY.she, (?_), (?_), hY.pic, hY.ord, hY.dra, hY.pi0, hY.sce, hY.sc0, hY.hal, hY.ha0, hY.shw, hY.pla, hY.cac, hY.ref⟩
          · refine per_upd (w := k) hY.per rfl rfl ?_ (fun w' e F hF => ?_) (fun w' e => rfl) (fun w' e => rfl) rfl (fun w' e F hF => rAw e) (fun _ _ _ _ => rfl) (fun _ _ _ _ => rfl)
            · obtain ⟨b1, b2, b3, b4, b5, b6, b7, b8, b9, b10⟩ := hP
              refine ⟨b1, b2, b3, b4, b5, ⟨b6.1, ?_⟩, b7, b8, b9, b10⟩
              show upd (n.2.1 1226 0) k (n.2.1 1226 0 k + g) k = (setI y 413 k (y.1 413 k + g)).1 413 k
              rw [pk_us, sI_s, b6.2]
              rfl
            · unfold hUp
              rw [rIn (show F ≠ 105 by omega), rIn (show F ≠ 105 by omega), rA1, rA1]
              exact rIw e
          · exact pe0_upd hY.pe0 rfl hky rfl (fun w' e F hF => rAw e)
        by_cases hl : left * cc / 100 ≤ r
        · rw [if_pos hl]
          by_cases hl2 : left * cc / 100 < r
          · rw [if_pos hl2]
            exact ⟨_, _, rfl, rfl, _, _, _, rfl, rfl, step _, hy⟩
          · have he : left * cc / 100 = r := by
              rw [Int32.lt_iff_toInt_lt] at hl2
              rw [Int32.le_iff_toInt_le] at hl
              rw [i32eq]; omega
            rw [if_neg hl2, he]
            exact ⟨_, _, rfl, rfl, _, _, _, rfl, rfl, step _, hy⟩
        · have hl2 : ¬ left * cc / 100 < r := fun z => hl (by rw [Int32.lt_iff_toInt_lt] at z; rw [Int32.le_iff_toInt_le]; omega)
          rw [if_neg hl, if_neg hl2]
          exact ⟨_, _, rfl, rfl, _, _, _, rfl, rfl, step _, hy⟩
      · rw [a1, a2]
        exact ⟨_, _, rfl, rfl, _, _, _, rfl, rfl, hY, hy⟩
    · rw [if_neg hb, if_pos (show cast.testBit k = false by revert hb; cases cast.testBit k <;> simp)]
      exact ⟨_, _, rfl, rfl, _, _, _, rfl, rfl, hY, hy⟩
  · rintro v' w' ⟨r, y, n, rfl, rfl, hY, hy⟩
    have c1 : y.1 1113 0 = nI (x.2.2.2 4) := by have := hY.bas.1.1.1; rw [show (hUp y h w v).2.2.2 4 = x.2.2.2 4 by rw [← hy]; rfl] at this; exact this
    have c2 : n.1 1202 0 = nI (x.2.2.2 4) := by rw [hY.cnt.1]; exact c1
    unfold b_X11_payParts_11 b_X12_takings_152
    simp only [c1, c2, if_pos (Int32.le_refl _)]
    exact ⟨_, _, rfl, rfl, _, _, _, rfl, rfl, hY, hy⟩
