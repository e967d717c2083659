/-! people: what counts, who is under, at work, ready -/
theorem n10 : ¬ (1 : Int32) = 0 := by decide
def hitL (x : VM) (l d : Int32) (k : Nat) : Prop := x.2.1 200 0 k = l ∧ ¬ d < x.2.1 201 0 k
theorem agn {x : VM} {n : Nat} (l d : Int32) (hn : x.1 202 0 = nI n) (h8 : n ≤ 8) : ((∃ k, k < n ∧ hitL x l d k) ∧ f_X2_areAgainst x l d = some 1) ∨ ((¬ ∃ k, k < n ∧ hitL x l d k) ∧ f_X2_areAgainst x l d = some 0) := by
  unfold f_X2_areAgainst
  refine lp_cnt (V := Int32) n (fun i v => v = nI i ∧ ∀ k, k < i → ¬ hitL x l d k) (fun o => ((∃ k, k < n ∧ hitL x l d k) ∧ o = some 1) ∨ ((¬ ∃ k, k < n ∧ hitL x l d k) ∧ o = some 0)) ?_ ?_ 0 0 (Nat.zero_le _) ⟨rfl, fun k hk => absurd hk (Nat.not_lt_zero k)⟩
  · rintro i v hi ⟨rfl, hv⟩
    unfold b_X2_areAgainst_2
    simp (disch := omega) only [hn, Int32.le_iff_toInt_le, tI, if_neg, inb_T, if_pos, nI_clamp]
    by_cases h1 : x.2.1 200 0 i = l
    · rw [if_pos h1]
      by_cases h2 : d < x.2.1 201 0 i
      · rw [if_pos h2]
        left
        refine ⟨_, by rw [nI_1], rfl, fun k hk => ?_⟩
        by_cases e : k = i
        · subst e; exact fun q => q.2 h2
        · exact hv k (by omega)
      · rw [if_neg h2]
        right
        exact ⟨_, rfl, Or.inl ⟨⟨i, hi, h1, h2⟩, rfl⟩⟩
    · rw [if_neg h1]
      left
      refine ⟨_, by rw [nI_1], rfl, fun k hk => ?_⟩
      by_cases e : k = i
      · subst e; exact fun q => h1 q.1
      · exact hv k (by omega)
  · rintro v ⟨rfl, hv⟩
    unfold b_X2_areAgainst_2
    rw [hn, if_pos (Int32.le_refl _)]
    exact ⟨_, rfl, Or.inr ⟨fun ⟨k, h1, h2⟩ => hv k h1 h2, rfl⟩⟩
theorem cto {x m : VM} {n w l : Nat} {c d : Int32} (hL : ILaw x m) (hn : x.1 202 0 = nI n) (h8 : n ≤ 8) (hw : w < 16) (hl : l < 5) (hc : c = if m.2.1 1229 0 (5 * w + l) = -1 then wout l else m.2.1 1229 0 (5 * w + l)) : ((∃ k, k < n ∧ hitL x (nI l) d k) ∧ f_X12_countsOn m (nI w) (nI l) d = some (wout l)) ∨ ((¬ ∃ k, k < n ∧ hitL x (nI l) d k) ∧ f_X12_countsOn m (nI w) (nI l) d = some c) := by
  unfold f_X12_countsOn
  have hm : m.1 1203 0 = nI n := by rw [hL.1.1, hn]
  refine lp_cnt (V := Int32 × Int32) n (fun i v => ((∃ k, k < i ∧ hitL x (nI l) d k) ∧ v = (1, nI i)) ∨ ((¬ ∃ k, k < i ∧ hitL x (nI l) d k) ∧ v = (0, nI i))) (fun o => ((∃ k, k < n ∧ hitL x (nI l) d k) ∧ o = some (wout l)) ∨ ((¬ ∃ k, k < n ∧ hitL x (nI l) d k) ∧ o = some c)) ?_ ?_ 0 (0, 0) (Nat.zero_le _) (Or.inr ⟨fun ⟨k, hk, _⟩ => absurd hk (Nat.not_lt_zero k), rfl⟩)
  · intro i v hi hv
    left
    have e2 := hL.2 i (by omega)
    have ev : v.2 = nI i := by rcases hv with ⟨_, rfl⟩ | ⟨_, rfl⟩ <;> rfl
    have main : b_X12_countsOn_6 m (nI w) (nI l) d v = if x.2.1 200 0 i = nI l then (if d < x.2.1 201 0 i then Sum.inl (v.1, nI (i + 1)) else Sum.inl (1, nI (i + 1))) else Sum.inl (v.1, nI (i + 1)) := by
      unfold b_X12_countsOn_6
      rw [ev, hm, if_neg (by rw [Int32.le_iff_toInt_le, tI (by omega), tI (by omega)]; omega)]
      simp (disch := omega) only [inb_T, tI, if_pos, nI_clamp, nI_1]
      rw [e2.1, e2.2]
    rw [main]
    by_cases h1 : x.2.1 200 0 i = nI l
    · rw [if_pos h1]
      by_cases h2 : d < x.2.1 201 0 i
      · rw [if_pos h2]
        refine ⟨_, rfl, ?_⟩
        rcases hv with ⟨⟨k, hk, hq⟩, rfl⟩ | ⟨hq, rfl⟩
        · exact Or.inl ⟨⟨k, by omega, hq⟩, rfl⟩
        · refine Or.inr ⟨?_, rfl⟩
          rintro ⟨k, hk, hz⟩
          by_cases e : k = i
          · subst e; exact hz.2 h2
          · exact hq ⟨k, by omega, hz⟩
      · rw [if_neg h2]
        exact ⟨_, rfl, Or.inl ⟨⟨i, by omega, h1, h2⟩, rfl⟩⟩
    · rw [if_neg h1]
      refine ⟨_, rfl, ?_⟩
      rcases hv with ⟨⟨k, hk, hq⟩, rfl⟩ | ⟨hq, rfl⟩
      · exact Or.inl ⟨⟨k, by omega, hq⟩, rfl⟩
      · refine Or.inr ⟨?_, rfl⟩
        rintro ⟨k, hk, hz⟩
        by_cases e : k = i
        · subst e; exact h1 hz.1
        · exact hq ⟨k, by omega, hz⟩
  · intro v hv
    have ew : (if nI l = 0 then (Sum.inr (some 52) : (Int32 × Int32) ⊕ Option Int32) else Sum.inr (some 0)) = Sum.inr (some (wout l)) := by
      unfold wout
      by_cases e : l = 0
      · subst e; rfl
      · rw [if_neg e, if_neg (nI_ne0 (by omega) (by omega))]
    rcases hv with ⟨hq, rfl⟩ | ⟨hq, rfl⟩
    · refine ⟨_, ?_, Or.inl ⟨hq, rfl⟩⟩
      unfold b_X12_countsOn_6
      simp (disch := omega) only [hm, Int32.le_iff_toInt_le, tI, if_pos, inb_T, lm_5, nI_add, reduceIte]
      rw [if_neg n10]
      exact ew
    · refine ⟨_, ?_, Or.inr ⟨hq, rfl⟩⟩
      unfold b_X12_countsOn_6
      simp (disch := omega) only [hm, Int32.le_iff_toInt_le, tI, if_pos, inb_T, lm_5, nI_add, nI_clamp, reduceIte]
      rw [hc, ew]
      by_cases e : m.2.1 1229 0 (5 * w + l) = -1
      · rw [if_pos e, if_pos e]
      · rw [if_neg e, if_neg e]
section
variable {x m : VM} {w : Nat} {now : Int32} {B : Int}
theorem sv4_w : ∀ l, l < 5 → sv4 l = wout l := by decide
/-- what counts: both sides say the same of one who has a term -/
theorem c_cnt (hL : ILaw x m) (hP : PerAt now B x m w) (hw : w < x.2.2.2 4) (h16 : w < 16) (ht : ¬ x.1 405 w = -1) {l : Nat} (hl : l < 5) (d : Int32) : ∃ r, f_X4_countOf x w (nI l) d = some r ∧ f_X12_countsOn m (nI w) (nI l) d = some r := by
  obtain ⟨n, n1, n2, n3⟩ := rng_nI (a := 0) (b := 8) hL.1.2 (by decide)
  have hc : x.2.1 401 w l = if m.2.1 1229 0 (5 * w + l) = -1 then wout l else m.2.1 1229 0 (5 * w + l) := by
    rcases hP.2.1 with h | h
    · exact absurd h.2 ht
    · exact h.2.2.2 l hl
  unfold f_X4_countOf
  rcases agn (x := x) (nI l) d n3 n2 with ⟨a1, a2⟩ | ⟨a1, a2⟩
  · rcases cto (d := d) hL n3 n2 h16 hl hc with ⟨b1, b2⟩ | ⟨b1, b2⟩
    · refine ⟨_, ?_, b2⟩
      rw [a2]
      simp (disch := omega) only [Option.elim_some, inb_T, tI, nI_clamp, if_pos, reduceIte]
      rw [if_neg n10, sv4_w l hl]
    · exact absurd a1 b1
  · rcases cto (d := d) hL n3 n2 h16 hl hc with ⟨b1, b2⟩ | ⟨b1, b2⟩
    · exact absurd b1 a1
    · refine ⟨_, ?_, b2⟩
      rw [a2]
      simp (disch := omega) only [Option.elim_some, inb_T, tI, nI_clamp, if_pos, reduceIte]
theorem c_und (hP : PerAt now B x m w) (hw : w < x.2.2.2 4) (h16 : w < 16) (d : Int32) : (f_X4_isUnder x w d = some 1 ∧ f_X12_isUnderOn m (nI w) d = some 1 ∧ undT (m.2.1 1227 0 w) (x.1 404 w) (x.1 405 w) d ∧ ¬ x.1 405 w = -1) ∨ (f_X4_isUnder x w d = some 0 ∧ f_X12_isUnderOn m (nI w) d = some 0 ∧ ¬ undT (m.2.1 1227 0 w) (x.1 404 w) (x.1 405 w) d) := by
  have hb := hP.2.2.1.1
  have ein : inb (nI w) 16 = true := by rw [inb_T, tI (by omega)]; omega
  unfold f_X4_isUnder f_X12_isUnderOn undT
  rw [if_pos hw, if_pos ein, if_pos ein, if_pos ein, nI_clamp (by omega), hb]
  rcases hP.2.1 with ⟨a1, a2⟩ | ⟨a1, a2, a3, _⟩
  · right
    rw [a1, a2]
    exact ⟨rfl, rfl, fun q => absurd q.1 (by decide)⟩
  · have ne : ¬ x.1 405 w = -1 := fun q => by rw [q] at a3; exact absurd a3.1 (by decide)
    rw [a1, a2, if_neg ne, if_neg n10]
    by_cases h1 : d < x.1 404 w
    · right
      rw [if_pos h1]
      exact ⟨rfl, rfl, fun q => absurd h1 (Int32.not_lt.mpr q.2.1)⟩
    · rw [if_neg h1]
      by_cases h2 : x.1 405 w ≤ d
      · right
        rw [if_pos h2]
        exact ⟨rfl, rfl, fun q => absurd q.2.2 (Int32.not_lt.mpr h2)⟩
      · left
        rw [if_neg h2]
        exact ⟨rfl, rfl, ⟨rfl, Int32.not_lt.mp h1, Int32.not_le.mp h2⟩, ne⟩
theorem c_len (hP : PerAt now B x m w) (h16 : w < 16) : (f_X12_isLent m (nI w) now = some 0 ∧ x.1 407 w = -1) ∨ (f_X12_isLent m (nI w) now = some 1 ∧ ¬ x.1 407 w = -1 ∧ m.2.1 1220 0 w = x.1 407 w) := by
  obtain ⟨a1, a2⟩ := hP.2.2.2.2.1
  have ein : inb (nI w) 16 = true := by rw [inb_T, tI (by omega)]; omega
  unfold f_X12_isLent
  rw [if_pos ein, if_pos ein, nI_clamp (by omega)]
  by_cases h1 : m.2.1 1220 0 w = -1
  · left
    rw [if_pos h1, a2, if_neg (fun q => q.1 h1)]
    exact ⟨rfl, rfl⟩
  · rw [if_neg h1]
    by_cases h2 : m.2.1 1220 0 w ≤ now
    · left
      rw [if_pos h2, a2, if_neg (fun q => absurd q.2 (Int32.not_lt.mpr h2))]
      exact ⟨rfl, rfl⟩
    · right
      rw [if_neg h2, a2, if_pos ⟨h1, Int32.not_le.mp h2⟩]
      exact ⟨rfl, h1, rfl⟩
/-- under, not out, not lent -/
theorem c_wrk (hN : m.1 1200 0 = now) (hP : PerAt now B x m w) (hw : w < x.2.2.2 4) (h16 : w < 16) : (f_X4_isAtWork x w now = some 1 ∧ f_X12_mayAct m (nI w) = some 1 ∧ undT (m.2.1 1227 0 w) (x.1 404 w) (x.1 405 w) now ∧ ¬ x.1 405 w = -1 ∧ x.1 406 w = 0 ∧ x.1 407 w = -1) ∨ (f_X4_isAtWork x w now = some 0 ∧ f_X12_mayAct m (nI w) = some 0) := by
  have ein : inb (nI w) 16 = true := by rw [inb_T, tI (by omega)]; omega
  obtain ⟨o1, o2⟩ := hP.2.2.2.1
  unfold f_X4_isAtWork f_X12_mayAct
  rw [if_pos hw, hN]
  rcases c_und hP hw h16 now with ⟨a1, a2, a3, a4⟩ | ⟨a1, a2, a3⟩
  · rw [a1, a2]
    simp only [Option.elim_some]
    rw [if_neg n10, if_neg n10, if_pos ein, nI_clamp (by omega), o1]
    rcases o2 with o2 | o2
    · rw [if_pos o2, if_pos o2]
      rcases c_len hP h16 with ⟨b1, b2⟩ | ⟨b1, b2, _⟩
      · left
        rw [b1, if_pos b2]
        exact ⟨rfl, rfl, a3, a4, o2, b2⟩
      · right
        rw [b1, if_neg b2]
        exact ⟨rfl, rfl⟩
    · right
      rw [o2]
      exact ⟨rfl, rfl⟩
  · right
    rw [a1, a2]
    exact ⟨rfl, rfl⟩
theorem c_rdy {d : Nat} (hN : m.1 1200 0 = now) (hd : now = nI d) (hd2 : d < 1000000) (hP : PerAt now B x m w) (hw : w < x.2.2.2 4) (h16 : w < 16) : (f_X4_isReady x w now = some 1 ∧ f_X12_isReady m (nI w) now = some 1) ∨ (f_X4_isReady x w now = some 0 ∧ f_X12_isReady m (nI w) now = some 0) := by
  have ein : inb (nI w) 16 = true := by rw [inb_T, tI (by omega)]; omega
  obtain ⟨o1, o2⟩ := hP.2.2.2.1
  obtain ⟨i1, i2, i3⟩ := hP.2.2.2.2.2.2.2.2.1
  obtain ⟨n, n1, n2, n3⟩ := rng_nI (a := 0) (b := 60) i2 (by decide)
  rw [n3, tI (by omega)] at i3
  unfold f_X4_isReady f_X4_isAtWork f_X12_isReady
  rw [if_pos hw, if_pos hw]
  rcases c_und hP hw h16 now with ⟨a1, a2, a3, a4⟩ | ⟨a1, a2, a3⟩
  · rw [a1, a2]
    simp only [Option.elim_some]
    rw [if_neg n10, if_neg n10, if_pos ein, nI_clamp (by omega), o1]
    rcases o2 with o2 | o2
    · rw [if_pos o2, if_pos o2]
      rcases c_len hP h16 with ⟨b1, b2⟩ | ⟨b1, b2, _⟩
      · rw [b1, if_pos b2]
        simp only [Option.elim_some]
        rw [if_neg n10, if_pos True.intro, if_pos ein, if_pos ein, i1, n3]
        unfold f_X4_isIll
        rw [if_pos hw, n3]
        by_cases hz : n = 0
        · subst hz
          left
          exact ⟨rfl, rfl⟩
        · have q1 : ¬ nI n ≤ 0 := nI_nle (by omega) (by omega)
          have q2 : ¬ nI n = 0 := nI_ne0 (by omega) (by omega)
          have e : now - now / nI n * nI n = nI (d % n) := by rw [hd]; exact pk_rem (by omega) (by omega) (by omega)
          have lt : d % n < n := Nat.mod_lt _ (by omega)
          rw [if_neg q1, if_pos q2, if_neg q2, if_pos q2, e]
          simp (disch := omega) only [lm_60, nI_add, inb_T, tI, nI_clamp, if_pos, reduceIte]
          rw [i3 (d % n) (by omega)]
          by_cases hh : lg_cmp (x.2.2.1 402 w (d % n)) 0 = 0
          · left
            rw [if_pos hh, if_pos hh]
            exact ⟨rfl, rfl⟩
          · right
            rw [if_neg hh, if_neg hh]
            exact ⟨rfl, rfl⟩
      · right
        rw [b1, if_neg b2]
        exact ⟨rfl, rfl⟩
    · right
      rw [o2]
      exact ⟨rfl, rfl⟩
  · right
    rw [a1, a2]
    exact ⟨rfl, rfl⟩
theorem c_yr (hN : m.1 1200 0 = now) (hP : PerAt now B x m w) (hw : w < x.2.2.2 4) (h16 : w < 16) : f_X4_yearOfTerm x w now = some (yrT now (x.1 404 w)) ∧ f_X12_termYear m (nI w) = some (yrT now (x.1 404 w)) := by
  have ein : inb (nI w) 16 = true := by rw [inb_T, tI (by omega)]; omega
  unfold f_X4_yearOfTerm f_X12_termYear yrT
  rw [if_pos hw, if_pos ein, hN, nI_clamp (by omega), hP.2.2.1.1]
  exact ⟨rfl, rfl⟩
end
