/-! best: the reference -/
theorem sk47 : b_X12_seeks_72_47 = b_X12_seeks_72 := rfl
theorem dfN_or {b s : Nat} (h : b.testBit s = false) : dfN (b ||| 2 ^ s) (2 ^ s) = b := by
  apply Nat.eq_of_testBit_eq
  intro j
  rw [dfN_bit, tb_or2, Nat.testBit_two_pow]
  by_cases e : s = j
  · subst e; rw [h]; simp
  · simp [e]
theorem thr_eq {n b s A : Nat} {ca : Nat → Nat} (r : Nat → Bool) (hr : ∀ j, j < n → (r j = true ↔ b.testBit j = false ∧ j ≠ s)) : ca s ||| (A &&& orB ca r n) = ca s ||| (A &&& orB ca (fun j => !b.testBit j) n) := by
  apply Nat.eq_of_testBit_eq
  intro w
  have key : ∀ a b : Bool, (a = true ↔ b = true) → a = b := by decide
  apply key
  rw [Nat.testBit_or, Nat.testBit_or, Nat.testBit_and, Nat.testBit_and, Bool.or_eq_true, Bool.or_eq_true, Bool.and_eq_true, Bool.and_eq_true, orB_bit, orB_bit]
  constructor
  · rintro (h | ⟨h1, j, j1, j2, j3⟩)
    · exact Or.inl h
    · exact Or.inr ⟨h1, j, j1, by rw [((hr j j1).mp j2).1]; rfl, j3⟩
  · rintro (h | ⟨h1, j, j1, j2, j3⟩)
    · exact Or.inl h
    · by_cases e : j = s
      · subst e; exact Or.inl j3
      · refine Or.inr ⟨h1, j, j1, (hr j j1).mpr ⟨?_, e⟩, j3⟩
        simp only [Bool.not_eq_true'] at j2; exact j2
section
variable {x m : VM}
theorem k_step (hI : Inv x m) {i n : Nat} (hi : i < x.2.2.2 5) (h8 : i < 8) (hn : x.2.2.2 (20 + i) = n) {b l s : Nat} {sto : Int32} (hb : b < 2 ^ n) (hs : s < n) (hf : b.testBit s = false) (hst : (b = 0 ∧ sto = -1) ∨ (b ≠ 0 ∧ l < n ∧ sto = m.2.1 1236 0 (8 * i + l))) : f_X12_step m (nI i) (nI s) sto (nI (orB (caX x i) (fun j => b.testBit j) n)) (nI (dfN (dfN (2 ^ n - 1) b) (2 ^ s))) = some (nI (bSt n (fun s => x.1 800 (8 * i + s)) (caX x i) (dyX x i) (dD x) (chX x) b l s)) := by
  subst hn
  obtain ⟨n1, n2, n3⟩ := n_sce hI hi
  obtain ⟨f, f1, f2, f3, f4⟩ := chgN hI
  have ech : chX x = f := f4
  have hw : 2 ^ x.2.2.2 (20 + i) ≤ 256 := Nat.pow_le_pow_right (n := 2) (by decide) n3
  have w0 := Nat.two_pow_pos (x.2.2.2 (20 + i))
  have hr : dfN (dfN (2 ^ x.2.2.2 (20 + i) - 1) b) (2 ^ s) < 2 ^ x.2.2.2 (20 + i) := dfN_lt (dfN_lt (by omega))
  have ez : inb (nI (8 * i + s)) 64 = true := by rw [inb_T, tI (by omega)]; omega
  obtain ⟨c, c1, c2, c3, c4⟩ := dyN hI hi hs
  have edy : dyX x i s = c := by unfold dyX; rw [c3]; exact tn_nI (by omega)
  have hca := caX_ok hI hi hs
  obtain ⟨p, p1, p2, p3⟩ := plN hI hi hs
  have l1 : orB (caX x i) (fun j => b.testBit j) (x.2.2.2 (20 + i)) &&& orB (caX x i) (fun j => !b.testBit j) (x.2.2.2 (20 + i)) < 65536 := Nat.lt_of_le_of_lt Nat.and_le_left (or_all_lt hI hi _)
  have l2 := Nat.or_lt_two_pow (n := 16) hca.2.1 l1
  have et := thr_eq (n := x.2.2.2 (20 + i)) (b := b) (s := s) (A := orB (caX x i) (fun j => b.testBit j) (x.2.2.2 (20 + i))) (ca := caX x i) (fun j => (dfN (dfN (2 ^ x.2.2.2 (20 + i) - 1) b) (2 ^ s)).testBit j) (fun j hj => by
    simp only [dfN_bit, Nat.testBit_two_pow_sub_one, Nat.testBit_two_pow, hj, decide_true, Bool.true_and, Bool.and_eq_true, Bool.not_eq_true', decide_eq_false_iff_not]
    exact ⟨fun q => ⟨q.1, fun e => q.2 e.symm⟩, fun q => ⟨q.1, fun e => q.2 e.symm⟩⟩)
  unfold f_X12_step
  rw [lm_8, nI_add, if_pos ez, l_inS hI hi h8 (by omega), Option.elim_some, if_pos ez, nI_clamp (by omega), hca.2.2.2, nI_and, nI_or, et]
  obtain ⟨r, r1, r2⟩ := l_dp hI (t := caX x i s ||| (orB (caX x i) (fun j => b.testBit j) (x.2.2.2 (20 + i)) &&& orB (caX x i) (fun j => !b.testBit j) (x.2.2.2 (20 + i)))) (by omega)
  rw [r1, Option.elim_some, if_pos ez, r2, c4, pk_mul, p3, f3]
  unfold bSt
  rw [edy, ech]
  rcases hst with ⟨q1, q2⟩ | ⟨q1, q2, q3⟩
  · rw [q2, if_neg (by rw [i32eq, tI (by omega), t_m1]; omega), if_neg (fun q => q.1 q1), nI_add]
  · obtain ⟨u, u1, u2, u3⟩ := plN hI hi q2
    rw [q3, u3]
    have e2 : x.1 800 (8 * i + l) = nI u := u2
    have e1 : x.1 800 (8 * i + s) = nI p := p2
    by_cases e : nI p = nI u
    · rw [if_pos e, if_pos ⟨q1, by show x.1 800 (8 * i + l) = x.1 800 (8 * i + s); rw [e1, e2, e]⟩]
      exact congrArg some (nI_add _ 0)
    · rw [if_neg e, if_neg (fun q => e (by have := q.2; rw [← e1, ← e2]; exact this.symm)), nI_add]
end
def skM (m z : VM) : Prop := z.1 = m.1 ∧ (∀ F i, F ≠ 1271 → F ≠ 1272 → F ≠ 1273 → F ≠ 1274 → z.2.1 F i = m.2.1 F i) ∧ z.2.2 = m.2.2 ∧ ∀ F i, i ≠ 0 → z.2.1 F i = m.2.1 F i
theorem skM.put {m z : VM} (h : skM m z) {G : Nat} (hG : G = 1271 ∨ G = 1272 ∨ G = 1273 ∨ G = 1274) (f : Nat → Int32) : skM m (setA z G 0 f) := by
  obtain ⟨a1, a2, a3, a4⟩ := h
  refine ⟨a1, fun F i q1 q2 q3 q4 => ?_, a3, fun F i hi => ?_⟩
  · rw [rAn (by omega)]; exact a2 F i q1 q2 q3 q4
  · by_cases e : F = G
    · subst e; rw [sA_n hi]; exact a4 _ i hi
    · rw [rAn e]; exact a4 F i hi
theorem skM_ex {m z : VM} (h : skM m z) : ∃ f1 f2 f3 f4, z = setA (setA (setA (setA m 1271 0 f1) 1272 0 f2) 1273 0 f3) 1274 0 f4 := by
  obtain ⟨a1, a2, a3, a4⟩ := h
  refine ⟨z.2.1 1271 0, z.2.1 1272 0, z.2.1 1273 0, z.2.1 1274 0, Prod.ext a1 (Prod.ext ?_ a3)⟩
  funext F i
  show z.2.1 F i = if F = 1274 ∧ i = 0 then z.2.1 1274 0 else if F = 1273 ∧ i = 0 then z.2.1 1273 0 else if F = 1272 ∧ i = 0 then z.2.1 1272 0 else if F = 1271 ∧ i = 0 then z.2.1 1271 0 else m.2.1 F i
  by_cases e0 : i = 0
  · subst e0
    by_cases e1 : F = 1274
    · subst e1; rw [if_pos ⟨rfl, rfl⟩]
    · rw [if_neg (fun q => e1 q.1)]
      by_cases e2 : F = 1273
      · subst e2; rw [if_pos ⟨rfl, rfl⟩]
      · rw [if_neg (fun q => e2 q.1)]
        by_cases e3 : F = 1272
        · subst e3; rw [if_pos ⟨rfl, rfl⟩]
        · rw [if_neg (fun q => e3 q.1)]
          by_cases e4 : F = 1271
          · subst e4; rw [if_pos ⟨rfl, rfl⟩]
          · rw [if_neg (fun q => e4 q.1)]; exact a2 F 0 e4 e3 e2 e1
  · rw [if_neg (fun q => e0 q.2), if_neg (fun q => e0 q.2), if_neg (fun q => e0 q.2), if_neg (fun q => e0 q.2)]; exact a4 F i e0
theorem sk_step {m z : VM} (h : skM m z) (a b c d e : Int32) : f_X12_step z a b c d e = f_X12_step m a b c d e := by
  obtain ⟨f1, f2, f3, f4, rfl⟩ := skM_ex h
  rfl
/-- what the reference's search rests on -/
def kDat (n : Nat) (pl : Nat → Int32) (ca dy D : Nat → Nat) (chg i : Nat) (m : VM) : Prop := (n ≤ 8 ∧ i < 8 ∧ m.2.1 1235 0 i = nI n ∧ (∀ s, s < n → dy s ≤ 4) ∧ chg ≤ 999 ∧ ∀ t, D t ≤ 3300) ∧ (∀ s, s < n → m.2.1 1237 0 (8 * i + s) = nI (ca s)) ∧ ∀ (b l s : Nat) (sto : Int32), b < 2 ^ n → s < n → b.testBit s = false → ((b = 0 ∧ sto = -1) ∨ (b ≠ 0 ∧ l < n ∧ sto = m.2.1 1236 0 (8 * i + l))) → ∀ z, skM m z → f_X12_step z (nI i) (nI s) sto (nI (orB ca (fun j => b.testBit j) n)) (nI (dfN (dfN (2 ^ n - 1) b) (2 ^ s))) = some (nI (bSt n pl ca dy D chg b l s))
def kOkR (n : Nat) (m z : VM) (le : Int32) (B : Nat × (Nat → Nat)) : Prop := skM m z ∧ ((le = -1 ∧ B.1 = 1000000000) ∨ (le = nI B.1 ∧ B.1 ≤ 200000 ∧ ∀ j, j < n → z.2.1 1272 0 j = nI (B.2 j)))
def kPth (n : Nat) (z : VM) (i : Nat) (tr : Nat → Nat) (b l : Nat) : Prop := (∀ s, s < i → z.2.1 1271 0 s = nI (tr s) ∧ tr s < n) ∧ b < 2 ^ n ∧ (i = 0 → b = 0) ∧ (0 < i → l = tr (i - 1) ∧ b.testBit l = true)
def kKep (z z' : VM) (i : Nat) : Prop := (∀ s, s < i → z'.2.1 1271 0 s = z.2.1 1271 0 s) ∧ ∀ s, s ≤ i → z'.2.1 1273 0 s = z.2.1 1273 0 s ∧ z'.2.1 1274 0 s = z.2.1 1274 0 s
theorem kKep.trans {a b c : VM} {i : Nat} (h1 : kKep a b i) (h2 : kKep b c i) : kKep a c i := ⟨fun s hs => (h2.1 s hs).trans (h1.1 s hs), fun s hs => ⟨(h2.2 s hs).1.trans (h1.2 s hs).1, (h2.2 s hs).2.trans (h1.2 s hs).2⟩⟩
theorem kOkR.put {n : Nat} {m z : VM} {le : Int32} {B : Nat × (Nat → Nat)} (h : kOkR n m z le B) {G : Nat} (hG : G = 1271 ∨ G = 1273 ∨ G = 1274) (f : Nat → Int32) : kOkR n m (setA z G 0 f) le B := by
  obtain ⟨h1, h2⟩ := h
  refine ⟨h1.put (by omega) f, ?_⟩
  rcases h2 with h2 | ⟨h2, h3, h4⟩
  · exact Or.inl h2
  · exact Or.inr ⟨h2, h3, fun j hj => by rw [rAn (by omega)]; exact h4 j hj⟩
theorem kOkR.lt {n : Nat} {m z : VM} {le : Int32} {B : Nat × (Nat → Nat)} (h : kOkR n m z le B) {c : Nat} (hc : c ≤ 200000) : (c < B.1 ∧ (le = -1 ∨ (¬ le = -1 ∧ ¬ le ≤ nI c))) ∨ (¬ c < B.1 ∧ ¬ le = -1 ∧ le ≤ nI c) := by
  rcases h.2 with ⟨h2, h3⟩ | ⟨h2, h3, h4⟩
  · exact Or.inl ⟨by omega, Or.inl h2⟩
  · have n1 : ¬ le = -1 := by rw [h2, i32eq, tI (by omega), t_m1]; omega
    by_cases q : c < B.1
    · exact Or.inl ⟨q, Or.inr ⟨n1, by rw [h2, Int32.le_iff_toInt_le, tI (by omega), tI (by omega)]; omega⟩⟩
    · exact Or.inr ⟨q, n1, by rw [h2, Int32.le_iff_toInt_le, tI (by omega), tI (by omega)]; omega⟩
def kZ (z : VM) (i : Nat) (a : Int32) : VM := setA z 1273 0 (upd (z.2.1 1273 0) (i + 1) a)
theorem kZ_kep {z : VM} {i : Nat} (a : Int32) : kKep z (kZ z i a) i := by
  unfold kZ
  exact ⟨fun s hs => by rw [rAn (by decide)], fun s hs => ⟨by rw [rAs, u_n (by omega)], by rw [rAn (by decide)]⟩⟩
section
variable {n : Nat} {pl : Nat → Int32} {ca dy D : Nat → Nat} {chg p : Nat} {m : VM}
/-- a scene is looked at -/
theorem k_gate (hD : kDat n pl ca dy D chg p m) (u : Int32) (zo : VM) {z : VM} {le : Int32} {B : Nat × (Nat → Nat)} {b l c i s : Nat} {tr : Nat → Nat} (hz : kOkR n m z le B) (hP : kPth n z i tr b l) (c1 : z.2.1 1273 0 i = nI c) (c2 : z.2.1 1274 0 i = nI (orB ca (fun j => b.testBit j) n)) (hi : i < n) (hs : s < n) (hc : c ≤ 14200 * i) (hf : b.testBit s = false) : (c + bSt n pl ca dy D chg b l s < B.1 ∧ b_X12_seeks_145 m (nI p) (le, u, nI i, zo) (nI b) (nI s, 0, z) = Sum.inl (nI s, 1, kZ z i (nI (c + bSt n pl ca dy D chg b l s)))) ∨ (¬ c + bSt n pl ca dy D chg b l s < B.1 ∧ b_X12_seeks_145 m (nI p) (le, u, nI i, zo) (nI b) (nI s, 0, z) = Sum.inl (nI (s + 1), 0, kZ z i (nI (c + bSt n pl ca dy D chg b l s)))) := by
  obtain ⟨⟨n8, p8, h35, hdy, hch, hDl⟩, h37, hstep⟩ := hD
  have hw : 2 ^ n ≤ 256 := Nat.pow_le_pow_right (n := 2) (by decide) n8
  have bs := bSt_le (K := 0) (n := n) (pl := pl) (ca := ca) hDl hdy hch (b := b) (l := l) hs
  have b2 := hP.2.1
  have e9 : inb (nI i) 9 = true := by rw [inb_T, tI (by omega)]; omega
  have e9' : inb (nI (i + 1)) 9 = true := by rw [inb_T, tI (by omega)]; omega
  have lt : ¬ nI n ≤ nI s := by rw [Int32.le_iff_toInt_le, tI (by omega), tI (by omega)]; omega
  have key : ∀ sto, ((b = 0 ∧ sto = -1) ∨ (b ≠ 0 ∧ l < n ∧ sto = m.2.1 1236 0 (8 * p + l))) → (c + bSt n pl ca dy D chg b l s < B.1 ∧ j_X12_seeks_213 m (nI p) (le, u, nI i, zo) (nI s, 0, z) (nI b) sto = Sum.inl (nI s, 1, kZ z i (nI (c + bSt n pl ca dy D chg b l s)))) ∨ (¬ c + bSt n pl ca dy D chg b l s < B.1 ∧ j_X12_seeks_213 m (nI p) (le, u, nI i, zo) (nI s, 0, z) (nI b) sto = Sum.inl (nI (s + 1), 0, kZ z i (nI (c + bSt n pl ca dy D chg b l s)))) := by
    intro sto hsto
    unfold j_X12_seeks_213
    simp only [if_pos e9, nI_clamp (show i < 2 ^ 31 by omega), nI_clamp (show p < 2 ^ 31 by omega), c1, c2, h35]
    rw [allB n8, nI_df, shl1 s (by omega), nI_df, hstep b l s sto b2 hs hf hsto z hz.1, Option.elim_some]
    simp only [nI_add, nI_1, if_pos e9', nI_clamp (show i + 1 < 2 ^ 31 by omega), if_neg n10, if_true]
    have h73 : (setA z 1273 0 (upd (z.2.1 1273 0) (i + 1) (nI (c + bSt n pl ca dy D chg b l s)))).2.1 1273 0 (i + 1) = nI (c + bSt n pl ca dy D chg b l s) := by rw [rAs, pk_us]
    rw [h73]
    rcases hz.lt (c := c + bSt n pl ca dy D chg b l s) (by omega) with ⟨q1, q2 | ⟨q2, q3⟩⟩ | ⟨q1, q2, q3⟩
    · left; rw [if_pos q2]; exact ⟨q1, rfl⟩
    · left; rw [if_neg q2, if_neg q3]; exact ⟨q1, rfl⟩
    · right; rw [if_neg q2, if_pos q3]; exact ⟨q1, rfl⟩
  unfold b_X12_seeks_145
  simp only [nI_clamp (show p < 2 ^ 31 by omega), h35, if_neg lt, if_true, bt_0 (show b < 2147483648 by omega) (show s < 32 by omega), if_pos hf]
  by_cases q : i = 0
  · rw [if_pos (by rw [q]; rfl)]
    exact key _ (Or.inl ⟨hP.2.2.1 q, rfl⟩)
  · obtain ⟨l1, l2⟩ := hP.2.2.2 (by omega)
    obtain ⟨t1, t2⟩ := hP.1 (i - 1) (by omega)
    have ep : nI i - 1 = nI (i - 1) := by
      obtain ⟨k, rfl⟩ : ∃ k, i = k + 1 := ⟨i - 1, by omega⟩
      rw [nI_pred, Nat.add_sub_cancel]
    have hb0 : b ≠ 0 := fun e => by rw [e, Nat.zero_testBit] at l2; cases l2
    rw [if_neg (by rw [i32eq, tI (by omega), t_0]; omega), ep, if_pos (inb8 (by omega)), nI_clamp (show i - 1 < 2 ^ 31 by omega), t1, ← l1, lm_8, nI_add, if_pos (by rw [inb_T, tI (by omega)]; omega), nI_clamp (by omega), hz.1.2.1 1236 0 (by decide) (by decide) (by decide) (by decide)]
    exact key _ (Or.inr ⟨hb0, by omega, rfl⟩)
theorem k_skip (hD : kDat n pl ca dy D chg p m) (u : Int32) (zo : VM) {z : VM} {le : Int32} {b i s : Nat} (hb : b < 2 ^ n) (hs : s < n) (hf : b.testBit s = true) : b_X12_seeks_145 m (nI p) (le, u, nI i, zo) (nI b) (nI s, 0, z) = Sum.inl (nI (s + 1), 0, z) := by
  obtain ⟨⟨n8, p8, h35, hdy, hch, hDl⟩, h37, hstep⟩ := hD
  have hw : 2 ^ n ≤ 256 := Nat.pow_le_pow_right (n := 2) (by decide) n8
  have lt : ¬ nI n ≤ nI s := by rw [Int32.le_iff_toInt_le, tI (by omega), tI (by omega)]; omega
  unfold b_X12_seeks_145
  simp only [nI_clamp (show p < 2 ^ 31 by omega), h35, if_neg lt, if_true, bt_0 (show b < 2147483648 by omega) (show s < 32 by omega), if_neg (show ¬ b.testBit s = false by rw [hf]; decide), nI_1]
theorem k_past (hD : kDat n pl ca dy D chg p m) (u a6 : Int32) (zo : VM) {z : VM} {le : Int32} {i : Nat} (hi : i < n) : b_X12_seeks_145 m (nI p) (le, u, nI i, zo) a6 (nI n, 0, z) = Sum.inr (Sum.inl (le, a6, nI i + (-1), setA z 1271 0 (upd (z.2.1 1271 0) i (-1)))) := by
  obtain ⟨⟨n8, p8, h35, hdy, hch, hDl⟩, h37, hstep⟩ := hD
  unfold b_X12_seeks_145 j_X12_seeks_286
  simp only [nI_clamp (show p < 2 ^ 31 by omega), h35, if_pos (Int32.le_refl (nI n)), if_true, if_pos (inb8 (show i < 8 by omega)), nI_clamp (show i < 2 ^ 31 by omega)]
/-- going down with a scene -/
theorem k_gone (hD : kDat n pl ca dy D chg p m) (u : Int32) (zo : VM) {z : VM} {le : Int32} {b i s : Nat} (hz : skM m z) (c2 : z.2.1 1274 0 i = nI (orB ca (fun j => b.testBit j) n)) (hi : i < n) (hs : s < n) : ∃ Z, b_X12_seeks_145 m (nI p) (le, u, nI i, zo) (nI b) (nI s, 1, z) = Sum.inr (Sum.inl (le, nI (b ||| 2 ^ s), nI (i + 1), Z)) ∧ (∀ B, kOkR n m z le B → kOkR n m Z le B) ∧ (∀ j, j < i → Z.2.1 1271 0 j = z.2.1 1271 0 j) ∧ Z.2.1 1271 0 i = nI s ∧ (i + 1 < n → Z.2.1 1271 0 (i + 1) = -1) ∧ (∀ j, Z.2.1 1273 0 j = z.2.1 1273 0 j) ∧ (∀ j, j ≤ i → Z.2.1 1274 0 j = z.2.1 1274 0 j) ∧ Z.2.1 1274 0 (i + 1) = nI (orB ca (fun j => b.testBit j) n ||| ca s) := by
  obtain ⟨⟨n8, p8, h35, hdy, hch, hDl⟩, h37, hstep⟩ := hD
  have lt : ¬ nI n ≤ nI s := by rw [Int32.le_iff_toInt_le, tI (by omega), tI (by omega)]; omega
  have e9 : inb (nI i) 9 = true := by rw [inb_T, tI (by omega)]; omega
  have e9' : inb (nI (i + 1)) 9 = true := by rw [inb_T, tI (by omega)]; omega
  have e64 : inb (nI (8 * p + s)) 64 = true := by rw [inb_T, tI (by omega)]; omega
  have z37 : z.2.1 1237 0 (8 * p + s) = nI (ca s) := by rw [hz.2.1 1237 0 (by decide) (by decide) (by decide) (by decide)]; exact h37 s hs
  unfold b_X12_seeks_145 j_X12_seeks_286
  simp only [nI_clamp (show p < 2 ^ 31 by omega), h35, if_neg lt, if_neg n10, if_pos (inb8 (show i < 8 by omega)), if_pos e9, lm_8, nI_add, if_pos e64, nI_1, if_pos e9', nI_clamp (show i < 2 ^ 31 by omega), nI_clamp (show i + 1 < 2 ^ 31 by omega), nI_clamp (show 8 * p + s < 2 ^ 31 by omega), shl1 s (by omega), nI_or]
  have r1 : ∀ f, (setA z 1271 0 f).2.1 1274 0 i = nI (orB ca (fun j => b.testBit j) n) := fun f => by rw [rAn (by decide)]; exact c2
  have r2 : ∀ f, (setA z 1271 0 f).2.1 1237 0 (8 * p + s) = nI (ca s) := fun f => by rw [rAn (by decide)]; exact z37
  have r3 : ∀ f, (setA z 1271 0 f).2.1 1274 0 = z.2.1 1274 0 := fun f => by rw [rAn (by decide)]
  rw [r1, r2, nI_or, r3]
  by_cases q : i + 1 = n
  · rw [if_pos (by rw [q]; exact Int32.le_refl _)]
    refine ⟨_, rfl, fun B hB => (hB.put (by omega) _).put (by omega) _, fun j hj => ?_, ?_, fun h => by omega, fun j => ?_, fun j hj => ?_, ?_⟩
    · rw [rAn (by decide), rAs, u_n (by omega)]
    · rw [rAn (by decide), rAs, pk_us]
    · rw [rAn (by decide), rAn (by decide)]
    · rw [rAs, u_n (by omega)]
    · rw [rAs, pk_us]
  · rw [if_neg (by rw [Int32.le_iff_toInt_le, tI (by omega), tI (by omega)]; omega), if_pos (inb8 (by omega))]
    refine ⟨_, rfl, fun B hB => ((hB.put (by omega) _).put (by omega) _).put (by omega) _, fun j hj => ?_, ?_, fun _ => ?_, fun j => ?_, fun j hj => ?_, ?_⟩
    · rw [rAs, u_n (by omega), rAn (by decide), rAs, u_n (by omega)]
    · rw [rAs, u_n (by omega), rAn (by decide), rAs, pk_us]
    · rw [rAs, pk_us]
    · rw [rAn (by decide), rAn (by decide), rAn (by decide)]
    · rw [rAn (by decide), rAs, u_n (by omega)]
    · rw [rAn (by decide), rAs, pk_us]
end
