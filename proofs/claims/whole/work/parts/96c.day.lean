/-! the rest of a day: the invariant without people and the day -/
def InvN (x m : VM) : Prop := IBas x m ∧ ICnt x m ∧ IPur x m ∧ IClr x m ∧ IFau x m ∧ ICod x m ∧ ISha x m ∧ IFee x m ∧ ILaw x m ∧ IShe x m ∧ IPe0 x m ∧ IPic x m ∧ IOrd x m ∧ IDra x m ∧ IPi0 x m ∧ ISce x m ∧ ISc0 x m ∧ IHal x m ∧ IHa0 x m ∧ IShw x m ∧ IPla x m ∧ ICac x m ∧ IRef x m
theorem InvN.bas {x m : VM} (h : InvN x m) : IBas x m := h.1
theorem InvN.cnt {x m : VM} (h : InvN x m) : ICnt x m := h.2.1
theorem InvN.pur {x m : VM} (h : InvN x m) : IPur x m := h.2.2.1
theorem InvN.clr {x m : VM} (h : InvN x m) : IClr x m := h.2.2.2.1
theorem InvN.fau {x m : VM} (h : InvN x m) : IFau x m := h.2.2.2.2.1
theorem InvN.cod {x m : VM} (h : InvN x m) : ICod x m := h.2.2.2.2.2.1
theorem InvN.sha {x m : VM} (h : InvN x m) : ISha x m := h.2.2.2.2.2.2.1
theorem InvN.fee {x m : VM} (h : InvN x m) : IFee x m := h.2.2.2.2.2.2.2.1
theorem InvN.law {x m : VM} (h : InvN x m) : ILaw x m := h.2.2.2.2.2.2.2.2.1
theorem InvN.she {x m : VM} (h : InvN x m) : IShe x m := h.2.2.2.2.2.2.2.2.2.1
theorem InvN.pe0 {x m : VM} (h : InvN x m) : IPe0 x m := h.2.2.2.2.2.2.2.2.2.2.1
theorem InvN.pic {x m : VM} (h : InvN x m) : IPic x m := h.2.2.2.2.2.2.2.2.2.2.2.1
theorem InvN.ord {x m : VM} (h : InvN x m) : IOrd x m := h.2.2.2.2.2.2.2.2.2.2.2.2.1
theorem InvN.dra {x m : VM} (h : InvN x m) : IDra x m := h.2.2.2.2.2.2.2.2.2.2.2.2.2.1
theorem InvN.pi0 {x m : VM} (h : InvN x m) : IPi0 x m := h.2.2.2.2.2.2.2.2.2.2.2.2.2.2.1
theorem InvN.sce {x m : VM} (h : InvN x m) : ISce x m := h.2.2.2.2.2.2.2.2.2.2.2.2.2.2.2.1
theorem InvN.sc0 {x m : VM} (h : InvN x m) : ISc0 x m := h.2.2.2.2.2.2.2.2.2.2.2.2.2.2.2.2.1
theorem InvN.hal {x m : VM} (h : InvN x m) : IHal x m := h.2.2.2.2.2.2.2.2.2.2.2.2.2.2.2.2.2.1
theorem InvN.ha0 {x m : VM} (h : InvN x m) : IHa0 x m := h.2.2.2.2.2.2.2.2.2.2.2.2.2.2.2.2.2.2.1
theorem InvN.shw {x m : VM} (h : InvN x m) : IShw x m := h.2.2.2.2.2.2.2.2.2.2.2.2.2.2.2.2.2.2.2.1
theorem InvN.pla {x m : VM} (h : InvN x m) : IPla x m := h.2.2.2.2.2.2.2.2.2.2.2.2.2.2.2.2.2.2.2.2.1
theorem InvN.cac {x m : VM} (h : InvN x m) : ICac x m := h.2.2.2.2.2.2.2.2.2.2.2.2.2.2.2.2.2.2.2.2.2.1
theorem InvN.ref {x m : VM} (h : InvN x m) : IRef x m := h.2.2.2.2.2.2.2.2.2.2.2.2.2.2.2.2.2.2.2.2.2.2
theorem Inv.toN {x m : VM} (h : Inv x m) : InvN x m := ⟨h.bas, h.cnt, h.pur, h.clr, h.fau, h.cod, h.sha, h.fee, h.law, h.she, h.pe0, h.pic, h.ord, h.dra, h.pi0, h.sce, h.sc0, h.hal, h.ha0, h.shw, h.pla, h.cac, h.ref⟩
theorem InvN.full {x m : VM} (h : InvN x m) (h1 : INow x m) (h2 : IPer x m) : Inv x m := ⟨h.bas, h.cnt, (h1), h.pur, h.clr, h.fau, h.cod, h.sha, h.fee, h.law, h.she, (h2), h.pe0, h.pic, h.ord, h.dra, h.pi0, h.sce, h.sc0, h.hal, h.ha0, h.shw, h.pla, h.cac, h.ref⟩
theorem per_mono {now : Int32} {B B' : Int} {x m : VM} {w : Nat} (h : PerAt now B x m w) (hB : B ≤ B') : PerAt now B' x m w := by
  obtain ⟨a1, a2, a3⟩ := h
  refine ⟨a1, ?_, a3⟩
  rcases a2 with a2 | ⟨b1, b2, b3, b4⟩
  · exact Or.inl a2
  · exact Or.inr ⟨b1, b2, ⟨b3.1, Int.le_trans b3.2 hB⟩, b4⟩
section
variable {x m : VM}
/-- suspended ones' terms are lengthened -/
theorem l_leng (hN : InvN x m) {d : Nat} (hd : d ≤ 4000) (x1 : x.1 1116 0 = nI d) (m1 : m.1 1200 0 = nI d) (hP : ∀ w, w < x.2.2.2 4 → PerAt (nI d) (d + 3276) x m w) (m0 : VM) (v1 : Int32 × VM) : ∃ y z, f_X11_lengthenSuspended x = some y ∧ loopF (Sum.inr none) (b_X12_lives_45 m0 v1) (0, m) = loopF (Sum.inr none) (b_X12_lives_45 m0 v1) (nI (x.2.2.2 4), z) ∧ InvN y z ∧ y.1 1116 0 = nI d ∧ z.1 1200 0 = nI d ∧ y.2.2.2 = x.2.2.2 ∧ ∀ w, w < x.2.2.2 4 → PerAt (nI d) (d + 3277) y z w := by
  obtain ⟨n1, n2⟩ := hN.bas.1.1
  unfold f_X11_lengthenSuspended
  obtain ⟨v, w, ⟨y, z, rfl, rfl, h1, h2, h3, h4, h5, h6⟩, q1, q2⟩ := lp_cnt2t (V := Int32 × VM) (W := Int32 × VM) (d := none) (e := Sum.inr none) (B := b_X11_lengthenSuspended_2 x) (C := b_X12_lives_45 m0 v1) (x.2.2.2 4) (fun k v w => ∃ y z, v = (nI k, y) ∧ w = (nI k, z) ∧ InvN y z ∧ y.1 1116 0 = nI d ∧ z.1 1200 0 = nI d ∧ y.2.2.2 = x.2.2.2 ∧ (∀ w, w < k → PerAt (nI d) (d + 3277) y z w) ∧ ∀ w, k ≤ w → w < x.2.2.2 4 → PerAt (nI d) (d + 3276) y z w) (by
    rintro k v w hk ⟨y, z, rfl, rfl, h1, h2, h3, h4, h5, h6⟩
    have k16 : k < 16 := by omega
    have ky : k < y.2.2.2 4 := by rw [h4]; exact hk
    have c1 : y.1 1113 0 = nI (x.2.2.2 4) := by rw [h1.bas.1.1.1, h4]
    have c2 : z.1 1202 0 = nI (x.2.2.2 4) := by rw [h1.cnt.1, c1]
    have lt : ¬ nI (x.2.2.2 4) ≤ nI k := by rw [Int32.le_iff_toInt_le, tI (by omega), tI (by omega)]; omega
    have ein : inb (nI k) 16 = true := by rw [inb_T, tI (by omega)]; omega
    have hk6 := h6 k (Nat.le_refl _) hk
    have same : ∃ y' z', (nI (k + 1), y) = (nI (k + 1), y') ∧ (nI (k + 1), z) = (nI (k + 1), z') ∧ InvN y' z' ∧ y'.1 1116 0 = nI d ∧ z'.1 1200 0 = nI d ∧ y'.2.2.2 = x.2.2.2 ∧ (∀ w, w < k + 1 → PerAt (nI d) (d + 3277) y' z' w) ∧ ∀ w, k + 1 ≤ w → w < x.2.2.2 4 → PerAt (nI d) (d + 3276) y' z' w := by
      refine ⟨y, z, rfl, rfl, h1, h2, h3, h4, fun w hw => ?_, fun w hw => h6 w (by omega)⟩
      by_cases e : w = k
      · subst e; exact per_mono hk6 (by omega)
      · exact h5 w (by omega)
    unfold b_X11_lengthenSuspended_2 b_X12_lives_45
    simp only [c1, c2, if_neg lt, if_pos ein, nI_clamp (show k < 2 ^ 31 by omega), if_pos ky, hk6.2.2.2.1.1, nI_1, h2, h3]
    rcases hk6.2.2.2.1.2 with e | e
    · simp only [if_pos e]
      exact ⟨_, _, rfl, rfl, same⟩
    · have ne : ¬ y.1 406 k = 0 := by rw [e]; decide
      have hu : undT (z.2.1 1227 0 k) (y.1 404 k) (y.1 405 k) (nI d) := Classical.byContradiction fun q => ne (hk6.2.2.2.2.2.2.2.2.2 q).1
      have ht : ¬ y.1 405 k = -1 := by
        rcases hk6.2.1 with ⟨b1, b2⟩ | ⟨b1, b2, b3, b4⟩
        · have := hu.1; rw [b1] at this; exact absurd this (by decide)
        · intro q; rw [q] at b3; exact absurd b3.1 (by decide)
      simp only [if_neg ne]
      obtain ⟨r, r1, r2⟩ := c_cnt h1.law hk6 ky k16 ht (show 1 < 5 by decide) (nI d)
      have r1' : f_X4_countOf y k 1 (nI d) = some r := r1
      have r2' : f_X12_countsOn z (nI k) 1 (nI d) = some r := r2
      simp only [r1', r2', Option.elim_some]
      by_cases er : r = 1
      · simp only [if_pos er]
        have be : z.2.1 1219 0 k = y.1 405 k := by
          rcases hk6.2.1 with ⟨b1, b2⟩ | ⟨b1, b2, b3, b4⟩
          · exact absurd b2 ht
          · exact b2
        rw [be]
        refine ⟨_, _, rfl, rfl, setI y 405 k (y.1 405 k + 1), setA z 1219 0 (upd (z.2.1 1219 0) k (y.1 405 k + 1)), rfl, rfl, ?_, h2, h3, h4, ?_, ?_⟩
        · exact ⟨h1.bas, h1.cnt, h1.pur, h1.clr, h1.fau, h1.cod, h1.sha, h1.fee, h1.law, h1.she, (pe0_upd h1.pe0 rfl ky rfl (fun w' e F hF => rAw e)), h1.pic, h1.ord, h1.dra, h1.pi0, h1.sce, h1.sc0, h1.hal, h1.ha0, h1.shw, h1.pla, h1.cac, h1.ref⟩
        · intro w hw
          by_cases ew : w = k
          · subst ew
            obtain ⟨a1, a2, a3, a4, a5, a6, a7, a8, a9, a10⟩ := hk6
            rcases a2 with ⟨b1, b2⟩ | ⟨b1, b2, b3, b4⟩
            · exact absurd b2 ht
            · have e1 : (y.1 405 w + 1).toInt = (y.1 405 w).toInt + 1 := addT1 (by omega)
              have y5 : (setI y 405 w (y.1 405 w + 1)).1 405 w = y.1 405 w + 1 := sI_s
              refine ⟨a1, Or.inr ⟨b1, pk_us.trans y5.symm, by rw [y5, e1]; omega, b4⟩, a3, a4, a5, a6, a7, a8, a9, fun q => ?_⟩
              exfalso
              apply q
              rw [y5]
              refine ⟨hu.1, hu.2.1, ?_⟩
              have := hu.2.2
              rw [Int32.lt_iff_toInt_lt] at this ⊢
              rw [e1]; omega
          · exact per_k (h5 w (by omega)) (fun F hF => rIw ew) rfl rfl rfl (fun F hF => rAw ew) (fun k hk => rfl) (fun j hj => rfl)
        · intro w hw hw4
          have ew : w ≠ k := by omega
          exact per_k (h6 w (by omega) hw4) (fun F hF => rIw ew) rfl rfl rfl (fun F hF => rAw ew) (fun k hk => rfl) (fun j hj => rfl)
      · simp only [if_neg er]
        exact ⟨_, _, rfl, rfl, same⟩) 0 (0, x) (0, m) (Nat.zero_le _) ⟨x, m, rfl, rfl, hN, x1, m1, rfl, fun w hw => by omega, fun w _ hw => hP w hw⟩
  refine ⟨y, z, ?_, q2, h1, h2, h3, h4, h5⟩
  rw [q1]
  apply lp_inr
  unfold b_X11_lengthenSuspended_2
  have c1 : y.1 1113 0 = nI (x.2.2.2 4) := by rw [h1.bas.1.1.1, h4]
  rw [c1, if_pos (Int32.le_refl _)]
end
