theorem rng_t {v : Int32} {a b : Nat} (h : rng v a b) (hb : b < 2147483648) : v = nI v.toInt.toNat ∧ v.toInt.toNat ≤ b := by
  obtain ⟨n, n1, n2, rfl⟩ := rng_nI h hb
  rw [tI (by omega)]
  exact ⟨rfl, n2⟩
section
variable {x m : VM}
theorem r_datX (hI : Inv x m) {p l : Nat} (hp : p < x.2.2.2 5) (hl : l ≤ 400) : rDat (fun i => (x.1 805 (8 * p + i)).toInt.toNat) (fun i t => (x.2.1 806 (8 * p + i) t).toInt.toNat) (fun i t => (x.2.1 807 (8 * p + i) t).toInt.toNat) (fun i t => x.2.1 808 (8 * p + i) t) l (x.2.2.2 (20 + p)) p x := by
  obtain ⟨n1, n2, n3⟩ := n_sce hI hp
  have sT : ∀ i, i < x.2.2.2 (20 + p) → x.1 805 (8 * p + i) = nI (x.1 805 (8 * p + i)).toInt.toNat ∧ (x.1 805 (8 * p + i)).toInt.toNat ≤ 4 := fun i hi => rng_t (a := 0) (b := 4) (hI.sce p i hp hi).2.2.2.2.2.1.2 (by decide)
  have sA : ∀ i t : Nat, i < x.2.2.2 (20 + p) → t < (x.1 805 (8 * p + i)).toInt.toNat → (t : Int) < (x.1 805 (8 * p + i)).toInt := fun i t hi ht => by omega
  refine ⟨n3, hl, hp, rfl, n1, fun i hi => (sT i hi).2, fun i hi => (sT i hi).1, fun i t hi ht => ?_, fun i t hi ht => ?_, fun i t hi ht => rfl, fun i t hi ht => ?_, fun i t hi ht => ?_⟩
  · exact (rng_t (a := 1) (b := 99) ((hI.sce p i hp hi).2.2.2.2.2.2 t (sA i t hi ht)).1.2 (by decide)).1
  · exact (rng_t (a := 0) (b := 99) ((hI.sce p i hp hi).2.2.2.2.2.2 t (sA i t hi ht)).2.1.2 (by decide)).1
  · exact (rng_t (a := 1) (b := 99) ((hI.sce p i hp hi).2.2.2.2.2.2 t (sA i t hi ht)).1.2 (by decide)).2
  · exact (rng_t (a := 0) (b := 99) ((hI.sce p i hp hi).2.2.2.2.2.2 t (sA i t hi ht)).2.1.2 (by decide)).2
theorem r_datM (hI : Inv x m) {p l : Nat} (hp : p < x.2.2.2 5) (p8 : p < 8) (hl : l ≤ 400) : rDaM (fun i => (x.1 805 (8 * p + i)).toInt.toNat) (fun i t => (x.2.1 806 (8 * p + i) t).toInt.toNat) (fun i t => (x.2.1 807 (8 * p + i) t).toInt.toNat) (fun i t => x.2.1 808 (8 * p + i) t) l (x.2.2.2 (20 + p)) p m := by
  have hD := r_datX hI hp hl
  have sA : ∀ i t : Nat, i < x.2.2.2 (20 + p) → t < (x.1 805 (8 * p + i)).toInt.toNat → (t : Int) < (x.1 805 (8 * p + i)).toInt := fun i t hi ht => by omega
  refine ⟨hD.hn, hl, p8, hD.hT, fun i hi => ?_, fun i t hi ht => ?_, fun i t hi ht => ?_, fun i t hi ht => ?_, hD.hL, hD.hW⟩
  · exact ((hI.sce p i hp hi).2.2.2.2.2.1.1).trans (hD.h805 i hi)
  · exact (((hI.sce p i hp hi).2.2.2.2.2.2 t (sA i t hi ht)).1.1).trans (hD.h806 i t hi ht)
  · exact (((hI.sce p i hp hi).2.2.2.2.2.2 t (sA i t hi ht)).2.1.1).trans (hD.h807 i t hi ht)
  · exact ((hI.sce p i hp hi).2.2.2.2.2.2 t (sA i t hi ht)).2.2.1
/-- both reels are written -/
theorem reel_inv (hI : Inv x m) {p n : Nat} (hp : p < x.2.2.2 5) (hn : n ≤ 8) {a b v : Int32} {mf rf f f1 f2 f3 f4 R S : Nat → Int32} (h1 : ∀ s, s < n → S (8 * p + s) = R s) (h2 : ∀ s, n ≤ s → R s = x.2.1 513 p s) (h3 : ∀ j, (j < 8 * p ∨ 8 * p + n ≤ j) → S j = m.2.1 1256 0 j) : Inv (setA (setI (setA (setA (setI (setI x 702 0 a) 703 0 b) 701 0 mf) 700 0 f) 703 0 v) 513 p R) (setA (setA (setA (setA (setA (setA m 1282 0 rf) 1278 0 f1) 1279 0 f2) 1280 0 f3) 1281 0 f4) 1256 0 S) := by
  have h0 : IPi0 (setA (setI (setA (setA (setI (setI x 702 0 a) 703 0 b) 701 0 mf) 700 0 f) 703 0 v) 513 p R) (setA (setA (setA (setA (setA (setA m 1282 0 rf) 1278 0 f1) 1279 0 f2) 1280 0 f3) 1281 0 f4) 1256 0 S) := by
    intro q hq q8
    have hq' : x.2.2.2 5 ≤ q := hq
    obtain ⟨a1, a2, a3, a4, a5, a6, a7, a8, a9, a10, a11⟩ := hI.pi0 q hq q8
    refine ⟨a1, a2, a3, a4, a5, a6, a7, a8, a9, fun s hs => ⟨?_, (a10 s hs).2⟩, a11⟩
    show S (8 * q + s) = -1
    rw [h3 _ (by omega)]; exact (a10 s hs).1
  refine ⟨hI.bas, hI.cnt, hI.now, hI.pur, hI.clr, hI.fau, hI.cod, hI.sha, hI.fee, hI.law, hI.she, hI.per, hI.pe0, (?_), hI.ord, hI.dra, (h0), hI.sce, hI.sc0, hI.hal, hI.ha0, hI.shw, hI.pla, hI.cac, hI.ref⟩
  intro q hq
  obtain ⟨a1, a2, a3, a4, a5, a6, a7, a8, a9, a10, a11⟩ := hI.pic q hq
  refine ⟨a1, a2, a3, a4, a5, a6, a7, a8, a9, fun s hs => ?_, a11⟩
  show S (8 * q + s) = _
  by_cases e : q = p
  · subst e
    rw [sA_s]
    by_cases c : s < n
    · exact h1 s c
    · rw [h2 s (by omega), h3 _ (by omega)]; exact a10 s hs
  · rw [sA_n e, h3 _ (by omega)]; exact a10 s hs
theorem s_reel : S_reel Inv := by
  intro x m p1 p2 hI
  show Sm Inv _ _
  unfold f_X11_reel f_X12_reel
  rcases c_pic hI p1 with ⟨e1, e2⟩ | ⟨p, hp, p8, rfl, e1, e2⟩
  · rw [e1, e2]
    exact Sm.mk rfl (hI.ref1 0)
  rw [e1, e2]
  simp only [Option.elim_some, if_neg n10]
  by_cases c1 : p2 < 0
  · rw [if_pos c1, if_pos c1]
    exact Sm.mk rfl (hI.ref1 5)
  rw [if_neg c1, if_neg c1]
  by_cases c2 : p2 ≤ 400
  · rw [if_pos c2, if_pos c2]
    obtain ⟨l, l1, l2, rfl⟩ := rng_nI (v := p2) (a := 0) (b := 400) ⟨by rw [Int32.lt_iff_toInt_lt] at c1; exact Int.not_lt.mp c1, by rw [Int32.le_iff_toInt_le] at c2; exact c2⟩ (by decide)
    obtain ⟨n1, n2, n3⟩ := n_sce hI hp
    have hD := r_datX hI hp l2
    have hE := r_datM hI hp p8 l2
    rw [if_pos (inb8 p8), nI_clamp (by omega), n2, if_pos (by rw [inb_T, tI (by omega)]; omega), nI_clamp (by omega)]
    obtain ⟨r, mf, y, g1, g2, g3⟩ := r_find hD p8 (fun _ => 0)
    obtain ⟨mo, le, rf, z, k1, k2⟩ := r_refAll hE n2 (fun _ => 0)
    rw [g1, k1]
    have hR := r_rel (T := fun i => (x.1 805 (8 * p + i)).toInt.toNat) (L := fun i t => (x.2.1 806 (8 * p + i) t).toInt.toNat) (W := fun i t => (x.2.1 807 (8 * p + i) t).toInt.toNat) (C := fun i t => x.2.1 808 (8 * p + i) t) (l := l) (x.2.2.2 (20 + p)) 0 (-1) 0 0 (fun _ => 0) (-1, x.2.1 513 p) (-1000, fun s => m.2.1 1256 0 (8 * p + s)) (Or.inl ⟨show (-1000 : Int) ≤ -1 by decide, rfl⟩)
    have h0 := r_none (T := fun i => (x.1 805 (8 * p + i)).toInt.toNat) (L := fun i t => (x.2.1 806 (8 * p + i) t).toInt.toNat) (W := fun i t => (x.2.1 807 (8 * p + i) t).toInt.toNat) (C := fun i t => x.2.1 808 (8 * p + i) t) (l := l) (x.2.2.2 (20 + p)) 0 (-1) 0 0 (fun _ => 0) (-1, x.2.1 513 p)
    generalize rDfs (fun i => (x.1 805 (8 * p + i)).toInt.toNat) (fun i t => (x.2.1 806 (8 * p + i) t).toInt.toNat) (fun i t => (x.2.1 807 (8 * p + i) t).toInt.toNat) (fun i t => x.2.1 808 (8 * p + i) t) l (x.2.2.2 (20 + p)) 0 (-1) 0 0 (fun _ => 0) (-1, x.2.1 513 p) = A at g2 hR h0
    generalize rDfs (fun i => (x.1 805 (8 * p + i)).toInt.toNat) (fun i t => (x.2.1 806 (8 * p + i) t).toInt.toNat) (fun i t => (x.2.1 807 (8 * p + i) t).toInt.toNat) (fun i t => x.2.1 808 (8 * p + i) t) l (x.2.2.2 (20 + p)) 0 (-1) 0 0 (fun _ => 0) (-1000, fun s => m.2.1 1256 0 (8 * p + s)) = B at k2 hR
    obtain ⟨y1, y2, y3, y4, _⟩ := g2
    obtain ⟨z1, z2, z3, z4, z5, z6, z7, z8⟩ := k2
    have hAB : A.1 = B.1 ∧ A.2 = B.2 ∧ 0 ≤ B.1 := by
      rcases hR with ⟨q1, q2⟩ | ⟨q1, q2, q3⟩
      · rw [q2] at h0; exact absurd h0 (by decide)
      · exact ⟨q2, q3, q1⟩
    have hr : r = mo := by
      rw [g3]
      have e1 : (y.1 703 0 + 1000 - 1).toInt = 1000 * mo.toInt - le.toInt + 999 := by
        have e0 : (y.1 703 0 + 1000).toInt = (y.1 703 0).toInt + 1000 := addT (by rw [y2, show (1000 : Int32).toInt = 1000 from rfl]; omega) (by rw [y2, show (1000 : Int32).toInt = 1000 from rfl]; omega)
        rw [subT (by rw [e0, y2, t_1]; omega) (by rw [e0, y2, t_1]; omega), e0, y2, t_1]; omega
      have em : mo = nI mo.toInt.toNat := Int32.toInt_inj.mp (by rw [tI (by omega)]; omega)
      have es : y.1 703 0 + 1000 - 1 = nI (1000 * mo.toInt - le.toInt + 999).toNat := Int32.toInt_inj.mp (by rw [e1, tI (by omega)]; omega)
      rw [es, show (1000 : Int32) = nI 1000 from rfl, pk_div (by omega) (by omega) (by omega)]
      rw [show (1000 * mo.toInt - le.toInt + 999).toNat / 1000 = mo.toInt.toNat by omega]
      exact em.symm
    obtain ⟨f, v, R, rfl⟩ := rlX_ex y1
    obtain ⟨f1, f2, f3, f4, S, rfl⟩ := rlM_ex z1
    rw [rAs] at z2 z3
    rw [rAs] at y3 y4
    exact Sm.mk hr (reel_inv hI hp n3 (fun s hs => by rw [z2 s hs, y3 s hs, hAB.2.1]) y4 z3)
  · rw [if_neg c2, if_neg c2]
    exact Sm.mk rfl (hI.ref1 5)
end
