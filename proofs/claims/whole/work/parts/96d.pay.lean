section
variable {x m : VM}
/-- one is paid, or not -/
theorem pay_one {y z : VM} {d k : Nat} (hd : d ≤ 4000) (h1 : InvN y z) (h2 : y.1 1116 0 = nI d) (h3 : z.1 1200 0 = nI d) (ky : k < y.2.2.2 4) (k16 : k < 16) (hP : ∀ w, w < y.2.2.2 4 → PerAt (nI d) (d + 3277) y z w) (hy : z.2.1 1222 0 k = yrT (nI d) (y.1 404 k)) (hu : undT (z.2.1 1227 0 k) (y.1 404 k) (y.1 405 k) (nI d)) (ht : ¬ y.1 405 k = -1) (m0 : VM) (v1 v3 : Int32 × VM) (v12 : VM) : ∃ y' z', ((f_X4_paidOn y k (nI d)).elim (Sum.inr none) (fun r7 => (f_X4_countOf y k 0 (nI d)).elim (Sum.inr none) (fun r8 => if r8 ≤ r7 then Sum.inl (nI (k + 1), y) else (f_X4_addPaidWeek y k (nI d)).elim (Sum.inr none) (fun r10 => if k < r10.2.2.2 4 then Sum.inl (nI (k + 1), setI r10 1117 0 ((r10.1 1117 0) - (r10.1 400 k))) else Sum.inr none))) : (Int32 × VM) ⊕ Option VM) = Sum.inl (nI (k + 1), y') ∧ j_X12_lives_157 m0 v1 v3 (nI k, v12) z = Sum.inl (nI (k + 1), z') ∧ InvN y' z' ∧ y'.1 1116 0 = nI d ∧ z'.1 1200 0 = nI d ∧ y'.2.2.2 = y.2.2.2 ∧ ∀ w, w < y.2.2.2 4 → PerAt (nI d) (d + 3277) y' z' w := by
  have ein : inb (nI k) 16 = true := by rw [inb_T, tI (by omega)]; omega
  have hk := hP k ky
  obtain ⟨y1, _⟩ := c_yr h3 hk ky k16
  obtain ⟨r, r1, r2⟩ := c_cnt h1.law hk ky k16 ht (show 0 < 5 by decide) (nI d)
  have r1' : f_X4_countOf y k 0 (nI d) = some r := r1
  have r2' : f_X12_countsOn z (nI k) 0 (nI d) = some r := r2
  have pon : f_X4_paidOn y k (nI d) = some (z.2.1 1223 0 k) := by
    unfold f_X4_paidOn
    rw [if_pos ky, y1]
    have := hk.2.2.2.2.2.2.1.1
    unfold effY at this
    rw [if_pos hy] at this
    simp only [Option.elim_some]
    by_cases e : y.1 409 k = yrT (nI d) (y.1 404 k)
    · rw [if_pos e] at this ⊢; rw [this]
    · rw [if_neg e] at this ⊢; rw [this]
  unfold j_X12_lives_157
  simp only [pon, r1', r2', h3, Option.elim_some, if_pos ein, nI_clamp (show k < 2 ^ 31 by omega), nI_1]
  by_cases er : r ≤ z.2.1 1223 0 k
  · rw [if_pos er, if_neg (Int32.not_lt.mpr er)]
    exact ⟨y, z, rfl, rfl, h1, h2, h3, rfl, hP⟩
  · rw [if_neg er, if_pos (Int32.not_le.mp er)]
    have add : f_X4_addPaidWeek y k (nI d) = some (setI (setI (setI y 410 k (z.2.1 1223 0 k + 1)) 409 k (yrT (nI d) (y.1 404 k))) 408 k (y.1 408 k + 1)) := by
      unfold f_X4_addPaidWeek f_X4_yearOfTerm
      rw [if_pos ky, pon]
      simp only [Option.elim_some]
      rw [rI2, if_pos ky]
      rfl
    have ky' : k < (setI (setI (setI y 410 k (z.2.1 1223 0 k + 1)) 409 k (yrT (nI d) (y.1 404 k))) 408 k (y.1 408 k + 1)).2.2.2 4 := ky
    rw [add]
    simp only [Option.elim_some, if_pos ky']
    obtain ⟨a1, a2, a3, a4, a5, a6, a7, a8, a9, a10⟩ := hk
    have hm : ∀ w', w' ≠ k → ∀ F, (1217 ≤ F ∧ F ≤ 1228) ∨ F = 1232 → (setI (setA (setA z 1223 0 (upd (z.2.1 1223 0) k (z.2.1 1223 0 k + 1))) 1221 0 (upd (z.2.1 1221 0) k (z.2.1 1221 0 k + 1))) 1201 0 (z.1 1201 0 - z.2.1 1217 0 k)).2.1 F 0 w' = z.2.1 F 0 w' := by
      intro w' e F hF
      rw [rI2]
      exact (rAw2 e rfl).trans (rAw2 e rfl)
    refine ⟨setI (setI (setI (setI y 410 k (z.2.1 1223 0 k + 1)) 409 k (yrT (nI d) (y.1 404 k))) 408 k (y.1 408 k + 1)) 1117 0 (y.1 1117 0 - y.1 400 k), setI (setA (setA z 1223 0 (upd (z.2.1 1223 0) k (z.2.1 1223 0 k + 1))) 1221 0 (upd (z.2.1 1221 0) k (z.2.1 1221 0 k + 1))) 1201 0 (z.1 1201 0 - z.2.1 1217 0 k), rfl, ?_, ?_, h2, h3, rfl, ?_⟩
    · simp (disch := omega) only [rAn, rA1]
    · refine ⟨h1.bas, h1.cnt, (?_), h1.clr, h1.fau, h1.cod, h1.sha, h1.fee, h1.law, h1.she, (?_), h1.pic, h1.ord, h1.dra, h1.pi0, h1.sce, h1.sc0, h1.hal, h1.ha0, h1.shw, h1.pla, h1.cac, h1.ref⟩
      · show z.1 1201 0 - z.2.1 1217 0 k = y.1 1117 0 - y.1 400 k
        rw [show z.1 1201 0 = y.1 1117 0 from h1.pur, a1.1]
      · exact pe0_upd h1.pe0 rfl ky rfl hm
    · intro w hw
      by_cases e : w = k
      · subst e
        have q9 : (setI (setI (setI (setI y 410 w (z.2.1 1223 0 w + 1)) 409 w (yrT (nI d) (y.1 404 w))) 408 w (y.1 408 w + 1)) 1117 0 (y.1 1117 0 - y.1 400 w)).1 409 w = yrT (nI d) (y.1 404 w) := by simp (disch := omega) only [rIn, rIs]
        have q10 : (setI (setI (setI (setI y 410 w (z.2.1 1223 0 w + 1)) 409 w (yrT (nI d) (y.1 404 w))) 408 w (y.1 408 w + 1)) 1117 0 (y.1 1117 0 - y.1 400 w)).1 410 w = z.2.1 1223 0 w + 1 := by simp (disch := omega) only [rIn, rIs]
        have q8 : (setI (setI (setI (setI y 410 w (z.2.1 1223 0 w + 1)) 409 w (yrT (nI d) (y.1 404 w))) 408 w (y.1 408 w + 1)) 1117 0 (y.1 1117 0 - y.1 400 w)).1 408 w = y.1 408 w + 1 := by simp (disch := omega) only [rIn, rIs]
        refine ⟨a1, a2, a3, a4, a5, ⟨?_, a6.2⟩, ⟨?_, ?_, a7.2.2⟩, a8, a9, a10⟩
        · exact (show upd (z.2.1 1221 0) w (z.2.1 1221 0 w + 1) w = y.1 408 w + 1 by rw [pk_us, a6.1]).trans q8.symm
        · have : effY (yrT (nI d) (y.1 404 w)) (z.2.1 1223 0 w + 1) (yrT (nI d) (y.1 404 w)) = effY (z.2.1 1222 0 w) (upd (z.2.1 1223 0) w (z.2.1 1223 0 w + 1) w) (yrT (nI d) (y.1 404 w)) := by rw [hy, pk_us]
          exact (by rw [q9, q10]; exact this)
        · rw [q9]; exact Int.le_refl _
      · exact per_k (hP w hw) (fun F hF => by
          rw [rIn (show F ≠ 1117 by omega), rIw e, rIw e, rIw e]) rfl rfl rfl (hm w e) (fun k hk => rfl) (fun j hj => rfl)
/-- the week's pay -/
theorem l_pay (hN : InvN x m) {d : Nat} (hd : d ≤ 4000) (x1 : x.1 1116 0 = nI d) (m1 : m.1 1200 0 = nI d) (hP : ∀ w, w < x.2.2.2 4 → PerAt (nI d) (d + 3277) x m w) (m0 : VM) (v1 v3 : Int32 × VM) : ∃ y z, f_X11_payWeek x = some y ∧ loopF (Sum.inr (Sum.inr none)) (b_X12_lives_106 m0 v1 v3) (0, m) = loopF (Sum.inr (Sum.inr none)) (b_X12_lives_106 m0 v1 v3) (nI (x.2.2.2 4), z) ∧ InvN y z ∧ y.1 1116 0 = nI d ∧ z.1 1200 0 = nI d ∧ y.2.2.2 = x.2.2.2 ∧ ∀ w, w < x.2.2.2 4 → PerAt (nI d) (d + 3277) y z w := by
  obtain ⟨n1, n2⟩ := hN.bas.1.1
  unfold f_X11_payWeek
  obtain ⟨v, w, ⟨y, z, rfl, rfl, h1, h2, h3, h4, h5⟩, q1, q2⟩ := lp_cnt2t (V := Int32 × VM) (W := Int32 × VM) (d := none) (e := Sum.inr (Sum.inr none)) (B := b_X11_payWeek_2 x) (C := b_X12_lives_106 m0 v1 v3) (x.2.2.2 4) (fun k v w => ∃ y z, v = (nI k, y) ∧ w = (nI k, z) ∧ InvN y z ∧ y.1 1116 0 = nI d ∧ z.1 1200 0 = nI d ∧ y.2.2.2 = x.2.2.2 ∧ ∀ w, w < x.2.2.2 4 → PerAt (nI d) (d + 3277) y z w) (by
    rintro k v w hk ⟨y, z, rfl, rfl, h1, h2, h3, h4, h5⟩
    have k16 : k < 16 := by omega
    have ky : k < y.2.2.2 4 := by rw [h4]; exact hk
    have c1 : y.1 1113 0 = nI (x.2.2.2 4) := by rw [h1.bas.1.1.1, h4]
    have c2 : z.1 1202 0 = nI (x.2.2.2 4) := by rw [h1.cnt.1, c1]
    have lt : ¬ nI (x.2.2.2 4) ≤ nI k := by rw [Int32.le_iff_toInt_le, tI (by omega), tI (by omega)]; omega
    have ein : inb (nI k) 16 = true := by rw [inb_T, tI (by omega)]; omega
    have hk6 := h5 k hk
    unfold b_X11_payWeek_2 b_X12_lives_106
    simp only [c1, c2, if_neg lt, if_pos ein, nI_clamp (show k < 2 ^ 31 by omega), if_pos ky, nI_1, h2]
    rcases c_wrk h3 hk6 ky k16 with ⟨b1, b2, b3, b4, b5, b6⟩ | ⟨b1, b2⟩
    · obtain ⟨y1, y2⟩ := c_yr h3 hk6 ky k16
      simp only [b1, b2, Option.elim_some, if_neg n10, y2]
      have h5' : ∀ w, w < y.2.2.2 4 → PerAt (nI d) (d + 3277) y z w := fun w hw => h5 w (by rw [h4] at hw; exact hw)
      by_cases hy : z.2.1 1222 0 k = yrT (nI d) (y.1 404 k)
      · rw [if_pos hy]
        obtain ⟨y', z', p1, p2, p3, p4, p5, p6, p7⟩ := pay_one hd h1 h2 h3 ky k16 h5' hy b3 b4 m0 v1 v3 z
        exact ⟨_, _, p1, p2, y', z', rfl, rfl, p3, p4, p5, by rw [p6, h4], fun w hw => p7 w (by rw [h4]; exact hw)⟩
      · rw [if_neg hy]
        have hm : ∀ w', w' ≠ k → ∀ F, (1217 ≤ F ∧ F ≤ 1228) ∨ F = 1232 → (setA (setA z 1222 0 (upd (z.2.1 1222 0) k (yrT (nI d) (y.1 404 k)))) 1223 0 (upd (z.2.1 1223 0) k 0)).2.1 F 0 w' = z.2.1 F 0 w' := by
          intro w' e F hF
          exact (rAw2 e rfl).trans (rAw2 e rfl)
        have hN2 : InvN y (setA (setA z 1222 0 (upd (z.2.1 1222 0) k (yrT (nI d) (y.1 404 k)))) 1223 0 (upd (z.2.1 1223 0) k 0)) := ⟨h1.bas, h1.cnt, h1.pur, h1.clr, h1.fau, h1.cod, h1.sha, h1.fee, h1.law, h1.she, (pe0_upd h1.pe0 rfl ky rfl hm), h1.pic, h1.ord, h1.dra, h1.pi0, h1.sce, h1.sc0, h1.hal, h1.ha0, h1.shw, h1.pla, h1.cac, h1.ref⟩
        have hP2 : ∀ w, w < y.2.2.2 4 → PerAt (nI d) (d + 3277) y (setA (setA z 1222 0 (upd (z.2.1 1222 0) k (yrT (nI d) (y.1 404 k)))) 1223 0 (upd (z.2.1 1223 0) k 0)) w := by
          intro w hw
          by_cases e : w = k
          · subst e
            obtain ⟨a1, a2, a3, a4, a5, a6, a7, a8, a9, a10⟩ := hk6
            refine ⟨a1, a2, a3, a4, a5, a6, ⟨?_, a7.2.1, ?_⟩, a8, a9, a10⟩
            · show effY (y.1 409 w) (y.1 410 w) (yrT (nI d) (y.1 404 w)) = effY (upd (z.2.1 1222 0) w (yrT (nI d) (y.1 404 w)) w) (upd (z.2.1 1223 0) w 0 w) (yrT (nI d) (y.1 404 w))
              rw [pk_us, pk_us, a7.1]
              unfold effY
              rw [if_neg hy, if_pos rfl]
            · show (upd (z.2.1 1222 0) w (yrT (nI d) (y.1 404 w)) w).toInt ≤ _
              rw [pk_us]; exact Int.le_refl _
          · exact per_k (h5' w hw) (fun F hF => rfl) rfl rfl rfl (hm w e) (fun k hk => rfl) (fun j hj => rfl)
        obtain ⟨y', z', p1, p2, p3, p4, p5, p6, p7⟩ := pay_one hd hN2 h2 h3 ky k16 hP2 (by rw [rAn (by decide), rAs]; exact pk_us) b3 b4 m0 v1 v3 z
        exact ⟨_, _, p1, p2, y', z', rfl, rfl, p3, p4, p5, by rw [p6, h4], fun w hw => p7 w (by rw [h4]; exact hw)⟩
    · simp only [b1, b2, Option.elim_some, if_true]
      exact ⟨_, _, rfl, rfl, y, z, rfl, rfl, h1, h2, h3, h4, h5⟩) 0 (0, x) (0, m) (Nat.zero_le _) ⟨x, m, rfl, rfl, hN, x1, m1, rfl, hP⟩
  refine ⟨y, z, ?_, q2, h1, h2, h3, h4, h5⟩
  rw [q1]
  apply lp_inr
  unfold b_X11_payWeek_2
  have c1 : y.1 1113 0 = nI (x.2.2.2 4) := by rw [h1.bas.1.1.1, h4]
  rw [c1, if_pos (Int32.le_refl _)]
end
