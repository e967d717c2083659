/-! refuse, who -/
/-- the reference's refusals of this year, brought to it -/
theorem ref_norm {x m : VM} {w : Nat} (hI : Inv x m) (w1 : w < x.2.2.2 4) (hne : ¬ m.2.1 1224 0 w = yrT (x.1 1116 0) (x.1 404 w)) : Inv x (setA (setA m 1224 0 (upd (m.2.1 1224 0) w (yrT (x.1 1116 0) (x.1 404 w)))) 1225 0 (upd (m.2.1 1225 0) w 0)) := by
  refine ⟨hI.bas, hI.cnt, hI.now, hI.pur, hI.clr, hI.fau, hI.cod, hI.sha, hI.fee, hI.law, hI.she, (?_), (?_), hI.pic, hI.ord, hI.dra, hI.pi0, hI.sce, hI.sc0, hI.hal, hI.ha0, hI.shw, hI.pla, hI.cac, hI.ref⟩
  · refine per_upd (w := w) hI.per rfl rfl ?_ (fun w' e F hF => rfl) (fun w' e => rfl) (fun w' e => rfl) rfl (fun w' e F hF => ?_) (fun _ _ _ _ => rfl) (fun _ _ _ _ => rfl)
    · obtain ⟨a1, a2, a3, a4, a5, a6, a7, a8, a9, a10⟩ := hI.per w w1
      refine ⟨a1, a2, a3, a4, a5, a6, a7, ⟨?_, a8.2.1, ?_⟩, a9, a10⟩
      · show effY (x.1 411 w) (x.1 412 w) (yrT (x.1 1116 0) (x.1 404 w)) = effY (upd (m.2.1 1224 0) w (yrT (x.1 1116 0) (x.1 404 w)) w) (upd (m.2.1 1225 0) w 0 w) (yrT (x.1 1116 0) (x.1 404 w))
        rw [pk_us, pk_us, a8.1]
        unfold effY
        rw [if_neg hne, if_pos rfl]
      · show (upd (m.2.1 1224 0) w (yrT (x.1 1116 0) (x.1 404 w)) w).toInt ≤ _
        rw [pk_us]
        exact Int.le_refl _
    · by_cases e5 : F = 1225
      · subst e5; rw [rAs]; exact u_n e
      · rw [rAn e5]; exact rAw e
  · refine pe0_upd hI.pe0 rfl w1 rfl (fun w' e F hF => ?_)
    by_cases e5 : F = 1225
    · subst e5; rw [rAs]; exact u_n e
    · rw [rAn e5]; exact rAw e
theorem ref_main {x m : VM} {w : Nat} (hI : Inv x m) (w1 : w < x.2.2.2 4) (w2 : w < 16) (hy : m.2.1 1224 0 w = yrT (x.1 1116 0) (x.1 404 w)) (b3 : undT (m.2.1 1227 0 w) (x.1 404 w) (x.1 405 w) (x.1 1116 0)) (b4 : ¬ x.1 405 w = -1) (b6 : x.1 407 w = -1) : Sm Inv ((f_X4_refusalsOn x w (x.1 1116 0)).elim none (fun r9 => (f_X4_countOf x w 2 (x.1 1116 0)).elim none (fun r10 => if r10 ≤ r9 then some (0, setI x 406 w 1) else (f_X4_addRefusal x w (x.1 1116 0)).elim none (fun r12 => some (1, r12))))) (j_X12_refuse_61 m (nI w) m) := by
  have ein : inb (nI w) 16 = true := by rw [inb_T, tI (by omega)]; omega
  have hN := hI.now.1
  have hP := hI.per w w1
  obtain ⟨y1, y2⟩ := c_yr hN hP w1 w2
  obtain ⟨r, r1, r2⟩ := c_cnt hI.law hP w1 w2 b4 (show 2 < 5 by decide) (x.1 1116 0)
  have r1' : f_X4_countOf x w 2 (x.1 1116 0) = some r := r1
  have r2' : f_X12_countsOn m (nI w) 2 (x.1 1116 0) = some r := r2
  have ron : f_X4_refusalsOn x w (x.1 1116 0) = some (m.2.1 1225 0 w) := by
    unfold f_X4_refusalsOn
    rw [if_pos w1, y1]
    have := hP.2.2.2.2.2.2.2.1.1
    unfold effY at this
    rw [if_pos hy] at this
    simp only [Option.elim_some]
    by_cases e : x.1 411 w = yrT (x.1 1116 0) (x.1 404 w)
    · rw [if_pos e] at this ⊢; rw [this]
    · rw [if_neg e] at this ⊢; rw [this]
  unfold j_X12_refuse_61
  rw [hN, ron, r1', r2', nI_clamp (by omega)]
  simp only [Option.elim_some, if_pos ein]
  by_cases hr : r ≤ m.2.1 1225 0 w
  · rw [if_pos hr, if_pos hr]
    refine Sm.mk rfl ⟨hI.bas, hI.cnt, hI.now, hI.pur, hI.clr, hI.fau, hI.cod, hI.sha, hI.fee, hI.law, hI.she, (?_), (?_), hI.pic, hI.ord, hI.dra, hI.pi0, hI.sce, hI.sc0, hI.hal, hI.ha0, hI.shw, hI.pla, hI.cac, hI.ref⟩
    · refine per_upd (w := w) hI.per rfl rfl ?_ (fun w' e F hF => rIw e) (fun w' e => rfl) (fun w' e => rfl) rfl (fun w' e F hF => rAw e) (fun _ _ _ _ => rfl) (fun _ _ _ _ => rfl)
      obtain ⟨a1, a2, a3, a4, a5, a6, a7, a8, a9, a10⟩ := hP
      exact ⟨a1, a2, a3, ⟨pk_us.trans sI_s.symm, Or.inr sI_s⟩, a5, a6, a7, a8, a9, fun q => absurd b3 q⟩
    · exact pe0_upd hI.pe0 rfl w1 rfl (fun w' e F hF => rAw e)
  · rw [if_neg hr, if_neg hr]
    have add : f_X4_addRefusal x w (x.1 1116 0) = some (setI (setI x 412 w (m.2.1 1225 0 w + 1)) 411 w (yrT (x.1 1116 0) (x.1 404 w))) := by
      unfold f_X4_addRefusal f_X4_yearOfTerm
      rw [if_pos w1, ron]
      simp only [Option.elim_some]
      rw [rI2, if_pos w1]
      rfl
    rw [add]
    refine Sm.mk rfl ⟨hI.bas, hI.cnt, hI.now, hI.pur, hI.clr, hI.fau, hI.cod, hI.sha, hI.fee, hI.law, hI.she, (?_), (?_), hI.pic, hI.ord, hI.dra, hI.pi0, hI.sce, hI.sc0, hI.hal, hI.ha0, hI.shw, hI.pla, hI.cac, hI.ref⟩
    · refine per_upd (w := w) hI.per rfl rfl ?_ (fun w' e F hF => (rIw e).trans (rIw e)) (fun w' e => rfl) (fun w' e => rfl) rfl (fun w' e F hF => rAw e) (fun _ _ _ _ => rfl) (fun _ _ _ _ => rfl)
      obtain ⟨a1, a2, a3, a4, a5, a6, a7, a8, a9, a10⟩ := hP
      refine ⟨a1, a2, a3, a4, a5, a6, a7, ⟨?_, ?_, a8.2.2⟩, a9, a10⟩
      · have q1 : (setI (setI x 412 w (m.2.1 1225 0 w + 1)) 411 w (yrT (x.1 1116 0) (x.1 404 w))).1 411 w = yrT (x.1 1116 0) (x.1 404 w) := sI_s
        have q2 : (setI (setI x 412 w (m.2.1 1225 0 w + 1)) 411 w (yrT (x.1 1116 0) (x.1 404 w))).1 412 w = m.2.1 1225 0 w + 1 := (rIn (by decide)).trans sI_s
        rw [q1, q2]
        show effY _ _ (yrT (x.1 1116 0) (x.1 404 w)) = effY (m.2.1 1224 0 w) (upd (m.2.1 1225 0) w (m.2.1 1225 0 w + 1) w) (yrT (x.1 1116 0) (x.1 404 w))
        rw [hy, pk_us]
      · have q1 : (setI (setI x 412 w (m.2.1 1225 0 w + 1)) 411 w (yrT (x.1 1116 0) (x.1 404 w))).1 411 w = yrT (x.1 1116 0) (x.1 404 w) := sI_s
        rw [q1]
        exact Int.le_refl _
    · exact pe0_upd hI.pe0 rfl w1 rfl (fun w' e F hF => rAw e)
theorem s_refuse : S_refuse Inv := by
  intro x m p hI
  show Sm Inv _ _
  unfold f_X11_refuse f_X12_refuse
  rcases c_per hI p with ⟨e1, e2⟩ | ⟨w, w1, w2, rfl, e1, e2⟩
  · rw [e1, e2]; exact Sm.mk rfl (hI.ref1 0)
  · have ein : inb (nI w) 16 = true := by rw [inb_T, tI (by omega)]; omega
    rw [e1, e2]
    have hN := hI.now.1
    have hP := hI.per w w1
    simp only [Option.elim_some]
    rcases c_wrk hN hP w1 w2 with ⟨b1, b2, b3, b4, b5, b6⟩ | ⟨b1, b2⟩
    · obtain ⟨y1, y2⟩ := c_yr hN hP w1 w2
      rw [if_pos w1, b1, b2, if_neg n10]
      simp only [Option.elim_some]
      rw [if_neg n10, if_neg n10, if_pos ein, y2, nI_clamp (by omega)]
      simp only [Option.elim_some]
      by_cases hy : m.2.1 1224 0 w = yrT (x.1 1116 0) (x.1 404 w)
      · rw [if_pos hy]
        exact ref_main hI w1 w2 hy b3 b4 b6
      · simp only [if_neg hy, if_pos ein]
        have hJ := ref_norm hI w1 hy
        have := ref_main hJ w1 w2 (by rw [rAn (by decide), rAs]; exact pk_us) b3 b4 b6
        exact this
    · rw [if_pos w1, b1, b2, if_neg n10]
      exact Sm.mk rfl (hI.ref1 5)
theorem s_who : S_who Inv := by
  intro x m p q hI
  unfold f_X11_who f_X12_who
  rcases c_per hI p with ⟨e1, e2⟩ | ⟨w, w1, w2, rfl, e1, e2⟩
  · rw [e1, e2]; exact ⟨_, rfl, rfl, hI⟩
  · have ein : inb (nI w) 16 = true := by rw [inb_T, tI (by omega)]; omega
    rw [e1, e2]
    have hN := hI.now.1
    have hP := hI.per w w1
    obtain ⟨d, d1, d2, d3⟩ := rng_nI (a := 0) (b := 4000) hI.now.2 (by decide)
    simp only [Option.elim_some]
    rw [if_neg n10, nI_clamp (by omega), hN]
    simp only [if_pos w1, if_pos ein]
    by_cases h0 : q = 0
    · rw [if_pos h0, if_pos h0]; exact ⟨_, rfl, by rw [hP.1.1], hI⟩
    · rw [if_neg h0, if_neg h0]
      by_cases h1 : q = 1
      · rw [if_pos h1, if_pos h1]
        rcases hP.2.1 with ⟨a1, a2⟩ | ⟨a1, a2, a3⟩
        · rw [a1, a2]; exact ⟨_, rfl, rfl, hI⟩
        · rw [a1, a2]; exact ⟨_, rfl, rfl, hI⟩
      · rw [if_neg h1, if_neg h1]
        by_cases h2 : q = 2
        · rw [if_pos h2, if_pos h2]
          rcases c_und hP w1 w2 (x.1 1116 0) with ⟨a1, a2, a3, a4⟩ | ⟨a1, a2, a3⟩
          · rw [a1, a2]; exact ⟨_, rfl, rfl, hI⟩
          · rw [a1, a2]; exact ⟨_, rfl, rfl, hI⟩
        · rw [if_neg h2, if_neg h2]
          by_cases h3 : q = 3
          · rw [if_pos h3, if_pos h3, hP.2.2.2.1.1]
            rcases hP.2.2.2.1.2 with a | a
            · rw [a]; exact ⟨_, rfl, rfl, hI⟩
            · rw [a]; exact ⟨_, rfl, rfl, hI⟩
          · rw [if_neg h3, if_neg h3]
            by_cases h4 : q = 4
            · rw [if_pos h4, if_pos h4]
              rcases c_len hP w2 with ⟨b1, b2⟩ | ⟨b1, b2, b3⟩
              · rw [b1, b2]; exact ⟨_, rfl, rfl, hI⟩
              · rw [b1, b3]; exact ⟨_, rfl, rfl, hI⟩
            · rw [if_neg h4, if_neg h4]
              by_cases h5 : q = 5
              · rw [if_pos h5, if_pos h5]; exact ⟨_, rfl, by rw [hP.2.2.2.2.2.1.1], hI⟩
              · rw [if_neg h5, if_neg h5]
                by_cases h6 : q = 6
                · rw [if_pos h6, if_pos h6]
                  rcases c_und hP w1 w2 (x.1 1116 0) with ⟨a1, a2, a3, a4⟩ | ⟨a1, a2, a3⟩
                  · obtain ⟨y1, y2⟩ := c_yr hN hP w1 w2
                    unfold f_X4_refusalsOn
                    rw [a1, a2, y2, y1, if_pos w1]
                    simp only [Option.elim_some]
                    rw [if_neg n10]
                    have := hP.2.2.2.2.2.2.2.1.1
                    unfold effY at this
                    refine ⟨if x.1 411 w = yrT (x.1 1116 0) (x.1 404 w) then x.1 412 w else 0, ?_, ?_, hI⟩
                    · by_cases e : x.1 411 w = yrT (x.1 1116 0) (x.1 404 w)
                      · simp only [if_pos e, Option.elim_some]
                      · simp only [if_neg e, Option.elim_some]
                    · rw [this]
                      by_cases e : m.2.1 1224 0 w = yrT (x.1 1116 0) (x.1 404 w)
                      · simp only [if_pos e, if_neg n10]
                      · simp only [if_neg e, if_neg n10]
                  · rw [a1, a2]; exact ⟨_, rfl, rfl, hI⟩
                · rw [if_neg h6, if_neg h6]
                  by_cases h7 : q = 7
                  · rw [if_pos h7, if_pos h7]
                    rcases c_rdy hN d3 (by omega) hP w1 w2 with ⟨a1, a2⟩ | ⟨a1, a2⟩
                    · rw [a1, a2]; exact ⟨_, rfl, rfl, hI⟩
                    · rw [a1, a2]; exact ⟨_, rfl, rfl, hI⟩
                  · rw [if_neg h7, if_neg h7]; exact ⟨_, rfl, rfl, hI⟩
