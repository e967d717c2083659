noncomputable def b_X11_liveDay_85 (x : VM) (v2 : Int32 × Int32 × VM) (v7 : Int32 × VM) : (Int32 × VM) ⊕ ((Int32 × Int32 × VM) ⊕ (Option (VM))) := if (v7.2.1 1113 0) ≤ v7.1 then Sum.inr (Sum.inr (some v7.2)) else if inb v7.1 16 = true then if v7.1.toNatClampNeg < v7.2.2.2.2 4 then (f_X4_settle v7.2 v7.1.toNatClampNeg (v7.2.1 1116 0)).elim (Sum.inr (Sum.inr none)) (fun r11 => Sum.inl (v7.1 + 1, r11)) else Sum.inr (Sum.inr none) else Sum.inr (Sum.inr none)
noncomputable def b_X11_liveDay_85_16 (x : VM) (v2 : Int32 × Int32 × VM) (v15 : Int32 × VM) : (Int32 × VM) ⊕ ((Int32 × Int32 × VM) ⊕ (Option (VM))) := if (v15.2.1 1113 0) ≤ v15.1 then Sum.inr (Sum.inr (some v15.2)) else if inb v15.1 16 = true then if v15.1.toNatClampNeg < v15.2.2.2.2 4 then (f_X4_settle v15.2 v15.1.toNatClampNeg (v15.2.1 1116 0)).elim (Sum.inr (Sum.inr none)) (fun r20 => Sum.inl (v15.1 + 1, r20)) else Sum.inr (Sum.inr none) else Sum.inr (Sum.inr none)
noncomputable def b_X11_liveDay_7 (x : VM) (v2 : Int32 × Int32 × VM) : (Int32 × Int32 × VM) ⊕ (Option (VM)) := if (v2.2.2.1 1114 0) ≤ v2.2.1 then (f_X11_lengthenSuspended v2.2.2).elim (Sum.inr none) (fun r4 => if ((r4.1 1116 0) - (r4.1 1116 0) / 7 * 7) = 6 then (f_X11_payWeek r4).elim (Sum.inr none) (fun r13 => loopF (Sum.inr none) (b_X11_liveDay_85_16 x v2) (0, setI r13 1116 0 ((r13.1 1116 0) + 1))) else loopF (Sum.inr none) (b_X11_liveDay_85 x v2) (0, setI r4 1116 0 ((r4.1 1116 0) + 1))) else if inb v2.2.1 8 = true then if v2.2.1.toNatClampNeg < v2.2.2.2.2.2 5 then if (v2.2.2.1 503 v2.2.1.toNatClampNeg) = 0 then Sum.inl (v2.1, v2.2.1 + 1, v2.2.2) else (f_X5_leftOfAll v2.2.2 v2.2.1.toNatClampNeg).elim (Sum.inr none) (fun r25 => if r25 ≤ 0 then Sum.inl (v2.1, v2.2.1 + 1, v2.2.2) else (f_X11_shoot v2.2.2 v2.2.1.toNatClampNeg v2.1).elim (Sum.inr none) (fun r27p => Sum.inl (v2.1 &&& (r27p.1 ^^^ (-1)), v2.2.1 + 1, r27p.2))) else Sum.inr none else Sum.inr none
noncomputable def f_X11_liveDay (x : VM) : Option (VM) := (f_X11_readyPeople x).elim none (fun r1 => loopF none (b_X11_liveDay_7 x) (r1, 0, x))
theorem c_X11_liveDay {g : GG} {d : Nat} {ad : AD} {x m : VM} {Q : Option Value → VM → VM → Prop} {w9 : VM} (hf : f_X11_liveDay x = some w9) (hq : Q none w9 m) : CX g (d + 4) MX11_liveDay [.ref (ad 11 0)] ad x m Q := by
  refine CX.to (Lv := [some (.ref (ad 11 0)), none, none, none]) okX11_liveDay (Nat.le_of_ble_eq_true rfl) rfl ?_
  obtain ⟨Φ0, hΦ⟩ : ∃ Φ : Option (VM) → Prop, Φ = fun o => o = some w9 := ⟨_, rfl⟩
  have hN0 : Φ0 none → False := by rw [hΦ]; intro h; cases h
  have hR0 : ∀ z9, Φ0 (some z9) → Q none z9 m := by rw [hΦ]; intro z9 h; cases h; exact hq
  have h9 : Φ0 (f_X11_liveDay x) := by rw [hΦ]; exact hf
  clear hf hq hΦ
  unfold f_X11_liveDay at h9
  refine e_aload_n dX11_liveDay_0 rfl rfl ?_
  obtain ⟨r1, hr1, h9⟩ := elimP hN0 h9
  refine x_callVi (c := 11) (As := []) (rest := []) okX11_readyPeople lkX11_434 rfl (by decide) rfl dX11_liveDay_1 rfl rfl (Nat.le_of_ble_eq_true rfl) rfl (c_X11_readyPeople hr1 (CI.mk ?_))
  refine e_istore_n (L' := [some (.ref (ad 11 0)), some (.int r1), none, none]) dX11_liveDay_4 rfl (by decide) rfl ?_
  refine e_iconst (v := 0) dX11_liveDay_5 rfl ?_
  refine e_istore_n (L' := [some (.ref (ad 11 0)), some (.int r1), some (.int 0), none]) dX11_liveDay_6 rfl (by decide) rfl ?_
  refine loop_gen (b_X11_liveDay_7 x) none (fun v2 => EX g (d + 4) MX11_liveDay ad v2.2.2 m 7 [some (.ref (ad 11 0)), some (.int v2.1), some (.int v2.2.1), none] [] Q) Φ0 hN0 (fun v2 Φ1 hB0_1 hO1 h9 => ?_) (r1, 0, x) h9
  have hN1 := fun h => hN0 (hO1 _ h)
  have hR1 := fun r9 h => hR0 r9 (hO1 _ h)
  have hB0_1 : ∀ (z0 : Int32) (z1 : Int32) (z2 : VM), Φ1 (Sum.inl (z0, z1, z2)) → EX g (d + 4) MX11_liveDay ad z2 m 7 [some (.ref (ad 11 0)), some (.int z0), some (.int z1), none] [] Q := fun z0 z1 z2 h => hB0_1 (z0, z1, z2) h
  unfold b_X11_liveDay_7 at h9
  refine e_iload_n dX11_liveDay_7 rfl rfl ?_
  refine e_aload_n dX11_liveDay_8 rfl rfl ?_
  refine g_1114 flX11_89 dX11_liveDay_9 ?_
  refine e_icmp_ge (tgt := 53) dX11_liveDay_12 rfl (fun hc3 => ?_) (fun hc3 => ?_)
  · replace h9 := ifT hc3 h9
    refine e_aload_n dX11_liveDay_53 rfl rfl ?_
    obtain ⟨r4, hr4, h9⟩ := elimP hN1 h9
    refine x_callVv (c := 11) (As := []) (rest := []) okX11_lengthenSuspended lkX11_440 rfl (by decide) rfl dX11_liveDay_54 rfl rfl (Nat.le_of_ble_eq_true rfl) rfl (c_X11_lengthenSuspended hr4 (CV.mk ?_))
    refine e_aload_n dX11_liveDay_57 rfl rfl ?_
    refine g_1116 flX11_95 dX11_liveDay_58 ?_
    refine e_bipush (v := 7) dX11_liveDay_61 rfl ?_
    refine e_irem dX11_liveDay_63 (by decide) ?_
    refine e_bipush (v := 6) dX11_liveDay_64 rfl ?_
    refine e_icmp_ne (tgt := 73) dX11_liveDay_66 rfl (fun hc6 => ?_) (fun hc6 => ?_)
    · replace h9 := ifF hc6 h9
      refine e_aload_n dX11_liveDay_73 rfl rfl ?_
      refine e_dup dX11_liveDay_74 rfl ?_
      refine g_1116 flX11_95 dX11_liveDay_75 ?_
      refine e_iconst (v := 1) dX11_liveDay_78 rfl ?_
      refine e_iadd dX11_liveDay_79 ?_
      refine p_1116 flX11_95 dX11_liveDay_80 ?_
      refine e_iconst (v := 0) dX11_liveDay_83 rfl ?_
      refine e_istore_n (L' := [some (.ref (ad 11 0)), some (.int v2.1), some (.int 0), none]) dX11_liveDay_84 rfl (by decide) rfl ?_
      refine e_wk (L' := [some (.ref (ad 11 0)), none, some (.int 0), none]) (wkC (wkN (wkC (wkN wk0)))) ?_
      refine loop_gen (b_X11_liveDay_85 x v2) (Sum.inr none) (fun v7 => EX g (d + 4) MX11_liveDay ad v7.2 m 85 [some (.ref (ad 11 0)), none, some (.int v7.1), none] [] Q) Φ1 hN1 (fun v7 Φ2 hB1_2 hO2 h9 => ?_) (0, setI r4 1116 0 ((r4.1 1116 0) + 1)) h9
      have hN2 := fun h => hN1 (hO2 _ h)
      have hR2 := fun r9 h => hR1 r9 (hO2 _ h)
      have hB0_2 : ∀ (z0 : Int32) (z1 : Int32) (z2 : VM), Φ2 (Sum.inr (Sum.inl (z0, z1, z2))) → EX g (d + 4) MX11_liveDay ad z2 m 7 [some (.ref (ad 11 0)), some (.int z0), some (.int z1), none] [] Q := fun z0 z1 z2 h => hB0_1 z0 z1 z2 (hO2 _ h)
      have hB1_2 : ∀ (z0 : Int32) (z1 : VM), Φ2 (Sum.inl (z0, z1)) → EX g (d + 4) MX11_liveDay ad z1 m 85 [some (.ref (ad 11 0)), none, some (.int z0), none] [] Q := fun z0 z1 h => hB1_2 (z0, z1) h
      unfold b_X11_liveDay_85 at h9
      refine e_iload_n dX11_liveDay_85 rfl rfl ?_
      refine e_aload_n dX11_liveDay_86 rfl rfl ?_
      refine g_1113 flX11_85 dX11_liveDay_87 ?_
      refine e_icmp_ge (tgt := 112) dX11_liveDay_90 rfl (fun hc8 => ?_) (fun hc8 => ?_)
      · replace h9 := ifT hc8 h9
        exact x_vret dX11_liveDay_112 rfl (hR2 _ h9)
      · replace h9 := ifF hc8 h9
        refine e_aload_n dX11_liveDay_93 rfl rfl ?_
        refine g_1101 flX11_17 dX11_liveDay_94 ?_
        refine e_iload_n dX11_liveDay_97 rfl rfl ?_
        obtain ⟨k9, h9⟩ := chkP hN2 h9
        refine l_1101 dX11_liveDay_98 (inb_in k9) ?_
        obtain ⟨k10, h9⟩ := chkP hN2 h9
        refine e_top (v := .ref (ad 4 v7.1.toNatClampNeg)) (rfT k10) ?_
        refine e_aload_n dX11_liveDay_99 rfl rfl ?_
        refine g_1116 flX11_95 dX11_liveDay_100 ?_
        obtain ⟨r11, hr11, h9⟩ := elimP hN2 h9
        refine x_callVv (c := 4) (As := [.int (v7.2.1 1116 0)]) (rest := []) okX4_settle lkX11_446 rfl (by decide) rfl dX11_liveDay_103 rfl rfl (Nat.le_of_ble_eq_true rfl) k10 (c_X4_settle v7.1.toNatClampNeg (v7.2.1 1116 0) hr11 (CV.mk ?_))
        refine e_iinc (v := (v7.1 + 1)) (L' := [some (.ref (ad 11 0)), none, some (.int (v7.1 + 1)), none]) dX11_liveDay_106 rfl rfl (by decide) rfl ?_
        refine e_pc (pc' := 109) rfl ?_
        refine e_goto (tgt := 85) dX11_liveDay_109 rfl ?_
        exact hB1_2 _ _ h9
    · replace h9 := ifT hc6 h9
      refine e_aload_n dX11_liveDay_69 rfl rfl ?_
      obtain ⟨r13, hr13, h9⟩ := elimP hN1 h9
      refine x_callVv (c := 11) (As := []) (rest := []) okX11_payWeek lkX11_443 rfl (by decide) rfl dX11_liveDay_70 rfl rfl (Nat.le_of_ble_eq_true rfl) rfl (c_X11_payWeek hr13 (CV.mk ?_))
      refine e_aload_n dX11_liveDay_73 rfl rfl ?_
      refine e_dup dX11_liveDay_74 rfl ?_
      refine g_1116 flX11_95 dX11_liveDay_75 ?_
      refine e_iconst (v := 1) dX11_liveDay_78 rfl ?_
      refine e_iadd dX11_liveDay_79 ?_
      refine p_1116 flX11_95 dX11_liveDay_80 ?_
      refine e_pc (pc' := 83) rfl ?_
      refine e_iconst (v := 0) dX11_liveDay_83 rfl ?_
      refine e_istore_n (L' := [some (.ref (ad 11 0)), some (.int v2.1), some (.int 0), none]) dX11_liveDay_84 rfl (by decide) rfl ?_
      refine e_wk (L' := [some (.ref (ad 11 0)), none, some (.int 0), none]) (wkC (wkN (wkC (wkN wk0)))) ?_
      refine loop_gen (b_X11_liveDay_85_16 x v2) (Sum.inr none) (fun v15 => EX g (d + 4) MX11_liveDay ad v15.2 m 85 [some (.ref (ad 11 0)), none, some (.int v15.1), none] [] Q) Φ1 hN1 (fun v15 Φ2 hB1_2 hO2 h9 => ?_) (0, setI r13 1116 0 ((r13.1 1116 0) + 1)) h9
      have hN2 := fun h => hN1 (hO2 _ h)
      have hR2 := fun r9 h => hR1 r9 (hO2 _ h)
      have hB0_2 : ∀ (z0 : Int32) (z1 : Int32) (z2 : VM), Φ2 (Sum.inr (Sum.inl (z0, z1, z2))) → EX g (d + 4) MX11_liveDay ad z2 m 7 [some (.ref (ad 11 0)), some (.int z0), some (.int z1), none] [] Q := fun z0 z1 z2 h => hB0_1 z0 z1 z2 (hO2 _ h)
      have hB1_2 : ∀ (z0 : Int32) (z1 : VM), Φ2 (Sum.inl (z0, z1)) → EX g (d + 4) MX11_liveDay ad z1 m 85 [some (.ref (ad 11 0)), none, some (.int z0), none] [] Q := fun z0 z1 h => hB1_2 (z0, z1) h
      unfold b_X11_liveDay_85_16 at h9
      refine e_iload_n dX11_liveDay_85 rfl rfl ?_
      refine e_aload_n dX11_liveDay_86 rfl rfl ?_
      refine g_1113 flX11_85 dX11_liveDay_87 ?_
      refine e_icmp_ge (tgt := 112) dX11_liveDay_90 rfl (fun hc17 => ?_) (fun hc17 => ?_)
      · replace h9 := ifT hc17 h9
        exact x_vret dX11_liveDay_112 rfl (hR2 _ h9)
      · replace h9 := ifF hc17 h9
        refine e_aload_n dX11_liveDay_93 rfl rfl ?_
        refine g_1101 flX11_17 dX11_liveDay_94 ?_
        refine e_iload_n dX11_liveDay_97 rfl rfl ?_
        obtain ⟨k18, h9⟩ := chkP hN2 h9
        refine l_1101 dX11_liveDay_98 (inb_in k18) ?_
        obtain ⟨k19, h9⟩ := chkP hN2 h9
        refine e_top (v := .ref (ad 4 v15.1.toNatClampNeg)) (rfT k19) ?_
        refine e_aload_n dX11_liveDay_99 rfl rfl ?_
        refine g_1116 flX11_95 dX11_liveDay_100 ?_
        obtain ⟨r20, hr20, h9⟩ := elimP hN2 h9
        refine x_callVv (c := 4) (As := [.int (v15.2.1 1116 0)]) (rest := []) okX4_settle lkX11_446 rfl (by decide) rfl dX11_liveDay_103 rfl rfl (Nat.le_of_ble_eq_true rfl) k19 (c_X4_settle v15.1.toNatClampNeg (v15.2.1 1116 0) hr20 (CV.mk ?_))
        refine e_iinc (v := (v15.1 + 1)) (L' := [some (.ref (ad 11 0)), none, some (.int (v15.1 + 1)), none]) dX11_liveDay_106 rfl rfl (by decide) rfl ?_
        refine e_pc (pc' := 109) rfl ?_
        refine e_goto (tgt := 85) dX11_liveDay_109 rfl ?_
        exact hB1_2 _ _ h9
  · replace h9 := ifF hc3 h9
    refine e_aload_n dX11_liveDay_15 rfl rfl ?_
    refine g_1102 flX11_23 dX11_liveDay_16 ?_
    refine e_iload_n dX11_liveDay_19 rfl rfl ?_
    obtain ⟨k22, h9⟩ := chkP hN1 h9
    refine l_1102 dX11_liveDay_20 (inb_in k22) ?_
    obtain ⟨k23, h9⟩ := chkP hN1 h9
    refine e_top (v := .ref (ad 5 v2.2.1.toNatClampNeg)) (rfT k23) ?_
    refine e_astore_n (L' := [some (.ref (ad 11 0)), some (.int v2.1), some (.int v2.2.1), some (.ref (ad 5 v2.2.1.toNatClampNeg))]) dX11_liveDay_21 rfl (by decide) rfl ?_
    refine e_aload_n dX11_liveDay_22 rfl rfl ?_
    refine g_503 flX11_235 dX11_liveDay_23 k23 ?_
    refine e_if_eq (tgt := 47) dX11_liveDay_26 rfl (fun hc24 => ?_) (fun hc24 => ?_)
    · replace h9 := ifT hc24 h9
      refine e_iinc (v := (v2.2.1 + 1)) (L' := [some (.ref (ad 11 0)), some (.int v2.1), some (.int (v2.2.1 + 1)), some (.ref (ad 5 v2.2.1.toNatClampNeg))]) dX11_liveDay_47 rfl rfl (by decide) rfl ?_
      refine e_goto (tgt := 7) dX11_liveDay_50 rfl ?_
      refine e_wk (L' := [some (.ref (ad 11 0)), some (.int v2.1), some (.int (v2.2.1 + 1)), none]) (wkC (wkC (wkC (wkN wk0)))) ?_
      exact hB0_1 _ _ _ h9
    · replace h9 := ifF hc24 h9
      refine e_aload_n dX11_liveDay_29 rfl rfl ?_
      obtain ⟨r25, hr25, h9⟩ := elimP hN1 h9
      refine x_callVi (c := 5) (As := []) (rest := []) okX5_leftOfAll lkX11_309 rfl (by decide) rfl dX11_liveDay_30 rfl rfl (Nat.le_of_ble_eq_true rfl) k23 (c_X5_leftOfAll v2.2.1.toNatClampNeg hr25 (CI.mk ?_))
      refine e_if_le (tgt := 47) dX11_liveDay_33 rfl (fun hc26 => ?_) (fun hc26 => ?_)
      · replace h9 := ifT hc26 h9
        refine e_iinc (v := (v2.2.1 + 1)) (L' := [some (.ref (ad 11 0)), some (.int v2.1), some (.int (v2.2.1 + 1)), some (.ref (ad 5 v2.2.1.toNatClampNeg))]) dX11_liveDay_47 rfl rfl (by decide) rfl ?_
        refine e_goto (tgt := 7) dX11_liveDay_50 rfl ?_
        refine e_wk (L' := [some (.ref (ad 11 0)), some (.int v2.1), some (.int (v2.2.1 + 1)), none]) (wkC (wkC (wkC (wkN wk0)))) ?_
        exact hB0_1 _ _ _ h9
      · replace h9 := ifF hc26 h9
        refine e_iload_n dX11_liveDay_36 rfl rfl ?_
        refine e_aload_n dX11_liveDay_37 rfl rfl ?_
        refine e_aload_n dX11_liveDay_38 rfl rfl ?_
        refine e_iload_n dX11_liveDay_39 rfl rfl ?_
        obtain ⟨⟨r27, w28⟩, hr27, h9⟩ := elimP hN1 h9
        refine x_callVi (c := 11) (As := [.ref (ad 5 v2.2.1.toNatClampNeg), .int v2.1]) (rest := [.int v2.1]) okX11_shoot lkX11_437 rfl (by decide) rfl dX11_liveDay_40 rfl rfl (Nat.le_of_ble_eq_true rfl) rfl (c_X11_shoot v2.2.1.toNatClampNeg v2.1 hr27 (CI.mk ?_))
        refine e_iconst (v := (-1)) dX11_liveDay_43 rfl ?_
        refine e_ixor dX11_liveDay_44 ?_
        refine e_iand dX11_liveDay_45 ?_
        refine e_pc (pc' := 46) rfl ?_
        refine e_istore_n (L' := [some (.ref (ad 11 0)), some (.int (v2.1 &&& (r27 ^^^ (-1)))), some (.int v2.2.1), some (.ref (ad 5 v2.2.1.toNatClampNeg))]) dX11_liveDay_46 rfl (by decide) rfl ?_
        refine e_iinc (v := (v2.2.1 + 1)) (L' := [some (.ref (ad 11 0)), some (.int (v2.1 &&& (r27 ^^^ (-1)))), some (.int (v2.2.1 + 1)), some (.ref (ad 5 v2.2.1.toNatClampNeg))]) dX11_liveDay_47 rfl rfl (by decide) rfl ?_
        refine e_goto (tgt := 7) dX11_liveDay_50 rfl ?_
        refine e_wk (L' := [some (.ref (ad 11 0)), some (.int (v2.1 &&& (r27 ^^^ (-1)))), some (.int (v2.2.1 + 1)), none]) (wkC (wkC (wkC (wkN wk0)))) ?_
        exact hB0_1 _ _ _ h9
noncomputable def b_X11_days_39 (x : VM) (p1 : Int32) (v7 : Int32 × VM) : (Int32 × VM) ⊕ (Option (Int32 × VM)) := if p1 ≤ v7.1 then Sum.inr (some (v7.2.1 1116 0, v7.2)) else (f_X11_liveDay v7.2).elim (Sum.inr none) (fun r9 => Sum.inl (v7.1 + 1, r9))
noncomputable def f_X11_days (x : VM) (p1 : Int32) : Option (Int32 × VM) := if p1 < 1 then (f_X11_refused x (-6)).elim none (fun r2p => some (r2p.1, r2p.2)) else if p1 ≤ 100 then if p1 ≤ (4000 - (x.1 1116 0)) then loopF none (b_X11_days_39 x p1) (0, x) else (f_X11_refused x (-7)).elim none (fun r11p => some (r11p.1, r11p.2)) else (f_X11_refused x (-6)).elim none (fun r14p => some (r14p.1, r14p.2))
theorem c_X11_days {g : GG} {d : Nat} {ad : AD} {x m : VM} {Q : Option Value → VM → VM → Prop} (p1 : Int32) {r9 : Int32} {w9 : VM} (hf : f_X11_days x p1 = some (r9, w9)) (hq : Q (some (.int r9)) w9 m) : CX g (d + 5) MX11_days [.ref (ad 11 0), .int p1] ad x m Q := by
  refine CX.to (Lv := [some (.ref (ad 11 0)), some (.int p1), none]) okX11_days (Nat.le_of_ble_eq_true rfl) rfl ?_
  obtain ⟨Φ0, hΦ⟩ : ∃ Φ : Option (Int32 × VM) → Prop, Φ = fun o => o = some (r9, w9) := ⟨_, rfl⟩
  have hN0 : Φ0 none → False := by rw [hΦ]; intro h; cases h
  have hR0 : ∀ z9 y9, Φ0 (some (z9, y9)) → Q (some (.int z9)) y9 m := by rw [hΦ]; intro z9 y9 h; cases h; exact hq
  have h9 : Φ0 (f_X11_days x p1) := by rw [hΦ]; exact hf
  clear hf hq hΦ
  unfold f_X11_days at h9
  refine e_iload_n dX11_days_0 rfl rfl ?_
  refine e_iconst (v := 1) dX11_days_1 rfl ?_
  refine e_icmp_lt (tgt := 11) dX11_days_2 rfl (fun hc1 => ?_) (fun hc1 => ?_)
  · replace h9 := ifT hc1 h9
    refine e_aload_n dX11_days_11 rfl rfl ?_
    refine e_bipush (v := (-6)) dX11_days_12 rfl ?_
    obtain ⟨⟨r2, w3⟩, hr2, h9⟩ := elimP hN0 h9
    refine x_callVi (c := 11) (As := [.int (-6)]) (rest := []) okX11_refused lkX11_105 rfl (by decide) rfl dX11_days_14 rfl rfl (Nat.le_of_ble_eq_true rfl) rfl (c_X11_refused (-6) hr2 (CI.mk ?_))
    exact x_iret dX11_days_17 rfl (hR0 _ _ h9)
  · replace h9 := ifF hc1 h9
    refine e_iload_n dX11_days_5 rfl rfl ?_
    refine e_bipush (v := 100) dX11_days_6 rfl ?_
    refine e_icmp_le (tgt := 18) dX11_days_8 rfl (fun hc5 => ?_) (fun hc5 => ?_)
    · replace h9 := ifT hc5 h9
      refine e_iload_n dX11_days_18 rfl rfl ?_
      refine e_sipush (v := 4000) dX11_days_19 rfl ?_
      refine e_aload_n dX11_days_22 rfl rfl ?_
      refine g_1116 flX11_95 dX11_days_23 ?_
      refine e_isub dX11_days_26 ?_
      refine e_icmp_le (tgt := 37) dX11_days_27 rfl (fun hc6 => ?_) (fun hc6 => ?_)
      · replace h9 := ifT hc6 h9
        refine e_iconst (v := 0) dX11_days_37 rfl ?_
        refine e_istore_n (L' := [some (.ref (ad 11 0)), some (.int p1), some (.int 0)]) dX11_days_38 rfl (by decide) rfl ?_
        refine loop_gen (b_X11_days_39 x p1) none (fun v7 => EX g (d + 5) MX11_days ad v7.2 m 39 [some (.ref (ad 11 0)), some (.int p1), some (.int v7.1)] [] Q) Φ0 hN0 (fun v7 Φ1 hB0_1 hO1 h9 => ?_) (0, x) h9
        have hN1 := fun h => hN0 (hO1 _ h)
        have hR1 := fun r9 x9 h => hR0 r9 x9 (hO1 _ h)
        have hB0_1 : ∀ (z0 : Int32) (z1 : VM), Φ1 (Sum.inl (z0, z1)) → EX g (d + 5) MX11_days ad z1 m 39 [some (.ref (ad 11 0)), some (.int p1), some (.int z0)] [] Q := fun z0 z1 h => hB0_1 (z0, z1) h
        unfold b_X11_days_39 at h9
        refine e_iload_n dX11_days_39 rfl rfl ?_
        refine e_iload_n dX11_days_40 rfl rfl ?_
        refine e_icmp_ge (tgt := 54) dX11_days_41 rfl (fun hc8 => ?_) (fun hc8 => ?_)
        · replace h9 := ifT hc8 h9
          refine e_aload_n dX11_days_54 rfl rfl ?_
          refine g_1116 flX11_95 dX11_days_55 ?_
          exact x_iret dX11_days_58 rfl (hR1 _ _ h9)
        · replace h9 := ifF hc8 h9
          refine e_aload_n dX11_days_44 rfl rfl ?_
          obtain ⟨r9, hr9, h9⟩ := elimP hN1 h9
          refine x_callVv (c := 11) (As := []) (rest := []) okX11_liveDay lkX11_297 rfl (by decide) rfl dX11_days_45 rfl rfl (Nat.le_of_ble_eq_true rfl) rfl (c_X11_liveDay hr9 (CV.mk ?_))
          refine e_iinc (v := (v7.1 + 1)) (L' := [some (.ref (ad 11 0)), some (.int p1), some (.int (v7.1 + 1))]) dX11_days_48 rfl rfl (by decide) rfl ?_
          refine e_goto (tgt := 39) dX11_days_51 rfl ?_
          exact hB0_1 _ _ h9
      · replace h9 := ifF hc6 h9
        refine e_aload_n dX11_days_30 rfl rfl ?_
        refine e_bipush (v := (-7)) dX11_days_31 rfl ?_
        obtain ⟨⟨r11, w12⟩, hr11, h9⟩ := elimP hN0 h9
        refine x_callVi (c := 11) (As := [.int (-7)]) (rest := []) okX11_refused lkX11_105 rfl (by decide) rfl dX11_days_33 rfl rfl (Nat.le_of_ble_eq_true rfl) rfl (c_X11_refused (-7) hr11 (CI.mk ?_))
        exact x_iret dX11_days_36 rfl (hR0 _ _ h9)
    · replace h9 := ifF hc5 h9
      refine e_aload_n dX11_days_11 rfl rfl ?_
      refine e_bipush (v := (-6)) dX11_days_12 rfl ?_
      obtain ⟨⟨r14, w15⟩, hr14, h9⟩ := elimP hN0 h9
      refine x_callVi (c := 11) (As := [.int (-6)]) (rest := []) okX11_refused lkX11_105 rfl (by decide) rfl dX11_days_14 rfl rfl (Nat.le_of_ble_eq_true rfl) rfl (c_X11_refused (-6) hr14 (CI.mk ?_))
      exact x_iret dX11_days_17 rfl (hR0 _ _ h9)
noncomputable def f_X11_who (x : VM) (p1 : Int32) (p2 : Int32) : Option (Int32) := (f_X11_personAt x p1).elim none (fun r1 => r1.elim (some (-1)) (fun i2 => if p2 = 0 then if i2 < x.2.2.2 4 then some (x.1 400 i2) else none else if p2 = 1 then if i2 < x.2.2.2 4 then some (x.1 405 i2) else none else if p2 = 2 then if i2 < x.2.2.2 4 then (f_X4_isUnder x i2 (x.1 1116 0)).elim none (fun r9 => if r9 = 0 then some 0 else some 1) else none else if p2 = 3 then if i2 < x.2.2.2 4 then if (x.1 406 i2) = 0 then some 0 else some 1 else none else if p2 = 4 then if i2 < x.2.2.2 4 then some (x.1 407 i2) else none else if p2 = 5 then if i2 < x.2.2.2 4 then some (x.1 408 i2) else none else if p2 = 6 then if i2 < x.2.2.2 4 then (f_X4_isUnder x i2 (x.1 1116 0)).elim none (fun r20 => if r20 = 0 then some 0 else (f_X4_refusalsOn x i2 (x.1 1116 0)).elim none (fun r22 => some r22)) else none else if p2 = 7 then if i2 < x.2.2.2 4 then (f_X4_isReady x i2 (x.1 1116 0)).elim none (fun r25 => if r25 = 0 then some 0 else some 1) else none else some (-1)))
theorem c_X11_who {g : GG} {d : Nat} {ad : AD} {x m : VM} {Q : Option Value → VM → VM → Prop} (p1 : Int32) (p2 : Int32) {r9 : Int32} (hf : f_X11_who x p1 p2 = some r9) (hq : Q (some (.int r9)) x m) : CX g (d + 3) MX11_who [.ref (ad 11 0), .int p1, .int p2] ad x m Q := by
  refine CX.to (Lv := [some (.ref (ad 11 0)), some (.int p1), some (.int p2), none]) okX11_who (Nat.le_of_ble_eq_true rfl) rfl ?_
  obtain ⟨Φ0, hΦ⟩ : ∃ Φ : Option (Int32) → Prop, Φ = fun o => o = some r9 := ⟨_, rfl⟩
  have hN0 : Φ0 none → False := by rw [hΦ]; intro h; cases h
  have hR0 : ∀ z9, Φ0 (some z9) → Q (some (.int z9)) x m := by rw [hΦ]; intro z9 h; cases h; exact hq
  have h9 : Φ0 (f_X11_who x p1 p2) := by rw [hΦ]; exact hf
  clear hf hq hΦ
  unfold f_X11_who at h9
  refine e_aload_n dX11_who_0 rfl rfl ?_
  refine e_iload_n dX11_who_1 rfl rfl ?_
  obtain ⟨r1, hr1, h9⟩ := elimP hN0 h9
  refine x_callVi (c := 11) (As := [.int p1]) (rest := []) okX11_personAt lkX11_174 rfl (by decide) rfl dX11_who_2 rfl rfl (Nat.le_of_ble_eq_true rfl) rfl (c_X11_personAt p1 hr1 (CI.mk ?_))
  cases r1 with
  | none =>
    replace h9 := elN h9
    refine e_top (v := .null) rfl ?_
    refine e_astore_nN (L' := [some (.ref (ad 11 0)), some (.int p1), some (.int p2), some (.null)]) dX11_who_5 rfl (by decide) rfl ?_
    refine e_aload_nN dX11_who_6 rfl rfl ?_
    refine e_ifnonnullN dX11_who_7 ?_
    refine e_iconst (v := (-1)) dX11_who_10 rfl ?_
    exact x_iret dX11_who_11 rfl (hR0 _ h9)
  | some i2 =>
    replace h9 := elS h9
    refine e_top (v := .ref (ad 4 i2)) rfl ?_
    refine e_astore_n (L' := [some (.ref (ad 11 0)), some (.int p1), some (.int p2), some (.ref (ad 4 i2))]) dX11_who_5 rfl (by decide) rfl ?_
    refine e_aload_n dX11_who_6 rfl rfl ?_
    refine e_ifnonnull (tgt := 12) dX11_who_7 rfl ?_
    refine e_iload_n dX11_who_12 rfl rfl ?_
    by_cases hc3 : p2 = 0
    · replace h9 := ifT hc3 h9
      refine e_tableIn (tgt := 60) dX11_who_13 (by rw [hc3]; decide) (by rw [hc3]; decide) (by rw [hc3]; rfl) rfl ?_
      refine e_aload_n dX11_who_60 rfl rfl ?_
      obtain ⟨k4, h9⟩ := chkP hN0 h9
      refine g_400 flX11_300 dX11_who_61 k4 ?_
      exact x_iret dX11_who_64 rfl (hR0 _ h9)
    replace h9 := ifF hc3 h9
    by_cases hc5 : p2 = 1
    · replace h9 := ifT hc5 h9
      refine e_tableIn (tgt := 65) dX11_who_13 (by rw [hc5]; decide) (by rw [hc5]; decide) (by rw [hc5]; rfl) rfl ?_
      refine e_aload_n dX11_who_65 rfl rfl ?_
      obtain ⟨k6, h9⟩ := chkP hN0 h9
      refine g_405 flX11_195 dX11_who_66 k6 ?_
      exact x_iret dX11_who_69 rfl (hR0 _ h9)
    replace h9 := ifF hc5 h9
    by_cases hc7 : p2 = 2
    · replace h9 := ifT hc7 h9
      refine e_tableIn (tgt := 70) dX11_who_13 (by rw [hc7]; decide) (by rw [hc7]; decide) (by rw [hc7]; rfl) rfl ?_
      refine e_aload_n dX11_who_70 rfl rfl ?_
      refine e_aload_n dX11_who_71 rfl rfl ?_
      refine g_1116 flX11_95 dX11_who_72 ?_
      obtain ⟨k8, h9⟩ := chkP hN0 h9
      obtain ⟨r9, hr9, h9⟩ := elimP hN0 h9
      refine x_callVi (c := 4) (As := [.int (x.1 1116 0)]) (rest := []) okX4_isUnder lkX11_185 rfl (by decide) rfl dX11_who_75 rfl rfl (Nat.le_of_ble_eq_true rfl) k8 (c_X4_isUnder i2 (x.1 1116 0) hr9 (CI.mk ?_))
      refine e_if_eq (tgt := 85) dX11_who_78 rfl (fun hc10 => ?_) (fun hc10 => ?_)
      · replace h9 := ifT hc10 h9
        refine e_iconst (v := 0) dX11_who_85 rfl ?_
        exact x_iret dX11_who_86 rfl (hR0 _ h9)
      · replace h9 := ifF hc10 h9
        refine e_iconst (v := 1) dX11_who_81 rfl ?_
        refine e_goto (tgt := 86) dX11_who_82 rfl ?_
        exact x_iret dX11_who_86 rfl (hR0 _ h9)
    replace h9 := ifF hc7 h9
    by_cases hc11 : p2 = 3
    · replace h9 := ifT hc11 h9
      refine e_tableIn (tgt := 87) dX11_who_13 (by rw [hc11]; decide) (by rw [hc11]; decide) (by rw [hc11]; rfl) rfl ?_
      refine e_aload_n dX11_who_87 rfl rfl ?_
      obtain ⟨k12, h9⟩ := chkP hN0 h9
      refine g_406 flX11_223 dX11_who_88 k12 ?_
      refine e_if_eq (tgt := 98) dX11_who_91 rfl (fun hc13 => ?_) (fun hc13 => ?_)
      · replace h9 := ifT hc13 h9
        refine e_iconst (v := 0) dX11_who_98 rfl ?_
        exact x_iret dX11_who_99 rfl (hR0 _ h9)
      · replace h9 := ifF hc13 h9
        refine e_iconst (v := 1) dX11_who_94 rfl ?_
        refine e_goto (tgt := 99) dX11_who_95 rfl ?_
        exact x_iret dX11_who_99 rfl (hR0 _ h9)
    replace h9 := ifF hc11 h9
    by_cases hc14 : p2 = 4
    · replace h9 := ifT hc14 h9
      refine e_tableIn (tgt := 100) dX11_who_13 (by rw [hc14]; decide) (by rw [hc14]; decide) (by rw [hc14]; rfl) rfl ?_
      refine e_aload_n dX11_who_100 rfl rfl ?_
      obtain ⟨k15, h9⟩ := chkP hN0 h9
      refine g_407 flX11_228 dX11_who_101 k15 ?_
      exact x_iret dX11_who_104 rfl (hR0 _ h9)
    replace h9 := ifF hc14 h9
    by_cases hc16 : p2 = 5
    · replace h9 := ifT hc16 h9
      refine e_tableIn (tgt := 105) dX11_who_13 (by rw [hc16]; decide) (by rw [hc16]; decide) (by rw [hc16]; rfl) rfl ?_
      refine e_aload_n dX11_who_105 rfl rfl ?_
      obtain ⟨k17, h9⟩ := chkP hN0 h9
      refine g_408 flX11_303 dX11_who_106 k17 ?_
      exact x_iret dX11_who_109 rfl (hR0 _ h9)
    replace h9 := ifF hc16 h9
    by_cases hc18 : p2 = 6
    · replace h9 := ifT hc18 h9
      refine e_tableIn (tgt := 110) dX11_who_13 (by rw [hc18]; decide) (by rw [hc18]; decide) (by rw [hc18]; rfl) rfl ?_
      refine e_aload_n dX11_who_110 rfl rfl ?_
      refine e_aload_n dX11_who_111 rfl rfl ?_
      refine g_1116 flX11_95 dX11_who_112 ?_
      obtain ⟨k19, h9⟩ := chkP hN0 h9
      obtain ⟨r20, hr20, h9⟩ := elimP hN0 h9
      refine x_callVi (c := 4) (As := [.int (x.1 1116 0)]) (rest := []) okX4_isUnder lkX11_185 rfl (by decide) rfl dX11_who_115 rfl rfl (Nat.le_of_ble_eq_true rfl) k19 (c_X4_isUnder i2 (x.1 1116 0) hr20 (CI.mk ?_))
      refine e_if_eq (tgt := 132) dX11_who_118 rfl (fun hc21 => ?_) (fun hc21 => ?_)
      · replace h9 := ifT hc21 h9
        refine e_iconst (v := 0) dX11_who_132 rfl ?_
        exact x_iret dX11_who_133 rfl (hR0 _ h9)
      · replace h9 := ifF hc21 h9
        refine e_aload_n dX11_who_121 rfl rfl ?_
        refine e_aload_n dX11_who_122 rfl rfl ?_
        refine g_1116 flX11_95 dX11_who_123 ?_
        obtain ⟨r22, hr22, h9⟩ := elimP hN0 h9
        refine x_callVi (c := 4) (As := [.int (x.1 1116 0)]) (rest := []) okX4_refusalsOn lkX11_217 rfl (by decide) rfl dX11_who_126 rfl rfl (Nat.le_of_ble_eq_true rfl) k19 (c_X4_refusalsOn i2 (x.1 1116 0) hr22 (CI.mk ?_))
        refine e_goto (tgt := 133) dX11_who_129 rfl ?_
        exact x_iret dX11_who_133 rfl (hR0 _ h9)
    replace h9 := ifF hc18 h9
    by_cases hc23 : p2 = 7
    · replace h9 := ifT hc23 h9
      refine e_tableIn (tgt := 134) dX11_who_13 (by rw [hc23]; decide) (by rw [hc23]; decide) (by rw [hc23]; rfl) rfl ?_
      refine e_aload_n dX11_who_134 rfl rfl ?_
      refine e_aload_n dX11_who_135 rfl rfl ?_
      refine g_1116 flX11_95 dX11_who_136 ?_
      obtain ⟨k24, h9⟩ := chkP hN0 h9
      obtain ⟨r25, hr25, h9⟩ := elimP hN0 h9
      refine x_callVi (c := 4) (As := [.int (x.1 1116 0)]) (rest := []) okX4_isReady lkX11_306 rfl (by decide) rfl dX11_who_139 rfl rfl (Nat.le_of_ble_eq_true rfl) k24 (c_X4_isReady i2 (x.1 1116 0) hr25 (CI.mk ?_))
      refine e_if_eq (tgt := 149) dX11_who_142 rfl (fun hc26 => ?_) (fun hc26 => ?_)
      · replace h9 := ifT hc26 h9
        refine e_iconst (v := 0) dX11_who_149 rfl ?_
        exact x_iret dX11_who_150 rfl (hR0 _ h9)
      · replace h9 := ifF hc26 h9
        refine e_iconst (v := 1) dX11_who_145 rfl ?_
        refine e_goto (tgt := 150) dX11_who_146 rfl ?_
        exact x_iret dX11_who_150 rfl (hR0 _ h9)
    replace h9 := ifF hc23 h9
    refine e_tableOut (tgt := 151) dX11_who_13 (sw_out8 hc3 hc5 hc7 hc11 hc14 hc16 hc18 hc23) rfl ?_
    refine e_iconst (v := (-1)) dX11_who_151 rfl ?_
    exact x_iret dX11_who_152 rfl (hR0 _ h9)
noncomputable def f_X11_about (x : VM) (p1 : Int32) (p2 : Int32) : Option (Int32) := (f_X11_pictureAt x p1).elim none (fun r1 => r1.elim (some (-1)) (fun i2 => if p2 = 0 then if i2 < x.2.2.2 5 then some (x.1 500 i2) else none else if p2 = 1 then if i2 < x.2.2.2 5 then some (x.1 502 i2) else none else if p2 = 2 then if i2 < x.2.2.2 5 then if (x.1 503 i2) = 0 then some 0 else some 1 else none else if p2 = 3 then if i2 < x.2.2.2 5 then (f_X5_leftOfAll x i2).elim none (fun r12 => some r12) else none else if p2 = 4 then if i2 < x.2.2.2 5 then some (x.1 505 i2) else none else if p2 = 5 then if i2 < x.2.2.2 5 then some (x.1 506 i2) else none else if p2 = 6 then if i2 < x.2.2.2 5 then some (x.1 507 i2) else none else if p2 = 7 then if i2 < x.2.2.2 5 then some (x.1 508 i2) else none else if p2 = 8 then if i2 < x.2.2.2 5 then some (x.1 509 i2) else none else some (-1)))
theorem c_X11_about {g : GG} {d : Nat} {ad : AD} {x m : VM} {Q : Option Value → VM → VM → Prop} (p1 : Int32) (p2 : Int32) {r9 : Int32} (hf : f_X11_about x p1 p2 = some r9) (hq : Q (some (.int r9)) x m) : CX g (d + 1) MX11_about [.ref (ad 11 0), .int p1, .int p2] ad x m Q := by
  refine CX.to (Lv := [some (.ref (ad 11 0)), some (.int p1), some (.int p2), none]) okX11_about (Nat.le_of_ble_eq_true rfl) rfl ?_
  obtain ⟨Φ0, hΦ⟩ : ∃ Φ : Option (Int32) → Prop, Φ = fun o => o = some r9 := ⟨_, rfl⟩
  have hN0 : Φ0 none → False := by rw [hΦ]; intro h; cases h
  have hR0 : ∀ z9, Φ0 (some z9) → Q (some (.int z9)) x m := by rw [hΦ]; intro z9 h; cases h; exact hq
  have h9 : Φ0 (f_X11_about x p1 p2) := by rw [hΦ]; exact hf
  clear hf hq hΦ
  unfold f_X11_about at h9
  refine e_aload_n dX11_about_0 rfl rfl ?_
  refine e_iload_n dX11_about_1 rfl rfl ?_
  obtain ⟨r1, hr1, h9⟩ := elimP hN0 h9
  refine x_callVi (c := 11) (As := [.int p1]) (rest := []) okX11_pictureAt lkX11_164 rfl (by decide) rfl dX11_about_2 rfl rfl (Nat.le_of_ble_eq_true rfl) rfl (c_X11_pictureAt p1 hr1 (CI.mk ?_))
  cases r1 with
  | none =>
    replace h9 := elN h9
    refine e_top (v := .null) rfl ?_
    refine e_astore_nN (L' := [some (.ref (ad 11 0)), some (.int p1), some (.int p2), some (.null)]) dX11_about_5 rfl (by decide) rfl ?_
    refine e_aload_nN dX11_about_6 rfl rfl ?_
    refine e_ifnonnullN dX11_about_7 ?_
    refine e_iconst (v := (-1)) dX11_about_10 rfl ?_
    exact x_iret dX11_about_11 rfl (hR0 _ h9)
  | some i2 =>
    replace h9 := elS h9
    refine e_top (v := .ref (ad 5 i2)) rfl ?_
    refine e_astore_n (L' := [some (.ref (ad 11 0)), some (.int p1), some (.int p2), some (.ref (ad 5 i2))]) dX11_about_5 rfl (by decide) rfl ?_
    refine e_aload_n dX11_about_6 rfl rfl ?_
    refine e_ifnonnull (tgt := 12) dX11_about_7 rfl ?_
    refine e_iload_n dX11_about_12 rfl rfl ?_
    by_cases hc3 : p2 = 0
    · replace h9 := ifT hc3 h9
      refine e_tableIn (tgt := 64) dX11_about_13 (by rw [hc3]; decide) (by rw [hc3]; decide) (by rw [hc3]; rfl) rfl ?_
      refine e_aload_n dX11_about_64 rfl rfl ?_
      obtain ⟨k4, h9⟩ := chkP hN0 h9
      refine g_500 flX11_168 dX11_about_65 k4 ?_
      exact x_iret dX11_about_68 rfl (hR0 _ h9)
    replace h9 := ifF hc3 h9
    by_cases hc5 : p2 = 1
    · replace h9 := ifT hc5 h9
      refine e_tableIn (tgt := 69) dX11_about_13 (by rw [hc5]; decide) (by rw [hc5]; decide) (by rw [hc5]; rfl) rfl ?_
      refine e_aload_n dX11_about_69 rfl rfl ?_
      obtain ⟨k6, h9⟩ := chkP hN0 h9
      refine g_502 flX11_238 dX11_about_70 k6 ?_
      exact x_iret dX11_about_73 rfl (hR0 _ h9)
    replace h9 := ifF hc5 h9
    by_cases hc7 : p2 = 2
    · replace h9 := ifT hc7 h9
      refine e_tableIn (tgt := 74) dX11_about_13 (by rw [hc7]; decide) (by rw [hc7]; decide) (by rw [hc7]; rfl) rfl ?_
      refine e_aload_n dX11_about_74 rfl rfl ?_
      obtain ⟨k8, h9⟩ := chkP hN0 h9
      refine g_503 flX11_235 dX11_about_75 k8 ?_
      refine e_if_eq (tgt := 85) dX11_about_78 rfl (fun hc9 => ?_) (fun hc9 => ?_)
      · replace h9 := ifT hc9 h9
        refine e_iconst (v := 0) dX11_about_85 rfl ?_
        exact x_iret dX11_about_86 rfl (hR0 _ h9)
      · replace h9 := ifF hc9 h9
        refine e_iconst (v := 1) dX11_about_81 rfl ?_
        refine e_goto (tgt := 86) dX11_about_82 rfl ?_
        exact x_iret dX11_about_86 rfl (hR0 _ h9)
    replace h9 := ifF hc7 h9
    by_cases hc10 : p2 = 3
    · replace h9 := ifT hc10 h9
      refine e_tableIn (tgt := 87) dX11_about_13 (by rw [hc10]; decide) (by rw [hc10]; decide) (by rw [hc10]; rfl) rfl ?_
      refine e_aload_n dX11_about_87 rfl rfl ?_
      obtain ⟨k11, h9⟩ := chkP hN0 h9
      obtain ⟨r12, hr12, h9⟩ := elimP hN0 h9
      refine x_callVi (c := 5) (As := []) (rest := []) okX5_leftOfAll lkX11_309 rfl (by decide) rfl dX11_about_88 rfl rfl (Nat.le_of_ble_eq_true rfl) k11 (c_X5_leftOfAll i2 hr12 (CI.mk ?_))
      exact x_iret dX11_about_91 rfl (hR0 _ h9)
    replace h9 := ifF hc10 h9
    by_cases hc13 : p2 = 4
    · replace h9 := ifT hc13 h9
      refine e_tableIn (tgt := 92) dX11_about_13 (by rw [hc13]; decide) (by rw [hc13]; decide) (by rw [hc13]; rfl) rfl ?_
      refine e_aload_n dX11_about_92 rfl rfl ?_
      obtain ⟨k14, h9⟩ := chkP hN0 h9
      refine g_505 flX11_312 dX11_about_93 k14 ?_
      exact x_iret dX11_about_96 rfl (hR0 _ h9)
    replace h9 := ifF hc13 h9
    by_cases hc15 : p2 = 5
    · replace h9 := ifT hc15 h9
      refine e_tableIn (tgt := 97) dX11_about_13 (by rw [hc15]; decide) (by rw [hc15]; decide) (by rw [hc15]; rfl) rfl ?_
      refine e_aload_n dX11_about_97 rfl rfl ?_
      obtain ⟨k16, h9⟩ := chkP hN0 h9
      refine g_506 flX11_315 dX11_about_98 k16 ?_
      exact x_iret dX11_about_101 rfl (hR0 _ h9)
    replace h9 := ifF hc15 h9
    by_cases hc17 : p2 = 6
    · replace h9 := ifT hc17 h9
      refine e_tableIn (tgt := 102) dX11_about_13 (by rw [hc17]; decide) (by rw [hc17]; decide) (by rw [hc17]; rfl) rfl ?_
      refine e_aload_n dX11_about_102 rfl rfl ?_
      obtain ⟨k18, h9⟩ := chkP hN0 h9
      refine g_507 flX11_318 dX11_about_103 k18 ?_
      exact x_iret dX11_about_106 rfl (hR0 _ h9)
    replace h9 := ifF hc17 h9
    by_cases hc19 : p2 = 7
    · replace h9 := ifT hc19 h9
      refine e_tableIn (tgt := 107) dX11_about_13 (by rw [hc19]; decide) (by rw [hc19]; decide) (by rw [hc19]; rfl) rfl ?_
      refine e_aload_n dX11_about_107 rfl rfl ?_
      obtain ⟨k20, h9⟩ := chkP hN0 h9
      refine g_508 flX11_321 dX11_about_108 k20 ?_
      exact x_iret dX11_about_111 rfl (hR0 _ h9)
    replace h9 := ifF hc19 h9
    by_cases hc21 : p2 = 8
    · replace h9 := ifT hc21 h9
      refine e_tableIn (tgt := 112) dX11_about_13 (by rw [hc21]; decide) (by rw [hc21]; decide) (by rw [hc21]; rfl) rfl ?_
      refine e_aload_n dX11_about_112 rfl rfl ?_
      obtain ⟨k22, h9⟩ := chkP hN0 h9
      refine g_509 flX11_324 dX11_about_113 k22 ?_
      exact x_iret dX11_about_116 rfl (hR0 _ h9)
    replace h9 := ifF hc21 h9
    refine e_tableOut (tgt := 117) dX11_about_13 (sw_out9 hc3 hc5 hc7 hc10 hc13 hc15 hc17 hc19 hc21) rfl ?_
    refine e_iconst (v := (-1)) dX11_about_117 rfl ?_
    exact x_iret dX11_about_118 rfl (hR0 _ h9)
noncomputable def f_X11_left (x : VM) (p1 : Int32) (p2 : Int32) : Option (Int32) := (f_X11_sceneAt x p1 p2).elim none (fun r1 => r1.elim (some (-1)) (fun i2 => if i2 / 8 < x.2.2.2 5 ∧ i2 % 8 < x.2.2.2 (20 + i2 / 8) then some (x.1 803 i2) else none))
theorem c_X11_left {g : GG} {d : Nat} {ad : AD} {x m : VM} {Q : Option Value → VM → VM → Prop} (p1 : Int32) (p2 : Int32) {r9 : Int32} (hf : f_X11_left x p1 p2 = some r9) (hq : Q (some (.int r9)) x m) : CX g (d + 2) MX11_left [.ref (ad 11 0), .int p1, .int p2] ad x m Q := by
  refine CX.to (Lv := [some (.ref (ad 11 0)), some (.int p1), some (.int p2), none]) okX11_left (Nat.le_of_ble_eq_true rfl) rfl ?_
  obtain ⟨Φ0, hΦ⟩ : ∃ Φ : Option (Int32) → Prop, Φ = fun o => o = some r9 := ⟨_, rfl⟩
  have hN0 : Φ0 none → False := by rw [hΦ]; intro h; cases h
  have hR0 : ∀ z9, Φ0 (some z9) → Q (some (.int z9)) x m := by rw [hΦ]; intro z9 h; cases h; exact hq
  have h9 : Φ0 (f_X11_left x p1 p2) := by rw [hΦ]; exact hf
  clear hf hq hΦ
  unfold f_X11_left at h9
  refine e_aload_n dX11_left_0 rfl rfl ?_
  refine e_iload_n dX11_left_1 rfl rfl ?_
  refine e_iload_n dX11_left_2 rfl rfl ?_
  obtain ⟨r1, hr1, h9⟩ := elimP hN0 h9
  refine x_callVi (c := 11) (As := [.int p1, .int p2]) (rest := []) okX11_sceneAt lkX11_253 rfl (by decide) rfl dX11_left_3 rfl rfl (Nat.le_of_ble_eq_true rfl) rfl (c_X11_sceneAt p1 p2 hr1 (CI.mk ?_))
  cases r1 with
  | none =>
    replace h9 := elN h9
    refine e_top (v := .null) rfl ?_
    refine e_astore_nN (L' := [some (.ref (ad 11 0)), some (.int p1), some (.int p2), some (.null)]) dX11_left_6 rfl (by decide) rfl ?_
    refine e_aload_nN dX11_left_7 rfl rfl ?_
    refine e_ifnonnullN dX11_left_8 ?_
    refine e_iconst (v := (-1)) dX11_left_11 rfl ?_
    refine e_goto (tgt := 19) dX11_left_12 rfl ?_
    exact x_iret dX11_left_19 rfl (hR0 _ h9)
  | some i2 =>
    replace h9 := elS h9
    refine e_top (v := .ref (ad 8 i2)) rfl ?_
    refine e_astore_n (L' := [some (.ref (ad 11 0)), some (.int p1), some (.int p2), some (.ref (ad 8 i2))]) dX11_left_6 rfl (by decide) rfl ?_
    refine e_aload_n dX11_left_7 rfl rfl ?_
    refine e_ifnonnull (tgt := 15) dX11_left_8 rfl ?_
    refine e_aload_n dX11_left_15 rfl rfl ?_
    obtain ⟨k3, h9⟩ := chkP hN0 h9
    refine g_803 flX11_294 dX11_left_16 k3 ?_
    exact x_iret dX11_left_19 rfl (hR0 _ h9)
noncomputable def f_X11_draft (x : VM) (p1 : Int32) (p2 : Int32) (p3 : Int32) : Option (Int32 × VM) := (f_X11_pictureAt x p1).elim none (fun r1 => r1.elim ((f_X11_rowLack x p3).elim none (fun r3 => (f_X11_refused x (-1)).elim none (fun r4p => some (r4p.1, r4p.2)))) (fun i2 => (f_X11_rowLack x p3).elim none (fun r7 => if p2 < 0 then (f_X11_refused x (-1)).elim none (fun r9p => some (r9p.1, r9p.2)) else if 6 ≤ p2 then (f_X11_refused x (-1)).elim none (fun r13p => some (r13p.1, r13p.2)) else if r7 = (-1) then (f_X11_refused x (-1)).elim none (fun r30p => some (r30p.1, r30p.2)) else if r7 = 0 then if i2 < x.2.2.2 5 then if (x.1 509 i2) < 8 then if inb p3 8 = true then (f_X0_add x i2 p2 p3.toNatClampNeg).elim none (fun r21p => some (r21p.1, r21p.2)) else none else (f_X11_refused x (-7)).elim none (fun r24p => some (r24p.1, r24p.2)) else none else (f_X11_refused x r7).elim none (fun r27p => some (r27p.1, r27p.2)))))
theorem c_X11_draft {g : GG} {d : Nat} {ad : AD} {x m : VM} {Q : Option Value → VM → VM → Prop} (p1 : Int32) (p2 : Int32) (p3 : Int32) {r9 : Int32} {w9 : VM} (hf : f_X11_draft x p1 p2 p3 = some (r9, w9)) (hq : Q (some (.int r9)) w9 m) : CX g (d + 3) MX11_draft [.ref (ad 11 0), .int p1, .int p2, .int p3] ad x m Q := by
  refine CX.to (Lv := [some (.ref (ad 11 0)), some (.int p1), some (.int p2), some (.int p3), none, none]) okX11_draft (Nat.le_of_ble_eq_true rfl) rfl ?_
  obtain ⟨Φ0, hΦ⟩ : ∃ Φ : Option (Int32 × VM) → Prop, Φ = fun o => o = some (r9, w9) := ⟨_, rfl⟩
  have hN0 : Φ0 none → False := by rw [hΦ]; intro h; cases h
  have hR0 : ∀ z9 y9, Φ0 (some (z9, y9)) → Q (some (.int z9)) y9 m := by rw [hΦ]; intro z9 y9 h; cases h; exact hq
  have h9 : Φ0 (f_X11_draft x p1 p2 p3) := by rw [hΦ]; exact hf
  clear hf hq hΦ
  unfold f_X11_draft at h9
  refine e_aload_n dX11_draft_0 rfl rfl ?_
  refine e_iload_n dX11_draft_1 rfl rfl ?_
  obtain ⟨r1, hr1, h9⟩ := elimP hN0 h9
  refine x_callVi (c := 11) (As := [.int p1]) (rest := []) okX11_pictureAt lkX11_164 rfl (by decide) rfl dX11_draft_2 rfl rfl (Nat.le_of_ble_eq_true rfl) rfl (c_X11_pictureAt p1 hr1 (CI.mk ?_))
  cases r1 with
  | none =>
    replace h9 := elN h9
    refine e_top (v := .null) rfl ?_
    refine e_astoreN (L' := [some (.ref (ad 11 0)), some (.int p1), some (.int p2), some (.int p3), some (.null), none]) dX11_draft_5 (by decide) rfl ?_
    refine e_aload_n dX11_draft_7 rfl rfl ?_
    refine e_iload_n dX11_draft_8 rfl rfl ?_
    obtain ⟨r3, hr3, h9⟩ := elimP hN0 h9
    refine x_callVi (c := 11) (As := [.int p3]) (rest := []) okX11_rowLack lkX11_123 rfl (by decide) rfl dX11_draft_9 rfl rfl (Nat.le_of_ble_eq_true rfl) rfl (c_X11_rowLack p3 hr3 (CI.mk ?_))
    refine e_istore (L' := [some (.ref (ad 11 0)), some (.int p1), some (.int p2), some (.int p3), some (.null), some (.int r3)]) dX11_draft_12 (by decide) rfl ?_
    refine e_aloadN dX11_draft_14 rfl ?_
    refine e_ifnullN (tgt := 35) dX11_draft_16 rfl ?_
    refine e_aload_n dX11_draft_35 rfl rfl ?_
    refine e_pc (pc' := 36) rfl ?_
    refine e_iconst (v := (-1)) dX11_draft_36 rfl ?_
    obtain ⟨⟨r4, w5⟩, hr4, h9⟩ := elimP hN0 h9
    refine x_callVi (c := 11) (As := [.int (-1)]) (rest := []) okX11_refused lkX11_105 rfl (by decide) rfl dX11_draft_37 rfl rfl (Nat.le_of_ble_eq_true rfl) rfl (c_X11_refused (-1) hr4 (CI.mk ?_))
    exact x_iret dX11_draft_40 rfl (hR0 _ _ h9)
  | some i2 =>
    replace h9 := elS h9
    refine e_top (v := .ref (ad 5 i2)) rfl ?_
    refine e_astore (L' := [some (.ref (ad 11 0)), some (.int p1), some (.int p2), some (.int p3), some (.ref (ad 5 i2)), none]) dX11_draft_5 (by decide) rfl ?_
    refine e_aload_n dX11_draft_7 rfl rfl ?_
    refine e_iload_n dX11_draft_8 rfl rfl ?_
    obtain ⟨r7, hr7, h9⟩ := elimP hN0 h9
    refine x_callVi (c := 11) (As := [.int p3]) (rest := []) okX11_rowLack lkX11_123 rfl (by decide) rfl dX11_draft_9 rfl rfl (Nat.le_of_ble_eq_true rfl) rfl (c_X11_rowLack p3 hr7 (CI.mk ?_))
    refine e_istore (L' := [some (.ref (ad 11 0)), some (.int p1), some (.int p2), some (.int p3), some (.ref (ad 5 i2)), some (.int r7)]) dX11_draft_12 (by decide) rfl ?_
    refine e_aload dX11_draft_14 rfl ?_
    refine e_ifnull dX11_draft_16 ?_
    refine e_iload_n dX11_draft_19 rfl rfl ?_
    refine e_pc (pc' := 20) rfl ?_
    refine e_if_lt (tgt := 35) dX11_draft_20 rfl (fun hc8 => ?_) (fun hc8 => ?_)
    · replace h9 := ifT hc8 h9
      refine e_aload_n dX11_draft_35 rfl rfl ?_
      refine e_iconst (v := (-1)) dX11_draft_36 rfl ?_
      obtain ⟨⟨r9, w10⟩, hr9, h9⟩ := elimP hN0 h9
      refine x_callVi (c := 11) (As := [.int (-1)]) (rest := []) okX11_refused lkX11_105 rfl (by decide) rfl dX11_draft_37 rfl rfl (Nat.le_of_ble_eq_true rfl) rfl (c_X11_refused (-1) hr9 (CI.mk ?_))
      exact x_iret dX11_draft_40 rfl (hR0 _ _ h9)
    · replace h9 := ifF hc8 h9
      refine e_iload_n dX11_draft_23 rfl rfl ?_
      refine e_bipush (v := 6) dX11_draft_24 rfl ?_
      refine e_icmp_ge (tgt := 35) dX11_draft_26 rfl (fun hc12 => ?_) (fun hc12 => ?_)
      · replace h9 := ifT hc12 h9
        refine e_aload_n dX11_draft_35 rfl rfl ?_
        refine e_iconst (v := (-1)) dX11_draft_36 rfl ?_
        obtain ⟨⟨r13, w14⟩, hr13, h9⟩ := elimP hN0 h9
        refine x_callVi (c := 11) (As := [.int (-1)]) (rest := []) okX11_refused lkX11_105 rfl (by decide) rfl dX11_draft_37 rfl rfl (Nat.le_of_ble_eq_true rfl) rfl (c_X11_refused (-1) hr13 (CI.mk ?_))
        exact x_iret dX11_draft_40 rfl (hR0 _ _ h9)
      · replace h9 := ifF hc12 h9
        refine e_iload dX11_draft_29 rfl ?_
        refine e_iconst (v := (-1)) dX11_draft_31 rfl ?_
        refine e_icmp_ne (tgt := 41) dX11_draft_32 rfl (fun hc16 => ?_) (fun hc16 => ?_)
        · replace h9 := ifF hc16 h9
          refine e_iload dX11_draft_41 rfl ?_
          refine e_if_eq (tgt := 53) dX11_draft_43 rfl (fun hc17 => ?_) (fun hc17 => ?_)
          · replace h9 := ifT hc17 h9
            refine e_aload dX11_draft_53 rfl ?_
            obtain ⟨k18, h9⟩ := chkP hN0 h9
            refine g_509 flX11_324 dX11_draft_55 k18 ?_
            refine e_bipush (v := 8) dX11_draft_58 rfl ?_
            refine e_icmp_lt (tgt := 70) dX11_draft_60 rfl (fun hc19 => ?_) (fun hc19 => ?_)
            · replace h9 := ifT hc19 h9
              refine e_aload_n dX11_draft_70 rfl rfl ?_
              refine g_1107 flX11_57 dX11_draft_71 ?_
              refine e_aload dX11_draft_74 rfl ?_
              refine e_iload_n dX11_draft_76 rfl rfl ?_
              refine e_aload_n dX11_draft_77 rfl rfl ?_
              refine g_1100 flX11_11 dX11_draft_78 ?_
              refine e_iload_n dX11_draft_81 rfl rfl ?_
              obtain ⟨k20, h9⟩ := chkP hN0 h9
              refine l_1100 dX11_draft_82 (inb_in k20) ?_
              refine e_top (v := .ref (ad 9 p3.toNatClampNeg)) rfl ?_
              refine e_pc (pc' := 83) rfl ?_
              obtain ⟨⟨r21, w22⟩, hr21, h9⟩ := elimP hN0 h9
              refine x_callVi (c := 0) (As := [.ref (ad 5 i2), .int p2, .ref (ad 9 p3.toNatClampNeg)]) (rest := []) okX0_add lkX11_327 rfl (by decide) rfl dX11_draft_83 rfl rfl (Nat.le_of_ble_eq_true rfl) rfl (c_X0_add i2 p2 p3.toNatClampNeg hr21 (CI.mk ?_))
              exact x_iret dX11_draft_86 rfl (hR0 _ _ h9)
            · replace h9 := ifF hc19 h9
              refine e_aload_n dX11_draft_63 rfl rfl ?_
              refine e_bipush (v := (-7)) dX11_draft_64 rfl ?_
              obtain ⟨⟨r24, w25⟩, hr24, h9⟩ := elimP hN0 h9
              refine x_callVi (c := 11) (As := [.int (-7)]) (rest := []) okX11_refused lkX11_105 rfl (by decide) rfl dX11_draft_66 rfl rfl (Nat.le_of_ble_eq_true rfl) rfl (c_X11_refused (-7) hr24 (CI.mk ?_))
              exact x_iret dX11_draft_69 rfl (hR0 _ _ h9)
          · replace h9 := ifF hc17 h9
            refine e_aload_n dX11_draft_46 rfl rfl ?_
            refine e_iload dX11_draft_47 rfl ?_
            obtain ⟨⟨r27, w28⟩, hr27, h9⟩ := elimP hN0 h9
            refine x_callVi (c := 11) (As := [.int r7]) (rest := []) okX11_refused lkX11_105 rfl (by decide) rfl dX11_draft_49 rfl rfl (Nat.le_of_ble_eq_true rfl) rfl (c_X11_refused r7 hr27 (CI.mk ?_))
            exact x_iret dX11_draft_52 rfl (hR0 _ _ h9)
        · replace h9 := ifT hc16 h9
          refine e_aload_n dX11_draft_35 rfl rfl ?_
          refine e_iconst (v := (-1)) dX11_draft_36 rfl ?_
          obtain ⟨⟨r30, w31⟩, hr30, h9⟩ := elimP hN0 h9
          refine x_callVi (c := 11) (As := [.int (-1)]) (rest := []) okX11_refused lkX11_105 rfl (by decide) rfl dX11_draft_37 rfl rfl (Nat.le_of_ble_eq_true rfl) rfl (c_X11_refused (-1) hr30 (CI.mk ?_))
          exact x_iret dX11_draft_40 rfl (hR0 _ _ h9)
noncomputable def f_X11_credit (x : VM) (p1 : Int32) (p2 : Int32) : Option (Int32) := (f_X11_pictureAt x p1).elim none (fun r1 => r1.elim (some (-1)) (fun i2 => if p2 < 0 then some (-1) else if p2 < 6 then if i2 < x.2.2.2 5 then (f_X5_linesOf x i2 p2).elim none (fun r6 => some r6) else none else some (-1)))
theorem c_X11_credit {g : GG} {d : Nat} {ad : AD} {x m : VM} {Q : Option Value → VM → VM → Prop} (p1 : Int32) (p2 : Int32) {r9 : Int32} (hf : f_X11_credit x p1 p2 = some r9) (hq : Q (some (.int r9)) x m) : CX g (d + 1) MX11_credit [.ref (ad 11 0), .int p1, .int p2] ad x m Q := by
  refine CX.to (Lv := [some (.ref (ad 11 0)), some (.int p1), some (.int p2), none]) okX11_credit (Nat.le_of_ble_eq_true rfl) rfl ?_
  obtain ⟨Φ0, hΦ⟩ : ∃ Φ : Option (Int32) → Prop, Φ = fun o => o = some r9 := ⟨_, rfl⟩
  have hN0 : Φ0 none → False := by rw [hΦ]; intro h; cases h
  have hR0 : ∀ z9, Φ0 (some z9) → Q (some (.int z9)) x m := by rw [hΦ]; intro z9 h; cases h; exact hq
  have h9 : Φ0 (f_X11_credit x p1 p2) := by rw [hΦ]; exact hf
  clear hf hq hΦ
  unfold f_X11_credit at h9
  refine e_aload_n dX11_credit_0 rfl rfl ?_
  refine e_iload_n dX11_credit_1 rfl rfl ?_
  obtain ⟨r1, hr1, h9⟩ := elimP hN0 h9
  refine x_callVi (c := 11) (As := [.int p1]) (rest := []) okX11_pictureAt lkX11_164 rfl (by decide) rfl dX11_credit_2 rfl rfl (Nat.le_of_ble_eq_true rfl) rfl (c_X11_pictureAt p1 hr1 (CI.mk ?_))
  cases r1 with
  | none =>
    replace h9 := elN h9
    refine e_top (v := .null) rfl ?_
    refine e_astore_nN (L' := [some (.ref (ad 11 0)), some (.int p1), some (.int p2), some (.null)]) dX11_credit_5 rfl (by decide) rfl ?_
    refine e_aload_nN dX11_credit_6 rfl rfl ?_
    refine e_ifnullN (tgt := 20) dX11_credit_7 rfl ?_
    refine e_iconst (v := (-1)) dX11_credit_20 rfl ?_
    exact x_iret dX11_credit_21 rfl (hR0 _ h9)
  | some i2 =>
    replace h9 := elS h9
    refine e_top (v := .ref (ad 5 i2)) rfl ?_
    refine e_astore_n (L' := [some (.ref (ad 11 0)), some (.int p1), some (.int p2), some (.ref (ad 5 i2))]) dX11_credit_5 rfl (by decide) rfl ?_
    refine e_aload_n dX11_credit_6 rfl rfl ?_
    refine e_ifnull dX11_credit_7 ?_
    refine e_iload_n dX11_credit_10 rfl rfl ?_
    refine e_if_lt (tgt := 20) dX11_credit_11 rfl (fun hc3 => ?_) (fun hc3 => ?_)
    · replace h9 := ifT hc3 h9
      refine e_iconst (v := (-1)) dX11_credit_20 rfl ?_
      exact x_iret dX11_credit_21 rfl (hR0 _ h9)
    · replace h9 := ifF hc3 h9
      refine e_iload_n dX11_credit_14 rfl rfl ?_
      refine e_bipush (v := 6) dX11_credit_15 rfl ?_
      refine e_icmp_lt (tgt := 22) dX11_credit_17 rfl (fun hc4 => ?_) (fun hc4 => ?_)
      · replace h9 := ifT hc4 h9
        refine e_aload_n dX11_credit_22 rfl rfl ?_
        refine e_iload_n dX11_credit_23 rfl rfl ?_
        obtain ⟨k5, h9⟩ := chkP hN0 h9
        obtain ⟨r6, hr6, h9⟩ := elimP hN0 h9
        refine x_callVi (c := 5) (As := [.int p2]) (rest := []) okX5_linesOf lkX11_331 rfl (by decide) rfl dX11_credit_24 rfl rfl (Nat.le_of_ble_eq_true rfl) k5 (c_X5_linesOf i2 p2 hr6 (CI.mk ?_))
        exact x_iret dX11_credit_27 rfl (hR0 _ h9)
      · replace h9 := ifF hc4 h9
        refine e_iconst (v := (-1)) dX11_credit_20 rfl ?_
        exact x_iret dX11_credit_21 rfl (hR0 _ h9)
noncomputable def b_X11_named_21 (x : VM) (p1 : Int32) (i2 : Nat) (v6 : Int32 × Int32) : (Int32 × Int32) ⊕ (Option (Int32 × VM)) := if 6 ≤ v6.2 then Sum.inr (some (v6.1, x)) else if i2 < x.2.2.2 5 then (f_X5_linesOf x i2 v6.2).elim (Sum.inr none) (fun r9 => if r9 ≤ 0 then Sum.inl (v6.1, v6.2 + 1) else if (5 * r9) < (x.1 512 i2) then Sum.inl (v6.1, v6.2 + 1) else Sum.inl (v6.1 ||| ((1 : Int32) <<< (v6.2 &&& 31)), v6.2 + 1)) else Sum.inr none
noncomputable def f_X11_named (x : VM) (p1 : Int32) : Option (Int32 × VM) := (f_X11_pictureAt x p1).elim none (fun r1 => r1.elim ((f_X11_refused x (-1)).elim none (fun r3p => some (r3p.1, r3p.2))) (fun i2 => loopF none (b_X11_named_21 x p1 i2) (0, 0)))
theorem c_X11_named {g : GG} {d : Nat} {ad : AD} {x m : VM} {Q : Option Value → VM → VM → Prop} (p1 : Int32) {r9 : Int32} {w9 : VM} (hf : f_X11_named x p1 = some (r9, w9)) (hq : Q (some (.int r9)) w9 m) : CX g (d + 1) MX11_named [.ref (ad 11 0), .int p1] ad x m Q := by
  refine CX.to (Lv := [some (.ref (ad 11 0)), some (.int p1), none, none, none, none]) okX11_named (Nat.le_of_ble_eq_true rfl) rfl ?_
  obtain ⟨Φ0, hΦ⟩ : ∃ Φ : Option (Int32 × VM) → Prop, Φ = fun o => o = some (r9, w9) := ⟨_, rfl⟩
  have hN0 : Φ0 none → False := by rw [hΦ]; intro h; cases h
  have hR0 : ∀ z9 y9, Φ0 (some (z9, y9)) → Q (some (.int z9)) y9 m := by rw [hΦ]; intro z9 y9 h; cases h; exact hq
  have h9 : Φ0 (f_X11_named x p1) := by rw [hΦ]; exact hf
  clear hf hq hΦ
  unfold f_X11_named at h9
  refine e_aload_n dX11_named_0 rfl rfl ?_
  refine e_iload_n dX11_named_1 rfl rfl ?_
  obtain ⟨r1, hr1, h9⟩ := elimP hN0 h9
  refine x_callVi (c := 11) (As := [.int p1]) (rest := []) okX11_pictureAt lkX11_164 rfl (by decide) rfl dX11_named_2 rfl rfl (Nat.le_of_ble_eq_true rfl) rfl (c_X11_pictureAt p1 hr1 (CI.mk ?_))
  cases r1 with
  | none =>
    replace h9 := elN h9
    refine e_top (v := .null) rfl ?_
    refine e_astore_nN (L' := [some (.ref (ad 11 0)), some (.int p1), some (.null), none, none, none]) dX11_named_5 rfl (by decide) rfl ?_
    refine e_aload_nN dX11_named_6 rfl rfl ?_
    refine e_ifnonnullN dX11_named_7 ?_
    refine e_aload_n dX11_named_10 rfl rfl ?_
    refine e_iconst (v := (-1)) dX11_named_11 rfl ?_
    obtain ⟨⟨r3, w4⟩, hr3, h9⟩ := elimP hN0 h9
    refine x_callVi (c := 11) (As := [.int (-1)]) (rest := []) okX11_refused lkX11_105 rfl (by decide) rfl dX11_named_12 rfl rfl (Nat.le_of_ble_eq_true rfl) rfl (c_X11_refused (-1) hr3 (CI.mk ?_))
    exact x_iret dX11_named_15 rfl (hR0 _ _ h9)
  | some i2 =>
    replace h9 := elS h9
    refine e_top (v := .ref (ad 5 i2)) rfl ?_
    refine e_astore_n (L' := [some (.ref (ad 11 0)), some (.int p1), some (.ref (ad 5 i2)), none, none, none]) dX11_named_5 rfl (by decide) rfl ?_
    refine e_aload_n dX11_named_6 rfl rfl ?_
    refine e_ifnonnull (tgt := 16) dX11_named_7 rfl ?_
    refine e_iconst (v := 0) dX11_named_16 rfl ?_
    refine e_istore_n (L' := [some (.ref (ad 11 0)), some (.int p1), some (.ref (ad 5 i2)), some (.int 0), none, none]) dX11_named_17 rfl (by decide) rfl ?_
    refine e_iconst (v := 0) dX11_named_18 rfl ?_
    refine e_istore (L' := [some (.ref (ad 11 0)), some (.int p1), some (.ref (ad 5 i2)), some (.int 0), some (.int 0), none]) dX11_named_19 (by decide) rfl ?_
    refine e_wk (L' := [none, none, some (.ref (ad 5 i2)), some (.int 0), some (.int 0), none]) (wkN (wkN (wkC (wkC (wkC (wkN wk0)))))) ?_
    refine loop_gen (b_X11_named_21 x p1 i2) none (fun v6 => EX g (d + 1) MX11_named ad x m 21 [none, none, some (.ref (ad 5 i2)), some (.int v6.1), some (.int v6.2), none] [] Q) Φ0 hN0 (fun v6 Φ1 hB0_1 hO1 h9 => ?_) (0, 0) h9
    have hN1 := fun h => hN0 (hO1 _ h)
    have hR1 := fun r9 x9 h => hR0 r9 x9 (hO1 _ h)
    have hB0_1 : ∀ (z0 : Int32) (z1 : Int32), Φ1 (Sum.inl (z0, z1)) → EX g (d + 1) MX11_named ad x m 21 [none, none, some (.ref (ad 5 i2)), some (.int z0), some (.int z1), none] [] Q := fun z0 z1 h => hB0_1 (z0, z1) h
    unfold b_X11_named_21 at h9
    refine e_iload dX11_named_21 rfl ?_
    refine e_bipush (v := 6) dX11_named_23 rfl ?_
    refine e_icmp_ge (tgt := 65) dX11_named_25 rfl (fun hc7 => ?_) (fun hc7 => ?_)
    · replace h9 := ifT hc7 h9
      refine e_iload_n dX11_named_65 rfl rfl ?_
      exact x_iret dX11_named_66 rfl (hR1 _ _ h9)
    · replace h9 := ifF hc7 h9
      refine e_aload_n dX11_named_28 rfl rfl ?_
      refine e_iload dX11_named_29 rfl ?_
      obtain ⟨k8, h9⟩ := chkP hN1 h9
      obtain ⟨r9, hr9, h9⟩ := elimP hN1 h9
      refine x_callVi (c := 5) (As := [.int v6.2]) (rest := []) okX5_linesOf lkX11_331 rfl (by decide) rfl dX11_named_31 rfl rfl (Nat.le_of_ble_eq_true rfl) k8 (c_X5_linesOf i2 v6.2 hr9 (CI.mk ?_))
      refine e_istore (L' := [none, none, some (.ref (ad 5 i2)), some (.int v6.1), some (.int v6.2), some (.int r9)]) dX11_named_34 (by decide) rfl ?_
      refine e_iload dX11_named_36 rfl ?_
      refine e_if_le (tgt := 59) dX11_named_38 rfl (fun hc10 => ?_) (fun hc10 => ?_)
      · replace h9 := ifT hc10 h9
        refine e_iinc (v := (v6.2 + 1)) (L' := [none, none, some (.ref (ad 5 i2)), some (.int v6.1), some (.int (v6.2 + 1)), some (.int r9)]) dX11_named_59 rfl rfl (by decide) rfl ?_
        refine e_goto (tgt := 21) dX11_named_62 rfl ?_
        refine e_wk (L' := [none, none, some (.ref (ad 5 i2)), some (.int v6.1), some (.int (v6.2 + 1)), none]) (wkN (wkN (wkC (wkC (wkC (wkN wk0)))))) ?_
        exact hB0_1 _ _ h9
      · replace h9 := ifF hc10 h9
        refine e_iconst (v := 5) dX11_named_41 rfl ?_
        refine e_iload dX11_named_42 rfl ?_
        refine e_imul dX11_named_44 ?_
        refine e_aload_n dX11_named_45 rfl rfl ?_
        refine g_512 flX11_334 dX11_named_46 k8 ?_
        refine e_icmp_lt (tgt := 59) dX11_named_49 rfl (fun hc11 => ?_) (fun hc11 => ?_)
        · replace h9 := ifT hc11 h9
          refine e_iinc (v := (v6.2 + 1)) (L' := [none, none, some (.ref (ad 5 i2)), some (.int v6.1), some (.int (v6.2 + 1)), some (.int r9)]) dX11_named_59 rfl rfl (by decide) rfl ?_
          refine e_goto (tgt := 21) dX11_named_62 rfl ?_
          refine e_wk (L' := [none, none, some (.ref (ad 5 i2)), some (.int v6.1), some (.int (v6.2 + 1)), none]) (wkN (wkN (wkC (wkC (wkC (wkN wk0)))))) ?_
          exact hB0_1 _ _ h9
        · replace h9 := ifF hc11 h9
          refine e_iload_n dX11_named_52 rfl rfl ?_
          refine e_iconst (v := 1) dX11_named_53 rfl ?_
          refine e_iload dX11_named_54 rfl ?_
          refine e_ishl dX11_named_56 ?_
          refine e_ior dX11_named_57 ?_
          refine e_istore_n (L' := [none, none, some (.ref (ad 5 i2)), some (.int (v6.1 ||| ((1 : Int32) <<< (v6.2 &&& 31)))), some (.int v6.2), some (.int r9)]) dX11_named_58 rfl (by decide) rfl ?_
          refine e_iinc (v := (v6.2 + 1)) (L' := [none, none, some (.ref (ad 5 i2)), some (.int (v6.1 ||| ((1 : Int32) <<< (v6.2 &&& 31)))), some (.int (v6.2 + 1)), some (.int r9)]) dX11_named_59 rfl rfl (by decide) rfl ?_
          refine e_goto (tgt := 21) dX11_named_62 rfl ?_
          refine e_wk (L' := [none, none, some (.ref (ad 5 i2)), some (.int (v6.1 ||| ((1 : Int32) <<< (v6.2 &&& 31)))), some (.int (v6.2 + 1)), none]) (wkN (wkN (wkC (wkC (wkC (wkN wk0)))))) ?_
          exact hB0_1 _ _ h9
noncomputable def f_X11_code (x : VM) (p1 : Int32) (p2 : Int32) : Option (Int32 × VM) := if p1 < 0 then (f_X11_refused x (-1)).elim none (fun r2p => some (r2p.1, r2p.2)) else if p1 < 4 then if p2 < 0 then (f_X11_refused x (-6)).elim none (fun r7p => some (r7p.1, r7p.2)) else if p2 ≤ 9 then if inb p1 4 = true then if inb p1 4 = true then some (x.2.1 1110 0 p1.toNatClampNeg, setA x 1110 0 (upd (x.2.1 1110 0) p1.toNatClampNeg p2)) else none else none else (f_X11_refused x (-6)).elim none (fun r13p => some (r13p.1, r13p.2)) else (f_X11_refused x (-1)).elim none (fun r16p => some (r16p.1, r16p.2))
theorem c_X11_code {g : GG} {d : Nat} {ad : AD} {x m : VM} {Q : Option Value → VM → VM → Prop} (p1 : Int32) (p2 : Int32) {r9 : Int32} {w9 : VM} (hf : f_X11_code x p1 p2 = some (r9, w9)) (hq : Q (some (.int r9)) w9 m) : CX g (d + 1) MX11_code [.ref (ad 11 0), .int p1, .int p2] ad x m Q := by
  refine CX.to (Lv := [some (.ref (ad 11 0)), some (.int p1), some (.int p2), none]) okX11_code (Nat.le_of_ble_eq_true rfl) rfl ?_
  obtain ⟨Φ0, hΦ⟩ : ∃ Φ : Option (Int32 × VM) → Prop, Φ = fun o => o = some (r9, w9) := ⟨_, rfl⟩
  have hN0 : Φ0 none → False := by rw [hΦ]; intro h; cases h
  have hR0 : ∀ z9 y9, Φ0 (some (z9, y9)) → Q (some (.int z9)) y9 m := by rw [hΦ]; intro z9 y9 h; cases h; exact hq
  have h9 : Φ0 (f_X11_code x p1 p2) := by rw [hΦ]; exact hf
  clear hf hq hΦ
  unfold f_X11_code at h9
  refine e_iload_n dX11_code_0 rfl rfl ?_
  refine e_if_lt (tgt := 9) dX11_code_1 rfl (fun hc1 => ?_) (fun hc1 => ?_)
  · replace h9 := ifT hc1 h9
    refine e_aload_n dX11_code_9 rfl rfl ?_
    refine e_iconst (v := (-1)) dX11_code_10 rfl ?_
    obtain ⟨⟨r2, w3⟩, hr2, h9⟩ := elimP hN0 h9
    refine x_callVi (c := 11) (As := [.int (-1)]) (rest := []) okX11_refused lkX11_105 rfl (by decide) rfl dX11_code_11 rfl rfl (Nat.le_of_ble_eq_true rfl) rfl (c_X11_refused (-1) hr2 (CI.mk ?_))
    exact x_iret dX11_code_14 rfl (hR0 _ _ h9)
  · replace h9 := ifF hc1 h9
    refine e_iload_n dX11_code_4 rfl rfl ?_
    refine e_iconst (v := 4) dX11_code_5 rfl ?_
    refine e_icmp_lt (tgt := 15) dX11_code_6 rfl (fun hc5 => ?_) (fun hc5 => ?_)
    · replace h9 := ifT hc5 h9
      refine e_iload_n dX11_code_15 rfl rfl ?_
      refine e_if_lt (tgt := 25) dX11_code_16 rfl (fun hc6 => ?_) (fun hc6 => ?_)
      · replace h9 := ifT hc6 h9
        refine e_aload_n dX11_code_25 rfl rfl ?_
        refine e_bipush (v := (-6)) dX11_code_26 rfl ?_
        obtain ⟨⟨r7, w8⟩, hr7, h9⟩ := elimP hN0 h9
        refine x_callVi (c := 11) (As := [.int (-6)]) (rest := []) okX11_refused lkX11_105 rfl (by decide) rfl dX11_code_28 rfl rfl (Nat.le_of_ble_eq_true rfl) rfl (c_X11_refused (-6) hr7 (CI.mk ?_))
        exact x_iret dX11_code_31 rfl (hR0 _ _ h9)
      · replace h9 := ifF hc6 h9
        refine e_iload_n dX11_code_19 rfl rfl ?_
        refine e_bipush (v := 9) dX11_code_20 rfl ?_
        refine e_icmp_le (tgt := 32) dX11_code_22 rfl (fun hc10 => ?_) (fun hc10 => ?_)
        · replace h9 := ifT hc10 h9
          refine e_aload_n dX11_code_32 rfl rfl ?_
          refine g_1110 flX11_75 dX11_code_33 ?_
          refine e_iload_n dX11_code_36 rfl rfl ?_
          obtain ⟨k11, h9⟩ := chkP hN0 h9
          refine l_1110 dX11_code_37 (inb_in k11) ?_
          refine e_istore_n (L' := [some (.ref (ad 11 0)), some (.int p1), some (.int p2), some (.int (x.2.1 1110 0 p1.toNatClampNeg))]) dX11_code_38 rfl (by decide) rfl ?_
          refine e_aload_n dX11_code_39 rfl rfl ?_
          refine g_1110 flX11_75 dX11_code_40 ?_
          refine e_iload_n dX11_code_43 rfl rfl ?_
          refine e_pc (pc' := 44) rfl ?_
          refine e_iload_n dX11_code_44 rfl rfl ?_
          obtain ⟨k12, h9⟩ := chkP hN0 h9
          refine s_1110 dX11_code_45 (inb_in k12) ?_
          refine e_iload_n dX11_code_46 rfl rfl ?_
          exact x_iret dX11_code_47 rfl (hR0 _ _ h9)
        · replace h9 := ifF hc10 h9
          refine e_aload_n dX11_code_25 rfl rfl ?_
          refine e_bipush (v := (-6)) dX11_code_26 rfl ?_
          obtain ⟨⟨r13, w14⟩, hr13, h9⟩ := elimP hN0 h9
          refine x_callVi (c := 11) (As := [.int (-6)]) (rest := []) okX11_refused lkX11_105 rfl (by decide) rfl dX11_code_28 rfl rfl (Nat.le_of_ble_eq_true rfl) rfl (c_X11_refused (-6) hr13 (CI.mk ?_))
          exact x_iret dX11_code_31 rfl (hR0 _ _ h9)
    · replace h9 := ifF hc5 h9
      refine e_aload_n dX11_code_9 rfl rfl ?_
      refine e_iconst (v := (-1)) dX11_code_10 rfl ?_
      obtain ⟨⟨r16, w17⟩, hr16, h9⟩ := elimP hN0 h9
      refine x_callVi (c := 11) (As := [.int (-1)]) (rest := []) okX11_refused lkX11_105 rfl (by decide) rfl dX11_code_11 rfl rfl (Nat.le_of_ble_eq_true rfl) rfl (c_X11_refused (-1) hr16 (CI.mk ?_))
      exact x_iret dX11_code_14 rfl (hR0 _ _ h9)
noncomputable def b_X11_barred_23 (x : VM) (p1 : Int32) (p2 : Int32) (i2 : Nat) (v6 : Int32 × Int32) : (Int32 × Int32) ⊕ (Option (Int32 × VM)) := if 4 ≤ v6.2 then Sum.inr (some (v6.1, x)) else if i2 / 8 < x.2.2.2 5 ∧ i2 % 8 < x.2.2.2 (20 + i2 / 8) then if inb v6.2 4 = true then if inb v6.2 4 = true then if (x.2.1 804 i2 v6.2.toNatClampNeg) ≤ (x.2.1 1110 0 v6.2.toNatClampNeg) then Sum.inl (v6.1, v6.2 + 1) else Sum.inl (v6.1 ||| ((1 : Int32) <<< (v6.2 &&& 31)), v6.2 + 1) else Sum.inr none else Sum.inr none else Sum.inr none
noncomputable def f_X11_barred (x : VM) (p1 : Int32) (p2 : Int32) : Option (Int32 × VM) := (f_X11_sceneAt x p1 p2).elim none (fun r1 => r1.elim ((f_X11_refused x (-1)).elim none (fun r3p => some (r3p.1, r3p.2))) (fun i2 => loopF none (b_X11_barred_23 x p1 p2 i2) (0, 0)))
theorem c_X11_barred {g : GG} {d : Nat} {ad : AD} {x m : VM} {Q : Option Value → VM → VM → Prop} (p1 : Int32) (p2 : Int32) {r9 : Int32} {w9 : VM} (hf : f_X11_barred x p1 p2 = some (r9, w9)) (hq : Q (some (.int r9)) w9 m) : CX g (d + 2) MX11_barred [.ref (ad 11 0), .int p1, .int p2] ad x m Q := by
  refine CX.to (Lv := [some (.ref (ad 11 0)), some (.int p1), some (.int p2), none, none, none]) okX11_barred (Nat.le_of_ble_eq_true rfl) rfl ?_
  obtain ⟨Φ0, hΦ⟩ : ∃ Φ : Option (Int32 × VM) → Prop, Φ = fun o => o = some (r9, w9) := ⟨_, rfl⟩
  have hN0 : Φ0 none → False := by rw [hΦ]; intro h; cases h
  have hR0 : ∀ z9 y9, Φ0 (some (z9, y9)) → Q (some (.int z9)) y9 m := by rw [hΦ]; intro z9 y9 h; cases h; exact hq
  have h9 : Φ0 (f_X11_barred x p1 p2) := by rw [hΦ]; exact hf
  clear hf hq hΦ
  unfold f_X11_barred at h9
  refine e_aload_n dX11_barred_0 rfl rfl ?_
  refine e_iload_n dX11_barred_1 rfl rfl ?_
  refine e_iload_n dX11_barred_2 rfl rfl ?_
  obtain ⟨r1, hr1, h9⟩ := elimP hN0 h9
  refine x_callVi (c := 11) (As := [.int p1, .int p2]) (rest := []) okX11_sceneAt lkX11_253 rfl (by decide) rfl dX11_barred_3 rfl rfl (Nat.le_of_ble_eq_true rfl) rfl (c_X11_sceneAt p1 p2 hr1 (CI.mk ?_))
  cases r1 with
  | none =>
    replace h9 := elN h9
    refine e_top (v := .null) rfl ?_
    refine e_astore_nN (L' := [some (.ref (ad 11 0)), some (.int p1), some (.int p2), some (.null), none, none]) dX11_barred_6 rfl (by decide) rfl ?_
    refine e_aload_nN dX11_barred_7 rfl rfl ?_
    refine e_ifnonnullN dX11_barred_8 ?_
    refine e_aload_n dX11_barred_11 rfl rfl ?_
    refine e_iconst (v := (-1)) dX11_barred_12 rfl ?_
    obtain ⟨⟨r3, w4⟩, hr3, h9⟩ := elimP hN0 h9
    refine x_callVi (c := 11) (As := [.int (-1)]) (rest := []) okX11_refused lkX11_105 rfl (by decide) rfl dX11_barred_13 rfl rfl (Nat.le_of_ble_eq_true rfl) rfl (c_X11_refused (-1) hr3 (CI.mk ?_))
    exact x_iret dX11_barred_16 rfl (hR0 _ _ h9)
  | some i2 =>
    replace h9 := elS h9
    refine e_top (v := .ref (ad 8 i2)) rfl ?_
    refine e_astore_n (L' := [some (.ref (ad 11 0)), some (.int p1), some (.int p2), some (.ref (ad 8 i2)), none, none]) dX11_barred_6 rfl (by decide) rfl ?_
    refine e_aload_n dX11_barred_7 rfl rfl ?_
    refine e_ifnonnull (tgt := 17) dX11_barred_8 rfl ?_
    refine e_iconst (v := 0) dX11_barred_17 rfl ?_
    refine e_istore (L' := [some (.ref (ad 11 0)), some (.int p1), some (.int p2), some (.ref (ad 8 i2)), some (.int 0), none]) dX11_barred_18 (by decide) rfl ?_
    refine e_iconst (v := 0) dX11_barred_20 rfl ?_
    refine e_istore (L' := [some (.ref (ad 11 0)), some (.int p1), some (.int p2), some (.ref (ad 8 i2)), some (.int 0), some (.int 0)]) dX11_barred_21 (by decide) rfl ?_
    refine e_wk (L' := [some (.ref (ad 11 0)), none, none, some (.ref (ad 8 i2)), some (.int 0), some (.int 0)]) (wkC (wkN (wkN (wkC (wkC (wkC wk0)))))) ?_
    refine loop_gen (b_X11_barred_23 x p1 p2 i2) none (fun v6 => EX g (d + 2) MX11_barred ad x m 23 [some (.ref (ad 11 0)), none, none, some (.ref (ad 8 i2)), some (.int v6.1), some (.int v6.2)] [] Q) Φ0 hN0 (fun v6 Φ1 hB0_1 hO1 h9 => ?_) (0, 0) h9
    have hN1 := fun h => hN0 (hO1 _ h)
    have hR1 := fun r9 x9 h => hR0 r9 x9 (hO1 _ h)
    have hB0_1 : ∀ (z0 : Int32) (z1 : Int32), Φ1 (Sum.inl (z0, z1)) → EX g (d + 2) MX11_barred ad x m 23 [some (.ref (ad 11 0)), none, none, some (.ref (ad 8 i2)), some (.int z0), some (.int z1)] [] Q := fun z0 z1 h => hB0_1 (z0, z1) h
    unfold b_X11_barred_23 at h9
    refine e_iload dX11_barred_23 rfl ?_
    refine e_iconst (v := 4) dX11_barred_25 rfl ?_
    refine e_icmp_ge (tgt := 61) dX11_barred_26 rfl (fun hc7 => ?_) (fun hc7 => ?_)
    · replace h9 := ifT hc7 h9
      refine e_iload dX11_barred_61 rfl ?_
      exact x_iret dX11_barred_63 rfl (hR1 _ _ h9)
    · replace h9 := ifF hc7 h9
      refine e_aload_n dX11_barred_29 rfl rfl ?_
      obtain ⟨k8, h9⟩ := chkP hN1 h9
      refine g_804 flX11_257 dX11_barred_30 k8 ?_
      refine e_iload dX11_barred_33 rfl ?_
      obtain ⟨k9, h9⟩ := chkP hN1 h9
      refine l_804 dX11_barred_35 k8 (inb_in k9) ?_
      refine e_aload_n dX11_barred_36 rfl rfl ?_
      refine g_1110 flX11_75 dX11_barred_37 ?_
      refine e_iload dX11_barred_40 rfl ?_
      obtain ⟨k10, h9⟩ := chkP hN1 h9
      refine l_1110 dX11_barred_42 (inb_in k10) ?_
      refine e_pc (pc' := 43) rfl ?_
      refine e_icmp_le (tgt := 55) dX11_barred_43 rfl (fun hc11 => ?_) (fun hc11 => ?_)
      · replace h9 := ifT hc11 h9
        refine e_iinc (v := (v6.2 + 1)) (L' := [some (.ref (ad 11 0)), none, none, some (.ref (ad 8 i2)), some (.int v6.1), some (.int (v6.2 + 1))]) dX11_barred_55 rfl rfl (by decide) rfl ?_
        refine e_goto (tgt := 23) dX11_barred_58 rfl ?_
        exact hB0_1 _ _ h9
      · replace h9 := ifF hc11 h9
        refine e_iload dX11_barred_46 rfl ?_
        refine e_iconst (v := 1) dX11_barred_48 rfl ?_
        refine e_iload dX11_barred_49 rfl ?_
        refine e_ishl dX11_barred_51 ?_
        refine e_ior dX11_barred_52 ?_
        refine e_istore (L' := [some (.ref (ad 11 0)), none, none, some (.ref (ad 8 i2)), some (.int (v6.1 ||| ((1 : Int32) <<< (v6.2 &&& 31)))), some (.int v6.2)]) dX11_barred_53 (by decide) rfl ?_
        refine e_iinc (v := (v6.2 + 1)) (L' := [some (.ref (ad 11 0)), none, none, some (.ref (ad 8 i2)), some (.int (v6.1 ||| ((1 : Int32) <<< (v6.2 &&& 31)))), some (.int (v6.2 + 1))]) dX11_barred_55 rfl rfl (by decide) rfl ?_
        refine e_goto (tgt := 23) dX11_barred_58 rfl ?_
        exact hB0_1 _ _ h9
noncomputable def b_X11_mend_33 (x : VM) (p1 : Int32) (v6 : Int32 × Int32) (i2 : Nat) (v9 : Int32 × Int32) : (Int32 × Int32) ⊕ ((Int32 × Int32) ⊕ (Option (Int32 × VM))) := if 4 ≤ v9.2 then Sum.inr (Sum.inl (v9.1, v6.2 + 1)) else if inb v6.2 8 = true then if v6.2.toNatClampNeg < x.2.2.2 (20 + i2) then if (8 * i2 + v6.2.toNatClampNeg) / 8 < x.2.2.2 5 ∧ (8 * i2 + v6.2.toNatClampNeg) % 8 < x.2.2.2 (20 + (8 * i2 + v6.2.toNatClampNeg) / 8) then if inb v9.2 4 = true then if inb v9.2 4 = true then Sum.inl (v9.1 + (if (0 : Int32) < ((x.2.1 804 (8 * i2 + v6.2.toNatClampNeg) v9.2.toNatClampNeg) - (x.2.1 1110 0 v9.2.toNatClampNeg)) then ((x.2.1 804 (8 * i2 + v6.2.toNatClampNeg) v9.2.toNatClampNeg) - (x.2.1 1110 0 v9.2.toNatClampNeg)) else (0 : Int32)), v9.2 + 1) else Sum.inr (Sum.inr none) else Sum.inr (Sum.inr none) else Sum.inr (Sum.inr none) else Sum.inr (Sum.inr none) else Sum.inr (Sum.inr none)
noncomputable def b_X11_mend_21 (x : VM) (p1 : Int32) (i2 : Nat) (v6 : Int32 × Int32) : (Int32 × Int32) ⊕ (Option (Int32 × VM)) := if i2 < x.2.2.2 5 then if (x.1 502 i2) ≤ v6.2 then Sum.inr (some (v6.1, x)) else loopF (Sum.inr none) (b_X11_mend_33 x p1 v6 i2) (v6.1, 0) else Sum.inr none
noncomputable def f_X11_mend (x : VM) (p1 : Int32) : Option (Int32 × VM) := (f_X11_pictureAt x p1).elim none (fun r1 => r1.elim ((f_X11_refused x (-1)).elim none (fun r3p => some (r3p.1, r3p.2))) (fun i2 => loopF none (b_X11_mend_21 x p1 i2) (0, 0)))
theorem c_X11_mend {g : GG} {d : Nat} {ad : AD} {x m : VM} {Q : Option Value → VM → VM → Prop} (p1 : Int32) {r9 : Int32} {w9 : VM} (hf : f_X11_mend x p1 = some (r9, w9)) (hq : Q (some (.int r9)) w9 m) : CX g (d + 1) MX11_mend [.ref (ad 11 0), .int p1] ad x m Q := by
  refine CX.to (Lv := [some (.ref (ad 11 0)), some (.int p1), none, none, none, none]) okX11_mend (Nat.le_of_ble_eq_true rfl) rfl ?_
  obtain ⟨Φ0, hΦ⟩ : ∃ Φ : Option (Int32 × VM) → Prop, Φ = fun o => o = some (r9, w9) := ⟨_, rfl⟩
  have hN0 : Φ0 none → False := by rw [hΦ]; intro h; cases h
  have hR0 : ∀ z9 y9, Φ0 (some (z9, y9)) → Q (some (.int z9)) y9 m := by rw [hΦ]; intro z9 y9 h; cases h; exact hq
  have h9 : Φ0 (f_X11_mend x p1) := by rw [hΦ]; exact hf
  clear hf hq hΦ
  unfold f_X11_mend at h9
  refine e_aload_n dX11_mend_0 rfl rfl ?_
  refine e_iload_n dX11_mend_1 rfl rfl ?_
  obtain ⟨r1, hr1, h9⟩ := elimP hN0 h9
  refine x_callVi (c := 11) (As := [.int p1]) (rest := []) okX11_pictureAt lkX11_164 rfl (by decide) rfl dX11_mend_2 rfl rfl (Nat.le_of_ble_eq_true rfl) rfl (c_X11_pictureAt p1 hr1 (CI.mk ?_))
  cases r1 with
  | none =>
    replace h9 := elN h9
    refine e_top (v := .null) rfl ?_
    refine e_astore_nN (L' := [some (.ref (ad 11 0)), some (.int p1), some (.null), none, none, none]) dX11_mend_5 rfl (by decide) rfl ?_
    refine e_aload_nN dX11_mend_6 rfl rfl ?_
    refine e_ifnonnullN dX11_mend_7 ?_
    refine e_aload_n dX11_mend_10 rfl rfl ?_
    refine e_iconst (v := (-1)) dX11_mend_11 rfl ?_
    obtain ⟨⟨r3, w4⟩, hr3, h9⟩ := elimP hN0 h9
    refine x_callVi (c := 11) (As := [.int (-1)]) (rest := []) okX11_refused lkX11_105 rfl (by decide) rfl dX11_mend_12 rfl rfl (Nat.le_of_ble_eq_true rfl) rfl (c_X11_refused (-1) hr3 (CI.mk ?_))
    exact x_iret dX11_mend_15 rfl (hR0 _ _ h9)
  | some i2 =>
    replace h9 := elS h9
    refine e_top (v := .ref (ad 5 i2)) rfl ?_
    refine e_astore_n (L' := [some (.ref (ad 11 0)), some (.int p1), some (.ref (ad 5 i2)), none, none, none]) dX11_mend_5 rfl (by decide) rfl ?_
    refine e_aload_n dX11_mend_6 rfl rfl ?_
    refine e_ifnonnull (tgt := 16) dX11_mend_7 rfl ?_
    refine e_iconst (v := 0) dX11_mend_16 rfl ?_
    refine e_istore_n (L' := [some (.ref (ad 11 0)), some (.int p1), some (.ref (ad 5 i2)), some (.int 0), none, none]) dX11_mend_17 rfl (by decide) rfl ?_
    refine e_iconst (v := 0) dX11_mend_18 rfl ?_
    refine e_istore (L' := [some (.ref (ad 11 0)), some (.int p1), some (.ref (ad 5 i2)), some (.int 0), some (.int 0), none]) dX11_mend_19 (by decide) rfl ?_
    refine e_wk (L' := [some (.ref (ad 11 0)), none, some (.ref (ad 5 i2)), some (.int 0), some (.int 0), none]) (wkC (wkN (wkC (wkC (wkC (wkN wk0)))))) ?_
    refine loop_gen (b_X11_mend_21 x p1 i2) none (fun v6 => EX g (d + 1) MX11_mend ad x m 21 [some (.ref (ad 11 0)), none, some (.ref (ad 5 i2)), some (.int v6.1), some (.int v6.2), none] [] Q) Φ0 hN0 (fun v6 Φ1 hB0_1 hO1 h9 => ?_) (0, 0) h9
    have hN1 := fun h => hN0 (hO1 _ h)
    have hR1 := fun r9 x9 h => hR0 r9 x9 (hO1 _ h)
    have hB0_1 : ∀ (z0 : Int32) (z1 : Int32), Φ1 (Sum.inl (z0, z1)) → EX g (d + 1) MX11_mend ad x m 21 [some (.ref (ad 11 0)), none, some (.ref (ad 5 i2)), some (.int z0), some (.int z1), none] [] Q := fun z0 z1 h => hB0_1 (z0, z1) h
    unfold b_X11_mend_21 at h9
    refine e_iload dX11_mend_21 rfl ?_
    refine e_aload_n dX11_mend_23 rfl rfl ?_
    obtain ⟨k7, h9⟩ := chkP hN1 h9
    refine g_502 flX11_238 dX11_mend_24 k7 ?_
    refine e_icmp_ge (tgt := 79) dX11_mend_27 rfl (fun hc8 => ?_) (fun hc8 => ?_)
    · replace h9 := ifT hc8 h9
      refine e_iload_n dX11_mend_79 rfl rfl ?_
      exact x_iret dX11_mend_80 rfl (hR1 _ _ h9)
    · replace h9 := ifF hc8 h9
      refine e_iconst (v := 0) dX11_mend_30 rfl ?_
      refine e_istore (L' := [some (.ref (ad 11 0)), none, some (.ref (ad 5 i2)), some (.int v6.1), some (.int v6.2), some (.int 0)]) dX11_mend_31 (by decide) rfl ?_
      refine loop_gen (b_X11_mend_33 x p1 v6 i2) (Sum.inr none) (fun v9 => EX g (d + 1) MX11_mend ad x m 33 [some (.ref (ad 11 0)), none, some (.ref (ad 5 i2)), some (.int v9.1), some (.int v6.2), some (.int v9.2)] [] Q) Φ1 hN1 (fun v9 Φ2 hB1_2 hO2 h9 => ?_) (v6.1, 0) h9
      have hN2 := fun h => hN1 (hO2 _ h)
      have hR2 := fun r9 x9 h => hR1 r9 x9 (hO2 _ h)
      have hB0_2 : ∀ (z0 : Int32) (z1 : Int32), Φ2 (Sum.inr (Sum.inl (z0, z1))) → EX g (d + 1) MX11_mend ad x m 21 [some (.ref (ad 11 0)), none, some (.ref (ad 5 i2)), some (.int z0), some (.int z1), none] [] Q := fun z0 z1 h => hB0_1 z0 z1 (hO2 _ h)
      have hB1_2 : ∀ (z0 : Int32) (z1 : Int32), Φ2 (Sum.inl (z0, z1)) → EX g (d + 1) MX11_mend ad x m 33 [some (.ref (ad 11 0)), none, some (.ref (ad 5 i2)), some (.int z0), some (.int v6.2), some (.int z1)] [] Q := fun z0 z1 h => hB1_2 (z0, z1) h
      unfold b_X11_mend_33 at h9
      refine e_iload dX11_mend_33 rfl ?_
      refine e_iconst (v := 4) dX11_mend_35 rfl ?_
      refine e_icmp_ge (tgt := 73) dX11_mend_36 rfl (fun hc10 => ?_) (fun hc10 => ?_)
      · replace h9 := ifT hc10 h9
        refine e_iinc (v := (v6.2 + 1)) (L' := [some (.ref (ad 11 0)), none, some (.ref (ad 5 i2)), some (.int v9.1), some (.int (v6.2 + 1)), some (.int v9.2)]) dX11_mend_73 rfl rfl (by decide) rfl ?_
        refine e_goto (tgt := 21) dX11_mend_76 rfl ?_
        refine e_wk (L' := [some (.ref (ad 11 0)), none, some (.ref (ad 5 i2)), some (.int v9.1), some (.int (v6.2 + 1)), none]) (wkC (wkN (wkC (wkC (wkC (wkN wk0)))))) ?_
        exact hB0_2 _ _ h9
      · replace h9 := ifF hc10 h9
        refine e_iload_n dX11_mend_39 rfl rfl ?_
        refine e_iconst (v := 0) dX11_mend_40 rfl ?_
        refine e_aload_n dX11_mend_41 rfl rfl ?_
        refine g_501 flX11_244 dX11_mend_42 k7 ?_
        refine e_iload dX11_mend_45 rfl ?_
        obtain ⟨k11, h9⟩ := chkP hN2 h9
        refine l_501 dX11_mend_47 k7 (inb_in k11) ?_
        obtain ⟨k12, h9⟩ := chkP hN2 h9
        refine e_top (v := .ref (ad 8 (8 * i2 + v6.2.toNatClampNeg))) (rfT k12) ?_
        obtain ⟨k13, h9⟩ := chkP hN2 h9
        refine g_804 flX11_257 dX11_mend_48 k13 ?_
        refine e_iload dX11_mend_51 rfl ?_
        refine e_pc (pc' := 53) rfl ?_
        obtain ⟨k14, h9⟩ := chkP hN2 h9
        refine l_804 dX11_mend_53 k13 (inb_in k14) ?_
        refine e_aload_n dX11_mend_54 rfl rfl ?_
        refine g_1110 flX11_75 dX11_mend_55 ?_
        refine e_iload dX11_mend_58 rfl ?_
        obtain ⟨k15, h9⟩ := chkP hN2 h9
        refine l_1110 dX11_mend_60 (inb_in k15) ?_
        refine e_isub dX11_mend_61 ?_
        refine e_mmax mmX11_337 dX11_mend_62 (Nat.le_of_ble_eq_true rfl) ?_
        refine e_iadd dX11_mend_65 ?_
        refine e_istore_n (L' := [some (.ref (ad 11 0)), none, some (.ref (ad 5 i2)), some (.int (v9.1 + (if (0 : Int32) < ((x.2.1 804 (8 * i2 + v6.2.toNatClampNeg) v9.2.toNatClampNeg) - (x.2.1 1110 0 v9.2.toNatClampNeg)) then ((x.2.1 804 (8 * i2 + v6.2.toNatClampNeg) v9.2.toNatClampNeg) - (x.2.1 1110 0 v9.2.toNatClampNeg)) else (0 : Int32)))), some (.int v6.2), some (.int v9.2)]) dX11_mend_66 rfl (by decide) rfl ?_
        refine e_pc (pc' := 67) rfl ?_
        refine e_iinc (v := (v9.2 + 1)) (L' := [some (.ref (ad 11 0)), none, some (.ref (ad 5 i2)), some (.int (v9.1 + (if (0 : Int32) < ((x.2.1 804 (8 * i2 + v6.2.toNatClampNeg) v9.2.toNatClampNeg) - (x.2.1 1110 0 v9.2.toNatClampNeg)) then ((x.2.1 804 (8 * i2 + v6.2.toNatClampNeg) v9.2.toNatClampNeg) - (x.2.1 1110 0 v9.2.toNatClampNeg)) else (0 : Int32)))), some (.int v6.2), some (.int (v9.2 + 1))]) dX11_mend_67 rfl rfl (by decide) rfl ?_
        refine e_goto (tgt := 33) dX11_mend_70 rfl ?_
        exact hB1_2 _ _ h9
noncomputable def f_X11_take (x : VM) (p1 : Int32) (p2 : Int32) (p3 : Int32) (p4 : Int32) (p5 : Int32) : Option (Int32 × VM) := (f_X11_sceneAt x p1 p2).elim none (fun r1 => r1.elim ((f_X11_refused x (-1)).elim none (fun r3p => some (r3p.1, r3p.2))) (fun i2 => if p3 < 1 then (f_X11_refused x (-6)).elim none (fun r7p => some (r7p.1, r7p.2)) else if 99 < p3 then (f_X11_refused x (-6)).elim none (fun r11p => some (r11p.1, r11p.2)) else if p4 < 0 then (f_X11_refused x (-6)).elim none (fun r15p => some (r15p.1, r15p.2)) else if 99 < p4 then (f_X11_refused x (-6)).elim none (fun r19p => some (r19p.1, r19p.2)) else if p5 < 0 then (f_X11_refused x (-6)).elim none (fun r23p => some (r23p.1, r23p.2)) else if p5 ≤ 99 then if i2 / 8 < x.2.2.2 5 ∧ i2 % 8 < x.2.2.2 (20 + i2 / 8) then if (x.1 805 i2) < 4 then if inb (x.1 805 i2) 4 = true then if inb ((setA x 806 i2 (upd (x.2.1 806 i2) ((x.1 805 i2).toNatClampNeg) p3)).1 805 i2) 4 = true then if inb ((setA (setA x 806 i2 (upd (x.2.1 806 i2) ((x.1 805 i2).toNatClampNeg) p3)) 807 i2 (upd ((setA x 806 i2 (upd (x.2.1 806 i2) ((x.1 805 i2).toNatClampNeg) p3)).2.1 807 i2) (((setA x 806 i2 (upd (x.2.1 806 i2) ((x.1 805 i2).toNatClampNeg) p3)).1 805 i2).toNatClampNeg) p4)).1 805 i2) 4 = true then some ((setA (setA (setA x 806 i2 (upd (x.2.1 806 i2) ((x.1 805 i2).toNatClampNeg) p3)) 807 i2 (upd ((setA x 806 i2 (upd (x.2.1 806 i2) ((x.1 805 i2).toNatClampNeg) p3)).2.1 807 i2) (((setA x 806 i2 (upd (x.2.1 806 i2) ((x.1 805 i2).toNatClampNeg) p3)).1 805 i2).toNatClampNeg) p4)) 808 i2 (upd ((setA (setA x 806 i2 (upd (x.2.1 806 i2) ((x.1 805 i2).toNatClampNeg) p3)) 807 i2 (upd ((setA x 806 i2 (upd (x.2.1 806 i2) ((x.1 805 i2).toNatClampNeg) p3)).2.1 807 i2) (((setA x 806 i2 (upd (x.2.1 806 i2) ((x.1 805 i2).toNatClampNeg) p3)).1 805 i2).toNatClampNeg) p4)).2.1 808 i2) (((setA (setA x 806 i2 (upd (x.2.1 806 i2) ((x.1 805 i2).toNatClampNeg) p3)) 807 i2 (upd ((setA x 806 i2 (upd (x.2.1 806 i2) ((x.1 805 i2).toNatClampNeg) p3)).2.1 807 i2) (((setA x 806 i2 (upd (x.2.1 806 i2) ((x.1 805 i2).toNatClampNeg) p3)).1 805 i2).toNatClampNeg) p4)).1 805 i2).toNatClampNeg) p5)).1 805 i2, setI (setA (setA (setA x 806 i2 (upd (x.2.1 806 i2) ((x.1 805 i2).toNatClampNeg) p3)) 807 i2 (upd ((setA x 806 i2 (upd (x.2.1 806 i2) ((x.1 805 i2).toNatClampNeg) p3)).2.1 807 i2) (((setA x 806 i2 (upd (x.2.1 806 i2) ((x.1 805 i2).toNatClampNeg) p3)).1 805 i2).toNatClampNeg) p4)) 808 i2 (upd ((setA (setA x 806 i2 (upd (x.2.1 806 i2) ((x.1 805 i2).toNatClampNeg) p3)) 807 i2 (upd ((setA x 806 i2 (upd (x.2.1 806 i2) ((x.1 805 i2).toNatClampNeg) p3)).2.1 807 i2) (((setA x 806 i2 (upd (x.2.1 806 i2) ((x.1 805 i2).toNatClampNeg) p3)).1 805 i2).toNatClampNeg) p4)).2.1 808 i2) (((setA (setA x 806 i2 (upd (x.2.1 806 i2) ((x.1 805 i2).toNatClampNeg) p3)) 807 i2 (upd ((setA x 806 i2 (upd (x.2.1 806 i2) ((x.1 805 i2).toNatClampNeg) p3)).2.1 807 i2) (((setA x 806 i2 (upd (x.2.1 806 i2) ((x.1 805 i2).toNatClampNeg) p3)).1 805 i2).toNatClampNeg) p4)).1 805 i2).toNatClampNeg) p5)) 805 i2 (((setA (setA (setA x 806 i2 (upd (x.2.1 806 i2) ((x.1 805 i2).toNatClampNeg) p3)) 807 i2 (upd ((setA x 806 i2 (upd (x.2.1 806 i2) ((x.1 805 i2).toNatClampNeg) p3)).2.1 807 i2) (((setA x 806 i2 (upd (x.2.1 806 i2) ((x.1 805 i2).toNatClampNeg) p3)).1 805 i2).toNatClampNeg) p4)) 808 i2 (upd ((setA (setA x 806 i2 (upd (x.2.1 806 i2) ((x.1 805 i2).toNatClampNeg) p3)) 807 i2 (upd ((setA x 806 i2 (upd (x.2.1 806 i2) ((x.1 805 i2).toNatClampNeg) p3)).2.1 807 i2) (((setA x 806 i2 (upd (x.2.1 806 i2) ((x.1 805 i2).toNatClampNeg) p3)).1 805 i2).toNatClampNeg) p4)).2.1 808 i2) (((setA (setA x 806 i2 (upd (x.2.1 806 i2) ((x.1 805 i2).toNatClampNeg) p3)) 807 i2 (upd ((setA x 806 i2 (upd (x.2.1 806 i2) ((x.1 805 i2).toNatClampNeg) p3)).2.1 807 i2) (((setA x 806 i2 (upd (x.2.1 806 i2) ((x.1 805 i2).toNatClampNeg) p3)).1 805 i2).toNatClampNeg) p4)).1 805 i2).toNatClampNeg) p5)).1 805 i2) + 1)) else none else none else none else (f_X11_refused x (-7)).elim none (fun r32p => some (r32p.1, r32p.2)) else none else (f_X11_refused x (-6)).elim none (fun r35p => some (r35p.1, r35p.2))))
theorem c_X11_take {g : GG} {d : Nat} {ad : AD} {x m : VM} {Q : Option Value → VM → VM → Prop} (p1 : Int32) (p2 : Int32) (p3 : Int32) (p4 : Int32) (p5 : Int32) {r9 : Int32} {w9 : VM} (hf : f_X11_take x p1 p2 p3 p4 p5 = some (r9, w9)) (hq : Q (some (.int r9)) w9 m) : CX g (d + 2) MX11_take [.ref (ad 11 0), .int p1, .int p2, .int p3, .int p4, .int p5] ad x m Q := by
  refine CX.to (Lv := [some (.ref (ad 11 0)), some (.int p1), some (.int p2), some (.int p3), some (.int p4), some (.int p5), none]) okX11_take (Nat.le_of_ble_eq_true rfl) rfl ?_
  obtain ⟨Φ0, hΦ⟩ : ∃ Φ : Option (Int32 × VM) → Prop, Φ = fun o => o = some (r9, w9) := ⟨_, rfl⟩
  have hN0 : Φ0 none → False := by rw [hΦ]; intro h; cases h
  have hR0 : ∀ z9 y9, Φ0 (some (z9, y9)) → Q (some (.int z9)) y9 m := by rw [hΦ]; intro z9 y9 h; cases h; exact hq
  have h9 : Φ0 (f_X11_take x p1 p2 p3 p4 p5) := by rw [hΦ]; exact hf
  clear hf hq hΦ
  unfold f_X11_take at h9
  refine e_aload_n dX11_take_0 rfl rfl ?_
  refine e_iload_n dX11_take_1 rfl rfl ?_
  refine e_iload_n dX11_take_2 rfl rfl ?_
  obtain ⟨r1, hr1, h9⟩ := elimP hN0 h9
  refine x_callVi (c := 11) (As := [.int p1, .int p2]) (rest := []) okX11_sceneAt lkX11_253 rfl (by decide) rfl dX11_take_3 rfl rfl (Nat.le_of_ble_eq_true rfl) rfl (c_X11_sceneAt p1 p2 hr1 (CI.mk ?_))
  cases r1 with
  | none =>
    replace h9 := elN h9
    refine e_top (v := .null) rfl ?_
    refine e_astoreN (L' := [some (.ref (ad 11 0)), some (.int p1), some (.int p2), some (.int p3), some (.int p4), some (.int p5), some (.null)]) dX11_take_6 (by decide) rfl ?_
    refine e_aloadN dX11_take_8 rfl ?_
    refine e_ifnonnullN dX11_take_10 ?_
    refine e_aload_n dX11_take_13 rfl rfl ?_
    refine e_iconst (v := (-1)) dX11_take_14 rfl ?_
    obtain ⟨⟨r3, w4⟩, hr3, h9⟩ := elimP hN0 h9
    refine x_callVi (c := 11) (As := [.int (-1)]) (rest := []) okX11_refused lkX11_105 rfl (by decide) rfl dX11_take_15 rfl rfl (Nat.le_of_ble_eq_true rfl) rfl (c_X11_refused (-1) hr3 (CI.mk ?_))
    exact x_iret dX11_take_18 rfl (hR0 _ _ h9)
  | some i2 =>
    replace h9 := elS h9
    refine e_top (v := .ref (ad 8 i2)) rfl ?_
    refine e_astore (L' := [some (.ref (ad 11 0)), some (.int p1), some (.int p2), some (.int p3), some (.int p4), some (.int p5), some (.ref (ad 8 i2))]) dX11_take_6 (by decide) rfl ?_
    refine e_aload dX11_take_8 rfl ?_
    refine e_ifnonnull (tgt := 19) dX11_take_10 rfl ?_
    refine e_iload_n dX11_take_19 rfl rfl ?_
    refine e_iconst (v := 1) dX11_take_20 rfl ?_
    refine e_icmp_lt (tgt := 54) dX11_take_21 rfl (fun hc6 => ?_) (fun hc6 => ?_)
    · replace h9 := ifT hc6 h9
      refine e_aload_n dX11_take_54 rfl rfl ?_
      refine e_bipush (v := (-6)) dX11_take_55 rfl ?_
      obtain ⟨⟨r7, w8⟩, hr7, h9⟩ := elimP hN0 h9
      refine x_callVi (c := 11) (As := [.int (-6)]) (rest := []) okX11_refused lkX11_105 rfl (by decide) rfl dX11_take_57 rfl rfl (Nat.le_of_ble_eq_true rfl) rfl (c_X11_refused (-6) hr7 (CI.mk ?_))
      exact x_iret dX11_take_60 rfl (hR0 _ _ h9)
    · replace h9 := ifF hc6 h9
      refine e_iload_n dX11_take_24 rfl rfl ?_
      refine e_bipush (v := 99) dX11_take_25 rfl ?_
      refine e_icmp_gt (tgt := 54) dX11_take_27 rfl (fun hc10 => ?_) (fun hc10 => ?_)
      · replace h9 := ifT hc10 h9
        refine e_aload_n dX11_take_54 rfl rfl ?_
        refine e_bipush (v := (-6)) dX11_take_55 rfl ?_
        obtain ⟨⟨r11, w12⟩, hr11, h9⟩ := elimP hN0 h9
        refine x_callVi (c := 11) (As := [.int (-6)]) (rest := []) okX11_refused lkX11_105 rfl (by decide) rfl dX11_take_57 rfl rfl (Nat.le_of_ble_eq_true rfl) rfl (c_X11_refused (-6) hr11 (CI.mk ?_))
        exact x_iret dX11_take_60 rfl (hR0 _ _ h9)
      · replace h9 := ifF hc10 h9
        refine e_iload dX11_take_30 rfl ?_
        refine e_if_lt (tgt := 54) dX11_take_32 rfl (fun hc14 => ?_) (fun hc14 => ?_)
        · replace h9 := ifT hc14 h9
          refine e_aload_n dX11_take_54 rfl rfl ?_
          refine e_bipush (v := (-6)) dX11_take_55 rfl ?_
          obtain ⟨⟨r15, w16⟩, hr15, h9⟩ := elimP hN0 h9
          refine x_callVi (c := 11) (As := [.int (-6)]) (rest := []) okX11_refused lkX11_105 rfl (by decide) rfl dX11_take_57 rfl rfl (Nat.le_of_ble_eq_true rfl) rfl (c_X11_refused (-6) hr15 (CI.mk ?_))
          exact x_iret dX11_take_60 rfl (hR0 _ _ h9)
        · replace h9 := ifF hc14 h9
          refine e_iload dX11_take_35 rfl ?_
          refine e_bipush (v := 99) dX11_take_37 rfl ?_
          refine e_icmp_gt (tgt := 54) dX11_take_39 rfl (fun hc18 => ?_) (fun hc18 => ?_)
          · replace h9 := ifT hc18 h9
            refine e_aload_n dX11_take_54 rfl rfl ?_
            refine e_bipush (v := (-6)) dX11_take_55 rfl ?_
            obtain ⟨⟨r19, w20⟩, hr19, h9⟩ := elimP hN0 h9
            refine x_callVi (c := 11) (As := [.int (-6)]) (rest := []) okX11_refused lkX11_105 rfl (by decide) rfl dX11_take_57 rfl rfl (Nat.le_of_ble_eq_true rfl) rfl (c_X11_refused (-6) hr19 (CI.mk ?_))
            exact x_iret dX11_take_60 rfl (hR0 _ _ h9)
          · replace h9 := ifF hc18 h9
            refine e_iload dX11_take_42 rfl ?_
            refine e_if_lt (tgt := 54) dX11_take_44 rfl (fun hc22 => ?_) (fun hc22 => ?_)
            · replace h9 := ifT hc22 h9
              refine e_aload_n dX11_take_54 rfl rfl ?_
              refine e_bipush (v := (-6)) dX11_take_55 rfl ?_
              obtain ⟨⟨r23, w24⟩, hr23, h9⟩ := elimP hN0 h9
              refine x_callVi (c := 11) (As := [.int (-6)]) (rest := []) okX11_refused lkX11_105 rfl (by decide) rfl dX11_take_57 rfl rfl (Nat.le_of_ble_eq_true rfl) rfl (c_X11_refused (-6) hr23 (CI.mk ?_))
              exact x_iret dX11_take_60 rfl (hR0 _ _ h9)
            · replace h9 := ifF hc22 h9
              refine e_iload dX11_take_47 rfl ?_
              refine e_bipush (v := 99) dX11_take_49 rfl ?_
              refine e_icmp_le (tgt := 61) dX11_take_51 rfl (fun hc26 => ?_) (fun hc26 => ?_)
              · replace h9 := ifT hc26 h9
                refine e_aload dX11_take_61 rfl ?_
                obtain ⟨k27, h9⟩ := chkP hN0 h9
                refine g_805 flX11_342 dX11_take_63 k27 ?_
                refine e_iconst (v := 4) dX11_take_66 rfl ?_
                refine e_icmp_lt (tgt := 77) dX11_take_67 rfl (fun hc28 => ?_) (fun hc28 => ?_)
                · replace h9 := ifT hc28 h9
                  refine e_aload dX11_take_77 rfl ?_
                  refine g_806 flX11_345 dX11_take_79 k27 ?_
                  refine e_aload dX11_take_82 rfl ?_
                  refine g_805 flX11_342 dX11_take_84 k27 ?_
                  refine e_iload_n dX11_take_87 rfl rfl ?_
                  obtain ⟨k29, h9⟩ := chkP hN0 h9
                  refine s_806 dX11_take_88 k27 (inb_in k29) ?_
                  refine e_aload dX11_take_89 rfl ?_
                  refine g_807 flX11_348 dX11_take_91 k27 ?_
                  refine e_pc (pc' := 94) rfl ?_
                  refine e_aload dX11_take_94 rfl ?_
                  refine g_805 flX11_342 dX11_take_96 k27 ?_
                  refine e_iload dX11_take_99 rfl ?_
                  obtain ⟨k30, h9⟩ := chkP hN0 h9
                  refine s_807 dX11_take_101 k27 (inb_in k30) ?_
                  refine e_aload dX11_take_102 rfl ?_
                  refine g_808 flX11_351 dX11_take_104 k27 ?_
                  refine e_aload dX11_take_107 rfl ?_
                  refine g_805 flX11_342 dX11_take_109 k27 ?_
                  refine e_iload dX11_take_112 rfl ?_
                  refine e_pc (pc' := 114) rfl ?_
                  obtain ⟨k31, h9⟩ := chkP hN0 h9
                  refine s_808 dX11_take_114 k27 (inb_in k31) ?_
                  refine e_aload dX11_take_115 rfl ?_
                  refine e_dup dX11_take_117 rfl ?_
                  refine g_805 flX11_342 dX11_take_118 k27 ?_
                  refine e_dup_x1 dX11_take_121 rfl rfl ?_
                  refine e_iconst (v := 1) dX11_take_122 rfl ?_
                  refine e_iadd dX11_take_123 ?_
                  refine p_805 flX11_342 dX11_take_124 k27 ?_
                  exact x_iret dX11_take_127 rfl (hR0 _ _ h9)
                · replace h9 := ifF hc28 h9
                  refine e_aload_n dX11_take_70 rfl rfl ?_
                  refine e_bipush (v := (-7)) dX11_take_71 rfl ?_
                  obtain ⟨⟨r32, w33⟩, hr32, h9⟩ := elimP hN0 h9
                  refine x_callVi (c := 11) (As := [.int (-7)]) (rest := []) okX11_refused lkX11_105 rfl (by decide) rfl dX11_take_73 rfl rfl (Nat.le_of_ble_eq_true rfl) rfl (c_X11_refused (-7) hr32 (CI.mk ?_))
                  exact x_iret dX11_take_76 rfl (hR0 _ _ h9)
              · replace h9 := ifF hc26 h9
                refine e_aload_n dX11_take_54 rfl rfl ?_
                refine e_bipush (v := (-6)) dX11_take_55 rfl ?_
                obtain ⟨⟨r35, w36⟩, hr35, h9⟩ := elimP hN0 h9
                refine x_callVi (c := 11) (As := [.int (-6)]) (rest := []) okX11_refused lkX11_105 rfl (by decide) rfl dX11_take_57 rfl rfl (Nat.le_of_ble_eq_true rfl) rfl (c_X11_refused (-6) hr35 (CI.mk ?_))
                exact x_iret dX11_take_60 rfl (hR0 _ _ h9)
noncomputable def f_X11_reel (x : VM) (p1 : Int32) (p2 : Int32) : Option (Int32 × VM) := (f_X11_pictureAt x p1).elim none (fun r1 => r1.elim ((f_X11_refused x (-1)).elim none (fun r3p => some (r3p.1, r3p.2))) (fun i2 => if p2 < 0 then (f_X11_refused x (-6)).elim none (fun r7p => some (r7p.1, r7p.2)) else if p2 ≤ 400 then (f_X7_findBest x i2 p2).elim none (fun r11p => some (r11p.1, r11p.2)) else (f_X11_refused x (-6)).elim none (fun r14p => some (r14p.1, r14p.2))))
theorem c_X11_reel {g : GG} {d : Nat} {ad : AD} {x m : VM} {Q : Option Value → VM → VM → Prop} (p1 : Int32) (p2 : Int32) {r9 : Int32} {w9 : VM} (hf : f_X11_reel x p1 p2 = some (r9, w9)) (hq : Q (some (.int r9)) w9 m) : CX g (d + 15) MX11_reel [.ref (ad 11 0), .int p1, .int p2] ad x m Q := by
  refine CX.to (Lv := [some (.ref (ad 11 0)), some (.int p1), some (.int p2), none]) okX11_reel (Nat.le_of_ble_eq_true rfl) rfl ?_
  obtain ⟨Φ0, hΦ⟩ : ∃ Φ : Option (Int32 × VM) → Prop, Φ = fun o => o = some (r9, w9) := ⟨_, rfl⟩
  have hN0 : Φ0 none → False := by rw [hΦ]; intro h; cases h
  have hR0 : ∀ z9 y9, Φ0 (some (z9, y9)) → Q (some (.int z9)) y9 m := by rw [hΦ]; intro z9 y9 h; cases h; exact hq
  have h9 : Φ0 (f_X11_reel x p1 p2) := by rw [hΦ]; exact hf
  clear hf hq hΦ
  unfold f_X11_reel at h9
  refine e_aload_n dX11_reel_0 rfl rfl ?_
  refine e_iload_n dX11_reel_1 rfl rfl ?_
  obtain ⟨r1, hr1, h9⟩ := elimP hN0 h9
  refine x_callVi (c := 11) (As := [.int p1]) (rest := []) okX11_pictureAt lkX11_164 rfl (by decide) rfl dX11_reel_2 rfl rfl (Nat.le_of_ble_eq_true rfl) rfl (c_X11_pictureAt p1 hr1 (CI.mk ?_))
  cases r1 with
  | none =>
    replace h9 := elN h9
    refine e_top (v := .null) rfl ?_
    refine e_astore_nN (L' := [some (.ref (ad 11 0)), some (.int p1), some (.int p2), some (.null)]) dX11_reel_5 rfl (by decide) rfl ?_
    refine e_aload_nN dX11_reel_6 rfl rfl ?_
    refine e_ifnonnullN dX11_reel_7 ?_
    refine e_aload_n dX11_reel_10 rfl rfl ?_
    refine e_iconst (v := (-1)) dX11_reel_11 rfl ?_
    obtain ⟨⟨r3, w4⟩, hr3, h9⟩ := elimP hN0 h9
    refine x_callVi (c := 11) (As := [.int (-1)]) (rest := []) okX11_refused lkX11_105 rfl (by decide) rfl dX11_reel_12 rfl rfl (Nat.le_of_ble_eq_true rfl) rfl (c_X11_refused (-1) hr3 (CI.mk ?_))
    exact x_iret dX11_reel_15 rfl (hR0 _ _ h9)
  | some i2 =>
    replace h9 := elS h9
    refine e_top (v := .ref (ad 5 i2)) rfl ?_
    refine e_astore_n (L' := [some (.ref (ad 11 0)), some (.int p1), some (.int p2), some (.ref (ad 5 i2))]) dX11_reel_5 rfl (by decide) rfl ?_
    refine e_aload_n dX11_reel_6 rfl rfl ?_
    refine e_ifnonnull (tgt := 16) dX11_reel_7 rfl ?_
    refine e_iload_n dX11_reel_16 rfl rfl ?_
    refine e_if_lt (tgt := 27) dX11_reel_17 rfl (fun hc6 => ?_) (fun hc6 => ?_)
    · replace h9 := ifT hc6 h9
      refine e_aload_n dX11_reel_27 rfl rfl ?_
      refine e_bipush (v := (-6)) dX11_reel_28 rfl ?_
      obtain ⟨⟨r7, w8⟩, hr7, h9⟩ := elimP hN0 h9
      refine x_callVi (c := 11) (As := [.int (-6)]) (rest := []) okX11_refused lkX11_105 rfl (by decide) rfl dX11_reel_30 rfl rfl (Nat.le_of_ble_eq_true rfl) rfl (c_X11_refused (-6) hr7 (CI.mk ?_))
      exact x_iret dX11_reel_33 rfl (hR0 _ _ h9)
    · replace h9 := ifF hc6 h9
      refine e_iload_n dX11_reel_20 rfl rfl ?_
      refine e_sipush (v := 400) dX11_reel_21 rfl ?_
      refine e_icmp_le (tgt := 34) dX11_reel_24 rfl (fun hc10 => ?_) (fun hc10 => ?_)
      · replace h9 := ifT hc10 h9
        refine e_aload_n dX11_reel_34 rfl rfl ?_
        refine g_1108 flX11_64 dX11_reel_35 ?_
        refine e_aload_n dX11_reel_38 rfl rfl ?_
        refine e_iload_n dX11_reel_39 rfl rfl ?_
        obtain ⟨⟨r11, w12⟩, hr11, h9⟩ := elimP hN0 h9
        refine x_callVi (c := 7) (As := [.ref (ad 5 i2), .int p2]) (rest := []) okX7_findBest lkX11_354 rfl (by decide) rfl dX11_reel_40 rfl rfl (Nat.le_of_ble_eq_true rfl) rfl (c_X7_findBest i2 p2 hr11 (CI.mk ?_))
        exact x_iret dX11_reel_43 rfl (hR0 _ _ h9)
      · replace h9 := ifF hc10 h9
        refine e_aload_n dX11_reel_27 rfl rfl ?_
        refine e_bipush (v := (-6)) dX11_reel_28 rfl ?_
        obtain ⟨⟨r14, w15⟩, hr14, h9⟩ := elimP hN0 h9
        refine x_callVi (c := 11) (As := [.int (-6)]) (rest := []) okX11_refused lkX11_105 rfl (by decide) rfl dX11_reel_30 rfl rfl (Nat.le_of_ble_eq_true rfl) rfl (c_X11_refused (-6) hr14 (CI.mk ?_))
        exact x_iret dX11_reel_33 rfl (hR0 _ _ h9)
noncomputable def f_X11_reelTake (x : VM) (p1 : Int32) (p2 : Int32) : Option (Int32) := (f_X11_sceneAt x p1 p2).elim none (fun r1 => r1.elim (some (-1)) (fun i2 => if inb p1 8 = true then if p1.toNatClampNeg < x.2.2.2 5 then if inb p2 8 = true then some (x.2.1 513 p1.toNatClampNeg p2.toNatClampNeg) else none else none else none))
theorem c_X11_reelTake {g : GG} {d : Nat} {ad : AD} {x m : VM} {Q : Option Value → VM → VM → Prop} (p1 : Int32) (p2 : Int32) {r9 : Int32} (hf : f_X11_reelTake x p1 p2 = some r9) (hq : Q (some (.int r9)) x m) : CX g (d + 2) MX11_reelTake [.ref (ad 11 0), .int p1, .int p2] ad x m Q := by
  refine CX.to (Lv := [some (.ref (ad 11 0)), some (.int p1), some (.int p2)]) okX11_reelTake (Nat.le_of_ble_eq_true rfl) rfl ?_
  obtain ⟨Φ0, hΦ⟩ : ∃ Φ : Option (Int32) → Prop, Φ = fun o => o = some r9 := ⟨_, rfl⟩
  have hN0 : Φ0 none → False := by rw [hΦ]; intro h; cases h
  have hR0 : ∀ z9, Φ0 (some z9) → Q (some (.int z9)) x m := by rw [hΦ]; intro z9 h; cases h; exact hq
  have h9 : Φ0 (f_X11_reelTake x p1 p2) := by rw [hΦ]; exact hf
  clear hf hq hΦ
  unfold f_X11_reelTake at h9
  refine e_aload_n dX11_reelTake_0 rfl rfl ?_
  refine e_iload_n dX11_reelTake_1 rfl rfl ?_
  refine e_iload_n dX11_reelTake_2 rfl rfl ?_
  obtain ⟨r1, hr1, h9⟩ := elimP hN0 h9
  refine x_callVi (c := 11) (As := [.int p1, .int p2]) (rest := []) okX11_sceneAt lkX11_253 rfl (by decide) rfl dX11_reelTake_3 rfl rfl (Nat.le_of_ble_eq_true rfl) rfl (c_X11_sceneAt p1 p2 hr1 (CI.mk ?_))
  cases r1 with
  | none =>
    replace h9 := elN h9
    refine e_top (v := .null) rfl ?_
    refine e_ifnonnullN dX11_reelTake_6 ?_
    refine e_iconst (v := (-1)) dX11_reelTake_9 rfl ?_
    exact x_iret dX11_reelTake_10 rfl (hR0 _ h9)
  | some i2 =>
    replace h9 := elS h9
    refine e_top (v := .ref (ad 8 i2)) rfl ?_
    refine e_ifnonnull (tgt := 11) dX11_reelTake_6 rfl ?_
    refine e_aload_n dX11_reelTake_11 rfl rfl ?_
    refine g_1102 flX11_23 dX11_reelTake_12 ?_
    refine e_iload_n dX11_reelTake_15 rfl rfl ?_
    obtain ⟨k3, h9⟩ := chkP hN0 h9
    refine l_1102 dX11_reelTake_16 (inb_in k3) ?_
    obtain ⟨k4, h9⟩ := chkP hN0 h9
    refine e_top (v := .ref (ad 5 p1.toNatClampNeg)) (rfT k4) ?_
    refine g_513 flX11_357 dX11_reelTake_17 k4 ?_
    refine e_iload_n dX11_reelTake_20 rfl rfl ?_
    obtain ⟨k5, h9⟩ := chkP hN0 h9
    refine l_513 dX11_reelTake_21 k4 (inb_in k5) ?_
    refine e_pc (pc' := 22) rfl ?_
    exact x_iret dX11_reelTake_22 rfl (hR0 _ h9)
noncomputable def f_X11_land (x : VM) (p1 : Int32) (p2 : Int32) : Option (Int32 × VM) := if p1 < 0 then (f_X11_refused x (-1)).elim none (fun r2p => some (r2p.1, r2p.2)) else if p1 < 4 then if p2 < 0 then (f_X11_refused x (-6)).elim none (fun r7p => some (r7p.1, r7p.2)) else if p2 ≤ 99 then if inb p1 4 = true then if inb p1 4 = true then some (x.2.1 1111 0 p1.toNatClampNeg, setA x 1111 0 (upd (x.2.1 1111 0) p1.toNatClampNeg p2)) else none else none else (f_X11_refused x (-6)).elim none (fun r13p => some (r13p.1, r13p.2)) else (f_X11_refused x (-1)).elim none (fun r16p => some (r16p.1, r16p.2))
theorem c_X11_land {g : GG} {d : Nat} {ad : AD} {x m : VM} {Q : Option Value → VM → VM → Prop} (p1 : Int32) (p2 : Int32) {r9 : Int32} {w9 : VM} (hf : f_X11_land x p1 p2 = some (r9, w9)) (hq : Q (some (.int r9)) w9 m) : CX g (d + 1) MX11_land [.ref (ad 11 0), .int p1, .int p2] ad x m Q := by
  refine CX.to (Lv := [some (.ref (ad 11 0)), some (.int p1), some (.int p2), none]) okX11_land (Nat.le_of_ble_eq_true rfl) rfl ?_
  obtain ⟨Φ0, hΦ⟩ : ∃ Φ : Option (Int32 × VM) → Prop, Φ = fun o => o = some (r9, w9) := ⟨_, rfl⟩
  have hN0 : Φ0 none → False := by rw [hΦ]; intro h; cases h
  have hR0 : ∀ z9 y9, Φ0 (some (z9, y9)) → Q (some (.int z9)) y9 m := by rw [hΦ]; intro z9 y9 h; cases h; exact hq
  have h9 : Φ0 (f_X11_land x p1 p2) := by rw [hΦ]; exact hf
  clear hf hq hΦ
  unfold f_X11_land at h9
  refine e_iload_n dX11_land_0 rfl rfl ?_
  refine e_if_lt (tgt := 9) dX11_land_1 rfl (fun hc1 => ?_) (fun hc1 => ?_)
  · replace h9 := ifT hc1 h9
    refine e_aload_n dX11_land_9 rfl rfl ?_
    refine e_iconst (v := (-1)) dX11_land_10 rfl ?_
    obtain ⟨⟨r2, w3⟩, hr2, h9⟩ := elimP hN0 h9
    refine x_callVi (c := 11) (As := [.int (-1)]) (rest := []) okX11_refused lkX11_105 rfl (by decide) rfl dX11_land_11 rfl rfl (Nat.le_of_ble_eq_true rfl) rfl (c_X11_refused (-1) hr2 (CI.mk ?_))
    exact x_iret dX11_land_14 rfl (hR0 _ _ h9)
  · replace h9 := ifF hc1 h9
    refine e_iload_n dX11_land_4 rfl rfl ?_
    refine e_iconst (v := 4) dX11_land_5 rfl ?_
    refine e_icmp_lt (tgt := 15) dX11_land_6 rfl (fun hc5 => ?_) (fun hc5 => ?_)
    · replace h9 := ifT hc5 h9
      refine e_iload_n dX11_land_15 rfl rfl ?_
      refine e_if_lt (tgt := 25) dX11_land_16 rfl (fun hc6 => ?_) (fun hc6 => ?_)
      · replace h9 := ifT hc6 h9
        refine e_aload_n dX11_land_25 rfl rfl ?_
        refine e_bipush (v := (-6)) dX11_land_26 rfl ?_
        obtain ⟨⟨r7, w8⟩, hr7, h9⟩ := elimP hN0 h9
        refine x_callVi (c := 11) (As := [.int (-6)]) (rest := []) okX11_refused lkX11_105 rfl (by decide) rfl dX11_land_28 rfl rfl (Nat.le_of_ble_eq_true rfl) rfl (c_X11_refused (-6) hr7 (CI.mk ?_))
        exact x_iret dX11_land_31 rfl (hR0 _ _ h9)
      · replace h9 := ifF hc6 h9
        refine e_iload_n dX11_land_19 rfl rfl ?_
        refine e_bipush (v := 99) dX11_land_20 rfl ?_
        refine e_icmp_le (tgt := 32) dX11_land_22 rfl (fun hc10 => ?_) (fun hc10 => ?_)
        · replace h9 := ifT hc10 h9
          refine e_aload_n dX11_land_32 rfl rfl ?_
          refine g_1111 flX11_79 dX11_land_33 ?_
          refine e_iload_n dX11_land_36 rfl rfl ?_
          obtain ⟨k11, h9⟩ := chkP hN0 h9
          refine l_1111 dX11_land_37 (inb_in k11) ?_
          refine e_istore_n (L' := [some (.ref (ad 11 0)), some (.int p1), some (.int p2), some (.int (x.2.1 1111 0 p1.toNatClampNeg))]) dX11_land_38 rfl (by decide) rfl ?_
          refine e_aload_n dX11_land_39 rfl rfl ?_
          refine g_1111 flX11_79 dX11_land_40 ?_
          refine e_iload_n dX11_land_43 rfl rfl ?_
          refine e_pc (pc' := 44) rfl ?_
          refine e_iload_n dX11_land_44 rfl rfl ?_
          obtain ⟨k12, h9⟩ := chkP hN0 h9
          refine s_1111 dX11_land_45 (inb_in k12) ?_
          refine e_iload_n dX11_land_46 rfl rfl ?_
          exact x_iret dX11_land_47 rfl (hR0 _ _ h9)
        · replace h9 := ifF hc10 h9
          refine e_aload_n dX11_land_25 rfl rfl ?_
          refine e_bipush (v := (-6)) dX11_land_26 rfl ?_
          obtain ⟨⟨r13, w14⟩, hr13, h9⟩ := elimP hN0 h9
          refine x_callVi (c := 11) (As := [.int (-6)]) (rest := []) okX11_refused lkX11_105 rfl (by decide) rfl dX11_land_28 rfl rfl (Nat.le_of_ble_eq_true rfl) rfl (c_X11_refused (-6) hr13 (CI.mk ?_))
          exact x_iret dX11_land_31 rfl (hR0 _ _ h9)
    · replace h9 := ifF hc5 h9
      refine e_aload_n dX11_land_9 rfl rfl ?_
      refine e_iconst (v := (-1)) dX11_land_10 rfl ?_
      obtain ⟨⟨r16, w17⟩, hr16, h9⟩ := elimP hN0 h9
      refine x_callVi (c := 11) (As := [.int (-1)]) (rest := []) okX11_refused lkX11_105 rfl (by decide) rfl dX11_land_11 rfl rfl (Nat.le_of_ble_eq_true rfl) rfl (c_X11_refused (-1) hr16 (CI.mk ?_))
      exact x_iret dX11_land_14 rfl (hR0 _ _ h9)
noncomputable def f_X11_preview (x : VM) (p1 : Int32) (p2 : Int32) (p3 : Int32) (p4 : Int32) : Option (Int32 × VM) := (f_X11_pictureAt x p1).elim none (fun r1 => r1.elim ((f_X11_refused x (-1)).elim none (fun r3p => some (r3p.1, r3p.2))) (fun i2 => if p2 < 0 then (f_X11_refused x (-1)).elim none (fun r7p => some (r7p.1, r7p.2)) else if p2 < 4 then if p3 < 1 then (f_X11_refused x (-6)).elim none (fun r12p => some (r12p.1, r12p.2)) else if 99 < p3 then (f_X11_refused x (-6)).elim none (fun r16p => some (r16p.1, r16p.2)) else if p4 < 0 then (f_X11_refused x (-6)).elim none (fun r20p => some (r20p.1, r20p.2)) else if p4 ≤ p3 then if i2 < x.2.2.2 5 then if inb p2 4 = true then if ((x.2.1 514 i2 p2.toNatClampNeg) + p3) ≤ 999 then if inb p2 4 = true then if inb p2 4 = true then if inb p2 4 = true then if inb p2 4 = true then if inb p2 4 = true then some ((setA (setA x 514 i2 (upd (x.2.1 514 i2) p2.toNatClampNeg ((x.2.1 514 i2 p2.toNatClampNeg) + p3))) 515 i2 (upd ((setA x 514 i2 (upd (x.2.1 514 i2) p2.toNatClampNeg ((x.2.1 514 i2 p2.toNatClampNeg) + p3))).2.1 515 i2) p2.toNatClampNeg (((setA x 514 i2 (upd (x.2.1 514 i2) p2.toNatClampNeg ((x.2.1 514 i2 p2.toNatClampNeg) + p3))).2.1 515 i2 p2.toNatClampNeg) + p4))).2.1 514 i2 p2.toNatClampNeg, setA (setA x 514 i2 (upd (x.2.1 514 i2) p2.toNatClampNeg ((x.2.1 514 i2 p2.toNatClampNeg) + p3))) 515 i2 (upd ((setA x 514 i2 (upd (x.2.1 514 i2) p2.toNatClampNeg ((x.2.1 514 i2 p2.toNatClampNeg) + p3))).2.1 515 i2) p2.toNatClampNeg (((setA x 514 i2 (upd (x.2.1 514 i2) p2.toNatClampNeg ((x.2.1 514 i2 p2.toNatClampNeg) + p3))).2.1 515 i2 p2.toNatClampNeg) + p4))) else none else none else none else none else none else (f_X11_refused x (-7)).elim none (fun r32p => some (r32p.1, r32p.2)) else none else none else (f_X11_refused x (-6)).elim none (fun r35p => some (r35p.1, r35p.2)) else (f_X11_refused x (-1)).elim none (fun r38p => some (r38p.1, r38p.2))))
theorem c_X11_preview {g : GG} {d : Nat} {ad : AD} {x m : VM} {Q : Option Value → VM → VM → Prop} (p1 : Int32) (p2 : Int32) (p3 : Int32) (p4 : Int32) {r9 : Int32} {w9 : VM} (hf : f_X11_preview x p1 p2 p3 p4 = some (r9, w9)) (hq : Q (some (.int r9)) w9 m) : CX g (d + 1) MX11_preview [.ref (ad 11 0), .int p1, .int p2, .int p3, .int p4] ad x m Q := by
  refine CX.to (Lv := [some (.ref (ad 11 0)), some (.int p1), some (.int p2), some (.int p3), some (.int p4), none]) okX11_preview (Nat.le_of_ble_eq_true rfl) rfl ?_
  obtain ⟨Φ0, hΦ⟩ : ∃ Φ : Option (Int32 × VM) → Prop, Φ = fun o => o = some (r9, w9) := ⟨_, rfl⟩
  have hN0 : Φ0 none → False := by rw [hΦ]; intro h; cases h
  have hR0 : ∀ z9 y9, Φ0 (some (z9, y9)) → Q (some (.int z9)) y9 m := by rw [hΦ]; intro z9 y9 h; cases h; exact hq
  have h9 : Φ0 (f_X11_preview x p1 p2 p3 p4) := by rw [hΦ]; exact hf
  clear hf hq hΦ
  unfold f_X11_preview at h9
  refine e_aload_n dX11_preview_0 rfl rfl ?_
  refine e_iload_n dX11_preview_1 rfl rfl ?_
  obtain ⟨r1, hr1, h9⟩ := elimP hN0 h9
  refine x_callVi (c := 11) (As := [.int p1]) (rest := []) okX11_pictureAt lkX11_164 rfl (by decide) rfl dX11_preview_2 rfl rfl (Nat.le_of_ble_eq_true rfl) rfl (c_X11_pictureAt p1 hr1 (CI.mk ?_))
  cases r1 with
  | none =>
    replace h9 := elN h9
    refine e_top (v := .null) rfl ?_
    refine e_astoreN (L' := [some (.ref (ad 11 0)), some (.int p1), some (.int p2), some (.int p3), some (.int p4), some (.null)]) dX11_preview_5 (by decide) rfl ?_
    refine e_aloadN dX11_preview_7 rfl ?_
    refine e_ifnullN (tgt := 21) dX11_preview_9 rfl ?_
    refine e_aload_n dX11_preview_21 rfl rfl ?_
    refine e_iconst (v := (-1)) dX11_preview_22 rfl ?_
    obtain ⟨⟨r3, w4⟩, hr3, h9⟩ := elimP hN0 h9
    refine x_callVi (c := 11) (As := [.int (-1)]) (rest := []) okX11_refused lkX11_105 rfl (by decide) rfl dX11_preview_23 rfl rfl (Nat.le_of_ble_eq_true rfl) rfl (c_X11_refused (-1) hr3 (CI.mk ?_))
    exact x_iret dX11_preview_26 rfl (hR0 _ _ h9)
  | some i2 =>
    replace h9 := elS h9
    refine e_top (v := .ref (ad 5 i2)) rfl ?_
    refine e_astore (L' := [some (.ref (ad 11 0)), some (.int p1), some (.int p2), some (.int p3), some (.int p4), some (.ref (ad 5 i2))]) dX11_preview_5 (by decide) rfl ?_
    refine e_aload dX11_preview_7 rfl ?_
    refine e_ifnull dX11_preview_9 ?_
    refine e_iload_n dX11_preview_12 rfl rfl ?_
    refine e_if_lt (tgt := 21) dX11_preview_13 rfl (fun hc6 => ?_) (fun hc6 => ?_)
    · replace h9 := ifT hc6 h9
      refine e_aload_n dX11_preview_21 rfl rfl ?_
      refine e_iconst (v := (-1)) dX11_preview_22 rfl ?_
      obtain ⟨⟨r7, w8⟩, hr7, h9⟩ := elimP hN0 h9
      refine x_callVi (c := 11) (As := [.int (-1)]) (rest := []) okX11_refused lkX11_105 rfl (by decide) rfl dX11_preview_23 rfl rfl (Nat.le_of_ble_eq_true rfl) rfl (c_X11_refused (-1) hr7 (CI.mk ?_))
      exact x_iret dX11_preview_26 rfl (hR0 _ _ h9)
    · replace h9 := ifF hc6 h9
      refine e_iload_n dX11_preview_16 rfl rfl ?_
      refine e_iconst (v := 4) dX11_preview_17 rfl ?_
      refine e_icmp_lt (tgt := 27) dX11_preview_18 rfl (fun hc10 => ?_) (fun hc10 => ?_)
      · replace h9 := ifT hc10 h9
        refine e_iload_n dX11_preview_27 rfl rfl ?_
        refine e_iconst (v := 1) dX11_preview_28 rfl ?_
        refine e_icmp_lt (tgt := 49) dX11_preview_29 rfl (fun hc11 => ?_) (fun hc11 => ?_)
        · replace h9 := ifT hc11 h9
          refine e_aload_n dX11_preview_49 rfl rfl ?_
          refine e_bipush (v := (-6)) dX11_preview_50 rfl ?_
          obtain ⟨⟨r12, w13⟩, hr12, h9⟩ := elimP hN0 h9
          refine x_callVi (c := 11) (As := [.int (-6)]) (rest := []) okX11_refused lkX11_105 rfl (by decide) rfl dX11_preview_52 rfl rfl (Nat.le_of_ble_eq_true rfl) rfl (c_X11_refused (-6) hr12 (CI.mk ?_))
          exact x_iret dX11_preview_55 rfl (hR0 _ _ h9)
        · replace h9 := ifF hc11 h9
          refine e_iload_n dX11_preview_32 rfl rfl ?_
          refine e_bipush (v := 99) dX11_preview_33 rfl ?_
          refine e_icmp_gt (tgt := 49) dX11_preview_35 rfl (fun hc15 => ?_) (fun hc15 => ?_)
          · replace h9 := ifT hc15 h9
            refine e_aload_n dX11_preview_49 rfl rfl ?_
            refine e_bipush (v := (-6)) dX11_preview_50 rfl ?_
            obtain ⟨⟨r16, w17⟩, hr16, h9⟩ := elimP hN0 h9
            refine x_callVi (c := 11) (As := [.int (-6)]) (rest := []) okX11_refused lkX11_105 rfl (by decide) rfl dX11_preview_52 rfl rfl (Nat.le_of_ble_eq_true rfl) rfl (c_X11_refused (-6) hr16 (CI.mk ?_))
            exact x_iret dX11_preview_55 rfl (hR0 _ _ h9)
          · replace h9 := ifF hc15 h9
            refine e_iload dX11_preview_38 rfl ?_
            refine e_if_lt (tgt := 49) dX11_preview_40 rfl (fun hc19 => ?_) (fun hc19 => ?_)
            · replace h9 := ifT hc19 h9
              refine e_aload_n dX11_preview_49 rfl rfl ?_
              refine e_bipush (v := (-6)) dX11_preview_50 rfl ?_
              obtain ⟨⟨r20, w21⟩, hr20, h9⟩ := elimP hN0 h9
              refine x_callVi (c := 11) (As := [.int (-6)]) (rest := []) okX11_refused lkX11_105 rfl (by decide) rfl dX11_preview_52 rfl rfl (Nat.le_of_ble_eq_true rfl) rfl (c_X11_refused (-6) hr20 (CI.mk ?_))
              exact x_iret dX11_preview_55 rfl (hR0 _ _ h9)
            · replace h9 := ifF hc19 h9
              refine e_iload dX11_preview_43 rfl ?_
              refine e_iload_n dX11_preview_45 rfl rfl ?_
              refine e_icmp_le (tgt := 56) dX11_preview_46 rfl (fun hc23 => ?_) (fun hc23 => ?_)
              · replace h9 := ifT hc23 h9
                refine e_aload dX11_preview_56 rfl ?_
                obtain ⟨k24, h9⟩ := chkP hN0 h9
                refine g_514 flX11_360 dX11_preview_58 k24 ?_
                refine e_iload_n dX11_preview_61 rfl rfl ?_
                obtain ⟨k25, h9⟩ := chkP hN0 h9
                refine l_514 dX11_preview_62 k24 (inb_in k25) ?_
                refine e_iload_n dX11_preview_63 rfl rfl ?_
                refine e_iadd dX11_preview_64 ?_
                refine e_sipush (v := 999) dX11_preview_65 rfl ?_
                refine e_icmp_le (tgt := 78) dX11_preview_68 rfl (fun hc26 => ?_) (fun hc26 => ?_)
                · replace h9 := ifT hc26 h9
                  refine e_aload dX11_preview_78 rfl ?_
                  refine g_514 flX11_360 dX11_preview_80 k24 ?_
                  refine e_iload_n dX11_preview_83 rfl rfl ?_
                  refine e_dup2_11 dX11_preview_84 rfl rfl ?_
                  obtain ⟨k27, h9⟩ := chkP hN0 h9
                  refine l_514 dX11_preview_85 k24 (inb_in k27) ?_
                  refine e_iload_n dX11_preview_86 rfl rfl ?_
                  refine e_iadd dX11_preview_87 ?_
                  obtain ⟨k28, h9⟩ := chkP hN0 h9
                  refine s_514 dX11_preview_88 k24 (inb_in k28) ?_
                  refine e_pc (pc' := 89) rfl ?_
                  refine e_aload dX11_preview_89 rfl ?_
                  refine g_515 flX11_363 dX11_preview_91 k24 ?_
                  refine e_iload_n dX11_preview_94 rfl rfl ?_
                  refine e_dup2_11 dX11_preview_95 rfl rfl ?_
                  obtain ⟨k29, h9⟩ := chkP hN0 h9
                  refine l_515 dX11_preview_96 k24 (inb_in k29) ?_
                  refine e_iload dX11_preview_97 rfl ?_
                  refine e_iadd dX11_preview_99 ?_
                  obtain ⟨k30, h9⟩ := chkP hN0 h9
                  refine s_515 dX11_preview_100 k24 (inb_in k30) ?_
                  refine e_aload dX11_preview_101 rfl ?_
                  refine e_pc (pc' := 103) rfl ?_
                  refine g_514 flX11_360 dX11_preview_103 k24 ?_
                  refine e_iload_n dX11_preview_106 rfl rfl ?_
                  obtain ⟨k31, h9⟩ := chkP hN0 h9
                  refine l_514 dX11_preview_107 k24 (inb_in k31) ?_
                  exact x_iret dX11_preview_108 rfl (hR0 _ _ h9)
                · replace h9 := ifF hc26 h9
                  refine e_aload_n dX11_preview_71 rfl rfl ?_
                  refine e_bipush (v := (-7)) dX11_preview_72 rfl ?_
                  obtain ⟨⟨r32, w33⟩, hr32, h9⟩ := elimP hN0 h9
                  refine x_callVi (c := 11) (As := [.int (-7)]) (rest := []) okX11_refused lkX11_105 rfl (by decide) rfl dX11_preview_74 rfl rfl (Nat.le_of_ble_eq_true rfl) rfl (c_X11_refused (-7) hr32 (CI.mk ?_))
                  exact x_iret dX11_preview_77 rfl (hR0 _ _ h9)
              · replace h9 := ifF hc23 h9
                refine e_aload_n dX11_preview_49 rfl rfl ?_
                refine e_bipush (v := (-6)) dX11_preview_50 rfl ?_
                obtain ⟨⟨r35, w36⟩, hr35, h9⟩ := elimP hN0 h9
                refine x_callVi (c := 11) (As := [.int (-6)]) (rest := []) okX11_refused lkX11_105 rfl (by decide) rfl dX11_preview_52 rfl rfl (Nat.le_of_ble_eq_true rfl) rfl (c_X11_refused (-6) hr35 (CI.mk ?_))
                exact x_iret dX11_preview_55 rfl (hR0 _ _ h9)
      · replace h9 := ifF hc10 h9
        refine e_aload_n dX11_preview_21 rfl rfl ?_
        refine e_iconst (v := (-1)) dX11_preview_22 rfl ?_
        obtain ⟨⟨r38, w39⟩, hr38, h9⟩ := elimP hN0 h9
        refine x_callVi (c := 11) (As := [.int (-1)]) (rest := []) okX11_refused lkX11_105 rfl (by decide) rfl dX11_preview_23 rfl rfl (Nat.le_of_ble_eq_true rfl) rfl (c_X11_refused (-1) hr38 (CI.mk ?_))
        exact x_iret dX11_preview_26 rfl (hR0 _ _ h9)
noncomputable def b_X11_commonDivisor_9 (x : VM) (p1 : Int64) (p2 : Int64) (v1 : Int64 × Int64 × Int32) : (Int64 × Int64 × Int32) ⊕ (Option (Int64)) := if 200 ≤ v1.2.2 then Sum.inr (some v1.1) else if (lg_cmp v1.2.1 0) = 0 then Sum.inr (some v1.1) else if ¬ v1.2.1 = 0 then Sum.inl (v1.2.1, v1.1 - v1.1 / v1.2.1 * v1.2.1, v1.2.2 + 1) else Sum.inr none
noncomputable def f_X11_commonDivisor (x : VM) (p1 : Int64) (p2 : Int64) : Option (Int64) := loopF none (b_X11_commonDivisor_9 x p1 p2) (p1, p2, 0)
theorem c_X11_commonDivisor {g : GG} {d : Nat} {ad : AD} {x m : VM} {Q : Option Value → VM → VM → Prop} (p1 : Int64) (p2 : Int64) {r9 : Int64} (hf : f_X11_commonDivisor x p1 p2 = some r9) (hq : Q (some (.long r9)) x m) : CX g d MX11_commonDivisor [.long p1, .long p2] ad x m Q := by
  refine CX.to (Lv := [some (.long p1), none, some (.long p2), none, none, none, none, none, none, none, none]) okX11_commonDivisor (Nat.le_of_ble_eq_true rfl) rfl ?_
  obtain ⟨Φ0, hΦ⟩ : ∃ Φ : Option (Int64) → Prop, Φ = fun o => o = some r9 := ⟨_, rfl⟩
  have hN0 : Φ0 none → False := by rw [hΦ]; intro h; cases h
  have hR0 : ∀ z9, Φ0 (some z9) → Q (some (.long z9)) x m := by rw [hΦ]; intro z9 h; cases h; exact hq
  have h9 : Φ0 (f_X11_commonDivisor x p1 p2) := by rw [hΦ]; exact hf
  clear hf hq hΦ
  unfold f_X11_commonDivisor at h9
  refine e_lload_n dX11_commonDivisor_0 rfl rfl ?_
  refine e_lstore (L' := [some (.long p1), none, some (.long p2), none, some (.long p1), none, none, none, none, none, none]) dX11_commonDivisor_1 (by decide) rfl ?_
  refine e_lload_n dX11_commonDivisor_3 rfl rfl ?_
  refine e_lstore (L' := [some (.long p1), none, some (.long p2), none, some (.long p1), none, some (.long p2), none, none, none, none]) dX11_commonDivisor_4 (by decide) rfl ?_
  refine e_iconst (v := 0) dX11_commonDivisor_6 rfl ?_
  refine e_istore (L' := [some (.long p1), none, some (.long p2), none, some (.long p1), none, some (.long p2), none, some (.int 0), none, none]) dX11_commonDivisor_7 (by decide) rfl ?_
  refine e_wk (L' := [none, none, none, none, some (.long p1), none, some (.long p2), none, some (.int 0), none, none]) (wkN (wkN (wkN (wkN (wkC (wkN (wkC (wkN (wkC (wkN (wkN wk0))))))))))) ?_
  refine loop_gen (b_X11_commonDivisor_9 x p1 p2) none (fun v1 => EX g d MX11_commonDivisor ad x m 9 [none, none, none, none, some (.long v1.1), none, some (.long v1.2.1), none, some (.int v1.2.2), none, none] [] Q) Φ0 hN0 (fun v1 Φ1 hB0_1 hO1 h9 => ?_) (p1, p2, 0) h9
  have hN1 := fun h => hN0 (hO1 _ h)
  have hR1 := fun r9 h => hR0 r9 (hO1 _ h)
  have hB0_1 : ∀ (z0 : Int64) (z1 : Int64) (z2 : Int32), Φ1 (Sum.inl (z0, z1, z2)) → EX g d MX11_commonDivisor ad x m 9 [none, none, none, none, some (.long z0), none, some (.long z1), none, some (.int z2), none, none] [] Q := fun z0 z1 z2 h => hB0_1 (z0, z1, z2) h
  unfold b_X11_commonDivisor_9 at h9
  refine e_iload dX11_commonDivisor_9 rfl ?_
  refine e_sipush (v := 200) dX11_commonDivisor_11 rfl ?_
  refine e_icmp_ge (tgt := 45) dX11_commonDivisor_14 rfl (fun hc2 => ?_) (fun hc2 => ?_)
  · replace h9 := ifT hc2 h9
    refine e_lload dX11_commonDivisor_45 rfl ?_
    exact x_lret dX11_commonDivisor_47 rfl (hR1 _ h9)
  · replace h9 := ifF hc2 h9
    refine e_lload dX11_commonDivisor_17 rfl ?_
    refine e_lconst (v := 0) dX11_commonDivisor_19 rfl ?_
    refine e_lcmp dX11_commonDivisor_20 ?_
    refine e_if_eq (tgt := 45) dX11_commonDivisor_21 rfl (fun hc3 => ?_) (fun hc3 => ?_)
    · replace h9 := ifT hc3 h9
      refine e_lload dX11_commonDivisor_45 rfl ?_
      exact x_lret dX11_commonDivisor_47 rfl (hR1 _ h9)
    · replace h9 := ifF hc3 h9
      refine e_lload dX11_commonDivisor_24 rfl ?_
      refine e_lload dX11_commonDivisor_26 rfl ?_
      obtain ⟨k4, h9⟩ := chkP hN1 h9
      refine e_lrem dX11_commonDivisor_28 k4 ?_
      refine e_lstore (L' := [none, none, none, none, some (.long v1.1), none, some (.long v1.2.1), none, some (.int v1.2.2), some (.long (v1.1 - v1.1 / v1.2.1 * v1.2.1)), none]) dX11_commonDivisor_29 (by decide) rfl ?_
      refine e_lload dX11_commonDivisor_31 rfl ?_
      refine e_lstore (L' := [none, none, none, none, some (.long v1.2.1), none, some (.long v1.2.1), none, some (.int v1.2.2), some (.long (v1.1 - v1.1 / v1.2.1 * v1.2.1)), none]) dX11_commonDivisor_33 (by decide) rfl ?_
      refine e_lload dX11_commonDivisor_35 rfl ?_
      refine e_lstore (L' := [none, none, none, none, some (.long v1.2.1), none, some (.long (v1.1 - v1.1 / v1.2.1 * v1.2.1)), none, some (.int v1.2.2), some (.long (v1.1 - v1.1 / v1.2.1 * v1.2.1)), none]) dX11_commonDivisor_37 (by decide) rfl ?_
      refine e_pc (pc' := 39) rfl ?_
      refine e_iinc (v := (v1.2.2 + 1)) (L' := [none, none, none, none, some (.long v1.2.1), none, some (.long (v1.1 - v1.1 / v1.2.1 * v1.2.1)), none, some (.int (v1.2.2 + 1)), some (.long (v1.1 - v1.1 / v1.2.1 * v1.2.1)), none]) dX11_commonDivisor_39 rfl rfl (by decide) rfl ?_
      refine e_goto (tgt := 9) dX11_commonDivisor_42 rfl ?_
      refine e_wk (L' := [none, none, none, none, some (.long v1.2.1), none, some (.long (v1.1 - v1.1 / v1.2.1 * v1.2.1)), none, some (.int (v1.2.2 + 1)), none, none]) (wkN (wkN (wkN (wkN (wkC (wkN (wkC (wkN (wkC (wkN (wkN wk0))))))))))) ?_
      exact hB0_1 _ _ _ h9
noncomputable def j_X11_putRight_146 (x : VM) (p1 : Int32) (p2 : Int32) (v3 : Int64 × Int64 × Int64 × Int32) (r6 : Int64) (a7 : Int64) : (Int64 × Int64 × Int64 × Int32) ⊕ (Option (Int64)) := if (lg_cmp r6 0) ≤ 0 then Sum.inr (some a7) else if ¬ r6 = 0 then Sum.inr (some (a7 / r6)) else Sum.inr none
noncomputable def b_X11_putRight_26 (x : VM) (p1 : Int32) (p2 : Int32) (i2 : Nat) (v3 : Int64 × Int64 × Int64 × Int32) : (Int64 × Int64 × Int64 × Int32) ⊕ (Option (Int64)) := if 4 ≤ v3.2.2.2 then if (lg_cmp v3.2.2.1 0) = 0 then if p2 = 0 then Sum.inr (some 0) else Sum.inr (some 1) else (f_X11_commonDivisor x v3.1 (v3.2.1 * v3.2.2.1)).elim (Sum.inr none) (fun r6 => if p2 = 0 then j_X11_putRight_146 x p1 p2 v3 r6 v3.1 else j_X11_putRight_146 x p1 p2 v3 r6 (v3.2.1 * v3.2.2.1)) else if i2 < x.2.2.2 5 then if inb v3.2.2.2 4 = true then if (x.2.1 514 i2 v3.2.2.2.toNatClampNeg) ≤ 0 then Sum.inl (v3.1, v3.2.1, v3.2.2.1, v3.2.2.2 + 1) else if inb v3.2.2.2 4 = true then if inb v3.2.2.2 4 = true then if inb v3.2.2.2 4 = true then Sum.inl ((v3.1 * ((x.2.1 514 i2 v3.2.2.2.toNatClampNeg).toInt64)) + ((v3.2.1 * ((x.2.1 1111 0 v3.2.2.2.toNatClampNeg).toInt64)) * ((x.2.1 515 i2 v3.2.2.2.toNatClampNeg).toInt64)), v3.2.1 * ((x.2.1 514 i2 v3.2.2.2.toNatClampNeg).toInt64), v3.2.2.1 + ((x.2.1 1111 0 v3.2.2.2.toNatClampNeg).toInt64), v3.2.2.2 + 1) else Sum.inr none else Sum.inr none else Sum.inr none else Sum.inr none else Sum.inr none
noncomputable def f_X11_putRight (x : VM) (p1 : Int32) (p2 : Int32) : Option (Int64) := (f_X11_pictureAt x p1).elim none (fun r1 => r1.elim (some (-1000)) (fun i2 => loopF none (b_X11_putRight_26 x p1 p2 i2) (0, 1, 0, 0)))
theorem c_X11_putRight {g : GG} {d : Nat} {ad : AD} {x m : VM} {Q : Option Value → VM → VM → Prop} (p1 : Int32) (p2 : Int32) {r9 : Int64} (hf : f_X11_putRight x p1 p2 = some r9) (hq : Q (some (.long r9)) x m) : CX g (d + 1) MX11_putRight [.ref (ad 11 0), .int p1, .int p2] ad x m Q := by
  refine CX.to (Lv := [some (.ref (ad 11 0)), some (.int p1), some (.int p2), none, none, none, none, none, none, none, none, none, none, none]) okX11_putRight (Nat.le_of_ble_eq_true rfl) rfl ?_
  obtain ⟨Φ0, hΦ⟩ : ∃ Φ : Option (Int64) → Prop, Φ = fun o => o = some r9 := ⟨_, rfl⟩
  have hN0 : Φ0 none → False := by rw [hΦ]; intro h; cases h
  have hR0 : ∀ z9, Φ0 (some z9) → Q (some (.long z9)) x m := by rw [hΦ]; intro z9 h; cases h; exact hq
  have h9 : Φ0 (f_X11_putRight x p1 p2) := by rw [hΦ]; exact hf
  clear hf hq hΦ
  unfold f_X11_putRight at h9
  refine e_aload_n dX11_putRight_0 rfl rfl ?_
  refine e_iload_n dX11_putRight_1 rfl rfl ?_
  obtain ⟨r1, hr1, h9⟩ := elimP hN0 h9
  refine x_callVi (c := 11) (As := [.int p1]) (rest := []) okX11_pictureAt lkX11_164 rfl (by decide) rfl dX11_putRight_2 rfl rfl (Nat.le_of_ble_eq_true rfl) rfl (c_X11_pictureAt p1 hr1 (CI.mk ?_))
  cases r1 with
  | none =>
    replace h9 := elN h9
    refine e_top (v := .null) rfl ?_
    refine e_astore_nN (L' := [some (.ref (ad 11 0)), some (.int p1), some (.int p2), some (.null), none, none, none, none, none, none, none, none, none, none]) dX11_putRight_5 rfl (by decide) rfl ?_
    refine e_aload_nN dX11_putRight_6 rfl rfl ?_
    refine e_ifnonnullN dX11_putRight_7 ?_
    refine e_ldc2 (v := (-1000)) rfl kcX11_366 dX11_putRight_10 ?_
    exact x_lret dX11_putRight_13 rfl (hR0 _ h9)
  | some i2 =>
    replace h9 := elS h9
    refine e_top (v := .ref (ad 5 i2)) rfl ?_
    refine e_astore_n (L' := [some (.ref (ad 11 0)), some (.int p1), some (.int p2), some (.ref (ad 5 i2)), none, none, none, none, none, none, none, none, none, none]) dX11_putRight_5 rfl (by decide) rfl ?_
    refine e_aload_n dX11_putRight_6 rfl rfl ?_
    refine e_ifnonnull (tgt := 14) dX11_putRight_7 rfl ?_
    refine e_lconst (v := 0) dX11_putRight_14 rfl ?_
    refine e_lstore (L' := [some (.ref (ad 11 0)), some (.int p1), some (.int p2), some (.ref (ad 5 i2)), some (.long 0), none, none, none, none, none, none, none, none, none]) dX11_putRight_15 (by decide) rfl ?_
    refine e_lconst (v := 1) dX11_putRight_17 rfl ?_
    refine e_lstore (L' := [some (.ref (ad 11 0)), some (.int p1), some (.int p2), some (.ref (ad 5 i2)), some (.long 0), none, some (.long 1), none, none, none, none, none, none, none]) dX11_putRight_18 (by decide) rfl ?_
    refine e_lconst (v := 0) dX11_putRight_20 rfl ?_
    refine e_pc (pc' := 21) rfl ?_
    refine e_lstore (L' := [some (.ref (ad 11 0)), some (.int p1), some (.int p2), some (.ref (ad 5 i2)), some (.long 0), none, some (.long 1), none, some (.long 0), none, none, none, none, none]) dX11_putRight_21 (by decide) rfl ?_
    refine e_iconst (v := 0) dX11_putRight_23 rfl ?_
    refine e_istore (L' := [some (.ref (ad 11 0)), some (.int p1), some (.int p2), some (.ref (ad 5 i2)), some (.long 0), none, some (.long 1), none, some (.long 0), none, some (.int 0), none, none, none]) dX11_putRight_24 (by decide) rfl ?_
    refine e_wk (L' := [some (.ref (ad 11 0)), none, some (.int p2), some (.ref (ad 5 i2)), some (.long 0), none, some (.long 1), none, some (.long 0), none, some (.int 0), none, none, none]) (wkC (wkN (wkC (wkC (wkC (wkN (wkC (wkN (wkC (wkN (wkC (wkN (wkN (wkN wk0)))))))))))))) ?_
    refine loop_gen (b_X11_putRight_26 x p1 p2 i2) none (fun v3 => EX g (d + 1) MX11_putRight ad x m 26 [some (.ref (ad 11 0)), none, some (.int p2), some (.ref (ad 5 i2)), some (.long v3.1), none, some (.long v3.2.1), none, some (.long v3.2.2.1), none, some (.int v3.2.2.2), none, none, none] [] Q) Φ0 hN0 (fun v3 Φ1 hB0_1 hO1 h9 => ?_) (0, 1, 0, 0) h9
    have hN1 := fun h => hN0 (hO1 _ h)
    have hR1 := fun r9 h => hR0 r9 (hO1 _ h)
    have hB0_1 : ∀ (z0 : Int64) (z1 : Int64) (z2 : Int64) (z3 : Int32), Φ1 (Sum.inl (z0, z1, z2, z3)) → EX g (d + 1) MX11_putRight ad x m 26 [some (.ref (ad 11 0)), none, some (.int p2), some (.ref (ad 5 i2)), some (.long z0), none, some (.long z1), none, some (.long z2), none, some (.int z3), none, none, none] [] Q := fun z0 z1 z2 z3 h => hB0_1 (z0, z1, z2, z3) h
    unfold b_X11_putRight_26 at h9
    refine e_iload dX11_putRight_26 rfl ?_
    refine e_iconst (v := 4) dX11_putRight_28 rfl ?_
    refine e_icmp_ge (tgt := 102) dX11_putRight_29 rfl (fun hc4 => ?_) (fun hc4 => ?_)
    · replace h9 := ifT hc4 h9
      refine e_lload dX11_putRight_102 rfl ?_
      refine e_lconst (v := 0) dX11_putRight_104 rfl ?_
      refine e_lcmp dX11_putRight_105 ?_
      refine e_if_ne (tgt := 119) dX11_putRight_106 rfl (fun hc5 => ?_) (fun hc5 => ?_)
      · replace h9 := ifF hc5 h9
        refine e_lload dX11_putRight_119 rfl ?_
        refine e_lload dX11_putRight_121 rfl ?_
        refine e_lmul dX11_putRight_123 ?_
        refine e_lstore (L' := [some (.ref (ad 11 0)), none, some (.int p2), some (.ref (ad 5 i2)), some (.long v3.1), none, some (.long (v3.2.1 * v3.2.2.1)), none, some (.long v3.2.2.1), none, some (.int v3.2.2.2), none, none, none]) dX11_putRight_124 (by decide) rfl ?_
        refine e_lload dX11_putRight_126 rfl ?_
        refine e_lload dX11_putRight_128 rfl ?_
        obtain ⟨r6, hr6, h9⟩ := elimP hN1 h9
        refine x_callSi (As := [.long v3.1, .long (v3.2.1 * v3.2.2.1)]) (rest := []) okX11_commonDivisor lkX11_368 dX11_putRight_130 rfl rfl (Nat.le_of_ble_eq_true rfl) (c_X11_commonDivisor v3.1 (v3.2.1 * v3.2.2.1) hr6 (CI.mk ?_))
        refine e_lstore (L' := [some (.ref (ad 11 0)), none, some (.int p2), some (.ref (ad 5 i2)), some (.long v3.1), none, some (.long (v3.2.1 * v3.2.2.1)), none, some (.long v3.2.2.1), none, some (.long r6), none, none, none]) dX11_putRight_133 (by decide) rfl ?_
        refine e_pc (pc' := 135) rfl ?_
        refine e_iload_n dX11_putRight_135 rfl rfl ?_
        have hj146 : ∀ (a7 : Int64), Φ1 (j_X11_putRight_146 x p1 p2 v3 r6 a7) → EX g (d + 1) MX11_putRight ad x m 146 [none, none, none, none, none, none, none, none, none, none, some (.long r6), none, none, none] [.long a7] Q := by
          intro a7 h9
          unfold j_X11_putRight_146 at h9
          refine e_lstore (L' := [none, none, none, none, none, none, none, none, none, none, some (.long r6), none, some (.long a7), none]) dX11_putRight_146 (by decide) rfl ?_
          refine e_lload dX11_putRight_148 rfl ?_
          refine e_lconst (v := 0) dX11_putRight_150 rfl ?_
          refine e_lcmp dX11_putRight_151 ?_
          refine e_if_le (tgt := 163) dX11_putRight_152 rfl (fun hc8 => ?_) (fun hc8 => ?_)
          · replace h9 := ifT hc8 h9
            refine e_lload dX11_putRight_163 rfl ?_
            exact x_lret dX11_putRight_165 rfl (hR1 _ h9)
          · replace h9 := ifF hc8 h9
            refine e_lload dX11_putRight_155 rfl ?_
            refine e_lload dX11_putRight_157 rfl ?_
            obtain ⟨k9, h9⟩ := chkP hN1 h9
            refine e_ldiv dX11_putRight_159 k9 ?_
            refine e_goto (tgt := 165) dX11_putRight_160 rfl ?_
            exact x_lret dX11_putRight_165 rfl (hR1 _ h9)
        refine e_if_eq (tgt := 144) dX11_putRight_136 rfl (fun hc10 => ?_) (fun hc10 => ?_)
        · replace h9 := ifT hc10 h9
          refine e_lload dX11_putRight_144 rfl ?_
          refine e_wk (L' := [none, none, none, none, none, none, none, none, none, none, some (.long r6), none, none, none]) (wkN (wkN (wkN (wkN (wkN (wkN (wkN (wkN (wkN (wkN (wkC (wkN (wkN (wkN wk0)))))))))))))) ?_
          exact hj146 v3.1 h9
        · replace h9 := ifF hc10 h9
          refine e_lload dX11_putRight_139 rfl ?_
          refine e_goto (tgt := 146) dX11_putRight_141 rfl ?_
          refine e_wk (L' := [none, none, none, none, none, none, none, none, none, none, some (.long r6), none, none, none]) (wkN (wkN (wkN (wkN (wkN (wkN (wkN (wkN (wkN (wkN (wkC (wkN (wkN (wkN wk0)))))))))))))) ?_
          exact hj146 (v3.2.1 * v3.2.2.1) h9
      · replace h9 := ifT hc5 h9
        refine e_iload_n dX11_putRight_109 rfl rfl ?_
        refine e_if_eq (tgt := 117) dX11_putRight_110 rfl (fun hc11 => ?_) (fun hc11 => ?_)
        · replace h9 := ifT hc11 h9
          refine e_lconst (v := 0) dX11_putRight_117 rfl ?_
          exact x_lret dX11_putRight_118 rfl (hR1 _ h9)
        · replace h9 := ifF hc11 h9
          refine e_lconst (v := 1) dX11_putRight_113 rfl ?_
          refine e_goto (tgt := 118) dX11_putRight_114 rfl ?_
          exact x_lret dX11_putRight_118 rfl (hR1 _ h9)
    · replace h9 := ifF hc4 h9
      refine e_aload_n dX11_putRight_32 rfl rfl ?_
      obtain ⟨k12, h9⟩ := chkP hN1 h9
      refine g_514 flX11_360 dX11_putRight_33 k12 ?_
      refine e_iload dX11_putRight_36 rfl ?_
      obtain ⟨k13, h9⟩ := chkP hN1 h9
      refine l_514 dX11_putRight_38 k12 (inb_in k13) ?_
      refine e_istore (L' := [some (.ref (ad 11 0)), none, some (.int p2), some (.ref (ad 5 i2)), some (.long v3.1), none, some (.long v3.2.1), none, some (.long v3.2.2.1), none, some (.int v3.2.2.2), some (.int (x.2.1 514 i2 v3.2.2.2.toNatClampNeg)), none, none]) dX11_putRight_39 (by decide) rfl ?_
      refine e_iload dX11_putRight_41 rfl ?_
      refine e_if_le (tgt := 96) dX11_putRight_43 rfl (fun hc14 => ?_) (fun hc14 => ?_)
      · replace h9 := ifT hc14 h9
        refine e_iinc (v := (v3.2.2.2 + 1)) (L' := [some (.ref (ad 11 0)), none, some (.int p2), some (.ref (ad 5 i2)), some (.long v3.1), none, some (.long v3.2.1), none, some (.long v3.2.2.1), none, some (.int (v3.2.2.2 + 1)), some (.int (x.2.1 514 i2 v3.2.2.2.toNatClampNeg)), none, none]) dX11_putRight_96 rfl rfl (by decide) rfl ?_
        refine e_goto (tgt := 26) dX11_putRight_99 rfl ?_
        refine e_wk (L' := [some (.ref (ad 11 0)), none, some (.int p2), some (.ref (ad 5 i2)), some (.long v3.1), none, some (.long v3.2.1), none, some (.long v3.2.2.1), none, some (.int (v3.2.2.2 + 1)), none, none, none]) (wkC (wkN (wkC (wkC (wkC (wkN (wkC (wkN (wkC (wkN (wkC (wkN (wkN (wkN wk0)))))))))))))) ?_
        exact hB0_1 _ _ _ _ h9
      · replace h9 := ifF hc14 h9
        refine e_lload dX11_putRight_46 rfl ?_
        refine e_iload dX11_putRight_48 rfl ?_
        refine e_i2l dX11_putRight_50 rfl ?_
        refine e_lmul dX11_putRight_51 ?_
        refine e_lload dX11_putRight_52 rfl ?_
        refine e_aload_n dX11_putRight_54 rfl rfl ?_
        refine g_1111 flX11_79 dX11_putRight_55 ?_
        refine e_iload dX11_putRight_58 rfl ?_
        refine e_pc (pc' := 60) rfl ?_
        obtain ⟨k15, h9⟩ := chkP hN1 h9
        refine l_1111 dX11_putRight_60 (inb_in k15) ?_
        refine e_i2l dX11_putRight_61 rfl ?_
        refine e_lmul dX11_putRight_62 ?_
        refine e_aload_n dX11_putRight_63 rfl rfl ?_
        refine g_515 flX11_363 dX11_putRight_64 k12 ?_
        refine e_iload dX11_putRight_67 rfl ?_
        obtain ⟨k16, h9⟩ := chkP hN1 h9
        refine l_515 dX11_putRight_69 k12 (inb_in k16) ?_
        refine e_i2l dX11_putRight_70 rfl ?_
        refine e_lmul dX11_putRight_71 ?_
        refine e_pc (pc' := 72) rfl ?_
        refine e_ladd dX11_putRight_72 ?_
        refine e_lstore (L' := [some (.ref (ad 11 0)), none, some (.int p2), some (.ref (ad 5 i2)), some (.long ((v3.1 * ((x.2.1 514 i2 v3.2.2.2.toNatClampNeg).toInt64)) + ((v3.2.1 * ((x.2.1 1111 0 v3.2.2.2.toNatClampNeg).toInt64)) * ((x.2.1 515 i2 v3.2.2.2.toNatClampNeg).toInt64)))), none, some (.long v3.2.1), none, some (.long v3.2.2.1), none, some (.int v3.2.2.2), some (.int (x.2.1 514 i2 v3.2.2.2.toNatClampNeg)), none, none]) dX11_putRight_73 (by decide) rfl ?_
        refine e_lload dX11_putRight_75 rfl ?_
        refine e_iload dX11_putRight_77 rfl ?_
        refine e_i2l dX11_putRight_79 rfl ?_
        refine e_lmul dX11_putRight_80 ?_
        refine e_lstore (L' := [some (.ref (ad 11 0)), none, some (.int p2), some (.ref (ad 5 i2)), some (.long ((v3.1 * ((x.2.1 514 i2 v3.2.2.2.toNatClampNeg).toInt64)) + ((v3.2.1 * ((x.2.1 1111 0 v3.2.2.2.toNatClampNeg).toInt64)) * ((x.2.1 515 i2 v3.2.2.2.toNatClampNeg).toInt64)))), none, some (.long (v3.2.1 * ((x.2.1 514 i2 v3.2.2.2.toNatClampNeg).toInt64))), none, some (.long v3.2.2.1), none, some (.int v3.2.2.2), some (.int (x.2.1 514 i2 v3.2.2.2.toNatClampNeg)), none, none]) dX11_putRight_81 (by decide) rfl ?_
        refine e_lload dX11_putRight_83 rfl ?_
        refine e_aload_n dX11_putRight_85 rfl rfl ?_
        refine e_pc (pc' := 86) rfl ?_
        refine g_1111 flX11_79 dX11_putRight_86 ?_
        refine e_iload dX11_putRight_89 rfl ?_
        obtain ⟨k17, h9⟩ := chkP hN1 h9
        refine l_1111 dX11_putRight_91 (inb_in k17) ?_
        refine e_i2l dX11_putRight_92 rfl ?_
        refine e_ladd dX11_putRight_93 ?_
        refine e_lstore (L' := [some (.ref (ad 11 0)), none, some (.int p2), some (.ref (ad 5 i2)), some (.long ((v3.1 * ((x.2.1 514 i2 v3.2.2.2.toNatClampNeg).toInt64)) + ((v3.2.1 * ((x.2.1 1111 0 v3.2.2.2.toNatClampNeg).toInt64)) * ((x.2.1 515 i2 v3.2.2.2.toNatClampNeg).toInt64)))), none, some (.long (v3.2.1 * ((x.2.1 514 i2 v3.2.2.2.toNatClampNeg).toInt64))), none, some (.long (v3.2.2.1 + ((x.2.1 1111 0 v3.2.2.2.toNatClampNeg).toInt64))), none, some (.int v3.2.2.2), some (.int (x.2.1 514 i2 v3.2.2.2.toNatClampNeg)), none, none]) dX11_putRight_94 (by decide) rfl ?_
        refine e_iinc (v := (v3.2.2.2 + 1)) (L' := [some (.ref (ad 11 0)), none, some (.int p2), some (.ref (ad 5 i2)), some (.long ((v3.1 * ((x.2.1 514 i2 v3.2.2.2.toNatClampNeg).toInt64)) + ((v3.2.1 * ((x.2.1 1111 0 v3.2.2.2.toNatClampNeg).toInt64)) * ((x.2.1 515 i2 v3.2.2.2.toNatClampNeg).toInt64)))), none, some (.long (v3.2.1 * ((x.2.1 514 i2 v3.2.2.2.toNatClampNeg).toInt64))), none, some (.long (v3.2.2.1 + ((x.2.1 1111 0 v3.2.2.2.toNatClampNeg).toInt64))), none, some (.int (v3.2.2.2 + 1)), some (.int (x.2.1 514 i2 v3.2.2.2.toNatClampNeg)), none, none]) dX11_putRight_96 rfl rfl (by decide) rfl ?_
        refine e_goto (tgt := 26) dX11_putRight_99 rfl ?_
        refine e_wk (L' := [some (.ref (ad 11 0)), none, some (.int p2), some (.ref (ad 5 i2)), some (.long ((v3.1 * ((x.2.1 514 i2 v3.2.2.2.toNatClampNeg).toInt64)) + ((v3.2.1 * ((x.2.1 1111 0 v3.2.2.2.toNatClampNeg).toInt64)) * ((x.2.1 515 i2 v3.2.2.2.toNatClampNeg).toInt64)))), none, some (.long (v3.2.1 * ((x.2.1 514 i2 v3.2.2.2.toNatClampNeg).toInt64))), none, some (.long (v3.2.2.1 + ((x.2.1 1111 0 v3.2.2.2.toNatClampNeg).toInt64))), none, some (.int (v3.2.2.2 + 1)), none, none, none]) (wkC (wkN (wkC (wkC (wkC (wkN (wkC (wkN (wkC (wkN (wkC (wkN (wkN (wkN wk0)))))))))))))) ?_
        exact hB0_1 _ _ _ _ h9
noncomputable def f_X11_clearance (x : VM) (p1 : Int32) : Option (Int32 × VM) := if p1 < 0 then (f_X11_refused x (-6)).elim none (fun r2p => some (r2p.1, r2p.2)) else if p1 ≤ 9 then some (x.1 1118 0, setI x 1118 0 p1) else (f_X11_refused x (-6)).elim none (fun r6p => some (r6p.1, r6p.2))
theorem c_X11_clearance {g : GG} {d : Nat} {ad : AD} {x m : VM} {Q : Option Value → VM → VM → Prop} (p1 : Int32) {r9 : Int32} {w9 : VM} (hf : f_X11_clearance x p1 = some (r9, w9)) (hq : Q (some (.int r9)) w9 m) : CX g (d + 1) MX11_clearance [.ref (ad 11 0), .int p1] ad x m Q := by
  refine CX.to (Lv := [some (.ref (ad 11 0)), some (.int p1), none]) okX11_clearance (Nat.le_of_ble_eq_true rfl) rfl ?_
  obtain ⟨Φ0, hΦ⟩ : ∃ Φ : Option (Int32 × VM) → Prop, Φ = fun o => o = some (r9, w9) := ⟨_, rfl⟩
  have hN0 : Φ0 none → False := by rw [hΦ]; intro h; cases h
  have hR0 : ∀ z9 y9, Φ0 (some (z9, y9)) → Q (some (.int z9)) y9 m := by rw [hΦ]; intro z9 y9 h; cases h; exact hq
  have h9 : Φ0 (f_X11_clearance x p1) := by rw [hΦ]; exact hf
  clear hf hq hΦ
  unfold f_X11_clearance at h9
  refine e_iload_n dX11_clearance_0 rfl rfl ?_
  refine e_if_lt (tgt := 10) dX11_clearance_1 rfl (fun hc1 => ?_) (fun hc1 => ?_)
  · replace h9 := ifT hc1 h9
    refine e_aload_n dX11_clearance_10 rfl rfl ?_
    refine e_bipush (v := (-6)) dX11_clearance_11 rfl ?_
    obtain ⟨⟨r2, w3⟩, hr2, h9⟩ := elimP hN0 h9
    refine x_callVi (c := 11) (As := [.int (-6)]) (rest := []) okX11_refused lkX11_105 rfl (by decide) rfl dX11_clearance_13 rfl rfl (Nat.le_of_ble_eq_true rfl) rfl (c_X11_refused (-6) hr2 (CI.mk ?_))
    exact x_iret dX11_clearance_16 rfl (hR0 _ _ h9)
  · replace h9 := ifF hc1 h9
    refine e_iload_n dX11_clearance_4 rfl rfl ?_
    refine e_bipush (v := 9) dX11_clearance_5 rfl ?_
    refine e_icmp_le (tgt := 17) dX11_clearance_7 rfl (fun hc5 => ?_) (fun hc5 => ?_)
    · replace h9 := ifT hc5 h9
      refine e_aload_n dX11_clearance_17 rfl rfl ?_
      refine g_1118 flX11_101 dX11_clearance_18 ?_
      refine e_istore_n (L' := [some (.ref (ad 11 0)), some (.int p1), some (.int (x.1 1118 0))]) dX11_clearance_21 rfl (by decide) rfl ?_
      refine e_aload_n dX11_clearance_22 rfl rfl ?_
      refine e_iload_n dX11_clearance_23 rfl rfl ?_
      refine p_1118 flX11_101 dX11_clearance_24 ?_
      refine e_iload_n dX11_clearance_27 rfl rfl ?_
      exact x_iret dX11_clearance_28 rfl (hR0 _ _ h9)
    · replace h9 := ifF hc5 h9
      refine e_aload_n dX11_clearance_10 rfl rfl ?_
      refine e_bipush (v := (-6)) dX11_clearance_11 rfl ?_
      obtain ⟨⟨r6, w7⟩, hr6, h9⟩ := elimP hN0 h9
      refine x_callVi (c := 11) (As := [.int (-6)]) (rest := []) okX11_refused lkX11_105 rfl (by decide) rfl dX11_clearance_13 rfl rfl (Nat.le_of_ble_eq_true rfl) rfl (c_X11_refused (-6) hr6 (CI.mk ?_))
      exact x_iret dX11_clearance_16 rfl (hR0 _ _ h9)
noncomputable def f_X11_hallAt (x : VM) (p1 : Int32) : Option (Option Nat) := if p1 < 0 then some none else if p1 < (x.1 1115 0) then if inb p1 6 = true then if p1.toNatClampNeg < x.2.2.2 1 then some (some p1.toNatClampNeg) else some none else none else some none
theorem c_X11_hallAt {g : GG} {d : Nat} {ad : AD} {x m : VM} {Q : Option Value → VM → VM → Prop} (p1 : Int32) {r9 : Option Nat} (hf : f_X11_hallAt x p1 = some r9) (hq : Q (some (va_rf (r9.map (ad 1)))) x m) : CX g d MX11_hallAt [.ref (ad 11 0), .int p1] ad x m Q := by
  refine CX.to (Lv := [some (.ref (ad 11 0)), some (.int p1)]) okX11_hallAt (Nat.le_of_ble_eq_true rfl) rfl ?_
  obtain ⟨Φ0, hΦ⟩ : ∃ Φ : Option (Option Nat) → Prop, Φ = fun o => o = some r9 := ⟨_, rfl⟩
  have hN0 : Φ0 none → False := by rw [hΦ]; intro h; cases h
  have hR0 : ∀ z9, Φ0 (some z9) → Q (some (va_rf (z9.map (ad 1)))) x m := by rw [hΦ]; intro z9 h; cases h; exact hq
  have h9 : Φ0 (f_X11_hallAt x p1) := by rw [hΦ]; exact hf
  clear hf hq hΦ
  unfold f_X11_hallAt at h9
  refine e_iload_n dX11_hallAt_0 rfl rfl ?_
  refine e_if_lt (tgt := 12) dX11_hallAt_1 rfl (fun hc1 => ?_) (fun hc1 => ?_)
  · replace h9 := ifT hc1 h9
    refine e_null dX11_hallAt_12 ?_
    refine e_goto (tgt := 22) dX11_hallAt_13 rfl ?_
    exact x_aretN dX11_hallAt_22 rfl (hR0 _ h9)
  · replace h9 := ifF hc1 h9
    refine e_iload_n dX11_hallAt_4 rfl rfl ?_
    refine e_aload_n dX11_hallAt_5 rfl rfl ?_
    refine g_1115 flX11_92 dX11_hallAt_6 ?_
    refine e_icmp_lt (tgt := 16) dX11_hallAt_9 rfl (fun hc2 => ?_) (fun hc2 => ?_)
    · replace h9 := ifT hc2 h9
      refine e_aload_n dX11_hallAt_16 rfl rfl ?_
      refine g_1103 flX11_29 dX11_hallAt_17 ?_
      refine e_iload_n dX11_hallAt_20 rfl rfl ?_
      obtain ⟨k3, h9⟩ := chkP hN0 h9
      refine l_1103 dX11_hallAt_21 (inb_in k3) ?_
      by_cases k4 : p1.toNatClampNeg < x.2.2.2 1
      · replace h9 := ifT k4 h9
        refine e_top (v := .ref (ad 1 p1.toNatClampNeg)) (rfT k4) ?_
        exact x_aret dX11_hallAt_22 rfl (hR0 _ h9)
      · replace h9 := ifF k4 h9
        refine e_top (v := .null) (rfF k4) ?_
        exact x_aretN dX11_hallAt_22 rfl (hR0 _ h9)
    · replace h9 := ifF hc2 h9
      refine e_null dX11_hallAt_12 ?_
      refine e_goto (tgt := 22) dX11_hallAt_13 rfl ?_
      exact x_aretN dX11_hallAt_22 rfl (hR0 _ h9)
noncomputable def f_X11_isHallWeek (x : VM) (p1 : Int32) : Option (Int32) := if p1 < 0 then some 0 else if 40 ≤ p1 then some 0 else some 1
theorem c_X11_isHallWeek {g : GG} {d : Nat} {ad : AD} {x m : VM} {Q : Option Value → VM → VM → Prop} (p1 : Int32) {r9 : Int32} (hf : f_X11_isHallWeek x p1 = some r9) (hq : Q (some (.int r9)) x m) : CX g d MX11_isHallWeek [.int p1] ad x m Q := by
  refine CX.to (Lv := [some (.int p1)]) okX11_isHallWeek (Nat.le_of_ble_eq_true rfl) rfl ?_
  obtain ⟨Φ0, hΦ⟩ : ∃ Φ : Option (Int32) → Prop, Φ = fun o => o = some r9 := ⟨_, rfl⟩
  have hN0 : Φ0 none → False := by rw [hΦ]; intro h; cases h
  have hR0 : ∀ z9, Φ0 (some z9) → Q (some (.int z9)) x m := by rw [hΦ]; intro z9 h; cases h; exact hq
  have h9 : Φ0 (f_X11_isHallWeek x p1) := by rw [hΦ]; exact hf
  clear hf hq hΦ
  unfold f_X11_isHallWeek at h9
  refine e_iload_n dX11_isHallWeek_0 rfl rfl ?_
  refine e_if_lt (tgt := 14) dX11_isHallWeek_1 rfl (fun hc1 => ?_) (fun hc1 => ?_)
  · replace h9 := ifT hc1 h9
    refine e_iconst (v := 0) dX11_isHallWeek_14 rfl ?_
    exact x_zret dX11_isHallWeek_15 rfl (by decide) (hR0 _ h9)
  · replace h9 := ifF hc1 h9
    refine e_iload_n dX11_isHallWeek_4 rfl rfl ?_
    refine e_bipush (v := 40) dX11_isHallWeek_5 rfl ?_
    refine e_icmp_ge (tgt := 14) dX11_isHallWeek_7 rfl (fun hc2 => ?_) (fun hc2 => ?_)
    · replace h9 := ifT hc2 h9
      refine e_iconst (v := 0) dX11_isHallWeek_14 rfl ?_
      exact x_zret dX11_isHallWeek_15 rfl (by decide) (hR0 _ h9)
    · replace h9 := ifF hc2 h9
      refine e_iconst (v := 1) dX11_isHallWeek_10 rfl ?_
      refine e_goto (tgt := 15) dX11_isHallWeek_11 rfl ?_
      exact x_zret dX11_isHallWeek_15 rfl (by decide) (hR0 _ h9)
noncomputable def j_X11_mayBook_62 (x : VM) (p1 : Int32) (p2 : Nat) (p3 : Int32) (v4 : Int32) (a8 : Int32) : (Int32) ⊕ (Option (Int32)) := if a8 = 0 then Sum.inl (v4 + 1) else (f_X1_showsNear x v4.toNatClampNeg p1 p3 (x.1 1118 0)).elim (Sum.inr none) (fun r10 => if r10 = 0 then Sum.inl (v4 + 1) else Sum.inr (some 0))
noncomputable def j_X11_mayBook_61 (x : VM) (p1 : Int32) (p2 : Nat) (p3 : Int32) (v4 : Int32) : (Int32) ⊕ (Option (Int32)) := j_X11_mayBook_62 x p1 p2 p3 v4 0
noncomputable def b_X11_mayBook_15 (x : VM) (p1 : Int32) (p2 : Nat) (p3 : Int32) (v4 : Int32) : (Int32) ⊕ (Option (Int32)) := if (x.1 1115 0) ≤ v4 then Sum.inr (some 1) else if inb v4 6 = true then if v4.toNatClampNeg < x.2.2.2 1 then if (x.1 100 v4.toNatClampNeg) = (x.1 100 p2) then if (x.1 101 v4.toNatClampNeg) = (x.1 101 p2) then j_X11_mayBook_61 x p1 p2 p3 v4 else j_X11_mayBook_62 x p1 p2 p3 v4 1 else j_X11_mayBook_61 x p1 p2 p3 v4 else Sum.inr none else Sum.inr none
noncomputable def f_X11_mayBook (x : VM) (p1 : Int32) (p2 : Nat) (p3 : Int32) : Option (Int32) := if p2 < x.2.2.2 1 then if inb p3 40 = true then if (x.2.1 103 p2 p3.toNatClampNeg) = (-1) then loopF none (b_X11_mayBook_15 x p1 p2 p3) 0 else some 0 else none else none
theorem c_X11_mayBook {g : GG} {d : Nat} {ad : AD} {x m : VM} {Q : Option Value → VM → VM → Prop} (p1 : Int32) (p2 : Nat) (p3 : Int32) {r9 : Int32} (hf : f_X11_mayBook x p1 p2 p3 = some r9) (hq : Q (some (.int r9)) x m) : CX g (d + 2) MX11_mayBook [.ref (ad 11 0), .int p1, .ref (ad 1 p2), .int p3] ad x m Q := by
  refine CX.to (Lv := [some (.ref (ad 11 0)), some (.int p1), some (.ref (ad 1 p2)), some (.int p3), none, none, none]) okX11_mayBook (Nat.le_of_ble_eq_true rfl) rfl ?_
  obtain ⟨Φ0, hΦ⟩ : ∃ Φ : Option (Int32) → Prop, Φ = fun o => o = some r9 := ⟨_, rfl⟩
  have hN0 : Φ0 none → False := by rw [hΦ]; intro h; cases h
  have hR0 : ∀ z9, Φ0 (some z9) → Q (some (.int z9)) x m := by rw [hΦ]; intro z9 h; cases h; exact hq
  have h9 : Φ0 (f_X11_mayBook x p1 p2 p3) := by rw [hΦ]; exact hf
  clear hf hq hΦ
  unfold f_X11_mayBook at h9
  refine e_aload_n dX11_mayBook_0 rfl rfl ?_
  obtain ⟨k1, h9⟩ := chkP hN0 h9
  refine g_103 flX11_384 dX11_mayBook_1 k1 ?_
  refine e_iload_n dX11_mayBook_4 rfl rfl ?_
  obtain ⟨k2, h9⟩ := chkP hN0 h9
  refine l_103 dX11_mayBook_5 k1 (inb_in k2) ?_
  refine e_iconst (v := (-1)) dX11_mayBook_6 rfl ?_
  refine e_icmp_eq (tgt := 12) dX11_mayBook_7 rfl (fun hc3 => ?_) (fun hc3 => ?_)
  · replace h9 := ifT hc3 h9
    refine e_iconst (v := 0) dX11_mayBook_12 rfl ?_
    refine e_istore (L' := [some (.ref (ad 11 0)), some (.int p1), some (.ref (ad 1 p2)), some (.int p3), some (.int 0), none, none]) dX11_mayBook_13 (by decide) rfl ?_
    refine loop_gen (b_X11_mayBook_15 x p1 p2 p3) none (fun v4 => EX g (d + 2) MX11_mayBook ad x m 15 [some (.ref (ad 11 0)), some (.int p1), some (.ref (ad 1 p2)), some (.int p3), some (.int v4), none, none] [] Q) Φ0 hN0 (fun v4 Φ1 hB0_1 hO1 h9 => ?_) 0 h9
    have hN1 := fun h => hN0 (hO1 _ h)
    have hR1 := fun r9 h => hR0 r9 (hO1 _ h)
    have hB0_1 : ∀ (z0 : Int32), Φ1 (Sum.inl z0) → EX g (d + 2) MX11_mayBook ad x m 15 [some (.ref (ad 11 0)), some (.int p1), some (.ref (ad 1 p2)), some (.int p3), some (.int z0), none, none] [] Q := fun z0 h => hB0_1 z0 h
    unfold b_X11_mayBook_15 at h9
    refine e_iload dX11_mayBook_15 rfl ?_
    refine e_aload_n dX11_mayBook_17 rfl rfl ?_
    refine g_1115 flX11_92 dX11_mayBook_18 ?_
    refine e_icmp_ge (tgt := 91) dX11_mayBook_21 rfl (fun hc5 => ?_) (fun hc5 => ?_)
    · replace h9 := ifT hc5 h9
      refine e_iconst (v := 1) dX11_mayBook_91 rfl ?_
      exact x_zret dX11_mayBook_92 rfl (by decide) (hR1 _ h9)
    · replace h9 := ifF hc5 h9
      refine e_aload_n dX11_mayBook_24 rfl rfl ?_
      refine g_1103 flX11_29 dX11_mayBook_25 ?_
      refine e_iload dX11_mayBook_28 rfl ?_
      obtain ⟨k6, h9⟩ := chkP hN1 h9
      refine l_1103 dX11_mayBook_30 (inb_in k6) ?_
      obtain ⟨k7, h9⟩ := chkP hN1 h9
      refine e_top (v := .ref (ad 1 v4.toNatClampNeg)) (rfT k7) ?_
      refine e_astore (L' := [some (.ref (ad 11 0)), some (.int p1), some (.ref (ad 1 p2)), some (.int p3), some (.int v4), some (.ref (ad 1 v4.toNatClampNeg)), none]) dX11_mayBook_31 (by decide) rfl ?_
      refine e_aload dX11_mayBook_33 rfl ?_
      refine g_100 flX11_464 dX11_mayBook_35 k7 ?_
      refine e_aload_n dX11_mayBook_38 rfl rfl ?_
      refine e_pc (pc' := 39) rfl ?_
      refine g_100 flX11_464 dX11_mayBook_39 k1 ?_
      have hj62 : ∀ (a8 : Int32), Φ1 (j_X11_mayBook_62 x p1 p2 p3 v4 a8) → EX g (d + 2) MX11_mayBook ad x m 62 [some (.ref (ad 11 0)), some (.int p1), some (.ref (ad 1 p2)), some (.int p3), some (.int v4), some (.ref (ad 1 v4.toNatClampNeg)), none] [.int a8] Q := by
        intro a8 h9
        unfold j_X11_mayBook_62 at h9
        refine e_istore (L' := [some (.ref (ad 11 0)), some (.int p1), some (.ref (ad 1 p2)), some (.int p3), some (.int v4), some (.ref (ad 1 v4.toNatClampNeg)), some (.int a8)]) dX11_mayBook_62 (by decide) rfl ?_
        refine e_iload dX11_mayBook_64 rfl ?_
        refine e_if_eq (tgt := 85) dX11_mayBook_66 rfl (fun hc9 => ?_) (fun hc9 => ?_)
        · replace h9 := ifT hc9 h9
          refine e_iinc (v := (v4 + 1)) (L' := [some (.ref (ad 11 0)), some (.int p1), some (.ref (ad 1 p2)), some (.int p3), some (.int (v4 + 1)), some (.ref (ad 1 v4.toNatClampNeg)), some (.int a8)]) dX11_mayBook_85 rfl rfl (by decide) rfl ?_
          refine e_goto (tgt := 15) dX11_mayBook_88 rfl ?_
          refine e_wk (L' := [some (.ref (ad 11 0)), some (.int p1), some (.ref (ad 1 p2)), some (.int p3), some (.int (v4 + 1)), none, none]) (wkC (wkC (wkC (wkC (wkC (wkN (wkN wk0))))))) ?_
          exact hB0_1 _ h9
        · replace h9 := ifF hc9 h9
          refine e_aload dX11_mayBook_69 rfl ?_
          refine e_iload_n dX11_mayBook_71 rfl rfl ?_
          refine e_iload_n dX11_mayBook_72 rfl rfl ?_
          refine e_aload_n dX11_mayBook_73 rfl rfl ?_
          refine g_1118 flX11_101 dX11_mayBook_74 ?_
          obtain ⟨r10, hr10, h9⟩ := elimP hN1 h9
          refine x_callVi (c := 1) (As := [.int p1, .int p3, .int (x.1 1118 0)]) (rest := []) okX1_showsNear lkX11_470 rfl (by decide) rfl dX11_mayBook_77 rfl rfl (Nat.le_of_ble_eq_true rfl) k7 (c_X1_showsNear v4.toNatClampNeg p1 p3 (x.1 1118 0) hr10 (CI.mk ?_))
          refine e_if_eq (tgt := 85) dX11_mayBook_80 rfl (fun hc11 => ?_) (fun hc11 => ?_)
          · replace h9 := ifT hc11 h9
            refine e_iinc (v := (v4 + 1)) (L' := [some (.ref (ad 11 0)), some (.int p1), some (.ref (ad 1 p2)), some (.int p3), some (.int (v4 + 1)), some (.ref (ad 1 v4.toNatClampNeg)), some (.int a8)]) dX11_mayBook_85 rfl rfl (by decide) rfl ?_
            refine e_goto (tgt := 15) dX11_mayBook_88 rfl ?_
            refine e_wk (L' := [some (.ref (ad 11 0)), some (.int p1), some (.ref (ad 1 p2)), some (.int p3), some (.int (v4 + 1)), none, none]) (wkC (wkC (wkC (wkC (wkC (wkN (wkN wk0))))))) ?_
            exact hB0_1 _ h9
          · replace h9 := ifF hc11 h9
            refine e_iconst (v := 0) dX11_mayBook_83 rfl ?_
            exact x_zret dX11_mayBook_84 rfl (by decide) (hR1 _ h9)
      have hj61 : Φ1 (j_X11_mayBook_61 x p1 p2 p3 v4) → EX g (d + 2) MX11_mayBook ad x m 61 [some (.ref (ad 11 0)), some (.int p1), some (.ref (ad 1 p2)), some (.int p3), some (.int v4), some (.ref (ad 1 v4.toNatClampNeg)), none] [] Q := by
        intro h9
        unfold j_X11_mayBook_61 at h9
        refine e_iconst (v := 0) dX11_mayBook_61 rfl ?_
        exact hj62 0 h9
      refine e_icmp_ne (tgt := 61) dX11_mayBook_42 rfl (fun hc12 => ?_) (fun hc12 => ?_)
      · replace h9 := ifF hc12 h9
        exact hj61 h9
      · replace h9 := ifT hc12 h9
        refine e_aload dX11_mayBook_45 rfl ?_
        refine g_101 flX11_467 dX11_mayBook_47 k7 ?_
        refine e_aload_n dX11_mayBook_50 rfl rfl ?_
        refine g_101 flX11_467 dX11_mayBook_51 k1 ?_
        refine e_icmp_eq (tgt := 61) dX11_mayBook_54 rfl (fun hc13 => ?_) (fun hc13 => ?_)
        · replace h9 := ifT hc13 h9
          exact hj61 h9
        · replace h9 := ifF hc13 h9
          refine e_iconst (v := 1) dX11_mayBook_57 rfl ?_
          refine e_goto (tgt := 62) dX11_mayBook_58 rfl ?_
          exact hj62 1 h9
  · replace h9 := ifF hc3 h9
    refine e_iconst (v := 0) dX11_mayBook_10 rfl ?_
    exact x_zret dX11_mayBook_11 rfl (by decide) (hR0 _ h9)
noncomputable def f_X11_book (x : VM) (p1 : Int32) (p2 : Int32) (p3 : Int32) : Option (Int32 × VM) := (f_X11_hallAt x p2).elim none (fun r1 => r1.elim ((f_X11_refused x (-1)).elim none (fun r3p => some (r3p.1, r3p.2))) (fun i2 => (f_X11_pictureAt x p1).elim none (fun r6 => r6.elim ((f_X11_refused x (-1)).elim none (fun r8p => some (r8p.1, r8p.2))) (fun i7 => (f_X11_isHallWeek x p3).elim none (fun r11 => if r11 = 0 then (f_X11_refused x (-6)).elim none (fun r13p => some (r13p.1, r13p.2)) else (f_X11_mayBook x p1 i2 p3).elim none (fun r16 => if r16 = 0 then (f_X11_refused x (-6)).elim none (fun r20p => some (r20p.1, r20p.2)) else if i2 < x.2.2.2 1 then if inb p3 40 = true then some (1, setA x 103 i2 (upd (x.2.1 103 i2) p3.toNatClampNeg p1)) else none else none))))))
theorem c_X11_book {g : GG} {d : Nat} {ad : AD} {x m : VM} {Q : Option Value → VM → VM → Prop} (p1 : Int32) (p2 : Int32) (p3 : Int32) {r9 : Int32} {w9 : VM} (hf : f_X11_book x p1 p2 p3 = some (r9, w9)) (hq : Q (some (.int r9)) w9 m) : CX g (d + 3) MX11_book [.ref (ad 11 0), .int p1, .int p2, .int p3] ad x m Q := by
  refine CX.to (Lv := [some (.ref (ad 11 0)), some (.int p1), some (.int p2), some (.int p3), none]) okX11_book (Nat.le_of_ble_eq_true rfl) rfl ?_
  obtain ⟨Φ0, hΦ⟩ : ∃ Φ : Option (Int32 × VM) → Prop, Φ = fun o => o = some (r9, w9) := ⟨_, rfl⟩
  have hN0 : Φ0 none → False := by rw [hΦ]; intro h; cases h
  have hR0 : ∀ z9 y9, Φ0 (some (z9, y9)) → Q (some (.int z9)) y9 m := by rw [hΦ]; intro z9 y9 h; cases h; exact hq
  have h9 : Φ0 (f_X11_book x p1 p2 p3) := by rw [hΦ]; exact hf
  clear hf hq hΦ
  unfold f_X11_book at h9
  refine e_aload_n dX11_book_0 rfl rfl ?_
  refine e_iload_n dX11_book_1 rfl rfl ?_
  obtain ⟨r1, hr1, h9⟩ := elimP hN0 h9
  refine x_callVi (c := 11) (As := [.int p2]) (rest := []) okX11_hallAt lkX11_373 rfl (by decide) rfl dX11_book_2 rfl rfl (Nat.le_of_ble_eq_true rfl) rfl (c_X11_hallAt p2 hr1 (CI.mk ?_))
  cases r1 with
  | none =>
    replace h9 := elN h9
    refine e_top (v := .null) rfl ?_
    refine e_astoreN (L' := [some (.ref (ad 11 0)), some (.int p1), some (.int p2), some (.int p3), some (.null)]) dX11_book_5 (by decide) rfl ?_
    refine e_aloadN dX11_book_7 rfl ?_
    refine e_ifnullN (tgt := 20) dX11_book_9 rfl ?_
    refine e_aload_n dX11_book_20 rfl rfl ?_
    refine e_iconst (v := (-1)) dX11_book_21 rfl ?_
    obtain ⟨⟨r3, w4⟩, hr3, h9⟩ := elimP hN0 h9
    refine x_callVi (c := 11) (As := [.int (-1)]) (rest := []) okX11_refused lkX11_105 rfl (by decide) rfl dX11_book_22 rfl rfl (Nat.le_of_ble_eq_true rfl) rfl (c_X11_refused (-1) hr3 (CI.mk ?_))
    exact x_iret dX11_book_25 rfl (hR0 _ _ h9)
  | some i2 =>
    replace h9 := elS h9
    refine e_top (v := .ref (ad 1 i2)) rfl ?_
    refine e_astore (L' := [some (.ref (ad 11 0)), some (.int p1), some (.int p2), some (.int p3), some (.ref (ad 1 i2))]) dX11_book_5 (by decide) rfl ?_
    refine e_aload dX11_book_7 rfl ?_
    refine e_ifnull dX11_book_9 ?_
    refine e_aload_n dX11_book_12 rfl rfl ?_
    refine e_iload_n dX11_book_13 rfl rfl ?_
    obtain ⟨r6, hr6, h9⟩ := elimP hN0 h9
    refine x_callVi (c := 11) (As := [.int p1]) (rest := []) okX11_pictureAt lkX11_164 rfl (by decide) rfl dX11_book_14 rfl rfl (Nat.le_of_ble_eq_true rfl) rfl (c_X11_pictureAt p1 hr6 (CI.mk ?_))
    cases r6 with
    | none =>
      replace h9 := elN h9
      refine e_top (v := .null) rfl ?_
      refine e_ifnonnullN dX11_book_17 ?_
      refine e_aload_n dX11_book_20 rfl rfl ?_
      refine e_iconst (v := (-1)) dX11_book_21 rfl ?_
      obtain ⟨⟨r8, w9⟩, hr8, h9⟩ := elimP hN0 h9
      refine x_callVi (c := 11) (As := [.int (-1)]) (rest := []) okX11_refused lkX11_105 rfl (by decide) rfl dX11_book_22 rfl rfl (Nat.le_of_ble_eq_true rfl) rfl (c_X11_refused (-1) hr8 (CI.mk ?_))
      exact x_iret dX11_book_25 rfl (hR0 _ _ h9)
    | some i7 =>
      replace h9 := elS h9
      refine e_top (v := .ref (ad 5 i7)) rfl ?_
      refine e_ifnonnull (tgt := 26) dX11_book_17 rfl ?_
      refine e_iload_n dX11_book_26 rfl rfl ?_
      obtain ⟨r11, hr11, h9⟩ := elimP hN0 h9
      refine x_callSi (As := [.int p3]) (rest := []) okX11_isHallWeek lkX11_377 dX11_book_27 rfl rfl (Nat.le_of_ble_eq_true rfl) (c_X11_isHallWeek p3 hr11 (CI.mk ?_))
      refine e_if_eq (tgt := 44) dX11_book_30 rfl (fun hc12 => ?_) (fun hc12 => ?_)
      · replace h9 := ifT hc12 h9
        refine e_aload_n dX11_book_44 rfl rfl ?_
        refine e_bipush (v := (-6)) dX11_book_45 rfl ?_
        obtain ⟨⟨r13, w14⟩, hr13, h9⟩ := elimP hN0 h9
        refine x_callVi (c := 11) (As := [.int (-6)]) (rest := []) okX11_refused lkX11_105 rfl (by decide) rfl dX11_book_47 rfl rfl (Nat.le_of_ble_eq_true rfl) rfl (c_X11_refused (-6) hr13 (CI.mk ?_))
        exact x_iret dX11_book_50 rfl (hR0 _ _ h9)
      · replace h9 := ifF hc12 h9
        refine e_aload_n dX11_book_33 rfl rfl ?_
        refine e_iload_n dX11_book_34 rfl rfl ?_
        refine e_aload dX11_book_35 rfl ?_
        refine e_iload_n dX11_book_37 rfl rfl ?_
        obtain ⟨r16, hr16, h9⟩ := elimP hN0 h9
        refine x_callVi (c := 11) (As := [.int p1, .ref (ad 1 i2), .int p3]) (rest := []) okX11_mayBook lkX11_380 rfl (by decide) rfl dX11_book_38 rfl rfl (Nat.le_of_ble_eq_true rfl) rfl (c_X11_mayBook p1 i2 p3 hr16 (CI.mk ?_))
        refine e_if_ne (tgt := 51) dX11_book_41 rfl (fun hc17 => ?_) (fun hc17 => ?_)
        · replace h9 := ifF hc17 h9
          refine e_aload dX11_book_51 rfl ?_
          obtain ⟨k18, h9⟩ := chkP hN0 h9
          refine g_103 flX11_384 dX11_book_53 k18 ?_
          refine e_iload_n dX11_book_56 rfl rfl ?_
          refine e_iload_n dX11_book_57 rfl rfl ?_
          obtain ⟨k19, h9⟩ := chkP hN0 h9
          refine s_103 dX11_book_58 k18 (inb_in k19) ?_
          refine e_iconst (v := 1) dX11_book_59 rfl ?_
          exact x_iret dX11_book_60 rfl (hR0 _ _ h9)
        · replace h9 := ifT hc17 h9
          refine e_aload_n dX11_book_44 rfl rfl ?_
          refine e_bipush (v := (-6)) dX11_book_45 rfl ?_
          obtain ⟨⟨r20, w21⟩, hr20, h9⟩ := elimP hN0 h9
          refine x_callVi (c := 11) (As := [.int (-6)]) (rest := []) okX11_refused lkX11_105 rfl (by decide) rfl dX11_book_47 rfl rfl (Nat.le_of_ble_eq_true rfl) rfl (c_X11_refused (-6) hr20 (CI.mk ?_))
          exact x_iret dX11_book_50 rfl (hR0 _ _ h9)
noncomputable def f_X11_hasBitBeyond (x : VM) (p1 : Int32) (p2 : Int32) : Option (Int32) := if ((p1.toUInt32 >>> (p2.toUInt32 &&& Int32.toUInt32 31)).toInt32) = 0 then some 0 else some 1
theorem c_X11_hasBitBeyond {g : GG} {d : Nat} {ad : AD} {x m : VM} {Q : Option Value → VM → VM → Prop} (p1 : Int32) (p2 : Int32) {r9 : Int32} (hf : f_X11_hasBitBeyond x p1 p2 = some r9) (hq : Q (some (.int r9)) x m) : CX g d MX11_hasBitBeyond [.int p1, .int p2] ad x m Q := by
  refine CX.to (Lv := [some (.int p1), some (.int p2)]) okX11_hasBitBeyond (Nat.le_of_ble_eq_true rfl) rfl ?_
  obtain ⟨Φ0, hΦ⟩ : ∃ Φ : Option (Int32) → Prop, Φ = fun o => o = some r9 := ⟨_, rfl⟩
  have hN0 : Φ0 none → False := by rw [hΦ]; intro h; cases h
  have hR0 : ∀ z9, Φ0 (some z9) → Q (some (.int z9)) x m := by rw [hΦ]; intro z9 h; cases h; exact hq
  have h9 : Φ0 (f_X11_hasBitBeyond x p1 p2) := by rw [hΦ]; exact hf
  clear hf hq hΦ
  unfold f_X11_hasBitBeyond at h9
  refine e_iload_n dX11_hasBitBeyond_0 rfl rfl ?_
  refine e_iload_n dX11_hasBitBeyond_1 rfl rfl ?_
  refine e_iushr dX11_hasBitBeyond_2 rfl ?_
  refine e_if_eq (tgt := 10) dX11_hasBitBeyond_3 rfl (fun hc1 => ?_) (fun hc1 => ?_)
  · replace h9 := ifT hc1 h9
    refine e_iconst (v := 0) dX11_hasBitBeyond_10 rfl ?_
    exact x_zret dX11_hasBitBeyond_11 rfl (by decide) (hR0 _ h9)
  · replace h9 := ifF hc1 h9
    refine e_iconst (v := 1) dX11_hasBitBeyond_6 rfl ?_
    refine e_goto (tgt := 11) dX11_hasBitBeyond_7 rfl ?_
    exact x_zret dX11_hasBitBeyond_11 rfl (by decide) (hR0 _ h9)
noncomputable def b_X11_earliestWeek_3 (x : VM) (p1 : Int32) (p2 : Nat) (p3 : Int32) (v1 : Int32) : (Int32) ⊕ (Option (Int32)) := if 40 ≤ v1 then Sum.inr (some (-1)) else (f_X11_mayBook x p1 p2 v1).elim (Sum.inr none) (fun r3 => if r3 = 0 then Sum.inl (v1 + 1) else Sum.inr (some v1))
noncomputable def f_X11_earliestWeek (x : VM) (p1 : Int32) (p2 : Nat) (p3 : Int32) : Option (Int32) := loopF none (b_X11_earliestWeek_3 x p1 p2 p3) p3
theorem c_X11_earliestWeek {g : GG} {d : Nat} {ad : AD} {x m : VM} {Q : Option Value → VM → VM → Prop} (p1 : Int32) (p2 : Nat) (p3 : Int32) {r9 : Int32} (hf : f_X11_earliestWeek x p1 p2 p3 = some r9) (hq : Q (some (.int r9)) x m) : CX g (d + 3) MX11_earliestWeek [.ref (ad 11 0), .int p1, .ref (ad 1 p2), .int p3] ad x m Q := by
  refine CX.to (Lv := [some (.ref (ad 11 0)), some (.int p1), some (.ref (ad 1 p2)), some (.int p3), none]) okX11_earliestWeek (Nat.le_of_ble_eq_true rfl) rfl ?_
  obtain ⟨Φ0, hΦ⟩ : ∃ Φ : Option (Int32) → Prop, Φ = fun o => o = some r9 := ⟨_, rfl⟩
  have hN0 : Φ0 none → False := by rw [hΦ]; intro h; cases h
  have hR0 : ∀ z9, Φ0 (some z9) → Q (some (.int z9)) x m := by rw [hΦ]; intro z9 h; cases h; exact hq
  have h9 : Φ0 (f_X11_earliestWeek x p1 p2 p3) := by rw [hΦ]; exact hf
  clear hf hq hΦ
  unfold f_X11_earliestWeek at h9
  refine e_iload_n dX11_earliestWeek_0 rfl rfl ?_
  refine e_istore (L' := [some (.ref (ad 11 0)), some (.int p1), some (.ref (ad 1 p2)), some (.int p3), some (.int p3)]) dX11_earliestWeek_1 (by decide) rfl ?_
  refine e_wk (L' := [some (.ref (ad 11 0)), some (.int p1), some (.ref (ad 1 p2)), none, some (.int p3)]) (wkC (wkC (wkC (wkN (wkC wk0))))) ?_
  refine loop_gen (b_X11_earliestWeek_3 x p1 p2 p3) none (fun v1 => EX g (d + 3) MX11_earliestWeek ad x m 3 [some (.ref (ad 11 0)), some (.int p1), some (.ref (ad 1 p2)), none, some (.int v1)] [] Q) Φ0 hN0 (fun v1 Φ1 hB0_1 hO1 h9 => ?_) p3 h9
  have hN1 := fun h => hN0 (hO1 _ h)
  have hR1 := fun r9 h => hR0 r9 (hO1 _ h)
  have hB0_1 : ∀ (z0 : Int32), Φ1 (Sum.inl z0) → EX g (d + 3) MX11_earliestWeek ad x m 3 [some (.ref (ad 11 0)), some (.int p1), some (.ref (ad 1 p2)), none, some (.int z0)] [] Q := fun z0 h => hB0_1 z0 h
  unfold b_X11_earliestWeek_3 at h9
  refine e_iload dX11_earliestWeek_3 rfl ?_
  refine e_bipush (v := 40) dX11_earliestWeek_5 rfl ?_
  refine e_icmp_ge (tgt := 30) dX11_earliestWeek_7 rfl (fun hc2 => ?_) (fun hc2 => ?_)
  · replace h9 := ifT hc2 h9
    refine e_iconst (v := (-1)) dX11_earliestWeek_30 rfl ?_
    exact x_iret dX11_earliestWeek_31 rfl (hR1 _ h9)
  · replace h9 := ifF hc2 h9
    refine e_aload_n dX11_earliestWeek_10 rfl rfl ?_
    refine e_iload_n dX11_earliestWeek_11 rfl rfl ?_
    refine e_aload_n dX11_earliestWeek_12 rfl rfl ?_
    refine e_iload dX11_earliestWeek_13 rfl ?_
    obtain ⟨r3, hr3, h9⟩ := elimP hN1 h9
    refine x_callVi (c := 11) (As := [.int p1, .ref (ad 1 p2), .int v1]) (rest := []) okX11_mayBook lkX11_380 rfl (by decide) rfl dX11_earliestWeek_15 rfl rfl (Nat.le_of_ble_eq_true rfl) rfl (c_X11_mayBook p1 p2 v1 hr3 (CI.mk ?_))
    refine e_if_eq (tgt := 24) dX11_earliestWeek_18 rfl (fun hc4 => ?_) (fun hc4 => ?_)
    · replace h9 := ifT hc4 h9
      refine e_iinc (v := (v1 + 1)) (L' := [some (.ref (ad 11 0)), some (.int p1), some (.ref (ad 1 p2)), none, some (.int (v1 + 1))]) dX11_earliestWeek_24 rfl rfl (by decide) rfl ?_
      refine e_goto (tgt := 3) dX11_earliestWeek_27 rfl ?_
      exact hB0_1 _ h9
    · replace h9 := ifF hc4 h9
      refine e_iload dX11_earliestWeek_21 rfl ?_
      exact x_iret dX11_earliestWeek_23 rfl (hR1 _ h9)
noncomputable def b_X11_block_56 (x : VM) (p1 : Int32) (p2 : Int32) (p3 : Int32) (i2 : Nat) (v14 : Int32 × Int64 × Int32 × VM) : (Int32 × Int64 × Int32 × VM) ⊕ (Option (Int32 × VM)) := if (v14.2.2.2.1 1114 0) ≤ v14.2.2.1 then Sum.inr (some (v14.1, v14.2.2.2)) else if ((p2 >>> (v14.2.2.1 &&& 31)) &&& 1) = 1 then (f_X11_earliestWeek v14.2.2.2 v14.2.2.1 i2 p3).elim (Sum.inr none) (fun r17 => if r17 = (-1) then if i2 < v14.2.2.2.2.2.2 1 then (f_X1_giveBack v14.2.2.2 i2 v14.2.1).elim (Sum.inr none) (fun r22 => (f_X11_refused r22 (-6)).elim (Sum.inr none) (fun r24p => Sum.inr (some (r24p.1, r24p.2)))) else Sum.inr none else if i2 < v14.2.2.2.2.2.2 1 then if inb r17 40 = true then Sum.inl ((if v14.1 < r17 then r17 else v14.1), v14.2.1 ||| ((1 : Int64) <<< ((r17 : Int32).toInt64 &&& 63)), v14.2.2.1 + 1, setA v14.2.2.2 103 i2 (upd (v14.2.2.2.2.1 103 i2) r17.toNatClampNeg v14.2.2.1)) else Sum.inr none else Sum.inr none) else Sum.inl (v14.1, v14.2.1, v14.2.2.1 + 1, v14.2.2.2)
noncomputable def f_X11_block (x : VM) (p1 : Int32) (p2 : Int32) (p3 : Int32) : Option (Int32 × VM) := (f_X11_hallAt x p1).elim none (fun r1 => r1.elim ((f_X11_refused x (-1)).elim none (fun r3p => some (r3p.1, r3p.2))) (fun i2 => (f_X11_hasBitBeyond x p2 (x.1 1114 0)).elim none (fun r6 => if r6 = 0 then (f_X11_isHallWeek x p3).elim none (fun r8 => if r8 = 0 then (f_X11_refused x (-6)).elim none (fun r10p => some (r10p.1, r10p.2)) else if p2 = 0 then (f_X11_refused x (-6)).elim none (fun r27p => some (r27p.1, r27p.2)) else loopF none (b_X11_block_56 x p1 p2 p3 i2) ((-1), 0, 0, x)) else (f_X11_refused x (-1)).elim none (fun r30p => some (r30p.1, r30p.2)))))
theorem c_X11_block {g : GG} {d : Nat} {ad : AD} {x m : VM} {Q : Option Value → VM → VM → Prop} (p1 : Int32) (p2 : Int32) (p3 : Int32) {r9 : Int32} {w9 : VM} (hf : f_X11_block x p1 p2 p3 = some (r9, w9)) (hq : Q (some (.int r9)) w9 m) : CX g (d + 4) MX11_block [.ref (ad 11 0), .int p1, .int p2, .int p3] ad x m Q := by
  refine CX.to (Lv := [some (.ref (ad 11 0)), some (.int p1), some (.int p2), some (.int p3), none, none, none, none, none, none]) okX11_block (Nat.le_of_ble_eq_true rfl) rfl ?_
  obtain ⟨Φ0, hΦ⟩ : ∃ Φ : Option (Int32 × VM) → Prop, Φ = fun o => o = some (r9, w9) := ⟨_, rfl⟩
  have hN0 : Φ0 none → False := by rw [hΦ]; intro h; cases h
  have hR0 : ∀ z9 y9, Φ0 (some (z9, y9)) → Q (some (.int z9)) y9 m := by rw [hΦ]; intro z9 y9 h; cases h; exact hq
  have h9 : Φ0 (f_X11_block x p1 p2 p3) := by rw [hΦ]; exact hf
  clear hf hq hΦ
  unfold f_X11_block at h9
  refine e_aload_n dX11_block_0 rfl rfl ?_
  refine e_iload_n dX11_block_1 rfl rfl ?_
  obtain ⟨r1, hr1, h9⟩ := elimP hN0 h9
  refine x_callVi (c := 11) (As := [.int p1]) (rest := []) okX11_hallAt lkX11_373 rfl (by decide) rfl dX11_block_2 rfl rfl (Nat.le_of_ble_eq_true rfl) rfl (c_X11_hallAt p1 hr1 (CI.mk ?_))
  cases r1 with
  | none =>
    replace h9 := elN h9
    refine e_top (v := .null) rfl ?_
    refine e_astoreN (L' := [some (.ref (ad 11 0)), some (.int p1), some (.int p2), some (.int p3), some (.null), none, none, none, none, none]) dX11_block_5 (by decide) rfl ?_
    refine e_aloadN dX11_block_7 rfl ?_
    refine e_ifnullN (tgt := 23) dX11_block_9 rfl ?_
    refine e_aload_n dX11_block_23 rfl rfl ?_
    refine e_iconst (v := (-1)) dX11_block_24 rfl ?_
    obtain ⟨⟨r3, w4⟩, hr3, h9⟩ := elimP hN0 h9
    refine x_callVi (c := 11) (As := [.int (-1)]) (rest := []) okX11_refused lkX11_105 rfl (by decide) rfl dX11_block_25 rfl rfl (Nat.le_of_ble_eq_true rfl) rfl (c_X11_refused (-1) hr3 (CI.mk ?_))
    exact x_iret dX11_block_28 rfl (hR0 _ _ h9)
  | some i2 =>
    replace h9 := elS h9
    refine e_top (v := .ref (ad 1 i2)) rfl ?_
    refine e_astore (L' := [some (.ref (ad 11 0)), some (.int p1), some (.int p2), some (.int p3), some (.ref (ad 1 i2)), none, none, none, none, none]) dX11_block_5 (by decide) rfl ?_
    refine e_aload dX11_block_7 rfl ?_
    refine e_ifnull dX11_block_9 ?_
    refine e_iload_n dX11_block_12 rfl rfl ?_
    refine e_aload_n dX11_block_13 rfl rfl ?_
    refine g_1114 flX11_89 dX11_block_14 ?_
    obtain ⟨r6, hr6, h9⟩ := elimP hN0 h9
    refine x_callSi (As := [.int p2, .int (x.1 1114 0)]) (rest := []) okX11_hasBitBeyond lkX11_232 dX11_block_17 rfl rfl (Nat.le_of_ble_eq_true rfl) (c_X11_hasBitBeyond p2 (x.1 1114 0) hr6 (CI.mk ?_))
    refine e_if_eq (tgt := 29) dX11_block_20 rfl (fun hc7 => ?_) (fun hc7 => ?_)
    · replace h9 := ifT hc7 h9
      refine e_iload_n dX11_block_29 rfl rfl ?_
      obtain ⟨r8, hr8, h9⟩ := elimP hN0 h9
      refine x_callSi (As := [.int p3]) (rest := []) okX11_isHallWeek lkX11_377 dX11_block_30 rfl rfl (Nat.le_of_ble_eq_true rfl) (c_X11_isHallWeek p3 hr8 (CI.mk ?_))
      refine e_if_eq (tgt := 40) dX11_block_33 rfl (fun hc9 => ?_) (fun hc9 => ?_)
      · replace h9 := ifT hc9 h9
        refine e_aload_n dX11_block_40 rfl rfl ?_
        refine e_bipush (v := (-6)) dX11_block_41 rfl ?_
        obtain ⟨⟨r10, w11⟩, hr10, h9⟩ := elimP hN0 h9
        refine x_callVi (c := 11) (As := [.int (-6)]) (rest := []) okX11_refused lkX11_105 rfl (by decide) rfl dX11_block_43 rfl rfl (Nat.le_of_ble_eq_true rfl) rfl (c_X11_refused (-6) hr10 (CI.mk ?_))
        exact x_iret dX11_block_46 rfl (hR0 _ _ h9)
      · replace h9 := ifF hc9 h9
        refine e_iload_n dX11_block_36 rfl rfl ?_
        refine e_if_ne (tgt := 47) dX11_block_37 rfl (fun hc13 => ?_) (fun hc13 => ?_)
        · replace h9 := ifF hc13 h9
          refine e_iconst (v := (-1)) dX11_block_47 rfl ?_
          refine e_istore (L' := [some (.ref (ad 11 0)), some (.int p1), some (.int p2), some (.int p3), some (.ref (ad 1 i2)), some (.int (-1)), none, none, none, none]) dX11_block_48 (by decide) rfl ?_
          refine e_lconst (v := 0) dX11_block_50 rfl ?_
          refine e_lstore (L' := [some (.ref (ad 11 0)), some (.int p1), some (.int p2), some (.int p3), some (.ref (ad 1 i2)), some (.int (-1)), some (.long 0), none, none, none]) dX11_block_51 (by decide) rfl ?_
          refine e_iconst (v := 0) dX11_block_53 rfl ?_
          refine e_istore (L' := [some (.ref (ad 11 0)), some (.int p1), some (.int p2), some (.int p3), some (.ref (ad 1 i2)), some (.int (-1)), some (.long 0), none, some (.int 0), none]) dX11_block_54 (by decide) rfl ?_
          refine e_wk (L' := [some (.ref (ad 11 0)), none, some (.int p2), some (.int p3), some (.ref (ad 1 i2)), some (.int (-1)), some (.long 0), none, some (.int 0), none]) (wkC (wkN (wkC (wkC (wkC (wkC (wkC (wkN (wkC (wkN wk0)))))))))) ?_
          refine loop_gen (b_X11_block_56 x p1 p2 p3 i2) none (fun v14 => EX g (d + 4) MX11_block ad v14.2.2.2 m 56 [some (.ref (ad 11 0)), none, some (.int p2), some (.int p3), some (.ref (ad 1 i2)), some (.int v14.1), some (.long v14.2.1), none, some (.int v14.2.2.1), none] [] Q) Φ0 hN0 (fun v14 Φ1 hB0_1 hO1 h9 => ?_) ((-1), 0, 0, x) h9
          have hN1 := fun h => hN0 (hO1 _ h)
          have hR1 := fun r9 x9 h => hR0 r9 x9 (hO1 _ h)
          have hB0_1 : ∀ (z0 : Int32) (z1 : Int64) (z2 : Int32) (z3 : VM), Φ1 (Sum.inl (z0, z1, z2, z3)) → EX g (d + 4) MX11_block ad z3 m 56 [some (.ref (ad 11 0)), none, some (.int p2), some (.int p3), some (.ref (ad 1 i2)), some (.int z0), some (.long z1), none, some (.int z2), none] [] Q := fun z0 z1 z2 z3 h => hB0_1 (z0, z1, z2, z3) h
          unfold b_X11_block_56 at h9
          refine e_iload dX11_block_56 rfl ?_
          refine e_aload_n dX11_block_58 rfl rfl ?_
          refine g_1114 flX11_89 dX11_block_59 ?_
          refine e_icmp_ge (tgt := 140) dX11_block_62 rfl (fun hc15 => ?_) (fun hc15 => ?_)
          · replace h9 := ifT hc15 h9
            refine e_iload dX11_block_140 rfl ?_
            exact x_iret dX11_block_142 rfl (hR1 _ _ h9)
          · replace h9 := ifF hc15 h9
            refine e_iload_n dX11_block_65 rfl rfl ?_
            refine e_iload dX11_block_66 rfl ?_
            refine e_ishr dX11_block_68 ?_
            refine e_iconst (v := 1) dX11_block_69 rfl ?_
            refine e_iand dX11_block_70 ?_
            refine e_iconst (v := 1) dX11_block_71 rfl ?_
            refine e_icmp_ne (tgt := 134) dX11_block_72 rfl (fun hc16 => ?_) (fun hc16 => ?_)
            · replace h9 := ifF hc16 h9
              refine e_iinc (v := (v14.2.2.1 + 1)) (L' := [some (.ref (ad 11 0)), none, some (.int p2), some (.int p3), some (.ref (ad 1 i2)), some (.int v14.1), some (.long v14.2.1), none, some (.int (v14.2.2.1 + 1)), none]) dX11_block_134 rfl rfl (by decide) rfl ?_
              refine e_goto (tgt := 56) dX11_block_137 rfl ?_
              exact hB0_1 _ _ _ _ h9
            · replace h9 := ifT hc16 h9
              refine e_aload_n dX11_block_75 rfl rfl ?_
              refine e_iload dX11_block_76 rfl ?_
              refine e_aload dX11_block_78 rfl ?_
              refine e_iload_n dX11_block_80 rfl rfl ?_
              obtain ⟨r17, hr17, h9⟩ := elimP hN1 h9
              refine x_callVi (c := 11) (As := [.int v14.2.2.1, .ref (ad 1 i2), .int p3]) (rest := []) okX11_earliestWeek lkX11_387 rfl (by decide) rfl dX11_block_81 rfl rfl (Nat.le_of_ble_eq_true rfl) rfl (c_X11_earliestWeek v14.2.2.1 i2 p3 hr17 (CI.mk ?_))
              refine e_istore (L' := [some (.ref (ad 11 0)), none, some (.int p2), some (.int p3), some (.ref (ad 1 i2)), some (.int v14.1), some (.long v14.2.1), none, some (.int v14.2.2.1), some (.int r17)]) dX11_block_84 (by decide) rfl ?_
              refine e_iload dX11_block_86 rfl ?_
              refine e_iconst (v := (-1)) dX11_block_88 rfl ?_
              refine e_pc (pc' := 89) rfl ?_
              refine e_icmp_ne (tgt := 106) dX11_block_89 rfl (fun hc18 => ?_) (fun hc18 => ?_)
              · replace h9 := ifF hc18 h9
                refine e_aload dX11_block_106 rfl ?_
                obtain ⟨k19, h9⟩ := chkP hN1 h9
                refine g_103 flX11_384 dX11_block_108 k19 ?_
                refine e_iload dX11_block_111 rfl ?_
                refine e_iload dX11_block_113 rfl ?_
                obtain ⟨k20, h9⟩ := chkP hN1 h9
                refine s_103 dX11_block_115 k19 (inb_in k20) ?_
                refine e_lload dX11_block_116 rfl ?_
                refine e_lconst (v := 1) dX11_block_118 rfl ?_
                refine e_iload dX11_block_119 rfl ?_
                refine e_pc (pc' := 121) rfl ?_
                refine e_lshl dX11_block_121 rfl ?_
                refine e_lor dX11_block_122 ?_
                refine e_lstore (L' := [some (.ref (ad 11 0)), none, some (.int p2), some (.int p3), some (.ref (ad 1 i2)), some (.int v14.1), some (.long (v14.2.1 ||| ((1 : Int64) <<< ((r17 : Int32).toInt64 &&& 63)))), none, some (.int v14.2.2.1), some (.int r17)]) dX11_block_123 (by decide) rfl ?_
                refine e_iload dX11_block_125 rfl ?_
                refine e_iload dX11_block_127 rfl ?_
                refine e_mmax mmX11_337 dX11_block_129 (Nat.le_of_ble_eq_true rfl) ?_
                refine e_istore (L' := [some (.ref (ad 11 0)), none, some (.int p2), some (.int p3), some (.ref (ad 1 i2)), some (.int (if v14.1 < r17 then r17 else v14.1)), some (.long (v14.2.1 ||| ((1 : Int64) <<< ((r17 : Int32).toInt64 &&& 63)))), none, some (.int v14.2.2.1), some (.int r17)]) dX11_block_132 (by decide) rfl ?_
                refine e_iinc (v := (v14.2.2.1 + 1)) (L' := [some (.ref (ad 11 0)), none, some (.int p2), some (.int p3), some (.ref (ad 1 i2)), some (.int (if v14.1 < r17 then r17 else v14.1)), some (.long (v14.2.1 ||| ((1 : Int64) <<< ((r17 : Int32).toInt64 &&& 63)))), none, some (.int (v14.2.2.1 + 1)), some (.int r17)]) dX11_block_134 rfl rfl (by decide) rfl ?_
                refine e_goto (tgt := 56) dX11_block_137 rfl ?_
                refine e_wk (L' := [some (.ref (ad 11 0)), none, some (.int p2), some (.int p3), some (.ref (ad 1 i2)), some (.int (if v14.1 < r17 then r17 else v14.1)), some (.long (v14.2.1 ||| ((1 : Int64) <<< ((r17 : Int32).toInt64 &&& 63)))), none, some (.int (v14.2.2.1 + 1)), none]) (wkC (wkN (wkC (wkC (wkC (wkC (wkC (wkN (wkC (wkN wk0)))))))))) ?_
                exact hB0_1 _ _ _ _ h9
              · replace h9 := ifT hc18 h9
                refine e_aload dX11_block_92 rfl ?_
                refine e_lload dX11_block_94 rfl ?_
                obtain ⟨k21, h9⟩ := chkP hN1 h9
                obtain ⟨r22, hr22, h9⟩ := elimP hN1 h9
                refine x_callVv (c := 1) (As := [.long v14.2.1]) (rest := []) okX1_giveBack lkX11_391 rfl (by decide) rfl dX11_block_96 rfl rfl (Nat.le_of_ble_eq_true rfl) k21 (c_X1_giveBack i2 v14.2.1 hr22 (CV.mk ?_))
                refine e_aload_n dX11_block_99 rfl rfl ?_
                refine e_bipush (v := (-6)) dX11_block_100 rfl ?_
                obtain ⟨⟨r24, w25⟩, hr24, h9⟩ := elimP hN1 h9
                refine x_callVi (c := 11) (As := [.int (-6)]) (rest := []) okX11_refused lkX11_105 rfl (by decide) rfl dX11_block_102 rfl rfl (Nat.le_of_ble_eq_true rfl) rfl (c_X11_refused (-6) hr24 (CI.mk ?_))
                exact x_iret dX11_block_105 rfl (hR1 _ _ h9)
        · replace h9 := ifT hc13 h9
          refine e_aload_n dX11_block_40 rfl rfl ?_
          refine e_bipush (v := (-6)) dX11_block_41 rfl ?_
          obtain ⟨⟨r27, w28⟩, hr27, h9⟩ := elimP hN0 h9
          refine x_callVi (c := 11) (As := [.int (-6)]) (rest := []) okX11_refused lkX11_105 rfl (by decide) rfl dX11_block_43 rfl rfl (Nat.le_of_ble_eq_true rfl) rfl (c_X11_refused (-6) hr27 (CI.mk ?_))
          exact x_iret dX11_block_46 rfl (hR0 _ _ h9)
    · replace h9 := ifF hc7 h9
      refine e_aload_n dX11_block_23 rfl rfl ?_
      refine e_iconst (v := (-1)) dX11_block_24 rfl ?_
      obtain ⟨⟨r30, w31⟩, hr30, h9⟩ := elimP hN0 h9
      refine x_callVi (c := 11) (As := [.int (-1)]) (rest := []) okX11_refused lkX11_105 rfl (by decide) rfl dX11_block_25 rfl rfl (Nat.le_of_ble_eq_true rfl) rfl (c_X11_refused (-1) hr30 (CI.mk ?_))
      exact x_iret dX11_block_28 rfl (hR0 _ _ h9)
noncomputable def f_X11_shown (x : VM) (p1 : Int32) (p2 : Int32) : Option (Int32) := (f_X11_hallAt x p1).elim none (fun r1 => r1.elim (some (-1)) (fun i2 => (f_X11_isHallWeek x p2).elim none (fun r3 => if r3 = 0 then some (-1) else if i2 < x.2.2.2 1 then if inb p2 40 = true then some (x.2.1 103 i2 p2.toNatClampNeg) else none else none)))
theorem c_X11_shown {g : GG} {d : Nat} {ad : AD} {x m : VM} {Q : Option Value → VM → VM → Prop} (p1 : Int32) (p2 : Int32) {r9 : Int32} (hf : f_X11_shown x p1 p2 = some r9) (hq : Q (some (.int r9)) x m) : CX g (d + 1) MX11_shown [.ref (ad 11 0), .int p1, .int p2] ad x m Q := by
  refine CX.to (Lv := [some (.ref (ad 11 0)), some (.int p1), some (.int p2), none]) okX11_shown (Nat.le_of_ble_eq_true rfl) rfl ?_
  obtain ⟨Φ0, hΦ⟩ : ∃ Φ : Option (Int32) → Prop, Φ = fun o => o = some r9 := ⟨_, rfl⟩
  have hN0 : Φ0 none → False := by rw [hΦ]; intro h; cases h
  have hR0 : ∀ z9, Φ0 (some z9) → Q (some (.int z9)) x m := by rw [hΦ]; intro z9 h; cases h; exact hq
  have h9 : Φ0 (f_X11_shown x p1 p2) := by rw [hΦ]; exact hf
  clear hf hq hΦ
  unfold f_X11_shown at h9
  refine e_aload_n dX11_shown_0 rfl rfl ?_
  refine e_iload_n dX11_shown_1 rfl rfl ?_
  obtain ⟨r1, hr1, h9⟩ := elimP hN0 h9
  refine x_callVi (c := 11) (As := [.int p1]) (rest := []) okX11_hallAt lkX11_373 rfl (by decide) rfl dX11_shown_2 rfl rfl (Nat.le_of_ble_eq_true rfl) rfl (c_X11_hallAt p1 hr1 (CI.mk ?_))
  cases r1 with
  | none =>
    replace h9 := elN h9
    refine e_top (v := .null) rfl ?_
    refine e_astore_nN (L' := [some (.ref (ad 11 0)), some (.int p1), some (.int p2), some (.null)]) dX11_shown_5 rfl (by decide) rfl ?_
    refine e_aload_nN dX11_shown_6 rfl rfl ?_
    refine e_ifnullN (tgt := 17) dX11_shown_7 rfl ?_
    refine e_iconst (v := (-1)) dX11_shown_17 rfl ?_
    refine e_goto (tgt := 27) dX11_shown_18 rfl ?_
    exact x_iret dX11_shown_27 rfl (hR0 _ h9)
  | some i2 =>
    replace h9 := elS h9
    refine e_top (v := .ref (ad 1 i2)) rfl ?_
    refine e_astore_n (L' := [some (.ref (ad 11 0)), some (.int p1), some (.int p2), some (.ref (ad 1 i2))]) dX11_shown_5 rfl (by decide) rfl ?_
    refine e_aload_n dX11_shown_6 rfl rfl ?_
    refine e_ifnull dX11_shown_7 ?_
    refine e_iload_n dX11_shown_10 rfl rfl ?_
    obtain ⟨r3, hr3, h9⟩ := elimP hN0 h9
    refine x_callSi (As := [.int p2]) (rest := []) okX11_isHallWeek lkX11_377 dX11_shown_11 rfl rfl (Nat.le_of_ble_eq_true rfl) (c_X11_isHallWeek p2 hr3 (CI.mk ?_))
    refine e_if_ne (tgt := 21) dX11_shown_14 rfl (fun hc4 => ?_) (fun hc4 => ?_)
    · replace h9 := ifF hc4 h9
      refine e_aload_n dX11_shown_21 rfl rfl ?_
      obtain ⟨k5, h9⟩ := chkP hN0 h9
      refine g_103 flX11_384 dX11_shown_22 k5 ?_
      refine e_iload_n dX11_shown_25 rfl rfl ?_
      obtain ⟨k6, h9⟩ := chkP hN0 h9
      refine l_103 dX11_shown_26 k5 (inb_in k6) ?_
      exact x_iret dX11_shown_27 rfl (hR0 _ h9)
    · replace h9 := ifT hc4 h9
      refine e_iconst (v := (-1)) dX11_shown_17 rfl ?_
      refine e_goto (tgt := 27) dX11_shown_18 rfl ?_
      exact x_iret dX11_shown_27 rfl (hR0 _ h9)
noncomputable def b_X11_payParts_11 (x : VM) (p1 : Nat) (p2 : Int32) (r2 : Int32) (v3 : Int32 × Int32 × VM) : (Int32 × Int32 × VM) ⊕ (Option (Int32 × VM)) := if (v3.2.2.1 1113 0) ≤ v3.2.1 then Sum.inr (some (v3.1, v3.2.2)) else if inb v3.2.1 16 = true then if v3.2.1.toNatClampNeg < v3.2.2.2.2.2 4 then if ((r2 >>> (v3.2.1 &&& 31)) &&& 1) = 1 then (f_X4_isUnder v3.2.2 v3.2.1.toNatClampNeg (v3.2.2.1 1116 0)).elim (Sum.inr none) (fun r8 => if r8 = 0 then Sum.inl (v3.1, v3.2.1 + 1, v3.2.2) else (f_X4_countOf v3.2.2 v3.2.1.toNatClampNeg 3 (v3.2.2.1 1116 0)).elim (Sum.inr none) (fun r10 => Sum.inl (v3.1 - (if ((p2 * r10) / 100) < v3.1 then ((p2 * r10) / 100) else v3.1), v3.2.1 + 1, setI v3.2.2 413 v3.2.1.toNatClampNeg ((v3.2.2.1 413 v3.2.1.toNatClampNeg) + (if ((p2 * r10) / 100) < v3.1 then ((p2 * r10) / 100) else v3.1))))) else Sum.inl (v3.1, v3.2.1 + 1, v3.2.2) else Sum.inr none else Sum.inr none
noncomputable def f_X11_payParts (x : VM) (p1 : Nat) (p2 : Int32) : Option (Int32 × VM) := if p1 < x.2.2.2 5 then (f_X5_castOfAll x p1).elim none (fun r2 => loopF none (b_X11_payParts_11 x p1 p2 r2) (p2, 0, x)) else none
theorem c_X11_payParts {g : GG} {d : Nat} {ad : AD} {x m : VM} {Q : Option Value → VM → VM → Prop} (p1 : Nat) (p2 : Int32) {r9 : Int32} {w9 : VM} (hf : f_X11_payParts x p1 p2 = some (r9, w9)) (hq : Q (some (.int r9)) w9 m) : CX g (d + 2) MX11_payParts [.ref (ad 11 0), .ref (ad 5 p1), .int p2] ad x m Q := by
  refine CX.to (Lv := [some (.ref (ad 11 0)), some (.ref (ad 5 p1)), some (.int p2), none, none, none, none, none]) okX11_payParts (Nat.le_of_ble_eq_true rfl) rfl ?_
  obtain ⟨Φ0, hΦ⟩ : ∃ Φ : Option (Int32 × VM) → Prop, Φ = fun o => o = some (r9, w9) := ⟨_, rfl⟩
  have hN0 : Φ0 none → False := by rw [hΦ]; intro h; cases h
  have hR0 : ∀ z9 y9, Φ0 (some (z9, y9)) → Q (some (.int z9)) y9 m := by rw [hΦ]; intro z9 y9 h; cases h; exact hq
  have h9 : Φ0 (f_X11_payParts x p1 p2) := by rw [hΦ]; exact hf
  clear hf hq hΦ
  unfold f_X11_payParts at h9
  refine e_aload_n dX11_payParts_0 rfl rfl ?_
  obtain ⟨k1, h9⟩ := chkP hN0 h9
  obtain ⟨r2, hr2, h9⟩ := elimP hN0 h9
  refine x_callVi (c := 5) (As := []) (rest := []) okX5_castOfAll lkX11_474 rfl (by decide) rfl dX11_payParts_1 rfl rfl (Nat.le_of_ble_eq_true rfl) k1 (c_X5_castOfAll p1 hr2 (CI.mk ?_))
  refine e_istore_n (L' := [some (.ref (ad 11 0)), some (.ref (ad 5 p1)), some (.int p2), some (.int r2), none, none, none, none]) dX11_payParts_4 rfl (by decide) rfl ?_
  refine e_iload_n dX11_payParts_5 rfl rfl ?_
  refine e_istore (L' := [some (.ref (ad 11 0)), some (.ref (ad 5 p1)), some (.int p2), some (.int r2), some (.int p2), none, none, none]) dX11_payParts_6 (by decide) rfl ?_
  refine e_iconst (v := 0) dX11_payParts_8 rfl ?_
  refine e_istore (L' := [some (.ref (ad 11 0)), some (.ref (ad 5 p1)), some (.int p2), some (.int r2), some (.int p2), some (.int 0), none, none]) dX11_payParts_9 (by decide) rfl ?_
  refine e_wk (L' := [some (.ref (ad 11 0)), none, some (.int p2), some (.int r2), some (.int p2), some (.int 0), none, none]) (wkC (wkN (wkC (wkC (wkC (wkC (wkN (wkN wk0)))))))) ?_
  refine loop_gen (b_X11_payParts_11 x p1 p2 r2) none (fun v3 => EX g (d + 2) MX11_payParts ad v3.2.2 m 11 [some (.ref (ad 11 0)), none, some (.int p2), some (.int r2), some (.int v3.1), some (.int v3.2.1), none, none] [] Q) Φ0 hN0 (fun v3 Φ1 hB0_1 hO1 h9 => ?_) (p2, 0, x) h9
  have hN1 := fun h => hN0 (hO1 _ h)
  have hR1 := fun r9 x9 h => hR0 r9 x9 (hO1 _ h)
  have hB0_1 : ∀ (z0 : Int32) (z1 : Int32) (z2 : VM), Φ1 (Sum.inl (z0, z1, z2)) → EX g (d + 2) MX11_payParts ad z2 m 11 [some (.ref (ad 11 0)), none, some (.int p2), some (.int r2), some (.int z0), some (.int z1), none, none] [] Q := fun z0 z1 z2 h => hB0_1 (z0, z1, z2) h
  unfold b_X11_payParts_11 at h9
  refine e_iload dX11_payParts_11 rfl ?_
  refine e_aload_n dX11_payParts_13 rfl rfl ?_
  refine g_1113 flX11_85 dX11_payParts_14 ?_
  refine e_icmp_ge (tgt := 102) dX11_payParts_17 rfl (fun hc4 => ?_) (fun hc4 => ?_)
  · replace h9 := ifT hc4 h9
    refine e_iload dX11_payParts_102 rfl ?_
    exact x_iret dX11_payParts_104 rfl (hR1 _ _ h9)
  · replace h9 := ifF hc4 h9
    refine e_aload_n dX11_payParts_20 rfl rfl ?_
    refine g_1101 flX11_17 dX11_payParts_21 ?_
    refine e_iload dX11_payParts_24 rfl ?_
    obtain ⟨k5, h9⟩ := chkP hN1 h9
    refine l_1101 dX11_payParts_26 (inb_in k5) ?_
    obtain ⟨k6, h9⟩ := chkP hN1 h9
    refine e_top (v := .ref (ad 4 v3.2.1.toNatClampNeg)) (rfT k6) ?_
    refine e_astore (L' := [some (.ref (ad 11 0)), none, some (.int p2), some (.int r2), some (.int v3.1), some (.int v3.2.1), some (.ref (ad 4 v3.2.1.toNatClampNeg)), none]) dX11_payParts_27 (by decide) rfl ?_
    refine e_iload_n dX11_payParts_29 rfl rfl ?_
    refine e_iload dX11_payParts_30 rfl ?_
    refine e_ishr dX11_payParts_32 ?_
    refine e_pc (pc' := 33) rfl ?_
    refine e_iconst (v := 1) dX11_payParts_33 rfl ?_
    refine e_iand dX11_payParts_34 ?_
    refine e_iconst (v := 1) dX11_payParts_35 rfl ?_
    refine e_icmp_ne (tgt := 96) dX11_payParts_36 rfl (fun hc7 => ?_) (fun hc7 => ?_)
    · replace h9 := ifF hc7 h9
      refine e_iinc (v := (v3.2.1 + 1)) (L' := [some (.ref (ad 11 0)), none, some (.int p2), some (.int r2), some (.int v3.1), some (.int (v3.2.1 + 1)), some (.ref (ad 4 v3.2.1.toNatClampNeg)), none]) dX11_payParts_96 rfl rfl (by decide) rfl ?_
      refine e_goto (tgt := 11) dX11_payParts_99 rfl ?_
      refine e_wk (L' := [some (.ref (ad 11 0)), none, some (.int p2), some (.int r2), some (.int v3.1), some (.int (v3.2.1 + 1)), none, none]) (wkC (wkN (wkC (wkC (wkC (wkC (wkN (wkN wk0)))))))) ?_
      exact hB0_1 _ _ _ h9
    · replace h9 := ifT hc7 h9
      refine e_aload dX11_payParts_39 rfl ?_
      refine e_aload_n dX11_payParts_41 rfl rfl ?_
      refine g_1116 flX11_95 dX11_payParts_42 ?_
      obtain ⟨r8, hr8, h9⟩ := elimP hN1 h9
      refine x_callVi (c := 4) (As := [.int (v3.2.2.1 1116 0)]) (rest := []) okX4_isUnder lkX11_185 rfl (by decide) rfl dX11_payParts_45 rfl rfl (Nat.le_of_ble_eq_true rfl) k6 (c_X4_isUnder v3.2.1.toNatClampNeg (v3.2.2.1 1116 0) hr8 (CI.mk ?_))
      refine e_if_eq (tgt := 96) dX11_payParts_48 rfl (fun hc9 => ?_) (fun hc9 => ?_)
      · replace h9 := ifT hc9 h9
        refine e_iinc (v := (v3.2.1 + 1)) (L' := [some (.ref (ad 11 0)), none, some (.int p2), some (.int r2), some (.int v3.1), some (.int (v3.2.1 + 1)), some (.ref (ad 4 v3.2.1.toNatClampNeg)), none]) dX11_payParts_96 rfl rfl (by decide) rfl ?_
        refine e_goto (tgt := 11) dX11_payParts_99 rfl ?_
        refine e_wk (L' := [some (.ref (ad 11 0)), none, some (.int p2), some (.int r2), some (.int v3.1), some (.int (v3.2.1 + 1)), none, none]) (wkC (wkN (wkC (wkC (wkC (wkC (wkN (wkN wk0)))))))) ?_
        exact hB0_1 _ _ _ h9
      · replace h9 := ifF hc9 h9
        refine e_iload dX11_payParts_51 rfl ?_
        refine e_iload_n dX11_payParts_53 rfl rfl ?_
        refine e_aload dX11_payParts_54 rfl ?_
        refine e_iconst (v := 3) dX11_payParts_56 rfl ?_
        refine e_aload_n dX11_payParts_57 rfl rfl ?_
        refine g_1116 flX11_95 dX11_payParts_58 ?_
        refine e_aload_n dX11_payParts_61 rfl rfl ?_
        refine g_1104 flX11_36 dX11_payParts_62 ?_
        refine e_pc (pc' := 65) rfl ?_
        obtain ⟨r10, hr10, h9⟩ := elimP hN1 h9
        refine x_callVi (c := 4) (As := [.int 3, .int (v3.2.2.1 1116 0), .ref (ad 2 0)]) (rest := [.int p2, .int v3.1]) okX4_countOf lkX11_204 rfl (by decide) rfl dX11_payParts_65 rfl rfl (Nat.le_of_ble_eq_true rfl) k6 (c_X4_countOf v3.2.1.toNatClampNeg 3 (v3.2.2.1 1116 0) hr10 (CI.mk ?_))
        refine e_imul dX11_payParts_68 ?_
        refine e_bipush (v := 100) dX11_payParts_69 rfl ?_
        refine e_idiv dX11_payParts_71 (by decide) ?_
        refine e_mmin mmX11_477 dX11_payParts_72 (Nat.le_of_ble_eq_true rfl) ?_
        refine e_istore (L' := [some (.ref (ad 11 0)), none, some (.int p2), some (.int r2), some (.int v3.1), some (.int v3.2.1), some (.ref (ad 4 v3.2.1.toNatClampNeg)), some (.int (if ((p2 * r10) / 100) < v3.1 then ((p2 * r10) / 100) else v3.1))]) dX11_payParts_75 (by decide) rfl ?_
        refine e_aload dX11_payParts_77 rfl ?_
        refine e_dup dX11_payParts_79 rfl ?_
        refine g_413 flX11_407 dX11_payParts_80 k6 ?_
        refine e_pc (pc' := 83) rfl ?_
        refine e_iload dX11_payParts_83 rfl ?_
        refine e_iadd dX11_payParts_85 ?_
        refine p_413 flX11_407 dX11_payParts_86 k6 ?_
        refine e_iload dX11_payParts_89 rfl ?_
        refine e_iload dX11_payParts_91 rfl ?_
        refine e_isub dX11_payParts_93 ?_
        refine e_istore (L' := [some (.ref (ad 11 0)), none, some (.int p2), some (.int r2), some (.int (v3.1 - (if ((p2 * r10) / 100) < v3.1 then ((p2 * r10) / 100) else v3.1))), some (.int v3.2.1), some (.ref (ad 4 v3.2.1.toNatClampNeg)), some (.int (if ((p2 * r10) / 100) < v3.1 then ((p2 * r10) / 100) else v3.1))]) dX11_payParts_94 (by decide) rfl ?_
        refine e_iinc (v := (v3.2.1 + 1)) (L' := [some (.ref (ad 11 0)), none, some (.int p2), some (.int r2), some (.int (v3.1 - (if ((p2 * r10) / 100) < v3.1 then ((p2 * r10) / 100) else v3.1))), some (.int (v3.2.1 + 1)), some (.ref (ad 4 v3.2.1.toNatClampNeg)), some (.int (if ((p2 * r10) / 100) < v3.1 then ((p2 * r10) / 100) else v3.1))]) dX11_payParts_96 rfl rfl (by decide) rfl ?_
        refine e_goto (tgt := 11) dX11_payParts_99 rfl ?_
        refine e_wk (L' := [some (.ref (ad 11 0)), none, some (.int p2), some (.int r2), some (.int (v3.1 - (if ((p2 * r10) / 100) < v3.1 then ((p2 * r10) / 100) else v3.1))), some (.int (v3.2.1 + 1)), none, none]) (wkC (wkN (wkC (wkC (wkC (wkC (wkN (wkN wk0)))))))) ?_
        exact hB0_1 _ _ _ h9
noncomputable def f_X11_takings (x : VM) (p1 : Int32) (p2 : Int32) (p3 : Int32) : Option (Int32 × VM) := (f_X11_hallAt x p1).elim none (fun r1 => r1.elim ((f_X11_refused x (-1)).elim none (fun r3p => some (r3p.1, r3p.2))) (fun i2 => (f_X11_isHallWeek x p2).elim none (fun r6 => if r6 = 0 then (f_X11_refused x (-6)).elim none (fun r8p => some (r8p.1, r8p.2)) else if p3 < 0 then (f_X11_refused x (-6)).elim none (fun r12p => some (r12p.1, r12p.2)) else if 99999 < p3 then (f_X11_refused x (-6)).elim none (fun r16p => some (r16p.1, r16p.2)) else if i2 < x.2.2.2 1 then if inb p2 40 = true then if (x.2.1 104 i2 p2.toNatClampNeg) = 0 then if inb p2 40 = true then (f_X11_pictureAt x (x.2.1 103 i2 p2.toNatClampNeg)).elim none (fun r23 => r23.elim ((f_X11_refused x (-6)).elim none (fun r25p => some (r25p.1, r25p.2))) (fun i24 => (f_X11_payParts x i24 (p3 - ((p3 * (x.1 102 i2)) / 100))).elim none (fun r28p => if i2 < r28p.2.2.2.2 1 then if inb p2 40 = true then some (r28p.1, setI (setI (setA r28p.2 104 i2 (upd (r28p.2.2.1 104 i2) p2.toNatClampNeg 1)) 105 i2 (((setA r28p.2 104 i2 (upd (r28p.2.2.1 104 i2) p2.toNatClampNeg 1)).1 105 i2) + ((p3 * (x.1 102 i2)) / 100))) 1117 0 (((setI (setA r28p.2 104 i2 (upd (r28p.2.2.1 104 i2) p2.toNatClampNeg 1)) 105 i2 (((setA r28p.2 104 i2 (upd (r28p.2.2.1 104 i2) p2.toNatClampNeg 1)).1 105 i2) + ((p3 * (x.1 102 i2)) / 100))).1 1117 0) + r28p.1)) else none else none))) else none else (f_X11_refused x (-6)).elim none (fun r33p => some (r33p.1, r33p.2)) else none else none)))
theorem c_X11_takings {g : GG} {d : Nat} {ad : AD} {x m : VM} {Q : Option Value → VM → VM → Prop} (p1 : Int32) (p2 : Int32) (p3 : Int32) {r9 : Int32} {w9 : VM} (hf : f_X11_takings x p1 p2 p3 = some (r9, w9)) (hq : Q (some (.int r9)) w9 m) : CX g (d + 3) MX11_takings [.ref (ad 11 0), .int p1, .int p2, .int p3] ad x m Q := by
  refine CX.to (Lv := [some (.ref (ad 11 0)), some (.int p1), some (.int p2), some (.int p3), none, none, none, none]) okX11_takings (Nat.le_of_ble_eq_true rfl) rfl ?_
  obtain ⟨Φ0, hΦ⟩ : ∃ Φ : Option (Int32 × VM) → Prop, Φ = fun o => o = some (r9, w9) := ⟨_, rfl⟩
  have hN0 : Φ0 none → False := by rw [hΦ]; intro h; cases h
  have hR0 : ∀ z9 y9, Φ0 (some (z9, y9)) → Q (some (.int z9)) y9 m := by rw [hΦ]; intro z9 y9 h; cases h; exact hq
  have h9 : Φ0 (f_X11_takings x p1 p2 p3) := by rw [hΦ]; exact hf
  clear hf hq hΦ
  unfold f_X11_takings at h9
  refine e_aload_n dX11_takings_0 rfl rfl ?_
  refine e_iload_n dX11_takings_1 rfl rfl ?_
  obtain ⟨r1, hr1, h9⟩ := elimP hN0 h9
  refine x_callVi (c := 11) (As := [.int p1]) (rest := []) okX11_hallAt lkX11_373 rfl (by decide) rfl dX11_takings_2 rfl rfl (Nat.le_of_ble_eq_true rfl) rfl (c_X11_hallAt p1 hr1 (CI.mk ?_))
  cases r1 with
  | none =>
    replace h9 := elN h9
    refine e_top (v := .null) rfl ?_
    refine e_astoreN (L' := [some (.ref (ad 11 0)), some (.int p1), some (.int p2), some (.int p3), some (.null), none, none, none]) dX11_takings_5 (by decide) rfl ?_
    refine e_aloadN dX11_takings_7 rfl ?_
    refine e_ifnonnullN dX11_takings_9 ?_
    refine e_aload_n dX11_takings_12 rfl rfl ?_
    refine e_iconst (v := (-1)) dX11_takings_13 rfl ?_
    obtain ⟨⟨r3, w4⟩, hr3, h9⟩ := elimP hN0 h9
    refine x_callVi (c := 11) (As := [.int (-1)]) (rest := []) okX11_refused lkX11_105 rfl (by decide) rfl dX11_takings_14 rfl rfl (Nat.le_of_ble_eq_true rfl) rfl (c_X11_refused (-1) hr3 (CI.mk ?_))
    exact x_iret dX11_takings_17 rfl (hR0 _ _ h9)
  | some i2 =>
    replace h9 := elS h9
    refine e_top (v := .ref (ad 1 i2)) rfl ?_
    refine e_astore (L' := [some (.ref (ad 11 0)), some (.int p1), some (.int p2), some (.int p3), some (.ref (ad 1 i2)), none, none, none]) dX11_takings_5 (by decide) rfl ?_
    refine e_aload dX11_takings_7 rfl ?_
    refine e_ifnonnull (tgt := 18) dX11_takings_9 rfl ?_
    refine e_iload_n dX11_takings_18 rfl rfl ?_
    obtain ⟨r6, hr6, h9⟩ := elimP hN0 h9
    refine x_callSi (As := [.int p2]) (rest := []) okX11_isHallWeek lkX11_377 dX11_takings_19 rfl rfl (Nat.le_of_ble_eq_true rfl) (c_X11_isHallWeek p2 hr6 (CI.mk ?_))
    refine e_if_eq (tgt := 45) dX11_takings_22 rfl (fun hc7 => ?_) (fun hc7 => ?_)
    · replace h9 := ifT hc7 h9
      refine e_aload_n dX11_takings_45 rfl rfl ?_
      refine e_bipush (v := (-6)) dX11_takings_46 rfl ?_
      obtain ⟨⟨r8, w9⟩, hr8, h9⟩ := elimP hN0 h9
      refine x_callVi (c := 11) (As := [.int (-6)]) (rest := []) okX11_refused lkX11_105 rfl (by decide) rfl dX11_takings_48 rfl rfl (Nat.le_of_ble_eq_true rfl) rfl (c_X11_refused (-6) hr8 (CI.mk ?_))
      exact x_iret dX11_takings_51 rfl (hR0 _ _ h9)
    · replace h9 := ifF hc7 h9
      refine e_iload_n dX11_takings_25 rfl rfl ?_
      refine e_if_lt (tgt := 45) dX11_takings_26 rfl (fun hc11 => ?_) (fun hc11 => ?_)
      · replace h9 := ifT hc11 h9
        refine e_aload_n dX11_takings_45 rfl rfl ?_
        refine e_bipush (v := (-6)) dX11_takings_46 rfl ?_
        obtain ⟨⟨r12, w13⟩, hr12, h9⟩ := elimP hN0 h9
        refine x_callVi (c := 11) (As := [.int (-6)]) (rest := []) okX11_refused lkX11_105 rfl (by decide) rfl dX11_takings_48 rfl rfl (Nat.le_of_ble_eq_true rfl) rfl (c_X11_refused (-6) hr12 (CI.mk ?_))
        exact x_iret dX11_takings_51 rfl (hR0 _ _ h9)
      · replace h9 := ifF hc11 h9
        refine e_iload_n dX11_takings_29 rfl rfl ?_
        refine e_ldc (v := 99999) rfl kcX11_227 dX11_takings_30 ?_
        refine e_icmp_gt (tgt := 45) dX11_takings_32 rfl (fun hc15 => ?_) (fun hc15 => ?_)
        · replace h9 := ifT hc15 h9
          refine e_aload_n dX11_takings_45 rfl rfl ?_
          refine e_bipush (v := (-6)) dX11_takings_46 rfl ?_
          obtain ⟨⟨r16, w17⟩, hr16, h9⟩ := elimP hN0 h9
          refine x_callVi (c := 11) (As := [.int (-6)]) (rest := []) okX11_refused lkX11_105 rfl (by decide) rfl dX11_takings_48 rfl rfl (Nat.le_of_ble_eq_true rfl) rfl (c_X11_refused (-6) hr16 (CI.mk ?_))
          exact x_iret dX11_takings_51 rfl (hR0 _ _ h9)
        · replace h9 := ifF hc15 h9
          refine e_aload dX11_takings_35 rfl ?_
          obtain ⟨k19, h9⟩ := chkP hN0 h9
          refine g_104 flX11_395 dX11_takings_37 k19 ?_
          refine e_iload_n dX11_takings_40 rfl rfl ?_
          obtain ⟨k20, h9⟩ := chkP hN0 h9
          refine l_104 dX11_takings_41 k19 (inb_in k20) ?_
          refine e_if_eq (tgt := 52) dX11_takings_42 rfl (fun hc21 => ?_) (fun hc21 => ?_)
          · replace h9 := ifT hc21 h9
            refine e_aload_n dX11_takings_52 rfl rfl ?_
            refine e_aload dX11_takings_53 rfl ?_
            refine g_103 flX11_384 dX11_takings_55 k19 ?_
            refine e_iload_n dX11_takings_58 rfl rfl ?_
            obtain ⟨k22, h9⟩ := chkP hN0 h9
            refine l_103 dX11_takings_59 k19 (inb_in k22) ?_
            obtain ⟨r23, hr23, h9⟩ := elimP hN0 h9
            refine x_callVi (c := 11) (As := [.int (x.2.1 103 i2 p2.toNatClampNeg)]) (rest := []) okX11_pictureAt lkX11_164 rfl (by decide) rfl dX11_takings_60 rfl rfl (Nat.le_of_ble_eq_true rfl) rfl (c_X11_pictureAt (x.2.1 103 i2 p2.toNatClampNeg) hr23 (CI.mk ?_))
            cases r23 with
            | none =>
              replace h9 := elN h9
              refine e_top (v := .null) rfl ?_
              refine e_astoreN (L' := [some (.ref (ad 11 0)), some (.int p1), some (.int p2), some (.int p3), some (.ref (ad 1 i2)), some (.null), none, none]) dX11_takings_63 (by decide) rfl ?_
              refine e_aloadN dX11_takings_65 rfl ?_
              refine e_ifnonnullN dX11_takings_67 ?_
              refine e_aload_n dX11_takings_70 rfl rfl ?_
              refine e_bipush (v := (-6)) dX11_takings_71 rfl ?_
              obtain ⟨⟨r25, w26⟩, hr25, h9⟩ := elimP hN0 h9
              refine x_callVi (c := 11) (As := [.int (-6)]) (rest := []) okX11_refused lkX11_105 rfl (by decide) rfl dX11_takings_73 rfl rfl (Nat.le_of_ble_eq_true rfl) rfl (c_X11_refused (-6) hr25 (CI.mk ?_))
              exact x_iret dX11_takings_76 rfl (hR0 _ _ h9)
            | some i24 =>
              replace h9 := elS h9
              refine e_top (v := .ref (ad 5 i24)) rfl ?_
              refine e_astore (L' := [some (.ref (ad 11 0)), some (.int p1), some (.int p2), some (.int p3), some (.ref (ad 1 i2)), some (.ref (ad 5 i24)), none, none]) dX11_takings_63 (by decide) rfl ?_
              refine e_aload dX11_takings_65 rfl ?_
              refine e_ifnonnull (tgt := 77) dX11_takings_67 rfl ?_
              refine e_iload_n dX11_takings_77 rfl rfl ?_
              refine e_aload dX11_takings_78 rfl ?_
              refine g_102 flX11_398 dX11_takings_80 k19 ?_
              refine e_imul dX11_takings_83 ?_
              refine e_bipush (v := 100) dX11_takings_84 rfl ?_
              refine e_pc (pc' := 86) rfl ?_
              refine e_idiv dX11_takings_86 (by decide) ?_
              refine e_istore (L' := [some (.ref (ad 11 0)), some (.int p1), some (.int p2), some (.int p3), some (.ref (ad 1 i2)), some (.ref (ad 5 i24)), some (.int ((p3 * (x.1 102 i2)) / 100)), none]) dX11_takings_87 (by decide) rfl ?_
              refine e_aload_n dX11_takings_89 rfl rfl ?_
              refine e_aload dX11_takings_90 rfl ?_
              refine e_iload_n dX11_takings_92 rfl rfl ?_
              refine e_iload dX11_takings_93 rfl ?_
              refine e_isub dX11_takings_95 ?_
              obtain ⟨⟨r28, w29⟩, hr28, h9⟩ := elimP hN0 h9
              refine x_callVi (c := 11) (As := [.ref (ad 5 i24), .int (p3 - ((p3 * (x.1 102 i2)) / 100))]) (rest := []) okX11_payParts lkX11_401 rfl (by decide) rfl dX11_takings_96 rfl rfl (Nat.le_of_ble_eq_true rfl) rfl (c_X11_payParts i24 (p3 - ((p3 * (x.1 102 i2)) / 100)) hr28 (CI.mk ?_))
              refine e_istore (L' := [some (.ref (ad 11 0)), some (.int p1), some (.int p2), some (.int p3), some (.ref (ad 1 i2)), some (.ref (ad 5 i24)), some (.int ((p3 * (x.1 102 i2)) / 100)), some (.int r28)]) dX11_takings_99 (by decide) rfl ?_
              refine e_pc (pc' := 101) rfl ?_
              refine e_aload dX11_takings_101 rfl ?_
              obtain ⟨k31, h9⟩ := chkP hN0 h9
              refine g_104 flX11_395 dX11_takings_103 k31 ?_
              refine e_iload_n dX11_takings_106 rfl rfl ?_
              refine e_iconst (v := 1) dX11_takings_107 rfl ?_
              obtain ⟨k32, h9⟩ := chkP hN0 h9
              refine s_104 dX11_takings_108 k31 (inb_in k32) (by decide) ?_
              refine e_aload dX11_takings_109 rfl ?_
              refine e_dup dX11_takings_111 rfl ?_
              refine g_105 flX11_404 dX11_takings_112 k31 ?_
              refine e_iload dX11_takings_115 rfl ?_
              refine e_pc (pc' := 117) rfl ?_
              refine e_iadd dX11_takings_117 ?_
              refine p_105 flX11_404 dX11_takings_118 k31 ?_
              refine e_aload_n dX11_takings_121 rfl rfl ?_
              refine e_dup dX11_takings_122 rfl ?_
              refine g_1117 flX11_98 dX11_takings_123 ?_
              refine e_iload dX11_takings_126 rfl ?_
              refine e_iadd dX11_takings_128 ?_
              refine p_1117 flX11_98 dX11_takings_129 ?_
              refine e_iload dX11_takings_132 rfl ?_
              refine e_pc (pc' := 134) rfl ?_
              exact x_iret dX11_takings_134 rfl (hR0 _ _ h9)
          · replace h9 := ifF hc21 h9
            refine e_aload_n dX11_takings_45 rfl rfl ?_
            refine e_bipush (v := (-6)) dX11_takings_46 rfl ?_
            obtain ⟨⟨r33, w34⟩, hr33, h9⟩ := elimP hN0 h9
            refine x_callVi (c := 11) (As := [.int (-6)]) (rest := []) okX11_refused lkX11_105 rfl (by decide) rfl dX11_takings_48 rfl rfl (Nat.le_of_ble_eq_true rfl) rfl (c_X11_refused (-6) hr33 (CI.mk ?_))
            exact x_iret dX11_takings_51 rfl (hR0 _ _ h9)
noncomputable def f_X11_got (x : VM) (p1 : Int32) (p2 : Int32) : Option (Int32) := if p1 = 0 then (f_X11_hallAt x p2).elim none (fun r6 => r6.elim (some (-1)) (fun i7 => if i7 < x.2.2.2 1 then some (x.1 105 i7) else none)) else if p1 = 1 then (f_X11_personAt x p2).elim none (fun r3 => r3.elim (some (-1)) (fun i4 => if i4 < x.2.2.2 4 then some (x.1 413 i4) else none)) else some (-1)
theorem c_X11_got {g : GG} {d : Nat} {ad : AD} {x m : VM} {Q : Option Value → VM → VM → Prop} (p1 : Int32) (p2 : Int32) {r9 : Int32} (hf : f_X11_got x p1 p2 = some r9) (hq : Q (some (.int r9)) x m) : CX g (d + 1) MX11_got [.ref (ad 11 0), .int p1, .int p2] ad x m Q := by
  refine CX.to (Lv := [some (.ref (ad 11 0)), some (.int p1), some (.int p2), none]) okX11_got (Nat.le_of_ble_eq_true rfl) rfl ?_
  obtain ⟨Φ0, hΦ⟩ : ∃ Φ : Option (Int32) → Prop, Φ = fun o => o = some r9 := ⟨_, rfl⟩
  have hN0 : Φ0 none → False := by rw [hΦ]; intro h; cases h
  have hR0 : ∀ z9, Φ0 (some z9) → Q (some (.int z9)) x m := by rw [hΦ]; intro z9 h; cases h; exact hq
  have h9 : Φ0 (f_X11_got x p1 p2) := by rw [hΦ]; exact hf
  clear hf hq hΦ
  unfold f_X11_got at h9
  refine e_iload_n dX11_got_0 rfl rfl ?_
  refine e_if_ne (tgt := 23) dX11_got_1 rfl (fun hc1 => ?_) (fun hc1 => ?_)
  · replace h9 := ifF hc1 h9
    refine e_iload_n dX11_got_23 rfl rfl ?_
    refine e_iconst (v := 1) dX11_got_24 rfl ?_
    refine e_icmp_ne (tgt := 47) dX11_got_25 rfl (fun hc2 => ?_) (fun hc2 => ?_)
    · replace h9 := ifF hc2 h9
      refine e_iconst (v := (-1)) dX11_got_47 rfl ?_
      exact x_iret dX11_got_48 rfl (hR0 _ h9)
    · replace h9 := ifT hc2 h9
      refine e_aload_n dX11_got_28 rfl rfl ?_
      refine e_iload_n dX11_got_29 rfl rfl ?_
      obtain ⟨r3, hr3, h9⟩ := elimP hN0 h9
      refine x_callVi (c := 11) (As := [.int p2]) (rest := []) okX11_personAt lkX11_174 rfl (by decide) rfl dX11_got_30 rfl rfl (Nat.le_of_ble_eq_true rfl) rfl (c_X11_personAt p2 hr3 (CI.mk ?_))
      cases r3 with
      | none =>
        replace h9 := elN h9
        refine e_top (v := .null) rfl ?_
        refine e_astore_nN (L' := [some (.ref (ad 11 0)), some (.int p1), some (.int p2), some (.null)]) dX11_got_33 rfl (by decide) rfl ?_
        refine e_aload_nN dX11_got_34 rfl rfl ?_
        refine e_ifnonnullN dX11_got_35 ?_
        refine e_iconst (v := (-1)) dX11_got_38 rfl ?_
        refine e_goto (tgt := 46) dX11_got_39 rfl ?_
        exact x_iret dX11_got_46 rfl (hR0 _ h9)
      | some i4 =>
        replace h9 := elS h9
        refine e_top (v := .ref (ad 4 i4)) rfl ?_
        refine e_astore_n (L' := [some (.ref (ad 11 0)), some (.int p1), some (.int p2), some (.ref (ad 4 i4))]) dX11_got_33 rfl (by decide) rfl ?_
        refine e_aload_n dX11_got_34 rfl rfl ?_
        refine e_ifnonnull (tgt := 42) dX11_got_35 rfl ?_
        refine e_aload_n dX11_got_42 rfl rfl ?_
        obtain ⟨k5, h9⟩ := chkP hN0 h9
        refine g_413 flX11_407 dX11_got_43 k5 ?_
        exact x_iret dX11_got_46 rfl (hR0 _ h9)
  · replace h9 := ifT hc1 h9
    refine e_aload_n dX11_got_4 rfl rfl ?_
    refine e_iload_n dX11_got_5 rfl rfl ?_
    obtain ⟨r6, hr6, h9⟩ := elimP hN0 h9
    refine x_callVi (c := 11) (As := [.int p2]) (rest := []) okX11_hallAt lkX11_373 rfl (by decide) rfl dX11_got_6 rfl rfl (Nat.le_of_ble_eq_true rfl) rfl (c_X11_hallAt p2 hr6 (CI.mk ?_))
    cases r6 with
    | none =>
      replace h9 := elN h9
      refine e_top (v := .null) rfl ?_
      refine e_astore_nN (L' := [some (.ref (ad 11 0)), some (.int p1), some (.int p2), some (.null)]) dX11_got_9 rfl (by decide) rfl ?_
      refine e_aload_nN dX11_got_10 rfl rfl ?_
      refine e_ifnonnullN dX11_got_11 ?_
      refine e_iconst (v := (-1)) dX11_got_14 rfl ?_
      refine e_goto (tgt := 22) dX11_got_15 rfl ?_
      exact x_iret dX11_got_22 rfl (hR0 _ h9)
    | some i7 =>
      replace h9 := elS h9
      refine e_top (v := .ref (ad 1 i7)) rfl ?_
      refine e_astore_n (L' := [some (.ref (ad 11 0)), some (.int p1), some (.int p2), some (.ref (ad 1 i7))]) dX11_got_9 rfl (by decide) rfl ?_
      refine e_aload_n dX11_got_10 rfl rfl ?_
      refine e_ifnonnull (tgt := 18) dX11_got_11 rfl ?_
      refine e_aload_n dX11_got_18 rfl rfl ?_
      obtain ⟨k8, h9⟩ := chkP hN0 h9
      refine g_105 flX11_404 dX11_got_19 k8 ?_
      exact x_iret dX11_got_22 rfl (hR0 _ h9)
noncomputable def f_X11_lot (x : VM) (p1 : Int32) (p2 : Int32) : Option (Int32 × VM) := (f_X11_pictureAt x p1).elim none (fun r1 => r1.elim ((f_X11_refused x (-1)).elim none (fun r3p => some (r3p.1, r3p.2))) (fun i2 => if p2 < 1 then (f_X11_refused x (-6)).elim none (fun r7p => some (r7p.1, r7p.2)) else if p2 ≤ 4 then if i2 < x.2.2.2 5 then some (x.1 516 i2, setI x 516 i2 p2) else none else (f_X11_refused x (-6)).elim none (fun r12p => some (r12p.1, r12p.2))))
theorem c_X11_lot {g : GG} {d : Nat} {ad : AD} {x m : VM} {Q : Option Value → VM → VM → Prop} (p1 : Int32) (p2 : Int32) {r9 : Int32} {w9 : VM} (hf : f_X11_lot x p1 p2 = some (r9, w9)) (hq : Q (some (.int r9)) w9 m) : CX g (d + 1) MX11_lot [.ref (ad 11 0), .int p1, .int p2] ad x m Q := by
  refine CX.to (Lv := [some (.ref (ad 11 0)), some (.int p1), some (.int p2), none, none]) okX11_lot (Nat.le_of_ble_eq_true rfl) rfl ?_
  obtain ⟨Φ0, hΦ⟩ : ∃ Φ : Option (Int32 × VM) → Prop, Φ = fun o => o = some (r9, w9) := ⟨_, rfl⟩
  have hN0 : Φ0 none → False := by rw [hΦ]; intro h; cases h
  have hR0 : ∀ z9 y9, Φ0 (some (z9, y9)) → Q (some (.int z9)) y9 m := by rw [hΦ]; intro z9 y9 h; cases h; exact hq
  have h9 : Φ0 (f_X11_lot x p1 p2) := by rw [hΦ]; exact hf
  clear hf hq hΦ
  unfold f_X11_lot at h9
  refine e_aload_n dX11_lot_0 rfl rfl ?_
  refine e_iload_n dX11_lot_1 rfl rfl ?_
  obtain ⟨r1, hr1, h9⟩ := elimP hN0 h9
  refine x_callVi (c := 11) (As := [.int p1]) (rest := []) okX11_pictureAt lkX11_164 rfl (by decide) rfl dX11_lot_2 rfl rfl (Nat.le_of_ble_eq_true rfl) rfl (c_X11_pictureAt p1 hr1 (CI.mk ?_))
  cases r1 with
  | none =>
    replace h9 := elN h9
    refine e_top (v := .null) rfl ?_
    refine e_astore_nN (L' := [some (.ref (ad 11 0)), some (.int p1), some (.int p2), some (.null), none]) dX11_lot_5 rfl (by decide) rfl ?_
    refine e_aload_nN dX11_lot_6 rfl rfl ?_
    refine e_ifnonnullN dX11_lot_7 ?_
    refine e_aload_n dX11_lot_10 rfl rfl ?_
    refine e_iconst (v := (-1)) dX11_lot_11 rfl ?_
    obtain ⟨⟨r3, w4⟩, hr3, h9⟩ := elimP hN0 h9
    refine x_callVi (c := 11) (As := [.int (-1)]) (rest := []) okX11_refused lkX11_105 rfl (by decide) rfl dX11_lot_12 rfl rfl (Nat.le_of_ble_eq_true rfl) rfl (c_X11_refused (-1) hr3 (CI.mk ?_))
    exact x_iret dX11_lot_15 rfl (hR0 _ _ h9)
  | some i2 =>
    replace h9 := elS h9
    refine e_top (v := .ref (ad 5 i2)) rfl ?_
    refine e_astore_n (L' := [some (.ref (ad 11 0)), some (.int p1), some (.int p2), some (.ref (ad 5 i2)), none]) dX11_lot_5 rfl (by decide) rfl ?_
    refine e_aload_n dX11_lot_6 rfl rfl ?_
    refine e_ifnonnull (tgt := 16) dX11_lot_7 rfl ?_
    refine e_iload_n dX11_lot_16 rfl rfl ?_
    refine e_iconst (v := 1) dX11_lot_17 rfl ?_
    refine e_icmp_lt (tgt := 26) dX11_lot_18 rfl (fun hc6 => ?_) (fun hc6 => ?_)
    · replace h9 := ifT hc6 h9
      refine e_aload_n dX11_lot_26 rfl rfl ?_
      refine e_bipush (v := (-6)) dX11_lot_27 rfl ?_
      obtain ⟨⟨r7, w8⟩, hr7, h9⟩ := elimP hN0 h9
      refine x_callVi (c := 11) (As := [.int (-6)]) (rest := []) okX11_refused lkX11_105 rfl (by decide) rfl dX11_lot_29 rfl rfl (Nat.le_of_ble_eq_true rfl) rfl (c_X11_refused (-6) hr7 (CI.mk ?_))
      exact x_iret dX11_lot_32 rfl (hR0 _ _ h9)
    · replace h9 := ifF hc6 h9
      refine e_iload_n dX11_lot_21 rfl rfl ?_
      refine e_iconst (v := 4) dX11_lot_22 rfl ?_
      refine e_icmp_le (tgt := 33) dX11_lot_23 rfl (fun hc10 => ?_) (fun hc10 => ?_)
      · replace h9 := ifT hc10 h9
        refine e_aload_n dX11_lot_33 rfl rfl ?_
        obtain ⟨k11, h9⟩ := chkP hN0 h9
        refine g_516 flX11_408 dX11_lot_34 k11 ?_
        refine e_istore (L' := [some (.ref (ad 11 0)), some (.int p1), some (.int p2), some (.ref (ad 5 i2)), some (.int (x.1 516 i2))]) dX11_lot_37 (by decide) rfl ?_
        refine e_aload_n dX11_lot_39 rfl rfl ?_
        refine e_iload_n dX11_lot_40 rfl rfl ?_
        refine p_516 flX11_408 dX11_lot_41 k11 ?_
        refine e_iload dX11_lot_44 rfl ?_
        exact x_iret dX11_lot_46 rfl (hR0 _ _ h9)
      · replace h9 := ifF hc10 h9
        refine e_aload_n dX11_lot_26 rfl rfl ?_
        refine e_bipush (v := (-6)) dX11_lot_27 rfl ?_
        obtain ⟨⟨r12, w13⟩, hr12, h9⟩ := elimP hN0 h9
        refine x_callVi (c := 11) (As := [.int (-6)]) (rest := []) okX11_refused lkX11_105 rfl (by decide) rfl dX11_lot_29 rfl rfl (Nat.le_of_ble_eq_true rfl) rfl (c_X11_refused (-6) hr12 (CI.mk ?_))
        exact x_iret dX11_lot_32 rfl (hR0 _ _ h9)
noncomputable def f_X11_worth (x : VM) (p1 : Int32) (p2 : Int32) (p3 : Int32) : Option (Int32 × VM) := (f_X11_pictureAt x p1).elim none (fun r1 => r1.elim ((f_X11_refused x (-1)).elim none (fun r3p => some (r3p.1, r3p.2))) (fun i2 => if p2 < 0 then (f_X11_refused x (-6)).elim none (fun r7p => some (r7p.1, r7p.2)) else if 8 ≤ p2 then (f_X11_refused x (-6)).elim none (fun r11p => some (r11p.1, r11p.2)) else if p3 < 0 then (f_X11_refused x (-6)).elim none (fun r15p => some (r15p.1, r15p.2)) else if p3 ≤ 999 then if i2 < x.2.2.2 5 then if inb p2 8 = true then if inb p2 8 = true then some (x.2.1 517 i2 p2.toNatClampNeg, setA x 517 i2 (upd (x.2.1 517 i2) p2.toNatClampNeg p3)) else none else none else none else (f_X11_refused x (-6)).elim none (fun r22p => some (r22p.1, r22p.2))))
theorem c_X11_worth {g : GG} {d : Nat} {ad : AD} {x m : VM} {Q : Option Value → VM → VM → Prop} (p1 : Int32) (p2 : Int32) (p3 : Int32) {r9 : Int32} {w9 : VM} (hf : f_X11_worth x p1 p2 p3 = some (r9, w9)) (hq : Q (some (.int r9)) w9 m) : CX g (d + 1) MX11_worth [.ref (ad 11 0), .int p1, .int p2, .int p3] ad x m Q := by
  refine CX.to (Lv := [some (.ref (ad 11 0)), some (.int p1), some (.int p2), some (.int p3), none, none]) okX11_worth (Nat.le_of_ble_eq_true rfl) rfl ?_
  obtain ⟨Φ0, hΦ⟩ : ∃ Φ : Option (Int32 × VM) → Prop, Φ = fun o => o = some (r9, w9) := ⟨_, rfl⟩
  have hN0 : Φ0 none → False := by rw [hΦ]; intro h; cases h
  have hR0 : ∀ z9 y9, Φ0 (some (z9, y9)) → Q (some (.int z9)) y9 m := by rw [hΦ]; intro z9 y9 h; cases h; exact hq
  have h9 : Φ0 (f_X11_worth x p1 p2 p3) := by rw [hΦ]; exact hf
  clear hf hq hΦ
  unfold f_X11_worth at h9
  refine e_aload_n dX11_worth_0 rfl rfl ?_
  refine e_iload_n dX11_worth_1 rfl rfl ?_
  obtain ⟨r1, hr1, h9⟩ := elimP hN0 h9
  refine x_callVi (c := 11) (As := [.int p1]) (rest := []) okX11_pictureAt lkX11_164 rfl (by decide) rfl dX11_worth_2 rfl rfl (Nat.le_of_ble_eq_true rfl) rfl (c_X11_pictureAt p1 hr1 (CI.mk ?_))
  cases r1 with
  | none =>
    replace h9 := elN h9
    refine e_top (v := .null) rfl ?_
    refine e_astoreN (L' := [some (.ref (ad 11 0)), some (.int p1), some (.int p2), some (.int p3), some (.null), none]) dX11_worth_5 (by decide) rfl ?_
    refine e_aloadN dX11_worth_7 rfl ?_
    refine e_ifnonnullN dX11_worth_9 ?_
    refine e_aload_n dX11_worth_12 rfl rfl ?_
    refine e_iconst (v := (-1)) dX11_worth_13 rfl ?_
    obtain ⟨⟨r3, w4⟩, hr3, h9⟩ := elimP hN0 h9
    refine x_callVi (c := 11) (As := [.int (-1)]) (rest := []) okX11_refused lkX11_105 rfl (by decide) rfl dX11_worth_14 rfl rfl (Nat.le_of_ble_eq_true rfl) rfl (c_X11_refused (-1) hr3 (CI.mk ?_))
    exact x_iret dX11_worth_17 rfl (hR0 _ _ h9)
  | some i2 =>
    replace h9 := elS h9
    refine e_top (v := .ref (ad 5 i2)) rfl ?_
    refine e_astore (L' := [some (.ref (ad 11 0)), some (.int p1), some (.int p2), some (.int p3), some (.ref (ad 5 i2)), none]) dX11_worth_5 (by decide) rfl ?_
    refine e_aload dX11_worth_7 rfl ?_
    refine e_ifnonnull (tgt := 18) dX11_worth_9 rfl ?_
    refine e_iload_n dX11_worth_18 rfl rfl ?_
    refine e_if_lt (tgt := 39) dX11_worth_19 rfl (fun hc6 => ?_) (fun hc6 => ?_)
    · replace h9 := ifT hc6 h9
      refine e_aload_n dX11_worth_39 rfl rfl ?_
      refine e_bipush (v := (-6)) dX11_worth_40 rfl ?_
      obtain ⟨⟨r7, w8⟩, hr7, h9⟩ := elimP hN0 h9
      refine x_callVi (c := 11) (As := [.int (-6)]) (rest := []) okX11_refused lkX11_105 rfl (by decide) rfl dX11_worth_42 rfl rfl (Nat.le_of_ble_eq_true rfl) rfl (c_X11_refused (-6) hr7 (CI.mk ?_))
      exact x_iret dX11_worth_45 rfl (hR0 _ _ h9)
    · replace h9 := ifF hc6 h9
      refine e_iload_n dX11_worth_22 rfl rfl ?_
      refine e_bipush (v := 8) dX11_worth_23 rfl ?_
      refine e_icmp_ge (tgt := 39) dX11_worth_25 rfl (fun hc10 => ?_) (fun hc10 => ?_)
      · replace h9 := ifT hc10 h9
        refine e_aload_n dX11_worth_39 rfl rfl ?_
        refine e_bipush (v := (-6)) dX11_worth_40 rfl ?_
        obtain ⟨⟨r11, w12⟩, hr11, h9⟩ := elimP hN0 h9
        refine x_callVi (c := 11) (As := [.int (-6)]) (rest := []) okX11_refused lkX11_105 rfl (by decide) rfl dX11_worth_42 rfl rfl (Nat.le_of_ble_eq_true rfl) rfl (c_X11_refused (-6) hr11 (CI.mk ?_))
        exact x_iret dX11_worth_45 rfl (hR0 _ _ h9)
      · replace h9 := ifF hc10 h9
        refine e_iload_n dX11_worth_28 rfl rfl ?_
        refine e_if_lt (tgt := 39) dX11_worth_29 rfl (fun hc14 => ?_) (fun hc14 => ?_)
        · replace h9 := ifT hc14 h9
          refine e_aload_n dX11_worth_39 rfl rfl ?_
          refine e_bipush (v := (-6)) dX11_worth_40 rfl ?_
          obtain ⟨⟨r15, w16⟩, hr15, h9⟩ := elimP hN0 h9
          refine x_callVi (c := 11) (As := [.int (-6)]) (rest := []) okX11_refused lkX11_105 rfl (by decide) rfl dX11_worth_42 rfl rfl (Nat.le_of_ble_eq_true rfl) rfl (c_X11_refused (-6) hr15 (CI.mk ?_))
          exact x_iret dX11_worth_45 rfl (hR0 _ _ h9)
        · replace h9 := ifF hc14 h9
          refine e_iload_n dX11_worth_32 rfl rfl ?_
          refine e_sipush (v := 999) dX11_worth_33 rfl ?_
          refine e_icmp_le (tgt := 46) dX11_worth_36 rfl (fun hc18 => ?_) (fun hc18 => ?_)
          · replace h9 := ifT hc18 h9
            refine e_aload dX11_worth_46 rfl ?_
            obtain ⟨k19, h9⟩ := chkP hN0 h9
            refine g_517 flX11_411 dX11_worth_48 k19 ?_
            refine e_iload_n dX11_worth_51 rfl rfl ?_
            obtain ⟨k20, h9⟩ := chkP hN0 h9
            refine l_517 dX11_worth_52 k19 (inb_in k20) ?_
            refine e_istore (L' := [some (.ref (ad 11 0)), some (.int p1), some (.int p2), some (.int p3), some (.ref (ad 5 i2)), some (.int (x.2.1 517 i2 p2.toNatClampNeg))]) dX11_worth_53 (by decide) rfl ?_
            refine e_aload dX11_worth_55 rfl ?_
            refine g_517 flX11_411 dX11_worth_57 k19 ?_
            refine e_iload_n dX11_worth_60 rfl rfl ?_
            refine e_pc (pc' := 61) rfl ?_
            refine e_iload_n dX11_worth_61 rfl rfl ?_
            obtain ⟨k21, h9⟩ := chkP hN0 h9
            refine s_517 dX11_worth_62 k19 (inb_in k21) ?_
            refine e_iload dX11_worth_63 rfl ?_
            exact x_iret dX11_worth_65 rfl (hR0 _ _ h9)
          · replace h9 := ifF hc18 h9
            refine e_aload_n dX11_worth_39 rfl rfl ?_
            refine e_bipush (v := (-6)) dX11_worth_40 rfl ?_
            obtain ⟨⟨r22, w23⟩, hr22, h9⟩ := elimP hN0 h9
            refine x_callVi (c := 11) (As := [.int (-6)]) (rest := []) okX11_refused lkX11_105 rfl (by decide) rfl dX11_worth_42 rfl rfl (Nat.le_of_ble_eq_true rfl) rfl (c_X11_refused (-6) hr22 (CI.mk ?_))
            exact x_iret dX11_worth_45 rfl (hR0 _ _ h9)
noncomputable def f_X11_plan (x : VM) (p1 : Int32) : Option (Int32 × VM) := if p1 < 1 then (f_X11_refused x (-6)).elim none (fun r2p => some (r2p.1, r2p.2)) else if p1 ≤ 3 then if (x.1 1114 0) ≤ 5 then (f_X6_findBest x (x.1 1114 0) p1).elim none (fun r7p => some (r7p.1, r7p.2)) else (f_X11_refused x (-7)).elim none (fun r10p => some (r10p.1, r10p.2)) else (f_X11_refused x (-6)).elim none (fun r13p => some (r13p.1, r13p.2))
theorem c_X11_plan {g : GG} {d : Nat} {ad : AD} {x m : VM} {Q : Option Value → VM → VM → Prop} (p1 : Int32) {r9 : Int32} {w9 : VM} (hf : f_X11_plan x p1 = some (r9, w9)) (hq : Q (some (.int r9)) w9 m) : CX g (d + 16) MX11_plan [.ref (ad 11 0), .int p1] ad x m Q := by
  refine CX.to (Lv := [some (.ref (ad 11 0)), some (.int p1)]) okX11_plan (Nat.le_of_ble_eq_true rfl) rfl ?_
  obtain ⟨Φ0, hΦ⟩ : ∃ Φ : Option (Int32 × VM) → Prop, Φ = fun o => o = some (r9, w9) := ⟨_, rfl⟩
  have hN0 : Φ0 none → False := by rw [hΦ]; intro h; cases h
  have hR0 : ∀ z9 y9, Φ0 (some (z9, y9)) → Q (some (.int z9)) y9 m := by rw [hΦ]; intro z9 y9 h; cases h; exact hq
  have h9 : Φ0 (f_X11_plan x p1) := by rw [hΦ]; exact hf
  clear hf hq hΦ
  unfold f_X11_plan at h9
  refine e_iload_n dX11_plan_0 rfl rfl ?_
  refine e_iconst (v := 1) dX11_plan_1 rfl ?_
  refine e_icmp_lt (tgt := 10) dX11_plan_2 rfl (fun hc1 => ?_) (fun hc1 => ?_)
  · replace h9 := ifT hc1 h9
    refine e_aload_n dX11_plan_10 rfl rfl ?_
    refine e_bipush (v := (-6)) dX11_plan_11 rfl ?_
    obtain ⟨⟨r2, w3⟩, hr2, h9⟩ := elimP hN0 h9
    refine x_callVi (c := 11) (As := [.int (-6)]) (rest := []) okX11_refused lkX11_105 rfl (by decide) rfl dX11_plan_13 rfl rfl (Nat.le_of_ble_eq_true rfl) rfl (c_X11_refused (-6) hr2 (CI.mk ?_))
    exact x_iret dX11_plan_16 rfl (hR0 _ _ h9)
  · replace h9 := ifF hc1 h9
    refine e_iload_n dX11_plan_5 rfl rfl ?_
    refine e_iconst (v := 3) dX11_plan_6 rfl ?_
    refine e_icmp_le (tgt := 17) dX11_plan_7 rfl (fun hc5 => ?_) (fun hc5 => ?_)
    · replace h9 := ifT hc5 h9
      refine e_aload_n dX11_plan_17 rfl rfl ?_
      refine g_1114 flX11_89 dX11_plan_18 ?_
      refine e_iconst (v := 5) dX11_plan_21 rfl ?_
      refine e_icmp_le (tgt := 32) dX11_plan_22 rfl (fun hc6 => ?_) (fun hc6 => ?_)
      · replace h9 := ifT hc6 h9
        refine e_aload_n dX11_plan_32 rfl rfl ?_
        refine g_1109 flX11_71 dX11_plan_33 ?_
        refine e_aload_n dX11_plan_36 rfl rfl ?_
        refine g_1102 flX11_23 dX11_plan_37 ?_
        refine e_aload_n dX11_plan_40 rfl rfl ?_
        refine g_1114 flX11_89 dX11_plan_41 ?_
        refine e_iload_n dX11_plan_44 rfl rfl ?_
        obtain ⟨⟨r7, w8⟩, hr7, h9⟩ := elimP hN0 h9
        refine x_callVi (c := 6) (As := [.ref (ad 2102 0), .int (x.1 1114 0), .int p1]) (rest := []) okX6_findBest lkX11_414 rfl (by decide) rfl dX11_plan_45 rfl rfl (Nat.le_of_ble_eq_true rfl) rfl (c_X6_findBest (x.1 1114 0) p1 hr7 (CI.mk ?_))
        refine e_pc (pc' := 48) rfl ?_
        exact x_iret dX11_plan_48 rfl (hR0 _ _ h9)
      · replace h9 := ifF hc6 h9
        refine e_aload_n dX11_plan_25 rfl rfl ?_
        refine e_bipush (v := (-7)) dX11_plan_26 rfl ?_
        obtain ⟨⟨r10, w11⟩, hr10, h9⟩ := elimP hN0 h9
        refine x_callVi (c := 11) (As := [.int (-7)]) (rest := []) okX11_refused lkX11_105 rfl (by decide) rfl dX11_plan_28 rfl rfl (Nat.le_of_ble_eq_true rfl) rfl (c_X11_refused (-7) hr10 (CI.mk ?_))
        exact x_iret dX11_plan_31 rfl (hR0 _ _ h9)
    · replace h9 := ifF hc5 h9
      refine e_aload_n dX11_plan_10 rfl rfl ?_
      refine e_bipush (v := (-6)) dX11_plan_11 rfl ?_
      obtain ⟨⟨r13, w14⟩, hr13, h9⟩ := elimP hN0 h9
      refine x_callVi (c := 11) (As := [.int (-6)]) (rest := []) okX11_refused lkX11_105 rfl (by decide) rfl dX11_plan_13 rfl rfl (Nat.le_of_ble_eq_true rfl) rfl (c_X11_refused (-6) hr13 (CI.mk ?_))
      exact x_iret dX11_plan_16 rfl (hR0 _ _ h9)
noncomputable def f_X11_planned (x : VM) (p1 : Int32) : Option (Int32) := if p1 < 0 then some (-1) else if p1 < (x.1 601 0) then if inb p1 8 = true then some (x.2.1 600 0 p1.toNatClampNeg) else none else some (-1)
theorem c_X11_planned {g : GG} {d : Nat} {ad : AD} {x m : VM} {Q : Option Value → VM → VM → Prop} (p1 : Int32) {r9 : Int32} (hf : f_X11_planned x p1 = some r9) (hq : Q (some (.int r9)) x m) : CX g d MX11_planned [.ref (ad 11 0), .int p1] ad x m Q := by
  refine CX.to (Lv := [some (.ref (ad 11 0)), some (.int p1)]) okX11_planned (Nat.le_of_ble_eq_true rfl) rfl ?_
  obtain ⟨Φ0, hΦ⟩ : ∃ Φ : Option (Int32) → Prop, Φ = fun o => o = some r9 := ⟨_, rfl⟩
  have hN0 : Φ0 none → False := by rw [hΦ]; intro h; cases h
  have hR0 : ∀ z9, Φ0 (some z9) → Q (some (.int z9)) x m := by rw [hΦ]; intro z9 h; cases h; exact hq
  have h9 : Φ0 (f_X11_planned x p1) := by rw [hΦ]; exact hf
  clear hf hq hΦ
  unfold f_X11_planned at h9
  refine e_iload_n dX11_planned_0 rfl rfl ?_
  refine e_if_lt (tgt := 15) dX11_planned_1 rfl (fun hc1 => ?_) (fun hc1 => ?_)
  · replace h9 := ifT hc1 h9
    refine e_iconst (v := (-1)) dX11_planned_15 rfl ?_
    refine e_goto (tgt := 28) dX11_planned_16 rfl ?_
    exact x_iret dX11_planned_28 rfl (hR0 _ h9)
  · replace h9 := ifF hc1 h9
    refine e_iload_n dX11_planned_4 rfl rfl ?_
    refine e_aload_n dX11_planned_5 rfl rfl ?_
    refine g_1109 flX11_71 dX11_planned_6 ?_
    refine g_601 flX11_417 dX11_planned_9 ?_
    refine e_icmp_lt (tgt := 19) dX11_planned_12 rfl (fun hc2 => ?_) (fun hc2 => ?_)
    · replace h9 := ifT hc2 h9
      refine e_aload_n dX11_planned_19 rfl rfl ?_
      refine g_1109 flX11_71 dX11_planned_20 ?_
      refine g_600 flX11_418 dX11_planned_23 ?_
      refine e_iload_n dX11_planned_26 rfl rfl ?_
      obtain ⟨k3, h9⟩ := chkP hN0 h9
      refine l_600 dX11_planned_27 (inb_in k3) ?_
      exact x_iret dX11_planned_28 rfl (hR0 _ h9)
    · replace h9 := ifF hc2 h9
      refine e_iconst (v := (-1)) dX11_planned_15 rfl ?_
      refine e_goto (tgt := 28) dX11_planned_16 rfl ?_
      exact x_iret dX11_planned_28 rfl (hR0 _ h9)
noncomputable def b_X11_peopleWho_4 (x : VM) (p1 : Int32) (v1 : Int32 × Int32) : (Int32 × Int32) ⊕ (Option (Int32)) := if (x.1 1113 0) ≤ v1.2 then Sum.inr (some v1.1) else if inb v1.2 16 = true then if v1.2.toNatClampNeg < x.2.2.2 4 then if p1 = 6 then (f_X4_isUnder x v1.2.toNatClampNeg (x.1 1116 0)).elim (Sum.inr none) (fun r11 => if r11 = 0 then Sum.inl (v1.1, v1.2 + 1) else Sum.inl (v1.1 + 1, v1.2 + 1)) else if p1 = 7 then if (x.1 406 v1.2.toNatClampNeg) = 0 then Sum.inl (v1.1, v1.2 + 1) else Sum.inl (v1.1 + 1, v1.2 + 1) else if (x.1 407 v1.2.toNatClampNeg) = (-1) then if (0 : Int32) = 0 then Sum.inl (v1.1, v1.2 + 1) else Sum.inl (v1.1 + 1, v1.2 + 1) else if (1 : Int32) = 0 then Sum.inl (v1.1, v1.2 + 1) else Sum.inl (v1.1 + 1, v1.2 + 1) else Sum.inr none else Sum.inr none
noncomputable def f_X11_peopleWho (x : VM) (p1 : Int32) : Option (Int32) := loopF none (b_X11_peopleWho_4 x p1) (0, 0)
theorem c_X11_peopleWho {g : GG} {d : Nat} {ad : AD} {x m : VM} {Q : Option Value → VM → VM → Prop} (p1 : Int32) {r9 : Int32} (hf : f_X11_peopleWho x p1 = some r9) (hq : Q (some (.int r9)) x m) : CX g (d + 1) MX11_peopleWho [.ref (ad 11 0), .int p1] ad x m Q := by
  refine CX.to (Lv := [some (.ref (ad 11 0)), some (.int p1), none, none, none, none]) okX11_peopleWho (Nat.le_of_ble_eq_true rfl) rfl ?_
  obtain ⟨Φ0, hΦ⟩ : ∃ Φ : Option (Int32) → Prop, Φ = fun o => o = some r9 := ⟨_, rfl⟩
  have hN0 : Φ0 none → False := by rw [hΦ]; intro h; cases h
  have hR0 : ∀ z9, Φ0 (some z9) → Q (some (.int z9)) x m := by rw [hΦ]; intro z9 h; cases h; exact hq
  have h9 : Φ0 (f_X11_peopleWho x p1) := by rw [hΦ]; exact hf
  clear hf hq hΦ
  unfold f_X11_peopleWho at h9
  refine e_iconst (v := 0) dX11_peopleWho_0 rfl ?_
  refine e_istore_n (L' := [some (.ref (ad 11 0)), some (.int p1), some (.int 0), none, none, none]) dX11_peopleWho_1 rfl (by decide) rfl ?_
  refine e_iconst (v := 0) dX11_peopleWho_2 rfl ?_
  refine e_istore_n (L' := [some (.ref (ad 11 0)), some (.int p1), some (.int 0), some (.int 0), none, none]) dX11_peopleWho_3 rfl (by decide) rfl ?_
  refine loop_gen (b_X11_peopleWho_4 x p1) none (fun v1 => EX g (d + 1) MX11_peopleWho ad x m 4 [some (.ref (ad 11 0)), some (.int p1), some (.int v1.1), some (.int v1.2), none, none] [] Q) Φ0 hN0 (fun v1 Φ1 hB0_1 hO1 h9 => ?_) (0, 0) h9
  have hN1 := fun h => hN0 (hO1 _ h)
  have hR1 := fun r9 h => hR0 r9 (hO1 _ h)
  have hB0_1 : ∀ (z0 : Int32) (z1 : Int32), Φ1 (Sum.inl (z0, z1)) → EX g (d + 1) MX11_peopleWho ad x m 4 [some (.ref (ad 11 0)), some (.int p1), some (.int z0), some (.int z1), none, none] [] Q := fun z0 z1 h => hB0_1 (z0, z1) h
  unfold b_X11_peopleWho_4 at h9
  refine e_iload_n dX11_peopleWho_4 rfl rfl ?_
  refine e_aload_n dX11_peopleWho_5 rfl rfl ?_
  refine g_1113 flX11_85 dX11_peopleWho_6 ?_
  refine e_icmp_ge (tgt := 82) dX11_peopleWho_9 rfl (fun hc2 => ?_) (fun hc2 => ?_)
  · replace h9 := ifT hc2 h9
    refine e_iload_n dX11_peopleWho_82 rfl rfl ?_
    exact x_iret dX11_peopleWho_83 rfl (hR1 _ h9)
  · replace h9 := ifF hc2 h9
    refine e_aload_n dX11_peopleWho_12 rfl rfl ?_
    refine g_1101 flX11_17 dX11_peopleWho_13 ?_
    refine e_iload_n dX11_peopleWho_16 rfl rfl ?_
    obtain ⟨k3, h9⟩ := chkP hN1 h9
    refine l_1101 dX11_peopleWho_17 (inb_in k3) ?_
    obtain ⟨k4, h9⟩ := chkP hN1 h9
    refine e_top (v := .ref (ad 4 v1.2.toNatClampNeg)) (rfT k4) ?_
    refine e_astore (L' := [some (.ref (ad 11 0)), some (.int p1), some (.int v1.1), some (.int v1.2), some (.ref (ad 4 v1.2.toNatClampNeg)), none]) dX11_peopleWho_18 (by decide) rfl ?_
    refine e_iload_n dX11_peopleWho_20 rfl rfl ?_
    refine e_bipush (v := 6) dX11_peopleWho_21 rfl ?_
    refine e_icmp_ne (tgt := 38) dX11_peopleWho_23 rfl (fun hc5 => ?_) (fun hc5 => ?_)
    · replace h9 := ifF hc5 h9
      refine e_iload_n dX11_peopleWho_38 rfl rfl ?_
      refine e_bipush (v := 7) dX11_peopleWho_39 rfl ?_
      refine e_icmp_ne (tgt := 52) dX11_peopleWho_41 rfl (fun hc6 => ?_) (fun hc6 => ?_)
      · replace h9 := ifF hc6 h9
        refine e_aload dX11_peopleWho_52 rfl ?_
        refine g_407 flX11_228 dX11_peopleWho_54 k4 ?_
        refine e_iconst (v := (-1)) dX11_peopleWho_57 rfl ?_
        refine e_icmp_eq (tgt := 65) dX11_peopleWho_58 rfl (fun hc7 => ?_) (fun hc7 => ?_)
        · replace h9 := ifT hc7 h9
          refine e_iconst (v := 0) dX11_peopleWho_65 rfl ?_
          refine e_istore (L' := [some (.ref (ad 11 0)), some (.int p1), some (.int v1.1), some (.int v1.2), some (.ref (ad 4 v1.2.toNatClampNeg)), some (.int 0)]) dX11_peopleWho_66 (by decide) rfl ?_
          refine e_iload dX11_peopleWho_68 rfl ?_
          refine e_if_eq (tgt := 76) dX11_peopleWho_70 rfl (fun hc8 => ?_) (fun hc8 => ?_)
          · replace h9 := ifT hc8 h9
            refine e_iinc (v := (v1.2 + 1)) (L' := [some (.ref (ad 11 0)), some (.int p1), some (.int v1.1), some (.int (v1.2 + 1)), some (.ref (ad 4 v1.2.toNatClampNeg)), some (.int 0)]) dX11_peopleWho_76 rfl rfl (by decide) rfl ?_
            refine e_goto (tgt := 4) dX11_peopleWho_79 rfl ?_
            refine e_wk (L' := [some (.ref (ad 11 0)), some (.int p1), some (.int v1.1), some (.int (v1.2 + 1)), none, none]) (wkC (wkC (wkC (wkC (wkN (wkN wk0)))))) ?_
            exact hB0_1 _ _ h9
          · replace h9 := ifF hc8 h9
            refine e_iinc (v := (v1.1 + 1)) (L' := [some (.ref (ad 11 0)), some (.int p1), some (.int (v1.1 + 1)), some (.int v1.2), some (.ref (ad 4 v1.2.toNatClampNeg)), some (.int 0)]) dX11_peopleWho_73 rfl rfl (by decide) rfl ?_
            refine e_iinc (v := (v1.2 + 1)) (L' := [some (.ref (ad 11 0)), some (.int p1), some (.int (v1.1 + 1)), some (.int (v1.2 + 1)), some (.ref (ad 4 v1.2.toNatClampNeg)), some (.int 0)]) dX11_peopleWho_76 rfl rfl (by decide) rfl ?_
            refine e_goto (tgt := 4) dX11_peopleWho_79 rfl ?_
            refine e_wk (L' := [some (.ref (ad 11 0)), some (.int p1), some (.int (v1.1 + 1)), some (.int (v1.2 + 1)), none, none]) (wkC (wkC (wkC (wkC (wkN (wkN wk0)))))) ?_
            exact hB0_1 _ _ h9
        · replace h9 := ifF hc7 h9
          refine e_iconst (v := 1) dX11_peopleWho_61 rfl ?_
          refine e_goto (tgt := 66) dX11_peopleWho_62 rfl ?_
          refine e_istore (L' := [some (.ref (ad 11 0)), some (.int p1), some (.int v1.1), some (.int v1.2), some (.ref (ad 4 v1.2.toNatClampNeg)), some (.int 1)]) dX11_peopleWho_66 (by decide) rfl ?_
          refine e_iload dX11_peopleWho_68 rfl ?_
          refine e_if_eq (tgt := 76) dX11_peopleWho_70 rfl (fun hc9 => ?_) (fun hc9 => ?_)
          · replace h9 := ifT hc9 h9
            refine e_iinc (v := (v1.2 + 1)) (L' := [some (.ref (ad 11 0)), some (.int p1), some (.int v1.1), some (.int (v1.2 + 1)), some (.ref (ad 4 v1.2.toNatClampNeg)), some (.int 1)]) dX11_peopleWho_76 rfl rfl (by decide) rfl ?_
            refine e_goto (tgt := 4) dX11_peopleWho_79 rfl ?_
            refine e_wk (L' := [some (.ref (ad 11 0)), some (.int p1), some (.int v1.1), some (.int (v1.2 + 1)), none, none]) (wkC (wkC (wkC (wkC (wkN (wkN wk0)))))) ?_
            exact hB0_1 _ _ h9
          · replace h9 := ifF hc9 h9
            refine e_iinc (v := (v1.1 + 1)) (L' := [some (.ref (ad 11 0)), some (.int p1), some (.int (v1.1 + 1)), some (.int v1.2), some (.ref (ad 4 v1.2.toNatClampNeg)), some (.int 1)]) dX11_peopleWho_73 rfl rfl (by decide) rfl ?_
            refine e_iinc (v := (v1.2 + 1)) (L' := [some (.ref (ad 11 0)), some (.int p1), some (.int (v1.1 + 1)), some (.int (v1.2 + 1)), some (.ref (ad 4 v1.2.toNatClampNeg)), some (.int 1)]) dX11_peopleWho_76 rfl rfl (by decide) rfl ?_
            refine e_goto (tgt := 4) dX11_peopleWho_79 rfl ?_
            refine e_wk (L' := [some (.ref (ad 11 0)), some (.int p1), some (.int (v1.1 + 1)), some (.int (v1.2 + 1)), none, none]) (wkC (wkC (wkC (wkC (wkN (wkN wk0)))))) ?_
            exact hB0_1 _ _ h9
      · replace h9 := ifT hc6 h9
        refine e_aload dX11_peopleWho_44 rfl ?_
        refine g_406 flX11_223 dX11_peopleWho_46 k4 ?_
        refine e_goto (tgt := 66) dX11_peopleWho_49 rfl ?_
        refine e_istore (L' := [some (.ref (ad 11 0)), some (.int p1), some (.int v1.1), some (.int v1.2), some (.ref (ad 4 v1.2.toNatClampNeg)), some (.int (x.1 406 v1.2.toNatClampNeg))]) dX11_peopleWho_66 (by decide) rfl ?_
        refine e_iload dX11_peopleWho_68 rfl ?_
        refine e_if_eq (tgt := 76) dX11_peopleWho_70 rfl (fun hc10 => ?_) (fun hc10 => ?_)
        · replace h9 := ifT hc10 h9
          refine e_iinc (v := (v1.2 + 1)) (L' := [some (.ref (ad 11 0)), some (.int p1), some (.int v1.1), some (.int (v1.2 + 1)), some (.ref (ad 4 v1.2.toNatClampNeg)), some (.int (x.1 406 v1.2.toNatClampNeg))]) dX11_peopleWho_76 rfl rfl (by decide) rfl ?_
          refine e_goto (tgt := 4) dX11_peopleWho_79 rfl ?_
          refine e_wk (L' := [some (.ref (ad 11 0)), some (.int p1), some (.int v1.1), some (.int (v1.2 + 1)), none, none]) (wkC (wkC (wkC (wkC (wkN (wkN wk0)))))) ?_
          exact hB0_1 _ _ h9
        · replace h9 := ifF hc10 h9
          refine e_iinc (v := (v1.1 + 1)) (L' := [some (.ref (ad 11 0)), some (.int p1), some (.int (v1.1 + 1)), some (.int v1.2), some (.ref (ad 4 v1.2.toNatClampNeg)), some (.int (x.1 406 v1.2.toNatClampNeg))]) dX11_peopleWho_73 rfl rfl (by decide) rfl ?_
          refine e_iinc (v := (v1.2 + 1)) (L' := [some (.ref (ad 11 0)), some (.int p1), some (.int (v1.1 + 1)), some (.int (v1.2 + 1)), some (.ref (ad 4 v1.2.toNatClampNeg)), some (.int (x.1 406 v1.2.toNatClampNeg))]) dX11_peopleWho_76 rfl rfl (by decide) rfl ?_
          refine e_goto (tgt := 4) dX11_peopleWho_79 rfl ?_
          refine e_wk (L' := [some (.ref (ad 11 0)), some (.int p1), some (.int (v1.1 + 1)), some (.int (v1.2 + 1)), none, none]) (wkC (wkC (wkC (wkC (wkN (wkN wk0)))))) ?_
          exact hB0_1 _ _ h9
    · replace h9 := ifT hc5 h9
      refine e_aload dX11_peopleWho_26 rfl ?_
      refine e_aload_n dX11_peopleWho_28 rfl rfl ?_
      refine g_1116 flX11_95 dX11_peopleWho_29 ?_
      obtain ⟨r11, hr11, h9⟩ := elimP hN1 h9
      refine x_callVi (c := 4) (As := [.int (x.1 1116 0)]) (rest := []) okX4_isUnder lkX11_185 rfl (by decide) rfl dX11_peopleWho_32 rfl rfl (Nat.le_of_ble_eq_true rfl) k4 (c_X4_isUnder v1.2.toNatClampNeg (x.1 1116 0) hr11 (CI.mk ?_))
      refine e_goto (tgt := 66) dX11_peopleWho_35 rfl ?_
      refine e_istore (L' := [some (.ref (ad 11 0)), some (.int p1), some (.int v1.1), some (.int v1.2), some (.ref (ad 4 v1.2.toNatClampNeg)), some (.int r11)]) dX11_peopleWho_66 (by decide) rfl ?_
      refine e_iload dX11_peopleWho_68 rfl ?_
      refine e_if_eq (tgt := 76) dX11_peopleWho_70 rfl (fun hc12 => ?_) (fun hc12 => ?_)
      · replace h9 := ifT hc12 h9
        refine e_iinc (v := (v1.2 + 1)) (L' := [some (.ref (ad 11 0)), some (.int p1), some (.int v1.1), some (.int (v1.2 + 1)), some (.ref (ad 4 v1.2.toNatClampNeg)), some (.int r11)]) dX11_peopleWho_76 rfl rfl (by decide) rfl ?_
        refine e_goto (tgt := 4) dX11_peopleWho_79 rfl ?_
        refine e_wk (L' := [some (.ref (ad 11 0)), some (.int p1), some (.int v1.1), some (.int (v1.2 + 1)), none, none]) (wkC (wkC (wkC (wkC (wkN (wkN wk0)))))) ?_
        exact hB0_1 _ _ h9
      · replace h9 := ifF hc12 h9
        refine e_iinc (v := (v1.1 + 1)) (L' := [some (.ref (ad 11 0)), some (.int p1), some (.int (v1.1 + 1)), some (.int v1.2), some (.ref (ad 4 v1.2.toNatClampNeg)), some (.int r11)]) dX11_peopleWho_73 rfl rfl (by decide) rfl ?_
        refine e_iinc (v := (v1.2 + 1)) (L' := [some (.ref (ad 11 0)), some (.int p1), some (.int (v1.1 + 1)), some (.int (v1.2 + 1)), some (.ref (ad 4 v1.2.toNatClampNeg)), some (.int r11)]) dX11_peopleWho_76 rfl rfl (by decide) rfl ?_
        refine e_goto (tgt := 4) dX11_peopleWho_79 rfl ?_
        refine e_wk (L' := [some (.ref (ad 11 0)), some (.int p1), some (.int (v1.1 + 1)), some (.int (v1.2 + 1)), none, none]) (wkC (wkC (wkC (wkC (wkN (wkN wk0)))))) ?_
        exact hB0_1 _ _ h9
noncomputable def b_X11_showings_14 (x : VM) (v1 : Int32 × Int32) (v3 : Int32 × Int32) : (Int32 × Int32) ⊕ ((Int32 × Int32) ⊕ (Option (Int32))) := if 40 ≤ v3.2 then Sum.inr (Sum.inl (v3.1, v1.2 + 1)) else if inb v1.2 6 = true then if v1.2.toNatClampNeg < x.2.2.2 1 then if inb v3.2 40 = true then if (x.2.1 103 v1.2.toNatClampNeg v3.2.toNatClampNeg) = (-1) then Sum.inl (v3.1, v3.2 + 1) else Sum.inl (v3.1 + 1, v3.2 + 1) else Sum.inr (Sum.inr none) else Sum.inr (Sum.inr none) else Sum.inr (Sum.inr none)
noncomputable def b_X11_showings_4 (x : VM) (v1 : Int32 × Int32) : (Int32 × Int32) ⊕ (Option (Int32)) := if (x.1 1115 0) ≤ v1.2 then Sum.inr (some v1.1) else loopF (Sum.inr none) (b_X11_showings_14 x v1) (v1.1, 0)
noncomputable def f_X11_showings (x : VM) : Option (Int32) := loopF none (b_X11_showings_4 x) (0, 0)
theorem c_X11_showings {g : GG} {d : Nat} {ad : AD} {x m : VM} {Q : Option Value → VM → VM → Prop} {r9 : Int32} (hf : f_X11_showings x = some r9) (hq : Q (some (.int r9)) x m) : CX g d MX11_showings [.ref (ad 11 0)] ad x m Q := by
  refine CX.to (Lv := [some (.ref (ad 11 0)), none, none, none]) okX11_showings (Nat.le_of_ble_eq_true rfl) rfl ?_
  obtain ⟨Φ0, hΦ⟩ : ∃ Φ : Option (Int32) → Prop, Φ = fun o => o = some r9 := ⟨_, rfl⟩
  have hN0 : Φ0 none → False := by rw [hΦ]; intro h; cases h
  have hR0 : ∀ z9, Φ0 (some z9) → Q (some (.int z9)) x m := by rw [hΦ]; intro z9 h; cases h; exact hq
  have h9 : Φ0 (f_X11_showings x) := by rw [hΦ]; exact hf
  clear hf hq hΦ
  unfold f_X11_showings at h9
  refine e_iconst (v := 0) dX11_showings_0 rfl ?_
  refine e_istore_n (L' := [some (.ref (ad 11 0)), some (.int 0), none, none]) dX11_showings_1 rfl (by decide) rfl ?_
  refine e_iconst (v := 0) dX11_showings_2 rfl ?_
  refine e_istore_n (L' := [some (.ref (ad 11 0)), some (.int 0), some (.int 0), none]) dX11_showings_3 rfl (by decide) rfl ?_
  refine loop_gen (b_X11_showings_4 x) none (fun v1 => EX g d MX11_showings ad x m 4 [some (.ref (ad 11 0)), some (.int v1.1), some (.int v1.2), none] [] Q) Φ0 hN0 (fun v1 Φ1 hB0_1 hO1 h9 => ?_) (0, 0) h9
  have hN1 := fun h => hN0 (hO1 _ h)
  have hR1 := fun r9 h => hR0 r9 (hO1 _ h)
  have hB0_1 : ∀ (z0 : Int32) (z1 : Int32), Φ1 (Sum.inl (z0, z1)) → EX g d MX11_showings ad x m 4 [some (.ref (ad 11 0)), some (.int z0), some (.int z1), none] [] Q := fun z0 z1 h => hB0_1 (z0, z1) h
  unfold b_X11_showings_4 at h9
  refine e_iload_n dX11_showings_4 rfl rfl ?_
  refine e_aload_n dX11_showings_5 rfl rfl ?_
  refine g_1115 flX11_92 dX11_showings_6 ?_
  refine e_icmp_ge (tgt := 50) dX11_showings_9 rfl (fun hc2 => ?_) (fun hc2 => ?_)
  · replace h9 := ifT hc2 h9
    refine e_iload_n dX11_showings_50 rfl rfl ?_
    exact x_iret dX11_showings_51 rfl (hR1 _ h9)
  · replace h9 := ifF hc2 h9
    refine e_iconst (v := 0) dX11_showings_12 rfl ?_
    refine e_istore_n (L' := [some (.ref (ad 11 0)), some (.int v1.1), some (.int v1.2), some (.int 0)]) dX11_showings_13 rfl (by decide) rfl ?_
    refine loop_gen (b_X11_showings_14 x v1) (Sum.inr none) (fun v3 => EX g d MX11_showings ad x m 14 [some (.ref (ad 11 0)), some (.int v3.1), some (.int v1.2), some (.int v3.2)] [] Q) Φ1 hN1 (fun v3 Φ2 hB1_2 hO2 h9 => ?_) (v1.1, 0) h9
    have hN2 := fun h => hN1 (hO2 _ h)
    have hR2 := fun r9 h => hR1 r9 (hO2 _ h)
    have hB0_2 : ∀ (z0 : Int32) (z1 : Int32), Φ2 (Sum.inr (Sum.inl (z0, z1))) → EX g d MX11_showings ad x m 4 [some (.ref (ad 11 0)), some (.int z0), some (.int z1), none] [] Q := fun z0 z1 h => hB0_1 z0 z1 (hO2 _ h)
    have hB1_2 : ∀ (z0 : Int32) (z1 : Int32), Φ2 (Sum.inl (z0, z1)) → EX g d MX11_showings ad x m 14 [some (.ref (ad 11 0)), some (.int z0), some (.int v1.2), some (.int z1)] [] Q := fun z0 z1 h => hB1_2 (z0, z1) h
    unfold b_X11_showings_14 at h9
    refine e_iload_n dX11_showings_14 rfl rfl ?_
    refine e_bipush (v := 40) dX11_showings_15 rfl ?_
    refine e_icmp_ge (tgt := 44) dX11_showings_17 rfl (fun hc4 => ?_) (fun hc4 => ?_)
    · replace h9 := ifT hc4 h9
      refine e_iinc (v := (v1.2 + 1)) (L' := [some (.ref (ad 11 0)), some (.int v3.1), some (.int (v1.2 + 1)), some (.int v3.2)]) dX11_showings_44 rfl rfl (by decide) rfl ?_
      refine e_goto (tgt := 4) dX11_showings_47 rfl ?_
      refine e_wk (L' := [some (.ref (ad 11 0)), some (.int v3.1), some (.int (v1.2 + 1)), none]) (wkC (wkC (wkC (wkN wk0)))) ?_
      exact hB0_2 _ _ h9
    · replace h9 := ifF hc4 h9
      refine e_aload_n dX11_showings_20 rfl rfl ?_
      refine g_1103 flX11_29 dX11_showings_21 ?_
      refine e_iload_n dX11_showings_24 rfl rfl ?_
      obtain ⟨k5, h9⟩ := chkP hN2 h9
      refine l_1103 dX11_showings_25 (inb_in k5) ?_
      obtain ⟨k6, h9⟩ := chkP hN2 h9
      refine e_top (v := .ref (ad 1 v1.2.toNatClampNeg)) (rfT k6) ?_
      refine g_103 flX11_384 dX11_showings_26 k6 ?_
      refine e_iload_n dX11_showings_29 rfl rfl ?_
      obtain ⟨k7, h9⟩ := chkP hN2 h9
      refine l_103 dX11_showings_30 k6 (inb_in k7) ?_
      refine e_iconst (v := (-1)) dX11_showings_31 rfl ?_
      refine e_pc (pc' := 32) rfl ?_
      refine e_icmp_eq (tgt := 38) dX11_showings_32 rfl (fun hc8 => ?_) (fun hc8 => ?_)
      · replace h9 := ifT hc8 h9
        refine e_iinc (v := (v3.2 + 1)) (L' := [some (.ref (ad 11 0)), some (.int v3.1), some (.int v1.2), some (.int (v3.2 + 1))]) dX11_showings_38 rfl rfl (by decide) rfl ?_
        refine e_goto (tgt := 14) dX11_showings_41 rfl ?_
        exact hB1_2 _ _ h9
      · replace h9 := ifF hc8 h9
        refine e_iinc (v := (v3.1 + 1)) (L' := [some (.ref (ad 11 0)), some (.int (v3.1 + 1)), some (.int v1.2), some (.int v3.2)]) dX11_showings_35 rfl rfl (by decide) rfl ?_
        refine e_iinc (v := (v3.2 + 1)) (L' := [some (.ref (ad 11 0)), some (.int (v3.1 + 1)), some (.int v1.2), some (.int (v3.2 + 1))]) dX11_showings_38 rfl rfl (by decide) rfl ?_
        refine e_goto (tgt := 14) dX11_showings_41 rfl ?_
        exact hB1_2 _ _ h9
noncomputable def f_X11_status (x : VM) (p1 : Int32) : Option (Int32) := if p1 = 0 then some (x.1 1113 0) else if p1 = 1 then some (x.1 1114 0) else if p1 = 2 then some (x.1 202 0) else if p1 = 3 then some (x.1 1115 0) else if p1 = 4 then some (x.1 1116 0) else if p1 = 5 then some (x.1 1117 0) else if p1 = 6 then (f_X11_peopleWho x p1).elim none (fun r8 => some r8) else if p1 = 7 then (f_X11_peopleWho x p1).elim none (fun r10 => some r10) else if p1 = 8 then (f_X11_peopleWho x p1).elim none (fun r12 => some r12) else if p1 = 9 then (f_X11_showings x).elim none (fun r14 => some r14) else if p1 ≤ 10 then some (-1) else if 7 ≤ (p1 - 11) then some (-1) else if inb (p1 - 11) 7 = true then some (x.2.1 1112 0 ((p1 - 11).toNatClampNeg)) else none
theorem c_X11_status {g : GG} {d : Nat} {ad : AD} {x m : VM} {Q : Option Value → VM → VM → Prop} (p1 : Int32) {r9 : Int32} (hf : f_X11_status x p1 = some r9) (hq : Q (some (.int r9)) x m) : CX g (d + 2) MX11_status [.ref (ad 11 0), .int p1] ad x m Q := by
  refine CX.to (Lv := [some (.ref (ad 11 0)), some (.int p1)]) okX11_status (Nat.le_of_ble_eq_true rfl) rfl ?_
  obtain ⟨Φ0, hΦ⟩ : ∃ Φ : Option (Int32) → Prop, Φ = fun o => o = some r9 := ⟨_, rfl⟩
  have hN0 : Φ0 none → False := by rw [hΦ]; intro h; cases h
  have hR0 : ∀ z9, Φ0 (some z9) → Q (some (.int z9)) x m := by rw [hΦ]; intro z9 h; cases h; exact hq
  have h9 : Φ0 (f_X11_status x p1) := by rw [hΦ]; exact hf
  clear hf hq hΦ
  unfold f_X11_status at h9
  refine e_iload_n dX11_status_0 rfl rfl ?_
  by_cases hc1 : p1 = 0
  · replace h9 := ifT hc1 h9
    refine e_tableIn (tgt := 56) dX11_status_1 (by rw [hc1]; decide) (by rw [hc1]; decide) (by rw [hc1]; rfl) rfl ?_
    refine e_aload_n dX11_status_56 rfl rfl ?_
    refine g_1113 flX11_85 dX11_status_57 ?_
    exact x_iret dX11_status_60 rfl (hR0 _ h9)
  replace h9 := ifF hc1 h9
  by_cases hc2 : p1 = 1
  · replace h9 := ifT hc2 h9
    refine e_tableIn (tgt := 61) dX11_status_1 (by rw [hc2]; decide) (by rw [hc2]; decide) (by rw [hc2]; rfl) rfl ?_
    refine e_aload_n dX11_status_61 rfl rfl ?_
    refine g_1114 flX11_89 dX11_status_62 ?_
    exact x_iret dX11_status_65 rfl (hR0 _ h9)
  replace h9 := ifF hc2 h9
  by_cases hc3 : p1 = 2
  · replace h9 := ifT hc3 h9
    refine e_tableIn (tgt := 66) dX11_status_1 (by rw [hc3]; decide) (by rw [hc3]; decide) (by rw [hc3]; rfl) rfl ?_
    refine e_aload_n dX11_status_66 rfl rfl ?_
    refine g_1104 flX11_36 dX11_status_67 ?_
    refine g_202 flX11_198 dX11_status_70 ?_
    exact x_iret dX11_status_73 rfl (hR0 _ h9)
  replace h9 := ifF hc3 h9
  by_cases hc4 : p1 = 3
  · replace h9 := ifT hc4 h9
    refine e_tableIn (tgt := 74) dX11_status_1 (by rw [hc4]; decide) (by rw [hc4]; decide) (by rw [hc4]; rfl) rfl ?_
    refine e_aload_n dX11_status_74 rfl rfl ?_
    refine g_1115 flX11_92 dX11_status_75 ?_
    exact x_iret dX11_status_78 rfl (hR0 _ h9)
  replace h9 := ifF hc4 h9
  by_cases hc5 : p1 = 4
  · replace h9 := ifT hc5 h9
    refine e_tableIn (tgt := 79) dX11_status_1 (by rw [hc5]; decide) (by rw [hc5]; decide) (by rw [hc5]; rfl) rfl ?_
    refine e_aload_n dX11_status_79 rfl rfl ?_
    refine g_1116 flX11_95 dX11_status_80 ?_
    exact x_iret dX11_status_83 rfl (hR0 _ h9)
  replace h9 := ifF hc5 h9
  by_cases hc6 : p1 = 5
  · replace h9 := ifT hc6 h9
    refine e_tableIn (tgt := 84) dX11_status_1 (by rw [hc6]; decide) (by rw [hc6]; decide) (by rw [hc6]; rfl) rfl ?_
    refine e_aload_n dX11_status_84 rfl rfl ?_
    refine g_1117 flX11_98 dX11_status_85 ?_
    exact x_iret dX11_status_88 rfl (hR0 _ h9)
  replace h9 := ifF hc6 h9
  by_cases hc7 : p1 = 6
  · replace h9 := ifT hc7 h9
    refine e_tableIn (tgt := 89) dX11_status_1 (by rw [hc7]; decide) (by rw [hc7]; decide) (by rw [hc7]; rfl) rfl ?_
    refine e_aload_n dX11_status_89 rfl rfl ?_
    refine e_iload_n dX11_status_90 rfl rfl ?_
    obtain ⟨r8, hr8, h9⟩ := elimP hN0 h9
    refine x_callVi (c := 11) (As := [.int p1]) (rest := []) okX11_peopleWho lkX11_421 rfl (by decide) rfl dX11_status_91 rfl rfl (Nat.le_of_ble_eq_true rfl) rfl (c_X11_peopleWho p1 hr8 (CI.mk ?_))
    exact x_iret dX11_status_94 rfl (hR0 _ h9)
  replace h9 := ifF hc7 h9
  by_cases hc9 : p1 = 7
  · replace h9 := ifT hc9 h9
    refine e_tableIn (tgt := 89) dX11_status_1 (by rw [hc9]; decide) (by rw [hc9]; decide) (by rw [hc9]; rfl) rfl ?_
    refine e_aload_n dX11_status_89 rfl rfl ?_
    refine e_iload_n dX11_status_90 rfl rfl ?_
    obtain ⟨r10, hr10, h9⟩ := elimP hN0 h9
    refine x_callVi (c := 11) (As := [.int p1]) (rest := []) okX11_peopleWho lkX11_421 rfl (by decide) rfl dX11_status_91 rfl rfl (Nat.le_of_ble_eq_true rfl) rfl (c_X11_peopleWho p1 hr10 (CI.mk ?_))
    exact x_iret dX11_status_94 rfl (hR0 _ h9)
  replace h9 := ifF hc9 h9
  by_cases hc11 : p1 = 8
  · replace h9 := ifT hc11 h9
    refine e_tableIn (tgt := 89) dX11_status_1 (by rw [hc11]; decide) (by rw [hc11]; decide) (by rw [hc11]; rfl) rfl ?_
    refine e_aload_n dX11_status_89 rfl rfl ?_
    refine e_iload_n dX11_status_90 rfl rfl ?_
    obtain ⟨r12, hr12, h9⟩ := elimP hN0 h9
    refine x_callVi (c := 11) (As := [.int p1]) (rest := []) okX11_peopleWho lkX11_421 rfl (by decide) rfl dX11_status_91 rfl rfl (Nat.le_of_ble_eq_true rfl) rfl (c_X11_peopleWho p1 hr12 (CI.mk ?_))
    exact x_iret dX11_status_94 rfl (hR0 _ h9)
  replace h9 := ifF hc11 h9
  by_cases hc13 : p1 = 9
  · replace h9 := ifT hc13 h9
    refine e_tableIn (tgt := 95) dX11_status_1 (by rw [hc13]; decide) (by rw [hc13]; decide) (by rw [hc13]; rfl) rfl ?_
    refine e_aload_n dX11_status_95 rfl rfl ?_
    obtain ⟨r14, hr14, h9⟩ := elimP hN0 h9
    refine x_callVi (c := 11) (As := []) (rest := []) okX11_showings lkX11_424 rfl (by decide) rfl dX11_status_96 rfl rfl (Nat.le_of_ble_eq_true rfl) rfl (c_X11_showings hr14 (CI.mk ?_))
    exact x_iret dX11_status_99 rfl (hR0 _ h9)
  replace h9 := ifF hc13 h9
  refine e_tableOut (tgt := 100) dX11_status_1 (sw_out10 hc1 hc2 hc3 hc4 hc5 hc6 hc7 hc9 hc11 hc13) rfl ?_
  refine e_iload_n dX11_status_100 rfl rfl ?_
  refine e_bipush (v := 10) dX11_status_101 rfl ?_
  refine e_icmp_le (tgt := 130) dX11_status_103 rfl (fun hc15 => ?_) (fun hc15 => ?_)
  · replace h9 := ifT hc15 h9
    refine e_iconst (v := (-1)) dX11_status_130 rfl ?_
    exact x_iret dX11_status_131 rfl (hR0 _ h9)
  · replace h9 := ifF hc15 h9
    refine e_iload_n dX11_status_106 rfl rfl ?_
    refine e_bipush (v := 11) dX11_status_107 rfl ?_
    refine e_isub dX11_status_109 ?_
    refine e_aload_n dX11_status_110 rfl rfl ?_
    refine g_1112 flX11_82 dX11_status_111 ?_
    refine x_alen (c := 11) (k := 12) (v := 7) rfl ⟨by decide, by decide⟩ rfl dX11_status_114 rfl ?_
    refine e_icmp_ge (tgt := 130) dX11_status_115 rfl (fun hc16 => ?_) (fun hc16 => ?_)
    · replace h9 := ifT hc16 h9
      refine e_iconst (v := (-1)) dX11_status_130 rfl ?_
      exact x_iret dX11_status_131 rfl (hR0 _ h9)
    · replace h9 := ifF hc16 h9
      refine e_aload_n dX11_status_118 rfl rfl ?_
      refine g_1112 flX11_82 dX11_status_119 ?_
      refine e_iload_n dX11_status_122 rfl rfl ?_
      refine e_bipush (v := 11) dX11_status_123 rfl ?_
      refine e_isub dX11_status_125 ?_
      obtain ⟨k17, h9⟩ := chkP hN0 h9
      refine l_1112 dX11_status_126 (inb_in k17) ?_
      refine e_goto (tgt := 131) dX11_status_127 rfl ?_
      exact x_iret dX11_status_131 rfl (hR0 _ h9)
