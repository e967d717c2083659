noncomputable def f_X12_no (m : VM) (p1 : Int32) : Option (Int32 × VM) := if inb (-p1) 8 = true then if inb (-p1) 8 = true then some (p1, setA m 1269 0 (upd (m.2.1 1269 0) ((-p1).toNatClampNeg) ((m.2.1 1269 0 ((-p1).toNatClampNeg)) + 1))) else none else none
theorem c_X12_no {g : GG} {d : Nat} {ad : AD} {x m : VM} {Q : Option Value → VM → VM → Prop} (p1 : Int32) {r9 : Int32} {w9 : VM} (hf : f_X12_no m p1 = some (r9, w9)) (hq : Q (some (.int r9)) x w9) : CX g d MX12_no [.ref (ad 12 0), .int p1] ad x m Q := by
  refine CX.to (Lv := [some (.ref (ad 12 0)), some (.int p1)]) okX12_no (Nat.le_of_ble_eq_true rfl) rfl ?_
  obtain ⟨Φ0, hΦ⟩ : ∃ Φ : Option (Int32 × VM) → Prop, Φ = fun o => o = some (r9, w9) := ⟨_, rfl⟩
  have hN0 : Φ0 none → False := by rw [hΦ]; intro h; cases h
  have hR0 : ∀ z9 y9, Φ0 (some (z9, y9)) → Q (some (.int z9)) x y9 := by rw [hΦ]; intro z9 y9 h; cases h; exact hq
  have h9 : Φ0 (f_X12_no m p1) := by rw [hΦ]; exact hf
  clear hf hq hΦ
  unfold f_X12_no at h9
  refine e_aload_n dX12_no_0 rfl rfl ?_
  refine g_1269 flX12_193 dX12_no_1 ?_
  refine e_iload_n dX12_no_4 rfl rfl ?_
  refine e_ineg dX12_no_5 ?_
  refine e_dup2_11 dX12_no_6 rfl rfl ?_
  obtain ⟨k1, h9⟩ := chkP hN0 h9
  refine l_1269 dX12_no_7 (inb_in k1) ?_
  refine e_iconst (v := 1) dX12_no_8 rfl ?_
  refine e_iadd dX12_no_9 ?_
  refine e_pc (pc' := 10) rfl ?_
  obtain ⟨k2, h9⟩ := chkP hN0 h9
  refine s_1269 dX12_no_10 (inb_in k2) ?_
  refine e_iload_n dX12_no_11 rfl rfl ?_
  exact x_iret dX12_no_12 rfl (hR0 _ _ h9)
noncomputable def f_X12_isOne (m : VM) (p1 : Int32) : Option (Int32) := if p1 < 0 then some 0 else if (m.1 1202 0) ≤ p1 then some 0 else some 1
theorem c_X12_isOne {g : GG} {d : Nat} {ad : AD} {x m : VM} {Q : Option Value → VM → VM → Prop} (p1 : Int32) {r9 : Int32} (hf : f_X12_isOne m p1 = some r9) (hq : Q (some (.int r9)) x m) : CX g d MX12_isOne [.ref (ad 12 0), .int p1] ad x m Q := by
  refine CX.to (Lv := [some (.ref (ad 12 0)), some (.int p1)]) okX12_isOne (Nat.le_of_ble_eq_true rfl) rfl ?_
  obtain ⟨Φ0, hΦ⟩ : ∃ Φ : Option (Int32) → Prop, Φ = fun o => o = some r9 := ⟨_, rfl⟩
  have hN0 : Φ0 none → False := by rw [hΦ]; intro h; cases h
  have hR0 : ∀ z9, Φ0 (some z9) → Q (some (.int z9)) x m := by rw [hΦ]; intro z9 h; cases h; exact hq
  have h9 : Φ0 (f_X12_isOne m p1) := by rw [hΦ]; exact hf
  clear hf hq hΦ
  unfold f_X12_isOne at h9
  refine e_iload_n dX12_isOne_0 rfl rfl ?_
  refine e_if_lt (tgt := 16) dX12_isOne_1 rfl (fun hc1 => ?_) (fun hc1 => ?_)
  · replace h9 := ifT hc1 h9
    refine e_iconst (v := 0) dX12_isOne_16 rfl ?_
    exact x_zret dX12_isOne_17 rfl (by decide) (hR0 _ h9)
  · replace h9 := ifF hc1 h9
    refine e_iload_n dX12_isOne_4 rfl rfl ?_
    refine e_aload_n dX12_isOne_5 rfl rfl ?_
    refine g_1202 flX12_247 dX12_isOne_6 ?_
    refine e_icmp_ge (tgt := 16) dX12_isOne_9 rfl (fun hc2 => ?_) (fun hc2 => ?_)
    · replace h9 := ifT hc2 h9
      refine e_iconst (v := 0) dX12_isOne_16 rfl ?_
      exact x_zret dX12_isOne_17 rfl (by decide) (hR0 _ h9)
    · replace h9 := ifF hc2 h9
      refine e_iconst (v := 1) dX12_isOne_12 rfl ?_
      refine e_goto (tgt := 17) dX12_isOne_13 rfl ?_
      exact x_zret dX12_isOne_17 rfl (by decide) (hR0 _ h9)
noncomputable def f_X12_isPicture (m : VM) (p1 : Int32) : Option (Int32) := if p1 < 0 then some 0 else if (m.1 1204 0) ≤ p1 then some 0 else some 1
theorem c_X12_isPicture {g : GG} {d : Nat} {ad : AD} {x m : VM} {Q : Option Value → VM → VM → Prop} (p1 : Int32) {r9 : Int32} (hf : f_X12_isPicture m p1 = some r9) (hq : Q (some (.int r9)) x m) : CX g d MX12_isPicture [.ref (ad 12 0), .int p1] ad x m Q := by
  refine CX.to (Lv := [some (.ref (ad 12 0)), some (.int p1)]) okX12_isPicture (Nat.le_of_ble_eq_true rfl) rfl ?_
  obtain ⟨Φ0, hΦ⟩ : ∃ Φ : Option (Int32) → Prop, Φ = fun o => o = some r9 := ⟨_, rfl⟩
  have hN0 : Φ0 none → False := by rw [hΦ]; intro h; cases h
  have hR0 : ∀ z9, Φ0 (some z9) → Q (some (.int z9)) x m := by rw [hΦ]; intro z9 h; cases h; exact hq
  have h9 : Φ0 (f_X12_isPicture m p1) := by rw [hΦ]; exact hf
  clear hf hq hΦ
  unfold f_X12_isPicture at h9
  refine e_iload_n dX12_isPicture_0 rfl rfl ?_
  refine e_if_lt (tgt := 16) dX12_isPicture_1 rfl (fun hc1 => ?_) (fun hc1 => ?_)
  · replace h9 := ifT hc1 h9
    refine e_iconst (v := 0) dX12_isPicture_16 rfl ?_
    exact x_zret dX12_isPicture_17 rfl (by decide) (hR0 _ h9)
  · replace h9 := ifF hc1 h9
    refine e_iload_n dX12_isPicture_4 rfl rfl ?_
    refine e_aload_n dX12_isPicture_5 rfl rfl ?_
    refine g_1204 flX12_250 dX12_isPicture_6 ?_
    refine e_icmp_ge (tgt := 16) dX12_isPicture_9 rfl (fun hc2 => ?_) (fun hc2 => ?_)
    · replace h9 := ifT hc2 h9
      refine e_iconst (v := 0) dX12_isPicture_16 rfl ?_
      exact x_zret dX12_isPicture_17 rfl (by decide) (hR0 _ h9)
    · replace h9 := ifF hc2 h9
      refine e_iconst (v := 1) dX12_isPicture_12 rfl ?_
      refine e_goto (tgt := 17) dX12_isPicture_13 rfl ?_
      exact x_zret dX12_isPicture_17 rfl (by decide) (hR0 _ h9)
noncomputable def f_X12_isScene (m : VM) (p1 : Int32) (p2 : Int32) : Option (Int32) := (f_X12_isPicture m p1).elim none (fun r1 => if r1 = 0 then some 0 else if p2 < 0 then some 0 else if inb p1 8 = true then if (m.2.1 1235 0 p1.toNatClampNeg) ≤ p2 then some 0 else some 1 else none)
theorem c_X12_isScene {g : GG} {d : Nat} {ad : AD} {x m : VM} {Q : Option Value → VM → VM → Prop} (p1 : Int32) (p2 : Int32) {r9 : Int32} (hf : f_X12_isScene m p1 p2 = some r9) (hq : Q (some (.int r9)) x m) : CX g (d + 1) MX12_isScene [.ref (ad 12 0), .int p1, .int p2] ad x m Q := by
  refine CX.to (Lv := [some (.ref (ad 12 0)), some (.int p1), some (.int p2)]) okX12_isScene (Nat.le_of_ble_eq_true rfl) rfl ?_
  obtain ⟨Φ0, hΦ⟩ : ∃ Φ : Option (Int32) → Prop, Φ = fun o => o = some r9 := ⟨_, rfl⟩
  have hN0 : Φ0 none → False := by rw [hΦ]; intro h; cases h
  have hR0 : ∀ z9, Φ0 (some z9) → Q (some (.int z9)) x m := by rw [hΦ]; intro z9 h; cases h; exact hq
  have h9 : Φ0 (f_X12_isScene m p1 p2) := by rw [hΦ]; exact hf
  clear hf hq hΦ
  unfold f_X12_isScene at h9
  refine e_aload_n dX12_isScene_0 rfl rfl ?_
  refine e_iload_n dX12_isScene_1 rfl rfl ?_
  obtain ⟨r1, hr1, h9⟩ := elimP hN0 h9
  refine x_callVi (c := 12) (As := [.int p1]) (rest := []) okX12_isPicture lkX12_253 rfl (by decide) rfl dX12_isScene_2 rfl rfl (Nat.le_of_ble_eq_true rfl) rfl (c_X12_isPicture p1 hr1 (CI.mk ?_))
  refine e_if_eq (tgt := 26) dX12_isScene_5 rfl (fun hc2 => ?_) (fun hc2 => ?_)
  · replace h9 := ifT hc2 h9
    refine e_iconst (v := 0) dX12_isScene_26 rfl ?_
    exact x_zret dX12_isScene_27 rfl (by decide) (hR0 _ h9)
  · replace h9 := ifF hc2 h9
    refine e_iload_n dX12_isScene_8 rfl rfl ?_
    refine e_if_lt (tgt := 26) dX12_isScene_9 rfl (fun hc3 => ?_) (fun hc3 => ?_)
    · replace h9 := ifT hc3 h9
      refine e_iconst (v := 0) dX12_isScene_26 rfl ?_
      exact x_zret dX12_isScene_27 rfl (by decide) (hR0 _ h9)
    · replace h9 := ifF hc3 h9
      refine e_iload_n dX12_isScene_12 rfl rfl ?_
      refine e_aload_n dX12_isScene_13 rfl rfl ?_
      refine g_1235 flX12_91 dX12_isScene_14 ?_
      refine e_iload_n dX12_isScene_17 rfl rfl ?_
      obtain ⟨k4, h9⟩ := chkP hN0 h9
      refine l_1235 dX12_isScene_18 (inb_in k4) ?_
      refine e_icmp_ge (tgt := 26) dX12_isScene_19 rfl (fun hc5 => ?_) (fun hc5 => ?_)
      · replace h9 := ifT hc5 h9
        refine e_iconst (v := 0) dX12_isScene_26 rfl ?_
        exact x_zret dX12_isScene_27 rfl (by decide) (hR0 _ h9)
      · replace h9 := ifF hc5 h9
        refine e_iconst (v := 1) dX12_isScene_22 rfl ?_
        refine e_goto (tgt := 27) dX12_isScene_23 rfl ?_
        exact x_zret dX12_isScene_27 rfl (by decide) (hR0 _ h9)
noncomputable def f_X12_isHall (m : VM) (p1 : Int32) : Option (Int32) := if p1 < 0 then some 0 else if (m.1 1205 0) ≤ p1 then some 0 else some 1
theorem c_X12_isHall {g : GG} {d : Nat} {ad : AD} {x m : VM} {Q : Option Value → VM → VM → Prop} (p1 : Int32) {r9 : Int32} (hf : f_X12_isHall m p1 = some r9) (hq : Q (some (.int r9)) x m) : CX g d MX12_isHall [.ref (ad 12 0), .int p1] ad x m Q := by
  refine CX.to (Lv := [some (.ref (ad 12 0)), some (.int p1)]) okX12_isHall (Nat.le_of_ble_eq_true rfl) rfl ?_
  obtain ⟨Φ0, hΦ⟩ : ∃ Φ : Option (Int32) → Prop, Φ = fun o => o = some r9 := ⟨_, rfl⟩
  have hN0 : Φ0 none → False := by rw [hΦ]; intro h; cases h
  have hR0 : ∀ z9, Φ0 (some z9) → Q (some (.int z9)) x m := by rw [hΦ]; intro z9 h; cases h; exact hq
  have h9 : Φ0 (f_X12_isHall m p1) := by rw [hΦ]; exact hf
  clear hf hq hΦ
  unfold f_X12_isHall at h9
  refine e_iload_n dX12_isHall_0 rfl rfl ?_
  refine e_if_lt (tgt := 16) dX12_isHall_1 rfl (fun hc1 => ?_) (fun hc1 => ?_)
  · replace h9 := ifT hc1 h9
    refine e_iconst (v := 0) dX12_isHall_16 rfl ?_
    exact x_zret dX12_isHall_17 rfl (by decide) (hR0 _ h9)
  · replace h9 := ifF hc1 h9
    refine e_iload_n dX12_isHall_4 rfl rfl ?_
    refine e_aload_n dX12_isHall_5 rfl rfl ?_
    refine g_1205 flX12_257 dX12_isHall_6 ?_
    refine e_icmp_ge (tgt := 16) dX12_isHall_9 rfl (fun hc2 => ?_) (fun hc2 => ?_)
    · replace h9 := ifT hc2 h9
      refine e_iconst (v := 0) dX12_isHall_16 rfl ?_
      exact x_zret dX12_isHall_17 rfl (by decide) (hR0 _ h9)
    · replace h9 := ifF hc2 h9
      refine e_iconst (v := 1) dX12_isHall_12 rfl ?_
      refine e_goto (tgt := 17) dX12_isHall_13 rfl ?_
      exact x_zret dX12_isHall_17 rfl (by decide) (hR0 _ h9)
noncomputable def f_X12_isShelf (m : VM) (p1 : Int32) : Option (Int32) := if p1 < 0 then some 0 else if 8 ≤ p1 then some 0 else some 1
theorem c_X12_isShelf {g : GG} {d : Nat} {ad : AD} {x m : VM} {Q : Option Value → VM → VM → Prop} (p1 : Int32) {r9 : Int32} (hf : f_X12_isShelf m p1 = some r9) (hq : Q (some (.int r9)) x m) : CX g d MX12_isShelf [.int p1] ad x m Q := by
  refine CX.to (Lv := [some (.int p1)]) okX12_isShelf (Nat.le_of_ble_eq_true rfl) rfl ?_
  obtain ⟨Φ0, hΦ⟩ : ∃ Φ : Option (Int32) → Prop, Φ = fun o => o = some r9 := ⟨_, rfl⟩
  have hN0 : Φ0 none → False := by rw [hΦ]; intro h; cases h
  have hR0 : ∀ z9, Φ0 (some z9) → Q (some (.int z9)) x m := by rw [hΦ]; intro z9 h; cases h; exact hq
  have h9 : Φ0 (f_X12_isShelf m p1) := by rw [hΦ]; exact hf
  clear hf hq hΦ
  unfold f_X12_isShelf at h9
  refine e_iload_n dX12_isShelf_0 rfl rfl ?_
  refine e_if_lt (tgt := 14) dX12_isShelf_1 rfl (fun hc1 => ?_) (fun hc1 => ?_)
  · replace h9 := ifT hc1 h9
    refine e_iconst (v := 0) dX12_isShelf_14 rfl ?_
    exact x_zret dX12_isShelf_15 rfl (by decide) (hR0 _ h9)
  · replace h9 := ifF hc1 h9
    refine e_iload_n dX12_isShelf_4 rfl rfl ?_
    refine e_bipush (v := 8) dX12_isShelf_5 rfl ?_
    refine e_icmp_ge (tgt := 14) dX12_isShelf_7 rfl (fun hc2 => ?_) (fun hc2 => ?_)
    · replace h9 := ifT hc2 h9
      refine e_iconst (v := 0) dX12_isShelf_14 rfl ?_
      exact x_zret dX12_isShelf_15 rfl (by decide) (hR0 _ h9)
    · replace h9 := ifF hc2 h9
      refine e_iconst (v := 1) dX12_isShelf_10 rfl ?_
      refine e_goto (tgt := 15) dX12_isShelf_11 rfl ?_
      exact x_zret dX12_isShelf_15 rfl (by decide) (hR0 _ h9)
noncomputable def b_X12_row_77 (m : VM) (p1 : Int32) (p2 : Int32) (p3 : Int32) (v13 : Int32 × VM) : (Int32 × VM) ⊕ (Option (Int32 × VM)) := if 60 ≤ v13.1 then Sum.inr (some (1, v13.2)) else if inb ((60 * p1) + v13.1) 480 = true then Sum.inl (v13.1 + 1, setJ v13.2 1215 0 (vp_updL (v13.2.2.2.1 1215 0) (((60 * p1) + v13.1).toNatClampNeg) 0)) else Sum.inr none
noncomputable def f_X12_row (m : VM) (p1 : Int32) (p2 : Int32) (p3 : Int32) : Option (Int32 × VM) := (f_X12_isShelf m p1).elim none (fun r1 => if r1 = 0 then (f_X12_no m (-1)).elim none (fun r25p => some (r25p.1, r25p.2)) else if 0 ≤ p3 then if p2 < 0 then (f_X12_no m (-6)).elim none (fun r5p => some (r5p.1, r5p.2)) else if p2 ≤ 3 then if p3 ≤ 60 then if inb p1 8 = true then if inb p1 8 = true then if inb p1 8 = true then loopF none (b_X12_row_77 m p1 p2 p3) (0, setA (setA (setA m 1211 0 (upd (m.2.1 1211 0) p1.toNatClampNeg 1)) 1212 0 (upd ((setA m 1211 0 (upd (m.2.1 1211 0) p1.toNatClampNeg 1)).2.1 1212 0) p1.toNatClampNeg p2)) 1213 0 (upd ((setA (setA m 1211 0 (upd (m.2.1 1211 0) p1.toNatClampNeg 1)) 1212 0 (upd ((setA m 1211 0 (upd (m.2.1 1211 0) p1.toNatClampNeg 1)).2.1 1212 0) p1.toNatClampNeg p2)).2.1 1213 0) p1.toNatClampNeg p3)) else none else none else none else (f_X12_no m (-7)).elim none (fun r16p => some (r16p.1, r16p.2)) else (f_X12_no m (-6)).elim none (fun r19p => some (r19p.1, r19p.2)) else (f_X12_no m (-4)).elim none (fun r22p => some (r22p.1, r22p.2)))
theorem c_X12_row {g : GG} {d : Nat} {ad : AD} {x m : VM} {Q : Option Value → VM → VM → Prop} (p1 : Int32) (p2 : Int32) (p3 : Int32) {r9 : Int32} {w9 : VM} (hf : f_X12_row m p1 p2 p3 = some (r9, w9)) (hq : Q (some (.int r9)) x w9) : CX g (d + 1) MX12_row [.ref (ad 12 0), .int p1, .int p2, .int p3] ad x m Q := by
  refine CX.to (Lv := [some (.ref (ad 12 0)), some (.int p1), some (.int p2), some (.int p3), none]) okX12_row (Nat.le_of_ble_eq_true rfl) rfl ?_
  obtain ⟨Φ0, hΦ⟩ : ∃ Φ : Option (Int32 × VM) → Prop, Φ = fun o => o = some (r9, w9) := ⟨_, rfl⟩
  have hN0 : Φ0 none → False := by rw [hΦ]; intro h; cases h
  have hR0 : ∀ z9 y9, Φ0 (some (z9, y9)) → Q (some (.int z9)) x y9 := by rw [hΦ]; intro z9 y9 h; cases h; exact hq
  have h9 : Φ0 (f_X12_row m p1 p2 p3) := by rw [hΦ]; exact hf
  clear hf hq hΦ
  unfold f_X12_row at h9
  refine e_iload_n dX12_row_0 rfl rfl ?_
  obtain ⟨r1, hr1, h9⟩ := elimP hN0 h9
  refine x_callSi (As := [.int p1]) (rest := []) okX12_isShelf lkX12_260 dX12_row_1 rfl rfl (Nat.le_of_ble_eq_true rfl) (c_X12_isShelf p1 hr1 (CI.mk ?_))
  refine e_if_ne (tgt := 13) dX12_row_4 rfl (fun hc2 => ?_) (fun hc2 => ?_)
  · replace h9 := ifF hc2 h9
    refine e_iload_n dX12_row_13 rfl rfl ?_
    refine e_if_ge (tgt := 24) dX12_row_14 rfl (fun hc3 => ?_) (fun hc3 => ?_)
    · replace h9 := ifT hc3 h9
      refine e_iload_n dX12_row_24 rfl rfl ?_
      refine e_if_lt (tgt := 33) dX12_row_25 rfl (fun hc4 => ?_) (fun hc4 => ?_)
      · replace h9 := ifT hc4 h9
        refine e_aload_n dX12_row_33 rfl rfl ?_
        refine e_bipush (v := (-6)) dX12_row_34 rfl ?_
        obtain ⟨⟨r5, w6⟩, hr5, h9⟩ := elimP hN0 h9
        refine x_callVi (c := 12) (As := [.int (-6)]) (rest := []) okX12_no lkX12_263 rfl (by decide) rfl dX12_row_36 rfl rfl (Nat.le_of_ble_eq_true rfl) rfl (c_X12_no (-6) hr5 (CI.mk ?_))
        exact x_iret dX12_row_39 rfl (hR0 _ _ h9)
      · replace h9 := ifF hc4 h9
        refine e_iload_n dX12_row_28 rfl rfl ?_
        refine e_iconst (v := 3) dX12_row_29 rfl ?_
        refine e_icmp_le (tgt := 40) dX12_row_30 rfl (fun hc8 => ?_) (fun hc8 => ?_)
        · replace h9 := ifT hc8 h9
          refine e_iload_n dX12_row_40 rfl rfl ?_
          refine e_bipush (v := 60) dX12_row_41 rfl ?_
          refine e_icmp_le (tgt := 53) dX12_row_43 rfl (fun hc9 => ?_) (fun hc9 => ?_)
          · replace h9 := ifT hc9 h9
            refine e_aload_n dX12_row_53 rfl rfl ?_
            refine g_1211 flX12_16 dX12_row_54 ?_
            refine e_iload_n dX12_row_57 rfl rfl ?_
            refine e_iconst (v := 1) dX12_row_58 rfl ?_
            obtain ⟨k10, h9⟩ := chkP hN0 h9
            refine s_1211 dX12_row_59 (inb_in k10) ?_
            refine e_aload_n dX12_row_60 rfl rfl ?_
            refine g_1212 flX12_20 dX12_row_61 ?_
            refine e_iload_n dX12_row_64 rfl rfl ?_
            refine e_pc (pc' := 65) rfl ?_
            refine e_iload_n dX12_row_65 rfl rfl ?_
            obtain ⟨k11, h9⟩ := chkP hN0 h9
            refine s_1212 dX12_row_66 (inb_in k11) ?_
            refine e_aload_n dX12_row_67 rfl rfl ?_
            refine g_1213 flX12_23 dX12_row_68 ?_
            refine e_iload_n dX12_row_71 rfl rfl ?_
            refine e_iload_n dX12_row_72 rfl rfl ?_
            obtain ⟨k12, h9⟩ := chkP hN0 h9
            refine s_1213 dX12_row_73 (inb_in k12) ?_
            refine e_iconst (v := 0) dX12_row_74 rfl ?_
            refine e_istore (L' := [some (.ref (ad 12 0)), some (.int p1), some (.int p2), some (.int p3), some (.int 0)]) dX12_row_75 (by decide) rfl ?_
            refine e_wk (L' := [some (.ref (ad 12 0)), some (.int p1), none, none, some (.int 0)]) (wkC (wkC (wkN (wkN (wkC wk0))))) ?_
            refine loop_gen (b_X12_row_77 m p1 p2 p3) none (fun v13 => EX g (d + 1) MX12_row ad x v13.2 77 [some (.ref (ad 12 0)), some (.int p1), none, none, some (.int v13.1)] [] Q) Φ0 hN0 (fun v13 Φ1 hB0_1 hO1 h9 => ?_) (0, setA (setA (setA m 1211 0 (upd (m.2.1 1211 0) p1.toNatClampNeg 1)) 1212 0 (upd ((setA m 1211 0 (upd (m.2.1 1211 0) p1.toNatClampNeg 1)).2.1 1212 0) p1.toNatClampNeg p2)) 1213 0 (upd ((setA (setA m 1211 0 (upd (m.2.1 1211 0) p1.toNatClampNeg 1)) 1212 0 (upd ((setA m 1211 0 (upd (m.2.1 1211 0) p1.toNatClampNeg 1)).2.1 1212 0) p1.toNatClampNeg p2)).2.1 1213 0) p1.toNatClampNeg p3)) h9
            have hN1 := fun h => hN0 (hO1 _ h)
            have hR1 := fun r9 x9 h => hR0 r9 x9 (hO1 _ h)
            have hB0_1 : ∀ (z0 : Int32) (z1 : VM), Φ1 (Sum.inl (z0, z1)) → EX g (d + 1) MX12_row ad x z1 77 [some (.ref (ad 12 0)), some (.int p1), none, none, some (.int z0)] [] Q := fun z0 z1 h => hB0_1 (z0, z1) h
            unfold b_X12_row_77 at h9
            refine e_iload dX12_row_77 rfl ?_
            refine e_bipush (v := 60) dX12_row_79 rfl ?_
            refine e_icmp_ge (tgt := 103) dX12_row_81 rfl (fun hc14 => ?_) (fun hc14 => ?_)
            · replace h9 := ifT hc14 h9
              refine e_iconst (v := 1) dX12_row_103 rfl ?_
              exact x_iret dX12_row_104 rfl (hR1 _ _ h9)
            · replace h9 := ifF hc14 h9
              refine e_aload_n dX12_row_84 rfl rfl ?_
              refine g_1215 flX12_29 dX12_row_85 ?_
              refine e_bipush (v := 60) dX12_row_88 rfl ?_
              refine e_iload_n dX12_row_90 rfl rfl ?_
              refine e_imul dX12_row_91 ?_
              refine e_iload dX12_row_92 rfl ?_
              refine e_iadd dX12_row_94 ?_
              refine e_lconst (v := 0) dX12_row_95 rfl ?_
              refine e_pc (pc' := 96) rfl ?_
              obtain ⟨k15, h9⟩ := chkP hN1 h9
              refine s_1215 dX12_row_96 (inb_in k15) ?_
              refine e_iinc (v := (v13.1 + 1)) (L' := [some (.ref (ad 12 0)), some (.int p1), none, none, some (.int (v13.1 + 1))]) dX12_row_97 rfl rfl (by decide) rfl ?_
              refine e_goto (tgt := 77) dX12_row_100 rfl ?_
              exact hB0_1 _ _ h9
          · replace h9 := ifF hc9 h9
            refine e_aload_n dX12_row_46 rfl rfl ?_
            refine e_bipush (v := (-7)) dX12_row_47 rfl ?_
            obtain ⟨⟨r16, w17⟩, hr16, h9⟩ := elimP hN0 h9
            refine x_callVi (c := 12) (As := [.int (-7)]) (rest := []) okX12_no lkX12_263 rfl (by decide) rfl dX12_row_49 rfl rfl (Nat.le_of_ble_eq_true rfl) rfl (c_X12_no (-7) hr16 (CI.mk ?_))
            exact x_iret dX12_row_52 rfl (hR0 _ _ h9)
        · replace h9 := ifF hc8 h9
          refine e_aload_n dX12_row_33 rfl rfl ?_
          refine e_bipush (v := (-6)) dX12_row_34 rfl ?_
          obtain ⟨⟨r19, w20⟩, hr19, h9⟩ := elimP hN0 h9
          refine x_callVi (c := 12) (As := [.int (-6)]) (rest := []) okX12_no lkX12_263 rfl (by decide) rfl dX12_row_36 rfl rfl (Nat.le_of_ble_eq_true rfl) rfl (c_X12_no (-6) hr19 (CI.mk ?_))
          exact x_iret dX12_row_39 rfl (hR0 _ _ h9)
    · replace h9 := ifF hc3 h9
      refine e_aload_n dX12_row_17 rfl rfl ?_
      refine e_bipush (v := (-4)) dX12_row_18 rfl ?_
      obtain ⟨⟨r22, w23⟩, hr22, h9⟩ := elimP hN0 h9
      refine x_callVi (c := 12) (As := [.int (-4)]) (rest := []) okX12_no lkX12_263 rfl (by decide) rfl dX12_row_20 rfl rfl (Nat.le_of_ble_eq_true rfl) rfl (c_X12_no (-4) hr22 (CI.mk ?_))
      exact x_iret dX12_row_23 rfl (hR0 _ _ h9)
  · replace h9 := ifT hc2 h9
    refine e_aload_n dX12_row_7 rfl rfl ?_
    refine e_iconst (v := (-1)) dX12_row_8 rfl ?_
    obtain ⟨⟨r25, w26⟩, hr25, h9⟩ := elimP hN0 h9
    refine x_callVi (c := 12) (As := [.int (-1)]) (rest := []) okX12_no lkX12_263 rfl (by decide) rfl dX12_row_9 rfl rfl (Nat.le_of_ble_eq_true rfl) rfl (c_X12_no (-1) hr25 (CI.mk ?_))
    exact x_iret dX12_row_12 rfl (hR0 _ _ h9)
noncomputable def f_X12_set (m : VM) (p1 : Int32) (p2 : Int32) (p3 : Int64) : Option (Int32 × VM) := (f_X12_isShelf m p1).elim none (fun r1 => if r1 = 0 then (f_X12_no m (-1)).elim none (fun r32p => some (r32p.1, r32p.2)) else if inb p1 8 = true then if (m.2.1 1211 0 p1.toNatClampNeg) = 2 then (f_X12_no m (-2)).elim none (fun r29p => some (r29p.1, r29p.2)) else if inb p1 8 = true then if (m.2.1 1211 0 p1.toNatClampNeg) = 0 then (f_X12_no m (-3)).elim none (fun r26p => some (r26p.1, r26p.2)) else if p2 < 0 then (f_X12_no m (-5)).elim none (fun r8p => some (r8p.1, r8p.2)) else if inb p1 8 = true then if p2 < (m.2.1 1213 0 p1.toNatClampNeg) then if inb p1 8 = true then if (m.2.1 1212 0 p1.toNatClampNeg) = 0 then if inb ((60 * p1) + p2) 480 = true then some (1, setJ m 1215 0 (vp_updL (m.2.2.1 1215 0) (((60 * p1) + p2).toNatClampNeg) p3.toInt32.toInt8.toInt32.toInt64)) else none else if inb p1 8 = true then if (m.2.1 1212 0 p1.toNatClampNeg) = 1 then if inb ((60 * p1) + p2) 480 = true then some (1, setJ m 1215 0 (vp_updL (m.2.2.1 1215 0) (((60 * p1) + p2).toNatClampNeg) p3.toInt32.toInt16.toInt32.toInt64)) else none else if inb p1 8 = true then if (m.2.1 1212 0 p1.toNatClampNeg) = 2 then if inb ((60 * p1) + p2) 480 = true then some (1, setJ m 1215 0 (vp_updL (m.2.2.1 1215 0) (((60 * p1) + p2).toNatClampNeg) p3.toInt32.toInt64)) else none else if inb ((60 * p1) + p2) 480 = true then some (1, setJ m 1215 0 (vp_updL (m.2.2.1 1215 0) (((60 * p1) + p2).toNatClampNeg) p3)) else none else none else none else none else (f_X12_no m (-5)).elim none (fun r23p => some (r23p.1, r23p.2)) else none else none else none)
theorem c_X12_set {g : GG} {d : Nat} {ad : AD} {x m : VM} {Q : Option Value → VM → VM → Prop} (p1 : Int32) (p2 : Int32) (p3 : Int64) {r9 : Int32} {w9 : VM} (hf : f_X12_set m p1 p2 p3 = some (r9, w9)) (hq : Q (some (.int r9)) x w9) : CX g (d + 1) MX12_set [.ref (ad 12 0), .int p1, .int p2, .long p3] ad x m Q := by
  refine CX.to (Lv := [some (.ref (ad 12 0)), some (.int p1), some (.int p2), some (.long p3), none]) okX12_set (Nat.le_of_ble_eq_true rfl) rfl ?_
  obtain ⟨Φ0, hΦ⟩ : ∃ Φ : Option (Int32 × VM) → Prop, Φ = fun o => o = some (r9, w9) := ⟨_, rfl⟩
  have hN0 : Φ0 none → False := by rw [hΦ]; intro h; cases h
  have hR0 : ∀ z9 y9, Φ0 (some (z9, y9)) → Q (some (.int z9)) x y9 := by rw [hΦ]; intro z9 y9 h; cases h; exact hq
  have h9 : Φ0 (f_X12_set m p1 p2 p3) := by rw [hΦ]; exact hf
  clear hf hq hΦ
  unfold f_X12_set at h9
  refine e_iload_n dX12_set_0 rfl rfl ?_
  obtain ⟨r1, hr1, h9⟩ := elimP hN0 h9
  refine x_callSi (As := [.int p1]) (rest := []) okX12_isShelf lkX12_260 dX12_set_1 rfl rfl (Nat.le_of_ble_eq_true rfl) (c_X12_isShelf p1 hr1 (CI.mk ?_))
  refine e_if_ne (tgt := 13) dX12_set_4 rfl (fun hc2 => ?_) (fun hc2 => ?_)
  · replace h9 := ifF hc2 h9
    refine e_aload_n dX12_set_13 rfl rfl ?_
    refine g_1211 flX12_16 dX12_set_14 ?_
    refine e_iload_n dX12_set_17 rfl rfl ?_
    obtain ⟨k3, h9⟩ := chkP hN0 h9
    refine l_1211 dX12_set_18 (inb_in k3) ?_
    refine e_iconst (v := 2) dX12_set_19 rfl ?_
    refine e_icmp_ne (tgt := 30) dX12_set_20 rfl (fun hc4 => ?_) (fun hc4 => ?_)
    · replace h9 := ifF hc4 h9
      refine e_aload_n dX12_set_30 rfl rfl ?_
      refine g_1211 flX12_16 dX12_set_31 ?_
      refine e_iload_n dX12_set_34 rfl rfl ?_
      obtain ⟨k5, h9⟩ := chkP hN0 h9
      refine l_1211 dX12_set_35 (inb_in k5) ?_
      refine e_if_ne (tgt := 46) dX12_set_36 rfl (fun hc6 => ?_) (fun hc6 => ?_)
      · replace h9 := ifF hc6 h9
        refine e_iload_n dX12_set_46 rfl rfl ?_
        refine e_if_lt (tgt := 60) dX12_set_47 rfl (fun hc7 => ?_) (fun hc7 => ?_)
        · replace h9 := ifT hc7 h9
          refine e_aload_n dX12_set_60 rfl rfl ?_
          refine e_bipush (v := (-5)) dX12_set_61 rfl ?_
          obtain ⟨⟨r8, w9⟩, hr8, h9⟩ := elimP hN0 h9
          refine x_callVi (c := 12) (As := [.int (-5)]) (rest := []) okX12_no lkX12_263 rfl (by decide) rfl dX12_set_63 rfl rfl (Nat.le_of_ble_eq_true rfl) rfl (c_X12_no (-5) hr8 (CI.mk ?_))
          exact x_iret dX12_set_66 rfl (hR0 _ _ h9)
        · replace h9 := ifF hc7 h9
          refine e_iload_n dX12_set_50 rfl rfl ?_
          refine e_aload_n dX12_set_51 rfl rfl ?_
          refine g_1213 flX12_23 dX12_set_52 ?_
          refine e_iload_n dX12_set_55 rfl rfl ?_
          obtain ⟨k11, h9⟩ := chkP hN0 h9
          refine l_1213 dX12_set_56 (inb_in k11) ?_
          refine e_icmp_lt (tgt := 67) dX12_set_57 rfl (fun hc12 => ?_) (fun hc12 => ?_)
          · replace h9 := ifT hc12 h9
            refine e_aload_n dX12_set_67 rfl rfl ?_
            refine g_1215 flX12_29 dX12_set_68 ?_
            refine e_bipush (v := 60) dX12_set_71 rfl ?_
            refine e_iload_n dX12_set_73 rfl rfl ?_
            refine e_imul dX12_set_74 ?_
            refine e_iload_n dX12_set_75 rfl rfl ?_
            refine e_iadd dX12_set_76 ?_
            refine e_aload_n dX12_set_77 rfl rfl ?_
            refine e_pc (pc' := 78) rfl ?_
            refine g_1212 flX12_20 dX12_set_78 ?_
            refine e_iload_n dX12_set_81 rfl rfl ?_
            obtain ⟨k13, h9⟩ := chkP hN0 h9
            refine l_1212 dX12_set_82 (inb_in k13) ?_
            refine e_if_ne (tgt := 93) dX12_set_83 rfl (fun hc14 => ?_) (fun hc14 => ?_)
            · replace h9 := ifF hc14 h9
              refine e_aload_n dX12_set_93 rfl rfl ?_
              refine g_1212 flX12_20 dX12_set_94 ?_
              refine e_iload_n dX12_set_97 rfl rfl ?_
              obtain ⟨k15, h9⟩ := chkP hN0 h9
              refine l_1212 dX12_set_98 (inb_in k15) ?_
              refine e_iconst (v := 1) dX12_set_99 rfl ?_
              refine e_icmp_ne (tgt := 110) dX12_set_100 rfl (fun hc16 => ?_) (fun hc16 => ?_)
              · replace h9 := ifF hc16 h9
                refine e_aload_n dX12_set_110 rfl rfl ?_
                refine g_1212 flX12_20 dX12_set_111 ?_
                refine e_iload_n dX12_set_114 rfl rfl ?_
                obtain ⟨k17, h9⟩ := chkP hN0 h9
                refine l_1212 dX12_set_115 (inb_in k17) ?_
                refine e_iconst (v := 2) dX12_set_116 rfl ?_
                refine e_icmp_ne (tgt := 126) dX12_set_117 rfl (fun hc18 => ?_) (fun hc18 => ?_)
                · replace h9 := ifF hc18 h9
                  refine e_lload_n dX12_set_126 rfl rfl ?_
                  obtain ⟨k19, h9⟩ := chkP hN0 h9
                  refine s_1215 dX12_set_127 (inb_in k19) ?_
                  refine e_iconst (v := 1) dX12_set_128 rfl ?_
                  exact x_iret dX12_set_129 rfl (hR0 _ _ h9)
                · replace h9 := ifT hc18 h9
                  refine e_lload_n dX12_set_120 rfl rfl ?_
                  refine e_l2i dX12_set_121 rfl ?_
                  refine e_i2l dX12_set_122 rfl ?_
                  refine e_goto (tgt := 127) dX12_set_123 rfl ?_
                  obtain ⟨k20, h9⟩ := chkP hN0 h9
                  refine s_1215 dX12_set_127 (inb_in k20) ?_
                  refine e_iconst (v := 1) dX12_set_128 rfl ?_
                  exact x_iret dX12_set_129 rfl (hR0 _ _ h9)
              · replace h9 := ifT hc16 h9
                refine e_lload_n dX12_set_103 rfl rfl ?_
                refine e_l2i dX12_set_104 rfl ?_
                refine e_i2s dX12_set_105 rfl ?_
                refine e_i2l dX12_set_106 rfl ?_
                refine e_goto (tgt := 127) dX12_set_107 rfl ?_
                obtain ⟨k21, h9⟩ := chkP hN0 h9
                refine s_1215 dX12_set_127 (inb_in k21) ?_
                refine e_iconst (v := 1) dX12_set_128 rfl ?_
                exact x_iret dX12_set_129 rfl (hR0 _ _ h9)
            · replace h9 := ifT hc14 h9
              refine e_lload_n dX12_set_86 rfl rfl ?_
              refine e_l2i dX12_set_87 rfl ?_
              refine e_i2b dX12_set_88 rfl ?_
              refine e_i2l dX12_set_89 rfl ?_
              refine e_goto (tgt := 127) dX12_set_90 rfl ?_
              obtain ⟨k22, h9⟩ := chkP hN0 h9
              refine s_1215 dX12_set_127 (inb_in k22) ?_
              refine e_iconst (v := 1) dX12_set_128 rfl ?_
              exact x_iret dX12_set_129 rfl (hR0 _ _ h9)
          · replace h9 := ifF hc12 h9
            refine e_aload_n dX12_set_60 rfl rfl ?_
            refine e_bipush (v := (-5)) dX12_set_61 rfl ?_
            obtain ⟨⟨r23, w24⟩, hr23, h9⟩ := elimP hN0 h9
            refine x_callVi (c := 12) (As := [.int (-5)]) (rest := []) okX12_no lkX12_263 rfl (by decide) rfl dX12_set_63 rfl rfl (Nat.le_of_ble_eq_true rfl) rfl (c_X12_no (-5) hr23 (CI.mk ?_))
            exact x_iret dX12_set_66 rfl (hR0 _ _ h9)
      · replace h9 := ifT hc6 h9
        refine e_aload_n dX12_set_39 rfl rfl ?_
        refine e_bipush (v := (-3)) dX12_set_40 rfl ?_
        obtain ⟨⟨r26, w27⟩, hr26, h9⟩ := elimP hN0 h9
        refine x_callVi (c := 12) (As := [.int (-3)]) (rest := []) okX12_no lkX12_263 rfl (by decide) rfl dX12_set_42 rfl rfl (Nat.le_of_ble_eq_true rfl) rfl (c_X12_no (-3) hr26 (CI.mk ?_))
        exact x_iret dX12_set_45 rfl (hR0 _ _ h9)
    · replace h9 := ifT hc4 h9
      refine e_aload_n dX12_set_23 rfl rfl ?_
      refine e_bipush (v := (-2)) dX12_set_24 rfl ?_
      obtain ⟨⟨r29, w30⟩, hr29, h9⟩ := elimP hN0 h9
      refine x_callVi (c := 12) (As := [.int (-2)]) (rest := []) okX12_no lkX12_263 rfl (by decide) rfl dX12_set_26 rfl rfl (Nat.le_of_ble_eq_true rfl) rfl (c_X12_no (-2) hr29 (CI.mk ?_))
      exact x_iret dX12_set_29 rfl (hR0 _ _ h9)
  · replace h9 := ifT hc2 h9
    refine e_aload_n dX12_set_7 rfl rfl ?_
    refine e_iconst (v := (-1)) dX12_set_8 rfl ?_
    obtain ⟨⟨r32, w33⟩, hr32, h9⟩ := elimP hN0 h9
    refine x_callVi (c := 12) (As := [.int (-1)]) (rest := []) okX12_no lkX12_263 rfl (by decide) rfl dX12_set_9 rfl rfl (Nat.le_of_ble_eq_true rfl) rfl (c_X12_no (-1) hr32 (CI.mk ?_))
    exact x_iret dX12_set_12 rfl (hR0 _ _ h9)
noncomputable def b_X12_copy_202 (m : VM) (p1 : Int32) (p2 : Int32) (p3 : Int32) (p4 : Int32) (p5 : Int32) (v42 : Int32 × VM) (v44 : Int32 × VM) : (Int32 × VM) ⊕ ((Int32 × VM) ⊕ (Option (Int32 × VM))) := if p5 ≤ v44.1 then Sum.inr (Sum.inr (some (1, v44.2))) else if inb v44.1 60 = true then if inb (((60 * p2) + p4) + v44.1) 480 = true then Sum.inl (v44.1 + 1, setJ v44.2 1215 0 (vp_updL (v44.2.2.2.1 1215 0) ((((60 * p2) + p4) + v44.1).toNatClampNeg) (v44.2.2.2.1 1216 0 v44.1.toNatClampNeg))) else Sum.inr (Sum.inr none) else Sum.inr (Sum.inr none)
noncomputable def b_X12_copy_165 (m : VM) (p1 : Int32) (p2 : Int32) (p3 : Int32) (p4 : Int32) (p5 : Int32) (v42 : Int32 × VM) : (Int32 × VM) ⊕ (Option (Int32 × VM)) := if p5 ≤ v42.1 then loopF (Sum.inr none) (b_X12_copy_202 m p1 p2 p3 p4 p5 v42) (0, v42.2) else if inb (((60 * p1) + p3) + v42.1) 480 = true then if inb v42.1 60 = true then Sum.inl (v42.1 + 1, setJ v42.2 1216 0 (vp_updL (v42.2.2.2.1 1216 0) v42.1.toNatClampNeg (v42.2.2.2.1 1215 0 ((((60 * p1) + p3) + v42.1).toNatClampNeg)))) else Sum.inr none else Sum.inr none
noncomputable def j_X12_copy_82 (m : VM) (p1 : Int32) (p2 : Int32) (p3 : Int32) (p4 : Int32) (p5 : Int32) : Option (Int32 × VM) := if inb p1 8 = true then if (m.2.1 1211 0 p1.toNatClampNeg) = 0 then (f_X12_no m (-3)).elim none (fun r21p => some (r21p.1, r21p.2)) else if inb p2 8 = true then if (m.2.1 1211 0 p2.toNatClampNeg) = 0 then (f_X12_no m (-3)).elim none (fun r56p => some (r56p.1, r56p.2)) else if 0 ≤ p5 then if p3 < 0 then (f_X12_no m (-5)).elim none (fun r28p => some (r28p.1, r28p.2)) else if p4 < 0 then (f_X12_no m (-5)).elim none (fun r32p => some (r32p.1, r32p.2)) else if inb p1 8 = true then if ((m.2.1 1213 0 p1.toNatClampNeg) - p5) < p3 then (f_X12_no m (-5)).elim none (fun r37p => some (r37p.1, r37p.2)) else if inb p2 8 = true then if p4 ≤ ((m.2.1 1213 0 p2.toNatClampNeg) - p5) then loopF none (b_X12_copy_165 m p1 p2 p3 p4 p5) (0, m) else (f_X12_no m (-5)).elim none (fun r50p => some (r50p.1, r50p.2)) else none else none else (f_X12_no m (-4)).elim none (fun r53p => some (r53p.1, r53p.2)) else none else none
noncomputable def f_X12_copy (m : VM) (p1 : Int32) (p2 : Int32) (p3 : Int32) (p4 : Int32) (p5 : Int32) : Option (Int32 × VM) := (f_X12_isShelf m p1).elim none (fun r1 => if r1 = 0 then (f_X12_no m (-1)).elim none (fun r3p => some (r3p.1, r3p.2)) else (f_X12_isShelf m p2).elim none (fun r6 => if r6 = 0 then (f_X12_no m (-1)).elim none (fun r68p => some (r68p.1, r68p.2)) else if inb p1 8 = true then if (m.2.1 1211 0 p1.toNatClampNeg) = 2 then (f_X12_no m (-2)).elim none (fun r10p => some (r10p.1, r10p.2)) else if inb p2 8 = true then if (m.2.1 1211 0 p2.toNatClampNeg) = 2 then (f_X12_no m (-2)).elim none (fun r15p => some (r15p.1, r15p.2)) else if inb p1 8 = true then if (m.2.1 1211 0 p1.toNatClampNeg) = 1 then if inb p2 8 = true then if (m.2.1 1211 0 p2.toNatClampNeg) = 1 then if inb p1 8 = true then if inb p2 8 = true then if (m.2.1 1212 0 p1.toNatClampNeg) = (m.2.1 1212 0 p2.toNatClampNeg) then j_X12_copy_82 m p1 p2 p3 p4 p5 else (f_X12_no m (-2)).elim none (fun r65p => some (r65p.1, r65p.2)) else none else none else j_X12_copy_82 m p1 p2 p3 p4 p5 else none else j_X12_copy_82 m p1 p2 p3 p4 p5 else none else none else none))
theorem c_X12_copy {g : GG} {d : Nat} {ad : AD} {x m : VM} {Q : Option Value → VM → VM → Prop} (p1 : Int32) (p2 : Int32) (p3 : Int32) (p4 : Int32) (p5 : Int32) {r9 : Int32} {w9 : VM} (hf : f_X12_copy m p1 p2 p3 p4 p5 = some (r9, w9)) (hq : Q (some (.int r9)) x w9) : CX g (d + 1) MX12_copy [.ref (ad 12 0), .int p1, .int p2, .int p3, .int p4, .int p5] ad x m Q := by
  refine CX.to (Lv := [some (.ref (ad 12 0)), some (.int p1), some (.int p2), some (.int p3), some (.int p4), some (.int p5), none]) okX12_copy (Nat.le_of_ble_eq_true rfl) rfl ?_
  obtain ⟨Φ0, hΦ⟩ : ∃ Φ : Option (Int32 × VM) → Prop, Φ = fun o => o = some (r9, w9) := ⟨_, rfl⟩
  have hN0 : Φ0 none → False := by rw [hΦ]; intro h; cases h
  have hR0 : ∀ z9 y9, Φ0 (some (z9, y9)) → Q (some (.int z9)) x y9 := by rw [hΦ]; intro z9 y9 h; cases h; exact hq
  have h9 : Φ0 (f_X12_copy m p1 p2 p3 p4 p5) := by rw [hΦ]; exact hf
  clear hf hq hΦ
  unfold f_X12_copy at h9
  refine e_iload_n dX12_copy_0 rfl rfl ?_
  obtain ⟨r1, hr1, h9⟩ := elimP hN0 h9
  refine x_callSi (As := [.int p1]) (rest := []) okX12_isShelf lkX12_260 dX12_copy_1 rfl rfl (Nat.le_of_ble_eq_true rfl) (c_X12_isShelf p1 hr1 (CI.mk ?_))
  refine e_if_eq (tgt := 14) dX12_copy_4 rfl (fun hc2 => ?_) (fun hc2 => ?_)
  · replace h9 := ifT hc2 h9
    refine e_aload_n dX12_copy_14 rfl rfl ?_
    refine e_iconst (v := (-1)) dX12_copy_15 rfl ?_
    obtain ⟨⟨r3, w4⟩, hr3, h9⟩ := elimP hN0 h9
    refine x_callVi (c := 12) (As := [.int (-1)]) (rest := []) okX12_no lkX12_263 rfl (by decide) rfl dX12_copy_16 rfl rfl (Nat.le_of_ble_eq_true rfl) rfl (c_X12_no (-1) hr3 (CI.mk ?_))
    exact x_iret dX12_copy_19 rfl (hR0 _ _ h9)
  · replace h9 := ifF hc2 h9
    refine e_iload_n dX12_copy_7 rfl rfl ?_
    obtain ⟨r6, hr6, h9⟩ := elimP hN0 h9
    refine x_callSi (As := [.int p2]) (rest := []) okX12_isShelf lkX12_260 dX12_copy_8 rfl rfl (Nat.le_of_ble_eq_true rfl) (c_X12_isShelf p2 hr6 (CI.mk ?_))
    refine e_if_ne (tgt := 20) dX12_copy_11 rfl (fun hc7 => ?_) (fun hc7 => ?_)
    · replace h9 := ifF hc7 h9
      refine e_aload_n dX12_copy_20 rfl rfl ?_
      refine g_1211 flX12_16 dX12_copy_21 ?_
      refine e_iload_n dX12_copy_24 rfl rfl ?_
      obtain ⟨k8, h9⟩ := chkP hN0 h9
      refine l_1211 dX12_copy_25 (inb_in k8) ?_
      refine e_iconst (v := 2) dX12_copy_26 rfl ?_
      refine e_icmp_eq (tgt := 75) dX12_copy_27 rfl (fun hc9 => ?_) (fun hc9 => ?_)
      · replace h9 := ifT hc9 h9
        refine e_aload_n dX12_copy_75 rfl rfl ?_
        refine e_bipush (v := (-2)) dX12_copy_76 rfl ?_
        obtain ⟨⟨r10, w11⟩, hr10, h9⟩ := elimP hN0 h9
        refine x_callVi (c := 12) (As := [.int (-2)]) (rest := []) okX12_no lkX12_263 rfl (by decide) rfl dX12_copy_78 rfl rfl (Nat.le_of_ble_eq_true rfl) rfl (c_X12_no (-2) hr10 (CI.mk ?_))
        exact x_iret dX12_copy_81 rfl (hR0 _ _ h9)
      · replace h9 := ifF hc9 h9
        refine e_aload_n dX12_copy_30 rfl rfl ?_
        refine g_1211 flX12_16 dX12_copy_31 ?_
        refine e_iload_n dX12_copy_34 rfl rfl ?_
        obtain ⟨k13, h9⟩ := chkP hN0 h9
        refine l_1211 dX12_copy_35 (inb_in k13) ?_
        refine e_iconst (v := 2) dX12_copy_36 rfl ?_
        refine e_icmp_eq (tgt := 75) dX12_copy_37 rfl (fun hc14 => ?_) (fun hc14 => ?_)
        · replace h9 := ifT hc14 h9
          refine e_aload_n dX12_copy_75 rfl rfl ?_
          refine e_bipush (v := (-2)) dX12_copy_76 rfl ?_
          obtain ⟨⟨r15, w16⟩, hr15, h9⟩ := elimP hN0 h9
          refine x_callVi (c := 12) (As := [.int (-2)]) (rest := []) okX12_no lkX12_263 rfl (by decide) rfl dX12_copy_78 rfl rfl (Nat.le_of_ble_eq_true rfl) rfl (c_X12_no (-2) hr15 (CI.mk ?_))
          exact x_iret dX12_copy_81 rfl (hR0 _ _ h9)
        · replace h9 := ifF hc14 h9
          refine e_aload_n dX12_copy_40 rfl rfl ?_
          refine g_1211 flX12_16 dX12_copy_41 ?_
          refine e_iload_n dX12_copy_44 rfl rfl ?_
          obtain ⟨k18, h9⟩ := chkP hN0 h9
          refine l_1211 dX12_copy_45 (inb_in k18) ?_
          refine e_iconst (v := 1) dX12_copy_46 rfl ?_
          have hj82 : Φ0 (j_X12_copy_82 m p1 p2 p3 p4 p5) → EX g (d + 1) MX12_copy ad x m 82 [some (.ref (ad 12 0)), some (.int p1), some (.int p2), some (.int p3), some (.int p4), some (.int p5), none] [] Q := by
            intro h9
            unfold j_X12_copy_82 at h9
            refine e_aload_n dX12_copy_82 rfl rfl ?_
            refine g_1211 flX12_16 dX12_copy_83 ?_
            refine e_iload_n dX12_copy_86 rfl rfl ?_
            obtain ⟨k19, h9⟩ := chkP hN0 h9
            refine l_1211 dX12_copy_87 (inb_in k19) ?_
            refine e_if_eq (tgt := 100) dX12_copy_88 rfl (fun hc20 => ?_) (fun hc20 => ?_)
            · replace h9 := ifT hc20 h9
              refine e_aload_n dX12_copy_100 rfl rfl ?_
              refine e_bipush (v := (-3)) dX12_copy_101 rfl ?_
              obtain ⟨⟨r21, w22⟩, hr21, h9⟩ := elimP hN0 h9
              refine x_callVi (c := 12) (As := [.int (-3)]) (rest := []) okX12_no lkX12_263 rfl (by decide) rfl dX12_copy_103 rfl rfl (Nat.le_of_ble_eq_true rfl) rfl (c_X12_no (-3) hr21 (CI.mk ?_))
              exact x_iret dX12_copy_106 rfl (hR0 _ _ h9)
            · replace h9 := ifF hc20 h9
              refine e_aload_n dX12_copy_91 rfl rfl ?_
              refine g_1211 flX12_16 dX12_copy_92 ?_
              refine e_iload_n dX12_copy_95 rfl rfl ?_
              obtain ⟨k24, h9⟩ := chkP hN0 h9
              refine l_1211 dX12_copy_96 (inb_in k24) ?_
              refine e_if_ne (tgt := 107) dX12_copy_97 rfl (fun hc25 => ?_) (fun hc25 => ?_)
              · replace h9 := ifF hc25 h9
                refine e_iload dX12_copy_107 rfl ?_
                refine e_if_ge (tgt := 119) dX12_copy_109 rfl (fun hc26 => ?_) (fun hc26 => ?_)
                · replace h9 := ifT hc26 h9
                  refine e_iload_n dX12_copy_119 rfl rfl ?_
                  refine e_if_lt (tgt := 155) dX12_copy_120 rfl (fun hc27 => ?_) (fun hc27 => ?_)
                  · replace h9 := ifT hc27 h9
                    refine e_aload_n dX12_copy_155 rfl rfl ?_
                    refine e_bipush (v := (-5)) dX12_copy_156 rfl ?_
                    obtain ⟨⟨r28, w29⟩, hr28, h9⟩ := elimP hN0 h9
                    refine x_callVi (c := 12) (As := [.int (-5)]) (rest := []) okX12_no lkX12_263 rfl (by decide) rfl dX12_copy_158 rfl rfl (Nat.le_of_ble_eq_true rfl) rfl (c_X12_no (-5) hr28 (CI.mk ?_))
                    exact x_iret dX12_copy_161 rfl (hR0 _ _ h9)
                  · replace h9 := ifF hc27 h9
                    refine e_iload dX12_copy_123 rfl ?_
                    refine e_if_lt (tgt := 155) dX12_copy_125 rfl (fun hc31 => ?_) (fun hc31 => ?_)
                    · replace h9 := ifT hc31 h9
                      refine e_aload_n dX12_copy_155 rfl rfl ?_
                      refine e_bipush (v := (-5)) dX12_copy_156 rfl ?_
                      obtain ⟨⟨r32, w33⟩, hr32, h9⟩ := elimP hN0 h9
                      refine x_callVi (c := 12) (As := [.int (-5)]) (rest := []) okX12_no lkX12_263 rfl (by decide) rfl dX12_copy_158 rfl rfl (Nat.le_of_ble_eq_true rfl) rfl (c_X12_no (-5) hr32 (CI.mk ?_))
                      exact x_iret dX12_copy_161 rfl (hR0 _ _ h9)
                    · replace h9 := ifF hc31 h9
                      refine e_iload_n dX12_copy_128 rfl rfl ?_
                      refine e_aload_n dX12_copy_129 rfl rfl ?_
                      refine g_1213 flX12_23 dX12_copy_130 ?_
                      refine e_iload_n dX12_copy_133 rfl rfl ?_
                      obtain ⟨k35, h9⟩ := chkP hN0 h9
                      refine l_1213 dX12_copy_134 (inb_in k35) ?_
                      refine e_iload dX12_copy_135 rfl ?_
                      refine e_isub dX12_copy_137 ?_
                      refine e_icmp_gt (tgt := 155) dX12_copy_138 rfl (fun hc36 => ?_) (fun hc36 => ?_)
                      · replace h9 := ifT hc36 h9
                        refine e_aload_n dX12_copy_155 rfl rfl ?_
                        refine e_bipush (v := (-5)) dX12_copy_156 rfl ?_
                        obtain ⟨⟨r37, w38⟩, hr37, h9⟩ := elimP hN0 h9
                        refine x_callVi (c := 12) (As := [.int (-5)]) (rest := []) okX12_no lkX12_263 rfl (by decide) rfl dX12_copy_158 rfl rfl (Nat.le_of_ble_eq_true rfl) rfl (c_X12_no (-5) hr37 (CI.mk ?_))
                        exact x_iret dX12_copy_161 rfl (hR0 _ _ h9)
                      · replace h9 := ifF hc36 h9
                        refine e_iload dX12_copy_141 rfl ?_
                        refine e_aload_n dX12_copy_143 rfl rfl ?_
                        refine g_1213 flX12_23 dX12_copy_144 ?_
                        refine e_iload_n dX12_copy_147 rfl rfl ?_
                        obtain ⟨k40, h9⟩ := chkP hN0 h9
                        refine l_1213 dX12_copy_148 (inb_in k40) ?_
                        refine e_iload dX12_copy_149 rfl ?_
                        refine e_isub dX12_copy_151 ?_
                        refine e_icmp_le (tgt := 162) dX12_copy_152 rfl (fun hc41 => ?_) (fun hc41 => ?_)
                        · replace h9 := ifT hc41 h9
                          refine e_iconst (v := 0) dX12_copy_162 rfl ?_
                          refine e_istore (L' := [some (.ref (ad 12 0)), some (.int p1), some (.int p2), some (.int p3), some (.int p4), some (.int p5), some (.int 0)]) dX12_copy_163 (by decide) rfl ?_
                          refine loop_gen (b_X12_copy_165 m p1 p2 p3 p4 p5) none (fun v42 => EX g (d + 1) MX12_copy ad x v42.2 165 [some (.ref (ad 12 0)), some (.int p1), some (.int p2), some (.int p3), some (.int p4), some (.int p5), some (.int v42.1)] [] Q) Φ0 hN0 (fun v42 Φ1 hB0_1 hO1 h9 => ?_) (0, m) h9
                          have hN1 := fun h => hN0 (hO1 _ h)
                          have hR1 := fun r9 x9 h => hR0 r9 x9 (hO1 _ h)
                          have hB0_1 : ∀ (z0 : Int32) (z1 : VM), Φ1 (Sum.inl (z0, z1)) → EX g (d + 1) MX12_copy ad x z1 165 [some (.ref (ad 12 0)), some (.int p1), some (.int p2), some (.int p3), some (.int p4), some (.int p5), some (.int z0)] [] Q := fun z0 z1 h => hB0_1 (z0, z1) h
                          unfold b_X12_copy_165 at h9
                          refine e_iload dX12_copy_165 rfl ?_
                          refine e_iload dX12_copy_167 rfl ?_
                          refine e_icmp_ge (tgt := 199) dX12_copy_169 rfl (fun hc43 => ?_) (fun hc43 => ?_)
                          · replace h9 := ifT hc43 h9
                            refine e_iconst (v := 0) dX12_copy_199 rfl ?_
                            refine e_istore (L' := [some (.ref (ad 12 0)), some (.int p1), some (.int p2), some (.int p3), some (.int p4), some (.int p5), some (.int 0)]) dX12_copy_200 (by decide) rfl ?_
                            refine e_wk (L' := [some (.ref (ad 12 0)), none, some (.int p2), none, some (.int p4), some (.int p5), some (.int 0)]) (wkC (wkN (wkC (wkN (wkC (wkC (wkC wk0))))))) ?_
                            refine loop_gen (b_X12_copy_202 m p1 p2 p3 p4 p5 v42) (Sum.inr none) (fun v44 => EX g (d + 1) MX12_copy ad x v44.2 202 [some (.ref (ad 12 0)), none, some (.int p2), none, some (.int p4), some (.int p5), some (.int v44.1)] [] Q) Φ1 hN1 (fun v44 Φ2 hB1_2 hO2 h9 => ?_) (0, v42.2) h9
                            have hN2 := fun h => hN1 (hO2 _ h)
                            have hR2 := fun r9 x9 h => hR1 r9 x9 (hO2 _ h)
                            have hB0_2 : ∀ (z0 : Int32) (z1 : VM), Φ2 (Sum.inr (Sum.inl (z0, z1))) → EX g (d + 1) MX12_copy ad x z1 165 [some (.ref (ad 12 0)), some (.int p1), some (.int p2), some (.int p3), some (.int p4), some (.int p5), some (.int z0)] [] Q := fun z0 z1 h => hB0_1 z0 z1 (hO2 _ h)
                            have hB1_2 : ∀ (z0 : Int32) (z1 : VM), Φ2 (Sum.inl (z0, z1)) → EX g (d + 1) MX12_copy ad x z1 202 [some (.ref (ad 12 0)), none, some (.int p2), none, some (.int p4), some (.int p5), some (.int z0)] [] Q := fun z0 z1 h => hB1_2 (z0, z1) h
                            unfold b_X12_copy_202 at h9
                            refine e_iload dX12_copy_202 rfl ?_
                            refine e_iload dX12_copy_204 rfl ?_
                            refine e_icmp_ge (tgt := 237) dX12_copy_206 rfl (fun hc45 => ?_) (fun hc45 => ?_)
                            · replace h9 := ifT hc45 h9
                              refine e_iconst (v := 1) dX12_copy_237 rfl ?_
                              exact x_iret dX12_copy_238 rfl (hR2 _ _ h9)
                            · replace h9 := ifF hc45 h9
                              refine e_aload_n dX12_copy_209 rfl rfl ?_
                              refine g_1215 flX12_29 dX12_copy_210 ?_
                              refine e_bipush (v := 60) dX12_copy_213 rfl ?_
                              refine e_iload_n dX12_copy_215 rfl rfl ?_
                              refine e_imul dX12_copy_216 ?_
                              refine e_iload dX12_copy_217 rfl ?_
                              refine e_iadd dX12_copy_219 ?_
                              refine e_iload dX12_copy_220 rfl ?_
                              refine e_pc (pc' := 222) rfl ?_
                              refine e_iadd dX12_copy_222 ?_
                              refine e_aload_n dX12_copy_223 rfl rfl ?_
                              refine g_1216 flX12_33 dX12_copy_224 ?_
                              refine e_iload dX12_copy_227 rfl ?_
                              obtain ⟨k46, h9⟩ := chkP hN2 h9
                              refine l_1216 dX12_copy_229 (inb_in k46) ?_
                              obtain ⟨k47, h9⟩ := chkP hN2 h9
                              refine s_1215 dX12_copy_230 (inb_in k47) ?_
                              refine e_iinc (v := (v44.1 + 1)) (L' := [some (.ref (ad 12 0)), none, some (.int p2), none, some (.int p4), some (.int p5), some (.int (v44.1 + 1))]) dX12_copy_231 rfl rfl (by decide) rfl ?_
                              refine e_goto (tgt := 202) dX12_copy_234 rfl ?_
                              exact hB1_2 _ _ h9
                          · replace h9 := ifF hc43 h9
                            refine e_aload_n dX12_copy_172 rfl rfl ?_
                            refine g_1216 flX12_33 dX12_copy_173 ?_
                            refine e_iload dX12_copy_176 rfl ?_
                            refine e_aload_n dX12_copy_178 rfl rfl ?_
                            refine g_1215 flX12_29 dX12_copy_179 ?_
                            refine e_bipush (v := 60) dX12_copy_182 rfl ?_
                            refine e_iload_n dX12_copy_184 rfl rfl ?_
                            refine e_imul dX12_copy_185 ?_
                            refine e_pc (pc' := 186) rfl ?_
                            refine e_iload_n dX12_copy_186 rfl rfl ?_
                            refine e_iadd dX12_copy_187 ?_
                            refine e_iload dX12_copy_188 rfl ?_
                            refine e_iadd dX12_copy_190 ?_
                            obtain ⟨k48, h9⟩ := chkP hN1 h9
                            refine l_1215 dX12_copy_191 (inb_in k48) ?_
                            obtain ⟨k49, h9⟩ := chkP hN1 h9
                            refine s_1216 dX12_copy_192 (inb_in k49) ?_
                            refine e_iinc (v := (v42.1 + 1)) (L' := [some (.ref (ad 12 0)), some (.int p1), some (.int p2), some (.int p3), some (.int p4), some (.int p5), some (.int (v42.1 + 1))]) dX12_copy_193 rfl rfl (by decide) rfl ?_
                            refine e_goto (tgt := 165) dX12_copy_196 rfl ?_
                            exact hB0_1 _ _ h9
                        · replace h9 := ifF hc41 h9
                          refine e_aload_n dX12_copy_155 rfl rfl ?_
                          refine e_bipush (v := (-5)) dX12_copy_156 rfl ?_
                          obtain ⟨⟨r50, w51⟩, hr50, h9⟩ := elimP hN0 h9
                          refine x_callVi (c := 12) (As := [.int (-5)]) (rest := []) okX12_no lkX12_263 rfl (by decide) rfl dX12_copy_158 rfl rfl (Nat.le_of_ble_eq_true rfl) rfl (c_X12_no (-5) hr50 (CI.mk ?_))
                          exact x_iret dX12_copy_161 rfl (hR0 _ _ h9)
                · replace h9 := ifF hc26 h9
                  refine e_aload_n dX12_copy_112 rfl rfl ?_
                  refine e_bipush (v := (-4)) dX12_copy_113 rfl ?_
                  obtain ⟨⟨r53, w54⟩, hr53, h9⟩ := elimP hN0 h9
                  refine x_callVi (c := 12) (As := [.int (-4)]) (rest := []) okX12_no lkX12_263 rfl (by decide) rfl dX12_copy_115 rfl rfl (Nat.le_of_ble_eq_true rfl) rfl (c_X12_no (-4) hr53 (CI.mk ?_))
                  exact x_iret dX12_copy_118 rfl (hR0 _ _ h9)
              · replace h9 := ifT hc25 h9
                refine e_aload_n dX12_copy_100 rfl rfl ?_
                refine e_bipush (v := (-3)) dX12_copy_101 rfl ?_
                obtain ⟨⟨r56, w57⟩, hr56, h9⟩ := elimP hN0 h9
                refine x_callVi (c := 12) (As := [.int (-3)]) (rest := []) okX12_no lkX12_263 rfl (by decide) rfl dX12_copy_103 rfl rfl (Nat.le_of_ble_eq_true rfl) rfl (c_X12_no (-3) hr56 (CI.mk ?_))
                exact x_iret dX12_copy_106 rfl (hR0 _ _ h9)
          refine e_icmp_ne (tgt := 82) dX12_copy_47 rfl (fun hc59 => ?_) (fun hc59 => ?_)
          · replace h9 := ifF hc59 h9
            exact hj82 h9
          · replace h9 := ifT hc59 h9
            refine e_aload_n dX12_copy_50 rfl rfl ?_
            refine g_1211 flX12_16 dX12_copy_51 ?_
            refine e_iload_n dX12_copy_54 rfl rfl ?_
            obtain ⟨k60, h9⟩ := chkP hN0 h9
            refine l_1211 dX12_copy_55 (inb_in k60) ?_
            refine e_iconst (v := 1) dX12_copy_56 rfl ?_
            refine e_icmp_ne (tgt := 82) dX12_copy_57 rfl (fun hc61 => ?_) (fun hc61 => ?_)
            · replace h9 := ifF hc61 h9
              exact hj82 h9
            · replace h9 := ifT hc61 h9
              refine e_aload_n dX12_copy_60 rfl rfl ?_
              refine g_1212 flX12_20 dX12_copy_61 ?_
              refine e_iload_n dX12_copy_64 rfl rfl ?_
              obtain ⟨k62, h9⟩ := chkP hN0 h9
              refine l_1212 dX12_copy_65 (inb_in k62) ?_
              refine e_aload_n dX12_copy_66 rfl rfl ?_
              refine g_1212 flX12_20 dX12_copy_67 ?_
              refine e_iload_n dX12_copy_70 rfl rfl ?_
              obtain ⟨k63, h9⟩ := chkP hN0 h9
              refine l_1212 dX12_copy_71 (inb_in k63) ?_
              refine e_pc (pc' := 72) rfl ?_
              refine e_icmp_eq (tgt := 82) dX12_copy_72 rfl (fun hc64 => ?_) (fun hc64 => ?_)
              · replace h9 := ifT hc64 h9
                exact hj82 h9
              · replace h9 := ifF hc64 h9
                refine e_aload_n dX12_copy_75 rfl rfl ?_
                refine e_bipush (v := (-2)) dX12_copy_76 rfl ?_
                obtain ⟨⟨r65, w66⟩, hr65, h9⟩ := elimP hN0 h9
                refine x_callVi (c := 12) (As := [.int (-2)]) (rest := []) okX12_no lkX12_263 rfl (by decide) rfl dX12_copy_78 rfl rfl (Nat.le_of_ble_eq_true rfl) rfl (c_X12_no (-2) hr65 (CI.mk ?_))
                exact x_iret dX12_copy_81 rfl (hR0 _ _ h9)
    · replace h9 := ifT hc7 h9
      refine e_aload_n dX12_copy_14 rfl rfl ?_
      refine e_iconst (v := (-1)) dX12_copy_15 rfl ?_
      obtain ⟨⟨r68, w69⟩, hr68, h9⟩ := elimP hN0 h9
      refine x_callVi (c := 12) (As := [.int (-1)]) (rest := []) okX12_no lkX12_263 rfl (by decide) rfl dX12_copy_16 rfl rfl (Nat.le_of_ble_eq_true rfl) rfl (c_X12_no (-1) hr68 (CI.mk ?_))
      exact x_iret dX12_copy_19 rfl (hR0 _ _ h9)
noncomputable def f_X12_element (m : VM) (p1 : Int32) (p2 : Int32) : Option (Int64) := (f_X12_isShelf m p1).elim none (fun r1 => if r1 = 0 then some 0 else if inb p1 8 = true then if (m.2.1 1211 0 p1.toNatClampNeg) = 1 then if p2 < 0 then some 0 else if inb p1 8 = true then if (m.2.1 1213 0 p1.toNatClampNeg) ≤ p2 then some 0 else if inb ((60 * p1) + p2) 480 = true then some (m.2.2.1 1215 0 (((60 * p1) + p2).toNatClampNeg)) else none else none else some 0 else none)
theorem c_X12_element {g : GG} {d : Nat} {ad : AD} {x m : VM} {Q : Option Value → VM → VM → Prop} (p1 : Int32) (p2 : Int32) {r9 : Int64} (hf : f_X12_element m p1 p2 = some r9) (hq : Q (some (.long r9)) x m) : CX g (d + 1) MX12_element [.ref (ad 12 0), .int p1, .int p2] ad x m Q := by
  refine CX.to (Lv := [some (.ref (ad 12 0)), some (.int p1), some (.int p2)]) okX12_element (Nat.le_of_ble_eq_true rfl) rfl ?_
  obtain ⟨Φ0, hΦ⟩ : ∃ Φ : Option (Int64) → Prop, Φ = fun o => o = some r9 := ⟨_, rfl⟩
  have hN0 : Φ0 none → False := by rw [hΦ]; intro h; cases h
  have hR0 : ∀ z9, Φ0 (some z9) → Q (some (.long z9)) x m := by rw [hΦ]; intro z9 h; cases h; exact hq
  have h9 : Φ0 (f_X12_element m p1 p2) := by rw [hΦ]; exact hf
  clear hf hq hΦ
  unfold f_X12_element at h9
  refine e_iload_n dX12_element_0 rfl rfl ?_
  obtain ⟨r1, hr1, h9⟩ := elimP hN0 h9
  refine x_callSi (As := [.int p1]) (rest := []) okX12_isShelf lkX12_260 dX12_element_1 rfl rfl (Nat.le_of_ble_eq_true rfl) (c_X12_isShelf p1 hr1 (CI.mk ?_))
  refine e_if_eq (tgt := 45) dX12_element_4 rfl (fun hc2 => ?_) (fun hc2 => ?_)
  · replace h9 := ifT hc2 h9
    refine e_lconst (v := 0) dX12_element_45 rfl ?_
    exact x_lret dX12_element_46 rfl (hR0 _ h9)
  · replace h9 := ifF hc2 h9
    refine e_aload_n dX12_element_7 rfl rfl ?_
    refine g_1211 flX12_16 dX12_element_8 ?_
    refine e_iload_n dX12_element_11 rfl rfl ?_
    obtain ⟨k3, h9⟩ := chkP hN0 h9
    refine l_1211 dX12_element_12 (inb_in k3) ?_
    refine e_iconst (v := 1) dX12_element_13 rfl ?_
    refine e_icmp_ne (tgt := 45) dX12_element_14 rfl (fun hc4 => ?_) (fun hc4 => ?_)
    · replace h9 := ifF hc4 h9
      refine e_lconst (v := 0) dX12_element_45 rfl ?_
      exact x_lret dX12_element_46 rfl (hR0 _ h9)
    · replace h9 := ifT hc4 h9
      refine e_iload_n dX12_element_17 rfl rfl ?_
      refine e_if_lt (tgt := 45) dX12_element_18 rfl (fun hc5 => ?_) (fun hc5 => ?_)
      · replace h9 := ifT hc5 h9
        refine e_lconst (v := 0) dX12_element_45 rfl ?_
        exact x_lret dX12_element_46 rfl (hR0 _ h9)
      · replace h9 := ifF hc5 h9
        refine e_iload_n dX12_element_21 rfl rfl ?_
        refine e_aload_n dX12_element_22 rfl rfl ?_
        refine g_1213 flX12_23 dX12_element_23 ?_
        refine e_iload_n dX12_element_26 rfl rfl ?_
        obtain ⟨k6, h9⟩ := chkP hN0 h9
        refine l_1213 dX12_element_27 (inb_in k6) ?_
        refine e_icmp_ge (tgt := 45) dX12_element_28 rfl (fun hc7 => ?_) (fun hc7 => ?_)
        · replace h9 := ifT hc7 h9
          refine e_lconst (v := 0) dX12_element_45 rfl ?_
          exact x_lret dX12_element_46 rfl (hR0 _ h9)
        · replace h9 := ifF hc7 h9
          refine e_aload_n dX12_element_31 rfl rfl ?_
          refine g_1215 flX12_29 dX12_element_32 ?_
          refine e_bipush (v := 60) dX12_element_35 rfl ?_
          refine e_iload_n dX12_element_37 rfl rfl ?_
          refine e_imul dX12_element_38 ?_
          refine e_iload_n dX12_element_39 rfl rfl ?_
          refine e_iadd dX12_element_40 ?_
          obtain ⟨k8, h9⟩ := chkP hN0 h9
          refine l_1215 dX12_element_41 (inb_in k8) ?_
          refine e_pc (pc' := 42) rfl ?_
          refine e_goto (tgt := 46) dX12_element_42 rfl ?_
          exact x_lret dX12_element_46 rfl (hR0 _ h9)
noncomputable def j_X12_show_41 (m : VM) (p1 : Int32) (p2 : Int32) (a6 : Int32) (a7 : Int32) : Option (Int32 × VM) := if inb a7 8 = true then if inb p1 8 = true then if p2 = (-1) then some (0, setA (setA m 1211 0 (upd (m.2.1 1211 0) a7.toNatClampNeg a6)) 1214 0 (upd ((setA m 1211 0 (upd (m.2.1 1211 0) a7.toNatClampNeg a6)).2.1 1214 0) p1.toNatClampNeg p2)) else some (1, setA (setA m 1211 0 (upd (m.2.1 1211 0) a7.toNatClampNeg a6)) 1214 0 (upd ((setA m 1211 0 (upd (m.2.1 1211 0) a7.toNatClampNeg a6)).2.1 1214 0) p1.toNatClampNeg p2)) else none else none
noncomputable def j_X12_show_26 (m : VM) (p1 : Int32) (p2 : Int32) : Option (Int32 × VM) := if p2 = (-1) then j_X12_show_41 m p1 p2 0 p1 else j_X12_show_41 m p1 p2 2 p1
noncomputable def f_X12_show (m : VM) (p1 : Int32) (p2 : Int32) : Option (Int32 × VM) := (f_X12_isShelf m p1).elim none (fun r1 => if r1 = 0 then (f_X12_no m (-1)).elim none (fun r3p => some (r3p.1, r3p.2)) else if p2 = (-1) then j_X12_show_26 m p1 p2 else (f_X12_isPicture m p2).elim none (fun r13 => if r13 = 0 then (f_X12_no m (-1)).elim none (fun r15p => some (r15p.1, r15p.2)) else j_X12_show_26 m p1 p2))
theorem c_X12_show {g : GG} {d : Nat} {ad : AD} {x m : VM} {Q : Option Value → VM → VM → Prop} (p1 : Int32) (p2 : Int32) {r9 : Int32} {w9 : VM} (hf : f_X12_show m p1 p2 = some (r9, w9)) (hq : Q (some (.int r9)) x w9) : CX g (d + 1) MX12_show [.ref (ad 12 0), .int p1, .int p2] ad x m Q := by
  refine CX.to (Lv := [some (.ref (ad 12 0)), some (.int p1), some (.int p2)]) okX12_show (Nat.le_of_ble_eq_true rfl) rfl ?_
  obtain ⟨Φ0, hΦ⟩ : ∃ Φ : Option (Int32 × VM) → Prop, Φ = fun o => o = some (r9, w9) := ⟨_, rfl⟩
  have hN0 : Φ0 none → False := by rw [hΦ]; intro h; cases h
  have hR0 : ∀ z9 y9, Φ0 (some (z9, y9)) → Q (some (.int z9)) x y9 := by rw [hΦ]; intro z9 y9 h; cases h; exact hq
  have h9 : Φ0 (f_X12_show m p1 p2) := by rw [hΦ]; exact hf
  clear hf hq hΦ
  unfold f_X12_show at h9
  refine e_iload_n dX12_show_0 rfl rfl ?_
  obtain ⟨r1, hr1, h9⟩ := elimP hN0 h9
  refine x_callSi (As := [.int p1]) (rest := []) okX12_isShelf lkX12_260 dX12_show_1 rfl rfl (Nat.le_of_ble_eq_true rfl) (c_X12_isShelf p1 hr1 (CI.mk ?_))
  refine e_if_eq (tgt := 20) dX12_show_4 rfl (fun hc2 => ?_) (fun hc2 => ?_)
  · replace h9 := ifT hc2 h9
    refine e_aload_n dX12_show_20 rfl rfl ?_
    refine e_iconst (v := (-1)) dX12_show_21 rfl ?_
    obtain ⟨⟨r3, w4⟩, hr3, h9⟩ := elimP hN0 h9
    refine x_callVi (c := 12) (As := [.int (-1)]) (rest := []) okX12_no lkX12_263 rfl (by decide) rfl dX12_show_22 rfl rfl (Nat.le_of_ble_eq_true rfl) rfl (c_X12_no (-1) hr3 (CI.mk ?_))
    exact x_iret dX12_show_25 rfl (hR0 _ _ h9)
  · replace h9 := ifF hc2 h9
    refine e_iload_n dX12_show_7 rfl rfl ?_
    refine e_iconst (v := (-1)) dX12_show_8 rfl ?_
    have hj41 : ∀ (a6 : Int32) (a7 : Int32), Φ0 (j_X12_show_41 m p1 p2 a6 a7) → EX g (d + 1) MX12_show ad x m 41 [some (.ref (ad 12 0)), some (.int p1), some (.int p2)] [.int a6, .int a7, .ref (ad 2211 0)] Q := by
      intro a6 a7 h9
      unfold j_X12_show_41 at h9
      obtain ⟨k8, h9⟩ := chkP hN0 h9
      refine s_1211 dX12_show_41 (inb_in k8) ?_
      refine e_aload_n dX12_show_42 rfl rfl ?_
      refine g_1214 flX12_26 dX12_show_43 ?_
      refine e_iload_n dX12_show_46 rfl rfl ?_
      refine e_iload_n dX12_show_47 rfl rfl ?_
      obtain ⟨k9, h9⟩ := chkP hN0 h9
      refine s_1214 dX12_show_48 (inb_in k9) ?_
      refine e_iload_n dX12_show_49 rfl rfl ?_
      refine e_iconst (v := (-1)) dX12_show_50 rfl ?_
      refine e_pc (pc' := 51) rfl ?_
      refine e_icmp_ne (tgt := 58) dX12_show_51 rfl (fun hc10 => ?_) (fun hc10 => ?_)
      · replace h9 := ifF hc10 h9
        refine e_iconst (v := 1) dX12_show_58 rfl ?_
        exact x_iret dX12_show_59 rfl (hR0 _ _ h9)
      · replace h9 := ifT hc10 h9
        refine e_iconst (v := 0) dX12_show_54 rfl ?_
        refine e_goto (tgt := 59) dX12_show_55 rfl ?_
        exact x_iret dX12_show_59 rfl (hR0 _ _ h9)
    have hj26 : Φ0 (j_X12_show_26 m p1 p2) → EX g (d + 1) MX12_show ad x m 26 [some (.ref (ad 12 0)), some (.int p1), some (.int p2)] [] Q := by
      intro h9
      unfold j_X12_show_26 at h9
      refine e_aload_n dX12_show_26 rfl rfl ?_
      refine g_1211 flX12_16 dX12_show_27 ?_
      refine e_iload_n dX12_show_30 rfl rfl ?_
      refine e_iload_n dX12_show_31 rfl rfl ?_
      refine e_iconst (v := (-1)) dX12_show_32 rfl ?_
      refine e_icmp_ne (tgt := 40) dX12_show_33 rfl (fun hc11 => ?_) (fun hc11 => ?_)
      · replace h9 := ifF hc11 h9
        refine e_iconst (v := 2) dX12_show_40 rfl ?_
        exact hj41 2 p1 h9
      · replace h9 := ifT hc11 h9
        refine e_iconst (v := 0) dX12_show_36 rfl ?_
        refine e_goto (tgt := 41) dX12_show_37 rfl ?_
        exact hj41 0 p1 h9
    refine e_icmp_eq (tgt := 26) dX12_show_9 rfl (fun hc12 => ?_) (fun hc12 => ?_)
    · replace h9 := ifT hc12 h9
      exact hj26 h9
    · replace h9 := ifF hc12 h9
      refine e_aload_n dX12_show_12 rfl rfl ?_
      refine e_iload_n dX12_show_13 rfl rfl ?_
      obtain ⟨r13, hr13, h9⟩ := elimP hN0 h9
      refine x_callVi (c := 12) (As := [.int p2]) (rest := []) okX12_isPicture lkX12_253 rfl (by decide) rfl dX12_show_14 rfl rfl (Nat.le_of_ble_eq_true rfl) rfl (c_X12_isPicture p2 hr13 (CI.mk ?_))
      refine e_if_ne (tgt := 26) dX12_show_17 rfl (fun hc14 => ?_) (fun hc14 => ?_)
      · replace h9 := ifF hc14 h9
        exact hj26 h9
      · replace h9 := ifT hc14 h9
        refine e_aload_n dX12_show_20 rfl rfl ?_
        refine e_iconst (v := (-1)) dX12_show_21 rfl ?_
        obtain ⟨⟨r15, w16⟩, hr15, h9⟩ := elimP hN0 h9
        refine x_callVi (c := 12) (As := [.int (-1)]) (rest := []) okX12_no lkX12_263 rfl (by decide) rfl dX12_show_22 rfl rfl (Nat.le_of_ble_eq_true rfl) rfl (c_X12_no (-1) hr15 (CI.mk ?_))
        exact x_iret dX12_show_25 rfl (hR0 _ _ h9)
noncomputable def f_X12_holds (m : VM) (p1 : Int32) : Option (Int32) := (f_X12_isShelf m p1).elim none (fun r1 => if r1 = 0 then some (-1) else if inb p1 8 = true then if (m.2.1 1211 0 p1.toNatClampNeg) = 0 then some (-1) else if inb p1 8 = true then if (m.2.1 1211 0 p1.toNatClampNeg) = 1 then if inb p1 8 = true then some (100 + (m.2.1 1212 0 p1.toNatClampNeg)) else none else if inb p1 8 = true then some (m.2.1 1214 0 p1.toNatClampNeg) else none else none else none)
theorem c_X12_holds {g : GG} {d : Nat} {ad : AD} {x m : VM} {Q : Option Value → VM → VM → Prop} (p1 : Int32) {r9 : Int32} (hf : f_X12_holds m p1 = some r9) (hq : Q (some (.int r9)) x m) : CX g (d + 1) MX12_holds [.ref (ad 12 0), .int p1] ad x m Q := by
  refine CX.to (Lv := [some (.ref (ad 12 0)), some (.int p1)]) okX12_holds (Nat.le_of_ble_eq_true rfl) rfl ?_
  obtain ⟨Φ0, hΦ⟩ : ∃ Φ : Option (Int32) → Prop, Φ = fun o => o = some r9 := ⟨_, rfl⟩
  have hN0 : Φ0 none → False := by rw [hΦ]; intro h; cases h
  have hR0 : ∀ z9, Φ0 (some z9) → Q (some (.int z9)) x m := by rw [hΦ]; intro z9 h; cases h; exact hq
  have h9 : Φ0 (f_X12_holds m p1) := by rw [hΦ]; exact hf
  clear hf hq hΦ
  unfold f_X12_holds at h9
  refine e_iload_n dX12_holds_0 rfl rfl ?_
  obtain ⟨r1, hr1, h9⟩ := elimP hN0 h9
  refine x_callSi (As := [.int p1]) (rest := []) okX12_isShelf lkX12_260 dX12_holds_1 rfl rfl (Nat.le_of_ble_eq_true rfl) (c_X12_isShelf p1 hr1 (CI.mk ?_))
  refine e_if_eq (tgt := 16) dX12_holds_4 rfl (fun hc2 => ?_) (fun hc2 => ?_)
  · replace h9 := ifT hc2 h9
    refine e_iconst (v := (-1)) dX12_holds_16 rfl ?_
    exact x_iret dX12_holds_17 rfl (hR0 _ h9)
  · replace h9 := ifF hc2 h9
    refine e_aload_n dX12_holds_7 rfl rfl ?_
    refine g_1211 flX12_16 dX12_holds_8 ?_
    refine e_iload_n dX12_holds_11 rfl rfl ?_
    obtain ⟨k3, h9⟩ := chkP hN0 h9
    refine l_1211 dX12_holds_12 (inb_in k3) ?_
    refine e_if_ne (tgt := 18) dX12_holds_13 rfl (fun hc4 => ?_) (fun hc4 => ?_)
    · replace h9 := ifF hc4 h9
      refine e_aload_n dX12_holds_18 rfl rfl ?_
      refine g_1211 flX12_16 dX12_holds_19 ?_
      refine e_iload_n dX12_holds_22 rfl rfl ?_
      obtain ⟨k5, h9⟩ := chkP hN0 h9
      refine l_1211 dX12_holds_23 (inb_in k5) ?_
      refine e_iconst (v := 1) dX12_holds_24 rfl ?_
      refine e_icmp_ne (tgt := 40) dX12_holds_25 rfl (fun hc6 => ?_) (fun hc6 => ?_)
      · replace h9 := ifF hc6 h9
        refine e_aload_n dX12_holds_40 rfl rfl ?_
        refine g_1214 flX12_26 dX12_holds_41 ?_
        refine e_iload_n dX12_holds_44 rfl rfl ?_
        obtain ⟨k7, h9⟩ := chkP hN0 h9
        refine l_1214 dX12_holds_45 (inb_in k7) ?_
        exact x_iret dX12_holds_46 rfl (hR0 _ h9)
      · replace h9 := ifT hc6 h9
        refine e_bipush (v := 100) dX12_holds_28 rfl ?_
        refine e_aload_n dX12_holds_30 rfl rfl ?_
        refine g_1212 flX12_20 dX12_holds_31 ?_
        refine e_iload_n dX12_holds_34 rfl rfl ?_
        obtain ⟨k8, h9⟩ := chkP hN0 h9
        refine l_1212 dX12_holds_35 (inb_in k8) ?_
        refine e_iadd dX12_holds_36 ?_
        refine e_goto (tgt := 46) dX12_holds_37 rfl ?_
        exact x_iret dX12_holds_46 rfl (hR0 _ h9)
    · replace h9 := ifT hc4 h9
      refine e_iconst (v := (-1)) dX12_holds_16 rfl ?_
      exact x_iret dX12_holds_17 rfl (hR0 _ h9)
noncomputable def b_X12_isUnder_2 (m : VM) (p1 : Int32) (p2 : Int32) (v1 : Int32) : (Int32) ⊕ (Option (Int32)) := if v1 = p2 then if v1 = p2 then Sum.inr (some 1) else Sum.inr (some 0) else if v1 = 0 then if v1 = p2 then Sum.inr (some 1) else Sum.inr (some 0) else if v1 = 2 then Sum.inl 1 else if v1 = 4 then Sum.inl 3 else Sum.inl 0
noncomputable def f_X12_isUnder (m : VM) (p1 : Int32) (p2 : Int32) : Option (Int32) := loopF none (b_X12_isUnder_2 m p1 p2) p1
theorem c_X12_isUnder {g : GG} {d : Nat} {ad : AD} {x m : VM} {Q : Option Value → VM → VM → Prop} (p1 : Int32) (p2 : Int32) {r9 : Int32} (hf : f_X12_isUnder m p1 p2 = some r9) (hq : Q (some (.int r9)) x m) : CX g d MX12_isUnder [.int p1, .int p2] ad x m Q := by
  refine CX.to (Lv := [some (.int p1), some (.int p2), none]) okX12_isUnder (Nat.le_of_ble_eq_true rfl) rfl ?_
  obtain ⟨Φ0, hΦ⟩ : ∃ Φ : Option (Int32) → Prop, Φ = fun o => o = some r9 := ⟨_, rfl⟩
  have hN0 : Φ0 none → False := by rw [hΦ]; intro h; cases h
  have hR0 : ∀ z9, Φ0 (some z9) → Q (some (.int z9)) x m := by rw [hΦ]; intro z9 h; cases h; exact hq
  have h9 : Φ0 (f_X12_isUnder m p1 p2) := by rw [hΦ]; exact hf
  clear hf hq hΦ
  unfold f_X12_isUnder at h9
  refine e_iload_n dX12_isUnder_0 rfl rfl ?_
  refine e_istore_n (L' := [some (.int p1), some (.int p2), some (.int p1)]) dX12_isUnder_1 rfl (by decide) rfl ?_
  refine e_wk (L' := [none, some (.int p2), some (.int p1)]) (wkN (wkC (wkC wk0))) ?_
  refine loop_gen (b_X12_isUnder_2 m p1 p2) none (fun v1 => EX g d MX12_isUnder ad x m 2 [none, some (.int p2), some (.int v1)] [] Q) Φ0 hN0 (fun v1 Φ1 hB0_1 hO1 h9 => ?_) p1 h9
  have hN1 := fun h => hN0 (hO1 _ h)
  have hR1 := fun r9 h => hR0 r9 (hO1 _ h)
  have hB0_1 : ∀ (z0 : Int32), Φ1 (Sum.inl z0) → EX g d MX12_isUnder ad x m 2 [none, some (.int p2), some (.int z0)] [] Q := fun z0 h => hB0_1 z0 h
  unfold b_X12_isUnder_2 at h9
  refine e_iload_n dX12_isUnder_2 rfl rfl ?_
  refine e_iload_n dX12_isUnder_3 rfl rfl ?_
  refine e_icmp_eq (tgt := 34) dX12_isUnder_4 rfl (fun hc2 => ?_) (fun hc2 => ?_)
  · replace h9 := ifT hc2 h9
    refine e_iload_n dX12_isUnder_34 rfl rfl ?_
    refine e_iload_n dX12_isUnder_35 rfl rfl ?_
    refine e_icmp_ne (tgt := 43) dX12_isUnder_36 rfl (fun hc3 => ?_) (fun hc3 => ?_)
    · replace h9 := ifF hc3 h9
      refine e_iconst (v := 0) dX12_isUnder_43 rfl ?_
      exact x_zret dX12_isUnder_44 rfl (by decide) (hR1 _ h9)
    · replace h9 := ifT hc3 h9
      refine e_iconst (v := 1) dX12_isUnder_39 rfl ?_
      refine e_goto (tgt := 44) dX12_isUnder_40 rfl ?_
      exact x_zret dX12_isUnder_44 rfl (by decide) (hR1 _ h9)
  · replace h9 := ifF hc2 h9
    refine e_iload_n dX12_isUnder_7 rfl rfl ?_
    refine e_if_eq (tgt := 34) dX12_isUnder_8 rfl (fun hc4 => ?_) (fun hc4 => ?_)
    · replace h9 := ifT hc4 h9
      refine e_iload_n dX12_isUnder_34 rfl rfl ?_
      refine e_iload_n dX12_isUnder_35 rfl rfl ?_
      refine e_icmp_ne (tgt := 43) dX12_isUnder_36 rfl (fun hc5 => ?_) (fun hc5 => ?_)
      · replace h9 := ifF hc5 h9
        refine e_iconst (v := 0) dX12_isUnder_43 rfl ?_
        exact x_zret dX12_isUnder_44 rfl (by decide) (hR1 _ h9)
      · replace h9 := ifT hc5 h9
        refine e_iconst (v := 1) dX12_isUnder_39 rfl ?_
        refine e_goto (tgt := 44) dX12_isUnder_40 rfl ?_
        exact x_zret dX12_isUnder_44 rfl (by decide) (hR1 _ h9)
    · replace h9 := ifF hc4 h9
      refine e_iload_n dX12_isUnder_11 rfl rfl ?_
      refine e_iconst (v := 2) dX12_isUnder_12 rfl ?_
      refine e_icmp_ne (tgt := 20) dX12_isUnder_13 rfl (fun hc6 => ?_) (fun hc6 => ?_)
      · replace h9 := ifF hc6 h9
        refine e_iload_n dX12_isUnder_20 rfl rfl ?_
        refine e_iconst (v := 4) dX12_isUnder_21 rfl ?_
        refine e_icmp_ne (tgt := 29) dX12_isUnder_22 rfl (fun hc7 => ?_) (fun hc7 => ?_)
        · replace h9 := ifF hc7 h9
          refine e_iconst (v := 0) dX12_isUnder_29 rfl ?_
          refine e_istore_n (L' := [none, some (.int p2), some (.int 0)]) dX12_isUnder_30 rfl (by decide) rfl ?_
          refine e_goto (tgt := 2) dX12_isUnder_31 rfl ?_
          exact hB0_1 _ h9
        · replace h9 := ifT hc7 h9
          refine e_iconst (v := 3) dX12_isUnder_25 rfl ?_
          refine e_goto (tgt := 30) dX12_isUnder_26 rfl ?_
          refine e_istore_n (L' := [none, some (.int p2), some (.int 3)]) dX12_isUnder_30 rfl (by decide) rfl ?_
          refine e_goto (tgt := 2) dX12_isUnder_31 rfl ?_
          exact hB0_1 _ h9
      · replace h9 := ifT hc6 h9
        refine e_iconst (v := 1) dX12_isUnder_16 rfl ?_
        refine e_goto (tgt := 30) dX12_isUnder_17 rfl ?_
        refine e_istore_n (L' := [none, some (.int p2), some (.int 1)]) dX12_isUnder_30 rfl (by decide) rfl ?_
        refine e_goto (tgt := 2) dX12_isUnder_31 rfl ?_
        exact hB0_1 _ h9
noncomputable def j_X12_kindIn_67 (m : VM) (p1 : Int32) (p2 : Int32) : Option (Int32 × VM) := if inb p1 8 = true then if (m.2.1 1211 0 p1.toNatClampNeg) = 0 then (f_X12_no m (-3)).elim none (fun r21p => some (r21p.1, r21p.2)) else if inb p1 8 = true then if inb (m.2.1 1214 0 p1.toNatClampNeg) 8 = true then some (m.2.1 1234 0 ((m.2.1 1214 0 p1.toNatClampNeg).toNatClampNeg), m) else none else none else none
noncomputable def f_X12_kindIn (m : VM) (p1 : Int32) (p2 : Int32) : Option (Int32 × VM) := (f_X12_isShelf m p1).elim none (fun r1 => if r1 = 0 then (f_X12_no m (-1)).elim none (fun r3p => some (r3p.1, r3p.2)) else if p2 < 0 then (f_X12_no m (-1)).elim none (fun r7p => some (r7p.1, r7p.2)) else if p2 ≤ 5 then if inb p1 8 = true then if (m.2.1 1211 0 p1.toNatClampNeg) = 1 then (f_X12_no m (-2)).elim none (fun r13p => some (r13p.1, r13p.2)) else if inb p1 8 = true then if (m.2.1 1211 0 p1.toNatClampNeg) = 2 then if inb p1 8 = true then if inb (m.2.1 1214 0 p1.toNatClampNeg) 8 = true then (f_X12_isUnder m (m.2.1 1234 0 ((m.2.1 1214 0 p1.toNatClampNeg).toNatClampNeg)) p2).elim none (fun r27 => if r27 = 0 then (f_X12_no m (-2)).elim none (fun r29p => some (r29p.1, r29p.2)) else j_X12_kindIn_67 m p1 p2) else none else none else j_X12_kindIn_67 m p1 p2 else none else none else (f_X12_no m (-1)).elim none (fun r32p => some (r32p.1, r32p.2)))
theorem c_X12_kindIn {g : GG} {d : Nat} {ad : AD} {x m : VM} {Q : Option Value → VM → VM → Prop} (p1 : Int32) (p2 : Int32) {r9 : Int32} {w9 : VM} (hf : f_X12_kindIn m p1 p2 = some (r9, w9)) (hq : Q (some (.int r9)) x w9) : CX g (d + 1) MX12_kindIn [.ref (ad 12 0), .int p1, .int p2] ad x m Q := by
  refine CX.to (Lv := [some (.ref (ad 12 0)), some (.int p1), some (.int p2)]) okX12_kindIn (Nat.le_of_ble_eq_true rfl) rfl ?_
  obtain ⟨Φ0, hΦ⟩ : ∃ Φ : Option (Int32 × VM) → Prop, Φ = fun o => o = some (r9, w9) := ⟨_, rfl⟩
  have hN0 : Φ0 none → False := by rw [hΦ]; intro h; cases h
  have hR0 : ∀ z9 y9, Φ0 (some (z9, y9)) → Q (some (.int z9)) x y9 := by rw [hΦ]; intro z9 y9 h; cases h; exact hq
  have h9 : Φ0 (f_X12_kindIn m p1 p2) := by rw [hΦ]; exact hf
  clear hf hq hΦ
  unfold f_X12_kindIn at h9
  refine e_iload_n dX12_kindIn_0 rfl rfl ?_
  obtain ⟨r1, hr1, h9⟩ := elimP hN0 h9
  refine x_callSi (As := [.int p1]) (rest := []) okX12_isShelf lkX12_260 dX12_kindIn_1 rfl rfl (Nat.le_of_ble_eq_true rfl) (c_X12_isShelf p1 hr1 (CI.mk ?_))
  refine e_if_eq (tgt := 16) dX12_kindIn_4 rfl (fun hc2 => ?_) (fun hc2 => ?_)
  · replace h9 := ifT hc2 h9
    refine e_aload_n dX12_kindIn_16 rfl rfl ?_
    refine e_iconst (v := (-1)) dX12_kindIn_17 rfl ?_
    obtain ⟨⟨r3, w4⟩, hr3, h9⟩ := elimP hN0 h9
    refine x_callVi (c := 12) (As := [.int (-1)]) (rest := []) okX12_no lkX12_263 rfl (by decide) rfl dX12_kindIn_18 rfl rfl (Nat.le_of_ble_eq_true rfl) rfl (c_X12_no (-1) hr3 (CI.mk ?_))
    exact x_iret dX12_kindIn_21 rfl (hR0 _ _ h9)
  · replace h9 := ifF hc2 h9
    refine e_iload_n dX12_kindIn_7 rfl rfl ?_
    refine e_if_lt (tgt := 16) dX12_kindIn_8 rfl (fun hc6 => ?_) (fun hc6 => ?_)
    · replace h9 := ifT hc6 h9
      refine e_aload_n dX12_kindIn_16 rfl rfl ?_
      refine e_iconst (v := (-1)) dX12_kindIn_17 rfl ?_
      obtain ⟨⟨r7, w8⟩, hr7, h9⟩ := elimP hN0 h9
      refine x_callVi (c := 12) (As := [.int (-1)]) (rest := []) okX12_no lkX12_263 rfl (by decide) rfl dX12_kindIn_18 rfl rfl (Nat.le_of_ble_eq_true rfl) rfl (c_X12_no (-1) hr7 (CI.mk ?_))
      exact x_iret dX12_kindIn_21 rfl (hR0 _ _ h9)
    · replace h9 := ifF hc6 h9
      refine e_iload_n dX12_kindIn_11 rfl rfl ?_
      refine e_iconst (v := 5) dX12_kindIn_12 rfl ?_
      refine e_icmp_le (tgt := 22) dX12_kindIn_13 rfl (fun hc10 => ?_) (fun hc10 => ?_)
      · replace h9 := ifT hc10 h9
        refine e_aload_n dX12_kindIn_22 rfl rfl ?_
        refine g_1211 flX12_16 dX12_kindIn_23 ?_
        refine e_iload_n dX12_kindIn_26 rfl rfl ?_
        obtain ⟨k11, h9⟩ := chkP hN0 h9
        refine l_1211 dX12_kindIn_27 (inb_in k11) ?_
        refine e_iconst (v := 1) dX12_kindIn_28 rfl ?_
        refine e_icmp_eq (tgt := 60) dX12_kindIn_29 rfl (fun hc12 => ?_) (fun hc12 => ?_)
        · replace h9 := ifT hc12 h9
          refine e_aload_n dX12_kindIn_60 rfl rfl ?_
          refine e_bipush (v := (-2)) dX12_kindIn_61 rfl ?_
          obtain ⟨⟨r13, w14⟩, hr13, h9⟩ := elimP hN0 h9
          refine x_callVi (c := 12) (As := [.int (-2)]) (rest := []) okX12_no lkX12_263 rfl (by decide) rfl dX12_kindIn_63 rfl rfl (Nat.le_of_ble_eq_true rfl) rfl (c_X12_no (-2) hr13 (CI.mk ?_))
          exact x_iret dX12_kindIn_66 rfl (hR0 _ _ h9)
        · replace h9 := ifF hc12 h9
          refine e_aload_n dX12_kindIn_32 rfl rfl ?_
          refine g_1211 flX12_16 dX12_kindIn_33 ?_
          refine e_iload_n dX12_kindIn_36 rfl rfl ?_
          obtain ⟨k16, h9⟩ := chkP hN0 h9
          refine l_1211 dX12_kindIn_37 (inb_in k16) ?_
          refine e_iconst (v := 2) dX12_kindIn_38 rfl ?_
          have hj67 : Φ0 (j_X12_kindIn_67 m p1 p2) → EX g (d + 1) MX12_kindIn ad x m 67 [some (.ref (ad 12 0)), some (.int p1), none] [] Q := by
            intro h9
            unfold j_X12_kindIn_67 at h9
            refine e_aload_n dX12_kindIn_67 rfl rfl ?_
            refine g_1211 flX12_16 dX12_kindIn_68 ?_
            refine e_iload_n dX12_kindIn_71 rfl rfl ?_
            obtain ⟨k17, h9⟩ := chkP hN0 h9
            refine l_1211 dX12_kindIn_72 (inb_in k17) ?_
            refine e_if_ne (tgt := 85) dX12_kindIn_73 rfl (fun hc18 => ?_) (fun hc18 => ?_)
            · replace h9 := ifF hc18 h9
              refine e_aload_n dX12_kindIn_85 rfl rfl ?_
              refine g_1234 flX12_88 dX12_kindIn_86 ?_
              refine e_aload_n dX12_kindIn_89 rfl rfl ?_
              refine g_1214 flX12_26 dX12_kindIn_90 ?_
              refine e_iload_n dX12_kindIn_93 rfl rfl ?_
              obtain ⟨k19, h9⟩ := chkP hN0 h9
              refine l_1214 dX12_kindIn_94 (inb_in k19) ?_
              obtain ⟨k20, h9⟩ := chkP hN0 h9
              refine l_1234 dX12_kindIn_95 (inb_in k20) ?_
              exact x_iret dX12_kindIn_96 rfl (hR0 _ _ h9)
            · replace h9 := ifT hc18 h9
              refine e_aload_n dX12_kindIn_76 rfl rfl ?_
              refine e_bipush (v := (-3)) dX12_kindIn_77 rfl ?_
              obtain ⟨⟨r21, w22⟩, hr21, h9⟩ := elimP hN0 h9
              refine x_callVi (c := 12) (As := [.int (-3)]) (rest := []) okX12_no lkX12_263 rfl (by decide) rfl dX12_kindIn_79 rfl rfl (Nat.le_of_ble_eq_true rfl) rfl (c_X12_no (-3) hr21 (CI.mk ?_))
              refine e_goto (tgt := 96) dX12_kindIn_82 rfl ?_
              exact x_iret dX12_kindIn_96 rfl (hR0 _ _ h9)
          refine e_icmp_ne (tgt := 67) dX12_kindIn_39 rfl (fun hc24 => ?_) (fun hc24 => ?_)
          · replace h9 := ifF hc24 h9
            refine e_wk (L' := [some (.ref (ad 12 0)), some (.int p1), none]) (wkC (wkC (wkN wk0))) ?_
            exact hj67 h9
          · replace h9 := ifT hc24 h9
            refine e_aload_n dX12_kindIn_42 rfl rfl ?_
            refine g_1234 flX12_88 dX12_kindIn_43 ?_
            refine e_aload_n dX12_kindIn_46 rfl rfl ?_
            refine g_1214 flX12_26 dX12_kindIn_47 ?_
            refine e_iload_n dX12_kindIn_50 rfl rfl ?_
            obtain ⟨k25, h9⟩ := chkP hN0 h9
            refine l_1214 dX12_kindIn_51 (inb_in k25) ?_
            obtain ⟨k26, h9⟩ := chkP hN0 h9
            refine l_1234 dX12_kindIn_52 (inb_in k26) ?_
            refine e_iload_n dX12_kindIn_53 rfl rfl ?_
            refine e_pc (pc' := 54) rfl ?_
            obtain ⟨r27, hr27, h9⟩ := elimP hN0 h9
            refine x_callSi (As := [.int (m.2.1 1234 0 ((m.2.1 1214 0 p1.toNatClampNeg).toNatClampNeg)), .int p2]) (rest := []) okX12_isUnder lkX12_267 dX12_kindIn_54 rfl rfl (Nat.le_of_ble_eq_true rfl) (c_X12_isUnder (m.2.1 1234 0 ((m.2.1 1214 0 p1.toNatClampNeg).toNatClampNeg)) p2 hr27 (CI.mk ?_))
            refine e_if_ne (tgt := 67) dX12_kindIn_57 rfl (fun hc28 => ?_) (fun hc28 => ?_)
            · replace h9 := ifF hc28 h9
              refine e_wk (L' := [some (.ref (ad 12 0)), some (.int p1), none]) (wkC (wkC (wkN wk0))) ?_
              exact hj67 h9
            · replace h9 := ifT hc28 h9
              refine e_aload_n dX12_kindIn_60 rfl rfl ?_
              refine e_bipush (v := (-2)) dX12_kindIn_61 rfl ?_
              obtain ⟨⟨r29, w30⟩, hr29, h9⟩ := elimP hN0 h9
              refine x_callVi (c := 12) (As := [.int (-2)]) (rest := []) okX12_no lkX12_263 rfl (by decide) rfl dX12_kindIn_63 rfl rfl (Nat.le_of_ble_eq_true rfl) rfl (c_X12_no (-2) hr29 (CI.mk ?_))
              exact x_iret dX12_kindIn_66 rfl (hR0 _ _ h9)
      · replace h9 := ifF hc10 h9
        refine e_aload_n dX12_kindIn_16 rfl rfl ?_
        refine e_iconst (v := (-1)) dX12_kindIn_17 rfl ?_
        obtain ⟨⟨r32, w33⟩, hr32, h9⟩ := elimP hN0 h9
        refine x_callVi (c := 12) (As := [.int (-1)]) (rest := []) okX12_no lkX12_263 rfl (by decide) rfl dX12_kindIn_18 rfl rfl (Nat.le_of_ble_eq_true rfl) rfl (c_X12_no (-1) hr32 (CI.mk ?_))
        exact x_iret dX12_kindIn_21 rfl (hR0 _ _ h9)
noncomputable def f_X12_wants (m : VM) (p1 : Int32) : Option (Int32) := (f_X12_isShelf m p1).elim none (fun r1 => if r1 = 0 then some (-1) else if inb p1 8 = true then if (m.2.1 1211 0 p1.toNatClampNeg) = 2 then some (-2) else if inb p1 8 = true then if (m.2.1 1211 0 p1.toNatClampNeg) = 0 then some (-3) else some 0 else none else none)
theorem c_X12_wants {g : GG} {d : Nat} {ad : AD} {x m : VM} {Q : Option Value → VM → VM → Prop} (p1 : Int32) {r9 : Int32} (hf : f_X12_wants m p1 = some r9) (hq : Q (some (.int r9)) x m) : CX g (d + 1) MX12_wants [.ref (ad 12 0), .int p1] ad x m Q := by
  refine CX.to (Lv := [some (.ref (ad 12 0)), some (.int p1)]) okX12_wants (Nat.le_of_ble_eq_true rfl) rfl ?_
  obtain ⟨Φ0, hΦ⟩ : ∃ Φ : Option (Int32) → Prop, Φ = fun o => o = some r9 := ⟨_, rfl⟩
  have hN0 : Φ0 none → False := by rw [hΦ]; intro h; cases h
  have hR0 : ∀ z9, Φ0 (some z9) → Q (some (.int z9)) x m := by rw [hΦ]; intro z9 h; cases h; exact hq
  have h9 : Φ0 (f_X12_wants m p1) := by rw [hΦ]; exact hf
  clear hf hq hΦ
  unfold f_X12_wants at h9
  refine e_iload_n dX12_wants_0 rfl rfl ?_
  obtain ⟨r1, hr1, h9⟩ := elimP hN0 h9
  refine x_callSi (As := [.int p1]) (rest := []) okX12_isShelf lkX12_260 dX12_wants_1 rfl rfl (Nat.le_of_ble_eq_true rfl) (c_X12_isShelf p1 hr1 (CI.mk ?_))
  refine e_if_ne (tgt := 11) dX12_wants_4 rfl (fun hc2 => ?_) (fun hc2 => ?_)
  · replace h9 := ifF hc2 h9
    refine e_aload_n dX12_wants_11 rfl rfl ?_
    refine g_1211 flX12_16 dX12_wants_12 ?_
    refine e_iload_n dX12_wants_15 rfl rfl ?_
    obtain ⟨k3, h9⟩ := chkP hN0 h9
    refine l_1211 dX12_wants_16 (inb_in k3) ?_
    refine e_iconst (v := 2) dX12_wants_17 rfl ?_
    refine e_icmp_ne (tgt := 26) dX12_wants_18 rfl (fun hc4 => ?_) (fun hc4 => ?_)
    · replace h9 := ifF hc4 h9
      refine e_aload_n dX12_wants_26 rfl rfl ?_
      refine g_1211 flX12_16 dX12_wants_27 ?_
      refine e_iload_n dX12_wants_30 rfl rfl ?_
      obtain ⟨k5, h9⟩ := chkP hN0 h9
      refine l_1211 dX12_wants_31 (inb_in k5) ?_
      refine e_if_ne (tgt := 40) dX12_wants_32 rfl (fun hc6 => ?_) (fun hc6 => ?_)
      · replace h9 := ifF hc6 h9
        refine e_iconst (v := 0) dX12_wants_40 rfl ?_
        exact x_iret dX12_wants_41 rfl (hR0 _ h9)
      · replace h9 := ifT hc6 h9
        refine e_bipush (v := (-3)) dX12_wants_35 rfl ?_
        refine e_goto (tgt := 41) dX12_wants_37 rfl ?_
        exact x_iret dX12_wants_41 rfl (hR0 _ h9)
    · replace h9 := ifT hc4 h9
      refine e_bipush (v := (-2)) dX12_wants_21 rfl ?_
      refine e_goto (tgt := 41) dX12_wants_23 rfl ?_
      exact x_iret dX12_wants_41 rfl (hR0 _ h9)
  · replace h9 := ifT hc2 h9
    refine e_iconst (v := (-1)) dX12_wants_7 rfl ?_
    refine e_goto (tgt := 41) dX12_wants_8 rfl ?_
    exact x_iret dX12_wants_41 rfl (hR0 _ h9)
noncomputable def f_X12_person (m : VM) (p1 : Int32) : Option (Int32 × VM) := if p1 < 1 then (f_X12_no m (-6)).elim none (fun r2p => some (r2p.1, r2p.2)) else if p1 ≤ 999 then if (m.1 1202 0) = 16 then (f_X12_no m (-7)).elim none (fun r8p => some (r8p.1, r8p.2)) else if inb (m.1 1202 0) 16 = true then some ((setA m 1217 0 (upd (m.2.1 1217 0) ((m.1 1202 0).toNatClampNeg) p1)).1 1202 0, setI (setA m 1217 0 (upd (m.2.1 1217 0) ((m.1 1202 0).toNatClampNeg) p1)) 1202 0 (((setA m 1217 0 (upd (m.2.1 1217 0) ((m.1 1202 0).toNatClampNeg) p1)).1 1202 0) + 1)) else none else (f_X12_no m (-6)).elim none (fun r11p => some (r11p.1, r11p.2))
theorem c_X12_person {g : GG} {d : Nat} {ad : AD} {x m : VM} {Q : Option Value → VM → VM → Prop} (p1 : Int32) {r9 : Int32} {w9 : VM} (hf : f_X12_person m p1 = some (r9, w9)) (hq : Q (some (.int r9)) x w9) : CX g (d + 1) MX12_person [.ref (ad 12 0), .int p1] ad x m Q := by
  refine CX.to (Lv := [some (.ref (ad 12 0)), some (.int p1)]) okX12_person (Nat.le_of_ble_eq_true rfl) rfl ?_
  obtain ⟨Φ0, hΦ⟩ : ∃ Φ : Option (Int32 × VM) → Prop, Φ = fun o => o = some (r9, w9) := ⟨_, rfl⟩
  have hN0 : Φ0 none → False := by rw [hΦ]; intro h; cases h
  have hR0 : ∀ z9 y9, Φ0 (some (z9, y9)) → Q (some (.int z9)) x y9 := by rw [hΦ]; intro z9 y9 h; cases h; exact hq
  have h9 : Φ0 (f_X12_person m p1) := by rw [hΦ]; exact hf
  clear hf hq hΦ
  unfold f_X12_person at h9
  refine e_iload_n dX12_person_0 rfl rfl ?_
  refine e_iconst (v := 1) dX12_person_1 rfl ?_
  refine e_icmp_lt (tgt := 12) dX12_person_2 rfl (fun hc1 => ?_) (fun hc1 => ?_)
  · replace h9 := ifT hc1 h9
    refine e_aload_n dX12_person_12 rfl rfl ?_
    refine e_bipush (v := (-6)) dX12_person_13 rfl ?_
    obtain ⟨⟨r2, w3⟩, hr2, h9⟩ := elimP hN0 h9
    refine x_callVi (c := 12) (As := [.int (-6)]) (rest := []) okX12_no lkX12_263 rfl (by decide) rfl dX12_person_15 rfl rfl (Nat.le_of_ble_eq_true rfl) rfl (c_X12_no (-6) hr2 (CI.mk ?_))
    exact x_iret dX12_person_18 rfl (hR0 _ _ h9)
  · replace h9 := ifF hc1 h9
    refine e_iload_n dX12_person_5 rfl rfl ?_
    refine e_sipush (v := 999) dX12_person_6 rfl ?_
    refine e_icmp_le (tgt := 19) dX12_person_9 rfl (fun hc5 => ?_) (fun hc5 => ?_)
    · replace h9 := ifT hc5 h9
      refine e_aload_n dX12_person_19 rfl rfl ?_
      refine g_1202 flX12_247 dX12_person_20 ?_
      refine e_bipush (v := 16) dX12_person_23 rfl ?_
      refine e_icmp_ne (tgt := 35) dX12_person_25 rfl (fun hc6 => ?_) (fun hc6 => ?_)
      · replace h9 := ifF hc6 h9
        refine e_aload_n dX12_person_35 rfl rfl ?_
        refine g_1217 flX12_36 dX12_person_36 ?_
        refine e_aload_n dX12_person_39 rfl rfl ?_
        refine g_1202 flX12_247 dX12_person_40 ?_
        refine e_iload_n dX12_person_43 rfl rfl ?_
        obtain ⟨k7, h9⟩ := chkP hN0 h9
        refine s_1217 dX12_person_44 (inb_in k7) ?_
        refine e_aload_n dX12_person_45 rfl rfl ?_
        refine e_dup dX12_person_46 rfl ?_
        refine e_pc (pc' := 47) rfl ?_
        refine g_1202 flX12_247 dX12_person_47 ?_
        refine e_dup_x1 dX12_person_50 rfl rfl ?_
        refine e_iconst (v := 1) dX12_person_51 rfl ?_
        refine e_iadd dX12_person_52 ?_
        refine p_1202 flX12_247 dX12_person_53 ?_
        exact x_iret dX12_person_56 rfl (hR0 _ _ h9)
      · replace h9 := ifT hc6 h9
        refine e_aload_n dX12_person_28 rfl rfl ?_
        refine e_bipush (v := (-7)) dX12_person_29 rfl ?_
        obtain ⟨⟨r8, w9⟩, hr8, h9⟩ := elimP hN0 h9
        refine x_callVi (c := 12) (As := [.int (-7)]) (rest := []) okX12_no lkX12_263 rfl (by decide) rfl dX12_person_31 rfl rfl (Nat.le_of_ble_eq_true rfl) rfl (c_X12_no (-7) hr8 (CI.mk ?_))
        exact x_iret dX12_person_34 rfl (hR0 _ _ h9)
    · replace h9 := ifF hc5 h9
      refine e_aload_n dX12_person_12 rfl rfl ?_
      refine e_bipush (v := (-6)) dX12_person_13 rfl ?_
      obtain ⟨⟨r11, w12⟩, hr11, h9⟩ := elimP hN0 h9
      refine x_callVi (c := 12) (As := [.int (-6)]) (rest := []) okX12_no lkX12_263 rfl (by decide) rfl dX12_person_15 rfl rfl (Nat.le_of_ble_eq_true rfl) rfl (c_X12_no (-6) hr11 (CI.mk ?_))
      exact x_iret dX12_person_18 rfl (hR0 _ _ h9)
noncomputable def f_X12_slot (m : VM) (p1 : Int32) : Option (Int32) := if p1 = 121 then some 0 else if p1 = 119 then some 1 else if p1 = 115 then some 2 else if p1 = 114 then some 3 else if p1 = 112 then some 4 else if p1 = 108 then some 5 else some (-1)
theorem c_X12_slot {g : GG} {d : Nat} {ad : AD} {x m : VM} {Q : Option Value → VM → VM → Prop} (p1 : Int32) {r9 : Int32} (hf : f_X12_slot m p1 = some r9) (hq : Q (some (.int r9)) x m) : CX g d MX12_slot [.int p1] ad x m Q := by
  refine CX.to (Lv := [some (.int p1)]) okX12_slot (Nat.le_of_ble_eq_true rfl) rfl ?_
  obtain ⟨Φ0, hΦ⟩ : ∃ Φ : Option (Int32) → Prop, Φ = fun o => o = some r9 := ⟨_, rfl⟩
  have hN0 : Φ0 none → False := by rw [hΦ]; intro h; cases h
  have hR0 : ∀ z9, Φ0 (some z9) → Q (some (.int z9)) x m := by rw [hΦ]; intro z9 h; cases h; exact hq
  have h9 : Φ0 (f_X12_slot m p1) := by rw [hΦ]; exact hf
  clear hf hq hΦ
  unfold f_X12_slot at h9
  refine e_iload_n dX12_slot_0 rfl rfl ?_
  refine e_bipush (v := 121) dX12_slot_1 rfl ?_
  refine e_icmp_ne (tgt := 10) dX12_slot_3 rfl (fun hc1 => ?_) (fun hc1 => ?_)
  · replace h9 := ifF hc1 h9
    refine e_iload_n dX12_slot_10 rfl rfl ?_
    refine e_bipush (v := 119) dX12_slot_11 rfl ?_
    refine e_icmp_ne (tgt := 20) dX12_slot_13 rfl (fun hc2 => ?_) (fun hc2 => ?_)
    · replace h9 := ifF hc2 h9
      refine e_iload_n dX12_slot_20 rfl rfl ?_
      refine e_bipush (v := 115) dX12_slot_21 rfl ?_
      refine e_icmp_ne (tgt := 30) dX12_slot_23 rfl (fun hc3 => ?_) (fun hc3 => ?_)
      · replace h9 := ifF hc3 h9
        refine e_iload_n dX12_slot_30 rfl rfl ?_
        refine e_bipush (v := 114) dX12_slot_31 rfl ?_
        refine e_icmp_ne (tgt := 40) dX12_slot_33 rfl (fun hc4 => ?_) (fun hc4 => ?_)
        · replace h9 := ifF hc4 h9
          refine e_iload_n dX12_slot_40 rfl rfl ?_
          refine e_bipush (v := 112) dX12_slot_41 rfl ?_
          refine e_icmp_ne (tgt := 50) dX12_slot_43 rfl (fun hc5 => ?_) (fun hc5 => ?_)
          · replace h9 := ifF hc5 h9
            refine e_iload_n dX12_slot_50 rfl rfl ?_
            refine e_bipush (v := 108) dX12_slot_51 rfl ?_
            refine e_icmp_ne (tgt := 60) dX12_slot_53 rfl (fun hc6 => ?_) (fun hc6 => ?_)
            · replace h9 := ifF hc6 h9
              refine e_iconst (v := (-1)) dX12_slot_60 rfl ?_
              exact x_iret dX12_slot_61 rfl (hR0 _ h9)
            · replace h9 := ifT hc6 h9
              refine e_iconst (v := 5) dX12_slot_56 rfl ?_
              refine e_goto (tgt := 61) dX12_slot_57 rfl ?_
              exact x_iret dX12_slot_61 rfl (hR0 _ h9)
          · replace h9 := ifT hc5 h9
            refine e_iconst (v := 4) dX12_slot_46 rfl ?_
            refine e_goto (tgt := 61) dX12_slot_47 rfl ?_
            exact x_iret dX12_slot_61 rfl (hR0 _ h9)
        · replace h9 := ifT hc4 h9
          refine e_iconst (v := 3) dX12_slot_36 rfl ?_
          refine e_goto (tgt := 61) dX12_slot_37 rfl ?_
          exact x_iret dX12_slot_61 rfl (hR0 _ h9)
      · replace h9 := ifT hc3 h9
        refine e_iconst (v := 2) dX12_slot_26 rfl ?_
        refine e_goto (tgt := 61) dX12_slot_27 rfl ?_
        exact x_iret dX12_slot_61 rfl (hR0 _ h9)
    · replace h9 := ifT hc2 h9
      refine e_iconst (v := 1) dX12_slot_16 rfl ?_
      refine e_goto (tgt := 61) dX12_slot_17 rfl ?_
      exact x_iret dX12_slot_61 rfl (hR0 _ h9)
  · replace h9 := ifT hc1 h9
    refine e_iconst (v := 0) dX12_slot_6 rfl ?_
    refine e_goto (tgt := 61) dX12_slot_7 rfl ?_
    exact x_iret dX12_slot_61 rfl (hR0 _ h9)
noncomputable def f_X12_top (m : VM) (p1 : Int32) : Option (Int32) := if p1 = 0 then some 9 else if p1 = 1 then some 52 else if p1 = 2 then some 1 else if p1 = 3 then some 9 else if p1 = 4 then some 50 else some 99
theorem c_X12_top {g : GG} {d : Nat} {ad : AD} {x m : VM} {Q : Option Value → VM → VM → Prop} (p1 : Int32) {r9 : Int32} (hf : f_X12_top m p1 = some r9) (hq : Q (some (.int r9)) x m) : CX g d MX12_top [.int p1] ad x m Q := by
  refine CX.to (Lv := [some (.int p1)]) okX12_top (Nat.le_of_ble_eq_true rfl) rfl ?_
  obtain ⟨Φ0, hΦ⟩ : ∃ Φ : Option (Int32) → Prop, Φ = fun o => o = some r9 := ⟨_, rfl⟩
  have hN0 : Φ0 none → False := by rw [hΦ]; intro h; cases h
  have hR0 : ∀ z9, Φ0 (some z9) → Q (some (.int z9)) x m := by rw [hΦ]; intro z9 h; cases h; exact hq
  have h9 : Φ0 (f_X12_top m p1) := by rw [hΦ]; exact hf
  clear hf hq hΦ
  unfold f_X12_top at h9
  refine e_iload_n dX12_top_0 rfl rfl ?_
  refine e_if_ne (tgt := 9) dX12_top_1 rfl (fun hc1 => ?_) (fun hc1 => ?_)
  · replace h9 := ifF hc1 h9
    refine e_iload_n dX12_top_9 rfl rfl ?_
    refine e_iconst (v := 1) dX12_top_10 rfl ?_
    refine e_icmp_ne (tgt := 19) dX12_top_11 rfl (fun hc2 => ?_) (fun hc2 => ?_)
    · replace h9 := ifF hc2 h9
      refine e_iload_n dX12_top_19 rfl rfl ?_
      refine e_iconst (v := 2) dX12_top_20 rfl ?_
      refine e_icmp_ne (tgt := 28) dX12_top_21 rfl (fun hc3 => ?_) (fun hc3 => ?_)
      · replace h9 := ifF hc3 h9
        refine e_iload_n dX12_top_28 rfl rfl ?_
        refine e_iconst (v := 3) dX12_top_29 rfl ?_
        refine e_icmp_ne (tgt := 38) dX12_top_30 rfl (fun hc4 => ?_) (fun hc4 => ?_)
        · replace h9 := ifF hc4 h9
          refine e_iload_n dX12_top_38 rfl rfl ?_
          refine e_iconst (v := 4) dX12_top_39 rfl ?_
          refine e_icmp_ne (tgt := 48) dX12_top_40 rfl (fun hc5 => ?_) (fun hc5 => ?_)
          · replace h9 := ifF hc5 h9
            refine e_bipush (v := 99) dX12_top_48 rfl ?_
            exact x_iret dX12_top_50 rfl (hR0 _ h9)
          · replace h9 := ifT hc5 h9
            refine e_bipush (v := 50) dX12_top_43 rfl ?_
            refine e_goto (tgt := 50) dX12_top_45 rfl ?_
            exact x_iret dX12_top_50 rfl (hR0 _ h9)
        · replace h9 := ifT hc4 h9
          refine e_bipush (v := 9) dX12_top_33 rfl ?_
          refine e_goto (tgt := 50) dX12_top_35 rfl ?_
          exact x_iret dX12_top_50 rfl (hR0 _ h9)
      · replace h9 := ifT hc3 h9
        refine e_iconst (v := 1) dX12_top_24 rfl ?_
        refine e_goto (tgt := 50) dX12_top_25 rfl ?_
        exact x_iret dX12_top_50 rfl (hR0 _ h9)
    · replace h9 := ifT hc2 h9
      refine e_bipush (v := 52) dX12_top_14 rfl ?_
      refine e_goto (tgt := 50) dX12_top_16 rfl ?_
      exact x_iret dX12_top_50 rfl (hR0 _ h9)
  · replace h9 := ifT hc1 h9
    refine e_bipush (v := 9) dX12_top_4 rfl ?_
    refine e_goto (tgt := 50) dX12_top_6 rfl ?_
    exact x_iret dX12_top_50 rfl (hR0 _ h9)
noncomputable def j_X12_reads_188 (m : VM) (p1 : Int32) (v1 : Int32 × VM) (v4 : Int32 × Int32 × VM) (v11 : Int32 × Int32) (r7 : Int32) : (Int32 × Int32) ⊕ ((Int32 × Int32 × VM) ⊕ ((Int32 × VM) ⊕ (Option (Int32 × VM)))) := if v11.2 = (-1) then Sum.inr (Sum.inr (Sum.inr (some (v11.1, v4.2.2)))) else if inb r7 6 = true then Sum.inr (Sum.inl (v11.1, v4.2.1 + 1, setA v4.2.2 1270 0 (upd (v4.2.2.2.1 1270 0) r7.toNatClampNeg v11.2))) else Sum.inr (Sum.inr (Sum.inr none))
noncomputable def j_X12_reads_148 (m : VM) (p1 : Int32) (v1 : Int32 × VM) (v4 : Int32 × Int32 × VM) (v11 : Int32 × Int32) (r7 : Int32) (a18 : Int32) : (Int32 × Int32) ⊕ ((Int32 × Int32 × VM) ⊕ ((Int32 × VM) ⊕ (Option (Int32 × VM)))) := if v11.2 = 0 then j_X12_reads_188 m p1 v1 v4 v11 r7 else (f_X12_top v4.2.2 r7).elim (Sum.inr (Sum.inr (Sum.inr none))) (fun r20 => if r20 < a18 then j_X12_reads_188 m p1 v1 v4 v11 r7 else if r7 = 0 then if a18 = 0 then j_X12_reads_188 m p1 v1 v4 v11 r7 else Sum.inl (v11.1 + 1, a18) else Sum.inl (v11.1 + 1, a18))
noncomputable def b_X12_reads_92 (m : VM) (p1 : Int32) (v1 : Int32 × VM) (v4 : Int32 × Int32 × VM) (r7 : Int32) (v11 : Int32 × Int32) : (Int32 × Int32) ⊕ ((Int32 × Int32 × VM) ⊕ ((Int32 × VM) ⊕ (Option (Int32 × VM)))) := if (v1.2.2.1 1213 0 p1.toNatClampNeg) ≤ v11.1 then j_X12_reads_188 m p1 v1 v4 v11 r7 else if inb ((60 * p1) + v11.1) 480 = true then if (((v4.2.2.2.2.1 1215 0 (((60 * p1) + v11.1).toNatClampNeg)).toInt32) - 48) < 0 then j_X12_reads_188 m p1 v1 v4 v11 r7 else if (((v4.2.2.2.2.1 1215 0 (((60 * p1) + v11.1).toNatClampNeg)).toInt32) - 48) ≤ 9 then if v11.2 = (-1) then j_X12_reads_148 m p1 v1 v4 v11 r7 (((v4.2.2.2.2.1 1215 0 (((60 * p1) + v11.1).toNatClampNeg)).toInt32) - 48) else j_X12_reads_148 m p1 v1 v4 v11 r7 ((10 * v11.2) + (((v4.2.2.2.2.1 1215 0 (((60 * p1) + v11.1).toNatClampNeg)).toInt32) - 48)) else j_X12_reads_188 m p1 v1 v4 v11 r7 else Sum.inr (Sum.inr (Sum.inr none))
noncomputable def j_X12_reads_43 (m : VM) (p1 : Int32) (v1 : Int32 × VM) (v4 : Int32 × Int32 × VM) : (Int32 × Int32 × VM) ⊕ ((Int32 × VM) ⊕ (Option (Int32 × VM))) := if v4.1 = (v1.2.2.1 1213 0 p1.toNatClampNeg) then Sum.inr (Sum.inr (some (v1.2.2.1 1213 0 p1.toNatClampNeg, v4.2.2))) else if inb ((60 * p1) + v4.1) 480 = true then (f_X12_slot v4.2.2 ((v4.2.2.2.2.1 1215 0 (((60 * p1) + v4.1).toNatClampNeg)).toInt32)).elim (Sum.inr (Sum.inr none)) (fun r7 => if r7 = (-1) then Sum.inr (Sum.inr (some (v4.1, v4.2.2))) else if inb r7 6 = true then if (v4.2.2.2.1 1270 0 r7.toNatClampNeg) = (-1) then loopF (Sum.inr (Sum.inr none)) (b_X12_reads_92 m p1 v1 v4 r7) (v4.1 + 1, (-1)) else Sum.inr (Sum.inr (some (v4.1, v4.2.2))) else Sum.inr (Sum.inr none)) else Sum.inr (Sum.inr none)
noncomputable def b_X12_reads_33 (m : VM) (p1 : Int32) (v1 : Int32 × VM) (v4 : Int32 × Int32 × VM) : (Int32 × Int32 × VM) ⊕ ((Int32 × VM) ⊕ (Option (Int32 × VM))) := if v4.1 < (v1.2.2.1 1213 0 p1.toNatClampNeg) then j_X12_reads_43 m p1 v1 v4 else if v4.2.1 = 0 then j_X12_reads_43 m p1 v1 v4 else Sum.inr (Sum.inr (some ((-1), v4.2.2)))
noncomputable def b_X12_reads_2 (m : VM) (p1 : Int32) (v1 : Int32 × VM) : (Int32 × VM) ⊕ (Option (Int32 × VM)) := if 6 ≤ v1.1 then if inb p1 8 = true then loopF (Sum.inr none) (b_X12_reads_33 m p1 v1) (0, 0, v1.2) else Sum.inr none else if inb v1.1 6 = true then Sum.inl (v1.1 + 1, setA v1.2 1270 0 (upd (v1.2.2.1 1270 0) v1.1.toNatClampNeg (-1))) else Sum.inr none
noncomputable def f_X12_reads (m : VM) (p1 : Int32) : Option (Int32 × VM) := loopF none (b_X12_reads_2 m p1) (0, m)
theorem c_X12_reads {g : GG} {d : Nat} {ad : AD} {x m : VM} {Q : Option Value → VM → VM → Prop} (p1 : Int32) {r9 : Int32} {w9 : VM} (hf : f_X12_reads m p1 = some (r9, w9)) (hq : Q (some (.int r9)) x w9) : CX g (d + 1) MX12_reads [.ref (ad 12 0), .int p1] ad x m Q := by
  refine CX.to (Lv := [some (.ref (ad 12 0)), some (.int p1), none, none, none, none, none, none, none]) okX12_reads (Nat.le_of_ble_eq_true rfl) rfl ?_
  obtain ⟨Φ0, hΦ⟩ : ∃ Φ : Option (Int32 × VM) → Prop, Φ = fun o => o = some (r9, w9) := ⟨_, rfl⟩
  have hN0 : Φ0 none → False := by rw [hΦ]; intro h; cases h
  have hR0 : ∀ z9 y9, Φ0 (some (z9, y9)) → Q (some (.int z9)) x y9 := by rw [hΦ]; intro z9 y9 h; cases h; exact hq
  have h9 : Φ0 (f_X12_reads m p1) := by rw [hΦ]; exact hf
  clear hf hq hΦ
  unfold f_X12_reads at h9
  refine e_iconst (v := 0) dX12_reads_0 rfl ?_
  refine e_istore_n (L' := [some (.ref (ad 12 0)), some (.int p1), some (.int 0), none, none, none, none, none, none]) dX12_reads_1 rfl (by decide) rfl ?_
  refine loop_gen (b_X12_reads_2 m p1) none (fun v1 => EX g (d + 1) MX12_reads ad x v1.2 2 [some (.ref (ad 12 0)), some (.int p1), some (.int v1.1), none, none, none, none, none, none] [] Q) Φ0 hN0 (fun v1 Φ1 hB0_1 hO1 h9 => ?_) (0, m) h9
  have hN1 := fun h => hN0 (hO1 _ h)
  have hR1 := fun r9 x9 h => hR0 r9 x9 (hO1 _ h)
  have hB0_1 : ∀ (z0 : Int32) (z1 : VM), Φ1 (Sum.inl (z0, z1)) → EX g (d + 1) MX12_reads ad x z1 2 [some (.ref (ad 12 0)), some (.int p1), some (.int z0), none, none, none, none, none, none] [] Q := fun z0 z1 h => hB0_1 (z0, z1) h
  unfold b_X12_reads_2 at h9
  refine e_iload_n dX12_reads_2 rfl rfl ?_
  refine e_bipush (v := 6) dX12_reads_3 rfl ?_
  refine e_icmp_ge (tgt := 21) dX12_reads_5 rfl (fun hc2 => ?_) (fun hc2 => ?_)
  · replace h9 := ifT hc2 h9
    refine e_iconst (v := 0) dX12_reads_21 rfl ?_
    refine e_istore_n (L' := [some (.ref (ad 12 0)), some (.int p1), some (.int 0), none, none, none, none, none, none]) dX12_reads_22 rfl (by decide) rfl ?_
    refine e_aload_n dX12_reads_23 rfl rfl ?_
    refine g_1213 flX12_23 dX12_reads_24 ?_
    refine e_iload_n dX12_reads_27 rfl rfl ?_
    obtain ⟨k3, h9⟩ := chkP hN1 h9
    refine l_1213 dX12_reads_28 (inb_in k3) ?_
    refine e_istore_n (L' := [some (.ref (ad 12 0)), some (.int p1), some (.int 0), some (.int (v1.2.2.1 1213 0 p1.toNatClampNeg)), none, none, none, none, none]) dX12_reads_29 rfl (by decide) rfl ?_
    refine e_iconst (v := 0) dX12_reads_30 rfl ?_
    refine e_pc (pc' := 31) rfl ?_
    refine e_istore (L' := [some (.ref (ad 12 0)), some (.int p1), some (.int 0), some (.int (v1.2.2.1 1213 0 p1.toNatClampNeg)), some (.int 0), none, none, none, none]) dX12_reads_31 (by decide) rfl ?_
    refine loop_gen (b_X12_reads_33 m p1 v1) (Sum.inr none) (fun v4 => EX g (d + 1) MX12_reads ad x v4.2.2 33 [some (.ref (ad 12 0)), some (.int p1), some (.int v4.1), some (.int (v1.2.2.1 1213 0 p1.toNatClampNeg)), some (.int v4.2.1), none, none, none, none] [] Q) Φ1 hN1 (fun v4 Φ2 hB1_2 hO2 h9 => ?_) (0, 0, v1.2) h9
    have hN2 := fun h => hN1 (hO2 _ h)
    have hR2 := fun r9 x9 h => hR1 r9 x9 (hO2 _ h)
    have hB0_2 : ∀ (z0 : Int32) (z1 : VM), Φ2 (Sum.inr (Sum.inl (z0, z1))) → EX g (d + 1) MX12_reads ad x z1 2 [some (.ref (ad 12 0)), some (.int p1), some (.int z0), none, none, none, none, none, none] [] Q := fun z0 z1 h => hB0_1 z0 z1 (hO2 _ h)
    have hB1_2 : ∀ (z0 : Int32) (z1 : Int32) (z2 : VM), Φ2 (Sum.inl (z0, z1, z2)) → EX g (d + 1) MX12_reads ad x z2 33 [some (.ref (ad 12 0)), some (.int p1), some (.int z0), some (.int (v1.2.2.1 1213 0 p1.toNatClampNeg)), some (.int z1), none, none, none, none] [] Q := fun z0 z1 z2 h => hB1_2 (z0, z1, z2) h
    unfold b_X12_reads_33 at h9
    refine e_iload_n dX12_reads_33 rfl rfl ?_
    refine e_iload_n dX12_reads_34 rfl rfl ?_
    have hj43 : Φ2 (j_X12_reads_43 m p1 v1 v4) → EX g (d + 1) MX12_reads ad x v4.2.2 43 [some (.ref (ad 12 0)), some (.int p1), some (.int v4.1), some (.int (v1.2.2.1 1213 0 p1.toNatClampNeg)), some (.int v4.2.1), none, none, none, none] [] Q := by
      intro h9
      unfold j_X12_reads_43 at h9
      refine e_iload_n dX12_reads_43 rfl rfl ?_
      refine e_iload_n dX12_reads_44 rfl rfl ?_
      refine e_icmp_ne (tgt := 50) dX12_reads_45 rfl (fun hc5 => ?_) (fun hc5 => ?_)
      · replace h9 := ifF hc5 h9
        refine e_aload_n dX12_reads_50 rfl rfl ?_
        refine g_1215 flX12_29 dX12_reads_51 ?_
        refine e_bipush (v := 60) dX12_reads_54 rfl ?_
        refine e_iload_n dX12_reads_56 rfl rfl ?_
        refine e_imul dX12_reads_57 ?_
        refine e_iload_n dX12_reads_58 rfl rfl ?_
        refine e_iadd dX12_reads_59 ?_
        obtain ⟨k6, h9⟩ := chkP hN2 h9
        refine l_1215 dX12_reads_60 (inb_in k6) ?_
        refine e_pc (pc' := 61) rfl ?_
        refine e_l2i dX12_reads_61 rfl ?_
        obtain ⟨r7, hr7, h9⟩ := elimP hN2 h9
        refine x_callSi (As := [.int ((v4.2.2.2.2.1 1215 0 (((60 * p1) + v4.1).toNatClampNeg)).toInt32)]) (rest := []) okX12_slot lkX12_271 dX12_reads_62 rfl rfl (Nat.le_of_ble_eq_true rfl) (c_X12_slot ((v4.2.2.2.2.1 1215 0 (((60 * p1) + v4.1).toNatClampNeg)).toInt32) hr7 (CI.mk ?_))
        refine e_istore (L' := [some (.ref (ad 12 0)), some (.int p1), some (.int v4.1), some (.int (v1.2.2.1 1213 0 p1.toNatClampNeg)), some (.int v4.2.1), some (.int r7), none, none, none]) dX12_reads_65 (by decide) rfl ?_
        refine e_iload dX12_reads_67 rfl ?_
        refine e_iconst (v := (-1)) dX12_reads_69 rfl ?_
        refine e_icmp_eq (tgt := 84) dX12_reads_70 rfl (fun hc8 => ?_) (fun hc8 => ?_)
        · replace h9 := ifT hc8 h9
          refine e_iload_n dX12_reads_84 rfl rfl ?_
          exact x_iret dX12_reads_85 rfl (hR2 _ _ h9)
        · replace h9 := ifF hc8 h9
          refine e_aload_n dX12_reads_73 rfl rfl ?_
          refine g_1270 flX12_196 dX12_reads_74 ?_
          refine e_iload dX12_reads_77 rfl ?_
          obtain ⟨k9, h9⟩ := chkP hN2 h9
          refine l_1270 dX12_reads_79 (inb_in k9) ?_
          refine e_iconst (v := (-1)) dX12_reads_80 rfl ?_
          refine e_icmp_eq (tgt := 86) dX12_reads_81 rfl (fun hc10 => ?_) (fun hc10 => ?_)
          · replace h9 := ifT hc10 h9
            refine e_iinc (v := (v4.1 + 1)) (L' := [some (.ref (ad 12 0)), some (.int p1), some (.int (v4.1 + 1)), some (.int (v1.2.2.1 1213 0 p1.toNatClampNeg)), some (.int v4.2.1), some (.int r7), none, none, none]) dX12_reads_86 rfl rfl (by decide) rfl ?_
            refine e_iconst (v := (-1)) dX12_reads_89 rfl ?_
            refine e_istore (L' := [some (.ref (ad 12 0)), some (.int p1), some (.int (v4.1 + 1)), some (.int (v1.2.2.1 1213 0 p1.toNatClampNeg)), some (.int v4.2.1), some (.int r7), some (.int (-1)), none, none]) dX12_reads_90 (by decide) rfl ?_
            refine loop_gen (b_X12_reads_92 m p1 v1 v4 r7) (Sum.inr (Sum.inr none)) (fun v11 => EX g (d + 1) MX12_reads ad x v4.2.2 92 [some (.ref (ad 12 0)), some (.int p1), some (.int v11.1), some (.int (v1.2.2.1 1213 0 p1.toNatClampNeg)), some (.int v4.2.1), some (.int r7), some (.int v11.2), none, none] [] Q) Φ2 hN2 (fun v11 Φ3 hB2_3 hO3 h9 => ?_) (v4.1 + 1, (-1)) h9
            have hN3 := fun h => hN2 (hO3 _ h)
            have hR3 := fun r9 x9 h => hR2 r9 x9 (hO3 _ h)
            have hB0_3 : ∀ (z0 : Int32) (z1 : VM), Φ3 (Sum.inr (Sum.inr (Sum.inl (z0, z1)))) → EX g (d + 1) MX12_reads ad x z1 2 [some (.ref (ad 12 0)), some (.int p1), some (.int z0), none, none, none, none, none, none] [] Q := fun z0 z1 h => hB0_2 z0 z1 (hO3 _ h)
            have hB1_3 : ∀ (z0 : Int32) (z1 : Int32) (z2 : VM), Φ3 (Sum.inr (Sum.inl (z0, z1, z2))) → EX g (d + 1) MX12_reads ad x z2 33 [some (.ref (ad 12 0)), some (.int p1), some (.int z0), some (.int (v1.2.2.1 1213 0 p1.toNatClampNeg)), some (.int z1), none, none, none, none] [] Q := fun z0 z1 z2 h => hB1_2 z0 z1 z2 (hO3 _ h)
            have hB2_3 : ∀ (z0 : Int32) (z1 : Int32), Φ3 (Sum.inl (z0, z1)) → EX g (d + 1) MX12_reads ad x v4.2.2 92 [some (.ref (ad 12 0)), some (.int p1), some (.int z0), some (.int (v1.2.2.1 1213 0 p1.toNatClampNeg)), some (.int v4.2.1), some (.int r7), some (.int z1), none, none] [] Q := fun z0 z1 h => hB2_3 (z0, z1) h
            unfold b_X12_reads_92 at h9
            refine e_iload_n dX12_reads_92 rfl rfl ?_
            refine e_iload_n dX12_reads_93 rfl rfl ?_
            have hj188 : Φ3 (j_X12_reads_188 m p1 v1 v4 v11 r7) → EX g (d + 1) MX12_reads ad x v4.2.2 188 [some (.ref (ad 12 0)), some (.int p1), some (.int v11.1), some (.int (v1.2.2.1 1213 0 p1.toNatClampNeg)), some (.int v4.2.1), some (.int r7), some (.int v11.2), none, none] [] Q := by
              intro h9
              unfold j_X12_reads_188 at h9
              refine e_iload dX12_reads_188 rfl ?_
              refine e_iconst (v := (-1)) dX12_reads_190 rfl ?_
              refine e_icmp_ne (tgt := 196) dX12_reads_191 rfl (fun hc12 => ?_) (fun hc12 => ?_)
              · replace h9 := ifF hc12 h9
                refine e_aload_n dX12_reads_196 rfl rfl ?_
                refine g_1270 flX12_196 dX12_reads_197 ?_
                refine e_iload dX12_reads_200 rfl ?_
                refine e_iload dX12_reads_202 rfl ?_
                obtain ⟨k13, h9⟩ := chkP hN3 h9
                refine s_1270 dX12_reads_204 (inb_in k13) ?_
                refine e_iinc (v := (v4.2.1 + 1)) (L' := [some (.ref (ad 12 0)), some (.int p1), some (.int v11.1), some (.int (v1.2.2.1 1213 0 p1.toNatClampNeg)), some (.int (v4.2.1 + 1)), some (.int r7), some (.int v11.2), none, none]) dX12_reads_205 rfl rfl (by decide) rfl ?_
                refine e_goto (tgt := 33) dX12_reads_208 rfl ?_
                refine e_wk (L' := [some (.ref (ad 12 0)), some (.int p1), some (.int v11.1), some (.int (v1.2.2.1 1213 0 p1.toNatClampNeg)), some (.int (v4.2.1 + 1)), none, none, none, none]) (wkC (wkC (wkC (wkC (wkC (wkN (wkN (wkN (wkN wk0))))))))) ?_
                exact hB1_3 _ _ _ h9
              · replace h9 := ifT hc12 h9
                refine e_iload_n dX12_reads_194 rfl rfl ?_
                exact x_iret dX12_reads_195 rfl (hR3 _ _ h9)
            refine e_icmp_ge (tgt := 188) dX12_reads_94 rfl (fun hc14 => ?_) (fun hc14 => ?_)
            · replace h9 := ifT hc14 h9
              exact hj188 h9
            · replace h9 := ifF hc14 h9
              refine e_aload_n dX12_reads_97 rfl rfl ?_
              refine g_1215 flX12_29 dX12_reads_98 ?_
              refine e_bipush (v := 60) dX12_reads_101 rfl ?_
              refine e_iload_n dX12_reads_103 rfl rfl ?_
              refine e_imul dX12_reads_104 ?_
              refine e_iload_n dX12_reads_105 rfl rfl ?_
              refine e_iadd dX12_reads_106 ?_
              obtain ⟨k15, h9⟩ := chkP hN3 h9
              refine l_1215 dX12_reads_107 (inb_in k15) ?_
              refine e_pc (pc' := 108) rfl ?_
              refine e_l2i dX12_reads_108 rfl ?_
              refine e_bipush (v := 48) dX12_reads_109 rfl ?_
              refine e_isub dX12_reads_111 ?_
              refine e_istore (L' := [some (.ref (ad 12 0)), some (.int p1), some (.int v11.1), some (.int (v1.2.2.1 1213 0 p1.toNatClampNeg)), some (.int v4.2.1), some (.int r7), some (.int v11.2), some (.int (((v4.2.2.2.2.1 1215 0 (((60 * p1) + v11.1).toNatClampNeg)).toInt32) - 48)), none]) dX12_reads_112 (by decide) rfl ?_
              refine e_iload dX12_reads_114 rfl ?_
              refine e_if_lt (tgt := 188) dX12_reads_116 rfl (fun hc16 => ?_) (fun hc16 => ?_)
              · replace h9 := ifT hc16 h9
                refine e_wk (L' := [some (.ref (ad 12 0)), some (.int p1), some (.int v11.1), some (.int (v1.2.2.1 1213 0 p1.toNatClampNeg)), some (.int v4.2.1), some (.int r7), some (.int v11.2), none, none]) (wkC (wkC (wkC (wkC (wkC (wkC (wkC (wkN (wkN wk0))))))))) ?_
                exact hj188 h9
              · replace h9 := ifF hc16 h9
                refine e_iload dX12_reads_119 rfl ?_
                refine e_bipush (v := 9) dX12_reads_121 rfl ?_
                refine e_icmp_le (tgt := 129) dX12_reads_123 rfl (fun hc17 => ?_) (fun hc17 => ?_)
                · replace h9 := ifT hc17 h9
                  refine e_iload dX12_reads_129 rfl ?_
                  refine e_iconst (v := (-1)) dX12_reads_131 rfl ?_
                  have hj148 : ∀ (a18 : Int32), Φ3 (j_X12_reads_148 m p1 v1 v4 v11 r7 a18) → EX g (d + 1) MX12_reads ad x v4.2.2 148 [some (.ref (ad 12 0)), some (.int p1), some (.int v11.1), some (.int (v1.2.2.1 1213 0 p1.toNatClampNeg)), some (.int v4.2.1), some (.int r7), some (.int v11.2), none, none] [.int a18] Q := by
                    intro a18 h9
                    unfold j_X12_reads_148 at h9
                    refine e_istore (L' := [some (.ref (ad 12 0)), some (.int p1), some (.int v11.1), some (.int (v1.2.2.1 1213 0 p1.toNatClampNeg)), some (.int v4.2.1), some (.int r7), some (.int v11.2), none, some (.int a18)]) dX12_reads_148 (by decide) rfl ?_
                    refine e_iload dX12_reads_150 rfl ?_
                    refine e_if_eq (tgt := 188) dX12_reads_152 rfl (fun hc19 => ?_) (fun hc19 => ?_)
                    · replace h9 := ifT hc19 h9
                      refine e_wk (L' := [some (.ref (ad 12 0)), some (.int p1), some (.int v11.1), some (.int (v1.2.2.1 1213 0 p1.toNatClampNeg)), some (.int v4.2.1), some (.int r7), some (.int v11.2), none, none]) (wkC (wkC (wkC (wkC (wkC (wkC (wkC (wkN (wkN wk0))))))))) ?_
                      exact hj188 h9
                    · replace h9 := ifF hc19 h9
                      refine e_iload dX12_reads_155 rfl ?_
                      refine e_iload dX12_reads_157 rfl ?_
                      obtain ⟨r20, hr20, h9⟩ := elimP hN3 h9
                      refine x_callSi (As := [.int r7]) (rest := [.int a18]) okX12_top lkX12_274 dX12_reads_159 rfl rfl (Nat.le_of_ble_eq_true rfl) (c_X12_top r7 hr20 (CI.mk ?_))
                      refine e_icmp_gt (tgt := 188) dX12_reads_162 rfl (fun hc21 => ?_) (fun hc21 => ?_)
                      · replace h9 := ifT hc21 h9
                        refine e_wk (L' := [some (.ref (ad 12 0)), some (.int p1), some (.int v11.1), some (.int (v1.2.2.1 1213 0 p1.toNatClampNeg)), some (.int v4.2.1), some (.int r7), some (.int v11.2), none, none]) (wkC (wkC (wkC (wkC (wkC (wkC (wkC (wkN (wkN wk0))))))))) ?_
                        exact hj188 h9
                      · replace h9 := ifF hc21 h9
                        refine e_iload dX12_reads_165 rfl ?_
                        refine e_if_ne (tgt := 178) dX12_reads_167 rfl (fun hc22 => ?_) (fun hc22 => ?_)
                        · replace h9 := ifF hc22 h9
                          refine e_iload dX12_reads_178 rfl ?_
                          refine e_istore (L' := [some (.ref (ad 12 0)), some (.int p1), some (.int v11.1), some (.int (v1.2.2.1 1213 0 p1.toNatClampNeg)), some (.int v4.2.1), some (.int r7), some (.int a18), none, some (.int a18)]) dX12_reads_180 (by decide) rfl ?_
                          refine e_iinc (v := (v11.1 + 1)) (L' := [some (.ref (ad 12 0)), some (.int p1), some (.int (v11.1 + 1)), some (.int (v1.2.2.1 1213 0 p1.toNatClampNeg)), some (.int v4.2.1), some (.int r7), some (.int a18), none, some (.int a18)]) dX12_reads_182 rfl rfl (by decide) rfl ?_
                          refine e_goto (tgt := 92) dX12_reads_185 rfl ?_
                          refine e_wk (L' := [some (.ref (ad 12 0)), some (.int p1), some (.int (v11.1 + 1)), some (.int (v1.2.2.1 1213 0 p1.toNatClampNeg)), some (.int v4.2.1), some (.int r7), some (.int a18), none, none]) (wkC (wkC (wkC (wkC (wkC (wkC (wkC (wkN (wkN wk0))))))))) ?_
                          exact hB2_3 _ _ h9
                        · replace h9 := ifT hc22 h9
                          refine e_iload dX12_reads_170 rfl ?_
                          refine e_if_ne (tgt := 178) dX12_reads_172 rfl (fun hc23 => ?_) (fun hc23 => ?_)
                          · replace h9 := ifF hc23 h9
                            refine e_iload dX12_reads_178 rfl ?_
                            refine e_istore (L' := [some (.ref (ad 12 0)), some (.int p1), some (.int v11.1), some (.int (v1.2.2.1 1213 0 p1.toNatClampNeg)), some (.int v4.2.1), some (.int r7), some (.int a18), none, some (.int a18)]) dX12_reads_180 (by decide) rfl ?_
                            refine e_iinc (v := (v11.1 + 1)) (L' := [some (.ref (ad 12 0)), some (.int p1), some (.int (v11.1 + 1)), some (.int (v1.2.2.1 1213 0 p1.toNatClampNeg)), some (.int v4.2.1), some (.int r7), some (.int a18), none, some (.int a18)]) dX12_reads_182 rfl rfl (by decide) rfl ?_
                            refine e_goto (tgt := 92) dX12_reads_185 rfl ?_
                            refine e_wk (L' := [some (.ref (ad 12 0)), some (.int p1), some (.int (v11.1 + 1)), some (.int (v1.2.2.1 1213 0 p1.toNatClampNeg)), some (.int v4.2.1), some (.int r7), some (.int a18), none, none]) (wkC (wkC (wkC (wkC (wkC (wkC (wkC (wkN (wkN wk0))))))))) ?_
                            exact hB2_3 _ _ h9
                          · replace h9 := ifT hc23 h9
                            refine e_goto (tgt := 188) dX12_reads_175 rfl ?_
                            refine e_wk (L' := [some (.ref (ad 12 0)), some (.int p1), some (.int v11.1), some (.int (v1.2.2.1 1213 0 p1.toNatClampNeg)), some (.int v4.2.1), some (.int r7), some (.int v11.2), none, none]) (wkC (wkC (wkC (wkC (wkC (wkC (wkC (wkN (wkN wk0))))))))) ?_
                            exact hj188 h9
                  refine e_icmp_ne (tgt := 140) dX12_reads_132 rfl (fun hc24 => ?_) (fun hc24 => ?_)
                  · replace h9 := ifF hc24 h9
                    refine e_bipush (v := 10) dX12_reads_140 rfl ?_
                    refine e_iload dX12_reads_142 rfl ?_
                    refine e_imul dX12_reads_144 ?_
                    refine e_iload dX12_reads_145 rfl ?_
                    refine e_iadd dX12_reads_147 ?_
                    refine e_wk (L' := [some (.ref (ad 12 0)), some (.int p1), some (.int v11.1), some (.int (v1.2.2.1 1213 0 p1.toNatClampNeg)), some (.int v4.2.1), some (.int r7), some (.int v11.2), none, none]) (wkC (wkC (wkC (wkC (wkC (wkC (wkC (wkN (wkN wk0))))))))) ?_
                    exact hj148 ((10 * v11.2) + (((v4.2.2.2.2.1 1215 0 (((60 * p1) + v11.1).toNatClampNeg)).toInt32) - 48)) h9
                  · replace h9 := ifT hc24 h9
                    refine e_iload dX12_reads_135 rfl ?_
                    refine e_goto (tgt := 148) dX12_reads_137 rfl ?_
                    refine e_wk (L' := [some (.ref (ad 12 0)), some (.int p1), some (.int v11.1), some (.int (v1.2.2.1 1213 0 p1.toNatClampNeg)), some (.int v4.2.1), some (.int r7), some (.int v11.2), none, none]) (wkC (wkC (wkC (wkC (wkC (wkC (wkC (wkN (wkN wk0))))))))) ?_
                    exact hj148 (((v4.2.2.2.2.1 1215 0 (((60 * p1) + v11.1).toNatClampNeg)).toInt32) - 48) h9
                · replace h9 := ifF hc17 h9
                  refine e_goto (tgt := 188) dX12_reads_126 rfl ?_
                  refine e_wk (L' := [some (.ref (ad 12 0)), some (.int p1), some (.int v11.1), some (.int (v1.2.2.1 1213 0 p1.toNatClampNeg)), some (.int v4.2.1), some (.int r7), some (.int v11.2), none, none]) (wkC (wkC (wkC (wkC (wkC (wkC (wkC (wkN (wkN wk0))))))))) ?_
                  exact hj188 h9
          · replace h9 := ifF hc10 h9
            refine e_iload_n dX12_reads_84 rfl rfl ?_
            exact x_iret dX12_reads_85 rfl (hR2 _ _ h9)
      · replace h9 := ifT hc5 h9
        refine e_iload_n dX12_reads_48 rfl rfl ?_
        exact x_iret dX12_reads_49 rfl (hR2 _ _ h9)
    refine e_icmp_lt (tgt := 43) dX12_reads_35 rfl (fun hc25 => ?_) (fun hc25 => ?_)
    · replace h9 := ifT hc25 h9
      exact hj43 h9
    · replace h9 := ifF hc25 h9
      refine e_iload dX12_reads_38 rfl ?_
      refine e_if_ne (tgt := 211) dX12_reads_40 rfl (fun hc26 => ?_) (fun hc26 => ?_)
      · replace h9 := ifF hc26 h9
        refine e_iconst (v := (-1)) dX12_reads_211 rfl ?_
        exact x_iret dX12_reads_212 rfl (hR2 _ _ h9)
      · replace h9 := ifT hc26 h9
        exact hj43 h9
  · replace h9 := ifF hc2 h9
    refine e_aload_n dX12_reads_8 rfl rfl ?_
    refine g_1270 flX12_196 dX12_reads_9 ?_
    refine e_iload_n dX12_reads_12 rfl rfl ?_
    refine e_iconst (v := (-1)) dX12_reads_13 rfl ?_
    obtain ⟨k27, h9⟩ := chkP hN1 h9
    refine s_1270 dX12_reads_14 (inb_in k27) ?_
    refine e_iinc (v := (v1.1 + 1)) (L' := [some (.ref (ad 12 0)), some (.int p1), some (.int (v1.1 + 1)), none, none, none, none, none, none]) dX12_reads_15 rfl rfl (by decide) rfl ?_
    refine e_goto (tgt := 2) dX12_reads_18 rfl ?_
    exact hB0_1 _ _ h9
noncomputable def f_X12_isUnderOn (m : VM) (p1 : Int32) (p2 : Int32) : Option (Int32) := if inb p1 16 = true then if (m.2.1 1227 0 p1.toNatClampNeg) = 0 then some 0 else if inb p1 16 = true then if p2 < (m.2.1 1218 0 p1.toNatClampNeg) then some 0 else if inb p1 16 = true then if (m.2.1 1219 0 p1.toNatClampNeg) ≤ p2 then some 0 else some 1 else none else none else none
theorem c_X12_isUnderOn {g : GG} {d : Nat} {ad : AD} {x m : VM} {Q : Option Value → VM → VM → Prop} (p1 : Int32) (p2 : Int32) {r9 : Int32} (hf : f_X12_isUnderOn m p1 p2 = some r9) (hq : Q (some (.int r9)) x m) : CX g d MX12_isUnderOn [.ref (ad 12 0), .int p1, .int p2] ad x m Q := by
  refine CX.to (Lv := [some (.ref (ad 12 0)), some (.int p1), some (.int p2)]) okX12_isUnderOn (Nat.le_of_ble_eq_true rfl) rfl ?_
  obtain ⟨Φ0, hΦ⟩ : ∃ Φ : Option (Int32) → Prop, Φ = fun o => o = some r9 := ⟨_, rfl⟩
  have hN0 : Φ0 none → False := by rw [hΦ]; intro h; cases h
  have hR0 : ∀ z9, Φ0 (some z9) → Q (some (.int z9)) x m := by rw [hΦ]; intro z9 h; cases h; exact hq
  have h9 : Φ0 (f_X12_isUnderOn m p1 p2) := by rw [hΦ]; exact hf
  clear hf hq hΦ
  unfold f_X12_isUnderOn at h9
  refine e_aload_n dX12_isUnderOn_0 rfl rfl ?_
  refine g_1227 flX12_66 dX12_isUnderOn_1 ?_
  refine e_iload_n dX12_isUnderOn_4 rfl rfl ?_
  obtain ⟨k1, h9⟩ := chkP hN0 h9
  refine l_1227 dX12_isUnderOn_5 (inb_in k1) ?_
  refine e_if_eq (tgt := 33) dX12_isUnderOn_6 rfl (fun hc2 => ?_) (fun hc2 => ?_)
  · replace h9 := ifT hc2 h9
    refine e_iconst (v := 0) dX12_isUnderOn_33 rfl ?_
    exact x_zret dX12_isUnderOn_34 rfl (by decide) (hR0 _ h9)
  · replace h9 := ifF hc2 h9
    refine e_iload_n dX12_isUnderOn_9 rfl rfl ?_
    refine e_aload_n dX12_isUnderOn_10 rfl rfl ?_
    refine g_1218 flX12_39 dX12_isUnderOn_11 ?_
    refine e_iload_n dX12_isUnderOn_14 rfl rfl ?_
    obtain ⟨k3, h9⟩ := chkP hN0 h9
    refine l_1218 dX12_isUnderOn_15 (inb_in k3) ?_
    refine e_icmp_lt (tgt := 33) dX12_isUnderOn_16 rfl (fun hc4 => ?_) (fun hc4 => ?_)
    · replace h9 := ifT hc4 h9
      refine e_iconst (v := 0) dX12_isUnderOn_33 rfl ?_
      exact x_zret dX12_isUnderOn_34 rfl (by decide) (hR0 _ h9)
    · replace h9 := ifF hc4 h9
      refine e_iload_n dX12_isUnderOn_19 rfl rfl ?_
      refine e_aload_n dX12_isUnderOn_20 rfl rfl ?_
      refine g_1219 flX12_42 dX12_isUnderOn_21 ?_
      refine e_iload_n dX12_isUnderOn_24 rfl rfl ?_
      obtain ⟨k5, h9⟩ := chkP hN0 h9
      refine l_1219 dX12_isUnderOn_25 (inb_in k5) ?_
      refine e_icmp_ge (tgt := 33) dX12_isUnderOn_26 rfl (fun hc6 => ?_) (fun hc6 => ?_)
      · replace h9 := ifT hc6 h9
        refine e_iconst (v := 0) dX12_isUnderOn_33 rfl ?_
        exact x_zret dX12_isUnderOn_34 rfl (by decide) (hR0 _ h9)
      · replace h9 := ifF hc6 h9
        refine e_iconst (v := 1) dX12_isUnderOn_29 rfl ?_
        refine e_goto (tgt := 34) dX12_isUnderOn_30 rfl ?_
        exact x_zret dX12_isUnderOn_34 rfl (by decide) (hR0 _ h9)
noncomputable def b_X12_term_121 (m : VM) (p1 : Int32) (p2 : Int32) (v18 : Int32 × VM) : (Int32 × VM) ⊕ (Option (Int32 × VM)) := if 5 ≤ v18.1 then if inb p1 16 = true then if inb p1 16 = true then if inb p1 16 = true then if inb p1 16 = true then if inb p1 16 = true then if inb p1 16 = true then if inb p1 16 = true then Sum.inr (some ((setA (setA (setA (setA (setA (setA v18.2 1222 0 (upd (v18.2.2.1 1222 0) p1.toNatClampNeg 0)) 1223 0 (upd ((setA v18.2 1222 0 (upd (v18.2.2.1 1222 0) p1.toNatClampNeg 0)).2.1 1223 0) p1.toNatClampNeg 0)) 1224 0 (upd ((setA (setA v18.2 1222 0 (upd (v18.2.2.1 1222 0) p1.toNatClampNeg 0)) 1223 0 (upd ((setA v18.2 1222 0 (upd (v18.2.2.1 1222 0) p1.toNatClampNeg 0)).2.1 1223 0) p1.toNatClampNeg 0)).2.1 1224 0) p1.toNatClampNeg 0)) 1225 0 (upd ((setA (setA (setA v18.2 1222 0 (upd (v18.2.2.1 1222 0) p1.toNatClampNeg 0)) 1223 0 (upd ((setA v18.2 1222 0 (upd (v18.2.2.1 1222 0) p1.toNatClampNeg 0)).2.1 1223 0) p1.toNatClampNeg 0)) 1224 0 (upd ((setA (setA v18.2 1222 0 (upd (v18.2.2.1 1222 0) p1.toNatClampNeg 0)) 1223 0 (upd ((setA v18.2 1222 0 (upd (v18.2.2.1 1222 0) p1.toNatClampNeg 0)).2.1 1223 0) p1.toNatClampNeg 0)).2.1 1224 0) p1.toNatClampNeg 0)).2.1 1225 0) p1.toNatClampNeg 0)) 1228 0 (upd ((setA (setA (setA (setA v18.2 1222 0 (upd (v18.2.2.1 1222 0) p1.toNatClampNeg 0)) 1223 0 (upd ((setA v18.2 1222 0 (upd (v18.2.2.1 1222 0) p1.toNatClampNeg 0)).2.1 1223 0) p1.toNatClampNeg 0)) 1224 0 (upd ((setA (setA v18.2 1222 0 (upd (v18.2.2.1 1222 0) p1.toNatClampNeg 0)) 1223 0 (upd ((setA v18.2 1222 0 (upd (v18.2.2.1 1222 0) p1.toNatClampNeg 0)).2.1 1223 0) p1.toNatClampNeg 0)).2.1 1224 0) p1.toNatClampNeg 0)) 1225 0 (upd ((setA (setA (setA v18.2 1222 0 (upd (v18.2.2.1 1222 0) p1.toNatClampNeg 0)) 1223 0 (upd ((setA v18.2 1222 0 (upd (v18.2.2.1 1222 0) p1.toNatClampNeg 0)).2.1 1223 0) p1.toNatClampNeg 0)) 1224 0 (upd ((setA (setA v18.2 1222 0 (upd (v18.2.2.1 1222 0) p1.toNatClampNeg 0)) 1223 0 (upd ((setA v18.2 1222 0 (upd (v18.2.2.1 1222 0) p1.toNatClampNeg 0)).2.1 1223 0) p1.toNatClampNeg 0)).2.1 1224 0) p1.toNatClampNeg 0)).2.1 1225 0) p1.toNatClampNeg 0)).2.1 1228 0) p1.toNatClampNeg 0)) 1220 0 (upd ((setA (setA (setA (setA (setA v18.2 1222 0 (upd (v18.2.2.1 1222 0) p1.toNatClampNeg 0)) 1223 0 (upd ((setA v18.2 1222 0 (upd (v18.2.2.1 1222 0) p1.toNatClampNeg 0)).2.1 1223 0) p1.toNatClampNeg 0)) 1224 0 (upd ((setA (setA v18.2 1222 0 (upd (v18.2.2.1 1222 0) p1.toNatClampNeg 0)) 1223 0 (upd ((setA v18.2 1222 0 (upd (v18.2.2.1 1222 0) p1.toNatClampNeg 0)).2.1 1223 0) p1.toNatClampNeg 0)).2.1 1224 0) p1.toNatClampNeg 0)) 1225 0 (upd ((setA (setA (setA v18.2 1222 0 (upd (v18.2.2.1 1222 0) p1.toNatClampNeg 0)) 1223 0 (upd ((setA v18.2 1222 0 (upd (v18.2.2.1 1222 0) p1.toNatClampNeg 0)).2.1 1223 0) p1.toNatClampNeg 0)) 1224 0 (upd ((setA (setA v18.2 1222 0 (upd (v18.2.2.1 1222 0) p1.toNatClampNeg 0)) 1223 0 (upd ((setA v18.2 1222 0 (upd (v18.2.2.1 1222 0) p1.toNatClampNeg 0)).2.1 1223 0) p1.toNatClampNeg 0)).2.1 1224 0) p1.toNatClampNeg 0)).2.1 1225 0) p1.toNatClampNeg 0)) 1228 0 (upd ((setA (setA (setA (setA v18.2 1222 0 (upd (v18.2.2.1 1222 0) p1.toNatClampNeg 0)) 1223 0 (upd ((setA v18.2 1222 0 (upd (v18.2.2.1 1222 0) p1.toNatClampNeg 0)).2.1 1223 0) p1.toNatClampNeg 0)) 1224 0 (upd ((setA (setA v18.2 1222 0 (upd (v18.2.2.1 1222 0) p1.toNatClampNeg 0)) 1223 0 (upd ((setA v18.2 1222 0 (upd (v18.2.2.1 1222 0) p1.toNatClampNeg 0)).2.1 1223 0) p1.toNatClampNeg 0)).2.1 1224 0) p1.toNatClampNeg 0)) 1225 0 (upd ((setA (setA (setA v18.2 1222 0 (upd (v18.2.2.1 1222 0) p1.toNatClampNeg 0)) 1223 0 (upd ((setA v18.2 1222 0 (upd (v18.2.2.1 1222 0) p1.toNatClampNeg 0)).2.1 1223 0) p1.toNatClampNeg 0)) 1224 0 (upd ((setA (setA v18.2 1222 0 (upd (v18.2.2.1 1222 0) p1.toNatClampNeg 0)) 1223 0 (upd ((setA v18.2 1222 0 (upd (v18.2.2.1 1222 0) p1.toNatClampNeg 0)).2.1 1223 0) p1.toNatClampNeg 0)).2.1 1224 0) p1.toNatClampNeg 0)).2.1 1225 0) p1.toNatClampNeg 0)).2.1 1228 0) p1.toNatClampNeg 0)).2.1 1220 0) p1.toNatClampNeg (-1))).2.1 1219 0 p1.toNatClampNeg, setA (setA (setA (setA (setA (setA v18.2 1222 0 (upd (v18.2.2.1 1222 0) p1.toNatClampNeg 0)) 1223 0 (upd ((setA v18.2 1222 0 (upd (v18.2.2.1 1222 0) p1.toNatClampNeg 0)).2.1 1223 0) p1.toNatClampNeg 0)) 1224 0 (upd ((setA (setA v18.2 1222 0 (upd (v18.2.2.1 1222 0) p1.toNatClampNeg 0)) 1223 0 (upd ((setA v18.2 1222 0 (upd (v18.2.2.1 1222 0) p1.toNatClampNeg 0)).2.1 1223 0) p1.toNatClampNeg 0)).2.1 1224 0) p1.toNatClampNeg 0)) 1225 0 (upd ((setA (setA (setA v18.2 1222 0 (upd (v18.2.2.1 1222 0) p1.toNatClampNeg 0)) 1223 0 (upd ((setA v18.2 1222 0 (upd (v18.2.2.1 1222 0) p1.toNatClampNeg 0)).2.1 1223 0) p1.toNatClampNeg 0)) 1224 0 (upd ((setA (setA v18.2 1222 0 (upd (v18.2.2.1 1222 0) p1.toNatClampNeg 0)) 1223 0 (upd ((setA v18.2 1222 0 (upd (v18.2.2.1 1222 0) p1.toNatClampNeg 0)).2.1 1223 0) p1.toNatClampNeg 0)).2.1 1224 0) p1.toNatClampNeg 0)).2.1 1225 0) p1.toNatClampNeg 0)) 1228 0 (upd ((setA (setA (setA (setA v18.2 1222 0 (upd (v18.2.2.1 1222 0) p1.toNatClampNeg 0)) 1223 0 (upd ((setA v18.2 1222 0 (upd (v18.2.2.1 1222 0) p1.toNatClampNeg 0)).2.1 1223 0) p1.toNatClampNeg 0)) 1224 0 (upd ((setA (setA v18.2 1222 0 (upd (v18.2.2.1 1222 0) p1.toNatClampNeg 0)) 1223 0 (upd ((setA v18.2 1222 0 (upd (v18.2.2.1 1222 0) p1.toNatClampNeg 0)).2.1 1223 0) p1.toNatClampNeg 0)).2.1 1224 0) p1.toNatClampNeg 0)) 1225 0 (upd ((setA (setA (setA v18.2 1222 0 (upd (v18.2.2.1 1222 0) p1.toNatClampNeg 0)) 1223 0 (upd ((setA v18.2 1222 0 (upd (v18.2.2.1 1222 0) p1.toNatClampNeg 0)).2.1 1223 0) p1.toNatClampNeg 0)) 1224 0 (upd ((setA (setA v18.2 1222 0 (upd (v18.2.2.1 1222 0) p1.toNatClampNeg 0)) 1223 0 (upd ((setA v18.2 1222 0 (upd (v18.2.2.1 1222 0) p1.toNatClampNeg 0)).2.1 1223 0) p1.toNatClampNeg 0)).2.1 1224 0) p1.toNatClampNeg 0)).2.1 1225 0) p1.toNatClampNeg 0)).2.1 1228 0) p1.toNatClampNeg 0)) 1220 0 (upd ((setA (setA (setA (setA (setA v18.2 1222 0 (upd (v18.2.2.1 1222 0) p1.toNatClampNeg 0)) 1223 0 (upd ((setA v18.2 1222 0 (upd (v18.2.2.1 1222 0) p1.toNatClampNeg 0)).2.1 1223 0) p1.toNatClampNeg 0)) 1224 0 (upd ((setA (setA v18.2 1222 0 (upd (v18.2.2.1 1222 0) p1.toNatClampNeg 0)) 1223 0 (upd ((setA v18.2 1222 0 (upd (v18.2.2.1 1222 0) p1.toNatClampNeg 0)).2.1 1223 0) p1.toNatClampNeg 0)).2.1 1224 0) p1.toNatClampNeg 0)) 1225 0 (upd ((setA (setA (setA v18.2 1222 0 (upd (v18.2.2.1 1222 0) p1.toNatClampNeg 0)) 1223 0 (upd ((setA v18.2 1222 0 (upd (v18.2.2.1 1222 0) p1.toNatClampNeg 0)).2.1 1223 0) p1.toNatClampNeg 0)) 1224 0 (upd ((setA (setA v18.2 1222 0 (upd (v18.2.2.1 1222 0) p1.toNatClampNeg 0)) 1223 0 (upd ((setA v18.2 1222 0 (upd (v18.2.2.1 1222 0) p1.toNatClampNeg 0)).2.1 1223 0) p1.toNatClampNeg 0)).2.1 1224 0) p1.toNatClampNeg 0)).2.1 1225 0) p1.toNatClampNeg 0)) 1228 0 (upd ((setA (setA (setA (setA v18.2 1222 0 (upd (v18.2.2.1 1222 0) p1.toNatClampNeg 0)) 1223 0 (upd ((setA v18.2 1222 0 (upd (v18.2.2.1 1222 0) p1.toNatClampNeg 0)).2.1 1223 0) p1.toNatClampNeg 0)) 1224 0 (upd ((setA (setA v18.2 1222 0 (upd (v18.2.2.1 1222 0) p1.toNatClampNeg 0)) 1223 0 (upd ((setA v18.2 1222 0 (upd (v18.2.2.1 1222 0) p1.toNatClampNeg 0)).2.1 1223 0) p1.toNatClampNeg 0)).2.1 1224 0) p1.toNatClampNeg 0)) 1225 0 (upd ((setA (setA (setA v18.2 1222 0 (upd (v18.2.2.1 1222 0) p1.toNatClampNeg 0)) 1223 0 (upd ((setA v18.2 1222 0 (upd (v18.2.2.1 1222 0) p1.toNatClampNeg 0)).2.1 1223 0) p1.toNatClampNeg 0)) 1224 0 (upd ((setA (setA v18.2 1222 0 (upd (v18.2.2.1 1222 0) p1.toNatClampNeg 0)) 1223 0 (upd ((setA v18.2 1222 0 (upd (v18.2.2.1 1222 0) p1.toNatClampNeg 0)).2.1 1223 0) p1.toNatClampNeg 0)).2.1 1224 0) p1.toNatClampNeg 0)).2.1 1225 0) p1.toNatClampNeg 0)).2.1 1228 0) p1.toNatClampNeg 0)).2.1 1220 0) p1.toNatClampNeg (-1)))) else Sum.inr none else Sum.inr none else Sum.inr none else Sum.inr none else Sum.inr none else Sum.inr none else Sum.inr none else if inb (v18.1 + 1) 6 = true then if inb ((5 * p1) + v18.1) 80 = true then Sum.inl (v18.1 + 1, setA v18.2 1229 0 (upd (v18.2.2.1 1229 0) (((5 * p1) + v18.1).toNatClampNeg) (v18.2.2.1 1270 0 ((v18.1 + 1).toNatClampNeg)))) else Sum.inr none else Sum.inr none
noncomputable def b_X12_term_121_31 (m : VM) (p1 : Int32) (p2 : Int32) (v30 : Int32 × VM) : (Int32 × VM) ⊕ (Option (Int32 × VM)) := if 5 ≤ v30.1 then if inb p1 16 = true then if inb p1 16 = true then if inb p1 16 = true then if inb p1 16 = true then if inb p1 16 = true then if inb p1 16 = true then if inb p1 16 = true then Sum.inr (some ((setA (setA (setA (setA (setA (setA v30.2 1222 0 (upd (v30.2.2.1 1222 0) p1.toNatClampNeg 0)) 1223 0 (upd ((setA v30.2 1222 0 (upd (v30.2.2.1 1222 0) p1.toNatClampNeg 0)).2.1 1223 0) p1.toNatClampNeg 0)) 1224 0 (upd ((setA (setA v30.2 1222 0 (upd (v30.2.2.1 1222 0) p1.toNatClampNeg 0)) 1223 0 (upd ((setA v30.2 1222 0 (upd (v30.2.2.1 1222 0) p1.toNatClampNeg 0)).2.1 1223 0) p1.toNatClampNeg 0)).2.1 1224 0) p1.toNatClampNeg 0)) 1225 0 (upd ((setA (setA (setA v30.2 1222 0 (upd (v30.2.2.1 1222 0) p1.toNatClampNeg 0)) 1223 0 (upd ((setA v30.2 1222 0 (upd (v30.2.2.1 1222 0) p1.toNatClampNeg 0)).2.1 1223 0) p1.toNatClampNeg 0)) 1224 0 (upd ((setA (setA v30.2 1222 0 (upd (v30.2.2.1 1222 0) p1.toNatClampNeg 0)) 1223 0 (upd ((setA v30.2 1222 0 (upd (v30.2.2.1 1222 0) p1.toNatClampNeg 0)).2.1 1223 0) p1.toNatClampNeg 0)).2.1 1224 0) p1.toNatClampNeg 0)).2.1 1225 0) p1.toNatClampNeg 0)) 1228 0 (upd ((setA (setA (setA (setA v30.2 1222 0 (upd (v30.2.2.1 1222 0) p1.toNatClampNeg 0)) 1223 0 (upd ((setA v30.2 1222 0 (upd (v30.2.2.1 1222 0) p1.toNatClampNeg 0)).2.1 1223 0) p1.toNatClampNeg 0)) 1224 0 (upd ((setA (setA v30.2 1222 0 (upd (v30.2.2.1 1222 0) p1.toNatClampNeg 0)) 1223 0 (upd ((setA v30.2 1222 0 (upd (v30.2.2.1 1222 0) p1.toNatClampNeg 0)).2.1 1223 0) p1.toNatClampNeg 0)).2.1 1224 0) p1.toNatClampNeg 0)) 1225 0 (upd ((setA (setA (setA v30.2 1222 0 (upd (v30.2.2.1 1222 0) p1.toNatClampNeg 0)) 1223 0 (upd ((setA v30.2 1222 0 (upd (v30.2.2.1 1222 0) p1.toNatClampNeg 0)).2.1 1223 0) p1.toNatClampNeg 0)) 1224 0 (upd ((setA (setA v30.2 1222 0 (upd (v30.2.2.1 1222 0) p1.toNatClampNeg 0)) 1223 0 (upd ((setA v30.2 1222 0 (upd (v30.2.2.1 1222 0) p1.toNatClampNeg 0)).2.1 1223 0) p1.toNatClampNeg 0)).2.1 1224 0) p1.toNatClampNeg 0)).2.1 1225 0) p1.toNatClampNeg 0)).2.1 1228 0) p1.toNatClampNeg 0)) 1220 0 (upd ((setA (setA (setA (setA (setA v30.2 1222 0 (upd (v30.2.2.1 1222 0) p1.toNatClampNeg 0)) 1223 0 (upd ((setA v30.2 1222 0 (upd (v30.2.2.1 1222 0) p1.toNatClampNeg 0)).2.1 1223 0) p1.toNatClampNeg 0)) 1224 0 (upd ((setA (setA v30.2 1222 0 (upd (v30.2.2.1 1222 0) p1.toNatClampNeg 0)) 1223 0 (upd ((setA v30.2 1222 0 (upd (v30.2.2.1 1222 0) p1.toNatClampNeg 0)).2.1 1223 0) p1.toNatClampNeg 0)).2.1 1224 0) p1.toNatClampNeg 0)) 1225 0 (upd ((setA (setA (setA v30.2 1222 0 (upd (v30.2.2.1 1222 0) p1.toNatClampNeg 0)) 1223 0 (upd ((setA v30.2 1222 0 (upd (v30.2.2.1 1222 0) p1.toNatClampNeg 0)).2.1 1223 0) p1.toNatClampNeg 0)) 1224 0 (upd ((setA (setA v30.2 1222 0 (upd (v30.2.2.1 1222 0) p1.toNatClampNeg 0)) 1223 0 (upd ((setA v30.2 1222 0 (upd (v30.2.2.1 1222 0) p1.toNatClampNeg 0)).2.1 1223 0) p1.toNatClampNeg 0)).2.1 1224 0) p1.toNatClampNeg 0)).2.1 1225 0) p1.toNatClampNeg 0)) 1228 0 (upd ((setA (setA (setA (setA v30.2 1222 0 (upd (v30.2.2.1 1222 0) p1.toNatClampNeg 0)) 1223 0 (upd ((setA v30.2 1222 0 (upd (v30.2.2.1 1222 0) p1.toNatClampNeg 0)).2.1 1223 0) p1.toNatClampNeg 0)) 1224 0 (upd ((setA (setA v30.2 1222 0 (upd (v30.2.2.1 1222 0) p1.toNatClampNeg 0)) 1223 0 (upd ((setA v30.2 1222 0 (upd (v30.2.2.1 1222 0) p1.toNatClampNeg 0)).2.1 1223 0) p1.toNatClampNeg 0)).2.1 1224 0) p1.toNatClampNeg 0)) 1225 0 (upd ((setA (setA (setA v30.2 1222 0 (upd (v30.2.2.1 1222 0) p1.toNatClampNeg 0)) 1223 0 (upd ((setA v30.2 1222 0 (upd (v30.2.2.1 1222 0) p1.toNatClampNeg 0)).2.1 1223 0) p1.toNatClampNeg 0)) 1224 0 (upd ((setA (setA v30.2 1222 0 (upd (v30.2.2.1 1222 0) p1.toNatClampNeg 0)) 1223 0 (upd ((setA v30.2 1222 0 (upd (v30.2.2.1 1222 0) p1.toNatClampNeg 0)).2.1 1223 0) p1.toNatClampNeg 0)).2.1 1224 0) p1.toNatClampNeg 0)).2.1 1225 0) p1.toNatClampNeg 0)).2.1 1228 0) p1.toNatClampNeg 0)).2.1 1220 0) p1.toNatClampNeg (-1))).2.1 1219 0 p1.toNatClampNeg, setA (setA (setA (setA (setA (setA v30.2 1222 0 (upd (v30.2.2.1 1222 0) p1.toNatClampNeg 0)) 1223 0 (upd ((setA v30.2 1222 0 (upd (v30.2.2.1 1222 0) p1.toNatClampNeg 0)).2.1 1223 0) p1.toNatClampNeg 0)) 1224 0 (upd ((setA (setA v30.2 1222 0 (upd (v30.2.2.1 1222 0) p1.toNatClampNeg 0)) 1223 0 (upd ((setA v30.2 1222 0 (upd (v30.2.2.1 1222 0) p1.toNatClampNeg 0)).2.1 1223 0) p1.toNatClampNeg 0)).2.1 1224 0) p1.toNatClampNeg 0)) 1225 0 (upd ((setA (setA (setA v30.2 1222 0 (upd (v30.2.2.1 1222 0) p1.toNatClampNeg 0)) 1223 0 (upd ((setA v30.2 1222 0 (upd (v30.2.2.1 1222 0) p1.toNatClampNeg 0)).2.1 1223 0) p1.toNatClampNeg 0)) 1224 0 (upd ((setA (setA v30.2 1222 0 (upd (v30.2.2.1 1222 0) p1.toNatClampNeg 0)) 1223 0 (upd ((setA v30.2 1222 0 (upd (v30.2.2.1 1222 0) p1.toNatClampNeg 0)).2.1 1223 0) p1.toNatClampNeg 0)).2.1 1224 0) p1.toNatClampNeg 0)).2.1 1225 0) p1.toNatClampNeg 0)) 1228 0 (upd ((setA (setA (setA (setA v30.2 1222 0 (upd (v30.2.2.1 1222 0) p1.toNatClampNeg 0)) 1223 0 (upd ((setA v30.2 1222 0 (upd (v30.2.2.1 1222 0) p1.toNatClampNeg 0)).2.1 1223 0) p1.toNatClampNeg 0)) 1224 0 (upd ((setA (setA v30.2 1222 0 (upd (v30.2.2.1 1222 0) p1.toNatClampNeg 0)) 1223 0 (upd ((setA v30.2 1222 0 (upd (v30.2.2.1 1222 0) p1.toNatClampNeg 0)).2.1 1223 0) p1.toNatClampNeg 0)).2.1 1224 0) p1.toNatClampNeg 0)) 1225 0 (upd ((setA (setA (setA v30.2 1222 0 (upd (v30.2.2.1 1222 0) p1.toNatClampNeg 0)) 1223 0 (upd ((setA v30.2 1222 0 (upd (v30.2.2.1 1222 0) p1.toNatClampNeg 0)).2.1 1223 0) p1.toNatClampNeg 0)) 1224 0 (upd ((setA (setA v30.2 1222 0 (upd (v30.2.2.1 1222 0) p1.toNatClampNeg 0)) 1223 0 (upd ((setA v30.2 1222 0 (upd (v30.2.2.1 1222 0) p1.toNatClampNeg 0)).2.1 1223 0) p1.toNatClampNeg 0)).2.1 1224 0) p1.toNatClampNeg 0)).2.1 1225 0) p1.toNatClampNeg 0)).2.1 1228 0) p1.toNatClampNeg 0)) 1220 0 (upd ((setA (setA (setA (setA (setA v30.2 1222 0 (upd (v30.2.2.1 1222 0) p1.toNatClampNeg 0)) 1223 0 (upd ((setA v30.2 1222 0 (upd (v30.2.2.1 1222 0) p1.toNatClampNeg 0)).2.1 1223 0) p1.toNatClampNeg 0)) 1224 0 (upd ((setA (setA v30.2 1222 0 (upd (v30.2.2.1 1222 0) p1.toNatClampNeg 0)) 1223 0 (upd ((setA v30.2 1222 0 (upd (v30.2.2.1 1222 0) p1.toNatClampNeg 0)).2.1 1223 0) p1.toNatClampNeg 0)).2.1 1224 0) p1.toNatClampNeg 0)) 1225 0 (upd ((setA (setA (setA v30.2 1222 0 (upd (v30.2.2.1 1222 0) p1.toNatClampNeg 0)) 1223 0 (upd ((setA v30.2 1222 0 (upd (v30.2.2.1 1222 0) p1.toNatClampNeg 0)).2.1 1223 0) p1.toNatClampNeg 0)) 1224 0 (upd ((setA (setA v30.2 1222 0 (upd (v30.2.2.1 1222 0) p1.toNatClampNeg 0)) 1223 0 (upd ((setA v30.2 1222 0 (upd (v30.2.2.1 1222 0) p1.toNatClampNeg 0)).2.1 1223 0) p1.toNatClampNeg 0)).2.1 1224 0) p1.toNatClampNeg 0)).2.1 1225 0) p1.toNatClampNeg 0)) 1228 0 (upd ((setA (setA (setA (setA v30.2 1222 0 (upd (v30.2.2.1 1222 0) p1.toNatClampNeg 0)) 1223 0 (upd ((setA v30.2 1222 0 (upd (v30.2.2.1 1222 0) p1.toNatClampNeg 0)).2.1 1223 0) p1.toNatClampNeg 0)) 1224 0 (upd ((setA (setA v30.2 1222 0 (upd (v30.2.2.1 1222 0) p1.toNatClampNeg 0)) 1223 0 (upd ((setA v30.2 1222 0 (upd (v30.2.2.1 1222 0) p1.toNatClampNeg 0)).2.1 1223 0) p1.toNatClampNeg 0)).2.1 1224 0) p1.toNatClampNeg 0)) 1225 0 (upd ((setA (setA (setA v30.2 1222 0 (upd (v30.2.2.1 1222 0) p1.toNatClampNeg 0)) 1223 0 (upd ((setA v30.2 1222 0 (upd (v30.2.2.1 1222 0) p1.toNatClampNeg 0)).2.1 1223 0) p1.toNatClampNeg 0)) 1224 0 (upd ((setA (setA v30.2 1222 0 (upd (v30.2.2.1 1222 0) p1.toNatClampNeg 0)) 1223 0 (upd ((setA v30.2 1222 0 (upd (v30.2.2.1 1222 0) p1.toNatClampNeg 0)).2.1 1223 0) p1.toNatClampNeg 0)).2.1 1224 0) p1.toNatClampNeg 0)).2.1 1225 0) p1.toNatClampNeg 0)).2.1 1228 0) p1.toNatClampNeg 0)).2.1 1220 0) p1.toNatClampNeg (-1)))) else Sum.inr none else Sum.inr none else Sum.inr none else Sum.inr none else Sum.inr none else Sum.inr none else Sum.inr none else if inb (v30.1 + 1) 6 = true then if inb ((5 * p1) + v30.1) 80 = true then Sum.inl (v30.1 + 1, setA v30.2 1229 0 (upd (v30.2.2.1 1229 0) (((5 * p1) + v30.1).toNatClampNeg) (v30.2.2.1 1270 0 ((v30.1 + 1).toNatClampNeg)))) else Sum.inr none else Sum.inr none
noncomputable def f_X12_term (m : VM) (p1 : Int32) (p2 : Int32) : Option (Int32 × VM) := (f_X12_isOne m p1).elim none (fun r1 => if r1 = 0 then (f_X12_no m (-1)).elim none (fun r48p => some (r48p.1, r48p.2)) else (f_X12_wants m p2).elim none (fun r3 => if r3 = 0 then (f_X12_reads m p2).elim none (fun r5p => if ((setI r5p.2 1209 0 r5p.1).1 1209 0) = (-1) then (f_X12_isUnderOn (setI r5p.2 1209 0 r5p.1) p1 ((setI r5p.2 1209 0 r5p.1).1 1200 0)).elim none (fun r12 => if r12 = 0 then if inb p1 16 = true then if inb p1 16 = true then if ((setA (setA (setI r5p.2 1209 0 r5p.1) 1227 0 (upd ((setI r5p.2 1209 0 r5p.1).2.1 1227 0) p1.toNatClampNeg 1)) 1218 0 (upd ((setA (setI r5p.2 1209 0 r5p.1) 1227 0 (upd ((setI r5p.2 1209 0 r5p.1).2.1 1227 0) p1.toNatClampNeg 1)).2.1 1218 0) p1.toNatClampNeg ((setA (setI r5p.2 1209 0 r5p.1) 1227 0 (upd ((setI r5p.2 1209 0 r5p.1).2.1 1227 0) p1.toNatClampNeg 1)).1 1200 0))).2.1 1270 0 ((0 : Int32).toNatClampNeg)) = (-1) then if inb p1 16 = true then loopF none (b_X12_term_121_31 m p1 p2) (0, setA (setA (setA (setI r5p.2 1209 0 r5p.1) 1227 0 (upd ((setI r5p.2 1209 0 r5p.1).2.1 1227 0) p1.toNatClampNeg 1)) 1218 0 (upd ((setA (setI r5p.2 1209 0 r5p.1) 1227 0 (upd ((setI r5p.2 1209 0 r5p.1).2.1 1227 0) p1.toNatClampNeg 1)).2.1 1218 0) p1.toNatClampNeg ((setA (setI r5p.2 1209 0 r5p.1) 1227 0 (upd ((setI r5p.2 1209 0 r5p.1).2.1 1227 0) p1.toNatClampNeg 1)).1 1200 0))) 1219 0 (upd ((setA (setA (setI r5p.2 1209 0 r5p.1) 1227 0 (upd ((setI r5p.2 1209 0 r5p.1).2.1 1227 0) p1.toNatClampNeg 1)) 1218 0 (upd ((setA (setI r5p.2 1209 0 r5p.1) 1227 0 (upd ((setI r5p.2 1209 0 r5p.1).2.1 1227 0) p1.toNatClampNeg 1)).2.1 1218 0) p1.toNatClampNeg ((setA (setI r5p.2 1209 0 r5p.1) 1227 0 (upd ((setI r5p.2 1209 0 r5p.1).2.1 1227 0) p1.toNatClampNeg 1)).1 1200 0))).2.1 1219 0) p1.toNatClampNeg (((setA (setA (setI r5p.2 1209 0 r5p.1) 1227 0 (upd ((setI r5p.2 1209 0 r5p.1).2.1 1227 0) p1.toNatClampNeg 1)) 1218 0 (upd ((setA (setI r5p.2 1209 0 r5p.1) 1227 0 (upd ((setI r5p.2 1209 0 r5p.1).2.1 1227 0) p1.toNatClampNeg 1)).2.1 1218 0) p1.toNatClampNeg ((setA (setI r5p.2 1209 0 r5p.1) 1227 0 (upd ((setI r5p.2 1209 0 r5p.1).2.1 1227 0) p1.toNatClampNeg 1)).1 1200 0))).1 1200 0) + ((364 : Int32) * 1)))) else none else if inb p1 16 = true then loopF none (b_X12_term_121 m p1 p2) (0, setA (setA (setA (setI r5p.2 1209 0 r5p.1) 1227 0 (upd ((setI r5p.2 1209 0 r5p.1).2.1 1227 0) p1.toNatClampNeg 1)) 1218 0 (upd ((setA (setI r5p.2 1209 0 r5p.1) 1227 0 (upd ((setI r5p.2 1209 0 r5p.1).2.1 1227 0) p1.toNatClampNeg 1)).2.1 1218 0) p1.toNatClampNeg ((setA (setI r5p.2 1209 0 r5p.1) 1227 0 (upd ((setI r5p.2 1209 0 r5p.1).2.1 1227 0) p1.toNatClampNeg 1)).1 1200 0))) 1219 0 (upd ((setA (setA (setI r5p.2 1209 0 r5p.1) 1227 0 (upd ((setI r5p.2 1209 0 r5p.1).2.1 1227 0) p1.toNatClampNeg 1)) 1218 0 (upd ((setA (setI r5p.2 1209 0 r5p.1) 1227 0 (upd ((setI r5p.2 1209 0 r5p.1).2.1 1227 0) p1.toNatClampNeg 1)).2.1 1218 0) p1.toNatClampNeg ((setA (setI r5p.2 1209 0 r5p.1) 1227 0 (upd ((setI r5p.2 1209 0 r5p.1).2.1 1227 0) p1.toNatClampNeg 1)).1 1200 0))).2.1 1219 0) p1.toNatClampNeg (((setA (setA (setI r5p.2 1209 0 r5p.1) 1227 0 (upd ((setI r5p.2 1209 0 r5p.1).2.1 1227 0) p1.toNatClampNeg 1)) 1218 0 (upd ((setA (setI r5p.2 1209 0 r5p.1) 1227 0 (upd ((setI r5p.2 1209 0 r5p.1).2.1 1227 0) p1.toNatClampNeg 1)).2.1 1218 0) p1.toNatClampNeg ((setA (setI r5p.2 1209 0 r5p.1) 1227 0 (upd ((setI r5p.2 1209 0 r5p.1).2.1 1227 0) p1.toNatClampNeg 1)).1 1200 0))).1 1200 0) + (364 * ((setA (setA (setI r5p.2 1209 0 r5p.1) 1227 0 (upd ((setI r5p.2 1209 0 r5p.1).2.1 1227 0) p1.toNatClampNeg 1)) 1218 0 (upd ((setA (setI r5p.2 1209 0 r5p.1) 1227 0 (upd ((setI r5p.2 1209 0 r5p.1).2.1 1227 0) p1.toNatClampNeg 1)).2.1 1218 0) p1.toNatClampNeg ((setA (setI r5p.2 1209 0 r5p.1) 1227 0 (upd ((setI r5p.2 1209 0 r5p.1).2.1 1227 0) p1.toNatClampNeg 1)).1 1200 0))).2.1 1270 0 ((0 : Int32).toNatClampNeg)))))) else none else none else none else (f_X12_no (setI r5p.2 1209 0 r5p.1) (-6)).elim none (fun r42p => some (r42p.1, r42p.2))) else (f_X12_no (setI r5p.2 1209 0 r5p.1) (-6)).elim none (fun r9p => some (r9p.1, r9p.2))) else (f_X12_no m r3).elim none (fun r45p => some (r45p.1, r45p.2))))
theorem c_X12_term {g : GG} {d : Nat} {ad : AD} {x m : VM} {Q : Option Value → VM → VM → Prop} (p1 : Int32) (p2 : Int32) {r9 : Int32} {w9 : VM} (hf : f_X12_term m p1 p2 = some (r9, w9)) (hq : Q (some (.int r9)) x w9) : CX g (d + 2) MX12_term [.ref (ad 12 0), .int p1, .int p2] ad x m Q := by
  refine CX.to (Lv := [some (.ref (ad 12 0)), some (.int p1), some (.int p2), none, none]) okX12_term (Nat.le_of_ble_eq_true rfl) rfl ?_
  obtain ⟨Φ0, hΦ⟩ : ∃ Φ : Option (Int32 × VM) → Prop, Φ = fun o => o = some (r9, w9) := ⟨_, rfl⟩
  have hN0 : Φ0 none → False := by rw [hΦ]; intro h; cases h
  have hR0 : ∀ z9 y9, Φ0 (some (z9, y9)) → Q (some (.int z9)) x y9 := by rw [hΦ]; intro z9 y9 h; cases h; exact hq
  have h9 : Φ0 (f_X12_term m p1 p2) := by rw [hΦ]; exact hf
  clear hf hq hΦ
  unfold f_X12_term at h9
  refine e_aload_n dX12_term_0 rfl rfl ?_
  refine e_iload_n dX12_term_1 rfl rfl ?_
  obtain ⟨r1, hr1, h9⟩ := elimP hN0 h9
  refine x_callVi (c := 12) (As := [.int p1]) (rest := []) okX12_isOne lkX12_277 rfl (by decide) rfl dX12_term_2 rfl rfl (Nat.le_of_ble_eq_true rfl) rfl (c_X12_isOne p1 hr1 (CI.mk ?_))
  refine e_if_ne (tgt := 14) dX12_term_5 rfl (fun hc2 => ?_) (fun hc2 => ?_)
  · replace h9 := ifF hc2 h9
    refine e_aload_n dX12_term_14 rfl rfl ?_
    refine e_iload_n dX12_term_15 rfl rfl ?_
    obtain ⟨r3, hr3, h9⟩ := elimP hN0 h9
    refine x_callVi (c := 12) (As := [.int p2]) (rest := []) okX12_wants lkX12_280 rfl (by decide) rfl dX12_term_16 rfl rfl (Nat.le_of_ble_eq_true rfl) rfl (c_X12_wants p2 hr3 (CI.mk ?_))
    refine e_istore_n (L' := [some (.ref (ad 12 0)), some (.int p1), some (.int p2), some (.int r3), none]) dX12_term_19 rfl (by decide) rfl ?_
    refine e_iload_n dX12_term_20 rfl rfl ?_
    refine e_if_eq (tgt := 30) dX12_term_21 rfl (fun hc4 => ?_) (fun hc4 => ?_)
    · replace h9 := ifT hc4 h9
      refine e_aload_n dX12_term_30 rfl rfl ?_
      refine e_aload_n dX12_term_31 rfl rfl ?_
      refine e_iload_n dX12_term_32 rfl rfl ?_
      obtain ⟨⟨r5, w6⟩, hr5, h9⟩ := elimP hN0 h9
      refine x_callVi (c := 12) (As := [.int p2]) (rest := [.ref (ad 12 0)]) okX12_reads lkX12_283 rfl (by decide) rfl dX12_term_33 rfl rfl (Nat.le_of_ble_eq_true rfl) rfl (c_X12_reads p2 hr5 (CI.mk ?_))
      refine p_1209 flX12_13 dX12_term_36 ?_
      refine e_aload_n dX12_term_39 rfl rfl ?_
      refine g_1209 flX12_13 dX12_term_40 ?_
      refine e_iconst (v := (-1)) dX12_term_43 rfl ?_
      refine e_pc (pc' := 44) rfl ?_
      refine e_icmp_ne (tgt := 59) dX12_term_44 rfl (fun hc8 => ?_) (fun hc8 => ?_)
      · replace h9 := ifF hc8 h9
        refine e_aload_n dX12_term_59 rfl rfl ?_
        refine e_bipush (v := (-6)) dX12_term_60 rfl ?_
        obtain ⟨⟨r9, w10⟩, hr9, h9⟩ := elimP hN0 h9
        refine x_callVi (c := 12) (As := [.int (-6)]) (rest := []) okX12_no lkX12_263 rfl (by decide) rfl dX12_term_62 rfl rfl (Nat.le_of_ble_eq_true rfl) rfl (c_X12_no (-6) hr9 (CI.mk ?_))
        exact x_iret dX12_term_65 rfl (hR0 _ _ h9)
      · replace h9 := ifT hc8 h9
        refine e_aload_n dX12_term_47 rfl rfl ?_
        refine e_iload_n dX12_term_48 rfl rfl ?_
        refine e_aload_n dX12_term_49 rfl rfl ?_
        refine g_1200 flX12_286 dX12_term_50 ?_
        obtain ⟨r12, hr12, h9⟩ := elimP hN0 h9
        refine x_callVi (c := 12) (As := [.int p1, .int ((setI w6 1209 0 r5).1 1200 0)]) (rest := []) okX12_isUnderOn lkX12_289 rfl (by decide) rfl dX12_term_53 rfl rfl (Nat.le_of_ble_eq_true rfl) rfl (c_X12_isUnderOn p1 ((setI w6 1209 0 r5).1 1200 0) hr12 (CI.mk ?_))
        refine e_if_eq (tgt := 66) dX12_term_56 rfl (fun hc13 => ?_) (fun hc13 => ?_)
        · replace h9 := ifT hc13 h9
          refine e_aload_n dX12_term_66 rfl rfl ?_
          refine g_1227 flX12_66 dX12_term_67 ?_
          refine e_iload_n dX12_term_70 rfl rfl ?_
          refine e_iconst (v := 1) dX12_term_71 rfl ?_
          obtain ⟨k14, h9⟩ := chkP hN0 h9
          refine s_1227 dX12_term_72 (inb_in k14) (by decide) ?_
          refine e_aload_n dX12_term_73 rfl rfl ?_
          refine g_1218 flX12_39 dX12_term_74 ?_
          refine e_iload_n dX12_term_77 rfl rfl ?_
          refine e_pc (pc' := 78) rfl ?_
          refine e_aload_n dX12_term_78 rfl rfl ?_
          refine g_1200 flX12_286 dX12_term_79 ?_
          obtain ⟨k15, h9⟩ := chkP hN0 h9
          refine s_1218 dX12_term_82 (inb_in k15) ?_
          refine e_aload_n dX12_term_83 rfl rfl ?_
          refine g_1219 flX12_42 dX12_term_84 ?_
          refine e_iload_n dX12_term_87 rfl rfl ?_
          refine e_aload_n dX12_term_88 rfl rfl ?_
          refine g_1200 flX12_286 dX12_term_89 ?_
          refine e_sipush (v := 364) dX12_term_92 rfl ?_
          refine e_pc (pc' := 95) rfl ?_
          refine e_aload_n dX12_term_95 rfl rfl ?_
          refine g_1270 flX12_196 dX12_term_96 ?_
          refine e_iconst (v := 0) dX12_term_99 rfl ?_
          refine l_1270 dX12_term_100 (inb_in (by decide)) ?_
          refine e_iconst (v := (-1)) dX12_term_101 rfl ?_
          refine e_icmp_ne (tgt := 109) dX12_term_102 rfl (fun hc16 => ?_) (fun hc16 => ?_)
          · replace h9 := ifF hc16 h9
            refine e_aload_n dX12_term_109 rfl rfl ?_
            refine g_1270 flX12_196 dX12_term_110 ?_
            refine e_iconst (v := 0) dX12_term_113 rfl ?_
            refine l_1270 dX12_term_114 (inb_in (by decide)) ?_
            refine e_imul dX12_term_115 ?_
            refine e_iadd dX12_term_116 ?_
            obtain ⟨k17, h9⟩ := chkP hN0 h9
            refine s_1219 dX12_term_117 (inb_in k17) ?_
            refine e_iconst (v := 0) dX12_term_118 rfl ?_
            refine e_pc (pc' := 119) rfl ?_
            refine e_istore (L' := [some (.ref (ad 12 0)), some (.int p1), some (.int p2), some (.int r3), some (.int 0)]) dX12_term_119 (by decide) rfl ?_
            refine e_wk (L' := [some (.ref (ad 12 0)), some (.int p1), none, none, some (.int 0)]) (wkC (wkC (wkN (wkN (wkC wk0))))) ?_
            refine loop_gen (b_X12_term_121 m p1 p2) none (fun v18 => EX g (d + 2) MX12_term ad x v18.2 121 [some (.ref (ad 12 0)), some (.int p1), none, none, some (.int v18.1)] [] Q) Φ0 hN0 (fun v18 Φ1 hB0_1 hO1 h9 => ?_) (0, setA (setA (setA (setI w6 1209 0 r5) 1227 0 (upd ((setI w6 1209 0 r5).2.1 1227 0) p1.toNatClampNeg 1)) 1218 0 (upd ((setA (setI w6 1209 0 r5) 1227 0 (upd ((setI w6 1209 0 r5).2.1 1227 0) p1.toNatClampNeg 1)).2.1 1218 0) p1.toNatClampNeg ((setA (setI w6 1209 0 r5) 1227 0 (upd ((setI w6 1209 0 r5).2.1 1227 0) p1.toNatClampNeg 1)).1 1200 0))) 1219 0 (upd ((setA (setA (setI w6 1209 0 r5) 1227 0 (upd ((setI w6 1209 0 r5).2.1 1227 0) p1.toNatClampNeg 1)) 1218 0 (upd ((setA (setI w6 1209 0 r5) 1227 0 (upd ((setI w6 1209 0 r5).2.1 1227 0) p1.toNatClampNeg 1)).2.1 1218 0) p1.toNatClampNeg ((setA (setI w6 1209 0 r5) 1227 0 (upd ((setI w6 1209 0 r5).2.1 1227 0) p1.toNatClampNeg 1)).1 1200 0))).2.1 1219 0) p1.toNatClampNeg (((setA (setA (setI w6 1209 0 r5) 1227 0 (upd ((setI w6 1209 0 r5).2.1 1227 0) p1.toNatClampNeg 1)) 1218 0 (upd ((setA (setI w6 1209 0 r5) 1227 0 (upd ((setI w6 1209 0 r5).2.1 1227 0) p1.toNatClampNeg 1)).2.1 1218 0) p1.toNatClampNeg ((setA (setI w6 1209 0 r5) 1227 0 (upd ((setI w6 1209 0 r5).2.1 1227 0) p1.toNatClampNeg 1)).1 1200 0))).1 1200 0) + (364 * ((setA (setA (setI w6 1209 0 r5) 1227 0 (upd ((setI w6 1209 0 r5).2.1 1227 0) p1.toNatClampNeg 1)) 1218 0 (upd ((setA (setI w6 1209 0 r5) 1227 0 (upd ((setI w6 1209 0 r5).2.1 1227 0) p1.toNatClampNeg 1)).2.1 1218 0) p1.toNatClampNeg ((setA (setI w6 1209 0 r5) 1227 0 (upd ((setI w6 1209 0 r5).2.1 1227 0) p1.toNatClampNeg 1)).1 1200 0))).2.1 1270 0 ((0 : Int32).toNatClampNeg)))))) h9
            have hN1 := fun h => hN0 (hO1 _ h)
            have hR1 := fun r9 x9 h => hR0 r9 x9 (hO1 _ h)
            have hB0_1 : ∀ (z0 : Int32) (z1 : VM), Φ1 (Sum.inl (z0, z1)) → EX g (d + 2) MX12_term ad x z1 121 [some (.ref (ad 12 0)), some (.int p1), none, none, some (.int z0)] [] Q := fun z0 z1 h => hB0_1 (z0, z1) h
            unfold b_X12_term_121 at h9
            refine e_iload dX12_term_121 rfl ?_
            refine e_iconst (v := 5) dX12_term_123 rfl ?_
            refine e_icmp_ge (tgt := 153) dX12_term_124 rfl (fun hc19 => ?_) (fun hc19 => ?_)
            · replace h9 := ifT hc19 h9
              refine e_aload_n dX12_term_153 rfl rfl ?_
              refine g_1222 flX12_51 dX12_term_154 ?_
              refine e_iload_n dX12_term_157 rfl rfl ?_
              refine e_iconst (v := 0) dX12_term_158 rfl ?_
              obtain ⟨k20, h9⟩ := chkP hN1 h9
              refine s_1222 dX12_term_159 (inb_in k20) ?_
              refine e_aload_n dX12_term_160 rfl rfl ?_
              refine g_1223 flX12_54 dX12_term_161 ?_
              refine e_iload_n dX12_term_164 rfl rfl ?_
              refine e_pc (pc' := 165) rfl ?_
              refine e_iconst (v := 0) dX12_term_165 rfl ?_
              obtain ⟨k21, h9⟩ := chkP hN1 h9
              refine s_1223 dX12_term_166 (inb_in k21) ?_
              refine e_aload_n dX12_term_167 rfl rfl ?_
              refine g_1224 flX12_57 dX12_term_168 ?_
              refine e_iload_n dX12_term_171 rfl rfl ?_
              refine e_iconst (v := 0) dX12_term_172 rfl ?_
              obtain ⟨k22, h9⟩ := chkP hN1 h9
              refine s_1224 dX12_term_173 (inb_in k22) ?_
              refine e_aload_n dX12_term_174 rfl rfl ?_
              refine g_1225 flX12_60 dX12_term_175 ?_
              refine e_pc (pc' := 178) rfl ?_
              refine e_iload_n dX12_term_178 rfl rfl ?_
              refine e_iconst (v := 0) dX12_term_179 rfl ?_
              obtain ⟨k23, h9⟩ := chkP hN1 h9
              refine s_1225 dX12_term_180 (inb_in k23) ?_
              refine e_aload_n dX12_term_181 rfl rfl ?_
              refine g_1228 flX12_70 dX12_term_182 ?_
              refine e_iload_n dX12_term_185 rfl rfl ?_
              refine e_iconst (v := 0) dX12_term_186 rfl ?_
              obtain ⟨k24, h9⟩ := chkP hN1 h9
              refine s_1228 dX12_term_187 (inb_in k24) (by decide) ?_
              refine e_aload_n dX12_term_188 rfl rfl ?_
              refine e_pc (pc' := 189) rfl ?_
              refine g_1220 flX12_45 dX12_term_189 ?_
              refine e_iload_n dX12_term_192 rfl rfl ?_
              refine e_iconst (v := (-1)) dX12_term_193 rfl ?_
              obtain ⟨k25, h9⟩ := chkP hN1 h9
              refine s_1220 dX12_term_194 (inb_in k25) ?_
              refine e_aload_n dX12_term_195 rfl rfl ?_
              refine g_1219 flX12_42 dX12_term_196 ?_
              refine e_iload_n dX12_term_199 rfl rfl ?_
              obtain ⟨k26, h9⟩ := chkP hN1 h9
              refine l_1219 dX12_term_200 (inb_in k26) ?_
              exact x_iret dX12_term_201 rfl (hR1 _ _ h9)
            · replace h9 := ifF hc19 h9
              refine e_aload_n dX12_term_127 rfl rfl ?_
              refine g_1229 flX12_73 dX12_term_128 ?_
              refine e_iconst (v := 5) dX12_term_131 rfl ?_
              refine e_iload_n dX12_term_132 rfl rfl ?_
              refine e_imul dX12_term_133 ?_
              refine e_iload dX12_term_134 rfl ?_
              refine e_iadd dX12_term_136 ?_
              refine e_aload_n dX12_term_137 rfl rfl ?_
              refine e_pc (pc' := 138) rfl ?_
              refine g_1270 flX12_196 dX12_term_138 ?_
              refine e_iload dX12_term_141 rfl ?_
              refine e_iconst (v := 1) dX12_term_143 rfl ?_
              refine e_iadd dX12_term_144 ?_
              obtain ⟨k27, h9⟩ := chkP hN1 h9
              refine l_1270 dX12_term_145 (inb_in k27) ?_
              obtain ⟨k28, h9⟩ := chkP hN1 h9
              refine s_1229 dX12_term_146 (inb_in k28) ?_
              refine e_iinc (v := (v18.1 + 1)) (L' := [some (.ref (ad 12 0)), some (.int p1), none, none, some (.int (v18.1 + 1))]) dX12_term_147 rfl rfl (by decide) rfl ?_
              refine e_goto (tgt := 121) dX12_term_150 rfl ?_
              exact hB0_1 _ _ h9
          · replace h9 := ifT hc16 h9
            refine e_iconst (v := 1) dX12_term_105 rfl ?_
            refine e_goto (tgt := 115) dX12_term_106 rfl ?_
            refine e_imul dX12_term_115 ?_
            refine e_iadd dX12_term_116 ?_
            obtain ⟨k29, h9⟩ := chkP hN0 h9
            refine s_1219 dX12_term_117 (inb_in k29) ?_
            refine e_iconst (v := 0) dX12_term_118 rfl ?_
            refine e_istore (L' := [some (.ref (ad 12 0)), some (.int p1), some (.int p2), some (.int r3), some (.int 0)]) dX12_term_119 (by decide) rfl ?_
            refine e_wk (L' := [some (.ref (ad 12 0)), some (.int p1), none, none, some (.int 0)]) (wkC (wkC (wkN (wkN (wkC wk0))))) ?_
            refine loop_gen (b_X12_term_121_31 m p1 p2) none (fun v30 => EX g (d + 2) MX12_term ad x v30.2 121 [some (.ref (ad 12 0)), some (.int p1), none, none, some (.int v30.1)] [] Q) Φ0 hN0 (fun v30 Φ1 hB0_1 hO1 h9 => ?_) (0, setA (setA (setA (setI w6 1209 0 r5) 1227 0 (upd ((setI w6 1209 0 r5).2.1 1227 0) p1.toNatClampNeg 1)) 1218 0 (upd ((setA (setI w6 1209 0 r5) 1227 0 (upd ((setI w6 1209 0 r5).2.1 1227 0) p1.toNatClampNeg 1)).2.1 1218 0) p1.toNatClampNeg ((setA (setI w6 1209 0 r5) 1227 0 (upd ((setI w6 1209 0 r5).2.1 1227 0) p1.toNatClampNeg 1)).1 1200 0))) 1219 0 (upd ((setA (setA (setI w6 1209 0 r5) 1227 0 (upd ((setI w6 1209 0 r5).2.1 1227 0) p1.toNatClampNeg 1)) 1218 0 (upd ((setA (setI w6 1209 0 r5) 1227 0 (upd ((setI w6 1209 0 r5).2.1 1227 0) p1.toNatClampNeg 1)).2.1 1218 0) p1.toNatClampNeg ((setA (setI w6 1209 0 r5) 1227 0 (upd ((setI w6 1209 0 r5).2.1 1227 0) p1.toNatClampNeg 1)).1 1200 0))).2.1 1219 0) p1.toNatClampNeg (((setA (setA (setI w6 1209 0 r5) 1227 0 (upd ((setI w6 1209 0 r5).2.1 1227 0) p1.toNatClampNeg 1)) 1218 0 (upd ((setA (setI w6 1209 0 r5) 1227 0 (upd ((setI w6 1209 0 r5).2.1 1227 0) p1.toNatClampNeg 1)).2.1 1218 0) p1.toNatClampNeg ((setA (setI w6 1209 0 r5) 1227 0 (upd ((setI w6 1209 0 r5).2.1 1227 0) p1.toNatClampNeg 1)).1 1200 0))).1 1200 0) + ((364 : Int32) * 1)))) h9
            have hN1 := fun h => hN0 (hO1 _ h)
            have hR1 := fun r9 x9 h => hR0 r9 x9 (hO1 _ h)
            have hB0_1 : ∀ (z0 : Int32) (z1 : VM), Φ1 (Sum.inl (z0, z1)) → EX g (d + 2) MX12_term ad x z1 121 [some (.ref (ad 12 0)), some (.int p1), none, none, some (.int z0)] [] Q := fun z0 z1 h => hB0_1 (z0, z1) h
            unfold b_X12_term_121_31 at h9
            refine e_iload dX12_term_121 rfl ?_
            refine e_iconst (v := 5) dX12_term_123 rfl ?_
            refine e_icmp_ge (tgt := 153) dX12_term_124 rfl (fun hc32 => ?_) (fun hc32 => ?_)
            · replace h9 := ifT hc32 h9
              refine e_aload_n dX12_term_153 rfl rfl ?_
              refine g_1222 flX12_51 dX12_term_154 ?_
              refine e_iload_n dX12_term_157 rfl rfl ?_
              refine e_iconst (v := 0) dX12_term_158 rfl ?_
              obtain ⟨k33, h9⟩ := chkP hN1 h9
              refine s_1222 dX12_term_159 (inb_in k33) ?_
              refine e_aload_n dX12_term_160 rfl rfl ?_
              refine g_1223 flX12_54 dX12_term_161 ?_
              refine e_iload_n dX12_term_164 rfl rfl ?_
              refine e_pc (pc' := 165) rfl ?_
              refine e_iconst (v := 0) dX12_term_165 rfl ?_
              obtain ⟨k34, h9⟩ := chkP hN1 h9
              refine s_1223 dX12_term_166 (inb_in k34) ?_
              refine e_aload_n dX12_term_167 rfl rfl ?_
              refine g_1224 flX12_57 dX12_term_168 ?_
              refine e_iload_n dX12_term_171 rfl rfl ?_
              refine e_iconst (v := 0) dX12_term_172 rfl ?_
              obtain ⟨k35, h9⟩ := chkP hN1 h9
              refine s_1224 dX12_term_173 (inb_in k35) ?_
              refine e_aload_n dX12_term_174 rfl rfl ?_
              refine g_1225 flX12_60 dX12_term_175 ?_
              refine e_pc (pc' := 178) rfl ?_
              refine e_iload_n dX12_term_178 rfl rfl ?_
              refine e_iconst (v := 0) dX12_term_179 rfl ?_
              obtain ⟨k36, h9⟩ := chkP hN1 h9
              refine s_1225 dX12_term_180 (inb_in k36) ?_
              refine e_aload_n dX12_term_181 rfl rfl ?_
              refine g_1228 flX12_70 dX12_term_182 ?_
              refine e_iload_n dX12_term_185 rfl rfl ?_
              refine e_iconst (v := 0) dX12_term_186 rfl ?_
              obtain ⟨k37, h9⟩ := chkP hN1 h9
              refine s_1228 dX12_term_187 (inb_in k37) (by decide) ?_
              refine e_aload_n dX12_term_188 rfl rfl ?_
              refine e_pc (pc' := 189) rfl ?_
              refine g_1220 flX12_45 dX12_term_189 ?_
              refine e_iload_n dX12_term_192 rfl rfl ?_
              refine e_iconst (v := (-1)) dX12_term_193 rfl ?_
              obtain ⟨k38, h9⟩ := chkP hN1 h9
              refine s_1220 dX12_term_194 (inb_in k38) ?_
              refine e_aload_n dX12_term_195 rfl rfl ?_
              refine g_1219 flX12_42 dX12_term_196 ?_
              refine e_iload_n dX12_term_199 rfl rfl ?_
              obtain ⟨k39, h9⟩ := chkP hN1 h9
              refine l_1219 dX12_term_200 (inb_in k39) ?_
              exact x_iret dX12_term_201 rfl (hR1 _ _ h9)
            · replace h9 := ifF hc32 h9
              refine e_aload_n dX12_term_127 rfl rfl ?_
              refine g_1229 flX12_73 dX12_term_128 ?_
              refine e_iconst (v := 5) dX12_term_131 rfl ?_
              refine e_iload_n dX12_term_132 rfl rfl ?_
              refine e_imul dX12_term_133 ?_
              refine e_iload dX12_term_134 rfl ?_
              refine e_iadd dX12_term_136 ?_
              refine e_aload_n dX12_term_137 rfl rfl ?_
              refine e_pc (pc' := 138) rfl ?_
              refine g_1270 flX12_196 dX12_term_138 ?_
              refine e_iload dX12_term_141 rfl ?_
              refine e_iconst (v := 1) dX12_term_143 rfl ?_
              refine e_iadd dX12_term_144 ?_
              obtain ⟨k40, h9⟩ := chkP hN1 h9
              refine l_1270 dX12_term_145 (inb_in k40) ?_
              obtain ⟨k41, h9⟩ := chkP hN1 h9
              refine s_1229 dX12_term_146 (inb_in k41) ?_
              refine e_iinc (v := (v30.1 + 1)) (L' := [some (.ref (ad 12 0)), some (.int p1), none, none, some (.int (v30.1 + 1))]) dX12_term_147 rfl rfl (by decide) rfl ?_
              refine e_goto (tgt := 121) dX12_term_150 rfl ?_
              exact hB0_1 _ _ h9
        · replace h9 := ifF hc13 h9
          refine e_aload_n dX12_term_59 rfl rfl ?_
          refine e_bipush (v := (-6)) dX12_term_60 rfl ?_
          obtain ⟨⟨r42, w43⟩, hr42, h9⟩ := elimP hN0 h9
          refine x_callVi (c := 12) (As := [.int (-6)]) (rest := []) okX12_no lkX12_263 rfl (by decide) rfl dX12_term_62 rfl rfl (Nat.le_of_ble_eq_true rfl) rfl (c_X12_no (-6) hr42 (CI.mk ?_))
          exact x_iret dX12_term_65 rfl (hR0 _ _ h9)
    · replace h9 := ifF hc4 h9
      refine e_aload_n dX12_term_24 rfl rfl ?_
      refine e_iload_n dX12_term_25 rfl rfl ?_
      obtain ⟨⟨r45, w46⟩, hr45, h9⟩ := elimP hN0 h9
      refine x_callVi (c := 12) (As := [.int r3]) (rest := []) okX12_no lkX12_263 rfl (by decide) rfl dX12_term_26 rfl rfl (Nat.le_of_ble_eq_true rfl) rfl (c_X12_no r3 hr45 (CI.mk ?_))
      exact x_iret dX12_term_29 rfl (hR0 _ _ h9)
  · replace h9 := ifT hc2 h9
    refine e_aload_n dX12_term_8 rfl rfl ?_
    refine e_iconst (v := (-1)) dX12_term_9 rfl ?_
    obtain ⟨⟨r48, w49⟩, hr48, h9⟩ := elimP hN0 h9
    refine x_callVi (c := 12) (As := [.int (-1)]) (rest := []) okX12_no lkX12_263 rfl (by decide) rfl dX12_term_10 rfl rfl (Nat.le_of_ble_eq_true rfl) rfl (c_X12_no (-1) hr48 (CI.mk ?_))
    exact x_iret dX12_term_13 rfl (hR0 _ _ h9)
noncomputable def f_X12_fault (m : VM) : Option (Int32) := some (m.1 1209 0)
theorem c_X12_fault {g : GG} {d : Nat} {ad : AD} {x m : VM} {Q : Option Value → VM → VM → Prop} {r9 : Int32} (hf : f_X12_fault m = some r9) (hq : Q (some (.int r9)) x m) : CX g d MX12_fault [.ref (ad 12 0)] ad x m Q := by
  refine CX.to (Lv := [some (.ref (ad 12 0))]) okX12_fault (Nat.le_of_ble_eq_true rfl) rfl ?_
  obtain ⟨Φ0, hΦ⟩ : ∃ Φ : Option (Int32) → Prop, Φ = fun o => o = some r9 := ⟨_, rfl⟩
  have hN0 : Φ0 none → False := by rw [hΦ]; intro h; cases h
  have hR0 : ∀ z9, Φ0 (some z9) → Q (some (.int z9)) x m := by rw [hΦ]; intro z9 h; cases h; exact hq
  have h9 : Φ0 (f_X12_fault m) := by rw [hΦ]; exact hf
  clear hf hq hΦ
  unfold f_X12_fault at h9
  refine e_aload_n dX12_fault_0 rfl rfl ?_
  refine g_1209 flX12_13 dX12_fault_1 ?_
  exact x_iret dX12_fault_4 rfl (hR0 _ h9)
noncomputable def f_X12_law (m : VM) (p1 : Int32) (p2 : Int32) : Option (Int32 × VM) := if p1 < 0 then (f_X12_no m (-6)).elim none (fun r2p => some (r2p.1, r2p.2)) else if 4 < p1 then (f_X12_no m (-6)).elim none (fun r6p => some (r6p.1, r6p.2)) else if p2 < (m.1 1200 0) then (f_X12_no m (-6)).elim none (fun r10p => some (r10p.1, r10p.2)) else if p2 ≤ 4000 then if (m.1 1203 0) = 8 then (f_X12_no m (-7)).elim none (fun r17p => some (r17p.1, r17p.2)) else if inb (m.1 1203 0) 8 = true then if inb ((setA m 1230 0 (upd (m.2.1 1230 0) ((m.1 1203 0).toNatClampNeg) p1)).1 1203 0) 8 = true then some (((setA (setA m 1230 0 (upd (m.2.1 1230 0) ((m.1 1203 0).toNatClampNeg) p1)) 1231 0 (upd ((setA m 1230 0 (upd (m.2.1 1230 0) ((m.1 1203 0).toNatClampNeg) p1)).2.1 1231 0) (((setA m 1230 0 (upd (m.2.1 1230 0) ((m.1 1203 0).toNatClampNeg) p1)).1 1203 0).toNatClampNeg) p2)).1 1203 0) + 1, setI (setA (setA m 1230 0 (upd (m.2.1 1230 0) ((m.1 1203 0).toNatClampNeg) p1)) 1231 0 (upd ((setA m 1230 0 (upd (m.2.1 1230 0) ((m.1 1203 0).toNatClampNeg) p1)).2.1 1231 0) (((setA m 1230 0 (upd (m.2.1 1230 0) ((m.1 1203 0).toNatClampNeg) p1)).1 1203 0).toNatClampNeg) p2)) 1203 0 (((setA (setA m 1230 0 (upd (m.2.1 1230 0) ((m.1 1203 0).toNatClampNeg) p1)) 1231 0 (upd ((setA m 1230 0 (upd (m.2.1 1230 0) ((m.1 1203 0).toNatClampNeg) p1)).2.1 1231 0) (((setA m 1230 0 (upd (m.2.1 1230 0) ((m.1 1203 0).toNatClampNeg) p1)).1 1203 0).toNatClampNeg) p2)).1 1203 0) + 1)) else none else none else (f_X12_no m (-6)).elim none (fun r20p => some (r20p.1, r20p.2))
theorem c_X12_law {g : GG} {d : Nat} {ad : AD} {x m : VM} {Q : Option Value → VM → VM → Prop} (p1 : Int32) (p2 : Int32) {r9 : Int32} {w9 : VM} (hf : f_X12_law m p1 p2 = some (r9, w9)) (hq : Q (some (.int r9)) x w9) : CX g (d + 1) MX12_law [.ref (ad 12 0), .int p1, .int p2] ad x m Q := by
  refine CX.to (Lv := [some (.ref (ad 12 0)), some (.int p1), some (.int p2)]) okX12_law (Nat.le_of_ble_eq_true rfl) rfl ?_
  obtain ⟨Φ0, hΦ⟩ : ∃ Φ : Option (Int32 × VM) → Prop, Φ = fun o => o = some (r9, w9) := ⟨_, rfl⟩
  have hN0 : Φ0 none → False := by rw [hΦ]; intro h; cases h
  have hR0 : ∀ z9 y9, Φ0 (some (z9, y9)) → Q (some (.int z9)) x y9 := by rw [hΦ]; intro z9 y9 h; cases h; exact hq
  have h9 : Φ0 (f_X12_law m p1 p2) := by rw [hΦ]; exact hf
  clear hf hq hΦ
  unfold f_X12_law at h9
  refine e_iload_n dX12_law_0 rfl rfl ?_
  refine e_if_lt (tgt := 24) dX12_law_1 rfl (fun hc1 => ?_) (fun hc1 => ?_)
  · replace h9 := ifT hc1 h9
    refine e_aload_n dX12_law_24 rfl rfl ?_
    refine e_bipush (v := (-6)) dX12_law_25 rfl ?_
    obtain ⟨⟨r2, w3⟩, hr2, h9⟩ := elimP hN0 h9
    refine x_callVi (c := 12) (As := [.int (-6)]) (rest := []) okX12_no lkX12_263 rfl (by decide) rfl dX12_law_27 rfl rfl (Nat.le_of_ble_eq_true rfl) rfl (c_X12_no (-6) hr2 (CI.mk ?_))
    exact x_iret dX12_law_30 rfl (hR0 _ _ h9)
  · replace h9 := ifF hc1 h9
    refine e_iload_n dX12_law_4 rfl rfl ?_
    refine e_iconst (v := 4) dX12_law_5 rfl ?_
    refine e_icmp_gt (tgt := 24) dX12_law_6 rfl (fun hc5 => ?_) (fun hc5 => ?_)
    · replace h9 := ifT hc5 h9
      refine e_aload_n dX12_law_24 rfl rfl ?_
      refine e_bipush (v := (-6)) dX12_law_25 rfl ?_
      obtain ⟨⟨r6, w7⟩, hr6, h9⟩ := elimP hN0 h9
      refine x_callVi (c := 12) (As := [.int (-6)]) (rest := []) okX12_no lkX12_263 rfl (by decide) rfl dX12_law_27 rfl rfl (Nat.le_of_ble_eq_true rfl) rfl (c_X12_no (-6) hr6 (CI.mk ?_))
      exact x_iret dX12_law_30 rfl (hR0 _ _ h9)
    · replace h9 := ifF hc5 h9
      refine e_iload_n dX12_law_9 rfl rfl ?_
      refine e_aload_n dX12_law_10 rfl rfl ?_
      refine g_1200 flX12_286 dX12_law_11 ?_
      refine e_icmp_lt (tgt := 24) dX12_law_14 rfl (fun hc9 => ?_) (fun hc9 => ?_)
      · replace h9 := ifT hc9 h9
        refine e_aload_n dX12_law_24 rfl rfl ?_
        refine e_bipush (v := (-6)) dX12_law_25 rfl ?_
        obtain ⟨⟨r10, w11⟩, hr10, h9⟩ := elimP hN0 h9
        refine x_callVi (c := 12) (As := [.int (-6)]) (rest := []) okX12_no lkX12_263 rfl (by decide) rfl dX12_law_27 rfl rfl (Nat.le_of_ble_eq_true rfl) rfl (c_X12_no (-6) hr10 (CI.mk ?_))
        exact x_iret dX12_law_30 rfl (hR0 _ _ h9)
      · replace h9 := ifF hc9 h9
        refine e_iload_n dX12_law_17 rfl rfl ?_
        refine e_sipush (v := 4000) dX12_law_18 rfl ?_
        refine e_icmp_le (tgt := 31) dX12_law_21 rfl (fun hc13 => ?_) (fun hc13 => ?_)
        · replace h9 := ifT hc13 h9
          refine e_aload_n dX12_law_31 rfl rfl ?_
          refine g_1203 flX12_292 dX12_law_32 ?_
          refine e_bipush (v := 8) dX12_law_35 rfl ?_
          refine e_icmp_ne (tgt := 47) dX12_law_37 rfl (fun hc14 => ?_) (fun hc14 => ?_)
          · replace h9 := ifF hc14 h9
            refine e_aload_n dX12_law_47 rfl rfl ?_
            refine g_1230 flX12_76 dX12_law_48 ?_
            refine e_aload_n dX12_law_51 rfl rfl ?_
            refine g_1203 flX12_292 dX12_law_52 ?_
            refine e_iload_n dX12_law_55 rfl rfl ?_
            obtain ⟨k15, h9⟩ := chkP hN0 h9
            refine s_1230 dX12_law_56 (inb_in k15) ?_
            refine e_aload_n dX12_law_57 rfl rfl ?_
            refine g_1231 flX12_79 dX12_law_58 ?_
            refine e_pc (pc' := 61) rfl ?_
            refine e_aload_n dX12_law_61 rfl rfl ?_
            refine g_1203 flX12_292 dX12_law_62 ?_
            refine e_iload_n dX12_law_65 rfl rfl ?_
            obtain ⟨k16, h9⟩ := chkP hN0 h9
            refine s_1231 dX12_law_66 (inb_in k16) ?_
            refine e_aload_n dX12_law_67 rfl rfl ?_
            refine e_dup dX12_law_68 rfl ?_
            refine g_1203 flX12_292 dX12_law_69 ?_
            refine e_iconst (v := 1) dX12_law_72 rfl ?_
            refine e_iadd dX12_law_73 ?_
            refine e_pc (pc' := 74) rfl ?_
            refine e_dup_x1 dX12_law_74 rfl rfl ?_
            refine p_1203 flX12_292 dX12_law_75 ?_
            exact x_iret dX12_law_78 rfl (hR0 _ _ h9)
          · replace h9 := ifT hc14 h9
            refine e_aload_n dX12_law_40 rfl rfl ?_
            refine e_bipush (v := (-7)) dX12_law_41 rfl ?_
            obtain ⟨⟨r17, w18⟩, hr17, h9⟩ := elimP hN0 h9
            refine x_callVi (c := 12) (As := [.int (-7)]) (rest := []) okX12_no lkX12_263 rfl (by decide) rfl dX12_law_43 rfl rfl (Nat.le_of_ble_eq_true rfl) rfl (c_X12_no (-7) hr17 (CI.mk ?_))
            exact x_iret dX12_law_46 rfl (hR0 _ _ h9)
        · replace h9 := ifF hc13 h9
          refine e_aload_n dX12_law_24 rfl rfl ?_
          refine e_bipush (v := (-6)) dX12_law_25 rfl ?_
          obtain ⟨⟨r20, w21⟩, hr20, h9⟩ := elimP hN0 h9
          refine x_callVi (c := 12) (As := [.int (-6)]) (rest := []) okX12_no lkX12_263 rfl (by decide) rfl dX12_law_27 rfl rfl (Nat.le_of_ble_eq_true rfl) rfl (c_X12_no (-6) hr20 (CI.mk ?_))
          exact x_iret dX12_law_30 rfl (hR0 _ _ h9)
noncomputable def b_X12_countsOn_6 (m : VM) (p1 : Int32) (p2 : Int32) (p3 : Int32) (v1 : Int32 × Int32) : (Int32 × Int32) ⊕ (Option (Int32)) := if (m.1 1203 0) ≤ v1.2 then if inb ((5 * p1) + p2) 80 = true then if v1.1 = 0 then if (m.2.1 1229 0 (((5 * p1) + p2).toNatClampNeg)) = (-1) then if p2 = 0 then Sum.inr (some 52) else Sum.inr (some 0) else Sum.inr (some (m.2.1 1229 0 (((5 * p1) + p2).toNatClampNeg))) else if p2 = 0 then Sum.inr (some 52) else Sum.inr (some 0) else Sum.inr none else if inb v1.2 8 = true then if (m.2.1 1230 0 v1.2.toNatClampNeg) = p2 then if inb v1.2 8 = true then if p3 < (m.2.1 1231 0 v1.2.toNatClampNeg) then Sum.inl (v1.1, v1.2 + 1) else Sum.inl (1, v1.2 + 1) else Sum.inr none else Sum.inl (v1.1, v1.2 + 1) else Sum.inr none
noncomputable def f_X12_countsOn (m : VM) (p1 : Int32) (p2 : Int32) (p3 : Int32) : Option (Int32) := loopF none (b_X12_countsOn_6 m p1 p2 p3) (0, 0)
theorem c_X12_countsOn {g : GG} {d : Nat} {ad : AD} {x m : VM} {Q : Option Value → VM → VM → Prop} (p1 : Int32) (p2 : Int32) (p3 : Int32) {r9 : Int32} (hf : f_X12_countsOn m p1 p2 p3 = some r9) (hq : Q (some (.int r9)) x m) : CX g d MX12_countsOn [.ref (ad 12 0), .int p1, .int p2, .int p3] ad x m Q := by
  refine CX.to (Lv := [some (.ref (ad 12 0)), some (.int p1), some (.int p2), some (.int p3), none, none]) okX12_countsOn (Nat.le_of_ble_eq_true rfl) rfl ?_
  obtain ⟨Φ0, hΦ⟩ : ∃ Φ : Option (Int32) → Prop, Φ = fun o => o = some r9 := ⟨_, rfl⟩
  have hN0 : Φ0 none → False := by rw [hΦ]; intro h; cases h
  have hR0 : ∀ z9, Φ0 (some z9) → Q (some (.int z9)) x m := by rw [hΦ]; intro z9 h; cases h; exact hq
  have h9 : Φ0 (f_X12_countsOn m p1 p2 p3) := by rw [hΦ]; exact hf
  clear hf hq hΦ
  unfold f_X12_countsOn at h9
  refine e_iconst (v := 0) dX12_countsOn_0 rfl ?_
  refine e_istore (L' := [some (.ref (ad 12 0)), some (.int p1), some (.int p2), some (.int p3), some (.int 0), none]) dX12_countsOn_1 (by decide) rfl ?_
  refine e_iconst (v := 0) dX12_countsOn_3 rfl ?_
  refine e_istore (L' := [some (.ref (ad 12 0)), some (.int p1), some (.int p2), some (.int p3), some (.int 0), some (.int 0)]) dX12_countsOn_4 (by decide) rfl ?_
  refine loop_gen (b_X12_countsOn_6 m p1 p2 p3) none (fun v1 => EX g d MX12_countsOn ad x m 6 [some (.ref (ad 12 0)), some (.int p1), some (.int p2), some (.int p3), some (.int v1.1), some (.int v1.2)] [] Q) Φ0 hN0 (fun v1 Φ1 hB0_1 hO1 h9 => ?_) (0, 0) h9
  have hN1 := fun h => hN0 (hO1 _ h)
  have hR1 := fun r9 h => hR0 r9 (hO1 _ h)
  have hB0_1 : ∀ (z0 : Int32) (z1 : Int32), Φ1 (Sum.inl (z0, z1)) → EX g d MX12_countsOn ad x m 6 [some (.ref (ad 12 0)), some (.int p1), some (.int p2), some (.int p3), some (.int z0), some (.int z1)] [] Q := fun z0 z1 h => hB0_1 (z0, z1) h
  unfold b_X12_countsOn_6 at h9
  refine e_iload dX12_countsOn_6 rfl ?_
  refine e_aload_n dX12_countsOn_8 rfl rfl ?_
  refine g_1203 flX12_292 dX12_countsOn_9 ?_
  refine e_icmp_ge (tgt := 46) dX12_countsOn_12 rfl (fun hc2 => ?_) (fun hc2 => ?_)
  · replace h9 := ifT hc2 h9
    refine e_aload_n dX12_countsOn_46 rfl rfl ?_
    refine g_1229 flX12_73 dX12_countsOn_47 ?_
    refine e_iconst (v := 5) dX12_countsOn_50 rfl ?_
    refine e_iload_n dX12_countsOn_51 rfl rfl ?_
    refine e_imul dX12_countsOn_52 ?_
    refine e_iload_n dX12_countsOn_53 rfl rfl ?_
    refine e_iadd dX12_countsOn_54 ?_
    obtain ⟨k3, h9⟩ := chkP hN1 h9
    refine l_1229 dX12_countsOn_55 (inb_in k3) ?_
    refine e_pc (pc' := 56) rfl ?_
    refine e_istore (L' := [some (.ref (ad 12 0)), some (.int p1), some (.int p2), some (.int p3), some (.int v1.1), some (.int (m.2.1 1229 0 (((5 * p1) + p2).toNatClampNeg)))]) dX12_countsOn_56 (by decide) rfl ?_
    refine e_iload dX12_countsOn_58 rfl ?_
    refine e_if_ne (tgt := 69) dX12_countsOn_60 rfl (fun hc4 => ?_) (fun hc4 => ?_)
    · replace h9 := ifF hc4 h9
      refine e_iload_n dX12_countsOn_69 rfl rfl ?_
      refine e_if_ne (tgt := 78) dX12_countsOn_70 rfl (fun hc5 => ?_) (fun hc5 => ?_)
      · replace h9 := ifF hc5 h9
        refine e_iconst (v := 0) dX12_countsOn_78 rfl ?_
        refine e_goto (tgt := 84) dX12_countsOn_79 rfl ?_
        exact x_iret dX12_countsOn_84 rfl (hR1 _ h9)
      · replace h9 := ifT hc5 h9
        refine e_bipush (v := 52) dX12_countsOn_73 rfl ?_
        refine e_goto (tgt := 84) dX12_countsOn_75 rfl ?_
        exact x_iret dX12_countsOn_84 rfl (hR1 _ h9)
    · replace h9 := ifT hc4 h9
      refine e_iload dX12_countsOn_63 rfl ?_
      refine e_iconst (v := (-1)) dX12_countsOn_65 rfl ?_
      refine e_icmp_ne (tgt := 82) dX12_countsOn_66 rfl (fun hc6 => ?_) (fun hc6 => ?_)
      · replace h9 := ifF hc6 h9
        refine e_iload dX12_countsOn_82 rfl ?_
        exact x_iret dX12_countsOn_84 rfl (hR1 _ h9)
      · replace h9 := ifT hc6 h9
        refine e_iload_n dX12_countsOn_69 rfl rfl ?_
        refine e_if_ne (tgt := 78) dX12_countsOn_70 rfl (fun hc7 => ?_) (fun hc7 => ?_)
        · replace h9 := ifF hc7 h9
          refine e_iconst (v := 0) dX12_countsOn_78 rfl ?_
          refine e_goto (tgt := 84) dX12_countsOn_79 rfl ?_
          exact x_iret dX12_countsOn_84 rfl (hR1 _ h9)
        · replace h9 := ifT hc7 h9
          refine e_bipush (v := 52) dX12_countsOn_73 rfl ?_
          refine e_goto (tgt := 84) dX12_countsOn_75 rfl ?_
          exact x_iret dX12_countsOn_84 rfl (hR1 _ h9)
  · replace h9 := ifF hc2 h9
    refine e_aload_n dX12_countsOn_15 rfl rfl ?_
    refine g_1230 flX12_76 dX12_countsOn_16 ?_
    refine e_iload dX12_countsOn_19 rfl ?_
    obtain ⟨k8, h9⟩ := chkP hN1 h9
    refine l_1230 dX12_countsOn_21 (inb_in k8) ?_
    refine e_iload_n dX12_countsOn_22 rfl rfl ?_
    refine e_icmp_ne (tgt := 40) dX12_countsOn_23 rfl (fun hc9 => ?_) (fun hc9 => ?_)
    · replace h9 := ifF hc9 h9
      refine e_iinc (v := (v1.2 + 1)) (L' := [some (.ref (ad 12 0)), some (.int p1), some (.int p2), some (.int p3), some (.int v1.1), some (.int (v1.2 + 1))]) dX12_countsOn_40 rfl rfl (by decide) rfl ?_
      refine e_goto (tgt := 6) dX12_countsOn_43 rfl ?_
      exact hB0_1 _ _ h9
    · replace h9 := ifT hc9 h9
      refine e_aload_n dX12_countsOn_26 rfl rfl ?_
      refine g_1231 flX12_79 dX12_countsOn_27 ?_
      refine e_iload dX12_countsOn_30 rfl ?_
      obtain ⟨k10, h9⟩ := chkP hN1 h9
      refine l_1231 dX12_countsOn_32 (inb_in k10) ?_
      refine e_iload_n dX12_countsOn_33 rfl rfl ?_
      refine e_icmp_gt (tgt := 40) dX12_countsOn_34 rfl (fun hc11 => ?_) (fun hc11 => ?_)
      · replace h9 := ifT hc11 h9
        refine e_iinc (v := (v1.2 + 1)) (L' := [some (.ref (ad 12 0)), some (.int p1), some (.int p2), some (.int p3), some (.int v1.1), some (.int (v1.2 + 1))]) dX12_countsOn_40 rfl rfl (by decide) rfl ?_
        refine e_goto (tgt := 6) dX12_countsOn_43 rfl ?_
        exact hB0_1 _ _ h9
      · replace h9 := ifF hc11 h9
        refine e_iconst (v := 1) dX12_countsOn_37 rfl ?_
        refine e_istore (L' := [some (.ref (ad 12 0)), some (.int p1), some (.int p2), some (.int p3), some (.int 1), some (.int v1.2)]) dX12_countsOn_38 (by decide) rfl ?_
        refine e_iinc (v := (v1.2 + 1)) (L' := [some (.ref (ad 12 0)), some (.int p1), some (.int p2), some (.int p3), some (.int 1), some (.int (v1.2 + 1))]) dX12_countsOn_40 rfl rfl (by decide) rfl ?_
        refine e_goto (tgt := 6) dX12_countsOn_43 rfl ?_
        exact hB0_1 _ _ h9
noncomputable def f_X12_counts (m : VM) (p1 : Int32) (p2 : Int32) (p3 : Int32) : Option (Int32) := (f_X12_isOne m p1).elim none (fun r1 => if r1 = 0 then some (-1) else if p2 < 0 then some (-1) else if 5 ≤ p2 then some (-1) else if inb p1 16 = true then if (m.2.1 1227 0 p1.toNatClampNeg) = 0 then some (-1) else (f_X12_countsOn m p1 p2 p3).elim none (fun r7 => some r7) else none)
theorem c_X12_counts {g : GG} {d : Nat} {ad : AD} {x m : VM} {Q : Option Value → VM → VM → Prop} (p1 : Int32) (p2 : Int32) (p3 : Int32) {r9 : Int32} (hf : f_X12_counts m p1 p2 p3 = some r9) (hq : Q (some (.int r9)) x m) : CX g (d + 1) MX12_counts [.ref (ad 12 0), .int p1, .int p2, .int p3] ad x m Q := by
  refine CX.to (Lv := [some (.ref (ad 12 0)), some (.int p1), some (.int p2), some (.int p3)]) okX12_counts (Nat.le_of_ble_eq_true rfl) rfl ?_
  obtain ⟨Φ0, hΦ⟩ : ∃ Φ : Option (Int32) → Prop, Φ = fun o => o = some r9 := ⟨_, rfl⟩
  have hN0 : Φ0 none → False := by rw [hΦ]; intro h; cases h
  have hR0 : ∀ z9, Φ0 (some z9) → Q (some (.int z9)) x m := by rw [hΦ]; intro z9 h; cases h; exact hq
  have h9 : Φ0 (f_X12_counts m p1 p2 p3) := by rw [hΦ]; exact hf
  clear hf hq hΦ
  unfold f_X12_counts at h9
  refine e_aload_n dX12_counts_0 rfl rfl ?_
  refine e_iload_n dX12_counts_1 rfl rfl ?_
  obtain ⟨r1, hr1, h9⟩ := elimP hN0 h9
  refine x_callVi (c := 12) (As := [.int p1]) (rest := []) okX12_isOne lkX12_277 rfl (by decide) rfl dX12_counts_2 rfl rfl (Nat.le_of_ble_eq_true rfl) rfl (c_X12_isOne p1 hr1 (CI.mk ?_))
  refine e_if_eq (tgt := 36) dX12_counts_5 rfl (fun hc2 => ?_) (fun hc2 => ?_)
  · replace h9 := ifT hc2 h9
    refine e_iconst (v := (-1)) dX12_counts_36 rfl ?_
    exact x_iret dX12_counts_37 rfl (hR0 _ h9)
  · replace h9 := ifF hc2 h9
    refine e_iload_n dX12_counts_8 rfl rfl ?_
    refine e_if_lt (tgt := 36) dX12_counts_9 rfl (fun hc3 => ?_) (fun hc3 => ?_)
    · replace h9 := ifT hc3 h9
      refine e_iconst (v := (-1)) dX12_counts_36 rfl ?_
      exact x_iret dX12_counts_37 rfl (hR0 _ h9)
    · replace h9 := ifF hc3 h9
      refine e_iload_n dX12_counts_12 rfl rfl ?_
      refine e_iconst (v := 5) dX12_counts_13 rfl ?_
      refine e_icmp_ge (tgt := 36) dX12_counts_14 rfl (fun hc4 => ?_) (fun hc4 => ?_)
      · replace h9 := ifT hc4 h9
        refine e_iconst (v := (-1)) dX12_counts_36 rfl ?_
        exact x_iret dX12_counts_37 rfl (hR0 _ h9)
      · replace h9 := ifF hc4 h9
        refine e_aload_n dX12_counts_17 rfl rfl ?_
        refine g_1227 flX12_66 dX12_counts_18 ?_
        refine e_iload_n dX12_counts_21 rfl rfl ?_
        obtain ⟨k5, h9⟩ := chkP hN0 h9
        refine l_1227 dX12_counts_22 (inb_in k5) ?_
        refine e_if_eq (tgt := 36) dX12_counts_23 rfl (fun hc6 => ?_) (fun hc6 => ?_)
        · replace h9 := ifT hc6 h9
          refine e_iconst (v := (-1)) dX12_counts_36 rfl ?_
          exact x_iret dX12_counts_37 rfl (hR0 _ h9)
        · replace h9 := ifF hc6 h9
          refine e_aload_n dX12_counts_26 rfl rfl ?_
          refine e_iload_n dX12_counts_27 rfl rfl ?_
          refine e_iload_n dX12_counts_28 rfl rfl ?_
          refine e_iload_n dX12_counts_29 rfl rfl ?_
          obtain ⟨r7, hr7, h9⟩ := elimP hN0 h9
          refine x_callVi (c := 12) (As := [.int p1, .int p2, .int p3]) (rest := []) okX12_countsOn lkX12_295 rfl (by decide) rfl dX12_counts_30 rfl rfl (Nat.le_of_ble_eq_true rfl) rfl (c_X12_countsOn p1 p2 p3 hr7 (CI.mk ?_))
          refine e_goto (tgt := 37) dX12_counts_33 rfl ?_
          exact x_iret dX12_counts_37 rfl (hR0 _ h9)
noncomputable def b_X12_ill_45 (m : VM) (p1 : Int32) (p2 : Int32) (v7 : Int32 × VM) : (Int32 × VM) ⊕ (Option (Int32 × VM)) := if inb p2 8 = true then if (v7.2.2.1 1213 0 p2.toNatClampNeg) ≤ v7.1 then if inb p2 8 = true then Sum.inr (some (v7.2.2.1 1213 0 p2.toNatClampNeg, v7.2)) else Sum.inr none else if inb ((60 * p2) + v7.1) 480 = true then if inb ((60 * p1) + v7.1) 960 = true then Sum.inl (v7.1 + 1, setJ v7.2 1233 0 (vp_updL (v7.2.2.2.1 1233 0) (((60 * p1) + v7.1).toNatClampNeg) (v7.2.2.2.1 1215 0 (((60 * p2) + v7.1).toNatClampNeg)))) else Sum.inr none else Sum.inr none else Sum.inr none
noncomputable def f_X12_ill (m : VM) (p1 : Int32) (p2 : Int32) : Option (Int32 × VM) := (f_X12_isOne m p1).elim none (fun r1 => if r1 = 0 then (f_X12_no m (-1)).elim none (fun r16p => some (r16p.1, r16p.2)) else (f_X12_wants m p2).elim none (fun r3 => if r3 = 0 then if inb p2 8 = true then if inb p1 16 = true then loopF none (b_X12_ill_45 m p1 p2) (0, setA m 1232 0 (upd (m.2.1 1232 0) p1.toNatClampNeg (m.2.1 1213 0 p2.toNatClampNeg))) else none else none else (f_X12_no m r3).elim none (fun r13p => some (r13p.1, r13p.2))))
theorem c_X12_ill {g : GG} {d : Nat} {ad : AD} {x m : VM} {Q : Option Value → VM → VM → Prop} (p1 : Int32) (p2 : Int32) {r9 : Int32} {w9 : VM} (hf : f_X12_ill m p1 p2 = some (r9, w9)) (hq : Q (some (.int r9)) x w9) : CX g (d + 2) MX12_ill [.ref (ad 12 0), .int p1, .int p2] ad x m Q := by
  refine CX.to (Lv := [some (.ref (ad 12 0)), some (.int p1), some (.int p2), none, none]) okX12_ill (Nat.le_of_ble_eq_true rfl) rfl ?_
  obtain ⟨Φ0, hΦ⟩ : ∃ Φ : Option (Int32 × VM) → Prop, Φ = fun o => o = some (r9, w9) := ⟨_, rfl⟩
  have hN0 : Φ0 none → False := by rw [hΦ]; intro h; cases h
  have hR0 : ∀ z9 y9, Φ0 (some (z9, y9)) → Q (some (.int z9)) x y9 := by rw [hΦ]; intro z9 y9 h; cases h; exact hq
  have h9 : Φ0 (f_X12_ill m p1 p2) := by rw [hΦ]; exact hf
  clear hf hq hΦ
  unfold f_X12_ill at h9
  refine e_aload_n dX12_ill_0 rfl rfl ?_
  refine e_iload_n dX12_ill_1 rfl rfl ?_
  obtain ⟨r1, hr1, h9⟩ := elimP hN0 h9
  refine x_callVi (c := 12) (As := [.int p1]) (rest := []) okX12_isOne lkX12_277 rfl (by decide) rfl dX12_ill_2 rfl rfl (Nat.le_of_ble_eq_true rfl) rfl (c_X12_isOne p1 hr1 (CI.mk ?_))
  refine e_if_ne (tgt := 14) dX12_ill_5 rfl (fun hc2 => ?_) (fun hc2 => ?_)
  · replace h9 := ifF hc2 h9
    refine e_aload_n dX12_ill_14 rfl rfl ?_
    refine e_iload_n dX12_ill_15 rfl rfl ?_
    obtain ⟨r3, hr3, h9⟩ := elimP hN0 h9
    refine x_callVi (c := 12) (As := [.int p2]) (rest := []) okX12_wants lkX12_280 rfl (by decide) rfl dX12_ill_16 rfl rfl (Nat.le_of_ble_eq_true rfl) rfl (c_X12_wants p2 hr3 (CI.mk ?_))
    refine e_istore_n (L' := [some (.ref (ad 12 0)), some (.int p1), some (.int p2), some (.int r3), none]) dX12_ill_19 rfl (by decide) rfl ?_
    refine e_iload_n dX12_ill_20 rfl rfl ?_
    refine e_if_eq (tgt := 30) dX12_ill_21 rfl (fun hc4 => ?_) (fun hc4 => ?_)
    · replace h9 := ifT hc4 h9
      refine e_aload_n dX12_ill_30 rfl rfl ?_
      refine g_1232 flX12_82 dX12_ill_31 ?_
      refine e_iload_n dX12_ill_34 rfl rfl ?_
      refine e_aload_n dX12_ill_35 rfl rfl ?_
      refine g_1213 flX12_23 dX12_ill_36 ?_
      refine e_iload_n dX12_ill_39 rfl rfl ?_
      obtain ⟨k5, h9⟩ := chkP hN0 h9
      refine l_1213 dX12_ill_40 (inb_in k5) ?_
      obtain ⟨k6, h9⟩ := chkP hN0 h9
      refine s_1232 dX12_ill_41 (inb_in k6) ?_
      refine e_pc (pc' := 42) rfl ?_
      refine e_iconst (v := 0) dX12_ill_42 rfl ?_
      refine e_istore (L' := [some (.ref (ad 12 0)), some (.int p1), some (.int p2), some (.int r3), some (.int 0)]) dX12_ill_43 (by decide) rfl ?_
      refine e_wk (L' := [some (.ref (ad 12 0)), some (.int p1), some (.int p2), none, some (.int 0)]) (wkC (wkC (wkC (wkN (wkC wk0))))) ?_
      refine loop_gen (b_X12_ill_45 m p1 p2) none (fun v7 => EX g (d + 2) MX12_ill ad x v7.2 45 [some (.ref (ad 12 0)), some (.int p1), some (.int p2), none, some (.int v7.1)] [] Q) Φ0 hN0 (fun v7 Φ1 hB0_1 hO1 h9 => ?_) (0, setA m 1232 0 (upd (m.2.1 1232 0) p1.toNatClampNeg (m.2.1 1213 0 p2.toNatClampNeg))) h9
      have hN1 := fun h => hN0 (hO1 _ h)
      have hR1 := fun r9 x9 h => hR0 r9 x9 (hO1 _ h)
      have hB0_1 : ∀ (z0 : Int32) (z1 : VM), Φ1 (Sum.inl (z0, z1)) → EX g (d + 2) MX12_ill ad x z1 45 [some (.ref (ad 12 0)), some (.int p1), some (.int p2), none, some (.int z0)] [] Q := fun z0 z1 h => hB0_1 (z0, z1) h
      unfold b_X12_ill_45 at h9
      refine e_iload dX12_ill_45 rfl ?_
      refine e_aload_n dX12_ill_47 rfl rfl ?_
      refine g_1213 flX12_23 dX12_ill_48 ?_
      refine e_iload_n dX12_ill_51 rfl rfl ?_
      obtain ⟨k8, h9⟩ := chkP hN1 h9
      refine l_1213 dX12_ill_52 (inb_in k8) ?_
      refine e_icmp_ge (tgt := 86) dX12_ill_53 rfl (fun hc9 => ?_) (fun hc9 => ?_)
      · replace h9 := ifT hc9 h9
        refine e_aload_n dX12_ill_86 rfl rfl ?_
        refine g_1213 flX12_23 dX12_ill_87 ?_
        refine e_iload_n dX12_ill_90 rfl rfl ?_
        obtain ⟨k10, h9⟩ := chkP hN1 h9
        refine l_1213 dX12_ill_91 (inb_in k10) ?_
        exact x_iret dX12_ill_92 rfl (hR1 _ _ h9)
      · replace h9 := ifF hc9 h9
        refine e_aload_n dX12_ill_56 rfl rfl ?_
        refine g_1233 flX12_85 dX12_ill_57 ?_
        refine e_bipush (v := 60) dX12_ill_60 rfl ?_
        refine e_iload_n dX12_ill_62 rfl rfl ?_
        refine e_imul dX12_ill_63 ?_
        refine e_iload dX12_ill_64 rfl ?_
        refine e_iadd dX12_ill_66 ?_
        refine e_aload_n dX12_ill_67 rfl rfl ?_
        refine e_pc (pc' := 68) rfl ?_
        refine g_1215 flX12_29 dX12_ill_68 ?_
        refine e_bipush (v := 60) dX12_ill_71 rfl ?_
        refine e_iload_n dX12_ill_73 rfl rfl ?_
        refine e_imul dX12_ill_74 ?_
        refine e_iload dX12_ill_75 rfl ?_
        refine e_iadd dX12_ill_77 ?_
        obtain ⟨k11, h9⟩ := chkP hN1 h9
        refine l_1215 dX12_ill_78 (inb_in k11) ?_
        obtain ⟨k12, h9⟩ := chkP hN1 h9
        refine s_1233 dX12_ill_79 (inb_in k12) ?_
        refine e_iinc (v := (v7.1 + 1)) (L' := [some (.ref (ad 12 0)), some (.int p1), some (.int p2), none, some (.int (v7.1 + 1))]) dX12_ill_80 rfl rfl (by decide) rfl ?_
        refine e_pc (pc' := 83) rfl ?_
        refine e_goto (tgt := 45) dX12_ill_83 rfl ?_
        exact hB0_1 _ _ h9
    · replace h9 := ifF hc4 h9
      refine e_aload_n dX12_ill_24 rfl rfl ?_
      refine e_iload_n dX12_ill_25 rfl rfl ?_
      obtain ⟨⟨r13, w14⟩, hr13, h9⟩ := elimP hN0 h9
      refine x_callVi (c := 12) (As := [.int r3]) (rest := []) okX12_no lkX12_263 rfl (by decide) rfl dX12_ill_26 rfl rfl (Nat.le_of_ble_eq_true rfl) rfl (c_X12_no r3 hr13 (CI.mk ?_))
      exact x_iret dX12_ill_29 rfl (hR0 _ _ h9)
  · replace h9 := ifT hc2 h9
    refine e_aload_n dX12_ill_8 rfl rfl ?_
    refine e_iconst (v := (-1)) dX12_ill_9 rfl ?_
    obtain ⟨⟨r16, w17⟩, hr16, h9⟩ := elimP hN0 h9
    refine x_callVi (c := 12) (As := [.int (-1)]) (rest := []) okX12_no lkX12_263 rfl (by decide) rfl dX12_ill_10 rfl rfl (Nat.le_of_ble_eq_true rfl) rfl (c_X12_no (-1) hr16 (CI.mk ?_))
    exact x_iret dX12_ill_13 rfl (hR0 _ _ h9)
noncomputable def f_X12_isLent (m : VM) (p1 : Int32) (p2 : Int32) : Option (Int32) := if inb p1 16 = true then if (m.2.1 1220 0 p1.toNatClampNeg) = (-1) then some 0 else if inb p1 16 = true then if (m.2.1 1220 0 p1.toNatClampNeg) ≤ p2 then some 0 else some 1 else none else none
theorem c_X12_isLent {g : GG} {d : Nat} {ad : AD} {x m : VM} {Q : Option Value → VM → VM → Prop} (p1 : Int32) (p2 : Int32) {r9 : Int32} (hf : f_X12_isLent m p1 p2 = some r9) (hq : Q (some (.int r9)) x m) : CX g d MX12_isLent [.ref (ad 12 0), .int p1, .int p2] ad x m Q := by
  refine CX.to (Lv := [some (.ref (ad 12 0)), some (.int p1), some (.int p2)]) okX12_isLent (Nat.le_of_ble_eq_true rfl) rfl ?_
  obtain ⟨Φ0, hΦ⟩ : ∃ Φ : Option (Int32) → Prop, Φ = fun o => o = some r9 := ⟨_, rfl⟩
  have hN0 : Φ0 none → False := by rw [hΦ]; intro h; cases h
  have hR0 : ∀ z9, Φ0 (some z9) → Q (some (.int z9)) x m := by rw [hΦ]; intro z9 h; cases h; exact hq
  have h9 : Φ0 (f_X12_isLent m p1 p2) := by rw [hΦ]; exact hf
  clear hf hq hΦ
  unfold f_X12_isLent at h9
  refine e_aload_n dX12_isLent_0 rfl rfl ?_
  refine g_1220 flX12_45 dX12_isLent_1 ?_
  refine e_iload_n dX12_isLent_4 rfl rfl ?_
  obtain ⟨k1, h9⟩ := chkP hN0 h9
  refine l_1220 dX12_isLent_5 (inb_in k1) ?_
  refine e_iconst (v := (-1)) dX12_isLent_6 rfl ?_
  refine e_icmp_eq (tgt := 24) dX12_isLent_7 rfl (fun hc2 => ?_) (fun hc2 => ?_)
  · replace h9 := ifT hc2 h9
    refine e_iconst (v := 0) dX12_isLent_24 rfl ?_
    exact x_zret dX12_isLent_25 rfl (by decide) (hR0 _ h9)
  · replace h9 := ifF hc2 h9
    refine e_iload_n dX12_isLent_10 rfl rfl ?_
    refine e_aload_n dX12_isLent_11 rfl rfl ?_
    refine g_1220 flX12_45 dX12_isLent_12 ?_
    refine e_iload_n dX12_isLent_15 rfl rfl ?_
    obtain ⟨k3, h9⟩ := chkP hN0 h9
    refine l_1220 dX12_isLent_16 (inb_in k3) ?_
    refine e_icmp_ge (tgt := 24) dX12_isLent_17 rfl (fun hc4 => ?_) (fun hc4 => ?_)
    · replace h9 := ifT hc4 h9
      refine e_iconst (v := 0) dX12_isLent_24 rfl ?_
      exact x_zret dX12_isLent_25 rfl (by decide) (hR0 _ h9)
    · replace h9 := ifF hc4 h9
      refine e_iconst (v := 1) dX12_isLent_20 rfl ?_
      refine e_goto (tgt := 25) dX12_isLent_21 rfl ?_
      exact x_zret dX12_isLent_25 rfl (by decide) (hR0 _ h9)
noncomputable def f_X12_isReady (m : VM) (p1 : Int32) (p2 : Int32) : Option (Int32) := (f_X12_isUnderOn m p1 p2).elim none (fun r1 => if r1 = 0 then some 0 else if inb p1 16 = true then if (m.2.1 1228 0 p1.toNatClampNeg) = 0 then (f_X12_isLent m p1 p2).elim none (fun r5 => if r5 = 0 then if inb p1 16 = true then if (m.2.1 1232 0 p1.toNatClampNeg) = 0 then some 1 else if inb p1 16 = true then if ¬ (m.2.1 1232 0 p1.toNatClampNeg) = 0 then if inb ((60 * p1) + (p2 - p2 / (m.2.1 1232 0 p1.toNatClampNeg) * (m.2.1 1232 0 p1.toNatClampNeg))) 960 = true then if (lg_cmp (m.2.2.1 1233 0 (((60 * p1) + (p2 - p2 / (m.2.1 1232 0 p1.toNatClampNeg) * (m.2.1 1232 0 p1.toNatClampNeg))).toNatClampNeg)) 0) = 0 then some 1 else some 0 else none else none else none else none else some 0) else some 0 else none)
theorem c_X12_isReady {g : GG} {d : Nat} {ad : AD} {x m : VM} {Q : Option Value → VM → VM → Prop} (p1 : Int32) (p2 : Int32) {r9 : Int32} (hf : f_X12_isReady m p1 p2 = some r9) (hq : Q (some (.int r9)) x m) : CX g (d + 1) MX12_isReady [.ref (ad 12 0), .int p1, .int p2] ad x m Q := by
  refine CX.to (Lv := [some (.ref (ad 12 0)), some (.int p1), some (.int p2)]) okX12_isReady (Nat.le_of_ble_eq_true rfl) rfl ?_
  obtain ⟨Φ0, hΦ⟩ : ∃ Φ : Option (Int32) → Prop, Φ = fun o => o = some r9 := ⟨_, rfl⟩
  have hN0 : Φ0 none → False := by rw [hΦ]; intro h; cases h
  have hR0 : ∀ z9, Φ0 (some z9) → Q (some (.int z9)) x m := by rw [hΦ]; intro z9 h; cases h; exact hq
  have h9 : Φ0 (f_X12_isReady m p1 p2) := by rw [hΦ]; exact hf
  clear hf hq hΦ
  unfold f_X12_isReady at h9
  refine e_aload_n dX12_isReady_0 rfl rfl ?_
  refine e_iload_n dX12_isReady_1 rfl rfl ?_
  refine e_iload_n dX12_isReady_2 rfl rfl ?_
  obtain ⟨r1, hr1, h9⟩ := elimP hN0 h9
  refine x_callVi (c := 12) (As := [.int p1, .int p2]) (rest := []) okX12_isUnderOn lkX12_289 rfl (by decide) rfl dX12_isReady_3 rfl rfl (Nat.le_of_ble_eq_true rfl) rfl (c_X12_isUnderOn p1 p2 hr1 (CI.mk ?_))
  refine e_if_eq (tgt := 27) dX12_isReady_6 rfl (fun hc2 => ?_) (fun hc2 => ?_)
  · replace h9 := ifT hc2 h9
    refine e_iconst (v := 0) dX12_isReady_27 rfl ?_
    exact x_zret dX12_isReady_28 rfl (by decide) (hR0 _ h9)
  · replace h9 := ifF hc2 h9
    refine e_aload_n dX12_isReady_9 rfl rfl ?_
    refine g_1228 flX12_70 dX12_isReady_10 ?_
    refine e_iload_n dX12_isReady_13 rfl rfl ?_
    obtain ⟨k3, h9⟩ := chkP hN0 h9
    refine l_1228 dX12_isReady_14 (inb_in k3) ?_
    refine e_if_ne (tgt := 27) dX12_isReady_15 rfl (fun hc4 => ?_) (fun hc4 => ?_)
    · replace h9 := ifF hc4 h9
      refine e_iconst (v := 0) dX12_isReady_27 rfl ?_
      exact x_zret dX12_isReady_28 rfl (by decide) (hR0 _ h9)
    · replace h9 := ifT hc4 h9
      refine e_aload_n dX12_isReady_18 rfl rfl ?_
      refine e_iload_n dX12_isReady_19 rfl rfl ?_
      refine e_iload_n dX12_isReady_20 rfl rfl ?_
      obtain ⟨r5, hr5, h9⟩ := elimP hN0 h9
      refine x_callVi (c := 12) (As := [.int p1, .int p2]) (rest := []) okX12_isLent lkX12_299 rfl (by decide) rfl dX12_isReady_21 rfl rfl (Nat.le_of_ble_eq_true rfl) rfl (c_X12_isLent p1 p2 hr5 (CI.mk ?_))
      refine e_if_eq (tgt := 29) dX12_isReady_24 rfl (fun hc6 => ?_) (fun hc6 => ?_)
      · replace h9 := ifT hc6 h9
        refine e_aload_n dX12_isReady_29 rfl rfl ?_
        refine g_1232 flX12_82 dX12_isReady_30 ?_
        refine e_iload_n dX12_isReady_33 rfl rfl ?_
        obtain ⟨k7, h9⟩ := chkP hN0 h9
        refine l_1232 dX12_isReady_34 (inb_in k7) ?_
        refine e_if_eq (tgt := 61) dX12_isReady_35 rfl (fun hc8 => ?_) (fun hc8 => ?_)
        · replace h9 := ifT hc8 h9
          refine e_iconst (v := 1) dX12_isReady_61 rfl ?_
          refine e_goto (tgt := 66) dX12_isReady_62 rfl ?_
          exact x_zret dX12_isReady_66 rfl (by decide) (hR0 _ h9)
        · replace h9 := ifF hc8 h9
          refine e_aload_n dX12_isReady_38 rfl rfl ?_
          refine g_1233 flX12_85 dX12_isReady_39 ?_
          refine e_bipush (v := 60) dX12_isReady_42 rfl ?_
          refine e_iload_n dX12_isReady_44 rfl rfl ?_
          refine e_imul dX12_isReady_45 ?_
          refine e_iload_n dX12_isReady_46 rfl rfl ?_
          refine e_aload_n dX12_isReady_47 rfl rfl ?_
          refine g_1232 flX12_82 dX12_isReady_48 ?_
          refine e_pc (pc' := 51) rfl ?_
          refine e_iload_n dX12_isReady_51 rfl rfl ?_
          obtain ⟨k9, h9⟩ := chkP hN0 h9
          refine l_1232 dX12_isReady_52 (inb_in k9) ?_
          obtain ⟨k10, h9⟩ := chkP hN0 h9
          refine e_irem dX12_isReady_53 k10 ?_
          refine e_iadd dX12_isReady_54 ?_
          obtain ⟨k11, h9⟩ := chkP hN0 h9
          refine l_1233 dX12_isReady_55 (inb_in k11) ?_
          refine e_lconst (v := 0) dX12_isReady_56 rfl ?_
          refine e_lcmp dX12_isReady_57 ?_
          refine e_if_ne (tgt := 65) dX12_isReady_58 rfl (fun hc12 => ?_) (fun hc12 => ?_)
          · replace h9 := ifF hc12 h9
            refine e_iconst (v := 0) dX12_isReady_65 rfl ?_
            exact x_zret dX12_isReady_66 rfl (by decide) (hR0 _ h9)
          · replace h9 := ifT hc12 h9
            refine e_iconst (v := 1) dX12_isReady_61 rfl ?_
            refine e_goto (tgt := 66) dX12_isReady_62 rfl ?_
            exact x_zret dX12_isReady_66 rfl (by decide) (hR0 _ h9)
      · replace h9 := ifF hc6 h9
        refine e_iconst (v := 0) dX12_isReady_27 rfl ?_
        exact x_zret dX12_isReady_28 rfl (by decide) (hR0 _ h9)
noncomputable def f_X12_termYear (m : VM) (p1 : Int32) : Option (Int32) := if inb p1 16 = true then some (((m.1 1200 0) - (m.2.1 1218 0 p1.toNatClampNeg)) / 364) else none
theorem c_X12_termYear {g : GG} {d : Nat} {ad : AD} {x m : VM} {Q : Option Value → VM → VM → Prop} (p1 : Int32) {r9 : Int32} (hf : f_X12_termYear m p1 = some r9) (hq : Q (some (.int r9)) x m) : CX g d MX12_termYear [.ref (ad 12 0), .int p1] ad x m Q := by
  refine CX.to (Lv := [some (.ref (ad 12 0)), some (.int p1)]) okX12_termYear (Nat.le_of_ble_eq_true rfl) rfl ?_
  obtain ⟨Φ0, hΦ⟩ : ∃ Φ : Option (Int32) → Prop, Φ = fun o => o = some r9 := ⟨_, rfl⟩
  have hN0 : Φ0 none → False := by rw [hΦ]; intro h; cases h
  have hR0 : ∀ z9, Φ0 (some z9) → Q (some (.int z9)) x m := by rw [hΦ]; intro z9 h; cases h; exact hq
  have h9 : Φ0 (f_X12_termYear m p1) := by rw [hΦ]; exact hf
  clear hf hq hΦ
  unfold f_X12_termYear at h9
  refine e_aload_n dX12_termYear_0 rfl rfl ?_
  refine g_1200 flX12_286 dX12_termYear_1 ?_
  refine e_aload_n dX12_termYear_4 rfl rfl ?_
  refine g_1218 flX12_39 dX12_termYear_5 ?_
  refine e_iload_n dX12_termYear_8 rfl rfl ?_
  obtain ⟨k1, h9⟩ := chkP hN0 h9
  refine l_1218 dX12_termYear_9 (inb_in k1) ?_
  refine e_isub dX12_termYear_10 ?_
  refine e_sipush (v := 364) dX12_termYear_11 rfl ?_
  refine e_pc (pc' := 14) rfl ?_
  refine e_idiv dX12_termYear_14 (by decide) ?_
  exact x_iret dX12_termYear_15 rfl (hR0 _ h9)
noncomputable def f_X12_mayAct (m : VM) (p1 : Int32) : Option (Int32) := (f_X12_isUnderOn m p1 (m.1 1200 0)).elim none (fun r1 => if r1 = 0 then some 0 else if inb p1 16 = true then if (m.2.1 1228 0 p1.toNatClampNeg) = 0 then (f_X12_isLent m p1 (m.1 1200 0)).elim none (fun r5 => if r5 = 0 then some 1 else some 0) else some 0 else none)
theorem c_X12_mayAct {g : GG} {d : Nat} {ad : AD} {x m : VM} {Q : Option Value → VM → VM → Prop} (p1 : Int32) {r9 : Int32} (hf : f_X12_mayAct m p1 = some r9) (hq : Q (some (.int r9)) x m) : CX g (d + 1) MX12_mayAct [.ref (ad 12 0), .int p1] ad x m Q := by
  refine CX.to (Lv := [some (.ref (ad 12 0)), some (.int p1)]) okX12_mayAct (Nat.le_of_ble_eq_true rfl) rfl ?_
  obtain ⟨Φ0, hΦ⟩ : ∃ Φ : Option (Int32) → Prop, Φ = fun o => o = some r9 := ⟨_, rfl⟩
  have hN0 : Φ0 none → False := by rw [hΦ]; intro h; cases h
  have hR0 : ∀ z9, Φ0 (some z9) → Q (some (.int z9)) x m := by rw [hΦ]; intro z9 h; cases h; exact hq
  have h9 : Φ0 (f_X12_mayAct m p1) := by rw [hΦ]; exact hf
  clear hf hq hΦ
  unfold f_X12_mayAct at h9
  refine e_aload_n dX12_mayAct_0 rfl rfl ?_
  refine e_iload_n dX12_mayAct_1 rfl rfl ?_
  refine e_aload_n dX12_mayAct_2 rfl rfl ?_
  refine g_1200 flX12_286 dX12_mayAct_3 ?_
  obtain ⟨r1, hr1, h9⟩ := elimP hN0 h9
  refine x_callVi (c := 12) (As := [.int p1, .int (m.1 1200 0)]) (rest := []) okX12_isUnderOn lkX12_289 rfl (by decide) rfl dX12_mayAct_6 rfl rfl (Nat.le_of_ble_eq_true rfl) rfl (c_X12_isUnderOn p1 (m.1 1200 0) hr1 (CI.mk ?_))
  refine e_if_eq (tgt := 37) dX12_mayAct_9 rfl (fun hc2 => ?_) (fun hc2 => ?_)
  · replace h9 := ifT hc2 h9
    refine e_iconst (v := 0) dX12_mayAct_37 rfl ?_
    exact x_zret dX12_mayAct_38 rfl (by decide) (hR0 _ h9)
  · replace h9 := ifF hc2 h9
    refine e_aload_n dX12_mayAct_12 rfl rfl ?_
    refine g_1228 flX12_70 dX12_mayAct_13 ?_
    refine e_iload_n dX12_mayAct_16 rfl rfl ?_
    obtain ⟨k3, h9⟩ := chkP hN0 h9
    refine l_1228 dX12_mayAct_17 (inb_in k3) ?_
    refine e_if_ne (tgt := 37) dX12_mayAct_18 rfl (fun hc4 => ?_) (fun hc4 => ?_)
    · replace h9 := ifF hc4 h9
      refine e_iconst (v := 0) dX12_mayAct_37 rfl ?_
      exact x_zret dX12_mayAct_38 rfl (by decide) (hR0 _ h9)
    · replace h9 := ifT hc4 h9
      refine e_aload_n dX12_mayAct_21 rfl rfl ?_
      refine e_iload_n dX12_mayAct_22 rfl rfl ?_
      refine e_aload_n dX12_mayAct_23 rfl rfl ?_
      refine g_1200 flX12_286 dX12_mayAct_24 ?_
      obtain ⟨r5, hr5, h9⟩ := elimP hN0 h9
      refine x_callVi (c := 12) (As := [.int p1, .int (m.1 1200 0)]) (rest := []) okX12_isLent lkX12_299 rfl (by decide) rfl dX12_mayAct_27 rfl rfl (Nat.le_of_ble_eq_true rfl) rfl (c_X12_isLent p1 (m.1 1200 0) hr5 (CI.mk ?_))
      refine e_if_ne (tgt := 37) dX12_mayAct_30 rfl (fun hc6 => ?_) (fun hc6 => ?_)
      · replace h9 := ifF hc6 h9
        refine e_iconst (v := 0) dX12_mayAct_37 rfl ?_
        exact x_zret dX12_mayAct_38 rfl (by decide) (hR0 _ h9)
      · replace h9 := ifT hc6 h9
        refine e_iconst (v := 1) dX12_mayAct_33 rfl ?_
        refine e_goto (tgt := 38) dX12_mayAct_34 rfl ?_
        exact x_zret dX12_mayAct_38 rfl (by decide) (hR0 _ h9)
noncomputable def j_X12_refuse_61 (m : VM) (p1 : Int32) (w7 : VM) : Option (Int32 × VM) := if inb p1 16 = true then (f_X12_countsOn w7 p1 2 (w7.1 1200 0)).elim none (fun r9 => if r9 ≤ (w7.2.1 1225 0 p1.toNatClampNeg) then if inb p1 16 = true then some (0, setA w7 1228 0 (upd (w7.2.1 1228 0) p1.toNatClampNeg 1)) else none else if inb p1 16 = true then if inb p1 16 = true then some (1, setA w7 1225 0 (upd (w7.2.1 1225 0) p1.toNatClampNeg ((w7.2.1 1225 0 p1.toNatClampNeg) + 1))) else none else none) else none
noncomputable def f_X12_refuse (m : VM) (p1 : Int32) : Option (Int32 × VM) := (f_X12_isOne m p1).elim none (fun r1 => if r1 = 0 then (f_X12_no m (-1)).elim none (fun r21p => some (r21p.1, r21p.2)) else (f_X12_mayAct m p1).elim none (fun r3 => if r3 = 0 then (f_X12_no m (-6)).elim none (fun r18p => some (r18p.1, r18p.2)) else if inb p1 16 = true then (f_X12_termYear m p1).elim none (fun r6 => if (m.2.1 1224 0 p1.toNatClampNeg) = r6 then j_X12_refuse_61 m p1 m else (f_X12_termYear m p1).elim none (fun r15 => if inb p1 16 = true then if inb p1 16 = true then j_X12_refuse_61 m p1 (setA (setA m 1224 0 (upd (m.2.1 1224 0) p1.toNatClampNeg r15)) 1225 0 (upd ((setA m 1224 0 (upd (m.2.1 1224 0) p1.toNatClampNeg r15)).2.1 1225 0) p1.toNatClampNeg 0)) else none else none)) else none))
theorem c_X12_refuse {g : GG} {d : Nat} {ad : AD} {x m : VM} {Q : Option Value → VM → VM → Prop} (p1 : Int32) {r9 : Int32} {w9 : VM} (hf : f_X12_refuse m p1 = some (r9, w9)) (hq : Q (some (.int r9)) x w9) : CX g (d + 2) MX12_refuse [.ref (ad 12 0), .int p1] ad x m Q := by
  refine CX.to (Lv := [some (.ref (ad 12 0)), some (.int p1)]) okX12_refuse (Nat.le_of_ble_eq_true rfl) rfl ?_
  obtain ⟨Φ0, hΦ⟩ : ∃ Φ : Option (Int32 × VM) → Prop, Φ = fun o => o = some (r9, w9) := ⟨_, rfl⟩
  have hN0 : Φ0 none → False := by rw [hΦ]; intro h; cases h
  have hR0 : ∀ z9 y9, Φ0 (some (z9, y9)) → Q (some (.int z9)) x y9 := by rw [hΦ]; intro z9 y9 h; cases h; exact hq
  have h9 : Φ0 (f_X12_refuse m p1) := by rw [hΦ]; exact hf
  clear hf hq hΦ
  unfold f_X12_refuse at h9
  refine e_aload_n dX12_refuse_0 rfl rfl ?_
  refine e_iload_n dX12_refuse_1 rfl rfl ?_
  obtain ⟨r1, hr1, h9⟩ := elimP hN0 h9
  refine x_callVi (c := 12) (As := [.int p1]) (rest := []) okX12_isOne lkX12_277 rfl (by decide) rfl dX12_refuse_2 rfl rfl (Nat.le_of_ble_eq_true rfl) rfl (c_X12_isOne p1 hr1 (CI.mk ?_))
  refine e_if_ne (tgt := 14) dX12_refuse_5 rfl (fun hc2 => ?_) (fun hc2 => ?_)
  · replace h9 := ifF hc2 h9
    refine e_aload_n dX12_refuse_14 rfl rfl ?_
    refine e_iload_n dX12_refuse_15 rfl rfl ?_
    obtain ⟨r3, hr3, h9⟩ := elimP hN0 h9
    refine x_callVi (c := 12) (As := [.int p1]) (rest := []) okX12_mayAct lkX12_302 rfl (by decide) rfl dX12_refuse_16 rfl rfl (Nat.le_of_ble_eq_true rfl) rfl (c_X12_mayAct p1 hr3 (CI.mk ?_))
    refine e_if_ne (tgt := 29) dX12_refuse_19 rfl (fun hc4 => ?_) (fun hc4 => ?_)
    · replace h9 := ifF hc4 h9
      refine e_aload_n dX12_refuse_29 rfl rfl ?_
      refine g_1224 flX12_57 dX12_refuse_30 ?_
      refine e_iload_n dX12_refuse_33 rfl rfl ?_
      obtain ⟨k5, h9⟩ := chkP hN0 h9
      refine l_1224 dX12_refuse_34 (inb_in k5) ?_
      refine e_aload_n dX12_refuse_35 rfl rfl ?_
      refine e_iload_n dX12_refuse_36 rfl rfl ?_
      obtain ⟨r6, hr6, h9⟩ := elimP hN0 h9
      refine x_callVi (c := 12) (As := [.int p1]) (rest := [.int (m.2.1 1224 0 p1.toNatClampNeg)]) okX12_termYear lkX12_305 rfl (by decide) rfl dX12_refuse_37 rfl rfl (Nat.le_of_ble_eq_true rfl) rfl (c_X12_termYear p1 hr6 (CI.mk ?_))
      have hj61 : ∀ (w7 : VM), Φ0 (j_X12_refuse_61 m p1 w7) → EX g (d + 2) MX12_refuse ad x w7 61 [some (.ref (ad 12 0)), some (.int p1)] [] Q := by
        intro w7 h9
        unfold j_X12_refuse_61 at h9
        refine e_aload_n dX12_refuse_61 rfl rfl ?_
        refine g_1225 flX12_60 dX12_refuse_62 ?_
        refine e_iload_n dX12_refuse_65 rfl rfl ?_
        obtain ⟨k8, h9⟩ := chkP hN0 h9
        refine l_1225 dX12_refuse_66 (inb_in k8) ?_
        refine e_aload_n dX12_refuse_67 rfl rfl ?_
        refine e_iload_n dX12_refuse_68 rfl rfl ?_
        refine e_iconst (v := 2) dX12_refuse_69 rfl ?_
        refine e_aload_n dX12_refuse_70 rfl rfl ?_
        refine e_pc (pc' := 71) rfl ?_
        refine g_1200 flX12_286 dX12_refuse_71 ?_
        obtain ⟨r9, hr9, h9⟩ := elimP hN0 h9
        refine x_callVi (c := 12) (As := [.int p1, .int 2, .int (w7.1 1200 0)]) (rest := [.int (w7.2.1 1225 0 p1.toNatClampNeg)]) okX12_countsOn lkX12_295 rfl (by decide) rfl dX12_refuse_74 rfl rfl (Nat.le_of_ble_eq_true rfl) rfl (c_X12_countsOn p1 2 (w7.1 1200 0) hr9 (CI.mk ?_))
        refine e_icmp_ge (tgt := 92) dX12_refuse_77 rfl (fun hc10 => ?_) (fun hc10 => ?_)
        · replace h9 := ifT hc10 h9
          refine e_aload_n dX12_refuse_92 rfl rfl ?_
          refine g_1228 flX12_70 dX12_refuse_93 ?_
          refine e_iload_n dX12_refuse_96 rfl rfl ?_
          refine e_iconst (v := 1) dX12_refuse_97 rfl ?_
          obtain ⟨k11, h9⟩ := chkP hN0 h9
          refine s_1228 dX12_refuse_98 (inb_in k11) (by decide) ?_
          refine e_iconst (v := 0) dX12_refuse_99 rfl ?_
          exact x_iret dX12_refuse_100 rfl (hR0 _ _ h9)
        · replace h9 := ifF hc10 h9
          refine e_aload_n dX12_refuse_80 rfl rfl ?_
          refine g_1225 flX12_60 dX12_refuse_81 ?_
          refine e_iload_n dX12_refuse_84 rfl rfl ?_
          refine e_dup2_11 dX12_refuse_85 rfl rfl ?_
          obtain ⟨k12, h9⟩ := chkP hN0 h9
          refine l_1225 dX12_refuse_86 (inb_in k12) ?_
          refine e_iconst (v := 1) dX12_refuse_87 rfl ?_
          refine e_iadd dX12_refuse_88 ?_
          obtain ⟨k13, h9⟩ := chkP hN0 h9
          refine s_1225 dX12_refuse_89 (inb_in k13) ?_
          refine e_pc (pc' := 90) rfl ?_
          refine e_iconst (v := 1) dX12_refuse_90 rfl ?_
          exact x_iret dX12_refuse_91 rfl (hR0 _ _ h9)
      refine e_icmp_eq (tgt := 61) dX12_refuse_40 rfl (fun hc14 => ?_) (fun hc14 => ?_)
      · replace h9 := ifT hc14 h9
        exact hj61 m h9
      · replace h9 := ifF hc14 h9
        refine e_aload_n dX12_refuse_43 rfl rfl ?_
        refine g_1224 flX12_57 dX12_refuse_44 ?_
        refine e_iload_n dX12_refuse_47 rfl rfl ?_
        refine e_aload_n dX12_refuse_48 rfl rfl ?_
        refine e_iload_n dX12_refuse_49 rfl rfl ?_
        obtain ⟨r15, hr15, h9⟩ := elimP hN0 h9
        refine x_callVi (c := 12) (As := [.int p1]) (rest := [.int p1, .ref (ad 2224 0)]) okX12_termYear lkX12_305 rfl (by decide) rfl dX12_refuse_50 rfl rfl (Nat.le_of_ble_eq_true rfl) rfl (c_X12_termYear p1 hr15 (CI.mk ?_))
        obtain ⟨k16, h9⟩ := chkP hN0 h9
        refine s_1224 dX12_refuse_53 (inb_in k16) ?_
        refine e_aload_n dX12_refuse_54 rfl rfl ?_
        refine e_pc (pc' := 55) rfl ?_
        refine g_1225 flX12_60 dX12_refuse_55 ?_
        refine e_iload_n dX12_refuse_58 rfl rfl ?_
        refine e_iconst (v := 0) dX12_refuse_59 rfl ?_
        obtain ⟨k17, h9⟩ := chkP hN0 h9
        refine s_1225 dX12_refuse_60 (inb_in k17) ?_
        exact hj61 (setA (setA m 1224 0 (upd (m.2.1 1224 0) p1.toNatClampNeg r15)) 1225 0 (upd ((setA m 1224 0 (upd (m.2.1 1224 0) p1.toNatClampNeg r15)).2.1 1225 0) p1.toNatClampNeg 0)) h9
    · replace h9 := ifT hc4 h9
      refine e_aload_n dX12_refuse_22 rfl rfl ?_
      refine e_bipush (v := (-6)) dX12_refuse_23 rfl ?_
      obtain ⟨⟨r18, w19⟩, hr18, h9⟩ := elimP hN0 h9
      refine x_callVi (c := 12) (As := [.int (-6)]) (rest := []) okX12_no lkX12_263 rfl (by decide) rfl dX12_refuse_25 rfl rfl (Nat.le_of_ble_eq_true rfl) rfl (c_X12_no (-6) hr18 (CI.mk ?_))
      exact x_iret dX12_refuse_28 rfl (hR0 _ _ h9)
  · replace h9 := ifT hc2 h9
    refine e_aload_n dX12_refuse_8 rfl rfl ?_
    refine e_iconst (v := (-1)) dX12_refuse_9 rfl ?_
    obtain ⟨⟨r21, w22⟩, hr21, h9⟩ := elimP hN0 h9
    refine x_callVi (c := 12) (As := [.int (-1)]) (rest := []) okX12_no lkX12_263 rfl (by decide) rfl dX12_refuse_10 rfl rfl (Nat.le_of_ble_eq_true rfl) rfl (c_X12_no (-1) hr21 (CI.mk ?_))
    exact x_iret dX12_refuse_13 rfl (hR0 _ _ h9)
noncomputable def f_X12_recall (m : VM) (p1 : Int32) : Option (Int32 × VM) := (f_X12_isOne m p1).elim none (fun r1 => if r1 = 0 then (f_X12_no m (-1)).elim none (fun r9p => some (r9p.1, r9p.2)) else if inb p1 16 = true then if (m.2.1 1228 0 p1.toNatClampNeg) = 0 then (f_X12_no m (-6)).elim none (fun r6p => some (r6p.1, r6p.2)) else if inb p1 16 = true then some (1, setA m 1228 0 (upd (m.2.1 1228 0) p1.toNatClampNeg 0)) else none else none)
theorem c_X12_recall {g : GG} {d : Nat} {ad : AD} {x m : VM} {Q : Option Value → VM → VM → Prop} (p1 : Int32) {r9 : Int32} {w9 : VM} (hf : f_X12_recall m p1 = some (r9, w9)) (hq : Q (some (.int r9)) x w9) : CX g (d + 1) MX12_recall [.ref (ad 12 0), .int p1] ad x m Q := by
  refine CX.to (Lv := [some (.ref (ad 12 0)), some (.int p1)]) okX12_recall (Nat.le_of_ble_eq_true rfl) rfl ?_
  obtain ⟨Φ0, hΦ⟩ : ∃ Φ : Option (Int32 × VM) → Prop, Φ = fun o => o = some (r9, w9) := ⟨_, rfl⟩
  have hN0 : Φ0 none → False := by rw [hΦ]; intro h; cases h
  have hR0 : ∀ z9 y9, Φ0 (some (z9, y9)) → Q (some (.int z9)) x y9 := by rw [hΦ]; intro z9 y9 h; cases h; exact hq
  have h9 : Φ0 (f_X12_recall m p1) := by rw [hΦ]; exact hf
  clear hf hq hΦ
  unfold f_X12_recall at h9
  refine e_aload_n dX12_recall_0 rfl rfl ?_
  refine e_iload_n dX12_recall_1 rfl rfl ?_
  obtain ⟨r1, hr1, h9⟩ := elimP hN0 h9
  refine x_callVi (c := 12) (As := [.int p1]) (rest := []) okX12_isOne lkX12_277 rfl (by decide) rfl dX12_recall_2 rfl rfl (Nat.le_of_ble_eq_true rfl) rfl (c_X12_isOne p1 hr1 (CI.mk ?_))
  refine e_if_ne (tgt := 14) dX12_recall_5 rfl (fun hc2 => ?_) (fun hc2 => ?_)
  · replace h9 := ifF hc2 h9
    refine e_aload_n dX12_recall_14 rfl rfl ?_
    refine g_1228 flX12_70 dX12_recall_15 ?_
    refine e_iload_n dX12_recall_18 rfl rfl ?_
    obtain ⟨k3, h9⟩ := chkP hN0 h9
    refine l_1228 dX12_recall_19 (inb_in k3) ?_
    refine e_if_ne (tgt := 30) dX12_recall_20 rfl (fun hc4 => ?_) (fun hc4 => ?_)
    · replace h9 := ifF hc4 h9
      refine e_aload_n dX12_recall_30 rfl rfl ?_
      refine g_1228 flX12_70 dX12_recall_31 ?_
      refine e_iload_n dX12_recall_34 rfl rfl ?_
      refine e_iconst (v := 0) dX12_recall_35 rfl ?_
      obtain ⟨k5, h9⟩ := chkP hN0 h9
      refine s_1228 dX12_recall_36 (inb_in k5) (by decide) ?_
      refine e_iconst (v := 1) dX12_recall_37 rfl ?_
      exact x_iret dX12_recall_38 rfl (hR0 _ _ h9)
    · replace h9 := ifT hc4 h9
      refine e_aload_n dX12_recall_23 rfl rfl ?_
      refine e_bipush (v := (-6)) dX12_recall_24 rfl ?_
      obtain ⟨⟨r6, w7⟩, hr6, h9⟩ := elimP hN0 h9
      refine x_callVi (c := 12) (As := [.int (-6)]) (rest := []) okX12_no lkX12_263 rfl (by decide) rfl dX12_recall_26 rfl rfl (Nat.le_of_ble_eq_true rfl) rfl (c_X12_no (-6) hr6 (CI.mk ?_))
      exact x_iret dX12_recall_29 rfl (hR0 _ _ h9)
  · replace h9 := ifT hc2 h9
    refine e_aload_n dX12_recall_8 rfl rfl ?_
    refine e_iconst (v := (-1)) dX12_recall_9 rfl ?_
    obtain ⟨⟨r9, w10⟩, hr9, h9⟩ := elimP hN0 h9
    refine x_callVi (c := 12) (As := [.int (-1)]) (rest := []) okX12_no lkX12_263 rfl (by decide) rfl dX12_recall_10 rfl rfl (Nat.le_of_ble_eq_true rfl) rfl (c_X12_no (-1) hr9 (CI.mk ?_))
    exact x_iret dX12_recall_13 rfl (hR0 _ _ h9)
noncomputable def f_X12_lend (m : VM) (p1 : Int32) (p2 : Int32) (p3 : Int32) : Option (Int32 × VM) := (f_X12_isOne m p1).elim none (fun r1 => if r1 = 0 then (f_X12_no m (-1)).elim none (fun r26p => some (r26p.1, r26p.2)) else if p2 < 1 then (f_X12_no m (-6)).elim none (fun r4p => some (r4p.1, r4p.2)) else if 400 < p2 then (f_X12_no m (-6)).elim none (fun r8p => some (r8p.1, r8p.2)) else if p3 < 0 then (f_X12_no m (-6)).elim none (fun r12p => some (r12p.1, r12p.2)) else if 99999 < p3 then (f_X12_no m (-6)).elim none (fun r16p => some (r16p.1, r16p.2)) else (f_X12_mayAct m p1).elim none (fun r19 => if r19 = 0 then (f_X12_no m (-6)).elim none (fun r23p => some (r23p.1, r23p.2)) else (f_X12_countsOn m p1 4 (m.1 1200 0)).elim none (fun r21 => if inb p1 16 = true then some (p3 - ((p3 * r21) / 100), setI (setA m 1220 0 (upd (m.2.1 1220 0) p1.toNatClampNeg ((m.1 1200 0) + p2))) 1201 0 (((setA m 1220 0 (upd (m.2.1 1220 0) p1.toNatClampNeg ((m.1 1200 0) + p2))).1 1201 0) + (p3 - ((p3 * r21) / 100)))) else none)))
theorem c_X12_lend {g : GG} {d : Nat} {ad : AD} {x m : VM} {Q : Option Value → VM → VM → Prop} (p1 : Int32) (p2 : Int32) (p3 : Int32) {r9 : Int32} {w9 : VM} (hf : f_X12_lend m p1 p2 p3 = some (r9, w9)) (hq : Q (some (.int r9)) x w9) : CX g (d + 2) MX12_lend [.ref (ad 12 0), .int p1, .int p2, .int p3] ad x m Q := by
  refine CX.to (Lv := [some (.ref (ad 12 0)), some (.int p1), some (.int p2), some (.int p3), none]) okX12_lend (Nat.le_of_ble_eq_true rfl) rfl ?_
  obtain ⟨Φ0, hΦ⟩ : ∃ Φ : Option (Int32 × VM) → Prop, Φ = fun o => o = some (r9, w9) := ⟨_, rfl⟩
  have hN0 : Φ0 none → False := by rw [hΦ]; intro h; cases h
  have hR0 : ∀ z9 y9, Φ0 (some (z9, y9)) → Q (some (.int z9)) x y9 := by rw [hΦ]; intro z9 y9 h; cases h; exact hq
  have h9 : Φ0 (f_X12_lend m p1 p2 p3) := by rw [hΦ]; exact hf
  clear hf hq hΦ
  unfold f_X12_lend at h9
  refine e_aload_n dX12_lend_0 rfl rfl ?_
  refine e_iload_n dX12_lend_1 rfl rfl ?_
  obtain ⟨r1, hr1, h9⟩ := elimP hN0 h9
  refine x_callVi (c := 12) (As := [.int p1]) (rest := []) okX12_isOne lkX12_277 rfl (by decide) rfl dX12_lend_2 rfl rfl (Nat.le_of_ble_eq_true rfl) rfl (c_X12_isOne p1 hr1 (CI.mk ?_))
  refine e_if_ne (tgt := 14) dX12_lend_5 rfl (fun hc2 => ?_) (fun hc2 => ?_)
  · replace h9 := ifF hc2 h9
    refine e_iload_n dX12_lend_14 rfl rfl ?_
    refine e_iconst (v := 1) dX12_lend_15 rfl ?_
    refine e_icmp_lt (tgt := 45) dX12_lend_16 rfl (fun hc3 => ?_) (fun hc3 => ?_)
    · replace h9 := ifT hc3 h9
      refine e_aload_n dX12_lend_45 rfl rfl ?_
      refine e_bipush (v := (-6)) dX12_lend_46 rfl ?_
      obtain ⟨⟨r4, w5⟩, hr4, h9⟩ := elimP hN0 h9
      refine x_callVi (c := 12) (As := [.int (-6)]) (rest := []) okX12_no lkX12_263 rfl (by decide) rfl dX12_lend_48 rfl rfl (Nat.le_of_ble_eq_true rfl) rfl (c_X12_no (-6) hr4 (CI.mk ?_))
      exact x_iret dX12_lend_51 rfl (hR0 _ _ h9)
    · replace h9 := ifF hc3 h9
      refine e_iload_n dX12_lend_19 rfl rfl ?_
      refine e_sipush (v := 400) dX12_lend_20 rfl ?_
      refine e_icmp_gt (tgt := 45) dX12_lend_23 rfl (fun hc7 => ?_) (fun hc7 => ?_)
      · replace h9 := ifT hc7 h9
        refine e_aload_n dX12_lend_45 rfl rfl ?_
        refine e_bipush (v := (-6)) dX12_lend_46 rfl ?_
        obtain ⟨⟨r8, w9⟩, hr8, h9⟩ := elimP hN0 h9
        refine x_callVi (c := 12) (As := [.int (-6)]) (rest := []) okX12_no lkX12_263 rfl (by decide) rfl dX12_lend_48 rfl rfl (Nat.le_of_ble_eq_true rfl) rfl (c_X12_no (-6) hr8 (CI.mk ?_))
        exact x_iret dX12_lend_51 rfl (hR0 _ _ h9)
      · replace h9 := ifF hc7 h9
        refine e_iload_n dX12_lend_26 rfl rfl ?_
        refine e_if_lt (tgt := 45) dX12_lend_27 rfl (fun hc11 => ?_) (fun hc11 => ?_)
        · replace h9 := ifT hc11 h9
          refine e_aload_n dX12_lend_45 rfl rfl ?_
          refine e_bipush (v := (-6)) dX12_lend_46 rfl ?_
          obtain ⟨⟨r12, w13⟩, hr12, h9⟩ := elimP hN0 h9
          refine x_callVi (c := 12) (As := [.int (-6)]) (rest := []) okX12_no lkX12_263 rfl (by decide) rfl dX12_lend_48 rfl rfl (Nat.le_of_ble_eq_true rfl) rfl (c_X12_no (-6) hr12 (CI.mk ?_))
          exact x_iret dX12_lend_51 rfl (hR0 _ _ h9)
        · replace h9 := ifF hc11 h9
          refine e_iload_n dX12_lend_30 rfl rfl ?_
          refine e_ldcw (v := 99999) rfl kcX12_308 dX12_lend_31 ?_
          refine e_icmp_gt (tgt := 45) dX12_lend_34 rfl (fun hc15 => ?_) (fun hc15 => ?_)
          · replace h9 := ifT hc15 h9
            refine e_aload_n dX12_lend_45 rfl rfl ?_
            refine e_bipush (v := (-6)) dX12_lend_46 rfl ?_
            obtain ⟨⟨r16, w17⟩, hr16, h9⟩ := elimP hN0 h9
            refine x_callVi (c := 12) (As := [.int (-6)]) (rest := []) okX12_no lkX12_263 rfl (by decide) rfl dX12_lend_48 rfl rfl (Nat.le_of_ble_eq_true rfl) rfl (c_X12_no (-6) hr16 (CI.mk ?_))
            exact x_iret dX12_lend_51 rfl (hR0 _ _ h9)
          · replace h9 := ifF hc15 h9
            refine e_aload_n dX12_lend_37 rfl rfl ?_
            refine e_iload_n dX12_lend_38 rfl rfl ?_
            obtain ⟨r19, hr19, h9⟩ := elimP hN0 h9
            refine x_callVi (c := 12) (As := [.int p1]) (rest := []) okX12_mayAct lkX12_302 rfl (by decide) rfl dX12_lend_39 rfl rfl (Nat.le_of_ble_eq_true rfl) rfl (c_X12_mayAct p1 hr19 (CI.mk ?_))
            refine e_if_ne (tgt := 52) dX12_lend_42 rfl (fun hc20 => ?_) (fun hc20 => ?_)
            · replace h9 := ifF hc20 h9
              refine e_iload_n dX12_lend_52 rfl rfl ?_
              refine e_iload_n dX12_lend_53 rfl rfl ?_
              refine e_aload_n dX12_lend_54 rfl rfl ?_
              refine e_iload_n dX12_lend_55 rfl rfl ?_
              refine e_iconst (v := 4) dX12_lend_56 rfl ?_
              refine e_aload_n dX12_lend_57 rfl rfl ?_
              refine g_1200 flX12_286 dX12_lend_58 ?_
              obtain ⟨r21, hr21, h9⟩ := elimP hN0 h9
              refine x_callVi (c := 12) (As := [.int p1, .int 4, .int (m.1 1200 0)]) (rest := [.int p3, .int p3]) okX12_countsOn lkX12_295 rfl (by decide) rfl dX12_lend_61 rfl rfl (Nat.le_of_ble_eq_true rfl) rfl (c_X12_countsOn p1 4 (m.1 1200 0) hr21 (CI.mk ?_))
              refine e_pc (pc' := 64) rfl ?_
              refine e_imul dX12_lend_64 ?_
              refine e_bipush (v := 100) dX12_lend_65 rfl ?_
              refine e_idiv dX12_lend_67 (by decide) ?_
              refine e_isub dX12_lend_68 ?_
              refine e_istore (L' := [some (.ref (ad 12 0)), some (.int p1), some (.int p2), some (.int p3), some (.int (p3 - ((p3 * r21) / 100)))]) dX12_lend_69 (by decide) rfl ?_
              refine e_aload_n dX12_lend_71 rfl rfl ?_
              refine g_1220 flX12_45 dX12_lend_72 ?_
              refine e_iload_n dX12_lend_75 rfl rfl ?_
              refine e_aload_n dX12_lend_76 rfl rfl ?_
              refine e_pc (pc' := 77) rfl ?_
              refine g_1200 flX12_286 dX12_lend_77 ?_
              refine e_iload_n dX12_lend_80 rfl rfl ?_
              refine e_iadd dX12_lend_81 ?_
              obtain ⟨k22, h9⟩ := chkP hN0 h9
              refine s_1220 dX12_lend_82 (inb_in k22) ?_
              refine e_aload_n dX12_lend_83 rfl rfl ?_
              refine e_dup dX12_lend_84 rfl ?_
              refine g_1201 flX12_309 dX12_lend_85 ?_
              refine e_iload dX12_lend_88 rfl ?_
              refine e_iadd dX12_lend_90 ?_
              refine e_pc (pc' := 91) rfl ?_
              refine p_1201 flX12_309 dX12_lend_91 ?_
              refine e_iload dX12_lend_94 rfl ?_
              exact x_iret dX12_lend_96 rfl (hR0 _ _ h9)
            · replace h9 := ifT hc20 h9
              refine e_aload_n dX12_lend_45 rfl rfl ?_
              refine e_bipush (v := (-6)) dX12_lend_46 rfl ?_
              obtain ⟨⟨r23, w24⟩, hr23, h9⟩ := elimP hN0 h9
              refine x_callVi (c := 12) (As := [.int (-6)]) (rest := []) okX12_no lkX12_263 rfl (by decide) rfl dX12_lend_48 rfl rfl (Nat.le_of_ble_eq_true rfl) rfl (c_X12_no (-6) hr23 (CI.mk ?_))
              exact x_iret dX12_lend_51 rfl (hR0 _ _ h9)
  · replace h9 := ifT hc2 h9
    refine e_aload_n dX12_lend_8 rfl rfl ?_
    refine e_iconst (v := (-1)) dX12_lend_9 rfl ?_
    obtain ⟨⟨r26, w27⟩, hr26, h9⟩ := elimP hN0 h9
    refine x_callVi (c := 12) (As := [.int (-1)]) (rest := []) okX12_no lkX12_263 rfl (by decide) rfl dX12_lend_10 rfl rfl (Nat.le_of_ble_eq_true rfl) rfl (c_X12_no (-1) hr26 (CI.mk ?_))
    exact x_iret dX12_lend_13 rfl (hR0 _ _ h9)
noncomputable def f_X12_picture (m : VM) (p1 : Int32) : Option (Int32 × VM) := if p1 < 0 then (f_X12_no m (-1)).elim none (fun r2p => some (r2p.1, r2p.2)) else if p1 ≤ 5 then if (m.1 1204 0) = 8 then (f_X12_no m (-7)).elim none (fun r8p => some (r8p.1, r8p.2)) else if inb (m.1 1204 0) 8 = true then some ((setA m 1234 0 (upd (m.2.1 1234 0) ((m.1 1204 0).toNatClampNeg) p1)).1 1204 0, setI (setA m 1234 0 (upd (m.2.1 1234 0) ((m.1 1204 0).toNatClampNeg) p1)) 1204 0 (((setA m 1234 0 (upd (m.2.1 1234 0) ((m.1 1204 0).toNatClampNeg) p1)).1 1204 0) + 1)) else none else (f_X12_no m (-1)).elim none (fun r11p => some (r11p.1, r11p.2))
theorem c_X12_picture {g : GG} {d : Nat} {ad : AD} {x m : VM} {Q : Option Value → VM → VM → Prop} (p1 : Int32) {r9 : Int32} {w9 : VM} (hf : f_X12_picture m p1 = some (r9, w9)) (hq : Q (some (.int r9)) x w9) : CX g (d + 1) MX12_picture [.ref (ad 12 0), .int p1] ad x m Q := by
  refine CX.to (Lv := [some (.ref (ad 12 0)), some (.int p1)]) okX12_picture (Nat.le_of_ble_eq_true rfl) rfl ?_
  obtain ⟨Φ0, hΦ⟩ : ∃ Φ : Option (Int32 × VM) → Prop, Φ = fun o => o = some (r9, w9) := ⟨_, rfl⟩
  have hN0 : Φ0 none → False := by rw [hΦ]; intro h; cases h
  have hR0 : ∀ z9 y9, Φ0 (some (z9, y9)) → Q (some (.int z9)) x y9 := by rw [hΦ]; intro z9 y9 h; cases h; exact hq
  have h9 : Φ0 (f_X12_picture m p1) := by rw [hΦ]; exact hf
  clear hf hq hΦ
  unfold f_X12_picture at h9
  refine e_iload_n dX12_picture_0 rfl rfl ?_
  refine e_if_lt (tgt := 9) dX12_picture_1 rfl (fun hc1 => ?_) (fun hc1 => ?_)
  · replace h9 := ifT hc1 h9
    refine e_aload_n dX12_picture_9 rfl rfl ?_
    refine e_iconst (v := (-1)) dX12_picture_10 rfl ?_
    obtain ⟨⟨r2, w3⟩, hr2, h9⟩ := elimP hN0 h9
    refine x_callVi (c := 12) (As := [.int (-1)]) (rest := []) okX12_no lkX12_263 rfl (by decide) rfl dX12_picture_11 rfl rfl (Nat.le_of_ble_eq_true rfl) rfl (c_X12_no (-1) hr2 (CI.mk ?_))
    exact x_iret dX12_picture_14 rfl (hR0 _ _ h9)
  · replace h9 := ifF hc1 h9
    refine e_iload_n dX12_picture_4 rfl rfl ?_
    refine e_iconst (v := 5) dX12_picture_5 rfl ?_
    refine e_icmp_le (tgt := 15) dX12_picture_6 rfl (fun hc5 => ?_) (fun hc5 => ?_)
    · replace h9 := ifT hc5 h9
      refine e_aload_n dX12_picture_15 rfl rfl ?_
      refine g_1204 flX12_250 dX12_picture_16 ?_
      refine e_bipush (v := 8) dX12_picture_19 rfl ?_
      refine e_icmp_ne (tgt := 31) dX12_picture_21 rfl (fun hc6 => ?_) (fun hc6 => ?_)
      · replace h9 := ifF hc6 h9
        refine e_aload_n dX12_picture_31 rfl rfl ?_
        refine g_1234 flX12_88 dX12_picture_32 ?_
        refine e_aload_n dX12_picture_35 rfl rfl ?_
        refine g_1204 flX12_250 dX12_picture_36 ?_
        refine e_iload_n dX12_picture_39 rfl rfl ?_
        obtain ⟨k7, h9⟩ := chkP hN0 h9
        refine s_1234 dX12_picture_40 (inb_in k7) ?_
        refine e_aload_n dX12_picture_41 rfl rfl ?_
        refine e_dup dX12_picture_42 rfl ?_
        refine e_pc (pc' := 43) rfl ?_
        refine g_1204 flX12_250 dX12_picture_43 ?_
        refine e_dup_x1 dX12_picture_46 rfl rfl ?_
        refine e_iconst (v := 1) dX12_picture_47 rfl ?_
        refine e_iadd dX12_picture_48 ?_
        refine p_1204 flX12_250 dX12_picture_49 ?_
        exact x_iret dX12_picture_52 rfl (hR0 _ _ h9)
      · replace h9 := ifT hc6 h9
        refine e_aload_n dX12_picture_24 rfl rfl ?_
        refine e_bipush (v := (-7)) dX12_picture_25 rfl ?_
        obtain ⟨⟨r8, w9⟩, hr8, h9⟩ := elimP hN0 h9
        refine x_callVi (c := 12) (As := [.int (-7)]) (rest := []) okX12_no lkX12_263 rfl (by decide) rfl dX12_picture_27 rfl rfl (Nat.le_of_ble_eq_true rfl) rfl (c_X12_no (-7) hr8 (CI.mk ?_))
        exact x_iret dX12_picture_30 rfl (hR0 _ _ h9)
    · replace h9 := ifF hc5 h9
      refine e_aload_n dX12_picture_9 rfl rfl ?_
      refine e_iconst (v := (-1)) dX12_picture_10 rfl ?_
      obtain ⟨⟨r11, w12⟩, hr11, h9⟩ := elimP hN0 h9
      refine x_callVi (c := 12) (As := [.int (-1)]) (rest := []) okX12_no lkX12_263 rfl (by decide) rfl dX12_picture_11 rfl rfl (Nat.le_of_ble_eq_true rfl) rfl (c_X12_no (-1) hr11 (CI.mk ?_))
      exact x_iret dX12_picture_14 rfl (hR0 _ _ h9)
noncomputable def f_X12_scene (m : VM) (p1 : Int32) (p2 : Int32) (p3 : Int32) (p4 : Int32) : Option (Int32 × VM) := (f_X12_isPicture m p1).elim none (fun r1 => if r1 = 0 then (f_X12_no m (-1)).elim none (fun r3p => some (r3p.1, r3p.2)) else if p3 < 0 then (f_X12_no m (-1)).elim none (fun r7p => some (r7p.1, r7p.2)) else if p3 < ((1 : Int32) <<< ((m.1 1202 0) &&& 31)) then if p2 < 0 then (f_X12_no m (-6)).elim none (fun r12p => some (r12p.1, r12p.2)) else if 9 < p2 then (f_X12_no m (-6)).elim none (fun r16p => some (r16p.1, r16p.2)) else if p4 < 1 then (f_X12_no m (-6)).elim none (fun r20p => some (r20p.1, r20p.2)) else if 4 < p4 then (f_X12_no m (-6)).elim none (fun r24p => some (r24p.1, r24p.2)) else if inb p1 8 = true then if (m.2.1 1240 0 p1.toNatClampNeg) = 0 then if inb p1 8 = true then if (m.2.1 1235 0 p1.toNatClampNeg) = 8 then (f_X12_no m (-7)).elim none (fun r37p => some (r37p.1, r37p.2)) else if inb p1 8 = true then if inb ((8 * p1) + (m.2.1 1235 0 p1.toNatClampNeg)) 64 = true then if inb ((8 * p1) + (m.2.1 1235 0 p1.toNatClampNeg)) 64 = true then if inb ((8 * p1) + (m.2.1 1235 0 p1.toNatClampNeg)) 64 = true then if inb p1 8 = true then if inb p1 8 = true then some ((setA (setA (setA m 1236 0 (upd (m.2.1 1236 0) (((8 * p1) + (m.2.1 1235 0 p1.toNatClampNeg)).toNatClampNeg) p2)) 1237 0 (upd ((setA m 1236 0 (upd (m.2.1 1236 0) (((8 * p1) + (m.2.1 1235 0 p1.toNatClampNeg)).toNatClampNeg) p2)).2.1 1237 0) (((8 * p1) + (m.2.1 1235 0 p1.toNatClampNeg)).toNatClampNeg) p3)) 1238 0 (upd ((setA (setA m 1236 0 (upd (m.2.1 1236 0) (((8 * p1) + (m.2.1 1235 0 p1.toNatClampNeg)).toNatClampNeg) p2)) 1237 0 (upd ((setA m 1236 0 (upd (m.2.1 1236 0) (((8 * p1) + (m.2.1 1235 0 p1.toNatClampNeg)).toNatClampNeg) p2)).2.1 1237 0) (((8 * p1) + (m.2.1 1235 0 p1.toNatClampNeg)).toNatClampNeg) p3)).2.1 1238 0) (((8 * p1) + (m.2.1 1235 0 p1.toNatClampNeg)).toNatClampNeg) p4)).2.1 1235 0 p1.toNatClampNeg, setA (setA (setA (setA m 1236 0 (upd (m.2.1 1236 0) (((8 * p1) + (m.2.1 1235 0 p1.toNatClampNeg)).toNatClampNeg) p2)) 1237 0 (upd ((setA m 1236 0 (upd (m.2.1 1236 0) (((8 * p1) + (m.2.1 1235 0 p1.toNatClampNeg)).toNatClampNeg) p2)).2.1 1237 0) (((8 * p1) + (m.2.1 1235 0 p1.toNatClampNeg)).toNatClampNeg) p3)) 1238 0 (upd ((setA (setA m 1236 0 (upd (m.2.1 1236 0) (((8 * p1) + (m.2.1 1235 0 p1.toNatClampNeg)).toNatClampNeg) p2)) 1237 0 (upd ((setA m 1236 0 (upd (m.2.1 1236 0) (((8 * p1) + (m.2.1 1235 0 p1.toNatClampNeg)).toNatClampNeg) p2)).2.1 1237 0) (((8 * p1) + (m.2.1 1235 0 p1.toNatClampNeg)).toNatClampNeg) p3)).2.1 1238 0) (((8 * p1) + (m.2.1 1235 0 p1.toNatClampNeg)).toNatClampNeg) p4)) 1235 0 (upd ((setA (setA (setA m 1236 0 (upd (m.2.1 1236 0) (((8 * p1) + (m.2.1 1235 0 p1.toNatClampNeg)).toNatClampNeg) p2)) 1237 0 (upd ((setA m 1236 0 (upd (m.2.1 1236 0) (((8 * p1) + (m.2.1 1235 0 p1.toNatClampNeg)).toNatClampNeg) p2)).2.1 1237 0) (((8 * p1) + (m.2.1 1235 0 p1.toNatClampNeg)).toNatClampNeg) p3)) 1238 0 (upd ((setA (setA m 1236 0 (upd (m.2.1 1236 0) (((8 * p1) + (m.2.1 1235 0 p1.toNatClampNeg)).toNatClampNeg) p2)) 1237 0 (upd ((setA m 1236 0 (upd (m.2.1 1236 0) (((8 * p1) + (m.2.1 1235 0 p1.toNatClampNeg)).toNatClampNeg) p2)).2.1 1237 0) (((8 * p1) + (m.2.1 1235 0 p1.toNatClampNeg)).toNatClampNeg) p3)).2.1 1238 0) (((8 * p1) + (m.2.1 1235 0 p1.toNatClampNeg)).toNatClampNeg) p4)).2.1 1235 0) p1.toNatClampNeg (((setA (setA (setA m 1236 0 (upd (m.2.1 1236 0) (((8 * p1) + (m.2.1 1235 0 p1.toNatClampNeg)).toNatClampNeg) p2)) 1237 0 (upd ((setA m 1236 0 (upd (m.2.1 1236 0) (((8 * p1) + (m.2.1 1235 0 p1.toNatClampNeg)).toNatClampNeg) p2)).2.1 1237 0) (((8 * p1) + (m.2.1 1235 0 p1.toNatClampNeg)).toNatClampNeg) p3)) 1238 0 (upd ((setA (setA m 1236 0 (upd (m.2.1 1236 0) (((8 * p1) + (m.2.1 1235 0 p1.toNatClampNeg)).toNatClampNeg) p2)) 1237 0 (upd ((setA m 1236 0 (upd (m.2.1 1236 0) (((8 * p1) + (m.2.1 1235 0 p1.toNatClampNeg)).toNatClampNeg) p2)).2.1 1237 0) (((8 * p1) + (m.2.1 1235 0 p1.toNatClampNeg)).toNatClampNeg) p3)).2.1 1238 0) (((8 * p1) + (m.2.1 1235 0 p1.toNatClampNeg)).toNatClampNeg) p4)).2.1 1235 0 p1.toNatClampNeg) + 1))) else none else none else none else none else none else none else none else (f_X12_no m (-6)).elim none (fun r40p => some (r40p.1, r40p.2)) else none else (f_X12_no m (-1)).elim none (fun r43p => some (r43p.1, r43p.2)))
theorem c_X12_scene {g : GG} {d : Nat} {ad : AD} {x m : VM} {Q : Option Value → VM → VM → Prop} (p1 : Int32) (p2 : Int32) (p3 : Int32) (p4 : Int32) {r9 : Int32} {w9 : VM} (hf : f_X12_scene m p1 p2 p3 p4 = some (r9, w9)) (hq : Q (some (.int r9)) x w9) : CX g (d + 1) MX12_scene [.ref (ad 12 0), .int p1, .int p2, .int p3, .int p4] ad x m Q := by
  refine CX.to (Lv := [some (.ref (ad 12 0)), some (.int p1), some (.int p2), some (.int p3), some (.int p4), none]) okX12_scene (Nat.le_of_ble_eq_true rfl) rfl ?_
  obtain ⟨Φ0, hΦ⟩ : ∃ Φ : Option (Int32 × VM) → Prop, Φ = fun o => o = some (r9, w9) := ⟨_, rfl⟩
  have hN0 : Φ0 none → False := by rw [hΦ]; intro h; cases h
  have hR0 : ∀ z9 y9, Φ0 (some (z9, y9)) → Q (some (.int z9)) x y9 := by rw [hΦ]; intro z9 y9 h; cases h; exact hq
  have h9 : Φ0 (f_X12_scene m p1 p2 p3 p4) := by rw [hΦ]; exact hf
  clear hf hq hΦ
  unfold f_X12_scene at h9
  refine e_aload_n dX12_scene_0 rfl rfl ?_
  refine e_iload_n dX12_scene_1 rfl rfl ?_
  obtain ⟨r1, hr1, h9⟩ := elimP hN0 h9
  refine x_callVi (c := 12) (As := [.int p1]) (rest := []) okX12_isPicture lkX12_253 rfl (by decide) rfl dX12_scene_2 rfl rfl (Nat.le_of_ble_eq_true rfl) rfl (c_X12_isPicture p1 hr1 (CI.mk ?_))
  refine e_if_eq (tgt := 22) dX12_scene_5 rfl (fun hc2 => ?_) (fun hc2 => ?_)
  · replace h9 := ifT hc2 h9
    refine e_aload_n dX12_scene_22 rfl rfl ?_
    refine e_iconst (v := (-1)) dX12_scene_23 rfl ?_
    obtain ⟨⟨r3, w4⟩, hr3, h9⟩ := elimP hN0 h9
    refine x_callVi (c := 12) (As := [.int (-1)]) (rest := []) okX12_no lkX12_263 rfl (by decide) rfl dX12_scene_24 rfl rfl (Nat.le_of_ble_eq_true rfl) rfl (c_X12_no (-1) hr3 (CI.mk ?_))
    exact x_iret dX12_scene_27 rfl (hR0 _ _ h9)
  · replace h9 := ifF hc2 h9
    refine e_iload_n dX12_scene_8 rfl rfl ?_
    refine e_if_lt (tgt := 22) dX12_scene_9 rfl (fun hc6 => ?_) (fun hc6 => ?_)
    · replace h9 := ifT hc6 h9
      refine e_aload_n dX12_scene_22 rfl rfl ?_
      refine e_iconst (v := (-1)) dX12_scene_23 rfl ?_
      obtain ⟨⟨r7, w8⟩, hr7, h9⟩ := elimP hN0 h9
      refine x_callVi (c := 12) (As := [.int (-1)]) (rest := []) okX12_no lkX12_263 rfl (by decide) rfl dX12_scene_24 rfl rfl (Nat.le_of_ble_eq_true rfl) rfl (c_X12_no (-1) hr7 (CI.mk ?_))
      exact x_iret dX12_scene_27 rfl (hR0 _ _ h9)
    · replace h9 := ifF hc6 h9
      refine e_iload_n dX12_scene_12 rfl rfl ?_
      refine e_iconst (v := 1) dX12_scene_13 rfl ?_
      refine e_aload_n dX12_scene_14 rfl rfl ?_
      refine g_1202 flX12_247 dX12_scene_15 ?_
      refine e_ishl dX12_scene_18 ?_
      refine e_icmp_lt (tgt := 28) dX12_scene_19 rfl (fun hc10 => ?_) (fun hc10 => ?_)
      · replace h9 := ifT hc10 h9
        refine e_iload_n dX12_scene_28 rfl rfl ?_
        refine e_if_lt (tgt := 59) dX12_scene_29 rfl (fun hc11 => ?_) (fun hc11 => ?_)
        · replace h9 := ifT hc11 h9
          refine e_aload_n dX12_scene_59 rfl rfl ?_
          refine e_bipush (v := (-6)) dX12_scene_60 rfl ?_
          obtain ⟨⟨r12, w13⟩, hr12, h9⟩ := elimP hN0 h9
          refine x_callVi (c := 12) (As := [.int (-6)]) (rest := []) okX12_no lkX12_263 rfl (by decide) rfl dX12_scene_62 rfl rfl (Nat.le_of_ble_eq_true rfl) rfl (c_X12_no (-6) hr12 (CI.mk ?_))
          exact x_iret dX12_scene_65 rfl (hR0 _ _ h9)
        · replace h9 := ifF hc11 h9
          refine e_iload_n dX12_scene_32 rfl rfl ?_
          refine e_bipush (v := 9) dX12_scene_33 rfl ?_
          refine e_icmp_gt (tgt := 59) dX12_scene_35 rfl (fun hc15 => ?_) (fun hc15 => ?_)
          · replace h9 := ifT hc15 h9
            refine e_aload_n dX12_scene_59 rfl rfl ?_
            refine e_bipush (v := (-6)) dX12_scene_60 rfl ?_
            obtain ⟨⟨r16, w17⟩, hr16, h9⟩ := elimP hN0 h9
            refine x_callVi (c := 12) (As := [.int (-6)]) (rest := []) okX12_no lkX12_263 rfl (by decide) rfl dX12_scene_62 rfl rfl (Nat.le_of_ble_eq_true rfl) rfl (c_X12_no (-6) hr16 (CI.mk ?_))
            exact x_iret dX12_scene_65 rfl (hR0 _ _ h9)
          · replace h9 := ifF hc15 h9
            refine e_iload dX12_scene_38 rfl ?_
            refine e_iconst (v := 1) dX12_scene_40 rfl ?_
            refine e_icmp_lt (tgt := 59) dX12_scene_41 rfl (fun hc19 => ?_) (fun hc19 => ?_)
            · replace h9 := ifT hc19 h9
              refine e_aload_n dX12_scene_59 rfl rfl ?_
              refine e_bipush (v := (-6)) dX12_scene_60 rfl ?_
              obtain ⟨⟨r20, w21⟩, hr20, h9⟩ := elimP hN0 h9
              refine x_callVi (c := 12) (As := [.int (-6)]) (rest := []) okX12_no lkX12_263 rfl (by decide) rfl dX12_scene_62 rfl rfl (Nat.le_of_ble_eq_true rfl) rfl (c_X12_no (-6) hr20 (CI.mk ?_))
              exact x_iret dX12_scene_65 rfl (hR0 _ _ h9)
            · replace h9 := ifF hc19 h9
              refine e_iload dX12_scene_44 rfl ?_
              refine e_iconst (v := 4) dX12_scene_46 rfl ?_
              refine e_icmp_gt (tgt := 59) dX12_scene_47 rfl (fun hc23 => ?_) (fun hc23 => ?_)
              · replace h9 := ifT hc23 h9
                refine e_aload_n dX12_scene_59 rfl rfl ?_
                refine e_bipush (v := (-6)) dX12_scene_60 rfl ?_
                obtain ⟨⟨r24, w25⟩, hr24, h9⟩ := elimP hN0 h9
                refine x_callVi (c := 12) (As := [.int (-6)]) (rest := []) okX12_no lkX12_263 rfl (by decide) rfl dX12_scene_62 rfl rfl (Nat.le_of_ble_eq_true rfl) rfl (c_X12_no (-6) hr24 (CI.mk ?_))
                exact x_iret dX12_scene_65 rfl (hR0 _ _ h9)
              · replace h9 := ifF hc23 h9
                refine e_aload_n dX12_scene_50 rfl rfl ?_
                refine g_1240 flX12_106 dX12_scene_51 ?_
                refine e_iload_n dX12_scene_54 rfl rfl ?_
                obtain ⟨k27, h9⟩ := chkP hN0 h9
                refine l_1240 dX12_scene_55 (inb_in k27) ?_
                refine e_if_eq (tgt := 66) dX12_scene_56 rfl (fun hc28 => ?_) (fun hc28 => ?_)
                · replace h9 := ifT hc28 h9
                  refine e_aload_n dX12_scene_66 rfl rfl ?_
                  refine g_1235 flX12_91 dX12_scene_67 ?_
                  refine e_iload_n dX12_scene_70 rfl rfl ?_
                  obtain ⟨k29, h9⟩ := chkP hN0 h9
                  refine l_1235 dX12_scene_71 (inb_in k29) ?_
                  refine e_bipush (v := 8) dX12_scene_72 rfl ?_
                  refine e_icmp_ne (tgt := 84) dX12_scene_74 rfl (fun hc30 => ?_) (fun hc30 => ?_)
                  · replace h9 := ifF hc30 h9
                    refine e_bipush (v := 8) dX12_scene_84 rfl ?_
                    refine e_iload_n dX12_scene_86 rfl rfl ?_
                    refine e_imul dX12_scene_87 ?_
                    refine e_aload_n dX12_scene_88 rfl rfl ?_
                    refine g_1235 flX12_91 dX12_scene_89 ?_
                    refine e_iload_n dX12_scene_92 rfl rfl ?_
                    obtain ⟨k31, h9⟩ := chkP hN0 h9
                    refine l_1235 dX12_scene_93 (inb_in k31) ?_
                    refine e_iadd dX12_scene_94 ?_
                    refine e_pc (pc' := 95) rfl ?_
                    refine e_istore (L' := [some (.ref (ad 12 0)), some (.int p1), some (.int p2), some (.int p3), some (.int p4), some (.int ((8 * p1) + (m.2.1 1235 0 p1.toNatClampNeg)))]) dX12_scene_95 (by decide) rfl ?_
                    refine e_aload_n dX12_scene_97 rfl rfl ?_
                    refine g_1236 flX12_94 dX12_scene_98 ?_
                    refine e_iload dX12_scene_101 rfl ?_
                    refine e_iload_n dX12_scene_103 rfl rfl ?_
                    obtain ⟨k32, h9⟩ := chkP hN0 h9
                    refine s_1236 dX12_scene_104 (inb_in k32) ?_
                    refine e_aload_n dX12_scene_105 rfl rfl ?_
                    refine g_1237 flX12_97 dX12_scene_106 ?_
                    refine e_iload dX12_scene_109 rfl ?_
                    refine e_pc (pc' := 111) rfl ?_
                    refine e_iload_n dX12_scene_111 rfl rfl ?_
                    obtain ⟨k33, h9⟩ := chkP hN0 h9
                    refine s_1237 dX12_scene_112 (inb_in k33) ?_
                    refine e_aload_n dX12_scene_113 rfl rfl ?_
                    refine g_1238 flX12_100 dX12_scene_114 ?_
                    refine e_iload dX12_scene_117 rfl ?_
                    refine e_iload dX12_scene_119 rfl ?_
                    obtain ⟨k34, h9⟩ := chkP hN0 h9
                    refine s_1238 dX12_scene_121 (inb_in k34) ?_
                    refine e_aload_n dX12_scene_122 rfl rfl ?_
                    refine g_1235 flX12_91 dX12_scene_123 ?_
                    refine e_pc (pc' := 126) rfl ?_
                    refine e_iload_n dX12_scene_126 rfl rfl ?_
                    refine e_dup2_11 dX12_scene_127 rfl rfl ?_
                    obtain ⟨k35, h9⟩ := chkP hN0 h9
                    refine l_1235 dX12_scene_128 (inb_in k35) ?_
                    refine e_dup_x2 dX12_scene_129 rfl rfl rfl ?_
                    refine e_iconst (v := 1) dX12_scene_130 rfl ?_
                    refine e_iadd dX12_scene_131 ?_
                    obtain ⟨k36, h9⟩ := chkP hN0 h9
                    refine s_1235 dX12_scene_132 (inb_in k36) ?_
                    exact x_iret dX12_scene_133 rfl (hR0 _ _ h9)
                  · replace h9 := ifT hc30 h9
                    refine e_aload_n dX12_scene_77 rfl rfl ?_
                    refine e_bipush (v := (-7)) dX12_scene_78 rfl ?_
                    obtain ⟨⟨r37, w38⟩, hr37, h9⟩ := elimP hN0 h9
                    refine x_callVi (c := 12) (As := [.int (-7)]) (rest := []) okX12_no lkX12_263 rfl (by decide) rfl dX12_scene_80 rfl rfl (Nat.le_of_ble_eq_true rfl) rfl (c_X12_no (-7) hr37 (CI.mk ?_))
                    exact x_iret dX12_scene_83 rfl (hR0 _ _ h9)
                · replace h9 := ifF hc28 h9
                  refine e_aload_n dX12_scene_59 rfl rfl ?_
                  refine e_bipush (v := (-6)) dX12_scene_60 rfl ?_
                  obtain ⟨⟨r40, w41⟩, hr40, h9⟩ := elimP hN0 h9
                  refine x_callVi (c := 12) (As := [.int (-6)]) (rest := []) okX12_no lkX12_263 rfl (by decide) rfl dX12_scene_62 rfl rfl (Nat.le_of_ble_eq_true rfl) rfl (c_X12_no (-6) hr40 (CI.mk ?_))
                  exact x_iret dX12_scene_65 rfl (hR0 _ _ h9)
      · replace h9 := ifF hc10 h9
        refine e_aload_n dX12_scene_22 rfl rfl ?_
        refine e_iconst (v := (-1)) dX12_scene_23 rfl ?_
        obtain ⟨⟨r43, w44⟩, hr43, h9⟩ := elimP hN0 h9
        refine x_callVi (c := 12) (As := [.int (-1)]) (rest := []) okX12_no lkX12_263 rfl (by decide) rfl dX12_scene_24 rfl rfl (Nat.le_of_ble_eq_true rfl) rfl (c_X12_no (-1) hr43 (CI.mk ?_))
        exact x_iret dX12_scene_27 rfl (hR0 _ _ h9)
noncomputable def f_X12_mark (m : VM) (p1 : Int32) (p2 : Int32) (p3 : Int32) (p4 : Int32) : Option (Int32 × VM) := (f_X12_isScene m p1 p2).elim none (fun r1 => if r1 = 0 then (f_X12_no m (-1)).elim none (fun r3p => some (r3p.1, r3p.2)) else if p3 < 0 then (f_X12_no m (-1)).elim none (fun r7p => some (r7p.1, r7p.2)) else if p3 ≤ 3 then if p4 < 0 then (f_X12_no m (-6)).elim none (fun r12p => some (r12p.1, r12p.2)) else if p4 ≤ 9 then if inb ((4 * ((8 * p1) + p2)) + p3) 256 = true then if inb ((4 * ((8 * p1) + p2)) + p3) 256 = true then some (m.2.1 1239 0 (((4 * ((8 * p1) + p2)) + p3).toNatClampNeg), setA m 1239 0 (upd (m.2.1 1239 0) (((4 * ((8 * p1) + p2)) + p3).toNatClampNeg) p4)) else none else none else (f_X12_no m (-6)).elim none (fun r18p => some (r18p.1, r18p.2)) else (f_X12_no m (-1)).elim none (fun r21p => some (r21p.1, r21p.2)))
theorem c_X12_mark {g : GG} {d : Nat} {ad : AD} {x m : VM} {Q : Option Value → VM → VM → Prop} (p1 : Int32) (p2 : Int32) (p3 : Int32) (p4 : Int32) {r9 : Int32} {w9 : VM} (hf : f_X12_mark m p1 p2 p3 p4 = some (r9, w9)) (hq : Q (some (.int r9)) x w9) : CX g (d + 2) MX12_mark [.ref (ad 12 0), .int p1, .int p2, .int p3, .int p4] ad x m Q := by
  refine CX.to (Lv := [some (.ref (ad 12 0)), some (.int p1), some (.int p2), some (.int p3), some (.int p4), none, none]) okX12_mark (Nat.le_of_ble_eq_true rfl) rfl ?_
  obtain ⟨Φ0, hΦ⟩ : ∃ Φ : Option (Int32 × VM) → Prop, Φ = fun o => o = some (r9, w9) := ⟨_, rfl⟩
  have hN0 : Φ0 none → False := by rw [hΦ]; intro h; cases h
  have hR0 : ∀ z9 y9, Φ0 (some (z9, y9)) → Q (some (.int z9)) x y9 := by rw [hΦ]; intro z9 y9 h; cases h; exact hq
  have h9 : Φ0 (f_X12_mark m p1 p2 p3 p4) := by rw [hΦ]; exact hf
  clear hf hq hΦ
  unfold f_X12_mark at h9
  refine e_aload_n dX12_mark_0 rfl rfl ?_
  refine e_iload_n dX12_mark_1 rfl rfl ?_
  refine e_iload_n dX12_mark_2 rfl rfl ?_
  obtain ⟨r1, hr1, h9⟩ := elimP hN0 h9
  refine x_callVi (c := 12) (As := [.int p1, .int p2]) (rest := []) okX12_isScene lkX12_312 rfl (by decide) rfl dX12_mark_3 rfl rfl (Nat.le_of_ble_eq_true rfl) rfl (c_X12_isScene p1 p2 hr1 (CI.mk ?_))
  refine e_if_eq (tgt := 18) dX12_mark_6 rfl (fun hc2 => ?_) (fun hc2 => ?_)
  · replace h9 := ifT hc2 h9
    refine e_aload_n dX12_mark_18 rfl rfl ?_
    refine e_iconst (v := (-1)) dX12_mark_19 rfl ?_
    obtain ⟨⟨r3, w4⟩, hr3, h9⟩ := elimP hN0 h9
    refine x_callVi (c := 12) (As := [.int (-1)]) (rest := []) okX12_no lkX12_263 rfl (by decide) rfl dX12_mark_20 rfl rfl (Nat.le_of_ble_eq_true rfl) rfl (c_X12_no (-1) hr3 (CI.mk ?_))
    exact x_iret dX12_mark_23 rfl (hR0 _ _ h9)
  · replace h9 := ifF hc2 h9
    refine e_iload_n dX12_mark_9 rfl rfl ?_
    refine e_if_lt (tgt := 18) dX12_mark_10 rfl (fun hc6 => ?_) (fun hc6 => ?_)
    · replace h9 := ifT hc6 h9
      refine e_aload_n dX12_mark_18 rfl rfl ?_
      refine e_iconst (v := (-1)) dX12_mark_19 rfl ?_
      obtain ⟨⟨r7, w8⟩, hr7, h9⟩ := elimP hN0 h9
      refine x_callVi (c := 12) (As := [.int (-1)]) (rest := []) okX12_no lkX12_263 rfl (by decide) rfl dX12_mark_20 rfl rfl (Nat.le_of_ble_eq_true rfl) rfl (c_X12_no (-1) hr7 (CI.mk ?_))
      exact x_iret dX12_mark_23 rfl (hR0 _ _ h9)
    · replace h9 := ifF hc6 h9
      refine e_iload_n dX12_mark_13 rfl rfl ?_
      refine e_iconst (v := 3) dX12_mark_14 rfl ?_
      refine e_icmp_le (tgt := 24) dX12_mark_15 rfl (fun hc10 => ?_) (fun hc10 => ?_)
      · replace h9 := ifT hc10 h9
        refine e_iload dX12_mark_24 rfl ?_
        refine e_if_lt (tgt := 36) dX12_mark_26 rfl (fun hc11 => ?_) (fun hc11 => ?_)
        · replace h9 := ifT hc11 h9
          refine e_aload_n dX12_mark_36 rfl rfl ?_
          refine e_bipush (v := (-6)) dX12_mark_37 rfl ?_
          obtain ⟨⟨r12, w13⟩, hr12, h9⟩ := elimP hN0 h9
          refine x_callVi (c := 12) (As := [.int (-6)]) (rest := []) okX12_no lkX12_263 rfl (by decide) rfl dX12_mark_39 rfl rfl (Nat.le_of_ble_eq_true rfl) rfl (c_X12_no (-6) hr12 (CI.mk ?_))
          exact x_iret dX12_mark_42 rfl (hR0 _ _ h9)
        · replace h9 := ifF hc11 h9
          refine e_iload dX12_mark_29 rfl ?_
          refine e_bipush (v := 9) dX12_mark_31 rfl ?_
          refine e_icmp_le (tgt := 43) dX12_mark_33 rfl (fun hc15 => ?_) (fun hc15 => ?_)
          · replace h9 := ifT hc15 h9
            refine e_iconst (v := 4) dX12_mark_43 rfl ?_
            refine e_bipush (v := 8) dX12_mark_44 rfl ?_
            refine e_iload_n dX12_mark_46 rfl rfl ?_
            refine e_imul dX12_mark_47 ?_
            refine e_iload_n dX12_mark_48 rfl rfl ?_
            refine e_iadd dX12_mark_49 ?_
            refine e_imul dX12_mark_50 ?_
            refine e_iload_n dX12_mark_51 rfl rfl ?_
            refine e_pc (pc' := 52) rfl ?_
            refine e_iadd dX12_mark_52 ?_
            refine e_istore (L' := [some (.ref (ad 12 0)), some (.int p1), some (.int p2), some (.int p3), some (.int p4), some (.int ((4 * ((8 * p1) + p2)) + p3)), none]) dX12_mark_53 (by decide) rfl ?_
            refine e_aload_n dX12_mark_55 rfl rfl ?_
            refine g_1239 flX12_103 dX12_mark_56 ?_
            refine e_iload dX12_mark_59 rfl ?_
            obtain ⟨k16, h9⟩ := chkP hN0 h9
            refine l_1239 dX12_mark_61 (inb_in k16) ?_
            refine e_istore (L' := [some (.ref (ad 12 0)), some (.int p1), some (.int p2), some (.int p3), some (.int p4), some (.int ((4 * ((8 * p1) + p2)) + p3)), some (.int (m.2.1 1239 0 (((4 * ((8 * p1) + p2)) + p3).toNatClampNeg)))]) dX12_mark_62 (by decide) rfl ?_
            refine e_aload_n dX12_mark_64 rfl rfl ?_
            refine g_1239 flX12_103 dX12_mark_65 ?_
            refine e_pc (pc' := 68) rfl ?_
            refine e_iload dX12_mark_68 rfl ?_
            refine e_iload dX12_mark_70 rfl ?_
            obtain ⟨k17, h9⟩ := chkP hN0 h9
            refine s_1239 dX12_mark_72 (inb_in k17) ?_
            refine e_iload dX12_mark_73 rfl ?_
            exact x_iret dX12_mark_75 rfl (hR0 _ _ h9)
          · replace h9 := ifF hc15 h9
            refine e_aload_n dX12_mark_36 rfl rfl ?_
            refine e_bipush (v := (-6)) dX12_mark_37 rfl ?_
            obtain ⟨⟨r18, w19⟩, hr18, h9⟩ := elimP hN0 h9
            refine x_callVi (c := 12) (As := [.int (-6)]) (rest := []) okX12_no lkX12_263 rfl (by decide) rfl dX12_mark_39 rfl rfl (Nat.le_of_ble_eq_true rfl) rfl (c_X12_no (-6) hr18 (CI.mk ?_))
            exact x_iret dX12_mark_42 rfl (hR0 _ _ h9)
      · replace h9 := ifF hc10 h9
        refine e_aload_n dX12_mark_18 rfl rfl ?_
        refine e_iconst (v := (-1)) dX12_mark_19 rfl ?_
        obtain ⟨⟨r21, w22⟩, hr21, h9⟩ := elimP hN0 h9
        refine x_callVi (c := 12) (As := [.int (-1)]) (rest := []) okX12_no lkX12_263 rfl (by decide) rfl dX12_mark_20 rfl rfl (Nat.le_of_ble_eq_true rfl) rfl (c_X12_no (-1) hr21 (CI.mk ?_))
        exact x_iret dX12_mark_23 rfl (hR0 _ _ h9)
noncomputable def j_X12_costs_42 (m : VM) (p1 : Int32) (p2 : Int32) (a14 : Int32) : Option (Int32 × VM) := if p1 = 0 then some (a14, setI m 1206 0 p2) else some (a14, setI m 1207 0 p2)
noncomputable def f_X12_costs (m : VM) (p1 : Int32) (p2 : Int32) : Option (Int32 × VM) := if p1 < 0 then (f_X12_no m (-6)).elim none (fun r2p => some (r2p.1, r2p.2)) else if 1 < p1 then (f_X12_no m (-6)).elim none (fun r6p => some (r6p.1, r6p.2)) else if p2 < 0 then (f_X12_no m (-6)).elim none (fun r10p => some (r10p.1, r10p.2)) else if p2 ≤ 999 then if p1 = 0 then j_X12_costs_42 m p1 p2 (m.1 1206 0) else j_X12_costs_42 m p1 p2 (m.1 1207 0) else (f_X12_no m (-6)).elim none (fun r17p => some (r17p.1, r17p.2))
theorem c_X12_costs {g : GG} {d : Nat} {ad : AD} {x m : VM} {Q : Option Value → VM → VM → Prop} (p1 : Int32) (p2 : Int32) {r9 : Int32} {w9 : VM} (hf : f_X12_costs m p1 p2 = some (r9, w9)) (hq : Q (some (.int r9)) x w9) : CX g (d + 1) MX12_costs [.ref (ad 12 0), .int p1, .int p2] ad x m Q := by
  refine CX.to (Lv := [some (.ref (ad 12 0)), some (.int p1), some (.int p2), none]) okX12_costs (Nat.le_of_ble_eq_true rfl) rfl ?_
  obtain ⟨Φ0, hΦ⟩ : ∃ Φ : Option (Int32 × VM) → Prop, Φ = fun o => o = some (r9, w9) := ⟨_, rfl⟩
  have hN0 : Φ0 none → False := by rw [hΦ]; intro h; cases h
  have hR0 : ∀ z9 y9, Φ0 (some (z9, y9)) → Q (some (.int z9)) x y9 := by rw [hΦ]; intro z9 y9 h; cases h; exact hq
  have h9 : Φ0 (f_X12_costs m p1 p2) := by rw [hΦ]; exact hf
  clear hf hq hΦ
  unfold f_X12_costs at h9
  refine e_iload_n dX12_costs_0 rfl rfl ?_
  refine e_if_lt (tgt := 20) dX12_costs_1 rfl (fun hc1 => ?_) (fun hc1 => ?_)
  · replace h9 := ifT hc1 h9
    refine e_aload_n dX12_costs_20 rfl rfl ?_
    refine e_bipush (v := (-6)) dX12_costs_21 rfl ?_
    obtain ⟨⟨r2, w3⟩, hr2, h9⟩ := elimP hN0 h9
    refine x_callVi (c := 12) (As := [.int (-6)]) (rest := []) okX12_no lkX12_263 rfl (by decide) rfl dX12_costs_23 rfl rfl (Nat.le_of_ble_eq_true rfl) rfl (c_X12_no (-6) hr2 (CI.mk ?_))
    exact x_iret dX12_costs_26 rfl (hR0 _ _ h9)
  · replace h9 := ifF hc1 h9
    refine e_iload_n dX12_costs_4 rfl rfl ?_
    refine e_iconst (v := 1) dX12_costs_5 rfl ?_
    refine e_icmp_gt (tgt := 20) dX12_costs_6 rfl (fun hc5 => ?_) (fun hc5 => ?_)
    · replace h9 := ifT hc5 h9
      refine e_aload_n dX12_costs_20 rfl rfl ?_
      refine e_bipush (v := (-6)) dX12_costs_21 rfl ?_
      obtain ⟨⟨r6, w7⟩, hr6, h9⟩ := elimP hN0 h9
      refine x_callVi (c := 12) (As := [.int (-6)]) (rest := []) okX12_no lkX12_263 rfl (by decide) rfl dX12_costs_23 rfl rfl (Nat.le_of_ble_eq_true rfl) rfl (c_X12_no (-6) hr6 (CI.mk ?_))
      exact x_iret dX12_costs_26 rfl (hR0 _ _ h9)
    · replace h9 := ifF hc5 h9
      refine e_iload_n dX12_costs_9 rfl rfl ?_
      refine e_if_lt (tgt := 20) dX12_costs_10 rfl (fun hc9 => ?_) (fun hc9 => ?_)
      · replace h9 := ifT hc9 h9
        refine e_aload_n dX12_costs_20 rfl rfl ?_
        refine e_bipush (v := (-6)) dX12_costs_21 rfl ?_
        obtain ⟨⟨r10, w11⟩, hr10, h9⟩ := elimP hN0 h9
        refine x_callVi (c := 12) (As := [.int (-6)]) (rest := []) okX12_no lkX12_263 rfl (by decide) rfl dX12_costs_23 rfl rfl (Nat.le_of_ble_eq_true rfl) rfl (c_X12_no (-6) hr10 (CI.mk ?_))
        exact x_iret dX12_costs_26 rfl (hR0 _ _ h9)
      · replace h9 := ifF hc9 h9
        refine e_iload_n dX12_costs_13 rfl rfl ?_
        refine e_sipush (v := 999) dX12_costs_14 rfl ?_
        refine e_icmp_le (tgt := 27) dX12_costs_17 rfl (fun hc13 => ?_) (fun hc13 => ?_)
        · replace h9 := ifT hc13 h9
          refine e_iload_n dX12_costs_27 rfl rfl ?_
          have hj42 : ∀ (a14 : Int32), Φ0 (j_X12_costs_42 m p1 p2 a14) → EX g (d + 1) MX12_costs ad x m 42 [some (.ref (ad 12 0)), some (.int p1), some (.int p2), none] [.int a14] Q := by
            intro a14 h9
            unfold j_X12_costs_42 at h9
            refine e_istore_n (L' := [some (.ref (ad 12 0)), some (.int p1), some (.int p2), some (.int a14)]) dX12_costs_42 rfl (by decide) rfl ?_
            refine e_iload_n dX12_costs_43 rfl rfl ?_
            refine e_if_ne (tgt := 55) dX12_costs_44 rfl (fun hc15 => ?_) (fun hc15 => ?_)
            · replace h9 := ifF hc15 h9
              refine e_aload_n dX12_costs_55 rfl rfl ?_
              refine e_iload_n dX12_costs_56 rfl rfl ?_
              refine p_1207 flX12_318 dX12_costs_57 ?_
              refine e_iload_n dX12_costs_60 rfl rfl ?_
              exact x_iret dX12_costs_61 rfl (hR0 _ _ h9)
            · replace h9 := ifT hc15 h9
              refine e_aload_n dX12_costs_47 rfl rfl ?_
              refine e_iload_n dX12_costs_48 rfl rfl ?_
              refine p_1206 flX12_315 dX12_costs_49 ?_
              refine e_goto (tgt := 60) dX12_costs_52 rfl ?_
              refine e_iload_n dX12_costs_60 rfl rfl ?_
              exact x_iret dX12_costs_61 rfl (hR0 _ _ h9)
          refine e_if_ne (tgt := 38) dX12_costs_28 rfl (fun hc16 => ?_) (fun hc16 => ?_)
          · replace h9 := ifF hc16 h9
            refine e_aload_n dX12_costs_38 rfl rfl ?_
            refine g_1207 flX12_318 dX12_costs_39 ?_
            exact hj42 (m.1 1207 0) h9
          · replace h9 := ifT hc16 h9
            refine e_aload_n dX12_costs_31 rfl rfl ?_
            refine g_1206 flX12_315 dX12_costs_32 ?_
            refine e_goto (tgt := 42) dX12_costs_35 rfl ?_
            exact hj42 (m.1 1206 0) h9
        · replace h9 := ifF hc13 h9
          refine e_aload_n dX12_costs_20 rfl rfl ?_
          refine e_bipush (v := (-6)) dX12_costs_21 rfl ?_
          obtain ⟨⟨r17, w18⟩, hr17, h9⟩ := elimP hN0 h9
          refine x_callVi (c := 12) (As := [.int (-6)]) (rest := []) okX12_no lkX12_263 rfl (by decide) rfl dX12_costs_23 rfl rfl (Nat.le_of_ble_eq_true rfl) rfl (c_X12_no (-6) hr17 (CI.mk ?_))
          exact x_iret dX12_costs_26 rfl (hR0 _ _ h9)
noncomputable def b_X12_dayPay_4 (m : VM) (p1 : Int32) (v1 : Int32 × Int32) : (Int32 × Int32) ⊕ (Option (Int32)) := if (m.1 1202 0) ≤ v1.2 then Sum.inr (some v1.1) else if ((p1 >>> (v1.2 &&& 31)) &&& 1) = 1 then if inb v1.2 16 = true then Sum.inl (v1.1 + ((m.2.1 1217 0 v1.2.toNatClampNeg) / 7), v1.2 + 1) else Sum.inr none else Sum.inl (v1.1, v1.2 + 1)
noncomputable def f_X12_dayPay (m : VM) (p1 : Int32) : Option (Int32) := loopF none (b_X12_dayPay_4 m p1) (0, 0)
theorem c_X12_dayPay {g : GG} {d : Nat} {ad : AD} {x m : VM} {Q : Option Value → VM → VM → Prop} (p1 : Int32) {r9 : Int32} (hf : f_X12_dayPay m p1 = some r9) (hq : Q (some (.int r9)) x m) : CX g d MX12_dayPay [.ref (ad 12 0), .int p1] ad x m Q := by
  refine CX.to (Lv := [some (.ref (ad 12 0)), some (.int p1), none, none]) okX12_dayPay (Nat.le_of_ble_eq_true rfl) rfl ?_
  obtain ⟨Φ0, hΦ⟩ : ∃ Φ : Option (Int32) → Prop, Φ = fun o => o = some r9 := ⟨_, rfl⟩
  have hN0 : Φ0 none → False := by rw [hΦ]; intro h; cases h
  have hR0 : ∀ z9, Φ0 (some z9) → Q (some (.int z9)) x m := by rw [hΦ]; intro z9 h; cases h; exact hq
  have h9 : Φ0 (f_X12_dayPay m p1) := by rw [hΦ]; exact hf
  clear hf hq hΦ
  unfold f_X12_dayPay at h9
  refine e_iconst (v := 0) dX12_dayPay_0 rfl ?_
  refine e_istore_n (L' := [some (.ref (ad 12 0)), some (.int p1), some (.int 0), none]) dX12_dayPay_1 rfl (by decide) rfl ?_
  refine e_iconst (v := 0) dX12_dayPay_2 rfl ?_
  refine e_istore_n (L' := [some (.ref (ad 12 0)), some (.int p1), some (.int 0), some (.int 0)]) dX12_dayPay_3 rfl (by decide) rfl ?_
  refine loop_gen (b_X12_dayPay_4 m p1) none (fun v1 => EX g d MX12_dayPay ad x m 4 [some (.ref (ad 12 0)), some (.int p1), some (.int v1.1), some (.int v1.2)] [] Q) Φ0 hN0 (fun v1 Φ1 hB0_1 hO1 h9 => ?_) (0, 0) h9
  have hN1 := fun h => hN0 (hO1 _ h)
  have hR1 := fun r9 h => hR0 r9 (hO1 _ h)
  have hB0_1 : ∀ (z0 : Int32) (z1 : Int32), Φ1 (Sum.inl (z0, z1)) → EX g d MX12_dayPay ad x m 4 [some (.ref (ad 12 0)), some (.int p1), some (.int z0), some (.int z1)] [] Q := fun z0 z1 h => hB0_1 (z0, z1) h
  unfold b_X12_dayPay_4 at h9
  refine e_iload_n dX12_dayPay_4 rfl rfl ?_
  refine e_aload_n dX12_dayPay_5 rfl rfl ?_
  refine g_1202 flX12_247 dX12_dayPay_6 ?_
  refine e_icmp_ge (tgt := 39) dX12_dayPay_9 rfl (fun hc2 => ?_) (fun hc2 => ?_)
  · replace h9 := ifT hc2 h9
    refine e_iload_n dX12_dayPay_39 rfl rfl ?_
    exact x_iret dX12_dayPay_40 rfl (hR1 _ h9)
  · replace h9 := ifF hc2 h9
    refine e_iload_n dX12_dayPay_12 rfl rfl ?_
    refine e_iload_n dX12_dayPay_13 rfl rfl ?_
    refine e_ishr dX12_dayPay_14 ?_
    refine e_iconst (v := 1) dX12_dayPay_15 rfl ?_
    refine e_iand dX12_dayPay_16 ?_
    refine e_iconst (v := 1) dX12_dayPay_17 rfl ?_
    refine e_icmp_ne (tgt := 33) dX12_dayPay_18 rfl (fun hc3 => ?_) (fun hc3 => ?_)
    · replace h9 := ifF hc3 h9
      refine e_iinc (v := (v1.2 + 1)) (L' := [some (.ref (ad 12 0)), some (.int p1), some (.int v1.1), some (.int (v1.2 + 1))]) dX12_dayPay_33 rfl rfl (by decide) rfl ?_
      refine e_goto (tgt := 4) dX12_dayPay_36 rfl ?_
      exact hB0_1 _ _ h9
    · replace h9 := ifT hc3 h9
      refine e_iload_n dX12_dayPay_21 rfl rfl ?_
      refine e_aload_n dX12_dayPay_22 rfl rfl ?_
      refine g_1217 flX12_36 dX12_dayPay_23 ?_
      refine e_iload_n dX12_dayPay_26 rfl rfl ?_
      obtain ⟨k4, h9⟩ := chkP hN1 h9
      refine l_1217 dX12_dayPay_27 (inb_in k4) ?_
      refine e_bipush (v := 7) dX12_dayPay_28 rfl ?_
      refine e_idiv dX12_dayPay_30 (by decide) ?_
      refine e_iadd dX12_dayPay_31 ?_
      refine e_pc (pc' := 32) rfl ?_
      refine e_istore_n (L' := [some (.ref (ad 12 0)), some (.int p1), some (.int (v1.1 + ((m.2.1 1217 0 v1.2.toNatClampNeg) / 7))), some (.int v1.2)]) dX12_dayPay_32 rfl (by decide) rfl ?_
      refine e_iinc (v := (v1.2 + 1)) (L' := [some (.ref (ad 12 0)), some (.int p1), some (.int (v1.1 + ((m.2.1 1217 0 v1.2.toNatClampNeg) / 7))), some (.int (v1.2 + 1))]) dX12_dayPay_33 rfl rfl (by decide) rfl ?_
      refine e_goto (tgt := 4) dX12_dayPay_36 rfl ?_
      exact hB0_1 _ _ h9
