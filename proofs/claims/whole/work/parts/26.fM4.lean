noncomputable def j_X12_got_19 (m : VM) (p1 : Int32) (p2 : Int32) : Option (Int32) := if p1 = 1 then (f_X12_isOne m p2).elim none (fun r2 => if r2 = 0 then some (-1) else if inb p2 16 = true then some (m.2.1 1226 0 p2.toNatClampNeg) else none) else some (-1)
noncomputable def f_X12_got (m : VM) (p1 : Int32) (p2 : Int32) : Option (Int32) := if p1 = 0 then (f_X12_isHall m p2).elim none (fun r6 => if r6 = 0 then j_X12_got_19 m p1 p2 else if inb p2 6 = true then some (m.2.1 1263 0 p2.toNatClampNeg) else none) else j_X12_got_19 m p1 p2
theorem c_X12_got {g : GG} {d : Nat} {ad : AD} {x m : VM} {Q : Option Value → VM → VM → Prop} (p1 : Int32) (p2 : Int32) {r9 : Int32} (hf : f_X12_got m p1 p2 = some r9) (hq : Q (some (.int r9)) x m) : CX g (d + 1) MX12_got [.ref (ad 12 0), .int p1, .int p2] ad x m Q := by
  refine CX.to (Lv := [some (.ref (ad 12 0)), some (.int p1), some (.int p2)]) okX12_got (Nat.le_of_ble_eq_true rfl) rfl ?_
  obtain ⟨Φ0, hΦ⟩ : ∃ Φ : Option (Int32) → Prop, Φ = fun o => o = some r9 := ⟨_, rfl⟩
  have hN0 : Φ0 none → False := by rw [hΦ]; intro h; cases h
  have hR0 : ∀ z9, Φ0 (some z9) → Q (some (.int z9)) x m := by rw [hΦ]; intro z9 h; cases h; exact hq
  have h9 : Φ0 (f_X12_got m p1 p2) := by rw [hΦ]; exact hf
  clear hf hq hΦ
  unfold f_X12_got at h9
  refine e_iload_n dX12_got_0 rfl rfl ?_
  have hj19 : Φ0 (j_X12_got_19 m p1 p2) → EX g (d + 1) MX12_got ad x m 19 [some (.ref (ad 12 0)), some (.int p1), some (.int p2)] [] Q := by
    intro h9
    unfold j_X12_got_19 at h9
    refine e_iload_n dX12_got_19 rfl rfl ?_
    refine e_iconst (v := 1) dX12_got_20 rfl ?_
    refine e_icmp_ne (tgt := 41) dX12_got_21 rfl (fun hc1 => ?_) (fun hc1 => ?_)
    · replace h9 := ifF hc1 h9
      refine e_iconst (v := (-1)) dX12_got_41 rfl ?_
      exact x_iret dX12_got_42 rfl (hR0 _ h9)
    · replace h9 := ifT hc1 h9
      refine e_aload_n dX12_got_24 rfl rfl ?_
      refine e_iload_n dX12_got_25 rfl rfl ?_
      obtain ⟨r2, hr2, h9⟩ := elimP hN0 h9
      refine x_callVi (c := 12) (As := [.int p2]) (rest := []) okX12_isOne lkX12_277 rfl (by decide) rfl dX12_got_26 rfl rfl (Nat.le_of_ble_eq_true rfl) rfl (c_X12_isOne p2 hr2 (CI.mk ?_))
      refine e_if_eq (tgt := 41) dX12_got_29 rfl (fun hc3 => ?_) (fun hc3 => ?_)
      · replace h9 := ifT hc3 h9
        refine e_iconst (v := (-1)) dX12_got_41 rfl ?_
        exact x_iret dX12_got_42 rfl (hR0 _ h9)
      · replace h9 := ifF hc3 h9
        refine e_aload_n dX12_got_32 rfl rfl ?_
        refine g_1226 flX12_63 dX12_got_33 ?_
        refine e_iload_n dX12_got_36 rfl rfl ?_
        obtain ⟨k4, h9⟩ := chkP hN0 h9
        refine l_1226 dX12_got_37 (inb_in k4) ?_
        refine e_goto (tgt := 42) dX12_got_38 rfl ?_
        exact x_iret dX12_got_42 rfl (hR0 _ h9)
  refine e_if_ne (tgt := 19) dX12_got_1 rfl (fun hc5 => ?_) (fun hc5 => ?_)
  · replace h9 := ifF hc5 h9
    exact hj19 h9
  · replace h9 := ifT hc5 h9
    refine e_aload_n dX12_got_4 rfl rfl ?_
    refine e_iload_n dX12_got_5 rfl rfl ?_
    obtain ⟨r6, hr6, h9⟩ := elimP hN0 h9
    refine x_callVi (c := 12) (As := [.int p2]) (rest := []) okX12_isHall lkX12_369 rfl (by decide) rfl dX12_got_6 rfl rfl (Nat.le_of_ble_eq_true rfl) rfl (c_X12_isHall p2 hr6 (CI.mk ?_))
    refine e_if_eq (tgt := 19) dX12_got_9 rfl (fun hc7 => ?_) (fun hc7 => ?_)
    · replace h9 := ifT hc7 h9
      exact hj19 h9
    · replace h9 := ifF hc7 h9
      refine e_aload_n dX12_got_12 rfl rfl ?_
      refine g_1263 flX12_175 dX12_got_13 ?_
      refine e_iload_n dX12_got_16 rfl rfl ?_
      obtain ⟨k8, h9⟩ := chkP hN0 h9
      refine l_1263 dX12_got_17 (inb_in k8) ?_
      exact x_iret dX12_got_18 rfl (hR0 _ h9)
noncomputable def f_X12_lot (m : VM) (p1 : Int32) (p2 : Int32) : Option (Int32 × VM) := (f_X12_isPicture m p1).elim none (fun r1 => if r1 = 0 then (f_X12_no m (-1)).elim none (fun r13p => some (r13p.1, r13p.2)) else if p2 < 1 then (f_X12_no m (-6)).elim none (fun r4p => some (r4p.1, r4p.2)) else if p2 ≤ 4 then if inb p1 8 = true then if inb p1 8 = true then some (m.2.1 1266 0 p1.toNatClampNeg, setA m 1266 0 (upd (m.2.1 1266 0) p1.toNatClampNeg p2)) else none else none else (f_X12_no m (-6)).elim none (fun r10p => some (r10p.1, r10p.2)))
theorem c_X12_lot {g : GG} {d : Nat} {ad : AD} {x m : VM} {Q : Option Value → VM → VM → Prop} (p1 : Int32) (p2 : Int32) {r9 : Int32} {w9 : VM} (hf : f_X12_lot m p1 p2 = some (r9, w9)) (hq : Q (some (.int r9)) x w9) : CX g (d + 1) MX12_lot [.ref (ad 12 0), .int p1, .int p2] ad x m Q := by
  refine CX.to (Lv := [some (.ref (ad 12 0)), some (.int p1), some (.int p2), none]) okX12_lot (Nat.le_of_ble_eq_true rfl) rfl ?_
  obtain ⟨Φ0, hΦ⟩ : ∃ Φ : Option (Int32 × VM) → Prop, Φ = fun o => o = some (r9, w9) := ⟨_, rfl⟩
  have hN0 : Φ0 none → False := by rw [hΦ]; intro h; cases h
  have hR0 : ∀ z9 y9, Φ0 (some (z9, y9)) → Q (some (.int z9)) x y9 := by rw [hΦ]; intro z9 y9 h; cases h; exact hq
  have h9 : Φ0 (f_X12_lot m p1 p2) := by rw [hΦ]; exact hf
  clear hf hq hΦ
  unfold f_X12_lot at h9
  refine e_aload_n dX12_lot_0 rfl rfl ?_
  refine e_iload_n dX12_lot_1 rfl rfl ?_
  obtain ⟨r1, hr1, h9⟩ := elimP hN0 h9
  refine x_callVi (c := 12) (As := [.int p1]) (rest := []) okX12_isPicture lkX12_253 rfl (by decide) rfl dX12_lot_2 rfl rfl (Nat.le_of_ble_eq_true rfl) rfl (c_X12_isPicture p1 hr1 (CI.mk ?_))
  refine e_if_ne (tgt := 14) dX12_lot_5 rfl (fun hc2 => ?_) (fun hc2 => ?_)
  · replace h9 := ifF hc2 h9
    refine e_iload_n dX12_lot_14 rfl rfl ?_
    refine e_iconst (v := 1) dX12_lot_15 rfl ?_
    refine e_icmp_lt (tgt := 24) dX12_lot_16 rfl (fun hc3 => ?_) (fun hc3 => ?_)
    · replace h9 := ifT hc3 h9
      refine e_aload_n dX12_lot_24 rfl rfl ?_
      refine e_bipush (v := (-6)) dX12_lot_25 rfl ?_
      obtain ⟨⟨r4, w5⟩, hr4, h9⟩ := elimP hN0 h9
      refine x_callVi (c := 12) (As := [.int (-6)]) (rest := []) okX12_no lkX12_263 rfl (by decide) rfl dX12_lot_27 rfl rfl (Nat.le_of_ble_eq_true rfl) rfl (c_X12_no (-6) hr4 (CI.mk ?_))
      exact x_iret dX12_lot_30 rfl (hR0 _ _ h9)
    · replace h9 := ifF hc3 h9
      refine e_iload_n dX12_lot_19 rfl rfl ?_
      refine e_iconst (v := 4) dX12_lot_20 rfl ?_
      refine e_icmp_le (tgt := 31) dX12_lot_21 rfl (fun hc7 => ?_) (fun hc7 => ?_)
      · replace h9 := ifT hc7 h9
        refine e_aload_n dX12_lot_31 rfl rfl ?_
        refine g_1266 flX12_184 dX12_lot_32 ?_
        refine e_iload_n dX12_lot_35 rfl rfl ?_
        obtain ⟨k8, h9⟩ := chkP hN0 h9
        refine l_1266 dX12_lot_36 (inb_in k8) ?_
        refine e_istore_n (L' := [some (.ref (ad 12 0)), some (.int p1), some (.int p2), some (.int (m.2.1 1266 0 p1.toNatClampNeg))]) dX12_lot_37 rfl (by decide) rfl ?_
        refine e_aload_n dX12_lot_38 rfl rfl ?_
        refine g_1266 flX12_184 dX12_lot_39 ?_
        refine e_iload_n dX12_lot_42 rfl rfl ?_
        refine e_pc (pc' := 43) rfl ?_
        refine e_iload_n dX12_lot_43 rfl rfl ?_
        obtain ⟨k9, h9⟩ := chkP hN0 h9
        refine s_1266 dX12_lot_44 (inb_in k9) ?_
        refine e_iload_n dX12_lot_45 rfl rfl ?_
        exact x_iret dX12_lot_46 rfl (hR0 _ _ h9)
      · replace h9 := ifF hc7 h9
        refine e_aload_n dX12_lot_24 rfl rfl ?_
        refine e_bipush (v := (-6)) dX12_lot_25 rfl ?_
        obtain ⟨⟨r10, w11⟩, hr10, h9⟩ := elimP hN0 h9
        refine x_callVi (c := 12) (As := [.int (-6)]) (rest := []) okX12_no lkX12_263 rfl (by decide) rfl dX12_lot_27 rfl rfl (Nat.le_of_ble_eq_true rfl) rfl (c_X12_no (-6) hr10 (CI.mk ?_))
        exact x_iret dX12_lot_30 rfl (hR0 _ _ h9)
  · replace h9 := ifT hc2 h9
    refine e_aload_n dX12_lot_8 rfl rfl ?_
    refine e_iconst (v := (-1)) dX12_lot_9 rfl ?_
    obtain ⟨⟨r13, w14⟩, hr13, h9⟩ := elimP hN0 h9
    refine x_callVi (c := 12) (As := [.int (-1)]) (rest := []) okX12_no lkX12_263 rfl (by decide) rfl dX12_lot_10 rfl rfl (Nat.le_of_ble_eq_true rfl) rfl (c_X12_no (-1) hr13 (CI.mk ?_))
    exact x_iret dX12_lot_13 rfl (hR0 _ _ h9)
noncomputable def f_X12_worth (m : VM) (p1 : Int32) (p2 : Int32) (p3 : Int32) : Option (Int32 × VM) := (f_X12_isPicture m p1).elim none (fun r1 => if r1 = 0 then (f_X12_no m (-1)).elim none (fun r21p => some (r21p.1, r21p.2)) else if p2 < 0 then (f_X12_no m (-6)).elim none (fun r4p => some (r4p.1, r4p.2)) else if 7 < p2 then (f_X12_no m (-6)).elim none (fun r8p => some (r8p.1, r8p.2)) else if p3 < 0 then (f_X12_no m (-6)).elim none (fun r12p => some (r12p.1, r12p.2)) else if p3 ≤ 999 then if inb ((8 * p1) + p2) 64 = true then if inb ((8 * p1) + p2) 64 = true then some (m.2.1 1267 0 (((8 * p1) + p2).toNatClampNeg), setA m 1267 0 (upd (m.2.1 1267 0) (((8 * p1) + p2).toNatClampNeg) p3)) else none else none else (f_X12_no m (-6)).elim none (fun r18p => some (r18p.1, r18p.2)))
theorem c_X12_worth {g : GG} {d : Nat} {ad : AD} {x m : VM} {Q : Option Value → VM → VM → Prop} (p1 : Int32) (p2 : Int32) (p3 : Int32) {r9 : Int32} {w9 : VM} (hf : f_X12_worth m p1 p2 p3 = some (r9, w9)) (hq : Q (some (.int r9)) x w9) : CX g (d + 1) MX12_worth [.ref (ad 12 0), .int p1, .int p2, .int p3] ad x m Q := by
  refine CX.to (Lv := [some (.ref (ad 12 0)), some (.int p1), some (.int p2), some (.int p3), none]) okX12_worth (Nat.le_of_ble_eq_true rfl) rfl ?_
  obtain ⟨Φ0, hΦ⟩ : ∃ Φ : Option (Int32 × VM) → Prop, Φ = fun o => o = some (r9, w9) := ⟨_, rfl⟩
  have hN0 : Φ0 none → False := by rw [hΦ]; intro h; cases h
  have hR0 : ∀ z9 y9, Φ0 (some (z9, y9)) → Q (some (.int z9)) x y9 := by rw [hΦ]; intro z9 y9 h; cases h; exact hq
  have h9 : Φ0 (f_X12_worth m p1 p2 p3) := by rw [hΦ]; exact hf
  clear hf hq hΦ
  unfold f_X12_worth at h9
  refine e_aload_n dX12_worth_0 rfl rfl ?_
  refine e_iload_n dX12_worth_1 rfl rfl ?_
  obtain ⟨r1, hr1, h9⟩ := elimP hN0 h9
  refine x_callVi (c := 12) (As := [.int p1]) (rest := []) okX12_isPicture lkX12_253 rfl (by decide) rfl dX12_worth_2 rfl rfl (Nat.le_of_ble_eq_true rfl) rfl (c_X12_isPicture p1 hr1 (CI.mk ?_))
  refine e_if_ne (tgt := 14) dX12_worth_5 rfl (fun hc2 => ?_) (fun hc2 => ?_)
  · replace h9 := ifF hc2 h9
    refine e_iload_n dX12_worth_14 rfl rfl ?_
    refine e_if_lt (tgt := 35) dX12_worth_15 rfl (fun hc3 => ?_) (fun hc3 => ?_)
    · replace h9 := ifT hc3 h9
      refine e_aload_n dX12_worth_35 rfl rfl ?_
      refine e_bipush (v := (-6)) dX12_worth_36 rfl ?_
      obtain ⟨⟨r4, w5⟩, hr4, h9⟩ := elimP hN0 h9
      refine x_callVi (c := 12) (As := [.int (-6)]) (rest := []) okX12_no lkX12_263 rfl (by decide) rfl dX12_worth_38 rfl rfl (Nat.le_of_ble_eq_true rfl) rfl (c_X12_no (-6) hr4 (CI.mk ?_))
      exact x_iret dX12_worth_41 rfl (hR0 _ _ h9)
    · replace h9 := ifF hc3 h9
      refine e_iload_n dX12_worth_18 rfl rfl ?_
      refine e_bipush (v := 7) dX12_worth_19 rfl ?_
      refine e_icmp_gt (tgt := 35) dX12_worth_21 rfl (fun hc7 => ?_) (fun hc7 => ?_)
      · replace h9 := ifT hc7 h9
        refine e_aload_n dX12_worth_35 rfl rfl ?_
        refine e_bipush (v := (-6)) dX12_worth_36 rfl ?_
        obtain ⟨⟨r8, w9⟩, hr8, h9⟩ := elimP hN0 h9
        refine x_callVi (c := 12) (As := [.int (-6)]) (rest := []) okX12_no lkX12_263 rfl (by decide) rfl dX12_worth_38 rfl rfl (Nat.le_of_ble_eq_true rfl) rfl (c_X12_no (-6) hr8 (CI.mk ?_))
        exact x_iret dX12_worth_41 rfl (hR0 _ _ h9)
      · replace h9 := ifF hc7 h9
        refine e_iload_n dX12_worth_24 rfl rfl ?_
        refine e_if_lt (tgt := 35) dX12_worth_25 rfl (fun hc11 => ?_) (fun hc11 => ?_)
        · replace h9 := ifT hc11 h9
          refine e_aload_n dX12_worth_35 rfl rfl ?_
          refine e_bipush (v := (-6)) dX12_worth_36 rfl ?_
          obtain ⟨⟨r12, w13⟩, hr12, h9⟩ := elimP hN0 h9
          refine x_callVi (c := 12) (As := [.int (-6)]) (rest := []) okX12_no lkX12_263 rfl (by decide) rfl dX12_worth_38 rfl rfl (Nat.le_of_ble_eq_true rfl) rfl (c_X12_no (-6) hr12 (CI.mk ?_))
          exact x_iret dX12_worth_41 rfl (hR0 _ _ h9)
        · replace h9 := ifF hc11 h9
          refine e_iload_n dX12_worth_28 rfl rfl ?_
          refine e_sipush (v := 999) dX12_worth_29 rfl ?_
          refine e_icmp_le (tgt := 42) dX12_worth_32 rfl (fun hc15 => ?_) (fun hc15 => ?_)
          · replace h9 := ifT hc15 h9
            refine e_aload_n dX12_worth_42 rfl rfl ?_
            refine g_1267 flX12_187 dX12_worth_43 ?_
            refine e_bipush (v := 8) dX12_worth_46 rfl ?_
            refine e_iload_n dX12_worth_48 rfl rfl ?_
            refine e_imul dX12_worth_49 ?_
            refine e_iload_n dX12_worth_50 rfl rfl ?_
            refine e_iadd dX12_worth_51 ?_
            obtain ⟨k16, h9⟩ := chkP hN0 h9
            refine l_1267 dX12_worth_52 (inb_in k16) ?_
            refine e_pc (pc' := 53) rfl ?_
            refine e_istore (L' := [some (.ref (ad 12 0)), some (.int p1), some (.int p2), some (.int p3), some (.int (m.2.1 1267 0 (((8 * p1) + p2).toNatClampNeg)))]) dX12_worth_53 (by decide) rfl ?_
            refine e_aload_n dX12_worth_55 rfl rfl ?_
            refine g_1267 flX12_187 dX12_worth_56 ?_
            refine e_bipush (v := 8) dX12_worth_59 rfl ?_
            refine e_iload_n dX12_worth_61 rfl rfl ?_
            refine e_imul dX12_worth_62 ?_
            refine e_iload_n dX12_worth_63 rfl rfl ?_
            refine e_iadd dX12_worth_64 ?_
            refine e_iload_n dX12_worth_65 rfl rfl ?_
            refine e_pc (pc' := 66) rfl ?_
            obtain ⟨k17, h9⟩ := chkP hN0 h9
            refine s_1267 dX12_worth_66 (inb_in k17) ?_
            refine e_iload dX12_worth_67 rfl ?_
            exact x_iret dX12_worth_69 rfl (hR0 _ _ h9)
          · replace h9 := ifF hc15 h9
            refine e_aload_n dX12_worth_35 rfl rfl ?_
            refine e_bipush (v := (-6)) dX12_worth_36 rfl ?_
            obtain ⟨⟨r18, w19⟩, hr18, h9⟩ := elimP hN0 h9
            refine x_callVi (c := 12) (As := [.int (-6)]) (rest := []) okX12_no lkX12_263 rfl (by decide) rfl dX12_worth_38 rfl rfl (Nat.le_of_ble_eq_true rfl) rfl (c_X12_no (-6) hr18 (CI.mk ?_))
            exact x_iret dX12_worth_41 rfl (hR0 _ _ h9)
  · replace h9 := ifT hc2 h9
    refine e_aload_n dX12_worth_8 rfl rfl ?_
    refine e_iconst (v := (-1)) dX12_worth_9 rfl ?_
    obtain ⟨⟨r21, w22⟩, hr21, h9⟩ := elimP hN0 h9
    refine x_callVi (c := 12) (As := [.int (-1)]) (rest := []) okX12_no lkX12_263 rfl (by decide) rfl dX12_worth_10 rfl rfl (Nat.le_of_ble_eq_true rfl) rfl (c_X12_no (-1) hr21 (CI.mk ?_))
    exact x_iret dX12_worth_13 rfl (hR0 _ _ h9)
noncomputable def f_X12_isIn (m : VM) (p1 : Int32) (p2 : Int32) (p3 : Int32) : Option (Int32) := if 8 ≤ p2 then some 0 else if p3 < p2 then some 0 else if inb p1 8 = true then if (p2 + (m.2.1 1266 0 p1.toNatClampNeg)) ≤ p3 then some 0 else some 1 else none
theorem c_X12_isIn {g : GG} {d : Nat} {ad : AD} {x m : VM} {Q : Option Value → VM → VM → Prop} (p1 : Int32) (p2 : Int32) (p3 : Int32) {r9 : Int32} (hf : f_X12_isIn m p1 p2 p3 = some r9) (hq : Q (some (.int r9)) x m) : CX g d MX12_isIn [.ref (ad 12 0), .int p1, .int p2, .int p3] ad x m Q := by
  refine CX.to (Lv := [some (.ref (ad 12 0)), some (.int p1), some (.int p2), some (.int p3)]) okX12_isIn (Nat.le_of_ble_eq_true rfl) rfl ?_
  obtain ⟨Φ0, hΦ⟩ : ∃ Φ : Option (Int32) → Prop, Φ = fun o => o = some r9 := ⟨_, rfl⟩
  have hN0 : Φ0 none → False := by rw [hΦ]; intro h; cases h
  have hR0 : ∀ z9, Φ0 (some z9) → Q (some (.int z9)) x m := by rw [hΦ]; intro z9 h; cases h; exact hq
  have h9 : Φ0 (f_X12_isIn m p1 p2 p3) := by rw [hΦ]; exact hf
  clear hf hq hΦ
  unfold f_X12_isIn at h9
  refine e_iload_n dX12_isIn_0 rfl rfl ?_
  refine e_bipush (v := 8) dX12_isIn_1 rfl ?_
  refine e_icmp_ge (tgt := 27) dX12_isIn_3 rfl (fun hc1 => ?_) (fun hc1 => ?_)
  · replace h9 := ifT hc1 h9
    refine e_iconst (v := 0) dX12_isIn_27 rfl ?_
    exact x_zret dX12_isIn_28 rfl (by decide) (hR0 _ h9)
  · replace h9 := ifF hc1 h9
    refine e_iload_n dX12_isIn_6 rfl rfl ?_
    refine e_iload_n dX12_isIn_7 rfl rfl ?_
    refine e_icmp_lt (tgt := 27) dX12_isIn_8 rfl (fun hc2 => ?_) (fun hc2 => ?_)
    · replace h9 := ifT hc2 h9
      refine e_iconst (v := 0) dX12_isIn_27 rfl ?_
      exact x_zret dX12_isIn_28 rfl (by decide) (hR0 _ h9)
    · replace h9 := ifF hc2 h9
      refine e_iload_n dX12_isIn_11 rfl rfl ?_
      refine e_iload_n dX12_isIn_12 rfl rfl ?_
      refine e_aload_n dX12_isIn_13 rfl rfl ?_
      refine g_1266 flX12_184 dX12_isIn_14 ?_
      refine e_iload_n dX12_isIn_17 rfl rfl ?_
      obtain ⟨k3, h9⟩ := chkP hN0 h9
      refine l_1266 dX12_isIn_18 (inb_in k3) ?_
      refine e_iadd dX12_isIn_19 ?_
      refine e_icmp_ge (tgt := 27) dX12_isIn_20 rfl (fun hc4 => ?_) (fun hc4 => ?_)
      · replace h9 := ifT hc4 h9
        refine e_iconst (v := 0) dX12_isIn_27 rfl ?_
        exact x_zret dX12_isIn_28 rfl (by decide) (hR0 _ h9)
      · replace h9 := ifF hc4 h9
        refine e_iconst (v := 1) dX12_isIn_23 rfl ?_
        refine e_goto (tgt := 28) dX12_isIn_24 rfl ?_
        exact x_zret dX12_isIn_28 rfl (by decide) (hR0 _ h9)
noncomputable def b_X12_mayBegin_53 (m : VM) (p1 : Int32) (p2 : Int32) (p3 : Int32) (v4 : Int32) (v8 : Int32 × Int32) : (Int32 × Int32) ⊕ ((Int32) ⊕ (Option (Int32))) := if p1 ≤ v8.2 then if v8.1 ≤ p3 then Sum.inr (Sum.inl (v4 + 1)) else Sum.inr (Sum.inr (some 0)) else if inb v8.2 9 = true then (f_X12_isIn m v8.2 (m.2.1 1284 0 v8.2.toNatClampNeg) v4).elim (Sum.inr (Sum.inr none)) (fun r12 => if r12 = 0 then Sum.inl (v8.1, v8.2 + 1) else if inb p1 8 = true then if inb v8.2 8 = true then if ((m.2.1 1287 0 p1.toNatClampNeg) &&& (m.2.1 1287 0 v8.2.toNatClampNeg)) = 0 then Sum.inl (v8.1 + 1, v8.2 + 1) else Sum.inr (Sum.inr (some 0)) else Sum.inr (Sum.inr none) else Sum.inr (Sum.inr none)) else Sum.inr (Sum.inr none)
noncomputable def b_X12_mayBegin_27 (m : VM) (p1 : Int32) (p2 : Int32) (p3 : Int32) (v4 : Int32) : (Int32) ⊕ (Option (Int32)) := if 8 ≤ v4 then Sum.inr (some 1) else if inb p1 8 = true then if (p2 + (m.2.1 1266 0 p1.toNatClampNeg)) ≤ v4 then Sum.inr (some 1) else loopF (Sum.inr none) (b_X12_mayBegin_53 m p1 p2 p3 v4) (1, 0) else Sum.inr none
noncomputable def b_X12_mayBegin_53_24 (m : VM) (p1 : Int32) (p2 : Int32) (p3 : Int32) (v18 : Int32) (v23 : Int32 × Int32) : (Int32 × Int32) ⊕ ((Int32) ⊕ (Option (Int32))) := if p1 ≤ v23.2 then if v23.1 ≤ p3 then Sum.inr (Sum.inl (v18 + 1)) else Sum.inr (Sum.inr (some 0)) else if inb v23.2 9 = true then (f_X12_isIn m v23.2 (m.2.1 1284 0 v23.2.toNatClampNeg) v18).elim (Sum.inr (Sum.inr none)) (fun r28 => if r28 = 0 then Sum.inl (v23.1, v23.2 + 1) else if inb p1 8 = true then if inb v23.2 8 = true then if ((m.2.1 1287 0 p1.toNatClampNeg) &&& (m.2.1 1287 0 v23.2.toNatClampNeg)) = 0 then Sum.inl (v23.1 + 1, v23.2 + 1) else Sum.inr (Sum.inr (some 0)) else Sum.inr (Sum.inr none) else Sum.inr (Sum.inr none)) else Sum.inr (Sum.inr none)
noncomputable def b_X12_mayBegin_27_19 (m : VM) (p1 : Int32) (p2 : Int32) (p3 : Int32) (v18 : Int32) : (Int32) ⊕ (Option (Int32)) := if 8 ≤ v18 then Sum.inr (some 1) else if inb p1 8 = true then if (p2 + (m.2.1 1266 0 p1.toNatClampNeg)) ≤ v18 then Sum.inr (some 1) else loopF (Sum.inr none) (b_X12_mayBegin_53_24 m p1 p2 p3 v18) (1, 0) else Sum.inr none
noncomputable def b_X12_mayBegin_53_40 (m : VM) (p1 : Int32) (p2 : Int32) (p3 : Int32) (v34 : Int32) (v39 : Int32 × Int32) : (Int32 × Int32) ⊕ ((Int32) ⊕ (Option (Int32))) := if p1 ≤ v39.2 then if v39.1 ≤ p3 then Sum.inr (Sum.inl (v34 + 1)) else Sum.inr (Sum.inr (some 0)) else if inb v39.2 9 = true then (f_X12_isIn m v39.2 (m.2.1 1284 0 v39.2.toNatClampNeg) v34).elim (Sum.inr (Sum.inr none)) (fun r44 => if r44 = 0 then Sum.inl (v39.1, v39.2 + 1) else if inb p1 8 = true then if inb v39.2 8 = true then if ((m.2.1 1287 0 p1.toNatClampNeg) &&& (m.2.1 1287 0 v39.2.toNatClampNeg)) = 0 then Sum.inl (v39.1 + 1, v39.2 + 1) else Sum.inr (Sum.inr (some 0)) else Sum.inr (Sum.inr none) else Sum.inr (Sum.inr none)) else Sum.inr (Sum.inr none)
noncomputable def b_X12_mayBegin_27_35 (m : VM) (p1 : Int32) (p2 : Int32) (p3 : Int32) (v34 : Int32) : (Int32) ⊕ (Option (Int32)) := if 8 ≤ v34 then Sum.inr (some 1) else if inb p1 8 = true then if (p2 + (m.2.1 1266 0 p1.toNatClampNeg)) ≤ v34 then Sum.inr (some 1) else loopF (Sum.inr none) (b_X12_mayBegin_53_40 m p1 p2 p3 v34) (1, 0) else Sum.inr none
noncomputable def f_X12_mayBegin (m : VM) (p1 : Int32) (p2 : Int32) (p3 : Int32) : Option (Int32) := if inb p1 8 = true then (f_X12_isUnder m (m.2.1 1234 0 p1.toNatClampNeg) 3).elim none (fun r2 => if r2 = 0 then loopF none (b_X12_mayBegin_27 m p1 p2 p3) p2 else if p2 = 0 then loopF none (b_X12_mayBegin_27_19 m p1 p2 p3) p2 else if p2 = 4 then loopF none (b_X12_mayBegin_27_35 m p1 p2 p3) p2 else some 0) else none
theorem c_X12_mayBegin {g : GG} {d : Nat} {ad : AD} {x m : VM} {Q : Option Value → VM → VM → Prop} (p1 : Int32) (p2 : Int32) (p3 : Int32) {r9 : Int32} (hf : f_X12_mayBegin m p1 p2 p3 = some r9) (hq : Q (some (.int r9)) x m) : CX g (d + 1) MX12_mayBegin [.ref (ad 12 0), .int p1, .int p2, .int p3] ad x m Q := by
  refine CX.to (Lv := [some (.ref (ad 12 0)), some (.int p1), some (.int p2), some (.int p3), none, none, none]) okX12_mayBegin (Nat.le_of_ble_eq_true rfl) rfl ?_
  obtain ⟨Φ0, hΦ⟩ : ∃ Φ : Option (Int32) → Prop, Φ = fun o => o = some r9 := ⟨_, rfl⟩
  have hN0 : Φ0 none → False := by rw [hΦ]; intro h; cases h
  have hR0 : ∀ z9, Φ0 (some z9) → Q (some (.int z9)) x m := by rw [hΦ]; intro z9 h; cases h; exact hq
  have h9 : Φ0 (f_X12_mayBegin m p1 p2 p3) := by rw [hΦ]; exact hf
  clear hf hq hΦ
  unfold f_X12_mayBegin at h9
  refine e_aload_n dX12_mayBegin_0 rfl rfl ?_
  refine g_1234 flX12_88 dX12_mayBegin_1 ?_
  refine e_iload_n dX12_mayBegin_4 rfl rfl ?_
  obtain ⟨k1, h9⟩ := chkP hN0 h9
  refine l_1234 dX12_mayBegin_5 (inb_in k1) ?_
  refine e_iconst (v := 3) dX12_mayBegin_6 rfl ?_
  obtain ⟨r2, hr2, h9⟩ := elimP hN0 h9
  refine x_callSi (As := [.int (m.2.1 1234 0 p1.toNatClampNeg), .int 3]) (rest := []) okX12_isUnder lkX12_267 dX12_mayBegin_7 rfl rfl (Nat.le_of_ble_eq_true rfl) (c_X12_isUnder (m.2.1 1234 0 p1.toNatClampNeg) 3 hr2 (CI.mk ?_))
  refine e_if_eq (tgt := 24) dX12_mayBegin_10 rfl (fun hc3 => ?_) (fun hc3 => ?_)
  · replace h9 := ifT hc3 h9
    refine e_iload_n dX12_mayBegin_24 rfl rfl ?_
    refine e_istore (L' := [some (.ref (ad 12 0)), some (.int p1), some (.int p2), some (.int p3), some (.int p2), none, none]) dX12_mayBegin_25 (by decide) rfl ?_
    refine loop_gen (b_X12_mayBegin_27 m p1 p2 p3) none (fun v4 => EX g (d + 1) MX12_mayBegin ad x m 27 [some (.ref (ad 12 0)), some (.int p1), some (.int p2), some (.int p3), some (.int v4), none, none] [] Q) Φ0 hN0 (fun v4 Φ1 hB0_1 hO1 h9 => ?_) p2 h9
    have hN1 := fun h => hN0 (hO1 _ h)
    have hR1 := fun r9 h => hR0 r9 (hO1 _ h)
    have hB0_1 : ∀ (z0 : Int32), Φ1 (Sum.inl z0) → EX g (d + 1) MX12_mayBegin ad x m 27 [some (.ref (ad 12 0)), some (.int p1), some (.int p2), some (.int p3), some (.int z0), none, none] [] Q := fun z0 h => hB0_1 z0 h
    unfold b_X12_mayBegin_27 at h9
    refine e_iload dX12_mayBegin_27 rfl ?_
    refine e_bipush (v := 8) dX12_mayBegin_29 rfl ?_
    refine e_icmp_ge (tgt := 122) dX12_mayBegin_31 rfl (fun hc5 => ?_) (fun hc5 => ?_)
    · replace h9 := ifT hc5 h9
      refine e_iconst (v := 1) dX12_mayBegin_122 rfl ?_
      exact x_zret dX12_mayBegin_123 rfl (by decide) (hR1 _ h9)
    · replace h9 := ifF hc5 h9
      refine e_iload dX12_mayBegin_34 rfl ?_
      refine e_iload_n dX12_mayBegin_36 rfl rfl ?_
      refine e_aload_n dX12_mayBegin_37 rfl rfl ?_
      refine g_1266 flX12_184 dX12_mayBegin_38 ?_
      refine e_iload_n dX12_mayBegin_41 rfl rfl ?_
      obtain ⟨k6, h9⟩ := chkP hN1 h9
      refine l_1266 dX12_mayBegin_42 (inb_in k6) ?_
      refine e_iadd dX12_mayBegin_43 ?_
      refine e_icmp_ge (tgt := 122) dX12_mayBegin_44 rfl (fun hc7 => ?_) (fun hc7 => ?_)
      · replace h9 := ifT hc7 h9
        refine e_iconst (v := 1) dX12_mayBegin_122 rfl ?_
        exact x_zret dX12_mayBegin_123 rfl (by decide) (hR1 _ h9)
      · replace h9 := ifF hc7 h9
        refine e_iconst (v := 1) dX12_mayBegin_47 rfl ?_
        refine e_istore (L' := [some (.ref (ad 12 0)), some (.int p1), some (.int p2), some (.int p3), some (.int v4), some (.int 1), none]) dX12_mayBegin_48 (by decide) rfl ?_
        refine e_iconst (v := 0) dX12_mayBegin_50 rfl ?_
        refine e_istore (L' := [some (.ref (ad 12 0)), some (.int p1), some (.int p2), some (.int p3), some (.int v4), some (.int 1), some (.int 0)]) dX12_mayBegin_51 (by decide) rfl ?_
        refine loop_gen (b_X12_mayBegin_53 m p1 p2 p3 v4) (Sum.inr none) (fun v8 => EX g (d + 1) MX12_mayBegin ad x m 53 [some (.ref (ad 12 0)), some (.int p1), some (.int p2), some (.int p3), some (.int v4), some (.int v8.1), some (.int v8.2)] [] Q) Φ1 hN1 (fun v8 Φ2 hB1_2 hO2 h9 => ?_) (1, 0) h9
        have hN2 := fun h => hN1 (hO2 _ h)
        have hR2 := fun r9 h => hR1 r9 (hO2 _ h)
        have hB0_2 : ∀ (z0 : Int32), Φ2 (Sum.inr (Sum.inl z0)) → EX g (d + 1) MX12_mayBegin ad x m 27 [some (.ref (ad 12 0)), some (.int p1), some (.int p2), some (.int p3), some (.int z0), none, none] [] Q := fun z0 h => hB0_1 z0 (hO2 _ h)
        have hB1_2 : ∀ (z0 : Int32) (z1 : Int32), Φ2 (Sum.inl (z0, z1)) → EX g (d + 1) MX12_mayBegin ad x m 53 [some (.ref (ad 12 0)), some (.int p1), some (.int p2), some (.int p3), some (.int v4), some (.int z0), some (.int z1)] [] Q := fun z0 z1 h => hB1_2 (z0, z1) h
        unfold b_X12_mayBegin_53 at h9
        refine e_iload dX12_mayBegin_53 rfl ?_
        refine e_iload_n dX12_mayBegin_55 rfl rfl ?_
        refine e_icmp_ge (tgt := 108) dX12_mayBegin_56 rfl (fun hc9 => ?_) (fun hc9 => ?_)
        · replace h9 := ifT hc9 h9
          refine e_iload dX12_mayBegin_108 rfl ?_
          refine e_iload_n dX12_mayBegin_110 rfl rfl ?_
          refine e_icmp_le (tgt := 116) dX12_mayBegin_111 rfl (fun hc10 => ?_) (fun hc10 => ?_)
          · replace h9 := ifT hc10 h9
            refine e_iinc (v := (v4 + 1)) (L' := [some (.ref (ad 12 0)), some (.int p1), some (.int p2), some (.int p3), some (.int (v4 + 1)), some (.int v8.1), some (.int v8.2)]) dX12_mayBegin_116 rfl rfl (by decide) rfl ?_
            refine e_goto (tgt := 27) dX12_mayBegin_119 rfl ?_
            refine e_wk (L' := [some (.ref (ad 12 0)), some (.int p1), some (.int p2), some (.int p3), some (.int (v4 + 1)), none, none]) (wkC (wkC (wkC (wkC (wkC (wkN (wkN wk0))))))) ?_
            exact hB0_2 _ h9
          · replace h9 := ifF hc10 h9
            refine e_iconst (v := 0) dX12_mayBegin_114 rfl ?_
            exact x_zret dX12_mayBegin_115 rfl (by decide) (hR2 _ h9)
        · replace h9 := ifF hc9 h9
          refine e_aload_n dX12_mayBegin_59 rfl rfl ?_
          refine e_iload dX12_mayBegin_60 rfl ?_
          refine e_aload_n dX12_mayBegin_62 rfl rfl ?_
          refine g_1284 flX12_235 dX12_mayBegin_63 ?_
          refine e_iload dX12_mayBegin_66 rfl ?_
          obtain ⟨k11, h9⟩ := chkP hN2 h9
          refine l_1284 dX12_mayBegin_68 (inb_in k11) ?_
          refine e_iload dX12_mayBegin_69 rfl ?_
          obtain ⟨r12, hr12, h9⟩ := elimP hN2 h9
          refine x_callVi (c := 12) (As := [.int v8.2, .int (m.2.1 1284 0 v8.2.toNatClampNeg), .int v4]) (rest := []) okX12_isIn lkX12_379 rfl (by decide) rfl dX12_mayBegin_71 rfl rfl (Nat.le_of_ble_eq_true rfl) rfl (c_X12_isIn v8.2 (m.2.1 1284 0 v8.2.toNatClampNeg) v4 hr12 (CI.mk ?_))
          refine e_pc (pc' := 74) rfl ?_
          refine e_if_ne (tgt := 80) dX12_mayBegin_74 rfl (fun hc13 => ?_) (fun hc13 => ?_)
          · replace h9 := ifF hc13 h9
            refine e_iinc (v := (v8.1 + 1)) (L' := [some (.ref (ad 12 0)), some (.int p1), some (.int p2), some (.int p3), some (.int v4), some (.int (v8.1 + 1)), some (.int v8.2)]) dX12_mayBegin_80 rfl rfl (by decide) rfl ?_
            refine e_aload_n dX12_mayBegin_83 rfl rfl ?_
            refine g_1287 flX12_244 dX12_mayBegin_84 ?_
            refine e_iload_n dX12_mayBegin_87 rfl rfl ?_
            obtain ⟨k14, h9⟩ := chkP hN2 h9
            refine l_1287 dX12_mayBegin_88 (inb_in k14) ?_
            refine e_aload_n dX12_mayBegin_89 rfl rfl ?_
            refine g_1287 flX12_244 dX12_mayBegin_90 ?_
            refine e_iload dX12_mayBegin_93 rfl ?_
            refine e_pc (pc' := 95) rfl ?_
            obtain ⟨k15, h9⟩ := chkP hN2 h9
            refine l_1287 dX12_mayBegin_95 (inb_in k15) ?_
            refine e_iand dX12_mayBegin_96 ?_
            refine e_if_eq (tgt := 102) dX12_mayBegin_97 rfl (fun hc16 => ?_) (fun hc16 => ?_)
            · replace h9 := ifT hc16 h9
              refine e_iinc (v := (v8.2 + 1)) (L' := [some (.ref (ad 12 0)), some (.int p1), some (.int p2), some (.int p3), some (.int v4), some (.int (v8.1 + 1)), some (.int (v8.2 + 1))]) dX12_mayBegin_102 rfl rfl (by decide) rfl ?_
              refine e_goto (tgt := 53) dX12_mayBegin_105 rfl ?_
              exact hB1_2 _ _ h9
            · replace h9 := ifF hc16 h9
              refine e_iconst (v := 0) dX12_mayBegin_100 rfl ?_
              exact x_zret dX12_mayBegin_101 rfl (by decide) (hR2 _ h9)
          · replace h9 := ifT hc13 h9
            refine e_goto (tgt := 102) dX12_mayBegin_77 rfl ?_
            refine e_iinc (v := (v8.2 + 1)) (L' := [some (.ref (ad 12 0)), some (.int p1), some (.int p2), some (.int p3), some (.int v4), some (.int v8.1), some (.int (v8.2 + 1))]) dX12_mayBegin_102 rfl rfl (by decide) rfl ?_
            refine e_goto (tgt := 53) dX12_mayBegin_105 rfl ?_
            exact hB1_2 _ _ h9
  · replace h9 := ifF hc3 h9
    refine e_iload_n dX12_mayBegin_13 rfl rfl ?_
    refine e_if_eq (tgt := 24) dX12_mayBegin_14 rfl (fun hc17 => ?_) (fun hc17 => ?_)
    · replace h9 := ifT hc17 h9
      refine e_iload_n dX12_mayBegin_24 rfl rfl ?_
      refine e_istore (L' := [some (.ref (ad 12 0)), some (.int p1), some (.int p2), some (.int p3), some (.int p2), none, none]) dX12_mayBegin_25 (by decide) rfl ?_
      refine loop_gen (b_X12_mayBegin_27_19 m p1 p2 p3) none (fun v18 => EX g (d + 1) MX12_mayBegin ad x m 27 [some (.ref (ad 12 0)), some (.int p1), some (.int p2), some (.int p3), some (.int v18), none, none] [] Q) Φ0 hN0 (fun v18 Φ1 hB0_1 hO1 h9 => ?_) p2 h9
      have hN1 := fun h => hN0 (hO1 _ h)
      have hR1 := fun r9 h => hR0 r9 (hO1 _ h)
      have hB0_1 : ∀ (z0 : Int32), Φ1 (Sum.inl z0) → EX g (d + 1) MX12_mayBegin ad x m 27 [some (.ref (ad 12 0)), some (.int p1), some (.int p2), some (.int p3), some (.int z0), none, none] [] Q := fun z0 h => hB0_1 z0 h
      unfold b_X12_mayBegin_27_19 at h9
      refine e_iload dX12_mayBegin_27 rfl ?_
      refine e_bipush (v := 8) dX12_mayBegin_29 rfl ?_
      refine e_icmp_ge (tgt := 122) dX12_mayBegin_31 rfl (fun hc20 => ?_) (fun hc20 => ?_)
      · replace h9 := ifT hc20 h9
        refine e_iconst (v := 1) dX12_mayBegin_122 rfl ?_
        exact x_zret dX12_mayBegin_123 rfl (by decide) (hR1 _ h9)
      · replace h9 := ifF hc20 h9
        refine e_iload dX12_mayBegin_34 rfl ?_
        refine e_iload_n dX12_mayBegin_36 rfl rfl ?_
        refine e_aload_n dX12_mayBegin_37 rfl rfl ?_
        refine g_1266 flX12_184 dX12_mayBegin_38 ?_
        refine e_iload_n dX12_mayBegin_41 rfl rfl ?_
        obtain ⟨k21, h9⟩ := chkP hN1 h9
        refine l_1266 dX12_mayBegin_42 (inb_in k21) ?_
        refine e_iadd dX12_mayBegin_43 ?_
        refine e_icmp_ge (tgt := 122) dX12_mayBegin_44 rfl (fun hc22 => ?_) (fun hc22 => ?_)
        · replace h9 := ifT hc22 h9
          refine e_iconst (v := 1) dX12_mayBegin_122 rfl ?_
          exact x_zret dX12_mayBegin_123 rfl (by decide) (hR1 _ h9)
        · replace h9 := ifF hc22 h9
          refine e_iconst (v := 1) dX12_mayBegin_47 rfl ?_
          refine e_istore (L' := [some (.ref (ad 12 0)), some (.int p1), some (.int p2), some (.int p3), some (.int v18), some (.int 1), none]) dX12_mayBegin_48 (by decide) rfl ?_
          refine e_iconst (v := 0) dX12_mayBegin_50 rfl ?_
          refine e_istore (L' := [some (.ref (ad 12 0)), some (.int p1), some (.int p2), some (.int p3), some (.int v18), some (.int 1), some (.int 0)]) dX12_mayBegin_51 (by decide) rfl ?_
          refine loop_gen (b_X12_mayBegin_53_24 m p1 p2 p3 v18) (Sum.inr none) (fun v23 => EX g (d + 1) MX12_mayBegin ad x m 53 [some (.ref (ad 12 0)), some (.int p1), some (.int p2), some (.int p3), some (.int v18), some (.int v23.1), some (.int v23.2)] [] Q) Φ1 hN1 (fun v23 Φ2 hB1_2 hO2 h9 => ?_) (1, 0) h9
          have hN2 := fun h => hN1 (hO2 _ h)
          have hR2 := fun r9 h => hR1 r9 (hO2 _ h)
          have hB0_2 : ∀ (z0 : Int32), Φ2 (Sum.inr (Sum.inl z0)) → EX g (d + 1) MX12_mayBegin ad x m 27 [some (.ref (ad 12 0)), some (.int p1), some (.int p2), some (.int p3), some (.int z0), none, none] [] Q := fun z0 h => hB0_1 z0 (hO2 _ h)
          have hB1_2 : ∀ (z0 : Int32) (z1 : Int32), Φ2 (Sum.inl (z0, z1)) → EX g (d + 1) MX12_mayBegin ad x m 53 [some (.ref (ad 12 0)), some (.int p1), some (.int p2), some (.int p3), some (.int v18), some (.int z0), some (.int z1)] [] Q := fun z0 z1 h => hB1_2 (z0, z1) h
          unfold b_X12_mayBegin_53_24 at h9
          refine e_iload dX12_mayBegin_53 rfl ?_
          refine e_iload_n dX12_mayBegin_55 rfl rfl ?_
          refine e_icmp_ge (tgt := 108) dX12_mayBegin_56 rfl (fun hc25 => ?_) (fun hc25 => ?_)
          · replace h9 := ifT hc25 h9
            refine e_iload dX12_mayBegin_108 rfl ?_
            refine e_iload_n dX12_mayBegin_110 rfl rfl ?_
            refine e_icmp_le (tgt := 116) dX12_mayBegin_111 rfl (fun hc26 => ?_) (fun hc26 => ?_)
            · replace h9 := ifT hc26 h9
              refine e_iinc (v := (v18 + 1)) (L' := [some (.ref (ad 12 0)), some (.int p1), some (.int p2), some (.int p3), some (.int (v18 + 1)), some (.int v23.1), some (.int v23.2)]) dX12_mayBegin_116 rfl rfl (by decide) rfl ?_
              refine e_goto (tgt := 27) dX12_mayBegin_119 rfl ?_
              refine e_wk (L' := [some (.ref (ad 12 0)), some (.int p1), some (.int p2), some (.int p3), some (.int (v18 + 1)), none, none]) (wkC (wkC (wkC (wkC (wkC (wkN (wkN wk0))))))) ?_
              exact hB0_2 _ h9
            · replace h9 := ifF hc26 h9
              refine e_iconst (v := 0) dX12_mayBegin_114 rfl ?_
              exact x_zret dX12_mayBegin_115 rfl (by decide) (hR2 _ h9)
          · replace h9 := ifF hc25 h9
            refine e_aload_n dX12_mayBegin_59 rfl rfl ?_
            refine e_iload dX12_mayBegin_60 rfl ?_
            refine e_aload_n dX12_mayBegin_62 rfl rfl ?_
            refine g_1284 flX12_235 dX12_mayBegin_63 ?_
            refine e_iload dX12_mayBegin_66 rfl ?_
            obtain ⟨k27, h9⟩ := chkP hN2 h9
            refine l_1284 dX12_mayBegin_68 (inb_in k27) ?_
            refine e_iload dX12_mayBegin_69 rfl ?_
            obtain ⟨r28, hr28, h9⟩ := elimP hN2 h9
            refine x_callVi (c := 12) (As := [.int v23.2, .int (m.2.1 1284 0 v23.2.toNatClampNeg), .int v18]) (rest := []) okX12_isIn lkX12_379 rfl (by decide) rfl dX12_mayBegin_71 rfl rfl (Nat.le_of_ble_eq_true rfl) rfl (c_X12_isIn v23.2 (m.2.1 1284 0 v23.2.toNatClampNeg) v18 hr28 (CI.mk ?_))
            refine e_pc (pc' := 74) rfl ?_
            refine e_if_ne (tgt := 80) dX12_mayBegin_74 rfl (fun hc29 => ?_) (fun hc29 => ?_)
            · replace h9 := ifF hc29 h9
              refine e_iinc (v := (v23.1 + 1)) (L' := [some (.ref (ad 12 0)), some (.int p1), some (.int p2), some (.int p3), some (.int v18), some (.int (v23.1 + 1)), some (.int v23.2)]) dX12_mayBegin_80 rfl rfl (by decide) rfl ?_
              refine e_aload_n dX12_mayBegin_83 rfl rfl ?_
              refine g_1287 flX12_244 dX12_mayBegin_84 ?_
              refine e_iload_n dX12_mayBegin_87 rfl rfl ?_
              obtain ⟨k30, h9⟩ := chkP hN2 h9
              refine l_1287 dX12_mayBegin_88 (inb_in k30) ?_
              refine e_aload_n dX12_mayBegin_89 rfl rfl ?_
              refine g_1287 flX12_244 dX12_mayBegin_90 ?_
              refine e_iload dX12_mayBegin_93 rfl ?_
              refine e_pc (pc' := 95) rfl ?_
              obtain ⟨k31, h9⟩ := chkP hN2 h9
              refine l_1287 dX12_mayBegin_95 (inb_in k31) ?_
              refine e_iand dX12_mayBegin_96 ?_
              refine e_if_eq (tgt := 102) dX12_mayBegin_97 rfl (fun hc32 => ?_) (fun hc32 => ?_)
              · replace h9 := ifT hc32 h9
                refine e_iinc (v := (v23.2 + 1)) (L' := [some (.ref (ad 12 0)), some (.int p1), some (.int p2), some (.int p3), some (.int v18), some (.int (v23.1 + 1)), some (.int (v23.2 + 1))]) dX12_mayBegin_102 rfl rfl (by decide) rfl ?_
                refine e_goto (tgt := 53) dX12_mayBegin_105 rfl ?_
                exact hB1_2 _ _ h9
              · replace h9 := ifF hc32 h9
                refine e_iconst (v := 0) dX12_mayBegin_100 rfl ?_
                exact x_zret dX12_mayBegin_101 rfl (by decide) (hR2 _ h9)
            · replace h9 := ifT hc29 h9
              refine e_goto (tgt := 102) dX12_mayBegin_77 rfl ?_
              refine e_iinc (v := (v23.2 + 1)) (L' := [some (.ref (ad 12 0)), some (.int p1), some (.int p2), some (.int p3), some (.int v18), some (.int v23.1), some (.int (v23.2 + 1))]) dX12_mayBegin_102 rfl rfl (by decide) rfl ?_
              refine e_goto (tgt := 53) dX12_mayBegin_105 rfl ?_
              exact hB1_2 _ _ h9
    · replace h9 := ifF hc17 h9
      refine e_iload_n dX12_mayBegin_17 rfl rfl ?_
      refine e_iconst (v := 4) dX12_mayBegin_18 rfl ?_
      refine e_icmp_eq (tgt := 24) dX12_mayBegin_19 rfl (fun hc33 => ?_) (fun hc33 => ?_)
      · replace h9 := ifT hc33 h9
        refine e_iload_n dX12_mayBegin_24 rfl rfl ?_
        refine e_istore (L' := [some (.ref (ad 12 0)), some (.int p1), some (.int p2), some (.int p3), some (.int p2), none, none]) dX12_mayBegin_25 (by decide) rfl ?_
        refine loop_gen (b_X12_mayBegin_27_35 m p1 p2 p3) none (fun v34 => EX g (d + 1) MX12_mayBegin ad x m 27 [some (.ref (ad 12 0)), some (.int p1), some (.int p2), some (.int p3), some (.int v34), none, none] [] Q) Φ0 hN0 (fun v34 Φ1 hB0_1 hO1 h9 => ?_) p2 h9
        have hN1 := fun h => hN0 (hO1 _ h)
        have hR1 := fun r9 h => hR0 r9 (hO1 _ h)
        have hB0_1 : ∀ (z0 : Int32), Φ1 (Sum.inl z0) → EX g (d + 1) MX12_mayBegin ad x m 27 [some (.ref (ad 12 0)), some (.int p1), some (.int p2), some (.int p3), some (.int z0), none, none] [] Q := fun z0 h => hB0_1 z0 h
        unfold b_X12_mayBegin_27_35 at h9
        refine e_iload dX12_mayBegin_27 rfl ?_
        refine e_bipush (v := 8) dX12_mayBegin_29 rfl ?_
        refine e_icmp_ge (tgt := 122) dX12_mayBegin_31 rfl (fun hc36 => ?_) (fun hc36 => ?_)
        · replace h9 := ifT hc36 h9
          refine e_iconst (v := 1) dX12_mayBegin_122 rfl ?_
          exact x_zret dX12_mayBegin_123 rfl (by decide) (hR1 _ h9)
        · replace h9 := ifF hc36 h9
          refine e_iload dX12_mayBegin_34 rfl ?_
          refine e_iload_n dX12_mayBegin_36 rfl rfl ?_
          refine e_aload_n dX12_mayBegin_37 rfl rfl ?_
          refine g_1266 flX12_184 dX12_mayBegin_38 ?_
          refine e_iload_n dX12_mayBegin_41 rfl rfl ?_
          obtain ⟨k37, h9⟩ := chkP hN1 h9
          refine l_1266 dX12_mayBegin_42 (inb_in k37) ?_
          refine e_iadd dX12_mayBegin_43 ?_
          refine e_icmp_ge (tgt := 122) dX12_mayBegin_44 rfl (fun hc38 => ?_) (fun hc38 => ?_)
          · replace h9 := ifT hc38 h9
            refine e_iconst (v := 1) dX12_mayBegin_122 rfl ?_
            exact x_zret dX12_mayBegin_123 rfl (by decide) (hR1 _ h9)
          · replace h9 := ifF hc38 h9
            refine e_iconst (v := 1) dX12_mayBegin_47 rfl ?_
            refine e_istore (L' := [some (.ref (ad 12 0)), some (.int p1), some (.int p2), some (.int p3), some (.int v34), some (.int 1), none]) dX12_mayBegin_48 (by decide) rfl ?_
            refine e_iconst (v := 0) dX12_mayBegin_50 rfl ?_
            refine e_istore (L' := [some (.ref (ad 12 0)), some (.int p1), some (.int p2), some (.int p3), some (.int v34), some (.int 1), some (.int 0)]) dX12_mayBegin_51 (by decide) rfl ?_
            refine loop_gen (b_X12_mayBegin_53_40 m p1 p2 p3 v34) (Sum.inr none) (fun v39 => EX g (d + 1) MX12_mayBegin ad x m 53 [some (.ref (ad 12 0)), some (.int p1), some (.int p2), some (.int p3), some (.int v34), some (.int v39.1), some (.int v39.2)] [] Q) Φ1 hN1 (fun v39 Φ2 hB1_2 hO2 h9 => ?_) (1, 0) h9
            have hN2 := fun h => hN1 (hO2 _ h)
            have hR2 := fun r9 h => hR1 r9 (hO2 _ h)
            have hB0_2 : ∀ (z0 : Int32), Φ2 (Sum.inr (Sum.inl z0)) → EX g (d + 1) MX12_mayBegin ad x m 27 [some (.ref (ad 12 0)), some (.int p1), some (.int p2), some (.int p3), some (.int z0), none, none] [] Q := fun z0 h => hB0_1 z0 (hO2 _ h)
            have hB1_2 : ∀ (z0 : Int32) (z1 : Int32), Φ2 (Sum.inl (z0, z1)) → EX g (d + 1) MX12_mayBegin ad x m 53 [some (.ref (ad 12 0)), some (.int p1), some (.int p2), some (.int p3), some (.int v34), some (.int z0), some (.int z1)] [] Q := fun z0 z1 h => hB1_2 (z0, z1) h
            unfold b_X12_mayBegin_53_40 at h9
            refine e_iload dX12_mayBegin_53 rfl ?_
            refine e_iload_n dX12_mayBegin_55 rfl rfl ?_
            refine e_icmp_ge (tgt := 108) dX12_mayBegin_56 rfl (fun hc41 => ?_) (fun hc41 => ?_)
            · replace h9 := ifT hc41 h9
              refine e_iload dX12_mayBegin_108 rfl ?_
              refine e_iload_n dX12_mayBegin_110 rfl rfl ?_
              refine e_icmp_le (tgt := 116) dX12_mayBegin_111 rfl (fun hc42 => ?_) (fun hc42 => ?_)
              · replace h9 := ifT hc42 h9
                refine e_iinc (v := (v34 + 1)) (L' := [some (.ref (ad 12 0)), some (.int p1), some (.int p2), some (.int p3), some (.int (v34 + 1)), some (.int v39.1), some (.int v39.2)]) dX12_mayBegin_116 rfl rfl (by decide) rfl ?_
                refine e_goto (tgt := 27) dX12_mayBegin_119 rfl ?_
                refine e_wk (L' := [some (.ref (ad 12 0)), some (.int p1), some (.int p2), some (.int p3), some (.int (v34 + 1)), none, none]) (wkC (wkC (wkC (wkC (wkC (wkN (wkN wk0))))))) ?_
                exact hB0_2 _ h9
              · replace h9 := ifF hc42 h9
                refine e_iconst (v := 0) dX12_mayBegin_114 rfl ?_
                exact x_zret dX12_mayBegin_115 rfl (by decide) (hR2 _ h9)
            · replace h9 := ifF hc41 h9
              refine e_aload_n dX12_mayBegin_59 rfl rfl ?_
              refine e_iload dX12_mayBegin_60 rfl ?_
              refine e_aload_n dX12_mayBegin_62 rfl rfl ?_
              refine g_1284 flX12_235 dX12_mayBegin_63 ?_
              refine e_iload dX12_mayBegin_66 rfl ?_
              obtain ⟨k43, h9⟩ := chkP hN2 h9
              refine l_1284 dX12_mayBegin_68 (inb_in k43) ?_
              refine e_iload dX12_mayBegin_69 rfl ?_
              obtain ⟨r44, hr44, h9⟩ := elimP hN2 h9
              refine x_callVi (c := 12) (As := [.int v39.2, .int (m.2.1 1284 0 v39.2.toNatClampNeg), .int v34]) (rest := []) okX12_isIn lkX12_379 rfl (by decide) rfl dX12_mayBegin_71 rfl rfl (Nat.le_of_ble_eq_true rfl) rfl (c_X12_isIn v39.2 (m.2.1 1284 0 v39.2.toNatClampNeg) v34 hr44 (CI.mk ?_))
              refine e_pc (pc' := 74) rfl ?_
              refine e_if_ne (tgt := 80) dX12_mayBegin_74 rfl (fun hc45 => ?_) (fun hc45 => ?_)
              · replace h9 := ifF hc45 h9
                refine e_iinc (v := (v39.1 + 1)) (L' := [some (.ref (ad 12 0)), some (.int p1), some (.int p2), some (.int p3), some (.int v34), some (.int (v39.1 + 1)), some (.int v39.2)]) dX12_mayBegin_80 rfl rfl (by decide) rfl ?_
                refine e_aload_n dX12_mayBegin_83 rfl rfl ?_
                refine g_1287 flX12_244 dX12_mayBegin_84 ?_
                refine e_iload_n dX12_mayBegin_87 rfl rfl ?_
                obtain ⟨k46, h9⟩ := chkP hN2 h9
                refine l_1287 dX12_mayBegin_88 (inb_in k46) ?_
                refine e_aload_n dX12_mayBegin_89 rfl rfl ?_
                refine g_1287 flX12_244 dX12_mayBegin_90 ?_
                refine e_iload dX12_mayBegin_93 rfl ?_
                refine e_pc (pc' := 95) rfl ?_
                obtain ⟨k47, h9⟩ := chkP hN2 h9
                refine l_1287 dX12_mayBegin_95 (inb_in k47) ?_
                refine e_iand dX12_mayBegin_96 ?_
                refine e_if_eq (tgt := 102) dX12_mayBegin_97 rfl (fun hc48 => ?_) (fun hc48 => ?_)
                · replace h9 := ifT hc48 h9
                  refine e_iinc (v := (v39.2 + 1)) (L' := [some (.ref (ad 12 0)), some (.int p1), some (.int p2), some (.int p3), some (.int v34), some (.int (v39.1 + 1)), some (.int (v39.2 + 1))]) dX12_mayBegin_102 rfl rfl (by decide) rfl ?_
                  refine e_goto (tgt := 53) dX12_mayBegin_105 rfl ?_
                  exact hB1_2 _ _ h9
                · replace h9 := ifF hc48 h9
                  refine e_iconst (v := 0) dX12_mayBegin_100 rfl ?_
                  exact x_zret dX12_mayBegin_101 rfl (by decide) (hR2 _ h9)
              · replace h9 := ifT hc45 h9
                refine e_goto (tgt := 102) dX12_mayBegin_77 rfl ?_
                refine e_iinc (v := (v39.2 + 1)) (L' := [some (.ref (ad 12 0)), some (.int p1), some (.int p2), some (.int p3), some (.int v34), some (.int v39.1), some (.int (v39.2 + 1))]) dX12_mayBegin_102 rfl rfl (by decide) rfl ?_
                refine e_goto (tgt := 53) dX12_mayBegin_105 rfl ?_
                exact hB1_2 _ _ h9
      · replace h9 := ifF hc33 h9
        refine e_iconst (v := 0) dX12_mayBegin_22 rfl ?_
        exact x_zret dX12_mayBegin_23 rfl (by decide) (hR0 _ h9)
noncomputable def j_X12_plan_378 (m : VM) (p1 : Int32) (v8 : Int32 × VM) (v10 : Int32 × Int32 × VM) (v14 : Int32 × Int32 × VM) : (Int32 × Int32 × VM) ⊕ ((Int32 × Int32 × VM) ⊕ ((Int32 × VM) ⊕ (Option (Int32 × VM)))) := if v14.2.1 = 0 then Sum.inr (Sum.inl (v10.1, v10.2.1 + (-1), v14.2.2)) else if inb v10.2.1 9 = true then if inb (v10.2.1 + 1) 9 = true then Sum.inr (Sum.inl (v10.1, v10.2.1 + 1, setA (setA v14.2.2 1284 0 (upd (v14.2.2.2.1 1284 0) v10.2.1.toNatClampNeg v14.1)) 1284 0 (upd ((setA v14.2.2 1284 0 (upd (v14.2.2.2.1 1284 0) v10.2.1.toNatClampNeg v14.1)).2.1 1284 0) ((v10.2.1 + 1).toNatClampNeg) (-1)))) else Sum.inr (Sum.inr (Sum.inr none)) else Sum.inr (Sum.inr (Sum.inr none))
noncomputable def j_X12_plan_316 (m : VM) (p1 : Int32) (v8 : Int32 × VM) (v10 : Int32 × Int32 × VM) (v14 : Int32 × Int32 × VM) (a21 : Int32) : (Int32 × Int32 × VM) ⊕ ((Int32 × Int32 × VM) ⊕ ((Int32 × VM) ⊕ (Option (Int32 × VM)))) := if inb (v10.2.1 + 1) 9 = true then if inb (v10.2.1 + 1) 9 = true then if inb (v10.2.1 + 1) 9 = true then if (((setA v14.2.2 1285 0 (upd (v14.2.2.2.1 1285 0) ((v10.2.1 + 1).toNatClampNeg) ((v14.2.2.2.1 1285 0 v10.2.1.toNatClampNeg) + a21))).2.1 1285 0 ((v10.2.1 + 1).toNatClampNeg)) + ((setA v14.2.2 1285 0 (upd (v14.2.2.2.1 1285 0) ((v10.2.1 + 1).toNatClampNeg) ((v14.2.2.2.1 1285 0 v10.2.1.toNatClampNeg) + a21))).2.1 1286 0 ((v10.2.1 + 1).toNatClampNeg))) ≤ v10.1 then if (0 : Int32) = 0 then Sum.inl (v14.1 + 1, 0, setA v14.2.2 1285 0 (upd (v14.2.2.2.1 1285 0) ((v10.2.1 + 1).toNatClampNeg) ((v14.2.2.2.1 1285 0 v10.2.1.toNatClampNeg) + a21))) else Sum.inl (v14.1, 0, setA v14.2.2 1285 0 (upd (v14.2.2.2.1 1285 0) ((v10.2.1 + 1).toNatClampNeg) ((v14.2.2.2.1 1285 0 v10.2.1.toNatClampNeg) + a21))) else if v14.1 = 8 then if (1 : Int32) = 0 then Sum.inl (v14.1 + 1, 1, setA v14.2.2 1285 0 (upd (v14.2.2.2.1 1285 0) ((v10.2.1 + 1).toNatClampNeg) ((v14.2.2.2.1 1285 0 v10.2.1.toNatClampNeg) + a21))) else Sum.inl (v14.1, 1, setA v14.2.2 1285 0 (upd (v14.2.2.2.1 1285 0) ((v10.2.1 + 1).toNatClampNeg) ((v14.2.2.2.1 1285 0 v10.2.1.toNatClampNeg) + a21))) else (f_X12_mayBegin (setA v14.2.2 1285 0 (upd (v14.2.2.2.1 1285 0) ((v10.2.1 + 1).toNatClampNeg) ((v14.2.2.2.1 1285 0 v10.2.1.toNatClampNeg) + a21))) v10.2.1 v14.1 p1).elim (Sum.inr (Sum.inr (Sum.inr none))) (fun r29 => if r29 = 0 then if (0 : Int32) = 0 then Sum.inl (v14.1 + 1, 0, setA v14.2.2 1285 0 (upd (v14.2.2.2.1 1285 0) ((v10.2.1 + 1).toNatClampNeg) ((v14.2.2.2.1 1285 0 v10.2.1.toNatClampNeg) + a21))) else Sum.inl (v14.1, 0, setA v14.2.2 1285 0 (upd (v14.2.2.2.1 1285 0) ((v10.2.1 + 1).toNatClampNeg) ((v14.2.2.2.1 1285 0 v10.2.1.toNatClampNeg) + a21))) else if (1 : Int32) = 0 then Sum.inl (v14.1 + 1, 1, setA v14.2.2 1285 0 (upd (v14.2.2.2.1 1285 0) ((v10.2.1 + 1).toNatClampNeg) ((v14.2.2.2.1 1285 0 v10.2.1.toNatClampNeg) + a21))) else Sum.inl (v14.1, 1, setA v14.2.2 1285 0 (upd (v14.2.2.2.1 1285 0) ((v10.2.1 + 1).toNatClampNeg) ((v14.2.2.2.1 1285 0 v10.2.1.toNatClampNeg) + a21)))) else Sum.inr (Sum.inr (Sum.inr none)) else Sum.inr (Sum.inr (Sum.inr none)) else Sum.inr (Sum.inr (Sum.inr none))
noncomputable def b_X12_plan_265 (m : VM) (p1 : Int32) (v8 : Int32 × VM) (v10 : Int32 × Int32 × VM) (v14 : Int32 × Int32 × VM) : (Int32 × Int32 × VM) ⊕ ((Int32 × Int32 × VM) ⊕ ((Int32 × VM) ⊕ (Option (Int32 × VM)))) := if 8 < v14.1 then j_X12_plan_378 m p1 v8 v10 v14 else if v14.2.1 = 0 then if inb v10.2.1 9 = true then if 8 ≤ v14.1 then j_X12_plan_316 m p1 v8 v10 v14 0 else if inb ((8 * v10.2.1) + v14.1) 64 = true then j_X12_plan_316 m p1 v8 v10 v14 (v14.2.2.2.1 1267 0 (((8 * v10.2.1) + v14.1).toNatClampNeg)) else Sum.inr (Sum.inr (Sum.inr none)) else Sum.inr (Sum.inr (Sum.inr none)) else j_X12_plan_378 m p1 v8 v10 v14
noncomputable def b_X12_plan_196 (m : VM) (p1 : Int32) (v8 : Int32 × VM) (v10 : Int32 × Int32 × VM) (v38 : Int32 × VM) : (Int32 × VM) ⊕ ((Int32 × Int32 × VM) ⊕ ((Int32 × VM) ⊕ (Option (Int32 × VM)))) := if 8 ≤ v38.1 then Sum.inr (Sum.inl (v10.2.2.2.1 1285 0 ((m.1 1204 0).toNatClampNeg), v10.2.1 + (-1), v38.2)) else if (m.1 1204 0) ≤ v38.1 then if inb v38.1 8 = true then Sum.inl (v38.1 + 1, setA v38.2 1268 0 (upd (v38.2.2.1 1268 0) v38.1.toNatClampNeg (-1))) else Sum.inr (Sum.inr (Sum.inr none)) else if inb v38.1 9 = true then if 8 ≤ (v38.2.2.1 1284 0 v38.1.toNatClampNeg) then if inb v38.1 8 = true then Sum.inl (v38.1 + 1, setA v38.2 1268 0 (upd (v38.2.2.1 1268 0) v38.1.toNatClampNeg (-1))) else Sum.inr (Sum.inr (Sum.inr none)) else if inb v38.1 9 = true then if inb v38.1 8 = true then Sum.inl (v38.1 + 1, setA v38.2 1268 0 (upd (v38.2.2.1 1268 0) v38.1.toNatClampNeg (v38.2.2.1 1284 0 v38.1.toNatClampNeg))) else Sum.inr (Sum.inr (Sum.inr none)) else Sum.inr (Sum.inr (Sum.inr none)) else Sum.inr (Sum.inr (Sum.inr none))
noncomputable def b_X12_plan_165 (m : VM) (p1 : Int32) (v8 : Int32 × VM) (v10 : Int32 × Int32 × VM) : (Int32 × Int32 × VM) ⊕ ((Int32 × VM) ⊕ (Option (Int32 × VM))) := if v10.2.1 < 0 then Sum.inr (Sum.inr (some (v10.1, v10.2.2))) else if v10.2.1 = (m.1 1204 0) then if inb (m.1 1204 0) 9 = true then if (v10.2.2.2.1 1285 0 ((m.1 1204 0).toNatClampNeg)) ≤ v10.1 then Sum.inl (v10.1, v10.2.1 + (-1), v10.2.2) else if inb (m.1 1204 0) 9 = true then loopF (Sum.inr (Sum.inr none)) (b_X12_plan_196 m p1 v8 v10) (0, v10.2.2) else Sum.inr (Sum.inr none) else Sum.inr (Sum.inr none) else if inb v10.2.1 9 = true then loopF (Sum.inr (Sum.inr none)) (b_X12_plan_265 m p1 v8 v10) ((v10.2.2.2.1 1284 0 v10.2.1.toNatClampNeg) + 1, 0, v10.2.2) else Sum.inr (Sum.inr none)
noncomputable def b_X12_plan_79 (m : VM) (p1 : Int32) (v8 : Int32 × VM) (r48 : Int32) (v50 : Int32 × Int32) : (Int32 × Int32) ⊕ ((Int32 × VM) ⊕ (Option (Int32 × VM))) := if 8 ≤ v50.2 then if inb (v8.1 + 1) 9 = true then if inb v8.1 9 = true then Sum.inr (Sum.inl (v8.1 + (-1), setA (setA v8.2 1287 0 (upd (v8.2.2.1 1287 0) v8.1.toNatClampNeg r48)) 1286 0 (upd ((setA v8.2 1287 0 (upd (v8.2.2.1 1287 0) v8.1.toNatClampNeg r48)).2.1 1286 0) v8.1.toNatClampNeg (((setA v8.2 1287 0 (upd (v8.2.2.1 1287 0) v8.1.toNatClampNeg r48)).2.1 1286 0 ((v8.1 + 1).toNatClampNeg)) + v50.1)))) else Sum.inr (Sum.inr none) else Sum.inr (Sum.inr none) else if inb ((8 * v8.1) + v50.2) 64 = true then if ((setA v8.2 1287 0 (upd (v8.2.2.1 1287 0) v8.1.toNatClampNeg r48)).2.1 1267 0 (((8 * v8.1) + v50.2).toNatClampNeg)) ≤ v50.1 then Sum.inl (v50.1, v50.2 + 1) else if inb ((8 * v8.1) + v50.2) 64 = true then Sum.inl ((setA v8.2 1287 0 (upd (v8.2.2.1 1287 0) v8.1.toNatClampNeg r48)).2.1 1267 0 (((8 * v8.1) + v50.2).toNatClampNeg), v50.2 + 1) else Sum.inr (Sum.inr none) else Sum.inr (Sum.inr none)
noncomputable def b_X12_plan_48 (m : VM) (p1 : Int32) (v8 : Int32 × VM) : (Int32 × VM) ⊕ (Option (Int32 × VM)) := if v8.1 < 0 then loopF (Sum.inr none) (b_X12_plan_165 m p1 v8) ((-1), 0, setA (setA v8.2 1285 0 (upd (v8.2.2.1 1285 0) ((0 : Int32).toNatClampNeg) 0)) 1284 0 (upd ((setA v8.2 1285 0 (upd (v8.2.2.1 1285 0) ((0 : Int32).toNatClampNeg) 0)).2.1 1284 0) ((0 : Int32).toNatClampNeg) (-1))) else if inb v8.1 8 = true then (f_X12_inSome v8.2 v8.1 (((1 : Int32) <<< ((v8.2.2.1 1235 0 v8.1.toNatClampNeg) &&& 31)) - 1)).elim (Sum.inr none) (fun r48 => if inb v8.1 8 = true then loopF (Sum.inr none) (b_X12_plan_79 m p1 v8 r48) (0, 0) else Sum.inr none) else Sum.inr none
noncomputable def f_X12_plan (m : VM) (p1 : Int32) : Option (Int32 × VM) := if p1 < 1 then (f_X12_no m (-6)).elim none (fun r2p => some (r2p.1, r2p.2)) else if p1 ≤ 3 then if (m.1 1204 0) ≤ 5 then if inb (m.1 1204 0) 9 = true then loopF none (b_X12_plan_48 m p1) ((m.1 1204 0) - 1, setA m 1286 0 (upd (m.2.1 1286 0) ((m.1 1204 0).toNatClampNeg) 0)) else none else (f_X12_no m (-7)).elim none (fun r57p => some (r57p.1, r57p.2)) else (f_X12_no m (-6)).elim none (fun r60p => some (r60p.1, r60p.2))
theorem c_X12_plan {g : GG} {d : Nat} {ad : AD} {x m : VM} {Q : Option Value → VM → VM → Prop} (p1 : Int32) {r9 : Int32} {w9 : VM} (hf : f_X12_plan m p1 = some (r9, w9)) (hq : Q (some (.int r9)) x w9) : CX g (d + 2) MX12_plan [.ref (ad 12 0), .int p1] ad x m Q := by
  refine CX.to (Lv := [some (.ref (ad 12 0)), some (.int p1), none, none, none, none, none]) okX12_plan (Nat.le_of_ble_eq_true rfl) rfl ?_
  obtain ⟨Φ0, hΦ⟩ : ∃ Φ : Option (Int32 × VM) → Prop, Φ = fun o => o = some (r9, w9) := ⟨_, rfl⟩
  have hN0 : Φ0 none → False := by rw [hΦ]; intro h; cases h
  have hR0 : ∀ z9 y9, Φ0 (some (z9, y9)) → Q (some (.int z9)) x y9 := by rw [hΦ]; intro z9 y9 h; cases h; exact hq
  have h9 : Φ0 (f_X12_plan m p1) := by rw [hΦ]; exact hf
  clear hf hq hΦ
  unfold f_X12_plan at h9
  refine e_iload_n dX12_plan_0 rfl rfl ?_
  refine e_iconst (v := 1) dX12_plan_1 rfl ?_
  refine e_icmp_lt (tgt := 10) dX12_plan_2 rfl (fun hc1 => ?_) (fun hc1 => ?_)
  · replace h9 := ifT hc1 h9
    refine e_aload_n dX12_plan_10 rfl rfl ?_
    refine e_bipush (v := (-6)) dX12_plan_11 rfl ?_
    obtain ⟨⟨r2, w3⟩, hr2, h9⟩ := elimP hN0 h9
    refine x_callVi (c := 12) (As := [.int (-6)]) (rest := []) okX12_no lkX12_263 rfl (by decide) rfl dX12_plan_13 rfl rfl (Nat.le_of_ble_eq_true rfl) rfl (c_X12_no (-6) hr2 (CI.mk ?_))
    exact x_iret dX12_plan_16 rfl (hR0 _ _ h9)
  · replace h9 := ifF hc1 h9
    refine e_iload_n dX12_plan_5 rfl rfl ?_
    refine e_iconst (v := 3) dX12_plan_6 rfl ?_
    refine e_icmp_le (tgt := 17) dX12_plan_7 rfl (fun hc5 => ?_) (fun hc5 => ?_)
    · replace h9 := ifT hc5 h9
      refine e_aload_n dX12_plan_17 rfl rfl ?_
      refine g_1204 flX12_250 dX12_plan_18 ?_
      refine e_iconst (v := 5) dX12_plan_21 rfl ?_
      refine e_icmp_le (tgt := 32) dX12_plan_22 rfl (fun hc6 => ?_) (fun hc6 => ?_)
      · replace h9 := ifT hc6 h9
        refine e_aload_n dX12_plan_32 rfl rfl ?_
        refine g_1204 flX12_250 dX12_plan_33 ?_
        refine e_istore_n (L' := [some (.ref (ad 12 0)), some (.int p1), some (.int (m.1 1204 0)), none, none, none, none]) dX12_plan_36 rfl (by decide) rfl ?_
        refine e_aload_n dX12_plan_37 rfl rfl ?_
        refine g_1286 flX12_241 dX12_plan_38 ?_
        refine e_iload_n dX12_plan_41 rfl rfl ?_
        refine e_iconst (v := 0) dX12_plan_42 rfl ?_
        obtain ⟨k7, h9⟩ := chkP hN0 h9
        refine s_1286 dX12_plan_43 (inb_in k7) ?_
        refine e_pc (pc' := 44) rfl ?_
        refine e_iload_n dX12_plan_44 rfl rfl ?_
        refine e_iconst (v := 1) dX12_plan_45 rfl ?_
        refine e_isub dX12_plan_46 ?_
        refine e_istore_n (L' := [some (.ref (ad 12 0)), some (.int p1), some (.int (m.1 1204 0)), some (.int ((m.1 1204 0) - 1)), none, none, none]) dX12_plan_47 rfl (by decide) rfl ?_
        refine loop_gen (b_X12_plan_48 m p1) none (fun v8 => EX g (d + 2) MX12_plan ad x v8.2 48 [some (.ref (ad 12 0)), some (.int p1), some (.int (m.1 1204 0)), some (.int v8.1), none, none, none] [] Q) Φ0 hN0 (fun v8 Φ1 hB0_1 hO1 h9 => ?_) ((m.1 1204 0) - 1, setA m 1286 0 (upd (m.2.1 1286 0) ((m.1 1204 0).toNatClampNeg) 0)) h9
        have hN1 := fun h => hN0 (hO1 _ h)
        have hR1 := fun r9 x9 h => hR0 r9 x9 (hO1 _ h)
        have hB0_1 : ∀ (z0 : Int32) (z1 : VM), Φ1 (Sum.inl (z0, z1)) → EX g (d + 2) MX12_plan ad x z1 48 [some (.ref (ad 12 0)), some (.int p1), some (.int (m.1 1204 0)), some (.int z0), none, none, none] [] Q := fun z0 z1 h => hB0_1 (z0, z1) h
        unfold b_X12_plan_48 at h9
        refine e_iload_n dX12_plan_48 rfl rfl ?_
        refine e_if_lt (tgt := 146) dX12_plan_49 rfl (fun hc9 => ?_) (fun hc9 => ?_)
        · replace h9 := ifT hc9 h9
          refine e_iconst (v := (-1)) dX12_plan_146 rfl ?_
          refine e_istore_n (L' := [some (.ref (ad 12 0)), some (.int p1), some (.int (m.1 1204 0)), some (.int (-1)), none, none, none]) dX12_plan_147 rfl (by decide) rfl ?_
          refine e_iconst (v := 0) dX12_plan_148 rfl ?_
          refine e_istore (L' := [some (.ref (ad 12 0)), some (.int p1), some (.int (m.1 1204 0)), some (.int (-1)), some (.int 0), none, none]) dX12_plan_149 (by decide) rfl ?_
          refine e_aload_n dX12_plan_151 rfl rfl ?_
          refine g_1285 flX12_238 dX12_plan_152 ?_
          refine e_iconst (v := 0) dX12_plan_155 rfl ?_
          refine e_iconst (v := 0) dX12_plan_156 rfl ?_
          refine e_pc (pc' := 157) rfl ?_
          refine s_1285 dX12_plan_157 (inb_in (by decide)) ?_
          refine e_aload_n dX12_plan_158 rfl rfl ?_
          refine g_1284 flX12_235 dX12_plan_159 ?_
          refine e_iconst (v := 0) dX12_plan_162 rfl ?_
          refine e_iconst (v := (-1)) dX12_plan_163 rfl ?_
          refine s_1284 dX12_plan_164 (inb_in (by decide)) ?_
          refine loop_gen (b_X12_plan_165 m p1 v8) (Sum.inr none) (fun v10 => EX g (d + 2) MX12_plan ad x v10.2.2 165 [some (.ref (ad 12 0)), some (.int p1), some (.int (m.1 1204 0)), some (.int v10.1), some (.int v10.2.1), none, none] [] Q) Φ1 hN1 (fun v10 Φ2 hB1_2 hO2 h9 => ?_) ((-1), 0, setA (setA v8.2 1285 0 (upd (v8.2.2.1 1285 0) ((0 : Int32).toNatClampNeg) 0)) 1284 0 (upd ((setA v8.2 1285 0 (upd (v8.2.2.1 1285 0) ((0 : Int32).toNatClampNeg) 0)).2.1 1284 0) ((0 : Int32).toNatClampNeg) (-1))) h9
          have hN2 := fun h => hN1 (hO2 _ h)
          have hR2 := fun r9 x9 h => hR1 r9 x9 (hO2 _ h)
          have hB0_2 : ∀ (z0 : Int32) (z1 : VM), Φ2 (Sum.inr (Sum.inl (z0, z1))) → EX g (d + 2) MX12_plan ad x z1 48 [some (.ref (ad 12 0)), some (.int p1), some (.int (m.1 1204 0)), some (.int z0), none, none, none] [] Q := fun z0 z1 h => hB0_1 z0 z1 (hO2 _ h)
          have hB1_2 : ∀ (z0 : Int32) (z1 : Int32) (z2 : VM), Φ2 (Sum.inl (z0, z1, z2)) → EX g (d + 2) MX12_plan ad x z2 165 [some (.ref (ad 12 0)), some (.int p1), some (.int (m.1 1204 0)), some (.int z0), some (.int z1), none, none] [] Q := fun z0 z1 z2 h => hB1_2 (z0, z1, z2) h
          unfold b_X12_plan_165 at h9
          refine e_iload dX12_plan_165 rfl ?_
          refine e_if_lt (tgt := 412) dX12_plan_167 rfl (fun hc11 => ?_) (fun hc11 => ?_)
          · replace h9 := ifT hc11 h9
            refine e_iload_n dX12_plan_412 rfl rfl ?_
            exact x_iret dX12_plan_413 rfl (hR2 _ _ h9)
          · replace h9 := ifF hc11 h9
            refine e_iload dX12_plan_170 rfl ?_
            refine e_iload_n dX12_plan_172 rfl rfl ?_
            refine e_icmp_ne (tgt := 251) dX12_plan_173 rfl (fun hc12 => ?_) (fun hc12 => ?_)
            · replace h9 := ifF hc12 h9
              refine e_aload_n dX12_plan_251 rfl rfl ?_
              refine g_1284 flX12_235 dX12_plan_252 ?_
              refine e_iload dX12_plan_255 rfl ?_
              obtain ⟨k13, h9⟩ := chkP hN2 h9
              refine l_1284 dX12_plan_257 (inb_in k13) ?_
              refine e_iconst (v := 1) dX12_plan_258 rfl ?_
              refine e_iadd dX12_plan_259 ?_
              refine e_istore (L' := [some (.ref (ad 12 0)), some (.int p1), some (.int (m.1 1204 0)), some (.int v10.1), some (.int v10.2.1), some (.int ((v10.2.2.2.1 1284 0 v10.2.1.toNatClampNeg) + 1)), none]) dX12_plan_260 (by decide) rfl ?_
              refine e_iconst (v := 0) dX12_plan_262 rfl ?_
              refine e_pc (pc' := 263) rfl ?_
              refine e_istore (L' := [some (.ref (ad 12 0)), some (.int p1), some (.int (m.1 1204 0)), some (.int v10.1), some (.int v10.2.1), some (.int ((v10.2.2.2.1 1284 0 v10.2.1.toNatClampNeg) + 1)), some (.int 0)]) dX12_plan_263 (by decide) rfl ?_
              refine loop_gen (b_X12_plan_265 m p1 v8 v10) (Sum.inr (Sum.inr none)) (fun v14 => EX g (d + 2) MX12_plan ad x v14.2.2 265 [some (.ref (ad 12 0)), some (.int p1), some (.int (m.1 1204 0)), some (.int v10.1), some (.int v10.2.1), some (.int v14.1), some (.int v14.2.1)] [] Q) Φ2 hN2 (fun v14 Φ3 hB2_3 hO3 h9 => ?_) ((v10.2.2.2.1 1284 0 v10.2.1.toNatClampNeg) + 1, 0, v10.2.2) h9
              have hN3 := fun h => hN2 (hO3 _ h)
              have hR3 := fun r9 x9 h => hR2 r9 x9 (hO3 _ h)
              have hB0_3 : ∀ (z0 : Int32) (z1 : VM), Φ3 (Sum.inr (Sum.inr (Sum.inl (z0, z1)))) → EX g (d + 2) MX12_plan ad x z1 48 [some (.ref (ad 12 0)), some (.int p1), some (.int (m.1 1204 0)), some (.int z0), none, none, none] [] Q := fun z0 z1 h => hB0_2 z0 z1 (hO3 _ h)
              have hB1_3 : ∀ (z0 : Int32) (z1 : Int32) (z2 : VM), Φ3 (Sum.inr (Sum.inl (z0, z1, z2))) → EX g (d + 2) MX12_plan ad x z2 165 [some (.ref (ad 12 0)), some (.int p1), some (.int (m.1 1204 0)), some (.int z0), some (.int z1), none, none] [] Q := fun z0 z1 z2 h => hB1_2 z0 z1 z2 (hO3 _ h)
              have hB2_3 : ∀ (z0 : Int32) (z1 : Int32) (z2 : VM), Φ3 (Sum.inl (z0, z1, z2)) → EX g (d + 2) MX12_plan ad x z2 265 [some (.ref (ad 12 0)), some (.int p1), some (.int (m.1 1204 0)), some (.int v10.1), some (.int v10.2.1), some (.int z0), some (.int z1)] [] Q := fun z0 z1 z2 h => hB2_3 (z0, z1, z2) h
              unfold b_X12_plan_265 at h9
              refine e_iload dX12_plan_265 rfl ?_
              refine e_bipush (v := 8) dX12_plan_267 rfl ?_
              have hj378 : Φ3 (j_X12_plan_378 m p1 v8 v10 v14) → EX g (d + 2) MX12_plan ad x v14.2.2 378 [some (.ref (ad 12 0)), some (.int p1), some (.int (m.1 1204 0)), some (.int v10.1), some (.int v10.2.1), some (.int v14.1), some (.int v14.2.1)] [] Q := by
                intro h9
                unfold j_X12_plan_378 at h9
                refine e_iload dX12_plan_378 rfl ?_
                refine e_if_ne (tgt := 389) dX12_plan_380 rfl (fun hc15 => ?_) (fun hc15 => ?_)
                · replace h9 := ifF hc15 h9
                  refine e_aload_n dX12_plan_389 rfl rfl ?_
                  refine g_1284 flX12_235 dX12_plan_390 ?_
                  refine e_iload dX12_plan_393 rfl ?_
                  refine e_iload dX12_plan_395 rfl ?_
                  obtain ⟨k16, h9⟩ := chkP hN3 h9
                  refine s_1284 dX12_plan_397 (inb_in k16) ?_
                  refine e_iinc (v := (v10.2.1 + 1)) (L' := [some (.ref (ad 12 0)), some (.int p1), some (.int (m.1 1204 0)), some (.int v10.1), some (.int (v10.2.1 + 1)), some (.int v14.1), some (.int v14.2.1)]) dX12_plan_398 rfl rfl (by decide) rfl ?_
                  refine e_aload_n dX12_plan_401 rfl rfl ?_
                  refine g_1284 flX12_235 dX12_plan_402 ?_
                  refine e_pc (pc' := 405) rfl ?_
                  refine e_iload dX12_plan_405 rfl ?_
                  refine e_iconst (v := (-1)) dX12_plan_407 rfl ?_
                  obtain ⟨k17, h9⟩ := chkP hN3 h9
                  refine s_1284 dX12_plan_408 (inb_in k17) ?_
                  refine e_goto (tgt := 165) dX12_plan_409 rfl ?_
                  refine e_wk (L' := [some (.ref (ad 12 0)), some (.int p1), some (.int (m.1 1204 0)), some (.int v10.1), some (.int (v10.2.1 + 1)), none, none]) (wkC (wkC (wkC (wkC (wkC (wkN (wkN wk0))))))) ?_
                  exact hB1_3 _ _ _ h9
                · replace h9 := ifT hc15 h9
                  refine e_iinc (v := (v10.2.1 + (-1))) (L' := [some (.ref (ad 12 0)), some (.int p1), some (.int (m.1 1204 0)), some (.int v10.1), some (.int (v10.2.1 + (-1))), some (.int v14.1), some (.int v14.2.1)]) dX12_plan_383 rfl rfl (by decide) rfl ?_
                  refine e_goto (tgt := 165) dX12_plan_386 rfl ?_
                  refine e_wk (L' := [some (.ref (ad 12 0)), some (.int p1), some (.int (m.1 1204 0)), some (.int v10.1), some (.int (v10.2.1 + (-1))), none, none]) (wkC (wkC (wkC (wkC (wkC (wkN (wkN wk0))))))) ?_
                  exact hB1_3 _ _ _ h9
              refine e_icmp_gt (tgt := 378) dX12_plan_269 rfl (fun hc18 => ?_) (fun hc18 => ?_)
              · replace h9 := ifT hc18 h9
                exact hj378 h9
              · replace h9 := ifF hc18 h9
                refine e_iload dX12_plan_272 rfl ?_
                refine e_if_ne (tgt := 378) dX12_plan_274 rfl (fun hc19 => ?_) (fun hc19 => ?_)
                · replace h9 := ifF hc19 h9
                  exact hj378 h9
                · replace h9 := ifT hc19 h9
                  refine e_aload_n dX12_plan_277 rfl rfl ?_
                  refine g_1285 flX12_238 dX12_plan_278 ?_
                  refine e_iload dX12_plan_281 rfl ?_
                  refine e_iconst (v := 1) dX12_plan_283 rfl ?_
                  refine e_iadd dX12_plan_284 ?_
                  refine e_aload_n dX12_plan_285 rfl rfl ?_
                  refine g_1285 flX12_238 dX12_plan_286 ?_
                  refine e_iload dX12_plan_289 rfl ?_
                  refine e_pc (pc' := 291) rfl ?_
                  obtain ⟨k20, h9⟩ := chkP hN3 h9
                  refine l_1285 dX12_plan_291 (inb_in k20) ?_
                  refine e_iload dX12_plan_292 rfl ?_
                  refine e_bipush (v := 8) dX12_plan_294 rfl ?_
                  have hj316 : ∀ (a21 : Int32), Φ3 (j_X12_plan_316 m p1 v8 v10 v14 a21) → EX g (d + 2) MX12_plan ad x v14.2.2 316 [some (.ref (ad 12 0)), some (.int p1), some (.int (m.1 1204 0)), some (.int v10.1), some (.int v10.2.1), some (.int v14.1), none] [.int a21, .int (v14.2.2.2.1 1285 0 v10.2.1.toNatClampNeg), .int (v10.2.1 + 1), .ref (ad 2285 0)] Q := by
                    intro a21 h9
                    unfold j_X12_plan_316 at h9
                    refine e_iadd dX12_plan_316 ?_
                    obtain ⟨k22, h9⟩ := chkP hN3 h9
                    refine s_1285 dX12_plan_317 (inb_in k22) ?_
                    refine e_aload_n dX12_plan_318 rfl rfl ?_
                    refine g_1285 flX12_238 dX12_plan_319 ?_
                    refine e_iload dX12_plan_322 rfl ?_
                    refine e_iconst (v := 1) dX12_plan_324 rfl ?_
                    refine e_iadd dX12_plan_325 ?_
                    obtain ⟨k23, h9⟩ := chkP hN3 h9
                    refine l_1285 dX12_plan_326 (inb_in k23) ?_
                    refine e_pc (pc' := 327) rfl ?_
                    refine e_aload_n dX12_plan_327 rfl rfl ?_
                    refine g_1286 flX12_241 dX12_plan_328 ?_
                    refine e_iload dX12_plan_331 rfl ?_
                    refine e_iconst (v := 1) dX12_plan_333 rfl ?_
                    refine e_iadd dX12_plan_334 ?_
                    obtain ⟨k24, h9⟩ := chkP hN3 h9
                    refine l_1286 dX12_plan_335 (inb_in k24) ?_
                    refine e_iadd dX12_plan_336 ?_
                    refine e_iload_n dX12_plan_337 rfl rfl ?_
                    refine e_icmp_le (tgt := 364) dX12_plan_338 rfl (fun hc25 => ?_) (fun hc25 => ?_)
                    · replace h9 := ifT hc25 h9
                      refine e_iconst (v := 0) dX12_plan_364 rfl ?_
                      refine e_istore (L' := [some (.ref (ad 12 0)), some (.int p1), some (.int (m.1 1204 0)), some (.int v10.1), some (.int v10.2.1), some (.int v14.1), some (.int 0)]) dX12_plan_365 (by decide) rfl ?_
                      refine e_iload dX12_plan_367 rfl ?_
                      refine e_if_ne (tgt := 265) dX12_plan_369 rfl (fun hc26 => ?_) (fun hc26 => ?_)
                      · replace h9 := ifF hc26 h9
                        exact hB2_3 _ _ _ h9
                      · replace h9 := ifT hc26 h9
                        refine e_iinc (v := (v14.1 + 1)) (L' := [some (.ref (ad 12 0)), some (.int p1), some (.int (m.1 1204 0)), some (.int v10.1), some (.int v10.2.1), some (.int (v14.1 + 1)), some (.int 0)]) dX12_plan_372 rfl rfl (by decide) rfl ?_
                        refine e_goto (tgt := 265) dX12_plan_375 rfl ?_
                        exact hB2_3 _ _ _ h9
                    · replace h9 := ifF hc25 h9
                      refine e_iload dX12_plan_341 rfl ?_
                      refine e_bipush (v := 8) dX12_plan_343 rfl ?_
                      refine e_icmp_eq (tgt := 360) dX12_plan_345 rfl (fun hc27 => ?_) (fun hc27 => ?_)
                      · replace h9 := ifT hc27 h9
                        refine e_iconst (v := 1) dX12_plan_360 rfl ?_
                        refine e_goto (tgt := 365) dX12_plan_361 rfl ?_
                        refine e_istore (L' := [some (.ref (ad 12 0)), some (.int p1), some (.int (m.1 1204 0)), some (.int v10.1), some (.int v10.2.1), some (.int v14.1), some (.int 1)]) dX12_plan_365 (by decide) rfl ?_
                        refine e_iload dX12_plan_367 rfl ?_
                        refine e_if_ne (tgt := 265) dX12_plan_369 rfl (fun hc28 => ?_) (fun hc28 => ?_)
                        · replace h9 := ifF hc28 h9
                          exact hB2_3 _ _ _ h9
                        · replace h9 := ifT hc28 h9
                          refine e_iinc (v := (v14.1 + 1)) (L' := [some (.ref (ad 12 0)), some (.int p1), some (.int (m.1 1204 0)), some (.int v10.1), some (.int v10.2.1), some (.int (v14.1 + 1)), some (.int 1)]) dX12_plan_372 rfl rfl (by decide) rfl ?_
                          refine e_goto (tgt := 265) dX12_plan_375 rfl ?_
                          exact hB2_3 _ _ _ h9
                      · replace h9 := ifF hc27 h9
                        refine e_aload_n dX12_plan_348 rfl rfl ?_
                        refine e_iload dX12_plan_349 rfl ?_
                        refine e_iload dX12_plan_351 rfl ?_
                        refine e_iload_n dX12_plan_353 rfl rfl ?_
                        obtain ⟨r29, hr29, h9⟩ := elimP hN3 h9
                        refine x_callVi (c := 12) (As := [.int v10.2.1, .int v14.1, .int p1]) (rest := []) okX12_mayBegin lkX12_382 rfl (by decide) rfl dX12_plan_354 rfl rfl (Nat.le_of_ble_eq_true rfl) rfl (c_X12_mayBegin v10.2.1 v14.1 p1 hr29 (CI.mk ?_))
                        refine e_if_eq (tgt := 364) dX12_plan_357 rfl (fun hc30 => ?_) (fun hc30 => ?_)
                        · replace h9 := ifT hc30 h9
                          refine e_iconst (v := 0) dX12_plan_364 rfl ?_
                          refine e_istore (L' := [some (.ref (ad 12 0)), some (.int p1), some (.int (m.1 1204 0)), some (.int v10.1), some (.int v10.2.1), some (.int v14.1), some (.int 0)]) dX12_plan_365 (by decide) rfl ?_
                          refine e_iload dX12_plan_367 rfl ?_
                          refine e_if_ne (tgt := 265) dX12_plan_369 rfl (fun hc31 => ?_) (fun hc31 => ?_)
                          · replace h9 := ifF hc31 h9
                            exact hB2_3 _ _ _ h9
                          · replace h9 := ifT hc31 h9
                            refine e_iinc (v := (v14.1 + 1)) (L' := [some (.ref (ad 12 0)), some (.int p1), some (.int (m.1 1204 0)), some (.int v10.1), some (.int v10.2.1), some (.int (v14.1 + 1)), some (.int 0)]) dX12_plan_372 rfl rfl (by decide) rfl ?_
                            refine e_goto (tgt := 265) dX12_plan_375 rfl ?_
                            exact hB2_3 _ _ _ h9
                        · replace h9 := ifF hc30 h9
                          refine e_iconst (v := 1) dX12_plan_360 rfl ?_
                          refine e_goto (tgt := 365) dX12_plan_361 rfl ?_
                          refine e_istore (L' := [some (.ref (ad 12 0)), some (.int p1), some (.int (m.1 1204 0)), some (.int v10.1), some (.int v10.2.1), some (.int v14.1), some (.int 1)]) dX12_plan_365 (by decide) rfl ?_
                          refine e_iload dX12_plan_367 rfl ?_
                          refine e_if_ne (tgt := 265) dX12_plan_369 rfl (fun hc32 => ?_) (fun hc32 => ?_)
                          · replace h9 := ifF hc32 h9
                            exact hB2_3 _ _ _ h9
                          · replace h9 := ifT hc32 h9
                            refine e_iinc (v := (v14.1 + 1)) (L' := [some (.ref (ad 12 0)), some (.int p1), some (.int (m.1 1204 0)), some (.int v10.1), some (.int v10.2.1), some (.int (v14.1 + 1)), some (.int 1)]) dX12_plan_372 rfl rfl (by decide) rfl ?_
                            refine e_goto (tgt := 265) dX12_plan_375 rfl ?_
                            exact hB2_3 _ _ _ h9
                  refine e_icmp_ge (tgt := 315) dX12_plan_296 rfl (fun hc33 => ?_) (fun hc33 => ?_)
                  · replace h9 := ifT hc33 h9
                    refine e_iconst (v := 0) dX12_plan_315 rfl ?_
                    refine e_wk (L' := [some (.ref (ad 12 0)), some (.int p1), some (.int (m.1 1204 0)), some (.int v10.1), some (.int v10.2.1), some (.int v14.1), none]) (wkC (wkC (wkC (wkC (wkC (wkC (wkN wk0))))))) ?_
                    exact hj316 0 h9
                  · replace h9 := ifF hc33 h9
                    refine e_aload_n dX12_plan_299 rfl rfl ?_
                    refine g_1267 flX12_187 dX12_plan_300 ?_
                    refine e_bipush (v := 8) dX12_plan_303 rfl ?_
                    refine e_iload dX12_plan_305 rfl ?_
                    refine e_imul dX12_plan_307 ?_
                    refine e_iload dX12_plan_308 rfl ?_
                    refine e_iadd dX12_plan_310 ?_
                    obtain ⟨k34, h9⟩ := chkP hN3 h9
                    refine l_1267 dX12_plan_311 (inb_in k34) ?_
                    refine e_pc (pc' := 312) rfl ?_
                    refine e_goto (tgt := 316) dX12_plan_312 rfl ?_
                    refine e_wk (L' := [some (.ref (ad 12 0)), some (.int p1), some (.int (m.1 1204 0)), some (.int v10.1), some (.int v10.2.1), some (.int v14.1), none]) (wkC (wkC (wkC (wkC (wkC (wkC (wkN wk0))))))) ?_
                    exact hj316 (v14.2.2.2.1 1267 0 (((8 * v10.2.1) + v14.1).toNatClampNeg)) h9
            · replace h9 := ifT hc12 h9
              refine e_aload_n dX12_plan_176 rfl rfl ?_
              refine g_1285 flX12_238 dX12_plan_177 ?_
              refine e_iload_n dX12_plan_180 rfl rfl ?_
              obtain ⟨k35, h9⟩ := chkP hN2 h9
              refine l_1285 dX12_plan_181 (inb_in k35) ?_
              refine e_iload_n dX12_plan_182 rfl rfl ?_
              refine e_icmp_le (tgt := 245) dX12_plan_183 rfl (fun hc36 => ?_) (fun hc36 => ?_)
              · replace h9 := ifT hc36 h9
                refine e_iinc (v := (v10.2.1 + (-1))) (L' := [some (.ref (ad 12 0)), some (.int p1), some (.int (m.1 1204 0)), some (.int v10.1), some (.int (v10.2.1 + (-1))), none, none]) dX12_plan_245 rfl rfl (by decide) rfl ?_
                refine e_goto (tgt := 165) dX12_plan_248 rfl ?_
                exact hB1_2 _ _ _ h9
              · replace h9 := ifF hc36 h9
                refine e_aload_n dX12_plan_186 rfl rfl ?_
                refine g_1285 flX12_238 dX12_plan_187 ?_
                refine e_iload_n dX12_plan_190 rfl rfl ?_
                obtain ⟨k37, h9⟩ := chkP hN2 h9
                refine l_1285 dX12_plan_191 (inb_in k37) ?_
                refine e_istore_n (L' := [some (.ref (ad 12 0)), some (.int p1), some (.int (m.1 1204 0)), some (.int (v10.2.2.2.1 1285 0 ((m.1 1204 0).toNatClampNeg))), some (.int v10.2.1), none, none]) dX12_plan_192 rfl (by decide) rfl ?_
                refine e_iconst (v := 0) dX12_plan_193 rfl ?_
                refine e_istore (L' := [some (.ref (ad 12 0)), some (.int p1), some (.int (m.1 1204 0)), some (.int (v10.2.2.2.1 1285 0 ((m.1 1204 0).toNatClampNeg))), some (.int v10.2.1), some (.int 0), none]) dX12_plan_194 (by decide) rfl ?_
                refine loop_gen (b_X12_plan_196 m p1 v8 v10) (Sum.inr (Sum.inr none)) (fun v38 => EX g (d + 2) MX12_plan ad x v38.2 196 [some (.ref (ad 12 0)), some (.int p1), some (.int (m.1 1204 0)), some (.int (v10.2.2.2.1 1285 0 ((m.1 1204 0).toNatClampNeg))), some (.int v10.2.1), some (.int v38.1), none] [] Q) Φ2 hN2 (fun v38 Φ3 hB2_3 hO3 h9 => ?_) (0, v10.2.2) h9
                have hN3 := fun h => hN2 (hO3 _ h)
                have hR3 := fun r9 x9 h => hR2 r9 x9 (hO3 _ h)
                have hB0_3 : ∀ (z0 : Int32) (z1 : VM), Φ3 (Sum.inr (Sum.inr (Sum.inl (z0, z1)))) → EX g (d + 2) MX12_plan ad x z1 48 [some (.ref (ad 12 0)), some (.int p1), some (.int (m.1 1204 0)), some (.int z0), none, none, none] [] Q := fun z0 z1 h => hB0_2 z0 z1 (hO3 _ h)
                have hB1_3 : ∀ (z0 : Int32) (z1 : Int32) (z2 : VM), Φ3 (Sum.inr (Sum.inl (z0, z1, z2))) → EX g (d + 2) MX12_plan ad x z2 165 [some (.ref (ad 12 0)), some (.int p1), some (.int (m.1 1204 0)), some (.int z0), some (.int z1), none, none] [] Q := fun z0 z1 z2 h => hB1_2 z0 z1 z2 (hO3 _ h)
                have hB2_3 : ∀ (z0 : Int32) (z1 : VM), Φ3 (Sum.inl (z0, z1)) → EX g (d + 2) MX12_plan ad x z1 196 [some (.ref (ad 12 0)), some (.int p1), some (.int (m.1 1204 0)), some (.int (v10.2.2.2.1 1285 0 ((m.1 1204 0).toNatClampNeg))), some (.int v10.2.1), some (.int z0), none] [] Q := fun z0 z1 h => hB2_3 (z0, z1) h
                unfold b_X12_plan_196 at h9
                refine e_iload dX12_plan_196 rfl ?_
                refine e_bipush (v := 8) dX12_plan_198 rfl ?_
                refine e_icmp_ge (tgt := 245) dX12_plan_200 rfl (fun hc39 => ?_) (fun hc39 => ?_)
                · replace h9 := ifT hc39 h9
                  refine e_iinc (v := (v10.2.1 + (-1))) (L' := [some (.ref (ad 12 0)), some (.int p1), some (.int (m.1 1204 0)), some (.int (v10.2.2.2.1 1285 0 ((m.1 1204 0).toNatClampNeg))), some (.int (v10.2.1 + (-1))), some (.int v38.1), none]) dX12_plan_245 rfl rfl (by decide) rfl ?_
                  refine e_goto (tgt := 165) dX12_plan_248 rfl ?_
                  refine e_wk (L' := [some (.ref (ad 12 0)), some (.int p1), some (.int (m.1 1204 0)), some (.int (v10.2.2.2.1 1285 0 ((m.1 1204 0).toNatClampNeg))), some (.int (v10.2.1 + (-1))), none, none]) (wkC (wkC (wkC (wkC (wkC (wkN (wkN wk0))))))) ?_
                  exact hB1_3 _ _ _ h9
                · replace h9 := ifF hc39 h9
                  refine e_aload_n dX12_plan_203 rfl rfl ?_
                  refine g_1268 flX12_190 dX12_plan_204 ?_
                  refine e_iload dX12_plan_207 rfl ?_
                  refine e_iload dX12_plan_209 rfl ?_
                  refine e_iload_n dX12_plan_211 rfl rfl ?_
                  refine e_icmp_ge (tgt := 237) dX12_plan_212 rfl (fun hc40 => ?_) (fun hc40 => ?_)
                  · replace h9 := ifT hc40 h9
                    refine e_iconst (v := (-1)) dX12_plan_237 rfl ?_
                    obtain ⟨k41, h9⟩ := chkP hN3 h9
                    refine s_1268 dX12_plan_238 (inb_in k41) ?_
                    refine e_iinc (v := (v38.1 + 1)) (L' := [some (.ref (ad 12 0)), some (.int p1), some (.int (m.1 1204 0)), some (.int (v10.2.2.2.1 1285 0 ((m.1 1204 0).toNatClampNeg))), some (.int v10.2.1), some (.int (v38.1 + 1)), none]) dX12_plan_239 rfl rfl (by decide) rfl ?_
                    refine e_goto (tgt := 196) dX12_plan_242 rfl ?_
                    exact hB2_3 _ _ h9
                  · replace h9 := ifF hc40 h9
                    refine e_aload_n dX12_plan_215 rfl rfl ?_
                    refine g_1284 flX12_235 dX12_plan_216 ?_
                    refine e_iload dX12_plan_219 rfl ?_
                    obtain ⟨k42, h9⟩ := chkP hN3 h9
                    refine l_1284 dX12_plan_221 (inb_in k42) ?_
                    refine e_bipush (v := 8) dX12_plan_222 rfl ?_
                    refine e_icmp_ge (tgt := 237) dX12_plan_224 rfl (fun hc43 => ?_) (fun hc43 => ?_)
                    · replace h9 := ifT hc43 h9
                      refine e_iconst (v := (-1)) dX12_plan_237 rfl ?_
                      obtain ⟨k44, h9⟩ := chkP hN3 h9
                      refine s_1268 dX12_plan_238 (inb_in k44) ?_
                      refine e_iinc (v := (v38.1 + 1)) (L' := [some (.ref (ad 12 0)), some (.int p1), some (.int (m.1 1204 0)), some (.int (v10.2.2.2.1 1285 0 ((m.1 1204 0).toNatClampNeg))), some (.int v10.2.1), some (.int (v38.1 + 1)), none]) dX12_plan_239 rfl rfl (by decide) rfl ?_
                      refine e_goto (tgt := 196) dX12_plan_242 rfl ?_
                      exact hB2_3 _ _ h9
                    · replace h9 := ifF hc43 h9
                      refine e_aload_n dX12_plan_227 rfl rfl ?_
                      refine g_1284 flX12_235 dX12_plan_228 ?_
                      refine e_iload dX12_plan_231 rfl ?_
                      obtain ⟨k45, h9⟩ := chkP hN3 h9
                      refine l_1284 dX12_plan_233 (inb_in k45) ?_
                      refine e_goto (tgt := 238) dX12_plan_234 rfl ?_
                      obtain ⟨k46, h9⟩ := chkP hN3 h9
                      refine s_1268 dX12_plan_238 (inb_in k46) ?_
                      refine e_iinc (v := (v38.1 + 1)) (L' := [some (.ref (ad 12 0)), some (.int p1), some (.int (m.1 1204 0)), some (.int (v10.2.2.2.1 1285 0 ((m.1 1204 0).toNatClampNeg))), some (.int v10.2.1), some (.int (v38.1 + 1)), none]) dX12_plan_239 rfl rfl (by decide) rfl ?_
                      refine e_goto (tgt := 196) dX12_plan_242 rfl ?_
                      exact hB2_3 _ _ h9
        · replace h9 := ifF hc9 h9
          refine e_aload_n dX12_plan_52 rfl rfl ?_
          refine g_1287 flX12_244 dX12_plan_53 ?_
          refine e_iload_n dX12_plan_56 rfl rfl ?_
          refine e_aload_n dX12_plan_57 rfl rfl ?_
          refine e_iload_n dX12_plan_58 rfl rfl ?_
          refine e_iconst (v := 1) dX12_plan_59 rfl ?_
          refine e_aload_n dX12_plan_60 rfl rfl ?_
          refine g_1235 flX12_91 dX12_plan_61 ?_
          refine e_pc (pc' := 64) rfl ?_
          refine e_iload_n dX12_plan_64 rfl rfl ?_
          obtain ⟨k47, h9⟩ := chkP hN1 h9
          refine l_1235 dX12_plan_65 (inb_in k47) ?_
          refine e_ishl dX12_plan_66 ?_
          refine e_iconst (v := 1) dX12_plan_67 rfl ?_
          refine e_isub dX12_plan_68 ?_
          obtain ⟨r48, hr48, h9⟩ := elimP hN1 h9
          refine x_callVi (c := 12) (As := [.int v8.1, .int (((1 : Int32) <<< ((v8.2.2.1 1235 0 v8.1.toNatClampNeg) &&& 31)) - 1)]) (rest := [.int v8.1, .ref (ad 2287 0)]) okX12_inSome lkX12_321 rfl (by decide) rfl dX12_plan_69 rfl rfl (Nat.le_of_ble_eq_true rfl) rfl (c_X12_inSome v8.1 (((1 : Int32) <<< ((v8.2.2.1 1235 0 v8.1.toNatClampNeg) &&& 31)) - 1) hr48 (CI.mk ?_))
          obtain ⟨k49, h9⟩ := chkP hN1 h9
          refine s_1287 dX12_plan_72 (inb_in k49) ?_
          refine e_iconst (v := 0) dX12_plan_73 rfl ?_
          refine e_istore (L' := [some (.ref (ad 12 0)), some (.int p1), some (.int (m.1 1204 0)), some (.int v8.1), some (.int 0), none, none]) dX12_plan_74 (by decide) rfl ?_
          refine e_pc (pc' := 76) rfl ?_
          refine e_iconst (v := 0) dX12_plan_76 rfl ?_
          refine e_istore (L' := [some (.ref (ad 12 0)), some (.int p1), some (.int (m.1 1204 0)), some (.int v8.1), some (.int 0), some (.int 0), none]) dX12_plan_77 (by decide) rfl ?_
          refine loop_gen (b_X12_plan_79 m p1 v8 r48) (Sum.inr none) (fun v50 => EX g (d + 2) MX12_plan ad x (setA v8.2 1287 0 (upd (v8.2.2.1 1287 0) v8.1.toNatClampNeg r48)) 79 [some (.ref (ad 12 0)), some (.int p1), some (.int (m.1 1204 0)), some (.int v8.1), some (.int v50.1), some (.int v50.2), none] [] Q) Φ1 hN1 (fun v50 Φ2 hB1_2 hO2 h9 => ?_) (0, 0) h9
          have hN2 := fun h => hN1 (hO2 _ h)
          have hR2 := fun r9 x9 h => hR1 r9 x9 (hO2 _ h)
          have hB0_2 : ∀ (z0 : Int32) (z1 : VM), Φ2 (Sum.inr (Sum.inl (z0, z1))) → EX g (d + 2) MX12_plan ad x z1 48 [some (.ref (ad 12 0)), some (.int p1), some (.int (m.1 1204 0)), some (.int z0), none, none, none] [] Q := fun z0 z1 h => hB0_1 z0 z1 (hO2 _ h)
          have hB1_2 : ∀ (z0 : Int32) (z1 : Int32), Φ2 (Sum.inl (z0, z1)) → EX g (d + 2) MX12_plan ad x (setA v8.2 1287 0 (upd (v8.2.2.1 1287 0) v8.1.toNatClampNeg r48)) 79 [some (.ref (ad 12 0)), some (.int p1), some (.int (m.1 1204 0)), some (.int v8.1), some (.int z0), some (.int z1), none] [] Q := fun z0 z1 h => hB1_2 (z0, z1) h
          unfold b_X12_plan_79 at h9
          refine e_iload dX12_plan_79 rfl ?_
          refine e_bipush (v := 8) dX12_plan_81 rfl ?_
          refine e_icmp_ge (tgt := 123) dX12_plan_83 rfl (fun hc51 => ?_) (fun hc51 => ?_)
          · replace h9 := ifT hc51 h9
            refine e_aload_n dX12_plan_123 rfl rfl ?_
            refine g_1286 flX12_241 dX12_plan_124 ?_
            refine e_iload_n dX12_plan_127 rfl rfl ?_
            refine e_aload_n dX12_plan_128 rfl rfl ?_
            refine g_1286 flX12_241 dX12_plan_129 ?_
            refine e_iload_n dX12_plan_132 rfl rfl ?_
            refine e_iconst (v := 1) dX12_plan_133 rfl ?_
            refine e_iadd dX12_plan_134 ?_
            refine e_pc (pc' := 135) rfl ?_
            obtain ⟨k52, h9⟩ := chkP hN2 h9
            refine l_1286 dX12_plan_135 (inb_in k52) ?_
            refine e_iload dX12_plan_136 rfl ?_
            refine e_iadd dX12_plan_138 ?_
            obtain ⟨k53, h9⟩ := chkP hN2 h9
            refine s_1286 dX12_plan_139 (inb_in k53) ?_
            refine e_iinc (v := (v8.1 + (-1))) (L' := [some (.ref (ad 12 0)), some (.int p1), some (.int (m.1 1204 0)), some (.int (v8.1 + (-1))), some (.int v50.1), some (.int v50.2), none]) dX12_plan_140 rfl rfl (by decide) rfl ?_
            refine e_goto (tgt := 48) dX12_plan_143 rfl ?_
            refine e_wk (L' := [some (.ref (ad 12 0)), some (.int p1), some (.int (m.1 1204 0)), some (.int (v8.1 + (-1))), none, none, none]) (wkC (wkC (wkC (wkC (wkN (wkN (wkN wk0))))))) ?_
            exact hB0_2 _ _ h9
          · replace h9 := ifF hc51 h9
            refine e_aload_n dX12_plan_86 rfl rfl ?_
            refine g_1267 flX12_187 dX12_plan_87 ?_
            refine e_bipush (v := 8) dX12_plan_90 rfl ?_
            refine e_iload_n dX12_plan_92 rfl rfl ?_
            refine e_imul dX12_plan_93 ?_
            refine e_iload dX12_plan_94 rfl ?_
            refine e_iadd dX12_plan_96 ?_
            obtain ⟨k54, h9⟩ := chkP hN2 h9
            refine l_1267 dX12_plan_97 (inb_in k54) ?_
            refine e_pc (pc' := 98) rfl ?_
            refine e_iload dX12_plan_98 rfl ?_
            refine e_icmp_le (tgt := 117) dX12_plan_100 rfl (fun hc55 => ?_) (fun hc55 => ?_)
            · replace h9 := ifT hc55 h9
              refine e_iinc (v := (v50.2 + 1)) (L' := [some (.ref (ad 12 0)), some (.int p1), some (.int (m.1 1204 0)), some (.int v8.1), some (.int v50.1), some (.int (v50.2 + 1)), none]) dX12_plan_117 rfl rfl (by decide) rfl ?_
              refine e_goto (tgt := 79) dX12_plan_120 rfl ?_
              exact hB1_2 _ _ h9
            · replace h9 := ifF hc55 h9
              refine e_aload_n dX12_plan_103 rfl rfl ?_
              refine g_1267 flX12_187 dX12_plan_104 ?_
              refine e_bipush (v := 8) dX12_plan_107 rfl ?_
              refine e_iload_n dX12_plan_109 rfl rfl ?_
              refine e_imul dX12_plan_110 ?_
              refine e_iload dX12_plan_111 rfl ?_
              refine e_iadd dX12_plan_113 ?_
              obtain ⟨k56, h9⟩ := chkP hN2 h9
              refine l_1267 dX12_plan_114 (inb_in k56) ?_
              refine e_pc (pc' := 115) rfl ?_
              refine e_istore (L' := [some (.ref (ad 12 0)), some (.int p1), some (.int (m.1 1204 0)), some (.int v8.1), some (.int ((setA v8.2 1287 0 (upd (v8.2.2.1 1287 0) v8.1.toNatClampNeg r48)).2.1 1267 0 (((8 * v8.1) + v50.2).toNatClampNeg))), some (.int v50.2), none]) dX12_plan_115 (by decide) rfl ?_
              refine e_iinc (v := (v50.2 + 1)) (L' := [some (.ref (ad 12 0)), some (.int p1), some (.int (m.1 1204 0)), some (.int v8.1), some (.int ((setA v8.2 1287 0 (upd (v8.2.2.1 1287 0) v8.1.toNatClampNeg r48)).2.1 1267 0 (((8 * v8.1) + v50.2).toNatClampNeg))), some (.int (v50.2 + 1)), none]) dX12_plan_117 rfl rfl (by decide) rfl ?_
              refine e_goto (tgt := 79) dX12_plan_120 rfl ?_
              exact hB1_2 _ _ h9
      · replace h9 := ifF hc6 h9
        refine e_aload_n dX12_plan_25 rfl rfl ?_
        refine e_bipush (v := (-7)) dX12_plan_26 rfl ?_
        obtain ⟨⟨r57, w58⟩, hr57, h9⟩ := elimP hN0 h9
        refine x_callVi (c := 12) (As := [.int (-7)]) (rest := []) okX12_no lkX12_263 rfl (by decide) rfl dX12_plan_28 rfl rfl (Nat.le_of_ble_eq_true rfl) rfl (c_X12_no (-7) hr57 (CI.mk ?_))
        exact x_iret dX12_plan_31 rfl (hR0 _ _ h9)
    · replace h9 := ifF hc5 h9
      refine e_aload_n dX12_plan_10 rfl rfl ?_
      refine e_bipush (v := (-6)) dX12_plan_11 rfl ?_
      obtain ⟨⟨r60, w61⟩, hr60, h9⟩ := elimP hN0 h9
      refine x_callVi (c := 12) (As := [.int (-6)]) (rest := []) okX12_no lkX12_263 rfl (by decide) rfl dX12_plan_13 rfl rfl (Nat.le_of_ble_eq_true rfl) rfl (c_X12_no (-6) hr60 (CI.mk ?_))
      exact x_iret dX12_plan_16 rfl (hR0 _ _ h9)
noncomputable def f_X12_planned (m : VM) (p1 : Int32) : Option (Int32) := (f_X12_isPicture m p1).elim none (fun r1 => if r1 = 0 then some (-1) else if inb p1 8 = true then some (m.2.1 1268 0 p1.toNatClampNeg) else none)
theorem c_X12_planned {g : GG} {d : Nat} {ad : AD} {x m : VM} {Q : Option Value → VM → VM → Prop} (p1 : Int32) {r9 : Int32} (hf : f_X12_planned m p1 = some r9) (hq : Q (some (.int r9)) x m) : CX g (d + 1) MX12_planned [.ref (ad 12 0), .int p1] ad x m Q := by
  refine CX.to (Lv := [some (.ref (ad 12 0)), some (.int p1)]) okX12_planned (Nat.le_of_ble_eq_true rfl) rfl ?_
  obtain ⟨Φ0, hΦ⟩ : ∃ Φ : Option (Int32) → Prop, Φ = fun o => o = some r9 := ⟨_, rfl⟩
  have hN0 : Φ0 none → False := by rw [hΦ]; intro h; cases h
  have hR0 : ∀ z9, Φ0 (some z9) → Q (some (.int z9)) x m := by rw [hΦ]; intro z9 h; cases h; exact hq
  have h9 : Φ0 (f_X12_planned m p1) := by rw [hΦ]; exact hf
  clear hf hq hΦ
  unfold f_X12_planned at h9
  refine e_aload_n dX12_planned_0 rfl rfl ?_
  refine e_iload_n dX12_planned_1 rfl rfl ?_
  obtain ⟨r1, hr1, h9⟩ := elimP hN0 h9
  refine x_callVi (c := 12) (As := [.int p1]) (rest := []) okX12_isPicture lkX12_253 rfl (by decide) rfl dX12_planned_2 rfl rfl (Nat.le_of_ble_eq_true rfl) rfl (c_X12_isPicture p1 hr1 (CI.mk ?_))
  refine e_if_eq (tgt := 17) dX12_planned_5 rfl (fun hc2 => ?_) (fun hc2 => ?_)
  · replace h9 := ifT hc2 h9
    refine e_iconst (v := (-1)) dX12_planned_17 rfl ?_
    exact x_iret dX12_planned_18 rfl (hR0 _ h9)
  · replace h9 := ifF hc2 h9
    refine e_aload_n dX12_planned_8 rfl rfl ?_
    refine g_1268 flX12_190 dX12_planned_9 ?_
    refine e_iload_n dX12_planned_12 rfl rfl ?_
    obtain ⟨k3, h9⟩ := chkP hN0 h9
    refine l_1268 dX12_planned_13 (inb_in k3) ?_
    refine e_goto (tgt := 18) dX12_planned_14 rfl ?_
    exact x_iret dX12_planned_18 rfl (hR0 _ h9)
noncomputable def b_X12_status_112 (m : VM) (p1 : Int32) (v8 : Int32 × Int32) : (Int32 × Int32) ⊕ (Option (Int32)) := if (m.1 1202 0) ≤ v8.2 then Sum.inr (some v8.1) else (f_X12_isUnderOn m v8.2 (m.1 1200 0)).elim (Sum.inr none) (fun r10 => if r10 = 0 then Sum.inl (v8.1, v8.2 + 1) else Sum.inl (v8.1 + 1, v8.2 + 1))
noncomputable def b_X12_status_145 (m : VM) (p1 : Int32) (v13 : Int32 × Int32) : (Int32 × Int32) ⊕ (Option (Int32)) := if (m.1 1202 0) ≤ v13.2 then Sum.inr (some v13.1) else if inb v13.2 16 = true then if (m.2.1 1228 0 v13.2.toNatClampNeg) = 0 then Sum.inl (v13.1, v13.2 + 1) else Sum.inl (v13.1 + 1, v13.2 + 1) else Sum.inr none
noncomputable def b_X12_status_175 (m : VM) (p1 : Int32) (v18 : Int32 × Int32) : (Int32 × Int32) ⊕ (Option (Int32)) := if (m.1 1202 0) ≤ v18.2 then Sum.inr (some v18.1) else (f_X12_isLent m v18.2 (m.1 1200 0)).elim (Sum.inr none) (fun r20 => if r20 = 0 then Sum.inl (v18.1, v18.2 + 1) else Sum.inl (v18.1 + 1, v18.2 + 1))
noncomputable def j_X12_status_22 (m : VM) (p1 : Int32) : Option (Int32) := if p1 = 0 then some (m.1 1202 0) else if p1 = 1 then some (m.1 1204 0) else if p1 = 2 then some (m.1 1203 0) else if p1 = 3 then some (m.1 1205 0) else if p1 = 4 then some (m.1 1200 0) else if p1 = 5 then some (m.1 1201 0) else if p1 = 6 then loopF none (b_X12_status_112 m p1) (0, 0) else if p1 = 7 then loopF none (b_X12_status_145 m p1) (0, 0) else if p1 = 8 then loopF none (b_X12_status_175 m p1) (0, 0) else if p1 = 9 then some (m.1 1210 0) else some (-1)
noncomputable def f_X12_status (m : VM) (p1 : Int32) : Option (Int32) := if p1 ≤ 10 then j_X12_status_22 m p1 else if 18 ≤ p1 then j_X12_status_22 m p1 else if inb (p1 - 10) 8 = true then some (m.2.1 1269 0 ((p1 - 10).toNatClampNeg)) else none
theorem c_X12_status {g : GG} {d : Nat} {ad : AD} {x m : VM} {Q : Option Value → VM → VM → Prop} (p1 : Int32) {r9 : Int32} (hf : f_X12_status m p1 = some r9) (hq : Q (some (.int r9)) x m) : CX g (d + 1) MX12_status [.ref (ad 12 0), .int p1] ad x m Q := by
  refine CX.to (Lv := [some (.ref (ad 12 0)), some (.int p1), none, none]) okX12_status (Nat.le_of_ble_eq_true rfl) rfl ?_
  obtain ⟨Φ0, hΦ⟩ : ∃ Φ : Option (Int32) → Prop, Φ = fun o => o = some r9 := ⟨_, rfl⟩
  have hN0 : Φ0 none → False := by rw [hΦ]; intro h; cases h
  have hR0 : ∀ z9, Φ0 (some z9) → Q (some (.int z9)) x m := by rw [hΦ]; intro z9 h; cases h; exact hq
  have h9 : Φ0 (f_X12_status m p1) := by rw [hΦ]; exact hf
  clear hf hq hΦ
  unfold f_X12_status at h9
  refine e_iload_n dX12_status_0 rfl rfl ?_
  refine e_bipush (v := 10) dX12_status_1 rfl ?_
  have hj22 : Φ0 (j_X12_status_22 m p1) → EX g (d + 1) MX12_status ad x m 22 [some (.ref (ad 12 0)), some (.int p1), none, none] [] Q := by
    intro h9
    unfold j_X12_status_22 at h9
    refine e_iconst (v := 0) dX12_status_22 rfl ?_
    refine e_istore_n (L' := [some (.ref (ad 12 0)), some (.int p1), some (.int 0), none]) dX12_status_23 rfl (by decide) rfl ?_
    refine e_iload_n dX12_status_24 rfl rfl ?_
    by_cases hc1 : p1 = 0
    · replace h9 := ifT hc1 h9
      refine e_tableIn (tgt := 80) dX12_status_25 (by rw [hc1]; decide) (by rw [hc1]; decide) (by rw [hc1]; rfl) rfl ?_
      refine e_aload_n dX12_status_80 rfl rfl ?_
      refine g_1202 flX12_247 dX12_status_81 ?_
      exact x_iret dX12_status_84 rfl (hR0 _ h9)
    replace h9 := ifF hc1 h9
    by_cases hc2 : p1 = 1
    · replace h9 := ifT hc2 h9
      refine e_tableIn (tgt := 85) dX12_status_25 (by rw [hc2]; decide) (by rw [hc2]; decide) (by rw [hc2]; rfl) rfl ?_
      refine e_aload_n dX12_status_85 rfl rfl ?_
      refine g_1204 flX12_250 dX12_status_86 ?_
      exact x_iret dX12_status_89 rfl (hR0 _ h9)
    replace h9 := ifF hc2 h9
    by_cases hc3 : p1 = 2
    · replace h9 := ifT hc3 h9
      refine e_tableIn (tgt := 90) dX12_status_25 (by rw [hc3]; decide) (by rw [hc3]; decide) (by rw [hc3]; rfl) rfl ?_
      refine e_aload_n dX12_status_90 rfl rfl ?_
      refine g_1203 flX12_292 dX12_status_91 ?_
      exact x_iret dX12_status_94 rfl (hR0 _ h9)
    replace h9 := ifF hc3 h9
    by_cases hc4 : p1 = 3
    · replace h9 := ifT hc4 h9
      refine e_tableIn (tgt := 95) dX12_status_25 (by rw [hc4]; decide) (by rw [hc4]; decide) (by rw [hc4]; rfl) rfl ?_
      refine e_aload_n dX12_status_95 rfl rfl ?_
      refine g_1205 flX12_257 dX12_status_96 ?_
      exact x_iret dX12_status_99 rfl (hR0 _ h9)
    replace h9 := ifF hc4 h9
    by_cases hc5 : p1 = 4
    · replace h9 := ifT hc5 h9
      refine e_tableIn (tgt := 100) dX12_status_25 (by rw [hc5]; decide) (by rw [hc5]; decide) (by rw [hc5]; rfl) rfl ?_
      refine e_aload_n dX12_status_100 rfl rfl ?_
      refine g_1200 flX12_286 dX12_status_101 ?_
      exact x_iret dX12_status_104 rfl (hR0 _ h9)
    replace h9 := ifF hc5 h9
    by_cases hc6 : p1 = 5
    · replace h9 := ifT hc6 h9
      refine e_tableIn (tgt := 105) dX12_status_25 (by rw [hc6]; decide) (by rw [hc6]; decide) (by rw [hc6]; rfl) rfl ?_
      refine e_aload_n dX12_status_105 rfl rfl ?_
      refine g_1201 flX12_309 dX12_status_106 ?_
      exact x_iret dX12_status_109 rfl (hR0 _ h9)
    replace h9 := ifF hc6 h9
    by_cases hc7 : p1 = 6
    · replace h9 := ifT hc7 h9
      refine e_tableIn (tgt := 110) dX12_status_25 (by rw [hc7]; decide) (by rw [hc7]; decide) (by rw [hc7]; rfl) rfl ?_
      refine e_iconst (v := 0) dX12_status_110 rfl ?_
      refine e_istore_n (L' := [some (.ref (ad 12 0)), some (.int p1), some (.int 0), some (.int 0)]) dX12_status_111 rfl (by decide) rfl ?_
      refine e_wk (L' := [some (.ref (ad 12 0)), none, some (.int 0), some (.int 0)]) (wkC (wkN (wkC (wkC wk0)))) ?_
      refine loop_gen (b_X12_status_112 m p1) none (fun v8 => EX g (d + 1) MX12_status ad x m 112 [some (.ref (ad 12 0)), none, some (.int v8.1), some (.int v8.2)] [] Q) Φ0 hN0 (fun v8 Φ1 hB0_1 hO1 h9 => ?_) (0, 0) h9
      have hN1 := fun h => hN0 (hO1 _ h)
      have hR1 := fun r9 h => hR0 r9 (hO1 _ h)
      have hB0_1 : ∀ (z0 : Int32) (z1 : Int32), Φ1 (Sum.inl (z0, z1)) → EX g (d + 1) MX12_status ad x m 112 [some (.ref (ad 12 0)), none, some (.int z0), some (.int z1)] [] Q := fun z0 z1 h => hB0_1 (z0, z1) h
      unfold b_X12_status_112 at h9
      refine e_iload_n dX12_status_112 rfl rfl ?_
      refine e_aload_n dX12_status_113 rfl rfl ?_
      refine g_1202 flX12_247 dX12_status_114 ?_
      refine e_icmp_ge (tgt := 141) dX12_status_117 rfl (fun hc9 => ?_) (fun hc9 => ?_)
      · replace h9 := ifT hc9 h9
        refine e_iload_n dX12_status_141 rfl rfl ?_
        exact x_iret dX12_status_142 rfl (hR1 _ h9)
      · replace h9 := ifF hc9 h9
        refine e_aload_n dX12_status_120 rfl rfl ?_
        refine e_iload_n dX12_status_121 rfl rfl ?_
        refine e_aload_n dX12_status_122 rfl rfl ?_
        refine g_1200 flX12_286 dX12_status_123 ?_
        obtain ⟨r10, hr10, h9⟩ := elimP hN1 h9
        refine x_callVi (c := 12) (As := [.int v8.2, .int (m.1 1200 0)]) (rest := []) okX12_isUnderOn lkX12_289 rfl (by decide) rfl dX12_status_126 rfl rfl (Nat.le_of_ble_eq_true rfl) rfl (c_X12_isUnderOn v8.2 (m.1 1200 0) hr10 (CI.mk ?_))
        refine e_if_eq (tgt := 135) dX12_status_129 rfl (fun hc11 => ?_) (fun hc11 => ?_)
        · replace h9 := ifT hc11 h9
          refine e_iinc (v := (v8.2 + 1)) (L' := [some (.ref (ad 12 0)), none, some (.int v8.1), some (.int (v8.2 + 1))]) dX12_status_135 rfl rfl (by decide) rfl ?_
          refine e_goto (tgt := 112) dX12_status_138 rfl ?_
          exact hB0_1 _ _ h9
        · replace h9 := ifF hc11 h9
          refine e_iinc (v := (v8.1 + 1)) (L' := [some (.ref (ad 12 0)), none, some (.int (v8.1 + 1)), some (.int v8.2)]) dX12_status_132 rfl rfl (by decide) rfl ?_
          refine e_iinc (v := (v8.2 + 1)) (L' := [some (.ref (ad 12 0)), none, some (.int (v8.1 + 1)), some (.int (v8.2 + 1))]) dX12_status_135 rfl rfl (by decide) rfl ?_
          refine e_goto (tgt := 112) dX12_status_138 rfl ?_
          exact hB0_1 _ _ h9
    replace h9 := ifF hc7 h9
    by_cases hc12 : p1 = 7
    · replace h9 := ifT hc12 h9
      refine e_tableIn (tgt := 143) dX12_status_25 (by rw [hc12]; decide) (by rw [hc12]; decide) (by rw [hc12]; rfl) rfl ?_
      refine e_iconst (v := 0) dX12_status_143 rfl ?_
      refine e_istore_n (L' := [some (.ref (ad 12 0)), some (.int p1), some (.int 0), some (.int 0)]) dX12_status_144 rfl (by decide) rfl ?_
      refine e_wk (L' := [some (.ref (ad 12 0)), none, some (.int 0), some (.int 0)]) (wkC (wkN (wkC (wkC wk0)))) ?_
      refine loop_gen (b_X12_status_145 m p1) none (fun v13 => EX g (d + 1) MX12_status ad x m 145 [some (.ref (ad 12 0)), none, some (.int v13.1), some (.int v13.2)] [] Q) Φ0 hN0 (fun v13 Φ1 hB0_1 hO1 h9 => ?_) (0, 0) h9
      have hN1 := fun h => hN0 (hO1 _ h)
      have hR1 := fun r9 h => hR0 r9 (hO1 _ h)
      have hB0_1 : ∀ (z0 : Int32) (z1 : Int32), Φ1 (Sum.inl (z0, z1)) → EX g (d + 1) MX12_status ad x m 145 [some (.ref (ad 12 0)), none, some (.int z0), some (.int z1)] [] Q := fun z0 z1 h => hB0_1 (z0, z1) h
      unfold b_X12_status_145 at h9
      refine e_iload_n dX12_status_145 rfl rfl ?_
      refine e_aload_n dX12_status_146 rfl rfl ?_
      refine g_1202 flX12_247 dX12_status_147 ?_
      refine e_icmp_ge (tgt := 171) dX12_status_150 rfl (fun hc14 => ?_) (fun hc14 => ?_)
      · replace h9 := ifT hc14 h9
        refine e_iload_n dX12_status_171 rfl rfl ?_
        exact x_iret dX12_status_172 rfl (hR1 _ h9)
      · replace h9 := ifF hc14 h9
        refine e_aload_n dX12_status_153 rfl rfl ?_
        refine g_1228 flX12_70 dX12_status_154 ?_
        refine e_iload_n dX12_status_157 rfl rfl ?_
        obtain ⟨k15, h9⟩ := chkP hN1 h9
        refine l_1228 dX12_status_158 (inb_in k15) ?_
        refine e_if_eq (tgt := 165) dX12_status_159 rfl (fun hc16 => ?_) (fun hc16 => ?_)
        · replace h9 := ifT hc16 h9
          refine e_iinc (v := (v13.2 + 1)) (L' := [some (.ref (ad 12 0)), none, some (.int v13.1), some (.int (v13.2 + 1))]) dX12_status_165 rfl rfl (by decide) rfl ?_
          refine e_goto (tgt := 145) dX12_status_168 rfl ?_
          exact hB0_1 _ _ h9
        · replace h9 := ifF hc16 h9
          refine e_iinc (v := (v13.1 + 1)) (L' := [some (.ref (ad 12 0)), none, some (.int (v13.1 + 1)), some (.int v13.2)]) dX12_status_162 rfl rfl (by decide) rfl ?_
          refine e_iinc (v := (v13.2 + 1)) (L' := [some (.ref (ad 12 0)), none, some (.int (v13.1 + 1)), some (.int (v13.2 + 1))]) dX12_status_165 rfl rfl (by decide) rfl ?_
          refine e_goto (tgt := 145) dX12_status_168 rfl ?_
          exact hB0_1 _ _ h9
    replace h9 := ifF hc12 h9
    by_cases hc17 : p1 = 8
    · replace h9 := ifT hc17 h9
      refine e_tableIn (tgt := 173) dX12_status_25 (by rw [hc17]; decide) (by rw [hc17]; decide) (by rw [hc17]; rfl) rfl ?_
      refine e_iconst (v := 0) dX12_status_173 rfl ?_
      refine e_istore_n (L' := [some (.ref (ad 12 0)), some (.int p1), some (.int 0), some (.int 0)]) dX12_status_174 rfl (by decide) rfl ?_
      refine e_wk (L' := [some (.ref (ad 12 0)), none, some (.int 0), some (.int 0)]) (wkC (wkN (wkC (wkC wk0)))) ?_
      refine loop_gen (b_X12_status_175 m p1) none (fun v18 => EX g (d + 1) MX12_status ad x m 175 [some (.ref (ad 12 0)), none, some (.int v18.1), some (.int v18.2)] [] Q) Φ0 hN0 (fun v18 Φ1 hB0_1 hO1 h9 => ?_) (0, 0) h9
      have hN1 := fun h => hN0 (hO1 _ h)
      have hR1 := fun r9 h => hR0 r9 (hO1 _ h)
      have hB0_1 : ∀ (z0 : Int32) (z1 : Int32), Φ1 (Sum.inl (z0, z1)) → EX g (d + 1) MX12_status ad x m 175 [some (.ref (ad 12 0)), none, some (.int z0), some (.int z1)] [] Q := fun z0 z1 h => hB0_1 (z0, z1) h
      unfold b_X12_status_175 at h9
      refine e_iload_n dX12_status_175 rfl rfl ?_
      refine e_aload_n dX12_status_176 rfl rfl ?_
      refine g_1202 flX12_247 dX12_status_177 ?_
      refine e_icmp_ge (tgt := 204) dX12_status_180 rfl (fun hc19 => ?_) (fun hc19 => ?_)
      · replace h9 := ifT hc19 h9
        refine e_iload_n dX12_status_204 rfl rfl ?_
        exact x_iret dX12_status_205 rfl (hR1 _ h9)
      · replace h9 := ifF hc19 h9
        refine e_aload_n dX12_status_183 rfl rfl ?_
        refine e_iload_n dX12_status_184 rfl rfl ?_
        refine e_aload_n dX12_status_185 rfl rfl ?_
        refine g_1200 flX12_286 dX12_status_186 ?_
        obtain ⟨r20, hr20, h9⟩ := elimP hN1 h9
        refine x_callVi (c := 12) (As := [.int v18.2, .int (m.1 1200 0)]) (rest := []) okX12_isLent lkX12_299 rfl (by decide) rfl dX12_status_189 rfl rfl (Nat.le_of_ble_eq_true rfl) rfl (c_X12_isLent v18.2 (m.1 1200 0) hr20 (CI.mk ?_))
        refine e_if_eq (tgt := 198) dX12_status_192 rfl (fun hc21 => ?_) (fun hc21 => ?_)
        · replace h9 := ifT hc21 h9
          refine e_iinc (v := (v18.2 + 1)) (L' := [some (.ref (ad 12 0)), none, some (.int v18.1), some (.int (v18.2 + 1))]) dX12_status_198 rfl rfl (by decide) rfl ?_
          refine e_goto (tgt := 175) dX12_status_201 rfl ?_
          exact hB0_1 _ _ h9
        · replace h9 := ifF hc21 h9
          refine e_iinc (v := (v18.1 + 1)) (L' := [some (.ref (ad 12 0)), none, some (.int (v18.1 + 1)), some (.int v18.2)]) dX12_status_195 rfl rfl (by decide) rfl ?_
          refine e_iinc (v := (v18.2 + 1)) (L' := [some (.ref (ad 12 0)), none, some (.int (v18.1 + 1)), some (.int (v18.2 + 1))]) dX12_status_198 rfl rfl (by decide) rfl ?_
          refine e_goto (tgt := 175) dX12_status_201 rfl ?_
          exact hB0_1 _ _ h9
    replace h9 := ifF hc17 h9
    by_cases hc22 : p1 = 9
    · replace h9 := ifT hc22 h9
      refine e_tableIn (tgt := 206) dX12_status_25 (by rw [hc22]; decide) (by rw [hc22]; decide) (by rw [hc22]; rfl) rfl ?_
      refine e_aload_n dX12_status_206 rfl rfl ?_
      refine g_1210 flX12_376 dX12_status_207 ?_
      exact x_iret dX12_status_210 rfl (hR0 _ h9)
    replace h9 := ifF hc22 h9
    refine e_tableOut (tgt := 211) dX12_status_25 (sw_out10 hc1 hc2 hc3 hc4 hc5 hc6 hc7 hc12 hc17 hc22) rfl ?_
    refine e_iconst (v := (-1)) dX12_status_211 rfl ?_
    exact x_iret dX12_status_212 rfl (hR0 _ h9)
  refine e_icmp_le (tgt := 22) dX12_status_3 rfl (fun hc23 => ?_) (fun hc23 => ?_)
  · replace h9 := ifT hc23 h9
    exact hj22 h9
  · replace h9 := ifF hc23 h9
    refine e_iload_n dX12_status_6 rfl rfl ?_
    refine e_bipush (v := 18) dX12_status_7 rfl ?_
    refine e_icmp_ge (tgt := 22) dX12_status_9 rfl (fun hc24 => ?_) (fun hc24 => ?_)
    · replace h9 := ifT hc24 h9
      exact hj22 h9
    · replace h9 := ifF hc24 h9
      refine e_aload_n dX12_status_12 rfl rfl ?_
      refine g_1269 flX12_193 dX12_status_13 ?_
      refine e_iload_n dX12_status_16 rfl rfl ?_
      refine e_bipush (v := 10) dX12_status_17 rfl ?_
      refine e_isub dX12_status_19 ?_
      obtain ⟨k25, h9⟩ := chkP hN0 h9
      refine l_1269 dX12_status_20 (inb_in k25) ?_
      exact x_iret dX12_status_21 rfl (hR0 _ h9)
