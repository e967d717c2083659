noncomputable def b_X12_creditOf_5 (m : VM) (p1 : Int32) (p2 : Int32) (v1 : Int32 × Int32) : (Int32 × Int32) ⊕ (Option (Int32)) := if inb p1 8 = true then if (m.2.1 1248 0 p1.toNatClampNeg) ≤ v1.2 then Sum.inr (some v1.1) else if inb ((60 * p1) + v1.2) 480 = true then if (m.2.1 1249 0 (((60 * p1) + v1.2).toNatClampNeg)) = p2 then Sum.inl (v1.1 + 1, v1.2 + 1) else Sum.inl (v1.1, v1.2 + 1) else Sum.inr none else Sum.inr none
noncomputable def f_X12_creditOf (m : VM) (p1 : Int32) (p2 : Int32) : Option (Int32) := loopF none (b_X12_creditOf_5 m p1 p2) (0, 0)
theorem c_X12_creditOf {g : GG} {d : Nat} {ad : AD} {x m : VM} {Q : Option Value → VM → VM → Prop} (p1 : Int32) (p2 : Int32) {r9 : Int32} (hf : f_X12_creditOf m p1 p2 = some r9) (hq : Q (some (.int r9)) x m) : CX g d MX12_creditOf [.ref (ad 12 0), .int p1, .int p2] ad x m Q := by
  refine CX.to (Lv := [some (.ref (ad 12 0)), some (.int p1), some (.int p2), none, none]) okX12_creditOf (Nat.le_of_ble_eq_true rfl) rfl ?_
  obtain ⟨Φ0, hΦ⟩ : ∃ Φ : Option (Int32) → Prop, Φ = fun o => o = some r9 := ⟨_, rfl⟩
  have hN0 : Φ0 none → False := by rw [hΦ]; intro h; cases h
  have hR0 : ∀ z9, Φ0 (some z9) → Q (some (.int z9)) x m := by rw [hΦ]; intro z9 h; cases h; exact hq
  have h9 : Φ0 (f_X12_creditOf m p1 p2) := by rw [hΦ]; exact hf
  clear hf hq hΦ
  unfold f_X12_creditOf at h9
  refine e_iconst (v := 0) dX12_creditOf_0 rfl ?_
  refine e_istore_n (L' := [some (.ref (ad 12 0)), some (.int p1), some (.int p2), some (.int 0), none]) dX12_creditOf_1 rfl (by decide) rfl ?_
  refine e_iconst (v := 0) dX12_creditOf_2 rfl ?_
  refine e_istore (L' := [some (.ref (ad 12 0)), some (.int p1), some (.int p2), some (.int 0), some (.int 0)]) dX12_creditOf_3 (by decide) rfl ?_
  refine loop_gen (b_X12_creditOf_5 m p1 p2) none (fun v1 => EX g d MX12_creditOf ad x m 5 [some (.ref (ad 12 0)), some (.int p1), some (.int p2), some (.int v1.1), some (.int v1.2)] [] Q) Φ0 hN0 (fun v1 Φ1 hB0_1 hO1 h9 => ?_) (0, 0) h9
  have hN1 := fun h => hN0 (hO1 _ h)
  have hR1 := fun r9 h => hR0 r9 (hO1 _ h)
  have hB0_1 : ∀ (z0 : Int32) (z1 : Int32), Φ1 (Sum.inl (z0, z1)) → EX g d MX12_creditOf ad x m 5 [some (.ref (ad 12 0)), some (.int p1), some (.int p2), some (.int z0), some (.int z1)] [] Q := fun z0 z1 h => hB0_1 (z0, z1) h
  unfold b_X12_creditOf_5 at h9
  refine e_iload dX12_creditOf_5 rfl ?_
  refine e_aload_n dX12_creditOf_7 rfl rfl ?_
  refine g_1248 flX12_130 dX12_creditOf_8 ?_
  refine e_iload_n dX12_creditOf_11 rfl rfl ?_
  obtain ⟨k2, h9⟩ := chkP hN1 h9
  refine l_1248 dX12_creditOf_12 (inb_in k2) ?_
  refine e_icmp_ge (tgt := 41) dX12_creditOf_13 rfl (fun hc3 => ?_) (fun hc3 => ?_)
  · replace h9 := ifT hc3 h9
    refine e_iload_n dX12_creditOf_41 rfl rfl ?_
    exact x_iret dX12_creditOf_42 rfl (hR1 _ h9)
  · replace h9 := ifF hc3 h9
    refine e_aload_n dX12_creditOf_16 rfl rfl ?_
    refine g_1249 flX12_133 dX12_creditOf_17 ?_
    refine e_bipush (v := 60) dX12_creditOf_20 rfl ?_
    refine e_iload_n dX12_creditOf_22 rfl rfl ?_
    refine e_imul dX12_creditOf_23 ?_
    refine e_iload dX12_creditOf_24 rfl ?_
    refine e_iadd dX12_creditOf_26 ?_
    obtain ⟨k4, h9⟩ := chkP hN1 h9
    refine l_1249 dX12_creditOf_27 (inb_in k4) ?_
    refine e_pc (pc' := 28) rfl ?_
    refine e_iload_n dX12_creditOf_28 rfl rfl ?_
    refine e_icmp_ne (tgt := 35) dX12_creditOf_29 rfl (fun hc5 => ?_) (fun hc5 => ?_)
    · replace h9 := ifF hc5 h9
      refine e_iinc (v := (v1.2 + 1)) (L' := [some (.ref (ad 12 0)), some (.int p1), some (.int p2), some (.int v1.1), some (.int (v1.2 + 1))]) dX12_creditOf_35 rfl rfl (by decide) rfl ?_
      refine e_goto (tgt := 5) dX12_creditOf_38 rfl ?_
      exact hB0_1 _ _ h9
    · replace h9 := ifT hc5 h9
      refine e_iinc (v := (v1.1 + 1)) (L' := [some (.ref (ad 12 0)), some (.int p1), some (.int p2), some (.int (v1.1 + 1)), some (.int v1.2)]) dX12_creditOf_32 rfl rfl (by decide) rfl ?_
      refine e_iinc (v := (v1.2 + 1)) (L' := [some (.ref (ad 12 0)), some (.int p1), some (.int p2), some (.int (v1.1 + 1)), some (.int (v1.2 + 1))]) dX12_creditOf_35 rfl rfl (by decide) rfl ?_
      refine e_goto (tgt := 5) dX12_creditOf_38 rfl ?_
      exact hB0_1 _ _ h9
noncomputable def f_X12_credit (m : VM) (p1 : Int32) (p2 : Int32) : Option (Int32) := (f_X12_isPicture m p1).elim none (fun r1 => if r1 = 0 then some (-1) else if p2 < 0 then some (-1) else if 6 ≤ p2 then some (-1) else (f_X12_creditOf m p1 p2).elim none (fun r5 => some r5))
theorem c_X12_credit {g : GG} {d : Nat} {ad : AD} {x m : VM} {Q : Option Value → VM → VM → Prop} (p1 : Int32) (p2 : Int32) {r9 : Int32} (hf : f_X12_credit m p1 p2 = some r9) (hq : Q (some (.int r9)) x m) : CX g (d + 1) MX12_credit [.ref (ad 12 0), .int p1, .int p2] ad x m Q := by
  refine CX.to (Lv := [some (.ref (ad 12 0)), some (.int p1), some (.int p2)]) okX12_credit (Nat.le_of_ble_eq_true rfl) rfl ?_
  obtain ⟨Φ0, hΦ⟩ : ∃ Φ : Option (Int32) → Prop, Φ = fun o => o = some r9 := ⟨_, rfl⟩
  have hN0 : Φ0 none → False := by rw [hΦ]; intro h; cases h
  have hR0 : ∀ z9, Φ0 (some z9) → Q (some (.int z9)) x m := by rw [hΦ]; intro z9 h; cases h; exact hq
  have h9 : Φ0 (f_X12_credit m p1 p2) := by rw [hΦ]; exact hf
  clear hf hq hΦ
  unfold f_X12_credit at h9
  refine e_aload_n dX12_credit_0 rfl rfl ?_
  refine e_iload_n dX12_credit_1 rfl rfl ?_
  obtain ⟨r1, hr1, h9⟩ := elimP hN0 h9
  refine x_callVi (c := 12) (As := [.int p1]) (rest := []) okX12_isPicture lkX12_253 rfl (by decide) rfl dX12_credit_2 rfl rfl (Nat.le_of_ble_eq_true rfl) rfl (c_X12_isPicture p1 hr1 (CI.mk ?_))
  refine e_if_eq (tgt := 27) dX12_credit_5 rfl (fun hc2 => ?_) (fun hc2 => ?_)
  · replace h9 := ifT hc2 h9
    refine e_iconst (v := (-1)) dX12_credit_27 rfl ?_
    exact x_iret dX12_credit_28 rfl (hR0 _ h9)
  · replace h9 := ifF hc2 h9
    refine e_iload_n dX12_credit_8 rfl rfl ?_
    refine e_if_lt (tgt := 27) dX12_credit_9 rfl (fun hc3 => ?_) (fun hc3 => ?_)
    · replace h9 := ifT hc3 h9
      refine e_iconst (v := (-1)) dX12_credit_27 rfl ?_
      exact x_iret dX12_credit_28 rfl (hR0 _ h9)
    · replace h9 := ifF hc3 h9
      refine e_iload_n dX12_credit_12 rfl rfl ?_
      refine e_bipush (v := 6) dX12_credit_13 rfl ?_
      refine e_icmp_ge (tgt := 27) dX12_credit_15 rfl (fun hc4 => ?_) (fun hc4 => ?_)
      · replace h9 := ifT hc4 h9
        refine e_iconst (v := (-1)) dX12_credit_27 rfl ?_
        exact x_iret dX12_credit_28 rfl (hR0 _ h9)
      · replace h9 := ifF hc4 h9
        refine e_aload_n dX12_credit_18 rfl rfl ?_
        refine e_iload_n dX12_credit_19 rfl rfl ?_
        refine e_iload_n dX12_credit_20 rfl rfl ?_
        obtain ⟨r5, hr5, h9⟩ := elimP hN0 h9
        refine x_callVi (c := 12) (As := [.int p1, .int p2]) (rest := []) okX12_creditOf lkX12_360 rfl (by decide) rfl dX12_credit_21 rfl rfl (Nat.le_of_ble_eq_true rfl) rfl (c_X12_creditOf p1 p2 hr5 (CI.mk ?_))
        refine e_goto (tgt := 28) dX12_credit_24 rfl ?_
        exact x_iret dX12_credit_28 rfl (hR0 _ h9)
noncomputable def b_X12_named_18 (m : VM) (p1 : Int32) (v3 : Int32 × Int32) : (Int32 × Int32) ⊕ (Option (Int32 × VM)) := if 6 ≤ v3.2 then Sum.inr (some (v3.1, m)) else (f_X12_creditOf m p1 v3.2).elim (Sum.inr none) (fun r5 => if r5 ≤ 0 then Sum.inl (v3.1, v3.2 + 1) else (f_X12_creditOf m p1 v3.2).elim (Sum.inr none) (fun r7 => if inb p1 8 = true then if (5 * r7) < (m.2.1 1248 0 p1.toNatClampNeg) then Sum.inl (v3.1, v3.2 + 1) else Sum.inl (v3.1 ||| ((1 : Int32) <<< (v3.2 &&& 31)), v3.2 + 1) else Sum.inr none))
noncomputable def f_X12_named (m : VM) (p1 : Int32) : Option (Int32 × VM) := (f_X12_isPicture m p1).elim none (fun r1 => if r1 = 0 then (f_X12_no m (-1)).elim none (fun r10p => some (r10p.1, r10p.2)) else loopF none (b_X12_named_18 m p1) (0, 0))
theorem c_X12_named {g : GG} {d : Nat} {ad : AD} {x m : VM} {Q : Option Value → VM → VM → Prop} (p1 : Int32) {r9 : Int32} {w9 : VM} (hf : f_X12_named m p1 = some (r9, w9)) (hq : Q (some (.int r9)) x w9) : CX g (d + 1) MX12_named [.ref (ad 12 0), .int p1] ad x m Q := by
  refine CX.to (Lv := [some (.ref (ad 12 0)), some (.int p1), none, none]) okX12_named (Nat.le_of_ble_eq_true rfl) rfl ?_
  obtain ⟨Φ0, hΦ⟩ : ∃ Φ : Option (Int32 × VM) → Prop, Φ = fun o => o = some (r9, w9) := ⟨_, rfl⟩
  have hN0 : Φ0 none → False := by rw [hΦ]; intro h; cases h
  have hR0 : ∀ z9 y9, Φ0 (some (z9, y9)) → Q (some (.int z9)) x y9 := by rw [hΦ]; intro z9 y9 h; cases h; exact hq
  have h9 : Φ0 (f_X12_named m p1) := by rw [hΦ]; exact hf
  clear hf hq hΦ
  unfold f_X12_named at h9
  refine e_aload_n dX12_named_0 rfl rfl ?_
  refine e_iload_n dX12_named_1 rfl rfl ?_
  obtain ⟨r1, hr1, h9⟩ := elimP hN0 h9
  refine x_callVi (c := 12) (As := [.int p1]) (rest := []) okX12_isPicture lkX12_253 rfl (by decide) rfl dX12_named_2 rfl rfl (Nat.le_of_ble_eq_true rfl) rfl (c_X12_isPicture p1 hr1 (CI.mk ?_))
  refine e_if_ne (tgt := 14) dX12_named_5 rfl (fun hc2 => ?_) (fun hc2 => ?_)
  · replace h9 := ifF hc2 h9
    refine e_iconst (v := 0) dX12_named_14 rfl ?_
    refine e_istore_n (L' := [some (.ref (ad 12 0)), some (.int p1), some (.int 0), none]) dX12_named_15 rfl (by decide) rfl ?_
    refine e_iconst (v := 0) dX12_named_16 rfl ?_
    refine e_istore_n (L' := [some (.ref (ad 12 0)), some (.int p1), some (.int 0), some (.int 0)]) dX12_named_17 rfl (by decide) rfl ?_
    refine loop_gen (b_X12_named_18 m p1) none (fun v3 => EX g (d + 1) MX12_named ad x m 18 [some (.ref (ad 12 0)), some (.int p1), some (.int v3.1), some (.int v3.2)] [] Q) Φ0 hN0 (fun v3 Φ1 hB0_1 hO1 h9 => ?_) (0, 0) h9
    have hN1 := fun h => hN0 (hO1 _ h)
    have hR1 := fun r9 x9 h => hR0 r9 x9 (hO1 _ h)
    have hB0_1 : ∀ (z0 : Int32) (z1 : Int32), Φ1 (Sum.inl (z0, z1)) → EX g (d + 1) MX12_named ad x m 18 [some (.ref (ad 12 0)), some (.int p1), some (.int z0), some (.int z1)] [] Q := fun z0 z1 h => hB0_1 (z0, z1) h
    unfold b_X12_named_18 at h9
    refine e_iload_n dX12_named_18 rfl rfl ?_
    refine e_bipush (v := 6) dX12_named_19 rfl ?_
    refine e_icmp_ge (tgt := 62) dX12_named_21 rfl (fun hc4 => ?_) (fun hc4 => ?_)
    · replace h9 := ifT hc4 h9
      refine e_iload_n dX12_named_62 rfl rfl ?_
      exact x_iret dX12_named_63 rfl (hR1 _ _ h9)
    · replace h9 := ifF hc4 h9
      refine e_aload_n dX12_named_24 rfl rfl ?_
      refine e_iload_n dX12_named_25 rfl rfl ?_
      refine e_iload_n dX12_named_26 rfl rfl ?_
      obtain ⟨r5, hr5, h9⟩ := elimP hN1 h9
      refine x_callVi (c := 12) (As := [.int p1, .int v3.2]) (rest := []) okX12_creditOf lkX12_360 rfl (by decide) rfl dX12_named_27 rfl rfl (Nat.le_of_ble_eq_true rfl) rfl (c_X12_creditOf p1 v3.2 hr5 (CI.mk ?_))
      refine e_if_le (tgt := 56) dX12_named_30 rfl (fun hc6 => ?_) (fun hc6 => ?_)
      · replace h9 := ifT hc6 h9
        refine e_iinc (v := (v3.2 + 1)) (L' := [some (.ref (ad 12 0)), some (.int p1), some (.int v3.1), some (.int (v3.2 + 1))]) dX12_named_56 rfl rfl (by decide) rfl ?_
        refine e_goto (tgt := 18) dX12_named_59 rfl ?_
        exact hB0_1 _ _ h9
      · replace h9 := ifF hc6 h9
        refine e_iconst (v := 5) dX12_named_33 rfl ?_
        refine e_aload_n dX12_named_34 rfl rfl ?_
        refine e_iload_n dX12_named_35 rfl rfl ?_
        refine e_iload_n dX12_named_36 rfl rfl ?_
        obtain ⟨r7, hr7, h9⟩ := elimP hN1 h9
        refine x_callVi (c := 12) (As := [.int p1, .int v3.2]) (rest := [.int 5]) okX12_creditOf lkX12_360 rfl (by decide) rfl dX12_named_37 rfl rfl (Nat.le_of_ble_eq_true rfl) rfl (c_X12_creditOf p1 v3.2 hr7 (CI.mk ?_))
        refine e_imul dX12_named_40 ?_
        refine e_aload_n dX12_named_41 rfl rfl ?_
        refine g_1248 flX12_130 dX12_named_42 ?_
        refine e_pc (pc' := 45) rfl ?_
        refine e_iload_n dX12_named_45 rfl rfl ?_
        obtain ⟨k8, h9⟩ := chkP hN1 h9
        refine l_1248 dX12_named_46 (inb_in k8) ?_
        refine e_icmp_lt (tgt := 56) dX12_named_47 rfl (fun hc9 => ?_) (fun hc9 => ?_)
        · replace h9 := ifT hc9 h9
          refine e_iinc (v := (v3.2 + 1)) (L' := [some (.ref (ad 12 0)), some (.int p1), some (.int v3.1), some (.int (v3.2 + 1))]) dX12_named_56 rfl rfl (by decide) rfl ?_
          refine e_goto (tgt := 18) dX12_named_59 rfl ?_
          exact hB0_1 _ _ h9
        · replace h9 := ifF hc9 h9
          refine e_iload_n dX12_named_50 rfl rfl ?_
          refine e_iconst (v := 1) dX12_named_51 rfl ?_
          refine e_iload_n dX12_named_52 rfl rfl ?_
          refine e_ishl dX12_named_53 ?_
          refine e_ior dX12_named_54 ?_
          refine e_istore_n (L' := [some (.ref (ad 12 0)), some (.int p1), some (.int (v3.1 ||| ((1 : Int32) <<< (v3.2 &&& 31)))), some (.int v3.2)]) dX12_named_55 rfl (by decide) rfl ?_
          refine e_iinc (v := (v3.2 + 1)) (L' := [some (.ref (ad 12 0)), some (.int p1), some (.int (v3.1 ||| ((1 : Int32) <<< (v3.2 &&& 31)))), some (.int (v3.2 + 1))]) dX12_named_56 rfl rfl (by decide) rfl ?_
          refine e_goto (tgt := 18) dX12_named_59 rfl ?_
          exact hB0_1 _ _ h9
  · replace h9 := ifT hc2 h9
    refine e_aload_n dX12_named_8 rfl rfl ?_
    refine e_iconst (v := (-1)) dX12_named_9 rfl ?_
    obtain ⟨⟨r10, w11⟩, hr10, h9⟩ := elimP hN0 h9
    refine x_callVi (c := 12) (As := [.int (-1)]) (rest := []) okX12_no lkX12_263 rfl (by decide) rfl dX12_named_10 rfl rfl (Nat.le_of_ble_eq_true rfl) rfl (c_X12_no (-1) hr10 (CI.mk ?_))
    exact x_iret dX12_named_13 rfl (hR0 _ _ h9)
noncomputable def f_X12_code (m : VM) (p1 : Int32) (p2 : Int32) : Option (Int32 × VM) := if p1 < 0 then (f_X12_no m (-1)).elim none (fun r2p => some (r2p.1, r2p.2)) else if p1 ≤ 3 then if p2 < 0 then (f_X12_no m (-6)).elim none (fun r7p => some (r7p.1, r7p.2)) else if p2 ≤ 9 then if inb p1 4 = true then if inb p1 4 = true then some (m.2.1 1251 0 p1.toNatClampNeg, setA m 1251 0 (upd (m.2.1 1251 0) p1.toNatClampNeg p2)) else none else none else (f_X12_no m (-6)).elim none (fun r13p => some (r13p.1, r13p.2)) else (f_X12_no m (-1)).elim none (fun r16p => some (r16p.1, r16p.2))
theorem c_X12_code {g : GG} {d : Nat} {ad : AD} {x m : VM} {Q : Option Value → VM → VM → Prop} (p1 : Int32) (p2 : Int32) {r9 : Int32} {w9 : VM} (hf : f_X12_code m p1 p2 = some (r9, w9)) (hq : Q (some (.int r9)) x w9) : CX g (d + 1) MX12_code [.ref (ad 12 0), .int p1, .int p2] ad x m Q := by
  refine CX.to (Lv := [some (.ref (ad 12 0)), some (.int p1), some (.int p2), none]) okX12_code (Nat.le_of_ble_eq_true rfl) rfl ?_
  obtain ⟨Φ0, hΦ⟩ : ∃ Φ : Option (Int32 × VM) → Prop, Φ = fun o => o = some (r9, w9) := ⟨_, rfl⟩
  have hN0 : Φ0 none → False := by rw [hΦ]; intro h; cases h
  have hR0 : ∀ z9 y9, Φ0 (some (z9, y9)) → Q (some (.int z9)) x y9 := by rw [hΦ]; intro z9 y9 h; cases h; exact hq
  have h9 : Φ0 (f_X12_code m p1 p2) := by rw [hΦ]; exact hf
  clear hf hq hΦ
  unfold f_X12_code at h9
  refine e_iload_n dX12_code_0 rfl rfl ?_
  refine e_if_lt (tgt := 9) dX12_code_1 rfl (fun hc1 => ?_) (fun hc1 => ?_)
  · replace h9 := ifT hc1 h9
    refine e_aload_n dX12_code_9 rfl rfl ?_
    refine e_iconst (v := (-1)) dX12_code_10 rfl ?_
    obtain ⟨⟨r2, w3⟩, hr2, h9⟩ := elimP hN0 h9
    refine x_callVi (c := 12) (As := [.int (-1)]) (rest := []) okX12_no lkX12_263 rfl (by decide) rfl dX12_code_11 rfl rfl (Nat.le_of_ble_eq_true rfl) rfl (c_X12_no (-1) hr2 (CI.mk ?_))
    exact x_iret dX12_code_14 rfl (hR0 _ _ h9)
  · replace h9 := ifF hc1 h9
    refine e_iload_n dX12_code_4 rfl rfl ?_
    refine e_iconst (v := 3) dX12_code_5 rfl ?_
    refine e_icmp_le (tgt := 15) dX12_code_6 rfl (fun hc5 => ?_) (fun hc5 => ?_)
    · replace h9 := ifT hc5 h9
      refine e_iload_n dX12_code_15 rfl rfl ?_
      refine e_if_lt (tgt := 25) dX12_code_16 rfl (fun hc6 => ?_) (fun hc6 => ?_)
      · replace h9 := ifT hc6 h9
        refine e_aload_n dX12_code_25 rfl rfl ?_
        refine e_bipush (v := (-6)) dX12_code_26 rfl ?_
        obtain ⟨⟨r7, w8⟩, hr7, h9⟩ := elimP hN0 h9
        refine x_callVi (c := 12) (As := [.int (-6)]) (rest := []) okX12_no lkX12_263 rfl (by decide) rfl dX12_code_28 rfl rfl (Nat.le_of_ble_eq_true rfl) rfl (c_X12_no (-6) hr7 (CI.mk ?_))
        exact x_iret dX12_code_31 rfl (hR0 _ _ h9)
      · replace h9 := ifF hc6 h9
        refine e_iload_n dX12_code_19 rfl rfl ?_
        refine e_bipush (v := 9) dX12_code_20 rfl ?_
        refine e_icmp_le (tgt := 32) dX12_code_22 rfl (fun hc10 => ?_) (fun hc10 => ?_)
        · replace h9 := ifT hc10 h9
          refine e_aload_n dX12_code_32 rfl rfl ?_
          refine g_1251 flX12_139 dX12_code_33 ?_
          refine e_iload_n dX12_code_36 rfl rfl ?_
          obtain ⟨k11, h9⟩ := chkP hN0 h9
          refine l_1251 dX12_code_37 (inb_in k11) ?_
          refine e_istore_n (L' := [some (.ref (ad 12 0)), some (.int p1), some (.int p2), some (.int (m.2.1 1251 0 p1.toNatClampNeg))]) dX12_code_38 rfl (by decide) rfl ?_
          refine e_aload_n dX12_code_39 rfl rfl ?_
          refine g_1251 flX12_139 dX12_code_40 ?_
          refine e_iload_n dX12_code_43 rfl rfl ?_
          refine e_pc (pc' := 44) rfl ?_
          refine e_iload_n dX12_code_44 rfl rfl ?_
          obtain ⟨k12, h9⟩ := chkP hN0 h9
          refine s_1251 dX12_code_45 (inb_in k12) ?_
          refine e_iload_n dX12_code_46 rfl rfl ?_
          exact x_iret dX12_code_47 rfl (hR0 _ _ h9)
        · replace h9 := ifF hc10 h9
          refine e_aload_n dX12_code_25 rfl rfl ?_
          refine e_bipush (v := (-6)) dX12_code_26 rfl ?_
          obtain ⟨⟨r13, w14⟩, hr13, h9⟩ := elimP hN0 h9
          refine x_callVi (c := 12) (As := [.int (-6)]) (rest := []) okX12_no lkX12_263 rfl (by decide) rfl dX12_code_28 rfl rfl (Nat.le_of_ble_eq_true rfl) rfl (c_X12_no (-6) hr13 (CI.mk ?_))
          exact x_iret dX12_code_31 rfl (hR0 _ _ h9)
    · replace h9 := ifF hc5 h9
      refine e_aload_n dX12_code_9 rfl rfl ?_
      refine e_iconst (v := (-1)) dX12_code_10 rfl ?_
      obtain ⟨⟨r16, w17⟩, hr16, h9⟩ := elimP hN0 h9
      refine x_callVi (c := 12) (As := [.int (-1)]) (rest := []) okX12_no lkX12_263 rfl (by decide) rfl dX12_code_11 rfl rfl (Nat.le_of_ble_eq_true rfl) rfl (c_X12_no (-1) hr16 (CI.mk ?_))
      exact x_iret dX12_code_14 rfl (hR0 _ _ h9)
noncomputable def b_X12_barred_20 (m : VM) (p1 : Int32) (p2 : Int32) (v3 : Int32 × Int32) : (Int32 × Int32) ⊕ (Option (Int32 × VM)) := if 4 ≤ v3.2 then Sum.inr (some (v3.1, m)) else if inb ((4 * ((8 * p1) + p2)) + v3.2) 256 = true then if inb v3.2 4 = true then if (m.2.1 1239 0 (((4 * ((8 * p1) + p2)) + v3.2).toNatClampNeg)) ≤ (m.2.1 1251 0 v3.2.toNatClampNeg) then Sum.inl (v3.1, v3.2 + 1) else Sum.inl (v3.1 ||| ((1 : Int32) <<< (v3.2 &&& 31)), v3.2 + 1) else Sum.inr none else Sum.inr none
noncomputable def f_X12_barred (m : VM) (p1 : Int32) (p2 : Int32) : Option (Int32 × VM) := (f_X12_isScene m p1 p2).elim none (fun r1 => if r1 = 0 then (f_X12_no m (-1)).elim none (fun r8p => some (r8p.1, r8p.2)) else loopF none (b_X12_barred_20 m p1 p2) (0, 0))
theorem c_X12_barred {g : GG} {d : Nat} {ad : AD} {x m : VM} {Q : Option Value → VM → VM → Prop} (p1 : Int32) (p2 : Int32) {r9 : Int32} {w9 : VM} (hf : f_X12_barred m p1 p2 = some (r9, w9)) (hq : Q (some (.int r9)) x w9) : CX g (d + 2) MX12_barred [.ref (ad 12 0), .int p1, .int p2] ad x m Q := by
  refine CX.to (Lv := [some (.ref (ad 12 0)), some (.int p1), some (.int p2), none, none]) okX12_barred (Nat.le_of_ble_eq_true rfl) rfl ?_
  obtain ⟨Φ0, hΦ⟩ : ∃ Φ : Option (Int32 × VM) → Prop, Φ = fun o => o = some (r9, w9) := ⟨_, rfl⟩
  have hN0 : Φ0 none → False := by rw [hΦ]; intro h; cases h
  have hR0 : ∀ z9 y9, Φ0 (some (z9, y9)) → Q (some (.int z9)) x y9 := by rw [hΦ]; intro z9 y9 h; cases h; exact hq
  have h9 : Φ0 (f_X12_barred m p1 p2) := by rw [hΦ]; exact hf
  clear hf hq hΦ
  unfold f_X12_barred at h9
  refine e_aload_n dX12_barred_0 rfl rfl ?_
  refine e_iload_n dX12_barred_1 rfl rfl ?_
  refine e_iload_n dX12_barred_2 rfl rfl ?_
  obtain ⟨r1, hr1, h9⟩ := elimP hN0 h9
  refine x_callVi (c := 12) (As := [.int p1, .int p2]) (rest := []) okX12_isScene lkX12_312 rfl (by decide) rfl dX12_barred_3 rfl rfl (Nat.le_of_ble_eq_true rfl) rfl (c_X12_isScene p1 p2 hr1 (CI.mk ?_))
  refine e_if_ne (tgt := 15) dX12_barred_6 rfl (fun hc2 => ?_) (fun hc2 => ?_)
  · replace h9 := ifF hc2 h9
    refine e_iconst (v := 0) dX12_barred_15 rfl ?_
    refine e_istore_n (L' := [some (.ref (ad 12 0)), some (.int p1), some (.int p2), some (.int 0), none]) dX12_barred_16 rfl (by decide) rfl ?_
    refine e_iconst (v := 0) dX12_barred_17 rfl ?_
    refine e_istore (L' := [some (.ref (ad 12 0)), some (.int p1), some (.int p2), some (.int 0), some (.int 0)]) dX12_barred_18 (by decide) rfl ?_
    refine loop_gen (b_X12_barred_20 m p1 p2) none (fun v3 => EX g (d + 2) MX12_barred ad x m 20 [some (.ref (ad 12 0)), some (.int p1), some (.int p2), some (.int v3.1), some (.int v3.2)] [] Q) Φ0 hN0 (fun v3 Φ1 hB0_1 hO1 h9 => ?_) (0, 0) h9
    have hN1 := fun h => hN0 (hO1 _ h)
    have hR1 := fun r9 x9 h => hR0 r9 x9 (hO1 _ h)
    have hB0_1 : ∀ (z0 : Int32) (z1 : Int32), Φ1 (Sum.inl (z0, z1)) → EX g (d + 2) MX12_barred ad x m 20 [some (.ref (ad 12 0)), some (.int p1), some (.int p2), some (.int z0), some (.int z1)] [] Q := fun z0 z1 h => hB0_1 (z0, z1) h
    unfold b_X12_barred_20 at h9
    refine e_iload dX12_barred_20 rfl ?_
    refine e_iconst (v := 4) dX12_barred_22 rfl ?_
    refine e_icmp_ge (tgt := 65) dX12_barred_23 rfl (fun hc4 => ?_) (fun hc4 => ?_)
    · replace h9 := ifT hc4 h9
      refine e_iload_n dX12_barred_65 rfl rfl ?_
      exact x_iret dX12_barred_66 rfl (hR1 _ _ h9)
    · replace h9 := ifF hc4 h9
      refine e_aload_n dX12_barred_26 rfl rfl ?_
      refine g_1239 flX12_103 dX12_barred_27 ?_
      refine e_iconst (v := 4) dX12_barred_30 rfl ?_
      refine e_bipush (v := 8) dX12_barred_31 rfl ?_
      refine e_iload_n dX12_barred_33 rfl rfl ?_
      refine e_imul dX12_barred_34 ?_
      refine e_iload_n dX12_barred_35 rfl rfl ?_
      refine e_iadd dX12_barred_36 ?_
      refine e_pc (pc' := 37) rfl ?_
      refine e_imul dX12_barred_37 ?_
      refine e_iload dX12_barred_38 rfl ?_
      refine e_iadd dX12_barred_40 ?_
      obtain ⟨k5, h9⟩ := chkP hN1 h9
      refine l_1239 dX12_barred_41 (inb_in k5) ?_
      refine e_aload_n dX12_barred_42 rfl rfl ?_
      refine g_1251 flX12_139 dX12_barred_43 ?_
      refine e_iload dX12_barred_46 rfl ?_
      obtain ⟨k6, h9⟩ := chkP hN1 h9
      refine l_1251 dX12_barred_48 (inb_in k6) ?_
      refine e_icmp_le (tgt := 59) dX12_barred_49 rfl (fun hc7 => ?_) (fun hc7 => ?_)
      · replace h9 := ifT hc7 h9
        refine e_iinc (v := (v3.2 + 1)) (L' := [some (.ref (ad 12 0)), some (.int p1), some (.int p2), some (.int v3.1), some (.int (v3.2 + 1))]) dX12_barred_59 rfl rfl (by decide) rfl ?_
        refine e_goto (tgt := 20) dX12_barred_62 rfl ?_
        exact hB0_1 _ _ h9
      · replace h9 := ifF hc7 h9
        refine e_iload_n dX12_barred_52 rfl rfl ?_
        refine e_iconst (v := 1) dX12_barred_53 rfl ?_
        refine e_iload dX12_barred_54 rfl ?_
        refine e_ishl dX12_barred_56 ?_
        refine e_ior dX12_barred_57 ?_
        refine e_istore_n (L' := [some (.ref (ad 12 0)), some (.int p1), some (.int p2), some (.int (v3.1 ||| ((1 : Int32) <<< (v3.2 &&& 31)))), some (.int v3.2)]) dX12_barred_58 rfl (by decide) rfl ?_
        refine e_iinc (v := (v3.2 + 1)) (L' := [some (.ref (ad 12 0)), some (.int p1), some (.int p2), some (.int (v3.1 ||| ((1 : Int32) <<< (v3.2 &&& 31)))), some (.int (v3.2 + 1))]) dX12_barred_59 rfl rfl (by decide) rfl ?_
        refine e_goto (tgt := 20) dX12_barred_62 rfl ?_
        exact hB0_1 _ _ h9
  · replace h9 := ifT hc2 h9
    refine e_aload_n dX12_barred_9 rfl rfl ?_
    refine e_iconst (v := (-1)) dX12_barred_10 rfl ?_
    obtain ⟨⟨r8, w9⟩, hr8, h9⟩ := elimP hN0 h9
    refine x_callVi (c := 12) (As := [.int (-1)]) (rest := []) okX12_no lkX12_263 rfl (by decide) rfl dX12_barred_11 rfl rfl (Nat.le_of_ble_eq_true rfl) rfl (c_X12_no (-1) hr8 (CI.mk ?_))
    exact x_iret dX12_barred_14 rfl (hR0 _ _ h9)
noncomputable def b_X12_mend_31 (m : VM) (p1 : Int32) (v3 : Int32 × Int32) (v6 : Int32 × Int32) : (Int32 × Int32) ⊕ ((Int32 × Int32) ⊕ (Option (Int32 × VM))) := if 4 ≤ v6.2 then Sum.inr (Sum.inl (v6.1, v3.2 + 1)) else if inb ((4 * ((8 * p1) + v3.2)) + v6.2) 256 = true then if inb v6.2 4 = true then if ((m.2.1 1239 0 (((4 * ((8 * p1) + v3.2)) + v6.2).toNatClampNeg)) - (m.2.1 1251 0 v6.2.toNatClampNeg)) ≤ 0 then Sum.inl (v6.1, v6.2 + 1) else Sum.inl (v6.1 + ((m.2.1 1239 0 (((4 * ((8 * p1) + v3.2)) + v6.2).toNatClampNeg)) - (m.2.1 1251 0 v6.2.toNatClampNeg)), v6.2 + 1) else Sum.inr (Sum.inr none) else Sum.inr (Sum.inr none)
noncomputable def b_X12_mend_18 (m : VM) (p1 : Int32) (v3 : Int32 × Int32) : (Int32 × Int32) ⊕ (Option (Int32 × VM)) := if inb p1 8 = true then if (m.2.1 1235 0 p1.toNatClampNeg) ≤ v3.2 then Sum.inr (some (v3.1, m)) else loopF (Sum.inr none) (b_X12_mend_31 m p1 v3) (v3.1, 0) else Sum.inr none
noncomputable def f_X12_mend (m : VM) (p1 : Int32) : Option (Int32 × VM) := (f_X12_isPicture m p1).elim none (fun r1 => if r1 = 0 then (f_X12_no m (-1)).elim none (fun r11p => some (r11p.1, r11p.2)) else loopF none (b_X12_mend_18 m p1) (0, 0))
theorem c_X12_mend {g : GG} {d : Nat} {ad : AD} {x m : VM} {Q : Option Value → VM → VM → Prop} (p1 : Int32) {r9 : Int32} {w9 : VM} (hf : f_X12_mend m p1 = some (r9, w9)) (hq : Q (some (.int r9)) x w9) : CX g (d + 1) MX12_mend [.ref (ad 12 0), .int p1] ad x m Q := by
  refine CX.to (Lv := [some (.ref (ad 12 0)), some (.int p1), none, none, none, none]) okX12_mend (Nat.le_of_ble_eq_true rfl) rfl ?_
  obtain ⟨Φ0, hΦ⟩ : ∃ Φ : Option (Int32 × VM) → Prop, Φ = fun o => o = some (r9, w9) := ⟨_, rfl⟩
  have hN0 : Φ0 none → False := by rw [hΦ]; intro h; cases h
  have hR0 : ∀ z9 y9, Φ0 (some (z9, y9)) → Q (some (.int z9)) x y9 := by rw [hΦ]; intro z9 y9 h; cases h; exact hq
  have h9 : Φ0 (f_X12_mend m p1) := by rw [hΦ]; exact hf
  clear hf hq hΦ
  unfold f_X12_mend at h9
  refine e_aload_n dX12_mend_0 rfl rfl ?_
  refine e_iload_n dX12_mend_1 rfl rfl ?_
  obtain ⟨r1, hr1, h9⟩ := elimP hN0 h9
  refine x_callVi (c := 12) (As := [.int p1]) (rest := []) okX12_isPicture lkX12_253 rfl (by decide) rfl dX12_mend_2 rfl rfl (Nat.le_of_ble_eq_true rfl) rfl (c_X12_isPicture p1 hr1 (CI.mk ?_))
  refine e_if_ne (tgt := 14) dX12_mend_5 rfl (fun hc2 => ?_) (fun hc2 => ?_)
  · replace h9 := ifF hc2 h9
    refine e_iconst (v := 0) dX12_mend_14 rfl ?_
    refine e_istore_n (L' := [some (.ref (ad 12 0)), some (.int p1), some (.int 0), none, none, none]) dX12_mend_15 rfl (by decide) rfl ?_
    refine e_iconst (v := 0) dX12_mend_16 rfl ?_
    refine e_istore_n (L' := [some (.ref (ad 12 0)), some (.int p1), some (.int 0), some (.int 0), none, none]) dX12_mend_17 rfl (by decide) rfl ?_
    refine loop_gen (b_X12_mend_18 m p1) none (fun v3 => EX g (d + 1) MX12_mend ad x m 18 [some (.ref (ad 12 0)), some (.int p1), some (.int v3.1), some (.int v3.2), none, none] [] Q) Φ0 hN0 (fun v3 Φ1 hB0_1 hO1 h9 => ?_) (0, 0) h9
    have hN1 := fun h => hN0 (hO1 _ h)
    have hR1 := fun r9 x9 h => hR0 r9 x9 (hO1 _ h)
    have hB0_1 : ∀ (z0 : Int32) (z1 : Int32), Φ1 (Sum.inl (z0, z1)) → EX g (d + 1) MX12_mend ad x m 18 [some (.ref (ad 12 0)), some (.int p1), some (.int z0), some (.int z1), none, none] [] Q := fun z0 z1 h => hB0_1 (z0, z1) h
    unfold b_X12_mend_18 at h9
    refine e_iload_n dX12_mend_18 rfl rfl ?_
    refine e_aload_n dX12_mend_19 rfl rfl ?_
    refine g_1235 flX12_91 dX12_mend_20 ?_
    refine e_iload_n dX12_mend_23 rfl rfl ?_
    obtain ⟨k4, h9⟩ := chkP hN1 h9
    refine l_1235 dX12_mend_24 (inb_in k4) ?_
    refine e_icmp_ge (tgt := 85) dX12_mend_25 rfl (fun hc5 => ?_) (fun hc5 => ?_)
    · replace h9 := ifT hc5 h9
      refine e_iload_n dX12_mend_85 rfl rfl ?_
      exact x_iret dX12_mend_86 rfl (hR1 _ _ h9)
    · replace h9 := ifF hc5 h9
      refine e_iconst (v := 0) dX12_mend_28 rfl ?_
      refine e_istore (L' := [some (.ref (ad 12 0)), some (.int p1), some (.int v3.1), some (.int v3.2), some (.int 0), none]) dX12_mend_29 (by decide) rfl ?_
      refine loop_gen (b_X12_mend_31 m p1 v3) (Sum.inr none) (fun v6 => EX g (d + 1) MX12_mend ad x m 31 [some (.ref (ad 12 0)), some (.int p1), some (.int v6.1), some (.int v3.2), some (.int v6.2), none] [] Q) Φ1 hN1 (fun v6 Φ2 hB1_2 hO2 h9 => ?_) (v3.1, 0) h9
      have hN2 := fun h => hN1 (hO2 _ h)
      have hR2 := fun r9 x9 h => hR1 r9 x9 (hO2 _ h)
      have hB0_2 : ∀ (z0 : Int32) (z1 : Int32), Φ2 (Sum.inr (Sum.inl (z0, z1))) → EX g (d + 1) MX12_mend ad x m 18 [some (.ref (ad 12 0)), some (.int p1), some (.int z0), some (.int z1), none, none] [] Q := fun z0 z1 h => hB0_1 z0 z1 (hO2 _ h)
      have hB1_2 : ∀ (z0 : Int32) (z1 : Int32), Φ2 (Sum.inl (z0, z1)) → EX g (d + 1) MX12_mend ad x m 31 [some (.ref (ad 12 0)), some (.int p1), some (.int z0), some (.int v3.2), some (.int z1), none] [] Q := fun z0 z1 h => hB1_2 (z0, z1) h
      unfold b_X12_mend_31 at h9
      refine e_iload dX12_mend_31 rfl ?_
      refine e_iconst (v := 4) dX12_mend_33 rfl ?_
      refine e_icmp_ge (tgt := 79) dX12_mend_34 rfl (fun hc7 => ?_) (fun hc7 => ?_)
      · replace h9 := ifT hc7 h9
        refine e_iinc (v := (v3.2 + 1)) (L' := [some (.ref (ad 12 0)), some (.int p1), some (.int v6.1), some (.int (v3.2 + 1)), some (.int v6.2), none]) dX12_mend_79 rfl rfl (by decide) rfl ?_
        refine e_goto (tgt := 18) dX12_mend_82 rfl ?_
        refine e_wk (L' := [some (.ref (ad 12 0)), some (.int p1), some (.int v6.1), some (.int (v3.2 + 1)), none, none]) (wkC (wkC (wkC (wkC (wkN (wkN wk0)))))) ?_
        exact hB0_2 _ _ h9
      · replace h9 := ifF hc7 h9
        refine e_aload_n dX12_mend_37 rfl rfl ?_
        refine g_1239 flX12_103 dX12_mend_38 ?_
        refine e_iconst (v := 4) dX12_mend_41 rfl ?_
        refine e_bipush (v := 8) dX12_mend_42 rfl ?_
        refine e_iload_n dX12_mend_44 rfl rfl ?_
        refine e_imul dX12_mend_45 ?_
        refine e_iload_n dX12_mend_46 rfl rfl ?_
        refine e_iadd dX12_mend_47 ?_
        refine e_pc (pc' := 48) rfl ?_
        refine e_imul dX12_mend_48 ?_
        refine e_iload dX12_mend_49 rfl ?_
        refine e_iadd dX12_mend_51 ?_
        obtain ⟨k8, h9⟩ := chkP hN2 h9
        refine l_1239 dX12_mend_52 (inb_in k8) ?_
        refine e_aload_n dX12_mend_53 rfl rfl ?_
        refine g_1251 flX12_139 dX12_mend_54 ?_
        refine e_iload dX12_mend_57 rfl ?_
        obtain ⟨k9, h9⟩ := chkP hN2 h9
        refine l_1251 dX12_mend_59 (inb_in k9) ?_
        refine e_isub dX12_mend_60 ?_
        refine e_pc (pc' := 61) rfl ?_
        refine e_istore (L' := [some (.ref (ad 12 0)), some (.int p1), some (.int v6.1), some (.int v3.2), some (.int v6.2), some (.int ((m.2.1 1239 0 (((4 * ((8 * p1) + v3.2)) + v6.2).toNatClampNeg)) - (m.2.1 1251 0 v6.2.toNatClampNeg)))]) dX12_mend_61 (by decide) rfl ?_
        refine e_iload dX12_mend_63 rfl ?_
        refine e_if_le (tgt := 73) dX12_mend_65 rfl (fun hc10 => ?_) (fun hc10 => ?_)
        · replace h9 := ifT hc10 h9
          refine e_iinc (v := (v6.2 + 1)) (L' := [some (.ref (ad 12 0)), some (.int p1), some (.int v6.1), some (.int v3.2), some (.int (v6.2 + 1)), some (.int ((m.2.1 1239 0 (((4 * ((8 * p1) + v3.2)) + v6.2).toNatClampNeg)) - (m.2.1 1251 0 v6.2.toNatClampNeg)))]) dX12_mend_73 rfl rfl (by decide) rfl ?_
          refine e_goto (tgt := 31) dX12_mend_76 rfl ?_
          refine e_wk (L' := [some (.ref (ad 12 0)), some (.int p1), some (.int v6.1), some (.int v3.2), some (.int (v6.2 + 1)), none]) (wkC (wkC (wkC (wkC (wkC (wkN wk0)))))) ?_
          exact hB1_2 _ _ h9
        · replace h9 := ifF hc10 h9
          refine e_iload_n dX12_mend_68 rfl rfl ?_
          refine e_iload dX12_mend_69 rfl ?_
          refine e_iadd dX12_mend_71 ?_
          refine e_istore_n (L' := [some (.ref (ad 12 0)), some (.int p1), some (.int (v6.1 + ((m.2.1 1239 0 (((4 * ((8 * p1) + v3.2)) + v6.2).toNatClampNeg)) - (m.2.1 1251 0 v6.2.toNatClampNeg)))), some (.int v3.2), some (.int v6.2), some (.int ((m.2.1 1239 0 (((4 * ((8 * p1) + v3.2)) + v6.2).toNatClampNeg)) - (m.2.1 1251 0 v6.2.toNatClampNeg)))]) dX12_mend_72 rfl (by decide) rfl ?_
          refine e_iinc (v := (v6.2 + 1)) (L' := [some (.ref (ad 12 0)), some (.int p1), some (.int (v6.1 + ((m.2.1 1239 0 (((4 * ((8 * p1) + v3.2)) + v6.2).toNatClampNeg)) - (m.2.1 1251 0 v6.2.toNatClampNeg)))), some (.int v3.2), some (.int (v6.2 + 1)), some (.int ((m.2.1 1239 0 (((4 * ((8 * p1) + v3.2)) + v6.2).toNatClampNeg)) - (m.2.1 1251 0 v6.2.toNatClampNeg)))]) dX12_mend_73 rfl rfl (by decide) rfl ?_
          refine e_goto (tgt := 31) dX12_mend_76 rfl ?_
          refine e_wk (L' := [some (.ref (ad 12 0)), some (.int p1), some (.int (v6.1 + ((m.2.1 1239 0 (((4 * ((8 * p1) + v3.2)) + v6.2).toNatClampNeg)) - (m.2.1 1251 0 v6.2.toNatClampNeg)))), some (.int v3.2), some (.int (v6.2 + 1)), none]) (wkC (wkC (wkC (wkC (wkC (wkN wk0)))))) ?_
          exact hB1_2 _ _ h9
  · replace h9 := ifT hc2 h9
    refine e_aload_n dX12_mend_8 rfl rfl ?_
    refine e_iconst (v := (-1)) dX12_mend_9 rfl ?_
    obtain ⟨⟨r11, w12⟩, hr11, h9⟩ := elimP hN0 h9
    refine x_callVi (c := 12) (As := [.int (-1)]) (rest := []) okX12_no lkX12_263 rfl (by decide) rfl dX12_mend_10 rfl rfl (Nat.le_of_ble_eq_true rfl) rfl (c_X12_no (-1) hr11 (CI.mk ?_))
    exact x_iret dX12_mend_13 rfl (hR0 _ _ h9)
noncomputable def f_X12_take (m : VM) (p1 : Int32) (p2 : Int32) (p3 : Int32) (p4 : Int32) (p5 : Int32) : Option (Int32 × VM) := (f_X12_isScene m p1 p2).elim none (fun r1 => if r1 = 0 then (f_X12_no m (-1)).elim none (fun r40p => some (r40p.1, r40p.2)) else if p3 < 1 then (f_X12_no m (-6)).elim none (fun r4p => some (r4p.1, r4p.2)) else if 99 < p3 then (f_X12_no m (-6)).elim none (fun r8p => some (r8p.1, r8p.2)) else if p4 < 0 then (f_X12_no m (-6)).elim none (fun r12p => some (r12p.1, r12p.2)) else if 99 < p4 then (f_X12_no m (-6)).elim none (fun r16p => some (r16p.1, r16p.2)) else if p5 < 0 then (f_X12_no m (-6)).elim none (fun r20p => some (r20p.1, r20p.2)) else if p5 ≤ 99 then if inb ((8 * p1) + p2) 64 = true then if (m.2.1 1252 0 (((8 * p1) + p2).toNatClampNeg)) = 4 then (f_X12_no m (-7)).elim none (fun r34p => some (r34p.1, r34p.2)) else if inb ((8 * p1) + p2) 64 = true then if inb ((4 * ((8 * p1) + p2)) + (m.2.1 1252 0 (((8 * p1) + p2).toNatClampNeg))) 256 = true then if inb ((8 * p1) + p2) 64 = true then if inb ((4 * ((8 * p1) + p2)) + ((setA m 1253 0 (upd (m.2.1 1253 0) (((4 * ((8 * p1) + p2)) + (m.2.1 1252 0 (((8 * p1) + p2).toNatClampNeg))).toNatClampNeg) p3)).2.1 1252 0 (((8 * p1) + p2).toNatClampNeg))) 256 = true then if inb ((8 * p1) + p2) 64 = true then if inb ((4 * ((8 * p1) + p2)) + ((setA (setA m 1253 0 (upd (m.2.1 1253 0) (((4 * ((8 * p1) + p2)) + (m.2.1 1252 0 (((8 * p1) + p2).toNatClampNeg))).toNatClampNeg) p3)) 1254 0 (upd ((setA m 1253 0 (upd (m.2.1 1253 0) (((4 * ((8 * p1) + p2)) + (m.2.1 1252 0 (((8 * p1) + p2).toNatClampNeg))).toNatClampNeg) p3)).2.1 1254 0) (((4 * ((8 * p1) + p2)) + ((setA m 1253 0 (upd (m.2.1 1253 0) (((4 * ((8 * p1) + p2)) + (m.2.1 1252 0 (((8 * p1) + p2).toNatClampNeg))).toNatClampNeg) p3)).2.1 1252 0 (((8 * p1) + p2).toNatClampNeg))).toNatClampNeg) p4)).2.1 1252 0 (((8 * p1) + p2).toNatClampNeg))) 256 = true then if inb ((8 * p1) + p2) 64 = true then if inb ((8 * p1) + p2) 64 = true then some ((setA (setA (setA m 1253 0 (upd (m.2.1 1253 0) (((4 * ((8 * p1) + p2)) + (m.2.1 1252 0 (((8 * p1) + p2).toNatClampNeg))).toNatClampNeg) p3)) 1254 0 (upd ((setA m 1253 0 (upd (m.2.1 1253 0) (((4 * ((8 * p1) + p2)) + (m.2.1 1252 0 (((8 * p1) + p2).toNatClampNeg))).toNatClampNeg) p3)).2.1 1254 0) (((4 * ((8 * p1) + p2)) + ((setA m 1253 0 (upd (m.2.1 1253 0) (((4 * ((8 * p1) + p2)) + (m.2.1 1252 0 (((8 * p1) + p2).toNatClampNeg))).toNatClampNeg) p3)).2.1 1252 0 (((8 * p1) + p2).toNatClampNeg))).toNatClampNeg) p4)) 1255 0 (upd ((setA (setA m 1253 0 (upd (m.2.1 1253 0) (((4 * ((8 * p1) + p2)) + (m.2.1 1252 0 (((8 * p1) + p2).toNatClampNeg))).toNatClampNeg) p3)) 1254 0 (upd ((setA m 1253 0 (upd (m.2.1 1253 0) (((4 * ((8 * p1) + p2)) + (m.2.1 1252 0 (((8 * p1) + p2).toNatClampNeg))).toNatClampNeg) p3)).2.1 1254 0) (((4 * ((8 * p1) + p2)) + ((setA m 1253 0 (upd (m.2.1 1253 0) (((4 * ((8 * p1) + p2)) + (m.2.1 1252 0 (((8 * p1) + p2).toNatClampNeg))).toNatClampNeg) p3)).2.1 1252 0 (((8 * p1) + p2).toNatClampNeg))).toNatClampNeg) p4)).2.1 1255 0) (((4 * ((8 * p1) + p2)) + ((setA (setA m 1253 0 (upd (m.2.1 1253 0) (((4 * ((8 * p1) + p2)) + (m.2.1 1252 0 (((8 * p1) + p2).toNatClampNeg))).toNatClampNeg) p3)) 1254 0 (upd ((setA m 1253 0 (upd (m.2.1 1253 0) (((4 * ((8 * p1) + p2)) + (m.2.1 1252 0 (((8 * p1) + p2).toNatClampNeg))).toNatClampNeg) p3)).2.1 1254 0) (((4 * ((8 * p1) + p2)) + ((setA m 1253 0 (upd (m.2.1 1253 0) (((4 * ((8 * p1) + p2)) + (m.2.1 1252 0 (((8 * p1) + p2).toNatClampNeg))).toNatClampNeg) p3)).2.1 1252 0 (((8 * p1) + p2).toNatClampNeg))).toNatClampNeg) p4)).2.1 1252 0 (((8 * p1) + p2).toNatClampNeg))).toNatClampNeg) p5)).2.1 1252 0 (((8 * p1) + p2).toNatClampNeg), setA (setA (setA (setA m 1253 0 (upd (m.2.1 1253 0) (((4 * ((8 * p1) + p2)) + (m.2.1 1252 0 (((8 * p1) + p2).toNatClampNeg))).toNatClampNeg) p3)) 1254 0 (upd ((setA m 1253 0 (upd (m.2.1 1253 0) (((4 * ((8 * p1) + p2)) + (m.2.1 1252 0 (((8 * p1) + p2).toNatClampNeg))).toNatClampNeg) p3)).2.1 1254 0) (((4 * ((8 * p1) + p2)) + ((setA m 1253 0 (upd (m.2.1 1253 0) (((4 * ((8 * p1) + p2)) + (m.2.1 1252 0 (((8 * p1) + p2).toNatClampNeg))).toNatClampNeg) p3)).2.1 1252 0 (((8 * p1) + p2).toNatClampNeg))).toNatClampNeg) p4)) 1255 0 (upd ((setA (setA m 1253 0 (upd (m.2.1 1253 0) (((4 * ((8 * p1) + p2)) + (m.2.1 1252 0 (((8 * p1) + p2).toNatClampNeg))).toNatClampNeg) p3)) 1254 0 (upd ((setA m 1253 0 (upd (m.2.1 1253 0) (((4 * ((8 * p1) + p2)) + (m.2.1 1252 0 (((8 * p1) + p2).toNatClampNeg))).toNatClampNeg) p3)).2.1 1254 0) (((4 * ((8 * p1) + p2)) + ((setA m 1253 0 (upd (m.2.1 1253 0) (((4 * ((8 * p1) + p2)) + (m.2.1 1252 0 (((8 * p1) + p2).toNatClampNeg))).toNatClampNeg) p3)).2.1 1252 0 (((8 * p1) + p2).toNatClampNeg))).toNatClampNeg) p4)).2.1 1255 0) (((4 * ((8 * p1) + p2)) + ((setA (setA m 1253 0 (upd (m.2.1 1253 0) (((4 * ((8 * p1) + p2)) + (m.2.1 1252 0 (((8 * p1) + p2).toNatClampNeg))).toNatClampNeg) p3)) 1254 0 (upd ((setA m 1253 0 (upd (m.2.1 1253 0) (((4 * ((8 * p1) + p2)) + (m.2.1 1252 0 (((8 * p1) + p2).toNatClampNeg))).toNatClampNeg) p3)).2.1 1254 0) (((4 * ((8 * p1) + p2)) + ((setA m 1253 0 (upd (m.2.1 1253 0) (((4 * ((8 * p1) + p2)) + (m.2.1 1252 0 (((8 * p1) + p2).toNatClampNeg))).toNatClampNeg) p3)).2.1 1252 0 (((8 * p1) + p2).toNatClampNeg))).toNatClampNeg) p4)).2.1 1252 0 (((8 * p1) + p2).toNatClampNeg))).toNatClampNeg) p5)) 1252 0 (upd ((setA (setA (setA m 1253 0 (upd (m.2.1 1253 0) (((4 * ((8 * p1) + p2)) + (m.2.1 1252 0 (((8 * p1) + p2).toNatClampNeg))).toNatClampNeg) p3)) 1254 0 (upd ((setA m 1253 0 (upd (m.2.1 1253 0) (((4 * ((8 * p1) + p2)) + (m.2.1 1252 0 (((8 * p1) + p2).toNatClampNeg))).toNatClampNeg) p3)).2.1 1254 0) (((4 * ((8 * p1) + p2)) + ((setA m 1253 0 (upd (m.2.1 1253 0) (((4 * ((8 * p1) + p2)) + (m.2.1 1252 0 (((8 * p1) + p2).toNatClampNeg))).toNatClampNeg) p3)).2.1 1252 0 (((8 * p1) + p2).toNatClampNeg))).toNatClampNeg) p4)) 1255 0 (upd ((setA (setA m 1253 0 (upd (m.2.1 1253 0) (((4 * ((8 * p1) + p2)) + (m.2.1 1252 0 (((8 * p1) + p2).toNatClampNeg))).toNatClampNeg) p3)) 1254 0 (upd ((setA m 1253 0 (upd (m.2.1 1253 0) (((4 * ((8 * p1) + p2)) + (m.2.1 1252 0 (((8 * p1) + p2).toNatClampNeg))).toNatClampNeg) p3)).2.1 1254 0) (((4 * ((8 * p1) + p2)) + ((setA m 1253 0 (upd (m.2.1 1253 0) (((4 * ((8 * p1) + p2)) + (m.2.1 1252 0 (((8 * p1) + p2).toNatClampNeg))).toNatClampNeg) p3)).2.1 1252 0 (((8 * p1) + p2).toNatClampNeg))).toNatClampNeg) p4)).2.1 1255 0) (((4 * ((8 * p1) + p2)) + ((setA (setA m 1253 0 (upd (m.2.1 1253 0) (((4 * ((8 * p1) + p2)) + (m.2.1 1252 0 (((8 * p1) + p2).toNatClampNeg))).toNatClampNeg) p3)) 1254 0 (upd ((setA m 1253 0 (upd (m.2.1 1253 0) (((4 * ((8 * p1) + p2)) + (m.2.1 1252 0 (((8 * p1) + p2).toNatClampNeg))).toNatClampNeg) p3)).2.1 1254 0) (((4 * ((8 * p1) + p2)) + ((setA m 1253 0 (upd (m.2.1 1253 0) (((4 * ((8 * p1) + p2)) + (m.2.1 1252 0 (((8 * p1) + p2).toNatClampNeg))).toNatClampNeg) p3)).2.1 1252 0 (((8 * p1) + p2).toNatClampNeg))).toNatClampNeg) p4)).2.1 1252 0 (((8 * p1) + p2).toNatClampNeg))).toNatClampNeg) p5)).2.1 1252 0) (((8 * p1) + p2).toNatClampNeg) (((setA (setA (setA m 1253 0 (upd (m.2.1 1253 0) (((4 * ((8 * p1) + p2)) + (m.2.1 1252 0 (((8 * p1) + p2).toNatClampNeg))).toNatClampNeg) p3)) 1254 0 (upd ((setA m 1253 0 (upd (m.2.1 1253 0) (((4 * ((8 * p1) + p2)) + (m.2.1 1252 0 (((8 * p1) + p2).toNatClampNeg))).toNatClampNeg) p3)).2.1 1254 0) (((4 * ((8 * p1) + p2)) + ((setA m 1253 0 (upd (m.2.1 1253 0) (((4 * ((8 * p1) + p2)) + (m.2.1 1252 0 (((8 * p1) + p2).toNatClampNeg))).toNatClampNeg) p3)).2.1 1252 0 (((8 * p1) + p2).toNatClampNeg))).toNatClampNeg) p4)) 1255 0 (upd ((setA (setA m 1253 0 (upd (m.2.1 1253 0) (((4 * ((8 * p1) + p2)) + (m.2.1 1252 0 (((8 * p1) + p2).toNatClampNeg))).toNatClampNeg) p3)) 1254 0 (upd ((setA m 1253 0 (upd (m.2.1 1253 0) (((4 * ((8 * p1) + p2)) + (m.2.1 1252 0 (((8 * p1) + p2).toNatClampNeg))).toNatClampNeg) p3)).2.1 1254 0) (((4 * ((8 * p1) + p2)) + ((setA m 1253 0 (upd (m.2.1 1253 0) (((4 * ((8 * p1) + p2)) + (m.2.1 1252 0 (((8 * p1) + p2).toNatClampNeg))).toNatClampNeg) p3)).2.1 1252 0 (((8 * p1) + p2).toNatClampNeg))).toNatClampNeg) p4)).2.1 1255 0) (((4 * ((8 * p1) + p2)) + ((setA (setA m 1253 0 (upd (m.2.1 1253 0) (((4 * ((8 * p1) + p2)) + (m.2.1 1252 0 (((8 * p1) + p2).toNatClampNeg))).toNatClampNeg) p3)) 1254 0 (upd ((setA m 1253 0 (upd (m.2.1 1253 0) (((4 * ((8 * p1) + p2)) + (m.2.1 1252 0 (((8 * p1) + p2).toNatClampNeg))).toNatClampNeg) p3)).2.1 1254 0) (((4 * ((8 * p1) + p2)) + ((setA m 1253 0 (upd (m.2.1 1253 0) (((4 * ((8 * p1) + p2)) + (m.2.1 1252 0 (((8 * p1) + p2).toNatClampNeg))).toNatClampNeg) p3)).2.1 1252 0 (((8 * p1) + p2).toNatClampNeg))).toNatClampNeg) p4)).2.1 1252 0 (((8 * p1) + p2).toNatClampNeg))).toNatClampNeg) p5)).2.1 1252 0 (((8 * p1) + p2).toNatClampNeg)) + 1))) else none else none else none else none else none else none else none else none else none else (f_X12_no m (-6)).elim none (fun r37p => some (r37p.1, r37p.2)))
theorem c_X12_take {g : GG} {d : Nat} {ad : AD} {x m : VM} {Q : Option Value → VM → VM → Prop} (p1 : Int32) (p2 : Int32) (p3 : Int32) (p4 : Int32) (p5 : Int32) {r9 : Int32} {w9 : VM} (hf : f_X12_take m p1 p2 p3 p4 p5 = some (r9, w9)) (hq : Q (some (.int r9)) x w9) : CX g (d + 2) MX12_take [.ref (ad 12 0), .int p1, .int p2, .int p3, .int p4, .int p5] ad x m Q := by
  refine CX.to (Lv := [some (.ref (ad 12 0)), some (.int p1), some (.int p2), some (.int p3), some (.int p4), some (.int p5), none]) okX12_take (Nat.le_of_ble_eq_true rfl) rfl ?_
  obtain ⟨Φ0, hΦ⟩ : ∃ Φ : Option (Int32 × VM) → Prop, Φ = fun o => o = some (r9, w9) := ⟨_, rfl⟩
  have hN0 : Φ0 none → False := by rw [hΦ]; intro h; cases h
  have hR0 : ∀ z9 y9, Φ0 (some (z9, y9)) → Q (some (.int z9)) x y9 := by rw [hΦ]; intro z9 y9 h; cases h; exact hq
  have h9 : Φ0 (f_X12_take m p1 p2 p3 p4 p5) := by rw [hΦ]; exact hf
  clear hf hq hΦ
  unfold f_X12_take at h9
  refine e_aload_n dX12_take_0 rfl rfl ?_
  refine e_iload_n dX12_take_1 rfl rfl ?_
  refine e_iload_n dX12_take_2 rfl rfl ?_
  obtain ⟨r1, hr1, h9⟩ := elimP hN0 h9
  refine x_callVi (c := 12) (As := [.int p1, .int p2]) (rest := []) okX12_isScene lkX12_312 rfl (by decide) rfl dX12_take_3 rfl rfl (Nat.le_of_ble_eq_true rfl) rfl (c_X12_isScene p1 p2 hr1 (CI.mk ?_))
  refine e_if_ne (tgt := 15) dX12_take_6 rfl (fun hc2 => ?_) (fun hc2 => ?_)
  · replace h9 := ifF hc2 h9
    refine e_iload_n dX12_take_15 rfl rfl ?_
    refine e_iconst (v := 1) dX12_take_16 rfl ?_
    refine e_icmp_lt (tgt := 50) dX12_take_17 rfl (fun hc3 => ?_) (fun hc3 => ?_)
    · replace h9 := ifT hc3 h9
      refine e_aload_n dX12_take_50 rfl rfl ?_
      refine e_bipush (v := (-6)) dX12_take_51 rfl ?_
      obtain ⟨⟨r4, w5⟩, hr4, h9⟩ := elimP hN0 h9
      refine x_callVi (c := 12) (As := [.int (-6)]) (rest := []) okX12_no lkX12_263 rfl (by decide) rfl dX12_take_53 rfl rfl (Nat.le_of_ble_eq_true rfl) rfl (c_X12_no (-6) hr4 (CI.mk ?_))
      exact x_iret dX12_take_56 rfl (hR0 _ _ h9)
    · replace h9 := ifF hc3 h9
      refine e_iload_n dX12_take_20 rfl rfl ?_
      refine e_bipush (v := 99) dX12_take_21 rfl ?_
      refine e_icmp_gt (tgt := 50) dX12_take_23 rfl (fun hc7 => ?_) (fun hc7 => ?_)
      · replace h9 := ifT hc7 h9
        refine e_aload_n dX12_take_50 rfl rfl ?_
        refine e_bipush (v := (-6)) dX12_take_51 rfl ?_
        obtain ⟨⟨r8, w9⟩, hr8, h9⟩ := elimP hN0 h9
        refine x_callVi (c := 12) (As := [.int (-6)]) (rest := []) okX12_no lkX12_263 rfl (by decide) rfl dX12_take_53 rfl rfl (Nat.le_of_ble_eq_true rfl) rfl (c_X12_no (-6) hr8 (CI.mk ?_))
        exact x_iret dX12_take_56 rfl (hR0 _ _ h9)
      · replace h9 := ifF hc7 h9
        refine e_iload dX12_take_26 rfl ?_
        refine e_if_lt (tgt := 50) dX12_take_28 rfl (fun hc11 => ?_) (fun hc11 => ?_)
        · replace h9 := ifT hc11 h9
          refine e_aload_n dX12_take_50 rfl rfl ?_
          refine e_bipush (v := (-6)) dX12_take_51 rfl ?_
          obtain ⟨⟨r12, w13⟩, hr12, h9⟩ := elimP hN0 h9
          refine x_callVi (c := 12) (As := [.int (-6)]) (rest := []) okX12_no lkX12_263 rfl (by decide) rfl dX12_take_53 rfl rfl (Nat.le_of_ble_eq_true rfl) rfl (c_X12_no (-6) hr12 (CI.mk ?_))
          exact x_iret dX12_take_56 rfl (hR0 _ _ h9)
        · replace h9 := ifF hc11 h9
          refine e_iload dX12_take_31 rfl ?_
          refine e_bipush (v := 99) dX12_take_33 rfl ?_
          refine e_icmp_gt (tgt := 50) dX12_take_35 rfl (fun hc15 => ?_) (fun hc15 => ?_)
          · replace h9 := ifT hc15 h9
            refine e_aload_n dX12_take_50 rfl rfl ?_
            refine e_bipush (v := (-6)) dX12_take_51 rfl ?_
            obtain ⟨⟨r16, w17⟩, hr16, h9⟩ := elimP hN0 h9
            refine x_callVi (c := 12) (As := [.int (-6)]) (rest := []) okX12_no lkX12_263 rfl (by decide) rfl dX12_take_53 rfl rfl (Nat.le_of_ble_eq_true rfl) rfl (c_X12_no (-6) hr16 (CI.mk ?_))
            exact x_iret dX12_take_56 rfl (hR0 _ _ h9)
          · replace h9 := ifF hc15 h9
            refine e_iload dX12_take_38 rfl ?_
            refine e_if_lt (tgt := 50) dX12_take_40 rfl (fun hc19 => ?_) (fun hc19 => ?_)
            · replace h9 := ifT hc19 h9
              refine e_aload_n dX12_take_50 rfl rfl ?_
              refine e_bipush (v := (-6)) dX12_take_51 rfl ?_
              obtain ⟨⟨r20, w21⟩, hr20, h9⟩ := elimP hN0 h9
              refine x_callVi (c := 12) (As := [.int (-6)]) (rest := []) okX12_no lkX12_263 rfl (by decide) rfl dX12_take_53 rfl rfl (Nat.le_of_ble_eq_true rfl) rfl (c_X12_no (-6) hr20 (CI.mk ?_))
              exact x_iret dX12_take_56 rfl (hR0 _ _ h9)
            · replace h9 := ifF hc19 h9
              refine e_iload dX12_take_43 rfl ?_
              refine e_bipush (v := 99) dX12_take_45 rfl ?_
              refine e_icmp_le (tgt := 57) dX12_take_47 rfl (fun hc23 => ?_) (fun hc23 => ?_)
              · replace h9 := ifT hc23 h9
                refine e_bipush (v := 8) dX12_take_57 rfl ?_
                refine e_iload_n dX12_take_59 rfl rfl ?_
                refine e_imul dX12_take_60 ?_
                refine e_iload_n dX12_take_61 rfl rfl ?_
                refine e_iadd dX12_take_62 ?_
                refine e_istore (L' := [some (.ref (ad 12 0)), some (.int p1), some (.int p2), some (.int p3), some (.int p4), some (.int p5), some (.int ((8 * p1) + p2))]) dX12_take_63 (by decide) rfl ?_
                refine e_aload_n dX12_take_65 rfl rfl ?_
                refine g_1252 flX12_142 dX12_take_66 ?_
                refine e_pc (pc' := 69) rfl ?_
                refine e_iload dX12_take_69 rfl ?_
                obtain ⟨k24, h9⟩ := chkP hN0 h9
                refine l_1252 dX12_take_71 (inb_in k24) ?_
                refine e_iconst (v := 4) dX12_take_72 rfl ?_
                refine e_icmp_ne (tgt := 83) dX12_take_73 rfl (fun hc25 => ?_) (fun hc25 => ?_)
                · replace h9 := ifF hc25 h9
                  refine e_aload_n dX12_take_83 rfl rfl ?_
                  refine g_1253 flX12_145 dX12_take_84 ?_
                  refine e_iconst (v := 4) dX12_take_87 rfl ?_
                  refine e_iload dX12_take_88 rfl ?_
                  refine e_imul dX12_take_90 ?_
                  refine e_aload_n dX12_take_91 rfl rfl ?_
                  refine g_1252 flX12_142 dX12_take_92 ?_
                  refine e_iload dX12_take_95 rfl ?_
                  refine e_pc (pc' := 97) rfl ?_
                  obtain ⟨k26, h9⟩ := chkP hN0 h9
                  refine l_1252 dX12_take_97 (inb_in k26) ?_
                  refine e_iadd dX12_take_98 ?_
                  refine e_iload_n dX12_take_99 rfl rfl ?_
                  obtain ⟨k27, h9⟩ := chkP hN0 h9
                  refine s_1253 dX12_take_100 (inb_in k27) ?_
                  refine e_aload_n dX12_take_101 rfl rfl ?_
                  refine g_1254 flX12_148 dX12_take_102 ?_
                  refine e_iconst (v := 4) dX12_take_105 rfl ?_
                  refine e_iload dX12_take_106 rfl ?_
                  refine e_imul dX12_take_108 ?_
                  refine e_pc (pc' := 109) rfl ?_
                  refine e_aload_n dX12_take_109 rfl rfl ?_
                  refine g_1252 flX12_142 dX12_take_110 ?_
                  refine e_iload dX12_take_113 rfl ?_
                  obtain ⟨k28, h9⟩ := chkP hN0 h9
                  refine l_1252 dX12_take_115 (inb_in k28) ?_
                  refine e_iadd dX12_take_116 ?_
                  refine e_iload dX12_take_117 rfl ?_
                  obtain ⟨k29, h9⟩ := chkP hN0 h9
                  refine s_1254 dX12_take_119 (inb_in k29) ?_
                  refine e_aload_n dX12_take_120 rfl rfl ?_
                  refine g_1255 flX12_151 dX12_take_121 ?_
                  refine e_pc (pc' := 124) rfl ?_
                  refine e_iconst (v := 4) dX12_take_124 rfl ?_
                  refine e_iload dX12_take_125 rfl ?_
                  refine e_imul dX12_take_127 ?_
                  refine e_aload_n dX12_take_128 rfl rfl ?_
                  refine g_1252 flX12_142 dX12_take_129 ?_
                  refine e_iload dX12_take_132 rfl ?_
                  obtain ⟨k30, h9⟩ := chkP hN0 h9
                  refine l_1252 dX12_take_134 (inb_in k30) ?_
                  refine e_iadd dX12_take_135 ?_
                  refine e_iload dX12_take_136 rfl ?_
                  refine e_pc (pc' := 138) rfl ?_
                  obtain ⟨k31, h9⟩ := chkP hN0 h9
                  refine s_1255 dX12_take_138 (inb_in k31) ?_
                  refine e_aload_n dX12_take_139 rfl rfl ?_
                  refine g_1252 flX12_142 dX12_take_140 ?_
                  refine e_iload dX12_take_143 rfl ?_
                  refine e_dup2_11 dX12_take_145 rfl rfl ?_
                  obtain ⟨k32, h9⟩ := chkP hN0 h9
                  refine l_1252 dX12_take_146 (inb_in k32) ?_
                  refine e_dup_x2 dX12_take_147 rfl rfl rfl ?_
                  refine e_iconst (v := 1) dX12_take_148 rfl ?_
                  refine e_iadd dX12_take_149 ?_
                  refine e_pc (pc' := 150) rfl ?_
                  obtain ⟨k33, h9⟩ := chkP hN0 h9
                  refine s_1252 dX12_take_150 (inb_in k33) ?_
                  exact x_iret dX12_take_151 rfl (hR0 _ _ h9)
                · replace h9 := ifT hc25 h9
                  refine e_aload_n dX12_take_76 rfl rfl ?_
                  refine e_bipush (v := (-7)) dX12_take_77 rfl ?_
                  obtain ⟨⟨r34, w35⟩, hr34, h9⟩ := elimP hN0 h9
                  refine x_callVi (c := 12) (As := [.int (-7)]) (rest := []) okX12_no lkX12_263 rfl (by decide) rfl dX12_take_79 rfl rfl (Nat.le_of_ble_eq_true rfl) rfl (c_X12_no (-7) hr34 (CI.mk ?_))
                  exact x_iret dX12_take_82 rfl (hR0 _ _ h9)
              · replace h9 := ifF hc23 h9
                refine e_aload_n dX12_take_50 rfl rfl ?_
                refine e_bipush (v := (-6)) dX12_take_51 rfl ?_
                obtain ⟨⟨r37, w38⟩, hr37, h9⟩ := elimP hN0 h9
                refine x_callVi (c := 12) (As := [.int (-6)]) (rest := []) okX12_no lkX12_263 rfl (by decide) rfl dX12_take_53 rfl rfl (Nat.le_of_ble_eq_true rfl) rfl (c_X12_no (-6) hr37 (CI.mk ?_))
                exact x_iret dX12_take_56 rfl (hR0 _ _ h9)
  · replace h9 := ifT hc2 h9
    refine e_aload_n dX12_take_9 rfl rfl ?_
    refine e_iconst (v := (-1)) dX12_take_10 rfl ?_
    obtain ⟨⟨r40, w41⟩, hr40, h9⟩ := elimP hN0 h9
    refine x_callVi (c := 12) (As := [.int (-1)]) (rest := []) okX12_no lkX12_263 rfl (by decide) rfl dX12_take_11 rfl rfl (Nat.le_of_ble_eq_true rfl) rfl (c_X12_no (-1) hr40 (CI.mk ?_))
    exact x_iret dX12_take_14 rfl (hR0 _ _ h9)
noncomputable def j_X12_reel_573 (m : VM) (p1 : Int32) (p2 : Int32) (v10 : Int32 × VM) (v12 : Int32 × Int32 × Int32 × VM) (v16 : Int32 × Int32 × VM) : (Int32 × Int32 × VM) ⊕ ((Int32 × Int32 × Int32 × VM) ⊕ ((Int32 × VM) ⊕ (Option (Int32 × VM)))) := if v16.2.1 = 0 then Sum.inr (Sum.inl (v12.1, v12.2.1, v12.2.2.1 + (-1), v16.2.2)) else if inb v12.2.2.1 9 = true then if inb (v12.2.2.1 + 1) 9 = true then Sum.inr (Sum.inl (v12.1, v12.2.1, v12.2.2.1 + 1, setA (setA v16.2.2 1278 0 (upd (v16.2.2.2.1 1278 0) v12.2.2.1.toNatClampNeg v16.1)) 1278 0 (upd ((setA v16.2.2 1278 0 (upd (v16.2.2.2.1 1278 0) v12.2.2.1.toNatClampNeg v16.1)).2.1 1278 0) ((v12.2.2.1 + 1).toNatClampNeg) (-1)))) else Sum.inr (Sum.inr (Sum.inr none)) else Sum.inr (Sum.inr (Sum.inr none))
noncomputable def j_X12_reel_481 (m : VM) (p1 : Int32) (p2 : Int32) (v10 : Int32 × VM) (v12 : Int32 × Int32 × Int32 × VM) (v16 : Int32 × Int32 × VM) (a24 : Int32) (a25 : Int32) (a26 : Int32) (w27 : VM) : (Int32 × Int32 × VM) ⊕ ((Int32 × Int32 × Int32 × VM) ⊕ ((Int32 × VM) ⊕ (Option (Int32 × VM)))) := if inb a26 9 = true then if inb (v12.2.2.1 + 1) 9 = true then if p2 < ((setA w27 1281 0 (upd (w27.2.1 1281 0) a26.toNatClampNeg a25)).2.1 1279 0 ((v12.2.2.1 + 1).toNatClampNeg)) then if (0 : Int32) = 0 then Sum.inl (v16.1 + 1, 0, setA w27 1281 0 (upd (w27.2.1 1281 0) a26.toNatClampNeg a25)) else Sum.inl (v16.1, 0, setA w27 1281 0 (upd (w27.2.1 1281 0) a26.toNatClampNeg a25)) else if inb (v12.2.2.1 + 1) 9 = true then if inb (v12.2.2.1 + 1) 9 = true then if (((setA w27 1281 0 (upd (w27.2.1 1281 0) a26.toNatClampNeg a25)).2.1 1280 0 ((v12.2.2.1 + 1).toNatClampNeg)) + ((setA w27 1281 0 (upd (w27.2.1 1281 0) a26.toNatClampNeg a25)).2.1 1282 0 ((v12.2.2.1 + 1).toNatClampNeg))) < v12.1 then if (0 : Int32) = 0 then Sum.inl (v16.1 + 1, 0, setA w27 1281 0 (upd (w27.2.1 1281 0) a26.toNatClampNeg a25)) else Sum.inl (v16.1, 0, setA w27 1281 0 (upd (w27.2.1 1281 0) a26.toNatClampNeg a25)) else if a24 = 0 then if (1 : Int32) = 0 then Sum.inl (v16.1 + 1, 1, setA w27 1281 0 (upd (w27.2.1 1281 0) a26.toNatClampNeg a25)) else Sum.inl (v16.1, 1, setA w27 1281 0 (upd (w27.2.1 1281 0) a26.toNatClampNeg a25)) else if inb v12.2.2.1 9 = true then if ((setA w27 1281 0 (upd (w27.2.1 1281 0) a26.toNatClampNeg a25)).2.1 1281 0 v12.2.2.1.toNatClampNeg) = (-1) then if (1 : Int32) = 0 then Sum.inl (v16.1 + 1, 1, setA w27 1281 0 (upd (w27.2.1 1281 0) a26.toNatClampNeg a25)) else Sum.inl (v16.1, 1, setA w27 1281 0 (upd (w27.2.1 1281 0) a26.toNatClampNeg a25)) else if inb v12.2.2.1 9 = true then if inb ((4 * ((8 * p1) + v12.2.2.1)) + v16.1) 256 = true then if ((setA w27 1281 0 (upd (w27.2.1 1281 0) a26.toNatClampNeg a25)).2.1 1281 0 v12.2.2.1.toNatClampNeg) = (((setA w27 1281 0 (upd (w27.2.1 1281 0) a26.toNatClampNeg a25)).2.1 1255 0 (((4 * ((8 * p1) + v12.2.2.1)) + v16.1).toNatClampNeg)) / 10) then if (1 : Int32) = 0 then Sum.inl (v16.1 + 1, 1, setA w27 1281 0 (upd (w27.2.1 1281 0) a26.toNatClampNeg a25)) else Sum.inl (v16.1, 1, setA w27 1281 0 (upd (w27.2.1 1281 0) a26.toNatClampNeg a25)) else if (0 : Int32) = 0 then Sum.inl (v16.1 + 1, 0, setA w27 1281 0 (upd (w27.2.1 1281 0) a26.toNatClampNeg a25)) else Sum.inl (v16.1, 0, setA w27 1281 0 (upd (w27.2.1 1281 0) a26.toNatClampNeg a25)) else Sum.inr (Sum.inr (Sum.inr none)) else Sum.inr (Sum.inr (Sum.inr none)) else Sum.inr (Sum.inr (Sum.inr none)) else Sum.inr (Sum.inr (Sum.inr none)) else Sum.inr (Sum.inr (Sum.inr none)) else Sum.inr (Sum.inr (Sum.inr none)) else Sum.inr (Sum.inr (Sum.inr none))
noncomputable def j_X12_reel_446 (m : VM) (p1 : Int32) (p2 : Int32) (v10 : Int32 × VM) (v12 : Int32 × Int32 × Int32 × VM) (v16 : Int32 × Int32 × VM) (a46 : Int32) (a47 : Int32) (a48 : Int32) (a49 : Int32) (w50 : VM) : (Int32 × Int32 × VM) ⊕ ((Int32 × Int32 × Int32 × VM) ⊕ ((Int32 × VM) ⊕ (Option (Int32 × VM)))) := if inb a49 9 = true then if a46 = 0 then if inb v12.2.2.1 9 = true then j_X12_reel_481 m p1 p2 v10 v12 v16 a46 ((setA w50 1280 0 (upd (w50.2.1 1280 0) a49.toNatClampNeg (a48 + a47))).2.1 1281 0 v12.2.2.1.toNatClampNeg) (v12.2.2.1 + 1) (setA w50 1280 0 (upd (w50.2.1 1280 0) a49.toNatClampNeg (a48 + a47))) else Sum.inr (Sum.inr (Sum.inr none)) else if inb ((4 * ((8 * p1) + v12.2.2.1)) + v16.1) 256 = true then j_X12_reel_481 m p1 p2 v10 v12 v16 a46 (((setA w50 1280 0 (upd (w50.2.1 1280 0) a49.toNatClampNeg (a48 + a47))).2.1 1255 0 (((4 * ((8 * p1) + v12.2.2.1)) + v16.1).toNatClampNeg)) - ((setA w50 1280 0 (upd (w50.2.1 1280 0) a49.toNatClampNeg (a48 + a47))).2.1 1255 0 (((4 * ((8 * p1) + v12.2.2.1)) + v16.1).toNatClampNeg)) / 10 * 10) (v12.2.2.1 + 1) (setA w50 1280 0 (upd (w50.2.1 1280 0) a49.toNatClampNeg (a48 + a47))) else Sum.inr (Sum.inr (Sum.inr none)) else Sum.inr (Sum.inr (Sum.inr none))
noncomputable def j_X12_reel_413 (m : VM) (p1 : Int32) (p2 : Int32) (v10 : Int32 × VM) (v12 : Int32 × Int32 × Int32 × VM) (v16 : Int32 × Int32 × VM) (a55 : Int32) (a56 : Int32) (a57 : Int32) (a58 : Int32) : (Int32 × Int32 × VM) ⊕ ((Int32 × Int32 × Int32 × VM) ⊕ ((Int32 × VM) ⊕ (Option (Int32 × VM)))) := if inb a58 9 = true then if inb v12.2.2.1 9 = true then if a55 = 0 then j_X12_reel_446 m p1 p2 v10 v12 v16 a55 0 ((setA v16.2.2 1279 0 (upd (v16.2.2.2.1 1279 0) a58.toNatClampNeg (a57 + a56))).2.1 1280 0 v12.2.2.1.toNatClampNeg) (v12.2.2.1 + 1) (setA v16.2.2 1279 0 (upd (v16.2.2.2.1 1279 0) a58.toNatClampNeg (a57 + a56))) else if inb ((4 * ((8 * p1) + v12.2.2.1)) + v16.1) 256 = true then j_X12_reel_446 m p1 p2 v10 v12 v16 a55 ((setA v16.2.2 1279 0 (upd (v16.2.2.2.1 1279 0) a58.toNatClampNeg (a57 + a56))).2.1 1254 0 (((4 * ((8 * p1) + v12.2.2.1)) + v16.1).toNatClampNeg)) ((setA v16.2.2 1279 0 (upd (v16.2.2.2.1 1279 0) a58.toNatClampNeg (a57 + a56))).2.1 1280 0 v12.2.2.1.toNatClampNeg) (v12.2.2.1 + 1) (setA v16.2.2 1279 0 (upd (v16.2.2.2.1 1279 0) a58.toNatClampNeg (a57 + a56))) else Sum.inr (Sum.inr (Sum.inr none)) else Sum.inr (Sum.inr (Sum.inr none)) else Sum.inr (Sum.inr (Sum.inr none))
noncomputable def j_X12_reel_380 (m : VM) (p1 : Int32) (p2 : Int32) (v10 : Int32 × VM) (v12 : Int32 × Int32 × Int32 × VM) (v16 : Int32 × Int32 × VM) (a63 : Int32) : (Int32 × Int32 × VM) ⊕ ((Int32 × Int32 × Int32 × VM) ⊕ ((Int32 × VM) ⊕ (Option (Int32 × VM)))) := if inb v12.2.2.1 9 = true then if a63 = 0 then j_X12_reel_413 m p1 p2 v10 v12 v16 a63 0 (v16.2.2.2.1 1279 0 v12.2.2.1.toNatClampNeg) (v12.2.2.1 + 1) else if inb ((4 * ((8 * p1) + v12.2.2.1)) + v16.1) 256 = true then j_X12_reel_413 m p1 p2 v10 v12 v16 a63 (v16.2.2.2.1 1253 0 (((4 * ((8 * p1) + v12.2.2.1)) + v16.1).toNatClampNeg)) (v16.2.2.2.1 1279 0 v12.2.2.1.toNatClampNeg) (v12.2.2.1 + 1) else Sum.inr (Sum.inr (Sum.inr none)) else Sum.inr (Sum.inr (Sum.inr none))
noncomputable def b_X12_reel_337 (m : VM) (p1 : Int32) (p2 : Int32) (v10 : Int32 × VM) (v12 : Int32 × Int32 × Int32 × VM) (v16 : Int32 × Int32 × VM) : (Int32 × Int32 × VM) ⊕ ((Int32 × Int32 × Int32 × VM) ⊕ ((Int32 × VM) ⊕ (Option (Int32 × VM)))) := if inb ((8 * p1) + v12.2.2.1) 64 = true then if (v16.2.2.2.1 1252 0 (((8 * p1) + v12.2.2.1).toNatClampNeg)) < v16.1 then j_X12_reel_573 m p1 p2 v10 v12 v16 else if v16.2.1 = 0 then if inb ((8 * p1) + v12.2.2.1) 64 = true then if (v16.2.2.2.1 1252 0 (((8 * p1) + v12.2.2.1).toNatClampNeg)) ≤ v16.1 then j_X12_reel_380 m p1 p2 v10 v12 v16 0 else j_X12_reel_380 m p1 p2 v10 v12 v16 1 else Sum.inr (Sum.inr (Sum.inr none)) else j_X12_reel_573 m p1 p2 v10 v12 v16 else Sum.inr (Sum.inr (Sum.inr none))
noncomputable def b_X12_reel_251 (m : VM) (p1 : Int32) (p2 : Int32) (v10 : Int32 × VM) (v12 : Int32 × Int32 × Int32 × VM) (v71 : Int32 × VM) : (Int32 × VM) ⊕ ((Int32 × Int32 × Int32 × VM) ⊕ ((Int32 × VM) ⊕ (Option (Int32 × VM)))) := if (m.2.1 1235 0 p1.toNatClampNeg) ≤ v71.1 then Sum.inr (Sum.inl (v12.2.2.2.2.1 1280 0 ((m.2.1 1235 0 p1.toNatClampNeg).toNatClampNeg), v12.2.2.2.2.1 1279 0 ((m.2.1 1235 0 p1.toNatClampNeg).toNatClampNeg), v12.2.2.1 + (-1), v71.2)) else if inb v71.1 9 = true then if inb ((8 * p1) + v71.1) 64 = true then if (v71.2.2.1 1252 0 (((8 * p1) + v71.1).toNatClampNeg)) ≤ (v71.2.2.1 1278 0 v71.1.toNatClampNeg) then if inb ((8 * p1) + v71.1) 64 = true then Sum.inl (v71.1 + 1, setA v71.2 1256 0 (upd (v71.2.2.1 1256 0) (((8 * p1) + v71.1).toNatClampNeg) (-1))) else Sum.inr (Sum.inr (Sum.inr none)) else if inb v71.1 9 = true then if inb ((8 * p1) + v71.1) 64 = true then Sum.inl (v71.1 + 1, setA v71.2 1256 0 (upd (v71.2.2.1 1256 0) (((8 * p1) + v71.1).toNatClampNeg) (v71.2.2.1 1278 0 v71.1.toNatClampNeg))) else Sum.inr (Sum.inr (Sum.inr none)) else Sum.inr (Sum.inr (Sum.inr none)) else Sum.inr (Sum.inr (Sum.inr none)) else Sum.inr (Sum.inr (Sum.inr none))
noncomputable def j_X12_reel_232 (m : VM) (p1 : Int32) (p2 : Int32) (v10 : Int32 × VM) (v12 : Int32 × Int32 × Int32 × VM) : (Int32 × Int32 × Int32 × VM) ⊕ ((Int32 × VM) ⊕ (Option (Int32 × VM))) := if inb (m.2.1 1235 0 p1.toNatClampNeg) 9 = true then if inb (m.2.1 1235 0 p1.toNatClampNeg) 9 = true then loopF (Sum.inr (Sum.inr none)) (b_X12_reel_251 m p1 p2 v10 v12) (0, v12.2.2.2) else Sum.inr (Sum.inr none) else Sum.inr (Sum.inr none)
noncomputable def b_X12_reel_188 (m : VM) (p1 : Int32) (p2 : Int32) (v10 : Int32 × VM) (v12 : Int32 × Int32 × Int32 × VM) : (Int32 × Int32 × Int32 × VM) ⊕ ((Int32 × VM) ⊕ (Option (Int32 × VM))) := if v12.2.2.1 < 0 then Sum.inr (Sum.inr (some (v12.1, v12.2.2.2))) else if v12.2.2.1 = (m.2.1 1235 0 p1.toNatClampNeg) then if inb (m.2.1 1235 0 p1.toNatClampNeg) 9 = true then if v12.1 < (v12.2.2.2.2.1 1280 0 ((m.2.1 1235 0 p1.toNatClampNeg).toNatClampNeg)) then j_X12_reel_232 m p1 p2 v10 v12 else if inb (m.2.1 1235 0 p1.toNatClampNeg) 9 = true then if (v12.2.2.2.2.1 1280 0 ((m.2.1 1235 0 p1.toNatClampNeg).toNatClampNeg)) = v12.1 then if inb (m.2.1 1235 0 p1.toNatClampNeg) 9 = true then if v12.2.1 ≤ (v12.2.2.2.2.1 1279 0 ((m.2.1 1235 0 p1.toNatClampNeg).toNatClampNeg)) then Sum.inl (v12.1, v12.2.1, v12.2.2.1 + (-1), v12.2.2.2) else j_X12_reel_232 m p1 p2 v10 v12 else Sum.inr (Sum.inr none) else Sum.inl (v12.1, v12.2.1, v12.2.2.1 + (-1), v12.2.2.2) else Sum.inr (Sum.inr none) else Sum.inr (Sum.inr none) else if inb v12.2.2.1 9 = true then loopF (Sum.inr (Sum.inr none)) (b_X12_reel_337 m p1 p2 v10 v12) ((v12.2.2.2.2.1 1278 0 v12.2.2.1.toNatClampNeg) + 1, 0, v12.2.2.2) else Sum.inr (Sum.inr none)
noncomputable def b_X12_reel_62 (m : VM) (p1 : Int32) (p2 : Int32) (v10 : Int32 × VM) (v84 : Int32 × Int32) : (Int32 × Int32) ⊕ ((Int32 × VM) ⊕ (Option (Int32 × VM))) := if inb ((8 * p1) + v10.1) 64 = true then if (v10.2.2.1 1252 0 (((8 * p1) + v10.1).toNatClampNeg)) ≤ v84.2 then if inb (v10.1 + 1) 9 = true then if inb v10.1 9 = true then Sum.inr (Sum.inl (v10.1 + (-1), setA v10.2 1282 0 (upd (v10.2.2.1 1282 0) v10.1.toNatClampNeg ((v10.2.2.1 1282 0 ((v10.1 + 1).toNatClampNeg)) + v84.1)))) else Sum.inr (Sum.inr none) else Sum.inr (Sum.inr none) else if inb ((4 * ((8 * p1) + v10.1)) + v84.2) 256 = true then if (v10.2.2.1 1254 0 (((4 * ((8 * p1) + v10.1)) + v84.2).toNatClampNeg)) ≤ v84.1 then Sum.inl (v84.1, v84.2 + 1) else if inb ((4 * ((8 * p1) + v10.1)) + v84.2) 256 = true then Sum.inl (v10.2.2.1 1254 0 (((4 * ((8 * p1) + v10.1)) + v84.2).toNatClampNeg), v84.2 + 1) else Sum.inr (Sum.inr none) else Sum.inr (Sum.inr none) else Sum.inr (Sum.inr none)
noncomputable def b_X12_reel_51 (m : VM) (p1 : Int32) (p2 : Int32) (v10 : Int32 × VM) : (Int32 × VM) ⊕ (Option (Int32 × VM)) := if v10.1 < 0 then loopF (Sum.inr none) (b_X12_reel_188 m p1 p2 v10) ((-1), 0, 0, setA (setA (setA (setA v10.2 1279 0 (upd (v10.2.2.1 1279 0) ((0 : Int32).toNatClampNeg) 0)) 1280 0 (upd ((setA v10.2 1279 0 (upd (v10.2.2.1 1279 0) ((0 : Int32).toNatClampNeg) 0)).2.1 1280 0) ((0 : Int32).toNatClampNeg) 0)) 1281 0 (upd ((setA (setA v10.2 1279 0 (upd (v10.2.2.1 1279 0) ((0 : Int32).toNatClampNeg) 0)) 1280 0 (upd ((setA v10.2 1279 0 (upd (v10.2.2.1 1279 0) ((0 : Int32).toNatClampNeg) 0)).2.1 1280 0) ((0 : Int32).toNatClampNeg) 0)).2.1 1281 0) ((0 : Int32).toNatClampNeg) (-1))) 1278 0 (upd ((setA (setA (setA v10.2 1279 0 (upd (v10.2.2.1 1279 0) ((0 : Int32).toNatClampNeg) 0)) 1280 0 (upd ((setA v10.2 1279 0 (upd (v10.2.2.1 1279 0) ((0 : Int32).toNatClampNeg) 0)).2.1 1280 0) ((0 : Int32).toNatClampNeg) 0)) 1281 0 (upd ((setA (setA v10.2 1279 0 (upd (v10.2.2.1 1279 0) ((0 : Int32).toNatClampNeg) 0)) 1280 0 (upd ((setA v10.2 1279 0 (upd (v10.2.2.1 1279 0) ((0 : Int32).toNatClampNeg) 0)).2.1 1280 0) ((0 : Int32).toNatClampNeg) 0)).2.1 1281 0) ((0 : Int32).toNatClampNeg) (-1))).2.1 1278 0) ((0 : Int32).toNatClampNeg) (-1))) else loopF (Sum.inr none) (b_X12_reel_62 m p1 p2 v10) (0, 0)
noncomputable def f_X12_reel (m : VM) (p1 : Int32) (p2 : Int32) : Option (Int32 × VM) := (f_X12_isPicture m p1).elim none (fun r1 => if r1 = 0 then (f_X12_no m (-1)).elim none (fun r95p => some (r95p.1, r95p.2)) else if p2 < 0 then (f_X12_no m (-6)).elim none (fun r4p => some (r4p.1, r4p.2)) else if p2 ≤ 400 then if inb p1 8 = true then if inb (m.2.1 1235 0 p1.toNatClampNeg) 9 = true then loopF none (b_X12_reel_51 m p1 p2) ((m.2.1 1235 0 p1.toNatClampNeg) - 1, setA m 1282 0 (upd (m.2.1 1282 0) ((m.2.1 1235 0 p1.toNatClampNeg).toNatClampNeg) 0)) else none else none else (f_X12_no m (-6)).elim none (fun r92p => some (r92p.1, r92p.2)))
theorem c_X12_reel {g : GG} {d : Nat} {ad : AD} {x m : VM} {Q : Option Value → VM → VM → Prop} (p1 : Int32) (p2 : Int32) {r9 : Int32} {w9 : VM} (hf : f_X12_reel m p1 p2 = some (r9, w9)) (hq : Q (some (.int r9)) x w9) : CX g (d + 1) MX12_reel [.ref (ad 12 0), .int p1, .int p2] ad x m Q := by
  refine CX.to (Lv := [some (.ref (ad 12 0)), some (.int p1), some (.int p2), none, none, none, none, none, none, none, none, none]) okX12_reel (Nat.le_of_ble_eq_true rfl) rfl ?_
  obtain ⟨Φ0, hΦ⟩ : ∃ Φ : Option (Int32 × VM) → Prop, Φ = fun o => o = some (r9, w9) := ⟨_, rfl⟩
  have hN0 : Φ0 none → False := by rw [hΦ]; intro h; cases h
  have hR0 : ∀ z9 y9, Φ0 (some (z9, y9)) → Q (some (.int z9)) x y9 := by rw [hΦ]; intro z9 y9 h; cases h; exact hq
  have h9 : Φ0 (f_X12_reel m p1 p2) := by rw [hΦ]; exact hf
  clear hf hq hΦ
  unfold f_X12_reel at h9
  refine e_aload_n dX12_reel_0 rfl rfl ?_
  refine e_iload_n dX12_reel_1 rfl rfl ?_
  obtain ⟨r1, hr1, h9⟩ := elimP hN0 h9
  refine x_callVi (c := 12) (As := [.int p1]) (rest := []) okX12_isPicture lkX12_253 rfl (by decide) rfl dX12_reel_2 rfl rfl (Nat.le_of_ble_eq_true rfl) rfl (c_X12_isPicture p1 hr1 (CI.mk ?_))
  refine e_if_ne (tgt := 14) dX12_reel_5 rfl (fun hc2 => ?_) (fun hc2 => ?_)
  · replace h9 := ifF hc2 h9
    refine e_iload_n dX12_reel_14 rfl rfl ?_
    refine e_if_lt (tgt := 25) dX12_reel_15 rfl (fun hc3 => ?_) (fun hc3 => ?_)
    · replace h9 := ifT hc3 h9
      refine e_aload_n dX12_reel_25 rfl rfl ?_
      refine e_bipush (v := (-6)) dX12_reel_26 rfl ?_
      obtain ⟨⟨r4, w5⟩, hr4, h9⟩ := elimP hN0 h9
      refine x_callVi (c := 12) (As := [.int (-6)]) (rest := []) okX12_no lkX12_263 rfl (by decide) rfl dX12_reel_28 rfl rfl (Nat.le_of_ble_eq_true rfl) rfl (c_X12_no (-6) hr4 (CI.mk ?_))
      exact x_iret dX12_reel_31 rfl (hR0 _ _ h9)
    · replace h9 := ifF hc3 h9
      refine e_iload_n dX12_reel_18 rfl rfl ?_
      refine e_sipush (v := 400) dX12_reel_19 rfl ?_
      refine e_icmp_le (tgt := 32) dX12_reel_22 rfl (fun hc7 => ?_) (fun hc7 => ?_)
      · replace h9 := ifT hc7 h9
        refine e_aload_n dX12_reel_32 rfl rfl ?_
        refine g_1235 flX12_91 dX12_reel_33 ?_
        refine e_iload_n dX12_reel_36 rfl rfl ?_
        obtain ⟨k8, h9⟩ := chkP hN0 h9
        refine l_1235 dX12_reel_37 (inb_in k8) ?_
        refine e_istore_n (L' := [some (.ref (ad 12 0)), some (.int p1), some (.int p2), some (.int (m.2.1 1235 0 p1.toNatClampNeg)), none, none, none, none, none, none, none, none]) dX12_reel_38 rfl (by decide) rfl ?_
        refine e_aload_n dX12_reel_39 rfl rfl ?_
        refine g_1282 flX12_229 dX12_reel_40 ?_
        refine e_iload_n dX12_reel_43 rfl rfl ?_
        refine e_pc (pc' := 44) rfl ?_
        refine e_iconst (v := 0) dX12_reel_44 rfl ?_
        obtain ⟨k9, h9⟩ := chkP hN0 h9
        refine s_1282 dX12_reel_45 (inb_in k9) ?_
        refine e_iload_n dX12_reel_46 rfl rfl ?_
        refine e_iconst (v := 1) dX12_reel_47 rfl ?_
        refine e_isub dX12_reel_48 ?_
        refine e_istore (L' := [some (.ref (ad 12 0)), some (.int p1), some (.int p2), some (.int (m.2.1 1235 0 p1.toNatClampNeg)), some (.int ((m.2.1 1235 0 p1.toNatClampNeg) - 1)), none, none, none, none, none, none, none]) dX12_reel_49 (by decide) rfl ?_
        refine loop_gen (b_X12_reel_51 m p1 p2) none (fun v10 => EX g (d + 1) MX12_reel ad x v10.2 51 [some (.ref (ad 12 0)), some (.int p1), some (.int p2), some (.int (m.2.1 1235 0 p1.toNatClampNeg)), some (.int v10.1), none, none, none, none, none, none, none] [] Q) Φ0 hN0 (fun v10 Φ1 hB0_1 hO1 h9 => ?_) ((m.2.1 1235 0 p1.toNatClampNeg) - 1, setA m 1282 0 (upd (m.2.1 1282 0) ((m.2.1 1235 0 p1.toNatClampNeg).toNatClampNeg) 0)) h9
        have hN1 := fun h => hN0 (hO1 _ h)
        have hR1 := fun r9 x9 h => hR0 r9 x9 (hO1 _ h)
        have hB0_1 : ∀ (z0 : Int32) (z1 : VM), Φ1 (Sum.inl (z0, z1)) → EX g (d + 1) MX12_reel ad x z1 51 [some (.ref (ad 12 0)), some (.int p1), some (.int p2), some (.int (m.2.1 1235 0 p1.toNatClampNeg)), some (.int z0), none, none, none, none, none, none, none] [] Q := fun z0 z1 h => hB0_1 (z0, z1) h
        unfold b_X12_reel_51 at h9
        refine e_iload dX12_reel_51 rfl ?_
        refine e_if_lt (tgt := 151) dX12_reel_53 rfl (fun hc11 => ?_) (fun hc11 => ?_)
        · replace h9 := ifT hc11 h9
          refine e_iconst (v := (-1)) dX12_reel_151 rfl ?_
          refine e_istore (L' := [some (.ref (ad 12 0)), some (.int p1), some (.int p2), some (.int (m.2.1 1235 0 p1.toNatClampNeg)), some (.int (-1)), none, none, none, none, none, none, none]) dX12_reel_152 (by decide) rfl ?_
          refine e_iconst (v := 0) dX12_reel_154 rfl ?_
          refine e_istore (L' := [some (.ref (ad 12 0)), some (.int p1), some (.int p2), some (.int (m.2.1 1235 0 p1.toNatClampNeg)), some (.int (-1)), some (.int 0), none, none, none, none, none, none]) dX12_reel_155 (by decide) rfl ?_
          refine e_iconst (v := 0) dX12_reel_157 rfl ?_
          refine e_istore (L' := [some (.ref (ad 12 0)), some (.int p1), some (.int p2), some (.int (m.2.1 1235 0 p1.toNatClampNeg)), some (.int (-1)), some (.int 0), some (.int 0), none, none, none, none, none]) dX12_reel_158 (by decide) rfl ?_
          refine e_aload_n dX12_reel_160 rfl rfl ?_
          refine g_1279 flX12_220 dX12_reel_161 ?_
          refine e_pc (pc' := 164) rfl ?_
          refine e_iconst (v := 0) dX12_reel_164 rfl ?_
          refine e_iconst (v := 0) dX12_reel_165 rfl ?_
          refine s_1279 dX12_reel_166 (inb_in (by decide)) ?_
          refine e_aload_n dX12_reel_167 rfl rfl ?_
          refine g_1280 flX12_223 dX12_reel_168 ?_
          refine e_iconst (v := 0) dX12_reel_171 rfl ?_
          refine e_iconst (v := 0) dX12_reel_172 rfl ?_
          refine s_1280 dX12_reel_173 (inb_in (by decide)) ?_
          refine e_aload_n dX12_reel_174 rfl rfl ?_
          refine e_pc (pc' := 175) rfl ?_
          refine g_1281 flX12_226 dX12_reel_175 ?_
          refine e_iconst (v := 0) dX12_reel_178 rfl ?_
          refine e_iconst (v := (-1)) dX12_reel_179 rfl ?_
          refine s_1281 dX12_reel_180 (inb_in (by decide)) ?_
          refine e_aload_n dX12_reel_181 rfl rfl ?_
          refine g_1278 flX12_217 dX12_reel_182 ?_
          refine e_iconst (v := 0) dX12_reel_185 rfl ?_
          refine e_iconst (v := (-1)) dX12_reel_186 rfl ?_
          refine s_1278 dX12_reel_187 (inb_in (by decide)) ?_
          refine loop_gen (b_X12_reel_188 m p1 p2 v10) (Sum.inr none) (fun v12 => EX g (d + 1) MX12_reel ad x v12.2.2.2 188 [some (.ref (ad 12 0)), some (.int p1), some (.int p2), some (.int (m.2.1 1235 0 p1.toNatClampNeg)), some (.int v12.1), some (.int v12.2.1), some (.int v12.2.2.1), none, none, none, none, none] [] Q) Φ1 hN1 (fun v12 Φ2 hB1_2 hO2 h9 => ?_) ((-1), 0, 0, setA (setA (setA (setA v10.2 1279 0 (upd (v10.2.2.1 1279 0) ((0 : Int32).toNatClampNeg) 0)) 1280 0 (upd ((setA v10.2 1279 0 (upd (v10.2.2.1 1279 0) ((0 : Int32).toNatClampNeg) 0)).2.1 1280 0) ((0 : Int32).toNatClampNeg) 0)) 1281 0 (upd ((setA (setA v10.2 1279 0 (upd (v10.2.2.1 1279 0) ((0 : Int32).toNatClampNeg) 0)) 1280 0 (upd ((setA v10.2 1279 0 (upd (v10.2.2.1 1279 0) ((0 : Int32).toNatClampNeg) 0)).2.1 1280 0) ((0 : Int32).toNatClampNeg) 0)).2.1 1281 0) ((0 : Int32).toNatClampNeg) (-1))) 1278 0 (upd ((setA (setA (setA v10.2 1279 0 (upd (v10.2.2.1 1279 0) ((0 : Int32).toNatClampNeg) 0)) 1280 0 (upd ((setA v10.2 1279 0 (upd (v10.2.2.1 1279 0) ((0 : Int32).toNatClampNeg) 0)).2.1 1280 0) ((0 : Int32).toNatClampNeg) 0)) 1281 0 (upd ((setA (setA v10.2 1279 0 (upd (v10.2.2.1 1279 0) ((0 : Int32).toNatClampNeg) 0)) 1280 0 (upd ((setA v10.2 1279 0 (upd (v10.2.2.1 1279 0) ((0 : Int32).toNatClampNeg) 0)).2.1 1280 0) ((0 : Int32).toNatClampNeg) 0)).2.1 1281 0) ((0 : Int32).toNatClampNeg) (-1))).2.1 1278 0) ((0 : Int32).toNatClampNeg) (-1))) h9
          have hN2 := fun h => hN1 (hO2 _ h)
          have hR2 := fun r9 x9 h => hR1 r9 x9 (hO2 _ h)
          have hB0_2 : ∀ (z0 : Int32) (z1 : VM), Φ2 (Sum.inr (Sum.inl (z0, z1))) → EX g (d + 1) MX12_reel ad x z1 51 [some (.ref (ad 12 0)), some (.int p1), some (.int p2), some (.int (m.2.1 1235 0 p1.toNatClampNeg)), some (.int z0), none, none, none, none, none, none, none] [] Q := fun z0 z1 h => hB0_1 z0 z1 (hO2 _ h)
          have hB1_2 : ∀ (z0 : Int32) (z1 : Int32) (z2 : Int32) (z3 : VM), Φ2 (Sum.inl (z0, z1, z2, z3)) → EX g (d + 1) MX12_reel ad x z3 188 [some (.ref (ad 12 0)), some (.int p1), some (.int p2), some (.int (m.2.1 1235 0 p1.toNatClampNeg)), some (.int z0), some (.int z1), some (.int z2), none, none, none, none, none] [] Q := fun z0 z1 z2 z3 h => hB1_2 (z0, z1, z2, z3) h
          unfold b_X12_reel_188 at h9
          refine e_iload dX12_reel_188 rfl ?_
          refine e_if_lt (tgt := 607) dX12_reel_190 rfl (fun hc13 => ?_) (fun hc13 => ?_)
          · replace h9 := ifT hc13 h9
            refine e_iload dX12_reel_607 rfl ?_
            exact x_iret dX12_reel_609 rfl (hR2 _ _ h9)
          · replace h9 := ifF hc13 h9
            refine e_iload dX12_reel_193 rfl ?_
            refine e_iload_n dX12_reel_195 rfl rfl ?_
            refine e_icmp_ne (tgt := 314) dX12_reel_196 rfl (fun hc14 => ?_) (fun hc14 => ?_)
            · replace h9 := ifF hc14 h9
              refine e_bipush (v := 8) dX12_reel_314 rfl ?_
              refine e_iload_n dX12_reel_316 rfl rfl ?_
              refine e_imul dX12_reel_317 ?_
              refine e_iload dX12_reel_318 rfl ?_
              refine e_iadd dX12_reel_320 ?_
              refine e_istore (L' := [some (.ref (ad 12 0)), some (.int p1), some (.int p2), some (.int (m.2.1 1235 0 p1.toNatClampNeg)), some (.int v12.1), some (.int v12.2.1), some (.int v12.2.2.1), some (.int ((8 * p1) + v12.2.2.1)), none, none, none, none]) dX12_reel_321 (by decide) rfl ?_
              refine e_aload_n dX12_reel_323 rfl rfl ?_
              refine g_1278 flX12_217 dX12_reel_324 ?_
              refine e_pc (pc' := 327) rfl ?_
              refine e_iload dX12_reel_327 rfl ?_
              obtain ⟨k15, h9⟩ := chkP hN2 h9
              refine l_1278 dX12_reel_329 (inb_in k15) ?_
              refine e_iconst (v := 1) dX12_reel_330 rfl ?_
              refine e_iadd dX12_reel_331 ?_
              refine e_istore (L' := [some (.ref (ad 12 0)), some (.int p1), some (.int p2), some (.int (m.2.1 1235 0 p1.toNatClampNeg)), some (.int v12.1), some (.int v12.2.1), some (.int v12.2.2.1), some (.int ((8 * p1) + v12.2.2.1)), some (.int ((v12.2.2.2.2.1 1278 0 v12.2.2.1.toNatClampNeg) + 1)), none, none, none]) dX12_reel_332 (by decide) rfl ?_
              refine e_iconst (v := 0) dX12_reel_334 rfl ?_
              refine e_istore (L' := [some (.ref (ad 12 0)), some (.int p1), some (.int p2), some (.int (m.2.1 1235 0 p1.toNatClampNeg)), some (.int v12.1), some (.int v12.2.1), some (.int v12.2.2.1), some (.int ((8 * p1) + v12.2.2.1)), some (.int ((v12.2.2.2.2.1 1278 0 v12.2.2.1.toNatClampNeg) + 1)), some (.int 0), none, none]) dX12_reel_335 (by decide) rfl ?_
              refine loop_gen (b_X12_reel_337 m p1 p2 v10 v12) (Sum.inr (Sum.inr none)) (fun v16 => EX g (d + 1) MX12_reel ad x v16.2.2 337 [some (.ref (ad 12 0)), some (.int p1), some (.int p2), some (.int (m.2.1 1235 0 p1.toNatClampNeg)), some (.int v12.1), some (.int v12.2.1), some (.int v12.2.2.1), some (.int ((8 * p1) + v12.2.2.1)), some (.int v16.1), some (.int v16.2.1), none, none] [] Q) Φ2 hN2 (fun v16 Φ3 hB2_3 hO3 h9 => ?_) ((v12.2.2.2.2.1 1278 0 v12.2.2.1.toNatClampNeg) + 1, 0, v12.2.2.2) h9
              have hN3 := fun h => hN2 (hO3 _ h)
              have hR3 := fun r9 x9 h => hR2 r9 x9 (hO3 _ h)
              have hB0_3 : ∀ (z0 : Int32) (z1 : VM), Φ3 (Sum.inr (Sum.inr (Sum.inl (z0, z1)))) → EX g (d + 1) MX12_reel ad x z1 51 [some (.ref (ad 12 0)), some (.int p1), some (.int p2), some (.int (m.2.1 1235 0 p1.toNatClampNeg)), some (.int z0), none, none, none, none, none, none, none] [] Q := fun z0 z1 h => hB0_2 z0 z1 (hO3 _ h)
              have hB1_3 : ∀ (z0 : Int32) (z1 : Int32) (z2 : Int32) (z3 : VM), Φ3 (Sum.inr (Sum.inl (z0, z1, z2, z3))) → EX g (d + 1) MX12_reel ad x z3 188 [some (.ref (ad 12 0)), some (.int p1), some (.int p2), some (.int (m.2.1 1235 0 p1.toNatClampNeg)), some (.int z0), some (.int z1), some (.int z2), none, none, none, none, none] [] Q := fun z0 z1 z2 z3 h => hB1_2 z0 z1 z2 z3 (hO3 _ h)
              have hB2_3 : ∀ (z0 : Int32) (z1 : Int32) (z2 : VM), Φ3 (Sum.inl (z0, z1, z2)) → EX g (d + 1) MX12_reel ad x z2 337 [some (.ref (ad 12 0)), some (.int p1), some (.int p2), some (.int (m.2.1 1235 0 p1.toNatClampNeg)), some (.int v12.1), some (.int v12.2.1), some (.int v12.2.2.1), some (.int ((8 * p1) + v12.2.2.1)), some (.int z0), some (.int z1), none, none] [] Q := fun z0 z1 z2 h => hB2_3 (z0, z1, z2) h
              unfold b_X12_reel_337 at h9
              refine e_iload dX12_reel_337 rfl ?_
              refine e_aload_n dX12_reel_339 rfl rfl ?_
              refine g_1252 flX12_142 dX12_reel_340 ?_
              refine e_iload dX12_reel_343 rfl ?_
              obtain ⟨k17, h9⟩ := chkP hN3 h9
              refine l_1252 dX12_reel_345 (inb_in k17) ?_
              have hj573 : Φ3 (j_X12_reel_573 m p1 p2 v10 v12 v16) → EX g (d + 1) MX12_reel ad x v16.2.2 573 [some (.ref (ad 12 0)), some (.int p1), some (.int p2), some (.int (m.2.1 1235 0 p1.toNatClampNeg)), some (.int v12.1), some (.int v12.2.1), some (.int v12.2.2.1), none, some (.int v16.1), some (.int v16.2.1), none, none] [] Q := by
                intro h9
                unfold j_X12_reel_573 at h9
                refine e_iload dX12_reel_573 rfl ?_
                refine e_if_ne (tgt := 584) dX12_reel_575 rfl (fun hc18 => ?_) (fun hc18 => ?_)
                · replace h9 := ifF hc18 h9
                  refine e_aload_n dX12_reel_584 rfl rfl ?_
                  refine g_1278 flX12_217 dX12_reel_585 ?_
                  refine e_iload dX12_reel_588 rfl ?_
                  refine e_iload dX12_reel_590 rfl ?_
                  obtain ⟨k19, h9⟩ := chkP hN3 h9
                  refine s_1278 dX12_reel_592 (inb_in k19) ?_
                  refine e_iinc (v := (v12.2.2.1 + 1)) (L' := [some (.ref (ad 12 0)), some (.int p1), some (.int p2), some (.int (m.2.1 1235 0 p1.toNatClampNeg)), some (.int v12.1), some (.int v12.2.1), some (.int (v12.2.2.1 + 1)), none, some (.int v16.1), some (.int v16.2.1), none, none]) dX12_reel_593 rfl rfl (by decide) rfl ?_
                  refine e_aload_n dX12_reel_596 rfl rfl ?_
                  refine g_1278 flX12_217 dX12_reel_597 ?_
                  refine e_pc (pc' := 600) rfl ?_
                  refine e_iload dX12_reel_600 rfl ?_
                  refine e_iconst (v := (-1)) dX12_reel_602 rfl ?_
                  obtain ⟨k20, h9⟩ := chkP hN3 h9
                  refine s_1278 dX12_reel_603 (inb_in k20) ?_
                  refine e_goto (tgt := 188) dX12_reel_604 rfl ?_
                  refine e_wk (L' := [some (.ref (ad 12 0)), some (.int p1), some (.int p2), some (.int (m.2.1 1235 0 p1.toNatClampNeg)), some (.int v12.1), some (.int v12.2.1), some (.int (v12.2.2.1 + 1)), none, none, none, none, none]) (wkC (wkC (wkC (wkC (wkC (wkC (wkC (wkN (wkN (wkN (wkN (wkN wk0)))))))))))) ?_
                  exact hB1_3 _ _ _ _ h9
                · replace h9 := ifT hc18 h9
                  refine e_iinc (v := (v12.2.2.1 + (-1))) (L' := [some (.ref (ad 12 0)), some (.int p1), some (.int p2), some (.int (m.2.1 1235 0 p1.toNatClampNeg)), some (.int v12.1), some (.int v12.2.1), some (.int (v12.2.2.1 + (-1))), none, some (.int v16.1), some (.int v16.2.1), none, none]) dX12_reel_578 rfl rfl (by decide) rfl ?_
                  refine e_goto (tgt := 188) dX12_reel_581 rfl ?_
                  refine e_wk (L' := [some (.ref (ad 12 0)), some (.int p1), some (.int p2), some (.int (m.2.1 1235 0 p1.toNatClampNeg)), some (.int v12.1), some (.int v12.2.1), some (.int (v12.2.2.1 + (-1))), none, none, none, none, none]) (wkC (wkC (wkC (wkC (wkC (wkC (wkC (wkN (wkN (wkN (wkN (wkN wk0)))))))))))) ?_
                  exact hB1_3 _ _ _ _ h9
              refine e_icmp_gt (tgt := 573) dX12_reel_346 rfl (fun hc21 => ?_) (fun hc21 => ?_)
              · replace h9 := ifT hc21 h9
                refine e_wk (L' := [some (.ref (ad 12 0)), some (.int p1), some (.int p2), some (.int (m.2.1 1235 0 p1.toNatClampNeg)), some (.int v12.1), some (.int v12.2.1), some (.int v12.2.2.1), none, some (.int v16.1), some (.int v16.2.1), none, none]) (wkC (wkC (wkC (wkC (wkC (wkC (wkC (wkN (wkC (wkC (wkN (wkN wk0)))))))))))) ?_
                exact hj573 h9
              · replace h9 := ifF hc21 h9
                refine e_iload dX12_reel_349 rfl ?_
                refine e_if_ne (tgt := 573) dX12_reel_351 rfl (fun hc22 => ?_) (fun hc22 => ?_)
                · replace h9 := ifF hc22 h9
                  refine e_wk (L' := [some (.ref (ad 12 0)), some (.int p1), some (.int p2), some (.int (m.2.1 1235 0 p1.toNatClampNeg)), some (.int v12.1), some (.int v12.2.1), some (.int v12.2.2.1), none, some (.int v16.1), some (.int v16.2.1), none, none]) (wkC (wkC (wkC (wkC (wkC (wkC (wkC (wkN (wkC (wkC (wkN (wkN wk0)))))))))))) ?_
                  exact hj573 h9
                · replace h9 := ifT hc22 h9
                  refine e_iconst (v := 4) dX12_reel_354 rfl ?_
                  refine e_iload dX12_reel_355 rfl ?_
                  refine e_imul dX12_reel_357 ?_
                  refine e_iload dX12_reel_358 rfl ?_
                  refine e_iadd dX12_reel_360 ?_
                  refine e_istore (L' := [some (.ref (ad 12 0)), some (.int p1), some (.int p2), some (.int (m.2.1 1235 0 p1.toNatClampNeg)), some (.int v12.1), some (.int v12.2.1), some (.int v12.2.2.1), some (.int ((8 * p1) + v12.2.2.1)), some (.int v16.1), some (.int v16.2.1), some (.int ((4 * ((8 * p1) + v12.2.2.1)) + v16.1)), none]) dX12_reel_361 (by decide) rfl ?_
                  refine e_iload dX12_reel_363 rfl ?_
                  refine e_aload_n dX12_reel_365 rfl rfl ?_
                  refine e_pc (pc' := 366) rfl ?_
                  refine g_1252 flX12_142 dX12_reel_366 ?_
                  refine e_iload dX12_reel_369 rfl ?_
                  obtain ⟨k23, h9⟩ := chkP hN3 h9
                  refine l_1252 dX12_reel_371 (inb_in k23) ?_
                  have hj481 : ∀ (a24 : Int32) (a25 : Int32) (a26 : Int32) (w27 : VM), Φ3 (j_X12_reel_481 m p1 p2 v10 v12 v16 a24 a25 a26 w27) → EX g (d + 1) MX12_reel ad x w27 481 [some (.ref (ad 12 0)), some (.int p1), some (.int p2), some (.int (m.2.1 1235 0 p1.toNatClampNeg)), some (.int v12.1), some (.int v12.2.1), some (.int v12.2.2.1), some (.int ((8 * p1) + v12.2.2.1)), some (.int v16.1), none, some (.int ((4 * ((8 * p1) + v12.2.2.1)) + v16.1)), some (.int a24)] [.int a25, .int a26, .ref (ad 2281 0)] Q := by
                    intro a24 a25 a26 w27 h9
                    unfold j_X12_reel_481 at h9
                    obtain ⟨k28, h9⟩ := chkP hN3 h9
                    refine s_1281 dX12_reel_481 (inb_in k28) ?_
                    refine e_aload_n dX12_reel_482 rfl rfl ?_
                    refine g_1279 flX12_220 dX12_reel_483 ?_
                    refine e_iload dX12_reel_486 rfl ?_
                    refine e_iconst (v := 1) dX12_reel_488 rfl ?_
                    refine e_iadd dX12_reel_489 ?_
                    obtain ⟨k29, h9⟩ := chkP hN3 h9
                    refine l_1279 dX12_reel_490 (inb_in k29) ?_
                    refine e_iload_n dX12_reel_491 rfl rfl ?_
                    refine e_pc (pc' := 492) rfl ?_
                    refine e_icmp_gt (tgt := 559) dX12_reel_492 rfl (fun hc30 => ?_) (fun hc30 => ?_)
                    · replace h9 := ifT hc30 h9
                      refine e_iconst (v := 0) dX12_reel_559 rfl ?_
                      refine e_istore (L' := [some (.ref (ad 12 0)), some (.int p1), some (.int p2), some (.int (m.2.1 1235 0 p1.toNatClampNeg)), some (.int v12.1), some (.int v12.2.1), some (.int v12.2.2.1), some (.int ((8 * p1) + v12.2.2.1)), some (.int v16.1), some (.int 0), some (.int ((4 * ((8 * p1) + v12.2.2.1)) + v16.1)), some (.int a24)]) dX12_reel_560 (by decide) rfl ?_
                      refine e_iload dX12_reel_562 rfl ?_
                      refine e_if_ne (tgt := 570) dX12_reel_564 rfl (fun hc31 => ?_) (fun hc31 => ?_)
                      · replace h9 := ifF hc31 h9
                        refine e_goto (tgt := 337) dX12_reel_570 rfl ?_
                        refine e_wk (L' := [some (.ref (ad 12 0)), some (.int p1), some (.int p2), some (.int (m.2.1 1235 0 p1.toNatClampNeg)), some (.int v12.1), some (.int v12.2.1), some (.int v12.2.2.1), some (.int ((8 * p1) + v12.2.2.1)), some (.int v16.1), some (.int 0), none, none]) (wkC (wkC (wkC (wkC (wkC (wkC (wkC (wkC (wkC (wkC (wkN (wkN wk0)))))))))))) ?_
                        exact hB2_3 _ _ _ h9
                      · replace h9 := ifT hc31 h9
                        refine e_iinc (v := (v16.1 + 1)) (L' := [some (.ref (ad 12 0)), some (.int p1), some (.int p2), some (.int (m.2.1 1235 0 p1.toNatClampNeg)), some (.int v12.1), some (.int v12.2.1), some (.int v12.2.2.1), some (.int ((8 * p1) + v12.2.2.1)), some (.int (v16.1 + 1)), some (.int 0), some (.int ((4 * ((8 * p1) + v12.2.2.1)) + v16.1)), some (.int a24)]) dX12_reel_567 rfl rfl (by decide) rfl ?_
                        refine e_goto (tgt := 337) dX12_reel_570 rfl ?_
                        refine e_wk (L' := [some (.ref (ad 12 0)), some (.int p1), some (.int p2), some (.int (m.2.1 1235 0 p1.toNatClampNeg)), some (.int v12.1), some (.int v12.2.1), some (.int v12.2.2.1), some (.int ((8 * p1) + v12.2.2.1)), some (.int (v16.1 + 1)), some (.int 0), none, none]) (wkC (wkC (wkC (wkC (wkC (wkC (wkC (wkC (wkC (wkC (wkN (wkN wk0)))))))))))) ?_
                        exact hB2_3 _ _ _ h9
                    · replace h9 := ifF hc30 h9
                      refine e_aload_n dX12_reel_495 rfl rfl ?_
                      refine g_1280 flX12_223 dX12_reel_496 ?_
                      refine e_iload dX12_reel_499 rfl ?_
                      refine e_iconst (v := 1) dX12_reel_501 rfl ?_
                      refine e_iadd dX12_reel_502 ?_
                      obtain ⟨k32, h9⟩ := chkP hN3 h9
                      refine l_1280 dX12_reel_503 (inb_in k32) ?_
                      refine e_aload_n dX12_reel_504 rfl rfl ?_
                      refine g_1282 flX12_229 dX12_reel_505 ?_
                      refine e_pc (pc' := 508) rfl ?_
                      refine e_iload dX12_reel_508 rfl ?_
                      refine e_iconst (v := 1) dX12_reel_510 rfl ?_
                      refine e_iadd dX12_reel_511 ?_
                      obtain ⟨k33, h9⟩ := chkP hN3 h9
                      refine l_1282 dX12_reel_512 (inb_in k33) ?_
                      refine e_iadd dX12_reel_513 ?_
                      refine e_iload dX12_reel_514 rfl ?_
                      refine e_icmp_lt (tgt := 559) dX12_reel_516 rfl (fun hc34 => ?_) (fun hc34 => ?_)
                      · replace h9 := ifT hc34 h9
                        refine e_iconst (v := 0) dX12_reel_559 rfl ?_
                        refine e_istore (L' := [some (.ref (ad 12 0)), some (.int p1), some (.int p2), some (.int (m.2.1 1235 0 p1.toNatClampNeg)), some (.int v12.1), some (.int v12.2.1), some (.int v12.2.2.1), some (.int ((8 * p1) + v12.2.2.1)), some (.int v16.1), some (.int 0), some (.int ((4 * ((8 * p1) + v12.2.2.1)) + v16.1)), some (.int a24)]) dX12_reel_560 (by decide) rfl ?_
                        refine e_iload dX12_reel_562 rfl ?_
                        refine e_if_ne (tgt := 570) dX12_reel_564 rfl (fun hc35 => ?_) (fun hc35 => ?_)
                        · replace h9 := ifF hc35 h9
                          refine e_goto (tgt := 337) dX12_reel_570 rfl ?_
                          refine e_wk (L' := [some (.ref (ad 12 0)), some (.int p1), some (.int p2), some (.int (m.2.1 1235 0 p1.toNatClampNeg)), some (.int v12.1), some (.int v12.2.1), some (.int v12.2.2.1), some (.int ((8 * p1) + v12.2.2.1)), some (.int v16.1), some (.int 0), none, none]) (wkC (wkC (wkC (wkC (wkC (wkC (wkC (wkC (wkC (wkC (wkN (wkN wk0)))))))))))) ?_
                          exact hB2_3 _ _ _ h9
                        · replace h9 := ifT hc35 h9
                          refine e_iinc (v := (v16.1 + 1)) (L' := [some (.ref (ad 12 0)), some (.int p1), some (.int p2), some (.int (m.2.1 1235 0 p1.toNatClampNeg)), some (.int v12.1), some (.int v12.2.1), some (.int v12.2.2.1), some (.int ((8 * p1) + v12.2.2.1)), some (.int (v16.1 + 1)), some (.int 0), some (.int ((4 * ((8 * p1) + v12.2.2.1)) + v16.1)), some (.int a24)]) dX12_reel_567 rfl rfl (by decide) rfl ?_
                          refine e_goto (tgt := 337) dX12_reel_570 rfl ?_
                          refine e_wk (L' := [some (.ref (ad 12 0)), some (.int p1), some (.int p2), some (.int (m.2.1 1235 0 p1.toNatClampNeg)), some (.int v12.1), some (.int v12.2.1), some (.int v12.2.2.1), some (.int ((8 * p1) + v12.2.2.1)), some (.int (v16.1 + 1)), some (.int 0), none, none]) (wkC (wkC (wkC (wkC (wkC (wkC (wkC (wkC (wkC (wkC (wkN (wkN wk0)))))))))))) ?_
                          exact hB2_3 _ _ _ h9
                      · replace h9 := ifF hc34 h9
                        refine e_iload dX12_reel_519 rfl ?_
                        refine e_if_eq (tgt := 555) dX12_reel_521 rfl (fun hc36 => ?_) (fun hc36 => ?_)
                        · replace h9 := ifT hc36 h9
                          refine e_iconst (v := 1) dX12_reel_555 rfl ?_
                          refine e_goto (tgt := 560) dX12_reel_556 rfl ?_
                          refine e_istore (L' := [some (.ref (ad 12 0)), some (.int p1), some (.int p2), some (.int (m.2.1 1235 0 p1.toNatClampNeg)), some (.int v12.1), some (.int v12.2.1), some (.int v12.2.2.1), some (.int ((8 * p1) + v12.2.2.1)), some (.int v16.1), some (.int 1), some (.int ((4 * ((8 * p1) + v12.2.2.1)) + v16.1)), some (.int a24)]) dX12_reel_560 (by decide) rfl ?_
                          refine e_iload dX12_reel_562 rfl ?_
                          refine e_if_ne (tgt := 570) dX12_reel_564 rfl (fun hc37 => ?_) (fun hc37 => ?_)
                          · replace h9 := ifF hc37 h9
                            refine e_goto (tgt := 337) dX12_reel_570 rfl ?_
                            refine e_wk (L' := [some (.ref (ad 12 0)), some (.int p1), some (.int p2), some (.int (m.2.1 1235 0 p1.toNatClampNeg)), some (.int v12.1), some (.int v12.2.1), some (.int v12.2.2.1), some (.int ((8 * p1) + v12.2.2.1)), some (.int v16.1), some (.int 1), none, none]) (wkC (wkC (wkC (wkC (wkC (wkC (wkC (wkC (wkC (wkC (wkN (wkN wk0)))))))))))) ?_
                            exact hB2_3 _ _ _ h9
                          · replace h9 := ifT hc37 h9
                            refine e_iinc (v := (v16.1 + 1)) (L' := [some (.ref (ad 12 0)), some (.int p1), some (.int p2), some (.int (m.2.1 1235 0 p1.toNatClampNeg)), some (.int v12.1), some (.int v12.2.1), some (.int v12.2.2.1), some (.int ((8 * p1) + v12.2.2.1)), some (.int (v16.1 + 1)), some (.int 1), some (.int ((4 * ((8 * p1) + v12.2.2.1)) + v16.1)), some (.int a24)]) dX12_reel_567 rfl rfl (by decide) rfl ?_
                            refine e_goto (tgt := 337) dX12_reel_570 rfl ?_
                            refine e_wk (L' := [some (.ref (ad 12 0)), some (.int p1), some (.int p2), some (.int (m.2.1 1235 0 p1.toNatClampNeg)), some (.int v12.1), some (.int v12.2.1), some (.int v12.2.2.1), some (.int ((8 * p1) + v12.2.2.1)), some (.int (v16.1 + 1)), some (.int 1), none, none]) (wkC (wkC (wkC (wkC (wkC (wkC (wkC (wkC (wkC (wkC (wkN (wkN wk0)))))))))))) ?_
                            exact hB2_3 _ _ _ h9
                        · replace h9 := ifF hc36 h9
                          refine e_aload_n dX12_reel_524 rfl rfl ?_
                          refine g_1281 flX12_226 dX12_reel_525 ?_
                          refine e_iload dX12_reel_528 rfl ?_
                          obtain ⟨k38, h9⟩ := chkP hN3 h9
                          refine l_1281 dX12_reel_530 (inb_in k38) ?_
                          refine e_iconst (v := (-1)) dX12_reel_531 rfl ?_
                          refine e_icmp_eq (tgt := 555) dX12_reel_532 rfl (fun hc39 => ?_) (fun hc39 => ?_)
                          · replace h9 := ifT hc39 h9
                            refine e_iconst (v := 1) dX12_reel_555 rfl ?_
                            refine e_goto (tgt := 560) dX12_reel_556 rfl ?_
                            refine e_istore (L' := [some (.ref (ad 12 0)), some (.int p1), some (.int p2), some (.int (m.2.1 1235 0 p1.toNatClampNeg)), some (.int v12.1), some (.int v12.2.1), some (.int v12.2.2.1), some (.int ((8 * p1) + v12.2.2.1)), some (.int v16.1), some (.int 1), some (.int ((4 * ((8 * p1) + v12.2.2.1)) + v16.1)), some (.int a24)]) dX12_reel_560 (by decide) rfl ?_
                            refine e_iload dX12_reel_562 rfl ?_
                            refine e_if_ne (tgt := 570) dX12_reel_564 rfl (fun hc40 => ?_) (fun hc40 => ?_)
                            · replace h9 := ifF hc40 h9
                              refine e_goto (tgt := 337) dX12_reel_570 rfl ?_
                              refine e_wk (L' := [some (.ref (ad 12 0)), some (.int p1), some (.int p2), some (.int (m.2.1 1235 0 p1.toNatClampNeg)), some (.int v12.1), some (.int v12.2.1), some (.int v12.2.2.1), some (.int ((8 * p1) + v12.2.2.1)), some (.int v16.1), some (.int 1), none, none]) (wkC (wkC (wkC (wkC (wkC (wkC (wkC (wkC (wkC (wkC (wkN (wkN wk0)))))))))))) ?_
                              exact hB2_3 _ _ _ h9
                            · replace h9 := ifT hc40 h9
                              refine e_iinc (v := (v16.1 + 1)) (L' := [some (.ref (ad 12 0)), some (.int p1), some (.int p2), some (.int (m.2.1 1235 0 p1.toNatClampNeg)), some (.int v12.1), some (.int v12.2.1), some (.int v12.2.2.1), some (.int ((8 * p1) + v12.2.2.1)), some (.int (v16.1 + 1)), some (.int 1), some (.int ((4 * ((8 * p1) + v12.2.2.1)) + v16.1)), some (.int a24)]) dX12_reel_567 rfl rfl (by decide) rfl ?_
                              refine e_goto (tgt := 337) dX12_reel_570 rfl ?_
                              refine e_wk (L' := [some (.ref (ad 12 0)), some (.int p1), some (.int p2), some (.int (m.2.1 1235 0 p1.toNatClampNeg)), some (.int v12.1), some (.int v12.2.1), some (.int v12.2.2.1), some (.int ((8 * p1) + v12.2.2.1)), some (.int (v16.1 + 1)), some (.int 1), none, none]) (wkC (wkC (wkC (wkC (wkC (wkC (wkC (wkC (wkC (wkC (wkN (wkN wk0)))))))))))) ?_
                              exact hB2_3 _ _ _ h9
                          · replace h9 := ifF hc39 h9
                            refine e_aload_n dX12_reel_535 rfl rfl ?_
                            refine g_1281 flX12_226 dX12_reel_536 ?_
                            refine e_iload dX12_reel_539 rfl ?_
                            obtain ⟨k41, h9⟩ := chkP hN3 h9
                            refine l_1281 dX12_reel_541 (inb_in k41) ?_
                            refine e_aload_n dX12_reel_542 rfl rfl ?_
                            refine g_1255 flX12_151 dX12_reel_543 ?_
                            refine e_iload dX12_reel_546 rfl ?_
                            obtain ⟨k42, h9⟩ := chkP hN3 h9
                            refine l_1255 dX12_reel_548 (inb_in k42) ?_
                            refine e_pc (pc' := 549) rfl ?_
                            refine e_bipush (v := 10) dX12_reel_549 rfl ?_
                            refine e_idiv dX12_reel_551 (by decide) ?_
                            refine e_icmp_ne (tgt := 559) dX12_reel_552 rfl (fun hc43 => ?_) (fun hc43 => ?_)
                            · replace h9 := ifF hc43 h9
                              refine e_iconst (v := 0) dX12_reel_559 rfl ?_
                              refine e_istore (L' := [some (.ref (ad 12 0)), some (.int p1), some (.int p2), some (.int (m.2.1 1235 0 p1.toNatClampNeg)), some (.int v12.1), some (.int v12.2.1), some (.int v12.2.2.1), some (.int ((8 * p1) + v12.2.2.1)), some (.int v16.1), some (.int 0), some (.int ((4 * ((8 * p1) + v12.2.2.1)) + v16.1)), some (.int a24)]) dX12_reel_560 (by decide) rfl ?_
                              refine e_iload dX12_reel_562 rfl ?_
                              refine e_if_ne (tgt := 570) dX12_reel_564 rfl (fun hc44 => ?_) (fun hc44 => ?_)
                              · replace h9 := ifF hc44 h9
                                refine e_goto (tgt := 337) dX12_reel_570 rfl ?_
                                refine e_wk (L' := [some (.ref (ad 12 0)), some (.int p1), some (.int p2), some (.int (m.2.1 1235 0 p1.toNatClampNeg)), some (.int v12.1), some (.int v12.2.1), some (.int v12.2.2.1), some (.int ((8 * p1) + v12.2.2.1)), some (.int v16.1), some (.int 0), none, none]) (wkC (wkC (wkC (wkC (wkC (wkC (wkC (wkC (wkC (wkC (wkN (wkN wk0)))))))))))) ?_
                                exact hB2_3 _ _ _ h9
                              · replace h9 := ifT hc44 h9
                                refine e_iinc (v := (v16.1 + 1)) (L' := [some (.ref (ad 12 0)), some (.int p1), some (.int p2), some (.int (m.2.1 1235 0 p1.toNatClampNeg)), some (.int v12.1), some (.int v12.2.1), some (.int v12.2.2.1), some (.int ((8 * p1) + v12.2.2.1)), some (.int (v16.1 + 1)), some (.int 0), some (.int ((4 * ((8 * p1) + v12.2.2.1)) + v16.1)), some (.int a24)]) dX12_reel_567 rfl rfl (by decide) rfl ?_
                                refine e_goto (tgt := 337) dX12_reel_570 rfl ?_
                                refine e_wk (L' := [some (.ref (ad 12 0)), some (.int p1), some (.int p2), some (.int (m.2.1 1235 0 p1.toNatClampNeg)), some (.int v12.1), some (.int v12.2.1), some (.int v12.2.2.1), some (.int ((8 * p1) + v12.2.2.1)), some (.int (v16.1 + 1)), some (.int 0), none, none]) (wkC (wkC (wkC (wkC (wkC (wkC (wkC (wkC (wkC (wkC (wkN (wkN wk0)))))))))))) ?_
                                exact hB2_3 _ _ _ h9
                            · replace h9 := ifT hc43 h9
                              refine e_iconst (v := 1) dX12_reel_555 rfl ?_
                              refine e_goto (tgt := 560) dX12_reel_556 rfl ?_
                              refine e_istore (L' := [some (.ref (ad 12 0)), some (.int p1), some (.int p2), some (.int (m.2.1 1235 0 p1.toNatClampNeg)), some (.int v12.1), some (.int v12.2.1), some (.int v12.2.2.1), some (.int ((8 * p1) + v12.2.2.1)), some (.int v16.1), some (.int 1), some (.int ((4 * ((8 * p1) + v12.2.2.1)) + v16.1)), some (.int a24)]) dX12_reel_560 (by decide) rfl ?_
                              refine e_iload dX12_reel_562 rfl ?_
                              refine e_if_ne (tgt := 570) dX12_reel_564 rfl (fun hc45 => ?_) (fun hc45 => ?_)
                              · replace h9 := ifF hc45 h9
                                refine e_goto (tgt := 337) dX12_reel_570 rfl ?_
                                refine e_wk (L' := [some (.ref (ad 12 0)), some (.int p1), some (.int p2), some (.int (m.2.1 1235 0 p1.toNatClampNeg)), some (.int v12.1), some (.int v12.2.1), some (.int v12.2.2.1), some (.int ((8 * p1) + v12.2.2.1)), some (.int v16.1), some (.int 1), none, none]) (wkC (wkC (wkC (wkC (wkC (wkC (wkC (wkC (wkC (wkC (wkN (wkN wk0)))))))))))) ?_
                                exact hB2_3 _ _ _ h9
                              · replace h9 := ifT hc45 h9
                                refine e_iinc (v := (v16.1 + 1)) (L' := [some (.ref (ad 12 0)), some (.int p1), some (.int p2), some (.int (m.2.1 1235 0 p1.toNatClampNeg)), some (.int v12.1), some (.int v12.2.1), some (.int v12.2.2.1), some (.int ((8 * p1) + v12.2.2.1)), some (.int (v16.1 + 1)), some (.int 1), some (.int ((4 * ((8 * p1) + v12.2.2.1)) + v16.1)), some (.int a24)]) dX12_reel_567 rfl rfl (by decide) rfl ?_
                                refine e_goto (tgt := 337) dX12_reel_570 rfl ?_
                                refine e_wk (L' := [some (.ref (ad 12 0)), some (.int p1), some (.int p2), some (.int (m.2.1 1235 0 p1.toNatClampNeg)), some (.int v12.1), some (.int v12.2.1), some (.int v12.2.2.1), some (.int ((8 * p1) + v12.2.2.1)), some (.int (v16.1 + 1)), some (.int 1), none, none]) (wkC (wkC (wkC (wkC (wkC (wkC (wkC (wkC (wkC (wkC (wkN (wkN wk0)))))))))))) ?_
                                exact hB2_3 _ _ _ h9
                  have hj446 : ∀ (a46 : Int32) (a47 : Int32) (a48 : Int32) (a49 : Int32) (w50 : VM), Φ3 (j_X12_reel_446 m p1 p2 v10 v12 v16 a46 a47 a48 a49 w50) → EX g (d + 1) MX12_reel ad x w50 446 [some (.ref (ad 12 0)), some (.int p1), some (.int p2), some (.int (m.2.1 1235 0 p1.toNatClampNeg)), some (.int v12.1), some (.int v12.2.1), some (.int v12.2.2.1), some (.int ((8 * p1) + v12.2.2.1)), some (.int v16.1), none, some (.int ((4 * ((8 * p1) + v12.2.2.1)) + v16.1)), some (.int a46)] [.int a47, .int a48, .int a49, .ref (ad 2280 0)] Q := by
                    intro a46 a47 a48 a49 w50 h9
                    unfold j_X12_reel_446 at h9
                    refine e_iadd dX12_reel_446 ?_
                    obtain ⟨k51, h9⟩ := chkP hN3 h9
                    refine s_1280 dX12_reel_447 (inb_in k51) ?_
                    refine e_aload_n dX12_reel_448 rfl rfl ?_
                    refine g_1281 flX12_226 dX12_reel_449 ?_
                    refine e_iload dX12_reel_452 rfl ?_
                    refine e_iconst (v := 1) dX12_reel_454 rfl ?_
                    refine e_iadd dX12_reel_455 ?_
                    refine e_iload dX12_reel_456 rfl ?_
                    refine e_pc (pc' := 458) rfl ?_
                    refine e_if_eq (tgt := 474) dX12_reel_458 rfl (fun hc52 => ?_) (fun hc52 => ?_)
                    · replace h9 := ifT hc52 h9
                      refine e_aload_n dX12_reel_474 rfl rfl ?_
                      refine g_1281 flX12_226 dX12_reel_475 ?_
                      refine e_iload dX12_reel_478 rfl ?_
                      obtain ⟨k53, h9⟩ := chkP hN3 h9
                      refine l_1281 dX12_reel_480 (inb_in k53) ?_
                      exact hj481 a46 ((setA w50 1280 0 (upd (w50.2.1 1280 0) a49.toNatClampNeg (a48 + a47))).2.1 1281 0 v12.2.2.1.toNatClampNeg) (v12.2.2.1 + 1) (setA w50 1280 0 (upd (w50.2.1 1280 0) a49.toNatClampNeg (a48 + a47))) h9
                    · replace h9 := ifF hc52 h9
                      refine e_aload_n dX12_reel_461 rfl rfl ?_
                      refine g_1255 flX12_151 dX12_reel_462 ?_
                      refine e_iload dX12_reel_465 rfl ?_
                      obtain ⟨k54, h9⟩ := chkP hN3 h9
                      refine l_1255 dX12_reel_467 (inb_in k54) ?_
                      refine e_bipush (v := 10) dX12_reel_468 rfl ?_
                      refine e_irem dX12_reel_470 (by decide) ?_
                      refine e_goto (tgt := 481) dX12_reel_471 rfl ?_
                      exact hj481 a46 (((setA w50 1280 0 (upd (w50.2.1 1280 0) a49.toNatClampNeg (a48 + a47))).2.1 1255 0 (((4 * ((8 * p1) + v12.2.2.1)) + v16.1).toNatClampNeg)) - ((setA w50 1280 0 (upd (w50.2.1 1280 0) a49.toNatClampNeg (a48 + a47))).2.1 1255 0 (((4 * ((8 * p1) + v12.2.2.1)) + v16.1).toNatClampNeg)) / 10 * 10) (v12.2.2.1 + 1) (setA w50 1280 0 (upd (w50.2.1 1280 0) a49.toNatClampNeg (a48 + a47))) h9
                  have hj413 : ∀ (a55 : Int32) (a56 : Int32) (a57 : Int32) (a58 : Int32), Φ3 (j_X12_reel_413 m p1 p2 v10 v12 v16 a55 a56 a57 a58) → EX g (d + 1) MX12_reel ad x v16.2.2 413 [some (.ref (ad 12 0)), some (.int p1), some (.int p2), some (.int (m.2.1 1235 0 p1.toNatClampNeg)), some (.int v12.1), some (.int v12.2.1), some (.int v12.2.2.1), some (.int ((8 * p1) + v12.2.2.1)), some (.int v16.1), none, some (.int ((4 * ((8 * p1) + v12.2.2.1)) + v16.1)), some (.int a55)] [.int a56, .int a57, .int a58, .ref (ad 2279 0)] Q := by
                    intro a55 a56 a57 a58 h9
                    unfold j_X12_reel_413 at h9
                    refine e_iadd dX12_reel_413 ?_
                    obtain ⟨k59, h9⟩ := chkP hN3 h9
                    refine s_1279 dX12_reel_414 (inb_in k59) ?_
                    refine e_aload_n dX12_reel_415 rfl rfl ?_
                    refine g_1280 flX12_223 dX12_reel_416 ?_
                    refine e_iload dX12_reel_419 rfl ?_
                    refine e_iconst (v := 1) dX12_reel_421 rfl ?_
                    refine e_iadd dX12_reel_422 ?_
                    refine e_aload_n dX12_reel_423 rfl rfl ?_
                    refine e_pc (pc' := 424) rfl ?_
                    refine g_1280 flX12_223 dX12_reel_424 ?_
                    refine e_iload dX12_reel_427 rfl ?_
                    obtain ⟨k60, h9⟩ := chkP hN3 h9
                    refine l_1280 dX12_reel_429 (inb_in k60) ?_
                    refine e_iload dX12_reel_430 rfl ?_
                    refine e_if_eq (tgt := 445) dX12_reel_432 rfl (fun hc61 => ?_) (fun hc61 => ?_)
                    · replace h9 := ifT hc61 h9
                      refine e_iconst (v := 0) dX12_reel_445 rfl ?_
                      exact hj446 a55 0 ((setA v16.2.2 1279 0 (upd (v16.2.2.2.1 1279 0) a58.toNatClampNeg (a57 + a56))).2.1 1280 0 v12.2.2.1.toNatClampNeg) (v12.2.2.1 + 1) (setA v16.2.2 1279 0 (upd (v16.2.2.2.1 1279 0) a58.toNatClampNeg (a57 + a56))) h9
                    · replace h9 := ifF hc61 h9
                      refine e_aload_n dX12_reel_435 rfl rfl ?_
                      refine g_1254 flX12_148 dX12_reel_436 ?_
                      refine e_iload dX12_reel_439 rfl ?_
                      obtain ⟨k62, h9⟩ := chkP hN3 h9
                      refine l_1254 dX12_reel_441 (inb_in k62) ?_
                      refine e_goto (tgt := 446) dX12_reel_442 rfl ?_
                      exact hj446 a55 ((setA v16.2.2 1279 0 (upd (v16.2.2.2.1 1279 0) a58.toNatClampNeg (a57 + a56))).2.1 1254 0 (((4 * ((8 * p1) + v12.2.2.1)) + v16.1).toNatClampNeg)) ((setA v16.2.2 1279 0 (upd (v16.2.2.2.1 1279 0) a58.toNatClampNeg (a57 + a56))).2.1 1280 0 v12.2.2.1.toNatClampNeg) (v12.2.2.1 + 1) (setA v16.2.2 1279 0 (upd (v16.2.2.2.1 1279 0) a58.toNatClampNeg (a57 + a56))) h9
                  have hj380 : ∀ (a63 : Int32), Φ3 (j_X12_reel_380 m p1 p2 v10 v12 v16 a63) → EX g (d + 1) MX12_reel ad x v16.2.2 380 [some (.ref (ad 12 0)), some (.int p1), some (.int p2), some (.int (m.2.1 1235 0 p1.toNatClampNeg)), some (.int v12.1), some (.int v12.2.1), some (.int v12.2.2.1), some (.int ((8 * p1) + v12.2.2.1)), some (.int v16.1), none, some (.int ((4 * ((8 * p1) + v12.2.2.1)) + v16.1)), none] [.int a63] Q := by
                    intro a63 h9
                    unfold j_X12_reel_380 at h9
                    refine e_istore (L' := [some (.ref (ad 12 0)), some (.int p1), some (.int p2), some (.int (m.2.1 1235 0 p1.toNatClampNeg)), some (.int v12.1), some (.int v12.2.1), some (.int v12.2.2.1), some (.int ((8 * p1) + v12.2.2.1)), some (.int v16.1), none, some (.int ((4 * ((8 * p1) + v12.2.2.1)) + v16.1)), some (.int a63)]) dX12_reel_380 (by decide) rfl ?_
                    refine e_aload_n dX12_reel_382 rfl rfl ?_
                    refine g_1279 flX12_220 dX12_reel_383 ?_
                    refine e_iload dX12_reel_386 rfl ?_
                    refine e_iconst (v := 1) dX12_reel_388 rfl ?_
                    refine e_iadd dX12_reel_389 ?_
                    refine e_aload_n dX12_reel_390 rfl rfl ?_
                    refine g_1279 flX12_220 dX12_reel_391 ?_
                    refine e_pc (pc' := 394) rfl ?_
                    refine e_iload dX12_reel_394 rfl ?_
                    obtain ⟨k64, h9⟩ := chkP hN3 h9
                    refine l_1279 dX12_reel_396 (inb_in k64) ?_
                    refine e_iload dX12_reel_397 rfl ?_
                    refine e_if_eq (tgt := 412) dX12_reel_399 rfl (fun hc65 => ?_) (fun hc65 => ?_)
                    · replace h9 := ifT hc65 h9
                      refine e_iconst (v := 0) dX12_reel_412 rfl ?_
                      exact hj413 a63 0 (v16.2.2.2.1 1279 0 v12.2.2.1.toNatClampNeg) (v12.2.2.1 + 1) h9
                    · replace h9 := ifF hc65 h9
                      refine e_aload_n dX12_reel_402 rfl rfl ?_
                      refine g_1253 flX12_145 dX12_reel_403 ?_
                      refine e_iload dX12_reel_406 rfl ?_
                      obtain ⟨k66, h9⟩ := chkP hN3 h9
                      refine l_1253 dX12_reel_408 (inb_in k66) ?_
                      refine e_goto (tgt := 413) dX12_reel_409 rfl ?_
                      exact hj413 a63 (v16.2.2.2.1 1253 0 (((4 * ((8 * p1) + v12.2.2.1)) + v16.1).toNatClampNeg)) (v16.2.2.2.1 1279 0 v12.2.2.1.toNatClampNeg) (v12.2.2.1 + 1) h9
                  refine e_icmp_ge (tgt := 379) dX12_reel_372 rfl (fun hc67 => ?_) (fun hc67 => ?_)
                  · replace h9 := ifT hc67 h9
                    refine e_iconst (v := 0) dX12_reel_379 rfl ?_
                    refine e_wk (L' := [some (.ref (ad 12 0)), some (.int p1), some (.int p2), some (.int (m.2.1 1235 0 p1.toNatClampNeg)), some (.int v12.1), some (.int v12.2.1), some (.int v12.2.2.1), some (.int ((8 * p1) + v12.2.2.1)), some (.int v16.1), none, some (.int ((4 * ((8 * p1) + v12.2.2.1)) + v16.1)), none]) (wkC (wkC (wkC (wkC (wkC (wkC (wkC (wkC (wkC (wkN (wkC (wkN wk0)))))))))))) ?_
                    exact hj380 0 h9
                  · replace h9 := ifF hc67 h9
                    refine e_iconst (v := 1) dX12_reel_375 rfl ?_
                    refine e_goto (tgt := 380) dX12_reel_376 rfl ?_
                    refine e_wk (L' := [some (.ref (ad 12 0)), some (.int p1), some (.int p2), some (.int (m.2.1 1235 0 p1.toNatClampNeg)), some (.int v12.1), some (.int v12.2.1), some (.int v12.2.2.1), some (.int ((8 * p1) + v12.2.2.1)), some (.int v16.1), none, some (.int ((4 * ((8 * p1) + v12.2.2.1)) + v16.1)), none]) (wkC (wkC (wkC (wkC (wkC (wkC (wkC (wkC (wkC (wkN (wkC (wkN wk0)))))))))))) ?_
                    exact hj380 1 h9
            · replace h9 := ifT hc14 h9
              refine e_aload_n dX12_reel_199 rfl rfl ?_
              refine g_1280 flX12_223 dX12_reel_200 ?_
              refine e_iload_n dX12_reel_203 rfl rfl ?_
              obtain ⟨k68, h9⟩ := chkP hN2 h9
              refine l_1280 dX12_reel_204 (inb_in k68) ?_
              refine e_iload dX12_reel_205 rfl ?_
              have hj232 : Φ2 (j_X12_reel_232 m p1 p2 v10 v12) → EX g (d + 1) MX12_reel ad x v12.2.2.2 232 [some (.ref (ad 12 0)), some (.int p1), some (.int p2), some (.int (m.2.1 1235 0 p1.toNatClampNeg)), none, none, some (.int v12.2.2.1), none, none, none, none, none] [] Q := by
                intro h9
                unfold j_X12_reel_232 at h9
                refine e_aload_n dX12_reel_232 rfl rfl ?_
                refine g_1280 flX12_223 dX12_reel_233 ?_
                refine e_iload_n dX12_reel_236 rfl rfl ?_
                obtain ⟨k69, h9⟩ := chkP hN2 h9
                refine l_1280 dX12_reel_237 (inb_in k69) ?_
                refine e_istore (L' := [some (.ref (ad 12 0)), some (.int p1), some (.int p2), some (.int (m.2.1 1235 0 p1.toNatClampNeg)), some (.int (v12.2.2.2.2.1 1280 0 ((m.2.1 1235 0 p1.toNatClampNeg).toNatClampNeg))), none, some (.int v12.2.2.1), none, none, none, none, none]) dX12_reel_238 (by decide) rfl ?_
                refine e_aload_n dX12_reel_240 rfl rfl ?_
                refine g_1279 flX12_220 dX12_reel_241 ?_
                refine e_iload_n dX12_reel_244 rfl rfl ?_
                refine e_pc (pc' := 245) rfl ?_
                obtain ⟨k70, h9⟩ := chkP hN2 h9
                refine l_1279 dX12_reel_245 (inb_in k70) ?_
                refine e_istore (L' := [some (.ref (ad 12 0)), some (.int p1), some (.int p2), some (.int (m.2.1 1235 0 p1.toNatClampNeg)), some (.int (v12.2.2.2.2.1 1280 0 ((m.2.1 1235 0 p1.toNatClampNeg).toNatClampNeg))), some (.int (v12.2.2.2.2.1 1279 0 ((m.2.1 1235 0 p1.toNatClampNeg).toNatClampNeg))), some (.int v12.2.2.1), none, none, none, none, none]) dX12_reel_246 (by decide) rfl ?_
                refine e_iconst (v := 0) dX12_reel_248 rfl ?_
                refine e_istore (L' := [some (.ref (ad 12 0)), some (.int p1), some (.int p2), some (.int (m.2.1 1235 0 p1.toNatClampNeg)), some (.int (v12.2.2.2.2.1 1280 0 ((m.2.1 1235 0 p1.toNatClampNeg).toNatClampNeg))), some (.int (v12.2.2.2.2.1 1279 0 ((m.2.1 1235 0 p1.toNatClampNeg).toNatClampNeg))), some (.int v12.2.2.1), some (.int 0), none, none, none, none]) dX12_reel_249 (by decide) rfl ?_
                refine loop_gen (b_X12_reel_251 m p1 p2 v10 v12) (Sum.inr (Sum.inr none)) (fun v71 => EX g (d + 1) MX12_reel ad x v71.2 251 [some (.ref (ad 12 0)), some (.int p1), some (.int p2), some (.int (m.2.1 1235 0 p1.toNatClampNeg)), some (.int (v12.2.2.2.2.1 1280 0 ((m.2.1 1235 0 p1.toNatClampNeg).toNatClampNeg))), some (.int (v12.2.2.2.2.1 1279 0 ((m.2.1 1235 0 p1.toNatClampNeg).toNatClampNeg))), some (.int v12.2.2.1), some (.int v71.1), none, none, none, none] [] Q) Φ2 hN2 (fun v71 Φ3 hB2_3 hO3 h9 => ?_) (0, v12.2.2.2) h9
                have hN3 := fun h => hN2 (hO3 _ h)
                have hR3 := fun r9 x9 h => hR2 r9 x9 (hO3 _ h)
                have hB0_3 : ∀ (z0 : Int32) (z1 : VM), Φ3 (Sum.inr (Sum.inr (Sum.inl (z0, z1)))) → EX g (d + 1) MX12_reel ad x z1 51 [some (.ref (ad 12 0)), some (.int p1), some (.int p2), some (.int (m.2.1 1235 0 p1.toNatClampNeg)), some (.int z0), none, none, none, none, none, none, none] [] Q := fun z0 z1 h => hB0_2 z0 z1 (hO3 _ h)
                have hB1_3 : ∀ (z0 : Int32) (z1 : Int32) (z2 : Int32) (z3 : VM), Φ3 (Sum.inr (Sum.inl (z0, z1, z2, z3))) → EX g (d + 1) MX12_reel ad x z3 188 [some (.ref (ad 12 0)), some (.int p1), some (.int p2), some (.int (m.2.1 1235 0 p1.toNatClampNeg)), some (.int z0), some (.int z1), some (.int z2), none, none, none, none, none] [] Q := fun z0 z1 z2 z3 h => hB1_2 z0 z1 z2 z3 (hO3 _ h)
                have hB2_3 : ∀ (z0 : Int32) (z1 : VM), Φ3 (Sum.inl (z0, z1)) → EX g (d + 1) MX12_reel ad x z1 251 [some (.ref (ad 12 0)), some (.int p1), some (.int p2), some (.int (m.2.1 1235 0 p1.toNatClampNeg)), some (.int (v12.2.2.2.2.1 1280 0 ((m.2.1 1235 0 p1.toNatClampNeg).toNatClampNeg))), some (.int (v12.2.2.2.2.1 1279 0 ((m.2.1 1235 0 p1.toNatClampNeg).toNatClampNeg))), some (.int v12.2.2.1), some (.int z0), none, none, none, none] [] Q := fun z0 z1 h => hB2_3 (z0, z1) h
                unfold b_X12_reel_251 at h9
                refine e_iload dX12_reel_251 rfl ?_
                refine e_iload_n dX12_reel_253 rfl rfl ?_
                refine e_icmp_ge (tgt := 308) dX12_reel_254 rfl (fun hc72 => ?_) (fun hc72 => ?_)
                · replace h9 := ifT hc72 h9
                  refine e_iinc (v := (v12.2.2.1 + (-1))) (L' := [some (.ref (ad 12 0)), some (.int p1), some (.int p2), some (.int (m.2.1 1235 0 p1.toNatClampNeg)), some (.int (v12.2.2.2.2.1 1280 0 ((m.2.1 1235 0 p1.toNatClampNeg).toNatClampNeg))), some (.int (v12.2.2.2.2.1 1279 0 ((m.2.1 1235 0 p1.toNatClampNeg).toNatClampNeg))), some (.int (v12.2.2.1 + (-1))), some (.int v71.1), none, none, none, none]) dX12_reel_308 rfl rfl (by decide) rfl ?_
                  refine e_goto (tgt := 188) dX12_reel_311 rfl ?_
                  refine e_wk (L' := [some (.ref (ad 12 0)), some (.int p1), some (.int p2), some (.int (m.2.1 1235 0 p1.toNatClampNeg)), some (.int (v12.2.2.2.2.1 1280 0 ((m.2.1 1235 0 p1.toNatClampNeg).toNatClampNeg))), some (.int (v12.2.2.2.2.1 1279 0 ((m.2.1 1235 0 p1.toNatClampNeg).toNatClampNeg))), some (.int (v12.2.2.1 + (-1))), none, none, none, none, none]) (wkC (wkC (wkC (wkC (wkC (wkC (wkC (wkN (wkN (wkN (wkN (wkN wk0)))))))))))) ?_
                  exact hB1_3 _ _ _ _ h9
                · replace h9 := ifF hc72 h9
                  refine e_aload_n dX12_reel_257 rfl rfl ?_
                  refine g_1256 flX12_154 dX12_reel_258 ?_
                  refine e_bipush (v := 8) dX12_reel_261 rfl ?_
                  refine e_iload_n dX12_reel_263 rfl rfl ?_
                  refine e_imul dX12_reel_264 ?_
                  refine e_iload dX12_reel_265 rfl ?_
                  refine e_iadd dX12_reel_267 ?_
                  refine e_aload_n dX12_reel_268 rfl rfl ?_
                  refine e_pc (pc' := 269) rfl ?_
                  refine g_1278 flX12_217 dX12_reel_269 ?_
                  refine e_iload dX12_reel_272 rfl ?_
                  obtain ⟨k73, h9⟩ := chkP hN3 h9
                  refine l_1278 dX12_reel_274 (inb_in k73) ?_
                  refine e_aload_n dX12_reel_275 rfl rfl ?_
                  refine g_1252 flX12_142 dX12_reel_276 ?_
                  refine e_bipush (v := 8) dX12_reel_279 rfl ?_
                  refine e_iload_n dX12_reel_281 rfl rfl ?_
                  refine e_imul dX12_reel_282 ?_
                  refine e_iload dX12_reel_283 rfl ?_
                  refine e_pc (pc' := 285) rfl ?_
                  refine e_iadd dX12_reel_285 ?_
                  obtain ⟨k74, h9⟩ := chkP hN3 h9
                  refine l_1252 dX12_reel_286 (inb_in k74) ?_
                  refine e_icmp_ge (tgt := 300) dX12_reel_287 rfl (fun hc75 => ?_) (fun hc75 => ?_)
                  · replace h9 := ifT hc75 h9
                    refine e_iconst (v := (-1)) dX12_reel_300 rfl ?_
                    obtain ⟨k76, h9⟩ := chkP hN3 h9
                    refine s_1256 dX12_reel_301 (inb_in k76) ?_
                    refine e_iinc (v := (v71.1 + 1)) (L' := [some (.ref (ad 12 0)), some (.int p1), some (.int p2), some (.int (m.2.1 1235 0 p1.toNatClampNeg)), some (.int (v12.2.2.2.2.1 1280 0 ((m.2.1 1235 0 p1.toNatClampNeg).toNatClampNeg))), some (.int (v12.2.2.2.2.1 1279 0 ((m.2.1 1235 0 p1.toNatClampNeg).toNatClampNeg))), some (.int v12.2.2.1), some (.int (v71.1 + 1)), none, none, none, none]) dX12_reel_302 rfl rfl (by decide) rfl ?_
                    refine e_goto (tgt := 251) dX12_reel_305 rfl ?_
                    exact hB2_3 _ _ h9
                  · replace h9 := ifF hc75 h9
                    refine e_aload_n dX12_reel_290 rfl rfl ?_
                    refine g_1278 flX12_217 dX12_reel_291 ?_
                    refine e_iload dX12_reel_294 rfl ?_
                    obtain ⟨k77, h9⟩ := chkP hN3 h9
                    refine l_1278 dX12_reel_296 (inb_in k77) ?_
                    refine e_goto (tgt := 301) dX12_reel_297 rfl ?_
                    obtain ⟨k78, h9⟩ := chkP hN3 h9
                    refine s_1256 dX12_reel_301 (inb_in k78) ?_
                    refine e_iinc (v := (v71.1 + 1)) (L' := [some (.ref (ad 12 0)), some (.int p1), some (.int p2), some (.int (m.2.1 1235 0 p1.toNatClampNeg)), some (.int (v12.2.2.2.2.1 1280 0 ((m.2.1 1235 0 p1.toNatClampNeg).toNatClampNeg))), some (.int (v12.2.2.2.2.1 1279 0 ((m.2.1 1235 0 p1.toNatClampNeg).toNatClampNeg))), some (.int v12.2.2.1), some (.int (v71.1 + 1)), none, none, none, none]) dX12_reel_302 rfl rfl (by decide) rfl ?_
                    refine e_goto (tgt := 251) dX12_reel_305 rfl ?_
                    exact hB2_3 _ _ h9
              refine e_icmp_gt (tgt := 232) dX12_reel_207 rfl (fun hc79 => ?_) (fun hc79 => ?_)
              · replace h9 := ifT hc79 h9
                refine e_wk (L' := [some (.ref (ad 12 0)), some (.int p1), some (.int p2), some (.int (m.2.1 1235 0 p1.toNatClampNeg)), none, none, some (.int v12.2.2.1), none, none, none, none, none]) (wkC (wkC (wkC (wkC (wkN (wkN (wkC (wkN (wkN (wkN (wkN (wkN wk0)))))))))))) ?_
                exact hj232 h9
              · replace h9 := ifF hc79 h9
                refine e_aload_n dX12_reel_210 rfl rfl ?_
                refine g_1280 flX12_223 dX12_reel_211 ?_
                refine e_iload_n dX12_reel_214 rfl rfl ?_
                obtain ⟨k80, h9⟩ := chkP hN2 h9
                refine l_1280 dX12_reel_215 (inb_in k80) ?_
                refine e_iload dX12_reel_216 rfl ?_
                refine e_icmp_ne (tgt := 308) dX12_reel_218 rfl (fun hc81 => ?_) (fun hc81 => ?_)
                · replace h9 := ifF hc81 h9
                  refine e_iinc (v := (v12.2.2.1 + (-1))) (L' := [some (.ref (ad 12 0)), some (.int p1), some (.int p2), some (.int (m.2.1 1235 0 p1.toNatClampNeg)), some (.int v12.1), some (.int v12.2.1), some (.int (v12.2.2.1 + (-1))), none, none, none, none, none]) dX12_reel_308 rfl rfl (by decide) rfl ?_
                  refine e_goto (tgt := 188) dX12_reel_311 rfl ?_
                  exact hB1_2 _ _ _ _ h9
                · replace h9 := ifT hc81 h9
                  refine e_aload_n dX12_reel_221 rfl rfl ?_
                  refine g_1279 flX12_220 dX12_reel_222 ?_
                  refine e_iload_n dX12_reel_225 rfl rfl ?_
                  obtain ⟨k82, h9⟩ := chkP hN2 h9
                  refine l_1279 dX12_reel_226 (inb_in k82) ?_
                  refine e_iload dX12_reel_227 rfl ?_
                  refine e_icmp_ge (tgt := 308) dX12_reel_229 rfl (fun hc83 => ?_) (fun hc83 => ?_)
                  · replace h9 := ifT hc83 h9
                    refine e_iinc (v := (v12.2.2.1 + (-1))) (L' := [some (.ref (ad 12 0)), some (.int p1), some (.int p2), some (.int (m.2.1 1235 0 p1.toNatClampNeg)), some (.int v12.1), some (.int v12.2.1), some (.int (v12.2.2.1 + (-1))), none, none, none, none, none]) dX12_reel_308 rfl rfl (by decide) rfl ?_
                    refine e_goto (tgt := 188) dX12_reel_311 rfl ?_
                    exact hB1_2 _ _ _ _ h9
                  · replace h9 := ifF hc83 h9
                    refine e_wk (L' := [some (.ref (ad 12 0)), some (.int p1), some (.int p2), some (.int (m.2.1 1235 0 p1.toNatClampNeg)), none, none, some (.int v12.2.2.1), none, none, none, none, none]) (wkC (wkC (wkC (wkC (wkN (wkN (wkC (wkN (wkN (wkN (wkN (wkN wk0)))))))))))) ?_
                    exact hj232 h9
        · replace h9 := ifF hc11 h9
          refine e_iconst (v := 0) dX12_reel_56 rfl ?_
          refine e_istore (L' := [some (.ref (ad 12 0)), some (.int p1), some (.int p2), some (.int (m.2.1 1235 0 p1.toNatClampNeg)), some (.int v10.1), some (.int 0), none, none, none, none, none, none]) dX12_reel_57 (by decide) rfl ?_
          refine e_iconst (v := 0) dX12_reel_59 rfl ?_
          refine e_istore (L' := [some (.ref (ad 12 0)), some (.int p1), some (.int p2), some (.int (m.2.1 1235 0 p1.toNatClampNeg)), some (.int v10.1), some (.int 0), some (.int 0), none, none, none, none, none]) dX12_reel_60 (by decide) rfl ?_
          refine loop_gen (b_X12_reel_62 m p1 p2 v10) (Sum.inr none) (fun v84 => EX g (d + 1) MX12_reel ad x v10.2 62 [some (.ref (ad 12 0)), some (.int p1), some (.int p2), some (.int (m.2.1 1235 0 p1.toNatClampNeg)), some (.int v10.1), some (.int v84.1), some (.int v84.2), none, none, none, none, none] [] Q) Φ1 hN1 (fun v84 Φ2 hB1_2 hO2 h9 => ?_) (0, 0) h9
          have hN2 := fun h => hN1 (hO2 _ h)
          have hR2 := fun r9 x9 h => hR1 r9 x9 (hO2 _ h)
          have hB0_2 : ∀ (z0 : Int32) (z1 : VM), Φ2 (Sum.inr (Sum.inl (z0, z1))) → EX g (d + 1) MX12_reel ad x z1 51 [some (.ref (ad 12 0)), some (.int p1), some (.int p2), some (.int (m.2.1 1235 0 p1.toNatClampNeg)), some (.int z0), none, none, none, none, none, none, none] [] Q := fun z0 z1 h => hB0_1 z0 z1 (hO2 _ h)
          have hB1_2 : ∀ (z0 : Int32) (z1 : Int32), Φ2 (Sum.inl (z0, z1)) → EX g (d + 1) MX12_reel ad x v10.2 62 [some (.ref (ad 12 0)), some (.int p1), some (.int p2), some (.int (m.2.1 1235 0 p1.toNatClampNeg)), some (.int v10.1), some (.int z0), some (.int z1), none, none, none, none, none] [] Q := fun z0 z1 h => hB1_2 (z0, z1) h
          unfold b_X12_reel_62 at h9
          refine e_iload dX12_reel_62 rfl ?_
          refine e_aload_n dX12_reel_64 rfl rfl ?_
          refine g_1252 flX12_142 dX12_reel_65 ?_
          refine e_bipush (v := 8) dX12_reel_68 rfl ?_
          refine e_iload_n dX12_reel_70 rfl rfl ?_
          refine e_imul dX12_reel_71 ?_
          refine e_iload dX12_reel_72 rfl ?_
          refine e_iadd dX12_reel_74 ?_
          refine e_pc (pc' := 75) rfl ?_
          obtain ⟨k85, h9⟩ := chkP hN2 h9
          refine l_1252 dX12_reel_75 (inb_in k85) ?_
          refine e_icmp_ge (tgt := 126) dX12_reel_76 rfl (fun hc86 => ?_) (fun hc86 => ?_)
          · replace h9 := ifT hc86 h9
            refine e_aload_n dX12_reel_126 rfl rfl ?_
            refine g_1282 flX12_229 dX12_reel_127 ?_
            refine e_iload dX12_reel_130 rfl ?_
            refine e_aload_n dX12_reel_132 rfl rfl ?_
            refine g_1282 flX12_229 dX12_reel_133 ?_
            refine e_iload dX12_reel_136 rfl ?_
            refine e_iconst (v := 1) dX12_reel_138 rfl ?_
            refine e_iadd dX12_reel_139 ?_
            refine e_pc (pc' := 140) rfl ?_
            obtain ⟨k87, h9⟩ := chkP hN2 h9
            refine l_1282 dX12_reel_140 (inb_in k87) ?_
            refine e_iload dX12_reel_141 rfl ?_
            refine e_iadd dX12_reel_143 ?_
            obtain ⟨k88, h9⟩ := chkP hN2 h9
            refine s_1282 dX12_reel_144 (inb_in k88) ?_
            refine e_iinc (v := (v10.1 + (-1))) (L' := [some (.ref (ad 12 0)), some (.int p1), some (.int p2), some (.int (m.2.1 1235 0 p1.toNatClampNeg)), some (.int (v10.1 + (-1))), some (.int v84.1), some (.int v84.2), none, none, none, none, none]) dX12_reel_145 rfl rfl (by decide) rfl ?_
            refine e_goto (tgt := 51) dX12_reel_148 rfl ?_
            refine e_wk (L' := [some (.ref (ad 12 0)), some (.int p1), some (.int p2), some (.int (m.2.1 1235 0 p1.toNatClampNeg)), some (.int (v10.1 + (-1))), none, none, none, none, none, none, none]) (wkC (wkC (wkC (wkC (wkC (wkN (wkN (wkN (wkN (wkN (wkN (wkN wk0)))))))))))) ?_
            exact hB0_2 _ _ h9
          · replace h9 := ifF hc86 h9
            refine e_aload_n dX12_reel_79 rfl rfl ?_
            refine g_1254 flX12_148 dX12_reel_80 ?_
            refine e_iconst (v := 4) dX12_reel_83 rfl ?_
            refine e_bipush (v := 8) dX12_reel_84 rfl ?_
            refine e_iload_n dX12_reel_86 rfl rfl ?_
            refine e_imul dX12_reel_87 ?_
            refine e_iload dX12_reel_88 rfl ?_
            refine e_iadd dX12_reel_90 ?_
            refine e_pc (pc' := 91) rfl ?_
            refine e_imul dX12_reel_91 ?_
            refine e_iload dX12_reel_92 rfl ?_
            refine e_iadd dX12_reel_94 ?_
            obtain ⟨k89, h9⟩ := chkP hN2 h9
            refine l_1254 dX12_reel_95 (inb_in k89) ?_
            refine e_iload dX12_reel_96 rfl ?_
            refine e_icmp_le (tgt := 120) dX12_reel_98 rfl (fun hc90 => ?_) (fun hc90 => ?_)
            · replace h9 := ifT hc90 h9
              refine e_iinc (v := (v84.2 + 1)) (L' := [some (.ref (ad 12 0)), some (.int p1), some (.int p2), some (.int (m.2.1 1235 0 p1.toNatClampNeg)), some (.int v10.1), some (.int v84.1), some (.int (v84.2 + 1)), none, none, none, none, none]) dX12_reel_120 rfl rfl (by decide) rfl ?_
              refine e_goto (tgt := 62) dX12_reel_123 rfl ?_
              exact hB1_2 _ _ h9
            · replace h9 := ifF hc90 h9
              refine e_aload_n dX12_reel_101 rfl rfl ?_
              refine g_1254 flX12_148 dX12_reel_102 ?_
              refine e_iconst (v := 4) dX12_reel_105 rfl ?_
              refine e_bipush (v := 8) dX12_reel_106 rfl ?_
              refine e_iload_n dX12_reel_108 rfl rfl ?_
              refine e_imul dX12_reel_109 ?_
              refine e_iload dX12_reel_110 rfl ?_
              refine e_iadd dX12_reel_112 ?_
              refine e_pc (pc' := 113) rfl ?_
              refine e_imul dX12_reel_113 ?_
              refine e_iload dX12_reel_114 rfl ?_
              refine e_iadd dX12_reel_116 ?_
              obtain ⟨k91, h9⟩ := chkP hN2 h9
              refine l_1254 dX12_reel_117 (inb_in k91) ?_
              refine e_istore (L' := [some (.ref (ad 12 0)), some (.int p1), some (.int p2), some (.int (m.2.1 1235 0 p1.toNatClampNeg)), some (.int v10.1), some (.int (v10.2.2.1 1254 0 (((4 * ((8 * p1) + v10.1)) + v84.2).toNatClampNeg))), some (.int v84.2), none, none, none, none, none]) dX12_reel_118 (by decide) rfl ?_
              refine e_iinc (v := (v84.2 + 1)) (L' := [some (.ref (ad 12 0)), some (.int p1), some (.int p2), some (.int (m.2.1 1235 0 p1.toNatClampNeg)), some (.int v10.1), some (.int (v10.2.2.1 1254 0 (((4 * ((8 * p1) + v10.1)) + v84.2).toNatClampNeg))), some (.int (v84.2 + 1)), none, none, none, none, none]) dX12_reel_120 rfl rfl (by decide) rfl ?_
              refine e_goto (tgt := 62) dX12_reel_123 rfl ?_
              exact hB1_2 _ _ h9
      · replace h9 := ifF hc7 h9
        refine e_aload_n dX12_reel_25 rfl rfl ?_
        refine e_bipush (v := (-6)) dX12_reel_26 rfl ?_
        obtain ⟨⟨r92, w93⟩, hr92, h9⟩ := elimP hN0 h9
        refine x_callVi (c := 12) (As := [.int (-6)]) (rest := []) okX12_no lkX12_263 rfl (by decide) rfl dX12_reel_28 rfl rfl (Nat.le_of_ble_eq_true rfl) rfl (c_X12_no (-6) hr92 (CI.mk ?_))
        exact x_iret dX12_reel_31 rfl (hR0 _ _ h9)
  · replace h9 := ifT hc2 h9
    refine e_aload_n dX12_reel_8 rfl rfl ?_
    refine e_iconst (v := (-1)) dX12_reel_9 rfl ?_
    obtain ⟨⟨r95, w96⟩, hr95, h9⟩ := elimP hN0 h9
    refine x_callVi (c := 12) (As := [.int (-1)]) (rest := []) okX12_no lkX12_263 rfl (by decide) rfl dX12_reel_10 rfl rfl (Nat.le_of_ble_eq_true rfl) rfl (c_X12_no (-1) hr95 (CI.mk ?_))
    exact x_iret dX12_reel_13 rfl (hR0 _ _ h9)
noncomputable def f_X12_reelTake (m : VM) (p1 : Int32) (p2 : Int32) : Option (Int32) := (f_X12_isScene m p1 p2).elim none (fun r1 => if r1 = 0 then some (-1) else if inb ((8 * p1) + p2) 64 = true then some (m.2.1 1256 0 (((8 * p1) + p2).toNatClampNeg)) else none)
theorem c_X12_reelTake {g : GG} {d : Nat} {ad : AD} {x m : VM} {Q : Option Value → VM → VM → Prop} (p1 : Int32) (p2 : Int32) {r9 : Int32} (hf : f_X12_reelTake m p1 p2 = some r9) (hq : Q (some (.int r9)) x m) : CX g (d + 2) MX12_reelTake [.ref (ad 12 0), .int p1, .int p2] ad x m Q := by
  refine CX.to (Lv := [some (.ref (ad 12 0)), some (.int p1), some (.int p2)]) okX12_reelTake (Nat.le_of_ble_eq_true rfl) rfl ?_
  obtain ⟨Φ0, hΦ⟩ : ∃ Φ : Option (Int32) → Prop, Φ = fun o => o = some r9 := ⟨_, rfl⟩
  have hN0 : Φ0 none → False := by rw [hΦ]; intro h; cases h
  have hR0 : ∀ z9, Φ0 (some z9) → Q (some (.int z9)) x m := by rw [hΦ]; intro z9 h; cases h; exact hq
  have h9 : Φ0 (f_X12_reelTake m p1 p2) := by rw [hΦ]; exact hf
  clear hf hq hΦ
  unfold f_X12_reelTake at h9
  refine e_aload_n dX12_reelTake_0 rfl rfl ?_
  refine e_iload_n dX12_reelTake_1 rfl rfl ?_
  refine e_iload_n dX12_reelTake_2 rfl rfl ?_
  obtain ⟨r1, hr1, h9⟩ := elimP hN0 h9
  refine x_callVi (c := 12) (As := [.int p1, .int p2]) (rest := []) okX12_isScene lkX12_312 rfl (by decide) rfl dX12_reelTake_3 rfl rfl (Nat.le_of_ble_eq_true rfl) rfl (c_X12_isScene p1 p2 hr1 (CI.mk ?_))
  refine e_if_eq (tgt := 23) dX12_reelTake_6 rfl (fun hc2 => ?_) (fun hc2 => ?_)
  · replace h9 := ifT hc2 h9
    refine e_iconst (v := (-1)) dX12_reelTake_23 rfl ?_
    exact x_iret dX12_reelTake_24 rfl (hR0 _ h9)
  · replace h9 := ifF hc2 h9
    refine e_aload_n dX12_reelTake_9 rfl rfl ?_
    refine g_1256 flX12_154 dX12_reelTake_10 ?_
    refine e_bipush (v := 8) dX12_reelTake_13 rfl ?_
    refine e_iload_n dX12_reelTake_15 rfl rfl ?_
    refine e_imul dX12_reelTake_16 ?_
    refine e_iload_n dX12_reelTake_17 rfl rfl ?_
    refine e_iadd dX12_reelTake_18 ?_
    obtain ⟨k3, h9⟩ := chkP hN0 h9
    refine l_1256 dX12_reelTake_19 (inb_in k3) ?_
    refine e_pc (pc' := 20) rfl ?_
    refine e_goto (tgt := 24) dX12_reelTake_20 rfl ?_
    exact x_iret dX12_reelTake_24 rfl (hR0 _ h9)
noncomputable def f_X12_land (m : VM) (p1 : Int32) (p2 : Int32) : Option (Int32 × VM) := if p1 < 0 then (f_X12_no m (-1)).elim none (fun r2p => some (r2p.1, r2p.2)) else if p1 ≤ 3 then if p2 < 0 then (f_X12_no m (-6)).elim none (fun r7p => some (r7p.1, r7p.2)) else if p2 ≤ 99 then if inb p1 4 = true then if inb p1 4 = true then some (m.2.1 1257 0 p1.toNatClampNeg, setA m 1257 0 (upd (m.2.1 1257 0) p1.toNatClampNeg p2)) else none else none else (f_X12_no m (-6)).elim none (fun r13p => some (r13p.1, r13p.2)) else (f_X12_no m (-1)).elim none (fun r16p => some (r16p.1, r16p.2))
theorem c_X12_land {g : GG} {d : Nat} {ad : AD} {x m : VM} {Q : Option Value → VM → VM → Prop} (p1 : Int32) (p2 : Int32) {r9 : Int32} {w9 : VM} (hf : f_X12_land m p1 p2 = some (r9, w9)) (hq : Q (some (.int r9)) x w9) : CX g (d + 1) MX12_land [.ref (ad 12 0), .int p1, .int p2] ad x m Q := by
  refine CX.to (Lv := [some (.ref (ad 12 0)), some (.int p1), some (.int p2), none]) okX12_land (Nat.le_of_ble_eq_true rfl) rfl ?_
  obtain ⟨Φ0, hΦ⟩ : ∃ Φ : Option (Int32 × VM) → Prop, Φ = fun o => o = some (r9, w9) := ⟨_, rfl⟩
  have hN0 : Φ0 none → False := by rw [hΦ]; intro h; cases h
  have hR0 : ∀ z9 y9, Φ0 (some (z9, y9)) → Q (some (.int z9)) x y9 := by rw [hΦ]; intro z9 y9 h; cases h; exact hq
  have h9 : Φ0 (f_X12_land m p1 p2) := by rw [hΦ]; exact hf
  clear hf hq hΦ
  unfold f_X12_land at h9
  refine e_iload_n dX12_land_0 rfl rfl ?_
  refine e_if_lt (tgt := 9) dX12_land_1 rfl (fun hc1 => ?_) (fun hc1 => ?_)
  · replace h9 := ifT hc1 h9
    refine e_aload_n dX12_land_9 rfl rfl ?_
    refine e_iconst (v := (-1)) dX12_land_10 rfl ?_
    obtain ⟨⟨r2, w3⟩, hr2, h9⟩ := elimP hN0 h9
    refine x_callVi (c := 12) (As := [.int (-1)]) (rest := []) okX12_no lkX12_263 rfl (by decide) rfl dX12_land_11 rfl rfl (Nat.le_of_ble_eq_true rfl) rfl (c_X12_no (-1) hr2 (CI.mk ?_))
    exact x_iret dX12_land_14 rfl (hR0 _ _ h9)
  · replace h9 := ifF hc1 h9
    refine e_iload_n dX12_land_4 rfl rfl ?_
    refine e_iconst (v := 3) dX12_land_5 rfl ?_
    refine e_icmp_le (tgt := 15) dX12_land_6 rfl (fun hc5 => ?_) (fun hc5 => ?_)
    · replace h9 := ifT hc5 h9
      refine e_iload_n dX12_land_15 rfl rfl ?_
      refine e_if_lt (tgt := 25) dX12_land_16 rfl (fun hc6 => ?_) (fun hc6 => ?_)
      · replace h9 := ifT hc6 h9
        refine e_aload_n dX12_land_25 rfl rfl ?_
        refine e_bipush (v := (-6)) dX12_land_26 rfl ?_
        obtain ⟨⟨r7, w8⟩, hr7, h9⟩ := elimP hN0 h9
        refine x_callVi (c := 12) (As := [.int (-6)]) (rest := []) okX12_no lkX12_263 rfl (by decide) rfl dX12_land_28 rfl rfl (Nat.le_of_ble_eq_true rfl) rfl (c_X12_no (-6) hr7 (CI.mk ?_))
        exact x_iret dX12_land_31 rfl (hR0 _ _ h9)
      · replace h9 := ifF hc6 h9
        refine e_iload_n dX12_land_19 rfl rfl ?_
        refine e_bipush (v := 99) dX12_land_20 rfl ?_
        refine e_icmp_le (tgt := 32) dX12_land_22 rfl (fun hc10 => ?_) (fun hc10 => ?_)
        · replace h9 := ifT hc10 h9
          refine e_aload_n dX12_land_32 rfl rfl ?_
          refine g_1257 flX12_157 dX12_land_33 ?_
          refine e_iload_n dX12_land_36 rfl rfl ?_
          obtain ⟨k11, h9⟩ := chkP hN0 h9
          refine l_1257 dX12_land_37 (inb_in k11) ?_
          refine e_istore_n (L' := [some (.ref (ad 12 0)), some (.int p1), some (.int p2), some (.int (m.2.1 1257 0 p1.toNatClampNeg))]) dX12_land_38 rfl (by decide) rfl ?_
          refine e_aload_n dX12_land_39 rfl rfl ?_
          refine g_1257 flX12_157 dX12_land_40 ?_
          refine e_iload_n dX12_land_43 rfl rfl ?_
          refine e_pc (pc' := 44) rfl ?_
          refine e_iload_n dX12_land_44 rfl rfl ?_
          obtain ⟨k12, h9⟩ := chkP hN0 h9
          refine s_1257 dX12_land_45 (inb_in k12) ?_
          refine e_iload_n dX12_land_46 rfl rfl ?_
          exact x_iret dX12_land_47 rfl (hR0 _ _ h9)
        · replace h9 := ifF hc10 h9
          refine e_aload_n dX12_land_25 rfl rfl ?_
          refine e_bipush (v := (-6)) dX12_land_26 rfl ?_
          obtain ⟨⟨r13, w14⟩, hr13, h9⟩ := elimP hN0 h9
          refine x_callVi (c := 12) (As := [.int (-6)]) (rest := []) okX12_no lkX12_263 rfl (by decide) rfl dX12_land_28 rfl rfl (Nat.le_of_ble_eq_true rfl) rfl (c_X12_no (-6) hr13 (CI.mk ?_))
          exact x_iret dX12_land_31 rfl (hR0 _ _ h9)
    · replace h9 := ifF hc5 h9
      refine e_aload_n dX12_land_9 rfl rfl ?_
      refine e_iconst (v := (-1)) dX12_land_10 rfl ?_
      obtain ⟨⟨r16, w17⟩, hr16, h9⟩ := elimP hN0 h9
      refine x_callVi (c := 12) (As := [.int (-1)]) (rest := []) okX12_no lkX12_263 rfl (by decide) rfl dX12_land_11 rfl rfl (Nat.le_of_ble_eq_true rfl) rfl (c_X12_no (-1) hr16 (CI.mk ?_))
      exact x_iret dX12_land_14 rfl (hR0 _ _ h9)
noncomputable def f_X12_preview (m : VM) (p1 : Int32) (p2 : Int32) (p3 : Int32) (p4 : Int32) : Option (Int32 × VM) := (f_X12_isPicture m p1).elim none (fun r1 => if r1 = 0 then (f_X12_no m (-1)).elim none (fun r3p => some (r3p.1, r3p.2)) else if p2 < 0 then (f_X12_no m (-1)).elim none (fun r7p => some (r7p.1, r7p.2)) else if p2 ≤ 3 then if p3 < 1 then (f_X12_no m (-6)).elim none (fun r12p => some (r12p.1, r12p.2)) else if 99 < p3 then (f_X12_no m (-6)).elim none (fun r16p => some (r16p.1, r16p.2)) else if p4 < 0 then (f_X12_no m (-6)).elim none (fun r20p => some (r20p.1, r20p.2)) else if p4 ≤ p3 then if inb ((4 * p1) + p2) 32 = true then if ((m.2.1 1258 0 (((4 * p1) + p2).toNatClampNeg)) + p3) ≤ 999 then if inb ((4 * p1) + p2) 32 = true then if inb ((4 * p1) + p2) 32 = true then if inb ((4 * p1) + p2) 32 = true then if inb ((4 * p1) + p2) 32 = true then if inb ((4 * p1) + p2) 32 = true then some ((setA (setA m 1258 0 (upd (m.2.1 1258 0) (((4 * p1) + p2).toNatClampNeg) ((m.2.1 1258 0 (((4 * p1) + p2).toNatClampNeg)) + p3))) 1259 0 (upd ((setA m 1258 0 (upd (m.2.1 1258 0) (((4 * p1) + p2).toNatClampNeg) ((m.2.1 1258 0 (((4 * p1) + p2).toNatClampNeg)) + p3))).2.1 1259 0) (((4 * p1) + p2).toNatClampNeg) (((setA m 1258 0 (upd (m.2.1 1258 0) (((4 * p1) + p2).toNatClampNeg) ((m.2.1 1258 0 (((4 * p1) + p2).toNatClampNeg)) + p3))).2.1 1259 0 (((4 * p1) + p2).toNatClampNeg)) + p4))).2.1 1258 0 (((4 * p1) + p2).toNatClampNeg), setA (setA m 1258 0 (upd (m.2.1 1258 0) (((4 * p1) + p2).toNatClampNeg) ((m.2.1 1258 0 (((4 * p1) + p2).toNatClampNeg)) + p3))) 1259 0 (upd ((setA m 1258 0 (upd (m.2.1 1258 0) (((4 * p1) + p2).toNatClampNeg) ((m.2.1 1258 0 (((4 * p1) + p2).toNatClampNeg)) + p3))).2.1 1259 0) (((4 * p1) + p2).toNatClampNeg) (((setA m 1258 0 (upd (m.2.1 1258 0) (((4 * p1) + p2).toNatClampNeg) ((m.2.1 1258 0 (((4 * p1) + p2).toNatClampNeg)) + p3))).2.1 1259 0 (((4 * p1) + p2).toNatClampNeg)) + p4))) else none else none else none else none else none else (f_X12_no m (-7)).elim none (fun r31p => some (r31p.1, r31p.2)) else none else (f_X12_no m (-6)).elim none (fun r34p => some (r34p.1, r34p.2)) else (f_X12_no m (-1)).elim none (fun r37p => some (r37p.1, r37p.2)))
theorem c_X12_preview {g : GG} {d : Nat} {ad : AD} {x m : VM} {Q : Option Value → VM → VM → Prop} (p1 : Int32) (p2 : Int32) (p3 : Int32) (p4 : Int32) {r9 : Int32} {w9 : VM} (hf : f_X12_preview m p1 p2 p3 p4 = some (r9, w9)) (hq : Q (some (.int r9)) x w9) : CX g (d + 1) MX12_preview [.ref (ad 12 0), .int p1, .int p2, .int p3, .int p4] ad x m Q := by
  refine CX.to (Lv := [some (.ref (ad 12 0)), some (.int p1), some (.int p2), some (.int p3), some (.int p4)]) okX12_preview (Nat.le_of_ble_eq_true rfl) rfl ?_
  obtain ⟨Φ0, hΦ⟩ : ∃ Φ : Option (Int32 × VM) → Prop, Φ = fun o => o = some (r9, w9) := ⟨_, rfl⟩
  have hN0 : Φ0 none → False := by rw [hΦ]; intro h; cases h
  have hR0 : ∀ z9 y9, Φ0 (some (z9, y9)) → Q (some (.int z9)) x y9 := by rw [hΦ]; intro z9 y9 h; cases h; exact hq
  have h9 : Φ0 (f_X12_preview m p1 p2 p3 p4) := by rw [hΦ]; exact hf
  clear hf hq hΦ
  unfold f_X12_preview at h9
  refine e_aload_n dX12_preview_0 rfl rfl ?_
  refine e_iload_n dX12_preview_1 rfl rfl ?_
  obtain ⟨r1, hr1, h9⟩ := elimP hN0 h9
  refine x_callVi (c := 12) (As := [.int p1]) (rest := []) okX12_isPicture lkX12_253 rfl (by decide) rfl dX12_preview_2 rfl rfl (Nat.le_of_ble_eq_true rfl) rfl (c_X12_isPicture p1 hr1 (CI.mk ?_))
  refine e_if_eq (tgt := 17) dX12_preview_5 rfl (fun hc2 => ?_) (fun hc2 => ?_)
  · replace h9 := ifT hc2 h9
    refine e_aload_n dX12_preview_17 rfl rfl ?_
    refine e_iconst (v := (-1)) dX12_preview_18 rfl ?_
    obtain ⟨⟨r3, w4⟩, hr3, h9⟩ := elimP hN0 h9
    refine x_callVi (c := 12) (As := [.int (-1)]) (rest := []) okX12_no lkX12_263 rfl (by decide) rfl dX12_preview_19 rfl rfl (Nat.le_of_ble_eq_true rfl) rfl (c_X12_no (-1) hr3 (CI.mk ?_))
    exact x_iret dX12_preview_22 rfl (hR0 _ _ h9)
  · replace h9 := ifF hc2 h9
    refine e_iload_n dX12_preview_8 rfl rfl ?_
    refine e_if_lt (tgt := 17) dX12_preview_9 rfl (fun hc6 => ?_) (fun hc6 => ?_)
    · replace h9 := ifT hc6 h9
      refine e_aload_n dX12_preview_17 rfl rfl ?_
      refine e_iconst (v := (-1)) dX12_preview_18 rfl ?_
      obtain ⟨⟨r7, w8⟩, hr7, h9⟩ := elimP hN0 h9
      refine x_callVi (c := 12) (As := [.int (-1)]) (rest := []) okX12_no lkX12_263 rfl (by decide) rfl dX12_preview_19 rfl rfl (Nat.le_of_ble_eq_true rfl) rfl (c_X12_no (-1) hr7 (CI.mk ?_))
      exact x_iret dX12_preview_22 rfl (hR0 _ _ h9)
    · replace h9 := ifF hc6 h9
      refine e_iload_n dX12_preview_12 rfl rfl ?_
      refine e_iconst (v := 3) dX12_preview_13 rfl ?_
      refine e_icmp_le (tgt := 23) dX12_preview_14 rfl (fun hc10 => ?_) (fun hc10 => ?_)
      · replace h9 := ifT hc10 h9
        refine e_iload_n dX12_preview_23 rfl rfl ?_
        refine e_iconst (v := 1) dX12_preview_24 rfl ?_
        refine e_icmp_lt (tgt := 45) dX12_preview_25 rfl (fun hc11 => ?_) (fun hc11 => ?_)
        · replace h9 := ifT hc11 h9
          refine e_aload_n dX12_preview_45 rfl rfl ?_
          refine e_bipush (v := (-6)) dX12_preview_46 rfl ?_
          obtain ⟨⟨r12, w13⟩, hr12, h9⟩ := elimP hN0 h9
          refine x_callVi (c := 12) (As := [.int (-6)]) (rest := []) okX12_no lkX12_263 rfl (by decide) rfl dX12_preview_48 rfl rfl (Nat.le_of_ble_eq_true rfl) rfl (c_X12_no (-6) hr12 (CI.mk ?_))
          exact x_iret dX12_preview_51 rfl (hR0 _ _ h9)
        · replace h9 := ifF hc11 h9
          refine e_iload_n dX12_preview_28 rfl rfl ?_
          refine e_bipush (v := 99) dX12_preview_29 rfl ?_
          refine e_icmp_gt (tgt := 45) dX12_preview_31 rfl (fun hc15 => ?_) (fun hc15 => ?_)
          · replace h9 := ifT hc15 h9
            refine e_aload_n dX12_preview_45 rfl rfl ?_
            refine e_bipush (v := (-6)) dX12_preview_46 rfl ?_
            obtain ⟨⟨r16, w17⟩, hr16, h9⟩ := elimP hN0 h9
            refine x_callVi (c := 12) (As := [.int (-6)]) (rest := []) okX12_no lkX12_263 rfl (by decide) rfl dX12_preview_48 rfl rfl (Nat.le_of_ble_eq_true rfl) rfl (c_X12_no (-6) hr16 (CI.mk ?_))
            exact x_iret dX12_preview_51 rfl (hR0 _ _ h9)
          · replace h9 := ifF hc15 h9
            refine e_iload dX12_preview_34 rfl ?_
            refine e_if_lt (tgt := 45) dX12_preview_36 rfl (fun hc19 => ?_) (fun hc19 => ?_)
            · replace h9 := ifT hc19 h9
              refine e_aload_n dX12_preview_45 rfl rfl ?_
              refine e_bipush (v := (-6)) dX12_preview_46 rfl ?_
              obtain ⟨⟨r20, w21⟩, hr20, h9⟩ := elimP hN0 h9
              refine x_callVi (c := 12) (As := [.int (-6)]) (rest := []) okX12_no lkX12_263 rfl (by decide) rfl dX12_preview_48 rfl rfl (Nat.le_of_ble_eq_true rfl) rfl (c_X12_no (-6) hr20 (CI.mk ?_))
              exact x_iret dX12_preview_51 rfl (hR0 _ _ h9)
            · replace h9 := ifF hc19 h9
              refine e_iload dX12_preview_39 rfl ?_
              refine e_iload_n dX12_preview_41 rfl rfl ?_
              refine e_icmp_le (tgt := 52) dX12_preview_42 rfl (fun hc23 => ?_) (fun hc23 => ?_)
              · replace h9 := ifT hc23 h9
                refine e_aload_n dX12_preview_52 rfl rfl ?_
                refine g_1258 flX12_160 dX12_preview_53 ?_
                refine e_iconst (v := 4) dX12_preview_56 rfl ?_
                refine e_iload_n dX12_preview_57 rfl rfl ?_
                refine e_imul dX12_preview_58 ?_
                refine e_iload_n dX12_preview_59 rfl rfl ?_
                refine e_iadd dX12_preview_60 ?_
                obtain ⟨k24, h9⟩ := chkP hN0 h9
                refine l_1258 dX12_preview_61 (inb_in k24) ?_
                refine e_pc (pc' := 62) rfl ?_
                refine e_iload_n dX12_preview_62 rfl rfl ?_
                refine e_iadd dX12_preview_63 ?_
                refine e_sipush (v := 999) dX12_preview_64 rfl ?_
                refine e_icmp_le (tgt := 77) dX12_preview_67 rfl (fun hc25 => ?_) (fun hc25 => ?_)
                · replace h9 := ifT hc25 h9
                  refine e_aload_n dX12_preview_77 rfl rfl ?_
                  refine g_1258 flX12_160 dX12_preview_78 ?_
                  refine e_iconst (v := 4) dX12_preview_81 rfl ?_
                  refine e_iload_n dX12_preview_82 rfl rfl ?_
                  refine e_imul dX12_preview_83 ?_
                  refine e_iload_n dX12_preview_84 rfl rfl ?_
                  refine e_iadd dX12_preview_85 ?_
                  refine e_dup2_11 dX12_preview_86 rfl rfl ?_
                  refine e_pc (pc' := 87) rfl ?_
                  obtain ⟨k26, h9⟩ := chkP hN0 h9
                  refine l_1258 dX12_preview_87 (inb_in k26) ?_
                  refine e_iload_n dX12_preview_88 rfl rfl ?_
                  refine e_iadd dX12_preview_89 ?_
                  obtain ⟨k27, h9⟩ := chkP hN0 h9
                  refine s_1258 dX12_preview_90 (inb_in k27) ?_
                  refine e_aload_n dX12_preview_91 rfl rfl ?_
                  refine g_1259 flX12_163 dX12_preview_92 ?_
                  refine e_iconst (v := 4) dX12_preview_95 rfl ?_
                  refine e_iload_n dX12_preview_96 rfl rfl ?_
                  refine e_imul dX12_preview_97 ?_
                  refine e_pc (pc' := 98) rfl ?_
                  refine e_iload_n dX12_preview_98 rfl rfl ?_
                  refine e_iadd dX12_preview_99 ?_
                  refine e_dup2_11 dX12_preview_100 rfl rfl ?_
                  obtain ⟨k28, h9⟩ := chkP hN0 h9
                  refine l_1259 dX12_preview_101 (inb_in k28) ?_
                  refine e_iload dX12_preview_102 rfl ?_
                  refine e_iadd dX12_preview_104 ?_
                  obtain ⟨k29, h9⟩ := chkP hN0 h9
                  refine s_1259 dX12_preview_105 (inb_in k29) ?_
                  refine e_aload_n dX12_preview_106 rfl rfl ?_
                  refine g_1258 flX12_160 dX12_preview_107 ?_
                  refine e_pc (pc' := 110) rfl ?_
                  refine e_iconst (v := 4) dX12_preview_110 rfl ?_
                  refine e_iload_n dX12_preview_111 rfl rfl ?_
                  refine e_imul dX12_preview_112 ?_
                  refine e_iload_n dX12_preview_113 rfl rfl ?_
                  refine e_iadd dX12_preview_114 ?_
                  obtain ⟨k30, h9⟩ := chkP hN0 h9
                  refine l_1258 dX12_preview_115 (inb_in k30) ?_
                  exact x_iret dX12_preview_116 rfl (hR0 _ _ h9)
                · replace h9 := ifF hc25 h9
                  refine e_aload_n dX12_preview_70 rfl rfl ?_
                  refine e_bipush (v := (-7)) dX12_preview_71 rfl ?_
                  obtain ⟨⟨r31, w32⟩, hr31, h9⟩ := elimP hN0 h9
                  refine x_callVi (c := 12) (As := [.int (-7)]) (rest := []) okX12_no lkX12_263 rfl (by decide) rfl dX12_preview_73 rfl rfl (Nat.le_of_ble_eq_true rfl) rfl (c_X12_no (-7) hr31 (CI.mk ?_))
                  exact x_iret dX12_preview_76 rfl (hR0 _ _ h9)
              · replace h9 := ifF hc23 h9
                refine e_aload_n dX12_preview_45 rfl rfl ?_
                refine e_bipush (v := (-6)) dX12_preview_46 rfl ?_
                obtain ⟨⟨r34, w35⟩, hr34, h9⟩ := elimP hN0 h9
                refine x_callVi (c := 12) (As := [.int (-6)]) (rest := []) okX12_no lkX12_263 rfl (by decide) rfl dX12_preview_48 rfl rfl (Nat.le_of_ble_eq_true rfl) rfl (c_X12_no (-6) hr34 (CI.mk ?_))
                exact x_iret dX12_preview_51 rfl (hR0 _ _ h9)
      · replace h9 := ifF hc10 h9
        refine e_aload_n dX12_preview_17 rfl rfl ?_
        refine e_iconst (v := (-1)) dX12_preview_18 rfl ?_
        obtain ⟨⟨r37, w38⟩, hr37, h9⟩ := elimP hN0 h9
        refine x_callVi (c := 12) (As := [.int (-1)]) (rest := []) okX12_no lkX12_263 rfl (by decide) rfl dX12_preview_19 rfl rfl (Nat.le_of_ble_eq_true rfl) rfl (c_X12_no (-1) hr37 (CI.mk ?_))
        exact x_iret dX12_preview_22 rfl (hR0 _ _ h9)
noncomputable def b_X12_common_6 (m : VM) (p1 : Int64) (p2 : Int64) (v1 : Int64 × Int64) : (Int64 × Int64) ⊕ (Option (Int64)) := if (lg_cmp v1.2 0) = 0 then Sum.inr (some v1.1) else if ¬ v1.2 = 0 then Sum.inl (v1.2, v1.1 - v1.1 / v1.2 * v1.2) else Sum.inr none
noncomputable def f_X12_common (m : VM) (p1 : Int64) (p2 : Int64) : Option (Int64) := loopF none (b_X12_common_6 m p1 p2) (p1, p2)
theorem c_X12_common {g : GG} {d : Nat} {ad : AD} {x m : VM} {Q : Option Value → VM → VM → Prop} (p1 : Int64) (p2 : Int64) {r9 : Int64} (hf : f_X12_common m p1 p2 = some r9) (hq : Q (some (.long r9)) x m) : CX g d MX12_common [.long p1, .long p2] ad x m Q := by
  refine CX.to (Lv := [some (.long p1), none, some (.long p2), none, none, none, none, none, none, none]) okX12_common (Nat.le_of_ble_eq_true rfl) rfl ?_
  obtain ⟨Φ0, hΦ⟩ : ∃ Φ : Option (Int64) → Prop, Φ = fun o => o = some r9 := ⟨_, rfl⟩
  have hN0 : Φ0 none → False := by rw [hΦ]; intro h; cases h
  have hR0 : ∀ z9, Φ0 (some z9) → Q (some (.long z9)) x m := by rw [hΦ]; intro z9 h; cases h; exact hq
  have h9 : Φ0 (f_X12_common m p1 p2) := by rw [hΦ]; exact hf
  clear hf hq hΦ
  unfold f_X12_common at h9
  refine e_lload_n dX12_common_0 rfl rfl ?_
  refine e_lstore (L' := [some (.long p1), none, some (.long p2), none, some (.long p1), none, none, none, none, none]) dX12_common_1 (by decide) rfl ?_
  refine e_lload_n dX12_common_3 rfl rfl ?_
  refine e_lstore (L' := [some (.long p1), none, some (.long p2), none, some (.long p1), none, some (.long p2), none, none, none]) dX12_common_4 (by decide) rfl ?_
  refine e_wk (L' := [none, none, none, none, some (.long p1), none, some (.long p2), none, none, none]) (wkN (wkN (wkN (wkN (wkC (wkN (wkC (wkN (wkN (wkN wk0)))))))))) ?_
  refine loop_gen (b_X12_common_6 m p1 p2) none (fun v1 => EX g d MX12_common ad x m 6 [none, none, none, none, some (.long v1.1), none, some (.long v1.2), none, none, none] [] Q) Φ0 hN0 (fun v1 Φ1 hB0_1 hO1 h9 => ?_) (p1, p2) h9
  have hN1 := fun h => hN0 (hO1 _ h)
  have hR1 := fun r9 h => hR0 r9 (hO1 _ h)
  have hB0_1 : ∀ (z0 : Int64) (z1 : Int64), Φ1 (Sum.inl (z0, z1)) → EX g d MX12_common ad x m 6 [none, none, none, none, some (.long z0), none, some (.long z1), none, none, none] [] Q := fun z0 z1 h => hB0_1 (z0, z1) h
  unfold b_X12_common_6 at h9
  refine e_lload dX12_common_6 rfl ?_
  refine e_lconst (v := 0) dX12_common_8 rfl ?_
  refine e_lcmp dX12_common_9 ?_
  refine e_if_eq (tgt := 31) dX12_common_10 rfl (fun hc2 => ?_) (fun hc2 => ?_)
  · replace h9 := ifT hc2 h9
    refine e_lload dX12_common_31 rfl ?_
    exact x_lret dX12_common_33 rfl (hR1 _ h9)
  · replace h9 := ifF hc2 h9
    refine e_lload dX12_common_13 rfl ?_
    refine e_lload dX12_common_15 rfl ?_
    obtain ⟨k3, h9⟩ := chkP hN1 h9
    refine e_lrem dX12_common_17 k3 ?_
    refine e_lstore (L' := [none, none, none, none, some (.long v1.1), none, some (.long v1.2), none, some (.long (v1.1 - v1.1 / v1.2 * v1.2)), none]) dX12_common_18 (by decide) rfl ?_
    refine e_lload dX12_common_20 rfl ?_
    refine e_lstore (L' := [none, none, none, none, some (.long v1.2), none, some (.long v1.2), none, some (.long (v1.1 - v1.1 / v1.2 * v1.2)), none]) dX12_common_22 (by decide) rfl ?_
    refine e_lload dX12_common_24 rfl ?_
    refine e_lstore (L' := [none, none, none, none, some (.long v1.2), none, some (.long (v1.1 - v1.1 / v1.2 * v1.2)), none, some (.long (v1.1 - v1.1 / v1.2 * v1.2)), none]) dX12_common_26 (by decide) rfl ?_
    refine e_pc (pc' := 28) rfl ?_
    refine e_goto (tgt := 6) dX12_common_28 rfl ?_
    refine e_wk (L' := [none, none, none, none, some (.long v1.2), none, some (.long (v1.1 - v1.1 / v1.2 * v1.2)), none, none, none]) (wkN (wkN (wkN (wkN (wkC (wkN (wkC (wkN (wkN (wkN wk0)))))))))) ?_
    exact hB0_1 _ _ h9
noncomputable def b_X12_putRight_23 (m : VM) (p1 : Int32) (p2 : Int32) (v3 : Int64 × Int64 × Int32 × Int32) : (Int64 × Int64 × Int32 × Int32) ⊕ (Option (Int64)) := if 4 ≤ v3.2.2.2 then if v3.2.2.1 = 0 then if p2 = 0 then Sum.inr (some 0) else Sum.inr (some 1) else (f_X12_common m v3.2.2.1.toInt64 v3.1).elim (Sum.inr none) (fun r6 => if ¬ r6 = 0 then if ¬ r6 = 0 then if p2 = 0 then Sum.inr (some (v3.1 / r6)) else Sum.inr (some (v3.2.1 * (v3.2.2.1.toInt64 / r6))) else Sum.inr none else Sum.inr none) else if inb ((4 * p1) + v3.2.2.2) 32 = true then if (m.2.1 1258 0 (((4 * p1) + v3.2.2.2).toNatClampNeg)) = 0 then Sum.inl (v3.1, v3.2.1, v3.2.2.1, v3.2.2.2 + 1) else if inb v3.2.2.2 4 = true then if inb v3.2.2.2 4 = true then if inb ((4 * p1) + v3.2.2.2) 32 = true then (f_X12_common m ((m.2.1 1258 0 (((4 * p1) + v3.2.2.2).toNatClampNeg)).toInt64) (((m.2.1 1257 0 v3.2.2.2.toNatClampNeg).toInt64) * ((m.2.1 1259 0 (((4 * p1) + v3.2.2.2).toNatClampNeg)).toInt64))).elim (Sum.inr none) (fun r16 => if ¬ r16 = 0 then if ¬ r16 = 0 then (f_X12_common m v3.2.1 (((m.2.1 1258 0 (((4 * p1) + v3.2.2.2).toNatClampNeg)).toInt64) / r16)).elim (Sum.inr none) (fun r19 => if ¬ r19 = 0 then if ¬ r19 = 0 then if ¬ r19 = 0 then (f_X12_common m ((v3.2.1 / r19) * (((m.2.1 1258 0 (((4 * p1) + v3.2.2.2).toNatClampNeg)).toInt64) / r16)) ((v3.1 * ((((m.2.1 1258 0 (((4 * p1) + v3.2.2.2).toNatClampNeg)).toInt64) / r16) / r19)) + (((((m.2.1 1257 0 v3.2.2.2.toNatClampNeg).toInt64) * ((m.2.1 1259 0 (((4 * p1) + v3.2.2.2).toNatClampNeg)).toInt64)) / r16) * (v3.2.1 / r19)))).elim (Sum.inr none) (fun r23 => if ¬ r23 = 0 then if ¬ r23 = 0 then Sum.inl (((v3.1 * ((((m.2.1 1258 0 (((4 * p1) + v3.2.2.2).toNatClampNeg)).toInt64) / r16) / r19)) + (((((m.2.1 1257 0 v3.2.2.2.toNatClampNeg).toInt64) * ((m.2.1 1259 0 (((4 * p1) + v3.2.2.2).toNatClampNeg)).toInt64)) / r16) * (v3.2.1 / r19))) / r23, ((v3.2.1 / r19) * (((m.2.1 1258 0 (((4 * p1) + v3.2.2.2).toNatClampNeg)).toInt64) / r16)) / r23, v3.2.2.1 + (m.2.1 1257 0 v3.2.2.2.toNatClampNeg), v3.2.2.2 + 1) else Sum.inr none else Sum.inr none) else Sum.inr none else Sum.inr none else Sum.inr none) else Sum.inr none else Sum.inr none) else Sum.inr none else Sum.inr none else Sum.inr none else Sum.inr none
noncomputable def f_X12_putRight (m : VM) (p1 : Int32) (p2 : Int32) : Option (Int64) := (f_X12_isPicture m p1).elim none (fun r1 => if r1 = 0 then some (-1000) else loopF none (b_X12_putRight_23 m p1 p2) (0, 1, 0, 0))
theorem c_X12_putRight {g : GG} {d : Nat} {ad : AD} {x m : VM} {Q : Option Value → VM → VM → Prop} (p1 : Int32) (p2 : Int32) {r9 : Int64} (hf : f_X12_putRight m p1 p2 = some r9) (hq : Q (some (.long r9)) x m) : CX g (d + 1) MX12_putRight [.ref (ad 12 0), .int p1, .int p2] ad x m Q := by
  refine CX.to (Lv := [some (.ref (ad 12 0)), some (.int p1), some (.int p2), none, none, none, none, none, none, none, none, none, none, none, none, none, none, none, none, none]) okX12_putRight (Nat.le_of_ble_eq_true rfl) rfl ?_
  obtain ⟨Φ0, hΦ⟩ : ∃ Φ : Option (Int64) → Prop, Φ = fun o => o = some r9 := ⟨_, rfl⟩
  have hN0 : Φ0 none → False := by rw [hΦ]; intro h; cases h
  have hR0 : ∀ z9, Φ0 (some z9) → Q (some (.long z9)) x m := by rw [hΦ]; intro z9 h; cases h; exact hq
  have h9 : Φ0 (f_X12_putRight m p1 p2) := by rw [hΦ]; exact hf
  clear hf hq hΦ
  unfold f_X12_putRight at h9
  refine e_aload_n dX12_putRight_0 rfl rfl ?_
  refine e_iload_n dX12_putRight_1 rfl rfl ?_
  obtain ⟨r1, hr1, h9⟩ := elimP hN0 h9
  refine x_callVi (c := 12) (As := [.int p1]) (rest := []) okX12_isPicture lkX12_253 rfl (by decide) rfl dX12_putRight_2 rfl rfl (Nat.le_of_ble_eq_true rfl) rfl (c_X12_isPicture p1 hr1 (CI.mk ?_))
  refine e_if_ne (tgt := 12) dX12_putRight_5 rfl (fun hc2 => ?_) (fun hc2 => ?_)
  · replace h9 := ifF hc2 h9
    refine e_lconst (v := 0) dX12_putRight_12 rfl ?_
    refine e_lstore_n (L' := [some (.ref (ad 12 0)), some (.int p1), some (.int p2), some (.long 0), none, none, none, none, none, none, none, none, none, none, none, none, none, none, none, none]) dX12_putRight_13 rfl (by decide) rfl ?_
    refine e_lconst (v := 1) dX12_putRight_14 rfl ?_
    refine e_lstore (L' := [some (.ref (ad 12 0)), some (.int p1), some (.int p2), some (.long 0), none, some (.long 1), none, none, none, none, none, none, none, none, none, none, none, none, none, none]) dX12_putRight_15 (by decide) rfl ?_
    refine e_iconst (v := 0) dX12_putRight_17 rfl ?_
    refine e_istore (L' := [some (.ref (ad 12 0)), some (.int p1), some (.int p2), some (.long 0), none, some (.long 1), none, some (.int 0), none, none, none, none, none, none, none, none, none, none, none, none]) dX12_putRight_18 (by decide) rfl ?_
    refine e_iconst (v := 0) dX12_putRight_20 rfl ?_
    refine e_istore (L' := [some (.ref (ad 12 0)), some (.int p1), some (.int p2), some (.long 0), none, some (.long 1), none, some (.int 0), some (.int 0), none, none, none, none, none, none, none, none, none, none, none]) dX12_putRight_21 (by decide) rfl ?_
    refine loop_gen (b_X12_putRight_23 m p1 p2) none (fun v3 => EX g (d + 1) MX12_putRight ad x m 23 [some (.ref (ad 12 0)), some (.int p1), some (.int p2), some (.long v3.1), none, some (.long v3.2.1), none, some (.int v3.2.2.1), some (.int v3.2.2.2), none, none, none, none, none, none, none, none, none, none, none] [] Q) Φ0 hN0 (fun v3 Φ1 hB0_1 hO1 h9 => ?_) (0, 1, 0, 0) h9
    have hN1 := fun h => hN0 (hO1 _ h)
    have hR1 := fun r9 h => hR0 r9 (hO1 _ h)
    have hB0_1 : ∀ (z0 : Int64) (z1 : Int64) (z2 : Int32) (z3 : Int32), Φ1 (Sum.inl (z0, z1, z2, z3)) → EX g (d + 1) MX12_putRight ad x m 23 [some (.ref (ad 12 0)), some (.int p1), some (.int p2), some (.long z0), none, some (.long z1), none, some (.int z2), some (.int z3), none, none, none, none, none, none, none, none, none, none, none] [] Q := fun z0 z1 z2 z3 h => hB0_1 (z0, z1, z2, z3) h
    unfold b_X12_putRight_23 at h9
    refine e_iload dX12_putRight_23 rfl ?_
    refine e_iconst (v := 4) dX12_putRight_25 rfl ?_
    refine e_icmp_ge (tgt := 172) dX12_putRight_26 rfl (fun hc4 => ?_) (fun hc4 => ?_)
    · replace h9 := ifT hc4 h9
      refine e_iload dX12_putRight_172 rfl ?_
      refine e_if_ne (tgt := 187) dX12_putRight_174 rfl (fun hc5 => ?_) (fun hc5 => ?_)
      · replace h9 := ifF hc5 h9
        refine e_iload dX12_putRight_187 rfl ?_
        refine e_i2l dX12_putRight_189 rfl ?_
        refine e_lload_n dX12_putRight_190 rfl rfl ?_
        obtain ⟨r6, hr6, h9⟩ := elimP hN1 h9
        refine x_callSi (As := [.long v3.2.2.1.toInt64, .long v3.1]) (rest := []) okX12_common lkX12_365 dX12_putRight_191 rfl rfl (Nat.le_of_ble_eq_true rfl) (c_X12_common v3.2.2.1.toInt64 v3.1 hr6 (CI.mk ?_))
        refine e_lstore (L' := [some (.ref (ad 12 0)), some (.int p1), some (.int p2), some (.long v3.1), none, some (.long v3.2.1), none, some (.int v3.2.2.1), some (.long r6), none, none, none, none, none, none, none, none, none, none, none]) dX12_putRight_194 (by decide) rfl ?_
        refine e_lload_n dX12_putRight_196 rfl rfl ?_
        refine e_lload dX12_putRight_197 rfl ?_
        obtain ⟨k7, h9⟩ := chkP hN1 h9
        refine e_ldiv dX12_putRight_199 k7 ?_
        refine e_pc (pc' := 200) rfl ?_
        refine e_lstore_n (L' := [some (.ref (ad 12 0)), some (.int p1), some (.int p2), some (.long (v3.1 / r6)), none, some (.long v3.2.1), none, some (.int v3.2.2.1), some (.long r6), none, none, none, none, none, none, none, none, none, none, none]) dX12_putRight_200 rfl (by decide) rfl ?_
        refine e_lload dX12_putRight_201 rfl ?_
        refine e_iload dX12_putRight_203 rfl ?_
        refine e_i2l dX12_putRight_205 rfl ?_
        refine e_lload dX12_putRight_206 rfl ?_
        obtain ⟨k8, h9⟩ := chkP hN1 h9
        refine e_ldiv dX12_putRight_208 k8 ?_
        refine e_lmul dX12_putRight_209 ?_
        refine e_lstore (L' := [some (.ref (ad 12 0)), some (.int p1), some (.int p2), some (.long (v3.1 / r6)), none, some (.long (v3.2.1 * (v3.2.2.1.toInt64 / r6))), none, some (.int v3.2.2.1), some (.long r6), none, none, none, none, none, none, none, none, none, none, none]) dX12_putRight_210 (by decide) rfl ?_
        refine e_iload_n dX12_putRight_212 rfl rfl ?_
        refine e_pc (pc' := 213) rfl ?_
        refine e_if_eq (tgt := 221) dX12_putRight_213 rfl (fun hc9 => ?_) (fun hc9 => ?_)
        · replace h9 := ifT hc9 h9
          refine e_lload_n dX12_putRight_221 rfl rfl ?_
          exact x_lret dX12_putRight_222 rfl (hR1 _ h9)
        · replace h9 := ifF hc9 h9
          refine e_lload dX12_putRight_216 rfl ?_
          refine e_goto (tgt := 222) dX12_putRight_218 rfl ?_
          exact x_lret dX12_putRight_222 rfl (hR1 _ h9)
      · replace h9 := ifT hc5 h9
        refine e_iload_n dX12_putRight_177 rfl rfl ?_
        refine e_if_eq (tgt := 185) dX12_putRight_178 rfl (fun hc10 => ?_) (fun hc10 => ?_)
        · replace h9 := ifT hc10 h9
          refine e_lconst (v := 0) dX12_putRight_185 rfl ?_
          exact x_lret dX12_putRight_186 rfl (hR1 _ h9)
        · replace h9 := ifF hc10 h9
          refine e_lconst (v := 1) dX12_putRight_181 rfl ?_
          refine e_goto (tgt := 186) dX12_putRight_182 rfl ?_
          exact x_lret dX12_putRight_186 rfl (hR1 _ h9)
    · replace h9 := ifF hc4 h9
      refine e_aload_n dX12_putRight_29 rfl rfl ?_
      refine g_1258 flX12_160 dX12_putRight_30 ?_
      refine e_iconst (v := 4) dX12_putRight_33 rfl ?_
      refine e_iload_n dX12_putRight_34 rfl rfl ?_
      refine e_imul dX12_putRight_35 ?_
      refine e_iload dX12_putRight_36 rfl ?_
      refine e_iadd dX12_putRight_38 ?_
      obtain ⟨k11, h9⟩ := chkP hN1 h9
      refine l_1258 dX12_putRight_39 (inb_in k11) ?_
      refine e_pc (pc' := 40) rfl ?_
      refine e_istore (L' := [some (.ref (ad 12 0)), some (.int p1), some (.int p2), some (.long v3.1), none, some (.long v3.2.1), none, some (.int v3.2.2.1), some (.int v3.2.2.2), some (.int (m.2.1 1258 0 (((4 * p1) + v3.2.2.2).toNatClampNeg))), none, none, none, none, none, none, none, none, none, none]) dX12_putRight_40 (by decide) rfl ?_
      refine e_iload dX12_putRight_42 rfl ?_
      refine e_if_ne (tgt := 50) dX12_putRight_44 rfl (fun hc12 => ?_) (fun hc12 => ?_)
      · replace h9 := ifF hc12 h9
        refine e_iload dX12_putRight_50 rfl ?_
        refine e_aload_n dX12_putRight_52 rfl rfl ?_
        refine g_1257 flX12_157 dX12_putRight_53 ?_
        refine e_iload dX12_putRight_56 rfl ?_
        obtain ⟨k13, h9⟩ := chkP hN1 h9
        refine l_1257 dX12_putRight_58 (inb_in k13) ?_
        refine e_iadd dX12_putRight_59 ?_
        refine e_istore (L' := [some (.ref (ad 12 0)), some (.int p1), some (.int p2), some (.long v3.1), none, some (.long v3.2.1), none, some (.int (v3.2.2.1 + (m.2.1 1257 0 v3.2.2.2.toNatClampNeg))), some (.int v3.2.2.2), some (.int (m.2.1 1258 0 (((4 * p1) + v3.2.2.2).toNatClampNeg))), none, none, none, none, none, none, none, none, none, none]) dX12_putRight_60 (by decide) rfl ?_
        refine e_aload_n dX12_putRight_62 rfl rfl ?_
        refine e_pc (pc' := 63) rfl ?_
        refine g_1257 flX12_157 dX12_putRight_63 ?_
        refine e_iload dX12_putRight_66 rfl ?_
        obtain ⟨k14, h9⟩ := chkP hN1 h9
        refine l_1257 dX12_putRight_68 (inb_in k14) ?_
        refine e_i2l dX12_putRight_69 rfl ?_
        refine e_aload_n dX12_putRight_70 rfl rfl ?_
        refine g_1259 flX12_163 dX12_putRight_71 ?_
        refine e_iconst (v := 4) dX12_putRight_74 rfl ?_
        refine e_iload_n dX12_putRight_75 rfl rfl ?_
        refine e_imul dX12_putRight_76 ?_
        refine e_pc (pc' := 77) rfl ?_
        refine e_iload dX12_putRight_77 rfl ?_
        refine e_iadd dX12_putRight_79 ?_
        obtain ⟨k15, h9⟩ := chkP hN1 h9
        refine l_1259 dX12_putRight_80 (inb_in k15) ?_
        refine e_i2l dX12_putRight_81 rfl ?_
        refine e_lmul dX12_putRight_82 ?_
        refine e_lstore (L' := [some (.ref (ad 12 0)), some (.int p1), some (.int p2), some (.long v3.1), none, some (.long v3.2.1), none, some (.int (v3.2.2.1 + (m.2.1 1257 0 v3.2.2.2.toNatClampNeg))), some (.int v3.2.2.2), some (.int (m.2.1 1258 0 (((4 * p1) + v3.2.2.2).toNatClampNeg))), some (.long (((m.2.1 1257 0 v3.2.2.2.toNatClampNeg).toInt64) * ((m.2.1 1259 0 (((4 * p1) + v3.2.2.2).toNatClampNeg)).toInt64))), none, none, none, none, none, none, none, none, none]) dX12_putRight_83 (by decide) rfl ?_
        refine e_iload dX12_putRight_85 rfl ?_
        refine e_i2l dX12_putRight_87 rfl ?_
        refine e_lload dX12_putRight_88 rfl ?_
        refine e_pc (pc' := 90) rfl ?_
        obtain ⟨r16, hr16, h9⟩ := elimP hN1 h9
        refine x_callSi (As := [.long ((m.2.1 1258 0 (((4 * p1) + v3.2.2.2).toNatClampNeg)).toInt64), .long (((m.2.1 1257 0 v3.2.2.2.toNatClampNeg).toInt64) * ((m.2.1 1259 0 (((4 * p1) + v3.2.2.2).toNatClampNeg)).toInt64))]) (rest := []) okX12_common lkX12_365 dX12_putRight_90 rfl rfl (Nat.le_of_ble_eq_true rfl) (c_X12_common ((m.2.1 1258 0 (((4 * p1) + v3.2.2.2).toNatClampNeg)).toInt64) (((m.2.1 1257 0 v3.2.2.2.toNatClampNeg).toInt64) * ((m.2.1 1259 0 (((4 * p1) + v3.2.2.2).toNatClampNeg)).toInt64)) hr16 (CI.mk ?_))
        refine e_lstore (L' := [some (.ref (ad 12 0)), some (.int p1), some (.int p2), some (.long v3.1), none, some (.long v3.2.1), none, some (.int (v3.2.2.1 + (m.2.1 1257 0 v3.2.2.2.toNatClampNeg))), some (.int v3.2.2.2), some (.int (m.2.1 1258 0 (((4 * p1) + v3.2.2.2).toNatClampNeg))), some (.long (((m.2.1 1257 0 v3.2.2.2.toNatClampNeg).toInt64) * ((m.2.1 1259 0 (((4 * p1) + v3.2.2.2).toNatClampNeg)).toInt64))), none, some (.long r16), none, none, none, none, none, none, none]) dX12_putRight_93 (by decide) rfl ?_
        refine e_iload dX12_putRight_95 rfl ?_
        refine e_i2l dX12_putRight_97 rfl ?_
        refine e_lload dX12_putRight_98 rfl ?_
        obtain ⟨k17, h9⟩ := chkP hN1 h9
        refine e_ldiv dX12_putRight_100 k17 ?_
        refine e_lstore (L' := [some (.ref (ad 12 0)), some (.int p1), some (.int p2), some (.long v3.1), none, some (.long v3.2.1), none, some (.int (v3.2.2.1 + (m.2.1 1257 0 v3.2.2.2.toNatClampNeg))), some (.int v3.2.2.2), some (.int (m.2.1 1258 0 (((4 * p1) + v3.2.2.2).toNatClampNeg))), some (.long (((m.2.1 1257 0 v3.2.2.2.toNatClampNeg).toInt64) * ((m.2.1 1259 0 (((4 * p1) + v3.2.2.2).toNatClampNeg)).toInt64))), none, some (.long r16), none, some (.long (((m.2.1 1258 0 (((4 * p1) + v3.2.2.2).toNatClampNeg)).toInt64) / r16)), none, none, none, none, none]) dX12_putRight_101 (by decide) rfl ?_
        refine e_lload dX12_putRight_103 rfl ?_
        refine e_lload dX12_putRight_105 rfl ?_
        refine e_pc (pc' := 107) rfl ?_
        obtain ⟨k18, h9⟩ := chkP hN1 h9
        refine e_ldiv dX12_putRight_107 k18 ?_
        refine e_lstore (L' := [some (.ref (ad 12 0)), some (.int p1), some (.int p2), some (.long v3.1), none, some (.long v3.2.1), none, some (.int (v3.2.2.1 + (m.2.1 1257 0 v3.2.2.2.toNatClampNeg))), some (.int v3.2.2.2), some (.int (m.2.1 1258 0 (((4 * p1) + v3.2.2.2).toNatClampNeg))), some (.long ((((m.2.1 1257 0 v3.2.2.2.toNatClampNeg).toInt64) * ((m.2.1 1259 0 (((4 * p1) + v3.2.2.2).toNatClampNeg)).toInt64)) / r16)), none, some (.long r16), none, some (.long (((m.2.1 1258 0 (((4 * p1) + v3.2.2.2).toNatClampNeg)).toInt64) / r16)), none, none, none, none, none]) dX12_putRight_108 (by decide) rfl ?_
        refine e_lload dX12_putRight_110 rfl ?_
        refine e_lload dX12_putRight_112 rfl ?_
        obtain ⟨r19, hr19, h9⟩ := elimP hN1 h9
        refine x_callSi (As := [.long v3.2.1, .long (((m.2.1 1258 0 (((4 * p1) + v3.2.2.2).toNatClampNeg)).toInt64) / r16)]) (rest := []) okX12_common lkX12_365 dX12_putRight_114 rfl rfl (Nat.le_of_ble_eq_true rfl) (c_X12_common v3.2.1 (((m.2.1 1258 0 (((4 * p1) + v3.2.2.2).toNatClampNeg)).toInt64) / r16) hr19 (CI.mk ?_))
        refine e_lstore (L' := [some (.ref (ad 12 0)), some (.int p1), some (.int p2), some (.long v3.1), none, some (.long v3.2.1), none, some (.int (v3.2.2.1 + (m.2.1 1257 0 v3.2.2.2.toNatClampNeg))), some (.int v3.2.2.2), some (.int (m.2.1 1258 0 (((4 * p1) + v3.2.2.2).toNatClampNeg))), some (.long ((((m.2.1 1257 0 v3.2.2.2.toNatClampNeg).toInt64) * ((m.2.1 1259 0 (((4 * p1) + v3.2.2.2).toNatClampNeg)).toInt64)) / r16)), none, some (.long r16), none, some (.long (((m.2.1 1258 0 (((4 * p1) + v3.2.2.2).toNatClampNeg)).toInt64) / r16)), none, some (.long r19), none, none, none]) dX12_putRight_117 (by decide) rfl ?_
        refine e_lload_n dX12_putRight_119 rfl rfl ?_
        refine e_lload dX12_putRight_120 rfl ?_
        refine e_lload dX12_putRight_122 rfl ?_
        refine e_pc (pc' := 124) rfl ?_
        obtain ⟨k20, h9⟩ := chkP hN1 h9
        refine e_ldiv dX12_putRight_124 k20 ?_
        refine e_lmul dX12_putRight_125 ?_
        refine e_lload dX12_putRight_126 rfl ?_
        refine e_lload dX12_putRight_128 rfl ?_
        refine e_lload dX12_putRight_130 rfl ?_
        obtain ⟨k21, h9⟩ := chkP hN1 h9
        refine e_ldiv dX12_putRight_132 k21 ?_
        refine e_lmul dX12_putRight_133 ?_
        refine e_ladd dX12_putRight_134 ?_
        refine e_lstore_n (L' := [some (.ref (ad 12 0)), some (.int p1), some (.int p2), some (.long ((v3.1 * ((((m.2.1 1258 0 (((4 * p1) + v3.2.2.2).toNatClampNeg)).toInt64) / r16) / r19)) + (((((m.2.1 1257 0 v3.2.2.2.toNatClampNeg).toInt64) * ((m.2.1 1259 0 (((4 * p1) + v3.2.2.2).toNatClampNeg)).toInt64)) / r16) * (v3.2.1 / r19)))), none, some (.long v3.2.1), none, some (.int (v3.2.2.1 + (m.2.1 1257 0 v3.2.2.2.toNatClampNeg))), some (.int v3.2.2.2), some (.int (m.2.1 1258 0 (((4 * p1) + v3.2.2.2).toNatClampNeg))), some (.long ((((m.2.1 1257 0 v3.2.2.2.toNatClampNeg).toInt64) * ((m.2.1 1259 0 (((4 * p1) + v3.2.2.2).toNatClampNeg)).toInt64)) / r16)), none, some (.long r16), none, some (.long (((m.2.1 1258 0 (((4 * p1) + v3.2.2.2).toNatClampNeg)).toInt64) / r16)), none, some (.long r19), none, none, none]) dX12_putRight_135 rfl (by decide) rfl ?_
        refine e_pc (pc' := 136) rfl ?_
        refine e_lload dX12_putRight_136 rfl ?_
        refine e_lload dX12_putRight_138 rfl ?_
        obtain ⟨k22, h9⟩ := chkP hN1 h9
        refine e_ldiv dX12_putRight_140 k22 ?_
        refine e_lload dX12_putRight_141 rfl ?_
        refine e_lmul dX12_putRight_143 ?_
        refine e_lstore (L' := [some (.ref (ad 12 0)), some (.int p1), some (.int p2), some (.long ((v3.1 * ((((m.2.1 1258 0 (((4 * p1) + v3.2.2.2).toNatClampNeg)).toInt64) / r16) / r19)) + (((((m.2.1 1257 0 v3.2.2.2.toNatClampNeg).toInt64) * ((m.2.1 1259 0 (((4 * p1) + v3.2.2.2).toNatClampNeg)).toInt64)) / r16) * (v3.2.1 / r19)))), none, some (.long ((v3.2.1 / r19) * (((m.2.1 1258 0 (((4 * p1) + v3.2.2.2).toNatClampNeg)).toInt64) / r16))), none, some (.int (v3.2.2.1 + (m.2.1 1257 0 v3.2.2.2.toNatClampNeg))), some (.int v3.2.2.2), some (.int (m.2.1 1258 0 (((4 * p1) + v3.2.2.2).toNatClampNeg))), some (.long ((((m.2.1 1257 0 v3.2.2.2.toNatClampNeg).toInt64) * ((m.2.1 1259 0 (((4 * p1) + v3.2.2.2).toNatClampNeg)).toInt64)) / r16)), none, some (.long r16), none, some (.long (((m.2.1 1258 0 (((4 * p1) + v3.2.2.2).toNatClampNeg)).toInt64) / r16)), none, some (.long r19), none, none, none]) dX12_putRight_144 (by decide) rfl ?_
        refine e_lload dX12_putRight_146 rfl ?_
        refine e_lload_n dX12_putRight_148 rfl rfl ?_
        obtain ⟨r23, hr23, h9⟩ := elimP hN1 h9
        refine x_callSi (As := [.long ((v3.2.1 / r19) * (((m.2.1 1258 0 (((4 * p1) + v3.2.2.2).toNatClampNeg)).toInt64) / r16)), .long ((v3.1 * ((((m.2.1 1258 0 (((4 * p1) + v3.2.2.2).toNatClampNeg)).toInt64) / r16) / r19)) + (((((m.2.1 1257 0 v3.2.2.2.toNatClampNeg).toInt64) * ((m.2.1 1259 0 (((4 * p1) + v3.2.2.2).toNatClampNeg)).toInt64)) / r16) * (v3.2.1 / r19)))]) (rest := []) okX12_common lkX12_365 dX12_putRight_149 rfl rfl (Nat.le_of_ble_eq_true rfl) (c_X12_common ((v3.2.1 / r19) * (((m.2.1 1258 0 (((4 * p1) + v3.2.2.2).toNatClampNeg)).toInt64) / r16)) ((v3.1 * ((((m.2.1 1258 0 (((4 * p1) + v3.2.2.2).toNatClampNeg)).toInt64) / r16) / r19)) + (((((m.2.1 1257 0 v3.2.2.2.toNatClampNeg).toInt64) * ((m.2.1 1259 0 (((4 * p1) + v3.2.2.2).toNatClampNeg)).toInt64)) / r16) * (v3.2.1 / r19))) hr23 (CI.mk ?_))
        refine e_pc (pc' := 152) rfl ?_
        refine e_lstore (L' := [some (.ref (ad 12 0)), some (.int p1), some (.int p2), some (.long ((v3.1 * ((((m.2.1 1258 0 (((4 * p1) + v3.2.2.2).toNatClampNeg)).toInt64) / r16) / r19)) + (((((m.2.1 1257 0 v3.2.2.2.toNatClampNeg).toInt64) * ((m.2.1 1259 0 (((4 * p1) + v3.2.2.2).toNatClampNeg)).toInt64)) / r16) * (v3.2.1 / r19)))), none, some (.long ((v3.2.1 / r19) * (((m.2.1 1258 0 (((4 * p1) + v3.2.2.2).toNatClampNeg)).toInt64) / r16))), none, some (.int (v3.2.2.1 + (m.2.1 1257 0 v3.2.2.2.toNatClampNeg))), some (.int v3.2.2.2), some (.int (m.2.1 1258 0 (((4 * p1) + v3.2.2.2).toNatClampNeg))), some (.long ((((m.2.1 1257 0 v3.2.2.2.toNatClampNeg).toInt64) * ((m.2.1 1259 0 (((4 * p1) + v3.2.2.2).toNatClampNeg)).toInt64)) / r16)), none, some (.long r16), none, some (.long (((m.2.1 1258 0 (((4 * p1) + v3.2.2.2).toNatClampNeg)).toInt64) / r16)), none, some (.long r19), none, some (.long r23), none]) dX12_putRight_152 (by decide) rfl ?_
        refine e_lload_n dX12_putRight_154 rfl rfl ?_
        refine e_lload dX12_putRight_155 rfl ?_
        obtain ⟨k24, h9⟩ := chkP hN1 h9
        refine e_ldiv dX12_putRight_157 k24 ?_
        refine e_lstore_n (L' := [some (.ref (ad 12 0)), some (.int p1), some (.int p2), some (.long (((v3.1 * ((((m.2.1 1258 0 (((4 * p1) + v3.2.2.2).toNatClampNeg)).toInt64) / r16) / r19)) + (((((m.2.1 1257 0 v3.2.2.2.toNatClampNeg).toInt64) * ((m.2.1 1259 0 (((4 * p1) + v3.2.2.2).toNatClampNeg)).toInt64)) / r16) * (v3.2.1 / r19))) / r23)), none, some (.long ((v3.2.1 / r19) * (((m.2.1 1258 0 (((4 * p1) + v3.2.2.2).toNatClampNeg)).toInt64) / r16))), none, some (.int (v3.2.2.1 + (m.2.1 1257 0 v3.2.2.2.toNatClampNeg))), some (.int v3.2.2.2), some (.int (m.2.1 1258 0 (((4 * p1) + v3.2.2.2).toNatClampNeg))), some (.long ((((m.2.1 1257 0 v3.2.2.2.toNatClampNeg).toInt64) * ((m.2.1 1259 0 (((4 * p1) + v3.2.2.2).toNatClampNeg)).toInt64)) / r16)), none, some (.long r16), none, some (.long (((m.2.1 1258 0 (((4 * p1) + v3.2.2.2).toNatClampNeg)).toInt64) / r16)), none, some (.long r19), none, some (.long r23), none]) dX12_putRight_158 rfl (by decide) rfl ?_
        refine e_lload dX12_putRight_159 rfl ?_
        refine e_lload dX12_putRight_161 rfl ?_
        obtain ⟨k25, h9⟩ := chkP hN1 h9
        refine e_ldiv dX12_putRight_163 k25 ?_
        refine e_lstore (L' := [some (.ref (ad 12 0)), some (.int p1), some (.int p2), some (.long (((v3.1 * ((((m.2.1 1258 0 (((4 * p1) + v3.2.2.2).toNatClampNeg)).toInt64) / r16) / r19)) + (((((m.2.1 1257 0 v3.2.2.2.toNatClampNeg).toInt64) * ((m.2.1 1259 0 (((4 * p1) + v3.2.2.2).toNatClampNeg)).toInt64)) / r16) * (v3.2.1 / r19))) / r23)), none, some (.long (((v3.2.1 / r19) * (((m.2.1 1258 0 (((4 * p1) + v3.2.2.2).toNatClampNeg)).toInt64) / r16)) / r23)), none, some (.int (v3.2.2.1 + (m.2.1 1257 0 v3.2.2.2.toNatClampNeg))), some (.int v3.2.2.2), some (.int (m.2.1 1258 0 (((4 * p1) + v3.2.2.2).toNatClampNeg))), some (.long ((((m.2.1 1257 0 v3.2.2.2.toNatClampNeg).toInt64) * ((m.2.1 1259 0 (((4 * p1) + v3.2.2.2).toNatClampNeg)).toInt64)) / r16)), none, some (.long r16), none, some (.long (((m.2.1 1258 0 (((4 * p1) + v3.2.2.2).toNatClampNeg)).toInt64) / r16)), none, some (.long r19), none, some (.long r23), none]) dX12_putRight_164 (by decide) rfl ?_
        refine e_pc (pc' := 166) rfl ?_
        refine e_iinc (v := (v3.2.2.2 + 1)) (L' := [some (.ref (ad 12 0)), some (.int p1), some (.int p2), some (.long (((v3.1 * ((((m.2.1 1258 0 (((4 * p1) + v3.2.2.2).toNatClampNeg)).toInt64) / r16) / r19)) + (((((m.2.1 1257 0 v3.2.2.2.toNatClampNeg).toInt64) * ((m.2.1 1259 0 (((4 * p1) + v3.2.2.2).toNatClampNeg)).toInt64)) / r16) * (v3.2.1 / r19))) / r23)), none, some (.long (((v3.2.1 / r19) * (((m.2.1 1258 0 (((4 * p1) + v3.2.2.2).toNatClampNeg)).toInt64) / r16)) / r23)), none, some (.int (v3.2.2.1 + (m.2.1 1257 0 v3.2.2.2.toNatClampNeg))), some (.int (v3.2.2.2 + 1)), some (.int (m.2.1 1258 0 (((4 * p1) + v3.2.2.2).toNatClampNeg))), some (.long ((((m.2.1 1257 0 v3.2.2.2.toNatClampNeg).toInt64) * ((m.2.1 1259 0 (((4 * p1) + v3.2.2.2).toNatClampNeg)).toInt64)) / r16)), none, some (.long r16), none, some (.long (((m.2.1 1258 0 (((4 * p1) + v3.2.2.2).toNatClampNeg)).toInt64) / r16)), none, some (.long r19), none, some (.long r23), none]) dX12_putRight_166 rfl rfl (by decide) rfl ?_
        refine e_goto (tgt := 23) dX12_putRight_169 rfl ?_
        refine e_wk (L' := [some (.ref (ad 12 0)), some (.int p1), some (.int p2), some (.long (((v3.1 * ((((m.2.1 1258 0 (((4 * p1) + v3.2.2.2).toNatClampNeg)).toInt64) / r16) / r19)) + (((((m.2.1 1257 0 v3.2.2.2.toNatClampNeg).toInt64) * ((m.2.1 1259 0 (((4 * p1) + v3.2.2.2).toNatClampNeg)).toInt64)) / r16) * (v3.2.1 / r19))) / r23)), none, some (.long (((v3.2.1 / r19) * (((m.2.1 1258 0 (((4 * p1) + v3.2.2.2).toNatClampNeg)).toInt64) / r16)) / r23)), none, some (.int (v3.2.2.1 + (m.2.1 1257 0 v3.2.2.2.toNatClampNeg))), some (.int (v3.2.2.2 + 1)), none, none, none, none, none, none, none, none, none, none, none]) (wkC (wkC (wkC (wkC (wkN (wkC (wkN (wkC (wkC (wkN (wkN (wkN (wkN (wkN (wkN (wkN (wkN (wkN (wkN (wkN wk0)))))))))))))))))))) ?_
        exact hB0_1 _ _ _ _ h9
      · replace h9 := ifT hc12 h9
        refine e_goto (tgt := 166) dX12_putRight_47 rfl ?_
        refine e_iinc (v := (v3.2.2.2 + 1)) (L' := [some (.ref (ad 12 0)), some (.int p1), some (.int p2), some (.long v3.1), none, some (.long v3.2.1), none, some (.int v3.2.2.1), some (.int (v3.2.2.2 + 1)), some (.int (m.2.1 1258 0 (((4 * p1) + v3.2.2.2).toNatClampNeg))), none, none, none, none, none, none, none, none, none, none]) dX12_putRight_166 rfl rfl (by decide) rfl ?_
        refine e_goto (tgt := 23) dX12_putRight_169 rfl ?_
        refine e_wk (L' := [some (.ref (ad 12 0)), some (.int p1), some (.int p2), some (.long v3.1), none, some (.long v3.2.1), none, some (.int v3.2.2.1), some (.int (v3.2.2.2 + 1)), none, none, none, none, none, none, none, none, none, none, none]) (wkC (wkC (wkC (wkC (wkN (wkC (wkN (wkC (wkC (wkN (wkN (wkN (wkN (wkN (wkN (wkN (wkN (wkN (wkN (wkN wk0)))))))))))))))))))) ?_
        exact hB0_1 _ _ _ _ h9
  · replace h9 := ifT hc2 h9
    refine e_ldc2 (v := (-1000)) rfl kcX12_363 dX12_putRight_8 ?_
    exact x_lret dX12_putRight_11 rfl (hR0 _ h9)
noncomputable def f_X12_hall (m : VM) (p1 : Int32) (p2 : Int32) (p3 : Int32) : Option (Int32 × VM) := if p1 < 0 then (f_X12_no m (-1)).elim none (fun r2p => some (r2p.1, r2p.2)) else if p1 ≤ 2 then if p2 < 0 then (f_X12_no m (-6)).elim none (fun r7p => some (r7p.1, r7p.2)) else if 3 < p2 then (f_X12_no m (-6)).elim none (fun r11p => some (r11p.1, r11p.2)) else if p3 < 0 then (f_X12_no m (-6)).elim none (fun r15p => some (r15p.1, r15p.2)) else if p3 ≤ 90 then if (m.1 1205 0) = 6 then (f_X12_no m (-7)).elim none (fun r23p => some (r23p.1, r23p.2)) else if inb (m.1 1205 0) 6 = true then if inb ((setA m 1260 0 (upd (m.2.1 1260 0) ((m.1 1205 0).toNatClampNeg) p1)).1 1205 0) 6 = true then if inb ((setA (setA m 1260 0 (upd (m.2.1 1260 0) ((m.1 1205 0).toNatClampNeg) p1)) 1261 0 (upd ((setA m 1260 0 (upd (m.2.1 1260 0) ((m.1 1205 0).toNatClampNeg) p1)).2.1 1261 0) (((setA m 1260 0 (upd (m.2.1 1260 0) ((m.1 1205 0).toNatClampNeg) p1)).1 1205 0).toNatClampNeg) p2)).1 1205 0) 6 = true then some ((setA (setA (setA m 1260 0 (upd (m.2.1 1260 0) ((m.1 1205 0).toNatClampNeg) p1)) 1261 0 (upd ((setA m 1260 0 (upd (m.2.1 1260 0) ((m.1 1205 0).toNatClampNeg) p1)).2.1 1261 0) (((setA m 1260 0 (upd (m.2.1 1260 0) ((m.1 1205 0).toNatClampNeg) p1)).1 1205 0).toNatClampNeg) p2)) 1262 0 (upd ((setA (setA m 1260 0 (upd (m.2.1 1260 0) ((m.1 1205 0).toNatClampNeg) p1)) 1261 0 (upd ((setA m 1260 0 (upd (m.2.1 1260 0) ((m.1 1205 0).toNatClampNeg) p1)).2.1 1261 0) (((setA m 1260 0 (upd (m.2.1 1260 0) ((m.1 1205 0).toNatClampNeg) p1)).1 1205 0).toNatClampNeg) p2)).2.1 1262 0) (((setA (setA m 1260 0 (upd (m.2.1 1260 0) ((m.1 1205 0).toNatClampNeg) p1)) 1261 0 (upd ((setA m 1260 0 (upd (m.2.1 1260 0) ((m.1 1205 0).toNatClampNeg) p1)).2.1 1261 0) (((setA m 1260 0 (upd (m.2.1 1260 0) ((m.1 1205 0).toNatClampNeg) p1)).1 1205 0).toNatClampNeg) p2)).1 1205 0).toNatClampNeg) p3)).1 1205 0, setI (setA (setA (setA m 1260 0 (upd (m.2.1 1260 0) ((m.1 1205 0).toNatClampNeg) p1)) 1261 0 (upd ((setA m 1260 0 (upd (m.2.1 1260 0) ((m.1 1205 0).toNatClampNeg) p1)).2.1 1261 0) (((setA m 1260 0 (upd (m.2.1 1260 0) ((m.1 1205 0).toNatClampNeg) p1)).1 1205 0).toNatClampNeg) p2)) 1262 0 (upd ((setA (setA m 1260 0 (upd (m.2.1 1260 0) ((m.1 1205 0).toNatClampNeg) p1)) 1261 0 (upd ((setA m 1260 0 (upd (m.2.1 1260 0) ((m.1 1205 0).toNatClampNeg) p1)).2.1 1261 0) (((setA m 1260 0 (upd (m.2.1 1260 0) ((m.1 1205 0).toNatClampNeg) p1)).1 1205 0).toNatClampNeg) p2)).2.1 1262 0) (((setA (setA m 1260 0 (upd (m.2.1 1260 0) ((m.1 1205 0).toNatClampNeg) p1)) 1261 0 (upd ((setA m 1260 0 (upd (m.2.1 1260 0) ((m.1 1205 0).toNatClampNeg) p1)).2.1 1261 0) (((setA m 1260 0 (upd (m.2.1 1260 0) ((m.1 1205 0).toNatClampNeg) p1)).1 1205 0).toNatClampNeg) p2)).1 1205 0).toNatClampNeg) p3)) 1205 0 (((setA (setA (setA m 1260 0 (upd (m.2.1 1260 0) ((m.1 1205 0).toNatClampNeg) p1)) 1261 0 (upd ((setA m 1260 0 (upd (m.2.1 1260 0) ((m.1 1205 0).toNatClampNeg) p1)).2.1 1261 0) (((setA m 1260 0 (upd (m.2.1 1260 0) ((m.1 1205 0).toNatClampNeg) p1)).1 1205 0).toNatClampNeg) p2)) 1262 0 (upd ((setA (setA m 1260 0 (upd (m.2.1 1260 0) ((m.1 1205 0).toNatClampNeg) p1)) 1261 0 (upd ((setA m 1260 0 (upd (m.2.1 1260 0) ((m.1 1205 0).toNatClampNeg) p1)).2.1 1261 0) (((setA m 1260 0 (upd (m.2.1 1260 0) ((m.1 1205 0).toNatClampNeg) p1)).1 1205 0).toNatClampNeg) p2)).2.1 1262 0) (((setA (setA m 1260 0 (upd (m.2.1 1260 0) ((m.1 1205 0).toNatClampNeg) p1)) 1261 0 (upd ((setA m 1260 0 (upd (m.2.1 1260 0) ((m.1 1205 0).toNatClampNeg) p1)).2.1 1261 0) (((setA m 1260 0 (upd (m.2.1 1260 0) ((m.1 1205 0).toNatClampNeg) p1)).1 1205 0).toNatClampNeg) p2)).1 1205 0).toNatClampNeg) p3)).1 1205 0) + 1)) else none else none else none else (f_X12_no m (-6)).elim none (fun r26p => some (r26p.1, r26p.2)) else (f_X12_no m (-1)).elim none (fun r29p => some (r29p.1, r29p.2))
theorem c_X12_hall {g : GG} {d : Nat} {ad : AD} {x m : VM} {Q : Option Value → VM → VM → Prop} (p1 : Int32) (p2 : Int32) (p3 : Int32) {r9 : Int32} {w9 : VM} (hf : f_X12_hall m p1 p2 p3 = some (r9, w9)) (hq : Q (some (.int r9)) x w9) : CX g (d + 1) MX12_hall [.ref (ad 12 0), .int p1, .int p2, .int p3] ad x m Q := by
  refine CX.to (Lv := [some (.ref (ad 12 0)), some (.int p1), some (.int p2), some (.int p3)]) okX12_hall (Nat.le_of_ble_eq_true rfl) rfl ?_
  obtain ⟨Φ0, hΦ⟩ : ∃ Φ : Option (Int32 × VM) → Prop, Φ = fun o => o = some (r9, w9) := ⟨_, rfl⟩
  have hN0 : Φ0 none → False := by rw [hΦ]; intro h; cases h
  have hR0 : ∀ z9 y9, Φ0 (some (z9, y9)) → Q (some (.int z9)) x y9 := by rw [hΦ]; intro z9 y9 h; cases h; exact hq
  have h9 : Φ0 (f_X12_hall m p1 p2 p3) := by rw [hΦ]; exact hf
  clear hf hq hΦ
  unfold f_X12_hall at h9
  refine e_iload_n dX12_hall_0 rfl rfl ?_
  refine e_if_lt (tgt := 9) dX12_hall_1 rfl (fun hc1 => ?_) (fun hc1 => ?_)
  · replace h9 := ifT hc1 h9
    refine e_aload_n dX12_hall_9 rfl rfl ?_
    refine e_iconst (v := (-1)) dX12_hall_10 rfl ?_
    obtain ⟨⟨r2, w3⟩, hr2, h9⟩ := elimP hN0 h9
    refine x_callVi (c := 12) (As := [.int (-1)]) (rest := []) okX12_no lkX12_263 rfl (by decide) rfl dX12_hall_11 rfl rfl (Nat.le_of_ble_eq_true rfl) rfl (c_X12_no (-1) hr2 (CI.mk ?_))
    exact x_iret dX12_hall_14 rfl (hR0 _ _ h9)
  · replace h9 := ifF hc1 h9
    refine e_iload_n dX12_hall_4 rfl rfl ?_
    refine e_iconst (v := 2) dX12_hall_5 rfl ?_
    refine e_icmp_le (tgt := 15) dX12_hall_6 rfl (fun hc5 => ?_) (fun hc5 => ?_)
    · replace h9 := ifT hc5 h9
      refine e_iload_n dX12_hall_15 rfl rfl ?_
      refine e_if_lt (tgt := 34) dX12_hall_16 rfl (fun hc6 => ?_) (fun hc6 => ?_)
      · replace h9 := ifT hc6 h9
        refine e_aload_n dX12_hall_34 rfl rfl ?_
        refine e_bipush (v := (-6)) dX12_hall_35 rfl ?_
        obtain ⟨⟨r7, w8⟩, hr7, h9⟩ := elimP hN0 h9
        refine x_callVi (c := 12) (As := [.int (-6)]) (rest := []) okX12_no lkX12_263 rfl (by decide) rfl dX12_hall_37 rfl rfl (Nat.le_of_ble_eq_true rfl) rfl (c_X12_no (-6) hr7 (CI.mk ?_))
        exact x_iret dX12_hall_40 rfl (hR0 _ _ h9)
      · replace h9 := ifF hc6 h9
        refine e_iload_n dX12_hall_19 rfl rfl ?_
        refine e_iconst (v := 3) dX12_hall_20 rfl ?_
        refine e_icmp_gt (tgt := 34) dX12_hall_21 rfl (fun hc10 => ?_) (fun hc10 => ?_)
        · replace h9 := ifT hc10 h9
          refine e_aload_n dX12_hall_34 rfl rfl ?_
          refine e_bipush (v := (-6)) dX12_hall_35 rfl ?_
          obtain ⟨⟨r11, w12⟩, hr11, h9⟩ := elimP hN0 h9
          refine x_callVi (c := 12) (As := [.int (-6)]) (rest := []) okX12_no lkX12_263 rfl (by decide) rfl dX12_hall_37 rfl rfl (Nat.le_of_ble_eq_true rfl) rfl (c_X12_no (-6) hr11 (CI.mk ?_))
          exact x_iret dX12_hall_40 rfl (hR0 _ _ h9)
        · replace h9 := ifF hc10 h9
          refine e_iload_n dX12_hall_24 rfl rfl ?_
          refine e_if_lt (tgt := 34) dX12_hall_25 rfl (fun hc14 => ?_) (fun hc14 => ?_)
          · replace h9 := ifT hc14 h9
            refine e_aload_n dX12_hall_34 rfl rfl ?_
            refine e_bipush (v := (-6)) dX12_hall_35 rfl ?_
            obtain ⟨⟨r15, w16⟩, hr15, h9⟩ := elimP hN0 h9
            refine x_callVi (c := 12) (As := [.int (-6)]) (rest := []) okX12_no lkX12_263 rfl (by decide) rfl dX12_hall_37 rfl rfl (Nat.le_of_ble_eq_true rfl) rfl (c_X12_no (-6) hr15 (CI.mk ?_))
            exact x_iret dX12_hall_40 rfl (hR0 _ _ h9)
          · replace h9 := ifF hc14 h9
            refine e_iload_n dX12_hall_28 rfl rfl ?_
            refine e_bipush (v := 90) dX12_hall_29 rfl ?_
            refine e_icmp_le (tgt := 41) dX12_hall_31 rfl (fun hc18 => ?_) (fun hc18 => ?_)
            · replace h9 := ifT hc18 h9
              refine e_aload_n dX12_hall_41 rfl rfl ?_
              refine g_1205 flX12_257 dX12_hall_42 ?_
              refine e_bipush (v := 6) dX12_hall_45 rfl ?_
              refine e_icmp_ne (tgt := 57) dX12_hall_47 rfl (fun hc19 => ?_) (fun hc19 => ?_)
              · replace h9 := ifF hc19 h9
                refine e_aload_n dX12_hall_57 rfl rfl ?_
                refine g_1260 flX12_166 dX12_hall_58 ?_
                refine e_aload_n dX12_hall_61 rfl rfl ?_
                refine g_1205 flX12_257 dX12_hall_62 ?_
                refine e_iload_n dX12_hall_65 rfl rfl ?_
                obtain ⟨k20, h9⟩ := chkP hN0 h9
                refine s_1260 dX12_hall_66 (inb_in k20) ?_
                refine e_aload_n dX12_hall_67 rfl rfl ?_
                refine g_1261 flX12_169 dX12_hall_68 ?_
                refine e_pc (pc' := 71) rfl ?_
                refine e_aload_n dX12_hall_71 rfl rfl ?_
                refine g_1205 flX12_257 dX12_hall_72 ?_
                refine e_iload_n dX12_hall_75 rfl rfl ?_
                obtain ⟨k21, h9⟩ := chkP hN0 h9
                refine s_1261 dX12_hall_76 (inb_in k21) ?_
                refine e_aload_n dX12_hall_77 rfl rfl ?_
                refine g_1262 flX12_172 dX12_hall_78 ?_
                refine e_aload_n dX12_hall_81 rfl rfl ?_
                refine g_1205 flX12_257 dX12_hall_82 ?_
                refine e_iload_n dX12_hall_85 rfl rfl ?_
                refine e_pc (pc' := 86) rfl ?_
                obtain ⟨k22, h9⟩ := chkP hN0 h9
                refine s_1262 dX12_hall_86 (inb_in k22) ?_
                refine e_aload_n dX12_hall_87 rfl rfl ?_
                refine e_dup dX12_hall_88 rfl ?_
                refine g_1205 flX12_257 dX12_hall_89 ?_
                refine e_dup_x1 dX12_hall_92 rfl rfl ?_
                refine e_iconst (v := 1) dX12_hall_93 rfl ?_
                refine e_iadd dX12_hall_94 ?_
                refine p_1205 flX12_257 dX12_hall_95 ?_
                exact x_iret dX12_hall_98 rfl (hR0 _ _ h9)
              · replace h9 := ifT hc19 h9
                refine e_aload_n dX12_hall_50 rfl rfl ?_
                refine e_bipush (v := (-7)) dX12_hall_51 rfl ?_
                obtain ⟨⟨r23, w24⟩, hr23, h9⟩ := elimP hN0 h9
                refine x_callVi (c := 12) (As := [.int (-7)]) (rest := []) okX12_no lkX12_263 rfl (by decide) rfl dX12_hall_53 rfl rfl (Nat.le_of_ble_eq_true rfl) rfl (c_X12_no (-7) hr23 (CI.mk ?_))
                exact x_iret dX12_hall_56 rfl (hR0 _ _ h9)
            · replace h9 := ifF hc18 h9
              refine e_aload_n dX12_hall_34 rfl rfl ?_
              refine e_bipush (v := (-6)) dX12_hall_35 rfl ?_
              obtain ⟨⟨r26, w27⟩, hr26, h9⟩ := elimP hN0 h9
              refine x_callVi (c := 12) (As := [.int (-6)]) (rest := []) okX12_no lkX12_263 rfl (by decide) rfl dX12_hall_37 rfl rfl (Nat.le_of_ble_eq_true rfl) rfl (c_X12_no (-6) hr26 (CI.mk ?_))
              exact x_iret dX12_hall_40 rfl (hR0 _ _ h9)
    · replace h9 := ifF hc5 h9
      refine e_aload_n dX12_hall_9 rfl rfl ?_
      refine e_iconst (v := (-1)) dX12_hall_10 rfl ?_
      obtain ⟨⟨r29, w30⟩, hr29, h9⟩ := elimP hN0 h9
      refine x_callVi (c := 12) (As := [.int (-1)]) (rest := []) okX12_no lkX12_263 rfl (by decide) rfl dX12_hall_11 rfl rfl (Nat.le_of_ble_eq_true rfl) rfl (c_X12_no (-1) hr29 (CI.mk ?_))
      exact x_iret dX12_hall_14 rfl (hR0 _ _ h9)
noncomputable def f_X12_clearance (m : VM) (p1 : Int32) : Option (Int32 × VM) := if p1 < 0 then (f_X12_no m (-6)).elim none (fun r2p => some (r2p.1, r2p.2)) else if p1 ≤ 9 then some (m.1 1208 0, setI m 1208 0 p1) else (f_X12_no m (-6)).elim none (fun r6p => some (r6p.1, r6p.2))
theorem c_X12_clearance {g : GG} {d : Nat} {ad : AD} {x m : VM} {Q : Option Value → VM → VM → Prop} (p1 : Int32) {r9 : Int32} {w9 : VM} (hf : f_X12_clearance m p1 = some (r9, w9)) (hq : Q (some (.int r9)) x w9) : CX g (d + 1) MX12_clearance [.ref (ad 12 0), .int p1] ad x m Q := by
  refine CX.to (Lv := [some (.ref (ad 12 0)), some (.int p1), none]) okX12_clearance (Nat.le_of_ble_eq_true rfl) rfl ?_
  obtain ⟨Φ0, hΦ⟩ : ∃ Φ : Option (Int32 × VM) → Prop, Φ = fun o => o = some (r9, w9) := ⟨_, rfl⟩
  have hN0 : Φ0 none → False := by rw [hΦ]; intro h; cases h
  have hR0 : ∀ z9 y9, Φ0 (some (z9, y9)) → Q (some (.int z9)) x y9 := by rw [hΦ]; intro z9 y9 h; cases h; exact hq
  have h9 : Φ0 (f_X12_clearance m p1) := by rw [hΦ]; exact hf
  clear hf hq hΦ
  unfold f_X12_clearance at h9
  refine e_iload_n dX12_clearance_0 rfl rfl ?_
  refine e_if_lt (tgt := 10) dX12_clearance_1 rfl (fun hc1 => ?_) (fun hc1 => ?_)
  · replace h9 := ifT hc1 h9
    refine e_aload_n dX12_clearance_10 rfl rfl ?_
    refine e_bipush (v := (-6)) dX12_clearance_11 rfl ?_
    obtain ⟨⟨r2, w3⟩, hr2, h9⟩ := elimP hN0 h9
    refine x_callVi (c := 12) (As := [.int (-6)]) (rest := []) okX12_no lkX12_263 rfl (by decide) rfl dX12_clearance_13 rfl rfl (Nat.le_of_ble_eq_true rfl) rfl (c_X12_no (-6) hr2 (CI.mk ?_))
    exact x_iret dX12_clearance_16 rfl (hR0 _ _ h9)
  · replace h9 := ifF hc1 h9
    refine e_iload_n dX12_clearance_4 rfl rfl ?_
    refine e_bipush (v := 9) dX12_clearance_5 rfl ?_
    refine e_icmp_le (tgt := 17) dX12_clearance_7 rfl (fun hc5 => ?_) (fun hc5 => ?_)
    · replace h9 := ifT hc5 h9
      refine e_aload_n dX12_clearance_17 rfl rfl ?_
      refine g_1208 flX12_7 dX12_clearance_18 ?_
      refine e_istore_n (L' := [some (.ref (ad 12 0)), some (.int p1), some (.int (m.1 1208 0))]) dX12_clearance_21 rfl (by decide) rfl ?_
      refine e_aload_n dX12_clearance_22 rfl rfl ?_
      refine e_iload_n dX12_clearance_23 rfl rfl ?_
      refine p_1208 flX12_7 dX12_clearance_24 ?_
      refine e_iload_n dX12_clearance_27 rfl rfl ?_
      exact x_iret dX12_clearance_28 rfl (hR0 _ _ h9)
    · replace h9 := ifF hc5 h9
      refine e_aload_n dX12_clearance_10 rfl rfl ?_
      refine e_bipush (v := (-6)) dX12_clearance_11 rfl ?_
      obtain ⟨⟨r6, w7⟩, hr6, h9⟩ := elimP hN0 h9
      refine x_callVi (c := 12) (As := [.int (-6)]) (rest := []) okX12_no lkX12_263 rfl (by decide) rfl dX12_clearance_13 rfl rfl (Nat.le_of_ble_eq_true rfl) rfl (c_X12_no (-6) hr6 (CI.mk ?_))
      exact x_iret dX12_clearance_16 rfl (hR0 _ _ h9)
noncomputable def b_X12_mayBook_72 (m : VM) (p1 : Int32) (p2 : Int32) (p3 : Int32) (v3 : Int32) (v11 : Int32) : (Int32) ⊕ ((Int32) ⊕ (Option (Int32))) := if (p3 + (m.1 1208 0)) < v11 then Sum.inr (Sum.inl (v3 + 1)) else if v11 < 0 then Sum.inl (v11 + 1) else if 40 ≤ v11 then Sum.inl (v11 + 1) else if inb ((40 * v3) + v11) 240 = true then if (m.2.1 1264 0 (((40 * v3) + v11).toNatClampNeg)) = p1 then Sum.inr (Sum.inr (some 0)) else Sum.inl (v11 + 1) else Sum.inr (Sum.inr none)
noncomputable def b_X12_mayBook_20 (m : VM) (p1 : Int32) (p2 : Int32) (p3 : Int32) (v3 : Int32) : (Int32) ⊕ (Option (Int32)) := if (m.1 1205 0) ≤ v3 then Sum.inr (some 1) else if inb v3 6 = true then if inb p2 6 = true then if (m.2.1 1260 0 v3.toNatClampNeg) = (m.2.1 1260 0 p2.toNatClampNeg) then if inb v3 6 = true then if inb p2 6 = true then if (m.2.1 1261 0 v3.toNatClampNeg) = (m.2.1 1261 0 p2.toNatClampNeg) then Sum.inl (v3 + 1) else loopF (Sum.inr none) (b_X12_mayBook_72 m p1 p2 p3 v3) (p3 - (m.1 1208 0)) else Sum.inr none else Sum.inr none else Sum.inl (v3 + 1) else Sum.inr none else Sum.inr none
noncomputable def f_X12_mayBook (m : VM) (p1 : Int32) (p2 : Int32) (p3 : Int32) : Option (Int32) := if inb ((40 * p2) + p3) 240 = true then if (m.2.1 1264 0 (((40 * p2) + p3).toNatClampNeg)) = (-1) then loopF none (b_X12_mayBook_20 m p1 p2 p3) 0 else some 0 else none
theorem c_X12_mayBook {g : GG} {d : Nat} {ad : AD} {x m : VM} {Q : Option Value → VM → VM → Prop} (p1 : Int32) (p2 : Int32) (p3 : Int32) {r9 : Int32} (hf : f_X12_mayBook m p1 p2 p3 = some r9) (hq : Q (some (.int r9)) x m) : CX g d MX12_mayBook [.ref (ad 12 0), .int p1, .int p2, .int p3] ad x m Q := by
  refine CX.to (Lv := [some (.ref (ad 12 0)), some (.int p1), some (.int p2), some (.int p3), none, none]) okX12_mayBook (Nat.le_of_ble_eq_true rfl) rfl ?_
  obtain ⟨Φ0, hΦ⟩ : ∃ Φ : Option (Int32) → Prop, Φ = fun o => o = some r9 := ⟨_, rfl⟩
  have hN0 : Φ0 none → False := by rw [hΦ]; intro h; cases h
  have hR0 : ∀ z9, Φ0 (some z9) → Q (some (.int z9)) x m := by rw [hΦ]; intro z9 h; cases h; exact hq
  have h9 : Φ0 (f_X12_mayBook m p1 p2 p3) := by rw [hΦ]; exact hf
  clear hf hq hΦ
  unfold f_X12_mayBook at h9
  refine e_aload_n dX12_mayBook_0 rfl rfl ?_
  refine g_1264 flX12_178 dX12_mayBook_1 ?_
  refine e_bipush (v := 40) dX12_mayBook_4 rfl ?_
  refine e_iload_n dX12_mayBook_6 rfl rfl ?_
  refine e_imul dX12_mayBook_7 ?_
  refine e_iload_n dX12_mayBook_8 rfl rfl ?_
  refine e_iadd dX12_mayBook_9 ?_
  obtain ⟨k1, h9⟩ := chkP hN0 h9
  refine l_1264 dX12_mayBook_10 (inb_in k1) ?_
  refine e_pc (pc' := 11) rfl ?_
  refine e_iconst (v := (-1)) dX12_mayBook_11 rfl ?_
  refine e_icmp_eq (tgt := 17) dX12_mayBook_12 rfl (fun hc2 => ?_) (fun hc2 => ?_)
  · replace h9 := ifT hc2 h9
    refine e_iconst (v := 0) dX12_mayBook_17 rfl ?_
    refine e_istore (L' := [some (.ref (ad 12 0)), some (.int p1), some (.int p2), some (.int p3), some (.int 0), none]) dX12_mayBook_18 (by decide) rfl ?_
    refine loop_gen (b_X12_mayBook_20 m p1 p2 p3) none (fun v3 => EX g d MX12_mayBook ad x m 20 [some (.ref (ad 12 0)), some (.int p1), some (.int p2), some (.int p3), some (.int v3), none] [] Q) Φ0 hN0 (fun v3 Φ1 hB0_1 hO1 h9 => ?_) 0 h9
    have hN1 := fun h => hN0 (hO1 _ h)
    have hR1 := fun r9 h => hR0 r9 (hO1 _ h)
    have hB0_1 : ∀ (z0 : Int32), Φ1 (Sum.inl z0) → EX g d MX12_mayBook ad x m 20 [some (.ref (ad 12 0)), some (.int p1), some (.int p2), some (.int p3), some (.int z0), none] [] Q := fun z0 h => hB0_1 z0 h
    unfold b_X12_mayBook_20 at h9
    refine e_iload dX12_mayBook_20 rfl ?_
    refine e_aload_n dX12_mayBook_22 rfl rfl ?_
    refine g_1205 flX12_257 dX12_mayBook_23 ?_
    refine e_icmp_ge (tgt := 126) dX12_mayBook_26 rfl (fun hc4 => ?_) (fun hc4 => ?_)
    · replace h9 := ifT hc4 h9
      refine e_iconst (v := 1) dX12_mayBook_126 rfl ?_
      exact x_zret dX12_mayBook_127 rfl (by decide) (hR1 _ h9)
    · replace h9 := ifF hc4 h9
      refine e_aload_n dX12_mayBook_29 rfl rfl ?_
      refine g_1260 flX12_166 dX12_mayBook_30 ?_
      refine e_iload dX12_mayBook_33 rfl ?_
      obtain ⟨k5, h9⟩ := chkP hN1 h9
      refine l_1260 dX12_mayBook_35 (inb_in k5) ?_
      refine e_aload_n dX12_mayBook_36 rfl rfl ?_
      refine g_1260 flX12_166 dX12_mayBook_37 ?_
      refine e_iload_n dX12_mayBook_40 rfl rfl ?_
      obtain ⟨k6, h9⟩ := chkP hN1 h9
      refine l_1260 dX12_mayBook_41 (inb_in k6) ?_
      refine e_pc (pc' := 42) rfl ?_
      refine e_icmp_ne (tgt := 120) dX12_mayBook_42 rfl (fun hc7 => ?_) (fun hc7 => ?_)
      · replace h9 := ifF hc7 h9
        refine e_iinc (v := (v3 + 1)) (L' := [some (.ref (ad 12 0)), some (.int p1), some (.int p2), some (.int p3), some (.int (v3 + 1)), none]) dX12_mayBook_120 rfl rfl (by decide) rfl ?_
        refine e_goto (tgt := 20) dX12_mayBook_123 rfl ?_
        exact hB0_1 _ h9
      · replace h9 := ifT hc7 h9
        refine e_aload_n dX12_mayBook_45 rfl rfl ?_
        refine g_1261 flX12_169 dX12_mayBook_46 ?_
        refine e_iload dX12_mayBook_49 rfl ?_
        obtain ⟨k8, h9⟩ := chkP hN1 h9
        refine l_1261 dX12_mayBook_51 (inb_in k8) ?_
        refine e_aload_n dX12_mayBook_52 rfl rfl ?_
        refine g_1261 flX12_169 dX12_mayBook_53 ?_
        refine e_iload_n dX12_mayBook_56 rfl rfl ?_
        obtain ⟨k9, h9⟩ := chkP hN1 h9
        refine l_1261 dX12_mayBook_57 (inb_in k9) ?_
        refine e_pc (pc' := 58) rfl ?_
        refine e_icmp_ne (tgt := 64) dX12_mayBook_58 rfl (fun hc10 => ?_) (fun hc10 => ?_)
        · replace h9 := ifF hc10 h9
          refine e_iload_n dX12_mayBook_64 rfl rfl ?_
          refine e_aload_n dX12_mayBook_65 rfl rfl ?_
          refine g_1208 flX12_7 dX12_mayBook_66 ?_
          refine e_isub dX12_mayBook_69 ?_
          refine e_istore (L' := [some (.ref (ad 12 0)), some (.int p1), some (.int p2), some (.int p3), some (.int v3), some (.int (p3 - (m.1 1208 0)))]) dX12_mayBook_70 (by decide) rfl ?_
          refine loop_gen (b_X12_mayBook_72 m p1 p2 p3 v3) (Sum.inr none) (fun v11 => EX g d MX12_mayBook ad x m 72 [some (.ref (ad 12 0)), some (.int p1), some (.int p2), some (.int p3), some (.int v3), some (.int v11)] [] Q) Φ1 hN1 (fun v11 Φ2 hB1_2 hO2 h9 => ?_) (p3 - (m.1 1208 0)) h9
          have hN2 := fun h => hN1 (hO2 _ h)
          have hR2 := fun r9 h => hR1 r9 (hO2 _ h)
          have hB0_2 : ∀ (z0 : Int32), Φ2 (Sum.inr (Sum.inl z0)) → EX g d MX12_mayBook ad x m 20 [some (.ref (ad 12 0)), some (.int p1), some (.int p2), some (.int p3), some (.int z0), none] [] Q := fun z0 h => hB0_1 z0 (hO2 _ h)
          have hB1_2 : ∀ (z0 : Int32), Φ2 (Sum.inl z0) → EX g d MX12_mayBook ad x m 72 [some (.ref (ad 12 0)), some (.int p1), some (.int p2), some (.int p3), some (.int v3), some (.int z0)] [] Q := fun z0 h => hB1_2 z0 h
          unfold b_X12_mayBook_72 at h9
          refine e_iload dX12_mayBook_72 rfl ?_
          refine e_iload_n dX12_mayBook_74 rfl rfl ?_
          refine e_aload_n dX12_mayBook_75 rfl rfl ?_
          refine g_1208 flX12_7 dX12_mayBook_76 ?_
          refine e_iadd dX12_mayBook_79 ?_
          refine e_icmp_gt (tgt := 120) dX12_mayBook_80 rfl (fun hc12 => ?_) (fun hc12 => ?_)
          · replace h9 := ifT hc12 h9
            refine e_iinc (v := (v3 + 1)) (L' := [some (.ref (ad 12 0)), some (.int p1), some (.int p2), some (.int p3), some (.int (v3 + 1)), some (.int v11)]) dX12_mayBook_120 rfl rfl (by decide) rfl ?_
            refine e_goto (tgt := 20) dX12_mayBook_123 rfl ?_
            refine e_wk (L' := [some (.ref (ad 12 0)), some (.int p1), some (.int p2), some (.int p3), some (.int (v3 + 1)), none]) (wkC (wkC (wkC (wkC (wkC (wkN wk0)))))) ?_
            exact hB0_2 _ h9
          · replace h9 := ifF hc12 h9
            refine e_iload dX12_mayBook_83 rfl ?_
            refine e_if_lt (tgt := 114) dX12_mayBook_85 rfl (fun hc13 => ?_) (fun hc13 => ?_)
            · replace h9 := ifT hc13 h9
              refine e_iinc (v := (v11 + 1)) (L' := [some (.ref (ad 12 0)), some (.int p1), some (.int p2), some (.int p3), some (.int v3), some (.int (v11 + 1))]) dX12_mayBook_114 rfl rfl (by decide) rfl ?_
              refine e_goto (tgt := 72) dX12_mayBook_117 rfl ?_
              exact hB1_2 _ h9
            · replace h9 := ifF hc13 h9
              refine e_iload dX12_mayBook_88 rfl ?_
              refine e_bipush (v := 40) dX12_mayBook_90 rfl ?_
              refine e_icmp_ge (tgt := 114) dX12_mayBook_92 rfl (fun hc14 => ?_) (fun hc14 => ?_)
              · replace h9 := ifT hc14 h9
                refine e_iinc (v := (v11 + 1)) (L' := [some (.ref (ad 12 0)), some (.int p1), some (.int p2), some (.int p3), some (.int v3), some (.int (v11 + 1))]) dX12_mayBook_114 rfl rfl (by decide) rfl ?_
                refine e_goto (tgt := 72) dX12_mayBook_117 rfl ?_
                exact hB1_2 _ h9
              · replace h9 := ifF hc14 h9
                refine e_aload_n dX12_mayBook_95 rfl rfl ?_
                refine g_1264 flX12_178 dX12_mayBook_96 ?_
                refine e_bipush (v := 40) dX12_mayBook_99 rfl ?_
                refine e_iload dX12_mayBook_101 rfl ?_
                refine e_imul dX12_mayBook_103 ?_
                refine e_iload dX12_mayBook_104 rfl ?_
                refine e_iadd dX12_mayBook_106 ?_
                obtain ⟨k15, h9⟩ := chkP hN2 h9
                refine l_1264 dX12_mayBook_107 (inb_in k15) ?_
                refine e_pc (pc' := 108) rfl ?_
                refine e_iload_n dX12_mayBook_108 rfl rfl ?_
                refine e_icmp_ne (tgt := 114) dX12_mayBook_109 rfl (fun hc16 => ?_) (fun hc16 => ?_)
                · replace h9 := ifF hc16 h9
                  refine e_iinc (v := (v11 + 1)) (L' := [some (.ref (ad 12 0)), some (.int p1), some (.int p2), some (.int p3), some (.int v3), some (.int (v11 + 1))]) dX12_mayBook_114 rfl rfl (by decide) rfl ?_
                  refine e_goto (tgt := 72) dX12_mayBook_117 rfl ?_
                  exact hB1_2 _ h9
                · replace h9 := ifT hc16 h9
                  refine e_iconst (v := 0) dX12_mayBook_112 rfl ?_
                  exact x_zret dX12_mayBook_113 rfl (by decide) (hR2 _ h9)
        · replace h9 := ifT hc10 h9
          refine e_goto (tgt := 120) dX12_mayBook_61 rfl ?_
          refine e_iinc (v := (v3 + 1)) (L' := [some (.ref (ad 12 0)), some (.int p1), some (.int p2), some (.int p3), some (.int (v3 + 1)), none]) dX12_mayBook_120 rfl rfl (by decide) rfl ?_
          refine e_goto (tgt := 20) dX12_mayBook_123 rfl ?_
          exact hB0_1 _ h9
  · replace h9 := ifF hc2 h9
    refine e_iconst (v := 0) dX12_mayBook_15 rfl ?_
    exact x_zret dX12_mayBook_16 rfl (by decide) (hR0 _ h9)
noncomputable def f_X12_book (m : VM) (p1 : Int32) (p2 : Int32) (p3 : Int32) : Option (Int32 × VM) := (f_X12_isPicture m p1).elim none (fun r1 => if r1 = 0 then (f_X12_no m (-1)).elim none (fun r3p => some (r3p.1, r3p.2)) else (f_X12_isHall m p2).elim none (fun r6 => if r6 = 0 then (f_X12_no m (-1)).elim none (fun r22p => some (r22p.1, r22p.2)) else if p3 < 0 then (f_X12_no m (-6)).elim none (fun r9p => some (r9p.1, r9p.2)) else if 39 < p3 then (f_X12_no m (-6)).elim none (fun r13p => some (r13p.1, r13p.2)) else (f_X12_mayBook m p1 p2 p3).elim none (fun r16 => if r16 = 0 then (f_X12_no m (-6)).elim none (fun r19p => some (r19p.1, r19p.2)) else if inb ((40 * p2) + p3) 240 = true then some (1, setI (setA m 1264 0 (upd (m.2.1 1264 0) (((40 * p2) + p3).toNatClampNeg) p1)) 1210 0 (((setA m 1264 0 (upd (m.2.1 1264 0) (((40 * p2) + p3).toNatClampNeg) p1)).1 1210 0) + 1)) else none)))
theorem c_X12_book {g : GG} {d : Nat} {ad : AD} {x m : VM} {Q : Option Value → VM → VM → Prop} (p1 : Int32) (p2 : Int32) (p3 : Int32) {r9 : Int32} {w9 : VM} (hf : f_X12_book m p1 p2 p3 = some (r9, w9)) (hq : Q (some (.int r9)) x w9) : CX g (d + 1) MX12_book [.ref (ad 12 0), .int p1, .int p2, .int p3] ad x m Q := by
  refine CX.to (Lv := [some (.ref (ad 12 0)), some (.int p1), some (.int p2), some (.int p3)]) okX12_book (Nat.le_of_ble_eq_true rfl) rfl ?_
  obtain ⟨Φ0, hΦ⟩ : ∃ Φ : Option (Int32 × VM) → Prop, Φ = fun o => o = some (r9, w9) := ⟨_, rfl⟩
  have hN0 : Φ0 none → False := by rw [hΦ]; intro h; cases h
  have hR0 : ∀ z9 y9, Φ0 (some (z9, y9)) → Q (some (.int z9)) x y9 := by rw [hΦ]; intro z9 y9 h; cases h; exact hq
  have h9 : Φ0 (f_X12_book m p1 p2 p3) := by rw [hΦ]; exact hf
  clear hf hq hΦ
  unfold f_X12_book at h9
  refine e_aload_n dX12_book_0 rfl rfl ?_
  refine e_iload_n dX12_book_1 rfl rfl ?_
  obtain ⟨r1, hr1, h9⟩ := elimP hN0 h9
  refine x_callVi (c := 12) (As := [.int p1]) (rest := []) okX12_isPicture lkX12_253 rfl (by decide) rfl dX12_book_2 rfl rfl (Nat.le_of_ble_eq_true rfl) rfl (c_X12_isPicture p1 hr1 (CI.mk ?_))
  refine e_if_eq (tgt := 16) dX12_book_5 rfl (fun hc2 => ?_) (fun hc2 => ?_)
  · replace h9 := ifT hc2 h9
    refine e_aload_n dX12_book_16 rfl rfl ?_
    refine e_iconst (v := (-1)) dX12_book_17 rfl ?_
    obtain ⟨⟨r3, w4⟩, hr3, h9⟩ := elimP hN0 h9
    refine x_callVi (c := 12) (As := [.int (-1)]) (rest := []) okX12_no lkX12_263 rfl (by decide) rfl dX12_book_18 rfl rfl (Nat.le_of_ble_eq_true rfl) rfl (c_X12_no (-1) hr3 (CI.mk ?_))
    exact x_iret dX12_book_21 rfl (hR0 _ _ h9)
  · replace h9 := ifF hc2 h9
    refine e_aload_n dX12_book_8 rfl rfl ?_
    refine e_iload_n dX12_book_9 rfl rfl ?_
    obtain ⟨r6, hr6, h9⟩ := elimP hN0 h9
    refine x_callVi (c := 12) (As := [.int p2]) (rest := []) okX12_isHall lkX12_369 rfl (by decide) rfl dX12_book_10 rfl rfl (Nat.le_of_ble_eq_true rfl) rfl (c_X12_isHall p2 hr6 (CI.mk ?_))
    refine e_if_ne (tgt := 22) dX12_book_13 rfl (fun hc7 => ?_) (fun hc7 => ?_)
    · replace h9 := ifF hc7 h9
      refine e_iload_n dX12_book_22 rfl rfl ?_
      refine e_if_lt (tgt := 42) dX12_book_23 rfl (fun hc8 => ?_) (fun hc8 => ?_)
      · replace h9 := ifT hc8 h9
        refine e_aload_n dX12_book_42 rfl rfl ?_
        refine e_bipush (v := (-6)) dX12_book_43 rfl ?_
        obtain ⟨⟨r9, w10⟩, hr9, h9⟩ := elimP hN0 h9
        refine x_callVi (c := 12) (As := [.int (-6)]) (rest := []) okX12_no lkX12_263 rfl (by decide) rfl dX12_book_45 rfl rfl (Nat.le_of_ble_eq_true rfl) rfl (c_X12_no (-6) hr9 (CI.mk ?_))
        exact x_iret dX12_book_48 rfl (hR0 _ _ h9)
      · replace h9 := ifF hc8 h9
        refine e_iload_n dX12_book_26 rfl rfl ?_
        refine e_bipush (v := 39) dX12_book_27 rfl ?_
        refine e_icmp_gt (tgt := 42) dX12_book_29 rfl (fun hc12 => ?_) (fun hc12 => ?_)
        · replace h9 := ifT hc12 h9
          refine e_aload_n dX12_book_42 rfl rfl ?_
          refine e_bipush (v := (-6)) dX12_book_43 rfl ?_
          obtain ⟨⟨r13, w14⟩, hr13, h9⟩ := elimP hN0 h9
          refine x_callVi (c := 12) (As := [.int (-6)]) (rest := []) okX12_no lkX12_263 rfl (by decide) rfl dX12_book_45 rfl rfl (Nat.le_of_ble_eq_true rfl) rfl (c_X12_no (-6) hr13 (CI.mk ?_))
          exact x_iret dX12_book_48 rfl (hR0 _ _ h9)
        · replace h9 := ifF hc12 h9
          refine e_aload_n dX12_book_32 rfl rfl ?_
          refine e_iload_n dX12_book_33 rfl rfl ?_
          refine e_iload_n dX12_book_34 rfl rfl ?_
          refine e_iload_n dX12_book_35 rfl rfl ?_
          obtain ⟨r16, hr16, h9⟩ := elimP hN0 h9
          refine x_callVi (c := 12) (As := [.int p1, .int p2, .int p3]) (rest := []) okX12_mayBook lkX12_372 rfl (by decide) rfl dX12_book_36 rfl rfl (Nat.le_of_ble_eq_true rfl) rfl (c_X12_mayBook p1 p2 p3 hr16 (CI.mk ?_))
          refine e_if_ne (tgt := 49) dX12_book_39 rfl (fun hc17 => ?_) (fun hc17 => ?_)
          · replace h9 := ifF hc17 h9
            refine e_aload_n dX12_book_49 rfl rfl ?_
            refine g_1264 flX12_178 dX12_book_50 ?_
            refine e_bipush (v := 40) dX12_book_53 rfl ?_
            refine e_iload_n dX12_book_55 rfl rfl ?_
            refine e_imul dX12_book_56 ?_
            refine e_iload_n dX12_book_57 rfl rfl ?_
            refine e_iadd dX12_book_58 ?_
            refine e_iload_n dX12_book_59 rfl rfl ?_
            refine e_pc (pc' := 60) rfl ?_
            obtain ⟨k18, h9⟩ := chkP hN0 h9
            refine s_1264 dX12_book_60 (inb_in k18) ?_
            refine e_aload_n dX12_book_61 rfl rfl ?_
            refine e_dup dX12_book_62 rfl ?_
            refine g_1210 flX12_376 dX12_book_63 ?_
            refine e_iconst (v := 1) dX12_book_66 rfl ?_
            refine e_iadd dX12_book_67 ?_
            refine p_1210 flX12_376 dX12_book_68 ?_
            refine e_iconst (v := 1) dX12_book_71 rfl ?_
            exact x_iret dX12_book_72 rfl (hR0 _ _ h9)
          · replace h9 := ifT hc17 h9
            refine e_aload_n dX12_book_42 rfl rfl ?_
            refine e_bipush (v := (-6)) dX12_book_43 rfl ?_
            obtain ⟨⟨r19, w20⟩, hr19, h9⟩ := elimP hN0 h9
            refine x_callVi (c := 12) (As := [.int (-6)]) (rest := []) okX12_no lkX12_263 rfl (by decide) rfl dX12_book_45 rfl rfl (Nat.le_of_ble_eq_true rfl) rfl (c_X12_no (-6) hr19 (CI.mk ?_))
            exact x_iret dX12_book_48 rfl (hR0 _ _ h9)
    · replace h9 := ifT hc7 h9
      refine e_aload_n dX12_book_16 rfl rfl ?_
      refine e_iconst (v := (-1)) dX12_book_17 rfl ?_
      obtain ⟨⟨r22, w23⟩, hr22, h9⟩ := elimP hN0 h9
      refine x_callVi (c := 12) (As := [.int (-1)]) (rest := []) okX12_no lkX12_263 rfl (by decide) rfl dX12_book_18 rfl rfl (Nat.le_of_ble_eq_true rfl) rfl (c_X12_no (-1) hr22 (CI.mk ?_))
      exact x_iret dX12_book_21 rfl (hR0 _ _ h9)
noncomputable def b_X12_block_188 (m : VM) (p1 : Int32) (p2 : Int32) (p3 : Int32) (v20 : Int32 × Int32 × Int32 × Int32 × VM) (v22 : Int32 × VM) : (Int32 × VM) ⊕ ((Int32 × Int32 × Int32 × Int32 × VM) ⊕ (Option (Int32 × VM))) := if v20.1 ≤ v22.1 then (f_X12_no v22.2 (-6)).elim (Sum.inr (Sum.inr none)) (fun r24p => Sum.inr (Sum.inr (some (r24p.1, r24p.2)))) else if inb v22.1 8 = true then if inb ((40 * p1) + (v22.2.2.1 1283 0 v22.1.toNatClampNeg)) 240 = true then Sum.inl (v22.1 + 1, setA v22.2 1264 0 (upd (v22.2.2.1 1264 0) (((40 * p1) + (v22.2.2.1 1283 0 v22.1.toNatClampNeg)).toNatClampNeg) (-1))) else Sum.inr (Sum.inr none) else Sum.inr (Sum.inr none)
noncomputable def j_X12_block_180 (m : VM) (p1 : Int32) (p2 : Int32) (p3 : Int32) (v20 : Int32 × Int32 × Int32 × Int32 × VM) : (Int32 × Int32 × Int32 × Int32 × VM) ⊕ (Option (Int32 × VM)) := if v20.2.2.1 = 0 then loopF (Sum.inr none) (b_X12_block_188 m p1 p2 p3 v20) (0, v20.2.2.2.2) else Sum.inr (some (v20.2.1, setI v20.2.2.2.2 1210 0 ((v20.2.2.2.2.1 1210 0) + v20.1)))
noncomputable def j_X12_block_127 (m : VM) (p1 : Int32) (p2 : Int32) (p3 : Int32) (v20 : Int32 × Int32 × Int32 × Int32 × VM) (v32 : Int32) (a33 : Int32) : (Int32) ⊕ ((Int32 × Int32 × Int32 × Int32 × VM) ⊕ (Option (Int32 × VM))) := if a33 = 0 then Sum.inr (Sum.inl (v20.1, v20.2.1, a33, v20.2.2.2.1 + 1, v20.2.2.2.2)) else if inb ((40 * p1) + v32) 240 = true then if inb v20.1 8 = true then if v32 ≤ v20.2.1 then Sum.inr (Sum.inl (v20.1 + 1, v20.2.1, a33, v20.2.2.2.1 + 1, setA (setA v20.2.2.2.2 1264 0 (upd (v20.2.2.2.2.2.1 1264 0) (((40 * p1) + v32).toNatClampNeg) v20.2.2.2.1)) 1283 0 (upd ((setA v20.2.2.2.2 1264 0 (upd (v20.2.2.2.2.2.1 1264 0) (((40 * p1) + v32).toNatClampNeg) v20.2.2.2.1)).2.1 1283 0) v20.1.toNatClampNeg v32))) else Sum.inr (Sum.inl (v20.1 + 1, v32, a33, v20.2.2.2.1 + 1, setA (setA v20.2.2.2.2 1264 0 (upd (v20.2.2.2.2.2.1 1264 0) (((40 * p1) + v32).toNatClampNeg) v20.2.2.2.1)) 1283 0 (upd ((setA v20.2.2.2.2 1264 0 (upd (v20.2.2.2.2.2.1 1264 0) (((40 * p1) + v32).toNatClampNeg) v20.2.2.2.1)).2.1 1283 0) v20.1.toNatClampNeg v32))) else Sum.inr (Sum.inr none) else Sum.inr (Sum.inr none)
noncomputable def j_X12_block_115 (m : VM) (p1 : Int32) (p2 : Int32) (p3 : Int32) (v20 : Int32 × Int32 × Int32 × Int32 × VM) (v32 : Int32) : (Int32) ⊕ ((Int32 × Int32 × Int32 × Int32 × VM) ⊕ (Option (Int32 × VM))) := if 40 ≤ v32 then j_X12_block_127 m p1 p2 p3 v20 v32 0 else j_X12_block_127 m p1 p2 p3 v20 v32 1
noncomputable def b_X12_block_90 (m : VM) (p1 : Int32) (p2 : Int32) (p3 : Int32) (v20 : Int32 × Int32 × Int32 × Int32 × VM) (v32 : Int32) : (Int32) ⊕ ((Int32 × Int32 × Int32 × Int32 × VM) ⊕ (Option (Int32 × VM))) := if 40 ≤ v32 then j_X12_block_115 m p1 p2 p3 v20 v32 else (f_X12_mayBook v20.2.2.2.2 v20.2.2.2.1 p1 v32).elim (Sum.inr (Sum.inr none)) (fun r40 => if r40 = 0 then Sum.inl (v32 + 1) else j_X12_block_115 m p1 p2 p3 v20 v32)
noncomputable def b_X12_block_61 (m : VM) (p1 : Int32) (p2 : Int32) (p3 : Int32) (v20 : Int32 × Int32 × Int32 × Int32 × VM) : (Int32 × Int32 × Int32 × Int32 × VM) ⊕ (Option (Int32 × VM)) := if (v20.2.2.2.2.1 1204 0) ≤ v20.2.2.2.1 then j_X12_block_180 m p1 p2 p3 v20 else if v20.2.2.1 = 0 then j_X12_block_180 m p1 p2 p3 v20 else if ((p2 >>> (v20.2.2.2.1 &&& 31)) &&& 1) = 0 then Sum.inl (v20.1, v20.2.1, v20.2.2.1, v20.2.2.2.1 + 1, v20.2.2.2.2) else loopF (Sum.inr none) (b_X12_block_90 m p1 p2 p3 v20) p3
noncomputable def f_X12_block (m : VM) (p1 : Int32) (p2 : Int32) (p3 : Int32) : Option (Int32 × VM) := (f_X12_isHall m p1).elim none (fun r1 => if r1 = 0 then (f_X12_no m (-1)).elim none (fun r3p => some (r3p.1, r3p.2)) else if p2 < 0 then (f_X12_no m (-1)).elim none (fun r7p => some (r7p.1, r7p.2)) else if p2 < ((1 : Int32) <<< ((m.1 1204 0) &&& 31)) then if p3 < 0 then (f_X12_no m (-6)).elim none (fun r12p => some (r12p.1, r12p.2)) else if 39 < p3 then (f_X12_no m (-6)).elim none (fun r16p => some (r16p.1, r16p.2)) else if p2 = 0 then (f_X12_no m (-6)).elim none (fun r42p => some (r42p.1, r42p.2)) else loopF none (b_X12_block_61 m p1 p2 p3) (0, (-1), 1, 0, m) else (f_X12_no m (-1)).elim none (fun r45p => some (r45p.1, r45p.2)))
theorem c_X12_block {g : GG} {d : Nat} {ad : AD} {x m : VM} {Q : Option Value → VM → VM → Prop} (p1 : Int32) (p2 : Int32) (p3 : Int32) {r9 : Int32} {w9 : VM} (hf : f_X12_block m p1 p2 p3 = some (r9, w9)) (hq : Q (some (.int r9)) x w9) : CX g (d + 1) MX12_block [.ref (ad 12 0), .int p1, .int p2, .int p3] ad x m Q := by
  refine CX.to (Lv := [some (.ref (ad 12 0)), some (.int p1), some (.int p2), some (.int p3), none, none, none, none, none]) okX12_block (Nat.le_of_ble_eq_true rfl) rfl ?_
  obtain ⟨Φ0, hΦ⟩ : ∃ Φ : Option (Int32 × VM) → Prop, Φ = fun o => o = some (r9, w9) := ⟨_, rfl⟩
  have hN0 : Φ0 none → False := by rw [hΦ]; intro h; cases h
  have hR0 : ∀ z9 y9, Φ0 (some (z9, y9)) → Q (some (.int z9)) x y9 := by rw [hΦ]; intro z9 y9 h; cases h; exact hq
  have h9 : Φ0 (f_X12_block m p1 p2 p3) := by rw [hΦ]; exact hf
  clear hf hq hΦ
  unfold f_X12_block at h9
  refine e_aload_n dX12_block_0 rfl rfl ?_
  refine e_iload_n dX12_block_1 rfl rfl ?_
  obtain ⟨r1, hr1, h9⟩ := elimP hN0 h9
  refine x_callVi (c := 12) (As := [.int p1]) (rest := []) okX12_isHall lkX12_369 rfl (by decide) rfl dX12_block_2 rfl rfl (Nat.le_of_ble_eq_true rfl) rfl (c_X12_isHall p1 hr1 (CI.mk ?_))
  refine e_if_eq (tgt := 22) dX12_block_5 rfl (fun hc2 => ?_) (fun hc2 => ?_)
  · replace h9 := ifT hc2 h9
    refine e_aload_n dX12_block_22 rfl rfl ?_
    refine e_iconst (v := (-1)) dX12_block_23 rfl ?_
    obtain ⟨⟨r3, w4⟩, hr3, h9⟩ := elimP hN0 h9
    refine x_callVi (c := 12) (As := [.int (-1)]) (rest := []) okX12_no lkX12_263 rfl (by decide) rfl dX12_block_24 rfl rfl (Nat.le_of_ble_eq_true rfl) rfl (c_X12_no (-1) hr3 (CI.mk ?_))
    exact x_iret dX12_block_27 rfl (hR0 _ _ h9)
  · replace h9 := ifF hc2 h9
    refine e_iload_n dX12_block_8 rfl rfl ?_
    refine e_if_lt (tgt := 22) dX12_block_9 rfl (fun hc6 => ?_) (fun hc6 => ?_)
    · replace h9 := ifT hc6 h9
      refine e_aload_n dX12_block_22 rfl rfl ?_
      refine e_iconst (v := (-1)) dX12_block_23 rfl ?_
      obtain ⟨⟨r7, w8⟩, hr7, h9⟩ := elimP hN0 h9
      refine x_callVi (c := 12) (As := [.int (-1)]) (rest := []) okX12_no lkX12_263 rfl (by decide) rfl dX12_block_24 rfl rfl (Nat.le_of_ble_eq_true rfl) rfl (c_X12_no (-1) hr7 (CI.mk ?_))
      exact x_iret dX12_block_27 rfl (hR0 _ _ h9)
    · replace h9 := ifF hc6 h9
      refine e_iload_n dX12_block_12 rfl rfl ?_
      refine e_iconst (v := 1) dX12_block_13 rfl ?_
      refine e_aload_n dX12_block_14 rfl rfl ?_
      refine g_1204 flX12_250 dX12_block_15 ?_
      refine e_ishl dX12_block_18 ?_
      refine e_icmp_lt (tgt := 28) dX12_block_19 rfl (fun hc10 => ?_) (fun hc10 => ?_)
      · replace h9 := ifT hc10 h9
        refine e_iload_n dX12_block_28 rfl rfl ?_
        refine e_if_lt (tgt := 42) dX12_block_29 rfl (fun hc11 => ?_) (fun hc11 => ?_)
        · replace h9 := ifT hc11 h9
          refine e_aload_n dX12_block_42 rfl rfl ?_
          refine e_bipush (v := (-6)) dX12_block_43 rfl ?_
          obtain ⟨⟨r12, w13⟩, hr12, h9⟩ := elimP hN0 h9
          refine x_callVi (c := 12) (As := [.int (-6)]) (rest := []) okX12_no lkX12_263 rfl (by decide) rfl dX12_block_45 rfl rfl (Nat.le_of_ble_eq_true rfl) rfl (c_X12_no (-6) hr12 (CI.mk ?_))
          exact x_iret dX12_block_48 rfl (hR0 _ _ h9)
        · replace h9 := ifF hc11 h9
          refine e_iload_n dX12_block_32 rfl rfl ?_
          refine e_bipush (v := 39) dX12_block_33 rfl ?_
          refine e_icmp_gt (tgt := 42) dX12_block_35 rfl (fun hc15 => ?_) (fun hc15 => ?_)
          · replace h9 := ifT hc15 h9
            refine e_aload_n dX12_block_42 rfl rfl ?_
            refine e_bipush (v := (-6)) dX12_block_43 rfl ?_
            obtain ⟨⟨r16, w17⟩, hr16, h9⟩ := elimP hN0 h9
            refine x_callVi (c := 12) (As := [.int (-6)]) (rest := []) okX12_no lkX12_263 rfl (by decide) rfl dX12_block_45 rfl rfl (Nat.le_of_ble_eq_true rfl) rfl (c_X12_no (-6) hr16 (CI.mk ?_))
            exact x_iret dX12_block_48 rfl (hR0 _ _ h9)
          · replace h9 := ifF hc15 h9
            refine e_iload_n dX12_block_38 rfl rfl ?_
            refine e_if_ne (tgt := 49) dX12_block_39 rfl (fun hc19 => ?_) (fun hc19 => ?_)
            · replace h9 := ifF hc19 h9
              refine e_iconst (v := 0) dX12_block_49 rfl ?_
              refine e_istore (L' := [some (.ref (ad 12 0)), some (.int p1), some (.int p2), some (.int p3), some (.int 0), none, none, none, none]) dX12_block_50 (by decide) rfl ?_
              refine e_iconst (v := (-1)) dX12_block_52 rfl ?_
              refine e_istore (L' := [some (.ref (ad 12 0)), some (.int p1), some (.int p2), some (.int p3), some (.int 0), some (.int (-1)), none, none, none]) dX12_block_53 (by decide) rfl ?_
              refine e_iconst (v := 1) dX12_block_55 rfl ?_
              refine e_istore (L' := [some (.ref (ad 12 0)), some (.int p1), some (.int p2), some (.int p3), some (.int 0), some (.int (-1)), some (.int 1), none, none]) dX12_block_56 (by decide) rfl ?_
              refine e_iconst (v := 0) dX12_block_58 rfl ?_
              refine e_istore (L' := [some (.ref (ad 12 0)), some (.int p1), some (.int p2), some (.int p3), some (.int 0), some (.int (-1)), some (.int 1), some (.int 0), none]) dX12_block_59 (by decide) rfl ?_
              refine loop_gen (b_X12_block_61 m p1 p2 p3) none (fun v20 => EX g (d + 1) MX12_block ad x v20.2.2.2.2 61 [some (.ref (ad 12 0)), some (.int p1), some (.int p2), some (.int p3), some (.int v20.1), some (.int v20.2.1), some (.int v20.2.2.1), some (.int v20.2.2.2.1), none] [] Q) Φ0 hN0 (fun v20 Φ1 hB0_1 hO1 h9 => ?_) (0, (-1), 1, 0, m) h9
              have hN1 := fun h => hN0 (hO1 _ h)
              have hR1 := fun r9 x9 h => hR0 r9 x9 (hO1 _ h)
              have hB0_1 : ∀ (z0 : Int32) (z1 : Int32) (z2 : Int32) (z3 : Int32) (z4 : VM), Φ1 (Sum.inl (z0, z1, z2, z3, z4)) → EX g (d + 1) MX12_block ad x z4 61 [some (.ref (ad 12 0)), some (.int p1), some (.int p2), some (.int p3), some (.int z0), some (.int z1), some (.int z2), some (.int z3), none] [] Q := fun z0 z1 z2 z3 z4 h => hB0_1 (z0, z1, z2, z3, z4) h
              unfold b_X12_block_61 at h9
              refine e_iload dX12_block_61 rfl ?_
              refine e_aload_n dX12_block_63 rfl rfl ?_
              refine g_1204 flX12_250 dX12_block_64 ?_
              have hj180 : Φ1 (j_X12_block_180 m p1 p2 p3 v20) → EX g (d + 1) MX12_block ad x v20.2.2.2.2 180 [some (.ref (ad 12 0)), some (.int p1), none, none, some (.int v20.1), some (.int v20.2.1), some (.int v20.2.2.1), none, none] [] Q := by
                intro h9
                unfold j_X12_block_180 at h9
                refine e_iload dX12_block_180 rfl ?_
                refine e_if_ne (tgt := 226) dX12_block_182 rfl (fun hc21 => ?_) (fun hc21 => ?_)
                · replace h9 := ifF hc21 h9
                  refine e_aload_n dX12_block_226 rfl rfl ?_
                  refine e_dup dX12_block_227 rfl ?_
                  refine g_1210 flX12_376 dX12_block_228 ?_
                  refine e_iload dX12_block_231 rfl ?_
                  refine e_iadd dX12_block_233 ?_
                  refine p_1210 flX12_376 dX12_block_234 ?_
                  refine e_iload dX12_block_237 rfl ?_
                  exact x_iret dX12_block_239 rfl (hR1 _ _ h9)
                · replace h9 := ifT hc21 h9
                  refine e_iconst (v := 0) dX12_block_185 rfl ?_
                  refine e_istore (L' := [some (.ref (ad 12 0)), some (.int p1), none, none, some (.int v20.1), some (.int v20.2.1), some (.int v20.2.2.1), some (.int 0), none]) dX12_block_186 (by decide) rfl ?_
                  refine e_wk (L' := [some (.ref (ad 12 0)), some (.int p1), none, none, some (.int v20.1), none, none, some (.int 0), none]) (wkC (wkC (wkN (wkN (wkC (wkN (wkN (wkC (wkN wk0))))))))) ?_
                  refine loop_gen (b_X12_block_188 m p1 p2 p3 v20) (Sum.inr none) (fun v22 => EX g (d + 1) MX12_block ad x v22.2 188 [some (.ref (ad 12 0)), some (.int p1), none, none, some (.int v20.1), none, none, some (.int v22.1), none] [] Q) Φ1 hN1 (fun v22 Φ2 hB1_2 hO2 h9 => ?_) (0, v20.2.2.2.2) h9
                  have hN2 := fun h => hN1 (hO2 _ h)
                  have hR2 := fun r9 x9 h => hR1 r9 x9 (hO2 _ h)
                  have hB0_2 : ∀ (z0 : Int32) (z1 : Int32) (z2 : Int32) (z3 : Int32) (z4 : VM), Φ2 (Sum.inr (Sum.inl (z0, z1, z2, z3, z4))) → EX g (d + 1) MX12_block ad x z4 61 [some (.ref (ad 12 0)), some (.int p1), some (.int p2), some (.int p3), some (.int z0), some (.int z1), some (.int z2), some (.int z3), none] [] Q := fun z0 z1 z2 z3 z4 h => hB0_1 z0 z1 z2 z3 z4 (hO2 _ h)
                  have hB1_2 : ∀ (z0 : Int32) (z1 : VM), Φ2 (Sum.inl (z0, z1)) → EX g (d + 1) MX12_block ad x z1 188 [some (.ref (ad 12 0)), some (.int p1), none, none, some (.int v20.1), none, none, some (.int z0), none] [] Q := fun z0 z1 h => hB1_2 (z0, z1) h
                  unfold b_X12_block_188 at h9
                  refine e_iload dX12_block_188 rfl ?_
                  refine e_iload dX12_block_190 rfl ?_
                  refine e_icmp_ge (tgt := 219) dX12_block_192 rfl (fun hc23 => ?_) (fun hc23 => ?_)
                  · replace h9 := ifT hc23 h9
                    refine e_aload_n dX12_block_219 rfl rfl ?_
                    refine e_bipush (v := (-6)) dX12_block_220 rfl ?_
                    obtain ⟨⟨r24, w25⟩, hr24, h9⟩ := elimP hN2 h9
                    refine x_callVi (c := 12) (As := [.int (-6)]) (rest := []) okX12_no lkX12_263 rfl (by decide) rfl dX12_block_222 rfl rfl (Nat.le_of_ble_eq_true rfl) rfl (c_X12_no (-6) hr24 (CI.mk ?_))
                    exact x_iret dX12_block_225 rfl (hR2 _ _ h9)
                  · replace h9 := ifF hc23 h9
                    refine e_aload_n dX12_block_195 rfl rfl ?_
                    refine g_1264 flX12_178 dX12_block_196 ?_
                    refine e_bipush (v := 40) dX12_block_199 rfl ?_
                    refine e_iload_n dX12_block_201 rfl rfl ?_
                    refine e_imul dX12_block_202 ?_
                    refine e_aload_n dX12_block_203 rfl rfl ?_
                    refine g_1283 flX12_232 dX12_block_204 ?_
                    refine e_iload dX12_block_207 rfl ?_
                    refine e_pc (pc' := 209) rfl ?_
                    obtain ⟨k27, h9⟩ := chkP hN2 h9
                    refine l_1283 dX12_block_209 (inb_in k27) ?_
                    refine e_iadd dX12_block_210 ?_
                    refine e_iconst (v := (-1)) dX12_block_211 rfl ?_
                    obtain ⟨k28, h9⟩ := chkP hN2 h9
                    refine s_1264 dX12_block_212 (inb_in k28) ?_
                    refine e_iinc (v := (v22.1 + 1)) (L' := [some (.ref (ad 12 0)), some (.int p1), none, none, some (.int v20.1), none, none, some (.int (v22.1 + 1)), none]) dX12_block_213 rfl rfl (by decide) rfl ?_
                    refine e_goto (tgt := 188) dX12_block_216 rfl ?_
                    exact hB1_2 _ _ h9
              refine e_icmp_ge (tgt := 180) dX12_block_67 rfl (fun hc29 => ?_) (fun hc29 => ?_)
              · replace h9 := ifT hc29 h9
                refine e_wk (L' := [some (.ref (ad 12 0)), some (.int p1), none, none, some (.int v20.1), some (.int v20.2.1), some (.int v20.2.2.1), none, none]) (wkC (wkC (wkN (wkN (wkC (wkC (wkC (wkN (wkN wk0))))))))) ?_
                exact hj180 h9
              · replace h9 := ifF hc29 h9
                refine e_iload dX12_block_70 rfl ?_
                refine e_if_eq (tgt := 180) dX12_block_72 rfl (fun hc30 => ?_) (fun hc30 => ?_)
                · replace h9 := ifT hc30 h9
                  refine e_wk (L' := [some (.ref (ad 12 0)), some (.int p1), none, none, some (.int v20.1), some (.int v20.2.1), some (.int v20.2.2.1), none, none]) (wkC (wkC (wkN (wkN (wkC (wkC (wkC (wkN (wkN wk0))))))))) ?_
                  exact hj180 h9
                · replace h9 := ifF hc30 h9
                  refine e_iload_n dX12_block_75 rfl rfl ?_
                  refine e_iload dX12_block_76 rfl ?_
                  refine e_ishr dX12_block_78 ?_
                  refine e_iconst (v := 1) dX12_block_79 rfl ?_
                  refine e_iand dX12_block_80 ?_
                  refine e_if_ne (tgt := 87) dX12_block_81 rfl (fun hc31 => ?_) (fun hc31 => ?_)
                  · replace h9 := ifF hc31 h9
                    refine e_iload_n dX12_block_87 rfl rfl ?_
                    refine e_istore (L' := [some (.ref (ad 12 0)), some (.int p1), some (.int p2), some (.int p3), some (.int v20.1), some (.int v20.2.1), some (.int v20.2.2.1), some (.int v20.2.2.2.1), some (.int p3)]) dX12_block_88 (by decide) rfl ?_
                    refine e_wk (L' := [some (.ref (ad 12 0)), some (.int p1), some (.int p2), some (.int p3), some (.int v20.1), some (.int v20.2.1), none, some (.int v20.2.2.2.1), some (.int p3)]) (wkC (wkC (wkC (wkC (wkC (wkC (wkN (wkC (wkC wk0))))))))) ?_
                    refine loop_gen (b_X12_block_90 m p1 p2 p3 v20) (Sum.inr none) (fun v32 => EX g (d + 1) MX12_block ad x v20.2.2.2.2 90 [some (.ref (ad 12 0)), some (.int p1), some (.int p2), some (.int p3), some (.int v20.1), some (.int v20.2.1), none, some (.int v20.2.2.2.1), some (.int v32)] [] Q) Φ1 hN1 (fun v32 Φ2 hB1_2 hO2 h9 => ?_) p3 h9
                    have hN2 := fun h => hN1 (hO2 _ h)
                    have hR2 := fun r9 x9 h => hR1 r9 x9 (hO2 _ h)
                    have hB0_2 : ∀ (z0 : Int32) (z1 : Int32) (z2 : Int32) (z3 : Int32) (z4 : VM), Φ2 (Sum.inr (Sum.inl (z0, z1, z2, z3, z4))) → EX g (d + 1) MX12_block ad x z4 61 [some (.ref (ad 12 0)), some (.int p1), some (.int p2), some (.int p3), some (.int z0), some (.int z1), some (.int z2), some (.int z3), none] [] Q := fun z0 z1 z2 z3 z4 h => hB0_1 z0 z1 z2 z3 z4 (hO2 _ h)
                    have hB1_2 : ∀ (z0 : Int32), Φ2 (Sum.inl z0) → EX g (d + 1) MX12_block ad x v20.2.2.2.2 90 [some (.ref (ad 12 0)), some (.int p1), some (.int p2), some (.int p3), some (.int v20.1), some (.int v20.2.1), none, some (.int v20.2.2.2.1), some (.int z0)] [] Q := fun z0 h => hB1_2 z0 h
                    unfold b_X12_block_90 at h9
                    refine e_iload dX12_block_90 rfl ?_
                    refine e_bipush (v := 40) dX12_block_92 rfl ?_
                    have hj127 : ∀ (a33 : Int32), Φ2 (j_X12_block_127 m p1 p2 p3 v20 v32 a33) → EX g (d + 1) MX12_block ad x v20.2.2.2.2 127 [some (.ref (ad 12 0)), some (.int p1), some (.int p2), some (.int p3), some (.int v20.1), some (.int v20.2.1), none, some (.int v20.2.2.2.1), some (.int v32)] [.int a33] Q := by
                      intro a33 h9
                      unfold j_X12_block_127 at h9
                      refine e_istore (L' := [some (.ref (ad 12 0)), some (.int p1), some (.int p2), some (.int p3), some (.int v20.1), some (.int v20.2.1), some (.int a33), some (.int v20.2.2.2.1), some (.int v32)]) dX12_block_127 (by decide) rfl ?_
                      refine e_iload dX12_block_129 rfl ?_
                      refine e_if_ne (tgt := 137) dX12_block_131 rfl (fun hc34 => ?_) (fun hc34 => ?_)
                      · replace h9 := ifF hc34 h9
                        refine e_aload_n dX12_block_137 rfl rfl ?_
                        refine g_1264 flX12_178 dX12_block_138 ?_
                        refine e_bipush (v := 40) dX12_block_141 rfl ?_
                        refine e_iload_n dX12_block_143 rfl rfl ?_
                        refine e_imul dX12_block_144 ?_
                        refine e_iload dX12_block_145 rfl ?_
                        refine e_iadd dX12_block_147 ?_
                        refine e_iload dX12_block_148 rfl ?_
                        refine e_pc (pc' := 150) rfl ?_
                        obtain ⟨k35, h9⟩ := chkP hN2 h9
                        refine s_1264 dX12_block_150 (inb_in k35) ?_
                        refine e_aload_n dX12_block_151 rfl rfl ?_
                        refine g_1283 flX12_232 dX12_block_152 ?_
                        refine e_iload dX12_block_155 rfl ?_
                        refine e_iinc (v := (v20.1 + 1)) (L' := [some (.ref (ad 12 0)), some (.int p1), some (.int p2), some (.int p3), some (.int (v20.1 + 1)), some (.int v20.2.1), some (.int a33), some (.int v20.2.2.2.1), some (.int v32)]) dX12_block_157 rfl rfl (by decide) rfl ?_
                        refine e_iload dX12_block_160 rfl ?_
                        obtain ⟨k36, h9⟩ := chkP hN2 h9
                        refine s_1283 dX12_block_162 (inb_in k36) ?_
                        refine e_iload dX12_block_163 rfl ?_
                        refine e_iload dX12_block_165 rfl ?_
                        refine e_pc (pc' := 167) rfl ?_
                        refine e_icmp_le (tgt := 174) dX12_block_167 rfl (fun hc37 => ?_) (fun hc37 => ?_)
                        · replace h9 := ifT hc37 h9
                          refine e_iinc (v := (v20.2.2.2.1 + 1)) (L' := [some (.ref (ad 12 0)), some (.int p1), some (.int p2), some (.int p3), some (.int (v20.1 + 1)), some (.int v20.2.1), some (.int a33), some (.int (v20.2.2.2.1 + 1)), some (.int v32)]) dX12_block_174 rfl rfl (by decide) rfl ?_
                          refine e_goto (tgt := 61) dX12_block_177 rfl ?_
                          refine e_wk (L' := [some (.ref (ad 12 0)), some (.int p1), some (.int p2), some (.int p3), some (.int (v20.1 + 1)), some (.int v20.2.1), some (.int a33), some (.int (v20.2.2.2.1 + 1)), none]) (wkC (wkC (wkC (wkC (wkC (wkC (wkC (wkC (wkN wk0))))))))) ?_
                          exact hB0_2 _ _ _ _ _ h9
                        · replace h9 := ifF hc37 h9
                          refine e_iload dX12_block_170 rfl ?_
                          refine e_istore (L' := [some (.ref (ad 12 0)), some (.int p1), some (.int p2), some (.int p3), some (.int (v20.1 + 1)), some (.int v32), some (.int a33), some (.int v20.2.2.2.1), some (.int v32)]) dX12_block_172 (by decide) rfl ?_
                          refine e_iinc (v := (v20.2.2.2.1 + 1)) (L' := [some (.ref (ad 12 0)), some (.int p1), some (.int p2), some (.int p3), some (.int (v20.1 + 1)), some (.int v32), some (.int a33), some (.int (v20.2.2.2.1 + 1)), some (.int v32)]) dX12_block_174 rfl rfl (by decide) rfl ?_
                          refine e_goto (tgt := 61) dX12_block_177 rfl ?_
                          refine e_wk (L' := [some (.ref (ad 12 0)), some (.int p1), some (.int p2), some (.int p3), some (.int (v20.1 + 1)), some (.int v32), some (.int a33), some (.int (v20.2.2.2.1 + 1)), none]) (wkC (wkC (wkC (wkC (wkC (wkC (wkC (wkC (wkN wk0))))))))) ?_
                          exact hB0_2 _ _ _ _ _ h9
                      · replace h9 := ifT hc34 h9
                        refine e_goto (tgt := 174) dX12_block_134 rfl ?_
                        refine e_iinc (v := (v20.2.2.2.1 + 1)) (L' := [some (.ref (ad 12 0)), some (.int p1), some (.int p2), some (.int p3), some (.int v20.1), some (.int v20.2.1), some (.int a33), some (.int (v20.2.2.2.1 + 1)), some (.int v32)]) dX12_block_174 rfl rfl (by decide) rfl ?_
                        refine e_goto (tgt := 61) dX12_block_177 rfl ?_
                        refine e_wk (L' := [some (.ref (ad 12 0)), some (.int p1), some (.int p2), some (.int p3), some (.int v20.1), some (.int v20.2.1), some (.int a33), some (.int (v20.2.2.2.1 + 1)), none]) (wkC (wkC (wkC (wkC (wkC (wkC (wkC (wkC (wkN wk0))))))))) ?_
                        exact hB0_2 _ _ _ _ _ h9
                    have hj115 : Φ2 (j_X12_block_115 m p1 p2 p3 v20 v32) → EX g (d + 1) MX12_block ad x v20.2.2.2.2 115 [some (.ref (ad 12 0)), some (.int p1), some (.int p2), some (.int p3), some (.int v20.1), some (.int v20.2.1), none, some (.int v20.2.2.2.1), some (.int v32)] [] Q := by
                      intro h9
                      unfold j_X12_block_115 at h9
                      refine e_iload dX12_block_115 rfl ?_
                      refine e_bipush (v := 40) dX12_block_117 rfl ?_
                      refine e_icmp_ge (tgt := 126) dX12_block_119 rfl (fun hc38 => ?_) (fun hc38 => ?_)
                      · replace h9 := ifT hc38 h9
                        refine e_iconst (v := 0) dX12_block_126 rfl ?_
                        exact hj127 0 h9
                      · replace h9 := ifF hc38 h9
                        refine e_iconst (v := 1) dX12_block_122 rfl ?_
                        refine e_goto (tgt := 127) dX12_block_123 rfl ?_
                        exact hj127 1 h9
                    refine e_icmp_ge (tgt := 115) dX12_block_94 rfl (fun hc39 => ?_) (fun hc39 => ?_)
                    · replace h9 := ifT hc39 h9
                      exact hj115 h9
                    · replace h9 := ifF hc39 h9
                      refine e_aload_n dX12_block_97 rfl rfl ?_
                      refine e_iload dX12_block_98 rfl ?_
                      refine e_iload_n dX12_block_100 rfl rfl ?_
                      refine e_iload dX12_block_101 rfl ?_
                      obtain ⟨r40, hr40, h9⟩ := elimP hN2 h9
                      refine x_callVi (c := 12) (As := [.int v20.2.2.2.1, .int p1, .int v32]) (rest := []) okX12_mayBook lkX12_372 rfl (by decide) rfl dX12_block_103 rfl rfl (Nat.le_of_ble_eq_true rfl) rfl (c_X12_mayBook v20.2.2.2.1 p1 v32 hr40 (CI.mk ?_))
                      refine e_if_ne (tgt := 115) dX12_block_106 rfl (fun hc41 => ?_) (fun hc41 => ?_)
                      · replace h9 := ifF hc41 h9
                        exact hj115 h9
                      · replace h9 := ifT hc41 h9
                        refine e_iinc (v := (v32 + 1)) (L' := [some (.ref (ad 12 0)), some (.int p1), some (.int p2), some (.int p3), some (.int v20.1), some (.int v20.2.1), none, some (.int v20.2.2.2.1), some (.int (v32 + 1))]) dX12_block_109 rfl rfl (by decide) rfl ?_
                        refine e_goto (tgt := 90) dX12_block_112 rfl ?_
                        exact hB1_2 _ h9
                  · replace h9 := ifT hc31 h9
                    refine e_goto (tgt := 174) dX12_block_84 rfl ?_
                    refine e_iinc (v := (v20.2.2.2.1 + 1)) (L' := [some (.ref (ad 12 0)), some (.int p1), some (.int p2), some (.int p3), some (.int v20.1), some (.int v20.2.1), some (.int v20.2.2.1), some (.int (v20.2.2.2.1 + 1)), none]) dX12_block_174 rfl rfl (by decide) rfl ?_
                    refine e_goto (tgt := 61) dX12_block_177 rfl ?_
                    exact hB0_1 _ _ _ _ _ h9
            · replace h9 := ifT hc19 h9
              refine e_aload_n dX12_block_42 rfl rfl ?_
              refine e_bipush (v := (-6)) dX12_block_43 rfl ?_
              obtain ⟨⟨r42, w43⟩, hr42, h9⟩ := elimP hN0 h9
              refine x_callVi (c := 12) (As := [.int (-6)]) (rest := []) okX12_no lkX12_263 rfl (by decide) rfl dX12_block_45 rfl rfl (Nat.le_of_ble_eq_true rfl) rfl (c_X12_no (-6) hr42 (CI.mk ?_))
              exact x_iret dX12_block_48 rfl (hR0 _ _ h9)
      · replace h9 := ifF hc10 h9
        refine e_aload_n dX12_block_22 rfl rfl ?_
        refine e_iconst (v := (-1)) dX12_block_23 rfl ?_
        obtain ⟨⟨r45, w46⟩, hr45, h9⟩ := elimP hN0 h9
        refine x_callVi (c := 12) (As := [.int (-1)]) (rest := []) okX12_no lkX12_263 rfl (by decide) rfl dX12_block_24 rfl rfl (Nat.le_of_ble_eq_true rfl) rfl (c_X12_no (-1) hr45 (CI.mk ?_))
        exact x_iret dX12_block_27 rfl (hR0 _ _ h9)
noncomputable def f_X12_shown (m : VM) (p1 : Int32) (p2 : Int32) : Option (Int32) := (f_X12_isHall m p1).elim none (fun r1 => if r1 = 0 then some (-1) else if p2 < 0 then some (-1) else if 40 ≤ p2 then some (-1) else if inb ((40 * p1) + p2) 240 = true then some (m.2.1 1264 0 (((40 * p1) + p2).toNatClampNeg)) else none)
theorem c_X12_shown {g : GG} {d : Nat} {ad : AD} {x m : VM} {Q : Option Value → VM → VM → Prop} (p1 : Int32) (p2 : Int32) {r9 : Int32} (hf : f_X12_shown m p1 p2 = some r9) (hq : Q (some (.int r9)) x m) : CX g (d + 1) MX12_shown [.ref (ad 12 0), .int p1, .int p2] ad x m Q := by
  refine CX.to (Lv := [some (.ref (ad 12 0)), some (.int p1), some (.int p2)]) okX12_shown (Nat.le_of_ble_eq_true rfl) rfl ?_
  obtain ⟨Φ0, hΦ⟩ : ∃ Φ : Option (Int32) → Prop, Φ = fun o => o = some r9 := ⟨_, rfl⟩
  have hN0 : Φ0 none → False := by rw [hΦ]; intro h; cases h
  have hR0 : ∀ z9, Φ0 (some z9) → Q (some (.int z9)) x m := by rw [hΦ]; intro z9 h; cases h; exact hq
  have h9 : Φ0 (f_X12_shown m p1 p2) := by rw [hΦ]; exact hf
  clear hf hq hΦ
  unfold f_X12_shown at h9
  refine e_aload_n dX12_shown_0 rfl rfl ?_
  refine e_iload_n dX12_shown_1 rfl rfl ?_
  obtain ⟨r1, hr1, h9⟩ := elimP hN0 h9
  refine x_callVi (c := 12) (As := [.int p1]) (rest := []) okX12_isHall lkX12_369 rfl (by decide) rfl dX12_shown_2 rfl rfl (Nat.le_of_ble_eq_true rfl) rfl (c_X12_isHall p1 hr1 (CI.mk ?_))
  refine e_if_eq (tgt := 32) dX12_shown_5 rfl (fun hc2 => ?_) (fun hc2 => ?_)
  · replace h9 := ifT hc2 h9
    refine e_iconst (v := (-1)) dX12_shown_32 rfl ?_
    exact x_iret dX12_shown_33 rfl (hR0 _ h9)
  · replace h9 := ifF hc2 h9
    refine e_iload_n dX12_shown_8 rfl rfl ?_
    refine e_if_lt (tgt := 32) dX12_shown_9 rfl (fun hc3 => ?_) (fun hc3 => ?_)
    · replace h9 := ifT hc3 h9
      refine e_iconst (v := (-1)) dX12_shown_32 rfl ?_
      exact x_iret dX12_shown_33 rfl (hR0 _ h9)
    · replace h9 := ifF hc3 h9
      refine e_iload_n dX12_shown_12 rfl rfl ?_
      refine e_bipush (v := 40) dX12_shown_13 rfl ?_
      refine e_icmp_ge (tgt := 32) dX12_shown_15 rfl (fun hc4 => ?_) (fun hc4 => ?_)
      · replace h9 := ifT hc4 h9
        refine e_iconst (v := (-1)) dX12_shown_32 rfl ?_
        exact x_iret dX12_shown_33 rfl (hR0 _ h9)
      · replace h9 := ifF hc4 h9
        refine e_aload_n dX12_shown_18 rfl rfl ?_
        refine g_1264 flX12_178 dX12_shown_19 ?_
        refine e_bipush (v := 40) dX12_shown_22 rfl ?_
        refine e_iload_n dX12_shown_24 rfl rfl ?_
        refine e_imul dX12_shown_25 ?_
        refine e_iload_n dX12_shown_26 rfl rfl ?_
        refine e_iadd dX12_shown_27 ?_
        obtain ⟨k5, h9⟩ := chkP hN0 h9
        refine l_1264 dX12_shown_28 (inb_in k5) ?_
        refine e_pc (pc' := 29) rfl ?_
        refine e_goto (tgt := 33) dX12_shown_29 rfl ?_
        exact x_iret dX12_shown_33 rfl (hR0 _ h9)
noncomputable def j_X12_takings_217 (m : VM) (p1 : Int32) (p2 : Int32) (p3 : Int32) (v31 : Int32 × Int32 × VM) (a37 : Int32) : (Int32 × Int32 × VM) ⊕ (Option (Int32 × VM)) := if inb v31.2.1 16 = true then if inb v31.2.1 16 = true then Sum.inl (v31.1 - a37, v31.2.1 + 1, setA v31.2.2 1226 0 (upd (v31.2.2.2.1 1226 0) v31.2.1.toNatClampNeg ((v31.2.2.2.1 1226 0 v31.2.1.toNatClampNeg) + a37))) else Sum.inr none else Sum.inr none
noncomputable def b_X12_takings_152 (m : VM) (p1 : Int32) (p2 : Int32) (p3 : Int32) (r30 : Int32) (v31 : Int32 × Int32 × VM) : (Int32 × Int32 × VM) ⊕ (Option (Int32 × VM)) := if (v31.2.2.1 1202 0) ≤ v31.2.1 then Sum.inr (some (v31.1, setI v31.2.2 1201 0 ((v31.2.2.1 1201 0) + v31.1))) else if ((r30 >>> (v31.2.1 &&& 31)) &&& 1) = 0 then Sum.inl (v31.1, v31.2.1 + 1, v31.2.2) else (f_X12_isUnderOn v31.2.2 v31.2.1 (v31.2.2.1 1200 0)).elim (Sum.inr none) (fun r34 => if r34 = 0 then Sum.inl (v31.1, v31.2.1 + 1, v31.2.2) else (f_X12_countsOn v31.2.2 v31.2.1 3 (v31.2.2.1 1200 0)).elim (Sum.inr none) (fun r36 => if (((p3 - ((p3 * ((setA m 1265 0 (upd (m.2.1 1265 0) (((40 * p1) + p2).toNatClampNeg) 1)).2.1 1262 0 p1.toNatClampNeg)) / 100)) * r36) / 100) ≤ v31.1 then j_X12_takings_217 m p1 p2 p3 v31 (((p3 - ((p3 * ((setA m 1265 0 (upd (m.2.1 1265 0) (((40 * p1) + p2).toNatClampNeg) 1)).2.1 1262 0 p1.toNatClampNeg)) / 100)) * r36) / 100) else j_X12_takings_217 m p1 p2 p3 v31 v31.1))
noncomputable def f_X12_takings (m : VM) (p1 : Int32) (p2 : Int32) (p3 : Int32) : Option (Int32 × VM) := (f_X12_isHall m p1).elim none (fun r1 => if r1 = 0 then (f_X12_no m (-1)).elim none (fun r47p => some (r47p.1, r47p.2)) else if p2 < 0 then (f_X12_no m (-6)).elim none (fun r4p => some (r4p.1, r4p.2)) else if 39 < p2 then (f_X12_no m (-6)).elim none (fun r8p => some (r8p.1, r8p.2)) else if p3 < 0 then (f_X12_no m (-6)).elim none (fun r12p => some (r12p.1, r12p.2)) else if p3 ≤ 99999 then if inb ((40 * p1) + p2) 240 = true then if (m.2.1 1264 0 (((40 * p1) + p2).toNatClampNeg)) = (-1) then (f_X12_no m (-6)).elim none (fun r18p => some (r18p.1, r18p.2)) else if inb ((40 * p1) + p2) 240 = true then if (m.2.1 1265 0 (((40 * p1) + p2).toNatClampNeg)) = 0 then if inb ((40 * p1) + p2) 240 = true then if inb p1 6 = true then if inb p1 6 = true then if inb p1 6 = true then if inb ((40 * p1) + p2) 240 = true then if inb ((40 * p1) + p2) 240 = true then if inb ((setA (setA m 1265 0 (upd (m.2.1 1265 0) (((40 * p1) + p2).toNatClampNeg) 1)) 1263 0 (upd ((setA m 1265 0 (upd (m.2.1 1265 0) (((40 * p1) + p2).toNatClampNeg) 1)).2.1 1263 0) p1.toNatClampNeg (((setA m 1265 0 (upd (m.2.1 1265 0) (((40 * p1) + p2).toNatClampNeg) 1)).2.1 1263 0 p1.toNatClampNeg) + ((p3 * ((setA m 1265 0 (upd (m.2.1 1265 0) (((40 * p1) + p2).toNatClampNeg) 1)).2.1 1262 0 p1.toNatClampNeg)) / 100)))).2.1 1264 0 (((40 * p1) + p2).toNatClampNeg)) 8 = true then (f_X12_inSome (setA (setA m 1265 0 (upd (m.2.1 1265 0) (((40 * p1) + p2).toNatClampNeg) 1)) 1263 0 (upd ((setA m 1265 0 (upd (m.2.1 1265 0) (((40 * p1) + p2).toNatClampNeg) 1)).2.1 1263 0) p1.toNatClampNeg (((setA m 1265 0 (upd (m.2.1 1265 0) (((40 * p1) + p2).toNatClampNeg) 1)).2.1 1263 0 p1.toNatClampNeg) + ((p3 * ((setA m 1265 0 (upd (m.2.1 1265 0) (((40 * p1) + p2).toNatClampNeg) 1)).2.1 1262 0 p1.toNatClampNeg)) / 100)))) ((setA (setA m 1265 0 (upd (m.2.1 1265 0) (((40 * p1) + p2).toNatClampNeg) 1)) 1263 0 (upd ((setA m 1265 0 (upd (m.2.1 1265 0) (((40 * p1) + p2).toNatClampNeg) 1)).2.1 1263 0) p1.toNatClampNeg (((setA m 1265 0 (upd (m.2.1 1265 0) (((40 * p1) + p2).toNatClampNeg) 1)).2.1 1263 0 p1.toNatClampNeg) + ((p3 * ((setA m 1265 0 (upd (m.2.1 1265 0) (((40 * p1) + p2).toNatClampNeg) 1)).2.1 1262 0 p1.toNatClampNeg)) / 100)))).2.1 1264 0 (((40 * p1) + p2).toNatClampNeg)) (((1 : Int32) <<< (((setA (setA m 1265 0 (upd (m.2.1 1265 0) (((40 * p1) + p2).toNatClampNeg) 1)) 1263 0 (upd ((setA m 1265 0 (upd (m.2.1 1265 0) (((40 * p1) + p2).toNatClampNeg) 1)).2.1 1263 0) p1.toNatClampNeg (((setA m 1265 0 (upd (m.2.1 1265 0) (((40 * p1) + p2).toNatClampNeg) 1)).2.1 1263 0 p1.toNatClampNeg) + ((p3 * ((setA m 1265 0 (upd (m.2.1 1265 0) (((40 * p1) + p2).toNatClampNeg) 1)).2.1 1262 0 p1.toNatClampNeg)) / 100)))).2.1 1235 0 (((setA (setA m 1265 0 (upd (m.2.1 1265 0) (((40 * p1) + p2).toNatClampNeg) 1)) 1263 0 (upd ((setA m 1265 0 (upd (m.2.1 1265 0) (((40 * p1) + p2).toNatClampNeg) 1)).2.1 1263 0) p1.toNatClampNeg (((setA m 1265 0 (upd (m.2.1 1265 0) (((40 * p1) + p2).toNatClampNeg) 1)).2.1 1263 0 p1.toNatClampNeg) + ((p3 * ((setA m 1265 0 (upd (m.2.1 1265 0) (((40 * p1) + p2).toNatClampNeg) 1)).2.1 1262 0 p1.toNatClampNeg)) / 100)))).2.1 1264 0 (((40 * p1) + p2).toNatClampNeg)).toNatClampNeg)) &&& 31)) - 1)).elim none (fun r30 => loopF none (b_X12_takings_152 m p1 p2 p3 r30) (p3 - ((p3 * ((setA m 1265 0 (upd (m.2.1 1265 0) (((40 * p1) + p2).toNatClampNeg) 1)).2.1 1262 0 p1.toNatClampNeg)) / 100), 0, setA (setA m 1265 0 (upd (m.2.1 1265 0) (((40 * p1) + p2).toNatClampNeg) 1)) 1263 0 (upd ((setA m 1265 0 (upd (m.2.1 1265 0) (((40 * p1) + p2).toNatClampNeg) 1)).2.1 1263 0) p1.toNatClampNeg (((setA m 1265 0 (upd (m.2.1 1265 0) (((40 * p1) + p2).toNatClampNeg) 1)).2.1 1263 0 p1.toNatClampNeg) + ((p3 * ((setA m 1265 0 (upd (m.2.1 1265 0) (((40 * p1) + p2).toNatClampNeg) 1)).2.1 1262 0 p1.toNatClampNeg)) / 100))))) else none else none else none else none else none else none else none else (f_X12_no m (-6)).elim none (fun r41p => some (r41p.1, r41p.2)) else none else none else (f_X12_no m (-6)).elim none (fun r44p => some (r44p.1, r44p.2)))
theorem c_X12_takings {g : GG} {d : Nat} {ad : AD} {x m : VM} {Q : Option Value → VM → VM → Prop} (p1 : Int32) (p2 : Int32) (p3 : Int32) {r9 : Int32} {w9 : VM} (hf : f_X12_takings m p1 p2 p3 = some (r9, w9)) (hq : Q (some (.int r9)) x w9) : CX g (d + 1) MX12_takings [.ref (ad 12 0), .int p1, .int p2, .int p3] ad x m Q := by
  refine CX.to (Lv := [some (.ref (ad 12 0)), some (.int p1), some (.int p2), some (.int p3), none, none, none, none, none, none, none]) okX12_takings (Nat.le_of_ble_eq_true rfl) rfl ?_
  obtain ⟨Φ0, hΦ⟩ : ∃ Φ : Option (Int32 × VM) → Prop, Φ = fun o => o = some (r9, w9) := ⟨_, rfl⟩
  have hN0 : Φ0 none → False := by rw [hΦ]; intro h; cases h
  have hR0 : ∀ z9 y9, Φ0 (some (z9, y9)) → Q (some (.int z9)) x y9 := by rw [hΦ]; intro z9 y9 h; cases h; exact hq
  have h9 : Φ0 (f_X12_takings m p1 p2 p3) := by rw [hΦ]; exact hf
  clear hf hq hΦ
  unfold f_X12_takings at h9
  refine e_aload_n dX12_takings_0 rfl rfl ?_
  refine e_iload_n dX12_takings_1 rfl rfl ?_
  obtain ⟨r1, hr1, h9⟩ := elimP hN0 h9
  refine x_callVi (c := 12) (As := [.int p1]) (rest := []) okX12_isHall lkX12_369 rfl (by decide) rfl dX12_takings_2 rfl rfl (Nat.le_of_ble_eq_true rfl) rfl (c_X12_isHall p1 hr1 (CI.mk ?_))
  refine e_if_ne (tgt := 14) dX12_takings_5 rfl (fun hc2 => ?_) (fun hc2 => ?_)
  · replace h9 := ifF hc2 h9
    refine e_iload_n dX12_takings_14 rfl rfl ?_
    refine e_if_lt (tgt := 35) dX12_takings_15 rfl (fun hc3 => ?_) (fun hc3 => ?_)
    · replace h9 := ifT hc3 h9
      refine e_aload_n dX12_takings_35 rfl rfl ?_
      refine e_bipush (v := (-6)) dX12_takings_36 rfl ?_
      obtain ⟨⟨r4, w5⟩, hr4, h9⟩ := elimP hN0 h9
      refine x_callVi (c := 12) (As := [.int (-6)]) (rest := []) okX12_no lkX12_263 rfl (by decide) rfl dX12_takings_38 rfl rfl (Nat.le_of_ble_eq_true rfl) rfl (c_X12_no (-6) hr4 (CI.mk ?_))
      exact x_iret dX12_takings_41 rfl (hR0 _ _ h9)
    · replace h9 := ifF hc3 h9
      refine e_iload_n dX12_takings_18 rfl rfl ?_
      refine e_bipush (v := 39) dX12_takings_19 rfl ?_
      refine e_icmp_gt (tgt := 35) dX12_takings_21 rfl (fun hc7 => ?_) (fun hc7 => ?_)
      · replace h9 := ifT hc7 h9
        refine e_aload_n dX12_takings_35 rfl rfl ?_
        refine e_bipush (v := (-6)) dX12_takings_36 rfl ?_
        obtain ⟨⟨r8, w9⟩, hr8, h9⟩ := elimP hN0 h9
        refine x_callVi (c := 12) (As := [.int (-6)]) (rest := []) okX12_no lkX12_263 rfl (by decide) rfl dX12_takings_38 rfl rfl (Nat.le_of_ble_eq_true rfl) rfl (c_X12_no (-6) hr8 (CI.mk ?_))
        exact x_iret dX12_takings_41 rfl (hR0 _ _ h9)
      · replace h9 := ifF hc7 h9
        refine e_iload_n dX12_takings_24 rfl rfl ?_
        refine e_if_lt (tgt := 35) dX12_takings_25 rfl (fun hc11 => ?_) (fun hc11 => ?_)
        · replace h9 := ifT hc11 h9
          refine e_aload_n dX12_takings_35 rfl rfl ?_
          refine e_bipush (v := (-6)) dX12_takings_36 rfl ?_
          obtain ⟨⟨r12, w13⟩, hr12, h9⟩ := elimP hN0 h9
          refine x_callVi (c := 12) (As := [.int (-6)]) (rest := []) okX12_no lkX12_263 rfl (by decide) rfl dX12_takings_38 rfl rfl (Nat.le_of_ble_eq_true rfl) rfl (c_X12_no (-6) hr12 (CI.mk ?_))
          exact x_iret dX12_takings_41 rfl (hR0 _ _ h9)
        · replace h9 := ifF hc11 h9
          refine e_iload_n dX12_takings_28 rfl rfl ?_
          refine e_ldcw (v := 99999) rfl kcX12_308 dX12_takings_29 ?_
          refine e_icmp_le (tgt := 42) dX12_takings_32 rfl (fun hc15 => ?_) (fun hc15 => ?_)
          · replace h9 := ifT hc15 h9
            refine e_bipush (v := 40) dX12_takings_42 rfl ?_
            refine e_iload_n dX12_takings_44 rfl rfl ?_
            refine e_imul dX12_takings_45 ?_
            refine e_iload_n dX12_takings_46 rfl rfl ?_
            refine e_iadd dX12_takings_47 ?_
            refine e_istore (L' := [some (.ref (ad 12 0)), some (.int p1), some (.int p2), some (.int p3), some (.int ((40 * p1) + p2)), none, none, none, none, none, none]) dX12_takings_48 (by decide) rfl ?_
            refine e_aload_n dX12_takings_50 rfl rfl ?_
            refine g_1264 flX12_178 dX12_takings_51 ?_
            refine e_pc (pc' := 54) rfl ?_
            refine e_iload dX12_takings_54 rfl ?_
            obtain ⟨k16, h9⟩ := chkP hN0 h9
            refine l_1264 dX12_takings_56 (inb_in k16) ?_
            refine e_iconst (v := (-1)) dX12_takings_57 rfl ?_
            refine e_icmp_eq (tgt := 71) dX12_takings_58 rfl (fun hc17 => ?_) (fun hc17 => ?_)
            · replace h9 := ifT hc17 h9
              refine e_aload_n dX12_takings_71 rfl rfl ?_
              refine e_bipush (v := (-6)) dX12_takings_72 rfl ?_
              obtain ⟨⟨r18, w19⟩, hr18, h9⟩ := elimP hN0 h9
              refine x_callVi (c := 12) (As := [.int (-6)]) (rest := []) okX12_no lkX12_263 rfl (by decide) rfl dX12_takings_74 rfl rfl (Nat.le_of_ble_eq_true rfl) rfl (c_X12_no (-6) hr18 (CI.mk ?_))
              exact x_iret dX12_takings_77 rfl (hR0 _ _ h9)
            · replace h9 := ifF hc17 h9
              refine e_aload_n dX12_takings_61 rfl rfl ?_
              refine g_1265 flX12_181 dX12_takings_62 ?_
              refine e_iload dX12_takings_65 rfl ?_
              obtain ⟨k21, h9⟩ := chkP hN0 h9
              refine l_1265 dX12_takings_67 (inb_in k21) ?_
              refine e_if_eq (tgt := 78) dX12_takings_68 rfl (fun hc22 => ?_) (fun hc22 => ?_)
              · replace h9 := ifT hc22 h9
                refine e_aload_n dX12_takings_78 rfl rfl ?_
                refine g_1265 flX12_181 dX12_takings_79 ?_
                refine e_iload dX12_takings_82 rfl ?_
                refine e_iconst (v := 1) dX12_takings_84 rfl ?_
                obtain ⟨k23, h9⟩ := chkP hN0 h9
                refine s_1265 dX12_takings_85 (inb_in k23) (by decide) ?_
                refine e_iload_n dX12_takings_86 rfl rfl ?_
                refine e_aload_n dX12_takings_87 rfl rfl ?_
                refine g_1262 flX12_172 dX12_takings_88 ?_
                refine e_pc (pc' := 91) rfl ?_
                refine e_iload_n dX12_takings_91 rfl rfl ?_
                obtain ⟨k24, h9⟩ := chkP hN0 h9
                refine l_1262 dX12_takings_92 (inb_in k24) ?_
                refine e_imul dX12_takings_93 ?_
                refine e_bipush (v := 100) dX12_takings_94 rfl ?_
                refine e_idiv dX12_takings_96 (by decide) ?_
                refine e_istore (L' := [some (.ref (ad 12 0)), some (.int p1), some (.int p2), some (.int p3), some (.int ((40 * p1) + p2)), some (.int ((p3 * ((setA m 1265 0 (upd (m.2.1 1265 0) (((40 * p1) + p2).toNatClampNeg) 1)).2.1 1262 0 p1.toNatClampNeg)) / 100)), none, none, none, none, none]) dX12_takings_97 (by decide) rfl ?_
                refine e_aload_n dX12_takings_99 rfl rfl ?_
                refine g_1263 flX12_175 dX12_takings_100 ?_
                refine e_iload_n dX12_takings_103 rfl rfl ?_
                refine e_pc (pc' := 104) rfl ?_
                refine e_dup2_11 dX12_takings_104 rfl rfl ?_
                obtain ⟨k25, h9⟩ := chkP hN0 h9
                refine l_1263 dX12_takings_105 (inb_in k25) ?_
                refine e_iload dX12_takings_106 rfl ?_
                refine e_iadd dX12_takings_108 ?_
                obtain ⟨k26, h9⟩ := chkP hN0 h9
                refine s_1263 dX12_takings_109 (inb_in k26) ?_
                refine e_iload_n dX12_takings_110 rfl rfl ?_
                refine e_iload dX12_takings_111 rfl ?_
                refine e_isub dX12_takings_113 ?_
                refine e_istore (L' := [some (.ref (ad 12 0)), some (.int p1), some (.int p2), some (.int p3), some (.int ((40 * p1) + p2)), some (.int ((p3 * ((setA m 1265 0 (upd (m.2.1 1265 0) (((40 * p1) + p2).toNatClampNeg) 1)).2.1 1262 0 p1.toNatClampNeg)) / 100)), some (.int (p3 - ((p3 * ((setA m 1265 0 (upd (m.2.1 1265 0) (((40 * p1) + p2).toNatClampNeg) 1)).2.1 1262 0 p1.toNatClampNeg)) / 100))), none, none, none, none]) dX12_takings_114 (by decide) rfl ?_
                refine e_pc (pc' := 116) rfl ?_
                refine e_iload dX12_takings_116 rfl ?_
                refine e_istore (L' := [some (.ref (ad 12 0)), some (.int p1), some (.int p2), some (.int p3), some (.int ((40 * p1) + p2)), some (.int ((p3 * ((setA m 1265 0 (upd (m.2.1 1265 0) (((40 * p1) + p2).toNatClampNeg) 1)).2.1 1262 0 p1.toNatClampNeg)) / 100)), some (.int (p3 - ((p3 * ((setA m 1265 0 (upd (m.2.1 1265 0) (((40 * p1) + p2).toNatClampNeg) 1)).2.1 1262 0 p1.toNatClampNeg)) / 100))), some (.int (p3 - ((p3 * ((setA m 1265 0 (upd (m.2.1 1265 0) (((40 * p1) + p2).toNatClampNeg) 1)).2.1 1262 0 p1.toNatClampNeg)) / 100))), none, none, none]) dX12_takings_118 (by decide) rfl ?_
                refine e_aload_n dX12_takings_120 rfl rfl ?_
                refine e_aload_n dX12_takings_121 rfl rfl ?_
                refine g_1264 flX12_178 dX12_takings_122 ?_
                refine e_iload dX12_takings_125 rfl ?_
                obtain ⟨k27, h9⟩ := chkP hN0 h9
                refine l_1264 dX12_takings_127 (inb_in k27) ?_
                refine e_iconst (v := 1) dX12_takings_128 rfl ?_
                refine e_aload_n dX12_takings_129 rfl rfl ?_
                refine e_pc (pc' := 130) rfl ?_
                refine g_1235 flX12_91 dX12_takings_130 ?_
                refine e_aload_n dX12_takings_133 rfl rfl ?_
                refine g_1264 flX12_178 dX12_takings_134 ?_
                refine e_iload dX12_takings_137 rfl ?_
                obtain ⟨k28, h9⟩ := chkP hN0 h9
                refine l_1264 dX12_takings_139 (inb_in k28) ?_
                obtain ⟨k29, h9⟩ := chkP hN0 h9
                refine l_1235 dX12_takings_140 (inb_in k29) ?_
                refine e_ishl dX12_takings_141 ?_
                refine e_iconst (v := 1) dX12_takings_142 rfl ?_
                refine e_isub dX12_takings_143 ?_
                refine e_pc (pc' := 144) rfl ?_
                obtain ⟨r30, hr30, h9⟩ := elimP hN0 h9
                refine x_callVi (c := 12) (As := [.int ((setA (setA m 1265 0 (upd (m.2.1 1265 0) (((40 * p1) + p2).toNatClampNeg) 1)) 1263 0 (upd ((setA m 1265 0 (upd (m.2.1 1265 0) (((40 * p1) + p2).toNatClampNeg) 1)).2.1 1263 0) p1.toNatClampNeg (((setA m 1265 0 (upd (m.2.1 1265 0) (((40 * p1) + p2).toNatClampNeg) 1)).2.1 1263 0 p1.toNatClampNeg) + ((p3 * ((setA m 1265 0 (upd (m.2.1 1265 0) (((40 * p1) + p2).toNatClampNeg) 1)).2.1 1262 0 p1.toNatClampNeg)) / 100)))).2.1 1264 0 (((40 * p1) + p2).toNatClampNeg)), .int (((1 : Int32) <<< (((setA (setA m 1265 0 (upd (m.2.1 1265 0) (((40 * p1) + p2).toNatClampNeg) 1)) 1263 0 (upd ((setA m 1265 0 (upd (m.2.1 1265 0) (((40 * p1) + p2).toNatClampNeg) 1)).2.1 1263 0) p1.toNatClampNeg (((setA m 1265 0 (upd (m.2.1 1265 0) (((40 * p1) + p2).toNatClampNeg) 1)).2.1 1263 0 p1.toNatClampNeg) + ((p3 * ((setA m 1265 0 (upd (m.2.1 1265 0) (((40 * p1) + p2).toNatClampNeg) 1)).2.1 1262 0 p1.toNatClampNeg)) / 100)))).2.1 1235 0 (((setA (setA m 1265 0 (upd (m.2.1 1265 0) (((40 * p1) + p2).toNatClampNeg) 1)) 1263 0 (upd ((setA m 1265 0 (upd (m.2.1 1265 0) (((40 * p1) + p2).toNatClampNeg) 1)).2.1 1263 0) p1.toNatClampNeg (((setA m 1265 0 (upd (m.2.1 1265 0) (((40 * p1) + p2).toNatClampNeg) 1)).2.1 1263 0 p1.toNatClampNeg) + ((p3 * ((setA m 1265 0 (upd (m.2.1 1265 0) (((40 * p1) + p2).toNatClampNeg) 1)).2.1 1262 0 p1.toNatClampNeg)) / 100)))).2.1 1264 0 (((40 * p1) + p2).toNatClampNeg)).toNatClampNeg)) &&& 31)) - 1)]) (rest := []) okX12_inSome lkX12_321 rfl (by decide) rfl dX12_takings_144 rfl rfl (Nat.le_of_ble_eq_true rfl) rfl (c_X12_inSome ((setA (setA m 1265 0 (upd (m.2.1 1265 0) (((40 * p1) + p2).toNatClampNeg) 1)) 1263 0 (upd ((setA m 1265 0 (upd (m.2.1 1265 0) (((40 * p1) + p2).toNatClampNeg) 1)).2.1 1263 0) p1.toNatClampNeg (((setA m 1265 0 (upd (m.2.1 1265 0) (((40 * p1) + p2).toNatClampNeg) 1)).2.1 1263 0 p1.toNatClampNeg) + ((p3 * ((setA m 1265 0 (upd (m.2.1 1265 0) (((40 * p1) + p2).toNatClampNeg) 1)).2.1 1262 0 p1.toNatClampNeg)) / 100)))).2.1 1264 0 (((40 * p1) + p2).toNatClampNeg)) (((1 : Int32) <<< (((setA (setA m 1265 0 (upd (m.2.1 1265 0) (((40 * p1) + p2).toNatClampNeg) 1)) 1263 0 (upd ((setA m 1265 0 (upd (m.2.1 1265 0) (((40 * p1) + p2).toNatClampNeg) 1)).2.1 1263 0) p1.toNatClampNeg (((setA m 1265 0 (upd (m.2.1 1265 0) (((40 * p1) + p2).toNatClampNeg) 1)).2.1 1263 0 p1.toNatClampNeg) + ((p3 * ((setA m 1265 0 (upd (m.2.1 1265 0) (((40 * p1) + p2).toNatClampNeg) 1)).2.1 1262 0 p1.toNatClampNeg)) / 100)))).2.1 1235 0 (((setA (setA m 1265 0 (upd (m.2.1 1265 0) (((40 * p1) + p2).toNatClampNeg) 1)) 1263 0 (upd ((setA m 1265 0 (upd (m.2.1 1265 0) (((40 * p1) + p2).toNatClampNeg) 1)).2.1 1263 0) p1.toNatClampNeg (((setA m 1265 0 (upd (m.2.1 1265 0) (((40 * p1) + p2).toNatClampNeg) 1)).2.1 1263 0 p1.toNatClampNeg) + ((p3 * ((setA m 1265 0 (upd (m.2.1 1265 0) (((40 * p1) + p2).toNatClampNeg) 1)).2.1 1262 0 p1.toNatClampNeg)) / 100)))).2.1 1264 0 (((40 * p1) + p2).toNatClampNeg)).toNatClampNeg)) &&& 31)) - 1) hr30 (CI.mk ?_))
                refine e_istore (L' := [some (.ref (ad 12 0)), some (.int p1), some (.int p2), some (.int p3), some (.int ((40 * p1) + p2)), some (.int ((p3 * ((setA m 1265 0 (upd (m.2.1 1265 0) (((40 * p1) + p2).toNatClampNeg) 1)).2.1 1262 0 p1.toNatClampNeg)) / 100)), some (.int (p3 - ((p3 * ((setA m 1265 0 (upd (m.2.1 1265 0) (((40 * p1) + p2).toNatClampNeg) 1)).2.1 1262 0 p1.toNatClampNeg)) / 100))), some (.int (p3 - ((p3 * ((setA m 1265 0 (upd (m.2.1 1265 0) (((40 * p1) + p2).toNatClampNeg) 1)).2.1 1262 0 p1.toNatClampNeg)) / 100))), some (.int r30), none, none]) dX12_takings_147 (by decide) rfl ?_
                refine e_iconst (v := 0) dX12_takings_149 rfl ?_
                refine e_istore (L' := [some (.ref (ad 12 0)), some (.int p1), some (.int p2), some (.int p3), some (.int ((40 * p1) + p2)), some (.int ((p3 * ((setA m 1265 0 (upd (m.2.1 1265 0) (((40 * p1) + p2).toNatClampNeg) 1)).2.1 1262 0 p1.toNatClampNeg)) / 100)), some (.int (p3 - ((p3 * ((setA m 1265 0 (upd (m.2.1 1265 0) (((40 * p1) + p2).toNatClampNeg) 1)).2.1 1262 0 p1.toNatClampNeg)) / 100))), some (.int (p3 - ((p3 * ((setA m 1265 0 (upd (m.2.1 1265 0) (((40 * p1) + p2).toNatClampNeg) 1)).2.1 1262 0 p1.toNatClampNeg)) / 100))), some (.int r30), some (.int 0), none]) dX12_takings_150 (by decide) rfl ?_
                refine e_wk (L' := [some (.ref (ad 12 0)), none, none, none, none, none, some (.int (p3 - ((p3 * ((setA m 1265 0 (upd (m.2.1 1265 0) (((40 * p1) + p2).toNatClampNeg) 1)).2.1 1262 0 p1.toNatClampNeg)) / 100))), some (.int (p3 - ((p3 * ((setA m 1265 0 (upd (m.2.1 1265 0) (((40 * p1) + p2).toNatClampNeg) 1)).2.1 1262 0 p1.toNatClampNeg)) / 100))), some (.int r30), some (.int 0), none]) (wkC (wkN (wkN (wkN (wkN (wkN (wkC (wkC (wkC (wkC (wkN wk0))))))))))) ?_
                refine loop_gen (b_X12_takings_152 m p1 p2 p3 r30) none (fun v31 => EX g (d + 1) MX12_takings ad x v31.2.2 152 [some (.ref (ad 12 0)), none, none, none, none, none, some (.int v31.1), some (.int (p3 - ((p3 * ((setA m 1265 0 (upd (m.2.1 1265 0) (((40 * p1) + p2).toNatClampNeg) 1)).2.1 1262 0 p1.toNatClampNeg)) / 100))), some (.int r30), some (.int v31.2.1), none] [] Q) Φ0 hN0 (fun v31 Φ1 hB0_1 hO1 h9 => ?_) (p3 - ((p3 * ((setA m 1265 0 (upd (m.2.1 1265 0) (((40 * p1) + p2).toNatClampNeg) 1)).2.1 1262 0 p1.toNatClampNeg)) / 100), 0, setA (setA m 1265 0 (upd (m.2.1 1265 0) (((40 * p1) + p2).toNatClampNeg) 1)) 1263 0 (upd ((setA m 1265 0 (upd (m.2.1 1265 0) (((40 * p1) + p2).toNatClampNeg) 1)).2.1 1263 0) p1.toNatClampNeg (((setA m 1265 0 (upd (m.2.1 1265 0) (((40 * p1) + p2).toNatClampNeg) 1)).2.1 1263 0 p1.toNatClampNeg) + ((p3 * ((setA m 1265 0 (upd (m.2.1 1265 0) (((40 * p1) + p2).toNatClampNeg) 1)).2.1 1262 0 p1.toNatClampNeg)) / 100)))) h9
                have hN1 := fun h => hN0 (hO1 _ h)
                have hR1 := fun r9 x9 h => hR0 r9 x9 (hO1 _ h)
                have hB0_1 : ∀ (z0 : Int32) (z1 : Int32) (z2 : VM), Φ1 (Sum.inl (z0, z1, z2)) → EX g (d + 1) MX12_takings ad x z2 152 [some (.ref (ad 12 0)), none, none, none, none, none, some (.int z0), some (.int (p3 - ((p3 * ((setA m 1265 0 (upd (m.2.1 1265 0) (((40 * p1) + p2).toNatClampNeg) 1)).2.1 1262 0 p1.toNatClampNeg)) / 100))), some (.int r30), some (.int z1), none] [] Q := fun z0 z1 z2 h => hB0_1 (z0, z1, z2) h
                unfold b_X12_takings_152 at h9
                refine e_iload dX12_takings_152 rfl ?_
                refine e_aload_n dX12_takings_154 rfl rfl ?_
                refine g_1202 flX12_247 dX12_takings_155 ?_
                refine e_icmp_ge (tgt := 242) dX12_takings_158 rfl (fun hc32 => ?_) (fun hc32 => ?_)
                · replace h9 := ifT hc32 h9
                  refine e_aload_n dX12_takings_242 rfl rfl ?_
                  refine e_dup dX12_takings_243 rfl ?_
                  refine g_1201 flX12_309 dX12_takings_244 ?_
                  refine e_iload dX12_takings_247 rfl ?_
                  refine e_iadd dX12_takings_249 ?_
                  refine p_1201 flX12_309 dX12_takings_250 ?_
                  refine e_iload dX12_takings_253 rfl ?_
                  exact x_iret dX12_takings_255 rfl (hR1 _ _ h9)
                · replace h9 := ifF hc32 h9
                  refine e_iload dX12_takings_161 rfl ?_
                  refine e_iload dX12_takings_163 rfl ?_
                  refine e_ishr dX12_takings_165 ?_
                  refine e_iconst (v := 1) dX12_takings_166 rfl ?_
                  refine e_iand dX12_takings_167 ?_
                  refine e_if_eq (tgt := 236) dX12_takings_168 rfl (fun hc33 => ?_) (fun hc33 => ?_)
                  · replace h9 := ifT hc33 h9
                    refine e_iinc (v := (v31.2.1 + 1)) (L' := [some (.ref (ad 12 0)), none, none, none, none, none, some (.int v31.1), some (.int (p3 - ((p3 * ((setA m 1265 0 (upd (m.2.1 1265 0) (((40 * p1) + p2).toNatClampNeg) 1)).2.1 1262 0 p1.toNatClampNeg)) / 100))), some (.int r30), some (.int (v31.2.1 + 1)), none]) dX12_takings_236 rfl rfl (by decide) rfl ?_
                    refine e_goto (tgt := 152) dX12_takings_239 rfl ?_
                    exact hB0_1 _ _ _ h9
                  · replace h9 := ifF hc33 h9
                    refine e_aload_n dX12_takings_171 rfl rfl ?_
                    refine e_iload dX12_takings_172 rfl ?_
                    refine e_aload_n dX12_takings_174 rfl rfl ?_
                    refine g_1200 flX12_286 dX12_takings_175 ?_
                    obtain ⟨r34, hr34, h9⟩ := elimP hN1 h9
                    refine x_callVi (c := 12) (As := [.int v31.2.1, .int (v31.2.2.1 1200 0)]) (rest := []) okX12_isUnderOn lkX12_289 rfl (by decide) rfl dX12_takings_178 rfl rfl (Nat.le_of_ble_eq_true rfl) rfl (c_X12_isUnderOn v31.2.1 (v31.2.2.1 1200 0) hr34 (CI.mk ?_))
                    refine e_if_ne (tgt := 187) dX12_takings_181 rfl (fun hc35 => ?_) (fun hc35 => ?_)
                    · replace h9 := ifF hc35 h9
                      refine e_iload dX12_takings_187 rfl ?_
                      refine e_aload_n dX12_takings_189 rfl rfl ?_
                      refine e_iload dX12_takings_190 rfl ?_
                      refine e_iconst (v := 3) dX12_takings_192 rfl ?_
                      refine e_aload_n dX12_takings_193 rfl rfl ?_
                      refine g_1200 flX12_286 dX12_takings_194 ?_
                      obtain ⟨r36, hr36, h9⟩ := elimP hN1 h9
                      refine x_callVi (c := 12) (As := [.int v31.2.1, .int 3, .int (v31.2.2.1 1200 0)]) (rest := [.int (p3 - ((p3 * ((setA m 1265 0 (upd (m.2.1 1265 0) (((40 * p1) + p2).toNatClampNeg) 1)).2.1 1262 0 p1.toNatClampNeg)) / 100))]) okX12_countsOn lkX12_295 rfl (by decide) rfl dX12_takings_197 rfl rfl (Nat.le_of_ble_eq_true rfl) rfl (c_X12_countsOn v31.2.1 3 (v31.2.2.1 1200 0) hr36 (CI.mk ?_))
                      refine e_imul dX12_takings_200 ?_
                      refine e_pc (pc' := 201) rfl ?_
                      refine e_bipush (v := 100) dX12_takings_201 rfl ?_
                      refine e_idiv dX12_takings_203 (by decide) ?_
                      refine e_istore (L' := [some (.ref (ad 12 0)), none, none, none, none, none, some (.int v31.1), some (.int (p3 - ((p3 * ((setA m 1265 0 (upd (m.2.1 1265 0) (((40 * p1) + p2).toNatClampNeg) 1)).2.1 1262 0 p1.toNatClampNeg)) / 100))), some (.int r30), some (.int v31.2.1), some (.int (((p3 - ((p3 * ((setA m 1265 0 (upd (m.2.1 1265 0) (((40 * p1) + p2).toNatClampNeg) 1)).2.1 1262 0 p1.toNatClampNeg)) / 100)) * r36) / 100))]) dX12_takings_204 (by decide) rfl ?_
                      refine e_iload dX12_takings_206 rfl ?_
                      refine e_iload dX12_takings_208 rfl ?_
                      have hj217 : ∀ (a37 : Int32), Φ1 (j_X12_takings_217 m p1 p2 p3 v31 a37) → EX g (d + 1) MX12_takings ad x v31.2.2 217 [some (.ref (ad 12 0)), none, none, none, none, none, some (.int v31.1), some (.int (p3 - ((p3 * ((setA m 1265 0 (upd (m.2.1 1265 0) (((40 * p1) + p2).toNatClampNeg) 1)).2.1 1262 0 p1.toNatClampNeg)) / 100))), some (.int r30), some (.int v31.2.1), some (.int a37)] [] Q := by
                        intro a37 h9
                        unfold j_X12_takings_217 at h9
                        refine e_aload_n dX12_takings_217 rfl rfl ?_
                        refine g_1226 flX12_63 dX12_takings_218 ?_
                        refine e_iload dX12_takings_221 rfl ?_
                        refine e_dup2_11 dX12_takings_223 rfl rfl ?_
                        obtain ⟨k38, h9⟩ := chkP hN1 h9
                        refine l_1226 dX12_takings_224 (inb_in k38) ?_
                        refine e_iload dX12_takings_225 rfl ?_
                        refine e_iadd dX12_takings_227 ?_
                        obtain ⟨k39, h9⟩ := chkP hN1 h9
                        refine s_1226 dX12_takings_228 (inb_in k39) ?_
                        refine e_pc (pc' := 229) rfl ?_
                        refine e_iload dX12_takings_229 rfl ?_
                        refine e_iload dX12_takings_231 rfl ?_
                        refine e_isub dX12_takings_233 ?_
                        refine e_istore (L' := [some (.ref (ad 12 0)), none, none, none, none, none, some (.int (v31.1 - a37)), some (.int (p3 - ((p3 * ((setA m 1265 0 (upd (m.2.1 1265 0) (((40 * p1) + p2).toNatClampNeg) 1)).2.1 1262 0 p1.toNatClampNeg)) / 100))), some (.int r30), some (.int v31.2.1), some (.int a37)]) dX12_takings_234 (by decide) rfl ?_
                        refine e_iinc (v := (v31.2.1 + 1)) (L' := [some (.ref (ad 12 0)), none, none, none, none, none, some (.int (v31.1 - a37)), some (.int (p3 - ((p3 * ((setA m 1265 0 (upd (m.2.1 1265 0) (((40 * p1) + p2).toNatClampNeg) 1)).2.1 1262 0 p1.toNatClampNeg)) / 100))), some (.int r30), some (.int (v31.2.1 + 1)), some (.int a37)]) dX12_takings_236 rfl rfl (by decide) rfl ?_
                        refine e_goto (tgt := 152) dX12_takings_239 rfl ?_
                        refine e_wk (L' := [some (.ref (ad 12 0)), none, none, none, none, none, some (.int (v31.1 - a37)), some (.int (p3 - ((p3 * ((setA m 1265 0 (upd (m.2.1 1265 0) (((40 * p1) + p2).toNatClampNeg) 1)).2.1 1262 0 p1.toNatClampNeg)) / 100))), some (.int r30), some (.int (v31.2.1 + 1)), none]) (wkC (wkN (wkN (wkN (wkN (wkN (wkC (wkC (wkC (wkC (wkN wk0))))))))))) ?_
                        exact hB0_1 _ _ _ h9
                      refine e_icmp_le (tgt := 217) dX12_takings_210 rfl (fun hc40 => ?_) (fun hc40 => ?_)
                      · replace h9 := ifT hc40 h9
                        exact hj217 (((p3 - ((p3 * ((setA m 1265 0 (upd (m.2.1 1265 0) (((40 * p1) + p2).toNatClampNeg) 1)).2.1 1262 0 p1.toNatClampNeg)) / 100)) * r36) / 100) h9
                      · replace h9 := ifF hc40 h9
                        refine e_iload dX12_takings_213 rfl ?_
                        refine e_istore (L' := [some (.ref (ad 12 0)), none, none, none, none, none, some (.int v31.1), some (.int (p3 - ((p3 * ((setA m 1265 0 (upd (m.2.1 1265 0) (((40 * p1) + p2).toNatClampNeg) 1)).2.1 1262 0 p1.toNatClampNeg)) / 100))), some (.int r30), some (.int v31.2.1), some (.int v31.1)]) dX12_takings_215 (by decide) rfl ?_
                        exact hj217 v31.1 h9
                    · replace h9 := ifT hc35 h9
                      refine e_goto (tgt := 236) dX12_takings_184 rfl ?_
                      refine e_iinc (v := (v31.2.1 + 1)) (L' := [some (.ref (ad 12 0)), none, none, none, none, none, some (.int v31.1), some (.int (p3 - ((p3 * ((setA m 1265 0 (upd (m.2.1 1265 0) (((40 * p1) + p2).toNatClampNeg) 1)).2.1 1262 0 p1.toNatClampNeg)) / 100))), some (.int r30), some (.int (v31.2.1 + 1)), none]) dX12_takings_236 rfl rfl (by decide) rfl ?_
                      refine e_goto (tgt := 152) dX12_takings_239 rfl ?_
                      exact hB0_1 _ _ _ h9
              · replace h9 := ifF hc22 h9
                refine e_aload_n dX12_takings_71 rfl rfl ?_
                refine e_bipush (v := (-6)) dX12_takings_72 rfl ?_
                obtain ⟨⟨r41, w42⟩, hr41, h9⟩ := elimP hN0 h9
                refine x_callVi (c := 12) (As := [.int (-6)]) (rest := []) okX12_no lkX12_263 rfl (by decide) rfl dX12_takings_74 rfl rfl (Nat.le_of_ble_eq_true rfl) rfl (c_X12_no (-6) hr41 (CI.mk ?_))
                exact x_iret dX12_takings_77 rfl (hR0 _ _ h9)
          · replace h9 := ifF hc15 h9
            refine e_aload_n dX12_takings_35 rfl rfl ?_
            refine e_bipush (v := (-6)) dX12_takings_36 rfl ?_
            obtain ⟨⟨r44, w45⟩, hr44, h9⟩ := elimP hN0 h9
            refine x_callVi (c := 12) (As := [.int (-6)]) (rest := []) okX12_no lkX12_263 rfl (by decide) rfl dX12_takings_38 rfl rfl (Nat.le_of_ble_eq_true rfl) rfl (c_X12_no (-6) hr44 (CI.mk ?_))
            exact x_iret dX12_takings_41 rfl (hR0 _ _ h9)
  · replace h9 := ifT hc2 h9
    refine e_aload_n dX12_takings_8 rfl rfl ?_
    refine e_iconst (v := (-1)) dX12_takings_9 rfl ?_
    obtain ⟨⟨r47, w48⟩, hr47, h9⟩ := elimP hN0 h9
    refine x_callVi (c := 12) (As := [.int (-1)]) (rest := []) okX12_no lkX12_263 rfl (by decide) rfl dX12_takings_10 rfl rfl (Nat.le_of_ble_eq_true rfl) rfl (c_X12_no (-1) hr47 (CI.mk ?_))
    exact x_iret dX12_takings_13 rfl (hR0 _ _ h9)
