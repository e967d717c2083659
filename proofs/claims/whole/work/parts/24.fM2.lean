noncomputable def b_X12_inSome_5 (m : VM) (p1 : Int32) (p2 : Int32) (v1 : Int32 × Int32) : (Int32 × Int32) ⊕ (Option (Int32)) := if inb p1 8 = true then if (m.2.1 1235 0 p1.toNatClampNeg) ≤ v1.2 then Sum.inr (some v1.1) else if ((p2 >>> (v1.2 &&& 31)) &&& 1) = 1 then if inb ((8 * p1) + v1.2) 64 = true then Sum.inl (v1.1 ||| (m.2.1 1237 0 (((8 * p1) + v1.2).toNatClampNeg)), v1.2 + 1) else Sum.inr none else Sum.inl (v1.1, v1.2 + 1) else Sum.inr none
noncomputable def f_X12_inSome (m : VM) (p1 : Int32) (p2 : Int32) : Option (Int32) := loopF none (b_X12_inSome_5 m p1 p2) (0, 0)
theorem c_X12_inSome {g : GG} {d : Nat} {ad : AD} {x m : VM} {Q : Option Value → VM → VM → Prop} (p1 : Int32) (p2 : Int32) {r9 : Int32} (hf : f_X12_inSome m p1 p2 = some r9) (hq : Q (some (.int r9)) x m) : CX g d MX12_inSome [.ref (ad 12 0), .int p1, .int p2] ad x m Q := by
  refine CX.to (Lv := [some (.ref (ad 12 0)), some (.int p1), some (.int p2), none, none]) okX12_inSome (Nat.le_of_ble_eq_true rfl) rfl ?_
  obtain ⟨Φ0, hΦ⟩ : ∃ Φ : Option (Int32) → Prop, Φ = fun o => o = some r9 := ⟨_, rfl⟩
  have hN0 : Φ0 none → False := by rw [hΦ]; intro h; cases h
  have hR0 : ∀ z9, Φ0 (some z9) → Q (some (.int z9)) x m := by rw [hΦ]; intro z9 h; cases h; exact hq
  have h9 : Φ0 (f_X12_inSome m p1 p2) := by rw [hΦ]; exact hf
  clear hf hq hΦ
  unfold f_X12_inSome at h9
  refine e_iconst (v := 0) dX12_inSome_0 rfl ?_
  refine e_istore_n (L' := [some (.ref (ad 12 0)), some (.int p1), some (.int p2), some (.int 0), none]) dX12_inSome_1 rfl (by decide) rfl ?_
  refine e_iconst (v := 0) dX12_inSome_2 rfl ?_
  refine e_istore (L' := [some (.ref (ad 12 0)), some (.int p1), some (.int p2), some (.int 0), some (.int 0)]) dX12_inSome_3 (by decide) rfl ?_
  refine loop_gen (b_X12_inSome_5 m p1 p2) none (fun v1 => EX g d MX12_inSome ad x m 5 [some (.ref (ad 12 0)), some (.int p1), some (.int p2), some (.int v1.1), some (.int v1.2)] [] Q) Φ0 hN0 (fun v1 Φ1 hB0_1 hO1 h9 => ?_) (0, 0) h9
  have hN1 := fun h => hN0 (hO1 _ h)
  have hR1 := fun r9 h => hR0 r9 (hO1 _ h)
  have hB0_1 : ∀ (z0 : Int32) (z1 : Int32), Φ1 (Sum.inl (z0, z1)) → EX g d MX12_inSome ad x m 5 [some (.ref (ad 12 0)), some (.int p1), some (.int p2), some (.int z0), some (.int z1)] [] Q := fun z0 z1 h => hB0_1 (z0, z1) h
  unfold b_X12_inSome_5 at h9
  refine e_iload dX12_inSome_5 rfl ?_
  refine e_aload_n dX12_inSome_7 rfl rfl ?_
  refine g_1235 flX12_91 dX12_inSome_8 ?_
  refine e_iload_n dX12_inSome_11 rfl rfl ?_
  obtain ⟨k2, h9⟩ := chkP hN1 h9
  refine l_1235 dX12_inSome_12 (inb_in k2) ?_
  refine e_icmp_ge (tgt := 47) dX12_inSome_13 rfl (fun hc3 => ?_) (fun hc3 => ?_)
  · replace h9 := ifT hc3 h9
    refine e_iload_n dX12_inSome_47 rfl rfl ?_
    exact x_iret dX12_inSome_48 rfl (hR1 _ h9)
  · replace h9 := ifF hc3 h9
    refine e_iload_n dX12_inSome_16 rfl rfl ?_
    refine e_iload dX12_inSome_17 rfl ?_
    refine e_ishr dX12_inSome_19 ?_
    refine e_iconst (v := 1) dX12_inSome_20 rfl ?_
    refine e_iand dX12_inSome_21 ?_
    refine e_iconst (v := 1) dX12_inSome_22 rfl ?_
    refine e_icmp_ne (tgt := 41) dX12_inSome_23 rfl (fun hc4 => ?_) (fun hc4 => ?_)
    · replace h9 := ifF hc4 h9
      refine e_iinc (v := (v1.2 + 1)) (L' := [some (.ref (ad 12 0)), some (.int p1), some (.int p2), some (.int v1.1), some (.int (v1.2 + 1))]) dX12_inSome_41 rfl rfl (by decide) rfl ?_
      refine e_goto (tgt := 5) dX12_inSome_44 rfl ?_
      exact hB0_1 _ _ h9
    · replace h9 := ifT hc4 h9
      refine e_iload_n dX12_inSome_26 rfl rfl ?_
      refine e_aload_n dX12_inSome_27 rfl rfl ?_
      refine g_1237 flX12_97 dX12_inSome_28 ?_
      refine e_bipush (v := 8) dX12_inSome_31 rfl ?_
      refine e_iload_n dX12_inSome_33 rfl rfl ?_
      refine e_imul dX12_inSome_34 ?_
      refine e_iload dX12_inSome_35 rfl ?_
      refine e_iadd dX12_inSome_37 ?_
      refine e_pc (pc' := 38) rfl ?_
      obtain ⟨k5, h9⟩ := chkP hN1 h9
      refine l_1237 dX12_inSome_38 (inb_in k5) ?_
      refine e_ior dX12_inSome_39 ?_
      refine e_istore_n (L' := [some (.ref (ad 12 0)), some (.int p1), some (.int p2), some (.int (v1.1 ||| (m.2.1 1237 0 (((8 * p1) + v1.2).toNatClampNeg)))), some (.int v1.2)]) dX12_inSome_40 rfl (by decide) rfl ?_
      refine e_iinc (v := (v1.2 + 1)) (L' := [some (.ref (ad 12 0)), some (.int p1), some (.int p2), some (.int (v1.1 ||| (m.2.1 1237 0 (((8 * p1) + v1.2).toNatClampNeg)))), some (.int (v1.2 + 1))]) dX12_inSome_41 rfl rfl (by decide) rfl ?_
      refine e_goto (tgt := 5) dX12_inSome_44 rfl ?_
      exact hB0_1 _ _ h9
noncomputable def f_X12_step (m : VM) (p1 : Int32) (p2 : Int32) (p3 : Int32) (p4 : Int32) (p5 : Int32) : Option (Int32) := if inb ((8 * p1) + p2) 64 = true then (f_X12_inSome m p1 p5).elim none (fun r2 => if inb ((8 * p1) + p2) 64 = true then (f_X12_dayPay m ((m.2.1 1237 0 (((8 * p1) + p2).toNatClampNeg)) ||| (p4 &&& r2))).elim none (fun r4 => if inb ((8 * p1) + p2) 64 = true then if (m.2.1 1236 0 (((8 * p1) + p2).toNatClampNeg)) = p3 then some (((m.2.1 1238 0 (((8 * p1) + p2).toNatClampNeg)) * ((m.1 1206 0) + r4)) + 0) else some (((m.2.1 1238 0 (((8 * p1) + p2).toNatClampNeg)) * ((m.1 1206 0) + r4)) + (m.1 1207 0)) else none) else none) else none
theorem c_X12_step {g : GG} {d : Nat} {ad : AD} {x m : VM} {Q : Option Value → VM → VM → Prop} (p1 : Int32) (p2 : Int32) (p3 : Int32) (p4 : Int32) (p5 : Int32) {r9 : Int32} (hf : f_X12_step m p1 p2 p3 p4 p5 = some r9) (hq : Q (some (.int r9)) x m) : CX g (d + 1) MX12_step [.ref (ad 12 0), .int p1, .int p2, .int p3, .int p4, .int p5] ad x m Q := by
  refine CX.to (Lv := [some (.ref (ad 12 0)), some (.int p1), some (.int p2), some (.int p3), some (.int p4), some (.int p5), none, none]) okX12_step (Nat.le_of_ble_eq_true rfl) rfl ?_
  obtain ⟨Φ0, hΦ⟩ : ∃ Φ : Option (Int32) → Prop, Φ = fun o => o = some r9 := ⟨_, rfl⟩
  have hN0 : Φ0 none → False := by rw [hΦ]; intro h; cases h
  have hR0 : ∀ z9, Φ0 (some z9) → Q (some (.int z9)) x m := by rw [hΦ]; intro z9 h; cases h; exact hq
  have h9 : Φ0 (f_X12_step m p1 p2 p3 p4 p5) := by rw [hΦ]; exact hf
  clear hf hq hΦ
  unfold f_X12_step at h9
  refine e_bipush (v := 8) dX12_step_0 rfl ?_
  refine e_iload_n dX12_step_2 rfl rfl ?_
  refine e_imul dX12_step_3 ?_
  refine e_iload_n dX12_step_4 rfl rfl ?_
  refine e_iadd dX12_step_5 ?_
  refine e_istore (L' := [some (.ref (ad 12 0)), some (.int p1), some (.int p2), some (.int p3), some (.int p4), some (.int p5), some (.int ((8 * p1) + p2)), none]) dX12_step_6 (by decide) rfl ?_
  refine e_aload_n dX12_step_8 rfl rfl ?_
  refine g_1237 flX12_97 dX12_step_9 ?_
  refine e_pc (pc' := 12) rfl ?_
  refine e_iload dX12_step_12 rfl ?_
  obtain ⟨k1, h9⟩ := chkP hN0 h9
  refine l_1237 dX12_step_14 (inb_in k1) ?_
  refine e_iload dX12_step_15 rfl ?_
  refine e_aload_n dX12_step_17 rfl rfl ?_
  refine e_iload_n dX12_step_18 rfl rfl ?_
  refine e_iload dX12_step_19 rfl ?_
  obtain ⟨r2, hr2, h9⟩ := elimP hN0 h9
  refine x_callVi (c := 12) (As := [.int p1, .int p5]) (rest := [.int p4, .int (m.2.1 1237 0 (((8 * p1) + p2).toNatClampNeg))]) okX12_inSome lkX12_321 rfl (by decide) rfl dX12_step_21 rfl rfl (Nat.le_of_ble_eq_true rfl) rfl (c_X12_inSome p1 p5 hr2 (CI.mk ?_))
  refine e_iand dX12_step_24 ?_
  refine e_ior dX12_step_25 ?_
  refine e_pc (pc' := 26) rfl ?_
  refine e_istore (L' := [some (.ref (ad 12 0)), some (.int p1), some (.int p2), some (.int p3), some (.int p4), some (.int p5), some (.int ((8 * p1) + p2)), some (.int ((m.2.1 1237 0 (((8 * p1) + p2).toNatClampNeg)) ||| (p4 &&& r2)))]) dX12_step_26 (by decide) rfl ?_
  refine e_aload_n dX12_step_28 rfl rfl ?_
  refine g_1238 flX12_100 dX12_step_29 ?_
  refine e_iload dX12_step_32 rfl ?_
  obtain ⟨k3, h9⟩ := chkP hN0 h9
  refine l_1238 dX12_step_34 (inb_in k3) ?_
  refine e_aload_n dX12_step_35 rfl rfl ?_
  refine g_1206 flX12_315 dX12_step_36 ?_
  refine e_aload_n dX12_step_39 rfl rfl ?_
  refine e_iload dX12_step_40 rfl ?_
  refine e_pc (pc' := 42) rfl ?_
  obtain ⟨r4, hr4, h9⟩ := elimP hN0 h9
  refine x_callVi (c := 12) (As := [.int ((m.2.1 1237 0 (((8 * p1) + p2).toNatClampNeg)) ||| (p4 &&& r2))]) (rest := [.int (m.1 1206 0), .int (m.2.1 1238 0 (((8 * p1) + p2).toNatClampNeg))]) okX12_dayPay lkX12_325 rfl (by decide) rfl dX12_step_42 rfl rfl (Nat.le_of_ble_eq_true rfl) rfl (c_X12_dayPay ((m.2.1 1237 0 (((8 * p1) + p2).toNatClampNeg)) ||| (p4 &&& r2)) hr4 (CI.mk ?_))
  refine e_iadd dX12_step_45 ?_
  refine e_imul dX12_step_46 ?_
  refine e_aload_n dX12_step_47 rfl rfl ?_
  refine g_1236 flX12_94 dX12_step_48 ?_
  refine e_iload dX12_step_51 rfl ?_
  obtain ⟨k5, h9⟩ := chkP hN0 h9
  refine l_1236 dX12_step_53 (inb_in k5) ?_
  refine e_iload_n dX12_step_54 rfl rfl ?_
  refine e_icmp_ne (tgt := 62) dX12_step_55 rfl (fun hc6 => ?_) (fun hc6 => ?_)
  · replace h9 := ifF hc6 h9
    refine e_aload_n dX12_step_62 rfl rfl ?_
    refine g_1207 flX12_318 dX12_step_63 ?_
    refine e_iadd dX12_step_66 ?_
    exact x_iret dX12_step_67 rfl (hR0 _ h9)
  · replace h9 := ifT hc6 h9
    refine e_iconst (v := 0) dX12_step_58 rfl ?_
    refine e_goto (tgt := 66) dX12_step_59 rfl ?_
    refine e_iadd dX12_step_66 ?_
    exact x_iret dX12_step_67 rfl (hR0 _ h9)
noncomputable def b_X12_costOf_22 (m : VM) (p1 : Int32) (v2 : Int32 × Int32 × Int32 × Int32 × Int32) : (Int32 × Int32 × Int32 × Int32 × Int32) ⊕ (Option (Int32)) := if inb p1 8 = true then if (m.2.1 1235 0 p1.toNatClampNeg) ≤ v2.2.2.2.2 then Sum.inr (some v2.2.2.2.1) else if inb v2.2.2.2.2 8 = true then (f_X12_step m p1 (m.2.1 1271 0 v2.2.2.2.2.toNatClampNeg) v2.2.2.1 v2.2.1 (v2.1 &&& (((1 : Int32) <<< ((m.2.1 1271 0 v2.2.2.2.2.toNatClampNeg) &&& 31)) ^^^ (-1)))).elim (Sum.inr none) (fun r6 => if inb ((8 * p1) + (m.2.1 1271 0 v2.2.2.2.2.toNatClampNeg)) 64 = true then if inb ((8 * p1) + (m.2.1 1271 0 v2.2.2.2.2.toNatClampNeg)) 64 = true then Sum.inl (v2.1 &&& (((1 : Int32) <<< ((m.2.1 1271 0 v2.2.2.2.2.toNatClampNeg) &&& 31)) ^^^ (-1)), v2.2.1 ||| (m.2.1 1237 0 (((8 * p1) + (m.2.1 1271 0 v2.2.2.2.2.toNatClampNeg)).toNatClampNeg)), m.2.1 1236 0 (((8 * p1) + (m.2.1 1271 0 v2.2.2.2.2.toNatClampNeg)).toNatClampNeg), v2.2.2.2.1 + r6, v2.2.2.2.2 + 1) else Sum.inr none else Sum.inr none) else Sum.inr none else Sum.inr none
noncomputable def f_X12_costOf (m : VM) (p1 : Int32) : Option (Int32) := if inb p1 8 = true then loopF none (b_X12_costOf_22 m p1) (((1 : Int32) <<< ((m.2.1 1235 0 p1.toNatClampNeg) &&& 31)) - 1, 0, (-1), 0, 0) else none
theorem c_X12_costOf {g : GG} {d : Nat} {ad : AD} {x m : VM} {Q : Option Value → VM → VM → Prop} (p1 : Int32) {r9 : Int32} (hf : f_X12_costOf m p1 = some r9) (hq : Q (some (.int r9)) x m) : CX g (d + 2) MX12_costOf [.ref (ad 12 0), .int p1] ad x m Q := by
  refine CX.to (Lv := [some (.ref (ad 12 0)), some (.int p1), none, none, none, none, none, none]) okX12_costOf (Nat.le_of_ble_eq_true rfl) rfl ?_
  obtain ⟨Φ0, hΦ⟩ : ∃ Φ : Option (Int32) → Prop, Φ = fun o => o = some r9 := ⟨_, rfl⟩
  have hN0 : Φ0 none → False := by rw [hΦ]; intro h; cases h
  have hR0 : ∀ z9, Φ0 (some z9) → Q (some (.int z9)) x m := by rw [hΦ]; intro z9 h; cases h; exact hq
  have h9 : Φ0 (f_X12_costOf m p1) := by rw [hΦ]; exact hf
  clear hf hq hΦ
  unfold f_X12_costOf at h9
  refine e_iconst (v := 1) dX12_costOf_0 rfl ?_
  refine e_aload_n dX12_costOf_1 rfl rfl ?_
  refine g_1235 flX12_91 dX12_costOf_2 ?_
  refine e_iload_n dX12_costOf_5 rfl rfl ?_
  obtain ⟨k1, h9⟩ := chkP hN0 h9
  refine l_1235 dX12_costOf_6 (inb_in k1) ?_
  refine e_ishl dX12_costOf_7 ?_
  refine e_iconst (v := 1) dX12_costOf_8 rfl ?_
  refine e_isub dX12_costOf_9 ?_
  refine e_pc (pc' := 10) rfl ?_
  refine e_istore_n (L' := [some (.ref (ad 12 0)), some (.int p1), some (.int (((1 : Int32) <<< ((m.2.1 1235 0 p1.toNatClampNeg) &&& 31)) - 1)), none, none, none, none, none]) dX12_costOf_10 rfl (by decide) rfl ?_
  refine e_iconst (v := 0) dX12_costOf_11 rfl ?_
  refine e_istore_n (L' := [some (.ref (ad 12 0)), some (.int p1), some (.int (((1 : Int32) <<< ((m.2.1 1235 0 p1.toNatClampNeg) &&& 31)) - 1)), some (.int 0), none, none, none, none]) dX12_costOf_12 rfl (by decide) rfl ?_
  refine e_iconst (v := (-1)) dX12_costOf_13 rfl ?_
  refine e_istore (L' := [some (.ref (ad 12 0)), some (.int p1), some (.int (((1 : Int32) <<< ((m.2.1 1235 0 p1.toNatClampNeg) &&& 31)) - 1)), some (.int 0), some (.int (-1)), none, none, none]) dX12_costOf_14 (by decide) rfl ?_
  refine e_iconst (v := 0) dX12_costOf_16 rfl ?_
  refine e_istore (L' := [some (.ref (ad 12 0)), some (.int p1), some (.int (((1 : Int32) <<< ((m.2.1 1235 0 p1.toNatClampNeg) &&& 31)) - 1)), some (.int 0), some (.int (-1)), some (.int 0), none, none]) dX12_costOf_17 (by decide) rfl ?_
  refine e_iconst (v := 0) dX12_costOf_19 rfl ?_
  refine e_istore (L' := [some (.ref (ad 12 0)), some (.int p1), some (.int (((1 : Int32) <<< ((m.2.1 1235 0 p1.toNatClampNeg) &&& 31)) - 1)), some (.int 0), some (.int (-1)), some (.int 0), some (.int 0), none]) dX12_costOf_20 (by decide) rfl ?_
  refine loop_gen (b_X12_costOf_22 m p1) none (fun v2 => EX g (d + 2) MX12_costOf ad x m 22 [some (.ref (ad 12 0)), some (.int p1), some (.int v2.1), some (.int v2.2.1), some (.int v2.2.2.1), some (.int v2.2.2.2.1), some (.int v2.2.2.2.2), none] [] Q) Φ0 hN0 (fun v2 Φ1 hB0_1 hO1 h9 => ?_) (((1 : Int32) <<< ((m.2.1 1235 0 p1.toNatClampNeg) &&& 31)) - 1, 0, (-1), 0, 0) h9
  have hN1 := fun h => hN0 (hO1 _ h)
  have hR1 := fun r9 h => hR0 r9 (hO1 _ h)
  have hB0_1 : ∀ (z0 : Int32) (z1 : Int32) (z2 : Int32) (z3 : Int32) (z4 : Int32), Φ1 (Sum.inl (z0, z1, z2, z3, z4)) → EX g (d + 2) MX12_costOf ad x m 22 [some (.ref (ad 12 0)), some (.int p1), some (.int z0), some (.int z1), some (.int z2), some (.int z3), some (.int z4), none] [] Q := fun z0 z1 z2 z3 z4 h => hB0_1 (z0, z1, z2, z3, z4) h
  unfold b_X12_costOf_22 at h9
  refine e_iload dX12_costOf_22 rfl ?_
  refine e_aload_n dX12_costOf_24 rfl rfl ?_
  refine g_1235 flX12_91 dX12_costOf_25 ?_
  refine e_iload_n dX12_costOf_28 rfl rfl ?_
  obtain ⟨k3, h9⟩ := chkP hN1 h9
  refine l_1235 dX12_costOf_29 (inb_in k3) ?_
  refine e_icmp_ge (tgt := 102) dX12_costOf_30 rfl (fun hc4 => ?_) (fun hc4 => ?_)
  · replace h9 := ifT hc4 h9
    refine e_iload dX12_costOf_102 rfl ?_
    exact x_iret dX12_costOf_104 rfl (hR1 _ h9)
  · replace h9 := ifF hc4 h9
    refine e_aload_n dX12_costOf_33 rfl rfl ?_
    refine g_1271 flX12_199 dX12_costOf_34 ?_
    refine e_iload dX12_costOf_37 rfl ?_
    obtain ⟨k5, h9⟩ := chkP hN1 h9
    refine l_1271 dX12_costOf_39 (inb_in k5) ?_
    refine e_istore (L' := [some (.ref (ad 12 0)), some (.int p1), some (.int v2.1), some (.int v2.2.1), some (.int v2.2.2.1), some (.int v2.2.2.2.1), some (.int v2.2.2.2.2), some (.int (m.2.1 1271 0 v2.2.2.2.2.toNatClampNeg))]) dX12_costOf_40 (by decide) rfl ?_
    refine e_iload_n dX12_costOf_42 rfl rfl ?_
    refine e_iconst (v := 1) dX12_costOf_43 rfl ?_
    refine e_iload dX12_costOf_44 rfl ?_
    refine e_pc (pc' := 46) rfl ?_
    refine e_ishl dX12_costOf_46 ?_
    refine e_iconst (v := (-1)) dX12_costOf_47 rfl ?_
    refine e_ixor dX12_costOf_48 ?_
    refine e_iand dX12_costOf_49 ?_
    refine e_istore_n (L' := [some (.ref (ad 12 0)), some (.int p1), some (.int (v2.1 &&& (((1 : Int32) <<< ((m.2.1 1271 0 v2.2.2.2.2.toNatClampNeg) &&& 31)) ^^^ (-1)))), some (.int v2.2.1), some (.int v2.2.2.1), some (.int v2.2.2.2.1), some (.int v2.2.2.2.2), some (.int (m.2.1 1271 0 v2.2.2.2.2.toNatClampNeg))]) dX12_costOf_50 rfl (by decide) rfl ?_
    refine e_iload dX12_costOf_51 rfl ?_
    refine e_aload_n dX12_costOf_53 rfl rfl ?_
    refine e_iload_n dX12_costOf_54 rfl rfl ?_
    refine e_iload dX12_costOf_55 rfl ?_
    refine e_pc (pc' := 57) rfl ?_
    refine e_iload dX12_costOf_57 rfl ?_
    refine e_iload_n dX12_costOf_59 rfl rfl ?_
    refine e_iload_n dX12_costOf_60 rfl rfl ?_
    obtain ⟨r6, hr6, h9⟩ := elimP hN1 h9
    refine x_callVi (c := 12) (As := [.int p1, .int (m.2.1 1271 0 v2.2.2.2.2.toNatClampNeg), .int v2.2.2.1, .int v2.2.1, .int (v2.1 &&& (((1 : Int32) <<< ((m.2.1 1271 0 v2.2.2.2.2.toNatClampNeg) &&& 31)) ^^^ (-1)))]) (rest := [.int v2.2.2.2.1]) okX12_step lkX12_328 rfl (by decide) rfl dX12_costOf_61 rfl rfl (Nat.le_of_ble_eq_true rfl) rfl (c_X12_step p1 (m.2.1 1271 0 v2.2.2.2.2.toNatClampNeg) v2.2.2.1 v2.2.1 (v2.1 &&& (((1 : Int32) <<< ((m.2.1 1271 0 v2.2.2.2.2.toNatClampNeg) &&& 31)) ^^^ (-1))) hr6 (CI.mk ?_))
    refine e_iadd dX12_costOf_64 ?_
    refine e_istore (L' := [some (.ref (ad 12 0)), some (.int p1), some (.int (v2.1 &&& (((1 : Int32) <<< ((m.2.1 1271 0 v2.2.2.2.2.toNatClampNeg) &&& 31)) ^^^ (-1)))), some (.int v2.2.1), some (.int v2.2.2.1), some (.int (v2.2.2.2.1 + r6)), some (.int v2.2.2.2.2), some (.int (m.2.1 1271 0 v2.2.2.2.2.toNatClampNeg))]) dX12_costOf_65 (by decide) rfl ?_
    refine e_iload_n dX12_costOf_67 rfl rfl ?_
    refine e_aload_n dX12_costOf_68 rfl rfl ?_
    refine g_1237 flX12_97 dX12_costOf_69 ?_
    refine e_pc (pc' := 72) rfl ?_
    refine e_bipush (v := 8) dX12_costOf_72 rfl ?_
    refine e_iload_n dX12_costOf_74 rfl rfl ?_
    refine e_imul dX12_costOf_75 ?_
    refine e_iload dX12_costOf_76 rfl ?_
    refine e_iadd dX12_costOf_78 ?_
    obtain ⟨k7, h9⟩ := chkP hN1 h9
    refine l_1237 dX12_costOf_79 (inb_in k7) ?_
    refine e_ior dX12_costOf_80 ?_
    refine e_istore_n (L' := [some (.ref (ad 12 0)), some (.int p1), some (.int (v2.1 &&& (((1 : Int32) <<< ((m.2.1 1271 0 v2.2.2.2.2.toNatClampNeg) &&& 31)) ^^^ (-1)))), some (.int (v2.2.1 ||| (m.2.1 1237 0 (((8 * p1) + (m.2.1 1271 0 v2.2.2.2.2.toNatClampNeg)).toNatClampNeg)))), some (.int v2.2.2.1), some (.int (v2.2.2.2.1 + r6)), some (.int v2.2.2.2.2), some (.int (m.2.1 1271 0 v2.2.2.2.2.toNatClampNeg))]) dX12_costOf_81 rfl (by decide) rfl ?_
    refine e_aload_n dX12_costOf_82 rfl rfl ?_
    refine e_pc (pc' := 83) rfl ?_
    refine g_1236 flX12_94 dX12_costOf_83 ?_
    refine e_bipush (v := 8) dX12_costOf_86 rfl ?_
    refine e_iload_n dX12_costOf_88 rfl rfl ?_
    refine e_imul dX12_costOf_89 ?_
    refine e_iload dX12_costOf_90 rfl ?_
    refine e_iadd dX12_costOf_92 ?_
    obtain ⟨k8, h9⟩ := chkP hN1 h9
    refine l_1236 dX12_costOf_93 (inb_in k8) ?_
    refine e_istore (L' := [some (.ref (ad 12 0)), some (.int p1), some (.int (v2.1 &&& (((1 : Int32) <<< ((m.2.1 1271 0 v2.2.2.2.2.toNatClampNeg) &&& 31)) ^^^ (-1)))), some (.int (v2.2.1 ||| (m.2.1 1237 0 (((8 * p1) + (m.2.1 1271 0 v2.2.2.2.2.toNatClampNeg)).toNatClampNeg)))), some (.int (m.2.1 1236 0 (((8 * p1) + (m.2.1 1271 0 v2.2.2.2.2.toNatClampNeg)).toNatClampNeg))), some (.int (v2.2.2.2.1 + r6)), some (.int v2.2.2.2.2), some (.int (m.2.1 1271 0 v2.2.2.2.2.toNatClampNeg))]) dX12_costOf_94 (by decide) rfl ?_
    refine e_iinc (v := (v2.2.2.2.2 + 1)) (L' := [some (.ref (ad 12 0)), some (.int p1), some (.int (v2.1 &&& (((1 : Int32) <<< ((m.2.1 1271 0 v2.2.2.2.2.toNatClampNeg) &&& 31)) ^^^ (-1)))), some (.int (v2.2.1 ||| (m.2.1 1237 0 (((8 * p1) + (m.2.1 1271 0 v2.2.2.2.2.toNatClampNeg)).toNatClampNeg)))), some (.int (m.2.1 1236 0 (((8 * p1) + (m.2.1 1271 0 v2.2.2.2.2.toNatClampNeg)).toNatClampNeg))), some (.int (v2.2.2.2.1 + r6)), some (.int (v2.2.2.2.2 + 1)), some (.int (m.2.1 1271 0 v2.2.2.2.2.toNatClampNeg))]) dX12_costOf_96 rfl rfl (by decide) rfl ?_
    refine e_pc (pc' := 99) rfl ?_
    refine e_goto (tgt := 22) dX12_costOf_99 rfl ?_
    refine e_wk (L' := [some (.ref (ad 12 0)), some (.int p1), some (.int (v2.1 &&& (((1 : Int32) <<< ((m.2.1 1271 0 v2.2.2.2.2.toNatClampNeg) &&& 31)) ^^^ (-1)))), some (.int (v2.2.1 ||| (m.2.1 1237 0 (((8 * p1) + (m.2.1 1271 0 v2.2.2.2.2.toNatClampNeg)).toNatClampNeg)))), some (.int (m.2.1 1236 0 (((8 * p1) + (m.2.1 1271 0 v2.2.2.2.2.toNatClampNeg)).toNatClampNeg))), some (.int (v2.2.2.2.1 + r6)), some (.int (v2.2.2.2.2 + 1)), none]) (wkC (wkC (wkC (wkC (wkC (wkC (wkC (wkN wk0)))))))) ?_
    exact hB0_1 _ _ _ _ _ h9
noncomputable def j_X12_seeks_286 (m : VM) (p1 : Int32) (v2 : Int32 × Int32 × Int32 × VM) (v8 : Int32 × Int32 × VM) (a6 : Int32) : (Int32 × Int32 × VM) ⊕ ((Int32 × Int32 × Int32 × VM) ⊕ (Option (Int32 × VM))) := if v8.2.1 = 0 then if inb v2.2.2.1 8 = true then Sum.inr (Sum.inl (v2.1, a6, v2.2.2.1 + (-1), setA v8.2.2 1271 0 (upd (v8.2.2.2.1 1271 0) v2.2.2.1.toNatClampNeg (-1)))) else Sum.inr (Sum.inr none) else if inb v2.2.2.1 8 = true then if inb v2.2.2.1 9 = true then if inb ((8 * p1) + v8.1) 64 = true then if inb (v2.2.2.1 + 1) 9 = true then if (m.2.1 1235 0 p1.toNatClampNeg) ≤ (v2.2.2.1 + 1) then Sum.inr (Sum.inl (v2.1, a6 ||| ((1 : Int32) <<< (v8.1 &&& 31)), v2.2.2.1 + 1, setA (setA v8.2.2 1271 0 (upd (v8.2.2.2.1 1271 0) v2.2.2.1.toNatClampNeg v8.1)) 1274 0 (upd ((setA v8.2.2 1271 0 (upd (v8.2.2.2.1 1271 0) v2.2.2.1.toNatClampNeg v8.1)).2.1 1274 0) ((v2.2.2.1 + 1).toNatClampNeg) (((setA v8.2.2 1271 0 (upd (v8.2.2.2.1 1271 0) v2.2.2.1.toNatClampNeg v8.1)).2.1 1274 0 v2.2.2.1.toNatClampNeg) ||| ((setA v8.2.2 1271 0 (upd (v8.2.2.2.1 1271 0) v2.2.2.1.toNatClampNeg v8.1)).2.1 1237 0 (((8 * p1) + v8.1).toNatClampNeg)))))) else if inb (v2.2.2.1 + 1) 8 = true then Sum.inr (Sum.inl (v2.1, a6 ||| ((1 : Int32) <<< (v8.1 &&& 31)), v2.2.2.1 + 1, setA (setA (setA v8.2.2 1271 0 (upd (v8.2.2.2.1 1271 0) v2.2.2.1.toNatClampNeg v8.1)) 1274 0 (upd ((setA v8.2.2 1271 0 (upd (v8.2.2.2.1 1271 0) v2.2.2.1.toNatClampNeg v8.1)).2.1 1274 0) ((v2.2.2.1 + 1).toNatClampNeg) (((setA v8.2.2 1271 0 (upd (v8.2.2.2.1 1271 0) v2.2.2.1.toNatClampNeg v8.1)).2.1 1274 0 v2.2.2.1.toNatClampNeg) ||| ((setA v8.2.2 1271 0 (upd (v8.2.2.2.1 1271 0) v2.2.2.1.toNatClampNeg v8.1)).2.1 1237 0 (((8 * p1) + v8.1).toNatClampNeg))))) 1271 0 (upd ((setA (setA v8.2.2 1271 0 (upd (v8.2.2.2.1 1271 0) v2.2.2.1.toNatClampNeg v8.1)) 1274 0 (upd ((setA v8.2.2 1271 0 (upd (v8.2.2.2.1 1271 0) v2.2.2.1.toNatClampNeg v8.1)).2.1 1274 0) ((v2.2.2.1 + 1).toNatClampNeg) (((setA v8.2.2 1271 0 (upd (v8.2.2.2.1 1271 0) v2.2.2.1.toNatClampNeg v8.1)).2.1 1274 0 v2.2.2.1.toNatClampNeg) ||| ((setA v8.2.2 1271 0 (upd (v8.2.2.2.1 1271 0) v2.2.2.1.toNatClampNeg v8.1)).2.1 1237 0 (((8 * p1) + v8.1).toNatClampNeg))))).2.1 1271 0) ((v2.2.2.1 + 1).toNatClampNeg) (-1)))) else Sum.inr (Sum.inr none) else Sum.inr (Sum.inr none) else Sum.inr (Sum.inr none) else Sum.inr (Sum.inr none) else Sum.inr (Sum.inr none)
noncomputable def j_X12_seeks_213 (m : VM) (p1 : Int32) (v2 : Int32 × Int32 × Int32 × VM) (v8 : Int32 × Int32 × VM) (a6 : Int32) (a21 : Int32) : (Int32 × Int32 × VM) ⊕ ((Int32 × Int32 × Int32 × VM) ⊕ (Option (Int32 × VM))) := if inb v2.2.2.1 9 = true then if inb v2.2.2.1 9 = true then (f_X12_step v8.2.2 p1 v8.1 a21 (v8.2.2.2.1 1274 0 v2.2.2.1.toNatClampNeg) (((((1 : Int32) <<< ((m.2.1 1235 0 p1.toNatClampNeg) &&& 31)) - 1) &&& (a6 ^^^ (-1))) &&& (((1 : Int32) <<< (v8.1 &&& 31)) ^^^ (-1)))).elim (Sum.inr (Sum.inr none)) (fun r24 => if inb (v2.2.2.1 + 1) 9 = true then if v2.1 = (-1) then if (1 : Int32) = 0 then Sum.inl (v8.1 + 1, 1, setA v8.2.2 1273 0 (upd (v8.2.2.2.1 1273 0) ((v2.2.2.1 + 1).toNatClampNeg) ((v8.2.2.2.1 1273 0 v2.2.2.1.toNatClampNeg) + r24))) else Sum.inl (v8.1, 1, setA v8.2.2 1273 0 (upd (v8.2.2.2.1 1273 0) ((v2.2.2.1 + 1).toNatClampNeg) ((v8.2.2.2.1 1273 0 v2.2.2.1.toNatClampNeg) + r24))) else if inb (v2.2.2.1 + 1) 9 = true then if v2.1 ≤ ((setA v8.2.2 1273 0 (upd (v8.2.2.2.1 1273 0) ((v2.2.2.1 + 1).toNatClampNeg) ((v8.2.2.2.1 1273 0 v2.2.2.1.toNatClampNeg) + r24))).2.1 1273 0 ((v2.2.2.1 + 1).toNatClampNeg)) then if (0 : Int32) = 0 then Sum.inl (v8.1 + 1, 0, setA v8.2.2 1273 0 (upd (v8.2.2.2.1 1273 0) ((v2.2.2.1 + 1).toNatClampNeg) ((v8.2.2.2.1 1273 0 v2.2.2.1.toNatClampNeg) + r24))) else Sum.inl (v8.1, 0, setA v8.2.2 1273 0 (upd (v8.2.2.2.1 1273 0) ((v2.2.2.1 + 1).toNatClampNeg) ((v8.2.2.2.1 1273 0 v2.2.2.1.toNatClampNeg) + r24))) else if (1 : Int32) = 0 then Sum.inl (v8.1 + 1, 1, setA v8.2.2 1273 0 (upd (v8.2.2.2.1 1273 0) ((v2.2.2.1 + 1).toNatClampNeg) ((v8.2.2.2.1 1273 0 v2.2.2.1.toNatClampNeg) + r24))) else Sum.inl (v8.1, 1, setA v8.2.2 1273 0 (upd (v8.2.2.2.1 1273 0) ((v2.2.2.1 + 1).toNatClampNeg) ((v8.2.2.2.1 1273 0 v2.2.2.1.toNatClampNeg) + r24))) else Sum.inr (Sum.inr none) else Sum.inr (Sum.inr none)) else Sum.inr (Sum.inr none) else Sum.inr (Sum.inr none)
noncomputable def b_X12_seeks_145 (m : VM) (p1 : Int32) (v2 : Int32 × Int32 × Int32 × VM) (a6 : Int32) (v8 : Int32 × Int32 × VM) : (Int32 × Int32 × VM) ⊕ ((Int32 × Int32 × Int32 × VM) ⊕ (Option (Int32 × VM))) := if (m.2.1 1235 0 p1.toNatClampNeg) ≤ v8.1 then j_X12_seeks_286 m p1 v2 v8 a6 else if v8.2.1 = 0 then if ((a6 >>> (v8.1 &&& 31)) &&& 1) = 0 then if v2.2.2.1 = 0 then j_X12_seeks_213 m p1 v2 v8 a6 (-1) else if inb (v2.2.2.1 - 1) 8 = true then if inb ((8 * p1) + (v8.2.2.2.1 1271 0 ((v2.2.2.1 - 1).toNatClampNeg))) 64 = true then j_X12_seeks_213 m p1 v2 v8 a6 (v8.2.2.2.1 1236 0 (((8 * p1) + (v8.2.2.2.1 1271 0 ((v2.2.2.1 - 1).toNatClampNeg))).toNatClampNeg)) else Sum.inr (Sum.inr none) else Sum.inr (Sum.inr none) else if v8.2.1 = 0 then Sum.inl (v8.1 + 1, v8.2.1, v8.2.2) else Sum.inl (v8.1, v8.2.1, v8.2.2) else j_X12_seeks_286 m p1 v2 v8 a6
noncomputable def j_X12_seeks_131 (m : VM) (p1 : Int32) (v2 : Int32 × Int32 × Int32 × VM) (a6 : Int32) : (Int32 × Int32 × Int32 × VM) ⊕ (Option (Int32 × VM)) := if inb v2.2.2.1 8 = true then loopF (Sum.inr none) (b_X12_seeks_145 m p1 v2 a6) ((v2.2.2.2.2.1 1271 0 v2.2.2.1.toNatClampNeg) + 1, 0, v2.2.2.2) else Sum.inr none
noncomputable def b_X12_seeks_72 (m : VM) (p1 : Int32) (v2 : Int32 × Int32 × Int32 × VM) (v39 : Int32 × VM) : (Int32 × VM) ⊕ ((Int32 × Int32 × Int32 × VM) ⊕ (Option (Int32 × VM))) := if (m.2.1 1235 0 p1.toNatClampNeg) ≤ v39.1 then Sum.inr (Sum.inl (v2.2.2.2.2.1 1273 0 ((m.2.1 1235 0 p1.toNatClampNeg).toNatClampNeg), v2.2.1, v2.2.2.1 + (-1), v39.2)) else if inb v39.1 8 = true then if inb v39.1 8 = true then Sum.inl (v39.1 + 1, setA v39.2 1272 0 (upd (v39.2.2.1 1272 0) v39.1.toNatClampNeg (v39.2.2.1 1271 0 v39.1.toNatClampNeg))) else Sum.inr (Sum.inr none) else Sum.inr (Sum.inr none)
noncomputable def b_X12_seeks_72_47 (m : VM) (p1 : Int32) (v2 : Int32 × Int32 × Int32 × VM) (v46 : Int32 × VM) : (Int32 × VM) ⊕ ((Int32 × Int32 × Int32 × VM) ⊕ (Option (Int32 × VM))) := if (m.2.1 1235 0 p1.toNatClampNeg) ≤ v46.1 then Sum.inr (Sum.inl (v2.2.2.2.2.1 1273 0 ((m.2.1 1235 0 p1.toNatClampNeg).toNatClampNeg), v2.2.1, v2.2.2.1 + (-1), v46.2)) else if inb v46.1 8 = true then if inb v46.1 8 = true then Sum.inl (v46.1 + 1, setA v46.2 1272 0 (upd (v46.2.2.1 1272 0) v46.1.toNatClampNeg (v46.2.2.1 1271 0 v46.1.toNatClampNeg))) else Sum.inr (Sum.inr none) else Sum.inr (Sum.inr none)
noncomputable def b_X12_seeks_36 (m : VM) (p1 : Int32) (v2 : Int32 × Int32 × Int32 × VM) : (Int32 × Int32 × Int32 × VM) ⊕ (Option (Int32 × VM)) := if v2.2.2.1 < 0 then Sum.inr (some (v2.1, v2.2.2.2)) else if v2.2.2.1 = (m.2.1 1235 0 p1.toNatClampNeg) then if v2.1 = (-1) then if inb (m.2.1 1235 0 p1.toNatClampNeg) 9 = true then loopF (Sum.inr none) (b_X12_seeks_72 m p1 v2) (0, v2.2.2.2) else Sum.inr none else if inb (m.2.1 1235 0 p1.toNatClampNeg) 9 = true then if v2.1 ≤ (v2.2.2.2.2.1 1273 0 ((m.2.1 1235 0 p1.toNatClampNeg).toNatClampNeg)) then Sum.inl (v2.1, v2.2.1, v2.2.2.1 + (-1), v2.2.2.2) else if inb (m.2.1 1235 0 p1.toNatClampNeg) 9 = true then loopF (Sum.inr none) (b_X12_seeks_72_47 m p1 v2) (0, v2.2.2.2) else Sum.inr none else Sum.inr none else if inb v2.2.2.1 8 = true then if (v2.2.2.2.2.1 1271 0 v2.2.2.1.toNatClampNeg) = (-1) then j_X12_seeks_131 m p1 v2 v2.2.1 else if inb v2.2.2.1 8 = true then j_X12_seeks_131 m p1 v2 (v2.2.1 &&& (((1 : Int32) <<< ((v2.2.2.2.2.1 1271 0 v2.2.2.1.toNatClampNeg) &&& 31)) ^^^ (-1))) else Sum.inr none else Sum.inr none
noncomputable def f_X12_seeks (m : VM) (p1 : Int32) : Option (Int32 × VM) := if inb p1 8 = true then loopF none (b_X12_seeks_36 m p1) ((-1), 0, 0, setA (setA (setA m 1273 0 (upd (m.2.1 1273 0) ((0 : Int32).toNatClampNeg) 0)) 1274 0 (upd ((setA m 1273 0 (upd (m.2.1 1273 0) ((0 : Int32).toNatClampNeg) 0)).2.1 1274 0) ((0 : Int32).toNatClampNeg) 0)) 1271 0 (upd ((setA (setA m 1273 0 (upd (m.2.1 1273 0) ((0 : Int32).toNatClampNeg) 0)) 1274 0 (upd ((setA m 1273 0 (upd (m.2.1 1273 0) ((0 : Int32).toNatClampNeg) 0)).2.1 1274 0) ((0 : Int32).toNatClampNeg) 0)).2.1 1271 0) ((0 : Int32).toNatClampNeg) (-1))) else none
theorem c_X12_seeks {g : GG} {d : Nat} {ad : AD} {x m : VM} {Q : Option Value → VM → VM → Prop} (p1 : Int32) {r9 : Int32} {w9 : VM} (hf : f_X12_seeks m p1 = some (r9, w9)) (hq : Q (some (.int r9)) x w9) : CX g (d + 2) MX12_seeks [.ref (ad 12 0), .int p1] ad x m Q := by
  refine CX.to (Lv := [some (.ref (ad 12 0)), some (.int p1), none, none, none, none, none, none, none, none]) okX12_seeks (Nat.le_of_ble_eq_true rfl) rfl ?_
  obtain ⟨Φ0, hΦ⟩ : ∃ Φ : Option (Int32 × VM) → Prop, Φ = fun o => o = some (r9, w9) := ⟨_, rfl⟩
  have hN0 : Φ0 none → False := by rw [hΦ]; intro h; cases h
  have hR0 : ∀ z9 y9, Φ0 (some (z9, y9)) → Q (some (.int z9)) x y9 := by rw [hΦ]; intro z9 y9 h; cases h; exact hq
  have h9 : Φ0 (f_X12_seeks m p1) := by rw [hΦ]; exact hf
  clear hf hq hΦ
  unfold f_X12_seeks at h9
  refine e_aload_n dX12_seeks_0 rfl rfl ?_
  refine g_1235 flX12_91 dX12_seeks_1 ?_
  refine e_iload_n dX12_seeks_4 rfl rfl ?_
  obtain ⟨k1, h9⟩ := chkP hN0 h9
  refine l_1235 dX12_seeks_5 (inb_in k1) ?_
  refine e_istore_n (L' := [some (.ref (ad 12 0)), some (.int p1), some (.int (m.2.1 1235 0 p1.toNatClampNeg)), none, none, none, none, none, none, none]) dX12_seeks_6 rfl (by decide) rfl ?_
  refine e_iconst (v := (-1)) dX12_seeks_7 rfl ?_
  refine e_istore_n (L' := [some (.ref (ad 12 0)), some (.int p1), some (.int (m.2.1 1235 0 p1.toNatClampNeg)), some (.int (-1)), none, none, none, none, none, none]) dX12_seeks_8 rfl (by decide) rfl ?_
  refine e_iconst (v := 0) dX12_seeks_9 rfl ?_
  refine e_pc (pc' := 10) rfl ?_
  refine e_istore (L' := [some (.ref (ad 12 0)), some (.int p1), some (.int (m.2.1 1235 0 p1.toNatClampNeg)), some (.int (-1)), some (.int 0), none, none, none, none, none]) dX12_seeks_10 (by decide) rfl ?_
  refine e_iconst (v := 0) dX12_seeks_12 rfl ?_
  refine e_istore (L' := [some (.ref (ad 12 0)), some (.int p1), some (.int (m.2.1 1235 0 p1.toNatClampNeg)), some (.int (-1)), some (.int 0), some (.int 0), none, none, none, none]) dX12_seeks_13 (by decide) rfl ?_
  refine e_aload_n dX12_seeks_15 rfl rfl ?_
  refine g_1273 flX12_205 dX12_seeks_16 ?_
  refine e_iconst (v := 0) dX12_seeks_19 rfl ?_
  refine e_iconst (v := 0) dX12_seeks_20 rfl ?_
  refine s_1273 dX12_seeks_21 (inb_in (by decide)) ?_
  refine e_aload_n dX12_seeks_22 rfl rfl ?_
  refine e_pc (pc' := 23) rfl ?_
  refine g_1274 flX12_208 dX12_seeks_23 ?_
  refine e_iconst (v := 0) dX12_seeks_26 rfl ?_
  refine e_iconst (v := 0) dX12_seeks_27 rfl ?_
  refine s_1274 dX12_seeks_28 (inb_in (by decide)) ?_
  refine e_aload_n dX12_seeks_29 rfl rfl ?_
  refine g_1271 flX12_199 dX12_seeks_30 ?_
  refine e_iconst (v := 0) dX12_seeks_33 rfl ?_
  refine e_iconst (v := (-1)) dX12_seeks_34 rfl ?_
  refine s_1271 dX12_seeks_35 (inb_in (by decide)) ?_
  refine loop_gen (b_X12_seeks_36 m p1) none (fun v2 => EX g (d + 2) MX12_seeks ad x v2.2.2.2 36 [some (.ref (ad 12 0)), some (.int p1), some (.int (m.2.1 1235 0 p1.toNatClampNeg)), some (.int v2.1), some (.int v2.2.1), some (.int v2.2.2.1), none, none, none, none] [] Q) Φ0 hN0 (fun v2 Φ1 hB0_1 hO1 h9 => ?_) ((-1), 0, 0, setA (setA (setA m 1273 0 (upd (m.2.1 1273 0) ((0 : Int32).toNatClampNeg) 0)) 1274 0 (upd ((setA m 1273 0 (upd (m.2.1 1273 0) ((0 : Int32).toNatClampNeg) 0)).2.1 1274 0) ((0 : Int32).toNatClampNeg) 0)) 1271 0 (upd ((setA (setA m 1273 0 (upd (m.2.1 1273 0) ((0 : Int32).toNatClampNeg) 0)) 1274 0 (upd ((setA m 1273 0 (upd (m.2.1 1273 0) ((0 : Int32).toNatClampNeg) 0)).2.1 1274 0) ((0 : Int32).toNatClampNeg) 0)).2.1 1271 0) ((0 : Int32).toNatClampNeg) (-1))) h9
  have hN1 := fun h => hN0 (hO1 _ h)
  have hR1 := fun r9 x9 h => hR0 r9 x9 (hO1 _ h)
  have hB0_1 : ∀ (z0 : Int32) (z1 : Int32) (z2 : Int32) (z3 : VM), Φ1 (Sum.inl (z0, z1, z2, z3)) → EX g (d + 2) MX12_seeks ad x z3 36 [some (.ref (ad 12 0)), some (.int p1), some (.int (m.2.1 1235 0 p1.toNatClampNeg)), some (.int z0), some (.int z1), some (.int z2), none, none, none, none] [] Q := fun z0 z1 z2 z3 h => hB0_1 (z0, z1, z2, z3) h
  unfold b_X12_seeks_36 at h9
  refine e_iload dX12_seeks_36 rfl ?_
  refine e_if_lt (tgt := 372) dX12_seeks_38 rfl (fun hc3 => ?_) (fun hc3 => ?_)
  · replace h9 := ifT hc3 h9
    refine e_iload_n dX12_seeks_372 rfl rfl ?_
    exact x_iret dX12_seeks_373 rfl (hR1 _ _ h9)
  · replace h9 := ifF hc3 h9
    refine e_iload dX12_seeks_41 rfl ?_
    refine e_iload_n dX12_seeks_43 rfl rfl ?_
    refine e_icmp_ne (tgt := 104) dX12_seeks_44 rfl (fun hc4 => ?_) (fun hc4 => ?_)
    · replace h9 := ifF hc4 h9
      refine e_aload_n dX12_seeks_104 rfl rfl ?_
      refine g_1271 flX12_199 dX12_seeks_105 ?_
      refine e_iload dX12_seeks_108 rfl ?_
      obtain ⟨k5, h9⟩ := chkP hN1 h9
      refine l_1271 dX12_seeks_110 (inb_in k5) ?_
      refine e_iconst (v := (-1)) dX12_seeks_111 rfl ?_
      have hj131 : ∀ (a6 : Int32), Φ1 (j_X12_seeks_131 m p1 v2 a6) → EX g (d + 2) MX12_seeks ad x v2.2.2.2 131 [some (.ref (ad 12 0)), some (.int p1), some (.int (m.2.1 1235 0 p1.toNatClampNeg)), some (.int v2.1), some (.int a6), some (.int v2.2.2.1), none, none, none, none] [] Q := by
        intro a6 h9
        unfold j_X12_seeks_131 at h9
        refine e_aload_n dX12_seeks_131 rfl rfl ?_
        refine g_1271 flX12_199 dX12_seeks_132 ?_
        refine e_iload dX12_seeks_135 rfl ?_
        obtain ⟨k7, h9⟩ := chkP hN1 h9
        refine l_1271 dX12_seeks_137 (inb_in k7) ?_
        refine e_iconst (v := 1) dX12_seeks_138 rfl ?_
        refine e_iadd dX12_seeks_139 ?_
        refine e_istore (L' := [some (.ref (ad 12 0)), some (.int p1), some (.int (m.2.1 1235 0 p1.toNatClampNeg)), some (.int v2.1), some (.int a6), some (.int v2.2.2.1), some (.int ((v2.2.2.2.2.1 1271 0 v2.2.2.1.toNatClampNeg) + 1)), none, none, none]) dX12_seeks_140 (by decide) rfl ?_
        refine e_iconst (v := 0) dX12_seeks_142 rfl ?_
        refine e_pc (pc' := 143) rfl ?_
        refine e_istore (L' := [some (.ref (ad 12 0)), some (.int p1), some (.int (m.2.1 1235 0 p1.toNatClampNeg)), some (.int v2.1), some (.int a6), some (.int v2.2.2.1), some (.int ((v2.2.2.2.2.1 1271 0 v2.2.2.1.toNatClampNeg) + 1)), some (.int 0), none, none]) dX12_seeks_143 (by decide) rfl ?_
        refine loop_gen (b_X12_seeks_145 m p1 v2 a6) (Sum.inr none) (fun v8 => EX g (d + 2) MX12_seeks ad x v8.2.2 145 [some (.ref (ad 12 0)), some (.int p1), some (.int (m.2.1 1235 0 p1.toNatClampNeg)), some (.int v2.1), some (.int a6), some (.int v2.2.2.1), some (.int v8.1), some (.int v8.2.1), none, none] [] Q) Φ1 hN1 (fun v8 Φ2 hB1_2 hO2 h9 => ?_) ((v2.2.2.2.2.1 1271 0 v2.2.2.1.toNatClampNeg) + 1, 0, v2.2.2.2) h9
        have hN2 := fun h => hN1 (hO2 _ h)
        have hR2 := fun r9 x9 h => hR1 r9 x9 (hO2 _ h)
        have hB0_2 : ∀ (z0 : Int32) (z1 : Int32) (z2 : Int32) (z3 : VM), Φ2 (Sum.inr (Sum.inl (z0, z1, z2, z3))) → EX g (d + 2) MX12_seeks ad x z3 36 [some (.ref (ad 12 0)), some (.int p1), some (.int (m.2.1 1235 0 p1.toNatClampNeg)), some (.int z0), some (.int z1), some (.int z2), none, none, none, none] [] Q := fun z0 z1 z2 z3 h => hB0_1 z0 z1 z2 z3 (hO2 _ h)
        have hB1_2 : ∀ (z0 : Int32) (z1 : Int32) (z2 : VM), Φ2 (Sum.inl (z0, z1, z2)) → EX g (d + 2) MX12_seeks ad x z2 145 [some (.ref (ad 12 0)), some (.int p1), some (.int (m.2.1 1235 0 p1.toNatClampNeg)), some (.int v2.1), some (.int a6), some (.int v2.2.2.1), some (.int z0), some (.int z1), none, none] [] Q := fun z0 z1 z2 h => hB1_2 (z0, z1, z2) h
        unfold b_X12_seeks_145 at h9
        refine e_iload dX12_seeks_145 rfl ?_
        refine e_iload_n dX12_seeks_147 rfl rfl ?_
        have hj286 : Φ2 (j_X12_seeks_286 m p1 v2 v8 a6) → EX g (d + 2) MX12_seeks ad x v8.2.2 286 [some (.ref (ad 12 0)), some (.int p1), some (.int (m.2.1 1235 0 p1.toNatClampNeg)), some (.int v2.1), some (.int a6), some (.int v2.2.2.1), some (.int v8.1), some (.int v8.2.1), none, none] [] Q := by
          intro h9
          unfold j_X12_seeks_286 at h9
          refine e_iload dX12_seeks_286 rfl ?_
          refine e_if_ne (tgt := 305) dX12_seeks_288 rfl (fun hc9 => ?_) (fun hc9 => ?_)
          · replace h9 := ifF hc9 h9
            refine e_aload_n dX12_seeks_305 rfl rfl ?_
            refine g_1271 flX12_199 dX12_seeks_306 ?_
            refine e_iload dX12_seeks_309 rfl ?_
            refine e_iload dX12_seeks_311 rfl ?_
            obtain ⟨k10, h9⟩ := chkP hN2 h9
            refine s_1271 dX12_seeks_313 (inb_in k10) ?_
            refine e_iload dX12_seeks_314 rfl ?_
            refine e_iconst (v := 1) dX12_seeks_316 rfl ?_
            refine e_iload dX12_seeks_317 rfl ?_
            refine e_pc (pc' := 319) rfl ?_
            refine e_ishl dX12_seeks_319 ?_
            refine e_ior dX12_seeks_320 ?_
            refine e_istore (L' := [some (.ref (ad 12 0)), some (.int p1), some (.int (m.2.1 1235 0 p1.toNatClampNeg)), some (.int v2.1), some (.int (a6 ||| ((1 : Int32) <<< (v8.1 &&& 31)))), some (.int v2.2.2.1), some (.int v8.1), some (.int v8.2.1), none, none]) dX12_seeks_321 (by decide) rfl ?_
            refine e_aload_n dX12_seeks_323 rfl rfl ?_
            refine g_1274 flX12_208 dX12_seeks_324 ?_
            refine e_iload dX12_seeks_327 rfl ?_
            refine e_iconst (v := 1) dX12_seeks_329 rfl ?_
            refine e_iadd dX12_seeks_330 ?_
            refine e_aload_n dX12_seeks_331 rfl rfl ?_
            refine e_pc (pc' := 332) rfl ?_
            refine g_1274 flX12_208 dX12_seeks_332 ?_
            refine e_iload dX12_seeks_335 rfl ?_
            obtain ⟨k11, h9⟩ := chkP hN2 h9
            refine l_1274 dX12_seeks_337 (inb_in k11) ?_
            refine e_aload_n dX12_seeks_338 rfl rfl ?_
            refine g_1237 flX12_97 dX12_seeks_339 ?_
            refine e_bipush (v := 8) dX12_seeks_342 rfl ?_
            refine e_iload_n dX12_seeks_344 rfl rfl ?_
            refine e_imul dX12_seeks_345 ?_
            refine e_iload dX12_seeks_346 rfl ?_
            refine e_pc (pc' := 348) rfl ?_
            refine e_iadd dX12_seeks_348 ?_
            obtain ⟨k12, h9⟩ := chkP hN2 h9
            refine l_1237 dX12_seeks_349 (inb_in k12) ?_
            refine e_ior dX12_seeks_350 ?_
            obtain ⟨k13, h9⟩ := chkP hN2 h9
            refine s_1274 dX12_seeks_351 (inb_in k13) ?_
            refine e_iinc (v := (v2.2.2.1 + 1)) (L' := [some (.ref (ad 12 0)), some (.int p1), some (.int (m.2.1 1235 0 p1.toNatClampNeg)), some (.int v2.1), some (.int (a6 ||| ((1 : Int32) <<< (v8.1 &&& 31)))), some (.int (v2.2.2.1 + 1)), some (.int v8.1), some (.int v8.2.1), none, none]) dX12_seeks_352 rfl rfl (by decide) rfl ?_
            refine e_iload dX12_seeks_355 rfl ?_
            refine e_iload_n dX12_seeks_357 rfl rfl ?_
            refine e_icmp_ge (tgt := 369) dX12_seeks_358 rfl (fun hc14 => ?_) (fun hc14 => ?_)
            · replace h9 := ifT hc14 h9
              refine e_goto (tgt := 36) dX12_seeks_369 rfl ?_
              refine e_wk (L' := [some (.ref (ad 12 0)), some (.int p1), some (.int (m.2.1 1235 0 p1.toNatClampNeg)), some (.int v2.1), some (.int (a6 ||| ((1 : Int32) <<< (v8.1 &&& 31)))), some (.int (v2.2.2.1 + 1)), none, none, none, none]) (wkC (wkC (wkC (wkC (wkC (wkC (wkN (wkN (wkN (wkN wk0)))))))))) ?_
              exact hB0_2 _ _ _ _ h9
            · replace h9 := ifF hc14 h9
              refine e_aload_n dX12_seeks_361 rfl rfl ?_
              refine g_1271 flX12_199 dX12_seeks_362 ?_
              refine e_iload dX12_seeks_365 rfl ?_
              refine e_iconst (v := (-1)) dX12_seeks_367 rfl ?_
              obtain ⟨k15, h9⟩ := chkP hN2 h9
              refine s_1271 dX12_seeks_368 (inb_in k15) ?_
              refine e_goto (tgt := 36) dX12_seeks_369 rfl ?_
              refine e_wk (L' := [some (.ref (ad 12 0)), some (.int p1), some (.int (m.2.1 1235 0 p1.toNatClampNeg)), some (.int v2.1), some (.int (a6 ||| ((1 : Int32) <<< (v8.1 &&& 31)))), some (.int (v2.2.2.1 + 1)), none, none, none, none]) (wkC (wkC (wkC (wkC (wkC (wkC (wkN (wkN (wkN (wkN wk0)))))))))) ?_
              exact hB0_2 _ _ _ _ h9
          · replace h9 := ifT hc9 h9
            refine e_aload_n dX12_seeks_291 rfl rfl ?_
            refine g_1271 flX12_199 dX12_seeks_292 ?_
            refine e_iload dX12_seeks_295 rfl ?_
            refine e_iconst (v := (-1)) dX12_seeks_297 rfl ?_
            obtain ⟨k16, h9⟩ := chkP hN2 h9
            refine s_1271 dX12_seeks_298 (inb_in k16) ?_
            refine e_iinc (v := (v2.2.2.1 + (-1))) (L' := [some (.ref (ad 12 0)), some (.int p1), some (.int (m.2.1 1235 0 p1.toNatClampNeg)), some (.int v2.1), some (.int a6), some (.int (v2.2.2.1 + (-1))), some (.int v8.1), some (.int v8.2.1), none, none]) dX12_seeks_299 rfl rfl (by decide) rfl ?_
            refine e_goto (tgt := 36) dX12_seeks_302 rfl ?_
            refine e_wk (L' := [some (.ref (ad 12 0)), some (.int p1), some (.int (m.2.1 1235 0 p1.toNatClampNeg)), some (.int v2.1), some (.int a6), some (.int (v2.2.2.1 + (-1))), none, none, none, none]) (wkC (wkC (wkC (wkC (wkC (wkC (wkN (wkN (wkN (wkN wk0)))))))))) ?_
            exact hB0_2 _ _ _ _ h9
        refine e_icmp_ge (tgt := 286) dX12_seeks_148 rfl (fun hc17 => ?_) (fun hc17 => ?_)
        · replace h9 := ifT hc17 h9
          exact hj286 h9
        · replace h9 := ifF hc17 h9
          refine e_iload dX12_seeks_151 rfl ?_
          refine e_if_ne (tgt := 286) dX12_seeks_153 rfl (fun hc18 => ?_) (fun hc18 => ?_)
          · replace h9 := ifF hc18 h9
            exact hj286 h9
          · replace h9 := ifT hc18 h9
            refine e_iload dX12_seeks_156 rfl ?_
            refine e_iload dX12_seeks_158 rfl ?_
            refine e_ishr dX12_seeks_160 ?_
            refine e_iconst (v := 1) dX12_seeks_161 rfl ?_
            refine e_iand dX12_seeks_162 ?_
            refine e_if_ne (tgt := 275) dX12_seeks_163 rfl (fun hc19 => ?_) (fun hc19 => ?_)
            · replace h9 := ifF hc19 h9
              refine e_iload dX12_seeks_275 rfl ?_
              refine e_if_ne (tgt := 145) dX12_seeks_277 rfl (fun hc20 => ?_) (fun hc20 => ?_)
              · replace h9 := ifF hc20 h9
                exact hB1_2 _ _ _ h9
              · replace h9 := ifT hc20 h9
                refine e_iinc (v := (v8.1 + 1)) (L' := [some (.ref (ad 12 0)), some (.int p1), some (.int (m.2.1 1235 0 p1.toNatClampNeg)), some (.int v2.1), some (.int a6), some (.int v2.2.2.1), some (.int (v8.1 + 1)), some (.int v8.2.1), none, none]) dX12_seeks_280 rfl rfl (by decide) rfl ?_
                refine e_goto (tgt := 145) dX12_seeks_283 rfl ?_
                exact hB1_2 _ _ _ h9
            · replace h9 := ifT hc19 h9
              refine e_iconst (v := 1) dX12_seeks_166 rfl ?_
              refine e_iload_n dX12_seeks_167 rfl rfl ?_
              refine e_ishl dX12_seeks_168 ?_
              refine e_iconst (v := 1) dX12_seeks_169 rfl ?_
              refine e_isub dX12_seeks_170 ?_
              refine e_iload dX12_seeks_171 rfl ?_
              refine e_iconst (v := (-1)) dX12_seeks_173 rfl ?_
              refine e_ixor dX12_seeks_174 ?_
              refine e_pc (pc' := 175) rfl ?_
              refine e_iand dX12_seeks_175 ?_
              refine e_iconst (v := 1) dX12_seeks_176 rfl ?_
              refine e_iload dX12_seeks_177 rfl ?_
              refine e_ishl dX12_seeks_179 ?_
              refine e_iconst (v := (-1)) dX12_seeks_180 rfl ?_
              refine e_ixor dX12_seeks_181 ?_
              refine e_iand dX12_seeks_182 ?_
              refine e_istore (L' := [some (.ref (ad 12 0)), some (.int p1), some (.int (m.2.1 1235 0 p1.toNatClampNeg)), some (.int v2.1), some (.int a6), some (.int v2.2.2.1), some (.int v8.1), some (.int v8.2.1), some (.int (((((1 : Int32) <<< ((m.2.1 1235 0 p1.toNatClampNeg) &&& 31)) - 1) &&& (a6 ^^^ (-1))) &&& (((1 : Int32) <<< (v8.1 &&& 31)) ^^^ (-1)))), none]) dX12_seeks_183 (by decide) rfl ?_
              refine e_iload dX12_seeks_185 rfl ?_
              refine e_pc (pc' := 187) rfl ?_
              have hj213 : ∀ (a21 : Int32), Φ2 (j_X12_seeks_213 m p1 v2 v8 a6 a21) → EX g (d + 2) MX12_seeks ad x v8.2.2 213 [some (.ref (ad 12 0)), some (.int p1), some (.int (m.2.1 1235 0 p1.toNatClampNeg)), some (.int v2.1), some (.int a6), some (.int v2.2.2.1), some (.int v8.1), none, some (.int (((((1 : Int32) <<< ((m.2.1 1235 0 p1.toNatClampNeg) &&& 31)) - 1) &&& (a6 ^^^ (-1))) &&& (((1 : Int32) <<< (v8.1 &&& 31)) ^^^ (-1)))), none] [.int a21] Q := by
                intro a21 h9
                unfold j_X12_seeks_213 at h9
                refine e_istore (L' := [some (.ref (ad 12 0)), some (.int p1), some (.int (m.2.1 1235 0 p1.toNatClampNeg)), some (.int v2.1), some (.int a6), some (.int v2.2.2.1), some (.int v8.1), none, some (.int (((((1 : Int32) <<< ((m.2.1 1235 0 p1.toNatClampNeg) &&& 31)) - 1) &&& (a6 ^^^ (-1))) &&& (((1 : Int32) <<< (v8.1 &&& 31)) ^^^ (-1)))), some (.int a21)]) dX12_seeks_213 (by decide) rfl ?_
                refine e_aload_n dX12_seeks_215 rfl rfl ?_
                refine g_1273 flX12_205 dX12_seeks_216 ?_
                refine e_iload dX12_seeks_219 rfl ?_
                refine e_iconst (v := 1) dX12_seeks_221 rfl ?_
                refine e_iadd dX12_seeks_222 ?_
                refine e_aload_n dX12_seeks_223 rfl rfl ?_
                refine g_1273 flX12_205 dX12_seeks_224 ?_
                refine e_pc (pc' := 227) rfl ?_
                refine e_iload dX12_seeks_227 rfl ?_
                obtain ⟨k22, h9⟩ := chkP hN2 h9
                refine l_1273 dX12_seeks_229 (inb_in k22) ?_
                refine e_aload_n dX12_seeks_230 rfl rfl ?_
                refine e_iload_n dX12_seeks_231 rfl rfl ?_
                refine e_iload dX12_seeks_232 rfl ?_
                refine e_iload dX12_seeks_234 rfl ?_
                refine e_aload_n dX12_seeks_236 rfl rfl ?_
                refine g_1274 flX12_208 dX12_seeks_237 ?_
                refine e_iload dX12_seeks_240 rfl ?_
                refine e_pc (pc' := 242) rfl ?_
                obtain ⟨k23, h9⟩ := chkP hN2 h9
                refine l_1274 dX12_seeks_242 (inb_in k23) ?_
                refine e_iload dX12_seeks_243 rfl ?_
                obtain ⟨r24, hr24, h9⟩ := elimP hN2 h9
                refine x_callVi (c := 12) (As := [.int p1, .int v8.1, .int a21, .int (v8.2.2.2.1 1274 0 v2.2.2.1.toNatClampNeg), .int (((((1 : Int32) <<< ((m.2.1 1235 0 p1.toNatClampNeg) &&& 31)) - 1) &&& (a6 ^^^ (-1))) &&& (((1 : Int32) <<< (v8.1 &&& 31)) ^^^ (-1)))]) (rest := [.int (v8.2.2.2.1 1273 0 v2.2.2.1.toNatClampNeg), .int (v2.2.2.1 + 1), .ref (ad 2273 0)]) okX12_step lkX12_328 rfl (by decide) rfl dX12_seeks_245 rfl rfl (Nat.le_of_ble_eq_true rfl) rfl (c_X12_step p1 v8.1 a21 (v8.2.2.2.1 1274 0 v2.2.2.1.toNatClampNeg) (((((1 : Int32) <<< ((m.2.1 1235 0 p1.toNatClampNeg) &&& 31)) - 1) &&& (a6 ^^^ (-1))) &&& (((1 : Int32) <<< (v8.1 &&& 31)) ^^^ (-1))) hr24 (CI.mk ?_))
                refine e_iadd dX12_seeks_248 ?_
                obtain ⟨k25, h9⟩ := chkP hN2 h9
                refine s_1273 dX12_seeks_249 (inb_in k25) ?_
                refine e_iload_n dX12_seeks_250 rfl rfl ?_
                refine e_iconst (v := (-1)) dX12_seeks_251 rfl ?_
                refine e_icmp_eq (tgt := 268) dX12_seeks_252 rfl (fun hc26 => ?_) (fun hc26 => ?_)
                · replace h9 := ifT hc26 h9
                  refine e_iconst (v := 1) dX12_seeks_268 rfl ?_
                  refine e_goto (tgt := 273) dX12_seeks_269 rfl ?_
                  refine e_istore (L' := [some (.ref (ad 12 0)), some (.int p1), some (.int (m.2.1 1235 0 p1.toNatClampNeg)), some (.int v2.1), some (.int a6), some (.int v2.2.2.1), some (.int v8.1), some (.int 1), some (.int (((((1 : Int32) <<< ((m.2.1 1235 0 p1.toNatClampNeg) &&& 31)) - 1) &&& (a6 ^^^ (-1))) &&& (((1 : Int32) <<< (v8.1 &&& 31)) ^^^ (-1)))), some (.int a21)]) dX12_seeks_273 (by decide) rfl ?_
                  refine e_iload dX12_seeks_275 rfl ?_
                  refine e_if_ne (tgt := 145) dX12_seeks_277 rfl (fun hc27 => ?_) (fun hc27 => ?_)
                  · replace h9 := ifF hc27 h9
                    refine e_wk (L' := [some (.ref (ad 12 0)), some (.int p1), some (.int (m.2.1 1235 0 p1.toNatClampNeg)), some (.int v2.1), some (.int a6), some (.int v2.2.2.1), some (.int v8.1), some (.int 1), none, none]) (wkC (wkC (wkC (wkC (wkC (wkC (wkC (wkC (wkN (wkN wk0)))))))))) ?_
                    exact hB1_2 _ _ _ h9
                  · replace h9 := ifT hc27 h9
                    refine e_iinc (v := (v8.1 + 1)) (L' := [some (.ref (ad 12 0)), some (.int p1), some (.int (m.2.1 1235 0 p1.toNatClampNeg)), some (.int v2.1), some (.int a6), some (.int v2.2.2.1), some (.int (v8.1 + 1)), some (.int 1), some (.int (((((1 : Int32) <<< ((m.2.1 1235 0 p1.toNatClampNeg) &&& 31)) - 1) &&& (a6 ^^^ (-1))) &&& (((1 : Int32) <<< (v8.1 &&& 31)) ^^^ (-1)))), some (.int a21)]) dX12_seeks_280 rfl rfl (by decide) rfl ?_
                    refine e_goto (tgt := 145) dX12_seeks_283 rfl ?_
                    refine e_wk (L' := [some (.ref (ad 12 0)), some (.int p1), some (.int (m.2.1 1235 0 p1.toNatClampNeg)), some (.int v2.1), some (.int a6), some (.int v2.2.2.1), some (.int (v8.1 + 1)), some (.int 1), none, none]) (wkC (wkC (wkC (wkC (wkC (wkC (wkC (wkC (wkN (wkN wk0)))))))))) ?_
                    exact hB1_2 _ _ _ h9
                · replace h9 := ifF hc26 h9
                  refine e_aload_n dX12_seeks_255 rfl rfl ?_
                  refine g_1273 flX12_205 dX12_seeks_256 ?_
                  refine e_iload dX12_seeks_259 rfl ?_
                  refine e_iconst (v := 1) dX12_seeks_261 rfl ?_
                  refine e_iadd dX12_seeks_262 ?_
                  obtain ⟨k28, h9⟩ := chkP hN2 h9
                  refine l_1273 dX12_seeks_263 (inb_in k28) ?_
                  refine e_iload_n dX12_seeks_264 rfl rfl ?_
                  refine e_icmp_ge (tgt := 272) dX12_seeks_265 rfl (fun hc29 => ?_) (fun hc29 => ?_)
                  · replace h9 := ifT hc29 h9
                    refine e_iconst (v := 0) dX12_seeks_272 rfl ?_
                    refine e_istore (L' := [some (.ref (ad 12 0)), some (.int p1), some (.int (m.2.1 1235 0 p1.toNatClampNeg)), some (.int v2.1), some (.int a6), some (.int v2.2.2.1), some (.int v8.1), some (.int 0), some (.int (((((1 : Int32) <<< ((m.2.1 1235 0 p1.toNatClampNeg) &&& 31)) - 1) &&& (a6 ^^^ (-1))) &&& (((1 : Int32) <<< (v8.1 &&& 31)) ^^^ (-1)))), some (.int a21)]) dX12_seeks_273 (by decide) rfl ?_
                    refine e_iload dX12_seeks_275 rfl ?_
                    refine e_if_ne (tgt := 145) dX12_seeks_277 rfl (fun hc30 => ?_) (fun hc30 => ?_)
                    · replace h9 := ifF hc30 h9
                      refine e_wk (L' := [some (.ref (ad 12 0)), some (.int p1), some (.int (m.2.1 1235 0 p1.toNatClampNeg)), some (.int v2.1), some (.int a6), some (.int v2.2.2.1), some (.int v8.1), some (.int 0), none, none]) (wkC (wkC (wkC (wkC (wkC (wkC (wkC (wkC (wkN (wkN wk0)))))))))) ?_
                      exact hB1_2 _ _ _ h9
                    · replace h9 := ifT hc30 h9
                      refine e_iinc (v := (v8.1 + 1)) (L' := [some (.ref (ad 12 0)), some (.int p1), some (.int (m.2.1 1235 0 p1.toNatClampNeg)), some (.int v2.1), some (.int a6), some (.int v2.2.2.1), some (.int (v8.1 + 1)), some (.int 0), some (.int (((((1 : Int32) <<< ((m.2.1 1235 0 p1.toNatClampNeg) &&& 31)) - 1) &&& (a6 ^^^ (-1))) &&& (((1 : Int32) <<< (v8.1 &&& 31)) ^^^ (-1)))), some (.int a21)]) dX12_seeks_280 rfl rfl (by decide) rfl ?_
                      refine e_goto (tgt := 145) dX12_seeks_283 rfl ?_
                      refine e_wk (L' := [some (.ref (ad 12 0)), some (.int p1), some (.int (m.2.1 1235 0 p1.toNatClampNeg)), some (.int v2.1), some (.int a6), some (.int v2.2.2.1), some (.int (v8.1 + 1)), some (.int 0), none, none]) (wkC (wkC (wkC (wkC (wkC (wkC (wkC (wkC (wkN (wkN wk0)))))))))) ?_
                      exact hB1_2 _ _ _ h9
                  · replace h9 := ifF hc29 h9
                    refine e_iconst (v := 1) dX12_seeks_268 rfl ?_
                    refine e_goto (tgt := 273) dX12_seeks_269 rfl ?_
                    refine e_istore (L' := [some (.ref (ad 12 0)), some (.int p1), some (.int (m.2.1 1235 0 p1.toNatClampNeg)), some (.int v2.1), some (.int a6), some (.int v2.2.2.1), some (.int v8.1), some (.int 1), some (.int (((((1 : Int32) <<< ((m.2.1 1235 0 p1.toNatClampNeg) &&& 31)) - 1) &&& (a6 ^^^ (-1))) &&& (((1 : Int32) <<< (v8.1 &&& 31)) ^^^ (-1)))), some (.int a21)]) dX12_seeks_273 (by decide) rfl ?_
                    refine e_iload dX12_seeks_275 rfl ?_
                    refine e_if_ne (tgt := 145) dX12_seeks_277 rfl (fun hc31 => ?_) (fun hc31 => ?_)
                    · replace h9 := ifF hc31 h9
                      refine e_wk (L' := [some (.ref (ad 12 0)), some (.int p1), some (.int (m.2.1 1235 0 p1.toNatClampNeg)), some (.int v2.1), some (.int a6), some (.int v2.2.2.1), some (.int v8.1), some (.int 1), none, none]) (wkC (wkC (wkC (wkC (wkC (wkC (wkC (wkC (wkN (wkN wk0)))))))))) ?_
                      exact hB1_2 _ _ _ h9
                    · replace h9 := ifT hc31 h9
                      refine e_iinc (v := (v8.1 + 1)) (L' := [some (.ref (ad 12 0)), some (.int p1), some (.int (m.2.1 1235 0 p1.toNatClampNeg)), some (.int v2.1), some (.int a6), some (.int v2.2.2.1), some (.int (v8.1 + 1)), some (.int 1), some (.int (((((1 : Int32) <<< ((m.2.1 1235 0 p1.toNatClampNeg) &&& 31)) - 1) &&& (a6 ^^^ (-1))) &&& (((1 : Int32) <<< (v8.1 &&& 31)) ^^^ (-1)))), some (.int a21)]) dX12_seeks_280 rfl rfl (by decide) rfl ?_
                      refine e_goto (tgt := 145) dX12_seeks_283 rfl ?_
                      refine e_wk (L' := [some (.ref (ad 12 0)), some (.int p1), some (.int (m.2.1 1235 0 p1.toNatClampNeg)), some (.int v2.1), some (.int a6), some (.int v2.2.2.1), some (.int (v8.1 + 1)), some (.int 1), none, none]) (wkC (wkC (wkC (wkC (wkC (wkC (wkC (wkC (wkN (wkN wk0)))))))))) ?_
                      exact hB1_2 _ _ _ h9
              refine e_if_ne (tgt := 194) dX12_seeks_187 rfl (fun hc32 => ?_) (fun hc32 => ?_)
              · replace h9 := ifF hc32 h9
                refine e_aload_n dX12_seeks_194 rfl rfl ?_
                refine g_1236 flX12_94 dX12_seeks_195 ?_
                refine e_bipush (v := 8) dX12_seeks_198 rfl ?_
                refine e_iload_n dX12_seeks_200 rfl rfl ?_
                refine e_imul dX12_seeks_201 ?_
                refine e_aload_n dX12_seeks_202 rfl rfl ?_
                refine g_1271 flX12_199 dX12_seeks_203 ?_
                refine e_iload dX12_seeks_206 rfl ?_
                refine e_pc (pc' := 208) rfl ?_
                refine e_iconst (v := 1) dX12_seeks_208 rfl ?_
                refine e_isub dX12_seeks_209 ?_
                obtain ⟨k33, h9⟩ := chkP hN2 h9
                refine l_1271 dX12_seeks_210 (inb_in k33) ?_
                refine e_iadd dX12_seeks_211 ?_
                obtain ⟨k34, h9⟩ := chkP hN2 h9
                refine l_1236 dX12_seeks_212 (inb_in k34) ?_
                refine e_wk (L' := [some (.ref (ad 12 0)), some (.int p1), some (.int (m.2.1 1235 0 p1.toNatClampNeg)), some (.int v2.1), some (.int a6), some (.int v2.2.2.1), some (.int v8.1), none, some (.int (((((1 : Int32) <<< ((m.2.1 1235 0 p1.toNatClampNeg) &&& 31)) - 1) &&& (a6 ^^^ (-1))) &&& (((1 : Int32) <<< (v8.1 &&& 31)) ^^^ (-1)))), none]) (wkC (wkC (wkC (wkC (wkC (wkC (wkC (wkN (wkC (wkN wk0)))))))))) ?_
                exact hj213 (v8.2.2.2.1 1236 0 (((8 * p1) + (v8.2.2.2.1 1271 0 ((v2.2.2.1 - 1).toNatClampNeg))).toNatClampNeg)) h9
              · replace h9 := ifT hc32 h9
                refine e_iconst (v := (-1)) dX12_seeks_190 rfl ?_
                refine e_goto (tgt := 213) dX12_seeks_191 rfl ?_
                refine e_wk (L' := [some (.ref (ad 12 0)), some (.int p1), some (.int (m.2.1 1235 0 p1.toNatClampNeg)), some (.int v2.1), some (.int a6), some (.int v2.2.2.1), some (.int v8.1), none, some (.int (((((1 : Int32) <<< ((m.2.1 1235 0 p1.toNatClampNeg) &&& 31)) - 1) &&& (a6 ^^^ (-1))) &&& (((1 : Int32) <<< (v8.1 &&& 31)) ^^^ (-1)))), none]) (wkC (wkC (wkC (wkC (wkC (wkC (wkC (wkN (wkC (wkN wk0)))))))))) ?_
                exact hj213 (-1) h9
      refine e_icmp_eq (tgt := 131) dX12_seeks_112 rfl (fun hc35 => ?_) (fun hc35 => ?_)
      · replace h9 := ifT hc35 h9
        exact hj131 v2.2.1 h9
      · replace h9 := ifF hc35 h9
        refine e_iload dX12_seeks_115 rfl ?_
        refine e_iconst (v := 1) dX12_seeks_117 rfl ?_
        refine e_aload_n dX12_seeks_118 rfl rfl ?_
        refine g_1271 flX12_199 dX12_seeks_119 ?_
        refine e_iload dX12_seeks_122 rfl ?_
        obtain ⟨k36, h9⟩ := chkP hN1 h9
        refine l_1271 dX12_seeks_124 (inb_in k36) ?_
        refine e_ishl dX12_seeks_125 ?_
        refine e_iconst (v := (-1)) dX12_seeks_126 rfl ?_
        refine e_pc (pc' := 127) rfl ?_
        refine e_ixor dX12_seeks_127 ?_
        refine e_iand dX12_seeks_128 ?_
        refine e_istore (L' := [some (.ref (ad 12 0)), some (.int p1), some (.int (m.2.1 1235 0 p1.toNatClampNeg)), some (.int v2.1), some (.int (v2.2.1 &&& (((1 : Int32) <<< ((v2.2.2.2.2.1 1271 0 v2.2.2.1.toNatClampNeg) &&& 31)) ^^^ (-1)))), some (.int v2.2.2.1), none, none, none, none]) dX12_seeks_129 (by decide) rfl ?_
        exact hj131 (v2.2.1 &&& (((1 : Int32) <<< ((v2.2.2.2.2.1 1271 0 v2.2.2.1.toNatClampNeg) &&& 31)) ^^^ (-1))) h9
    · replace h9 := ifT hc4 h9
      refine e_iload_n dX12_seeks_47 rfl rfl ?_
      refine e_iconst (v := (-1)) dX12_seeks_48 rfl ?_
      refine e_icmp_eq (tgt := 62) dX12_seeks_49 rfl (fun hc37 => ?_) (fun hc37 => ?_)
      · replace h9 := ifT hc37 h9
        refine e_aload_n dX12_seeks_62 rfl rfl ?_
        refine g_1273 flX12_205 dX12_seeks_63 ?_
        refine e_iload_n dX12_seeks_66 rfl rfl ?_
        obtain ⟨k38, h9⟩ := chkP hN1 h9
        refine l_1273 dX12_seeks_67 (inb_in k38) ?_
        refine e_istore_n (L' := [some (.ref (ad 12 0)), some (.int p1), some (.int (m.2.1 1235 0 p1.toNatClampNeg)), some (.int (v2.2.2.2.2.1 1273 0 ((m.2.1 1235 0 p1.toNatClampNeg).toNatClampNeg))), some (.int v2.2.1), some (.int v2.2.2.1), none, none, none, none]) dX12_seeks_68 rfl (by decide) rfl ?_
        refine e_iconst (v := 0) dX12_seeks_69 rfl ?_
        refine e_istore (L' := [some (.ref (ad 12 0)), some (.int p1), some (.int (m.2.1 1235 0 p1.toNatClampNeg)), some (.int (v2.2.2.2.2.1 1273 0 ((m.2.1 1235 0 p1.toNatClampNeg).toNatClampNeg))), some (.int v2.2.1), some (.int v2.2.2.1), some (.int 0), none, none, none]) dX12_seeks_70 (by decide) rfl ?_
        refine loop_gen (b_X12_seeks_72 m p1 v2) (Sum.inr none) (fun v39 => EX g (d + 2) MX12_seeks ad x v39.2 72 [some (.ref (ad 12 0)), some (.int p1), some (.int (m.2.1 1235 0 p1.toNatClampNeg)), some (.int (v2.2.2.2.2.1 1273 0 ((m.2.1 1235 0 p1.toNatClampNeg).toNatClampNeg))), some (.int v2.2.1), some (.int v2.2.2.1), some (.int v39.1), none, none, none] [] Q) Φ1 hN1 (fun v39 Φ2 hB1_2 hO2 h9 => ?_) (0, v2.2.2.2) h9
        have hN2 := fun h => hN1 (hO2 _ h)
        have hR2 := fun r9 x9 h => hR1 r9 x9 (hO2 _ h)
        have hB0_2 : ∀ (z0 : Int32) (z1 : Int32) (z2 : Int32) (z3 : VM), Φ2 (Sum.inr (Sum.inl (z0, z1, z2, z3))) → EX g (d + 2) MX12_seeks ad x z3 36 [some (.ref (ad 12 0)), some (.int p1), some (.int (m.2.1 1235 0 p1.toNatClampNeg)), some (.int z0), some (.int z1), some (.int z2), none, none, none, none] [] Q := fun z0 z1 z2 z3 h => hB0_1 z0 z1 z2 z3 (hO2 _ h)
        have hB1_2 : ∀ (z0 : Int32) (z1 : VM), Φ2 (Sum.inl (z0, z1)) → EX g (d + 2) MX12_seeks ad x z1 72 [some (.ref (ad 12 0)), some (.int p1), some (.int (m.2.1 1235 0 p1.toNatClampNeg)), some (.int (v2.2.2.2.2.1 1273 0 ((m.2.1 1235 0 p1.toNatClampNeg).toNatClampNeg))), some (.int v2.2.1), some (.int v2.2.2.1), some (.int z0), none, none, none] [] Q := fun z0 z1 h => hB1_2 (z0, z1) h
        unfold b_X12_seeks_72 at h9
        refine e_iload dX12_seeks_72 rfl ?_
        refine e_iload_n dX12_seeks_74 rfl rfl ?_
        refine e_icmp_ge (tgt := 98) dX12_seeks_75 rfl (fun hc40 => ?_) (fun hc40 => ?_)
        · replace h9 := ifT hc40 h9
          refine e_iinc (v := (v2.2.2.1 + (-1))) (L' := [some (.ref (ad 12 0)), some (.int p1), some (.int (m.2.1 1235 0 p1.toNatClampNeg)), some (.int (v2.2.2.2.2.1 1273 0 ((m.2.1 1235 0 p1.toNatClampNeg).toNatClampNeg))), some (.int v2.2.1), some (.int (v2.2.2.1 + (-1))), some (.int v39.1), none, none, none]) dX12_seeks_98 rfl rfl (by decide) rfl ?_
          refine e_goto (tgt := 36) dX12_seeks_101 rfl ?_
          refine e_wk (L' := [some (.ref (ad 12 0)), some (.int p1), some (.int (m.2.1 1235 0 p1.toNatClampNeg)), some (.int (v2.2.2.2.2.1 1273 0 ((m.2.1 1235 0 p1.toNatClampNeg).toNatClampNeg))), some (.int v2.2.1), some (.int (v2.2.2.1 + (-1))), none, none, none, none]) (wkC (wkC (wkC (wkC (wkC (wkC (wkN (wkN (wkN (wkN wk0)))))))))) ?_
          exact hB0_2 _ _ _ _ h9
        · replace h9 := ifF hc40 h9
          refine e_aload_n dX12_seeks_78 rfl rfl ?_
          refine g_1272 flX12_202 dX12_seeks_79 ?_
          refine e_iload dX12_seeks_82 rfl ?_
          refine e_aload_n dX12_seeks_84 rfl rfl ?_
          refine g_1271 flX12_199 dX12_seeks_85 ?_
          refine e_iload dX12_seeks_88 rfl ?_
          obtain ⟨k41, h9⟩ := chkP hN2 h9
          refine l_1271 dX12_seeks_90 (inb_in k41) ?_
          obtain ⟨k42, h9⟩ := chkP hN2 h9
          refine s_1272 dX12_seeks_91 (inb_in k42) ?_
          refine e_pc (pc' := 92) rfl ?_
          refine e_iinc (v := (v39.1 + 1)) (L' := [some (.ref (ad 12 0)), some (.int p1), some (.int (m.2.1 1235 0 p1.toNatClampNeg)), some (.int (v2.2.2.2.2.1 1273 0 ((m.2.1 1235 0 p1.toNatClampNeg).toNatClampNeg))), some (.int v2.2.1), some (.int v2.2.2.1), some (.int (v39.1 + 1)), none, none, none]) dX12_seeks_92 rfl rfl (by decide) rfl ?_
          refine e_goto (tgt := 72) dX12_seeks_95 rfl ?_
          exact hB1_2 _ _ h9
      · replace h9 := ifF hc37 h9
        refine e_aload_n dX12_seeks_52 rfl rfl ?_
        refine g_1273 flX12_205 dX12_seeks_53 ?_
        refine e_iload_n dX12_seeks_56 rfl rfl ?_
        obtain ⟨k43, h9⟩ := chkP hN1 h9
        refine l_1273 dX12_seeks_57 (inb_in k43) ?_
        refine e_iload_n dX12_seeks_58 rfl rfl ?_
        refine e_icmp_ge (tgt := 98) dX12_seeks_59 rfl (fun hc44 => ?_) (fun hc44 => ?_)
        · replace h9 := ifT hc44 h9
          refine e_iinc (v := (v2.2.2.1 + (-1))) (L' := [some (.ref (ad 12 0)), some (.int p1), some (.int (m.2.1 1235 0 p1.toNatClampNeg)), some (.int v2.1), some (.int v2.2.1), some (.int (v2.2.2.1 + (-1))), none, none, none, none]) dX12_seeks_98 rfl rfl (by decide) rfl ?_
          refine e_goto (tgt := 36) dX12_seeks_101 rfl ?_
          exact hB0_1 _ _ _ _ h9
        · replace h9 := ifF hc44 h9
          refine e_aload_n dX12_seeks_62 rfl rfl ?_
          refine g_1273 flX12_205 dX12_seeks_63 ?_
          refine e_iload_n dX12_seeks_66 rfl rfl ?_
          obtain ⟨k45, h9⟩ := chkP hN1 h9
          refine l_1273 dX12_seeks_67 (inb_in k45) ?_
          refine e_istore_n (L' := [some (.ref (ad 12 0)), some (.int p1), some (.int (m.2.1 1235 0 p1.toNatClampNeg)), some (.int (v2.2.2.2.2.1 1273 0 ((m.2.1 1235 0 p1.toNatClampNeg).toNatClampNeg))), some (.int v2.2.1), some (.int v2.2.2.1), none, none, none, none]) dX12_seeks_68 rfl (by decide) rfl ?_
          refine e_iconst (v := 0) dX12_seeks_69 rfl ?_
          refine e_istore (L' := [some (.ref (ad 12 0)), some (.int p1), some (.int (m.2.1 1235 0 p1.toNatClampNeg)), some (.int (v2.2.2.2.2.1 1273 0 ((m.2.1 1235 0 p1.toNatClampNeg).toNatClampNeg))), some (.int v2.2.1), some (.int v2.2.2.1), some (.int 0), none, none, none]) dX12_seeks_70 (by decide) rfl ?_
          refine loop_gen (b_X12_seeks_72_47 m p1 v2) (Sum.inr none) (fun v46 => EX g (d + 2) MX12_seeks ad x v46.2 72 [some (.ref (ad 12 0)), some (.int p1), some (.int (m.2.1 1235 0 p1.toNatClampNeg)), some (.int (v2.2.2.2.2.1 1273 0 ((m.2.1 1235 0 p1.toNatClampNeg).toNatClampNeg))), some (.int v2.2.1), some (.int v2.2.2.1), some (.int v46.1), none, none, none] [] Q) Φ1 hN1 (fun v46 Φ2 hB1_2 hO2 h9 => ?_) (0, v2.2.2.2) h9
          have hN2 := fun h => hN1 (hO2 _ h)
          have hR2 := fun r9 x9 h => hR1 r9 x9 (hO2 _ h)
          have hB0_2 : ∀ (z0 : Int32) (z1 : Int32) (z2 : Int32) (z3 : VM), Φ2 (Sum.inr (Sum.inl (z0, z1, z2, z3))) → EX g (d + 2) MX12_seeks ad x z3 36 [some (.ref (ad 12 0)), some (.int p1), some (.int (m.2.1 1235 0 p1.toNatClampNeg)), some (.int z0), some (.int z1), some (.int z2), none, none, none, none] [] Q := fun z0 z1 z2 z3 h => hB0_1 z0 z1 z2 z3 (hO2 _ h)
          have hB1_2 : ∀ (z0 : Int32) (z1 : VM), Φ2 (Sum.inl (z0, z1)) → EX g (d + 2) MX12_seeks ad x z1 72 [some (.ref (ad 12 0)), some (.int p1), some (.int (m.2.1 1235 0 p1.toNatClampNeg)), some (.int (v2.2.2.2.2.1 1273 0 ((m.2.1 1235 0 p1.toNatClampNeg).toNatClampNeg))), some (.int v2.2.1), some (.int v2.2.2.1), some (.int z0), none, none, none] [] Q := fun z0 z1 h => hB1_2 (z0, z1) h
          unfold b_X12_seeks_72_47 at h9
          refine e_iload dX12_seeks_72 rfl ?_
          refine e_iload_n dX12_seeks_74 rfl rfl ?_
          refine e_icmp_ge (tgt := 98) dX12_seeks_75 rfl (fun hc48 => ?_) (fun hc48 => ?_)
          · replace h9 := ifT hc48 h9
            refine e_iinc (v := (v2.2.2.1 + (-1))) (L' := [some (.ref (ad 12 0)), some (.int p1), some (.int (m.2.1 1235 0 p1.toNatClampNeg)), some (.int (v2.2.2.2.2.1 1273 0 ((m.2.1 1235 0 p1.toNatClampNeg).toNatClampNeg))), some (.int v2.2.1), some (.int (v2.2.2.1 + (-1))), some (.int v46.1), none, none, none]) dX12_seeks_98 rfl rfl (by decide) rfl ?_
            refine e_goto (tgt := 36) dX12_seeks_101 rfl ?_
            refine e_wk (L' := [some (.ref (ad 12 0)), some (.int p1), some (.int (m.2.1 1235 0 p1.toNatClampNeg)), some (.int (v2.2.2.2.2.1 1273 0 ((m.2.1 1235 0 p1.toNatClampNeg).toNatClampNeg))), some (.int v2.2.1), some (.int (v2.2.2.1 + (-1))), none, none, none, none]) (wkC (wkC (wkC (wkC (wkC (wkC (wkN (wkN (wkN (wkN wk0)))))))))) ?_
            exact hB0_2 _ _ _ _ h9
          · replace h9 := ifF hc48 h9
            refine e_aload_n dX12_seeks_78 rfl rfl ?_
            refine g_1272 flX12_202 dX12_seeks_79 ?_
            refine e_iload dX12_seeks_82 rfl ?_
            refine e_aload_n dX12_seeks_84 rfl rfl ?_
            refine g_1271 flX12_199 dX12_seeks_85 ?_
            refine e_iload dX12_seeks_88 rfl ?_
            obtain ⟨k49, h9⟩ := chkP hN2 h9
            refine l_1271 dX12_seeks_90 (inb_in k49) ?_
            obtain ⟨k50, h9⟩ := chkP hN2 h9
            refine s_1272 dX12_seeks_91 (inb_in k50) ?_
            refine e_pc (pc' := 92) rfl ?_
            refine e_iinc (v := (v46.1 + 1)) (L' := [some (.ref (ad 12 0)), some (.int p1), some (.int (m.2.1 1235 0 p1.toNatClampNeg)), some (.int (v2.2.2.2.2.1 1273 0 ((m.2.1 1235 0 p1.toNatClampNeg).toNatClampNeg))), some (.int v2.2.1), some (.int v2.2.2.1), some (.int (v46.1 + 1)), none, none, none]) dX12_seeks_92 rfl rfl (by decide) rfl ?_
            refine e_goto (tgt := 72) dX12_seeks_95 rfl ?_
            exact hB1_2 _ _ h9
noncomputable def f_X12_best (m : VM) (p1 : Int32) : Option (Int32 × VM) := (f_X12_isPicture m p1).elim none (fun r1 => if r1 = 0 then (f_X12_no m (-1)).elim none (fun r11p => some (r11p.1, r11p.2)) else if inb p1 8 = true then if (m.2.1 1235 0 p1.toNatClampNeg) = 0 then (f_X12_no m (-6)).elim none (fun r8p => some (r8p.1, r8p.2)) else (f_X12_seeks m p1).elim none (fun r5p => some (r5p.1, r5p.2)) else none)
theorem c_X12_best {g : GG} {d : Nat} {ad : AD} {x m : VM} {Q : Option Value → VM → VM → Prop} (p1 : Int32) {r9 : Int32} {w9 : VM} (hf : f_X12_best m p1 = some (r9, w9)) (hq : Q (some (.int r9)) x w9) : CX g (d + 3) MX12_best [.ref (ad 12 0), .int p1] ad x m Q := by
  refine CX.to (Lv := [some (.ref (ad 12 0)), some (.int p1)]) okX12_best (Nat.le_of_ble_eq_true rfl) rfl ?_
  obtain ⟨Φ0, hΦ⟩ : ∃ Φ : Option (Int32 × VM) → Prop, Φ = fun o => o = some (r9, w9) := ⟨_, rfl⟩
  have hN0 : Φ0 none → False := by rw [hΦ]; intro h; cases h
  have hR0 : ∀ z9 y9, Φ0 (some (z9, y9)) → Q (some (.int z9)) x y9 := by rw [hΦ]; intro z9 y9 h; cases h; exact hq
  have h9 : Φ0 (f_X12_best m p1) := by rw [hΦ]; exact hf
  clear hf hq hΦ
  unfold f_X12_best at h9
  refine e_aload_n dX12_best_0 rfl rfl ?_
  refine e_iload_n dX12_best_1 rfl rfl ?_
  obtain ⟨r1, hr1, h9⟩ := elimP hN0 h9
  refine x_callVi (c := 12) (As := [.int p1]) (rest := []) okX12_isPicture lkX12_253 rfl (by decide) rfl dX12_best_2 rfl rfl (Nat.le_of_ble_eq_true rfl) rfl (c_X12_isPicture p1 hr1 (CI.mk ?_))
  refine e_if_ne (tgt := 14) dX12_best_5 rfl (fun hc2 => ?_) (fun hc2 => ?_)
  · replace h9 := ifF hc2 h9
    refine e_aload_n dX12_best_14 rfl rfl ?_
    refine g_1235 flX12_91 dX12_best_15 ?_
    refine e_iload_n dX12_best_18 rfl rfl ?_
    obtain ⟨k3, h9⟩ := chkP hN0 h9
    refine l_1235 dX12_best_19 (inb_in k3) ?_
    refine e_if_ne (tgt := 32) dX12_best_20 rfl (fun hc4 => ?_) (fun hc4 => ?_)
    · replace h9 := ifF hc4 h9
      refine e_aload_n dX12_best_32 rfl rfl ?_
      refine e_iload_n dX12_best_33 rfl rfl ?_
      obtain ⟨⟨r5, w6⟩, hr5, h9⟩ := elimP hN0 h9
      refine x_callVi (c := 12) (As := [.int p1]) (rest := []) okX12_seeks lkX12_332 rfl (by decide) rfl dX12_best_34 rfl rfl (Nat.le_of_ble_eq_true rfl) rfl (c_X12_seeks p1 hr5 (CI.mk ?_))
      exact x_iret dX12_best_37 rfl (hR0 _ _ h9)
    · replace h9 := ifT hc4 h9
      refine e_aload_n dX12_best_23 rfl rfl ?_
      refine e_bipush (v := (-6)) dX12_best_24 rfl ?_
      obtain ⟨⟨r8, w9⟩, hr8, h9⟩ := elimP hN0 h9
      refine x_callVi (c := 12) (As := [.int (-6)]) (rest := []) okX12_no lkX12_263 rfl (by decide) rfl dX12_best_26 rfl rfl (Nat.le_of_ble_eq_true rfl) rfl (c_X12_no (-6) hr8 (CI.mk ?_))
      refine e_goto (tgt := 37) dX12_best_29 rfl ?_
      exact x_iret dX12_best_37 rfl (hR0 _ _ h9)
  · replace h9 := ifT hc2 h9
    refine e_aload_n dX12_best_8 rfl rfl ?_
    refine e_iconst (v := (-1)) dX12_best_9 rfl ?_
    obtain ⟨⟨r11, w12⟩, hr11, h9⟩ := elimP hN0 h9
    refine x_callVi (c := 12) (As := [.int (-1)]) (rest := []) okX12_no lkX12_263 rfl (by decide) rfl dX12_best_10 rfl rfl (Nat.le_of_ble_eq_true rfl) rfl (c_X12_no (-1) hr11 (CI.mk ?_))
    exact x_iret dX12_best_13 rfl (hR0 _ _ h9)
noncomputable def f_X12_bestScene (m : VM) (p1 : Int32) (p2 : Int32) : Option (Int32 × VM) := (f_X12_isPicture m p1).elim none (fun r1 => if r1 = 0 then some ((-1), m) else if p2 < 0 then some ((-1), m) else if inb p1 8 = true then if p2 < (m.2.1 1235 0 p1.toNatClampNeg) then (f_X12_seeks m p1).elim none (fun r6p => if inb p2 8 = true then some (r6p.2.2.1 1272 0 p2.toNatClampNeg, r6p.2) else none) else some ((-1), m) else none)
theorem c_X12_bestScene {g : GG} {d : Nat} {ad : AD} {x m : VM} {Q : Option Value → VM → VM → Prop} (p1 : Int32) (p2 : Int32) {r9 : Int32} {w9 : VM} (hf : f_X12_bestScene m p1 p2 = some (r9, w9)) (hq : Q (some (.int r9)) x w9) : CX g (d + 3) MX12_bestScene [.ref (ad 12 0), .int p1, .int p2] ad x m Q := by
  refine CX.to (Lv := [some (.ref (ad 12 0)), some (.int p1), some (.int p2)]) okX12_bestScene (Nat.le_of_ble_eq_true rfl) rfl ?_
  obtain ⟨Φ0, hΦ⟩ : ∃ Φ : Option (Int32 × VM) → Prop, Φ = fun o => o = some (r9, w9) := ⟨_, rfl⟩
  have hN0 : Φ0 none → False := by rw [hΦ]; intro h; cases h
  have hR0 : ∀ z9 y9, Φ0 (some (z9, y9)) → Q (some (.int z9)) x y9 := by rw [hΦ]; intro z9 y9 h; cases h; exact hq
  have h9 : Φ0 (f_X12_bestScene m p1 p2) := by rw [hΦ]; exact hf
  clear hf hq hΦ
  unfold f_X12_bestScene at h9
  refine e_aload_n dX12_bestScene_0 rfl rfl ?_
  refine e_iload_n dX12_bestScene_1 rfl rfl ?_
  obtain ⟨r1, hr1, h9⟩ := elimP hN0 h9
  refine x_callVi (c := 12) (As := [.int p1]) (rest := []) okX12_isPicture lkX12_253 rfl (by decide) rfl dX12_bestScene_2 rfl rfl (Nat.le_of_ble_eq_true rfl) rfl (c_X12_isPicture p1 hr1 (CI.mk ?_))
  refine e_if_eq (tgt := 22) dX12_bestScene_5 rfl (fun hc2 => ?_) (fun hc2 => ?_)
  · replace h9 := ifT hc2 h9
    refine e_iconst (v := (-1)) dX12_bestScene_22 rfl ?_
    exact x_iret dX12_bestScene_23 rfl (hR0 _ _ h9)
  · replace h9 := ifF hc2 h9
    refine e_iload_n dX12_bestScene_8 rfl rfl ?_
    refine e_if_lt (tgt := 22) dX12_bestScene_9 rfl (fun hc3 => ?_) (fun hc3 => ?_)
    · replace h9 := ifT hc3 h9
      refine e_iconst (v := (-1)) dX12_bestScene_22 rfl ?_
      exact x_iret dX12_bestScene_23 rfl (hR0 _ _ h9)
    · replace h9 := ifF hc3 h9
      refine e_iload_n dX12_bestScene_12 rfl rfl ?_
      refine e_aload_n dX12_bestScene_13 rfl rfl ?_
      refine g_1235 flX12_91 dX12_bestScene_14 ?_
      refine e_iload_n dX12_bestScene_17 rfl rfl ?_
      obtain ⟨k4, h9⟩ := chkP hN0 h9
      refine l_1235 dX12_bestScene_18 (inb_in k4) ?_
      refine e_icmp_lt (tgt := 24) dX12_bestScene_19 rfl (fun hc5 => ?_) (fun hc5 => ?_)
      · replace h9 := ifT hc5 h9
        refine e_aload_n dX12_bestScene_24 rfl rfl ?_
        refine e_iload_n dX12_bestScene_25 rfl rfl ?_
        obtain ⟨⟨r6, w7⟩, hr6, h9⟩ := elimP hN0 h9
        refine x_callVi (c := 12) (As := [.int p1]) (rest := []) okX12_seeks lkX12_332 rfl (by decide) rfl dX12_bestScene_26 rfl rfl (Nat.le_of_ble_eq_true rfl) rfl (c_X12_seeks p1 hr6 (CI.mk ?_))
        refine e_pop dX12_bestScene_29 rfl ?_
        refine e_aload_n dX12_bestScene_30 rfl rfl ?_
        refine g_1272 flX12_202 dX12_bestScene_31 ?_
        refine e_iload_n dX12_bestScene_34 rfl rfl ?_
        obtain ⟨k9, h9⟩ := chkP hN0 h9
        refine l_1272 dX12_bestScene_35 (inb_in k9) ?_
        refine e_pc (pc' := 36) rfl ?_
        exact x_iret dX12_bestScene_36 rfl (hR0 _ _ h9)
      · replace h9 := ifF hc5 h9
        refine e_iconst (v := (-1)) dX12_bestScene_22 rfl ?_
        exact x_iret dX12_bestScene_23 rfl (hR0 _ _ h9)
noncomputable def j_X12_bound_89 (m : VM) (p1 : Int32) (v3 : Int32 × Int32 × Int32) (a10 : Int32) : (Int32 × Int32 × Int32) ⊕ (Option (Int32 × VM)) := if inb ((8 * p1) + v3.2.2) 64 = true then Sum.inl (a10, v3.2.1 ||| ((1 : Int32) <<< ((m.2.1 1236 0 (((8 * p1) + v3.2.2).toNatClampNeg)) &&& 31)), v3.2.2 + 1) else Sum.inr none
noncomputable def b_X12_bound_21 (m : VM) (p1 : Int32) (v3 : Int32 × Int32 × Int32) : (Int32 × Int32 × Int32) ⊕ (Option (Int32 × VM)) := if inb p1 8 = true then if (m.2.1 1235 0 p1.toNatClampNeg) ≤ v3.2.2 then Sum.inr (some (v3.1, m)) else if inb ((8 * p1) + v3.2.2) 64 = true then if inb ((8 * p1) + v3.2.2) 64 = true then (f_X12_dayPay m (m.2.1 1237 0 (((8 * p1) + v3.2.2).toNatClampNeg))).elim (Sum.inr none) (fun r8 => if inb ((8 * p1) + v3.2.2) 64 = true then if ((v3.2.1 >>> ((m.2.1 1236 0 (((8 * p1) + v3.2.2).toNatClampNeg)) &&& 31)) &&& 1) = 0 then j_X12_bound_89 m p1 v3 ((v3.1 + ((m.2.1 1238 0 (((8 * p1) + v3.2.2).toNatClampNeg)) * ((m.1 1206 0) + r8))) + (m.1 1207 0)) else j_X12_bound_89 m p1 v3 (v3.1 + ((m.2.1 1238 0 (((8 * p1) + v3.2.2).toNatClampNeg)) * ((m.1 1206 0) + r8))) else Sum.inr none) else Sum.inr none else Sum.inr none else Sum.inr none
noncomputable def f_X12_bound (m : VM) (p1 : Int32) : Option (Int32 × VM) := (f_X12_isPicture m p1).elim none (fun r1 => if r1 = 0 then (f_X12_no m (-1)).elim none (fun r13p => some (r13p.1, r13p.2)) else loopF none (b_X12_bound_21 m p1) (0, 0, 0))
theorem c_X12_bound {g : GG} {d : Nat} {ad : AD} {x m : VM} {Q : Option Value → VM → VM → Prop} (p1 : Int32) {r9 : Int32} {w9 : VM} (hf : f_X12_bound m p1 = some (r9, w9)) (hq : Q (some (.int r9)) x w9) : CX g (d + 1) MX12_bound [.ref (ad 12 0), .int p1] ad x m Q := by
  refine CX.to (Lv := [some (.ref (ad 12 0)), some (.int p1), none, none, none, none]) okX12_bound (Nat.le_of_ble_eq_true rfl) rfl ?_
  obtain ⟨Φ0, hΦ⟩ : ∃ Φ : Option (Int32 × VM) → Prop, Φ = fun o => o = some (r9, w9) := ⟨_, rfl⟩
  have hN0 : Φ0 none → False := by rw [hΦ]; intro h; cases h
  have hR0 : ∀ z9 y9, Φ0 (some (z9, y9)) → Q (some (.int z9)) x y9 := by rw [hΦ]; intro z9 y9 h; cases h; exact hq
  have h9 : Φ0 (f_X12_bound m p1) := by rw [hΦ]; exact hf
  clear hf hq hΦ
  unfold f_X12_bound at h9
  refine e_aload_n dX12_bound_0 rfl rfl ?_
  refine e_iload_n dX12_bound_1 rfl rfl ?_
  obtain ⟨r1, hr1, h9⟩ := elimP hN0 h9
  refine x_callVi (c := 12) (As := [.int p1]) (rest := []) okX12_isPicture lkX12_253 rfl (by decide) rfl dX12_bound_2 rfl rfl (Nat.le_of_ble_eq_true rfl) rfl (c_X12_isPicture p1 hr1 (CI.mk ?_))
  refine e_if_ne (tgt := 14) dX12_bound_5 rfl (fun hc2 => ?_) (fun hc2 => ?_)
  · replace h9 := ifF hc2 h9
    refine e_iconst (v := 0) dX12_bound_14 rfl ?_
    refine e_istore_n (L' := [some (.ref (ad 12 0)), some (.int p1), some (.int 0), none, none, none]) dX12_bound_15 rfl (by decide) rfl ?_
    refine e_iconst (v := 0) dX12_bound_16 rfl ?_
    refine e_istore_n (L' := [some (.ref (ad 12 0)), some (.int p1), some (.int 0), some (.int 0), none, none]) dX12_bound_17 rfl (by decide) rfl ?_
    refine e_iconst (v := 0) dX12_bound_18 rfl ?_
    refine e_istore (L' := [some (.ref (ad 12 0)), some (.int p1), some (.int 0), some (.int 0), some (.int 0), none]) dX12_bound_19 (by decide) rfl ?_
    refine loop_gen (b_X12_bound_21 m p1) none (fun v3 => EX g (d + 1) MX12_bound ad x m 21 [some (.ref (ad 12 0)), some (.int p1), some (.int v3.1), some (.int v3.2.1), some (.int v3.2.2), none] [] Q) Φ0 hN0 (fun v3 Φ1 hB0_1 hO1 h9 => ?_) (0, 0, 0) h9
    have hN1 := fun h => hN0 (hO1 _ h)
    have hR1 := fun r9 x9 h => hR0 r9 x9 (hO1 _ h)
    have hB0_1 : ∀ (z0 : Int32) (z1 : Int32) (z2 : Int32), Φ1 (Sum.inl (z0, z1, z2)) → EX g (d + 1) MX12_bound ad x m 21 [some (.ref (ad 12 0)), some (.int p1), some (.int z0), some (.int z1), some (.int z2), none] [] Q := fun z0 z1 z2 h => hB0_1 (z0, z1, z2) h
    unfold b_X12_bound_21 at h9
    refine e_iload dX12_bound_21 rfl ?_
    refine e_aload_n dX12_bound_23 rfl rfl ?_
    refine g_1235 flX12_91 dX12_bound_24 ?_
    refine e_iload_n dX12_bound_27 rfl rfl ?_
    obtain ⟨k4, h9⟩ := chkP hN1 h9
    refine l_1235 dX12_bound_28 (inb_in k4) ?_
    refine e_icmp_ge (tgt := 107) dX12_bound_29 rfl (fun hc5 => ?_) (fun hc5 => ?_)
    · replace h9 := ifT hc5 h9
      refine e_iload_n dX12_bound_107 rfl rfl ?_
      exact x_iret dX12_bound_108 rfl (hR1 _ _ h9)
    · replace h9 := ifF hc5 h9
      refine e_bipush (v := 8) dX12_bound_32 rfl ?_
      refine e_iload_n dX12_bound_34 rfl rfl ?_
      refine e_imul dX12_bound_35 ?_
      refine e_iload dX12_bound_36 rfl ?_
      refine e_iadd dX12_bound_38 ?_
      refine e_istore (L' := [some (.ref (ad 12 0)), some (.int p1), some (.int v3.1), some (.int v3.2.1), some (.int v3.2.2), some (.int ((8 * p1) + v3.2.2))]) dX12_bound_39 (by decide) rfl ?_
      refine e_iload_n dX12_bound_41 rfl rfl ?_
      refine e_aload_n dX12_bound_42 rfl rfl ?_
      refine e_pc (pc' := 43) rfl ?_
      refine g_1238 flX12_100 dX12_bound_43 ?_
      refine e_iload dX12_bound_46 rfl ?_
      obtain ⟨k6, h9⟩ := chkP hN1 h9
      refine l_1238 dX12_bound_48 (inb_in k6) ?_
      refine e_aload_n dX12_bound_49 rfl rfl ?_
      refine g_1206 flX12_315 dX12_bound_50 ?_
      refine e_aload_n dX12_bound_53 rfl rfl ?_
      refine e_aload_n dX12_bound_54 rfl rfl ?_
      refine g_1237 flX12_97 dX12_bound_55 ?_
      refine e_iload dX12_bound_58 rfl ?_
      refine e_pc (pc' := 60) rfl ?_
      obtain ⟨k7, h9⟩ := chkP hN1 h9
      refine l_1237 dX12_bound_60 (inb_in k7) ?_
      obtain ⟨r8, hr8, h9⟩ := elimP hN1 h9
      refine x_callVi (c := 12) (As := [.int (m.2.1 1237 0 (((8 * p1) + v3.2.2).toNatClampNeg))]) (rest := [.int (m.1 1206 0), .int (m.2.1 1238 0 (((8 * p1) + v3.2.2).toNatClampNeg)), .int v3.1]) okX12_dayPay lkX12_325 rfl (by decide) rfl dX12_bound_61 rfl rfl (Nat.le_of_ble_eq_true rfl) rfl (c_X12_dayPay (m.2.1 1237 0 (((8 * p1) + v3.2.2).toNatClampNeg)) hr8 (CI.mk ?_))
      refine e_iadd dX12_bound_64 ?_
      refine e_imul dX12_bound_65 ?_
      refine e_iadd dX12_bound_66 ?_
      refine e_istore_n (L' := [some (.ref (ad 12 0)), some (.int p1), some (.int (v3.1 + ((m.2.1 1238 0 (((8 * p1) + v3.2.2).toNatClampNeg)) * ((m.1 1206 0) + r8)))), some (.int v3.2.1), some (.int v3.2.2), some (.int ((8 * p1) + v3.2.2))]) dX12_bound_67 rfl (by decide) rfl ?_
      refine e_iload_n dX12_bound_68 rfl rfl ?_
      refine e_aload_n dX12_bound_69 rfl rfl ?_
      refine g_1236 flX12_94 dX12_bound_70 ?_
      refine e_pc (pc' := 73) rfl ?_
      refine e_iload dX12_bound_73 rfl ?_
      obtain ⟨k9, h9⟩ := chkP hN1 h9
      refine l_1236 dX12_bound_75 (inb_in k9) ?_
      refine e_ishr dX12_bound_76 ?_
      refine e_iconst (v := 1) dX12_bound_77 rfl ?_
      refine e_iand dX12_bound_78 ?_
      have hj89 : ∀ (a10 : Int32), Φ1 (j_X12_bound_89 m p1 v3 a10) → EX g (d + 1) MX12_bound ad x m 89 [some (.ref (ad 12 0)), some (.int p1), some (.int a10), some (.int v3.2.1), some (.int v3.2.2), some (.int ((8 * p1) + v3.2.2))] [] Q := by
        intro a10 h9
        unfold j_X12_bound_89 at h9
        refine e_iload_n dX12_bound_89 rfl rfl ?_
        refine e_iconst (v := 1) dX12_bound_90 rfl ?_
        refine e_aload_n dX12_bound_91 rfl rfl ?_
        refine g_1236 flX12_94 dX12_bound_92 ?_
        refine e_iload dX12_bound_95 rfl ?_
        obtain ⟨k11, h9⟩ := chkP hN1 h9
        refine l_1236 dX12_bound_97 (inb_in k11) ?_
        refine e_ishl dX12_bound_98 ?_
        refine e_ior dX12_bound_99 ?_
        refine e_pc (pc' := 100) rfl ?_
        refine e_istore_n (L' := [some (.ref (ad 12 0)), some (.int p1), some (.int a10), some (.int (v3.2.1 ||| ((1 : Int32) <<< ((m.2.1 1236 0 (((8 * p1) + v3.2.2).toNatClampNeg)) &&& 31)))), some (.int v3.2.2), some (.int ((8 * p1) + v3.2.2))]) dX12_bound_100 rfl (by decide) rfl ?_
        refine e_iinc (v := (v3.2.2 + 1)) (L' := [some (.ref (ad 12 0)), some (.int p1), some (.int a10), some (.int (v3.2.1 ||| ((1 : Int32) <<< ((m.2.1 1236 0 (((8 * p1) + v3.2.2).toNatClampNeg)) &&& 31)))), some (.int (v3.2.2 + 1)), some (.int ((8 * p1) + v3.2.2))]) dX12_bound_101 rfl rfl (by decide) rfl ?_
        refine e_goto (tgt := 21) dX12_bound_104 rfl ?_
        refine e_wk (L' := [some (.ref (ad 12 0)), some (.int p1), some (.int a10), some (.int (v3.2.1 ||| ((1 : Int32) <<< ((m.2.1 1236 0 (((8 * p1) + v3.2.2).toNatClampNeg)) &&& 31)))), some (.int (v3.2.2 + 1)), none]) (wkC (wkC (wkC (wkC (wkC (wkN wk0)))))) ?_
        exact hB0_1 _ _ _ h9
      refine e_if_ne (tgt := 89) dX12_bound_79 rfl (fun hc12 => ?_) (fun hc12 => ?_)
      · replace h9 := ifF hc12 h9
        exact hj89 (v3.1 + ((m.2.1 1238 0 (((8 * p1) + v3.2.2).toNatClampNeg)) * ((m.1 1206 0) + r8))) h9
      · replace h9 := ifT hc12 h9
        refine e_iload_n dX12_bound_82 rfl rfl ?_
        refine e_aload_n dX12_bound_83 rfl rfl ?_
        refine g_1207 flX12_318 dX12_bound_84 ?_
        refine e_iadd dX12_bound_87 ?_
        refine e_istore_n (L' := [some (.ref (ad 12 0)), some (.int p1), some (.int ((v3.1 + ((m.2.1 1238 0 (((8 * p1) + v3.2.2).toNatClampNeg)) * ((m.1 1206 0) + r8))) + (m.1 1207 0))), some (.int v3.2.1), some (.int v3.2.2), some (.int ((8 * p1) + v3.2.2))]) dX12_bound_88 rfl (by decide) rfl ?_
        exact hj89 ((v3.1 + ((m.2.1 1238 0 (((8 * p1) + v3.2.2).toNatClampNeg)) * ((m.1 1206 0) + r8))) + (m.1 1207 0)) h9
  · replace h9 := ifT hc2 h9
    refine e_aload_n dX12_bound_8 rfl rfl ?_
    refine e_iconst (v := (-1)) dX12_bound_9 rfl ?_
    obtain ⟨⟨r13, w14⟩, hr13, h9⟩ := elimP hN0 h9
    refine x_callVi (c := 12) (As := [.int (-1)]) (rest := []) okX12_no lkX12_263 rfl (by decide) rfl dX12_bound_10 rfl rfl (Nat.le_of_ble_eq_true rfl) rfl (c_X12_no (-1) hr13 (CI.mk ?_))
    exact x_iret dX12_bound_13 rfl (hR0 _ _ h9)
noncomputable def b_X12_isOrder_22 (m : VM) (p1 : Int32) (p2 : Int32) (v4 : Int32 × Int32 × VM) : (Int32 × Int32 × VM) ⊕ (Option (Int32 × VM)) := if inb p2 8 = true then if (v4.2.2.2.1 1213 0 p2.toNatClampNeg) ≤ v4.2.1 then Sum.inr (some (1, v4.2.2)) else if inb ((60 * p2) + v4.2.1) 480 = true then if ((v4.2.2.2.2.1 1215 0 (((60 * p2) + v4.2.1).toNatClampNeg)).toInt32) < 0 then Sum.inr (some (0, v4.2.2)) else if inb p1 8 = true then if (v4.2.2.2.1 1235 0 p1.toNatClampNeg) ≤ ((v4.2.2.2.2.1 1215 0 (((60 * p2) + v4.2.1).toNatClampNeg)).toInt32) then Sum.inr (some (0, v4.2.2)) else if ((v4.1 >>> (((v4.2.2.2.2.1 1215 0 (((60 * p2) + v4.2.1).toNatClampNeg)).toInt32) &&& 31)) &&& 1) = 1 then Sum.inr (some (0, v4.2.2)) else if inb v4.2.1 8 = true then Sum.inl (v4.1 ||| ((1 : Int32) <<< (((v4.2.2.2.2.1 1215 0 (((60 * p2) + v4.2.1).toNatClampNeg)).toInt32) &&& 31)), v4.2.1 + 1, setA v4.2.2 1271 0 (upd (v4.2.2.2.1 1271 0) v4.2.1.toNatClampNeg ((v4.2.2.2.2.1 1215 0 (((60 * p2) + v4.2.1).toNatClampNeg)).toInt32))) else Sum.inr none else Sum.inr none else Sum.inr none else Sum.inr none
noncomputable def f_X12_isOrder (m : VM) (p1 : Int32) (p2 : Int32) : Option (Int32 × VM) := if inb p2 8 = true then if inb p1 8 = true then if (m.2.1 1213 0 p2.toNatClampNeg) = (m.2.1 1235 0 p1.toNatClampNeg) then loopF none (b_X12_isOrder_22 m p1 p2) (0, 0, m) else some (0, m) else none else none
theorem c_X12_isOrder {g : GG} {d : Nat} {ad : AD} {x m : VM} {Q : Option Value → VM → VM → Prop} (p1 : Int32) (p2 : Int32) {r9 : Int32} {w9 : VM} (hf : f_X12_isOrder m p1 p2 = some (r9, w9)) (hq : Q (some (.int r9)) x w9) : CX g d MX12_isOrder [.ref (ad 12 0), .int p1, .int p2] ad x m Q := by
  refine CX.to (Lv := [some (.ref (ad 12 0)), some (.int p1), some (.int p2), none, none, none]) okX12_isOrder (Nat.le_of_ble_eq_true rfl) rfl ?_
  obtain ⟨Φ0, hΦ⟩ : ∃ Φ : Option (Int32 × VM) → Prop, Φ = fun o => o = some (r9, w9) := ⟨_, rfl⟩
  have hN0 : Φ0 none → False := by rw [hΦ]; intro h; cases h
  have hR0 : ∀ z9 y9, Φ0 (some (z9, y9)) → Q (some (.int z9)) x y9 := by rw [hΦ]; intro z9 y9 h; cases h; exact hq
  have h9 : Φ0 (f_X12_isOrder m p1 p2) := by rw [hΦ]; exact hf
  clear hf hq hΦ
  unfold f_X12_isOrder at h9
  refine e_aload_n dX12_isOrder_0 rfl rfl ?_
  refine g_1213 flX12_23 dX12_isOrder_1 ?_
  refine e_iload_n dX12_isOrder_4 rfl rfl ?_
  obtain ⟨k1, h9⟩ := chkP hN0 h9
  refine l_1213 dX12_isOrder_5 (inb_in k1) ?_
  refine e_aload_n dX12_isOrder_6 rfl rfl ?_
  refine g_1235 flX12_91 dX12_isOrder_7 ?_
  refine e_iload_n dX12_isOrder_10 rfl rfl ?_
  obtain ⟨k2, h9⟩ := chkP hN0 h9
  refine l_1235 dX12_isOrder_11 (inb_in k2) ?_
  refine e_pc (pc' := 12) rfl ?_
  refine e_icmp_eq (tgt := 17) dX12_isOrder_12 rfl (fun hc3 => ?_) (fun hc3 => ?_)
  · replace h9 := ifT hc3 h9
    refine e_iconst (v := 0) dX12_isOrder_17 rfl ?_
    refine e_istore_n (L' := [some (.ref (ad 12 0)), some (.int p1), some (.int p2), some (.int 0), none, none]) dX12_isOrder_18 rfl (by decide) rfl ?_
    refine e_iconst (v := 0) dX12_isOrder_19 rfl ?_
    refine e_istore (L' := [some (.ref (ad 12 0)), some (.int p1), some (.int p2), some (.int 0), some (.int 0), none]) dX12_isOrder_20 (by decide) rfl ?_
    refine loop_gen (b_X12_isOrder_22 m p1 p2) none (fun v4 => EX g d MX12_isOrder ad x v4.2.2 22 [some (.ref (ad 12 0)), some (.int p1), some (.int p2), some (.int v4.1), some (.int v4.2.1), none] [] Q) Φ0 hN0 (fun v4 Φ1 hB0_1 hO1 h9 => ?_) (0, 0, m) h9
    have hN1 := fun h => hN0 (hO1 _ h)
    have hR1 := fun r9 x9 h => hR0 r9 x9 (hO1 _ h)
    have hB0_1 : ∀ (z0 : Int32) (z1 : Int32) (z2 : VM), Φ1 (Sum.inl (z0, z1, z2)) → EX g d MX12_isOrder ad x z2 22 [some (.ref (ad 12 0)), some (.int p1), some (.int p2), some (.int z0), some (.int z1), none] [] Q := fun z0 z1 z2 h => hB0_1 (z0, z1, z2) h
    unfold b_X12_isOrder_22 at h9
    refine e_iload dX12_isOrder_22 rfl ?_
    refine e_aload_n dX12_isOrder_24 rfl rfl ?_
    refine g_1213 flX12_23 dX12_isOrder_25 ?_
    refine e_iload_n dX12_isOrder_28 rfl rfl ?_
    obtain ⟨k5, h9⟩ := chkP hN1 h9
    refine l_1213 dX12_isOrder_29 (inb_in k5) ?_
    refine e_icmp_ge (tgt := 98) dX12_isOrder_30 rfl (fun hc6 => ?_) (fun hc6 => ?_)
    · replace h9 := ifT hc6 h9
      refine e_iconst (v := 1) dX12_isOrder_98 rfl ?_
      exact x_zret dX12_isOrder_99 rfl (by decide) (hR1 _ _ h9)
    · replace h9 := ifF hc6 h9
      refine e_aload_n dX12_isOrder_33 rfl rfl ?_
      refine g_1215 flX12_29 dX12_isOrder_34 ?_
      refine e_bipush (v := 60) dX12_isOrder_37 rfl ?_
      refine e_iload_n dX12_isOrder_39 rfl rfl ?_
      refine e_imul dX12_isOrder_40 ?_
      refine e_iload dX12_isOrder_41 rfl ?_
      refine e_iadd dX12_isOrder_43 ?_
      obtain ⟨k7, h9⟩ := chkP hN1 h9
      refine l_1215 dX12_isOrder_44 (inb_in k7) ?_
      refine e_pc (pc' := 45) rfl ?_
      refine e_l2i dX12_isOrder_45 rfl ?_
      refine e_istore (L' := [some (.ref (ad 12 0)), some (.int p1), some (.int p2), some (.int v4.1), some (.int v4.2.1), some (.int ((v4.2.2.2.2.1 1215 0 (((60 * p2) + v4.2.1).toNatClampNeg)).toInt32))]) dX12_isOrder_46 (by decide) rfl ?_
      refine e_iload dX12_isOrder_48 rfl ?_
      refine e_if_lt (tgt := 74) dX12_isOrder_50 rfl (fun hc8 => ?_) (fun hc8 => ?_)
      · replace h9 := ifT hc8 h9
        refine e_iconst (v := 0) dX12_isOrder_74 rfl ?_
        exact x_zret dX12_isOrder_75 rfl (by decide) (hR1 _ _ h9)
      · replace h9 := ifF hc8 h9
        refine e_iload dX12_isOrder_53 rfl ?_
        refine e_aload_n dX12_isOrder_55 rfl rfl ?_
        refine g_1235 flX12_91 dX12_isOrder_56 ?_
        refine e_iload_n dX12_isOrder_59 rfl rfl ?_
        obtain ⟨k9, h9⟩ := chkP hN1 h9
        refine l_1235 dX12_isOrder_60 (inb_in k9) ?_
        refine e_icmp_ge (tgt := 74) dX12_isOrder_61 rfl (fun hc10 => ?_) (fun hc10 => ?_)
        · replace h9 := ifT hc10 h9
          refine e_iconst (v := 0) dX12_isOrder_74 rfl ?_
          exact x_zret dX12_isOrder_75 rfl (by decide) (hR1 _ _ h9)
        · replace h9 := ifF hc10 h9
          refine e_iload_n dX12_isOrder_64 rfl rfl ?_
          refine e_iload dX12_isOrder_65 rfl ?_
          refine e_ishr dX12_isOrder_67 ?_
          refine e_iconst (v := 1) dX12_isOrder_68 rfl ?_
          refine e_iand dX12_isOrder_69 ?_
          refine e_iconst (v := 1) dX12_isOrder_70 rfl ?_
          refine e_icmp_ne (tgt := 76) dX12_isOrder_71 rfl (fun hc11 => ?_) (fun hc11 => ?_)
          · replace h9 := ifF hc11 h9
            refine e_iload_n dX12_isOrder_76 rfl rfl ?_
            refine e_iconst (v := 1) dX12_isOrder_77 rfl ?_
            refine e_iload dX12_isOrder_78 rfl ?_
            refine e_ishl dX12_isOrder_80 ?_
            refine e_ior dX12_isOrder_81 ?_
            refine e_istore_n (L' := [some (.ref (ad 12 0)), some (.int p1), some (.int p2), some (.int (v4.1 ||| ((1 : Int32) <<< (((v4.2.2.2.2.1 1215 0 (((60 * p2) + v4.2.1).toNatClampNeg)).toInt32) &&& 31)))), some (.int v4.2.1), some (.int ((v4.2.2.2.2.1 1215 0 (((60 * p2) + v4.2.1).toNatClampNeg)).toInt32))]) dX12_isOrder_82 rfl (by decide) rfl ?_
            refine e_aload_n dX12_isOrder_83 rfl rfl ?_
            refine g_1271 flX12_199 dX12_isOrder_84 ?_
            refine e_pc (pc' := 87) rfl ?_
            refine e_iload dX12_isOrder_87 rfl ?_
            refine e_iload dX12_isOrder_89 rfl ?_
            obtain ⟨k12, h9⟩ := chkP hN1 h9
            refine s_1271 dX12_isOrder_91 (inb_in k12) ?_
            refine e_iinc (v := (v4.2.1 + 1)) (L' := [some (.ref (ad 12 0)), some (.int p1), some (.int p2), some (.int (v4.1 ||| ((1 : Int32) <<< (((v4.2.2.2.2.1 1215 0 (((60 * p2) + v4.2.1).toNatClampNeg)).toInt32) &&& 31)))), some (.int (v4.2.1 + 1)), some (.int ((v4.2.2.2.2.1 1215 0 (((60 * p2) + v4.2.1).toNatClampNeg)).toInt32))]) dX12_isOrder_92 rfl rfl (by decide) rfl ?_
            refine e_goto (tgt := 22) dX12_isOrder_95 rfl ?_
            refine e_wk (L' := [some (.ref (ad 12 0)), some (.int p1), some (.int p2), some (.int (v4.1 ||| ((1 : Int32) <<< (((v4.2.2.2.2.1 1215 0 (((60 * p2) + v4.2.1).toNatClampNeg)).toInt32) &&& 31)))), some (.int (v4.2.1 + 1)), none]) (wkC (wkC (wkC (wkC (wkC (wkN wk0)))))) ?_
            exact hB0_1 _ _ _ h9
          · replace h9 := ifT hc11 h9
            refine e_iconst (v := 0) dX12_isOrder_74 rfl ?_
            exact x_zret dX12_isOrder_75 rfl (by decide) (hR1 _ _ h9)
  · replace h9 := ifF hc3 h9
    refine e_iconst (v := 0) dX12_isOrder_15 rfl ?_
    exact x_zret dX12_isOrder_16 rfl (by decide) (hR0 _ _ h9)
noncomputable def f_X12_judge (m : VM) (p1 : Int32) (p2 : Int32) : Option (Int32 × VM) := (f_X12_isPicture m p1).elim none (fun r1 => if r1 = 0 then (f_X12_no m (-1)).elim none (fun r16p => some (r16p.1, r16p.2)) else (f_X12_wants m p2).elim none (fun r3 => if r3 = 0 then (f_X12_isOrder m p1 p2).elim none (fun r5p => if r5p.1 = 0 then (f_X12_no r5p.2 (-6)).elim none (fun r9p => some (r9p.1, r9p.2)) else (f_X12_costOf r5p.2 p1).elim none (fun r12 => some (r12, r5p.2))) else (f_X12_no m r3).elim none (fun r13p => some (r13p.1, r13p.2))))
theorem c_X12_judge {g : GG} {d : Nat} {ad : AD} {x m : VM} {Q : Option Value → VM → VM → Prop} (p1 : Int32) (p2 : Int32) {r9 : Int32} {w9 : VM} (hf : f_X12_judge m p1 p2 = some (r9, w9)) (hq : Q (some (.int r9)) x w9) : CX g (d + 3) MX12_judge [.ref (ad 12 0), .int p1, .int p2] ad x m Q := by
  refine CX.to (Lv := [some (.ref (ad 12 0)), some (.int p1), some (.int p2), none]) okX12_judge (Nat.le_of_ble_eq_true rfl) rfl ?_
  obtain ⟨Φ0, hΦ⟩ : ∃ Φ : Option (Int32 × VM) → Prop, Φ = fun o => o = some (r9, w9) := ⟨_, rfl⟩
  have hN0 : Φ0 none → False := by rw [hΦ]; intro h; cases h
  have hR0 : ∀ z9 y9, Φ0 (some (z9, y9)) → Q (some (.int z9)) x y9 := by rw [hΦ]; intro z9 y9 h; cases h; exact hq
  have h9 : Φ0 (f_X12_judge m p1 p2) := by rw [hΦ]; exact hf
  clear hf hq hΦ
  unfold f_X12_judge at h9
  refine e_aload_n dX12_judge_0 rfl rfl ?_
  refine e_iload_n dX12_judge_1 rfl rfl ?_
  obtain ⟨r1, hr1, h9⟩ := elimP hN0 h9
  refine x_callVi (c := 12) (As := [.int p1]) (rest := []) okX12_isPicture lkX12_253 rfl (by decide) rfl dX12_judge_2 rfl rfl (Nat.le_of_ble_eq_true rfl) rfl (c_X12_isPicture p1 hr1 (CI.mk ?_))
  refine e_if_ne (tgt := 14) dX12_judge_5 rfl (fun hc2 => ?_) (fun hc2 => ?_)
  · replace h9 := ifF hc2 h9
    refine e_aload_n dX12_judge_14 rfl rfl ?_
    refine e_iload_n dX12_judge_15 rfl rfl ?_
    obtain ⟨r3, hr3, h9⟩ := elimP hN0 h9
    refine x_callVi (c := 12) (As := [.int p2]) (rest := []) okX12_wants lkX12_280 rfl (by decide) rfl dX12_judge_16 rfl rfl (Nat.le_of_ble_eq_true rfl) rfl (c_X12_wants p2 hr3 (CI.mk ?_))
    refine e_istore_n (L' := [some (.ref (ad 12 0)), some (.int p1), some (.int p2), some (.int r3)]) dX12_judge_19 rfl (by decide) rfl ?_
    refine e_iload_n dX12_judge_20 rfl rfl ?_
    refine e_if_eq (tgt := 30) dX12_judge_21 rfl (fun hc4 => ?_) (fun hc4 => ?_)
    · replace h9 := ifT hc4 h9
      refine e_aload_n dX12_judge_30 rfl rfl ?_
      refine e_iload_n dX12_judge_31 rfl rfl ?_
      refine e_iload_n dX12_judge_32 rfl rfl ?_
      obtain ⟨⟨r5, w6⟩, hr5, h9⟩ := elimP hN0 h9
      refine x_callVi (c := 12) (As := [.int p1, .int p2]) (rest := []) okX12_isOrder lkX12_335 rfl (by decide) rfl dX12_judge_33 rfl rfl (Nat.le_of_ble_eq_true rfl) rfl (c_X12_isOrder p1 p2 hr5 (CI.mk ?_))
      refine e_if_eq (tgt := 47) dX12_judge_36 rfl (fun hc8 => ?_) (fun hc8 => ?_)
      · replace h9 := ifT hc8 h9
        refine e_aload_n dX12_judge_47 rfl rfl ?_
        refine e_bipush (v := (-6)) dX12_judge_48 rfl ?_
        obtain ⟨⟨r9, w10⟩, hr9, h9⟩ := elimP hN0 h9
        refine x_callVi (c := 12) (As := [.int (-6)]) (rest := []) okX12_no lkX12_263 rfl (by decide) rfl dX12_judge_50 rfl rfl (Nat.le_of_ble_eq_true rfl) rfl (c_X12_no (-6) hr9 (CI.mk ?_))
        exact x_iret dX12_judge_53 rfl (hR0 _ _ h9)
      · replace h9 := ifF hc8 h9
        refine e_aload_n dX12_judge_39 rfl rfl ?_
        refine e_iload_n dX12_judge_40 rfl rfl ?_
        obtain ⟨r12, hr12, h9⟩ := elimP hN0 h9
        refine x_callVi (c := 12) (As := [.int p1]) (rest := []) okX12_costOf lkX12_338 rfl (by decide) rfl dX12_judge_41 rfl rfl (Nat.le_of_ble_eq_true rfl) rfl (c_X12_costOf p1 hr12 (CI.mk ?_))
        refine e_goto (tgt := 53) dX12_judge_44 rfl ?_
        exact x_iret dX12_judge_53 rfl (hR0 _ _ h9)
    · replace h9 := ifF hc4 h9
      refine e_aload_n dX12_judge_24 rfl rfl ?_
      refine e_iload_n dX12_judge_25 rfl rfl ?_
      obtain ⟨⟨r13, w14⟩, hr13, h9⟩ := elimP hN0 h9
      refine x_callVi (c := 12) (As := [.int r3]) (rest := []) okX12_no lkX12_263 rfl (by decide) rfl dX12_judge_26 rfl rfl (Nat.le_of_ble_eq_true rfl) rfl (c_X12_no r3 hr13 (CI.mk ?_))
      exact x_iret dX12_judge_29 rfl (hR0 _ _ h9)
  · replace h9 := ifT hc2 h9
    refine e_aload_n dX12_judge_8 rfl rfl ?_
    refine e_iconst (v := (-1)) dX12_judge_9 rfl ?_
    obtain ⟨⟨r16, w17⟩, hr16, h9⟩ := elimP hN0 h9
    refine x_callVi (c := 12) (As := [.int (-1)]) (rest := []) okX12_no lkX12_263 rfl (by decide) rfl dX12_judge_10 rfl rfl (Nat.le_of_ble_eq_true rfl) rfl (c_X12_no (-1) hr16 (CI.mk ?_))
    exact x_iret dX12_judge_13 rfl (hR0 _ _ h9)
noncomputable def b_X12_begin_74 (m : VM) (p1 : Int32) (p2 : Int32) (v20 : Int32 × VM) : (Int32 × VM) ⊕ (Option (Int32 × VM)) := if inb p1 8 = true then if (v20.2.2.1 1235 0 p1.toNatClampNeg) ≤ v20.1 then (f_X12_costOf v20.2 p1).elim (Sum.inr none) (fun r23 => Sum.inr (some (r23, v20.2))) else if inb v20.1 8 = true then if inb ((8 * p1) + v20.1) 64 = true then if inb ((8 * p1) + v20.1) 64 = true then if inb ((8 * p1) + v20.1) 64 = true then Sum.inl (v20.1 + 1, setA (setA v20.2 1241 0 (upd (v20.2.2.1 1241 0) (((8 * p1) + v20.1).toNatClampNeg) (v20.2.2.1 1271 0 v20.1.toNatClampNeg))) 1242 0 (upd ((setA v20.2 1241 0 (upd (v20.2.2.1 1241 0) (((8 * p1) + v20.1).toNatClampNeg) (v20.2.2.1 1271 0 v20.1.toNatClampNeg))).2.1 1242 0) (((8 * p1) + v20.1).toNatClampNeg) ((setA v20.2 1241 0 (upd (v20.2.2.1 1241 0) (((8 * p1) + v20.1).toNatClampNeg) (v20.2.2.1 1271 0 v20.1.toNatClampNeg))).2.1 1238 0 (((8 * p1) + v20.1).toNatClampNeg)))) else Sum.inr none else Sum.inr none else Sum.inr none else Sum.inr none else Sum.inr none
noncomputable def f_X12_begin (m : VM) (p1 : Int32) (p2 : Int32) : Option (Int32 × VM) := (f_X12_isPicture m p1).elim none (fun r1 => if r1 = 0 then (f_X12_no m (-1)).elim none (fun r34p => some (r34p.1, r34p.2)) else (f_X12_wants m p2).elim none (fun r3 => if r3 = 0 then if inb p1 8 = true then if (m.2.1 1240 0 p1.toNatClampNeg) = 0 then if inb p1 8 = true then if (m.2.1 1235 0 p1.toNatClampNeg) = 0 then (f_X12_no m (-6)).elim none (fun r12p => some (r12p.1, r12p.2)) else (f_X12_isOrder m p1 p2).elim none (fun r15p => if r15p.1 = 0 then (f_X12_no r15p.2 (-6)).elim none (fun r28p => some (r28p.1, r28p.2)) else if inb p1 8 = true then loopF none (b_X12_begin_74 m p1 p2) (0, setA r15p.2 1240 0 (upd (r15p.2.2.1 1240 0) p1.toNatClampNeg 1)) else none) else none else (f_X12_no m (-6)).elim none (fun r7p => some (r7p.1, r7p.2)) else none else (f_X12_no m r3).elim none (fun r31p => some (r31p.1, r31p.2))))
theorem c_X12_begin {g : GG} {d : Nat} {ad : AD} {x m : VM} {Q : Option Value → VM → VM → Prop} (p1 : Int32) (p2 : Int32) {r9 : Int32} {w9 : VM} (hf : f_X12_begin m p1 p2 = some (r9, w9)) (hq : Q (some (.int r9)) x w9) : CX g (d + 3) MX12_begin [.ref (ad 12 0), .int p1, .int p2] ad x m Q := by
  refine CX.to (Lv := [some (.ref (ad 12 0)), some (.int p1), some (.int p2), none, none]) okX12_begin (Nat.le_of_ble_eq_true rfl) rfl ?_
  obtain ⟨Φ0, hΦ⟩ : ∃ Φ : Option (Int32 × VM) → Prop, Φ = fun o => o = some (r9, w9) := ⟨_, rfl⟩
  have hN0 : Φ0 none → False := by rw [hΦ]; intro h; cases h
  have hR0 : ∀ z9 y9, Φ0 (some (z9, y9)) → Q (some (.int z9)) x y9 := by rw [hΦ]; intro z9 y9 h; cases h; exact hq
  have h9 : Φ0 (f_X12_begin m p1 p2) := by rw [hΦ]; exact hf
  clear hf hq hΦ
  unfold f_X12_begin at h9
  refine e_aload_n dX12_begin_0 rfl rfl ?_
  refine e_iload_n dX12_begin_1 rfl rfl ?_
  obtain ⟨r1, hr1, h9⟩ := elimP hN0 h9
  refine x_callVi (c := 12) (As := [.int p1]) (rest := []) okX12_isPicture lkX12_253 rfl (by decide) rfl dX12_begin_2 rfl rfl (Nat.le_of_ble_eq_true rfl) rfl (c_X12_isPicture p1 hr1 (CI.mk ?_))
  refine e_if_ne (tgt := 14) dX12_begin_5 rfl (fun hc2 => ?_) (fun hc2 => ?_)
  · replace h9 := ifF hc2 h9
    refine e_aload_n dX12_begin_14 rfl rfl ?_
    refine e_iload_n dX12_begin_15 rfl rfl ?_
    obtain ⟨r3, hr3, h9⟩ := elimP hN0 h9
    refine x_callVi (c := 12) (As := [.int p2]) (rest := []) okX12_wants lkX12_280 rfl (by decide) rfl dX12_begin_16 rfl rfl (Nat.le_of_ble_eq_true rfl) rfl (c_X12_wants p2 hr3 (CI.mk ?_))
    refine e_istore_n (L' := [some (.ref (ad 12 0)), some (.int p1), some (.int p2), some (.int r3), none]) dX12_begin_19 rfl (by decide) rfl ?_
    refine e_iload_n dX12_begin_20 rfl rfl ?_
    refine e_if_eq (tgt := 30) dX12_begin_21 rfl (fun hc4 => ?_) (fun hc4 => ?_)
    · replace h9 := ifT hc4 h9
      refine e_aload_n dX12_begin_30 rfl rfl ?_
      refine g_1240 flX12_106 dX12_begin_31 ?_
      refine e_iload_n dX12_begin_34 rfl rfl ?_
      obtain ⟨k5, h9⟩ := chkP hN0 h9
      refine l_1240 dX12_begin_35 (inb_in k5) ?_
      refine e_if_ne (tgt := 57) dX12_begin_36 rfl (fun hc6 => ?_) (fun hc6 => ?_)
      · replace h9 := ifF hc6 h9
        refine e_aload_n dX12_begin_57 rfl rfl ?_
        refine e_bipush (v := (-6)) dX12_begin_58 rfl ?_
        obtain ⟨⟨r7, w8⟩, hr7, h9⟩ := elimP hN0 h9
        refine x_callVi (c := 12) (As := [.int (-6)]) (rest := []) okX12_no lkX12_263 rfl (by decide) rfl dX12_begin_60 rfl rfl (Nat.le_of_ble_eq_true rfl) rfl (c_X12_no (-6) hr7 (CI.mk ?_))
        exact x_iret dX12_begin_63 rfl (hR0 _ _ h9)
      · replace h9 := ifT hc6 h9
        refine e_aload_n dX12_begin_39 rfl rfl ?_
        refine g_1235 flX12_91 dX12_begin_40 ?_
        refine e_iload_n dX12_begin_43 rfl rfl ?_
        obtain ⟨k10, h9⟩ := chkP hN0 h9
        refine l_1235 dX12_begin_44 (inb_in k10) ?_
        refine e_if_eq (tgt := 57) dX12_begin_45 rfl (fun hc11 => ?_) (fun hc11 => ?_)
        · replace h9 := ifT hc11 h9
          refine e_aload_n dX12_begin_57 rfl rfl ?_
          refine e_bipush (v := (-6)) dX12_begin_58 rfl ?_
          obtain ⟨⟨r12, w13⟩, hr12, h9⟩ := elimP hN0 h9
          refine x_callVi (c := 12) (As := [.int (-6)]) (rest := []) okX12_no lkX12_263 rfl (by decide) rfl dX12_begin_60 rfl rfl (Nat.le_of_ble_eq_true rfl) rfl (c_X12_no (-6) hr12 (CI.mk ?_))
          exact x_iret dX12_begin_63 rfl (hR0 _ _ h9)
        · replace h9 := ifF hc11 h9
          refine e_aload_n dX12_begin_48 rfl rfl ?_
          refine e_iload_n dX12_begin_49 rfl rfl ?_
          refine e_iload_n dX12_begin_50 rfl rfl ?_
          obtain ⟨⟨r15, w16⟩, hr15, h9⟩ := elimP hN0 h9
          refine x_callVi (c := 12) (As := [.int p1, .int p2]) (rest := []) okX12_isOrder lkX12_335 rfl (by decide) rfl dX12_begin_51 rfl rfl (Nat.le_of_ble_eq_true rfl) rfl (c_X12_isOrder p1 p2 hr15 (CI.mk ?_))
          refine e_if_ne (tgt := 64) dX12_begin_54 rfl (fun hc18 => ?_) (fun hc18 => ?_)
          · replace h9 := ifF hc18 h9
            refine e_aload_n dX12_begin_64 rfl rfl ?_
            refine g_1240 flX12_106 dX12_begin_65 ?_
            refine e_iload_n dX12_begin_68 rfl rfl ?_
            refine e_iconst (v := 1) dX12_begin_69 rfl ?_
            obtain ⟨k19, h9⟩ := chkP hN0 h9
            refine s_1240 dX12_begin_70 (inb_in k19) (by decide) ?_
            refine e_iconst (v := 0) dX12_begin_71 rfl ?_
            refine e_istore (L' := [some (.ref (ad 12 0)), some (.int p1), some (.int p2), some (.int r3), some (.int 0)]) dX12_begin_72 (by decide) rfl ?_
            refine e_wk (L' := [some (.ref (ad 12 0)), some (.int p1), none, none, some (.int 0)]) (wkC (wkC (wkN (wkN (wkC wk0))))) ?_
            refine loop_gen (b_X12_begin_74 m p1 p2) none (fun v20 => EX g (d + 3) MX12_begin ad x v20.2 74 [some (.ref (ad 12 0)), some (.int p1), none, none, some (.int v20.1)] [] Q) Φ0 hN0 (fun v20 Φ1 hB0_1 hO1 h9 => ?_) (0, setA w16 1240 0 (upd (w16.2.1 1240 0) p1.toNatClampNeg 1)) h9
            have hN1 := fun h => hN0 (hO1 _ h)
            have hR1 := fun r9 x9 h => hR0 r9 x9 (hO1 _ h)
            have hB0_1 : ∀ (z0 : Int32) (z1 : VM), Φ1 (Sum.inl (z0, z1)) → EX g (d + 3) MX12_begin ad x z1 74 [some (.ref (ad 12 0)), some (.int p1), none, none, some (.int z0)] [] Q := fun z0 z1 h => hB0_1 (z0, z1) h
            unfold b_X12_begin_74 at h9
            refine e_iload dX12_begin_74 rfl ?_
            refine e_aload_n dX12_begin_76 rfl rfl ?_
            refine g_1235 flX12_91 dX12_begin_77 ?_
            refine e_iload_n dX12_begin_80 rfl rfl ?_
            obtain ⟨k21, h9⟩ := chkP hN1 h9
            refine l_1235 dX12_begin_81 (inb_in k21) ?_
            refine e_icmp_ge (tgt := 134) dX12_begin_82 rfl (fun hc22 => ?_) (fun hc22 => ?_)
            · replace h9 := ifT hc22 h9
              refine e_aload_n dX12_begin_134 rfl rfl ?_
              refine e_iload_n dX12_begin_135 rfl rfl ?_
              obtain ⟨r23, hr23, h9⟩ := elimP hN1 h9
              refine x_callVi (c := 12) (As := [.int p1]) (rest := []) okX12_costOf lkX12_338 rfl (by decide) rfl dX12_begin_136 rfl rfl (Nat.le_of_ble_eq_true rfl) rfl (c_X12_costOf p1 hr23 (CI.mk ?_))
              exact x_iret dX12_begin_139 rfl (hR1 _ _ h9)
            · replace h9 := ifF hc22 h9
              refine e_aload_n dX12_begin_85 rfl rfl ?_
              refine g_1241 flX12_109 dX12_begin_86 ?_
              refine e_bipush (v := 8) dX12_begin_89 rfl ?_
              refine e_iload_n dX12_begin_91 rfl rfl ?_
              refine e_imul dX12_begin_92 ?_
              refine e_iload dX12_begin_93 rfl ?_
              refine e_iadd dX12_begin_95 ?_
              refine e_aload_n dX12_begin_96 rfl rfl ?_
              refine e_pc (pc' := 97) rfl ?_
              refine g_1271 flX12_199 dX12_begin_97 ?_
              refine e_iload dX12_begin_100 rfl ?_
              obtain ⟨k24, h9⟩ := chkP hN1 h9
              refine l_1271 dX12_begin_102 (inb_in k24) ?_
              obtain ⟨k25, h9⟩ := chkP hN1 h9
              refine s_1241 dX12_begin_103 (inb_in k25) ?_
              refine e_aload_n dX12_begin_104 rfl rfl ?_
              refine g_1242 flX12_112 dX12_begin_105 ?_
              refine e_bipush (v := 8) dX12_begin_108 rfl ?_
              refine e_iload_n dX12_begin_110 rfl rfl ?_
              refine e_imul dX12_begin_111 ?_
              refine e_pc (pc' := 112) rfl ?_
              refine e_iload dX12_begin_112 rfl ?_
              refine e_iadd dX12_begin_114 ?_
              refine e_aload_n dX12_begin_115 rfl rfl ?_
              refine g_1238 flX12_100 dX12_begin_116 ?_
              refine e_bipush (v := 8) dX12_begin_119 rfl ?_
              refine e_iload_n dX12_begin_121 rfl rfl ?_
              refine e_imul dX12_begin_122 ?_
              refine e_iload dX12_begin_123 rfl ?_
              refine e_iadd dX12_begin_125 ?_
              refine e_pc (pc' := 126) rfl ?_
              obtain ⟨k26, h9⟩ := chkP hN1 h9
              refine l_1238 dX12_begin_126 (inb_in k26) ?_
              obtain ⟨k27, h9⟩ := chkP hN1 h9
              refine s_1242 dX12_begin_127 (inb_in k27) ?_
              refine e_iinc (v := (v20.1 + 1)) (L' := [some (.ref (ad 12 0)), some (.int p1), none, none, some (.int (v20.1 + 1))]) dX12_begin_128 rfl rfl (by decide) rfl ?_
              refine e_goto (tgt := 74) dX12_begin_131 rfl ?_
              exact hB0_1 _ _ h9
          · replace h9 := ifT hc18 h9
            refine e_aload_n dX12_begin_57 rfl rfl ?_
            refine e_bipush (v := (-6)) dX12_begin_58 rfl ?_
            obtain ⟨⟨r28, w29⟩, hr28, h9⟩ := elimP hN0 h9
            refine x_callVi (c := 12) (As := [.int (-6)]) (rest := []) okX12_no lkX12_263 rfl (by decide) rfl dX12_begin_60 rfl rfl (Nat.le_of_ble_eq_true rfl) rfl (c_X12_no (-6) hr28 (CI.mk ?_))
            exact x_iret dX12_begin_63 rfl (hR0 _ _ h9)
    · replace h9 := ifF hc4 h9
      refine e_aload_n dX12_begin_24 rfl rfl ?_
      refine e_iload_n dX12_begin_25 rfl rfl ?_
      obtain ⟨⟨r31, w32⟩, hr31, h9⟩ := elimP hN0 h9
      refine x_callVi (c := 12) (As := [.int r3]) (rest := []) okX12_no lkX12_263 rfl (by decide) rfl dX12_begin_26 rfl rfl (Nat.le_of_ble_eq_true rfl) rfl (c_X12_no r3 hr31 (CI.mk ?_))
      exact x_iret dX12_begin_29 rfl (hR0 _ _ h9)
  · replace h9 := ifT hc2 h9
    refine e_aload_n dX12_begin_8 rfl rfl ?_
    refine e_iconst (v := (-1)) dX12_begin_9 rfl ?_
    obtain ⟨⟨r34, w35⟩, hr34, h9⟩ := elimP hN0 h9
    refine x_callVi (c := 12) (As := [.int (-1)]) (rest := []) okX12_no lkX12_263 rfl (by decide) rfl dX12_begin_10 rfl rfl (Nat.le_of_ble_eq_true rfl) rfl (c_X12_no (-1) hr34 (CI.mk ?_))
    exact x_iret dX12_begin_13 rfl (hR0 _ _ h9)
noncomputable def f_X12_retake (m : VM) (p1 : Int32) (p2 : Int32) : Option (Int32 × VM) := (f_X12_isScene m p1 p2).elim none (fun r1 => if r1 = 0 then (f_X12_no m (-1)).elim none (fun r15p => some (r15p.1, r15p.2)) else if inb p1 8 = true then if (m.2.1 1240 0 p1.toNatClampNeg) = 0 then (f_X12_no m (-6)).elim none (fun r12p => some (r12p.1, r12p.2)) else if inb ((8 * p1) + p2) 64 = true then if (m.2.1 1242 0 (((8 * p1) + p2).toNatClampNeg)) = 9 then (f_X12_no m (-7)).elim none (fun r9p => some (r9p.1, r9p.2)) else if inb ((8 * p1) + p2) 64 = true then if inb ((8 * p1) + p2) 64 = true then some ((m.2.1 1242 0 (((8 * p1) + p2).toNatClampNeg)) + 1, setA m 1242 0 (upd (m.2.1 1242 0) (((8 * p1) + p2).toNatClampNeg) ((m.2.1 1242 0 (((8 * p1) + p2).toNatClampNeg)) + 1))) else none else none else none else none)
theorem c_X12_retake {g : GG} {d : Nat} {ad : AD} {x m : VM} {Q : Option Value → VM → VM → Prop} (p1 : Int32) (p2 : Int32) {r9 : Int32} {w9 : VM} (hf : f_X12_retake m p1 p2 = some (r9, w9)) (hq : Q (some (.int r9)) x w9) : CX g (d + 2) MX12_retake [.ref (ad 12 0), .int p1, .int p2] ad x m Q := by
  refine CX.to (Lv := [some (.ref (ad 12 0)), some (.int p1), some (.int p2)]) okX12_retake (Nat.le_of_ble_eq_true rfl) rfl ?_
  obtain ⟨Φ0, hΦ⟩ : ∃ Φ : Option (Int32 × VM) → Prop, Φ = fun o => o = some (r9, w9) := ⟨_, rfl⟩
  have hN0 : Φ0 none → False := by rw [hΦ]; intro h; cases h
  have hR0 : ∀ z9 y9, Φ0 (some (z9, y9)) → Q (some (.int z9)) x y9 := by rw [hΦ]; intro z9 y9 h; cases h; exact hq
  have h9 : Φ0 (f_X12_retake m p1 p2) := by rw [hΦ]; exact hf
  clear hf hq hΦ
  unfold f_X12_retake at h9
  refine e_aload_n dX12_retake_0 rfl rfl ?_
  refine e_iload_n dX12_retake_1 rfl rfl ?_
  refine e_iload_n dX12_retake_2 rfl rfl ?_
  obtain ⟨r1, hr1, h9⟩ := elimP hN0 h9
  refine x_callVi (c := 12) (As := [.int p1, .int p2]) (rest := []) okX12_isScene lkX12_312 rfl (by decide) rfl dX12_retake_3 rfl rfl (Nat.le_of_ble_eq_true rfl) rfl (c_X12_isScene p1 p2 hr1 (CI.mk ?_))
  refine e_if_ne (tgt := 15) dX12_retake_6 rfl (fun hc2 => ?_) (fun hc2 => ?_)
  · replace h9 := ifF hc2 h9
    refine e_aload_n dX12_retake_15 rfl rfl ?_
    refine g_1240 flX12_106 dX12_retake_16 ?_
    refine e_iload_n dX12_retake_19 rfl rfl ?_
    obtain ⟨k3, h9⟩ := chkP hN0 h9
    refine l_1240 dX12_retake_20 (inb_in k3) ?_
    refine e_if_ne (tgt := 31) dX12_retake_21 rfl (fun hc4 => ?_) (fun hc4 => ?_)
    · replace h9 := ifF hc4 h9
      refine e_aload_n dX12_retake_31 rfl rfl ?_
      refine g_1242 flX12_112 dX12_retake_32 ?_
      refine e_bipush (v := 8) dX12_retake_35 rfl ?_
      refine e_iload_n dX12_retake_37 rfl rfl ?_
      refine e_imul dX12_retake_38 ?_
      refine e_iload_n dX12_retake_39 rfl rfl ?_
      refine e_iadd dX12_retake_40 ?_
      obtain ⟨k5, h9⟩ := chkP hN0 h9
      refine l_1242 dX12_retake_41 (inb_in k5) ?_
      refine e_pc (pc' := 42) rfl ?_
      refine e_bipush (v := 9) dX12_retake_42 rfl ?_
      refine e_icmp_ne (tgt := 54) dX12_retake_44 rfl (fun hc6 => ?_) (fun hc6 => ?_)
      · replace h9 := ifF hc6 h9
        refine e_aload_n dX12_retake_54 rfl rfl ?_
        refine g_1242 flX12_112 dX12_retake_55 ?_
        refine e_bipush (v := 8) dX12_retake_58 rfl ?_
        refine e_iload_n dX12_retake_60 rfl rfl ?_
        refine e_imul dX12_retake_61 ?_
        refine e_iload_n dX12_retake_62 rfl rfl ?_
        refine e_iadd dX12_retake_63 ?_
        refine e_dup2_11 dX12_retake_64 rfl rfl ?_
        refine e_pc (pc' := 65) rfl ?_
        obtain ⟨k7, h9⟩ := chkP hN0 h9
        refine l_1242 dX12_retake_65 (inb_in k7) ?_
        refine e_iconst (v := 1) dX12_retake_66 rfl ?_
        refine e_iadd dX12_retake_67 ?_
        refine e_dup_x2 dX12_retake_68 rfl rfl rfl ?_
        obtain ⟨k8, h9⟩ := chkP hN0 h9
        refine s_1242 dX12_retake_69 (inb_in k8) ?_
        exact x_iret dX12_retake_70 rfl (hR0 _ _ h9)
      · replace h9 := ifT hc6 h9
        refine e_aload_n dX12_retake_47 rfl rfl ?_
        refine e_bipush (v := (-7)) dX12_retake_48 rfl ?_
        obtain ⟨⟨r9, w10⟩, hr9, h9⟩ := elimP hN0 h9
        refine x_callVi (c := 12) (As := [.int (-7)]) (rest := []) okX12_no lkX12_263 rfl (by decide) rfl dX12_retake_50 rfl rfl (Nat.le_of_ble_eq_true rfl) rfl (c_X12_no (-7) hr9 (CI.mk ?_))
        exact x_iret dX12_retake_53 rfl (hR0 _ _ h9)
    · replace h9 := ifT hc4 h9
      refine e_aload_n dX12_retake_24 rfl rfl ?_
      refine e_bipush (v := (-6)) dX12_retake_25 rfl ?_
      obtain ⟨⟨r12, w13⟩, hr12, h9⟩ := elimP hN0 h9
      refine x_callVi (c := 12) (As := [.int (-6)]) (rest := []) okX12_no lkX12_263 rfl (by decide) rfl dX12_retake_27 rfl rfl (Nat.le_of_ble_eq_true rfl) rfl (c_X12_no (-6) hr12 (CI.mk ?_))
      exact x_iret dX12_retake_30 rfl (hR0 _ _ h9)
  · replace h9 := ifT hc2 h9
    refine e_aload_n dX12_retake_9 rfl rfl ?_
    refine e_iconst (v := (-1)) dX12_retake_10 rfl ?_
    obtain ⟨⟨r15, w16⟩, hr15, h9⟩ := elimP hN0 h9
    refine x_callVi (c := 12) (As := [.int (-1)]) (rest := []) okX12_no lkX12_263 rfl (by decide) rfl dX12_retake_11 rfl rfl (Nat.le_of_ble_eq_true rfl) rfl (c_X12_no (-1) hr15 (CI.mk ?_))
    exact x_iret dX12_retake_14 rfl (hR0 _ _ h9)
noncomputable def b_X12_canShoot_2 (m : VM) (p1 : Int32) (v1 : Int32) : (Int32) ⊕ (Option (Int32)) := if (m.1 1202 0) ≤ v1 then Sum.inr (some 1) else if inb p1 64 = true then if (((m.2.1 1237 0 p1.toNatClampNeg) >>> (v1 &&& 31)) &&& 1) = 1 then if (((m.1 1275 0) >>> (v1 &&& 31)) &&& 1) = 1 then Sum.inr (some 0) else (f_X12_isReady m v1 (m.1 1200 0)).elim (Sum.inr none) (fun r6 => if r6 = 0 then Sum.inr (some 0) else Sum.inl (v1 + 1)) else Sum.inl (v1 + 1) else Sum.inr none
noncomputable def f_X12_canShoot (m : VM) (p1 : Int32) : Option (Int32) := loopF none (b_X12_canShoot_2 m p1) 0
theorem c_X12_canShoot {g : GG} {d : Nat} {ad : AD} {x m : VM} {Q : Option Value → VM → VM → Prop} (p1 : Int32) {r9 : Int32} (hf : f_X12_canShoot m p1 = some r9) (hq : Q (some (.int r9)) x m) : CX g (d + 2) MX12_canShoot [.ref (ad 12 0), .int p1] ad x m Q := by
  refine CX.to (Lv := [some (.ref (ad 12 0)), some (.int p1), none]) okX12_canShoot (Nat.le_of_ble_eq_true rfl) rfl ?_
  obtain ⟨Φ0, hΦ⟩ : ∃ Φ : Option (Int32) → Prop, Φ = fun o => o = some r9 := ⟨_, rfl⟩
  have hN0 : Φ0 none → False := by rw [hΦ]; intro h; cases h
  have hR0 : ∀ z9, Φ0 (some z9) → Q (some (.int z9)) x m := by rw [hΦ]; intro z9 h; cases h; exact hq
  have h9 : Φ0 (f_X12_canShoot m p1) := by rw [hΦ]; exact hf
  clear hf hq hΦ
  unfold f_X12_canShoot at h9
  refine e_iconst (v := 0) dX12_canShoot_0 rfl ?_
  refine e_istore_n (L' := [some (.ref (ad 12 0)), some (.int p1), some (.int 0)]) dX12_canShoot_1 rfl (by decide) rfl ?_
  refine loop_gen (b_X12_canShoot_2 m p1) none (fun v1 => EX g (d + 2) MX12_canShoot ad x m 2 [some (.ref (ad 12 0)), some (.int p1), some (.int v1)] [] Q) Φ0 hN0 (fun v1 Φ1 hB0_1 hO1 h9 => ?_) 0 h9
  have hN1 := fun h => hN0 (hO1 _ h)
  have hR1 := fun r9 h => hR0 r9 (hO1 _ h)
  have hB0_1 : ∀ (z0 : Int32), Φ1 (Sum.inl z0) → EX g (d + 2) MX12_canShoot ad x m 2 [some (.ref (ad 12 0)), some (.int p1), some (.int z0)] [] Q := fun z0 h => hB0_1 z0 h
  unfold b_X12_canShoot_2 at h9
  refine e_iload_n dX12_canShoot_2 rfl rfl ?_
  refine e_aload_n dX12_canShoot_3 rfl rfl ?_
  refine g_1202 flX12_247 dX12_canShoot_4 ?_
  refine e_icmp_ge (tgt := 56) dX12_canShoot_7 rfl (fun hc2 => ?_) (fun hc2 => ?_)
  · replace h9 := ifT hc2 h9
    refine e_iconst (v := 1) dX12_canShoot_56 rfl ?_
    exact x_zret dX12_canShoot_57 rfl (by decide) (hR1 _ h9)
  · replace h9 := ifF hc2 h9
    refine e_aload_n dX12_canShoot_10 rfl rfl ?_
    refine g_1237 flX12_97 dX12_canShoot_11 ?_
    refine e_iload_n dX12_canShoot_14 rfl rfl ?_
    obtain ⟨k3, h9⟩ := chkP hN1 h9
    refine l_1237 dX12_canShoot_15 (inb_in k3) ?_
    refine e_iload_n dX12_canShoot_16 rfl rfl ?_
    refine e_ishr dX12_canShoot_17 ?_
    refine e_iconst (v := 1) dX12_canShoot_18 rfl ?_
    refine e_iand dX12_canShoot_19 ?_
    refine e_pc (pc' := 20) rfl ?_
    refine e_iconst (v := 1) dX12_canShoot_20 rfl ?_
    refine e_icmp_ne (tgt := 50) dX12_canShoot_21 rfl (fun hc4 => ?_) (fun hc4 => ?_)
    · replace h9 := ifF hc4 h9
      refine e_iinc (v := (v1 + 1)) (L' := [some (.ref (ad 12 0)), some (.int p1), some (.int (v1 + 1))]) dX12_canShoot_50 rfl rfl (by decide) rfl ?_
      refine e_goto (tgt := 2) dX12_canShoot_53 rfl ?_
      exact hB0_1 _ h9
    · replace h9 := ifT hc4 h9
      refine e_aload_n dX12_canShoot_24 rfl rfl ?_
      refine g_1275 flX12_341 dX12_canShoot_25 ?_
      refine e_iload_n dX12_canShoot_28 rfl rfl ?_
      refine e_ishr dX12_canShoot_29 ?_
      refine e_iconst (v := 1) dX12_canShoot_30 rfl ?_
      refine e_iand dX12_canShoot_31 ?_
      refine e_iconst (v := 1) dX12_canShoot_32 rfl ?_
      refine e_icmp_eq (tgt := 48) dX12_canShoot_33 rfl (fun hc5 => ?_) (fun hc5 => ?_)
      · replace h9 := ifT hc5 h9
        refine e_iconst (v := 0) dX12_canShoot_48 rfl ?_
        exact x_zret dX12_canShoot_49 rfl (by decide) (hR1 _ h9)
      · replace h9 := ifF hc5 h9
        refine e_aload_n dX12_canShoot_36 rfl rfl ?_
        refine e_iload_n dX12_canShoot_37 rfl rfl ?_
        refine e_aload_n dX12_canShoot_38 rfl rfl ?_
        refine g_1200 flX12_286 dX12_canShoot_39 ?_
        obtain ⟨r6, hr6, h9⟩ := elimP hN1 h9
        refine x_callVi (c := 12) (As := [.int v1, .int (m.1 1200 0)]) (rest := []) okX12_isReady lkX12_344 rfl (by decide) rfl dX12_canShoot_42 rfl rfl (Nat.le_of_ble_eq_true rfl) rfl (c_X12_isReady v1 (m.1 1200 0) hr6 (CI.mk ?_))
        refine e_if_ne (tgt := 50) dX12_canShoot_45 rfl (fun hc7 => ?_) (fun hc7 => ?_)
        · replace h9 := ifF hc7 h9
          refine e_iinc (v := (v1 + 1)) (L' := [some (.ref (ad 12 0)), some (.int p1), some (.int (v1 + 1))]) dX12_canShoot_50 rfl rfl (by decide) rfl ?_
          refine e_goto (tgt := 2) dX12_canShoot_53 rfl ?_
          exact hB0_1 _ h9
        · replace h9 := ifT hc7 h9
          refine e_iconst (v := 0) dX12_canShoot_48 rfl ?_
          exact x_zret dX12_canShoot_49 rfl (by decide) (hR1 _ h9)
noncomputable def b_X12_leftOf_4 (m : VM) (p1 : Int32) (v1 : Int32 × Int32) : (Int32 × Int32) ⊕ (Option (Int32)) := if inb p1 8 = true then if (m.2.1 1235 0 p1.toNatClampNeg) ≤ v1.2 then Sum.inr (some v1.1) else if inb ((8 * p1) + v1.2) 64 = true then Sum.inl (v1.1 + (m.2.1 1242 0 (((8 * p1) + v1.2).toNatClampNeg)), v1.2 + 1) else Sum.inr none else Sum.inr none
noncomputable def f_X12_leftOf (m : VM) (p1 : Int32) : Option (Int32) := loopF none (b_X12_leftOf_4 m p1) (0, 0)
theorem c_X12_leftOf {g : GG} {d : Nat} {ad : AD} {x m : VM} {Q : Option Value → VM → VM → Prop} (p1 : Int32) {r9 : Int32} (hf : f_X12_leftOf m p1 = some r9) (hq : Q (some (.int r9)) x m) : CX g d MX12_leftOf [.ref (ad 12 0), .int p1] ad x m Q := by
  refine CX.to (Lv := [some (.ref (ad 12 0)), some (.int p1), none, none]) okX12_leftOf (Nat.le_of_ble_eq_true rfl) rfl ?_
  obtain ⟨Φ0, hΦ⟩ : ∃ Φ : Option (Int32) → Prop, Φ = fun o => o = some r9 := ⟨_, rfl⟩
  have hN0 : Φ0 none → False := by rw [hΦ]; intro h; cases h
  have hR0 : ∀ z9, Φ0 (some z9) → Q (some (.int z9)) x m := by rw [hΦ]; intro z9 h; cases h; exact hq
  have h9 : Φ0 (f_X12_leftOf m p1) := by rw [hΦ]; exact hf
  clear hf hq hΦ
  unfold f_X12_leftOf at h9
  refine e_iconst (v := 0) dX12_leftOf_0 rfl ?_
  refine e_istore_n (L' := [some (.ref (ad 12 0)), some (.int p1), some (.int 0), none]) dX12_leftOf_1 rfl (by decide) rfl ?_
  refine e_iconst (v := 0) dX12_leftOf_2 rfl ?_
  refine e_istore_n (L' := [some (.ref (ad 12 0)), some (.int p1), some (.int 0), some (.int 0)]) dX12_leftOf_3 rfl (by decide) rfl ?_
  refine loop_gen (b_X12_leftOf_4 m p1) none (fun v1 => EX g d MX12_leftOf ad x m 4 [some (.ref (ad 12 0)), some (.int p1), some (.int v1.1), some (.int v1.2)] [] Q) Φ0 hN0 (fun v1 Φ1 hB0_1 hO1 h9 => ?_) (0, 0) h9
  have hN1 := fun h => hN0 (hO1 _ h)
  have hR1 := fun r9 h => hR0 r9 (hO1 _ h)
  have hB0_1 : ∀ (z0 : Int32) (z1 : Int32), Φ1 (Sum.inl (z0, z1)) → EX g d MX12_leftOf ad x m 4 [some (.ref (ad 12 0)), some (.int p1), some (.int z0), some (.int z1)] [] Q := fun z0 z1 h => hB0_1 (z0, z1) h
  unfold b_X12_leftOf_4 at h9
  refine e_iload_n dX12_leftOf_4 rfl rfl ?_
  refine e_aload_n dX12_leftOf_5 rfl rfl ?_
  refine g_1235 flX12_91 dX12_leftOf_6 ?_
  refine e_iload_n dX12_leftOf_9 rfl rfl ?_
  obtain ⟨k2, h9⟩ := chkP hN1 h9
  refine l_1235 dX12_leftOf_10 (inb_in k2) ?_
  refine e_icmp_ge (tgt := 34) dX12_leftOf_11 rfl (fun hc3 => ?_) (fun hc3 => ?_)
  · replace h9 := ifT hc3 h9
    refine e_iload_n dX12_leftOf_34 rfl rfl ?_
    exact x_iret dX12_leftOf_35 rfl (hR1 _ h9)
  · replace h9 := ifF hc3 h9
    refine e_iload_n dX12_leftOf_14 rfl rfl ?_
    refine e_aload_n dX12_leftOf_15 rfl rfl ?_
    refine g_1242 flX12_112 dX12_leftOf_16 ?_
    refine e_bipush (v := 8) dX12_leftOf_19 rfl ?_
    refine e_iload_n dX12_leftOf_21 rfl rfl ?_
    refine e_imul dX12_leftOf_22 ?_
    refine e_iload_n dX12_leftOf_23 rfl rfl ?_
    refine e_iadd dX12_leftOf_24 ?_
    refine e_pc (pc' := 25) rfl ?_
    obtain ⟨k4, h9⟩ := chkP hN1 h9
    refine l_1242 dX12_leftOf_25 (inb_in k4) ?_
    refine e_iadd dX12_leftOf_26 ?_
    refine e_istore_n (L' := [some (.ref (ad 12 0)), some (.int p1), some (.int (v1.1 + (m.2.1 1242 0 (((8 * p1) + v1.2).toNatClampNeg)))), some (.int v1.2)]) dX12_leftOf_27 rfl (by decide) rfl ?_
    refine e_iinc (v := (v1.2 + 1)) (L' := [some (.ref (ad 12 0)), some (.int p1), some (.int (v1.1 + (m.2.1 1242 0 (((8 * p1) + v1.2).toNatClampNeg)))), some (.int (v1.2 + 1))]) dX12_leftOf_28 rfl rfl (by decide) rfl ?_
    refine e_goto (tgt := 4) dX12_leftOf_31 rfl ?_
    exact hB0_1 _ _ h9
noncomputable def b_X12_shoots_2 (m : VM) (p1 : Int32) (v1 : Int32) : (Int32) ⊕ (Option (VM)) := if inb p1 8 = true then if (m.2.1 1235 0 p1.toNatClampNeg) ≤ v1 then if inb p1 8 = true then if inb p1 8 = true then Sum.inr (some (setA m 1244 0 (upd (m.2.1 1244 0) p1.toNatClampNeg ((m.2.1 1244 0 p1.toNatClampNeg) + 1)))) else Sum.inr none else Sum.inr none else if inb ((8 * p1) + v1) 64 = true then if inb ((8 * p1) + (m.2.1 1241 0 (((8 * p1) + v1).toNatClampNeg))) 64 = true then if (m.2.1 1242 0 (((8 * p1) + (m.2.1 1241 0 (((8 * p1) + v1).toNatClampNeg))).toNatClampNeg)) = 0 then Sum.inl (v1 + 1) else (f_X12_canShoot m ((8 * p1) + (m.2.1 1241 0 (((8 * p1) + v1).toNatClampNeg)))).elim (Sum.inr none) (fun r9 => if r9 = 0 then Sum.inl (v1 + 1) else if inb ((8 * p1) + (m.2.1 1241 0 (((8 * p1) + v1).toNatClampNeg))) 64 = true then if inb p1 8 = true then if (m.2.1 1236 0 (((8 * p1) + (m.2.1 1241 0 (((8 * p1) + v1).toNatClampNeg))).toNatClampNeg)) = (m.2.1 1243 0 p1.toNatClampNeg) then if inb ((8 * p1) + (m.2.1 1241 0 (((8 * p1) + v1).toNatClampNeg))) 64 = true then if inb ((8 * p1) + (m.2.1 1241 0 (((8 * p1) + v1).toNatClampNeg))) 64 = true then if inb p1 8 = true then if inb p1 8 = true then if inb ((8 * p1) + (m.2.1 1241 0 (((8 * p1) + v1).toNatClampNeg))) 64 = true then Sum.inr (some (setI (setA (setA (setI m 1201 0 ((m.1 1201 0) - (m.1 1206 0))) 1242 0 (upd ((setI m 1201 0 ((m.1 1201 0) - (m.1 1206 0))).2.1 1242 0) (((8 * p1) + (m.2.1 1241 0 (((8 * p1) + v1).toNatClampNeg))).toNatClampNeg) (((setI m 1201 0 ((m.1 1201 0) - (m.1 1206 0))).2.1 1242 0 (((8 * p1) + (m.2.1 1241 0 (((8 * p1) + v1).toNatClampNeg))).toNatClampNeg)) - 1))) 1245 0 (upd ((setA (setI m 1201 0 ((m.1 1201 0) - (m.1 1206 0))) 1242 0 (upd ((setI m 1201 0 ((m.1 1201 0) - (m.1 1206 0))).2.1 1242 0) (((8 * p1) + (m.2.1 1241 0 (((8 * p1) + v1).toNatClampNeg))).toNatClampNeg) (((setI m 1201 0 ((m.1 1201 0) - (m.1 1206 0))).2.1 1242 0 (((8 * p1) + (m.2.1 1241 0 (((8 * p1) + v1).toNatClampNeg))).toNatClampNeg)) - 1))).2.1 1245 0) p1.toNatClampNeg (((setA (setI m 1201 0 ((m.1 1201 0) - (m.1 1206 0))) 1242 0 (upd ((setI m 1201 0 ((m.1 1201 0) - (m.1 1206 0))).2.1 1242 0) (((8 * p1) + (m.2.1 1241 0 (((8 * p1) + v1).toNatClampNeg))).toNatClampNeg) (((setI m 1201 0 ((m.1 1201 0) - (m.1 1206 0))).2.1 1242 0 (((8 * p1) + (m.2.1 1241 0 (((8 * p1) + v1).toNatClampNeg))).toNatClampNeg)) - 1))).2.1 1245 0 p1.toNatClampNeg) + 1))) 1275 0 (((setA (setA (setI m 1201 0 ((m.1 1201 0) - (m.1 1206 0))) 1242 0 (upd ((setI m 1201 0 ((m.1 1201 0) - (m.1 1206 0))).2.1 1242 0) (((8 * p1) + (m.2.1 1241 0 (((8 * p1) + v1).toNatClampNeg))).toNatClampNeg) (((setI m 1201 0 ((m.1 1201 0) - (m.1 1206 0))).2.1 1242 0 (((8 * p1) + (m.2.1 1241 0 (((8 * p1) + v1).toNatClampNeg))).toNatClampNeg)) - 1))) 1245 0 (upd ((setA (setI m 1201 0 ((m.1 1201 0) - (m.1 1206 0))) 1242 0 (upd ((setI m 1201 0 ((m.1 1201 0) - (m.1 1206 0))).2.1 1242 0) (((8 * p1) + (m.2.1 1241 0 (((8 * p1) + v1).toNatClampNeg))).toNatClampNeg) (((setI m 1201 0 ((m.1 1201 0) - (m.1 1206 0))).2.1 1242 0 (((8 * p1) + (m.2.1 1241 0 (((8 * p1) + v1).toNatClampNeg))).toNatClampNeg)) - 1))).2.1 1245 0) p1.toNatClampNeg (((setA (setI m 1201 0 ((m.1 1201 0) - (m.1 1206 0))) 1242 0 (upd ((setI m 1201 0 ((m.1 1201 0) - (m.1 1206 0))).2.1 1242 0) (((8 * p1) + (m.2.1 1241 0 (((8 * p1) + v1).toNatClampNeg))).toNatClampNeg) (((setI m 1201 0 ((m.1 1201 0) - (m.1 1206 0))).2.1 1242 0 (((8 * p1) + (m.2.1 1241 0 (((8 * p1) + v1).toNatClampNeg))).toNatClampNeg)) - 1))).2.1 1245 0 p1.toNatClampNeg) + 1))).1 1275 0) ||| ((setA (setA (setI m 1201 0 ((m.1 1201 0) - (m.1 1206 0))) 1242 0 (upd ((setI m 1201 0 ((m.1 1201 0) - (m.1 1206 0))).2.1 1242 0) (((8 * p1) + (m.2.1 1241 0 (((8 * p1) + v1).toNatClampNeg))).toNatClampNeg) (((setI m 1201 0 ((m.1 1201 0) - (m.1 1206 0))).2.1 1242 0 (((8 * p1) + (m.2.1 1241 0 (((8 * p1) + v1).toNatClampNeg))).toNatClampNeg)) - 1))) 1245 0 (upd ((setA (setI m 1201 0 ((m.1 1201 0) - (m.1 1206 0))) 1242 0 (upd ((setI m 1201 0 ((m.1 1201 0) - (m.1 1206 0))).2.1 1242 0) (((8 * p1) + (m.2.1 1241 0 (((8 * p1) + v1).toNatClampNeg))).toNatClampNeg) (((setI m 1201 0 ((m.1 1201 0) - (m.1 1206 0))).2.1 1242 0 (((8 * p1) + (m.2.1 1241 0 (((8 * p1) + v1).toNatClampNeg))).toNatClampNeg)) - 1))).2.1 1245 0) p1.toNatClampNeg (((setA (setI m 1201 0 ((m.1 1201 0) - (m.1 1206 0))) 1242 0 (upd ((setI m 1201 0 ((m.1 1201 0) - (m.1 1206 0))).2.1 1242 0) (((8 * p1) + (m.2.1 1241 0 (((8 * p1) + v1).toNatClampNeg))).toNatClampNeg) (((setI m 1201 0 ((m.1 1201 0) - (m.1 1206 0))).2.1 1242 0 (((8 * p1) + (m.2.1 1241 0 (((8 * p1) + v1).toNatClampNeg))).toNatClampNeg)) - 1))).2.1 1245 0 p1.toNatClampNeg) + 1))).2.1 1237 0 (((8 * p1) + (m.2.1 1241 0 (((8 * p1) + v1).toNatClampNeg))).toNatClampNeg))))) else Sum.inr none else Sum.inr none else Sum.inr none else Sum.inr none else Sum.inr none else if inb ((8 * p1) + (m.2.1 1241 0 (((8 * p1) + v1).toNatClampNeg))) 64 = true then if inb p1 8 = true then if inb p1 8 = true then if inb p1 8 = true then Sum.inr (some (setA (setI (setA m 1243 0 (upd (m.2.1 1243 0) p1.toNatClampNeg (m.2.1 1236 0 (((8 * p1) + (m.2.1 1241 0 (((8 * p1) + v1).toNatClampNeg))).toNatClampNeg)))) 1201 0 (((setA m 1243 0 (upd (m.2.1 1243 0) p1.toNatClampNeg (m.2.1 1236 0 (((8 * p1) + (m.2.1 1241 0 (((8 * p1) + v1).toNatClampNeg))).toNatClampNeg)))).1 1201 0) - ((setA m 1243 0 (upd (m.2.1 1243 0) p1.toNatClampNeg (m.2.1 1236 0 (((8 * p1) + (m.2.1 1241 0 (((8 * p1) + v1).toNatClampNeg))).toNatClampNeg)))).1 1207 0))) 1246 0 (upd ((setI (setA m 1243 0 (upd (m.2.1 1243 0) p1.toNatClampNeg (m.2.1 1236 0 (((8 * p1) + (m.2.1 1241 0 (((8 * p1) + v1).toNatClampNeg))).toNatClampNeg)))) 1201 0 (((setA m 1243 0 (upd (m.2.1 1243 0) p1.toNatClampNeg (m.2.1 1236 0 (((8 * p1) + (m.2.1 1241 0 (((8 * p1) + v1).toNatClampNeg))).toNatClampNeg)))).1 1201 0) - ((setA m 1243 0 (upd (m.2.1 1243 0) p1.toNatClampNeg (m.2.1 1236 0 (((8 * p1) + (m.2.1 1241 0 (((8 * p1) + v1).toNatClampNeg))).toNatClampNeg)))).1 1207 0))).2.1 1246 0) p1.toNatClampNeg (((setI (setA m 1243 0 (upd (m.2.1 1243 0) p1.toNatClampNeg (m.2.1 1236 0 (((8 * p1) + (m.2.1 1241 0 (((8 * p1) + v1).toNatClampNeg))).toNatClampNeg)))) 1201 0 (((setA m 1243 0 (upd (m.2.1 1243 0) p1.toNatClampNeg (m.2.1 1236 0 (((8 * p1) + (m.2.1 1241 0 (((8 * p1) + v1).toNatClampNeg))).toNatClampNeg)))).1 1201 0) - ((setA m 1243 0 (upd (m.2.1 1243 0) p1.toNatClampNeg (m.2.1 1236 0 (((8 * p1) + (m.2.1 1241 0 (((8 * p1) + v1).toNatClampNeg))).toNatClampNeg)))).1 1207 0))).2.1 1246 0 p1.toNatClampNeg) + 1)))) else Sum.inr none else Sum.inr none else Sum.inr none else Sum.inr none else Sum.inr none else Sum.inr none) else Sum.inr none else Sum.inr none else Sum.inr none
noncomputable def f_X12_shoots (m : VM) (p1 : Int32) : Option (VM) := loopF none (b_X12_shoots_2 m p1) 0
theorem c_X12_shoots {g : GG} {d : Nat} {ad : AD} {x m : VM} {Q : Option Value → VM → VM → Prop} (p1 : Int32) {w9 : VM} (hf : f_X12_shoots m p1 = some w9) (hq : Q none x w9) : CX g (d + 3) MX12_shoots [.ref (ad 12 0), .int p1] ad x m Q := by
  refine CX.to (Lv := [some (.ref (ad 12 0)), some (.int p1), none, none]) okX12_shoots (Nat.le_of_ble_eq_true rfl) rfl ?_
  obtain ⟨Φ0, hΦ⟩ : ∃ Φ : Option (VM) → Prop, Φ = fun o => o = some w9 := ⟨_, rfl⟩
  have hN0 : Φ0 none → False := by rw [hΦ]; intro h; cases h
  have hR0 : ∀ z9, Φ0 (some z9) → Q none x z9 := by rw [hΦ]; intro z9 h; cases h; exact hq
  have h9 : Φ0 (f_X12_shoots m p1) := by rw [hΦ]; exact hf
  clear hf hq hΦ
  unfold f_X12_shoots at h9
  refine e_iconst (v := 0) dX12_shoots_0 rfl ?_
  refine e_istore_n (L' := [some (.ref (ad 12 0)), some (.int p1), some (.int 0), none]) dX12_shoots_1 rfl (by decide) rfl ?_
  refine loop_gen (b_X12_shoots_2 m p1) none (fun v1 => EX g (d + 3) MX12_shoots ad x m 2 [some (.ref (ad 12 0)), some (.int p1), some (.int v1), none] [] Q) Φ0 hN0 (fun v1 Φ1 hB0_1 hO1 h9 => ?_) 0 h9
  have hN1 := fun h => hN0 (hO1 _ h)
  have hR1 := fun r9 h => hR0 r9 (hO1 _ h)
  have hB0_1 : ∀ (z0 : Int32), Φ1 (Sum.inl z0) → EX g (d + 3) MX12_shoots ad x m 2 [some (.ref (ad 12 0)), some (.int p1), some (.int z0), none] [] Q := fun z0 h => hB0_1 z0 h
  unfold b_X12_shoots_2 at h9
  refine e_iload_n dX12_shoots_2 rfl rfl ?_
  refine e_aload_n dX12_shoots_3 rfl rfl ?_
  refine g_1235 flX12_91 dX12_shoots_4 ?_
  refine e_iload_n dX12_shoots_7 rfl rfl ?_
  obtain ⟨k2, h9⟩ := chkP hN1 h9
  refine l_1235 dX12_shoots_8 (inb_in k2) ?_
  refine e_icmp_ge (tgt := 157) dX12_shoots_9 rfl (fun hc3 => ?_) (fun hc3 => ?_)
  · replace h9 := ifT hc3 h9
    refine e_aload_n dX12_shoots_157 rfl rfl ?_
    refine g_1244 flX12_118 dX12_shoots_158 ?_
    refine e_iload_n dX12_shoots_161 rfl rfl ?_
    refine e_dup2_11 dX12_shoots_162 rfl rfl ?_
    obtain ⟨k4, h9⟩ := chkP hN1 h9
    refine l_1244 dX12_shoots_163 (inb_in k4) ?_
    refine e_iconst (v := 1) dX12_shoots_164 rfl ?_
    refine e_iadd dX12_shoots_165 ?_
    obtain ⟨k5, h9⟩ := chkP hN1 h9
    refine s_1244 dX12_shoots_166 (inb_in k5) ?_
    refine e_pc (pc' := 167) rfl ?_
    exact x_vret dX12_shoots_167 rfl (hR1 _ h9)
  · replace h9 := ifF hc3 h9
    refine e_bipush (v := 8) dX12_shoots_12 rfl ?_
    refine e_iload_n dX12_shoots_14 rfl rfl ?_
    refine e_imul dX12_shoots_15 ?_
    refine e_aload_n dX12_shoots_16 rfl rfl ?_
    refine g_1241 flX12_109 dX12_shoots_17 ?_
    refine e_bipush (v := 8) dX12_shoots_20 rfl ?_
    refine e_iload_n dX12_shoots_22 rfl rfl ?_
    refine e_imul dX12_shoots_23 ?_
    refine e_pc (pc' := 24) rfl ?_
    refine e_iload_n dX12_shoots_24 rfl rfl ?_
    refine e_iadd dX12_shoots_25 ?_
    obtain ⟨k6, h9⟩ := chkP hN1 h9
    refine l_1241 dX12_shoots_26 (inb_in k6) ?_
    refine e_iadd dX12_shoots_27 ?_
    refine e_istore_n (L' := [some (.ref (ad 12 0)), some (.int p1), some (.int v1), some (.int ((8 * p1) + (m.2.1 1241 0 (((8 * p1) + v1).toNatClampNeg))))]) dX12_shoots_28 rfl (by decide) rfl ?_
    refine e_aload_n dX12_shoots_29 rfl rfl ?_
    refine g_1242 flX12_112 dX12_shoots_30 ?_
    refine e_iload_n dX12_shoots_33 rfl rfl ?_
    obtain ⟨k7, h9⟩ := chkP hN1 h9
    refine l_1242 dX12_shoots_34 (inb_in k7) ?_
    refine e_pc (pc' := 35) rfl ?_
    refine e_if_eq (tgt := 151) dX12_shoots_35 rfl (fun hc8 => ?_) (fun hc8 => ?_)
    · replace h9 := ifT hc8 h9
      refine e_iinc (v := (v1 + 1)) (L' := [some (.ref (ad 12 0)), some (.int p1), some (.int (v1 + 1)), some (.int ((8 * p1) + (m.2.1 1241 0 (((8 * p1) + v1).toNatClampNeg))))]) dX12_shoots_151 rfl rfl (by decide) rfl ?_
      refine e_goto (tgt := 2) dX12_shoots_154 rfl ?_
      refine e_wk (L' := [some (.ref (ad 12 0)), some (.int p1), some (.int (v1 + 1)), none]) (wkC (wkC (wkC (wkN wk0)))) ?_
      exact hB0_1 _ h9
    · replace h9 := ifF hc8 h9
      refine e_aload_n dX12_shoots_38 rfl rfl ?_
      refine e_iload_n dX12_shoots_39 rfl rfl ?_
      obtain ⟨r9, hr9, h9⟩ := elimP hN1 h9
      refine x_callVi (c := 12) (As := [.int ((8 * p1) + (m.2.1 1241 0 (((8 * p1) + v1).toNatClampNeg)))]) (rest := []) okX12_canShoot lkX12_347 rfl (by decide) rfl dX12_shoots_40 rfl rfl (Nat.le_of_ble_eq_true rfl) rfl (c_X12_canShoot ((8 * p1) + (m.2.1 1241 0 (((8 * p1) + v1).toNatClampNeg))) hr9 (CI.mk ?_))
      refine e_if_ne (tgt := 49) dX12_shoots_43 rfl (fun hc10 => ?_) (fun hc10 => ?_)
      · replace h9 := ifF hc10 h9
        refine e_aload_n dX12_shoots_49 rfl rfl ?_
        refine g_1236 flX12_94 dX12_shoots_50 ?_
        refine e_iload_n dX12_shoots_53 rfl rfl ?_
        obtain ⟨k11, h9⟩ := chkP hN1 h9
        refine l_1236 dX12_shoots_54 (inb_in k11) ?_
        refine e_aload_n dX12_shoots_55 rfl rfl ?_
        refine g_1243 flX12_115 dX12_shoots_56 ?_
        refine e_iload_n dX12_shoots_59 rfl rfl ?_
        obtain ⟨k12, h9⟩ := chkP hN1 h9
        refine l_1243 dX12_shoots_60 (inb_in k12) ?_
        refine e_pc (pc' := 61) rfl ?_
        refine e_icmp_eq (tgt := 102) dX12_shoots_61 rfl (fun hc13 => ?_) (fun hc13 => ?_)
        · replace h9 := ifT hc13 h9
          refine e_aload_n dX12_shoots_102 rfl rfl ?_
          refine e_dup dX12_shoots_103 rfl ?_
          refine g_1201 flX12_309 dX12_shoots_104 ?_
          refine e_aload_n dX12_shoots_107 rfl rfl ?_
          refine g_1206 flX12_315 dX12_shoots_108 ?_
          refine e_isub dX12_shoots_111 ?_
          refine p_1201 flX12_309 dX12_shoots_112 ?_
          refine e_aload_n dX12_shoots_115 rfl rfl ?_
          refine e_pc (pc' := 116) rfl ?_
          refine g_1242 flX12_112 dX12_shoots_116 ?_
          refine e_iload_n dX12_shoots_119 rfl rfl ?_
          refine e_dup2_11 dX12_shoots_120 rfl rfl ?_
          obtain ⟨k14, h9⟩ := chkP hN1 h9
          refine l_1242 dX12_shoots_121 (inb_in k14) ?_
          refine e_iconst (v := 1) dX12_shoots_122 rfl ?_
          refine e_isub dX12_shoots_123 ?_
          obtain ⟨k15, h9⟩ := chkP hN1 h9
          refine s_1242 dX12_shoots_124 (inb_in k15) ?_
          refine e_aload_n dX12_shoots_125 rfl rfl ?_
          refine g_1245 flX12_121 dX12_shoots_126 ?_
          refine e_pc (pc' := 129) rfl ?_
          refine e_iload_n dX12_shoots_129 rfl rfl ?_
          refine e_dup2_11 dX12_shoots_130 rfl rfl ?_
          obtain ⟨k16, h9⟩ := chkP hN1 h9
          refine l_1245 dX12_shoots_131 (inb_in k16) ?_
          refine e_iconst (v := 1) dX12_shoots_132 rfl ?_
          refine e_iadd dX12_shoots_133 ?_
          obtain ⟨k17, h9⟩ := chkP hN1 h9
          refine s_1245 dX12_shoots_134 (inb_in k17) ?_
          refine e_aload_n dX12_shoots_135 rfl rfl ?_
          refine e_dup dX12_shoots_136 rfl ?_
          refine g_1275 flX12_341 dX12_shoots_137 ?_
          refine e_pc (pc' := 140) rfl ?_
          refine e_aload_n dX12_shoots_140 rfl rfl ?_
          refine g_1237 flX12_97 dX12_shoots_141 ?_
          refine e_iload_n dX12_shoots_144 rfl rfl ?_
          obtain ⟨k18, h9⟩ := chkP hN1 h9
          refine l_1237 dX12_shoots_145 (inb_in k18) ?_
          refine e_ior dX12_shoots_146 ?_
          refine p_1275 flX12_341 dX12_shoots_147 ?_
          exact x_vret dX12_shoots_150 rfl (hR1 _ h9)
        · replace h9 := ifF hc13 h9
          refine e_aload_n dX12_shoots_64 rfl rfl ?_
          refine g_1243 flX12_115 dX12_shoots_65 ?_
          refine e_iload_n dX12_shoots_68 rfl rfl ?_
          refine e_aload_n dX12_shoots_69 rfl rfl ?_
          refine g_1236 flX12_94 dX12_shoots_70 ?_
          refine e_iload_n dX12_shoots_73 rfl rfl ?_
          obtain ⟨k19, h9⟩ := chkP hN1 h9
          refine l_1236 dX12_shoots_74 (inb_in k19) ?_
          obtain ⟨k20, h9⟩ := chkP hN1 h9
          refine s_1243 dX12_shoots_75 (inb_in k20) ?_
          refine e_pc (pc' := 76) rfl ?_
          refine e_aload_n dX12_shoots_76 rfl rfl ?_
          refine e_dup dX12_shoots_77 rfl ?_
          refine g_1201 flX12_309 dX12_shoots_78 ?_
          refine e_aload_n dX12_shoots_81 rfl rfl ?_
          refine g_1207 flX12_318 dX12_shoots_82 ?_
          refine e_isub dX12_shoots_85 ?_
          refine p_1201 flX12_309 dX12_shoots_86 ?_
          refine e_aload_n dX12_shoots_89 rfl rfl ?_
          refine g_1246 flX12_124 dX12_shoots_90 ?_
          refine e_pc (pc' := 93) rfl ?_
          refine e_iload_n dX12_shoots_93 rfl rfl ?_
          refine e_dup2_11 dX12_shoots_94 rfl rfl ?_
          obtain ⟨k21, h9⟩ := chkP hN1 h9
          refine l_1246 dX12_shoots_95 (inb_in k21) ?_
          refine e_iconst (v := 1) dX12_shoots_96 rfl ?_
          refine e_iadd dX12_shoots_97 ?_
          obtain ⟨k22, h9⟩ := chkP hN1 h9
          refine s_1246 dX12_shoots_98 (inb_in k22) ?_
          refine e_goto (tgt := 150) dX12_shoots_99 rfl ?_
          exact x_vret dX12_shoots_150 rfl (hR1 _ h9)
      · replace h9 := ifT hc10 h9
        refine e_goto (tgt := 151) dX12_shoots_46 rfl ?_
        refine e_iinc (v := (v1 + 1)) (L' := [some (.ref (ad 12 0)), some (.int p1), some (.int (v1 + 1)), some (.int ((8 * p1) + (m.2.1 1241 0 (((8 * p1) + v1).toNatClampNeg))))]) dX12_shoots_151 rfl rfl (by decide) rfl ?_
        refine e_goto (tgt := 2) dX12_shoots_154 rfl ?_
        refine e_wk (L' := [some (.ref (ad 12 0)), some (.int p1), some (.int (v1 + 1)), none]) (wkC (wkC (wkC (wkN wk0)))) ?_
        exact hB0_1 _ h9
noncomputable def b_X12_lives_232 (m : VM) (v1 : Int32 × VM) (v3 : Int32 × VM) (v6 : Int32 × VM) : (Int32 × VM) ⊕ ((Int32 × VM) ⊕ ((Int32 × VM) ⊕ (Option (VM)))) := if (v6.2.1 1202 0) ≤ v6.1 then Sum.inr (Sum.inr (Sum.inr (some v6.2))) else (f_X12_isUnderOn v6.2 v6.1 (v6.2.1 1200 0)).elim (Sum.inr (Sum.inr (Sum.inr none))) (fun r8 => if r8 = 0 then if inb v6.1 16 = true then if inb v6.1 16 = true then Sum.inl (v6.1 + 1, setA (setA v6.2 1228 0 (upd (v6.2.2.1 1228 0) v6.1.toNatClampNeg 0)) 1220 0 (upd ((setA v6.2 1228 0 (upd (v6.2.2.1 1228 0) v6.1.toNatClampNeg 0)).2.1 1220 0) v6.1.toNatClampNeg (-1))) else Sum.inr (Sum.inr (Sum.inr none)) else Sum.inr (Sum.inr (Sum.inr none)) else Sum.inl (v6.1 + 1, v6.2))
noncomputable def b_X12_lives_232_15 (m : VM) (v1 : Int32 × VM) (v3 : Int32 × VM) (v12 : Int32 × VM) (v14 : Int32 × VM) : (Int32 × VM) ⊕ ((Int32 × VM) ⊕ ((Int32 × VM) ⊕ ((Int32 × VM) ⊕ (Option (VM))))) := if (v14.2.1 1202 0) ≤ v14.1 then Sum.inr (Sum.inr (Sum.inr (Sum.inr (some v14.2)))) else (f_X12_isUnderOn v14.2 v14.1 (v14.2.1 1200 0)).elim (Sum.inr (Sum.inr (Sum.inr (Sum.inr none)))) (fun r17 => if r17 = 0 then if inb v14.1 16 = true then if inb v14.1 16 = true then Sum.inl (v14.1 + 1, setA (setA v14.2 1228 0 (upd (v14.2.2.1 1228 0) v14.1.toNatClampNeg 0)) 1220 0 (upd ((setA v14.2 1228 0 (upd (v14.2.2.1 1228 0) v14.1.toNatClampNeg 0)).2.1 1220 0) v14.1.toNatClampNeg (-1))) else Sum.inr (Sum.inr (Sum.inr (Sum.inr none))) else Sum.inr (Sum.inr (Sum.inr (Sum.inr none))) else Sum.inl (v14.1 + 1, v14.2))
noncomputable def j_X12_lives_157 (m : VM) (v1 : Int32 × VM) (v3 : Int32 × VM) (v12 : Int32 × VM) (w25 : VM) : (Int32 × VM) ⊕ ((Int32 × VM) ⊕ ((Int32 × VM) ⊕ (Option (VM)))) := if inb v12.1 16 = true then (f_X12_countsOn w25 v12.1 0 (w25.1 1200 0)).elim (Sum.inr (Sum.inr (Sum.inr none))) (fun r27 => if (w25.2.1 1223 0 v12.1.toNatClampNeg) < r27 then if inb v12.1 16 = true then if inb v12.1 16 = true then if inb v12.1 16 = true then if inb v12.1 16 = true then if inb v12.1 16 = true then Sum.inl (v12.1 + 1, setI (setA (setA w25 1223 0 (upd (w25.2.1 1223 0) v12.1.toNatClampNeg ((w25.2.1 1223 0 v12.1.toNatClampNeg) + 1))) 1221 0 (upd ((setA w25 1223 0 (upd (w25.2.1 1223 0) v12.1.toNatClampNeg ((w25.2.1 1223 0 v12.1.toNatClampNeg) + 1))).2.1 1221 0) v12.1.toNatClampNeg (((setA w25 1223 0 (upd (w25.2.1 1223 0) v12.1.toNatClampNeg ((w25.2.1 1223 0 v12.1.toNatClampNeg) + 1))).2.1 1221 0 v12.1.toNatClampNeg) + 1))) 1201 0 (((setA (setA w25 1223 0 (upd (w25.2.1 1223 0) v12.1.toNatClampNeg ((w25.2.1 1223 0 v12.1.toNatClampNeg) + 1))) 1221 0 (upd ((setA w25 1223 0 (upd (w25.2.1 1223 0) v12.1.toNatClampNeg ((w25.2.1 1223 0 v12.1.toNatClampNeg) + 1))).2.1 1221 0) v12.1.toNatClampNeg (((setA w25 1223 0 (upd (w25.2.1 1223 0) v12.1.toNatClampNeg ((w25.2.1 1223 0 v12.1.toNatClampNeg) + 1))).2.1 1221 0 v12.1.toNatClampNeg) + 1))).1 1201 0) - ((setA (setA w25 1223 0 (upd (w25.2.1 1223 0) v12.1.toNatClampNeg ((w25.2.1 1223 0 v12.1.toNatClampNeg) + 1))) 1221 0 (upd ((setA w25 1223 0 (upd (w25.2.1 1223 0) v12.1.toNatClampNeg ((w25.2.1 1223 0 v12.1.toNatClampNeg) + 1))).2.1 1221 0) v12.1.toNatClampNeg (((setA w25 1223 0 (upd (w25.2.1 1223 0) v12.1.toNatClampNeg ((w25.2.1 1223 0 v12.1.toNatClampNeg) + 1))).2.1 1221 0 v12.1.toNatClampNeg) + 1))).2.1 1217 0 v12.1.toNatClampNeg))) else Sum.inr (Sum.inr (Sum.inr none)) else Sum.inr (Sum.inr (Sum.inr none)) else Sum.inr (Sum.inr (Sum.inr none)) else Sum.inr (Sum.inr (Sum.inr none)) else Sum.inr (Sum.inr (Sum.inr none)) else Sum.inl (v12.1 + 1, w25)) else Sum.inr (Sum.inr (Sum.inr none))
noncomputable def b_X12_lives_106 (m : VM) (v1 : Int32 × VM) (v3 : Int32 × VM) (v12 : Int32 × VM) : (Int32 × VM) ⊕ ((Int32 × VM) ⊕ ((Int32 × VM) ⊕ (Option (VM)))) := if (v12.2.1 1202 0) ≤ v12.1 then loopF (Sum.inr (Sum.inr (Sum.inr none))) (b_X12_lives_232_15 m v1 v3 v12) (0, setI v12.2 1200 0 ((v12.2.1 1200 0) + 1)) else (f_X12_mayAct v12.2 v12.1).elim (Sum.inr (Sum.inr (Sum.inr none))) (fun r21 => if r21 = 0 then Sum.inl (v12.1 + 1, v12.2) else if inb v12.1 16 = true then (f_X12_termYear v12.2 v12.1).elim (Sum.inr (Sum.inr (Sum.inr none))) (fun r24 => if (v12.2.2.1 1222 0 v12.1.toNatClampNeg) = r24 then j_X12_lives_157 m v1 v3 v12 v12.2 else (f_X12_termYear v12.2 v12.1).elim (Sum.inr (Sum.inr (Sum.inr none))) (fun r35 => if inb v12.1 16 = true then if inb v12.1 16 = true then j_X12_lives_157 m v1 v3 v12 (setA (setA v12.2 1222 0 (upd (v12.2.2.1 1222 0) v12.1.toNatClampNeg r35)) 1223 0 (upd ((setA v12.2 1222 0 (upd (v12.2.2.1 1222 0) v12.1.toNatClampNeg r35)).2.1 1223 0) v12.1.toNatClampNeg 0)) else Sum.inr (Sum.inr (Sum.inr none)) else Sum.inr (Sum.inr (Sum.inr none)))) else Sum.inr (Sum.inr (Sum.inr none)))
noncomputable def b_X12_lives_45 (m : VM) (v1 : Int32 × VM) (v3 : Int32 × VM) : (Int32 × VM) ⊕ ((Int32 × VM) ⊕ (Option (VM))) := if (v3.2.1 1202 0) ≤ v3.1 then if ((v3.2.1 1200 0) - (v3.2.1 1200 0) / 7 * 7) = 6 then loopF (Sum.inr (Sum.inr none)) (b_X12_lives_106 m v1 v3) (0, v3.2) else loopF (Sum.inr (Sum.inr none)) (b_X12_lives_232 m v1 v3) (0, setI v3.2 1200 0 ((v3.2.1 1200 0) + 1)) else if inb v3.1 16 = true then if (v3.2.2.1 1228 0 v3.1.toNatClampNeg) = 0 then Sum.inl (v3.1 + 1, v3.2) else (f_X12_countsOn v3.2 v3.1 1 (v3.2.1 1200 0)).elim (Sum.inr (Sum.inr none)) (fun r40 => if r40 = 1 then if inb v3.1 16 = true then if inb v3.1 16 = true then Sum.inl (v3.1 + 1, setA v3.2 1219 0 (upd (v3.2.2.1 1219 0) v3.1.toNatClampNeg ((v3.2.2.1 1219 0 v3.1.toNatClampNeg) + 1))) else Sum.inr (Sum.inr none) else Sum.inr (Sum.inr none) else Sum.inl (v3.1 + 1, v3.2)) else Sum.inr (Sum.inr none)
noncomputable def b_X12_lives_7 (m : VM) (v1 : Int32 × VM) : (Int32 × VM) ⊕ (Option (VM)) := if (v1.2.1 1204 0) ≤ v1.1 then loopF (Sum.inr none) (b_X12_lives_45 m v1) (0, v1.2) else if inb v1.1 8 = true then if (v1.2.2.1 1240 0 v1.1.toNatClampNeg) = 0 then Sum.inl (v1.1 + 1, v1.2) else (f_X12_leftOf v1.2 v1.1).elim (Sum.inr none) (fun r46 => if r46 ≤ 0 then Sum.inl (v1.1 + 1, v1.2) else (f_X12_shoots v1.2 v1.1).elim (Sum.inr none) (fun r48 => Sum.inl (v1.1 + 1, r48))) else Sum.inr none
noncomputable def f_X12_lives (m : VM) : Option (VM) := loopF none (b_X12_lives_7 m) (0, setI m 1275 0 0)
theorem c_X12_lives {g : GG} {d : Nat} {ad : AD} {x m : VM} {Q : Option Value → VM → VM → Prop} {w9 : VM} (hf : f_X12_lives m = some w9) (hq : Q none x w9) : CX g (d + 4) MX12_lives [.ref (ad 12 0)] ad x m Q := by
  refine CX.to (Lv := [some (.ref (ad 12 0)), none]) okX12_lives (Nat.le_of_ble_eq_true rfl) rfl ?_
  obtain ⟨Φ0, hΦ⟩ : ∃ Φ : Option (VM) → Prop, Φ = fun o => o = some w9 := ⟨_, rfl⟩
  have hN0 : Φ0 none → False := by rw [hΦ]; intro h; cases h
  have hR0 : ∀ z9, Φ0 (some z9) → Q none x z9 := by rw [hΦ]; intro z9 h; cases h; exact hq
  have h9 : Φ0 (f_X12_lives m) := by rw [hΦ]; exact hf
  clear hf hq hΦ
  unfold f_X12_lives at h9
  refine e_aload_n dX12_lives_0 rfl rfl ?_
  refine e_iconst (v := 0) dX12_lives_1 rfl ?_
  refine p_1275 flX12_341 dX12_lives_2 ?_
  refine e_iconst (v := 0) dX12_lives_5 rfl ?_
  refine e_istore_n (L' := [some (.ref (ad 12 0)), some (.int 0)]) dX12_lives_6 rfl (by decide) rfl ?_
  refine loop_gen (b_X12_lives_7 m) none (fun v1 => EX g (d + 4) MX12_lives ad x v1.2 7 [some (.ref (ad 12 0)), some (.int v1.1)] [] Q) Φ0 hN0 (fun v1 Φ1 hB0_1 hO1 h9 => ?_) (0, setI m 1275 0 0) h9
  have hN1 := fun h => hN0 (hO1 _ h)
  have hR1 := fun r9 h => hR0 r9 (hO1 _ h)
  have hB0_1 : ∀ (z0 : Int32) (z1 : VM), Φ1 (Sum.inl (z0, z1)) → EX g (d + 4) MX12_lives ad x z1 7 [some (.ref (ad 12 0)), some (.int z0)] [] Q := fun z0 z1 h => hB0_1 (z0, z1) h
  unfold b_X12_lives_7 at h9
  refine e_iload_n dX12_lives_7 rfl rfl ?_
  refine e_aload_n dX12_lives_8 rfl rfl ?_
  refine g_1204 flX12_250 dX12_lives_9 ?_
  refine e_icmp_ge (tgt := 43) dX12_lives_12 rfl (fun hc2 => ?_) (fun hc2 => ?_)
  · replace h9 := ifT hc2 h9
    refine e_iconst (v := 0) dX12_lives_43 rfl ?_
    refine e_istore_n (L' := [some (.ref (ad 12 0)), some (.int 0)]) dX12_lives_44 rfl (by decide) rfl ?_
    refine loop_gen (b_X12_lives_45 m v1) (Sum.inr none) (fun v3 => EX g (d + 4) MX12_lives ad x v3.2 45 [some (.ref (ad 12 0)), some (.int v3.1)] [] Q) Φ1 hN1 (fun v3 Φ2 hB1_2 hO2 h9 => ?_) (0, v1.2) h9
    have hN2 := fun h => hN1 (hO2 _ h)
    have hR2 := fun r9 h => hR1 r9 (hO2 _ h)
    have hB0_2 : ∀ (z0 : Int32) (z1 : VM), Φ2 (Sum.inr (Sum.inl (z0, z1))) → EX g (d + 4) MX12_lives ad x z1 7 [some (.ref (ad 12 0)), some (.int z0)] [] Q := fun z0 z1 h => hB0_1 z0 z1 (hO2 _ h)
    have hB1_2 : ∀ (z0 : Int32) (z1 : VM), Φ2 (Sum.inl (z0, z1)) → EX g (d + 4) MX12_lives ad x z1 45 [some (.ref (ad 12 0)), some (.int z0)] [] Q := fun z0 z1 h => hB1_2 (z0, z1) h
    unfold b_X12_lives_45 at h9
    refine e_iload_n dX12_lives_45 rfl rfl ?_
    refine e_aload_n dX12_lives_46 rfl rfl ?_
    refine g_1202 flX12_247 dX12_lives_47 ?_
    refine e_icmp_ge (tgt := 92) dX12_lives_50 rfl (fun hc4 => ?_) (fun hc4 => ?_)
    · replace h9 := ifT hc4 h9
      refine e_aload_n dX12_lives_92 rfl rfl ?_
      refine g_1200 flX12_286 dX12_lives_93 ?_
      refine e_bipush (v := 7) dX12_lives_96 rfl ?_
      refine e_irem dX12_lives_98 (by decide) ?_
      refine e_bipush (v := 6) dX12_lives_99 rfl ?_
      refine e_icmp_ne (tgt := 220) dX12_lives_101 rfl (fun hc5 => ?_) (fun hc5 => ?_)
      · replace h9 := ifF hc5 h9
        refine e_aload_n dX12_lives_220 rfl rfl ?_
        refine e_dup dX12_lives_221 rfl ?_
        refine g_1200 flX12_286 dX12_lives_222 ?_
        refine e_iconst (v := 1) dX12_lives_225 rfl ?_
        refine e_iadd dX12_lives_226 ?_
        refine p_1200 flX12_286 dX12_lives_227 ?_
        refine e_iconst (v := 0) dX12_lives_230 rfl ?_
        refine e_istore_n (L' := [some (.ref (ad 12 0)), some (.int 0)]) dX12_lives_231 rfl (by decide) rfl ?_
        refine loop_gen (b_X12_lives_232 m v1 v3) (Sum.inr (Sum.inr none)) (fun v6 => EX g (d + 4) MX12_lives ad x v6.2 232 [some (.ref (ad 12 0)), some (.int v6.1)] [] Q) Φ2 hN2 (fun v6 Φ3 hB2_3 hO3 h9 => ?_) (0, setI v3.2 1200 0 ((v3.2.1 1200 0) + 1)) h9
        have hN3 := fun h => hN2 (hO3 _ h)
        have hR3 := fun r9 h => hR2 r9 (hO3 _ h)
        have hB0_3 : ∀ (z0 : Int32) (z1 : VM), Φ3 (Sum.inr (Sum.inr (Sum.inl (z0, z1)))) → EX g (d + 4) MX12_lives ad x z1 7 [some (.ref (ad 12 0)), some (.int z0)] [] Q := fun z0 z1 h => hB0_2 z0 z1 (hO3 _ h)
        have hB1_3 : ∀ (z0 : Int32) (z1 : VM), Φ3 (Sum.inr (Sum.inl (z0, z1))) → EX g (d + 4) MX12_lives ad x z1 45 [some (.ref (ad 12 0)), some (.int z0)] [] Q := fun z0 z1 h => hB1_2 z0 z1 (hO3 _ h)
        have hB2_3 : ∀ (z0 : Int32) (z1 : VM), Φ3 (Sum.inl (z0, z1)) → EX g (d + 4) MX12_lives ad x z1 232 [some (.ref (ad 12 0)), some (.int z0)] [] Q := fun z0 z1 h => hB2_3 (z0, z1) h
        unfold b_X12_lives_232 at h9
        refine e_iload_n dX12_lives_232 rfl rfl ?_
        refine e_aload_n dX12_lives_233 rfl rfl ?_
        refine g_1202 flX12_247 dX12_lives_234 ?_
        refine e_icmp_ge (tgt := 275) dX12_lives_237 rfl (fun hc7 => ?_) (fun hc7 => ?_)
        · replace h9 := ifT hc7 h9
          exact x_vret dX12_lives_275 rfl (hR3 _ h9)
        · replace h9 := ifF hc7 h9
          refine e_aload_n dX12_lives_240 rfl rfl ?_
          refine e_iload_n dX12_lives_241 rfl rfl ?_
          refine e_aload_n dX12_lives_242 rfl rfl ?_
          refine g_1200 flX12_286 dX12_lives_243 ?_
          obtain ⟨r8, hr8, h9⟩ := elimP hN3 h9
          refine x_callVi (c := 12) (As := [.int v6.1, .int (v6.2.1 1200 0)]) (rest := []) okX12_isUnderOn lkX12_289 rfl (by decide) rfl dX12_lives_246 rfl rfl (Nat.le_of_ble_eq_true rfl) rfl (c_X12_isUnderOn v6.1 (v6.2.1 1200 0) hr8 (CI.mk ?_))
          refine e_if_eq (tgt := 255) dX12_lives_249 rfl (fun hc9 => ?_) (fun hc9 => ?_)
          · replace h9 := ifT hc9 h9
            refine e_aload_n dX12_lives_255 rfl rfl ?_
            refine g_1228 flX12_70 dX12_lives_256 ?_
            refine e_iload_n dX12_lives_259 rfl rfl ?_
            refine e_iconst (v := 0) dX12_lives_260 rfl ?_
            obtain ⟨k10, h9⟩ := chkP hN3 h9
            refine s_1228 dX12_lives_261 (inb_in k10) (by decide) ?_
            refine e_aload_n dX12_lives_262 rfl rfl ?_
            refine g_1220 flX12_45 dX12_lives_263 ?_
            refine e_iload_n dX12_lives_266 rfl rfl ?_
            refine e_pc (pc' := 267) rfl ?_
            refine e_iconst (v := (-1)) dX12_lives_267 rfl ?_
            obtain ⟨k11, h9⟩ := chkP hN3 h9
            refine s_1220 dX12_lives_268 (inb_in k11) ?_
            refine e_iinc (v := (v6.1 + 1)) (L' := [some (.ref (ad 12 0)), some (.int (v6.1 + 1))]) dX12_lives_269 rfl rfl (by decide) rfl ?_
            refine e_goto (tgt := 232) dX12_lives_272 rfl ?_
            exact hB2_3 _ _ h9
          · replace h9 := ifF hc9 h9
            refine e_goto (tgt := 269) dX12_lives_252 rfl ?_
            refine e_iinc (v := (v6.1 + 1)) (L' := [some (.ref (ad 12 0)), some (.int (v6.1 + 1))]) dX12_lives_269 rfl rfl (by decide) rfl ?_
            refine e_goto (tgt := 232) dX12_lives_272 rfl ?_
            exact hB2_3 _ _ h9
      · replace h9 := ifT hc5 h9
        refine e_iconst (v := 0) dX12_lives_104 rfl ?_
        refine e_istore_n (L' := [some (.ref (ad 12 0)), some (.int 0)]) dX12_lives_105 rfl (by decide) rfl ?_
        refine loop_gen (b_X12_lives_106 m v1 v3) (Sum.inr (Sum.inr none)) (fun v12 => EX g (d + 4) MX12_lives ad x v12.2 106 [some (.ref (ad 12 0)), some (.int v12.1)] [] Q) Φ2 hN2 (fun v12 Φ3 hB2_3 hO3 h9 => ?_) (0, v3.2) h9
        have hN3 := fun h => hN2 (hO3 _ h)
        have hR3 := fun r9 h => hR2 r9 (hO3 _ h)
        have hB0_3 : ∀ (z0 : Int32) (z1 : VM), Φ3 (Sum.inr (Sum.inr (Sum.inl (z0, z1)))) → EX g (d + 4) MX12_lives ad x z1 7 [some (.ref (ad 12 0)), some (.int z0)] [] Q := fun z0 z1 h => hB0_2 z0 z1 (hO3 _ h)
        have hB1_3 : ∀ (z0 : Int32) (z1 : VM), Φ3 (Sum.inr (Sum.inl (z0, z1))) → EX g (d + 4) MX12_lives ad x z1 45 [some (.ref (ad 12 0)), some (.int z0)] [] Q := fun z0 z1 h => hB1_2 z0 z1 (hO3 _ h)
        have hB2_3 : ∀ (z0 : Int32) (z1 : VM), Φ3 (Sum.inl (z0, z1)) → EX g (d + 4) MX12_lives ad x z1 106 [some (.ref (ad 12 0)), some (.int z0)] [] Q := fun z0 z1 h => hB2_3 (z0, z1) h
        unfold b_X12_lives_106 at h9
        refine e_iload_n dX12_lives_106 rfl rfl ?_
        refine e_aload_n dX12_lives_107 rfl rfl ?_
        refine g_1202 flX12_247 dX12_lives_108 ?_
        refine e_icmp_ge (tgt := 220) dX12_lives_111 rfl (fun hc13 => ?_) (fun hc13 => ?_)
        · replace h9 := ifT hc13 h9
          refine e_aload_n dX12_lives_220 rfl rfl ?_
          refine e_dup dX12_lives_221 rfl ?_
          refine g_1200 flX12_286 dX12_lives_222 ?_
          refine e_iconst (v := 1) dX12_lives_225 rfl ?_
          refine e_iadd dX12_lives_226 ?_
          refine p_1200 flX12_286 dX12_lives_227 ?_
          refine e_iconst (v := 0) dX12_lives_230 rfl ?_
          refine e_istore_n (L' := [some (.ref (ad 12 0)), some (.int 0)]) dX12_lives_231 rfl (by decide) rfl ?_
          refine loop_gen (b_X12_lives_232_15 m v1 v3 v12) (Sum.inr (Sum.inr (Sum.inr none))) (fun v14 => EX g (d + 4) MX12_lives ad x v14.2 232 [some (.ref (ad 12 0)), some (.int v14.1)] [] Q) Φ3 hN3 (fun v14 Φ4 hB3_4 hO4 h9 => ?_) (0, setI v12.2 1200 0 ((v12.2.1 1200 0) + 1)) h9
          have hN4 := fun h => hN3 (hO4 _ h)
          have hR4 := fun r9 h => hR3 r9 (hO4 _ h)
          have hB0_4 : ∀ (z0 : Int32) (z1 : VM), Φ4 (Sum.inr (Sum.inr (Sum.inr (Sum.inl (z0, z1))))) → EX g (d + 4) MX12_lives ad x z1 7 [some (.ref (ad 12 0)), some (.int z0)] [] Q := fun z0 z1 h => hB0_3 z0 z1 (hO4 _ h)
          have hB1_4 : ∀ (z0 : Int32) (z1 : VM), Φ4 (Sum.inr (Sum.inr (Sum.inl (z0, z1)))) → EX g (d + 4) MX12_lives ad x z1 45 [some (.ref (ad 12 0)), some (.int z0)] [] Q := fun z0 z1 h => hB1_3 z0 z1 (hO4 _ h)
          have hB2_4 : ∀ (z0 : Int32) (z1 : VM), Φ4 (Sum.inr (Sum.inl (z0, z1))) → EX g (d + 4) MX12_lives ad x z1 106 [some (.ref (ad 12 0)), some (.int z0)] [] Q := fun z0 z1 h => hB2_3 z0 z1 (hO4 _ h)
          have hB3_4 : ∀ (z0 : Int32) (z1 : VM), Φ4 (Sum.inl (z0, z1)) → EX g (d + 4) MX12_lives ad x z1 232 [some (.ref (ad 12 0)), some (.int z0)] [] Q := fun z0 z1 h => hB3_4 (z0, z1) h
          unfold b_X12_lives_232_15 at h9
          refine e_iload_n dX12_lives_232 rfl rfl ?_
          refine e_aload_n dX12_lives_233 rfl rfl ?_
          refine g_1202 flX12_247 dX12_lives_234 ?_
          refine e_icmp_ge (tgt := 275) dX12_lives_237 rfl (fun hc16 => ?_) (fun hc16 => ?_)
          · replace h9 := ifT hc16 h9
            exact x_vret dX12_lives_275 rfl (hR4 _ h9)
          · replace h9 := ifF hc16 h9
            refine e_aload_n dX12_lives_240 rfl rfl ?_
            refine e_iload_n dX12_lives_241 rfl rfl ?_
            refine e_aload_n dX12_lives_242 rfl rfl ?_
            refine g_1200 flX12_286 dX12_lives_243 ?_
            obtain ⟨r17, hr17, h9⟩ := elimP hN4 h9
            refine x_callVi (c := 12) (As := [.int v14.1, .int (v14.2.1 1200 0)]) (rest := []) okX12_isUnderOn lkX12_289 rfl (by decide) rfl dX12_lives_246 rfl rfl (Nat.le_of_ble_eq_true rfl) rfl (c_X12_isUnderOn v14.1 (v14.2.1 1200 0) hr17 (CI.mk ?_))
            refine e_if_eq (tgt := 255) dX12_lives_249 rfl (fun hc18 => ?_) (fun hc18 => ?_)
            · replace h9 := ifT hc18 h9
              refine e_aload_n dX12_lives_255 rfl rfl ?_
              refine g_1228 flX12_70 dX12_lives_256 ?_
              refine e_iload_n dX12_lives_259 rfl rfl ?_
              refine e_iconst (v := 0) dX12_lives_260 rfl ?_
              obtain ⟨k19, h9⟩ := chkP hN4 h9
              refine s_1228 dX12_lives_261 (inb_in k19) (by decide) ?_
              refine e_aload_n dX12_lives_262 rfl rfl ?_
              refine g_1220 flX12_45 dX12_lives_263 ?_
              refine e_iload_n dX12_lives_266 rfl rfl ?_
              refine e_pc (pc' := 267) rfl ?_
              refine e_iconst (v := (-1)) dX12_lives_267 rfl ?_
              obtain ⟨k20, h9⟩ := chkP hN4 h9
              refine s_1220 dX12_lives_268 (inb_in k20) ?_
              refine e_iinc (v := (v14.1 + 1)) (L' := [some (.ref (ad 12 0)), some (.int (v14.1 + 1))]) dX12_lives_269 rfl rfl (by decide) rfl ?_
              refine e_goto (tgt := 232) dX12_lives_272 rfl ?_
              exact hB3_4 _ _ h9
            · replace h9 := ifF hc18 h9
              refine e_goto (tgt := 269) dX12_lives_252 rfl ?_
              refine e_iinc (v := (v14.1 + 1)) (L' := [some (.ref (ad 12 0)), some (.int (v14.1 + 1))]) dX12_lives_269 rfl rfl (by decide) rfl ?_
              refine e_goto (tgt := 232) dX12_lives_272 rfl ?_
              exact hB3_4 _ _ h9
        · replace h9 := ifF hc13 h9
          refine e_aload_n dX12_lives_114 rfl rfl ?_
          refine e_iload_n dX12_lives_115 rfl rfl ?_
          obtain ⟨r21, hr21, h9⟩ := elimP hN3 h9
          refine x_callVi (c := 12) (As := [.int v12.1]) (rest := []) okX12_mayAct lkX12_302 rfl (by decide) rfl dX12_lives_116 rfl rfl (Nat.le_of_ble_eq_true rfl) rfl (c_X12_mayAct v12.1 hr21 (CI.mk ?_))
          refine e_if_ne (tgt := 125) dX12_lives_119 rfl (fun hc22 => ?_) (fun hc22 => ?_)
          · replace h9 := ifF hc22 h9
            refine e_aload_n dX12_lives_125 rfl rfl ?_
            refine g_1222 flX12_51 dX12_lives_126 ?_
            refine e_iload_n dX12_lives_129 rfl rfl ?_
            obtain ⟨k23, h9⟩ := chkP hN3 h9
            refine l_1222 dX12_lives_130 (inb_in k23) ?_
            refine e_aload_n dX12_lives_131 rfl rfl ?_
            refine e_iload_n dX12_lives_132 rfl rfl ?_
            obtain ⟨r24, hr24, h9⟩ := elimP hN3 h9
            refine x_callVi (c := 12) (As := [.int v12.1]) (rest := [.int (v12.2.2.1 1222 0 v12.1.toNatClampNeg)]) okX12_termYear lkX12_305 rfl (by decide) rfl dX12_lives_133 rfl rfl (Nat.le_of_ble_eq_true rfl) rfl (c_X12_termYear v12.1 hr24 (CI.mk ?_))
            have hj157 : ∀ (w25 : VM), Φ3 (j_X12_lives_157 m v1 v3 v12 w25) → EX g (d + 4) MX12_lives ad x w25 157 [some (.ref (ad 12 0)), some (.int v12.1)] [] Q := by
              intro w25 h9
              unfold j_X12_lives_157 at h9
              refine e_aload_n dX12_lives_157 rfl rfl ?_
              refine g_1223 flX12_54 dX12_lives_158 ?_
              refine e_iload_n dX12_lives_161 rfl rfl ?_
              obtain ⟨k26, h9⟩ := chkP hN3 h9
              refine l_1223 dX12_lives_162 (inb_in k26) ?_
              refine e_aload_n dX12_lives_163 rfl rfl ?_
              refine e_iload_n dX12_lives_164 rfl rfl ?_
              refine e_iconst (v := 0) dX12_lives_165 rfl ?_
              refine e_aload_n dX12_lives_166 rfl rfl ?_
              refine e_pc (pc' := 167) rfl ?_
              refine g_1200 flX12_286 dX12_lives_167 ?_
              obtain ⟨r27, hr27, h9⟩ := elimP hN3 h9
              refine x_callVi (c := 12) (As := [.int v12.1, .int 0, .int (w25.1 1200 0)]) (rest := [.int (w25.2.1 1223 0 v12.1.toNatClampNeg)]) okX12_countsOn lkX12_295 rfl (by decide) rfl dX12_lives_170 rfl rfl (Nat.le_of_ble_eq_true rfl) rfl (c_X12_countsOn v12.1 0 (w25.1 1200 0) hr27 (CI.mk ?_))
              refine e_icmp_lt (tgt := 179) dX12_lives_173 rfl (fun hc28 => ?_) (fun hc28 => ?_)
              · replace h9 := ifT hc28 h9
                refine e_aload_n dX12_lives_179 rfl rfl ?_
                refine g_1223 flX12_54 dX12_lives_180 ?_
                refine e_iload_n dX12_lives_183 rfl rfl ?_
                refine e_dup2_11 dX12_lives_184 rfl rfl ?_
                obtain ⟨k29, h9⟩ := chkP hN3 h9
                refine l_1223 dX12_lives_185 (inb_in k29) ?_
                refine e_iconst (v := 1) dX12_lives_186 rfl ?_
                refine e_iadd dX12_lives_187 ?_
                obtain ⟨k30, h9⟩ := chkP hN3 h9
                refine s_1223 dX12_lives_188 (inb_in k30) ?_
                refine e_pc (pc' := 189) rfl ?_
                refine e_aload_n dX12_lives_189 rfl rfl ?_
                refine g_1221 flX12_48 dX12_lives_190 ?_
                refine e_iload_n dX12_lives_193 rfl rfl ?_
                refine e_dup2_11 dX12_lives_194 rfl rfl ?_
                obtain ⟨k31, h9⟩ := chkP hN3 h9
                refine l_1221 dX12_lives_195 (inb_in k31) ?_
                refine e_iconst (v := 1) dX12_lives_196 rfl ?_
                refine e_iadd dX12_lives_197 ?_
                obtain ⟨k32, h9⟩ := chkP hN3 h9
                refine s_1221 dX12_lives_198 (inb_in k32) ?_
                refine e_aload_n dX12_lives_199 rfl rfl ?_
                refine e_pc (pc' := 200) rfl ?_
                refine e_dup dX12_lives_200 rfl ?_
                refine g_1201 flX12_309 dX12_lives_201 ?_
                refine e_aload_n dX12_lives_204 rfl rfl ?_
                refine g_1217 flX12_36 dX12_lives_205 ?_
                refine e_iload_n dX12_lives_208 rfl rfl ?_
                obtain ⟨k33, h9⟩ := chkP hN3 h9
                refine l_1217 dX12_lives_209 (inb_in k33) ?_
                refine e_isub dX12_lives_210 ?_
                refine p_1201 flX12_309 dX12_lives_211 ?_
                refine e_iinc (v := (v12.1 + 1)) (L' := [some (.ref (ad 12 0)), some (.int (v12.1 + 1))]) dX12_lives_214 rfl rfl (by decide) rfl ?_
                refine e_pc (pc' := 217) rfl ?_
                refine e_goto (tgt := 106) dX12_lives_217 rfl ?_
                exact hB2_3 _ _ h9
              · replace h9 := ifF hc28 h9
                refine e_goto (tgt := 214) dX12_lives_176 rfl ?_
                refine e_iinc (v := (v12.1 + 1)) (L' := [some (.ref (ad 12 0)), some (.int (v12.1 + 1))]) dX12_lives_214 rfl rfl (by decide) rfl ?_
                refine e_goto (tgt := 106) dX12_lives_217 rfl ?_
                exact hB2_3 _ _ h9
            refine e_icmp_eq (tgt := 157) dX12_lives_136 rfl (fun hc34 => ?_) (fun hc34 => ?_)
            · replace h9 := ifT hc34 h9
              exact hj157 v12.2 h9
            · replace h9 := ifF hc34 h9
              refine e_aload_n dX12_lives_139 rfl rfl ?_
              refine g_1222 flX12_51 dX12_lives_140 ?_
              refine e_iload_n dX12_lives_143 rfl rfl ?_
              refine e_aload_n dX12_lives_144 rfl rfl ?_
              refine e_iload_n dX12_lives_145 rfl rfl ?_
              obtain ⟨r35, hr35, h9⟩ := elimP hN3 h9
              refine x_callVi (c := 12) (As := [.int v12.1]) (rest := [.int v12.1, .ref (ad 2222 0)]) okX12_termYear lkX12_305 rfl (by decide) rfl dX12_lives_146 rfl rfl (Nat.le_of_ble_eq_true rfl) rfl (c_X12_termYear v12.1 hr35 (CI.mk ?_))
              obtain ⟨k36, h9⟩ := chkP hN3 h9
              refine s_1222 dX12_lives_149 (inb_in k36) ?_
              refine e_aload_n dX12_lives_150 rfl rfl ?_
              refine e_pc (pc' := 151) rfl ?_
              refine g_1223 flX12_54 dX12_lives_151 ?_
              refine e_iload_n dX12_lives_154 rfl rfl ?_
              refine e_iconst (v := 0) dX12_lives_155 rfl ?_
              obtain ⟨k37, h9⟩ := chkP hN3 h9
              refine s_1223 dX12_lives_156 (inb_in k37) ?_
              exact hj157 (setA (setA v12.2 1222 0 (upd (v12.2.2.1 1222 0) v12.1.toNatClampNeg r35)) 1223 0 (upd ((setA v12.2 1222 0 (upd (v12.2.2.1 1222 0) v12.1.toNatClampNeg r35)).2.1 1223 0) v12.1.toNatClampNeg 0)) h9
          · replace h9 := ifT hc22 h9
            refine e_goto (tgt := 214) dX12_lives_122 rfl ?_
            refine e_iinc (v := (v12.1 + 1)) (L' := [some (.ref (ad 12 0)), some (.int (v12.1 + 1))]) dX12_lives_214 rfl rfl (by decide) rfl ?_
            refine e_goto (tgt := 106) dX12_lives_217 rfl ?_
            exact hB2_3 _ _ h9
    · replace h9 := ifF hc4 h9
      refine e_aload_n dX12_lives_53 rfl rfl ?_
      refine g_1228 flX12_70 dX12_lives_54 ?_
      refine e_iload_n dX12_lives_57 rfl rfl ?_
      obtain ⟨k38, h9⟩ := chkP hN2 h9
      refine l_1228 dX12_lives_58 (inb_in k38) ?_
      refine e_if_eq (tgt := 86) dX12_lives_59 rfl (fun hc39 => ?_) (fun hc39 => ?_)
      · replace h9 := ifT hc39 h9
        refine e_iinc (v := (v3.1 + 1)) (L' := [some (.ref (ad 12 0)), some (.int (v3.1 + 1))]) dX12_lives_86 rfl rfl (by decide) rfl ?_
        refine e_goto (tgt := 45) dX12_lives_89 rfl ?_
        exact hB1_2 _ _ h9
      · replace h9 := ifF hc39 h9
        refine e_aload_n dX12_lives_62 rfl rfl ?_
        refine e_iload_n dX12_lives_63 rfl rfl ?_
        refine e_iconst (v := 1) dX12_lives_64 rfl ?_
        refine e_aload_n dX12_lives_65 rfl rfl ?_
        refine g_1200 flX12_286 dX12_lives_66 ?_
        obtain ⟨r40, hr40, h9⟩ := elimP hN2 h9
        refine x_callVi (c := 12) (As := [.int v3.1, .int 1, .int (v3.2.1 1200 0)]) (rest := []) okX12_countsOn lkX12_295 rfl (by decide) rfl dX12_lives_69 rfl rfl (Nat.le_of_ble_eq_true rfl) rfl (c_X12_countsOn v3.1 1 (v3.2.1 1200 0) hr40 (CI.mk ?_))
        refine e_iconst (v := 1) dX12_lives_72 rfl ?_
        refine e_icmp_ne (tgt := 86) dX12_lives_73 rfl (fun hc41 => ?_) (fun hc41 => ?_)
        · replace h9 := ifF hc41 h9
          refine e_iinc (v := (v3.1 + 1)) (L' := [some (.ref (ad 12 0)), some (.int (v3.1 + 1))]) dX12_lives_86 rfl rfl (by decide) rfl ?_
          refine e_goto (tgt := 45) dX12_lives_89 rfl ?_
          exact hB1_2 _ _ h9
        · replace h9 := ifT hc41 h9
          refine e_aload_n dX12_lives_76 rfl rfl ?_
          refine g_1219 flX12_42 dX12_lives_77 ?_
          refine e_iload_n dX12_lives_80 rfl rfl ?_
          refine e_dup2_11 dX12_lives_81 rfl rfl ?_
          obtain ⟨k42, h9⟩ := chkP hN2 h9
          refine l_1219 dX12_lives_82 (inb_in k42) ?_
          refine e_iconst (v := 1) dX12_lives_83 rfl ?_
          refine e_iadd dX12_lives_84 ?_
          obtain ⟨k43, h9⟩ := chkP hN2 h9
          refine s_1219 dX12_lives_85 (inb_in k43) ?_
          refine e_pc (pc' := 86) rfl ?_
          refine e_iinc (v := (v3.1 + 1)) (L' := [some (.ref (ad 12 0)), some (.int (v3.1 + 1))]) dX12_lives_86 rfl rfl (by decide) rfl ?_
          refine e_goto (tgt := 45) dX12_lives_89 rfl ?_
          exact hB1_2 _ _ h9
  · replace h9 := ifF hc2 h9
    refine e_aload_n dX12_lives_15 rfl rfl ?_
    refine g_1240 flX12_106 dX12_lives_16 ?_
    refine e_iload_n dX12_lives_19 rfl rfl ?_
    obtain ⟨k44, h9⟩ := chkP hN1 h9
    refine l_1240 dX12_lives_20 (inb_in k44) ?_
    refine e_if_eq (tgt := 37) dX12_lives_21 rfl (fun hc45 => ?_) (fun hc45 => ?_)
    · replace h9 := ifT hc45 h9
      refine e_iinc (v := (v1.1 + 1)) (L' := [some (.ref (ad 12 0)), some (.int (v1.1 + 1))]) dX12_lives_37 rfl rfl (by decide) rfl ?_
      refine e_goto (tgt := 7) dX12_lives_40 rfl ?_
      exact hB0_1 _ _ h9
    · replace h9 := ifF hc45 h9
      refine e_aload_n dX12_lives_24 rfl rfl ?_
      refine e_iload_n dX12_lives_25 rfl rfl ?_
      obtain ⟨r46, hr46, h9⟩ := elimP hN1 h9
      refine x_callVi (c := 12) (As := [.int v1.1]) (rest := []) okX12_leftOf lkX12_350 rfl (by decide) rfl dX12_lives_26 rfl rfl (Nat.le_of_ble_eq_true rfl) rfl (c_X12_leftOf v1.1 hr46 (CI.mk ?_))
      refine e_if_le (tgt := 37) dX12_lives_29 rfl (fun hc47 => ?_) (fun hc47 => ?_)
      · replace h9 := ifT hc47 h9
        refine e_iinc (v := (v1.1 + 1)) (L' := [some (.ref (ad 12 0)), some (.int (v1.1 + 1))]) dX12_lives_37 rfl rfl (by decide) rfl ?_
        refine e_goto (tgt := 7) dX12_lives_40 rfl ?_
        exact hB0_1 _ _ h9
      · replace h9 := ifF hc47 h9
        refine e_aload_n dX12_lives_32 rfl rfl ?_
        refine e_iload_n dX12_lives_33 rfl rfl ?_
        obtain ⟨r48, hr48, h9⟩ := elimP hN1 h9
        refine x_callVv (c := 12) (As := [.int v1.1]) (rest := []) okX12_shoots lkX12_353 rfl (by decide) rfl dX12_lives_34 rfl rfl (Nat.le_of_ble_eq_true rfl) rfl (c_X12_shoots v1.1 hr48 (CV.mk ?_))
        refine e_iinc (v := (v1.1 + 1)) (L' := [some (.ref (ad 12 0)), some (.int (v1.1 + 1))]) dX12_lives_37 rfl rfl (by decide) rfl ?_
        refine e_goto (tgt := 7) dX12_lives_40 rfl ?_
        exact hB0_1 _ _ h9
noncomputable def b_X12_days_39 (m : VM) (p1 : Int32) (v7 : Int32 × VM) : (Int32 × VM) ⊕ (Option (Int32 × VM)) := if p1 ≤ v7.1 then Sum.inr (some (v7.2.1 1200 0, v7.2)) else (f_X12_lives v7.2).elim (Sum.inr none) (fun r9 => Sum.inl (v7.1 + 1, r9))
noncomputable def f_X12_days (m : VM) (p1 : Int32) : Option (Int32 × VM) := if p1 < 1 then (f_X12_no m (-6)).elim none (fun r2p => some (r2p.1, r2p.2)) else if p1 ≤ 100 then if ((m.1 1200 0) + p1) ≤ 4000 then loopF none (b_X12_days_39 m p1) (0, m) else (f_X12_no m (-7)).elim none (fun r11p => some (r11p.1, r11p.2)) else (f_X12_no m (-6)).elim none (fun r14p => some (r14p.1, r14p.2))
theorem c_X12_days {g : GG} {d : Nat} {ad : AD} {x m : VM} {Q : Option Value → VM → VM → Prop} (p1 : Int32) {r9 : Int32} {w9 : VM} (hf : f_X12_days m p1 = some (r9, w9)) (hq : Q (some (.int r9)) x w9) : CX g (d + 5) MX12_days [.ref (ad 12 0), .int p1] ad x m Q := by
  refine CX.to (Lv := [some (.ref (ad 12 0)), some (.int p1), none]) okX12_days (Nat.le_of_ble_eq_true rfl) rfl ?_
  obtain ⟨Φ0, hΦ⟩ : ∃ Φ : Option (Int32 × VM) → Prop, Φ = fun o => o = some (r9, w9) := ⟨_, rfl⟩
  have hN0 : Φ0 none → False := by rw [hΦ]; intro h; cases h
  have hR0 : ∀ z9 y9, Φ0 (some (z9, y9)) → Q (some (.int z9)) x y9 := by rw [hΦ]; intro z9 y9 h; cases h; exact hq
  have h9 : Φ0 (f_X12_days m p1) := by rw [hΦ]; exact hf
  clear hf hq hΦ
  unfold f_X12_days at h9
  refine e_iload_n dX12_days_0 rfl rfl ?_
  refine e_iconst (v := 1) dX12_days_1 rfl ?_
  refine e_icmp_lt (tgt := 11) dX12_days_2 rfl (fun hc1 => ?_) (fun hc1 => ?_)
  · replace h9 := ifT hc1 h9
    refine e_aload_n dX12_days_11 rfl rfl ?_
    refine e_bipush (v := (-6)) dX12_days_12 rfl ?_
    obtain ⟨⟨r2, w3⟩, hr2, h9⟩ := elimP hN0 h9
    refine x_callVi (c := 12) (As := [.int (-6)]) (rest := []) okX12_no lkX12_263 rfl (by decide) rfl dX12_days_14 rfl rfl (Nat.le_of_ble_eq_true rfl) rfl (c_X12_no (-6) hr2 (CI.mk ?_))
    exact x_iret dX12_days_17 rfl (hR0 _ _ h9)
  · replace h9 := ifF hc1 h9
    refine e_iload_n dX12_days_5 rfl rfl ?_
    refine e_bipush (v := 100) dX12_days_6 rfl ?_
    refine e_icmp_le (tgt := 18) dX12_days_8 rfl (fun hc5 => ?_) (fun hc5 => ?_)
    · replace h9 := ifT hc5 h9
      refine e_aload_n dX12_days_18 rfl rfl ?_
      refine g_1200 flX12_286 dX12_days_19 ?_
      refine e_iload_n dX12_days_22 rfl rfl ?_
      refine e_iadd dX12_days_23 ?_
      refine e_sipush (v := 4000) dX12_days_24 rfl ?_
      refine e_icmp_le (tgt := 37) dX12_days_27 rfl (fun hc6 => ?_) (fun hc6 => ?_)
      · replace h9 := ifT hc6 h9
        refine e_iconst (v := 0) dX12_days_37 rfl ?_
        refine e_istore_n (L' := [some (.ref (ad 12 0)), some (.int p1), some (.int 0)]) dX12_days_38 rfl (by decide) rfl ?_
        refine loop_gen (b_X12_days_39 m p1) none (fun v7 => EX g (d + 5) MX12_days ad x v7.2 39 [some (.ref (ad 12 0)), some (.int p1), some (.int v7.1)] [] Q) Φ0 hN0 (fun v7 Φ1 hB0_1 hO1 h9 => ?_) (0, m) h9
        have hN1 := fun h => hN0 (hO1 _ h)
        have hR1 := fun r9 x9 h => hR0 r9 x9 (hO1 _ h)
        have hB0_1 : ∀ (z0 : Int32) (z1 : VM), Φ1 (Sum.inl (z0, z1)) → EX g (d + 5) MX12_days ad x z1 39 [some (.ref (ad 12 0)), some (.int p1), some (.int z0)] [] Q := fun z0 z1 h => hB0_1 (z0, z1) h
        unfold b_X12_days_39 at h9
        refine e_iload_n dX12_days_39 rfl rfl ?_
        refine e_iload_n dX12_days_40 rfl rfl ?_
        refine e_icmp_ge (tgt := 54) dX12_days_41 rfl (fun hc8 => ?_) (fun hc8 => ?_)
        · replace h9 := ifT hc8 h9
          refine e_aload_n dX12_days_54 rfl rfl ?_
          refine g_1200 flX12_286 dX12_days_55 ?_
          exact x_iret dX12_days_58 rfl (hR1 _ _ h9)
        · replace h9 := ifF hc8 h9
          refine e_aload_n dX12_days_44 rfl rfl ?_
          obtain ⟨r9, hr9, h9⟩ := elimP hN1 h9
          refine x_callVv (c := 12) (As := []) (rest := []) okX12_lives lkX12_357 rfl (by decide) rfl dX12_days_45 rfl rfl (Nat.le_of_ble_eq_true rfl) rfl (c_X12_lives hr9 (CV.mk ?_))
          refine e_iinc (v := (v7.1 + 1)) (L' := [some (.ref (ad 12 0)), some (.int p1), some (.int (v7.1 + 1))]) dX12_days_48 rfl rfl (by decide) rfl ?_
          refine e_goto (tgt := 39) dX12_days_51 rfl ?_
          exact hB0_1 _ _ h9
      · replace h9 := ifF hc6 h9
        refine e_aload_n dX12_days_30 rfl rfl ?_
        refine e_bipush (v := (-7)) dX12_days_31 rfl ?_
        obtain ⟨⟨r11, w12⟩, hr11, h9⟩ := elimP hN0 h9
        refine x_callVi (c := 12) (As := [.int (-7)]) (rest := []) okX12_no lkX12_263 rfl (by decide) rfl dX12_days_33 rfl rfl (Nat.le_of_ble_eq_true rfl) rfl (c_X12_no (-7) hr11 (CI.mk ?_))
        exact x_iret dX12_days_36 rfl (hR0 _ _ h9)
    · replace h9 := ifF hc5 h9
      refine e_aload_n dX12_days_11 rfl rfl ?_
      refine e_bipush (v := (-6)) dX12_days_12 rfl ?_
      obtain ⟨⟨r14, w15⟩, hr14, h9⟩ := elimP hN0 h9
      refine x_callVi (c := 12) (As := [.int (-6)]) (rest := []) okX12_no lkX12_263 rfl (by decide) rfl dX12_days_14 rfl rfl (Nat.le_of_ble_eq_true rfl) rfl (c_X12_no (-6) hr14 (CI.mk ?_))
      exact x_iret dX12_days_17 rfl (hR0 _ _ h9)
noncomputable def f_X12_who (m : VM) (p1 : Int32) (p2 : Int32) : Option (Int32) := (f_X12_isOne m p1).elim none (fun r1 => if r1 = 0 then some (-1) else if p2 = 0 then if inb p1 16 = true then some (m.2.1 1217 0 p1.toNatClampNeg) else none else if p2 = 1 then if inb p1 16 = true then if (m.2.1 1227 0 p1.toNatClampNeg) = 0 then some (-1) else if inb p1 16 = true then some (m.2.1 1219 0 p1.toNatClampNeg) else none else none else if p2 = 2 then (f_X12_isUnderOn m p1 (m.1 1200 0)).elim none (fun r10 => if r10 = 0 then some 0 else some 1) else if p2 = 3 then if inb p1 16 = true then if (m.2.1 1228 0 p1.toNatClampNeg) = 0 then some 0 else some 1 else none else if p2 = 4 then (f_X12_isLent m p1 (m.1 1200 0)).elim none (fun r16 => if r16 = 0 then some (-1) else if inb p1 16 = true then some (m.2.1 1220 0 p1.toNatClampNeg) else none) else if p2 = 5 then if inb p1 16 = true then some (m.2.1 1221 0 p1.toNatClampNeg) else none else if p2 = 6 then (f_X12_isUnderOn m p1 (m.1 1200 0)).elim none (fun r22 => if r22 = 0 then some 0 else if inb p1 16 = true then (f_X12_termYear m p1).elim none (fun r25 => if (m.2.1 1224 0 p1.toNatClampNeg) = r25 then if inb p1 16 = true then some (m.2.1 1225 0 p1.toNatClampNeg) else none else some 0) else none) else if p2 = 7 then (f_X12_isReady m p1 (m.1 1200 0)).elim none (fun r29 => if r29 = 0 then some 0 else some 1) else some (-1))
theorem c_X12_who {g : GG} {d : Nat} {ad : AD} {x m : VM} {Q : Option Value → VM → VM → Prop} (p1 : Int32) (p2 : Int32) {r9 : Int32} (hf : f_X12_who m p1 p2 = some r9) (hq : Q (some (.int r9)) x m) : CX g (d + 2) MX12_who [.ref (ad 12 0), .int p1, .int p2] ad x m Q := by
  refine CX.to (Lv := [some (.ref (ad 12 0)), some (.int p1), some (.int p2)]) okX12_who (Nat.le_of_ble_eq_true rfl) rfl ?_
  obtain ⟨Φ0, hΦ⟩ : ∃ Φ : Option (Int32) → Prop, Φ = fun o => o = some r9 := ⟨_, rfl⟩
  have hN0 : Φ0 none → False := by rw [hΦ]; intro h; cases h
  have hR0 : ∀ z9, Φ0 (some z9) → Q (some (.int z9)) x m := by rw [hΦ]; intro z9 h; cases h; exact hq
  have h9 : Φ0 (f_X12_who m p1 p2) := by rw [hΦ]; exact hf
  clear hf hq hΦ
  unfold f_X12_who at h9
  refine e_aload_n dX12_who_0 rfl rfl ?_
  refine e_iload_n dX12_who_1 rfl rfl ?_
  obtain ⟨r1, hr1, h9⟩ := elimP hN0 h9
  refine x_callVi (c := 12) (As := [.int p1]) (rest := []) okX12_isOne lkX12_277 rfl (by decide) rfl dX12_who_2 rfl rfl (Nat.le_of_ble_eq_true rfl) rfl (c_X12_isOne p1 hr1 (CI.mk ?_))
  refine e_if_ne (tgt := 10) dX12_who_5 rfl (fun hc2 => ?_) (fun hc2 => ?_)
  · replace h9 := ifF hc2 h9
    refine e_iload_n dX12_who_10 rfl rfl ?_
    by_cases hc3 : p2 = 0
    · replace h9 := ifT hc3 h9
      refine e_tableIn (tgt := 56) dX12_who_11 (by rw [hc3]; decide) (by rw [hc3]; decide) (by rw [hc3]; rfl) rfl ?_
      refine e_aload_n dX12_who_56 rfl rfl ?_
      refine g_1217 flX12_36 dX12_who_57 ?_
      refine e_iload_n dX12_who_60 rfl rfl ?_
      obtain ⟨k4, h9⟩ := chkP hN0 h9
      refine l_1217 dX12_who_61 (inb_in k4) ?_
      exact x_iret dX12_who_62 rfl (hR0 _ h9)
    replace h9 := ifF hc3 h9
    by_cases hc5 : p2 = 1
    · replace h9 := ifT hc5 h9
      refine e_tableIn (tgt := 63) dX12_who_11 (by rw [hc5]; decide) (by rw [hc5]; decide) (by rw [hc5]; rfl) rfl ?_
      refine e_aload_n dX12_who_63 rfl rfl ?_
      refine g_1227 flX12_66 dX12_who_64 ?_
      refine e_iload_n dX12_who_67 rfl rfl ?_
      obtain ⟨k6, h9⟩ := chkP hN0 h9
      refine l_1227 dX12_who_68 (inb_in k6) ?_
      refine e_if_eq (tgt := 81) dX12_who_69 rfl (fun hc7 => ?_) (fun hc7 => ?_)
      · replace h9 := ifT hc7 h9
        refine e_iconst (v := (-1)) dX12_who_81 rfl ?_
        exact x_iret dX12_who_82 rfl (hR0 _ h9)
      · replace h9 := ifF hc7 h9
        refine e_aload_n dX12_who_72 rfl rfl ?_
        refine g_1219 flX12_42 dX12_who_73 ?_
        refine e_iload_n dX12_who_76 rfl rfl ?_
        obtain ⟨k8, h9⟩ := chkP hN0 h9
        refine l_1219 dX12_who_77 (inb_in k8) ?_
        refine e_goto (tgt := 82) dX12_who_78 rfl ?_
        exact x_iret dX12_who_82 rfl (hR0 _ h9)
    replace h9 := ifF hc5 h9
    by_cases hc9 : p2 = 2
    · replace h9 := ifT hc9 h9
      refine e_tableIn (tgt := 83) dX12_who_11 (by rw [hc9]; decide) (by rw [hc9]; decide) (by rw [hc9]; rfl) rfl ?_
      refine e_aload_n dX12_who_83 rfl rfl ?_
      refine e_iload_n dX12_who_84 rfl rfl ?_
      refine e_aload_n dX12_who_85 rfl rfl ?_
      refine g_1200 flX12_286 dX12_who_86 ?_
      obtain ⟨r10, hr10, h9⟩ := elimP hN0 h9
      refine x_callVi (c := 12) (As := [.int p1, .int (m.1 1200 0)]) (rest := []) okX12_isUnderOn lkX12_289 rfl (by decide) rfl dX12_who_89 rfl rfl (Nat.le_of_ble_eq_true rfl) rfl (c_X12_isUnderOn p1 (m.1 1200 0) hr10 (CI.mk ?_))
      refine e_if_eq (tgt := 99) dX12_who_92 rfl (fun hc11 => ?_) (fun hc11 => ?_)
      · replace h9 := ifT hc11 h9
        refine e_iconst (v := 0) dX12_who_99 rfl ?_
        exact x_iret dX12_who_100 rfl (hR0 _ h9)
      · replace h9 := ifF hc11 h9
        refine e_iconst (v := 1) dX12_who_95 rfl ?_
        refine e_goto (tgt := 100) dX12_who_96 rfl ?_
        exact x_iret dX12_who_100 rfl (hR0 _ h9)
    replace h9 := ifF hc9 h9
    by_cases hc12 : p2 = 3
    · replace h9 := ifT hc12 h9
      refine e_tableIn (tgt := 101) dX12_who_11 (by rw [hc12]; decide) (by rw [hc12]; decide) (by rw [hc12]; rfl) rfl ?_
      refine e_aload_n dX12_who_101 rfl rfl ?_
      refine g_1228 flX12_70 dX12_who_102 ?_
      refine e_iload_n dX12_who_105 rfl rfl ?_
      obtain ⟨k13, h9⟩ := chkP hN0 h9
      refine l_1228 dX12_who_106 (inb_in k13) ?_
      refine e_if_eq (tgt := 114) dX12_who_107 rfl (fun hc14 => ?_) (fun hc14 => ?_)
      · replace h9 := ifT hc14 h9
        refine e_iconst (v := 0) dX12_who_114 rfl ?_
        exact x_iret dX12_who_115 rfl (hR0 _ h9)
      · replace h9 := ifF hc14 h9
        refine e_iconst (v := 1) dX12_who_110 rfl ?_
        refine e_goto (tgt := 115) dX12_who_111 rfl ?_
        exact x_iret dX12_who_115 rfl (hR0 _ h9)
    replace h9 := ifF hc12 h9
    by_cases hc15 : p2 = 4
    · replace h9 := ifT hc15 h9
      refine e_tableIn (tgt := 116) dX12_who_11 (by rw [hc15]; decide) (by rw [hc15]; decide) (by rw [hc15]; rfl) rfl ?_
      refine e_aload_n dX12_who_116 rfl rfl ?_
      refine e_iload_n dX12_who_117 rfl rfl ?_
      refine e_aload_n dX12_who_118 rfl rfl ?_
      refine g_1200 flX12_286 dX12_who_119 ?_
      obtain ⟨r16, hr16, h9⟩ := elimP hN0 h9
      refine x_callVi (c := 12) (As := [.int p1, .int (m.1 1200 0)]) (rest := []) okX12_isLent lkX12_299 rfl (by decide) rfl dX12_who_122 rfl rfl (Nat.le_of_ble_eq_true rfl) rfl (c_X12_isLent p1 (m.1 1200 0) hr16 (CI.mk ?_))
      refine e_if_eq (tgt := 137) dX12_who_125 rfl (fun hc17 => ?_) (fun hc17 => ?_)
      · replace h9 := ifT hc17 h9
        refine e_iconst (v := (-1)) dX12_who_137 rfl ?_
        exact x_iret dX12_who_138 rfl (hR0 _ h9)
      · replace h9 := ifF hc17 h9
        refine e_aload_n dX12_who_128 rfl rfl ?_
        refine g_1220 flX12_45 dX12_who_129 ?_
        refine e_iload_n dX12_who_132 rfl rfl ?_
        obtain ⟨k18, h9⟩ := chkP hN0 h9
        refine l_1220 dX12_who_133 (inb_in k18) ?_
        refine e_goto (tgt := 138) dX12_who_134 rfl ?_
        exact x_iret dX12_who_138 rfl (hR0 _ h9)
    replace h9 := ifF hc15 h9
    by_cases hc19 : p2 = 5
    · replace h9 := ifT hc19 h9
      refine e_tableIn (tgt := 139) dX12_who_11 (by rw [hc19]; decide) (by rw [hc19]; decide) (by rw [hc19]; rfl) rfl ?_
      refine e_aload_n dX12_who_139 rfl rfl ?_
      refine g_1221 flX12_48 dX12_who_140 ?_
      refine e_iload_n dX12_who_143 rfl rfl ?_
      obtain ⟨k20, h9⟩ := chkP hN0 h9
      refine l_1221 dX12_who_144 (inb_in k20) ?_
      exact x_iret dX12_who_145 rfl (hR0 _ h9)
    replace h9 := ifF hc19 h9
    by_cases hc21 : p2 = 6
    · replace h9 := ifT hc21 h9
      refine e_tableIn (tgt := 146) dX12_who_11 (by rw [hc21]; decide) (by rw [hc21]; decide) (by rw [hc21]; rfl) rfl ?_
      refine e_aload_n dX12_who_146 rfl rfl ?_
      refine e_iload_n dX12_who_147 rfl rfl ?_
      refine e_aload_n dX12_who_148 rfl rfl ?_
      refine g_1200 flX12_286 dX12_who_149 ?_
      obtain ⟨r22, hr22, h9⟩ := elimP hN0 h9
      refine x_callVi (c := 12) (As := [.int p1, .int (m.1 1200 0)]) (rest := []) okX12_isUnderOn lkX12_289 rfl (by decide) rfl dX12_who_152 rfl rfl (Nat.le_of_ble_eq_true rfl) rfl (c_X12_isUnderOn p1 (m.1 1200 0) hr22 (CI.mk ?_))
      refine e_if_eq (tgt := 181) dX12_who_155 rfl (fun hc23 => ?_) (fun hc23 => ?_)
      · replace h9 := ifT hc23 h9
        refine e_iconst (v := 0) dX12_who_181 rfl ?_
        exact x_iret dX12_who_182 rfl (hR0 _ h9)
      · replace h9 := ifF hc23 h9
        refine e_aload_n dX12_who_158 rfl rfl ?_
        refine g_1224 flX12_57 dX12_who_159 ?_
        refine e_iload_n dX12_who_162 rfl rfl ?_
        obtain ⟨k24, h9⟩ := chkP hN0 h9
        refine l_1224 dX12_who_163 (inb_in k24) ?_
        refine e_aload_n dX12_who_164 rfl rfl ?_
        refine e_iload_n dX12_who_165 rfl rfl ?_
        obtain ⟨r25, hr25, h9⟩ := elimP hN0 h9
        refine x_callVi (c := 12) (As := [.int p1]) (rest := [.int (m.2.1 1224 0 p1.toNatClampNeg)]) okX12_termYear lkX12_305 rfl (by decide) rfl dX12_who_166 rfl rfl (Nat.le_of_ble_eq_true rfl) rfl (c_X12_termYear p1 hr25 (CI.mk ?_))
        refine e_icmp_ne (tgt := 181) dX12_who_169 rfl (fun hc26 => ?_) (fun hc26 => ?_)
        · replace h9 := ifF hc26 h9
          refine e_iconst (v := 0) dX12_who_181 rfl ?_
          exact x_iret dX12_who_182 rfl (hR0 _ h9)
        · replace h9 := ifT hc26 h9
          refine e_aload_n dX12_who_172 rfl rfl ?_
          refine g_1225 flX12_60 dX12_who_173 ?_
          refine e_iload_n dX12_who_176 rfl rfl ?_
          obtain ⟨k27, h9⟩ := chkP hN0 h9
          refine l_1225 dX12_who_177 (inb_in k27) ?_
          refine e_goto (tgt := 182) dX12_who_178 rfl ?_
          exact x_iret dX12_who_182 rfl (hR0 _ h9)
    replace h9 := ifF hc21 h9
    by_cases hc28 : p2 = 7
    · replace h9 := ifT hc28 h9
      refine e_tableIn (tgt := 183) dX12_who_11 (by rw [hc28]; decide) (by rw [hc28]; decide) (by rw [hc28]; rfl) rfl ?_
      refine e_aload_n dX12_who_183 rfl rfl ?_
      refine e_iload_n dX12_who_184 rfl rfl ?_
      refine e_aload_n dX12_who_185 rfl rfl ?_
      refine g_1200 flX12_286 dX12_who_186 ?_
      obtain ⟨r29, hr29, h9⟩ := elimP hN0 h9
      refine x_callVi (c := 12) (As := [.int p1, .int (m.1 1200 0)]) (rest := []) okX12_isReady lkX12_344 rfl (by decide) rfl dX12_who_189 rfl rfl (Nat.le_of_ble_eq_true rfl) rfl (c_X12_isReady p1 (m.1 1200 0) hr29 (CI.mk ?_))
      refine e_if_eq (tgt := 199) dX12_who_192 rfl (fun hc30 => ?_) (fun hc30 => ?_)
      · replace h9 := ifT hc30 h9
        refine e_iconst (v := 0) dX12_who_199 rfl ?_
        exact x_iret dX12_who_200 rfl (hR0 _ h9)
      · replace h9 := ifF hc30 h9
        refine e_iconst (v := 1) dX12_who_195 rfl ?_
        refine e_goto (tgt := 200) dX12_who_196 rfl ?_
        exact x_iret dX12_who_200 rfl (hR0 _ h9)
    replace h9 := ifF hc28 h9
    refine e_tableOut (tgt := 201) dX12_who_11 (sw_out8 hc3 hc5 hc9 hc12 hc15 hc19 hc21 hc28) rfl ?_
    refine e_iconst (v := (-1)) dX12_who_201 rfl ?_
    exact x_iret dX12_who_202 rfl (hR0 _ h9)
  · replace h9 := ifT hc2 h9
    refine e_iconst (v := (-1)) dX12_who_8 rfl ?_
    exact x_iret dX12_who_9 rfl (hR0 _ h9)
noncomputable def f_X12_about (m : VM) (p1 : Int32) (p2 : Int32) : Option (Int32) := (f_X12_isPicture m p1).elim none (fun r1 => if r1 = 0 then some (-1) else if p2 = 0 then if inb p1 8 = true then some (m.2.1 1234 0 p1.toNatClampNeg) else none else if p2 = 1 then if inb p1 8 = true then some (m.2.1 1235 0 p1.toNatClampNeg) else none else if p2 = 2 then if inb p1 8 = true then if (m.2.1 1240 0 p1.toNatClampNeg) = 0 then some 0 else some 1 else none else if p2 = 3 then (f_X12_leftOf m p1).elim none (fun r11 => some r11) else if p2 = 4 then if inb p1 8 = true then some (m.2.1 1243 0 p1.toNatClampNeg) else none else if p2 = 5 then if inb p1 8 = true then some (m.2.1 1244 0 p1.toNatClampNeg) else none else if p2 = 6 then if inb p1 8 = true then some (m.2.1 1245 0 p1.toNatClampNeg) else none else if p2 = 7 then if inb p1 8 = true then some (m.2.1 1246 0 p1.toNatClampNeg) else none else if p2 = 8 then if inb p1 8 = true then some (m.2.1 1247 0 p1.toNatClampNeg) else none else some (-1))
theorem c_X12_about {g : GG} {d : Nat} {ad : AD} {x m : VM} {Q : Option Value → VM → VM → Prop} (p1 : Int32) (p2 : Int32) {r9 : Int32} (hf : f_X12_about m p1 p2 = some r9) (hq : Q (some (.int r9)) x m) : CX g (d + 1) MX12_about [.ref (ad 12 0), .int p1, .int p2] ad x m Q := by
  refine CX.to (Lv := [some (.ref (ad 12 0)), some (.int p1), some (.int p2)]) okX12_about (Nat.le_of_ble_eq_true rfl) rfl ?_
  obtain ⟨Φ0, hΦ⟩ : ∃ Φ : Option (Int32) → Prop, Φ = fun o => o = some r9 := ⟨_, rfl⟩
  have hN0 : Φ0 none → False := by rw [hΦ]; intro h; cases h
  have hR0 : ∀ z9, Φ0 (some z9) → Q (some (.int z9)) x m := by rw [hΦ]; intro z9 h; cases h; exact hq
  have h9 : Φ0 (f_X12_about m p1 p2) := by rw [hΦ]; exact hf
  clear hf hq hΦ
  unfold f_X12_about at h9
  refine e_aload_n dX12_about_0 rfl rfl ?_
  refine e_iload_n dX12_about_1 rfl rfl ?_
  obtain ⟨r1, hr1, h9⟩ := elimP hN0 h9
  refine x_callVi (c := 12) (As := [.int p1]) (rest := []) okX12_isPicture lkX12_253 rfl (by decide) rfl dX12_about_2 rfl rfl (Nat.le_of_ble_eq_true rfl) rfl (c_X12_isPicture p1 hr1 (CI.mk ?_))
  refine e_if_ne (tgt := 10) dX12_about_5 rfl (fun hc2 => ?_) (fun hc2 => ?_)
  · replace h9 := ifF hc2 h9
    refine e_iload_n dX12_about_10 rfl rfl ?_
    by_cases hc3 : p2 = 0
    · replace h9 := ifT hc3 h9
      refine e_tableIn (tgt := 60) dX12_about_11 (by rw [hc3]; decide) (by rw [hc3]; decide) (by rw [hc3]; rfl) rfl ?_
      refine e_aload_n dX12_about_60 rfl rfl ?_
      refine g_1234 flX12_88 dX12_about_61 ?_
      refine e_iload_n dX12_about_64 rfl rfl ?_
      obtain ⟨k4, h9⟩ := chkP hN0 h9
      refine l_1234 dX12_about_65 (inb_in k4) ?_
      exact x_iret dX12_about_66 rfl (hR0 _ h9)
    replace h9 := ifF hc3 h9
    by_cases hc5 : p2 = 1
    · replace h9 := ifT hc5 h9
      refine e_tableIn (tgt := 67) dX12_about_11 (by rw [hc5]; decide) (by rw [hc5]; decide) (by rw [hc5]; rfl) rfl ?_
      refine e_aload_n dX12_about_67 rfl rfl ?_
      refine g_1235 flX12_91 dX12_about_68 ?_
      refine e_iload_n dX12_about_71 rfl rfl ?_
      obtain ⟨k6, h9⟩ := chkP hN0 h9
      refine l_1235 dX12_about_72 (inb_in k6) ?_
      exact x_iret dX12_about_73 rfl (hR0 _ h9)
    replace h9 := ifF hc5 h9
    by_cases hc7 : p2 = 2
    · replace h9 := ifT hc7 h9
      refine e_tableIn (tgt := 74) dX12_about_11 (by rw [hc7]; decide) (by rw [hc7]; decide) (by rw [hc7]; rfl) rfl ?_
      refine e_aload_n dX12_about_74 rfl rfl ?_
      refine g_1240 flX12_106 dX12_about_75 ?_
      refine e_iload_n dX12_about_78 rfl rfl ?_
      obtain ⟨k8, h9⟩ := chkP hN0 h9
      refine l_1240 dX12_about_79 (inb_in k8) ?_
      refine e_if_eq (tgt := 87) dX12_about_80 rfl (fun hc9 => ?_) (fun hc9 => ?_)
      · replace h9 := ifT hc9 h9
        refine e_iconst (v := 0) dX12_about_87 rfl ?_
        exact x_iret dX12_about_88 rfl (hR0 _ h9)
      · replace h9 := ifF hc9 h9
        refine e_iconst (v := 1) dX12_about_83 rfl ?_
        refine e_goto (tgt := 88) dX12_about_84 rfl ?_
        exact x_iret dX12_about_88 rfl (hR0 _ h9)
    replace h9 := ifF hc7 h9
    by_cases hc10 : p2 = 3
    · replace h9 := ifT hc10 h9
      refine e_tableIn (tgt := 89) dX12_about_11 (by rw [hc10]; decide) (by rw [hc10]; decide) (by rw [hc10]; rfl) rfl ?_
      refine e_aload_n dX12_about_89 rfl rfl ?_
      refine e_iload_n dX12_about_90 rfl rfl ?_
      obtain ⟨r11, hr11, h9⟩ := elimP hN0 h9
      refine x_callVi (c := 12) (As := [.int p1]) (rest := []) okX12_leftOf lkX12_350 rfl (by decide) rfl dX12_about_91 rfl rfl (Nat.le_of_ble_eq_true rfl) rfl (c_X12_leftOf p1 hr11 (CI.mk ?_))
      exact x_iret dX12_about_94 rfl (hR0 _ h9)
    replace h9 := ifF hc10 h9
    by_cases hc12 : p2 = 4
    · replace h9 := ifT hc12 h9
      refine e_tableIn (tgt := 95) dX12_about_11 (by rw [hc12]; decide) (by rw [hc12]; decide) (by rw [hc12]; rfl) rfl ?_
      refine e_aload_n dX12_about_95 rfl rfl ?_
      refine g_1243 flX12_115 dX12_about_96 ?_
      refine e_iload_n dX12_about_99 rfl rfl ?_
      obtain ⟨k13, h9⟩ := chkP hN0 h9
      refine l_1243 dX12_about_100 (inb_in k13) ?_
      exact x_iret dX12_about_101 rfl (hR0 _ h9)
    replace h9 := ifF hc12 h9
    by_cases hc14 : p2 = 5
    · replace h9 := ifT hc14 h9
      refine e_tableIn (tgt := 102) dX12_about_11 (by rw [hc14]; decide) (by rw [hc14]; decide) (by rw [hc14]; rfl) rfl ?_
      refine e_aload_n dX12_about_102 rfl rfl ?_
      refine g_1244 flX12_118 dX12_about_103 ?_
      refine e_iload_n dX12_about_106 rfl rfl ?_
      obtain ⟨k15, h9⟩ := chkP hN0 h9
      refine l_1244 dX12_about_107 (inb_in k15) ?_
      exact x_iret dX12_about_108 rfl (hR0 _ h9)
    replace h9 := ifF hc14 h9
    by_cases hc16 : p2 = 6
    · replace h9 := ifT hc16 h9
      refine e_tableIn (tgt := 109) dX12_about_11 (by rw [hc16]; decide) (by rw [hc16]; decide) (by rw [hc16]; rfl) rfl ?_
      refine e_aload_n dX12_about_109 rfl rfl ?_
      refine g_1245 flX12_121 dX12_about_110 ?_
      refine e_iload_n dX12_about_113 rfl rfl ?_
      obtain ⟨k17, h9⟩ := chkP hN0 h9
      refine l_1245 dX12_about_114 (inb_in k17) ?_
      exact x_iret dX12_about_115 rfl (hR0 _ h9)
    replace h9 := ifF hc16 h9
    by_cases hc18 : p2 = 7
    · replace h9 := ifT hc18 h9
      refine e_tableIn (tgt := 116) dX12_about_11 (by rw [hc18]; decide) (by rw [hc18]; decide) (by rw [hc18]; rfl) rfl ?_
      refine e_aload_n dX12_about_116 rfl rfl ?_
      refine g_1246 flX12_124 dX12_about_117 ?_
      refine e_iload_n dX12_about_120 rfl rfl ?_
      obtain ⟨k19, h9⟩ := chkP hN0 h9
      refine l_1246 dX12_about_121 (inb_in k19) ?_
      exact x_iret dX12_about_122 rfl (hR0 _ h9)
    replace h9 := ifF hc18 h9
    by_cases hc20 : p2 = 8
    · replace h9 := ifT hc20 h9
      refine e_tableIn (tgt := 123) dX12_about_11 (by rw [hc20]; decide) (by rw [hc20]; decide) (by rw [hc20]; rfl) rfl ?_
      refine e_aload_n dX12_about_123 rfl rfl ?_
      refine g_1247 flX12_127 dX12_about_124 ?_
      refine e_iload_n dX12_about_127 rfl rfl ?_
      obtain ⟨k21, h9⟩ := chkP hN0 h9
      refine l_1247 dX12_about_128 (inb_in k21) ?_
      exact x_iret dX12_about_129 rfl (hR0 _ h9)
    replace h9 := ifF hc20 h9
    refine e_tableOut (tgt := 130) dX12_about_11 (sw_out9 hc3 hc5 hc7 hc10 hc12 hc14 hc16 hc18 hc20) rfl ?_
    refine e_iconst (v := (-1)) dX12_about_130 rfl ?_
    exact x_iret dX12_about_131 rfl (hR0 _ h9)
  · replace h9 := ifT hc2 h9
    refine e_iconst (v := (-1)) dX12_about_8 rfl ?_
    exact x_iret dX12_about_9 rfl (hR0 _ h9)
noncomputable def f_X12_left (m : VM) (p1 : Int32) (p2 : Int32) : Option (Int32) := (f_X12_isScene m p1 p2).elim none (fun r1 => if r1 = 0 then some (-1) else if inb ((8 * p1) + p2) 64 = true then some (m.2.1 1242 0 (((8 * p1) + p2).toNatClampNeg)) else none)
theorem c_X12_left {g : GG} {d : Nat} {ad : AD} {x m : VM} {Q : Option Value → VM → VM → Prop} (p1 : Int32) (p2 : Int32) {r9 : Int32} (hf : f_X12_left m p1 p2 = some r9) (hq : Q (some (.int r9)) x m) : CX g (d + 2) MX12_left [.ref (ad 12 0), .int p1, .int p2] ad x m Q := by
  refine CX.to (Lv := [some (.ref (ad 12 0)), some (.int p1), some (.int p2)]) okX12_left (Nat.le_of_ble_eq_true rfl) rfl ?_
  obtain ⟨Φ0, hΦ⟩ : ∃ Φ : Option (Int32) → Prop, Φ = fun o => o = some r9 := ⟨_, rfl⟩
  have hN0 : Φ0 none → False := by rw [hΦ]; intro h; cases h
  have hR0 : ∀ z9, Φ0 (some z9) → Q (some (.int z9)) x m := by rw [hΦ]; intro z9 h; cases h; exact hq
  have h9 : Φ0 (f_X12_left m p1 p2) := by rw [hΦ]; exact hf
  clear hf hq hΦ
  unfold f_X12_left at h9
  refine e_aload_n dX12_left_0 rfl rfl ?_
  refine e_iload_n dX12_left_1 rfl rfl ?_
  refine e_iload_n dX12_left_2 rfl rfl ?_
  obtain ⟨r1, hr1, h9⟩ := elimP hN0 h9
  refine x_callVi (c := 12) (As := [.int p1, .int p2]) (rest := []) okX12_isScene lkX12_312 rfl (by decide) rfl dX12_left_3 rfl rfl (Nat.le_of_ble_eq_true rfl) rfl (c_X12_isScene p1 p2 hr1 (CI.mk ?_))
  refine e_if_eq (tgt := 23) dX12_left_6 rfl (fun hc2 => ?_) (fun hc2 => ?_)
  · replace h9 := ifT hc2 h9
    refine e_iconst (v := (-1)) dX12_left_23 rfl ?_
    exact x_iret dX12_left_24 rfl (hR0 _ h9)
  · replace h9 := ifF hc2 h9
    refine e_aload_n dX12_left_9 rfl rfl ?_
    refine g_1242 flX12_112 dX12_left_10 ?_
    refine e_bipush (v := 8) dX12_left_13 rfl ?_
    refine e_iload_n dX12_left_15 rfl rfl ?_
    refine e_imul dX12_left_16 ?_
    refine e_iload_n dX12_left_17 rfl rfl ?_
    refine e_iadd dX12_left_18 ?_
    obtain ⟨k3, h9⟩ := chkP hN0 h9
    refine l_1242 dX12_left_19 (inb_in k3) ?_
    refine e_pc (pc' := 20) rfl ?_
    refine e_goto (tgt := 24) dX12_left_20 rfl ?_
    exact x_iret dX12_left_24 rfl (hR0 _ h9)
noncomputable def b_X12_draft_467 (m : VM) (p1 : Int32) (p2 : Int32) (p3 : Int32) (v17 : Int32 × VM) (v19 : Int32 × VM) (v21 : Int32 × Int32 × Int32 × VM) (v24 : Int32 × VM) : (Int32 × VM) ⊕ ((Int32 × Int32 × Int32 × VM) ⊕ ((Int32 × VM) ⊕ ((Int32 × VM) ⊕ (Option (Int32 × VM))))) := if (m.2.1 1213 0 p3.toNatClampNeg) ≤ v24.1 then if inb p1 8 = true then if inb p1 8 = true then Sum.inr (Sum.inr (Sum.inr (Sum.inr (some (v21.2.2.1, setA v24.2 1247 0 (upd (v24.2.2.1 1247 0) p1.toNatClampNeg ((v24.2.2.1 1247 0 p1.toNatClampNeg) + 1))))))) else Sum.inr (Sum.inr (Sum.inr (Sum.inr none))) else Sum.inr (Sum.inr (Sum.inr (Sum.inr none))) else if inb ((60 * p3) + v24.1) 480 = true then if inb ((60 * p1) + v24.1) 480 = true then if inb v24.1 60 = true then if inb ((60 * p1) + v24.1) 480 = true then Sum.inl (v24.1 + 1, setA (setJ v24.2 1250 0 (vp_updL (v24.2.2.2.1 1250 0) (((60 * p1) + v24.1).toNatClampNeg) (v24.2.2.2.1 1215 0 (((60 * p3) + v24.1).toNatClampNeg)))) 1249 0 (upd ((setJ v24.2 1250 0 (vp_updL (v24.2.2.2.1 1250 0) (((60 * p1) + v24.1).toNatClampNeg) (v24.2.2.2.1 1215 0 (((60 * p3) + v24.1).toNatClampNeg)))).2.1 1249 0) (((60 * p1) + v24.1).toNatClampNeg) ((setJ v24.2 1250 0 (vp_updL (v24.2.2.2.1 1250 0) (((60 * p1) + v24.1).toNatClampNeg) (v24.2.2.2.1 1215 0 (((60 * p3) + v24.1).toNatClampNeg)))).2.1 1277 0 v24.1.toNatClampNeg))) else Sum.inr (Sum.inr (Sum.inr (Sum.inr none))) else Sum.inr (Sum.inr (Sum.inr (Sum.inr none))) else Sum.inr (Sum.inr (Sum.inr (Sum.inr none))) else Sum.inr (Sum.inr (Sum.inr (Sum.inr none)))
noncomputable def b_X12_draft_467_35 (m : VM) (p1 : Int32) (p2 : Int32) (p3 : Int32) (v17 : Int32 × VM) (v19 : Int32 × VM) (v21 : Int32 × Int32 × Int32 × VM) (v34 : Int32 × VM) : (Int32 × VM) ⊕ ((Int32 × Int32 × Int32 × VM) ⊕ ((Int32 × VM) ⊕ ((Int32 × VM) ⊕ (Option (Int32 × VM))))) := if (m.2.1 1213 0 p3.toNatClampNeg) ≤ v34.1 then if inb p1 8 = true then if inb p1 8 = true then Sum.inr (Sum.inr (Sum.inr (Sum.inr (some (v21.2.2.1, setA v34.2 1247 0 (upd (v34.2.2.1 1247 0) p1.toNatClampNeg ((v34.2.2.1 1247 0 p1.toNatClampNeg) + 1))))))) else Sum.inr (Sum.inr (Sum.inr (Sum.inr none))) else Sum.inr (Sum.inr (Sum.inr (Sum.inr none))) else if inb ((60 * p3) + v34.1) 480 = true then if inb ((60 * p1) + v34.1) 480 = true then if inb v34.1 60 = true then if inb ((60 * p1) + v34.1) 480 = true then Sum.inl (v34.1 + 1, setA (setJ v34.2 1250 0 (vp_updL (v34.2.2.2.1 1250 0) (((60 * p1) + v34.1).toNatClampNeg) (v34.2.2.2.1 1215 0 (((60 * p3) + v34.1).toNatClampNeg)))) 1249 0 (upd ((setJ v34.2 1250 0 (vp_updL (v34.2.2.2.1 1250 0) (((60 * p1) + v34.1).toNatClampNeg) (v34.2.2.2.1 1215 0 (((60 * p3) + v34.1).toNatClampNeg)))).2.1 1249 0) (((60 * p1) + v34.1).toNatClampNeg) ((setJ v34.2 1250 0 (vp_updL (v34.2.2.2.1 1250 0) (((60 * p1) + v34.1).toNatClampNeg) (v34.2.2.2.1 1215 0 (((60 * p3) + v34.1).toNatClampNeg)))).2.1 1277 0 v34.1.toNatClampNeg))) else Sum.inr (Sum.inr (Sum.inr (Sum.inr none))) else Sum.inr (Sum.inr (Sum.inr (Sum.inr none))) else Sum.inr (Sum.inr (Sum.inr (Sum.inr none))) else Sum.inr (Sum.inr (Sum.inr (Sum.inr none)))
noncomputable def j_X12_draft_424 (m : VM) (p1 : Int32) (p2 : Int32) (p3 : Int32) (v17 : Int32 × VM) (v19 : Int32 × VM) (v21 : Int32 × Int32 × Int32 × VM) : (Int32 × Int32 × Int32 × VM) ⊕ ((Int32 × VM) ⊕ ((Int32 × VM) ⊕ (Option (Int32 × VM)))) := if inb ((61 * (v21.1 + 1)) + v21.2.1) 3721 = true then if (v21.2.2.2.2.1 1276 0 (((61 * (v21.1 + 1)) + v21.2.1).toNatClampNeg)) = (v21.2.2.2.2.1 1276 0 (((61 * v21.1) + v21.2.1).toNatClampNeg)) then Sum.inl (v21.1 + 1, v21.2.1, v21.2.2.1, v21.2.2.2) else Sum.inl (v21.1, v21.2.1 + 1, v21.2.2.1, v21.2.2.2) else Sum.inr (Sum.inr (Sum.inr none))
noncomputable def b_X12_draft_312 (m : VM) (p1 : Int32) (p2 : Int32) (p3 : Int32) (v17 : Int32 × VM) (v19 : Int32 × VM) (v21 : Int32 × Int32 × Int32 × VM) : (Int32 × Int32 × Int32 × VM) ⊕ ((Int32 × VM) ⊕ ((Int32 × VM) ⊕ (Option (Int32 × VM)))) := if (m.2.1 1248 0 p1.toNatClampNeg) ≤ v21.1 then if inb p1 8 = true then loopF (Sum.inr (Sum.inr (Sum.inr none))) (b_X12_draft_467 m p1 p2 p3 v17 v19 v21) (0, setA v21.2.2.2 1248 0 (upd (v21.2.2.2.2.1 1248 0) p1.toNatClampNeg (m.2.1 1213 0 p3.toNatClampNeg))) else Sum.inr (Sum.inr (Sum.inr none)) else if (m.2.1 1213 0 p3.toNatClampNeg) ≤ v21.2.1 then if inb p1 8 = true then loopF (Sum.inr (Sum.inr (Sum.inr none))) (b_X12_draft_467_35 m p1 p2 p3 v17 v19 v21) (0, setA v21.2.2.2 1248 0 (upd (v21.2.2.2.2.1 1248 0) p1.toNatClampNeg (m.2.1 1213 0 p3.toNatClampNeg))) else Sum.inr (Sum.inr (Sum.inr none)) else if inb ((61 * v21.1) + v21.2.1) 3721 = true then if inb ((60 * p1) + v21.1) 480 = true then if inb ((60 * p3) + v21.2.1) 480 = true then if (lg_cmp (v21.2.2.2.2.2.1 1250 0 (((60 * p1) + v21.1).toNatClampNeg)) (v21.2.2.2.2.2.1 1215 0 (((60 * p3) + v21.2.1).toNatClampNeg))) = 0 then if inb (((61 * (v21.1 + 1)) + v21.2.1) + 1) 3721 = true then if ((v21.2.2.2.2.1 1276 0 ((((61 * (v21.1 + 1)) + v21.2.1) + 1).toNatClampNeg)) + 1) = (v21.2.2.2.2.1 1276 0 (((61 * v21.1) + v21.2.1).toNatClampNeg)) then if inb ((60 * p1) + v21.1) 480 = true then if inb v21.2.1 60 = true then Sum.inl (v21.1 + 1, v21.2.1 + 1, v21.2.2.1 + 1, setA v21.2.2.2 1277 0 (upd (v21.2.2.2.2.1 1277 0) v21.2.1.toNatClampNeg (v21.2.2.2.2.1 1249 0 (((60 * p1) + v21.1).toNatClampNeg)))) else Sum.inr (Sum.inr (Sum.inr none)) else Sum.inr (Sum.inr (Sum.inr none)) else j_X12_draft_424 m p1 p2 p3 v17 v19 v21 else Sum.inr (Sum.inr (Sum.inr none)) else j_X12_draft_424 m p1 p2 p3 v17 v19 v21 else Sum.inr (Sum.inr (Sum.inr none)) else Sum.inr (Sum.inr (Sum.inr none)) else Sum.inr (Sum.inr (Sum.inr none))
noncomputable def b_X12_draft_282 (m : VM) (p1 : Int32) (p2 : Int32) (p3 : Int32) (v17 : Int32 × VM) (v19 : Int32 × VM) : (Int32 × VM) ⊕ ((Int32 × VM) ⊕ (Option (Int32 × VM))) := if (m.2.1 1213 0 p3.toNatClampNeg) ≤ v19.1 then loopF (Sum.inr (Sum.inr none)) (b_X12_draft_312 m p1 p2 p3 v17 v19) (0, 0, 0, v19.2) else if inb v19.1 60 = true then Sum.inl (v19.1 + 1, setA v19.2 1277 0 (upd (v19.2.2.1 1277 0) v19.1.toNatClampNeg p2)) else Sum.inr (Sum.inr none)
noncomputable def j_X12_draft_252 (m : VM) (p1 : Int32) (p2 : Int32) (p3 : Int32) (v17 : Int32 × VM) (v54 : Int32 × VM) (a56 : Int32) : (Int32 × VM) ⊕ ((Int32 × VM) ⊕ (Option (Int32 × VM))) := if inb ((61 * v17.1) + v54.1) 3721 = true then Sum.inl (v54.1 + (-1), setA v54.2 1276 0 (upd (v54.2.2.1 1276 0) (((61 * v17.1) + v54.1).toNatClampNeg) a56)) else Sum.inr (Sum.inr none)
noncomputable def j_X12_draft_177 (m : VM) (p1 : Int32) (p2 : Int32) (p3 : Int32) (v17 : Int32 × VM) (v54 : Int32 × VM) (a62 : Int32) : (Int32 × VM) ⊕ ((Int32 × VM) ⊕ (Option (Int32 × VM))) := if inb ((60 * p1) + v17.1) 480 = true then if inb ((60 * p3) + v54.1) 480 = true then if (lg_cmp (v54.2.2.2.1 1250 0 (((60 * p1) + v17.1).toNatClampNeg)) (v54.2.2.2.1 1215 0 (((60 * p3) + v54.1).toNatClampNeg))) = 0 then if inb (((61 * (v17.1 + 1)) + v54.1) + 1) 3721 = true then if ((v54.2.2.1 1276 0 ((((61 * (v17.1 + 1)) + v54.1) + 1).toNatClampNeg)) + 1) ≤ a62 then j_X12_draft_252 m p1 p2 p3 v17 v54 a62 else if inb (((61 * (v17.1 + 1)) + v54.1) + 1) 3721 = true then j_X12_draft_252 m p1 p2 p3 v17 v54 ((v54.2.2.1 1276 0 ((((61 * (v17.1 + 1)) + v54.1) + 1).toNatClampNeg)) + 1) else Sum.inr (Sum.inr none) else Sum.inr (Sum.inr none) else j_X12_draft_252 m p1 p2 p3 v17 v54 a62 else Sum.inr (Sum.inr none) else Sum.inr (Sum.inr none)
noncomputable def b_X12_draft_89 (m : VM) (p1 : Int32) (p2 : Int32) (p3 : Int32) (v17 : Int32 × VM) (v54 : Int32 × VM) : (Int32 × VM) ⊕ ((Int32 × VM) ⊕ (Option (Int32 × VM))) := if v54.1 < 0 then Sum.inr (Sum.inl (v17.1 + (-1), v54.2)) else if (m.2.1 1248 0 p1.toNatClampNeg) ≤ v17.1 then j_X12_draft_252 m p1 p2 p3 v17 v54 0 else if (m.2.1 1213 0 p3.toNatClampNeg) ≤ v54.1 then j_X12_draft_252 m p1 p2 p3 v17 v54 0 else if inb ((61 * (v17.1 + 1)) + v54.1) 3721 = true then if inb (((61 * v17.1) + v54.1) + 1) 3721 = true then if (v54.2.2.1 1276 0 (((61 * (v17.1 + 1)) + v54.1).toNatClampNeg)) ≤ (v54.2.2.1 1276 0 ((((61 * v17.1) + v54.1) + 1).toNatClampNeg)) then if inb (((61 * v17.1) + v54.1) + 1) 3721 = true then j_X12_draft_177 m p1 p2 p3 v17 v54 (v54.2.2.1 1276 0 ((((61 * v17.1) + v54.1) + 1).toNatClampNeg)) else Sum.inr (Sum.inr none) else if inb ((61 * (v17.1 + 1)) + v54.1) 3721 = true then j_X12_draft_177 m p1 p2 p3 v17 v54 (v54.2.2.1 1276 0 (((61 * (v17.1 + 1)) + v54.1).toNatClampNeg)) else Sum.inr (Sum.inr none) else Sum.inr (Sum.inr none) else Sum.inr (Sum.inr none)
noncomputable def b_X12_draft_80 (m : VM) (p1 : Int32) (p2 : Int32) (p3 : Int32) (v17 : Int32 × VM) : (Int32 × VM) ⊕ (Option (Int32 × VM)) := if v17.1 < 0 then loopF (Sum.inr none) (b_X12_draft_282 m p1 p2 p3 v17) (0, v17.2) else loopF (Sum.inr none) (b_X12_draft_89 m p1 p2 p3 v17) (m.2.1 1213 0 p3.toNatClampNeg, v17.2)
noncomputable def f_X12_draft (m : VM) (p1 : Int32) (p2 : Int32) (p3 : Int32) : Option (Int32 × VM) := (f_X12_isPicture m p1).elim none (fun r1 => if r1 = 0 then (f_X12_no m (-1)).elim none (fun r3p => some (r3p.1, r3p.2)) else if p2 < 0 then (f_X12_no m (-1)).elim none (fun r7p => some (r7p.1, r7p.2)) else if p2 ≤ 5 then (f_X12_wants m p3).elim none (fun r11 => if r11 = 0 then if inb p1 8 = true then if (m.2.1 1247 0 p1.toNatClampNeg) = 8 then (f_X12_no m (-7)).elim none (fun r72p => some (r72p.1, r72p.2)) else if inb p1 8 = true then if inb p3 8 = true then loopF none (b_X12_draft_80 m p1 p2 p3) (m.2.1 1248 0 p1.toNatClampNeg, m) else none else none else none else (f_X12_no m r11).elim none (fun r75p => some (r75p.1, r75p.2))) else (f_X12_no m (-1)).elim none (fun r78p => some (r78p.1, r78p.2)))
theorem c_X12_draft {g : GG} {d : Nat} {ad : AD} {x m : VM} {Q : Option Value → VM → VM → Prop} (p1 : Int32) (p2 : Int32) (p3 : Int32) {r9 : Int32} {w9 : VM} (hf : f_X12_draft m p1 p2 p3 = some (r9, w9)) (hq : Q (some (.int r9)) x w9) : CX g (d + 2) MX12_draft [.ref (ad 12 0), .int p1, .int p2, .int p3] ad x m Q := by
  refine CX.to (Lv := [some (.ref (ad 12 0)), some (.int p1), some (.int p2), some (.int p3), none, none, none, none, none, none, none]) okX12_draft (Nat.le_of_ble_eq_true rfl) rfl ?_
  obtain ⟨Φ0, hΦ⟩ : ∃ Φ : Option (Int32 × VM) → Prop, Φ = fun o => o = some (r9, w9) := ⟨_, rfl⟩
  have hN0 : Φ0 none → False := by rw [hΦ]; intro h; cases h
  have hR0 : ∀ z9 y9, Φ0 (some (z9, y9)) → Q (some (.int z9)) x y9 := by rw [hΦ]; intro z9 y9 h; cases h; exact hq
  have h9 : Φ0 (f_X12_draft m p1 p2 p3) := by rw [hΦ]; exact hf
  clear hf hq hΦ
  unfold f_X12_draft at h9
  refine e_aload_n dX12_draft_0 rfl rfl ?_
  refine e_iload_n dX12_draft_1 rfl rfl ?_
  obtain ⟨r1, hr1, h9⟩ := elimP hN0 h9
  refine x_callVi (c := 12) (As := [.int p1]) (rest := []) okX12_isPicture lkX12_253 rfl (by decide) rfl dX12_draft_2 rfl rfl (Nat.le_of_ble_eq_true rfl) rfl (c_X12_isPicture p1 hr1 (CI.mk ?_))
  refine e_if_eq (tgt := 17) dX12_draft_5 rfl (fun hc2 => ?_) (fun hc2 => ?_)
  · replace h9 := ifT hc2 h9
    refine e_aload_n dX12_draft_17 rfl rfl ?_
    refine e_iconst (v := (-1)) dX12_draft_18 rfl ?_
    obtain ⟨⟨r3, w4⟩, hr3, h9⟩ := elimP hN0 h9
    refine x_callVi (c := 12) (As := [.int (-1)]) (rest := []) okX12_no lkX12_263 rfl (by decide) rfl dX12_draft_19 rfl rfl (Nat.le_of_ble_eq_true rfl) rfl (c_X12_no (-1) hr3 (CI.mk ?_))
    exact x_iret dX12_draft_22 rfl (hR0 _ _ h9)
  · replace h9 := ifF hc2 h9
    refine e_iload_n dX12_draft_8 rfl rfl ?_
    refine e_if_lt (tgt := 17) dX12_draft_9 rfl (fun hc6 => ?_) (fun hc6 => ?_)
    · replace h9 := ifT hc6 h9
      refine e_aload_n dX12_draft_17 rfl rfl ?_
      refine e_iconst (v := (-1)) dX12_draft_18 rfl ?_
      obtain ⟨⟨r7, w8⟩, hr7, h9⟩ := elimP hN0 h9
      refine x_callVi (c := 12) (As := [.int (-1)]) (rest := []) okX12_no lkX12_263 rfl (by decide) rfl dX12_draft_19 rfl rfl (Nat.le_of_ble_eq_true rfl) rfl (c_X12_no (-1) hr7 (CI.mk ?_))
      exact x_iret dX12_draft_22 rfl (hR0 _ _ h9)
    · replace h9 := ifF hc6 h9
      refine e_iload_n dX12_draft_12 rfl rfl ?_
      refine e_iconst (v := 5) dX12_draft_13 rfl ?_
      refine e_icmp_le (tgt := 23) dX12_draft_14 rfl (fun hc10 => ?_) (fun hc10 => ?_)
      · replace h9 := ifT hc10 h9
        refine e_aload_n dX12_draft_23 rfl rfl ?_
        refine e_iload_n dX12_draft_24 rfl rfl ?_
        obtain ⟨r11, hr11, h9⟩ := elimP hN0 h9
        refine x_callVi (c := 12) (As := [.int p3]) (rest := []) okX12_wants lkX12_280 rfl (by decide) rfl dX12_draft_25 rfl rfl (Nat.le_of_ble_eq_true rfl) rfl (c_X12_wants p3 hr11 (CI.mk ?_))
        refine e_istore (L' := [some (.ref (ad 12 0)), some (.int p1), some (.int p2), some (.int p3), some (.int r11), none, none, none, none, none, none]) dX12_draft_28 (by decide) rfl ?_
        refine e_iload dX12_draft_30 rfl ?_
        refine e_if_eq (tgt := 42) dX12_draft_32 rfl (fun hc12 => ?_) (fun hc12 => ?_)
        · replace h9 := ifT hc12 h9
          refine e_aload_n dX12_draft_42 rfl rfl ?_
          refine g_1247 flX12_127 dX12_draft_43 ?_
          refine e_iload_n dX12_draft_46 rfl rfl ?_
          obtain ⟨k13, h9⟩ := chkP hN0 h9
          refine l_1247 dX12_draft_47 (inb_in k13) ?_
          refine e_bipush (v := 8) dX12_draft_48 rfl ?_
          refine e_icmp_ne (tgt := 60) dX12_draft_50 rfl (fun hc14 => ?_) (fun hc14 => ?_)
          · replace h9 := ifF hc14 h9
            refine e_aload_n dX12_draft_60 rfl rfl ?_
            refine g_1248 flX12_130 dX12_draft_61 ?_
            refine e_iload_n dX12_draft_64 rfl rfl ?_
            obtain ⟨k15, h9⟩ := chkP hN0 h9
            refine l_1248 dX12_draft_65 (inb_in k15) ?_
            refine e_istore (L' := [some (.ref (ad 12 0)), some (.int p1), some (.int p2), some (.int p3), some (.int r11), some (.int (m.2.1 1248 0 p1.toNatClampNeg)), none, none, none, none, none]) dX12_draft_66 (by decide) rfl ?_
            refine e_aload_n dX12_draft_68 rfl rfl ?_
            refine g_1213 flX12_23 dX12_draft_69 ?_
            refine e_iload_n dX12_draft_72 rfl rfl ?_
            refine e_pc (pc' := 73) rfl ?_
            obtain ⟨k16, h9⟩ := chkP hN0 h9
            refine l_1213 dX12_draft_73 (inb_in k16) ?_
            refine e_istore (L' := [some (.ref (ad 12 0)), some (.int p1), some (.int p2), some (.int p3), some (.int r11), some (.int (m.2.1 1248 0 p1.toNatClampNeg)), some (.int (m.2.1 1213 0 p3.toNatClampNeg)), none, none, none, none]) dX12_draft_74 (by decide) rfl ?_
            refine e_iload dX12_draft_76 rfl ?_
            refine e_istore (L' := [some (.ref (ad 12 0)), some (.int p1), some (.int p2), some (.int p3), some (.int r11), some (.int (m.2.1 1248 0 p1.toNatClampNeg)), some (.int (m.2.1 1213 0 p3.toNatClampNeg)), some (.int (m.2.1 1248 0 p1.toNatClampNeg)), none, none, none]) dX12_draft_78 (by decide) rfl ?_
            refine e_wk (L' := [some (.ref (ad 12 0)), some (.int p1), some (.int p2), some (.int p3), none, some (.int (m.2.1 1248 0 p1.toNatClampNeg)), some (.int (m.2.1 1213 0 p3.toNatClampNeg)), some (.int (m.2.1 1248 0 p1.toNatClampNeg)), none, none, none]) (wkC (wkC (wkC (wkC (wkN (wkC (wkC (wkC (wkN (wkN (wkN wk0))))))))))) ?_
            refine loop_gen (b_X12_draft_80 m p1 p2 p3) none (fun v17 => EX g (d + 2) MX12_draft ad x v17.2 80 [some (.ref (ad 12 0)), some (.int p1), some (.int p2), some (.int p3), none, some (.int (m.2.1 1248 0 p1.toNatClampNeg)), some (.int (m.2.1 1213 0 p3.toNatClampNeg)), some (.int v17.1), none, none, none] [] Q) Φ0 hN0 (fun v17 Φ1 hB0_1 hO1 h9 => ?_) (m.2.1 1248 0 p1.toNatClampNeg, m) h9
            have hN1 := fun h => hN0 (hO1 _ h)
            have hR1 := fun r9 x9 h => hR0 r9 x9 (hO1 _ h)
            have hB0_1 : ∀ (z0 : Int32) (z1 : VM), Φ1 (Sum.inl (z0, z1)) → EX g (d + 2) MX12_draft ad x z1 80 [some (.ref (ad 12 0)), some (.int p1), some (.int p2), some (.int p3), none, some (.int (m.2.1 1248 0 p1.toNatClampNeg)), some (.int (m.2.1 1213 0 p3.toNatClampNeg)), some (.int z0), none, none, none] [] Q := fun z0 z1 h => hB0_1 (z0, z1) h
            unfold b_X12_draft_80 at h9
            refine e_iload dX12_draft_80 rfl ?_
            refine e_if_lt (tgt := 279) dX12_draft_82 rfl (fun hc18 => ?_) (fun hc18 => ?_)
            · replace h9 := ifT hc18 h9
              refine e_iconst (v := 0) dX12_draft_279 rfl ?_
              refine e_istore (L' := [some (.ref (ad 12 0)), some (.int p1), some (.int p2), some (.int p3), none, some (.int (m.2.1 1248 0 p1.toNatClampNeg)), some (.int (m.2.1 1213 0 p3.toNatClampNeg)), some (.int 0), none, none, none]) dX12_draft_280 (by decide) rfl ?_
              refine loop_gen (b_X12_draft_282 m p1 p2 p3 v17) (Sum.inr none) (fun v19 => EX g (d + 2) MX12_draft ad x v19.2 282 [some (.ref (ad 12 0)), some (.int p1), some (.int p2), some (.int p3), none, some (.int (m.2.1 1248 0 p1.toNatClampNeg)), some (.int (m.2.1 1213 0 p3.toNatClampNeg)), some (.int v19.1), none, none, none] [] Q) Φ1 hN1 (fun v19 Φ2 hB1_2 hO2 h9 => ?_) (0, v17.2) h9
              have hN2 := fun h => hN1 (hO2 _ h)
              have hR2 := fun r9 x9 h => hR1 r9 x9 (hO2 _ h)
              have hB0_2 : ∀ (z0 : Int32) (z1 : VM), Φ2 (Sum.inr (Sum.inl (z0, z1))) → EX g (d + 2) MX12_draft ad x z1 80 [some (.ref (ad 12 0)), some (.int p1), some (.int p2), some (.int p3), none, some (.int (m.2.1 1248 0 p1.toNatClampNeg)), some (.int (m.2.1 1213 0 p3.toNatClampNeg)), some (.int z0), none, none, none] [] Q := fun z0 z1 h => hB0_1 z0 z1 (hO2 _ h)
              have hB1_2 : ∀ (z0 : Int32) (z1 : VM), Φ2 (Sum.inl (z0, z1)) → EX g (d + 2) MX12_draft ad x z1 282 [some (.ref (ad 12 0)), some (.int p1), some (.int p2), some (.int p3), none, some (.int (m.2.1 1248 0 p1.toNatClampNeg)), some (.int (m.2.1 1213 0 p3.toNatClampNeg)), some (.int z0), none, none, none] [] Q := fun z0 z1 h => hB1_2 (z0, z1) h
              unfold b_X12_draft_282 at h9
              refine e_iload dX12_draft_282 rfl ?_
              refine e_iload dX12_draft_284 rfl ?_
              refine e_icmp_ge (tgt := 303) dX12_draft_286 rfl (fun hc20 => ?_) (fun hc20 => ?_)
              · replace h9 := ifT hc20 h9
                refine e_iconst (v := 0) dX12_draft_303 rfl ?_
                refine e_istore (L' := [some (.ref (ad 12 0)), some (.int p1), some (.int p2), some (.int p3), none, some (.int (m.2.1 1248 0 p1.toNatClampNeg)), some (.int (m.2.1 1213 0 p3.toNatClampNeg)), some (.int 0), none, none, none]) dX12_draft_304 (by decide) rfl ?_
                refine e_iconst (v := 0) dX12_draft_306 rfl ?_
                refine e_istore (L' := [some (.ref (ad 12 0)), some (.int p1), some (.int p2), some (.int p3), none, some (.int (m.2.1 1248 0 p1.toNatClampNeg)), some (.int (m.2.1 1213 0 p3.toNatClampNeg)), some (.int 0), some (.int 0), none, none]) dX12_draft_307 (by decide) rfl ?_
                refine e_iconst (v := 0) dX12_draft_309 rfl ?_
                refine e_istore (L' := [some (.ref (ad 12 0)), some (.int p1), some (.int p2), some (.int p3), none, some (.int (m.2.1 1248 0 p1.toNatClampNeg)), some (.int (m.2.1 1213 0 p3.toNatClampNeg)), some (.int 0), some (.int 0), some (.int 0), none]) dX12_draft_310 (by decide) rfl ?_
                refine e_wk (L' := [some (.ref (ad 12 0)), some (.int p1), none, some (.int p3), none, some (.int (m.2.1 1248 0 p1.toNatClampNeg)), some (.int (m.2.1 1213 0 p3.toNatClampNeg)), some (.int 0), some (.int 0), some (.int 0), none]) (wkC (wkC (wkN (wkC (wkN (wkC (wkC (wkC (wkC (wkC (wkN wk0))))))))))) ?_
                refine loop_gen (b_X12_draft_312 m p1 p2 p3 v17 v19) (Sum.inr (Sum.inr none)) (fun v21 => EX g (d + 2) MX12_draft ad x v21.2.2.2 312 [some (.ref (ad 12 0)), some (.int p1), none, some (.int p3), none, some (.int (m.2.1 1248 0 p1.toNatClampNeg)), some (.int (m.2.1 1213 0 p3.toNatClampNeg)), some (.int v21.1), some (.int v21.2.1), some (.int v21.2.2.1), none] [] Q) Φ2 hN2 (fun v21 Φ3 hB2_3 hO3 h9 => ?_) (0, 0, 0, v19.2) h9
                have hN3 := fun h => hN2 (hO3 _ h)
                have hR3 := fun r9 x9 h => hR2 r9 x9 (hO3 _ h)
                have hB0_3 : ∀ (z0 : Int32) (z1 : VM), Φ3 (Sum.inr (Sum.inr (Sum.inl (z0, z1)))) → EX g (d + 2) MX12_draft ad x z1 80 [some (.ref (ad 12 0)), some (.int p1), some (.int p2), some (.int p3), none, some (.int (m.2.1 1248 0 p1.toNatClampNeg)), some (.int (m.2.1 1213 0 p3.toNatClampNeg)), some (.int z0), none, none, none] [] Q := fun z0 z1 h => hB0_2 z0 z1 (hO3 _ h)
                have hB1_3 : ∀ (z0 : Int32) (z1 : VM), Φ3 (Sum.inr (Sum.inl (z0, z1))) → EX g (d + 2) MX12_draft ad x z1 282 [some (.ref (ad 12 0)), some (.int p1), some (.int p2), some (.int p3), none, some (.int (m.2.1 1248 0 p1.toNatClampNeg)), some (.int (m.2.1 1213 0 p3.toNatClampNeg)), some (.int z0), none, none, none] [] Q := fun z0 z1 h => hB1_2 z0 z1 (hO3 _ h)
                have hB2_3 : ∀ (z0 : Int32) (z1 : Int32) (z2 : Int32) (z3 : VM), Φ3 (Sum.inl (z0, z1, z2, z3)) → EX g (d + 2) MX12_draft ad x z3 312 [some (.ref (ad 12 0)), some (.int p1), none, some (.int p3), none, some (.int (m.2.1 1248 0 p1.toNatClampNeg)), some (.int (m.2.1 1213 0 p3.toNatClampNeg)), some (.int z0), some (.int z1), some (.int z2), none] [] Q := fun z0 z1 z2 z3 h => hB2_3 (z0, z1, z2, z3) h
                unfold b_X12_draft_312 at h9
                refine e_iload dX12_draft_312 rfl ?_
                refine e_iload dX12_draft_314 rfl ?_
                refine e_icmp_ge (tgt := 456) dX12_draft_316 rfl (fun hc22 => ?_) (fun hc22 => ?_)
                · replace h9 := ifT hc22 h9
                  refine e_aload_n dX12_draft_456 rfl rfl ?_
                  refine g_1248 flX12_130 dX12_draft_457 ?_
                  refine e_iload_n dX12_draft_460 rfl rfl ?_
                  refine e_iload dX12_draft_461 rfl ?_
                  obtain ⟨k23, h9⟩ := chkP hN3 h9
                  refine s_1248 dX12_draft_463 (inb_in k23) ?_
                  refine e_iconst (v := 0) dX12_draft_464 rfl ?_
                  refine e_istore (L' := [some (.ref (ad 12 0)), some (.int p1), none, some (.int p3), none, some (.int (m.2.1 1248 0 p1.toNatClampNeg)), some (.int (m.2.1 1213 0 p3.toNatClampNeg)), some (.int v21.1), some (.int v21.2.1), some (.int v21.2.2.1), some (.int 0)]) dX12_draft_465 (by decide) rfl ?_
                  refine e_wk (L' := [some (.ref (ad 12 0)), some (.int p1), none, some (.int p3), none, none, some (.int (m.2.1 1213 0 p3.toNatClampNeg)), none, none, some (.int v21.2.2.1), some (.int 0)]) (wkC (wkC (wkN (wkC (wkN (wkN (wkC (wkN (wkN (wkC (wkC wk0))))))))))) ?_
                  refine loop_gen (b_X12_draft_467 m p1 p2 p3 v17 v19 v21) (Sum.inr (Sum.inr (Sum.inr none))) (fun v24 => EX g (d + 2) MX12_draft ad x v24.2 467 [some (.ref (ad 12 0)), some (.int p1), none, some (.int p3), none, none, some (.int (m.2.1 1213 0 p3.toNatClampNeg)), none, none, some (.int v21.2.2.1), some (.int v24.1)] [] Q) Φ3 hN3 (fun v24 Φ4 hB3_4 hO4 h9 => ?_) (0, setA v21.2.2.2 1248 0 (upd (v21.2.2.2.2.1 1248 0) p1.toNatClampNeg (m.2.1 1213 0 p3.toNatClampNeg))) h9
                  have hN4 := fun h => hN3 (hO4 _ h)
                  have hR4 := fun r9 x9 h => hR3 r9 x9 (hO4 _ h)
                  have hB0_4 : ∀ (z0 : Int32) (z1 : VM), Φ4 (Sum.inr (Sum.inr (Sum.inr (Sum.inl (z0, z1))))) → EX g (d + 2) MX12_draft ad x z1 80 [some (.ref (ad 12 0)), some (.int p1), some (.int p2), some (.int p3), none, some (.int (m.2.1 1248 0 p1.toNatClampNeg)), some (.int (m.2.1 1213 0 p3.toNatClampNeg)), some (.int z0), none, none, none] [] Q := fun z0 z1 h => hB0_3 z0 z1 (hO4 _ h)
                  have hB1_4 : ∀ (z0 : Int32) (z1 : VM), Φ4 (Sum.inr (Sum.inr (Sum.inl (z0, z1)))) → EX g (d + 2) MX12_draft ad x z1 282 [some (.ref (ad 12 0)), some (.int p1), some (.int p2), some (.int p3), none, some (.int (m.2.1 1248 0 p1.toNatClampNeg)), some (.int (m.2.1 1213 0 p3.toNatClampNeg)), some (.int z0), none, none, none] [] Q := fun z0 z1 h => hB1_3 z0 z1 (hO4 _ h)
                  have hB2_4 : ∀ (z0 : Int32) (z1 : Int32) (z2 : Int32) (z3 : VM), Φ4 (Sum.inr (Sum.inl (z0, z1, z2, z3))) → EX g (d + 2) MX12_draft ad x z3 312 [some (.ref (ad 12 0)), some (.int p1), none, some (.int p3), none, some (.int (m.2.1 1248 0 p1.toNatClampNeg)), some (.int (m.2.1 1213 0 p3.toNatClampNeg)), some (.int z0), some (.int z1), some (.int z2), none] [] Q := fun z0 z1 z2 z3 h => hB2_3 z0 z1 z2 z3 (hO4 _ h)
                  have hB3_4 : ∀ (z0 : Int32) (z1 : VM), Φ4 (Sum.inl (z0, z1)) → EX g (d + 2) MX12_draft ad x z1 467 [some (.ref (ad 12 0)), some (.int p1), none, some (.int p3), none, none, some (.int (m.2.1 1213 0 p3.toNatClampNeg)), none, none, some (.int v21.2.2.1), some (.int z0)] [] Q := fun z0 z1 h => hB3_4 (z0, z1) h
                  unfold b_X12_draft_467 at h9
                  refine e_iload dX12_draft_467 rfl ?_
                  refine e_iload dX12_draft_469 rfl ?_
                  refine e_icmp_ge (tgt := 523) dX12_draft_471 rfl (fun hc25 => ?_) (fun hc25 => ?_)
                  · replace h9 := ifT hc25 h9
                    refine e_aload_n dX12_draft_523 rfl rfl ?_
                    refine g_1247 flX12_127 dX12_draft_524 ?_
                    refine e_iload_n dX12_draft_527 rfl rfl ?_
                    refine e_dup2_11 dX12_draft_528 rfl rfl ?_
                    obtain ⟨k26, h9⟩ := chkP hN4 h9
                    refine l_1247 dX12_draft_529 (inb_in k26) ?_
                    refine e_iconst (v := 1) dX12_draft_530 rfl ?_
                    refine e_iadd dX12_draft_531 ?_
                    obtain ⟨k27, h9⟩ := chkP hN4 h9
                    refine s_1247 dX12_draft_532 (inb_in k27) ?_
                    refine e_pc (pc' := 533) rfl ?_
                    refine e_iload dX12_draft_533 rfl ?_
                    exact x_iret dX12_draft_535 rfl (hR4 _ _ h9)
                  · replace h9 := ifF hc25 h9
                    refine e_aload_n dX12_draft_474 rfl rfl ?_
                    refine g_1250 flX12_136 dX12_draft_475 ?_
                    refine e_bipush (v := 60) dX12_draft_478 rfl ?_
                    refine e_iload_n dX12_draft_480 rfl rfl ?_
                    refine e_imul dX12_draft_481 ?_
                    refine e_iload dX12_draft_482 rfl ?_
                    refine e_iadd dX12_draft_484 ?_
                    refine e_aload_n dX12_draft_485 rfl rfl ?_
                    refine e_pc (pc' := 486) rfl ?_
                    refine g_1215 flX12_29 dX12_draft_486 ?_
                    refine e_bipush (v := 60) dX12_draft_489 rfl ?_
                    refine e_iload_n dX12_draft_491 rfl rfl ?_
                    refine e_imul dX12_draft_492 ?_
                    refine e_iload dX12_draft_493 rfl ?_
                    refine e_iadd dX12_draft_495 ?_
                    obtain ⟨k28, h9⟩ := chkP hN4 h9
                    refine l_1215 dX12_draft_496 (inb_in k28) ?_
                    obtain ⟨k29, h9⟩ := chkP hN4 h9
                    refine s_1250 dX12_draft_497 (inb_in k29) ?_
                    refine e_aload_n dX12_draft_498 rfl rfl ?_
                    refine e_pc (pc' := 499) rfl ?_
                    refine g_1249 flX12_133 dX12_draft_499 ?_
                    refine e_bipush (v := 60) dX12_draft_502 rfl ?_
                    refine e_iload_n dX12_draft_504 rfl rfl ?_
                    refine e_imul dX12_draft_505 ?_
                    refine e_iload dX12_draft_506 rfl ?_
                    refine e_iadd dX12_draft_508 ?_
                    refine e_aload_n dX12_draft_509 rfl rfl ?_
                    refine g_1277 flX12_214 dX12_draft_510 ?_
                    refine e_iload dX12_draft_513 rfl ?_
                    refine e_pc (pc' := 515) rfl ?_
                    obtain ⟨k30, h9⟩ := chkP hN4 h9
                    refine l_1277 dX12_draft_515 (inb_in k30) ?_
                    obtain ⟨k31, h9⟩ := chkP hN4 h9
                    refine s_1249 dX12_draft_516 (inb_in k31) ?_
                    refine e_iinc (v := (v24.1 + 1)) (L' := [some (.ref (ad 12 0)), some (.int p1), none, some (.int p3), none, none, some (.int (m.2.1 1213 0 p3.toNatClampNeg)), none, none, some (.int v21.2.2.1), some (.int (v24.1 + 1))]) dX12_draft_517 rfl rfl (by decide) rfl ?_
                    refine e_goto (tgt := 467) dX12_draft_520 rfl ?_
                    exact hB3_4 _ _ h9
                · replace h9 := ifF hc22 h9
                  refine e_iload dX12_draft_319 rfl ?_
                  refine e_iload dX12_draft_321 rfl ?_
                  refine e_icmp_ge (tgt := 456) dX12_draft_323 rfl (fun hc32 => ?_) (fun hc32 => ?_)
                  · replace h9 := ifT hc32 h9
                    refine e_aload_n dX12_draft_456 rfl rfl ?_
                    refine g_1248 flX12_130 dX12_draft_457 ?_
                    refine e_iload_n dX12_draft_460 rfl rfl ?_
                    refine e_iload dX12_draft_461 rfl ?_
                    obtain ⟨k33, h9⟩ := chkP hN3 h9
                    refine s_1248 dX12_draft_463 (inb_in k33) ?_
                    refine e_iconst (v := 0) dX12_draft_464 rfl ?_
                    refine e_istore (L' := [some (.ref (ad 12 0)), some (.int p1), none, some (.int p3), none, some (.int (m.2.1 1248 0 p1.toNatClampNeg)), some (.int (m.2.1 1213 0 p3.toNatClampNeg)), some (.int v21.1), some (.int v21.2.1), some (.int v21.2.2.1), some (.int 0)]) dX12_draft_465 (by decide) rfl ?_
                    refine e_wk (L' := [some (.ref (ad 12 0)), some (.int p1), none, some (.int p3), none, none, some (.int (m.2.1 1213 0 p3.toNatClampNeg)), none, none, some (.int v21.2.2.1), some (.int 0)]) (wkC (wkC (wkN (wkC (wkN (wkN (wkC (wkN (wkN (wkC (wkC wk0))))))))))) ?_
                    refine loop_gen (b_X12_draft_467_35 m p1 p2 p3 v17 v19 v21) (Sum.inr (Sum.inr (Sum.inr none))) (fun v34 => EX g (d + 2) MX12_draft ad x v34.2 467 [some (.ref (ad 12 0)), some (.int p1), none, some (.int p3), none, none, some (.int (m.2.1 1213 0 p3.toNatClampNeg)), none, none, some (.int v21.2.2.1), some (.int v34.1)] [] Q) Φ3 hN3 (fun v34 Φ4 hB3_4 hO4 h9 => ?_) (0, setA v21.2.2.2 1248 0 (upd (v21.2.2.2.2.1 1248 0) p1.toNatClampNeg (m.2.1 1213 0 p3.toNatClampNeg))) h9
                    have hN4 := fun h => hN3 (hO4 _ h)
                    have hR4 := fun r9 x9 h => hR3 r9 x9 (hO4 _ h)
                    have hB0_4 : ∀ (z0 : Int32) (z1 : VM), Φ4 (Sum.inr (Sum.inr (Sum.inr (Sum.inl (z0, z1))))) → EX g (d + 2) MX12_draft ad x z1 80 [some (.ref (ad 12 0)), some (.int p1), some (.int p2), some (.int p3), none, some (.int (m.2.1 1248 0 p1.toNatClampNeg)), some (.int (m.2.1 1213 0 p3.toNatClampNeg)), some (.int z0), none, none, none] [] Q := fun z0 z1 h => hB0_3 z0 z1 (hO4 _ h)
                    have hB1_4 : ∀ (z0 : Int32) (z1 : VM), Φ4 (Sum.inr (Sum.inr (Sum.inl (z0, z1)))) → EX g (d + 2) MX12_draft ad x z1 282 [some (.ref (ad 12 0)), some (.int p1), some (.int p2), some (.int p3), none, some (.int (m.2.1 1248 0 p1.toNatClampNeg)), some (.int (m.2.1 1213 0 p3.toNatClampNeg)), some (.int z0), none, none, none] [] Q := fun z0 z1 h => hB1_3 z0 z1 (hO4 _ h)
                    have hB2_4 : ∀ (z0 : Int32) (z1 : Int32) (z2 : Int32) (z3 : VM), Φ4 (Sum.inr (Sum.inl (z0, z1, z2, z3))) → EX g (d + 2) MX12_draft ad x z3 312 [some (.ref (ad 12 0)), some (.int p1), none, some (.int p3), none, some (.int (m.2.1 1248 0 p1.toNatClampNeg)), some (.int (m.2.1 1213 0 p3.toNatClampNeg)), some (.int z0), some (.int z1), some (.int z2), none] [] Q := fun z0 z1 z2 z3 h => hB2_3 z0 z1 z2 z3 (hO4 _ h)
                    have hB3_4 : ∀ (z0 : Int32) (z1 : VM), Φ4 (Sum.inl (z0, z1)) → EX g (d + 2) MX12_draft ad x z1 467 [some (.ref (ad 12 0)), some (.int p1), none, some (.int p3), none, none, some (.int (m.2.1 1213 0 p3.toNatClampNeg)), none, none, some (.int v21.2.2.1), some (.int z0)] [] Q := fun z0 z1 h => hB3_4 (z0, z1) h
                    unfold b_X12_draft_467_35 at h9
                    refine e_iload dX12_draft_467 rfl ?_
                    refine e_iload dX12_draft_469 rfl ?_
                    refine e_icmp_ge (tgt := 523) dX12_draft_471 rfl (fun hc36 => ?_) (fun hc36 => ?_)
                    · replace h9 := ifT hc36 h9
                      refine e_aload_n dX12_draft_523 rfl rfl ?_
                      refine g_1247 flX12_127 dX12_draft_524 ?_
                      refine e_iload_n dX12_draft_527 rfl rfl ?_
                      refine e_dup2_11 dX12_draft_528 rfl rfl ?_
                      obtain ⟨k37, h9⟩ := chkP hN4 h9
                      refine l_1247 dX12_draft_529 (inb_in k37) ?_
                      refine e_iconst (v := 1) dX12_draft_530 rfl ?_
                      refine e_iadd dX12_draft_531 ?_
                      obtain ⟨k38, h9⟩ := chkP hN4 h9
                      refine s_1247 dX12_draft_532 (inb_in k38) ?_
                      refine e_pc (pc' := 533) rfl ?_
                      refine e_iload dX12_draft_533 rfl ?_
                      exact x_iret dX12_draft_535 rfl (hR4 _ _ h9)
                    · replace h9 := ifF hc36 h9
                      refine e_aload_n dX12_draft_474 rfl rfl ?_
                      refine g_1250 flX12_136 dX12_draft_475 ?_
                      refine e_bipush (v := 60) dX12_draft_478 rfl ?_
                      refine e_iload_n dX12_draft_480 rfl rfl ?_
                      refine e_imul dX12_draft_481 ?_
                      refine e_iload dX12_draft_482 rfl ?_
                      refine e_iadd dX12_draft_484 ?_
                      refine e_aload_n dX12_draft_485 rfl rfl ?_
                      refine e_pc (pc' := 486) rfl ?_
                      refine g_1215 flX12_29 dX12_draft_486 ?_
                      refine e_bipush (v := 60) dX12_draft_489 rfl ?_
                      refine e_iload_n dX12_draft_491 rfl rfl ?_
                      refine e_imul dX12_draft_492 ?_
                      refine e_iload dX12_draft_493 rfl ?_
                      refine e_iadd dX12_draft_495 ?_
                      obtain ⟨k39, h9⟩ := chkP hN4 h9
                      refine l_1215 dX12_draft_496 (inb_in k39) ?_
                      obtain ⟨k40, h9⟩ := chkP hN4 h9
                      refine s_1250 dX12_draft_497 (inb_in k40) ?_
                      refine e_aload_n dX12_draft_498 rfl rfl ?_
                      refine e_pc (pc' := 499) rfl ?_
                      refine g_1249 flX12_133 dX12_draft_499 ?_
                      refine e_bipush (v := 60) dX12_draft_502 rfl ?_
                      refine e_iload_n dX12_draft_504 rfl rfl ?_
                      refine e_imul dX12_draft_505 ?_
                      refine e_iload dX12_draft_506 rfl ?_
                      refine e_iadd dX12_draft_508 ?_
                      refine e_aload_n dX12_draft_509 rfl rfl ?_
                      refine g_1277 flX12_214 dX12_draft_510 ?_
                      refine e_iload dX12_draft_513 rfl ?_
                      refine e_pc (pc' := 515) rfl ?_
                      obtain ⟨k41, h9⟩ := chkP hN4 h9
                      refine l_1277 dX12_draft_515 (inb_in k41) ?_
                      obtain ⟨k42, h9⟩ := chkP hN4 h9
                      refine s_1249 dX12_draft_516 (inb_in k42) ?_
                      refine e_iinc (v := (v34.1 + 1)) (L' := [some (.ref (ad 12 0)), some (.int p1), none, some (.int p3), none, none, some (.int (m.2.1 1213 0 p3.toNatClampNeg)), none, none, some (.int v21.2.2.1), some (.int (v34.1 + 1))]) dX12_draft_517 rfl rfl (by decide) rfl ?_
                      refine e_goto (tgt := 467) dX12_draft_520 rfl ?_
                      exact hB3_4 _ _ h9
                  · replace h9 := ifF hc32 h9
                    refine e_aload_n dX12_draft_326 rfl rfl ?_
                    refine g_1276 flX12_211 dX12_draft_327 ?_
                    refine e_bipush (v := 61) dX12_draft_330 rfl ?_
                    refine e_iload dX12_draft_332 rfl ?_
                    refine e_imul dX12_draft_334 ?_
                    refine e_iload dX12_draft_335 rfl ?_
                    refine e_iadd dX12_draft_337 ?_
                    obtain ⟨k43, h9⟩ := chkP hN3 h9
                    refine l_1276 dX12_draft_338 (inb_in k43) ?_
                    refine e_pc (pc' := 339) rfl ?_
                    refine e_istore (L' := [some (.ref (ad 12 0)), some (.int p1), none, some (.int p3), none, some (.int (m.2.1 1248 0 p1.toNatClampNeg)), some (.int (m.2.1 1213 0 p3.toNatClampNeg)), some (.int v21.1), some (.int v21.2.1), some (.int v21.2.2.1), some (.int (v21.2.2.2.2.1 1276 0 (((61 * v21.1) + v21.2.1).toNatClampNeg)))]) dX12_draft_339 (by decide) rfl ?_
                    refine e_aload_n dX12_draft_341 rfl rfl ?_
                    refine g_1250 flX12_136 dX12_draft_342 ?_
                    refine e_bipush (v := 60) dX12_draft_345 rfl ?_
                    refine e_iload_n dX12_draft_347 rfl rfl ?_
                    refine e_imul dX12_draft_348 ?_
                    refine e_iload dX12_draft_349 rfl ?_
                    refine e_iadd dX12_draft_351 ?_
                    obtain ⟨k44, h9⟩ := chkP hN3 h9
                    refine l_1250 dX12_draft_352 (inb_in k44) ?_
                    refine e_pc (pc' := 353) rfl ?_
                    refine e_aload_n dX12_draft_353 rfl rfl ?_
                    refine g_1215 flX12_29 dX12_draft_354 ?_
                    refine e_bipush (v := 60) dX12_draft_357 rfl ?_
                    refine e_iload_n dX12_draft_359 rfl rfl ?_
                    refine e_imul dX12_draft_360 ?_
                    refine e_iload dX12_draft_361 rfl ?_
                    refine e_iadd dX12_draft_363 ?_
                    obtain ⟨k45, h9⟩ := chkP hN3 h9
                    refine l_1215 dX12_draft_364 (inb_in k45) ?_
                    refine e_lcmp dX12_draft_365 ?_
                    refine e_pc (pc' := 366) rfl ?_
                    have hj424 : Φ3 (j_X12_draft_424 m p1 p2 p3 v17 v19 v21) → EX g (d + 2) MX12_draft ad x v21.2.2.2 424 [some (.ref (ad 12 0)), some (.int p1), none, some (.int p3), none, some (.int (m.2.1 1248 0 p1.toNatClampNeg)), some (.int (m.2.1 1213 0 p3.toNatClampNeg)), some (.int v21.1), some (.int v21.2.1), some (.int v21.2.2.1), some (.int (v21.2.2.2.2.1 1276 0 (((61 * v21.1) + v21.2.1).toNatClampNeg)))] [] Q := by
                      intro h9
                      unfold j_X12_draft_424 at h9
                      refine e_aload_n dX12_draft_424 rfl rfl ?_
                      refine g_1276 flX12_211 dX12_draft_425 ?_
                      refine e_bipush (v := 61) dX12_draft_428 rfl ?_
                      refine e_iload dX12_draft_430 rfl ?_
                      refine e_iconst (v := 1) dX12_draft_432 rfl ?_
                      refine e_iadd dX12_draft_433 ?_
                      refine e_imul dX12_draft_434 ?_
                      refine e_iload dX12_draft_435 rfl ?_
                      refine e_pc (pc' := 437) rfl ?_
                      refine e_iadd dX12_draft_437 ?_
                      obtain ⟨k46, h9⟩ := chkP hN3 h9
                      refine l_1276 dX12_draft_438 (inb_in k46) ?_
                      refine e_iload dX12_draft_439 rfl ?_
                      refine e_icmp_ne (tgt := 450) dX12_draft_441 rfl (fun hc47 => ?_) (fun hc47 => ?_)
                      · replace h9 := ifF hc47 h9
                        refine e_iinc (v := (v21.2.1 + 1)) (L' := [some (.ref (ad 12 0)), some (.int p1), none, some (.int p3), none, some (.int (m.2.1 1248 0 p1.toNatClampNeg)), some (.int (m.2.1 1213 0 p3.toNatClampNeg)), some (.int v21.1), some (.int (v21.2.1 + 1)), some (.int v21.2.2.1), some (.int (v21.2.2.2.2.1 1276 0 (((61 * v21.1) + v21.2.1).toNatClampNeg)))]) dX12_draft_450 rfl rfl (by decide) rfl ?_
                        refine e_goto (tgt := 312) dX12_draft_453 rfl ?_
                        refine e_wk (L' := [some (.ref (ad 12 0)), some (.int p1), none, some (.int p3), none, some (.int (m.2.1 1248 0 p1.toNatClampNeg)), some (.int (m.2.1 1213 0 p3.toNatClampNeg)), some (.int v21.1), some (.int (v21.2.1 + 1)), some (.int v21.2.2.1), none]) (wkC (wkC (wkN (wkC (wkN (wkC (wkC (wkC (wkC (wkC (wkN wk0))))))))))) ?_
                        exact hB2_3 _ _ _ _ h9
                      · replace h9 := ifT hc47 h9
                        refine e_iinc (v := (v21.1 + 1)) (L' := [some (.ref (ad 12 0)), some (.int p1), none, some (.int p3), none, some (.int (m.2.1 1248 0 p1.toNatClampNeg)), some (.int (m.2.1 1213 0 p3.toNatClampNeg)), some (.int (v21.1 + 1)), some (.int v21.2.1), some (.int v21.2.2.1), some (.int (v21.2.2.2.2.1 1276 0 (((61 * v21.1) + v21.2.1).toNatClampNeg)))]) dX12_draft_444 rfl rfl (by decide) rfl ?_
                        refine e_goto (tgt := 453) dX12_draft_447 rfl ?_
                        refine e_goto (tgt := 312) dX12_draft_453 rfl ?_
                        refine e_wk (L' := [some (.ref (ad 12 0)), some (.int p1), none, some (.int p3), none, some (.int (m.2.1 1248 0 p1.toNatClampNeg)), some (.int (m.2.1 1213 0 p3.toNatClampNeg)), some (.int (v21.1 + 1)), some (.int v21.2.1), some (.int v21.2.2.1), none]) (wkC (wkC (wkN (wkC (wkN (wkC (wkC (wkC (wkC (wkC (wkN wk0))))))))))) ?_
                        exact hB2_3 _ _ _ _ h9
                    refine e_if_ne (tgt := 424) dX12_draft_366 rfl (fun hc48 => ?_) (fun hc48 => ?_)
                    · replace h9 := ifF hc48 h9
                      exact hj424 h9
                    · replace h9 := ifT hc48 h9
                      refine e_aload_n dX12_draft_369 rfl rfl ?_
                      refine g_1276 flX12_211 dX12_draft_370 ?_
                      refine e_bipush (v := 61) dX12_draft_373 rfl ?_
                      refine e_iload dX12_draft_375 rfl ?_
                      refine e_iconst (v := 1) dX12_draft_377 rfl ?_
                      refine e_iadd dX12_draft_378 ?_
                      refine e_imul dX12_draft_379 ?_
                      refine e_iload dX12_draft_380 rfl ?_
                      refine e_pc (pc' := 382) rfl ?_
                      refine e_iadd dX12_draft_382 ?_
                      refine e_iconst (v := 1) dX12_draft_383 rfl ?_
                      refine e_iadd dX12_draft_384 ?_
                      obtain ⟨k49, h9⟩ := chkP hN3 h9
                      refine l_1276 dX12_draft_385 (inb_in k49) ?_
                      refine e_iconst (v := 1) dX12_draft_386 rfl ?_
                      refine e_iadd dX12_draft_387 ?_
                      refine e_iload dX12_draft_388 rfl ?_
                      refine e_icmp_ne (tgt := 424) dX12_draft_390 rfl (fun hc50 => ?_) (fun hc50 => ?_)
                      · replace h9 := ifF hc50 h9
                        exact hj424 h9
                      · replace h9 := ifT hc50 h9
                        refine e_aload_n dX12_draft_393 rfl rfl ?_
                        refine g_1277 flX12_214 dX12_draft_394 ?_
                        refine e_iload dX12_draft_397 rfl ?_
                        refine e_aload_n dX12_draft_399 rfl rfl ?_
                        refine g_1249 flX12_133 dX12_draft_400 ?_
                        refine e_bipush (v := 60) dX12_draft_403 rfl ?_
                        refine e_iload_n dX12_draft_405 rfl rfl ?_
                        refine e_imul dX12_draft_406 ?_
                        refine e_pc (pc' := 407) rfl ?_
                        refine e_iload dX12_draft_407 rfl ?_
                        refine e_iadd dX12_draft_409 ?_
                        obtain ⟨k51, h9⟩ := chkP hN3 h9
                        refine l_1249 dX12_draft_410 (inb_in k51) ?_
                        obtain ⟨k52, h9⟩ := chkP hN3 h9
                        refine s_1277 dX12_draft_411 (inb_in k52) ?_
                        refine e_iinc (v := (v21.1 + 1)) (L' := [some (.ref (ad 12 0)), some (.int p1), none, some (.int p3), none, some (.int (m.2.1 1248 0 p1.toNatClampNeg)), some (.int (m.2.1 1213 0 p3.toNatClampNeg)), some (.int (v21.1 + 1)), some (.int v21.2.1), some (.int v21.2.2.1), some (.int (v21.2.2.2.2.1 1276 0 (((61 * v21.1) + v21.2.1).toNatClampNeg)))]) dX12_draft_412 rfl rfl (by decide) rfl ?_
                        refine e_iinc (v := (v21.2.1 + 1)) (L' := [some (.ref (ad 12 0)), some (.int p1), none, some (.int p3), none, some (.int (m.2.1 1248 0 p1.toNatClampNeg)), some (.int (m.2.1 1213 0 p3.toNatClampNeg)), some (.int (v21.1 + 1)), some (.int (v21.2.1 + 1)), some (.int v21.2.2.1), some (.int (v21.2.2.2.2.1 1276 0 (((61 * v21.1) + v21.2.1).toNatClampNeg)))]) dX12_draft_415 rfl rfl (by decide) rfl ?_
                        refine e_iinc (v := (v21.2.2.1 + 1)) (L' := [some (.ref (ad 12 0)), some (.int p1), none, some (.int p3), none, some (.int (m.2.1 1248 0 p1.toNatClampNeg)), some (.int (m.2.1 1213 0 p3.toNatClampNeg)), some (.int (v21.1 + 1)), some (.int (v21.2.1 + 1)), some (.int (v21.2.2.1 + 1)), some (.int (v21.2.2.2.2.1 1276 0 (((61 * v21.1) + v21.2.1).toNatClampNeg)))]) dX12_draft_418 rfl rfl (by decide) rfl ?_
                        refine e_goto (tgt := 453) dX12_draft_421 rfl ?_
                        refine e_goto (tgt := 312) dX12_draft_453 rfl ?_
                        refine e_wk (L' := [some (.ref (ad 12 0)), some (.int p1), none, some (.int p3), none, some (.int (m.2.1 1248 0 p1.toNatClampNeg)), some (.int (m.2.1 1213 0 p3.toNatClampNeg)), some (.int (v21.1 + 1)), some (.int (v21.2.1 + 1)), some (.int (v21.2.2.1 + 1)), none]) (wkC (wkC (wkN (wkC (wkN (wkC (wkC (wkC (wkC (wkC (wkN wk0))))))))))) ?_
                        exact hB2_3 _ _ _ _ h9
              · replace h9 := ifF hc20 h9
                refine e_aload_n dX12_draft_289 rfl rfl ?_
                refine g_1277 flX12_214 dX12_draft_290 ?_
                refine e_iload dX12_draft_293 rfl ?_
                refine e_iload_n dX12_draft_295 rfl rfl ?_
                obtain ⟨k53, h9⟩ := chkP hN2 h9
                refine s_1277 dX12_draft_296 (inb_in k53) ?_
                refine e_iinc (v := (v19.1 + 1)) (L' := [some (.ref (ad 12 0)), some (.int p1), some (.int p2), some (.int p3), none, some (.int (m.2.1 1248 0 p1.toNatClampNeg)), some (.int (m.2.1 1213 0 p3.toNatClampNeg)), some (.int (v19.1 + 1)), none, none, none]) dX12_draft_297 rfl rfl (by decide) rfl ?_
                refine e_goto (tgt := 282) dX12_draft_300 rfl ?_
                exact hB1_2 _ _ h9
            · replace h9 := ifF hc18 h9
              refine e_iload dX12_draft_85 rfl ?_
              refine e_istore (L' := [some (.ref (ad 12 0)), some (.int p1), some (.int p2), some (.int p3), none, some (.int (m.2.1 1248 0 p1.toNatClampNeg)), some (.int (m.2.1 1213 0 p3.toNatClampNeg)), some (.int v17.1), some (.int (m.2.1 1213 0 p3.toNatClampNeg)), none, none]) dX12_draft_87 (by decide) rfl ?_
              refine loop_gen (b_X12_draft_89 m p1 p2 p3 v17) (Sum.inr none) (fun v54 => EX g (d + 2) MX12_draft ad x v54.2 89 [some (.ref (ad 12 0)), some (.int p1), some (.int p2), some (.int p3), none, some (.int (m.2.1 1248 0 p1.toNatClampNeg)), some (.int (m.2.1 1213 0 p3.toNatClampNeg)), some (.int v17.1), some (.int v54.1), none, none] [] Q) Φ1 hN1 (fun v54 Φ2 hB1_2 hO2 h9 => ?_) (m.2.1 1213 0 p3.toNatClampNeg, v17.2) h9
              have hN2 := fun h => hN1 (hO2 _ h)
              have hR2 := fun r9 x9 h => hR1 r9 x9 (hO2 _ h)
              have hB0_2 : ∀ (z0 : Int32) (z1 : VM), Φ2 (Sum.inr (Sum.inl (z0, z1))) → EX g (d + 2) MX12_draft ad x z1 80 [some (.ref (ad 12 0)), some (.int p1), some (.int p2), some (.int p3), none, some (.int (m.2.1 1248 0 p1.toNatClampNeg)), some (.int (m.2.1 1213 0 p3.toNatClampNeg)), some (.int z0), none, none, none] [] Q := fun z0 z1 h => hB0_1 z0 z1 (hO2 _ h)
              have hB1_2 : ∀ (z0 : Int32) (z1 : VM), Φ2 (Sum.inl (z0, z1)) → EX g (d + 2) MX12_draft ad x z1 89 [some (.ref (ad 12 0)), some (.int p1), some (.int p2), some (.int p3), none, some (.int (m.2.1 1248 0 p1.toNatClampNeg)), some (.int (m.2.1 1213 0 p3.toNatClampNeg)), some (.int v17.1), some (.int z0), none, none] [] Q := fun z0 z1 h => hB1_2 (z0, z1) h
              unfold b_X12_draft_89 at h9
              refine e_iload dX12_draft_89 rfl ?_
              refine e_if_lt (tgt := 273) dX12_draft_91 rfl (fun hc55 => ?_) (fun hc55 => ?_)
              · replace h9 := ifT hc55 h9
                refine e_iinc (v := (v17.1 + (-1))) (L' := [some (.ref (ad 12 0)), some (.int p1), some (.int p2), some (.int p3), none, some (.int (m.2.1 1248 0 p1.toNatClampNeg)), some (.int (m.2.1 1213 0 p3.toNatClampNeg)), some (.int (v17.1 + (-1))), some (.int v54.1), none, none]) dX12_draft_273 rfl rfl (by decide) rfl ?_
                refine e_goto (tgt := 80) dX12_draft_276 rfl ?_
                refine e_wk (L' := [some (.ref (ad 12 0)), some (.int p1), some (.int p2), some (.int p3), none, some (.int (m.2.1 1248 0 p1.toNatClampNeg)), some (.int (m.2.1 1213 0 p3.toNatClampNeg)), some (.int (v17.1 + (-1))), none, none, none]) (wkC (wkC (wkC (wkC (wkN (wkC (wkC (wkC (wkN (wkN (wkN wk0))))))))))) ?_
                exact hB0_2 _ _ h9
              · replace h9 := ifF hc55 h9
                refine e_iconst (v := 0) dX12_draft_94 rfl ?_
                refine e_istore (L' := [some (.ref (ad 12 0)), some (.int p1), some (.int p2), some (.int p3), none, some (.int (m.2.1 1248 0 p1.toNatClampNeg)), some (.int (m.2.1 1213 0 p3.toNatClampNeg)), some (.int v17.1), some (.int v54.1), some (.int 0), none]) dX12_draft_95 (by decide) rfl ?_
                refine e_iload dX12_draft_97 rfl ?_
                refine e_iload dX12_draft_99 rfl ?_
                have hj252 : ∀ (a56 : Int32), Φ2 (j_X12_draft_252 m p1 p2 p3 v17 v54 a56) → EX g (d + 2) MX12_draft ad x v54.2 252 [some (.ref (ad 12 0)), some (.int p1), some (.int p2), some (.int p3), none, some (.int (m.2.1 1248 0 p1.toNatClampNeg)), some (.int (m.2.1 1213 0 p3.toNatClampNeg)), some (.int v17.1), some (.int v54.1), some (.int a56), none] [] Q := by
                  intro a56 h9
                  unfold j_X12_draft_252 at h9
                  refine e_aload_n dX12_draft_252 rfl rfl ?_
                  refine g_1276 flX12_211 dX12_draft_253 ?_
                  refine e_bipush (v := 61) dX12_draft_256 rfl ?_
                  refine e_iload dX12_draft_258 rfl ?_
                  refine e_imul dX12_draft_260 ?_
                  refine e_iload dX12_draft_261 rfl ?_
                  refine e_iadd dX12_draft_263 ?_
                  refine e_iload dX12_draft_264 rfl ?_
                  refine e_pc (pc' := 266) rfl ?_
                  obtain ⟨k57, h9⟩ := chkP hN2 h9
                  refine s_1276 dX12_draft_266 (inb_in k57) ?_
                  refine e_iinc (v := (v54.1 + (-1))) (L' := [some (.ref (ad 12 0)), some (.int p1), some (.int p2), some (.int p3), none, some (.int (m.2.1 1248 0 p1.toNatClampNeg)), some (.int (m.2.1 1213 0 p3.toNatClampNeg)), some (.int v17.1), some (.int (v54.1 + (-1))), some (.int a56), none]) dX12_draft_267 rfl rfl (by decide) rfl ?_
                  refine e_goto (tgt := 89) dX12_draft_270 rfl ?_
                  refine e_wk (L' := [some (.ref (ad 12 0)), some (.int p1), some (.int p2), some (.int p3), none, some (.int (m.2.1 1248 0 p1.toNatClampNeg)), some (.int (m.2.1 1213 0 p3.toNatClampNeg)), some (.int v17.1), some (.int (v54.1 + (-1))), none, none]) (wkC (wkC (wkC (wkC (wkN (wkC (wkC (wkC (wkC (wkN (wkN wk0))))))))))) ?_
                  exact hB1_2 _ _ h9
                refine e_icmp_ge (tgt := 252) dX12_draft_101 rfl (fun hc58 => ?_) (fun hc58 => ?_)
                · replace h9 := ifT hc58 h9
                  exact hj252 0 h9
                · replace h9 := ifF hc58 h9
                  refine e_iload dX12_draft_104 rfl ?_
                  refine e_iload dX12_draft_106 rfl ?_
                  refine e_icmp_ge (tgt := 252) dX12_draft_108 rfl (fun hc59 => ?_) (fun hc59 => ?_)
                  · replace h9 := ifT hc59 h9
                    exact hj252 0 h9
                  · replace h9 := ifF hc59 h9
                    refine e_aload_n dX12_draft_111 rfl rfl ?_
                    refine g_1276 flX12_211 dX12_draft_112 ?_
                    refine e_bipush (v := 61) dX12_draft_115 rfl ?_
                    refine e_iload dX12_draft_117 rfl ?_
                    refine e_iconst (v := 1) dX12_draft_119 rfl ?_
                    refine e_iadd dX12_draft_120 ?_
                    refine e_imul dX12_draft_121 ?_
                    refine e_iload dX12_draft_122 rfl ?_
                    refine e_pc (pc' := 124) rfl ?_
                    refine e_iadd dX12_draft_124 ?_
                    obtain ⟨k60, h9⟩ := chkP hN2 h9
                    refine l_1276 dX12_draft_125 (inb_in k60) ?_
                    refine e_aload_n dX12_draft_126 rfl rfl ?_
                    refine g_1276 flX12_211 dX12_draft_127 ?_
                    refine e_bipush (v := 61) dX12_draft_130 rfl ?_
                    refine e_iload dX12_draft_132 rfl ?_
                    refine e_imul dX12_draft_134 ?_
                    refine e_iload dX12_draft_135 rfl ?_
                    refine e_iadd dX12_draft_137 ?_
                    refine e_pc (pc' := 138) rfl ?_
                    refine e_iconst (v := 1) dX12_draft_138 rfl ?_
                    refine e_iadd dX12_draft_139 ?_
                    obtain ⟨k61, h9⟩ := chkP hN2 h9
                    refine l_1276 dX12_draft_140 (inb_in k61) ?_
                    have hj177 : ∀ (a62 : Int32), Φ2 (j_X12_draft_177 m p1 p2 p3 v17 v54 a62) → EX g (d + 2) MX12_draft ad x v54.2 177 [some (.ref (ad 12 0)), some (.int p1), some (.int p2), some (.int p3), none, some (.int (m.2.1 1248 0 p1.toNatClampNeg)), some (.int (m.2.1 1213 0 p3.toNatClampNeg)), some (.int v17.1), some (.int v54.1), none, none] [.int a62] Q := by
                      intro a62 h9
                      unfold j_X12_draft_177 at h9
                      refine e_istore (L' := [some (.ref (ad 12 0)), some (.int p1), some (.int p2), some (.int p3), none, some (.int (m.2.1 1248 0 p1.toNatClampNeg)), some (.int (m.2.1 1213 0 p3.toNatClampNeg)), some (.int v17.1), some (.int v54.1), some (.int a62), none]) dX12_draft_177 (by decide) rfl ?_
                      refine e_aload_n dX12_draft_179 rfl rfl ?_
                      refine g_1250 flX12_136 dX12_draft_180 ?_
                      refine e_bipush (v := 60) dX12_draft_183 rfl ?_
                      refine e_iload_n dX12_draft_185 rfl rfl ?_
                      refine e_imul dX12_draft_186 ?_
                      refine e_iload dX12_draft_187 rfl ?_
                      refine e_iadd dX12_draft_189 ?_
                      refine e_pc (pc' := 190) rfl ?_
                      obtain ⟨k63, h9⟩ := chkP hN2 h9
                      refine l_1250 dX12_draft_190 (inb_in k63) ?_
                      refine e_aload_n dX12_draft_191 rfl rfl ?_
                      refine g_1215 flX12_29 dX12_draft_192 ?_
                      refine e_bipush (v := 60) dX12_draft_195 rfl ?_
                      refine e_iload_n dX12_draft_197 rfl rfl ?_
                      refine e_imul dX12_draft_198 ?_
                      refine e_iload dX12_draft_199 rfl ?_
                      refine e_iadd dX12_draft_201 ?_
                      obtain ⟨k64, h9⟩ := chkP hN2 h9
                      refine l_1215 dX12_draft_202 (inb_in k64) ?_
                      refine e_pc (pc' := 203) rfl ?_
                      refine e_lcmp dX12_draft_203 ?_
                      refine e_if_ne (tgt := 252) dX12_draft_204 rfl (fun hc65 => ?_) (fun hc65 => ?_)
                      · replace h9 := ifF hc65 h9
                        exact hj252 a62 h9
                      · replace h9 := ifT hc65 h9
                        refine e_aload_n dX12_draft_207 rfl rfl ?_
                        refine g_1276 flX12_211 dX12_draft_208 ?_
                        refine e_bipush (v := 61) dX12_draft_211 rfl ?_
                        refine e_iload dX12_draft_213 rfl ?_
                        refine e_iconst (v := 1) dX12_draft_215 rfl ?_
                        refine e_iadd dX12_draft_216 ?_
                        refine e_imul dX12_draft_217 ?_
                        refine e_iload dX12_draft_218 rfl ?_
                        refine e_pc (pc' := 220) rfl ?_
                        refine e_iadd dX12_draft_220 ?_
                        refine e_iconst (v := 1) dX12_draft_221 rfl ?_
                        refine e_iadd dX12_draft_222 ?_
                        obtain ⟨k66, h9⟩ := chkP hN2 h9
                        refine l_1276 dX12_draft_223 (inb_in k66) ?_
                        refine e_iconst (v := 1) dX12_draft_224 rfl ?_
                        refine e_iadd dX12_draft_225 ?_
                        refine e_iload dX12_draft_226 rfl ?_
                        refine e_icmp_le (tgt := 252) dX12_draft_228 rfl (fun hc67 => ?_) (fun hc67 => ?_)
                        · replace h9 := ifT hc67 h9
                          exact hj252 a62 h9
                        · replace h9 := ifF hc67 h9
                          refine e_aload_n dX12_draft_231 rfl rfl ?_
                          refine g_1276 flX12_211 dX12_draft_232 ?_
                          refine e_bipush (v := 61) dX12_draft_235 rfl ?_
                          refine e_iload dX12_draft_237 rfl ?_
                          refine e_iconst (v := 1) dX12_draft_239 rfl ?_
                          refine e_iadd dX12_draft_240 ?_
                          refine e_imul dX12_draft_241 ?_
                          refine e_iload dX12_draft_242 rfl ?_
                          refine e_pc (pc' := 244) rfl ?_
                          refine e_iadd dX12_draft_244 ?_
                          refine e_iconst (v := 1) dX12_draft_245 rfl ?_
                          refine e_iadd dX12_draft_246 ?_
                          obtain ⟨k68, h9⟩ := chkP hN2 h9
                          refine l_1276 dX12_draft_247 (inb_in k68) ?_
                          refine e_iconst (v := 1) dX12_draft_248 rfl ?_
                          refine e_iadd dX12_draft_249 ?_
                          refine e_istore (L' := [some (.ref (ad 12 0)), some (.int p1), some (.int p2), some (.int p3), none, some (.int (m.2.1 1248 0 p1.toNatClampNeg)), some (.int (m.2.1 1213 0 p3.toNatClampNeg)), some (.int v17.1), some (.int v54.1), some (.int ((v54.2.2.1 1276 0 ((((61 * (v17.1 + 1)) + v54.1) + 1).toNatClampNeg)) + 1)), none]) dX12_draft_250 (by decide) rfl ?_
                          exact hj252 ((v54.2.2.1 1276 0 ((((61 * (v17.1 + 1)) + v54.1) + 1).toNatClampNeg)) + 1) h9
                    refine e_icmp_le (tgt := 162) dX12_draft_141 rfl (fun hc69 => ?_) (fun hc69 => ?_)
                    · replace h9 := ifT hc69 h9
                      refine e_aload_n dX12_draft_162 rfl rfl ?_
                      refine g_1276 flX12_211 dX12_draft_163 ?_
                      refine e_bipush (v := 61) dX12_draft_166 rfl ?_
                      refine e_iload dX12_draft_168 rfl ?_
                      refine e_imul dX12_draft_170 ?_
                      refine e_iload dX12_draft_171 rfl ?_
                      refine e_iadd dX12_draft_173 ?_
                      refine e_iconst (v := 1) dX12_draft_174 rfl ?_
                      refine e_pc (pc' := 175) rfl ?_
                      refine e_iadd dX12_draft_175 ?_
                      obtain ⟨k70, h9⟩ := chkP hN2 h9
                      refine l_1276 dX12_draft_176 (inb_in k70) ?_
                      refine e_wk (L' := [some (.ref (ad 12 0)), some (.int p1), some (.int p2), some (.int p3), none, some (.int (m.2.1 1248 0 p1.toNatClampNeg)), some (.int (m.2.1 1213 0 p3.toNatClampNeg)), some (.int v17.1), some (.int v54.1), none, none]) (wkC (wkC (wkC (wkC (wkN (wkC (wkC (wkC (wkC (wkN (wkN wk0))))))))))) ?_
                      exact hj177 (v54.2.2.1 1276 0 ((((61 * v17.1) + v54.1) + 1).toNatClampNeg)) h9
                    · replace h9 := ifF hc69 h9
                      refine e_aload_n dX12_draft_144 rfl rfl ?_
                      refine g_1276 flX12_211 dX12_draft_145 ?_
                      refine e_bipush (v := 61) dX12_draft_148 rfl ?_
                      refine e_iload dX12_draft_150 rfl ?_
                      refine e_iconst (v := 1) dX12_draft_152 rfl ?_
                      refine e_iadd dX12_draft_153 ?_
                      refine e_imul dX12_draft_154 ?_
                      refine e_iload dX12_draft_155 rfl ?_
                      refine e_pc (pc' := 157) rfl ?_
                      refine e_iadd dX12_draft_157 ?_
                      obtain ⟨k71, h9⟩ := chkP hN2 h9
                      refine l_1276 dX12_draft_158 (inb_in k71) ?_
                      refine e_goto (tgt := 177) dX12_draft_159 rfl ?_
                      refine e_wk (L' := [some (.ref (ad 12 0)), some (.int p1), some (.int p2), some (.int p3), none, some (.int (m.2.1 1248 0 p1.toNatClampNeg)), some (.int (m.2.1 1213 0 p3.toNatClampNeg)), some (.int v17.1), some (.int v54.1), none, none]) (wkC (wkC (wkC (wkC (wkN (wkC (wkC (wkC (wkC (wkN (wkN wk0))))))))))) ?_
                      exact hj177 (v54.2.2.1 1276 0 (((61 * (v17.1 + 1)) + v54.1).toNatClampNeg)) h9
          · replace h9 := ifT hc14 h9
            refine e_aload_n dX12_draft_53 rfl rfl ?_
            refine e_bipush (v := (-7)) dX12_draft_54 rfl ?_
            obtain ⟨⟨r72, w73⟩, hr72, h9⟩ := elimP hN0 h9
            refine x_callVi (c := 12) (As := [.int (-7)]) (rest := []) okX12_no lkX12_263 rfl (by decide) rfl dX12_draft_56 rfl rfl (Nat.le_of_ble_eq_true rfl) rfl (c_X12_no (-7) hr72 (CI.mk ?_))
            exact x_iret dX12_draft_59 rfl (hR0 _ _ h9)
        · replace h9 := ifF hc12 h9
          refine e_aload_n dX12_draft_35 rfl rfl ?_
          refine e_iload dX12_draft_36 rfl ?_
          obtain ⟨⟨r75, w76⟩, hr75, h9⟩ := elimP hN0 h9
          refine x_callVi (c := 12) (As := [.int r11]) (rest := []) okX12_no lkX12_263 rfl (by decide) rfl dX12_draft_38 rfl rfl (Nat.le_of_ble_eq_true rfl) rfl (c_X12_no r11 hr75 (CI.mk ?_))
          exact x_iret dX12_draft_41 rfl (hR0 _ _ h9)
      · replace h9 := ifF hc10 h9
        refine e_aload_n dX12_draft_17 rfl rfl ?_
        refine e_iconst (v := (-1)) dX12_draft_18 rfl ?_
        obtain ⟨⟨r78, w79⟩, hr78, h9⟩ := elimP hN0 h9
        refine x_callVi (c := 12) (As := [.int (-1)]) (rest := []) okX12_no lkX12_263 rfl (by decide) rfl dX12_draft_19 rfl rfl (Nat.le_of_ble_eq_true rfl) rfl (c_X12_no (-1) hr78 (CI.mk ?_))
        exact x_iret dX12_draft_22 rfl (hR0 _ _ h9)
