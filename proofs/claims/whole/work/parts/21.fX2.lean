noncomputable def b_X6_findBest_38 (x : VM) (p2 : Int32) (p3 : Int32) (v2 : Int32 × VM) : (Int32 × VM) ⊕ (Option (Int32 × VM)) := if v2.1 < 0 then (f_X6_search 12 v2.2 0 0).elim (Sum.inr none) (fun r4 => Sum.inr (some (r4.1 603 0, r4))) else if inb v2.1 8 = true then if v2.1.toNatClampNeg < v2.2.2.2.2 5 then (f_X5_castOfAll v2.2 v2.1.toNatClampNeg).elim (Sum.inr none) (fun r8 => if inb v2.1 8 = true then if inb (v2.1 + 1) 9 = true then if inb v2.1 8 = true then if v2.1.toNatClampNeg < v2.2.2.2.2 5 then (f_X6_mostOf (setA v2.2 605 0 (upd (v2.2.2.1 605 0) v2.1.toNatClampNeg r8)) v2.1.toNatClampNeg).elim (Sum.inr none) (fun r13 => if inb v2.1 9 = true then Sum.inl (v2.1 + (-1), setA (setA v2.2 605 0 (upd (v2.2.2.1 605 0) v2.1.toNatClampNeg r8)) 606 0 (upd ((setA v2.2 605 0 (upd (v2.2.2.1 605 0) v2.1.toNatClampNeg r8)).2.1 606 0) v2.1.toNatClampNeg (((setA v2.2 605 0 (upd (v2.2.2.1 605 0) v2.1.toNatClampNeg r8)).2.1 606 0 ((v2.1 + 1).toNatClampNeg)) + r13))) else Sum.inr none) else Sum.inr none else Sum.inr none else Sum.inr none else Sum.inr none) else Sum.inr none else Sum.inr none
noncomputable def f_X6_findBest (x : VM) (p2 : Int32) (p3 : Int32) : Option (Int32 × VM) := if inb ((setI (setI (setI x 601 0 (if 8 < p2 then 8 else p2)) 602 0 p3) 603 0 (-1)).1 601 0) 9 = true then loopF none (b_X6_findBest_38 x p2 p3) (((setA (setI (setI (setI x 601 0 (if 8 < p2 then 8 else p2)) 602 0 p3) 603 0 (-1)) 606 0 (upd ((setI (setI (setI x 601 0 (if 8 < p2 then 8 else p2)) 602 0 p3) 603 0 (-1)).2.1 606 0) (((setI (setI (setI x 601 0 (if 8 < p2 then 8 else p2)) 602 0 p3) 603 0 (-1)).1 601 0).toNatClampNeg) 0)).1 601 0) - 1, setA (setI (setI (setI x 601 0 (if 8 < p2 then 8 else p2)) 602 0 p3) 603 0 (-1)) 606 0 (upd ((setI (setI (setI x 601 0 (if 8 < p2 then 8 else p2)) 602 0 p3) 603 0 (-1)).2.1 606 0) (((setI (setI (setI x 601 0 (if 8 < p2 then 8 else p2)) 602 0 p3) 603 0 (-1)).1 601 0).toNatClampNeg) 0)) else none
theorem c_X6_findBest {g : GG} {d : Nat} {ad : AD} {x m : VM} {Q : Option Value → VM → VM → Prop} (p2 : Int32) (p3 : Int32) {r9 : Int32} {w9 : VM} (hf : f_X6_findBest x p2 p3 = some (r9, w9)) (hq : Q (some (.int r9)) w9 m) : CX g (d + 15) MX6_findBest [.ref (ad 6 0), .ref (ad 2102 0), .int p2, .int p3] ad x m Q := by
  refine CX.to (Lv := [some (.ref (ad 6 0)), some (.ref (ad 2102 0)), some (.int p2), some (.int p3), none]) okX6_findBest (Nat.le_of_ble_eq_true rfl) rfl ?_
  obtain ⟨Φ0, hΦ⟩ : ∃ Φ : Option (Int32 × VM) → Prop, Φ = fun o => o = some (r9, w9) := ⟨_, rfl⟩
  have hN0 : Φ0 none → False := by rw [hΦ]; intro h; cases h
  have hR0 : ∀ z9 y9, Φ0 (some (z9, y9)) → Q (some (.int z9)) y9 m := by rw [hΦ]; intro z9 y9 h; cases h; exact hq
  have h9 : Φ0 (f_X6_findBest x p2 p3) := by rw [hΦ]; exact hf
  clear hf hq hΦ
  unfold f_X6_findBest at h9
  refine e_aload_n dX6_findBest_0 rfl rfl ?_
  refine e_iload_n dX6_findBest_1 rfl rfl ?_
  refine e_bipush (v := 8) dX6_findBest_2 rfl ?_
  refine e_mmin mmX6_40 dX6_findBest_4 (Nat.le_of_ble_eq_true rfl) ?_
  refine p_601 flX6_15 dX6_findBest_7 ?_
  refine e_aload_n dX6_findBest_10 rfl rfl ?_
  refine e_iload_n dX6_findBest_11 rfl rfl ?_
  refine p_602 flX6_19 dX6_findBest_12 ?_
  refine e_pc (pc' := 15) rfl ?_
  refine e_aload_n dX6_findBest_15 rfl rfl ?_
  refine e_iconst (v := (-1)) dX6_findBest_16 rfl ?_
  refine p_603 flX6_22 dX6_findBest_17 ?_
  refine e_aload_n dX6_findBest_20 rfl rfl ?_
  refine g_606 flX6_31 dX6_findBest_21 ?_
  refine e_aload_n dX6_findBest_24 rfl rfl ?_
  refine g_601 flX6_15 dX6_findBest_25 ?_
  refine e_iconst (v := 0) dX6_findBest_28 rfl ?_
  obtain ⟨k1, h9⟩ := chkP hN0 h9
  refine s_606 dX6_findBest_29 (inb_in k1) ?_
  refine e_pc (pc' := 30) rfl ?_
  refine e_aload_n dX6_findBest_30 rfl rfl ?_
  refine g_601 flX6_15 dX6_findBest_31 ?_
  refine e_iconst (v := 1) dX6_findBest_34 rfl ?_
  refine e_isub dX6_findBest_35 ?_
  refine e_istore (L' := [some (.ref (ad 6 0)), some (.ref (ad 2102 0)), some (.int p2), some (.int p3), some (.int (((setA (setI (setI (setI x 601 0 (if 8 < p2 then 8 else p2)) 602 0 p3) 603 0 (-1)) 606 0 (upd ((setI (setI (setI x 601 0 (if 8 < p2 then 8 else p2)) 602 0 p3) 603 0 (-1)).2.1 606 0) (((setI (setI (setI x 601 0 (if 8 < p2 then 8 else p2)) 602 0 p3) 603 0 (-1)).1 601 0).toNatClampNeg) 0)).1 601 0) - 1))]) dX6_findBest_36 (by decide) rfl ?_
  refine e_wk (L' := [some (.ref (ad 6 0)), some (.ref (ad 2102 0)), none, none, some (.int (((setA (setI (setI (setI x 601 0 (if 8 < p2 then 8 else p2)) 602 0 p3) 603 0 (-1)) 606 0 (upd ((setI (setI (setI x 601 0 (if 8 < p2 then 8 else p2)) 602 0 p3) 603 0 (-1)).2.1 606 0) (((setI (setI (setI x 601 0 (if 8 < p2 then 8 else p2)) 602 0 p3) 603 0 (-1)).1 601 0).toNatClampNeg) 0)).1 601 0) - 1))]) (wkC (wkC (wkN (wkN (wkC wk0))))) ?_
  refine loop_gen (b_X6_findBest_38 x p2 p3) none (fun v2 => EX g (d + 15) MX6_findBest ad v2.2 m 38 [some (.ref (ad 6 0)), some (.ref (ad 2102 0)), none, none, some (.int v2.1)] [] Q) Φ0 hN0 (fun v2 Φ1 hB0_1 hO1 h9 => ?_) (((setA (setI (setI (setI x 601 0 (if 8 < p2 then 8 else p2)) 602 0 p3) 603 0 (-1)) 606 0 (upd ((setI (setI (setI x 601 0 (if 8 < p2 then 8 else p2)) 602 0 p3) 603 0 (-1)).2.1 606 0) (((setI (setI (setI x 601 0 (if 8 < p2 then 8 else p2)) 602 0 p3) 603 0 (-1)).1 601 0).toNatClampNeg) 0)).1 601 0) - 1, setA (setI (setI (setI x 601 0 (if 8 < p2 then 8 else p2)) 602 0 p3) 603 0 (-1)) 606 0 (upd ((setI (setI (setI x 601 0 (if 8 < p2 then 8 else p2)) 602 0 p3) 603 0 (-1)).2.1 606 0) (((setI (setI (setI x 601 0 (if 8 < p2 then 8 else p2)) 602 0 p3) 603 0 (-1)).1 601 0).toNatClampNeg) 0)) h9
  have hN1 := fun h => hN0 (hO1 _ h)
  have hR1 := fun r9 x9 h => hR0 r9 x9 (hO1 _ h)
  have hB0_1 : ∀ (z0 : Int32) (z1 : VM), Φ1 (Sum.inl (z0, z1)) → EX g (d + 15) MX6_findBest ad z1 m 38 [some (.ref (ad 6 0)), some (.ref (ad 2102 0)), none, none, some (.int z0)] [] Q := fun z0 z1 h => hB0_1 (z0, z1) h
  unfold b_X6_findBest_38 at h9
  refine e_iload dX6_findBest_38 rfl ?_
  refine e_if_lt (tgt := 87) dX6_findBest_40 rfl (fun hc3 => ?_) (fun hc3 => ?_)
  · replace h9 := ifT hc3 h9
    refine e_aload_n dX6_findBest_87 rfl rfl ?_
    refine e_aload_n dX6_findBest_88 rfl rfl ?_
    refine e_iconst (v := 0) dX6_findBest_89 rfl ?_
    refine e_iconst (v := 0) dX6_findBest_90 rfl ?_
    obtain ⟨r4, hr4, h9⟩ := elimP hN1 h9
    refine x_callVv (c := 6) (As := [.ref (ad 2102 0), .int 0, .int 0]) (rest := []) okX6_search lkX6_56 rfl (by decide) rfl dX6_findBest_91 rfl rfl (Nat.le_of_ble_eq_true rfl) rfl (c_X6_search 0 0 hr4 (CV.mk ?_))
    refine e_aload_n dX6_findBest_94 rfl rfl ?_
    refine g_603 flX6_22 dX6_findBest_95 ?_
    exact x_iret dX6_findBest_98 rfl (hR1 _ _ h9)
  · replace h9 := ifF hc3 h9
    refine e_aload_n dX6_findBest_43 rfl rfl ?_
    refine g_605 flX6_28 dX6_findBest_44 ?_
    refine e_iload dX6_findBest_47 rfl ?_
    refine e_aload_n dX6_findBest_49 rfl rfl ?_
    refine e_iload dX6_findBest_50 rfl ?_
    obtain ⟨k6, h9⟩ := chkP hN1 h9
    refine l_1102 dX6_findBest_52 (inb_in k6) ?_
    obtain ⟨k7, h9⟩ := chkP hN1 h9
    refine e_top (v := .ref (ad 5 v2.1.toNatClampNeg)) (rfT k7) ?_
    obtain ⟨r8, hr8, h9⟩ := elimP hN1 h9
    refine x_callVi (c := 5) (As := []) (rest := [.int v2.1, .ref (ad 1605 0)]) okX5_castOfAll lkX6_46 rfl (by decide) rfl dX6_findBest_53 rfl rfl (Nat.le_of_ble_eq_true rfl) k7 (c_X5_castOfAll v2.1.toNatClampNeg hr8 (CI.mk ?_))
    obtain ⟨k9, h9⟩ := chkP hN1 h9
    refine s_605 dX6_findBest_56 (inb_in k9) ?_
    refine e_pc (pc' := 57) rfl ?_
    refine e_aload_n dX6_findBest_57 rfl rfl ?_
    refine g_606 flX6_31 dX6_findBest_58 ?_
    refine e_iload dX6_findBest_61 rfl ?_
    refine e_aload_n dX6_findBest_63 rfl rfl ?_
    refine g_606 flX6_31 dX6_findBest_64 ?_
    refine e_iload dX6_findBest_67 rfl ?_
    refine e_iconst (v := 1) dX6_findBest_69 rfl ?_
    refine e_iadd dX6_findBest_70 ?_
    obtain ⟨k10, h9⟩ := chkP hN1 h9
    refine l_606 dX6_findBest_71 (inb_in k10) ?_
    refine e_pc (pc' := 72) rfl ?_
    refine e_aload_n dX6_findBest_72 rfl rfl ?_
    refine e_iload dX6_findBest_73 rfl ?_
    obtain ⟨k11, h9⟩ := chkP hN1 h9
    refine l_1102 dX6_findBest_75 (inb_in k11) ?_
    obtain ⟨k12, h9⟩ := chkP hN1 h9
    refine e_top (v := .ref (ad 5 v2.1.toNatClampNeg)) (rfT k12) ?_
    obtain ⟨r13, hr13, h9⟩ := elimP hN1 h9
    refine x_callSi (As := [.ref (ad 5 v2.1.toNatClampNeg)]) (rest := [.int ((setA v2.2 605 0 (upd (v2.2.2.1 605 0) v2.1.toNatClampNeg r8)).2.1 606 0 ((v2.1 + 1).toNatClampNeg)), .int v2.1, .ref (ad 1606 0)]) okX6_mostOf lkX6_52 dX6_findBest_76 rfl rfl (Nat.le_of_ble_eq_true rfl) (c_X6_mostOf v2.1.toNatClampNeg hr13 (CI.mk ?_))
    refine e_iadd dX6_findBest_79 ?_
    obtain ⟨k14, h9⟩ := chkP hN1 h9
    refine s_606 dX6_findBest_80 (inb_in k14) ?_
    refine e_iinc (v := (v2.1 + (-1))) (L' := [some (.ref (ad 6 0)), some (.ref (ad 2102 0)), none, none, some (.int (v2.1 + (-1)))]) dX6_findBest_81 rfl rfl (by decide) rfl ?_
    refine e_goto (tgt := 38) dX6_findBest_84 rfl ?_
    exact hB0_1 _ _ h9
noncomputable def f_X7_valueOf (x : VM) (p1 : Nat) (p2 : Int32) : Option (Int32) := if p1 / 8 < x.2.2.2 5 ∧ p1 % 8 < x.2.2.2 (20 + p1 / 8) then if inb p2 4 = true then if inb p2 4 = true then some (((x.2.1 807 p1 p2.toNatClampNeg) * 1000) - (x.2.1 806 p1 p2.toNatClampNeg)) else none else none else none
theorem c_X7_valueOf {g : GG} {d : Nat} {ad : AD} {x m : VM} {Q : Option Value → VM → VM → Prop} (p1 : Nat) (p2 : Int32) {r9 : Int32} (hf : f_X7_valueOf x p1 p2 = some r9) (hq : Q (some (.int r9)) x m) : CX g d MX7_valueOf [.ref (ad 8 p1), .int p2] ad x m Q := by
  refine CX.to (Lv := [some (.ref (ad 8 p1)), some (.int p2)]) okX7_valueOf (Nat.le_of_ble_eq_true rfl) rfl ?_
  obtain ⟨Φ0, hΦ⟩ : ∃ Φ : Option (Int32) → Prop, Φ = fun o => o = some r9 := ⟨_, rfl⟩
  have hN0 : Φ0 none → False := by rw [hΦ]; intro h; cases h
  have hR0 : ∀ z9, Φ0 (some z9) → Q (some (.int z9)) x m := by rw [hΦ]; intro z9 h; cases h; exact hq
  have h9 : Φ0 (f_X7_valueOf x p1 p2) := by rw [hΦ]; exact hf
  clear hf hq hΦ
  unfold f_X7_valueOf at h9
  refine e_aload_n dX7_valueOf_0 rfl rfl ?_
  obtain ⟨k1, h9⟩ := chkP hN0 h9
  refine g_807 flX7_42 dX7_valueOf_1 k1 ?_
  refine e_iload_n dX7_valueOf_4 rfl rfl ?_
  obtain ⟨k2, h9⟩ := chkP hN0 h9
  refine l_807 dX7_valueOf_5 k1 (inb_in k2) ?_
  refine e_sipush (v := 1000) dX7_valueOf_6 rfl ?_
  refine e_imul dX7_valueOf_9 ?_
  refine e_aload_n dX7_valueOf_10 rfl rfl ?_
  refine g_806 flX7_47 dX7_valueOf_11 k1 ?_
  refine e_pc (pc' := 14) rfl ?_
  refine e_iload_n dX7_valueOf_14 rfl rfl ?_
  obtain ⟨k3, h9⟩ := chkP hN0 h9
  refine l_806 dX7_valueOf_15 k1 (inb_in k3) ?_
  refine e_isub dX7_valueOf_16 ?_
  exact x_iret dX7_valueOf_17 rfl (hR0 _ h9)
noncomputable def b_X7_mostOf_4 (x : VM) (p1 : Nat) (v1 : Int32 × Int32) : (Int32 × Int32) ⊕ (Option (Int32)) := if p1 / 8 < x.2.2.2 5 ∧ p1 % 8 < x.2.2.2 (20 + p1 / 8) then if (x.1 805 p1) ≤ v1.2 then Sum.inr (some v1.1) else (f_X7_valueOf x p1 v1.2).elim (Sum.inr none) (fun r4 => Sum.inl ((if v1.1 < r4 then r4 else v1.1), v1.2 + 1)) else Sum.inr none
noncomputable def f_X7_mostOf (x : VM) (p1 : Nat) : Option (Int32) := loopF none (b_X7_mostOf_4 x p1) (0, 0)
theorem c_X7_mostOf {g : GG} {d : Nat} {ad : AD} {x m : VM} {Q : Option Value → VM → VM → Prop} (p1 : Nat) {r9 : Int32} (hf : f_X7_mostOf x p1 = some r9) (hq : Q (some (.int r9)) x m) : CX g (d + 1) MX7_mostOf [.ref (ad 8 p1)] ad x m Q := by
  refine CX.to (Lv := [some (.ref (ad 8 p1)), none, none]) okX7_mostOf (Nat.le_of_ble_eq_true rfl) rfl ?_
  obtain ⟨Φ0, hΦ⟩ : ∃ Φ : Option (Int32) → Prop, Φ = fun o => o = some r9 := ⟨_, rfl⟩
  have hN0 : Φ0 none → False := by rw [hΦ]; intro h; cases h
  have hR0 : ∀ z9, Φ0 (some z9) → Q (some (.int z9)) x m := by rw [hΦ]; intro z9 h; cases h; exact hq
  have h9 : Φ0 (f_X7_mostOf x p1) := by rw [hΦ]; exact hf
  clear hf hq hΦ
  unfold f_X7_mostOf at h9
  refine e_iconst (v := 0) dX7_mostOf_0 rfl ?_
  refine e_istore_n (L' := [some (.ref (ad 8 p1)), some (.int 0), none]) dX7_mostOf_1 rfl (by decide) rfl ?_
  refine e_iconst (v := 0) dX7_mostOf_2 rfl ?_
  refine e_istore_n (L' := [some (.ref (ad 8 p1)), some (.int 0), some (.int 0)]) dX7_mostOf_3 rfl (by decide) rfl ?_
  refine loop_gen (b_X7_mostOf_4 x p1) none (fun v1 => EX g (d + 1) MX7_mostOf ad x m 4 [some (.ref (ad 8 p1)), some (.int v1.1), some (.int v1.2)] [] Q) Φ0 hN0 (fun v1 Φ1 hB0_1 hO1 h9 => ?_) (0, 0) h9
  have hN1 := fun h => hN0 (hO1 _ h)
  have hR1 := fun r9 h => hR0 r9 (hO1 _ h)
  have hB0_1 : ∀ (z0 : Int32) (z1 : Int32), Φ1 (Sum.inl (z0, z1)) → EX g (d + 1) MX7_mostOf ad x m 4 [some (.ref (ad 8 p1)), some (.int z0), some (.int z1)] [] Q := fun z0 z1 h => hB0_1 (z0, z1) h
  unfold b_X7_mostOf_4 at h9
  refine e_iload_n dX7_mostOf_4 rfl rfl ?_
  refine e_aload_n dX7_mostOf_5 rfl rfl ?_
  obtain ⟨k2, h9⟩ := chkP hN1 h9
  refine g_805 flX7_50 dX7_mostOf_6 k2 ?_
  refine e_icmp_ge (tgt := 28) dX7_mostOf_9 rfl (fun hc3 => ?_) (fun hc3 => ?_)
  · replace h9 := ifT hc3 h9
    refine e_iload_n dX7_mostOf_28 rfl rfl ?_
    exact x_iret dX7_mostOf_29 rfl (hR1 _ h9)
  · replace h9 := ifF hc3 h9
    refine e_iload_n dX7_mostOf_12 rfl rfl ?_
    refine e_aload_n dX7_mostOf_13 rfl rfl ?_
    refine e_iload_n dX7_mostOf_14 rfl rfl ?_
    obtain ⟨r4, hr4, h9⟩ := elimP hN1 h9
    refine x_callSi (As := [.ref (ad 8 p1), .int v1.2]) (rest := [.int v1.1]) okX7_valueOf lkX7_53 dX7_mostOf_15 rfl rfl (Nat.le_of_ble_eq_true rfl) (c_X7_valueOf p1 v1.2 hr4 (CI.mk ?_))
    refine e_mmax mmX7_57 dX7_mostOf_18 (Nat.le_of_ble_eq_true rfl) ?_
    refine e_istore_n (L' := [some (.ref (ad 8 p1)), some (.int (if v1.1 < r4 then r4 else v1.1)), some (.int v1.2)]) dX7_mostOf_21 rfl (by decide) rfl ?_
    refine e_iinc (v := (v1.2 + 1)) (L' := [some (.ref (ad 8 p1)), some (.int (if v1.1 < r4 then r4 else v1.1)), some (.int (v1.2 + 1))]) dX7_mostOf_22 rfl rfl (by decide) rfl ?_
    refine e_goto (tgt := 4) dX7_mostOf_25 rfl ?_
    exact hB0_1 _ _ h9
noncomputable def j_X7_search_95 (rec9 : VM → Nat → Int32 → Int32 → Int32 → Int32 → Option VM) (x : VM) (p1 : Nat) (p2 : Int32) (p3 : Int32) (p4 : Int32) (p5 : Int32) (v7 : Int32 × VM) (a13 : Int32) : (Int32 × VM) ⊕ (Option (VM)) := if inb v7.1 4 = true then if a13 = 0 then Sum.inl (v7.1 + 1, v7.2) else if (v7.2.1 702 0) < (p4 + (v7.2.2.1 806 (8 * p1 + p2.toNatClampNeg) v7.1.toNatClampNeg)) then Sum.inl (v7.1 + 1, v7.2) else if inb p2 8 = true then if inb v7.1 4 = true then (f_X7_valueOf (setA v7.2 700 0 (upd (v7.2.2.1 700 0) p2.toNatClampNeg v7.1)) (8 * p1 + p2.toNatClampNeg) v7.1).elim (Sum.inr none) (fun r19 => (rec9 (setA v7.2 700 0 (upd (v7.2.2.1 700 0) p2.toNatClampNeg v7.1)) p1 (p2 + 1) (((setA v7.2 700 0 (upd (v7.2.2.1 700 0) p2.toNatClampNeg v7.1)).2.1 808 (8 * p1 + p2.toNatClampNeg) v7.1.toNatClampNeg) - ((setA v7.2 700 0 (upd (v7.2.2.1 700 0) p2.toNatClampNeg v7.1)).2.1 808 (8 * p1 + p2.toNatClampNeg) v7.1.toNatClampNeg) / 10 * 10) (p4 + (v7.2.2.1 806 (8 * p1 + p2.toNatClampNeg) v7.1.toNatClampNeg)) (p5 + r19)).elim (Sum.inr none) (fun r20 => Sum.inl (v7.1 + 1, r20))) else Sum.inr none else Sum.inr none else Sum.inr none
noncomputable def j_X7_search_90 (rec9 : VM → Nat → Int32 → Int32 → Int32 → Int32 → Option VM) (x : VM) (p1 : Nat) (p2 : Int32) (p3 : Int32) (p4 : Int32) (p5 : Int32) (v7 : Int32 × VM) : (Int32 × VM) ⊕ (Option (VM)) := j_X7_search_95 rec9 x p1 p2 p3 p4 p5 v7 1
noncomputable def b_X7_search_60 (rec9 : VM → Nat → Int32 → Int32 → Int32 → Int32 → Option VM) (x : VM) (p1 : Nat) (p2 : Int32) (p3 : Int32) (p4 : Int32) (p5 : Int32) (v7 : Int32 × VM) : (Int32 × VM) ⊕ (Option (VM)) := if (8 * p1 + p2.toNatClampNeg) / 8 < v7.2.2.2.2 5 ∧ (8 * p1 + p2.toNatClampNeg) % 8 < v7.2.2.2.2 (20 + (8 * p1 + p2.toNatClampNeg) / 8) then if (v7.2.1 805 (8 * p1 + p2.toNatClampNeg)) ≤ v7.1 then if inb p2 8 = true then (rec9 (setA v7.2 700 0 (upd (v7.2.2.1 700 0) p2.toNatClampNeg (-1))) p1 (p2 + 1) p3 p4 p5).elim (Sum.inr none) (fun r11 => Sum.inr (some r11)) else Sum.inr none else if p3 = (-1) then j_X7_search_90 rec9 x p1 p2 p3 p4 p5 v7 else if inb v7.1 4 = true then if ((v7.2.2.1 808 (8 * p1 + p2.toNatClampNeg) v7.1.toNatClampNeg) / 10) = p3 then j_X7_search_90 rec9 x p1 p2 p3 p4 p5 v7 else j_X7_search_95 rec9 x p1 p2 p3 p4 p5 v7 0 else Sum.inr none else Sum.inr none
noncomputable def fb_X7_search (rec9 : VM → Nat → Int32 → Int32 → Int32 → Int32 → Option VM) (x : VM) (p1 : Nat) (p2 : Int32) (p3 : Int32) (p4 : Int32) (p5 : Int32) : Option (VM) := if inb p2 9 = true then if (x.1 703 0) < (p5 + (x.2.1 701 0 p2.toNatClampNeg)) then if p1 < x.2.2.2 5 then if p2 < (x.1 502 p1) then if inb p2 8 = true then if p2.toNatClampNeg < x.2.2.2 (20 + p1) then loopF none (b_X7_search_60 rec9 x p1 p2 p3 p4 p5) (0, x) else none else none else if spn 0 ((setI x 703 0 p5).1 502 p1) 8 = true then if spn 0 ((setI x 703 0 p5).1 502 p1) 8 = true then some (setA (setI x 703 0 p5) 513 p1 (va_cpy ((setI x 703 0 p5).2.1 700 0) ((setI x 703 0 p5).2.1 513 p1) (0 : Int32).toNatClampNeg (0 : Int32).toNatClampNeg ((setI x 703 0 p5).1 502 p1).toNatClampNeg)) else none else none else none else some x else none
noncomputable def f_X7_search : Nat → VM → Nat → Int32 → Int32 → Int32 → Int32 → Option VM
  | 0 => fun _ _ _ _ _ _ => none
  | n + 1 => fb_X7_search (f_X7_search n)
theorem cr_X7_search {g : GG} {ad : AD} : ∀ (n d : Nat) {x m : VM} {Q : Option Value → VM → VM → Prop} (p1 : Nat) (p2 : Int32) (p3 : Int32) (p4 : Int32) (p5 : Int32) {w9 : VM}, f_X7_search n x p1 p2 p3 p4 p5 = some w9 → Q none w9 m → CX g (d + n + 1) MX7_search [.ref (ad 7 0), .ref (ad 5 p1), .int p2, .int p3, .int p4, .int p5] ad x m Q := by
  intro n
  induction n with
  | zero => intro d x m Q  p1 p2 p3 p4 p5 w9 hf hq; cases hf
  | succ n ih =>
  intro d x m Q  p1 p2 p3 p4 p5 w9 hf hq
  have ihr : ∀ {x m : VM} {Q : Option Value → VM → VM → Prop} (p1 : Nat) (p2 : Int32) (p3 : Int32) (p4 : Int32) (p5 : Int32) {w9 : VM}, f_X7_search n x p1 p2 p3 p4 p5 = some w9 → Q none w9 m → CX g (d + (n + 1) + 0) MX7_search [.ref (ad 7 0), .ref (ad 5 p1), .int p2, .int p3, .int p4, .int p5] ad x m Q := @fun x m Q  p1 p2 p3 p4 p5 w9 h1 h2 => by have := ih d  p1 p2 p3 p4 p5 h1 h2; rwa [show d + n + 1 = d + (n + 1) + 0 by omega] at this
  change fb_X7_search (f_X7_search n) x p1 p2 p3 p4 p5 = some w9 at hf
  obtain ⟨rec9, hrec⟩ : ∃ z, z = f_X7_search n := ⟨_, rfl⟩
  rw [← hrec] at hf ihr
  clear hrec ih
  refine CX.to (Lv := [some (.ref (ad 7 0)), some (.ref (ad 5 p1)), some (.int p2), some (.int p3), some (.int p4), some (.int p5), none, none, none, none]) okX7_search (Nat.le_of_ble_eq_true rfl) rfl ?_
  obtain ⟨Φ0, hΦ⟩ : ∃ Φ : Option (VM) → Prop, Φ = fun o => o = some w9 := ⟨_, rfl⟩
  have hN0 : Φ0 none → False := by rw [hΦ]; intro h; cases h
  have hR0 : ∀ z9, Φ0 (some z9) → Q none z9 m := by rw [hΦ]; intro z9 h; cases h; exact hq
  have h9 : Φ0 (fb_X7_search rec9 x p1 p2 p3 p4 p5) := by rw [hΦ]; exact hf
  clear hf hq hΦ
  unfold fb_X7_search at h9
  refine e_iload dX7_search_0 rfl ?_
  refine e_aload_n dX7_search_2 rfl rfl ?_
  refine g_701 flX7_15 dX7_search_3 ?_
  refine e_iload_n dX7_search_6 rfl rfl ?_
  obtain ⟨k1, h9⟩ := chkP hN0 h9
  refine l_701 dX7_search_7 (inb_in k1) ?_
  refine e_iadd dX7_search_8 ?_
  refine e_aload_n dX7_search_9 rfl rfl ?_
  refine g_703 flX7_22 dX7_search_10 ?_
  refine e_pc (pc' := 13) rfl ?_
  refine e_icmp_gt (tgt := 17) dX7_search_13 rfl (fun hc2 => ?_) (fun hc2 => ?_)
  · replace h9 := ifT hc2 h9
    refine e_iload_n dX7_search_17 rfl rfl ?_
    refine e_aload_n dX7_search_18 rfl rfl ?_
    obtain ⟨k3, h9⟩ := chkP hN0 h9
    refine g_502 flX7_25 dX7_search_19 k3 ?_
    refine e_icmp_lt (tgt := 49) dX7_search_22 rfl (fun hc4 => ?_) (fun hc4 => ?_)
    · replace h9 := ifT hc4 h9
      refine e_aload_n dX7_search_49 rfl rfl ?_
      refine g_501 flX7_30 dX7_search_50 k3 ?_
      refine e_iload_n dX7_search_53 rfl rfl ?_
      obtain ⟨k5, h9⟩ := chkP hN0 h9
      refine l_501 dX7_search_54 k3 (inb_in k5) ?_
      obtain ⟨k6, h9⟩ := chkP hN0 h9
      refine e_top (v := .ref (ad 8 (8 * p1 + p2.toNatClampNeg))) (rfT k6) ?_
      refine e_astore (L' := [some (.ref (ad 7 0)), some (.ref (ad 5 p1)), some (.int p2), some (.int p3), some (.int p4), some (.int p5), some (.ref (ad 8 (8 * p1 + p2.toNatClampNeg))), none, none, none]) dX7_search_55 (by decide) rfl ?_
      refine e_iconst (v := 0) dX7_search_57 rfl ?_
      refine e_istore (L' := [some (.ref (ad 7 0)), some (.ref (ad 5 p1)), some (.int p2), some (.int p3), some (.int p4), some (.int p5), some (.ref (ad 8 (8 * p1 + p2.toNatClampNeg))), some (.int 0), none, none]) dX7_search_58 (by decide) rfl ?_
      refine loop_gen (b_X7_search_60 rec9 x p1 p2 p3 p4 p5) none (fun v7 => EX g (d + (n + 1) + 1) MX7_search ad v7.2 m 60 [some (.ref (ad 7 0)), some (.ref (ad 5 p1)), some (.int p2), some (.int p3), some (.int p4), some (.int p5), some (.ref (ad 8 (8 * p1 + p2.toNatClampNeg))), some (.int v7.1), none, none] [] Q) Φ0 hN0 (fun v7 Φ1 hB0_1 hO1 h9 => ?_) (0, x) h9
      have hN1 := fun h => hN0 (hO1 _ h)
      have hR1 := fun r9 h => hR0 r9 (hO1 _ h)
      have hB0_1 : ∀ (z0 : Int32) (z1 : VM), Φ1 (Sum.inl (z0, z1)) → EX g (d + (n + 1) + 1) MX7_search ad z1 m 60 [some (.ref (ad 7 0)), some (.ref (ad 5 p1)), some (.int p2), some (.int p3), some (.int p4), some (.int p5), some (.ref (ad 8 (8 * p1 + p2.toNatClampNeg))), some (.int z0), none, none] [] Q := fun z0 z1 h => hB0_1 (z0, z1) h
      unfold b_X7_search_60 at h9
      refine e_iload dX7_search_60 rfl ?_
      refine e_aload dX7_search_62 rfl ?_
      obtain ⟨k8, h9⟩ := chkP hN1 h9
      refine g_805 flX7_50 dX7_search_64 k8 ?_
      refine e_icmp_ge (tgt := 169) dX7_search_67 rfl (fun hc9 => ?_) (fun hc9 => ?_)
      · replace h9 := ifT hc9 h9
        refine e_aload_n dX7_search_169 rfl rfl ?_
        refine g_700 flX7_9 dX7_search_170 ?_
        refine e_iload_n dX7_search_173 rfl rfl ?_
        refine e_iconst (v := (-1)) dX7_search_174 rfl ?_
        obtain ⟨k10, h9⟩ := chkP hN1 h9
        refine s_700 dX7_search_175 (inb_in k10) ?_
        refine e_aload_n dX7_search_176 rfl rfl ?_
        refine e_aload_n dX7_search_177 rfl rfl ?_
        refine e_iload_n dX7_search_178 rfl rfl ?_
        refine e_pc (pc' := 179) rfl ?_
        refine e_iconst (v := 1) dX7_search_179 rfl ?_
        refine e_iadd dX7_search_180 ?_
        refine e_iload_n dX7_search_181 rfl rfl ?_
        refine e_iload dX7_search_182 rfl ?_
        refine e_iload dX7_search_184 rfl ?_
        obtain ⟨r11, hr11, h9⟩ := elimP hN1 h9
        refine x_callVv (c := 7) (As := [.ref (ad 5 p1), .int (p2 + 1), .int p3, .int p4, .int p5]) (rest := []) okX7_search lkX7_38 rfl (by decide) rfl dX7_search_186 rfl rfl (Nat.le_of_ble_eq_true rfl) rfl (ihr p1 (p2 + 1) p3 p4 p5 hr11 (CV.mk ?_))
        exact x_vret dX7_search_189 rfl (hR1 _ h9)
      · replace h9 := ifF hc9 h9
        refine e_iload_n dX7_search_70 rfl rfl ?_
        refine e_iconst (v := (-1)) dX7_search_71 rfl ?_
        have hj95 : ∀ (a13 : Int32), Φ1 (j_X7_search_95 rec9 x p1 p2 p3 p4 p5 v7 a13) → EX g (d + (n + 1) + 1) MX7_search ad v7.2 m 95 [some (.ref (ad 7 0)), some (.ref (ad 5 p1)), some (.int p2), some (.int p3), some (.int p4), some (.int p5), some (.ref (ad 8 (8 * p1 + p2.toNatClampNeg))), some (.int v7.1), none, none] [.int a13] Q := by
          intro a13 h9
          unfold j_X7_search_95 at h9
          refine e_istore (L' := [some (.ref (ad 7 0)), some (.ref (ad 5 p1)), some (.int p2), some (.int p3), some (.int p4), some (.int p5), some (.ref (ad 8 (8 * p1 + p2.toNatClampNeg))), some (.int v7.1), some (.int a13), none]) dX7_search_95 (by decide) rfl ?_
          refine e_iload dX7_search_97 rfl ?_
          refine e_aload dX7_search_99 rfl ?_
          refine g_806 flX7_47 dX7_search_101 k8 ?_
          refine e_iload dX7_search_104 rfl ?_
          obtain ⟨k14, h9⟩ := chkP hN1 h9
          refine l_806 dX7_search_106 k8 (inb_in k14) ?_
          refine e_iadd dX7_search_107 ?_
          refine e_istore (L' := [some (.ref (ad 7 0)), some (.ref (ad 5 p1)), some (.int p2), some (.int p3), some (.int p4), some (.int p5), some (.ref (ad 8 (8 * p1 + p2.toNatClampNeg))), some (.int v7.1), some (.int a13), some (.int (p4 + (v7.2.2.1 806 (8 * p1 + p2.toNatClampNeg) v7.1.toNatClampNeg)))]) dX7_search_108 (by decide) rfl ?_
          refine e_pc (pc' := 110) rfl ?_
          refine e_iload dX7_search_110 rfl ?_
          refine e_if_eq (tgt := 163) dX7_search_112 rfl (fun hc15 => ?_) (fun hc15 => ?_)
          · replace h9 := ifT hc15 h9
            refine e_iinc (v := (v7.1 + 1)) (L' := [some (.ref (ad 7 0)), some (.ref (ad 5 p1)), some (.int p2), some (.int p3), some (.int p4), some (.int p5), some (.ref (ad 8 (8 * p1 + p2.toNatClampNeg))), some (.int (v7.1 + 1)), some (.int a13), some (.int (p4 + (v7.2.2.1 806 (8 * p1 + p2.toNatClampNeg) v7.1.toNatClampNeg)))]) dX7_search_163 rfl rfl (by decide) rfl ?_
            refine e_goto (tgt := 60) dX7_search_166 rfl ?_
            refine e_wk (L' := [some (.ref (ad 7 0)), some (.ref (ad 5 p1)), some (.int p2), some (.int p3), some (.int p4), some (.int p5), some (.ref (ad 8 (8 * p1 + p2.toNatClampNeg))), some (.int (v7.1 + 1)), none, none]) (wkC (wkC (wkC (wkC (wkC (wkC (wkC (wkC (wkN (wkN wk0)))))))))) ?_
            exact hB0_1 _ _ h9
          · replace h9 := ifF hc15 h9
            refine e_iload dX7_search_115 rfl ?_
            refine e_aload_n dX7_search_117 rfl rfl ?_
            refine g_702 flX7_18 dX7_search_118 ?_
            refine e_icmp_gt (tgt := 163) dX7_search_121 rfl (fun hc16 => ?_) (fun hc16 => ?_)
            · replace h9 := ifT hc16 h9
              refine e_iinc (v := (v7.1 + 1)) (L' := [some (.ref (ad 7 0)), some (.ref (ad 5 p1)), some (.int p2), some (.int p3), some (.int p4), some (.int p5), some (.ref (ad 8 (8 * p1 + p2.toNatClampNeg))), some (.int (v7.1 + 1)), some (.int a13), some (.int (p4 + (v7.2.2.1 806 (8 * p1 + p2.toNatClampNeg) v7.1.toNatClampNeg)))]) dX7_search_163 rfl rfl (by decide) rfl ?_
              refine e_goto (tgt := 60) dX7_search_166 rfl ?_
              refine e_wk (L' := [some (.ref (ad 7 0)), some (.ref (ad 5 p1)), some (.int p2), some (.int p3), some (.int p4), some (.int p5), some (.ref (ad 8 (8 * p1 + p2.toNatClampNeg))), some (.int (v7.1 + 1)), none, none]) (wkC (wkC (wkC (wkC (wkC (wkC (wkC (wkC (wkN (wkN wk0)))))))))) ?_
              exact hB0_1 _ _ h9
            · replace h9 := ifF hc16 h9
              refine e_aload_n dX7_search_124 rfl rfl ?_
              refine g_700 flX7_9 dX7_search_125 ?_
              refine e_iload_n dX7_search_128 rfl rfl ?_
              refine e_iload dX7_search_129 rfl ?_
              obtain ⟨k17, h9⟩ := chkP hN1 h9
              refine s_700 dX7_search_131 (inb_in k17) ?_
              refine e_aload_n dX7_search_132 rfl rfl ?_
              refine e_aload_n dX7_search_133 rfl rfl ?_
              refine e_iload_n dX7_search_134 rfl rfl ?_
              refine e_pc (pc' := 135) rfl ?_
              refine e_iconst (v := 1) dX7_search_135 rfl ?_
              refine e_iadd dX7_search_136 ?_
              refine e_aload dX7_search_137 rfl ?_
              refine g_808 flX7_72 dX7_search_139 k8 ?_
              refine e_iload dX7_search_142 rfl ?_
              obtain ⟨k18, h9⟩ := chkP hN1 h9
              refine l_808 dX7_search_144 k8 (inb_in k18) ?_
              refine e_bipush (v := 10) dX7_search_145 rfl ?_
              refine e_irem dX7_search_147 (by decide) ?_
              refine e_iload dX7_search_148 rfl ?_
              refine e_pc (pc' := 150) rfl ?_
              refine e_iload dX7_search_150 rfl ?_
              refine e_aload dX7_search_152 rfl ?_
              refine e_iload dX7_search_154 rfl ?_
              obtain ⟨r19, hr19, h9⟩ := elimP hN1 h9
              refine x_callSi (As := [.ref (ad 8 (8 * p1 + p2.toNatClampNeg)), .int v7.1]) (rest := [.int p5, .int (p4 + (v7.2.2.1 806 (8 * p1 + p2.toNatClampNeg) v7.1.toNatClampNeg)), .int (((setA v7.2 700 0 (upd (v7.2.2.1 700 0) p2.toNatClampNeg v7.1)).2.1 808 (8 * p1 + p2.toNatClampNeg) v7.1.toNatClampNeg) - ((setA v7.2 700 0 (upd (v7.2.2.1 700 0) p2.toNatClampNeg v7.1)).2.1 808 (8 * p1 + p2.toNatClampNeg) v7.1.toNatClampNeg) / 10 * 10), .int (p2 + 1), .ref (ad 5 p1), .ref (ad 7 0)]) okX7_valueOf lkX7_53 dX7_search_156 rfl rfl (Nat.le_of_ble_eq_true rfl) (c_X7_valueOf (8 * p1 + p2.toNatClampNeg) v7.1 hr19 (CI.mk ?_))
              refine e_iadd dX7_search_159 ?_
              obtain ⟨r20, hr20, h9⟩ := elimP hN1 h9
              refine x_callVv (c := 7) (As := [.ref (ad 5 p1), .int (p2 + 1), .int (((setA v7.2 700 0 (upd (v7.2.2.1 700 0) p2.toNatClampNeg v7.1)).2.1 808 (8 * p1 + p2.toNatClampNeg) v7.1.toNatClampNeg) - ((setA v7.2 700 0 (upd (v7.2.2.1 700 0) p2.toNatClampNeg v7.1)).2.1 808 (8 * p1 + p2.toNatClampNeg) v7.1.toNatClampNeg) / 10 * 10), .int (p4 + (v7.2.2.1 806 (8 * p1 + p2.toNatClampNeg) v7.1.toNatClampNeg)), .int (p5 + r19)]) (rest := []) okX7_search lkX7_38 rfl (by decide) rfl dX7_search_160 rfl rfl (Nat.le_of_ble_eq_true rfl) rfl (ihr p1 (p2 + 1) (((setA v7.2 700 0 (upd (v7.2.2.1 700 0) p2.toNatClampNeg v7.1)).2.1 808 (8 * p1 + p2.toNatClampNeg) v7.1.toNatClampNeg) - ((setA v7.2 700 0 (upd (v7.2.2.1 700 0) p2.toNatClampNeg v7.1)).2.1 808 (8 * p1 + p2.toNatClampNeg) v7.1.toNatClampNeg) / 10 * 10) (p4 + (v7.2.2.1 806 (8 * p1 + p2.toNatClampNeg) v7.1.toNatClampNeg)) (p5 + r19) hr20 (CV.mk ?_))
              refine e_iinc (v := (v7.1 + 1)) (L' := [some (.ref (ad 7 0)), some (.ref (ad 5 p1)), some (.int p2), some (.int p3), some (.int p4), some (.int p5), some (.ref (ad 8 (8 * p1 + p2.toNatClampNeg))), some (.int (v7.1 + 1)), some (.int a13), some (.int (p4 + (v7.2.2.1 806 (8 * p1 + p2.toNatClampNeg) v7.1.toNatClampNeg)))]) dX7_search_163 rfl rfl (by decide) rfl ?_
              refine e_goto (tgt := 60) dX7_search_166 rfl ?_
              refine e_wk (L' := [some (.ref (ad 7 0)), some (.ref (ad 5 p1)), some (.int p2), some (.int p3), some (.int p4), some (.int p5), some (.ref (ad 8 (8 * p1 + p2.toNatClampNeg))), some (.int (v7.1 + 1)), none, none]) (wkC (wkC (wkC (wkC (wkC (wkC (wkC (wkC (wkN (wkN wk0)))))))))) ?_
              exact hB0_1 _ _ h9
        have hj90 : Φ1 (j_X7_search_90 rec9 x p1 p2 p3 p4 p5 v7) → EX g (d + (n + 1) + 1) MX7_search ad v7.2 m 90 [some (.ref (ad 7 0)), some (.ref (ad 5 p1)), some (.int p2), some (.int p3), some (.int p4), some (.int p5), some (.ref (ad 8 (8 * p1 + p2.toNatClampNeg))), some (.int v7.1), none, none] [] Q := by
          intro h9
          unfold j_X7_search_90 at h9
          refine e_iconst (v := 1) dX7_search_90 rfl ?_
          refine e_goto (tgt := 95) dX7_search_91 rfl ?_
          exact hj95 1 h9
        refine e_icmp_eq (tgt := 90) dX7_search_72 rfl (fun hc22 => ?_) (fun hc22 => ?_)
        · replace h9 := ifT hc22 h9
          exact hj90 h9
        · replace h9 := ifF hc22 h9
          refine e_aload dX7_search_75 rfl ?_
          refine g_808 flX7_72 dX7_search_77 k8 ?_
          refine e_iload dX7_search_80 rfl ?_
          obtain ⟨k23, h9⟩ := chkP hN1 h9
          refine l_808 dX7_search_82 k8 (inb_in k23) ?_
          refine e_bipush (v := 10) dX7_search_83 rfl ?_
          refine e_idiv dX7_search_85 (by decide) ?_
          refine e_iload_n dX7_search_86 rfl rfl ?_
          refine e_icmp_ne (tgt := 94) dX7_search_87 rfl (fun hc24 => ?_) (fun hc24 => ?_)
          · replace h9 := ifF hc24 h9
            refine e_iconst (v := 0) dX7_search_94 rfl ?_
            exact hj95 0 h9
          · replace h9 := ifT hc24 h9
            exact hj90 h9
    · replace h9 := ifF hc4 h9
      refine e_aload_n dX7_search_25 rfl rfl ?_
      refine e_iload dX7_search_26 rfl ?_
      refine p_703 flX7_22 dX7_search_28 ?_
      refine e_aload_n dX7_search_31 rfl rfl ?_
      refine g_700 flX7_9 dX7_search_32 ?_
      refine e_iconst (v := 0) dX7_search_35 rfl ?_
      refine e_aload_n dX7_search_36 rfl rfl ?_
      refine g_513 flX7_63 dX7_search_37 k3 ?_
      refine e_pc (pc' := 40) rfl ?_
      refine e_iconst (v := 0) dX7_search_40 rfl ?_
      refine e_aload_n dX7_search_41 rfl rfl ?_
      refine g_502 flX7_25 dX7_search_42 k3 ?_
      obtain ⟨k25, h9⟩ := chkP hN0 h9
      obtain ⟨k26, h9⟩ := chkP hN0 h9
      refine x_cpi (c := 5) (k := 13) (c0 := 7) (k0 := 0) (by decide) (by decide) rfl rfl rfl rfl rfl rfl rfl rfl acX7_66 dX7_search_45 (Nat.le_of_ble_eq_true rfl) k3 rfl (spn_all k25).1 (spn_all k26).1 (spn_all k25).2.1 (spn_all k25).2.2 (spn_all k26).2.2 ?_
      exact x_vret dX7_search_48 rfl (hR0 _ h9)
  · replace h9 := ifF hc2 h9
    exact x_vret dX7_search_16 rfl (hR0 _ h9)
theorem c_X7_search {g : GG} {d : Nat} {ad : AD} {x m : VM} {Q : Option Value → VM → VM → Prop} (p1 : Nat) (p2 : Int32) (p3 : Int32) (p4 : Int32) (p5 : Int32) {w9 : VM} (hf : f_X7_search 12 x p1 p2 p3 p4 p5 = some w9) (hq : Q none w9 m) : CX g (d + 13) MX7_search [.ref (ad 7 0), .ref (ad 5 p1), .int p2, .int p3, .int p4, .int p5] ad x m Q := by
  have := cr_X7_search (g := g) (ad := ad) 12 d p1 p2 p3 p4 p5 hf hq; rwa [show d + 12 + 1 = d + 13 by omega] at this
noncomputable def b_X7_findBest_27 (x : VM) (p1 : Nat) (p2 : Int32) (v3 : Int32 × VM) : (Int32 × VM) ⊕ (Option (Int32 × VM)) := if v3.1 < 0 then (f_X7_search 12 v3.2 p1 0 (-1) 0 0).elim (Sum.inr none) (fun r5 => Sum.inr (some ((((r5.1 703 0) + 1000) - 1) / 1000, r5))) else if inb (v3.1 + 1) 9 = true then if p1 < v3.2.2.2.2 5 then if inb v3.1 8 = true then if v3.1.toNatClampNeg < v3.2.2.2.2 (20 + p1) then (f_X7_mostOf v3.2 (8 * p1 + v3.1.toNatClampNeg)).elim (Sum.inr none) (fun r11 => if inb v3.1 9 = true then Sum.inl (v3.1 + (-1), setA v3.2 701 0 (upd (v3.2.2.1 701 0) v3.1.toNatClampNeg ((v3.2.2.1 701 0 ((v3.1 + 1).toNatClampNeg)) + r11))) else Sum.inr none) else Sum.inr none else Sum.inr none else Sum.inr none else Sum.inr none
noncomputable def f_X7_findBest (x : VM) (p1 : Nat) (p2 : Int32) : Option (Int32 × VM) := if p1 < x.2.2.2 5 then if inb ((setI (setI x 702 0 p2) 703 0 (-1)).1 502 p1) 9 = true then loopF none (b_X7_findBest_27 x p1 p2) (((setA (setI (setI x 702 0 p2) 703 0 (-1)) 701 0 (upd ((setI (setI x 702 0 p2) 703 0 (-1)).2.1 701 0) (((setI (setI x 702 0 p2) 703 0 (-1)).1 502 p1).toNatClampNeg) 0)).1 502 p1) - 1, setA (setI (setI x 702 0 p2) 703 0 (-1)) 701 0 (upd ((setI (setI x 702 0 p2) 703 0 (-1)).2.1 701 0) (((setI (setI x 702 0 p2) 703 0 (-1)).1 502 p1).toNatClampNeg) 0)) else none else none
theorem c_X7_findBest {g : GG} {d : Nat} {ad : AD} {x m : VM} {Q : Option Value → VM → VM → Prop} (p1 : Nat) (p2 : Int32) {r9 : Int32} {w9 : VM} (hf : f_X7_findBest x p1 p2 = some (r9, w9)) (hq : Q (some (.int r9)) w9 m) : CX g (d + 14) MX7_findBest [.ref (ad 7 0), .ref (ad 5 p1), .int p2] ad x m Q := by
  refine CX.to (Lv := [some (.ref (ad 7 0)), some (.ref (ad 5 p1)), some (.int p2), none]) okX7_findBest (Nat.le_of_ble_eq_true rfl) rfl ?_
  obtain ⟨Φ0, hΦ⟩ : ∃ Φ : Option (Int32 × VM) → Prop, Φ = fun o => o = some (r9, w9) := ⟨_, rfl⟩
  have hN0 : Φ0 none → False := by rw [hΦ]; intro h; cases h
  have hR0 : ∀ z9 y9, Φ0 (some (z9, y9)) → Q (some (.int z9)) y9 m := by rw [hΦ]; intro z9 y9 h; cases h; exact hq
  have h9 : Φ0 (f_X7_findBest x p1 p2) := by rw [hΦ]; exact hf
  clear hf hq hΦ
  unfold f_X7_findBest at h9
  refine e_aload_n dX7_findBest_0 rfl rfl ?_
  refine e_iload_n dX7_findBest_1 rfl rfl ?_
  refine p_702 flX7_18 dX7_findBest_2 ?_
  refine e_aload_n dX7_findBest_5 rfl rfl ?_
  refine e_iconst (v := (-1)) dX7_findBest_6 rfl ?_
  refine p_703 flX7_22 dX7_findBest_7 ?_
  refine e_aload_n dX7_findBest_10 rfl rfl ?_
  refine g_701 flX7_15 dX7_findBest_11 ?_
  refine e_pc (pc' := 14) rfl ?_
  refine e_aload_n dX7_findBest_14 rfl rfl ?_
  obtain ⟨k1, h9⟩ := chkP hN0 h9
  refine g_502 flX7_25 dX7_findBest_15 k1 ?_
  refine e_iconst (v := 0) dX7_findBest_18 rfl ?_
  obtain ⟨k2, h9⟩ := chkP hN0 h9
  refine s_701 dX7_findBest_19 (inb_in k2) ?_
  refine e_aload_n dX7_findBest_20 rfl rfl ?_
  refine g_502 flX7_25 dX7_findBest_21 k1 ?_
  refine e_iconst (v := 1) dX7_findBest_24 rfl ?_
  refine e_isub dX7_findBest_25 ?_
  refine e_istore_n (L' := [some (.ref (ad 7 0)), some (.ref (ad 5 p1)), some (.int p2), some (.int (((setA (setI (setI x 702 0 p2) 703 0 (-1)) 701 0 (upd ((setI (setI x 702 0 p2) 703 0 (-1)).2.1 701 0) (((setI (setI x 702 0 p2) 703 0 (-1)).1 502 p1).toNatClampNeg) 0)).1 502 p1) - 1))]) dX7_findBest_26 rfl (by decide) rfl ?_
  refine e_wk (L' := [some (.ref (ad 7 0)), some (.ref (ad 5 p1)), none, some (.int (((setA (setI (setI x 702 0 p2) 703 0 (-1)) 701 0 (upd ((setI (setI x 702 0 p2) 703 0 (-1)).2.1 701 0) (((setI (setI x 702 0 p2) 703 0 (-1)).1 502 p1).toNatClampNeg) 0)).1 502 p1) - 1))]) (wkC (wkC (wkN (wkC wk0)))) ?_
  refine loop_gen (b_X7_findBest_27 x p1 p2) none (fun v3 => EX g (d + 14) MX7_findBest ad v3.2 m 27 [some (.ref (ad 7 0)), some (.ref (ad 5 p1)), none, some (.int v3.1)] [] Q) Φ0 hN0 (fun v3 Φ1 hB0_1 hO1 h9 => ?_) (((setA (setI (setI x 702 0 p2) 703 0 (-1)) 701 0 (upd ((setI (setI x 702 0 p2) 703 0 (-1)).2.1 701 0) (((setI (setI x 702 0 p2) 703 0 (-1)).1 502 p1).toNatClampNeg) 0)).1 502 p1) - 1, setA (setI (setI x 702 0 p2) 703 0 (-1)) 701 0 (upd ((setI (setI x 702 0 p2) 703 0 (-1)).2.1 701 0) (((setI (setI x 702 0 p2) 703 0 (-1)).1 502 p1).toNatClampNeg) 0)) h9
  have hN1 := fun h => hN0 (hO1 _ h)
  have hR1 := fun r9 x9 h => hR0 r9 x9 (hO1 _ h)
  have hB0_1 : ∀ (z0 : Int32) (z1 : VM), Φ1 (Sum.inl (z0, z1)) → EX g (d + 14) MX7_findBest ad z1 m 27 [some (.ref (ad 7 0)), some (.ref (ad 5 p1)), none, some (.int z0)] [] Q := fun z0 z1 h => hB0_1 (z0, z1) h
  unfold b_X7_findBest_27 at h9
  refine e_iload_n dX7_findBest_27 rfl rfl ?_
  refine e_if_lt (tgt := 61) dX7_findBest_28 rfl (fun hc4 => ?_) (fun hc4 => ?_)
  · replace h9 := ifT hc4 h9
    refine e_aload_n dX7_findBest_61 rfl rfl ?_
    refine e_aload_n dX7_findBest_62 rfl rfl ?_
    refine e_iconst (v := 0) dX7_findBest_63 rfl ?_
    refine e_iconst (v := (-1)) dX7_findBest_64 rfl ?_
    refine e_iconst (v := 0) dX7_findBest_65 rfl ?_
    refine e_iconst (v := 0) dX7_findBest_66 rfl ?_
    obtain ⟨r5, hr5, h9⟩ := elimP hN1 h9
    refine x_callVv (c := 7) (As := [.ref (ad 5 p1), .int 0, .int (-1), .int 0, .int 0]) (rest := []) okX7_search lkX7_38 rfl (by decide) rfl dX7_findBest_67 rfl rfl (Nat.le_of_ble_eq_true rfl) rfl (c_X7_search p1 0 (-1) 0 0 hr5 (CV.mk ?_))
    refine e_aload_n dX7_findBest_70 rfl rfl ?_
    refine e_pc (pc' := 71) rfl ?_
    refine g_703 flX7_22 dX7_findBest_71 ?_
    refine e_sipush (v := 1000) dX7_findBest_74 rfl ?_
    refine e_iadd dX7_findBest_77 ?_
    refine e_iconst (v := 1) dX7_findBest_78 rfl ?_
    refine e_isub dX7_findBest_79 ?_
    refine e_sipush (v := 1000) dX7_findBest_80 rfl ?_
    refine e_idiv dX7_findBest_83 (by decide) ?_
    exact x_iret dX7_findBest_84 rfl (hR1 _ _ h9)
  · replace h9 := ifF hc4 h9
    refine e_aload_n dX7_findBest_31 rfl rfl ?_
    refine g_701 flX7_15 dX7_findBest_32 ?_
    refine e_iload_n dX7_findBest_35 rfl rfl ?_
    refine e_aload_n dX7_findBest_36 rfl rfl ?_
    refine g_701 flX7_15 dX7_findBest_37 ?_
    refine e_iload_n dX7_findBest_40 rfl rfl ?_
    refine e_iconst (v := 1) dX7_findBest_41 rfl ?_
    refine e_iadd dX7_findBest_42 ?_
    refine e_pc (pc' := 43) rfl ?_
    obtain ⟨k7, h9⟩ := chkP hN1 h9
    refine l_701 dX7_findBest_43 (inb_in k7) ?_
    refine e_aload_n dX7_findBest_44 rfl rfl ?_
    obtain ⟨k8, h9⟩ := chkP hN1 h9
    refine g_501 flX7_30 dX7_findBest_45 k8 ?_
    refine e_iload_n dX7_findBest_48 rfl rfl ?_
    obtain ⟨k9, h9⟩ := chkP hN1 h9
    refine l_501 dX7_findBest_49 k8 (inb_in k9) ?_
    obtain ⟨k10, h9⟩ := chkP hN1 h9
    refine e_top (v := .ref (ad 8 (8 * p1 + v3.1.toNatClampNeg))) (rfT k10) ?_
    obtain ⟨r11, hr11, h9⟩ := elimP hN1 h9
    refine x_callSi (As := [.ref (ad 8 (8 * p1 + v3.1.toNatClampNeg))]) (rest := [.int (v3.2.2.1 701 0 ((v3.1 + 1).toNatClampNeg)), .int v3.1, .ref (ad 1701 0)]) okX7_mostOf lkX7_34 dX7_findBest_50 rfl rfl (Nat.le_of_ble_eq_true rfl) (c_X7_mostOf (8 * p1 + v3.1.toNatClampNeg) hr11 (CI.mk ?_))
    refine e_iadd dX7_findBest_53 ?_
    obtain ⟨k12, h9⟩ := chkP hN1 h9
    refine s_701 dX7_findBest_54 (inb_in k12) ?_
    refine e_iinc (v := (v3.1 + (-1))) (L' := [some (.ref (ad 7 0)), some (.ref (ad 5 p1)), none, some (.int (v3.1 + (-1)))]) dX7_findBest_55 rfl rfl (by decide) rfl ?_
    refine e_pc (pc' := 58) rfl ?_
    refine e_goto (tgt := 27) dX7_findBest_58 rfl ?_
    exact hB0_1 _ _ h9
noncomputable def b_X9_becomeRow_17 (x : VM) (i : Nat) (p1 : Int32) (p2 : Int32) (v2 : Int32 × VM) : (Int32 × VM) ⊕ (Option (VM)) := if 60 ≤ v2.1 then Sum.inr (some v2.2) else if i < 8 then if inb v2.1 60 = true then Sum.inl (v2.1 + 1, setJ v2.2 900 i (vp_updL (v2.2.2.2.1 900 i) v2.1.toNatClampNeg 0)) else Sum.inr none else Sum.inr none
noncomputable def f_X9_becomeRow (x : VM) (i : Nat) (p1 : Int32) (p2 : Int32) : Option (VM) := if i < 8 then loopF none (b_X9_becomeRow_17 x i p1 p2) (0, setI (setI (setI x 901 i p1) 902 i p2) 903 i (-1)) else none
theorem c_X9_becomeRow {g : GG} {d : Nat} {ad : AD} {x m : VM} {Q : Option Value → VM → VM → Prop} (i : Nat) (p1 : Int32) (p2 : Int32) {w9 : VM} (hf : f_X9_becomeRow x i p1 p2 = some w9) (hq : Q none w9 m) : CX g d MX9_becomeRow [.ref (ad 9 i), .int p1, .int p2] ad x m Q := by
  refine CX.to (Lv := [some (.ref (ad 9 i)), some (.int p1), some (.int p2), none]) okX9_becomeRow (Nat.le_of_ble_eq_true rfl) rfl ?_
  obtain ⟨Φ0, hΦ⟩ : ∃ Φ : Option (VM) → Prop, Φ = fun o => o = some w9 := ⟨_, rfl⟩
  have hN0 : Φ0 none → False := by rw [hΦ]; intro h; cases h
  have hR0 : ∀ z9, Φ0 (some z9) → Q none z9 m := by rw [hΦ]; intro z9 h; cases h; exact hq
  have h9 : Φ0 (f_X9_becomeRow x i p1 p2) := by rw [hΦ]; exact hf
  clear hf hq hΦ
  unfold f_X9_becomeRow at h9
  refine e_aload_n dX9_becomeRow_0 rfl rfl ?_
  refine e_iload_n dX9_becomeRow_1 rfl rfl ?_
  obtain ⟨k1, h9⟩ := chkP hN0 h9
  refine p_901 flX9_15 dX9_becomeRow_2 k1 ?_
  refine e_aload_n dX9_becomeRow_5 rfl rfl ?_
  refine e_iload_n dX9_becomeRow_6 rfl rfl ?_
  refine p_902 flX9_19 dX9_becomeRow_7 k1 ?_
  refine e_aload_n dX9_becomeRow_10 rfl rfl ?_
  refine e_iconst (v := (-1)) dX9_becomeRow_11 rfl ?_
  refine e_pc (pc' := 12) rfl ?_
  refine p_903 flX9_22 dX9_becomeRow_12 k1 ?_
  refine e_iconst (v := 0) dX9_becomeRow_15 rfl ?_
  refine e_istore_n (L' := [some (.ref (ad 9 i)), some (.int p1), some (.int p2), some (.int 0)]) dX9_becomeRow_16 rfl (by decide) rfl ?_
  refine e_wk (L' := [some (.ref (ad 9 i)), none, none, some (.int 0)]) (wkC (wkN (wkN (wkC wk0)))) ?_
  refine loop_gen (b_X9_becomeRow_17 x i p1 p2) none (fun v2 => EX g d MX9_becomeRow ad v2.2 m 17 [some (.ref (ad 9 i)), none, none, some (.int v2.1)] [] Q) Φ0 hN0 (fun v2 Φ1 hB0_1 hO1 h9 => ?_) (0, setI (setI (setI x 901 i p1) 902 i p2) 903 i (-1)) h9
  have hN1 := fun h => hN0 (hO1 _ h)
  have hR1 := fun r9 h => hR0 r9 (hO1 _ h)
  have hB0_1 : ∀ (z0 : Int32) (z1 : VM), Φ1 (Sum.inl (z0, z1)) → EX g d MX9_becomeRow ad z1 m 17 [some (.ref (ad 9 i)), none, none, some (.int z0)] [] Q := fun z0 z1 h => hB0_1 (z0, z1) h
  unfold b_X9_becomeRow_17 at h9
  refine e_iload_n dX9_becomeRow_17 rfl rfl ?_
  refine e_bipush (v := 60) dX9_becomeRow_18 rfl ?_
  refine e_icmp_ge (tgt := 36) dX9_becomeRow_20 rfl (fun hc3 => ?_) (fun hc3 => ?_)
  · replace h9 := ifT hc3 h9
    exact x_vret dX9_becomeRow_36 rfl (hR1 _ h9)
  · replace h9 := ifF hc3 h9
    refine e_aload_n dX9_becomeRow_23 rfl rfl ?_
    obtain ⟨k4, h9⟩ := chkP hN1 h9
    refine g_900 flX9_9 dX9_becomeRow_24 k4 ?_
    refine e_iload_n dX9_becomeRow_27 rfl rfl ?_
    refine e_lconst (v := 0) dX9_becomeRow_28 rfl ?_
    obtain ⟨k5, h9⟩ := chkP hN1 h9
    refine s_900 dX9_becomeRow_29 k4 (inb_in k5) ?_
    refine e_iinc (v := (v2.1 + 1)) (L' := [some (.ref (ad 9 i)), none, none, some (.int (v2.1 + 1))]) dX9_becomeRow_30 rfl rfl (by decide) rfl ?_
    refine e_goto (tgt := 17) dX9_becomeRow_33 rfl ?_
    exact hB0_1 _ _ h9
noncomputable def f_X9_becomePicture (x : VM) (i : Nat) (p1 : Int32) : Option (VM) := if i < 8 then some (setI (setI (setI x 901 i (-1)) 902 i 0) 903 i p1) else none
theorem c_X9_becomePicture {g : GG} {d : Nat} {ad : AD} {x m : VM} {Q : Option Value → VM → VM → Prop} (i : Nat) (p1 : Int32) {w9 : VM} (hf : f_X9_becomePicture x i p1 = some w9) (hq : Q none w9 m) : CX g d MX9_becomePicture [.ref (ad 9 i), .int p1] ad x m Q := by
  refine CX.to (Lv := [some (.ref (ad 9 i)), some (.int p1)]) okX9_becomePicture (Nat.le_of_ble_eq_true rfl) rfl ?_
  obtain ⟨Φ0, hΦ⟩ : ∃ Φ : Option (VM) → Prop, Φ = fun o => o = some w9 := ⟨_, rfl⟩
  have hN0 : Φ0 none → False := by rw [hΦ]; intro h; cases h
  have hR0 : ∀ z9, Φ0 (some z9) → Q none z9 m := by rw [hΦ]; intro z9 h; cases h; exact hq
  have h9 : Φ0 (f_X9_becomePicture x i p1) := by rw [hΦ]; exact hf
  clear hf hq hΦ
  unfold f_X9_becomePicture at h9
  refine e_aload_n dX9_becomePicture_0 rfl rfl ?_
  refine e_iconst (v := (-1)) dX9_becomePicture_1 rfl ?_
  obtain ⟨k1, h9⟩ := chkP hN0 h9
  refine p_901 flX9_15 dX9_becomePicture_2 k1 ?_
  refine e_aload_n dX9_becomePicture_5 rfl rfl ?_
  refine e_iconst (v := 0) dX9_becomePicture_6 rfl ?_
  refine p_902 flX9_19 dX9_becomePicture_7 k1 ?_
  refine e_aload_n dX9_becomePicture_10 rfl rfl ?_
  refine e_iload_n dX9_becomePicture_11 rfl rfl ?_
  refine e_pc (pc' := 12) rfl ?_
  refine p_903 flX9_22 dX9_becomePicture_12 k1 ?_
  exact x_vret dX9_becomePicture_15 rfl (hR0 _ h9)
noncomputable def f_X9_lackOfRow (x : VM) (i : Nat) : Option (Int32) := if i < 8 then if (x.1 901 i) = (-1) then if (x.1 903 i) = (-1) then some (-3) else some (-2) else some 0 else none
theorem c_X9_lackOfRow {g : GG} {d : Nat} {ad : AD} {x m : VM} {Q : Option Value → VM → VM → Prop} (i : Nat) {r9 : Int32} (hf : f_X9_lackOfRow x i = some r9) (hq : Q (some (.int r9)) x m) : CX g d MX9_lackOfRow [.ref (ad 9 i)] ad x m Q := by
  refine CX.to (Lv := [some (.ref (ad 9 i))]) okX9_lackOfRow (Nat.le_of_ble_eq_true rfl) rfl ?_
  obtain ⟨Φ0, hΦ⟩ : ∃ Φ : Option (Int32) → Prop, Φ = fun o => o = some r9 := ⟨_, rfl⟩
  have hN0 : Φ0 none → False := by rw [hΦ]; intro h; cases h
  have hR0 : ∀ z9, Φ0 (some z9) → Q (some (.int z9)) x m := by rw [hΦ]; intro z9 h; cases h; exact hq
  have h9 : Φ0 (f_X9_lackOfRow x i) := by rw [hΦ]; exact hf
  clear hf hq hΦ
  unfold f_X9_lackOfRow at h9
  refine e_aload_n dX9_lackOfRow_0 rfl rfl ?_
  obtain ⟨k1, h9⟩ := chkP hN0 h9
  refine g_901 flX9_15 dX9_lackOfRow_1 k1 ?_
  refine e_iconst (v := (-1)) dX9_lackOfRow_4 rfl ?_
  refine e_icmp_eq (tgt := 10) dX9_lackOfRow_5 rfl (fun hc2 => ?_) (fun hc2 => ?_)
  · replace h9 := ifT hc2 h9
    refine e_aload_n dX9_lackOfRow_10 rfl rfl ?_
    refine g_903 flX9_22 dX9_lackOfRow_11 k1 ?_
    refine e_iconst (v := (-1)) dX9_lackOfRow_14 rfl ?_
    refine e_icmp_eq (tgt := 23) dX9_lackOfRow_15 rfl (fun hc3 => ?_) (fun hc3 => ?_)
    · replace h9 := ifT hc3 h9
      refine e_bipush (v := (-3)) dX9_lackOfRow_23 rfl ?_
      exact x_iret dX9_lackOfRow_25 rfl (hR0 _ h9)
    · replace h9 := ifF hc3 h9
      refine e_bipush (v := (-2)) dX9_lackOfRow_18 rfl ?_
      refine e_goto (tgt := 25) dX9_lackOfRow_20 rfl ?_
      exact x_iret dX9_lackOfRow_25 rfl (hR0 _ h9)
  · replace h9 := ifF hc2 h9
    refine e_iconst (v := 0) dX9_lackOfRow_8 rfl ?_
    exact x_iret dX9_lackOfRow_9 rfl (hR0 _ h9)
noncomputable def f_X9_hasSpan (x : VM) (i : Nat) (p1 : Int32) (p2 : Int32) : Option (Int32) := if p1 < 0 then some 0 else if i < 8 then if 0 < (lg_cmp (p1.toInt64 + p2.toInt64) ((x.1 902 i).toInt64)) then some 0 else some 1 else none
theorem c_X9_hasSpan {g : GG} {d : Nat} {ad : AD} {x m : VM} {Q : Option Value → VM → VM → Prop} (i : Nat) (p1 : Int32) (p2 : Int32) {r9 : Int32} (hf : f_X9_hasSpan x i p1 p2 = some r9) (hq : Q (some (.int r9)) x m) : CX g d MX9_hasSpan [.ref (ad 9 i), .int p1, .int p2] ad x m Q := by
  refine CX.to (Lv := [some (.ref (ad 9 i)), some (.int p1), some (.int p2)]) okX9_hasSpan (Nat.le_of_ble_eq_true rfl) rfl ?_
  obtain ⟨Φ0, hΦ⟩ : ∃ Φ : Option (Int32) → Prop, Φ = fun o => o = some r9 := ⟨_, rfl⟩
  have hN0 : Φ0 none → False := by rw [hΦ]; intro h; cases h
  have hR0 : ∀ z9, Φ0 (some z9) → Q (some (.int z9)) x m := by rw [hΦ]; intro z9 h; cases h; exact hq
  have h9 : Φ0 (f_X9_hasSpan x i p1 p2) := by rw [hΦ]; exact hf
  clear hf hq hΦ
  unfold f_X9_hasSpan at h9
  refine e_iload_n dX9_hasSpan_0 rfl rfl ?_
  refine e_if_lt (tgt := 22) dX9_hasSpan_1 rfl (fun hc1 => ?_) (fun hc1 => ?_)
  · replace h9 := ifT hc1 h9
    refine e_iconst (v := 0) dX9_hasSpan_22 rfl ?_
    exact x_zret dX9_hasSpan_23 rfl (by decide) (hR0 _ h9)
  · replace h9 := ifF hc1 h9
    refine e_iload_n dX9_hasSpan_4 rfl rfl ?_
    refine e_i2l dX9_hasSpan_5 rfl ?_
    refine e_iload_n dX9_hasSpan_6 rfl rfl ?_
    refine e_i2l dX9_hasSpan_7 rfl ?_
    refine e_ladd dX9_hasSpan_8 ?_
    refine e_aload_n dX9_hasSpan_9 rfl rfl ?_
    obtain ⟨k2, h9⟩ := chkP hN0 h9
    refine g_902 flX9_19 dX9_hasSpan_10 k2 ?_
    refine e_i2l dX9_hasSpan_13 rfl ?_
    refine e_pc (pc' := 14) rfl ?_
    refine e_lcmp dX9_hasSpan_14 ?_
    refine e_if_gt (tgt := 22) dX9_hasSpan_15 rfl (fun hc3 => ?_) (fun hc3 => ?_)
    · replace h9 := ifT hc3 h9
      refine e_iconst (v := 0) dX9_hasSpan_22 rfl ?_
      exact x_zret dX9_hasSpan_23 rfl (by decide) (hR0 _ h9)
    · replace h9 := ifF hc3 h9
      refine e_iconst (v := 1) dX9_hasSpan_18 rfl ?_
      refine e_goto (tgt := 23) dX9_hasSpan_19 rfl ?_
      exact x_zret dX9_hasSpan_23 rfl (by decide) (hR0 _ h9)
noncomputable def f_X9_lowestBits (x : VM) (i : Nat) (p1 : Int64) : Option (Int64) := if i < 8 then if (x.1 901 i) = 0 then some p1.toInt32.toInt8.toInt32.toInt64 else if (x.1 901 i) = 1 then some p1.toInt32.toInt16.toInt32.toInt64 else if (x.1 901 i) = 2 then some p1.toInt32.toInt64 else some p1 else none
theorem c_X9_lowestBits {g : GG} {d : Nat} {ad : AD} {x m : VM} {Q : Option Value → VM → VM → Prop} (i : Nat) (p1 : Int64) {r9 : Int64} (hf : f_X9_lowestBits x i p1 = some r9) (hq : Q (some (.long r9)) x m) : CX g d MX9_lowestBits [.ref (ad 9 i), .long p1] ad x m Q := by
  refine CX.to (Lv := [some (.ref (ad 9 i)), some (.long p1), none]) okX9_lowestBits (Nat.le_of_ble_eq_true rfl) rfl ?_
  obtain ⟨Φ0, hΦ⟩ : ∃ Φ : Option (Int64) → Prop, Φ = fun o => o = some r9 := ⟨_, rfl⟩
  have hN0 : Φ0 none → False := by rw [hΦ]; intro h; cases h
  have hR0 : ∀ z9, Φ0 (some z9) → Q (some (.long z9)) x m := by rw [hΦ]; intro z9 h; cases h; exact hq
  have h9 : Φ0 (f_X9_lowestBits x i p1) := by rw [hΦ]; exact hf
  clear hf hq hΦ
  unfold f_X9_lowestBits at h9
  refine e_aload_n dX9_lowestBits_0 rfl rfl ?_
  obtain ⟨k1, h9⟩ := chkP hN0 h9
  refine g_901 flX9_15 dX9_lowestBits_1 k1 ?_
  by_cases hc2 : (x.1 901 i) = 0
  · replace h9 := ifT hc2 h9
    refine e_tableIn (tgt := 32) dX9_lowestBits_4 (by rw [hc2]; decide) (by rw [hc2]; decide) (by rw [hc2]; rfl) rfl ?_
    refine e_lload_n dX9_lowestBits_32 rfl rfl ?_
    refine e_l2i dX9_lowestBits_33 rfl ?_
    refine e_i2b dX9_lowestBits_34 rfl ?_
    refine e_i2l dX9_lowestBits_35 rfl ?_
    exact x_lret dX9_lowestBits_36 rfl (hR0 _ h9)
  replace h9 := ifF hc2 h9
  by_cases hc3 : (x.1 901 i) = 1
  · replace h9 := ifT hc3 h9
    refine e_tableIn (tgt := 37) dX9_lowestBits_4 (by rw [hc3]; decide) (by rw [hc3]; decide) (by rw [hc3]; rfl) rfl ?_
    refine e_lload_n dX9_lowestBits_37 rfl rfl ?_
    refine e_l2i dX9_lowestBits_38 rfl ?_
    refine e_i2s dX9_lowestBits_39 rfl ?_
    refine e_i2l dX9_lowestBits_40 rfl ?_
    exact x_lret dX9_lowestBits_41 rfl (hR0 _ h9)
  replace h9 := ifF hc3 h9
  by_cases hc4 : (x.1 901 i) = 2
  · replace h9 := ifT hc4 h9
    refine e_tableIn (tgt := 42) dX9_lowestBits_4 (by rw [hc4]; decide) (by rw [hc4]; decide) (by rw [hc4]; rfl) rfl ?_
    refine e_lload_n dX9_lowestBits_42 rfl rfl ?_
    refine e_l2i dX9_lowestBits_43 rfl ?_
    refine e_i2l dX9_lowestBits_44 rfl ?_
    exact x_lret dX9_lowestBits_45 rfl (hR0 _ h9)
  replace h9 := ifF hc4 h9
  refine e_tableOut (tgt := 46) dX9_lowestBits_4 (sw_out3 hc2 hc3 hc4) rfl ?_
  refine e_lload_n dX9_lowestBits_46 rfl rfl ?_
  exact x_lret dX9_lowestBits_47 rfl (hR0 _ h9)
noncomputable def j_X10_addDigit_35 (x : VM) (p1 : Int32) (a3 : Int32) : Option (Int32 × VM) := if (x.2.1 1000 0 ((x.1 1001 0).toNatClampNeg)) = 0 then some (0, x) else if inb (x.1 1001 0) 6 = true then if a3 < (sv2 ((x.1 1001 0).toNatClampNeg)) then some (0, x) else if inb (x.1 1001 0) 6 = true then if a3 ≤ (sv3 ((x.1 1001 0).toNatClampNeg)) then if inb (x.1 1001 0) 6 = true then some (1, setA x 1000 0 (upd (x.2.1 1000 0) ((x.1 1001 0).toNatClampNeg) a3)) else none else some (0, x) else none else none
noncomputable def f_X10_addDigit (x : VM) (p1 : Int32) : Option (Int32 × VM) := if (x.1 1001 0) = (-1) then some (0, x) else if inb (x.1 1001 0) 6 = true then if (x.2.1 1000 0 ((x.1 1001 0).toNatClampNeg)) = (-1) then j_X10_addDigit_35 x p1 p1 else j_X10_addDigit_35 x p1 (((x.2.1 1000 0 ((x.1 1001 0).toNatClampNeg)) * 10) + p1) else none
theorem c_X10_addDigit {g : GG} {d : Nat} {ad : AD} {x m : VM} {Q : Option Value → VM → VM → Prop} (p1 : Int32) {r9 : Int32} {w9 : VM} (hf : f_X10_addDigit x p1 = some (r9, w9)) (hq : Q (some (.int r9)) w9 m) : CX g d MX10_addDigit [.ref (ad 10 0), .int p1] ad x m Q := by
  refine CX.to (Lv := [some (.ref (ad 10 0)), some (.int p1), none, none]) okX10_addDigit (Nat.le_of_ble_eq_true rfl) rfl ?_
  obtain ⟨Φ0, hΦ⟩ : ∃ Φ : Option (Int32 × VM) → Prop, Φ = fun o => o = some (r9, w9) := ⟨_, rfl⟩
  have hN0 : Φ0 none → False := by rw [hΦ]; intro h; cases h
  have hR0 : ∀ z9 y9, Φ0 (some (z9, y9)) → Q (some (.int z9)) y9 m := by rw [hΦ]; intro z9 y9 h; cases h; exact hq
  have h9 : Φ0 (f_X10_addDigit x p1) := by rw [hΦ]; exact hf
  clear hf hq hΦ
  unfold f_X10_addDigit at h9
  refine e_aload_n dX10_addDigit_0 rfl rfl ?_
  refine g_1001 flX10_15 dX10_addDigit_1 ?_
  refine e_iconst (v := (-1)) dX10_addDigit_4 rfl ?_
  refine e_icmp_ne (tgt := 10) dX10_addDigit_5 rfl (fun hc1 => ?_) (fun hc1 => ?_)
  · replace h9 := ifF hc1 h9
    refine e_aload_n dX10_addDigit_10 rfl rfl ?_
    refine g_1000 flX10_9 dX10_addDigit_11 ?_
    refine e_aload_n dX10_addDigit_14 rfl rfl ?_
    refine g_1001 flX10_15 dX10_addDigit_15 ?_
    obtain ⟨k2, h9⟩ := chkP hN0 h9
    refine l_1000 dX10_addDigit_18 (inb_in k2) ?_
    refine e_istore_n (L' := [some (.ref (ad 10 0)), some (.int p1), some (.int (x.2.1 1000 0 ((x.1 1001 0).toNatClampNeg))), none]) dX10_addDigit_19 rfl (by decide) rfl ?_
    refine e_iload_n dX10_addDigit_20 rfl rfl ?_
    refine e_iconst (v := (-1)) dX10_addDigit_21 rfl ?_
    refine e_pc (pc' := 22) rfl ?_
    have hj35 : ∀ (a3 : Int32), Φ0 (j_X10_addDigit_35 x p1 a3) → EX g d MX10_addDigit ad x m 35 [some (.ref (ad 10 0)), none, some (.int (x.2.1 1000 0 ((x.1 1001 0).toNatClampNeg))), none] [.int a3] Q := by
      intro a3 h9
      unfold j_X10_addDigit_35 at h9
      refine e_istore_n (L' := [some (.ref (ad 10 0)), none, some (.int (x.2.1 1000 0 ((x.1 1001 0).toNatClampNeg))), some (.int a3)]) dX10_addDigit_35 rfl (by decide) rfl ?_
      refine e_iload_n dX10_addDigit_36 rfl rfl ?_
      refine e_if_eq (tgt := 64) dX10_addDigit_37 rfl (fun hc4 => ?_) (fun hc4 => ?_)
      · replace h9 := ifT hc4 h9
        refine e_iconst (v := 0) dX10_addDigit_64 rfl ?_
        exact x_zret dX10_addDigit_65 rfl (by decide) (hR0 _ _ h9)
      · replace h9 := ifF hc4 h9
        refine e_iload_n dX10_addDigit_40 rfl rfl ?_
        refine e_getstaticN (j := 2) rfl (by decide) dX10_addDigit_41 ?_
        refine e_aload_n dX10_addDigit_44 rfl rfl ?_
        refine g_1001 flX10_15 dX10_addDigit_45 ?_
        obtain ⟨k5, h9⟩ := chkP hN0 h9
        refine e_saload (j := 2) rfl dX10_addDigit_48 (inb_in k5) ?_
        refine e_top (v := .int (sv2 ((x.1 1001 0).toNatClampNeg))) rfl ?_
        refine e_icmp_lt (tgt := 64) dX10_addDigit_49 rfl (fun hc6 => ?_) (fun hc6 => ?_)
        · replace h9 := ifT hc6 h9
          refine e_iconst (v := 0) dX10_addDigit_64 rfl ?_
          exact x_zret dX10_addDigit_65 rfl (by decide) (hR0 _ _ h9)
        · replace h9 := ifF hc6 h9
          refine e_iload_n dX10_addDigit_52 rfl rfl ?_
          refine e_getstaticN (j := 3) rfl (by decide) dX10_addDigit_53 ?_
          refine e_aload_n dX10_addDigit_56 rfl rfl ?_
          refine g_1001 flX10_15 dX10_addDigit_57 ?_
          obtain ⟨k7, h9⟩ := chkP hN0 h9
          refine e_saload (j := 3) rfl dX10_addDigit_60 (inb_in k7) ?_
          refine e_top (v := .int (sv3 ((x.1 1001 0).toNatClampNeg))) rfl ?_
          refine e_icmp_le (tgt := 66) dX10_addDigit_61 rfl (fun hc8 => ?_) (fun hc8 => ?_)
          · replace h9 := ifT hc8 h9
            refine e_aload_n dX10_addDigit_66 rfl rfl ?_
            refine g_1000 flX10_9 dX10_addDigit_67 ?_
            refine e_aload_n dX10_addDigit_70 rfl rfl ?_
            refine g_1001 flX10_15 dX10_addDigit_71 ?_
            refine e_iload_n dX10_addDigit_74 rfl rfl ?_
            obtain ⟨k9, h9⟩ := chkP hN0 h9
            refine s_1000 dX10_addDigit_75 (inb_in k9) ?_
            refine e_iconst (v := 1) dX10_addDigit_76 rfl ?_
            exact x_zret dX10_addDigit_77 rfl (by decide) (hR0 _ _ h9)
          · replace h9 := ifF hc8 h9
            refine e_iconst (v := 0) dX10_addDigit_64 rfl ?_
            exact x_zret dX10_addDigit_65 rfl (by decide) (hR0 _ _ h9)
    refine e_icmp_ne (tgt := 29) dX10_addDigit_22 rfl (fun hc10 => ?_) (fun hc10 => ?_)
    · replace h9 := ifF hc10 h9
      refine e_iload_n dX10_addDigit_29 rfl rfl ?_
      refine e_bipush (v := 10) dX10_addDigit_30 rfl ?_
      refine e_imul dX10_addDigit_32 ?_
      refine e_iload_n dX10_addDigit_33 rfl rfl ?_
      refine e_iadd dX10_addDigit_34 ?_
      refine e_wk (L' := [some (.ref (ad 10 0)), none, some (.int (x.2.1 1000 0 ((x.1 1001 0).toNatClampNeg))), none]) (wkC (wkN (wkC (wkN wk0)))) ?_
      exact hj35 (((x.2.1 1000 0 ((x.1 1001 0).toNatClampNeg)) * 10) + p1) h9
    · replace h9 := ifT hc10 h9
      refine e_iload_n dX10_addDigit_25 rfl rfl ?_
      refine e_goto (tgt := 35) dX10_addDigit_26 rfl ?_
      refine e_wk (L' := [some (.ref (ad 10 0)), none, some (.int (x.2.1 1000 0 ((x.1 1001 0).toNatClampNeg))), none]) (wkC (wkN (wkC (wkN wk0)))) ?_
      exact hj35 p1 h9
  · replace h9 := ifT hc1 h9
    refine e_iconst (v := 0) dX10_addDigit_8 rfl ?_
    exact x_zret dX10_addDigit_9 rfl (by decide) (hR0 _ _ h9)
noncomputable def f_X10_hasNumber (x : VM) : Option (Int32) := if (x.1 1001 0) = (-1) then some 0 else if inb (x.1 1001 0) 6 = true then if (x.2.1 1000 0 ((x.1 1001 0).toNatClampNeg)) = (-1) then some 0 else some 1 else none
theorem c_X10_hasNumber {g : GG} {d : Nat} {ad : AD} {x m : VM} {Q : Option Value → VM → VM → Prop} {r9 : Int32} (hf : f_X10_hasNumber x = some r9) (hq : Q (some (.int r9)) x m) : CX g d MX10_hasNumber [.ref (ad 10 0)] ad x m Q := by
  refine CX.to (Lv := [some (.ref (ad 10 0))]) okX10_hasNumber (Nat.le_of_ble_eq_true rfl) rfl ?_
  obtain ⟨Φ0, hΦ⟩ : ∃ Φ : Option (Int32) → Prop, Φ = fun o => o = some r9 := ⟨_, rfl⟩
  have hN0 : Φ0 none → False := by rw [hΦ]; intro h; cases h
  have hR0 : ∀ z9, Φ0 (some z9) → Q (some (.int z9)) x m := by rw [hΦ]; intro z9 h; cases h; exact hq
  have h9 : Φ0 (f_X10_hasNumber x) := by rw [hΦ]; exact hf
  clear hf hq hΦ
  unfold f_X10_hasNumber at h9
  refine e_aload_n dX10_hasNumber_0 rfl rfl ?_
  refine g_1001 flX10_15 dX10_hasNumber_1 ?_
  refine e_iconst (v := (-1)) dX10_hasNumber_4 rfl ?_
  refine e_icmp_eq (tgt := 25) dX10_hasNumber_5 rfl (fun hc1 => ?_) (fun hc1 => ?_)
  · replace h9 := ifT hc1 h9
    refine e_iconst (v := 0) dX10_hasNumber_25 rfl ?_
    exact x_zret dX10_hasNumber_26 rfl (by decide) (hR0 _ h9)
  · replace h9 := ifF hc1 h9
    refine e_aload_n dX10_hasNumber_8 rfl rfl ?_
    refine g_1000 flX10_9 dX10_hasNumber_9 ?_
    refine e_aload_n dX10_hasNumber_12 rfl rfl ?_
    refine g_1001 flX10_15 dX10_hasNumber_13 ?_
    obtain ⟨k2, h9⟩ := chkP hN0 h9
    refine l_1000 dX10_hasNumber_16 (inb_in k2) ?_
    refine e_iconst (v := (-1)) dX10_hasNumber_17 rfl ?_
    refine e_icmp_eq (tgt := 25) dX10_hasNumber_18 rfl (fun hc3 => ?_) (fun hc3 => ?_)
    · replace h9 := ifT hc3 h9
      refine e_iconst (v := 0) dX10_hasNumber_25 rfl ?_
      exact x_zret dX10_hasNumber_26 rfl (by decide) (hR0 _ h9)
    · replace h9 := ifF hc3 h9
      refine e_iconst (v := 1) dX10_hasNumber_21 rfl ?_
      refine e_goto (tgt := 26) dX10_hasNumber_22 rfl ?_
      exact x_zret dX10_hasNumber_26 rfl (by decide) (hR0 _ h9)
noncomputable def b_X10_openClause_19 (x : VM) (p1 : Int32) (v2 : Int32) : (Int32) ⊕ (Option (Int32 × VM)) := if 6 ≤ v2 then Sum.inr (some (0, x)) else if inb v2 6 = true then if (sv1 v2.toNatClampNeg) = p1 then if inb v2 6 = true then if (x.2.1 1000 0 v2.toNatClampNeg) = (-1) then Sum.inr (some (1, setI x 1001 0 v2)) else Sum.inl (v2 + 1) else Sum.inr none else Sum.inl (v2 + 1) else Sum.inr none
noncomputable def b_X10_openClause_19_11 (x : VM) (p1 : Int32) (v10 : Int32) : (Int32) ⊕ (Option (Int32 × VM)) := if 6 ≤ v10 then Sum.inr (some (0, x)) else if inb v10 6 = true then if (sv1 v10.toNatClampNeg) = p1 then if inb v10 6 = true then if (x.2.1 1000 0 v10.toNatClampNeg) = (-1) then Sum.inr (some (1, setI x 1001 0 v10)) else Sum.inl (v10 + 1) else Sum.inr none else Sum.inl (v10 + 1) else Sum.inr none
noncomputable def f_X10_openClause (x : VM) (p1 : Int32) : Option (Int32 × VM) := if (x.1 1001 0) = (-1) then loopF none (b_X10_openClause_19 x p1) 0 else (f_X10_hasNumber x).elim none (fun r8 => if r8 = 0 then some (0, x) else loopF none (b_X10_openClause_19_11 x p1) 0)
theorem c_X10_openClause {g : GG} {d : Nat} {ad : AD} {x m : VM} {Q : Option Value → VM → VM → Prop} (p1 : Int32) {r9 : Int32} {w9 : VM} (hf : f_X10_openClause x p1 = some (r9, w9)) (hq : Q (some (.int r9)) w9 m) : CX g (d + 1) MX10_openClause [.ref (ad 10 0), .int p1] ad x m Q := by
  refine CX.to (Lv := [some (.ref (ad 10 0)), some (.int p1), none]) okX10_openClause (Nat.le_of_ble_eq_true rfl) rfl ?_
  obtain ⟨Φ0, hΦ⟩ : ∃ Φ : Option (Int32 × VM) → Prop, Φ = fun o => o = some (r9, w9) := ⟨_, rfl⟩
  have hN0 : Φ0 none → False := by rw [hΦ]; intro h; cases h
  have hR0 : ∀ z9 y9, Φ0 (some (z9, y9)) → Q (some (.int z9)) y9 m := by rw [hΦ]; intro z9 y9 h; cases h; exact hq
  have h9 : Φ0 (f_X10_openClause x p1) := by rw [hΦ]; exact hf
  clear hf hq hΦ
  unfold f_X10_openClause at h9
  refine e_aload_n dX10_openClause_0 rfl rfl ?_
  refine g_1001 flX10_15 dX10_openClause_1 ?_
  refine e_iconst (v := (-1)) dX10_openClause_4 rfl ?_
  refine e_icmp_eq (tgt := 17) dX10_openClause_5 rfl (fun hc1 => ?_) (fun hc1 => ?_)
  · replace h9 := ifT hc1 h9
    refine e_iconst (v := 0) dX10_openClause_17 rfl ?_
    refine e_istore_n (L' := [some (.ref (ad 10 0)), some (.int p1), some (.int 0)]) dX10_openClause_18 rfl (by decide) rfl ?_
    refine loop_gen (b_X10_openClause_19 x p1) none (fun v2 => EX g (d + 1) MX10_openClause ad x m 19 [some (.ref (ad 10 0)), some (.int p1), some (.int v2)] [] Q) Φ0 hN0 (fun v2 Φ1 hB0_1 hO1 h9 => ?_) 0 h9
    have hN1 := fun h => hN0 (hO1 _ h)
    have hR1 := fun r9 x9 h => hR0 r9 x9 (hO1 _ h)
    have hB0_1 : ∀ (z0 : Int32), Φ1 (Sum.inl z0) → EX g (d + 1) MX10_openClause ad x m 19 [some (.ref (ad 10 0)), some (.int p1), some (.int z0)] [] Q := fun z0 h => hB0_1 z0 h
    unfold b_X10_openClause_19 at h9
    refine e_iload_n dX10_openClause_19 rfl rfl ?_
    refine e_bipush (v := 6) dX10_openClause_20 rfl ?_
    refine e_icmp_ge (tgt := 57) dX10_openClause_22 rfl (fun hc3 => ?_) (fun hc3 => ?_)
    · replace h9 := ifT hc3 h9
      refine e_iconst (v := 0) dX10_openClause_57 rfl ?_
      exact x_zret dX10_openClause_58 rfl (by decide) (hR1 _ _ h9)
    · replace h9 := ifF hc3 h9
      refine e_getstaticN (j := 1) rfl (by decide) dX10_openClause_25 ?_
      refine e_iload_n dX10_openClause_28 rfl rfl ?_
      obtain ⟨k4, h9⟩ := chkP hN1 h9
      refine e_saload (j := 1) rfl dX10_openClause_29 (inb_in k4) ?_
      refine e_top (v := .int (sv1 v2.toNatClampNeg)) rfl ?_
      refine e_iload_n dX10_openClause_30 rfl rfl ?_
      refine e_icmp_ne (tgt := 51) dX10_openClause_31 rfl (fun hc5 => ?_) (fun hc5 => ?_)
      · replace h9 := ifF hc5 h9
        refine e_iinc (v := (v2 + 1)) (L' := [some (.ref (ad 10 0)), some (.int p1), some (.int (v2 + 1))]) dX10_openClause_51 rfl rfl (by decide) rfl ?_
        refine e_goto (tgt := 19) dX10_openClause_54 rfl ?_
        exact hB0_1 _ h9
      · replace h9 := ifT hc5 h9
        refine e_aload_n dX10_openClause_34 rfl rfl ?_
        refine g_1000 flX10_9 dX10_openClause_35 ?_
        refine e_iload_n dX10_openClause_38 rfl rfl ?_
        obtain ⟨k6, h9⟩ := chkP hN1 h9
        refine l_1000 dX10_openClause_39 (inb_in k6) ?_
        refine e_iconst (v := (-1)) dX10_openClause_40 rfl ?_
        refine e_icmp_ne (tgt := 51) dX10_openClause_41 rfl (fun hc7 => ?_) (fun hc7 => ?_)
        · replace h9 := ifF hc7 h9
          refine e_iinc (v := (v2 + 1)) (L' := [some (.ref (ad 10 0)), some (.int p1), some (.int (v2 + 1))]) dX10_openClause_51 rfl rfl (by decide) rfl ?_
          refine e_goto (tgt := 19) dX10_openClause_54 rfl ?_
          exact hB0_1 _ h9
        · replace h9 := ifT hc7 h9
          refine e_aload_n dX10_openClause_44 rfl rfl ?_
          refine e_iload_n dX10_openClause_45 rfl rfl ?_
          refine p_1001 flX10_15 dX10_openClause_46 ?_
          refine e_iconst (v := 1) dX10_openClause_49 rfl ?_
          exact x_zret dX10_openClause_50 rfl (by decide) (hR1 _ _ h9)
  · replace h9 := ifF hc1 h9
    refine e_aload_n dX10_openClause_8 rfl rfl ?_
    obtain ⟨r8, hr8, h9⟩ := elimP hN0 h9
    refine x_callVi (c := 10) (As := []) (rest := []) okX10_hasNumber lkX10_42 rfl (by decide) rfl dX10_openClause_9 rfl rfl (Nat.le_of_ble_eq_true rfl) rfl (c_X10_hasNumber hr8 (CI.mk ?_))
    refine e_if_ne (tgt := 17) dX10_openClause_12 rfl (fun hc9 => ?_) (fun hc9 => ?_)
    · replace h9 := ifF hc9 h9
      refine e_iconst (v := 0) dX10_openClause_17 rfl ?_
      refine e_istore_n (L' := [some (.ref (ad 10 0)), some (.int p1), some (.int 0)]) dX10_openClause_18 rfl (by decide) rfl ?_
      refine loop_gen (b_X10_openClause_19_11 x p1) none (fun v10 => EX g (d + 1) MX10_openClause ad x m 19 [some (.ref (ad 10 0)), some (.int p1), some (.int v10)] [] Q) Φ0 hN0 (fun v10 Φ1 hB0_1 hO1 h9 => ?_) 0 h9
      have hN1 := fun h => hN0 (hO1 _ h)
      have hR1 := fun r9 x9 h => hR0 r9 x9 (hO1 _ h)
      have hB0_1 : ∀ (z0 : Int32), Φ1 (Sum.inl z0) → EX g (d + 1) MX10_openClause ad x m 19 [some (.ref (ad 10 0)), some (.int p1), some (.int z0)] [] Q := fun z0 h => hB0_1 z0 h
      unfold b_X10_openClause_19_11 at h9
      refine e_iload_n dX10_openClause_19 rfl rfl ?_
      refine e_bipush (v := 6) dX10_openClause_20 rfl ?_
      refine e_icmp_ge (tgt := 57) dX10_openClause_22 rfl (fun hc12 => ?_) (fun hc12 => ?_)
      · replace h9 := ifT hc12 h9
        refine e_iconst (v := 0) dX10_openClause_57 rfl ?_
        exact x_zret dX10_openClause_58 rfl (by decide) (hR1 _ _ h9)
      · replace h9 := ifF hc12 h9
        refine e_getstaticN (j := 1) rfl (by decide) dX10_openClause_25 ?_
        refine e_iload_n dX10_openClause_28 rfl rfl ?_
        obtain ⟨k13, h9⟩ := chkP hN1 h9
        refine e_saload (j := 1) rfl dX10_openClause_29 (inb_in k13) ?_
        refine e_top (v := .int (sv1 v10.toNatClampNeg)) rfl ?_
        refine e_iload_n dX10_openClause_30 rfl rfl ?_
        refine e_icmp_ne (tgt := 51) dX10_openClause_31 rfl (fun hc14 => ?_) (fun hc14 => ?_)
        · replace h9 := ifF hc14 h9
          refine e_iinc (v := (v10 + 1)) (L' := [some (.ref (ad 10 0)), some (.int p1), some (.int (v10 + 1))]) dX10_openClause_51 rfl rfl (by decide) rfl ?_
          refine e_goto (tgt := 19) dX10_openClause_54 rfl ?_
          exact hB0_1 _ h9
        · replace h9 := ifT hc14 h9
          refine e_aload_n dX10_openClause_34 rfl rfl ?_
          refine g_1000 flX10_9 dX10_openClause_35 ?_
          refine e_iload_n dX10_openClause_38 rfl rfl ?_
          obtain ⟨k15, h9⟩ := chkP hN1 h9
          refine l_1000 dX10_openClause_39 (inb_in k15) ?_
          refine e_iconst (v := (-1)) dX10_openClause_40 rfl ?_
          refine e_icmp_ne (tgt := 51) dX10_openClause_41 rfl (fun hc16 => ?_) (fun hc16 => ?_)
          · replace h9 := ifF hc16 h9
            refine e_iinc (v := (v10 + 1)) (L' := [some (.ref (ad 10 0)), some (.int p1), some (.int (v10 + 1))]) dX10_openClause_51 rfl rfl (by decide) rfl ?_
            refine e_goto (tgt := 19) dX10_openClause_54 rfl ?_
            exact hB0_1 _ h9
          · replace h9 := ifT hc16 h9
            refine e_aload_n dX10_openClause_44 rfl rfl ?_
            refine e_iload_n dX10_openClause_45 rfl rfl ?_
            refine p_1001 flX10_15 dX10_openClause_46 ?_
            refine e_iconst (v := 1) dX10_openClause_49 rfl ?_
            exact x_zret dX10_openClause_50 rfl (by decide) (hR1 _ _ h9)
    · replace h9 := ifT hc9 h9
      refine e_iconst (v := 0) dX10_openClause_15 rfl ?_
      exact x_zret dX10_openClause_16 rfl (by decide) (hR0 _ _ h9)
noncomputable def j_X10_findFault_35 (x : VM) (p1 : Nat) (v1 : Int32 × VM) (a7 : Int32) : (Int32 × VM) ⊕ (Option (Int32 × VM)) := if a7 = 0 then (f_X10_openClause v1.2 ((v1.2.2.2.1 900 p1 v1.1.toNatClampNeg).toInt32)).elim (Sum.inr none) (fun r9p => if r9p.1 = 0 then Sum.inr (some (v1.1, r9p.2)) else Sum.inl (v1.1 + 1, r9p.2)) else (f_X10_addDigit v1.2 (((v1.2.2.2.1 900 p1 v1.1.toNatClampNeg).toInt32) - 48)).elim (Sum.inr none) (fun r13p => if r13p.1 = 0 then Sum.inr (some (v1.1, r13p.2)) else Sum.inl (v1.1 + 1, r13p.2))
noncomputable def j_X10_findFault_34 (x : VM) (p1 : Nat) (v1 : Int32 × VM) : (Int32 × VM) ⊕ (Option (Int32 × VM)) := j_X10_findFault_35 x p1 v1 0
noncomputable def b_X10_findFault_2 (x : VM) (p1 : Nat) (v1 : Int32 × VM) : (Int32 × VM) ⊕ (Option (Int32 × VM)) := if p1 < 8 then if (v1.2.1 902 p1) ≤ v1.1 then (f_X10_hasNumber v1.2).elim (Sum.inr none) (fun r4 => if r4 = 0 then Sum.inr (some (v1.2.1 902 p1, v1.2)) else Sum.inr (some ((-1), v1.2))) else if inb v1.1 60 = true then if ((v1.2.2.2.1 900 p1 v1.1.toNatClampNeg).toInt32) < 48 then j_X10_findFault_34 x p1 v1 else if 57 < ((v1.2.2.2.1 900 p1 v1.1.toNatClampNeg).toInt32) then j_X10_findFault_34 x p1 v1 else j_X10_findFault_35 x p1 v1 1 else Sum.inr none else Sum.inr none
noncomputable def f_X10_findFault (x : VM) (p1 : Nat) : Option (Int32 × VM) := loopF none (b_X10_findFault_2 x p1) (0, x)
theorem c_X10_findFault {g : GG} {d : Nat} {ad : AD} {x m : VM} {Q : Option Value → VM → VM → Prop} (p1 : Nat) {r9 : Int32} {w9 : VM} (hf : f_X10_findFault x p1 = some (r9, w9)) (hq : Q (some (.int r9)) w9 m) : CX g (d + 2) MX10_findFault [.ref (ad 10 0), .ref (ad 9 p1)] ad x m Q := by
  refine CX.to (Lv := [some (.ref (ad 10 0)), some (.ref (ad 9 p1)), none, none, none]) okX10_findFault (Nat.le_of_ble_eq_true rfl) rfl ?_
  obtain ⟨Φ0, hΦ⟩ : ∃ Φ : Option (Int32 × VM) → Prop, Φ = fun o => o = some (r9, w9) := ⟨_, rfl⟩
  have hN0 : Φ0 none → False := by rw [hΦ]; intro h; cases h
  have hR0 : ∀ z9 y9, Φ0 (some (z9, y9)) → Q (some (.int z9)) y9 m := by rw [hΦ]; intro z9 y9 h; cases h; exact hq
  have h9 : Φ0 (f_X10_findFault x p1) := by rw [hΦ]; exact hf
  clear hf hq hΦ
  unfold f_X10_findFault at h9
  refine e_iconst (v := 0) dX10_findFault_0 rfl ?_
  refine e_istore_n (L' := [some (.ref (ad 10 0)), some (.ref (ad 9 p1)), some (.int 0), none, none]) dX10_findFault_1 rfl (by decide) rfl ?_
  refine loop_gen (b_X10_findFault_2 x p1) none (fun v1 => EX g (d + 2) MX10_findFault ad v1.2 m 2 [some (.ref (ad 10 0)), some (.ref (ad 9 p1)), some (.int v1.1), none, none] [] Q) Φ0 hN0 (fun v1 Φ1 hB0_1 hO1 h9 => ?_) (0, x) h9
  have hN1 := fun h => hN0 (hO1 _ h)
  have hR1 := fun r9 x9 h => hR0 r9 x9 (hO1 _ h)
  have hB0_1 : ∀ (z0 : Int32) (z1 : VM), Φ1 (Sum.inl (z0, z1)) → EX g (d + 2) MX10_findFault ad z1 m 2 [some (.ref (ad 10 0)), some (.ref (ad 9 p1)), some (.int z0), none, none] [] Q := fun z0 z1 h => hB0_1 (z0, z1) h
  unfold b_X10_findFault_2 at h9
  refine e_iload_n dX10_findFault_2 rfl rfl ?_
  refine e_aload_n dX10_findFault_3 rfl rfl ?_
  obtain ⟨k2, h9⟩ := chkP hN1 h9
  refine g_902 flX10_26 dX10_findFault_4 k2 ?_
  refine e_icmp_ge (tgt := 72) dX10_findFault_7 rfl (fun hc3 => ?_) (fun hc3 => ?_)
  · replace h9 := ifT hc3 h9
    refine e_aload_n dX10_findFault_72 rfl rfl ?_
    obtain ⟨r4, hr4, h9⟩ := elimP hN1 h9
    refine x_callVi (c := 10) (As := []) (rest := []) okX10_hasNumber lkX10_42 rfl (by decide) rfl dX10_findFault_73 rfl rfl (Nat.le_of_ble_eq_true rfl) rfl (c_X10_hasNumber hr4 (CI.mk ?_))
    refine e_if_eq (tgt := 83) dX10_findFault_76 rfl (fun hc5 => ?_) (fun hc5 => ?_)
    · replace h9 := ifT hc5 h9
      refine e_aload_n dX10_findFault_83 rfl rfl ?_
      refine g_902 flX10_26 dX10_findFault_84 k2 ?_
      exact x_iret dX10_findFault_87 rfl (hR1 _ _ h9)
    · replace h9 := ifF hc5 h9
      refine e_iconst (v := (-1)) dX10_findFault_79 rfl ?_
      refine e_goto (tgt := 87) dX10_findFault_80 rfl ?_
      exact x_iret dX10_findFault_87 rfl (hR1 _ _ h9)
  · replace h9 := ifF hc3 h9
    refine e_aload_n dX10_findFault_10 rfl rfl ?_
    refine g_900 flX10_31 dX10_findFault_11 k2 ?_
    refine e_iload_n dX10_findFault_14 rfl rfl ?_
    obtain ⟨k6, h9⟩ := chkP hN1 h9
    refine l_900 dX10_findFault_15 k2 (inb_in k6) ?_
    refine e_l2i dX10_findFault_16 rfl ?_
    refine e_istore_n (L' := [some (.ref (ad 10 0)), some (.ref (ad 9 p1)), some (.int v1.1), some (.int ((v1.2.2.2.1 900 p1 v1.1.toNatClampNeg).toInt32)), none]) dX10_findFault_17 rfl (by decide) rfl ?_
    refine e_iload_n dX10_findFault_18 rfl rfl ?_
    refine e_bipush (v := 48) dX10_findFault_19 rfl ?_
    refine e_pc (pc' := 21) rfl ?_
    have hj35 : ∀ (a7 : Int32), Φ1 (j_X10_findFault_35 x p1 v1 a7) → EX g (d + 2) MX10_findFault ad v1.2 m 35 [some (.ref (ad 10 0)), some (.ref (ad 9 p1)), some (.int v1.1), some (.int ((v1.2.2.2.1 900 p1 v1.1.toNatClampNeg).toInt32)), none] [.int a7] Q := by
      intro a7 h9
      unfold j_X10_findFault_35 at h9
      refine e_istore (L' := [some (.ref (ad 10 0)), some (.ref (ad 9 p1)), some (.int v1.1), some (.int ((v1.2.2.2.1 900 p1 v1.1.toNatClampNeg).toInt32)), some (.int a7)]) dX10_findFault_35 (by decide) rfl ?_
      refine e_iload dX10_findFault_37 rfl ?_
      refine e_if_eq (tgt := 56) dX10_findFault_39 rfl (fun hc8 => ?_) (fun hc8 => ?_)
      · replace h9 := ifT hc8 h9
        refine e_aload_n dX10_findFault_56 rfl rfl ?_
        refine e_iload_n dX10_findFault_57 rfl rfl ?_
        obtain ⟨⟨r9, w10⟩, hr9, h9⟩ := elimP hN1 h9
        refine x_callVi (c := 10) (As := [.int ((v1.2.2.2.1 900 p1 v1.1.toNatClampNeg).toInt32)]) (rest := []) okX10_openClause lkX10_39 rfl (by decide) rfl dX10_findFault_58 rfl rfl (Nat.le_of_ble_eq_true rfl) rfl (c_X10_openClause ((v1.2.2.2.1 900 p1 v1.1.toNatClampNeg).toInt32) hr9 (CI.mk ?_))
        refine e_if_ne (tgt := 66) dX10_findFault_61 rfl (fun hc12 => ?_) (fun hc12 => ?_)
        · replace h9 := ifF hc12 h9
          refine e_iinc (v := (v1.1 + 1)) (L' := [some (.ref (ad 10 0)), some (.ref (ad 9 p1)), some (.int (v1.1 + 1)), some (.int ((v1.2.2.2.1 900 p1 v1.1.toNatClampNeg).toInt32)), some (.int a7)]) dX10_findFault_66 rfl rfl (by decide) rfl ?_
          refine e_goto (tgt := 2) dX10_findFault_69 rfl ?_
          refine e_wk (L' := [some (.ref (ad 10 0)), some (.ref (ad 9 p1)), some (.int (v1.1 + 1)), none, none]) (wkC (wkC (wkC (wkN (wkN wk0))))) ?_
          exact hB0_1 _ _ h9
        · replace h9 := ifT hc12 h9
          refine e_iload_n dX10_findFault_64 rfl rfl ?_
          exact x_iret dX10_findFault_65 rfl (hR1 _ _ h9)
      · replace h9 := ifF hc8 h9
        refine e_aload_n dX10_findFault_42 rfl rfl ?_
        refine e_iload_n dX10_findFault_43 rfl rfl ?_
        refine e_bipush (v := 48) dX10_findFault_44 rfl ?_
        refine e_isub dX10_findFault_46 ?_
        obtain ⟨⟨r13, w14⟩, hr13, h9⟩ := elimP hN1 h9
        refine x_callVi (c := 10) (As := [.int (((v1.2.2.2.1 900 p1 v1.1.toNatClampNeg).toInt32) - 48)]) (rest := []) okX10_addDigit lkX10_35 rfl (by decide) rfl dX10_findFault_47 rfl rfl (Nat.le_of_ble_eq_true rfl) rfl (c_X10_addDigit (((v1.2.2.2.1 900 p1 v1.1.toNatClampNeg).toInt32) - 48) hr13 (CI.mk ?_))
        refine e_if_ne (tgt := 66) dX10_findFault_50 rfl (fun hc16 => ?_) (fun hc16 => ?_)
        · replace h9 := ifF hc16 h9
          refine e_iinc (v := (v1.1 + 1)) (L' := [some (.ref (ad 10 0)), some (.ref (ad 9 p1)), some (.int (v1.1 + 1)), some (.int ((v1.2.2.2.1 900 p1 v1.1.toNatClampNeg).toInt32)), some (.int a7)]) dX10_findFault_66 rfl rfl (by decide) rfl ?_
          refine e_goto (tgt := 2) dX10_findFault_69 rfl ?_
          refine e_wk (L' := [some (.ref (ad 10 0)), some (.ref (ad 9 p1)), some (.int (v1.1 + 1)), none, none]) (wkC (wkC (wkC (wkN (wkN wk0))))) ?_
          exact hB0_1 _ _ h9
        · replace h9 := ifT hc16 h9
          refine e_goto (tgt := 64) dX10_findFault_53 rfl ?_
          refine e_iload_n dX10_findFault_64 rfl rfl ?_
          exact x_iret dX10_findFault_65 rfl (hR1 _ _ h9)
    have hj34 : Φ1 (j_X10_findFault_34 x p1 v1) → EX g (d + 2) MX10_findFault ad v1.2 m 34 [some (.ref (ad 10 0)), some (.ref (ad 9 p1)), some (.int v1.1), some (.int ((v1.2.2.2.1 900 p1 v1.1.toNatClampNeg).toInt32)), none] [] Q := by
      intro h9
      unfold j_X10_findFault_34 at h9
      refine e_iconst (v := 0) dX10_findFault_34 rfl ?_
      exact hj35 0 h9
    refine e_icmp_lt (tgt := 34) dX10_findFault_21 rfl (fun hc17 => ?_) (fun hc17 => ?_)
    · replace h9 := ifT hc17 h9
      exact hj34 h9
    · replace h9 := ifF hc17 h9
      refine e_iload_n dX10_findFault_24 rfl rfl ?_
      refine e_bipush (v := 57) dX10_findFault_25 rfl ?_
      refine e_icmp_gt (tgt := 34) dX10_findFault_27 rfl (fun hc18 => ?_) (fun hc18 => ?_)
      · replace h9 := ifT hc18 h9
        exact hj34 h9
      · replace h9 := ifF hc18 h9
        refine e_iconst (v := 1) dX10_findFault_30 rfl ?_
        refine e_goto (tgt := 35) dX10_findFault_31 rfl ?_
        exact hj35 1 h9
noncomputable def b_X10_read_7 (x : VM) (p1 : Nat) (v1 : Int32 × VM) : (Int32 × VM) ⊕ (Option (VM)) := if 6 ≤ v1.1 then (f_X10_findFault v1.2 p1).elim (Sum.inr none) (fun r3p => Sum.inr (some (setI r3p.2 1002 0 r3p.1))) else if inb v1.1 6 = true then Sum.inl (v1.1 + 1, setA v1.2 1000 0 (upd (v1.2.2.1 1000 0) v1.1.toNatClampNeg (-1))) else Sum.inr none
noncomputable def f_X10_read (x : VM) (p1 : Nat) : Option (VM) := loopF none (b_X10_read_7 x p1) (0, setI x 1001 0 (-1))
theorem c_X10_read {g : GG} {d : Nat} {ad : AD} {x m : VM} {Q : Option Value → VM → VM → Prop} (p1 : Nat) {w9 : VM} (hf : f_X10_read x p1 = some w9) (hq : Q none w9 m) : CX g (d + 3) MX10_read [.ref (ad 10 0), .ref (ad 9 p1)] ad x m Q := by
  refine CX.to (Lv := [some (.ref (ad 10 0)), some (.ref (ad 9 p1)), none]) okX10_read (Nat.le_of_ble_eq_true rfl) rfl ?_
  obtain ⟨Φ0, hΦ⟩ : ∃ Φ : Option (VM) → Prop, Φ = fun o => o = some w9 := ⟨_, rfl⟩
  have hN0 : Φ0 none → False := by rw [hΦ]; intro h; cases h
  have hR0 : ∀ z9, Φ0 (some z9) → Q none z9 m := by rw [hΦ]; intro z9 h; cases h; exact hq
  have h9 : Φ0 (f_X10_read x p1) := by rw [hΦ]; exact hf
  clear hf hq hΦ
  unfold f_X10_read at h9
  refine e_aload_n dX10_read_0 rfl rfl ?_
  refine e_iconst (v := (-1)) dX10_read_1 rfl ?_
  refine p_1001 flX10_15 dX10_read_2 ?_
  refine e_iconst (v := 0) dX10_read_5 rfl ?_
  refine e_istore_n (L' := [some (.ref (ad 10 0)), some (.ref (ad 9 p1)), some (.int 0)]) dX10_read_6 rfl (by decide) rfl ?_
  refine loop_gen (b_X10_read_7 x p1) none (fun v1 => EX g (d + 3) MX10_read ad v1.2 m 7 [some (.ref (ad 10 0)), some (.ref (ad 9 p1)), some (.int v1.1)] [] Q) Φ0 hN0 (fun v1 Φ1 hB0_1 hO1 h9 => ?_) (0, setI x 1001 0 (-1)) h9
  have hN1 := fun h => hN0 (hO1 _ h)
  have hR1 := fun r9 h => hR0 r9 (hO1 _ h)
  have hB0_1 : ∀ (z0 : Int32) (z1 : VM), Φ1 (Sum.inl (z0, z1)) → EX g (d + 3) MX10_read ad z1 m 7 [some (.ref (ad 10 0)), some (.ref (ad 9 p1)), some (.int z0)] [] Q := fun z0 z1 h => hB0_1 (z0, z1) h
  unfold b_X10_read_7 at h9
  refine e_iload_n dX10_read_7 rfl rfl ?_
  refine e_bipush (v := 6) dX10_read_8 rfl ?_
  refine e_icmp_ge (tgt := 26) dX10_read_10 rfl (fun hc2 => ?_) (fun hc2 => ?_)
  · replace h9 := ifT hc2 h9
    refine e_aload_n dX10_read_26 rfl rfl ?_
    refine e_aload_n dX10_read_27 rfl rfl ?_
    refine e_aload_n dX10_read_28 rfl rfl ?_
    obtain ⟨⟨r3, w4⟩, hr3, h9⟩ := elimP hN1 h9
    refine x_callVi (c := 10) (As := [.ref (ad 9 p1)]) (rest := [.ref (ad 10 0)]) okX10_findFault lkX10_22 rfl (by decide) rfl dX10_read_29 rfl rfl (Nat.le_of_ble_eq_true rfl) rfl (c_X10_findFault p1 hr3 (CI.mk ?_))
    refine p_1002 flX10_19 dX10_read_32 ?_
    exact x_vret dX10_read_35 rfl (hR1 _ h9)
  · replace h9 := ifF hc2 h9
    refine e_aload_n dX10_read_13 rfl rfl ?_
    refine g_1000 flX10_9 dX10_read_14 ?_
    refine e_iload_n dX10_read_17 rfl rfl ?_
    refine e_iconst (v := (-1)) dX10_read_18 rfl ?_
    obtain ⟨k6, h9⟩ := chkP hN1 h9
    refine s_1000 dX10_read_19 (inb_in k6) ?_
    refine e_iinc (v := (v1.1 + 1)) (L' := [some (.ref (ad 10 0)), some (.ref (ad 9 p1)), some (.int (v1.1 + 1))]) dX10_read_20 rfl rfl (by decide) rfl ?_
    refine e_goto (tgt := 7) dX10_read_23 rfl ?_
    exact hB0_1 _ _ h9
noncomputable def f_X11_shelfAt (x : VM) (p1 : Int32) : Option (Option Nat) := if p1 < 0 then some none else if p1 < 8 then if inb p1 8 = true then some (some p1.toNatClampNeg) else none else some none
theorem c_X11_shelfAt {g : GG} {d : Nat} {ad : AD} {x m : VM} {Q : Option Value → VM → VM → Prop} (p1 : Int32) {r9 : Option Nat} (hf : f_X11_shelfAt x p1 = some r9) (hq : Q (some (va_rf (r9.map (ad 9)))) x m) : CX g d MX11_shelfAt [.ref (ad 11 0), .int p1] ad x m Q := by
  refine CX.to (Lv := [some (.ref (ad 11 0)), some (.int p1)]) okX11_shelfAt (Nat.le_of_ble_eq_true rfl) rfl ?_
  obtain ⟨Φ0, hΦ⟩ : ∃ Φ : Option (Option Nat) → Prop, Φ = fun o => o = some r9 := ⟨_, rfl⟩
  have hN0 : Φ0 none → False := by rw [hΦ]; intro h; cases h
  have hR0 : ∀ z9, Φ0 (some z9) → Q (some (va_rf (z9.map (ad 9)))) x m := by rw [hΦ]; intro z9 h; cases h; exact hq
  have h9 : Φ0 (f_X11_shelfAt x p1) := by rw [hΦ]; exact hf
  clear hf hq hΦ
  unfold f_X11_shelfAt at h9
  refine e_iload_n dX11_shelfAt_0 rfl rfl ?_
  refine e_if_lt (tgt := 10) dX11_shelfAt_1 rfl (fun hc1 => ?_) (fun hc1 => ?_)
  · replace h9 := ifT hc1 h9
    refine e_null dX11_shelfAt_10 ?_
    refine e_goto (tgt := 20) dX11_shelfAt_11 rfl ?_
    exact x_aretN dX11_shelfAt_20 rfl (hR0 _ h9)
  · replace h9 := ifF hc1 h9
    refine e_iload_n dX11_shelfAt_4 rfl rfl ?_
    refine e_bipush (v := 8) dX11_shelfAt_5 rfl ?_
    refine e_icmp_lt (tgt := 14) dX11_shelfAt_7 rfl (fun hc2 => ?_) (fun hc2 => ?_)
    · replace h9 := ifT hc2 h9
      refine e_aload_n dX11_shelfAt_14 rfl rfl ?_
      refine g_1100 flX11_11 dX11_shelfAt_15 ?_
      refine e_iload_n dX11_shelfAt_18 rfl rfl ?_
      obtain ⟨k3, h9⟩ := chkP hN0 h9
      refine l_1100 dX11_shelfAt_19 (inb_in k3) ?_
      refine e_top (v := .ref (ad 9 p1.toNatClampNeg)) rfl ?_
      exact x_aret dX11_shelfAt_20 rfl (hR0 _ h9)
    · replace h9 := ifF hc2 h9
      refine e_null dX11_shelfAt_10 ?_
      refine e_goto (tgt := 20) dX11_shelfAt_11 rfl ?_
      exact x_aretN dX11_shelfAt_20 rfl (hR0 _ h9)
noncomputable def f_X11_refused (x : VM) (p1 : Int32) : Option (Int32 × VM) := if p1 < (-7) then some (p1, x) else if (-1) < p1 then some (p1, x) else if inb ((-p1) - 1) 7 = true then if inb ((-p1) - 1) 7 = true then some (p1, setA x 1112 0 (upd (x.2.1 1112 0) (((-p1) - 1).toNatClampNeg) ((x.2.1 1112 0 (((-p1) - 1).toNatClampNeg)) + 1))) else none else none
theorem c_X11_refused {g : GG} {d : Nat} {ad : AD} {x m : VM} {Q : Option Value → VM → VM → Prop} (p1 : Int32) {r9 : Int32} {w9 : VM} (hf : f_X11_refused x p1 = some (r9, w9)) (hq : Q (some (.int r9)) w9 m) : CX g d MX11_refused [.ref (ad 11 0), .int p1] ad x m Q := by
  refine CX.to (Lv := [some (.ref (ad 11 0)), some (.int p1)]) okX11_refused (Nat.le_of_ble_eq_true rfl) rfl ?_
  obtain ⟨Φ0, hΦ⟩ : ∃ Φ : Option (Int32 × VM) → Prop, Φ = fun o => o = some (r9, w9) := ⟨_, rfl⟩
  have hN0 : Φ0 none → False := by rw [hΦ]; intro h; cases h
  have hR0 : ∀ z9 y9, Φ0 (some (z9, y9)) → Q (some (.int z9)) y9 m := by rw [hΦ]; intro z9 y9 h; cases h; exact hq
  have h9 : Φ0 (f_X11_refused x p1) := by rw [hΦ]; exact hf
  clear hf hq hΦ
  unfold f_X11_refused at h9
  refine e_iload_n dX11_refused_0 rfl rfl ?_
  refine e_bipush (v := (-7)) dX11_refused_1 rfl ?_
  refine e_icmp_lt (tgt := 24) dX11_refused_3 rfl (fun hc1 => ?_) (fun hc1 => ?_)
  · replace h9 := ifT hc1 h9
    refine e_iload_n dX11_refused_24 rfl rfl ?_
    exact x_iret dX11_refused_25 rfl (hR0 _ _ h9)
  · replace h9 := ifF hc1 h9
    refine e_iload_n dX11_refused_6 rfl rfl ?_
    refine e_iconst (v := (-1)) dX11_refused_7 rfl ?_
    refine e_icmp_gt (tgt := 24) dX11_refused_8 rfl (fun hc2 => ?_) (fun hc2 => ?_)
    · replace h9 := ifT hc2 h9
      refine e_iload_n dX11_refused_24 rfl rfl ?_
      exact x_iret dX11_refused_25 rfl (hR0 _ _ h9)
    · replace h9 := ifF hc2 h9
      refine e_aload_n dX11_refused_11 rfl rfl ?_
      refine g_1112 flX11_82 dX11_refused_12 ?_
      refine e_iload_n dX11_refused_15 rfl rfl ?_
      refine e_ineg dX11_refused_16 ?_
      refine e_iconst (v := 1) dX11_refused_17 rfl ?_
      refine e_isub dX11_refused_18 ?_
      refine e_dup2_11 dX11_refused_19 rfl rfl ?_
      obtain ⟨k3, h9⟩ := chkP hN0 h9
      refine l_1112 dX11_refused_20 (inb_in k3) ?_
      refine e_pc (pc' := 21) rfl ?_
      refine e_iconst (v := 1) dX11_refused_21 rfl ?_
      refine e_iadd dX11_refused_22 ?_
      obtain ⟨k4, h9⟩ := chkP hN0 h9
      refine s_1112 dX11_refused_23 (inb_in k4) ?_
      refine e_iload_n dX11_refused_24 rfl rfl ?_
      exact x_iret dX11_refused_25 rfl (hR0 _ _ h9)
noncomputable def f_X11_row (x : VM) (p1 : Int32) (p2 : Int32) (p3 : Int32) : Option (Int32 × VM) := (f_X11_shelfAt x p1).elim none (fun r1 => r1.elim ((f_X11_refused x (-1)).elim none (fun r3p => some (r3p.1, r3p.2))) (fun i2 => if 0 ≤ p3 then if p2 < 0 then (f_X11_refused x (-6)).elim none (fun r8p => some (r8p.1, r8p.2)) else if p2 ≤ 3 then if p3 ≤ 60 then if i2 < 8 then (f_X9_becomeRow x i2 p2 p3).elim none (fun r14 => some (1, r14)) else none else (f_X11_refused x (-7)).elim none (fun r16p => some (r16p.1, r16p.2)) else (f_X11_refused x (-6)).elim none (fun r19p => some (r19p.1, r19p.2)) else (f_X11_refused x (-4)).elim none (fun r22p => some (r22p.1, r22p.2))))
theorem c_X11_row {g : GG} {d : Nat} {ad : AD} {x m : VM} {Q : Option Value → VM → VM → Prop} (p1 : Int32) (p2 : Int32) (p3 : Int32) {r9 : Int32} {w9 : VM} (hf : f_X11_row x p1 p2 p3 = some (r9, w9)) (hq : Q (some (.int r9)) w9 m) : CX g (d + 1) MX11_row [.ref (ad 11 0), .int p1, .int p2, .int p3] ad x m Q := by
  refine CX.to (Lv := [some (.ref (ad 11 0)), some (.int p1), some (.int p2), some (.int p3), none]) okX11_row (Nat.le_of_ble_eq_true rfl) rfl ?_
  obtain ⟨Φ0, hΦ⟩ : ∃ Φ : Option (Int32 × VM) → Prop, Φ = fun o => o = some (r9, w9) := ⟨_, rfl⟩
  have hN0 : Φ0 none → False := by rw [hΦ]; intro h; cases h
  have hR0 : ∀ z9 y9, Φ0 (some (z9, y9)) → Q (some (.int z9)) y9 m := by rw [hΦ]; intro z9 y9 h; cases h; exact hq
  have h9 : Φ0 (f_X11_row x p1 p2 p3) := by rw [hΦ]; exact hf
  clear hf hq hΦ
  unfold f_X11_row at h9
  refine e_aload_n dX11_row_0 rfl rfl ?_
  refine e_iload_n dX11_row_1 rfl rfl ?_
  obtain ⟨r1, hr1, h9⟩ := elimP hN0 h9
  refine x_callVi (c := 11) (As := [.int p1]) (rest := []) okX11_shelfAt lkX11_115 rfl (by decide) rfl dX11_row_2 rfl rfl (Nat.le_of_ble_eq_true rfl) rfl (c_X11_shelfAt p1 hr1 (CI.mk ?_))
  cases r1 with
  | none =>
    replace h9 := elN h9
    refine e_top (v := .null) rfl ?_
    refine e_astoreN (L' := [some (.ref (ad 11 0)), some (.int p1), some (.int p2), some (.int p3), some (.null)]) dX11_row_5 (by decide) rfl ?_
    refine e_aloadN dX11_row_7 rfl ?_
    refine e_ifnonnullN dX11_row_9 ?_
    refine e_aload_n dX11_row_12 rfl rfl ?_
    refine e_iconst (v := (-1)) dX11_row_13 rfl ?_
    obtain ⟨⟨r3, w4⟩, hr3, h9⟩ := elimP hN0 h9
    refine x_callVi (c := 11) (As := [.int (-1)]) (rest := []) okX11_refused lkX11_105 rfl (by decide) rfl dX11_row_14 rfl rfl (Nat.le_of_ble_eq_true rfl) rfl (c_X11_refused (-1) hr3 (CI.mk ?_))
    exact x_iret dX11_row_17 rfl (hR0 _ _ h9)
  | some i2 =>
    replace h9 := elS h9
    refine e_top (v := .ref (ad 9 i2)) rfl ?_
    refine e_astore (L' := [some (.ref (ad 11 0)), some (.int p1), some (.int p2), some (.int p3), some (.ref (ad 9 i2))]) dX11_row_5 (by decide) rfl ?_
    refine e_aload dX11_row_7 rfl ?_
    refine e_ifnonnull (tgt := 18) dX11_row_9 rfl ?_
    refine e_iload_n dX11_row_18 rfl rfl ?_
    refine e_if_ge (tgt := 29) dX11_row_19 rfl (fun hc6 => ?_) (fun hc6 => ?_)
    · replace h9 := ifT hc6 h9
      refine e_iload_n dX11_row_29 rfl rfl ?_
      refine e_if_lt (tgt := 38) dX11_row_30 rfl (fun hc7 => ?_) (fun hc7 => ?_)
      · replace h9 := ifT hc7 h9
        refine e_aload_n dX11_row_38 rfl rfl ?_
        refine e_bipush (v := (-6)) dX11_row_39 rfl ?_
        obtain ⟨⟨r8, w9⟩, hr8, h9⟩ := elimP hN0 h9
        refine x_callVi (c := 11) (As := [.int (-6)]) (rest := []) okX11_refused lkX11_105 rfl (by decide) rfl dX11_row_41 rfl rfl (Nat.le_of_ble_eq_true rfl) rfl (c_X11_refused (-6) hr8 (CI.mk ?_))
        exact x_iret dX11_row_44 rfl (hR0 _ _ h9)
      · replace h9 := ifF hc7 h9
        refine e_iload_n dX11_row_33 rfl rfl ?_
        refine e_iconst (v := 3) dX11_row_34 rfl ?_
        refine e_icmp_le (tgt := 45) dX11_row_35 rfl (fun hc11 => ?_) (fun hc11 => ?_)
        · replace h9 := ifT hc11 h9
          refine e_iload_n dX11_row_45 rfl rfl ?_
          refine e_bipush (v := 60) dX11_row_46 rfl ?_
          refine e_icmp_le (tgt := 58) dX11_row_48 rfl (fun hc12 => ?_) (fun hc12 => ?_)
          · replace h9 := ifT hc12 h9
            refine e_aload dX11_row_58 rfl ?_
            refine e_iload_n dX11_row_60 rfl rfl ?_
            refine e_iload_n dX11_row_61 rfl rfl ?_
            obtain ⟨k13, h9⟩ := chkP hN0 h9
            obtain ⟨r14, hr14, h9⟩ := elimP hN0 h9
            refine x_callVv (c := 9) (As := [.int p2, .int p3]) (rest := []) okX9_becomeRow lkX11_119 rfl (by decide) rfl dX11_row_62 rfl rfl (Nat.le_of_ble_eq_true rfl) k13 (c_X9_becomeRow i2 p2 p3 hr14 (CV.mk ?_))
            refine e_iconst (v := 1) dX11_row_65 rfl ?_
            exact x_iret dX11_row_66 rfl (hR0 _ _ h9)
          · replace h9 := ifF hc12 h9
            refine e_aload_n dX11_row_51 rfl rfl ?_
            refine e_bipush (v := (-7)) dX11_row_52 rfl ?_
            obtain ⟨⟨r16, w17⟩, hr16, h9⟩ := elimP hN0 h9
            refine x_callVi (c := 11) (As := [.int (-7)]) (rest := []) okX11_refused lkX11_105 rfl (by decide) rfl dX11_row_54 rfl rfl (Nat.le_of_ble_eq_true rfl) rfl (c_X11_refused (-7) hr16 (CI.mk ?_))
            exact x_iret dX11_row_57 rfl (hR0 _ _ h9)
        · replace h9 := ifF hc11 h9
          refine e_aload_n dX11_row_38 rfl rfl ?_
          refine e_bipush (v := (-6)) dX11_row_39 rfl ?_
          obtain ⟨⟨r19, w20⟩, hr19, h9⟩ := elimP hN0 h9
          refine x_callVi (c := 11) (As := [.int (-6)]) (rest := []) okX11_refused lkX11_105 rfl (by decide) rfl dX11_row_41 rfl rfl (Nat.le_of_ble_eq_true rfl) rfl (c_X11_refused (-6) hr19 (CI.mk ?_))
          exact x_iret dX11_row_44 rfl (hR0 _ _ h9)
    · replace h9 := ifF hc6 h9
      refine e_aload_n dX11_row_22 rfl rfl ?_
      refine e_bipush (v := (-4)) dX11_row_23 rfl ?_
      obtain ⟨⟨r22, w23⟩, hr22, h9⟩ := elimP hN0 h9
      refine x_callVi (c := 11) (As := [.int (-4)]) (rest := []) okX11_refused lkX11_105 rfl (by decide) rfl dX11_row_25 rfl rfl (Nat.le_of_ble_eq_true rfl) rfl (c_X11_refused (-4) hr22 (CI.mk ?_))
      exact x_iret dX11_row_28 rfl (hR0 _ _ h9)
noncomputable def f_X11_rowLack (x : VM) (p1 : Int32) : Option (Int32) := (f_X11_shelfAt x p1).elim none (fun r1 => r1.elim (some (-1)) (fun i2 => if i2 < 8 then (f_X9_lackOfRow x i2).elim none (fun r4 => some r4) else none))
theorem c_X11_rowLack {g : GG} {d : Nat} {ad : AD} {x m : VM} {Q : Option Value → VM → VM → Prop} (p1 : Int32) {r9 : Int32} (hf : f_X11_rowLack x p1 = some r9) (hq : Q (some (.int r9)) x m) : CX g (d + 1) MX11_rowLack [.ref (ad 11 0), .int p1] ad x m Q := by
  refine CX.to (Lv := [some (.ref (ad 11 0)), some (.int p1), none]) okX11_rowLack (Nat.le_of_ble_eq_true rfl) rfl ?_
  obtain ⟨Φ0, hΦ⟩ : ∃ Φ : Option (Int32) → Prop, Φ = fun o => o = some r9 := ⟨_, rfl⟩
  have hN0 : Φ0 none → False := by rw [hΦ]; intro h; cases h
  have hR0 : ∀ z9, Φ0 (some z9) → Q (some (.int z9)) x m := by rw [hΦ]; intro z9 h; cases h; exact hq
  have h9 : Φ0 (f_X11_rowLack x p1) := by rw [hΦ]; exact hf
  clear hf hq hΦ
  unfold f_X11_rowLack at h9
  refine e_aload_n dX11_rowLack_0 rfl rfl ?_
  refine e_iload_n dX11_rowLack_1 rfl rfl ?_
  obtain ⟨r1, hr1, h9⟩ := elimP hN0 h9
  refine x_callVi (c := 11) (As := [.int p1]) (rest := []) okX11_shelfAt lkX11_115 rfl (by decide) rfl dX11_rowLack_2 rfl rfl (Nat.le_of_ble_eq_true rfl) rfl (c_X11_shelfAt p1 hr1 (CI.mk ?_))
  cases r1 with
  | none =>
    replace h9 := elN h9
    refine e_top (v := .null) rfl ?_
    refine e_astore_nN (L' := [some (.ref (ad 11 0)), some (.int p1), some (.null)]) dX11_rowLack_5 rfl (by decide) rfl ?_
    refine e_aload_nN dX11_rowLack_6 rfl rfl ?_
    refine e_ifnonnullN dX11_rowLack_7 ?_
    refine e_iconst (v := (-1)) dX11_rowLack_10 rfl ?_
    refine e_goto (tgt := 18) dX11_rowLack_11 rfl ?_
    exact x_iret dX11_rowLack_18 rfl (hR0 _ h9)
  | some i2 =>
    replace h9 := elS h9
    refine e_top (v := .ref (ad 9 i2)) rfl ?_
    refine e_astore_n (L' := [some (.ref (ad 11 0)), some (.int p1), some (.ref (ad 9 i2))]) dX11_rowLack_5 rfl (by decide) rfl ?_
    refine e_aload_n dX11_rowLack_6 rfl rfl ?_
    refine e_ifnonnull (tgt := 14) dX11_rowLack_7 rfl ?_
    refine e_aload_n dX11_rowLack_14 rfl rfl ?_
    obtain ⟨k3, h9⟩ := chkP hN0 h9
    obtain ⟨r4, hr4, h9⟩ := elimP hN0 h9
    refine x_callVi (c := 9) (As := []) (rest := []) okX9_lackOfRow lkX11_137 rfl (by decide) rfl dX11_rowLack_15 rfl rfl (Nat.le_of_ble_eq_true rfl) k3 (c_X9_lackOfRow i2 hr4 (CI.mk ?_))
    exact x_iret dX11_rowLack_18 rfl (hR0 _ h9)
noncomputable def f_X11_set (x : VM) (p1 : Int32) (p2 : Int32) (p3 : Int64) : Option (Int32 × VM) := (f_X11_rowLack x p1).elim none (fun r1 => if r1 = 0 then if inb p1 8 = true then if p2 < 0 then (f_X11_refused x (-5)).elim none (fun r5p => some (r5p.1, r5p.2)) else if p1.toNatClampNeg < 8 then if p2 < (x.1 902 p1.toNatClampNeg) then (f_X9_lowestBits x p1.toNatClampNeg p3).elim none (fun r10 => if inb p2 60 = true then some (1, setJ x 900 p1.toNatClampNeg (vp_updL (x.2.2.1 900 p1.toNatClampNeg) p2.toNatClampNeg r10)) else none) else (f_X11_refused x (-5)).elim none (fun r12p => some (r12p.1, r12p.2)) else none else none else (f_X11_refused x r1).elim none (fun r15p => some (r15p.1, r15p.2)))
theorem c_X11_set {g : GG} {d : Nat} {ad : AD} {x m : VM} {Q : Option Value → VM → VM → Prop} (p1 : Int32) (p2 : Int32) (p3 : Int64) {r9 : Int32} {w9 : VM} (hf : f_X11_set x p1 p2 p3 = some (r9, w9)) (hq : Q (some (.int r9)) w9 m) : CX g (d + 2) MX11_set [.ref (ad 11 0), .int p1, .int p2, .long p3] ad x m Q := by
  refine CX.to (Lv := [some (.ref (ad 11 0)), some (.int p1), some (.int p2), some (.long p3), none, none, none]) okX11_set (Nat.le_of_ble_eq_true rfl) rfl ?_
  obtain ⟨Φ0, hΦ⟩ : ∃ Φ : Option (Int32 × VM) → Prop, Φ = fun o => o = some (r9, w9) := ⟨_, rfl⟩
  have hN0 : Φ0 none → False := by rw [hΦ]; intro h; cases h
  have hR0 : ∀ z9 y9, Φ0 (some (z9, y9)) → Q (some (.int z9)) y9 m := by rw [hΦ]; intro z9 y9 h; cases h; exact hq
  have h9 : Φ0 (f_X11_set x p1 p2 p3) := by rw [hΦ]; exact hf
  clear hf hq hΦ
  unfold f_X11_set at h9
  refine e_aload_n dX11_set_0 rfl rfl ?_
  refine e_iload_n dX11_set_1 rfl rfl ?_
  obtain ⟨r1, hr1, h9⟩ := elimP hN0 h9
  refine x_callVi (c := 11) (As := [.int p1]) (rest := []) okX11_rowLack lkX11_123 rfl (by decide) rfl dX11_set_2 rfl rfl (Nat.le_of_ble_eq_true rfl) rfl (c_X11_rowLack p1 hr1 (CI.mk ?_))
  refine e_istore (L' := [some (.ref (ad 11 0)), some (.int p1), some (.int p2), some (.long p3), none, some (.int r1), none]) dX11_set_5 (by decide) rfl ?_
  refine e_iload dX11_set_7 rfl ?_
  refine e_if_eq (tgt := 19) dX11_set_9 rfl (fun hc2 => ?_) (fun hc2 => ?_)
  · replace h9 := ifT hc2 h9
    refine e_aload_n dX11_set_19 rfl rfl ?_
    refine g_1100 flX11_11 dX11_set_20 ?_
    refine e_iload_n dX11_set_23 rfl rfl ?_
    obtain ⟨k3, h9⟩ := chkP hN0 h9
    refine l_1100 dX11_set_24 (inb_in k3) ?_
    refine e_top (v := .ref (ad 9 p1.toNatClampNeg)) rfl ?_
    refine e_astore (L' := [some (.ref (ad 11 0)), some (.int p1), some (.int p2), some (.long p3), none, some (.int r1), some (.ref (ad 9 p1.toNatClampNeg))]) dX11_set_25 (by decide) rfl ?_
    refine e_iload_n dX11_set_27 rfl rfl ?_
    refine e_if_lt (tgt := 40) dX11_set_28 rfl (fun hc4 => ?_) (fun hc4 => ?_)
    · replace h9 := ifT hc4 h9
      refine e_aload_n dX11_set_40 rfl rfl ?_
      refine e_bipush (v := (-5)) dX11_set_41 rfl ?_
      obtain ⟨⟨r5, w6⟩, hr5, h9⟩ := elimP hN0 h9
      refine x_callVi (c := 11) (As := [.int (-5)]) (rest := []) okX11_refused lkX11_105 rfl (by decide) rfl dX11_set_43 rfl rfl (Nat.le_of_ble_eq_true rfl) rfl (c_X11_refused (-5) hr5 (CI.mk ?_))
      exact x_iret dX11_set_46 rfl (hR0 _ _ h9)
    · replace h9 := ifF hc4 h9
      refine e_iload_n dX11_set_31 rfl rfl ?_
      refine e_aload dX11_set_32 rfl ?_
      obtain ⟨k8, h9⟩ := chkP hN0 h9
      refine g_902 flX11_126 dX11_set_34 k8 ?_
      refine e_icmp_lt (tgt := 47) dX11_set_37 rfl (fun hc9 => ?_) (fun hc9 => ?_)
      · replace h9 := ifT hc9 h9
        refine e_aload dX11_set_47 rfl ?_
        refine g_900 flX11_129 dX11_set_49 k8 ?_
        refine e_iload_n dX11_set_52 rfl rfl ?_
        refine e_aload dX11_set_53 rfl ?_
        refine e_lload_n dX11_set_55 rfl rfl ?_
        obtain ⟨r10, hr10, h9⟩ := elimP hN0 h9
        refine x_callVi (c := 9) (As := [.long p3]) (rest := [.int p2, .ref (ad 1900 p1.toNatClampNeg)]) okX9_lowestBits lkX11_133 rfl (by decide) rfl dX11_set_56 rfl rfl (Nat.le_of_ble_eq_true rfl) k8 (c_X9_lowestBits p1.toNatClampNeg p3 hr10 (CI.mk ?_))
        obtain ⟨k11, h9⟩ := chkP hN0 h9
        refine s_900 dX11_set_59 k8 (inb_in k11) ?_
        refine e_iconst (v := 1) dX11_set_60 rfl ?_
        refine e_pc (pc' := 61) rfl ?_
        exact x_iret dX11_set_61 rfl (hR0 _ _ h9)
      · replace h9 := ifF hc9 h9
        refine e_aload_n dX11_set_40 rfl rfl ?_
        refine e_bipush (v := (-5)) dX11_set_41 rfl ?_
        obtain ⟨⟨r12, w13⟩, hr12, h9⟩ := elimP hN0 h9
        refine x_callVi (c := 11) (As := [.int (-5)]) (rest := []) okX11_refused lkX11_105 rfl (by decide) rfl dX11_set_43 rfl rfl (Nat.le_of_ble_eq_true rfl) rfl (c_X11_refused (-5) hr12 (CI.mk ?_))
        exact x_iret dX11_set_46 rfl (hR0 _ _ h9)
  · replace h9 := ifF hc2 h9
    refine e_aload_n dX11_set_12 rfl rfl ?_
    refine e_iload dX11_set_13 rfl ?_
    obtain ⟨⟨r15, w16⟩, hr15, h9⟩ := elimP hN0 h9
    refine x_callVi (c := 11) (As := [.int r1]) (rest := []) okX11_refused lkX11_105 rfl (by decide) rfl dX11_set_15 rfl rfl (Nat.le_of_ble_eq_true rfl) rfl (c_X11_refused r1 hr15 (CI.mk ?_))
    exact x_iret dX11_set_18 rfl (hR0 _ _ h9)
noncomputable def j_X11_copy_78 (x : VM) (p1 : Int32) (p2 : Int32) (p3 : Int32) (p4 : Int32) (p5 : Int32) (i2 : Nat) (i12 : Nat) (a26 : Int32) : Option (Int32 × VM) := if a26 = 0 then (f_X11_refused x (-3)).elim none (fun r48p => some (r48p.1, r48p.2)) else if (x.1 901 i2) = (x.1 901 i12) then if 0 ≤ p5 then (f_X9_hasSpan x i2 p3 p5).elim none (fun r30 => if r30 = 0 then (f_X11_refused x (-5)).elim none (fun r32p => some (r32p.1, r32p.2)) else (f_X9_hasSpan x i12 p4 p5).elim none (fun r35 => if r35 = 0 then (f_X11_refused x (-5)).elim none (fun r39p => some (r39p.1, r39p.2)) else if spn p3 p5 60 = true then if spn p4 p5 60 = true then some (1, setJ x 900 i12 (va_cpy (x.2.2.1 900 i2) (x.2.2.1 900 i12) p3.toNatClampNeg p4.toNatClampNeg p5.toNatClampNeg)) else none else none)) else (f_X11_refused x (-4)).elim none (fun r42p => some (r42p.1, r42p.2)) else (f_X11_refused x (-2)).elim none (fun r45p => some (r45p.1, r45p.2))
noncomputable def j_X11_copy_77 (x : VM) (p1 : Int32) (p2 : Int32) (p3 : Int32) (p4 : Int32) (p5 : Int32) (i2 : Nat) (i12 : Nat) : Option (Int32 × VM) := j_X11_copy_78 x p1 p2 p3 p4 p5 i2 i12 0
noncomputable def f_X11_copy (x : VM) (p1 : Int32) (p2 : Int32) (p3 : Int32) (p4 : Int32) (p5 : Int32) : Option (Int32 × VM) := (f_X11_shelfAt x p1).elim none (fun r1 => r1.elim ((f_X11_shelfAt x p2).elim none (fun r3 => r3.elim ((f_X11_refused x (-1)).elim none (fun r5p => some (r5p.1, r5p.2))) (fun i4 => (f_X11_refused x (-1)).elim none (fun r8p => some (r8p.1, r8p.2))))) (fun i2 => (f_X11_shelfAt x p2).elim none (fun r11 => r11.elim ((f_X11_refused x (-1)).elim none (fun r13p => some (r13p.1, r13p.2))) (fun i12 => if i2 < 8 then (f_X9_lackOfRow x i2).elim none (fun r17 => if r17 = (-2) then (f_X11_refused x (-2)).elim none (fun r19p => some (r19p.1, r19p.2)) else if i12 < 8 then (f_X9_lackOfRow x i12).elim none (fun r23 => if r23 = (-2) then (f_X11_refused x (-2)).elim none (fun r54p => some (r54p.1, r54p.2)) else (f_X9_lackOfRow x i2).elim none (fun r25 => if r25 = 0 then (f_X9_lackOfRow x i12).elim none (fun r52 => if r52 = 0 then j_X11_copy_78 x p1 p2 p3 p4 p5 i2 i12 1 else j_X11_copy_77 x p1 p2 p3 p4 p5 i2 i12) else j_X11_copy_77 x p1 p2 p3 p4 p5 i2 i12)) else none) else none))))
theorem c_X11_copy {g : GG} {d : Nat} {ad : AD} {x m : VM} {Q : Option Value → VM → VM → Prop} (p1 : Int32) (p2 : Int32) (p3 : Int32) (p4 : Int32) (p5 : Int32) {r9 : Int32} {w9 : VM} (hf : f_X11_copy x p1 p2 p3 p4 p5 = some (r9, w9)) (hq : Q (some (.int r9)) w9 m) : CX g (d + 1) MX11_copy [.ref (ad 11 0), .int p1, .int p2, .int p3, .int p4, .int p5] ad x m Q := by
  refine CX.to (Lv := [some (.ref (ad 11 0)), some (.int p1), some (.int p2), some (.int p3), some (.int p4), some (.int p5), none, none, none]) okX11_copy (Nat.le_of_ble_eq_true rfl) rfl ?_
  obtain ⟨Φ0, hΦ⟩ : ∃ Φ : Option (Int32 × VM) → Prop, Φ = fun o => o = some (r9, w9) := ⟨_, rfl⟩
  have hN0 : Φ0 none → False := by rw [hΦ]; intro h; cases h
  have hR0 : ∀ z9 y9, Φ0 (some (z9, y9)) → Q (some (.int z9)) y9 m := by rw [hΦ]; intro z9 y9 h; cases h; exact hq
  have h9 : Φ0 (f_X11_copy x p1 p2 p3 p4 p5) := by rw [hΦ]; exact hf
  clear hf hq hΦ
  unfold f_X11_copy at h9
  refine e_aload_n dX11_copy_0 rfl rfl ?_
  refine e_iload_n dX11_copy_1 rfl rfl ?_
  obtain ⟨r1, hr1, h9⟩ := elimP hN0 h9
  refine x_callVi (c := 11) (As := [.int p1]) (rest := []) okX11_shelfAt lkX11_115 rfl (by decide) rfl dX11_copy_2 rfl rfl (Nat.le_of_ble_eq_true rfl) rfl (c_X11_shelfAt p1 hr1 (CI.mk ?_))
  cases r1 with
  | none =>
    replace h9 := elN h9
    refine e_top (v := .null) rfl ?_
    refine e_astoreN (L' := [some (.ref (ad 11 0)), some (.int p1), some (.int p2), some (.int p3), some (.int p4), some (.int p5), some (.null), none, none]) dX11_copy_5 (by decide) rfl ?_
    refine e_aload_n dX11_copy_7 rfl rfl ?_
    refine e_iload_n dX11_copy_8 rfl rfl ?_
    obtain ⟨r3, hr3, h9⟩ := elimP hN0 h9
    refine x_callVi (c := 11) (As := [.int p2]) (rest := []) okX11_shelfAt lkX11_115 rfl (by decide) rfl dX11_copy_9 rfl rfl (Nat.le_of_ble_eq_true rfl) rfl (c_X11_shelfAt p2 hr3 (CI.mk ?_))
    cases r3 with
    | none =>
      replace h9 := elN h9
      refine e_top (v := .null) rfl ?_
      refine e_astoreN (L' := [some (.ref (ad 11 0)), some (.int p1), some (.int p2), some (.int p3), some (.int p4), some (.int p5), some (.null), some (.null), none]) dX11_copy_12 (by decide) rfl ?_
      refine e_aloadN dX11_copy_14 rfl ?_
      refine e_ifnullN (tgt := 24) dX11_copy_16 rfl ?_
      refine e_aload_n dX11_copy_24 rfl rfl ?_
      refine e_iconst (v := (-1)) dX11_copy_25 rfl ?_
      obtain ⟨⟨r5, w6⟩, hr5, h9⟩ := elimP hN0 h9
      refine x_callVi (c := 11) (As := [.int (-1)]) (rest := []) okX11_refused lkX11_105 rfl (by decide) rfl dX11_copy_26 rfl rfl (Nat.le_of_ble_eq_true rfl) rfl (c_X11_refused (-1) hr5 (CI.mk ?_))
      exact x_iret dX11_copy_29 rfl (hR0 _ _ h9)
    | some i4 =>
      replace h9 := elS h9
      refine e_top (v := .ref (ad 9 i4)) rfl ?_
      refine e_astore (L' := [some (.ref (ad 11 0)), some (.int p1), some (.int p2), some (.int p3), some (.int p4), some (.int p5), some (.null), some (.ref (ad 9 i4)), none]) dX11_copy_12 (by decide) rfl ?_
      refine e_aloadN dX11_copy_14 rfl ?_
      refine e_ifnullN (tgt := 24) dX11_copy_16 rfl ?_
      refine e_aload_n dX11_copy_24 rfl rfl ?_
      refine e_iconst (v := (-1)) dX11_copy_25 rfl ?_
      obtain ⟨⟨r8, w9⟩, hr8, h9⟩ := elimP hN0 h9
      refine x_callVi (c := 11) (As := [.int (-1)]) (rest := []) okX11_refused lkX11_105 rfl (by decide) rfl dX11_copy_26 rfl rfl (Nat.le_of_ble_eq_true rfl) rfl (c_X11_refused (-1) hr8 (CI.mk ?_))
      exact x_iret dX11_copy_29 rfl (hR0 _ _ h9)
  | some i2 =>
    replace h9 := elS h9
    refine e_top (v := .ref (ad 9 i2)) rfl ?_
    refine e_astore (L' := [some (.ref (ad 11 0)), some (.int p1), some (.int p2), some (.int p3), some (.int p4), some (.int p5), some (.ref (ad 9 i2)), none, none]) dX11_copy_5 (by decide) rfl ?_
    refine e_aload_n dX11_copy_7 rfl rfl ?_
    refine e_iload_n dX11_copy_8 rfl rfl ?_
    obtain ⟨r11, hr11, h9⟩ := elimP hN0 h9
    refine x_callVi (c := 11) (As := [.int p2]) (rest := []) okX11_shelfAt lkX11_115 rfl (by decide) rfl dX11_copy_9 rfl rfl (Nat.le_of_ble_eq_true rfl) rfl (c_X11_shelfAt p2 hr11 (CI.mk ?_))
    cases r11 with
    | none =>
      replace h9 := elN h9
      refine e_top (v := .null) rfl ?_
      refine e_astoreN (L' := [some (.ref (ad 11 0)), some (.int p1), some (.int p2), some (.int p3), some (.int p4), some (.int p5), some (.ref (ad 9 i2)), some (.null), none]) dX11_copy_12 (by decide) rfl ?_
      refine e_aload dX11_copy_14 rfl ?_
      refine e_ifnull dX11_copy_16 ?_
      refine e_aloadN dX11_copy_19 rfl ?_
      refine e_ifnonnullN dX11_copy_21 ?_
      refine e_aload_n dX11_copy_24 rfl rfl ?_
      refine e_iconst (v := (-1)) dX11_copy_25 rfl ?_
      obtain ⟨⟨r13, w14⟩, hr13, h9⟩ := elimP hN0 h9
      refine x_callVi (c := 11) (As := [.int (-1)]) (rest := []) okX11_refused lkX11_105 rfl (by decide) rfl dX11_copy_26 rfl rfl (Nat.le_of_ble_eq_true rfl) rfl (c_X11_refused (-1) hr13 (CI.mk ?_))
      refine e_pc (pc' := 29) rfl ?_
      exact x_iret dX11_copy_29 rfl (hR0 _ _ h9)
    | some i12 =>
      replace h9 := elS h9
      refine e_top (v := .ref (ad 9 i12)) rfl ?_
      refine e_astore (L' := [some (.ref (ad 11 0)), some (.int p1), some (.int p2), some (.int p3), some (.int p4), some (.int p5), some (.ref (ad 9 i2)), some (.ref (ad 9 i12)), none]) dX11_copy_12 (by decide) rfl ?_
      refine e_aload dX11_copy_14 rfl ?_
      refine e_ifnull dX11_copy_16 ?_
      refine e_aload dX11_copy_19 rfl ?_
      refine e_ifnonnull (tgt := 30) dX11_copy_21 rfl ?_
      refine e_aload dX11_copy_30 rfl ?_
      obtain ⟨k16, h9⟩ := chkP hN0 h9
      obtain ⟨r17, hr17, h9⟩ := elimP hN0 h9
      refine x_callVi (c := 9) (As := []) (rest := []) okX9_lackOfRow lkX11_137 rfl (by decide) rfl dX11_copy_32 rfl rfl (Nat.le_of_ble_eq_true rfl) k16 (c_X9_lackOfRow i2 hr17 (CI.mk ?_))
      refine e_bipush (v := (-2)) dX11_copy_35 rfl ?_
      refine e_pc (pc' := 37) rfl ?_
      refine e_icmp_eq (tgt := 50) dX11_copy_37 rfl (fun hc18 => ?_) (fun hc18 => ?_)
      · replace h9 := ifT hc18 h9
        refine e_aload_n dX11_copy_50 rfl rfl ?_
        refine e_bipush (v := (-2)) dX11_copy_51 rfl ?_
        obtain ⟨⟨r19, w20⟩, hr19, h9⟩ := elimP hN0 h9
        refine x_callVi (c := 11) (As := [.int (-2)]) (rest := []) okX11_refused lkX11_105 rfl (by decide) rfl dX11_copy_53 rfl rfl (Nat.le_of_ble_eq_true rfl) rfl (c_X11_refused (-2) hr19 (CI.mk ?_))
        exact x_iret dX11_copy_56 rfl (hR0 _ _ h9)
      · replace h9 := ifF hc18 h9
        refine e_aload dX11_copy_40 rfl ?_
        obtain ⟨k22, h9⟩ := chkP hN0 h9
        obtain ⟨r23, hr23, h9⟩ := elimP hN0 h9
        refine x_callVi (c := 9) (As := []) (rest := []) okX9_lackOfRow lkX11_137 rfl (by decide) rfl dX11_copy_42 rfl rfl (Nat.le_of_ble_eq_true rfl) k22 (c_X9_lackOfRow i12 hr23 (CI.mk ?_))
        refine e_bipush (v := (-2)) dX11_copy_45 rfl ?_
        refine e_icmp_ne (tgt := 57) dX11_copy_47 rfl (fun hc24 => ?_) (fun hc24 => ?_)
        · replace h9 := ifF hc24 h9
          refine e_aload dX11_copy_57 rfl ?_
          obtain ⟨r25, hr25, h9⟩ := elimP hN0 h9
          refine x_callVi (c := 9) (As := []) (rest := []) okX9_lackOfRow lkX11_137 rfl (by decide) rfl dX11_copy_59 rfl rfl (Nat.le_of_ble_eq_true rfl) k16 (c_X9_lackOfRow i2 hr25 (CI.mk ?_))
          have hj78 : ∀ (a26 : Int32), Φ0 (j_X11_copy_78 x p1 p2 p3 p4 p5 i2 i12 a26) → EX g (d + 1) MX11_copy ad x m 78 [some (.ref (ad 11 0)), none, none, some (.int p3), some (.int p4), some (.int p5), some (.ref (ad 9 i2)), some (.ref (ad 9 i12)), none] [.int a26] Q := by
            intro a26 h9
            unfold j_X11_copy_78 at h9
            refine e_istore (L' := [some (.ref (ad 11 0)), none, none, some (.int p3), some (.int p4), some (.int p5), some (.ref (ad 9 i2)), some (.ref (ad 9 i12)), some (.int a26)]) dX11_copy_78 (by decide) rfl ?_
            refine e_iload dX11_copy_80 rfl ?_
            refine e_if_ne (tgt := 92) dX11_copy_82 rfl (fun hc27 => ?_) (fun hc27 => ?_)
            · replace h9 := ifF hc27 h9
              refine e_aload dX11_copy_92 rfl ?_
              refine g_901 flX11_141 dX11_copy_94 k16 ?_
              refine e_aload dX11_copy_97 rfl ?_
              refine g_901 flX11_141 dX11_copy_99 k22 ?_
              refine e_icmp_eq (tgt := 112) dX11_copy_102 rfl (fun hc28 => ?_) (fun hc28 => ?_)
              · replace h9 := ifT hc28 h9
                refine e_iload dX11_copy_112 rfl ?_
                refine e_if_ge (tgt := 124) dX11_copy_114 rfl (fun hc29 => ?_) (fun hc29 => ?_)
                · replace h9 := ifT hc29 h9
                  refine e_aload dX11_copy_124 rfl ?_
                  refine e_iload_n dX11_copy_126 rfl rfl ?_
                  refine e_iload dX11_copy_127 rfl ?_
                  obtain ⟨r30, hr30, h9⟩ := elimP hN0 h9
                  refine x_callVi (c := 9) (As := [.int p3, .int p5]) (rest := []) okX9_hasSpan lkX11_144 rfl (by decide) rfl dX11_copy_129 rfl rfl (Nat.le_of_ble_eq_true rfl) k16 (c_X9_hasSpan i2 p3 p5 hr30 (CI.mk ?_))
                  refine e_if_eq (tgt := 147) dX11_copy_132 rfl (fun hc31 => ?_) (fun hc31 => ?_)
                  · replace h9 := ifT hc31 h9
                    refine e_aload_n dX11_copy_147 rfl rfl ?_
                    refine e_bipush (v := (-5)) dX11_copy_148 rfl ?_
                    obtain ⟨⟨r32, w33⟩, hr32, h9⟩ := elimP hN0 h9
                    refine x_callVi (c := 11) (As := [.int (-5)]) (rest := []) okX11_refused lkX11_105 rfl (by decide) rfl dX11_copy_150 rfl rfl (Nat.le_of_ble_eq_true rfl) rfl (c_X11_refused (-5) hr32 (CI.mk ?_))
                    exact x_iret dX11_copy_153 rfl (hR0 _ _ h9)
                  · replace h9 := ifF hc31 h9
                    refine e_aload dX11_copy_135 rfl ?_
                    refine e_iload dX11_copy_137 rfl ?_
                    refine e_iload dX11_copy_139 rfl ?_
                    obtain ⟨r35, hr35, h9⟩ := elimP hN0 h9
                    refine x_callVi (c := 9) (As := [.int p4, .int p5]) (rest := []) okX9_hasSpan lkX11_144 rfl (by decide) rfl dX11_copy_141 rfl rfl (Nat.le_of_ble_eq_true rfl) k22 (c_X9_hasSpan i12 p4 p5 hr35 (CI.mk ?_))
                    refine e_if_ne (tgt := 154) dX11_copy_144 rfl (fun hc36 => ?_) (fun hc36 => ?_)
                    · replace h9 := ifF hc36 h9
                      refine e_aload dX11_copy_154 rfl ?_
                      refine g_900 flX11_129 dX11_copy_156 k16 ?_
                      refine e_iload_n dX11_copy_159 rfl rfl ?_
                      refine e_aload dX11_copy_160 rfl ?_
                      refine g_900 flX11_129 dX11_copy_162 k22 ?_
                      refine e_iload dX11_copy_165 rfl ?_
                      refine e_iload dX11_copy_167 rfl ?_
                      obtain ⟨k37, h9⟩ := chkP hN0 h9
                      obtain ⟨k38, h9⟩ := chkP hN0 h9
                      refine x_cpl (c := 9) (k := 0) (c0 := 9) (k0 := 0) (by decide) (by decide) rfl rfl rfl rfl rfl rfl rfl rfl acX11_148 dX11_copy_169 (Nat.le_of_ble_eq_true rfl) k22 k16 (spn_all k37).1 (spn_all k38).1 (spn_all k37).2.1 (spn_all k37).2.2 (spn_all k38).2.2 ?_
                      refine e_pc (pc' := 172) rfl ?_
                      refine e_iconst (v := 1) dX11_copy_172 rfl ?_
                      exact x_iret dX11_copy_173 rfl (hR0 _ _ h9)
                    · replace h9 := ifT hc36 h9
                      refine e_aload_n dX11_copy_147 rfl rfl ?_
                      refine e_bipush (v := (-5)) dX11_copy_148 rfl ?_
                      obtain ⟨⟨r39, w40⟩, hr39, h9⟩ := elimP hN0 h9
                      refine x_callVi (c := 11) (As := [.int (-5)]) (rest := []) okX11_refused lkX11_105 rfl (by decide) rfl dX11_copy_150 rfl rfl (Nat.le_of_ble_eq_true rfl) rfl (c_X11_refused (-5) hr39 (CI.mk ?_))
                      exact x_iret dX11_copy_153 rfl (hR0 _ _ h9)
                · replace h9 := ifF hc29 h9
                  refine e_aload_n dX11_copy_117 rfl rfl ?_
                  refine e_bipush (v := (-4)) dX11_copy_118 rfl ?_
                  obtain ⟨⟨r42, w43⟩, hr42, h9⟩ := elimP hN0 h9
                  refine x_callVi (c := 11) (As := [.int (-4)]) (rest := []) okX11_refused lkX11_105 rfl (by decide) rfl dX11_copy_120 rfl rfl (Nat.le_of_ble_eq_true rfl) rfl (c_X11_refused (-4) hr42 (CI.mk ?_))
                  exact x_iret dX11_copy_123 rfl (hR0 _ _ h9)
              · replace h9 := ifF hc28 h9
                refine e_aload_n dX11_copy_105 rfl rfl ?_
                refine e_bipush (v := (-2)) dX11_copy_106 rfl ?_
                obtain ⟨⟨r45, w46⟩, hr45, h9⟩ := elimP hN0 h9
                refine x_callVi (c := 11) (As := [.int (-2)]) (rest := []) okX11_refused lkX11_105 rfl (by decide) rfl dX11_copy_108 rfl rfl (Nat.le_of_ble_eq_true rfl) rfl (c_X11_refused (-2) hr45 (CI.mk ?_))
                exact x_iret dX11_copy_111 rfl (hR0 _ _ h9)
            · replace h9 := ifT hc27 h9
              refine e_aload_n dX11_copy_85 rfl rfl ?_
              refine e_bipush (v := (-3)) dX11_copy_86 rfl ?_
              obtain ⟨⟨r48, w49⟩, hr48, h9⟩ := elimP hN0 h9
              refine x_callVi (c := 11) (As := [.int (-3)]) (rest := []) okX11_refused lkX11_105 rfl (by decide) rfl dX11_copy_88 rfl rfl (Nat.le_of_ble_eq_true rfl) rfl (c_X11_refused (-3) hr48 (CI.mk ?_))
              exact x_iret dX11_copy_91 rfl (hR0 _ _ h9)
          have hj77 : Φ0 (j_X11_copy_77 x p1 p2 p3 p4 p5 i2 i12) → EX g (d + 1) MX11_copy ad x m 77 [some (.ref (ad 11 0)), none, none, some (.int p3), some (.int p4), some (.int p5), some (.ref (ad 9 i2)), some (.ref (ad 9 i12)), none] [] Q := by
            intro h9
            unfold j_X11_copy_77 at h9
            refine e_iconst (v := 0) dX11_copy_77 rfl ?_
            exact hj78 0 h9
          refine e_if_ne (tgt := 77) dX11_copy_62 rfl (fun hc51 => ?_) (fun hc51 => ?_)
          · replace h9 := ifF hc51 h9
            refine e_wk (L' := [some (.ref (ad 11 0)), none, none, some (.int p3), some (.int p4), some (.int p5), some (.ref (ad 9 i2)), some (.ref (ad 9 i12)), none]) (wkC (wkN (wkN (wkC (wkC (wkC (wkC (wkC (wkN wk0))))))))) ?_
            exact hj77 h9
          · replace h9 := ifT hc51 h9
            refine e_aload dX11_copy_65 rfl ?_
            obtain ⟨r52, hr52, h9⟩ := elimP hN0 h9
            refine x_callVi (c := 9) (As := []) (rest := []) okX9_lackOfRow lkX11_137 rfl (by decide) rfl dX11_copy_67 rfl rfl (Nat.le_of_ble_eq_true rfl) k22 (c_X9_lackOfRow i12 hr52 (CI.mk ?_))
            refine e_if_ne (tgt := 77) dX11_copy_70 rfl (fun hc53 => ?_) (fun hc53 => ?_)
            · replace h9 := ifF hc53 h9
              refine e_wk (L' := [some (.ref (ad 11 0)), none, none, some (.int p3), some (.int p4), some (.int p5), some (.ref (ad 9 i2)), some (.ref (ad 9 i12)), none]) (wkC (wkN (wkN (wkC (wkC (wkC (wkC (wkC (wkN wk0))))))))) ?_
              exact hj77 h9
            · replace h9 := ifT hc53 h9
              refine e_iconst (v := 1) dX11_copy_73 rfl ?_
              refine e_goto (tgt := 78) dX11_copy_74 rfl ?_
              refine e_wk (L' := [some (.ref (ad 11 0)), none, none, some (.int p3), some (.int p4), some (.int p5), some (.ref (ad 9 i2)), some (.ref (ad 9 i12)), none]) (wkC (wkN (wkN (wkC (wkC (wkC (wkC (wkC (wkN wk0))))))))) ?_
              exact hj78 1 h9
        · replace h9 := ifT hc24 h9
          refine e_aload_n dX11_copy_50 rfl rfl ?_
          refine e_bipush (v := (-2)) dX11_copy_51 rfl ?_
          obtain ⟨⟨r54, w55⟩, hr54, h9⟩ := elimP hN0 h9
          refine x_callVi (c := 11) (As := [.int (-2)]) (rest := []) okX11_refused lkX11_105 rfl (by decide) rfl dX11_copy_53 rfl rfl (Nat.le_of_ble_eq_true rfl) rfl (c_X11_refused (-2) hr54 (CI.mk ?_))
          exact x_iret dX11_copy_56 rfl (hR0 _ _ h9)
noncomputable def f_X11_element (x : VM) (p1 : Int32) (p2 : Int32) : Option (Int64) := (f_X11_shelfAt x p1).elim none (fun r1 => r1.elim (some 0) (fun i2 => if i2 < 8 then (f_X9_lackOfRow x i2).elim none (fun r4 => if r4 = 0 then if p2 < 0 then some 0 else if p2 < (x.1 902 i2) then if inb p2 60 = true then some (x.2.2.1 900 i2 p2.toNatClampNeg) else none else some 0 else some 0) else none))
theorem c_X11_element {g : GG} {d : Nat} {ad : AD} {x m : VM} {Q : Option Value → VM → VM → Prop} (p1 : Int32) (p2 : Int32) {r9 : Int64} (hf : f_X11_element x p1 p2 = some r9) (hq : Q (some (.long r9)) x m) : CX g (d + 1) MX11_element [.ref (ad 11 0), .int p1, .int p2] ad x m Q := by
  refine CX.to (Lv := [some (.ref (ad 11 0)), some (.int p1), some (.int p2), none]) okX11_element (Nat.le_of_ble_eq_true rfl) rfl ?_
  obtain ⟨Φ0, hΦ⟩ : ∃ Φ : Option (Int64) → Prop, Φ = fun o => o = some r9 := ⟨_, rfl⟩
  have hN0 : Φ0 none → False := by rw [hΦ]; intro h; cases h
  have hR0 : ∀ z9, Φ0 (some z9) → Q (some (.long z9)) x m := by rw [hΦ]; intro z9 h; cases h; exact hq
  have h9 : Φ0 (f_X11_element x p1 p2) := by rw [hΦ]; exact hf
  clear hf hq hΦ
  unfold f_X11_element at h9
  refine e_aload_n dX11_element_0 rfl rfl ?_
  refine e_iload_n dX11_element_1 rfl rfl ?_
  obtain ⟨r1, hr1, h9⟩ := elimP hN0 h9
  refine x_callVi (c := 11) (As := [.int p1]) (rest := []) okX11_shelfAt lkX11_115 rfl (by decide) rfl dX11_element_2 rfl rfl (Nat.le_of_ble_eq_true rfl) rfl (c_X11_shelfAt p1 hr1 (CI.mk ?_))
  cases r1 with
  | none =>
    replace h9 := elN h9
    refine e_top (v := .null) rfl ?_
    refine e_astore_nN (L' := [some (.ref (ad 11 0)), some (.int p1), some (.int p2), some (.null)]) dX11_element_5 rfl (by decide) rfl ?_
    refine e_aload_nN dX11_element_6 rfl rfl ?_
    refine e_ifnullN (tgt := 29) dX11_element_7 rfl ?_
    refine e_lconst (v := 0) dX11_element_29 rfl ?_
    exact x_lret dX11_element_30 rfl (hR0 _ h9)
  | some i2 =>
    replace h9 := elS h9
    refine e_top (v := .ref (ad 9 i2)) rfl ?_
    refine e_astore_n (L' := [some (.ref (ad 11 0)), some (.int p1), some (.int p2), some (.ref (ad 9 i2))]) dX11_element_5 rfl (by decide) rfl ?_
    refine e_aload_n dX11_element_6 rfl rfl ?_
    refine e_ifnull dX11_element_7 ?_
    refine e_aload_n dX11_element_10 rfl rfl ?_
    obtain ⟨k3, h9⟩ := chkP hN0 h9
    obtain ⟨r4, hr4, h9⟩ := elimP hN0 h9
    refine x_callVi (c := 9) (As := []) (rest := []) okX9_lackOfRow lkX11_137 rfl (by decide) rfl dX11_element_11 rfl rfl (Nat.le_of_ble_eq_true rfl) k3 (c_X9_lackOfRow i2 hr4 (CI.mk ?_))
    refine e_if_ne (tgt := 29) dX11_element_14 rfl (fun hc5 => ?_) (fun hc5 => ?_)
    · replace h9 := ifF hc5 h9
      refine e_lconst (v := 0) dX11_element_29 rfl ?_
      exact x_lret dX11_element_30 rfl (hR0 _ h9)
    · replace h9 := ifT hc5 h9
      refine e_iload_n dX11_element_17 rfl rfl ?_
      refine e_if_lt (tgt := 29) dX11_element_18 rfl (fun hc6 => ?_) (fun hc6 => ?_)
      · replace h9 := ifT hc6 h9
        refine e_lconst (v := 0) dX11_element_29 rfl ?_
        exact x_lret dX11_element_30 rfl (hR0 _ h9)
      · replace h9 := ifF hc6 h9
        refine e_iload_n dX11_element_21 rfl rfl ?_
        refine e_aload_n dX11_element_22 rfl rfl ?_
        refine g_902 flX11_126 dX11_element_23 k3 ?_
        refine e_icmp_lt (tgt := 31) dX11_element_26 rfl (fun hc7 => ?_) (fun hc7 => ?_)
        · replace h9 := ifT hc7 h9
          refine e_aload_n dX11_element_31 rfl rfl ?_
          refine g_900 flX11_129 dX11_element_32 k3 ?_
          refine e_iload_n dX11_element_35 rfl rfl ?_
          obtain ⟨k8, h9⟩ := chkP hN0 h9
          refine l_900 dX11_element_36 k3 (inb_in k8) ?_
          exact x_lret dX11_element_37 rfl (hR0 _ h9)
        · replace h9 := ifF hc7 h9
          refine e_lconst (v := 0) dX11_element_29 rfl ?_
          exact x_lret dX11_element_30 rfl (hR0 _ h9)
noncomputable def f_X11_show (x : VM) (p1 : Int32) (p2 : Int32) : Option (Int32 × VM) := (f_X11_shelfAt x p1).elim none (fun r1 => r1.elim ((f_X11_refused x (-1)).elim none (fun r3p => some (r3p.1, r3p.2))) (fun i2 => if p2 < (-1) then (f_X11_refused x (-1)).elim none (fun r7p => some (r7p.1, r7p.2)) else if p2 < (x.1 1114 0) then if i2 < 8 then (f_X9_becomePicture x i2 p2).elim none (fun r12 => if p2 = (-1) then some (0, r12) else some (1, r12)) else none else (f_X11_refused x (-1)).elim none (fun r15p => some (r15p.1, r15p.2))))
theorem c_X11_show {g : GG} {d : Nat} {ad : AD} {x m : VM} {Q : Option Value → VM → VM → Prop} (p1 : Int32) (p2 : Int32) {r9 : Int32} {w9 : VM} (hf : f_X11_show x p1 p2 = some (r9, w9)) (hq : Q (some (.int r9)) w9 m) : CX g (d + 1) MX11_show [.ref (ad 11 0), .int p1, .int p2] ad x m Q := by
  refine CX.to (Lv := [some (.ref (ad 11 0)), some (.int p1), some (.int p2), none]) okX11_show (Nat.le_of_ble_eq_true rfl) rfl ?_
  obtain ⟨Φ0, hΦ⟩ : ∃ Φ : Option (Int32 × VM) → Prop, Φ = fun o => o = some (r9, w9) := ⟨_, rfl⟩
  have hN0 : Φ0 none → False := by rw [hΦ]; intro h; cases h
  have hR0 : ∀ z9 y9, Φ0 (some (z9, y9)) → Q (some (.int z9)) y9 m := by rw [hΦ]; intro z9 y9 h; cases h; exact hq
  have h9 : Φ0 (f_X11_show x p1 p2) := by rw [hΦ]; exact hf
  clear hf hq hΦ
  unfold f_X11_show at h9
  refine e_aload_n dX11_show_0 rfl rfl ?_
  refine e_iload_n dX11_show_1 rfl rfl ?_
  obtain ⟨r1, hr1, h9⟩ := elimP hN0 h9
  refine x_callVi (c := 11) (As := [.int p1]) (rest := []) okX11_shelfAt lkX11_115 rfl (by decide) rfl dX11_show_2 rfl rfl (Nat.le_of_ble_eq_true rfl) rfl (c_X11_shelfAt p1 hr1 (CI.mk ?_))
  cases r1 with
  | none =>
    replace h9 := elN h9
    refine e_top (v := .null) rfl ?_
    refine e_astore_nN (L' := [some (.ref (ad 11 0)), some (.int p1), some (.int p2), some (.null)]) dX11_show_5 rfl (by decide) rfl ?_
    refine e_aload_nN dX11_show_6 rfl rfl ?_
    refine e_ifnullN (tgt := 23) dX11_show_7 rfl ?_
    refine e_aload_n dX11_show_23 rfl rfl ?_
    refine e_iconst (v := (-1)) dX11_show_24 rfl ?_
    obtain ⟨⟨r3, w4⟩, hr3, h9⟩ := elimP hN0 h9
    refine x_callVi (c := 11) (As := [.int (-1)]) (rest := []) okX11_refused lkX11_105 rfl (by decide) rfl dX11_show_25 rfl rfl (Nat.le_of_ble_eq_true rfl) rfl (c_X11_refused (-1) hr3 (CI.mk ?_))
    exact x_iret dX11_show_28 rfl (hR0 _ _ h9)
  | some i2 =>
    replace h9 := elS h9
    refine e_top (v := .ref (ad 9 i2)) rfl ?_
    refine e_astore_n (L' := [some (.ref (ad 11 0)), some (.int p1), some (.int p2), some (.ref (ad 9 i2))]) dX11_show_5 rfl (by decide) rfl ?_
    refine e_aload_n dX11_show_6 rfl rfl ?_
    refine e_ifnull dX11_show_7 ?_
    refine e_iload_n dX11_show_10 rfl rfl ?_
    refine e_iconst (v := (-1)) dX11_show_11 rfl ?_
    refine e_icmp_lt (tgt := 23) dX11_show_12 rfl (fun hc6 => ?_) (fun hc6 => ?_)
    · replace h9 := ifT hc6 h9
      refine e_aload_n dX11_show_23 rfl rfl ?_
      refine e_iconst (v := (-1)) dX11_show_24 rfl ?_
      obtain ⟨⟨r7, w8⟩, hr7, h9⟩ := elimP hN0 h9
      refine x_callVi (c := 11) (As := [.int (-1)]) (rest := []) okX11_refused lkX11_105 rfl (by decide) rfl dX11_show_25 rfl rfl (Nat.le_of_ble_eq_true rfl) rfl (c_X11_refused (-1) hr7 (CI.mk ?_))
      exact x_iret dX11_show_28 rfl (hR0 _ _ h9)
    · replace h9 := ifF hc6 h9
      refine e_iload_n dX11_show_15 rfl rfl ?_
      refine e_aload_n dX11_show_16 rfl rfl ?_
      refine g_1114 flX11_89 dX11_show_17 ?_
      refine e_icmp_lt (tgt := 29) dX11_show_20 rfl (fun hc10 => ?_) (fun hc10 => ?_)
      · replace h9 := ifT hc10 h9
        refine e_aload_n dX11_show_29 rfl rfl ?_
        refine e_iload_n dX11_show_30 rfl rfl ?_
        obtain ⟨k11, h9⟩ := chkP hN0 h9
        obtain ⟨r12, hr12, h9⟩ := elimP hN0 h9
        refine x_callVv (c := 9) (As := [.int p2]) (rest := []) okX9_becomePicture lkX11_154 rfl (by decide) rfl dX11_show_31 rfl rfl (Nat.le_of_ble_eq_true rfl) k11 (c_X9_becomePicture i2 p2 hr12 (CV.mk ?_))
        refine e_iload_n dX11_show_34 rfl rfl ?_
        refine e_iconst (v := (-1)) dX11_show_35 rfl ?_
        refine e_icmp_ne (tgt := 43) dX11_show_36 rfl (fun hc14 => ?_) (fun hc14 => ?_)
        · replace h9 := ifF hc14 h9
          refine e_iconst (v := 1) dX11_show_43 rfl ?_
          exact x_iret dX11_show_44 rfl (hR0 _ _ h9)
        · replace h9 := ifT hc14 h9
          refine e_iconst (v := 0) dX11_show_39 rfl ?_
          refine e_goto (tgt := 44) dX11_show_40 rfl ?_
          exact x_iret dX11_show_44 rfl (hR0 _ _ h9)
      · replace h9 := ifF hc10 h9
        refine e_aload_n dX11_show_23 rfl rfl ?_
        refine e_iconst (v := (-1)) dX11_show_24 rfl ?_
        obtain ⟨⟨r15, w16⟩, hr15, h9⟩ := elimP hN0 h9
        refine x_callVi (c := 11) (As := [.int (-1)]) (rest := []) okX11_refused lkX11_105 rfl (by decide) rfl dX11_show_25 rfl rfl (Nat.le_of_ble_eq_true rfl) rfl (c_X11_refused (-1) hr15 (CI.mk ?_))
        exact x_iret dX11_show_28 rfl (hR0 _ _ h9)
noncomputable def f_X11_holds (x : VM) (p1 : Int32) : Option (Int32) := (f_X11_shelfAt x p1).elim none (fun r1 => r1.elim (some (-1)) (fun i2 => if i2 < 8 then if (x.1 901 i2) = (-1) then some (x.1 903 i2) else some (100 + (x.1 901 i2)) else none))
theorem c_X11_holds {g : GG} {d : Nat} {ad : AD} {x m : VM} {Q : Option Value → VM → VM → Prop} (p1 : Int32) {r9 : Int32} (hf : f_X11_holds x p1 = some r9) (hq : Q (some (.int r9)) x m) : CX g (d + 1) MX11_holds [.ref (ad 11 0), .int p1] ad x m Q := by
  refine CX.to (Lv := [some (.ref (ad 11 0)), some (.int p1), none]) okX11_holds (Nat.le_of_ble_eq_true rfl) rfl ?_
  obtain ⟨Φ0, hΦ⟩ : ∃ Φ : Option (Int32) → Prop, Φ = fun o => o = some r9 := ⟨_, rfl⟩
  have hN0 : Φ0 none → False := by rw [hΦ]; intro h; cases h
  have hR0 : ∀ z9, Φ0 (some z9) → Q (some (.int z9)) x m := by rw [hΦ]; intro z9 h; cases h; exact hq
  have h9 : Φ0 (f_X11_holds x p1) := by rw [hΦ]; exact hf
  clear hf hq hΦ
  unfold f_X11_holds at h9
  refine e_aload_n dX11_holds_0 rfl rfl ?_
  refine e_iload_n dX11_holds_1 rfl rfl ?_
  obtain ⟨r1, hr1, h9⟩ := elimP hN0 h9
  refine x_callVi (c := 11) (As := [.int p1]) (rest := []) okX11_shelfAt lkX11_115 rfl (by decide) rfl dX11_holds_2 rfl rfl (Nat.le_of_ble_eq_true rfl) rfl (c_X11_shelfAt p1 hr1 (CI.mk ?_))
  cases r1 with
  | none =>
    replace h9 := elN h9
    refine e_top (v := .null) rfl ?_
    refine e_astore_nN (L' := [some (.ref (ad 11 0)), some (.int p1), some (.null)]) dX11_holds_5 rfl (by decide) rfl ?_
    refine e_aload_nN dX11_holds_6 rfl rfl ?_
    refine e_ifnonnullN dX11_holds_7 ?_
    refine e_iconst (v := (-1)) dX11_holds_10 rfl ?_
    exact x_iret dX11_holds_11 rfl (hR0 _ h9)
  | some i2 =>
    replace h9 := elS h9
    refine e_top (v := .ref (ad 9 i2)) rfl ?_
    refine e_astore_n (L' := [some (.ref (ad 11 0)), some (.int p1), some (.ref (ad 9 i2))]) dX11_holds_5 rfl (by decide) rfl ?_
    refine e_aload_n dX11_holds_6 rfl rfl ?_
    refine e_ifnonnull (tgt := 12) dX11_holds_7 rfl ?_
    refine e_aload_n dX11_holds_12 rfl rfl ?_
    obtain ⟨k3, h9⟩ := chkP hN0 h9
    refine g_901 flX11_141 dX11_holds_13 k3 ?_
    refine e_iconst (v := (-1)) dX11_holds_16 rfl ?_
    refine e_icmp_ne (tgt := 27) dX11_holds_17 rfl (fun hc4 => ?_) (fun hc4 => ?_)
    · replace h9 := ifF hc4 h9
      refine e_bipush (v := 100) dX11_holds_27 rfl ?_
      refine e_aload_n dX11_holds_29 rfl rfl ?_
      refine g_901 flX11_141 dX11_holds_30 k3 ?_
      refine e_iadd dX11_holds_33 ?_
      exact x_iret dX11_holds_34 rfl (hR0 _ h9)
    · replace h9 := ifT hc4 h9
      refine e_aload_n dX11_holds_20 rfl rfl ?_
      refine g_903 flX11_157 dX11_holds_21 k3 ?_
      refine e_goto (tgt := 34) dX11_holds_24 rfl ?_
      exact x_iret dX11_holds_34 rfl (hR0 _ h9)
noncomputable def f_X11_pictureAt (x : VM) (p1 : Int32) : Option (Option Nat) := if p1 < 0 then some none else if p1 < (x.1 1114 0) then if inb p1 8 = true then if p1.toNatClampNeg < x.2.2.2 5 then some (some p1.toNatClampNeg) else some none else none else some none
theorem c_X11_pictureAt {g : GG} {d : Nat} {ad : AD} {x m : VM} {Q : Option Value → VM → VM → Prop} (p1 : Int32) {r9 : Option Nat} (hf : f_X11_pictureAt x p1 = some r9) (hq : Q (some (va_rf (r9.map (ad 5)))) x m) : CX g d MX11_pictureAt [.ref (ad 11 0), .int p1] ad x m Q := by
  refine CX.to (Lv := [some (.ref (ad 11 0)), some (.int p1)]) okX11_pictureAt (Nat.le_of_ble_eq_true rfl) rfl ?_
  obtain ⟨Φ0, hΦ⟩ : ∃ Φ : Option (Option Nat) → Prop, Φ = fun o => o = some r9 := ⟨_, rfl⟩
  have hN0 : Φ0 none → False := by rw [hΦ]; intro h; cases h
  have hR0 : ∀ z9, Φ0 (some z9) → Q (some (va_rf (z9.map (ad 5)))) x m := by rw [hΦ]; intro z9 h; cases h; exact hq
  have h9 : Φ0 (f_X11_pictureAt x p1) := by rw [hΦ]; exact hf
  clear hf hq hΦ
  unfold f_X11_pictureAt at h9
  refine e_iload_n dX11_pictureAt_0 rfl rfl ?_
  refine e_if_lt (tgt := 12) dX11_pictureAt_1 rfl (fun hc1 => ?_) (fun hc1 => ?_)
  · replace h9 := ifT hc1 h9
    refine e_null dX11_pictureAt_12 ?_
    refine e_goto (tgt := 22) dX11_pictureAt_13 rfl ?_
    exact x_aretN dX11_pictureAt_22 rfl (hR0 _ h9)
  · replace h9 := ifF hc1 h9
    refine e_iload_n dX11_pictureAt_4 rfl rfl ?_
    refine e_aload_n dX11_pictureAt_5 rfl rfl ?_
    refine g_1114 flX11_89 dX11_pictureAt_6 ?_
    refine e_icmp_lt (tgt := 16) dX11_pictureAt_9 rfl (fun hc2 => ?_) (fun hc2 => ?_)
    · replace h9 := ifT hc2 h9
      refine e_aload_n dX11_pictureAt_16 rfl rfl ?_
      refine g_1102 flX11_23 dX11_pictureAt_17 ?_
      refine e_iload_n dX11_pictureAt_20 rfl rfl ?_
      obtain ⟨k3, h9⟩ := chkP hN0 h9
      refine l_1102 dX11_pictureAt_21 (inb_in k3) ?_
      by_cases k4 : p1.toNatClampNeg < x.2.2.2 5
      · replace h9 := ifT k4 h9
        refine e_top (v := .ref (ad 5 p1.toNatClampNeg)) (rfT k4) ?_
        exact x_aret dX11_pictureAt_22 rfl (hR0 _ h9)
      · replace h9 := ifF k4 h9
        refine e_top (v := .null) (rfF k4) ?_
        exact x_aretN dX11_pictureAt_22 rfl (hR0 _ h9)
    · replace h9 := ifF hc2 h9
      refine e_null dX11_pictureAt_12 ?_
      refine e_goto (tgt := 22) dX11_pictureAt_13 rfl ?_
      exact x_aretN dX11_pictureAt_22 rfl (hR0 _ h9)
noncomputable def f_X11_kindIn (x : VM) (p1 : Int32) (p2 : Int32) : Option (Int32 × VM) := (f_X11_shelfAt x p1).elim none (fun r1 => r1.elim ((f_X11_refused x (-1)).elim none (fun r3p => some (r3p.1, r3p.2))) (fun i2 => (f_X11_isKind x p2).elim none (fun r6 => if r6 = 0 then (f_X11_refused x (-1)).elim none (fun r24p => some (r24p.1, r24p.2)) else if i2 < 8 then if (x.1 901 i2) = (-1) then (f_X11_pictureAt x (x.1 903 i2)).elim none (fun r10 => r10.elim ((f_X11_refused x (-3)).elim none (fun r12p => some (r12p.1, r12p.2))) (fun i11 => if i11 < x.2.2.2 5 then (f_X11_isUnderKind x (x.1 500 i11) p2).elim none (fun r16 => if r16 = 0 then (f_X11_refused x (-2)).elim none (fun r18p => some (r18p.1, r18p.2)) else some (x.1 500 i11, x)) else none)) else (f_X11_refused x (-2)).elim none (fun r21p => some (r21p.1, r21p.2)) else none)))
theorem c_X11_kindIn {g : GG} {d : Nat} {ad : AD} {x m : VM} {Q : Option Value → VM → VM → Prop} (p1 : Int32) (p2 : Int32) {r9 : Int32} {w9 : VM} (hf : f_X11_kindIn x p1 p2 = some (r9, w9)) (hq : Q (some (.int r9)) w9 m) : CX g (d + 2) MX11_kindIn [.ref (ad 11 0), .int p1, .int p2] ad x m Q := by
  refine CX.to (Lv := [some (.ref (ad 11 0)), some (.int p1), some (.int p2), none, none]) okX11_kindIn (Nat.le_of_ble_eq_true rfl) rfl ?_
  obtain ⟨Φ0, hΦ⟩ : ∃ Φ : Option (Int32 × VM) → Prop, Φ = fun o => o = some (r9, w9) := ⟨_, rfl⟩
  have hN0 : Φ0 none → False := by rw [hΦ]; intro h; cases h
  have hR0 : ∀ z9 y9, Φ0 (some (z9, y9)) → Q (some (.int z9)) y9 m := by rw [hΦ]; intro z9 y9 h; cases h; exact hq
  have h9 : Φ0 (f_X11_kindIn x p1 p2) := by rw [hΦ]; exact hf
  clear hf hq hΦ
  unfold f_X11_kindIn at h9
  refine e_aload_n dX11_kindIn_0 rfl rfl ?_
  refine e_iload_n dX11_kindIn_1 rfl rfl ?_
  obtain ⟨r1, hr1, h9⟩ := elimP hN0 h9
  refine x_callVi (c := 11) (As := [.int p1]) (rest := []) okX11_shelfAt lkX11_115 rfl (by decide) rfl dX11_kindIn_2 rfl rfl (Nat.le_of_ble_eq_true rfl) rfl (c_X11_shelfAt p1 hr1 (CI.mk ?_))
  cases r1 with
  | none =>
    replace h9 := elN h9
    refine e_top (v := .null) rfl ?_
    refine e_astore_nN (L' := [some (.ref (ad 11 0)), some (.int p1), some (.int p2), some (.null), none]) dX11_kindIn_5 rfl (by decide) rfl ?_
    refine e_aload_nN dX11_kindIn_6 rfl rfl ?_
    refine e_ifnullN (tgt := 17) dX11_kindIn_7 rfl ?_
    refine e_aload_n dX11_kindIn_17 rfl rfl ?_
    refine e_iconst (v := (-1)) dX11_kindIn_18 rfl ?_
    obtain ⟨⟨r3, w4⟩, hr3, h9⟩ := elimP hN0 h9
    refine x_callVi (c := 11) (As := [.int (-1)]) (rest := []) okX11_refused lkX11_105 rfl (by decide) rfl dX11_kindIn_19 rfl rfl (Nat.le_of_ble_eq_true rfl) rfl (c_X11_refused (-1) hr3 (CI.mk ?_))
    exact x_iret dX11_kindIn_22 rfl (hR0 _ _ h9)
  | some i2 =>
    replace h9 := elS h9
    refine e_top (v := .ref (ad 9 i2)) rfl ?_
    refine e_astore_n (L' := [some (.ref (ad 11 0)), some (.int p1), some (.int p2), some (.ref (ad 9 i2)), none]) dX11_kindIn_5 rfl (by decide) rfl ?_
    refine e_aload_n dX11_kindIn_6 rfl rfl ?_
    refine e_ifnull dX11_kindIn_7 ?_
    refine e_iload_n dX11_kindIn_10 rfl rfl ?_
    obtain ⟨r6, hr6, h9⟩ := elimP hN0 h9
    refine x_callSi (As := [.int p2]) (rest := []) okX11_isKind lkX11_160 dX11_kindIn_11 rfl rfl (Nat.le_of_ble_eq_true rfl) (c_X11_isKind p2 hr6 (CI.mk ?_))
    refine e_if_ne (tgt := 23) dX11_kindIn_14 rfl (fun hc7 => ?_) (fun hc7 => ?_)
    · replace h9 := ifF hc7 h9
      refine e_aload_n dX11_kindIn_23 rfl rfl ?_
      obtain ⟨k8, h9⟩ := chkP hN0 h9
      refine g_901 flX11_141 dX11_kindIn_24 k8 ?_
      refine e_iconst (v := (-1)) dX11_kindIn_27 rfl ?_
      refine e_icmp_eq (tgt := 38) dX11_kindIn_28 rfl (fun hc9 => ?_) (fun hc9 => ?_)
      · replace h9 := ifT hc9 h9
        refine e_aload_n dX11_kindIn_38 rfl rfl ?_
        refine e_aload_n dX11_kindIn_39 rfl rfl ?_
        refine g_903 flX11_157 dX11_kindIn_40 k8 ?_
        obtain ⟨r10, hr10, h9⟩ := elimP hN0 h9
        refine x_callVi (c := 11) (As := [.int (x.1 903 i2)]) (rest := []) okX11_pictureAt lkX11_164 rfl (by decide) rfl dX11_kindIn_43 rfl rfl (Nat.le_of_ble_eq_true rfl) rfl (c_X11_pictureAt (x.1 903 i2) hr10 (CI.mk ?_))
        cases r10 with
        | none =>
          replace h9 := elN h9
          refine e_top (v := .null) rfl ?_
          refine e_astoreN (L' := [some (.ref (ad 11 0)), some (.int p1), some (.int p2), some (.ref (ad 9 i2)), some (.null)]) dX11_kindIn_46 (by decide) rfl ?_
          refine e_aloadN dX11_kindIn_48 rfl ?_
          refine e_ifnonnullN dX11_kindIn_50 ?_
          refine e_aload_n dX11_kindIn_53 rfl rfl ?_
          refine e_bipush (v := (-3)) dX11_kindIn_54 rfl ?_
          obtain ⟨⟨r12, w13⟩, hr12, h9⟩ := elimP hN0 h9
          refine x_callVi (c := 11) (As := [.int (-3)]) (rest := []) okX11_refused lkX11_105 rfl (by decide) rfl dX11_kindIn_56 rfl rfl (Nat.le_of_ble_eq_true rfl) rfl (c_X11_refused (-3) hr12 (CI.mk ?_))
          exact x_iret dX11_kindIn_59 rfl (hR0 _ _ h9)
        | some i11 =>
          replace h9 := elS h9
          refine e_top (v := .ref (ad 5 i11)) rfl ?_
          refine e_astore (L' := [some (.ref (ad 11 0)), some (.int p1), some (.int p2), some (.ref (ad 9 i2)), some (.ref (ad 5 i11))]) dX11_kindIn_46 (by decide) rfl ?_
          refine e_aload dX11_kindIn_48 rfl ?_
          refine e_ifnonnull (tgt := 60) dX11_kindIn_50 rfl ?_
          refine e_aload dX11_kindIn_60 rfl ?_
          obtain ⟨k15, h9⟩ := chkP hN0 h9
          refine g_500 flX11_168 dX11_kindIn_62 k15 ?_
          refine e_iload_n dX11_kindIn_65 rfl rfl ?_
          obtain ⟨r16, hr16, h9⟩ := elimP hN0 h9
          refine x_callSi (As := [.int (x.1 500 i11), .int p2]) (rest := []) okX11_isUnderKind lkX11_171 dX11_kindIn_66 rfl rfl (Nat.le_of_ble_eq_true rfl) (c_X11_isUnderKind (x.1 500 i11) p2 hr16 (CI.mk ?_))
          refine e_if_eq (tgt := 80) dX11_kindIn_69 rfl (fun hc17 => ?_) (fun hc17 => ?_)
          · replace h9 := ifT hc17 h9
            refine e_aload_n dX11_kindIn_80 rfl rfl ?_
            refine e_bipush (v := (-2)) dX11_kindIn_81 rfl ?_
            obtain ⟨⟨r18, w19⟩, hr18, h9⟩ := elimP hN0 h9
            refine x_callVi (c := 11) (As := [.int (-2)]) (rest := []) okX11_refused lkX11_105 rfl (by decide) rfl dX11_kindIn_83 rfl rfl (Nat.le_of_ble_eq_true rfl) rfl (c_X11_refused (-2) hr18 (CI.mk ?_))
            exact x_iret dX11_kindIn_86 rfl (hR0 _ _ h9)
          · replace h9 := ifF hc17 h9
            refine e_aload dX11_kindIn_72 rfl ?_
            refine g_500 flX11_168 dX11_kindIn_74 k15 ?_
            refine e_goto (tgt := 86) dX11_kindIn_77 rfl ?_
            exact x_iret dX11_kindIn_86 rfl (hR0 _ _ h9)
      · replace h9 := ifF hc9 h9
        refine e_aload_n dX11_kindIn_31 rfl rfl ?_
        refine e_bipush (v := (-2)) dX11_kindIn_32 rfl ?_
        obtain ⟨⟨r21, w22⟩, hr21, h9⟩ := elimP hN0 h9
        refine x_callVi (c := 11) (As := [.int (-2)]) (rest := []) okX11_refused lkX11_105 rfl (by decide) rfl dX11_kindIn_34 rfl rfl (Nat.le_of_ble_eq_true rfl) rfl (c_X11_refused (-2) hr21 (CI.mk ?_))
        exact x_iret dX11_kindIn_37 rfl (hR0 _ _ h9)
    · replace h9 := ifT hc7 h9
      refine e_aload_n dX11_kindIn_17 rfl rfl ?_
      refine e_iconst (v := (-1)) dX11_kindIn_18 rfl ?_
      obtain ⟨⟨r24, w25⟩, hr24, h9⟩ := elimP hN0 h9
      refine x_callVi (c := 11) (As := [.int (-1)]) (rest := []) okX11_refused lkX11_105 rfl (by decide) rfl dX11_kindIn_19 rfl rfl (Nat.le_of_ble_eq_true rfl) rfl (c_X11_refused (-1) hr24 (CI.mk ?_))
      exact x_iret dX11_kindIn_22 rfl (hR0 _ _ h9)
noncomputable def f_X11_personAt (x : VM) (p1 : Int32) : Option (Option Nat) := if p1 < 0 then some none else if p1 < (x.1 1113 0) then if inb p1 16 = true then if p1.toNatClampNeg < x.2.2.2 4 then some (some p1.toNatClampNeg) else some none else none else some none
theorem c_X11_personAt {g : GG} {d : Nat} {ad : AD} {x m : VM} {Q : Option Value → VM → VM → Prop} (p1 : Int32) {r9 : Option Nat} (hf : f_X11_personAt x p1 = some r9) (hq : Q (some (va_rf (r9.map (ad 4)))) x m) : CX g d MX11_personAt [.ref (ad 11 0), .int p1] ad x m Q := by
  refine CX.to (Lv := [some (.ref (ad 11 0)), some (.int p1)]) okX11_personAt (Nat.le_of_ble_eq_true rfl) rfl ?_
  obtain ⟨Φ0, hΦ⟩ : ∃ Φ : Option (Option Nat) → Prop, Φ = fun o => o = some r9 := ⟨_, rfl⟩
  have hN0 : Φ0 none → False := by rw [hΦ]; intro h; cases h
  have hR0 : ∀ z9, Φ0 (some z9) → Q (some (va_rf (z9.map (ad 4)))) x m := by rw [hΦ]; intro z9 h; cases h; exact hq
  have h9 : Φ0 (f_X11_personAt x p1) := by rw [hΦ]; exact hf
  clear hf hq hΦ
  unfold f_X11_personAt at h9
  refine e_iload_n dX11_personAt_0 rfl rfl ?_
  refine e_if_lt (tgt := 12) dX11_personAt_1 rfl (fun hc1 => ?_) (fun hc1 => ?_)
  · replace h9 := ifT hc1 h9
    refine e_null dX11_personAt_12 ?_
    refine e_goto (tgt := 22) dX11_personAt_13 rfl ?_
    exact x_aretN dX11_personAt_22 rfl (hR0 _ h9)
  · replace h9 := ifF hc1 h9
    refine e_iload_n dX11_personAt_4 rfl rfl ?_
    refine e_aload_n dX11_personAt_5 rfl rfl ?_
    refine g_1113 flX11_85 dX11_personAt_6 ?_
    refine e_icmp_lt (tgt := 16) dX11_personAt_9 rfl (fun hc2 => ?_) (fun hc2 => ?_)
    · replace h9 := ifT hc2 h9
      refine e_aload_n dX11_personAt_16 rfl rfl ?_
      refine g_1101 flX11_17 dX11_personAt_17 ?_
      refine e_iload_n dX11_personAt_20 rfl rfl ?_
      obtain ⟨k3, h9⟩ := chkP hN0 h9
      refine l_1101 dX11_personAt_21 (inb_in k3) ?_
      by_cases k4 : p1.toNatClampNeg < x.2.2.2 4
      · replace h9 := ifT k4 h9
        refine e_top (v := .ref (ad 4 p1.toNatClampNeg)) (rfT k4) ?_
        exact x_aret dX11_personAt_22 rfl (hR0 _ h9)
      · replace h9 := ifF k4 h9
        refine e_top (v := .null) (rfF k4) ?_
        exact x_aretN dX11_personAt_22 rfl (hR0 _ h9)
    · replace h9 := ifF hc2 h9
      refine e_null dX11_personAt_12 ?_
      refine e_goto (tgt := 22) dX11_personAt_13 rfl ?_
      exact x_aretN dX11_personAt_22 rfl (hR0 _ h9)
noncomputable def f_X11_term (x : VM) (p1 : Int32) (p2 : Int32) : Option (Int32 × VM) := (f_X11_personAt x p1).elim none (fun r1 => r1.elim ((f_X11_rowLack x p2).elim none (fun r3 => (f_X11_refused x (-1)).elim none (fun r4p => some (r4p.1, r4p.2)))) (fun i2 => (f_X11_rowLack x p2).elim none (fun r7 => if r7 = (-1) then (f_X11_refused x (-1)).elim none (fun r29p => some (r29p.1, r29p.2)) else if r7 = 0 then if inb p2 8 = true then (f_X10_read x p2.toNatClampNeg).elim none (fun r11 => if (r11.1 1002 0) = (-1) then if i2 < r11.2.2.2 4 then (f_X4_isUnder r11 i2 (r11.1 1116 0)).elim none (fun r18 => if r18 = 0 then (f_X4_beginTerm r11 i2 (r11.1 1116 0)).elim none (fun r20 => if i2 < r20.2.2.2 4 then some (r20.1 405 i2, r20) else none) else (f_X11_refused r11 (-6)).elim none (fun r23p => some (r23p.1, r23p.2))) else none else (f_X11_refused r11 (-6)).elim none (fun r14p => some (r14p.1, r14p.2))) else none else (f_X11_refused x r7).elim none (fun r26p => some (r26p.1, r26p.2)))))
theorem c_X11_term {g : GG} {d : Nat} {ad : AD} {x m : VM} {Q : Option Value → VM → VM → Prop} (p1 : Int32) (p2 : Int32) {r9 : Int32} {w9 : VM} (hf : f_X11_term x p1 p2 = some (r9, w9)) (hq : Q (some (.int r9)) w9 m) : CX g (d + 4) MX11_term [.ref (ad 11 0), .int p1, .int p2] ad x m Q := by
  refine CX.to (Lv := [some (.ref (ad 11 0)), some (.int p1), some (.int p2), none, none]) okX11_term (Nat.le_of_ble_eq_true rfl) rfl ?_
  obtain ⟨Φ0, hΦ⟩ : ∃ Φ : Option (Int32 × VM) → Prop, Φ = fun o => o = some (r9, w9) := ⟨_, rfl⟩
  have hN0 : Φ0 none → False := by rw [hΦ]; intro h; cases h
  have hR0 : ∀ z9 y9, Φ0 (some (z9, y9)) → Q (some (.int z9)) y9 m := by rw [hΦ]; intro z9 y9 h; cases h; exact hq
  have h9 : Φ0 (f_X11_term x p1 p2) := by rw [hΦ]; exact hf
  clear hf hq hΦ
  unfold f_X11_term at h9
  refine e_aload_n dX11_term_0 rfl rfl ?_
  refine e_iload_n dX11_term_1 rfl rfl ?_
  obtain ⟨r1, hr1, h9⟩ := elimP hN0 h9
  refine x_callVi (c := 11) (As := [.int p1]) (rest := []) okX11_personAt lkX11_174 rfl (by decide) rfl dX11_term_2 rfl rfl (Nat.le_of_ble_eq_true rfl) rfl (c_X11_personAt p1 hr1 (CI.mk ?_))
  cases r1 with
  | none =>
    replace h9 := elN h9
    refine e_top (v := .null) rfl ?_
    refine e_astore_nN (L' := [some (.ref (ad 11 0)), some (.int p1), some (.int p2), some (.null), none]) dX11_term_5 rfl (by decide) rfl ?_
    refine e_aload_n dX11_term_6 rfl rfl ?_
    refine e_iload_n dX11_term_7 rfl rfl ?_
    obtain ⟨r3, hr3, h9⟩ := elimP hN0 h9
    refine x_callVi (c := 11) (As := [.int p2]) (rest := []) okX11_rowLack lkX11_123 rfl (by decide) rfl dX11_term_8 rfl rfl (Nat.le_of_ble_eq_true rfl) rfl (c_X11_rowLack p2 hr3 (CI.mk ?_))
    refine e_istore (L' := [some (.ref (ad 11 0)), some (.int p1), some (.int p2), some (.null), some (.int r3)]) dX11_term_11 (by decide) rfl ?_
    refine e_aload_nN dX11_term_13 rfl rfl ?_
    refine e_ifnullN (tgt := 23) dX11_term_14 rfl ?_
    refine e_aload_n dX11_term_23 rfl rfl ?_
    refine e_pc (pc' := 24) rfl ?_
    refine e_iconst (v := (-1)) dX11_term_24 rfl ?_
    obtain ⟨⟨r4, w5⟩, hr4, h9⟩ := elimP hN0 h9
    refine x_callVi (c := 11) (As := [.int (-1)]) (rest := []) okX11_refused lkX11_105 rfl (by decide) rfl dX11_term_25 rfl rfl (Nat.le_of_ble_eq_true rfl) rfl (c_X11_refused (-1) hr4 (CI.mk ?_))
    exact x_iret dX11_term_28 rfl (hR0 _ _ h9)
  | some i2 =>
    replace h9 := elS h9
    refine e_top (v := .ref (ad 4 i2)) rfl ?_
    refine e_astore_n (L' := [some (.ref (ad 11 0)), some (.int p1), some (.int p2), some (.ref (ad 4 i2)), none]) dX11_term_5 rfl (by decide) rfl ?_
    refine e_aload_n dX11_term_6 rfl rfl ?_
    refine e_iload_n dX11_term_7 rfl rfl ?_
    obtain ⟨r7, hr7, h9⟩ := elimP hN0 h9
    refine x_callVi (c := 11) (As := [.int p2]) (rest := []) okX11_rowLack lkX11_123 rfl (by decide) rfl dX11_term_8 rfl rfl (Nat.le_of_ble_eq_true rfl) rfl (c_X11_rowLack p2 hr7 (CI.mk ?_))
    refine e_istore (L' := [some (.ref (ad 11 0)), some (.int p1), some (.int p2), some (.ref (ad 4 i2)), some (.int r7)]) dX11_term_11 (by decide) rfl ?_
    refine e_aload_n dX11_term_13 rfl rfl ?_
    refine e_ifnull dX11_term_14 ?_
    refine e_iload dX11_term_17 rfl ?_
    refine e_pc (pc' := 19) rfl ?_
    refine e_iconst (v := (-1)) dX11_term_19 rfl ?_
    refine e_icmp_ne (tgt := 29) dX11_term_20 rfl (fun hc8 => ?_) (fun hc8 => ?_)
    · replace h9 := ifF hc8 h9
      refine e_iload dX11_term_29 rfl ?_
      refine e_if_eq (tgt := 41) dX11_term_31 rfl (fun hc9 => ?_) (fun hc9 => ?_)
      · replace h9 := ifT hc9 h9
        refine e_aload_n dX11_term_41 rfl rfl ?_
        refine g_1105 flX11_43 dX11_term_42 ?_
        refine e_aload_n dX11_term_45 rfl rfl ?_
        refine g_1100 flX11_11 dX11_term_46 ?_
        refine e_iload_n dX11_term_49 rfl rfl ?_
        obtain ⟨k10, h9⟩ := chkP hN0 h9
        refine l_1100 dX11_term_50 (inb_in k10) ?_
        refine e_top (v := .ref (ad 9 p2.toNatClampNeg)) rfl ?_
        obtain ⟨r11, hr11, h9⟩ := elimP hN0 h9
        refine x_callVv (c := 10) (As := [.ref (ad 9 p2.toNatClampNeg)]) (rest := []) okX10_read lkX11_178 rfl (by decide) rfl dX11_term_51 rfl rfl (Nat.le_of_ble_eq_true rfl) rfl (c_X10_read p2.toNatClampNeg hr11 (CV.mk ?_))
        refine e_aload_n dX11_term_54 rfl rfl ?_
        refine e_pc (pc' := 55) rfl ?_
        refine g_1105 flX11_43 dX11_term_55 ?_
        refine g_1002 flX11_182 dX11_term_58 ?_
        refine e_iconst (v := (-1)) dX11_term_61 rfl ?_
        refine e_icmp_ne (tgt := 76) dX11_term_62 rfl (fun hc13 => ?_) (fun hc13 => ?_)
        · replace h9 := ifF hc13 h9
          refine e_aload_n dX11_term_76 rfl rfl ?_
          refine e_bipush (v := (-6)) dX11_term_77 rfl ?_
          obtain ⟨⟨r14, w15⟩, hr14, h9⟩ := elimP hN0 h9
          refine x_callVi (c := 11) (As := [.int (-6)]) (rest := []) okX11_refused lkX11_105 rfl (by decide) rfl dX11_term_79 rfl rfl (Nat.le_of_ble_eq_true rfl) rfl (c_X11_refused (-6) hr14 (CI.mk ?_))
          exact x_iret dX11_term_82 rfl (hR0 _ _ h9)
        · replace h9 := ifT hc13 h9
          refine e_aload_n dX11_term_65 rfl rfl ?_
          refine e_aload_n dX11_term_66 rfl rfl ?_
          refine g_1116 flX11_95 dX11_term_67 ?_
          obtain ⟨k17, h9⟩ := chkP hN0 h9
          obtain ⟨r18, hr18, h9⟩ := elimP hN0 h9
          refine x_callVi (c := 4) (As := [.int (r11.1 1116 0)]) (rest := []) okX4_isUnder lkX11_185 rfl (by decide) rfl dX11_term_70 rfl rfl (Nat.le_of_ble_eq_true rfl) k17 (c_X4_isUnder i2 (r11.1 1116 0) hr18 (CI.mk ?_))
          refine e_if_eq (tgt := 83) dX11_term_73 rfl (fun hc19 => ?_) (fun hc19 => ?_)
          · replace h9 := ifT hc19 h9
            refine e_aload_n dX11_term_83 rfl rfl ?_
            refine e_aload_n dX11_term_84 rfl rfl ?_
            refine g_1105 flX11_43 dX11_term_85 ?_
            refine g_1000 flX11_188 dX11_term_88 ?_
            refine e_aload_n dX11_term_91 rfl rfl ?_
            refine g_1116 flX11_95 dX11_term_92 ?_
            obtain ⟨r20, hr20, h9⟩ := elimP hN0 h9
            refine x_callVv (c := 4) (As := [.ref (ad 2000 0), .int (r11.1 1116 0)]) (rest := []) okX4_beginTerm lkX11_191 rfl (by decide) rfl dX11_term_95 rfl rfl (Nat.le_of_ble_eq_true rfl) k17 (c_X4_beginTerm i2 (r11.1 1116 0) hr20 (CV.mk ?_))
            refine e_aload_n dX11_term_98 rfl rfl ?_
            refine e_pc (pc' := 99) rfl ?_
            obtain ⟨k22, h9⟩ := chkP hN0 h9
            refine g_405 flX11_195 dX11_term_99 k22 ?_
            exact x_iret dX11_term_102 rfl (hR0 _ _ h9)
          · replace h9 := ifF hc19 h9
            refine e_aload_n dX11_term_76 rfl rfl ?_
            refine e_bipush (v := (-6)) dX11_term_77 rfl ?_
            obtain ⟨⟨r23, w24⟩, hr23, h9⟩ := elimP hN0 h9
            refine x_callVi (c := 11) (As := [.int (-6)]) (rest := []) okX11_refused lkX11_105 rfl (by decide) rfl dX11_term_79 rfl rfl (Nat.le_of_ble_eq_true rfl) rfl (c_X11_refused (-6) hr23 (CI.mk ?_))
            exact x_iret dX11_term_82 rfl (hR0 _ _ h9)
      · replace h9 := ifF hc9 h9
        refine e_aload_n dX11_term_34 rfl rfl ?_
        refine e_iload dX11_term_35 rfl ?_
        obtain ⟨⟨r26, w27⟩, hr26, h9⟩ := elimP hN0 h9
        refine x_callVi (c := 11) (As := [.int r7]) (rest := []) okX11_refused lkX11_105 rfl (by decide) rfl dX11_term_37 rfl rfl (Nat.le_of_ble_eq_true rfl) rfl (c_X11_refused r7 hr26 (CI.mk ?_))
        exact x_iret dX11_term_40 rfl (hR0 _ _ h9)
    · replace h9 := ifT hc8 h9
      refine e_aload_n dX11_term_23 rfl rfl ?_
      refine e_iconst (v := (-1)) dX11_term_24 rfl ?_
      obtain ⟨⟨r29, w30⟩, hr29, h9⟩ := elimP hN0 h9
      refine x_callVi (c := 11) (As := [.int (-1)]) (rest := []) okX11_refused lkX11_105 rfl (by decide) rfl dX11_term_25 rfl rfl (Nat.le_of_ble_eq_true rfl) rfl (c_X11_refused (-1) hr29 (CI.mk ?_))
      exact x_iret dX11_term_28 rfl (hR0 _ _ h9)
noncomputable def f_X11_fault (x : VM) : Option (Int32) := some (x.1 1002 0)
theorem c_X11_fault {g : GG} {d : Nat} {ad : AD} {x m : VM} {Q : Option Value → VM → VM → Prop} {r9 : Int32} (hf : f_X11_fault x = some r9) (hq : Q (some (.int r9)) x m) : CX g d MX11_fault [.ref (ad 11 0)] ad x m Q := by
  refine CX.to (Lv := [some (.ref (ad 11 0))]) okX11_fault (Nat.le_of_ble_eq_true rfl) rfl ?_
  obtain ⟨Φ0, hΦ⟩ : ∃ Φ : Option (Int32) → Prop, Φ = fun o => o = some r9 := ⟨_, rfl⟩
  have hN0 : Φ0 none → False := by rw [hΦ]; intro h; cases h
  have hR0 : ∀ z9, Φ0 (some z9) → Q (some (.int z9)) x m := by rw [hΦ]; intro z9 h; cases h; exact hq
  have h9 : Φ0 (f_X11_fault x) := by rw [hΦ]; exact hf
  clear hf hq hΦ
  unfold f_X11_fault at h9
  refine e_aload_n dX11_fault_0 rfl rfl ?_
  refine g_1105 flX11_43 dX11_fault_1 ?_
  refine g_1002 flX11_182 dX11_fault_4 ?_
  exact x_iret dX11_fault_7 rfl (hR0 _ h9)
noncomputable def f_X11_law (x : VM) (p1 : Int32) (p2 : Int32) : Option (Int32 × VM) := if p1 < 0 then (f_X11_refused x (-6)).elim none (fun r2p => some (r2p.1, r2p.2)) else if 5 ≤ p1 then (f_X11_refused x (-6)).elim none (fun r6p => some (r6p.1, r6p.2)) else if p2 < (x.1 1116 0) then (f_X11_refused x (-6)).elim none (fun r10p => some (r10p.1, r10p.2)) else if p2 ≤ 4000 then if (x.1 202 0) < 8 then (f_X2_strike x p1 p2).elim none (fun r15 => some (r15.1 202 0, r15)) else (f_X11_refused x (-7)).elim none (fun r17p => some (r17p.1, r17p.2)) else (f_X11_refused x (-6)).elim none (fun r20p => some (r20p.1, r20p.2))
theorem c_X11_law {g : GG} {d : Nat} {ad : AD} {x m : VM} {Q : Option Value → VM → VM → Prop} (p1 : Int32) (p2 : Int32) {r9 : Int32} {w9 : VM} (hf : f_X11_law x p1 p2 = some (r9, w9)) (hq : Q (some (.int r9)) w9 m) : CX g (d + 1) MX11_law [.ref (ad 11 0), .int p1, .int p2] ad x m Q := by
  refine CX.to (Lv := [some (.ref (ad 11 0)), some (.int p1), some (.int p2)]) okX11_law (Nat.le_of_ble_eq_true rfl) rfl ?_
  obtain ⟨Φ0, hΦ⟩ : ∃ Φ : Option (Int32 × VM) → Prop, Φ = fun o => o = some (r9, w9) := ⟨_, rfl⟩
  have hN0 : Φ0 none → False := by rw [hΦ]; intro h; cases h
  have hR0 : ∀ z9 y9, Φ0 (some (z9, y9)) → Q (some (.int z9)) y9 m := by rw [hΦ]; intro z9 y9 h; cases h; exact hq
  have h9 : Φ0 (f_X11_law x p1 p2) := by rw [hΦ]; exact hf
  clear hf hq hΦ
  unfold f_X11_law at h9
  refine e_iload_n dX11_law_0 rfl rfl ?_
  refine e_if_lt (tgt := 24) dX11_law_1 rfl (fun hc1 => ?_) (fun hc1 => ?_)
  · replace h9 := ifT hc1 h9
    refine e_aload_n dX11_law_24 rfl rfl ?_
    refine e_bipush (v := (-6)) dX11_law_25 rfl ?_
    obtain ⟨⟨r2, w3⟩, hr2, h9⟩ := elimP hN0 h9
    refine x_callVi (c := 11) (As := [.int (-6)]) (rest := []) okX11_refused lkX11_105 rfl (by decide) rfl dX11_law_27 rfl rfl (Nat.le_of_ble_eq_true rfl) rfl (c_X11_refused (-6) hr2 (CI.mk ?_))
    exact x_iret dX11_law_30 rfl (hR0 _ _ h9)
  · replace h9 := ifF hc1 h9
    refine e_iload_n dX11_law_4 rfl rfl ?_
    refine e_iconst (v := 5) dX11_law_5 rfl ?_
    refine e_icmp_ge (tgt := 24) dX11_law_6 rfl (fun hc5 => ?_) (fun hc5 => ?_)
    · replace h9 := ifT hc5 h9
      refine e_aload_n dX11_law_24 rfl rfl ?_
      refine e_bipush (v := (-6)) dX11_law_25 rfl ?_
      obtain ⟨⟨r6, w7⟩, hr6, h9⟩ := elimP hN0 h9
      refine x_callVi (c := 11) (As := [.int (-6)]) (rest := []) okX11_refused lkX11_105 rfl (by decide) rfl dX11_law_27 rfl rfl (Nat.le_of_ble_eq_true rfl) rfl (c_X11_refused (-6) hr6 (CI.mk ?_))
      exact x_iret dX11_law_30 rfl (hR0 _ _ h9)
    · replace h9 := ifF hc5 h9
      refine e_iload_n dX11_law_9 rfl rfl ?_
      refine e_aload_n dX11_law_10 rfl rfl ?_
      refine g_1116 flX11_95 dX11_law_11 ?_
      refine e_icmp_lt (tgt := 24) dX11_law_14 rfl (fun hc9 => ?_) (fun hc9 => ?_)
      · replace h9 := ifT hc9 h9
        refine e_aload_n dX11_law_24 rfl rfl ?_
        refine e_bipush (v := (-6)) dX11_law_25 rfl ?_
        obtain ⟨⟨r10, w11⟩, hr10, h9⟩ := elimP hN0 h9
        refine x_callVi (c := 11) (As := [.int (-6)]) (rest := []) okX11_refused lkX11_105 rfl (by decide) rfl dX11_law_27 rfl rfl (Nat.le_of_ble_eq_true rfl) rfl (c_X11_refused (-6) hr10 (CI.mk ?_))
        exact x_iret dX11_law_30 rfl (hR0 _ _ h9)
      · replace h9 := ifF hc9 h9
        refine e_iload_n dX11_law_17 rfl rfl ?_
        refine e_sipush (v := 4000) dX11_law_18 rfl ?_
        refine e_icmp_le (tgt := 31) dX11_law_21 rfl (fun hc13 => ?_) (fun hc13 => ?_)
        · replace h9 := ifT hc13 h9
          refine e_aload_n dX11_law_31 rfl rfl ?_
          refine g_1104 flX11_36 dX11_law_32 ?_
          refine g_202 flX11_198 dX11_law_35 ?_
          refine e_bipush (v := 8) dX11_law_38 rfl ?_
          refine e_icmp_lt (tgt := 50) dX11_law_40 rfl (fun hc14 => ?_) (fun hc14 => ?_)
          · replace h9 := ifT hc14 h9
            refine e_aload_n dX11_law_50 rfl rfl ?_
            refine g_1104 flX11_36 dX11_law_51 ?_
            refine e_iload_n dX11_law_54 rfl rfl ?_
            refine e_iload_n dX11_law_55 rfl rfl ?_
            obtain ⟨r15, hr15, h9⟩ := elimP hN0 h9
            refine x_callVv (c := 2) (As := [.int p1, .int p2]) (rest := []) okX2_strike lkX11_201 rfl (by decide) rfl dX11_law_56 rfl rfl (Nat.le_of_ble_eq_true rfl) rfl (c_X2_strike p1 p2 hr15 (CV.mk ?_))
            refine e_aload_n dX11_law_59 rfl rfl ?_
            refine g_1104 flX11_36 dX11_law_60 ?_
            refine g_202 flX11_198 dX11_law_63 ?_
            refine e_pc (pc' := 66) rfl ?_
            exact x_iret dX11_law_66 rfl (hR0 _ _ h9)
          · replace h9 := ifF hc14 h9
            refine e_aload_n dX11_law_43 rfl rfl ?_
            refine e_bipush (v := (-7)) dX11_law_44 rfl ?_
            obtain ⟨⟨r17, w18⟩, hr17, h9⟩ := elimP hN0 h9
            refine x_callVi (c := 11) (As := [.int (-7)]) (rest := []) okX11_refused lkX11_105 rfl (by decide) rfl dX11_law_46 rfl rfl (Nat.le_of_ble_eq_true rfl) rfl (c_X11_refused (-7) hr17 (CI.mk ?_))
            exact x_iret dX11_law_49 rfl (hR0 _ _ h9)
        · replace h9 := ifF hc13 h9
          refine e_aload_n dX11_law_24 rfl rfl ?_
          refine e_bipush (v := (-6)) dX11_law_25 rfl ?_
          obtain ⟨⟨r20, w21⟩, hr20, h9⟩ := elimP hN0 h9
          refine x_callVi (c := 11) (As := [.int (-6)]) (rest := []) okX11_refused lkX11_105 rfl (by decide) rfl dX11_law_27 rfl rfl (Nat.le_of_ble_eq_true rfl) rfl (c_X11_refused (-6) hr20 (CI.mk ?_))
          exact x_iret dX11_law_30 rfl (hR0 _ _ h9)
noncomputable def f_X11_counts (x : VM) (p1 : Int32) (p2 : Int32) (p3 : Int32) : Option (Int32) := (f_X11_personAt x p1).elim none (fun r1 => r1.elim (some (-1)) (fun i2 => if p2 < 0 then some (-1) else if 5 ≤ p2 then some (-1) else if i2 < x.2.2.2 4 then if (x.1 405 i2) = (-1) then some (-1) else (f_X4_countOf x i2 p2 p3).elim none (fun r7 => some r7) else none))
theorem c_X11_counts {g : GG} {d : Nat} {ad : AD} {x m : VM} {Q : Option Value → VM → VM → Prop} (p1 : Int32) (p2 : Int32) (p3 : Int32) {r9 : Int32} (hf : f_X11_counts x p1 p2 p3 = some r9) (hq : Q (some (.int r9)) x m) : CX g (d + 2) MX11_counts [.ref (ad 11 0), .int p1, .int p2, .int p3] ad x m Q := by
  refine CX.to (Lv := [some (.ref (ad 11 0)), some (.int p1), some (.int p2), some (.int p3), none]) okX11_counts (Nat.le_of_ble_eq_true rfl) rfl ?_
  obtain ⟨Φ0, hΦ⟩ : ∃ Φ : Option (Int32) → Prop, Φ = fun o => o = some r9 := ⟨_, rfl⟩
  have hN0 : Φ0 none → False := by rw [hΦ]; intro h; cases h
  have hR0 : ∀ z9, Φ0 (some z9) → Q (some (.int z9)) x m := by rw [hΦ]; intro z9 h; cases h; exact hq
  have h9 : Φ0 (f_X11_counts x p1 p2 p3) := by rw [hΦ]; exact hf
  clear hf hq hΦ
  unfold f_X11_counts at h9
  refine e_aload_n dX11_counts_0 rfl rfl ?_
  refine e_iload_n dX11_counts_1 rfl rfl ?_
  obtain ⟨r1, hr1, h9⟩ := elimP hN0 h9
  refine x_callVi (c := 11) (As := [.int p1]) (rest := []) okX11_personAt lkX11_174 rfl (by decide) rfl dX11_counts_2 rfl rfl (Nat.le_of_ble_eq_true rfl) rfl (c_X11_personAt p1 hr1 (CI.mk ?_))
  cases r1 with
  | none =>
    replace h9 := elN h9
    refine e_top (v := .null) rfl ?_
    refine e_astoreN (L' := [some (.ref (ad 11 0)), some (.int p1), some (.int p2), some (.int p3), some (.null)]) dX11_counts_5 (by decide) rfl ?_
    refine e_aloadN dX11_counts_7 rfl ?_
    refine e_ifnullN (tgt := 30) dX11_counts_9 rfl ?_
    refine e_iconst (v := (-1)) dX11_counts_30 rfl ?_
    exact x_iret dX11_counts_31 rfl (hR0 _ h9)
  | some i2 =>
    replace h9 := elS h9
    refine e_top (v := .ref (ad 4 i2)) rfl ?_
    refine e_astore (L' := [some (.ref (ad 11 0)), some (.int p1), some (.int p2), some (.int p3), some (.ref (ad 4 i2))]) dX11_counts_5 (by decide) rfl ?_
    refine e_aload dX11_counts_7 rfl ?_
    refine e_ifnull dX11_counts_9 ?_
    refine e_iload_n dX11_counts_12 rfl rfl ?_
    refine e_if_lt (tgt := 30) dX11_counts_13 rfl (fun hc3 => ?_) (fun hc3 => ?_)
    · replace h9 := ifT hc3 h9
      refine e_iconst (v := (-1)) dX11_counts_30 rfl ?_
      exact x_iret dX11_counts_31 rfl (hR0 _ h9)
    · replace h9 := ifF hc3 h9
      refine e_iload_n dX11_counts_16 rfl rfl ?_
      refine e_iconst (v := 5) dX11_counts_17 rfl ?_
      refine e_icmp_ge (tgt := 30) dX11_counts_18 rfl (fun hc4 => ?_) (fun hc4 => ?_)
      · replace h9 := ifT hc4 h9
        refine e_iconst (v := (-1)) dX11_counts_30 rfl ?_
        exact x_iret dX11_counts_31 rfl (hR0 _ h9)
      · replace h9 := ifF hc4 h9
        refine e_aload dX11_counts_21 rfl ?_
        obtain ⟨k5, h9⟩ := chkP hN0 h9
        refine g_405 flX11_195 dX11_counts_23 k5 ?_
        refine e_iconst (v := (-1)) dX11_counts_26 rfl ?_
        refine e_icmp_ne (tgt := 32) dX11_counts_27 rfl (fun hc6 => ?_) (fun hc6 => ?_)
        · replace h9 := ifF hc6 h9
          refine e_aload dX11_counts_32 rfl ?_
          refine e_iload_n dX11_counts_34 rfl rfl ?_
          refine e_iload_n dX11_counts_35 rfl rfl ?_
          refine e_aload_n dX11_counts_36 rfl rfl ?_
          refine g_1104 flX11_36 dX11_counts_37 ?_
          obtain ⟨r7, hr7, h9⟩ := elimP hN0 h9
          refine x_callVi (c := 4) (As := [.int p2, .int p3, .ref (ad 2 0)]) (rest := []) okX4_countOf lkX11_204 rfl (by decide) rfl dX11_counts_40 rfl rfl (Nat.le_of_ble_eq_true rfl) k5 (c_X4_countOf i2 p2 p3 hr7 (CI.mk ?_))
          exact x_iret dX11_counts_43 rfl (hR0 _ h9)
        · replace h9 := ifT hc6 h9
          refine e_iconst (v := (-1)) dX11_counts_30 rfl ?_
          exact x_iret dX11_counts_31 rfl (hR0 _ h9)
noncomputable def f_X11_ill (x : VM) (p1 : Int32) (p2 : Int32) : Option (Int32 × VM) := (f_X11_personAt x p1).elim none (fun r1 => r1.elim ((f_X11_rowLack x p2).elim none (fun r3 => (f_X11_refused x (-1)).elim none (fun r4p => some (r4p.1, r4p.2)))) (fun i2 => (f_X11_rowLack x p2).elim none (fun r7 => if r7 = (-1) then (f_X11_refused x (-1)).elim none (fun r18p => some (r18p.1, r18p.2)) else if r7 = 0 then if inb p2 8 = true then if i2 < x.2.2.2 4 then (f_X4_takeIllness x i2 p2.toNatClampNeg).elim none (fun r12 => if i2 < r12.2.2.2 4 then some (r12.1 403 i2, r12) else none) else none else none else (f_X11_refused x r7).elim none (fun r15p => some (r15p.1, r15p.2)))))
theorem c_X11_ill {g : GG} {d : Nat} {ad : AD} {x m : VM} {Q : Option Value → VM → VM → Prop} (p1 : Int32) (p2 : Int32) {r9 : Int32} {w9 : VM} (hf : f_X11_ill x p1 p2 = some (r9, w9)) (hq : Q (some (.int r9)) w9 m) : CX g (d + 2) MX11_ill [.ref (ad 11 0), .int p1, .int p2] ad x m Q := by
  refine CX.to (Lv := [some (.ref (ad 11 0)), some (.int p1), some (.int p2), none, none]) okX11_ill (Nat.le_of_ble_eq_true rfl) rfl ?_
  obtain ⟨Φ0, hΦ⟩ : ∃ Φ : Option (Int32 × VM) → Prop, Φ = fun o => o = some (r9, w9) := ⟨_, rfl⟩
  have hN0 : Φ0 none → False := by rw [hΦ]; intro h; cases h
  have hR0 : ∀ z9 y9, Φ0 (some (z9, y9)) → Q (some (.int z9)) y9 m := by rw [hΦ]; intro z9 y9 h; cases h; exact hq
  have h9 : Φ0 (f_X11_ill x p1 p2) := by rw [hΦ]; exact hf
  clear hf hq hΦ
  unfold f_X11_ill at h9
  refine e_aload_n dX11_ill_0 rfl rfl ?_
  refine e_iload_n dX11_ill_1 rfl rfl ?_
  obtain ⟨r1, hr1, h9⟩ := elimP hN0 h9
  refine x_callVi (c := 11) (As := [.int p1]) (rest := []) okX11_personAt lkX11_174 rfl (by decide) rfl dX11_ill_2 rfl rfl (Nat.le_of_ble_eq_true rfl) rfl (c_X11_personAt p1 hr1 (CI.mk ?_))
  cases r1 with
  | none =>
    replace h9 := elN h9
    refine e_top (v := .null) rfl ?_
    refine e_astore_nN (L' := [some (.ref (ad 11 0)), some (.int p1), some (.int p2), some (.null), none]) dX11_ill_5 rfl (by decide) rfl ?_
    refine e_aload_n dX11_ill_6 rfl rfl ?_
    refine e_iload_n dX11_ill_7 rfl rfl ?_
    obtain ⟨r3, hr3, h9⟩ := elimP hN0 h9
    refine x_callVi (c := 11) (As := [.int p2]) (rest := []) okX11_rowLack lkX11_123 rfl (by decide) rfl dX11_ill_8 rfl rfl (Nat.le_of_ble_eq_true rfl) rfl (c_X11_rowLack p2 hr3 (CI.mk ?_))
    refine e_istore (L' := [some (.ref (ad 11 0)), some (.int p1), some (.int p2), some (.null), some (.int r3)]) dX11_ill_11 (by decide) rfl ?_
    refine e_aload_nN dX11_ill_13 rfl rfl ?_
    refine e_ifnullN (tgt := 23) dX11_ill_14 rfl ?_
    refine e_aload_n dX11_ill_23 rfl rfl ?_
    refine e_pc (pc' := 24) rfl ?_
    refine e_iconst (v := (-1)) dX11_ill_24 rfl ?_
    obtain ⟨⟨r4, w5⟩, hr4, h9⟩ := elimP hN0 h9
    refine x_callVi (c := 11) (As := [.int (-1)]) (rest := []) okX11_refused lkX11_105 rfl (by decide) rfl dX11_ill_25 rfl rfl (Nat.le_of_ble_eq_true rfl) rfl (c_X11_refused (-1) hr4 (CI.mk ?_))
    exact x_iret dX11_ill_28 rfl (hR0 _ _ h9)
  | some i2 =>
    replace h9 := elS h9
    refine e_top (v := .ref (ad 4 i2)) rfl ?_
    refine e_astore_n (L' := [some (.ref (ad 11 0)), some (.int p1), some (.int p2), some (.ref (ad 4 i2)), none]) dX11_ill_5 rfl (by decide) rfl ?_
    refine e_aload_n dX11_ill_6 rfl rfl ?_
    refine e_iload_n dX11_ill_7 rfl rfl ?_
    obtain ⟨r7, hr7, h9⟩ := elimP hN0 h9
    refine x_callVi (c := 11) (As := [.int p2]) (rest := []) okX11_rowLack lkX11_123 rfl (by decide) rfl dX11_ill_8 rfl rfl (Nat.le_of_ble_eq_true rfl) rfl (c_X11_rowLack p2 hr7 (CI.mk ?_))
    refine e_istore (L' := [some (.ref (ad 11 0)), some (.int p1), some (.int p2), some (.ref (ad 4 i2)), some (.int r7)]) dX11_ill_11 (by decide) rfl ?_
    refine e_aload_n dX11_ill_13 rfl rfl ?_
    refine e_ifnull dX11_ill_14 ?_
    refine e_iload dX11_ill_17 rfl ?_
    refine e_pc (pc' := 19) rfl ?_
    refine e_iconst (v := (-1)) dX11_ill_19 rfl ?_
    refine e_icmp_ne (tgt := 29) dX11_ill_20 rfl (fun hc8 => ?_) (fun hc8 => ?_)
    · replace h9 := ifF hc8 h9
      refine e_iload dX11_ill_29 rfl ?_
      refine e_if_eq (tgt := 41) dX11_ill_31 rfl (fun hc9 => ?_) (fun hc9 => ?_)
      · replace h9 := ifT hc9 h9
        refine e_aload_n dX11_ill_41 rfl rfl ?_
        refine e_aload_n dX11_ill_42 rfl rfl ?_
        refine g_1100 flX11_11 dX11_ill_43 ?_
        refine e_iload_n dX11_ill_46 rfl rfl ?_
        obtain ⟨k10, h9⟩ := chkP hN0 h9
        refine l_1100 dX11_ill_47 (inb_in k10) ?_
        refine e_top (v := .ref (ad 9 p2.toNatClampNeg)) rfl ?_
        obtain ⟨k11, h9⟩ := chkP hN0 h9
        obtain ⟨r12, hr12, h9⟩ := elimP hN0 h9
        refine x_callVv (c := 4) (As := [.ref (ad 9 p2.toNatClampNeg)]) (rest := []) okX4_takeIllness lkX11_208 rfl (by decide) rfl dX11_ill_48 rfl rfl (Nat.le_of_ble_eq_true rfl) k11 (c_X4_takeIllness i2 p2.toNatClampNeg hr12 (CV.mk ?_))
        refine e_aload_n dX11_ill_51 rfl rfl ?_
        obtain ⟨k14, h9⟩ := chkP hN0 h9
        refine g_403 flX11_211 dX11_ill_52 k14 ?_
        refine e_pc (pc' := 55) rfl ?_
        exact x_iret dX11_ill_55 rfl (hR0 _ _ h9)
      · replace h9 := ifF hc9 h9
        refine e_aload_n dX11_ill_34 rfl rfl ?_
        refine e_iload dX11_ill_35 rfl ?_
        obtain ⟨⟨r15, w16⟩, hr15, h9⟩ := elimP hN0 h9
        refine x_callVi (c := 11) (As := [.int r7]) (rest := []) okX11_refused lkX11_105 rfl (by decide) rfl dX11_ill_37 rfl rfl (Nat.le_of_ble_eq_true rfl) rfl (c_X11_refused r7 hr15 (CI.mk ?_))
        exact x_iret dX11_ill_40 rfl (hR0 _ _ h9)
    · replace h9 := ifT hc8 h9
      refine e_aload_n dX11_ill_23 rfl rfl ?_
      refine e_iconst (v := (-1)) dX11_ill_24 rfl ?_
      obtain ⟨⟨r18, w19⟩, hr18, h9⟩ := elimP hN0 h9
      refine x_callVi (c := 11) (As := [.int (-1)]) (rest := []) okX11_refused lkX11_105 rfl (by decide) rfl dX11_ill_25 rfl rfl (Nat.le_of_ble_eq_true rfl) rfl (c_X11_refused (-1) hr18 (CI.mk ?_))
      exact x_iret dX11_ill_28 rfl (hR0 _ _ h9)
noncomputable def f_X11_refuse (x : VM) (p1 : Int32) : Option (Int32 × VM) := (f_X11_personAt x p1).elim none (fun r1 => r1.elim ((f_X11_refused x (-1)).elim none (fun r3p => some (r3p.1, r3p.2))) (fun i2 => if i2 < x.2.2.2 4 then (f_X4_isAtWork x i2 (x.1 1116 0)).elim none (fun r7 => if r7 = 0 then (f_X11_refused x (-6)).elim none (fun r14p => some (r14p.1, r14p.2)) else (f_X4_refusalsOn x i2 (x.1 1116 0)).elim none (fun r9 => (f_X4_countOf x i2 2 (x.1 1116 0)).elim none (fun r10 => if r10 ≤ r9 then some (0, setI x 406 i2 1) else (f_X4_addRefusal x i2 (x.1 1116 0)).elim none (fun r12 => some (1, r12))))) else none))
theorem c_X11_refuse {g : GG} {d : Nat} {ad : AD} {x m : VM} {Q : Option Value → VM → VM → Prop} (p1 : Int32) {r9 : Int32} {w9 : VM} (hf : f_X11_refuse x p1 = some (r9, w9)) (hq : Q (some (.int r9)) w9 m) : CX g (d + 3) MX11_refuse [.ref (ad 11 0), .int p1] ad x m Q := by
  refine CX.to (Lv := [some (.ref (ad 11 0)), some (.int p1), none]) okX11_refuse (Nat.le_of_ble_eq_true rfl) rfl ?_
  obtain ⟨Φ0, hΦ⟩ : ∃ Φ : Option (Int32 × VM) → Prop, Φ = fun o => o = some (r9, w9) := ⟨_, rfl⟩
  have hN0 : Φ0 none → False := by rw [hΦ]; intro h; cases h
  have hR0 : ∀ z9 y9, Φ0 (some (z9, y9)) → Q (some (.int z9)) y9 m := by rw [hΦ]; intro z9 y9 h; cases h; exact hq
  have h9 : Φ0 (f_X11_refuse x p1) := by rw [hΦ]; exact hf
  clear hf hq hΦ
  unfold f_X11_refuse at h9
  refine e_aload_n dX11_refuse_0 rfl rfl ?_
  refine e_iload_n dX11_refuse_1 rfl rfl ?_
  obtain ⟨r1, hr1, h9⟩ := elimP hN0 h9
  refine x_callVi (c := 11) (As := [.int p1]) (rest := []) okX11_personAt lkX11_174 rfl (by decide) rfl dX11_refuse_2 rfl rfl (Nat.le_of_ble_eq_true rfl) rfl (c_X11_personAt p1 hr1 (CI.mk ?_))
  cases r1 with
  | none =>
    replace h9 := elN h9
    refine e_top (v := .null) rfl ?_
    refine e_astore_nN (L' := [some (.ref (ad 11 0)), some (.int p1), some (.null)]) dX11_refuse_5 rfl (by decide) rfl ?_
    refine e_aload_nN dX11_refuse_6 rfl rfl ?_
    refine e_ifnonnullN dX11_refuse_7 ?_
    refine e_aload_n dX11_refuse_10 rfl rfl ?_
    refine e_iconst (v := (-1)) dX11_refuse_11 rfl ?_
    obtain ⟨⟨r3, w4⟩, hr3, h9⟩ := elimP hN0 h9
    refine x_callVi (c := 11) (As := [.int (-1)]) (rest := []) okX11_refused lkX11_105 rfl (by decide) rfl dX11_refuse_12 rfl rfl (Nat.le_of_ble_eq_true rfl) rfl (c_X11_refused (-1) hr3 (CI.mk ?_))
    exact x_iret dX11_refuse_15 rfl (hR0 _ _ h9)
  | some i2 =>
    replace h9 := elS h9
    refine e_top (v := .ref (ad 4 i2)) rfl ?_
    refine e_astore_n (L' := [some (.ref (ad 11 0)), some (.int p1), some (.ref (ad 4 i2))]) dX11_refuse_5 rfl (by decide) rfl ?_
    refine e_aload_n dX11_refuse_6 rfl rfl ?_
    refine e_ifnonnull (tgt := 16) dX11_refuse_7 rfl ?_
    refine e_aload_n dX11_refuse_16 rfl rfl ?_
    refine e_aload_n dX11_refuse_17 rfl rfl ?_
    refine g_1116 flX11_95 dX11_refuse_18 ?_
    obtain ⟨k6, h9⟩ := chkP hN0 h9
    obtain ⟨r7, hr7, h9⟩ := elimP hN0 h9
    refine x_callVi (c := 4) (As := [.int (x.1 1116 0)]) (rest := []) okX4_isAtWork lkX11_214 rfl (by decide) rfl dX11_refuse_21 rfl rfl (Nat.le_of_ble_eq_true rfl) k6 (c_X4_isAtWork i2 (x.1 1116 0) hr7 (CI.mk ?_))
    refine e_if_ne (tgt := 34) dX11_refuse_24 rfl (fun hc8 => ?_) (fun hc8 => ?_)
    · replace h9 := ifF hc8 h9
      refine e_aload_n dX11_refuse_34 rfl rfl ?_
      refine e_aload_n dX11_refuse_35 rfl rfl ?_
      refine g_1116 flX11_95 dX11_refuse_36 ?_
      obtain ⟨r9, hr9, h9⟩ := elimP hN0 h9
      refine x_callVi (c := 4) (As := [.int (x.1 1116 0)]) (rest := []) okX4_refusalsOn lkX11_217 rfl (by decide) rfl dX11_refuse_39 rfl rfl (Nat.le_of_ble_eq_true rfl) k6 (c_X4_refusalsOn i2 (x.1 1116 0) hr9 (CI.mk ?_))
      refine e_aload_n dX11_refuse_42 rfl rfl ?_
      refine e_iconst (v := 2) dX11_refuse_43 rfl ?_
      refine e_aload_n dX11_refuse_44 rfl rfl ?_
      refine g_1116 flX11_95 dX11_refuse_45 ?_
      refine e_pc (pc' := 48) rfl ?_
      refine e_aload_n dX11_refuse_48 rfl rfl ?_
      refine g_1104 flX11_36 dX11_refuse_49 ?_
      obtain ⟨r10, hr10, h9⟩ := elimP hN0 h9
      refine x_callVi (c := 4) (As := [.int 2, .int (x.1 1116 0), .ref (ad 2 0)]) (rest := [.int r9]) okX4_countOf lkX11_204 rfl (by decide) rfl dX11_refuse_52 rfl rfl (Nat.le_of_ble_eq_true rfl) k6 (c_X4_countOf i2 2 (x.1 1116 0) hr10 (CI.mk ?_))
      refine e_icmp_ge (tgt := 68) dX11_refuse_55 rfl (fun hc11 => ?_) (fun hc11 => ?_)
      · replace h9 := ifT hc11 h9
        refine e_aload_n dX11_refuse_68 rfl rfl ?_
        refine e_iconst (v := 1) dX11_refuse_69 rfl ?_
        refine p_406 flX11_223 dX11_refuse_70 k6 (by decide) ?_
        refine e_iconst (v := 0) dX11_refuse_73 rfl ?_
        exact x_iret dX11_refuse_74 rfl (hR0 _ _ h9)
      · replace h9 := ifF hc11 h9
        refine e_aload_n dX11_refuse_58 rfl rfl ?_
        refine e_aload_n dX11_refuse_59 rfl rfl ?_
        refine g_1116 flX11_95 dX11_refuse_60 ?_
        obtain ⟨r12, hr12, h9⟩ := elimP hN0 h9
        refine x_callVv (c := 4) (As := [.int (x.1 1116 0)]) (rest := []) okX4_addRefusal lkX11_220 rfl (by decide) rfl dX11_refuse_63 rfl rfl (Nat.le_of_ble_eq_true rfl) k6 (c_X4_addRefusal i2 (x.1 1116 0) hr12 (CV.mk ?_))
        refine e_iconst (v := 1) dX11_refuse_66 rfl ?_
        exact x_iret dX11_refuse_67 rfl (hR0 _ _ h9)
    · replace h9 := ifT hc8 h9
      refine e_aload_n dX11_refuse_27 rfl rfl ?_
      refine e_bipush (v := (-6)) dX11_refuse_28 rfl ?_
      obtain ⟨⟨r14, w15⟩, hr14, h9⟩ := elimP hN0 h9
      refine x_callVi (c := 11) (As := [.int (-6)]) (rest := []) okX11_refused lkX11_105 rfl (by decide) rfl dX11_refuse_30 rfl rfl (Nat.le_of_ble_eq_true rfl) rfl (c_X11_refused (-6) hr14 (CI.mk ?_))
      exact x_iret dX11_refuse_33 rfl (hR0 _ _ h9)
noncomputable def f_X11_recall (x : VM) (p1 : Int32) : Option (Int32 × VM) := (f_X11_personAt x p1).elim none (fun r1 => r1.elim ((f_X11_refused x (-1)).elim none (fun r3p => some (r3p.1, r3p.2))) (fun i2 => if i2 < x.2.2.2 4 then if (x.1 406 i2) = 0 then (f_X11_refused x (-6)).elim none (fun r8p => some (r8p.1, r8p.2)) else some (1, setI x 406 i2 0) else none))
theorem c_X11_recall {g : GG} {d : Nat} {ad : AD} {x m : VM} {Q : Option Value → VM → VM → Prop} (p1 : Int32) {r9 : Int32} {w9 : VM} (hf : f_X11_recall x p1 = some (r9, w9)) (hq : Q (some (.int r9)) w9 m) : CX g (d + 1) MX11_recall [.ref (ad 11 0), .int p1] ad x m Q := by
  refine CX.to (Lv := [some (.ref (ad 11 0)), some (.int p1), none]) okX11_recall (Nat.le_of_ble_eq_true rfl) rfl ?_
  obtain ⟨Φ0, hΦ⟩ : ∃ Φ : Option (Int32 × VM) → Prop, Φ = fun o => o = some (r9, w9) := ⟨_, rfl⟩
  have hN0 : Φ0 none → False := by rw [hΦ]; intro h; cases h
  have hR0 : ∀ z9 y9, Φ0 (some (z9, y9)) → Q (some (.int z9)) y9 m := by rw [hΦ]; intro z9 y9 h; cases h; exact hq
  have h9 : Φ0 (f_X11_recall x p1) := by rw [hΦ]; exact hf
  clear hf hq hΦ
  unfold f_X11_recall at h9
  refine e_aload_n dX11_recall_0 rfl rfl ?_
  refine e_iload_n dX11_recall_1 rfl rfl ?_
  obtain ⟨r1, hr1, h9⟩ := elimP hN0 h9
  refine x_callVi (c := 11) (As := [.int p1]) (rest := []) okX11_personAt lkX11_174 rfl (by decide) rfl dX11_recall_2 rfl rfl (Nat.le_of_ble_eq_true rfl) rfl (c_X11_personAt p1 hr1 (CI.mk ?_))
  cases r1 with
  | none =>
    replace h9 := elN h9
    refine e_top (v := .null) rfl ?_
    refine e_astore_nN (L' := [some (.ref (ad 11 0)), some (.int p1), some (.null)]) dX11_recall_5 rfl (by decide) rfl ?_
    refine e_aload_nN dX11_recall_6 rfl rfl ?_
    refine e_ifnonnullN dX11_recall_7 ?_
    refine e_aload_n dX11_recall_10 rfl rfl ?_
    refine e_iconst (v := (-1)) dX11_recall_11 rfl ?_
    obtain ⟨⟨r3, w4⟩, hr3, h9⟩ := elimP hN0 h9
    refine x_callVi (c := 11) (As := [.int (-1)]) (rest := []) okX11_refused lkX11_105 rfl (by decide) rfl dX11_recall_12 rfl rfl (Nat.le_of_ble_eq_true rfl) rfl (c_X11_refused (-1) hr3 (CI.mk ?_))
    exact x_iret dX11_recall_15 rfl (hR0 _ _ h9)
  | some i2 =>
    replace h9 := elS h9
    refine e_top (v := .ref (ad 4 i2)) rfl ?_
    refine e_astore_n (L' := [some (.ref (ad 11 0)), some (.int p1), some (.ref (ad 4 i2))]) dX11_recall_5 rfl (by decide) rfl ?_
    refine e_aload_n dX11_recall_6 rfl rfl ?_
    refine e_ifnonnull (tgt := 16) dX11_recall_7 rfl ?_
    refine e_aload_n dX11_recall_16 rfl rfl ?_
    obtain ⟨k6, h9⟩ := chkP hN0 h9
    refine g_406 flX11_223 dX11_recall_17 k6 ?_
    refine e_if_ne (tgt := 30) dX11_recall_20 rfl (fun hc7 => ?_) (fun hc7 => ?_)
    · replace h9 := ifF hc7 h9
      refine e_aload_n dX11_recall_30 rfl rfl ?_
      refine e_iconst (v := 0) dX11_recall_31 rfl ?_
      refine p_406 flX11_223 dX11_recall_32 k6 (by decide) ?_
      refine e_iconst (v := 1) dX11_recall_35 rfl ?_
      exact x_iret dX11_recall_36 rfl (hR0 _ _ h9)
    · replace h9 := ifT hc7 h9
      refine e_aload_n dX11_recall_23 rfl rfl ?_
      refine e_bipush (v := (-6)) dX11_recall_24 rfl ?_
      obtain ⟨⟨r8, w9⟩, hr8, h9⟩ := elimP hN0 h9
      refine x_callVi (c := 11) (As := [.int (-6)]) (rest := []) okX11_refused lkX11_105 rfl (by decide) rfl dX11_recall_26 rfl rfl (Nat.le_of_ble_eq_true rfl) rfl (c_X11_refused (-6) hr8 (CI.mk ?_))
      exact x_iret dX11_recall_29 rfl (hR0 _ _ h9)
noncomputable def f_X11_lend (x : VM) (p1 : Int32) (p2 : Int32) (p3 : Int32) : Option (Int32 × VM) := (f_X11_personAt x p1).elim none (fun r1 => r1.elim ((f_X11_refused x (-1)).elim none (fun r3p => some (r3p.1, r3p.2))) (fun i2 => if p2 < 1 then (f_X11_refused x (-6)).elim none (fun r7p => some (r7p.1, r7p.2)) else if 400 < p2 then (f_X11_refused x (-6)).elim none (fun r11p => some (r11p.1, r11p.2)) else if p3 < 0 then (f_X11_refused x (-6)).elim none (fun r15p => some (r15p.1, r15p.2)) else if 99999 < p3 then (f_X11_refused x (-6)).elim none (fun r19p => some (r19p.1, r19p.2)) else if i2 < x.2.2.2 4 then (f_X4_isAtWork x i2 (x.1 1116 0)).elim none (fun r23 => if r23 = 0 then (f_X11_refused x (-6)).elim none (fun r26p => some (r26p.1, r26p.2)) else (f_X4_countOf (setI x 407 i2 ((x.1 1116 0) + p2)) i2 4 ((setI x 407 i2 ((x.1 1116 0) + p2)).1 1116 0)).elim none (fun r25 => some (p3 - ((p3 * r25) / 100), setI (setI x 407 i2 ((x.1 1116 0) + p2)) 1117 0 (((setI x 407 i2 ((x.1 1116 0) + p2)).1 1117 0) + (p3 - ((p3 * r25) / 100)))))) else none))
theorem c_X11_lend {g : GG} {d : Nat} {ad : AD} {x m : VM} {Q : Option Value → VM → VM → Prop} (p1 : Int32) (p2 : Int32) (p3 : Int32) {r9 : Int32} {w9 : VM} (hf : f_X11_lend x p1 p2 p3 = some (r9, w9)) (hq : Q (some (.int r9)) w9 m) : CX g (d + 2) MX11_lend [.ref (ad 11 0), .int p1, .int p2, .int p3] ad x m Q := by
  refine CX.to (Lv := [some (.ref (ad 11 0)), some (.int p1), some (.int p2), some (.int p3), none, none]) okX11_lend (Nat.le_of_ble_eq_true rfl) rfl ?_
  obtain ⟨Φ0, hΦ⟩ : ∃ Φ : Option (Int32 × VM) → Prop, Φ = fun o => o = some (r9, w9) := ⟨_, rfl⟩
  have hN0 : Φ0 none → False := by rw [hΦ]; intro h; cases h
  have hR0 : ∀ z9 y9, Φ0 (some (z9, y9)) → Q (some (.int z9)) y9 m := by rw [hΦ]; intro z9 y9 h; cases h; exact hq
  have h9 : Φ0 (f_X11_lend x p1 p2 p3) := by rw [hΦ]; exact hf
  clear hf hq hΦ
  unfold f_X11_lend at h9
  refine e_aload_n dX11_lend_0 rfl rfl ?_
  refine e_iload_n dX11_lend_1 rfl rfl ?_
  obtain ⟨r1, hr1, h9⟩ := elimP hN0 h9
  refine x_callVi (c := 11) (As := [.int p1]) (rest := []) okX11_personAt lkX11_174 rfl (by decide) rfl dX11_lend_2 rfl rfl (Nat.le_of_ble_eq_true rfl) rfl (c_X11_personAt p1 hr1 (CI.mk ?_))
  cases r1 with
  | none =>
    replace h9 := elN h9
    refine e_top (v := .null) rfl ?_
    refine e_astoreN (L' := [some (.ref (ad 11 0)), some (.int p1), some (.int p2), some (.int p3), some (.null), none]) dX11_lend_5 (by decide) rfl ?_
    refine e_aloadN dX11_lend_7 rfl ?_
    refine e_ifnonnullN dX11_lend_9 ?_
    refine e_aload_n dX11_lend_12 rfl rfl ?_
    refine e_iconst (v := (-1)) dX11_lend_13 rfl ?_
    obtain ⟨⟨r3, w4⟩, hr3, h9⟩ := elimP hN0 h9
    refine x_callVi (c := 11) (As := [.int (-1)]) (rest := []) okX11_refused lkX11_105 rfl (by decide) rfl dX11_lend_14 rfl rfl (Nat.le_of_ble_eq_true rfl) rfl (c_X11_refused (-1) hr3 (CI.mk ?_))
    exact x_iret dX11_lend_17 rfl (hR0 _ _ h9)
  | some i2 =>
    replace h9 := elS h9
    refine e_top (v := .ref (ad 4 i2)) rfl ?_
    refine e_astore (L' := [some (.ref (ad 11 0)), some (.int p1), some (.int p2), some (.int p3), some (.ref (ad 4 i2)), none]) dX11_lend_5 (by decide) rfl ?_
    refine e_aload dX11_lend_7 rfl ?_
    refine e_ifnonnull (tgt := 18) dX11_lend_9 rfl ?_
    refine e_iload_n dX11_lend_18 rfl rfl ?_
    refine e_iconst (v := 1) dX11_lend_19 rfl ?_
    refine e_icmp_lt (tgt := 52) dX11_lend_20 rfl (fun hc6 => ?_) (fun hc6 => ?_)
    · replace h9 := ifT hc6 h9
      refine e_aload_n dX11_lend_52 rfl rfl ?_
      refine e_bipush (v := (-6)) dX11_lend_53 rfl ?_
      obtain ⟨⟨r7, w8⟩, hr7, h9⟩ := elimP hN0 h9
      refine x_callVi (c := 11) (As := [.int (-6)]) (rest := []) okX11_refused lkX11_105 rfl (by decide) rfl dX11_lend_55 rfl rfl (Nat.le_of_ble_eq_true rfl) rfl (c_X11_refused (-6) hr7 (CI.mk ?_))
      exact x_iret dX11_lend_58 rfl (hR0 _ _ h9)
    · replace h9 := ifF hc6 h9
      refine e_iload_n dX11_lend_23 rfl rfl ?_
      refine e_sipush (v := 400) dX11_lend_24 rfl ?_
      refine e_icmp_gt (tgt := 52) dX11_lend_27 rfl (fun hc10 => ?_) (fun hc10 => ?_)
      · replace h9 := ifT hc10 h9
        refine e_aload_n dX11_lend_52 rfl rfl ?_
        refine e_bipush (v := (-6)) dX11_lend_53 rfl ?_
        obtain ⟨⟨r11, w12⟩, hr11, h9⟩ := elimP hN0 h9
        refine x_callVi (c := 11) (As := [.int (-6)]) (rest := []) okX11_refused lkX11_105 rfl (by decide) rfl dX11_lend_55 rfl rfl (Nat.le_of_ble_eq_true rfl) rfl (c_X11_refused (-6) hr11 (CI.mk ?_))
        exact x_iret dX11_lend_58 rfl (hR0 _ _ h9)
      · replace h9 := ifF hc10 h9
        refine e_iload_n dX11_lend_30 rfl rfl ?_
        refine e_if_lt (tgt := 52) dX11_lend_31 rfl (fun hc14 => ?_) (fun hc14 => ?_)
        · replace h9 := ifT hc14 h9
          refine e_aload_n dX11_lend_52 rfl rfl ?_
          refine e_bipush (v := (-6)) dX11_lend_53 rfl ?_
          obtain ⟨⟨r15, w16⟩, hr15, h9⟩ := elimP hN0 h9
          refine x_callVi (c := 11) (As := [.int (-6)]) (rest := []) okX11_refused lkX11_105 rfl (by decide) rfl dX11_lend_55 rfl rfl (Nat.le_of_ble_eq_true rfl) rfl (c_X11_refused (-6) hr15 (CI.mk ?_))
          exact x_iret dX11_lend_58 rfl (hR0 _ _ h9)
        · replace h9 := ifF hc14 h9
          refine e_iload_n dX11_lend_34 rfl rfl ?_
          refine e_ldc (v := 99999) rfl kcX11_227 dX11_lend_35 ?_
          refine e_icmp_gt (tgt := 52) dX11_lend_37 rfl (fun hc18 => ?_) (fun hc18 => ?_)
          · replace h9 := ifT hc18 h9
            refine e_aload_n dX11_lend_52 rfl rfl ?_
            refine e_bipush (v := (-6)) dX11_lend_53 rfl ?_
            obtain ⟨⟨r19, w20⟩, hr19, h9⟩ := elimP hN0 h9
            refine x_callVi (c := 11) (As := [.int (-6)]) (rest := []) okX11_refused lkX11_105 rfl (by decide) rfl dX11_lend_55 rfl rfl (Nat.le_of_ble_eq_true rfl) rfl (c_X11_refused (-6) hr19 (CI.mk ?_))
            exact x_iret dX11_lend_58 rfl (hR0 _ _ h9)
          · replace h9 := ifF hc18 h9
            refine e_aload dX11_lend_40 rfl ?_
            refine e_aload_n dX11_lend_42 rfl rfl ?_
            refine g_1116 flX11_95 dX11_lend_43 ?_
            obtain ⟨k22, h9⟩ := chkP hN0 h9
            obtain ⟨r23, hr23, h9⟩ := elimP hN0 h9
            refine x_callVi (c := 4) (As := [.int (x.1 1116 0)]) (rest := []) okX4_isAtWork lkX11_214 rfl (by decide) rfl dX11_lend_46 rfl rfl (Nat.le_of_ble_eq_true rfl) k22 (c_X4_isAtWork i2 (x.1 1116 0) hr23 (CI.mk ?_))
            refine e_if_ne (tgt := 59) dX11_lend_49 rfl (fun hc24 => ?_) (fun hc24 => ?_)
            · replace h9 := ifF hc24 h9
              refine e_aload dX11_lend_59 rfl ?_
              refine e_aload_n dX11_lend_61 rfl rfl ?_
              refine g_1116 flX11_95 dX11_lend_62 ?_
              refine e_iload_n dX11_lend_65 rfl rfl ?_
              refine e_iadd dX11_lend_66 ?_
              refine p_407 flX11_228 dX11_lend_67 k22 ?_
              refine e_iload_n dX11_lend_70 rfl rfl ?_
              refine e_iload_n dX11_lend_71 rfl rfl ?_
              refine e_pc (pc' := 72) rfl ?_
              refine e_aload dX11_lend_72 rfl ?_
              refine e_iconst (v := 4) dX11_lend_74 rfl ?_
              refine e_aload_n dX11_lend_75 rfl rfl ?_
              refine g_1116 flX11_95 dX11_lend_76 ?_
              refine e_aload_n dX11_lend_79 rfl rfl ?_
              refine g_1104 flX11_36 dX11_lend_80 ?_
              obtain ⟨r25, hr25, h9⟩ := elimP hN0 h9
              refine x_callVi (c := 4) (As := [.int 4, .int ((setI x 407 i2 ((x.1 1116 0) + p2)).1 1116 0), .ref (ad 2 0)]) (rest := [.int p3, .int p3]) okX4_countOf lkX11_204 rfl (by decide) rfl dX11_lend_83 rfl rfl (Nat.le_of_ble_eq_true rfl) k22 (c_X4_countOf i2 4 ((setI x 407 i2 ((x.1 1116 0) + p2)).1 1116 0) hr25 (CI.mk ?_))
              refine e_imul dX11_lend_86 ?_
              refine e_bipush (v := 100) dX11_lend_87 rfl ?_
              refine e_pc (pc' := 89) rfl ?_
              refine e_idiv dX11_lend_89 (by decide) ?_
              refine e_isub dX11_lend_90 ?_
              refine e_istore (L' := [some (.ref (ad 11 0)), some (.int p1), some (.int p2), some (.int p3), some (.ref (ad 4 i2)), some (.int (p3 - ((p3 * r25) / 100)))]) dX11_lend_91 (by decide) rfl ?_
              refine e_aload_n dX11_lend_93 rfl rfl ?_
              refine e_dup dX11_lend_94 rfl ?_
              refine g_1117 flX11_98 dX11_lend_95 ?_
              refine e_iload dX11_lend_98 rfl ?_
              refine e_iadd dX11_lend_100 ?_
              refine p_1117 flX11_98 dX11_lend_101 ?_
              refine e_pc (pc' := 104) rfl ?_
              refine e_iload dX11_lend_104 rfl ?_
              exact x_iret dX11_lend_106 rfl (hR0 _ _ h9)
            · replace h9 := ifT hc24 h9
              refine e_aload_n dX11_lend_52 rfl rfl ?_
              refine e_bipush (v := (-6)) dX11_lend_53 rfl ?_
              obtain ⟨⟨r26, w27⟩, hr26, h9⟩ := elimP hN0 h9
              refine x_callVi (c := 11) (As := [.int (-6)]) (rest := []) okX11_refused lkX11_105 rfl (by decide) rfl dX11_lend_55 rfl rfl (Nat.le_of_ble_eq_true rfl) rfl (c_X11_refused (-6) hr26 (CI.mk ?_))
              exact x_iret dX11_lend_58 rfl (hR0 _ _ h9)
noncomputable def f_X11_sceneAt (x : VM) (p1 : Int32) (p2 : Int32) : Option (Option Nat) := (f_X11_pictureAt x p1).elim none (fun r1 => r1.elim (some none) (fun i2 => if p2 < 0 then some none else if i2 < x.2.2.2 5 then if p2 < (x.1 502 i2) then if inb p2 8 = true then if p2.toNatClampNeg < x.2.2.2 (20 + i2) then some (some (8 * i2 + p2.toNatClampNeg)) else some none else none else some none else none))
theorem c_X11_sceneAt {g : GG} {d : Nat} {ad : AD} {x m : VM} {Q : Option Value → VM → VM → Prop} (p1 : Int32) (p2 : Int32) {r9 : Option Nat} (hf : f_X11_sceneAt x p1 p2 = some r9) (hq : Q (some (va_rf (r9.map (ad 8)))) x m) : CX g (d + 1) MX11_sceneAt [.ref (ad 11 0), .int p1, .int p2] ad x m Q := by
  refine CX.to (Lv := [some (.ref (ad 11 0)), some (.int p1), some (.int p2), none]) okX11_sceneAt (Nat.le_of_ble_eq_true rfl) rfl ?_
  obtain ⟨Φ0, hΦ⟩ : ∃ Φ : Option (Option Nat) → Prop, Φ = fun o => o = some r9 := ⟨_, rfl⟩
  have hN0 : Φ0 none → False := by rw [hΦ]; intro h; cases h
  have hR0 : ∀ z9, Φ0 (some z9) → Q (some (va_rf (z9.map (ad 8)))) x m := by rw [hΦ]; intro z9 h; cases h; exact hq
  have h9 : Φ0 (f_X11_sceneAt x p1 p2) := by rw [hΦ]; exact hf
  clear hf hq hΦ
  unfold f_X11_sceneAt at h9
  refine e_aload_n dX11_sceneAt_0 rfl rfl ?_
  refine e_iload_n dX11_sceneAt_1 rfl rfl ?_
  obtain ⟨r1, hr1, h9⟩ := elimP hN0 h9
  refine x_callVi (c := 11) (As := [.int p1]) (rest := []) okX11_pictureAt lkX11_164 rfl (by decide) rfl dX11_sceneAt_2 rfl rfl (Nat.le_of_ble_eq_true rfl) rfl (c_X11_pictureAt p1 hr1 (CI.mk ?_))
  cases r1 with
  | none =>
    replace h9 := elN h9
    refine e_top (v := .null) rfl ?_
    refine e_astore_nN (L' := [some (.ref (ad 11 0)), some (.int p1), some (.int p2), some (.null)]) dX11_sceneAt_5 rfl (by decide) rfl ?_
    refine e_aload_nN dX11_sceneAt_6 rfl rfl ?_
    refine e_ifnullN (tgt := 22) dX11_sceneAt_7 rfl ?_
    refine e_null dX11_sceneAt_22 ?_
    refine e_goto (tgt := 32) dX11_sceneAt_23 rfl ?_
    exact x_aretN dX11_sceneAt_32 rfl (hR0 _ h9)
  | some i2 =>
    replace h9 := elS h9
    refine e_top (v := .ref (ad 5 i2)) rfl ?_
    refine e_astore_n (L' := [some (.ref (ad 11 0)), some (.int p1), some (.int p2), some (.ref (ad 5 i2))]) dX11_sceneAt_5 rfl (by decide) rfl ?_
    refine e_aload_n dX11_sceneAt_6 rfl rfl ?_
    refine e_ifnull dX11_sceneAt_7 ?_
    refine e_iload_n dX11_sceneAt_10 rfl rfl ?_
    refine e_if_lt (tgt := 22) dX11_sceneAt_11 rfl (fun hc3 => ?_) (fun hc3 => ?_)
    · replace h9 := ifT hc3 h9
      refine e_null dX11_sceneAt_22 ?_
      refine e_goto (tgt := 32) dX11_sceneAt_23 rfl ?_
      exact x_aretN dX11_sceneAt_32 rfl (hR0 _ h9)
    · replace h9 := ifF hc3 h9
      refine e_iload_n dX11_sceneAt_14 rfl rfl ?_
      refine e_aload_n dX11_sceneAt_15 rfl rfl ?_
      obtain ⟨k4, h9⟩ := chkP hN0 h9
      refine g_502 flX11_238 dX11_sceneAt_16 k4 ?_
      refine e_icmp_lt (tgt := 26) dX11_sceneAt_19 rfl (fun hc5 => ?_) (fun hc5 => ?_)
      · replace h9 := ifT hc5 h9
        refine e_aload_n dX11_sceneAt_26 rfl rfl ?_
        refine g_501 flX11_244 dX11_sceneAt_27 k4 ?_
        refine e_iload_n dX11_sceneAt_30 rfl rfl ?_
        obtain ⟨k6, h9⟩ := chkP hN0 h9
        refine l_501 dX11_sceneAt_31 k4 (inb_in k6) ?_
        by_cases k7 : p2.toNatClampNeg < x.2.2.2 (20 + i2)
        · replace h9 := ifT k7 h9
          refine e_top (v := .ref (ad 8 (8 * i2 + p2.toNatClampNeg))) (rfT k7) ?_
          exact x_aret dX11_sceneAt_32 rfl (hR0 _ h9)
        · replace h9 := ifF k7 h9
          refine e_top (v := .null) (rfF k7) ?_
          exact x_aretN dX11_sceneAt_32 rfl (hR0 _ h9)
      · replace h9 := ifF hc5 h9
        refine e_null dX11_sceneAt_22 ?_
        refine e_goto (tgt := 32) dX11_sceneAt_23 rfl ?_
        exact x_aretN dX11_sceneAt_32 rfl (hR0 _ h9)
noncomputable def f_X11_mark (x : VM) (p1 : Int32) (p2 : Int32) (p3 : Int32) (p4 : Int32) : Option (Int32 × VM) := (f_X11_sceneAt x p1 p2).elim none (fun r1 => r1.elim ((f_X11_refused x (-1)).elim none (fun r3p => some (r3p.1, r3p.2))) (fun i2 => if p3 < 0 then (f_X11_refused x (-1)).elim none (fun r7p => some (r7p.1, r7p.2)) else if p3 < 4 then if p4 < 0 then (f_X11_refused x (-6)).elim none (fun r12p => some (r12p.1, r12p.2)) else if p4 ≤ 9 then if i2 / 8 < x.2.2.2 5 ∧ i2 % 8 < x.2.2.2 (20 + i2 / 8) then if inb p3 4 = true then if inb p3 4 = true then some (x.2.1 804 i2 p3.toNatClampNeg, setA x 804 i2 (upd (x.2.1 804 i2) p3.toNatClampNeg p4)) else none else none else none else (f_X11_refused x (-6)).elim none (fun r19p => some (r19p.1, r19p.2)) else (f_X11_refused x (-1)).elim none (fun r22p => some (r22p.1, r22p.2))))
theorem c_X11_mark {g : GG} {d : Nat} {ad : AD} {x m : VM} {Q : Option Value → VM → VM → Prop} (p1 : Int32) (p2 : Int32) (p3 : Int32) (p4 : Int32) {r9 : Int32} {w9 : VM} (hf : f_X11_mark x p1 p2 p3 p4 = some (r9, w9)) (hq : Q (some (.int r9)) w9 m) : CX g (d + 2) MX11_mark [.ref (ad 11 0), .int p1, .int p2, .int p3, .int p4] ad x m Q := by
  refine CX.to (Lv := [some (.ref (ad 11 0)), some (.int p1), some (.int p2), some (.int p3), some (.int p4), none, none]) okX11_mark (Nat.le_of_ble_eq_true rfl) rfl ?_
  obtain ⟨Φ0, hΦ⟩ : ∃ Φ : Option (Int32 × VM) → Prop, Φ = fun o => o = some (r9, w9) := ⟨_, rfl⟩
  have hN0 : Φ0 none → False := by rw [hΦ]; intro h; cases h
  have hR0 : ∀ z9 y9, Φ0 (some (z9, y9)) → Q (some (.int z9)) y9 m := by rw [hΦ]; intro z9 y9 h; cases h; exact hq
  have h9 : Φ0 (f_X11_mark x p1 p2 p3 p4) := by rw [hΦ]; exact hf
  clear hf hq hΦ
  unfold f_X11_mark at h9
  refine e_aload_n dX11_mark_0 rfl rfl ?_
  refine e_iload_n dX11_mark_1 rfl rfl ?_
  refine e_iload_n dX11_mark_2 rfl rfl ?_
  obtain ⟨r1, hr1, h9⟩ := elimP hN0 h9
  refine x_callVi (c := 11) (As := [.int p1, .int p2]) (rest := []) okX11_sceneAt lkX11_253 rfl (by decide) rfl dX11_mark_3 rfl rfl (Nat.le_of_ble_eq_true rfl) rfl (c_X11_sceneAt p1 p2 hr1 (CI.mk ?_))
  cases r1 with
  | none =>
    replace h9 := elN h9
    refine e_top (v := .null) rfl ?_
    refine e_astoreN (L' := [some (.ref (ad 11 0)), some (.int p1), some (.int p2), some (.int p3), some (.int p4), some (.null), none]) dX11_mark_6 (by decide) rfl ?_
    refine e_aloadN dX11_mark_8 rfl ?_
    refine e_ifnullN (tgt := 22) dX11_mark_10 rfl ?_
    refine e_aload_n dX11_mark_22 rfl rfl ?_
    refine e_iconst (v := (-1)) dX11_mark_23 rfl ?_
    obtain ⟨⟨r3, w4⟩, hr3, h9⟩ := elimP hN0 h9
    refine x_callVi (c := 11) (As := [.int (-1)]) (rest := []) okX11_refused lkX11_105 rfl (by decide) rfl dX11_mark_24 rfl rfl (Nat.le_of_ble_eq_true rfl) rfl (c_X11_refused (-1) hr3 (CI.mk ?_))
    exact x_iret dX11_mark_27 rfl (hR0 _ _ h9)
  | some i2 =>
    replace h9 := elS h9
    refine e_top (v := .ref (ad 8 i2)) rfl ?_
    refine e_astore (L' := [some (.ref (ad 11 0)), some (.int p1), some (.int p2), some (.int p3), some (.int p4), some (.ref (ad 8 i2)), none]) dX11_mark_6 (by decide) rfl ?_
    refine e_aload dX11_mark_8 rfl ?_
    refine e_ifnull dX11_mark_10 ?_
    refine e_iload_n dX11_mark_13 rfl rfl ?_
    refine e_if_lt (tgt := 22) dX11_mark_14 rfl (fun hc6 => ?_) (fun hc6 => ?_)
    · replace h9 := ifT hc6 h9
      refine e_aload_n dX11_mark_22 rfl rfl ?_
      refine e_iconst (v := (-1)) dX11_mark_23 rfl ?_
      obtain ⟨⟨r7, w8⟩, hr7, h9⟩ := elimP hN0 h9
      refine x_callVi (c := 11) (As := [.int (-1)]) (rest := []) okX11_refused lkX11_105 rfl (by decide) rfl dX11_mark_24 rfl rfl (Nat.le_of_ble_eq_true rfl) rfl (c_X11_refused (-1) hr7 (CI.mk ?_))
      exact x_iret dX11_mark_27 rfl (hR0 _ _ h9)
    · replace h9 := ifF hc6 h9
      refine e_iload_n dX11_mark_17 rfl rfl ?_
      refine e_iconst (v := 4) dX11_mark_18 rfl ?_
      refine e_icmp_lt (tgt := 28) dX11_mark_19 rfl (fun hc10 => ?_) (fun hc10 => ?_)
      · replace h9 := ifT hc10 h9
        refine e_iload dX11_mark_28 rfl ?_
        refine e_if_lt (tgt := 40) dX11_mark_30 rfl (fun hc11 => ?_) (fun hc11 => ?_)
        · replace h9 := ifT hc11 h9
          refine e_aload_n dX11_mark_40 rfl rfl ?_
          refine e_bipush (v := (-6)) dX11_mark_41 rfl ?_
          obtain ⟨⟨r12, w13⟩, hr12, h9⟩ := elimP hN0 h9
          refine x_callVi (c := 11) (As := [.int (-6)]) (rest := []) okX11_refused lkX11_105 rfl (by decide) rfl dX11_mark_43 rfl rfl (Nat.le_of_ble_eq_true rfl) rfl (c_X11_refused (-6) hr12 (CI.mk ?_))
          exact x_iret dX11_mark_46 rfl (hR0 _ _ h9)
        · replace h9 := ifF hc11 h9
          refine e_iload dX11_mark_33 rfl ?_
          refine e_bipush (v := 9) dX11_mark_35 rfl ?_
          refine e_icmp_le (tgt := 47) dX11_mark_37 rfl (fun hc15 => ?_) (fun hc15 => ?_)
          · replace h9 := ifT hc15 h9
            refine e_aload dX11_mark_47 rfl ?_
            obtain ⟨k16, h9⟩ := chkP hN0 h9
            refine g_804 flX11_257 dX11_mark_49 k16 ?_
            refine e_iload_n dX11_mark_52 rfl rfl ?_
            obtain ⟨k17, h9⟩ := chkP hN0 h9
            refine l_804 dX11_mark_53 k16 (inb_in k17) ?_
            refine e_istore (L' := [some (.ref (ad 11 0)), some (.int p1), some (.int p2), some (.int p3), some (.int p4), some (.ref (ad 8 i2)), some (.int (x.2.1 804 i2 p3.toNatClampNeg))]) dX11_mark_54 (by decide) rfl ?_
            refine e_aload dX11_mark_56 rfl ?_
            refine g_804 flX11_257 dX11_mark_58 k16 ?_
            refine e_iload_n dX11_mark_61 rfl rfl ?_
            refine e_pc (pc' := 62) rfl ?_
            refine e_iload dX11_mark_62 rfl ?_
            obtain ⟨k18, h9⟩ := chkP hN0 h9
            refine s_804 dX11_mark_64 k16 (inb_in k18) ?_
            refine e_iload dX11_mark_65 rfl ?_
            exact x_iret dX11_mark_67 rfl (hR0 _ _ h9)
          · replace h9 := ifF hc15 h9
            refine e_aload_n dX11_mark_40 rfl rfl ?_
            refine e_bipush (v := (-6)) dX11_mark_41 rfl ?_
            obtain ⟨⟨r19, w20⟩, hr19, h9⟩ := elimP hN0 h9
            refine x_callVi (c := 11) (As := [.int (-6)]) (rest := []) okX11_refused lkX11_105 rfl (by decide) rfl dX11_mark_43 rfl rfl (Nat.le_of_ble_eq_true rfl) rfl (c_X11_refused (-6) hr19 (CI.mk ?_))
            exact x_iret dX11_mark_46 rfl (hR0 _ _ h9)
      · replace h9 := ifF hc10 h9
        refine e_aload_n dX11_mark_22 rfl rfl ?_
        refine e_iconst (v := (-1)) dX11_mark_23 rfl ?_
        obtain ⟨⟨r22, w23⟩, hr22, h9⟩ := elimP hN0 h9
        refine x_callVi (c := 11) (As := [.int (-1)]) (rest := []) okX11_refused lkX11_105 rfl (by decide) rfl dX11_mark_24 rfl rfl (Nat.le_of_ble_eq_true rfl) rfl (c_X11_refused (-1) hr22 (CI.mk ?_))
        exact x_iret dX11_mark_27 rfl (hR0 _ _ h9)
noncomputable def j_X11_costs_55 (x : VM) (p1 : Int32) (p2 : Int32) (r14 : VM) (a16 : Int32) : Option (Int32 × VM) := if p1 = 0 then some (a16, setI r14 301 0 p2) else some (a16, setI r14 302 0 p2)
noncomputable def f_X11_costs (x : VM) (p1 : Int32) (p2 : Int32) : Option (Int32 × VM) := if p1 < 0 then (f_X11_refused x (-6)).elim none (fun r2p => some (r2p.1, r2p.2)) else if 1 < p1 then (f_X11_refused x (-6)).elim none (fun r6p => some (r6p.1, r6p.2)) else if p2 < 0 then (f_X11_refused x (-6)).elim none (fun r10p => some (r10p.1, r10p.2)) else if p2 ≤ 999 then (f_X3_forget x).elim none (fun r14 => if p1 = 0 then j_X11_costs_55 x p1 p2 r14 (r14.1 301 0) else j_X11_costs_55 x p1 p2 r14 (r14.1 302 0)) else (f_X11_refused x (-6)).elim none (fun r19p => some (r19p.1, r19p.2))
theorem c_X11_costs {g : GG} {d : Nat} {ad : AD} {x m : VM} {Q : Option Value → VM → VM → Prop} (p1 : Int32) (p2 : Int32) {r9 : Int32} {w9 : VM} (hf : f_X11_costs x p1 p2 = some (r9, w9)) (hq : Q (some (.int r9)) w9 m) : CX g (d + 1) MX11_costs [.ref (ad 11 0), .int p1, .int p2] ad x m Q := by
  refine CX.to (Lv := [some (.ref (ad 11 0)), some (.int p1), some (.int p2), none]) okX11_costs (Nat.le_of_ble_eq_true rfl) rfl ?_
  obtain ⟨Φ0, hΦ⟩ : ∃ Φ : Option (Int32 × VM) → Prop, Φ = fun o => o = some (r9, w9) := ⟨_, rfl⟩
  have hN0 : Φ0 none → False := by rw [hΦ]; intro h; cases h
  have hR0 : ∀ z9 y9, Φ0 (some (z9, y9)) → Q (some (.int z9)) y9 m := by rw [hΦ]; intro z9 y9 h; cases h; exact hq
  have h9 : Φ0 (f_X11_costs x p1 p2) := by rw [hΦ]; exact hf
  clear hf hq hΦ
  unfold f_X11_costs at h9
  refine e_iload_n dX11_costs_0 rfl rfl ?_
  refine e_if_lt (tgt := 20) dX11_costs_1 rfl (fun hc1 => ?_) (fun hc1 => ?_)
  · replace h9 := ifT hc1 h9
    refine e_aload_n dX11_costs_20 rfl rfl ?_
    refine e_bipush (v := (-6)) dX11_costs_21 rfl ?_
    obtain ⟨⟨r2, w3⟩, hr2, h9⟩ := elimP hN0 h9
    refine x_callVi (c := 11) (As := [.int (-6)]) (rest := []) okX11_refused lkX11_105 rfl (by decide) rfl dX11_costs_23 rfl rfl (Nat.le_of_ble_eq_true rfl) rfl (c_X11_refused (-6) hr2 (CI.mk ?_))
    exact x_iret dX11_costs_26 rfl (hR0 _ _ h9)
  · replace h9 := ifF hc1 h9
    refine e_iload_n dX11_costs_4 rfl rfl ?_
    refine e_iconst (v := 1) dX11_costs_5 rfl ?_
    refine e_icmp_gt (tgt := 20) dX11_costs_6 rfl (fun hc5 => ?_) (fun hc5 => ?_)
    · replace h9 := ifT hc5 h9
      refine e_aload_n dX11_costs_20 rfl rfl ?_
      refine e_bipush (v := (-6)) dX11_costs_21 rfl ?_
      obtain ⟨⟨r6, w7⟩, hr6, h9⟩ := elimP hN0 h9
      refine x_callVi (c := 11) (As := [.int (-6)]) (rest := []) okX11_refused lkX11_105 rfl (by decide) rfl dX11_costs_23 rfl rfl (Nat.le_of_ble_eq_true rfl) rfl (c_X11_refused (-6) hr6 (CI.mk ?_))
      exact x_iret dX11_costs_26 rfl (hR0 _ _ h9)
    · replace h9 := ifF hc5 h9
      refine e_iload_n dX11_costs_9 rfl rfl ?_
      refine e_if_lt (tgt := 20) dX11_costs_10 rfl (fun hc9 => ?_) (fun hc9 => ?_)
      · replace h9 := ifT hc9 h9
        refine e_aload_n dX11_costs_20 rfl rfl ?_
        refine e_bipush (v := (-6)) dX11_costs_21 rfl ?_
        obtain ⟨⟨r10, w11⟩, hr10, h9⟩ := elimP hN0 h9
        refine x_callVi (c := 11) (As := [.int (-6)]) (rest := []) okX11_refused lkX11_105 rfl (by decide) rfl dX11_costs_23 rfl rfl (Nat.le_of_ble_eq_true rfl) rfl (c_X11_refused (-6) hr10 (CI.mk ?_))
        exact x_iret dX11_costs_26 rfl (hR0 _ _ h9)
      · replace h9 := ifF hc9 h9
        refine e_iload_n dX11_costs_13 rfl rfl ?_
        refine e_sipush (v := 999) dX11_costs_14 rfl ?_
        refine e_icmp_le (tgt := 27) dX11_costs_17 rfl (fun hc13 => ?_) (fun hc13 => ?_)
        · replace h9 := ifT hc13 h9
          refine e_aload_n dX11_costs_27 rfl rfl ?_
          refine g_1106 flX11_50 dX11_costs_28 ?_
          obtain ⟨r14, hr14, h9⟩ := elimP hN0 h9
          refine x_callVv (c := 3) (As := []) (rest := []) okX3_forget lkX11_241 rfl (by decide) rfl dX11_costs_31 rfl rfl (Nat.le_of_ble_eq_true rfl) rfl (c_X3_forget hr14 (CV.mk ?_))
          refine e_iload_n dX11_costs_34 rfl rfl ?_
          have hj55 : ∀ (a16 : Int32), Φ0 (j_X11_costs_55 x p1 p2 r14 a16) → EX g (d + 1) MX11_costs ad r14 m 55 [some (.ref (ad 11 0)), some (.int p1), some (.int p2), none] [.int a16] Q := by
            intro a16 h9
            unfold j_X11_costs_55 at h9
            refine e_istore_n (L' := [some (.ref (ad 11 0)), some (.int p1), some (.int p2), some (.int a16)]) dX11_costs_55 rfl (by decide) rfl ?_
            refine e_iload_n dX11_costs_56 rfl rfl ?_
            refine e_if_ne (tgt := 71) dX11_costs_57 rfl (fun hc17 => ?_) (fun hc17 => ?_)
            · replace h9 := ifF hc17 h9
              refine e_aload_n dX11_costs_71 rfl rfl ?_
              refine g_1106 flX11_50 dX11_costs_72 ?_
              refine e_iload_n dX11_costs_75 rfl rfl ?_
              refine p_302 flX11_263 dX11_costs_76 ?_
              refine e_iload_n dX11_costs_79 rfl rfl ?_
              exact x_iret dX11_costs_80 rfl (hR0 _ _ h9)
            · replace h9 := ifT hc17 h9
              refine e_aload_n dX11_costs_60 rfl rfl ?_
              refine g_1106 flX11_50 dX11_costs_61 ?_
              refine e_iload_n dX11_costs_64 rfl rfl ?_
              refine p_301 flX11_260 dX11_costs_65 ?_
              refine e_goto (tgt := 79) dX11_costs_68 rfl ?_
              refine e_iload_n dX11_costs_79 rfl rfl ?_
              exact x_iret dX11_costs_80 rfl (hR0 _ _ h9)
          refine e_if_ne (tgt := 48) dX11_costs_35 rfl (fun hc18 => ?_) (fun hc18 => ?_)
          · replace h9 := ifF hc18 h9
            refine e_aload_n dX11_costs_48 rfl rfl ?_
            refine g_1106 flX11_50 dX11_costs_49 ?_
            refine g_302 flX11_263 dX11_costs_52 ?_
            exact hj55 (r14.1 302 0) h9
          · replace h9 := ifT hc18 h9
            refine e_aload_n dX11_costs_38 rfl rfl ?_
            refine g_1106 flX11_50 dX11_costs_39 ?_
            refine g_301 flX11_260 dX11_costs_42 ?_
            refine e_goto (tgt := 55) dX11_costs_45 rfl ?_
            exact hj55 (r14.1 301 0) h9
        · replace h9 := ifF hc13 h9
          refine e_aload_n dX11_costs_20 rfl rfl ?_
          refine e_bipush (v := (-6)) dX11_costs_21 rfl ?_
          obtain ⟨⟨r19, w20⟩, hr19, h9⟩ := elimP hN0 h9
          refine x_callVi (c := 11) (As := [.int (-6)]) (rest := []) okX11_refused lkX11_105 rfl (by decide) rfl dX11_costs_23 rfl rfl (Nat.le_of_ble_eq_true rfl) rfl (c_X11_refused (-6) hr19 (CI.mk ?_))
          exact x_iret dX11_costs_26 rfl (hR0 _ _ h9)
noncomputable def f_X11_best (x : VM) (p1 : Int32) : Option (Int32 × VM) := (f_X11_pictureAt x p1).elim none (fun r1 => r1.elim ((f_X11_refused x (-1)).elim none (fun r3p => some (r3p.1, r3p.2))) (fun i2 => if i2 < x.2.2.2 5 then if (x.1 502 i2) = 0 then (f_X11_refused x (-6)).elim none (fun r11p => some (r11p.1, r11p.2)) else (f_X3_findBest x i2).elim none (fun r8 => (f_X3_bestCost r8).elim none (fun r10 => some (r10, r8))) else none))
theorem c_X11_best {g : GG} {d : Nat} {ad : AD} {x m : VM} {Q : Option Value → VM → VM → Prop} (p1 : Int32) {r9 : Int32} {w9 : VM} (hf : f_X11_best x p1 = some (r9, w9)) (hq : Q (some (.int r9)) w9 m) : CX g (d + 5) MX11_best [.ref (ad 11 0), .int p1] ad x m Q := by
  refine CX.to (Lv := [some (.ref (ad 11 0)), some (.int p1), none]) okX11_best (Nat.le_of_ble_eq_true rfl) rfl ?_
  obtain ⟨Φ0, hΦ⟩ : ∃ Φ : Option (Int32 × VM) → Prop, Φ = fun o => o = some (r9, w9) := ⟨_, rfl⟩
  have hN0 : Φ0 none → False := by rw [hΦ]; intro h; cases h
  have hR0 : ∀ z9 y9, Φ0 (some (z9, y9)) → Q (some (.int z9)) y9 m := by rw [hΦ]; intro z9 y9 h; cases h; exact hq
  have h9 : Φ0 (f_X11_best x p1) := by rw [hΦ]; exact hf
  clear hf hq hΦ
  unfold f_X11_best at h9
  refine e_aload_n dX11_best_0 rfl rfl ?_
  refine e_iload_n dX11_best_1 rfl rfl ?_
  obtain ⟨r1, hr1, h9⟩ := elimP hN0 h9
  refine x_callVi (c := 11) (As := [.int p1]) (rest := []) okX11_pictureAt lkX11_164 rfl (by decide) rfl dX11_best_2 rfl rfl (Nat.le_of_ble_eq_true rfl) rfl (c_X11_pictureAt p1 hr1 (CI.mk ?_))
  cases r1 with
  | none =>
    replace h9 := elN h9
    refine e_top (v := .null) rfl ?_
    refine e_astore_nN (L' := [some (.ref (ad 11 0)), some (.int p1), some (.null)]) dX11_best_5 rfl (by decide) rfl ?_
    refine e_aload_nN dX11_best_6 rfl rfl ?_
    refine e_ifnonnullN dX11_best_7 ?_
    refine e_aload_n dX11_best_10 rfl rfl ?_
    refine e_iconst (v := (-1)) dX11_best_11 rfl ?_
    obtain ⟨⟨r3, w4⟩, hr3, h9⟩ := elimP hN0 h9
    refine x_callVi (c := 11) (As := [.int (-1)]) (rest := []) okX11_refused lkX11_105 rfl (by decide) rfl dX11_best_12 rfl rfl (Nat.le_of_ble_eq_true rfl) rfl (c_X11_refused (-1) hr3 (CI.mk ?_))
    exact x_iret dX11_best_15 rfl (hR0 _ _ h9)
  | some i2 =>
    replace h9 := elS h9
    refine e_top (v := .ref (ad 5 i2)) rfl ?_
    refine e_astore_n (L' := [some (.ref (ad 11 0)), some (.int p1), some (.ref (ad 5 i2))]) dX11_best_5 rfl (by decide) rfl ?_
    refine e_aload_n dX11_best_6 rfl rfl ?_
    refine e_ifnonnull (tgt := 16) dX11_best_7 rfl ?_
    refine e_aload_n dX11_best_16 rfl rfl ?_
    obtain ⟨k6, h9⟩ := chkP hN0 h9
    refine g_502 flX11_238 dX11_best_17 k6 ?_
    refine e_if_ne (tgt := 30) dX11_best_20 rfl (fun hc7 => ?_) (fun hc7 => ?_)
    · replace h9 := ifF hc7 h9
      refine e_aload_n dX11_best_30 rfl rfl ?_
      refine g_1106 flX11_50 dX11_best_31 ?_
      refine e_aload_n dX11_best_34 rfl rfl ?_
      obtain ⟨r8, hr8, h9⟩ := elimP hN0 h9
      refine x_callVv (c := 3) (As := [.ref (ad 5 i2)]) (rest := []) okX3_findBest lkX11_266 rfl (by decide) rfl dX11_best_35 rfl rfl (Nat.le_of_ble_eq_true rfl) rfl (c_X3_findBest i2 hr8 (CV.mk ?_))
      refine e_aload_n dX11_best_38 rfl rfl ?_
      refine g_1106 flX11_50 dX11_best_39 ?_
      obtain ⟨r10, hr10, h9⟩ := elimP hN0 h9
      refine x_callVi (c := 3) (As := []) (rest := []) okX3_bestCost lkX11_270 rfl (by decide) rfl dX11_best_42 rfl rfl (Nat.le_of_ble_eq_true rfl) rfl (c_X3_bestCost hr10 (CI.mk ?_))
      exact x_iret dX11_best_45 rfl (hR0 _ _ h9)
    · replace h9 := ifT hc7 h9
      refine e_aload_n dX11_best_23 rfl rfl ?_
      refine e_bipush (v := (-6)) dX11_best_24 rfl ?_
      obtain ⟨⟨r11, w12⟩, hr11, h9⟩ := elimP hN0 h9
      refine x_callVi (c := 11) (As := [.int (-6)]) (rest := []) okX11_refused lkX11_105 rfl (by decide) rfl dX11_best_26 rfl rfl (Nat.le_of_ble_eq_true rfl) rfl (c_X11_refused (-6) hr11 (CI.mk ?_))
      exact x_iret dX11_best_29 rfl (hR0 _ _ h9)
noncomputable def f_X11_bestScene (x : VM) (p1 : Int32) (p2 : Int32) : Option (Int32 × VM) := (f_X11_pictureAt x p1).elim none (fun r1 => r1.elim (some ((-1), x)) (fun i2 => if p2 < 0 then some ((-1), x) else if i2 < x.2.2.2 5 then if p2 < (x.1 502 i2) then (f_X3_findBest x i2).elim none (fun r6 => if inb p2 8 = true then some (r6.2.1 304 0 p2.toNatClampNeg, r6) else none) else some ((-1), x) else none))
theorem c_X11_bestScene {g : GG} {d : Nat} {ad : AD} {x m : VM} {Q : Option Value → VM → VM → Prop} (p1 : Int32) (p2 : Int32) {r9 : Int32} {w9 : VM} (hf : f_X11_bestScene x p1 p2 = some (r9, w9)) (hq : Q (some (.int r9)) w9 m) : CX g (d + 5) MX11_bestScene [.ref (ad 11 0), .int p1, .int p2] ad x m Q := by
  refine CX.to (Lv := [some (.ref (ad 11 0)), some (.int p1), some (.int p2), none]) okX11_bestScene (Nat.le_of_ble_eq_true rfl) rfl ?_
  obtain ⟨Φ0, hΦ⟩ : ∃ Φ : Option (Int32 × VM) → Prop, Φ = fun o => o = some (r9, w9) := ⟨_, rfl⟩
  have hN0 : Φ0 none → False := by rw [hΦ]; intro h; cases h
  have hR0 : ∀ z9 y9, Φ0 (some (z9, y9)) → Q (some (.int z9)) y9 m := by rw [hΦ]; intro z9 y9 h; cases h; exact hq
  have h9 : Φ0 (f_X11_bestScene x p1 p2) := by rw [hΦ]; exact hf
  clear hf hq hΦ
  unfold f_X11_bestScene at h9
  refine e_aload_n dX11_bestScene_0 rfl rfl ?_
  refine e_iload_n dX11_bestScene_1 rfl rfl ?_
  obtain ⟨r1, hr1, h9⟩ := elimP hN0 h9
  refine x_callVi (c := 11) (As := [.int p1]) (rest := []) okX11_pictureAt lkX11_164 rfl (by decide) rfl dX11_bestScene_2 rfl rfl (Nat.le_of_ble_eq_true rfl) rfl (c_X11_pictureAt p1 hr1 (CI.mk ?_))
  cases r1 with
  | none =>
    replace h9 := elN h9
    refine e_top (v := .null) rfl ?_
    refine e_astore_nN (L' := [some (.ref (ad 11 0)), some (.int p1), some (.int p2), some (.null)]) dX11_bestScene_5 rfl (by decide) rfl ?_
    refine e_aload_nN dX11_bestScene_6 rfl rfl ?_
    refine e_ifnullN (tgt := 22) dX11_bestScene_7 rfl ?_
    refine e_iconst (v := (-1)) dX11_bestScene_22 rfl ?_
    exact x_iret dX11_bestScene_23 rfl (hR0 _ _ h9)
  | some i2 =>
    replace h9 := elS h9
    refine e_top (v := .ref (ad 5 i2)) rfl ?_
    refine e_astore_n (L' := [some (.ref (ad 11 0)), some (.int p1), some (.int p2), some (.ref (ad 5 i2))]) dX11_bestScene_5 rfl (by decide) rfl ?_
    refine e_aload_n dX11_bestScene_6 rfl rfl ?_
    refine e_ifnull dX11_bestScene_7 ?_
    refine e_iload_n dX11_bestScene_10 rfl rfl ?_
    refine e_if_lt (tgt := 22) dX11_bestScene_11 rfl (fun hc3 => ?_) (fun hc3 => ?_)
    · replace h9 := ifT hc3 h9
      refine e_iconst (v := (-1)) dX11_bestScene_22 rfl ?_
      exact x_iret dX11_bestScene_23 rfl (hR0 _ _ h9)
    · replace h9 := ifF hc3 h9
      refine e_iload_n dX11_bestScene_14 rfl rfl ?_
      refine e_aload_n dX11_bestScene_15 rfl rfl ?_
      obtain ⟨k4, h9⟩ := chkP hN0 h9
      refine g_502 flX11_238 dX11_bestScene_16 k4 ?_
      refine e_icmp_lt (tgt := 24) dX11_bestScene_19 rfl (fun hc5 => ?_) (fun hc5 => ?_)
      · replace h9 := ifT hc5 h9
        refine e_aload_n dX11_bestScene_24 rfl rfl ?_
        refine g_1106 flX11_50 dX11_bestScene_25 ?_
        refine e_aload_n dX11_bestScene_28 rfl rfl ?_
        obtain ⟨r6, hr6, h9⟩ := elimP hN0 h9
        refine x_callVv (c := 3) (As := [.ref (ad 5 i2)]) (rest := []) okX3_findBest lkX11_266 rfl (by decide) rfl dX11_bestScene_29 rfl rfl (Nat.le_of_ble_eq_true rfl) rfl (c_X3_findBest i2 hr6 (CV.mk ?_))
        refine e_aload_n dX11_bestScene_32 rfl rfl ?_
        refine g_1106 flX11_50 dX11_bestScene_33 ?_
        refine g_304 flX11_273 dX11_bestScene_36 ?_
        refine e_iload_n dX11_bestScene_39 rfl rfl ?_
        refine e_pc (pc' := 40) rfl ?_
        obtain ⟨k8, h9⟩ := chkP hN0 h9
        refine l_304 dX11_bestScene_40 (inb_in k8) ?_
        exact x_iret dX11_bestScene_41 rfl (hR0 _ _ h9)
      · replace h9 := ifF hc5 h9
        refine e_iconst (v := (-1)) dX11_bestScene_22 rfl ?_
        exact x_iret dX11_bestScene_23 rfl (hR0 _ _ h9)
noncomputable def f_X11_bound (x : VM) (p1 : Int32) : Option (Int32 × VM) := (f_X11_pictureAt x p1).elim none (fun r1 => r1.elim ((f_X11_refused x (-1)).elim none (fun r3p => some (r3p.1, r3p.2))) (fun i2 => (f_X3_boundOf x i2).elim none (fun r6 => some (r6, x))))
theorem c_X11_bound {g : GG} {d : Nat} {ad : AD} {x m : VM} {Q : Option Value → VM → VM → Prop} (p1 : Int32) {r9 : Int32} {w9 : VM} (hf : f_X11_bound x p1 = some (r9, w9)) (hq : Q (some (.int r9)) w9 m) : CX g (d + 2) MX11_bound [.ref (ad 11 0), .int p1] ad x m Q := by
  refine CX.to (Lv := [some (.ref (ad 11 0)), some (.int p1), none]) okX11_bound (Nat.le_of_ble_eq_true rfl) rfl ?_
  obtain ⟨Φ0, hΦ⟩ : ∃ Φ : Option (Int32 × VM) → Prop, Φ = fun o => o = some (r9, w9) := ⟨_, rfl⟩
  have hN0 : Φ0 none → False := by rw [hΦ]; intro h; cases h
  have hR0 : ∀ z9 y9, Φ0 (some (z9, y9)) → Q (some (.int z9)) y9 m := by rw [hΦ]; intro z9 y9 h; cases h; exact hq
  have h9 : Φ0 (f_X11_bound x p1) := by rw [hΦ]; exact hf
  clear hf hq hΦ
  unfold f_X11_bound at h9
  refine e_aload_n dX11_bound_0 rfl rfl ?_
  refine e_iload_n dX11_bound_1 rfl rfl ?_
  obtain ⟨r1, hr1, h9⟩ := elimP hN0 h9
  refine x_callVi (c := 11) (As := [.int p1]) (rest := []) okX11_pictureAt lkX11_164 rfl (by decide) rfl dX11_bound_2 rfl rfl (Nat.le_of_ble_eq_true rfl) rfl (c_X11_pictureAt p1 hr1 (CI.mk ?_))
  cases r1 with
  | none =>
    replace h9 := elN h9
    refine e_top (v := .null) rfl ?_
    refine e_astore_nN (L' := [some (.ref (ad 11 0)), some (.int p1), some (.null)]) dX11_bound_5 rfl (by decide) rfl ?_
    refine e_aload_nN dX11_bound_6 rfl rfl ?_
    refine e_ifnonnullN dX11_bound_7 ?_
    refine e_aload_n dX11_bound_10 rfl rfl ?_
    refine e_iconst (v := (-1)) dX11_bound_11 rfl ?_
    obtain ⟨⟨r3, w4⟩, hr3, h9⟩ := elimP hN0 h9
    refine x_callVi (c := 11) (As := [.int (-1)]) (rest := []) okX11_refused lkX11_105 rfl (by decide) rfl dX11_bound_12 rfl rfl (Nat.le_of_ble_eq_true rfl) rfl (c_X11_refused (-1) hr3 (CI.mk ?_))
    refine e_goto (tgt := 26) dX11_bound_15 rfl ?_
    exact x_iret dX11_bound_26 rfl (hR0 _ _ h9)
  | some i2 =>
    replace h9 := elS h9
    refine e_top (v := .ref (ad 5 i2)) rfl ?_
    refine e_astore_n (L' := [some (.ref (ad 11 0)), some (.int p1), some (.ref (ad 5 i2))]) dX11_bound_5 rfl (by decide) rfl ?_
    refine e_aload_n dX11_bound_6 rfl rfl ?_
    refine e_ifnonnull (tgt := 18) dX11_bound_7 rfl ?_
    refine e_aload_n dX11_bound_18 rfl rfl ?_
    refine g_1106 flX11_50 dX11_bound_19 ?_
    refine e_aload_n dX11_bound_22 rfl rfl ?_
    obtain ⟨r6, hr6, h9⟩ := elimP hN0 h9
    refine x_callVi (c := 3) (As := [.ref (ad 5 i2)]) (rest := []) okX3_boundOf lkX11_276 rfl (by decide) rfl dX11_bound_23 rfl rfl (Nat.le_of_ble_eq_true rfl) rfl (c_X3_boundOf i2 hr6 (CI.mk ?_))
    exact x_iret dX11_bound_26 rfl (hR0 _ _ h9)
noncomputable def f_X11_orderLack (x : VM) (p1 : Int32) (p2 : Int32) : Option (Int32 × VM) := (f_X11_pictureAt x p1).elim none (fun r1 => r1.elim (some ((-1), x)) (fun i2 => (f_X11_rowLack x p2).elim none (fun r3 => if r3 = 0 then if inb p2 8 = true then (f_X3_readOrder x i2 p2.toNatClampNeg).elim none (fun r6p => if r6p.1 = 0 then some ((-6), r6p.2) else some (0, r6p.2)) else none else some (r3, x))))
theorem c_X11_orderLack {g : GG} {d : Nat} {ad : AD} {x m : VM} {Q : Option Value → VM → VM → Prop} (p1 : Int32) (p2 : Int32) {r9 : Int32} {w9 : VM} (hf : f_X11_orderLack x p1 p2 = some (r9, w9)) (hq : Q (some (.int r9)) w9 m) : CX g (d + 2) MX11_orderLack [.ref (ad 11 0), .int p1, .int p2] ad x m Q := by
  refine CX.to (Lv := [some (.ref (ad 11 0)), some (.int p1), some (.int p2), none, none]) okX11_orderLack (Nat.le_of_ble_eq_true rfl) rfl ?_
  obtain ⟨Φ0, hΦ⟩ : ∃ Φ : Option (Int32 × VM) → Prop, Φ = fun o => o = some (r9, w9) := ⟨_, rfl⟩
  have hN0 : Φ0 none → False := by rw [hΦ]; intro h; cases h
  have hR0 : ∀ z9 y9, Φ0 (some (z9, y9)) → Q (some (.int z9)) y9 m := by rw [hΦ]; intro z9 y9 h; cases h; exact hq
  have h9 : Φ0 (f_X11_orderLack x p1 p2) := by rw [hΦ]; exact hf
  clear hf hq hΦ
  unfold f_X11_orderLack at h9
  refine e_aload_n dX11_orderLack_0 rfl rfl ?_
  refine e_iload_n dX11_orderLack_1 rfl rfl ?_
  obtain ⟨r1, hr1, h9⟩ := elimP hN0 h9
  refine x_callVi (c := 11) (As := [.int p1]) (rest := []) okX11_pictureAt lkX11_164 rfl (by decide) rfl dX11_orderLack_2 rfl rfl (Nat.le_of_ble_eq_true rfl) rfl (c_X11_pictureAt p1 hr1 (CI.mk ?_))
  cases r1 with
  | none =>
    replace h9 := elN h9
    refine e_top (v := .null) rfl ?_
    refine e_astore_nN (L' := [some (.ref (ad 11 0)), some (.int p1), some (.int p2), some (.null), none]) dX11_orderLack_5 rfl (by decide) rfl ?_
    refine e_aload_nN dX11_orderLack_6 rfl rfl ?_
    refine e_ifnonnullN dX11_orderLack_7 ?_
    refine e_iconst (v := (-1)) dX11_orderLack_10 rfl ?_
    exact x_iret dX11_orderLack_11 rfl (hR0 _ _ h9)
  | some i2 =>
    replace h9 := elS h9
    refine e_top (v := .ref (ad 5 i2)) rfl ?_
    refine e_astore_n (L' := [some (.ref (ad 11 0)), some (.int p1), some (.int p2), some (.ref (ad 5 i2)), none]) dX11_orderLack_5 rfl (by decide) rfl ?_
    refine e_aload_n dX11_orderLack_6 rfl rfl ?_
    refine e_ifnonnull (tgt := 12) dX11_orderLack_7 rfl ?_
    refine e_aload_n dX11_orderLack_12 rfl rfl ?_
    refine e_iload_n dX11_orderLack_13 rfl rfl ?_
    obtain ⟨r3, hr3, h9⟩ := elimP hN0 h9
    refine x_callVi (c := 11) (As := [.int p2]) (rest := []) okX11_rowLack lkX11_123 rfl (by decide) rfl dX11_orderLack_14 rfl rfl (Nat.le_of_ble_eq_true rfl) rfl (c_X11_rowLack p2 hr3 (CI.mk ?_))
    refine e_istore (L' := [some (.ref (ad 11 0)), some (.int p1), some (.int p2), some (.ref (ad 5 i2)), some (.int r3)]) dX11_orderLack_17 (by decide) rfl ?_
    refine e_iload dX11_orderLack_19 rfl ?_
    refine e_pc (pc' := 21) rfl ?_
    refine e_if_eq (tgt := 27) dX11_orderLack_21 rfl (fun hc4 => ?_) (fun hc4 => ?_)
    · replace h9 := ifT hc4 h9
      refine e_aload_n dX11_orderLack_27 rfl rfl ?_
      refine g_1106 flX11_50 dX11_orderLack_28 ?_
      refine e_aload_n dX11_orderLack_31 rfl rfl ?_
      refine e_aload_n dX11_orderLack_32 rfl rfl ?_
      refine g_1100 flX11_11 dX11_orderLack_33 ?_
      refine e_iload_n dX11_orderLack_36 rfl rfl ?_
      obtain ⟨k5, h9⟩ := chkP hN0 h9
      refine l_1100 dX11_orderLack_37 (inb_in k5) ?_
      refine e_top (v := .ref (ad 9 p2.toNatClampNeg)) rfl ?_
      obtain ⟨⟨r6, w7⟩, hr6, h9⟩ := elimP hN0 h9
      refine x_callVi (c := 3) (As := [.ref (ad 5 i2), .ref (ad 9 p2.toNatClampNeg)]) (rest := []) okX3_readOrder lkX11_427 rfl (by decide) rfl dX11_orderLack_38 rfl rfl (Nat.le_of_ble_eq_true rfl) rfl (c_X3_readOrder i2 p2.toNatClampNeg hr6 (CI.mk ?_))
      refine e_pc (pc' := 41) rfl ?_
      refine e_if_eq (tgt := 48) dX11_orderLack_41 rfl (fun hc9 => ?_) (fun hc9 => ?_)
      · replace h9 := ifT hc9 h9
        refine e_bipush (v := (-6)) dX11_orderLack_48 rfl ?_
        exact x_iret dX11_orderLack_50 rfl (hR0 _ _ h9)
      · replace h9 := ifF hc9 h9
        refine e_iconst (v := 0) dX11_orderLack_44 rfl ?_
        refine e_goto (tgt := 50) dX11_orderLack_45 rfl ?_
        exact x_iret dX11_orderLack_50 rfl (hR0 _ _ h9)
    · replace h9 := ifF hc4 h9
      refine e_iload dX11_orderLack_24 rfl ?_
      exact x_iret dX11_orderLack_26 rfl (hR0 _ _ h9)
noncomputable def f_X11_judge (x : VM) (p1 : Int32) (p2 : Int32) : Option (Int32 × VM) := (f_X11_orderLack x p1 p2).elim none (fun r1p => if r1p.1 = 0 then if inb p1 8 = true then if p1.toNatClampNeg < r1p.2.2.2.2 5 then (f_X3_costOf r1p.2 p1.toNatClampNeg).elim none (fun r7 => some (r7, r1p.2)) else none else none else (f_X11_refused r1p.2 r1p.1).elim none (fun r8p => some (r8p.1, r8p.2)))
theorem c_X11_judge {g : GG} {d : Nat} {ad : AD} {x m : VM} {Q : Option Value → VM → VM → Prop} (p1 : Int32) (p2 : Int32) {r9 : Int32} {w9 : VM} (hf : f_X11_judge x p1 p2 = some (r9, w9)) (hq : Q (some (.int r9)) w9 m) : CX g (d + 3) MX11_judge [.ref (ad 11 0), .int p1, .int p2] ad x m Q := by
  refine CX.to (Lv := [some (.ref (ad 11 0)), some (.int p1), some (.int p2), none]) okX11_judge (Nat.le_of_ble_eq_true rfl) rfl ?_
  obtain ⟨Φ0, hΦ⟩ : ∃ Φ : Option (Int32 × VM) → Prop, Φ = fun o => o = some (r9, w9) := ⟨_, rfl⟩
  have hN0 : Φ0 none → False := by rw [hΦ]; intro h; cases h
  have hR0 : ∀ z9 y9, Φ0 (some (z9, y9)) → Q (some (.int z9)) y9 m := by rw [hΦ]; intro z9 y9 h; cases h; exact hq
  have h9 : Φ0 (f_X11_judge x p1 p2) := by rw [hΦ]; exact hf
  clear hf hq hΦ
  unfold f_X11_judge at h9
  refine e_aload_n dX11_judge_0 rfl rfl ?_
  refine e_iload_n dX11_judge_1 rfl rfl ?_
  refine e_iload_n dX11_judge_2 rfl rfl ?_
  obtain ⟨⟨r1, w2⟩, hr1, h9⟩ := elimP hN0 h9
  refine x_callVi (c := 11) (As := [.int p1, .int p2]) (rest := []) okX11_orderLack lkX11_280 rfl (by decide) rfl dX11_judge_3 rfl rfl (Nat.le_of_ble_eq_true rfl) rfl (c_X11_orderLack p1 p2 hr1 (CI.mk ?_))
  refine e_istore_n (L' := [some (.ref (ad 11 0)), some (.int p1), some (.int p2), some (.int r1)]) dX11_judge_6 rfl (by decide) rfl ?_
  refine e_iload_n dX11_judge_7 rfl rfl ?_
  refine e_if_eq (tgt := 19) dX11_judge_8 rfl (fun hc4 => ?_) (fun hc4 => ?_)
  · replace h9 := ifT hc4 h9
    refine e_aload_n dX11_judge_19 rfl rfl ?_
    refine g_1106 flX11_50 dX11_judge_20 ?_
    refine e_aload_n dX11_judge_23 rfl rfl ?_
    refine g_1102 flX11_23 dX11_judge_24 ?_
    refine e_iload_n dX11_judge_27 rfl rfl ?_
    obtain ⟨k5, h9⟩ := chkP hN0 h9
    refine l_1102 dX11_judge_28 (inb_in k5) ?_
    obtain ⟨k6, h9⟩ := chkP hN0 h9
    refine e_top (v := .ref (ad 5 p1.toNatClampNeg)) (rfT k6) ?_
    obtain ⟨r7, hr7, h9⟩ := elimP hN0 h9
    refine x_callVi (c := 3) (As := [.ref (ad 5 p1.toNatClampNeg)]) (rest := []) okX3_costOf lkX11_284 rfl (by decide) rfl dX11_judge_29 rfl rfl (Nat.le_of_ble_eq_true rfl) rfl (c_X3_costOf p1.toNatClampNeg hr7 (CI.mk ?_))
    exact x_iret dX11_judge_32 rfl (hR0 _ _ h9)
  · replace h9 := ifF hc4 h9
    refine e_aload_n dX11_judge_11 rfl rfl ?_
    refine e_iload_n dX11_judge_12 rfl rfl ?_
    obtain ⟨⟨r8, w9⟩, hr8, h9⟩ := elimP hN0 h9
    refine x_callVi (c := 11) (As := [.int r1]) (rest := []) okX11_refused lkX11_105 rfl (by decide) rfl dX11_judge_13 rfl rfl (Nat.le_of_ble_eq_true rfl) rfl (c_X11_refused r1 hr8 (CI.mk ?_))
    refine e_goto (tgt := 32) dX11_judge_16 rfl ?_
    exact x_iret dX11_judge_32 rfl (hR0 _ _ h9)
noncomputable def f_X11_begin (x : VM) (p1 : Int32) (p2 : Int32) : Option (Int32 × VM) := (f_X11_orderLack x p1 p2).elim none (fun r1p => if r1p.1 = 0 then if inb p1 8 = true then if p1.toNatClampNeg < r1p.2.2.2.2 5 then if (r1p.2.1 503 p1.toNatClampNeg) = 0 then if (r1p.2.1 502 p1.toNatClampNeg) = 0 then (f_X11_refused r1p.2 (-6)).elim none (fun r15p => some (r15p.1, r15p.2)) else (f_X5_beginShooting r1p.2 p1.toNatClampNeg).elim none (fun r12 => (f_X3_costOf r12 p1.toNatClampNeg).elim none (fun r14 => some (r14, r12))) else (f_X11_refused r1p.2 (-6)).elim none (fun r8p => some (r8p.1, r8p.2)) else none else none else (f_X11_refused r1p.2 r1p.1).elim none (fun r18p => some (r18p.1, r18p.2)))
theorem c_X11_begin {g : GG} {d : Nat} {ad : AD} {x m : VM} {Q : Option Value → VM → VM → Prop} (p1 : Int32) (p2 : Int32) {r9 : Int32} {w9 : VM} (hf : f_X11_begin x p1 p2 = some (r9, w9)) (hq : Q (some (.int r9)) w9 m) : CX g (d + 3) MX11_begin [.ref (ad 11 0), .int p1, .int p2] ad x m Q := by
  refine CX.to (Lv := [some (.ref (ad 11 0)), some (.int p1), some (.int p2), none, none]) okX11_begin (Nat.le_of_ble_eq_true rfl) rfl ?_
  obtain ⟨Φ0, hΦ⟩ : ∃ Φ : Option (Int32 × VM) → Prop, Φ = fun o => o = some (r9, w9) := ⟨_, rfl⟩
  have hN0 : Φ0 none → False := by rw [hΦ]; intro h; cases h
  have hR0 : ∀ z9 y9, Φ0 (some (z9, y9)) → Q (some (.int z9)) y9 m := by rw [hΦ]; intro z9 y9 h; cases h; exact hq
  have h9 : Φ0 (f_X11_begin x p1 p2) := by rw [hΦ]; exact hf
  clear hf hq hΦ
  unfold f_X11_begin at h9
  refine e_aload_n dX11_begin_0 rfl rfl ?_
  refine e_iload_n dX11_begin_1 rfl rfl ?_
  refine e_iload_n dX11_begin_2 rfl rfl ?_
  obtain ⟨⟨r1, w2⟩, hr1, h9⟩ := elimP hN0 h9
  refine x_callVi (c := 11) (As := [.int p1, .int p2]) (rest := []) okX11_orderLack lkX11_280 rfl (by decide) rfl dX11_begin_3 rfl rfl (Nat.le_of_ble_eq_true rfl) rfl (c_X11_orderLack p1 p2 hr1 (CI.mk ?_))
  refine e_istore_n (L' := [some (.ref (ad 11 0)), some (.int p1), some (.int p2), some (.int r1), none]) dX11_begin_6 rfl (by decide) rfl ?_
  refine e_iload_n dX11_begin_7 rfl rfl ?_
  refine e_if_eq (tgt := 17) dX11_begin_8 rfl (fun hc4 => ?_) (fun hc4 => ?_)
  · replace h9 := ifT hc4 h9
    refine e_aload_n dX11_begin_17 rfl rfl ?_
    refine g_1102 flX11_23 dX11_begin_18 ?_
    refine e_iload_n dX11_begin_21 rfl rfl ?_
    obtain ⟨k5, h9⟩ := chkP hN0 h9
    refine l_1102 dX11_begin_22 (inb_in k5) ?_
    obtain ⟨k6, h9⟩ := chkP hN0 h9
    refine e_top (v := .ref (ad 5 p1.toNatClampNeg)) (rfT k6) ?_
    refine e_astore (L' := [some (.ref (ad 11 0)), some (.int p1), some (.int p2), some (.int r1), some (.ref (ad 5 p1.toNatClampNeg))]) dX11_begin_23 (by decide) rfl ?_
    refine e_aload dX11_begin_25 rfl ?_
    refine g_503 flX11_235 dX11_begin_27 k6 ?_
    refine e_if_ne (tgt := 41) dX11_begin_30 rfl (fun hc7 => ?_) (fun hc7 => ?_)
    · replace h9 := ifF hc7 h9
      refine e_aload_n dX11_begin_41 rfl rfl ?_
      refine e_bipush (v := (-6)) dX11_begin_42 rfl ?_
      obtain ⟨⟨r8, w9⟩, hr8, h9⟩ := elimP hN0 h9
      refine x_callVi (c := 11) (As := [.int (-6)]) (rest := []) okX11_refused lkX11_105 rfl (by decide) rfl dX11_begin_44 rfl rfl (Nat.le_of_ble_eq_true rfl) rfl (c_X11_refused (-6) hr8 (CI.mk ?_))
      exact x_iret dX11_begin_47 rfl (hR0 _ _ h9)
    · replace h9 := ifT hc7 h9
      refine e_aload dX11_begin_33 rfl ?_
      refine g_502 flX11_238 dX11_begin_35 k6 ?_
      refine e_if_ne (tgt := 48) dX11_begin_38 rfl (fun hc11 => ?_) (fun hc11 => ?_)
      · replace h9 := ifF hc11 h9
        refine e_aload dX11_begin_48 rfl ?_
        refine e_aload_n dX11_begin_50 rfl rfl ?_
        refine g_1106 flX11_50 dX11_begin_51 ?_
        refine g_303 flX11_287 dX11_begin_54 ?_
        obtain ⟨r12, hr12, h9⟩ := elimP hN0 h9
        refine x_callVv (c := 5) (As := [.ref (ad 1303 0)]) (rest := []) okX5_beginShooting lkX11_290 rfl (by decide) rfl dX11_begin_57 rfl rfl (Nat.le_of_ble_eq_true rfl) k6 (c_X5_beginShooting p1.toNatClampNeg hr12 (CV.mk ?_))
        refine e_aload_n dX11_begin_60 rfl rfl ?_
        refine g_1106 flX11_50 dX11_begin_61 ?_
        refine e_aload dX11_begin_64 rfl ?_
        refine e_pc (pc' := 66) rfl ?_
        obtain ⟨r14, hr14, h9⟩ := elimP hN0 h9
        refine x_callVi (c := 3) (As := [.ref (ad 5 p1.toNatClampNeg)]) (rest := []) okX3_costOf lkX11_284 rfl (by decide) rfl dX11_begin_66 rfl rfl (Nat.le_of_ble_eq_true rfl) rfl (c_X3_costOf p1.toNatClampNeg hr14 (CI.mk ?_))
        exact x_iret dX11_begin_69 rfl (hR0 _ _ h9)
      · replace h9 := ifT hc11 h9
        refine e_aload_n dX11_begin_41 rfl rfl ?_
        refine e_bipush (v := (-6)) dX11_begin_42 rfl ?_
        obtain ⟨⟨r15, w16⟩, hr15, h9⟩ := elimP hN0 h9
        refine x_callVi (c := 11) (As := [.int (-6)]) (rest := []) okX11_refused lkX11_105 rfl (by decide) rfl dX11_begin_44 rfl rfl (Nat.le_of_ble_eq_true rfl) rfl (c_X11_refused (-6) hr15 (CI.mk ?_))
        exact x_iret dX11_begin_47 rfl (hR0 _ _ h9)
  · replace h9 := ifF hc4 h9
    refine e_aload_n dX11_begin_11 rfl rfl ?_
    refine e_iload_n dX11_begin_12 rfl rfl ?_
    obtain ⟨⟨r18, w19⟩, hr18, h9⟩ := elimP hN0 h9
    refine x_callVi (c := 11) (As := [.int r1]) (rest := []) okX11_refused lkX11_105 rfl (by decide) rfl dX11_begin_13 rfl rfl (Nat.le_of_ble_eq_true rfl) rfl (c_X11_refused r1 hr18 (CI.mk ?_))
    exact x_iret dX11_begin_16 rfl (hR0 _ _ h9)
noncomputable def f_X11_retake (x : VM) (p1 : Int32) (p2 : Int32) : Option (Int32 × VM) := (f_X11_sceneAt x p1 p2).elim none (fun r1 => r1.elim ((f_X11_refused x (-1)).elim none (fun r3p => some (r3p.1, r3p.2))) (fun i2 => if inb p1 8 = true then if p1.toNatClampNeg < x.2.2.2 5 then if (x.1 503 p1.toNatClampNeg) = 0 then (f_X11_refused x (-6)).elim none (fun r14p => some (r14p.1, r14p.2)) else if i2 / 8 < x.2.2.2 5 ∧ i2 % 8 < x.2.2.2 (20 + i2 / 8) then if (x.1 803 i2) < 9 then some ((setI x 803 i2 ((x.1 803 i2) + 1)).1 803 i2, setI x 803 i2 ((x.1 803 i2) + 1)) else (f_X11_refused x (-7)).elim none (fun r11p => some (r11p.1, r11p.2)) else none else none else none))
theorem c_X11_retake {g : GG} {d : Nat} {ad : AD} {x m : VM} {Q : Option Value → VM → VM → Prop} (p1 : Int32) (p2 : Int32) {r9 : Int32} {w9 : VM} (hf : f_X11_retake x p1 p2 = some (r9, w9)) (hq : Q (some (.int r9)) w9 m) : CX g (d + 2) MX11_retake [.ref (ad 11 0), .int p1, .int p2] ad x m Q := by
  refine CX.to (Lv := [some (.ref (ad 11 0)), some (.int p1), some (.int p2), none]) okX11_retake (Nat.le_of_ble_eq_true rfl) rfl ?_
  obtain ⟨Φ0, hΦ⟩ : ∃ Φ : Option (Int32 × VM) → Prop, Φ = fun o => o = some (r9, w9) := ⟨_, rfl⟩
  have hN0 : Φ0 none → False := by rw [hΦ]; intro h; cases h
  have hR0 : ∀ z9 y9, Φ0 (some (z9, y9)) → Q (some (.int z9)) y9 m := by rw [hΦ]; intro z9 y9 h; cases h; exact hq
  have h9 : Φ0 (f_X11_retake x p1 p2) := by rw [hΦ]; exact hf
  clear hf hq hΦ
  unfold f_X11_retake at h9
  refine e_aload_n dX11_retake_0 rfl rfl ?_
  refine e_iload_n dX11_retake_1 rfl rfl ?_
  refine e_iload_n dX11_retake_2 rfl rfl ?_
  obtain ⟨r1, hr1, h9⟩ := elimP hN0 h9
  refine x_callVi (c := 11) (As := [.int p1, .int p2]) (rest := []) okX11_sceneAt lkX11_253 rfl (by decide) rfl dX11_retake_3 rfl rfl (Nat.le_of_ble_eq_true rfl) rfl (c_X11_sceneAt p1 p2 hr1 (CI.mk ?_))
  cases r1 with
  | none =>
    replace h9 := elN h9
    refine e_top (v := .null) rfl ?_
    refine e_astore_nN (L' := [some (.ref (ad 11 0)), some (.int p1), some (.int p2), some (.null)]) dX11_retake_6 rfl (by decide) rfl ?_
    refine e_aload_nN dX11_retake_7 rfl rfl ?_
    refine e_ifnonnullN dX11_retake_8 ?_
    refine e_aload_n dX11_retake_11 rfl rfl ?_
    refine e_iconst (v := (-1)) dX11_retake_12 rfl ?_
    obtain ⟨⟨r3, w4⟩, hr3, h9⟩ := elimP hN0 h9
    refine x_callVi (c := 11) (As := [.int (-1)]) (rest := []) okX11_refused lkX11_105 rfl (by decide) rfl dX11_retake_13 rfl rfl (Nat.le_of_ble_eq_true rfl) rfl (c_X11_refused (-1) hr3 (CI.mk ?_))
    exact x_iret dX11_retake_16 rfl (hR0 _ _ h9)
  | some i2 =>
    replace h9 := elS h9
    refine e_top (v := .ref (ad 8 i2)) rfl ?_
    refine e_astore_n (L' := [some (.ref (ad 11 0)), some (.int p1), some (.int p2), some (.ref (ad 8 i2))]) dX11_retake_6 rfl (by decide) rfl ?_
    refine e_aload_n dX11_retake_7 rfl rfl ?_
    refine e_ifnonnull (tgt := 17) dX11_retake_8 rfl ?_
    refine e_aload_n dX11_retake_17 rfl rfl ?_
    refine g_1102 flX11_23 dX11_retake_18 ?_
    refine e_iload_n dX11_retake_21 rfl rfl ?_
    obtain ⟨k6, h9⟩ := chkP hN0 h9
    refine l_1102 dX11_retake_22 (inb_in k6) ?_
    obtain ⟨k7, h9⟩ := chkP hN0 h9
    refine e_top (v := .ref (ad 5 p1.toNatClampNeg)) (rfT k7) ?_
    refine g_503 flX11_235 dX11_retake_23 k7 ?_
    refine e_pc (pc' := 26) rfl ?_
    refine e_if_ne (tgt := 36) dX11_retake_26 rfl (fun hc8 => ?_) (fun hc8 => ?_)
    · replace h9 := ifF hc8 h9
      refine e_aload_n dX11_retake_36 rfl rfl ?_
      obtain ⟨k9, h9⟩ := chkP hN0 h9
      refine g_803 flX11_294 dX11_retake_37 k9 ?_
      refine e_bipush (v := 9) dX11_retake_40 rfl ?_
      refine e_icmp_lt (tgt := 52) dX11_retake_42 rfl (fun hc10 => ?_) (fun hc10 => ?_)
      · replace h9 := ifT hc10 h9
        refine e_aload_n dX11_retake_52 rfl rfl ?_
        refine e_dup dX11_retake_53 rfl ?_
        refine g_803 flX11_294 dX11_retake_54 k9 ?_
        refine e_iconst (v := 1) dX11_retake_57 rfl ?_
        refine e_iadd dX11_retake_58 ?_
        refine p_803 flX11_294 dX11_retake_59 k9 ?_
        refine e_aload_n dX11_retake_62 rfl rfl ?_
        refine g_803 flX11_294 dX11_retake_63 k9 ?_
        refine e_pc (pc' := 66) rfl ?_
        exact x_iret dX11_retake_66 rfl (hR0 _ _ h9)
      · replace h9 := ifF hc10 h9
        refine e_aload_n dX11_retake_45 rfl rfl ?_
        refine e_bipush (v := (-7)) dX11_retake_46 rfl ?_
        obtain ⟨⟨r11, w12⟩, hr11, h9⟩ := elimP hN0 h9
        refine x_callVi (c := 11) (As := [.int (-7)]) (rest := []) okX11_refused lkX11_105 rfl (by decide) rfl dX11_retake_48 rfl rfl (Nat.le_of_ble_eq_true rfl) rfl (c_X11_refused (-7) hr11 (CI.mk ?_))
        exact x_iret dX11_retake_51 rfl (hR0 _ _ h9)
    · replace h9 := ifT hc8 h9
      refine e_aload_n dX11_retake_29 rfl rfl ?_
      refine e_bipush (v := (-6)) dX11_retake_30 rfl ?_
      obtain ⟨⟨r14, w15⟩, hr14, h9⟩ := elimP hN0 h9
      refine x_callVi (c := 11) (As := [.int (-6)]) (rest := []) okX11_refused lkX11_105 rfl (by decide) rfl dX11_retake_32 rfl rfl (Nat.le_of_ble_eq_true rfl) rfl (c_X11_refused (-6) hr14 (CI.mk ?_))
      exact x_iret dX11_retake_35 rfl (hR0 _ _ h9)
noncomputable def b_X11_readyPeople_4 (x : VM) (v1 : Int32 × Int32) : (Int32 × Int32) ⊕ (Option (Int32)) := if (x.1 1113 0) ≤ v1.2 then Sum.inr (some v1.1) else if inb v1.2 16 = true then if v1.2.toNatClampNeg < x.2.2.2 4 then (f_X4_isReady x v1.2.toNatClampNeg (x.1 1116 0)).elim (Sum.inr none) (fun r5 => if r5 = 0 then Sum.inl (v1.1, v1.2 + 1) else Sum.inl (v1.1 ||| ((1 : Int32) <<< (v1.2 &&& 31)), v1.2 + 1)) else Sum.inr none else Sum.inr none
noncomputable def f_X11_readyPeople (x : VM) : Option (Int32) := loopF none (b_X11_readyPeople_4 x) (0, 0)
theorem c_X11_readyPeople {g : GG} {d : Nat} {ad : AD} {x m : VM} {Q : Option Value → VM → VM → Prop} {r9 : Int32} (hf : f_X11_readyPeople x = some r9) (hq : Q (some (.int r9)) x m) : CX g (d + 3) MX11_readyPeople [.ref (ad 11 0)] ad x m Q := by
  refine CX.to (Lv := [some (.ref (ad 11 0)), none, none]) okX11_readyPeople (Nat.le_of_ble_eq_true rfl) rfl ?_
  obtain ⟨Φ0, hΦ⟩ : ∃ Φ : Option (Int32) → Prop, Φ = fun o => o = some r9 := ⟨_, rfl⟩
  have hN0 : Φ0 none → False := by rw [hΦ]; intro h; cases h
  have hR0 : ∀ z9, Φ0 (some z9) → Q (some (.int z9)) x m := by rw [hΦ]; intro z9 h; cases h; exact hq
  have h9 : Φ0 (f_X11_readyPeople x) := by rw [hΦ]; exact hf
  clear hf hq hΦ
  unfold f_X11_readyPeople at h9
  refine e_iconst (v := 0) dX11_readyPeople_0 rfl ?_
  refine e_istore_n (L' := [some (.ref (ad 11 0)), some (.int 0), none]) dX11_readyPeople_1 rfl (by decide) rfl ?_
  refine e_iconst (v := 0) dX11_readyPeople_2 rfl ?_
  refine e_istore_n (L' := [some (.ref (ad 11 0)), some (.int 0), some (.int 0)]) dX11_readyPeople_3 rfl (by decide) rfl ?_
  refine loop_gen (b_X11_readyPeople_4 x) none (fun v1 => EX g (d + 3) MX11_readyPeople ad x m 4 [some (.ref (ad 11 0)), some (.int v1.1), some (.int v1.2)] [] Q) Φ0 hN0 (fun v1 Φ1 hB0_1 hO1 h9 => ?_) (0, 0) h9
  have hN1 := fun h => hN0 (hO1 _ h)
  have hR1 := fun r9 h => hR0 r9 (hO1 _ h)
  have hB0_1 : ∀ (z0 : Int32) (z1 : Int32), Φ1 (Sum.inl (z0, z1)) → EX g (d + 3) MX11_readyPeople ad x m 4 [some (.ref (ad 11 0)), some (.int z0), some (.int z1)] [] Q := fun z0 z1 h => hB0_1 (z0, z1) h
  unfold b_X11_readyPeople_4 at h9
  refine e_iload_n dX11_readyPeople_4 rfl rfl ?_
  refine e_aload_n dX11_readyPeople_5 rfl rfl ?_
  refine g_1113 flX11_85 dX11_readyPeople_6 ?_
  refine e_icmp_ge (tgt := 40) dX11_readyPeople_9 rfl (fun hc2 => ?_) (fun hc2 => ?_)
  · replace h9 := ifT hc2 h9
    refine e_iload_n dX11_readyPeople_40 rfl rfl ?_
    exact x_iret dX11_readyPeople_41 rfl (hR1 _ h9)
  · replace h9 := ifF hc2 h9
    refine e_aload_n dX11_readyPeople_12 rfl rfl ?_
    refine g_1101 flX11_17 dX11_readyPeople_13 ?_
    refine e_iload_n dX11_readyPeople_16 rfl rfl ?_
    obtain ⟨k3, h9⟩ := chkP hN1 h9
    refine l_1101 dX11_readyPeople_17 (inb_in k3) ?_
    obtain ⟨k4, h9⟩ := chkP hN1 h9
    refine e_top (v := .ref (ad 4 v1.2.toNatClampNeg)) (rfT k4) ?_
    refine e_aload_n dX11_readyPeople_18 rfl rfl ?_
    refine g_1116 flX11_95 dX11_readyPeople_19 ?_
    obtain ⟨r5, hr5, h9⟩ := elimP hN1 h9
    refine x_callVi (c := 4) (As := [.int (x.1 1116 0)]) (rest := []) okX4_isReady lkX11_306 rfl (by decide) rfl dX11_readyPeople_22 rfl rfl (Nat.le_of_ble_eq_true rfl) k4 (c_X4_isReady v1.2.toNatClampNeg (x.1 1116 0) hr5 (CI.mk ?_))
    refine e_if_eq (tgt := 34) dX11_readyPeople_25 rfl (fun hc6 => ?_) (fun hc6 => ?_)
    · replace h9 := ifT hc6 h9
      refine e_iinc (v := (v1.2 + 1)) (L' := [some (.ref (ad 11 0)), some (.int v1.1), some (.int (v1.2 + 1))]) dX11_readyPeople_34 rfl rfl (by decide) rfl ?_
      refine e_goto (tgt := 4) dX11_readyPeople_37 rfl ?_
      exact hB0_1 _ _ h9
    · replace h9 := ifF hc6 h9
      refine e_iload_n dX11_readyPeople_28 rfl rfl ?_
      refine e_iconst (v := 1) dX11_readyPeople_29 rfl ?_
      refine e_iload_n dX11_readyPeople_30 rfl rfl ?_
      refine e_ishl dX11_readyPeople_31 ?_
      refine e_ior dX11_readyPeople_32 ?_
      refine e_istore_n (L' := [some (.ref (ad 11 0)), some (.int (v1.1 ||| ((1 : Int32) <<< (v1.2 &&& 31)))), some (.int v1.2)]) dX11_readyPeople_33 rfl (by decide) rfl ?_
      refine e_iinc (v := (v1.2 + 1)) (L' := [some (.ref (ad 11 0)), some (.int (v1.1 ||| ((1 : Int32) <<< (v1.2 &&& 31)))), some (.int (v1.2 + 1))]) dX11_readyPeople_34 rfl rfl (by decide) rfl ?_
      refine e_goto (tgt := 4) dX11_readyPeople_37 rfl ?_
      exact hB0_1 _ _ h9
noncomputable def f_X11_shoot (x : VM) (p1 : Nat) (p2 : Int32) : Option (Int32 × VM) := if p1 < x.2.2.2 5 then (f_X5_nextScene x p1 p2).elim none (fun r2 => if r2 = (-1) then some (0, setI x 506 p1 ((x.1 506 p1) + 1)) else if inb r2 8 = true then if r2.toNatClampNeg < x.2.2.2 (20 + p1) then if (8 * p1 + r2.toNatClampNeg) / 8 < x.2.2.2 5 ∧ (8 * p1 + r2.toNatClampNeg) % 8 < x.2.2.2 (20 + (8 * p1 + r2.toNatClampNeg) / 8) then if (x.1 800 (8 * p1 + r2.toNatClampNeg)) = (x.1 505 p1) then some ((setI (setI (setI x 803 (8 * p1 + r2.toNatClampNeg) ((x.1 803 (8 * p1 + r2.toNatClampNeg)) - 1)) 507 p1 (((setI x 803 (8 * p1 + r2.toNatClampNeg) ((x.1 803 (8 * p1 + r2.toNatClampNeg)) - 1)).1 507 p1) + 1)) 1117 0 (((setI (setI x 803 (8 * p1 + r2.toNatClampNeg) ((x.1 803 (8 * p1 + r2.toNatClampNeg)) - 1)) 507 p1 (((setI x 803 (8 * p1 + r2.toNatClampNeg) ((x.1 803 (8 * p1 + r2.toNatClampNeg)) - 1)).1 507 p1) + 1)).1 1117 0) - ((setI (setI x 803 (8 * p1 + r2.toNatClampNeg) ((x.1 803 (8 * p1 + r2.toNatClampNeg)) - 1)) 507 p1 (((setI x 803 (8 * p1 + r2.toNatClampNeg) ((x.1 803 (8 * p1 + r2.toNatClampNeg)) - 1)).1 507 p1) + 1)).1 301 0))).1 801 (8 * p1 + r2.toNatClampNeg), setI (setI (setI x 803 (8 * p1 + r2.toNatClampNeg) ((x.1 803 (8 * p1 + r2.toNatClampNeg)) - 1)) 507 p1 (((setI x 803 (8 * p1 + r2.toNatClampNeg) ((x.1 803 (8 * p1 + r2.toNatClampNeg)) - 1)).1 507 p1) + 1)) 1117 0 (((setI (setI x 803 (8 * p1 + r2.toNatClampNeg) ((x.1 803 (8 * p1 + r2.toNatClampNeg)) - 1)) 507 p1 (((setI x 803 (8 * p1 + r2.toNatClampNeg) ((x.1 803 (8 * p1 + r2.toNatClampNeg)) - 1)).1 507 p1) + 1)).1 1117 0) - ((setI (setI x 803 (8 * p1 + r2.toNatClampNeg) ((x.1 803 (8 * p1 + r2.toNatClampNeg)) - 1)) 507 p1 (((setI x 803 (8 * p1 + r2.toNatClampNeg) ((x.1 803 (8 * p1 + r2.toNatClampNeg)) - 1)).1 507 p1) + 1)).1 301 0))) else some (0, setI (setI (setI x 505 p1 (x.1 800 (8 * p1 + r2.toNatClampNeg))) 508 p1 (((setI x 505 p1 (x.1 800 (8 * p1 + r2.toNatClampNeg))).1 508 p1) + 1)) 1117 0 (((setI (setI x 505 p1 (x.1 800 (8 * p1 + r2.toNatClampNeg))) 508 p1 (((setI x 505 p1 (x.1 800 (8 * p1 + r2.toNatClampNeg))).1 508 p1) + 1)).1 1117 0) - ((setI (setI x 505 p1 (x.1 800 (8 * p1 + r2.toNatClampNeg))) 508 p1 (((setI x 505 p1 (x.1 800 (8 * p1 + r2.toNatClampNeg))).1 508 p1) + 1)).1 302 0))) else none else none else none) else none
theorem c_X11_shoot {g : GG} {d : Nat} {ad : AD} {x m : VM} {Q : Option Value → VM → VM → Prop} (p1 : Nat) (p2 : Int32) {r9 : Int32} {w9 : VM} (hf : f_X11_shoot x p1 p2 = some (r9, w9)) (hq : Q (some (.int r9)) w9 m) : CX g (d + 1) MX11_shoot [.ref (ad 11 0), .ref (ad 5 p1), .int p2] ad x m Q := by
  refine CX.to (Lv := [some (.ref (ad 11 0)), some (.ref (ad 5 p1)), some (.int p2), none, none]) okX11_shoot (Nat.le_of_ble_eq_true rfl) rfl ?_
  obtain ⟨Φ0, hΦ⟩ : ∃ Φ : Option (Int32 × VM) → Prop, Φ = fun o => o = some (r9, w9) := ⟨_, rfl⟩
  have hN0 : Φ0 none → False := by rw [hΦ]; intro h; cases h
  have hR0 : ∀ z9 y9, Φ0 (some (z9, y9)) → Q (some (.int z9)) y9 m := by rw [hΦ]; intro z9 y9 h; cases h; exact hq
  have h9 : Φ0 (f_X11_shoot x p1 p2) := by rw [hΦ]; exact hf
  clear hf hq hΦ
  unfold f_X11_shoot at h9
  refine e_aload_n dX11_shoot_0 rfl rfl ?_
  refine e_iload_n dX11_shoot_1 rfl rfl ?_
  obtain ⟨k1, h9⟩ := chkP hN0 h9
  obtain ⟨r2, hr2, h9⟩ := elimP hN0 h9
  refine x_callVi (c := 5) (As := [.int p2]) (rest := []) okX5_nextScene lkX11_449 rfl (by decide) rfl dX11_shoot_2 rfl rfl (Nat.le_of_ble_eq_true rfl) k1 (c_X5_nextScene p1 p2 hr2 (CI.mk ?_))
  refine e_istore_n (L' := [some (.ref (ad 11 0)), some (.ref (ad 5 p1)), some (.int p2), some (.int r2), none]) dX11_shoot_5 rfl (by decide) rfl ?_
  refine e_iload_n dX11_shoot_6 rfl rfl ?_
  refine e_iconst (v := (-1)) dX11_shoot_7 rfl ?_
  refine e_icmp_ne (tgt := 23) dX11_shoot_8 rfl (fun hc3 => ?_) (fun hc3 => ?_)
  · replace h9 := ifF hc3 h9
    refine e_aload_n dX11_shoot_23 rfl rfl ?_
    refine g_501 flX11_244 dX11_shoot_24 k1 ?_
    refine e_iload_n dX11_shoot_27 rfl rfl ?_
    obtain ⟨k4, h9⟩ := chkP hN0 h9
    refine l_501 dX11_shoot_28 k1 (inb_in k4) ?_
    obtain ⟨k5, h9⟩ := chkP hN0 h9
    refine e_top (v := .ref (ad 8 (8 * p1 + r2.toNatClampNeg))) (rfT k5) ?_
    refine e_astore (L' := [some (.ref (ad 11 0)), some (.ref (ad 5 p1)), some (.int p2), some (.int r2), some (.ref (ad 8 (8 * p1 + r2.toNatClampNeg)))]) dX11_shoot_29 (by decide) rfl ?_
    refine e_aload dX11_shoot_31 rfl ?_
    obtain ⟨k6, h9⟩ := chkP hN0 h9
    refine g_800 flX11_452 dX11_shoot_33 k6 ?_
    refine e_aload_n dX11_shoot_36 rfl rfl ?_
    refine e_pc (pc' := 37) rfl ?_
    refine g_505 flX11_312 dX11_shoot_37 k1 ?_
    refine e_icmp_eq (tgt := 80) dX11_shoot_40 rfl (fun hc7 => ?_) (fun hc7 => ?_)
    · replace h9 := ifT hc7 h9
      refine e_aload dX11_shoot_80 rfl ?_
      refine e_dup dX11_shoot_82 rfl ?_
      refine g_803 flX11_294 dX11_shoot_83 k6 ?_
      refine e_iconst (v := 1) dX11_shoot_86 rfl ?_
      refine e_isub dX11_shoot_87 ?_
      refine p_803 flX11_294 dX11_shoot_88 k6 ?_
      refine e_aload_n dX11_shoot_91 rfl rfl ?_
      refine e_dup dX11_shoot_92 rfl ?_
      refine e_pc (pc' := 93) rfl ?_
      refine g_507 flX11_318 dX11_shoot_93 k1 ?_
      refine e_iconst (v := 1) dX11_shoot_96 rfl ?_
      refine e_iadd dX11_shoot_97 ?_
      refine p_507 flX11_318 dX11_shoot_98 k1 ?_
      refine e_aload_n dX11_shoot_101 rfl rfl ?_
      refine e_dup dX11_shoot_102 rfl ?_
      refine g_1117 flX11_98 dX11_shoot_103 ?_
      refine e_aload_n dX11_shoot_106 rfl rfl ?_
      refine g_1106 flX11_50 dX11_shoot_107 ?_
      refine e_pc (pc' := 110) rfl ?_
      refine g_301 flX11_260 dX11_shoot_110 ?_
      refine e_isub dX11_shoot_113 ?_
      refine p_1117 flX11_98 dX11_shoot_114 ?_
      refine e_aload dX11_shoot_117 rfl ?_
      refine g_801 flX11_455 dX11_shoot_119 k6 ?_
      exact x_iret dX11_shoot_122 rfl (hR0 _ _ h9)
    · replace h9 := ifF hc7 h9
      refine e_aload_n dX11_shoot_43 rfl rfl ?_
      refine e_aload dX11_shoot_44 rfl ?_
      refine g_800 flX11_452 dX11_shoot_46 k6 ?_
      refine p_505 flX11_312 dX11_shoot_49 k1 ?_
      refine e_aload_n dX11_shoot_52 rfl rfl ?_
      refine e_dup dX11_shoot_53 rfl ?_
      refine g_508 flX11_321 dX11_shoot_54 k1 ?_
      refine e_iconst (v := 1) dX11_shoot_57 rfl ?_
      refine e_pc (pc' := 58) rfl ?_
      refine e_iadd dX11_shoot_58 ?_
      refine p_508 flX11_321 dX11_shoot_59 k1 ?_
      refine e_aload_n dX11_shoot_62 rfl rfl ?_
      refine e_dup dX11_shoot_63 rfl ?_
      refine g_1117 flX11_98 dX11_shoot_64 ?_
      refine e_aload_n dX11_shoot_67 rfl rfl ?_
      refine g_1106 flX11_50 dX11_shoot_68 ?_
      refine g_302 flX11_263 dX11_shoot_71 ?_
      refine e_isub dX11_shoot_74 ?_
      refine e_pc (pc' := 75) rfl ?_
      refine p_1117 flX11_98 dX11_shoot_75 ?_
      refine e_iconst (v := 0) dX11_shoot_78 rfl ?_
      exact x_iret dX11_shoot_79 rfl (hR0 _ _ h9)
  · replace h9 := ifT hc3 h9
    refine e_aload_n dX11_shoot_11 rfl rfl ?_
    refine e_dup dX11_shoot_12 rfl ?_
    refine g_506 flX11_315 dX11_shoot_13 k1 ?_
    refine e_iconst (v := 1) dX11_shoot_16 rfl ?_
    refine e_iadd dX11_shoot_17 ?_
    refine p_506 flX11_315 dX11_shoot_18 k1 ?_
    refine e_iconst (v := 0) dX11_shoot_21 rfl ?_
    exact x_iret dX11_shoot_22 rfl (hR0 _ _ h9)
noncomputable def b_X11_lengthenSuspended_2 (x : VM) (v1 : Int32 × VM) : (Int32 × VM) ⊕ (Option (VM)) := if (v1.2.1 1113 0) ≤ v1.1 then Sum.inr (some v1.2) else if inb v1.1 16 = true then if v1.1.toNatClampNeg < v1.2.2.2.2 4 then if (v1.2.1 406 v1.1.toNatClampNeg) = 0 then Sum.inl (v1.1 + 1, v1.2) else (f_X4_countOf v1.2 v1.1.toNatClampNeg 1 (v1.2.1 1116 0)).elim (Sum.inr none) (fun r6 => if r6 = 1 then Sum.inl (v1.1 + 1, setI v1.2 405 v1.1.toNatClampNeg ((v1.2.1 405 v1.1.toNatClampNeg) + 1)) else Sum.inl (v1.1 + 1, v1.2)) else Sum.inr none else Sum.inr none
noncomputable def f_X11_lengthenSuspended (x : VM) : Option (VM) := loopF none (b_X11_lengthenSuspended_2 x) (0, x)
theorem c_X11_lengthenSuspended {g : GG} {d : Nat} {ad : AD} {x m : VM} {Q : Option Value → VM → VM → Prop} {w9 : VM} (hf : f_X11_lengthenSuspended x = some w9) (hq : Q none w9 m) : CX g (d + 2) MX11_lengthenSuspended [.ref (ad 11 0)] ad x m Q := by
  refine CX.to (Lv := [some (.ref (ad 11 0)), none, none]) okX11_lengthenSuspended (Nat.le_of_ble_eq_true rfl) rfl ?_
  obtain ⟨Φ0, hΦ⟩ : ∃ Φ : Option (VM) → Prop, Φ = fun o => o = some w9 := ⟨_, rfl⟩
  have hN0 : Φ0 none → False := by rw [hΦ]; intro h; cases h
  have hR0 : ∀ z9, Φ0 (some z9) → Q none z9 m := by rw [hΦ]; intro z9 h; cases h; exact hq
  have h9 : Φ0 (f_X11_lengthenSuspended x) := by rw [hΦ]; exact hf
  clear hf hq hΦ
  unfold f_X11_lengthenSuspended at h9
  refine e_iconst (v := 0) dX11_lengthenSuspended_0 rfl ?_
  refine e_istore_n (L' := [some (.ref (ad 11 0)), some (.int 0), none]) dX11_lengthenSuspended_1 rfl (by decide) rfl ?_
  refine loop_gen (b_X11_lengthenSuspended_2 x) none (fun v1 => EX g (d + 2) MX11_lengthenSuspended ad v1.2 m 2 [some (.ref (ad 11 0)), some (.int v1.1), none] [] Q) Φ0 hN0 (fun v1 Φ1 hB0_1 hO1 h9 => ?_) (0, x) h9
  have hN1 := fun h => hN0 (hO1 _ h)
  have hR1 := fun r9 h => hR0 r9 (hO1 _ h)
  have hB0_1 : ∀ (z0 : Int32) (z1 : VM), Φ1 (Sum.inl (z0, z1)) → EX g (d + 2) MX11_lengthenSuspended ad z1 m 2 [some (.ref (ad 11 0)), some (.int z0), none] [] Q := fun z0 z1 h => hB0_1 (z0, z1) h
  unfold b_X11_lengthenSuspended_2 at h9
  refine e_iload_n dX11_lengthenSuspended_2 rfl rfl ?_
  refine e_aload_n dX11_lengthenSuspended_3 rfl rfl ?_
  refine g_1113 flX11_85 dX11_lengthenSuspended_4 ?_
  refine e_icmp_ge (tgt := 57) dX11_lengthenSuspended_7 rfl (fun hc2 => ?_) (fun hc2 => ?_)
  · replace h9 := ifT hc2 h9
    exact x_vret dX11_lengthenSuspended_57 rfl (hR1 _ h9)
  · replace h9 := ifF hc2 h9
    refine e_aload_n dX11_lengthenSuspended_10 rfl rfl ?_
    refine g_1101 flX11_17 dX11_lengthenSuspended_11 ?_
    refine e_iload_n dX11_lengthenSuspended_14 rfl rfl ?_
    obtain ⟨k3, h9⟩ := chkP hN1 h9
    refine l_1101 dX11_lengthenSuspended_15 (inb_in k3) ?_
    obtain ⟨k4, h9⟩ := chkP hN1 h9
    refine e_top (v := .ref (ad 4 v1.1.toNatClampNeg)) (rfT k4) ?_
    refine e_astore_n (L' := [some (.ref (ad 11 0)), some (.int v1.1), some (.ref (ad 4 v1.1.toNatClampNeg))]) dX11_lengthenSuspended_16 rfl (by decide) rfl ?_
    refine e_aload_n dX11_lengthenSuspended_17 rfl rfl ?_
    refine g_406 flX11_223 dX11_lengthenSuspended_18 k4 ?_
    refine e_if_eq (tgt := 51) dX11_lengthenSuspended_21 rfl (fun hc5 => ?_) (fun hc5 => ?_)
    · replace h9 := ifT hc5 h9
      refine e_iinc (v := (v1.1 + 1)) (L' := [some (.ref (ad 11 0)), some (.int (v1.1 + 1)), some (.ref (ad 4 v1.1.toNatClampNeg))]) dX11_lengthenSuspended_51 rfl rfl (by decide) rfl ?_
      refine e_goto (tgt := 2) dX11_lengthenSuspended_54 rfl ?_
      refine e_wk (L' := [some (.ref (ad 11 0)), some (.int (v1.1 + 1)), none]) (wkC (wkC (wkN wk0))) ?_
      exact hB0_1 _ _ h9
    · replace h9 := ifF hc5 h9
      refine e_aload_n dX11_lengthenSuspended_24 rfl rfl ?_
      refine e_iconst (v := 1) dX11_lengthenSuspended_25 rfl ?_
      refine e_aload_n dX11_lengthenSuspended_26 rfl rfl ?_
      refine g_1116 flX11_95 dX11_lengthenSuspended_27 ?_
      refine e_aload_n dX11_lengthenSuspended_30 rfl rfl ?_
      refine g_1104 flX11_36 dX11_lengthenSuspended_31 ?_
      obtain ⟨r6, hr6, h9⟩ := elimP hN1 h9
      refine x_callVi (c := 4) (As := [.int 1, .int (v1.2.1 1116 0), .ref (ad 2 0)]) (rest := []) okX4_countOf lkX11_204 rfl (by decide) rfl dX11_lengthenSuspended_34 rfl rfl (Nat.le_of_ble_eq_true rfl) k4 (c_X4_countOf v1.1.toNatClampNeg 1 (v1.2.1 1116 0) hr6 (CI.mk ?_))
      refine e_iconst (v := 1) dX11_lengthenSuspended_37 rfl ?_
      refine e_pc (pc' := 38) rfl ?_
      refine e_icmp_ne (tgt := 51) dX11_lengthenSuspended_38 rfl (fun hc7 => ?_) (fun hc7 => ?_)
      · replace h9 := ifF hc7 h9
        refine e_iinc (v := (v1.1 + 1)) (L' := [some (.ref (ad 11 0)), some (.int (v1.1 + 1)), some (.ref (ad 4 v1.1.toNatClampNeg))]) dX11_lengthenSuspended_51 rfl rfl (by decide) rfl ?_
        refine e_goto (tgt := 2) dX11_lengthenSuspended_54 rfl ?_
        refine e_wk (L' := [some (.ref (ad 11 0)), some (.int (v1.1 + 1)), none]) (wkC (wkC (wkN wk0))) ?_
        exact hB0_1 _ _ h9
      · replace h9 := ifT hc7 h9
        refine e_aload_n dX11_lengthenSuspended_41 rfl rfl ?_
        refine e_dup dX11_lengthenSuspended_42 rfl ?_
        refine g_405 flX11_195 dX11_lengthenSuspended_43 k4 ?_
        refine e_iconst (v := 1) dX11_lengthenSuspended_46 rfl ?_
        refine e_iadd dX11_lengthenSuspended_47 ?_
        refine p_405 flX11_195 dX11_lengthenSuspended_48 k4 ?_
        refine e_iinc (v := (v1.1 + 1)) (L' := [some (.ref (ad 11 0)), some (.int (v1.1 + 1)), some (.ref (ad 4 v1.1.toNatClampNeg))]) dX11_lengthenSuspended_51 rfl rfl (by decide) rfl ?_
        refine e_goto (tgt := 2) dX11_lengthenSuspended_54 rfl ?_
        refine e_wk (L' := [some (.ref (ad 11 0)), some (.int (v1.1 + 1)), none]) (wkC (wkC (wkN wk0))) ?_
        exact hB0_1 _ _ h9
noncomputable def b_X11_payWeek_2 (x : VM) (v1 : Int32 × VM) : (Int32 × VM) ⊕ (Option (VM)) := if (v1.2.1 1113 0) ≤ v1.1 then Sum.inr (some v1.2) else if inb v1.1 16 = true then if v1.1.toNatClampNeg < v1.2.2.2.2 4 then (f_X4_isAtWork v1.2 v1.1.toNatClampNeg (v1.2.1 1116 0)).elim (Sum.inr none) (fun r5 => if r5 = 0 then Sum.inl (v1.1 + 1, v1.2) else (f_X4_paidOn v1.2 v1.1.toNatClampNeg (v1.2.1 1116 0)).elim (Sum.inr none) (fun r7 => (f_X4_countOf v1.2 v1.1.toNatClampNeg 0 (v1.2.1 1116 0)).elim (Sum.inr none) (fun r8 => if r8 ≤ r7 then Sum.inl (v1.1 + 1, v1.2) else (f_X4_addPaidWeek v1.2 v1.1.toNatClampNeg (v1.2.1 1116 0)).elim (Sum.inr none) (fun r10 => if v1.1.toNatClampNeg < r10.2.2.2 4 then Sum.inl (v1.1 + 1, setI r10 1117 0 ((r10.1 1117 0) - (r10.1 400 v1.1.toNatClampNeg))) else Sum.inr none)))) else Sum.inr none else Sum.inr none
noncomputable def f_X11_payWeek (x : VM) : Option (VM) := loopF none (b_X11_payWeek_2 x) (0, x)
theorem c_X11_payWeek {g : GG} {d : Nat} {ad : AD} {x m : VM} {Q : Option Value → VM → VM → Prop} {w9 : VM} (hf : f_X11_payWeek x = some w9) (hq : Q none w9 m) : CX g (d + 3) MX11_payWeek [.ref (ad 11 0)] ad x m Q := by
  refine CX.to (Lv := [some (.ref (ad 11 0)), none, none]) okX11_payWeek (Nat.le_of_ble_eq_true rfl) rfl ?_
  obtain ⟨Φ0, hΦ⟩ : ∃ Φ : Option (VM) → Prop, Φ = fun o => o = some w9 := ⟨_, rfl⟩
  have hN0 : Φ0 none → False := by rw [hΦ]; intro h; cases h
  have hR0 : ∀ z9, Φ0 (some z9) → Q none z9 m := by rw [hΦ]; intro z9 h; cases h; exact hq
  have h9 : Φ0 (f_X11_payWeek x) := by rw [hΦ]; exact hf
  clear hf hq hΦ
  unfold f_X11_payWeek at h9
  refine e_iconst (v := 0) dX11_payWeek_0 rfl ?_
  refine e_istore_n (L' := [some (.ref (ad 11 0)), some (.int 0), none]) dX11_payWeek_1 rfl (by decide) rfl ?_
  refine loop_gen (b_X11_payWeek_2 x) none (fun v1 => EX g (d + 3) MX11_payWeek ad v1.2 m 2 [some (.ref (ad 11 0)), some (.int v1.1), none] [] Q) Φ0 hN0 (fun v1 Φ1 hB0_1 hO1 h9 => ?_) (0, x) h9
  have hN1 := fun h => hN0 (hO1 _ h)
  have hR1 := fun r9 h => hR0 r9 (hO1 _ h)
  have hB0_1 : ∀ (z0 : Int32) (z1 : VM), Φ1 (Sum.inl (z0, z1)) → EX g (d + 3) MX11_payWeek ad z1 m 2 [some (.ref (ad 11 0)), some (.int z0), none] [] Q := fun z0 z1 h => hB0_1 (z0, z1) h
  unfold b_X11_payWeek_2 at h9
  refine e_iload_n dX11_payWeek_2 rfl rfl ?_
  refine e_aload_n dX11_payWeek_3 rfl rfl ?_
  refine g_1113 flX11_85 dX11_payWeek_4 ?_
  refine e_icmp_ge (tgt := 79) dX11_payWeek_7 rfl (fun hc2 => ?_) (fun hc2 => ?_)
  · replace h9 := ifT hc2 h9
    exact x_vret dX11_payWeek_79 rfl (hR1 _ h9)
  · replace h9 := ifF hc2 h9
    refine e_aload_n dX11_payWeek_10 rfl rfl ?_
    refine g_1101 flX11_17 dX11_payWeek_11 ?_
    refine e_iload_n dX11_payWeek_14 rfl rfl ?_
    obtain ⟨k3, h9⟩ := chkP hN1 h9
    refine l_1101 dX11_payWeek_15 (inb_in k3) ?_
    obtain ⟨k4, h9⟩ := chkP hN1 h9
    refine e_top (v := .ref (ad 4 v1.1.toNatClampNeg)) (rfT k4) ?_
    refine e_astore_n (L' := [some (.ref (ad 11 0)), some (.int v1.1), some (.ref (ad 4 v1.1.toNatClampNeg))]) dX11_payWeek_16 rfl (by decide) rfl ?_
    refine e_aload_n dX11_payWeek_17 rfl rfl ?_
    refine e_aload_n dX11_payWeek_18 rfl rfl ?_
    refine g_1116 flX11_95 dX11_payWeek_19 ?_
    refine e_pc (pc' := 22) rfl ?_
    obtain ⟨r5, hr5, h9⟩ := elimP hN1 h9
    refine x_callVi (c := 4) (As := [.int (v1.2.1 1116 0)]) (rest := []) okX4_isAtWork lkX11_214 rfl (by decide) rfl dX11_payWeek_22 rfl rfl (Nat.le_of_ble_eq_true rfl) k4 (c_X4_isAtWork v1.1.toNatClampNeg (v1.2.1 1116 0) hr5 (CI.mk ?_))
    refine e_if_eq (tgt := 73) dX11_payWeek_25 rfl (fun hc6 => ?_) (fun hc6 => ?_)
    · replace h9 := ifT hc6 h9
      refine e_iinc (v := (v1.1 + 1)) (L' := [some (.ref (ad 11 0)), some (.int (v1.1 + 1)), some (.ref (ad 4 v1.1.toNatClampNeg))]) dX11_payWeek_73 rfl rfl (by decide) rfl ?_
      refine e_goto (tgt := 2) dX11_payWeek_76 rfl ?_
      refine e_wk (L' := [some (.ref (ad 11 0)), some (.int (v1.1 + 1)), none]) (wkC (wkC (wkN wk0))) ?_
      exact hB0_1 _ _ h9
    · replace h9 := ifF hc6 h9
      refine e_aload_n dX11_payWeek_28 rfl rfl ?_
      refine e_aload_n dX11_payWeek_29 rfl rfl ?_
      refine g_1116 flX11_95 dX11_payWeek_30 ?_
      obtain ⟨r7, hr7, h9⟩ := elimP hN1 h9
      refine x_callVi (c := 4) (As := [.int (v1.2.1 1116 0)]) (rest := []) okX4_paidOn lkX11_458 rfl (by decide) rfl dX11_payWeek_33 rfl rfl (Nat.le_of_ble_eq_true rfl) k4 (c_X4_paidOn v1.1.toNatClampNeg (v1.2.1 1116 0) hr7 (CI.mk ?_))
      refine e_aload_n dX11_payWeek_36 rfl rfl ?_
      refine e_iconst (v := 0) dX11_payWeek_37 rfl ?_
      refine e_aload_n dX11_payWeek_38 rfl rfl ?_
      refine g_1116 flX11_95 dX11_payWeek_39 ?_
      refine e_pc (pc' := 42) rfl ?_
      refine e_aload_n dX11_payWeek_42 rfl rfl ?_
      refine g_1104 flX11_36 dX11_payWeek_43 ?_
      obtain ⟨r8, hr8, h9⟩ := elimP hN1 h9
      refine x_callVi (c := 4) (As := [.int 0, .int (v1.2.1 1116 0), .ref (ad 2 0)]) (rest := [.int r7]) okX4_countOf lkX11_204 rfl (by decide) rfl dX11_payWeek_46 rfl rfl (Nat.le_of_ble_eq_true rfl) k4 (c_X4_countOf v1.1.toNatClampNeg 0 (v1.2.1 1116 0) hr8 (CI.mk ?_))
      refine e_icmp_ge (tgt := 73) dX11_payWeek_49 rfl (fun hc9 => ?_) (fun hc9 => ?_)
      · replace h9 := ifT hc9 h9
        refine e_iinc (v := (v1.1 + 1)) (L' := [some (.ref (ad 11 0)), some (.int (v1.1 + 1)), some (.ref (ad 4 v1.1.toNatClampNeg))]) dX11_payWeek_73 rfl rfl (by decide) rfl ?_
        refine e_goto (tgt := 2) dX11_payWeek_76 rfl ?_
        refine e_wk (L' := [some (.ref (ad 11 0)), some (.int (v1.1 + 1)), none]) (wkC (wkC (wkN wk0))) ?_
        exact hB0_1 _ _ h9
      · replace h9 := ifF hc9 h9
        refine e_aload_n dX11_payWeek_52 rfl rfl ?_
        refine e_aload_n dX11_payWeek_53 rfl rfl ?_
        refine g_1116 flX11_95 dX11_payWeek_54 ?_
        obtain ⟨r10, hr10, h9⟩ := elimP hN1 h9
        refine x_callVv (c := 4) (As := [.int (v1.2.1 1116 0)]) (rest := []) okX4_addPaidWeek lkX11_461 rfl (by decide) rfl dX11_payWeek_57 rfl rfl (Nat.le_of_ble_eq_true rfl) k4 (c_X4_addPaidWeek v1.1.toNatClampNeg (v1.2.1 1116 0) hr10 (CV.mk ?_))
        refine e_aload_n dX11_payWeek_60 rfl rfl ?_
        refine e_dup dX11_payWeek_61 rfl ?_
        refine g_1117 flX11_98 dX11_payWeek_62 ?_
        refine e_aload_n dX11_payWeek_65 rfl rfl ?_
        refine e_pc (pc' := 66) rfl ?_
        obtain ⟨k12, h9⟩ := chkP hN1 h9
        refine g_400 flX11_300 dX11_payWeek_66 k12 ?_
        refine e_isub dX11_payWeek_69 ?_
        refine p_1117 flX11_98 dX11_payWeek_70 ?_
        refine e_iinc (v := (v1.1 + 1)) (L' := [some (.ref (ad 11 0)), some (.int (v1.1 + 1)), some (.ref (ad 4 v1.1.toNatClampNeg))]) dX11_payWeek_73 rfl rfl (by decide) rfl ?_
        refine e_goto (tgt := 2) dX11_payWeek_76 rfl ?_
        refine e_wk (L' := [some (.ref (ad 11 0)), some (.int (v1.1 + 1)), none]) (wkC (wkC (wkN wk0))) ?_
        exact hB0_1 _ _ h9
