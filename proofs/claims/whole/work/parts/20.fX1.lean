noncomputable def j_X0_fillCanKeep_111 (x : VM) (p1 : Nat) (p2 : Nat) (v2 : Int32 × VM) (v5 : Int32 × VM) (a8 : Int32) : (Int32 × VM) ⊕ ((Int32 × VM) ⊕ (Option (VM))) := if inb ((v2.1 * 61) + v5.1) 3721 = true then Sum.inl (v5.1 + (-1), setA v5.2 0 0 (upd (v5.2.2.1 0 0) (((v2.1 * 61) + v5.1).toNatClampNeg) a8)) else Sum.inr (Sum.inr none)
noncomputable def j_X0_fillCanKeep_109 (x : VM) (p1 : Nat) (p2 : Nat) (v2 : Int32 × VM) (v5 : Int32 × VM) (a15 : Int32) : (Int32 × VM) ⊕ ((Int32 × VM) ⊕ (Option (VM))) := j_X0_fillCanKeep_111 x p1 p2 v2 v5 a15
noncomputable def b_X0_fillCanKeep_15 (x : VM) (p1 : Nat) (p2 : Nat) (v2 : Int32 × VM) (v5 : Int32 × VM) : (Int32 × VM) ⊕ ((Int32 × VM) ⊕ (Option (VM))) := if v5.1 < 0 then Sum.inr (Sum.inl (v2.1 + (-1), v5.2)) else if p1 < v5.2.2.2.2 5 then if (v5.2.1 512 p1) ≤ v2.1 then j_X0_fillCanKeep_111 x p1 p2 v2 v5 0 else if p2 < 8 then if (v5.2.1 902 p2) ≤ v5.1 then j_X0_fillCanKeep_111 x p1 p2 v2 v5 0 else if inb v2.1 60 = true then if inb v5.1 60 = true then if (lg_cmp (v5.2.2.2.1 510 p1 v2.1.toNatClampNeg) (v5.2.2.2.1 900 p2 v5.1.toNatClampNeg)) = 0 then if inb ((((v2.1 + 1) * 61) + v5.1) + 1) 3721 = true then j_X0_fillCanKeep_109 x p1 p2 v2 v5 (1 + (v5.2.2.1 0 0 (((((v2.1 + 1) * 61) + v5.1) + 1).toNatClampNeg))) else Sum.inr (Sum.inr none) else if inb (((v2.1 + 1) * 61) + v5.1) 3721 = true then if inb (((v2.1 * 61) + v5.1) + 1) 3721 = true then j_X0_fillCanKeep_109 x p1 p2 v2 v5 (if (v5.2.2.1 0 0 ((((v2.1 + 1) * 61) + v5.1).toNatClampNeg)) < (v5.2.2.1 0 0 ((((v2.1 * 61) + v5.1) + 1).toNatClampNeg)) then (v5.2.2.1 0 0 ((((v2.1 * 61) + v5.1) + 1).toNatClampNeg)) else (v5.2.2.1 0 0 ((((v2.1 + 1) * 61) + v5.1).toNatClampNeg))) else Sum.inr (Sum.inr none) else Sum.inr (Sum.inr none) else Sum.inr (Sum.inr none) else Sum.inr (Sum.inr none) else Sum.inr (Sum.inr none) else Sum.inr (Sum.inr none)
noncomputable def b_X0_fillCanKeep_5 (x : VM) (p1 : Nat) (p2 : Nat) (v2 : Int32 × VM) : (Int32 × VM) ⊕ (Option (VM)) := if v2.1 < 0 then Sum.inr (some v2.2) else if p2 < 8 then loopF (Sum.inr none) (b_X0_fillCanKeep_15 x p1 p2 v2) (v2.2.1 902 p2, v2.2) else Sum.inr none
noncomputable def f_X0_fillCanKeep (x : VM) (p1 : Nat) (p2 : Nat) : Option (VM) := if p1 < x.2.2.2 5 then loopF none (b_X0_fillCanKeep_5 x p1 p2) (x.1 512 p1, x) else none
theorem c_X0_fillCanKeep {g : GG} {d : Nat} {ad : AD} {x m : VM} {Q : Option Value → VM → VM → Prop} (p1 : Nat) (p2 : Nat) {w9 : VM} (hf : f_X0_fillCanKeep x p1 p2 = some w9) (hq : Q none w9 m) : CX g (d + 1) MX0_fillCanKeep [.ref (ad 0 0), .ref (ad 5 p1), .ref (ad 9 p2)] ad x m Q := by
  refine CX.to (Lv := [some (.ref (ad 0 0)), some (.ref (ad 5 p1)), some (.ref (ad 9 p2)), none, none, none]) okX0_fillCanKeep (Nat.le_of_ble_eq_true rfl) rfl ?_
  obtain ⟨Φ0, hΦ⟩ : ∃ Φ : Option (VM) → Prop, Φ = fun o => o = some w9 := ⟨_, rfl⟩
  have hN0 : Φ0 none → False := by rw [hΦ]; intro h; cases h
  have hR0 : ∀ z9, Φ0 (some z9) → Q none z9 m := by rw [hΦ]; intro z9 h; cases h; exact hq
  have h9 : Φ0 (f_X0_fillCanKeep x p1 p2) := by rw [hΦ]; exact hf
  clear hf hq hΦ
  unfold f_X0_fillCanKeep at h9
  refine e_aload_n dX0_fillCanKeep_0 rfl rfl ?_
  obtain ⟨k1, h9⟩ := chkP hN0 h9
  refine g_512 flX0_52 dX0_fillCanKeep_1 k1 ?_
  refine e_istore_n (L' := [some (.ref (ad 0 0)), some (.ref (ad 5 p1)), some (.ref (ad 9 p2)), some (.int (x.1 512 p1)), none, none]) dX0_fillCanKeep_4 rfl (by decide) rfl ?_
  refine loop_gen (b_X0_fillCanKeep_5 x p1 p2) none (fun v2 => EX g (d + 1) MX0_fillCanKeep ad v2.2 m 5 [some (.ref (ad 0 0)), some (.ref (ad 5 p1)), some (.ref (ad 9 p2)), some (.int v2.1), none, none] [] Q) Φ0 hN0 (fun v2 Φ1 hB0_1 hO1 h9 => ?_) (x.1 512 p1, x) h9
  have hN1 := fun h => hN0 (hO1 _ h)
  have hR1 := fun r9 h => hR0 r9 (hO1 _ h)
  have hB0_1 : ∀ (z0 : Int32) (z1 : VM), Φ1 (Sum.inl (z0, z1)) → EX g (d + 1) MX0_fillCanKeep ad z1 m 5 [some (.ref (ad 0 0)), some (.ref (ad 5 p1)), some (.ref (ad 9 p2)), some (.int z0), none, none] [] Q := fun z0 z1 h => hB0_1 (z0, z1) h
  unfold b_X0_fillCanKeep_5 at h9
  refine e_iload_n dX0_fillCanKeep_5 rfl rfl ?_
  refine e_if_lt (tgt := 137) dX0_fillCanKeep_6 rfl (fun hc3 => ?_) (fun hc3 => ?_)
  · replace h9 := ifT hc3 h9
    exact x_vret dX0_fillCanKeep_137 rfl (hR1 _ h9)
  · replace h9 := ifF hc3 h9
    refine e_aload_n dX0_fillCanKeep_9 rfl rfl ?_
    obtain ⟨k4, h9⟩ := chkP hN1 h9
    refine g_902 flX0_18 dX0_fillCanKeep_10 k4 ?_
    refine e_istore (L' := [some (.ref (ad 0 0)), some (.ref (ad 5 p1)), some (.ref (ad 9 p2)), some (.int v2.1), some (.int (v2.2.1 902 p2)), none]) dX0_fillCanKeep_13 (by decide) rfl ?_
    refine loop_gen (b_X0_fillCanKeep_15 x p1 p2 v2) (Sum.inr none) (fun v5 => EX g (d + 1) MX0_fillCanKeep ad v5.2 m 15 [some (.ref (ad 0 0)), some (.ref (ad 5 p1)), some (.ref (ad 9 p2)), some (.int v2.1), some (.int v5.1), none] [] Q) Φ1 hN1 (fun v5 Φ2 hB1_2 hO2 h9 => ?_) (v2.2.1 902 p2, v2.2) h9
    have hN2 := fun h => hN1 (hO2 _ h)
    have hR2 := fun r9 h => hR1 r9 (hO2 _ h)
    have hB0_2 : ∀ (z0 : Int32) (z1 : VM), Φ2 (Sum.inr (Sum.inl (z0, z1))) → EX g (d + 1) MX0_fillCanKeep ad z1 m 5 [some (.ref (ad 0 0)), some (.ref (ad 5 p1)), some (.ref (ad 9 p2)), some (.int z0), none, none] [] Q := fun z0 z1 h => hB0_1 z0 z1 (hO2 _ h)
    have hB1_2 : ∀ (z0 : Int32) (z1 : VM), Φ2 (Sum.inl (z0, z1)) → EX g (d + 1) MX0_fillCanKeep ad z1 m 15 [some (.ref (ad 0 0)), some (.ref (ad 5 p1)), some (.ref (ad 9 p2)), some (.int v2.1), some (.int z0), none] [] Q := fun z0 z1 h => hB1_2 (z0, z1) h
    unfold b_X0_fillCanKeep_15 at h9
    refine e_iload dX0_fillCanKeep_15 rfl ?_
    refine e_if_lt (tgt := 131) dX0_fillCanKeep_17 rfl (fun hc6 => ?_) (fun hc6 => ?_)
    · replace h9 := ifT hc6 h9
      refine e_iinc (v := (v2.1 + (-1))) (L' := [some (.ref (ad 0 0)), some (.ref (ad 5 p1)), some (.ref (ad 9 p2)), some (.int (v2.1 + (-1))), some (.int v5.1), none]) dX0_fillCanKeep_131 rfl rfl (by decide) rfl ?_
      refine e_goto (tgt := 5) dX0_fillCanKeep_134 rfl ?_
      refine e_wk (L' := [some (.ref (ad 0 0)), some (.ref (ad 5 p1)), some (.ref (ad 9 p2)), some (.int (v2.1 + (-1))), none, none]) (wkC (wkC (wkC (wkC (wkN (wkN wk0)))))) ?_
      exact hB0_2 _ _ h9
    · replace h9 := ifF hc6 h9
      refine e_iconst (v := 0) dX0_fillCanKeep_20 rfl ?_
      refine e_istore (L' := [some (.ref (ad 0 0)), some (.ref (ad 5 p1)), some (.ref (ad 9 p2)), some (.int v2.1), some (.int v5.1), some (.int 0)]) dX0_fillCanKeep_21 (by decide) rfl ?_
      refine e_iload_n dX0_fillCanKeep_23 rfl rfl ?_
      refine e_aload_n dX0_fillCanKeep_24 rfl rfl ?_
      obtain ⟨k7, h9⟩ := chkP hN2 h9
      refine g_512 flX0_52 dX0_fillCanKeep_25 k7 ?_
      have hj111 : ∀ (a8 : Int32), Φ2 (j_X0_fillCanKeep_111 x p1 p2 v2 v5 a8) → EX g (d + 1) MX0_fillCanKeep ad v5.2 m 111 [some (.ref (ad 0 0)), some (.ref (ad 5 p1)), some (.ref (ad 9 p2)), some (.int v2.1), some (.int v5.1), some (.int a8)] [] Q := by
        intro a8 h9
        unfold j_X0_fillCanKeep_111 at h9
        refine e_aload_n dX0_fillCanKeep_111 rfl rfl ?_
        refine g_0 flX0_11 dX0_fillCanKeep_112 ?_
        refine e_iload_n dX0_fillCanKeep_115 rfl rfl ?_
        refine e_bipush (v := 61) dX0_fillCanKeep_116 rfl ?_
        refine e_imul dX0_fillCanKeep_118 ?_
        refine e_iload dX0_fillCanKeep_119 rfl ?_
        refine e_iadd dX0_fillCanKeep_121 ?_
        refine e_iload dX0_fillCanKeep_122 rfl ?_
        refine e_pc (pc' := 124) rfl ?_
        obtain ⟨k9, h9⟩ := chkP hN2 h9
        refine s_0 dX0_fillCanKeep_124 (inb_in k9) ?_
        refine e_iinc (v := (v5.1 + (-1))) (L' := [some (.ref (ad 0 0)), some (.ref (ad 5 p1)), some (.ref (ad 9 p2)), some (.int v2.1), some (.int (v5.1 + (-1))), some (.int a8)]) dX0_fillCanKeep_125 rfl rfl (by decide) rfl ?_
        refine e_goto (tgt := 15) dX0_fillCanKeep_128 rfl ?_
        refine e_wk (L' := [some (.ref (ad 0 0)), some (.ref (ad 5 p1)), some (.ref (ad 9 p2)), some (.int v2.1), some (.int (v5.1 + (-1))), none]) (wkC (wkC (wkC (wkC (wkC (wkN wk0)))))) ?_
        exact hB1_2 _ _ h9
      refine e_icmp_ge (tgt := 111) dX0_fillCanKeep_28 rfl (fun hc10 => ?_) (fun hc10 => ?_)
      · replace h9 := ifT hc10 h9
        exact hj111 0 h9
      · replace h9 := ifF hc10 h9
        refine e_iload dX0_fillCanKeep_31 rfl ?_
        refine e_aload_n dX0_fillCanKeep_33 rfl rfl ?_
        obtain ⟨k11, h9⟩ := chkP hN2 h9
        refine g_902 flX0_18 dX0_fillCanKeep_34 k11 ?_
        refine e_icmp_ge (tgt := 111) dX0_fillCanKeep_37 rfl (fun hc12 => ?_) (fun hc12 => ?_)
        · replace h9 := ifT hc12 h9
          exact hj111 0 h9
        · replace h9 := ifF hc12 h9
          refine e_aload_n dX0_fillCanKeep_40 rfl rfl ?_
          refine g_510 flX0_49 dX0_fillCanKeep_41 k7 ?_
          refine e_iload_n dX0_fillCanKeep_44 rfl rfl ?_
          obtain ⟨k13, h9⟩ := chkP hN2 h9
          refine l_510 dX0_fillCanKeep_45 k7 (inb_in k13) ?_
          refine e_aload_n dX0_fillCanKeep_46 rfl rfl ?_
          refine g_900 flX0_45 dX0_fillCanKeep_47 k11 ?_
          refine e_iload dX0_fillCanKeep_50 rfl ?_
          obtain ⟨k14, h9⟩ := chkP hN2 h9
          refine l_900 dX0_fillCanKeep_52 k11 (inb_in k14) ?_
          refine e_pc (pc' := 53) rfl ?_
          refine e_lcmp dX0_fillCanKeep_53 ?_
          have hj109 : ∀ (a15 : Int32), Φ2 (j_X0_fillCanKeep_109 x p1 p2 v2 v5 a15) → EX g (d + 1) MX0_fillCanKeep ad v5.2 m 109 [some (.ref (ad 0 0)), some (.ref (ad 5 p1)), some (.ref (ad 9 p2)), some (.int v2.1), some (.int v5.1), none] [.int a15] Q := by
            intro a15 h9
            unfold j_X0_fillCanKeep_109 at h9
            refine e_istore (L' := [some (.ref (ad 0 0)), some (.ref (ad 5 p1)), some (.ref (ad 9 p2)), some (.int v2.1), some (.int v5.1), some (.int a15)]) dX0_fillCanKeep_109 (by decide) rfl ?_
            exact hj111 a15 h9
          refine e_if_ne (tgt := 78) dX0_fillCanKeep_54 rfl (fun hc16 => ?_) (fun hc16 => ?_)
          · replace h9 := ifF hc16 h9
            refine e_aload_n dX0_fillCanKeep_78 rfl rfl ?_
            refine g_0 flX0_11 dX0_fillCanKeep_79 ?_
            refine e_iload_n dX0_fillCanKeep_82 rfl rfl ?_
            refine e_iconst (v := 1) dX0_fillCanKeep_83 rfl ?_
            refine e_iadd dX0_fillCanKeep_84 ?_
            refine e_bipush (v := 61) dX0_fillCanKeep_85 rfl ?_
            refine e_imul dX0_fillCanKeep_87 ?_
            refine e_iload dX0_fillCanKeep_88 rfl ?_
            refine e_pc (pc' := 90) rfl ?_
            refine e_iadd dX0_fillCanKeep_90 ?_
            obtain ⟨k17, h9⟩ := chkP hN2 h9
            refine l_0 dX0_fillCanKeep_91 (inb_in k17) ?_
            refine e_aload_n dX0_fillCanKeep_92 rfl rfl ?_
            refine g_0 flX0_11 dX0_fillCanKeep_93 ?_
            refine e_iload_n dX0_fillCanKeep_96 rfl rfl ?_
            refine e_bipush (v := 61) dX0_fillCanKeep_97 rfl ?_
            refine e_imul dX0_fillCanKeep_99 ?_
            refine e_iload dX0_fillCanKeep_100 rfl ?_
            refine e_iadd dX0_fillCanKeep_102 ?_
            refine e_pc (pc' := 103) rfl ?_
            refine e_iconst (v := 1) dX0_fillCanKeep_103 rfl ?_
            refine e_iadd dX0_fillCanKeep_104 ?_
            obtain ⟨k18, h9⟩ := chkP hN2 h9
            refine l_0 dX0_fillCanKeep_105 (inb_in k18) ?_
            refine e_mmax mmX0_55 dX0_fillCanKeep_106 (Nat.le_of_ble_eq_true rfl) ?_
            refine e_wk (L' := [some (.ref (ad 0 0)), some (.ref (ad 5 p1)), some (.ref (ad 9 p2)), some (.int v2.1), some (.int v5.1), none]) (wkC (wkC (wkC (wkC (wkC (wkN wk0)))))) ?_
            exact hj109 (if (v5.2.2.1 0 0 ((((v2.1 + 1) * 61) + v5.1).toNatClampNeg)) < (v5.2.2.1 0 0 ((((v2.1 * 61) + v5.1) + 1).toNatClampNeg)) then (v5.2.2.1 0 0 ((((v2.1 * 61) + v5.1) + 1).toNatClampNeg)) else (v5.2.2.1 0 0 ((((v2.1 + 1) * 61) + v5.1).toNatClampNeg))) h9
          · replace h9 := ifT hc16 h9
            refine e_iconst (v := 1) dX0_fillCanKeep_57 rfl ?_
            refine e_aload_n dX0_fillCanKeep_58 rfl rfl ?_
            refine g_0 flX0_11 dX0_fillCanKeep_59 ?_
            refine e_iload_n dX0_fillCanKeep_62 rfl rfl ?_
            refine e_iconst (v := 1) dX0_fillCanKeep_63 rfl ?_
            refine e_iadd dX0_fillCanKeep_64 ?_
            refine e_bipush (v := 61) dX0_fillCanKeep_65 rfl ?_
            refine e_imul dX0_fillCanKeep_67 ?_
            refine e_pc (pc' := 68) rfl ?_
            refine e_iload dX0_fillCanKeep_68 rfl ?_
            refine e_iadd dX0_fillCanKeep_70 ?_
            refine e_iconst (v := 1) dX0_fillCanKeep_71 rfl ?_
            refine e_iadd dX0_fillCanKeep_72 ?_
            obtain ⟨k19, h9⟩ := chkP hN2 h9
            refine l_0 dX0_fillCanKeep_73 (inb_in k19) ?_
            refine e_iadd dX0_fillCanKeep_74 ?_
            refine e_goto (tgt := 109) dX0_fillCanKeep_75 rfl ?_
            refine e_wk (L' := [some (.ref (ad 0 0)), some (.ref (ad 5 p1)), some (.ref (ad 9 p2)), some (.int v2.1), some (.int v5.1), none]) (wkC (wkC (wkC (wkC (wkC (wkN wk0)))))) ?_
            exact hj109 (1 + (v5.2.2.1 0 0 (((((v2.1 + 1) * 61) + v5.1) + 1).toNatClampNeg))) h9
noncomputable def b_X0_keepHands_19 (x : VM) (p1 : Nat) (p2 : Nat) (v3 : Int32 × Int32 × Int32 × VM) : (Int32 × Int32 × Int32 × VM) ⊕ (Option (VM)) := if ((x.1 512 p1) + (x.1 902 p2)) ≤ v3.2.2.1 then Sum.inr (some v3.2.2.2) else if p1 < v3.2.2.2.2.2.2 5 then if (v3.2.2.2.1 512 p1) ≤ v3.1 then Sum.inr (some v3.2.2.2) else if p2 < 8 then if (v3.2.2.2.1 902 p2) ≤ v3.2.1 then Sum.inr (some v3.2.2.2) else if inb v3.1 60 = true then if inb v3.2.1 60 = true then if (lg_cmp (v3.2.2.2.2.2.1 510 p1 v3.1.toNatClampNeg) (v3.2.2.2.2.2.1 900 p2 v3.2.1.toNatClampNeg)) = 0 then if inb v3.1 60 = true then if inb v3.2.1 60 = true then Sum.inl (v3.1 + 1, v3.2.1 + 1, v3.2.2.1 + 1, setA v3.2.2.2 1 0 (upd (v3.2.2.2.2.1 1 0) v3.2.1.toNatClampNeg (v3.2.2.2.2.1 511 p1 v3.1.toNatClampNeg))) else Sum.inr none else Sum.inr none else if inb (((v3.1 + 1) * 61) + v3.2.1) 3721 = true then if inb ((v3.1 * 61) + v3.2.1) 3721 = true then if (v3.2.2.2.2.1 0 0 ((((v3.1 + 1) * 61) + v3.2.1).toNatClampNeg)) = (v3.2.2.2.2.1 0 0 (((v3.1 * 61) + v3.2.1).toNatClampNeg)) then Sum.inl (v3.1 + 1, v3.2.1, v3.2.2.1 + 1, v3.2.2.2) else Sum.inl (v3.1, v3.2.1 + 1, v3.2.2.1 + 1, v3.2.2.2) else Sum.inr none else Sum.inr none else Sum.inr none else Sum.inr none else Sum.inr none else Sum.inr none
noncomputable def f_X0_keepHands (x : VM) (p1 : Nat) (p2 : Nat) : Option (VM) := if p1 < x.2.2.2 5 then if p2 < 8 then loopF none (b_X0_keepHands_19 x p1 p2) (0, 0, 0, x) else none else none
theorem c_X0_keepHands {g : GG} {d : Nat} {ad : AD} {x m : VM} {Q : Option Value → VM → VM → Prop} (p1 : Nat) (p2 : Nat) {w9 : VM} (hf : f_X0_keepHands x p1 p2 = some w9) (hq : Q none w9 m) : CX g d MX0_keepHands [.ref (ad 0 0), .ref (ad 5 p1), .ref (ad 9 p2)] ad x m Q := by
  refine CX.to (Lv := [some (.ref (ad 0 0)), some (.ref (ad 5 p1)), some (.ref (ad 9 p2)), none, none, none, none]) okX0_keepHands (Nat.le_of_ble_eq_true rfl) rfl ?_
  obtain ⟨Φ0, hΦ⟩ : ∃ Φ : Option (VM) → Prop, Φ = fun o => o = some w9 := ⟨_, rfl⟩
  have hN0 : Φ0 none → False := by rw [hΦ]; intro h; cases h
  have hR0 : ∀ z9, Φ0 (some z9) → Q none z9 m := by rw [hΦ]; intro z9 h; cases h; exact hq
  have h9 : Φ0 (f_X0_keepHands x p1 p2) := by rw [hΦ]; exact hf
  clear hf hq hΦ
  unfold f_X0_keepHands at h9
  refine e_iconst (v := 0) dX0_keepHands_0 rfl ?_
  refine e_istore_n (L' := [some (.ref (ad 0 0)), some (.ref (ad 5 p1)), some (.ref (ad 9 p2)), some (.int 0), none, none, none]) dX0_keepHands_1 rfl (by decide) rfl ?_
  refine e_iconst (v := 0) dX0_keepHands_2 rfl ?_
  refine e_istore (L' := [some (.ref (ad 0 0)), some (.ref (ad 5 p1)), some (.ref (ad 9 p2)), some (.int 0), some (.int 0), none, none]) dX0_keepHands_3 (by decide) rfl ?_
  refine e_aload_n dX0_keepHands_5 rfl rfl ?_
  obtain ⟨k1, h9⟩ := chkP hN0 h9
  refine g_512 flX0_52 dX0_keepHands_6 k1 ?_
  refine e_aload_n dX0_keepHands_9 rfl rfl ?_
  obtain ⟨k2, h9⟩ := chkP hN0 h9
  refine g_902 flX0_18 dX0_keepHands_10 k2 ?_
  refine e_pc (pc' := 13) rfl ?_
  refine e_iadd dX0_keepHands_13 ?_
  refine e_istore (L' := [some (.ref (ad 0 0)), some (.ref (ad 5 p1)), some (.ref (ad 9 p2)), some (.int 0), some (.int 0), some (.int ((x.1 512 p1) + (x.1 902 p2))), none]) dX0_keepHands_14 (by decide) rfl ?_
  refine e_iconst (v := 0) dX0_keepHands_16 rfl ?_
  refine e_istore (L' := [some (.ref (ad 0 0)), some (.ref (ad 5 p1)), some (.ref (ad 9 p2)), some (.int 0), some (.int 0), some (.int ((x.1 512 p1) + (x.1 902 p2))), some (.int 0)]) dX0_keepHands_17 (by decide) rfl ?_
  refine loop_gen (b_X0_keepHands_19 x p1 p2) none (fun v3 => EX g d MX0_keepHands ad v3.2.2.2 m 19 [some (.ref (ad 0 0)), some (.ref (ad 5 p1)), some (.ref (ad 9 p2)), some (.int v3.1), some (.int v3.2.1), some (.int ((x.1 512 p1) + (x.1 902 p2))), some (.int v3.2.2.1)] [] Q) Φ0 hN0 (fun v3 Φ1 hB0_1 hO1 h9 => ?_) (0, 0, 0, x) h9
  have hN1 := fun h => hN0 (hO1 _ h)
  have hR1 := fun r9 h => hR0 r9 (hO1 _ h)
  have hB0_1 : ∀ (z0 : Int32) (z1 : Int32) (z2 : Int32) (z3 : VM), Φ1 (Sum.inl (z0, z1, z2, z3)) → EX g d MX0_keepHands ad z3 m 19 [some (.ref (ad 0 0)), some (.ref (ad 5 p1)), some (.ref (ad 9 p2)), some (.int z0), some (.int z1), some (.int ((x.1 512 p1) + (x.1 902 p2))), some (.int z2)] [] Q := fun z0 z1 z2 z3 h => hB0_1 (z0, z1, z2, z3) h
  unfold b_X0_keepHands_19 at h9
  refine e_iload dX0_keepHands_19 rfl ?_
  refine e_iload dX0_keepHands_21 rfl ?_
  refine e_icmp_ge (tgt := 126) dX0_keepHands_23 rfl (fun hc4 => ?_) (fun hc4 => ?_)
  · replace h9 := ifT hc4 h9
    exact x_vret dX0_keepHands_126 rfl (hR1 _ h9)
  · replace h9 := ifF hc4 h9
    refine e_iload_n dX0_keepHands_26 rfl rfl ?_
    refine e_aload_n dX0_keepHands_27 rfl rfl ?_
    obtain ⟨k5, h9⟩ := chkP hN1 h9
    refine g_512 flX0_52 dX0_keepHands_28 k5 ?_
    refine e_icmp_ge (tgt := 126) dX0_keepHands_31 rfl (fun hc6 => ?_) (fun hc6 => ?_)
    · replace h9 := ifT hc6 h9
      exact x_vret dX0_keepHands_126 rfl (hR1 _ h9)
    · replace h9 := ifF hc6 h9
      refine e_iload dX0_keepHands_34 rfl ?_
      refine e_aload_n dX0_keepHands_36 rfl rfl ?_
      obtain ⟨k7, h9⟩ := chkP hN1 h9
      refine g_902 flX0_18 dX0_keepHands_37 k7 ?_
      refine e_icmp_ge (tgt := 126) dX0_keepHands_40 rfl (fun hc8 => ?_) (fun hc8 => ?_)
      · replace h9 := ifT hc8 h9
        exact x_vret dX0_keepHands_126 rfl (hR1 _ h9)
      · replace h9 := ifF hc8 h9
        refine e_aload_n dX0_keepHands_43 rfl rfl ?_
        refine g_510 flX0_49 dX0_keepHands_44 k5 ?_
        refine e_iload_n dX0_keepHands_47 rfl rfl ?_
        obtain ⟨k9, h9⟩ := chkP hN1 h9
        refine l_510 dX0_keepHands_48 k5 (inb_in k9) ?_
        refine e_aload_n dX0_keepHands_49 rfl rfl ?_
        refine g_900 flX0_45 dX0_keepHands_50 k7 ?_
        refine e_iload dX0_keepHands_53 rfl ?_
        obtain ⟨k10, h9⟩ := chkP hN1 h9
        refine l_900 dX0_keepHands_55 k7 (inb_in k10) ?_
        refine e_pc (pc' := 56) rfl ?_
        refine e_lcmp dX0_keepHands_56 ?_
        refine e_if_ne (tgt := 82) dX0_keepHands_57 rfl (fun hc11 => ?_) (fun hc11 => ?_)
        · replace h9 := ifF hc11 h9
          refine e_aload_n dX0_keepHands_82 rfl rfl ?_
          refine g_0 flX0_11 dX0_keepHands_83 ?_
          refine e_iload_n dX0_keepHands_86 rfl rfl ?_
          refine e_iconst (v := 1) dX0_keepHands_87 rfl ?_
          refine e_iadd dX0_keepHands_88 ?_
          refine e_bipush (v := 61) dX0_keepHands_89 rfl ?_
          refine e_imul dX0_keepHands_91 ?_
          refine e_iload dX0_keepHands_92 rfl ?_
          refine e_pc (pc' := 94) rfl ?_
          refine e_iadd dX0_keepHands_94 ?_
          obtain ⟨k12, h9⟩ := chkP hN1 h9
          refine l_0 dX0_keepHands_95 (inb_in k12) ?_
          refine e_aload_n dX0_keepHands_96 rfl rfl ?_
          refine g_0 flX0_11 dX0_keepHands_97 ?_
          refine e_iload_n dX0_keepHands_100 rfl rfl ?_
          refine e_bipush (v := 61) dX0_keepHands_101 rfl ?_
          refine e_imul dX0_keepHands_103 ?_
          refine e_iload dX0_keepHands_104 rfl ?_
          refine e_iadd dX0_keepHands_106 ?_
          refine e_pc (pc' := 107) rfl ?_
          obtain ⟨k13, h9⟩ := chkP hN1 h9
          refine l_0 dX0_keepHands_107 (inb_in k13) ?_
          refine e_icmp_ne (tgt := 117) dX0_keepHands_108 rfl (fun hc14 => ?_) (fun hc14 => ?_)
          · replace h9 := ifF hc14 h9
            refine e_iinc (v := (v3.2.1 + 1)) (L' := [some (.ref (ad 0 0)), some (.ref (ad 5 p1)), some (.ref (ad 9 p2)), some (.int v3.1), some (.int (v3.2.1 + 1)), some (.int ((x.1 512 p1) + (x.1 902 p2))), some (.int v3.2.2.1)]) dX0_keepHands_117 rfl rfl (by decide) rfl ?_
            refine e_iinc (v := (v3.2.2.1 + 1)) (L' := [some (.ref (ad 0 0)), some (.ref (ad 5 p1)), some (.ref (ad 9 p2)), some (.int v3.1), some (.int (v3.2.1 + 1)), some (.int ((x.1 512 p1) + (x.1 902 p2))), some (.int (v3.2.2.1 + 1))]) dX0_keepHands_120 rfl rfl (by decide) rfl ?_
            refine e_goto (tgt := 19) dX0_keepHands_123 rfl ?_
            exact hB0_1 _ _ _ _ h9
          · replace h9 := ifT hc14 h9
            refine e_iinc (v := (v3.1 + 1)) (L' := [some (.ref (ad 0 0)), some (.ref (ad 5 p1)), some (.ref (ad 9 p2)), some (.int (v3.1 + 1)), some (.int v3.2.1), some (.int ((x.1 512 p1) + (x.1 902 p2))), some (.int v3.2.2.1)]) dX0_keepHands_111 rfl rfl (by decide) rfl ?_
            refine e_goto (tgt := 120) dX0_keepHands_114 rfl ?_
            refine e_iinc (v := (v3.2.2.1 + 1)) (L' := [some (.ref (ad 0 0)), some (.ref (ad 5 p1)), some (.ref (ad 9 p2)), some (.int (v3.1 + 1)), some (.int v3.2.1), some (.int ((x.1 512 p1) + (x.1 902 p2))), some (.int (v3.2.2.1 + 1))]) dX0_keepHands_120 rfl rfl (by decide) rfl ?_
            refine e_goto (tgt := 19) dX0_keepHands_123 rfl ?_
            exact hB0_1 _ _ _ _ h9
        · replace h9 := ifT hc11 h9
          refine e_aload_n dX0_keepHands_60 rfl rfl ?_
          refine g_1 flX0_15 dX0_keepHands_61 ?_
          refine e_iload dX0_keepHands_64 rfl ?_
          refine e_aload_n dX0_keepHands_66 rfl rfl ?_
          refine g_511 flX0_36 dX0_keepHands_67 k5 ?_
          refine e_iload_n dX0_keepHands_70 rfl rfl ?_
          obtain ⟨k15, h9⟩ := chkP hN1 h9
          refine l_511 dX0_keepHands_71 k5 (inb_in k15) ?_
          obtain ⟨k16, h9⟩ := chkP hN1 h9
          refine s_1 dX0_keepHands_72 (inb_in k16) ?_
          refine e_pc (pc' := 73) rfl ?_
          refine e_iinc (v := (v3.1 + 1)) (L' := [some (.ref (ad 0 0)), some (.ref (ad 5 p1)), some (.ref (ad 9 p2)), some (.int (v3.1 + 1)), some (.int v3.2.1), some (.int ((x.1 512 p1) + (x.1 902 p2))), some (.int v3.2.2.1)]) dX0_keepHands_73 rfl rfl (by decide) rfl ?_
          refine e_iinc (v := (v3.2.1 + 1)) (L' := [some (.ref (ad 0 0)), some (.ref (ad 5 p1)), some (.ref (ad 9 p2)), some (.int (v3.1 + 1)), some (.int (v3.2.1 + 1)), some (.int ((x.1 512 p1) + (x.1 902 p2))), some (.int v3.2.2.1)]) dX0_keepHands_76 rfl rfl (by decide) rfl ?_
          refine e_goto (tgt := 120) dX0_keepHands_79 rfl ?_
          refine e_iinc (v := (v3.2.2.1 + 1)) (L' := [some (.ref (ad 0 0)), some (.ref (ad 5 p1)), some (.ref (ad 9 p2)), some (.int (v3.1 + 1)), some (.int (v3.2.1 + 1)), some (.int ((x.1 512 p1) + (x.1 902 p2))), some (.int (v3.2.2.1 + 1))]) dX0_keepHands_120 rfl rfl (by decide) rfl ?_
          refine e_goto (tgt := 19) dX0_keepHands_123 rfl ?_
          exact hB0_1 _ _ _ _ h9
noncomputable def j_X0_add_56 (x : VM) (p1 : Nat) (p2 : Int32) (p3 : Nat) (v1 : Int32 × VM) (a5 : Int32) (w6 : VM) : (Int32 × VM) ⊕ (Option (Int32 × VM)) := if p1 < w6.2.2.2 5 then if p3 < 8 then if spn 0 (w6.1 902 p3) 60 = true then if spn 0 (w6.1 902 p3) 60 = true then if spn 0 ((setA w6 511 p1 (va_cpy (w6.2.1 1 0) (w6.2.1 511 p1) (0 : Int32).toNatClampNeg (0 : Int32).toNatClampNeg (w6.1 902 p3).toNatClampNeg)).1 902 p3) 60 = true then if spn 0 ((setA w6 511 p1 (va_cpy (w6.2.1 1 0) (w6.2.1 511 p1) (0 : Int32).toNatClampNeg (0 : Int32).toNatClampNeg (w6.1 902 p3).toNatClampNeg)).1 902 p3) 60 = true then Sum.inr (some (a5, setI (setI (setJ (setA w6 511 p1 (va_cpy (w6.2.1 1 0) (w6.2.1 511 p1) (0 : Int32).toNatClampNeg (0 : Int32).toNatClampNeg (w6.1 902 p3).toNatClampNeg)) 510 p1 (va_cpy ((setA w6 511 p1 (va_cpy (w6.2.1 1 0) (w6.2.1 511 p1) (0 : Int32).toNatClampNeg (0 : Int32).toNatClampNeg (w6.1 902 p3).toNatClampNeg)).2.2.1 900 p3) ((setA w6 511 p1 (va_cpy (w6.2.1 1 0) (w6.2.1 511 p1) (0 : Int32).toNatClampNeg (0 : Int32).toNatClampNeg (w6.1 902 p3).toNatClampNeg)).2.2.1 510 p1) (0 : Int32).toNatClampNeg (0 : Int32).toNatClampNeg ((setA w6 511 p1 (va_cpy (w6.2.1 1 0) (w6.2.1 511 p1) (0 : Int32).toNatClampNeg (0 : Int32).toNatClampNeg (w6.1 902 p3).toNatClampNeg)).1 902 p3).toNatClampNeg)) 512 p1 ((setJ (setA w6 511 p1 (va_cpy (w6.2.1 1 0) (w6.2.1 511 p1) (0 : Int32).toNatClampNeg (0 : Int32).toNatClampNeg (w6.1 902 p3).toNatClampNeg)) 510 p1 (va_cpy ((setA w6 511 p1 (va_cpy (w6.2.1 1 0) (w6.2.1 511 p1) (0 : Int32).toNatClampNeg (0 : Int32).toNatClampNeg (w6.1 902 p3).toNatClampNeg)).2.2.1 900 p3) ((setA w6 511 p1 (va_cpy (w6.2.1 1 0) (w6.2.1 511 p1) (0 : Int32).toNatClampNeg (0 : Int32).toNatClampNeg (w6.1 902 p3).toNatClampNeg)).2.2.1 510 p1) (0 : Int32).toNatClampNeg (0 : Int32).toNatClampNeg ((setA w6 511 p1 (va_cpy (w6.2.1 1 0) (w6.2.1 511 p1) (0 : Int32).toNatClampNeg (0 : Int32).toNatClampNeg (w6.1 902 p3).toNatClampNeg)).1 902 p3).toNatClampNeg)).1 902 p3)) 509 p1 (((setI (setJ (setA w6 511 p1 (va_cpy (w6.2.1 1 0) (w6.2.1 511 p1) (0 : Int32).toNatClampNeg (0 : Int32).toNatClampNeg (w6.1 902 p3).toNatClampNeg)) 510 p1 (va_cpy ((setA w6 511 p1 (va_cpy (w6.2.1 1 0) (w6.2.1 511 p1) (0 : Int32).toNatClampNeg (0 : Int32).toNatClampNeg (w6.1 902 p3).toNatClampNeg)).2.2.1 900 p3) ((setA w6 511 p1 (va_cpy (w6.2.1 1 0) (w6.2.1 511 p1) (0 : Int32).toNatClampNeg (0 : Int32).toNatClampNeg (w6.1 902 p3).toNatClampNeg)).2.2.1 510 p1) (0 : Int32).toNatClampNeg (0 : Int32).toNatClampNeg ((setA w6 511 p1 (va_cpy (w6.2.1 1 0) (w6.2.1 511 p1) (0 : Int32).toNatClampNeg (0 : Int32).toNatClampNeg (w6.1 902 p3).toNatClampNeg)).1 902 p3).toNatClampNeg)) 512 p1 ((setJ (setA w6 511 p1 (va_cpy (w6.2.1 1 0) (w6.2.1 511 p1) (0 : Int32).toNatClampNeg (0 : Int32).toNatClampNeg (w6.1 902 p3).toNatClampNeg)) 510 p1 (va_cpy ((setA w6 511 p1 (va_cpy (w6.2.1 1 0) (w6.2.1 511 p1) (0 : Int32).toNatClampNeg (0 : Int32).toNatClampNeg (w6.1 902 p3).toNatClampNeg)).2.2.1 900 p3) ((setA w6 511 p1 (va_cpy (w6.2.1 1 0) (w6.2.1 511 p1) (0 : Int32).toNatClampNeg (0 : Int32).toNatClampNeg (w6.1 902 p3).toNatClampNeg)).2.2.1 510 p1) (0 : Int32).toNatClampNeg (0 : Int32).toNatClampNeg ((setA w6 511 p1 (va_cpy (w6.2.1 1 0) (w6.2.1 511 p1) (0 : Int32).toNatClampNeg (0 : Int32).toNatClampNeg (w6.1 902 p3).toNatClampNeg)).1 902 p3).toNatClampNeg)).1 902 p3)).1 509 p1) + 1))) else Sum.inr none else Sum.inr none else Sum.inr none else Sum.inr none else Sum.inr none else Sum.inr none
noncomputable def b_X0_add_6 (x : VM) (p1 : Nat) (p2 : Int32) (p3 : Nat) (v1 : Int32 × VM) : (Int32 × VM) ⊕ (Option (Int32 × VM)) := if p3 < 8 then if (v1.2.1 902 p3) ≤ v1.1 then if p1 < v1.2.2.2.2 5 then if (v1.2.1 509 p1) ≤ 0 then j_X0_add_56 x p1 p2 p3 v1 0 v1.2 else (f_X0_fillCanKeep v1.2 p1 p3).elim (Sum.inr none) (fun r14 => (f_X0_keepHands r14 p1 p3).elim (Sum.inr none) (fun r16 => j_X0_add_56 x p1 p2 p3 v1 (r16.2.1 0 0 ((0 : Int32).toNatClampNeg)) r16)) else Sum.inr none else if inb v1.1 60 = true then Sum.inl (v1.1 + 1, setA v1.2 1 0 (upd (v1.2.2.1 1 0) v1.1.toNatClampNeg p2)) else Sum.inr none else Sum.inr none
noncomputable def f_X0_add (x : VM) (p1 : Nat) (p2 : Int32) (p3 : Nat) : Option (Int32 × VM) := loopF none (b_X0_add_6 x p1 p2 p3) (0, x)
theorem c_X0_add {g : GG} {d : Nat} {ad : AD} {x m : VM} {Q : Option Value → VM → VM → Prop} (p1 : Nat) (p2 : Int32) (p3 : Nat) {r9 : Int32} {w9 : VM} (hf : f_X0_add x p1 p2 p3 = some (r9, w9)) (hq : Q (some (.int r9)) w9 m) : CX g (d + 2) MX0_add [.ref (ad 0 0), .ref (ad 5 p1), .int p2, .ref (ad 9 p3)] ad x m Q := by
  refine CX.to (Lv := [some (.ref (ad 0 0)), some (.ref (ad 5 p1)), some (.int p2), some (.ref (ad 9 p3)), none, none]) okX0_add (Nat.le_of_ble_eq_true rfl) rfl ?_
  obtain ⟨Φ0, hΦ⟩ : ∃ Φ : Option (Int32 × VM) → Prop, Φ = fun o => o = some (r9, w9) := ⟨_, rfl⟩
  have hN0 : Φ0 none → False := by rw [hΦ]; intro h; cases h
  have hR0 : ∀ z9 y9, Φ0 (some (z9, y9)) → Q (some (.int z9)) y9 m := by rw [hΦ]; intro z9 y9 h; cases h; exact hq
  have h9 : Φ0 (f_X0_add x p1 p2 p3) := by rw [hΦ]; exact hf
  clear hf hq hΦ
  unfold f_X0_add at h9
  refine e_iconst (v := 0) dX0_add_0 rfl ?_
  refine e_istore (L' := [some (.ref (ad 0 0)), some (.ref (ad 5 p1)), some (.int p2), some (.ref (ad 9 p3)), some (.int 0), none]) dX0_add_1 (by decide) rfl ?_
  refine e_iconst (v := 0) dX0_add_3 rfl ?_
  refine e_istore (L' := [some (.ref (ad 0 0)), some (.ref (ad 5 p1)), some (.int p2), some (.ref (ad 9 p3)), some (.int 0), some (.int 0)]) dX0_add_4 (by decide) rfl ?_
  refine loop_gen (b_X0_add_6 x p1 p2 p3) none (fun v1 => EX g (d + 2) MX0_add ad v1.2 m 6 [some (.ref (ad 0 0)), some (.ref (ad 5 p1)), some (.int p2), some (.ref (ad 9 p3)), some (.int 0), some (.int v1.1)] [] Q) Φ0 hN0 (fun v1 Φ1 hB0_1 hO1 h9 => ?_) (0, x) h9
  have hN1 := fun h => hN0 (hO1 _ h)
  have hR1 := fun r9 x9 h => hR0 r9 x9 (hO1 _ h)
  have hB0_1 : ∀ (z0 : Int32) (z1 : VM), Φ1 (Sum.inl (z0, z1)) → EX g (d + 2) MX0_add ad z1 m 6 [some (.ref (ad 0 0)), some (.ref (ad 5 p1)), some (.int p2), some (.ref (ad 9 p3)), some (.int 0), some (.int z0)] [] Q := fun z0 z1 h => hB0_1 (z0, z1) h
  unfold b_X0_add_6 at h9
  refine e_iload dX0_add_6 rfl ?_
  refine e_aload_n dX0_add_8 rfl rfl ?_
  obtain ⟨k2, h9⟩ := chkP hN1 h9
  refine g_902 flX0_18 dX0_add_9 k2 ?_
  refine e_icmp_ge (tgt := 29) dX0_add_12 rfl (fun hc3 => ?_) (fun hc3 => ?_)
  · replace h9 := ifT hc3 h9
    refine e_aload_n dX0_add_29 rfl rfl ?_
    obtain ⟨k4, h9⟩ := chkP hN1 h9
    refine g_509 flX0_24 dX0_add_30 k4 ?_
    have hj56 : ∀ (a5 : Int32) (w6 : VM), Φ1 (j_X0_add_56 x p1 p2 p3 v1 a5 w6) → EX g (d + 2) MX0_add ad w6 m 56 [some (.ref (ad 0 0)), some (.ref (ad 5 p1)), none, some (.ref (ad 9 p3)), some (.int a5), none] [] Q := by
      intro a5 w6 h9
      unfold j_X0_add_56 at h9
      refine e_aload_n dX0_add_56 rfl rfl ?_
      refine g_1 flX0_15 dX0_add_57 ?_
      refine e_iconst (v := 0) dX0_add_60 rfl ?_
      refine e_aload_n dX0_add_61 rfl rfl ?_
      obtain ⟨k7, h9⟩ := chkP hN1 h9
      refine g_511 flX0_36 dX0_add_62 k7 ?_
      refine e_iconst (v := 0) dX0_add_65 rfl ?_
      refine e_aload_n dX0_add_66 rfl rfl ?_
      obtain ⟨k8, h9⟩ := chkP hN1 h9
      refine g_902 flX0_18 dX0_add_67 k8 ?_
      refine e_pc (pc' := 70) rfl ?_
      obtain ⟨k9, h9⟩ := chkP hN1 h9
      obtain ⟨k10, h9⟩ := chkP hN1 h9
      refine x_cpi (c := 5) (k := 11) (c0 := 0) (k0 := 1) (by decide) (by decide) rfl rfl rfl rfl rfl rfl rfl rfl acX0_39 dX0_add_70 (Nat.le_of_ble_eq_true rfl) k7 rfl (spn_all k9).1 (spn_all k10).1 (spn_all k9).2.1 (spn_all k9).2.2 (spn_all k10).2.2 ?_
      refine e_aload_n dX0_add_73 rfl rfl ?_
      refine g_900 flX0_45 dX0_add_74 k8 ?_
      refine e_iconst (v := 0) dX0_add_77 rfl ?_
      refine e_aload_n dX0_add_78 rfl rfl ?_
      refine g_510 flX0_49 dX0_add_79 k7 ?_
      refine e_iconst (v := 0) dX0_add_82 rfl ?_
      refine e_aload_n dX0_add_83 rfl rfl ?_
      refine g_902 flX0_18 dX0_add_84 k8 ?_
      refine e_pc (pc' := 87) rfl ?_
      obtain ⟨k11, h9⟩ := chkP hN1 h9
      obtain ⟨k12, h9⟩ := chkP hN1 h9
      refine x_cpl (c := 5) (k := 10) (c0 := 9) (k0 := 0) (by decide) (by decide) rfl rfl rfl rfl rfl rfl rfl rfl acX0_39 dX0_add_87 (Nat.le_of_ble_eq_true rfl) k7 k8 (spn_all k11).1 (spn_all k12).1 (spn_all k11).2.1 (spn_all k11).2.2 (spn_all k12).2.2 ?_
      refine e_aload_n dX0_add_90 rfl rfl ?_
      refine e_aload_n dX0_add_91 rfl rfl ?_
      refine g_902 flX0_18 dX0_add_92 k8 ?_
      refine p_512 flX0_52 dX0_add_95 k7 ?_
      refine e_aload_n dX0_add_98 rfl rfl ?_
      refine e_dup dX0_add_99 rfl ?_
      refine g_509 flX0_24 dX0_add_100 k7 ?_
      refine e_iconst (v := 1) dX0_add_103 rfl ?_
      refine e_pc (pc' := 104) rfl ?_
      refine e_iadd dX0_add_104 ?_
      refine p_509 flX0_24 dX0_add_105 k7 ?_
      refine e_iload dX0_add_108 rfl ?_
      exact x_iret dX0_add_110 rfl (hR1 _ _ h9)
    refine e_if_le (tgt := 56) dX0_add_33 rfl (fun hc13 => ?_) (fun hc13 => ?_)
    · replace h9 := ifT hc13 h9
      refine e_wk (L' := [some (.ref (ad 0 0)), some (.ref (ad 5 p1)), none, some (.ref (ad 9 p3)), some (.int 0), none]) (wkC (wkC (wkN (wkC (wkC (wkN wk0)))))) ?_
      exact hj56 0 v1.2 h9
    · replace h9 := ifF hc13 h9
      refine e_aload_n dX0_add_36 rfl rfl ?_
      refine e_aload_n dX0_add_37 rfl rfl ?_
      refine e_aload_n dX0_add_38 rfl rfl ?_
      obtain ⟨r14, hr14, h9⟩ := elimP hN1 h9
      refine x_callVv (c := 0) (As := [.ref (ad 5 p1), .ref (ad 9 p3)]) (rest := []) okX0_fillCanKeep lkX0_29 rfl (by decide) rfl dX0_add_39 rfl rfl (Nat.le_of_ble_eq_true rfl) rfl (c_X0_fillCanKeep p1 p3 hr14 (CV.mk ?_))
      refine e_aload_n dX0_add_42 rfl rfl ?_
      refine e_aload_n dX0_add_43 rfl rfl ?_
      refine e_aload_n dX0_add_44 rfl rfl ?_
      obtain ⟨r16, hr16, h9⟩ := elimP hN1 h9
      refine x_callVv (c := 0) (As := [.ref (ad 5 p1), .ref (ad 9 p3)]) (rest := []) okX0_keepHands lkX0_33 rfl (by decide) rfl dX0_add_45 rfl rfl (Nat.le_of_ble_eq_true rfl) rfl (c_X0_keepHands p1 p3 hr16 (CV.mk ?_))
      refine e_pc (pc' := 48) rfl ?_
      refine e_aload_n dX0_add_48 rfl rfl ?_
      refine g_0 flX0_11 dX0_add_49 ?_
      refine e_iconst (v := 0) dX0_add_52 rfl ?_
      refine l_0 dX0_add_53 (inb_in (by decide)) ?_
      refine e_istore (L' := [some (.ref (ad 0 0)), some (.ref (ad 5 p1)), some (.int p2), some (.ref (ad 9 p3)), some (.int (r16.2.1 0 0 ((0 : Int32).toNatClampNeg))), some (.int v1.1)]) dX0_add_54 (by decide) rfl ?_
      refine e_wk (L' := [some (.ref (ad 0 0)), some (.ref (ad 5 p1)), none, some (.ref (ad 9 p3)), some (.int (r16.2.1 0 0 ((0 : Int32).toNatClampNeg))), none]) (wkC (wkC (wkN (wkC (wkC (wkN wk0)))))) ?_
      exact hj56 (r16.2.1 0 0 ((0 : Int32).toNatClampNeg)) r16 h9
  · replace h9 := ifF hc3 h9
    refine e_aload_n dX0_add_15 rfl rfl ?_
    refine g_1 flX0_15 dX0_add_16 ?_
    refine e_iload dX0_add_19 rfl ?_
    refine e_iload_n dX0_add_21 rfl rfl ?_
    obtain ⟨k18, h9⟩ := chkP hN1 h9
    refine s_1 dX0_add_22 (inb_in k18) ?_
    refine e_iinc (v := (v1.1 + 1)) (L' := [some (.ref (ad 0 0)), some (.ref (ad 5 p1)), some (.int p2), some (.ref (ad 9 p3)), some (.int 0), some (.int (v1.1 + 1))]) dX0_add_23 rfl rfl (by decide) rfl ?_
    refine e_goto (tgt := 6) dX0_add_26 rfl ?_
    exact hB0_1 _ _ h9
noncomputable def b_X1_showsNear_19 (x : VM) (i : Nat) (p1 : Int32) (p2 : Int32) (p3 : Int32) (v1 : Int32) : (Int32) ⊕ (Option (Int32)) := if (if (p2 + p3) < (39 : Int32) then (p2 + p3) else (39 : Int32)) < v1 then Sum.inr (some 0) else if i < x.2.2.2 1 then if inb v1 40 = true then if (x.2.1 103 i v1.toNatClampNeg) = p1 then Sum.inr (some 1) else Sum.inl (v1 + 1) else Sum.inr none else Sum.inr none
noncomputable def f_X1_showsNear (x : VM) (i : Nat) (p1 : Int32) (p2 : Int32) (p3 : Int32) : Option (Int32) := loopF none (b_X1_showsNear_19 x i p1 p2 p3) (if (0 : Int32) < (p2 - p3) then (p2 - p3) else (0 : Int32))
theorem c_X1_showsNear {g : GG} {d : Nat} {ad : AD} {x m : VM} {Q : Option Value → VM → VM → Prop} (i : Nat) (p1 : Int32) (p2 : Int32) (p3 : Int32) {r9 : Int32} (hf : f_X1_showsNear x i p1 p2 p3 = some r9) (hq : Q (some (.int r9)) x m) : CX g (d + 1) MX1_showsNear [.ref (ad 1 i), .int p1, .int p2, .int p3] ad x m Q := by
  refine CX.to (Lv := [some (.ref (ad 1 i)), some (.int p1), some (.int p2), some (.int p3), none, none]) okX1_showsNear (Nat.le_of_ble_eq_true rfl) rfl ?_
  obtain ⟨Φ0, hΦ⟩ : ∃ Φ : Option (Int32) → Prop, Φ = fun o => o = some r9 := ⟨_, rfl⟩
  have hN0 : Φ0 none → False := by rw [hΦ]; intro h; cases h
  have hR0 : ∀ z9, Φ0 (some z9) → Q (some (.int z9)) x m := by rw [hΦ]; intro z9 h; cases h; exact hq
  have h9 : Φ0 (f_X1_showsNear x i p1 p2 p3) := by rw [hΦ]; exact hf
  clear hf hq hΦ
  unfold f_X1_showsNear at h9
  refine e_bipush (v := 39) dX1_showsNear_0 rfl ?_
  refine e_iload_n dX1_showsNear_2 rfl rfl ?_
  refine e_iload_n dX1_showsNear_3 rfl rfl ?_
  refine e_iadd dX1_showsNear_4 ?_
  refine e_mmin mmX1_32 dX1_showsNear_5 (Nat.le_of_ble_eq_true rfl) ?_
  refine e_istore (L' := [some (.ref (ad 1 i)), some (.int p1), some (.int p2), some (.int p3), some (.int (if (p2 + p3) < (39 : Int32) then (p2 + p3) else (39 : Int32))), none]) dX1_showsNear_8 (by decide) rfl ?_
  refine e_iconst (v := 0) dX1_showsNear_10 rfl ?_
  refine e_iload_n dX1_showsNear_11 rfl rfl ?_
  refine e_pc (pc' := 12) rfl ?_
  refine e_iload_n dX1_showsNear_12 rfl rfl ?_
  refine e_isub dX1_showsNear_13 ?_
  refine e_mmax mmX1_38 dX1_showsNear_14 (Nat.le_of_ble_eq_true rfl) ?_
  refine e_istore (L' := [some (.ref (ad 1 i)), some (.int p1), some (.int p2), some (.int p3), some (.int (if (p2 + p3) < (39 : Int32) then (p2 + p3) else (39 : Int32))), some (.int (if (0 : Int32) < (p2 - p3) then (p2 - p3) else (0 : Int32)))]) dX1_showsNear_17 (by decide) rfl ?_
  refine e_wk (L' := [some (.ref (ad 1 i)), some (.int p1), none, none, some (.int (if (p2 + p3) < (39 : Int32) then (p2 + p3) else (39 : Int32))), some (.int (if (0 : Int32) < (p2 - p3) then (p2 - p3) else (0 : Int32)))]) (wkC (wkC (wkN (wkN (wkC (wkC wk0)))))) ?_
  refine loop_gen (b_X1_showsNear_19 x i p1 p2 p3) none (fun v1 => EX g (d + 1) MX1_showsNear ad x m 19 [some (.ref (ad 1 i)), some (.int p1), none, none, some (.int (if (p2 + p3) < (39 : Int32) then (p2 + p3) else (39 : Int32))), some (.int v1)] [] Q) Φ0 hN0 (fun v1 Φ1 hB0_1 hO1 h9 => ?_) (if (0 : Int32) < (p2 - p3) then (p2 - p3) else (0 : Int32)) h9
  have hN1 := fun h => hN0 (hO1 _ h)
  have hR1 := fun r9 h => hR0 r9 (hO1 _ h)
  have hB0_1 : ∀ (z0 : Int32), Φ1 (Sum.inl z0) → EX g (d + 1) MX1_showsNear ad x m 19 [some (.ref (ad 1 i)), some (.int p1), none, none, some (.int (if (p2 + p3) < (39 : Int32) then (p2 + p3) else (39 : Int32))), some (.int z0)] [] Q := fun z0 h => hB0_1 z0 h
  unfold b_X1_showsNear_19 at h9
  refine e_iload dX1_showsNear_19 rfl ?_
  refine e_iload dX1_showsNear_21 rfl ?_
  refine e_icmp_gt (tgt := 45) dX1_showsNear_23 rfl (fun hc2 => ?_) (fun hc2 => ?_)
  · replace h9 := ifT hc2 h9
    refine e_iconst (v := 0) dX1_showsNear_45 rfl ?_
    exact x_zret dX1_showsNear_46 rfl (by decide) (hR1 _ h9)
  · replace h9 := ifF hc2 h9
    refine e_aload_n dX1_showsNear_26 rfl rfl ?_
    obtain ⟨k3, h9⟩ := chkP hN1 h9
    refine g_103 flX1_9 dX1_showsNear_27 k3 ?_
    refine e_iload dX1_showsNear_30 rfl ?_
    obtain ⟨k4, h9⟩ := chkP hN1 h9
    refine l_103 dX1_showsNear_32 k3 (inb_in k4) ?_
    refine e_iload_n dX1_showsNear_33 rfl rfl ?_
    refine e_icmp_ne (tgt := 39) dX1_showsNear_34 rfl (fun hc5 => ?_) (fun hc5 => ?_)
    · replace h9 := ifF hc5 h9
      refine e_iinc (v := (v1 + 1)) (L' := [some (.ref (ad 1 i)), some (.int p1), none, none, some (.int (if (p2 + p3) < (39 : Int32) then (p2 + p3) else (39 : Int32))), some (.int (v1 + 1))]) dX1_showsNear_39 rfl rfl (by decide) rfl ?_
      refine e_goto (tgt := 19) dX1_showsNear_42 rfl ?_
      exact hB0_1 _ h9
    · replace h9 := ifT hc5 h9
      refine e_iconst (v := 1) dX1_showsNear_37 rfl ?_
      exact x_zret dX1_showsNear_38 rfl (by decide) (hR1 _ h9)
noncomputable def b_X1_giveBack_2 (x : VM) (i : Nat) (p1 : Int64) (v1 : Int32 × VM) : (Int32 × VM) ⊕ (Option (VM)) := if 40 ≤ v1.1 then Sum.inr (some v1.2) else if (lg_cmp ((p1 >>> ((v1.1 : Int32).toInt64 &&& 63)) &&& 1) 1) = 0 then if i < v1.2.2.2.2 1 then if inb v1.1 40 = true then Sum.inl (v1.1 + 1, setA v1.2 103 i (upd (v1.2.2.1 103 i) v1.1.toNatClampNeg (-1))) else Sum.inr none else Sum.inr none else Sum.inl (v1.1 + 1, v1.2)
noncomputable def f_X1_giveBack (x : VM) (i : Nat) (p1 : Int64) : Option (VM) := loopF none (b_X1_giveBack_2 x i p1) (0, x)
theorem c_X1_giveBack {g : GG} {d : Nat} {ad : AD} {x m : VM} {Q : Option Value → VM → VM → Prop} (i : Nat) (p1 : Int64) {w9 : VM} (hf : f_X1_giveBack x i p1 = some w9) (hq : Q none w9 m) : CX g d MX1_giveBack [.ref (ad 1 i), .long p1] ad x m Q := by
  refine CX.to (Lv := [some (.ref (ad 1 i)), some (.long p1), none, none]) okX1_giveBack (Nat.le_of_ble_eq_true rfl) rfl ?_
  obtain ⟨Φ0, hΦ⟩ : ∃ Φ : Option (VM) → Prop, Φ = fun o => o = some w9 := ⟨_, rfl⟩
  have hN0 : Φ0 none → False := by rw [hΦ]; intro h; cases h
  have hR0 : ∀ z9, Φ0 (some z9) → Q none z9 m := by rw [hΦ]; intro z9 h; cases h; exact hq
  have h9 : Φ0 (f_X1_giveBack x i p1) := by rw [hΦ]; exact hf
  clear hf hq hΦ
  unfold f_X1_giveBack at h9
  refine e_iconst (v := 0) dX1_giveBack_0 rfl ?_
  refine e_istore_n (L' := [some (.ref (ad 1 i)), some (.long p1), none, some (.int 0)]) dX1_giveBack_1 rfl (by decide) rfl ?_
  refine loop_gen (b_X1_giveBack_2 x i p1) none (fun v1 => EX g d MX1_giveBack ad v1.2 m 2 [some (.ref (ad 1 i)), some (.long p1), none, some (.int v1.1)] [] Q) Φ0 hN0 (fun v1 Φ1 hB0_1 hO1 h9 => ?_) (0, x) h9
  have hN1 := fun h => hN0 (hO1 _ h)
  have hR1 := fun r9 h => hR0 r9 (hO1 _ h)
  have hB0_1 : ∀ (z0 : Int32) (z1 : VM), Φ1 (Sum.inl (z0, z1)) → EX g d MX1_giveBack ad z1 m 2 [some (.ref (ad 1 i)), some (.long p1), none, some (.int z0)] [] Q := fun z0 z1 h => hB0_1 (z0, z1) h
  unfold b_X1_giveBack_2 at h9
  refine e_iload_n dX1_giveBack_2 rfl rfl ?_
  refine e_bipush (v := 40) dX1_giveBack_3 rfl ?_
  refine e_icmp_ge (tgt := 31) dX1_giveBack_5 rfl (fun hc2 => ?_) (fun hc2 => ?_)
  · replace h9 := ifT hc2 h9
    exact x_vret dX1_giveBack_31 rfl (hR1 _ h9)
  · replace h9 := ifF hc2 h9
    refine e_lload_n dX1_giveBack_8 rfl rfl ?_
    refine e_iload_n dX1_giveBack_9 rfl rfl ?_
    refine e_lshr dX1_giveBack_10 rfl ?_
    refine e_lconst (v := 1) dX1_giveBack_11 rfl ?_
    refine e_land dX1_giveBack_12 ?_
    refine e_lconst (v := 1) dX1_giveBack_13 rfl ?_
    refine e_lcmp dX1_giveBack_14 ?_
    refine e_if_ne (tgt := 25) dX1_giveBack_15 rfl (fun hc3 => ?_) (fun hc3 => ?_)
    · replace h9 := ifF hc3 h9
      refine e_iinc (v := (v1.1 + 1)) (L' := [some (.ref (ad 1 i)), some (.long p1), none, some (.int (v1.1 + 1))]) dX1_giveBack_25 rfl rfl (by decide) rfl ?_
      refine e_goto (tgt := 2) dX1_giveBack_28 rfl ?_
      exact hB0_1 _ _ h9
    · replace h9 := ifT hc3 h9
      refine e_aload_n dX1_giveBack_18 rfl rfl ?_
      obtain ⟨k4, h9⟩ := chkP hN1 h9
      refine g_103 flX1_9 dX1_giveBack_19 k4 ?_
      refine e_iload_n dX1_giveBack_22 rfl rfl ?_
      refine e_iconst (v := (-1)) dX1_giveBack_23 rfl ?_
      obtain ⟨k5, h9⟩ := chkP hN1 h9
      refine s_103 dX1_giveBack_24 k4 (inb_in k5) ?_
      refine e_iinc (v := (v1.1 + 1)) (L' := [some (.ref (ad 1 i)), some (.long p1), none, some (.int (v1.1 + 1))]) dX1_giveBack_25 rfl rfl (by decide) rfl ?_
      refine e_goto (tgt := 2) dX1_giveBack_28 rfl ?_
      exact hB0_1 _ _ h9
noncomputable def f_X2_strike (x : VM) (p1 : Int32) (p2 : Int32) : Option (VM) := if 8 ≤ (x.1 202 0) then some x else if inb (x.1 202 0) 8 = true then if inb ((setA x 200 0 (upd (x.2.1 200 0) ((x.1 202 0).toNatClampNeg) p1)).1 202 0) 8 = true then some (setI (setA (setA x 200 0 (upd (x.2.1 200 0) ((x.1 202 0).toNatClampNeg) p1)) 201 0 (upd ((setA x 200 0 (upd (x.2.1 200 0) ((x.1 202 0).toNatClampNeg) p1)).2.1 201 0) (((setA x 200 0 (upd (x.2.1 200 0) ((x.1 202 0).toNatClampNeg) p1)).1 202 0).toNatClampNeg) p2)) 202 0 (((setA (setA x 200 0 (upd (x.2.1 200 0) ((x.1 202 0).toNatClampNeg) p1)) 201 0 (upd ((setA x 200 0 (upd (x.2.1 200 0) ((x.1 202 0).toNatClampNeg) p1)).2.1 201 0) (((setA x 200 0 (upd (x.2.1 200 0) ((x.1 202 0).toNatClampNeg) p1)).1 202 0).toNatClampNeg) p2)).1 202 0) + 1)) else none else none
theorem c_X2_strike {g : GG} {d : Nat} {ad : AD} {x m : VM} {Q : Option Value → VM → VM → Prop} (p1 : Int32) (p2 : Int32) {w9 : VM} (hf : f_X2_strike x p1 p2 = some w9) (hq : Q none w9 m) : CX g d MX2_strike [.ref (ad 2 0), .int p1, .int p2] ad x m Q := by
  refine CX.to (Lv := [some (.ref (ad 2 0)), some (.int p1), some (.int p2)]) okX2_strike (Nat.le_of_ble_eq_true rfl) rfl ?_
  obtain ⟨Φ0, hΦ⟩ : ∃ Φ : Option (VM) → Prop, Φ = fun o => o = some w9 := ⟨_, rfl⟩
  have hN0 : Φ0 none → False := by rw [hΦ]; intro h; cases h
  have hR0 : ∀ z9, Φ0 (some z9) → Q none z9 m := by rw [hΦ]; intro z9 h; cases h; exact hq
  have h9 : Φ0 (f_X2_strike x p1 p2) := by rw [hΦ]; exact hf
  clear hf hq hΦ
  unfold f_X2_strike at h9
  refine e_aload_n dX2_strike_0 rfl rfl ?_
  refine g_202 flX2_18 dX2_strike_1 ?_
  refine e_bipush (v := 8) dX2_strike_4 rfl ?_
  refine e_icmp_ge (tgt := 39) dX2_strike_6 rfl (fun hc1 => ?_) (fun hc1 => ?_)
  · replace h9 := ifT hc1 h9
    exact x_vret dX2_strike_39 rfl (hR0 _ h9)
  · replace h9 := ifF hc1 h9
    refine e_aload_n dX2_strike_9 rfl rfl ?_
    refine g_200 flX2_9 dX2_strike_10 ?_
    refine e_aload_n dX2_strike_13 rfl rfl ?_
    refine g_202 flX2_18 dX2_strike_14 ?_
    refine e_iload_n dX2_strike_17 rfl rfl ?_
    obtain ⟨k2, h9⟩ := chkP hN0 h9
    refine s_200 dX2_strike_18 (inb_in k2) ?_
    refine e_aload_n dX2_strike_19 rfl rfl ?_
    refine g_201 flX2_15 dX2_strike_20 ?_
    refine e_pc (pc' := 23) rfl ?_
    refine e_aload_n dX2_strike_23 rfl rfl ?_
    refine g_202 flX2_18 dX2_strike_24 ?_
    refine e_iload_n dX2_strike_27 rfl rfl ?_
    obtain ⟨k3, h9⟩ := chkP hN0 h9
    refine s_201 dX2_strike_28 (inb_in k3) ?_
    refine e_aload_n dX2_strike_29 rfl rfl ?_
    refine e_dup dX2_strike_30 rfl ?_
    refine g_202 flX2_18 dX2_strike_31 ?_
    refine e_iconst (v := 1) dX2_strike_34 rfl ?_
    refine e_iadd dX2_strike_35 ?_
    refine e_pc (pc' := 36) rfl ?_
    refine p_202 flX2_18 dX2_strike_36 ?_
    exact x_vret dX2_strike_39 rfl (hR0 _ h9)
noncomputable def b_X2_areAgainst_2 (x : VM) (p1 : Int32) (p2 : Int32) (v1 : Int32) : (Int32) ⊕ (Option (Int32)) := if (x.1 202 0) ≤ v1 then Sum.inr (some 0) else if inb v1 8 = true then if (x.2.1 200 0 v1.toNatClampNeg) = p1 then if inb v1 8 = true then if p2 < (x.2.1 201 0 v1.toNatClampNeg) then Sum.inl (v1 + 1) else Sum.inr (some 1) else Sum.inr none else Sum.inl (v1 + 1) else Sum.inr none
noncomputable def f_X2_areAgainst (x : VM) (p1 : Int32) (p2 : Int32) : Option (Int32) := loopF none (b_X2_areAgainst_2 x p1 p2) 0
theorem c_X2_areAgainst {g : GG} {d : Nat} {ad : AD} {x m : VM} {Q : Option Value → VM → VM → Prop} (p1 : Int32) (p2 : Int32) {r9 : Int32} (hf : f_X2_areAgainst x p1 p2 = some r9) (hq : Q (some (.int r9)) x m) : CX g d MX2_areAgainst [.ref (ad 2 0), .int p1, .int p2] ad x m Q := by
  refine CX.to (Lv := [some (.ref (ad 2 0)), some (.int p1), some (.int p2), none]) okX2_areAgainst (Nat.le_of_ble_eq_true rfl) rfl ?_
  obtain ⟨Φ0, hΦ⟩ : ∃ Φ : Option (Int32) → Prop, Φ = fun o => o = some r9 := ⟨_, rfl⟩
  have hN0 : Φ0 none → False := by rw [hΦ]; intro h; cases h
  have hR0 : ∀ z9, Φ0 (some z9) → Q (some (.int z9)) x m := by rw [hΦ]; intro z9 h; cases h; exact hq
  have h9 : Φ0 (f_X2_areAgainst x p1 p2) := by rw [hΦ]; exact hf
  clear hf hq hΦ
  unfold f_X2_areAgainst at h9
  refine e_iconst (v := 0) dX2_areAgainst_0 rfl ?_
  refine e_istore_n (L' := [some (.ref (ad 2 0)), some (.int p1), some (.int p2), some (.int 0)]) dX2_areAgainst_1 rfl (by decide) rfl ?_
  refine loop_gen (b_X2_areAgainst_2 x p1 p2) none (fun v1 => EX g d MX2_areAgainst ad x m 2 [some (.ref (ad 2 0)), some (.int p1), some (.int p2), some (.int v1)] [] Q) Φ0 hN0 (fun v1 Φ1 hB0_1 hO1 h9 => ?_) 0 h9
  have hN1 := fun h => hN0 (hO1 _ h)
  have hR1 := fun r9 h => hR0 r9 (hO1 _ h)
  have hB0_1 : ∀ (z0 : Int32), Φ1 (Sum.inl z0) → EX g d MX2_areAgainst ad x m 2 [some (.ref (ad 2 0)), some (.int p1), some (.int p2), some (.int z0)] [] Q := fun z0 h => hB0_1 z0 h
  unfold b_X2_areAgainst_2 at h9
  refine e_iload_n dX2_areAgainst_2 rfl rfl ?_
  refine e_aload_n dX2_areAgainst_3 rfl rfl ?_
  refine g_202 flX2_18 dX2_areAgainst_4 ?_
  refine e_icmp_ge (tgt := 38) dX2_areAgainst_7 rfl (fun hc2 => ?_) (fun hc2 => ?_)
  · replace h9 := ifT hc2 h9
    refine e_iconst (v := 0) dX2_areAgainst_38 rfl ?_
    exact x_zret dX2_areAgainst_39 rfl (by decide) (hR1 _ h9)
  · replace h9 := ifF hc2 h9
    refine e_aload_n dX2_areAgainst_10 rfl rfl ?_
    refine g_200 flX2_9 dX2_areAgainst_11 ?_
    refine e_iload_n dX2_areAgainst_14 rfl rfl ?_
    obtain ⟨k3, h9⟩ := chkP hN1 h9
    refine l_200 dX2_areAgainst_15 (inb_in k3) ?_
    refine e_iload_n dX2_areAgainst_16 rfl rfl ?_
    refine e_icmp_ne (tgt := 32) dX2_areAgainst_17 rfl (fun hc4 => ?_) (fun hc4 => ?_)
    · replace h9 := ifF hc4 h9
      refine e_iinc (v := (v1 + 1)) (L' := [some (.ref (ad 2 0)), some (.int p1), some (.int p2), some (.int (v1 + 1))]) dX2_areAgainst_32 rfl rfl (by decide) rfl ?_
      refine e_goto (tgt := 2) dX2_areAgainst_35 rfl ?_
      exact hB0_1 _ h9
    · replace h9 := ifT hc4 h9
      refine e_aload_n dX2_areAgainst_20 rfl rfl ?_
      refine g_201 flX2_15 dX2_areAgainst_21 ?_
      refine e_iload_n dX2_areAgainst_24 rfl rfl ?_
      obtain ⟨k5, h9⟩ := chkP hN1 h9
      refine l_201 dX2_areAgainst_25 (inb_in k5) ?_
      refine e_iload_n dX2_areAgainst_26 rfl rfl ?_
      refine e_icmp_gt (tgt := 32) dX2_areAgainst_27 rfl (fun hc6 => ?_) (fun hc6 => ?_)
      · replace h9 := ifT hc6 h9
        refine e_iinc (v := (v1 + 1)) (L' := [some (.ref (ad 2 0)), some (.int p1), some (.int p2), some (.int (v1 + 1))]) dX2_areAgainst_32 rfl rfl (by decide) rfl ?_
        refine e_goto (tgt := 2) dX2_areAgainst_35 rfl ?_
        exact hB0_1 _ h9
      · replace h9 := ifF hc6 h9
        refine e_iconst (v := 1) dX2_areAgainst_30 rfl ?_
        exact x_zret dX2_areAgainst_31 rfl (by decide) (hR1 _ h9)
noncomputable def f_X3_forget (x : VM) : Option (VM) := some (setN x 0 0)
theorem c_X3_forget {g : GG} {d : Nat} {ad : AD} {x m : VM} {Q : Option Value → VM → VM → Prop} {w9 : VM} (hf : f_X3_forget x = some w9) (hq : Q none w9 m) : CX g d MX3_forget [.ref (ad 3 0)] ad x m Q := by
  refine CX.to (Lv := [some (.ref (ad 3 0))]) okX3_forget (Nat.le_of_ble_eq_true rfl) rfl ?_
  obtain ⟨Φ0, hΦ⟩ : ∃ Φ : Option (VM) → Prop, Φ = fun o => o = some w9 := ⟨_, rfl⟩
  have hN0 : Φ0 none → False := by rw [hΦ]; intro h; cases h
  have hR0 : ∀ z9, Φ0 (some z9) → Q none z9 m := by rw [hΦ]; intro z9 h; cases h; exact hq
  have h9 : Φ0 (f_X3_forget x) := by rw [hΦ]; exact hf
  clear hf hq hΦ
  unfold f_X3_forget at h9
  refine e_aload_n dX3_forget_0 rfl rfl ?_
  refine e_null dX3_forget_1 ?_
  refine x_putFN flX3_28 dX3_forget_2 ?_
  exact x_vret dX3_forget_5 rfl (hR0 _ h9)
noncomputable def f_X3_bestCost (x : VM) : Option (Int32) := some (x.2.1 307 0 ((0 : Int32).toNatClampNeg))
theorem c_X3_bestCost {g : GG} {d : Nat} {ad : AD} {x m : VM} {Q : Option Value → VM → VM → Prop} {r9 : Int32} (hf : f_X3_bestCost x = some r9) (hq : Q (some (.int r9)) x m) : CX g d MX3_bestCost [.ref (ad 3 0)] ad x m Q := by
  refine CX.to (Lv := [some (.ref (ad 3 0))]) okX3_bestCost (Nat.le_of_ble_eq_true rfl) rfl ?_
  obtain ⟨Φ0, hΦ⟩ : ∃ Φ : Option (Int32) → Prop, Φ = fun o => o = some r9 := ⟨_, rfl⟩
  have hN0 : Φ0 none → False := by rw [hΦ]; intro h; cases h
  have hR0 : ∀ z9, Φ0 (some z9) → Q (some (.int z9)) x m := by rw [hΦ]; intro z9 h; cases h; exact hq
  have h9 : Φ0 (f_X3_bestCost x) := by rw [hΦ]; exact hf
  clear hf hq hΦ
  unfold f_X3_bestCost at h9
  refine e_aload_n dX3_bestCost_0 rfl rfl ?_
  refine g_307 flX3_35 dX3_bestCost_1 ?_
  refine e_iconst (v := 0) dX3_bestCost_4 rfl ?_
  refine l_307 dX3_bestCost_5 (inb_in (by decide)) ?_
  exact x_iret dX3_bestCost_6 rfl (hR0 _ h9)
noncomputable def j_J6_numberOfTrailingZeros_0f7a4_62 (p1 : Int32) (a2 : Int32) (a3 : Int32) : Option (Int32) := if a2 ≤ 4 then some (a3 + ((a2.toUInt32 >>> ((1 : Int32).toUInt32 &&& Int32.toUInt32 31)).toInt32)) else some ((a3 + 2) + ((((a2.toUInt32 >>> ((2 : Int32).toUInt32 &&& Int32.toUInt32 31)).toInt32).toUInt32 >>> ((1 : Int32).toUInt32 &&& Int32.toUInt32 31)).toInt32))
noncomputable def j_J6_numberOfTrailingZeros_0f7a4_49 (p1 : Int32) (a5 : Int32) (a6 : Int32) : Option (Int32) := if a5 ≤ 16 then j_J6_numberOfTrailingZeros_0f7a4_62 p1 a5 a6 else j_J6_numberOfTrailingZeros_0f7a4_62 p1 ((a5.toUInt32 >>> ((4 : Int32).toUInt32 &&& Int32.toUInt32 31)).toInt32) (a6 + 4)
noncomputable def j_J6_numberOfTrailingZeros_0f7a4_34 (p1 : Int32) (a8 : Int32) (a9 : Int32) : Option (Int32) := if a8 ≤ 256 then j_J6_numberOfTrailingZeros_0f7a4_49 p1 a8 a9 else j_J6_numberOfTrailingZeros_0f7a4_49 p1 ((a8.toUInt32 >>> ((8 : Int32).toUInt32 &&& Int32.toUInt32 31)).toInt32) (a9 + 8)
noncomputable def f_J6_numberOfTrailingZeros_0f7a4 (p1 : Int32) : Option (Int32) := if 0 < ((p1 ^^^ (-1)) &&& (p1 - 1)) then if ((p1 ^^^ (-1)) &&& (p1 - 1)) ≤ 65536 then j_J6_numberOfTrailingZeros_0f7a4_34 p1 ((p1 ^^^ (-1)) &&& (p1 - 1)) 1 else j_J6_numberOfTrailingZeros_0f7a4_34 p1 ((((p1 ^^^ (-1)) &&& (p1 - 1)).toUInt32 >>> ((16 : Int32).toUInt32 &&& Int32.toUInt32 31)).toInt32) (1 + 16) else some (((p1 ^^^ (-1)) &&& (p1 - 1)) &&& 32)
theorem c_J6_numberOfTrailingZeros_0f7a4 {g : GG} {d : Nat} {ad : AD} {x m : VM} {Q : Option Value → VM → VM → Prop} (p1 : Int32) {r9 : Int32} (hf : f_J6_numberOfTrailingZeros_0f7a4 p1 = some r9) (hq : Q (some (.int r9)) x m) : CX g d MJ6_numberOfTrailingZeros_0f7a4 [.int p1] ad x m Q := by
  refine CX.to (Lv := [some (.int p1), none]) okJ6_numberOfTrailingZeros_0f7a4 (Nat.le_of_ble_eq_true rfl) rfl ?_
  obtain ⟨Φ0, hΦ⟩ : ∃ Φ : Option (Int32) → Prop, Φ = fun o => o = some r9 := ⟨_, rfl⟩
  have hN0 : Φ0 none → False := by rw [hΦ]; intro h; cases h
  have hR0 : ∀ z9, Φ0 (some z9) → Q (some (.int z9)) x m := by rw [hΦ]; intro z9 h; cases h; exact hq
  have h9 : Φ0 (f_J6_numberOfTrailingZeros_0f7a4 p1) := by rw [hΦ]; exact hf
  clear hf hq hΦ
  unfold f_J6_numberOfTrailingZeros_0f7a4 at h9
  refine e_iload_n dJ6_numberOfTrailingZeros_0f7a4_0 rfl rfl ?_
  refine e_iconst (v := (-1)) dJ6_numberOfTrailingZeros_0f7a4_1 rfl ?_
  refine e_ixor dJ6_numberOfTrailingZeros_0f7a4_2 ?_
  refine e_iload_n dJ6_numberOfTrailingZeros_0f7a4_3 rfl rfl ?_
  refine e_iconst (v := 1) dJ6_numberOfTrailingZeros_0f7a4_4 rfl ?_
  refine e_isub dJ6_numberOfTrailingZeros_0f7a4_5 ?_
  refine e_iand dJ6_numberOfTrailingZeros_0f7a4_6 ?_
  refine e_istore_n (L' := [some (.int ((p1 ^^^ (-1)) &&& (p1 - 1))), none]) dJ6_numberOfTrailingZeros_0f7a4_7 rfl (by decide) rfl ?_
  refine e_pc (pc' := 8) rfl ?_
  refine e_iload_n dJ6_numberOfTrailingZeros_0f7a4_8 rfl rfl ?_
  refine e_if_gt (tgt := 17) dJ6_numberOfTrailingZeros_0f7a4_9 rfl (fun hc1 => ?_) (fun hc1 => ?_)
  · replace h9 := ifT hc1 h9
    refine e_iconst (v := 1) dJ6_numberOfTrailingZeros_0f7a4_17 rfl ?_
    refine e_istore_n (L' := [some (.int ((p1 ^^^ (-1)) &&& (p1 - 1))), some (.int 1)]) dJ6_numberOfTrailingZeros_0f7a4_18 rfl (by decide) rfl ?_
    refine e_iload_n dJ6_numberOfTrailingZeros_0f7a4_19 rfl rfl ?_
    refine e_ldcw (v := 65536) rfl kcJ6_264 dJ6_numberOfTrailingZeros_0f7a4_20 ?_
    have hj62 : ∀ (a2 : Int32) (a3 : Int32), Φ0 (j_J6_numberOfTrailingZeros_0f7a4_62 p1 a2 a3) → EX g d MJ6_numberOfTrailingZeros_0f7a4 ad x m 62 [some (.int a2), some (.int a3)] [] Q := by
      intro a2 a3 h9
      unfold j_J6_numberOfTrailingZeros_0f7a4_62 at h9
      refine e_iload_n dJ6_numberOfTrailingZeros_0f7a4_62 rfl rfl ?_
      refine e_iconst (v := 4) dJ6_numberOfTrailingZeros_0f7a4_63 rfl ?_
      refine e_icmp_le (tgt := 74) dJ6_numberOfTrailingZeros_0f7a4_64 rfl (fun hc4 => ?_) (fun hc4 => ?_)
      · replace h9 := ifT hc4 h9
        refine e_iload_n dJ6_numberOfTrailingZeros_0f7a4_74 rfl rfl ?_
        refine e_iload_n dJ6_numberOfTrailingZeros_0f7a4_75 rfl rfl ?_
        refine e_iconst (v := 1) dJ6_numberOfTrailingZeros_0f7a4_76 rfl ?_
        refine e_iushr dJ6_numberOfTrailingZeros_0f7a4_77 rfl ?_
        refine e_iadd dJ6_numberOfTrailingZeros_0f7a4_78 ?_
        exact x_iret dJ6_numberOfTrailingZeros_0f7a4_79 rfl (hR0 _ h9)
      · replace h9 := ifF hc4 h9
        refine e_iinc (v := (a3 + 2)) (L' := [some (.int a2), some (.int (a3 + 2))]) dJ6_numberOfTrailingZeros_0f7a4_67 rfl rfl (by decide) rfl ?_
        refine e_iload_n dJ6_numberOfTrailingZeros_0f7a4_70 rfl rfl ?_
        refine e_iconst (v := 2) dJ6_numberOfTrailingZeros_0f7a4_71 rfl ?_
        refine e_iushr dJ6_numberOfTrailingZeros_0f7a4_72 rfl ?_
        refine e_istore_n (L' := [some (.int ((a2.toUInt32 >>> ((2 : Int32).toUInt32 &&& Int32.toUInt32 31)).toInt32)), some (.int (a3 + 2))]) dJ6_numberOfTrailingZeros_0f7a4_73 rfl (by decide) rfl ?_
        refine e_iload_n dJ6_numberOfTrailingZeros_0f7a4_74 rfl rfl ?_
        refine e_iload_n dJ6_numberOfTrailingZeros_0f7a4_75 rfl rfl ?_
        refine e_iconst (v := 1) dJ6_numberOfTrailingZeros_0f7a4_76 rfl ?_
        refine e_pc (pc' := 77) rfl ?_
        refine e_iushr dJ6_numberOfTrailingZeros_0f7a4_77 rfl ?_
        refine e_iadd dJ6_numberOfTrailingZeros_0f7a4_78 ?_
        exact x_iret dJ6_numberOfTrailingZeros_0f7a4_79 rfl (hR0 _ h9)
    have hj49 : ∀ (a5 : Int32) (a6 : Int32), Φ0 (j_J6_numberOfTrailingZeros_0f7a4_49 p1 a5 a6) → EX g d MJ6_numberOfTrailingZeros_0f7a4 ad x m 49 [some (.int a5), some (.int a6)] [] Q := by
      intro a5 a6 h9
      unfold j_J6_numberOfTrailingZeros_0f7a4_49 at h9
      refine e_iload_n dJ6_numberOfTrailingZeros_0f7a4_49 rfl rfl ?_
      refine e_bipush (v := 16) dJ6_numberOfTrailingZeros_0f7a4_50 rfl ?_
      refine e_icmp_le (tgt := 62) dJ6_numberOfTrailingZeros_0f7a4_52 rfl (fun hc7 => ?_) (fun hc7 => ?_)
      · replace h9 := ifT hc7 h9
        exact hj62 a5 a6 h9
      · replace h9 := ifF hc7 h9
        refine e_iinc (v := (a6 + 4)) (L' := [some (.int a5), some (.int (a6 + 4))]) dJ6_numberOfTrailingZeros_0f7a4_55 rfl rfl (by decide) rfl ?_
        refine e_iload_n dJ6_numberOfTrailingZeros_0f7a4_58 rfl rfl ?_
        refine e_iconst (v := 4) dJ6_numberOfTrailingZeros_0f7a4_59 rfl ?_
        refine e_iushr dJ6_numberOfTrailingZeros_0f7a4_60 rfl ?_
        refine e_istore_n (L' := [some (.int ((a5.toUInt32 >>> ((4 : Int32).toUInt32 &&& Int32.toUInt32 31)).toInt32)), some (.int (a6 + 4))]) dJ6_numberOfTrailingZeros_0f7a4_61 rfl (by decide) rfl ?_
        exact hj62 ((a5.toUInt32 >>> ((4 : Int32).toUInt32 &&& Int32.toUInt32 31)).toInt32) (a6 + 4) h9
    have hj34 : ∀ (a8 : Int32) (a9 : Int32), Φ0 (j_J6_numberOfTrailingZeros_0f7a4_34 p1 a8 a9) → EX g d MJ6_numberOfTrailingZeros_0f7a4 ad x m 34 [some (.int a8), some (.int a9)] [] Q := by
      intro a8 a9 h9
      unfold j_J6_numberOfTrailingZeros_0f7a4_34 at h9
      refine e_iload_n dJ6_numberOfTrailingZeros_0f7a4_34 rfl rfl ?_
      refine e_sipush (v := 256) dJ6_numberOfTrailingZeros_0f7a4_35 rfl ?_
      refine e_icmp_le (tgt := 49) dJ6_numberOfTrailingZeros_0f7a4_38 rfl (fun hc10 => ?_) (fun hc10 => ?_)
      · replace h9 := ifT hc10 h9
        exact hj49 a8 a9 h9
      · replace h9 := ifF hc10 h9
        refine e_iinc (v := (a9 + 8)) (L' := [some (.int a8), some (.int (a9 + 8))]) dJ6_numberOfTrailingZeros_0f7a4_41 rfl rfl (by decide) rfl ?_
        refine e_iload_n dJ6_numberOfTrailingZeros_0f7a4_44 rfl rfl ?_
        refine e_bipush (v := 8) dJ6_numberOfTrailingZeros_0f7a4_45 rfl ?_
        refine e_iushr dJ6_numberOfTrailingZeros_0f7a4_47 rfl ?_
        refine e_istore_n (L' := [some (.int ((a8.toUInt32 >>> ((8 : Int32).toUInt32 &&& Int32.toUInt32 31)).toInt32)), some (.int (a9 + 8))]) dJ6_numberOfTrailingZeros_0f7a4_48 rfl (by decide) rfl ?_
        exact hj49 ((a8.toUInt32 >>> ((8 : Int32).toUInt32 &&& Int32.toUInt32 31)).toInt32) (a9 + 8) h9
    refine e_icmp_le (tgt := 34) dJ6_numberOfTrailingZeros_0f7a4_23 rfl (fun hc11 => ?_) (fun hc11 => ?_)
    · replace h9 := ifT hc11 h9
      exact hj34 ((p1 ^^^ (-1)) &&& (p1 - 1)) 1 h9
    · replace h9 := ifF hc11 h9
      refine e_iinc (v := (1 + 16)) (L' := [some (.int ((p1 ^^^ (-1)) &&& (p1 - 1))), some (.int (1 + 16))]) dJ6_numberOfTrailingZeros_0f7a4_26 rfl rfl (by decide) rfl ?_
      refine e_iload_n dJ6_numberOfTrailingZeros_0f7a4_29 rfl rfl ?_
      refine e_bipush (v := 16) dJ6_numberOfTrailingZeros_0f7a4_30 rfl ?_
      refine e_iushr dJ6_numberOfTrailingZeros_0f7a4_32 rfl ?_
      refine e_istore_n (L' := [some (.int ((((p1 ^^^ (-1)) &&& (p1 - 1)).toUInt32 >>> ((16 : Int32).toUInt32 &&& Int32.toUInt32 31)).toInt32)), some (.int (1 + 16))]) dJ6_numberOfTrailingZeros_0f7a4_33 rfl (by decide) rfl ?_
      exact hj34 ((((p1 ^^^ (-1)) &&& (p1 - 1)).toUInt32 >>> ((16 : Int32).toUInt32 &&& Int32.toUInt32 31)).toInt32) (1 + 16) h9
  · replace h9 := ifF hc1 h9
    refine e_iload_n dJ6_numberOfTrailingZeros_0f7a4_12 rfl rfl ?_
    refine e_bipush (v := 32) dJ6_numberOfTrailingZeros_0f7a4_13 rfl ?_
    refine e_iand dJ6_numberOfTrailingZeros_0f7a4_15 ?_
    exact x_iret dJ6_numberOfTrailingZeros_0f7a4_16 rfl (hR0 _ h9)
noncomputable def b_X3_dayCost_7 (x : VM) (p1 : Int32) (v1 : Int32 × Int32) : (Int32 × Int32) ⊕ (Option (Int32)) := if 16 ≤ v1.2 then Sum.inr (some v1.1) else if ((p1 >>> (v1.2 &&& 31)) &&& 1) = 1 then if inb v1.2 16 = true then Sum.inl (v1.1 + (x.2.1 300 0 v1.2.toNatClampNeg), v1.2 + 1) else Sum.inr none else Sum.inl (v1.1, v1.2 + 1)
noncomputable def f_X3_dayCost (x : VM) (p1 : Int32) : Option (Int32) := loopF none (b_X3_dayCost_7 x p1) (x.1 301 0, 0)
theorem c_X3_dayCost {g : GG} {d : Nat} {ad : AD} {x m : VM} {Q : Option Value → VM → VM → Prop} (p1 : Int32) {r9 : Int32} (hf : f_X3_dayCost x p1 = some r9) (hq : Q (some (.int r9)) x m) : CX g d MX3_dayCost [.ref (ad 3 0), .int p1] ad x m Q := by
  refine CX.to (Lv := [some (.ref (ad 3 0)), some (.int p1), none, none]) okX3_dayCost (Nat.le_of_ble_eq_true rfl) rfl ?_
  obtain ⟨Φ0, hΦ⟩ : ∃ Φ : Option (Int32) → Prop, Φ = fun o => o = some r9 := ⟨_, rfl⟩
  have hN0 : Φ0 none → False := by rw [hΦ]; intro h; cases h
  have hR0 : ∀ z9, Φ0 (some z9) → Q (some (.int z9)) x m := by rw [hΦ]; intro z9 h; cases h; exact hq
  have h9 : Φ0 (f_X3_dayCost x p1) := by rw [hΦ]; exact hf
  clear hf hq hΦ
  unfold f_X3_dayCost at h9
  refine e_aload_n dX3_dayCost_0 rfl rfl ?_
  refine g_301 flX3_15 dX3_dayCost_1 ?_
  refine e_istore_n (L' := [some (.ref (ad 3 0)), some (.int p1), some (.int (x.1 301 0)), none]) dX3_dayCost_4 rfl (by decide) rfl ?_
  refine e_iconst (v := 0) dX3_dayCost_5 rfl ?_
  refine e_istore_n (L' := [some (.ref (ad 3 0)), some (.int p1), some (.int (x.1 301 0)), some (.int 0)]) dX3_dayCost_6 rfl (by decide) rfl ?_
  refine loop_gen (b_X3_dayCost_7 x p1) none (fun v1 => EX g d MX3_dayCost ad x m 7 [some (.ref (ad 3 0)), some (.int p1), some (.int v1.1), some (.int v1.2)] [] Q) Φ0 hN0 (fun v1 Φ1 hB0_1 hO1 h9 => ?_) (x.1 301 0, 0) h9
  have hN1 := fun h => hN0 (hO1 _ h)
  have hR1 := fun r9 h => hR0 r9 (hO1 _ h)
  have hB0_1 : ∀ (z0 : Int32) (z1 : Int32), Φ1 (Sum.inl (z0, z1)) → EX g d MX3_dayCost ad x m 7 [some (.ref (ad 3 0)), some (.int p1), some (.int z0), some (.int z1)] [] Q := fun z0 z1 h => hB0_1 (z0, z1) h
  unfold b_X3_dayCost_7 at h9
  refine e_iload_n dX3_dayCost_7 rfl rfl ?_
  refine e_bipush (v := 16) dX3_dayCost_8 rfl ?_
  refine e_icmp_ge (tgt := 37) dX3_dayCost_10 rfl (fun hc2 => ?_) (fun hc2 => ?_)
  · replace h9 := ifT hc2 h9
    refine e_iload_n dX3_dayCost_37 rfl rfl ?_
    exact x_iret dX3_dayCost_38 rfl (hR1 _ h9)
  · replace h9 := ifF hc2 h9
    refine e_iload_n dX3_dayCost_13 rfl rfl ?_
    refine e_iload_n dX3_dayCost_14 rfl rfl ?_
    refine e_ishr dX3_dayCost_15 ?_
    refine e_iconst (v := 1) dX3_dayCost_16 rfl ?_
    refine e_iand dX3_dayCost_17 ?_
    refine e_iconst (v := 1) dX3_dayCost_18 rfl ?_
    refine e_icmp_ne (tgt := 31) dX3_dayCost_19 rfl (fun hc3 => ?_) (fun hc3 => ?_)
    · replace h9 := ifF hc3 h9
      refine e_iinc (v := (v1.2 + 1)) (L' := [some (.ref (ad 3 0)), some (.int p1), some (.int v1.1), some (.int (v1.2 + 1))]) dX3_dayCost_31 rfl rfl (by decide) rfl ?_
      refine e_goto (tgt := 7) dX3_dayCost_34 rfl ?_
      exact hB0_1 _ _ h9
    · replace h9 := ifT hc3 h9
      refine e_iload_n dX3_dayCost_22 rfl rfl ?_
      refine e_aload_n dX3_dayCost_23 rfl rfl ?_
      refine g_300 flX3_9 dX3_dayCost_24 ?_
      refine e_iload_n dX3_dayCost_27 rfl rfl ?_
      obtain ⟨k4, h9⟩ := chkP hN1 h9
      refine l_300 dX3_dayCost_28 (inb_in k4) ?_
      refine e_iadd dX3_dayCost_29 ?_
      refine e_istore_n (L' := [some (.ref (ad 3 0)), some (.int p1), some (.int (v1.1 + (x.2.1 300 0 v1.2.toNatClampNeg))), some (.int v1.2)]) dX3_dayCost_30 rfl (by decide) rfl ?_
      refine e_iinc (v := (v1.2 + 1)) (L' := [some (.ref (ad 3 0)), some (.int p1), some (.int (v1.1 + (x.2.1 300 0 v1.2.toNatClampNeg))), some (.int (v1.2 + 1))]) dX3_dayCost_31 rfl rfl (by decide) rfl ?_
      refine e_pc (pc' := 34) rfl ?_
      refine e_goto (tgt := 7) dX3_dayCost_34 rfl ?_
      exact hB0_1 _ _ h9
noncomputable def f_X3_onwardCost (x : VM) (p1 : Nat) (p2 : Int32) (p3 : Int32) (p4 : Int32) : Option (Int32) := if p1 < x.2.2.2 5 then if inb p4 8 = true then if p4.toNatClampNeg < x.2.2.2 (20 + p1) then if (8 * p1 + p4.toNatClampNeg) / 8 < x.2.2.2 5 ∧ (8 * p1 + p4.toNatClampNeg) % 8 < x.2.2.2 (20 + (8 * p1 + p4.toNatClampNeg) / 8) then if inb p3 256 = true then if inb (p2 &&& (p3 ^^^ (-1))) 256 = true then if inb (((p3 ||| ((1 : Int32) <<< (p4 &&& 31))) * 8) + p4) 2048 = true then (f_X3_dayCost x ((x.1 801 (8 * p1 + p4.toNatClampNeg)) ||| ((x.2.1 306 0 p3.toNatClampNeg) &&& (x.2.1 306 0 ((p2 &&& (p3 ^^^ (-1))).toNatClampNeg))))).elim none (fun r8 => some (((x.1 802 (8 * p1 + p4.toNatClampNeg)) * r8) + (x.2.1 307 0 ((((p3 ||| ((1 : Int32) <<< (p4 &&& 31))) * 8) + p4).toNatClampNeg)))) else none else none else none else none else none else none else none
theorem c_X3_onwardCost {g : GG} {d : Nat} {ad : AD} {x m : VM} {Q : Option Value → VM → VM → Prop} (p1 : Nat) (p2 : Int32) (p3 : Int32) (p4 : Int32) {r9 : Int32} (hf : f_X3_onwardCost x p1 p2 p3 p4 = some r9) (hq : Q (some (.int r9)) x m) : CX g (d + 1) MX3_onwardCost [.ref (ad 3 0), .ref (ad 5 p1), .int p2, .int p3, .int p4] ad x m Q := by
  refine CX.to (Lv := [some (.ref (ad 3 0)), some (.ref (ad 5 p1)), some (.int p2), some (.int p3), some (.int p4), none, none, none]) okX3_onwardCost (Nat.le_of_ble_eq_true rfl) rfl ?_
  obtain ⟨Φ0, hΦ⟩ : ∃ Φ : Option (Int32) → Prop, Φ = fun o => o = some r9 := ⟨_, rfl⟩
  have hN0 : Φ0 none → False := by rw [hΦ]; intro h; cases h
  have hR0 : ∀ z9, Φ0 (some z9) → Q (some (.int z9)) x m := by rw [hΦ]; intro z9 h; cases h; exact hq
  have h9 : Φ0 (f_X3_onwardCost x p1 p2 p3 p4) := by rw [hΦ]; exact hf
  clear hf hq hΦ
  unfold f_X3_onwardCost at h9
  refine e_aload_n dX3_onwardCost_0 rfl rfl ?_
  obtain ⟨k1, h9⟩ := chkP hN0 h9
  refine g_501 flX3_49 dX3_onwardCost_1 k1 ?_
  refine e_iload dX3_onwardCost_4 rfl ?_
  obtain ⟨k2, h9⟩ := chkP hN0 h9
  refine l_501 dX3_onwardCost_6 k1 (inb_in k2) ?_
  obtain ⟨k3, h9⟩ := chkP hN0 h9
  refine e_top (v := .ref (ad 8 (8 * p1 + p4.toNatClampNeg))) (rfT k3) ?_
  refine e_astore (L' := [some (.ref (ad 3 0)), some (.ref (ad 5 p1)), some (.int p2), some (.int p3), some (.int p4), some (.ref (ad 8 (8 * p1 + p4.toNatClampNeg))), none, none]) dX3_onwardCost_7 (by decide) rfl ?_
  refine e_aload dX3_onwardCost_9 rfl ?_
  obtain ⟨k4, h9⟩ := chkP hN0 h9
  refine g_801 flX3_53 dX3_onwardCost_11 k4 ?_
  refine e_aload_n dX3_onwardCost_14 rfl rfl ?_
  refine e_pc (pc' := 15) rfl ?_
  refine g_306 flX3_32 dX3_onwardCost_15 ?_
  refine e_iload_n dX3_onwardCost_18 rfl rfl ?_
  obtain ⟨k5, h9⟩ := chkP hN0 h9
  refine l_306 dX3_onwardCost_19 (inb_in k5) ?_
  refine e_aload_n dX3_onwardCost_20 rfl rfl ?_
  refine g_306 flX3_32 dX3_onwardCost_21 ?_
  refine e_iload_n dX3_onwardCost_24 rfl rfl ?_
  refine e_iload_n dX3_onwardCost_25 rfl rfl ?_
  refine e_iconst (v := (-1)) dX3_onwardCost_26 rfl ?_
  refine e_ixor dX3_onwardCost_27 ?_
  refine e_pc (pc' := 28) rfl ?_
  refine e_iand dX3_onwardCost_28 ?_
  obtain ⟨k6, h9⟩ := chkP hN0 h9
  refine l_306 dX3_onwardCost_29 (inb_in k6) ?_
  refine e_iand dX3_onwardCost_30 ?_
  refine e_ior dX3_onwardCost_31 ?_
  refine e_istore (L' := [some (.ref (ad 3 0)), some (.ref (ad 5 p1)), some (.int p2), some (.int p3), some (.int p4), some (.ref (ad 8 (8 * p1 + p4.toNatClampNeg))), some (.int ((x.1 801 (8 * p1 + p4.toNatClampNeg)) ||| ((x.2.1 306 0 p3.toNatClampNeg) &&& (x.2.1 306 0 ((p2 &&& (p3 ^^^ (-1))).toNatClampNeg))))), none]) dX3_onwardCost_32 (by decide) rfl ?_
  refine e_aload_n dX3_onwardCost_34 rfl rfl ?_
  refine g_307 flX3_35 dX3_onwardCost_35 ?_
  refine e_iload_n dX3_onwardCost_38 rfl rfl ?_
  refine e_iconst (v := 1) dX3_onwardCost_39 rfl ?_
  refine e_pc (pc' := 40) rfl ?_
  refine e_iload dX3_onwardCost_40 rfl ?_
  refine e_ishl dX3_onwardCost_42 ?_
  refine e_ior dX3_onwardCost_43 ?_
  refine e_bipush (v := 8) dX3_onwardCost_44 rfl ?_
  refine e_imul dX3_onwardCost_46 ?_
  refine e_iload dX3_onwardCost_47 rfl ?_
  refine e_iadd dX3_onwardCost_49 ?_
  obtain ⟨k7, h9⟩ := chkP hN0 h9
  refine l_307 dX3_onwardCost_50 (inb_in k7) ?_
  refine e_istore (L' := [some (.ref (ad 3 0)), some (.ref (ad 5 p1)), some (.int p2), some (.int p3), some (.int p4), some (.ref (ad 8 (8 * p1 + p4.toNatClampNeg))), some (.int ((x.1 801 (8 * p1 + p4.toNatClampNeg)) ||| ((x.2.1 306 0 p3.toNatClampNeg) &&& (x.2.1 306 0 ((p2 &&& (p3 ^^^ (-1))).toNatClampNeg))))), some (.int (x.2.1 307 0 ((((p3 ||| ((1 : Int32) <<< (p4 &&& 31))) * 8) + p4).toNatClampNeg)))]) dX3_onwardCost_51 (by decide) rfl ?_
  refine e_pc (pc' := 53) rfl ?_
  refine e_aload dX3_onwardCost_53 rfl ?_
  refine g_802 flX3_83 dX3_onwardCost_55 k4 ?_
  refine e_aload_n dX3_onwardCost_58 rfl rfl ?_
  refine e_iload dX3_onwardCost_59 rfl ?_
  obtain ⟨r8, hr8, h9⟩ := elimP hN0 h9
  refine x_callVi (c := 3) (As := [.int ((x.1 801 (8 * p1 + p4.toNatClampNeg)) ||| ((x.2.1 306 0 p3.toNatClampNeg) &&& (x.2.1 306 0 ((p2 &&& (p3 ^^^ (-1))).toNatClampNeg))))]) (rest := [.int (x.1 802 (8 * p1 + p4.toNatClampNeg))]) okX3_dayCost lkX3_86 rfl (by decide) rfl dX3_onwardCost_61 rfl rfl (Nat.le_of_ble_eq_true rfl) rfl (c_X3_dayCost ((x.1 801 (8 * p1 + p4.toNatClampNeg)) ||| ((x.2.1 306 0 p3.toNatClampNeg) &&& (x.2.1 306 0 ((p2 &&& (p3 ^^^ (-1))).toNatClampNeg)))) hr8 (CI.mk ?_))
  refine e_imul dX3_onwardCost_64 ?_
  refine e_iload dX3_onwardCost_65 rfl ?_
  refine e_iadd dX3_onwardCost_67 ?_
  exact x_iret dX3_onwardCost_68 rfl (hR0 _ h9)
noncomputable def j_X3_changeCost_30 (x : VM) (p1 : Nat) (p2 : Int32) (p3 : Int32) (p4 : Int32) : Option (Int32) := if (0 : Int32) = 0 then some (x.1 302 0) else some 0
noncomputable def f_X3_changeCost (x : VM) (p1 : Nat) (p2 : Int32) (p3 : Int32) (p4 : Int32) : Option (Int32) := if p2 = 0 then j_X3_changeCost_30 x p1 p2 p3 p4 else if p1 < x.2.2.2 5 then if inb p3 8 = true then if p3.toNatClampNeg < x.2.2.2 (20 + p1) then if (8 * p1 + p3.toNatClampNeg) / 8 < x.2.2.2 5 ∧ (8 * p1 + p3.toNatClampNeg) % 8 < x.2.2.2 (20 + (8 * p1 + p3.toNatClampNeg) / 8) then if inb p4 8 = true then if p4.toNatClampNeg < x.2.2.2 (20 + p1) then if (8 * p1 + p4.toNatClampNeg) / 8 < x.2.2.2 5 ∧ (8 * p1 + p4.toNatClampNeg) % 8 < x.2.2.2 (20 + (8 * p1 + p4.toNatClampNeg) / 8) then if (x.1 800 (8 * p1 + p3.toNatClampNeg)) = (x.1 800 (8 * p1 + p4.toNatClampNeg)) then if (1 : Int32) = 0 then some (x.1 302 0) else some 0 else j_X3_changeCost_30 x p1 p2 p3 p4 else none else none else none else none else none else none else none
theorem c_X3_changeCost {g : GG} {d : Nat} {ad : AD} {x m : VM} {Q : Option Value → VM → VM → Prop} (p1 : Nat) (p2 : Int32) (p3 : Int32) (p4 : Int32) {r9 : Int32} (hf : f_X3_changeCost x p1 p2 p3 p4 = some r9) (hq : Q (some (.int r9)) x m) : CX g d MX3_changeCost [.ref (ad 3 0), .ref (ad 5 p1), .int p2, .int p3, .int p4] ad x m Q := by
  refine CX.to (Lv := [some (.ref (ad 3 0)), some (.ref (ad 5 p1)), some (.int p2), some (.int p3), some (.int p4), none]) okX3_changeCost (Nat.le_of_ble_eq_true rfl) rfl ?_
  obtain ⟨Φ0, hΦ⟩ : ∃ Φ : Option (Int32) → Prop, Φ = fun o => o = some r9 := ⟨_, rfl⟩
  have hN0 : Φ0 none → False := by rw [hΦ]; intro h; cases h
  have hR0 : ∀ z9, Φ0 (some z9) → Q (some (.int z9)) x m := by rw [hΦ]; intro z9 h; cases h; exact hq
  have h9 : Φ0 (f_X3_changeCost x p1 p2 p3 p4) := by rw [hΦ]; exact hf
  clear hf hq hΦ
  unfold f_X3_changeCost at h9
  refine e_iload_n dX3_changeCost_0 rfl rfl ?_
  have hj30 : Φ0 (j_X3_changeCost_30 x p1 p2 p3 p4) → EX g d MX3_changeCost ad x m 30 [some (.ref (ad 3 0)), none, none, none, none, none] [] Q := by
    intro h9
    unfold j_X3_changeCost_30 at h9
    refine e_iconst (v := 0) dX3_changeCost_30 rfl ?_
    refine e_istore (L' := [some (.ref (ad 3 0)), none, none, none, none, some (.int 0)]) dX3_changeCost_31 (by decide) rfl ?_
    refine e_iload dX3_changeCost_33 rfl ?_
    refine e_if_eq (tgt := 42) dX3_changeCost_35 rfl (fun hc1 => ?_) (fun hc1 => ?_)
    · replace h9 := ifT hc1 h9
      refine e_aload_n dX3_changeCost_42 rfl rfl ?_
      refine g_302 flX3_19 dX3_changeCost_43 ?_
      exact x_iret dX3_changeCost_46 rfl (hR0 _ h9)
    · replace h9 := ifF hc1 h9
      refine e_iconst (v := 0) dX3_changeCost_38 rfl ?_
      refine e_goto (tgt := 46) dX3_changeCost_39 rfl ?_
      exact x_iret dX3_changeCost_46 rfl (hR0 _ h9)
  refine e_if_eq (tgt := 30) dX3_changeCost_1 rfl (fun hc2 => ?_) (fun hc2 => ?_)
  · replace h9 := ifT hc2 h9
    refine e_wk (L' := [some (.ref (ad 3 0)), none, none, none, none, none]) (wkC (wkN (wkN (wkN (wkN (wkN wk0)))))) ?_
    exact hj30 h9
  · replace h9 := ifF hc2 h9
    refine e_aload_n dX3_changeCost_4 rfl rfl ?_
    obtain ⟨k3, h9⟩ := chkP hN0 h9
    refine g_501 flX3_49 dX3_changeCost_5 k3 ?_
    refine e_iload_n dX3_changeCost_8 rfl rfl ?_
    obtain ⟨k4, h9⟩ := chkP hN0 h9
    refine l_501 dX3_changeCost_9 k3 (inb_in k4) ?_
    obtain ⟨k5, h9⟩ := chkP hN0 h9
    refine e_top (v := .ref (ad 8 (8 * p1 + p3.toNatClampNeg))) (rfT k5) ?_
    obtain ⟨k6, h9⟩ := chkP hN0 h9
    refine g_800 flX3_89 dX3_changeCost_10 k6 ?_
    refine e_aload_n dX3_changeCost_13 rfl rfl ?_
    refine g_501 flX3_49 dX3_changeCost_14 k3 ?_
    refine e_iload dX3_changeCost_17 rfl ?_
    refine e_pc (pc' := 19) rfl ?_
    obtain ⟨k7, h9⟩ := chkP hN0 h9
    refine l_501 dX3_changeCost_19 k3 (inb_in k7) ?_
    obtain ⟨k8, h9⟩ := chkP hN0 h9
    refine e_top (v := .ref (ad 8 (8 * p1 + p4.toNatClampNeg))) (rfT k8) ?_
    obtain ⟨k9, h9⟩ := chkP hN0 h9
    refine g_800 flX3_89 dX3_changeCost_20 k9 ?_
    refine e_icmp_ne (tgt := 30) dX3_changeCost_23 rfl (fun hc10 => ?_) (fun hc10 => ?_)
    · replace h9 := ifF hc10 h9
      refine e_wk (L' := [some (.ref (ad 3 0)), none, none, none, none, none]) (wkC (wkN (wkN (wkN (wkN (wkN wk0)))))) ?_
      exact hj30 h9
    · replace h9 := ifT hc10 h9
      refine e_iconst (v := 1) dX3_changeCost_26 rfl ?_
      refine e_goto (tgt := 31) dX3_changeCost_27 rfl ?_
      refine e_istore (L' := [some (.ref (ad 3 0)), some (.ref (ad 5 p1)), some (.int p2), some (.int p3), some (.int p4), some (.int 1)]) dX3_changeCost_31 (by decide) rfl ?_
      refine e_iload dX3_changeCost_33 rfl ?_
      refine e_if_eq (tgt := 42) dX3_changeCost_35 rfl (fun hc11 => ?_) (fun hc11 => ?_)
      · replace h9 := ifT hc11 h9
        refine e_aload_n dX3_changeCost_42 rfl rfl ?_
        refine g_302 flX3_19 dX3_changeCost_43 ?_
        exact x_iret dX3_changeCost_46 rfl (hR0 _ h9)
      · replace h9 := ifF hc11 h9
        refine e_iconst (v := 0) dX3_changeCost_38 rfl ?_
        refine e_goto (tgt := 46) dX3_changeCost_39 rfl ?_
        exact x_iret dX3_changeCost_46 rfl (hR0 _ h9)
noncomputable def j_X3_fillWithNext_45 (x : VM) (p1 : Nat) (p2 : Int32) (p3 : Int32) (p4 : Int32) (v2 : Int32 × VM) (r1 : Int32) : (Int32 × VM) ⊕ (Option (VM)) := (f_X3_changeCost v2.2 p1 p3 v2.1 p4).elim (Sum.inr none) (fun r5 => if inb ((p3 * 8) + v2.1) 2048 = true then if inb ((p3 * 8) + v2.1) 2048 = true then Sum.inl (v2.1 + 1, setA v2.2 307 0 (upd (v2.2.2.1 307 0) (((p3 * 8) + v2.1).toNatClampNeg) (if (r1 + r5) < (v2.2.2.1 307 0 (((p3 * 8) + v2.1).toNatClampNeg)) then (r1 + r5) else (v2.2.2.1 307 0 (((p3 * 8) + v2.1).toNatClampNeg))))) else Sum.inr none else Sum.inr none)
noncomputable def b_X3_fillWithNext_14 (x : VM) (p1 : Nat) (p2 : Int32) (p3 : Int32) (p4 : Int32) (r1 : Int32) (v2 : Int32 × VM) : (Int32 × VM) ⊕ (Option (VM)) := if p1 < v2.2.2.2.2 5 then if (v2.2.1 502 p1) ≤ v2.1 then Sum.inr (some v2.2) else if p3 = 0 then if v2.1 = 0 then j_X3_fillWithNext_45 x p1 p2 p3 p4 v2 r1 else Sum.inl (v2.1 + 1, v2.2) else if ((p3 >>> (v2.1 &&& 31)) &&& 1) = 1 then j_X3_fillWithNext_45 x p1 p2 p3 p4 v2 r1 else Sum.inl (v2.1 + 1, v2.2) else Sum.inr none
noncomputable def f_X3_fillWithNext (x : VM) (p1 : Nat) (p2 : Int32) (p3 : Int32) (p4 : Int32) : Option (VM) := (f_X3_onwardCost x p1 p2 p3 p4).elim none (fun r1 => loopF none (b_X3_fillWithNext_14 x p1 p2 p3 p4 r1) (0, x))
theorem c_X3_fillWithNext {g : GG} {d : Nat} {ad : AD} {x m : VM} {Q : Option Value → VM → VM → Prop} (p1 : Nat) (p2 : Int32) (p3 : Int32) (p4 : Int32) {w9 : VM} (hf : f_X3_fillWithNext x p1 p2 p3 p4 = some w9) (hq : Q none w9 m) : CX g (d + 2) MX3_fillWithNext [.ref (ad 3 0), .ref (ad 5 p1), .int p2, .int p3, .int p4] ad x m Q := by
  refine CX.to (Lv := [some (.ref (ad 3 0)), some (.ref (ad 5 p1)), some (.int p2), some (.int p3), some (.int p4), none, none, none, none]) okX3_fillWithNext (Nat.le_of_ble_eq_true rfl) rfl ?_
  obtain ⟨Φ0, hΦ⟩ : ∃ Φ : Option (VM) → Prop, Φ = fun o => o = some w9 := ⟨_, rfl⟩
  have hN0 : Φ0 none → False := by rw [hΦ]; intro h; cases h
  have hR0 : ∀ z9, Φ0 (some z9) → Q none z9 m := by rw [hΦ]; intro z9 h; cases h; exact hq
  have h9 : Φ0 (f_X3_fillWithNext x p1 p2 p3 p4) := by rw [hΦ]; exact hf
  clear hf hq hΦ
  unfold f_X3_fillWithNext at h9
  refine e_aload_n dX3_fillWithNext_0 rfl rfl ?_
  refine e_aload_n dX3_fillWithNext_1 rfl rfl ?_
  refine e_iload_n dX3_fillWithNext_2 rfl rfl ?_
  refine e_iload_n dX3_fillWithNext_3 rfl rfl ?_
  refine e_iload dX3_fillWithNext_4 rfl ?_
  obtain ⟨r1, hr1, h9⟩ := elimP hN0 h9
  refine x_callVi (c := 3) (As := [.ref (ad 5 p1), .int p2, .int p3, .int p4]) (rest := []) okX3_onwardCost lkX3_70 rfl (by decide) rfl dX3_fillWithNext_6 rfl rfl (Nat.le_of_ble_eq_true rfl) rfl (c_X3_onwardCost p1 p2 p3 p4 hr1 (CI.mk ?_))
  refine e_istore (L' := [some (.ref (ad 3 0)), some (.ref (ad 5 p1)), some (.int p2), some (.int p3), some (.int p4), some (.int r1), none, none, none]) dX3_fillWithNext_9 (by decide) rfl ?_
  refine e_iconst (v := 0) dX3_fillWithNext_11 rfl ?_
  refine e_pc (pc' := 12) rfl ?_
  refine e_istore (L' := [some (.ref (ad 3 0)), some (.ref (ad 5 p1)), some (.int p2), some (.int p3), some (.int p4), some (.int r1), some (.int 0), none, none]) dX3_fillWithNext_12 (by decide) rfl ?_
  refine e_wk (L' := [some (.ref (ad 3 0)), some (.ref (ad 5 p1)), none, some (.int p3), some (.int p4), some (.int r1), some (.int 0), none, none]) (wkC (wkC (wkN (wkC (wkC (wkC (wkC (wkN (wkN wk0))))))))) ?_
  refine loop_gen (b_X3_fillWithNext_14 x p1 p2 p3 p4 r1) none (fun v2 => EX g (d + 2) MX3_fillWithNext ad v2.2 m 14 [some (.ref (ad 3 0)), some (.ref (ad 5 p1)), none, some (.int p3), some (.int p4), some (.int r1), some (.int v2.1), none, none] [] Q) Φ0 hN0 (fun v2 Φ1 hB0_1 hO1 h9 => ?_) (0, x) h9
  have hN1 := fun h => hN0 (hO1 _ h)
  have hR1 := fun r9 h => hR0 r9 (hO1 _ h)
  have hB0_1 : ∀ (z0 : Int32) (z1 : VM), Φ1 (Sum.inl (z0, z1)) → EX g (d + 2) MX3_fillWithNext ad z1 m 14 [some (.ref (ad 3 0)), some (.ref (ad 5 p1)), none, some (.int p3), some (.int p4), some (.int r1), some (.int z0), none, none] [] Q := fun z0 z1 h => hB0_1 (z0, z1) h
  unfold b_X3_fillWithNext_14 at h9
  refine e_iload dX3_fillWithNext_14 rfl ?_
  refine e_aload_n dX3_fillWithNext_16 rfl rfl ?_
  obtain ⟨k3, h9⟩ := chkP hN1 h9
  refine g_502 flX3_38 dX3_fillWithNext_17 k3 ?_
  refine e_icmp_ge (tgt := 94) dX3_fillWithNext_20 rfl (fun hc4 => ?_) (fun hc4 => ?_)
  · replace h9 := ifT hc4 h9
    exact x_vret dX3_fillWithNext_94 rfl (hR1 _ h9)
  · replace h9 := ifF hc4 h9
    refine e_iload_n dX3_fillWithNext_23 rfl rfl ?_
    have hj45 : Φ1 (j_X3_fillWithNext_45 x p1 p2 p3 p4 v2 r1) → EX g (d + 2) MX3_fillWithNext ad v2.2 m 45 [some (.ref (ad 3 0)), some (.ref (ad 5 p1)), none, some (.int p3), some (.int p4), some (.int r1), some (.int v2.1), none, none] [] Q := by
      intro h9
      unfold j_X3_fillWithNext_45 at h9
      refine e_iload_n dX3_fillWithNext_45 rfl rfl ?_
      refine e_bipush (v := 8) dX3_fillWithNext_46 rfl ?_
      refine e_imul dX3_fillWithNext_48 ?_
      refine e_iload dX3_fillWithNext_49 rfl ?_
      refine e_iadd dX3_fillWithNext_51 ?_
      refine e_istore (L' := [some (.ref (ad 3 0)), some (.ref (ad 5 p1)), none, some (.int p3), some (.int p4), some (.int r1), some (.int v2.1), some (.int ((p3 * 8) + v2.1)), none]) dX3_fillWithNext_52 (by decide) rfl ?_
      refine e_iload dX3_fillWithNext_54 rfl ?_
      refine e_aload_n dX3_fillWithNext_56 rfl rfl ?_
      refine e_pc (pc' := 57) rfl ?_
      refine e_aload_n dX3_fillWithNext_57 rfl rfl ?_
      refine e_iload_n dX3_fillWithNext_58 rfl rfl ?_
      refine e_iload dX3_fillWithNext_59 rfl ?_
      refine e_iload dX3_fillWithNext_61 rfl ?_
      obtain ⟨r5, hr5, h9⟩ := elimP hN1 h9
      refine x_callVi (c := 3) (As := [.ref (ad 5 p1), .int p3, .int v2.1, .int p4]) (rest := [.int r1]) okX3_changeCost lkX3_74 rfl (by decide) rfl dX3_fillWithNext_63 rfl rfl (Nat.le_of_ble_eq_true rfl) rfl (c_X3_changeCost p1 p3 v2.1 p4 hr5 (CI.mk ?_))
      refine e_iadd dX3_fillWithNext_66 ?_
      refine e_istore (L' := [some (.ref (ad 3 0)), some (.ref (ad 5 p1)), none, some (.int p3), some (.int p4), some (.int r1), some (.int v2.1), some (.int ((p3 * 8) + v2.1)), some (.int (r1 + r5))]) dX3_fillWithNext_67 (by decide) rfl ?_
      refine e_aload_n dX3_fillWithNext_69 rfl rfl ?_
      refine g_307 flX3_35 dX3_fillWithNext_70 ?_
      refine e_pc (pc' := 73) rfl ?_
      refine e_iload dX3_fillWithNext_73 rfl ?_
      refine e_aload_n dX3_fillWithNext_75 rfl rfl ?_
      refine g_307 flX3_35 dX3_fillWithNext_76 ?_
      refine e_iload dX3_fillWithNext_79 rfl ?_
      obtain ⟨k6, h9⟩ := chkP hN1 h9
      refine l_307 dX3_fillWithNext_81 (inb_in k6) ?_
      refine e_iload dX3_fillWithNext_82 rfl ?_
      refine e_mmin mmX3_77 dX3_fillWithNext_84 (Nat.le_of_ble_eq_true rfl) ?_
      obtain ⟨k7, h9⟩ := chkP hN1 h9
      refine s_307 dX3_fillWithNext_87 (inb_in k7) ?_
      refine e_iinc (v := (v2.1 + 1)) (L' := [some (.ref (ad 3 0)), some (.ref (ad 5 p1)), none, some (.int p3), some (.int p4), some (.int r1), some (.int (v2.1 + 1)), some (.int ((p3 * 8) + v2.1)), some (.int (r1 + r5))]) dX3_fillWithNext_88 rfl rfl (by decide) rfl ?_
      refine e_pc (pc' := 91) rfl ?_
      refine e_goto (tgt := 14) dX3_fillWithNext_91 rfl ?_
      refine e_wk (L' := [some (.ref (ad 3 0)), some (.ref (ad 5 p1)), none, some (.int p3), some (.int p4), some (.int r1), some (.int (v2.1 + 1)), none, none]) (wkC (wkC (wkN (wkC (wkC (wkC (wkC (wkN (wkN wk0))))))))) ?_
      exact hB0_1 _ _ h9
    refine e_if_ne (tgt := 35) dX3_fillWithNext_24 rfl (fun hc8 => ?_) (fun hc8 => ?_)
    · replace h9 := ifF hc8 h9
      refine e_iload_n dX3_fillWithNext_35 rfl rfl ?_
      refine e_iload dX3_fillWithNext_36 rfl ?_
      refine e_ishr dX3_fillWithNext_38 ?_
      refine e_iconst (v := 1) dX3_fillWithNext_39 rfl ?_
      refine e_iand dX3_fillWithNext_40 ?_
      refine e_iconst (v := 1) dX3_fillWithNext_41 rfl ?_
      refine e_icmp_ne (tgt := 88) dX3_fillWithNext_42 rfl (fun hc9 => ?_) (fun hc9 => ?_)
      · replace h9 := ifF hc9 h9
        refine e_iinc (v := (v2.1 + 1)) (L' := [some (.ref (ad 3 0)), some (.ref (ad 5 p1)), none, some (.int p3), some (.int p4), some (.int r1), some (.int (v2.1 + 1)), none, none]) dX3_fillWithNext_88 rfl rfl (by decide) rfl ?_
        refine e_goto (tgt := 14) dX3_fillWithNext_91 rfl ?_
        exact hB0_1 _ _ h9
      · replace h9 := ifT hc9 h9
        exact hj45 h9
    · replace h9 := ifT hc8 h9
      refine e_iload dX3_fillWithNext_27 rfl ?_
      refine e_if_ne (tgt := 88) dX3_fillWithNext_29 rfl (fun hc10 => ?_) (fun hc10 => ?_)
      · replace h9 := ifF hc10 h9
        refine e_iinc (v := (v2.1 + 1)) (L' := [some (.ref (ad 3 0)), some (.ref (ad 5 p1)), none, some (.int p3), some (.int p4), some (.int r1), some (.int (v2.1 + 1)), none, none]) dX3_fillWithNext_88 rfl rfl (by decide) rfl ?_
        refine e_goto (tgt := 14) dX3_fillWithNext_91 rfl ?_
        exact hB0_1 _ _ h9
      · replace h9 := ifT hc10 h9
        refine e_goto (tgt := 45) dX3_fillWithNext_32 rfl ?_
        exact hj45 h9
noncomputable def b_X3_fillLeast_67 (x : VM) (p1 : Nat) (p2 : Int32) (v1 : Int32 × VM) (v3 : Int32 × VM) (v5 : Int32 × VM) (v7 : Int32 × VM) : (Int32 × VM) ⊕ ((Int32 × VM) ⊕ ((Int32 × VM) ⊕ ((Int32 × VM) ⊕ (Option (VM))))) := if p1 < v7.2.2.2.2 5 then if (v7.2.1 502 p1) ≤ v7.1 then Sum.inr (Sum.inr (Sum.inl (v3.1 + (-1), v7.2))) else if ((v3.1 >>> (v7.1 &&& 31)) &&& 1) = 0 then (f_X3_fillWithNext v7.2 p1 p2 v3.1 v7.1).elim (Sum.inr (Sum.inr (Sum.inr (Sum.inr none)))) (fun r11 => Sum.inl (v7.1 + 1, r11)) else Sum.inl (v7.1 + 1, v7.2) else Sum.inr (Sum.inr (Sum.inr (Sum.inr none)))
noncomputable def b_X3_fillLeast_37 (x : VM) (p1 : Nat) (p2 : Int32) (v1 : Int32 × VM) (v3 : Int32 × VM) (v5 : Int32 × VM) : (Int32 × VM) ⊕ ((Int32 × VM) ⊕ ((Int32 × VM) ⊕ (Option (VM)))) := if 8 ≤ v5.1 then loopF (Sum.inr (Sum.inr (Sum.inr none))) (b_X3_fillLeast_67 x p1 p2 v1 v3 v5) (0, v5.2) else if inb ((v3.1 * 8) + v5.1) 2048 = true then Sum.inl (v5.1 + 1, setA v5.2 307 0 (upd (v5.2.2.1 307 0) (((v3.1 * 8) + v5.1).toNatClampNeg) 1000000000)) else Sum.inr (Sum.inr (Sum.inr none))
noncomputable def b_X3_fillLeast_30 (x : VM) (p1 : Nat) (p2 : Int32) (v1 : Int32 × VM) (v3 : Int32 × VM) : (Int32 × VM) ⊕ ((Int32 × VM) ⊕ (Option (VM))) := if v3.1 < 0 then Sum.inr (Sum.inr (some v3.2)) else loopF (Sum.inr (Sum.inr none)) (b_X3_fillLeast_37 x p1 p2 v1 v3) (0, v3.2)
noncomputable def b_X3_fillLeast_2 (x : VM) (p1 : Nat) (p2 : Int32) (v1 : Int32 × VM) : (Int32 × VM) ⊕ (Option (VM)) := if 8 ≤ v1.1 then loopF (Sum.inr none) (b_X3_fillLeast_30 x p1 p2 v1) (p2 - 1, v1.2) else if inb ((p2 * 8) + v1.1) 2048 = true then Sum.inl (v1.1 + 1, setA v1.2 307 0 (upd (v1.2.2.1 307 0) (((p2 * 8) + v1.1).toNatClampNeg) 0)) else Sum.inr none
noncomputable def f_X3_fillLeast (x : VM) (p1 : Nat) (p2 : Int32) : Option (VM) := loopF none (b_X3_fillLeast_2 x p1 p2) (0, x)
theorem c_X3_fillLeast {g : GG} {d : Nat} {ad : AD} {x m : VM} {Q : Option Value → VM → VM → Prop} (p1 : Nat) (p2 : Int32) {w9 : VM} (hf : f_X3_fillLeast x p1 p2 = some w9) (hq : Q none w9 m) : CX g (d + 3) MX3_fillLeast [.ref (ad 3 0), .ref (ad 5 p1), .int p2] ad x m Q := by
  refine CX.to (Lv := [some (.ref (ad 3 0)), some (.ref (ad 5 p1)), some (.int p2), none, none]) okX3_fillLeast (Nat.le_of_ble_eq_true rfl) rfl ?_
  obtain ⟨Φ0, hΦ⟩ : ∃ Φ : Option (VM) → Prop, Φ = fun o => o = some w9 := ⟨_, rfl⟩
  have hN0 : Φ0 none → False := by rw [hΦ]; intro h; cases h
  have hR0 : ∀ z9, Φ0 (some z9) → Q none z9 m := by rw [hΦ]; intro z9 h; cases h; exact hq
  have h9 : Φ0 (f_X3_fillLeast x p1 p2) := by rw [hΦ]; exact hf
  clear hf hq hΦ
  unfold f_X3_fillLeast at h9
  refine e_iconst (v := 0) dX3_fillLeast_0 rfl ?_
  refine e_istore_n (L' := [some (.ref (ad 3 0)), some (.ref (ad 5 p1)), some (.int p2), some (.int 0), none]) dX3_fillLeast_1 rfl (by decide) rfl ?_
  refine loop_gen (b_X3_fillLeast_2 x p1 p2) none (fun v1 => EX g (d + 3) MX3_fillLeast ad v1.2 m 2 [some (.ref (ad 3 0)), some (.ref (ad 5 p1)), some (.int p2), some (.int v1.1), none] [] Q) Φ0 hN0 (fun v1 Φ1 hB0_1 hO1 h9 => ?_) (0, x) h9
  have hN1 := fun h => hN0 (hO1 _ h)
  have hR1 := fun r9 h => hR0 r9 (hO1 _ h)
  have hB0_1 : ∀ (z0 : Int32) (z1 : VM), Φ1 (Sum.inl (z0, z1)) → EX g (d + 3) MX3_fillLeast ad z1 m 2 [some (.ref (ad 3 0)), some (.ref (ad 5 p1)), some (.int p2), some (.int z0), none] [] Q := fun z0 z1 h => hB0_1 (z0, z1) h
  unfold b_X3_fillLeast_2 at h9
  refine e_iload_n dX3_fillLeast_2 rfl rfl ?_
  refine e_bipush (v := 8) dX3_fillLeast_3 rfl ?_
  refine e_icmp_ge (tgt := 26) dX3_fillLeast_5 rfl (fun hc2 => ?_) (fun hc2 => ?_)
  · replace h9 := ifT hc2 h9
    refine e_iload_n dX3_fillLeast_26 rfl rfl ?_
    refine e_iconst (v := 1) dX3_fillLeast_27 rfl ?_
    refine e_isub dX3_fillLeast_28 ?_
    refine e_istore_n (L' := [some (.ref (ad 3 0)), some (.ref (ad 5 p1)), some (.int p2), some (.int (p2 - 1)), none]) dX3_fillLeast_29 rfl (by decide) rfl ?_
    refine loop_gen (b_X3_fillLeast_30 x p1 p2 v1) (Sum.inr none) (fun v3 => EX g (d + 3) MX3_fillLeast ad v3.2 m 30 [some (.ref (ad 3 0)), some (.ref (ad 5 p1)), some (.int p2), some (.int v3.1), none] [] Q) Φ1 hN1 (fun v3 Φ2 hB1_2 hO2 h9 => ?_) (p2 - 1, v1.2) h9
    have hN2 := fun h => hN1 (hO2 _ h)
    have hR2 := fun r9 h => hR1 r9 (hO2 _ h)
    have hB0_2 : ∀ (z0 : Int32) (z1 : VM), Φ2 (Sum.inr (Sum.inl (z0, z1))) → EX g (d + 3) MX3_fillLeast ad z1 m 2 [some (.ref (ad 3 0)), some (.ref (ad 5 p1)), some (.int p2), some (.int z0), none] [] Q := fun z0 z1 h => hB0_1 z0 z1 (hO2 _ h)
    have hB1_2 : ∀ (z0 : Int32) (z1 : VM), Φ2 (Sum.inl (z0, z1)) → EX g (d + 3) MX3_fillLeast ad z1 m 30 [some (.ref (ad 3 0)), some (.ref (ad 5 p1)), some (.int p2), some (.int z0), none] [] Q := fun z0 z1 h => hB1_2 (z0, z1) h
    unfold b_X3_fillLeast_30 at h9
    refine e_iload_n dX3_fillLeast_30 rfl rfl ?_
    refine e_if_lt (tgt := 106) dX3_fillLeast_31 rfl (fun hc4 => ?_) (fun hc4 => ?_)
    · replace h9 := ifT hc4 h9
      exact x_vret dX3_fillLeast_106 rfl (hR2 _ h9)
    · replace h9 := ifF hc4 h9
      refine e_iconst (v := 0) dX3_fillLeast_34 rfl ?_
      refine e_istore (L' := [some (.ref (ad 3 0)), some (.ref (ad 5 p1)), some (.int p2), some (.int v3.1), some (.int 0)]) dX3_fillLeast_35 (by decide) rfl ?_
      refine loop_gen (b_X3_fillLeast_37 x p1 p2 v1 v3) (Sum.inr (Sum.inr none)) (fun v5 => EX g (d + 3) MX3_fillLeast ad v5.2 m 37 [some (.ref (ad 3 0)), some (.ref (ad 5 p1)), some (.int p2), some (.int v3.1), some (.int v5.1)] [] Q) Φ2 hN2 (fun v5 Φ3 hB2_3 hO3 h9 => ?_) (0, v3.2) h9
      have hN3 := fun h => hN2 (hO3 _ h)
      have hR3 := fun r9 h => hR2 r9 (hO3 _ h)
      have hB0_3 : ∀ (z0 : Int32) (z1 : VM), Φ3 (Sum.inr (Sum.inr (Sum.inl (z0, z1)))) → EX g (d + 3) MX3_fillLeast ad z1 m 2 [some (.ref (ad 3 0)), some (.ref (ad 5 p1)), some (.int p2), some (.int z0), none] [] Q := fun z0 z1 h => hB0_2 z0 z1 (hO3 _ h)
      have hB1_3 : ∀ (z0 : Int32) (z1 : VM), Φ3 (Sum.inr (Sum.inl (z0, z1))) → EX g (d + 3) MX3_fillLeast ad z1 m 30 [some (.ref (ad 3 0)), some (.ref (ad 5 p1)), some (.int p2), some (.int z0), none] [] Q := fun z0 z1 h => hB1_2 z0 z1 (hO3 _ h)
      have hB2_3 : ∀ (z0 : Int32) (z1 : VM), Φ3 (Sum.inl (z0, z1)) → EX g (d + 3) MX3_fillLeast ad z1 m 37 [some (.ref (ad 3 0)), some (.ref (ad 5 p1)), some (.int p2), some (.int v3.1), some (.int z0)] [] Q := fun z0 z1 h => hB2_3 (z0, z1) h
      unfold b_X3_fillLeast_37 at h9
      refine e_iload dX3_fillLeast_37 rfl ?_
      refine e_bipush (v := 8) dX3_fillLeast_39 rfl ?_
      refine e_icmp_ge (tgt := 64) dX3_fillLeast_41 rfl (fun hc6 => ?_) (fun hc6 => ?_)
      · replace h9 := ifT hc6 h9
        refine e_iconst (v := 0) dX3_fillLeast_64 rfl ?_
        refine e_istore (L' := [some (.ref (ad 3 0)), some (.ref (ad 5 p1)), some (.int p2), some (.int v3.1), some (.int 0)]) dX3_fillLeast_65 (by decide) rfl ?_
        refine loop_gen (b_X3_fillLeast_67 x p1 p2 v1 v3 v5) (Sum.inr (Sum.inr (Sum.inr none))) (fun v7 => EX g (d + 3) MX3_fillLeast ad v7.2 m 67 [some (.ref (ad 3 0)), some (.ref (ad 5 p1)), some (.int p2), some (.int v3.1), some (.int v7.1)] [] Q) Φ3 hN3 (fun v7 Φ4 hB3_4 hO4 h9 => ?_) (0, v5.2) h9
        have hN4 := fun h => hN3 (hO4 _ h)
        have hR4 := fun r9 h => hR3 r9 (hO4 _ h)
        have hB0_4 : ∀ (z0 : Int32) (z1 : VM), Φ4 (Sum.inr (Sum.inr (Sum.inr (Sum.inl (z0, z1))))) → EX g (d + 3) MX3_fillLeast ad z1 m 2 [some (.ref (ad 3 0)), some (.ref (ad 5 p1)), some (.int p2), some (.int z0), none] [] Q := fun z0 z1 h => hB0_3 z0 z1 (hO4 _ h)
        have hB1_4 : ∀ (z0 : Int32) (z1 : VM), Φ4 (Sum.inr (Sum.inr (Sum.inl (z0, z1)))) → EX g (d + 3) MX3_fillLeast ad z1 m 30 [some (.ref (ad 3 0)), some (.ref (ad 5 p1)), some (.int p2), some (.int z0), none] [] Q := fun z0 z1 h => hB1_3 z0 z1 (hO4 _ h)
        have hB2_4 : ∀ (z0 : Int32) (z1 : VM), Φ4 (Sum.inr (Sum.inl (z0, z1))) → EX g (d + 3) MX3_fillLeast ad z1 m 37 [some (.ref (ad 3 0)), some (.ref (ad 5 p1)), some (.int p2), some (.int v3.1), some (.int z0)] [] Q := fun z0 z1 h => hB2_3 z0 z1 (hO4 _ h)
        have hB3_4 : ∀ (z0 : Int32) (z1 : VM), Φ4 (Sum.inl (z0, z1)) → EX g (d + 3) MX3_fillLeast ad z1 m 67 [some (.ref (ad 3 0)), some (.ref (ad 5 p1)), some (.int p2), some (.int v3.1), some (.int z0)] [] Q := fun z0 z1 h => hB3_4 (z0, z1) h
        unfold b_X3_fillLeast_67 at h9
        refine e_iload dX3_fillLeast_67 rfl ?_
        refine e_aload_n dX3_fillLeast_69 rfl rfl ?_
        obtain ⟨k8, h9⟩ := chkP hN4 h9
        refine g_502 flX3_38 dX3_fillLeast_70 k8 ?_
        refine e_icmp_ge (tgt := 100) dX3_fillLeast_73 rfl (fun hc9 => ?_) (fun hc9 => ?_)
        · replace h9 := ifT hc9 h9
          refine e_iinc (v := (v3.1 + (-1))) (L' := [some (.ref (ad 3 0)), some (.ref (ad 5 p1)), some (.int p2), some (.int (v3.1 + (-1))), some (.int v7.1)]) dX3_fillLeast_100 rfl rfl (by decide) rfl ?_
          refine e_goto (tgt := 30) dX3_fillLeast_103 rfl ?_
          refine e_wk (L' := [some (.ref (ad 3 0)), some (.ref (ad 5 p1)), some (.int p2), some (.int (v3.1 + (-1))), none]) (wkC (wkC (wkC (wkC (wkN wk0))))) ?_
          exact hB1_4 _ _ h9
        · replace h9 := ifF hc9 h9
          refine e_iload_n dX3_fillLeast_76 rfl rfl ?_
          refine e_iload dX3_fillLeast_77 rfl ?_
          refine e_ishr dX3_fillLeast_79 ?_
          refine e_iconst (v := 1) dX3_fillLeast_80 rfl ?_
          refine e_iand dX3_fillLeast_81 ?_
          refine e_if_ne (tgt := 94) dX3_fillLeast_82 rfl (fun hc10 => ?_) (fun hc10 => ?_)
          · replace h9 := ifF hc10 h9
            refine e_iinc (v := (v7.1 + 1)) (L' := [some (.ref (ad 3 0)), some (.ref (ad 5 p1)), some (.int p2), some (.int v3.1), some (.int (v7.1 + 1))]) dX3_fillLeast_94 rfl rfl (by decide) rfl ?_
            refine e_goto (tgt := 67) dX3_fillLeast_97 rfl ?_
            exact hB3_4 _ _ h9
          · replace h9 := ifT hc10 h9
            refine e_aload_n dX3_fillLeast_85 rfl rfl ?_
            refine e_aload_n dX3_fillLeast_86 rfl rfl ?_
            refine e_iload_n dX3_fillLeast_87 rfl rfl ?_
            refine e_iload_n dX3_fillLeast_88 rfl rfl ?_
            refine e_iload dX3_fillLeast_89 rfl ?_
            obtain ⟨r11, hr11, h9⟩ := elimP hN4 h9
            refine x_callVv (c := 3) (As := [.ref (ad 5 p1), .int p2, .int v3.1, .int v7.1]) (rest := []) okX3_fillWithNext lkX3_66 rfl (by decide) rfl dX3_fillLeast_91 rfl rfl (Nat.le_of_ble_eq_true rfl) rfl (c_X3_fillWithNext p1 p2 v3.1 v7.1 hr11 (CV.mk ?_))
            refine e_iinc (v := (v7.1 + 1)) (L' := [some (.ref (ad 3 0)), some (.ref (ad 5 p1)), some (.int p2), some (.int v3.1), some (.int (v7.1 + 1))]) dX3_fillLeast_94 rfl rfl (by decide) rfl ?_
            refine e_goto (tgt := 67) dX3_fillLeast_97 rfl ?_
            exact hB3_4 _ _ h9
      · replace h9 := ifF hc6 h9
        refine e_aload_n dX3_fillLeast_44 rfl rfl ?_
        refine g_307 flX3_35 dX3_fillLeast_45 ?_
        refine e_iload_n dX3_fillLeast_48 rfl rfl ?_
        refine e_bipush (v := 8) dX3_fillLeast_49 rfl ?_
        refine e_imul dX3_fillLeast_51 ?_
        refine e_iload dX3_fillLeast_52 rfl ?_
        refine e_iadd dX3_fillLeast_54 ?_
        refine e_ldc (v := 1000000000) rfl kcX3_65 dX3_fillLeast_55 ?_
        refine e_pc (pc' := 57) rfl ?_
        obtain ⟨k13, h9⟩ := chkP hN3 h9
        refine s_307 dX3_fillLeast_57 (inb_in k13) ?_
        refine e_iinc (v := (v5.1 + 1)) (L' := [some (.ref (ad 3 0)), some (.ref (ad 5 p1)), some (.int p2), some (.int v3.1), some (.int (v5.1 + 1))]) dX3_fillLeast_58 rfl rfl (by decide) rfl ?_
        refine e_goto (tgt := 37) dX3_fillLeast_61 rfl ?_
        exact hB2_3 _ _ h9
  · replace h9 := ifF hc2 h9
    refine e_aload_n dX3_fillLeast_8 rfl rfl ?_
    refine g_307 flX3_35 dX3_fillLeast_9 ?_
    refine e_iload_n dX3_fillLeast_12 rfl rfl ?_
    refine e_bipush (v := 8) dX3_fillLeast_13 rfl ?_
    refine e_imul dX3_fillLeast_15 ?_
    refine e_iload_n dX3_fillLeast_16 rfl rfl ?_
    refine e_iadd dX3_fillLeast_17 ?_
    refine e_iconst (v := 0) dX3_fillLeast_18 rfl ?_
    refine e_pc (pc' := 19) rfl ?_
    obtain ⟨k14, h9⟩ := chkP hN1 h9
    refine s_307 dX3_fillLeast_19 (inb_in k14) ?_
    refine e_iinc (v := (v1.1 + 1)) (L' := [some (.ref (ad 3 0)), some (.ref (ad 5 p1)), some (.int p2), some (.int (v1.1 + 1)), none]) dX3_fillLeast_20 rfl rfl (by decide) rfl ?_
    refine e_goto (tgt := 2) dX3_fillLeast_23 rfl ?_
    exact hB0_1 _ _ h9
noncomputable def b_X3_firstOfBest_17 (x : VM) (p1 : Nat) (p2 : Int32) (p3 : Int32) (p4 : Int32) (v2 : Int32) : (Int32) ⊕ (Option (Int32)) := if p1 < x.2.2.2 5 then if (x.1 502 p1) ≤ v2 then Sum.inr (some 0) else if ((p3 >>> (v2 &&& 31)) &&& 1) = 0 then (f_X3_onwardCost x p1 p2 p3 v2).elim (Sum.inr none) (fun r6 => (f_X3_changeCost x p1 p3 p4 v2).elim (Sum.inr none) (fun r7 => if (r6 + r7) = (x.2.1 307 0 (((p3 * 8) + p4).toNatClampNeg)) then Sum.inr (some v2) else Sum.inl (v2 + 1))) else Sum.inl (v2 + 1) else Sum.inr none
noncomputable def f_X3_firstOfBest (x : VM) (p1 : Nat) (p2 : Int32) (p3 : Int32) (p4 : Int32) : Option (Int32) := if inb ((p3 * 8) + p4) 2048 = true then loopF none (b_X3_firstOfBest_17 x p1 p2 p3 p4) 0 else none
theorem c_X3_firstOfBest {g : GG} {d : Nat} {ad : AD} {x m : VM} {Q : Option Value → VM → VM → Prop} (p1 : Nat) (p2 : Int32) (p3 : Int32) (p4 : Int32) {r9 : Int32} (hf : f_X3_firstOfBest x p1 p2 p3 p4 = some r9) (hq : Q (some (.int r9)) x m) : CX g (d + 2) MX3_firstOfBest [.ref (ad 3 0), .ref (ad 5 p1), .int p2, .int p3, .int p4] ad x m Q := by
  refine CX.to (Lv := [some (.ref (ad 3 0)), some (.ref (ad 5 p1)), some (.int p2), some (.int p3), some (.int p4), none, none, none]) okX3_firstOfBest (Nat.le_of_ble_eq_true rfl) rfl ?_
  obtain ⟨Φ0, hΦ⟩ : ∃ Φ : Option (Int32) → Prop, Φ = fun o => o = some r9 := ⟨_, rfl⟩
  have hN0 : Φ0 none → False := by rw [hΦ]; intro h; cases h
  have hR0 : ∀ z9, Φ0 (some z9) → Q (some (.int z9)) x m := by rw [hΦ]; intro z9 h; cases h; exact hq
  have h9 : Φ0 (f_X3_firstOfBest x p1 p2 p3 p4) := by rw [hΦ]; exact hf
  clear hf hq hΦ
  unfold f_X3_firstOfBest at h9
  refine e_aload_n dX3_firstOfBest_0 rfl rfl ?_
  refine g_307 flX3_35 dX3_firstOfBest_1 ?_
  refine e_iload_n dX3_firstOfBest_4 rfl rfl ?_
  refine e_bipush (v := 8) dX3_firstOfBest_5 rfl ?_
  refine e_imul dX3_firstOfBest_7 ?_
  refine e_iload dX3_firstOfBest_8 rfl ?_
  refine e_iadd dX3_firstOfBest_10 ?_
  obtain ⟨k1, h9⟩ := chkP hN0 h9
  refine l_307 dX3_firstOfBest_11 (inb_in k1) ?_
  refine e_pc (pc' := 12) rfl ?_
  refine e_istore (L' := [some (.ref (ad 3 0)), some (.ref (ad 5 p1)), some (.int p2), some (.int p3), some (.int p4), some (.int (x.2.1 307 0 (((p3 * 8) + p4).toNatClampNeg))), none, none]) dX3_firstOfBest_12 (by decide) rfl ?_
  refine e_iconst (v := 0) dX3_firstOfBest_14 rfl ?_
  refine e_istore (L' := [some (.ref (ad 3 0)), some (.ref (ad 5 p1)), some (.int p2), some (.int p3), some (.int p4), some (.int (x.2.1 307 0 (((p3 * 8) + p4).toNatClampNeg))), some (.int 0), none]) dX3_firstOfBest_15 (by decide) rfl ?_
  refine loop_gen (b_X3_firstOfBest_17 x p1 p2 p3 p4) none (fun v2 => EX g (d + 2) MX3_firstOfBest ad x m 17 [some (.ref (ad 3 0)), some (.ref (ad 5 p1)), some (.int p2), some (.int p3), some (.int p4), some (.int (x.2.1 307 0 (((p3 * 8) + p4).toNatClampNeg))), some (.int v2), none] [] Q) Φ0 hN0 (fun v2 Φ1 hB0_1 hO1 h9 => ?_) 0 h9
  have hN1 := fun h => hN0 (hO1 _ h)
  have hR1 := fun r9 h => hR0 r9 (hO1 _ h)
  have hB0_1 : ∀ (z0 : Int32), Φ1 (Sum.inl z0) → EX g (d + 2) MX3_firstOfBest ad x m 17 [some (.ref (ad 3 0)), some (.ref (ad 5 p1)), some (.int p2), some (.int p3), some (.int p4), some (.int (x.2.1 307 0 (((p3 * 8) + p4).toNatClampNeg))), some (.int z0), none] [] Q := fun z0 h => hB0_1 z0 h
  unfold b_X3_firstOfBest_17 at h9
  refine e_iload dX3_firstOfBest_17 rfl ?_
  refine e_aload_n dX3_firstOfBest_19 rfl rfl ?_
  obtain ⟨k3, h9⟩ := chkP hN1 h9
  refine g_502 flX3_38 dX3_firstOfBest_20 k3 ?_
  refine e_icmp_ge (tgt := 73) dX3_firstOfBest_23 rfl (fun hc4 => ?_) (fun hc4 => ?_)
  · replace h9 := ifT hc4 h9
    refine e_iconst (v := 0) dX3_firstOfBest_73 rfl ?_
    exact x_iret dX3_firstOfBest_74 rfl (hR1 _ h9)
  · replace h9 := ifF hc4 h9
    refine e_iload_n dX3_firstOfBest_26 rfl rfl ?_
    refine e_iload dX3_firstOfBest_27 rfl ?_
    refine e_ishr dX3_firstOfBest_29 ?_
    refine e_iconst (v := 1) dX3_firstOfBest_30 rfl ?_
    refine e_iand dX3_firstOfBest_31 ?_
    refine e_if_ne (tgt := 67) dX3_firstOfBest_32 rfl (fun hc5 => ?_) (fun hc5 => ?_)
    · replace h9 := ifF hc5 h9
      refine e_iinc (v := (v2 + 1)) (L' := [some (.ref (ad 3 0)), some (.ref (ad 5 p1)), some (.int p2), some (.int p3), some (.int p4), some (.int (x.2.1 307 0 (((p3 * 8) + p4).toNatClampNeg))), some (.int (v2 + 1)), none]) dX3_firstOfBest_67 rfl rfl (by decide) rfl ?_
      refine e_goto (tgt := 17) dX3_firstOfBest_70 rfl ?_
      exact hB0_1 _ h9
    · replace h9 := ifT hc5 h9
      refine e_aload_n dX3_firstOfBest_35 rfl rfl ?_
      refine e_aload_n dX3_firstOfBest_36 rfl rfl ?_
      refine e_iload_n dX3_firstOfBest_37 rfl rfl ?_
      refine e_iload_n dX3_firstOfBest_38 rfl rfl ?_
      refine e_iload dX3_firstOfBest_39 rfl ?_
      obtain ⟨r6, hr6, h9⟩ := elimP hN1 h9
      refine x_callVi (c := 3) (As := [.ref (ad 5 p1), .int p2, .int p3, .int v2]) (rest := []) okX3_onwardCost lkX3_70 rfl (by decide) rfl dX3_firstOfBest_41 rfl rfl (Nat.le_of_ble_eq_true rfl) rfl (c_X3_onwardCost p1 p2 p3 v2 hr6 (CI.mk ?_))
      refine e_aload_n dX3_firstOfBest_44 rfl rfl ?_
      refine e_aload_n dX3_firstOfBest_45 rfl rfl ?_
      refine e_pc (pc' := 46) rfl ?_
      refine e_iload_n dX3_firstOfBest_46 rfl rfl ?_
      refine e_iload dX3_firstOfBest_47 rfl ?_
      refine e_iload dX3_firstOfBest_49 rfl ?_
      obtain ⟨r7, hr7, h9⟩ := elimP hN1 h9
      refine x_callVi (c := 3) (As := [.ref (ad 5 p1), .int p3, .int p4, .int v2]) (rest := [.int r6]) okX3_changeCost lkX3_74 rfl (by decide) rfl dX3_firstOfBest_51 rfl rfl (Nat.le_of_ble_eq_true rfl) rfl (c_X3_changeCost p1 p3 p4 v2 hr7 (CI.mk ?_))
      refine e_iadd dX3_firstOfBest_54 ?_
      refine e_istore (L' := [some (.ref (ad 3 0)), some (.ref (ad 5 p1)), some (.int p2), some (.int p3), some (.int p4), some (.int (x.2.1 307 0 (((p3 * 8) + p4).toNatClampNeg))), some (.int v2), some (.int (r6 + r7))]) dX3_firstOfBest_55 (by decide) rfl ?_
      refine e_iload dX3_firstOfBest_57 rfl ?_
      refine e_iload dX3_firstOfBest_59 rfl ?_
      refine e_icmp_ne (tgt := 67) dX3_firstOfBest_61 rfl (fun hc8 => ?_) (fun hc8 => ?_)
      · replace h9 := ifF hc8 h9
        refine e_iinc (v := (v2 + 1)) (L' := [some (.ref (ad 3 0)), some (.ref (ad 5 p1)), some (.int p2), some (.int p3), some (.int p4), some (.int (x.2.1 307 0 (((p3 * 8) + p4).toNatClampNeg))), some (.int (v2 + 1)), some (.int (r6 + r7))]) dX3_firstOfBest_67 rfl rfl (by decide) rfl ?_
        refine e_goto (tgt := 17) dX3_firstOfBest_70 rfl ?_
        refine e_wk (L' := [some (.ref (ad 3 0)), some (.ref (ad 5 p1)), some (.int p2), some (.int p3), some (.int p4), some (.int (x.2.1 307 0 (((p3 * 8) + p4).toNatClampNeg))), some (.int (v2 + 1)), none]) (wkC (wkC (wkC (wkC (wkC (wkC (wkC (wkN wk0)))))))) ?_
        exact hB0_1 _ h9
      · replace h9 := ifT hc8 h9
        refine e_iload dX3_firstOfBest_64 rfl ?_
        exact x_iret dX3_firstOfBest_66 rfl (hR1 _ h9)
noncomputable def b_X3_walkBest_8 (x : VM) (p1 : Nat) (p2 : Int32) (v1 : Int32 × Int32 × Int32 × VM) : (Int32 × Int32 × Int32 × VM) ⊕ (Option (VM)) := if p1 < v1.2.2.2.2.2.2 5 then if (v1.2.2.2.1 502 p1) ≤ v1.2.2.1 then Sum.inr (some v1.2.2.2) else (f_X3_firstOfBest v1.2.2.2 p1 p2 v1.1 v1.2.1).elim (Sum.inr none) (fun r4 => if inb v1.2.2.1 8 = true then Sum.inl (v1.1 ||| ((1 : Int32) <<< (r4 &&& 31)), r4, v1.2.2.1 + 1, setA v1.2.2.2 304 0 (upd (v1.2.2.2.2.1 304 0) v1.2.2.1.toNatClampNeg r4)) else Sum.inr none) else Sum.inr none
noncomputable def f_X3_walkBest (x : VM) (p1 : Nat) (p2 : Int32) : Option (VM) := loopF none (b_X3_walkBest_8 x p1 p2) (0, 0, 0, x)
theorem c_X3_walkBest {g : GG} {d : Nat} {ad : AD} {x m : VM} {Q : Option Value → VM → VM → Prop} (p1 : Nat) (p2 : Int32) {w9 : VM} (hf : f_X3_walkBest x p1 p2 = some w9) (hq : Q none w9 m) : CX g (d + 3) MX3_walkBest [.ref (ad 3 0), .ref (ad 5 p1), .int p2] ad x m Q := by
  refine CX.to (Lv := [some (.ref (ad 3 0)), some (.ref (ad 5 p1)), some (.int p2), none, none, none, none]) okX3_walkBest (Nat.le_of_ble_eq_true rfl) rfl ?_
  obtain ⟨Φ0, hΦ⟩ : ∃ Φ : Option (VM) → Prop, Φ = fun o => o = some w9 := ⟨_, rfl⟩
  have hN0 : Φ0 none → False := by rw [hΦ]; intro h; cases h
  have hR0 : ∀ z9, Φ0 (some z9) → Q none z9 m := by rw [hΦ]; intro z9 h; cases h; exact hq
  have h9 : Φ0 (f_X3_walkBest x p1 p2) := by rw [hΦ]; exact hf
  clear hf hq hΦ
  unfold f_X3_walkBest at h9
  refine e_iconst (v := 0) dX3_walkBest_0 rfl ?_
  refine e_istore_n (L' := [some (.ref (ad 3 0)), some (.ref (ad 5 p1)), some (.int p2), some (.int 0), none, none, none]) dX3_walkBest_1 rfl (by decide) rfl ?_
  refine e_iconst (v := 0) dX3_walkBest_2 rfl ?_
  refine e_istore (L' := [some (.ref (ad 3 0)), some (.ref (ad 5 p1)), some (.int p2), some (.int 0), some (.int 0), none, none]) dX3_walkBest_3 (by decide) rfl ?_
  refine e_iconst (v := 0) dX3_walkBest_5 rfl ?_
  refine e_istore (L' := [some (.ref (ad 3 0)), some (.ref (ad 5 p1)), some (.int p2), some (.int 0), some (.int 0), some (.int 0), none]) dX3_walkBest_6 (by decide) rfl ?_
  refine loop_gen (b_X3_walkBest_8 x p1 p2) none (fun v1 => EX g (d + 3) MX3_walkBest ad v1.2.2.2 m 8 [some (.ref (ad 3 0)), some (.ref (ad 5 p1)), some (.int p2), some (.int v1.1), some (.int v1.2.1), some (.int v1.2.2.1), none] [] Q) Φ0 hN0 (fun v1 Φ1 hB0_1 hO1 h9 => ?_) (0, 0, 0, x) h9
  have hN1 := fun h => hN0 (hO1 _ h)
  have hR1 := fun r9 h => hR0 r9 (hO1 _ h)
  have hB0_1 : ∀ (z0 : Int32) (z1 : Int32) (z2 : Int32) (z3 : VM), Φ1 (Sum.inl (z0, z1, z2, z3)) → EX g (d + 3) MX3_walkBest ad z3 m 8 [some (.ref (ad 3 0)), some (.ref (ad 5 p1)), some (.int p2), some (.int z0), some (.int z1), some (.int z2), none] [] Q := fun z0 z1 z2 z3 h => hB0_1 (z0, z1, z2, z3) h
  unfold b_X3_walkBest_8 at h9
  refine e_iload dX3_walkBest_8 rfl ?_
  refine e_aload_n dX3_walkBest_10 rfl rfl ?_
  obtain ⟨k2, h9⟩ := chkP hN1 h9
  refine g_502 flX3_38 dX3_walkBest_11 k2 ?_
  refine e_icmp_ge (tgt := 54) dX3_walkBest_14 rfl (fun hc3 => ?_) (fun hc3 => ?_)
  · replace h9 := ifT hc3 h9
    exact x_vret dX3_walkBest_54 rfl (hR1 _ h9)
  · replace h9 := ifF hc3 h9
    refine e_aload_n dX3_walkBest_17 rfl rfl ?_
    refine e_aload_n dX3_walkBest_18 rfl rfl ?_
    refine e_iload_n dX3_walkBest_19 rfl rfl ?_
    refine e_iload_n dX3_walkBest_20 rfl rfl ?_
    refine e_iload dX3_walkBest_21 rfl ?_
    obtain ⟨r4, hr4, h9⟩ := elimP hN1 h9
    refine x_callVi (c := 3) (As := [.ref (ad 5 p1), .int p2, .int v1.1, .int v1.2.1]) (rest := []) okX3_firstOfBest lkX3_92 rfl (by decide) rfl dX3_walkBest_23 rfl rfl (Nat.le_of_ble_eq_true rfl) rfl (c_X3_firstOfBest p1 p2 v1.1 v1.2.1 hr4 (CI.mk ?_))
    refine e_istore (L' := [some (.ref (ad 3 0)), some (.ref (ad 5 p1)), some (.int p2), some (.int v1.1), some (.int v1.2.1), some (.int v1.2.2.1), some (.int r4)]) dX3_walkBest_26 (by decide) rfl ?_
    refine e_aload_n dX3_walkBest_28 rfl rfl ?_
    refine e_pc (pc' := 29) rfl ?_
    refine g_304 flX3_25 dX3_walkBest_29 ?_
    refine e_iload dX3_walkBest_32 rfl ?_
    refine e_iload dX3_walkBest_34 rfl ?_
    obtain ⟨k5, h9⟩ := chkP hN1 h9
    refine s_304 dX3_walkBest_36 (inb_in k5) ?_
    refine e_iload_n dX3_walkBest_37 rfl rfl ?_
    refine e_iconst (v := 1) dX3_walkBest_38 rfl ?_
    refine e_iload dX3_walkBest_39 rfl ?_
    refine e_ishl dX3_walkBest_41 ?_
    refine e_ior dX3_walkBest_42 ?_
    refine e_pc (pc' := 43) rfl ?_
    refine e_istore_n (L' := [some (.ref (ad 3 0)), some (.ref (ad 5 p1)), some (.int p2), some (.int (v1.1 ||| ((1 : Int32) <<< (r4 &&& 31)))), some (.int v1.2.1), some (.int v1.2.2.1), some (.int r4)]) dX3_walkBest_43 rfl (by decide) rfl ?_
    refine e_iload dX3_walkBest_44 rfl ?_
    refine e_istore (L' := [some (.ref (ad 3 0)), some (.ref (ad 5 p1)), some (.int p2), some (.int (v1.1 ||| ((1 : Int32) <<< (r4 &&& 31)))), some (.int r4), some (.int v1.2.2.1), some (.int r4)]) dX3_walkBest_46 (by decide) rfl ?_
    refine e_iinc (v := (v1.2.2.1 + 1)) (L' := [some (.ref (ad 3 0)), some (.ref (ad 5 p1)), some (.int p2), some (.int (v1.1 ||| ((1 : Int32) <<< (r4 &&& 31)))), some (.int r4), some (.int (v1.2.2.1 + 1)), some (.int r4)]) dX3_walkBest_48 rfl rfl (by decide) rfl ?_
    refine e_goto (tgt := 8) dX3_walkBest_51 rfl ?_
    refine e_wk (L' := [some (.ref (ad 3 0)), some (.ref (ad 5 p1)), some (.int p2), some (.int (v1.1 ||| ((1 : Int32) <<< (r4 &&& 31)))), some (.int r4), some (.int (v1.2.2.1 + 1)), none]) (wkC (wkC (wkC (wkC (wkC (wkC (wkN wk0))))))) ?_
    exact hB0_1 _ _ _ _ h9
noncomputable def b_X3_findBest_32 (x : VM) (p1 : Nat) (v5 : Int32 × VM) : (Int32 × VM) ⊕ (Option (VM)) := if (((1 : Int32) <<< (((setN x 0 (p1 + 1)).1 502 p1) &&& 31)) - 1) < v5.1 then (f_X3_fillLeast v5.2 p1 (((1 : Int32) <<< (((setN x 0 (p1 + 1)).1 502 p1) &&& 31)) - 1)).elim (Sum.inr none) (fun r7 => (f_X3_walkBest r7 p1 (((1 : Int32) <<< (((setN x 0 (p1 + 1)).1 502 p1) &&& 31)) - 1)).elim (Sum.inr none) (fun r9 => Sum.inr (some r9))) else (f_J6_numberOfTrailingZeros_0f7a4 v5.1).elim (Sum.inr none) (fun r11 => if inb (v5.1 &&& (v5.1 - 1)) 256 = true then if p1 < v5.2.2.2.2 5 then if inb r11 8 = true then if r11.toNatClampNeg < v5.2.2.2.2 (20 + p1) then if (8 * p1 + r11.toNatClampNeg) / 8 < v5.2.2.2.2 5 ∧ (8 * p1 + r11.toNatClampNeg) % 8 < v5.2.2.2.2 (20 + (8 * p1 + r11.toNatClampNeg) / 8) then if inb v5.1 256 = true then Sum.inl (v5.1 + 1, setA v5.2 306 0 (upd (v5.2.2.1 306 0) v5.1.toNatClampNeg ((v5.2.2.1 306 0 ((v5.1 &&& (v5.1 - 1)).toNatClampNeg)) ||| (v5.2.1 801 (8 * p1 + r11.toNatClampNeg))))) else Sum.inr none else Sum.inr none else Sum.inr none else Sum.inr none else Sum.inr none else Sum.inr none)
noncomputable def f_X3_findBest (x : VM) (p1 : Nat) : Option (VM) := if p1 < x.2.2.2 5 then if x.2.2.2 0 ≤ x.2.2.2 5 then if x.2.2.2 0 = p1 + 1 then some x else if p1 < (setN x 0 (p1 + 1)).2.2.2 5 then loopF none (b_X3_findBest_32 x p1) (1, setA (setN x 0 (p1 + 1)) 306 0 (upd ((setN x 0 (p1 + 1)).2.1 306 0) ((0 : Int32).toNatClampNeg) 0)) else none else none else none
theorem c_X3_findBest {g : GG} {d : Nat} {ad : AD} {x m : VM} {Q : Option Value → VM → VM → Prop} (p1 : Nat) {w9 : VM} (hf : f_X3_findBest x p1 = some w9) (hq : Q none w9 m) : CX g (d + 4) MX3_findBest [.ref (ad 3 0), .ref (ad 5 p1)] ad x m Q := by
  refine CX.to (Lv := [some (.ref (ad 3 0)), some (.ref (ad 5 p1)), none, none, none]) okX3_findBest (Nat.le_of_ble_eq_true rfl) rfl ?_
  obtain ⟨Φ0, hΦ⟩ : ∃ Φ : Option (VM) → Prop, Φ = fun o => o = some w9 := ⟨_, rfl⟩
  have hN0 : Φ0 none → False := by rw [hΦ]; intro h; cases h
  have hR0 : ∀ z9, Φ0 (some z9) → Q none z9 m := by rw [hΦ]; intro z9 h; cases h; exact hq
  have h9 : Φ0 (f_X3_findBest x p1) := by rw [hΦ]; exact hf
  clear hf hq hΦ
  unfold f_X3_findBest at h9
  refine e_aload_n dX3_findBest_0 rfl rfl ?_
  refine g_305 flX3_28 dX3_findBest_1 ?_
  refine e_aload_n dX3_findBest_4 rfl rfl ?_
  obtain ⟨k1, h9⟩ := chkP hN0 h9
  obtain ⟨k2, h9⟩ := chkP hN0 h9
  refine x_acmpF (tgt := 9) dX3_findBest_5 rfl k1 k2 (fun hc3 => ?_) (fun hc3 => ?_)
  · replace h9 := ifF hc3 h9
    refine e_aload_n dX3_findBest_9 rfl rfl ?_
    refine e_aload_n dX3_findBest_10 rfl rfl ?_
    refine x_putF flX3_28 dX3_findBest_11 k1 ?_
    refine e_iconst (v := 1) dX3_findBest_14 rfl ?_
    refine e_aload_n dX3_findBest_15 rfl rfl ?_
    obtain ⟨k4, h9⟩ := chkP hN0 h9
    refine g_502 flX3_38 dX3_findBest_16 k4 ?_
    refine e_ishl dX3_findBest_19 ?_
    refine e_iconst (v := 1) dX3_findBest_20 rfl ?_
    refine e_pc (pc' := 21) rfl ?_
    refine e_isub dX3_findBest_21 ?_
    refine e_istore_n (L' := [some (.ref (ad 3 0)), some (.ref (ad 5 p1)), some (.int (((1 : Int32) <<< (((setN x 0 (p1 + 1)).1 502 p1) &&& 31)) - 1)), none, none]) dX3_findBest_22 rfl (by decide) rfl ?_
    refine e_aload_n dX3_findBest_23 rfl rfl ?_
    refine g_306 flX3_32 dX3_findBest_24 ?_
    refine e_iconst (v := 0) dX3_findBest_27 rfl ?_
    refine e_iconst (v := 0) dX3_findBest_28 rfl ?_
    refine s_306 dX3_findBest_29 (inb_in (by decide)) ?_
    refine e_iconst (v := 1) dX3_findBest_30 rfl ?_
    refine e_istore_n (L' := [some (.ref (ad 3 0)), some (.ref (ad 5 p1)), some (.int (((1 : Int32) <<< (((setN x 0 (p1 + 1)).1 502 p1) &&& 31)) - 1)), some (.int 1), none]) dX3_findBest_31 rfl (by decide) rfl ?_
    refine loop_gen (b_X3_findBest_32 x p1) none (fun v5 => EX g (d + 4) MX3_findBest ad v5.2 m 32 [some (.ref (ad 3 0)), some (.ref (ad 5 p1)), some (.int (((1 : Int32) <<< (((setN x 0 (p1 + 1)).1 502 p1) &&& 31)) - 1)), some (.int v5.1), none] [] Q) Φ0 hN0 (fun v5 Φ1 hB0_1 hO1 h9 => ?_) (1, setA (setN x 0 (p1 + 1)) 306 0 (upd ((setN x 0 (p1 + 1)).2.1 306 0) ((0 : Int32).toNatClampNeg) 0)) h9
    have hN1 := fun h => hN0 (hO1 _ h)
    have hR1 := fun r9 h => hR0 r9 (hO1 _ h)
    have hB0_1 : ∀ (z0 : Int32) (z1 : VM), Φ1 (Sum.inl (z0, z1)) → EX g (d + 4) MX3_findBest ad z1 m 32 [some (.ref (ad 3 0)), some (.ref (ad 5 p1)), some (.int (((1 : Int32) <<< (((setN x 0 (p1 + 1)).1 502 p1) &&& 31)) - 1)), some (.int z0), none] [] Q := fun z0 z1 h => hB0_1 (z0, z1) h
    unfold b_X3_findBest_32 at h9
    refine e_iload_n dX3_findBest_32 rfl rfl ?_
    refine e_iload_n dX3_findBest_33 rfl rfl ?_
    refine e_icmp_gt (tgt := 76) dX3_findBest_34 rfl (fun hc6 => ?_) (fun hc6 => ?_)
    · replace h9 := ifT hc6 h9
      refine e_aload_n dX3_findBest_76 rfl rfl ?_
      refine e_aload_n dX3_findBest_77 rfl rfl ?_
      refine e_iload_n dX3_findBest_78 rfl rfl ?_
      obtain ⟨r7, hr7, h9⟩ := elimP hN1 h9
      refine x_callVv (c := 3) (As := [.ref (ad 5 p1), .int (((1 : Int32) <<< (((setN x 0 (p1 + 1)).1 502 p1) &&& 31)) - 1)]) (rest := []) okX3_fillLeast lkX3_58 rfl (by decide) rfl dX3_findBest_79 rfl rfl (Nat.le_of_ble_eq_true rfl) rfl (c_X3_fillLeast p1 (((1 : Int32) <<< (((setN x 0 (p1 + 1)).1 502 p1) &&& 31)) - 1) hr7 (CV.mk ?_))
      refine e_aload_n dX3_findBest_82 rfl rfl ?_
      refine e_aload_n dX3_findBest_83 rfl rfl ?_
      refine e_iload_n dX3_findBest_84 rfl rfl ?_
      obtain ⟨r9, hr9, h9⟩ := elimP hN1 h9
      refine x_callVv (c := 3) (As := [.ref (ad 5 p1), .int (((1 : Int32) <<< (((setN x 0 (p1 + 1)).1 502 p1) &&& 31)) - 1)]) (rest := []) okX3_walkBest lkX3_62 rfl (by decide) rfl dX3_findBest_85 rfl rfl (Nat.le_of_ble_eq_true rfl) rfl (c_X3_walkBest p1 (((1 : Int32) <<< (((setN x 0 (p1 + 1)).1 502 p1) &&& 31)) - 1) hr9 (CV.mk ?_))
      refine e_pc (pc' := 88) rfl ?_
      exact x_vret dX3_findBest_88 rfl (hR1 _ h9)
    · replace h9 := ifF hc6 h9
      refine e_iload_n dX3_findBest_37 rfl rfl ?_
      obtain ⟨r11, hr11, h9⟩ := elimP hN1 h9
      refine x_callSi (As := [.int v5.1]) (rest := []) okJ6_numberOfTrailingZeros_0f7a4 lkX3_43 dX3_findBest_38 rfl rfl (Nat.le_of_ble_eq_true rfl) (c_J6_numberOfTrailingZeros_0f7a4 v5.1 hr11 (CI.mk ?_))
      refine e_istore (L' := [some (.ref (ad 3 0)), some (.ref (ad 5 p1)), some (.int (((1 : Int32) <<< (((setN x 0 (p1 + 1)).1 502 p1) &&& 31)) - 1)), some (.int v5.1), some (.int r11)]) dX3_findBest_41 (by decide) rfl ?_
      refine e_aload_n dX3_findBest_43 rfl rfl ?_
      refine g_306 flX3_32 dX3_findBest_44 ?_
      refine e_iload_n dX3_findBest_47 rfl rfl ?_
      refine e_aload_n dX3_findBest_48 rfl rfl ?_
      refine g_306 flX3_32 dX3_findBest_49 ?_
      refine e_pc (pc' := 52) rfl ?_
      refine e_iload_n dX3_findBest_52 rfl rfl ?_
      refine e_iload_n dX3_findBest_53 rfl rfl ?_
      refine e_iconst (v := 1) dX3_findBest_54 rfl ?_
      refine e_isub dX3_findBest_55 ?_
      refine e_iand dX3_findBest_56 ?_
      obtain ⟨k12, h9⟩ := chkP hN1 h9
      refine l_306 dX3_findBest_57 (inb_in k12) ?_
      refine e_aload_n dX3_findBest_58 rfl rfl ?_
      obtain ⟨k13, h9⟩ := chkP hN1 h9
      refine g_501 flX3_49 dX3_findBest_59 k13 ?_
      refine e_iload dX3_findBest_62 rfl ?_
      refine e_pc (pc' := 64) rfl ?_
      obtain ⟨k14, h9⟩ := chkP hN1 h9
      refine l_501 dX3_findBest_64 k13 (inb_in k14) ?_
      obtain ⟨k15, h9⟩ := chkP hN1 h9
      refine e_top (v := .ref (ad 8 (8 * p1 + r11.toNatClampNeg))) (rfT k15) ?_
      obtain ⟨k16, h9⟩ := chkP hN1 h9
      refine g_801 flX3_53 dX3_findBest_65 k16 ?_
      refine e_ior dX3_findBest_68 ?_
      obtain ⟨k17, h9⟩ := chkP hN1 h9
      refine s_306 dX3_findBest_69 (inb_in k17) ?_
      refine e_iinc (v := (v5.1 + 1)) (L' := [some (.ref (ad 3 0)), some (.ref (ad 5 p1)), some (.int (((1 : Int32) <<< (((setN x 0 (p1 + 1)).1 502 p1) &&& 31)) - 1)), some (.int (v5.1 + 1)), some (.int r11)]) dX3_findBest_70 rfl rfl (by decide) rfl ?_
      refine e_goto (tgt := 32) dX3_findBest_73 rfl ?_
      refine e_wk (L' := [some (.ref (ad 3 0)), some (.ref (ad 5 p1)), some (.int (((1 : Int32) <<< (((setN x 0 (p1 + 1)).1 502 p1) &&& 31)) - 1)), some (.int (v5.1 + 1)), none]) (wkC (wkC (wkC (wkC (wkN wk0))))) ?_
      exact hB0_1 _ _ h9
  · replace h9 := ifT hc3 h9
    exact x_vret dX3_findBest_8 rfl (hR0 _ h9)
noncomputable def b_X3_readOrder_18 (x : VM) (p1 : Nat) (p2 : Nat) (v4 : Int32 × Int32 × VM) : (Int32 × Int32 × VM) ⊕ (Option (Int32 × VM)) := if p1 < v4.2.2.2.2.2 5 then if (v4.2.2.1 502 p1) ≤ v4.2.1 then Sum.inr (some (1, v4.2.2)) else if p2 < 8 then if inb v4.2.1 60 = true then if ((v4.2.2.2.2.1 900 p2 v4.2.1.toNatClampNeg).toInt32) < 0 then Sum.inr (some (0, v4.2.2)) else if (v4.2.2.1 502 p1) ≤ ((v4.2.2.2.2.1 900 p2 v4.2.1.toNatClampNeg).toInt32) then Sum.inr (some (0, v4.2.2)) else if ((v4.1 >>> (((v4.2.2.2.2.1 900 p2 v4.2.1.toNatClampNeg).toInt32) &&& 31)) &&& 1) = 1 then Sum.inr (some (0, v4.2.2)) else if inb v4.2.1 8 = true then Sum.inl (v4.1 ||| ((1 : Int32) <<< (((v4.2.2.2.2.1 900 p2 v4.2.1.toNatClampNeg).toInt32) &&& 31)), v4.2.1 + 1, setA v4.2.2 303 0 (upd (v4.2.2.2.1 303 0) v4.2.1.toNatClampNeg ((v4.2.2.2.2.1 900 p2 v4.2.1.toNatClampNeg).toInt32))) else Sum.inr none else Sum.inr none else Sum.inr none else Sum.inr none
noncomputable def f_X3_readOrder (x : VM) (p1 : Nat) (p2 : Nat) : Option (Int32 × VM) := if p2 < 8 then if p1 < x.2.2.2 5 then if (x.1 902 p2) = (x.1 502 p1) then loopF none (b_X3_readOrder_18 x p1 p2) (0, 0, x) else some (0, x) else none else none
theorem c_X3_readOrder {g : GG} {d : Nat} {ad : AD} {x m : VM} {Q : Option Value → VM → VM → Prop} (p1 : Nat) (p2 : Nat) {r9 : Int32} {w9 : VM} (hf : f_X3_readOrder x p1 p2 = some (r9, w9)) (hq : Q (some (.int r9)) w9 m) : CX g d MX3_readOrder [.ref (ad 3 0), .ref (ad 5 p1), .ref (ad 9 p2)] ad x m Q := by
  refine CX.to (Lv := [some (.ref (ad 3 0)), some (.ref (ad 5 p1)), some (.ref (ad 9 p2)), none, none, none]) okX3_readOrder (Nat.le_of_ble_eq_true rfl) rfl ?_
  obtain ⟨Φ0, hΦ⟩ : ∃ Φ : Option (Int32 × VM) → Prop, Φ = fun o => o = some (r9, w9) := ⟨_, rfl⟩
  have hN0 : Φ0 none → False := by rw [hΦ]; intro h; cases h
  have hR0 : ∀ z9 y9, Φ0 (some (z9, y9)) → Q (some (.int z9)) y9 m := by rw [hΦ]; intro z9 y9 h; cases h; exact hq
  have h9 : Φ0 (f_X3_readOrder x p1 p2) := by rw [hΦ]; exact hf
  clear hf hq hΦ
  unfold f_X3_readOrder at h9
  refine e_aload_n dX3_readOrder_0 rfl rfl ?_
  obtain ⟨k1, h9⟩ := chkP hN0 h9
  refine g_902 flX3_95 dX3_readOrder_1 k1 ?_
  refine e_aload_n dX3_readOrder_4 rfl rfl ?_
  obtain ⟨k2, h9⟩ := chkP hN0 h9
  refine g_502 flX3_38 dX3_readOrder_5 k2 ?_
  refine e_icmp_eq (tgt := 13) dX3_readOrder_8 rfl (fun hc3 => ?_) (fun hc3 => ?_)
  · replace h9 := ifT hc3 h9
    refine e_iconst (v := 0) dX3_readOrder_13 rfl ?_
    refine e_istore_n (L' := [some (.ref (ad 3 0)), some (.ref (ad 5 p1)), some (.ref (ad 9 p2)), some (.int 0), none, none]) dX3_readOrder_14 rfl (by decide) rfl ?_
    refine e_iconst (v := 0) dX3_readOrder_15 rfl ?_
    refine e_istore (L' := [some (.ref (ad 3 0)), some (.ref (ad 5 p1)), some (.ref (ad 9 p2)), some (.int 0), some (.int 0), none]) dX3_readOrder_16 (by decide) rfl ?_
    refine loop_gen (b_X3_readOrder_18 x p1 p2) none (fun v4 => EX g d MX3_readOrder ad v4.2.2 m 18 [some (.ref (ad 3 0)), some (.ref (ad 5 p1)), some (.ref (ad 9 p2)), some (.int v4.1), some (.int v4.2.1), none] [] Q) Φ0 hN0 (fun v4 Φ1 hB0_1 hO1 h9 => ?_) (0, 0, x) h9
    have hN1 := fun h => hN0 (hO1 _ h)
    have hR1 := fun r9 x9 h => hR0 r9 x9 (hO1 _ h)
    have hB0_1 : ∀ (z0 : Int32) (z1 : Int32) (z2 : VM), Φ1 (Sum.inl (z0, z1, z2)) → EX g d MX3_readOrder ad z2 m 18 [some (.ref (ad 3 0)), some (.ref (ad 5 p1)), some (.ref (ad 9 p2)), some (.int z0), some (.int z1), none] [] Q := fun z0 z1 z2 h => hB0_1 (z0, z1, z2) h
    unfold b_X3_readOrder_18 at h9
    refine e_iload dX3_readOrder_18 rfl ?_
    refine e_aload_n dX3_readOrder_20 rfl rfl ?_
    obtain ⟨k5, h9⟩ := chkP hN1 h9
    refine g_502 flX3_38 dX3_readOrder_21 k5 ?_
    refine e_icmp_ge (tgt := 85) dX3_readOrder_24 rfl (fun hc6 => ?_) (fun hc6 => ?_)
    · replace h9 := ifT hc6 h9
      refine e_iconst (v := 1) dX3_readOrder_85 rfl ?_
      exact x_zret dX3_readOrder_86 rfl (by decide) (hR1 _ _ h9)
    · replace h9 := ifF hc6 h9
      refine e_aload_n dX3_readOrder_27 rfl rfl ?_
      obtain ⟨k7, h9⟩ := chkP hN1 h9
      refine g_900 flX3_100 dX3_readOrder_28 k7 ?_
      refine e_iload dX3_readOrder_31 rfl ?_
      obtain ⟨k8, h9⟩ := chkP hN1 h9
      refine l_900 dX3_readOrder_33 k7 (inb_in k8) ?_
      refine e_l2i dX3_readOrder_34 rfl ?_
      refine e_istore (L' := [some (.ref (ad 3 0)), some (.ref (ad 5 p1)), some (.ref (ad 9 p2)), some (.int v4.1), some (.int v4.2.1), some (.int ((v4.2.2.2.2.1 900 p2 v4.2.1.toNatClampNeg).toInt32))]) dX3_readOrder_35 (by decide) rfl ?_
      refine e_iload dX3_readOrder_37 rfl ?_
      refine e_if_lt (tgt := 61) dX3_readOrder_39 rfl (fun hc9 => ?_) (fun hc9 => ?_)
      · replace h9 := ifT hc9 h9
        refine e_iconst (v := 0) dX3_readOrder_61 rfl ?_
        exact x_zret dX3_readOrder_62 rfl (by decide) (hR1 _ _ h9)
      · replace h9 := ifF hc9 h9
        refine e_iload dX3_readOrder_42 rfl ?_
        refine e_aload_n dX3_readOrder_44 rfl rfl ?_
        refine g_502 flX3_38 dX3_readOrder_45 k5 ?_
        refine e_icmp_ge (tgt := 61) dX3_readOrder_48 rfl (fun hc10 => ?_) (fun hc10 => ?_)
        · replace h9 := ifT hc10 h9
          refine e_iconst (v := 0) dX3_readOrder_61 rfl ?_
          exact x_zret dX3_readOrder_62 rfl (by decide) (hR1 _ _ h9)
        · replace h9 := ifF hc10 h9
          refine e_iload_n dX3_readOrder_51 rfl rfl ?_
          refine e_iload dX3_readOrder_52 rfl ?_
          refine e_ishr dX3_readOrder_54 ?_
          refine e_iconst (v := 1) dX3_readOrder_55 rfl ?_
          refine e_iand dX3_readOrder_56 ?_
          refine e_iconst (v := 1) dX3_readOrder_57 rfl ?_
          refine e_icmp_ne (tgt := 63) dX3_readOrder_58 rfl (fun hc11 => ?_) (fun hc11 => ?_)
          · replace h9 := ifF hc11 h9
            refine e_iload_n dX3_readOrder_63 rfl rfl ?_
            refine e_iconst (v := 1) dX3_readOrder_64 rfl ?_
            refine e_iload dX3_readOrder_65 rfl ?_
            refine e_ishl dX3_readOrder_67 ?_
            refine e_ior dX3_readOrder_68 ?_
            refine e_istore_n (L' := [some (.ref (ad 3 0)), some (.ref (ad 5 p1)), some (.ref (ad 9 p2)), some (.int (v4.1 ||| ((1 : Int32) <<< (((v4.2.2.2.2.1 900 p2 v4.2.1.toNatClampNeg).toInt32) &&& 31)))), some (.int v4.2.1), some (.int ((v4.2.2.2.2.1 900 p2 v4.2.1.toNatClampNeg).toInt32))]) dX3_readOrder_69 rfl (by decide) rfl ?_
            refine e_aload_n dX3_readOrder_70 rfl rfl ?_
            refine g_303 flX3_22 dX3_readOrder_71 ?_
            refine e_pc (pc' := 74) rfl ?_
            refine e_iload dX3_readOrder_74 rfl ?_
            refine e_iload dX3_readOrder_76 rfl ?_
            obtain ⟨k12, h9⟩ := chkP hN1 h9
            refine s_303 dX3_readOrder_78 (inb_in k12) ?_
            refine e_iinc (v := (v4.2.1 + 1)) (L' := [some (.ref (ad 3 0)), some (.ref (ad 5 p1)), some (.ref (ad 9 p2)), some (.int (v4.1 ||| ((1 : Int32) <<< (((v4.2.2.2.2.1 900 p2 v4.2.1.toNatClampNeg).toInt32) &&& 31)))), some (.int (v4.2.1 + 1)), some (.int ((v4.2.2.2.2.1 900 p2 v4.2.1.toNatClampNeg).toInt32))]) dX3_readOrder_79 rfl rfl (by decide) rfl ?_
            refine e_goto (tgt := 18) dX3_readOrder_82 rfl ?_
            refine e_wk (L' := [some (.ref (ad 3 0)), some (.ref (ad 5 p1)), some (.ref (ad 9 p2)), some (.int (v4.1 ||| ((1 : Int32) <<< (((v4.2.2.2.2.1 900 p2 v4.2.1.toNatClampNeg).toInt32) &&& 31)))), some (.int (v4.2.1 + 1)), none]) (wkC (wkC (wkC (wkC (wkC (wkN wk0)))))) ?_
            exact hB0_1 _ _ _ h9
          · replace h9 := ifT hc11 h9
            refine e_iconst (v := 0) dX3_readOrder_61 rfl ?_
            exact x_zret dX3_readOrder_62 rfl (by decide) (hR1 _ _ h9)
  · replace h9 := ifF hc3 h9
    refine e_iconst (v := 0) dX3_readOrder_11 rfl ?_
    exact x_zret dX3_readOrder_12 rfl (by decide) (hR0 _ _ h9)
noncomputable def j_X3_peopleThere_45 (x : VM) (p1 : Nat) (p2 : Int32) (v1 : Int32 × Int32 × Int32) (a8 : Int32) : (Int32 × Int32 × Int32) ⊕ (Option (Int32)) := if v1.2.2 < p2 then Sum.inl (a8, v1.2.1, v1.2.2 + 1) else Sum.inl (a8, v1.2.1 ||| (x.1 801 (8 * p1 + (x.2.1 303 0 v1.2.2.toNatClampNeg).toNatClampNeg)), v1.2.2 + 1)
noncomputable def b_X3_peopleThere_8 (x : VM) (p1 : Nat) (p2 : Int32) (v1 : Int32 × Int32 × Int32) : (Int32 × Int32 × Int32) ⊕ (Option (Int32)) := if p1 < x.2.2.2 5 then if (x.1 502 p1) ≤ v1.2.2 then Sum.inr (some (v1.1 &&& v1.2.1)) else if inb v1.2.2 8 = true then if inb (x.2.1 303 0 v1.2.2.toNatClampNeg) 8 = true then if (x.2.1 303 0 v1.2.2.toNatClampNeg).toNatClampNeg < x.2.2.2 (20 + p1) then if (8 * p1 + (x.2.1 303 0 v1.2.2.toNatClampNeg).toNatClampNeg) / 8 < x.2.2.2 5 ∧ (8 * p1 + (x.2.1 303 0 v1.2.2.toNatClampNeg).toNatClampNeg) % 8 < x.2.2.2 (20 + (8 * p1 + (x.2.1 303 0 v1.2.2.toNatClampNeg).toNatClampNeg) / 8) then if p2 < v1.2.2 then j_X3_peopleThere_45 x p1 p2 v1 v1.1 else j_X3_peopleThere_45 x p1 p2 v1 (v1.1 ||| (x.1 801 (8 * p1 + (x.2.1 303 0 v1.2.2.toNatClampNeg).toNatClampNeg))) else Sum.inr none else Sum.inr none else Sum.inr none else Sum.inr none else Sum.inr none
noncomputable def f_X3_peopleThere (x : VM) (p1 : Nat) (p2 : Int32) : Option (Int32) := loopF none (b_X3_peopleThere_8 x p1 p2) (0, 0, 0)
theorem c_X3_peopleThere {g : GG} {d : Nat} {ad : AD} {x m : VM} {Q : Option Value → VM → VM → Prop} (p1 : Nat) (p2 : Int32) {r9 : Int32} (hf : f_X3_peopleThere x p1 p2 = some r9) (hq : Q (some (.int r9)) x m) : CX g d MX3_peopleThere [.ref (ad 3 0), .ref (ad 5 p1), .int p2] ad x m Q := by
  refine CX.to (Lv := [some (.ref (ad 3 0)), some (.ref (ad 5 p1)), some (.int p2), none, none, none, none]) okX3_peopleThere (Nat.le_of_ble_eq_true rfl) rfl ?_
  obtain ⟨Φ0, hΦ⟩ : ∃ Φ : Option (Int32) → Prop, Φ = fun o => o = some r9 := ⟨_, rfl⟩
  have hN0 : Φ0 none → False := by rw [hΦ]; intro h; cases h
  have hR0 : ∀ z9, Φ0 (some z9) → Q (some (.int z9)) x m := by rw [hΦ]; intro z9 h; cases h; exact hq
  have h9 : Φ0 (f_X3_peopleThere x p1 p2) := by rw [hΦ]; exact hf
  clear hf hq hΦ
  unfold f_X3_peopleThere at h9
  refine e_iconst (v := 0) dX3_peopleThere_0 rfl ?_
  refine e_istore_n (L' := [some (.ref (ad 3 0)), some (.ref (ad 5 p1)), some (.int p2), some (.int 0), none, none, none]) dX3_peopleThere_1 rfl (by decide) rfl ?_
  refine e_iconst (v := 0) dX3_peopleThere_2 rfl ?_
  refine e_istore (L' := [some (.ref (ad 3 0)), some (.ref (ad 5 p1)), some (.int p2), some (.int 0), some (.int 0), none, none]) dX3_peopleThere_3 (by decide) rfl ?_
  refine e_iconst (v := 0) dX3_peopleThere_5 rfl ?_
  refine e_istore (L' := [some (.ref (ad 3 0)), some (.ref (ad 5 p1)), some (.int p2), some (.int 0), some (.int 0), some (.int 0), none]) dX3_peopleThere_6 (by decide) rfl ?_
  refine loop_gen (b_X3_peopleThere_8 x p1 p2) none (fun v1 => EX g d MX3_peopleThere ad x m 8 [some (.ref (ad 3 0)), some (.ref (ad 5 p1)), some (.int p2), some (.int v1.1), some (.int v1.2.1), some (.int v1.2.2), none] [] Q) Φ0 hN0 (fun v1 Φ1 hB0_1 hO1 h9 => ?_) (0, 0, 0) h9
  have hN1 := fun h => hN0 (hO1 _ h)
  have hR1 := fun r9 h => hR0 r9 (hO1 _ h)
  have hB0_1 : ∀ (z0 : Int32) (z1 : Int32) (z2 : Int32), Φ1 (Sum.inl (z0, z1, z2)) → EX g d MX3_peopleThere ad x m 8 [some (.ref (ad 3 0)), some (.ref (ad 5 p1)), some (.int p2), some (.int z0), some (.int z1), some (.int z2), none] [] Q := fun z0 z1 z2 h => hB0_1 (z0, z1, z2) h
  unfold b_X3_peopleThere_8 at h9
  refine e_iload dX3_peopleThere_8 rfl ?_
  refine e_aload_n dX3_peopleThere_10 rfl rfl ?_
  obtain ⟨k2, h9⟩ := chkP hN1 h9
  refine g_502 flX3_38 dX3_peopleThere_11 k2 ?_
  refine e_icmp_ge (tgt := 64) dX3_peopleThere_14 rfl (fun hc3 => ?_) (fun hc3 => ?_)
  · replace h9 := ifT hc3 h9
    refine e_iload_n dX3_peopleThere_64 rfl rfl ?_
    refine e_iload dX3_peopleThere_65 rfl ?_
    refine e_iand dX3_peopleThere_67 ?_
    exact x_iret dX3_peopleThere_68 rfl (hR1 _ h9)
  · replace h9 := ifF hc3 h9
    refine e_aload_n dX3_peopleThere_17 rfl rfl ?_
    refine g_501 flX3_49 dX3_peopleThere_18 k2 ?_
    refine e_aload_n dX3_peopleThere_21 rfl rfl ?_
    refine g_303 flX3_22 dX3_peopleThere_22 ?_
    refine e_iload dX3_peopleThere_25 rfl ?_
    obtain ⟨k4, h9⟩ := chkP hN1 h9
    refine l_303 dX3_peopleThere_27 (inb_in k4) ?_
    obtain ⟨k5, h9⟩ := chkP hN1 h9
    refine l_501 dX3_peopleThere_28 k2 (inb_in k5) ?_
    obtain ⟨k6, h9⟩ := chkP hN1 h9
    refine e_top (v := .ref (ad 8 (8 * p1 + (x.2.1 303 0 v1.2.2.toNatClampNeg).toNatClampNeg))) (rfT k6) ?_
    obtain ⟨k7, h9⟩ := chkP hN1 h9
    refine g_801 flX3_53 dX3_peopleThere_29 k7 ?_
    refine e_pc (pc' := 32) rfl ?_
    refine e_istore (L' := [some (.ref (ad 3 0)), some (.ref (ad 5 p1)), some (.int p2), some (.int v1.1), some (.int v1.2.1), some (.int v1.2.2), some (.int (x.1 801 (8 * p1 + (x.2.1 303 0 v1.2.2.toNatClampNeg).toNatClampNeg)))]) dX3_peopleThere_32 (by decide) rfl ?_
    refine e_iload dX3_peopleThere_34 rfl ?_
    refine e_iload_n dX3_peopleThere_36 rfl rfl ?_
    have hj45 : ∀ (a8 : Int32), Φ1 (j_X3_peopleThere_45 x p1 p2 v1 a8) → EX g d MX3_peopleThere ad x m 45 [some (.ref (ad 3 0)), some (.ref (ad 5 p1)), some (.int p2), some (.int a8), some (.int v1.2.1), some (.int v1.2.2), some (.int (x.1 801 (8 * p1 + (x.2.1 303 0 v1.2.2.toNatClampNeg).toNatClampNeg)))] [] Q := by
      intro a8 h9
      unfold j_X3_peopleThere_45 at h9
      refine e_iload dX3_peopleThere_45 rfl ?_
      refine e_iload_n dX3_peopleThere_47 rfl rfl ?_
      refine e_icmp_lt (tgt := 58) dX3_peopleThere_48 rfl (fun hc9 => ?_) (fun hc9 => ?_)
      · replace h9 := ifT hc9 h9
        refine e_iinc (v := (v1.2.2 + 1)) (L' := [some (.ref (ad 3 0)), some (.ref (ad 5 p1)), some (.int p2), some (.int a8), some (.int v1.2.1), some (.int (v1.2.2 + 1)), some (.int (x.1 801 (8 * p1 + (x.2.1 303 0 v1.2.2.toNatClampNeg).toNatClampNeg)))]) dX3_peopleThere_58 rfl rfl (by decide) rfl ?_
        refine e_goto (tgt := 8) dX3_peopleThere_61 rfl ?_
        refine e_wk (L' := [some (.ref (ad 3 0)), some (.ref (ad 5 p1)), some (.int p2), some (.int a8), some (.int v1.2.1), some (.int (v1.2.2 + 1)), none]) (wkC (wkC (wkC (wkC (wkC (wkC (wkN wk0))))))) ?_
        exact hB0_1 _ _ _ h9
      · replace h9 := ifF hc9 h9
        refine e_iload dX3_peopleThere_51 rfl ?_
        refine e_iload dX3_peopleThere_53 rfl ?_
        refine e_ior dX3_peopleThere_55 ?_
        refine e_istore (L' := [some (.ref (ad 3 0)), some (.ref (ad 5 p1)), some (.int p2), some (.int a8), some (.int (v1.2.1 ||| (x.1 801 (8 * p1 + (x.2.1 303 0 v1.2.2.toNatClampNeg).toNatClampNeg)))), some (.int v1.2.2), some (.int (x.1 801 (8 * p1 + (x.2.1 303 0 v1.2.2.toNatClampNeg).toNatClampNeg)))]) dX3_peopleThere_56 (by decide) rfl ?_
        refine e_iinc (v := (v1.2.2 + 1)) (L' := [some (.ref (ad 3 0)), some (.ref (ad 5 p1)), some (.int p2), some (.int a8), some (.int (v1.2.1 ||| (x.1 801 (8 * p1 + (x.2.1 303 0 v1.2.2.toNatClampNeg).toNatClampNeg)))), some (.int (v1.2.2 + 1)), some (.int (x.1 801 (8 * p1 + (x.2.1 303 0 v1.2.2.toNatClampNeg).toNatClampNeg)))]) dX3_peopleThere_58 rfl rfl (by decide) rfl ?_
        refine e_goto (tgt := 8) dX3_peopleThere_61 rfl ?_
        refine e_wk (L' := [some (.ref (ad 3 0)), some (.ref (ad 5 p1)), some (.int p2), some (.int a8), some (.int (v1.2.1 ||| (x.1 801 (8 * p1 + (x.2.1 303 0 v1.2.2.toNatClampNeg).toNatClampNeg)))), some (.int (v1.2.2 + 1)), none]) (wkC (wkC (wkC (wkC (wkC (wkC (wkN wk0))))))) ?_
        exact hB0_1 _ _ _ h9
    refine e_icmp_gt (tgt := 45) dX3_peopleThere_37 rfl (fun hc10 => ?_) (fun hc10 => ?_)
    · replace h9 := ifT hc10 h9
      exact hj45 v1.1 h9
    · replace h9 := ifF hc10 h9
      refine e_iload_n dX3_peopleThere_40 rfl rfl ?_
      refine e_iload dX3_peopleThere_41 rfl ?_
      refine e_ior dX3_peopleThere_43 ?_
      refine e_istore_n (L' := [some (.ref (ad 3 0)), some (.ref (ad 5 p1)), some (.int p2), some (.int (v1.1 ||| (x.1 801 (8 * p1 + (x.2.1 303 0 v1.2.2.toNatClampNeg).toNatClampNeg)))), some (.int v1.2.1), some (.int v1.2.2), some (.int (x.1 801 (8 * p1 + (x.2.1 303 0 v1.2.2.toNatClampNeg).toNatClampNeg)))]) dX3_peopleThere_44 rfl (by decide) rfl ?_
      exact hj45 (v1.1 ||| (x.1 801 (8 * p1 + (x.2.1 303 0 v1.2.2.toNatClampNeg).toNatClampNeg))) h9
noncomputable def j_X3_costOf_60 (x : VM) (p1 : Nat) (v1 : Int32 × Int32) (a7 : Int32) : (Int32 × Int32) ⊕ (Option (Int32)) := if (8 * p1 + (x.2.1 303 0 v1.2.toNatClampNeg).toNatClampNeg) / 8 < x.2.2.2 5 ∧ (8 * p1 + (x.2.1 303 0 v1.2.toNatClampNeg).toNatClampNeg) % 8 < x.2.2.2 (20 + (8 * p1 + (x.2.1 303 0 v1.2.toNatClampNeg).toNatClampNeg) / 8) then (f_X3_peopleThere x p1 v1.2).elim (Sum.inr none) (fun r9 => (f_X3_dayCost x r9).elim (Sum.inr none) (fun r10 => Sum.inl (a7 + ((x.1 802 (8 * p1 + (x.2.1 303 0 v1.2.toNatClampNeg).toNatClampNeg)) * r10), v1.2 + 1))) else Sum.inr none
noncomputable def j_X3_costOf_53 (x : VM) (p1 : Nat) (v1 : Int32 × Int32) : (Int32 × Int32) ⊕ (Option (Int32)) := j_X3_costOf_60 x p1 v1 (v1.1 + (x.1 302 0))
noncomputable def b_X3_costOf_4 (x : VM) (p1 : Nat) (v1 : Int32 × Int32) : (Int32 × Int32) ⊕ (Option (Int32)) := if p1 < x.2.2.2 5 then if (x.1 502 p1) ≤ v1.2 then Sum.inr (some v1.1) else if inb v1.2 8 = true then if inb (x.2.1 303 0 v1.2.toNatClampNeg) 8 = true then if (x.2.1 303 0 v1.2.toNatClampNeg).toNatClampNeg < x.2.2.2 (20 + p1) then if v1.2 = 0 then j_X3_costOf_53 x p1 v1 else if inb (v1.2 - 1) 8 = true then if inb (x.2.1 303 0 ((v1.2 - 1).toNatClampNeg)) 8 = true then if (x.2.1 303 0 ((v1.2 - 1).toNatClampNeg)).toNatClampNeg < x.2.2.2 (20 + p1) then if (8 * p1 + (x.2.1 303 0 ((v1.2 - 1).toNatClampNeg)).toNatClampNeg) / 8 < x.2.2.2 5 ∧ (8 * p1 + (x.2.1 303 0 ((v1.2 - 1).toNatClampNeg)).toNatClampNeg) % 8 < x.2.2.2 (20 + (8 * p1 + (x.2.1 303 0 ((v1.2 - 1).toNatClampNeg)).toNatClampNeg) / 8) then if (8 * p1 + (x.2.1 303 0 v1.2.toNatClampNeg).toNatClampNeg) / 8 < x.2.2.2 5 ∧ (8 * p1 + (x.2.1 303 0 v1.2.toNatClampNeg).toNatClampNeg) % 8 < x.2.2.2 (20 + (8 * p1 + (x.2.1 303 0 v1.2.toNatClampNeg).toNatClampNeg) / 8) then if (x.1 800 (8 * p1 + (x.2.1 303 0 ((v1.2 - 1).toNatClampNeg)).toNatClampNeg)) = (x.1 800 (8 * p1 + (x.2.1 303 0 v1.2.toNatClampNeg).toNatClampNeg)) then j_X3_costOf_60 x p1 v1 v1.1 else j_X3_costOf_53 x p1 v1 else Sum.inr none else Sum.inr none else Sum.inr none else Sum.inr none else Sum.inr none else Sum.inr none else Sum.inr none else Sum.inr none else Sum.inr none
noncomputable def f_X3_costOf (x : VM) (p1 : Nat) : Option (Int32) := loopF none (b_X3_costOf_4 x p1) (0, 0)
theorem c_X3_costOf {g : GG} {d : Nat} {ad : AD} {x m : VM} {Q : Option Value → VM → VM → Prop} (p1 : Nat) {r9 : Int32} (hf : f_X3_costOf x p1 = some r9) (hq : Q (some (.int r9)) x m) : CX g (d + 1) MX3_costOf [.ref (ad 3 0), .ref (ad 5 p1)] ad x m Q := by
  refine CX.to (Lv := [some (.ref (ad 3 0)), some (.ref (ad 5 p1)), none, none, none]) okX3_costOf (Nat.le_of_ble_eq_true rfl) rfl ?_
  obtain ⟨Φ0, hΦ⟩ : ∃ Φ : Option (Int32) → Prop, Φ = fun o => o = some r9 := ⟨_, rfl⟩
  have hN0 : Φ0 none → False := by rw [hΦ]; intro h; cases h
  have hR0 : ∀ z9, Φ0 (some z9) → Q (some (.int z9)) x m := by rw [hΦ]; intro z9 h; cases h; exact hq
  have h9 : Φ0 (f_X3_costOf x p1) := by rw [hΦ]; exact hf
  clear hf hq hΦ
  unfold f_X3_costOf at h9
  refine e_iconst (v := 0) dX3_costOf_0 rfl ?_
  refine e_istore_n (L' := [some (.ref (ad 3 0)), some (.ref (ad 5 p1)), some (.int 0), none, none]) dX3_costOf_1 rfl (by decide) rfl ?_
  refine e_iconst (v := 0) dX3_costOf_2 rfl ?_
  refine e_istore_n (L' := [some (.ref (ad 3 0)), some (.ref (ad 5 p1)), some (.int 0), some (.int 0), none]) dX3_costOf_3 rfl (by decide) rfl ?_
  refine loop_gen (b_X3_costOf_4 x p1) none (fun v1 => EX g (d + 1) MX3_costOf ad x m 4 [some (.ref (ad 3 0)), some (.ref (ad 5 p1)), some (.int v1.1), some (.int v1.2), none] [] Q) Φ0 hN0 (fun v1 Φ1 hB0_1 hO1 h9 => ?_) (0, 0) h9
  have hN1 := fun h => hN0 (hO1 _ h)
  have hR1 := fun r9 h => hR0 r9 (hO1 _ h)
  have hB0_1 : ∀ (z0 : Int32) (z1 : Int32), Φ1 (Sum.inl (z0, z1)) → EX g (d + 1) MX3_costOf ad x m 4 [some (.ref (ad 3 0)), some (.ref (ad 5 p1)), some (.int z0), some (.int z1), none] [] Q := fun z0 z1 h => hB0_1 (z0, z1) h
  unfold b_X3_costOf_4 at h9
  refine e_iload_n dX3_costOf_4 rfl rfl ?_
  refine e_aload_n dX3_costOf_5 rfl rfl ?_
  obtain ⟨k2, h9⟩ := chkP hN1 h9
  refine g_502 flX3_38 dX3_costOf_6 k2 ?_
  refine e_icmp_ge (tgt := 85) dX3_costOf_9 rfl (fun hc3 => ?_) (fun hc3 => ?_)
  · replace h9 := ifT hc3 h9
    refine e_iload_n dX3_costOf_85 rfl rfl ?_
    exact x_iret dX3_costOf_86 rfl (hR1 _ h9)
  · replace h9 := ifF hc3 h9
    refine e_aload_n dX3_costOf_12 rfl rfl ?_
    refine g_501 flX3_49 dX3_costOf_13 k2 ?_
    refine e_aload_n dX3_costOf_16 rfl rfl ?_
    refine g_303 flX3_22 dX3_costOf_17 ?_
    refine e_iload_n dX3_costOf_20 rfl rfl ?_
    obtain ⟨k4, h9⟩ := chkP hN1 h9
    refine l_303 dX3_costOf_21 (inb_in k4) ?_
    obtain ⟨k5, h9⟩ := chkP hN1 h9
    refine l_501 dX3_costOf_22 k2 (inb_in k5) ?_
    obtain ⟨k6, h9⟩ := chkP hN1 h9
    refine e_top (v := .ref (ad 8 (8 * p1 + (x.2.1 303 0 v1.2.toNatClampNeg).toNatClampNeg))) (rfT k6) ?_
    refine e_astore (L' := [some (.ref (ad 3 0)), some (.ref (ad 5 p1)), some (.int v1.1), some (.int v1.2), some (.ref (ad 8 (8 * p1 + (x.2.1 303 0 v1.2.toNatClampNeg).toNatClampNeg)))]) dX3_costOf_23 (by decide) rfl ?_
    refine e_pc (pc' := 25) rfl ?_
    refine e_iload_n dX3_costOf_25 rfl rfl ?_
    have hj60 : ∀ (a7 : Int32), Φ1 (j_X3_costOf_60 x p1 v1 a7) → EX g (d + 1) MX3_costOf ad x m 60 [some (.ref (ad 3 0)), some (.ref (ad 5 p1)), some (.int a7), some (.int v1.2), some (.ref (ad 8 (8 * p1 + (x.2.1 303 0 v1.2.toNatClampNeg).toNatClampNeg)))] [] Q := by
      intro a7 h9
      unfold j_X3_costOf_60 at h9
      refine e_iload_n dX3_costOf_60 rfl rfl ?_
      refine e_aload dX3_costOf_61 rfl ?_
      obtain ⟨k8, h9⟩ := chkP hN1 h9
      refine g_802 flX3_83 dX3_costOf_63 k8 ?_
      refine e_aload_n dX3_costOf_66 rfl rfl ?_
      refine e_aload_n dX3_costOf_67 rfl rfl ?_
      refine e_aload_n dX3_costOf_68 rfl rfl ?_
      refine e_iload_n dX3_costOf_69 rfl rfl ?_
      obtain ⟨r9, hr9, h9⟩ := elimP hN1 h9
      refine x_callVi (c := 3) (As := [.ref (ad 5 p1), .int v1.2]) (rest := [.ref (ad 3 0), .int (x.1 802 (8 * p1 + (x.2.1 303 0 v1.2.toNatClampNeg).toNatClampNeg)), .int a7]) okX3_peopleThere lkX3_104 rfl (by decide) rfl dX3_costOf_70 rfl rfl (Nat.le_of_ble_eq_true rfl) rfl (c_X3_peopleThere p1 v1.2 hr9 (CI.mk ?_))
      refine e_pc (pc' := 73) rfl ?_
      obtain ⟨r10, hr10, h9⟩ := elimP hN1 h9
      refine x_callVi (c := 3) (As := [.int r9]) (rest := [.int (x.1 802 (8 * p1 + (x.2.1 303 0 v1.2.toNatClampNeg).toNatClampNeg)), .int a7]) okX3_dayCost lkX3_86 rfl (by decide) rfl dX3_costOf_73 rfl rfl (Nat.le_of_ble_eq_true rfl) rfl (c_X3_dayCost r9 hr10 (CI.mk ?_))
      refine e_imul dX3_costOf_76 ?_
      refine e_iadd dX3_costOf_77 ?_
      refine e_istore_n (L' := [some (.ref (ad 3 0)), some (.ref (ad 5 p1)), some (.int (a7 + ((x.1 802 (8 * p1 + (x.2.1 303 0 v1.2.toNatClampNeg).toNatClampNeg)) * r10))), some (.int v1.2), some (.ref (ad 8 (8 * p1 + (x.2.1 303 0 v1.2.toNatClampNeg).toNatClampNeg)))]) dX3_costOf_78 rfl (by decide) rfl ?_
      refine e_iinc (v := (v1.2 + 1)) (L' := [some (.ref (ad 3 0)), some (.ref (ad 5 p1)), some (.int (a7 + ((x.1 802 (8 * p1 + (x.2.1 303 0 v1.2.toNatClampNeg).toNatClampNeg)) * r10))), some (.int (v1.2 + 1)), some (.ref (ad 8 (8 * p1 + (x.2.1 303 0 v1.2.toNatClampNeg).toNatClampNeg)))]) dX3_costOf_79 rfl rfl (by decide) rfl ?_
      refine e_goto (tgt := 4) dX3_costOf_82 rfl ?_
      refine e_wk (L' := [some (.ref (ad 3 0)), some (.ref (ad 5 p1)), some (.int (a7 + ((x.1 802 (8 * p1 + (x.2.1 303 0 v1.2.toNatClampNeg).toNatClampNeg)) * r10))), some (.int (v1.2 + 1)), none]) (wkC (wkC (wkC (wkC (wkN wk0))))) ?_
      exact hB0_1 _ _ h9
    have hj53 : Φ1 (j_X3_costOf_53 x p1 v1) → EX g (d + 1) MX3_costOf ad x m 53 [some (.ref (ad 3 0)), some (.ref (ad 5 p1)), some (.int v1.1), some (.int v1.2), some (.ref (ad 8 (8 * p1 + (x.2.1 303 0 v1.2.toNatClampNeg).toNatClampNeg)))] [] Q := by
      intro h9
      unfold j_X3_costOf_53 at h9
      refine e_iload_n dX3_costOf_53 rfl rfl ?_
      refine e_aload_n dX3_costOf_54 rfl rfl ?_
      refine g_302 flX3_19 dX3_costOf_55 ?_
      refine e_iadd dX3_costOf_58 ?_
      refine e_istore_n (L' := [some (.ref (ad 3 0)), some (.ref (ad 5 p1)), some (.int (v1.1 + (x.1 302 0))), some (.int v1.2), some (.ref (ad 8 (8 * p1 + (x.2.1 303 0 v1.2.toNatClampNeg).toNatClampNeg)))]) dX3_costOf_59 rfl (by decide) rfl ?_
      exact hj60 (v1.1 + (x.1 302 0)) h9
    refine e_if_eq (tgt := 53) dX3_costOf_26 rfl (fun hc11 => ?_) (fun hc11 => ?_)
    · replace h9 := ifT hc11 h9
      exact hj53 h9
    · replace h9 := ifF hc11 h9
      refine e_aload_n dX3_costOf_29 rfl rfl ?_
      refine g_501 flX3_49 dX3_costOf_30 k2 ?_
      refine e_aload_n dX3_costOf_33 rfl rfl ?_
      refine g_303 flX3_22 dX3_costOf_34 ?_
      refine e_iload_n dX3_costOf_37 rfl rfl ?_
      refine e_iconst (v := 1) dX3_costOf_38 rfl ?_
      refine e_isub dX3_costOf_39 ?_
      obtain ⟨k12, h9⟩ := chkP hN1 h9
      refine l_303 dX3_costOf_40 (inb_in k12) ?_
      refine e_pc (pc' := 41) rfl ?_
      obtain ⟨k13, h9⟩ := chkP hN1 h9
      refine l_501 dX3_costOf_41 k2 (inb_in k13) ?_
      obtain ⟨k14, h9⟩ := chkP hN1 h9
      refine e_top (v := .ref (ad 8 (8 * p1 + (x.2.1 303 0 ((v1.2 - 1).toNatClampNeg)).toNatClampNeg))) (rfT k14) ?_
      obtain ⟨k15, h9⟩ := chkP hN1 h9
      refine g_800 flX3_89 dX3_costOf_42 k15 ?_
      refine e_aload dX3_costOf_45 rfl ?_
      obtain ⟨k16, h9⟩ := chkP hN1 h9
      refine g_800 flX3_89 dX3_costOf_47 k16 ?_
      refine e_icmp_eq (tgt := 60) dX3_costOf_50 rfl (fun hc17 => ?_) (fun hc17 => ?_)
      · replace h9 := ifT hc17 h9
        exact hj60 v1.1 h9
      · replace h9 := ifF hc17 h9
        exact hj53 h9
noncomputable def f_J6_bitCount_0f7a4 (p1 : Int32) : Option (Int32) := some ((((((((p1 - (((p1.toUInt32 >>> ((1 : Int32).toUInt32 &&& Int32.toUInt32 31)).toInt32) &&& 1431655765)) &&& 858993459) + ((((p1 - (((p1.toUInt32 >>> ((1 : Int32).toUInt32 &&& Int32.toUInt32 31)).toInt32) &&& 1431655765)).toUInt32 >>> ((2 : Int32).toUInt32 &&& Int32.toUInt32 31)).toInt32) &&& 858993459)) + (((((p1 - (((p1.toUInt32 >>> ((1 : Int32).toUInt32 &&& Int32.toUInt32 31)).toInt32) &&& 1431655765)) &&& 858993459) + ((((p1 - (((p1.toUInt32 >>> ((1 : Int32).toUInt32 &&& Int32.toUInt32 31)).toInt32) &&& 1431655765)).toUInt32 >>> ((2 : Int32).toUInt32 &&& Int32.toUInt32 31)).toInt32) &&& 858993459)).toUInt32 >>> ((4 : Int32).toUInt32 &&& Int32.toUInt32 31)).toInt32)) &&& 252645135) + (((((((p1 - (((p1.toUInt32 >>> ((1 : Int32).toUInt32 &&& Int32.toUInt32 31)).toInt32) &&& 1431655765)) &&& 858993459) + ((((p1 - (((p1.toUInt32 >>> ((1 : Int32).toUInt32 &&& Int32.toUInt32 31)).toInt32) &&& 1431655765)).toUInt32 >>> ((2 : Int32).toUInt32 &&& Int32.toUInt32 31)).toInt32) &&& 858993459)) + (((((p1 - (((p1.toUInt32 >>> ((1 : Int32).toUInt32 &&& Int32.toUInt32 31)).toInt32) &&& 1431655765)) &&& 858993459) + ((((p1 - (((p1.toUInt32 >>> ((1 : Int32).toUInt32 &&& Int32.toUInt32 31)).toInt32) &&& 1431655765)).toUInt32 >>> ((2 : Int32).toUInt32 &&& Int32.toUInt32 31)).toInt32) &&& 858993459)).toUInt32 >>> ((4 : Int32).toUInt32 &&& Int32.toUInt32 31)).toInt32)) &&& 252645135).toUInt32 >>> ((8 : Int32).toUInt32 &&& Int32.toUInt32 31)).toInt32)) + ((((((((p1 - (((p1.toUInt32 >>> ((1 : Int32).toUInt32 &&& Int32.toUInt32 31)).toInt32) &&& 1431655765)) &&& 858993459) + ((((p1 - (((p1.toUInt32 >>> ((1 : Int32).toUInt32 &&& Int32.toUInt32 31)).toInt32) &&& 1431655765)).toUInt32 >>> ((2 : Int32).toUInt32 &&& Int32.toUInt32 31)).toInt32) &&& 858993459)) + (((((p1 - (((p1.toUInt32 >>> ((1 : Int32).toUInt32 &&& Int32.toUInt32 31)).toInt32) &&& 1431655765)) &&& 858993459) + ((((p1 - (((p1.toUInt32 >>> ((1 : Int32).toUInt32 &&& Int32.toUInt32 31)).toInt32) &&& 1431655765)).toUInt32 >>> ((2 : Int32).toUInt32 &&& Int32.toUInt32 31)).toInt32) &&& 858993459)).toUInt32 >>> ((4 : Int32).toUInt32 &&& Int32.toUInt32 31)).toInt32)) &&& 252645135) + (((((((p1 - (((p1.toUInt32 >>> ((1 : Int32).toUInt32 &&& Int32.toUInt32 31)).toInt32) &&& 1431655765)) &&& 858993459) + ((((p1 - (((p1.toUInt32 >>> ((1 : Int32).toUInt32 &&& Int32.toUInt32 31)).toInt32) &&& 1431655765)).toUInt32 >>> ((2 : Int32).toUInt32 &&& Int32.toUInt32 31)).toInt32) &&& 858993459)) + (((((p1 - (((p1.toUInt32 >>> ((1 : Int32).toUInt32 &&& Int32.toUInt32 31)).toInt32) &&& 1431655765)) &&& 858993459) + ((((p1 - (((p1.toUInt32 >>> ((1 : Int32).toUInt32 &&& Int32.toUInt32 31)).toInt32) &&& 1431655765)).toUInt32 >>> ((2 : Int32).toUInt32 &&& Int32.toUInt32 31)).toInt32) &&& 858993459)).toUInt32 >>> ((4 : Int32).toUInt32 &&& Int32.toUInt32 31)).toInt32)) &&& 252645135).toUInt32 >>> ((8 : Int32).toUInt32 &&& Int32.toUInt32 31)).toInt32)).toUInt32 >>> ((16 : Int32).toUInt32 &&& Int32.toUInt32 31)).toInt32)) &&& 63)
theorem c_J6_bitCount_0f7a4 {g : GG} {d : Nat} {ad : AD} {x m : VM} {Q : Option Value → VM → VM → Prop} (p1 : Int32) {r9 : Int32} (hf : f_J6_bitCount_0f7a4 p1 = some r9) (hq : Q (some (.int r9)) x m) : CX g d MJ6_bitCount_0f7a4 [.int p1] ad x m Q := by
  refine CX.to (Lv := [some (.int p1)]) okJ6_bitCount_0f7a4 (Nat.le_of_ble_eq_true rfl) rfl ?_
  obtain ⟨Φ0, hΦ⟩ : ∃ Φ : Option (Int32) → Prop, Φ = fun o => o = some r9 := ⟨_, rfl⟩
  have hN0 : Φ0 none → False := by rw [hΦ]; intro h; cases h
  have hR0 : ∀ z9, Φ0 (some z9) → Q (some (.int z9)) x m := by rw [hΦ]; intro z9 h; cases h; exact hq
  have h9 : Φ0 (f_J6_bitCount_0f7a4 p1) := by rw [hΦ]; exact hf
  clear hf hq hΦ
  unfold f_J6_bitCount_0f7a4 at h9
  refine e_iload_n dJ6_bitCount_0f7a4_0 rfl rfl ?_
  refine e_iload_n dJ6_bitCount_0f7a4_1 rfl rfl ?_
  refine e_iconst (v := 1) dJ6_bitCount_0f7a4_2 rfl ?_
  refine e_iushr dJ6_bitCount_0f7a4_3 rfl ?_
  refine e_ldcw (v := 1431655765) rfl kcJ6_265 dJ6_bitCount_0f7a4_4 ?_
  refine e_iand dJ6_bitCount_0f7a4_7 ?_
  refine e_isub dJ6_bitCount_0f7a4_8 ?_
  refine e_istore_n (L' := [some (.int (p1 - (((p1.toUInt32 >>> ((1 : Int32).toUInt32 &&& Int32.toUInt32 31)).toInt32) &&& 1431655765)))]) dJ6_bitCount_0f7a4_9 rfl (by decide) rfl ?_
  refine e_pc (pc' := 10) rfl ?_
  refine e_iload_n dJ6_bitCount_0f7a4_10 rfl rfl ?_
  refine e_ldcw (v := 858993459) rfl kcJ6_266 dJ6_bitCount_0f7a4_11 ?_
  refine e_iand dJ6_bitCount_0f7a4_14 ?_
  refine e_iload_n dJ6_bitCount_0f7a4_15 rfl rfl ?_
  refine e_iconst (v := 2) dJ6_bitCount_0f7a4_16 rfl ?_
  refine e_iushr dJ6_bitCount_0f7a4_17 rfl ?_
  refine e_ldcw (v := 858993459) rfl kcJ6_266 dJ6_bitCount_0f7a4_18 ?_
  refine e_iand dJ6_bitCount_0f7a4_21 ?_
  refine e_iadd dJ6_bitCount_0f7a4_22 ?_
  refine e_pc (pc' := 23) rfl ?_
  refine e_istore_n (L' := [some (.int (((p1 - (((p1.toUInt32 >>> ((1 : Int32).toUInt32 &&& Int32.toUInt32 31)).toInt32) &&& 1431655765)) &&& 858993459) + ((((p1 - (((p1.toUInt32 >>> ((1 : Int32).toUInt32 &&& Int32.toUInt32 31)).toInt32) &&& 1431655765)).toUInt32 >>> ((2 : Int32).toUInt32 &&& Int32.toUInt32 31)).toInt32) &&& 858993459)))]) dJ6_bitCount_0f7a4_23 rfl (by decide) rfl ?_
  refine e_iload_n dJ6_bitCount_0f7a4_24 rfl rfl ?_
  refine e_iload_n dJ6_bitCount_0f7a4_25 rfl rfl ?_
  refine e_iconst (v := 4) dJ6_bitCount_0f7a4_26 rfl ?_
  refine e_iushr dJ6_bitCount_0f7a4_27 rfl ?_
  refine e_iadd dJ6_bitCount_0f7a4_28 ?_
  refine e_ldcw (v := 252645135) rfl kcJ6_267 dJ6_bitCount_0f7a4_29 ?_
  refine e_iand dJ6_bitCount_0f7a4_32 ?_
  refine e_istore_n (L' := [some (.int (((((p1 - (((p1.toUInt32 >>> ((1 : Int32).toUInt32 &&& Int32.toUInt32 31)).toInt32) &&& 1431655765)) &&& 858993459) + ((((p1 - (((p1.toUInt32 >>> ((1 : Int32).toUInt32 &&& Int32.toUInt32 31)).toInt32) &&& 1431655765)).toUInt32 >>> ((2 : Int32).toUInt32 &&& Int32.toUInt32 31)).toInt32) &&& 858993459)) + (((((p1 - (((p1.toUInt32 >>> ((1 : Int32).toUInt32 &&& Int32.toUInt32 31)).toInt32) &&& 1431655765)) &&& 858993459) + ((((p1 - (((p1.toUInt32 >>> ((1 : Int32).toUInt32 &&& Int32.toUInt32 31)).toInt32) &&& 1431655765)).toUInt32 >>> ((2 : Int32).toUInt32 &&& Int32.toUInt32 31)).toInt32) &&& 858993459)).toUInt32 >>> ((4 : Int32).toUInt32 &&& Int32.toUInt32 31)).toInt32)) &&& 252645135))]) dJ6_bitCount_0f7a4_33 rfl (by decide) rfl ?_
  refine e_pc (pc' := 34) rfl ?_
  refine e_iload_n dJ6_bitCount_0f7a4_34 rfl rfl ?_
  refine e_iload_n dJ6_bitCount_0f7a4_35 rfl rfl ?_
  refine e_bipush (v := 8) dJ6_bitCount_0f7a4_36 rfl ?_
  refine e_iushr dJ6_bitCount_0f7a4_38 rfl ?_
  refine e_iadd dJ6_bitCount_0f7a4_39 ?_
  refine e_istore_n (L' := [some (.int ((((((p1 - (((p1.toUInt32 >>> ((1 : Int32).toUInt32 &&& Int32.toUInt32 31)).toInt32) &&& 1431655765)) &&& 858993459) + ((((p1 - (((p1.toUInt32 >>> ((1 : Int32).toUInt32 &&& Int32.toUInt32 31)).toInt32) &&& 1431655765)).toUInt32 >>> ((2 : Int32).toUInt32 &&& Int32.toUInt32 31)).toInt32) &&& 858993459)) + (((((p1 - (((p1.toUInt32 >>> ((1 : Int32).toUInt32 &&& Int32.toUInt32 31)).toInt32) &&& 1431655765)) &&& 858993459) + ((((p1 - (((p1.toUInt32 >>> ((1 : Int32).toUInt32 &&& Int32.toUInt32 31)).toInt32) &&& 1431655765)).toUInt32 >>> ((2 : Int32).toUInt32 &&& Int32.toUInt32 31)).toInt32) &&& 858993459)).toUInt32 >>> ((4 : Int32).toUInt32 &&& Int32.toUInt32 31)).toInt32)) &&& 252645135) + (((((((p1 - (((p1.toUInt32 >>> ((1 : Int32).toUInt32 &&& Int32.toUInt32 31)).toInt32) &&& 1431655765)) &&& 858993459) + ((((p1 - (((p1.toUInt32 >>> ((1 : Int32).toUInt32 &&& Int32.toUInt32 31)).toInt32) &&& 1431655765)).toUInt32 >>> ((2 : Int32).toUInt32 &&& Int32.toUInt32 31)).toInt32) &&& 858993459)) + (((((p1 - (((p1.toUInt32 >>> ((1 : Int32).toUInt32 &&& Int32.toUInt32 31)).toInt32) &&& 1431655765)) &&& 858993459) + ((((p1 - (((p1.toUInt32 >>> ((1 : Int32).toUInt32 &&& Int32.toUInt32 31)).toInt32) &&& 1431655765)).toUInt32 >>> ((2 : Int32).toUInt32 &&& Int32.toUInt32 31)).toInt32) &&& 858993459)).toUInt32 >>> ((4 : Int32).toUInt32 &&& Int32.toUInt32 31)).toInt32)) &&& 252645135).toUInt32 >>> ((8 : Int32).toUInt32 &&& Int32.toUInt32 31)).toInt32)))]) dJ6_bitCount_0f7a4_40 rfl (by decide) rfl ?_
  refine e_iload_n dJ6_bitCount_0f7a4_41 rfl rfl ?_
  refine e_iload_n dJ6_bitCount_0f7a4_42 rfl rfl ?_
  refine e_bipush (v := 16) dJ6_bitCount_0f7a4_43 rfl ?_
  refine e_pc (pc' := 45) rfl ?_
  refine e_iushr dJ6_bitCount_0f7a4_45 rfl ?_
  refine e_iadd dJ6_bitCount_0f7a4_46 ?_
  refine e_istore_n (L' := [some (.int (((((((p1 - (((p1.toUInt32 >>> ((1 : Int32).toUInt32 &&& Int32.toUInt32 31)).toInt32) &&& 1431655765)) &&& 858993459) + ((((p1 - (((p1.toUInt32 >>> ((1 : Int32).toUInt32 &&& Int32.toUInt32 31)).toInt32) &&& 1431655765)).toUInt32 >>> ((2 : Int32).toUInt32 &&& Int32.toUInt32 31)).toInt32) &&& 858993459)) + (((((p1 - (((p1.toUInt32 >>> ((1 : Int32).toUInt32 &&& Int32.toUInt32 31)).toInt32) &&& 1431655765)) &&& 858993459) + ((((p1 - (((p1.toUInt32 >>> ((1 : Int32).toUInt32 &&& Int32.toUInt32 31)).toInt32) &&& 1431655765)).toUInt32 >>> ((2 : Int32).toUInt32 &&& Int32.toUInt32 31)).toInt32) &&& 858993459)).toUInt32 >>> ((4 : Int32).toUInt32 &&& Int32.toUInt32 31)).toInt32)) &&& 252645135) + (((((((p1 - (((p1.toUInt32 >>> ((1 : Int32).toUInt32 &&& Int32.toUInt32 31)).toInt32) &&& 1431655765)) &&& 858993459) + ((((p1 - (((p1.toUInt32 >>> ((1 : Int32).toUInt32 &&& Int32.toUInt32 31)).toInt32) &&& 1431655765)).toUInt32 >>> ((2 : Int32).toUInt32 &&& Int32.toUInt32 31)).toInt32) &&& 858993459)) + (((((p1 - (((p1.toUInt32 >>> ((1 : Int32).toUInt32 &&& Int32.toUInt32 31)).toInt32) &&& 1431655765)) &&& 858993459) + ((((p1 - (((p1.toUInt32 >>> ((1 : Int32).toUInt32 &&& Int32.toUInt32 31)).toInt32) &&& 1431655765)).toUInt32 >>> ((2 : Int32).toUInt32 &&& Int32.toUInt32 31)).toInt32) &&& 858993459)).toUInt32 >>> ((4 : Int32).toUInt32 &&& Int32.toUInt32 31)).toInt32)) &&& 252645135).toUInt32 >>> ((8 : Int32).toUInt32 &&& Int32.toUInt32 31)).toInt32)) + ((((((((p1 - (((p1.toUInt32 >>> ((1 : Int32).toUInt32 &&& Int32.toUInt32 31)).toInt32) &&& 1431655765)) &&& 858993459) + ((((p1 - (((p1.toUInt32 >>> ((1 : Int32).toUInt32 &&& Int32.toUInt32 31)).toInt32) &&& 1431655765)).toUInt32 >>> ((2 : Int32).toUInt32 &&& Int32.toUInt32 31)).toInt32) &&& 858993459)) + (((((p1 - (((p1.toUInt32 >>> ((1 : Int32).toUInt32 &&& Int32.toUInt32 31)).toInt32) &&& 1431655765)) &&& 858993459) + ((((p1 - (((p1.toUInt32 >>> ((1 : Int32).toUInt32 &&& Int32.toUInt32 31)).toInt32) &&& 1431655765)).toUInt32 >>> ((2 : Int32).toUInt32 &&& Int32.toUInt32 31)).toInt32) &&& 858993459)).toUInt32 >>> ((4 : Int32).toUInt32 &&& Int32.toUInt32 31)).toInt32)) &&& 252645135) + (((((((p1 - (((p1.toUInt32 >>> ((1 : Int32).toUInt32 &&& Int32.toUInt32 31)).toInt32) &&& 1431655765)) &&& 858993459) + ((((p1 - (((p1.toUInt32 >>> ((1 : Int32).toUInt32 &&& Int32.toUInt32 31)).toInt32) &&& 1431655765)).toUInt32 >>> ((2 : Int32).toUInt32 &&& Int32.toUInt32 31)).toInt32) &&& 858993459)) + (((((p1 - (((p1.toUInt32 >>> ((1 : Int32).toUInt32 &&& Int32.toUInt32 31)).toInt32) &&& 1431655765)) &&& 858993459) + ((((p1 - (((p1.toUInt32 >>> ((1 : Int32).toUInt32 &&& Int32.toUInt32 31)).toInt32) &&& 1431655765)).toUInt32 >>> ((2 : Int32).toUInt32 &&& Int32.toUInt32 31)).toInt32) &&& 858993459)).toUInt32 >>> ((4 : Int32).toUInt32 &&& Int32.toUInt32 31)).toInt32)) &&& 252645135).toUInt32 >>> ((8 : Int32).toUInt32 &&& Int32.toUInt32 31)).toInt32)).toUInt32 >>> ((16 : Int32).toUInt32 &&& Int32.toUInt32 31)).toInt32)))]) dJ6_bitCount_0f7a4_47 rfl (by decide) rfl ?_
  refine e_iload_n dJ6_bitCount_0f7a4_48 rfl rfl ?_
  refine e_bipush (v := 63) dJ6_bitCount_0f7a4_49 rfl ?_
  refine e_iand dJ6_bitCount_0f7a4_51 ?_
  exact x_iret dJ6_bitCount_0f7a4_52 rfl (hR0 _ h9)
noncomputable def b_X3_boundOf_7 (x : VM) (p1 : Nat) (v1 : Int32 × Int32 × Int32) : (Int32 × Int32 × Int32) ⊕ (Option (Int32)) := if p1 < x.2.2.2 5 then if (x.1 502 p1) ≤ v1.2.2 then (f_J6_bitCount_0f7a4 v1.2.1).elim (Sum.inr none) (fun r4 => Sum.inr (some (v1.1 + ((x.1 302 0) * r4)))) else if inb v1.2.2 8 = true then if v1.2.2.toNatClampNeg < x.2.2.2 (20 + p1) then if (8 * p1 + v1.2.2.toNatClampNeg) / 8 < x.2.2.2 5 ∧ (8 * p1 + v1.2.2.toNatClampNeg) % 8 < x.2.2.2 (20 + (8 * p1 + v1.2.2.toNatClampNeg) / 8) then (f_X3_dayCost x (x.1 801 (8 * p1 + v1.2.2.toNatClampNeg))).elim (Sum.inr none) (fun r8 => Sum.inl (v1.1 + ((x.1 802 (8 * p1 + v1.2.2.toNatClampNeg)) * r8), v1.2.1 ||| ((1 : Int32) <<< ((x.1 800 (8 * p1 + v1.2.2.toNatClampNeg)) &&& 31)), v1.2.2 + 1)) else Sum.inr none else Sum.inr none else Sum.inr none else Sum.inr none
noncomputable def f_X3_boundOf (x : VM) (p1 : Nat) : Option (Int32) := loopF none (b_X3_boundOf_7 x p1) (0, 0, 0)
theorem c_X3_boundOf {g : GG} {d : Nat} {ad : AD} {x m : VM} {Q : Option Value → VM → VM → Prop} (p1 : Nat) {r9 : Int32} (hf : f_X3_boundOf x p1 = some r9) (hq : Q (some (.int r9)) x m) : CX g (d + 1) MX3_boundOf [.ref (ad 3 0), .ref (ad 5 p1)] ad x m Q := by
  refine CX.to (Lv := [some (.ref (ad 3 0)), some (.ref (ad 5 p1)), none, none, none, none]) okX3_boundOf (Nat.le_of_ble_eq_true rfl) rfl ?_
  obtain ⟨Φ0, hΦ⟩ : ∃ Φ : Option (Int32) → Prop, Φ = fun o => o = some r9 := ⟨_, rfl⟩
  have hN0 : Φ0 none → False := by rw [hΦ]; intro h; cases h
  have hR0 : ∀ z9, Φ0 (some z9) → Q (some (.int z9)) x m := by rw [hΦ]; intro z9 h; cases h; exact hq
  have h9 : Φ0 (f_X3_boundOf x p1) := by rw [hΦ]; exact hf
  clear hf hq hΦ
  unfold f_X3_boundOf at h9
  refine e_iconst (v := 0) dX3_boundOf_0 rfl ?_
  refine e_istore_n (L' := [some (.ref (ad 3 0)), some (.ref (ad 5 p1)), some (.int 0), none, none, none]) dX3_boundOf_1 rfl (by decide) rfl ?_
  refine e_iconst (v := 0) dX3_boundOf_2 rfl ?_
  refine e_istore_n (L' := [some (.ref (ad 3 0)), some (.ref (ad 5 p1)), some (.int 0), some (.int 0), none, none]) dX3_boundOf_3 rfl (by decide) rfl ?_
  refine e_iconst (v := 0) dX3_boundOf_4 rfl ?_
  refine e_istore (L' := [some (.ref (ad 3 0)), some (.ref (ad 5 p1)), some (.int 0), some (.int 0), some (.int 0), none]) dX3_boundOf_5 (by decide) rfl ?_
  refine loop_gen (b_X3_boundOf_7 x p1) none (fun v1 => EX g (d + 1) MX3_boundOf ad x m 7 [some (.ref (ad 3 0)), some (.ref (ad 5 p1)), some (.int v1.1), some (.int v1.2.1), some (.int v1.2.2), none] [] Q) Φ0 hN0 (fun v1 Φ1 hB0_1 hO1 h9 => ?_) (0, 0, 0) h9
  have hN1 := fun h => hN0 (hO1 _ h)
  have hR1 := fun r9 h => hR0 r9 (hO1 _ h)
  have hB0_1 : ∀ (z0 : Int32) (z1 : Int32) (z2 : Int32), Φ1 (Sum.inl (z0, z1, z2)) → EX g (d + 1) MX3_boundOf ad x m 7 [some (.ref (ad 3 0)), some (.ref (ad 5 p1)), some (.int z0), some (.int z1), some (.int z2), none] [] Q := fun z0 z1 z2 h => hB0_1 (z0, z1, z2) h
  unfold b_X3_boundOf_7 at h9
  refine e_iload dX3_boundOf_7 rfl ?_
  refine e_aload_n dX3_boundOf_9 rfl rfl ?_
  obtain ⟨k2, h9⟩ := chkP hN1 h9
  refine g_502 flX3_38 dX3_boundOf_10 k2 ?_
  refine e_icmp_ge (tgt := 59) dX3_boundOf_13 rfl (fun hc3 => ?_) (fun hc3 => ?_)
  · replace h9 := ifT hc3 h9
    refine e_iload_n dX3_boundOf_59 rfl rfl ?_
    refine e_aload_n dX3_boundOf_60 rfl rfl ?_
    refine g_302 flX3_19 dX3_boundOf_61 ?_
    refine e_iload_n dX3_boundOf_64 rfl rfl ?_
    obtain ⟨r4, hr4, h9⟩ := elimP hN1 h9
    refine x_callSi (As := [.int v1.2.1]) (rest := [.int (x.1 302 0), .int v1.1]) okJ6_bitCount_0f7a4 lkX3_108 dX3_boundOf_65 rfl rfl (Nat.le_of_ble_eq_true rfl) (c_J6_bitCount_0f7a4 v1.2.1 hr4 (CI.mk ?_))
    refine e_imul dX3_boundOf_68 ?_
    refine e_iadd dX3_boundOf_69 ?_
    exact x_iret dX3_boundOf_70 rfl (hR1 _ h9)
  · replace h9 := ifF hc3 h9
    refine e_aload_n dX3_boundOf_16 rfl rfl ?_
    refine g_501 flX3_49 dX3_boundOf_17 k2 ?_
    refine e_iload dX3_boundOf_20 rfl ?_
    obtain ⟨k5, h9⟩ := chkP hN1 h9
    refine l_501 dX3_boundOf_22 k2 (inb_in k5) ?_
    obtain ⟨k6, h9⟩ := chkP hN1 h9
    refine e_top (v := .ref (ad 8 (8 * p1 + v1.2.2.toNatClampNeg))) (rfT k6) ?_
    refine e_astore (L' := [some (.ref (ad 3 0)), some (.ref (ad 5 p1)), some (.int v1.1), some (.int v1.2.1), some (.int v1.2.2), some (.ref (ad 8 (8 * p1 + v1.2.2.toNatClampNeg)))]) dX3_boundOf_23 (by decide) rfl ?_
    refine e_iload_n dX3_boundOf_25 rfl rfl ?_
    refine e_aload dX3_boundOf_26 rfl ?_
    obtain ⟨k7, h9⟩ := chkP hN1 h9
    refine g_802 flX3_83 dX3_boundOf_28 k7 ?_
    refine e_pc (pc' := 31) rfl ?_
    refine e_aload_n dX3_boundOf_31 rfl rfl ?_
    refine e_aload dX3_boundOf_32 rfl ?_
    refine g_801 flX3_53 dX3_boundOf_34 k7 ?_
    obtain ⟨r8, hr8, h9⟩ := elimP hN1 h9
    refine x_callVi (c := 3) (As := [.int (x.1 801 (8 * p1 + v1.2.2.toNatClampNeg))]) (rest := [.int (x.1 802 (8 * p1 + v1.2.2.toNatClampNeg)), .int v1.1]) okX3_dayCost lkX3_86 rfl (by decide) rfl dX3_boundOf_37 rfl rfl (Nat.le_of_ble_eq_true rfl) rfl (c_X3_dayCost (x.1 801 (8 * p1 + v1.2.2.toNatClampNeg)) hr8 (CI.mk ?_))
    refine e_imul dX3_boundOf_40 ?_
    refine e_iadd dX3_boundOf_41 ?_
    refine e_istore_n (L' := [some (.ref (ad 3 0)), some (.ref (ad 5 p1)), some (.int (v1.1 + ((x.1 802 (8 * p1 + v1.2.2.toNatClampNeg)) * r8))), some (.int v1.2.1), some (.int v1.2.2), some (.ref (ad 8 (8 * p1 + v1.2.2.toNatClampNeg)))]) dX3_boundOf_42 rfl (by decide) rfl ?_
    refine e_iload_n dX3_boundOf_43 rfl rfl ?_
    refine e_iconst (v := 1) dX3_boundOf_44 rfl ?_
    refine e_pc (pc' := 45) rfl ?_
    refine e_aload dX3_boundOf_45 rfl ?_
    refine g_800 flX3_89 dX3_boundOf_47 k7 ?_
    refine e_ishl dX3_boundOf_50 ?_
    refine e_ior dX3_boundOf_51 ?_
    refine e_istore_n (L' := [some (.ref (ad 3 0)), some (.ref (ad 5 p1)), some (.int (v1.1 + ((x.1 802 (8 * p1 + v1.2.2.toNatClampNeg)) * r8))), some (.int (v1.2.1 ||| ((1 : Int32) <<< ((x.1 800 (8 * p1 + v1.2.2.toNatClampNeg)) &&& 31)))), some (.int v1.2.2), some (.ref (ad 8 (8 * p1 + v1.2.2.toNatClampNeg)))]) dX3_boundOf_52 rfl (by decide) rfl ?_
    refine e_iinc (v := (v1.2.2 + 1)) (L' := [some (.ref (ad 3 0)), some (.ref (ad 5 p1)), some (.int (v1.1 + ((x.1 802 (8 * p1 + v1.2.2.toNatClampNeg)) * r8))), some (.int (v1.2.1 ||| ((1 : Int32) <<< ((x.1 800 (8 * p1 + v1.2.2.toNatClampNeg)) &&& 31)))), some (.int (v1.2.2 + 1)), some (.ref (ad 8 (8 * p1 + v1.2.2.toNatClampNeg)))]) dX3_boundOf_53 rfl rfl (by decide) rfl ?_
    refine e_goto (tgt := 7) dX3_boundOf_56 rfl ?_
    refine e_wk (L' := [some (.ref (ad 3 0)), some (.ref (ad 5 p1)), some (.int (v1.1 + ((x.1 802 (8 * p1 + v1.2.2.toNatClampNeg)) * r8))), some (.int (v1.2.1 ||| ((1 : Int32) <<< ((x.1 800 (8 * p1 + v1.2.2.toNatClampNeg)) &&& 31)))), some (.int (v1.2.2 + 1)), none]) (wkC (wkC (wkC (wkC (wkC (wkN wk0)))))) ?_
    exact hB0_1 _ _ _ h9
noncomputable def j_X4_beginTerm_44 (x : VM) (i : Nat) (p2 : Int32) (v1 : Int32 × VM) : (Int32 × VM) ⊕ (Option (VM)) := if i < v1.2.2.2.2 4 then Sum.inr (some (setI (setI (setI (setI (setI (setI v1.2 404 i p2) 405 i (p2 + (364 * ((setI v1.2 404 i p2).2.1 401 i ((5 : Int32).toNatClampNeg))))) 409 i 0) 410 i 0) 411 i 0) 412 i 0)) else Sum.inr none
noncomputable def b_X4_beginTerm_2 (x : VM) (i : Nat) (p2 : Int32) (v1 : Int32 × VM) : (Int32 × VM) ⊕ (Option (VM)) := if 6 ≤ v1.1 then j_X4_beginTerm_44 x i p2 v1 else if 6 ≤ v1.1 then j_X4_beginTerm_44 x i p2 v1 else if i < v1.2.2.2.2 4 then if inb v1.1 6 = true then if (v1.2.2.1 1000 0 v1.1.toNatClampNeg) = (-1) then if inb v1.1 6 = true then if inb v1.1 6 = true then Sum.inl (v1.1 + 1, setA v1.2 401 i (upd (v1.2.2.1 401 i) v1.1.toNatClampNeg (sv4 v1.1.toNatClampNeg))) else Sum.inr none else Sum.inr none else if inb v1.1 6 = true then if inb v1.1 6 = true then Sum.inl (v1.1 + 1, setA v1.2 401 i (upd (v1.2.2.1 401 i) v1.1.toNatClampNeg (v1.2.2.1 1000 0 v1.1.toNatClampNeg))) else Sum.inr none else Sum.inr none else Sum.inr none else Sum.inr none
noncomputable def f_X4_beginTerm (x : VM) (i : Nat) (p2 : Int32) : Option (VM) := loopF none (b_X4_beginTerm_2 x i p2) (0, x)
theorem c_X4_beginTerm {g : GG} {d : Nat} {ad : AD} {x m : VM} {Q : Option Value → VM → VM → Prop} (i : Nat) (p2 : Int32) {w9 : VM} (hf : f_X4_beginTerm x i p2 = some w9) (hq : Q none w9 m) : CX g d MX4_beginTerm [.ref (ad 4 i), .ref (ad 2000 0), .int p2] ad x m Q := by
  refine CX.to (Lv := [some (.ref (ad 4 i)), some (.ref (ad 2000 0)), some (.int p2), none]) okX4_beginTerm (Nat.le_of_ble_eq_true rfl) rfl ?_
  obtain ⟨Φ0, hΦ⟩ : ∃ Φ : Option (VM) → Prop, Φ = fun o => o = some w9 := ⟨_, rfl⟩
  have hN0 : Φ0 none → False := by rw [hΦ]; intro h; cases h
  have hR0 : ∀ z9, Φ0 (some z9) → Q none z9 m := by rw [hΦ]; intro z9 h; cases h; exact hq
  have h9 : Φ0 (f_X4_beginTerm x i p2) := by rw [hΦ]; exact hf
  clear hf hq hΦ
  unfold f_X4_beginTerm at h9
  refine e_iconst (v := 0) dX4_beginTerm_0 rfl ?_
  refine e_istore_n (L' := [some (.ref (ad 4 i)), some (.ref (ad 2000 0)), some (.int p2), some (.int 0)]) dX4_beginTerm_1 rfl (by decide) rfl ?_
  refine loop_gen (b_X4_beginTerm_2 x i p2) none (fun v1 => EX g d MX4_beginTerm ad v1.2 m 2 [some (.ref (ad 4 i)), some (.ref (ad 2000 0)), some (.int p2), some (.int v1.1)] [] Q) Φ0 hN0 (fun v1 Φ1 hB0_1 hO1 h9 => ?_) (0, x) h9
  have hN1 := fun h => hN0 (hO1 _ h)
  have hR1 := fun r9 h => hR0 r9 (hO1 _ h)
  have hB0_1 : ∀ (z0 : Int32) (z1 : VM), Φ1 (Sum.inl (z0, z1)) → EX g d MX4_beginTerm ad z1 m 2 [some (.ref (ad 4 i)), some (.ref (ad 2000 0)), some (.int p2), some (.int z0)] [] Q := fun z0 z1 h => hB0_1 (z0, z1) h
  unfold b_X4_beginTerm_2 at h9
  refine e_iload_n dX4_beginTerm_2 rfl rfl ?_
  refine e_bipush (v := 6) dX4_beginTerm_3 rfl ?_
  have hj44 : Φ1 (j_X4_beginTerm_44 x i p2 v1) → EX g d MX4_beginTerm ad v1.2 m 44 [some (.ref (ad 4 i)), none, some (.int p2), none] [] Q := by
    intro h9
    unfold j_X4_beginTerm_44 at h9
    refine e_aload_n dX4_beginTerm_44 rfl rfl ?_
    refine e_iload_n dX4_beginTerm_45 rfl rfl ?_
    obtain ⟨k2, h9⟩ := chkP hN1 h9
    refine p_404 flX4_23 dX4_beginTerm_46 k2 ?_
    refine e_aload_n dX4_beginTerm_49 rfl rfl ?_
    refine e_iload_n dX4_beginTerm_50 rfl rfl ?_
    refine e_sipush (v := 364) dX4_beginTerm_51 rfl ?_
    refine e_aload_n dX4_beginTerm_54 rfl rfl ?_
    refine g_401 flX4_9 dX4_beginTerm_55 k2 ?_
    refine e_pc (pc' := 58) rfl ?_
    refine e_iconst (v := 5) dX4_beginTerm_58 rfl ?_
    refine l_401 dX4_beginTerm_59 k2 (inb_in (by decide)) ?_
    refine e_imul dX4_beginTerm_60 ?_
    refine e_iadd dX4_beginTerm_61 ?_
    refine p_405 flX4_26 dX4_beginTerm_62 k2 ?_
    refine e_aload_n dX4_beginTerm_65 rfl rfl ?_
    refine e_iconst (v := 0) dX4_beginTerm_66 rfl ?_
    refine p_409 flX4_39 dX4_beginTerm_67 k2 ?_
    refine e_aload_n dX4_beginTerm_70 rfl rfl ?_
    refine e_pc (pc' := 71) rfl ?_
    refine e_iconst (v := 0) dX4_beginTerm_71 rfl ?_
    refine p_410 flX4_42 dX4_beginTerm_72 k2 ?_
    refine e_aload_n dX4_beginTerm_75 rfl rfl ?_
    refine e_iconst (v := 0) dX4_beginTerm_76 rfl ?_
    refine p_411 flX4_45 dX4_beginTerm_77 k2 ?_
    refine e_aload_n dX4_beginTerm_80 rfl rfl ?_
    refine e_iconst (v := 0) dX4_beginTerm_81 rfl ?_
    refine p_412 flX4_48 dX4_beginTerm_82 k2 ?_
    exact x_vret dX4_beginTerm_85 rfl (hR1 _ h9)
  refine e_icmp_ge (tgt := 44) dX4_beginTerm_5 rfl (fun hc3 => ?_) (fun hc3 => ?_)
  · replace h9 := ifT hc3 h9
    refine e_wk (L' := [some (.ref (ad 4 i)), none, some (.int p2), none]) (wkC (wkN (wkC (wkN wk0)))) ?_
    exact hj44 h9
  · replace h9 := ifF hc3 h9
    refine e_iload_n dX4_beginTerm_8 rfl rfl ?_
    refine e_aload_n dX4_beginTerm_9 rfl rfl ?_
    refine x_alen (c := 10) (k := 0) (v := 6) rfl ⟨by decide, by decide⟩ rfl dX4_beginTerm_10 rfl ?_
    refine e_icmp_ge (tgt := 44) dX4_beginTerm_11 rfl (fun hc4 => ?_) (fun hc4 => ?_)
    · replace h9 := ifT hc4 h9
      refine e_wk (L' := [some (.ref (ad 4 i)), none, some (.int p2), none]) (wkC (wkN (wkC (wkN wk0)))) ?_
      exact hj44 h9
    · replace h9 := ifF hc4 h9
      refine e_aload_n dX4_beginTerm_14 rfl rfl ?_
      obtain ⟨k5, h9⟩ := chkP hN1 h9
      refine g_401 flX4_9 dX4_beginTerm_15 k5 ?_
      refine e_iload_n dX4_beginTerm_18 rfl rfl ?_
      refine e_aload_n dX4_beginTerm_19 rfl rfl ?_
      refine e_iload_n dX4_beginTerm_20 rfl rfl ?_
      obtain ⟨k6, h9⟩ := chkP hN1 h9
      refine l_1000 dX4_beginTerm_21 (inb_in k6) ?_
      refine e_iconst (v := (-1)) dX4_beginTerm_22 rfl ?_
      refine e_icmp_ne (tgt := 34) dX4_beginTerm_23 rfl (fun hc7 => ?_) (fun hc7 => ?_)
      · replace h9 := ifF hc7 h9
        refine e_aload_n dX4_beginTerm_34 rfl rfl ?_
        refine e_iload_n dX4_beginTerm_35 rfl rfl ?_
        obtain ⟨k8, h9⟩ := chkP hN1 h9
        refine l_1000 dX4_beginTerm_36 (inb_in k8) ?_
        obtain ⟨k9, h9⟩ := chkP hN1 h9
        refine s_401 dX4_beginTerm_37 k5 (inb_in k9) ?_
        refine e_iinc (v := (v1.1 + 1)) (L' := [some (.ref (ad 4 i)), some (.ref (ad 2000 0)), some (.int p2), some (.int (v1.1 + 1))]) dX4_beginTerm_38 rfl rfl (by decide) rfl ?_
        refine e_goto (tgt := 2) dX4_beginTerm_41 rfl ?_
        exact hB0_1 _ _ h9
      · replace h9 := ifT hc7 h9
        refine e_getstaticN (j := 4) rfl (by decide) dX4_beginTerm_26 ?_
        refine e_iload_n dX4_beginTerm_29 rfl rfl ?_
        obtain ⟨k10, h9⟩ := chkP hN1 h9
        refine e_saload (j := 4) rfl dX4_beginTerm_30 (inb_in k10) ?_
        refine e_top (v := .int (sv4 v1.1.toNatClampNeg)) rfl ?_
        refine e_goto (tgt := 37) dX4_beginTerm_31 rfl ?_
        obtain ⟨k11, h9⟩ := chkP hN1 h9
        refine s_401 dX4_beginTerm_37 k5 (inb_in k11) ?_
        refine e_iinc (v := (v1.1 + 1)) (L' := [some (.ref (ad 4 i)), some (.ref (ad 2000 0)), some (.int p2), some (.int (v1.1 + 1))]) dX4_beginTerm_38 rfl rfl (by decide) rfl ?_
        refine e_goto (tgt := 2) dX4_beginTerm_41 rfl ?_
        exact hB0_1 _ _ h9
noncomputable def f_X4_countOf (x : VM) (i : Nat) (p1 : Int32) (p2 : Int32) : Option (Int32) := (f_X2_areAgainst x p1 p2).elim none (fun r1 => if r1 = 0 then if i < x.2.2.2 4 then if inb p1 6 = true then some (x.2.1 401 i p1.toNatClampNeg) else none else none else if inb p1 6 = true then some (sv4 p1.toNatClampNeg) else none)
theorem c_X4_countOf {g : GG} {d : Nat} {ad : AD} {x m : VM} {Q : Option Value → VM → VM → Prop} (i : Nat) (p1 : Int32) (p2 : Int32) {r9 : Int32} (hf : f_X4_countOf x i p1 p2 = some r9) (hq : Q (some (.int r9)) x m) : CX g (d + 1) MX4_countOf [.ref (ad 4 i), .int p1, .int p2, .ref (ad 2 0)] ad x m Q := by
  refine CX.to (Lv := [some (.ref (ad 4 i)), some (.int p1), some (.int p2), some (.ref (ad 2 0))]) okX4_countOf (Nat.le_of_ble_eq_true rfl) rfl ?_
  obtain ⟨Φ0, hΦ⟩ : ∃ Φ : Option (Int32) → Prop, Φ = fun o => o = some r9 := ⟨_, rfl⟩
  have hN0 : Φ0 none → False := by rw [hΦ]; intro h; cases h
  have hR0 : ∀ z9, Φ0 (some z9) → Q (some (.int z9)) x m := by rw [hΦ]; intro z9 h; cases h; exact hq
  have h9 : Φ0 (f_X4_countOf x i p1 p2) := by rw [hΦ]; exact hf
  clear hf hq hΦ
  unfold f_X4_countOf at h9
  refine e_aload_n dX4_countOf_0 rfl rfl ?_
  refine e_iload_n dX4_countOf_1 rfl rfl ?_
  refine e_iload_n dX4_countOf_2 rfl rfl ?_
  obtain ⟨r1, hr1, h9⟩ := elimP hN0 h9
  refine x_callVi (c := 2) (As := [.int p1, .int p2]) (rest := []) okX2_areAgainst lkX4_60 rfl (by decide) rfl dX4_countOf_3 rfl rfl (Nat.le_of_ble_eq_true rfl) rfl (c_X2_areAgainst p1 p2 hr1 (CI.mk ?_))
  refine e_if_eq (tgt := 17) dX4_countOf_6 rfl (fun hc2 => ?_) (fun hc2 => ?_)
  · replace h9 := ifT hc2 h9
    refine e_aload_n dX4_countOf_17 rfl rfl ?_
    obtain ⟨k3, h9⟩ := chkP hN0 h9
    refine g_401 flX4_9 dX4_countOf_18 k3 ?_
    refine e_iload_n dX4_countOf_21 rfl rfl ?_
    obtain ⟨k4, h9⟩ := chkP hN0 h9
    refine l_401 dX4_countOf_22 k3 (inb_in k4) ?_
    exact x_iret dX4_countOf_23 rfl (hR0 _ h9)
  · replace h9 := ifF hc2 h9
    refine e_getstaticN (j := 4) rfl (by decide) dX4_countOf_9 ?_
    refine e_iload_n dX4_countOf_12 rfl rfl ?_
    obtain ⟨k5, h9⟩ := chkP hN0 h9
    refine e_saload (j := 4) rfl dX4_countOf_13 (inb_in k5) ?_
    refine e_top (v := .int (sv4 p1.toNatClampNeg)) rfl ?_
    refine e_goto (tgt := 23) dX4_countOf_14 rfl ?_
    exact x_iret dX4_countOf_23 rfl (hR0 _ h9)
noncomputable def f_X4_isUnder (x : VM) (i : Nat) (p1 : Int32) : Option (Int32) := if i < x.2.2.2 4 then if (x.1 405 i) = (-1) then some 0 else if p1 < (x.1 404 i) then some 0 else if (x.1 405 i) ≤ p1 then some 0 else some 1 else none
theorem c_X4_isUnder {g : GG} {d : Nat} {ad : AD} {x m : VM} {Q : Option Value → VM → VM → Prop} (i : Nat) (p1 : Int32) {r9 : Int32} (hf : f_X4_isUnder x i p1 = some r9) (hq : Q (some (.int r9)) x m) : CX g d MX4_isUnder [.ref (ad 4 i), .int p1] ad x m Q := by
  refine CX.to (Lv := [some (.ref (ad 4 i)), some (.int p1)]) okX4_isUnder (Nat.le_of_ble_eq_true rfl) rfl ?_
  obtain ⟨Φ0, hΦ⟩ : ∃ Φ : Option (Int32) → Prop, Φ = fun o => o = some r9 := ⟨_, rfl⟩
  have hN0 : Φ0 none → False := by rw [hΦ]; intro h; cases h
  have hR0 : ∀ z9, Φ0 (some z9) → Q (some (.int z9)) x m := by rw [hΦ]; intro z9 h; cases h; exact hq
  have h9 : Φ0 (f_X4_isUnder x i p1) := by rw [hΦ]; exact hf
  clear hf hq hΦ
  unfold f_X4_isUnder at h9
  refine e_aload_n dX4_isUnder_0 rfl rfl ?_
  obtain ⟨k1, h9⟩ := chkP hN0 h9
  refine g_405 flX4_26 dX4_isUnder_1 k1 ?_
  refine e_iconst (v := (-1)) dX4_isUnder_4 rfl ?_
  refine e_icmp_eq (tgt := 28) dX4_isUnder_5 rfl (fun hc2 => ?_) (fun hc2 => ?_)
  · replace h9 := ifT hc2 h9
    refine e_iconst (v := 0) dX4_isUnder_28 rfl ?_
    exact x_zret dX4_isUnder_29 rfl (by decide) (hR0 _ h9)
  · replace h9 := ifF hc2 h9
    refine e_iload_n dX4_isUnder_8 rfl rfl ?_
    refine e_aload_n dX4_isUnder_9 rfl rfl ?_
    refine g_404 flX4_23 dX4_isUnder_10 k1 ?_
    refine e_icmp_lt (tgt := 28) dX4_isUnder_13 rfl (fun hc3 => ?_) (fun hc3 => ?_)
    · replace h9 := ifT hc3 h9
      refine e_iconst (v := 0) dX4_isUnder_28 rfl ?_
      exact x_zret dX4_isUnder_29 rfl (by decide) (hR0 _ h9)
    · replace h9 := ifF hc3 h9
      refine e_iload_n dX4_isUnder_16 rfl rfl ?_
      refine e_aload_n dX4_isUnder_17 rfl rfl ?_
      refine g_405 flX4_26 dX4_isUnder_18 k1 ?_
      refine e_icmp_ge (tgt := 28) dX4_isUnder_21 rfl (fun hc4 => ?_) (fun hc4 => ?_)
      · replace h9 := ifT hc4 h9
        refine e_iconst (v := 0) dX4_isUnder_28 rfl ?_
        exact x_zret dX4_isUnder_29 rfl (by decide) (hR0 _ h9)
      · replace h9 := ifF hc4 h9
        refine e_iconst (v := 1) dX4_isUnder_24 rfl ?_
        refine e_goto (tgt := 29) dX4_isUnder_25 rfl ?_
        exact x_zret dX4_isUnder_29 rfl (by decide) (hR0 _ h9)
noncomputable def f_X4_isAtWork (x : VM) (i : Nat) (p1 : Int32) : Option (Int32) := if i < x.2.2.2 4 then (f_X4_isUnder x i p1).elim none (fun r2 => if r2 = 0 then some 0 else if (x.1 406 i) = 0 then if (x.1 407 i) = (-1) then some 1 else some 0 else some 0) else none
theorem c_X4_isAtWork {g : GG} {d : Nat} {ad : AD} {x m : VM} {Q : Option Value → VM → VM → Prop} (i : Nat) (p1 : Int32) {r9 : Int32} (hf : f_X4_isAtWork x i p1 = some r9) (hq : Q (some (.int r9)) x m) : CX g (d + 1) MX4_isAtWork [.ref (ad 4 i), .int p1] ad x m Q := by
  refine CX.to (Lv := [some (.ref (ad 4 i)), some (.int p1)]) okX4_isAtWork (Nat.le_of_ble_eq_true rfl) rfl ?_
  obtain ⟨Φ0, hΦ⟩ : ∃ Φ : Option (Int32) → Prop, Φ = fun o => o = some r9 := ⟨_, rfl⟩
  have hN0 : Φ0 none → False := by rw [hΦ]; intro h; cases h
  have hR0 : ∀ z9, Φ0 (some z9) → Q (some (.int z9)) x m := by rw [hΦ]; intro z9 h; cases h; exact hq
  have h9 : Φ0 (f_X4_isAtWork x i p1) := by rw [hΦ]; exact hf
  clear hf hq hΦ
  unfold f_X4_isAtWork at h9
  refine e_aload_n dX4_isAtWork_0 rfl rfl ?_
  refine e_iload_n dX4_isAtWork_1 rfl rfl ?_
  obtain ⟨k1, h9⟩ := chkP hN0 h9
  obtain ⟨r2, hr2, h9⟩ := elimP hN0 h9
  refine x_callVi (c := 4) (As := [.int p1]) (rest := []) okX4_isUnder lkX4_66 rfl (by decide) rfl dX4_isAtWork_2 rfl rfl (Nat.le_of_ble_eq_true rfl) k1 (c_X4_isUnder i p1 hr2 (CI.mk ?_))
  refine e_if_eq (tgt := 27) dX4_isAtWork_5 rfl (fun hc3 => ?_) (fun hc3 => ?_)
  · replace h9 := ifT hc3 h9
    refine e_iconst (v := 0) dX4_isAtWork_27 rfl ?_
    exact x_zret dX4_isAtWork_28 rfl (by decide) (hR0 _ h9)
  · replace h9 := ifF hc3 h9
    refine e_aload_n dX4_isAtWork_8 rfl rfl ?_
    refine g_406 flX4_29 dX4_isAtWork_9 k1 ?_
    refine e_if_ne (tgt := 27) dX4_isAtWork_12 rfl (fun hc4 => ?_) (fun hc4 => ?_)
    · replace h9 := ifF hc4 h9
      refine e_iconst (v := 0) dX4_isAtWork_27 rfl ?_
      exact x_zret dX4_isAtWork_28 rfl (by decide) (hR0 _ h9)
    · replace h9 := ifT hc4 h9
      refine e_aload_n dX4_isAtWork_15 rfl rfl ?_
      refine g_407 flX4_33 dX4_isAtWork_16 k1 ?_
      refine e_iconst (v := (-1)) dX4_isAtWork_19 rfl ?_
      refine e_icmp_ne (tgt := 27) dX4_isAtWork_20 rfl (fun hc5 => ?_) (fun hc5 => ?_)
      · replace h9 := ifF hc5 h9
        refine e_iconst (v := 0) dX4_isAtWork_27 rfl ?_
        exact x_zret dX4_isAtWork_28 rfl (by decide) (hR0 _ h9)
      · replace h9 := ifT hc5 h9
        refine e_iconst (v := 1) dX4_isAtWork_23 rfl ?_
        refine e_goto (tgt := 28) dX4_isAtWork_24 rfl ?_
        exact x_zret dX4_isAtWork_28 rfl (by decide) (hR0 _ h9)
noncomputable def f_X4_isIll (x : VM) (i : Nat) (p1 : Int32) : Option (Int32) := if i < x.2.2.2 4 then if (x.1 403 i) ≤ 0 then some 0 else if ¬ (x.1 403 i) = 0 then if inb (p1 - p1 / (x.1 403 i) * (x.1 403 i)) 60 = true then if (lg_cmp (x.2.2.1 402 i ((p1 - p1 / (x.1 403 i) * (x.1 403 i)).toNatClampNeg)) 0) = 0 then some 0 else some 1 else none else none else none
theorem c_X4_isIll {g : GG} {d : Nat} {ad : AD} {x m : VM} {Q : Option Value → VM → VM → Prop} (i : Nat) (p1 : Int32) {r9 : Int32} (hf : f_X4_isIll x i p1 = some r9) (hq : Q (some (.int r9)) x m) : CX g d MX4_isIll [.ref (ad 4 i), .int p1] ad x m Q := by
  refine CX.to (Lv := [some (.ref (ad 4 i)), some (.int p1)]) okX4_isIll (Nat.le_of_ble_eq_true rfl) rfl ?_
  obtain ⟨Φ0, hΦ⟩ : ∃ Φ : Option (Int32) → Prop, Φ = fun o => o = some r9 := ⟨_, rfl⟩
  have hN0 : Φ0 none → False := by rw [hΦ]; intro h; cases h
  have hR0 : ∀ z9, Φ0 (some z9) → Q (some (.int z9)) x m := by rw [hΦ]; intro z9 h; cases h; exact hq
  have h9 : Φ0 (f_X4_isIll x i p1) := by rw [hΦ]; exact hf
  clear hf hq hΦ
  unfold f_X4_isIll at h9
  refine e_aload_n dX4_isIll_0 rfl rfl ?_
  obtain ⟨k1, h9⟩ := chkP hN0 h9
  refine g_403 flX4_19 dX4_isIll_1 k1 ?_
  refine e_if_le (tgt := 27) dX4_isIll_4 rfl (fun hc2 => ?_) (fun hc2 => ?_)
  · replace h9 := ifT hc2 h9
    refine e_iconst (v := 0) dX4_isIll_27 rfl ?_
    exact x_zret dX4_isIll_28 rfl (by decide) (hR0 _ h9)
  · replace h9 := ifF hc2 h9
    refine e_aload_n dX4_isIll_7 rfl rfl ?_
    refine g_402 flX4_15 dX4_isIll_8 k1 ?_
    refine e_iload_n dX4_isIll_11 rfl rfl ?_
    refine e_aload_n dX4_isIll_12 rfl rfl ?_
    refine g_403 flX4_19 dX4_isIll_13 k1 ?_
    obtain ⟨k3, h9⟩ := chkP hN0 h9
    refine e_irem dX4_isIll_16 k3 ?_
    obtain ⟨k4, h9⟩ := chkP hN0 h9
    refine l_402 dX4_isIll_17 k1 (inb_in k4) ?_
    refine e_lconst (v := 0) dX4_isIll_18 rfl ?_
    refine e_pc (pc' := 19) rfl ?_
    refine e_lcmp dX4_isIll_19 ?_
    refine e_if_eq (tgt := 27) dX4_isIll_20 rfl (fun hc5 => ?_) (fun hc5 => ?_)
    · replace h9 := ifT hc5 h9
      refine e_iconst (v := 0) dX4_isIll_27 rfl ?_
      exact x_zret dX4_isIll_28 rfl (by decide) (hR0 _ h9)
    · replace h9 := ifF hc5 h9
      refine e_iconst (v := 1) dX4_isIll_23 rfl ?_
      refine e_goto (tgt := 28) dX4_isIll_24 rfl ?_
      exact x_zret dX4_isIll_28 rfl (by decide) (hR0 _ h9)
noncomputable def f_X4_isReady (x : VM) (i : Nat) (p1 : Int32) : Option (Int32) := if i < x.2.2.2 4 then (f_X4_isAtWork x i p1).elim none (fun r2 => if r2 = 0 then some 0 else (f_X4_isIll x i p1).elim none (fun r4 => if r4 = 0 then some 1 else some 0)) else none
theorem c_X4_isReady {g : GG} {d : Nat} {ad : AD} {x m : VM} {Q : Option Value → VM → VM → Prop} (i : Nat) (p1 : Int32) {r9 : Int32} (hf : f_X4_isReady x i p1 = some r9) (hq : Q (some (.int r9)) x m) : CX g (d + 2) MX4_isReady [.ref (ad 4 i), .int p1] ad x m Q := by
  refine CX.to (Lv := [some (.ref (ad 4 i)), some (.int p1)]) okX4_isReady (Nat.le_of_ble_eq_true rfl) rfl ?_
  obtain ⟨Φ0, hΦ⟩ : ∃ Φ : Option (Int32) → Prop, Φ = fun o => o = some r9 := ⟨_, rfl⟩
  have hN0 : Φ0 none → False := by rw [hΦ]; intro h; cases h
  have hR0 : ∀ z9, Φ0 (some z9) → Q (some (.int z9)) x m := by rw [hΦ]; intro z9 h; cases h; exact hq
  have h9 : Φ0 (f_X4_isReady x i p1) := by rw [hΦ]; exact hf
  clear hf hq hΦ
  unfold f_X4_isReady at h9
  refine e_aload_n dX4_isReady_0 rfl rfl ?_
  refine e_iload_n dX4_isReady_1 rfl rfl ?_
  obtain ⟨k1, h9⟩ := chkP hN0 h9
  obtain ⟨r2, hr2, h9⟩ := elimP hN0 h9
  refine x_callVi (c := 4) (As := [.int p1]) (rest := []) okX4_isAtWork lkX4_70 rfl (by decide) rfl dX4_isReady_2 rfl rfl (Nat.le_of_ble_eq_true rfl) k1 (c_X4_isAtWork i p1 hr2 (CI.mk ?_))
  refine e_if_eq (tgt := 20) dX4_isReady_5 rfl (fun hc3 => ?_) (fun hc3 => ?_)
  · replace h9 := ifT hc3 h9
    refine e_iconst (v := 0) dX4_isReady_20 rfl ?_
    exact x_zret dX4_isReady_21 rfl (by decide) (hR0 _ h9)
  · replace h9 := ifF hc3 h9
    refine e_aload_n dX4_isReady_8 rfl rfl ?_
    refine e_iload_n dX4_isReady_9 rfl rfl ?_
    obtain ⟨r4, hr4, h9⟩ := elimP hN0 h9
    refine x_callVi (c := 4) (As := [.int p1]) (rest := []) okX4_isIll lkX4_73 rfl (by decide) rfl dX4_isReady_10 rfl rfl (Nat.le_of_ble_eq_true rfl) k1 (c_X4_isIll i p1 hr4 (CI.mk ?_))
    refine e_if_ne (tgt := 20) dX4_isReady_13 rfl (fun hc5 => ?_) (fun hc5 => ?_)
    · replace h9 := ifF hc5 h9
      refine e_iconst (v := 0) dX4_isReady_20 rfl ?_
      exact x_zret dX4_isReady_21 rfl (by decide) (hR0 _ h9)
    · replace h9 := ifT hc5 h9
      refine e_iconst (v := 1) dX4_isReady_16 rfl ?_
      refine e_goto (tgt := 21) dX4_isReady_17 rfl ?_
      exact x_zret dX4_isReady_21 rfl (by decide) (hR0 _ h9)
noncomputable def f_X4_takeIllness (x : VM) (i : Nat) (p1 : Nat) : Option (VM) := if p1 < 8 then if i < x.2.2.2 4 then if spn 0 ((setI x 403 i (x.1 902 p1)).1 403 i) 60 = true then if spn 0 ((setI x 403 i (x.1 902 p1)).1 403 i) 60 = true then some (setJ (setI x 403 i (x.1 902 p1)) 402 i (va_cpy ((setI x 403 i (x.1 902 p1)).2.2.1 900 p1) ((setI x 403 i (x.1 902 p1)).2.2.1 402 i) (0 : Int32).toNatClampNeg (0 : Int32).toNatClampNeg ((setI x 403 i (x.1 902 p1)).1 403 i).toNatClampNeg)) else none else none else none else none
theorem c_X4_takeIllness {g : GG} {d : Nat} {ad : AD} {x m : VM} {Q : Option Value → VM → VM → Prop} (i : Nat) (p1 : Nat) {w9 : VM} (hf : f_X4_takeIllness x i p1 = some w9) (hq : Q none w9 m) : CX g (d + 1) MX4_takeIllness [.ref (ad 4 i), .ref (ad 9 p1)] ad x m Q := by
  refine CX.to (Lv := [some (.ref (ad 4 i)), some (.ref (ad 9 p1))]) okX4_takeIllness (Nat.le_of_ble_eq_true rfl) rfl ?_
  obtain ⟨Φ0, hΦ⟩ : ∃ Φ : Option (VM) → Prop, Φ = fun o => o = some w9 := ⟨_, rfl⟩
  have hN0 : Φ0 none → False := by rw [hΦ]; intro h; cases h
  have hR0 : ∀ z9, Φ0 (some z9) → Q none z9 m := by rw [hΦ]; intro z9 h; cases h; exact hq
  have h9 : Φ0 (f_X4_takeIllness x i p1) := by rw [hΦ]; exact hf
  clear hf hq hΦ
  unfold f_X4_takeIllness at h9
  refine e_aload_n dX4_takeIllness_0 rfl rfl ?_
  refine e_aload_n dX4_takeIllness_1 rfl rfl ?_
  obtain ⟨k1, h9⟩ := chkP hN0 h9
  refine g_902 flX4_76 dX4_takeIllness_2 k1 ?_
  obtain ⟨k2, h9⟩ := chkP hN0 h9
  refine p_403 flX4_19 dX4_takeIllness_5 k2 ?_
  refine e_aload_n dX4_takeIllness_8 rfl rfl ?_
  refine g_900 flX4_81 dX4_takeIllness_9 k1 ?_
  refine e_iconst (v := 0) dX4_takeIllness_12 rfl ?_
  refine e_aload_n dX4_takeIllness_13 rfl rfl ?_
  refine e_pc (pc' := 14) rfl ?_
  refine g_402 flX4_15 dX4_takeIllness_14 k2 ?_
  refine e_iconst (v := 0) dX4_takeIllness_17 rfl ?_
  refine e_aload_n dX4_takeIllness_18 rfl rfl ?_
  refine g_403 flX4_19 dX4_takeIllness_19 k2 ?_
  obtain ⟨k3, h9⟩ := chkP hN0 h9
  obtain ⟨k4, h9⟩ := chkP hN0 h9
  refine x_cpl (c := 4) (k := 2) (c0 := 9) (k0 := 0) (by decide) (by decide) rfl rfl rfl rfl rfl rfl rfl rfl acX4_84 dX4_takeIllness_22 (Nat.le_of_ble_eq_true rfl) k2 k1 (spn_all k3).1 (spn_all k4).1 (spn_all k3).2.1 (spn_all k3).2.2 (spn_all k4).2.2 ?_
  exact x_vret dX4_takeIllness_25 rfl (hR0 _ h9)
noncomputable def f_X4_yearOfTerm (x : VM) (i : Nat) (p1 : Int32) : Option (Int32) := if i < x.2.2.2 4 then some ((p1 - (x.1 404 i)) / 364) else none
theorem c_X4_yearOfTerm {g : GG} {d : Nat} {ad : AD} {x m : VM} {Q : Option Value → VM → VM → Prop} (i : Nat) (p1 : Int32) {r9 : Int32} (hf : f_X4_yearOfTerm x i p1 = some r9) (hq : Q (some (.int r9)) x m) : CX g d MX4_yearOfTerm [.ref (ad 4 i), .int p1] ad x m Q := by
  refine CX.to (Lv := [some (.ref (ad 4 i)), some (.int p1)]) okX4_yearOfTerm (Nat.le_of_ble_eq_true rfl) rfl ?_
  obtain ⟨Φ0, hΦ⟩ : ∃ Φ : Option (Int32) → Prop, Φ = fun o => o = some r9 := ⟨_, rfl⟩
  have hN0 : Φ0 none → False := by rw [hΦ]; intro h; cases h
  have hR0 : ∀ z9, Φ0 (some z9) → Q (some (.int z9)) x m := by rw [hΦ]; intro z9 h; cases h; exact hq
  have h9 : Φ0 (f_X4_yearOfTerm x i p1) := by rw [hΦ]; exact hf
  clear hf hq hΦ
  unfold f_X4_yearOfTerm at h9
  refine e_iload_n dX4_yearOfTerm_0 rfl rfl ?_
  refine e_aload_n dX4_yearOfTerm_1 rfl rfl ?_
  obtain ⟨k1, h9⟩ := chkP hN0 h9
  refine g_404 flX4_23 dX4_yearOfTerm_2 k1 ?_
  refine e_isub dX4_yearOfTerm_5 ?_
  refine e_sipush (v := 364) dX4_yearOfTerm_6 rfl ?_
  refine e_idiv dX4_yearOfTerm_9 (by decide) ?_
  exact x_iret dX4_yearOfTerm_10 rfl (hR0 _ h9)
noncomputable def f_X4_paidOn (x : VM) (i : Nat) (p1 : Int32) : Option (Int32) := if i < x.2.2.2 4 then (f_X4_yearOfTerm x i p1).elim none (fun r2 => if (x.1 409 i) = r2 then some (x.1 410 i) else some 0) else none
theorem c_X4_paidOn {g : GG} {d : Nat} {ad : AD} {x m : VM} {Q : Option Value → VM → VM → Prop} (i : Nat) (p1 : Int32) {r9 : Int32} (hf : f_X4_paidOn x i p1 = some r9) (hq : Q (some (.int r9)) x m) : CX g (d + 1) MX4_paidOn [.ref (ad 4 i), .int p1] ad x m Q := by
  refine CX.to (Lv := [some (.ref (ad 4 i)), some (.int p1)]) okX4_paidOn (Nat.le_of_ble_eq_true rfl) rfl ?_
  obtain ⟨Φ0, hΦ⟩ : ∃ Φ : Option (Int32) → Prop, Φ = fun o => o = some r9 := ⟨_, rfl⟩
  have hN0 : Φ0 none → False := by rw [hΦ]; intro h; cases h
  have hR0 : ∀ z9, Φ0 (some z9) → Q (some (.int z9)) x m := by rw [hΦ]; intro z9 h; cases h; exact hq
  have h9 : Φ0 (f_X4_paidOn x i p1) := by rw [hΦ]; exact hf
  clear hf hq hΦ
  unfold f_X4_paidOn at h9
  refine e_aload_n dX4_paidOn_0 rfl rfl ?_
  obtain ⟨k1, h9⟩ := chkP hN0 h9
  refine g_409 flX4_39 dX4_paidOn_1 k1 ?_
  refine e_aload_n dX4_paidOn_4 rfl rfl ?_
  refine e_iload_n dX4_paidOn_5 rfl rfl ?_
  obtain ⟨r2, hr2, h9⟩ := elimP hN0 h9
  refine x_callVi (c := 4) (As := [.int p1]) (rest := [.int (x.1 409 i)]) okX4_yearOfTerm lkX4_90 rfl (by decide) rfl dX4_paidOn_6 rfl rfl (Nat.le_of_ble_eq_true rfl) k1 (c_X4_yearOfTerm i p1 hr2 (CI.mk ?_))
  refine e_icmp_ne (tgt := 19) dX4_paidOn_9 rfl (fun hc3 => ?_) (fun hc3 => ?_)
  · replace h9 := ifF hc3 h9
    refine e_iconst (v := 0) dX4_paidOn_19 rfl ?_
    exact x_iret dX4_paidOn_20 rfl (hR0 _ h9)
  · replace h9 := ifT hc3 h9
    refine e_aload_n dX4_paidOn_12 rfl rfl ?_
    refine g_410 flX4_42 dX4_paidOn_13 k1 ?_
    refine e_goto (tgt := 20) dX4_paidOn_16 rfl ?_
    exact x_iret dX4_paidOn_20 rfl (hR0 _ h9)
noncomputable def f_X4_addPaidWeek (x : VM) (i : Nat) (p1 : Int32) : Option (VM) := if i < x.2.2.2 4 then (f_X4_paidOn x i p1).elim none (fun r2 => (f_X4_yearOfTerm (setI x 410 i (r2 + 1)) i p1).elim none (fun r3 => some (setI (setI (setI x 410 i (r2 + 1)) 409 i r3) 408 i (((setI (setI x 410 i (r2 + 1)) 409 i r3).1 408 i) + 1)))) else none
theorem c_X4_addPaidWeek {g : GG} {d : Nat} {ad : AD} {x m : VM} {Q : Option Value → VM → VM → Prop} (i : Nat) (p1 : Int32) {w9 : VM} (hf : f_X4_addPaidWeek x i p1 = some w9) (hq : Q none w9 m) : CX g (d + 2) MX4_addPaidWeek [.ref (ad 4 i), .int p1] ad x m Q := by
  refine CX.to (Lv := [some (.ref (ad 4 i)), some (.int p1)]) okX4_addPaidWeek (Nat.le_of_ble_eq_true rfl) rfl ?_
  obtain ⟨Φ0, hΦ⟩ : ∃ Φ : Option (VM) → Prop, Φ = fun o => o = some w9 := ⟨_, rfl⟩
  have hN0 : Φ0 none → False := by rw [hΦ]; intro h; cases h
  have hR0 : ∀ z9, Φ0 (some z9) → Q none z9 m := by rw [hΦ]; intro z9 h; cases h; exact hq
  have h9 : Φ0 (f_X4_addPaidWeek x i p1) := by rw [hΦ]; exact hf
  clear hf hq hΦ
  unfold f_X4_addPaidWeek at h9
  refine e_aload_n dX4_addPaidWeek_0 rfl rfl ?_
  refine e_aload_n dX4_addPaidWeek_1 rfl rfl ?_
  refine e_iload_n dX4_addPaidWeek_2 rfl rfl ?_
  obtain ⟨k1, h9⟩ := chkP hN0 h9
  obtain ⟨r2, hr2, h9⟩ := elimP hN0 h9
  refine x_callVi (c := 4) (As := [.int p1]) (rest := [.ref (ad 4 i)]) okX4_paidOn lkX4_94 rfl (by decide) rfl dX4_addPaidWeek_3 rfl rfl (Nat.le_of_ble_eq_true rfl) k1 (c_X4_paidOn i p1 hr2 (CI.mk ?_))
  refine e_iconst (v := 1) dX4_addPaidWeek_6 rfl ?_
  refine e_iadd dX4_addPaidWeek_7 ?_
  refine p_410 flX4_42 dX4_addPaidWeek_8 k1 ?_
  refine e_aload_n dX4_addPaidWeek_11 rfl rfl ?_
  refine e_pc (pc' := 12) rfl ?_
  refine e_aload_n dX4_addPaidWeek_12 rfl rfl ?_
  refine e_iload_n dX4_addPaidWeek_13 rfl rfl ?_
  obtain ⟨r3, hr3, h9⟩ := elimP hN0 h9
  refine x_callVi (c := 4) (As := [.int p1]) (rest := [.ref (ad 4 i)]) okX4_yearOfTerm lkX4_90 rfl (by decide) rfl dX4_addPaidWeek_14 rfl rfl (Nat.le_of_ble_eq_true rfl) k1 (c_X4_yearOfTerm i p1 hr3 (CI.mk ?_))
  refine p_409 flX4_39 dX4_addPaidWeek_17 k1 ?_
  refine e_aload_n dX4_addPaidWeek_20 rfl rfl ?_
  refine e_dup dX4_addPaidWeek_21 rfl ?_
  refine g_408 flX4_36 dX4_addPaidWeek_22 k1 ?_
  refine e_iconst (v := 1) dX4_addPaidWeek_25 rfl ?_
  refine e_iadd dX4_addPaidWeek_26 ?_
  refine e_pc (pc' := 27) rfl ?_
  refine p_408 flX4_36 dX4_addPaidWeek_27 k1 ?_
  exact x_vret dX4_addPaidWeek_30 rfl (hR0 _ h9)
noncomputable def f_X4_refusalsOn (x : VM) (i : Nat) (p1 : Int32) : Option (Int32) := if i < x.2.2.2 4 then (f_X4_yearOfTerm x i p1).elim none (fun r2 => if (x.1 411 i) = r2 then some (x.1 412 i) else some 0) else none
theorem c_X4_refusalsOn {g : GG} {d : Nat} {ad : AD} {x m : VM} {Q : Option Value → VM → VM → Prop} (i : Nat) (p1 : Int32) {r9 : Int32} (hf : f_X4_refusalsOn x i p1 = some r9) (hq : Q (some (.int r9)) x m) : CX g (d + 1) MX4_refusalsOn [.ref (ad 4 i), .int p1] ad x m Q := by
  refine CX.to (Lv := [some (.ref (ad 4 i)), some (.int p1)]) okX4_refusalsOn (Nat.le_of_ble_eq_true rfl) rfl ?_
  obtain ⟨Φ0, hΦ⟩ : ∃ Φ : Option (Int32) → Prop, Φ = fun o => o = some r9 := ⟨_, rfl⟩
  have hN0 : Φ0 none → False := by rw [hΦ]; intro h; cases h
  have hR0 : ∀ z9, Φ0 (some z9) → Q (some (.int z9)) x m := by rw [hΦ]; intro z9 h; cases h; exact hq
  have h9 : Φ0 (f_X4_refusalsOn x i p1) := by rw [hΦ]; exact hf
  clear hf hq hΦ
  unfold f_X4_refusalsOn at h9
  refine e_aload_n dX4_refusalsOn_0 rfl rfl ?_
  obtain ⟨k1, h9⟩ := chkP hN0 h9
  refine g_411 flX4_45 dX4_refusalsOn_1 k1 ?_
  refine e_aload_n dX4_refusalsOn_4 rfl rfl ?_
  refine e_iload_n dX4_refusalsOn_5 rfl rfl ?_
  obtain ⟨r2, hr2, h9⟩ := elimP hN0 h9
  refine x_callVi (c := 4) (As := [.int p1]) (rest := [.int (x.1 411 i)]) okX4_yearOfTerm lkX4_90 rfl (by decide) rfl dX4_refusalsOn_6 rfl rfl (Nat.le_of_ble_eq_true rfl) k1 (c_X4_yearOfTerm i p1 hr2 (CI.mk ?_))
  refine e_icmp_ne (tgt := 19) dX4_refusalsOn_9 rfl (fun hc3 => ?_) (fun hc3 => ?_)
  · replace h9 := ifF hc3 h9
    refine e_iconst (v := 0) dX4_refusalsOn_19 rfl ?_
    exact x_iret dX4_refusalsOn_20 rfl (hR0 _ h9)
  · replace h9 := ifT hc3 h9
    refine e_aload_n dX4_refusalsOn_12 rfl rfl ?_
    refine g_412 flX4_48 dX4_refusalsOn_13 k1 ?_
    refine e_goto (tgt := 20) dX4_refusalsOn_16 rfl ?_
    exact x_iret dX4_refusalsOn_20 rfl (hR0 _ h9)
noncomputable def f_X4_addRefusal (x : VM) (i : Nat) (p1 : Int32) : Option (VM) := if i < x.2.2.2 4 then (f_X4_refusalsOn x i p1).elim none (fun r2 => (f_X4_yearOfTerm (setI x 412 i (r2 + 1)) i p1).elim none (fun r3 => some (setI (setI x 412 i (r2 + 1)) 411 i r3))) else none
theorem c_X4_addRefusal {g : GG} {d : Nat} {ad : AD} {x m : VM} {Q : Option Value → VM → VM → Prop} (i : Nat) (p1 : Int32) {w9 : VM} (hf : f_X4_addRefusal x i p1 = some w9) (hq : Q none w9 m) : CX g (d + 2) MX4_addRefusal [.ref (ad 4 i), .int p1] ad x m Q := by
  refine CX.to (Lv := [some (.ref (ad 4 i)), some (.int p1)]) okX4_addRefusal (Nat.le_of_ble_eq_true rfl) rfl ?_
  obtain ⟨Φ0, hΦ⟩ : ∃ Φ : Option (VM) → Prop, Φ = fun o => o = some w9 := ⟨_, rfl⟩
  have hN0 : Φ0 none → False := by rw [hΦ]; intro h; cases h
  have hR0 : ∀ z9, Φ0 (some z9) → Q none z9 m := by rw [hΦ]; intro z9 h; cases h; exact hq
  have h9 : Φ0 (f_X4_addRefusal x i p1) := by rw [hΦ]; exact hf
  clear hf hq hΦ
  unfold f_X4_addRefusal at h9
  refine e_aload_n dX4_addRefusal_0 rfl rfl ?_
  refine e_aload_n dX4_addRefusal_1 rfl rfl ?_
  refine e_iload_n dX4_addRefusal_2 rfl rfl ?_
  obtain ⟨k1, h9⟩ := chkP hN0 h9
  obtain ⟨r2, hr2, h9⟩ := elimP hN0 h9
  refine x_callVi (c := 4) (As := [.int p1]) (rest := [.ref (ad 4 i)]) okX4_refusalsOn lkX4_97 rfl (by decide) rfl dX4_addRefusal_3 rfl rfl (Nat.le_of_ble_eq_true rfl) k1 (c_X4_refusalsOn i p1 hr2 (CI.mk ?_))
  refine e_iconst (v := 1) dX4_addRefusal_6 rfl ?_
  refine e_iadd dX4_addRefusal_7 ?_
  refine p_412 flX4_48 dX4_addRefusal_8 k1 ?_
  refine e_aload_n dX4_addRefusal_11 rfl rfl ?_
  refine e_pc (pc' := 12) rfl ?_
  refine e_aload_n dX4_addRefusal_12 rfl rfl ?_
  refine e_iload_n dX4_addRefusal_13 rfl rfl ?_
  obtain ⟨r3, hr3, h9⟩ := elimP hN0 h9
  refine x_callVi (c := 4) (As := [.int p1]) (rest := [.ref (ad 4 i)]) okX4_yearOfTerm lkX4_90 rfl (by decide) rfl dX4_addRefusal_14 rfl rfl (Nat.le_of_ble_eq_true rfl) k1 (c_X4_yearOfTerm i p1 hr3 (CI.mk ?_))
  refine p_411 flX4_45 dX4_addRefusal_17 k1 ?_
  exact x_vret dX4_addRefusal_20 rfl (hR0 _ h9)
noncomputable def f_X4_settle (x : VM) (i : Nat) (p1 : Int32) : Option (VM) := if i < x.2.2.2 4 then (f_X4_isUnder x i p1).elim none (fun r2 => if r2 = 0 then some (setI (setI x 406 i 0) 407 i (-1)) else if p1 < (x.1 407 i) then some x else some (setI x 407 i (-1))) else none
theorem c_X4_settle {g : GG} {d : Nat} {ad : AD} {x m : VM} {Q : Option Value → VM → VM → Prop} (i : Nat) (p1 : Int32) {w9 : VM} (hf : f_X4_settle x i p1 = some w9) (hq : Q none w9 m) : CX g (d + 1) MX4_settle [.ref (ad 4 i), .int p1] ad x m Q := by
  refine CX.to (Lv := [some (.ref (ad 4 i)), some (.int p1)]) okX4_settle (Nat.le_of_ble_eq_true rfl) rfl ?_
  obtain ⟨Φ0, hΦ⟩ : ∃ Φ : Option (VM) → Prop, Φ = fun o => o = some w9 := ⟨_, rfl⟩
  have hN0 : Φ0 none → False := by rw [hΦ]; intro h; cases h
  have hR0 : ∀ z9, Φ0 (some z9) → Q none z9 m := by rw [hΦ]; intro z9 h; cases h; exact hq
  have h9 : Φ0 (f_X4_settle x i p1) := by rw [hΦ]; exact hf
  clear hf hq hΦ
  unfold f_X4_settle at h9
  refine e_aload_n dX4_settle_0 rfl rfl ?_
  refine e_iload_n dX4_settle_1 rfl rfl ?_
  obtain ⟨k1, h9⟩ := chkP hN0 h9
  obtain ⟨r2, hr2, h9⟩ := elimP hN0 h9
  refine x_callVi (c := 4) (As := [.int p1]) (rest := []) okX4_isUnder lkX4_66 rfl (by decide) rfl dX4_settle_2 rfl rfl (Nat.le_of_ble_eq_true rfl) k1 (c_X4_isUnder i p1 hr2 (CI.mk ?_))
  refine e_if_ne (tgt := 21) dX4_settle_5 rfl (fun hc3 => ?_) (fun hc3 => ?_)
  · replace h9 := ifF hc3 h9
    refine e_aload_n dX4_settle_21 rfl rfl ?_
    refine g_407 flX4_33 dX4_settle_22 k1 ?_
    refine e_iload_n dX4_settle_25 rfl rfl ?_
    refine e_icmp_gt (tgt := 34) dX4_settle_26 rfl (fun hc4 => ?_) (fun hc4 => ?_)
    · replace h9 := ifT hc4 h9
      exact x_vret dX4_settle_34 rfl (hR0 _ h9)
    · replace h9 := ifF hc4 h9
      refine e_aload_n dX4_settle_29 rfl rfl ?_
      refine e_iconst (v := (-1)) dX4_settle_30 rfl ?_
      refine p_407 flX4_33 dX4_settle_31 k1 ?_
      exact x_vret dX4_settle_34 rfl (hR0 _ h9)
  · replace h9 := ifT hc3 h9
    refine e_aload_n dX4_settle_8 rfl rfl ?_
    refine e_iconst (v := 0) dX4_settle_9 rfl ?_
    refine p_406 flX4_29 dX4_settle_10 k1 (by decide) ?_
    refine e_aload_n dX4_settle_13 rfl rfl ?_
    refine e_iconst (v := (-1)) dX4_settle_14 rfl ?_
    refine p_407 flX4_33 dX4_settle_15 k1 ?_
    refine e_goto (tgt := 34) dX4_settle_18 rfl ?_
    exact x_vret dX4_settle_34 rfl (hR0 _ h9)
noncomputable def b_X5_beginShooting_7 (x : VM) (i : Nat) (v2 : Int32 × VM) : (Int32 × VM) ⊕ (Option (VM)) := if i < v2.2.2.2.2 5 then if (v2.2.1 502 i) ≤ v2.1 then Sum.inr (some v2.2) else if 8 ≤ v2.1 then Sum.inr (some v2.2) else if inb v2.1 8 = true then if inb v2.1 8 = true then if inb v2.1 8 = true then if v2.1.toNatClampNeg < v2.2.2.2.2 (20 + i) then if inb v2.1 8 = true then if v2.1.toNatClampNeg < v2.2.2.2.2 (20 + i) then if (8 * i + v2.1.toNatClampNeg) / 8 < v2.2.2.2.2 5 ∧ (8 * i + v2.1.toNatClampNeg) % 8 < v2.2.2.2.2 (20 + (8 * i + v2.1.toNatClampNeg) / 8) then Sum.inl (v2.1 + 1, setI (setA v2.2 504 i (upd (v2.2.2.1 504 i) v2.1.toNatClampNeg (v2.2.2.1 303 0 v2.1.toNatClampNeg))) 803 (8 * i + v2.1.toNatClampNeg) ((setA v2.2 504 i (upd (v2.2.2.1 504 i) v2.1.toNatClampNeg (v2.2.2.1 303 0 v2.1.toNatClampNeg))).1 802 (8 * i + v2.1.toNatClampNeg))) else Sum.inr none else Sum.inr none else Sum.inr none else Sum.inr none else Sum.inr none else Sum.inr none else Sum.inr none else Sum.inr none
noncomputable def f_X5_beginShooting (x : VM) (i : Nat) : Option (VM) := if i < x.2.2.2 5 then loopF none (b_X5_beginShooting_7 x i) (0, setI x 503 i 1) else none
theorem c_X5_beginShooting {g : GG} {d : Nat} {ad : AD} {x m : VM} {Q : Option Value → VM → VM → Prop} (i : Nat) {w9 : VM} (hf : f_X5_beginShooting x i = some w9) (hq : Q none w9 m) : CX g d MX5_beginShooting [.ref (ad 5 i), .ref (ad 1303 0)] ad x m Q := by
  refine CX.to (Lv := [some (.ref (ad 5 i)), some (.ref (ad 1303 0)), none]) okX5_beginShooting (Nat.le_of_ble_eq_true rfl) rfl ?_
  obtain ⟨Φ0, hΦ⟩ : ∃ Φ : Option (VM) → Prop, Φ = fun o => o = some w9 := ⟨_, rfl⟩
  have hN0 : Φ0 none → False := by rw [hΦ]; intro h; cases h
  have hR0 : ∀ z9, Φ0 (some z9) → Q none z9 m := by rw [hΦ]; intro z9 h; cases h; exact hq
  have h9 : Φ0 (f_X5_beginShooting x i) := by rw [hΦ]; exact hf
  clear hf hq hΦ
  unfold f_X5_beginShooting at h9
  refine e_aload_n dX5_beginShooting_0 rfl rfl ?_
  refine e_iconst (v := 1) dX5_beginShooting_1 rfl ?_
  obtain ⟨k1, h9⟩ := chkP hN0 h9
  refine p_503 flX5_21 dX5_beginShooting_2 k1 (by decide) ?_
  refine e_iconst (v := 0) dX5_beginShooting_5 rfl ?_
  refine e_istore_n (L' := [some (.ref (ad 5 i)), some (.ref (ad 1303 0)), some (.int 0)]) dX5_beginShooting_6 rfl (by decide) rfl ?_
  refine loop_gen (b_X5_beginShooting_7 x i) none (fun v2 => EX g d MX5_beginShooting ad v2.2 m 7 [some (.ref (ad 5 i)), some (.ref (ad 1303 0)), some (.int v2.1)] [] Q) Φ0 hN0 (fun v2 Φ1 hB0_1 hO1 h9 => ?_) (0, setI x 503 i 1) h9
  have hN1 := fun h => hN0 (hO1 _ h)
  have hR1 := fun r9 h => hR0 r9 (hO1 _ h)
  have hB0_1 : ∀ (z0 : Int32) (z1 : VM), Φ1 (Sum.inl (z0, z1)) → EX g d MX5_beginShooting ad z1 m 7 [some (.ref (ad 5 i)), some (.ref (ad 1303 0)), some (.int z0)] [] Q := fun z0 z1 h => hB0_1 (z0, z1) h
  unfold b_X5_beginShooting_7 at h9
  refine e_iload_n dX5_beginShooting_7 rfl rfl ?_
  refine e_aload_n dX5_beginShooting_8 rfl rfl ?_
  obtain ⟨k3, h9⟩ := chkP hN1 h9
  refine g_502 flX5_17 dX5_beginShooting_9 k3 ?_
  refine e_icmp_ge (tgt := 54) dX5_beginShooting_12 rfl (fun hc4 => ?_) (fun hc4 => ?_)
  · replace h9 := ifT hc4 h9
    exact x_vret dX5_beginShooting_54 rfl (hR1 _ h9)
  · replace h9 := ifF hc4 h9
    refine e_iload_n dX5_beginShooting_15 rfl rfl ?_
    refine e_aload_n dX5_beginShooting_16 rfl rfl ?_
    refine x_alen (c := 3) (k := 3) (v := 8) rfl ⟨by decide, by decide⟩ rfl dX5_beginShooting_17 rfl ?_
    refine e_icmp_ge (tgt := 54) dX5_beginShooting_18 rfl (fun hc5 => ?_) (fun hc5 => ?_)
    · replace h9 := ifT hc5 h9
      exact x_vret dX5_beginShooting_54 rfl (hR1 _ h9)
    · replace h9 := ifF hc5 h9
      refine e_aload_n dX5_beginShooting_21 rfl rfl ?_
      refine g_504 flX5_25 dX5_beginShooting_22 k3 ?_
      refine e_iload_n dX5_beginShooting_25 rfl rfl ?_
      refine e_aload_n dX5_beginShooting_26 rfl rfl ?_
      refine e_iload_n dX5_beginShooting_27 rfl rfl ?_
      obtain ⟨k6, h9⟩ := chkP hN1 h9
      refine l_303 dX5_beginShooting_28 (inb_in k6) ?_
      obtain ⟨k7, h9⟩ := chkP hN1 h9
      refine s_504 dX5_beginShooting_29 k3 (inb_in k7) ?_
      refine e_aload_n dX5_beginShooting_30 rfl rfl ?_
      refine e_pc (pc' := 31) rfl ?_
      refine g_501 flX5_11 dX5_beginShooting_31 k3 ?_
      refine e_iload_n dX5_beginShooting_34 rfl rfl ?_
      obtain ⟨k8, h9⟩ := chkP hN1 h9
      refine l_501 dX5_beginShooting_35 k3 (inb_in k8) ?_
      obtain ⟨k9, h9⟩ := chkP hN1 h9
      refine e_top (v := .ref (ad 8 (8 * i + v2.1.toNatClampNeg))) (rfT k9) ?_
      refine e_aload_n dX5_beginShooting_36 rfl rfl ?_
      refine g_501 flX5_11 dX5_beginShooting_37 k3 ?_
      refine e_iload_n dX5_beginShooting_40 rfl rfl ?_
      obtain ⟨k10, h9⟩ := chkP hN1 h9
      refine l_501 dX5_beginShooting_41 k3 (inb_in k10) ?_
      obtain ⟨k11, h9⟩ := chkP hN1 h9
      refine e_top (v := .ref (ad 8 (8 * i + v2.1.toNatClampNeg))) (rfT k11) ?_
      obtain ⟨k12, h9⟩ := chkP hN1 h9
      refine g_802 flX5_72 dX5_beginShooting_42 k12 ?_
      refine p_803 flX5_75 dX5_beginShooting_45 k12 ?_
      refine e_pc (pc' := 48) rfl ?_
      refine e_iinc (v := (v2.1 + 1)) (L' := [some (.ref (ad 5 i)), some (.ref (ad 1303 0)), some (.int (v2.1 + 1))]) dX5_beginShooting_48 rfl rfl (by decide) rfl ?_
      refine e_goto (tgt := 7) dX5_beginShooting_51 rfl ?_
      exact hB0_1 _ _ h9
noncomputable def b_X5_leftOfAll_4 (x : VM) (i : Nat) (v1 : Int32 × Int32) : (Int32 × Int32) ⊕ (Option (Int32)) := if i < x.2.2.2 5 then if (x.1 502 i) ≤ v1.2 then Sum.inr (some v1.1) else if inb v1.2 8 = true then if v1.2.toNatClampNeg < x.2.2.2 (20 + i) then if (8 * i + v1.2.toNatClampNeg) / 8 < x.2.2.2 5 ∧ (8 * i + v1.2.toNatClampNeg) % 8 < x.2.2.2 (20 + (8 * i + v1.2.toNatClampNeg) / 8) then Sum.inl (v1.1 + (x.1 803 (8 * i + v1.2.toNatClampNeg)), v1.2 + 1) else Sum.inr none else Sum.inr none else Sum.inr none else Sum.inr none
noncomputable def f_X5_leftOfAll (x : VM) (i : Nat) : Option (Int32) := loopF none (b_X5_leftOfAll_4 x i) (0, 0)
theorem c_X5_leftOfAll {g : GG} {d : Nat} {ad : AD} {x m : VM} {Q : Option Value → VM → VM → Prop} (i : Nat) {r9 : Int32} (hf : f_X5_leftOfAll x i = some r9) (hq : Q (some (.int r9)) x m) : CX g d MX5_leftOfAll [.ref (ad 5 i)] ad x m Q := by
  refine CX.to (Lv := [some (.ref (ad 5 i)), none, none]) okX5_leftOfAll (Nat.le_of_ble_eq_true rfl) rfl ?_
  obtain ⟨Φ0, hΦ⟩ : ∃ Φ : Option (Int32) → Prop, Φ = fun o => o = some r9 := ⟨_, rfl⟩
  have hN0 : Φ0 none → False := by rw [hΦ]; intro h; cases h
  have hR0 : ∀ z9, Φ0 (some z9) → Q (some (.int z9)) x m := by rw [hΦ]; intro z9 h; cases h; exact hq
  have h9 : Φ0 (f_X5_leftOfAll x i) := by rw [hΦ]; exact hf
  clear hf hq hΦ
  unfold f_X5_leftOfAll at h9
  refine e_iconst (v := 0) dX5_leftOfAll_0 rfl ?_
  refine e_istore_n (L' := [some (.ref (ad 5 i)), some (.int 0), none]) dX5_leftOfAll_1 rfl (by decide) rfl ?_
  refine e_iconst (v := 0) dX5_leftOfAll_2 rfl ?_
  refine e_istore_n (L' := [some (.ref (ad 5 i)), some (.int 0), some (.int 0)]) dX5_leftOfAll_3 rfl (by decide) rfl ?_
  refine loop_gen (b_X5_leftOfAll_4 x i) none (fun v1 => EX g d MX5_leftOfAll ad x m 4 [some (.ref (ad 5 i)), some (.int v1.1), some (.int v1.2)] [] Q) Φ0 hN0 (fun v1 Φ1 hB0_1 hO1 h9 => ?_) (0, 0) h9
  have hN1 := fun h => hN0 (hO1 _ h)
  have hR1 := fun r9 h => hR0 r9 (hO1 _ h)
  have hB0_1 : ∀ (z0 : Int32) (z1 : Int32), Φ1 (Sum.inl (z0, z1)) → EX g d MX5_leftOfAll ad x m 4 [some (.ref (ad 5 i)), some (.int z0), some (.int z1)] [] Q := fun z0 z1 h => hB0_1 (z0, z1) h
  unfold b_X5_leftOfAll_4 at h9
  refine e_iload_n dX5_leftOfAll_4 rfl rfl ?_
  refine e_aload_n dX5_leftOfAll_5 rfl rfl ?_
  obtain ⟨k2, h9⟩ := chkP hN1 h9
  refine g_502 flX5_17 dX5_leftOfAll_6 k2 ?_
  refine e_icmp_ge (tgt := 30) dX5_leftOfAll_9 rfl (fun hc3 => ?_) (fun hc3 => ?_)
  · replace h9 := ifT hc3 h9
    refine e_iload_n dX5_leftOfAll_30 rfl rfl ?_
    exact x_iret dX5_leftOfAll_31 rfl (hR1 _ h9)
  · replace h9 := ifF hc3 h9
    refine e_iload_n dX5_leftOfAll_12 rfl rfl ?_
    refine e_aload_n dX5_leftOfAll_13 rfl rfl ?_
    refine g_501 flX5_11 dX5_leftOfAll_14 k2 ?_
    refine e_iload_n dX5_leftOfAll_17 rfl rfl ?_
    obtain ⟨k4, h9⟩ := chkP hN1 h9
    refine l_501 dX5_leftOfAll_18 k2 (inb_in k4) ?_
    obtain ⟨k5, h9⟩ := chkP hN1 h9
    refine e_top (v := .ref (ad 8 (8 * i + v1.2.toNatClampNeg))) (rfT k5) ?_
    obtain ⟨k6, h9⟩ := chkP hN1 h9
    refine g_803 flX5_75 dX5_leftOfAll_19 k6 ?_
    refine e_iadd dX5_leftOfAll_22 ?_
    refine e_istore_n (L' := [some (.ref (ad 5 i)), some (.int (v1.1 + (x.1 803 (8 * i + v1.2.toNatClampNeg)))), some (.int v1.2)]) dX5_leftOfAll_23 rfl (by decide) rfl ?_
    refine e_pc (pc' := 24) rfl ?_
    refine e_iinc (v := (v1.2 + 1)) (L' := [some (.ref (ad 5 i)), some (.int (v1.1 + (x.1 803 (8 * i + v1.2.toNatClampNeg)))), some (.int (v1.2 + 1))]) dX5_leftOfAll_24 rfl rfl (by decide) rfl ?_
    refine e_goto (tgt := 4) dX5_leftOfAll_27 rfl ?_
    exact hB0_1 _ _ h9
noncomputable def b_X5_nextScene_2 (x : VM) (i : Nat) (p1 : Int32) (v1 : Int32) : (Int32) ⊕ (Option (Int32)) := if i < x.2.2.2 5 then if (x.1 502 i) ≤ v1 then Sum.inr (some (-1)) else if inb v1 8 = true then if inb (x.2.1 504 i v1.toNatClampNeg) 8 = true then if (x.2.1 504 i v1.toNatClampNeg).toNatClampNeg < x.2.2.2 (20 + i) then if (8 * i + (x.2.1 504 i v1.toNatClampNeg).toNatClampNeg) / 8 < x.2.2.2 5 ∧ (8 * i + (x.2.1 504 i v1.toNatClampNeg).toNatClampNeg) % 8 < x.2.2.2 (20 + (8 * i + (x.2.1 504 i v1.toNatClampNeg).toNatClampNeg) / 8) then if (x.1 803 (8 * i + (x.2.1 504 i v1.toNatClampNeg).toNatClampNeg)) ≤ 0 then Sum.inl (v1 + 1) else if ((x.1 801 (8 * i + (x.2.1 504 i v1.toNatClampNeg).toNatClampNeg)) &&& (p1 ^^^ (-1))) = 0 then if inb v1 8 = true then Sum.inr (some (x.2.1 504 i v1.toNatClampNeg)) else Sum.inr none else Sum.inl (v1 + 1) else Sum.inr none else Sum.inr none else Sum.inr none else Sum.inr none else Sum.inr none
noncomputable def f_X5_nextScene (x : VM) (i : Nat) (p1 : Int32) : Option (Int32) := loopF none (b_X5_nextScene_2 x i p1) 0
theorem c_X5_nextScene {g : GG} {d : Nat} {ad : AD} {x m : VM} {Q : Option Value → VM → VM → Prop} (i : Nat) (p1 : Int32) {r9 : Int32} (hf : f_X5_nextScene x i p1 = some r9) (hq : Q (some (.int r9)) x m) : CX g d MX5_nextScene [.ref (ad 5 i), .int p1] ad x m Q := by
  refine CX.to (Lv := [some (.ref (ad 5 i)), some (.int p1), none, none]) okX5_nextScene (Nat.le_of_ble_eq_true rfl) rfl ?_
  obtain ⟨Φ0, hΦ⟩ : ∃ Φ : Option (Int32) → Prop, Φ = fun o => o = some r9 := ⟨_, rfl⟩
  have hN0 : Φ0 none → False := by rw [hΦ]; intro h; cases h
  have hR0 : ∀ z9, Φ0 (some z9) → Q (some (.int z9)) x m := by rw [hΦ]; intro z9 h; cases h; exact hq
  have h9 : Φ0 (f_X5_nextScene x i p1) := by rw [hΦ]; exact hf
  clear hf hq hΦ
  unfold f_X5_nextScene at h9
  refine e_iconst (v := 0) dX5_nextScene_0 rfl ?_
  refine e_istore_n (L' := [some (.ref (ad 5 i)), some (.int p1), some (.int 0), none]) dX5_nextScene_1 rfl (by decide) rfl ?_
  refine loop_gen (b_X5_nextScene_2 x i p1) none (fun v1 => EX g d MX5_nextScene ad x m 2 [some (.ref (ad 5 i)), some (.int p1), some (.int v1), none] [] Q) Φ0 hN0 (fun v1 Φ1 hB0_1 hO1 h9 => ?_) 0 h9
  have hN1 := fun h => hN0 (hO1 _ h)
  have hR1 := fun r9 h => hR0 r9 (hO1 _ h)
  have hB0_1 : ∀ (z0 : Int32), Φ1 (Sum.inl z0) → EX g d MX5_nextScene ad x m 2 [some (.ref (ad 5 i)), some (.int p1), some (.int z0), none] [] Q := fun z0 h => hB0_1 z0 h
  unfold b_X5_nextScene_2 at h9
  refine e_iload_n dX5_nextScene_2 rfl rfl ?_
  refine e_aload_n dX5_nextScene_3 rfl rfl ?_
  obtain ⟨k2, h9⟩ := chkP hN1 h9
  refine g_502 flX5_17 dX5_nextScene_4 k2 ?_
  refine e_icmp_ge (tgt := 53) dX5_nextScene_7 rfl (fun hc3 => ?_) (fun hc3 => ?_)
  · replace h9 := ifT hc3 h9
    refine e_iconst (v := (-1)) dX5_nextScene_53 rfl ?_
    exact x_iret dX5_nextScene_54 rfl (hR1 _ h9)
  · replace h9 := ifF hc3 h9
    refine e_aload_n dX5_nextScene_10 rfl rfl ?_
    refine g_501 flX5_11 dX5_nextScene_11 k2 ?_
    refine e_aload_n dX5_nextScene_14 rfl rfl ?_
    refine g_504 flX5_25 dX5_nextScene_15 k2 ?_
    refine e_iload_n dX5_nextScene_18 rfl rfl ?_
    obtain ⟨k4, h9⟩ := chkP hN1 h9
    refine l_504 dX5_nextScene_19 k2 (inb_in k4) ?_
    obtain ⟨k5, h9⟩ := chkP hN1 h9
    refine l_501 dX5_nextScene_20 k2 (inb_in k5) ?_
    obtain ⟨k6, h9⟩ := chkP hN1 h9
    refine e_top (v := .ref (ad 8 (8 * i + (x.2.1 504 i v1.toNatClampNeg).toNatClampNeg))) (rfT k6) ?_
    refine e_astore_n (L' := [some (.ref (ad 5 i)), some (.int p1), some (.int v1), some (.ref (ad 8 (8 * i + (x.2.1 504 i v1.toNatClampNeg).toNatClampNeg)))]) dX5_nextScene_21 rfl (by decide) rfl ?_
    refine e_pc (pc' := 22) rfl ?_
    refine e_aload_n dX5_nextScene_22 rfl rfl ?_
    obtain ⟨k7, h9⟩ := chkP hN1 h9
    refine g_803 flX5_75 dX5_nextScene_23 k7 ?_
    refine e_if_le (tgt := 47) dX5_nextScene_26 rfl (fun hc8 => ?_) (fun hc8 => ?_)
    · replace h9 := ifT hc8 h9
      refine e_iinc (v := (v1 + 1)) (L' := [some (.ref (ad 5 i)), some (.int p1), some (.int (v1 + 1)), some (.ref (ad 8 (8 * i + (x.2.1 504 i v1.toNatClampNeg).toNatClampNeg)))]) dX5_nextScene_47 rfl rfl (by decide) rfl ?_
      refine e_goto (tgt := 2) dX5_nextScene_50 rfl ?_
      refine e_wk (L' := [some (.ref (ad 5 i)), some (.int p1), some (.int (v1 + 1)), none]) (wkC (wkC (wkC (wkN wk0)))) ?_
      exact hB0_1 _ h9
    · replace h9 := ifF hc8 h9
      refine e_aload_n dX5_nextScene_29 rfl rfl ?_
      refine g_801 flX5_78 dX5_nextScene_30 k7 ?_
      refine e_iload_n dX5_nextScene_33 rfl rfl ?_
      refine e_iconst (v := (-1)) dX5_nextScene_34 rfl ?_
      refine e_ixor dX5_nextScene_35 ?_
      refine e_iand dX5_nextScene_36 ?_
      refine e_if_ne (tgt := 47) dX5_nextScene_37 rfl (fun hc9 => ?_) (fun hc9 => ?_)
      · replace h9 := ifF hc9 h9
        refine e_iinc (v := (v1 + 1)) (L' := [some (.ref (ad 5 i)), some (.int p1), some (.int (v1 + 1)), some (.ref (ad 8 (8 * i + (x.2.1 504 i v1.toNatClampNeg).toNatClampNeg)))]) dX5_nextScene_47 rfl rfl (by decide) rfl ?_
        refine e_goto (tgt := 2) dX5_nextScene_50 rfl ?_
        refine e_wk (L' := [some (.ref (ad 5 i)), some (.int p1), some (.int (v1 + 1)), none]) (wkC (wkC (wkC (wkN wk0)))) ?_
        exact hB0_1 _ h9
      · replace h9 := ifT hc9 h9
        refine e_aload_n dX5_nextScene_40 rfl rfl ?_
        refine g_504 flX5_25 dX5_nextScene_41 k2 ?_
        refine e_iload_n dX5_nextScene_44 rfl rfl ?_
        obtain ⟨k10, h9⟩ := chkP hN1 h9
        refine l_504 dX5_nextScene_45 k2 (inb_in k10) ?_
        exact x_iret dX5_nextScene_46 rfl (hR1 _ h9)
noncomputable def b_X5_castOfAll_4 (x : VM) (i : Nat) (v1 : Int32 × Int32) : (Int32 × Int32) ⊕ (Option (Int32)) := if i < x.2.2.2 5 then if (x.1 502 i) ≤ v1.2 then Sum.inr (some v1.1) else if inb v1.2 8 = true then if v1.2.toNatClampNeg < x.2.2.2 (20 + i) then if (8 * i + v1.2.toNatClampNeg) / 8 < x.2.2.2 5 ∧ (8 * i + v1.2.toNatClampNeg) % 8 < x.2.2.2 (20 + (8 * i + v1.2.toNatClampNeg) / 8) then Sum.inl (v1.1 ||| (x.1 801 (8 * i + v1.2.toNatClampNeg)), v1.2 + 1) else Sum.inr none else Sum.inr none else Sum.inr none else Sum.inr none
noncomputable def f_X5_castOfAll (x : VM) (i : Nat) : Option (Int32) := loopF none (b_X5_castOfAll_4 x i) (0, 0)
theorem c_X5_castOfAll {g : GG} {d : Nat} {ad : AD} {x m : VM} {Q : Option Value → VM → VM → Prop} (i : Nat) {r9 : Int32} (hf : f_X5_castOfAll x i = some r9) (hq : Q (some (.int r9)) x m) : CX g d MX5_castOfAll [.ref (ad 5 i)] ad x m Q := by
  refine CX.to (Lv := [some (.ref (ad 5 i)), none, none]) okX5_castOfAll (Nat.le_of_ble_eq_true rfl) rfl ?_
  obtain ⟨Φ0, hΦ⟩ : ∃ Φ : Option (Int32) → Prop, Φ = fun o => o = some r9 := ⟨_, rfl⟩
  have hN0 : Φ0 none → False := by rw [hΦ]; intro h; cases h
  have hR0 : ∀ z9, Φ0 (some z9) → Q (some (.int z9)) x m := by rw [hΦ]; intro z9 h; cases h; exact hq
  have h9 : Φ0 (f_X5_castOfAll x i) := by rw [hΦ]; exact hf
  clear hf hq hΦ
  unfold f_X5_castOfAll at h9
  refine e_iconst (v := 0) dX5_castOfAll_0 rfl ?_
  refine e_istore_n (L' := [some (.ref (ad 5 i)), some (.int 0), none]) dX5_castOfAll_1 rfl (by decide) rfl ?_
  refine e_iconst (v := 0) dX5_castOfAll_2 rfl ?_
  refine e_istore_n (L' := [some (.ref (ad 5 i)), some (.int 0), some (.int 0)]) dX5_castOfAll_3 rfl (by decide) rfl ?_
  refine loop_gen (b_X5_castOfAll_4 x i) none (fun v1 => EX g d MX5_castOfAll ad x m 4 [some (.ref (ad 5 i)), some (.int v1.1), some (.int v1.2)] [] Q) Φ0 hN0 (fun v1 Φ1 hB0_1 hO1 h9 => ?_) (0, 0) h9
  have hN1 := fun h => hN0 (hO1 _ h)
  have hR1 := fun r9 h => hR0 r9 (hO1 _ h)
  have hB0_1 : ∀ (z0 : Int32) (z1 : Int32), Φ1 (Sum.inl (z0, z1)) → EX g d MX5_castOfAll ad x m 4 [some (.ref (ad 5 i)), some (.int z0), some (.int z1)] [] Q := fun z0 z1 h => hB0_1 (z0, z1) h
  unfold b_X5_castOfAll_4 at h9
  refine e_iload_n dX5_castOfAll_4 rfl rfl ?_
  refine e_aload_n dX5_castOfAll_5 rfl rfl ?_
  obtain ⟨k2, h9⟩ := chkP hN1 h9
  refine g_502 flX5_17 dX5_castOfAll_6 k2 ?_
  refine e_icmp_ge (tgt := 30) dX5_castOfAll_9 rfl (fun hc3 => ?_) (fun hc3 => ?_)
  · replace h9 := ifT hc3 h9
    refine e_iload_n dX5_castOfAll_30 rfl rfl ?_
    exact x_iret dX5_castOfAll_31 rfl (hR1 _ h9)
  · replace h9 := ifF hc3 h9
    refine e_iload_n dX5_castOfAll_12 rfl rfl ?_
    refine e_aload_n dX5_castOfAll_13 rfl rfl ?_
    refine g_501 flX5_11 dX5_castOfAll_14 k2 ?_
    refine e_iload_n dX5_castOfAll_17 rfl rfl ?_
    obtain ⟨k4, h9⟩ := chkP hN1 h9
    refine l_501 dX5_castOfAll_18 k2 (inb_in k4) ?_
    obtain ⟨k5, h9⟩ := chkP hN1 h9
    refine e_top (v := .ref (ad 8 (8 * i + v1.2.toNatClampNeg))) (rfT k5) ?_
    obtain ⟨k6, h9⟩ := chkP hN1 h9
    refine g_801 flX5_78 dX5_castOfAll_19 k6 ?_
    refine e_ior dX5_castOfAll_22 ?_
    refine e_istore_n (L' := [some (.ref (ad 5 i)), some (.int (v1.1 ||| (x.1 801 (8 * i + v1.2.toNatClampNeg)))), some (.int v1.2)]) dX5_castOfAll_23 rfl (by decide) rfl ?_
    refine e_pc (pc' := 24) rfl ?_
    refine e_iinc (v := (v1.2 + 1)) (L' := [some (.ref (ad 5 i)), some (.int (v1.1 ||| (x.1 801 (8 * i + v1.2.toNatClampNeg)))), some (.int (v1.2 + 1))]) dX5_castOfAll_24 rfl rfl (by decide) rfl ?_
    refine e_goto (tgt := 4) dX5_castOfAll_27 rfl ?_
    exact hB0_1 _ _ h9
noncomputable def b_X5_linesOf_4 (x : VM) (i : Nat) (p1 : Int32) (v1 : Int32 × Int32) : (Int32 × Int32) ⊕ (Option (Int32)) := if i < x.2.2.2 5 then if (x.1 512 i) ≤ v1.2 then Sum.inr (some v1.1) else if inb v1.2 60 = true then if (x.2.1 511 i v1.2.toNatClampNeg) = p1 then Sum.inl (v1.1 + 1, v1.2 + 1) else Sum.inl (v1.1, v1.2 + 1) else Sum.inr none else Sum.inr none
noncomputable def f_X5_linesOf (x : VM) (i : Nat) (p1 : Int32) : Option (Int32) := loopF none (b_X5_linesOf_4 x i p1) (0, 0)
theorem c_X5_linesOf {g : GG} {d : Nat} {ad : AD} {x m : VM} {Q : Option Value → VM → VM → Prop} (i : Nat) (p1 : Int32) {r9 : Int32} (hf : f_X5_linesOf x i p1 = some r9) (hq : Q (some (.int r9)) x m) : CX g d MX5_linesOf [.ref (ad 5 i), .int p1] ad x m Q := by
  refine CX.to (Lv := [some (.ref (ad 5 i)), some (.int p1), none, none]) okX5_linesOf (Nat.le_of_ble_eq_true rfl) rfl ?_
  obtain ⟨Φ0, hΦ⟩ : ∃ Φ : Option (Int32) → Prop, Φ = fun o => o = some r9 := ⟨_, rfl⟩
  have hN0 : Φ0 none → False := by rw [hΦ]; intro h; cases h
  have hR0 : ∀ z9, Φ0 (some z9) → Q (some (.int z9)) x m := by rw [hΦ]; intro z9 h; cases h; exact hq
  have h9 : Φ0 (f_X5_linesOf x i p1) := by rw [hΦ]; exact hf
  clear hf hq hΦ
  unfold f_X5_linesOf at h9
  refine e_iconst (v := 0) dX5_linesOf_0 rfl ?_
  refine e_istore_n (L' := [some (.ref (ad 5 i)), some (.int p1), some (.int 0), none]) dX5_linesOf_1 rfl (by decide) rfl ?_
  refine e_iconst (v := 0) dX5_linesOf_2 rfl ?_
  refine e_istore_n (L' := [some (.ref (ad 5 i)), some (.int p1), some (.int 0), some (.int 0)]) dX5_linesOf_3 rfl (by decide) rfl ?_
  refine loop_gen (b_X5_linesOf_4 x i p1) none (fun v1 => EX g d MX5_linesOf ad x m 4 [some (.ref (ad 5 i)), some (.int p1), some (.int v1.1), some (.int v1.2)] [] Q) Φ0 hN0 (fun v1 Φ1 hB0_1 hO1 h9 => ?_) (0, 0) h9
  have hN1 := fun h => hN0 (hO1 _ h)
  have hR1 := fun r9 h => hR0 r9 (hO1 _ h)
  have hB0_1 : ∀ (z0 : Int32) (z1 : Int32), Φ1 (Sum.inl (z0, z1)) → EX g d MX5_linesOf ad x m 4 [some (.ref (ad 5 i)), some (.int p1), some (.int z0), some (.int z1)] [] Q := fun z0 z1 h => hB0_1 (z0, z1) h
  unfold b_X5_linesOf_4 at h9
  refine e_iload_n dX5_linesOf_4 rfl rfl ?_
  refine e_aload_n dX5_linesOf_5 rfl rfl ?_
  obtain ⟨k2, h9⟩ := chkP hN1 h9
  refine g_512 flX5_51 dX5_linesOf_6 k2 ?_
  refine e_icmp_ge (tgt := 31) dX5_linesOf_9 rfl (fun hc3 => ?_) (fun hc3 => ?_)
  · replace h9 := ifT hc3 h9
    refine e_iload_n dX5_linesOf_31 rfl rfl ?_
    exact x_iret dX5_linesOf_32 rfl (hR1 _ h9)
  · replace h9 := ifF hc3 h9
    refine e_aload_n dX5_linesOf_12 rfl rfl ?_
    refine g_511 flX5_48 dX5_linesOf_13 k2 ?_
    refine e_iload_n dX5_linesOf_16 rfl rfl ?_
    obtain ⟨k4, h9⟩ := chkP hN1 h9
    refine l_511 dX5_linesOf_17 k2 (inb_in k4) ?_
    refine e_iload_n dX5_linesOf_18 rfl rfl ?_
    refine e_icmp_ne (tgt := 25) dX5_linesOf_19 rfl (fun hc5 => ?_) (fun hc5 => ?_)
    · replace h9 := ifF hc5 h9
      refine e_iinc (v := (v1.2 + 1)) (L' := [some (.ref (ad 5 i)), some (.int p1), some (.int v1.1), some (.int (v1.2 + 1))]) dX5_linesOf_25 rfl rfl (by decide) rfl ?_
      refine e_goto (tgt := 4) dX5_linesOf_28 rfl ?_
      exact hB0_1 _ _ h9
    · replace h9 := ifT hc5 h9
      refine e_iinc (v := (v1.1 + 1)) (L' := [some (.ref (ad 5 i)), some (.int p1), some (.int (v1.1 + 1)), some (.int v1.2)]) dX5_linesOf_22 rfl rfl (by decide) rfl ?_
      refine e_iinc (v := (v1.2 + 1)) (L' := [some (.ref (ad 5 i)), some (.int p1), some (.int (v1.1 + 1)), some (.int (v1.2 + 1))]) dX5_linesOf_25 rfl rfl (by decide) rfl ?_
      refine e_goto (tgt := 4) dX5_linesOf_28 rfl ?_
      exact hB0_1 _ _ h9
noncomputable def b_X6_mostOf_4 (x : VM) (p1 : Nat) (v1 : Int32 × Int32) : (Int32 × Int32) ⊕ (Option (Int32)) := if 8 ≤ v1.2 then Sum.inr (some v1.1) else if p1 < x.2.2.2 5 then if inb v1.2 8 = true then Sum.inl ((if v1.1 < (x.2.1 517 p1 v1.2.toNatClampNeg) then (x.2.1 517 p1 v1.2.toNatClampNeg) else v1.1), v1.2 + 1) else Sum.inr none else Sum.inr none
noncomputable def f_X6_mostOf (x : VM) (p1 : Nat) : Option (Int32) := loopF none (b_X6_mostOf_4 x p1) (0, 0)
theorem c_X6_mostOf {g : GG} {d : Nat} {ad : AD} {x m : VM} {Q : Option Value → VM → VM → Prop} (p1 : Nat) {r9 : Int32} (hf : f_X6_mostOf x p1 = some r9) (hq : Q (some (.int r9)) x m) : CX g (d + 1) MX6_mostOf [.ref (ad 5 p1)] ad x m Q := by
  refine CX.to (Lv := [some (.ref (ad 5 p1)), none, none]) okX6_mostOf (Nat.le_of_ble_eq_true rfl) rfl ?_
  obtain ⟨Φ0, hΦ⟩ : ∃ Φ : Option (Int32) → Prop, Φ = fun o => o = some r9 := ⟨_, rfl⟩
  have hN0 : Φ0 none → False := by rw [hΦ]; intro h; cases h
  have hR0 : ∀ z9, Φ0 (some z9) → Q (some (.int z9)) x m := by rw [hΦ]; intro z9 h; cases h; exact hq
  have h9 : Φ0 (f_X6_mostOf x p1) := by rw [hΦ]; exact hf
  clear hf hq hΦ
  unfold f_X6_mostOf at h9
  refine e_iconst (v := 0) dX6_mostOf_0 rfl ?_
  refine e_istore_n (L' := [some (.ref (ad 5 p1)), some (.int 0), none]) dX6_mostOf_1 rfl (by decide) rfl ?_
  refine e_iconst (v := 0) dX6_mostOf_2 rfl ?_
  refine e_istore_n (L' := [some (.ref (ad 5 p1)), some (.int 0), some (.int 0)]) dX6_mostOf_3 rfl (by decide) rfl ?_
  refine loop_gen (b_X6_mostOf_4 x p1) none (fun v1 => EX g (d + 1) MX6_mostOf ad x m 4 [some (.ref (ad 5 p1)), some (.int v1.1), some (.int v1.2)] [] Q) Φ0 hN0 (fun v1 Φ1 hB0_1 hO1 h9 => ?_) (0, 0) h9
  have hN1 := fun h => hN0 (hO1 _ h)
  have hR1 := fun r9 h => hR0 r9 (hO1 _ h)
  have hB0_1 : ∀ (z0 : Int32) (z1 : Int32), Φ1 (Sum.inl (z0, z1)) → EX g (d + 1) MX6_mostOf ad x m 4 [some (.ref (ad 5 p1)), some (.int z0), some (.int z1)] [] Q := fun z0 z1 h => hB0_1 (z0, z1) h
  unfold b_X6_mostOf_4 at h9
  refine e_iload_n dX6_mostOf_4 rfl rfl ?_
  refine e_bipush (v := 8) dX6_mostOf_5 rfl ?_
  refine e_icmp_ge (tgt := 27) dX6_mostOf_7 rfl (fun hc2 => ?_) (fun hc2 => ?_)
  · replace h9 := ifT hc2 h9
    refine e_iload_n dX6_mostOf_27 rfl rfl ?_
    exact x_iret dX6_mostOf_28 rfl (hR1 _ h9)
  · replace h9 := ifF hc2 h9
    refine e_iload_n dX6_mostOf_10 rfl rfl ?_
    refine e_aload_n dX6_mostOf_11 rfl rfl ?_
    obtain ⟨k3, h9⟩ := chkP hN1 h9
    refine g_517 flX6_60 dX6_mostOf_12 k3 ?_
    refine e_iload_n dX6_mostOf_15 rfl rfl ?_
    obtain ⟨k4, h9⟩ := chkP hN1 h9
    refine l_517 dX6_mostOf_16 k3 (inb_in k4) ?_
    refine e_mmax mmX6_63 dX6_mostOf_17 (Nat.le_of_ble_eq_true rfl) ?_
    refine e_istore_n (L' := [some (.ref (ad 5 p1)), some (.int (if v1.1 < (x.2.1 517 p1 v1.2.toNatClampNeg) then (x.2.1 517 p1 v1.2.toNatClampNeg) else v1.1)), some (.int v1.2)]) dX6_mostOf_20 rfl (by decide) rfl ?_
    refine e_iinc (v := (v1.2 + 1)) (L' := [some (.ref (ad 5 p1)), some (.int (if v1.1 < (x.2.1 517 p1 v1.2.toNatClampNeg) then (x.2.1 517 p1 v1.2.toNatClampNeg) else v1.1)), some (.int (v1.2 + 1))]) dX6_mostOf_21 rfl rfl (by decide) rfl ?_
    refine e_pc (pc' := 24) rfl ?_
    refine e_goto (tgt := 4) dX6_mostOf_24 rfl ?_
    exact hB0_1 _ _ h9
noncomputable def f_X11_isKind (x : VM) (p1 : Int32) : Option (Int32) := if p1 < 0 then some 0 else if 6 ≤ p1 then some 0 else some 1
theorem c_X11_isKind {g : GG} {d : Nat} {ad : AD} {x m : VM} {Q : Option Value → VM → VM → Prop} (p1 : Int32) {r9 : Int32} (hf : f_X11_isKind x p1 = some r9) (hq : Q (some (.int r9)) x m) : CX g d MX11_isKind [.int p1] ad x m Q := by
  refine CX.to (Lv := [some (.int p1)]) okX11_isKind (Nat.le_of_ble_eq_true rfl) rfl ?_
  obtain ⟨Φ0, hΦ⟩ : ∃ Φ : Option (Int32) → Prop, Φ = fun o => o = some r9 := ⟨_, rfl⟩
  have hN0 : Φ0 none → False := by rw [hΦ]; intro h; cases h
  have hR0 : ∀ z9, Φ0 (some z9) → Q (some (.int z9)) x m := by rw [hΦ]; intro z9 h; cases h; exact hq
  have h9 : Φ0 (f_X11_isKind x p1) := by rw [hΦ]; exact hf
  clear hf hq hΦ
  unfold f_X11_isKind at h9
  refine e_iload_n dX11_isKind_0 rfl rfl ?_
  refine e_if_lt (tgt := 16) dX11_isKind_1 rfl (fun hc1 => ?_) (fun hc1 => ?_)
  · replace h9 := ifT hc1 h9
    refine e_iconst (v := 0) dX11_isKind_16 rfl ?_
    exact x_zret dX11_isKind_17 rfl (by decide) (hR0 _ h9)
  · replace h9 := ifF hc1 h9
    refine e_iload_n dX11_isKind_4 rfl rfl ?_
    refine e_getstatic (j := 0) rfl slX11_431 dX11_isKind_5 ?_
    refine e_slength (j := 0) (v := 6) rfl dX11_isKind_8 rfl ?_
    refine e_icmp_ge (tgt := 16) dX11_isKind_9 rfl (fun hc2 => ?_) (fun hc2 => ?_)
    · replace h9 := ifT hc2 h9
      refine e_iconst (v := 0) dX11_isKind_16 rfl ?_
      exact x_zret dX11_isKind_17 rfl (by decide) (hR0 _ h9)
    · replace h9 := ifF hc2 h9
      refine e_iconst (v := 1) dX11_isKind_12 rfl ?_
      refine e_goto (tgt := 17) dX11_isKind_13 rfl ?_
      exact x_zret dX11_isKind_17 rfl (by decide) (hR0 _ h9)
noncomputable def b_X11_isUnderKind_4 (x : VM) (p1 : Int32) (p2 : Int32) (v1 : Int32 × Int32) : (Int32 × Int32) ⊕ (Option (Int32)) := if 6 ≤ v1.2 then Sum.inr (some 0) else (f_X11_isKind x v1.1).elim (Sum.inr none) (fun r3 => if r3 = 0 then Sum.inr (some 0) else if v1.1 = p2 then Sum.inr (some 1) else if inb v1.1 6 = true then Sum.inl (sv0 v1.1.toNatClampNeg, v1.2 + 1) else Sum.inr none)
noncomputable def f_X11_isUnderKind (x : VM) (p1 : Int32) (p2 : Int32) : Option (Int32) := loopF none (b_X11_isUnderKind_4 x p1 p2) (p1, 0)
theorem c_X11_isUnderKind {g : GG} {d : Nat} {ad : AD} {x m : VM} {Q : Option Value → VM → VM → Prop} (p1 : Int32) (p2 : Int32) {r9 : Int32} (hf : f_X11_isUnderKind x p1 p2 = some r9) (hq : Q (some (.int r9)) x m) : CX g (d + 1) MX11_isUnderKind [.int p1, .int p2] ad x m Q := by
  refine CX.to (Lv := [some (.int p1), some (.int p2), none, none]) okX11_isUnderKind (Nat.le_of_ble_eq_true rfl) rfl ?_
  obtain ⟨Φ0, hΦ⟩ : ∃ Φ : Option (Int32) → Prop, Φ = fun o => o = some r9 := ⟨_, rfl⟩
  have hN0 : Φ0 none → False := by rw [hΦ]; intro h; cases h
  have hR0 : ∀ z9, Φ0 (some z9) → Q (some (.int z9)) x m := by rw [hΦ]; intro z9 h; cases h; exact hq
  have h9 : Φ0 (f_X11_isUnderKind x p1 p2) := by rw [hΦ]; exact hf
  clear hf hq hΦ
  unfold f_X11_isUnderKind at h9
  refine e_iload_n dX11_isUnderKind_0 rfl rfl ?_
  refine e_istore_n (L' := [some (.int p1), some (.int p2), some (.int p1), none]) dX11_isUnderKind_1 rfl (by decide) rfl ?_
  refine e_iconst (v := 0) dX11_isUnderKind_2 rfl ?_
  refine e_istore_n (L' := [some (.int p1), some (.int p2), some (.int p1), some (.int 0)]) dX11_isUnderKind_3 rfl (by decide) rfl ?_
  refine e_wk (L' := [none, some (.int p2), some (.int p1), some (.int 0)]) (wkN (wkC (wkC (wkC wk0)))) ?_
  refine loop_gen (b_X11_isUnderKind_4 x p1 p2) none (fun v1 => EX g (d + 1) MX11_isUnderKind ad x m 4 [none, some (.int p2), some (.int v1.1), some (.int v1.2)] [] Q) Φ0 hN0 (fun v1 Φ1 hB0_1 hO1 h9 => ?_) (p1, 0) h9
  have hN1 := fun h => hN0 (hO1 _ h)
  have hR1 := fun r9 h => hR0 r9 (hO1 _ h)
  have hB0_1 : ∀ (z0 : Int32) (z1 : Int32), Φ1 (Sum.inl (z0, z1)) → EX g (d + 1) MX11_isUnderKind ad x m 4 [none, some (.int p2), some (.int z0), some (.int z1)] [] Q := fun z0 z1 h => hB0_1 (z0, z1) h
  unfold b_X11_isUnderKind_4 at h9
  refine e_iload_n dX11_isUnderKind_4 rfl rfl ?_
  refine e_getstatic (j := 0) rfl slX11_431 dX11_isUnderKind_5 ?_
  refine e_slength (j := 0) (v := 6) rfl dX11_isUnderKind_8 rfl ?_
  refine e_icmp_ge (tgt := 38) dX11_isUnderKind_9 rfl (fun hc2 => ?_) (fun hc2 => ?_)
  · replace h9 := ifT hc2 h9
    refine e_iconst (v := 0) dX11_isUnderKind_38 rfl ?_
    exact x_zret dX11_isUnderKind_39 rfl (by decide) (hR1 _ h9)
  · replace h9 := ifF hc2 h9
    refine e_iload_n dX11_isUnderKind_12 rfl rfl ?_
    obtain ⟨r3, hr3, h9⟩ := elimP hN1 h9
    refine x_callSi (As := [.int v1.1]) (rest := []) okX11_isKind lkX11_160 dX11_isUnderKind_13 rfl rfl (Nat.le_of_ble_eq_true rfl) (c_X11_isKind v1.1 hr3 (CI.mk ?_))
    refine e_if_eq (tgt := 38) dX11_isUnderKind_16 rfl (fun hc4 => ?_) (fun hc4 => ?_)
    · replace h9 := ifT hc4 h9
      refine e_iconst (v := 0) dX11_isUnderKind_38 rfl ?_
      exact x_zret dX11_isUnderKind_39 rfl (by decide) (hR1 _ h9)
    · replace h9 := ifF hc4 h9
      refine e_iload_n dX11_isUnderKind_19 rfl rfl ?_
      refine e_iload_n dX11_isUnderKind_20 rfl rfl ?_
      refine e_icmp_ne (tgt := 26) dX11_isUnderKind_21 rfl (fun hc5 => ?_) (fun hc5 => ?_)
      · replace h9 := ifF hc5 h9
        refine e_getstatic (j := 0) rfl slX11_431 dX11_isUnderKind_26 ?_
        refine e_iload_n dX11_isUnderKind_29 rfl rfl ?_
        obtain ⟨k6, h9⟩ := chkP hN1 h9
        refine e_saload (j := 0) rfl dX11_isUnderKind_30 (inb_in k6) ?_
        refine e_top (v := .int (sv0 v1.1.toNatClampNeg)) rfl ?_
        refine e_istore_n (L' := [none, some (.int p2), some (.int (sv0 v1.1.toNatClampNeg)), some (.int v1.2)]) dX11_isUnderKind_31 rfl (by decide) rfl ?_
        refine e_iinc (v := (v1.2 + 1)) (L' := [none, some (.int p2), some (.int (sv0 v1.1.toNatClampNeg)), some (.int (v1.2 + 1))]) dX11_isUnderKind_32 rfl rfl (by decide) rfl ?_
        refine e_goto (tgt := 4) dX11_isUnderKind_35 rfl ?_
        exact hB0_1 _ _ h9
      · replace h9 := ifT hc5 h9
        refine e_iconst (v := 1) dX11_isUnderKind_24 rfl ?_
        exact x_zret dX11_isUnderKind_25 rfl (by decide) (hR1 _ h9)
noncomputable def b_X6_isFree_3 (x : VM) (p1 : Int32) (p2 : Int32) (p3 : Int32) (v1 : Int32) : (Int32) ⊕ (Option (Int32)) := if (p1 + p2) ≤ v1 then Sum.inr (some 1) else if 8 ≤ v1 then Sum.inr (some 1) else if inb v1 8 = true then if (x.1 602 0) ≤ (x.2.1 607 0 v1.toNatClampNeg) then Sum.inr (some 0) else if inb v1 8 = true then if ((x.2.1 608 0 v1.toNatClampNeg) &&& p3) = 0 then Sum.inl (v1 + 1) else Sum.inr (some 0) else Sum.inr none else Sum.inr none
noncomputable def f_X6_isFree (x : VM) (p1 : Int32) (p2 : Int32) (p3 : Int32) : Option (Int32) := loopF none (b_X6_isFree_3 x p1 p2 p3) p1
theorem c_X6_isFree {g : GG} {d : Nat} {ad : AD} {x m : VM} {Q : Option Value → VM → VM → Prop} (p1 : Int32) (p2 : Int32) (p3 : Int32) {r9 : Int32} (hf : f_X6_isFree x p1 p2 p3 = some r9) (hq : Q (some (.int r9)) x m) : CX g d MX6_isFree [.ref (ad 6 0), .int p1, .int p2, .int p3] ad x m Q := by
  refine CX.to (Lv := [some (.ref (ad 6 0)), some (.int p1), some (.int p2), some (.int p3), none]) okX6_isFree (Nat.le_of_ble_eq_true rfl) rfl ?_
  obtain ⟨Φ0, hΦ⟩ : ∃ Φ : Option (Int32) → Prop, Φ = fun o => o = some r9 := ⟨_, rfl⟩
  have hN0 : Φ0 none → False := by rw [hΦ]; intro h; cases h
  have hR0 : ∀ z9, Φ0 (some z9) → Q (some (.int z9)) x m := by rw [hΦ]; intro z9 h; cases h; exact hq
  have h9 : Φ0 (f_X6_isFree x p1 p2 p3) := by rw [hΦ]; exact hf
  clear hf hq hΦ
  unfold f_X6_isFree at h9
  refine e_iload_n dX6_isFree_0 rfl rfl ?_
  refine e_istore (L' := [some (.ref (ad 6 0)), some (.int p1), some (.int p2), some (.int p3), some (.int p1)]) dX6_isFree_1 (by decide) rfl ?_
  refine loop_gen (b_X6_isFree_3 x p1 p2 p3) none (fun v1 => EX g d MX6_isFree ad x m 3 [some (.ref (ad 6 0)), some (.int p1), some (.int p2), some (.int p3), some (.int v1)] [] Q) Φ0 hN0 (fun v1 Φ1 hB0_1 hO1 h9 => ?_) p1 h9
  have hN1 := fun h => hN0 (hO1 _ h)
  have hR1 := fun r9 h => hR0 r9 (hO1 _ h)
  have hB0_1 : ∀ (z0 : Int32), Φ1 (Sum.inl z0) → EX g d MX6_isFree ad x m 3 [some (.ref (ad 6 0)), some (.int p1), some (.int p2), some (.int p3), some (.int z0)] [] Q := fun z0 h => hB0_1 z0 h
  unfold b_X6_isFree_3 at h9
  refine e_iload dX6_isFree_3 rfl ?_
  refine e_iload_n dX6_isFree_5 rfl rfl ?_
  refine e_iload_n dX6_isFree_6 rfl rfl ?_
  refine e_iadd dX6_isFree_7 ?_
  refine e_icmp_ge (tgt := 52) dX6_isFree_8 rfl (fun hc2 => ?_) (fun hc2 => ?_)
  · replace h9 := ifT hc2 h9
    refine e_iconst (v := 1) dX6_isFree_52 rfl ?_
    exact x_zret dX6_isFree_53 rfl (by decide) (hR1 _ h9)
  · replace h9 := ifF hc2 h9
    refine e_iload dX6_isFree_11 rfl ?_
    refine e_bipush (v := 8) dX6_isFree_13 rfl ?_
    refine e_icmp_ge (tgt := 52) dX6_isFree_15 rfl (fun hc3 => ?_) (fun hc3 => ?_)
    · replace h9 := ifT hc3 h9
      refine e_iconst (v := 1) dX6_isFree_52 rfl ?_
      exact x_zret dX6_isFree_53 rfl (by decide) (hR1 _ h9)
    · replace h9 := ifF hc3 h9
      refine e_aload_n dX6_isFree_18 rfl rfl ?_
      refine g_607 flX6_34 dX6_isFree_19 ?_
      refine e_iload dX6_isFree_22 rfl ?_
      obtain ⟨k4, h9⟩ := chkP hN1 h9
      refine l_607 dX6_isFree_24 (inb_in k4) ?_
      refine e_aload_n dX6_isFree_25 rfl rfl ?_
      refine g_602 flX6_19 dX6_isFree_26 ?_
      refine e_icmp_ge (tgt := 44) dX6_isFree_29 rfl (fun hc5 => ?_) (fun hc5 => ?_)
      · replace h9 := ifT hc5 h9
        refine e_iconst (v := 0) dX6_isFree_44 rfl ?_
        exact x_zret dX6_isFree_45 rfl (by decide) (hR1 _ h9)
      · replace h9 := ifF hc5 h9
        refine e_aload_n dX6_isFree_32 rfl rfl ?_
        refine g_608 flX6_37 dX6_isFree_33 ?_
        refine e_iload dX6_isFree_36 rfl ?_
        obtain ⟨k6, h9⟩ := chkP hN1 h9
        refine l_608 dX6_isFree_38 (inb_in k6) ?_
        refine e_iload_n dX6_isFree_39 rfl rfl ?_
        refine e_iand dX6_isFree_40 ?_
        refine e_if_eq (tgt := 46) dX6_isFree_41 rfl (fun hc7 => ?_) (fun hc7 => ?_)
        · replace h9 := ifT hc7 h9
          refine e_iinc (v := (v1 + 1)) (L' := [some (.ref (ad 6 0)), some (.int p1), some (.int p2), some (.int p3), some (.int (v1 + 1))]) dX6_isFree_46 rfl rfl (by decide) rfl ?_
          refine e_goto (tgt := 3) dX6_isFree_49 rfl ?_
          exact hB0_1 _ h9
        · replace h9 := ifF hc7 h9
          refine e_iconst (v := 0) dX6_isFree_44 rfl ?_
          exact x_zret dX6_isFree_45 rfl (by decide) (hR1 _ h9)
noncomputable def b_X6_use_3 (x : VM) (p1 : Int32) (p2 : Int32) (p3 : Int32) (p4 : Int32) (v1 : Int32 × VM) : (Int32 × VM) ⊕ (Option (VM)) := if (p1 + p2) ≤ v1.1 then Sum.inr (some v1.2) else if 8 ≤ v1.1 then Sum.inr (some v1.2) else if inb v1.1 8 = true then if inb v1.1 8 = true then if inb v1.1 8 = true then if inb v1.1 8 = true then Sum.inl (v1.1 + 1, setA (setA v1.2 607 0 (upd (v1.2.2.1 607 0) v1.1.toNatClampNeg ((v1.2.2.1 607 0 v1.1.toNatClampNeg) + p4))) 608 0 (upd ((setA v1.2 607 0 (upd (v1.2.2.1 607 0) v1.1.toNatClampNeg ((v1.2.2.1 607 0 v1.1.toNatClampNeg) + p4))).2.1 608 0) v1.1.toNatClampNeg (((setA v1.2 607 0 (upd (v1.2.2.1 607 0) v1.1.toNatClampNeg ((v1.2.2.1 607 0 v1.1.toNatClampNeg) + p4))).2.1 608 0 v1.1.toNatClampNeg) ^^^ p3))) else Sum.inr none else Sum.inr none else Sum.inr none else Sum.inr none
noncomputable def f_X6_use (x : VM) (p1 : Int32) (p2 : Int32) (p3 : Int32) (p4 : Int32) : Option (VM) := loopF none (b_X6_use_3 x p1 p2 p3 p4) (p1, x)
theorem c_X6_use {g : GG} {d : Nat} {ad : AD} {x m : VM} {Q : Option Value → VM → VM → Prop} (p1 : Int32) (p2 : Int32) (p3 : Int32) (p4 : Int32) {w9 : VM} (hf : f_X6_use x p1 p2 p3 p4 = some w9) (hq : Q none w9 m) : CX g d MX6_use [.ref (ad 6 0), .int p1, .int p2, .int p3, .int p4] ad x m Q := by
  refine CX.to (Lv := [some (.ref (ad 6 0)), some (.int p1), some (.int p2), some (.int p3), some (.int p4), none]) okX6_use (Nat.le_of_ble_eq_true rfl) rfl ?_
  obtain ⟨Φ0, hΦ⟩ : ∃ Φ : Option (VM) → Prop, Φ = fun o => o = some w9 := ⟨_, rfl⟩
  have hN0 : Φ0 none → False := by rw [hΦ]; intro h; cases h
  have hR0 : ∀ z9, Φ0 (some z9) → Q none z9 m := by rw [hΦ]; intro z9 h; cases h; exact hq
  have h9 : Φ0 (f_X6_use x p1 p2 p3 p4) := by rw [hΦ]; exact hf
  clear hf hq hΦ
  unfold f_X6_use at h9
  refine e_iload_n dX6_use_0 rfl rfl ?_
  refine e_istore (L' := [some (.ref (ad 6 0)), some (.int p1), some (.int p2), some (.int p3), some (.int p4), some (.int p1)]) dX6_use_1 (by decide) rfl ?_
  refine loop_gen (b_X6_use_3 x p1 p2 p3 p4) none (fun v1 => EX g d MX6_use ad v1.2 m 3 [some (.ref (ad 6 0)), some (.int p1), some (.int p2), some (.int p3), some (.int p4), some (.int v1.1)] [] Q) Φ0 hN0 (fun v1 Φ1 hB0_1 hO1 h9 => ?_) (p1, x) h9
  have hN1 := fun h => hN0 (hO1 _ h)
  have hR1 := fun r9 h => hR0 r9 (hO1 _ h)
  have hB0_1 : ∀ (z0 : Int32) (z1 : VM), Φ1 (Sum.inl (z0, z1)) → EX g d MX6_use ad z1 m 3 [some (.ref (ad 6 0)), some (.int p1), some (.int p2), some (.int p3), some (.int p4), some (.int z0)] [] Q := fun z0 z1 h => hB0_1 (z0, z1) h
  unfold b_X6_use_3 at h9
  refine e_iload dX6_use_3 rfl ?_
  refine e_iload_n dX6_use_5 rfl rfl ?_
  refine e_iload_n dX6_use_6 rfl rfl ?_
  refine e_iadd dX6_use_7 ?_
  refine e_icmp_ge (tgt := 47) dX6_use_8 rfl (fun hc2 => ?_) (fun hc2 => ?_)
  · replace h9 := ifT hc2 h9
    exact x_vret dX6_use_47 rfl (hR1 _ h9)
  · replace h9 := ifF hc2 h9
    refine e_iload dX6_use_11 rfl ?_
    refine e_bipush (v := 8) dX6_use_13 rfl ?_
    refine e_icmp_ge (tgt := 47) dX6_use_15 rfl (fun hc3 => ?_) (fun hc3 => ?_)
    · replace h9 := ifT hc3 h9
      exact x_vret dX6_use_47 rfl (hR1 _ h9)
    · replace h9 := ifF hc3 h9
      refine e_aload_n dX6_use_18 rfl rfl ?_
      refine g_607 flX6_34 dX6_use_19 ?_
      refine e_iload dX6_use_22 rfl ?_
      refine e_dup2_11 dX6_use_24 rfl rfl ?_
      obtain ⟨k4, h9⟩ := chkP hN1 h9
      refine l_607 dX6_use_25 (inb_in k4) ?_
      refine e_iload dX6_use_26 rfl ?_
      refine e_iadd dX6_use_28 ?_
      obtain ⟨k5, h9⟩ := chkP hN1 h9
      refine s_607 dX6_use_29 (inb_in k5) ?_
      refine e_pc (pc' := 30) rfl ?_
      refine e_aload_n dX6_use_30 rfl rfl ?_
      refine g_608 flX6_37 dX6_use_31 ?_
      refine e_iload dX6_use_34 rfl ?_
      refine e_dup2_11 dX6_use_36 rfl rfl ?_
      obtain ⟨k6, h9⟩ := chkP hN1 h9
      refine l_608 dX6_use_37 (inb_in k6) ?_
      refine e_iload_n dX6_use_38 rfl rfl ?_
      refine e_ixor dX6_use_39 ?_
      obtain ⟨k7, h9⟩ := chkP hN1 h9
      refine s_608 dX6_use_40 (inb_in k7) ?_
      refine e_iinc (v := (v1.1 + 1)) (L' := [some (.ref (ad 6 0)), some (.int p1), some (.int p2), some (.int p3), some (.int p4), some (.int (v1.1 + 1))]) dX6_use_41 rfl rfl (by decide) rfl ?_
      refine e_pc (pc' := 44) rfl ?_
      refine e_goto (tgt := 3) dX6_use_44 rfl ?_
      exact hB0_1 _ _ h9
noncomputable def j_X6_search_85 (rec9 : VM → Int32 → Int32 → Option VM) (x : VM) (p2 : Int32) (p3 : Int32) (v7 : Int32 × VM) : (Int32 × VM) ⊕ (Option (VM)) := if p2.toNatClampNeg < v7.2.2.2.2 5 then if inb p2 8 = true then (f_X6_isFree v7.2 v7.1 (v7.2.1 516 p2.toNatClampNeg) (v7.2.2.1 605 0 p2.toNatClampNeg)).elim (Sum.inr none) (fun r14 => if r14 = 0 then Sum.inl (v7.1 + 1, v7.2) else if inb p2 8 = true then if inb p2 8 = true then (f_X6_use (setA v7.2 604 0 (upd (v7.2.2.1 604 0) p2.toNatClampNeg v7.1)) v7.1 ((setA v7.2 604 0 (upd (v7.2.2.1 604 0) p2.toNatClampNeg v7.1)).1 516 p2.toNatClampNeg) ((setA v7.2 604 0 (upd (v7.2.2.1 604 0) p2.toNatClampNeg v7.1)).2.1 605 0 p2.toNatClampNeg) 1).elim (Sum.inr none) (fun r18 => if p2.toNatClampNeg < r18.2.2.2 5 then if inb v7.1 8 = true then (rec9 r18 (p2 + 1) (p3 + (r18.2.1 517 p2.toNatClampNeg v7.1.toNatClampNeg))).elim (Sum.inr none) (fun r22 => if p2.toNatClampNeg < r22.2.2.2 5 then if inb p2 8 = true then (f_X6_use r22 v7.1 (r22.1 516 p2.toNatClampNeg) (r22.2.1 605 0 p2.toNatClampNeg) (-1)).elim (Sum.inr none) (fun r26 => Sum.inl (v7.1 + 1, r26)) else Sum.inr none else Sum.inr none) else Sum.inr none else Sum.inr none) else Sum.inr none else Sum.inr none) else Sum.inr none else Sum.inr none
noncomputable def b_X6_search_66 (rec9 : VM → Int32 → Int32 → Option VM) (x : VM) (p2 : Int32) (p3 : Int32) (r6 : Int32) (v7 : Int32 × VM) : (Int32 × VM) ⊕ (Option (VM)) := if 8 ≤ v7.1 then if inb p2 8 = true then (rec9 (setA v7.2 604 0 (upd (v7.2.2.1 604 0) p2.toNatClampNeg (-1))) (p2 + 1) p3).elim (Sum.inr none) (fun r10 => Sum.inr (some r10)) else Sum.inr none else if r6 = 0 then j_X6_search_85 rec9 x p2 p3 v7 else if (v7.1 - v7.1 / 4 * 4) = 0 then j_X6_search_85 rec9 x p2 p3 v7 else Sum.inl (v7.1 + 1, v7.2)
noncomputable def fb_X6_search (rec9 : VM → Int32 → Int32 → Option VM) (x : VM) (p2 : Int32) (p3 : Int32) : Option (VM) := if inb p2 9 = true then if (x.1 603 0) < (p3 + (x.2.1 606 0 p2.toNatClampNeg)) then if p2 < (x.1 601 0) then if inb p2 8 = true then if p2.toNatClampNeg < x.2.2.2 5 then (f_X11_isUnderKind x (x.1 500 p2.toNatClampNeg) 3).elim none (fun r6 => loopF none (b_X6_search_66 rec9 x p2 p3 r6) (0, x)) else none else none else if spn 0 ((setI x 603 0 p3).1 601 0) 8 = true then if spn 0 ((setI x 603 0 p3).1 601 0) 8 = true then some (setA (setI x 603 0 p3) 600 0 (va_cpy ((setI x 603 0 p3).2.1 604 0) ((setI x 603 0 p3).2.1 600 0) (0 : Int32).toNatClampNeg (0 : Int32).toNatClampNeg ((setI x 603 0 p3).1 601 0).toNatClampNeg)) else none else none else some x else none
noncomputable def f_X6_search : Nat → VM → Int32 → Int32 → Option VM
  | 0 => fun _ _ _ => none
  | n + 1 => fb_X6_search (f_X6_search n)
theorem cr_X6_search {g : GG} {ad : AD} : ∀ (n d : Nat) {x m : VM} {Q : Option Value → VM → VM → Prop} (p2 : Int32) (p3 : Int32) {w9 : VM}, f_X6_search n x p2 p3 = some w9 → Q none w9 m → CX g (d + n + 2) MX6_search [.ref (ad 6 0), .ref (ad 2102 0), .int p2, .int p3] ad x m Q := by
  intro n
  induction n with
  | zero => intro d x m Q  p2 p3 w9 hf hq; cases hf
  | succ n ih =>
  intro d x m Q  p2 p3 w9 hf hq
  have ihr : ∀ {x m : VM} {Q : Option Value → VM → VM → Prop} (p2 : Int32) (p3 : Int32) {w9 : VM}, f_X6_search n x p2 p3 = some w9 → Q none w9 m → CX g (d + (n + 1) + 1) MX6_search [.ref (ad 6 0), .ref (ad 2102 0), .int p2, .int p3] ad x m Q := @fun x m Q  p2 p3 w9 h1 h2 => by have := ih d  p2 p3 h1 h2; rwa [show d + n + 2 = d + (n + 1) + 1 by omega] at this
  change fb_X6_search (f_X6_search n) x p2 p3 = some w9 at hf
  obtain ⟨rec9, hrec⟩ : ∃ z, z = f_X6_search n := ⟨_, rfl⟩
  rw [← hrec] at hf ihr
  clear hrec ih
  refine CX.to (Lv := [some (.ref (ad 6 0)), some (.ref (ad 2102 0)), some (.int p2), some (.int p3), none, none, none]) okX6_search (Nat.le_of_ble_eq_true rfl) rfl ?_
  obtain ⟨Φ0, hΦ⟩ : ∃ Φ : Option (VM) → Prop, Φ = fun o => o = some w9 := ⟨_, rfl⟩
  have hN0 : Φ0 none → False := by rw [hΦ]; intro h; cases h
  have hR0 : ∀ z9, Φ0 (some z9) → Q none z9 m := by rw [hΦ]; intro z9 h; cases h; exact hq
  have h9 : Φ0 (fb_X6_search rec9 x p2 p3) := by rw [hΦ]; exact hf
  clear hf hq hΦ
  unfold fb_X6_search at h9
  refine e_iload_n dX6_search_0 rfl rfl ?_
  refine e_aload_n dX6_search_1 rfl rfl ?_
  refine g_606 flX6_31 dX6_search_2 ?_
  refine e_iload_n dX6_search_5 rfl rfl ?_
  obtain ⟨k1, h9⟩ := chkP hN0 h9
  refine l_606 dX6_search_6 (inb_in k1) ?_
  refine e_iadd dX6_search_7 ?_
  refine e_aload_n dX6_search_8 rfl rfl ?_
  refine g_603 flX6_22 dX6_search_9 ?_
  refine e_pc (pc' := 12) rfl ?_
  refine e_icmp_gt (tgt := 16) dX6_search_12 rfl (fun hc2 => ?_) (fun hc2 => ?_)
  · replace h9 := ifT hc2 h9
    refine e_iload_n dX6_search_16 rfl rfl ?_
    refine e_aload_n dX6_search_17 rfl rfl ?_
    refine g_601 flX6_15 dX6_search_18 ?_
    refine e_icmp_lt (tgt := 47) dX6_search_21 rfl (fun hc3 => ?_) (fun hc3 => ?_)
    · replace h9 := ifT hc3 h9
      refine e_aload_n dX6_search_47 rfl rfl ?_
      refine e_iload_n dX6_search_48 rfl rfl ?_
      obtain ⟨k4, h9⟩ := chkP hN0 h9
      refine l_1102 dX6_search_49 (inb_in k4) ?_
      obtain ⟨k5, h9⟩ := chkP hN0 h9
      refine e_top (v := .ref (ad 5 p2.toNatClampNeg)) (rfT k5) ?_
      refine e_astore (L' := [some (.ref (ad 6 0)), some (.ref (ad 2102 0)), some (.int p2), some (.int p3), some (.ref (ad 5 p2.toNatClampNeg)), none, none]) dX6_search_50 (by decide) rfl ?_
      refine e_aload dX6_search_52 rfl ?_
      refine g_500 flX6_72 dX6_search_54 k5 ?_
      refine e_iconst (v := 3) dX6_search_57 rfl ?_
      obtain ⟨r6, hr6, h9⟩ := elimP hN0 h9
      refine x_callSNi (As := [.int (x.1 500 p2.toNatClampNeg), .int 3]) (rest := []) okX11_isUnderKind (by decide) imX6_75 dX6_search_58 rfl rfl (Nat.le_of_ble_eq_true rfl) (c_X11_isUnderKind (x.1 500 p2.toNatClampNeg) 3 hr6 (CI.mk ?_))
      refine e_pc (pc' := 61) rfl ?_
      refine e_istore (L' := [some (.ref (ad 6 0)), some (.ref (ad 2102 0)), some (.int p2), some (.int p3), some (.ref (ad 5 p2.toNatClampNeg)), some (.int r6), none]) dX6_search_61 (by decide) rfl ?_
      refine e_iconst (v := 0) dX6_search_63 rfl ?_
      refine e_istore (L' := [some (.ref (ad 6 0)), some (.ref (ad 2102 0)), some (.int p2), some (.int p3), some (.ref (ad 5 p2.toNatClampNeg)), some (.int r6), some (.int 0)]) dX6_search_64 (by decide) rfl ?_
      refine loop_gen (b_X6_search_66 rec9 x p2 p3 r6) none (fun v7 => EX g (d + (n + 1) + 2) MX6_search ad v7.2 m 66 [some (.ref (ad 6 0)), some (.ref (ad 2102 0)), some (.int p2), some (.int p3), some (.ref (ad 5 p2.toNatClampNeg)), some (.int r6), some (.int v7.1)] [] Q) Φ0 hN0 (fun v7 Φ1 hB0_1 hO1 h9 => ?_) (0, x) h9
      have hN1 := fun h => hN0 (hO1 _ h)
      have hR1 := fun r9 h => hR0 r9 (hO1 _ h)
      have hB0_1 : ∀ (z0 : Int32) (z1 : VM), Φ1 (Sum.inl (z0, z1)) → EX g (d + (n + 1) + 2) MX6_search ad z1 m 66 [some (.ref (ad 6 0)), some (.ref (ad 2102 0)), some (.int p2), some (.int p3), some (.ref (ad 5 p2.toNatClampNeg)), some (.int r6), some (.int z0)] [] Q := fun z0 z1 h => hB0_1 (z0, z1) h
      unfold b_X6_search_66 at h9
      refine e_iload dX6_search_66 rfl ?_
      refine e_bipush (v := 8) dX6_search_68 rfl ?_
      refine e_icmp_ge (tgt := 173) dX6_search_70 rfl (fun hc8 => ?_) (fun hc8 => ?_)
      · replace h9 := ifT hc8 h9
        refine e_aload_n dX6_search_173 rfl rfl ?_
        refine g_604 flX6_25 dX6_search_174 ?_
        refine e_iload_n dX6_search_177 rfl rfl ?_
        refine e_iconst (v := (-1)) dX6_search_178 rfl ?_
        obtain ⟨k9, h9⟩ := chkP hN1 h9
        refine s_604 dX6_search_179 (inb_in k9) ?_
        refine e_aload_n dX6_search_180 rfl rfl ?_
        refine e_aload_n dX6_search_181 rfl rfl ?_
        refine e_iload_n dX6_search_182 rfl rfl ?_
        refine e_pc (pc' := 183) rfl ?_
        refine e_iconst (v := 1) dX6_search_183 rfl ?_
        refine e_iadd dX6_search_184 ?_
        refine e_iload_n dX6_search_185 rfl rfl ?_
        obtain ⟨r10, hr10, h9⟩ := elimP hN1 h9
        refine x_callVv (c := 6) (As := [.ref (ad 2102 0), .int (p2 + 1), .int p3]) (rest := []) okX6_search lkX6_56 rfl (by decide) rfl dX6_search_186 rfl rfl (Nat.le_of_ble_eq_true rfl) rfl (ihr (p2 + 1) p3 hr10 (CV.mk ?_))
        exact x_vret dX6_search_189 rfl (hR1 _ h9)
      · replace h9 := ifF hc8 h9
        refine e_iload dX6_search_73 rfl ?_
        have hj85 : Φ1 (j_X6_search_85 rec9 x p2 p3 v7) → EX g (d + (n + 1) + 2) MX6_search ad v7.2 m 85 [some (.ref (ad 6 0)), some (.ref (ad 2102 0)), some (.int p2), some (.int p3), some (.ref (ad 5 p2.toNatClampNeg)), some (.int r6), some (.int v7.1)] [] Q := by
          intro h9
          unfold j_X6_search_85 at h9
          refine e_aload_n dX6_search_85 rfl rfl ?_
          refine e_iload dX6_search_86 rfl ?_
          refine e_aload dX6_search_88 rfl ?_
          obtain ⟨k12, h9⟩ := chkP hN1 h9
          refine g_516 flX6_79 dX6_search_90 k12 ?_
          refine e_aload_n dX6_search_93 rfl rfl ?_
          refine g_605 flX6_28 dX6_search_94 ?_
          refine e_iload_n dX6_search_97 rfl rfl ?_
          obtain ⟨k13, h9⟩ := chkP hN1 h9
          refine l_605 dX6_search_98 (inb_in k13) ?_
          refine e_pc (pc' := 99) rfl ?_
          obtain ⟨r14, hr14, h9⟩ := elimP hN1 h9
          refine x_callVi (c := 6) (As := [.int v7.1, .int (v7.2.1 516 p2.toNatClampNeg), .int (v7.2.2.1 605 0 p2.toNatClampNeg)]) (rest := []) okX6_isFree lkX6_82 rfl (by decide) rfl dX6_search_99 rfl rfl (Nat.le_of_ble_eq_true rfl) rfl (c_X6_isFree v7.1 (v7.2.1 516 p2.toNatClampNeg) (v7.2.2.1 605 0 p2.toNatClampNeg) hr14 (CI.mk ?_))
          refine e_if_eq (tgt := 167) dX6_search_102 rfl (fun hc15 => ?_) (fun hc15 => ?_)
          · replace h9 := ifT hc15 h9
            refine e_iinc (v := (v7.1 + 1)) (L' := [some (.ref (ad 6 0)), some (.ref (ad 2102 0)), some (.int p2), some (.int p3), some (.ref (ad 5 p2.toNatClampNeg)), some (.int r6), some (.int (v7.1 + 1))]) dX6_search_167 rfl rfl (by decide) rfl ?_
            refine e_goto (tgt := 66) dX6_search_170 rfl ?_
            exact hB0_1 _ _ h9
          · replace h9 := ifF hc15 h9
            refine e_aload_n dX6_search_105 rfl rfl ?_
            refine g_604 flX6_25 dX6_search_106 ?_
            refine e_iload_n dX6_search_109 rfl rfl ?_
            refine e_iload dX6_search_110 rfl ?_
            obtain ⟨k16, h9⟩ := chkP hN1 h9
            refine s_604 dX6_search_112 (inb_in k16) ?_
            refine e_aload_n dX6_search_113 rfl rfl ?_
            refine e_iload dX6_search_114 rfl ?_
            refine e_aload dX6_search_116 rfl ?_
            refine e_pc (pc' := 118) rfl ?_
            refine g_516 flX6_79 dX6_search_118 k12 ?_
            refine e_aload_n dX6_search_121 rfl rfl ?_
            refine g_605 flX6_28 dX6_search_122 ?_
            refine e_iload_n dX6_search_125 rfl rfl ?_
            obtain ⟨k17, h9⟩ := chkP hN1 h9
            refine l_605 dX6_search_126 (inb_in k17) ?_
            refine e_iconst (v := 1) dX6_search_127 rfl ?_
            obtain ⟨r18, hr18, h9⟩ := elimP hN1 h9
            refine x_callVv (c := 6) (As := [.int v7.1, .int ((setA v7.2 604 0 (upd (v7.2.2.1 604 0) p2.toNatClampNeg v7.1)).1 516 p2.toNatClampNeg), .int ((setA v7.2 604 0 (upd (v7.2.2.1 604 0) p2.toNatClampNeg v7.1)).2.1 605 0 p2.toNatClampNeg), .int 1]) (rest := []) okX6_use lkX6_86 rfl (by decide) rfl dX6_search_128 rfl rfl (Nat.le_of_ble_eq_true rfl) rfl (c_X6_use v7.1 ((setA v7.2 604 0 (upd (v7.2.2.1 604 0) p2.toNatClampNeg v7.1)).1 516 p2.toNatClampNeg) ((setA v7.2 604 0 (upd (v7.2.2.1 604 0) p2.toNatClampNeg v7.1)).2.1 605 0 p2.toNatClampNeg) 1 hr18 (CV.mk ?_))
            refine e_aload_n dX6_search_131 rfl rfl ?_
            refine e_aload_n dX6_search_132 rfl rfl ?_
            refine e_pc (pc' := 133) rfl ?_
            refine e_iload_n dX6_search_133 rfl rfl ?_
            refine e_iconst (v := 1) dX6_search_134 rfl ?_
            refine e_iadd dX6_search_135 ?_
            refine e_iload_n dX6_search_136 rfl rfl ?_
            refine e_aload dX6_search_137 rfl ?_
            obtain ⟨k20, h9⟩ := chkP hN1 h9
            refine g_517 flX6_60 dX6_search_139 k20 ?_
            refine e_iload dX6_search_142 rfl ?_
            obtain ⟨k21, h9⟩ := chkP hN1 h9
            refine l_517 dX6_search_144 k20 (inb_in k21) ?_
            refine e_iadd dX6_search_145 ?_
            refine e_pc (pc' := 146) rfl ?_
            obtain ⟨r22, hr22, h9⟩ := elimP hN1 h9
            refine x_callVv (c := 6) (As := [.ref (ad 2102 0), .int (p2 + 1), .int (p3 + (r18.2.1 517 p2.toNatClampNeg v7.1.toNatClampNeg))]) (rest := []) okX6_search lkX6_56 rfl (by decide) rfl dX6_search_146 rfl rfl (Nat.le_of_ble_eq_true rfl) rfl (ihr (p2 + 1) (p3 + (r18.2.1 517 p2.toNatClampNeg v7.1.toNatClampNeg)) hr22 (CV.mk ?_))
            refine e_aload_n dX6_search_149 rfl rfl ?_
            refine e_iload dX6_search_150 rfl ?_
            refine e_aload dX6_search_152 rfl ?_
            obtain ⟨k24, h9⟩ := chkP hN1 h9
            refine g_516 flX6_79 dX6_search_154 k24 ?_
            refine e_aload_n dX6_search_157 rfl rfl ?_
            refine g_605 flX6_28 dX6_search_158 ?_
            refine e_iload_n dX6_search_161 rfl rfl ?_
            obtain ⟨k25, h9⟩ := chkP hN1 h9
            refine l_605 dX6_search_162 (inb_in k25) ?_
            refine e_pc (pc' := 163) rfl ?_
            refine e_iconst (v := (-1)) dX6_search_163 rfl ?_
            obtain ⟨r26, hr26, h9⟩ := elimP hN1 h9
            refine x_callVv (c := 6) (As := [.int v7.1, .int (r22.1 516 p2.toNatClampNeg), .int (r22.2.1 605 0 p2.toNatClampNeg), .int (-1)]) (rest := []) okX6_use lkX6_86 rfl (by decide) rfl dX6_search_164 rfl rfl (Nat.le_of_ble_eq_true rfl) rfl (c_X6_use v7.1 (r22.1 516 p2.toNatClampNeg) (r22.2.1 605 0 p2.toNatClampNeg) (-1) hr26 (CV.mk ?_))
            refine e_iinc (v := (v7.1 + 1)) (L' := [some (.ref (ad 6 0)), some (.ref (ad 2102 0)), some (.int p2), some (.int p3), some (.ref (ad 5 p2.toNatClampNeg)), some (.int r6), some (.int (v7.1 + 1))]) dX6_search_167 rfl rfl (by decide) rfl ?_
            refine e_goto (tgt := 66) dX6_search_170 rfl ?_
            exact hB0_1 _ _ h9
        refine e_if_eq (tgt := 85) dX6_search_75 rfl (fun hc28 => ?_) (fun hc28 => ?_)
        · replace h9 := ifT hc28 h9
          exact hj85 h9
        · replace h9 := ifF hc28 h9
          refine e_iload dX6_search_78 rfl ?_
          refine e_iconst (v := 4) dX6_search_80 rfl ?_
          refine e_irem dX6_search_81 (by decide) ?_
          refine e_if_ne (tgt := 167) dX6_search_82 rfl (fun hc29 => ?_) (fun hc29 => ?_)
          · replace h9 := ifF hc29 h9
            refine e_iinc (v := (v7.1 + 1)) (L' := [some (.ref (ad 6 0)), some (.ref (ad 2102 0)), some (.int p2), some (.int p3), some (.ref (ad 5 p2.toNatClampNeg)), some (.int r6), some (.int (v7.1 + 1))]) dX6_search_167 rfl rfl (by decide) rfl ?_
            refine e_goto (tgt := 66) dX6_search_170 rfl ?_
            exact hB0_1 _ _ h9
          · replace h9 := ifT hc29 h9
            exact hj85 h9
    · replace h9 := ifF hc3 h9
      refine e_aload_n dX6_search_24 rfl rfl ?_
      refine e_iload_n dX6_search_25 rfl rfl ?_
      refine p_603 flX6_22 dX6_search_26 ?_
      refine e_aload_n dX6_search_29 rfl rfl ?_
      refine g_604 flX6_25 dX6_search_30 ?_
      refine e_iconst (v := 0) dX6_search_33 rfl ?_
      refine e_aload_n dX6_search_34 rfl rfl ?_
      refine g_600 flX6_9 dX6_search_35 ?_
      refine e_pc (pc' := 38) rfl ?_
      refine e_iconst (v := 0) dX6_search_38 rfl ?_
      refine e_aload_n dX6_search_39 rfl rfl ?_
      refine g_601 flX6_15 dX6_search_40 ?_
      obtain ⟨k30, h9⟩ := chkP hN0 h9
      obtain ⟨k31, h9⟩ := chkP hN0 h9
      refine x_cpi (c := 6) (k := 0) (c0 := 6) (k0 := 4) (by decide) (by decide) rfl rfl rfl rfl rfl rfl rfl rfl acX6_66 dX6_search_43 (Nat.le_of_ble_eq_true rfl) rfl rfl (spn_all k30).1 (spn_all k31).1 (spn_all k30).2.1 (spn_all k30).2.2 (spn_all k31).2.2 ?_
      exact x_vret dX6_search_46 rfl (hR0 _ h9)
  · replace h9 := ifF hc2 h9
    exact x_vret dX6_search_15 rfl (hR0 _ h9)
theorem c_X6_search {g : GG} {d : Nat} {ad : AD} {x m : VM} {Q : Option Value → VM → VM → Prop} (p2 : Int32) (p3 : Int32) {w9 : VM} (hf : f_X6_search 12 x p2 p3 = some w9) (hq : Q none w9 m) : CX g (d + 14) MX6_search [.ref (ad 6 0), .ref (ad 2102 0), .int p2, .int p3] ad x m Q := by
  have := cr_X6_search (g := g) (ad := ad) 12 d p2 p3 hf hq; rwa [show d + 12 + 2 = d + 14 by omega] at this
