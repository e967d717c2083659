def SIM (Inv : VM → VM → Prop) : Prop := S_person Inv ∧ S_row Inv ∧ S_set Inv ∧ S_copy Inv ∧ S_element Inv ∧ S_show Inv ∧ S_holds Inv ∧ S_kindIn Inv ∧ S_term Inv ∧ S_fault Inv ∧ S_law Inv ∧ S_counts Inv ∧ S_ill Inv ∧ S_refuse Inv ∧ S_recall Inv ∧ S_lend Inv ∧ S_picture Inv ∧ S_scene Inv ∧ S_mark Inv ∧ S_costs Inv ∧ S_best Inv ∧ S_bestScene Inv ∧ S_bound Inv ∧ S_judge Inv ∧ S_begin Inv ∧ S_retake Inv ∧ S_days Inv ∧ S_who Inv ∧ S_about Inv ∧ S_left Inv ∧ S_draft Inv ∧ S_credit Inv ∧ S_named Inv ∧ S_code Inv ∧ S_barred Inv ∧ S_mend Inv ∧ S_take Inv ∧ S_reel Inv ∧ S_reelTake Inv ∧ S_land Inv ∧ S_preview Inv ∧ S_putRight Inv ∧ S_hall Inv ∧ S_clearance Inv ∧ S_book Inv ∧ S_block Inv ∧ S_shown Inv ∧ S_takings Inv ∧ S_got Inv ∧ S_lot Inv ∧ S_worth Inv ∧ S_plan Inv ∧ S_planned Inv ∧ S_status Inv
theorem law_end {N i : Nat} (hN : N < 2 ^ 30) (hi : i < 2 ^ 30) : nI N - 6 < nI i ↔ N < i + 6 := by
  rw [Int32.lt_iff_toInt_lt]
  have h := pk_sub_toInt (a := N) (b := 6) hN (by decide)
  have e : (nI N - 6).toInt = (N : Int) - 6 := h
  rw [e, nI_toInt (by omega)]
  omega
section
variable {g : GG} {d : Nat} {Inv : VM → VM → Prop} {X Y : Nat} {K : Option Value → Heap → Prop}
theorem law_body (sim : SIM Inv) (hk : ∀ x m, Inv x m → KX x ∧ x.2.2.2 0 ≤ x.2.2.2 5) {ad : AD} {x m : VM} {n i : Nat} (hI : Inv x m) (hX : ad 11 0 = X) (hY : ad 12 0 = Y) (h6 : i + 6 ≤ gN g) (hN : gN g < 2 ^ 31)
    (next : ∀ ad' x' m', ad' 11 0 = X → ad' 12 0 = Y → Inv x' m' → Ev g (d + 30) ML_law (Rep g ad' x' m') (9 * n) (178 * n) 2154 [some (.ref (gb g)), some (.ref X), some (.ref Y), some (.int (nI i))] [] K) : Ev g (d + 30) ML_law (Rep g ad x m) (9 * (n + 1)) (178 * (n + 1)) 27 [some (.ref (gb g)), some (.ref X), some (.ref Y), some (.int (nI i))] [] K := by
  refine e_aload_n dL_law_27 rfl rfl ?_
  refine e_iload_n dL_law_28 rfl rfl ?_
  refine e_xaload dL_law_29 (nI_in (by omega) hN) ?_
  refine e_bipush (v := 63) dL_law_30 rfl ?_
  refine e_iand dL_law_32 ?_
  generalize gx g (nI i).toNatClampNeg &&& 63 = v
  by_cases ho : v.toInt < 0 ∨ 53 < v.toInt
  · refine e_tableOut (tgt := 2154) dL_law_33 ho rfl ?_
    exact e_more (by omega) (by omega) (next ad x m hX hY hI)
  have hv : v.toInt = 0 ∨ v.toInt = 1 ∨ v.toInt = 2 ∨ v.toInt = 3 ∨ v.toInt = 4 ∨ v.toInt = 5 ∨ v.toInt = 6 ∨ v.toInt = 7 ∨ v.toInt = 8 ∨ v.toInt = 9 ∨ v.toInt = 10 ∨ v.toInt = 11 ∨ v.toInt = 12 ∨ v.toInt = 13 ∨ v.toInt = 14 ∨ v.toInt = 15 ∨ v.toInt = 16 ∨ v.toInt = 17 ∨ v.toInt = 18 ∨ v.toInt = 19 ∨ v.toInt = 20 ∨ v.toInt = 21 ∨ v.toInt = 22 ∨ v.toInt = 23 ∨ v.toInt = 24 ∨ v.toInt = 25 ∨ v.toInt = 26 ∨ v.toInt = 27 ∨ v.toInt = 28 ∨ v.toInt = 29 ∨ v.toInt = 30 ∨ v.toInt = 31 ∨ v.toInt = 32 ∨ v.toInt = 33 ∨ v.toInt = 34 ∨ v.toInt = 35 ∨ v.toInt = 36 ∨ v.toInt = 37 ∨ v.toInt = 38 ∨ v.toInt = 39 ∨ v.toInt = 40 ∨ v.toInt = 41 ∨ v.toInt = 42 ∨ v.toInt = 43 ∨ v.toInt = 44 ∨ v.toInt = 45 ∨ v.toInt = 46 ∨ v.toInt = 47 ∨ v.toInt = 48 ∨ v.toInt = 49 ∨ v.toInt = 50 ∨ v.toInt = 51 ∨ v.toInt = 52 ∨ v.toInt = 53 := by omega
  obtain ⟨s0, s1, s2, s3, s4, s5, s6, s7, s8, s9, s10, s11, s12, s13, s14, s15, s16, s17, s18, s19, s20, s21, s22, s23, s24, s25, s26, s27, s28, s29, s30, s31, s32, s33, s34, s35, s36, s37, s38, s39, s40, s41, s42, s43, s44, s45, s46, s47, s48, s49, s50, s51, s52, s53⟩ := sim
  rcases hv with h | h | h | h | h | h | h | h | h | h | h | h | h | h | h | h | h | h | h | h | h | h | h | h | h | h | h | h | h | h | h | h | h | h | h | h | h | h | h | h | h | h | h | h | h | h | h | h | h | h | h | h | h | h
  · refine e_tableIn (tgt := 264) dL_law_33 (by rw [h]; decide) (by rw [h]; decide) (by rw [h]; rfl) rfl ?_
    exact e_more (by omega) (by omega) (l_0_person s0 hk hI hX hY h6 hN next)
  · refine e_tableIn (tgt := 287) dL_law_33 (by rw [h]; decide) (by rw [h]; decide) (by rw [h]; rfl) rfl ?_
    exact e_more (by omega) (by omega) (l_1_row s1 hI hX hY h6 hN next)
  · refine e_tableIn (tgt := 330) dL_law_33 (by rw [h]; decide) (by rw [h]; decide) (by rw [h]; rfl) rfl ?_
    exact e_more (by omega) (by omega) (l_2_set s2 hI hX hY h6 hN next)
  · refine e_tableIn (tgt := 403) dL_law_33 (by rw [h]; decide) (by rw [h]; decide) (by rw [h]; rfl) rfl ?_
    exact e_more (by omega) (by omega) (l_3_copy s3 hI hX hY h6 hN next)
  · refine e_tableIn (tgt := 466) dL_law_33 (by rw [h]; decide) (by rw [h]; decide) (by rw [h]; rfl) rfl ?_
    exact e_more (by omega) (by omega) (l_4_element s4 hI hX hY h6 hN next)
  · refine e_tableIn (tgt := 500) dL_law_33 (by rw [h]; decide) (by rw [h]; decide) (by rw [h]; rfl) rfl ?_
    exact e_more (by omega) (by omega) (l_5_show s5 hI hX hY h6 hN next)
  · refine e_tableIn (tgt := 533) dL_law_33 (by rw [h]; decide) (by rw [h]; decide) (by rw [h]; rfl) rfl ?_
    exact e_more (by omega) (by omega) (l_6_holds s6 hI hX hY h6 hN next)
  · refine e_tableIn (tgt := 556) dL_law_33 (by rw [h]; decide) (by rw [h]; decide) (by rw [h]; rfl) rfl ?_
    exact e_more (by omega) (by omega) (l_7_kindIn s7 hI hX hY h6 hN next)
  · refine e_tableIn (tgt := 589) dL_law_33 (by rw [h]; decide) (by rw [h]; decide) (by rw [h]; rfl) rfl ?_
    exact e_more (by omega) (by omega) (l_8_term s8 hI hX hY h6 hN next)
  · refine e_tableIn (tgt := 622) dL_law_33 (by rw [h]; decide) (by rw [h]; decide) (by rw [h]; rfl) rfl ?_
    exact e_more (by omega) (by omega) (l_9_fault s9 hI hX hY h6 hN next)
  · refine e_tableIn (tgt := 635) dL_law_33 (by rw [h]; decide) (by rw [h]; decide) (by rw [h]; rfl) rfl ?_
    exact e_more (by omega) (by omega) (l_10_law s10 hI hX hY h6 hN next)
  · refine e_tableIn (tgt := 668) dL_law_33 (by rw [h]; decide) (by rw [h]; decide) (by rw [h]; rfl) rfl ?_
    exact e_more (by omega) (by omega) (l_11_counts s11 hI hX hY h6 hN next)
  · refine e_tableIn (tgt := 711) dL_law_33 (by rw [h]; decide) (by rw [h]; decide) (by rw [h]; rfl) rfl ?_
    exact e_more (by omega) (by omega) (l_12_ill s12 hI hX hY h6 hN next)
  · refine e_tableIn (tgt := 744) dL_law_33 (by rw [h]; decide) (by rw [h]; decide) (by rw [h]; rfl) rfl ?_
    exact e_more (by omega) (by omega) (l_13_refuse s13 hI hX hY h6 hN next)
  · refine e_tableIn (tgt := 767) dL_law_33 (by rw [h]; decide) (by rw [h]; decide) (by rw [h]; rfl) rfl ?_
    exact e_more (by omega) (by omega) (l_14_recall s14 hI hX hY h6 hN next)
  · refine e_tableIn (tgt := 790) dL_law_33 (by rw [h]; decide) (by rw [h]; decide) (by rw [h]; rfl) rfl ?_
    exact e_more (by omega) (by omega) (l_15_lend s15 hI hX hY h6 hN next)
  · refine e_tableIn (tgt := 833) dL_law_33 (by rw [h]; decide) (by rw [h]; decide) (by rw [h]; rfl) rfl ?_
    exact e_more (by omega) (by omega) (l_16_picture s16 hk hI hX hY h6 hN next)
  · refine e_tableIn (tgt := 856) dL_law_33 (by rw [h]; decide) (by rw [h]; decide) (by rw [h]; rfl) rfl ?_
    exact e_more (by omega) (by omega) (l_17_scene s17 hk hI hX hY h6 hN next)
  · refine e_tableIn (tgt := 909) dL_law_33 (by rw [h]; decide) (by rw [h]; decide) (by rw [h]; rfl) rfl ?_
    exact e_more (by omega) (by omega) (l_18_mark s18 hI hX hY h6 hN next)
  · refine e_tableIn (tgt := 962) dL_law_33 (by rw [h]; decide) (by rw [h]; decide) (by rw [h]; rfl) rfl ?_
    exact e_more (by omega) (by omega) (l_19_costs s19 hI hX hY h6 hN next)
  · refine e_tableIn (tgt := 995) dL_law_33 (by rw [h]; decide) (by rw [h]; decide) (by rw [h]; rfl) rfl ?_
    exact e_more (by omega) (by omega) (l_20_best s20 hI hX hY h6 hN next)
  · refine e_tableIn (tgt := 1018) dL_law_33 (by rw [h]; decide) (by rw [h]; decide) (by rw [h]; rfl) rfl ?_
    exact e_more (by omega) (by omega) (l_21_bestScene s21 hI hX hY h6 hN next)
  · refine e_tableIn (tgt := 1051) dL_law_33 (by rw [h]; decide) (by rw [h]; decide) (by rw [h]; rfl) rfl ?_
    exact e_more (by omega) (by omega) (l_22_bound s22 hI hX hY h6 hN next)
  · refine e_tableIn (tgt := 1074) dL_law_33 (by rw [h]; decide) (by rw [h]; decide) (by rw [h]; rfl) rfl ?_
    exact e_more (by omega) (by omega) (l_23_judge s23 hI hX hY h6 hN next)
  · refine e_tableIn (tgt := 1107) dL_law_33 (by rw [h]; decide) (by rw [h]; decide) (by rw [h]; rfl) rfl ?_
    exact e_more (by omega) (by omega) (l_24_begin s24 hI hX hY h6 hN next)
  · refine e_tableIn (tgt := 1140) dL_law_33 (by rw [h]; decide) (by rw [h]; decide) (by rw [h]; rfl) rfl ?_
    exact e_more (by omega) (by omega) (l_25_retake s25 hI hX hY h6 hN next)
  · refine e_tableIn (tgt := 1173) dL_law_33 (by rw [h]; decide) (by rw [h]; decide) (by rw [h]; rfl) rfl ?_
    exact e_more (by omega) (by omega) (l_26_days s26 hI hX hY h6 hN next)
  · refine e_tableIn (tgt := 1196) dL_law_33 (by rw [h]; decide) (by rw [h]; decide) (by rw [h]; rfl) rfl ?_
    exact e_more (by omega) (by omega) (l_27_who s27 hI hX hY h6 hN next)
  · refine e_tableIn (tgt := 1229) dL_law_33 (by rw [h]; decide) (by rw [h]; decide) (by rw [h]; rfl) rfl ?_
    exact e_more (by omega) (by omega) (l_28_about s28 hI hX hY h6 hN next)
  · refine e_tableIn (tgt := 1262) dL_law_33 (by rw [h]; decide) (by rw [h]; decide) (by rw [h]; rfl) rfl ?_
    exact e_more (by omega) (by omega) (l_29_left s29 hI hX hY h6 hN next)
  · refine e_tableIn (tgt := 1295) dL_law_33 (by rw [h]; decide) (by rw [h]; decide) (by rw [h]; rfl) rfl ?_
    exact e_more (by omega) (by omega) (l_30_draft s30 hI hX hY h6 hN next)
  · refine e_tableIn (tgt := 1338) dL_law_33 (by rw [h]; decide) (by rw [h]; decide) (by rw [h]; rfl) rfl ?_
    exact e_more (by omega) (by omega) (l_31_credit s31 hI hX hY h6 hN next)
  · refine e_tableIn (tgt := 1371) dL_law_33 (by rw [h]; decide) (by rw [h]; decide) (by rw [h]; rfl) rfl ?_
    exact e_more (by omega) (by omega) (l_32_named s32 hI hX hY h6 hN next)
  · refine e_tableIn (tgt := 1394) dL_law_33 (by rw [h]; decide) (by rw [h]; decide) (by rw [h]; rfl) rfl ?_
    exact e_more (by omega) (by omega) (l_33_code s33 hI hX hY h6 hN next)
  · refine e_tableIn (tgt := 1427) dL_law_33 (by rw [h]; decide) (by rw [h]; decide) (by rw [h]; rfl) rfl ?_
    exact e_more (by omega) (by omega) (l_34_barred s34 hI hX hY h6 hN next)
  · refine e_tableIn (tgt := 1460) dL_law_33 (by rw [h]; decide) (by rw [h]; decide) (by rw [h]; rfl) rfl ?_
    exact e_more (by omega) (by omega) (l_35_mend s35 hI hX hY h6 hN next)
  · refine e_tableIn (tgt := 1483) dL_law_33 (by rw [h]; decide) (by rw [h]; decide) (by rw [h]; rfl) rfl ?_
    exact e_more (by omega) (by omega) (l_36_take s36 hI hX hY h6 hN next)
  · refine e_tableIn (tgt := 1546) dL_law_33 (by rw [h]; decide) (by rw [h]; decide) (by rw [h]; rfl) rfl ?_
    exact e_more (by omega) (by omega) (l_37_reel s37 hI hX hY h6 hN next)
  · refine e_tableIn (tgt := 1579) dL_law_33 (by rw [h]; decide) (by rw [h]; decide) (by rw [h]; rfl) rfl ?_
    exact e_more (by omega) (by omega) (l_38_reelTake s38 hI hX hY h6 hN next)
  · refine e_tableIn (tgt := 1612) dL_law_33 (by rw [h]; decide) (by rw [h]; decide) (by rw [h]; rfl) rfl ?_
    exact e_more (by omega) (by omega) (l_39_land s39 hI hX hY h6 hN next)
  · refine e_tableIn (tgt := 1645) dL_law_33 (by rw [h]; decide) (by rw [h]; decide) (by rw [h]; rfl) rfl ?_
    exact e_more (by omega) (by omega) (l_40_preview s40 hI hX hY h6 hN next)
  · refine e_tableIn (tgt := 1698) dL_law_33 (by rw [h]; decide) (by rw [h]; decide) (by rw [h]; rfl) rfl ?_
    by_cases hb : gx g (nI i + 2).toNatClampNeg = 0
    · exact e_more (by omega) (by omega) (l_41t_putRight s41 hb hI hX hY h6 hN next)
    · exact e_more (by omega) (by omega) (l_41f_putRight s41 hb hI hX hY h6 hN next)
  · refine e_tableIn (tgt := 1748) dL_law_33 (by rw [h]; decide) (by rw [h]; decide) (by rw [h]; rfl) rfl ?_
    exact e_more (by omega) (by omega) (l_42_hall s42 hk hI hX hY h6 hN next)
  · refine e_tableIn (tgt := 1791) dL_law_33 (by rw [h]; decide) (by rw [h]; decide) (by rw [h]; rfl) rfl ?_
    exact e_more (by omega) (by omega) (l_43_clearance s43 hI hX hY h6 hN next)
  · refine e_tableIn (tgt := 1814) dL_law_33 (by rw [h]; decide) (by rw [h]; decide) (by rw [h]; rfl) rfl ?_
    exact e_more (by omega) (by omega) (l_44_book s44 hI hX hY h6 hN next)
  · refine e_tableIn (tgt := 1857) dL_law_33 (by rw [h]; decide) (by rw [h]; decide) (by rw [h]; rfl) rfl ?_
    exact e_more (by omega) (by omega) (l_45_block s45 hI hX hY h6 hN next)
  · refine e_tableIn (tgt := 1900) dL_law_33 (by rw [h]; decide) (by rw [h]; decide) (by rw [h]; rfl) rfl ?_
    exact e_more (by omega) (by omega) (l_46_shown s46 hI hX hY h6 hN next)
  · refine e_tableIn (tgt := 1933) dL_law_33 (by rw [h]; decide) (by rw [h]; decide) (by rw [h]; rfl) rfl ?_
    exact e_more (by omega) (by omega) (l_47_takings s47 hI hX hY h6 hN next)
  · refine e_tableIn (tgt := 1976) dL_law_33 (by rw [h]; decide) (by rw [h]; decide) (by rw [h]; rfl) rfl ?_
    exact e_more (by omega) (by omega) (l_48_got s48 hI hX hY h6 hN next)
  · refine e_tableIn (tgt := 2009) dL_law_33 (by rw [h]; decide) (by rw [h]; decide) (by rw [h]; rfl) rfl ?_
    exact e_more (by omega) (by omega) (l_49_lot s49 hI hX hY h6 hN next)
  · refine e_tableIn (tgt := 2042) dL_law_33 (by rw [h]; decide) (by rw [h]; decide) (by rw [h]; rfl) rfl ?_
    exact e_more (by omega) (by omega) (l_50_worth s50 hI hX hY h6 hN next)
  · refine e_tableIn (tgt := 2085) dL_law_33 (by rw [h]; decide) (by rw [h]; decide) (by rw [h]; rfl) rfl ?_
    exact e_more (by omega) (by omega) (l_51_plan s51 hI hX hY h6 hN next)
  · refine e_tableIn (tgt := 2108) dL_law_33 (by rw [h]; decide) (by rw [h]; decide) (by rw [h]; rfl) rfl ?_
    exact e_more (by omega) (by omega) (l_52_planned s52 hI hX hY h6 hN next)
  · refine e_tableIn (tgt := 2131) dL_law_33 (by rw [h]; decide) (by rw [h]; decide) (by rw [h]; rfl) rfl ?_
    exact e_more (by omega) (by omega) (l_53_status s53 hI hX hY h6 hN next)
theorem law_loop (sim : SIM Inv) (hk : ∀ x m, Inv x m → KX x ∧ x.2.2.2 0 ≤ x.2.2.2 5) (hN : gN g < 2 ^ 29) (hq : ∀ H, K (some (.int 1)) H) : ∀ (n i : Nat) (ad : AD) (x m : VM), i < 2 ^ 29 → gN g < i + 6 * n + 6 → Inv x m → ad 11 0 = X → ad 12 0 = Y → Ev g (d + 30) ML_law (Rep g ad x m) (9 * n) (178 * n) 18 [some (.ref (gb g)), some (.ref X), some (.ref Y), some (.int (nI i))] [] K := by
  intro n
  induction n with
  | zero =>
    intro i ad x m hi hn hI hX hY
    refine e_iload_n dL_law_18 rfl rfl ?_
    refine e_aload_n dL_law_19 rfl rfl ?_
    refine e_xlength dL_law_20 ?_
    refine e_bipush (v := 6) dL_law_21 rfl ?_
    refine e_isub dL_law_23 ?_
    refine e_icmp_gt (tgt := 2160) dL_law_24 rfl (fun h => ?_) (fun h => absurd ((law_end (by omega) (by omega)).mpr (by omega)) h)
    refine e_iconst (v := 1) dL_law_2160 rfl ?_
    exact e_ireturn dL_law_2161 rfl rfl (fun H _ => hq H)
  | succ n ih =>
    intro i ad x m hi hn hI hX hY
    refine e_iload_n dL_law_18 rfl rfl ?_
    refine e_aload_n dL_law_19 rfl rfl ?_
    refine e_xlength dL_law_20 ?_
    refine e_bipush (v := 6) dL_law_21 rfl ?_
    refine e_isub dL_law_23 ?_
    refine e_icmp_gt (tgt := 2160) dL_law_24 rfl (fun h => ?_) (fun h => ?_)
    · refine e_iconst (v := 1) dL_law_2160 rfl ?_
      exact e_ireturn dL_law_2161 rfl rfl (fun H _ => hq H)
    · have h6 : i + 6 ≤ gN g := by
        have := mt (law_end (N := gN g) (i := i) (by omega) (by omega)).mpr h
        omega
      refine law_body sim hk hI hX hY h6 (by omega) (fun ad' x' m' hX' hY' hI' => ?_)
      refine e_iinc (v := nI (i + 6)) (L' := [some (.ref (gb g)), some (.ref X), some (.ref Y), some (.int (nI (i + 6)))]) dL_law_2154 rfl (nI_add i 6) (by decide) rfl ?_
      refine e_goto (tgt := 18) dL_law_2157 rfl ?_
      exact ih (i + 6) ad' x' m' (by omega) (by omega) hI' hX' hY'
theorem law_all (sim : SIM Inv) (hk : ∀ x m, Inv x m → KX x ∧ x.2.2.2 0 ≤ x.2.2.2 5) (h0 : Inv x0 m0) (hN : gN g ≤ 3072) {P : Heap → Prop} (hq : ∀ H, K (some (.int 1)) H) : Ev g (d + 30) ML_law P 4733 106955 0 [some (.ref (gb g)), none, none, none] [] K := by
  refine y_new (c := 11) (n := 19) (kc := 4732) (ks := 106936) rfl rfl clL_7 itX11 iniX11 dL_law_0 rfl rfl (fun n0 => ?_)
  refine e_dup dL_law_3 rfl ?_
  refine k_init (As := []) (rest := [.ref (n0 + 0)]) (mc := 47) (ms := 6799) (kc := 4685) (ks := 100137) (bs' := z11 n0) okX11_init lkL_9 rfl rfl dL_law_4 rfl rfl (Nat.le_of_ble_eq_true rfl) rfl rfl (i_X11 (d := d + 27)) ?_
  refine e_astore_n (L' := [some (.ref (gb g)), some (.ref (n0 + 0)), none, none]) dL_law_7 rfl (by decide) rfl ?_
  refine k_new (n := 88) (b := 48) (c := 12) (kc := 4684) (ks := 100049) rfl rfl clL_10 itX12 iniX12 dL_law_8 rfl rfl rfl ?_
  refine e_dup dL_law_11 rfl ?_
  refine k_initP (As := []) (rest := [.ref (n0 + 48)]) (b := 48) (mc := 76) (ms := 8913) (kc := 4608) (ks := 91136) (bs := z11 n0) (ys := z12 (n0 + 48)) okX12_init lkL_12 rfl rfl dL_law_12 rfl rfl (Nat.le_of_ble_eq_true rfl) rfl rfl rfl (i_X12 (d := d + 28)) ?_
  refine e_pre (fun H h => rep0 h) ?_
  refine e_pc (pc' := 15) rfl ?_
  refine e_astore_n (L' := [some (.ref (gb g)), some (.ref (n0 + 0)), some (.ref (n0 + 48)), none]) dL_law_15 rfl (by decide) rfl ?_
  refine e_iconst (v := 0) dL_law_16 rfl ?_
  refine e_istore_n (L' := [some (.ref (gb g)), some (.ref (n0 + 0)), some (.ref (n0 + 48)), some (.int (nI 0))]) dL_law_17 rfl (by decide) rfl ?_
  exact law_loop sim hk (by omega) hq 512 0 (ad0 n0) x0 m0 (by decide) (by omega) h0 rfl rfl
end
