def r_X11_refused (x : VM) (p1 : Int32) : Int32 × VM := if p1 < (-7) then (p1, x) else if (-1) < p1 then (p1, x) else (p1, setA x 1112 0 (upd (x.2.1 1112 0) (((-p1) - 1).toNatClampNeg) ((x.2.1 1112 0 (((-p1) - 1).toNatClampNeg)) + 1)))
theorem c_X11_refused {g : GG} {d : Nat} {ad : AD} {x m : VM} {Q : Option Value → VM → VM → Prop} (p1 : Int32) (hq : Q (some (.int (r_X11_refused x p1).1)) (r_X11_refused x p1).2 m) : CX g d MX11_refused [.ref (ad 11 0), .int p1] ad x m Q := by
  refine CX.to (Lv := [some (.ref (ad 11 0)), some (.int p1)]) okX11_refused (Nat.le_of_ble_eq_true rfl) rfl ?_
  refine e_iload_n dX11_refused_0 rfl rfl ?_
  refine e_bipush (v := (-7)) dX11_refused_1 rfl ?_
  refine e_icmp_lt (tgt := 24) dX11_refused_3 rfl (fun h1 => ?_) (fun h1 => ?_)
  · refine e_iload_n dX11_refused_24 rfl rfl ?_
    exact x_iret dX11_refused_25 rfl (lfx (by unfold r_X11_refused; rw [if_pos h1]) hq)
  · refine e_iload_n dX11_refused_6 rfl rfl ?_
    refine e_iconst (v := (-1)) dX11_refused_7 rfl ?_
    refine e_icmp_gt (tgt := 24) dX11_refused_8 rfl (fun h2 => ?_) (fun h2 => ?_)
    · refine e_iload_n dX11_refused_24 rfl rfl ?_
      exact x_iret dX11_refused_25 rfl (lfx (by unfold r_X11_refused; rw [if_neg h1, if_pos h2]) hq)
    · refine e_aload_n dX11_refused_11 rfl rfl ?_
      refine g_1112 flX11_82 dX11_refused_12 ?_
      refine e_iload_n dX11_refused_15 rfl rfl ?_
      refine e_ineg dX11_refused_16 ?_
      refine e_iconst (v := 1) dX11_refused_17 rfl ?_
      refine e_isub dX11_refused_18 ?_
      refine e_dup2_11 dX11_refused_19 rfl rfl ?_
      refine l_1112 dX11_refused_20 (in_ref h1 h2) ?_
      refine e_pc (pc' := 21) rfl ?_
      refine e_iconst (v := 1) dX11_refused_21 rfl ?_
      refine e_iadd dX11_refused_22 ?_
      refine s_1112 dX11_refused_23 (in_ref h1 h2) ?_
      refine e_iload_n dX11_refused_24 rfl rfl ?_
      exact x_iret dX11_refused_25 rfl (lfx (by unfold r_X11_refused; rw [if_neg h1, if_neg h2]) hq)
theorem c_X11_shelfAt {g : GG} {d : Nat} {ad : AD} {x m : VM} {Q : Option Value → VM → VM → Prop} (p1 : Int32) (hq0 : p1 < 0 → Q (some (.null)) x m) (hq1 : ¬ (p1 < 0) → p1 < 8 → Q (some (.ref (ad 9 p1.toNatClampNeg))) x m) (hq2 : ¬ (p1 < 0) → ¬ (p1 < 8) → Q (some (.null)) x m) : CX g d MX11_shelfAt [.ref (ad 11 0), .int p1] ad x m Q := by
  refine CX.to (Lv := [some (.ref (ad 11 0)), some (.int p1)]) okX11_shelfAt (Nat.le_of_ble_eq_true rfl) rfl ?_
  refine e_iload_n dX11_shelfAt_0 rfl rfl ?_
  refine e_if_lt (tgt := 10) dX11_shelfAt_1 rfl (fun h1 => ?_) (fun h1 => ?_)
  · refine e_null dX11_shelfAt_10 ?_
    refine e_goto (tgt := 20) dX11_shelfAt_11 rfl ?_
    exact x_aretN dX11_shelfAt_20 rfl (hq0 h1)
  · refine e_iload_n dX11_shelfAt_4 rfl rfl ?_
    refine e_bipush (v := 8) dX11_shelfAt_5 rfl ?_
    refine e_icmp_lt (tgt := 14) dX11_shelfAt_7 rfl (fun h2 => ?_) (fun h2 => ?_)
    · refine e_aload_n dX11_shelfAt_14 rfl rfl ?_
      refine g_1100 flX11_11 dX11_shelfAt_15 ?_
      refine e_iload_n dX11_shelfAt_18 rfl rfl ?_
      refine l_1100 dX11_shelfAt_19 (in_ge (c := 8) h1 (lt_nle h2) (by decide)) ?_
      refine e_top (v := .ref (ad 9 p1.toNatClampNeg)) rfl ?_
      exact x_aret dX11_shelfAt_20 rfl (hq1 h1 h2)
    · refine e_null dX11_shelfAt_10 ?_
      refine e_goto (tgt := 20) dX11_shelfAt_11 rfl ?_
      exact x_aretN dX11_shelfAt_20 rfl (hq2 h1 h2)
theorem c_X11_personAt {g : GG} {d : Nat} {ad : AD} {x m : VM} {Q : Option Value → VM → VM → Prop} (p1 : Int32) (hK : KX x) (hq0 : p1 < 0 → Q (some (.null)) x m) (hq1 : ¬ (p1 < 0) → p1 < (x.1 1113 0) → Q (some (.ref (ad 4 p1.toNatClampNeg))) x m) (hq2 : ¬ (p1 < 0) → ¬ (p1 < (x.1 1113 0)) → Q (some (.null)) x m) : CX g d MX11_personAt [.ref (ad 11 0), .int p1] ad x m Q := by
  refine CX.to (Lv := [some (.ref (ad 11 0)), some (.int p1)]) okX11_personAt (Nat.le_of_ble_eq_true rfl) rfl ?_
  refine e_iload_n dX11_personAt_0 rfl rfl ?_
  refine e_if_lt (tgt := 12) dX11_personAt_1 rfl (fun h1 => ?_) (fun h1 => ?_)
  · refine e_null dX11_personAt_12 ?_
    refine e_goto (tgt := 22) dX11_personAt_13 rfl ?_
    exact x_aretN dX11_personAt_22 rfl (hq0 h1)
  · refine e_iload_n dX11_personAt_4 rfl rfl ?_
    refine e_aload_n dX11_personAt_5 rfl rfl ?_
    refine g_1113 flX11_85 dX11_personAt_6 ?_
    refine e_icmp_lt (tgt := 16) dX11_personAt_9 rfl (fun h2 => ?_) (fun h2 => ?_)
    · refine e_aload_n dX11_personAt_16 rfl rfl ?_
      refine g_1101 flX11_17 dX11_personAt_17 ?_
      refine e_iload_n dX11_personAt_20 rfl rfl ?_
      refine l_1101 dX11_personAt_21 (kx_4i hK h1 h2) ?_
      rw [if_pos (kx_4 hK h1 h2)]
      refine e_top (v := .ref (ad 4 p1.toNatClampNeg)) rfl ?_
      exact x_aret dX11_personAt_22 rfl (hq1 h1 h2)
    · refine e_null dX11_personAt_12 ?_
      refine e_goto (tgt := 22) dX11_personAt_13 rfl ?_
      exact x_aretN dX11_personAt_22 rfl (hq2 h1 h2)
theorem c_X11_pictureAt {g : GG} {d : Nat} {ad : AD} {x m : VM} {Q : Option Value → VM → VM → Prop} (p1 : Int32) (hK : KX x) (hq0 : p1 < 0 → Q (some (.null)) x m) (hq1 : ¬ (p1 < 0) → p1 < (x.1 1114 0) → Q (some (.ref (ad 5 p1.toNatClampNeg))) x m) (hq2 : ¬ (p1 < 0) → ¬ (p1 < (x.1 1114 0)) → Q (some (.null)) x m) : CX g d MX11_pictureAt [.ref (ad 11 0), .int p1] ad x m Q := by
  refine CX.to (Lv := [some (.ref (ad 11 0)), some (.int p1)]) okX11_pictureAt (Nat.le_of_ble_eq_true rfl) rfl ?_
  refine e_iload_n dX11_pictureAt_0 rfl rfl ?_
  refine e_if_lt (tgt := 12) dX11_pictureAt_1 rfl (fun h1 => ?_) (fun h1 => ?_)
  · refine e_null dX11_pictureAt_12 ?_
    refine e_goto (tgt := 22) dX11_pictureAt_13 rfl ?_
    exact x_aretN dX11_pictureAt_22 rfl (hq0 h1)
  · refine e_iload_n dX11_pictureAt_4 rfl rfl ?_
    refine e_aload_n dX11_pictureAt_5 rfl rfl ?_
    refine g_1114 flX11_89 dX11_pictureAt_6 ?_
    refine e_icmp_lt (tgt := 16) dX11_pictureAt_9 rfl (fun h2 => ?_) (fun h2 => ?_)
    · refine e_aload_n dX11_pictureAt_16 rfl rfl ?_
      refine g_1102 flX11_23 dX11_pictureAt_17 ?_
      refine e_iload_n dX11_pictureAt_20 rfl rfl ?_
      refine l_1102 dX11_pictureAt_21 (kx_5i hK h1 h2) ?_
      rw [if_pos (kx_5 hK h1 h2)]
      refine e_top (v := .ref (ad 5 p1.toNatClampNeg)) rfl ?_
      exact x_aret dX11_pictureAt_22 rfl (hq1 h1 h2)
    · refine e_null dX11_pictureAt_12 ?_
      refine e_goto (tgt := 22) dX11_pictureAt_13 rfl ?_
      exact x_aretN dX11_pictureAt_22 rfl (hq2 h1 h2)
theorem c_X11_hallAt {g : GG} {d : Nat} {ad : AD} {x m : VM} {Q : Option Value → VM → VM → Prop} (p1 : Int32) (hK : KX x) (hq0 : p1 < 0 → Q (some (.null)) x m) (hq1 : ¬ (p1 < 0) → p1 < (x.1 1115 0) → Q (some (.ref (ad 1 p1.toNatClampNeg))) x m) (hq2 : ¬ (p1 < 0) → ¬ (p1 < (x.1 1115 0)) → Q (some (.null)) x m) : CX g d MX11_hallAt [.ref (ad 11 0), .int p1] ad x m Q := by
  refine CX.to (Lv := [some (.ref (ad 11 0)), some (.int p1)]) okX11_hallAt (Nat.le_of_ble_eq_true rfl) rfl ?_
  refine e_iload_n dX11_hallAt_0 rfl rfl ?_
  refine e_if_lt (tgt := 12) dX11_hallAt_1 rfl (fun h1 => ?_) (fun h1 => ?_)
  · refine e_null dX11_hallAt_12 ?_
    refine e_goto (tgt := 22) dX11_hallAt_13 rfl ?_
    exact x_aretN dX11_hallAt_22 rfl (hq0 h1)
  · refine e_iload_n dX11_hallAt_4 rfl rfl ?_
    refine e_aload_n dX11_hallAt_5 rfl rfl ?_
    refine g_1115 flX11_92 dX11_hallAt_6 ?_
    refine e_icmp_lt (tgt := 16) dX11_hallAt_9 rfl (fun h2 => ?_) (fun h2 => ?_)
    · refine e_aload_n dX11_hallAt_16 rfl rfl ?_
      refine g_1103 flX11_29 dX11_hallAt_17 ?_
      refine e_iload_n dX11_hallAt_20 rfl rfl ?_
      refine l_1103 dX11_hallAt_21 (kx_1i hK h1 h2) ?_
      rw [if_pos (kx_1 hK h1 h2)]
      refine e_top (v := .ref (ad 1 p1.toNatClampNeg)) rfl ?_
      exact x_aret dX11_hallAt_22 rfl (hq1 h1 h2)
    · refine e_null dX11_hallAt_12 ?_
      refine e_goto (tgt := 22) dX11_hallAt_13 rfl ?_
      exact x_aretN dX11_hallAt_22 rfl (hq2 h1 h2)
theorem c_X11_sceneAt {g : GG} {d : Nat} {ad : AD} {x m : VM} {Q : Option Value → VM → VM → Prop} (p1 : Int32) (p2 : Int32) (hK : KX x) (hq0 : p1 < 0 → Q (some (.null)) x m) (hq1 : ¬ (p1 < 0) → p1 < (x.1 1114 0) → p2 < 0 → Q (some (.null)) x m) (hq2 : ¬ (p1 < 0) → p1 < (x.1 1114 0) → ¬ (p2 < 0) → p2 < (x.1 502 p1.toNatClampNeg) → Q (some (.ref (ad 8 (8 * p1.toNatClampNeg + p2.toNatClampNeg)))) x m) (hq3 : ¬ (p1 < 0) → p1 < (x.1 1114 0) → ¬ (p2 < 0) → ¬ (p2 < (x.1 502 p1.toNatClampNeg)) → Q (some (.null)) x m) (hq4 : ¬ (p1 < 0) → ¬ (p1 < (x.1 1114 0)) → Q (some (.null)) x m) : CX g (d + 1) MX11_sceneAt [.ref (ad 11 0), .int p1, .int p2] ad x m Q := by
  refine CX.to (Lv := [some (.ref (ad 11 0)), some (.int p1), some (.int p2), none]) okX11_sceneAt (Nat.le_of_ble_eq_true rfl) rfl ?_
  refine e_aload_n dX11_sceneAt_0 rfl rfl ?_
  refine e_iload_n dX11_sceneAt_1 rfl rfl ?_
  refine x_callVi (c := 11) (As := [.int p1]) (rest := []) okX11_pictureAt lkX11_164 rfl (by decide) rfl dX11_sceneAt_2 rfl rfl (by decide) rfl (c_X11_pictureAt p1 (by assumption) (fun h1 => CI.mk ?_) (fun h2 h3 => CI.mk ?_) (fun h4 h5 => CI.mk ?_))
  · refine e_astore_nN (L' := [some (.ref (ad 11 0)), some (.int p1), some (.int p2), some (.null)]) dX11_sceneAt_5 rfl (by decide) rfl ?_
    refine e_aload_nN dX11_sceneAt_6 rfl rfl ?_
    refine e_ifnullN (tgt := 22) dX11_sceneAt_7 rfl ?_
    refine e_null dX11_sceneAt_22 ?_
    refine e_goto (tgt := 32) dX11_sceneAt_23 rfl ?_
    exact x_aretN dX11_sceneAt_32 rfl (hq0 h1)
  · refine e_astore_n (L' := [some (.ref (ad 11 0)), some (.int p1), some (.int p2), some (.ref (ad 5 p1.toNatClampNeg))]) dX11_sceneAt_5 rfl (by decide) rfl ?_
    refine e_aload_n dX11_sceneAt_6 rfl rfl ?_
    refine e_ifnull dX11_sceneAt_7 ?_
    refine e_iload_n dX11_sceneAt_10 rfl rfl ?_
    refine e_if_lt (tgt := 22) dX11_sceneAt_11 rfl (fun h6 => ?_) (fun h6 => ?_)
    · refine e_null dX11_sceneAt_22 ?_
      refine e_goto (tgt := 32) dX11_sceneAt_23 rfl ?_
      exact x_aretN dX11_sceneAt_32 rfl (hq1 h2 h3 h6)
    · refine e_iload_n dX11_sceneAt_14 rfl rfl ?_
      refine e_aload_n dX11_sceneAt_15 rfl rfl ?_
      refine g_502 flX11_238 dX11_sceneAt_16 (kx_5 hK h2 h3) ?_
      refine e_icmp_lt (tgt := 26) dX11_sceneAt_19 rfl (fun h7 => ?_) (fun h7 => ?_)
      · refine e_aload_n dX11_sceneAt_26 rfl rfl ?_
        refine g_501 flX11_244 dX11_sceneAt_27 (kx_5 hK h2 h3) ?_
        refine e_iload_n dX11_sceneAt_30 rfl rfl ?_
        refine l_501 dX11_sceneAt_31 (kx_5 hK h2 h3) (kx_si hK (kx_5 hK h2 h3) h6 h7) ?_
        rw [if_pos (kx_s hK (kx_5 hK h2 h3) h6 h7)]
        refine e_top (v := .ref (ad 8 (8 * p1.toNatClampNeg + p2.toNatClampNeg))) rfl ?_
        exact x_aret dX11_sceneAt_32 rfl (hq2 h2 h3 h6 h7)
      · refine e_null dX11_sceneAt_22 ?_
        refine e_goto (tgt := 32) dX11_sceneAt_23 rfl ?_
        exact x_aretN dX11_sceneAt_32 rfl (hq3 h2 h3 h6 h7)
  · refine e_astore_nN (L' := [some (.ref (ad 11 0)), some (.int p1), some (.int p2), some (.null)]) dX11_sceneAt_5 rfl (by decide) rfl ?_
    refine e_aload_nN dX11_sceneAt_6 rfl rfl ?_
    refine e_ifnullN (tgt := 22) dX11_sceneAt_7 rfl ?_
    refine e_null dX11_sceneAt_22 ?_
    refine e_goto (tgt := 32) dX11_sceneAt_23 rfl ?_
    exact x_aretN dX11_sceneAt_32 rfl (hq4 h4 h5)
def r_X9_lackOfRow (x : VM) (i : Nat) : Int32 := if (x.1 901 i) = (-1) then if (x.1 903 i) = (-1) then (-3) else (-2) else 0
theorem c_X9_lackOfRow {g : GG} {d : Nat} {ad : AD} {x m : VM} {Q : Option Value → VM → VM → Prop} (i : Nat) (hl_i : i < 8) (hq : Q (some (.int (r_X9_lackOfRow x i))) x m) : CX g d MX9_lackOfRow [.ref (ad 9 i)] ad x m Q := by
  refine CX.to (Lv := [some (.ref (ad 9 i))]) okX9_lackOfRow (Nat.le_of_ble_eq_true rfl) rfl ?_
  refine e_aload_n dX9_lackOfRow_0 rfl rfl ?_
  refine g_901 flX9_15 dX9_lackOfRow_1 hl_i ?_
  refine e_iconst (v := (-1)) dX9_lackOfRow_4 rfl ?_
  refine e_icmp_eq (tgt := 10) dX9_lackOfRow_5 rfl (fun h1 => ?_) (fun h1 => ?_)
  · refine e_aload_n dX9_lackOfRow_10 rfl rfl ?_
    refine g_903 flX9_22 dX9_lackOfRow_11 hl_i ?_
    refine e_iconst (v := (-1)) dX9_lackOfRow_14 rfl ?_
    refine e_icmp_eq (tgt := 23) dX9_lackOfRow_15 rfl (fun h2 => ?_) (fun h2 => ?_)
    · refine e_bipush (v := (-3)) dX9_lackOfRow_23 rfl ?_
      exact x_iret dX9_lackOfRow_25 rfl (lfi (by unfold r_X9_lackOfRow; rw [if_pos h1, if_pos h2]) hq)
    · refine e_bipush (v := (-2)) dX9_lackOfRow_18 rfl ?_
      refine e_goto (tgt := 25) dX9_lackOfRow_20 rfl ?_
      exact x_iret dX9_lackOfRow_25 rfl (lfi (by unfold r_X9_lackOfRow; rw [if_pos h1, if_neg h2]) hq)
  · refine e_iconst (v := 0) dX9_lackOfRow_8 rfl ?_
    exact x_iret dX9_lackOfRow_9 rfl (lfi (by unfold r_X9_lackOfRow; rw [if_neg h1]) hq)
def r_X9_becomePicture (x : VM) (i : Nat) (p1 : Int32) : VM := setI (setI (setI x 901 i (-1)) 902 i 0) 903 i p1
theorem c_X9_becomePicture {g : GG} {d : Nat} {ad : AD} {x m : VM} {Q : Option Value → VM → VM → Prop} (i : Nat) (p1 : Int32) (hl_i : i < 8) (hq : Q none (r_X9_becomePicture x i p1) m) : CX g d MX9_becomePicture [.ref (ad 9 i), .int p1] ad x m Q := by
  refine CX.to (Lv := [some (.ref (ad 9 i)), some (.int p1)]) okX9_becomePicture (Nat.le_of_ble_eq_true rfl) rfl ?_
  refine e_aload_n dX9_becomePicture_0 rfl rfl ?_
  refine e_iconst (v := (-1)) dX9_becomePicture_1 rfl ?_
  refine p_901 flX9_15 dX9_becomePicture_2 hl_i ?_
  refine e_aload_n dX9_becomePicture_5 rfl rfl ?_
  refine e_iconst (v := 0) dX9_becomePicture_6 rfl ?_
  refine p_902 flX9_19 dX9_becomePicture_7 hl_i ?_
  refine e_aload_n dX9_becomePicture_10 rfl rfl ?_
  refine e_iload_n dX9_becomePicture_11 rfl rfl ?_
  refine e_pc (pc' := 12) rfl ?_
  refine p_903 flX9_22 dX9_becomePicture_12 hl_i ?_
  exact x_vret dX9_becomePicture_15 rfl hq
def r_X9_hasSpan (x : VM) (i : Nat) (p1 : Int32) (p2 : Int32) : Int32 := if p1 < 0 then 0 else if 0 < (lg_cmp (p1.toInt64 + p2.toInt64) ((x.1 902 i).toInt64)) then 0 else 1
theorem c_X9_hasSpan {g : GG} {d : Nat} {ad : AD} {x m : VM} {Q : Option Value → VM → VM → Prop} (i : Nat) (p1 : Int32) (p2 : Int32) (hl_i : i < 8) (hq : Q (some (.int (r_X9_hasSpan x i p1 p2))) x m) : CX g d MX9_hasSpan [.ref (ad 9 i), .int p1, .int p2] ad x m Q := by
  refine CX.to (Lv := [some (.ref (ad 9 i)), some (.int p1), some (.int p2)]) okX9_hasSpan (Nat.le_of_ble_eq_true rfl) rfl ?_
  refine e_iload_n dX9_hasSpan_0 rfl rfl ?_
  refine e_if_lt (tgt := 22) dX9_hasSpan_1 rfl (fun h1 => ?_) (fun h1 => ?_)
  · refine e_iconst (v := 0) dX9_hasSpan_22 rfl ?_
    exact x_zret dX9_hasSpan_23 rfl (by decide) (lfi (by unfold r_X9_hasSpan; rw [if_pos h1]) hq)
  · refine e_iload_n dX9_hasSpan_4 rfl rfl ?_
    refine e_i2l dX9_hasSpan_5 rfl ?_
    refine e_iload_n dX9_hasSpan_6 rfl rfl ?_
    refine e_i2l dX9_hasSpan_7 rfl ?_
    refine e_ladd dX9_hasSpan_8 ?_
    refine e_aload_n dX9_hasSpan_9 rfl rfl ?_
    refine g_902 flX9_19 dX9_hasSpan_10 hl_i ?_
    refine e_i2l dX9_hasSpan_13 rfl ?_
    refine e_pc (pc' := 14) rfl ?_
    refine e_lcmp dX9_hasSpan_14 ?_
    refine e_if_gt (tgt := 22) dX9_hasSpan_15 rfl (fun h2 => ?_) (fun h2 => ?_)
    · refine e_iconst (v := 0) dX9_hasSpan_22 rfl ?_
      exact x_zret dX9_hasSpan_23 rfl (by decide) (lfi (by unfold r_X9_hasSpan; rw [if_neg h1, if_pos h2]) hq)
    · refine e_iconst (v := 1) dX9_hasSpan_18 rfl ?_
      refine e_goto (tgt := 23) dX9_hasSpan_19 rfl ?_
      exact x_zret dX9_hasSpan_23 rfl (by decide) (lfi (by unfold r_X9_hasSpan; rw [if_neg h1, if_neg h2]) hq)
def r_X9_lowestBits (x : VM) (i : Nat) (p1 : Int64) : Int64 := if (x.1 901 i) = 0 then p1.toInt32.toInt8.toInt32.toInt64 else if (x.1 901 i) = 1 then p1.toInt32.toInt16.toInt32.toInt64 else if (x.1 901 i) = 2 then p1.toInt32.toInt64 else p1
theorem c_X9_lowestBits {g : GG} {d : Nat} {ad : AD} {x m : VM} {Q : Option Value → VM → VM → Prop} (i : Nat) (p1 : Int64) (hl_i : i < 8) (hq : Q (some (.long (r_X9_lowestBits x i p1))) x m) : CX g d MX9_lowestBits [.ref (ad 9 i), .long p1] ad x m Q := by
  refine CX.to (Lv := [some (.ref (ad 9 i)), some (.long p1), none]) okX9_lowestBits (Nat.le_of_ble_eq_true rfl) rfl ?_
  refine e_aload_n dX9_lowestBits_0 rfl rfl ?_
  refine g_901 flX9_15 dX9_lowestBits_1 hl_i ?_
  by_cases h1 : (x.1 901 i) = 0
  · refine e_tableIn (tgt := 32) dX9_lowestBits_4 (by rw [h1]; decide) (by rw [h1]; decide) (by rw [h1]; rfl) rfl ?_
    refine e_lload_n dX9_lowestBits_32 rfl rfl ?_
    refine e_l2i dX9_lowestBits_33 rfl ?_
    refine e_i2b dX9_lowestBits_34 rfl ?_
    refine e_i2l dX9_lowestBits_35 rfl ?_
    exact x_lret dX9_lowestBits_36 rfl (lfl (by unfold r_X9_lowestBits; rw [if_pos h1]) hq)
  by_cases h2 : (x.1 901 i) = 1
  · refine e_tableIn (tgt := 37) dX9_lowestBits_4 (by rw [h2]; decide) (by rw [h2]; decide) (by rw [h2]; rfl) rfl ?_
    refine e_lload_n dX9_lowestBits_37 rfl rfl ?_
    refine e_l2i dX9_lowestBits_38 rfl ?_
    refine e_i2s dX9_lowestBits_39 rfl ?_
    refine e_i2l dX9_lowestBits_40 rfl ?_
    exact x_lret dX9_lowestBits_41 rfl (lfl (by unfold r_X9_lowestBits; rw [if_neg h1, if_pos h2]) hq)
  by_cases h3 : (x.1 901 i) = 2
  · refine e_tableIn (tgt := 42) dX9_lowestBits_4 (by rw [h3]; decide) (by rw [h3]; decide) (by rw [h3]; rfl) rfl ?_
    refine e_lload_n dX9_lowestBits_42 rfl rfl ?_
    refine e_l2i dX9_lowestBits_43 rfl ?_
    refine e_i2l dX9_lowestBits_44 rfl ?_
    exact x_lret dX9_lowestBits_45 rfl (lfl (by unfold r_X9_lowestBits; rw [if_neg h1, if_neg h2, if_pos h3]) hq)
  refine e_tableOut (tgt := 46) dX9_lowestBits_4 (sw_out3 h1 h2 h3) rfl ?_
  refine e_lload_n dX9_lowestBits_46 rfl rfl ?_
  exact x_lret dX9_lowestBits_47 rfl (lfl (by unfold r_X9_lowestBits; rw [if_neg h1, if_neg h2, if_neg h3]) hq)
def r_X11_rowLack (x : VM) (p1 : Int32) : Int32 := if p1 < 0 then (-1) else if p1 < 8 then r_X9_lackOfRow x p1.toNatClampNeg else (-1)
theorem c_X11_rowLack {g : GG} {d : Nat} {ad : AD} {x m : VM} {Q : Option Value → VM → VM → Prop} (p1 : Int32) (hq : Q (some (.int (r_X11_rowLack x p1))) x m) : CX g (d + 1) MX11_rowLack [.ref (ad 11 0), .int p1] ad x m Q := by
  refine CX.to (Lv := [some (.ref (ad 11 0)), some (.int p1), none]) okX11_rowLack (Nat.le_of_ble_eq_true rfl) rfl ?_
  refine e_aload_n dX11_rowLack_0 rfl rfl ?_
  refine e_iload_n dX11_rowLack_1 rfl rfl ?_
  refine x_callVi (c := 11) (As := [.int p1]) (rest := []) okX11_shelfAt lkX11_115 rfl (by decide) rfl dX11_rowLack_2 rfl rfl (by decide) rfl (c_X11_shelfAt p1 (fun h1 => CI.mk ?_) (fun h2 h3 => CI.mk ?_) (fun h4 h5 => CI.mk ?_))
  · refine e_astore_nN (L' := [some (.ref (ad 11 0)), some (.int p1), some (.null)]) dX11_rowLack_5 rfl (by decide) rfl ?_
    refine e_aload_nN dX11_rowLack_6 rfl rfl ?_
    refine e_ifnonnullN dX11_rowLack_7 ?_
    refine e_iconst (v := (-1)) dX11_rowLack_10 rfl ?_
    refine e_goto (tgt := 18) dX11_rowLack_11 rfl ?_
    exact x_iret dX11_rowLack_18 rfl (lfi (by unfold r_X11_rowLack; rw [if_pos h1]) hq)
  · refine e_astore_n (L' := [some (.ref (ad 11 0)), some (.int p1), some (.ref (ad 9 p1.toNatClampNeg))]) dX11_rowLack_5 rfl (by decide) rfl ?_
    refine e_aload_n dX11_rowLack_6 rfl rfl ?_
    refine e_ifnonnull (tgt := 14) dX11_rowLack_7 rfl ?_
    refine e_aload_n dX11_rowLack_14 rfl rfl ?_
    refine x_callVi (c := 9) (As := []) (rest := []) okX9_lackOfRow lkX11_137 rfl (by decide) rfl dX11_rowLack_15 rfl rfl (by decide) (in8_lt (in_8 h2 h3)) (c_X9_lackOfRow p1.toNatClampNeg (in8_lt (in_8 h2 h3)) (CI.mk ?_))
    exact x_iret dX11_rowLack_18 rfl (lfi (by unfold r_X11_rowLack; rw [if_neg h2, if_pos h3]) hq)
  · refine e_astore_nN (L' := [some (.ref (ad 11 0)), some (.int p1), some (.null)]) dX11_rowLack_5 rfl (by decide) rfl ?_
    refine e_aload_nN dX11_rowLack_6 rfl rfl ?_
    refine e_ifnonnullN dX11_rowLack_7 ?_
    refine e_iconst (v := (-1)) dX11_rowLack_10 rfl ?_
    refine e_goto (tgt := 18) dX11_rowLack_11 rfl ?_
    exact x_iret dX11_rowLack_18 rfl (lfi (by unfold r_X11_rowLack; rw [if_neg h4, if_neg h5]) hq)
def r_X11_hasBitBeyond (x : VM) (p1 : Int32) (p2 : Int32) : Int32 := if ((p1.toUInt32 >>> (p2.toUInt32 &&& Int32.toUInt32 31)).toInt32) = 0 then 0 else 1
theorem c_X11_hasBitBeyond {g : GG} {d : Nat} {ad : AD} {x m : VM} {Q : Option Value → VM → VM → Prop} (p1 : Int32) (p2 : Int32) (hq : Q (some (.int (r_X11_hasBitBeyond x p1 p2))) x m) : CX g d MX11_hasBitBeyond [.int p1, .int p2] ad x m Q := by
  refine CX.to (Lv := [some (.int p1), some (.int p2)]) okX11_hasBitBeyond (Nat.le_of_ble_eq_true rfl) rfl ?_
  refine e_iload_n dX11_hasBitBeyond_0 rfl rfl ?_
  refine e_iload_n dX11_hasBitBeyond_1 rfl rfl ?_
  refine e_iushr dX11_hasBitBeyond_2 rfl ?_
  refine e_if_eq (tgt := 10) dX11_hasBitBeyond_3 rfl (fun h1 => ?_) (fun h1 => ?_)
  · refine e_iconst (v := 0) dX11_hasBitBeyond_10 rfl ?_
    exact x_zret dX11_hasBitBeyond_11 rfl (by decide) (lfi (by unfold r_X11_hasBitBeyond; rw [if_pos h1]) hq)
  · refine e_iconst (v := 1) dX11_hasBitBeyond_6 rfl ?_
    refine e_goto (tgt := 11) dX11_hasBitBeyond_7 rfl ?_
    exact x_zret dX11_hasBitBeyond_11 rfl (by decide) (lfi (by unfold r_X11_hasBitBeyond; rw [if_neg h1]) hq)
def r_X11_isHallWeek (x : VM) (p1 : Int32) : Int32 := if p1 < 0 then 0 else if 40 ≤ p1 then 0 else 1
theorem c_X11_isHallWeek {g : GG} {d : Nat} {ad : AD} {x m : VM} {Q : Option Value → VM → VM → Prop} (p1 : Int32) (hq : Q (some (.int (r_X11_isHallWeek x p1))) x m) : CX g d MX11_isHallWeek [.int p1] ad x m Q := by
  refine CX.to (Lv := [some (.int p1)]) okX11_isHallWeek (Nat.le_of_ble_eq_true rfl) rfl ?_
  refine e_iload_n dX11_isHallWeek_0 rfl rfl ?_
  refine e_if_lt (tgt := 14) dX11_isHallWeek_1 rfl (fun h1 => ?_) (fun h1 => ?_)
  · refine e_iconst (v := 0) dX11_isHallWeek_14 rfl ?_
    exact x_zret dX11_isHallWeek_15 rfl (by decide) (lfi (by unfold r_X11_isHallWeek; rw [if_pos h1]) hq)
  · refine e_iload_n dX11_isHallWeek_4 rfl rfl ?_
    refine e_bipush (v := 40) dX11_isHallWeek_5 rfl ?_
    refine e_icmp_ge (tgt := 14) dX11_isHallWeek_7 rfl (fun h2 => ?_) (fun h2 => ?_)
    · refine e_iconst (v := 0) dX11_isHallWeek_14 rfl ?_
      exact x_zret dX11_isHallWeek_15 rfl (by decide) (lfi (by unfold r_X11_isHallWeek; rw [if_neg h1, if_pos h2]) hq)
    · refine e_iconst (v := 1) dX11_isHallWeek_10 rfl ?_
      refine e_goto (tgt := 15) dX11_isHallWeek_11 rfl ?_
      exact x_zret dX11_isHallWeek_15 rfl (by decide) (lfi (by unfold r_X11_isHallWeek; rw [if_neg h1, if_neg h2]) hq)
def r_X11_isKind (x : VM) (p1 : Int32) : Int32 := if p1 < 0 then 0 else if 6 ≤ p1 then 0 else 1
theorem c_X11_isKind {g : GG} {d : Nat} {ad : AD} {x m : VM} {Q : Option Value → VM → VM → Prop} (p1 : Int32) (hq : Q (some (.int (r_X11_isKind x p1))) x m) : CX g d MX11_isKind [.int p1] ad x m Q := by
  refine CX.to (Lv := [some (.int p1)]) okX11_isKind (Nat.le_of_ble_eq_true rfl) rfl ?_
  refine e_iload_n dX11_isKind_0 rfl rfl ?_
  refine e_if_lt (tgt := 16) dX11_isKind_1 rfl (fun h1 => ?_) (fun h1 => ?_)
  · refine e_iconst (v := 0) dX11_isKind_16 rfl ?_
    exact x_zret dX11_isKind_17 rfl (by decide) (lfi (by unfold r_X11_isKind; rw [if_pos h1]) hq)
  · refine e_iload_n dX11_isKind_4 rfl rfl ?_
    refine e_getstatic (j := 0) rfl slX11_431 dX11_isKind_5 ?_
    refine e_slength (j := 0) (v := 6) rfl dX11_isKind_8 rfl ?_
    refine e_icmp_ge (tgt := 16) dX11_isKind_9 rfl (fun h2 => ?_) (fun h2 => ?_)
    · refine e_iconst (v := 0) dX11_isKind_16 rfl ?_
      exact x_zret dX11_isKind_17 rfl (by decide) (lfi (by unfold r_X11_isKind; rw [if_neg h1, if_pos h2]) hq)
    · refine e_iconst (v := 1) dX11_isKind_12 rfl ?_
      refine e_goto (tgt := 17) dX11_isKind_13 rfl ?_
      exact x_zret dX11_isKind_17 rfl (by decide) (lfi (by unfold r_X11_isKind; rw [if_neg h1, if_neg h2]) hq)
