section
variable {g : GG} {d : Nat} {M : MD} {ad : AD} {x m : VM} {kc ks pc : Nat} {L : List (Option Value)} {rest : List Value} {K : Option Value → Heap → Prop}
theorem y_callS {M' : MD} {n idx : Nat} {w : Value} {x1 m1 : VM} {As st : List Value} (ok : okM M' n) (lk : lkS M.1.cls idx M'.1) (hdg : decode M.2.1 pc = .ok (.invokestatic idx, 3)) (hst : st = As.reverse ++ rest) (hn : As.length = n) (hd : (rest.map fun v => v.category).sum ≤ 8)
    (hcl : CX g d M' As ad x m (FQ (some w) x1 m1)) (kk : Ev g (d + 1) M (Rep g ad x1 m1) kc ks (pc + 3) L (w :: rest) K) : Ev g (d + 1) M (Rep g ad x m) kc ks pc L st K := by
  have h := e_invS (mc := 0) (ms := 0) (kc := kc) (ks := ks) (L := L) (Q := K) ok lk hdg hst hn hd hcl (fun v => ?_)
  · rw [Nat.zero_add, Nat.zero_add] at h; exact h
  · refine e_pre (P' := fun H => v = some w ∧ Rep g ad x1 m1 H) (fun H h => ?_) (e_and (fun hv => by subst hv; exact kk))
    obtain ⟨x', m', ⟨h1, h2, h3⟩, hR⟩ := h
    subst h2 h3
    exact ⟨h1, hR⟩
theorem y_callV {M' : MD} {n idx c i : Nat} {r : vw_C} {w : Option Value} {x1 m1 : VM} {As st : List Value} (ok : okM M' n) (lk : lkV M.1.cls idx M'.1) (hc : classes[c]? = some r) (hc13 : c < 13) (hrn : M'.1.cls = r.1) (hdg : decode M.2.1 pc = .ok (.invokevirtual idx, 3)) (hst : st = As.reverse ++ .ref (ad c i) :: rest) (hn : As.length = n) (hd : (rest.map fun v => v.category).sum ≤ 8) (hl : lvf x c i)
    (hcl : CX g d M' (.ref (ad c i) :: As) ad x m (FQ w x1 m1)) (kk : Ev g (d + 1) M (Rep g ad x1 m1) kc ks (pc + 3) L (w.toList ++ rest) K) : Ev g (d + 1) M (Rep g ad x m) kc ks pc L st K := by
  have h := e_invV (mc := 0) (ms := 0) (kc := kc) (ks := ks) (L := L) (Q := K) ok lk hc hrn hdg hst hn hd (fun H hP => hP.1 c i hc13 hl) hcl (fun v => ?_)
  · rw [Nat.zero_add, Nat.zero_add] at h; exact h
  · refine e_pre (P' := fun H => v = w ∧ Rep g ad x1 m1 H) (fun H h => ?_) (e_and (fun hv => by subst hv; exact kk))
    obtain ⟨x', m', ⟨h1, h2, h3⟩, hR⟩ := h
    subst h2 h3
    exact ⟨h1, hR⟩
end
noncomputable def mk_person (y : VM) (p1 : Int32) : Option (Int32 × VM) := some (y.1 1113 0, setI (setA y 300 0 (upd (y.2.1 300 0) (y.1 1113 0).toNatClampNeg (p1 / 7))) 1113 0 (y.1 1113 0 + 1))
noncomputable def f_X11_person (x : VM) (p1 : Int32) : Option (Int32 × VM) := if p1 < 1 then f_X11_refused x (-6) else if p1 ≤ 999 then if x.1 1113 0 < 16 then mk_person (nw4 x p1) p1 else f_X11_refused x (-7) else f_X11_refused x (-6)
noncomputable def f_X11_hall (x : VM) (p1 p2 p3 : Int32) : Option (Int32 × VM) := if p1 < 0 then f_X11_refused x (-1) else if p1 < 3 then if p2 < 0 then f_X11_refused x (-6) else if 3 < p2 then f_X11_refused x (-6) else if p3 < 0 then f_X11_refused x (-6) else if p3 ≤ 90 then if x.1 1115 0 < 6 then some ((nw1 x p1 p2 p3).1 1115 0, setI (nw1 x p1 p2 p3) 1115 0 ((nw1 x p1 p2 p3).1 1115 0 + 1)) else f_X11_refused x (-7) else f_X11_refused x (-6) else f_X11_refused x (-1)
noncomputable def f_X11_picture (x : VM) (p1 : Int32) : Option (Int32 × VM) := (f_X11_isKind x p1).elim none (fun r => if ¬ r = 0 then if x.1 1114 0 < 8 then some ((nw5 x p1).1 1114 0, setI (nw5 x p1) 1114 0 ((nw5 x p1).1 1114 0 + 1)) else f_X11_refused x (-7) else f_X11_refused x (-1))
theorem t_X11_person {g : GG} {d : Nat} {ad : AD} {x m : VM} {Q : Option Value → VM → VM → Prop} (p1 : Int32) (h1 : vp_in (x.1 1113 0) 16) (hq : Q (some (.int (x.1 1113 0))) (setI (setA x 300 0 (upd (x.2.1 300 0) (x.1 1113 0).toNatClampNeg (p1 / 7))) 1113 0 (x.1 1113 0 + 1)) m) : EX g d MX11_person ad x m 52 [some (.ref (ad 11 0)), some (.int p1)] [] Q := by
  refine e_aload_n dX11_person_52 rfl rfl ?_
  refine g_1106 flX11_50 dX11_person_53 ?_
  refine g_300 flX11_112 dX11_person_56 ?_
  refine e_aload_n dX11_person_59 rfl rfl ?_
  refine g_1113 flX11_85 dX11_person_60 ?_
  refine e_iload_n dX11_person_63 rfl rfl ?_
  refine e_bipush (v := 7) dX11_person_64 rfl ?_
  refine e_idiv dX11_person_66 (by decide) ?_
  refine e_pc (pc' := 67) rfl ?_
  refine s_300 dX11_person_67 h1 ?_
  refine e_aload_n dX11_person_68 rfl rfl ?_
  refine e_dup dX11_person_69 rfl ?_
  refine g_1113 flX11_85 dX11_person_70 ?_
  refine e_dup_x1 dX11_person_73 rfl rfl ?_
  refine e_iconst (v := 1) dX11_person_74 rfl ?_
  refine e_iadd dX11_person_75 ?_
  refine p_1113 flX11_85 dX11_person_76 ?_
  exact x_iret dX11_person_79 rfl hq
theorem t_X11_hall {g : GG} {d : Nat} {ad : AD} {x m : VM} {Q : Option Value → VM → VM → Prop} (p1 : Int32) (p2 : Int32) (p3 : Int32) (hq : Q (some (.int (x.1 1115 0))) (setI x 1115 0 (x.1 1115 0 + 1)) m) : EX g d MX11_hall ad x m 76 [some (.ref (ad 11 0)), some (.int p1), some (.int p2), some (.int p3)] [] Q := by
  refine e_aload_n dX11_hall_76 rfl rfl ?_
  refine e_dup dX11_hall_77 rfl ?_
  refine g_1115 flX11_92 dX11_hall_78 ?_
  refine e_dup_x1 dX11_hall_81 rfl rfl ?_
  refine e_iconst (v := 1) dX11_hall_82 rfl ?_
  refine e_iadd dX11_hall_83 ?_
  refine p_1115 flX11_92 dX11_hall_84 ?_
  exact x_iret dX11_hall_87 rfl hq
theorem t_X11_picture {g : GG} {d : Nat} {ad : AD} {x m : VM} {Q : Option Value → VM → VM → Prop} (p1 : Int32) (hq : Q (some (.int (x.1 1114 0))) (setI x 1114 0 (x.1 1114 0 + 1)) m) : EX g d MX11_picture ad x m 46 [some (.ref (ad 11 0)), some (.int p1)] [] Q := by
  refine e_aload_n dX11_picture_46 rfl rfl ?_
  refine e_dup dX11_picture_47 rfl ?_
  refine g_1114 flX11_89 dX11_picture_48 ?_
  refine e_dup_x1 dX11_picture_51 rfl rfl ?_
  refine e_iconst (v := 1) dX11_picture_52 rfl ?_
  refine e_iadd dX11_picture_53 ?_
  refine p_1114 flX11_89 dX11_picture_54 ?_
  exact x_iret dX11_picture_57 rfl hq
theorem rf_X11_person_12 {g : GG} {d : Nat} {ad : AD} {x m : VM} {Q : Option Value → VM → VM → Prop} (p1 : Int32) {r9 : Int32} {w9 : VM} (hr : f_X11_refused x (-6) = some (r9, w9)) (hq : Q (some (.int r9)) w9 m) : EX g (d + 1) MX11_person ad x m 12 [some (.ref (ad 11 0)), some (.int p1)] [] Q := by
  refine e_aload_n dX11_person_12 rfl rfl ?_
  refine e_bipush (v := (-6)) dX11_person_13 rfl ?_
  refine x_callVi (c := 11) (As := [.int (-6)]) (rest := []) okX11_refused lkX11_105 rfl (by decide) rfl dX11_person_15 rfl rfl (Nat.le_of_ble_eq_true rfl) rfl (c_X11_refused (-6) hr (CI.mk ?_))
  refine e_pc (pc' := 18) rfl ?_
  exact x_iret dX11_person_18 rfl hq
theorem rf_X11_person_28 {g : GG} {d : Nat} {ad : AD} {x m : VM} {Q : Option Value → VM → VM → Prop} (p1 : Int32) {r9 : Int32} {w9 : VM} (hr : f_X11_refused x (-7) = some (r9, w9)) (hq : Q (some (.int r9)) w9 m) : EX g (d + 1) MX11_person ad x m 28 [some (.ref (ad 11 0)), some (.int p1)] [] Q := by
  refine e_aload_n dX11_person_28 rfl rfl ?_
  refine e_bipush (v := (-7)) dX11_person_29 rfl ?_
  refine x_callVi (c := 11) (As := [.int (-7)]) (rest := []) okX11_refused lkX11_105 rfl (by decide) rfl dX11_person_31 rfl rfl (Nat.le_of_ble_eq_true rfl) rfl (c_X11_refused (-7) hr (CI.mk ?_))
  refine e_pc (pc' := 34) rfl ?_
  exact x_iret dX11_person_34 rfl hq
theorem rf_X11_hall_9 {g : GG} {d : Nat} {ad : AD} {x m : VM} {Q : Option Value → VM → VM → Prop} (p1 : Int32) (p2 : Int32) (p3 : Int32) {r9 : Int32} {w9 : VM} (hr : f_X11_refused x (-1) = some (r9, w9)) (hq : Q (some (.int r9)) w9 m) : EX g (d + 1) MX11_hall ad x m 9 [some (.ref (ad 11 0)), some (.int p1), some (.int p2), some (.int p3)] [] Q := by
  refine e_aload_n dX11_hall_9 rfl rfl ?_
  refine e_iconst (v := (-1)) dX11_hall_10 rfl ?_
  refine x_callVi (c := 11) (As := [.int (-1)]) (rest := []) okX11_refused lkX11_105 rfl (by decide) rfl dX11_hall_11 rfl rfl (Nat.le_of_ble_eq_true rfl) rfl (c_X11_refused (-1) hr (CI.mk ?_))
  refine e_pc (pc' := 14) rfl ?_
  exact x_iret dX11_hall_14 rfl hq
theorem rf_X11_hall_34 {g : GG} {d : Nat} {ad : AD} {x m : VM} {Q : Option Value → VM → VM → Prop} (p1 : Int32) (p2 : Int32) (p3 : Int32) {r9 : Int32} {w9 : VM} (hr : f_X11_refused x (-6) = some (r9, w9)) (hq : Q (some (.int r9)) w9 m) : EX g (d + 1) MX11_hall ad x m 34 [some (.ref (ad 11 0)), some (.int p1), some (.int p2), some (.int p3)] [] Q := by
  refine e_aload_n dX11_hall_34 rfl rfl ?_
  refine e_bipush (v := (-6)) dX11_hall_35 rfl ?_
  refine x_callVi (c := 11) (As := [.int (-6)]) (rest := []) okX11_refused lkX11_105 rfl (by decide) rfl dX11_hall_37 rfl rfl (Nat.le_of_ble_eq_true rfl) rfl (c_X11_refused (-6) hr (CI.mk ?_))
  refine e_pc (pc' := 40) rfl ?_
  exact x_iret dX11_hall_40 rfl hq
theorem rf_X11_hall_50 {g : GG} {d : Nat} {ad : AD} {x m : VM} {Q : Option Value → VM → VM → Prop} (p1 : Int32) (p2 : Int32) (p3 : Int32) {r9 : Int32} {w9 : VM} (hr : f_X11_refused x (-7) = some (r9, w9)) (hq : Q (some (.int r9)) w9 m) : EX g (d + 1) MX11_hall ad x m 50 [some (.ref (ad 11 0)), some (.int p1), some (.int p2), some (.int p3)] [] Q := by
  refine e_aload_n dX11_hall_50 rfl rfl ?_
  refine e_bipush (v := (-7)) dX11_hall_51 rfl ?_
  refine x_callVi (c := 11) (As := [.int (-7)]) (rest := []) okX11_refused lkX11_105 rfl (by decide) rfl dX11_hall_53 rfl rfl (Nat.le_of_ble_eq_true rfl) rfl (c_X11_refused (-7) hr (CI.mk ?_))
  refine e_pc (pc' := 56) rfl ?_
  exact x_iret dX11_hall_56 rfl hq
theorem rf_X11_picture_7 {g : GG} {d : Nat} {ad : AD} {x m : VM} {Q : Option Value → VM → VM → Prop} (p1 : Int32) {r9 : Int32} {w9 : VM} (hr : f_X11_refused x (-1) = some (r9, w9)) (hq : Q (some (.int r9)) w9 m) : EX g (d + 1) MX11_picture ad x m 7 [some (.ref (ad 11 0)), some (.int p1)] [] Q := by
  refine e_aload_n dX11_picture_7 rfl rfl ?_
  refine e_iconst (v := (-1)) dX11_picture_8 rfl ?_
  refine x_callVi (c := 11) (As := [.int (-1)]) (rest := []) okX11_refused lkX11_105 rfl (by decide) rfl dX11_picture_9 rfl rfl (Nat.le_of_ble_eq_true rfl) rfl (c_X11_refused (-1) hr (CI.mk ?_))
  refine e_pc (pc' := 12) rfl ?_
  exact x_iret dX11_picture_12 rfl hq
theorem rf_X11_picture_22 {g : GG} {d : Nat} {ad : AD} {x m : VM} {Q : Option Value → VM → VM → Prop} (p1 : Int32) {r9 : Int32} {w9 : VM} (hr : f_X11_refused x (-7) = some (r9, w9)) (hq : Q (some (.int r9)) w9 m) : EX g (d + 1) MX11_picture ad x m 22 [some (.ref (ad 11 0)), some (.int p1)] [] Q := by
  refine e_aload_n dX11_picture_22 rfl rfl ?_
  refine e_bipush (v := (-7)) dX11_picture_23 rfl ?_
  refine x_callVi (c := 11) (As := [.int (-7)]) (rest := []) okX11_refused lkX11_105 rfl (by decide) rfl dX11_picture_25 rfl rfl (Nat.le_of_ble_eq_true rfl) rfl (c_X11_refused (-7) hr (CI.mk ?_))
  refine e_pc (pc' := 28) rfl ?_
  exact x_iret dX11_picture_28 rfl hq
theorem c_X11_person {g : GG} {d : Nat} {ad : AD} {x m : VM} (p1 : Int32) {r9 : Int32} {w9 : VM} (hK : KX x) (hf : f_X11_person x p1 = some (r9, w9)) : Cl g (d + 2) 3 80 MX11_person [.ref (ad 11 0), .int p1] (Rep g ad x m) (PK g ad m r9 w9) := by
  refine Cl.to (Lv := [some (.ref (ad 11 0)), some (.int p1)]) okX11_person (Nat.le_of_ble_eq_true rfl) rfl ?_
  unfold f_X11_person at hf
  refine e_iload_n dX11_person_0 rfl rfl ?_
  refine e_iconst (v := 1) dX11_person_1 rfl ?_
  refine e_icmp_lt (tgt := 12) dX11_person_2 rfl (fun h1 => ?_) (fun h1 => ?_)
  · rw [if_pos h1] at hf
    exact e_more (Nat.zero_le _) (Nat.zero_le _) (e_post (PK.of rfl rfl) (rf_X11_person_12 (Q := FQ (some (.int r9)) w9 m) p1 hf ⟨rfl, rfl, rfl⟩))
  rw [if_neg h1] at hf
  refine e_iload_n dX11_person_5 rfl rfl ?_
  refine e_sipush (v := 999) dX11_person_6 rfl ?_
  refine e_icmp_le (tgt := 19) dX11_person_9 rfl (fun h2 => ?_) (fun h2 => ?_)
  · rw [if_pos h2] at hf
    refine e_aload_n dX11_person_19 rfl rfl ?_
    refine y_get (v := .int (x.1 1113 0)) (by decide) flX11_85 dX11_person_20 rfl rfl ?_
    refine e_bipush (v := 16) dX11_person_23 rfl ?_
    refine e_icmp_lt (tgt := 35) dX11_person_25 rfl (fun h3 => ?_) (fun h3 => ?_)
    · rw [if_pos h3] at hf
      unfold mk_person at hf
      replace hf := Prod.mk.inj (Option.some.inj hf)
      have hlt : x.2.2.2 4 < 16 := by
        rw [hK.1.1] at h3
        exact (nI_ltI (by have := hK.1.2; omega) (b := 16) (by decide)).mp h3
      refine e_aload_n dX11_person_35 rfl rfl ?_
      refine y_get (v := .ref (ad 2101 0)) (by decide) flX11_17 dX11_person_36 rfl rfl ?_
      refine e_aload_n dX11_person_39 rfl rfl ?_
      refine y_get (v := .int (x.1 1113 0)) (by decide) flX11_85 dX11_person_40 rfl rfl ?_
      refine y_new (c := 4) (n := 14) (kc := 2) (ks := 66) rfl rfl clX11_15 itX4 iniX4 dX11_person_43 rfl rfl (fun n0 => ?_)
      refine e_dup dX11_person_46 rfl ?_
      refine e_iload_n dX11_person_47 rfl rfl ?_
      refine k_init (As := [.int p1]) (rest := [.ref (n0 + 0), .int (x.1 1113 0), .ref (ad 2101 0)]) (mc := 2) (ms := 66) (kc := 0) (ks := 0) (bs' := z4 n0 p1) okX4_init lkX11_109 rfl rfl dX11_person_48 rfl rfl (Nat.le_of_ble_eq_true rfl) rfl rfl (i_X4 p1) ?_
      refine e_pc (pc' := 51) rfl ?_
      refine y_into4 p1 dX11_person_51 hK hlt ?_
      refine e_pc (pc' := 52) rfl ?_
      have e11 : adN ad 4 (x.2.2.2 4) n0 ap4 11 0 = ad 11 0 := adN_oo (by decide) (fun h => absurd h.1 (by decide))
      have e12 : adN ad 4 (x.2.2.2 4) n0 ap4 12 0 = ad 12 0 := adN_oo (by decide) (fun h => absurd h.1 (by decide))
      have t := t_X11_person (g := g) (d := d + 2) (ad := adN ad 4 (x.2.2.2 4) n0 ap4) (x := nw4 x p1) (m := m) (Q := FQ (some (.int r9)) w9 m) p1 (by rw [show (nw4 x p1).1 1113 0 = x.1 1113 0 from rfl, hK.1.1]; exact nI_in hlt (by decide)) ⟨by rw [← hf.1], hf.2, rfl⟩
      rw [e11] at t
      exact e_post (PK.of e11 e12) t
    · rw [if_neg h3] at hf
      exact e_more (Nat.zero_le _) (Nat.zero_le _) (e_post (PK.of rfl rfl) (rf_X11_person_28 (Q := FQ (some (.int r9)) w9 m) p1 hf ⟨rfl, rfl, rfl⟩))
  · rw [if_neg h2] at hf
    exact e_more (Nat.zero_le _) (Nat.zero_le _) (e_post (PK.of rfl rfl) (rf_X11_person_12 (Q := FQ (some (.int r9)) w9 m) p1 hf ⟨rfl, rfl, rfl⟩))
theorem c_X11_hall {g : GG} {d : Nat} {ad : AD} {x m : VM} (p1 : Int32) (p2 : Int32) (p3 : Int32) {r9 : Int32} {w9 : VM} (hK : KX x) (hf : f_X11_hall x p1 p2 p3 = some (r9, w9)) : Cl g (d + 2) 3 86 MX11_hall [.ref (ad 11 0), .int p1, .int p2, .int p3] (Rep g ad x m) (PK g ad m r9 w9) := by
  refine Cl.to (Lv := [some (.ref (ad 11 0)), some (.int p1), some (.int p2), some (.int p3)]) okX11_hall (Nat.le_of_ble_eq_true rfl) rfl ?_
  unfold f_X11_hall at hf
  refine e_iload_n dX11_hall_0 rfl rfl ?_
  refine e_if_lt (tgt := 9) dX11_hall_1 rfl (fun h1 => ?_) (fun h1 => ?_)
  · rw [if_pos h1] at hf
    exact e_more (Nat.zero_le _) (Nat.zero_le _) (e_post (PK.of rfl rfl) (rf_X11_hall_9 (Q := FQ (some (.int r9)) w9 m) p1 p2 p3 hf ⟨rfl, rfl, rfl⟩))
  rw [if_neg h1] at hf
  refine e_iload_n dX11_hall_4 rfl rfl ?_
  refine e_iconst (v := 3) dX11_hall_5 rfl ?_
  refine e_icmp_lt (tgt := 15) dX11_hall_6 rfl (fun h2 => ?_) (fun h2 => ?_)
  rotate_left
  · rw [if_neg h2] at hf
    exact e_more (Nat.zero_le _) (Nat.zero_le _) (e_post (PK.of rfl rfl) (rf_X11_hall_9 (Q := FQ (some (.int r9)) w9 m) p1 p2 p3 hf ⟨rfl, rfl, rfl⟩))
  rw [if_pos h2] at hf
  refine e_iload_n dX11_hall_15 rfl rfl ?_
  refine e_if_lt (tgt := 34) dX11_hall_16 rfl (fun h3 => ?_) (fun h3 => ?_)
  · rw [if_pos h3] at hf
    exact e_more (Nat.zero_le _) (Nat.zero_le _) (e_post (PK.of rfl rfl) (rf_X11_hall_34 (Q := FQ (some (.int r9)) w9 m) p1 p2 p3 hf ⟨rfl, rfl, rfl⟩))
  rw [if_neg h3] at hf
  refine e_iload_n dX11_hall_19 rfl rfl ?_
  refine e_iconst (v := 3) dX11_hall_20 rfl ?_
  refine e_icmp_gt (tgt := 34) dX11_hall_21 rfl (fun h4 => ?_) (fun h4 => ?_)
  · rw [if_pos h4] at hf
    exact e_more (Nat.zero_le _) (Nat.zero_le _) (e_post (PK.of rfl rfl) (rf_X11_hall_34 (Q := FQ (some (.int r9)) w9 m) p1 p2 p3 hf ⟨rfl, rfl, rfl⟩))
  rw [if_neg h4] at hf
  refine e_iload_n dX11_hall_24 rfl rfl ?_
  refine e_if_lt (tgt := 34) dX11_hall_25 rfl (fun h5 => ?_) (fun h5 => ?_)
  · rw [if_pos h5] at hf
    exact e_more (Nat.zero_le _) (Nat.zero_le _) (e_post (PK.of rfl rfl) (rf_X11_hall_34 (Q := FQ (some (.int r9)) w9 m) p1 p2 p3 hf ⟨rfl, rfl, rfl⟩))
  rw [if_neg h5] at hf
  refine e_iload_n dX11_hall_28 rfl rfl ?_
  refine e_bipush (v := 90) dX11_hall_29 rfl ?_
  refine e_icmp_le (tgt := 41) dX11_hall_31 rfl (fun h6 => ?_) (fun h6 => ?_)
  rotate_left
  · rw [if_neg h6] at hf
    exact e_more (Nat.zero_le _) (Nat.zero_le _) (e_post (PK.of rfl rfl) (rf_X11_hall_34 (Q := FQ (some (.int r9)) w9 m) p1 p2 p3 hf ⟨rfl, rfl, rfl⟩))
  rw [if_pos h6] at hf
  refine e_aload_n dX11_hall_41 rfl rfl ?_
  refine y_get (v := .int (x.1 1115 0)) (by decide) flX11_92 dX11_hall_42 rfl rfl ?_
  refine e_bipush (v := 6) dX11_hall_45 rfl ?_
  refine e_icmp_lt (tgt := 57) dX11_hall_47 rfl (fun h7 => ?_) (fun h7 => ?_)
  rotate_left
  · rw [if_neg h7] at hf
    exact e_more (Nat.zero_le _) (Nat.zero_le _) (e_post (PK.of rfl rfl) (rf_X11_hall_50 (Q := FQ (some (.int r9)) w9 m) p1 p2 p3 hf ⟨rfl, rfl, rfl⟩))
  rw [if_pos h7] at hf
  replace hf := Prod.mk.inj (Option.some.inj hf)
  have hlt : x.2.2.2 1 < 6 := by
    rw [hK.2.2.1.1] at h7
    exact (nI_ltI (by have := hK.2.2.1.2; omega) (b := 6) (by decide)).mp h7
  refine e_aload_n dX11_hall_57 rfl rfl ?_
  refine y_get (v := .ref (ad 2103 0)) (by decide) flX11_29 dX11_hall_58 rfl rfl ?_
  refine e_aload_n dX11_hall_61 rfl rfl ?_
  refine y_get (v := .int (x.1 1115 0)) (by decide) flX11_92 dX11_hall_62 rfl rfl ?_
  refine y_new (c := 1) (n := 6) (kc := 2) (ks := 80) rfl rfl clX11_27 itX1 iniX1 dX11_hall_65 rfl rfl (fun n0 => ?_)
  refine e_dup dX11_hall_68 rfl ?_
  refine e_iload_n dX11_hall_69 rfl rfl ?_
  refine e_iload_n dX11_hall_70 rfl rfl ?_
  refine e_iload_n dX11_hall_71 rfl rfl ?_
  refine k_init (As := [.int p1, .int p2, .int p3]) (rest := [.ref (n0 + 0), .int (x.1 1115 0), .ref (ad 2103 0)]) (mc := 2) (ms := 80) (kc := 0) (ks := 0) (bs' := z1 n0 p1 p2 p3) okX1_init lkX11_372 rfl rfl dX11_hall_72 rfl rfl (Nat.le_of_ble_eq_true rfl) rfl rfl (i_X1 p1 p2 p3) ?_
  refine e_pc (pc' := 75) rfl ?_
  refine y_into1 p1 p2 p3 dX11_hall_75 hK hlt ?_
  refine e_pc (pc' := 76) rfl ?_
  have e11 : adN ad 1 (x.2.2.2 1) n0 ap1 11 0 = ad 11 0 := adN_oo (by decide) (fun h => absurd h.1 (by decide))
  have e12 : adN ad 1 (x.2.2.2 1) n0 ap1 12 0 = ad 12 0 := adN_oo (by decide) (fun h => absurd h.1 (by decide))
  have t := t_X11_hall (g := g) (d := d + 2) (ad := adN ad 1 (x.2.2.2 1) n0 ap1) (x := nw1 x p1 p2 p3) (m := m) (Q := FQ (some (.int r9)) w9 m) p1 p2 p3  ⟨by rw [← hf.1], hf.2, rfl⟩
  rw [e11] at t
  exact e_post (PK.of e11 e12) t
theorem c_X11_picture {g : GG} {d : Nat} {ad : AD} {x m : VM} (p1 : Int32) {r9 : Int32} {w9 : VM} (hK : KX x) (hF0 : x.2.2.2 0 ≤ x.2.2.2 5) (hf : f_X11_picture x p1 = some (r9, w9)) : Cl g (d + 2) 9 178 MX11_picture [.ref (ad 11 0), .int p1] (Rep g ad x m) (PK g ad m r9 w9) := by
  refine Cl.to (Lv := [some (.ref (ad 11 0)), some (.int p1)]) okX11_picture (Nat.le_of_ble_eq_true rfl) rfl ?_
  unfold f_X11_picture at hf
  obtain ⟨r, hk, hf⟩ := elimP (Φ := fun z => z = some (r9, w9)) (fun z => by cases z) hf
  refine e_iload_n dX11_picture_0 rfl rfl ?_
  refine y_callS (As := [.int p1]) (rest := []) (w := .int r) okX11_isKind lkX11_160 dX11_picture_1 rfl rfl (Nat.le_of_ble_eq_true rfl) (c_X11_isKind p1 hk ⟨rfl, rfl, rfl⟩) ?_
  refine e_pc (pc' := 4) rfl ?_
  refine e_if_ne (tgt := 13) dX11_picture_4 rfl (fun h1 => ?_) (fun h1 => ?_)
  rotate_left
  · rw [if_neg (fun q => q h1)] at hf
    exact e_more (Nat.zero_le _) (Nat.zero_le _) (e_post (PK.of rfl rfl) (rf_X11_picture_7 (Q := FQ (some (.int r9)) w9 m) p1 hf ⟨rfl, rfl, rfl⟩))
  rw [if_pos h1] at hf
  refine e_aload_n dX11_picture_13 rfl rfl ?_
  refine y_get (v := .int (x.1 1114 0)) (by decide) flX11_89 dX11_picture_14 rfl rfl ?_
  refine e_bipush (v := 8) dX11_picture_17 rfl ?_
  refine e_icmp_lt (tgt := 29) dX11_picture_19 rfl (fun h7 => ?_) (fun h7 => ?_)
  rotate_left
  · rw [if_neg h7] at hf
    exact e_more (Nat.zero_le _) (Nat.zero_le _) (e_post (PK.of rfl rfl) (rf_X11_picture_22 (Q := FQ (some (.int r9)) w9 m) p1 hf ⟨rfl, rfl, rfl⟩))
  rw [if_pos h7] at hf
  replace hf := Prod.mk.inj (Option.some.inj hf)
  have hlt : x.2.2.2 5 < 8 := by
    rw [hK.2.1.1] at h7
    exact (nI_ltI (by have := hK.2.1.2; omega) (b := 8) (by decide)).mp h7
  refine e_aload_n dX11_picture_29 rfl rfl ?_
  refine y_get (v := .ref (ad 2102 0)) (by decide) flX11_23 dX11_picture_30 rfl rfl ?_
  refine e_aload_n dX11_picture_33 rfl rfl ?_
  refine y_get (v := .int (x.1 1114 0)) (by decide) flX11_89 dX11_picture_34 rfl rfl ?_
  refine y_new (c := 5) (n := 18) (kc := 8) (ks := 160) rfl rfl clX11_21 itX5 iniX5 dX11_picture_37 rfl rfl (fun n0 => ?_)
  refine e_dup dX11_picture_40 rfl ?_
  refine e_iload_n dX11_picture_41 rfl rfl ?_
  refine k_init (As := [.int p1]) (rest := [.ref (n0 + 0), .int (x.1 1114 0), .ref (ad 2102 0)]) (mc := 8) (ms := 160) (kc := 0) (ks := 0) (bs' := z5 n0 p1) okX5_init lkX11_231 rfl rfl dX11_picture_42 rfl rfl (Nat.le_of_ble_eq_true rfl) rfl rfl (i_X5 p1) ?_
  refine e_pc (pc' := 45) rfl ?_
  refine y_into5 p1 dX11_picture_45 hK hlt hF0 ?_
  refine e_pc (pc' := 46) rfl ?_
  have e11 : adN ad 5 (x.2.2.2 5) n0 ap5 11 0 = ad 11 0 := adN_oo (by decide) (fun h => absurd h.1 (by decide))
  have e12 : adN ad 5 (x.2.2.2 5) n0 ap5 12 0 = ad 12 0 := adN_oo (by decide) (fun h => absurd h.1 (by decide))
  have t := t_X11_picture (g := g) (d := d + 2) (ad := adN ad 5 (x.2.2.2 5) n0 ap5) (x := nw5 x p1) (m := m) (Q := FQ (some (.int r9)) w9 m) p1  ⟨by rw [← hf.1], hf.2, rfl⟩
  rw [e11] at t
  exact e_post (PK.of e11 e12) t
noncomputable def f_X11_scene (x : VM) (p1 p2 p3 p4 : Int32) : Option (Int32 × VM) := (f_X11_pictureAt x p1).elim none (fun r => r.elim (f_X11_refused x (-1)) (fun i => if i < x.2.2.2 5 then (f_X11_hasBitBeyond x p3 (x.1 1113 0)).elim none (fun b => if b = 0 then if p2 < 0 then f_X11_refused x (-6) else if 9 < p2 then f_X11_refused x (-6) else if p4 < 1 then f_X11_refused x (-6) else if 4 < p4 then f_X11_refused x (-6) else if x.1 503 i = 0 then if x.1 502 i < 8 then some ((nw8 (setN x 0 0) i p2 p3 p4).1 502 i, setI (nw8 (setN x 0 0) i p2 p3 p4) 502 i ((nw8 (setN x 0 0) i p2 p3 p4).1 502 i + 1)) else f_X11_refused x (-7) else f_X11_refused x (-6) else f_X11_refused x (-1)) else none))
theorem t_X11_scene {g : GG} {d : Nat} {ad : AD} {x m : VM} {Q : Option Value → VM → VM → Prop} (p1 : Int32) (p2 : Int32) (p3 : Int32) (p4 : Int32) {i : Nat} (hl : i < x.2.2.2 5) (hq : Q (some (.int (x.1 502 i))) (setI x 502 i (x.1 502 i + 1)) m) : EX g d MX11_scene ad x m 112 [some (.ref (ad 11 0)), some (.int p1), some (.int p2), some (.int p3), some (.int p4), some (.ref (ad 5 i))] [] Q := by
  refine e_aload dX11_scene_112 rfl ?_
  refine e_dup dX11_scene_114 rfl ?_
  refine g_502 flX11_238 dX11_scene_115 hl ?_
  refine e_dup_x1 dX11_scene_118 rfl rfl ?_
  refine e_iconst (v := 1) dX11_scene_119 rfl ?_
  refine e_iadd dX11_scene_120 ?_
  refine p_502 flX11_238 dX11_scene_121 hl ?_
  exact x_iret dX11_scene_124 rfl hq
theorem rf_X11_scene_23 {g : GG} {d : Nat} {ad : AD} {x m : VM} {Q : Option Value → VM → VM → Prop} (p1 : Int32) (p2 : Int32) (p3 : Int32) (p4 : Int32) (v5 : Option Value) {r9 : Int32} {w9 : VM} (hr : f_X11_refused x (-1) = some (r9, w9)) (hq : Q (some (.int r9)) w9 m) : EX g (d + 1) MX11_scene ad x m 23 [some (.ref (ad 11 0)), some (.int p1), some (.int p2), some (.int p3), some (.int p4), v5] [] Q := by
  refine e_aload_n dX11_scene_23 rfl rfl ?_
  refine e_iconst (v := (-1)) dX11_scene_24 rfl ?_
  refine x_callVi (c := 11) (As := [.int (-1)]) (rest := []) okX11_refused lkX11_105 rfl (by decide) rfl dX11_scene_25 rfl rfl (Nat.le_of_ble_eq_true rfl) rfl (c_X11_refused (-1) hr (CI.mk ?_))
  refine e_pc (pc' := 28) rfl ?_
  exact x_iret dX11_scene_28 rfl hq
theorem rf_X11_scene_59 {g : GG} {d : Nat} {ad : AD} {x m : VM} {Q : Option Value → VM → VM → Prop} (p1 : Int32) (p2 : Int32) (p3 : Int32) (p4 : Int32) (v5 : Option Value) {r9 : Int32} {w9 : VM} (hr : f_X11_refused x (-6) = some (r9, w9)) (hq : Q (some (.int r9)) w9 m) : EX g (d + 1) MX11_scene ad x m 59 [some (.ref (ad 11 0)), some (.int p1), some (.int p2), some (.int p3), some (.int p4), v5] [] Q := by
  refine e_aload_n dX11_scene_59 rfl rfl ?_
  refine e_bipush (v := (-6)) dX11_scene_60 rfl ?_
  refine x_callVi (c := 11) (As := [.int (-6)]) (rest := []) okX11_refused lkX11_105 rfl (by decide) rfl dX11_scene_62 rfl rfl (Nat.le_of_ble_eq_true rfl) rfl (c_X11_refused (-6) hr (CI.mk ?_))
  refine e_pc (pc' := 65) rfl ?_
  exact x_iret dX11_scene_65 rfl hq
theorem rf_X11_scene_76 {g : GG} {d : Nat} {ad : AD} {x m : VM} {Q : Option Value → VM → VM → Prop} (p1 : Int32) (p2 : Int32) (p3 : Int32) (p4 : Int32) (v5 : Option Value) {r9 : Int32} {w9 : VM} (hr : f_X11_refused x (-7) = some (r9, w9)) (hq : Q (some (.int r9)) w9 m) : EX g (d + 1) MX11_scene ad x m 76 [some (.ref (ad 11 0)), some (.int p1), some (.int p2), some (.int p3), some (.int p4), v5] [] Q := by
  refine e_aload_n dX11_scene_76 rfl rfl ?_
  refine e_bipush (v := (-7)) dX11_scene_77 rfl ?_
  refine x_callVi (c := 11) (As := [.int (-7)]) (rest := []) okX11_refused lkX11_105 rfl (by decide) rfl dX11_scene_79 rfl rfl (Nat.le_of_ble_eq_true rfl) rfl (c_X11_refused (-7) hr (CI.mk ?_))
  refine e_pc (pc' := 82) rfl ?_
  exact x_iret dX11_scene_82 rfl hq
theorem KX_found {x : VM} (n : Nat) (hK : KX x) : KX (setN x 0 n) := ⟨hK.1, hK.2.1, hK.2.2.1, fun p hp => by
  have e : (setN x 0 n).2.2.2 (20 + p) = x.2.2.2 (20 + p) := if_neg (by omega)
  rw [e]
  exact hK.2.2.2 p hp⟩
theorem c_X11_scene {g : GG} {d : Nat} {ad : AD} {x m : VM} (p1 : Int32) (p2 : Int32) (p3 : Int32) (p4 : Int32) {r9 : Int32} {w9 : VM} (hK : KX x) (hf : f_X11_scene x p1 p2 p3 p4 = some (r9, w9)) : Cl g (d + 2) 5 25 MX11_scene [.ref (ad 11 0), .int p1, .int p2, .int p3, .int p4] (Rep g ad x m) (PK g ad m r9 w9) := by
  refine Cl.to (Lv := [some (.ref (ad 11 0)), some (.int p1), some (.int p2), some (.int p3), some (.int p4), none]) okX11_scene (Nat.le_of_ble_eq_true rfl) rfl ?_
  unfold f_X11_scene at hf
  obtain ⟨r, hr, hf⟩ := elimP (Φ := fun z => z = some (r9, w9)) (fun z => by cases z) hf
  refine e_aload_n dX11_scene_0 rfl rfl ?_
  refine e_iload_n dX11_scene_1 rfl rfl ?_
  refine y_callV (c := 11) (i := 0) (As := [.int p1]) (rest := []) (w := some (va_rf (r.map (ad 5)))) okX11_pictureAt lkX11_164 rfl (by decide) rfl dX11_scene_2 rfl rfl (Nat.le_of_ble_eq_true rfl) rfl (c_X11_pictureAt p1 hr ⟨rfl, rfl, rfl⟩) ?_
  cases r with
  | none =>
    replace hf : f_X11_refused x (-1) = some (r9, w9) := hf
    refine e_astoreN (L' := [some (.ref (ad 11 0)), some (.int p1), some (.int p2), some (.int p3), some (.int p4), some (.null)]) dX11_scene_5 (by decide) rfl ?_
    refine e_aloadN dX11_scene_7 rfl ?_
    refine e_ifnullN (tgt := 23) dX11_scene_9 rfl ?_
    exact e_more (Nat.zero_le _) (Nat.zero_le _) (e_post (PK.of rfl rfl) (rf_X11_scene_23 (Q := FQ (some (.int r9)) w9 m) p1 p2 p3 p4 _ hf ⟨rfl, rfl, rfl⟩))
  | some i =>
    replace hf := hf
    obtain ⟨hl, hf⟩ := chkP (Φ := fun z => z = some (r9, w9)) (fun z => by cases z) hf
    obtain ⟨b, hb, hf⟩ := elimP (Φ := fun z => z = some (r9, w9)) (fun z => by cases z) hf
    refine e_astore (L' := [some (.ref (ad 11 0)), some (.int p1), some (.int p2), some (.int p3), some (.int p4), some (.ref (ad 5 i))]) dX11_scene_5 (by decide) rfl ?_
    refine e_aload dX11_scene_7 rfl ?_
    refine e_ifnull dX11_scene_9 ?_
    refine e_pc (pc' := 12) rfl ?_
    refine e_iload_n dX11_scene_12 rfl rfl ?_
    refine e_aload_n dX11_scene_13 rfl rfl ?_
    refine y_get (v := .int (x.1 1113 0)) (by decide) flX11_85 dX11_scene_14 rfl rfl ?_
    refine y_callS (As := [.int p3, .int (x.1 1113 0)]) (rest := []) (w := .int b) okX11_hasBitBeyond lkX11_232 dX11_scene_17 rfl rfl (Nat.le_of_ble_eq_true rfl) (c_X11_hasBitBeyond p3 (x.1 1113 0) hb ⟨rfl, rfl, rfl⟩) ?_
    refine e_pc (pc' := 20) rfl ?_
    refine e_if_eq (tgt := 29) dX11_scene_20 rfl (fun h1 => ?_) (fun h1 => ?_)
    rotate_left
    · rw [if_neg h1] at hf
      exact e_more (Nat.zero_le _) (Nat.zero_le _) (e_post (PK.of rfl rfl) (rf_X11_scene_23 (Q := FQ (some (.int r9)) w9 m) p1 p2 p3 p4 _ hf ⟨rfl, rfl, rfl⟩))
    rw [if_pos h1] at hf
    refine e_iload_n dX11_scene_29 rfl rfl ?_
    refine e_if_lt (tgt := 59) dX11_scene_30 rfl (fun h2 => ?_) (fun h2 => ?_)
    · rw [if_pos h2] at hf
      exact e_more (Nat.zero_le _) (Nat.zero_le _) (e_post (PK.of rfl rfl) (rf_X11_scene_59 (Q := FQ (some (.int r9)) w9 m) p1 p2 p3 p4 _ hf ⟨rfl, rfl, rfl⟩))
    rw [if_neg h2] at hf
    refine e_iload_n dX11_scene_33 rfl rfl ?_
    refine e_bipush (v := 9) dX11_scene_34 rfl ?_
    refine e_icmp_gt (tgt := 59) dX11_scene_36 rfl (fun h3 => ?_) (fun h3 => ?_)
    · rw [if_pos h3] at hf
      exact e_more (Nat.zero_le _) (Nat.zero_le _) (e_post (PK.of rfl rfl) (rf_X11_scene_59 (Q := FQ (some (.int r9)) w9 m) p1 p2 p3 p4 _ hf ⟨rfl, rfl, rfl⟩))
    rw [if_neg h3] at hf
    refine e_iload dX11_scene_39 rfl ?_
    refine e_iconst (v := 1) dX11_scene_41 rfl ?_
    refine e_icmp_lt (tgt := 59) dX11_scene_42 rfl (fun h4 => ?_) (fun h4 => ?_)
    · rw [if_pos h4] at hf
      exact e_more (Nat.zero_le _) (Nat.zero_le _) (e_post (PK.of rfl rfl) (rf_X11_scene_59 (Q := FQ (some (.int r9)) w9 m) p1 p2 p3 p4 _ hf ⟨rfl, rfl, rfl⟩))
    rw [if_neg h4] at hf
    refine e_iload dX11_scene_45 rfl ?_
    refine e_iconst (v := 4) dX11_scene_47 rfl ?_
    refine e_icmp_gt (tgt := 59) dX11_scene_48 rfl (fun h5 => ?_) (fun h5 => ?_)
    · rw [if_pos h5] at hf
      exact e_more (Nat.zero_le _) (Nat.zero_le _) (e_post (PK.of rfl rfl) (rf_X11_scene_59 (Q := FQ (some (.int r9)) w9 m) p1 p2 p3 p4 _ hf ⟨rfl, rfl, rfl⟩))
    rw [if_neg h5] at hf
    refine e_aload dX11_scene_51 rfl ?_
    refine y_get (v := .int (x.1 503 i)) (by decide) flX11_235 dX11_scene_53 (lv_c5.mpr hl) rfl ?_
    refine e_if_eq (tgt := 66) dX11_scene_56 rfl (fun h6 => ?_) (fun h6 => ?_)
    rotate_left
    · rw [if_neg h6] at hf
      exact e_more (Nat.zero_le _) (Nat.zero_le _) (e_post (PK.of rfl rfl) (rf_X11_scene_59 (Q := FQ (some (.int r9)) w9 m) p1 p2 p3 p4 _ hf ⟨rfl, rfl, rfl⟩))
    rw [if_pos h6] at hf
    refine e_aload dX11_scene_66 rfl ?_
    refine y_get (v := .int (x.1 502 i)) (by decide) flX11_238 dX11_scene_68 (lv_c5.mpr hl) rfl ?_
    refine e_bipush (v := 8) dX11_scene_71 rfl ?_
    refine e_icmp_lt (tgt := 83) dX11_scene_73 rfl (fun h7 => ?_) (fun h7 => ?_)
    rotate_left
    · rw [if_neg h7] at hf
      exact e_more (Nat.zero_le _) (Nat.zero_le _) (e_post (PK.of rfl rfl) (rf_X11_scene_76 (Q := FQ (some (.int r9)) w9 m) p1 p2 p3 p4 _ hf ⟨rfl, rfl, rfl⟩))
    rw [if_pos h7] at hf
    replace hf := Prod.mk.inj (Option.some.inj hf)
    have hKi := hK.2.2.2 i hl
    have hlt : x.2.2.2 (20 + i) < 8 := by
      rw [hKi.1] at h7
      exact (nI_ltI (by have := hKi.2; omega) (b := 8) (by decide)).mp h7
    have es : (setN x 0 0).2.2.2 (20 + i) = x.2.2.2 (20 + i) := if_neg (by omega)
    refine e_aload_n dX11_scene_83 rfl rfl ?_
    refine y_get (v := .ref (ad 3 0)) (by decide) flX11_50 dX11_scene_84 rfl rfl ?_
    refine y_callV (c := 3) (i := 0) (As := []) (rest := []) (w := none) (x1 := setN x 0 0) (m1 := m) okX3_forget lkX11_241 rfl (by decide) rfl dX11_scene_87 rfl rfl (Nat.le_of_ble_eq_true rfl) rfl (c_X3_forget rfl ⟨rfl, rfl, rfl⟩) ?_
    refine e_pc (pc' := 90) rfl ?_
    refine e_aload dX11_scene_90 rfl ?_
    refine y_get (v := .ref (ad 1501 i)) (by decide) flX11_244 dX11_scene_92 (show i < x.2.2.2 5 from hl) rfl ?_
    refine e_aload dX11_scene_95 rfl ?_
    refine y_get (v := .int (x.1 502 i)) (by decide) flX11_238 dX11_scene_97 (show i < x.2.2.2 5 from hl) rfl ?_
    refine y_new (c := 8) (n := 9) (kc := 4) (ks := 16) rfl rfl clX11_248 itX8 iniX8 dX11_scene_100 rfl rfl (fun n0 => ?_)
    refine e_dup dX11_scene_103 rfl ?_
    refine e_iload_n dX11_scene_104 rfl rfl ?_
    refine e_iload_n dX11_scene_105 rfl rfl ?_
    refine e_iload dX11_scene_106 rfl ?_
    refine k_init (As := [.int p2, .int p3, .int p4]) (rest := [.ref (n0 + 0), .int (x.1 502 i), .ref (ad 1501 i)]) (mc := 4) (ms := 16) (kc := 0) (ks := 0) (bs' := z8 n0 p2 p3 p4) okX8_init lkX11_250 rfl rfl dX11_scene_108 rfl rfl (Nat.le_of_ble_eq_true rfl) rfl rfl (i_X8 p2 p3 p4) ?_
    refine e_pc (pc' := 111) rfl ?_
    refine y_into8 (x := setN x 0 0) p2 p3 p4 dX11_scene_111 (KX_found 0 hK) hl (by rw [es]; exact hlt) ?_
    refine e_pc (pc' := 112) rfl ?_
    have e11 : adN ad 8 (8 * i + (setN x 0 0).2.2.2 (20 + i)) n0 ap8 11 0 = ad 11 0 := adN_oo (by decide) (fun h => absurd h.1 (by decide))
    have e12 : adN ad 8 (8 * i + (setN x 0 0).2.2.2 (20 + i)) n0 ap8 12 0 = ad 12 0 := adN_oo (by decide) (fun h => absurd h.1 (by decide))
    have e5 : adN ad 8 (8 * i + (setN x 0 0).2.2.2 (20 + i)) n0 ap8 5 i = ad 5 i := adN_oo (by decide) (fun h => absurd h.1 (by decide))
    have t := t_X11_scene (g := g) (d := d + 2) (ad := adN ad 8 (8 * i + (setN x 0 0).2.2.2 (20 + i)) n0 ap8) (x := nw8 (setN x 0 0) i p2 p3 p4) (m := m) (Q := FQ (some (.int r9)) w9 m) p1 p2 p3 p4 (i := i) (by rw [nw8_n (by omega)]; exact hl) ⟨by rw [← hf.1], hf.2, rfl⟩
    rw [e11, e5] at t
    exact e_post (PK.of e11 e12) t
