def o0_0 (n0 : Nat) : Nat → Value := fun k => defaultValue (tyC 0 k)
def o0_1 (n0 : Nat) : Nat → Value := updV (o0_0 n0) 0 (.ref (n0 + 1))
def o0_2 (n0 : Nat) : Nat → Value := updV (o0_1 n0) 1 (.ref (n0 + 2))
def z0 (n0 : Nat) : List CE := (.inr (0, (o0_2 n0)) :: [zI 3721, zI 60])
theorem i_X0 {g : GG} {d : Nat} {A : Heap → Prop} {n0 : Nat} : Cl g (d + 1) 2 3781 MX0_init [.ref (n0 + 0)] (CK g A n0 [dfo 0]) (fun v H => v = none ∧ CK g A n0 (z0 n0) H) := by
  refine Cl.to (Lv := [some (.ref (n0 + 0))]) okX0_init (Nat.le_of_ble_eq_true rfl) rfl ?_
  refine k_eq (bs' := (.inr (0, (o0_0 n0)) :: [])) rfl ?_
  refine e_aload_n dX0_init_0 rfl rfl ?_
  refine e_objInit obX0_3 dX0_init_1 (by decide) ?_
  refine e_aload_n dX0_init_4 rfl rfl ?_
  refine e_sipush (v := 3721) dX0_init_5 rfl ?_
  refine k_int (N := 3721) (b := 1) (kc := 1) (ks := 60) (by decide) rfl (by decide) dX0_init_8 rfl rfl rfl ?_
  refine k_putF (k := 0) (fs := (o0_0 n0)) (bs' := (.inr (0, (o0_1 n0)) :: [zI 3721])) flX0_11 (fun _ h => by cases h; exact ⟨rfl, rfl⟩) rfl dX0_init_10 rfl rfl rfl rfl ?_
  refine e_aload_n dX0_init_13 rfl rfl ?_
  refine e_pc (pc' := 14) rfl ?_
  refine e_bipush (v := 60) dX0_init_14 rfl ?_
  refine k_int (N := 60) (b := 2) (kc := 0) (ks := 0) (by decide) rfl (by decide) dX0_init_16 rfl rfl rfl ?_
  refine k_putF (k := 0) (fs := (o0_1 n0)) (bs' := (.inr (0, (o0_2 n0)) :: [zI 3721, zI 60])) flX0_15 (fun _ h => by cases h; exact ⟨rfl, rfl⟩) rfl dX0_init_18 rfl rfl rfl rfl ?_
  exact k_ret dX0_init_21 rfl rfl
def o1_0 (n0 : Nat) (a1 : Int32) (a2 : Int32) (a3 : Int32) : Nat → Value := fun k => defaultValue (tyC 1 k)
def o1_1 (n0 : Nat) (a1 : Int32) (a2 : Int32) (a3 : Int32) : Nat → Value := updV (o1_0 n0 a1 a2 a3) 3 (.ref (n0 + 1))
def o1_2 (n0 : Nat) (a1 : Int32) (a2 : Int32) (a3 : Int32) : Nat → Value := updV (o1_1 n0 a1 a2 a3) 4 (.ref (n0 + 2))
def o1_3 (n0 : Nat) (a1 : Int32) (a2 : Int32) (a3 : Int32) : Nat → Value := updV (o1_2 n0 a1 a2 a3) 5 (.int 0)
def o1_4 (n0 : Nat) (a1 : Int32) (a2 : Int32) (a3 : Int32) : Nat → Value := updV (o1_3 n0 a1 a2 a3) 0 (.int a1)
def o1_5 (n0 : Nat) (a1 : Int32) (a2 : Int32) (a3 : Int32) : Nat → Value := updV (o1_4 n0 a1 a2 a3) 1 (.int a2)
def o1_6 (n0 : Nat) (a1 : Int32) (a2 : Int32) (a3 : Int32) : Nat → Value := updV (o1_5 n0 a1 a2 a3) 2 (.int a3)
def z1 (n0 : Nat) (a1 : Int32) (a2 : Int32) (a3 : Int32) : List CE := (.inr (1, (o1_6 n0 a1 a2 a3)) :: [(.inl (.int, (40, .inl (fil (-1) 40))) : CE), zB 40])
theorem i_X1 {g : GG} {d : Nat} {A : Heap → Prop} {n0 : Nat} (a1 : Int32) (a2 : Int32) (a3 : Int32) : Cl g (d + 1) 2 80 MX1_init [.ref (n0 + 0), .int a1, .int a2, .int a3] (CK g A n0 [dfo 1]) (fun v H => v = none ∧ CK g A n0 (z1 n0 a1 a2 a3) H) := by
  refine Cl.to (Lv := [some (.ref (n0 + 0)), some (.int a1), some (.int a2), some (.int a3), none]) okX1_init (Nat.le_of_ble_eq_true rfl) rfl ?_
  refine k_eq (bs' := (.inr (1, (o1_0 n0 a1 a2 a3)) :: [])) rfl ?_
  refine e_aload_n dX1_init_0 rfl rfl ?_
  refine e_objInit obX1_3 dX1_init_1 (by decide) ?_
  refine e_aload_n dX1_init_4 rfl rfl ?_
  refine e_bipush (v := 40) dX1_init_5 rfl ?_
  refine k_int (N := 40) (b := 1) (kc := 1) (ks := 40) (by decide) rfl (by decide) dX1_init_7 rfl rfl rfl ?_
  refine k_putF (k := 0) (fs := (o1_0 n0 a1 a2 a3)) (bs' := (.inr (1, (o1_1 n0 a1 a2 a3)) :: [zI 40])) flX1_9 (fun _ h => by cases h; exact ⟨rfl, rfl⟩) rfl dX1_init_9 rfl rfl rfl rfl ?_
  refine e_aload_n dX1_init_12 rfl rfl ?_
  refine e_pc (pc' := 13) rfl ?_
  refine e_bipush (v := 40) dX1_init_13 rfl ?_
  refine k_bool (N := 40) (b := 2) (kc := 0) (ks := 0) (by decide) rfl (by decide) dX1_init_15 rfl rfl rfl ?_
  refine k_putF (k := 0) (fs := (o1_1 n0 a1 a2 a3)) (bs' := (.inr (1, (o1_2 n0 a1 a2 a3)) :: [zI 40, zB 40])) flX1_15 (fun _ h => by cases h; exact ⟨rfl, rfl⟩) rfl dX1_init_17 rfl rfl rfl rfl ?_
  refine e_aload_n dX1_init_20 rfl rfl ?_
  refine e_iconst (v := 0) dX1_init_21 rfl ?_
  refine k_put (k := 0) (fs := (o1_2 n0 a1 a2 a3)) (bs' := (.inr (1, (o1_3 n0 a1 a2 a3)) :: [zI 40, zB 40])) flX1_19 (fun _ h => by cases h; rfl) dX1_init_22 rfl rfl rfl rfl ?_
  refine e_aload_n dX1_init_25 rfl rfl ?_
  refine e_iload_n dX1_init_26 rfl rfl ?_
  refine e_pc (pc' := 27) rfl ?_
  refine k_putF (k := 0) (fs := (o1_3 n0 a1 a2 a3)) (bs' := (.inr (1, (o1_4 n0 a1 a2 a3)) :: [zI 40, zB 40])) flX1_23 (fun _ h => by cases h; exact ⟨rfl, rfl⟩) rfl dX1_init_27 rfl rfl rfl rfl ?_
  refine e_aload_n dX1_init_30 rfl rfl ?_
  refine e_iload_n dX1_init_31 rfl rfl ?_
  refine k_putF (k := 0) (fs := (o1_4 n0 a1 a2 a3)) (bs' := (.inr (1, (o1_5 n0 a1 a2 a3)) :: [zI 40, zB 40])) flX1_26 (fun _ h => by cases h; exact ⟨rfl, rfl⟩) rfl dX1_init_32 rfl rfl rfl rfl ?_
  refine e_aload_n dX1_init_35 rfl rfl ?_
  refine e_iload_n dX1_init_36 rfl rfl ?_
  refine k_putF (k := 0) (fs := (o1_5 n0 a1 a2 a3)) (bs' := (.inr (1, (o1_6 n0 a1 a2 a3)) :: [zI 40, zB 40])) flX1_29 (fun _ h => by cases h; exact ⟨rfl, rfl⟩) rfl dX1_init_37 rfl rfl rfl rfl ?_
  refine e_iconst (v := 0) dX1_init_40 rfl ?_
  refine e_pc (pc' := 41) rfl ?_
  refine e_istore (L' := [some (.ref (n0 + 0)), some (.int a1), some (.int a2), some (.int a3), some (.int 0)]) dX1_init_41 (by decide) rfl ?_
  refine k_eq (bs' := (.inr (1, (o1_6 n0 a1 a2 a3)) :: [(.inl (.int, (40, .inl (fil (-1) 0))) : CE), zB 40])) (by rw [← fil_0]) ?_
  refine k_for (N := 40) (S := (fun i => CK g A n0 (.inr (1, (o1_6 n0 a1 a2 a3)) :: [(.inl (.int, (40, .inl (fil (-1) i))) : CE), zB 40]))) (Lf := fun i => [some (.ref (n0 + 0)), some (.int a1), some (.int a2), some (.int a3), some (.int (nI i))]) (fun i hi ih => ?_) ?_
  · refine e_iload dX1_init_43 rfl ?_
    refine e_bipush (v := 40) dX1_init_45 rfl ?_
    refine e_icmp_ge (tgt := 64) dX1_init_47 rfl (fun h => absurd h (nI_ge (b := 40) hi (by decide))) (fun _ => ?_)
    refine e_aload_n dX1_init_50 rfl rfl ?_
    refine k_get (k := 0) (v := .ref (n0 + 1)) flX1_9 dX1_init_51 rfl rfl ?_
    refine e_iload dX1_init_54 rfl ?_
    refine e_iconst (v := (-1)) dX1_init_56 rfl ?_
    refine k_iast (k := 1) (n := 40) (f := fil (-1) i) (bs' := (.inr (1, (o1_6 n0 a1 a2 a3)) :: [(.inl (.int, (40, .inl (fil (-1) (i + 1)))) : CE), zB 40])) dX1_init_57 rfl (nI_in (N := 40) (Nat.lt_of_lt_of_le hi (by decide)) (by decide)) (by rw [fil_s (-1) hi (by decide)]; rfl) ?_
    refine e_iinc (v := nI (i + 1)) (L' := [some (.ref (n0 + 0)), some (.int a1), some (.int a2), some (.int a3), some (.int (nI (i + 1)))]) dX1_init_58 rfl (nI_1 i) (by decide) rfl ?_
    refine e_goto (tgt := 43) dX1_init_61 rfl ?_
    exact ih
  refine e_iload dX1_init_43 rfl ?_
  refine e_bipush (v := 40) dX1_init_45 rfl ?_
  refine e_icmp_ge (tgt := 64) dX1_init_47 rfl (fun _ => ?_) (fun h => absurd (by decide) h)
  exact k_ret dX1_init_64 rfl rfl
def o2_0 (n0 : Nat) : Nat → Value := fun k => defaultValue (tyC 2 k)
def o2_1 (n0 : Nat) : Nat → Value := updV (o2_0 n0) 0 (.ref (n0 + 1))
def o2_2 (n0 : Nat) : Nat → Value := updV (o2_1 n0) 1 (.ref (n0 + 2))
def o2_3 (n0 : Nat) : Nat → Value := updV (o2_2 n0) 2 (.int 0)
def z2 (n0 : Nat) : List CE := (.inr (2, (o2_3 n0)) :: [zI 8, zI 8])
theorem i_X2 {g : GG} {d : Nat} {A : Heap → Prop} {n0 : Nat} : Cl g (d + 1) 2 16 MX2_init [.ref (n0 + 0)] (CK g A n0 [dfo 2]) (fun v H => v = none ∧ CK g A n0 (z2 n0) H) := by
  refine Cl.to (Lv := [some (.ref (n0 + 0))]) okX2_init (Nat.le_of_ble_eq_true rfl) rfl ?_
  refine k_eq (bs' := (.inr (2, (o2_0 n0)) :: [])) rfl ?_
  refine e_aload_n dX2_init_0 rfl rfl ?_
  refine e_objInit obX2_3 dX2_init_1 (by decide) ?_
  refine e_aload_n dX2_init_4 rfl rfl ?_
  refine e_bipush (v := 8) dX2_init_5 rfl ?_
  refine k_int (N := 8) (b := 1) (kc := 1) (ks := 8) (by decide) rfl (by decide) dX2_init_7 rfl rfl rfl ?_
  refine k_putF (k := 0) (fs := (o2_0 n0)) (bs' := (.inr (2, (o2_1 n0)) :: [zI 8])) flX2_9 (fun _ h => by cases h; exact ⟨rfl, rfl⟩) rfl dX2_init_9 rfl rfl rfl rfl ?_
  refine e_aload_n dX2_init_12 rfl rfl ?_
  refine e_pc (pc' := 13) rfl ?_
  refine e_bipush (v := 8) dX2_init_13 rfl ?_
  refine k_int (N := 8) (b := 2) (kc := 0) (ks := 0) (by decide) rfl (by decide) dX2_init_15 rfl rfl rfl ?_
  refine k_putF (k := 0) (fs := (o2_1 n0)) (bs' := (.inr (2, (o2_2 n0)) :: [zI 8, zI 8])) flX2_15 (fun _ h => by cases h; exact ⟨rfl, rfl⟩) rfl dX2_init_17 rfl rfl rfl rfl ?_
  refine e_aload_n dX2_init_20 rfl rfl ?_
  refine e_iconst (v := 0) dX2_init_21 rfl ?_
  refine k_put (k := 0) (fs := (o2_2 n0)) (bs' := (.inr (2, (o2_3 n0)) :: [zI 8, zI 8])) flX2_18 (fun _ h => by cases h; rfl) dX2_init_22 rfl rfl rfl rfl ?_
  exact k_ret dX2_init_25 rfl rfl
def o3_0 (n0 : Nat) : Nat → Value := fun k => defaultValue (tyC 3 k)
def o3_1 (n0 : Nat) : Nat → Value := updV (o3_0 n0) 0 (.ref (n0 + 1))
def o3_2 (n0 : Nat) : Nat → Value := updV (o3_1 n0) 1 (.int 0)
def o3_3 (n0 : Nat) : Nat → Value := updV (o3_2 n0) 2 (.int 0)
def o3_4 (n0 : Nat) : Nat → Value := updV (o3_3 n0) 3 (.ref (n0 + 2))
def o3_5 (n0 : Nat) : Nat → Value := updV (o3_4 n0) 4 (.ref (n0 + 3))
def o3_6 (n0 : Nat) : Nat → Value := updV (o3_5 n0) 5 (.null)
def o3_7 (n0 : Nat) : Nat → Value := updV (o3_6 n0) 6 (.ref (n0 + 4))
def o3_8 (n0 : Nat) : Nat → Value := updV (o3_7 n0) 7 (.ref (n0 + 5))
def z3 (n0 : Nat) : List CE := (.inr (3, (o3_8 n0)) :: [zI 16, zI 8, zI 8, zI 256, zI 2048])
theorem i_X3 {g : GG} {d : Nat} {A : Heap → Prop} {n0 : Nat} : Cl g (d + 1) 5 2336 MX3_init [.ref (n0 + 0)] (CK g A n0 [dfo 3]) (fun v H => v = none ∧ CK g A n0 (z3 n0) H) := by
  refine Cl.to (Lv := [some (.ref (n0 + 0))]) okX3_init (Nat.le_of_ble_eq_true rfl) rfl ?_
  refine k_eq (bs' := (.inr (3, (o3_0 n0)) :: [])) rfl ?_
  refine e_aload_n dX3_init_0 rfl rfl ?_
  refine e_objInit obX3_3 dX3_init_1 (by decide) ?_
  refine e_aload_n dX3_init_4 rfl rfl ?_
  refine e_bipush (v := 16) dX3_init_5 rfl ?_
  refine k_int (N := 16) (b := 1) (kc := 4) (ks := 2320) (by decide) rfl (by decide) dX3_init_7 rfl rfl rfl ?_
  refine k_putF (k := 0) (fs := (o3_0 n0)) (bs' := (.inr (3, (o3_1 n0)) :: [zI 16])) flX3_9 (fun _ h => by cases h; exact ⟨rfl, rfl⟩) rfl dX3_init_9 rfl rfl rfl rfl ?_
  refine e_aload_n dX3_init_12 rfl rfl ?_
  refine e_pc (pc' := 13) rfl ?_
  refine e_iconst (v := 0) dX3_init_13 rfl ?_
  refine k_put (k := 0) (fs := (o3_1 n0)) (bs' := (.inr (3, (o3_2 n0)) :: [zI 16])) flX3_15 (fun _ h => by cases h; rfl) dX3_init_14 rfl rfl rfl rfl ?_
  refine e_aload_n dX3_init_17 rfl rfl ?_
  refine e_iconst (v := 0) dX3_init_18 rfl ?_
  refine k_put (k := 0) (fs := (o3_2 n0)) (bs' := (.inr (3, (o3_3 n0)) :: [zI 16])) flX3_19 (fun _ h => by cases h; rfl) dX3_init_19 rfl rfl rfl rfl ?_
  refine e_aload_n dX3_init_22 rfl rfl ?_
  refine e_bipush (v := 8) dX3_init_23 rfl ?_
  refine k_int (N := 8) (b := 2) (kc := 3) (ks := 2312) (by decide) rfl (by decide) dX3_init_25 rfl rfl rfl ?_
  refine e_pc (pc' := 27) rfl ?_
  refine k_putF (k := 0) (fs := (o3_3 n0)) (bs' := (.inr (3, (o3_4 n0)) :: [zI 16, zI 8])) flX3_22 (fun _ h => by cases h; exact ⟨rfl, rfl⟩) rfl dX3_init_27 rfl rfl rfl rfl ?_
  refine e_aload_n dX3_init_30 rfl rfl ?_
  refine e_bipush (v := 8) dX3_init_31 rfl ?_
  refine k_int (N := 8) (b := 3) (kc := 2) (ks := 2304) (by decide) rfl (by decide) dX3_init_33 rfl rfl rfl ?_
  refine k_putF (k := 0) (fs := (o3_4 n0)) (bs' := (.inr (3, (o3_5 n0)) :: [zI 16, zI 8, zI 8])) flX3_25 (fun _ h => by cases h; exact ⟨rfl, rfl⟩) rfl dX3_init_35 rfl rfl rfl rfl ?_
  refine e_aload_n dX3_init_38 rfl rfl ?_
  refine e_null dX3_init_39 ?_
  refine k_put (k := 0) (fs := (o3_5 n0)) (bs' := (.inr (3, (o3_6 n0)) :: [zI 16, zI 8, zI 8])) flX3_28 (fun _ h => by cases h; rfl) dX3_init_40 rfl rfl rfl rfl ?_
  refine e_pc (pc' := 43) rfl ?_
  refine e_aload_n dX3_init_43 rfl rfl ?_
  refine e_sipush (v := 256) dX3_init_44 rfl ?_
  refine k_int (N := 256) (b := 4) (kc := 1) (ks := 2048) (by decide) rfl (by decide) dX3_init_47 rfl rfl rfl ?_
  refine k_putF (k := 0) (fs := (o3_6 n0)) (bs' := (.inr (3, (o3_7 n0)) :: [zI 16, zI 8, zI 8, zI 256])) flX3_32 (fun _ h => by cases h; exact ⟨rfl, rfl⟩) rfl dX3_init_49 rfl rfl rfl rfl ?_
  refine e_aload_n dX3_init_52 rfl rfl ?_
  refine e_sipush (v := 2048) dX3_init_53 rfl ?_
  refine k_int (N := 2048) (b := 5) (kc := 0) (ks := 0) (by decide) rfl (by decide) dX3_init_56 rfl rfl rfl ?_
  refine k_putF (k := 0) (fs := (o3_7 n0)) (bs' := (.inr (3, (o3_8 n0)) :: [zI 16, zI 8, zI 8, zI 256, zI 2048])) flX3_35 (fun _ h => by cases h; exact ⟨rfl, rfl⟩) rfl dX3_init_58 rfl rfl rfl rfl ?_
  refine e_pc (pc' := 61) rfl ?_
  exact k_ret dX3_init_61 rfl rfl
def o4_0 (n0 : Nat) (a1 : Int32) : Nat → Value := fun k => defaultValue (tyC 4 k)
def o4_1 (n0 : Nat) (a1 : Int32) : Nat → Value := updV (o4_0 n0 a1) 1 (.ref (n0 + 1))
def o4_2 (n0 : Nat) (a1 : Int32) : Nat → Value := updV (o4_1 n0 a1) 2 (.ref (n0 + 2))
def o4_3 (n0 : Nat) (a1 : Int32) : Nat → Value := updV (o4_2 n0 a1) 3 (.int 0)
def o4_4 (n0 : Nat) (a1 : Int32) : Nat → Value := updV (o4_3 n0 a1) 4 (.int 0)
def o4_5 (n0 : Nat) (a1 : Int32) : Nat → Value := updV (o4_4 n0 a1) 5 (.int (-1))
def o4_6 (n0 : Nat) (a1 : Int32) : Nat → Value := updV (o4_5 n0 a1) 6 (.int 0)
def o4_7 (n0 : Nat) (a1 : Int32) : Nat → Value := updV (o4_6 n0 a1) 7 (.int (-1))
def o4_8 (n0 : Nat) (a1 : Int32) : Nat → Value := updV (o4_7 n0 a1) 8 (.int 0)
def o4_9 (n0 : Nat) (a1 : Int32) : Nat → Value := updV (o4_8 n0 a1) 9 (.int 0)
def o4_10 (n0 : Nat) (a1 : Int32) : Nat → Value := updV (o4_9 n0 a1) 10 (.int 0)
def o4_11 (n0 : Nat) (a1 : Int32) : Nat → Value := updV (o4_10 n0 a1) 11 (.int 0)
def o4_12 (n0 : Nat) (a1 : Int32) : Nat → Value := updV (o4_11 n0 a1) 12 (.int 0)
def o4_13 (n0 : Nat) (a1 : Int32) : Nat → Value := updV (o4_12 n0 a1) 13 (.int 0)
def o4_14 (n0 : Nat) (a1 : Int32) : Nat → Value := updV (o4_13 n0 a1) 0 (.int a1)
def z4 (n0 : Nat) (a1 : Int32) : List CE := (.inr (4, (o4_14 n0 a1)) :: [zI 6, zJ 60])
theorem i_X4 {g : GG} {d : Nat} {A : Heap → Prop} {n0 : Nat} (a1 : Int32) : Cl g (d + 1) 2 66 MX4_init [.ref (n0 + 0), .int a1] (CK g A n0 [dfo 4]) (fun v H => v = none ∧ CK g A n0 (z4 n0 a1) H) := by
  refine Cl.to (Lv := [some (.ref (n0 + 0)), some (.int a1)]) okX4_init (Nat.le_of_ble_eq_true rfl) rfl ?_
  refine k_eq (bs' := (.inr (4, (o4_0 n0 a1)) :: [])) rfl ?_
  refine e_aload_n dX4_init_0 rfl rfl ?_
  refine e_objInit obX4_3 dX4_init_1 (by decide) ?_
  refine e_aload_n dX4_init_4 rfl rfl ?_
  refine e_bipush (v := 6) dX4_init_5 rfl ?_
  refine k_int (N := 6) (b := 1) (kc := 1) (ks := 60) (by decide) rfl (by decide) dX4_init_7 rfl rfl rfl ?_
  refine k_putF (k := 0) (fs := (o4_0 n0 a1)) (bs' := (.inr (4, (o4_1 n0 a1)) :: [zI 6])) flX4_9 (fun _ h => by cases h; exact ⟨rfl, rfl⟩) rfl dX4_init_9 rfl rfl rfl rfl ?_
  refine e_aload_n dX4_init_12 rfl rfl ?_
  refine e_pc (pc' := 13) rfl ?_
  refine e_bipush (v := 60) dX4_init_13 rfl ?_
  refine k_long (N := 60) (b := 2) (kc := 0) (ks := 0) (by decide) rfl (by decide) dX4_init_15 rfl rfl rfl ?_
  refine k_putF (k := 0) (fs := (o4_1 n0 a1)) (bs' := (.inr (4, (o4_2 n0 a1)) :: [zI 6, zJ 60])) flX4_15 (fun _ h => by cases h; exact ⟨rfl, rfl⟩) rfl dX4_init_17 rfl rfl rfl rfl ?_
  refine e_aload_n dX4_init_20 rfl rfl ?_
  refine e_iconst (v := 0) dX4_init_21 rfl ?_
  refine k_put (k := 0) (fs := (o4_2 n0 a1)) (bs' := (.inr (4, (o4_3 n0 a1)) :: [zI 6, zJ 60])) flX4_19 (fun _ h => by cases h; rfl) dX4_init_22 rfl rfl rfl rfl ?_
  refine e_aload_n dX4_init_25 rfl rfl ?_
  refine e_iconst (v := 0) dX4_init_26 rfl ?_
  refine e_pc (pc' := 27) rfl ?_
  refine k_put (k := 0) (fs := (o4_3 n0 a1)) (bs' := (.inr (4, (o4_4 n0 a1)) :: [zI 6, zJ 60])) flX4_23 (fun _ h => by cases h; rfl) dX4_init_27 rfl rfl rfl rfl ?_
  refine e_aload_n dX4_init_30 rfl rfl ?_
  refine e_iconst (v := (-1)) dX4_init_31 rfl ?_
  refine k_put (k := 0) (fs := (o4_4 n0 a1)) (bs' := (.inr (4, (o4_5 n0 a1)) :: [zI 6, zJ 60])) flX4_26 (fun _ h => by cases h; rfl) dX4_init_32 rfl rfl rfl rfl ?_
  refine e_aload_n dX4_init_35 rfl rfl ?_
  refine e_iconst (v := 0) dX4_init_36 rfl ?_
  refine k_put (k := 0) (fs := (o4_5 n0 a1)) (bs' := (.inr (4, (o4_6 n0 a1)) :: [zI 6, zJ 60])) flX4_29 (fun _ h => by cases h; rfl) dX4_init_37 rfl rfl rfl rfl ?_
  refine e_aload_n dX4_init_40 rfl rfl ?_
  refine e_pc (pc' := 41) rfl ?_
  refine e_iconst (v := (-1)) dX4_init_41 rfl ?_
  refine k_put (k := 0) (fs := (o4_6 n0 a1)) (bs' := (.inr (4, (o4_7 n0 a1)) :: [zI 6, zJ 60])) flX4_33 (fun _ h => by cases h; rfl) dX4_init_42 rfl rfl rfl rfl ?_
  refine e_aload_n dX4_init_45 rfl rfl ?_
  refine e_iconst (v := 0) dX4_init_46 rfl ?_
  refine k_put (k := 0) (fs := (o4_7 n0 a1)) (bs' := (.inr (4, (o4_8 n0 a1)) :: [zI 6, zJ 60])) flX4_36 (fun _ h => by cases h; rfl) dX4_init_47 rfl rfl rfl rfl ?_
  refine e_aload_n dX4_init_50 rfl rfl ?_
  refine e_iconst (v := 0) dX4_init_51 rfl ?_
  refine k_put (k := 0) (fs := (o4_8 n0 a1)) (bs' := (.inr (4, (o4_9 n0 a1)) :: [zI 6, zJ 60])) flX4_39 (fun _ h => by cases h; rfl) dX4_init_52 rfl rfl rfl rfl ?_
  refine e_pc (pc' := 55) rfl ?_
  refine e_aload_n dX4_init_55 rfl rfl ?_
  refine e_iconst (v := 0) dX4_init_56 rfl ?_
  refine k_put (k := 0) (fs := (o4_9 n0 a1)) (bs' := (.inr (4, (o4_10 n0 a1)) :: [zI 6, zJ 60])) flX4_42 (fun _ h => by cases h; rfl) dX4_init_57 rfl rfl rfl rfl ?_
  refine e_aload_n dX4_init_60 rfl rfl ?_
  refine e_iconst (v := 0) dX4_init_61 rfl ?_
  refine k_put (k := 0) (fs := (o4_10 n0 a1)) (bs' := (.inr (4, (o4_11 n0 a1)) :: [zI 6, zJ 60])) flX4_45 (fun _ h => by cases h; rfl) dX4_init_62 rfl rfl rfl rfl ?_
  refine e_aload_n dX4_init_65 rfl rfl ?_
  refine e_iconst (v := 0) dX4_init_66 rfl ?_
  refine e_pc (pc' := 67) rfl ?_
  refine k_put (k := 0) (fs := (o4_11 n0 a1)) (bs' := (.inr (4, (o4_12 n0 a1)) :: [zI 6, zJ 60])) flX4_48 (fun _ h => by cases h; rfl) dX4_init_67 rfl rfl rfl rfl ?_
  refine e_aload_n dX4_init_70 rfl rfl ?_
  refine e_iconst (v := 0) dX4_init_71 rfl ?_
  refine k_put (k := 0) (fs := (o4_12 n0 a1)) (bs' := (.inr (4, (o4_13 n0 a1)) :: [zI 6, zJ 60])) flX4_51 (fun _ h => by cases h; rfl) dX4_init_72 rfl rfl rfl rfl ?_
  refine e_aload_n dX4_init_75 rfl rfl ?_
  refine e_iload_n dX4_init_76 rfl rfl ?_
  refine k_putF (k := 0) (fs := (o4_13 n0 a1)) (bs' := (.inr (4, (o4_14 n0 a1)) :: [zI 6, zJ 60])) flX4_54 (fun _ h => by cases h; exact ⟨rfl, rfl⟩) rfl dX4_init_77 rfl rfl rfl rfl ?_
  exact k_ret dX4_init_80 rfl rfl
def o5_0 (n0 : Nat) (a1 : Int32) : Nat → Value := fun k => defaultValue (tyC 5 k)
def o5_1 (n0 : Nat) (a1 : Int32) : Nat → Value := updV (o5_0 n0 a1) 1 (.ref (n0 + 1))
def o5_2 (n0 : Nat) (a1 : Int32) : Nat → Value := updV (o5_1 n0 a1) 2 (.int 0)
def o5_3 (n0 : Nat) (a1 : Int32) : Nat → Value := updV (o5_2 n0 a1) 3 (.int 0)
def o5_4 (n0 : Nat) (a1 : Int32) : Nat → Value := updV (o5_3 n0 a1) 4 (.ref (n0 + 2))
def o5_5 (n0 : Nat) (a1 : Int32) : Nat → Value := updV (o5_4 n0 a1) 5 (.int (-1))
def o5_6 (n0 : Nat) (a1 : Int32) : Nat → Value := updV (o5_5 n0 a1) 6 (.int 0)
def o5_7 (n0 : Nat) (a1 : Int32) : Nat → Value := updV (o5_6 n0 a1) 7 (.int 0)
def o5_8 (n0 : Nat) (a1 : Int32) : Nat → Value := updV (o5_7 n0 a1) 8 (.int 0)
def o5_9 (n0 : Nat) (a1 : Int32) : Nat → Value := updV (o5_8 n0 a1) 9 (.int 0)
def o5_10 (n0 : Nat) (a1 : Int32) : Nat → Value := updV (o5_9 n0 a1) 10 (.ref (n0 + 3))
def o5_11 (n0 : Nat) (a1 : Int32) : Nat → Value := updV (o5_10 n0 a1) 11 (.ref (n0 + 4))
def o5_12 (n0 : Nat) (a1 : Int32) : Nat → Value := updV (o5_11 n0 a1) 12 (.int 0)
def o5_13 (n0 : Nat) (a1 : Int32) : Nat → Value := updV (o5_12 n0 a1) 13 (.ref (n0 + 5))
def o5_14 (n0 : Nat) (a1 : Int32) : Nat → Value := updV (o5_13 n0 a1) 14 (.ref (n0 + 6))
def o5_15 (n0 : Nat) (a1 : Int32) : Nat → Value := updV (o5_14 n0 a1) 15 (.ref (n0 + 7))
def o5_16 (n0 : Nat) (a1 : Int32) : Nat → Value := updV (o5_15 n0 a1) 16 (.int 1)
def o5_17 (n0 : Nat) (a1 : Int32) : Nat → Value := updV (o5_16 n0 a1) 17 (.ref (n0 + 8))
def o5_18 (n0 : Nat) (a1 : Int32) : Nat → Value := updV (o5_17 n0 a1) 0 (.int a1)
def z5 (n0 : Nat) (a1 : Int32) : List CE := (.inr (5, (o5_18 n0 a1)) :: [zR RX8 8, zI 8, zJ 60, zI 60, (.inl (.int, (8, .inl (fil (-1) 8))) : CE), zI 4, zI 4, zI 8])
theorem i_X5 {g : GG} {d : Nat} {A : Heap → Prop} {n0 : Nat} (a1 : Int32) : Cl g (d + 1) 8 160 MX5_init [.ref (n0 + 0), .int a1] (CK g A n0 [dfo 5]) (fun v H => v = none ∧ CK g A n0 (z5 n0 a1) H) := by
  refine Cl.to (Lv := [some (.ref (n0 + 0)), some (.int a1), none]) okX5_init (Nat.le_of_ble_eq_true rfl) rfl ?_
  refine k_eq (bs' := (.inr (5, (o5_0 n0 a1)) :: [])) rfl ?_
  refine e_aload_n dX5_init_0 rfl rfl ?_
  refine e_objInit obX5_3 dX5_init_1 (by decide) ?_
  refine e_aload_n dX5_init_4 rfl rfl ?_
  refine e_bipush (v := 8) dX5_init_5 rfl ?_
  refine k_anew (k := 7) (C := RX8) (N := 8) (b := 1) (kc := 7) (ks := 152) rfl (by decide) clX5_9 (by decide) rfl (by decide) dX5_init_7 rfl rfl rfl ?_
  refine k_putF (k := 0) (fs := (o5_0 n0 a1)) (bs' := (.inr (5, (o5_1 n0 a1)) :: [zR RX8 8])) flX5_11 (fun _ h => by cases h; exact ⟨rfl, rfl⟩) rfl dX5_init_10 rfl rfl rfl rfl ?_
  refine e_aload_n dX5_init_13 rfl rfl ?_
  refine e_pc (pc' := 14) rfl ?_
  refine e_iconst (v := 0) dX5_init_14 rfl ?_
  refine k_put (k := 0) (fs := (o5_1 n0 a1)) (bs' := (.inr (5, (o5_2 n0 a1)) :: [zR RX8 8])) flX5_17 (fun _ h => by cases h; rfl) dX5_init_15 rfl rfl rfl rfl ?_
  refine e_aload_n dX5_init_18 rfl rfl ?_
  refine e_iconst (v := 0) dX5_init_19 rfl ?_
  refine k_put (k := 0) (fs := (o5_2 n0 a1)) (bs' := (.inr (5, (o5_3 n0 a1)) :: [zR RX8 8])) flX5_21 (fun _ h => by cases h; rfl) dX5_init_20 rfl rfl rfl rfl ?_
  refine e_aload_n dX5_init_23 rfl rfl ?_
  refine e_bipush (v := 8) dX5_init_24 rfl ?_
  refine k_int (N := 8) (b := 2) (kc := 6) (ks := 144) (by decide) rfl (by decide) dX5_init_26 rfl rfl rfl ?_
  refine e_pc (pc' := 28) rfl ?_
  refine k_putF (k := 0) (fs := (o5_3 n0 a1)) (bs' := (.inr (5, (o5_4 n0 a1)) :: [zR RX8 8, zI 8])) flX5_25 (fun _ h => by cases h; exact ⟨rfl, rfl⟩) rfl dX5_init_28 rfl rfl rfl rfl ?_
  refine e_aload_n dX5_init_31 rfl rfl ?_
  refine e_iconst (v := (-1)) dX5_init_32 rfl ?_
  refine k_put (k := 0) (fs := (o5_4 n0 a1)) (bs' := (.inr (5, (o5_5 n0 a1)) :: [zR RX8 8, zI 8])) flX5_29 (fun _ h => by cases h; rfl) dX5_init_33 rfl rfl rfl rfl ?_
  refine e_aload_n dX5_init_36 rfl rfl ?_
  refine e_iconst (v := 0) dX5_init_37 rfl ?_
  refine k_put (k := 0) (fs := (o5_5 n0 a1)) (bs' := (.inr (5, (o5_6 n0 a1)) :: [zR RX8 8, zI 8])) flX5_32 (fun _ h => by cases h; rfl) dX5_init_38 rfl rfl rfl rfl ?_
  refine e_aload_n dX5_init_41 rfl rfl ?_
  refine e_pc (pc' := 42) rfl ?_
  refine e_iconst (v := 0) dX5_init_42 rfl ?_
  refine k_put (k := 0) (fs := (o5_6 n0 a1)) (bs' := (.inr (5, (o5_7 n0 a1)) :: [zR RX8 8, zI 8])) flX5_35 (fun _ h => by cases h; rfl) dX5_init_43 rfl rfl rfl rfl ?_
  refine e_aload_n dX5_init_46 rfl rfl ?_
  refine e_iconst (v := 0) dX5_init_47 rfl ?_
  refine k_put (k := 0) (fs := (o5_7 n0 a1)) (bs' := (.inr (5, (o5_8 n0 a1)) :: [zR RX8 8, zI 8])) flX5_38 (fun _ h => by cases h; rfl) dX5_init_48 rfl rfl rfl rfl ?_
  refine e_aload_n dX5_init_51 rfl rfl ?_
  refine e_iconst (v := 0) dX5_init_52 rfl ?_
  refine k_put (k := 0) (fs := (o5_8 n0 a1)) (bs' := (.inr (5, (o5_9 n0 a1)) :: [zR RX8 8, zI 8])) flX5_41 (fun _ h => by cases h; rfl) dX5_init_53 rfl rfl rfl rfl ?_
  refine e_pc (pc' := 56) rfl ?_
  refine e_aload_n dX5_init_56 rfl rfl ?_
  refine e_bipush (v := 60) dX5_init_57 rfl ?_
  refine k_long (N := 60) (b := 3) (kc := 5) (ks := 84) (by decide) rfl (by decide) dX5_init_59 rfl rfl rfl ?_
  refine k_putF (k := 0) (fs := (o5_9 n0 a1)) (bs' := (.inr (5, (o5_10 n0 a1)) :: [zR RX8 8, zI 8, zJ 60])) flX5_44 (fun _ h => by cases h; exact ⟨rfl, rfl⟩) rfl dX5_init_61 rfl rfl rfl rfl ?_
  refine e_aload_n dX5_init_64 rfl rfl ?_
  refine e_bipush (v := 60) dX5_init_65 rfl ?_
  refine k_int (N := 60) (b := 4) (kc := 4) (ks := 24) (by decide) rfl (by decide) dX5_init_67 rfl rfl rfl ?_
  refine k_putF (k := 0) (fs := (o5_10 n0 a1)) (bs' := (.inr (5, (o5_11 n0 a1)) :: [zR RX8 8, zI 8, zJ 60, zI 60])) flX5_48 (fun _ h => by cases h; exact ⟨rfl, rfl⟩) rfl dX5_init_69 rfl rfl rfl rfl ?_
  refine e_pc (pc' := 72) rfl ?_
  refine e_aload_n dX5_init_72 rfl rfl ?_
  refine e_iconst (v := 0) dX5_init_73 rfl ?_
  refine k_put (k := 0) (fs := (o5_11 n0 a1)) (bs' := (.inr (5, (o5_12 n0 a1)) :: [zR RX8 8, zI 8, zJ 60, zI 60])) flX5_51 (fun _ h => by cases h; rfl) dX5_init_74 rfl rfl rfl rfl ?_
  refine e_aload_n dX5_init_77 rfl rfl ?_
  refine e_bipush (v := 8) dX5_init_78 rfl ?_
  refine k_int (N := 8) (b := 5) (kc := 3) (ks := 16) (by decide) rfl (by decide) dX5_init_80 rfl rfl rfl ?_
  refine k_putF (k := 0) (fs := (o5_12 n0 a1)) (bs' := (.inr (5, (o5_13 n0 a1)) :: [zR RX8 8, zI 8, zJ 60, zI 60, zI 8])) flX5_54 (fun _ h => by cases h; exact ⟨rfl, rfl⟩) rfl dX5_init_82 rfl rfl rfl rfl ?_
  refine e_aload_n dX5_init_85 rfl rfl ?_
  refine e_pc (pc' := 86) rfl ?_
  refine e_iconst (v := 4) dX5_init_86 rfl ?_
  refine k_int (N := 4) (b := 6) (kc := 2) (ks := 12) (by decide) rfl (by decide) dX5_init_87 rfl rfl rfl ?_
  refine k_putF (k := 0) (fs := (o5_13 n0 a1)) (bs' := (.inr (5, (o5_14 n0 a1)) :: [zR RX8 8, zI 8, zJ 60, zI 60, zI 8, zI 4])) flX5_57 (fun _ h => by cases h; exact ⟨rfl, rfl⟩) rfl dX5_init_89 rfl rfl rfl rfl ?_
  refine e_aload_n dX5_init_92 rfl rfl ?_
  refine e_iconst (v := 4) dX5_init_93 rfl ?_
  refine k_int (N := 4) (b := 7) (kc := 1) (ks := 8) (by decide) rfl (by decide) dX5_init_94 rfl rfl rfl ?_
  refine k_putF (k := 0) (fs := (o5_14 n0 a1)) (bs' := (.inr (5, (o5_15 n0 a1)) :: [zR RX8 8, zI 8, zJ 60, zI 60, zI 8, zI 4, zI 4])) flX5_60 (fun _ h => by cases h; exact ⟨rfl, rfl⟩) rfl dX5_init_96 rfl rfl rfl rfl ?_
  refine e_aload_n dX5_init_99 rfl rfl ?_
  refine e_pc (pc' := 100) rfl ?_
  refine e_iconst (v := 1) dX5_init_100 rfl ?_
  refine k_put (k := 0) (fs := (o5_15 n0 a1)) (bs' := (.inr (5, (o5_16 n0 a1)) :: [zR RX8 8, zI 8, zJ 60, zI 60, zI 8, zI 4, zI 4])) flX5_63 (fun _ h => by cases h; rfl) dX5_init_101 rfl rfl rfl rfl ?_
  refine e_aload_n dX5_init_104 rfl rfl ?_
  refine e_bipush (v := 8) dX5_init_105 rfl ?_
  refine k_int (N := 8) (b := 8) (kc := 0) (ks := 0) (by decide) rfl (by decide) dX5_init_107 rfl rfl rfl ?_
  refine k_putF (k := 0) (fs := (o5_16 n0 a1)) (bs' := (.inr (5, (o5_17 n0 a1)) :: [zR RX8 8, zI 8, zJ 60, zI 60, zI 8, zI 4, zI 4, zI 8])) flX5_66 (fun _ h => by cases h; exact ⟨rfl, rfl⟩) rfl dX5_init_109 rfl rfl rfl rfl ?_
  refine e_aload_n dX5_init_112 rfl rfl ?_
  refine e_iload_n dX5_init_113 rfl rfl ?_
  refine e_pc (pc' := 114) rfl ?_
  refine k_putF (k := 0) (fs := (o5_17 n0 a1)) (bs' := (.inr (5, (o5_18 n0 a1)) :: [zR RX8 8, zI 8, zJ 60, zI 60, zI 8, zI 4, zI 4, zI 8])) flX5_69 (fun _ h => by cases h; exact ⟨rfl, rfl⟩) rfl dX5_init_114 rfl rfl rfl rfl ?_
  refine e_iconst (v := 0) dX5_init_117 rfl ?_
  refine e_istore_n (L' := [some (.ref (n0 + 0)), some (.int a1), some (.int 0)]) dX5_init_118 rfl (by decide) rfl ?_
  refine k_eq (bs' := (.inr (5, (o5_18 n0 a1)) :: [zR RX8 8, zI 8, zJ 60, zI 60, (.inl (.int, (8, .inl (fil (-1) 0))) : CE), zI 4, zI 4, zI 8])) (by rw [← fil_0]) ?_
  refine k_for (N := 8) (S := (fun i => CK g A n0 (.inr (5, (o5_18 n0 a1)) :: [zR RX8 8, zI 8, zJ 60, zI 60, (.inl (.int, (8, .inl (fil (-1) i))) : CE), zI 4, zI 4, zI 8]))) (Lf := fun i => [some (.ref (n0 + 0)), some (.int a1), some (.int (nI i))]) (fun i hi ih => ?_) ?_
  · refine e_iload_n dX5_init_119 rfl rfl ?_
    refine e_bipush (v := 8) dX5_init_120 rfl ?_
    refine e_icmp_ge (tgt := 138) dX5_init_122 rfl (fun h => absurd h (nI_ge (b := 8) hi (by decide))) (fun _ => ?_)
    refine e_aload_n dX5_init_125 rfl rfl ?_
    refine k_get (k := 0) (v := .ref (n0 + 5)) flX5_54 dX5_init_126 rfl rfl ?_
    refine e_iload_n dX5_init_129 rfl rfl ?_
    refine e_iconst (v := (-1)) dX5_init_130 rfl ?_
    refine k_iast (k := 5) (n := 8) (f := fil (-1) i) (bs' := (.inr (5, (o5_18 n0 a1)) :: [zR RX8 8, zI 8, zJ 60, zI 60, (.inl (.int, (8, .inl (fil (-1) (i + 1)))) : CE), zI 4, zI 4, zI 8])) dX5_init_131 rfl (nI_in (N := 8) (Nat.lt_of_lt_of_le hi (by decide)) (by decide)) (by rw [fil_s (-1) hi (by decide)]; rfl) ?_
    refine e_iinc (v := nI (i + 1)) (L' := [some (.ref (n0 + 0)), some (.int a1), some (.int (nI (i + 1)))]) dX5_init_132 rfl (nI_1 i) (by decide) rfl ?_
    refine e_goto (tgt := 119) dX5_init_135 rfl ?_
    exact ih
  refine e_iload_n dX5_init_119 rfl rfl ?_
  refine e_bipush (v := 8) dX5_init_120 rfl ?_
  refine e_icmp_ge (tgt := 138) dX5_init_122 rfl (fun _ => ?_) (fun h => absurd (by decide) h)
  exact k_ret dX5_init_138 rfl rfl
def o6_0 (n0 : Nat) : Nat → Value := fun k => defaultValue (tyC 6 k)
def o6_1 (n0 : Nat) : Nat → Value := updV (o6_0 n0) 0 (.ref (n0 + 1))
def o6_2 (n0 : Nat) : Nat → Value := updV (o6_1 n0) 1 (.int 0)
def o6_3 (n0 : Nat) : Nat → Value := updV (o6_2 n0) 2 (.int 0)
def o6_4 (n0 : Nat) : Nat → Value := updV (o6_3 n0) 3 (.int 0)
def o6_5 (n0 : Nat) : Nat → Value := updV (o6_4 n0) 4 (.ref (n0 + 2))
def o6_6 (n0 : Nat) : Nat → Value := updV (o6_5 n0) 5 (.ref (n0 + 3))
def o6_7 (n0 : Nat) : Nat → Value := updV (o6_6 n0) 6 (.ref (n0 + 4))
def o6_8 (n0 : Nat) : Nat → Value := updV (o6_7 n0) 7 (.ref (n0 + 5))
def o6_9 (n0 : Nat) : Nat → Value := updV (o6_8 n0) 8 (.ref (n0 + 6))
def z6 (n0 : Nat) : List CE := (.inr (6, (o6_9 n0)) :: [zI 8, zI 8, zI 8, zI 9, zI 8, zI 8])
theorem i_X6 {g : GG} {d : Nat} {A : Heap → Prop} {n0 : Nat} : Cl g (d + 1) 6 49 MX6_init [.ref (n0 + 0)] (CK g A n0 [dfo 6]) (fun v H => v = none ∧ CK g A n0 (z6 n0) H) := by
  refine Cl.to (Lv := [some (.ref (n0 + 0))]) okX6_init (Nat.le_of_ble_eq_true rfl) rfl ?_
  refine k_eq (bs' := (.inr (6, (o6_0 n0)) :: [])) rfl ?_
  refine e_aload_n dX6_init_0 rfl rfl ?_
  refine e_objInit obX6_3 dX6_init_1 (by decide) ?_
  refine e_aload_n dX6_init_4 rfl rfl ?_
  refine e_bipush (v := 8) dX6_init_5 rfl ?_
  refine k_int (N := 8) (b := 1) (kc := 5) (ks := 41) (by decide) rfl (by decide) dX6_init_7 rfl rfl rfl ?_
  refine k_putF (k := 0) (fs := (o6_0 n0)) (bs' := (.inr (6, (o6_1 n0)) :: [zI 8])) flX6_9 (fun _ h => by cases h; exact ⟨rfl, rfl⟩) rfl dX6_init_9 rfl rfl rfl rfl ?_
  refine e_aload_n dX6_init_12 rfl rfl ?_
  refine e_pc (pc' := 13) rfl ?_
  refine e_iconst (v := 0) dX6_init_13 rfl ?_
  refine k_put (k := 0) (fs := (o6_1 n0)) (bs' := (.inr (6, (o6_2 n0)) :: [zI 8])) flX6_15 (fun _ h => by cases h; rfl) dX6_init_14 rfl rfl rfl rfl ?_
  refine e_aload_n dX6_init_17 rfl rfl ?_
  refine e_iconst (v := 0) dX6_init_18 rfl ?_
  refine k_put (k := 0) (fs := (o6_2 n0)) (bs' := (.inr (6, (o6_3 n0)) :: [zI 8])) flX6_19 (fun _ h => by cases h; rfl) dX6_init_19 rfl rfl rfl rfl ?_
  refine e_aload_n dX6_init_22 rfl rfl ?_
  refine e_iconst (v := 0) dX6_init_23 rfl ?_
  refine k_put (k := 0) (fs := (o6_3 n0)) (bs' := (.inr (6, (o6_4 n0)) :: [zI 8])) flX6_22 (fun _ h => by cases h; rfl) dX6_init_24 rfl rfl rfl rfl ?_
  refine e_pc (pc' := 27) rfl ?_
  refine e_aload_n dX6_init_27 rfl rfl ?_
  refine e_bipush (v := 8) dX6_init_28 rfl ?_
  refine k_int (N := 8) (b := 2) (kc := 4) (ks := 33) (by decide) rfl (by decide) dX6_init_30 rfl rfl rfl ?_
  refine k_putF (k := 0) (fs := (o6_4 n0)) (bs' := (.inr (6, (o6_5 n0)) :: [zI 8, zI 8])) flX6_25 (fun _ h => by cases h; exact ⟨rfl, rfl⟩) rfl dX6_init_32 rfl rfl rfl rfl ?_
  refine e_aload_n dX6_init_35 rfl rfl ?_
  refine e_bipush (v := 8) dX6_init_36 rfl ?_
  refine k_int (N := 8) (b := 3) (kc := 3) (ks := 25) (by decide) rfl (by decide) dX6_init_38 rfl rfl rfl ?_
  refine k_putF (k := 0) (fs := (o6_5 n0)) (bs' := (.inr (6, (o6_6 n0)) :: [zI 8, zI 8, zI 8])) flX6_28 (fun _ h => by cases h; exact ⟨rfl, rfl⟩) rfl dX6_init_40 rfl rfl rfl rfl ?_
  refine e_pc (pc' := 43) rfl ?_
  refine e_aload_n dX6_init_43 rfl rfl ?_
  refine e_bipush (v := 9) dX6_init_44 rfl ?_
  refine k_int (N := 9) (b := 4) (kc := 2) (ks := 16) (by decide) rfl (by decide) dX6_init_46 rfl rfl rfl ?_
  refine k_putF (k := 0) (fs := (o6_6 n0)) (bs' := (.inr (6, (o6_7 n0)) :: [zI 8, zI 8, zI 8, zI 9])) flX6_31 (fun _ h => by cases h; exact ⟨rfl, rfl⟩) rfl dX6_init_48 rfl rfl rfl rfl ?_
  refine e_aload_n dX6_init_51 rfl rfl ?_
  refine e_bipush (v := 8) dX6_init_52 rfl ?_
  refine k_int (N := 8) (b := 5) (kc := 1) (ks := 8) (by decide) rfl (by decide) dX6_init_54 rfl rfl rfl ?_
  refine k_putF (k := 0) (fs := (o6_7 n0)) (bs' := (.inr (6, (o6_8 n0)) :: [zI 8, zI 8, zI 8, zI 9, zI 8])) flX6_34 (fun _ h => by cases h; exact ⟨rfl, rfl⟩) rfl dX6_init_56 rfl rfl rfl rfl ?_
  refine e_pc (pc' := 59) rfl ?_
  refine e_aload_n dX6_init_59 rfl rfl ?_
  refine e_bipush (v := 8) dX6_init_60 rfl ?_
  refine k_int (N := 8) (b := 6) (kc := 0) (ks := 0) (by decide) rfl (by decide) dX6_init_62 rfl rfl rfl ?_
  refine k_putF (k := 0) (fs := (o6_8 n0)) (bs' := (.inr (6, (o6_9 n0)) :: [zI 8, zI 8, zI 8, zI 9, zI 8, zI 8])) flX6_37 (fun _ h => by cases h; exact ⟨rfl, rfl⟩) rfl dX6_init_64 rfl rfl rfl rfl ?_
  exact k_ret dX6_init_67 rfl rfl
def o7_0 (n0 : Nat) : Nat → Value := fun k => defaultValue (tyC 7 k)
def o7_1 (n0 : Nat) : Nat → Value := updV (o7_0 n0) 0 (.ref (n0 + 1))
def o7_2 (n0 : Nat) : Nat → Value := updV (o7_1 n0) 1 (.ref (n0 + 2))
def o7_3 (n0 : Nat) : Nat → Value := updV (o7_2 n0) 2 (.int 0)
def o7_4 (n0 : Nat) : Nat → Value := updV (o7_3 n0) 3 (.int 0)
def z7 (n0 : Nat) : List CE := (.inr (7, (o7_4 n0)) :: [zI 8, zI 9])
theorem i_X7 {g : GG} {d : Nat} {A : Heap → Prop} {n0 : Nat} : Cl g (d + 1) 2 17 MX7_init [.ref (n0 + 0)] (CK g A n0 [dfo 7]) (fun v H => v = none ∧ CK g A n0 (z7 n0) H) := by
  refine Cl.to (Lv := [some (.ref (n0 + 0))]) okX7_init (Nat.le_of_ble_eq_true rfl) rfl ?_
  refine k_eq (bs' := (.inr (7, (o7_0 n0)) :: [])) rfl ?_
  refine e_aload_n dX7_init_0 rfl rfl ?_
  refine e_objInit obX7_3 dX7_init_1 (by decide) ?_
  refine e_aload_n dX7_init_4 rfl rfl ?_
  refine e_bipush (v := 8) dX7_init_5 rfl ?_
  refine k_int (N := 8) (b := 1) (kc := 1) (ks := 9) (by decide) rfl (by decide) dX7_init_7 rfl rfl rfl ?_
  refine k_putF (k := 0) (fs := (o7_0 n0)) (bs' := (.inr (7, (o7_1 n0)) :: [zI 8])) flX7_9 (fun _ h => by cases h; exact ⟨rfl, rfl⟩) rfl dX7_init_9 rfl rfl rfl rfl ?_
  refine e_aload_n dX7_init_12 rfl rfl ?_
  refine e_pc (pc' := 13) rfl ?_
  refine e_bipush (v := 9) dX7_init_13 rfl ?_
  refine k_int (N := 9) (b := 2) (kc := 0) (ks := 0) (by decide) rfl (by decide) dX7_init_15 rfl rfl rfl ?_
  refine k_putF (k := 0) (fs := (o7_1 n0)) (bs' := (.inr (7, (o7_2 n0)) :: [zI 8, zI 9])) flX7_15 (fun _ h => by cases h; exact ⟨rfl, rfl⟩) rfl dX7_init_17 rfl rfl rfl rfl ?_
  refine e_aload_n dX7_init_20 rfl rfl ?_
  refine e_iconst (v := 0) dX7_init_21 rfl ?_
  refine k_put (k := 0) (fs := (o7_2 n0)) (bs' := (.inr (7, (o7_3 n0)) :: [zI 8, zI 9])) flX7_18 (fun _ h => by cases h; rfl) dX7_init_22 rfl rfl rfl rfl ?_
  refine e_aload_n dX7_init_25 rfl rfl ?_
  refine e_iconst (v := 0) dX7_init_26 rfl ?_
  refine e_pc (pc' := 27) rfl ?_
  refine k_put (k := 0) (fs := (o7_3 n0)) (bs' := (.inr (7, (o7_4 n0)) :: [zI 8, zI 9])) flX7_22 (fun _ h => by cases h; rfl) dX7_init_27 rfl rfl rfl rfl ?_
  exact k_ret dX7_init_30 rfl rfl
def o8_0 (n0 : Nat) (a1 : Int32) (a2 : Int32) (a3 : Int32) : Nat → Value := fun k => defaultValue (tyC 8 k)
def o8_1 (n0 : Nat) (a1 : Int32) (a2 : Int32) (a3 : Int32) : Nat → Value := updV (o8_0 n0 a1 a2 a3) 3 (.int 0)
def o8_2 (n0 : Nat) (a1 : Int32) (a2 : Int32) (a3 : Int32) : Nat → Value := updV (o8_1 n0 a1 a2 a3) 4 (.ref (n0 + 1))
def o8_3 (n0 : Nat) (a1 : Int32) (a2 : Int32) (a3 : Int32) : Nat → Value := updV (o8_2 n0 a1 a2 a3) 5 (.int 0)
def o8_4 (n0 : Nat) (a1 : Int32) (a2 : Int32) (a3 : Int32) : Nat → Value := updV (o8_3 n0 a1 a2 a3) 6 (.ref (n0 + 2))
def o8_5 (n0 : Nat) (a1 : Int32) (a2 : Int32) (a3 : Int32) : Nat → Value := updV (o8_4 n0 a1 a2 a3) 7 (.ref (n0 + 3))
def o8_6 (n0 : Nat) (a1 : Int32) (a2 : Int32) (a3 : Int32) : Nat → Value := updV (o8_5 n0 a1 a2 a3) 8 (.ref (n0 + 4))
def o8_7 (n0 : Nat) (a1 : Int32) (a2 : Int32) (a3 : Int32) : Nat → Value := updV (o8_6 n0 a1 a2 a3) 0 (.int a1)
def o8_8 (n0 : Nat) (a1 : Int32) (a2 : Int32) (a3 : Int32) : Nat → Value := updV (o8_7 n0 a1 a2 a3) 1 (.int a2)
def o8_9 (n0 : Nat) (a1 : Int32) (a2 : Int32) (a3 : Int32) : Nat → Value := updV (o8_8 n0 a1 a2 a3) 2 (.int a3)
def z8 (n0 : Nat) (a1 : Int32) (a2 : Int32) (a3 : Int32) : List CE := (.inr (8, (o8_9 n0 a1 a2 a3)) :: [zI 4, zI 4, zI 4, zI 4])
theorem i_X8 {g : GG} {d : Nat} {A : Heap → Prop} {n0 : Nat} (a1 : Int32) (a2 : Int32) (a3 : Int32) : Cl g (d + 1) 4 16 MX8_init [.ref (n0 + 0), .int a1, .int a2, .int a3] (CK g A n0 [dfo 8]) (fun v H => v = none ∧ CK g A n0 (z8 n0 a1 a2 a3) H) := by
  refine Cl.to (Lv := [some (.ref (n0 + 0)), some (.int a1), some (.int a2), some (.int a3)]) okX8_init (Nat.le_of_ble_eq_true rfl) rfl ?_
  refine k_eq (bs' := (.inr (8, (o8_0 n0 a1 a2 a3)) :: [])) rfl ?_
  refine e_aload_n dX8_init_0 rfl rfl ?_
  refine e_objInit obX8_3 dX8_init_1 (by decide) ?_
  refine e_aload_n dX8_init_4 rfl rfl ?_
  refine e_iconst (v := 0) dX8_init_5 rfl ?_
  refine k_put (k := 0) (fs := (o8_0 n0 a1 a2 a3)) (bs' := (.inr (8, (o8_1 n0 a1 a2 a3)) :: [])) flX8_9 (fun _ h => by cases h; rfl) dX8_init_6 rfl rfl rfl rfl ?_
  refine e_aload_n dX8_init_9 rfl rfl ?_
  refine e_iconst (v := 4) dX8_init_10 rfl ?_
  refine e_pc (pc' := 11) rfl ?_
  refine k_int (N := 4) (b := 1) (kc := 3) (ks := 12) (by decide) rfl (by decide) dX8_init_11 rfl rfl rfl ?_
  refine k_putF (k := 0) (fs := (o8_1 n0 a1 a2 a3)) (bs' := (.inr (8, (o8_2 n0 a1 a2 a3)) :: [zI 4])) flX8_15 (fun _ h => by cases h; exact ⟨rfl, rfl⟩) rfl dX8_init_13 rfl rfl rfl rfl ?_
  refine e_aload_n dX8_init_16 rfl rfl ?_
  refine e_iconst (v := 0) dX8_init_17 rfl ?_
  refine k_put (k := 0) (fs := (o8_2 n0 a1 a2 a3)) (bs' := (.inr (8, (o8_3 n0 a1 a2 a3)) :: [zI 4])) flX8_19 (fun _ h => by cases h; rfl) dX8_init_18 rfl rfl rfl rfl ?_
  refine e_aload_n dX8_init_21 rfl rfl ?_
  refine e_iconst (v := 4) dX8_init_22 rfl ?_
  refine k_int (N := 4) (b := 2) (kc := 2) (ks := 8) (by decide) rfl (by decide) dX8_init_23 rfl rfl rfl ?_
  refine e_pc (pc' := 25) rfl ?_
  refine k_putF (k := 0) (fs := (o8_3 n0 a1 a2 a3)) (bs' := (.inr (8, (o8_4 n0 a1 a2 a3)) :: [zI 4, zI 4])) flX8_22 (fun _ h => by cases h; exact ⟨rfl, rfl⟩) rfl dX8_init_25 rfl rfl rfl rfl ?_
  refine e_aload_n dX8_init_28 rfl rfl ?_
  refine e_iconst (v := 4) dX8_init_29 rfl ?_
  refine k_int (N := 4) (b := 3) (kc := 1) (ks := 4) (by decide) rfl (by decide) dX8_init_30 rfl rfl rfl ?_
  refine k_putF (k := 0) (fs := (o8_4 n0 a1 a2 a3)) (bs' := (.inr (8, (o8_5 n0 a1 a2 a3)) :: [zI 4, zI 4, zI 4])) flX8_25 (fun _ h => by cases h; exact ⟨rfl, rfl⟩) rfl dX8_init_32 rfl rfl rfl rfl ?_
  refine e_aload_n dX8_init_35 rfl rfl ?_
  refine e_iconst (v := 4) dX8_init_36 rfl ?_
  refine k_int (N := 4) (b := 4) (kc := 0) (ks := 0) (by decide) rfl (by decide) dX8_init_37 rfl rfl rfl ?_
  refine e_pc (pc' := 39) rfl ?_
  refine k_putF (k := 0) (fs := (o8_5 n0 a1 a2 a3)) (bs' := (.inr (8, (o8_6 n0 a1 a2 a3)) :: [zI 4, zI 4, zI 4, zI 4])) flX8_28 (fun _ h => by cases h; exact ⟨rfl, rfl⟩) rfl dX8_init_39 rfl rfl rfl rfl ?_
  refine e_aload_n dX8_init_42 rfl rfl ?_
  refine e_iload_n dX8_init_43 rfl rfl ?_
  refine k_putF (k := 0) (fs := (o8_6 n0 a1 a2 a3)) (bs' := (.inr (8, (o8_7 n0 a1 a2 a3)) :: [zI 4, zI 4, zI 4, zI 4])) flX8_31 (fun _ h => by cases h; exact ⟨rfl, rfl⟩) rfl dX8_init_44 rfl rfl rfl rfl ?_
  refine e_aload_n dX8_init_47 rfl rfl ?_
  refine e_iload_n dX8_init_48 rfl rfl ?_
  refine k_putF (k := 0) (fs := (o8_7 n0 a1 a2 a3)) (bs' := (.inr (8, (o8_8 n0 a1 a2 a3)) :: [zI 4, zI 4, zI 4, zI 4])) flX8_34 (fun _ h => by cases h; exact ⟨rfl, rfl⟩) rfl dX8_init_49 rfl rfl rfl rfl ?_
  refine e_aload_n dX8_init_52 rfl rfl ?_
  refine e_pc (pc' := 53) rfl ?_
  refine e_iload_n dX8_init_53 rfl rfl ?_
  refine k_putF (k := 0) (fs := (o8_8 n0 a1 a2 a3)) (bs' := (.inr (8, (o8_9 n0 a1 a2 a3)) :: [zI 4, zI 4, zI 4, zI 4])) flX8_37 (fun _ h => by cases h; exact ⟨rfl, rfl⟩) rfl dX8_init_54 rfl rfl rfl rfl ?_
  exact k_ret dX8_init_57 rfl rfl
def o9_0 (n0 : Nat) : Nat → Value := fun k => defaultValue (tyC 9 k)
def o9_1 (n0 : Nat) : Nat → Value := updV (o9_0 n0) 0 (.ref (n0 + 1))
def o9_2 (n0 : Nat) : Nat → Value := updV (o9_1 n0) 1 (.int (-1))
def o9_3 (n0 : Nat) : Nat → Value := updV (o9_2 n0) 2 (.int 0)
def o9_4 (n0 : Nat) : Nat → Value := updV (o9_3 n0) 3 (.int (-1))
def z9 (n0 : Nat) : List CE := (.inr (9, (o9_4 n0)) :: [zJ 60])
theorem i_X9 {g : GG} {d : Nat} {A : Heap → Prop} {n0 : Nat} : Cl g (d + 1) 1 60 MX9_init [.ref (n0 + 0)] (CK g A n0 [dfo 9]) (fun v H => v = none ∧ CK g A n0 (z9 n0) H) := by
  refine Cl.to (Lv := [some (.ref (n0 + 0))]) okX9_init (Nat.le_of_ble_eq_true rfl) rfl ?_
  refine k_eq (bs' := (.inr (9, (o9_0 n0)) :: [])) rfl ?_
  refine e_aload_n dX9_init_0 rfl rfl ?_
  refine e_objInit obX9_3 dX9_init_1 (by decide) ?_
  refine e_aload_n dX9_init_4 rfl rfl ?_
  refine e_bipush (v := 60) dX9_init_5 rfl ?_
  refine k_long (N := 60) (b := 1) (kc := 0) (ks := 0) (by decide) rfl (by decide) dX9_init_7 rfl rfl rfl ?_
  refine k_putF (k := 0) (fs := (o9_0 n0)) (bs' := (.inr (9, (o9_1 n0)) :: [zJ 60])) flX9_9 (fun _ h => by cases h; exact ⟨rfl, rfl⟩) rfl dX9_init_9 rfl rfl rfl rfl ?_
  refine e_aload_n dX9_init_12 rfl rfl ?_
  refine e_pc (pc' := 13) rfl ?_
  refine e_iconst (v := (-1)) dX9_init_13 rfl ?_
  refine k_put (k := 0) (fs := (o9_1 n0)) (bs' := (.inr (9, (o9_2 n0)) :: [zJ 60])) flX9_15 (fun _ h => by cases h; rfl) dX9_init_14 rfl rfl rfl rfl ?_
  refine e_aload_n dX9_init_17 rfl rfl ?_
  refine e_iconst (v := 0) dX9_init_18 rfl ?_
  refine k_put (k := 0) (fs := (o9_2 n0)) (bs' := (.inr (9, (o9_3 n0)) :: [zJ 60])) flX9_19 (fun _ h => by cases h; rfl) dX9_init_19 rfl rfl rfl rfl ?_
  refine e_aload_n dX9_init_22 rfl rfl ?_
  refine e_iconst (v := (-1)) dX9_init_23 rfl ?_
  refine k_put (k := 0) (fs := (o9_3 n0)) (bs' := (.inr (9, (o9_4 n0)) :: [zJ 60])) flX9_22 (fun _ h => by cases h; rfl) dX9_init_24 rfl rfl rfl rfl ?_
  refine e_pc (pc' := 27) rfl ?_
  exact k_ret dX9_init_27 rfl rfl
def o10_0 (n0 : Nat) : Nat → Value := fun k => defaultValue (tyC 10 k)
def o10_1 (n0 : Nat) : Nat → Value := updV (o10_0 n0) 0 (.ref (n0 + 1))
def o10_2 (n0 : Nat) : Nat → Value := updV (o10_1 n0) 1 (.int (-1))
def o10_3 (n0 : Nat) : Nat → Value := updV (o10_2 n0) 2 (.int (-1))
def z10 (n0 : Nat) : List CE := (.inr (10, (o10_3 n0)) :: [zI 6])
theorem i_X10 {g : GG} {d : Nat} {A : Heap → Prop} {n0 : Nat} : Cl g (d + 1) 1 6 MX10_init [.ref (n0 + 0)] (CK g A n0 [dfo 10]) (fun v H => v = none ∧ CK g A n0 (z10 n0) H) := by
  refine Cl.to (Lv := [some (.ref (n0 + 0))]) okX10_init (Nat.le_of_ble_eq_true rfl) rfl ?_
  refine k_eq (bs' := (.inr (10, (o10_0 n0)) :: [])) rfl ?_
  refine e_aload_n dX10_init_0 rfl rfl ?_
  refine e_objInit obX10_3 dX10_init_1 (by decide) ?_
  refine e_aload_n dX10_init_4 rfl rfl ?_
  refine e_bipush (v := 6) dX10_init_5 rfl ?_
  refine k_int (N := 6) (b := 1) (kc := 0) (ks := 0) (by decide) rfl (by decide) dX10_init_7 rfl rfl rfl ?_
  refine k_putF (k := 0) (fs := (o10_0 n0)) (bs' := (.inr (10, (o10_1 n0)) :: [zI 6])) flX10_9 (fun _ h => by cases h; exact ⟨rfl, rfl⟩) rfl dX10_init_9 rfl rfl rfl rfl ?_
  refine e_aload_n dX10_init_12 rfl rfl ?_
  refine e_pc (pc' := 13) rfl ?_
  refine e_iconst (v := (-1)) dX10_init_13 rfl ?_
  refine k_put (k := 0) (fs := (o10_1 n0)) (bs' := (.inr (10, (o10_2 n0)) :: [zI 6])) flX10_15 (fun _ h => by cases h; rfl) dX10_init_14 rfl rfl rfl rfl ?_
  refine e_aload_n dX10_init_17 rfl rfl ?_
  refine e_iconst (v := (-1)) dX10_init_18 rfl ?_
  refine k_put (k := 0) (fs := (o10_2 n0)) (bs' := (.inr (10, (o10_3 n0)) :: [zI 6])) flX10_19 (fun _ h => by cases h; rfl) dX10_init_19 rfl rfl rfl rfl ?_
  exact k_ret dX10_init_22 rfl rfl
def o12_0 (n0 : Nat) : Nat → Value := fun k => defaultValue (tyC 12 k)
def o12_1 (n0 : Nat) : Nat → Value := updV (o12_0 n0) 8 (.int 2)
def o12_2 (n0 : Nat) : Nat → Value := updV (o12_1 n0) 9 (.int (-1))
def o12_3 (n0 : Nat) : Nat → Value := updV (o12_2 n0) 11 (.ref (n0 + 1))
def o12_4 (n0 : Nat) : Nat → Value := updV (o12_3 n0) 12 (.ref (n0 + 2))
def o12_5 (n0 : Nat) : Nat → Value := updV (o12_4 n0) 13 (.ref (n0 + 3))
def o12_6 (n0 : Nat) : Nat → Value := updV (o12_5 n0) 14 (.ref (n0 + 4))
def o12_7 (n0 : Nat) : Nat → Value := updV (o12_6 n0) 15 (.ref (n0 + 5))
def o12_8 (n0 : Nat) : Nat → Value := updV (o12_7 n0) 16 (.ref (n0 + 6))
def o12_9 (n0 : Nat) : Nat → Value := updV (o12_8 n0) 17 (.ref (n0 + 7))
def o12_10 (n0 : Nat) : Nat → Value := updV (o12_9 n0) 18 (.ref (n0 + 8))
def o12_11 (n0 : Nat) : Nat → Value := updV (o12_10 n0) 19 (.ref (n0 + 9))
def o12_12 (n0 : Nat) : Nat → Value := updV (o12_11 n0) 20 (.ref (n0 + 10))
def o12_13 (n0 : Nat) : Nat → Value := updV (o12_12 n0) 21 (.ref (n0 + 11))
def o12_14 (n0 : Nat) : Nat → Value := updV (o12_13 n0) 22 (.ref (n0 + 12))
def o12_15 (n0 : Nat) : Nat → Value := updV (o12_14 n0) 23 (.ref (n0 + 13))
def o12_16 (n0 : Nat) : Nat → Value := updV (o12_15 n0) 24 (.ref (n0 + 14))
def o12_17 (n0 : Nat) : Nat → Value := updV (o12_16 n0) 25 (.ref (n0 + 15))
def o12_18 (n0 : Nat) : Nat → Value := updV (o12_17 n0) 26 (.ref (n0 + 16))
def o12_19 (n0 : Nat) : Nat → Value := updV (o12_18 n0) 27 (.ref (n0 + 17))
def o12_20 (n0 : Nat) : Nat → Value := updV (o12_19 n0) 28 (.ref (n0 + 18))
def o12_21 (n0 : Nat) : Nat → Value := updV (o12_20 n0) 29 (.ref (n0 + 19))
def o12_22 (n0 : Nat) : Nat → Value := updV (o12_21 n0) 30 (.ref (n0 + 20))
def o12_23 (n0 : Nat) : Nat → Value := updV (o12_22 n0) 31 (.ref (n0 + 21))
def o12_24 (n0 : Nat) : Nat → Value := updV (o12_23 n0) 32 (.ref (n0 + 22))
def o12_25 (n0 : Nat) : Nat → Value := updV (o12_24 n0) 33 (.ref (n0 + 23))
def o12_26 (n0 : Nat) : Nat → Value := updV (o12_25 n0) 34 (.ref (n0 + 24))
def o12_27 (n0 : Nat) : Nat → Value := updV (o12_26 n0) 35 (.ref (n0 + 25))
def o12_28 (n0 : Nat) : Nat → Value := updV (o12_27 n0) 36 (.ref (n0 + 26))
def o12_29 (n0 : Nat) : Nat → Value := updV (o12_28 n0) 37 (.ref (n0 + 27))
def o12_30 (n0 : Nat) : Nat → Value := updV (o12_29 n0) 38 (.ref (n0 + 28))
def o12_31 (n0 : Nat) : Nat → Value := updV (o12_30 n0) 39 (.ref (n0 + 29))
def o12_32 (n0 : Nat) : Nat → Value := updV (o12_31 n0) 40 (.ref (n0 + 30))
def o12_33 (n0 : Nat) : Nat → Value := updV (o12_32 n0) 41 (.ref (n0 + 31))
def o12_34 (n0 : Nat) : Nat → Value := updV (o12_33 n0) 42 (.ref (n0 + 32))
def o12_35 (n0 : Nat) : Nat → Value := updV (o12_34 n0) 43 (.ref (n0 + 33))
def o12_36 (n0 : Nat) : Nat → Value := updV (o12_35 n0) 44 (.ref (n0 + 34))
def o12_37 (n0 : Nat) : Nat → Value := updV (o12_36 n0) 45 (.ref (n0 + 35))
def o12_38 (n0 : Nat) : Nat → Value := updV (o12_37 n0) 46 (.ref (n0 + 36))
def o12_39 (n0 : Nat) : Nat → Value := updV (o12_38 n0) 47 (.ref (n0 + 37))
def o12_40 (n0 : Nat) : Nat → Value := updV (o12_39 n0) 48 (.ref (n0 + 38))
def o12_41 (n0 : Nat) : Nat → Value := updV (o12_40 n0) 49 (.ref (n0 + 39))
def o12_42 (n0 : Nat) : Nat → Value := updV (o12_41 n0) 50 (.ref (n0 + 40))
def o12_43 (n0 : Nat) : Nat → Value := updV (o12_42 n0) 51 (.ref (n0 + 41))
def o12_44 (n0 : Nat) : Nat → Value := updV (o12_43 n0) 52 (.ref (n0 + 42))
def o12_45 (n0 : Nat) : Nat → Value := updV (o12_44 n0) 53 (.ref (n0 + 43))
def o12_46 (n0 : Nat) : Nat → Value := updV (o12_45 n0) 54 (.ref (n0 + 44))
def o12_47 (n0 : Nat) : Nat → Value := updV (o12_46 n0) 55 (.ref (n0 + 45))
def o12_48 (n0 : Nat) : Nat → Value := updV (o12_47 n0) 56 (.ref (n0 + 46))
def o12_49 (n0 : Nat) : Nat → Value := updV (o12_48 n0) 57 (.ref (n0 + 47))
def o12_50 (n0 : Nat) : Nat → Value := updV (o12_49 n0) 58 (.ref (n0 + 48))
def o12_51 (n0 : Nat) : Nat → Value := updV (o12_50 n0) 59 (.ref (n0 + 49))
def o12_52 (n0 : Nat) : Nat → Value := updV (o12_51 n0) 60 (.ref (n0 + 50))
def o12_53 (n0 : Nat) : Nat → Value := updV (o12_52 n0) 61 (.ref (n0 + 51))
def o12_54 (n0 : Nat) : Nat → Value := updV (o12_53 n0) 62 (.ref (n0 + 52))
def o12_55 (n0 : Nat) : Nat → Value := updV (o12_54 n0) 63 (.ref (n0 + 53))
def o12_56 (n0 : Nat) : Nat → Value := updV (o12_55 n0) 64 (.ref (n0 + 54))
def o12_57 (n0 : Nat) : Nat → Value := updV (o12_56 n0) 65 (.ref (n0 + 55))
def o12_58 (n0 : Nat) : Nat → Value := updV (o12_57 n0) 66 (.ref (n0 + 56))
def o12_59 (n0 : Nat) : Nat → Value := updV (o12_58 n0) 67 (.ref (n0 + 57))
def o12_60 (n0 : Nat) : Nat → Value := updV (o12_59 n0) 68 (.ref (n0 + 58))
def o12_61 (n0 : Nat) : Nat → Value := updV (o12_60 n0) 69 (.ref (n0 + 59))
def o12_62 (n0 : Nat) : Nat → Value := updV (o12_61 n0) 70 (.ref (n0 + 60))
def o12_63 (n0 : Nat) : Nat → Value := updV (o12_62 n0) 71 (.ref (n0 + 61))
def o12_64 (n0 : Nat) : Nat → Value := updV (o12_63 n0) 72 (.ref (n0 + 62))
def o12_65 (n0 : Nat) : Nat → Value := updV (o12_64 n0) 73 (.ref (n0 + 63))
def o12_66 (n0 : Nat) : Nat → Value := updV (o12_65 n0) 74 (.ref (n0 + 64))
def o12_67 (n0 : Nat) : Nat → Value := updV (o12_66 n0) 76 (.ref (n0 + 65))
def o12_68 (n0 : Nat) : Nat → Value := updV (o12_67 n0) 77 (.ref (n0 + 66))
def o12_69 (n0 : Nat) : Nat → Value := updV (o12_68 n0) 78 (.ref (n0 + 67))
def o12_70 (n0 : Nat) : Nat → Value := updV (o12_69 n0) 79 (.ref (n0 + 68))
def o12_71 (n0 : Nat) : Nat → Value := updV (o12_70 n0) 80 (.ref (n0 + 69))
def o12_72 (n0 : Nat) : Nat → Value := updV (o12_71 n0) 81 (.ref (n0 + 70))
def o12_73 (n0 : Nat) : Nat → Value := updV (o12_72 n0) 82 (.ref (n0 + 71))
def o12_74 (n0 : Nat) : Nat → Value := updV (o12_73 n0) 83 (.ref (n0 + 72))
def o12_75 (n0 : Nat) : Nat → Value := updV (o12_74 n0) 84 (.ref (n0 + 73))
def o12_76 (n0 : Nat) : Nat → Value := updV (o12_75 n0) 85 (.ref (n0 + 74))
def o12_77 (n0 : Nat) : Nat → Value := updV (o12_76 n0) 86 (.ref (n0 + 75))
def o12_78 (n0 : Nat) : Nat → Value := updV (o12_77 n0) 87 (.ref (n0 + 76))
def z12 (n0 : Nat) : List CE := (.inr (12, (o12_78 n0)) :: [zI 8, zI 8, zI 8, zI 8, zJ 480, zJ 60, zI 16, zI 16, zI 16, zI 16, zI 16, zI 16, zI 16, zI 16, zI 16, zI 16, zB 16, zB 16, zI 80, zI 8, zI 8, zI 16, zJ 960, zI 8, zI 8, zI 64, zI 64, zI 64, zI 256, zB 8, zI 64, zI 64, (.inl (.int, (8, .inl (fil (-1) 8))) : CE), zI 8, zI 8, zI 8, zI 8, zI 8, zI 480, zJ 480, (.inl (.int, (4, .inl (fil (9) 4))) : CE), zI 64, zI 256, zI 256, zI 256, (.inl (.int, (64, .inl (fil (-1) 64))) : CE), zI 4, zI 32, zI 32, zI 6, zI 6, zI 6, zI 6, (.inl (.int, (240, .inl (fil (-1) 240))) : CE), zB 240, (.inl (.int, (8, .inl (fil (1) 8))) : CE), zI 64, (.inl (.int, (8, .inl (fil (-1) 8))) : CE), zI 8, zI 6, zI 8, zI 8, zI 9, zI 9, zI 3721, zI 60, zI 9, zI 9, zI 9, zI 9, zI 9, zI 8, zI 9, zI 9, zI 9, zI 8])
theorem i_X12 {g : GG} {d : Nat} {A : Heap → Prop} {n0 : Nat} : Cl g (d + 1) 76 8913 MX12_init [.ref (n0 + 0)] (CK g A n0 [dfo 12]) (fun v H => v = none ∧ CK g A n0 (z12 n0) H) := by
  refine Cl.to (Lv := [some (.ref (n0 + 0)), none]) okX12_init (Nat.le_of_ble_eq_true rfl) rfl ?_
  refine k_eq (bs' := (.inr (12, (o12_0 n0)) :: [])) rfl ?_
  refine e_aload_n dX12_init_0 rfl rfl ?_
  refine e_objInit obX12_1 dX12_init_1 (by decide) ?_
  refine e_aload_n dX12_init_4 rfl rfl ?_
  refine e_iconst (v := 2) dX12_init_5 rfl ?_
  refine k_put (k := 0) (fs := (o12_0 n0)) (bs' := (.inr (12, (o12_1 n0)) :: [])) flX12_7 (fun _ h => by cases h; rfl) dX12_init_6 rfl rfl rfl rfl ?_
  refine e_aload_n dX12_init_9 rfl rfl ?_
  refine e_iconst (v := (-1)) dX12_init_10 rfl ?_
  refine e_pc (pc' := 11) rfl ?_
  refine k_put (k := 0) (fs := (o12_1 n0)) (bs' := (.inr (12, (o12_2 n0)) :: [])) flX12_13 (fun _ h => by cases h; rfl) dX12_init_11 rfl rfl rfl rfl ?_
  refine e_aload_n dX12_init_14 rfl rfl ?_
  refine e_bipush (v := 8) dX12_init_15 rfl ?_
  refine k_int (N := 8) (b := 1) (kc := 75) (ks := 8905) (by decide) rfl (by decide) dX12_init_17 rfl rfl rfl ?_
  refine k_putF (k := 0) (fs := (o12_2 n0)) (bs' := (.inr (12, (o12_3 n0)) :: [zI 8])) flX12_16 (fun _ h => by cases h; exact ⟨rfl, rfl⟩) rfl dX12_init_19 rfl rfl rfl rfl ?_
  refine e_aload_n dX12_init_22 rfl rfl ?_
  refine e_bipush (v := 8) dX12_init_23 rfl ?_
  refine k_int (N := 8) (b := 2) (kc := 74) (ks := 8897) (by decide) rfl (by decide) dX12_init_25 rfl rfl rfl ?_
  refine e_pc (pc' := 27) rfl ?_
  refine k_putF (k := 0) (fs := (o12_3 n0)) (bs' := (.inr (12, (o12_4 n0)) :: [zI 8, zI 8])) flX12_20 (fun _ h => by cases h; exact ⟨rfl, rfl⟩) rfl dX12_init_27 rfl rfl rfl rfl ?_
  refine e_aload_n dX12_init_30 rfl rfl ?_
  refine e_bipush (v := 8) dX12_init_31 rfl ?_
  refine k_int (N := 8) (b := 3) (kc := 73) (ks := 8889) (by decide) rfl (by decide) dX12_init_33 rfl rfl rfl ?_
  refine k_putF (k := 0) (fs := (o12_4 n0)) (bs' := (.inr (12, (o12_5 n0)) :: [zI 8, zI 8, zI 8])) flX12_23 (fun _ h => by cases h; exact ⟨rfl, rfl⟩) rfl dX12_init_35 rfl rfl rfl rfl ?_
  refine e_aload_n dX12_init_38 rfl rfl ?_
  refine e_bipush (v := 8) dX12_init_39 rfl ?_
  refine k_int (N := 8) (b := 4) (kc := 72) (ks := 8881) (by decide) rfl (by decide) dX12_init_41 rfl rfl rfl ?_
  refine e_pc (pc' := 43) rfl ?_
  refine k_putF (k := 0) (fs := (o12_5 n0)) (bs' := (.inr (12, (o12_6 n0)) :: [zI 8, zI 8, zI 8, zI 8])) flX12_26 (fun _ h => by cases h; exact ⟨rfl, rfl⟩) rfl dX12_init_43 rfl rfl rfl rfl ?_
  refine e_aload_n dX12_init_46 rfl rfl ?_
  refine e_sipush (v := 480) dX12_init_47 rfl ?_
  refine k_long (N := 480) (b := 5) (kc := 71) (ks := 8401) (by decide) rfl (by decide) dX12_init_50 rfl rfl rfl ?_
  refine k_putF (k := 0) (fs := (o12_6 n0)) (bs' := (.inr (12, (o12_7 n0)) :: [zI 8, zI 8, zI 8, zI 8, zJ 480])) flX12_29 (fun _ h => by cases h; exact ⟨rfl, rfl⟩) rfl dX12_init_52 rfl rfl rfl rfl ?_
  refine e_aload_n dX12_init_55 rfl rfl ?_
  refine e_bipush (v := 60) dX12_init_56 rfl ?_
  refine k_long (N := 60) (b := 6) (kc := 70) (ks := 8341) (by decide) rfl (by decide) dX12_init_58 rfl rfl rfl ?_
  refine e_pc (pc' := 60) rfl ?_
  refine k_putF (k := 0) (fs := (o12_7 n0)) (bs' := (.inr (12, (o12_8 n0)) :: [zI 8, zI 8, zI 8, zI 8, zJ 480, zJ 60])) flX12_33 (fun _ h => by cases h; exact ⟨rfl, rfl⟩) rfl dX12_init_60 rfl rfl rfl rfl ?_
  refine e_aload_n dX12_init_63 rfl rfl ?_
  refine e_bipush (v := 16) dX12_init_64 rfl ?_
  refine k_int (N := 16) (b := 7) (kc := 69) (ks := 8325) (by decide) rfl (by decide) dX12_init_66 rfl rfl rfl ?_
  refine k_putF (k := 0) (fs := (o12_8 n0)) (bs' := (.inr (12, (o12_9 n0)) :: [zI 8, zI 8, zI 8, zI 8, zJ 480, zJ 60, zI 16])) flX12_36 (fun _ h => by cases h; exact ⟨rfl, rfl⟩) rfl dX12_init_68 rfl rfl rfl rfl ?_
  refine e_aload_n dX12_init_71 rfl rfl ?_
  refine e_bipush (v := 16) dX12_init_72 rfl ?_
  refine k_int (N := 16) (b := 8) (kc := 68) (ks := 8309) (by decide) rfl (by decide) dX12_init_74 rfl rfl rfl ?_
  refine e_pc (pc' := 76) rfl ?_
  refine k_putF (k := 0) (fs := (o12_9 n0)) (bs' := (.inr (12, (o12_10 n0)) :: [zI 8, zI 8, zI 8, zI 8, zJ 480, zJ 60, zI 16, zI 16])) flX12_39 (fun _ h => by cases h; exact ⟨rfl, rfl⟩) rfl dX12_init_76 rfl rfl rfl rfl ?_
  refine e_aload_n dX12_init_79 rfl rfl ?_
  refine e_bipush (v := 16) dX12_init_80 rfl ?_
  refine k_int (N := 16) (b := 9) (kc := 67) (ks := 8293) (by decide) rfl (by decide) dX12_init_82 rfl rfl rfl ?_
  refine k_putF (k := 0) (fs := (o12_10 n0)) (bs' := (.inr (12, (o12_11 n0)) :: [zI 8, zI 8, zI 8, zI 8, zJ 480, zJ 60, zI 16, zI 16, zI 16])) flX12_42 (fun _ h => by cases h; exact ⟨rfl, rfl⟩) rfl dX12_init_84 rfl rfl rfl rfl ?_
  refine e_aload_n dX12_init_87 rfl rfl ?_
  refine e_bipush (v := 16) dX12_init_88 rfl ?_
  refine k_int (N := 16) (b := 10) (kc := 66) (ks := 8277) (by decide) rfl (by decide) dX12_init_90 rfl rfl rfl ?_
  refine e_pc (pc' := 92) rfl ?_
  refine k_putF (k := 0) (fs := (o12_11 n0)) (bs' := (.inr (12, (o12_12 n0)) :: [zI 8, zI 8, zI 8, zI 8, zJ 480, zJ 60, zI 16, zI 16, zI 16, zI 16])) flX12_45 (fun _ h => by cases h; exact ⟨rfl, rfl⟩) rfl dX12_init_92 rfl rfl rfl rfl ?_
  refine e_aload_n dX12_init_95 rfl rfl ?_
  refine e_bipush (v := 16) dX12_init_96 rfl ?_
  refine k_int (N := 16) (b := 11) (kc := 65) (ks := 8261) (by decide) rfl (by decide) dX12_init_98 rfl rfl rfl ?_
  refine k_putF (k := 0) (fs := (o12_12 n0)) (bs' := (.inr (12, (o12_13 n0)) :: [zI 8, zI 8, zI 8, zI 8, zJ 480, zJ 60, zI 16, zI 16, zI 16, zI 16, zI 16])) flX12_48 (fun _ h => by cases h; exact ⟨rfl, rfl⟩) rfl dX12_init_100 rfl rfl rfl rfl ?_
  refine e_aload_n dX12_init_103 rfl rfl ?_
  refine e_bipush (v := 16) dX12_init_104 rfl ?_
  refine k_int (N := 16) (b := 12) (kc := 64) (ks := 8245) (by decide) rfl (by decide) dX12_init_106 rfl rfl rfl ?_
  refine e_pc (pc' := 108) rfl ?_
  refine k_putF (k := 0) (fs := (o12_13 n0)) (bs' := (.inr (12, (o12_14 n0)) :: [zI 8, zI 8, zI 8, zI 8, zJ 480, zJ 60, zI 16, zI 16, zI 16, zI 16, zI 16, zI 16])) flX12_51 (fun _ h => by cases h; exact ⟨rfl, rfl⟩) rfl dX12_init_108 rfl rfl rfl rfl ?_
  refine e_aload_n dX12_init_111 rfl rfl ?_
  refine e_bipush (v := 16) dX12_init_112 rfl ?_
  refine k_int (N := 16) (b := 13) (kc := 63) (ks := 8229) (by decide) rfl (by decide) dX12_init_114 rfl rfl rfl ?_
  refine k_putF (k := 0) (fs := (o12_14 n0)) (bs' := (.inr (12, (o12_15 n0)) :: [zI 8, zI 8, zI 8, zI 8, zJ 480, zJ 60, zI 16, zI 16, zI 16, zI 16, zI 16, zI 16, zI 16])) flX12_54 (fun _ h => by cases h; exact ⟨rfl, rfl⟩) rfl dX12_init_116 rfl rfl rfl rfl ?_
  refine e_aload_n dX12_init_119 rfl rfl ?_
  refine e_bipush (v := 16) dX12_init_120 rfl ?_
  refine k_int (N := 16) (b := 14) (kc := 62) (ks := 8213) (by decide) rfl (by decide) dX12_init_122 rfl rfl rfl ?_
  refine e_pc (pc' := 124) rfl ?_
  refine k_putF (k := 0) (fs := (o12_15 n0)) (bs' := (.inr (12, (o12_16 n0)) :: [zI 8, zI 8, zI 8, zI 8, zJ 480, zJ 60, zI 16, zI 16, zI 16, zI 16, zI 16, zI 16, zI 16, zI 16])) flX12_57 (fun _ h => by cases h; exact ⟨rfl, rfl⟩) rfl dX12_init_124 rfl rfl rfl rfl ?_
  refine e_aload_n dX12_init_127 rfl rfl ?_
  refine e_bipush (v := 16) dX12_init_128 rfl ?_
  refine k_int (N := 16) (b := 15) (kc := 61) (ks := 8197) (by decide) rfl (by decide) dX12_init_130 rfl rfl rfl ?_
  refine k_putF (k := 0) (fs := (o12_16 n0)) (bs' := (.inr (12, (o12_17 n0)) :: [zI 8, zI 8, zI 8, zI 8, zJ 480, zJ 60, zI 16, zI 16, zI 16, zI 16, zI 16, zI 16, zI 16, zI 16, zI 16])) flX12_60 (fun _ h => by cases h; exact ⟨rfl, rfl⟩) rfl dX12_init_132 rfl rfl rfl rfl ?_
  refine e_aload_n dX12_init_135 rfl rfl ?_
  refine e_bipush (v := 16) dX12_init_136 rfl ?_
  refine k_int (N := 16) (b := 16) (kc := 60) (ks := 8181) (by decide) rfl (by decide) dX12_init_138 rfl rfl rfl ?_
  refine e_pc (pc' := 140) rfl ?_
  refine k_putF (k := 0) (fs := (o12_17 n0)) (bs' := (.inr (12, (o12_18 n0)) :: [zI 8, zI 8, zI 8, zI 8, zJ 480, zJ 60, zI 16, zI 16, zI 16, zI 16, zI 16, zI 16, zI 16, zI 16, zI 16, zI 16])) flX12_63 (fun _ h => by cases h; exact ⟨rfl, rfl⟩) rfl dX12_init_140 rfl rfl rfl rfl ?_
  refine e_aload_n dX12_init_143 rfl rfl ?_
  refine e_bipush (v := 16) dX12_init_144 rfl ?_
  refine k_bool (N := 16) (b := 17) (kc := 59) (ks := 8165) (by decide) rfl (by decide) dX12_init_146 rfl rfl rfl ?_
  refine k_putF (k := 0) (fs := (o12_18 n0)) (bs' := (.inr (12, (o12_19 n0)) :: [zI 8, zI 8, zI 8, zI 8, zJ 480, zJ 60, zI 16, zI 16, zI 16, zI 16, zI 16, zI 16, zI 16, zI 16, zI 16, zI 16, zB 16])) flX12_66 (fun _ h => by cases h; exact ⟨rfl, rfl⟩) rfl dX12_init_148 rfl rfl rfl rfl ?_
  refine e_aload_n dX12_init_151 rfl rfl ?_
  refine e_bipush (v := 16) dX12_init_152 rfl ?_
  refine k_bool (N := 16) (b := 18) (kc := 58) (ks := 8149) (by decide) rfl (by decide) dX12_init_154 rfl rfl rfl ?_
  refine e_pc (pc' := 156) rfl ?_
  refine k_putF (k := 0) (fs := (o12_19 n0)) (bs' := (.inr (12, (o12_20 n0)) :: [zI 8, zI 8, zI 8, zI 8, zJ 480, zJ 60, zI 16, zI 16, zI 16, zI 16, zI 16, zI 16, zI 16, zI 16, zI 16, zI 16, zB 16, zB 16])) flX12_70 (fun _ h => by cases h; exact ⟨rfl, rfl⟩) rfl dX12_init_156 rfl rfl rfl rfl ?_
  refine e_aload_n dX12_init_159 rfl rfl ?_
  refine e_bipush (v := 80) dX12_init_160 rfl ?_
  refine k_int (N := 80) (b := 19) (kc := 57) (ks := 8069) (by decide) rfl (by decide) dX12_init_162 rfl rfl rfl ?_
  refine k_putF (k := 0) (fs := (o12_20 n0)) (bs' := (.inr (12, (o12_21 n0)) :: [zI 8, zI 8, zI 8, zI 8, zJ 480, zJ 60, zI 16, zI 16, zI 16, zI 16, zI 16, zI 16, zI 16, zI 16, zI 16, zI 16, zB 16, zB 16, zI 80])) flX12_73 (fun _ h => by cases h; exact ⟨rfl, rfl⟩) rfl dX12_init_164 rfl rfl rfl rfl ?_
  refine e_aload_n dX12_init_167 rfl rfl ?_
  refine e_bipush (v := 8) dX12_init_168 rfl ?_
  refine k_int (N := 8) (b := 20) (kc := 56) (ks := 8061) (by decide) rfl (by decide) dX12_init_170 rfl rfl rfl ?_
  refine e_pc (pc' := 172) rfl ?_
  refine k_putF (k := 0) (fs := (o12_21 n0)) (bs' := (.inr (12, (o12_22 n0)) :: [zI 8, zI 8, zI 8, zI 8, zJ 480, zJ 60, zI 16, zI 16, zI 16, zI 16, zI 16, zI 16, zI 16, zI 16, zI 16, zI 16, zB 16, zB 16, zI 80, zI 8])) flX12_76 (fun _ h => by cases h; exact ⟨rfl, rfl⟩) rfl dX12_init_172 rfl rfl rfl rfl ?_
  refine e_aload_n dX12_init_175 rfl rfl ?_
  refine e_bipush (v := 8) dX12_init_176 rfl ?_
  refine k_int (N := 8) (b := 21) (kc := 55) (ks := 8053) (by decide) rfl (by decide) dX12_init_178 rfl rfl rfl ?_
  refine k_putF (k := 0) (fs := (o12_22 n0)) (bs' := (.inr (12, (o12_23 n0)) :: [zI 8, zI 8, zI 8, zI 8, zJ 480, zJ 60, zI 16, zI 16, zI 16, zI 16, zI 16, zI 16, zI 16, zI 16, zI 16, zI 16, zB 16, zB 16, zI 80, zI 8, zI 8])) flX12_79 (fun _ h => by cases h; exact ⟨rfl, rfl⟩) rfl dX12_init_180 rfl rfl rfl rfl ?_
  refine e_aload_n dX12_init_183 rfl rfl ?_
  refine e_bipush (v := 16) dX12_init_184 rfl ?_
  refine k_int (N := 16) (b := 22) (kc := 54) (ks := 8037) (by decide) rfl (by decide) dX12_init_186 rfl rfl rfl ?_
  refine e_pc (pc' := 188) rfl ?_
  refine k_putF (k := 0) (fs := (o12_23 n0)) (bs' := (.inr (12, (o12_24 n0)) :: [zI 8, zI 8, zI 8, zI 8, zJ 480, zJ 60, zI 16, zI 16, zI 16, zI 16, zI 16, zI 16, zI 16, zI 16, zI 16, zI 16, zB 16, zB 16, zI 80, zI 8, zI 8, zI 16])) flX12_82 (fun _ h => by cases h; exact ⟨rfl, rfl⟩) rfl dX12_init_188 rfl rfl rfl rfl ?_
  refine e_aload_n dX12_init_191 rfl rfl ?_
  refine e_sipush (v := 960) dX12_init_192 rfl ?_
  refine k_long (N := 960) (b := 23) (kc := 53) (ks := 7077) (by decide) rfl (by decide) dX12_init_195 rfl rfl rfl ?_
  refine k_putF (k := 0) (fs := (o12_24 n0)) (bs' := (.inr (12, (o12_25 n0)) :: [zI 8, zI 8, zI 8, zI 8, zJ 480, zJ 60, zI 16, zI 16, zI 16, zI 16, zI 16, zI 16, zI 16, zI 16, zI 16, zI 16, zB 16, zB 16, zI 80, zI 8, zI 8, zI 16, zJ 960])) flX12_85 (fun _ h => by cases h; exact ⟨rfl, rfl⟩) rfl dX12_init_197 rfl rfl rfl rfl ?_
  refine e_aload_n dX12_init_200 rfl rfl ?_
  refine e_bipush (v := 8) dX12_init_201 rfl ?_
  refine k_int (N := 8) (b := 24) (kc := 52) (ks := 7069) (by decide) rfl (by decide) dX12_init_203 rfl rfl rfl ?_
  refine e_pc (pc' := 205) rfl ?_
  refine k_putF (k := 0) (fs := (o12_25 n0)) (bs' := (.inr (12, (o12_26 n0)) :: [zI 8, zI 8, zI 8, zI 8, zJ 480, zJ 60, zI 16, zI 16, zI 16, zI 16, zI 16, zI 16, zI 16, zI 16, zI 16, zI 16, zB 16, zB 16, zI 80, zI 8, zI 8, zI 16, zJ 960, zI 8])) flX12_88 (fun _ h => by cases h; exact ⟨rfl, rfl⟩) rfl dX12_init_205 rfl rfl rfl rfl ?_
  refine e_aload_n dX12_init_208 rfl rfl ?_
  refine e_bipush (v := 8) dX12_init_209 rfl ?_
  refine k_int (N := 8) (b := 25) (kc := 51) (ks := 7061) (by decide) rfl (by decide) dX12_init_211 rfl rfl rfl ?_
  refine k_putF (k := 0) (fs := (o12_26 n0)) (bs' := (.inr (12, (o12_27 n0)) :: [zI 8, zI 8, zI 8, zI 8, zJ 480, zJ 60, zI 16, zI 16, zI 16, zI 16, zI 16, zI 16, zI 16, zI 16, zI 16, zI 16, zB 16, zB 16, zI 80, zI 8, zI 8, zI 16, zJ 960, zI 8, zI 8])) flX12_91 (fun _ h => by cases h; exact ⟨rfl, rfl⟩) rfl dX12_init_213 rfl rfl rfl rfl ?_
  refine e_aload_n dX12_init_216 rfl rfl ?_
  refine e_bipush (v := 64) dX12_init_217 rfl ?_
  refine k_int (N := 64) (b := 26) (kc := 50) (ks := 6997) (by decide) rfl (by decide) dX12_init_219 rfl rfl rfl ?_
  refine e_pc (pc' := 221) rfl ?_
  refine k_putF (k := 0) (fs := (o12_27 n0)) (bs' := (.inr (12, (o12_28 n0)) :: [zI 8, zI 8, zI 8, zI 8, zJ 480, zJ 60, zI 16, zI 16, zI 16, zI 16, zI 16, zI 16, zI 16, zI 16, zI 16, zI 16, zB 16, zB 16, zI 80, zI 8, zI 8, zI 16, zJ 960, zI 8, zI 8, zI 64])) flX12_94 (fun _ h => by cases h; exact ⟨rfl, rfl⟩) rfl dX12_init_221 rfl rfl rfl rfl ?_
  refine e_aload_n dX12_init_224 rfl rfl ?_
  refine e_bipush (v := 64) dX12_init_225 rfl ?_
  refine k_int (N := 64) (b := 27) (kc := 49) (ks := 6933) (by decide) rfl (by decide) dX12_init_227 rfl rfl rfl ?_
  refine k_putF (k := 0) (fs := (o12_28 n0)) (bs' := (.inr (12, (o12_29 n0)) :: [zI 8, zI 8, zI 8, zI 8, zJ 480, zJ 60, zI 16, zI 16, zI 16, zI 16, zI 16, zI 16, zI 16, zI 16, zI 16, zI 16, zB 16, zB 16, zI 80, zI 8, zI 8, zI 16, zJ 960, zI 8, zI 8, zI 64, zI 64])) flX12_97 (fun _ h => by cases h; exact ⟨rfl, rfl⟩) rfl dX12_init_229 rfl rfl rfl rfl ?_
  refine e_aload_n dX12_init_232 rfl rfl ?_
  refine e_bipush (v := 64) dX12_init_233 rfl ?_
  refine k_int (N := 64) (b := 28) (kc := 48) (ks := 6869) (by decide) rfl (by decide) dX12_init_235 rfl rfl rfl ?_
  refine e_pc (pc' := 237) rfl ?_
  refine k_putF (k := 0) (fs := (o12_29 n0)) (bs' := (.inr (12, (o12_30 n0)) :: [zI 8, zI 8, zI 8, zI 8, zJ 480, zJ 60, zI 16, zI 16, zI 16, zI 16, zI 16, zI 16, zI 16, zI 16, zI 16, zI 16, zB 16, zB 16, zI 80, zI 8, zI 8, zI 16, zJ 960, zI 8, zI 8, zI 64, zI 64, zI 64])) flX12_100 (fun _ h => by cases h; exact ⟨rfl, rfl⟩) rfl dX12_init_237 rfl rfl rfl rfl ?_
  refine e_aload_n dX12_init_240 rfl rfl ?_
  refine e_sipush (v := 256) dX12_init_241 rfl ?_
  refine k_int (N := 256) (b := 29) (kc := 47) (ks := 6613) (by decide) rfl (by decide) dX12_init_244 rfl rfl rfl ?_
  refine k_putF (k := 0) (fs := (o12_30 n0)) (bs' := (.inr (12, (o12_31 n0)) :: [zI 8, zI 8, zI 8, zI 8, zJ 480, zJ 60, zI 16, zI 16, zI 16, zI 16, zI 16, zI 16, zI 16, zI 16, zI 16, zI 16, zB 16, zB 16, zI 80, zI 8, zI 8, zI 16, zJ 960, zI 8, zI 8, zI 64, zI 64, zI 64, zI 256])) flX12_103 (fun _ h => by cases h; exact ⟨rfl, rfl⟩) rfl dX12_init_246 rfl rfl rfl rfl ?_
  refine e_aload_n dX12_init_249 rfl rfl ?_
  refine e_bipush (v := 8) dX12_init_250 rfl ?_
  refine k_bool (N := 8) (b := 30) (kc := 46) (ks := 6605) (by decide) rfl (by decide) dX12_init_252 rfl rfl rfl ?_
  refine e_pc (pc' := 254) rfl ?_
  refine k_putF (k := 0) (fs := (o12_31 n0)) (bs' := (.inr (12, (o12_32 n0)) :: [zI 8, zI 8, zI 8, zI 8, zJ 480, zJ 60, zI 16, zI 16, zI 16, zI 16, zI 16, zI 16, zI 16, zI 16, zI 16, zI 16, zB 16, zB 16, zI 80, zI 8, zI 8, zI 16, zJ 960, zI 8, zI 8, zI 64, zI 64, zI 64, zI 256, zB 8])) flX12_106 (fun _ h => by cases h; exact ⟨rfl, rfl⟩) rfl dX12_init_254 rfl rfl rfl rfl ?_
  refine e_aload_n dX12_init_257 rfl rfl ?_
  refine e_bipush (v := 64) dX12_init_258 rfl ?_
  refine k_int (N := 64) (b := 31) (kc := 45) (ks := 6541) (by decide) rfl (by decide) dX12_init_260 rfl rfl rfl ?_
  refine k_putF (k := 0) (fs := (o12_32 n0)) (bs' := (.inr (12, (o12_33 n0)) :: [zI 8, zI 8, zI 8, zI 8, zJ 480, zJ 60, zI 16, zI 16, zI 16, zI 16, zI 16, zI 16, zI 16, zI 16, zI 16, zI 16, zB 16, zB 16, zI 80, zI 8, zI 8, zI 16, zJ 960, zI 8, zI 8, zI 64, zI 64, zI 64, zI 256, zB 8, zI 64])) flX12_109 (fun _ h => by cases h; exact ⟨rfl, rfl⟩) rfl dX12_init_262 rfl rfl rfl rfl ?_
  refine e_aload_n dX12_init_265 rfl rfl ?_
  refine e_bipush (v := 64) dX12_init_266 rfl ?_
  refine k_int (N := 64) (b := 32) (kc := 44) (ks := 6477) (by decide) rfl (by decide) dX12_init_268 rfl rfl rfl ?_
  refine e_pc (pc' := 270) rfl ?_
  refine k_putF (k := 0) (fs := (o12_33 n0)) (bs' := (.inr (12, (o12_34 n0)) :: [zI 8, zI 8, zI 8, zI 8, zJ 480, zJ 60, zI 16, zI 16, zI 16, zI 16, zI 16, zI 16, zI 16, zI 16, zI 16, zI 16, zB 16, zB 16, zI 80, zI 8, zI 8, zI 16, zJ 960, zI 8, zI 8, zI 64, zI 64, zI 64, zI 256, zB 8, zI 64, zI 64])) flX12_112 (fun _ h => by cases h; exact ⟨rfl, rfl⟩) rfl dX12_init_270 rfl rfl rfl rfl ?_
  refine e_aload_n dX12_init_273 rfl rfl ?_
  refine e_bipush (v := 8) dX12_init_274 rfl ?_
  refine k_int (N := 8) (b := 33) (kc := 43) (ks := 6469) (by decide) rfl (by decide) dX12_init_276 rfl rfl rfl ?_
  refine k_putF (k := 0) (fs := (o12_34 n0)) (bs' := (.inr (12, (o12_35 n0)) :: [zI 8, zI 8, zI 8, zI 8, zJ 480, zJ 60, zI 16, zI 16, zI 16, zI 16, zI 16, zI 16, zI 16, zI 16, zI 16, zI 16, zB 16, zB 16, zI 80, zI 8, zI 8, zI 16, zJ 960, zI 8, zI 8, zI 64, zI 64, zI 64, zI 256, zB 8, zI 64, zI 64, zI 8])) flX12_115 (fun _ h => by cases h; exact ⟨rfl, rfl⟩) rfl dX12_init_278 rfl rfl rfl rfl ?_
  refine e_aload_n dX12_init_281 rfl rfl ?_
  refine e_bipush (v := 8) dX12_init_282 rfl ?_
  refine k_int (N := 8) (b := 34) (kc := 42) (ks := 6461) (by decide) rfl (by decide) dX12_init_284 rfl rfl rfl ?_
  refine e_pc (pc' := 286) rfl ?_
  refine k_putF (k := 0) (fs := (o12_35 n0)) (bs' := (.inr (12, (o12_36 n0)) :: [zI 8, zI 8, zI 8, zI 8, zJ 480, zJ 60, zI 16, zI 16, zI 16, zI 16, zI 16, zI 16, zI 16, zI 16, zI 16, zI 16, zB 16, zB 16, zI 80, zI 8, zI 8, zI 16, zJ 960, zI 8, zI 8, zI 64, zI 64, zI 64, zI 256, zB 8, zI 64, zI 64, zI 8, zI 8])) flX12_118 (fun _ h => by cases h; exact ⟨rfl, rfl⟩) rfl dX12_init_286 rfl rfl rfl rfl ?_
  refine e_aload_n dX12_init_289 rfl rfl ?_
  refine e_bipush (v := 8) dX12_init_290 rfl ?_
  refine k_int (N := 8) (b := 35) (kc := 41) (ks := 6453) (by decide) rfl (by decide) dX12_init_292 rfl rfl rfl ?_
  refine k_putF (k := 0) (fs := (o12_36 n0)) (bs' := (.inr (12, (o12_37 n0)) :: [zI 8, zI 8, zI 8, zI 8, zJ 480, zJ 60, zI 16, zI 16, zI 16, zI 16, zI 16, zI 16, zI 16, zI 16, zI 16, zI 16, zB 16, zB 16, zI 80, zI 8, zI 8, zI 16, zJ 960, zI 8, zI 8, zI 64, zI 64, zI 64, zI 256, zB 8, zI 64, zI 64, zI 8, zI 8, zI 8])) flX12_121 (fun _ h => by cases h; exact ⟨rfl, rfl⟩) rfl dX12_init_294 rfl rfl rfl rfl ?_
  refine e_aload_n dX12_init_297 rfl rfl ?_
  refine e_bipush (v := 8) dX12_init_298 rfl ?_
  refine k_int (N := 8) (b := 36) (kc := 40) (ks := 6445) (by decide) rfl (by decide) dX12_init_300 rfl rfl rfl ?_
  refine e_pc (pc' := 302) rfl ?_
  refine k_putF (k := 0) (fs := (o12_37 n0)) (bs' := (.inr (12, (o12_38 n0)) :: [zI 8, zI 8, zI 8, zI 8, zJ 480, zJ 60, zI 16, zI 16, zI 16, zI 16, zI 16, zI 16, zI 16, zI 16, zI 16, zI 16, zB 16, zB 16, zI 80, zI 8, zI 8, zI 16, zJ 960, zI 8, zI 8, zI 64, zI 64, zI 64, zI 256, zB 8, zI 64, zI 64, zI 8, zI 8, zI 8, zI 8])) flX12_124 (fun _ h => by cases h; exact ⟨rfl, rfl⟩) rfl dX12_init_302 rfl rfl rfl rfl ?_
  refine e_aload_n dX12_init_305 rfl rfl ?_
  refine e_bipush (v := 8) dX12_init_306 rfl ?_
  refine k_int (N := 8) (b := 37) (kc := 39) (ks := 6437) (by decide) rfl (by decide) dX12_init_308 rfl rfl rfl ?_
  refine k_putF (k := 0) (fs := (o12_38 n0)) (bs' := (.inr (12, (o12_39 n0)) :: [zI 8, zI 8, zI 8, zI 8, zJ 480, zJ 60, zI 16, zI 16, zI 16, zI 16, zI 16, zI 16, zI 16, zI 16, zI 16, zI 16, zB 16, zB 16, zI 80, zI 8, zI 8, zI 16, zJ 960, zI 8, zI 8, zI 64, zI 64, zI 64, zI 256, zB 8, zI 64, zI 64, zI 8, zI 8, zI 8, zI 8, zI 8])) flX12_127 (fun _ h => by cases h; exact ⟨rfl, rfl⟩) rfl dX12_init_310 rfl rfl rfl rfl ?_
  refine e_aload_n dX12_init_313 rfl rfl ?_
  refine e_bipush (v := 8) dX12_init_314 rfl ?_
  refine k_int (N := 8) (b := 38) (kc := 38) (ks := 6429) (by decide) rfl (by decide) dX12_init_316 rfl rfl rfl ?_
  refine e_pc (pc' := 318) rfl ?_
  refine k_putF (k := 0) (fs := (o12_39 n0)) (bs' := (.inr (12, (o12_40 n0)) :: [zI 8, zI 8, zI 8, zI 8, zJ 480, zJ 60, zI 16, zI 16, zI 16, zI 16, zI 16, zI 16, zI 16, zI 16, zI 16, zI 16, zB 16, zB 16, zI 80, zI 8, zI 8, zI 16, zJ 960, zI 8, zI 8, zI 64, zI 64, zI 64, zI 256, zB 8, zI 64, zI 64, zI 8, zI 8, zI 8, zI 8, zI 8, zI 8])) flX12_130 (fun _ h => by cases h; exact ⟨rfl, rfl⟩) rfl dX12_init_318 rfl rfl rfl rfl ?_
  refine e_aload_n dX12_init_321 rfl rfl ?_
  refine e_sipush (v := 480) dX12_init_322 rfl ?_
  refine k_int (N := 480) (b := 39) (kc := 37) (ks := 5949) (by decide) rfl (by decide) dX12_init_325 rfl rfl rfl ?_
  refine k_putF (k := 0) (fs := (o12_40 n0)) (bs' := (.inr (12, (o12_41 n0)) :: [zI 8, zI 8, zI 8, zI 8, zJ 480, zJ 60, zI 16, zI 16, zI 16, zI 16, zI 16, zI 16, zI 16, zI 16, zI 16, zI 16, zB 16, zB 16, zI 80, zI 8, zI 8, zI 16, zJ 960, zI 8, zI 8, zI 64, zI 64, zI 64, zI 256, zB 8, zI 64, zI 64, zI 8, zI 8, zI 8, zI 8, zI 8, zI 8, zI 480])) flX12_133 (fun _ h => by cases h; exact ⟨rfl, rfl⟩) rfl dX12_init_327 rfl rfl rfl rfl ?_
  refine e_aload_n dX12_init_330 rfl rfl ?_
  refine e_sipush (v := 480) dX12_init_331 rfl ?_
  refine k_long (N := 480) (b := 40) (kc := 36) (ks := 5469) (by decide) rfl (by decide) dX12_init_334 rfl rfl rfl ?_
  refine e_pc (pc' := 336) rfl ?_
  refine k_putF (k := 0) (fs := (o12_41 n0)) (bs' := (.inr (12, (o12_42 n0)) :: [zI 8, zI 8, zI 8, zI 8, zJ 480, zJ 60, zI 16, zI 16, zI 16, zI 16, zI 16, zI 16, zI 16, zI 16, zI 16, zI 16, zB 16, zB 16, zI 80, zI 8, zI 8, zI 16, zJ 960, zI 8, zI 8, zI 64, zI 64, zI 64, zI 256, zB 8, zI 64, zI 64, zI 8, zI 8, zI 8, zI 8, zI 8, zI 8, zI 480, zJ 480])) flX12_136 (fun _ h => by cases h; exact ⟨rfl, rfl⟩) rfl dX12_init_336 rfl rfl rfl rfl ?_
  refine e_aload_n dX12_init_339 rfl rfl ?_
  refine e_iconst (v := 4) dX12_init_340 rfl ?_
  refine k_int (N := 4) (b := 41) (kc := 35) (ks := 5465) (by decide) rfl (by decide) dX12_init_341 rfl rfl rfl ?_
  refine k_putF (k := 0) (fs := (o12_42 n0)) (bs' := (.inr (12, (o12_43 n0)) :: [zI 8, zI 8, zI 8, zI 8, zJ 480, zJ 60, zI 16, zI 16, zI 16, zI 16, zI 16, zI 16, zI 16, zI 16, zI 16, zI 16, zB 16, zB 16, zI 80, zI 8, zI 8, zI 16, zJ 960, zI 8, zI 8, zI 64, zI 64, zI 64, zI 256, zB 8, zI 64, zI 64, zI 8, zI 8, zI 8, zI 8, zI 8, zI 8, zI 480, zJ 480, zI 4])) flX12_139 (fun _ h => by cases h; exact ⟨rfl, rfl⟩) rfl dX12_init_343 rfl rfl rfl rfl ?_
  refine e_aload_n dX12_init_346 rfl rfl ?_
  refine e_bipush (v := 64) dX12_init_347 rfl ?_
  refine k_int (N := 64) (b := 42) (kc := 34) (ks := 5401) (by decide) rfl (by decide) dX12_init_349 rfl rfl rfl ?_
  refine e_pc (pc' := 351) rfl ?_
  refine k_putF (k := 0) (fs := (o12_43 n0)) (bs' := (.inr (12, (o12_44 n0)) :: [zI 8, zI 8, zI 8, zI 8, zJ 480, zJ 60, zI 16, zI 16, zI 16, zI 16, zI 16, zI 16, zI 16, zI 16, zI 16, zI 16, zB 16, zB 16, zI 80, zI 8, zI 8, zI 16, zJ 960, zI 8, zI 8, zI 64, zI 64, zI 64, zI 256, zB 8, zI 64, zI 64, zI 8, zI 8, zI 8, zI 8, zI 8, zI 8, zI 480, zJ 480, zI 4, zI 64])) flX12_142 (fun _ h => by cases h; exact ⟨rfl, rfl⟩) rfl dX12_init_351 rfl rfl rfl rfl ?_
  refine e_aload_n dX12_init_354 rfl rfl ?_
  refine e_sipush (v := 256) dX12_init_355 rfl ?_
  refine k_int (N := 256) (b := 43) (kc := 33) (ks := 5145) (by decide) rfl (by decide) dX12_init_358 rfl rfl rfl ?_
  refine k_putF (k := 0) (fs := (o12_44 n0)) (bs' := (.inr (12, (o12_45 n0)) :: [zI 8, zI 8, zI 8, zI 8, zJ 480, zJ 60, zI 16, zI 16, zI 16, zI 16, zI 16, zI 16, zI 16, zI 16, zI 16, zI 16, zB 16, zB 16, zI 80, zI 8, zI 8, zI 16, zJ 960, zI 8, zI 8, zI 64, zI 64, zI 64, zI 256, zB 8, zI 64, zI 64, zI 8, zI 8, zI 8, zI 8, zI 8, zI 8, zI 480, zJ 480, zI 4, zI 64, zI 256])) flX12_145 (fun _ h => by cases h; exact ⟨rfl, rfl⟩) rfl dX12_init_360 rfl rfl rfl rfl ?_
  refine e_aload_n dX12_init_363 rfl rfl ?_
  refine e_sipush (v := 256) dX12_init_364 rfl ?_
  refine k_int (N := 256) (b := 44) (kc := 32) (ks := 4889) (by decide) rfl (by decide) dX12_init_367 rfl rfl rfl ?_
  refine e_pc (pc' := 369) rfl ?_
  refine k_putF (k := 0) (fs := (o12_45 n0)) (bs' := (.inr (12, (o12_46 n0)) :: [zI 8, zI 8, zI 8, zI 8, zJ 480, zJ 60, zI 16, zI 16, zI 16, zI 16, zI 16, zI 16, zI 16, zI 16, zI 16, zI 16, zB 16, zB 16, zI 80, zI 8, zI 8, zI 16, zJ 960, zI 8, zI 8, zI 64, zI 64, zI 64, zI 256, zB 8, zI 64, zI 64, zI 8, zI 8, zI 8, zI 8, zI 8, zI 8, zI 480, zJ 480, zI 4, zI 64, zI 256, zI 256])) flX12_148 (fun _ h => by cases h; exact ⟨rfl, rfl⟩) rfl dX12_init_369 rfl rfl rfl rfl ?_
  refine e_aload_n dX12_init_372 rfl rfl ?_
  refine e_sipush (v := 256) dX12_init_373 rfl ?_
  refine k_int (N := 256) (b := 45) (kc := 31) (ks := 4633) (by decide) rfl (by decide) dX12_init_376 rfl rfl rfl ?_
  refine k_putF (k := 0) (fs := (o12_46 n0)) (bs' := (.inr (12, (o12_47 n0)) :: [zI 8, zI 8, zI 8, zI 8, zJ 480, zJ 60, zI 16, zI 16, zI 16, zI 16, zI 16, zI 16, zI 16, zI 16, zI 16, zI 16, zB 16, zB 16, zI 80, zI 8, zI 8, zI 16, zJ 960, zI 8, zI 8, zI 64, zI 64, zI 64, zI 256, zB 8, zI 64, zI 64, zI 8, zI 8, zI 8, zI 8, zI 8, zI 8, zI 480, zJ 480, zI 4, zI 64, zI 256, zI 256, zI 256])) flX12_151 (fun _ h => by cases h; exact ⟨rfl, rfl⟩) rfl dX12_init_378 rfl rfl rfl rfl ?_
  refine e_aload_n dX12_init_381 rfl rfl ?_
  refine e_bipush (v := 64) dX12_init_382 rfl ?_
  refine k_int (N := 64) (b := 46) (kc := 30) (ks := 4569) (by decide) rfl (by decide) dX12_init_384 rfl rfl rfl ?_
  refine e_pc (pc' := 386) rfl ?_
  refine k_putF (k := 0) (fs := (o12_47 n0)) (bs' := (.inr (12, (o12_48 n0)) :: [zI 8, zI 8, zI 8, zI 8, zJ 480, zJ 60, zI 16, zI 16, zI 16, zI 16, zI 16, zI 16, zI 16, zI 16, zI 16, zI 16, zB 16, zB 16, zI 80, zI 8, zI 8, zI 16, zJ 960, zI 8, zI 8, zI 64, zI 64, zI 64, zI 256, zB 8, zI 64, zI 64, zI 8, zI 8, zI 8, zI 8, zI 8, zI 8, zI 480, zJ 480, zI 4, zI 64, zI 256, zI 256, zI 256, zI 64])) flX12_154 (fun _ h => by cases h; exact ⟨rfl, rfl⟩) rfl dX12_init_386 rfl rfl rfl rfl ?_
  refine e_aload_n dX12_init_389 rfl rfl ?_
  refine e_iconst (v := 4) dX12_init_390 rfl ?_
  refine k_int (N := 4) (b := 47) (kc := 29) (ks := 4565) (by decide) rfl (by decide) dX12_init_391 rfl rfl rfl ?_
  refine k_putF (k := 0) (fs := (o12_48 n0)) (bs' := (.inr (12, (o12_49 n0)) :: [zI 8, zI 8, zI 8, zI 8, zJ 480, zJ 60, zI 16, zI 16, zI 16, zI 16, zI 16, zI 16, zI 16, zI 16, zI 16, zI 16, zB 16, zB 16, zI 80, zI 8, zI 8, zI 16, zJ 960, zI 8, zI 8, zI 64, zI 64, zI 64, zI 256, zB 8, zI 64, zI 64, zI 8, zI 8, zI 8, zI 8, zI 8, zI 8, zI 480, zJ 480, zI 4, zI 64, zI 256, zI 256, zI 256, zI 64, zI 4])) flX12_157 (fun _ h => by cases h; exact ⟨rfl, rfl⟩) rfl dX12_init_393 rfl rfl rfl rfl ?_
  refine e_aload_n dX12_init_396 rfl rfl ?_
  refine e_bipush (v := 32) dX12_init_397 rfl ?_
  refine k_int (N := 32) (b := 48) (kc := 28) (ks := 4533) (by decide) rfl (by decide) dX12_init_399 rfl rfl rfl ?_
  refine e_pc (pc' := 401) rfl ?_
  refine k_putF (k := 0) (fs := (o12_49 n0)) (bs' := (.inr (12, (o12_50 n0)) :: [zI 8, zI 8, zI 8, zI 8, zJ 480, zJ 60, zI 16, zI 16, zI 16, zI 16, zI 16, zI 16, zI 16, zI 16, zI 16, zI 16, zB 16, zB 16, zI 80, zI 8, zI 8, zI 16, zJ 960, zI 8, zI 8, zI 64, zI 64, zI 64, zI 256, zB 8, zI 64, zI 64, zI 8, zI 8, zI 8, zI 8, zI 8, zI 8, zI 480, zJ 480, zI 4, zI 64, zI 256, zI 256, zI 256, zI 64, zI 4, zI 32])) flX12_160 (fun _ h => by cases h; exact ⟨rfl, rfl⟩) rfl dX12_init_401 rfl rfl rfl rfl ?_
  refine e_aload_n dX12_init_404 rfl rfl ?_
  refine e_bipush (v := 32) dX12_init_405 rfl ?_
  refine k_int (N := 32) (b := 49) (kc := 27) (ks := 4501) (by decide) rfl (by decide) dX12_init_407 rfl rfl rfl ?_
  refine k_putF (k := 0) (fs := (o12_50 n0)) (bs' := (.inr (12, (o12_51 n0)) :: [zI 8, zI 8, zI 8, zI 8, zJ 480, zJ 60, zI 16, zI 16, zI 16, zI 16, zI 16, zI 16, zI 16, zI 16, zI 16, zI 16, zB 16, zB 16, zI 80, zI 8, zI 8, zI 16, zJ 960, zI 8, zI 8, zI 64, zI 64, zI 64, zI 256, zB 8, zI 64, zI 64, zI 8, zI 8, zI 8, zI 8, zI 8, zI 8, zI 480, zJ 480, zI 4, zI 64, zI 256, zI 256, zI 256, zI 64, zI 4, zI 32, zI 32])) flX12_163 (fun _ h => by cases h; exact ⟨rfl, rfl⟩) rfl dX12_init_409 rfl rfl rfl rfl ?_
  refine e_aload_n dX12_init_412 rfl rfl ?_
  refine e_bipush (v := 6) dX12_init_413 rfl ?_
  refine k_int (N := 6) (b := 50) (kc := 26) (ks := 4495) (by decide) rfl (by decide) dX12_init_415 rfl rfl rfl ?_
  refine e_pc (pc' := 417) rfl ?_
  refine k_putF (k := 0) (fs := (o12_51 n0)) (bs' := (.inr (12, (o12_52 n0)) :: [zI 8, zI 8, zI 8, zI 8, zJ 480, zJ 60, zI 16, zI 16, zI 16, zI 16, zI 16, zI 16, zI 16, zI 16, zI 16, zI 16, zB 16, zB 16, zI 80, zI 8, zI 8, zI 16, zJ 960, zI 8, zI 8, zI 64, zI 64, zI 64, zI 256, zB 8, zI 64, zI 64, zI 8, zI 8, zI 8, zI 8, zI 8, zI 8, zI 480, zJ 480, zI 4, zI 64, zI 256, zI 256, zI 256, zI 64, zI 4, zI 32, zI 32, zI 6])) flX12_166 (fun _ h => by cases h; exact ⟨rfl, rfl⟩) rfl dX12_init_417 rfl rfl rfl rfl ?_
  refine e_aload_n dX12_init_420 rfl rfl ?_
  refine e_bipush (v := 6) dX12_init_421 rfl ?_
  refine k_int (N := 6) (b := 51) (kc := 25) (ks := 4489) (by decide) rfl (by decide) dX12_init_423 rfl rfl rfl ?_
  refine k_putF (k := 0) (fs := (o12_52 n0)) (bs' := (.inr (12, (o12_53 n0)) :: [zI 8, zI 8, zI 8, zI 8, zJ 480, zJ 60, zI 16, zI 16, zI 16, zI 16, zI 16, zI 16, zI 16, zI 16, zI 16, zI 16, zB 16, zB 16, zI 80, zI 8, zI 8, zI 16, zJ 960, zI 8, zI 8, zI 64, zI 64, zI 64, zI 256, zB 8, zI 64, zI 64, zI 8, zI 8, zI 8, zI 8, zI 8, zI 8, zI 480, zJ 480, zI 4, zI 64, zI 256, zI 256, zI 256, zI 64, zI 4, zI 32, zI 32, zI 6, zI 6])) flX12_169 (fun _ h => by cases h; exact ⟨rfl, rfl⟩) rfl dX12_init_425 rfl rfl rfl rfl ?_
  refine e_aload_n dX12_init_428 rfl rfl ?_
  refine e_bipush (v := 6) dX12_init_429 rfl ?_
  refine k_int (N := 6) (b := 52) (kc := 24) (ks := 4483) (by decide) rfl (by decide) dX12_init_431 rfl rfl rfl ?_
  refine e_pc (pc' := 433) rfl ?_
  refine k_putF (k := 0) (fs := (o12_53 n0)) (bs' := (.inr (12, (o12_54 n0)) :: [zI 8, zI 8, zI 8, zI 8, zJ 480, zJ 60, zI 16, zI 16, zI 16, zI 16, zI 16, zI 16, zI 16, zI 16, zI 16, zI 16, zB 16, zB 16, zI 80, zI 8, zI 8, zI 16, zJ 960, zI 8, zI 8, zI 64, zI 64, zI 64, zI 256, zB 8, zI 64, zI 64, zI 8, zI 8, zI 8, zI 8, zI 8, zI 8, zI 480, zJ 480, zI 4, zI 64, zI 256, zI 256, zI 256, zI 64, zI 4, zI 32, zI 32, zI 6, zI 6, zI 6])) flX12_172 (fun _ h => by cases h; exact ⟨rfl, rfl⟩) rfl dX12_init_433 rfl rfl rfl rfl ?_
  refine e_aload_n dX12_init_436 rfl rfl ?_
  refine e_bipush (v := 6) dX12_init_437 rfl ?_
  refine k_int (N := 6) (b := 53) (kc := 23) (ks := 4477) (by decide) rfl (by decide) dX12_init_439 rfl rfl rfl ?_
  refine k_putF (k := 0) (fs := (o12_54 n0)) (bs' := (.inr (12, (o12_55 n0)) :: [zI 8, zI 8, zI 8, zI 8, zJ 480, zJ 60, zI 16, zI 16, zI 16, zI 16, zI 16, zI 16, zI 16, zI 16, zI 16, zI 16, zB 16, zB 16, zI 80, zI 8, zI 8, zI 16, zJ 960, zI 8, zI 8, zI 64, zI 64, zI 64, zI 256, zB 8, zI 64, zI 64, zI 8, zI 8, zI 8, zI 8, zI 8, zI 8, zI 480, zJ 480, zI 4, zI 64, zI 256, zI 256, zI 256, zI 64, zI 4, zI 32, zI 32, zI 6, zI 6, zI 6, zI 6])) flX12_175 (fun _ h => by cases h; exact ⟨rfl, rfl⟩) rfl dX12_init_441 rfl rfl rfl rfl ?_
  refine e_aload_n dX12_init_444 rfl rfl ?_
  refine e_sipush (v := 240) dX12_init_445 rfl ?_
  refine k_int (N := 240) (b := 54) (kc := 22) (ks := 4237) (by decide) rfl (by decide) dX12_init_448 rfl rfl rfl ?_
  refine e_pc (pc' := 450) rfl ?_
  refine k_putF (k := 0) (fs := (o12_55 n0)) (bs' := (.inr (12, (o12_56 n0)) :: [zI 8, zI 8, zI 8, zI 8, zJ 480, zJ 60, zI 16, zI 16, zI 16, zI 16, zI 16, zI 16, zI 16, zI 16, zI 16, zI 16, zB 16, zB 16, zI 80, zI 8, zI 8, zI 16, zJ 960, zI 8, zI 8, zI 64, zI 64, zI 64, zI 256, zB 8, zI 64, zI 64, zI 8, zI 8, zI 8, zI 8, zI 8, zI 8, zI 480, zJ 480, zI 4, zI 64, zI 256, zI 256, zI 256, zI 64, zI 4, zI 32, zI 32, zI 6, zI 6, zI 6, zI 6, zI 240])) flX12_178 (fun _ h => by cases h; exact ⟨rfl, rfl⟩) rfl dX12_init_450 rfl rfl rfl rfl ?_
  refine e_aload_n dX12_init_453 rfl rfl ?_
  refine e_sipush (v := 240) dX12_init_454 rfl ?_
  refine k_bool (N := 240) (b := 55) (kc := 21) (ks := 3997) (by decide) rfl (by decide) dX12_init_457 rfl rfl rfl ?_
  refine k_putF (k := 0) (fs := (o12_56 n0)) (bs' := (.inr (12, (o12_57 n0)) :: [zI 8, zI 8, zI 8, zI 8, zJ 480, zJ 60, zI 16, zI 16, zI 16, zI 16, zI 16, zI 16, zI 16, zI 16, zI 16, zI 16, zB 16, zB 16, zI 80, zI 8, zI 8, zI 16, zJ 960, zI 8, zI 8, zI 64, zI 64, zI 64, zI 256, zB 8, zI 64, zI 64, zI 8, zI 8, zI 8, zI 8, zI 8, zI 8, zI 480, zJ 480, zI 4, zI 64, zI 256, zI 256, zI 256, zI 64, zI 4, zI 32, zI 32, zI 6, zI 6, zI 6, zI 6, zI 240, zB 240])) flX12_181 (fun _ h => by cases h; exact ⟨rfl, rfl⟩) rfl dX12_init_459 rfl rfl rfl rfl ?_
  refine e_aload_n dX12_init_462 rfl rfl ?_
  refine e_bipush (v := 8) dX12_init_463 rfl ?_
  refine k_int (N := 8) (b := 56) (kc := 20) (ks := 3989) (by decide) rfl (by decide) dX12_init_465 rfl rfl rfl ?_
  refine e_pc (pc' := 467) rfl ?_
  refine k_putF (k := 0) (fs := (o12_57 n0)) (bs' := (.inr (12, (o12_58 n0)) :: [zI 8, zI 8, zI 8, zI 8, zJ 480, zJ 60, zI 16, zI 16, zI 16, zI 16, zI 16, zI 16, zI 16, zI 16, zI 16, zI 16, zB 16, zB 16, zI 80, zI 8, zI 8, zI 16, zJ 960, zI 8, zI 8, zI 64, zI 64, zI 64, zI 256, zB 8, zI 64, zI 64, zI 8, zI 8, zI 8, zI 8, zI 8, zI 8, zI 480, zJ 480, zI 4, zI 64, zI 256, zI 256, zI 256, zI 64, zI 4, zI 32, zI 32, zI 6, zI 6, zI 6, zI 6, zI 240, zB 240, zI 8])) flX12_184 (fun _ h => by cases h; exact ⟨rfl, rfl⟩) rfl dX12_init_467 rfl rfl rfl rfl ?_
  refine e_aload_n dX12_init_470 rfl rfl ?_
  refine e_bipush (v := 64) dX12_init_471 rfl ?_
  refine k_int (N := 64) (b := 57) (kc := 19) (ks := 3925) (by decide) rfl (by decide) dX12_init_473 rfl rfl rfl ?_
  refine k_putF (k := 0) (fs := (o12_58 n0)) (bs' := (.inr (12, (o12_59 n0)) :: [zI 8, zI 8, zI 8, zI 8, zJ 480, zJ 60, zI 16, zI 16, zI 16, zI 16, zI 16, zI 16, zI 16, zI 16, zI 16, zI 16, zB 16, zB 16, zI 80, zI 8, zI 8, zI 16, zJ 960, zI 8, zI 8, zI 64, zI 64, zI 64, zI 256, zB 8, zI 64, zI 64, zI 8, zI 8, zI 8, zI 8, zI 8, zI 8, zI 480, zJ 480, zI 4, zI 64, zI 256, zI 256, zI 256, zI 64, zI 4, zI 32, zI 32, zI 6, zI 6, zI 6, zI 6, zI 240, zB 240, zI 8, zI 64])) flX12_187 (fun _ h => by cases h; exact ⟨rfl, rfl⟩) rfl dX12_init_475 rfl rfl rfl rfl ?_
  refine e_aload_n dX12_init_478 rfl rfl ?_
  refine e_bipush (v := 8) dX12_init_479 rfl ?_
  refine k_int (N := 8) (b := 58) (kc := 18) (ks := 3917) (by decide) rfl (by decide) dX12_init_481 rfl rfl rfl ?_
  refine e_pc (pc' := 483) rfl ?_
  refine k_putF (k := 0) (fs := (o12_59 n0)) (bs' := (.inr (12, (o12_60 n0)) :: [zI 8, zI 8, zI 8, zI 8, zJ 480, zJ 60, zI 16, zI 16, zI 16, zI 16, zI 16, zI 16, zI 16, zI 16, zI 16, zI 16, zB 16, zB 16, zI 80, zI 8, zI 8, zI 16, zJ 960, zI 8, zI 8, zI 64, zI 64, zI 64, zI 256, zB 8, zI 64, zI 64, zI 8, zI 8, zI 8, zI 8, zI 8, zI 8, zI 480, zJ 480, zI 4, zI 64, zI 256, zI 256, zI 256, zI 64, zI 4, zI 32, zI 32, zI 6, zI 6, zI 6, zI 6, zI 240, zB 240, zI 8, zI 64, zI 8])) flX12_190 (fun _ h => by cases h; exact ⟨rfl, rfl⟩) rfl dX12_init_483 rfl rfl rfl rfl ?_
  refine e_aload_n dX12_init_486 rfl rfl ?_
  refine e_bipush (v := 8) dX12_init_487 rfl ?_
  refine k_int (N := 8) (b := 59) (kc := 17) (ks := 3909) (by decide) rfl (by decide) dX12_init_489 rfl rfl rfl ?_
  refine k_putF (k := 0) (fs := (o12_60 n0)) (bs' := (.inr (12, (o12_61 n0)) :: [zI 8, zI 8, zI 8, zI 8, zJ 480, zJ 60, zI 16, zI 16, zI 16, zI 16, zI 16, zI 16, zI 16, zI 16, zI 16, zI 16, zB 16, zB 16, zI 80, zI 8, zI 8, zI 16, zJ 960, zI 8, zI 8, zI 64, zI 64, zI 64, zI 256, zB 8, zI 64, zI 64, zI 8, zI 8, zI 8, zI 8, zI 8, zI 8, zI 480, zJ 480, zI 4, zI 64, zI 256, zI 256, zI 256, zI 64, zI 4, zI 32, zI 32, zI 6, zI 6, zI 6, zI 6, zI 240, zB 240, zI 8, zI 64, zI 8, zI 8])) flX12_193 (fun _ h => by cases h; exact ⟨rfl, rfl⟩) rfl dX12_init_491 rfl rfl rfl rfl ?_
  refine e_aload_n dX12_init_494 rfl rfl ?_
  refine e_bipush (v := 6) dX12_init_495 rfl ?_
  refine k_int (N := 6) (b := 60) (kc := 16) (ks := 3903) (by decide) rfl (by decide) dX12_init_497 rfl rfl rfl ?_
  refine e_pc (pc' := 499) rfl ?_
  refine k_putF (k := 0) (fs := (o12_61 n0)) (bs' := (.inr (12, (o12_62 n0)) :: [zI 8, zI 8, zI 8, zI 8, zJ 480, zJ 60, zI 16, zI 16, zI 16, zI 16, zI 16, zI 16, zI 16, zI 16, zI 16, zI 16, zB 16, zB 16, zI 80, zI 8, zI 8, zI 16, zJ 960, zI 8, zI 8, zI 64, zI 64, zI 64, zI 256, zB 8, zI 64, zI 64, zI 8, zI 8, zI 8, zI 8, zI 8, zI 8, zI 480, zJ 480, zI 4, zI 64, zI 256, zI 256, zI 256, zI 64, zI 4, zI 32, zI 32, zI 6, zI 6, zI 6, zI 6, zI 240, zB 240, zI 8, zI 64, zI 8, zI 8, zI 6])) flX12_196 (fun _ h => by cases h; exact ⟨rfl, rfl⟩) rfl dX12_init_499 rfl rfl rfl rfl ?_
  refine e_aload_n dX12_init_502 rfl rfl ?_
  refine e_bipush (v := 8) dX12_init_503 rfl ?_
  refine k_int (N := 8) (b := 61) (kc := 15) (ks := 3895) (by decide) rfl (by decide) dX12_init_505 rfl rfl rfl ?_
  refine k_putF (k := 0) (fs := (o12_62 n0)) (bs' := (.inr (12, (o12_63 n0)) :: [zI 8, zI 8, zI 8, zI 8, zJ 480, zJ 60, zI 16, zI 16, zI 16, zI 16, zI 16, zI 16, zI 16, zI 16, zI 16, zI 16, zB 16, zB 16, zI 80, zI 8, zI 8, zI 16, zJ 960, zI 8, zI 8, zI 64, zI 64, zI 64, zI 256, zB 8, zI 64, zI 64, zI 8, zI 8, zI 8, zI 8, zI 8, zI 8, zI 480, zJ 480, zI 4, zI 64, zI 256, zI 256, zI 256, zI 64, zI 4, zI 32, zI 32, zI 6, zI 6, zI 6, zI 6, zI 240, zB 240, zI 8, zI 64, zI 8, zI 8, zI 6, zI 8])) flX12_199 (fun _ h => by cases h; exact ⟨rfl, rfl⟩) rfl dX12_init_507 rfl rfl rfl rfl ?_
  refine e_aload_n dX12_init_510 rfl rfl ?_
  refine e_bipush (v := 8) dX12_init_511 rfl ?_
  refine k_int (N := 8) (b := 62) (kc := 14) (ks := 3887) (by decide) rfl (by decide) dX12_init_513 rfl rfl rfl ?_
  refine e_pc (pc' := 515) rfl ?_
  refine k_putF (k := 0) (fs := (o12_63 n0)) (bs' := (.inr (12, (o12_64 n0)) :: [zI 8, zI 8, zI 8, zI 8, zJ 480, zJ 60, zI 16, zI 16, zI 16, zI 16, zI 16, zI 16, zI 16, zI 16, zI 16, zI 16, zB 16, zB 16, zI 80, zI 8, zI 8, zI 16, zJ 960, zI 8, zI 8, zI 64, zI 64, zI 64, zI 256, zB 8, zI 64, zI 64, zI 8, zI 8, zI 8, zI 8, zI 8, zI 8, zI 480, zJ 480, zI 4, zI 64, zI 256, zI 256, zI 256, zI 64, zI 4, zI 32, zI 32, zI 6, zI 6, zI 6, zI 6, zI 240, zB 240, zI 8, zI 64, zI 8, zI 8, zI 6, zI 8, zI 8])) flX12_202 (fun _ h => by cases h; exact ⟨rfl, rfl⟩) rfl dX12_init_515 rfl rfl rfl rfl ?_
  refine e_aload_n dX12_init_518 rfl rfl ?_
  refine e_bipush (v := 9) dX12_init_519 rfl ?_
  refine k_int (N := 9) (b := 63) (kc := 13) (ks := 3878) (by decide) rfl (by decide) dX12_init_521 rfl rfl rfl ?_
  refine k_putF (k := 0) (fs := (o12_64 n0)) (bs' := (.inr (12, (o12_65 n0)) :: [zI 8, zI 8, zI 8, zI 8, zJ 480, zJ 60, zI 16, zI 16, zI 16, zI 16, zI 16, zI 16, zI 16, zI 16, zI 16, zI 16, zB 16, zB 16, zI 80, zI 8, zI 8, zI 16, zJ 960, zI 8, zI 8, zI 64, zI 64, zI 64, zI 256, zB 8, zI 64, zI 64, zI 8, zI 8, zI 8, zI 8, zI 8, zI 8, zI 480, zJ 480, zI 4, zI 64, zI 256, zI 256, zI 256, zI 64, zI 4, zI 32, zI 32, zI 6, zI 6, zI 6, zI 6, zI 240, zB 240, zI 8, zI 64, zI 8, zI 8, zI 6, zI 8, zI 8, zI 9])) flX12_205 (fun _ h => by cases h; exact ⟨rfl, rfl⟩) rfl dX12_init_523 rfl rfl rfl rfl ?_
  refine e_aload_n dX12_init_526 rfl rfl ?_
  refine e_bipush (v := 9) dX12_init_527 rfl ?_
  refine k_int (N := 9) (b := 64) (kc := 12) (ks := 3869) (by decide) rfl (by decide) dX12_init_529 rfl rfl rfl ?_
  refine e_pc (pc' := 531) rfl ?_
  refine k_putF (k := 0) (fs := (o12_65 n0)) (bs' := (.inr (12, (o12_66 n0)) :: [zI 8, zI 8, zI 8, zI 8, zJ 480, zJ 60, zI 16, zI 16, zI 16, zI 16, zI 16, zI 16, zI 16, zI 16, zI 16, zI 16, zB 16, zB 16, zI 80, zI 8, zI 8, zI 16, zJ 960, zI 8, zI 8, zI 64, zI 64, zI 64, zI 256, zB 8, zI 64, zI 64, zI 8, zI 8, zI 8, zI 8, zI 8, zI 8, zI 480, zJ 480, zI 4, zI 64, zI 256, zI 256, zI 256, zI 64, zI 4, zI 32, zI 32, zI 6, zI 6, zI 6, zI 6, zI 240, zB 240, zI 8, zI 64, zI 8, zI 8, zI 6, zI 8, zI 8, zI 9, zI 9])) flX12_208 (fun _ h => by cases h; exact ⟨rfl, rfl⟩) rfl dX12_init_531 rfl rfl rfl rfl ?_
  refine e_aload_n dX12_init_534 rfl rfl ?_
  refine e_sipush (v := 3721) dX12_init_535 rfl ?_
  refine k_int (N := 3721) (b := 65) (kc := 11) (ks := 148) (by decide) rfl (by decide) dX12_init_538 rfl rfl rfl ?_
  refine k_putF (k := 0) (fs := (o12_66 n0)) (bs' := (.inr (12, (o12_67 n0)) :: [zI 8, zI 8, zI 8, zI 8, zJ 480, zJ 60, zI 16, zI 16, zI 16, zI 16, zI 16, zI 16, zI 16, zI 16, zI 16, zI 16, zB 16, zB 16, zI 80, zI 8, zI 8, zI 16, zJ 960, zI 8, zI 8, zI 64, zI 64, zI 64, zI 256, zB 8, zI 64, zI 64, zI 8, zI 8, zI 8, zI 8, zI 8, zI 8, zI 480, zJ 480, zI 4, zI 64, zI 256, zI 256, zI 256, zI 64, zI 4, zI 32, zI 32, zI 6, zI 6, zI 6, zI 6, zI 240, zB 240, zI 8, zI 64, zI 8, zI 8, zI 6, zI 8, zI 8, zI 9, zI 9, zI 3721])) flX12_211 (fun _ h => by cases h; exact ⟨rfl, rfl⟩) rfl dX12_init_540 rfl rfl rfl rfl ?_
  refine e_aload_n dX12_init_543 rfl rfl ?_
  refine e_bipush (v := 60) dX12_init_544 rfl ?_
  refine k_int (N := 60) (b := 66) (kc := 10) (ks := 88) (by decide) rfl (by decide) dX12_init_546 rfl rfl rfl ?_
  refine e_pc (pc' := 548) rfl ?_
  refine k_putF (k := 0) (fs := (o12_67 n0)) (bs' := (.inr (12, (o12_68 n0)) :: [zI 8, zI 8, zI 8, zI 8, zJ 480, zJ 60, zI 16, zI 16, zI 16, zI 16, zI 16, zI 16, zI 16, zI 16, zI 16, zI 16, zB 16, zB 16, zI 80, zI 8, zI 8, zI 16, zJ 960, zI 8, zI 8, zI 64, zI 64, zI 64, zI 256, zB 8, zI 64, zI 64, zI 8, zI 8, zI 8, zI 8, zI 8, zI 8, zI 480, zJ 480, zI 4, zI 64, zI 256, zI 256, zI 256, zI 64, zI 4, zI 32, zI 32, zI 6, zI 6, zI 6, zI 6, zI 240, zB 240, zI 8, zI 64, zI 8, zI 8, zI 6, zI 8, zI 8, zI 9, zI 9, zI 3721, zI 60])) flX12_214 (fun _ h => by cases h; exact ⟨rfl, rfl⟩) rfl dX12_init_548 rfl rfl rfl rfl ?_
  refine e_aload_n dX12_init_551 rfl rfl ?_
  refine e_bipush (v := 9) dX12_init_552 rfl ?_
  refine k_int (N := 9) (b := 67) (kc := 9) (ks := 79) (by decide) rfl (by decide) dX12_init_554 rfl rfl rfl ?_
  refine k_putF (k := 0) (fs := (o12_68 n0)) (bs' := (.inr (12, (o12_69 n0)) :: [zI 8, zI 8, zI 8, zI 8, zJ 480, zJ 60, zI 16, zI 16, zI 16, zI 16, zI 16, zI 16, zI 16, zI 16, zI 16, zI 16, zB 16, zB 16, zI 80, zI 8, zI 8, zI 16, zJ 960, zI 8, zI 8, zI 64, zI 64, zI 64, zI 256, zB 8, zI 64, zI 64, zI 8, zI 8, zI 8, zI 8, zI 8, zI 8, zI 480, zJ 480, zI 4, zI 64, zI 256, zI 256, zI 256, zI 64, zI 4, zI 32, zI 32, zI 6, zI 6, zI 6, zI 6, zI 240, zB 240, zI 8, zI 64, zI 8, zI 8, zI 6, zI 8, zI 8, zI 9, zI 9, zI 3721, zI 60, zI 9])) flX12_217 (fun _ h => by cases h; exact ⟨rfl, rfl⟩) rfl dX12_init_556 rfl rfl rfl rfl ?_
  refine e_aload_n dX12_init_559 rfl rfl ?_
  refine e_bipush (v := 9) dX12_init_560 rfl ?_
  refine k_int (N := 9) (b := 68) (kc := 8) (ks := 70) (by decide) rfl (by decide) dX12_init_562 rfl rfl rfl ?_
  refine e_pc (pc' := 564) rfl ?_
  refine k_putF (k := 0) (fs := (o12_69 n0)) (bs' := (.inr (12, (o12_70 n0)) :: [zI 8, zI 8, zI 8, zI 8, zJ 480, zJ 60, zI 16, zI 16, zI 16, zI 16, zI 16, zI 16, zI 16, zI 16, zI 16, zI 16, zB 16, zB 16, zI 80, zI 8, zI 8, zI 16, zJ 960, zI 8, zI 8, zI 64, zI 64, zI 64, zI 256, zB 8, zI 64, zI 64, zI 8, zI 8, zI 8, zI 8, zI 8, zI 8, zI 480, zJ 480, zI 4, zI 64, zI 256, zI 256, zI 256, zI 64, zI 4, zI 32, zI 32, zI 6, zI 6, zI 6, zI 6, zI 240, zB 240, zI 8, zI 64, zI 8, zI 8, zI 6, zI 8, zI 8, zI 9, zI 9, zI 3721, zI 60, zI 9, zI 9])) flX12_220 (fun _ h => by cases h; exact ⟨rfl, rfl⟩) rfl dX12_init_564 rfl rfl rfl rfl ?_
  refine e_aload_n dX12_init_567 rfl rfl ?_
  refine e_bipush (v := 9) dX12_init_568 rfl ?_
  refine k_int (N := 9) (b := 69) (kc := 7) (ks := 61) (by decide) rfl (by decide) dX12_init_570 rfl rfl rfl ?_
  refine k_putF (k := 0) (fs := (o12_70 n0)) (bs' := (.inr (12, (o12_71 n0)) :: [zI 8, zI 8, zI 8, zI 8, zJ 480, zJ 60, zI 16, zI 16, zI 16, zI 16, zI 16, zI 16, zI 16, zI 16, zI 16, zI 16, zB 16, zB 16, zI 80, zI 8, zI 8, zI 16, zJ 960, zI 8, zI 8, zI 64, zI 64, zI 64, zI 256, zB 8, zI 64, zI 64, zI 8, zI 8, zI 8, zI 8, zI 8, zI 8, zI 480, zJ 480, zI 4, zI 64, zI 256, zI 256, zI 256, zI 64, zI 4, zI 32, zI 32, zI 6, zI 6, zI 6, zI 6, zI 240, zB 240, zI 8, zI 64, zI 8, zI 8, zI 6, zI 8, zI 8, zI 9, zI 9, zI 3721, zI 60, zI 9, zI 9, zI 9])) flX12_223 (fun _ h => by cases h; exact ⟨rfl, rfl⟩) rfl dX12_init_572 rfl rfl rfl rfl ?_
  refine e_aload_n dX12_init_575 rfl rfl ?_
  refine e_bipush (v := 9) dX12_init_576 rfl ?_
  refine k_int (N := 9) (b := 70) (kc := 6) (ks := 52) (by decide) rfl (by decide) dX12_init_578 rfl rfl rfl ?_
  refine e_pc (pc' := 580) rfl ?_
  refine k_putF (k := 0) (fs := (o12_71 n0)) (bs' := (.inr (12, (o12_72 n0)) :: [zI 8, zI 8, zI 8, zI 8, zJ 480, zJ 60, zI 16, zI 16, zI 16, zI 16, zI 16, zI 16, zI 16, zI 16, zI 16, zI 16, zB 16, zB 16, zI 80, zI 8, zI 8, zI 16, zJ 960, zI 8, zI 8, zI 64, zI 64, zI 64, zI 256, zB 8, zI 64, zI 64, zI 8, zI 8, zI 8, zI 8, zI 8, zI 8, zI 480, zJ 480, zI 4, zI 64, zI 256, zI 256, zI 256, zI 64, zI 4, zI 32, zI 32, zI 6, zI 6, zI 6, zI 6, zI 240, zB 240, zI 8, zI 64, zI 8, zI 8, zI 6, zI 8, zI 8, zI 9, zI 9, zI 3721, zI 60, zI 9, zI 9, zI 9, zI 9])) flX12_226 (fun _ h => by cases h; exact ⟨rfl, rfl⟩) rfl dX12_init_580 rfl rfl rfl rfl ?_
  refine e_aload_n dX12_init_583 rfl rfl ?_
  refine e_bipush (v := 9) dX12_init_584 rfl ?_
  refine k_int (N := 9) (b := 71) (kc := 5) (ks := 43) (by decide) rfl (by decide) dX12_init_586 rfl rfl rfl ?_
  refine k_putF (k := 0) (fs := (o12_72 n0)) (bs' := (.inr (12, (o12_73 n0)) :: [zI 8, zI 8, zI 8, zI 8, zJ 480, zJ 60, zI 16, zI 16, zI 16, zI 16, zI 16, zI 16, zI 16, zI 16, zI 16, zI 16, zB 16, zB 16, zI 80, zI 8, zI 8, zI 16, zJ 960, zI 8, zI 8, zI 64, zI 64, zI 64, zI 256, zB 8, zI 64, zI 64, zI 8, zI 8, zI 8, zI 8, zI 8, zI 8, zI 480, zJ 480, zI 4, zI 64, zI 256, zI 256, zI 256, zI 64, zI 4, zI 32, zI 32, zI 6, zI 6, zI 6, zI 6, zI 240, zB 240, zI 8, zI 64, zI 8, zI 8, zI 6, zI 8, zI 8, zI 9, zI 9, zI 3721, zI 60, zI 9, zI 9, zI 9, zI 9, zI 9])) flX12_229 (fun _ h => by cases h; exact ⟨rfl, rfl⟩) rfl dX12_init_588 rfl rfl rfl rfl ?_
  refine e_aload_n dX12_init_591 rfl rfl ?_
  refine e_bipush (v := 8) dX12_init_592 rfl ?_
  refine k_int (N := 8) (b := 72) (kc := 4) (ks := 35) (by decide) rfl (by decide) dX12_init_594 rfl rfl rfl ?_
  refine e_pc (pc' := 596) rfl ?_
  refine k_putF (k := 0) (fs := (o12_73 n0)) (bs' := (.inr (12, (o12_74 n0)) :: [zI 8, zI 8, zI 8, zI 8, zJ 480, zJ 60, zI 16, zI 16, zI 16, zI 16, zI 16, zI 16, zI 16, zI 16, zI 16, zI 16, zB 16, zB 16, zI 80, zI 8, zI 8, zI 16, zJ 960, zI 8, zI 8, zI 64, zI 64, zI 64, zI 256, zB 8, zI 64, zI 64, zI 8, zI 8, zI 8, zI 8, zI 8, zI 8, zI 480, zJ 480, zI 4, zI 64, zI 256, zI 256, zI 256, zI 64, zI 4, zI 32, zI 32, zI 6, zI 6, zI 6, zI 6, zI 240, zB 240, zI 8, zI 64, zI 8, zI 8, zI 6, zI 8, zI 8, zI 9, zI 9, zI 3721, zI 60, zI 9, zI 9, zI 9, zI 9, zI 9, zI 8])) flX12_232 (fun _ h => by cases h; exact ⟨rfl, rfl⟩) rfl dX12_init_596 rfl rfl rfl rfl ?_
  refine e_aload_n dX12_init_599 rfl rfl ?_
  refine e_bipush (v := 9) dX12_init_600 rfl ?_
  refine k_int (N := 9) (b := 73) (kc := 3) (ks := 26) (by decide) rfl (by decide) dX12_init_602 rfl rfl rfl ?_
  refine k_putF (k := 0) (fs := (o12_74 n0)) (bs' := (.inr (12, (o12_75 n0)) :: [zI 8, zI 8, zI 8, zI 8, zJ 480, zJ 60, zI 16, zI 16, zI 16, zI 16, zI 16, zI 16, zI 16, zI 16, zI 16, zI 16, zB 16, zB 16, zI 80, zI 8, zI 8, zI 16, zJ 960, zI 8, zI 8, zI 64, zI 64, zI 64, zI 256, zB 8, zI 64, zI 64, zI 8, zI 8, zI 8, zI 8, zI 8, zI 8, zI 480, zJ 480, zI 4, zI 64, zI 256, zI 256, zI 256, zI 64, zI 4, zI 32, zI 32, zI 6, zI 6, zI 6, zI 6, zI 240, zB 240, zI 8, zI 64, zI 8, zI 8, zI 6, zI 8, zI 8, zI 9, zI 9, zI 3721, zI 60, zI 9, zI 9, zI 9, zI 9, zI 9, zI 8, zI 9])) flX12_235 (fun _ h => by cases h; exact ⟨rfl, rfl⟩) rfl dX12_init_604 rfl rfl rfl rfl ?_
  refine e_aload_n dX12_init_607 rfl rfl ?_
  refine e_bipush (v := 9) dX12_init_608 rfl ?_
  refine k_int (N := 9) (b := 74) (kc := 2) (ks := 17) (by decide) rfl (by decide) dX12_init_610 rfl rfl rfl ?_
  refine e_pc (pc' := 612) rfl ?_
  refine k_putF (k := 0) (fs := (o12_75 n0)) (bs' := (.inr (12, (o12_76 n0)) :: [zI 8, zI 8, zI 8, zI 8, zJ 480, zJ 60, zI 16, zI 16, zI 16, zI 16, zI 16, zI 16, zI 16, zI 16, zI 16, zI 16, zB 16, zB 16, zI 80, zI 8, zI 8, zI 16, zJ 960, zI 8, zI 8, zI 64, zI 64, zI 64, zI 256, zB 8, zI 64, zI 64, zI 8, zI 8, zI 8, zI 8, zI 8, zI 8, zI 480, zJ 480, zI 4, zI 64, zI 256, zI 256, zI 256, zI 64, zI 4, zI 32, zI 32, zI 6, zI 6, zI 6, zI 6, zI 240, zB 240, zI 8, zI 64, zI 8, zI 8, zI 6, zI 8, zI 8, zI 9, zI 9, zI 3721, zI 60, zI 9, zI 9, zI 9, zI 9, zI 9, zI 8, zI 9, zI 9])) flX12_238 (fun _ h => by cases h; exact ⟨rfl, rfl⟩) rfl dX12_init_612 rfl rfl rfl rfl ?_
  refine e_aload_n dX12_init_615 rfl rfl ?_
  refine e_bipush (v := 9) dX12_init_616 rfl ?_
  refine k_int (N := 9) (b := 75) (kc := 1) (ks := 8) (by decide) rfl (by decide) dX12_init_618 rfl rfl rfl ?_
  refine k_putF (k := 0) (fs := (o12_76 n0)) (bs' := (.inr (12, (o12_77 n0)) :: [zI 8, zI 8, zI 8, zI 8, zJ 480, zJ 60, zI 16, zI 16, zI 16, zI 16, zI 16, zI 16, zI 16, zI 16, zI 16, zI 16, zB 16, zB 16, zI 80, zI 8, zI 8, zI 16, zJ 960, zI 8, zI 8, zI 64, zI 64, zI 64, zI 256, zB 8, zI 64, zI 64, zI 8, zI 8, zI 8, zI 8, zI 8, zI 8, zI 480, zJ 480, zI 4, zI 64, zI 256, zI 256, zI 256, zI 64, zI 4, zI 32, zI 32, zI 6, zI 6, zI 6, zI 6, zI 240, zB 240, zI 8, zI 64, zI 8, zI 8, zI 6, zI 8, zI 8, zI 9, zI 9, zI 3721, zI 60, zI 9, zI 9, zI 9, zI 9, zI 9, zI 8, zI 9, zI 9, zI 9])) flX12_241 (fun _ h => by cases h; exact ⟨rfl, rfl⟩) rfl dX12_init_620 rfl rfl rfl rfl ?_
  refine e_aload_n dX12_init_623 rfl rfl ?_
  refine e_bipush (v := 8) dX12_init_624 rfl ?_
  refine k_int (N := 8) (b := 76) (kc := 0) (ks := 0) (by decide) rfl (by decide) dX12_init_626 rfl rfl rfl ?_
  refine e_pc (pc' := 628) rfl ?_
  refine k_putF (k := 0) (fs := (o12_77 n0)) (bs' := (.inr (12, (o12_78 n0)) :: [zI 8, zI 8, zI 8, zI 8, zJ 480, zJ 60, zI 16, zI 16, zI 16, zI 16, zI 16, zI 16, zI 16, zI 16, zI 16, zI 16, zB 16, zB 16, zI 80, zI 8, zI 8, zI 16, zJ 960, zI 8, zI 8, zI 64, zI 64, zI 64, zI 256, zB 8, zI 64, zI 64, zI 8, zI 8, zI 8, zI 8, zI 8, zI 8, zI 480, zJ 480, zI 4, zI 64, zI 256, zI 256, zI 256, zI 64, zI 4, zI 32, zI 32, zI 6, zI 6, zI 6, zI 6, zI 240, zB 240, zI 8, zI 64, zI 8, zI 8, zI 6, zI 8, zI 8, zI 9, zI 9, zI 3721, zI 60, zI 9, zI 9, zI 9, zI 9, zI 9, zI 8, zI 9, zI 9, zI 9, zI 8])) flX12_244 (fun _ h => by cases h; exact ⟨rfl, rfl⟩) rfl dX12_init_628 rfl rfl rfl rfl ?_
  refine e_iconst (v := 0) dX12_init_631 rfl ?_
  refine e_istore_n (L' := [some (.ref (n0 + 0)), some (.int 0)]) dX12_init_632 rfl (by decide) rfl ?_
  refine k_eq (bs' := (.inr (12, (o12_78 n0)) :: [zI 8, zI 8, zI 8, zI 8, zJ 480, zJ 60, zI 16, zI 16, zI 16, zI 16, zI 16, zI 16, zI 16, zI 16, zI 16, zI 16, zB 16, zB 16, zI 80, zI 8, zI 8, zI 16, zJ 960, zI 8, zI 8, zI 64, zI 64, zI 64, zI 256, zB 8, zI 64, zI 64, zI 8, zI 8, zI 8, zI 8, zI 8, zI 8, zI 480, zJ 480, (.inl (.int, (4, .inl (fil (9) 0))) : CE), zI 64, zI 256, zI 256, zI 256, zI 64, zI 4, zI 32, zI 32, zI 6, zI 6, zI 6, zI 6, zI 240, zB 240, zI 8, zI 64, zI 8, zI 8, zI 6, zI 8, zI 8, zI 9, zI 9, zI 3721, zI 60, zI 9, zI 9, zI 9, zI 9, zI 9, zI 8, zI 9, zI 9, zI 9, zI 8])) (by rw [← fil_0]) ?_
  refine k_for (N := 4) (S := (fun i => CK g A n0 (.inr (12, (o12_78 n0)) :: [zI 8, zI 8, zI 8, zI 8, zJ 480, zJ 60, zI 16, zI 16, zI 16, zI 16, zI 16, zI 16, zI 16, zI 16, zI 16, zI 16, zB 16, zB 16, zI 80, zI 8, zI 8, zI 16, zJ 960, zI 8, zI 8, zI 64, zI 64, zI 64, zI 256, zB 8, zI 64, zI 64, zI 8, zI 8, zI 8, zI 8, zI 8, zI 8, zI 480, zJ 480, (.inl (.int, (4, .inl (fil (9) i))) : CE), zI 64, zI 256, zI 256, zI 256, zI 64, zI 4, zI 32, zI 32, zI 6, zI 6, zI 6, zI 6, zI 240, zB 240, zI 8, zI 64, zI 8, zI 8, zI 6, zI 8, zI 8, zI 9, zI 9, zI 3721, zI 60, zI 9, zI 9, zI 9, zI 9, zI 9, zI 8, zI 9, zI 9, zI 9, zI 8]))) (Lf := fun i => [some (.ref (n0 + 0)), some (.int (nI i))]) (fun i hi ih => ?_) ?_
  · refine e_iload_n dX12_init_633 rfl rfl ?_
    refine e_iconst (v := 4) dX12_init_634 rfl ?_
    refine e_icmp_ge (tgt := 652) dX12_init_635 rfl (fun h => absurd h (nI_ge (b := 4) hi (by decide))) (fun _ => ?_)
    refine e_aload_n dX12_init_638 rfl rfl ?_
    refine k_get (k := 0) (v := .ref (n0 + 41)) flX12_139 dX12_init_639 rfl rfl ?_
    refine e_iload_n dX12_init_642 rfl rfl ?_
    refine e_bipush (v := 9) dX12_init_643 rfl ?_
    refine k_iast (k := 41) (n := 4) (f := fil (9) i) (bs' := (.inr (12, (o12_78 n0)) :: [zI 8, zI 8, zI 8, zI 8, zJ 480, zJ 60, zI 16, zI 16, zI 16, zI 16, zI 16, zI 16, zI 16, zI 16, zI 16, zI 16, zB 16, zB 16, zI 80, zI 8, zI 8, zI 16, zJ 960, zI 8, zI 8, zI 64, zI 64, zI 64, zI 256, zB 8, zI 64, zI 64, zI 8, zI 8, zI 8, zI 8, zI 8, zI 8, zI 480, zJ 480, (.inl (.int, (4, .inl (fil (9) (i + 1)))) : CE), zI 64, zI 256, zI 256, zI 256, zI 64, zI 4, zI 32, zI 32, zI 6, zI 6, zI 6, zI 6, zI 240, zB 240, zI 8, zI 64, zI 8, zI 8, zI 6, zI 8, zI 8, zI 9, zI 9, zI 3721, zI 60, zI 9, zI 9, zI 9, zI 9, zI 9, zI 8, zI 9, zI 9, zI 9, zI 8])) dX12_init_645 rfl (nI_in (N := 4) (Nat.lt_of_lt_of_le hi (by decide)) (by decide)) (by rw [fil_s (9) hi (by decide)]; rfl) ?_
    refine e_iinc (v := nI (i + 1)) (L' := [some (.ref (n0 + 0)), some (.int (nI (i + 1)))]) dX12_init_646 rfl (nI_1 i) (by decide) rfl ?_
    refine e_goto (tgt := 633) dX12_init_649 rfl ?_
    exact ih
  refine e_iload_n dX12_init_633 rfl rfl ?_
  refine e_iconst (v := 4) dX12_init_634 rfl ?_
  refine e_icmp_ge (tgt := 652) dX12_init_635 rfl (fun _ => ?_) (fun h => absurd (by decide) h)
  refine e_iconst (v := 0) dX12_init_652 rfl ?_
  refine e_istore_n (L' := [some (.ref (n0 + 0)), some (.int 0)]) dX12_init_653 rfl (by decide) rfl ?_
  refine k_eq (bs' := (.inr (12, (o12_78 n0)) :: [zI 8, zI 8, zI 8, zI 8, zJ 480, zJ 60, zI 16, zI 16, zI 16, zI 16, zI 16, zI 16, zI 16, zI 16, zI 16, zI 16, zB 16, zB 16, zI 80, zI 8, zI 8, zI 16, zJ 960, zI 8, zI 8, zI 64, zI 64, zI 64, zI 256, zB 8, zI 64, zI 64, zI 8, zI 8, zI 8, zI 8, zI 8, zI 8, zI 480, zJ 480, (.inl (.int, (4, .inl (fil (9) 4))) : CE), zI 64, zI 256, zI 256, zI 256, zI 64, zI 4, zI 32, zI 32, zI 6, zI 6, zI 6, zI 6, (.inl (.int, (240, .inl (fil (-1) 0))) : CE), zB 240, zI 8, zI 64, zI 8, zI 8, zI 6, zI 8, zI 8, zI 9, zI 9, zI 3721, zI 60, zI 9, zI 9, zI 9, zI 9, zI 9, zI 8, zI 9, zI 9, zI 9, zI 8])) (by rw [← fil_0]) ?_
  refine k_for (N := 240) (S := (fun i => CK g A n0 (.inr (12, (o12_78 n0)) :: [zI 8, zI 8, zI 8, zI 8, zJ 480, zJ 60, zI 16, zI 16, zI 16, zI 16, zI 16, zI 16, zI 16, zI 16, zI 16, zI 16, zB 16, zB 16, zI 80, zI 8, zI 8, zI 16, zJ 960, zI 8, zI 8, zI 64, zI 64, zI 64, zI 256, zB 8, zI 64, zI 64, zI 8, zI 8, zI 8, zI 8, zI 8, zI 8, zI 480, zJ 480, (.inl (.int, (4, .inl (fil (9) 4))) : CE), zI 64, zI 256, zI 256, zI 256, zI 64, zI 4, zI 32, zI 32, zI 6, zI 6, zI 6, zI 6, (.inl (.int, (240, .inl (fil (-1) i))) : CE), zB 240, zI 8, zI 64, zI 8, zI 8, zI 6, zI 8, zI 8, zI 9, zI 9, zI 3721, zI 60, zI 9, zI 9, zI 9, zI 9, zI 9, zI 8, zI 9, zI 9, zI 9, zI 8]))) (Lf := fun i => [some (.ref (n0 + 0)), some (.int (nI i))]) (fun i hi ih => ?_) ?_
  · refine e_iload_n dX12_init_654 rfl rfl ?_
    refine e_sipush (v := 240) dX12_init_655 rfl ?_
    refine e_icmp_ge (tgt := 674) dX12_init_658 rfl (fun h => absurd h (nI_ge (b := 240) hi (by decide))) (fun _ => ?_)
    refine e_aload_n dX12_init_661 rfl rfl ?_
    refine k_get (k := 0) (v := .ref (n0 + 54)) flX12_178 dX12_init_662 rfl rfl ?_
    refine e_iload_n dX12_init_665 rfl rfl ?_
    refine e_iconst (v := (-1)) dX12_init_666 rfl ?_
    refine k_iast (k := 54) (n := 240) (f := fil (-1) i) (bs' := (.inr (12, (o12_78 n0)) :: [zI 8, zI 8, zI 8, zI 8, zJ 480, zJ 60, zI 16, zI 16, zI 16, zI 16, zI 16, zI 16, zI 16, zI 16, zI 16, zI 16, zB 16, zB 16, zI 80, zI 8, zI 8, zI 16, zJ 960, zI 8, zI 8, zI 64, zI 64, zI 64, zI 256, zB 8, zI 64, zI 64, zI 8, zI 8, zI 8, zI 8, zI 8, zI 8, zI 480, zJ 480, (.inl (.int, (4, .inl (fil (9) 4))) : CE), zI 64, zI 256, zI 256, zI 256, zI 64, zI 4, zI 32, zI 32, zI 6, zI 6, zI 6, zI 6, (.inl (.int, (240, .inl (fil (-1) (i + 1)))) : CE), zB 240, zI 8, zI 64, zI 8, zI 8, zI 6, zI 8, zI 8, zI 9, zI 9, zI 3721, zI 60, zI 9, zI 9, zI 9, zI 9, zI 9, zI 8, zI 9, zI 9, zI 9, zI 8])) dX12_init_667 rfl (nI_in (N := 240) (Nat.lt_of_lt_of_le hi (by decide)) (by decide)) (by rw [fil_s (-1) hi (by decide)]; rfl) ?_
    refine e_iinc (v := nI (i + 1)) (L' := [some (.ref (n0 + 0)), some (.int (nI (i + 1)))]) dX12_init_668 rfl (nI_1 i) (by decide) rfl ?_
    refine e_goto (tgt := 654) dX12_init_671 rfl ?_
    exact ih
  refine e_iload_n dX12_init_654 rfl rfl ?_
  refine e_sipush (v := 240) dX12_init_655 rfl ?_
  refine e_icmp_ge (tgt := 674) dX12_init_658 rfl (fun _ => ?_) (fun h => absurd (by decide) h)
  refine e_iconst (v := 0) dX12_init_674 rfl ?_
  refine e_istore_n (L' := [some (.ref (n0 + 0)), some (.int 0)]) dX12_init_675 rfl (by decide) rfl ?_
  refine k_eq (bs' := (.inr (12, (o12_78 n0)) :: [zI 8, zI 8, zI 8, zI 8, zJ 480, zJ 60, zI 16, zI 16, zI 16, zI 16, zI 16, zI 16, zI 16, zI 16, zI 16, zI 16, zB 16, zB 16, zI 80, zI 8, zI 8, zI 16, zJ 960, zI 8, zI 8, zI 64, zI 64, zI 64, zI 256, zB 8, zI 64, zI 64, (.inl (.int, (8, .inl (fil (-1) 0))) : CE), zI 8, zI 8, zI 8, zI 8, zI 8, zI 480, zJ 480, (.inl (.int, (4, .inl (fil (9) 4))) : CE), zI 64, zI 256, zI 256, zI 256, zI 64, zI 4, zI 32, zI 32, zI 6, zI 6, zI 6, zI 6, (.inl (.int, (240, .inl (fil (-1) 240))) : CE), zB 240, (.inl (.int, (8, .inl (fil (1) 0))) : CE), zI 64, (.inl (.int, (8, .inl (fil (-1) 0))) : CE), zI 8, zI 6, zI 8, zI 8, zI 9, zI 9, zI 3721, zI 60, zI 9, zI 9, zI 9, zI 9, zI 9, zI 8, zI 9, zI 9, zI 9, zI 8])) (by rw [← fil_0, ← fil_0]) ?_
  refine k_for (N := 8) (S := (fun i => CK g A n0 (.inr (12, (o12_78 n0)) :: [zI 8, zI 8, zI 8, zI 8, zJ 480, zJ 60, zI 16, zI 16, zI 16, zI 16, zI 16, zI 16, zI 16, zI 16, zI 16, zI 16, zB 16, zB 16, zI 80, zI 8, zI 8, zI 16, zJ 960, zI 8, zI 8, zI 64, zI 64, zI 64, zI 256, zB 8, zI 64, zI 64, (.inl (.int, (8, .inl (fil (-1) i))) : CE), zI 8, zI 8, zI 8, zI 8, zI 8, zI 480, zJ 480, (.inl (.int, (4, .inl (fil (9) 4))) : CE), zI 64, zI 256, zI 256, zI 256, zI 64, zI 4, zI 32, zI 32, zI 6, zI 6, zI 6, zI 6, (.inl (.int, (240, .inl (fil (-1) 240))) : CE), zB 240, (.inl (.int, (8, .inl (fil (1) i))) : CE), zI 64, (.inl (.int, (8, .inl (fil (-1) i))) : CE), zI 8, zI 6, zI 8, zI 8, zI 9, zI 9, zI 3721, zI 60, zI 9, zI 9, zI 9, zI 9, zI 9, zI 8, zI 9, zI 9, zI 9, zI 8]))) (Lf := fun i => [some (.ref (n0 + 0)), some (.int (nI i))]) (fun i hi ih => ?_) ?_
  · refine e_iload_n dX12_init_676 rfl rfl ?_
    refine e_bipush (v := 8) dX12_init_677 rfl ?_
    refine e_icmp_ge (tgt := 709) dX12_init_679 rfl (fun h => absurd h (nI_ge (b := 8) hi (by decide))) (fun _ => ?_)
    refine e_aload_n dX12_init_682 rfl rfl ?_
    refine k_get (k := 0) (v := .ref (n0 + 33)) flX12_115 dX12_init_683 rfl rfl ?_
    refine e_iload_n dX12_init_686 rfl rfl ?_
    refine e_iconst (v := (-1)) dX12_init_687 rfl ?_
    refine k_iast (k := 33) (n := 8) (f := fil (-1) i) (bs' := (.inr (12, (o12_78 n0)) :: [zI 8, zI 8, zI 8, zI 8, zJ 480, zJ 60, zI 16, zI 16, zI 16, zI 16, zI 16, zI 16, zI 16, zI 16, zI 16, zI 16, zB 16, zB 16, zI 80, zI 8, zI 8, zI 16, zJ 960, zI 8, zI 8, zI 64, zI 64, zI 64, zI 256, zB 8, zI 64, zI 64, (.inl (.int, (8, .inl (fil (-1) (i + 1)))) : CE), zI 8, zI 8, zI 8, zI 8, zI 8, zI 480, zJ 480, (.inl (.int, (4, .inl (fil (9) 4))) : CE), zI 64, zI 256, zI 256, zI 256, zI 64, zI 4, zI 32, zI 32, zI 6, zI 6, zI 6, zI 6, (.inl (.int, (240, .inl (fil (-1) 240))) : CE), zB 240, (.inl (.int, (8, .inl (fil (1) i))) : CE), zI 64, (.inl (.int, (8, .inl (fil (-1) i))) : CE), zI 8, zI 6, zI 8, zI 8, zI 9, zI 9, zI 3721, zI 60, zI 9, zI 9, zI 9, zI 9, zI 9, zI 8, zI 9, zI 9, zI 9, zI 8])) dX12_init_688 rfl (nI_in (N := 8) (Nat.lt_of_lt_of_le hi (by decide)) (by decide)) (by rw [fil_s (-1) hi (by decide)]; rfl) ?_
    refine e_aload_n dX12_init_689 rfl rfl ?_
    refine k_get (k := 0) (v := .ref (n0 + 56)) flX12_184 dX12_init_690 rfl rfl ?_
    refine e_iload_n dX12_init_693 rfl rfl ?_
    refine e_iconst (v := 1) dX12_init_694 rfl ?_
    refine k_iast (k := 56) (n := 8) (f := fil (1) i) (bs' := (.inr (12, (o12_78 n0)) :: [zI 8, zI 8, zI 8, zI 8, zJ 480, zJ 60, zI 16, zI 16, zI 16, zI 16, zI 16, zI 16, zI 16, zI 16, zI 16, zI 16, zB 16, zB 16, zI 80, zI 8, zI 8, zI 16, zJ 960, zI 8, zI 8, zI 64, zI 64, zI 64, zI 256, zB 8, zI 64, zI 64, (.inl (.int, (8, .inl (fil (-1) (i + 1)))) : CE), zI 8, zI 8, zI 8, zI 8, zI 8, zI 480, zJ 480, (.inl (.int, (4, .inl (fil (9) 4))) : CE), zI 64, zI 256, zI 256, zI 256, zI 64, zI 4, zI 32, zI 32, zI 6, zI 6, zI 6, zI 6, (.inl (.int, (240, .inl (fil (-1) 240))) : CE), zB 240, (.inl (.int, (8, .inl (fil (1) (i + 1)))) : CE), zI 64, (.inl (.int, (8, .inl (fil (-1) i))) : CE), zI 8, zI 6, zI 8, zI 8, zI 9, zI 9, zI 3721, zI 60, zI 9, zI 9, zI 9, zI 9, zI 9, zI 8, zI 9, zI 9, zI 9, zI 8])) dX12_init_695 rfl (nI_in (N := 8) (Nat.lt_of_lt_of_le hi (by decide)) (by decide)) (by rw [fil_s (1) hi (by decide)]; rfl) ?_
    refine e_aload_n dX12_init_696 rfl rfl ?_
    refine k_get (k := 0) (v := .ref (n0 + 58)) flX12_190 dX12_init_697 rfl rfl ?_
    refine e_iload_n dX12_init_700 rfl rfl ?_
    refine e_iconst (v := (-1)) dX12_init_701 rfl ?_
    refine k_iast (k := 58) (n := 8) (f := fil (-1) i) (bs' := (.inr (12, (o12_78 n0)) :: [zI 8, zI 8, zI 8, zI 8, zJ 480, zJ 60, zI 16, zI 16, zI 16, zI 16, zI 16, zI 16, zI 16, zI 16, zI 16, zI 16, zB 16, zB 16, zI 80, zI 8, zI 8, zI 16, zJ 960, zI 8, zI 8, zI 64, zI 64, zI 64, zI 256, zB 8, zI 64, zI 64, (.inl (.int, (8, .inl (fil (-1) (i + 1)))) : CE), zI 8, zI 8, zI 8, zI 8, zI 8, zI 480, zJ 480, (.inl (.int, (4, .inl (fil (9) 4))) : CE), zI 64, zI 256, zI 256, zI 256, zI 64, zI 4, zI 32, zI 32, zI 6, zI 6, zI 6, zI 6, (.inl (.int, (240, .inl (fil (-1) 240))) : CE), zB 240, (.inl (.int, (8, .inl (fil (1) (i + 1)))) : CE), zI 64, (.inl (.int, (8, .inl (fil (-1) (i + 1)))) : CE), zI 8, zI 6, zI 8, zI 8, zI 9, zI 9, zI 3721, zI 60, zI 9, zI 9, zI 9, zI 9, zI 9, zI 8, zI 9, zI 9, zI 9, zI 8])) dX12_init_702 rfl (nI_in (N := 8) (Nat.lt_of_lt_of_le hi (by decide)) (by decide)) (by rw [fil_s (-1) hi (by decide)]; rfl) ?_
    refine e_iinc (v := nI (i + 1)) (L' := [some (.ref (n0 + 0)), some (.int (nI (i + 1)))]) dX12_init_703 rfl (nI_1 i) (by decide) rfl ?_
    refine e_goto (tgt := 676) dX12_init_706 rfl ?_
    exact ih
  refine e_iload_n dX12_init_676 rfl rfl ?_
  refine e_bipush (v := 8) dX12_init_677 rfl ?_
  refine e_icmp_ge (tgt := 709) dX12_init_679 rfl (fun _ => ?_) (fun h => absurd (by decide) h)
  refine e_iconst (v := 0) dX12_init_709 rfl ?_
  refine e_pc (pc' := 710) rfl ?_
  refine e_istore_n (L' := [some (.ref (n0 + 0)), some (.int 0)]) dX12_init_710 rfl (by decide) rfl ?_
  refine k_eq (bs' := (.inr (12, (o12_78 n0)) :: [zI 8, zI 8, zI 8, zI 8, zJ 480, zJ 60, zI 16, zI 16, zI 16, zI 16, zI 16, zI 16, zI 16, zI 16, zI 16, zI 16, zB 16, zB 16, zI 80, zI 8, zI 8, zI 16, zJ 960, zI 8, zI 8, zI 64, zI 64, zI 64, zI 256, zB 8, zI 64, zI 64, (.inl (.int, (8, .inl (fil (-1) 8))) : CE), zI 8, zI 8, zI 8, zI 8, zI 8, zI 480, zJ 480, (.inl (.int, (4, .inl (fil (9) 4))) : CE), zI 64, zI 256, zI 256, zI 256, (.inl (.int, (64, .inl (fil (-1) 0))) : CE), zI 4, zI 32, zI 32, zI 6, zI 6, zI 6, zI 6, (.inl (.int, (240, .inl (fil (-1) 240))) : CE), zB 240, (.inl (.int, (8, .inl (fil (1) 8))) : CE), zI 64, (.inl (.int, (8, .inl (fil (-1) 8))) : CE), zI 8, zI 6, zI 8, zI 8, zI 9, zI 9, zI 3721, zI 60, zI 9, zI 9, zI 9, zI 9, zI 9, zI 8, zI 9, zI 9, zI 9, zI 8])) (by rw [← fil_0]) ?_
  refine k_for (N := 64) (S := (fun i => CK g A n0 (.inr (12, (o12_78 n0)) :: [zI 8, zI 8, zI 8, zI 8, zJ 480, zJ 60, zI 16, zI 16, zI 16, zI 16, zI 16, zI 16, zI 16, zI 16, zI 16, zI 16, zB 16, zB 16, zI 80, zI 8, zI 8, zI 16, zJ 960, zI 8, zI 8, zI 64, zI 64, zI 64, zI 256, zB 8, zI 64, zI 64, (.inl (.int, (8, .inl (fil (-1) 8))) : CE), zI 8, zI 8, zI 8, zI 8, zI 8, zI 480, zJ 480, (.inl (.int, (4, .inl (fil (9) 4))) : CE), zI 64, zI 256, zI 256, zI 256, (.inl (.int, (64, .inl (fil (-1) i))) : CE), zI 4, zI 32, zI 32, zI 6, zI 6, zI 6, zI 6, (.inl (.int, (240, .inl (fil (-1) 240))) : CE), zB 240, (.inl (.int, (8, .inl (fil (1) 8))) : CE), zI 64, (.inl (.int, (8, .inl (fil (-1) 8))) : CE), zI 8, zI 6, zI 8, zI 8, zI 9, zI 9, zI 3721, zI 60, zI 9, zI 9, zI 9, zI 9, zI 9, zI 8, zI 9, zI 9, zI 9, zI 8]))) (Lf := fun i => [some (.ref (n0 + 0)), some (.int (nI i))]) (fun i hi ih => ?_) ?_
  · refine e_iload_n dX12_init_711 rfl rfl ?_
    refine e_bipush (v := 64) dX12_init_712 rfl ?_
    refine e_icmp_ge (tgt := 730) dX12_init_714 rfl (fun h => absurd h (nI_ge (b := 64) hi (by decide))) (fun _ => ?_)
    refine e_aload_n dX12_init_717 rfl rfl ?_
    refine k_get (k := 0) (v := .ref (n0 + 46)) flX12_154 dX12_init_718 rfl rfl ?_
    refine e_iload_n dX12_init_721 rfl rfl ?_
    refine e_iconst (v := (-1)) dX12_init_722 rfl ?_
    refine k_iast (k := 46) (n := 64) (f := fil (-1) i) (bs' := (.inr (12, (o12_78 n0)) :: [zI 8, zI 8, zI 8, zI 8, zJ 480, zJ 60, zI 16, zI 16, zI 16, zI 16, zI 16, zI 16, zI 16, zI 16, zI 16, zI 16, zB 16, zB 16, zI 80, zI 8, zI 8, zI 16, zJ 960, zI 8, zI 8, zI 64, zI 64, zI 64, zI 256, zB 8, zI 64, zI 64, (.inl (.int, (8, .inl (fil (-1) 8))) : CE), zI 8, zI 8, zI 8, zI 8, zI 8, zI 480, zJ 480, (.inl (.int, (4, .inl (fil (9) 4))) : CE), zI 64, zI 256, zI 256, zI 256, (.inl (.int, (64, .inl (fil (-1) (i + 1)))) : CE), zI 4, zI 32, zI 32, zI 6, zI 6, zI 6, zI 6, (.inl (.int, (240, .inl (fil (-1) 240))) : CE), zB 240, (.inl (.int, (8, .inl (fil (1) 8))) : CE), zI 64, (.inl (.int, (8, .inl (fil (-1) 8))) : CE), zI 8, zI 6, zI 8, zI 8, zI 9, zI 9, zI 3721, zI 60, zI 9, zI 9, zI 9, zI 9, zI 9, zI 8, zI 9, zI 9, zI 9, zI 8])) dX12_init_723 rfl (nI_in (N := 64) (Nat.lt_of_lt_of_le hi (by decide)) (by decide)) (by rw [fil_s (-1) hi (by decide)]; rfl) ?_
    refine e_iinc (v := nI (i + 1)) (L' := [some (.ref (n0 + 0)), some (.int (nI (i + 1)))]) dX12_init_724 rfl (nI_1 i) (by decide) rfl ?_
    refine e_goto (tgt := 711) dX12_init_727 rfl ?_
    exact ih
  refine e_iload_n dX12_init_711 rfl rfl ?_
  refine e_bipush (v := 64) dX12_init_712 rfl ?_
  refine e_icmp_ge (tgt := 730) dX12_init_714 rfl (fun _ => ?_) (fun h => absurd (by decide) h)
  exact k_ret dX12_init_730 rfl rfl
def o11_0 (n0 : Nat) : Nat → Value := fun k => defaultValue (tyC 11 k)
def o11_1 (n0 : Nat) : Nat → Value := updV (o11_0 n0) 0 (.ref (n0 + 1))
def o11_2 (n0 : Nat) : Nat → Value := updV (o11_1 n0) 1 (.ref (n0 + 2))
def o11_3 (n0 : Nat) : Nat → Value := updV (o11_2 n0) 2 (.ref (n0 + 3))
def o11_4 (n0 : Nat) : Nat → Value := updV (o11_3 n0) 3 (.ref (n0 + 4))
def o11_5 (n0 : Nat) : Nat → Value := updV (o11_4 n0) 4 (.ref (n0 + 5))
def o11_6 (n0 : Nat) : Nat → Value := updV (o11_5 n0) 5 (.ref (n0 + 8))
def o11_7 (n0 : Nat) : Nat → Value := updV (o11_6 n0) 6 (.ref (n0 + 10))
def o11_8 (n0 : Nat) : Nat → Value := updV (o11_7 n0) 7 (.ref (n0 + 16))
def o11_9 (n0 : Nat) : Nat → Value := updV (o11_8 n0) 8 (.ref (n0 + 19))
def o11_10 (n0 : Nat) : Nat → Value := updV (o11_9 n0) 9 (.ref (n0 + 22))
def o11_11 (n0 : Nat) : Nat → Value := updV (o11_10 n0) 10 (.ref (n0 + 29))
def o11_12 (n0 : Nat) : Nat → Value := updV (o11_11 n0) 11 (.ref (n0 + 30))
def o11_13 (n0 : Nat) : Nat → Value := updV (o11_12 n0) 12 (.ref (n0 + 31))
def o11_14 (n0 : Nat) : Nat → Value := updV (o11_13 n0) 13 (.int 0)
def o11_15 (n0 : Nat) : Nat → Value := updV (o11_14 n0) 14 (.int 0)
def o11_16 (n0 : Nat) : Nat → Value := updV (o11_15 n0) 15 (.int 0)
def o11_17 (n0 : Nat) : Nat → Value := updV (o11_16 n0) 16 (.int 0)
def o11_18 (n0 : Nat) : Nat → Value := updV (o11_17 n0) 17 (.int 0)
def o11_19 (n0 : Nat) : Nat → Value := updV (o11_18 n0) 18 (.int 2)
def z11 (n0 : Nat) : List CE := (.inr (11, (o11_19 n0)) :: [(.inl (.object RX9, (8, .inr (.inr (.inr (.inr (va_up (va_up (va_up (va_up (va_up (va_up (va_up (va_up (fun _ => none) 0 (some (n0 + 32))) 1 (some (n0 + 34))) 2 (some (n0 + 36))) 3 (some (n0 + 38))) 4 (some (n0 + 40))) 5 (some (n0 + 42))) 6 (some (n0 + 44))) 7 (some (n0 + 46)))))))) : CE), zR RX4 16, zR RX5 8, zR RX1 6, (.inr (2, o2_3 (n0 + 5)) : CE), zI 8, zI 8, (.inr (10, o10_3 (n0 + 8)) : CE), zI 6, (.inr (3, o3_8 (n0 + 10)) : CE), zI 16, zI 8, zI 8, zI 256, zI 2048, (.inr (0, o0_2 (n0 + 16)) : CE), zI 3721, zI 60, (.inr (7, o7_4 (n0 + 19)) : CE), zI 8, zI 9, (.inr (6, o6_9 (n0 + 22)) : CE), zI 8, zI 8, zI 8, zI 9, zI 8, zI 8, (.inl (.int, (4, .inl (upd (upd (upd (upd (fun _ => 0) 0 9) 1 9) 2 9) 3 9))) : CE), zI 4, zI 7, (.inr (9, o9_4 (n0 + 32)) : CE), zJ 60, (.inr (9, o9_4 (n0 + 34)) : CE), zJ 60, (.inr (9, o9_4 (n0 + 36)) : CE), zJ 60, (.inr (9, o9_4 (n0 + 38)) : CE), zJ 60, (.inr (9, o9_4 (n0 + 40)) : CE), zJ 60, (.inr (9, o9_4 (n0 + 42)) : CE), zJ 60, (.inr (9, o9_4 (n0 + 44)) : CE), zJ 60, (.inr (9, o9_4 (n0 + 46)) : CE), zJ 60])
theorem i_X11 {g : GG} {d : Nat} {A : Heap → Prop} {n0 : Nat} : Cl g (d + 2) 47 6799 MX11_init [.ref (n0 + 0)] (CK g A n0 [dfo 11]) (fun v H => v = none ∧ CK g A n0 (z11 n0) H) := by
  refine Cl.to (Lv := [some (.ref (n0 + 0)), none]) okX11_init (Nat.le_of_ble_eq_true rfl) rfl ?_
  refine k_eq (bs' := (.inr (11, (o11_0 n0)) :: [])) rfl ?_
  refine e_aload_n dX11_init_0 rfl rfl ?_
  refine e_objInit obX11_1 dX11_init_1 (by decide) ?_
  refine e_aload_n dX11_init_4 rfl rfl ?_
  refine e_bipush (v := 8) dX11_init_5 rfl ?_
  refine k_anew (k := 3) (C := RX9) (N := 8) (b := 1) (kc := 46) (ks := 6791) rfl (by decide) clX11_9 (by decide) rfl (by decide) dX11_init_7 rfl rfl rfl ?_
  refine k_putF (k := 0) (fs := (o11_0 n0)) (bs' := (.inr (11, (o11_1 n0)) :: [zR RX9 8])) flX11_11 (fun _ h => by cases h; exact ⟨rfl, rfl⟩) rfl dX11_init_10 rfl rfl rfl rfl ?_
  refine e_aload_n dX11_init_13 rfl rfl ?_
  refine e_pc (pc' := 14) rfl ?_
  refine e_bipush (v := 16) dX11_init_14 rfl ?_
  refine k_anew (k := 4) (C := RX4) (N := 16) (b := 2) (kc := 45) (ks := 6775) rfl (by decide) clX11_15 (by decide) rfl (by decide) dX11_init_16 rfl rfl rfl ?_
  refine k_putF (k := 0) (fs := (o11_1 n0)) (bs' := (.inr (11, (o11_2 n0)) :: [zR RX9 8, zR RX4 16])) flX11_17 (fun _ h => by cases h; exact ⟨rfl, rfl⟩) rfl dX11_init_19 rfl rfl rfl rfl ?_
  refine e_aload_n dX11_init_22 rfl rfl ?_
  refine e_bipush (v := 8) dX11_init_23 rfl ?_
  refine k_anew (k := 5) (C := RX5) (N := 8) (b := 3) (kc := 44) (ks := 6767) rfl (by decide) clX11_21 (by decide) rfl (by decide) dX11_init_25 rfl rfl rfl ?_
  refine k_putF (k := 0) (fs := (o11_2 n0)) (bs' := (.inr (11, (o11_3 n0)) :: [zR RX9 8, zR RX4 16, zR RX5 8])) flX11_23 (fun _ h => by cases h; exact ⟨rfl, rfl⟩) rfl dX11_init_28 rfl rfl rfl rfl ?_
  refine e_aload_n dX11_init_31 rfl rfl ?_
  refine e_pc (pc' := 32) rfl ?_
  refine e_bipush (v := 6) dX11_init_32 rfl ?_
  refine k_anew (k := 6) (C := RX1) (N := 6) (b := 4) (kc := 43) (ks := 6761) rfl (by decide) clX11_27 (by decide) rfl (by decide) dX11_init_34 rfl rfl rfl ?_
  refine k_putF (k := 0) (fs := (o11_3 n0)) (bs' := (.inr (11, (o11_4 n0)) :: [zR RX9 8, zR RX4 16, zR RX5 8, zR RX1 6])) flX11_29 (fun _ h => by cases h; exact ⟨rfl, rfl⟩) rfl dX11_init_37 rfl rfl rfl rfl ?_
  refine e_aload_n dX11_init_40 rfl rfl ?_
  refine k_new (n := 3) (b := 5) (c := 2) (kc := 42) (ks := 6758) rfl rfl clX11_33 itX2 iniX2 dX11_init_41 rfl rfl rfl ?_
  refine e_dup dX11_init_44 rfl ?_
  refine k_initPN (As := []) (rest := [.ref (n0 + 5), .ref (n0 + 0)]) (b := 5) (mc := 2) (ms := 16) (kc := 40) (ks := 6742) (bs := (.inr (11, (o11_4 n0)) :: [zR RX9 8, zR RX4 16, zR RX5 8, zR RX1 6])) okX2_init (by decide) imX11_35 rfl rfl dX11_init_45 rfl rfl (Nat.le_of_ble_eq_true rfl) rfl rfl rfl i_X2 ?_
  refine k_eq (bs' := (.inr (11, (o11_4 n0)) :: [zR RX9 8, zR RX4 16, zR RX5 8, zR RX1 6, (.inr (2, o2_3 (n0 + 5)) : CE), zI 8, zI 8])) rfl ?_
  refine k_putF (k := 0) (fs := (o11_4 n0)) (bs' := (.inr (11, (o11_5 n0)) :: [zR RX9 8, zR RX4 16, zR RX5 8, zR RX1 6, (.inr (2, o2_3 (n0 + 5)) : CE), zI 8, zI 8])) flX11_36 (fun _ h => by cases h; exact ⟨rfl, rfl⟩) rfl dX11_init_48 rfl rfl rfl rfl ?_
  refine e_pc (pc' := 51) rfl ?_
  refine e_aload_n dX11_init_51 rfl rfl ?_
  refine k_new (n := 3) (b := 8) (c := 10) (kc := 39) (ks := 6739) rfl rfl clX11_40 itX10 iniX10 dX11_init_52 rfl rfl rfl ?_
  refine e_dup dX11_init_55 rfl ?_
  refine k_initPN (As := []) (rest := [.ref (n0 + 8), .ref (n0 + 0)]) (b := 8) (mc := 1) (ms := 6) (kc := 38) (ks := 6733) (bs := (.inr (11, (o11_5 n0)) :: [zR RX9 8, zR RX4 16, zR RX5 8, zR RX1 6, (.inr (2, o2_3 (n0 + 5)) : CE), zI 8, zI 8])) okX10_init (by decide) imX11_42 rfl rfl dX11_init_56 rfl rfl (Nat.le_of_ble_eq_true rfl) rfl rfl rfl i_X10 ?_
  refine k_eq (bs' := (.inr (11, (o11_5 n0)) :: [zR RX9 8, zR RX4 16, zR RX5 8, zR RX1 6, (.inr (2, o2_3 (n0 + 5)) : CE), zI 8, zI 8, (.inr (10, o10_3 (n0 + 8)) : CE), zI 6])) rfl ?_
  refine k_putF (k := 0) (fs := (o11_5 n0)) (bs' := (.inr (11, (o11_6 n0)) :: [zR RX9 8, zR RX4 16, zR RX5 8, zR RX1 6, (.inr (2, o2_3 (n0 + 5)) : CE), zI 8, zI 8, (.inr (10, o10_3 (n0 + 8)) : CE), zI 6])) flX11_43 (fun _ h => by cases h; exact ⟨rfl, rfl⟩) rfl dX11_init_59 rfl rfl rfl rfl ?_
  refine e_aload_n dX11_init_62 rfl rfl ?_
  refine k_new (n := 8) (b := 10) (c := 3) (kc := 37) (ks := 6725) rfl rfl clX11_47 itX3 iniX3 dX11_init_63 rfl rfl rfl ?_
  refine e_dup dX11_init_66 rfl ?_
  refine e_pc (pc' := 67) rfl ?_
  refine k_initPN (As := []) (rest := [.ref (n0 + 10), .ref (n0 + 0)]) (b := 10) (mc := 5) (ms := 2336) (kc := 32) (ks := 4389) (bs := (.inr (11, (o11_6 n0)) :: [zR RX9 8, zR RX4 16, zR RX5 8, zR RX1 6, (.inr (2, o2_3 (n0 + 5)) : CE), zI 8, zI 8, (.inr (10, o10_3 (n0 + 8)) : CE), zI 6])) okX3_init (by decide) imX11_49 rfl rfl dX11_init_67 rfl rfl (Nat.le_of_ble_eq_true rfl) rfl rfl rfl i_X3 ?_
  refine k_eq (bs' := (.inr (11, (o11_6 n0)) :: [zR RX9 8, zR RX4 16, zR RX5 8, zR RX1 6, (.inr (2, o2_3 (n0 + 5)) : CE), zI 8, zI 8, (.inr (10, o10_3 (n0 + 8)) : CE), zI 6, (.inr (3, o3_8 (n0 + 10)) : CE), zI 16, zI 8, zI 8, zI 256, zI 2048])) rfl ?_
  refine k_putF (k := 0) (fs := (o11_6 n0)) (bs' := (.inr (11, (o11_7 n0)) :: [zR RX9 8, zR RX4 16, zR RX5 8, zR RX1 6, (.inr (2, o2_3 (n0 + 5)) : CE), zI 8, zI 8, (.inr (10, o10_3 (n0 + 8)) : CE), zI 6, (.inr (3, o3_8 (n0 + 10)) : CE), zI 16, zI 8, zI 8, zI 256, zI 2048])) flX11_50 (fun _ h => by cases h; exact ⟨rfl, rfl⟩) rfl dX11_init_70 rfl rfl rfl rfl ?_
  refine e_aload_n dX11_init_73 rfl rfl ?_
  refine k_new (n := 2) (b := 16) (c := 0) (kc := 31) (ks := 4387) rfl rfl clX11_54 itX0 iniX0 dX11_init_74 rfl rfl rfl ?_
  refine e_dup dX11_init_77 rfl ?_
  refine k_initPN (As := []) (rest := [.ref (n0 + 16), .ref (n0 + 0)]) (b := 16) (mc := 2) (ms := 3781) (kc := 29) (ks := 606) (bs := (.inr (11, (o11_7 n0)) :: [zR RX9 8, zR RX4 16, zR RX5 8, zR RX1 6, (.inr (2, o2_3 (n0 + 5)) : CE), zI 8, zI 8, (.inr (10, o10_3 (n0 + 8)) : CE), zI 6, (.inr (3, o3_8 (n0 + 10)) : CE), zI 16, zI 8, zI 8, zI 256, zI 2048])) okX0_init (by decide) imX11_56 rfl rfl dX11_init_78 rfl rfl (Nat.le_of_ble_eq_true rfl) rfl rfl rfl i_X0 ?_
  refine k_eq (bs' := (.inr (11, (o11_7 n0)) :: [zR RX9 8, zR RX4 16, zR RX5 8, zR RX1 6, (.inr (2, o2_3 (n0 + 5)) : CE), zI 8, zI 8, (.inr (10, o10_3 (n0 + 8)) : CE), zI 6, (.inr (3, o3_8 (n0 + 10)) : CE), zI 16, zI 8, zI 8, zI 256, zI 2048, (.inr (0, o0_2 (n0 + 16)) : CE), zI 3721, zI 60])) rfl ?_
  refine k_putF (k := 0) (fs := (o11_7 n0)) (bs' := (.inr (11, (o11_8 n0)) :: [zR RX9 8, zR RX4 16, zR RX5 8, zR RX1 6, (.inr (2, o2_3 (n0 + 5)) : CE), zI 8, zI 8, (.inr (10, o10_3 (n0 + 8)) : CE), zI 6, (.inr (3, o3_8 (n0 + 10)) : CE), zI 16, zI 8, zI 8, zI 256, zI 2048, (.inr (0, o0_2 (n0 + 16)) : CE), zI 3721, zI 60])) flX11_57 (fun _ h => by cases h; exact ⟨rfl, rfl⟩) rfl dX11_init_81 rfl rfl rfl rfl ?_
  refine e_aload_n dX11_init_84 rfl rfl ?_
  refine e_pc (pc' := 85) rfl ?_
  refine k_new (n := 4) (b := 19) (c := 7) (kc := 28) (ks := 602) rfl rfl clX11_61 itX7 iniX7 dX11_init_85 rfl rfl rfl ?_
  refine e_dup dX11_init_88 rfl ?_
  refine k_initPN (As := []) (rest := [.ref (n0 + 19), .ref (n0 + 0)]) (b := 19) (mc := 2) (ms := 17) (kc := 26) (ks := 585) (bs := (.inr (11, (o11_8 n0)) :: [zR RX9 8, zR RX4 16, zR RX5 8, zR RX1 6, (.inr (2, o2_3 (n0 + 5)) : CE), zI 8, zI 8, (.inr (10, o10_3 (n0 + 8)) : CE), zI 6, (.inr (3, o3_8 (n0 + 10)) : CE), zI 16, zI 8, zI 8, zI 256, zI 2048, (.inr (0, o0_2 (n0 + 16)) : CE), zI 3721, zI 60])) okX7_init (by decide) imX11_63 rfl rfl dX11_init_89 rfl rfl (Nat.le_of_ble_eq_true rfl) rfl rfl rfl i_X7 ?_
  refine k_eq (bs' := (.inr (11, (o11_8 n0)) :: [zR RX9 8, zR RX4 16, zR RX5 8, zR RX1 6, (.inr (2, o2_3 (n0 + 5)) : CE), zI 8, zI 8, (.inr (10, o10_3 (n0 + 8)) : CE), zI 6, (.inr (3, o3_8 (n0 + 10)) : CE), zI 16, zI 8, zI 8, zI 256, zI 2048, (.inr (0, o0_2 (n0 + 16)) : CE), zI 3721, zI 60, (.inr (7, o7_4 (n0 + 19)) : CE), zI 8, zI 9])) rfl ?_
  refine k_putF (k := 0) (fs := (o11_8 n0)) (bs' := (.inr (11, (o11_9 n0)) :: [zR RX9 8, zR RX4 16, zR RX5 8, zR RX1 6, (.inr (2, o2_3 (n0 + 5)) : CE), zI 8, zI 8, (.inr (10, o10_3 (n0 + 8)) : CE), zI 6, (.inr (3, o3_8 (n0 + 10)) : CE), zI 16, zI 8, zI 8, zI 256, zI 2048, (.inr (0, o0_2 (n0 + 16)) : CE), zI 3721, zI 60, (.inr (7, o7_4 (n0 + 19)) : CE), zI 8, zI 9])) flX11_64 (fun _ h => by cases h; exact ⟨rfl, rfl⟩) rfl dX11_init_92 rfl rfl rfl rfl ?_
  refine e_aload_n dX11_init_95 rfl rfl ?_
  refine k_new (n := 9) (b := 22) (c := 6) (kc := 25) (ks := 576) rfl rfl clX11_68 itX6 iniX6 dX11_init_96 rfl rfl rfl ?_
  refine e_dup dX11_init_99 rfl ?_
  refine k_initPN (As := []) (rest := [.ref (n0 + 22), .ref (n0 + 0)]) (b := 22) (mc := 6) (ms := 49) (kc := 19) (ks := 527) (bs := (.inr (11, (o11_9 n0)) :: [zR RX9 8, zR RX4 16, zR RX5 8, zR RX1 6, (.inr (2, o2_3 (n0 + 5)) : CE), zI 8, zI 8, (.inr (10, o10_3 (n0 + 8)) : CE), zI 6, (.inr (3, o3_8 (n0 + 10)) : CE), zI 16, zI 8, zI 8, zI 256, zI 2048, (.inr (0, o0_2 (n0 + 16)) : CE), zI 3721, zI 60, (.inr (7, o7_4 (n0 + 19)) : CE), zI 8, zI 9])) okX6_init (by decide) imX11_70 rfl rfl dX11_init_100 rfl rfl (Nat.le_of_ble_eq_true rfl) rfl rfl rfl i_X6 ?_
  refine k_eq (bs' := (.inr (11, (o11_9 n0)) :: [zR RX9 8, zR RX4 16, zR RX5 8, zR RX1 6, (.inr (2, o2_3 (n0 + 5)) : CE), zI 8, zI 8, (.inr (10, o10_3 (n0 + 8)) : CE), zI 6, (.inr (3, o3_8 (n0 + 10)) : CE), zI 16, zI 8, zI 8, zI 256, zI 2048, (.inr (0, o0_2 (n0 + 16)) : CE), zI 3721, zI 60, (.inr (7, o7_4 (n0 + 19)) : CE), zI 8, zI 9, (.inr (6, o6_9 (n0 + 22)) : CE), zI 8, zI 8, zI 8, zI 9, zI 8, zI 8])) rfl ?_
  refine e_pc (pc' := 103) rfl ?_
  refine k_putF (k := 0) (fs := (o11_9 n0)) (bs' := (.inr (11, (o11_10 n0)) :: [zR RX9 8, zR RX4 16, zR RX5 8, zR RX1 6, (.inr (2, o2_3 (n0 + 5)) : CE), zI 8, zI 8, (.inr (10, o10_3 (n0 + 8)) : CE), zI 6, (.inr (3, o3_8 (n0 + 10)) : CE), zI 16, zI 8, zI 8, zI 256, zI 2048, (.inr (0, o0_2 (n0 + 16)) : CE), zI 3721, zI 60, (.inr (7, o7_4 (n0 + 19)) : CE), zI 8, zI 9, (.inr (6, o6_9 (n0 + 22)) : CE), zI 8, zI 8, zI 8, zI 9, zI 8, zI 8])) flX11_71 (fun _ h => by cases h; exact ⟨rfl, rfl⟩) rfl dX11_init_103 rfl rfl rfl rfl ?_
  refine e_aload_n dX11_init_106 rfl rfl ?_
  refine e_iconst (v := 4) dX11_init_107 rfl ?_
  refine k_int (N := 4) (b := 29) (kc := 18) (ks := 523) (by decide) rfl (by decide) dX11_init_108 rfl rfl rfl ?_
  refine k_putF (k := 0) (fs := (o11_10 n0)) (bs' := (.inr (11, (o11_11 n0)) :: [zR RX9 8, zR RX4 16, zR RX5 8, zR RX1 6, (.inr (2, o2_3 (n0 + 5)) : CE), zI 8, zI 8, (.inr (10, o10_3 (n0 + 8)) : CE), zI 6, (.inr (3, o3_8 (n0 + 10)) : CE), zI 16, zI 8, zI 8, zI 256, zI 2048, (.inr (0, o0_2 (n0 + 16)) : CE), zI 3721, zI 60, (.inr (7, o7_4 (n0 + 19)) : CE), zI 8, zI 9, (.inr (6, o6_9 (n0 + 22)) : CE), zI 8, zI 8, zI 8, zI 9, zI 8, zI 8, zI 4])) flX11_75 (fun _ h => by cases h; exact ⟨rfl, rfl⟩) rfl dX11_init_110 rfl rfl rfl rfl ?_
  refine e_aload_n dX11_init_113 rfl rfl ?_
  refine e_iconst (v := 4) dX11_init_114 rfl ?_
  refine k_int (N := 4) (b := 30) (kc := 17) (ks := 519) (by decide) rfl (by decide) dX11_init_115 rfl rfl rfl ?_
  refine e_pc (pc' := 117) rfl ?_
  refine k_putF (k := 0) (fs := (o11_11 n0)) (bs' := (.inr (11, (o11_12 n0)) :: [zR RX9 8, zR RX4 16, zR RX5 8, zR RX1 6, (.inr (2, o2_3 (n0 + 5)) : CE), zI 8, zI 8, (.inr (10, o10_3 (n0 + 8)) : CE), zI 6, (.inr (3, o3_8 (n0 + 10)) : CE), zI 16, zI 8, zI 8, zI 256, zI 2048, (.inr (0, o0_2 (n0 + 16)) : CE), zI 3721, zI 60, (.inr (7, o7_4 (n0 + 19)) : CE), zI 8, zI 9, (.inr (6, o6_9 (n0 + 22)) : CE), zI 8, zI 8, zI 8, zI 9, zI 8, zI 8, zI 4, zI 4])) flX11_79 (fun _ h => by cases h; exact ⟨rfl, rfl⟩) rfl dX11_init_117 rfl rfl rfl rfl ?_
  refine e_aload_n dX11_init_120 rfl rfl ?_
  refine e_bipush (v := 7) dX11_init_121 rfl ?_
  refine k_int (N := 7) (b := 31) (kc := 16) (ks := 512) (by decide) rfl (by decide) dX11_init_123 rfl rfl rfl ?_
  refine k_putF (k := 0) (fs := (o11_12 n0)) (bs' := (.inr (11, (o11_13 n0)) :: [zR RX9 8, zR RX4 16, zR RX5 8, zR RX1 6, (.inr (2, o2_3 (n0 + 5)) : CE), zI 8, zI 8, (.inr (10, o10_3 (n0 + 8)) : CE), zI 6, (.inr (3, o3_8 (n0 + 10)) : CE), zI 16, zI 8, zI 8, zI 256, zI 2048, (.inr (0, o0_2 (n0 + 16)) : CE), zI 3721, zI 60, (.inr (7, o7_4 (n0 + 19)) : CE), zI 8, zI 9, (.inr (6, o6_9 (n0 + 22)) : CE), zI 8, zI 8, zI 8, zI 9, zI 8, zI 8, zI 4, zI 4, zI 7])) flX11_82 (fun _ h => by cases h; exact ⟨rfl, rfl⟩) rfl dX11_init_125 rfl rfl rfl rfl ?_
  refine e_aload_n dX11_init_128 rfl rfl ?_
  refine e_iconst (v := 0) dX11_init_129 rfl ?_
  refine k_put (k := 0) (fs := (o11_13 n0)) (bs' := (.inr (11, (o11_14 n0)) :: [zR RX9 8, zR RX4 16, zR RX5 8, zR RX1 6, (.inr (2, o2_3 (n0 + 5)) : CE), zI 8, zI 8, (.inr (10, o10_3 (n0 + 8)) : CE), zI 6, (.inr (3, o3_8 (n0 + 10)) : CE), zI 16, zI 8, zI 8, zI 256, zI 2048, (.inr (0, o0_2 (n0 + 16)) : CE), zI 3721, zI 60, (.inr (7, o7_4 (n0 + 19)) : CE), zI 8, zI 9, (.inr (6, o6_9 (n0 + 22)) : CE), zI 8, zI 8, zI 8, zI 9, zI 8, zI 8, zI 4, zI 4, zI 7])) flX11_85 (fun _ h => by cases h; rfl) dX11_init_130 rfl rfl rfl rfl ?_
  refine e_pc (pc' := 133) rfl ?_
  refine e_aload_n dX11_init_133 rfl rfl ?_
  refine e_iconst (v := 0) dX11_init_134 rfl ?_
  refine k_put (k := 0) (fs := (o11_14 n0)) (bs' := (.inr (11, (o11_15 n0)) :: [zR RX9 8, zR RX4 16, zR RX5 8, zR RX1 6, (.inr (2, o2_3 (n0 + 5)) : CE), zI 8, zI 8, (.inr (10, o10_3 (n0 + 8)) : CE), zI 6, (.inr (3, o3_8 (n0 + 10)) : CE), zI 16, zI 8, zI 8, zI 256, zI 2048, (.inr (0, o0_2 (n0 + 16)) : CE), zI 3721, zI 60, (.inr (7, o7_4 (n0 + 19)) : CE), zI 8, zI 9, (.inr (6, o6_9 (n0 + 22)) : CE), zI 8, zI 8, zI 8, zI 9, zI 8, zI 8, zI 4, zI 4, zI 7])) flX11_89 (fun _ h => by cases h; rfl) dX11_init_135 rfl rfl rfl rfl ?_
  refine e_aload_n dX11_init_138 rfl rfl ?_
  refine e_iconst (v := 0) dX11_init_139 rfl ?_
  refine k_put (k := 0) (fs := (o11_15 n0)) (bs' := (.inr (11, (o11_16 n0)) :: [zR RX9 8, zR RX4 16, zR RX5 8, zR RX1 6, (.inr (2, o2_3 (n0 + 5)) : CE), zI 8, zI 8, (.inr (10, o10_3 (n0 + 8)) : CE), zI 6, (.inr (3, o3_8 (n0 + 10)) : CE), zI 16, zI 8, zI 8, zI 256, zI 2048, (.inr (0, o0_2 (n0 + 16)) : CE), zI 3721, zI 60, (.inr (7, o7_4 (n0 + 19)) : CE), zI 8, zI 9, (.inr (6, o6_9 (n0 + 22)) : CE), zI 8, zI 8, zI 8, zI 9, zI 8, zI 8, zI 4, zI 4, zI 7])) flX11_92 (fun _ h => by cases h; rfl) dX11_init_140 rfl rfl rfl rfl ?_
  refine e_aload_n dX11_init_143 rfl rfl ?_
  refine e_iconst (v := 0) dX11_init_144 rfl ?_
  refine e_pc (pc' := 145) rfl ?_
  refine k_put (k := 0) (fs := (o11_16 n0)) (bs' := (.inr (11, (o11_17 n0)) :: [zR RX9 8, zR RX4 16, zR RX5 8, zR RX1 6, (.inr (2, o2_3 (n0 + 5)) : CE), zI 8, zI 8, (.inr (10, o10_3 (n0 + 8)) : CE), zI 6, (.inr (3, o3_8 (n0 + 10)) : CE), zI 16, zI 8, zI 8, zI 256, zI 2048, (.inr (0, o0_2 (n0 + 16)) : CE), zI 3721, zI 60, (.inr (7, o7_4 (n0 + 19)) : CE), zI 8, zI 9, (.inr (6, o6_9 (n0 + 22)) : CE), zI 8, zI 8, zI 8, zI 9, zI 8, zI 8, zI 4, zI 4, zI 7])) flX11_95 (fun _ h => by cases h; rfl) dX11_init_145 rfl rfl rfl rfl ?_
  refine e_aload_n dX11_init_148 rfl rfl ?_
  refine e_iconst (v := 0) dX11_init_149 rfl ?_
  refine k_put (k := 0) (fs := (o11_17 n0)) (bs' := (.inr (11, (o11_18 n0)) :: [zR RX9 8, zR RX4 16, zR RX5 8, zR RX1 6, (.inr (2, o2_3 (n0 + 5)) : CE), zI 8, zI 8, (.inr (10, o10_3 (n0 + 8)) : CE), zI 6, (.inr (3, o3_8 (n0 + 10)) : CE), zI 16, zI 8, zI 8, zI 256, zI 2048, (.inr (0, o0_2 (n0 + 16)) : CE), zI 3721, zI 60, (.inr (7, o7_4 (n0 + 19)) : CE), zI 8, zI 9, (.inr (6, o6_9 (n0 + 22)) : CE), zI 8, zI 8, zI 8, zI 9, zI 8, zI 8, zI 4, zI 4, zI 7])) flX11_98 (fun _ h => by cases h; rfl) dX11_init_150 rfl rfl rfl rfl ?_
  refine e_aload_n dX11_init_153 rfl rfl ?_
  refine e_iconst (v := 2) dX11_init_154 rfl ?_
  refine k_put (k := 0) (fs := (o11_18 n0)) (bs' := (.inr (11, (o11_19 n0)) :: [zR RX9 8, zR RX4 16, zR RX5 8, zR RX1 6, (.inr (2, o2_3 (n0 + 5)) : CE), zI 8, zI 8, (.inr (10, o10_3 (n0 + 8)) : CE), zI 6, (.inr (3, o3_8 (n0 + 10)) : CE), zI 16, zI 8, zI 8, zI 256, zI 2048, (.inr (0, o0_2 (n0 + 16)) : CE), zI 3721, zI 60, (.inr (7, o7_4 (n0 + 19)) : CE), zI 8, zI 9, (.inr (6, o6_9 (n0 + 22)) : CE), zI 8, zI 8, zI 8, zI 9, zI 8, zI 8, zI 4, zI 4, zI 7])) flX11_101 (fun _ h => by cases h; rfl) dX11_init_155 rfl rfl rfl rfl ?_
  refine e_iconst (v := 0) dX11_init_158 rfl ?_
  refine e_pc (pc' := 159) rfl ?_
  refine e_istore_n (L' := [some (.ref (n0 + 0)), some (.int 0)]) dX11_init_159 rfl (by decide) rfl ?_
  refine e_iload_n dX11_init_160 rfl rfl ?_
  refine e_bipush (v := 8) dX11_init_161 rfl ?_
  refine e_icmp_ge (tgt := 185) dX11_init_163 rfl (fun h => absurd h (by decide)) (fun _ => ?_)
  refine e_aload_n dX11_init_166 rfl rfl ?_
  refine k_get (k := 0) (v := .ref (n0 + 1)) flX11_11 dX11_init_167 rfl rfl ?_
  refine e_iload_n dX11_init_170 rfl rfl ?_
  refine k_new (n := 4) (b := 32) (c := 9) (kc := 15) (ks := 508) rfl rfl clX11_9 itX9 iniX9 dX11_init_171 rfl rfl rfl ?_
  refine e_pc (pc' := 174) rfl ?_
  refine e_dup dX11_init_174 rfl ?_
  refine k_initPN (As := []) (rest := [.ref (n0 + 32), .int 0, .ref (n0 + 1)]) (b := 32) (mc := 1) (ms := 60) (kc := 14) (ks := 448) (bs := (.inr (11, (o11_19 n0)) :: [zR RX9 8, zR RX4 16, zR RX5 8, zR RX1 6, (.inr (2, o2_3 (n0 + 5)) : CE), zI 8, zI 8, (.inr (10, o10_3 (n0 + 8)) : CE), zI 6, (.inr (3, o3_8 (n0 + 10)) : CE), zI 16, zI 8, zI 8, zI 256, zI 2048, (.inr (0, o0_2 (n0 + 16)) : CE), zI 3721, zI 60, (.inr (7, o7_4 (n0 + 19)) : CE), zI 8, zI 9, (.inr (6, o6_9 (n0 + 22)) : CE), zI 8, zI 8, zI 8, zI 9, zI 8, zI 8, zI 4, zI 4, zI 7])) okX9_init (by decide) imX11_104 rfl rfl dX11_init_175 rfl rfl (Nat.le_of_ble_eq_true rfl) rfl rfl rfl i_X9 ?_
  refine k_eq (bs' := (.inr (11, (o11_19 n0)) :: [zR RX9 8, zR RX4 16, zR RX5 8, zR RX1 6, (.inr (2, o2_3 (n0 + 5)) : CE), zI 8, zI 8, (.inr (10, o10_3 (n0 + 8)) : CE), zI 6, (.inr (3, o3_8 (n0 + 10)) : CE), zI 16, zI 8, zI 8, zI 256, zI 2048, (.inr (0, o0_2 (n0 + 16)) : CE), zI 3721, zI 60, (.inr (7, o7_4 (n0 + 19)) : CE), zI 8, zI 9, (.inr (6, o6_9 (n0 + 22)) : CE), zI 8, zI 8, zI 8, zI 9, zI 8, zI 8, zI 4, zI 4, zI 7, (.inr (9, o9_4 (n0 + 32)) : CE), zJ 60])) rfl ?_
  refine k_aast (k := 1) (kv := 32) (c := 9) (n := 8) (f := (fun _ => none)) (bs' := (.inr (11, (o11_19 n0)) :: [(.inl (.object RX9, (8, .inr (.inr (.inr (.inr (va_up (fun _ => none) 0 (some (n0 + 32)))))))) : CE), zR RX4 16, zR RX5 8, zR RX1 6, (.inr (2, o2_3 (n0 + 5)) : CE), zI 8, zI 8, (.inr (10, o10_3 (n0 + 8)) : CE), zI 6, (.inr (3, o3_8 (n0 + 10)) : CE), zI 16, zI 8, zI 8, zI 256, zI 2048, (.inr (0, o0_2 (n0 + 16)) : CE), zI 3721, zI 60, (.inr (7, o7_4 (n0 + 19)) : CE), zI 8, zI 9, (.inr (6, o6_9 (n0 + 22)) : CE), zI 8, zI 8, zI 8, zI 9, zI 8, zI 8, zI 4, zI 4, zI 7, (.inr (9, o9_4 (n0 + 32)) : CE), zJ 60])) dX11_init_178 rfl rfl rfl (inb_in (by decide)) rfl ?_
  refine e_iinc (v := 1) (L' := [some (.ref (n0 + 0)), some (.int 1)]) dX11_init_179 rfl (by decide) (by decide) rfl ?_
  refine e_goto (tgt := 160) dX11_init_182 rfl ?_
  refine e_iload_n dX11_init_160 rfl rfl ?_
  refine e_bipush (v := 8) dX11_init_161 rfl ?_
  refine e_icmp_ge (tgt := 185) dX11_init_163 rfl (fun h => absurd h (by decide)) (fun _ => ?_)
  refine e_pc (pc' := 166) rfl ?_
  refine e_aload_n dX11_init_166 rfl rfl ?_
  refine k_get (k := 0) (v := .ref (n0 + 1)) flX11_11 dX11_init_167 rfl rfl ?_
  refine e_iload_n dX11_init_170 rfl rfl ?_
  refine k_new (n := 4) (b := 34) (c := 9) (kc := 13) (ks := 444) rfl rfl clX11_9 itX9 iniX9 dX11_init_171 rfl rfl rfl ?_
  refine e_dup dX11_init_174 rfl ?_
  refine k_initPN (As := []) (rest := [.ref (n0 + 34), .int 1, .ref (n0 + 1)]) (b := 34) (mc := 1) (ms := 60) (kc := 12) (ks := 384) (bs := (.inr (11, (o11_19 n0)) :: [(.inl (.object RX9, (8, .inr (.inr (.inr (.inr (va_up (fun _ => none) 0 (some (n0 + 32)))))))) : CE), zR RX4 16, zR RX5 8, zR RX1 6, (.inr (2, o2_3 (n0 + 5)) : CE), zI 8, zI 8, (.inr (10, o10_3 (n0 + 8)) : CE), zI 6, (.inr (3, o3_8 (n0 + 10)) : CE), zI 16, zI 8, zI 8, zI 256, zI 2048, (.inr (0, o0_2 (n0 + 16)) : CE), zI 3721, zI 60, (.inr (7, o7_4 (n0 + 19)) : CE), zI 8, zI 9, (.inr (6, o6_9 (n0 + 22)) : CE), zI 8, zI 8, zI 8, zI 9, zI 8, zI 8, zI 4, zI 4, zI 7, (.inr (9, o9_4 (n0 + 32)) : CE), zJ 60])) okX9_init (by decide) imX11_104 rfl rfl dX11_init_175 rfl rfl (Nat.le_of_ble_eq_true rfl) rfl rfl rfl i_X9 ?_
  refine k_eq (bs' := (.inr (11, (o11_19 n0)) :: [(.inl (.object RX9, (8, .inr (.inr (.inr (.inr (va_up (fun _ => none) 0 (some (n0 + 32)))))))) : CE), zR RX4 16, zR RX5 8, zR RX1 6, (.inr (2, o2_3 (n0 + 5)) : CE), zI 8, zI 8, (.inr (10, o10_3 (n0 + 8)) : CE), zI 6, (.inr (3, o3_8 (n0 + 10)) : CE), zI 16, zI 8, zI 8, zI 256, zI 2048, (.inr (0, o0_2 (n0 + 16)) : CE), zI 3721, zI 60, (.inr (7, o7_4 (n0 + 19)) : CE), zI 8, zI 9, (.inr (6, o6_9 (n0 + 22)) : CE), zI 8, zI 8, zI 8, zI 9, zI 8, zI 8, zI 4, zI 4, zI 7, (.inr (9, o9_4 (n0 + 32)) : CE), zJ 60, (.inr (9, o9_4 (n0 + 34)) : CE), zJ 60])) rfl ?_
  refine k_aast (k := 1) (kv := 34) (c := 9) (n := 8) (f := (va_up (fun _ => none) 0 (some (n0 + 32)))) (bs' := (.inr (11, (o11_19 n0)) :: [(.inl (.object RX9, (8, .inr (.inr (.inr (.inr (va_up (va_up (fun _ => none) 0 (some (n0 + 32))) 1 (some (n0 + 34)))))))) : CE), zR RX4 16, zR RX5 8, zR RX1 6, (.inr (2, o2_3 (n0 + 5)) : CE), zI 8, zI 8, (.inr (10, o10_3 (n0 + 8)) : CE), zI 6, (.inr (3, o3_8 (n0 + 10)) : CE), zI 16, zI 8, zI 8, zI 256, zI 2048, (.inr (0, o0_2 (n0 + 16)) : CE), zI 3721, zI 60, (.inr (7, o7_4 (n0 + 19)) : CE), zI 8, zI 9, (.inr (6, o6_9 (n0 + 22)) : CE), zI 8, zI 8, zI 8, zI 9, zI 8, zI 8, zI 4, zI 4, zI 7, (.inr (9, o9_4 (n0 + 32)) : CE), zJ 60, (.inr (9, o9_4 (n0 + 34)) : CE), zJ 60])) dX11_init_178 rfl rfl rfl (inb_in (by decide)) rfl ?_
  refine e_iinc (v := 2) (L' := [some (.ref (n0 + 0)), some (.int 2)]) dX11_init_179 rfl (by decide) (by decide) rfl ?_
  refine e_pc (pc' := 182) rfl ?_
  refine e_goto (tgt := 160) dX11_init_182 rfl ?_
  refine e_iload_n dX11_init_160 rfl rfl ?_
  refine e_bipush (v := 8) dX11_init_161 rfl ?_
  refine e_icmp_ge (tgt := 185) dX11_init_163 rfl (fun h => absurd h (by decide)) (fun _ => ?_)
  refine e_aload_n dX11_init_166 rfl rfl ?_
  refine k_get (k := 0) (v := .ref (n0 + 1)) flX11_11 dX11_init_167 rfl rfl ?_
  refine e_iload_n dX11_init_170 rfl rfl ?_
  refine k_new (n := 4) (b := 36) (c := 9) (kc := 11) (ks := 380) rfl rfl clX11_9 itX9 iniX9 dX11_init_171 rfl rfl rfl ?_
  refine e_pc (pc' := 174) rfl ?_
  refine e_dup dX11_init_174 rfl ?_
  refine k_initPN (As := []) (rest := [.ref (n0 + 36), .int 2, .ref (n0 + 1)]) (b := 36) (mc := 1) (ms := 60) (kc := 10) (ks := 320) (bs := (.inr (11, (o11_19 n0)) :: [(.inl (.object RX9, (8, .inr (.inr (.inr (.inr (va_up (va_up (fun _ => none) 0 (some (n0 + 32))) 1 (some (n0 + 34)))))))) : CE), zR RX4 16, zR RX5 8, zR RX1 6, (.inr (2, o2_3 (n0 + 5)) : CE), zI 8, zI 8, (.inr (10, o10_3 (n0 + 8)) : CE), zI 6, (.inr (3, o3_8 (n0 + 10)) : CE), zI 16, zI 8, zI 8, zI 256, zI 2048, (.inr (0, o0_2 (n0 + 16)) : CE), zI 3721, zI 60, (.inr (7, o7_4 (n0 + 19)) : CE), zI 8, zI 9, (.inr (6, o6_9 (n0 + 22)) : CE), zI 8, zI 8, zI 8, zI 9, zI 8, zI 8, zI 4, zI 4, zI 7, (.inr (9, o9_4 (n0 + 32)) : CE), zJ 60, (.inr (9, o9_4 (n0 + 34)) : CE), zJ 60])) okX9_init (by decide) imX11_104 rfl rfl dX11_init_175 rfl rfl (Nat.le_of_ble_eq_true rfl) rfl rfl rfl i_X9 ?_
  refine k_eq (bs' := (.inr (11, (o11_19 n0)) :: [(.inl (.object RX9, (8, .inr (.inr (.inr (.inr (va_up (va_up (fun _ => none) 0 (some (n0 + 32))) 1 (some (n0 + 34)))))))) : CE), zR RX4 16, zR RX5 8, zR RX1 6, (.inr (2, o2_3 (n0 + 5)) : CE), zI 8, zI 8, (.inr (10, o10_3 (n0 + 8)) : CE), zI 6, (.inr (3, o3_8 (n0 + 10)) : CE), zI 16, zI 8, zI 8, zI 256, zI 2048, (.inr (0, o0_2 (n0 + 16)) : CE), zI 3721, zI 60, (.inr (7, o7_4 (n0 + 19)) : CE), zI 8, zI 9, (.inr (6, o6_9 (n0 + 22)) : CE), zI 8, zI 8, zI 8, zI 9, zI 8, zI 8, zI 4, zI 4, zI 7, (.inr (9, o9_4 (n0 + 32)) : CE), zJ 60, (.inr (9, o9_4 (n0 + 34)) : CE), zJ 60, (.inr (9, o9_4 (n0 + 36)) : CE), zJ 60])) rfl ?_
  refine k_aast (k := 1) (kv := 36) (c := 9) (n := 8) (f := (va_up (va_up (fun _ => none) 0 (some (n0 + 32))) 1 (some (n0 + 34)))) (bs' := (.inr (11, (o11_19 n0)) :: [(.inl (.object RX9, (8, .inr (.inr (.inr (.inr (va_up (va_up (va_up (fun _ => none) 0 (some (n0 + 32))) 1 (some (n0 + 34))) 2 (some (n0 + 36)))))))) : CE), zR RX4 16, zR RX5 8, zR RX1 6, (.inr (2, o2_3 (n0 + 5)) : CE), zI 8, zI 8, (.inr (10, o10_3 (n0 + 8)) : CE), zI 6, (.inr (3, o3_8 (n0 + 10)) : CE), zI 16, zI 8, zI 8, zI 256, zI 2048, (.inr (0, o0_2 (n0 + 16)) : CE), zI 3721, zI 60, (.inr (7, o7_4 (n0 + 19)) : CE), zI 8, zI 9, (.inr (6, o6_9 (n0 + 22)) : CE), zI 8, zI 8, zI 8, zI 9, zI 8, zI 8, zI 4, zI 4, zI 7, (.inr (9, o9_4 (n0 + 32)) : CE), zJ 60, (.inr (9, o9_4 (n0 + 34)) : CE), zJ 60, (.inr (9, o9_4 (n0 + 36)) : CE), zJ 60])) dX11_init_178 rfl rfl rfl (inb_in (by decide)) rfl ?_
  refine e_iinc (v := 3) (L' := [some (.ref (n0 + 0)), some (.int 3)]) dX11_init_179 rfl (by decide) (by decide) rfl ?_
  refine e_goto (tgt := 160) dX11_init_182 rfl ?_
  refine e_iload_n dX11_init_160 rfl rfl ?_
  refine e_bipush (v := 8) dX11_init_161 rfl ?_
  refine e_icmp_ge (tgt := 185) dX11_init_163 rfl (fun h => absurd h (by decide)) (fun _ => ?_)
  refine e_pc (pc' := 166) rfl ?_
  refine e_aload_n dX11_init_166 rfl rfl ?_
  refine k_get (k := 0) (v := .ref (n0 + 1)) flX11_11 dX11_init_167 rfl rfl ?_
  refine e_iload_n dX11_init_170 rfl rfl ?_
  refine k_new (n := 4) (b := 38) (c := 9) (kc := 9) (ks := 316) rfl rfl clX11_9 itX9 iniX9 dX11_init_171 rfl rfl rfl ?_
  refine e_dup dX11_init_174 rfl ?_
  refine k_initPN (As := []) (rest := [.ref (n0 + 38), .int 3, .ref (n0 + 1)]) (b := 38) (mc := 1) (ms := 60) (kc := 8) (ks := 256) (bs := (.inr (11, (o11_19 n0)) :: [(.inl (.object RX9, (8, .inr (.inr (.inr (.inr (va_up (va_up (va_up (fun _ => none) 0 (some (n0 + 32))) 1 (some (n0 + 34))) 2 (some (n0 + 36)))))))) : CE), zR RX4 16, zR RX5 8, zR RX1 6, (.inr (2, o2_3 (n0 + 5)) : CE), zI 8, zI 8, (.inr (10, o10_3 (n0 + 8)) : CE), zI 6, (.inr (3, o3_8 (n0 + 10)) : CE), zI 16, zI 8, zI 8, zI 256, zI 2048, (.inr (0, o0_2 (n0 + 16)) : CE), zI 3721, zI 60, (.inr (7, o7_4 (n0 + 19)) : CE), zI 8, zI 9, (.inr (6, o6_9 (n0 + 22)) : CE), zI 8, zI 8, zI 8, zI 9, zI 8, zI 8, zI 4, zI 4, zI 7, (.inr (9, o9_4 (n0 + 32)) : CE), zJ 60, (.inr (9, o9_4 (n0 + 34)) : CE), zJ 60, (.inr (9, o9_4 (n0 + 36)) : CE), zJ 60])) okX9_init (by decide) imX11_104 rfl rfl dX11_init_175 rfl rfl (Nat.le_of_ble_eq_true rfl) rfl rfl rfl i_X9 ?_
  refine k_eq (bs' := (.inr (11, (o11_19 n0)) :: [(.inl (.object RX9, (8, .inr (.inr (.inr (.inr (va_up (va_up (va_up (fun _ => none) 0 (some (n0 + 32))) 1 (some (n0 + 34))) 2 (some (n0 + 36)))))))) : CE), zR RX4 16, zR RX5 8, zR RX1 6, (.inr (2, o2_3 (n0 + 5)) : CE), zI 8, zI 8, (.inr (10, o10_3 (n0 + 8)) : CE), zI 6, (.inr (3, o3_8 (n0 + 10)) : CE), zI 16, zI 8, zI 8, zI 256, zI 2048, (.inr (0, o0_2 (n0 + 16)) : CE), zI 3721, zI 60, (.inr (7, o7_4 (n0 + 19)) : CE), zI 8, zI 9, (.inr (6, o6_9 (n0 + 22)) : CE), zI 8, zI 8, zI 8, zI 9, zI 8, zI 8, zI 4, zI 4, zI 7, (.inr (9, o9_4 (n0 + 32)) : CE), zJ 60, (.inr (9, o9_4 (n0 + 34)) : CE), zJ 60, (.inr (9, o9_4 (n0 + 36)) : CE), zJ 60, (.inr (9, o9_4 (n0 + 38)) : CE), zJ 60])) rfl ?_
  refine k_aast (k := 1) (kv := 38) (c := 9) (n := 8) (f := (va_up (va_up (va_up (fun _ => none) 0 (some (n0 + 32))) 1 (some (n0 + 34))) 2 (some (n0 + 36)))) (bs' := (.inr (11, (o11_19 n0)) :: [(.inl (.object RX9, (8, .inr (.inr (.inr (.inr (va_up (va_up (va_up (va_up (fun _ => none) 0 (some (n0 + 32))) 1 (some (n0 + 34))) 2 (some (n0 + 36))) 3 (some (n0 + 38)))))))) : CE), zR RX4 16, zR RX5 8, zR RX1 6, (.inr (2, o2_3 (n0 + 5)) : CE), zI 8, zI 8, (.inr (10, o10_3 (n0 + 8)) : CE), zI 6, (.inr (3, o3_8 (n0 + 10)) : CE), zI 16, zI 8, zI 8, zI 256, zI 2048, (.inr (0, o0_2 (n0 + 16)) : CE), zI 3721, zI 60, (.inr (7, o7_4 (n0 + 19)) : CE), zI 8, zI 9, (.inr (6, o6_9 (n0 + 22)) : CE), zI 8, zI 8, zI 8, zI 9, zI 8, zI 8, zI 4, zI 4, zI 7, (.inr (9, o9_4 (n0 + 32)) : CE), zJ 60, (.inr (9, o9_4 (n0 + 34)) : CE), zJ 60, (.inr (9, o9_4 (n0 + 36)) : CE), zJ 60, (.inr (9, o9_4 (n0 + 38)) : CE), zJ 60])) dX11_init_178 rfl rfl rfl (inb_in (by decide)) rfl ?_
  refine e_iinc (v := 4) (L' := [some (.ref (n0 + 0)), some (.int 4)]) dX11_init_179 rfl (by decide) (by decide) rfl ?_
  refine e_pc (pc' := 182) rfl ?_
  refine e_goto (tgt := 160) dX11_init_182 rfl ?_
  refine e_iload_n dX11_init_160 rfl rfl ?_
  refine e_bipush (v := 8) dX11_init_161 rfl ?_
  refine e_icmp_ge (tgt := 185) dX11_init_163 rfl (fun h => absurd h (by decide)) (fun _ => ?_)
  refine e_aload_n dX11_init_166 rfl rfl ?_
  refine k_get (k := 0) (v := .ref (n0 + 1)) flX11_11 dX11_init_167 rfl rfl ?_
  refine e_iload_n dX11_init_170 rfl rfl ?_
  refine k_new (n := 4) (b := 40) (c := 9) (kc := 7) (ks := 252) rfl rfl clX11_9 itX9 iniX9 dX11_init_171 rfl rfl rfl ?_
  refine e_pc (pc' := 174) rfl ?_
  refine e_dup dX11_init_174 rfl ?_
  refine k_initPN (As := []) (rest := [.ref (n0 + 40), .int 4, .ref (n0 + 1)]) (b := 40) (mc := 1) (ms := 60) (kc := 6) (ks := 192) (bs := (.inr (11, (o11_19 n0)) :: [(.inl (.object RX9, (8, .inr (.inr (.inr (.inr (va_up (va_up (va_up (va_up (fun _ => none) 0 (some (n0 + 32))) 1 (some (n0 + 34))) 2 (some (n0 + 36))) 3 (some (n0 + 38)))))))) : CE), zR RX4 16, zR RX5 8, zR RX1 6, (.inr (2, o2_3 (n0 + 5)) : CE), zI 8, zI 8, (.inr (10, o10_3 (n0 + 8)) : CE), zI 6, (.inr (3, o3_8 (n0 + 10)) : CE), zI 16, zI 8, zI 8, zI 256, zI 2048, (.inr (0, o0_2 (n0 + 16)) : CE), zI 3721, zI 60, (.inr (7, o7_4 (n0 + 19)) : CE), zI 8, zI 9, (.inr (6, o6_9 (n0 + 22)) : CE), zI 8, zI 8, zI 8, zI 9, zI 8, zI 8, zI 4, zI 4, zI 7, (.inr (9, o9_4 (n0 + 32)) : CE), zJ 60, (.inr (9, o9_4 (n0 + 34)) : CE), zJ 60, (.inr (9, o9_4 (n0 + 36)) : CE), zJ 60, (.inr (9, o9_4 (n0 + 38)) : CE), zJ 60])) okX9_init (by decide) imX11_104 rfl rfl dX11_init_175 rfl rfl (Nat.le_of_ble_eq_true rfl) rfl rfl rfl i_X9 ?_
  refine k_eq (bs' := (.inr (11, (o11_19 n0)) :: [(.inl (.object RX9, (8, .inr (.inr (.inr (.inr (va_up (va_up (va_up (va_up (fun _ => none) 0 (some (n0 + 32))) 1 (some (n0 + 34))) 2 (some (n0 + 36))) 3 (some (n0 + 38)))))))) : CE), zR RX4 16, zR RX5 8, zR RX1 6, (.inr (2, o2_3 (n0 + 5)) : CE), zI 8, zI 8, (.inr (10, o10_3 (n0 + 8)) : CE), zI 6, (.inr (3, o3_8 (n0 + 10)) : CE), zI 16, zI 8, zI 8, zI 256, zI 2048, (.inr (0, o0_2 (n0 + 16)) : CE), zI 3721, zI 60, (.inr (7, o7_4 (n0 + 19)) : CE), zI 8, zI 9, (.inr (6, o6_9 (n0 + 22)) : CE), zI 8, zI 8, zI 8, zI 9, zI 8, zI 8, zI 4, zI 4, zI 7, (.inr (9, o9_4 (n0 + 32)) : CE), zJ 60, (.inr (9, o9_4 (n0 + 34)) : CE), zJ 60, (.inr (9, o9_4 (n0 + 36)) : CE), zJ 60, (.inr (9, o9_4 (n0 + 38)) : CE), zJ 60, (.inr (9, o9_4 (n0 + 40)) : CE), zJ 60])) rfl ?_
  refine k_aast (k := 1) (kv := 40) (c := 9) (n := 8) (f := (va_up (va_up (va_up (va_up (fun _ => none) 0 (some (n0 + 32))) 1 (some (n0 + 34))) 2 (some (n0 + 36))) 3 (some (n0 + 38)))) (bs' := (.inr (11, (o11_19 n0)) :: [(.inl (.object RX9, (8, .inr (.inr (.inr (.inr (va_up (va_up (va_up (va_up (va_up (fun _ => none) 0 (some (n0 + 32))) 1 (some (n0 + 34))) 2 (some (n0 + 36))) 3 (some (n0 + 38))) 4 (some (n0 + 40)))))))) : CE), zR RX4 16, zR RX5 8, zR RX1 6, (.inr (2, o2_3 (n0 + 5)) : CE), zI 8, zI 8, (.inr (10, o10_3 (n0 + 8)) : CE), zI 6, (.inr (3, o3_8 (n0 + 10)) : CE), zI 16, zI 8, zI 8, zI 256, zI 2048, (.inr (0, o0_2 (n0 + 16)) : CE), zI 3721, zI 60, (.inr (7, o7_4 (n0 + 19)) : CE), zI 8, zI 9, (.inr (6, o6_9 (n0 + 22)) : CE), zI 8, zI 8, zI 8, zI 9, zI 8, zI 8, zI 4, zI 4, zI 7, (.inr (9, o9_4 (n0 + 32)) : CE), zJ 60, (.inr (9, o9_4 (n0 + 34)) : CE), zJ 60, (.inr (9, o9_4 (n0 + 36)) : CE), zJ 60, (.inr (9, o9_4 (n0 + 38)) : CE), zJ 60, (.inr (9, o9_4 (n0 + 40)) : CE), zJ 60])) dX11_init_178 rfl rfl rfl (inb_in (by decide)) rfl ?_
  refine e_iinc (v := 5) (L' := [some (.ref (n0 + 0)), some (.int 5)]) dX11_init_179 rfl (by decide) (by decide) rfl ?_
  refine e_goto (tgt := 160) dX11_init_182 rfl ?_
  refine e_iload_n dX11_init_160 rfl rfl ?_
  refine e_bipush (v := 8) dX11_init_161 rfl ?_
  refine e_icmp_ge (tgt := 185) dX11_init_163 rfl (fun h => absurd h (by decide)) (fun _ => ?_)
  refine e_pc (pc' := 166) rfl ?_
  refine e_aload_n dX11_init_166 rfl rfl ?_
  refine k_get (k := 0) (v := .ref (n0 + 1)) flX11_11 dX11_init_167 rfl rfl ?_
  refine e_iload_n dX11_init_170 rfl rfl ?_
  refine k_new (n := 4) (b := 42) (c := 9) (kc := 5) (ks := 188) rfl rfl clX11_9 itX9 iniX9 dX11_init_171 rfl rfl rfl ?_
  refine e_dup dX11_init_174 rfl ?_
  refine k_initPN (As := []) (rest := [.ref (n0 + 42), .int 5, .ref (n0 + 1)]) (b := 42) (mc := 1) (ms := 60) (kc := 4) (ks := 128) (bs := (.inr (11, (o11_19 n0)) :: [(.inl (.object RX9, (8, .inr (.inr (.inr (.inr (va_up (va_up (va_up (va_up (va_up (fun _ => none) 0 (some (n0 + 32))) 1 (some (n0 + 34))) 2 (some (n0 + 36))) 3 (some (n0 + 38))) 4 (some (n0 + 40)))))))) : CE), zR RX4 16, zR RX5 8, zR RX1 6, (.inr (2, o2_3 (n0 + 5)) : CE), zI 8, zI 8, (.inr (10, o10_3 (n0 + 8)) : CE), zI 6, (.inr (3, o3_8 (n0 + 10)) : CE), zI 16, zI 8, zI 8, zI 256, zI 2048, (.inr (0, o0_2 (n0 + 16)) : CE), zI 3721, zI 60, (.inr (7, o7_4 (n0 + 19)) : CE), zI 8, zI 9, (.inr (6, o6_9 (n0 + 22)) : CE), zI 8, zI 8, zI 8, zI 9, zI 8, zI 8, zI 4, zI 4, zI 7, (.inr (9, o9_4 (n0 + 32)) : CE), zJ 60, (.inr (9, o9_4 (n0 + 34)) : CE), zJ 60, (.inr (9, o9_4 (n0 + 36)) : CE), zJ 60, (.inr (9, o9_4 (n0 + 38)) : CE), zJ 60, (.inr (9, o9_4 (n0 + 40)) : CE), zJ 60])) okX9_init (by decide) imX11_104 rfl rfl dX11_init_175 rfl rfl (Nat.le_of_ble_eq_true rfl) rfl rfl rfl i_X9 ?_
  refine k_eq (bs' := (.inr (11, (o11_19 n0)) :: [(.inl (.object RX9, (8, .inr (.inr (.inr (.inr (va_up (va_up (va_up (va_up (va_up (fun _ => none) 0 (some (n0 + 32))) 1 (some (n0 + 34))) 2 (some (n0 + 36))) 3 (some (n0 + 38))) 4 (some (n0 + 40)))))))) : CE), zR RX4 16, zR RX5 8, zR RX1 6, (.inr (2, o2_3 (n0 + 5)) : CE), zI 8, zI 8, (.inr (10, o10_3 (n0 + 8)) : CE), zI 6, (.inr (3, o3_8 (n0 + 10)) : CE), zI 16, zI 8, zI 8, zI 256, zI 2048, (.inr (0, o0_2 (n0 + 16)) : CE), zI 3721, zI 60, (.inr (7, o7_4 (n0 + 19)) : CE), zI 8, zI 9, (.inr (6, o6_9 (n0 + 22)) : CE), zI 8, zI 8, zI 8, zI 9, zI 8, zI 8, zI 4, zI 4, zI 7, (.inr (9, o9_4 (n0 + 32)) : CE), zJ 60, (.inr (9, o9_4 (n0 + 34)) : CE), zJ 60, (.inr (9, o9_4 (n0 + 36)) : CE), zJ 60, (.inr (9, o9_4 (n0 + 38)) : CE), zJ 60, (.inr (9, o9_4 (n0 + 40)) : CE), zJ 60, (.inr (9, o9_4 (n0 + 42)) : CE), zJ 60])) rfl ?_
  refine k_aast (k := 1) (kv := 42) (c := 9) (n := 8) (f := (va_up (va_up (va_up (va_up (va_up (fun _ => none) 0 (some (n0 + 32))) 1 (some (n0 + 34))) 2 (some (n0 + 36))) 3 (some (n0 + 38))) 4 (some (n0 + 40)))) (bs' := (.inr (11, (o11_19 n0)) :: [(.inl (.object RX9, (8, .inr (.inr (.inr (.inr (va_up (va_up (va_up (va_up (va_up (va_up (fun _ => none) 0 (some (n0 + 32))) 1 (some (n0 + 34))) 2 (some (n0 + 36))) 3 (some (n0 + 38))) 4 (some (n0 + 40))) 5 (some (n0 + 42)))))))) : CE), zR RX4 16, zR RX5 8, zR RX1 6, (.inr (2, o2_3 (n0 + 5)) : CE), zI 8, zI 8, (.inr (10, o10_3 (n0 + 8)) : CE), zI 6, (.inr (3, o3_8 (n0 + 10)) : CE), zI 16, zI 8, zI 8, zI 256, zI 2048, (.inr (0, o0_2 (n0 + 16)) : CE), zI 3721, zI 60, (.inr (7, o7_4 (n0 + 19)) : CE), zI 8, zI 9, (.inr (6, o6_9 (n0 + 22)) : CE), zI 8, zI 8, zI 8, zI 9, zI 8, zI 8, zI 4, zI 4, zI 7, (.inr (9, o9_4 (n0 + 32)) : CE), zJ 60, (.inr (9, o9_4 (n0 + 34)) : CE), zJ 60, (.inr (9, o9_4 (n0 + 36)) : CE), zJ 60, (.inr (9, o9_4 (n0 + 38)) : CE), zJ 60, (.inr (9, o9_4 (n0 + 40)) : CE), zJ 60, (.inr (9, o9_4 (n0 + 42)) : CE), zJ 60])) dX11_init_178 rfl rfl rfl (inb_in (by decide)) rfl ?_
  refine e_iinc (v := 6) (L' := [some (.ref (n0 + 0)), some (.int 6)]) dX11_init_179 rfl (by decide) (by decide) rfl ?_
  refine e_pc (pc' := 182) rfl ?_
  refine e_goto (tgt := 160) dX11_init_182 rfl ?_
  refine e_iload_n dX11_init_160 rfl rfl ?_
  refine e_bipush (v := 8) dX11_init_161 rfl ?_
  refine e_icmp_ge (tgt := 185) dX11_init_163 rfl (fun h => absurd h (by decide)) (fun _ => ?_)
  refine e_aload_n dX11_init_166 rfl rfl ?_
  refine k_get (k := 0) (v := .ref (n0 + 1)) flX11_11 dX11_init_167 rfl rfl ?_
  refine e_iload_n dX11_init_170 rfl rfl ?_
  refine k_new (n := 4) (b := 44) (c := 9) (kc := 3) (ks := 124) rfl rfl clX11_9 itX9 iniX9 dX11_init_171 rfl rfl rfl ?_
  refine e_pc (pc' := 174) rfl ?_
  refine e_dup dX11_init_174 rfl ?_
  refine k_initPN (As := []) (rest := [.ref (n0 + 44), .int 6, .ref (n0 + 1)]) (b := 44) (mc := 1) (ms := 60) (kc := 2) (ks := 64) (bs := (.inr (11, (o11_19 n0)) :: [(.inl (.object RX9, (8, .inr (.inr (.inr (.inr (va_up (va_up (va_up (va_up (va_up (va_up (fun _ => none) 0 (some (n0 + 32))) 1 (some (n0 + 34))) 2 (some (n0 + 36))) 3 (some (n0 + 38))) 4 (some (n0 + 40))) 5 (some (n0 + 42)))))))) : CE), zR RX4 16, zR RX5 8, zR RX1 6, (.inr (2, o2_3 (n0 + 5)) : CE), zI 8, zI 8, (.inr (10, o10_3 (n0 + 8)) : CE), zI 6, (.inr (3, o3_8 (n0 + 10)) : CE), zI 16, zI 8, zI 8, zI 256, zI 2048, (.inr (0, o0_2 (n0 + 16)) : CE), zI 3721, zI 60, (.inr (7, o7_4 (n0 + 19)) : CE), zI 8, zI 9, (.inr (6, o6_9 (n0 + 22)) : CE), zI 8, zI 8, zI 8, zI 9, zI 8, zI 8, zI 4, zI 4, zI 7, (.inr (9, o9_4 (n0 + 32)) : CE), zJ 60, (.inr (9, o9_4 (n0 + 34)) : CE), zJ 60, (.inr (9, o9_4 (n0 + 36)) : CE), zJ 60, (.inr (9, o9_4 (n0 + 38)) : CE), zJ 60, (.inr (9, o9_4 (n0 + 40)) : CE), zJ 60, (.inr (9, o9_4 (n0 + 42)) : CE), zJ 60])) okX9_init (by decide) imX11_104 rfl rfl dX11_init_175 rfl rfl (Nat.le_of_ble_eq_true rfl) rfl rfl rfl i_X9 ?_
  refine k_eq (bs' := (.inr (11, (o11_19 n0)) :: [(.inl (.object RX9, (8, .inr (.inr (.inr (.inr (va_up (va_up (va_up (va_up (va_up (va_up (fun _ => none) 0 (some (n0 + 32))) 1 (some (n0 + 34))) 2 (some (n0 + 36))) 3 (some (n0 + 38))) 4 (some (n0 + 40))) 5 (some (n0 + 42)))))))) : CE), zR RX4 16, zR RX5 8, zR RX1 6, (.inr (2, o2_3 (n0 + 5)) : CE), zI 8, zI 8, (.inr (10, o10_3 (n0 + 8)) : CE), zI 6, (.inr (3, o3_8 (n0 + 10)) : CE), zI 16, zI 8, zI 8, zI 256, zI 2048, (.inr (0, o0_2 (n0 + 16)) : CE), zI 3721, zI 60, (.inr (7, o7_4 (n0 + 19)) : CE), zI 8, zI 9, (.inr (6, o6_9 (n0 + 22)) : CE), zI 8, zI 8, zI 8, zI 9, zI 8, zI 8, zI 4, zI 4, zI 7, (.inr (9, o9_4 (n0 + 32)) : CE), zJ 60, (.inr (9, o9_4 (n0 + 34)) : CE), zJ 60, (.inr (9, o9_4 (n0 + 36)) : CE), zJ 60, (.inr (9, o9_4 (n0 + 38)) : CE), zJ 60, (.inr (9, o9_4 (n0 + 40)) : CE), zJ 60, (.inr (9, o9_4 (n0 + 42)) : CE), zJ 60, (.inr (9, o9_4 (n0 + 44)) : CE), zJ 60])) rfl ?_
  refine k_aast (k := 1) (kv := 44) (c := 9) (n := 8) (f := (va_up (va_up (va_up (va_up (va_up (va_up (fun _ => none) 0 (some (n0 + 32))) 1 (some (n0 + 34))) 2 (some (n0 + 36))) 3 (some (n0 + 38))) 4 (some (n0 + 40))) 5 (some (n0 + 42)))) (bs' := (.inr (11, (o11_19 n0)) :: [(.inl (.object RX9, (8, .inr (.inr (.inr (.inr (va_up (va_up (va_up (va_up (va_up (va_up (va_up (fun _ => none) 0 (some (n0 + 32))) 1 (some (n0 + 34))) 2 (some (n0 + 36))) 3 (some (n0 + 38))) 4 (some (n0 + 40))) 5 (some (n0 + 42))) 6 (some (n0 + 44)))))))) : CE), zR RX4 16, zR RX5 8, zR RX1 6, (.inr (2, o2_3 (n0 + 5)) : CE), zI 8, zI 8, (.inr (10, o10_3 (n0 + 8)) : CE), zI 6, (.inr (3, o3_8 (n0 + 10)) : CE), zI 16, zI 8, zI 8, zI 256, zI 2048, (.inr (0, o0_2 (n0 + 16)) : CE), zI 3721, zI 60, (.inr (7, o7_4 (n0 + 19)) : CE), zI 8, zI 9, (.inr (6, o6_9 (n0 + 22)) : CE), zI 8, zI 8, zI 8, zI 9, zI 8, zI 8, zI 4, zI 4, zI 7, (.inr (9, o9_4 (n0 + 32)) : CE), zJ 60, (.inr (9, o9_4 (n0 + 34)) : CE), zJ 60, (.inr (9, o9_4 (n0 + 36)) : CE), zJ 60, (.inr (9, o9_4 (n0 + 38)) : CE), zJ 60, (.inr (9, o9_4 (n0 + 40)) : CE), zJ 60, (.inr (9, o9_4 (n0 + 42)) : CE), zJ 60, (.inr (9, o9_4 (n0 + 44)) : CE), zJ 60])) dX11_init_178 rfl rfl rfl (inb_in (by decide)) rfl ?_
  refine e_iinc (v := 7) (L' := [some (.ref (n0 + 0)), some (.int 7)]) dX11_init_179 rfl (by decide) (by decide) rfl ?_
  refine e_goto (tgt := 160) dX11_init_182 rfl ?_
  refine e_iload_n dX11_init_160 rfl rfl ?_
  refine e_bipush (v := 8) dX11_init_161 rfl ?_
  refine e_icmp_ge (tgt := 185) dX11_init_163 rfl (fun h => absurd h (by decide)) (fun _ => ?_)
  refine e_pc (pc' := 166) rfl ?_
  refine e_aload_n dX11_init_166 rfl rfl ?_
  refine k_get (k := 0) (v := .ref (n0 + 1)) flX11_11 dX11_init_167 rfl rfl ?_
  refine e_iload_n dX11_init_170 rfl rfl ?_
  refine k_new (n := 4) (b := 46) (c := 9) (kc := 1) (ks := 60) rfl rfl clX11_9 itX9 iniX9 dX11_init_171 rfl rfl rfl ?_
  refine e_dup dX11_init_174 rfl ?_
  refine k_initPN (As := []) (rest := [.ref (n0 + 46), .int 7, .ref (n0 + 1)]) (b := 46) (mc := 1) (ms := 60) (kc := 0) (ks := 0) (bs := (.inr (11, (o11_19 n0)) :: [(.inl (.object RX9, (8, .inr (.inr (.inr (.inr (va_up (va_up (va_up (va_up (va_up (va_up (va_up (fun _ => none) 0 (some (n0 + 32))) 1 (some (n0 + 34))) 2 (some (n0 + 36))) 3 (some (n0 + 38))) 4 (some (n0 + 40))) 5 (some (n0 + 42))) 6 (some (n0 + 44)))))))) : CE), zR RX4 16, zR RX5 8, zR RX1 6, (.inr (2, o2_3 (n0 + 5)) : CE), zI 8, zI 8, (.inr (10, o10_3 (n0 + 8)) : CE), zI 6, (.inr (3, o3_8 (n0 + 10)) : CE), zI 16, zI 8, zI 8, zI 256, zI 2048, (.inr (0, o0_2 (n0 + 16)) : CE), zI 3721, zI 60, (.inr (7, o7_4 (n0 + 19)) : CE), zI 8, zI 9, (.inr (6, o6_9 (n0 + 22)) : CE), zI 8, zI 8, zI 8, zI 9, zI 8, zI 8, zI 4, zI 4, zI 7, (.inr (9, o9_4 (n0 + 32)) : CE), zJ 60, (.inr (9, o9_4 (n0 + 34)) : CE), zJ 60, (.inr (9, o9_4 (n0 + 36)) : CE), zJ 60, (.inr (9, o9_4 (n0 + 38)) : CE), zJ 60, (.inr (9, o9_4 (n0 + 40)) : CE), zJ 60, (.inr (9, o9_4 (n0 + 42)) : CE), zJ 60, (.inr (9, o9_4 (n0 + 44)) : CE), zJ 60])) okX9_init (by decide) imX11_104 rfl rfl dX11_init_175 rfl rfl (Nat.le_of_ble_eq_true rfl) rfl rfl rfl i_X9 ?_
  refine k_eq (bs' := (.inr (11, (o11_19 n0)) :: [(.inl (.object RX9, (8, .inr (.inr (.inr (.inr (va_up (va_up (va_up (va_up (va_up (va_up (va_up (fun _ => none) 0 (some (n0 + 32))) 1 (some (n0 + 34))) 2 (some (n0 + 36))) 3 (some (n0 + 38))) 4 (some (n0 + 40))) 5 (some (n0 + 42))) 6 (some (n0 + 44)))))))) : CE), zR RX4 16, zR RX5 8, zR RX1 6, (.inr (2, o2_3 (n0 + 5)) : CE), zI 8, zI 8, (.inr (10, o10_3 (n0 + 8)) : CE), zI 6, (.inr (3, o3_8 (n0 + 10)) : CE), zI 16, zI 8, zI 8, zI 256, zI 2048, (.inr (0, o0_2 (n0 + 16)) : CE), zI 3721, zI 60, (.inr (7, o7_4 (n0 + 19)) : CE), zI 8, zI 9, (.inr (6, o6_9 (n0 + 22)) : CE), zI 8, zI 8, zI 8, zI 9, zI 8, zI 8, zI 4, zI 4, zI 7, (.inr (9, o9_4 (n0 + 32)) : CE), zJ 60, (.inr (9, o9_4 (n0 + 34)) : CE), zJ 60, (.inr (9, o9_4 (n0 + 36)) : CE), zJ 60, (.inr (9, o9_4 (n0 + 38)) : CE), zJ 60, (.inr (9, o9_4 (n0 + 40)) : CE), zJ 60, (.inr (9, o9_4 (n0 + 42)) : CE), zJ 60, (.inr (9, o9_4 (n0 + 44)) : CE), zJ 60, (.inr (9, o9_4 (n0 + 46)) : CE), zJ 60])) rfl ?_
  refine k_aast (k := 1) (kv := 46) (c := 9) (n := 8) (f := (va_up (va_up (va_up (va_up (va_up (va_up (va_up (fun _ => none) 0 (some (n0 + 32))) 1 (some (n0 + 34))) 2 (some (n0 + 36))) 3 (some (n0 + 38))) 4 (some (n0 + 40))) 5 (some (n0 + 42))) 6 (some (n0 + 44)))) (bs' := (.inr (11, (o11_19 n0)) :: [(.inl (.object RX9, (8, .inr (.inr (.inr (.inr (va_up (va_up (va_up (va_up (va_up (va_up (va_up (va_up (fun _ => none) 0 (some (n0 + 32))) 1 (some (n0 + 34))) 2 (some (n0 + 36))) 3 (some (n0 + 38))) 4 (some (n0 + 40))) 5 (some (n0 + 42))) 6 (some (n0 + 44))) 7 (some (n0 + 46)))))))) : CE), zR RX4 16, zR RX5 8, zR RX1 6, (.inr (2, o2_3 (n0 + 5)) : CE), zI 8, zI 8, (.inr (10, o10_3 (n0 + 8)) : CE), zI 6, (.inr (3, o3_8 (n0 + 10)) : CE), zI 16, zI 8, zI 8, zI 256, zI 2048, (.inr (0, o0_2 (n0 + 16)) : CE), zI 3721, zI 60, (.inr (7, o7_4 (n0 + 19)) : CE), zI 8, zI 9, (.inr (6, o6_9 (n0 + 22)) : CE), zI 8, zI 8, zI 8, zI 9, zI 8, zI 8, zI 4, zI 4, zI 7, (.inr (9, o9_4 (n0 + 32)) : CE), zJ 60, (.inr (9, o9_4 (n0 + 34)) : CE), zJ 60, (.inr (9, o9_4 (n0 + 36)) : CE), zJ 60, (.inr (9, o9_4 (n0 + 38)) : CE), zJ 60, (.inr (9, o9_4 (n0 + 40)) : CE), zJ 60, (.inr (9, o9_4 (n0 + 42)) : CE), zJ 60, (.inr (9, o9_4 (n0 + 44)) : CE), zJ 60, (.inr (9, o9_4 (n0 + 46)) : CE), zJ 60])) dX11_init_178 rfl rfl rfl (inb_in (by decide)) rfl ?_
  refine e_iinc (v := 8) (L' := [some (.ref (n0 + 0)), some (.int 8)]) dX11_init_179 rfl (by decide) (by decide) rfl ?_
  refine e_pc (pc' := 182) rfl ?_
  refine e_goto (tgt := 160) dX11_init_182 rfl ?_
  refine e_iload_n dX11_init_160 rfl rfl ?_
  refine e_bipush (v := 8) dX11_init_161 rfl ?_
  refine e_icmp_ge (tgt := 185) dX11_init_163 rfl (fun _ => ?_) (fun h => absurd (by decide) h)
  refine e_iconst (v := 0) dX11_init_185 rfl ?_
  refine e_istore_n (L' := [some (.ref (n0 + 0)), some (.int 0)]) dX11_init_186 rfl (by decide) rfl ?_
  refine e_iload_n dX11_init_187 rfl rfl ?_
  refine e_iconst (v := 4) dX11_init_188 rfl ?_
  refine e_pc (pc' := 189) rfl ?_
  refine e_icmp_ge (tgt := 206) dX11_init_189 rfl (fun h => absurd h (by decide)) (fun _ => ?_)
  refine e_aload_n dX11_init_192 rfl rfl ?_
  refine k_get (k := 0) (v := .ref (n0 + 29)) flX11_75 dX11_init_193 rfl rfl ?_
  refine e_iload_n dX11_init_196 rfl rfl ?_
  refine e_bipush (v := 9) dX11_init_197 rfl ?_
  refine k_iast (k := 29) (n := 4) (f := (fun _ => 0)) (bs' := (.inr (11, (o11_19 n0)) :: [(.inl (.object RX9, (8, .inr (.inr (.inr (.inr (va_up (va_up (va_up (va_up (va_up (va_up (va_up (va_up (fun _ => none) 0 (some (n0 + 32))) 1 (some (n0 + 34))) 2 (some (n0 + 36))) 3 (some (n0 + 38))) 4 (some (n0 + 40))) 5 (some (n0 + 42))) 6 (some (n0 + 44))) 7 (some (n0 + 46)))))))) : CE), zR RX4 16, zR RX5 8, zR RX1 6, (.inr (2, o2_3 (n0 + 5)) : CE), zI 8, zI 8, (.inr (10, o10_3 (n0 + 8)) : CE), zI 6, (.inr (3, o3_8 (n0 + 10)) : CE), zI 16, zI 8, zI 8, zI 256, zI 2048, (.inr (0, o0_2 (n0 + 16)) : CE), zI 3721, zI 60, (.inr (7, o7_4 (n0 + 19)) : CE), zI 8, zI 9, (.inr (6, o6_9 (n0 + 22)) : CE), zI 8, zI 8, zI 8, zI 9, zI 8, zI 8, (.inl (.int, (4, .inl (upd (fun _ => 0) 0 9))) : CE), zI 4, zI 7, (.inr (9, o9_4 (n0 + 32)) : CE), zJ 60, (.inr (9, o9_4 (n0 + 34)) : CE), zJ 60, (.inr (9, o9_4 (n0 + 36)) : CE), zJ 60, (.inr (9, o9_4 (n0 + 38)) : CE), zJ 60, (.inr (9, o9_4 (n0 + 40)) : CE), zJ 60, (.inr (9, o9_4 (n0 + 42)) : CE), zJ 60, (.inr (9, o9_4 (n0 + 44)) : CE), zJ 60, (.inr (9, o9_4 (n0 + 46)) : CE), zJ 60])) dX11_init_199 rfl (inb_in (by decide)) rfl ?_
  refine e_iinc (v := 1) (L' := [some (.ref (n0 + 0)), some (.int 1)]) dX11_init_200 rfl (by decide) (by decide) rfl ?_
  refine e_goto (tgt := 187) dX11_init_203 rfl ?_
  refine e_pc (pc' := 187) rfl ?_
  refine e_iload_n dX11_init_187 rfl rfl ?_
  refine e_iconst (v := 4) dX11_init_188 rfl ?_
  refine e_icmp_ge (tgt := 206) dX11_init_189 rfl (fun h => absurd h (by decide)) (fun _ => ?_)
  refine e_aload_n dX11_init_192 rfl rfl ?_
  refine k_get (k := 0) (v := .ref (n0 + 29)) flX11_75 dX11_init_193 rfl rfl ?_
  refine e_iload_n dX11_init_196 rfl rfl ?_
  refine e_bipush (v := 9) dX11_init_197 rfl ?_
  refine k_iast (k := 29) (n := 4) (f := (upd (fun _ => 0) 0 9)) (bs' := (.inr (11, (o11_19 n0)) :: [(.inl (.object RX9, (8, .inr (.inr (.inr (.inr (va_up (va_up (va_up (va_up (va_up (va_up (va_up (va_up (fun _ => none) 0 (some (n0 + 32))) 1 (some (n0 + 34))) 2 (some (n0 + 36))) 3 (some (n0 + 38))) 4 (some (n0 + 40))) 5 (some (n0 + 42))) 6 (some (n0 + 44))) 7 (some (n0 + 46)))))))) : CE), zR RX4 16, zR RX5 8, zR RX1 6, (.inr (2, o2_3 (n0 + 5)) : CE), zI 8, zI 8, (.inr (10, o10_3 (n0 + 8)) : CE), zI 6, (.inr (3, o3_8 (n0 + 10)) : CE), zI 16, zI 8, zI 8, zI 256, zI 2048, (.inr (0, o0_2 (n0 + 16)) : CE), zI 3721, zI 60, (.inr (7, o7_4 (n0 + 19)) : CE), zI 8, zI 9, (.inr (6, o6_9 (n0 + 22)) : CE), zI 8, zI 8, zI 8, zI 9, zI 8, zI 8, (.inl (.int, (4, .inl (upd (upd (fun _ => 0) 0 9) 1 9))) : CE), zI 4, zI 7, (.inr (9, o9_4 (n0 + 32)) : CE), zJ 60, (.inr (9, o9_4 (n0 + 34)) : CE), zJ 60, (.inr (9, o9_4 (n0 + 36)) : CE), zJ 60, (.inr (9, o9_4 (n0 + 38)) : CE), zJ 60, (.inr (9, o9_4 (n0 + 40)) : CE), zJ 60, (.inr (9, o9_4 (n0 + 42)) : CE), zJ 60, (.inr (9, o9_4 (n0 + 44)) : CE), zJ 60, (.inr (9, o9_4 (n0 + 46)) : CE), zJ 60])) dX11_init_199 rfl (inb_in (by decide)) rfl ?_
  refine e_pc (pc' := 200) rfl ?_
  refine e_iinc (v := 2) (L' := [some (.ref (n0 + 0)), some (.int 2)]) dX11_init_200 rfl (by decide) (by decide) rfl ?_
  refine e_goto (tgt := 187) dX11_init_203 rfl ?_
  refine e_iload_n dX11_init_187 rfl rfl ?_
  refine e_iconst (v := 4) dX11_init_188 rfl ?_
  refine e_icmp_ge (tgt := 206) dX11_init_189 rfl (fun h => absurd h (by decide)) (fun _ => ?_)
  refine e_aload_n dX11_init_192 rfl rfl ?_
  refine k_get (k := 0) (v := .ref (n0 + 29)) flX11_75 dX11_init_193 rfl rfl ?_
  refine e_iload_n dX11_init_196 rfl rfl ?_
  refine e_pc (pc' := 197) rfl ?_
  refine e_bipush (v := 9) dX11_init_197 rfl ?_
  refine k_iast (k := 29) (n := 4) (f := (upd (upd (fun _ => 0) 0 9) 1 9)) (bs' := (.inr (11, (o11_19 n0)) :: [(.inl (.object RX9, (8, .inr (.inr (.inr (.inr (va_up (va_up (va_up (va_up (va_up (va_up (va_up (va_up (fun _ => none) 0 (some (n0 + 32))) 1 (some (n0 + 34))) 2 (some (n0 + 36))) 3 (some (n0 + 38))) 4 (some (n0 + 40))) 5 (some (n0 + 42))) 6 (some (n0 + 44))) 7 (some (n0 + 46)))))))) : CE), zR RX4 16, zR RX5 8, zR RX1 6, (.inr (2, o2_3 (n0 + 5)) : CE), zI 8, zI 8, (.inr (10, o10_3 (n0 + 8)) : CE), zI 6, (.inr (3, o3_8 (n0 + 10)) : CE), zI 16, zI 8, zI 8, zI 256, zI 2048, (.inr (0, o0_2 (n0 + 16)) : CE), zI 3721, zI 60, (.inr (7, o7_4 (n0 + 19)) : CE), zI 8, zI 9, (.inr (6, o6_9 (n0 + 22)) : CE), zI 8, zI 8, zI 8, zI 9, zI 8, zI 8, (.inl (.int, (4, .inl (upd (upd (upd (fun _ => 0) 0 9) 1 9) 2 9))) : CE), zI 4, zI 7, (.inr (9, o9_4 (n0 + 32)) : CE), zJ 60, (.inr (9, o9_4 (n0 + 34)) : CE), zJ 60, (.inr (9, o9_4 (n0 + 36)) : CE), zJ 60, (.inr (9, o9_4 (n0 + 38)) : CE), zJ 60, (.inr (9, o9_4 (n0 + 40)) : CE), zJ 60, (.inr (9, o9_4 (n0 + 42)) : CE), zJ 60, (.inr (9, o9_4 (n0 + 44)) : CE), zJ 60, (.inr (9, o9_4 (n0 + 46)) : CE), zJ 60])) dX11_init_199 rfl (inb_in (by decide)) rfl ?_
  refine e_iinc (v := 3) (L' := [some (.ref (n0 + 0)), some (.int 3)]) dX11_init_200 rfl (by decide) (by decide) rfl ?_
  refine e_goto (tgt := 187) dX11_init_203 rfl ?_
  refine e_iload_n dX11_init_187 rfl rfl ?_
  refine e_iconst (v := 4) dX11_init_188 rfl ?_
  refine e_icmp_ge (tgt := 206) dX11_init_189 rfl (fun h => absurd h (by decide)) (fun _ => ?_)
  refine e_aload_n dX11_init_192 rfl rfl ?_
  refine e_pc (pc' := 193) rfl ?_
  refine k_get (k := 0) (v := .ref (n0 + 29)) flX11_75 dX11_init_193 rfl rfl ?_
  refine e_iload_n dX11_init_196 rfl rfl ?_
  refine e_bipush (v := 9) dX11_init_197 rfl ?_
  refine k_iast (k := 29) (n := 4) (f := (upd (upd (upd (fun _ => 0) 0 9) 1 9) 2 9)) (bs' := (.inr (11, (o11_19 n0)) :: [(.inl (.object RX9, (8, .inr (.inr (.inr (.inr (va_up (va_up (va_up (va_up (va_up (va_up (va_up (va_up (fun _ => none) 0 (some (n0 + 32))) 1 (some (n0 + 34))) 2 (some (n0 + 36))) 3 (some (n0 + 38))) 4 (some (n0 + 40))) 5 (some (n0 + 42))) 6 (some (n0 + 44))) 7 (some (n0 + 46)))))))) : CE), zR RX4 16, zR RX5 8, zR RX1 6, (.inr (2, o2_3 (n0 + 5)) : CE), zI 8, zI 8, (.inr (10, o10_3 (n0 + 8)) : CE), zI 6, (.inr (3, o3_8 (n0 + 10)) : CE), zI 16, zI 8, zI 8, zI 256, zI 2048, (.inr (0, o0_2 (n0 + 16)) : CE), zI 3721, zI 60, (.inr (7, o7_4 (n0 + 19)) : CE), zI 8, zI 9, (.inr (6, o6_9 (n0 + 22)) : CE), zI 8, zI 8, zI 8, zI 9, zI 8, zI 8, (.inl (.int, (4, .inl (upd (upd (upd (upd (fun _ => 0) 0 9) 1 9) 2 9) 3 9))) : CE), zI 4, zI 7, (.inr (9, o9_4 (n0 + 32)) : CE), zJ 60, (.inr (9, o9_4 (n0 + 34)) : CE), zJ 60, (.inr (9, o9_4 (n0 + 36)) : CE), zJ 60, (.inr (9, o9_4 (n0 + 38)) : CE), zJ 60, (.inr (9, o9_4 (n0 + 40)) : CE), zJ 60, (.inr (9, o9_4 (n0 + 42)) : CE), zJ 60, (.inr (9, o9_4 (n0 + 44)) : CE), zJ 60, (.inr (9, o9_4 (n0 + 46)) : CE), zJ 60])) dX11_init_199 rfl (inb_in (by decide)) rfl ?_
  refine e_iinc (v := 4) (L' := [some (.ref (n0 + 0)), some (.int 4)]) dX11_init_200 rfl (by decide) (by decide) rfl ?_
  refine e_goto (tgt := 187) dX11_init_203 rfl ?_
  refine e_iload_n dX11_init_187 rfl rfl ?_
  refine e_iconst (v := 4) dX11_init_188 rfl ?_
  refine e_pc (pc' := 189) rfl ?_
  refine e_icmp_ge (tgt := 206) dX11_init_189 rfl (fun _ => ?_) (fun h => absurd (by decide) h)
  exact k_ret dX11_init_206 rfl rfl
