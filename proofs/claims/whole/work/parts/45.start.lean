theorem tg1 {w : Cond} (i : Nat) (h : tables_1_1[i]? = some w) : w ∈ lw_tbl := List.mem_append_right _ (List.mem_append_left _ (List.mem_of_getElem? h))
theorem tg2 {w : Cond} (i : Nat) (h : tables_1_2[i]? = some w) : w ∈ lw_tbl := List.mem_append_right _ (List.mem_append_right _ (List.mem_append_left _ (List.mem_of_getElem? h)))
theorem tg3 {w : Cond} (i : Nat) (h : tables_1_3[i]? = some w) : w ∈ lw_tbl := List.mem_append_right _ (List.mem_append_right _ (List.mem_append_right _ (List.mem_append_left _ (List.mem_of_getElem? h))))
theorem tg4 {w : Cond} (i : Nat) (h : tables_1_4[i]? = some w) : w ∈ lw_tbl := List.mem_append_right _ (List.mem_append_right _ (List.mem_append_right _ (List.mem_append_right _ (List.mem_append_left _ (List.mem_of_getElem? h)))))
theorem tg5 {w : Cond} (i : Nat) (h : tables_1_5[i]? = some w) : w ∈ lw_tbl := List.mem_append_right _ (List.mem_append_right _ (List.mem_append_right _ (List.mem_append_right _ (List.mem_append_right _ (List.mem_append_left _ (List.mem_of_getElem? h))))))
theorem tg6 {w : Cond} (i : Nat) (h : tables_1_6[i]? = some w) : w ∈ lw_tbl := List.mem_append_right _ (List.mem_append_right _ (List.mem_append_right _ (List.mem_append_right _ (List.mem_append_right _ (List.mem_append_right _ (List.mem_append_left _ (List.mem_of_getElem? h)))))))
theorem tg7 {w : Cond} (i : Nat) (h : tables_1_7[i]? = some w) : w ∈ lw_tbl := List.mem_append_right _ (List.mem_append_right _ (List.mem_append_right _ (List.mem_append_right _ (List.mem_append_right _ (List.mem_append_right _ (List.mem_append_right _ (List.mem_append_left _ (List.mem_of_getElem? h))))))))
theorem tg8 {w : Cond} (i : Nat) (h : tables_1_8[i]? = some w) : w ∈ lw_tbl := List.mem_append_right _ (List.mem_append_right _ (List.mem_append_right _ (List.mem_append_right _ (List.mem_append_right _ (List.mem_append_right _ (List.mem_append_right _ (List.mem_append_right _ (List.mem_of_getElem? h))))))))
set_option maxRecDepth 100000 in
theorem cls_it : ∀ (c : Nat) (q : vw_C), classes[c]? = some q → Cond.instantiable q.1 q.2.2 ∈ lw_g := by
  intro c q h
  match c, h with
  | 0, h => cases h; exact itX0
  | 1, h => cases h; exact itX1
  | 2, h => cases h; exact itX2
  | 3, h => cases h; exact itX3
  | 4, h => cases h; exact itX4
  | 5, h => cases h; exact itX5
  | 6, h => cases h; exact itX6
  | 7, h => cases h; exact itX7
  | 8, h => cases h; exact itX8
  | 9, h => cases h; exact itX9
  | 10, h => cases h; exact itX10
  | 11, h => cases h; exact itX11
  | 12, h => cases h; exact itX12
  | c + 13, h => simp [classes] at h
set_option maxRecDepth 100000 in
theorem st_at0 {args : Array Value} {s : State} {A : Nat → Prop} (hts : ∀ w ∈ lw_tbl, w.before args s = true) (hgv : (Jvm.Cond.and given_1 narrow_1).before args s = true) (hA : ∀ a : Nat, a < s.heap.size → ¬ A a) : ∃ t : Nat, va_Z RX11 "KIND_ABOVE" "[I" (.ref t) A s s.heap ∧ va_T .int t 6 (stF [-1, 0, 1, 0, 3, 0]) A s s.heap := by
  have hs := flat_of_before _ hgv
  have hel : ∀ j : Nat, j < 6 → (Term.elem (.static "StudioYears" "KIND_ABOVE" "[I") (.int (Int32.ofNat j))).eval args s none [] s = some (stF [-1, 0, 1, 0, 3, 0] j) := by
    intro j hj
    rcases (show j = 0 ∨ j = 1 ∨ j = 2 ∨ j = 3 ∨ j = 4 ∨ j = 5 by omega) with rfl | rfl | rfl | rfl | rfl | rfl
    · exact va_eqt (z := -1) (hs (Cond.eq (.elem (.static "StudioYears" "KIND_ABOVE" "[I") (.int 0)) (.int (-1))) (by decide +kernel))
    · exact va_eqt (z := 0) (hs (Cond.eq (.elem (.static "StudioYears" "KIND_ABOVE" "[I") (.int 1)) (.int 0)) (by decide +kernel))
    · exact va_eqt (z := 1) (hs (Cond.eq (.elem (.static "StudioYears" "KIND_ABOVE" "[I") (.int 2)) (.int 1)) (by decide +kernel))
    · exact va_eqt (z := 0) (hs (Cond.eq (.elem (.static "StudioYears" "KIND_ABOVE" "[I") (.int 3)) (.int 0)) (by decide +kernel))
    · exact va_eqt (z := 3) (hs (Cond.eq (.elem (.static "StudioYears" "KIND_ABOVE" "[I") (.int 4)) (.int 3)) (by decide +kernel))
    · exact va_eqt (z := 0) (hs (Cond.eq (.elem (.static "StudioYears" "KIND_ABOVE" "[I") (.int 5)) (.int 0)) (by decide +kernel))
  obtain ⟨t, h1, h2⟩ := va_Tof (tm := (.static "StudioYears" "KIND_ABOVE" "[I")) (ty := .int) (N := 6) (f := stF [-1, 0, 1, 0, 3, 0]) (A := A) (by decide) (hs (Cond.arrayOf (.static "StudioYears" "KIND_ABOVE" "[I") .int) (by decide +kernel)) (va_eqt (z := 6) (hs (Cond.eq (.length (.static "StudioYears" "KIND_ABOVE" "[I")) (.int 6)) (by decide +kernel))) hel hA
  exact ⟨t, va_Zref (hts _ (tg2 148 rfl)) (hts _ (tg1 1 rfl)) h1 hA, h2⟩
set_option maxRecDepth 100000 in
theorem st_at1 {args : Array Value} {s : State} {A : Nat → Prop} (hts : ∀ w ∈ lw_tbl, w.before args s = true) (hgv : (Jvm.Cond.and given_1 narrow_1).before args s = true) (hA : ∀ a : Nat, a < s.heap.size → ¬ A a) : ∃ t : Nat, va_Z RX11 "LETTER_SIGN" "[I" (.ref t) A s s.heap ∧ va_T .int t 6 (stF [119, 115, 114, 112, 108, 121]) A s s.heap := by
  have hs := flat_of_before _ hgv
  have hel : ∀ j : Nat, j < 6 → (Term.elem (.static "StudioYears" "LETTER_SIGN" "[I") (.int (Int32.ofNat j))).eval args s none [] s = some (stF [119, 115, 114, 112, 108, 121] j) := by
    intro j hj
    rcases (show j = 0 ∨ j = 1 ∨ j = 2 ∨ j = 3 ∨ j = 4 ∨ j = 5 by omega) with rfl | rfl | rfl | rfl | rfl | rfl
    · exact va_eqt (z := 119) (hs (Cond.eq (.elem (.static "StudioYears" "LETTER_SIGN" "[I") (.int 0)) (.int 119)) (by decide +kernel))
    · exact va_eqt (z := 115) (hs (Cond.eq (.elem (.static "StudioYears" "LETTER_SIGN" "[I") (.int 1)) (.int 115)) (by decide +kernel))
    · exact va_eqt (z := 114) (hs (Cond.eq (.elem (.static "StudioYears" "LETTER_SIGN" "[I") (.int 2)) (.int 114)) (by decide +kernel))
    · exact va_eqt (z := 112) (hs (Cond.eq (.elem (.static "StudioYears" "LETTER_SIGN" "[I") (.int 3)) (.int 112)) (by decide +kernel))
    · exact va_eqt (z := 108) (hs (Cond.eq (.elem (.static "StudioYears" "LETTER_SIGN" "[I") (.int 4)) (.int 108)) (by decide +kernel))
    · exact va_eqt (z := 121) (hs (Cond.eq (.elem (.static "StudioYears" "LETTER_SIGN" "[I") (.int 5)) (.int 121)) (by decide +kernel))
  obtain ⟨t, h1, h2⟩ := va_Tof (tm := (.static "StudioYears" "LETTER_SIGN" "[I")) (ty := .int) (N := 6) (f := stF [119, 115, 114, 112, 108, 121]) (A := A) (by decide) (hs (Cond.arrayOf (.static "StudioYears" "LETTER_SIGN" "[I") .int) (by decide +kernel)) (va_eqt (z := 6) (hs (Cond.eq (.length (.static "StudioYears" "LETTER_SIGN" "[I")) (.int 6)) (by decide +kernel))) hel hA
  exact ⟨t, va_Zref (hts _ (tg2 189 rfl)) (hts _ (tg1 1 rfl)) h1 hA, h2⟩
set_option maxRecDepth 100000 in
theorem st_at2 {args : Array Value} {s : State} {A : Nat → Prop} (hts : ∀ w ∈ lw_tbl, w.before args s = true) (hgv : (Jvm.Cond.and given_1 narrow_1).before args s = true) (hA : ∀ a : Nat, a < s.heap.size → ¬ A a) : ∃ t : Nat, va_Z RX11 "LETTER_LEAST" "[I" (.ref t) A s s.heap ∧ va_T .int t 6 (stF [0, 0, 0, 0, 0, 1]) A s s.heap := by
  have hs := flat_of_before _ hgv
  have hel : ∀ j : Nat, j < 6 → (Term.elem (.static "StudioYears" "LETTER_LEAST" "[I") (.int (Int32.ofNat j))).eval args s none [] s = some (stF [0, 0, 0, 0, 0, 1] j) := by
    intro j hj
    rcases (show j = 0 ∨ j = 1 ∨ j = 2 ∨ j = 3 ∨ j = 4 ∨ j = 5 by omega) with rfl | rfl | rfl | rfl | rfl | rfl
    · exact va_eqt (z := 0) (hs (Cond.eq (.elem (.static "StudioYears" "LETTER_LEAST" "[I") (.int 0)) (.int 0)) (by decide +kernel))
    · exact va_eqt (z := 0) (hs (Cond.eq (.elem (.static "StudioYears" "LETTER_LEAST" "[I") (.int 1)) (.int 0)) (by decide +kernel))
    · exact va_eqt (z := 0) (hs (Cond.eq (.elem (.static "StudioYears" "LETTER_LEAST" "[I") (.int 2)) (.int 0)) (by decide +kernel))
    · exact va_eqt (z := 0) (hs (Cond.eq (.elem (.static "StudioYears" "LETTER_LEAST" "[I") (.int 3)) (.int 0)) (by decide +kernel))
    · exact va_eqt (z := 0) (hs (Cond.eq (.elem (.static "StudioYears" "LETTER_LEAST" "[I") (.int 4)) (.int 0)) (by decide +kernel))
    · exact va_eqt (z := 1) (hs (Cond.eq (.elem (.static "StudioYears" "LETTER_LEAST" "[I") (.int 5)) (.int 1)) (by decide +kernel))
  obtain ⟨t, h1, h2⟩ := va_Tof (tm := (.static "StudioYears" "LETTER_LEAST" "[I")) (ty := .int) (N := 6) (f := stF [0, 0, 0, 0, 0, 1]) (A := A) (by decide) (hs (Cond.arrayOf (.static "StudioYears" "LETTER_LEAST" "[I") .int) (by decide +kernel)) (va_eqt (z := 6) (hs (Cond.eq (.length (.static "StudioYears" "LETTER_LEAST" "[I")) (.int 6)) (by decide +kernel))) hel hA
  exact ⟨t, va_Zref (hts _ (tg2 177 rfl)) (hts _ (tg1 1 rfl)) h1 hA, h2⟩
set_option maxRecDepth 100000 in
theorem st_at3 {args : Array Value} {s : State} {A : Nat → Prop} (hts : ∀ w ∈ lw_tbl, w.before args s = true) (hgv : (Jvm.Cond.and given_1 narrow_1).before args s = true) (hA : ∀ a : Nat, a < s.heap.size → ¬ A a) : ∃ t : Nat, va_Z RX11 "LETTER_MOST" "[I" (.ref t) A s s.heap ∧ va_T .int t 6 (stF [52, 1, 9, 50, 99, 9]) A s s.heap := by
  have hs := flat_of_before _ hgv
  have hel : ∀ j : Nat, j < 6 → (Term.elem (.static "StudioYears" "LETTER_MOST" "[I") (.int (Int32.ofNat j))).eval args s none [] s = some (stF [52, 1, 9, 50, 99, 9] j) := by
    intro j hj
    rcases (show j = 0 ∨ j = 1 ∨ j = 2 ∨ j = 3 ∨ j = 4 ∨ j = 5 by omega) with rfl | rfl | rfl | rfl | rfl | rfl
    · exact va_eqt (z := 52) (hs (Cond.eq (.elem (.static "StudioYears" "LETTER_MOST" "[I") (.int 0)) (.int 52)) (by decide +kernel))
    · exact va_eqt (z := 1) (hs (Cond.eq (.elem (.static "StudioYears" "LETTER_MOST" "[I") (.int 1)) (.int 1)) (by decide +kernel))
    · exact va_eqt (z := 9) (hs (Cond.eq (.elem (.static "StudioYears" "LETTER_MOST" "[I") (.int 2)) (.int 9)) (by decide +kernel))
    · exact va_eqt (z := 50) (hs (Cond.eq (.elem (.static "StudioYears" "LETTER_MOST" "[I") (.int 3)) (.int 50)) (by decide +kernel))
    · exact va_eqt (z := 99) (hs (Cond.eq (.elem (.static "StudioYears" "LETTER_MOST" "[I") (.int 4)) (.int 99)) (by decide +kernel))
    · exact va_eqt (z := 9) (hs (Cond.eq (.elem (.static "StudioYears" "LETTER_MOST" "[I") (.int 5)) (.int 9)) (by decide +kernel))
  obtain ⟨t, h1, h2⟩ := va_Tof (tm := (.static "StudioYears" "LETTER_MOST" "[I")) (ty := .int) (N := 6) (f := stF [52, 1, 9, 50, 99, 9]) (A := A) (by decide) (hs (Cond.arrayOf (.static "StudioYears" "LETTER_MOST" "[I") .int) (by decide +kernel)) (va_eqt (z := 6) (hs (Cond.eq (.length (.static "StudioYears" "LETTER_MOST" "[I")) (.int 6)) (by decide +kernel))) hel hA
  exact ⟨t, va_Zref (hts _ (tg2 179 rfl)) (hts _ (tg1 1 rfl)) h1 hA, h2⟩
set_option maxRecDepth 100000 in
theorem st_at4 {args : Array Value} {s : State} {A : Nat → Prop} (hts : ∀ w ∈ lw_tbl, w.before args s = true) (hgv : (Jvm.Cond.and given_1 narrow_1).before args s = true) (hA : ∀ a : Nat, a < s.heap.size → ¬ A a) : ∃ t : Nat, va_Z RX11 "LETTER_WITHOUT" "[I" (.ref t) A s s.heap ∧ va_T .int t 6 (stF [52, 0, 0, 0, 0, 1]) A s s.heap := by
  have hs := flat_of_before _ hgv
  have hel : ∀ j : Nat, j < 6 → (Term.elem (.static "StudioYears" "LETTER_WITHOUT" "[I") (.int (Int32.ofNat j))).eval args s none [] s = some (stF [52, 0, 0, 0, 0, 1] j) := by
    intro j hj
    rcases (show j = 0 ∨ j = 1 ∨ j = 2 ∨ j = 3 ∨ j = 4 ∨ j = 5 by omega) with rfl | rfl | rfl | rfl | rfl | rfl
    · exact va_eqt (z := 52) (hs (Cond.eq (.elem (.static "StudioYears" "LETTER_WITHOUT" "[I") (.int 0)) (.int 52)) (by decide +kernel))
    · exact va_eqt (z := 0) (hs (Cond.eq (.elem (.static "StudioYears" "LETTER_WITHOUT" "[I") (.int 1)) (.int 0)) (by decide +kernel))
    · exact va_eqt (z := 0) (hs (Cond.eq (.elem (.static "StudioYears" "LETTER_WITHOUT" "[I") (.int 2)) (.int 0)) (by decide +kernel))
    · exact va_eqt (z := 0) (hs (Cond.eq (.elem (.static "StudioYears" "LETTER_WITHOUT" "[I") (.int 3)) (.int 0)) (by decide +kernel))
    · exact va_eqt (z := 0) (hs (Cond.eq (.elem (.static "StudioYears" "LETTER_WITHOUT" "[I") (.int 4)) (.int 0)) (by decide +kernel))
    · exact va_eqt (z := 1) (hs (Cond.eq (.elem (.static "StudioYears" "LETTER_WITHOUT" "[I") (.int 5)) (.int 1)) (by decide +kernel))
  obtain ⟨t, h1, h2⟩ := va_Tof (tm := (.static "StudioYears" "LETTER_WITHOUT" "[I")) (ty := .int) (N := 6) (f := stF [52, 0, 0, 0, 0, 1]) (A := A) (by decide) (hs (Cond.arrayOf (.static "StudioYears" "LETTER_WITHOUT" "[I") .int) (by decide +kernel)) (va_eqt (z := 6) (hs (Cond.eq (.length (.static "StudioYears" "LETTER_WITHOUT" "[I")) (.int 6)) (by decide +kernel))) hel hA
  exact ⟨t, va_Zref (hts _ (tg2 199 rfl)) (hts _ (tg1 1 rfl)) h1 hA, h2⟩
theorem arr_p {args : Array Value} {s : State} {ty : FieldType} (hp : ∀ C, ty ≠ .object C) (h : (Cond.arrayClass ty).before args s = true) : ∃ cA, ArrOfT s cA ty ∧ va_RA s cA ty := by
  obtain ⟨c, k, comp, h1, h2, h3⟩ := Cond.arrayClass_spec h
  refine ⟨c, fun n z => ⟨fun k h => (by cases h), k, h2, comp, h3⟩, ?_⟩
  cases ty with
  | object C => exact absurd rfl (hp C)
  | _ => exact h1
theorem arr_o {args : Array Value} {s : State} {C : String} (h : (Cond.arrayOver (.object C)).before args s = true) : ∃ cA, ArrOfT s cA (.object C) ∧ va_RA s cA (.object C) := by
  obtain ⟨comp, c, k, h1, -, h2, h3, h4⟩ := Cond.arrayOver_spec h
  exact ⟨c, fun n z => ⟨fun k h => (by cases h), k, h2, comp, h3⟩, k, comp, h2, h3, h1, h4⟩
set_option maxRecDepth 100000 in
theorem arr_all {args : Array Value} {s : State} (hts : ∀ w ∈ lw_tbl, w.before args s = true) : ∀ ty ∈ tyL, ∃ cA, ArrOfT s cA ty ∧ va_RA s cA ty := by
  exact List.forall_mem_cons.mpr ⟨arr_p (fun _ h => by cases h) (hts _ (tg1 50 rfl)), List.forall_mem_cons.mpr ⟨arr_p (fun _ h => by cases h) (hts _ (tg4 239 rfl)), List.forall_mem_cons.mpr ⟨arr_p (fun _ h => by cases h) (hts _ (tg1 203 rfl)), List.forall_mem_cons.mpr ⟨arr_o (hts _ (tg1 26 rfl)), List.forall_mem_cons.mpr ⟨arr_o (hts _ (tg1 28 rfl)), List.forall_mem_cons.mpr ⟨arr_o (hts _ (tg1 30 rfl)), List.forall_mem_cons.mpr ⟨arr_o (hts _ (tg1 32 rfl)), List.forall_mem_cons.mpr ⟨arr_o (hts _ (tg3 34 rfl)), fun _ h => absurd h List.not_mem_nil⟩⟩⟩⟩⟩⟩⟩⟩
set_option maxRecDepth 100000 in
theorem vn_all {args : Array Value} {s : State} (hts : ∀ w ∈ lw_tbl, w.before args s = true) : VN s := by
  exact ⟨List.forall_mem_cons.mpr ⟨va_Nw.of rfl (hts _ (tg1 35 rfl)), List.forall_mem_cons.mpr ⟨va_Nw.of rfl (hts _ (tg1 53 rfl)), List.forall_mem_cons.mpr ⟨va_Nw.of rfl (hts _ (tg1 71 rfl)), List.forall_mem_cons.mpr ⟨va_Nw.of rfl (hts _ (tg1 107 rfl)), List.forall_mem_cons.mpr ⟨va_Nw.of rfl (hts _ (tg1 120 rfl)), List.forall_mem_cons.mpr ⟨va_Nw.of rfl (hts _ (tg1 139 rfl)), List.forall_mem_cons.mpr ⟨va_Nw.of rfl (hts _ (tg1 174 rfl)), List.forall_mem_cons.mpr ⟨va_Nw.of rfl (hts _ (tg5 85 rfl)), fun _ h => absurd h List.not_mem_nil⟩⟩⟩⟩⟩⟩⟩⟩, List.forall_mem_cons.mpr ⟨va_Nw.of rfl (hts _ (tg2 176 rfl)), List.forall_mem_cons.mpr ⟨va_Nw.of rfl (hts _ (tg2 178 rfl)), List.forall_mem_cons.mpr ⟨va_Nw.of rfl (hts _ (tg2 188 rfl)), List.forall_mem_cons.mpr ⟨va_Nw.of rfl (hts _ (tg2 198 rfl)), fun _ h => absurd h List.not_mem_nil⟩⟩⟩⟩, List.forall_mem_cons.mpr ⟨va_AO.of (hts _ (tg1 26 rfl)), List.forall_mem_cons.mpr ⟨va_AO.of (hts _ (tg1 28 rfl)), List.forall_mem_cons.mpr ⟨va_AO.of (hts _ (tg1 30 rfl)), List.forall_mem_cons.mpr ⟨va_AO.of (hts _ (tg1 32 rfl)), List.forall_mem_cons.mpr ⟨va_AO.of (hts _ (tg3 34 rfl)), fun _ h => absurd h List.not_mem_nil⟩⟩⟩⟩⟩⟩
theorem vk_start {b L : Nat} {xs : Nat → Int32} {s : State} (l : Launch) (hts : ∀ w ∈ lw_tbl, w.before #[Value.ref b] s = true) (hX : va_X b L xs s s.heap) (hbl : b < s.heap.size) (hgv : (Jvm.Cond.and given_1 narrow_1).before #[Value.ref b] s = true) : ∃ g : GG, gl g = l ∧ gb g = b ∧ gN g = L ∧ gB g = s.heap.size ∧ VK g s := by
  have hA : ∀ a : Nat, a < s.heap.size → ¬ (fun q : Nat => s.heap.size ≤ q) a := fun a h => Nat.not_le.mpr h
  have hC : ∀ c : Nat, ∃ p : ClassId × (Nat → Nat), ∀ q, classes[c]? = some q → u_Kn s q.1 q.2.1 q.2.2 p.1 p.2 := by
    intro c
    cases hq : classes[c]? with
    | none => exact ⟨(0, fun _ => 0), fun q h => by cases h⟩
    | some q =>
      obtain ⟨cC, iS, h⟩ := u_known (fun w hw => hts w (lw_g_in hw)) (cls_in c q hq) (hts _ (lw_g_in (cls_it c q hq)))
      exact ⟨(cC, iS), fun q' h' => by cases h'; exact h⟩
  have hS : ∀ j : Nat, ∃ t : Nat, ∀ q : String × List Int32, stT[j]? = some q → va_Z RX11 q.1 "[I" (.ref t) (fun q : Nat => s.heap.size ≤ q) s s.heap ∧ va_T .int t q.2.length (stF q.2) (fun q : Nat => s.heap.size ≤ q) s s.heap := by
    intro j
    match j with
    | 0 => obtain ⟨t, h⟩ := st_at0 hts hgv hA; exact ⟨t, fun q hq => by cases hq; exact h⟩
    | 1 => obtain ⟨t, h⟩ := st_at1 hts hgv hA; exact ⟨t, fun q hq => by cases hq; exact h⟩
    | 2 => obtain ⟨t, h⟩ := st_at2 hts hgv hA; exact ⟨t, fun q hq => by cases hq; exact h⟩
    | 3 => obtain ⟨t, h⟩ := st_at3 hts hgv hA; exact ⟨t, fun q hq => by cases hq; exact h⟩
    | 4 => obtain ⟨t, h⟩ := st_at4 hts hgv hA; exact ⟨t, fun q hq => by cases hq; exact h⟩
    | j + 5 => exact ⟨0, fun q hq => by simp [stT] at hq⟩
  have hR : ∀ ty : FieldType, ∃ cA : ClassId, ty ∈ tyL → ArrOfT s cA ty ∧ va_RA s cA ty := by
    intro ty
    by_cases h : ty ∈ tyL
    · obtain ⟨cA, h2⟩ := arr_all hts ty h
      exact ⟨cA, fun _ => h2⟩
    · exact ⟨0, fun h2 => absurd h2 h⟩
  refine ⟨(l, s.heap.size, (fun c => (Classical.choose (hC c)).1, fun c => (Classical.choose (hC c)).2), fun ty => Classical.choose (hR ty), fun j => Classical.choose (hS j), b, L, xs), rfl, rfl, rfl, rfl, ⟨fun c q hq => Classical.choose_spec (hC c) q hq, fun k q hq => ?_⟩, fun j q hj => Classical.choose_spec (hS j) q hj, vn_all hts, Nat.le_refl _, hX, hbl⟩
  rw [List.getElem?_map] at hq
  obtain ⟨ty, h1, h2⟩ := Option.map_eq_some_iff.mp hq
  subst h2
  exact Classical.choose_spec (hR ty) (List.mem_of_getElem? h1)
