def ap1 (k : Nat) : Nat := ([0, 0, 0, 1, 2, 0] : List Nat).getD k 0
def nw1 (x : VM) (a1 : Int32) (a2 : Int32) (a3 : Int32) : VM := nwV x 1 (x.2.2.2 1) (fun k => if k = 0 then a1 else if k = 1 then a2 else if k = 2 then a3 else 0) (fun k => if k = 3 then (fil (-1) 40) else fun _ => 0) (fun k => if k = 1 then x.2.2.2 1 + 1 else x.2.2.2 k)
theorem nwo1 (n0 : Nat) (a1 : Int32) (a2 : Int32) (a3 : Int32) : ∀ k, k < 6 → o1_6 n0 a1 a2 a3 k = if FT 1 k < 2 then .int ((fun k : Nat => if k = 0 then a1 else if k = 1 then a2 else if k = 2 then a3 else 0) k) else .ref (n0 + ap1 k) := by
  refine fa_s ?_ rfl
  refine fa_s ?_ rfl
  refine fa_s ?_ rfl
  refine fa_s ?_ rfl
  refine fa_s ?_ rfl
  refine fa_s ?_ rfl
  exact fa_0
theorem nwa1 (n0 : Nat) (a1 : Int32) (a2 : Int32) (a3 : Int32) : ∀ k, k < 6 → isA 1 k → 1 ≤ ap1 k ∧ (z1 n0 a1 a2 a3)[ap1 k]? = some (.inl (aty 1 k, acw 1 k (fun k => if k = 3 then (fil (-1) 40) else fun _ => 0))) := by
  refine fa_s ?_ (fun h => absurd h (by unfold isA; decide))
  refine fa_s ?_ (fun _ => ⟨by decide, rfl⟩)
  refine fa_s ?_ (fun _ => ⟨by decide, rfl⟩)
  refine fa_s ?_ (fun h => absurd h (by unfold isA; decide))
  refine fa_s ?_ (fun h => absurd h (by unfold isA; decide))
  refine fa_s ?_ (fun h => absurd h (by unfold isA; decide))
  exact fa_0
theorem nwf1 : ∀ k, k < 6 → FT 1 k < 6 := by decide +kernel
theorem nwj1 : ∀ k, k < 6 → ∀ j, j < 6 → isA 1 k → isA 1 j → ap1 k = ap1 j → k = j := by unfold isA; decide +kernel
def ap4 (k : Nat) : Nat := ([0, 1, 2, 0, 0, 0, 0, 0, 0, 0, 0, 0, 0, 0] : List Nat).getD k 0
def nw4 (x : VM) (a1 : Int32) : VM := nwV x 4 (x.2.2.2 4) (fun k => if k = 0 then a1 else if k = 5 then (-1) else if k = 7 then (-1) else 0) (fun k => fun _ => 0) (fun k => if k = 4 then x.2.2.2 4 + 1 else x.2.2.2 k)
theorem nwo4 (n0 : Nat) (a1 : Int32) : ∀ k, k < 14 → o4_14 n0 a1 k = if FT 4 k < 2 then .int ((fun k : Nat => if k = 0 then a1 else if k = 5 then (-1) else if k = 7 then (-1) else 0) k) else .ref (n0 + ap4 k) := by
  refine fa_s ?_ rfl
  refine fa_s ?_ rfl
  refine fa_s ?_ rfl
  refine fa_s ?_ rfl
  refine fa_s ?_ rfl
  refine fa_s ?_ rfl
  refine fa_s ?_ rfl
  refine fa_s ?_ rfl
  refine fa_s ?_ rfl
  refine fa_s ?_ rfl
  refine fa_s ?_ rfl
  refine fa_s ?_ rfl
  refine fa_s ?_ rfl
  refine fa_s ?_ rfl
  exact fa_0
theorem nwa4 (n0 : Nat) (a1 : Int32) : ∀ k, k < 14 → isA 4 k → 1 ≤ ap4 k ∧ (z4 n0 a1)[ap4 k]? = some (.inl (aty 4 k, acw 4 k (fun k => fun _ => 0))) := by
  refine fa_s ?_ (fun h => absurd h (by unfold isA; decide))
  refine fa_s ?_ (fun h => absurd h (by unfold isA; decide))
  refine fa_s ?_ (fun h => absurd h (by unfold isA; decide))
  refine fa_s ?_ (fun h => absurd h (by unfold isA; decide))
  refine fa_s ?_ (fun h => absurd h (by unfold isA; decide))
  refine fa_s ?_ (fun h => absurd h (by unfold isA; decide))
  refine fa_s ?_ (fun h => absurd h (by unfold isA; decide))
  refine fa_s ?_ (fun h => absurd h (by unfold isA; decide))
  refine fa_s ?_ (fun h => absurd h (by unfold isA; decide))
  refine fa_s ?_ (fun h => absurd h (by unfold isA; decide))
  refine fa_s ?_ (fun h => absurd h (by unfold isA; decide))
  refine fa_s ?_ (fun _ => ⟨by decide, rfl⟩)
  refine fa_s ?_ (fun _ => ⟨by decide, rfl⟩)
  refine fa_s ?_ (fun h => absurd h (by unfold isA; decide))
  exact fa_0
theorem nwf4 : ∀ k, k < 14 → FT 4 k < 6 := by decide +kernel
theorem nwj4 : ∀ k, k < 14 → ∀ j, j < 14 → isA 4 k → isA 4 j → ap4 k = ap4 j → k = j := by unfold isA; decide +kernel
def ap5 (k : Nat) : Nat := ([0, 1, 0, 0, 2, 0, 0, 0, 0, 0, 3, 4, 0, 5, 6, 7, 0, 8] : List Nat).getD k 0
def nw5 (x : VM) (a1 : Int32) : VM := nwV x 5 (x.2.2.2 5) (fun k => if k = 0 then a1 else if k = 5 then (-1) else if k = 16 then 1 else 0) (fun k => if k = 13 then (fil (-1) 8) else fun _ => 0) (fun k => if k = 5 then x.2.2.2 5 + 1 else if k = 20 + x.2.2.2 5 then 0 else x.2.2.2 k)
theorem nwo5 (n0 : Nat) (a1 : Int32) : ∀ k, k < 18 → o5_18 n0 a1 k = if FT 5 k < 2 then .int ((fun k : Nat => if k = 0 then a1 else if k = 5 then (-1) else if k = 16 then 1 else 0) k) else .ref (n0 + ap5 k) := by
  refine fa_s ?_ rfl
  refine fa_s ?_ rfl
  refine fa_s ?_ rfl
  refine fa_s ?_ rfl
  refine fa_s ?_ rfl
  refine fa_s ?_ rfl
  refine fa_s ?_ rfl
  refine fa_s ?_ rfl
  refine fa_s ?_ rfl
  refine fa_s ?_ rfl
  refine fa_s ?_ rfl
  refine fa_s ?_ rfl
  refine fa_s ?_ rfl
  refine fa_s ?_ rfl
  refine fa_s ?_ rfl
  refine fa_s ?_ rfl
  refine fa_s ?_ rfl
  refine fa_s ?_ rfl
  exact fa_0
theorem nwa5 (n0 : Nat) (a1 : Int32) : ∀ k, k < 18 → isA 5 k → 1 ≤ ap5 k ∧ (z5 n0 a1)[ap5 k]? = some (.inl (aty 5 k, acw 5 k (fun k => if k = 13 then (fil (-1) 8) else fun _ => 0))) := by
  refine fa_s ?_ (fun _ => ⟨by decide, rfl⟩)
  refine fa_s ?_ (fun h => absurd h (by unfold isA; decide))
  refine fa_s ?_ (fun _ => ⟨by decide, rfl⟩)
  refine fa_s ?_ (fun _ => ⟨by decide, rfl⟩)
  refine fa_s ?_ (fun _ => ⟨by decide, rfl⟩)
  refine fa_s ?_ (fun h => absurd h (by unfold isA; decide))
  refine fa_s ?_ (fun _ => ⟨by decide, rfl⟩)
  refine fa_s ?_ (fun _ => ⟨by decide, rfl⟩)
  refine fa_s ?_ (fun h => absurd h (by unfold isA; decide))
  refine fa_s ?_ (fun h => absurd h (by unfold isA; decide))
  refine fa_s ?_ (fun h => absurd h (by unfold isA; decide))
  refine fa_s ?_ (fun h => absurd h (by unfold isA; decide))
  refine fa_s ?_ (fun h => absurd h (by unfold isA; decide))
  refine fa_s ?_ (fun _ => ⟨by decide, rfl⟩)
  refine fa_s ?_ (fun h => absurd h (by unfold isA; decide))
  refine fa_s ?_ (fun h => absurd h (by unfold isA; decide))
  refine fa_s ?_ (fun _ => ⟨by decide, rfl⟩)
  refine fa_s ?_ (fun h => absurd h (by unfold isA; decide))
  exact fa_0
theorem nwf5 : ∀ k, k < 18 → FT 5 k < 6 := by decide +kernel
theorem nwj5 : ∀ k, k < 18 → ∀ j, j < 18 → isA 5 k → isA 5 j → ap5 k = ap5 j → k = j := by unfold isA; decide +kernel
def ap8 (k : Nat) : Nat := ([0, 0, 0, 0, 1, 0, 2, 3, 4] : List Nat).getD k 0
def nw8 (x : VM) (p : Nat) (a1 : Int32) (a2 : Int32) (a3 : Int32) : VM := nwV x 8 (8 * p + x.2.2.2 (20 + p)) (fun k => if k = 0 then a1 else if k = 1 then a2 else if k = 2 then a3 else 0) (fun k => fun _ => 0) (fun k => if k = 20 + p then x.2.2.2 (20 + p) + 1 else x.2.2.2 k)
theorem nwo8 (n0 : Nat) (a1 : Int32) (a2 : Int32) (a3 : Int32) : ∀ k, k < 9 → o8_9 n0 a1 a2 a3 k = if FT 8 k < 2 then .int ((fun k : Nat => if k = 0 then a1 else if k = 1 then a2 else if k = 2 then a3 else 0) k) else .ref (n0 + ap8 k) := by
  refine fa_s ?_ rfl
  refine fa_s ?_ rfl
  refine fa_s ?_ rfl
  refine fa_s ?_ rfl
  refine fa_s ?_ rfl
  refine fa_s ?_ rfl
  refine fa_s ?_ rfl
  refine fa_s ?_ rfl
  refine fa_s ?_ rfl
  exact fa_0
theorem nwa8 (n0 : Nat) (a1 : Int32) (a2 : Int32) (a3 : Int32) : ∀ k, k < 9 → isA 8 k → 1 ≤ ap8 k ∧ (z8 n0 a1 a2 a3)[ap8 k]? = some (.inl (aty 8 k, acw 8 k (fun k => fun _ => 0))) := by
  refine fa_s ?_ (fun _ => ⟨by decide, rfl⟩)
  refine fa_s ?_ (fun _ => ⟨by decide, rfl⟩)
  refine fa_s ?_ (fun _ => ⟨by decide, rfl⟩)
  refine fa_s ?_ (fun h => absurd h (by unfold isA; decide))
  refine fa_s ?_ (fun _ => ⟨by decide, rfl⟩)
  refine fa_s ?_ (fun h => absurd h (by unfold isA; decide))
  refine fa_s ?_ (fun h => absurd h (by unfold isA; decide))
  refine fa_s ?_ (fun h => absurd h (by unfold isA; decide))
  refine fa_s ?_ (fun h => absurd h (by unfold isA; decide))
  exact fa_0
theorem nwf8 : ∀ k, k < 9 → FT 8 k < 6 := by decide +kernel
theorem nwj8 : ∀ k, k < 9 → ∀ j, j < 9 → isA 8 k → isA 8 j → ap8 k = ap8 j → k = j := by unfold isA; decide +kernel
section
variable {g : GG} {d : Nat} {M : MD} {ad : AD} {x m : VM} {kc ks pc n0 : Nat} {L : List (Option Value)} {rest : List Value} {Q : Option Value → Heap → Prop}
theorem y_into1 (a1 : Int32) (a2 : Int32) (a3 : Int32) (hdg : decode M.2.1 pc = .ok (.aastore, 1)) (hK : KX x) (hlt : x.2.2.2 1 < 6) (kk : Ev g d M (Rep g (adN ad 1 (x.2.2.2 1) n0 ap1) (nw1 x a1 a2 a3) m) kc ks (pc + 1) L rest Q) : Ev g d M (CK g (Rep g ad x m) n0 (z1 n0 a1 a2 a3)) kc ks pc L (.ref (n0 + 0) :: .int (x.1 1115 0) :: .ref (ad 2103 0) :: rest) Q := by
  have hi : (x.1 1115 0).toNatClampNeg = x.2.2.2 1 := by rw [hK.2.2.1.1, nI_clamp (by omega)]
  have hin : vp_in (x.1 1115 0) 6 := by rw [hK.2.2.1.1]; exact nI_in hlt (by decide)
  refine y_aast (x' := nw1 x a1 a2 a3) (c0 := 1) (i0 := x.2.2.2 1) (cK := 11) (kK := 3) (iK := 0) (nf := 6) (n := 6) (V := o1_6 n0 a1 a2 a3) (ap := ap1) (f := fun j => if j < x.2.2.2 1 then some (ad 1 j) else none) hdg rfl hin rfl rfl ?_ ⟨by decide, by decide⟩ rfl (by omega) (by decide) (by decide) ?_ ?_ rfl rfl rfl ?_ ?_ ?_ ?_ ?_ ?_ ?_ kk
  · show ((6, .inr (.inr (.inr (.inr (fun j => if j < x.2.2.2 1 + 1 then some (adN ad 1 (x.2.2.2 1) n0 ap1 1 j) else none)))))  : vp_A) = _
    rw [up_more (A := fun j => ad 1 j) (A' := fun j => adN ad 1 (x.2.2.2 1) n0 ap1 1 j) hi adN_o (fun j hj => adN_oo (by omega) (by omega))]
  · exact fun h => Nat.lt_irrefl _ (lv_c1.mp h)
  · intro c i
    by_cases e1 : c = 1
    · subst e1
      rw [lv_c1, lv_c1]
      show i < x.2.2.2 1 + 1 ↔ _
      omega
    by_cases e4 : c = 4
    · subst e4
      rw [lv_c4, lv_c4]
      show i < x.2.2.2 4 ↔ _
      omega
    by_cases e5 : c = 5
    · subst e5
      rw [lv_c5, lv_c5]
      show i < x.2.2.2 5 ↔ _
      omega
    by_cases e8 : c = 8
    · subst e8
      rw [lv_c8, lv_c8]
      show (i / 8 < x.2.2.2 5 ∧ i % 8 < (if 20 + i / 8 = 1 then _ else x.2.2.2 (20 + i / 8))) ↔ _
      rw [if_neg (by omega)]; omega
    exact (lv_oth e1 e4 e5 e8).trans ⟨Or.inl, fun h => h.resolve_right (fun q => e1 q.1)⟩
  · exact fun k hk => by unfold nw1; rw [fv_new (by omega) (nwf1 k hk)]; exact nwo1 n0 a1 a2 a3 k hk
  · exact fun k ha => ⟨(nwa1 n0 a1 a2 a3 k (isA_n ha rfl) ha).1, by rw [show nw1 x a1 a2 a3 = nwV x 1 (x.2.2.2 1) _ _ _ from rfl, acn_new (by omega) ha (fun _ => by omega)]; exact (nwa1 n0 a1 a2 a3 k (isA_n ha rfl) ha).2⟩
  · exact fun k j hk hj e => nwj1 k (isA_n hk rfl) j (isA_n hj rfl) hk hj e
  · exact fun c k i _ hk hne => nwV_I hk hne
  · intro c k i ha h12 hne hnK hl
    refine acn_old ha hne (fun h5 => ?_)
    have hk := isA_lt ha
    exact rc_ext (fun j => adN_oo (by omega) (by omega)) (fun _ _ => ⟨rfl, fun j hj => adN_oo (by omega) (by omega)⟩) (fun _ _ => ⟨rfl, fun j hj => adN_oo (by omega) (by omega)⟩) (fun c5 k0 k1 k2 => absurd ⟨(show c = 11 by rcases ft5 c hk.2 k hk.1 h5 with q | q <;> omega), (show k = 3 by rcases ft5 c hk.2 k hk.1 h5 with q | q <;> omega), lv_11 ((show c = 11 by rcases ft5 c hk.2 k hk.1 h5 with q | q <;> omega) ▸ hl)⟩ hnK) (fun _ => ⟨by show (if 20 + i = 1 then x.2.2.2 1 + 1 else x.2.2.2 (20 + i)) = _; exact if_neg (by omega), fun j hj => adN_oo (by omega) (by omega)⟩)
  · rfl
  · exact fun h => absurd h (by decide)
theorem y_into4 (a1 : Int32) (hdg : decode M.2.1 pc = .ok (.aastore, 1)) (hK : KX x) (hlt : x.2.2.2 4 < 16) (kk : Ev g d M (Rep g (adN ad 4 (x.2.2.2 4) n0 ap4) (nw4 x a1) m) kc ks (pc + 1) L rest Q) : Ev g d M (CK g (Rep g ad x m) n0 (z4 n0 a1)) kc ks pc L (.ref (n0 + 0) :: .int (x.1 1113 0) :: .ref (ad 2101 0) :: rest) Q := by
  have hi : (x.1 1113 0).toNatClampNeg = x.2.2.2 4 := by rw [hK.1.1, nI_clamp (by omega)]
  have hin : vp_in (x.1 1113 0) 16 := by rw [hK.1.1]; exact nI_in hlt (by decide)
  refine y_aast (x' := nw4 x a1) (c0 := 4) (i0 := x.2.2.2 4) (cK := 11) (kK := 1) (iK := 0) (nf := 14) (n := 16) (V := o4_14 n0 a1) (ap := ap4) (f := fun j => if j < x.2.2.2 4 then some (ad 4 j) else none) hdg rfl hin rfl rfl ?_ ⟨by decide, by decide⟩ rfl (by omega) (by decide) (by decide) ?_ ?_ rfl rfl rfl ?_ ?_ ?_ ?_ ?_ ?_ ?_ kk
  · show ((16, .inr (.inr (.inr (.inr (fun j => if j < x.2.2.2 4 + 1 then some (adN ad 4 (x.2.2.2 4) n0 ap4 4 j) else none)))))  : vp_A) = _
    rw [up_more (A := fun j => ad 4 j) (A' := fun j => adN ad 4 (x.2.2.2 4) n0 ap4 4 j) hi adN_o (fun j hj => adN_oo (by omega) (by omega))]
  · exact fun h => Nat.lt_irrefl _ (lv_c4.mp h)
  · intro c i
    by_cases e1 : c = 1
    · subst e1
      rw [lv_c1, lv_c1]
      show i < x.2.2.2 1 ↔ _
      omega
    by_cases e4 : c = 4
    · subst e4
      rw [lv_c4, lv_c4]
      show i < x.2.2.2 4 + 1 ↔ _
      omega
    by_cases e5 : c = 5
    · subst e5
      rw [lv_c5, lv_c5]
      show i < x.2.2.2 5 ↔ _
      omega
    by_cases e8 : c = 8
    · subst e8
      rw [lv_c8, lv_c8]
      show (i / 8 < x.2.2.2 5 ∧ i % 8 < (if 20 + i / 8 = 4 then _ else x.2.2.2 (20 + i / 8))) ↔ _
      rw [if_neg (by omega)]; omega
    exact (lv_oth e1 e4 e5 e8).trans ⟨Or.inl, fun h => h.resolve_right (fun q => e4 q.1)⟩
  · exact fun k hk => by unfold nw4; rw [fv_new (by omega) (nwf4 k hk)]; exact nwo4 n0 a1 k hk
  · exact fun k ha => ⟨(nwa4 n0 a1 k (isA_n ha rfl) ha).1, by rw [show nw4 x a1 = nwV x 4 (x.2.2.2 4) _ _ _ from rfl, acn_new (by omega) ha (fun _ => by omega)]; exact (nwa4 n0 a1 k (isA_n ha rfl) ha).2⟩
  · exact fun k j hk hj e => nwj4 k (isA_n hk rfl) j (isA_n hj rfl) hk hj e
  · exact fun c k i _ hk hne => nwV_I hk hne
  · intro c k i ha h12 hne hnK hl
    refine acn_old ha hne (fun h5 => ?_)
    have hk := isA_lt ha
    exact rc_ext (fun j => adN_oo (by omega) (by omega)) (fun c5 k1 => absurd ⟨(show c = 11 by rcases ft5 c hk.2 k hk.1 h5 with q | q <;> omega), (show k = 1 by rcases ft5 c hk.2 k hk.1 h5 with q | q <;> omega), lv_11 ((show c = 11 by rcases ft5 c hk.2 k hk.1 h5 with q | q <;> omega) ▸ hl)⟩ hnK) (fun _ _ => ⟨rfl, fun j hj => adN_oo (by omega) (by omega)⟩) (fun _ _ _ _ => ⟨rfl, fun j hj => adN_oo (by omega) (by omega)⟩) (fun _ => ⟨by show (if 20 + i = 4 then x.2.2.2 4 + 1 else x.2.2.2 (20 + i)) = _; exact if_neg (by omega), fun j hj => adN_oo (by omega) (by omega)⟩)
  · rfl
  · exact fun h => absurd h (by decide)
theorem y_into5 (a1 : Int32) (hdg : decode M.2.1 pc = .ok (.aastore, 1)) (hK : KX x) (hlt : x.2.2.2 5 < 8) (hF0 : x.2.2.2 0 ≤ x.2.2.2 5) (kk : Ev g d M (Rep g (adN ad 5 (x.2.2.2 5) n0 ap5) (nw5 x a1) m) kc ks (pc + 1) L rest Q) : Ev g d M (CK g (Rep g ad x m) n0 (z5 n0 a1)) kc ks pc L (.ref (n0 + 0) :: .int (x.1 1114 0) :: .ref (ad 2102 0) :: rest) Q := by
  have hi : (x.1 1114 0).toNatClampNeg = x.2.2.2 5 := by rw [hK.2.1.1, nI_clamp (by omega)]
  have hin : vp_in (x.1 1114 0) 8 := by rw [hK.2.1.1]; exact nI_in hlt (by decide)
  refine y_aast (x' := nw5 x a1) (c0 := 5) (i0 := x.2.2.2 5) (cK := 11) (kK := 2) (iK := 0) (nf := 18) (n := 8) (V := o5_18 n0 a1) (ap := ap5) (f := fun j => if j < x.2.2.2 5 then some (ad 5 j) else none) hdg rfl hin rfl rfl ?_ ⟨by decide, by decide⟩ rfl (by omega) (by decide) (by decide) ?_ ?_ rfl rfl rfl ?_ ?_ ?_ ?_ ?_ ?_ ?_ kk
  · show ((8, .inr (.inr (.inr (.inr (fun j => if j < x.2.2.2 5 + 1 then some (adN ad 5 (x.2.2.2 5) n0 ap5 5 j) else none)))))  : vp_A) = _
    rw [up_more (A := fun j => ad 5 j) (A' := fun j => adN ad 5 (x.2.2.2 5) n0 ap5 5 j) hi adN_o (fun j hj => adN_oo (by omega) (by omega))]
  · exact fun h => Nat.lt_irrefl _ (lv_c5.mp h)
  · intro c i
    by_cases e1 : c = 1
    · subst e1
      rw [lv_c1, lv_c1]
      show i < (if 1 = 5 then x.2.2.2 5 + 1 else if 1 = 20 + x.2.2.2 5 then 0 else x.2.2.2 1) ↔ _
      rw [if_neg (by omega), if_neg (by omega)]; omega
    by_cases e4 : c = 4
    · subst e4
      rw [lv_c4, lv_c4]
      show i < (if 4 = 5 then x.2.2.2 5 + 1 else if 4 = 20 + x.2.2.2 5 then 0 else x.2.2.2 4) ↔ _
      rw [if_neg (by omega), if_neg (by omega)]; omega
    by_cases e5 : c = 5
    · subst e5
      rw [lv_c5, lv_c5]
      show i < x.2.2.2 5 + 1 ↔ _
      omega
    by_cases e8 : c = 8
    · subst e8
      rw [lv_c8, lv_c8]
      show (i / 8 < x.2.2.2 5 + 1 ∧ i % 8 < (if 20 + i / 8 = 5 then x.2.2.2 5 + 1 else if 20 + i / 8 = 20 + x.2.2.2 5 then 0 else x.2.2.2 (20 + i / 8))) ↔ _
      rw [if_neg (by omega)]
      by_cases e9 : i / 8 = x.2.2.2 5
      · rw [if_pos (by omega)]; omega
      · rw [if_neg (by omega)]; omega
    exact (lv_oth e1 e4 e5 e8).trans ⟨Or.inl, fun h => h.resolve_right (fun q => e5 q.1)⟩
  · exact fun k hk => by unfold nw5; rw [fv_new (by omega) (nwf5 k hk)]; exact nwo5 n0 a1 k hk
  · exact fun k ha => ⟨(nwa5 n0 a1 k (isA_n ha rfl) ha).1, by rw [show nw5 x a1 = nwV x 5 (x.2.2.2 5) _ _ _ from rfl, acn_new (by omega) ha (fun _ => by show (if 20 + x.2.2.2 5 = 5 then x.2.2.2 5 + 1 else if 20 + x.2.2.2 5 = 20 + x.2.2.2 5 then 0 else x.2.2.2 (20 + x.2.2.2 5)) = 0; rw [if_neg (by omega), if_pos rfl])]; exact (nwa5 n0 a1 k (isA_n ha rfl) ha).2⟩
  · exact fun k j hk hj e => nwj5 k (isA_n hk rfl) j (isA_n hj rfl) hk hj e
  · exact fun c k i _ hk hne => nwV_I hk hne
  · intro c k i ha h12 hne hnK hl
    refine acn_old ha hne (fun h5 => ?_)
    have hk := isA_lt ha
    exact rc_ext (fun j => adN_oo (by omega) (by omega)) (fun _ _ => ⟨(by show (if 4 = 5 then x.2.2.2 5 + 1 else if 4 = 20 + x.2.2.2 5 then 0 else x.2.2.2 (4)) = _; rw [if_neg (by omega), if_neg (by omega)]), fun j hj => adN_oo (by omega) (by omega)⟩) (fun c5 k2 => absurd ⟨(show c = 11 by rcases ft5 c hk.2 k hk.1 h5 with q | q <;> omega), (show k = 2 by rcases ft5 c hk.2 k hk.1 h5 with q | q <;> omega), lv_11 ((show c = 11 by rcases ft5 c hk.2 k hk.1 h5 with q | q <;> omega) ▸ hl)⟩ hnK) (fun _ _ _ _ => ⟨(by show (if 1 = 5 then x.2.2.2 5 + 1 else if 1 = 20 + x.2.2.2 5 then 0 else x.2.2.2 (1)) = _; rw [if_neg (by omega), if_neg (by omega)]), fun j hj => adN_oo (by omega) (by omega)⟩) (fun c5 => ⟨by subst c5; have hp := lv_c5.mp hl; show (if 20 + i = 5 then x.2.2.2 5 + 1 else if 20 + i = 20 + x.2.2.2 5 then 0 else x.2.2.2 (20 + i)) = _; rw [if_neg (by omega), if_neg (by omega)], fun j hj => adN_oo (by omega) (by omega)⟩)
  · show (if 0 = 5 then x.2.2.2 5 + 1 else if 0 = 20 + x.2.2.2 5 then 0 else x.2.2.2 0) = _
    rw [if_neg (by omega), if_neg (by omega)]
  · exact fun _ => by omega
end
