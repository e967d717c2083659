def baseT : List Nat := [16, 0, 5, 10, 0, 0, 22, 19, 0, 32, 8, 0, 48]
def aposT : List (List Nat) := [[1, 2], [], [1, 2, 0], [1, 0, 0, 2, 3, 0, 4, 5], [], [], [1, 0, 0, 0, 2, 3, 4, 5, 6], [1, 2, 0, 0], [], [1, 0, 0, 0], [1, 0, 0], [1, 2, 3, 4, 0, 0, 0, 0, 0, 0, 29, 30, 31, 0, 0, 0, 0, 0, 0], [0, 0, 0, 0, 0, 0, 0, 0, 0, 0, 0, 1, 2, 3, 4, 5, 6, 7, 8, 9, 10, 11, 12, 13, 14, 15, 16, 17, 18, 19, 20, 21, 22, 23, 24, 25, 26, 27, 28, 29, 30, 31, 32, 33, 34, 35, 36, 37, 38, 39, 40, 41, 42, 43, 44, 45, 46, 47, 48, 49, 50, 51, 52, 53, 54, 55, 56, 57, 58, 59, 60, 61, 62, 63, 64, 0, 65, 66, 67, 68, 69, 70, 71, 72, 73, 74, 75, 76]]
def pos0 (κ i : Nat) : Nat := if κ < 13 then baseT.getD κ 0 + (if κ = 9 then 2 * i else 0) else baseT.getD ((κ - 1000) / 100) 0 + (if (κ - 1000) / 100 = 9 then 2 * i else 0) + (aposT.getD ((κ - 1000) / 100) []).getD ((κ - 1000) % 100) 0
def ad0 (n0 : Nat) : AD := fun κ i => n0 + pos0 κ i
def cellsT : List (Nat × Nat) := [(11, 0), (2100, 0), (2101, 0), (2102, 0), (2103, 0), (2, 0), (1200, 0), (1201, 0), (10, 0), (2000, 0), (3, 0), (1300, 0), (1303, 0), (1304, 0), (1306, 0), (1307, 0), (0, 0), (1000, 0), (1001, 0), (7, 0), (1700, 0), (1701, 0), (6, 0), (1600, 0), (1604, 0), (1605, 0), (1606, 0), (1607, 0), (1608, 0), (2110, 0), (2111, 0), (2112, 0), (9, 0), (1900, 0), (9, 1), (1900, 1), (9, 2), (1900, 2), (9, 3), (1900, 3), (9, 4), (1900, 4), (9, 5), (1900, 5), (9, 6), (1900, 6), (9, 7), (1900, 7), (12, 0), (2211, 0), (2212, 0), (2213, 0), (2214, 0), (2215, 0), (2216, 0), (2217, 0), (2218, 0), (2219, 0), (2220, 0), (2221, 0), (2222, 0), (2223, 0), (2224, 0), (2225, 0), (2226, 0), (2227, 0), (2228, 0), (2229, 0), (2230, 0), (2231, 0), (2232, 0), (2233, 0), (2234, 0), (2235, 0), (2236, 0), (2237, 0), (2238, 0), (2239, 0), (2240, 0), (2241, 0), (2242, 0), (2243, 0), (2244, 0), (2245, 0), (2246, 0), (2247, 0), (2248, 0), (2249, 0), (2250, 0), (2251, 0), (2252, 0), (2253, 0), (2254, 0), (2255, 0), (2256, 0), (2257, 0), (2258, 0), (2259, 0), (2260, 0), (2261, 0), (2262, 0), (2263, 0), (2264, 0), (2265, 0), (2266, 0), (2267, 0), (2268, 0), (2269, 0), (2270, 0), (2271, 0), (2272, 0), (2273, 0), (2274, 0), (2276, 0), (2277, 0), (2278, 0), (2279, 0), (2280, 0), (2281, 0), (2282, 0), (2283, 0), (2284, 0), (2285, 0), (2286, 0), (2287, 0)]
def x0 : VM := (fun f _ => if f = 901 then (-1) else if f = 903 then (-1) else if f = 1001 then (-1) else if f = 1002 then (-1) else if f = 1118 then 2 else 0, fun f _ => if f = 1110 then (upd (upd (upd (upd (fun _ => 0) 0 9) 1 9) 2 9) 3 9) else fun _ => 0, fun _ _ _ => 0, fun _ => 0)
def m0 : VM := (fun f _ => if f = 1208 then 2 else if f = 1209 then (-1) else 0, fun f _ => if f = 1243 then (fil (-1) 8) else if f = 1251 then (fil (9) 4) else if f = 1256 then (fil (-1) 64) else if f = 1264 then (fil (-1) 240) else if f = 1266 then (fil (1) 8) else if f = 1268 then (fil (-1) 8) else fun _ => 0, fun _ _ _ => 0, fun _ => 0)
theorem fa_0 {P : Nat → Prop} : ∀ k, k < 0 → P k := fun k h => absurd h (Nat.not_lt_zero k)
theorem fa_s {P : Nat → Prop} {n : Nat} (h : ∀ k, k < n → P k) (h1 : P n) : ∀ k, k < n + 1 → P k := fun k hk => by
  by_cases e : k = n
  · subst e; exact h1
  · exact h k (by omega)
theorem obAt.toN {g : GG} {H : Heap} {a c n : Nat} {r : vw_C} {V V' : Nat → Value} (h : obAt g H a c V) (hc : classes[c]? = some r) (hn : r.2.2 = n) (hv : ∀ k, k < n → V k = V' k) : obAt g H a c V' := by
  obtain ⟨r', hr', ho⟩ := h
  cases hc.symm.trans hr'
  exact ⟨r, hc, ho.to (fun k hk => hv k (hn ▸ hk))⟩
theorem aAt.ext {g : GG} {H : Heap} {a n : Nat} {ty : FieldType} {f f' : Nat → Option Nat} (h : aAt g H a ty (n, .inr (.inr (.inr (.inr f))))) (hf : ∀ j, j < n → f j = f' j) : aAt g H a ty (n, .inr (.inr (.inr (.inr f')))) := by
  refine ⟨h.1, h.2.trans ?_⟩
  rw [vp_cell_q, vp_cell_q]
  unfold arrV
  rw [show (fun j : Fin n => va_rf (f j.val)) = (fun j : Fin n => va_rf (f' j.val)) from funext fun j => by rw [hf j.val j.isLt]]
def okC (c : Nat) : Bool := (decide (c = 1 ∨ c = 4 ∨ c = 5 ∨ c = 8)) || (List.range (if c = 9 then 8 else 1)).all fun i => decide (cellsT[pos0 c i]? = some (c, i)) && (List.range 100).all fun k => !(decide (2 ≤ FT c k ∧ FT c k ≤ 5)) || decide (cellsT[pos0 (1000 + 100 * c + k) i]? = some (1000 + 100 * c + k, i))
theorem okC_all : (List.range 13).all okC = true := by decide +kernel
theorem cells_all (c : Nat) (hc : c < 13) : (c = 1 ∨ c = 4 ∨ c = 5 ∨ c = 8) ∨ ∀ i, i < (if c = 9 then 8 else 1) → (cellsT[pos0 c i]? = some (c, i)) ∧ ∀ k, k < 100 → isA c k → cellsT[pos0 (1000 + 100 * c + k) i]? = some (1000 + 100 * c + k, i) := by
  have h := List.all_eq_true.mp okC_all c (List.mem_range.mpr hc)
  unfold okC at h
  rcases Bool.or_eq_true _ _ |>.mp h with h | h
  · exact Or.inl (of_decide_eq_true h)
  · refine Or.inr (fun i hi => ?_)
    have h2 := List.all_eq_true.mp h i (List.mem_range.mpr hi)
    obtain ⟨h3, h4⟩ := Bool.and_eq_true _ _ |>.mp h2
    refine ⟨of_decide_eq_true h3, fun k hk ha => ?_⟩
    have h5 := List.all_eq_true.mp h4 k (List.mem_range.mpr hk)
    rcases Bool.or_eq_true _ _ |>.mp h5 with h6 | h6
    · have ha' : 2 ≤ FT c k ∧ FT c k ≤ 5 := ha
      rw [decide_eq_true ha'] at h6
      exact absurd h6 (by decide)
    · exact of_decide_eq_true h6
theorem lv0 {c i : Nat} (h : lvf x0 c i) : ¬ (c = 1 ∨ c = 4 ∨ c = 5 ∨ c = 8) ∧ i < (if c = 9 then 8 else 1) := by
  unfold lvf at h
  by_cases h1 : c = 1
  · rw [if_pos h1] at h; exact absurd h (Nat.not_lt_zero _)
  rw [if_neg h1] at h
  by_cases h4 : c = 4
  · rw [if_pos h4] at h; exact absurd h (Nat.not_lt_zero _)
  rw [if_neg h4] at h
  by_cases h5 : c = 5
  · rw [if_pos h5] at h; exact absurd h (Nat.not_lt_zero _)
  rw [if_neg h5] at h
  by_cases h8 : c = 8
  · rw [if_pos h8] at h; exact absurd h.1 (Nat.not_lt_zero _)
  rw [if_neg h8] at h
  by_cases h9 : c = 9
  · rw [if_pos h9] at h ⊢; exact ⟨by omega, h⟩
  · rw [if_neg h9] at h ⊢; exact ⟨by omega, by omega⟩
theorem cell_at {κ c i : Nat} (hk : vk κ c) (hl : lvf x0 c i) : cellsT[pos0 κ i]? = some (κ, i) := by
  obtain ⟨h1, h2⟩ := lv0 hl
  rcases hk with ⟨rfl, hc⟩ | ⟨k, rfl, ha⟩
  · exact (((cells_all κ hc).resolve_left h1) i h2).1
  · have := isA_lt ha
    exact (((cells_all c this.2).resolve_left h1) i h2).2 k this.1 ha
theorem ap0 {g : GG} {n0 : Nat} (h : gB g ≤ n0) : AP g (ad0 n0) x0 := by
  refine ⟨fun κ c i κ' c' i' h1 h2 h3 h4 e => ?_, fun κ c i h1 h2 => Nat.le_trans h (Nat.le_add_right _ _)⟩
  have e' : pos0 κ i = pos0 κ' i' := Nat.add_left_cancel e
  have a := cell_at h1 h3
  have b := cell_at h2 h4
  rw [e', b] at a
  cases a
  exact ⟨rfl, rfl⟩
abbrev bs0 (n0 : Nat) : List CE := z11 n0 ++ z12 (n0 + 48)
theorem r0_o0 (n0 : Nat) : ∀ k, k < 2 → o0_2 (n0 + 16) k = fv (ad0 n0) x0 0 0 k := by
  refine fa_s ?_ rfl
  refine fa_s ?_ rfl
  exact fa_0
theorem r0_o2 (n0 : Nat) : ∀ k, k < 3 → o2_3 (n0 + 5) k = fv (ad0 n0) x0 2 0 k := by
  refine fa_s ?_ rfl
  refine fa_s ?_ rfl
  refine fa_s ?_ rfl
  exact fa_0
theorem r0_o3 (n0 : Nat) : ∀ k, k < 8 → o3_8 (n0 + 10) k = fv (ad0 n0) x0 3 0 k := by
  refine fa_s ?_ rfl
  refine fa_s ?_ rfl
  refine fa_s ?_ rfl
  refine fa_s ?_ rfl
  refine fa_s ?_ rfl
  refine fa_s ?_ rfl
  refine fa_s ?_ rfl
  refine fa_s ?_ rfl
  exact fa_0
theorem r0_o6 (n0 : Nat) : ∀ k, k < 9 → o6_9 (n0 + 22) k = fv (ad0 n0) x0 6 0 k := by
  refine fa_s ?_ rfl
  refine fa_s ?_ rfl
  refine fa_s ?_ rfl
  refine fa_s ?_ rfl
  refine fa_s ?_ rfl
  refine fa_s ?_ rfl
  refine fa_s ?_ rfl
  refine fa_s ?_ rfl
  refine fa_s ?_ rfl
  exact fa_0
theorem r0_o7 (n0 : Nat) : ∀ k, k < 4 → o7_4 (n0 + 19) k = fv (ad0 n0) x0 7 0 k := by
  refine fa_s ?_ rfl
  refine fa_s ?_ rfl
  refine fa_s ?_ rfl
  refine fa_s ?_ rfl
  exact fa_0
theorem r0_o9 (n0 i : Nat) : ∀ k, k < 4 → o9_4 (n0 + (32 + 2 * i)) k = fv (ad0 n0) x0 9 i k :=
  (fa_s (fa_s (fa_s (fa_s fa_0 rfl) rfl) rfl) rfl)
theorem r0_o10 (n0 : Nat) : ∀ k, k < 3 → o10_3 (n0 + 8) k = fv (ad0 n0) x0 10 0 k := by
  refine fa_s ?_ rfl
  refine fa_s ?_ rfl
  refine fa_s ?_ rfl
  exact fa_0
theorem r0_o11 (n0 : Nat) : ∀ k, k < 19 → o11_19 (n0) k = fv (ad0 n0) x0 11 0 k := by
  refine fa_s ?_ rfl
  refine fa_s ?_ rfl
  refine fa_s ?_ rfl
  refine fa_s ?_ rfl
  refine fa_s ?_ rfl
  refine fa_s ?_ rfl
  refine fa_s ?_ rfl
  refine fa_s ?_ rfl
  refine fa_s ?_ rfl
  refine fa_s ?_ rfl
  refine fa_s ?_ rfl
  refine fa_s ?_ rfl
  refine fa_s ?_ rfl
  refine fa_s ?_ rfl
  refine fa_s ?_ rfl
  refine fa_s ?_ rfl
  refine fa_s ?_ rfl
  refine fa_s ?_ rfl
  refine fa_s ?_ rfl
  exact fa_0
theorem r0_o12 (n0 : Nat) : ∀ k, k < 88 → o12_78 (n0 + 48) k = fv (ad0 n0) m0 12 0 k := by
  refine fa_s ?_ rfl
  refine fa_s ?_ rfl
  refine fa_s ?_ rfl
  refine fa_s ?_ rfl
  refine fa_s ?_ rfl
  refine fa_s ?_ rfl
  refine fa_s ?_ rfl
  refine fa_s ?_ rfl
  refine fa_s ?_ rfl
  refine fa_s ?_ rfl
  refine fa_s ?_ rfl
  refine fa_s ?_ rfl
  refine fa_s ?_ rfl
  refine fa_s ?_ rfl
  refine fa_s ?_ rfl
  refine fa_s ?_ rfl
  refine fa_s ?_ rfl
  refine fa_s ?_ rfl
  refine fa_s ?_ rfl
  refine fa_s ?_ rfl
  refine fa_s ?_ rfl
  refine fa_s ?_ rfl
  refine fa_s ?_ rfl
  refine fa_s ?_ rfl
  refine fa_s ?_ rfl
  refine fa_s ?_ rfl
  refine fa_s ?_ rfl
  refine fa_s ?_ rfl
  refine fa_s ?_ rfl
  refine fa_s ?_ rfl
  refine fa_s ?_ rfl
  refine fa_s ?_ rfl
  refine fa_s ?_ rfl
  refine fa_s ?_ rfl
  refine fa_s ?_ rfl
  refine fa_s ?_ rfl
  refine fa_s ?_ rfl
  refine fa_s ?_ rfl
  refine fa_s ?_ rfl
  refine fa_s ?_ rfl
  refine fa_s ?_ rfl
  refine fa_s ?_ rfl
  refine fa_s ?_ rfl
  refine fa_s ?_ rfl
  refine fa_s ?_ rfl
  refine fa_s ?_ rfl
  refine fa_s ?_ rfl
  refine fa_s ?_ rfl
  refine fa_s ?_ rfl
  refine fa_s ?_ rfl
  refine fa_s ?_ rfl
  refine fa_s ?_ rfl
  refine fa_s ?_ rfl
  refine fa_s ?_ rfl
  refine fa_s ?_ rfl
  refine fa_s ?_ rfl
  refine fa_s ?_ rfl
  refine fa_s ?_ rfl
  refine fa_s ?_ rfl
  refine fa_s ?_ rfl
  refine fa_s ?_ rfl
  refine fa_s ?_ rfl
  refine fa_s ?_ rfl
  refine fa_s ?_ rfl
  refine fa_s ?_ rfl
  refine fa_s ?_ rfl
  refine fa_s ?_ rfl
  refine fa_s ?_ rfl
  refine fa_s ?_ rfl
  refine fa_s ?_ rfl
  refine fa_s ?_ rfl
  refine fa_s ?_ rfl
  refine fa_s ?_ rfl
  refine fa_s ?_ rfl
  refine fa_s ?_ rfl
  refine fa_s ?_ rfl
  refine fa_s ?_ rfl
  refine fa_s ?_ rfl
  refine fa_s ?_ rfl
  refine fa_s ?_ rfl
  refine fa_s ?_ rfl
  refine fa_s ?_ rfl
  refine fa_s ?_ rfl
  refine fa_s ?_ rfl
  refine fa_s ?_ rfl
  refine fa_s ?_ rfl
  refine fa_s ?_ rfl
  refine fa_s ?_ rfl
  exact fa_0
theorem r0_a0 {g : GG} {A : Heap → Prop} {n0 : Nat} {H : Heap} (h : CK g A n0 (bs0 n0) H) : ∀ k, k < 2 → isA 0 k → aAt g H (ad0 n0 (1000 + 100 * 0 + k) 0) (aty 0 k) (acn (ad0 n0) x0 0 k 0) := by
  refine fa_s ?_ (fun _ => h.ar (k := 18) (q := (.int, (60, .inl (fun _ => 0)))) rfl)
  refine fa_s ?_ (fun _ => h.ar (k := 17) (q := (.int, (3721, .inl (fun _ => 0)))) rfl)
  exact fa_0
theorem r0_a2 {g : GG} {A : Heap → Prop} {n0 : Nat} {H : Heap} (h : CK g A n0 (bs0 n0) H) : ∀ k, k < 3 → isA 2 k → aAt g H (ad0 n0 (1000 + 100 * 2 + k) 0) (aty 2 k) (acn (ad0 n0) x0 2 k 0) := by
  refine fa_s ?_ (fun h => absurd h (by unfold isA; decide))
  refine fa_s ?_ (fun _ => h.ar (k := 7) (q := (.int, (8, .inl (fun _ => 0)))) rfl)
  refine fa_s ?_ (fun _ => h.ar (k := 6) (q := (.int, (8, .inl (fun _ => 0)))) rfl)
  exact fa_0
theorem r0_a3 {g : GG} {A : Heap → Prop} {n0 : Nat} {H : Heap} (h : CK g A n0 (bs0 n0) H) : ∀ k, k < 8 → isA 3 k → aAt g H (ad0 n0 (1000 + 100 * 3 + k) 0) (aty 3 k) (acn (ad0 n0) x0 3 k 0) := by
  refine fa_s ?_ (fun _ => h.ar (k := 15) (q := (.int, (2048, .inl (fun _ => 0)))) rfl)
  refine fa_s ?_ (fun _ => h.ar (k := 14) (q := (.int, (256, .inl (fun _ => 0)))) rfl)
  refine fa_s ?_ (fun h => absurd h (by unfold isA; decide))
  refine fa_s ?_ (fun _ => h.ar (k := 13) (q := (.int, (8, .inl (fun _ => 0)))) rfl)
  refine fa_s ?_ (fun _ => h.ar (k := 12) (q := (.int, (8, .inl (fun _ => 0)))) rfl)
  refine fa_s ?_ (fun h => absurd h (by unfold isA; decide))
  refine fa_s ?_ (fun h => absurd h (by unfold isA; decide))
  refine fa_s ?_ (fun _ => h.ar (k := 11) (q := (.int, (16, .inl (fun _ => 0)))) rfl)
  exact fa_0
theorem r0_a6 {g : GG} {A : Heap → Prop} {n0 : Nat} {H : Heap} (h : CK g A n0 (bs0 n0) H) : ∀ k, k < 9 → isA 6 k → aAt g H (ad0 n0 (1000 + 100 * 6 + k) 0) (aty 6 k) (acn (ad0 n0) x0 6 k 0) := by
  refine fa_s ?_ (fun _ => h.ar (k := 28) (q := (.int, (8, .inl (fun _ => 0)))) rfl)
  refine fa_s ?_ (fun _ => h.ar (k := 27) (q := (.int, (8, .inl (fun _ => 0)))) rfl)
  refine fa_s ?_ (fun _ => h.ar (k := 26) (q := (.int, (9, .inl (fun _ => 0)))) rfl)
  refine fa_s ?_ (fun _ => h.ar (k := 25) (q := (.int, (8, .inl (fun _ => 0)))) rfl)
  refine fa_s ?_ (fun _ => h.ar (k := 24) (q := (.int, (8, .inl (fun _ => 0)))) rfl)
  refine fa_s ?_ (fun h => absurd h (by unfold isA; decide))
  refine fa_s ?_ (fun h => absurd h (by unfold isA; decide))
  refine fa_s ?_ (fun h => absurd h (by unfold isA; decide))
  refine fa_s ?_ (fun _ => h.ar (k := 23) (q := (.int, (8, .inl (fun _ => 0)))) rfl)
  exact fa_0
theorem r0_a7 {g : GG} {A : Heap → Prop} {n0 : Nat} {H : Heap} (h : CK g A n0 (bs0 n0) H) : ∀ k, k < 4 → isA 7 k → aAt g H (ad0 n0 (1000 + 100 * 7 + k) 0) (aty 7 k) (acn (ad0 n0) x0 7 k 0) := by
  refine fa_s ?_ (fun h => absurd h (by unfold isA; decide))
  refine fa_s ?_ (fun h => absurd h (by unfold isA; decide))
  refine fa_s ?_ (fun _ => h.ar (k := 21) (q := (.int, (9, .inl (fun _ => 0)))) rfl)
  refine fa_s ?_ (fun _ => h.ar (k := 20) (q := (.int, (8, .inl (fun _ => 0)))) rfl)
  exact fa_0
theorem r0_a10 {g : GG} {A : Heap → Prop} {n0 : Nat} {H : Heap} (h : CK g A n0 (bs0 n0) H) : ∀ k, k < 3 → isA 10 k → aAt g H (ad0 n0 (1000 + 100 * 10 + k) 0) (aty 10 k) (acn (ad0 n0) x0 10 k 0) := by
  refine fa_s ?_ (fun h => absurd h (by unfold isA; decide))
  refine fa_s ?_ (fun h => absurd h (by unfold isA; decide))
  refine fa_s ?_ (fun _ => h.ar (k := 9) (q := (.int, (6, .inl (fun _ => 0)))) rfl)
  exact fa_0
theorem r0_a11 {g : GG} {A : Heap → Prop} {n0 : Nat} {H : Heap} (h : CK g A n0 (bs0 n0) H) : ∀ k, k < 19 → isA 11 k → aAt g H (ad0 n0 (1000 + 100 * 11 + k) 0) (aty 11 k) (acn (ad0 n0) x0 11 k 0) := by
  refine fa_s ?_ (fun h => absurd h (by unfold isA; decide))
  refine fa_s ?_ (fun h => absurd h (by unfold isA; decide))
  refine fa_s ?_ (fun h => absurd h (by unfold isA; decide))
  refine fa_s ?_ (fun h => absurd h (by unfold isA; decide))
  refine fa_s ?_ (fun h => absurd h (by unfold isA; decide))
  refine fa_s ?_ (fun h => absurd h (by unfold isA; decide))
  refine fa_s ?_ (fun _ => h.ar (k := 31) (q := (.int, (7, .inl (fun _ => 0)))) rfl)
  refine fa_s ?_ (fun _ => h.ar (k := 30) (q := (.int, (4, .inl (fun _ => 0)))) rfl)
  refine fa_s ?_ (fun _ => h.ar (k := 29) (q := (.int, (4, .inl (upd (upd (upd (upd (fun _ => 0) 0 9) 1 9) 2 9) 3 9)))) rfl)
  refine fa_s ?_ (fun h => absurd h (by unfold isA; decide))
  refine fa_s ?_ (fun h => absurd h (by unfold isA; decide))
  refine fa_s ?_ (fun h => absurd h (by unfold isA; decide))
  refine fa_s ?_ (fun h => absurd h (by unfold isA; decide))
  refine fa_s ?_ (fun h => absurd h (by unfold isA; decide))
  refine fa_s ?_ (fun h => absurd h (by unfold isA; decide))
  refine fa_s ?_ (fun _ => aAt.ext (h.ar (k := 4) (q := (.object RX1, (6, .inr (.inr (.inr (.inr (fun _ => none))))))) rfl) (fun _ _ => rfl))
  refine fa_s ?_ (fun _ => aAt.ext (h.ar (k := 3) (q := (.object RX5, (8, .inr (.inr (.inr (.inr (fun _ => none))))))) rfl) (fun _ _ => rfl))
  refine fa_s ?_ (fun _ => aAt.ext (h.ar (k := 2) (q := (.object RX4, (16, .inr (.inr (.inr (.inr (fun _ => none))))))) rfl) (fun _ _ => rfl))
  refine fa_s ?_ (fun _ => aAt.ext (h.ar (k := 1) (q := (.object RX9, (8, .inr (.inr (.inr (.inr (va_up (va_up (va_up (va_up (va_up (va_up (va_up (va_up (fun _ => none) 0 (some (n0 + 32))) 1 (some (n0 + 34))) 2 (some (n0 + 36))) 3 (some (n0 + 38))) 4 (some (n0 + 40))) 5 (some (n0 + 42))) 6 (some (n0 + 44))) 7 (some (n0 + 46))))))))) rfl) (fa_s (fa_s (fa_s (fa_s (fa_s (fa_s (fa_s (fa_s fa_0 rfl) rfl) rfl) rfl) rfl) rfl) rfl) rfl))
  exact fa_0
theorem r0_a12 {g : GG} {A : Heap → Prop} {n0 : Nat} {H : Heap} (h : CK g A n0 (bs0 n0) H) : ∀ k, k < 88 → isA 12 k → aAt g H (ad0 n0 (1000 + 100 * 12 + k) 0) (aty 12 k) (acn (ad0 n0) m0 12 k 0) := by
  refine fa_s ?_ (fun _ => h.ar (k := 124) (q := (.int, (8, .inl (fun _ => 0)))) rfl)
  refine fa_s ?_ (fun _ => h.ar (k := 123) (q := (.int, (9, .inl (fun _ => 0)))) rfl)
  refine fa_s ?_ (fun _ => h.ar (k := 122) (q := (.int, (9, .inl (fun _ => 0)))) rfl)
  refine fa_s ?_ (fun _ => h.ar (k := 121) (q := (.int, (9, .inl (fun _ => 0)))) rfl)
  refine fa_s ?_ (fun _ => h.ar (k := 120) (q := (.int, (8, .inl (fun _ => 0)))) rfl)
  refine fa_s ?_ (fun _ => h.ar (k := 119) (q := (.int, (9, .inl (fun _ => 0)))) rfl)
  refine fa_s ?_ (fun _ => h.ar (k := 118) (q := (.int, (9, .inl (fun _ => 0)))) rfl)
  refine fa_s ?_ (fun _ => h.ar (k := 117) (q := (.int, (9, .inl (fun _ => 0)))) rfl)
  refine fa_s ?_ (fun _ => h.ar (k := 116) (q := (.int, (9, .inl (fun _ => 0)))) rfl)
  refine fa_s ?_ (fun _ => h.ar (k := 115) (q := (.int, (9, .inl (fun _ => 0)))) rfl)
  refine fa_s ?_ (fun _ => h.ar (k := 114) (q := (.int, (60, .inl (fun _ => 0)))) rfl)
  refine fa_s ?_ (fun _ => h.ar (k := 113) (q := (.int, (3721, .inl (fun _ => 0)))) rfl)
  refine fa_s ?_ (fun h => absurd h (by unfold isA; decide))
  refine fa_s ?_ (fun _ => h.ar (k := 112) (q := (.int, (9, .inl (fun _ => 0)))) rfl)
  refine fa_s ?_ (fun _ => h.ar (k := 111) (q := (.int, (9, .inl (fun _ => 0)))) rfl)
  refine fa_s ?_ (fun _ => h.ar (k := 110) (q := (.int, (8, .inl (fun _ => 0)))) rfl)
  refine fa_s ?_ (fun _ => h.ar (k := 109) (q := (.int, (8, .inl (fun _ => 0)))) rfl)
  refine fa_s ?_ (fun _ => h.ar (k := 108) (q := (.int, (6, .inl (fun _ => 0)))) rfl)
  refine fa_s ?_ (fun _ => h.ar (k := 107) (q := (.int, (8, .inl (fun _ => 0)))) rfl)
  refine fa_s ?_ (fun _ => h.ar (k := 106) (q := (.int, (8, .inl (fil (-1) 8)))) rfl)
  refine fa_s ?_ (fun _ => h.ar (k := 105) (q := (.int, (64, .inl (fun _ => 0)))) rfl)
  refine fa_s ?_ (fun _ => h.ar (k := 104) (q := (.int, (8, .inl (fil (1) 8)))) rfl)
  refine fa_s ?_ (fun _ => h.ar (k := 103) (q := (.boolean, (240, .inl (fun _ => 0)))) rfl)
  refine fa_s ?_ (fun _ => h.ar (k := 102) (q := (.int, (240, .inl (fil (-1) 240)))) rfl)
  refine fa_s ?_ (fun _ => h.ar (k := 101) (q := (.int, (6, .inl (fun _ => 0)))) rfl)
  refine fa_s ?_ (fun _ => h.ar (k := 100) (q := (.int, (6, .inl (fun _ => 0)))) rfl)
  refine fa_s ?_ (fun _ => h.ar (k := 99) (q := (.int, (6, .inl (fun _ => 0)))) rfl)
  refine fa_s ?_ (fun _ => h.ar (k := 98) (q := (.int, (6, .inl (fun _ => 0)))) rfl)
  refine fa_s ?_ (fun _ => h.ar (k := 97) (q := (.int, (32, .inl (fun _ => 0)))) rfl)
  refine fa_s ?_ (fun _ => h.ar (k := 96) (q := (.int, (32, .inl (fun _ => 0)))) rfl)
  refine fa_s ?_ (fun _ => h.ar (k := 95) (q := (.int, (4, .inl (fun _ => 0)))) rfl)
  refine fa_s ?_ (fun _ => h.ar (k := 94) (q := (.int, (64, .inl (fil (-1) 64)))) rfl)
  refine fa_s ?_ (fun _ => h.ar (k := 93) (q := (.int, (256, .inl (fun _ => 0)))) rfl)
  refine fa_s ?_ (fun _ => h.ar (k := 92) (q := (.int, (256, .inl (fun _ => 0)))) rfl)
  refine fa_s ?_ (fun _ => h.ar (k := 91) (q := (.int, (256, .inl (fun _ => 0)))) rfl)
  refine fa_s ?_ (fun _ => h.ar (k := 90) (q := (.int, (64, .inl (fun _ => 0)))) rfl)
  refine fa_s ?_ (fun _ => h.ar (k := 89) (q := (.int, (4, .inl (fil (9) 4)))) rfl)
  refine fa_s ?_ (fun _ => h.ar (k := 88) (q := (.long, (480, .inr (.inl (fun _ => 0))))) rfl)
  refine fa_s ?_ (fun _ => h.ar (k := 87) (q := (.int, (480, .inl (fun _ => 0)))) rfl)
  refine fa_s ?_ (fun _ => h.ar (k := 86) (q := (.int, (8, .inl (fun _ => 0)))) rfl)
  refine fa_s ?_ (fun _ => h.ar (k := 85) (q := (.int, (8, .inl (fun _ => 0)))) rfl)
  refine fa_s ?_ (fun _ => h.ar (k := 84) (q := (.int, (8, .inl (fun _ => 0)))) rfl)
  refine fa_s ?_ (fun _ => h.ar (k := 83) (q := (.int, (8, .inl (fun _ => 0)))) rfl)
  refine fa_s ?_ (fun _ => h.ar (k := 82) (q := (.int, (8, .inl (fun _ => 0)))) rfl)
  refine fa_s ?_ (fun _ => h.ar (k := 81) (q := (.int, (8, .inl (fil (-1) 8)))) rfl)
  refine fa_s ?_ (fun _ => h.ar (k := 80) (q := (.int, (64, .inl (fun _ => 0)))) rfl)
  refine fa_s ?_ (fun _ => h.ar (k := 79) (q := (.int, (64, .inl (fun _ => 0)))) rfl)
  refine fa_s ?_ (fun _ => h.ar (k := 78) (q := (.boolean, (8, .inl (fun _ => 0)))) rfl)
  refine fa_s ?_ (fun _ => h.ar (k := 77) (q := (.int, (256, .inl (fun _ => 0)))) rfl)
  refine fa_s ?_ (fun _ => h.ar (k := 76) (q := (.int, (64, .inl (fun _ => 0)))) rfl)
  refine fa_s ?_ (fun _ => h.ar (k := 75) (q := (.int, (64, .inl (fun _ => 0)))) rfl)
  refine fa_s ?_ (fun _ => h.ar (k := 74) (q := (.int, (64, .inl (fun _ => 0)))) rfl)
  refine fa_s ?_ (fun _ => h.ar (k := 73) (q := (.int, (8, .inl (fun _ => 0)))) rfl)
  refine fa_s ?_ (fun _ => h.ar (k := 72) (q := (.int, (8, .inl (fun _ => 0)))) rfl)
  refine fa_s ?_ (fun _ => h.ar (k := 71) (q := (.long, (960, .inr (.inl (fun _ => 0))))) rfl)
  refine fa_s ?_ (fun _ => h.ar (k := 70) (q := (.int, (16, .inl (fun _ => 0)))) rfl)
  refine fa_s ?_ (fun _ => h.ar (k := 69) (q := (.int, (8, .inl (fun _ => 0)))) rfl)
  refine fa_s ?_ (fun _ => h.ar (k := 68) (q := (.int, (8, .inl (fun _ => 0)))) rfl)
  refine fa_s ?_ (fun _ => h.ar (k := 67) (q := (.int, (80, .inl (fun _ => 0)))) rfl)
  refine fa_s ?_ (fun _ => h.ar (k := 66) (q := (.boolean, (16, .inl (fun _ => 0)))) rfl)
  refine fa_s ?_ (fun _ => h.ar (k := 65) (q := (.boolean, (16, .inl (fun _ => 0)))) rfl)
  refine fa_s ?_ (fun _ => h.ar (k := 64) (q := (.int, (16, .inl (fun _ => 0)))) rfl)
  refine fa_s ?_ (fun _ => h.ar (k := 63) (q := (.int, (16, .inl (fun _ => 0)))) rfl)
  refine fa_s ?_ (fun _ => h.ar (k := 62) (q := (.int, (16, .inl (fun _ => 0)))) rfl)
  refine fa_s ?_ (fun _ => h.ar (k := 61) (q := (.int, (16, .inl (fun _ => 0)))) rfl)
  refine fa_s ?_ (fun _ => h.ar (k := 60) (q := (.int, (16, .inl (fun _ => 0)))) rfl)
  refine fa_s ?_ (fun _ => h.ar (k := 59) (q := (.int, (16, .inl (fun _ => 0)))) rfl)
  refine fa_s ?_ (fun _ => h.ar (k := 58) (q := (.int, (16, .inl (fun _ => 0)))) rfl)
  refine fa_s ?_ (fun _ => h.ar (k := 57) (q := (.int, (16, .inl (fun _ => 0)))) rfl)
  refine fa_s ?_ (fun _ => h.ar (k := 56) (q := (.int, (16, .inl (fun _ => 0)))) rfl)
  refine fa_s ?_ (fun _ => h.ar (k := 55) (q := (.int, (16, .inl (fun _ => 0)))) rfl)
  refine fa_s ?_ (fun _ => h.ar (k := 54) (q := (.long, (60, .inr (.inl (fun _ => 0))))) rfl)
  refine fa_s ?_ (fun _ => h.ar (k := 53) (q := (.long, (480, .inr (.inl (fun _ => 0))))) rfl)
  refine fa_s ?_ (fun _ => h.ar (k := 52) (q := (.int, (8, .inl (fun _ => 0)))) rfl)
  refine fa_s ?_ (fun _ => h.ar (k := 51) (q := (.int, (8, .inl (fun _ => 0)))) rfl)
  refine fa_s ?_ (fun _ => h.ar (k := 50) (q := (.int, (8, .inl (fun _ => 0)))) rfl)
  refine fa_s ?_ (fun _ => h.ar (k := 49) (q := (.int, (8, .inl (fun _ => 0)))) rfl)
  refine fa_s ?_ (fun h => absurd h (by unfold isA; decide))
  refine fa_s ?_ (fun h => absurd h (by unfold isA; decide))
  refine fa_s ?_ (fun h => absurd h (by unfold isA; decide))
  refine fa_s ?_ (fun h => absurd h (by unfold isA; decide))
  refine fa_s ?_ (fun h => absurd h (by unfold isA; decide))
  refine fa_s ?_ (fun h => absurd h (by unfold isA; decide))
  refine fa_s ?_ (fun h => absurd h (by unfold isA; decide))
  refine fa_s ?_ (fun h => absurd h (by unfold isA; decide))
  refine fa_s ?_ (fun h => absurd h (by unfold isA; decide))
  refine fa_s ?_ (fun h => absurd h (by unfold isA; decide))
  refine fa_s ?_ (fun h => absurd h (by unfold isA; decide))
  exact fa_0
theorem r0_a9 {g : GG} {A : Heap → Prop} {n0 : Nat} {H : Heap} (h : CK g A n0 (bs0 n0) H) : ∀ i, i < 8 → aAt g H (ad0 n0 (1000 + 100 * 9 + 0) i) (aty 9 0) (acn (ad0 n0) x0 9 0 i) :=
  (fa_s (fa_s (fa_s (fa_s (fa_s (fa_s (fa_s (fa_s fa_0 (h.ar (k := 33) (q := (.long, (60, .inr (.inl (fun _ => 0))))) rfl)) (h.ar (k := 35) (q := (.long, (60, .inr (.inl (fun _ => 0))))) rfl)) (h.ar (k := 37) (q := (.long, (60, .inr (.inl (fun _ => 0))))) rfl)) (h.ar (k := 39) (q := (.long, (60, .inr (.inl (fun _ => 0))))) rfl)) (h.ar (k := 41) (q := (.long, (60, .inr (.inl (fun _ => 0))))) rfl)) (h.ar (k := 43) (q := (.long, (60, .inr (.inl (fun _ => 0))))) rfl)) (h.ar (k := 45) (q := (.long, (60, .inr (.inl (fun _ => 0))))) rfl)) (h.ar (k := 47) (q := (.long, (60, .inr (.inl (fun _ => 0))))) rfl))
theorem r0_b9 {g : GG} {A : Heap → Prop} {n0 : Nat} {H : Heap} (h : CK g A n0 (bs0 n0) H) : ∀ i, i < 8 → obAt g H (ad0 n0 9 i) 9 (o9_4 (n0 + (32 + 2 * i))) :=
  (fa_s (fa_s (fa_s (fa_s (fa_s (fa_s (fa_s (fa_s fa_0 (h.ob (k := 32) (fs := o9_4 (n0 + 32)) rfl)) (h.ob (k := 34) (fs := o9_4 (n0 + 34)) rfl)) (h.ob (k := 36) (fs := o9_4 (n0 + 36)) rfl)) (h.ob (k := 38) (fs := o9_4 (n0 + 38)) rfl)) (h.ob (k := 40) (fs := o9_4 (n0 + 40)) rfl)) (h.ob (k := 42) (fs := o9_4 (n0 + 42)) rfl)) (h.ob (k := 44) (fs := o9_4 (n0 + 44)) rfl)) (h.ob (k := 46) (fs := o9_4 (n0 + 46)) rfl))
theorem isA_n {c k n : Nat} (h : isA c k) (hn : (ftT.getD c []).length = n) : k < n := by
  apply Nat.lt_of_not_le
  intro hk
  have h2 := h.2
  unfold FT at h2
  rw [List.getD_eq_getElem?_getD, List.getElem?_eq_none (by omega)] at h2
  exact absurd h2 (by decide)
theorem isA_9 : ∀ k, k < 100 → isA 9 k → k = 0 := by unfold isA; decide +kernel
theorem rep0 {g : GG} {A : Heap → Prop} {n0 : Nat} {H : Heap} (h : CK g A n0 (bs0 n0) H) : Rep g (ad0 n0) x0 m0 H := by
  refine ⟨fun c i hc hl => ?_, fun c k i ha hl => ?_, ap0 h.1⟩
  · obtain ⟨h1, h2⟩ := lv0 hl
    by_cases e0 : c = 0
    · subst e0
      have e : i = 0 := Nat.lt_one_iff.mp (show i < 1 from h2)
      subst e
      rw [vsel_x _ _ (by omega)]
      exact (h.ob (k := 16) (fs := o0_2 (n0 + 16)) rfl).toN rfl rfl (r0_o0 n0)
    by_cases e2 : c = 2
    · subst e2
      have e : i = 0 := Nat.lt_one_iff.mp (show i < 1 from h2)
      subst e
      rw [vsel_x _ _ (by omega)]
      exact (h.ob (k := 5) (fs := o2_3 (n0 + 5)) rfl).toN rfl rfl (r0_o2 n0)
    by_cases e3 : c = 3
    · subst e3
      have e : i = 0 := Nat.lt_one_iff.mp (show i < 1 from h2)
      subst e
      rw [vsel_x _ _ (by omega)]
      exact (h.ob (k := 10) (fs := o3_8 (n0 + 10)) rfl).toN rfl rfl (r0_o3 n0)
    by_cases e6 : c = 6
    · subst e6
      have e : i = 0 := Nat.lt_one_iff.mp (show i < 1 from h2)
      subst e
      rw [vsel_x _ _ (by omega)]
      exact (h.ob (k := 22) (fs := o6_9 (n0 + 22)) rfl).toN rfl rfl (r0_o6 n0)
    by_cases e7 : c = 7
    · subst e7
      have e : i = 0 := Nat.lt_one_iff.mp (show i < 1 from h2)
      subst e
      rw [vsel_x _ _ (by omega)]
      exact (h.ob (k := 19) (fs := o7_4 (n0 + 19)) rfl).toN rfl rfl (r0_o7 n0)
    by_cases e9 : c = 9
    · subst e9
      rw [vsel_x _ _ (by omega)]
      exact (r0_b9 h i h2).toN rfl rfl (r0_o9 n0 i)
    by_cases e10 : c = 10
    · subst e10
      have e : i = 0 := Nat.lt_one_iff.mp (show i < 1 from h2)
      subst e
      rw [vsel_x _ _ (by omega)]
      exact (h.ob (k := 8) (fs := o10_3 (n0 + 8)) rfl).toN rfl rfl (r0_o10 n0)
    by_cases e11 : c = 11
    · subst e11
      have e : i = 0 := Nat.lt_one_iff.mp (show i < 1 from h2)
      subst e
      rw [vsel_x _ _ (by omega)]
      exact (h.ob (k := 0) (fs := o11_19 (n0)) rfl).toN rfl rfl (r0_o11 n0)
    by_cases e12 : c = 12
    · subst e12
      have e : i = 0 := Nat.lt_one_iff.mp (show i < 1 from h2)
      subst e
      rw [vsel_m]
      exact (h.ob (k := 48) (fs := o12_78 (n0 + 48)) rfl).toN rfl rfl (r0_o12 n0)
    omega
  · obtain ⟨h1, h2⟩ := lv0 hl
    have hlt := isA_lt ha
    by_cases e0 : c = 0
    · subst e0
      have hk : k < 2 := isA_n ha rfl
      have e : i = 0 := Nat.lt_one_iff.mp (show i < 1 from h2)
      subst e
      rw [vsel_x _ _ (by omega)]
      exact r0_a0 h k hk ha
    by_cases e2 : c = 2
    · subst e2
      have hk : k < 3 := isA_n ha rfl
      have e : i = 0 := Nat.lt_one_iff.mp (show i < 1 from h2)
      subst e
      rw [vsel_x _ _ (by omega)]
      exact r0_a2 h k hk ha
    by_cases e3 : c = 3
    · subst e3
      have hk : k < 8 := isA_n ha rfl
      have e : i = 0 := Nat.lt_one_iff.mp (show i < 1 from h2)
      subst e
      rw [vsel_x _ _ (by omega)]
      exact r0_a3 h k hk ha
    by_cases e6 : c = 6
    · subst e6
      have hk : k < 9 := isA_n ha rfl
      have e : i = 0 := Nat.lt_one_iff.mp (show i < 1 from h2)
      subst e
      rw [vsel_x _ _ (by omega)]
      exact r0_a6 h k hk ha
    by_cases e7 : c = 7
    · subst e7
      have hk : k < 4 := isA_n ha rfl
      have e : i = 0 := Nat.lt_one_iff.mp (show i < 1 from h2)
      subst e
      rw [vsel_x _ _ (by omega)]
      exact r0_a7 h k hk ha
    by_cases e9 : c = 9
    · subst e9
      have hk : k < 4 := isA_n ha rfl
      rw [vsel_x _ _ (by omega)]
      have hk0 : k = 0 := isA_9 k hlt.1 ha
      subst hk0
      exact r0_a9 h i h2
    by_cases e10 : c = 10
    · subst e10
      have hk : k < 3 := isA_n ha rfl
      have e : i = 0 := Nat.lt_one_iff.mp (show i < 1 from h2)
      subst e
      rw [vsel_x _ _ (by omega)]
      exact r0_a10 h k hk ha
    by_cases e11 : c = 11
    · subst e11
      have hk : k < 19 := isA_n ha rfl
      have e : i = 0 := Nat.lt_one_iff.mp (show i < 1 from h2)
      subst e
      rw [vsel_x _ _ (by omega)]
      exact r0_a11 h k hk ha
    by_cases e12 : c = 12
    · subst e12
      have hk : k < 88 := isA_n ha rfl
      have e : i = 0 := Nat.lt_one_iff.mp (show i < 1 from h2)
      subst e
      rw [vsel_m]
      exact r0_a12 h k hk ha
    omega
