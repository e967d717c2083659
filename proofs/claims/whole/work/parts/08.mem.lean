def ftT : List (List Nat) := [[2, 2], [0, 0, 0, 2, 3, 0], [2, 2, 0], [2, 0, 0, 2, 2, 6, 2, 2], [0, 2, 4, 0, 0, 0, 1, 0, 0, 0, 0, 0, 0, 0], [0, 5, 0, 1, 2, 0, 0, 0, 0, 0, 4, 2, 0, 2, 2, 2, 0, 2], [2, 0, 0, 0, 2, 2, 2, 2, 2], [2, 2, 0, 0], [0, 0, 0, 0, 2, 0, 2, 2, 2], [4, 0, 0, 0], [2, 0, 0], [5, 5, 5, 5, 12, 20, 13, 10, 17, 16, 2, 2, 2, 0, 0, 0, 0, 0, 0], [0, 0, 0, 0, 0, 0, 0, 0, 0, 0, 0, 2, 2, 2, 2, 4, 4, 2, 2, 2, 2, 2, 2, 2, 2, 2, 2, 3, 3, 2, 2, 2, 2, 4, 2, 2, 2, 2, 2, 2, 3, 2, 2, 2, 2, 2, 2, 2, 2, 2, 4, 2, 2, 2, 2, 2, 2, 2, 2, 2, 2, 2, 2, 2, 2, 3, 2, 2, 2, 2, 2, 2, 2, 2, 2, 0, 2, 2, 2, 2, 2, 2, 2, 2, 2, 2, 2, 2]]
def lnT : List (List Nat) := [[3721, 60], [0, 0, 0, 40, 40, 0], [8, 8, 0], [16, 0, 0, 8, 8, 0, 256, 2048], [0, 6, 60, 0, 0, 0, 0, 0, 0, 0, 0, 0, 0, 0], [0, 8, 0, 0, 8, 0, 0, 0, 0, 0, 60, 60, 0, 8, 4, 4, 0, 8], [8, 0, 0, 0, 8, 8, 9, 8, 8], [8, 9, 0, 0], [0, 0, 0, 0, 4, 0, 4, 4, 4], [60, 0, 0, 0], [6, 0, 0], [8, 16, 8, 6, 0, 0, 0, 0, 0, 0, 4, 4, 7, 0, 0, 0, 0, 0, 0], [0, 0, 0, 0, 0, 0, 0, 0, 0, 0, 0, 8, 8, 8, 8, 480, 60, 16, 16, 16, 16, 16, 16, 16, 16, 16, 16, 16, 16, 80, 8, 8, 16, 960, 8, 8, 64, 64, 64, 256, 8, 64, 64, 8, 8, 8, 8, 8, 8, 480, 480, 4, 64, 256, 256, 256, 64, 4, 32, 32, 6, 6, 6, 6, 240, 240, 8, 64, 8, 8, 6, 8, 8, 9, 9, 0, 3721, 60, 9, 9, 9, 9, 9, 8, 9, 9, 9, 8]]
/-! the structured memory: x is the class's state, m the reference's; ad says where each cell lies -/
abbrev AD : Type := Nat → Nat → Nat
def FT (c k : Nat) : Nat := (ftT.getD c []).getD k 99
def LN (c k : Nat) : Nat := (lnT.getD c []).getD k 0
theorem FT_lt {c k : Nat} (h : FT c k < 99) : k < 100 ∧ c < 13 := by
  unfold FT at h
  have hc : c < 13 := by
    apply Nat.lt_of_not_le
    intro hc
    have e : ftT.getD c [] = [] := by
      rw [List.getD_eq_getElem?_getD, List.getElem?_eq_none (by show ftT.length ≤ c; exact hc)]
      rfl
    rw [e] at h
    simp at h
  refine ⟨?_, hc⟩
  apply Nat.lt_of_not_le
  intro hk
  have hlen : ∀ c, c < 13 → (ftT.getD c []).length ≤ 88 := by decide
  have := hlen c hc
  rw [List.getD_eq_getElem?_getD, List.getElem?_eq_none (by omega)] at h
  simp at h
def vsel (x m : VM) (c : Nat) : VM := if c = 12 then m else x
theorem vsel_x (x m : VM) {c : Nat} (h : c < 12) : vsel x m c = x := if_neg (by omega)
theorem vsel_m (x m : VM) : vsel x m 12 = m := if_pos rfl
def fnd (ad : AD) (x : VM) : Option Nat := if x.2.2.2 0 = 0 then none else some (ad 5 (x.2.2.2 0 - 1))
def fv (ad : AD) (v : VM) (c i k : Nat) : Value :=
  if FT c k < 2 then .int (v.1 (100 * c + k) i) else if FT c k < 6 then .ref (ad (1000 + 100 * c + k) i) else if FT c k = 6 then va_rf (fnd ad v) else .ref (ad (FT c k - 10) 0)
def rc (ad : AD) (v : VM) (c k i : Nat) : Nat → Option Nat :=
  if c = 5 then fun j => if j < v.2.2.2 (20 + i) then some (ad 8 (8 * i + j)) else none
  else if k = 0 then fun j => some (ad 9 j)
  else if k = 1 then fun j => if j < v.2.2.2 4 then some (ad 4 j) else none
  else if k = 2 then fun j => if j < v.2.2.2 5 then some (ad 5 j) else none
  else fun j => if j < v.2.2.2 1 then some (ad 1 j) else none
def rN (c k : Nat) : String := if c = 5 then RX8 else if k = 0 then RX9 else if k = 1 then RX4 else if k = 2 then RX5 else RX1
def aty (c k : Nat) : FieldType := if FT c k = 2 then .int else if FT c k = 3 then .boolean else if FT c k = 4 then .long else .object (rN c k)
def acn (ad : AD) (v : VM) (c k i : Nat) : vp_A := (LN c k, if FT c k < 4 then .inl (v.2.1 (100 * c + k) i) else if FT c k = 4 then .inr (.inl (v.2.2.1 (100 * c + k) i)) else .inr (.inr (.inr (.inr (rc ad v c k i)))))
def lvf (x : VM) (c i : Nat) : Prop := if c = 1 then i < x.2.2.2 1 else if c = 4 then i < x.2.2.2 4 else if c = 5 then i < x.2.2.2 5 else if c = 8 then i / 8 < x.2.2.2 5 ∧ i % 8 < x.2.2.2 (20 + i / 8) else if c = 9 then i < 8 else i = 0
def isA (c k : Nat) : Prop := 2 ≤ FT c k ∧ FT c k ≤ 5
/-- a kind of cell: objects of class c, or their array in field k -/
def vk (κ c : Nat) : Prop := (κ = c ∧ c < 13) ∨ ∃ k, κ = 1000 + 100 * c + k ∧ isA c k
def AP (g : GG) (ad : AD) (x : VM) : Prop := (∀ κ c i κ' c' i', vk κ c → vk κ' c' → lvf x c i → lvf x c' i' → ad κ i = ad κ' i' → κ = κ' ∧ i = i') ∧ ∀ κ c i, vk κ c → lvf x c i → gB g ≤ ad κ i
def Rep (g : GG) (ad : AD) (x m : VM) (H : Heap) : Prop :=
  (∀ c i, c < 13 → lvf x c i → obAt g H (ad c i) c (fv ad (vsel x m c) c i)) ∧
  (∀ c k i, isA c k → lvf x c i → aAt g H (ad (1000 + 100 * c + k) i) (aty c k) (acn ad (vsel x m c) c k i)) ∧ AP g ad x
theorem Rep.put {g : GG} {ad : AD} {x m x' m' : VM} {H H' : Heap} {κ0 c0 i0 : Nat} (h : Rep g ad x m H) (hk : vk κ0 c0) (hl : lvf x c0 i0) (oq : ∀ q, q ≠ ad κ0 i0 → H'[q]? = H[q]?) (hN : ∀ c i, lvf x' c i = lvf x c i)
    (hO : ∀ c i, c < 13 → lvf x c i → (c = κ0 ∧ i = i0 → obAt g H' (ad c i) c (fv ad (vsel x' m' c) c i)) ∧ (¬ (c = κ0 ∧ i = i0) → ∀ k, fv ad (vsel x m c) c i k = fv ad (vsel x' m' c) c i k))
    (hA : ∀ c k i, isA c k → lvf x c i → (1000 + 100 * c + k = κ0 ∧ i = i0 → aAt g H' (ad (1000 + 100 * c + k) i) (aty c k) (acn ad (vsel x' m' c) c k i)) ∧ (¬ (1000 + 100 * c + k = κ0 ∧ i = i0) → acn ad (vsel x m c) c k i = acn ad (vsel x' m' c) c k i)) : Rep g ad x' m' H' := by
  obtain ⟨h1, h2, h3, h4⟩ := h
  have e := hN
  refine ⟨fun c i hc hi => ?_, fun c k i hc hi => ?_, fun κ c i κ' c' i' g1 g2 g3 g4 => ?_, fun κ c i g1 g2 => ?_⟩
  · rw [e] at hi
    by_cases q : c = κ0 ∧ i = i0
    · exact (hO c i hc hi).1 q
    · have hne : ad c i ≠ ad κ0 i0 := fun z => q (h3 c c i κ0 c0 i0 (Or.inl ⟨rfl, hc⟩) hk hi hl z)
      exact ((h1 c i hc hi).kept (oq _ hne)).to ((hO c i hc hi).2 q)
  · rw [e] at hi
    by_cases q : 1000 + 100 * c + k = κ0 ∧ i = i0
    · exact (hA c k i hc hi).1 q
    · have hne : ad (1000 + 100 * c + k) i ≠ ad κ0 i0 := fun z => q (h3 _ c i κ0 c0 i0 (Or.inr ⟨k, rfl, hc⟩) hk hi hl z)
      rw [← (hA c k i hc hi).2 q]
      exact (h2 c k i hc hi).kept (oq _ hne)
  · rw [e] at g3 g4
    exact h3 κ c i κ' c' i' g1 g2 g3 g4
  · rw [e] at g2
    exact h4 κ c i g1 g2
def setI (v : VM) (f i : Nat) (w : Int32) : VM := (fun f' i' => if f' = f ∧ i' = i then w else v.1 f' i', v.2)
def setA (v : VM) (f i : Nat) (h : Nat → Int32) : VM := (v.1, fun f' i' => if f' = f ∧ i' = i then h else v.2.1 f' i', v.2.2)
def setJ (v : VM) (f i : Nat) (h : Nat → Int64) : VM := (v.1, v.2.1, fun f' i' => if f' = f ∧ i' = i then h else v.2.2.1 f' i', v.2.2.2)
def setN (v : VM) (k n : Nat) : VM := (v.1, v.2.1, v.2.2.1, fun k' => if k' = k then n else v.2.2.2 k')
theorem isA_lt {c k : Nat} (h : isA c k) : k < 100 ∧ c < 13 := FT_lt (Nat.lt_of_le_of_lt h.2 (by decide))
theorem fv_setI {ad : AD} {v : VM} {c k0 i0 : Nat} {w : Int32} (ht : FT c k0 < 2) (k : Nat) : updV (fv ad v c i0) k0 (.int w) k = fv ad (setI v (100 * c + k0) i0 w) c i0 k := by
  by_cases e : k = k0
  · subst e
    simp [updV, fv, ht, setI]
  · have h1 : updV (fv ad v c i0) k0 (.int w) k = fv ad v c i0 k := by simp [updV, e]
    rw [h1]
    unfold fv
    by_cases h2 : FT c k < 2
    · rw [if_pos h2, if_pos h2]
      have : ¬ (100 * c + k = 100 * c + k0 ∧ i0 = i0) := fun z => e (by omega)
      simp [setI, e]
    · rw [if_neg h2, if_neg h2]
      rfl
theorem fv_setI' {ad : AD} {v : VM} {c c0 k0 i i0 : Nat} {w : Int32} (ht : FT c0 k0 < 2) (hne : ¬ (c = c0 ∧ i = i0)) (k : Nat) : fv ad v c i k = fv ad (setI v (100 * c0 + k0) i0 w) c i k := by
  unfold fv
  by_cases h2 : FT c k < 2
  · rw [if_pos h2, if_pos h2]
    have a1 := FT_lt (c := c) (k := k) (by omega)
    have a2 := FT_lt (c := c0) (k := k0) (by omega)
    have : ¬ (100 * c + k = 100 * c0 + k0 ∧ i = i0) := fun z => hne ⟨by omega, z.2⟩
    simp only [setI, if_neg this]
  · rw [if_neg h2, if_neg h2]
    rfl
theorem key_O {κ0 c0 k c : Nat} (h : c < 13) (hk : κ0 = 1000 + 100 * c0 + k) : c ≠ κ0 := by omega
theorem Rep.setIx {g : GG} {ad : AD} {x m : VM} {H H' : Heap} {c0 k0 i0 : Nat} {w : Int32} (h : Rep g ad x m H) (hc : c0 < 12) (ht : FT c0 k0 < 2) (hl : lvf x c0 i0) (ho : obAt g H' (ad c0 i0) c0 (updV (fv ad x c0 i0) k0 (.int w))) (oq : ∀ q, q ≠ ad c0 i0 → H'[q]? = H[q]?) : Rep g ad (setI x (100 * c0 + k0) i0 w) m H' := by
  refine h.put (κ0 := c0) (c0 := c0) (Or.inl ⟨rfl, by omega⟩) hl oq (fun _ _ => rfl) (fun c i hc' hi => ⟨fun q => ?_, fun q k => ?_⟩) (fun c k i ha hi => ⟨fun q => ?_, fun q => ?_⟩)
  · obtain ⟨rfl, rfl⟩ := q
    rw [vsel_x _ _ hc]
    exact ho.to (fv_setI ht)
  · by_cases e : c = 12
    · subst e; rw [vsel_m, vsel_m]
    · rw [vsel_x _ _ (by omega), vsel_x _ _ (by omega)]
      exact fv_setI' ht q k
  · have := isA_lt ha
    omega
  · by_cases e : c = 12
    · subst e; rw [vsel_m, vsel_m]
    · have := isA_lt ha
      rw [vsel_x _ _ (by omega), vsel_x _ _ (by omega)]
      rfl
theorem Rep.setIm {g : GG} {ad : AD} {x m : VM} {H H' : Heap} {k0 : Nat} {w : Int32} (h : Rep g ad x m H) (ht : FT 12 k0 < 2) (ho : obAt g H' (ad 12 0) 12 (updV (fv ad m 12 0) k0 (.int w))) (oq : ∀ q, q ≠ ad 12 0 → H'[q]? = H[q]?) : Rep g ad x (setI m (100 * 12 + k0) 0 w) H' := by
  refine h.put (κ0 := 12) (c0 := 12) (Or.inl ⟨rfl, by omega⟩) rfl oq (fun _ _ => rfl) (fun c i hc' hi => ⟨fun q => ?_, fun q k => ?_⟩) (fun c k i ha hi => ⟨fun q => ?_, fun q => ?_⟩)
  · obtain ⟨rfl, rfl⟩ := q
    rw [vsel_m]
    exact ho.to (fv_setI ht)
  · by_cases e : c = 12
    · subst e; rw [vsel_m, vsel_m]; exact fv_setI' ht q k
    · rw [vsel_x _ _ (by omega), vsel_x _ _ (by omega)]
  · have := isA_lt ha
    omega
  · by_cases e : c = 12
    · subst e; rw [vsel_m, vsel_m]; rfl
    · have := isA_lt ha
      rw [vsel_x _ _ (by omega), vsel_x _ _ (by omega)]
theorem fv_arr {ad : AD} {v v' : VM} (h1 : v'.1 = v.1) (h4 : v'.2.2.2 = v.2.2.2) (c i k : Nat) : fv ad v c i k = fv ad v' c i k := by
  unfold fv fnd
  rw [h1, h4]
theorem acn_A {ad : AD} {v : VM} {c k c0 k0 i i0 : Nat} {w : Nat → Int32} (ha : isA c k) (ha0 : isA c0 k0) (hne : ¬ (1000 + 100 * c + k = 1000 + 100 * c0 + k0 ∧ i = i0)) : acn ad v c k i = acn ad (setA v (100 * c0 + k0) i0 w) c k i := by
  unfold acn
  have : ¬ (100 * c + k = 100 * c0 + k0 ∧ i = i0) := fun z => hne ⟨by omega, z.2⟩
  simp only [setA, if_neg this]
  rfl
theorem acn_J {ad : AD} {v : VM} {c k c0 k0 i i0 : Nat} {w : Nat → Int64} (ha : isA c k) (ha0 : isA c0 k0) (hne : ¬ (1000 + 100 * c + k = 1000 + 100 * c0 + k0 ∧ i = i0)) : acn ad v c k i = acn ad (setJ v (100 * c0 + k0) i0 w) c k i := by
  unfold acn
  have : ¬ (100 * c + k = 100 * c0 + k0 ∧ i = i0) := fun z => hne ⟨by omega, z.2⟩
  simp only [setJ, if_neg this]
  rfl
theorem isA_key {c k c0 k0 : Nat} (ha : isA c k) (ha0 : isA c0 k0) (h : 1000 + 100 * c + k = 1000 + 100 * c0 + k0) : c = c0 ∧ k = k0 := by
  have a1 := isA_lt ha
  have a2 := isA_lt ha0
  omega
theorem Rep.setAx {g : GG} {ad : AD} {x m : VM} {H H' : Heap} {c0 k0 i0 : Nat} {w : Nat → Int32} (h : Rep g ad x m H) (hc : c0 < 12) (ht : FT c0 k0 = 2 ∨ FT c0 k0 = 3) (hl : lvf x c0 i0) (ho : aAt g H' (ad (1000 + 100 * c0 + k0) i0) (aty c0 k0) (LN c0 k0, .inl w)) (oq : ∀ q, q ≠ ad (1000 + 100 * c0 + k0) i0 → H'[q]? = H[q]?) : Rep g ad (setA x (100 * c0 + k0) i0 w) m H' := by
  have ha0 : isA c0 k0 := by unfold isA; omega
  refine h.put (κ0 := 1000 + 100 * c0 + k0) (c0 := c0) (Or.inr ⟨k0, rfl, ha0⟩) hl oq (fun _ _ => rfl) (fun c i hc' hi => ⟨fun q => by omega, fun q k => ?_⟩) (fun c k i ha hi => ⟨fun q => ?_, fun q => ?_⟩)
  · by_cases e : c = 12
    · subst e; rw [vsel_m, vsel_m]
    · rw [vsel_x _ _ (by omega), vsel_x _ _ (by omega)]
      exact fv_arr rfl rfl c i k
  · obtain ⟨q, rfl⟩ := q
    obtain ⟨rfl, rfl⟩ := isA_key ha ha0 q
    rw [vsel_x _ _ hc]
    have : acn ad (setA x (100 * c + k) i w) c k i = (LN c k, .inl w) := by
      unfold acn
      rw [if_pos (by omega)]
      simp [setA]
    rw [this]
    exact ho
  · by_cases e : c = 12
    · subst e; rw [vsel_m, vsel_m]
    · have := isA_lt ha
      rw [vsel_x _ _ (by omega), vsel_x _ _ (by omega)]
      exact acn_A ha ha0 q
theorem Rep.setAm {g : GG} {ad : AD} {x m : VM} {H H' : Heap} {k0 : Nat} {w : Nat → Int32} (h : Rep g ad x m H) (ht : FT 12 k0 = 2 ∨ FT 12 k0 = 3) (ho : aAt g H' (ad (1000 + 100 * 12 + k0) 0) (aty 12 k0) (LN 12 k0, .inl w)) (oq : ∀ q, q ≠ ad (1000 + 100 * 12 + k0) 0 → H'[q]? = H[q]?) : Rep g ad x (setA m (100 * 12 + k0) 0 w) H' := by
  have ha0 : isA 12 k0 := by unfold isA; omega
  refine h.put (κ0 := 1000 + 100 * 12 + k0) (c0 := 12) (Or.inr ⟨k0, rfl, ha0⟩) rfl oq (fun _ _ => rfl) (fun c i hc' hi => ⟨fun q => by omega, fun q k => ?_⟩) (fun c k i ha hi => ⟨fun q => ?_, fun q => ?_⟩)
  · by_cases e : c = 12
    · subst e; rw [vsel_m, vsel_m]; exact fv_arr rfl rfl _ i k
    · rw [vsel_x _ _ (by omega), vsel_x _ _ (by omega)]
  · obtain ⟨q, rfl⟩ := q
    obtain ⟨rfl, rfl⟩ := isA_key ha ha0 q
    rw [vsel_m]
    have : acn ad (setA m (100 * 12 + k) 0 w) 12 k 0 = (LN 12 k, .inl w) := by
      unfold acn
      rw [if_pos (by omega)]
      simp [setA]
    rw [this]
    exact ho
  · by_cases e : c = 12
    · subst e; rw [vsel_m, vsel_m]; exact acn_A ha ha0 q
    · have := isA_lt ha
      rw [vsel_x _ _ (by omega), vsel_x _ _ (by omega)]
theorem Rep.setJx {g : GG} {ad : AD} {x m : VM} {H H' : Heap} {c0 k0 i0 : Nat} {w : Nat → Int64} (h : Rep g ad x m H) (hc : c0 < 12) (ht : FT c0 k0 = 4) (hl : lvf x c0 i0) (ho : aAt g H' (ad (1000 + 100 * c0 + k0) i0) (aty c0 k0) (LN c0 k0, .inr (.inl w))) (oq : ∀ q, q ≠ ad (1000 + 100 * c0 + k0) i0 → H'[q]? = H[q]?) : Rep g ad (setJ x (100 * c0 + k0) i0 w) m H' := by
  have ha0 : isA c0 k0 := by unfold isA; omega
  refine h.put (κ0 := 1000 + 100 * c0 + k0) (c0 := c0) (Or.inr ⟨k0, rfl, ha0⟩) hl oq (fun _ _ => rfl) (fun c i hc' hi => ⟨fun q => by omega, fun q k => ?_⟩) (fun c k i ha hi => ⟨fun q => ?_, fun q => ?_⟩)
  · by_cases e : c = 12
    · subst e; rw [vsel_m, vsel_m]
    · rw [vsel_x _ _ (by omega), vsel_x _ _ (by omega)]
      exact fv_arr rfl rfl c i k
  · obtain ⟨q, rfl⟩ := q
    obtain ⟨rfl, rfl⟩ := isA_key ha ha0 q
    rw [vsel_x _ _ hc]
    have : acn ad (setJ x (100 * c + k) i w) c k i = (LN c k, .inr (.inl w)) := by
      unfold acn
      rw [if_neg (by omega), if_pos ht]
      simp [setJ]
    rw [this]
    exact ho
  · by_cases e : c = 12
    · subst e; rw [vsel_m, vsel_m]
    · have := isA_lt ha
      rw [vsel_x _ _ (by omega), vsel_x _ _ (by omega)]
      exact acn_J ha ha0 q
theorem Rep.setJm {g : GG} {ad : AD} {x m : VM} {H H' : Heap} {k0 : Nat} {w : Nat → Int64} (h : Rep g ad x m H) (ht : FT 12 k0 = 4) (ho : aAt g H' (ad (1000 + 100 * 12 + k0) 0) (aty 12 k0) (LN 12 k0, .inr (.inl w))) (oq : ∀ q, q ≠ ad (1000 + 100 * 12 + k0) 0 → H'[q]? = H[q]?) : Rep g ad x (setJ m (100 * 12 + k0) 0 w) H' := by
  have ha0 : isA 12 k0 := by unfold isA; omega
  refine h.put (κ0 := 1000 + 100 * 12 + k0) (c0 := 12) (Or.inr ⟨k0, rfl, ha0⟩) rfl oq (fun _ _ => rfl) (fun c i hc' hi => ⟨fun q => by omega, fun q k => ?_⟩) (fun c k i ha hi => ⟨fun q => ?_, fun q => ?_⟩)
  · by_cases e : c = 12
    · subst e; rw [vsel_m, vsel_m]; exact fv_arr rfl rfl _ i k
    · rw [vsel_x _ _ (by omega), vsel_x _ _ (by omega)]
  · obtain ⟨q, rfl⟩ := q
    obtain ⟨rfl, rfl⟩ := isA_key ha ha0 q
    rw [vsel_m]
    have : acn ad (setJ m (100 * 12 + k) 0 w) 12 k 0 = (LN 12 k, .inr (.inl w)) := by
      unfold acn
      rw [if_neg (by omega), if_pos ht]
      simp [setJ]
    rw [this]
    exact ho
  · by_cases e : c = 12
    · subst e; rw [vsel_m, vsel_m]; exact acn_J ha ha0 q
    · have := isA_lt ha
      rw [vsel_x _ _ (by omega), vsel_x _ _ (by omega)]
theorem ft6 : ∀ c, c < 13 → ∀ k, k < 100 → FT c k = 6 → c = 3 ∧ k = 5 := by decide +kernel
theorem Rep.setF {g : GG} {ad : AD} {x m : VM} {H H' : Heap} {n : Nat} (h : Rep g ad x m H) (ho : obAt g H' (ad 3 0) 3 (updV (fv ad x 3 0) 5 (va_rf (fnd ad (setN x 0 n))))) (oq : ∀ q, q ≠ ad 3 0 → H'[q]? = H[q]?) : Rep g ad (setN x 0 n) m H' := by
  have same : ∀ c i k, ¬ (c = 3 ∧ k = 5) → fv ad x c i k = fv ad (setN x 0 n) c i k := by
    intro c i k hne
    unfold fv
    by_cases h6 : FT c k = 6
    · have a := FT_lt (c := c) (k := k) (by omega)
      exact absurd (ft6 c a.2 k a.1 h6) hne
    · rw [if_neg h6, if_neg h6]
      rfl
  refine h.put (κ0 := 3) (c0 := 3) (Or.inl ⟨rfl, by omega⟩) rfl oq (fun c i => ?_) (fun c i hc' hi => ⟨fun q => ?_, fun q k => ?_⟩) (fun c k i ha hi => ⟨fun q => ?_, fun q => ?_⟩)
  · unfold lvf setN
    simp
  · obtain ⟨rfl, rfl⟩ := q
    rw [vsel_x _ _ (by omega)]
    refine ho.to (fun k => ?_)
    by_cases e : k = 5
    · subst e
      show updV _ 5 _ 5 = _
      simp only [updV, if_true]
      rfl
    · simp only [updV, if_neg e]
      exact same 3 0 k (fun z => e z.2)
  · by_cases e : c = 12
    · subst e; rw [vsel_m, vsel_m]
    · rw [vsel_x _ _ (by omega), vsel_x _ _ (by omega)]
      refine same c i k (fun z => ?_)
      obtain ⟨rfl, rfl⟩ := z
      have : i = 0 := hi
      exact q ⟨rfl, this⟩
  · have := isA_lt ha
    omega
  · by_cases e : c = 12
    · subst e; rw [vsel_m, vsel_m]
    · have := isA_lt ha
      rw [vsel_x _ _ (by omega), vsel_x _ _ (by omega)]
      have hr : rc ad x c k i = rc ad (setN x 0 n) c k i := by
        unfold rc setN
        simp
      unfold acn
      rw [hr]
      rfl
