/-! the invariant -/
def Inv (x m : VM) : Prop := IBas x m ∧ ICnt x m ∧ INow x m ∧ IPur x m ∧ IClr x m ∧ IFau x m ∧ ICod x m ∧ ISha x m ∧ IFee x m ∧ ILaw x m ∧ IShe x m ∧ IPer x m ∧ IPe0 x m ∧ IPic x m ∧ IOrd x m ∧ IDra x m ∧ IPi0 x m ∧ ISce x m ∧ ISc0 x m ∧ IHal x m ∧ IHa0 x m ∧ IShw x m ∧ IPla x m ∧ ICac x m ∧ IRef x m
theorem Inv.bas {x m : VM} (h : Inv x m) : IBas x m := h.1
theorem Inv.cnt {x m : VM} (h : Inv x m) : ICnt x m := h.2.1
theorem Inv.now {x m : VM} (h : Inv x m) : INow x m := h.2.2.1
theorem Inv.pur {x m : VM} (h : Inv x m) : IPur x m := h.2.2.2.1
theorem Inv.clr {x m : VM} (h : Inv x m) : IClr x m := h.2.2.2.2.1
theorem Inv.fau {x m : VM} (h : Inv x m) : IFau x m := h.2.2.2.2.2.1
theorem Inv.cod {x m : VM} (h : Inv x m) : ICod x m := h.2.2.2.2.2.2.1
theorem Inv.sha {x m : VM} (h : Inv x m) : ISha x m := h.2.2.2.2.2.2.2.1
theorem Inv.fee {x m : VM} (h : Inv x m) : IFee x m := h.2.2.2.2.2.2.2.2.1
theorem Inv.law {x m : VM} (h : Inv x m) : ILaw x m := h.2.2.2.2.2.2.2.2.2.1
theorem Inv.she {x m : VM} (h : Inv x m) : IShe x m := h.2.2.2.2.2.2.2.2.2.2.1
theorem Inv.per {x m : VM} (h : Inv x m) : IPer x m := h.2.2.2.2.2.2.2.2.2.2.2.1
theorem Inv.pe0 {x m : VM} (h : Inv x m) : IPe0 x m := h.2.2.2.2.2.2.2.2.2.2.2.2.1
theorem Inv.pic {x m : VM} (h : Inv x m) : IPic x m := h.2.2.2.2.2.2.2.2.2.2.2.2.2.1
theorem Inv.ord {x m : VM} (h : Inv x m) : IOrd x m := h.2.2.2.2.2.2.2.2.2.2.2.2.2.2.1
theorem Inv.dra {x m : VM} (h : Inv x m) : IDra x m := h.2.2.2.2.2.2.2.2.2.2.2.2.2.2.2.1
theorem Inv.pi0 {x m : VM} (h : Inv x m) : IPi0 x m := h.2.2.2.2.2.2.2.2.2.2.2.2.2.2.2.2.1
theorem Inv.sce {x m : VM} (h : Inv x m) : ISce x m := h.2.2.2.2.2.2.2.2.2.2.2.2.2.2.2.2.2.1
theorem Inv.sc0 {x m : VM} (h : Inv x m) : ISc0 x m := h.2.2.2.2.2.2.2.2.2.2.2.2.2.2.2.2.2.2.1
theorem Inv.hal {x m : VM} (h : Inv x m) : IHal x m := h.2.2.2.2.2.2.2.2.2.2.2.2.2.2.2.2.2.2.2.1
theorem Inv.ha0 {x m : VM} (h : Inv x m) : IHa0 x m := h.2.2.2.2.2.2.2.2.2.2.2.2.2.2.2.2.2.2.2.2.1
theorem Inv.shw {x m : VM} (h : Inv x m) : IShw x m := h.2.2.2.2.2.2.2.2.2.2.2.2.2.2.2.2.2.2.2.2.2.1
theorem Inv.pla {x m : VM} (h : Inv x m) : IPla x m := h.2.2.2.2.2.2.2.2.2.2.2.2.2.2.2.2.2.2.2.2.2.2.1
theorem Inv.cac {x m : VM} (h : Inv x m) : ICac x m := h.2.2.2.2.2.2.2.2.2.2.2.2.2.2.2.2.2.2.2.2.2.2.2.1
theorem Inv.ref {x m : VM} (h : Inv x m) : IRef x m := h.2.2.2.2.2.2.2.2.2.2.2.2.2.2.2.2.2.2.2.2.2.2.2.2
theorem Inv.ref1 {x m : VM} (h : Inv x m) (n : Nat) : Inv (rX x n) (rM m (n + 1)) := ⟨h.bas, h.cnt, h.now, h.pur, h.clr, h.fau, h.cod, h.sha, h.fee, h.law, h.she, h.per, h.pe0, h.pic, h.ord, h.dra, h.pi0, h.sce, h.sc0, h.hal, h.ha0, h.shw, h.pla, h.cac, (h.ref.next n)⟩
theorem Inv.start : Inv x0 m0 := by
  refine ⟨⟨⟨⟨rfl, Nat.zero_le _⟩, ⟨rfl, Nat.zero_le _⟩, ⟨rfl, Nat.zero_le _⟩, fun p h => absurd h (Nat.not_lt_zero p)⟩, Nat.le_refl _⟩, ⟨rfl, rfl, rfl⟩, ⟨rfl, by unfold rng; decide⟩, rfl, ⟨rfl, by unfold rng; decide⟩, rfl, ?_, ?_, ⟨⟨rfl, by unfold rng; decide⟩, rfl, by unfold rng; decide⟩, ⟨⟨rfl, by unfold rng; decide⟩, ?_⟩, ?_, ?_, ?_, ?_, ?_, ?_, ?_, ?_, ?_, ?_, ?_, ?_, ?_, ?_, ?_⟩
  · intro j hj
    rcases (show j = 0 ∨ j = 1 ∨ j = 2 ∨ j = 3 by omega) with rfl | rfl | rfl | rfl <;> exact ⟨rfl, by unfold rng; decide⟩
  · intro j hj
    exact ⟨rfl, show rng 0 0 99 by unfold rng; decide⟩
  · intro j hj
    exact ⟨rfl, rfl⟩
  · intro s hs
    exact Or.inl ⟨rfl, rfl, rfl⟩
  · intro w hw
    exact absurd hw (Nat.not_lt_zero w)
  · intro w _ hw
    exact ⟨rfl, rfl, rfl, rfl, rfl, rfl, rfl, rfl, rfl, rfl, rfl, rfl⟩
  · intro w hw
    exact absurd hw (Nat.not_lt_zero w)
  · intro w hw
    exact absurd hw (Nat.not_lt_zero w)
  · intro w hw
    exact absurd hw (Nat.not_lt_zero w)
  · intro p _ hp
    refine ⟨rfl, rfl, if_pos hp, rfl, rfl, rfl, rfl, rfl, if_pos hp, fun s hs => ⟨if_pos (show 8 * p + s < 64 by omega), rfl⟩, fun k hk => ⟨rfl, rfl⟩⟩
  · intro p s hp
    exact absurd hp (Nat.not_lt_zero p)
  · intro p s _ _ _
    exact ⟨rfl, rfl, fun k hk => rfl⟩
  · intro w hw
    exact absurd hw (Nat.not_lt_zero w)
  · intro h _ hh
    exact ⟨rfl, fun w hw => ⟨if_pos (show 40 * h + w < 240 by omega), rfl⟩⟩
  · rfl
  · exact ⟨⟨0, Nat.le_refl _, rfl, fun p hp => if_pos hp⟩, fun s hs => ⟨rfl, rfl⟩⟩
  · intro j hj
    exact absurd hj (by show ¬ (0 = j + 1); omega)
  · intro j hj
    exact rfl
theorem Inv.keep (x m : VM) (h : Inv x m) : KX x ∧ x.2.2.2 0 ≤ x.2.2.2 5 := h.bas
