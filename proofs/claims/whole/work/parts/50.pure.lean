/-! THE PURE PART: class and reference answer alike -/
def Sm (Inv : VM → VM → Prop) (a b : Option (Int32 × VM)) : Prop := ∃ (r : Int32) (x' m' : VM), a = some (r, x') ∧ b = some (r, m') ∧ Inv x' m'
theorem Sm.mk {Inv : VM → VM → Prop} {r r' : Int32} {x' m' : VM} (hr : r = r') (h : Inv x' m') : Sm Inv (some (r, x')) (some (r', m')) := ⟨r, x', m', rfl, by rw [hr], h⟩
theorem Sm.ite {Inv : VM → VM → Prop} {c c' : Prop} [Decidable c] [Decidable c'] {a b a' b' : Option (Int32 × VM)} (hc : c ↔ c') (h1 : c → Sm Inv a a') (h2 : ¬ c → Sm Inv b b') : Sm Inv (if c then a else b) (if c' then a' else b') := by
  by_cases h : c
  · rw [if_pos h, if_pos (hc.mp h)]; exact h1 h
  · rw [if_neg h, if_neg (fun q => h (hc.mpr q))]; exact h2 h
theorem Sm.elim2 {Inv : VM → VM → Prop} {a b : Option (Int32 × VM)} (h : Sm Inv a b) : Sm Inv (a.elim none (fun p => some (p.1, p.2))) (b.elim none (fun p => some (p.1, p.2))) := by
  obtain ⟨r, x', m', rfl, rfl, hI⟩ := h
  exact ⟨r, x', m', rfl, rfl, hI⟩
/-- the refusals counted -/
def IRef (x m : VM) : Prop := ∀ j, j < 7 → x.2.1 1112 0 j = m.2.1 1269 0 (j + 1)
theorem ref_at {x m : VM} {k : Int32} (n : Nat) (hn : n < 7) (hk : k = -(nI (n + 1))) : f_X11_refused x k = some (k, setA x 1112 0 (upd (x.2.1 1112 0) n (x.2.1 1112 0 n + 1))) ∧ f_X12_no m k = some (k, setA m 1269 0 (upd (m.2.1 1269 0) (n + 1) (m.2.1 1269 0 (n + 1) + 1))) := by
  rcases (show n = 0 ∨ n = 1 ∨ n = 2 ∨ n = 3 ∨ n = 4 ∨ n = 5 ∨ n = 6 by omega) with rfl | rfl | rfl | rfl | rfl | rfl | rfl <;> subst hk <;> exact ⟨rfl, rfl⟩
theorem IRef.next {x m : VM} (h : IRef x m) (n : Nat) : IRef (setA x 1112 0 (upd (x.2.1 1112 0) n (x.2.1 1112 0 n + 1))) (setA m 1269 0 (upd (m.2.1 1269 0) (n + 1) (m.2.1 1269 0 (n + 1) + 1))) := by
  intro j hj
  show upd (x.2.1 1112 0) n (x.2.1 1112 0 n + 1) j = upd (m.2.1 1269 0) (n + 1) (m.2.1 1269 0 (n + 1) + 1) (j + 1)
  unfold upd
  by_cases e : j = n
  · subst e
    rw [if_pos rfl, if_pos rfl, h j hj]
  · rw [if_neg e, if_neg (by omega), h j hj]
