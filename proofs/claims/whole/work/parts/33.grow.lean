/-! a new object of class c0 in place i0, and its arrays, behind a heap that keeps x and m -/
def adN (ad : AD) (c0 i0 n0 : Nat) (ap : Nat → Nat) : AD := fun κ i => if i = i0 ∧ κ = c0 then n0 + 0 else if i = i0 ∧ 1000 + 100 * c0 ≤ κ ∧ κ < 1100 + 100 * c0 then n0 + ap (κ - (1000 + 100 * c0)) else ad κ i
theorem adN_o {ad : AD} {c0 i0 n0 : Nat} {ap : Nat → Nat} : adN ad c0 i0 n0 ap c0 i0 = n0 + 0 := if_pos ⟨rfl, rfl⟩
theorem adN_a {ad : AD} {c0 i0 n0 k : Nat} {ap : Nat → Nat} (hc : c0 < 13) (hk : k < 100) : adN ad c0 i0 n0 ap (1000 + 100 * c0 + k) i0 = n0 + ap k := by
  unfold adN
  rw [if_neg (by omega), if_pos (by omega)]
  rw [Nat.add_sub_cancel_left]
theorem adN_oo {ad : AD} {c0 i0 n0 c i : Nat} {ap : Nat → Nat} (hc : c < 13) (h : ¬ (c = c0 ∧ i = i0)) : adN ad c0 i0 n0 ap c i = ad c i := by
  unfold adN
  rw [if_neg (by omega), if_neg (by omega)]
theorem adN_oa {ad : AD} {c0 i0 n0 c k i : Nat} {ap : Nat → Nat} (hc0 : c0 < 13) (hk : k < 100) (h : ¬ (c = c0 ∧ i = i0)) : adN ad c0 i0 n0 ap (1000 + 100 * c + k) i = ad (1000 + 100 * c + k) i := by
  unfold adN
  rw [if_neg (by omega), if_neg (by omega)]
theorem ft99 (c k : Nat) : FT c k ≤ 99 := by
  have hall : ∀ l ∈ ftT, ∀ v ∈ l, v ≤ 99 := by decide +kernel
  unfold FT
  by_cases hc : c < ftT.length
  · have e : ftT.getD c [] = ftT[c] := by rw [List.getD_eq_getElem?_getD, List.getElem?_eq_getElem hc]; rfl
    rw [e]
    by_cases hk : k < ftT[c].length
    · have e2 : ftT[c].getD k 99 = ftT[c][k] := by rw [List.getD_eq_getElem?_getD, List.getElem?_eq_getElem hk]; rfl
      rw [e2]
      exact hall _ (List.getElem_mem hc) _ (List.getElem_mem hk)
    · rw [List.getD_eq_getElem?_getD, List.getElem?_eq_none (by omega)]
      exact Nat.le_refl _
  · have e : ftT.getD c [] = [] := by rw [List.getD_eq_getElem?_getD, List.getElem?_eq_none (by omega)]; rfl
    rw [e]
    exact Nat.le_refl _
def f10 (v : Nat) : Bool := decide (v < 13 ∧ v ≠ 1 ∧ v ≠ 4 ∧ v ≠ 5 ∧ v ≠ 8)
theorem ft10a : ∀ c, c < 13 → ∀ k, k < 100 → FT c k < 99 → 10 ≤ FT c k → f10 (FT c k - 10) = true := by decide +kernel
theorem ft10 (c : Nat) (hc : c < 13) (k : Nat) (hk : k < 100) (h1 : FT c k < 99) (h2 : 10 ≤ FT c k) : FT c k - 10 < 13 ∧ FT c k - 10 ≠ 1 ∧ FT c k - 10 ≠ 4 ∧ FT c k - 10 ≠ 5 ∧ FT c k - 10 ≠ 8 := of_decide_eq_true (ft10a c hc k hk h1 h2)
theorem ft7 : ∀ c, c < 13 → ∀ k, k < 100 → FT c k < 99 → 6 < FT c k → 10 ≤ FT c k := by decide +kernel
theorem ft12 : ∀ k, k < 100 → isA 12 k → FT 12 k ≤ 4 := by unfold isA; decide +kernel
theorem Rep.lt {g : GG} {ad : AD} {x m : VM} {H : Heap} (h : Rep g ad x m H) {κ c i : Nat} (hk : vk κ c) (hl : lvf x c i) : ad κ i < H.size := by
  rcases hk with ⟨rfl, hc⟩ | ⟨k, rfl, ha⟩
  · exact (h.1 κ i hc hl).lt
  · exact (Array.getElem?_eq_some_iff.mp (h.2.1 c k i ha hl).2).1
theorem Rep.grow {g : GG} {ad : AD} {x x' m : VM} {H1 H2 : Heap} {n0 c0 i0 cK kK iK nf : Nat} {bs : List CE} {V : Nat → Value} {ap : Nat → Nat} {r : vw_C} (h : CK g (Rep g ad x m) n0 bs H1)
    (oq : ∀ q, q ≠ ad (1000 + 100 * cK + kK) iK → H2[q]? = H1[q]?) (hK : isA cK kK) (hKl : lvf x cK iK) (hKn : ¬ (cK = c0 ∧ iK = i0)) (hcK : cK < 12)
    (hA2 : aAt g H2 (ad (1000 + 100 * cK + kK) iK) (aty cK kK) (acn (adN ad c0 i0 n0 ap) x' cK kK iK))
    (hc : c0 = 1 ∨ c0 = 4 ∨ c0 = 5 ∨ c0 = 8) (hnl : ¬ lvf x c0 i0) (hlv : ∀ c i, lvf x' c i ↔ lvf x c i ∨ (c = c0 ∧ i = i0))
    (hr : classes[c0]? = some r) (hrn : r.2.2 = nf) (hob : bs[0]? = some (.inr (c0, V))) (hV : ∀ k, k < nf → V k = fv (adN ad c0 i0 n0 ap) x' c0 i0 k)
    (har : ∀ k, isA c0 k → 1 ≤ ap k ∧ bs[ap k]? = some (.inl (aty c0 k, acn (adN ad c0 i0 n0 ap) x' c0 k i0))) (hinj : ∀ k k', isA c0 k → isA c0 k' → ap k = ap k' → k = k')
    (hI : ∀ c k i, c < 12 → k < 100 → ¬ (c = c0 ∧ i = i0) → x'.1 (100 * c + k) i = x.1 (100 * c + k) i)
    (hAr : ∀ c k i, isA c k → c < 12 → ¬ (c = c0 ∧ i = i0) → ¬ (c = cK ∧ k = kK ∧ i = iK) → lvf x c i → acn (adN ad c0 i0 n0 ap) x' c k i = acn ad x c k i)
    (hF : x'.2.2.2 0 = x.2.2.2 0) (hF5 : c0 = 5 → x.2.2.2 0 ≠ i0 + 1) : Rep g (adN ad c0 i0 n0 ap) x' m H2 := by
  obtain ⟨h2, h3, h4, H0, hR, h6, h7⟩ := h
  have hc0 : c0 < 12 := by omega
  have hKlt : ad (1000 + 100 * cK + kK) iK < n0 := h6 ▸ hR.lt (Or.inr ⟨kK, rfl, hK⟩) hKl
  have new : ∀ (p : Nat) (e : CE), bs[p]? = some e → ceAt g H2 (n0 + p) e := fun p e hp => (h4 p e hp).kept (oq _ (by omega))
  have old : ∀ q, q < n0 → q ≠ ad (1000 + 100 * cK + kK) iK → H2[q]? = H0[q]? := fun q hq hn => (oq q hn).trans (h7 q hq)
  have fnds : fnd (adN ad c0 i0 n0 ap) x' = fnd ad x := by
    unfold fnd
    rw [hF]
    by_cases z : x.2.2.2 0 = 0
    · rw [if_pos z, if_pos z]
    · rw [if_neg z, if_neg z, adN_oo (by omega) (fun q => hF5 q.1.symm (by omega))]
  have fvs : ∀ c i k, c < 13 → ¬ (c = c0 ∧ i = i0) → fv ad (vsel x m c) c i k = fv (adN ad c0 i0 n0 ap) (vsel x' m c) c i k := by
    intro c i k hc13 hne
    unfold fv
    by_cases f2 : FT c k < 2
    · rw [if_pos f2, if_pos f2]
      have hk := FT_lt (c := c) (k := k) (by omega)
      by_cases e : c = 12
      · subst e; rw [vsel_m, vsel_m]
      · rw [vsel_x _ _ (by omega), vsel_x _ _ (by omega), hI c k i (by omega) hk.1 hne]
    · rw [if_neg f2, if_neg f2]
      by_cases f6 : FT c k < 6
      · rw [if_pos f6, if_pos f6]
        have hk := FT_lt (c := c) (k := k) (by omega)
        rw [adN_oa (by omega) hk.1 hne]
      · rw [if_neg f6, if_neg f6]
        by_cases f7 : FT c k = 6
        · rw [if_pos f7, if_pos f7]
          have hk := FT_lt (c := c) (k := k) (by omega)
          have := ft6 c hk.2 k hk.1 f7
          rw [vsel_x _ _ (by omega), vsel_x _ _ (by omega), fnds]
        · rw [if_neg f7, if_neg f7]
          by_cases f9 : FT c k < 99
          · have hk := FT_lt f9
            have a := ft10 c hk.2 k hk.1 f9 (ft7 c hk.2 k hk.1 f9 (by omega))
            rw [adN_oo (by omega) (by omega)]
          · have := ft99 c k
            have e9 : FT c k = 99 := by omega
            rw [e9]
            unfold adN
            rw [if_neg (by omega), if_neg (by omega)]
  have nlv : ∀ c i, lvf x c i → ¬ (c = c0 ∧ i = i0) := fun c i hl q => by
    obtain ⟨rfl, rfl⟩ := q
    exact hnl hl
  -- where each cell lies
  have wh : ∀ κ c i, vk κ c → lvf x' c i → (lvf x c i ∧ ¬ (c = c0 ∧ i = i0) ∧ adN ad c0 i0 n0 ap κ i = ad κ i ∧ ad κ i < n0) ∨ (c = c0 ∧ i = i0 ∧ ((κ = c0 ∧ adN ad c0 i0 n0 ap κ i = n0 + 0) ∨ ∃ k, κ = 1000 + 100 * c0 + k ∧ isA c0 k ∧ adN ad c0 i0 n0 ap κ i = n0 + ap k)) := by
    intro κ c i hk hl
    rcases (hlv c i).mp hl with hl | ⟨rfl, rfl⟩
    · refine Or.inl ⟨hl, nlv c i hl, ?_, h6 ▸ hR.lt hk hl⟩
      rcases hk with ⟨rfl, hc13⟩ | ⟨k, rfl, ha⟩
      · exact adN_oo hc13 (nlv κ i hl)
      · exact adN_oa (by omega) (isA_lt ha).1 (nlv c i hl)
    · refine Or.inr ⟨rfl, rfl, ?_⟩
      rcases hk with ⟨rfl, hc13⟩ | ⟨k, rfl, ha⟩
      · exact Or.inl ⟨rfl, adN_o⟩
      · exact Or.inr ⟨k, rfl, ha, adN_a (by omega) (isA_lt ha).1⟩
  refine ⟨fun c i hc13 hl => ?_, fun c k i ha hl => ?_, fun κ c i κ' c' i' g1 g2 g3 g4 ge => ?_, fun κ c i g1 g2 => ?_⟩
  · rcases (hlv c i).mp hl with hl | ⟨rfl, rfl⟩
    · have hne := nlv c i hl
      rw [adN_oo hc13 hne]
      have hlt : ad c i < n0 := h6 ▸ hR.lt (Or.inl ⟨rfl, hc13⟩) hl
      have hna : ad c i ≠ ad (1000 + 100 * cK + kK) iK := fun z => by
        have := (hR.2.2.1 c c i _ cK iK (Or.inl ⟨rfl, hc13⟩) (Or.inr ⟨kK, rfl, hK⟩) hl hKl z).1
        omega
      exact ((hR.1 c i hc13 hl).kept (old _ hlt hna)).to (fun k => fvs c i k hc13 hne)
    · rw [adN_o, vsel_x _ _ hc0]
      exact obAt.toN (new 0 _ hob) hr hrn hV
  · have hk := isA_lt ha
    rcases (hlv c i).mp hl with hl | ⟨rfl, rfl⟩
    · have hne := nlv c i hl
      rw [adN_oa (by omega) hk.1 hne]
      by_cases e : c = cK ∧ k = kK ∧ i = iK
      · obtain ⟨rfl, rfl, rfl⟩ := e
        rw [vsel_x _ _ hcK]
        exact hA2
      · have hlt : ad (1000 + 100 * c + k) i < n0 := h6 ▸ hR.lt (Or.inr ⟨k, rfl, ha⟩) hl
        have hna : ad (1000 + 100 * c + k) i ≠ ad (1000 + 100 * cK + kK) iK := fun z => by
          have q := hR.2.2.1 _ c i _ cK iK (Or.inr ⟨k, rfl, ha⟩) (Or.inr ⟨kK, rfl, hK⟩) hl hKl z
          obtain ⟨q1, q2⟩ := isA_key ha hK q.1
          exact e ⟨q1, q2, q.2⟩
        have hh := (hR.2.1 c k i ha hl).kept (old _ hlt hna)
        by_cases e12 : c = 12
        · subst e12
          rw [vsel_m] at hh ⊢
          have : acn (adN ad c0 i0 n0 ap) m 12 k i = acn ad m 12 k i := by
            unfold acn
            by_cases f4 : FT 12 k < 4
            · rw [if_pos f4, if_pos f4]
            · rw [if_neg f4, if_neg f4]
              by_cases f5 : FT 12 k = 4
              · rw [if_pos f5, if_pos f5]
              · exact absurd (ft12 k hk.1 ha) (by omega)
          rw [this]
          exact hh
        · rw [vsel_x _ _ (by omega)] at hh ⊢
          rw [hAr c k i ha (by omega) hne e hl]
          exact hh
    · rw [adN_a (by omega) hk.1, vsel_x _ _ hc0]
      exact new (ap k) _ (har k ha).2
  · rcases wh κ c i g1 g3 with ⟨a1, a2, a3, a4⟩ | ⟨rfl, rfl, a⟩
    · rcases wh κ' c' i' g2 g4 with ⟨b1, b2, b3, b4⟩ | ⟨rfl, rfl, b⟩
      · rw [a3, b3] at ge
        exact hR.2.2.1 κ c i κ' c' i' g1 g2 a1 b1 ge
      · rw [a3] at ge
        rcases b with ⟨-, b⟩ | ⟨k, -, -, b⟩ <;> omega
    · rcases wh κ' c' i' g2 g4 with ⟨b1, b2, b3, b4⟩ | ⟨rfl, rfl, b⟩
      · rw [b3] at ge
        rcases a with ⟨-, a⟩ | ⟨k, -, -, a⟩ <;> omega
      · rcases a with ⟨rfl, a⟩ | ⟨k, rfl, ka, a⟩
        · rcases b with ⟨rfl, b⟩ | ⟨k', rfl, kb, b⟩
          · exact ⟨rfl, rfl⟩
          · have := (har k' kb).1
            omega
        · rcases b with ⟨rfl, b⟩ | ⟨k', rfl, kb, b⟩
          · have := (har k ka).1
            omega
          · have := hinj k k' ka kb (by omega)
            exact ⟨by omega, rfl⟩
  · rcases wh κ c i g1 g2 with ⟨a1, a2, a3, a4⟩ | ⟨rfl, rfl, a⟩
    · rw [a3]
      exact hR.2.2.2 κ c i g1 a1
    · rcases a with ⟨-, a⟩ | ⟨k, -, -, a⟩ <;> omega
