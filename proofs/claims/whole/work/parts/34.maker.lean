/-! the four methods that make an object -/
section
variable {g : GG} {d : Nat} {M : MD} {ad : AD} {x m : VM} {P : Heap → Prop} {kc ks kcT ksT pc : Nat} {L : List (Option Value)} {st rest : List Value} {Q : Option Value → Heap → Prop}
theorem e_more {kc' ks' : Nat} (h1 : kc ≤ kc') (h2 : ks ≤ ks') (h : Ev g d M P kc ks pc L st Q) : Ev g d M P kc' ks' pc L st Q :=
  fun p e R s m args below meth c K F hK H lo9 ce9 sl9 ls hP hS hl hz1 hz2 => h p e R s m args below meth c K F hK H lo9 ce9 sl9 ls hP hS hl (by omega) (by omega)
theorem e_post {Q' : Option Value → Heap → Prop} (hq : ∀ v H, Q v H → Q' v H) (h : Ev g d M P kc ks pc L st Q) : Ev g d M P kc ks pc L st Q' :=
  fun p e R s m args below meth c K F hK H lo9 ce9 sl9 ls hP hS hl hz1 hz2 => h p e R s m args below meth c K F (fun v H1 locs cells slots pc ls hQ => hK v H1 locs cells slots pc ls (hq v H1 hQ)) H lo9 ce9 sl9 ls hP hS hl hz1 hz2
theorem y_get {c k idx i : Nat} {v : Value} (hc : c < 13) (hf : FLK M.1.cls idx c k) (hdg : decode M.2.1 pc = .ok (.getfield idx, 3)) (hl : lvf x c i) (hv : fv ad (vsel x m c) c i k = v) (kk : Ev g d M (Rep g ad x m) kc ks (pc + 3) L (v :: rest) Q) : Ev g d M (Rep g ad x m) kc ks pc L (.ref (ad c i) :: rest) Q :=
  e_getfield hf hdg (fun H hP => hP.1 c i hc hl) (hv ▸ kk)
theorem y_new {idx c n : Nat} {r : vw_C} (hc : classes[c]? = some r) (hn : r.2.2 = n) (hcl : Cond.classLink M.1.cls idx r.1 ∈ lw_g) (hins : Cond.instantiable r.1 r.2.2 ∈ lw_g) (hini : Cond.initialized r.1 ∈ lw_g) (hdg : decode M.2.1 pc = .ok (.new idx, 3)) (h1 : kcT = 1 + kc) (h2 : ksT = n + ks)
    (kk : ∀ n0, Ev g d M (CK g P n0 [dfo c]) kc ks (pc + 3) L (.ref (n0 + 0) :: rest) Q) : Ev g d M P kcT ksT pc L rest Q := by
  subst h1 h2 hn
  refine e_new hc hcl hins hini hdg (fun a => e_pre (fun H' hP => ?_) (kk a))
  obtain ⟨H, h, rfl, ho, hz, hq, hB⟩ := hP
  refine ⟨hB, hz, fun k e hk => ?_, H, h, rfl, hq⟩
  have hl := (List.getElem?_eq_some_iff.mp hk).1
  have e0 : k = 0 := by simpa using hl
  subst e0
  cases hk
  exact ho
/-- the new object goes into its container -/
theorem y_aast {x' : VM} {n0 c0 i0 cK kK iK nf n a : Nat} {bs : List CE} {V : Nat → Value} {ap : Nat → Nat} {r : vw_C} {f : Nat → Option Nat} {i : Int32} (hdg : decode M.2.1 pc = .ok (.aastore, 1)) (ha : a = ad (1000 + 100 * cK + kK) iK) (hin : vp_in i n) (hty : aty cK kK = .object r.1) (hcn : acn ad x cK kK iK = (n, .inr (.inr (.inr (.inr f))))) (hup : acn (adN ad c0 i0 n0 ap) x' cK kK iK = (n, .inr (.inr (.inr (.inr (va_up f i.toNatClampNeg (some (n0 + 0))))))))
    (hK : isA cK kK) (hKl : lvf x cK iK) (hKn : ¬ (cK = c0 ∧ iK = i0)) (hcK : cK < 12)
    (hc : c0 = 1 ∨ c0 = 4 ∨ c0 = 5 ∨ c0 = 8) (hnl : ¬ lvf x c0 i0) (hlv : ∀ c i, lvf x' c i ↔ lvf x c i ∨ (c = c0 ∧ i = i0))
    (hr : classes[c0]? = some r) (hrn : r.2.2 = nf) (hob : bs[0]? = some (.inr (c0, V))) (hV : ∀ k, k < nf → V k = fv (adN ad c0 i0 n0 ap) x' c0 i0 k)
    (har : ∀ k, isA c0 k → 1 ≤ ap k ∧ bs[ap k]? = some (.inl (aty c0 k, acn (adN ad c0 i0 n0 ap) x' c0 k i0))) (hinj : ∀ k k', isA c0 k → isA c0 k' → ap k = ap k' → k = k')
    (hI : ∀ c k i, c < 12 → k < 100 → ¬ (c = c0 ∧ i = i0) → x'.1 (100 * c + k) i = x.1 (100 * c + k) i)
    (hAr : ∀ c k i, isA c k → c < 12 → ¬ (c = c0 ∧ i = i0) → ¬ (c = cK ∧ k = kK ∧ i = iK) → lvf x c i → acn (adN ad c0 i0 n0 ap) x' c k i = acn ad x c k i)
    (hF : x'.2.2.2 0 = x.2.2.2 0) (hF5 : c0 = 5 → x.2.2.2 0 ≠ i0 + 1)
    (kk : Ev g d M (Rep g (adN ad c0 i0 n0 ap) x' m) kc ks (pc + 1) L rest Q) : Ev g d M (CK g (Rep g ad x m) n0 bs) kc ks pc L (.ref (n0 + 0) :: .int i :: .ref a :: rest) Q := by
  subst ha
  refine e_aastore (V := V) (f := f) (n := n) hdg hr (fun H hP => ?_) hin (fun H H' hP ho _ oq => ?_) kk
  · refine ⟨?_, hP.ob hob⟩
    obtain ⟨h2, h3, h4, H0, hR, h6, h7⟩ := hP
    have hlt := hR.lt (Or.inr ⟨kK, rfl, hK⟩) hKl
    refine ⟨?_, hR.2.2.2 _ cK iK (Or.inr ⟨kK, rfl, hK⟩) hKl⟩
    have := (hR.2.1 cK kK iK hK hKl).kept (h7 _ (h6 ▸ hlt))
    rw [vsel_x _ _ hcK, hcn, hty] at this
    exact this
  · refine Rep.grow hP oq hK hKl hKn hcK ?_ hc hnl hlv hr hrn hob hV har hinj hI hAr hF hF5
    rw [hup, hty]
    exact ho
end
/-- the class's state with one object more -/
def nwV (x : VM) (c0 i0 : Nat) (I : Nat → Int32) (B : Nat → Nat → Int32) (N : Nat → Nat) : VM := (fun f i => if f / 100 = c0 ∧ i = i0 then I (f % 100) else x.1 f i, fun f i => if f / 100 = c0 ∧ i = i0 then B (f % 100) else x.2.1 f i, fun f i => if f / 100 = c0 ∧ i = i0 then fun _ => 0 else x.2.2.1 f i, N)
theorem fv_new {ad : AD} {x : VM} {c0 i0 n0 k : Nat} {ap : Nat → Nat} {I : Nat → Int32} {B : Nat → Nat → Int32} {N : Nat → Nat} (hc : c0 < 13) (h6 : FT c0 k < 6) : fv (adN ad c0 i0 n0 ap) (nwV x c0 i0 I B N) c0 i0 k = if FT c0 k < 2 then .int (I k) else .ref (n0 + ap k) := by
  have hk := (FT_lt (c := c0) (k := k) (by omega)).1
  unfold fv
  by_cases f2 : FT c0 k < 2
  · rw [if_pos f2, if_pos f2]
    unfold nwV
    have e1 : (100 * c0 + k) / 100 = c0 := by omega
    have e2 : (100 * c0 + k) % 100 = k := by omega
    simp only [e1, e2]
    simp
  · rw [if_neg f2, if_neg f2, if_pos h6, adN_a hc hk]
def acw (c0 k : Nat) (B : Nat → Nat → Int32) : vp_A := (LN c0 k, if FT c0 k < 4 then .inl (B k) else if FT c0 k = 4 then .inr (.inl (fun _ => 0)) else .inr (.inr (.inr (.inr (fun _ => none)))))
theorem ft5 : ∀ c, c < 13 → ∀ k, k < 100 → FT c k = 5 → (c = 5 ∧ k = 1) ∨ (c = 11 ∧ k < 4) := by decide +kernel
theorem acn_new {ad : AD} {x : VM} {c0 i0 n0 k : Nat} {ap : Nat → Nat} {I : Nat → Int32} {B : Nat → Nat → Int32} {N : Nat → Nat} (hc : c0 < 11) (ha : isA c0 k) (h5 : c0 = 5 → N (20 + i0) = 0) : acn (adN ad c0 i0 n0 ap) (nwV x c0 i0 I B N) c0 k i0 = acw c0 k B := by
  have hk := isA_lt ha
  unfold acn acw
  have e1 : (100 * c0 + k) / 100 = c0 := by omega
  have e2 : (100 * c0 + k) % 100 = k := by omega
  by_cases f4 : FT c0 k < 4
  · rw [if_pos f4, if_pos f4]
    unfold nwV
    simp only [e1, e2]
    simp
  · rw [if_neg f4, if_neg f4]
    by_cases f5 : FT c0 k = 4
    · rw [if_pos f5, if_pos f5]
      unfold nwV
      simp only [e1]
      simp
    · rw [if_neg f5, if_neg f5]
      have h55 : FT c0 k = 5 := by have := ha.2; omega
      rcases ft5 c0 hk.2 k hk.1 h55 with ⟨rfl, rfl⟩ | ⟨rfl, -⟩
      · unfold rc
        rw [if_pos rfl]
        have e : (nwV x 5 i0 I B N).2.2.2 (20 + i0) = 0 := h5 rfl
        simp only [e]
        simp
      · omega
theorem acn_old {ad ad' : AD} {x : VM} {c0 i0 c k i : Nat} {I : Nat → Int32} {B : Nat → Nat → Int32} {N : Nat → Nat} (ha : isA c k) (hne : ¬ (c = c0 ∧ i = i0)) (h5 : FT c k = 5 → rc ad' (nwV x c0 i0 I B N) c k i = rc ad x c k i) : acn ad' (nwV x c0 i0 I B N) c k i = acn ad x c k i := by
  have hk := isA_lt ha
  have e1 : (100 * c + k) / 100 = c := by omega
  unfold acn
  by_cases f4 : FT c k < 4
  · rw [if_pos f4, if_pos f4]
    unfold nwV
    simp only [e1, if_neg hne]
  · rw [if_neg f4, if_neg f4]
    by_cases f5 : FT c k = 4
    · rw [if_pos f5, if_pos f5]
      unfold nwV
      simp only [e1, if_neg hne]
    · rw [if_neg f5, if_neg f5, h5 (by have := ha.2; have := ha.1; omega)]
theorem nwV_I {x : VM} {c0 i0 c k i : Nat} {I : Nat → Int32} {B : Nat → Nat → Int32} {N : Nat → Nat} (hk : k < 100) (hne : ¬ (c = c0 ∧ i = i0)) : (nwV x c0 i0 I B N).1 (100 * c + k) i = x.1 (100 * c + k) i := by
  have e1 : (100 * c + k) / 100 = c := by omega
  unfold nwV
  simp only [e1, if_neg hne]
/-- the container with one more -/
theorem up_more {A A' : Nat → Nat} {n b : Nat} {i : Int32} (hi : i.toNatClampNeg = n) (h1 : A' n = b) (h2 : ∀ j, j < n → A' j = A j) : (fun j => if j < n + 1 then some (A' j) else none) = va_up (fun j => if j < n then some (A j) else none) i.toNatClampNeg (some b) := by
  rw [hi]
  funext j
  unfold va_up
  by_cases e : j = n
  · subst e
    simp [h1]
  · by_cases l : j < n
    · rw [if_pos (by omega), if_neg e]
      show _ = if j < n then some (A j) else none
      rw [if_pos l, h2 j l]
    · rw [if_neg (by omega), if_neg e]
      show _ = if j < n then some (A j) else none
      rw [if_neg l]
/-- what a maker leaves: the answer, and the state, its cells lying somewhere -/
def PK (g : GG) (ad : AD) (m : VM) (r : Int32) (w : VM) : Option Value → Heap → Prop := fun v H => v = some (.int r) ∧ ∃ ad' : AD, ad' 11 0 = ad 11 0 ∧ ad' 12 0 = ad 12 0 ∧ Rep g ad' w m H
theorem PK.of {g : GG} {ad ad' : AD} {m : VM} {r : Int32} {w : VM} (h1 : ad' 11 0 = ad 11 0) (h2 : ad' 12 0 = ad 12 0) (v : Option Value) (H : Heap) (h : XQ g ad' (FQ (some (.int r)) w m) v H) : PK g ad m r w v H := by
  obtain ⟨x', m', ⟨rfl, rfl, rfl⟩, hR⟩ := h
  exact ⟨rfl, ad', h1, h2, hR⟩
theorem rc_ext {ad ad' : AD} {x x' : VM} {c k i : Nat} (h9 : ∀ j, ad' 9 j = ad 9 j) (hk1 : c ≠ 5 → k = 1 → x'.2.2.2 4 = x.2.2.2 4 ∧ ∀ j, j < x.2.2.2 4 → ad' 4 j = ad 4 j) (hk2 : c ≠ 5 → k = 2 → x'.2.2.2 5 = x.2.2.2 5 ∧ ∀ j, j < x.2.2.2 5 → ad' 5 j = ad 5 j) (hk3 : c ≠ 5 → k ≠ 0 → k ≠ 1 → k ≠ 2 → x'.2.2.2 1 = x.2.2.2 1 ∧ ∀ j, j < x.2.2.2 1 → ad' 1 j = ad 1 j)
    (h5 : c = 5 → x'.2.2.2 (20 + i) = x.2.2.2 (20 + i) ∧ ∀ j, j < x.2.2.2 (20 + i) → ad' 8 (8 * i + j) = ad 8 (8 * i + j)) : rc ad' x' c k i = rc ad x c k i := by
  have key : ∀ (n n' : Nat) (A A' : Nat → Nat), n' = n → (∀ j, j < n → A' j = A j) → (fun j => if j < n' then some (A' j) else none) = (fun j => if j < n then some (A j) else none) := by
    intro n n' A A' e h
    subst e
    funext j
    by_cases l : j < n'
    · rw [if_pos l, if_pos l, h j l]
    · rw [if_neg l, if_neg l]
  unfold rc
  by_cases c5 : c = 5
  · rw [if_pos c5, if_pos c5]
    exact key _ _ _ _ (h5 c5).1 (h5 c5).2
  · rw [if_neg c5, if_neg c5]
    by_cases k0 : k = 0
    · rw [if_pos k0, if_pos k0]
      funext j
      rw [h9]
    · rw [if_neg k0, if_neg k0]
      by_cases k1 : k = 1
      · rw [if_pos k1, if_pos k1]
        exact key _ _ _ _ (hk1 c5 k1).1 (hk1 c5 k1).2
      · rw [if_neg k1, if_neg k1]
        by_cases k2 : k = 2
        · rw [if_pos k2, if_pos k2]
          exact key _ _ _ _ (hk2 c5 k2).1 (hk2 c5 k2).2
        · rw [if_neg k2, if_neg k2]
          exact key _ _ _ _ (hk3 c5 k0 k1 k2).1 (hk3 c5 k0 k1 k2).2
theorem lv_c1 {x : VM} {i : Nat} : lvf x 1 i ↔ i < x.2.2.2 1 := Iff.rfl
theorem lv_c4 {x : VM} {i : Nat} : lvf x 4 i ↔ i < x.2.2.2 4 := Iff.rfl
theorem lv_c5 {x : VM} {i : Nat} : lvf x 5 i ↔ i < x.2.2.2 5 := Iff.rfl
theorem lv_c8 {x : VM} {i : Nat} : lvf x 8 i ↔ (i / 8 < x.2.2.2 5 ∧ i % 8 < x.2.2.2 (20 + i / 8)) := Iff.rfl
theorem lv_oth {x x' : VM} {c i : Nat} (h1 : c ≠ 1) (h4 : c ≠ 4) (h5 : c ≠ 5) (h8 : c ≠ 8) : lvf x' c i ↔ lvf x c i := by
  unfold lvf
  rw [if_neg h1, if_neg h1, if_neg h4, if_neg h4, if_neg h5, if_neg h5, if_neg h8, if_neg h8]
theorem lv_11 {x : VM} {i : Nat} (h : lvf x 11 i) : i = 0 := h
