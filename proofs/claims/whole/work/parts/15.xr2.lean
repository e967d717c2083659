/-! continuations of calls; a method's start with all its locals -/
def CI (K : Value → VM → VM → Prop) : Option Value → VM → VM → Prop := fun v x' m' => ∃ w, v = some w ∧ K w x' m'
theorem CI.mk {K : Value → VM → VM → Prop} {w : Value} {x m : VM} (h : K w x m) : CI K (some w) x m := ⟨w, rfl, h⟩
def CV (K : VM → VM → Prop) : Option Value → VM → VM → Prop := fun v x' m' => v = none ∧ K x' m'
theorem CV.mk {K : VM → VM → Prop} {x m : VM} (h : K x m) : CV K none x m := ⟨rfl, h⟩
def padL (L : List (Option Value)) (n : Nat) : List (Option Value) := L ++ List.replicate (n - L.length) none
theorem wkL_rep : ∀ n : Nat, wkL (List.replicate n none) []
  | 0 => trivial
  | n + 1 => ⟨rfl, wkL_rep n⟩
theorem wkL_pad (n : Nat) : ∀ L : List (Option Value), wkL (L ++ List.replicate n none) L
  | [] => wkL_rep n
  | _ :: t => ⟨Or.inr rfl, wkL_pad n t⟩
section
variable {g : GG} {d : Nat} {M : MD} {ad : AD} {x m : VM} {pc : Nat} {L : List (Option Value)} {rest : List Value} {Q : Option Value → VM → VM → Prop}
theorem CX.to {n : Nat} {av : List Value} {Lv : List (Option Value)} (ok : okM M n) (hlen : (lg_sl av).length ≤ M.2.2.1) (hL : padL (entL av) M.2.2.1 = Lv) (h : EX g d M ad x m 0 Lv [] Q) : CX g d M av ad x m Q := Cl.of ok hlen (e_wk (hL ▸ wkL_pad _ _) h)
theorem e_top {P : Heap → Prop} {kc ks : Nat} {K : Option Value → Heap → Prop} {v0 v : Value} (h : v0 = v) (k : Ev g d M P kc ks pc L (v :: rest) K) : Ev g d M P kc ks pc L (v0 :: rest) K := h ▸ k
theorem x_callVi {M' : MD} {n idx c i : Nat} {r : vw_C} {As st : List Value} (ok : okM M' n) (lk : lkV M.1.cls idx M'.1) (hc : classes[c]? = some r) (hc13 : c < 13) (hrn : M'.1.cls = r.1) (hdg : decode M.2.1 pc = .ok (.invokevirtual idx, 3)) (hst : st = As.reverse ++ .ref (ad c i) :: rest) (hn : As.length = n) (hd : (rest.map fun v => v.category).sum ≤ 8) (hl : lvf x c i)
    (hcl : CX g d M' (.ref (ad c i) :: As) ad x m (CI fun w x' m' => EX g (d + 1) M ad x' m' (pc + 3) L (w :: rest) Q)) : EX g (d + 1) M ad x m pc L st Q :=
  x_callV ok lk hc hc13 hrn hdg hst hn hd hl hcl (fun v x' m' h => by obtain ⟨w, rfl, h⟩ := h; exact h)
theorem x_callVv {M' : MD} {n idx c i : Nat} {r : vw_C} {As st : List Value} (ok : okM M' n) (lk : lkV M.1.cls idx M'.1) (hc : classes[c]? = some r) (hc13 : c < 13) (hrn : M'.1.cls = r.1) (hdg : decode M.2.1 pc = .ok (.invokevirtual idx, 3)) (hst : st = As.reverse ++ .ref (ad c i) :: rest) (hn : As.length = n) (hd : (rest.map fun v => v.category).sum ≤ 8) (hl : lvf x c i)
    (hcl : CX g d M' (.ref (ad c i) :: As) ad x m (CV fun x' m' => EX g (d + 1) M ad x' m' (pc + 3) L rest Q)) : EX g (d + 1) M ad x m pc L st Q :=
  x_callV ok lk hc hc13 hrn hdg hst hn hd hl hcl (fun v x' m' h => by obtain ⟨rfl, h⟩ := h; exact h)
theorem x_callSi {M' : MD} {n idx : Nat} {As st : List Value} (ok : okM M' n) (lk : lkS M.1.cls idx M'.1) (hdg : decode M.2.1 pc = .ok (.invokestatic idx, 3)) (hst : st = As.reverse ++ rest) (hn : As.length = n) (hd : (rest.map fun v => v.category).sum ≤ 8)
    (hcl : CX g d M' As ad x m (CI fun w x' m' => EX g (d + 1) M ad x' m' (pc + 3) L (w :: rest) Q)) : EX g (d + 1) M ad x m pc L st Q :=
  x_callS ok lk hdg hst hn hd hcl (fun v x' m' h => by obtain ⟨w, rfl, h⟩ := h; exact h)
theorem x_callSNi {M' : MD} {n idx : Nat} {As st : List Value} (ok : okM M' n) (lk : (M.1.cls, idx, M'.1, RX11) ∈ nestM) (lk2 : Cond.static M'.1 ∈ lw_g) (hdg : decode M.2.1 pc = .ok (.invokestatic idx, 3)) (hst : st = As.reverse ++ rest) (hn : As.length = n) (hd : (rest.map fun v => v.category).sum ≤ 8)
    (hcl : CX g d M' As ad x m (CI fun w x' m' => EX g (d + 1) M ad x' m' (pc + 3) L (w :: rest) Q)) : EX g (d + 1) M ad x m pc L st Q :=
  x_callSN ok lk lk2 hdg hst hn hd hcl (fun v x' m' h => by obtain ⟨w, rfl, h⟩ := h; exact h)
end
/-! indices -/
theorem ix_lt {w : Int32} {n : Nat} (h0 : ¬ w < 0) (h1 : ¬ nI n ≤ w) (hn : n < 2 ^ 31) : w.toNatClampNeg < n := by
  rcases pk_ix w hn with h | h | ⟨j, hj, rfl⟩
  · exact absurd h h0
  · exact absurd h h1
  · rw [nI_clamp (by omega)]; exact hj
theorem ix_in {w : Int32} {n N : Nat} (h0 : ¬ w < 0) (h1 : ¬ nI n ≤ w) (hn : n < 2 ^ 31) (hN : n ≤ N) : vp_in w N := fun h => h.elim h0 (fun h => by have := ix_lt h0 h1 hn; omega)
theorem in_ge {w c : Int32} {N : Nat} (h0 : ¬ w < 0) (h1 : ¬ c ≤ w) (hc : c.toInt ≤ N) : vp_in w N := by
  rw [vp_in_iff]
  have a := Int32.not_lt.mp h0
  have b := Int32.not_le.mp h1
  rw [Int32.le_iff_toInt_le] at a
  rw [Int32.lt_iff_toInt_lt] at b
  exact ⟨by simpa using a, by omega⟩
theorem in_gt {w c : Int32} {N : Nat} (h0 : ¬ w < 0) (h1 : ¬ c < w) (hc : c.toInt < N) : vp_in w N := by
  rw [vp_in_iff]
  have a := Int32.not_lt.mp h0
  have b := Int32.not_lt.mp h1
  rw [Int32.le_iff_toInt_le] at a b
  exact ⟨by simpa using a, by omega⟩
/-! the ends of walks -/
theorem lfx {r : Int32 × VM} {v : Int32} {x' m : VM} {Q : Option Value → VM → VM → Prop} (e : r = (v, x')) (hq : Q (some (.int r.1)) r.2 m) : Q (some (.int v)) x' m := by rw [e] at hq; exact hq
theorem lfm {r : Int32 × VM} {v : Int32} {x m' : VM} {Q : Option Value → VM → VM → Prop} (e : r = (v, m')) (hq : Q (some (.int r.1)) x r.2) : Q (some (.int v)) x m' := by rw [e] at hq; exact hq
theorem lfi {r v : Int32} {x m : VM} {Q : Option Value → VM → VM → Prop} (e : r = v) (hq : Q (some (.int r)) x m) : Q (some (.int v)) x m := by rw [e] at hq; exact hq
theorem lfl {r v : Int64} {x m : VM} {Q : Option Value → VM → VM → Prop} (e : r = v) (hq : Q (some (.long r)) x m) : Q (some (.long v)) x m := by rw [e] at hq; exact hq
theorem lfvx {r x' m : VM} {Q : Option Value → VM → VM → Prop} (e : r = x') (hq : Q none r m) : Q none x' m := by rw [e] at hq; exact hq
theorem lfvm {r x m' : VM} {Q : Option Value → VM → VM → Prop} (e : r = m') (hq : Q none x r) : Q none x m' := by rw [e] at hq; exact hq
/-! fewer locals, by rows -/
theorem wk0 {L : List (Option Value)} : wkL [] L := trivial
theorem wkC {a : Option Value} {t u : List (Option Value)} (h : wkL t u) : wkL (a :: t) (a :: u) := ⟨Or.inr rfl, h⟩
theorem wkN {b : Option Value} {t u : List (Option Value)} (h : wkL t u) : wkL (none :: t) (b :: u) := ⟨Or.inl rfl, h⟩
/-! the one field that holds a reference or null: Orders.found -/
section
variable {g : GG} {d : Nat} {M : MD} {ad : AD} {x m : VM} {pc : Nat} {L : List (Option Value)} {rest : List Value} {Q : Option Value → VM → VM → Prop}
theorem x_putFN {idx : Nat} (hf : FLK M.1.cls idx 3 5) (hdg : decode M.2.1 pc = .ok (.putfield idx, 3)) (kk : EX g d M ad (setN x 0 0) m (pc + 3) L rest Q) : EX g d M ad x m pc L (.null :: .ref (ad 3 0) :: rest) Q :=
  e_putfield hf (fun _ h => by cases h; rfl) hdg rfl rfl (fun H hP => ⟨hP.1 3 0 (by omega) rfl, hP.2.2.2 3 3 0 (Or.inl ⟨rfl, by omega⟩) rfl⟩) (fun H H' hP ho _ oq => hP.setF (n := 0) (by rw [vsel_x _ _ (by omega)] at ho; exact ho) oq) kk
theorem x_putF {idx i : Nat} (hf : FLK M.1.cls idx 3 5) (hdg : decode M.2.1 pc = .ok (.putfield idx, 3)) (hl : i < x.2.2.2 5) (kk : EX g d M ad (setN x 0 (i + 1)) m (pc + 3) L rest Q) : EX g d M ad x m pc L (.ref (ad 5 i) :: .ref (ad 3 0) :: rest) Q :=
  e_putfield hf (fun _ h => by cases h; rfl) hdg rfl rfl (fun H hP => ⟨hP.1 3 0 (by omega) rfl, hP.2.2.2 3 3 0 (Or.inl ⟨rfl, by omega⟩) rfl⟩) (fun H H' hP ho _ oq => hP.setF (n := i + 1) (by rw [vsel_x _ _ (by omega)] at ho; exact ho) oq) kk
theorem x_acmpF {i tgt : Nat} {off : Int} (hdg : decode M.2.1 pc = .ok (.if_acmp .ne off, 3)) (ht : (pc : Int) + off = (tgt : Int)) (hl : i < x.2.2.2 5) (h0 : x.2.2.2 0 ≤ x.2.2.2 5) (kt : ¬ x.2.2.2 0 = i + 1 → EX g d M ad x m tgt L rest Q) (kf : x.2.2.2 0 = i + 1 → EX g d M ad x m (pc + 3) L rest Q) : EX g d M ad x m pc L (.ref (ad 5 i) :: va_rf (fnd ad x) :: rest) Q := by
  intro p e R s mm args below meth c K F hK H lo9 ce9 sl9 ls hP hS hl9 hz1 hz2
  refine lv_acmp_ne (ry := some (ad 5 i)) (rx := fnd ad x) F.1 F.2.1 hdg ht (fun hne => ?_) (fun heq => ?_)
  · refine kt (fun e9 => hne ?_) p e R s mm args below meth c K F hK H lo9 ce9 sl9 ls hP hS hl9 hz1 hz2
    unfold fnd
    rw [e9, if_neg (by omega)]
    rfl
  · refine kf ?_ p e R s mm args below meth c K F hK H lo9 ce9 sl9 ls hP hS hl9 hz1 hz2
    unfold fnd at heq
    by_cases z : x.2.2.2 0 = 0
    · rw [if_pos z] at heq; cases heq
    · rw [if_neg z] at heq
      have q := hP.2.2.1 5 5 (x.2.2.2 0 - 1) 5 5 i (Or.inl ⟨rfl, by omega⟩) (Or.inl ⟨rfl, by omega⟩) (show x.2.2.2 0 - 1 < x.2.2.2 5 by omega) hl (Option.some.inj heq)
      omega
end
/-! what always holds of the class's own counts -/
def KX (x : VM) : Prop := (x.1 1113 0 = nI (x.2.2.2 4) ∧ x.2.2.2 4 ≤ 16) ∧ (x.1 1114 0 = nI (x.2.2.2 5) ∧ x.2.2.2 5 ≤ 8) ∧ (x.1 1115 0 = nI (x.2.2.2 1) ∧ x.2.2.2 1 ≤ 6) ∧ ∀ p, p < x.2.2.2 5 → x.1 502 p = nI (x.2.2.2 (20 + p)) ∧ x.2.2.2 (20 + p) ≤ 8
theorem lt_nle {a b : Int32} (h : a < b) : ¬ b ≤ a := Int32.not_le.mpr h
theorem kx_4 {x : VM} (hK : KX x) {w : Int32} (h0 : ¬ w < 0) (h1 : w < x.1 1113 0) : w.toNatClampNeg < x.2.2.2 4 := ix_lt h0 (by rw [← hK.1.1]; exact lt_nle h1) (by have := hK.1.2; omega)
theorem kx_4i {x : VM} (hK : KX x) {w : Int32} (h0 : ¬ w < 0) (h1 : w < x.1 1113 0) : vp_in w 16 := ix_in h0 (by rw [← hK.1.1]; exact lt_nle h1) (by have := hK.1.2; omega) hK.1.2
theorem kx_5 {x : VM} (hK : KX x) {w : Int32} (h0 : ¬ w < 0) (h1 : w < x.1 1114 0) : w.toNatClampNeg < x.2.2.2 5 := ix_lt h0 (by rw [← hK.2.1.1]; exact lt_nle h1) (by have := hK.2.1.2; omega)
theorem kx_5i {x : VM} (hK : KX x) {w : Int32} (h0 : ¬ w < 0) (h1 : w < x.1 1114 0) : vp_in w 8 := ix_in h0 (by rw [← hK.2.1.1]; exact lt_nle h1) (by have := hK.2.1.2; omega) hK.2.1.2
theorem kx_1 {x : VM} (hK : KX x) {w : Int32} (h0 : ¬ w < 0) (h1 : w < x.1 1115 0) : w.toNatClampNeg < x.2.2.2 1 := ix_lt h0 (by rw [← hK.2.2.1.1]; exact lt_nle h1) (by have := hK.2.2.1.2; omega)
theorem kx_1i {x : VM} (hK : KX x) {w : Int32} (h0 : ¬ w < 0) (h1 : w < x.1 1115 0) : vp_in w 6 := ix_in h0 (by rw [← hK.2.2.1.1]; exact lt_nle h1) (by have := hK.2.2.1.2; omega) hK.2.2.1.2
theorem kx_s {x : VM} (hK : KX x) {p : Nat} (hp : p < x.2.2.2 5) {w : Int32} (h0 : ¬ w < 0) (h1 : w < x.1 502 p) : w.toNatClampNeg < x.2.2.2 (20 + p) := ix_lt h0 (by rw [← (hK.2.2.2 p hp).1]; exact lt_nle h1) (by have := (hK.2.2.2 p hp).2; omega)
theorem kx_si {x : VM} (hK : KX x) {p : Nat} (hp : p < x.2.2.2 5) {w : Int32} (h0 : ¬ w < 0) (h1 : w < x.1 502 p) : vp_in w 8 := ix_in h0 (by rw [← (hK.2.2.2 p hp).1]; exact lt_nle h1) (by have := (hK.2.2.2 p hp).2; omega) (hK.2.2.2 p hp).2
theorem lv8 {x : VM} {p s : Nat} (hp : p < x.2.2.2 5) (hs : s < x.2.2.2 (20 + p)) (h8 : x.2.2.2 (20 + p) ≤ 8) : (8 * p + s) / 8 < x.2.2.2 5 ∧ (8 * p + s) % 8 < x.2.2.2 (20 + (8 * p + s) / 8) := by
  have e1 : (8 * p + s) / 8 = p := by omega
  have e2 : (8 * p + s) % 8 = s := by omega
  rw [e1, e2]
  exact ⟨hp, hs⟩
theorem kx_8 {x : VM} (hK : KX x) {p s : Nat} (hp : p < x.2.2.2 5) (hs : s < x.2.2.2 (20 + p)) : (8 * p + s) / 8 < x.2.2.2 5 ∧ (8 * p + s) % 8 < x.2.2.2 (20 + (8 * p + s) / 8) := lv8 hp hs (hK.2.2.2 p hp).2
theorem in_8 {w : Int32} (h0 : ¬ w < 0) (h1 : w < 8) : vp_in w 8 := in_ge (c := 8) h0 (lt_nle h1) (by decide)
theorem in8_lt {w : Int32} {N : Nat} (h : vp_in w N) : w.toNatClampNeg < N := Nat.not_le.mp fun q => h (Or.inr q)
theorem cases7 {p : Int32} (h1 : ¬ p < -7) (h2 : ¬ -1 < p) : p = -7 ∨ p = -6 ∨ p = -5 ∨ p = -4 ∨ p = -3 ∨ p = -2 ∨ p = -1 := by
  have a := Int32.not_lt.mp h1
  have b := Int32.not_lt.mp h2
  rw [Int32.le_iff_toInt_le] at a b
  have e7 : (-7 : Int32).toInt = -7 := by decide
  have e1 : (-1 : Int32).toInt = -1 := by decide
  rw [e7] at a
  rw [e1] at b
  have key : ∀ (k : Int32), p.toInt = k.toInt → p = k := fun k h => Int32.toInt_inj.mp h
  rcases (show p.toInt = -7 ∨ p.toInt = -6 ∨ p.toInt = -5 ∨ p.toInt = -4 ∨ p.toInt = -3 ∨ p.toInt = -2 ∨ p.toInt = -1 by omega) with h | h | h | h | h | h | h
  · exact Or.inl (key (-7) (by rw [h]; decide))
  · exact Or.inr (Or.inl (key (-6) (by rw [h]; decide)))
  · exact Or.inr (Or.inr (Or.inl (key (-5) (by rw [h]; decide))))
  · exact Or.inr (Or.inr (Or.inr (Or.inl (key (-4) (by rw [h]; decide)))))
  · exact Or.inr (Or.inr (Or.inr (Or.inr (Or.inl (key (-3) (by rw [h]; decide))))))
  · exact Or.inr (Or.inr (Or.inr (Or.inr (Or.inr (Or.inl (key (-2) (by rw [h]; decide)))))))
  · exact Or.inr (Or.inr (Or.inr (Or.inr (Or.inr (Or.inr (key (-1) (by rw [h]; decide)))))))
theorem in_ref {p : Int32} (h1 : ¬ p < -7) (h2 : ¬ -1 < p) : vp_in (-p - 1) 7 := by
  rcases cases7 h1 h2 with rfl | rfl | rfl | rfl | rfl | rfl | rfl <;> (rw [vp_in_iff]; decide)
theorem neT {x k : Int32} {a : Int} (h : ¬ x = k) (hk : k.toInt = a) : x.toInt ≠ a := fun q => h (Int32.toInt_inj.mp (by rw [hk]; exact q))
theorem sw_out3 {x : Int32} (h0 : ¬ x = 0) (h1 : ¬ x = 1) (h2 : ¬ x = 2) : x.toInt < 0 ∨ 2 < x.toInt := by
  have := neT (a := 0) h0 rfl; have := neT (a := 1) h1 rfl; have := neT (a := 2) h2 rfl; omega
theorem sw_out8 {x : Int32} (h0 : ¬ x = 0) (h1 : ¬ x = 1) (h2 : ¬ x = 2) (h3 : ¬ x = 3) (h4 : ¬ x = 4) (h5 : ¬ x = 5) (h6 : ¬ x = 6) (h7 : ¬ x = 7) : x.toInt < 0 ∨ 7 < x.toInt := by
  have := neT (a := 0) h0 rfl; have := neT (a := 1) h1 rfl; have := neT (a := 2) h2 rfl; have := neT (a := 3) h3 rfl; have := neT (a := 4) h4 rfl; have := neT (a := 5) h5 rfl; have := neT (a := 6) h6 rfl; have := neT (a := 7) h7 rfl; omega
theorem sw_out9 {x : Int32} (h0 : ¬ x = 0) (h1 : ¬ x = 1) (h2 : ¬ x = 2) (h3 : ¬ x = 3) (h4 : ¬ x = 4) (h5 : ¬ x = 5) (h6 : ¬ x = 6) (h7 : ¬ x = 7) (h8 : ¬ x = 8) : x.toInt < 0 ∨ 8 < x.toInt := by
  have := neT (a := 8) h8 rfl; have := sw_out8 h0 h1 h2 h3 h4 h5 h6 h7; omega
theorem sw_out10 {x : Int32} (h0 : ¬ x = 0) (h1 : ¬ x = 1) (h2 : ¬ x = 2) (h3 : ¬ x = 3) (h4 : ¬ x = 4) (h5 : ¬ x = 5) (h6 : ¬ x = 6) (h7 : ¬ x = 7) (h8 : ¬ x = 8) (h9 : ¬ x = 9) : x.toInt < 0 ∨ 9 < x.toInt := by
  have := neT (a := 9) h9 rfl; have := sw_out9 h0 h1 h2 h3 h4 h5 h6 h7 h8; omega
/-! checked functions: loops, checks, calls -/
def itF {V O : Type} (B : V → V ⊕ O) : Nat → V → Option O
  | 0, _ => none
  | n + 1, v => (B v).elim (fun v' => itF B n v') (fun o => some o)
theorem itF_mono {V O : Type} (B : V → V ⊕ O) : ∀ (n k : Nat) (v : V) (o : O), itF B n v = some o → itF B (n + k) v = some o
  | 0, _, _, _, h => by cases h
  | n + 1, k, v, o, h => by
    rw [show n + 1 + k = (n + k) + 1 by omega]
    unfold itF at h ⊢
    cases hB : B v with
    | inl v' => rw [hB] at h; exact itF_mono B n k v' o h
    | inr o' => rw [hB] at h; exact h
theorem itF_uniq {V O : Type} (B : V → V ⊕ O) {n k : Nat} {v : V} {o o' : O} (h : itF B n v = some o) (h' : itF B k v = some o') : o = o' := by
  have a := itF_mono B n k v o h
  have b := itF_mono B k n v o' h'
  rw [show k + n = n + k by omega, a] at b
  exact Option.some.inj b
/-- a loop: its body says how it goes on, or what comes out; dflt where it never ends -/
noncomputable def loopF {V O : Type} (dflt : O) (B : V → V ⊕ O) (v : V) : O := @dite _ (∃ o, ∃ n, itF B n v = some o) (Classical.propDecidable _) (fun h => Classical.choose h) (fun _ => dflt)
theorem loopF_of {V O : Type} {dflt : O} {B : V → V ⊕ O} {v : V} {n : Nat} {o : O} (h : itF B n v = some o) : loopF dflt B v = o := by
  unfold loopF
  have hx : ∃ o, ∃ n, itF B n v = some o := ⟨o, n, h⟩
  rw [dif_pos hx]
  obtain ⟨k, hk⟩ := Classical.choose_spec hx
  exact itF_uniq B hk h
theorem loopF_not {V O : Type} {dflt : O} {B : V → V ⊕ O} {v : V} (h : ¬ ∃ o, ∃ n, itF B n v = some o) : loopF dflt B v = dflt := by
  unfold loopF
  rw [dif_neg h]
theorem loopF_eq {V O : Type} (dflt : O) (B : V → V ⊕ O) (v : V) : loopF dflt B v = (B v).elim (fun v' => loopF dflt B v') id := by
  cases hB : B v with
  | inr o => exact loopF_of (n := 1) (by unfold itF; rw [hB]; rfl)
  | inl v' =>
    by_cases h : ∃ o, ∃ n, itF B n v' = some o
    · obtain ⟨o, n, hn⟩ := h
      rw [loopF_of (n := n + 1) (o := o) (by unfold itF; rw [hB]; exact hn)]
      exact (loopF_of hn).symm
    · rw [loopF_not (v := v)]
      · exact (loopF_not h).symm
      · rintro ⟨o, n, hn⟩
        cases n with
        | zero => cases hn
        | succ n =>
          unfold itF at hn
          rw [hB] at hn
          exact h ⟨o, n, hn⟩
theorem loop_gen {V O : Type} (B : V → V ⊕ O) (dflt : O) (E : V → Prop) (Φ : O → Prop) (hd : Φ dflt → False) (body : ∀ (v : V) (Φ' : V ⊕ O → Prop), (∀ v', Φ' (.inl v') → E v') → (∀ o, Φ' (.inr o) → Φ o) → Φ' (B v) → E v) (v : V) (h : Φ (loopF dflt B v)) : E v := by
  by_cases hx : ∃ o, ∃ n, itF B n v = some o
  · obtain ⟨o, n, hn⟩ := hx
    rw [loopF_of hn] at h
    have key : ∀ (n : Nat) (v : V), itF B n v = some o → E v := by
      intro n
      induction n with
      | zero => intro v h; cases h
      | succ n ih =>
        intro v hn
        refine body v (fun q => q.elim (fun v' => itF B n v') (fun o => some o) = some o) (fun v' h' => ih v' h') (fun o' h' => ?_) hn
        have : o' = o := Option.some.inj h'
        rw [this]; exact h
    exact key n v hn
  · rw [loopF_not hx] at h
    exact (hd h).elim
theorem chkP {O : Type} {Φ : O → Prop} {c : Prop} [Decidable c] {A s : O} (hN : Φ s → False) (h : Φ (if c then A else s)) : c ∧ Φ A := by
  by_cases hc : c
  · rw [if_pos hc] at h; exact ⟨hc, h⟩
  · rw [if_neg hc] at h; exact (hN h).elim
theorem elimP {O α : Type} {Φ : O → Prop} {o : Option α} {s : O} {k : α → O} (hN : Φ s → False) (h : Φ (o.elim s k)) : ∃ a, o = some a ∧ Φ (k a) := by
  cases o with
  | none => exact (hN h).elim
  | some a => exact ⟨a, rfl, h⟩
theorem ifT {O : Type} {Φ : O → Prop} {c : Prop} [Decidable c] {A B : O} (hc : c) (h : Φ (if c then A else B)) : Φ A := by rw [if_pos hc] at h; exact h
theorem ifF {O : Type} {Φ : O → Prop} {c : Prop} [Decidable c] {A B : O} (hc : ¬ c) (h : Φ (if c then A else B)) : Φ B := by rw [if_neg hc] at h; exact h
/-- an index within, to be tested -/
def inb (i : Int32) (n : Nat) : Bool := decide (0 ≤ i.toInt ∧ i.toInt < n)
theorem inb_in {i : Int32} {n : Nat} (h : inb i n = true) : vp_in i n := by rw [vp_in_iff]; exact of_decide_eq_true h
theorem inb_iff {i : Int32} {n : Nat} : inb i n = true ↔ vp_in i n := by rw [vp_in_iff]; exact decide_eq_true_iff
/-- a stretch of an array within, to be tested -/
def spn (p n : Int32) (N : Nat) : Bool := decide (0 ≤ p.toInt ∧ 0 ≤ n.toInt ∧ p.toInt + n.toInt ≤ N)
theorem spn_all {p n : Int32} {N : Nat} (h : spn p n N = true) : ¬ p < 0 ∧ ¬ n < 0 ∧ p.toNatClampNeg + n.toNatClampNeg ≤ N := by
  obtain ⟨h1, h2, h3⟩ := of_decide_eq_true h
  have e : ∀ z : Int32, 0 ≤ z.toInt → ¬ z < 0 := fun z hz => Int32.not_lt.mpr (Int32.le_iff_toInt_le.mpr (by simpa using hz))
  refine ⟨e p h1, e n h2, ?_⟩
  have a := nnI p (e p h1)
  have b := nnI n (e n h2)
  omega
def sv0 (n : Nat) : Int32 := [-1, 0, 1, 0, 3, 0].getD n 0
def sv1 (n : Nat) : Int32 := [119, 115, 114, 112, 108, 121].getD n 0
def sv2 (n : Nat) : Int32 := [0, 0, 0, 0, 0, 1].getD n 0
def sv3 (n : Nat) : Int32 := [52, 1, 9, 50, 99, 9].getD n 0
def sv4 (n : Nat) : Int32 := [52, 0, 0, 0, 0, 1].getD n 0
theorem rfT {c : Prop} [Decidable c] {a : Nat} (h : c) : va_rf (if c then some a else none) = .ref a := by rw [if_pos h]; rfl
theorem rfF {c : Prop} [Decidable c] {a : Nat} (h : ¬ c) : va_rf (if c then some a else none) = .null := by rw [if_neg h]; rfl
theorem elN {O α : Type} {Φ : O → Prop} {A : O} {k : α → O} (h : Φ (Option.elim none A k)) : Φ A := h
theorem elS {O α : Type} {Φ : O → Prop} {A : O} {a : α} {k : α → O} (h : Φ (Option.elim (some a) A k)) : Φ (k a) := h
