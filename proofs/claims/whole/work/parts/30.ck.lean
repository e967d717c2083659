/-! making cells: a stretch of new cells behind the heap H0 -/
abbrev CE : Type := (FieldType × vp_A) ⊕ (Nat × (Nat → Value))
def ceAt (g : GG) (H : Heap) (a : Nat) (e : CE) : Prop := e.elim (fun q => aAt g H a q.1 q.2) (fun q => obAt g H a q.1 q.2)
theorem ceAt.kept {g : GG} {H H' : Heap} {a : Nat} {e : CE} (h : ceAt g H a e) (hq : H'[a]? = H[a]?) : ceAt g H' a e := by
  cases e with
  | inl q => exact aAt.kept (g := g) h hq
  | inr q => exact obAt.kept (g := g) h hq
/-- the cells bs behind a heap of A, of n0 cells -/
def CK (g : GG) (A : Heap → Prop) (n0 : Nat) (bs : List CE) (H : Heap) : Prop := gB g ≤ n0 ∧ H.size = n0 + bs.length ∧ (∀ (k : Nat) (e : CE), bs[k]? = some e → ceAt g H (n0 + k) e) ∧ ∃ H0 : Heap, A H0 ∧ H0.size = n0 ∧ ∀ q, q < n0 → H[q]? = H0[q]?
theorem CK.add {g : GG} {A : Heap → Prop} {H H' : Heap} {n0 : Nat} {bs : List CE} {e : CE} (h : CK g A n0 bs H) (hz : H'.size = H.size + 1) (hq : ∀ q, q < H.size → H'[q]? = H[q]?) (he : ceAt g H' H.size e) : CK g A n0 (bs ++ [e]) H' := by
  obtain ⟨h2, h3, h4, H0, h5, h6, h7⟩ := h
  refine ⟨h2, by rw [hz, h3, List.length_append]; rfl, fun k e' hk => ?_, H0, h5, h6, fun q hq' => by rw [hq q (by omega)]; exact h7 q hq'⟩
  by_cases hl : k < bs.length
  · rw [List.getElem?_append_left hl] at hk
    exact (h4 k e' hk).kept (hq _ (by omega))
  · rw [List.getElem?_append_right (by omega)] at hk
    have h1' : k - bs.length < 1 := (List.getElem?_eq_some_iff.mp hk).1
    have e0 : k = bs.length := by omega
    subst e0
    simp at hk
    subst hk
    rw [← h3]
    exact he
theorem CK.set {g : GG} {A : Heap → Prop} {H H' : Heap} {n0 k : Nat} {bs : List CE} {e : CE} (h : CK g A n0 bs H) (hz : H'.size = H.size) (hq : ∀ q, q ≠ n0 + k → H'[q]? = H[q]?) (he : ceAt g H' (n0 + k) e) : CK g A n0 (bs.set k e) H' := by
  obtain ⟨h2, h3, h4, H0, h5, h6, h7⟩ := h
  refine ⟨h2, by rw [hz, h3, List.length_set], fun j e' hj => ?_, H0, h5, h6, fun q hq' => by rw [hq q (by omega)]; exact h7 q hq'⟩
  rw [List.getElem?_set] at hj
  by_cases ejk : k = j
  · subst ejk
    rw [if_pos rfl] at hj
    split at hj
    · cases hj; exact he
    · cases hj
  · rw [if_neg ejk] at hj
    exact (h4 j e' hj).kept (hq _ (by omega))
theorem CK.A0 {g : GG} {A : Heap → Prop} {H : Heap} {n0 k : Nat} {bs : List CE} (h : CK g A n0 bs H) : A0 g (n0 + k) := by
  show gB g ≤ n0 + k
  have := h.1
  omega
theorem ceAt.lt {g : GG} {H : Heap} {a : Nat} {e : CE} (h : ceAt g H a e) : a < H.size := by
  cases e with
  | inl q => exact (Array.getElem?_eq_some_iff.mp h.2).1
  | inr q => exact obAt.lt (g := g) h
theorem CK.split {g : GG} {A : Heap → Prop} {H : Heap} {n0 b : Nat} {pre ys : List CE} (hb : pre.length = b) (h : CK g A n0 (pre ++ ys) H) : CK g (CK g A n0 pre) (n0 + b) ys H := by
  subst hb
  obtain ⟨h2, h3, h4, H0, h5, h6, h7⟩ := h
  rw [List.length_append] at h3
  have hx : ∀ q, q < n0 + pre.length → (H.extract 0 (n0 + pre.length))[q]? = H[q]? := fun q hq => by
    rw [Array.getElem?_extract]
    rw [if_pos (by omega)]
    simp
  have hs : (H.extract 0 (n0 + pre.length)).size = n0 + pre.length := by
    rw [Array.size_extract]
    omega
  refine ⟨by omega, by omega, fun k e hk => ?_, H.extract 0 (n0 + pre.length), ⟨h2, hs, fun k e hk => ?_, H0, h5, h6, fun q hq => by rw [hx q (by omega)]; exact h7 q hq⟩, hs, fun q hq => (hx q hq).symm⟩
  · have := h4 (pre.length + k) e (by rw [List.getElem?_append_right (by omega)]; rw [Nat.add_sub_cancel_left]; exact hk)
    rw [← Nat.add_assoc] at this
    exact this
  · have hl := (List.getElem?_eq_some_iff.mp hk).1
    exact (h4 k e (by rw [List.getElem?_append_left hl]; exact hk)).kept (hx _ (by omega))
theorem CK.join {g : GG} {A : Heap → Prop} {H : Heap} {n0 b : Nat} {pre ys : List CE} (hb : pre.length = b) (h : CK g (CK g A n0 pre) (n0 + b) ys H) : CK g A n0 (pre ++ ys) H := by
  subst hb
  obtain ⟨h2, h3, h4, H1, ⟨g2, g3, g4, H0, g5, g6, g7⟩, h6, h7⟩ := h
  refine ⟨g2, by rw [h3, List.length_append]; omega, fun k e hk => ?_, H0, g5, g6, fun q hq => by rw [h7 q (by omega)]; exact g7 q hq⟩
  by_cases hl : k < pre.length
  · rw [List.getElem?_append_left hl] at hk
    exact (g4 k e hk).kept (h7 _ (by omega))
  · rw [List.getElem?_append_right (by omega)] at hk
    have := h4 (k - pre.length) e hk
    rw [show n0 + pre.length + (k - pre.length) = n0 + k by omega] at this
    exact this
section
variable {g : GG} {d : Nat} {M : MD} {A : Heap → Prop} {n0 : Nat} {bs : List CE} {kc ks kcT ksT pc : Nat} {L : List (Option Value)} {rest : List Value} {Q : Option Value → Heap → Prop}
theorem e_known {P : Heap → Prop} {a b : Nat} (hP : ∀ H, P H → a = b) (k : Ev g d M P kc ks pc L (.ref b :: rest) Q) : Ev g d M P kc ks pc L (.ref a :: rest) Q := by
  intro p e R s m args below meth c K F hK H lo9 ce9 sl9 ls hP9 hS hl hz1 hz2
  rw [hP H hP9]
  exact k p e R s m args below meth c K F hK H lo9 ce9 sl9 ls hP9 hS hl hz1 hz2
theorem k_new {idx c b n : Nat} {r : vw_C} (hc : classes[c]? = some r) (hn : r.2.2 = n) (hcl : Cond.classLink M.1.cls idx r.1 ∈ lw_g) (hins : Cond.instantiable r.1 r.2.2 ∈ lw_g) (hini : Cond.initialized r.1 ∈ lw_g) (hdg : decode M.2.1 pc = .ok (.new idx, 3)) (hb : bs.length = b) (h1 : kcT = 1 + kc) (h2 : ksT = n + ks)
    (kk : Ev g d M (CK g A n0 (bs ++ [.inr (c, fun k => defaultValue (tyC c k))])) kc ks (pc + 3) L (.ref (n0 + b) :: rest) Q) : Ev g d M (CK g A n0 bs) kcT ksT pc L rest Q := by
  subst h1 h2 hn
  refine e_new hc hcl hins hini hdg (fun a => ?_)
  refine e_known (b := n0 + b) (fun H' hP => ?_) (e_pre (fun H' hP => ?_) kk)
  · obtain ⟨H, h, ha, -⟩ := hP
    rw [ha, h.2.1, hb]
  · obtain ⟨H, h, ha, ho, hz, hq, -⟩ := hP
    subst ha
    exact CK.add (e := .inr (c, fun k => defaultValue (tyC c k))) h hz hq ho
theorem k_newarray {atype : ArrayType} {n : Int32} {N k b : Nat} {a0 : vp_A} (hk : tyL[k]? = some (newarray.typeOf atype)) (hra : ∀ (U : State) (cA : ClassId), va_RA U cA (newarray.typeOf atype) → U.vm.findClass ("[" ++ (newarray.typeOf atype).toString) = some cA) (hw : Cond.arrayClass (newarray.typeOf atype) ∈ lw_g) (ha : ∀ cA : ClassId, vp_cell cA a0 = arrV cA N (fun _ => defaultValue (newarray.typeOf atype)))
    (hn : ¬ n < 0) (hN : n.toNatClampNeg = N) (hbytes : N * componentBytes (newarray.typeOf atype) ≤ 536870912) (hdg : decode M.2.1 pc = .ok (.newarray atype, 2)) (hb : bs.length = b) (h1 : kcT = 1 + kc) (h2 : ksT = N + ks)
    (kk : Ev g d M (CK g A n0 (bs ++ [.inl (newarray.typeOf atype, a0)])) kc ks (pc + 2) L (.ref (n0 + b) :: rest) Q) : Ev g d M (CK g A n0 bs) kcT ksT pc L (.int n :: rest) Q := by
  subst h1 h2
  refine e_newarray hk hra hw ha hn hN hbytes hdg (fun a => ?_)
  refine e_known (b := n0 + b) (fun H' hP => ?_) (e_pre (fun H' hP => ?_) kk)
  · obtain ⟨H, h, ha, -⟩ := hP
    rw [ha, h.2.1, hb]
  · obtain ⟨H, h, ha, ho, hz, hq, -⟩ := hP
    subst ha
    exact h.add hz hq ho
theorem k_int {n : Int32} {N b : Nat} (hn : ¬ n < 0) (hN : n.toNatClampNeg = N) (hbytes : N * 4 ≤ 536870912) (hdg : decode M.2.1 pc = .ok (.newarray .int, 2)) (hb : bs.length = b) (h1 : kcT = 1 + kc) (h2 : ksT = N + ks)
    (kk : Ev g d M (CK g A n0 (bs ++ [.inl (.int, (N, .inl (fun _ => 0)))])) kc ks (pc + 2) L (.ref (n0 + b) :: rest) Q) : Ev g d M (CK g A n0 bs) kcT ksT pc L (.int n :: rest) Q :=
  k_newarray (atype := .int) (k := 0) rfl (fun _ _ h => h) aw_int (fun _ => rfl) hn hN hbytes hdg hb h1 h2 kk
theorem k_bool {n : Int32} {N b : Nat} (hn : ¬ n < 0) (hN : n.toNatClampNeg = N) (hbytes : N * 1 ≤ 536870912) (hdg : decode M.2.1 pc = .ok (.newarray .boolean, 2)) (hb : bs.length = b) (h1 : kcT = 1 + kc) (h2 : ksT = N + ks)
    (kk : Ev g d M (CK g A n0 (bs ++ [.inl (.boolean, (N, .inl (fun _ => 0)))])) kc ks (pc + 2) L (.ref (n0 + b) :: rest) Q) : Ev g d M (CK g A n0 bs) kcT ksT pc L (.int n :: rest) Q :=
  k_newarray (atype := .boolean) (k := 1) rfl (fun _ _ h => h) aw_boolean (fun _ => rfl) hn hN hbytes hdg hb h1 h2 kk
theorem k_long {n : Int32} {N b : Nat} (hn : ¬ n < 0) (hN : n.toNatClampNeg = N) (hbytes : N * 8 ≤ 536870912) (hdg : decode M.2.1 pc = .ok (.newarray .long, 2)) (hb : bs.length = b) (h1 : kcT = 1 + kc) (h2 : ksT = N + ks)
    (kk : Ev g d M (CK g A n0 (bs ++ [.inl (.long, (N, .inr (.inl (fun _ => 0))))])) kc ks (pc + 2) L (.ref (n0 + b) :: rest) Q) : Ev g d M (CK g A n0 bs) kcT ksT pc L (.int n :: rest) Q :=
  k_newarray (atype := .long) (k := 2) rfl (fun _ _ h => h) aw_long (fun _ => rfl) hn hN hbytes hdg hb h1 h2 kk
theorem k_anew {idx k b : Nat} {C : String} {n : Int32} {N : Nat} (hk : tyL[k]? = some (.object C)) (hao : C ∈ aoL) (hcl : Cond.classLink M.1.cls idx C ∈ lw_g) (hn : ¬ n < 0) (hN : n.toNatClampNeg = N) (hbytes : N * 4 ≤ 536870912) (hdg : decode M.2.1 pc = .ok (.anewarray idx, 3)) (hb : bs.length = b) (h1 : kcT = 1 + kc) (h2 : ksT = N + ks)
    (kk : Ev g d M (CK g A n0 (bs ++ [.inl (.object C, (N, .inr (.inr (.inr (.inr (fun _ => none))))))])) kc ks (pc + 3) L (.ref (n0 + b) :: rest) Q) : Ev g d M (CK g A n0 bs) kcT ksT pc L (.int n :: rest) Q := by
  subst h1 h2
  refine e_anewarray hk hao hcl hn hN hbytes hdg (fun a => ?_)
  refine e_known (b := n0 + b) (fun H' hP => ?_) (e_pre (fun H' hP => ?_) kk)
  · obtain ⟨H, h, ha, -⟩ := hP
    rw [ha, h.2.1, hb]
  · obtain ⟨H, h, ha, ho, hz, hq, -⟩ := hP
    subst ha
    exact h.add hz hq ho
theorem CK.ob {H : Heap} {k c : Nat} {fs : Nat → Value} (h : CK g A n0 bs H) (hk : bs[k]? = some (.inr (c, fs))) : obAt g H (n0 + k) c fs := h.2.2.1 k _ hk
theorem CK.ar {H : Heap} {k : Nat} {q : FieldType × vp_A} (h : CK g A n0 bs H) (hk : bs[k]? = some (.inl q)) : aAt g H (n0 + k) q.1 q.2 := h.2.2.1 k _ hk
theorem k_get {idx c k f : Nat} {fs : Nat → Value} {v : Value} (hf : FLK M.1.cls idx c f) (hdg : decode M.2.1 pc = .ok (.getfield idx, 3)) (hk : bs[k]? = some (.inr (c, fs))) (hv : fs f = v) (kk : Ev g d M (CK g A n0 bs) kc ks (pc + 3) L (v :: rest) Q) : Ev g d M (CK g A n0 bs) kc ks pc L (.ref (n0 + k) :: rest) Q :=
  e_getfield (V := fs) hf hdg (fun H hP => hP.ob hk) (by rw [hv]; exact kk)
theorem k_put {idx c k f : Nat} {fs : Nat → Value} {v : Value} {bs' : List CE} (hf : FLK M.1.cls idx c f) (hfin : ∀ r, classes[c]? = some r → (r.2.1 f).2.2.2 = false) (hdg : decode M.2.1 pc = .ok (.putfield idx, 3)) (hn : narrow (tyC c f) v = v) (hfit : fits (tyC c f) v = true) (hk : bs[k]? = some (.inr (c, fs))) (hb : bs.set k (.inr (c, updV fs f v)) = bs')
    (kk : Ev g d M (CK g A n0 bs') kc ks (pc + 3) L rest Q) : Ev g d M (CK g A n0 bs) kc ks pc L (v :: .ref (n0 + k) :: rest) Q := by
  subst hb
  exact e_putfield hf hfin hdg hn hfit (fun H hP => ⟨hP.ob hk, hP.A0⟩) (fun H H' hP ho hz oq => CK.set (e := .inr (c, updV fs f v)) hP hz oq ho) kk
theorem k_putF {idx c k f : Nat} {fs : Nat → Value} {v : Value} {bs' : List CE} (hf : FLK M.1.cls idx c f) (hfin : ∀ r, classes[c]? = some r → (r.2.1 f).2.2.2 = true ∧ (r.2.1 f).1 = M.1.cls) (hin : M.1.name = "<init>") (hdg : decode M.2.1 pc = .ok (.putfield idx, 3)) (hn : narrow (tyC c f) v = v) (hfit : fits (tyC c f) v = true) (hk : bs[k]? = some (.inr (c, fs))) (hb : bs.set k (.inr (c, updV fs f v)) = bs')
    (kk : Ev g d M (CK g A n0 bs') kc ks (pc + 3) L rest Q) : Ev g d M (CK g A n0 bs) kc ks pc L (v :: .ref (n0 + k) :: rest) Q := by
  subst hb
  exact e_putfieldF hf hfin hin hdg hn hfit (fun H hP => ⟨hP.ob hk, hP.A0⟩) (fun H H' hP ho hz oq => CK.set (e := .inr (c, updV fs f v)) hP hz oq ho) kk
theorem k_iast {k n : Nat} {f : Nat → Int32} {i x : Int32} {bs' : List CE} (hdg : decode M.2.1 pc = .ok (.iastore, 1)) (hk : bs[k]? = some (.inl (.int, (n, .inl f)))) (hin : vp_in i n) (hb : bs.set k (.inl (.int, (n, .inl (upd f i.toNatClampNeg x)))) = bs') (kk : Ev g d M (CK g A n0 bs') kc ks (pc + 1) L rest Q) : Ev g d M (CK g A n0 bs) kc ks pc L (.int x :: .int i :: .ref (n0 + k) :: rest) Q := by
  subst hb
  exact e_iastore hdg (fun H hP => ⟨hP.ar hk, hP.A0⟩) hin (fun H H' hP ho hz oq => CK.set (e := .inl (.int, (n, .inl (upd f i.toNatClampNeg x)))) hP hz oq ho) kk
theorem k_aast {k n kv c : Nat} {r : vw_C} {fs : Nat → Value} {f : Nat → Option Nat} {i : Int32} {bs' : List CE} (hdg : decode M.2.1 pc = .ok (.aastore, 1)) (hr : classes[c]? = some r) (hk : bs[k]? = some (.inl (.object r.1, (n, .inr (.inr (.inr (.inr f))))))) (hv : bs[kv]? = some (.inr (c, fs))) (hin : vp_in i n) (hb : bs.set k (.inl (.object r.1, (n, .inr (.inr (.inr (.inr (va_up f i.toNatClampNeg (some (n0 + kv))))))))) = bs') (kk : Ev g d M (CK g A n0 bs') kc ks (pc + 1) L rest Q) : Ev g d M (CK g A n0 bs) kc ks pc L (.ref (n0 + kv) :: .int i :: .ref (n0 + k) :: rest) Q := by
  subst hb
  exact e_aastore hdg hr (fun H hP => ⟨⟨hP.ar hk, hP.A0⟩, hP.ob hv⟩) hin (fun H H' hP ho hz oq => CK.set (e := .inl (.object r.1, (n, .inr (.inr (.inr (.inr (va_up f i.toNatClampNeg (some (n0 + kv))))))))) hP hz oq ho) kk
/-- the end of a constructor, and its call -/
theorem k_ret {bs' : List CE} (hdg : decode M.2.1 pc = .ok (.return_, 1)) (ht : M.2.2.2 = none) (hb : bs = bs') : Ev g d M (CK g A n0 bs) kc ks pc L [] (fun v H => v = none ∧ CK g A n0 bs' H) := e_return hdg ht (fun H hP => ⟨rfl, hb ▸ hP⟩)
theorem k_init {M' : MD} {n mc ms idx a : Nat} {As st : List Value} {bs' : List CE} (ok : okM M' n) (lk : lkI M.1.cls idx M'.1) (hi : M'.1.name = "<init>") (hr : M'.2.2.2 = none) (hdg : decode M.2.1 pc = .ok (.invokespecial idx, 3)) (hst : st = As.reverse ++ .ref a :: rest) (hn : As.length = n) (hd : (rest.map fun v => v.category).sum ≤ 8) (h1 : kcT = mc + kc) (h2 : ksT = ms + ks)
    (hcl : Cl g d mc ms M' (.ref a :: As) (CK g A n0 bs) (fun v H => v = none ∧ CK g A n0 bs' H)) (kk : Ev g (d + 1) M (CK g A n0 bs') kc ks (pc + 3) L rest Q) : Ev g (d + 1) M (CK g A n0 bs) kcT ksT pc L st Q := by
  subst h1 h2
  exact e_invI ok lk hi hr hdg hst hn hd hcl (fun v => e_and (fun hv => by subst hv; exact kk))
theorem k_initN {M' : MD} {n mc ms idx a : Nat} {As st : List Value} {bs' : List CE} (ok : okM M' n) (lk : (M.1.cls, idx, M'.1, RX11) ∈ nestM) (lk2 : Cond.instanceMethod M'.1 ∈ lw_g) (hi : M'.1.name = "<init>") (hr : M'.2.2.2 = none) (hdg : decode M.2.1 pc = .ok (.invokespecial idx, 3)) (hst : st = As.reverse ++ .ref a :: rest) (hn : As.length = n) (hd : (rest.map fun v => v.category).sum ≤ 8) (h1 : kcT = mc + kc) (h2 : ksT = ms + ks)
    (hcl : Cl g d mc ms M' (.ref a :: As) (CK g A n0 bs) (fun v H => v = none ∧ CK g A n0 bs' H)) (kk : Ev g (d + 1) M (CK g A n0 bs') kc ks (pc + 3) L rest Q) : Ev g (d + 1) M (CK g A n0 bs) kcT ksT pc L st Q := by
  subst h1 h2
  exact e_invIN ok lk lk2 hi hr hdg hst hn hd hcl (fun v => e_and (fun hv => by subst hv; exact kk))
theorem Cl.to {n mc ms : Nat} {av : List Value} {P : Heap → Prop} {Lv : List (Option Value)} (ok : okM M n) (hlen : (lg_sl av).length ≤ M.2.2.1) (hL : padL (entL av) M.2.2.1 = Lv) (h : Ev g d M P mc ms 0 Lv [] Q) : Cl g d mc ms M av P Q := Cl.of ok hlen (e_wk (hL ▸ wkL_pad _ _) h)
end
section
variable {g : GG} {d : Nat} {M : MD} {A : Heap → Prop} {n0 : Nat} {bs : List CE} {kc ks kcT ksT pc : Nat} {L : List (Option Value)} {rest : List Value} {Q : Option Value → Heap → Prop}
theorem k_initP {M' : MD} {n mc ms idx b : Nat} {e0 : CE} {ys : List CE} {As st : List Value} (ok : okM M' n) (lk : lkI M.1.cls idx M'.1) (hi : M'.1.name = "<init>") (hr : M'.2.2.2 = none) (hdg : decode M.2.1 pc = .ok (.invokespecial idx, 3)) (hst : st = As.reverse ++ .ref (n0 + b) :: rest) (hn : As.length = n) (hd : (rest.map fun v => v.category).sum ≤ 8) (hb : bs.length = b) (h1 : kcT = mc + kc) (h2 : ksT = ms + ks)
    (hcl : Cl g d mc ms M' (.ref (n0 + b) :: As) (CK g (CK g A n0 bs) (n0 + b) [e0]) (fun v H => v = none ∧ CK g (CK g A n0 bs) (n0 + b) ys H)) (kk : Ev g (d + 1) M (CK g A n0 (bs ++ ys)) kc ks (pc + 3) L rest Q) : Ev g (d + 1) M (CK g A n0 (bs ++ [e0])) kcT ksT pc L st Q := by
  subst h1 h2
  exact e_pre (fun H h => h.split hb) (e_invI ok lk hi hr hdg hst hn hd hcl (fun v => e_and (fun hv => by subst hv; exact e_pre (fun H h => h.join hb) kk)))
theorem k_initPN {M' : MD} {n mc ms idx b : Nat} {e0 : CE} {ys : List CE} {As st : List Value} (ok : okM M' n) (lk : (M.1.cls, idx, M'.1, RX11) ∈ nestM) (lk2 : Cond.instanceMethod M'.1 ∈ lw_g) (hi : M'.1.name = "<init>") (hr : M'.2.2.2 = none) (hdg : decode M.2.1 pc = .ok (.invokespecial idx, 3)) (hst : st = As.reverse ++ .ref (n0 + b) :: rest) (hn : As.length = n) (hd : (rest.map fun v => v.category).sum ≤ 8) (hb : bs.length = b) (h1 : kcT = mc + kc) (h2 : ksT = ms + ks)
    (hcl : Cl g d mc ms M' (.ref (n0 + b) :: As) (CK g (CK g A n0 bs) (n0 + b) [e0]) (fun v H => v = none ∧ CK g (CK g A n0 bs) (n0 + b) ys H)) (kk : Ev g (d + 1) M (CK g A n0 (bs ++ ys)) kc ks (pc + 3) L rest Q) : Ev g (d + 1) M (CK g A n0 (bs ++ [e0])) kcT ksT pc L st Q := by
  subst h1 h2
  exact e_pre (fun H h => h.split hb) (e_invIN ok lk lk2 hi hr hdg hst hn hd hcl (fun v => e_and (fun hv => by subst hv; exact e_pre (fun H h => h.join hb) kk)))
theorem k_for {N : Nat} {S : Nat → Heap → Prop} {Lf : Nat → List (Option Value)} (hs : ∀ i, i < N → Ev g d M (S (i + 1)) kc ks pc (Lf (i + 1)) [] Q → Ev g d M (S i) kc ks pc (Lf i) [] Q) (he : Ev g d M (S N) kc ks pc (Lf N) [] Q) : Ev g d M (S 0) kc ks pc (Lf 0) [] Q := by
  have key : ∀ j, j ≤ N → Ev g d M (S (N - j)) kc ks pc (Lf (N - j)) [] Q := by
    intro j
    induction j with
    | zero => intro _; exact he
    | succ j ih =>
      intro hj
      refine hs (N - (j + 1)) (by omega) ?_
      have := ih (by omega)
      rw [show N - (j + 1) + 1 = N - j by omega]
      exact this
  have := key N (Nat.le_refl _)
  rw [Nat.sub_self] at this
  exact this
theorem k_eq {bs' : List CE} (h : bs = bs') {st : List Value} (kk : Ev g d M (CK g A n0 bs') kc ks pc L st Q) : Ev g d M (CK g A n0 bs) kc ks pc L st Q := h ▸ kk
end
/-- an array that is filled up to i -/
def fil (v : Int32) (i : Nat) : Nat → Int32 := fun j => if j < i then v else 0
theorem fil_0 (v : Int32) : (fun _ => 0) = fil v 0 := by
  funext j
  simp [fil]
theorem fil_s (v : Int32) {i N : Nat} (h : i < N) (hN : N < 2 ^ 31) : upd (fil v i) (nI i).toNatClampNeg v = fil v (i + 1) := by
  rw [nI_clamp (by omega)]
  funext j
  unfold upd fil
  by_cases e : j = i
  · subst e; simp
  · rw [if_neg e]
    by_cases h : j < i
    · rw [if_pos h, if_pos (by omega)]
    · rw [if_neg h, if_neg (by omega)]
abbrev dfo (c : Nat) : CE := .inr (c, fun k => defaultValue (tyC c k))
abbrev zI (n : Nat) : CE := .inl (.int, (n, .inl (fun _ => 0)))
abbrev zB (n : Nat) : CE := .inl (.boolean, (n, .inl (fun _ => 0)))
abbrev zJ (n : Nat) : CE := .inl (.long, (n, .inr (.inl (fun _ => 0))))
abbrev zR (C : String) (n : Nat) : CE := .inl (.object C, (n, .inr (.inr (.inr (.inr (fun _ => none))))))
