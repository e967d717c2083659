/-! the heap: objects by their class's number, arrays by their element type -/
def obAt (g : GG) (H : Heap) (a c : Nat) (V : Nat → Value) : Prop := ∃ r : vw_C, classes[c]? = some r ∧ t_OB a ((gD g).1 c) r.2.2 ((gD g).2 c) H V
def aAt (g : GG) (H : Heap) (a : Nat) (ty : FieldType) (A : vp_A) : Prop := (∃ k : Nat, tyL[k]? = some ty) ∧ H[a]? = some (vp_cell (gA g ty) A)
theorem tysG_at {g : GG} {k : Nat} {ty : FieldType} (h : tyL[k]? = some ty) : (tysG g)[k]? = some (gA g ty, ty) := by
  show (tyL.map _)[k]? = _
  rw [List.getElem?_map, h]
  rfl
theorem va_P1 {D : va_G} {cl : List vw_C} {q : Nat × va_E} {H : Heap} (h : va_at D cl q H) : va_P D cl [q] H := by
  intro k x hx
  cases k with
  | zero => cases hx; exact h
  | succ k => simp at hx
theorem obAt.kept {g : GG} {H H' : Heap} {a c : Nat} {V : Nat → Value} (h : obAt g H a c V) (hq : H'[a]? = H[a]?) : obAt g H' a c V := by
  obtain ⟨r, h1, h2⟩ := h
  exact ⟨r, h1, h2.kept hq⟩
theorem aAt.kept {g : GG} {H H' : Heap} {a : Nat} {ty : FieldType} {A : vp_A} (h : aAt g H a ty A) (hq : H'[a]? = H[a]?) : aAt g H' a ty A := ⟨h.1, hq.trans h.2⟩
theorem obAt.to {g : GG} {H : Heap} {a c : Nat} {V V' : Nat → Value} (h : obAt g H a c V) (hv : ∀ k, V k = V' k) : obAt g H a c V' := by
  rw [← show V = V' from funext hv]; exact h
theorem obAt.lt {g : GG} {H : Heap} {a c : Nat} {V : Nat → Value} (h : obAt g H a c V) : a < H.size := by
  obtain ⟨r, h1, cell, h2, -⟩ := h
  exact (Array.getElem?_eq_some_iff.mp h2).1
theorem aAt.lt {g : GG} {H : Heap} {a : Nat} {ty : FieldType} {A : vp_A} (h : aAt g H a ty A) : a < H.size := (Array.getElem?_eq_some_iff.mp h.2).1
theorem obAt.recv {g : GG} {H : Heap} {a c : Nat} {V : Nat → Value} {r : vw_C} {s : State} (hc : classes[c]? = some r) (hV : VK g s) (h : obAt g H a c V) : ∃ cell : Cell, H[a]? = some cell ∧ cell.vm.isStatics = false ∧ s.vm.findClass r.1 = some cell.cls := by
  obtain ⟨r', h1, cell, h2, h3, h4, -⟩ := h
  cases hc.symm.trans h1
  exact ⟨cell, h2, by rw [h4]; rfl, by rw [h3]; exact (hV.1.1 c _ hc).2.1⟩
section
variable {g : GG} {d : Nat} {M : MD} {P P' : Heap → Prop} {kc ks pc : Nat} {L : List (Option Value)} {rest : List Value} {Q : Option Value → Heap → Prop}
theorem e_getfield {a c k idx : Nat} {V : Nat → Value} (hf : FLK M.1.cls idx c k) (hdg : decode M.2.1 pc = .ok (.getfield idx, 3)) (ho : ∀ H, P H → obAt g H a c V) (kk : Ev g d M P kc ks (pc + 3) L (V k :: rest) Q) : Ev g d M P kc ks pc L (.ref a :: rest) Q := by
  intro p e R s m args below meth c0 K F hK H lo9 ce9 sl9 ls hP hS hl hz1 hz2
  obtain ⟨q, hq, hk, hw⟩ := hf
  obtain ⟨r, hr, cell, q1, q2, q3, q4⟩ := ho H hP
  cases hq.symm.trans hr
  obtain ⟨hSl, hfc, kC, hkC, hkind⟩ := F.2.2.2.2.2.2.2.2.1.1.1 c _ hr
  obtain ⟨cf, kf, fi, f, hi, hsl⟩ := hSl k hk
  exact W.getf F.1 F.2.1 F.2.2.2.2.1 (F.2.2.2.2.2.1 _ hw) hi (u_facts hfc hkC (u_lays F.2.2.2.2.2.1 (cls_in c _ hr) hk) hi).1 q1 (by rw [q3]; exact fun h => by cases h) (v := V k) (by rw [hsl]; exact q4 k hk) rfl rfl hdg (kk p e R s m args below meth c0 K F hK H lo9 ce9 sl9 ls hP hS hl hz1 hz2)
theorem e_putfield {a c k idx : Nat} {V : Nat → Value} {v : Value} (hf : FLK M.1.cls idx c k) (hfin : ∀ r, classes[c]? = some r → (r.2.1 k).2.2.2 = false) (hdg : decode M.2.1 pc = .ok (.putfield idx, 3)) (hn : narrow (tyC c k) v = v) (hfit : fits (tyC c k) v = true)
    (ho : ∀ H, P H → obAt g H a c V ∧ A0 g a) (hp : ∀ H H', P H → obAt g H' a c (updV V k v) → H'.size = H.size → (∀ q, q ≠ a → H'[q]? = H[q]?) → P' H') (kk : Ev g d M P' kc ks (pc + 3) L rest Q) : Ev g d M P kc ks pc L (v :: .ref a :: rest) Q := by
  intro p e R s m args below meth c0 K F hK H lo9 ce9 sl9 ls hP hS hl hz1 hz2
  obtain ⟨q, hq, hk, hw⟩ := hf
  obtain ⟨⟨r, hr, cell, q1, q2, q3, q4⟩, ha⟩ := ho H hP
  cases hq.symm.trans hr
  have hV := F.2.2.2.2.2.2.2.2.1.1
  have hts := F.2.2.2.2.2.1
  have hap := va_apart (own := M.1.cls) (D := gD g) (cl := classes) hts (cls_in c _ hr) (tyC c) (cls_ty c _ hr) (cls_nm c _ hr) hV hr
  obtain ⟨hSl, hfc, kC, hkC, hkind⟩ := hV.1 c _ hr
  obtain ⟨cf, kf, fi, f, hi, hsl⟩ := hSl k hk
  have hlay := hts _ (cls_in c _ hr _ (u_in_lay hk))
  unfold u_lay at hlay
  rw [if_neg (by rw [hfin _ hr]; decide)] at hlay
  have hst := (u_facts hfc hkC (u_lays hts (cls_in c _ hr) hk) hi).1
  have h6 := u_store hfc hkC hkind hlay hi (cls_ty c _ hr k hk) hn hfit
  refine W.putK F.1 F.2.1 (f := f) ⟨F.2.2.2.2.1, hts _ hw, ⟨_, _, _, hi⟩, hst⟩ (by rw [q2]; exact h6) q1 q3 (by rw [hsl]; exact k2_hasslot (q4 k hk)) rfl rfl hdg fun H' e1 e2 e3 => ?_
  rw [hsl] at e1 ⊢
  exact kk p e R s m args below meth c0 K F hK H' _ ce9 sl9 ls (hp H H' hP ⟨_, hr, _, e1, q2, q3, t_set q4 hap hk v⟩ e2 e3) (hS.put e2 e3 ha) hl hz1 hz2
/-- a final field, in the constructor -/
theorem e_putfieldF {a c k idx : Nat} {V : Nat → Value} {v : Value} (hf : FLK M.1.cls idx c k) (hfin : ∀ r, classes[c]? = some r → (r.2.1 k).2.2.2 = true ∧ (r.2.1 k).1 = M.1.cls) (hin : M.1.name = "<init>") (hdg : decode M.2.1 pc = .ok (.putfield idx, 3)) (hn : narrow (tyC c k) v = v) (hfit : fits (tyC c k) v = true)
    (ho : ∀ H, P H → obAt g H a c V ∧ A0 g a) (hp : ∀ H H', P H → obAt g H' a c (updV V k v) → H'.size = H.size → (∀ q, q ≠ a → H'[q]? = H[q]?) → P' H') (kk : Ev g d M P' kc ks (pc + 3) L rest Q) : Ev g d M P kc ks pc L (v :: .ref a :: rest) Q := by
  intro p e R s m args below meth c0 K F hK H lo9 ce9 sl9 ls hP hS hl hz1 hz2
  obtain ⟨q, hq, hk, hw⟩ := hf
  obtain ⟨⟨r, hr, cell, q1, q2, q3, q4⟩, ha⟩ := ho H hP
  cases hq.symm.trans hr
  have hV := F.2.2.2.2.2.2.2.2.1.1
  have hts := F.2.2.2.2.2.1
  have hap := va_apart (own := M.1.cls) (D := gD g) (cl := classes) hts (cls_in c _ hr) (tyC c) (cls_ty c _ hr) (cls_nm c _ hr) hV hr
  obtain ⟨hSl, hfc, kC, hkC, hkind⟩ := hV.1 c _ hr
  obtain ⟨cf, kf, fi, f, hi, hsl⟩ := hSl k hk
  have hlay := hts _ (cls_in c _ hr _ (u_in_lay hk))
  unfold u_lay at hlay
  rw [if_pos (hfin _ hr).1] at hlay
  have hst := (u_facts hfc hkC (u_lays hts (cls_in c _ hr) hk) hi).1
  have hcf : m.cls = cf := by
    obtain ⟨_, _, c', _, _, _, -, -, hf', -, -, -, hown2, -⟩ := Cond.laysFinal_spec hlay
    have e1 : c' = cf := by have := hi.symm.trans hf'; simp at this; exact this.1.symm
    rw [(hfin _ hr).2] at hown2
    rw [← e1]
    exact Option.some.inj (F.2.2.2.2.1.symm.trans hown2)
  have h6 := u_fits hfc hkC hkind (Or.inr hlay) hi (cls_ty c _ hr k hk) hn hfit
  refine W.putFinK F.1 F.2.1 F.2.2.2.2.1 (hts _ hw) hi hst hcf (by rw [F.2.2.2.2.2.2.2.1]; exact hin) (by rw [q2]; exact h6) q1 q3 (by rw [hsl]; exact k2_hasslot (q4 k hk)) rfl rfl hdg fun H' e1 e2 e3 => ?_
  rw [hsl] at e1 ⊢
  exact kk p e R s m args below meth c0 K F hK H' _ ce9 sl9 ls (hp H H' hP ⟨_, hr, _, e1, q2, q3, t_set q4 hap hk v⟩ e2 e3) (hS.put e2 e3 ha) hl hz1 hz2
theorem e_iaload {a n : Nat} {f : Nat → Int32} {i : Int32} (hdg : decode M.2.1 pc = .ok (.iaload, 1)) (ho : ∀ H, P H → aAt g H a .int (n, .inl f)) (hin : vp_in i n) (kk : Ev g d M P kc ks (pc + 1) L (.int (f i.toNatClampNeg) :: rest) Q) : Ev g d M P kc ks pc L (.int i :: .ref a :: rest) Q := by
  intro p e R s m args below meth c0 K F hK H lo9 ce9 sl9 ls hP hS hl hz1 hz2
  obtain ⟨⟨k, hk⟩, hc⟩ := ho H hP
  exact va_iald F.1 F.2.1 F.2.2.2.2.2.2.2.2.1.1 (va_P1 (q := (a, .inl (gA g .int, n, .inl f))) hc) 0 k rfl (tysG_at hk) hin hdg (kk p e R s m args below meth c0 K F hK H lo9 ce9 sl9 ls hP hS hl hz1 hz2)
theorem e_baload {a n : Nat} {f : Nat → Int32} {i : Int32} (hdg : decode M.2.1 pc = .ok (.baload, 1)) (ho : ∀ H, P H → aAt g H a .boolean (n, .inl f)) (hin : vp_in i n) (kk : Ev g d M P kc ks (pc + 1) L (.int (f i.toNatClampNeg) :: rest) Q) : Ev g d M P kc ks pc L (.int i :: .ref a :: rest) Q := by
  intro p e R s m args below meth c0 K F hK H lo9 ce9 sl9 ls hP hS hl hz1 hz2
  obtain ⟨⟨k, hk⟩, hc⟩ := ho H hP
  exact va_zald F.1 F.2.1 F.2.2.2.2.2.2.2.2.1.1 (va_P1 (q := (a, .inl (gA g .boolean, n, .inl f))) hc) 0 k rfl (tysG_at hk) hin hdg (kk p e R s m args below meth c0 K F hK H lo9 ce9 sl9 ls hP hS hl hz1 hz2)
theorem e_laload {a n : Nat} {f : Nat → Int64} {i : Int32} (hdg : decode M.2.1 pc = .ok (.laload, 1)) (ho : ∀ H, P H → aAt g H a .long (n, .inr (.inl f))) (hin : vp_in i n) (kk : Ev g d M P kc ks (pc + 1) L (.long (f i.toNatClampNeg) :: rest) Q) : Ev g d M P kc ks pc L (.int i :: .ref a :: rest) Q := by
  intro p e R s m args below meth c0 K F hK H lo9 ce9 sl9 ls hP hS hl hz1 hz2
  obtain ⟨⟨k, hk⟩, hc⟩ := ho H hP
  exact va_lald F.1 F.2.1 F.2.2.2.2.2.2.2.2.1.1 (va_P1 (q := (a, .inl (gA g .long, n, .inr (.inl f)))) hc) 0 k rfl (tysG_at hk) hin hdg (kk p e R s m args below meth c0 K F hK H lo9 ce9 sl9 ls hP hS hl hz1 hz2)
theorem e_aaload {a n : Nat} {C : String} {f : Nat → Option Nat} {i : Int32} (hdg : decode M.2.1 pc = .ok (.aaload, 1)) (ho : ∀ H, P H → aAt g H a (.object C) (n, .inr (.inr (.inr (.inr f))))) (hin : vp_in i n) (kk : Ev g d M P kc ks (pc + 1) L (va_rf (f i.toNatClampNeg) :: rest) Q) : Ev g d M P kc ks pc L (.int i :: .ref a :: rest) Q := by
  intro p e R s m args below meth c0 K F hK H lo9 ce9 sl9 ls hP hS hl hz1 hz2
  obtain ⟨⟨k, hk⟩, hc⟩ := ho H hP
  exact va_aldq F.1 F.2.1 F.2.2.2.2.2.2.2.2.1.1 (va_P1 (q := (a, .inl (gA g (.object C), n, .inr (.inr (.inr (.inr f)))))) hc) 0 k rfl (tysG_at hk) hin hdg (kk p e R s m args below meth c0 K F hK H lo9 ce9 sl9 ls hP hS hl hz1 hz2)
theorem e_arraylength {a : Nat} {ty : FieldType} {x : vp_A} {v : Int32} (hdg : decode M.2.1 pc = .ok (.arraylength, 1)) (ho : ∀ H, P H → aAt g H a ty x) (hv : Int32.ofNat x.1 = v) (kk : Ev g d M P kc ks (pc + 1) L (.int v :: rest) Q) : Ev g d M P kc ks pc L (.ref a :: rest) Q := by
  intro p e R s m args below meth c0 K F hK H lo9 ce9 sl9 ls hP hS hl hz1 hz2
  obtain ⟨⟨k, hk⟩, hc⟩ := ho H hP
  exact va_alen F.1 F.2.1 F.2.2.2.2.2.2.2.2.1.1 (va_P1 (q := (a, .inl (gA g ty, x))) hc) 0 k rfl (tysG_at hk) hv hdg (kk p e R s m args below meth c0 K F hK H lo9 ce9 sl9 ls hP hS hl hz1 hz2)
theorem set_i (cA : ClassId) (n : Nat) (f : Nat → Int32) (j : Nat) (x : Int32) : (vp_cell cA (n, .inl f)).setSlot j (.int x) = vp_cell cA (n, .inl (upd f j x)) := by
  rw [vp_cell_i, vp_cell_i, arrV_store]
  congr 1
  funext q
  by_cases hq : q = j
  · simp [updV, upd, hq]
  · simp [updV, upd, hq]
theorem set_l (cA : ClassId) (n : Nat) (f : Nat → Int64) (j : Nat) (x : Int64) : (vp_cell cA (n, .inr (.inl f))).setSlot j (.long x) = vp_cell cA (n, .inr (.inl (vp_updL f j x))) := by
  rw [vp_cell_l, vp_cell_l, arrV_store]
  congr 1
  funext q
  by_cases hq : q = j
  · simp [updV, vp_updL, hq]
  · simp [updV, vp_updL, hq]
theorem set_q (cA : ClassId) (n : Nat) (f : Nat → Option Nat) (j : Nat) (x : Nat) : (vp_cell cA (n, .inr (.inr (.inr (.inr f))))).setSlot j (.ref x) = vp_cell cA (n, .inr (.inr (.inr (.inr (va_up f j (some x)))))) := by
  rw [vp_cell_q, vp_cell_q, arrV_store]
  congr 1
  funext q
  by_cases hq : q = j
  · simp [updV, va_up, va_rf, hq]
  · simp [updV, va_up, hq]
theorem e_iastore {a n : Nat} {f : Nat → Int32} {i x : Int32} (hdg : decode M.2.1 pc = .ok (.iastore, 1)) (ho : ∀ H, P H → aAt g H a .int (n, .inl f) ∧ A0 g a) (hin : vp_in i n) (hp : ∀ H H', P H → aAt g H' a .int (n, .inl (upd f i.toNatClampNeg x)) → H'.size = H.size → (∀ q, q ≠ a → H'[q]? = H[q]?) → P' H')
    (kk : Ev g d M P' kc ks (pc + 1) L rest Q) : Ev g d M P kc ks pc L (.int x :: .int i :: .ref a :: rest) Q := by
  intro p e R s m args below meth c0 K F hK H lo9 ce9 sl9 ls hP hS hl hz1 hz2
  obtain ⟨⟨⟨k, hk⟩, hc⟩, ha⟩ := ho H hP
  refine W.iast F.1 F.2.1 hc ((F.2.2.2.2.2.2.2.2.1.1.2 k _ (tysG_at hk)).1 n (fun j => .int (f j))) (fun q => by cases q) (by show ¬ (i < 0 ∨ (arrV _ _ _).slots.size ≤ _); rw [arrV_size]; exact hin) rfl rfl hdg fun H1 e1 z oq => ?_
  rw [set_i] at e1
  exact kk p e R s m args below meth c0 K F hK H1 _ ce9 sl9 ls (hp H H1 hP ⟨⟨k, hk⟩, e1⟩ z oq) (hS.put z oq ha) hl hz1 hz2
theorem e_bastore {a n : Nat} {f : Nat → Int32} {i x : Int32} (hdg : decode M.2.1 pc = .ok (.bastore, 1)) (ho : ∀ H, P H → aAt g H a .boolean (n, .inl f) ∧ A0 g a) (hin : vp_in i n) (hx : narrow .boolean (.int x) = .int x) (hp : ∀ H H', P H → aAt g H' a .boolean (n, .inl (upd f i.toNatClampNeg x)) → H'.size = H.size → (∀ q, q ≠ a → H'[q]? = H[q]?) → P' H')
    (kk : Ev g d M P' kc ks (pc + 1) L rest Q) : Ev g d M P kc ks pc L (.int x :: .int i :: .ref a :: rest) Q := by
  intro p e R s m args below meth c0 K F hK H lo9 ce9 sl9 ls hP hS hl hz1 hz2
  obtain ⟨⟨⟨k, hk⟩, hc⟩, ha⟩ := ho H hP
  refine W.zast F.1 F.2.1 hc ((F.2.2.2.2.2.2.2.2.1.1.2 k _ (tysG_at hk)).1 n (fun j => .int (f j))) (fun q => by cases q) (by show ¬ (i < 0 ∨ (arrV _ _ _).slots.size ≤ _); rw [arrV_size]; exact hin) rfl rfl hdg fun H1 e1 z oq => ?_
  rw [hx, set_i] at e1
  exact kk p e R s m args below meth c0 K F hK H1 _ ce9 sl9 ls (hp H H1 hP ⟨⟨k, hk⟩, e1⟩ z oq) (hS.put z oq ha) hl hz1 hz2
theorem e_lastore {a n : Nat} {f : Nat → Int64} {i : Int32} {x : Int64} (hdg : decode M.2.1 pc = .ok (.lastore, 1)) (ho : ∀ H, P H → aAt g H a .long (n, .inr (.inl f)) ∧ A0 g a) (hin : vp_in i n) (hp : ∀ H H', P H → aAt g H' a .long (n, .inr (.inl (vp_updL f i.toNatClampNeg x))) → H'.size = H.size → (∀ q, q ≠ a → H'[q]? = H[q]?) → P' H')
    (kk : Ev g d M P' kc ks (pc + 1) L rest Q) : Ev g d M P kc ks pc L (.long x :: .int i :: .ref a :: rest) Q := by
  intro p e R s m args below meth c0 K F hK H lo9 ce9 sl9 ls hP hS hl hz1 hz2
  obtain ⟨⟨⟨k, hk⟩, hc⟩, ha⟩ := ho H hP
  refine W.last F.1 F.2.1 hc ((F.2.2.2.2.2.2.2.2.1.1.2 k _ (tysG_at hk)).1 n (fun j => .long (f j))) (fun q => by cases q) (by show ¬ (i < 0 ∨ (arrV _ _ _).slots.size ≤ _); rw [arrV_size]; exact hin) rfl rfl hdg fun H1 e1 z oq => ?_
  rw [set_l] at e1
  exact kk p e R s m args below meth c0 K F hK H1 _ ce9 sl9 ls (hp H H1 hP ⟨⟨k, hk⟩, e1⟩ z oq) (hS.put z oq ha) hl hz1 hz2
theorem e_aastore {a n v c : Nat} {r : vw_C} {V : Nat → Value} {f : Nat → Option Nat} {i : Int32} (hdg : decode M.2.1 pc = .ok (.aastore, 1)) (hr : classes[c]? = some r) (ho : ∀ H, P H → (aAt g H a (.object r.1) (n, .inr (.inr (.inr (.inr f)))) ∧ A0 g a) ∧ obAt g H v c V) (hin : vp_in i n)
    (hp : ∀ H H', P H → aAt g H' a (.object r.1) (n, .inr (.inr (.inr (.inr (va_up f i.toNatClampNeg (some v)))))) → H'.size = H.size → (∀ q, q ≠ a → H'[q]? = H[q]?) → P' H')
    (kk : Ev g d M P' kc ks (pc + 1) L rest Q) : Ev g d M P kc ks pc L (.ref v :: .int i :: .ref a :: rest) Q := by
  intro p e R s m args below meth c0 K F hK H lo9 ce9 sl9 ls hP hS hl hz1 hz2
  obtain ⟨⟨⟨⟨k, hk⟩, hc⟩, ha⟩, r', hr', cellV, g1, g2, g3, -⟩ := ho H hP
  cases hr.symm.trans hr'
  have hV := F.2.2.2.2.2.2.2.2.1.1
  have hlt : i.toNatClampNeg < n := Nat.not_le.mp fun q => hin (Or.inr q)
  have h0 : ¬ i < 0 := fun q => hin (Or.inl q)
  have hcls := (hV.1 c _ hr).2
  obtain ⟨kA, comp, k1, k2, k3, -⟩ := (hV.2 k _ (tysG_at hk)).2
  have hcomp : comp = (gD g).1 c := Option.some.inj (k3.symm.trans hcls.1)
  subst hcomp
  obtain ⟨kC, hkC, -⟩ := hcls.2
  refine W.aast F.1 F.2.1 hc (fun q h => by cases h) (fun h => by cases h) k1 k2 rfl hkC ⟨h0, by show _ < (arrV _ _ _).slots.size; rw [arrV_size]; exact hlt⟩ g1 (fun q h => by rw [g3] at h; cases h) (by rw [g2]; exact hkC) (by rw [g2]; exact va_assign hcls) rfl rfl hdg fun H1 e1 z oq => ?_
  rw [set_q] at e1
  exact kk p e R s m args below meth c0 K F hK H1 _ ce9 sl9 ls (hp H H1 hP ⟨⟨k, hk⟩, e1⟩ z oq) (hS.put z oq ha) hl hz1 hz2
/-! statics and the script: cells older than the law -/
theorem e_getstatic {idx j : Nat} {q : String × List Int32} (hj : stT[j]? = some q) (hw : Cond.fieldLink M.1.cls idx RX11 q.1 "[I" ∈ lw_g) (hdg : decode M.2.1 pc = .ok (.getstatic idx, 3)) (kk : Ev g d M P kc ks (pc + 3) L (.ref (gS g j) :: rest) Q) : Ev g d M P kc ks pc L rest Q := by
  intro p e R s m args below meth c0 K F hK H lo9 ce9 sl9 ls hP hS hl hz1 hz2
  exact va_gets F.1 F.2.1 ((F.2.2.2.2.2.2.2.2.1.2.1 j q hj).1) hS F.2.2.2.2.1 (F.2.2.2.2.2.1 _ hw) (fun _ h => h) hdg (kk p e R s m args below meth c0 K F hK H lo9 ce9 sl9 ls hP hS hl hz1 hz2)
theorem e_getstaticN {idx j : Nat} {q : String × List Int32} (hj : stT[j]? = some q) (hw : (M.1.cls, idx, q.1, RX11) ∈ nestF) (hdg : decode M.2.1 pc = .ok (.getstatic idx, 3)) (kk : Ev g d M P kc ks (pc + 3) L (.ref (gS g j) :: rest) Q) : Ev g d M P kc ks pc L rest Q := by
  intro p e R s m args below meth c0 K F hK H lo9 ce9 sl9 ls hP hS hl hz1 hz2
  exact va_getsN F.1 F.2.1 ((F.2.2.2.2.2.2.2.2.1.2.1 j q hj).1) hS F.2.2.2.2.1 (va_Nw.use rfl (F.2.2.2.2.2.2.2.2.1.2.2.1.2.1 _ hw)) (fun _ h => h) hdg (kk p e R s m args below meth c0 K F hK H lo9 ce9 sl9 ls hP hS hl hz1 hz2)
theorem e_saload {j : Nat} {q : String × List Int32} {i : Int32} (hj : stT[j]? = some q) (hdg : decode M.2.1 pc = .ok (.iaload, 1)) (hin : vp_in i q.2.length) (kk : Ev g d M P kc ks (pc + 1) L (.int (q.2.getD i.toNatClampNeg 0) :: rest) Q) : Ev g d M P kc ks pc L (.int i :: .ref (gS g j) :: rest) Q := by
  intro p e R s m args below meth c0 K F hK H lo9 ce9 sl9 ls hP hS hl hz1 hz2
  exact va_ti F.1 F.2.1 ((F.2.2.2.2.2.2.2.2.1.2.1 j q hj).2) hS hin rfl hdg (kk p e R s m args below meth c0 K F hK H lo9 ce9 sl9 ls hP hS hl hz1 hz2)
theorem e_slength {j : Nat} {q : String × List Int32} {v : Int32} (hj : stT[j]? = some q) (hdg : decode M.2.1 pc = .ok (.arraylength, 1)) (hv : Int32.ofNat q.2.length = v) (kk : Ev g d M P kc ks (pc + 1) L (.int v :: rest) Q) : Ev g d M P kc ks pc L (.ref (gS g j) :: rest) Q := by
  intro p e R s m args below meth c0 K F hK H lo9 ce9 sl9 ls hP hS hl hz1 hz2
  exact va_tlen F.1 F.2.1 ((F.2.2.2.2.2.2.2.2.1.2.1 j q hj).2) hS hv hdg (kk p e R s m args below meth c0 K F hK H lo9 ce9 sl9 ls hP hS hl hz1 hz2)
theorem e_xaload {i : Int32} (hdg : decode M.2.1 pc = .ok (.iaload, 1)) (hin : vp_in i (gN g)) (kk : Ev g d M P kc ks (pc + 1) L (.int (gx g i.toNatClampNeg) :: rest) Q) : Ev g d M P kc ks pc L (.int i :: .ref (gb g) :: rest) Q := by
  intro p e R s m args below meth c0 K F hK H lo9 ce9 sl9 ls hP hS hl hz1 hz2
  have hV := F.2.2.2.2.2.2.2.2.1
  exact va_sld F.1 F.2.1 hV.2.2.2.2.1 (Nat.lt_of_lt_of_le hV.2.2.2.2.2 hV.2.2.2.1) (Nat.not_le.mpr hV.2.2.2.2.2) hS hin hdg (kk p e R s m args below meth c0 K F hK H lo9 ce9 sl9 ls hP hS hl hz1 hz2)
theorem e_xlength (hdg : decode M.2.1 pc = .ok (.arraylength, 1)) (kk : Ev g d M P kc ks (pc + 1) L (.int (Int32.ofNat (gN g)) :: rest) Q) : Ev g d M P kc ks pc L (.ref (gb g) :: rest) Q := by
  intro p e R s m args below meth c0 K F hK H lo9 ce9 sl9 ls hP hS hl hz1 hz2
  have hV := F.2.2.2.2.2.2.2.2.1
  exact va_slen F.1 F.2.1 hV.2.2.2.2.1 (Nat.lt_of_lt_of_le hV.2.2.2.2.2 hV.2.2.2.1) (Nat.not_le.mpr hV.2.2.2.2.2) hS hdg (kk p e R s m args below meth c0 K F hK H lo9 ce9 sl9 ls hP hS hl hz1 hz2)
/-! calls -/
theorem clPre {g : GG} {P : Heap → Prop} {s : State} {H : Heap} {av : List Value} {lo9 : List Loc} (hV : VK g s) (hS : va_S (A0 g) s.heap H lo9) (hP : P H) : ∀ U : State, U.heap = H → s.WarmedH U.vm → av.toArray = av.toArray ∧ VK g U ∧ P U.heap := by
  intro U hU hW
  refine ⟨rfl, hV.down hW (fun q hq => ?_) ?_, by rw [hU]; exact hP⟩
  · rw [hU]; exact hS.2.1 q (Nat.lt_of_lt_of_le hq hV.2.2.2.1) (Nat.not_le.mpr hq)
  · rw [hU]; exact Nat.le_trans hV.2.2.2.1 hS.1
theorem clBlind {g : GG} {P : Heap → Prop} {av : List Value} : FrameBlind (fun a U => a = av.toArray ∧ VK g U ∧ P U.heap) := fun _ _ _ _ h => ⟨h.1, VK.same rfl rfl h.2.1, h.2.2⟩
theorem goodM {M' : MD} {n : Nat} (ok : okM M' n) : GoodIn lw_g (wsM M') := by
  intro w hw
  rcases List.mem_cons.mp hw with rfl | h
  · exact lw_g_good _ ok.1
  · exact lw_g_good w h
/-- behind a call's run -/
theorem e_after {mc ms : Nat} {Q' : Option Value → Heap → Prop} {st0 : List Value} {p : Program} {e : Env} {R : Room} {s : State} {m : MethodId} {args a9 : Array Value} {below : List Frame} {meth : Method} {c0 : Code} {K : State → Prop} {H : Heap} {lo9 : List Loc} {ce9 sl9 : Nat} {ls : Array Slot}
    (hr : va_Run p (gl g) e R s m args below meth c0 H lo9 ce9 sl9 mc ms (F0 m pc ls st0) rest (fun st o t => ∃ v, o = .returned v ∧ Q' v t.heap ∧ va_F (A0 g) st t) (A0 g)) (hS : va_S (A0 g) s.heap H lo9)
    (kk : ∀ (v : Option Value) (H1 : Heap) (lo1 : List Loc), Q' v H1 → va_S (A0 g) s.heap H1 lo1 → W p (gl g) e R s m args below meth c0 H1 lo1 (ce9 + mc) (sl9 + ms) K (F0 m (pc + 3) ls (v.toList ++ rest))) : W p (gl g) e R s m args below meth c0 H lo9 ce9 sl9 K (F0 m pc ls st0) := by
  intro T hT X
  obtain ⟨v, st₀, t, T', L', h0, X', hL, e1, e2, ⟨v', hv, hQ, hF⟩, stp⟩ := hr T hT X
  cases hv
  obtain ⟨hF1, hF2⟩ := hF
  rw [h0] at hF1 hF2
  have hS' : va_S (A0 g) s.heap T'.heap (lo9 ++ L') := ⟨Nat.le_trans hS.1 (by rw [e1]; exact hF1), fun q h1 h2 => by rw [e1, hF2 q (Nat.lt_of_lt_of_le h1 hS.1) h2]; exact hS.2.1 q h1 h2, fun q hq => by
    rcases List.mem_append.mp hq with h | h
    · exact hS.2.2 q h
    · exact hL q h⟩
  obtain ⟨t2, a1, b1⟩ := kk v T'.heap (lo9 ++ L') (by rw [e1]; exact hQ) hS' T' rfl X'
  exact ⟨t2, stp t2 a1, b1⟩
theorem e_invV {M' : MD} {n mc ms idx b c : Nat} {r : vw_C} {V : Nat → Value} {As st : List Value} {Q' : Option Value → Heap → Prop} (ok : okM M' n) (lk : lkV M.1.cls idx M'.1) (hc : classes[c]? = some r) (hrn : M'.1.cls = r.1) (hdg : decode M.2.1 pc = .ok (.invokevirtual idx, 3)) (hst : st = As.reverse ++ .ref b :: rest) (hn : As.length = n) (hd : (rest.map fun v => v.category).sum ≤ 8)
    (ho : ∀ H, P H → obAt g H b c V) (hcl : Cl g d mc ms M' (.ref b :: As) P Q') (kk : ∀ v, Ev g (d + 1) M (Q' v) kc ks (pc + 3) L (v.toList ++ rest) Q) : Ev g (d + 1) M P (mc + kc) (ms + ks) pc L st Q := by
  intro p e R s m args below meth c0 K F hK H lo9 ce9 sl9 ls hP hS hl hz1 hz2
  obtain ⟨Fx, Fb, Fm, Fr', Fo, Ft, Flk, Fn, FV, Fd1, Fd2⟩ := id F
  have cw : CallW R s args M.1.cls M'.1.cls idx M'.1 M'.2.1 M'.2.2.1 M'.2.2.2 (wsM M') (rmD d mc ms) mc ms n := ⟨callB_of n Ft (goodM ok) rfl rfl rfl (Ft _ ok.2.2.1) (Ft _ lk.1) ok.2.2.2.1 ⟨Fd1, by show 8 + (M'.2.2.1 + 11) + 60 * d ≤ R.locals; have := ok.2.2.2.2; omega⟩, Ft _ lk.2.1, Ft _ lk.2.2⟩
  refine e_after (a9 := args) (va_runV (n := n) (As := As) (b := b) ⟨Fx, Fb, Fm, Fo, Ft⟩ hcl cw ⟨clBlind, ?_, clPre FV hS hP⟩ rfl hn hl.1 hst (lv_room hd) hdg ⟨by omega, by omega⟩) hS (fun v H1 lo1 hQ hS1 => kk v p e R s m args below meth c0 K F hK H1 lo1 _ _ ls hQ hS1 hl (by omega) (by omega))
  rw [hrn]
  exact (ho H hP).recv hc FV
theorem e_invS {M' : MD} {n mc ms idx : Nat} {As st : List Value} {Q' : Option Value → Heap → Prop} (ok : okM M' n) (lk : lkS M.1.cls idx M'.1) (hdg : decode M.2.1 pc = .ok (.invokestatic idx, 3)) (hst : st = As.reverse ++ rest) (hn : As.length = n) (hd : (rest.map fun v => v.category).sum ≤ 8)
    (hcl : Cl g d mc ms M' As P Q') (kk : ∀ v, Ev g (d + 1) M (Q' v) kc ks (pc + 3) L (v.toList ++ rest) Q) : Ev g (d + 1) M P (mc + kc) (ms + ks) pc L st Q := by
  intro p e R s m args below meth c0 K F hK H lo9 ce9 sl9 ls hP hS hl hz1 hz2
  obtain ⟨Fx, Fb, Fm, Fr', Fo, Ft, Flk, Fn, FV, Fd1, Fd2⟩ := id F
  have cw : CallB R s args M.1.cls idx M'.1 M'.2.1 M'.2.2.1 M'.2.2.2 (wsM M') (rmD d mc ms) mc ms n ∧ (Cond.static M'.1).before args s = true := ⟨callB_of n Ft (goodM ok) rfl rfl rfl (Ft _ ok.2.2.1) (Ft _ lk.1) ok.2.2.2.1 ⟨Fd1, by show 8 + (M'.2.2.1 + 11) + 60 * d ≤ R.locals; have := ok.2.2.2.2; omega⟩, Ft _ lk.2⟩
  exact e_after (a9 := args) (va_runS (n := n) (As := As) ⟨Fx, Fb, Fm, Fo, Ft⟩ hcl cw ⟨clBlind, clPre FV hS hP⟩ rfl hn hl.1 hst (lv_room hd) hdg ⟨by omega, by omega⟩) hS (fun v H1 lo1 hQ hS1 => kk v p e R s m args below meth c0 K F hK H1 lo1 _ _ ls hQ hS1 hl (by omega) (by omega))
theorem e_invSN {M' : MD} {n mc ms idx : Nat} {As st : List Value} {Q' : Option Value → Heap → Prop} (ok : okM M' n) (lk : (M.1.cls, idx, M'.1, RX11) ∈ nestM) (lk2 : Cond.static M'.1 ∈ lw_g) (hdg : decode M.2.1 pc = .ok (.invokestatic idx, 3)) (hst : st = As.reverse ++ rest) (hn : As.length = n) (hd : (rest.map fun v => v.category).sum ≤ 8)
    (hcl : Cl g d mc ms M' As P Q') (kk : ∀ v, Ev g (d + 1) M (Q' v) kc ks (pc + 3) L (v.toList ++ rest) Q) : Ev g (d + 1) M P (mc + kc) (ms + ks) pc L st Q := by
  intro p e R s m args below meth c0 K F hK H lo9 ce9 sl9 ls hP hS hl hz1 hz2
  obtain ⟨Fx, Fb, Fm, Fr', Fo, Ft, Flk, Fn, FV, Fd1, Fd2⟩ := id F
  have cw := va_cnB (R := R) (args := args) (own := M.1.cls) (host := RX11) (index := idx) (bytes := M'.2.1) (maxL := M'.2.2.1) (ret := M'.2.2.2) (rm := rmD d mc ms) (mc := mc) (ms := ms) n Ft (goodM ok) rfl rfl rfl (FV.2.2.1.1 _ lk) (Ft _ ok.2.2.1) ok.2.2.2.1 ⟨Fd1, by show 8 + (M'.2.2.1 + 11) + 60 * d ≤ R.locals; have := ok.2.2.2.2; omega⟩
  exact e_after (a9 := args) (va_runSN (n := n) (As := As) ⟨Fx, Fb, Fm, Fo, Ft⟩ hcl ⟨cw, Ft _ lk2, trivial⟩ ⟨clBlind, clPre FV hS hP⟩ rfl hn hl.1 hst (lv_room hd) hdg ⟨by omega, by omega⟩) hS (fun v H1 lo1 hQ hS1 => kk v p e R s m args below meth c0 K F hK H1 lo1 _ _ ls hQ hS1 hl (by omega) (by omega))
theorem e_invI {M' : MD} {n mc ms idx b : Nat} {As st : List Value} {Q' : Option Value → Heap → Prop} (ok : okM M' n) (lk : lkI M.1.cls idx M'.1) (hi : M'.1.name = "<init>") (hr : M'.2.2.2 = none) (hdg : decode M.2.1 pc = .ok (.invokespecial idx, 3)) (hst : st = As.reverse ++ .ref b :: rest) (hn : As.length = n) (hd : (rest.map fun v => v.category).sum ≤ 8)
    (hcl : Cl g d mc ms M' (.ref b :: As) P Q') (kk : ∀ v, Ev g (d + 1) M (Q' v) kc ks (pc + 3) L (v.toList ++ rest) Q) : Ev g (d + 1) M P (mc + kc) (ms + ks) pc L st Q := by
  intro p e R s m args below meth c0 K F hK H lo9 ce9 sl9 ls hP hS hl hz1 hz2
  obtain ⟨Fx, Fb, Fm, Fr', Fo, Ft, Flk, Fn, FV, Fd1, Fd2⟩ := id F
  have cw : CallB R s args M.1.cls idx M'.1 M'.2.1 M'.2.2.1 none (wsM M') (rmD d mc ms) mc ms n := callB_of n Ft (goodM ok) (by rw [← hr]) rfl rfl (Ft _ ok.2.2.1) (Ft _ lk.1) ok.2.2.2.1 ⟨Fd1, by show 8 + (M'.2.2.1 + 11) + 60 * d ≤ R.locals; have := ok.2.2.2.2; omega⟩
  exact e_after (a9 := args) (va_runI (n := n) (As := As) (b := b) ⟨Fx, Fb, Fm, Fo, Ft⟩ hcl ⟨cw, hi, Ft _ lk.2⟩ ⟨clBlind, clPre FV hS hP⟩ rfl hn hl.1 hst (lv_room hd) hdg ⟨by omega, by omega⟩) hS (fun v H1 lo1 hQ hS1 => kk v p e R s m args below meth c0 K F hK H1 lo1 _ _ ls hQ hS1 hl (by omega) (by omega))
theorem e_invIN {M' : MD} {n mc ms idx b : Nat} {As st : List Value} {Q' : Option Value → Heap → Prop} (ok : okM M' n) (lk : (M.1.cls, idx, M'.1, RX11) ∈ nestM) (lk2 : Cond.instanceMethod M'.1 ∈ lw_g) (hi : M'.1.name = "<init>") (hr : M'.2.2.2 = none) (hdg : decode M.2.1 pc = .ok (.invokespecial idx, 3)) (hst : st = As.reverse ++ .ref b :: rest) (hn : As.length = n) (hd : (rest.map fun v => v.category).sum ≤ 8)
    (hcl : Cl g d mc ms M' (.ref b :: As) P Q') (kk : ∀ v, Ev g (d + 1) M (Q' v) kc ks (pc + 3) L (v.toList ++ rest) Q) : Ev g (d + 1) M P (mc + kc) (ms + ks) pc L st Q := by
  intro p e R s m args below meth c0 K F hK H lo9 ce9 sl9 ls hP hS hl hz1 hz2
  obtain ⟨Fx, Fb, Fm, Fr', Fo, Ft, Flk, Fn, FV, Fd1, Fd2⟩ := id F
  have cw := va_cnB (R := R) (args := args) (own := M.1.cls) (host := RX11) (index := idx) (bytes := M'.2.1) (maxL := M'.2.2.1) (ret := none) (rm := rmD d mc ms) (mc := mc) (ms := ms) n Ft (goodM ok) (by rw [← hr]) rfl rfl (FV.2.2.1.1 _ lk) (Ft _ ok.2.2.1) ok.2.2.2.1 ⟨Fd1, by show 8 + (M'.2.2.1 + 11) + 60 * d ≤ R.locals; have := ok.2.2.2.2; omega⟩
  exact e_after (a9 := args) (va_runIN (n := n) (As := As) (b := b) ⟨Fx, Fb, Fm, Fo, Ft⟩ hcl ⟨cw, hi, Ft _ lk2⟩ ⟨clBlind, clPre FV hS hP⟩ rfl hn hl.1 hst (lv_room hd) hdg ⟨by omega, by omega⟩) hS (fun v H1 lo1 hQ hS1 => kk v p e R s m args below meth c0 K F hK H1 lo1 _ _ ls hQ hS1 hl (by omega) (by omega))
end
