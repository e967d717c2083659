set_option maxRecDepth 100000 in
theorem wmx : Cond.code Lib.Math.max.name Lib.Math.max.code 2 (some .int) ∈ lw_g ∧ Cond.static Lib.Math.max.name ∈ lw_g := ⟨sg4 130 rfl rfl, sg4 129 rfl rfl⟩
set_option maxRecDepth 100000 in
theorem wmn : Cond.code Lib.Math.min.name Lib.Math.min.code 2 (some .int) ∈ lw_g ∧ Cond.static Lib.Math.min.name ∈ lw_g := ⟨sg3 227 rfl rfl, sg3 226 rfl rfl⟩
set_option maxRecDepth 100000 in
theorem wac : (Cond.native arraycopyName ∈ lw_g ∧ Cond.static arraycopyName ∈ lw_g) ∧ Cond.initialized "java/lang/System" ∈ lw_g := ⟨⟨sg2 123 rfl rfl, sg2 122 rfl rfl⟩, sg1 11 rfl rfl⟩
set_option maxRecDepth 100000 in
theorem obX11_1 : Cond.methodLink RX11 1 objectInit ∈ lw_g := sg1 22 rfl rfl
set_option maxRecDepth 100000 in
theorem acX11_148 : Cond.methodLink RX11 148 arraycopyName ∈ lw_g := sg2 121 rfl rfl
set_option maxRecDepth 100000 in
theorem mmX11_337 : Cond.methodLink RX11 337 Lib.Math.max.name ∈ lw_g := sg4 160 rfl rfl
set_option maxRecDepth 100000 in
theorem mmX11_477 : Cond.methodLink RX11 477 Lib.Math.min.name ∈ lw_g := sg5 53 rfl rfl
set_option maxRecDepth 100000 in
theorem obX0_3 : Cond.methodLink RX0 3 objectInit ∈ lw_g := sg1 110 rfl rfl
set_option maxRecDepth 100000 in
theorem acX0_39 : Cond.methodLink RX0 39 arraycopyName ∈ lw_g := sg4 135 rfl rfl
set_option maxRecDepth 100000 in
theorem mmX0_55 : Cond.methodLink RX0 55 Lib.Math.max.name ∈ lw_g := sg4 128 rfl rfl
set_option maxRecDepth 100000 in
theorem obX1_3 : Cond.methodLink RX1 3 objectInit ∈ lw_g := sg4 213 rfl rfl
set_option maxRecDepth 100000 in
theorem mmX1_32 : Cond.methodLink RX1 32 Lib.Math.min.name ∈ lw_g := sg5 23 rfl rfl
set_option maxRecDepth 100000 in
theorem mmX1_38 : Cond.methodLink RX1 38 Lib.Math.max.name ∈ lw_g := sg5 24 rfl rfl
set_option maxRecDepth 100000 in
theorem obX2_3 : Cond.methodLink RX2 3 objectInit ∈ lw_g := sg1 38 rfl rfl
set_option maxRecDepth 100000 in
theorem obX3_3 : Cond.methodLink RX3 3 objectInit ∈ lw_g := sg1 74 rfl rfl
set_option maxRecDepth 100000 in
theorem mmX3_77 : Cond.methodLink RX3 77 Lib.Math.min.name ∈ lw_g := sg3 225 rfl rfl
set_option maxRecDepth 100000 in
theorem obX4_3 : Cond.methodLink RX4 3 objectInit ∈ lw_g := sg2 34 rfl rfl
set_option maxRecDepth 100000 in
theorem acX4_84 : Cond.methodLink RX4 84 arraycopyName ∈ lw_g := sg2 232 rfl rfl
set_option maxRecDepth 100000 in
theorem obX5_3 : Cond.methodLink RX5 3 objectInit ∈ lw_g := sg3 32 rfl rfl
set_option maxRecDepth 100000 in
theorem obX6_3 : Cond.methodLink RX6 3 objectInit ∈ lw_g := sg1 142 rfl rfl
set_option maxRecDepth 100000 in
theorem mmX6_40 : Cond.methodLink RX6 40 Lib.Math.min.name ∈ lw_g := sg5 74 rfl rfl
set_option maxRecDepth 100000 in
theorem mmX6_63 : Cond.methodLink RX6 63 Lib.Math.max.name ∈ lw_g := sg5 79 rfl rfl
set_option maxRecDepth 100000 in
theorem acX6_66 : Cond.methodLink RX6 66 arraycopyName ∈ lw_g := sg5 84 rfl rfl
set_option maxRecDepth 100000 in
theorem obX7_3 : Cond.methodLink RX7 3 objectInit ∈ lw_g := sg1 123 rfl rfl
set_option maxRecDepth 100000 in
theorem mmX7_57 : Cond.methodLink RX7 57 Lib.Math.max.name ∈ lw_g := sg4 179 rfl rfl
set_option maxRecDepth 100000 in
theorem acX7_66 : Cond.methodLink RX7 66 arraycopyName ∈ lw_g := sg4 184 rfl rfl
set_option maxRecDepth 100000 in
theorem obX8_3 : Cond.methodLink RX8 3 objectInit ∈ lw_g := sg3 133 rfl rfl
set_option maxRecDepth 100000 in
theorem obX9_3 : Cond.methodLink RX9 3 objectInit ∈ lw_g := sg1 177 rfl rfl
set_option maxRecDepth 100000 in
theorem obX10_3 : Cond.methodLink RX10 3 objectInit ∈ lw_g := sg1 56 rfl rfl
set_option maxRecDepth 100000 in
theorem obX12_1 : Cond.methodLink RX12 1 objectInit ∈ lw_g := sg5 115 rfl rfl
set_option maxRecDepth 100000 in
theorem clL_7 : Cond.classLink RL 7 RX11 ∈ lw_g := sg1 17 rfl rfl
set_option maxRecDepth 100000 in
theorem itX11 : Cond.instantiable RX11 19 ∈ lw_g := sg1 18 rfl rfl
set_option maxRecDepth 100000 in
theorem clX11_9 : Cond.classLink RX11 9 RX9 ∈ lw_g := sg1 25 rfl rfl
set_option maxRecDepth 100000 in
theorem clX11_15 : Cond.classLink RX11 15 RX4 ∈ lw_g := sg1 27 rfl rfl
set_option maxRecDepth 100000 in
theorem clX11_21 : Cond.classLink RX11 21 RX5 ∈ lw_g := sg1 29 rfl rfl
set_option maxRecDepth 100000 in
theorem clX11_27 : Cond.classLink RX11 27 RX1 ∈ lw_g := sg1 31 rfl rfl
set_option maxRecDepth 100000 in
theorem clX11_33 : Cond.classLink RX11 33 RX2 ∈ lw_g := sg1 33 rfl rfl
set_option maxRecDepth 100000 in
theorem itX2 : Cond.instantiable RX2 3 ∈ lw_g := sg1 34 rfl rfl
set_option maxRecDepth 100000 in
theorem aw_int : Cond.arrayClass .int ∈ lw_g := sg1 50 rfl rfl
set_option maxRecDepth 100000 in
theorem clX11_40 : Cond.classLink RX11 40 RX10 ∈ lw_g := sg1 51 rfl rfl
set_option maxRecDepth 100000 in
theorem itX10 : Cond.instantiable RX10 3 ∈ lw_g := sg1 52 rfl rfl
set_option maxRecDepth 100000 in
theorem clX11_47 : Cond.classLink RX11 47 RX3 ∈ lw_g := sg1 69 rfl rfl
set_option maxRecDepth 100000 in
theorem itX3 : Cond.instantiable RX3 8 ∈ lw_g := sg1 70 rfl rfl
set_option maxRecDepth 100000 in
theorem clX11_54 : Cond.classLink RX11 54 RX0 ∈ lw_g := sg1 105 rfl rfl
set_option maxRecDepth 100000 in
theorem itX0 : Cond.instantiable RX0 2 ∈ lw_g := sg1 106 rfl rfl
set_option maxRecDepth 100000 in
theorem clX11_61 : Cond.classLink RX11 61 RX7 ∈ lw_g := sg1 118 rfl rfl
set_option maxRecDepth 100000 in
theorem itX7 : Cond.instantiable RX7 4 ∈ lw_g := sg1 119 rfl rfl
set_option maxRecDepth 100000 in
theorem clX11_68 : Cond.classLink RX11 68 RX6 ∈ lw_g := sg1 137 rfl rfl
set_option maxRecDepth 100000 in
theorem itX6 : Cond.instantiable RX6 9 ∈ lw_g := sg1 138 rfl rfl
set_option maxRecDepth 100000 in
theorem itX9 : Cond.instantiable RX9 4 ∈ lw_g := sg1 173 rfl rfl
set_option maxRecDepth 100000 in
theorem aw_long : Cond.arrayClass .long ∈ lw_g := sg1 203 rfl rfl
set_option maxRecDepth 100000 in
theorem itX4 : Cond.instantiable RX4 14 ∈ lw_g := sg2 30 rfl rfl
set_option maxRecDepth 100000 in
theorem itX5 : Cond.instantiable RX5 18 ∈ lw_g := sg3 28 rfl rfl
set_option maxRecDepth 100000 in
theorem clX5_9 : Cond.classLink RX5 9 RX8 ∈ lw_g := sg3 33 rfl rfl
set_option maxRecDepth 100000 in
theorem clX11_248 : Cond.classLink RX11 248 RX8 ∈ lw_g := sg3 128 rfl rfl
set_option maxRecDepth 100000 in
theorem itX8 : Cond.instantiable RX8 9 ∈ lw_g := sg3 129 rfl rfl
set_option maxRecDepth 100000 in
theorem itX1 : Cond.instantiable RX1 6 ∈ lw_g := sg4 209 rfl rfl
set_option maxRecDepth 100000 in
theorem aw_boolean : Cond.arrayClass .boolean ∈ lw_g := sg4 239 rfl rfl
set_option maxRecDepth 100000 in
theorem clL_10 : Cond.classLink RL 10 RX12 ∈ lw_g := sg5 110 rfl rfl
set_option maxRecDepth 100000 in
theorem itX12 : Cond.instantiable RX12 88 ∈ lw_g := sg5 111 rfl rfl
set_option maxRecDepth 100000 in
theorem woi : Cond.instanceMethod objectInit ∈ lw_g ∧ Cond.code objectInit ⟨#[0xb1]⟩ 1 none ∈ lw_g := ⟨sg1 23 rfl rfl, sg1 24 rfl rfl⟩
section
variable {g : GG} {d : Nat} {M : MD} {P P' : Heap → Prop} {kc ks pc : Nat} {L : List (Option Value)} {rest : List Value} {Q : Option Value → Heap → Prop}
theorem e_mmax {idx : Nat} {x y : Int32} (lk : Cond.methodLink M.1.cls idx Lib.Math.max.name ∈ lw_g) (hdg : decode M.2.1 pc = .ok (.invokestatic idx, 3)) (hd : (rest.map fun v => v.category).sum ≤ 8) (kk : Ev g (d + 1) M P kc ks (pc + 3) L (.int (if x < y then y else x) :: rest) Q) : Ev g (d + 1) M P kc ks pc L (.int y :: .int x :: rest) Q := by
  intro p e R s m args below meth c0 K F hK H lo9 ce9 sl9 ls hP hS hl hz1 hz2
  obtain ⟨Fx, Fb, Fm, Fr', Fo, Ft, Flk, Fn, FV, Fd1, Fd2⟩ := id F
  exact va_mmax Fx Fb (Fm.trans hl.1.symm) Fo (Ft _ lk) (Ft _ wmx.2) (Ft _ iniJ9) (Ft _ wmx.1) (by omega) (by omega) (by omega) (by omega) hdg (kk p e R s m args below meth c0 K F hK H lo9 ce9 sl9 ls hP hS hl hz1 hz2)
theorem e_mmin {idx : Nat} {x y : Int32} (lk : Cond.methodLink M.1.cls idx Lib.Math.min.name ∈ lw_g) (hdg : decode M.2.1 pc = .ok (.invokestatic idx, 3)) (hd : (rest.map fun v => v.category).sum ≤ 8) (kk : Ev g (d + 1) M P kc ks (pc + 3) L (.int (if y < x then y else x) :: rest) Q) : Ev g (d + 1) M P kc ks pc L (.int y :: .int x :: rest) Q := by
  intro p e R s m args below meth c0 K F hK H lo9 ce9 sl9 ls hP hS hl hz1 hz2
  obtain ⟨Fx, Fb, Fm, Fr', Fo, Ft, Flk, Fn, FV, Fd1, Fd2⟩ := id F
  exact va_mmin Fx Fb (Fm.trans hl.1.symm) Fo (Ft _ lk) (Ft _ wmn.2) (Ft _ iniJ9) (Ft _ wmn.1) (by omega) (by omega) (by omega) (by omega) hdg (kk p e R s m args below meth c0 K F hK H lo9 ce9 sl9 ls hP hS hl hz1 hz2)
theorem nnI (z : Int32) (hz : ¬ z < 0) : z.toInt = (z.toNatClampNeg : Int) := by
  have hz0 : (0 : Int) ≤ z.toInt := by
    have := Int32.not_lt.mp hz
    simpa using Int32.le_iff_toInt_le.mp this
  show z.toInt = ((z.toInt.toNat : Nat) : Int)
  omega
/-- System.arraycopy between two arrays of one kind of number -/
theorem e_copyG {α : Type} (mk : α → Value) (ct : (Nat → α) → ((Nat → Int32) ⊕ (Nat → Int64) ⊕ (Nat → UInt32) ⊕ (Nat → UInt64) ⊕ (Nat → Option Nat))) (hct : ∀ (cA : ClassId) (n : Nat) (f : Nat → α), vp_cell cA (n, ct f) = arrV cA n (fun j => mk (f j))) {ty : FieldType} (hprim : refKind ty = false) (hfit : ∀ x, fits ty (mk x) = true) (htk : ∀ (U : State) (cd : ClassId) (x : α), U.takes cd (mk x))
    {idx a0 a n0 n1 : Nat} {f h : Nat → α} {sp dp n : Int32} (lk : Cond.methodLink M.1.cls idx arraycopyName ∈ lw_g) (hdg : decode M.2.1 pc = .ok (.invokestatic idx, 3)) (hd : (rest.map fun v => v.category).sum ≤ 8)
    (ho : ∀ H, P H → aAt g H a0 ty (n0, ct f) ∧ aAt g H a ty (n1, ct h) ∧ A0 g a) (h1 : ¬ sp < 0) (h2 : ¬ dp < 0) (h3 : ¬ n < 0) (h4 : sp.toNatClampNeg + n.toNatClampNeg ≤ n0) (h5 : dp.toNatClampNeg + n.toNatClampNeg ≤ n1)
    (hp : ∀ H H', P H → aAt g H' a ty (n1, ct (va_cpy f h sp.toNatClampNeg dp.toNatClampNeg n.toNatClampNeg)) → H'.size = H.size → (∀ q, q ≠ a → H'[q]? = H[q]?) → P' H')
    (kk : Ev g (d + 1) M P' kc ks (pc + 3) L rest Q) : Ev g (d + 1) M P kc ks pc L (.int n :: .int dp :: .ref a :: .int sp :: .ref a0 :: rest) Q := by
  intro p e R s m args below meth c0 K F hK H lo9 ce9 sl9 ls hP hS hl hz1 hz2
  obtain ⟨Fx, Fb, Fm, Fr', Fo, Ft, Flk, Fn, FV, Fd1, Fd2⟩ := id F
  obtain ⟨⟨⟨k, hk⟩, hc0⟩, ⟨-, hc1⟩, ha⟩ := ho H hP
  intro T hT X
  obtain ⟨-, k0, hk0, cm0, hkk0⟩ := (FV.1.2 k _ (tysG_at hk)).1 n0 (fun j => mk (f j))
  rw [hct] at hc0 hc1
  have el : ∀ i, i < n.toNatClampNeg → (arrV (gA g ty) n0 (fun j => mk (f j))).slots.getD (sp.toNatClampNeg + i) .null = mk (f (sp.toNatClampNeg + i)) := fun i hi => by
    rw [Array.getD_eq_getD_getElem?, arrV_read _ _ (by omega)]
    rfl
  obtain ⟨vm', X', step⟩ := X.arraycopy Fx Fo (Ft _ lk) (Ft _ wac.1.1) (Ft _ wac.1.2) (Ft _ wac.2) (src := a0) (dst := a) (cs := arrV (gA g ty) n0 (fun j => mk (f j))) (cd := arrV (gA g ty) n1 (fun j => mk (h j))) (srcPos := sp) (destPos := dp) (n := n) (by rw [hT]; exact hc0) (by rw [hT]; exact hc1)
    (fun _ h => by cases h) (fun _ h => by cases h) (fun h => by cases h) (fun h => by cases h) hk0 hk0 hkk0 hkk0 (by simp [hprim]) h1 h2 h3
    (by rw [nnI sp h1, nnI n h3, arrV_size]; omega) (by rw [nnI dp h2, nnI n h3, arrV_size]; omega)
    (fun vm₁ _ i hi => by rw [el i hi]; exact ⟨hfit _, htk _ _ _⟩)
    (g := F0 m pc ls (.int n :: .int dp :: .ref a :: .int sp :: .ref a0 :: rest)) rfl (hl.1.trans Fm.symm) (rest := rest) rfl (by rw [Fb]; exact hdg) (by omega) (by show 2 * 0 + _ + (7 + 11) ≤ _; omega)
  rw [show copied (arrV (gA g ty) n0 (fun j => mk (f j))) (arrV (gA g ty) n1 (fun j => mk (h j))) sp dp n = arrV (gA g ty) n1 (fun j => mk (va_cpy f h sp.toNatClampNeg dp.toNatClampNeg n.toNatClampNeg j)) from va_copied mk (gA g ty) (gA g ty) f h h4] at X' step
  have hlt : a < H.size := (Array.getElem?_eq_some_iff.mp hc1).1
  generalize hH1 : ((T.setVm vm').setCell a (arrV (gA g ty) n1 (fun j => mk (va_cpy f h sp.toNatClampNeg dp.toNatClampNeg n.toNatClampNeg j)))) = T1 at X' step
  have hh : T1.heap = H.setIfInBounds a (arrV (gA g ty) n1 (fun j => mk (va_cpy f h sp.toNatClampNeg dp.toNatClampNeg n.toNatClampNeg j))) := by rw [← hH1, ← hT]; rfl
  have oq : ∀ q : Nat, q ≠ a → T1.heap[q]? = H[q]? := fun q hq => by rw [hh]; simp [Array.getElem?_setIfInBounds, Ne.symm hq]
  have z : T1.heap.size = H.size := by rw [hh]; simp
  obtain ⟨t, a1, b1⟩ := kk p e R s m args below meth c0 K F hK T1.heap _ ce9 sl9 ls (hp H T1.heap hP ⟨⟨k, hk⟩, by rw [hct, hh]; simp [Array.getElem?_setIfInBounds, hlt]⟩ z oq) ⟨by rw [z]; exact hS.1, fun q g1 g2 => by
      rw [oq q (fun e => g2 (by rw [e]; exact ha))]
      exact hS.2.1 q g1 g2, fun q hq => by
      rcases List.mem_append.mp hq with h | h
      · exact hS.2.2 q h
      · obtain ⟨y, -, hy⟩ := List.mem_map.mp h
        rw [← hy]
        exact ha⟩ hl hz1 hz2 T1 rfl X'
  exact ⟨t, step t a1, b1⟩
theorem e_copyi {idx a0 a n0 n1 : Nat} {f h : Nat → Int32} {sp dp n : Int32} (lk : Cond.methodLink M.1.cls idx arraycopyName ∈ lw_g) (hdg : decode M.2.1 pc = .ok (.invokestatic idx, 3)) (hd : (rest.map fun v => v.category).sum ≤ 8)
    (ho : ∀ H, P H → aAt g H a0 .int (n0, .inl f) ∧ aAt g H a .int (n1, .inl h) ∧ A0 g a) (h1 : ¬ sp < 0) (h2 : ¬ dp < 0) (h3 : ¬ n < 0) (h4 : sp.toNatClampNeg + n.toNatClampNeg ≤ n0) (h5 : dp.toNatClampNeg + n.toNatClampNeg ≤ n1)
    (hp : ∀ H H', P H → aAt g H' a .int (n1, .inl (va_cpy f h sp.toNatClampNeg dp.toNatClampNeg n.toNatClampNeg)) → H'.size = H.size → (∀ q, q ≠ a → H'[q]? = H[q]?) → P' H')
    (kk : Ev g (d + 1) M P' kc ks (pc + 3) L rest Q) : Ev g (d + 1) M P kc ks pc L (.int n :: .int dp :: .ref a :: .int sp :: .ref a0 :: rest) Q :=
  e_copyG (fun z => .int z) (fun f => .inl f) (fun _ _ _ => rfl) (ty := .int) rfl (fun _ => rfl) (fun _ _ _ => trivial) lk hdg hd ho h1 h2 h3 h4 h5 hp kk
theorem e_copyl {idx a0 a n0 n1 : Nat} {f h : Nat → Int64} {sp dp n : Int32} (lk : Cond.methodLink M.1.cls idx arraycopyName ∈ lw_g) (hdg : decode M.2.1 pc = .ok (.invokestatic idx, 3)) (hd : (rest.map fun v => v.category).sum ≤ 8)
    (ho : ∀ H, P H → aAt g H a0 .long (n0, .inr (.inl f)) ∧ aAt g H a .long (n1, .inr (.inl h)) ∧ A0 g a) (h1 : ¬ sp < 0) (h2 : ¬ dp < 0) (h3 : ¬ n < 0) (h4 : sp.toNatClampNeg + n.toNatClampNeg ≤ n0) (h5 : dp.toNatClampNeg + n.toNatClampNeg ≤ n1)
    (hp : ∀ H H', P H → aAt g H' a .long (n1, .inr (.inl (va_cpy f h sp.toNatClampNeg dp.toNatClampNeg n.toNatClampNeg))) → H'.size = H.size → (∀ q, q ≠ a → H'[q]? = H[q]?) → P' H')
    (kk : Ev g (d + 1) M P' kc ks (pc + 3) L rest Q) : Ev g (d + 1) M P kc ks pc L (.int n :: .int dp :: .ref a :: .int sp :: .ref a0 :: rest) Q :=
  e_copyG (fun z => .long z) (fun f => .inr (.inl f)) (fun _ _ _ => rfl) (ty := .long) rfl (fun _ => rfl) (fun _ _ _ => trivial) lk hdg hd ho h1 h2 h3 h4 h5 hp kk
/-! new cells -/
def grown (g : GG) (P : Heap → Prop) (a : Nat) (E : Heap → Prop) : Heap → Prop := fun H' => ∃ H : Heap, P H ∧ a = H.size ∧ E H' ∧ H'.size = H.size + 1 ∧ (∀ q, q < H.size → H'[q]? = H[q]?) ∧ gB g ≤ a
theorem e_new {idx c : Nat} {r : vw_C} (hc : classes[c]? = some r) (hcl : Cond.classLink M.1.cls idx r.1 ∈ lw_g) (hins : Cond.instantiable r.1 r.2.2 ∈ lw_g) (hini : Cond.initialized r.1 ∈ lw_g) (hdg : decode M.2.1 pc = .ok (.new idx, 3))
    (kk : ∀ a, Ev g d M (grown g P a (fun H' => obAt g H' a c (fun k => defaultValue (tyC c k)))) kc ks (pc + 3) L (.ref a :: rest) Q) : Ev g d M P (1 + kc) (r.2.2 + ks) pc L rest Q := by
  intro p e R s m args below meth c0 K F hK H lo9 ce9 sl9 ls hP hS hl hz1 hz2
  obtain ⟨Fx, Fb, Fm, Fr', Fo, Ft, Flk, Fn, FV, Fd1, Fd2⟩ := id F
  have hKn := FV.1.1 c _ hc
  refine W.newcK Fx Fb Fo (Ft _ hcl) (Ft _ hins) (Ft _ hini) rfl hdg (by omega) (by omega) hKn.2.1 rfl fun H1 kC hkC e1 z1 o1 => ?_
  exact kk H.size p e R s m args below meth c0 K F hK H1 lo9 _ _ ls ⟨H, hP, rfl, ⟨r, hc, u_born (tyC c) Ft (cls_in c _ hc) hKn hkC e1 (cls_ty c _ hc)⟩, z1, o1, Nat.le_trans FV.2.2.2.1 hS.1⟩
    ⟨Nat.le_trans hS.1 (by omega), fun q h1 h2 => (o1 q (Nat.lt_of_lt_of_le h1 hS.1)).trans (hS.2.1 q h1 h2), hS.2.2⟩ hl (by omega) (by omega)
theorem e_newarray {atype : ArrayType} {n : Int32} {N k : Nat} {a0 : vp_A} (hk : tyL[k]? = some (newarray.typeOf atype)) (hra : ∀ (U : State) (cA : ClassId), va_RA U cA (newarray.typeOf atype) → U.vm.findClass ("[" ++ (newarray.typeOf atype).toString) = some cA) (hw : Cond.arrayClass (newarray.typeOf atype) ∈ lw_g) (ha : ∀ cA : ClassId, vp_cell cA a0 = arrV cA N (fun _ => defaultValue (newarray.typeOf atype)))
    (hn : ¬ n < 0) (hN : n.toNatClampNeg = N) (hbytes : N * componentBytes (newarray.typeOf atype) ≤ 536870912) (hdg : decode M.2.1 pc = .ok (.newarray atype, 2))
    (kk : ∀ a, Ev g d M (grown g P a (fun H' => aAt g H' a (newarray.typeOf atype) a0)) kc ks (pc + 2) L (.ref a :: rest) Q) : Ev g d M P (1 + kc) (N + ks) pc L (.int n :: rest) Q := by
  intro p e R s m args below meth c0 K F hK H lo9 ce9 sl9 ls hP hS hl hz1 hz2
  obtain ⟨Fx, Fb, Fm, Fr', Fo, Ft, Flk, Fn, FV, Fd1, Fd2⟩ := id F
  refine va_newaK Fx Fb (Ft _ hw) rfl hdg rfl hn hN hbytes (by omega) (by omega) rfl fun H1 cA e1 z1 o1 hAr hNm => ?_
  have hcA : cA = gA g (newarray.typeOf atype) := Option.some.inj (hNm.symm.trans (hra _ _ (FV.1.2 k _ (tysG_at hk)).2))
  subst hcA
  exact kk H.size p e R s m args below meth c0 K F hK H1 lo9 _ _ ls ⟨H, hP, rfl, ⟨⟨k, hk⟩, by rw [ha]; exact e1⟩, z1, o1, Nat.le_trans FV.2.2.2.1 hS.1⟩
    ⟨Nat.le_trans hS.1 (by omega), fun q h1 h2 => (o1 q (Nat.lt_of_lt_of_le h1 hS.1)).trans (hS.2.1 q h1 h2), hS.2.2⟩ hl (by omega) (by omega)
theorem e_anewarray {idx k : Nat} {C : String} {n : Int32} {N : Nat} (hk : tyL[k]? = some (.object C)) (hao : C ∈ aoL) (hcl : Cond.classLink M.1.cls idx C ∈ lw_g) (hn : ¬ n < 0) (hN : n.toNatClampNeg = N) (hbytes : N * 4 ≤ 536870912) (hdg : decode M.2.1 pc = .ok (.anewarray idx, 3))
    (kk : ∀ a, Ev g d M (grown g P a (fun H' => aAt g H' a (.object C) (N, .inr (.inr (.inr (.inr (fun _ => none))))))) kc ks (pc + 3) L (.ref a :: rest) Q) : Ev g d M P (1 + kc) (N + ks) pc L (.int n :: rest) Q := by
  intro p e R s m args below meth c0 K F hK H lo9 ce9 sl9 ls hP hS hl hz1 hz2
  obtain ⟨Fx, Fb, Fm, Fr', Fo, Ft, Flk, Fn, FV, Fd1, Fd2⟩ := id F
  subst hN
  refine W.anew Fx Fb Fo (Ft _ hcl) (va_AO.use (FV.2.2.1.2.2 C hao)) rfl hdg rfl hn hbytes (by omega) (by omega) fun cA kA comp f1 f2 f3 f4 => ?_
  obtain ⟨kA', comp', q1, q2, q3, q4⟩ := (FV.1.2 k _ (tysG_at hk)).2
  have hcA : cA = gA g (.object C) := Option.some.inj (f1.symm.trans q4)
  subst hcA
  refine kk H.size p e R s m args below meth c0 K F hK _ lo9 _ _ ls ⟨H, hP, rfl, ⟨⟨k, hk⟩, ?_⟩, by simp, fun q hq => by rw [Array.getElem?_push, if_neg (Nat.ne_of_lt hq)], Nat.le_trans FV.2.2.2.1 hS.1⟩
    ⟨by simp; exact Nat.le_succ_of_le hS.1, fun q h1 h2 => by rw [Array.getElem?_push, if_neg (Nat.ne_of_lt (Nat.lt_of_lt_of_le h1 hS.1))]; exact hS.2.1 q h1 h2, hS.2.2⟩ hl (by omega) (by omega)
  rw [Array.getElem?_push_size, arrV_new]
  rfl
theorem e_objInit {idx a : Nat} (hw : Cond.methodLink M.1.cls idx objectInit ∈ lw_g) (hdg : decode M.2.1 pc = .ok (.invokespecial idx, 3)) (hd : (rest.map fun v => v.category).sum ≤ 8) (kk : Ev g (d + 1) M P kc ks (pc + 3) L rest Q) : Ev g (d + 1) M P kc ks pc L (.ref a :: rest) Q := by
  intro p e R s m args below meth c0 K F hK H lo9 ce9 sl9 ls hP hS hl hz1 hz2
  obtain ⟨Fx, Fb, Fm, Fr', Fo, Ft, Flk, Fn, FV, Fd1, Fd2⟩ := id F
  refine W.objInit Fx Fb Fo (Ft _ hw) (Ft _ woi.1) (Ft _ woi.2) rfl (hl.1.trans Fm.symm) rfl hdg (by omega) (by show 2 * 0 + _ + 12 ≤ _; omega) ?_
  exact kk p e R s m args below meth c0 K F hK H lo9 ce9 sl9 ls hP hS hl hz1 hz2
end
