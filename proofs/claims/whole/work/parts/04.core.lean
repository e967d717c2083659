/-! the machine behind one frame: what is fixed for the whole run -/
abbrev VM : Type := (Nat → Nat → Int32) × (Nat → Nat → Nat → Int32) × (Nat → Nat → Nat → Int64) × (Nat → Nat)
/-- launch, first free address at the law's start, class numbers and slots, array classes, the static arrays, the script (its cell, length, ints) -/
abbrev GG : Type := Launch × Nat × va_G × (FieldType → ClassId) × (Nat → Nat) × Nat × Nat × (Nat → Int32)
abbrev gl (g : GG) : Launch := g.1
abbrev gB (g : GG) : Nat := g.2.1
abbrev gD (g : GG) : va_G := g.2.2.1
abbrev gA (g : GG) : FieldType → ClassId := g.2.2.2.1
abbrev gS (g : GG) : Nat → Nat := g.2.2.2.2.1
abbrev gb (g : GG) : Nat := g.2.2.2.2.2.1
abbrev gN (g : GG) : Nat := g.2.2.2.2.2.2.1
abbrev gx (g : GG) : Nat → Int32 := g.2.2.2.2.2.2.2
/-- the cells that may change: those made since the law began -/
def A0 (g : GG) : Nat → Prop := fun q => gB g ≤ q
def tyL : List FieldType := [.int, .boolean, .long, .object RX9, .object RX4, .object RX5, .object RX1, .object RX8]
abbrev tysG (g : GG) : List (ClassId × FieldType) := tyL.map (fun t => (gA g t, t))
def stT : List (String × List Int32) := [("KIND_ABOVE", [-1, 0, 1, 0, 3, 0]), ("LETTER_SIGN", [119, 115, 114, 112, 108, 121]), ("LETTER_LEAST", [0, 0, 0, 0, 0, 1]), ("LETTER_MOST", [52, 1, 9, 50, 99, 9]), ("LETTER_WITHOUT", [52, 0, 0, 0, 0, 1])]
def stF (v : List Int32) : Nat → Value := fun j => .int (v.getD j 0)
def VS (g : GG) (U : State) : Prop := ∀ (j : Nat) (q : String × List Int32), stT[j]? = some q → va_Z RX11 q.1 "[I" (.ref (gS g j)) (A0 g) U U.heap ∧ va_T .int (gS g j) q.2.length (stF q.2) (A0 g) U U.heap
def nestM : List (String × Nat × MethodName × String) := [(RX11, 35, yX2_init, RX11), (RX11, 42, yX10_init, RX11), (RX11, 49, yX3_init, RX11), (RX11, 56, yX0_init, RX11), (RX11, 63, yX7_init, RX11), (RX11, 70, yX6_init, RX11), (RX11, 104, yX9_init, RX11), (RX6, 75, yX11_isUnderKind, RX11)]
def nestF : List (String × Nat × String × String) := [(RX10, 46, "LETTER_LEAST", RX11), (RX10, 49, "LETTER_MOST", RX11), (RX10, 52, "LETTER_SIGN", RX11), (RX4, 57, "LETTER_WITHOUT", RX11)]
def aoL : List String := [RX9, RX4, RX5, RX1, RX8]
def VN (U : State) : Prop := (∀ q ∈ nestM, va_Nw (.methodLinkNest q.1 q.2.1 q.2.2.1 q.2.2.2) U) ∧ (∀ q ∈ nestF, va_Nw (.fieldLinkNest q.1 q.2.1 RX11 q.2.2.1 "[I" q.2.2.2) U) ∧ ∀ C ∈ aoL, va_AO C U
def VK (g : GG) (U : State) : Prop := va_K (gD g) classes (tysG g) U ∧ VS g U ∧ VN U ∧ gB g ≤ U.heap.size ∧ va_X (gb g) (gN g) (gx g) U U.heap ∧ gb g < gB g
theorem VK.down {g : GG} {s U : State} (hW : s.WarmedH U.vm) (hq : ∀ q : Nat, q < gB g → U.heap[q]? = s.heap[q]?) (hz : gB g ≤ U.heap.size) (h : VK g s) : VK g U := by
  obtain ⟨h1, h2, ⟨h3, h4, h5⟩, h6, h7, h8⟩ := h
  have hk : ∀ a : Nat, a < s.heap.size → ¬ A0 g a → U.heap[a]? = s.heap[a]? := fun a _ h => hq a (Nat.not_le.mp h)
  exact ⟨va_K.moved hW.alike h1, fun j q hj => ⟨((h2 j q hj).1.moved hW.alike).kept hk, ((h2 j q hj).2.moved hW.alike).kept hk⟩,
    ⟨fun q hq => va_Nw.warmM hW (h3 q hq), fun q hq => va_Nw.warmF hW (h4 q hq), fun C hC => (h5 C hC).moved hW.alike⟩, hz, (h7.moved hW.alike).kept (hq _ h8), h8⟩
theorem VK.same {g : GG} {s U : State} (hv : U.vm = s.vm) (hh : U.heap = s.heap) (h : VK g s) : VK g U := by
  obtain ⟨h1, h2, ⟨h3, h4, h5⟩, h6, h7, h8⟩ := h
  have al : s.vm.Alike U.vm := by rw [hv]; exact Vm.Alike.refl _
  have hk : ∀ a : Nat, a < s.heap.size → ¬ A0 g a → U.heap[a]? = s.heap[a]? := fun a _ _ => by rw [hh]
  exact ⟨va_K.moved al h1, fun j q hj => ⟨((h2 j q hj).1.moved al).kept hk, ((h2 j q hj).2.moved al).kept hk⟩,
    ⟨fun q hq => va_Nw.same rfl hv.symm (h3 q hq), fun q hq => va_Nw.same rfl hv.symm (h4 q hq), fun C hC => (h5 C hC).moved al⟩, by rw [hh]; exact h6, (h7.moved al).kept (by rw [hh]), h8⟩
/-! locals -/
def lrel (n : Nat) (L : List (Option Value)) (ls : Array Slot) : Prop := ls.size = n ∧ lv_wf ls ∧ ∀ (i : Nat) (v : Value), L[i]? = some (some v) → ls[i]? = some (.val v)
def asc (L : List (Option Value)) : List (Nat × Value) := (List.range L.length).filterMap fun i => (L[i]?.bind id).map fun v => (i, v)
theorem asc_mem {L : List (Option Value)} {q : Nat × Value} : q ∈ asc L ↔ L[q.1]? = some (some q.2) := by
  obtain ⟨i, v⟩ := q
  simp only [asc, List.mem_filterMap, List.mem_range, Option.map_eq_some_iff, Option.bind_eq_some_iff, id_eq]
  constructor
  · rintro ⟨j, hj, w, ⟨z, hz, rfl⟩, e⟩
    cases e
    exact hz
  · intro h
    exact ⟨i, (List.getElem?_eq_some_iff.mp h).1, v, ⟨_, h, rfl⟩, rfl⟩
theorem lrel.has {n : Nat} {L : List (Option Value)} {ls : Array Slot} (h : lrel n L ls) : lv_has ls n (asc L) := ⟨h.1, h.2.1, fun q hq => h.2.2 q.1 q.2 (asc_mem.mp hq)⟩
def clr (L : List (Option Value)) (i : Nat) : List (Option Value) := match i with
  | 0 => L
  | j + 1 => match L[j]? with
    | some (some (.long _)) => L.set j none
    | some (some (.double _)) => L.set j none
    | _ => L
def st1 (L : List (Option Value)) (i : Nat) (v : Value) : List (Option Value) := (clr L i).set i (some v)
def st2 (L : List (Option Value)) (i : Nat) (v : Value) : List (Option Value) := ((clr L i).set i (some v)).set (i + 1) none
theorem clr_get {L : List (Option Value)} {i j : Nat} {v : Value} (h : (clr L i)[j]? = some (some v)) : L[j]? = some (some v) ∧ ¬ (j + 1 = i ∧ v.category = 2) := by
  have key : ∀ (a : Nat), (L.set a none)[j]? = some (some v) → L[j]? = some (some v) ∧ j ≠ a := by
    intro a h
    rw [List.getElem?_set] at h
    by_cases e : a = j
    · rw [if_pos e] at h
      split at h <;> simp at h
    · rw [if_neg e] at h
      exact ⟨h, fun q => e q.symm⟩
  cases i with
  | zero => exact ⟨h, fun q => by omega⟩
  | succ a =>
    simp only [clr] at h
    split at h
    · obtain ⟨h1, h2⟩ := key a h
      exact ⟨h1, fun q => h2 (by omega)⟩
    · obtain ⟨h1, h2⟩ := key a h
      exact ⟨h1, fun q => h2 (by omega)⟩
    · rename_i n1 n2
      refine ⟨h, fun q => ?_⟩
      have e : j = a := by omega
      subst e
      cases v <;> simp [Value.category] at q
      · exact n1 _ h
      · exact n2 _ h
theorem lrel.st1 {n i : Nat} {L : List (Option Value)} {ls' : Array Slot} {v : Value} (h : lv_has ls' n ((i, v) :: (asc L).filter (fun q => !(q.1 == i) && !(q.1 + 1 == i && q.2.category == 2)))) : lrel n (st1 L i v) ls' := by
  refine ⟨h.1, h.2.1, fun j w hj => ?_⟩
  by_cases e : i = j
  · subst e
    unfold _root_.Jvm.Pilot.@@N@@.st1 at hj
    rw [List.getElem?_set] at hj
    rw [if_pos rfl] at hj
    split at hj
    · cases hj
      exact h.2.2 (i, v) List.mem_cons_self
    · cases hj
  · unfold _root_.Jvm.Pilot.@@N@@.st1 at hj
    rw [List.getElem?_set, if_neg e] at hj
    obtain ⟨h1, h2⟩ := clr_get hj
    refine h.2.2 (j, w) (List.mem_cons_of_mem _ (List.mem_filter.mpr ⟨asc_mem.mpr h1, ?_⟩))
    have e2 : ¬ j = i := fun q => e q.symm
    simp [e2]
    exact Classical.not_and_iff_not_or_not.mp h2
theorem lrel.st2 {n i : Nat} {L : List (Option Value)} {ls' : Array Slot} {v : Value} (h : lv_has ls' n ((i, v) :: (asc L).filter (fun q => !(q.1 == i) && (!(q.1 == i + 1) && !(q.1 + 1 == i && q.2.category == 2))))) : lrel n (st2 L i v) ls' := by
  refine ⟨h.1, h.2.1, fun j w hj => ?_⟩
  unfold _root_.Jvm.Pilot.@@N@@.st2 at hj
  rw [List.getElem?_set] at hj
  by_cases e1 : i + 1 = j
  · rw [if_pos e1] at hj
    split at hj <;> simp at hj
  · rw [if_neg e1] at hj
    by_cases e : i = j
    · subst e
      rw [List.getElem?_set] at hj
      rw [if_pos rfl] at hj
      split at hj
      · cases hj
        exact h.2.2 (i, v) List.mem_cons_self
      · cases hj
    · rw [List.getElem?_set, if_neg e] at hj
      obtain ⟨h1, h2⟩ := clr_get hj
      refine h.2.2 (j, w) (List.mem_cons_of_mem _ (List.mem_filter.mpr ⟨asc_mem.mpr h1, ?_⟩))
      have e2 : ¬ j = i := fun q => e q.symm
      have e3 : ¬ j = i + 1 := fun q => e1 q.symm
      simp [e2, e3]
      exact Classical.not_and_iff_not_or_not.mp h2
/-- fewer locals are known -/
def wkL : List (Option Value) → List (Option Value) → Prop
  | [], _ => True
  | a :: t, L => match L with
    | [] => a = none ∧ wkL t []
    | b :: u => (a = none ∨ a = b) ∧ wkL t u
theorem wkL.get : ∀ {L' L : List (Option Value)}, wkL L' L → ∀ (i : Nat) (v : Value), L'[i]? = some (some v) → L[i]? = some (some v)
  | [], _, _, i, v, h => by simp at h
  | a :: t, [], hw, i, v, h => by
    obtain ⟨rfl, hw⟩ := hw
    cases i with
    | zero => simp at h
    | succ i => have := wkL.get hw i v (by simpa using h); simp at this
  | a :: t, b :: u, hw, i, v, h => by
    obtain ⟨hab, hw⟩ := hw
    cases i with
    | zero =>
      rcases hab with rfl | rfl
      · simp at h
      · exact h
    | succ i => simpa using wkL.get hw i v (by simpa using h)
theorem lrel.wk {n : Nat} {L L' : List (Option Value)} {ls : Array Slot} (h : lrel n L ls) (hw : wkL L' L) : lrel n L' ls := ⟨h.1, h.2.1, fun i v hi => h.2.2 i v (hw.get i v hi)⟩
/-! the frame -/
def Fr (g : GG) (d : Nat) (M : MD) (p : Program) (R : Room) (s : State) (m : MethodId) (args : Array Value) (meth : Method) (c : Code) : Prop :=
  p.tables.exec = Jvm.exec ∧ c.code = M.2.1 ∧ c.maxLocals = M.2.2.1 ∧ meth.sig.returnType = M.2.2.2 ∧ s.vm.findClass M.1.cls = some m.cls ∧ (∀ w ∈ lw_g, w.before args s = true) ∧ meth.locks = false ∧ meth.name = M.1.name ∧ VK g s ∧ d ≤ R.frames ∧ 60 * d ≤ R.locals
def retOk (M : MD) (v : Option Value) (pc : Nat) : Prop := match v with
  | none => decode M.2.1 pc = .ok (.return_, 1) ∧ M.2.2.2 = none
  | some (.int x) => decode M.2.1 pc = .ok (.ireturn, 1) ∧ ∃ ty, M.2.2.2 = some ty ∧ narrow ty (.int x) = .int x
  | some (.long _) => decode M.2.1 pc = .ok (.lreturn, 1) ∧ M.2.2.2 = some .long
  | some .null => decode M.2.1 pc = .ok (.areturn, 1) ∧ ∃ n, M.2.2.2 = some (.object n)
  | some (.ref _) => decode M.2.1 pc = .ok (.areturn, 1) ∧ ∃ n, M.2.2.2 = some (.object n)
  | _ => False
/-- the machine in method M at pc with these locals and stack, on any heap of P, comes to a return of Q (kc cells and ks slots are still to be made at most) -/
def Ev (g : GG) (d : Nat) (M : MD) (P : Heap → Prop) (kc ks pc : Nat) (L : List (Option Value)) (st : List Value) (Q : Option Value → Heap → Prop) : Prop :=
  ∀ (p : Program) (e : Env) (R : Room) (s : State) (m : MethodId) (args : Array Value) (below : List Frame) (meth : Method) (c : Code) (K : State → Prop), Fr g d M p R s m args meth c →
    (∀ (v : Option Value) (H : Heap) (locs : List Loc) (cells slots pc : Nat) (ls : Array Slot), Q v H → va_S (A0 g) s.heap H locs → cells ≤ R.cells → slots ≤ R.slots → retOk M v pc → W p (gl g) e R s m args below meth c H locs cells slots K (F0 m pc ls v.toList)) →
    ∀ (H : Heap) (locs : List Loc) (cells slots : Nat) (ls : Array Slot), P H → va_S (A0 g) s.heap H locs → lrel M.2.2.1 L ls → cells + kc ≤ R.cells → slots + ks ≤ R.slots → W p (gl g) e R s m args below meth c H locs cells slots K (F0 m pc ls st)
abbrev rmD (d mc ms : Nat) : Room := { frames := d, cells := mc, slots := ms, locals := 60 * d }
abbrev wsM (M : MD) : List Cond := Cond.code M.1 M.2.1 M.2.2.1 M.2.2.2 :: lw_g
/-- the contract of method M on these arguments, from any heap of P -/
def Cl (g : GG) (d mc ms : Nat) (M : MD) (av : List Value) (P : Heap → Prop) (Q : Option Value → Heap → Prop) : Prop :=
  Met (gl g) M.1 (wsM M) (rmD d mc ms) (fun a U => a = av.toArray ∧ VK g U ∧ P U.heap) (fun _ st o t => ∃ v, o = .returned v ∧ Q v t.heap ∧ va_F (A0 g) st t) mc ms (A0 g)
def entL : List Value → List (Option Value)
  | [] => []
  | v :: t => if v.category = 2 then some v :: none :: entL t else some v :: entL t
theorem lrel_entry (vs : List Value) {n : Nat} (h : (lg_sl vs).length ≤ n) : lrel n (entL vs) ((lg_sl vs ++ List.replicate (n - (lg_sl vs).length) Slot.unset).toArray) := by
  obtain ⟨h1, h2, h3⟩ := lv_entry vs h
  refine ⟨h1, h2, ?_⟩
  have key : ∀ (vs : List Value) (post : List Slot) (i : Nat) (v : Value), (entL vs)[i]? = some (some v) → (lg_sl vs ++ post)[i]? = some (.val v) := by
    intro vs
    induction vs with
    | nil => intro post i v h; simp [entL] at h
    | cons w t ih =>
      intro post i v h
      unfold entL at h
      have e : lg_sl (w :: t) = (if w.category = 2 then [.val w, .second] else [.val w]) ++ lg_sl t := by simp [lg_sl]
      rw [e]
      by_cases hc : w.category = 2
      · rw [if_pos hc] at h ⊢
        match i, h with
        | 0, h => simp at h; subst h; simp
        | 1, h => simp at h
        | i + 2, h => simpa using ih post i v (by simpa using h)
      · rw [if_neg hc] at h ⊢
        match i, h with
        | 0, h => simp at h; subst h; simp
        | i + 1, h => simpa using ih post i v (by simpa using h)
  intro i v hi
  have := key vs (List.replicate (n - (lg_sl vs).length) Slot.unset) i v hi
  simpa using this
/-- a contract out of its body's walk -/
theorem Cl.of {g : GG} {d mc ms n : Nat} {M : MD} {av : List Value} {P : Heap → Prop} {Q : Option Value → Heap → Prop} (ok : okM M n) (hlen : (lg_sl av).length ≤ M.2.2.1) (h : Ev g d M P mc ms 0 (entL av) [] Q) : Cl g d mc ms M av P Q := by
  refine Met.ofW (cc := M.2.1) (maxL := M.2.2.1) (ret := M.2.2.2) (ws' := lw_g) ok.2.1 rfl ?_
  intro p e s m args below meth c s₁ B hml hv
  obtain ⟨rfl, hK, hP⟩ := hv
  have hts := atoms_spec (ws := wsM M) B.pre
  have hown : s.vm.findClass M.1.cls = some m.cls := findClass_of_methodNamed B.named
  have hn : meth.name = M.1.name := (name_of_methodNamed B.named B.method).1
  rw [lg_entry_eq]
  refine h p e _ s m _ below meth c _ ⟨B.exec, B.bytes, hml, B.returns, hown, fun w hw => hts w (List.mem_cons_of_mem _ hw), B.notSynchronized, hn, hK, Nat.le_refl _, Nat.le_refl _⟩ ?_ s.heap [] 0 0 _ hP va_S.rf (lrel_entry av hlen) (by show 0 + mc ≤ mc; omega) (by show 0 + ms ≤ ms; omega)
  intro v H locs cells slots pc ls hQ hS h1 h2 hr
  refine W.widen (k := mc) (n := ms) h1 h2 ?_
  have hlocks := B.notSynchronized
  have post : ∀ t : State, t.heap = H → s.WarmedH t.vm → ∃ v', Outcome.returned v = .returned v' ∧ Q v' t.heap ∧ va_F (A0 g) s t := fun t ht _ => ⟨v, rfl, by rw [ht]; exact hQ, hS.F ht⟩
  match v, hr with
  | none, hr => exact W.vret B.exec B.bytes (by rw [B.returns]; exact hr.2) post hS.2.2 hr.1
  | some (.int x), ⟨h1, ty, h2, h3⟩ => exact W.zret B.exec B.bytes (by rw [B.returns]; exact h2) h3 post hS.2.2 h1
  | some (.long x), ⟨h1, h2⟩ => exact W.lret B.exec B.bytes (by rw [B.returns]; exact h2) post hS.2.2 h1
  | some .null, ⟨h1, n, h2⟩ => exact W.aret B.exec B.bytes (by rw [B.returns]; exact h2) (Or.inl ⟨n, rfl⟩) (Or.inl rfl) post hS.2.2 h1
  | some (.ref a), ⟨h1, n, h2⟩ => exact W.aret B.exec B.bytes (by rw [B.returns]; exact h2) (Or.inl ⟨n, rfl⟩) (Or.inr ⟨a, rfl⟩) post hS.2.2 h1
  | some (.float _), hr => exact hr.elim
  | some (.double _), hr => exact hr.elim
  | some (.retAddr _), hr => exact hr.elim
