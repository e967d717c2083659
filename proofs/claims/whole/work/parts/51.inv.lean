/-! the invariant, block by block -/
def rng (v : Int32) (a b : Int) : Prop := a ≤ v.toInt ∧ v.toInt ≤ b
def IBas (x m : VM) : Prop := KX x ∧ x.2.2.2 0 ≤ x.2.2.2 5
def ICnt (x m : VM) : Prop := m.1 1202 0 = x.1 1113 0 ∧ m.1 1204 0 = x.1 1114 0 ∧ m.1 1205 0 = x.1 1115 0
def INow (x m : VM) : Prop := m.1 1200 0 = x.1 1116 0 ∧ rng (x.1 1116 0) 0 4000
def IPur (x m : VM) : Prop := m.1 1201 0 = x.1 1117 0
def IClr (x m : VM) : Prop := m.1 1208 0 = x.1 1118 0 ∧ rng (x.1 1118 0) 0 9
def IFau (x m : VM) : Prop := m.1 1209 0 = x.1 1002 0
def ICod (x m : VM) : Prop := ∀ j, j < 4 → m.2.1 1251 0 j = x.2.1 1110 0 j ∧ rng (x.2.1 1110 0 j) 0 9
def ISha (x m : VM) : Prop := ∀ j, j < 4 → m.2.1 1257 0 j = x.2.1 1111 0 j ∧ rng (x.2.1 1111 0 j) 0 99
def IFee (x m : VM) : Prop := (m.1 1206 0 = x.1 301 0 ∧ rng (x.1 301 0) 0 999) ∧ m.1 1207 0 = x.1 302 0 ∧ rng (x.1 302 0) 0 999
def ILaw (x m : VM) : Prop := (m.1 1203 0 = x.1 202 0 ∧ rng (x.1 202 0) 0 8) ∧ ∀ j, j < 8 → m.2.1 1230 0 j = x.2.1 200 0 j ∧ m.2.1 1231 0 j = x.2.1 201 0 j
/-- a shelf: nothing, a row, a picture -/
def IShe (x m : VM) : Prop := ∀ s, s < 8 →
  (m.2.1 1211 0 s = 0 ∧ x.1 901 s = -1 ∧ x.1 903 s = -1) ∨
  (m.2.1 1211 0 s = 1 ∧ m.2.1 1212 0 s = x.1 901 s ∧ rng (x.1 901 s) 0 3 ∧ m.2.1 1213 0 s = x.1 902 s ∧ rng (x.1 902 s) 0 60 ∧ ∀ j, j < 60 → m.2.2.1 1215 0 (60 * s + j) = x.2.2.1 900 s j) ∨
  (m.2.1 1211 0 s = 2 ∧ x.1 901 s = -1 ∧ m.2.1 1214 0 s = x.1 903 s ∧ ∃ p, p < x.2.2.2 5 ∧ x.1 903 s = nI p)
