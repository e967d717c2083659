/-! the invariant, block by block -/
def rng (v : Int32) (a b : Int) : Prop := a ≤ v.toInt ∧ v.toInt ≤ b
def IBas (x m : VM) : Prop := KX x ∧ x.2.2.2 0 ≤ x.2.2.2 5
def ICnt (x m : VM) : Prop := m.1 1202 0 = x.1 1113 0 ∧ m.1 1204 0 = x.1 1114 0 ∧ m.1 1205 0 = x.1 1115 0
def INow (x m : VM) : Prop := m.1 1200 0 = x.1 1116 0 ∧ rng (x.1 1116 0) 0 4000
def IPur (x m : VM) : Prop := m.1 1201 0 = x.1 1117 0
def IClr (x m : VM) : Prop := m.1 1208 0 = x.1 1118 0 ∧ rng (x.1 1118 0) 0 9
def IFau (x m : VM) : Prop := m.1 1209 0 = x.1 1002 0
def ICod (x m : VM) : Prop := ∀ j, j < 4 → m.2.1 1251 0 j = x.2.1 1110 0 j ∧ rng (x.2.1 1110 0 j) 0 9
def ISha (x m : VM) : Prop := ∀ j, j < 4 → m.2.1 1257 0 j = x.2.1 1111 0 j ∧ rng (x.2.1 1111 0 j) 0 99
def IFee (x m : VM) : Prop := (m.1 1206 0 = x.1 301 0 ∧ rng (x.1 301 0) 0 999) ∧ m.1 1207 0 = x.1 302 0 ∧ rng (x.1 302 0) 0 999
def ILaw (x m : VM) : Prop := (m.1 1203 0 = x.1 202 0 ∧ rng (x.1 202 0) 0 8) ∧ ∀ j, j < 8 → m.2.1 1230 0 j = x.2.1 200 0 j ∧ m.2.1 1231 0 j = x.2.1 201 0 j
/-- a shelf: nothing, a row, a picture -/
def IShe (x m : VM) : Prop := ∀ s, s < 8 →
  (m.2.1 1211 0 s = 0 ∧ x.1 901 s = -1 ∧ x.1 903 s = -1) ∨
  (m.2.1 1211 0 s = 1 ∧ m.2.1 1212 0 s = x.1 901 s ∧ rng (x.1 901 s) 0 3 ∧ m.2.1 1213 0 s = x.1 902 s ∧ rng (x.1 902 s) 0 60 ∧ ∀ j, j < 60 → m.2.2.1 1215 0 (60 * s + j) = x.2.2.1 900 s j) ∨
  (m.2.1 1211 0 s = 2 ∧ x.1 901 s = -1 ∧ m.2.1 1214 0 s = x.1 903 s ∧ ∃ p, p < x.2.2.2 5 ∧ x.1 903 s = nI p)
/-! people -/
def effY (py pi y : Int32) : Int32 := if py = y then pi else 0
def yrT (now b : Int32) : Int32 := (now - b) / 364
def wout (k : Nat) : Int32 := if k = 0 then 52 else 0
def undT (h b e now : Int32) : Prop := h = 1 ∧ b ≤ now ∧ now < e
def PerAt (now : Int32) (B : Int) (x m : VM) (w : Nat) : Prop :=
  (m.2.1 1217 0 w = x.1 400 w ∧ rng (x.1 400 w) 1 999 ∧ x.2.1 300 0 w = x.1 400 w / 7) ∧
  ((m.2.1 1227 0 w = 0 ∧ x.1 405 w = -1) ∨ (m.2.1 1227 0 w = 1 ∧ m.2.1 1219 0 w = x.1 405 w ∧ (1 ≤ (x.1 405 w).toInt ∧ (x.1 405 w).toInt ≤ B) ∧ ∀ k, k < 5 → x.2.1 401 w k = if m.2.1 1229 0 (5 * w + k) = -1 then wout k else m.2.1 1229 0 (5 * w + k))) ∧
  (m.2.1 1218 0 w = x.1 404 w ∧ 0 ≤ (x.1 404 w).toInt ∧ (x.1 404 w).toInt ≤ now.toInt) ∧
  (m.2.1 1228 0 w = x.1 406 w ∧ (x.1 406 w = 0 ∨ x.1 406 w = 1)) ∧
  (rng (m.2.1 1220 0 w) (-1) 4400 ∧ x.1 407 w = if ¬ m.2.1 1220 0 w = -1 ∧ now < m.2.1 1220 0 w then m.2.1 1220 0 w else -1) ∧
  (m.2.1 1221 0 w = x.1 408 w ∧ m.2.1 1226 0 w = x.1 413 w) ∧
  (effY (x.1 409 w) (x.1 410 w) (yrT now (x.1 404 w)) = effY (m.2.1 1222 0 w) (m.2.1 1223 0 w) (yrT now (x.1 404 w)) ∧ (x.1 409 w).toInt ≤ (yrT now (x.1 404 w)).toInt ∧ (m.2.1 1222 0 w).toInt ≤ (yrT now (x.1 404 w)).toInt) ∧
  (effY (x.1 411 w) (x.1 412 w) (yrT now (x.1 404 w)) = effY (m.2.1 1224 0 w) (m.2.1 1225 0 w) (yrT now (x.1 404 w)) ∧ (x.1 411 w).toInt ≤ (yrT now (x.1 404 w)).toInt ∧ (m.2.1 1224 0 w).toInt ≤ (yrT now (x.1 404 w)).toInt) ∧
  (m.2.1 1232 0 w = x.1 403 w ∧ rng (x.1 403 w) 0 60 ∧ ∀ j : Nat, (j : Int) < (x.1 403 w).toInt → m.2.2.1 1233 0 (60 * w + j) = x.2.2.1 402 w j) ∧
  (¬ undT (m.2.1 1227 0 w) (x.1 404 w) (x.1 405 w) now → x.1 406 w = 0 ∧ x.1 407 w = -1)
def IPer (x m : VM) : Prop := ∀ w, w < x.2.2.2 4 → PerAt (x.1 1116 0) ((x.1 1116 0).toInt + 3276) x m w
def IPe0 (x m : VM) : Prop := ∀ w, x.2.2.2 4 ≤ w → w < 16 → m.2.1 1227 0 w = 0 ∧ m.2.1 1228 0 w = 0 ∧ m.2.1 1218 0 w = 0 ∧ m.2.1 1220 0 w = 0 ∧ m.2.1 1221 0 w = 0 ∧ m.2.1 1226 0 w = 0 ∧ m.2.1 1222 0 w = 0 ∧ m.2.1 1223 0 w = 0 ∧ m.2.1 1224 0 w = 0 ∧ m.2.1 1225 0 w = 0 ∧ m.2.1 1232 0 w = 0 ∧ x.2.1 300 0 w = 0
/-! pictures, scenes, halls, plans -/
def IPic (x m : VM) : Prop := ∀ p, p < x.2.2.2 5 →
  (m.2.1 1234 0 p = x.1 500 p ∧ rng (x.1 500 p) 0 5) ∧ m.2.1 1235 0 p = x.1 502 p ∧ (m.2.1 1240 0 p = x.1 503 p ∧ (x.1 503 p = 0 ∨ x.1 503 p = 1)) ∧
  m.2.1 1243 0 p = x.1 505 p ∧ m.2.1 1244 0 p = x.1 506 p ∧ m.2.1 1245 0 p = x.1 507 p ∧ m.2.1 1246 0 p = x.1 508 p ∧
  (m.2.1 1266 0 p = x.1 516 p ∧ rng (x.1 516 p) 1 4) ∧ (∀ s, s < 8 → m.2.1 1267 0 (8 * p + s) = x.2.1 517 p s ∧ rng (x.2.1 517 p s) 0 999) ∧
  (∀ s, s < 8 → m.2.1 1256 0 (8 * p + s) = x.2.1 513 p s) ∧
  ∀ k, k < 4 → m.2.1 1258 0 (4 * p + k) = x.2.1 514 p k ∧ m.2.1 1259 0 (4 * p + k) = x.2.1 515 p k ∧ rng (x.2.1 514 p k) 0 999 ∧ rng (x.2.1 515 p k) 0 (x.2.1 514 p k).toInt
def IOrd (x m : VM) : Prop := ∀ p, p < x.2.2.2 5 → x.1 503 p = 1 → ∀ i, i < x.2.2.2 (20 + p) → m.2.1 1241 0 (8 * p + i) = x.2.1 504 p i ∧ ∃ k, k < x.2.2.2 (20 + p) ∧ x.2.1 504 p i = nI k
def IDra (x m : VM) : Prop := ∀ p, p < x.2.2.2 5 → (m.2.1 1247 0 p = x.1 509 p ∧ rng (x.1 509 p) 0 8) ∧ (m.2.1 1248 0 p = x.1 512 p ∧ rng (x.1 512 p) 0 60 ∧ (x.1 509 p = 0 → x.1 512 p = 0)) ∧ ∀ k : Nat, (k : Int) < (x.1 512 p).toInt → m.2.2.1 1250 0 (60 * p + k) = x.2.2.1 510 p k ∧ m.2.1 1249 0 (60 * p + k) = x.2.1 511 p k
def IPi0 (x m : VM) : Prop := ∀ p, x.2.2.2 5 ≤ p → p < 8 → m.2.1 1235 0 p = 0 ∧ m.2.1 1240 0 p = 0 ∧ m.2.1 1243 0 p = -1 ∧ m.2.1 1244 0 p = 0 ∧ m.2.1 1245 0 p = 0 ∧ m.2.1 1246 0 p = 0 ∧ m.2.1 1247 0 p = 0 ∧ m.2.1 1248 0 p = 0 ∧ m.2.1 1266 0 p = 1 ∧ (∀ s, s < 8 → m.2.1 1256 0 (8 * p + s) = -1 ∧ m.2.1 1267 0 (8 * p + s) = 0) ∧ ∀ k, k < 4 → m.2.1 1258 0 (4 * p + k) = 0 ∧ m.2.1 1259 0 (4 * p + k) = 0
def ISce (x m : VM) : Prop := ∀ p s, p < x.2.2.2 5 → s < x.2.2.2 (20 + p) →
  (m.2.1 1236 0 (8 * p + s) = x.1 800 (8 * p + s) ∧ rng (x.1 800 (8 * p + s)) 0 9) ∧ (m.2.1 1237 0 (8 * p + s) = x.1 801 (8 * p + s) ∧ rng (x.1 801 (8 * p + s)) 0 (2 ^ x.2.2.2 4 - 1)) ∧ (m.2.1 1238 0 (8 * p + s) = x.1 802 (8 * p + s) ∧ rng (x.1 802 (8 * p + s)) 1 4) ∧
  (m.2.1 1242 0 (8 * p + s) = x.1 803 (8 * p + s) ∧ rng (x.1 803 (8 * p + s)) 0 9) ∧ (∀ k, k < 4 → m.2.1 1239 0 (4 * (8 * p + s) + k) = x.2.1 804 (8 * p + s) k ∧ rng (x.2.1 804 (8 * p + s) k) 0 9) ∧
  (m.2.1 1252 0 (8 * p + s) = x.1 805 (8 * p + s) ∧ rng (x.1 805 (8 * p + s)) 0 4) ∧ ∀ t : Nat, (t : Int) < (x.1 805 (8 * p + s)).toInt → (m.2.1 1253 0 (4 * (8 * p + s) + t) = x.2.1 806 (8 * p + s) t ∧ rng (x.2.1 806 (8 * p + s) t) 1 99) ∧ (m.2.1 1254 0 (4 * (8 * p + s) + t) = x.2.1 807 (8 * p + s) t ∧ rng (x.2.1 807 (8 * p + s) t) 0 99) ∧ m.2.1 1255 0 (4 * (8 * p + s) + t) = x.2.1 808 (8 * p + s) t ∧ rng (x.2.1 808 (8 * p + s) t) 0 99
def ISc0 (x m : VM) : Prop := ∀ p s, p < 8 → s < 8 → (p < x.2.2.2 5 → x.2.2.2 (20 + p) ≤ s) → m.2.1 1242 0 (8 * p + s) = 0 ∧ m.2.1 1252 0 (8 * p + s) = 0 ∧ ∀ k, k < 4 → m.2.1 1239 0 (4 * (8 * p + s) + k) = 0
def IHal (x m : VM) : Prop := ∀ h, h < x.2.2.2 1 → m.2.1 1260 0 h = x.1 100 h ∧ m.2.1 1261 0 h = x.1 101 h ∧ (m.2.1 1262 0 h = x.1 102 h ∧ rng (x.1 102 h) 0 90) ∧ m.2.1 1263 0 h = x.1 105 h ∧ ∀ w, w < 40 → (m.2.1 1264 0 (40 * h + w) = x.2.1 103 h w ∧ (x.2.1 103 h w = -1 ∨ ∃ p, p < x.2.2.2 5 ∧ x.2.1 103 h w = nI p)) ∧ m.2.1 1265 0 (40 * h + w) = x.2.1 104 h w ∧ (x.2.1 104 h w = 0 ∨ x.2.1 104 h w = 1)
def IHa0 (x m : VM) : Prop := ∀ h, x.2.2.2 1 ≤ h → h < 6 → m.2.1 1263 0 h = 0 ∧ ∀ w, w < 40 → m.2.1 1264 0 (40 * h + w) = -1 ∧ m.2.1 1265 0 (40 * h + w) = 0
/-- how many showings there are -/
def cntS (x : VM) : Nat := ((List.range (x.2.2.2 1)).map fun h => ((List.range 40).filter fun w => decide (¬ x.2.1 103 h w = -1)).length).sum
def IShw (x m : VM) : Prop := m.1 1210 0 = nI (cntS x)
def IPla (x m : VM) : Prop := (∃ n, n ≤ x.2.2.2 5 ∧ x.1 601 0 = nI n ∧ ∀ p, p < 8 → m.2.1 1268 0 p = if p < n then x.2.1 600 0 p else -1) ∧ ∀ s, s < 8 → x.2.1 607 0 s = 0 ∧ x.2.1 608 0 s = 0
