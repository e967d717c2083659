/-! what the best order is -/
def tn (v : Int32) : Nat := v.toNatClampNeg
/-- least of f over those below n that p has -/
def mnB (p : Nat → Bool) (f : Nat → Nat) : Nat → Nat
  | 0 => 1000000000
  | n + 1 => if p n = true then min (mnB p f n) (f n) else mnB p f n
/-- the first below n that p has, or 0 -/
def fsB (p : Nat → Bool) : Nat → Nat → Nat
  | 0, _ => 0
  | n + 1, i => if p i = true then i else fsB p n (i + 1)
def orB (c : Nat → Nat) (p : Nat → Bool) : Nat → Nat
  | 0 => 0
  | n + 1 => orB c p n ||| if p n = true then c n else 0
def smB (f : Nat → Nat) : Nat → Nat
  | 0 => 0
  | n + 1 => smB f n + f n
section
variable (n : Nat) (pl : Nat → Int32) (ca dy D : Nat → Nat) (chg : Nat)
def bSt (b l s : Nat) : Nat := dy s * D (ca s ||| (orB ca (fun i => b.testBit i) n &&& orB ca (fun i => !b.testBit i) n)) + if b ≠ 0 ∧ pl l = pl s then 0 else chg
def bC : Nat → Nat → Nat → Nat
  | 0, _, _ => 0
  | k + 1, b, l => mnB (fun s => !b.testBit s) (fun s => bSt n pl ca dy D chg b l s + bC k (b ||| 2 ^ s) s) n
def bW : Nat → Nat → Nat → List Nat
  | 0, _, _ => []
  | k + 1, b, l => fsB (fun s => !b.testBit s && decide (bSt n pl ca dy D chg b l s + bC n pl ca dy D chg k (b ||| 2 ^ s) s = bC n pl ca dy D chg (k + 1) b l)) n 0 :: bW k (b ||| 2 ^ fsB (fun s => !b.testBit s && decide (bSt n pl ca dy D chg b l s + bC n pl ca dy D chg k (b ||| 2 ^ s) s = bC n pl ca dy D chg (k + 1) b l)) n 0) (fsB (fun s => !b.testBit s && decide (bSt n pl ca dy D chg b l s + bC n pl ca dy D chg k (b ||| 2 ^ s) s = bC n pl ca dy D chg (k + 1) b l)) n 0)
def bSpec (c : Int32) (o : Nat → Int32) : Prop := c = nI (bC n pl ca dy D chg n 0 0) ∧ ∀ i, i < n → o i = nI ((bW n pl ca dy D chg n 0 0).getD i 0)
end
/-- a day's cost with a set of people -/
def dayD (fee : Nat) (dp : Nat → Nat) (s : Nat) : Nat := fee + smB (fun w => if s.testBit w = true then dp w else 0) 16
def bSpecX (x : VM) (j : Nat) (c : Int32) (o : Nat → Int32) : Prop := bSpec (x.2.2.2 (20 + j)) (fun s => x.1 800 (8 * j + s)) (fun s => tn (x.1 801 (8 * j + s))) (fun s => tn (x.1 802 (8 * j + s))) (dayD (tn (x.1 301 0)) (fun w => tn (x.2.1 300 0 w))) (tn (x.1 302 0)) c o
def ICac (x m : VM) : Prop := ∀ j, x.2.2.2 0 = j + 1 → 0 < x.2.2.2 (20 + j) ∧ bSpecX x j (x.2.1 307 0 0) (x.2.1 304 0)
