/-! ===== what both sides mean: functions of a row of numbers (count, eager, versions, total, last, list, cells of ten) ===== -/
def qb (c : Nat) : Int32 := (1 : Int32) <<< (nI c &&& 31)
/-- the bit c of a set of cells -/
def qt (x : Int32) (c : Nat) : Bool := decide ((x >>> (nI c &&& 31)) &&& 1 = 1)
/-- the first k below n with p k; n if there is none -/
def qfst (p : Nat → Bool) : Nat → Nat
  | 0 => 0
  | n + 1 => if qfst p n < n then qfst p n else if p n then n else n + 1
def qex (p : Nat → Bool) (n : Nat) : Prop := ∃ d, d < n ∧ p d = true
/-- f 0, f 1 .. f (k - 1), one behind the other -/
def qit {α : Type} (f : Nat → α → α) : Nat → α → α
  | 0, a => a
  | k + 1, a => f k (qit f k a)
/-- the cells that define variable x, among the first c -/
def qdfn (V : Nat → Int32) (x : Int32) : Nat → Int32
  | 0 => 0
  | c + 1 => qdfn V x c ||| (if V c = x then qb c else 0)
/-- the only cell of a set; 12 if it isn't one -/
def qonlw (s : Int32) (k : Nat) : Nat := if k < 12 then (if s = qb k then k else qonlw s (k + 1)) else 12
termination_by 12 - k
def qonl (s : Int32) : Nat := qonlw s 0
/-- variables, left and right operands, how many -/
abbrev qG : Type := (Nat → Int32) × (Nat → Int32) × (Nat → Int32) × Nat
def qV (g : qG) : Nat → Int32 := g.1
def qL (g : qG) : Nat → Int32 := g.2.1
def qR (g : qG) : Nat → Int32 := g.2.2.1
def qn (g : qG) : Nat := g.2.2.2
def qdf (g : qG) (x : Int32) : Int32 := qdfn (qV g) x (qn g)
def qsrc (g : qG) (x : Int32) : Nat := if x < 100 then 12 else qonl (qdf g (x - 100))
def qdo (g : qG) (x : Int32) : Int32 := if qsrc g x = 12 then 0 else qb (qsrc g x)
def qdir (g : qG) (c : Nat) : Int32 := qdo g (qL g c) ||| qdo g (qR g c)
def qwar (g : qG) : Nat → Nat → Nat → Bool
  | 0, c, d => qt (qdir g c) d
  | k + 1, c, d => qwar g k c d || (qwar g k c k && qwar g k k d)
def qall (g : qG) (c d : Nat) : Bool := qwar g (qn g) c d
def qundB (g : qG) (x : Int32) : Bool := decide (¬ x < 100) && decide (qdf g (x - 100) = 0)
def qown (g : qG) (c : Nat) : Int32 := if qdf g (qV g c) = qb c then (if qall g c c = true then 3 else if qundB g (qL g c) = true ∨ qundB g (qR g c) = true then 4 else 0) else 2
def qused (g : qG) (x : Int32) : Int32 := if x < 100 then 0 else qdf g (x - 100)
/-- a used variable has a definer with an error -/
def qbad (g : qG) (w : Nat → Int32) (x : Int32) : Bool := decide (qfst (fun d => qt (qused g x) d && decide (w d ≠ 0)) (qn g) < qn g)
def qup (f : Nat → Int32) (k : Nat) (v : Int32) : Nat → Int32 := fun j => if j = k then v else f j
def qst (g : qG) (c : Nat) (w : Nat → Int32) : Nat → Int32 := if w c = 0 ∧ (qbad g w (qL g c) = true ∨ qbad g w (qR g c) = true) then qup w c 5 else w
def qw (g : qG) : Nat → Int32 := qit (fun _ w => qit (qst g) (qn g) w) (qn g) (fun c => if c < qn g then qown g c else 0)
def qrdy (g : qG) (P : Int32) (c : Nat) : Bool := decide (qw g c = 0) && (!(qt P c) && decide (qdir g c &&& (P ^^^ (-1)) = 0))
def qnx (g : qG) (P : Int32) : Nat := qfst (qrdy g P) (qn g)
/-- the cells of the run order's first k places -/
def qpl (g : qG) : Nat → Int32
  | 0 => 0
  | k + 1 => qpl g k ||| qb (qnx g (qpl g k))
/-- the run order -/
def qo (g : qG) (k : Nat) : Nat := qnx g (qpl g k)
/-- how many are runnable -/
def qm (g : qG) : Nat := qfst (fun k => decide (qo g k = qn g)) (qn g)
/-! rows -/
def qg (r : Nat → Int32) (n : Nat) : qG := (fun c => r (17 + 10 * c + 0), fun c => r (17 + 10 * c + 2), fun c => r (17 + 10 * c + 3), n)
def qkn (g : qG) (r : Nat → Int32) (fr : Nat → Bool) (x seen : Int32) : Bool := decide (x < 100) || (fr (qsrc g x) && decide (r (17 + 10 * qsrc g x + 5) = seen))
def qfn (g : qG) (r : Nat → Int32) (fr : Nat → Bool) (c : Nat) : Bool := decide (0 < r (17 + 10 * c + 5)) && (qkn g r fr (r (17 + 10 * c + 2)) (r (17 + 10 * c + 6)) && qkn g r fr (r (17 + 10 * c + 3)) (r (17 + 10 * c + 7)))
def qub (f : Nat → Bool) (k : Nat) (v : Bool) : Nat → Bool := fun j => if j = k then v else f j
/-- which cells are fresh, behind the first k of the run order -/
def qfr (g : qG) (r : Nat → Int32) : Nat → Nat → Bool
  | 0 => fun _ => false
  | k + 1 => qub (qfr g r k) (qo g k) (qfn g r (qfr g r k) (qo g k))
def qF (g : qG) (r : Nat → Int32) : Nat → Bool := qfr g r (qm g)
def qov (g : qG) (r : Nat → Int32) (x : Int32) : Int32 := if x < 100 then x else if 9999 < r (17 + 10 * qsrc g x + 4) then 20000 else r (17 + 10 * qsrc g x + 4)
def qex3 (op a b : Int32) : Int32 := if op = 0 then a + b else if op = 1 then a - b else if op = 2 then a * b else if op = 3 then a / b else if op = 4 then (if b < a then a else b) else (if a < b then a else b)
def qcmp (g : qG) (r : Nat → Int32) (c : Nat) : Int32 :=
  if qov g r (r (17 + 10 * c + 2)) = 20000 ∨ qov g r (r (17 + 10 * c + 3)) = 20000 then 20005
  else if r (17 + 10 * c + 1) = 3 ∧ qov g r (r (17 + 10 * c + 3)) = 0 then 20007
  else if ¬ qex3 (r (17 + 10 * c + 1)) (qov g r (r (17 + 10 * c + 2))) (qov g r (r (17 + 10 * c + 3))) < -9999 ∧ ¬ 9999 < qex3 (r (17 + 10 * c + 1)) (qov g r (r (17 + 10 * c + 2))) (qov g r (r (17 + 10 * c + 3))) then qex3 (r (17 + 10 * c + 1)) (qov g r (r (17 + 10 * c + 2))) (qov g r (r (17 + 10 * c + 3)))
  else 20006
def qvo (g : qG) (r : Nat → Int32) (x : Int32) : Int32 := if x < 100 then 0 else r (17 + 10 * qsrc g x + 5)
/-- the row behind the running of cell c -/
def qr1 (g : qG) (r : Nat → Int32) (c : Nat) : Nat → Int32 := if r (17 + 10 * c + 5) = 0 ∨ r (17 + 10 * c + 4) ≠ qcmp g r c then qup (qup (qup r 2 (r 2 + 1)) (17 + 10 * c + 4) (qcmp g r c)) (17 + 10 * c + 5) (r 2 + 1) else r
def qr2 (g : qG) (r : Nat → Int32) (c : Nat) : Nat → Int32 := qup (qr1 g r c) (17 + 10 * c + 6) (qvo g (qr1 g r c) (r (17 + 10 * c + 2)))
def qr3 (g : qG) (r : Nat → Int32) (c : Nat) : Nat → Int32 := qup (qr2 g r c) (17 + 10 * c + 7) (qvo g (qr2 g r c) (r (17 + 10 * c + 3)))
def qr4 (g : qG) (r : Nat → Int32) (c : Nat) : Nat → Int32 := qup (qup (qr3 g r c) (17 + 10 * c + 8) (r (17 + 10 * c + 8) + 1)) 3 (r 3 + 1)
def qrun (g : qG) (r : Nat → Int32) (c : Nat) : Nat → Int32 := qup (qup (qr4 g r c) (5 + (r 4).toNatClampNeg) (nI c)) 4 (r 4 + 1)
/-- the run order's first k places gone through, a set's stale cells run -/
def qwk (g : qG) (set : Int32) (r0 : Nat → Int32) : Nat → (Nat → Int32) × (Nat → Bool)
  | 0 => (r0, fun _ => false)
  | k + 1 => if qfn g (qwk g set r0 k).1 (qwk g set r0 k).2 (qo g k) = true then ((qwk g set r0 k).1, qub (qwk g set r0 k).2 (qo g k) true)
    else if qt set (qo g k) = true then (qrun g (qwk g set r0 k).1 (qo g k), qub (qwk g set r0 k).2 (qo g k) true)
    else ((qwk g set r0 k).1, qub (qwk g set r0 k).2 (qo g k) false)
def qrt (r : Nat → Int32) (n : Nat) (set : Int32) : Nat → Int32 := (qwk (qg r n) set r (qm (qg r n))).1
/-- status, value, dependents -/
def qsta (g : qG) (r : Nat → Int32) (c : Nat) : Int32 := if qw g c ≠ 0 then qw g c else if qF g r c = true then (if 9999 < r (17 + 10 * c + 4) then r (17 + 10 * c + 4) - 20000 else 0) else 1
def qval (g : qG) (r : Nat → Int32) (c : Nat) : Int32 := if qsta g r c = 0 then r (17 + 10 * c + 4) else -10001
def qdpt (g : qG) (c : Nat) : Nat → Int32
  | 0 => 0
  | k + 1 => qdpt g c k ||| (if qall g k c = true then qb k else 0)
/-- a cell's definition, laid into the row -/
def qdef (r : Nat → Int32) (c : Nat) (v op x y : Int32) : Nat → Int32 := qup (qup (qup (qup (qup (qup (qup (qup r (17 + 10 * c + 0) v) (17 + 10 * c + 1) op) (17 + 10 * c + 2) x) (17 + 10 * c + 3) y) (17 + 10 * c + 4) 0) (17 + 10 * c + 5) 0) (17 + 10 * c + 6) 0) (17 + 10 * c + 7) 0
def qcpy (r : Nat → Int32) (a b : Nat) : Nat → Int32 := fun j => if 17 + 10 * b ≤ j ∧ j < 17 + 10 * b + 10 then r (17 + 10 * a + (j - (17 + 10 * b))) else r j
