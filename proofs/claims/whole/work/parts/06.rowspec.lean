/-! Row: an end for each begin; 30 stands for none -/
def rAdd (F : Nat → Nat) (i v : Nat) : Nat → Nat := if v < F i then va_up F i v else F
theorem rAdd_le {F : Nat → Nat} {i v : Nat} (hF : ∀ j, F j ≤ 30) (hv : v ≤ 30) : ∀ j, rAdd F i v j ≤ 30 := by
  unfold rAdd
  split
  · exact k_upB hF hv
  · exact hF
/-- keepLeast, from n places down -/
def rKL : Nat → (Nat → Nat) → Nat → (Nat → Nat)
  | 0, F, _ => F
  | n + 1, F, le => if F n < le then rKL n F (F n) else rKL n (va_up F n 30) le
/-- size, from place i on -/
def rSize (F : Nat → Nat) : Nat → Nat → Nat → Nat
  | 0, _, acc => acc
  | n + 1, i, acc => if F i ≠ 30 then rSize F n (i + 1) (acc + 1) else rSize F n (i + 1) acc
/-- beginOf -/
def rBegin (F : Nat → Nat) (k : Int) : Nat → Nat → Nat → Int
  | 0, _, _ => -1
  | n + 1, i, b => if F i ≠ 30 then (if (b : Int) = k then (i : Int) else rBegin F k n (i + 1) (b + 1)) else rBegin F k n (i + 1) b
def rEnd (F : Nat → Nat) (k : Int) : Int := if 0 ≤ rBegin F k 30 0 0 then (F (rBegin F k 30 0 0).toNat : Int) else -1
/-- placesCovered -/
def rCov (F : Nat → Nat) : Nat → Nat → Int → Int → Int
  | 0, _, cov, _ => cov
  | n + 1, i, cov, last => if F i ≠ 30 then rCov F n (i + 1) (cov + ((F i : Int) - max last ((i : Int) - 1))) (F i) else rCov F n (i + 1) cov last
/-- addPlacesWith -/
def rWith (t : Nat → Nat) (set : Nat) : Nat → Nat → (Nat → Nat) → (Nat → Nat)
  | 0, _, F => F
  | n + 1, i, F => if t i &&& set ≠ 0 then rWith t set n (i + 1) (rAdd F i i) else rWith t set n (i + 1) F
/-- addGrown -/
def rGrown (a : Nat → Nat) (k : Nat) : Nat → Nat → (Nat → Nat) → (Nat → Nat)
  | 0, _, F => F
  | n + 1, i, F => if a i ≠ 30 then rGrown a k n (i + 1) (rAdd F (i - k) (a i)) else rGrown a k n (i + 1) F
/-- addEndingBefore -/
def rBefore (a : Nat → Nat) (k : Nat) : Nat → Nat → (Nat → Nat) → (Nat → Nat)
  | 0, _, F => F
  | n + 1, i, F => if a i ≠ 30 then (if a i < k then rBefore a k n (i + 1) (rAdd F i (a i)) else rBefore a k n (i + 1) F) else rBefore a k n (i + 1) F
/-- addBehindOne, next at i -/
def rBehind1 (b : Nat → Nat) (from_ to k : Nat) : Nat → Nat → (Nat → Nat) → (Nat → Nat)
  | 0, _, F => F
  | n + 1, i, F => if (i : Int) - to - 1 ≤ k then (if b i ≠ 30 then rBehind1 b from_ to k n (i + 1) (rAdd F from_ (b i)) else rBehind1 b from_ to k n (i + 1) F) else F
def rBehind (a b : Nat → Nat) (k : Nat) : Nat → Nat → (Nat → Nat) → (Nat → Nat)
  | 0, _, F => F
  | n + 1, i, F => if a i ≠ 30 then rBehind a b k n (i + 1) (rBehind1 b i (a i) k (29 - a i) (a i + 1) F) else rBehind a b k n (i + 1) F
/-- addBothOfOne -/
def rBoth1 (b : Nat → Nat) (from_ to k : Nat) : Nat → Nat → (Nat → Nat) → (Nat → Nat)
  | 0, _, F => F
  | n + 1, i, F => if b i ≠ 30 then (if max to (b i) + 1 ≤ k + min from_ i then rBoth1 b from_ to k n (i + 1) (rAdd F (min from_ i) (max to (b i))) else rBoth1 b from_ to k n (i + 1) F) else rBoth1 b from_ to k n (i + 1) F
def rBoth (a b : Nat → Nat) (k : Nat) : Nat → Nat → (Nat → Nat) → (Nat → Nat)
  | 0, _, F => F
  | n + 1, i, F => if a i ≠ 30 then rBoth a b k n (i + 1) (rBoth1 b i (a i) k 30 0 F) else rBoth a b k n (i + 1) F
/-- hasWithin, hasAround, hasNear: from place i on -/
def rHW (b : Nat → Nat) (high : Nat) : Nat → Nat → Bool
  | 0, _ => false
  | n + 1, i => if b i ≠ 30 then (if b i ≤ high then true else rHW b high n (i + 1)) else rHW b high n (i + 1)
def rHA (b : Nat → Nat) (low high : Nat) : Nat → Nat → Bool
  | 0, _ => false
  | n + 1, i => if i ≤ low then (if b i ≠ 30 then (if high ≤ b i then true else rHA b low high n (i + 1)) else rHA b low high n (i + 1)) else false
def rHN (b : Nat → Nat) (low high : Nat) (k : Int) : Nat → Nat → Bool
  | 0, _ => false
  | n + 1, i => if b i ≠ 30 then (if (i : Int) - high - 1 ≤ k then (if (low : Int) - b i - 1 ≤ k then true else rHN b low high k n (i + 1)) else rHN b low high k n (i + 1)) else rHN b low high k n (i + 1)
def rHolding (a b : Nat → Nat) : Nat → Nat → (Nat → Nat) → (Nat → Nat)
  | 0, _, F => F
  | n + 1, i, F => if a i ≠ 30 then (if rHW b (a i) (30 - i) i = true then rHolding a b n (i + 1) (rAdd F i (a i)) else rHolding a b n (i + 1) F) else rHolding a b n (i + 1) F
def rIn (a b : Nat → Nat) : Nat → Nat → (Nat → Nat) → (Nat → Nat)
  | 0, _, F => F
  | n + 1, i, F => if a i ≠ 30 then (if rHA b i (a i) 30 0 = true then rIn a b n (i + 1) (rAdd F i (a i)) else rIn a b n (i + 1) F) else rIn a b n (i + 1) F
def rNear (a b : Nat → Nat) (k : Int) (want : Bool) : Nat → Nat → (Nat → Nat) → (Nat → Nat)
  | 0, _, F => F
  | n + 1, i, F => if a i ≠ 30 then (if rHN b i (a i) k 30 0 = want then rNear a b k want n (i + 1) (rAdd F i (a i)) else rNear a b k want n (i + 1) F) else rNear a b k want n (i + 1) F
theorem rBegin_bd (F : Nat → Nat) (k : Int) : ∀ (n i b : Nat), i + n ≤ 30 → -1 ≤ rBegin F k n i b ∧ rBegin F k n i b < 30
  | 0, i, b, h => by unfold rBegin; omega
  | n + 1, i, b, h => by
    have h1 := rBegin_bd F k n (i + 1) (b + 1) (by omega)
    have h2 := rBegin_bd F k n (i + 1) b (by omega)
    unfold rBegin
    repeat' split
    all_goals omega
theorem r_bd_rWith {t : Nat → Nat} {set : Nat} : ∀ {n i : Nat} {F : Nat → Nat}, i + n ≤ 30 → (∀ j, F j ≤ 30) → ∀ j, rWith t set n i F j ≤ 30
  | 0, _, _, _, hF => hF
  | n + 1, i, F, h, hF => by
    unfold rWith
    split
    · exact r_bd_rWith (by omega) (rAdd_le hF (by omega))
    · exact r_bd_rWith (by omega) hF
theorem r_bd_rGrown {F a : Nat → Nat} (hF : ∀ j, F j ≤ 30) (ha : ∀ j, a j ≤ 30) {k : Nat} : ∀ {n i : Nat}, ∀ j, rGrown a k n i F j ≤ 30 := by
  intro n
  induction n generalizing F with
  | zero => intro i; exact hF
  | succ n ih =>
    intro i
    unfold rGrown
    split
    · exact ih (rAdd_le hF (ha i))
    · exact ih hF
theorem r_bd_rBefore {F a : Nat → Nat} (hF : ∀ j, F j ≤ 30) (ha : ∀ j, a j ≤ 30) {k : Nat} : ∀ {n i : Nat}, ∀ j, rBefore a k n i F j ≤ 30 := by
  intro n
  induction n generalizing F with
  | zero => intro i; exact hF
  | succ n ih =>
    intro i
    unfold rBefore
    repeat' split
    · exact ih (rAdd_le hF (ha i))
    · exact ih hF
    · exact ih hF
theorem r_bd_rBehind1 {F b : Nat → Nat} (hF : ∀ j, F j ≤ 30) (hb : ∀ j, b j ≤ 30) {f t k : Nat} : ∀ {n i : Nat}, ∀ j, rBehind1 b f t k n i F j ≤ 30 := by
  intro n
  induction n generalizing F with
  | zero => intro i; exact hF
  | succ n ih =>
    intro i
    unfold rBehind1
    repeat' split
    · exact ih (rAdd_le hF (hb i))
    · exact ih hF
    · exact hF
theorem r_bd_rBehind {F a b : Nat → Nat} (hF : ∀ j, F j ≤ 30) (hb : ∀ j, b j ≤ 30) {k : Nat} : ∀ {n i : Nat}, ∀ j, rBehind a b k n i F j ≤ 30 := by
  intro n
  induction n generalizing F with
  | zero => intro i; exact hF
  | succ n ih =>
    intro i
    unfold rBehind
    split
    · exact ih (r_bd_rBehind1 hF hb)
    · exact ih hF
theorem r_bd_rBoth1 {F b : Nat → Nat} (hF : ∀ j, F j ≤ 30) (hb : ∀ j, b j ≤ 30) {f t k : Nat} (ht : t ≤ 30) : ∀ {n i : Nat}, ∀ j, rBoth1 b f t k n i F j ≤ 30 := by
  intro n
  induction n generalizing F with
  | zero => intro i; exact hF
  | succ n ih =>
    intro i
    have := hb i
    unfold rBoth1
    repeat' split
    · exact ih (rAdd_le hF (by omega))
    · exact ih hF
    · exact ih hF
theorem r_bd_rBoth {F a b : Nat → Nat} (hF : ∀ j, F j ≤ 30) (ha : ∀ j, a j ≤ 30) (hb : ∀ j, b j ≤ 30) {k : Nat} : ∀ {n i : Nat}, ∀ j, rBoth a b k n i F j ≤ 30 := by
  intro n
  induction n generalizing F with
  | zero => intro i; exact hF
  | succ n ih =>
    intro i
    unfold rBoth
    split
    · exact ih (r_bd_rBoth1 hF hb (ha i))
    · exact ih hF
theorem r_bd_rHolding {F a b : Nat → Nat} (hF : ∀ j, F j ≤ 30) (ha : ∀ j, a j ≤ 30) : ∀ {n i : Nat}, ∀ j, rHolding a b n i F j ≤ 30 := by
  intro n
  induction n generalizing F with
  | zero => intro i; exact hF
  | succ n ih =>
    intro i
    unfold rHolding
    repeat' split
    · exact ih (rAdd_le hF (ha i))
    · exact ih hF
    · exact ih hF
theorem r_bd_rIn {F a b : Nat → Nat} (hF : ∀ j, F j ≤ 30) (ha : ∀ j, a j ≤ 30) : ∀ {n i : Nat}, ∀ j, rIn a b n i F j ≤ 30 := by
  intro n
  induction n generalizing F with
  | zero => intro i; exact hF
  | succ n ih =>
    intro i
    unfold rIn
    repeat' split
    · exact ih (rAdd_le hF (ha i))
    · exact ih hF
    · exact ih hF
theorem r_bd_rNear {F a b : Nat → Nat} (hF : ∀ j, F j ≤ 30) (ha : ∀ j, a j ≤ 30) {k : Int} {w : Bool} : ∀ {n i : Nat}, ∀ j, rNear a b k w n i F j ≤ 30 := by
  intro n
  induction n generalizing F with
  | zero => intro i; exact hF
  | succ n ih =>
    intro i
    unfold rNear
    repeat' split
    · exact ih (rAdd_le hF (ha i))
    · exact ih hF
    · exact ih hF
theorem r_bd_rKL {F : Nat → Nat} (hF : ∀ j, F j ≤ 30) : ∀ {n : Nat} {le : Nat}, ∀ j, rKL n F le j ≤ 30 := by
  intro n
  induction n generalizing F with
  | zero => intro le; exact hF
  | succ n ih =>
    intro le
    unfold rKL
    split
    · exact ih hF
    · exact ih (k_upB hF (Nat.le_refl 30))
