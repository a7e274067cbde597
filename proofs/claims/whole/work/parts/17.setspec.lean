/-- what settle leaves: places of each slot, tried, first choice, counts, least, shortest -/
abbrev SET : Type := (Nat → Nat) × (Nat → Nat → Nat) × (Nat → Nat) × (Nat → Nat) × (Nat → Nat) × Nat × Int × Int
def setGo (np : Nat) (t of se : Nat → Nat) (Z : SET) : SET :=
  ((fAll t se np 0 Z.1 Z.2.1).1, (fAll t se np 0 Z.1 Z.2.1).2,
   (sT se (fAll t se np 0 Z.1 Z.2.1).1 (fAll t se np 0 Z.1 Z.2.1).2 np 0 30 (-1) ((sM of se (fAll t se np 0 Z.1 Z.2.1).1 (fAll t se np 0 Z.1 Z.2.1).2 np 0 0 (-9) 29 (Z.2.2.1, Z.2.2.2.1, fun _ => 0, 77)).1, 0, 30)).1,
   (sM of se (fAll t se np 0 Z.1 Z.2.1).1 (fAll t se np 0 Z.1 Z.2.1).2 np 0 0 (-9) 29 (Z.2.2.1, Z.2.2.2.1, fun _ => 0, 77)).2.1,
   (sM of se (fAll t se np 0 Z.1 Z.2.1).1 (fAll t se np 0 Z.1 Z.2.1).2 np 0 0 (-9) 29 (Z.2.2.1, Z.2.2.2.1, fun _ => 0, 77)).2.2.1,
   (sM of se (fAll t se np 0 Z.1 Z.2.1).1 (fAll t se np 0 Z.1 Z.2.1).2 np 0 0 (-9) 29 (Z.2.2.1, Z.2.2.2.1, fun _ => 0, 77)).2.2.2,
   (sT se (fAll t se np 0 Z.1 Z.2.1).1 (fAll t se np 0 Z.1 Z.2.1).2 np 0 30 (-1) ((sM of se (fAll t se np 0 Z.1 Z.2.1).1 (fAll t se np 0 Z.1 Z.2.1).2 np 0 0 (-9) 29 (Z.2.2.1, Z.2.2.2.1, fun _ => 0, 77)).1, 0, 30)).2.1,
   (sT se (fAll t se np 0 Z.1 Z.2.1).1 (fAll t se np 0 Z.1 Z.2.1).2 np 0 30 (-1) ((sM of se (fAll t se np 0 Z.1 Z.2.1).1 (fAll t se np 0 Z.1 Z.2.1).2 np 0 0 (-9) 29 (Z.2.2.1, Z.2.2.2.1, fun _ => 0, 77)).1, 0, 30)).2.2)
def settleF (sd np : Nat) (t of se : Nat → Nat) (Z : SET) : SET :=
  if sd ≠ 0 then Z else if np = 0 then (Z.1, Z.2.1, Z.2.2.1, Z.2.2.2.1, fun _ => 0, 77, 0, 30) else setGo np t of se Z
/-- what holds of these numbers at any time -/
def setOK (Z : SET) : Prop := (∀ j, Z.1 j ≤ 30) ∧ (∀ j i, Z.2.1 j i ≤ 30) ∧ (∀ j, Z.2.2.1 j ≤ 30) ∧ Z.2.2.2.2.2.1 ≤ 77 ∧ (-1 ≤ Z.2.2.2.2.2.2.1 ∧ Z.2.2.2.2.2.2.1 ≤ 30) ∧ (-1 ≤ Z.2.2.2.2.2.2.2 ∧ Z.2.2.2.2.2.2.2 ≤ 30)
theorem settleF_ok {sd np : Nat} {t of se : Nat → Nat} {Z : SET} (h : setOK Z) : setOK (settleF sd np t of se Z) := by
  unfold settleF
  repeat' split
  · exact h
  · exact ⟨h.1, h.2.1, h.2.2.1, by dsimp only; omega, by dsimp only; omega, by dsimp only; omega⟩
  · have h1 := fAll_bd (t := t) (se := se) np 0 Z.1 Z.2.1 ⟨h.1, h.2.1⟩
    have h2 := sM_bd (of := of) (se := se) (pc := (fAll t se np 0 Z.1 Z.2.1).1) h1.2 np 0 0 (-9) 29 (Z.2.2.1, Z.2.2.2.1, fun _ => 0, 77) ⟨h.2.2.1, by dsimp only; omega⟩
    have h3 := sT_bd (se := se) (pc := (fAll t se np 0 Z.1 Z.2.1).1) h1.2 np 0 30 (-1) ((sM of se (fAll t se np 0 Z.1 Z.2.1).1 (fAll t se np 0 Z.1 Z.2.1).2 np 0 0 (-9) 29 (Z.2.2.1, Z.2.2.2.1, fun _ => 0, 77)).1, 0, 30) (by omega) (by omega) ⟨h2.1, by dsimp only; omega, by dsimp only; omega⟩
    exact ⟨h1.1, h1.2, h3.1, h2.2, h3.2.1, h3.2.2⟩
/-- the answer of ask -/
def askR (n : Nat) (kind a b k : Int) : Int :=
  if ¬ (0 ≤ kind ∧ kind ≤ 10) then -2 else
  if (kind ≠ 1 ∧ kind ≠ 5 ∧ kind ≠ 6 ∧ kind ≠ 7) ∧ ¬ (0 ≤ k ∧ (kind = 0 ∧ k < 10 ∨ kind ≠ 0 ∧ k ≤ 30)) then -2 else
  if kind ≠ 0 ∧ ¬ (0 ≤ a ∧ a < n) then -1 else
  if (1 ≤ kind ∧ kind ≤ 8) ∧ ¬ (0 ≤ b ∧ b < n) then -1 else
  if n = 30 then -4 else n
def cFil (t : Nat → Nat) : Nat → Nat → Nat → Nat
  | 0, _, acc => acc
  | k + 1, i, acc => if t i ≠ 0 then cFil t k (i + 1) (acc + 1) else cFil t k (i + 1) acc
