/-! the reference's phrase -/
def gFree (pl : Nat → Int) (se : Nat → Nat) (s : Nat) (p : Int) : Nat → Nat → Bool
  | 0, _ => true
  | c + 1, i => if pl i = p then (if se i &&& se s ≠ 0 then false else gFree pl se s p c (i + 1)) else gFree pl se s p c (i + 1)
def gFit (t se : Nat → Nat) (pl : Nat → Int) (s p : Nat) : Bool := decide (t p &&& se s ≠ 0) && gFree pl se s p s 0
/-- the next place from p on that fits -/
def gNext (t se : Nat → Nat) (pl : Nat → Int) (s : Nat) : Nat → Nat → Nat
  | 0, p => p
  | c + 1, p => if gFit t se pl s p = true then p else gNext t se pl s c (p + 1)
theorem gNext_le {t se : Nat → Nat} {pl : Nat → Int} {s : Nat} : ∀ {c p : Nat}, p + c ≤ 30 → gNext t se pl s c p ≤ 30
  | 0, p, h => h
  | c + 1, p, h => by
    unfold gNext
    split
    · omega
    · exact gNext_le (by omega)
def gSum (pl : Nat → Int) (of : Nat → Nat) (m : Int) : Nat → Nat → Int → Int
  | 0, _, acc => acc
  | c + 1, i, acc => gSum pl of m c (i + 1) (acc + ((pl i - (of i : Int) - m).natAbs : Int))
def gBest (pl : Nat → Int) (of : Nat → Nat) (np : Nat) : Nat → Nat → Int → Int
  | 0, _, best => best
  | c + 1, i, best => gBest pl of np c (i + 1) (if gSum pl of ((i : Int) - 9) np 0 0 < best then gSum pl of ((i : Int) - 9) np 0 0 else best)
def gMoved (pl : Nat → Int) (of : Nat → Nat) (np : Nat) : Int := gBest pl of np 39 0 1000000
def gFrom (pl : Nat → Int) : Nat → Nat → Int → Int
  | 0, _, f => f
  | c + 1, i, f => gFrom pl c (i + 1) (if pl i < f then pl i else f)
def gTo (pl : Nat → Int) : Nat → Nat → Int → Int
  | 0, _, f => f
  | c + 1, i, f => gTo pl c (i + 1) (if f < pl i then pl i else f)
def gCopy (pl : Nat → Int) : Nat → Nat → (Nat → Int) → (Nat → Int)
  | 0, _, f => f
  | c + 1, i, f => gCopy pl c (i + 1) (va_up f i (pl i))
/-- many, choices, least, first, shortest from, to -/
abbrev GC : Type := (Nat → Nat) × Nat × Int × (Nat → Int) × Int × Int
def gChoose (of : Nat → Nat) (np : Nat) (pl : Nat → Int) (C : GC) : GC :=
  (va_up C.1 (gMoved pl of np).toNat (C.1 (gMoved pl of np).toNat + 1),
   C.2.1 + 1,
   if C.2.1 = 0 ∨ gMoved pl of np < C.2.2.1 then gMoved pl of np else C.2.2.1,
   if C.2.1 = 0 ∨ gMoved pl of np < C.2.2.1 then gCopy pl np 0 C.2.2.2.1 else C.2.2.2.1,
   if C.2.1 = 0 ∨ gTo pl np 0 (-1) - gFrom pl np 0 30 < C.2.2.2.2.2 - C.2.2.2.2.1 ∨ (gTo pl np 0 (-1) - gFrom pl np 0 30 = C.2.2.2.2.2 - C.2.2.2.2.1 ∧ gFrom pl np 0 30 < C.2.2.2.2.1) then gFrom pl np 0 30 else C.2.2.2.2.1,
   if C.2.1 = 0 ∨ gTo pl np 0 (-1) - gFrom pl np 0 30 < C.2.2.2.2.2 - C.2.2.2.2.1 ∨ (gTo pl np 0 (-1) - gFrom pl np 0 30 = C.2.2.2.2.2 - C.2.2.2.2.1 ∧ gFrom pl np 0 30 < C.2.2.2.2.1) then gTo pl np 0 (-1) else C.2.2.2.2.2)
/-- where the search stands: slot, places, what was found -/
abbrev GS : Type := Int × (Nat → Int) × GC
def gStep (t of se : Nat → Nat) (np : Nat) (X : GS) : GS :=
  (fun p : Nat => if p = 30 then (X.1 - 1, va_up X.2.1 X.1.toNat (p : Int), X.2.2)
    else if X.1 = (np : Int) - 1 then (X.1, va_up X.2.1 X.1.toNat (p : Int), gChoose of np (va_up X.2.1 X.1.toNat (p : Int)) X.2.2)
    else (X.1 + 1, va_up (va_up X.2.1 X.1.toNat (p : Int)) (X.1.toNat + 1) (-1), X.2.2))
  (gNext t se X.2.1 X.1.toNat (30 - (X.2.1 X.1.toNat + 1).toNat) (X.2.1 X.1.toNat + 1).toNat)
def gRun (t of se : Nat → Nat) (np : Nat) : Nat → GS → GS
  | 0, X => X
  | c + 1, X => if X.1 < 0 then X else gRun t of se np c (gStep t of se np X)
theorem gSum_bd {pl : Nat → Int} {of : Nat → Nat} {m : Int} (hpl : ∀ j, -1 ≤ pl j ∧ pl j ≤ 30) (hof : ∀ j, of j ≤ 9) (hm : -9 ≤ m ∧ m ≤ 30) : ∀ (c i : Nat) (acc : Int), 0 ≤ acc → acc ≤ gSum pl of m c i acc ∧ gSum pl of m c i acc ≤ acc + 40 * c
  | 0, _, acc, h => by unfold gSum; omega
  | c + 1, i, acc, h => by
    have h1 := hpl i
    have h2 := hof i
    have h3 := gSum_bd hpl hof hm c (i + 1) (acc + ((pl i - (of i : Int) - m).natAbs : Int)) (by omega)
    unfold gSum
    omega
theorem gBest_bd {pl : Nat → Int} {of : Nat → Nat} {np : Nat} (hpl : ∀ j, -1 ≤ pl j ∧ pl j ≤ 30) (hof : ∀ j, of j ≤ 9) (hnp : np ≤ 4) : ∀ (c i : Nat) (best : Int), i + c ≤ 39 → 0 ≤ best → 0 ≤ gBest pl of np c i best ∧ gBest pl of np c i best ≤ best
  | 0, _, best, _, h => by unfold gBest; omega
  | c + 1, i, best, hi, h => by
    have h1 := gSum_bd hpl hof (m := (i : Int) - 9) (by omega) np 0 0 (by omega)
    have h2 := gBest_bd hpl hof hnp c (i + 1) (if gSum pl of ((i : Int) - 9) np 0 0 < best then gSum pl of ((i : Int) - 9) np 0 0 else best) (by omega) (by split <;> omega)
    unfold gBest
    refine ⟨h2.1, Int.le_trans h2.2 ?_⟩
    split <;> omega
theorem gMoved_bd {pl : Nat → Int} {of : Nat → Nat} {np : Nat} (hpl : ∀ j, -1 ≤ pl j ∧ pl j ≤ 30) (hof : ∀ j, of j ≤ 9) (hnp : np ≤ 4) : 0 ≤ gMoved pl of np ∧ gMoved pl of np ≤ 160 := by
  have h1 := gSum_bd hpl hof (m := ((0 : Nat) : Int) - 9) (by omega) np 0 0 (by omega)
  unfold gMoved
  rw [gBest]
  have h2 := gBest_bd hpl hof hnp 38 1 (if gSum pl of (((0 : Nat) : Int) - 9) np 0 0 < 1000000 then gSum pl of (((0 : Nat) : Int) - 9) np 0 0 else 1000000) (by omega) (by split <;> omega)
  refine ⟨h2.1, Int.le_trans h2.2 ?_⟩
  rw [if_pos (by omega)]
  omega
theorem gFrom_bd {pl : Nat → Int} (hpl : ∀ j, -1 ≤ pl j ∧ pl j ≤ 30) : ∀ (c i : Nat) (f : Int), -1 ≤ f ∧ f ≤ 30 → -1 ≤ gFrom pl c i f ∧ gFrom pl c i f ≤ 30
  | 0, _, f, h => h
  | c + 1, i, f, h => by
    have := hpl i
    unfold gFrom
    exact gFrom_bd hpl c (i + 1) _ (by split <;> omega)
theorem gTo_bd {pl : Nat → Int} (hpl : ∀ j, -1 ≤ pl j ∧ pl j ≤ 30) : ∀ (c i : Nat) (f : Int), -1 ≤ f ∧ f ≤ 30 → -1 ≤ gTo pl c i f ∧ gTo pl c i f ≤ 30
  | 0, _, f, h => h
  | c + 1, i, f, h => by
    have := hpl i
    unfold gTo
    exact gTo_bd hpl c (i + 1) _ (by split <;> omega)
/-- what holds of the search's numbers at any time -/
def gOK (C : GC) : Prop := (-1 ≤ C.2.2.1 ∧ C.2.2.1 ≤ 1000) ∧ (-1 ≤ C.2.2.2.2.1 ∧ C.2.2.2.2.1 ≤ 30) ∧ (-1 ≤ C.2.2.2.2.2 ∧ C.2.2.2.2.2 ≤ 30)
theorem gChoose_ok {of : Nat → Nat} {np : Nat} {pl : Nat → Int} {C : GC} (hpl : ∀ j, -1 ≤ pl j ∧ pl j ≤ 30) (hof : ∀ j, of j ≤ 9) (hnp : np ≤ 4) (h : gOK C) : gOK (gChoose of np pl C) := by
  have h1 := gMoved_bd hpl hof hnp
  have h2 := gFrom_bd hpl np 0 30 (by omega)
  have h3 := gTo_bd hpl np 0 (-1) (by omega)
  obtain ⟨a, b, c⟩ := h
  unfold gChoose gOK
  dsimp only
  refine ⟨?_, ?_, ?_⟩
  · split <;> omega
  · split <;> omega
  · split <;> omega
section GST
variable {t of se : Nat → Nat} {np : Nat} {s : Int} {pl : Nat → Int} {C : GC} {p : Nat}
theorem gStep_1 (e : gNext t se pl s.toNat (30 - (pl s.toNat + 1).toNat) (pl s.toNat + 1).toNat = p) (h : p = 30) : gStep t of se np (s, pl, C) = (s - 1, va_up pl s.toNat (p : Int), C) := by
  unfold gStep; dsimp only; rw [e]; exact if_pos h
theorem gStep_2 (e : gNext t se pl s.toNat (30 - (pl s.toNat + 1).toNat) (pl s.toNat + 1).toNat = p) (h : ¬ p = 30) (h2 : s = (np : Int) - 1) : gStep t of se np (s, pl, C) = (s, va_up pl s.toNat (p : Int), gChoose of np (va_up pl s.toNat (p : Int)) C) := by
  unfold gStep; dsimp only; rw [e]; exact (if_neg h).trans (if_pos h2)
theorem gStep_3 (e : gNext t se pl s.toNat (30 - (pl s.toNat + 1).toNat) (pl s.toNat + 1).toNat = p) (h : ¬ p = 30) (h2 : ¬ s = (np : Int) - 1) : gStep t of se np (s, pl, C) = (s + 1, va_up (va_up pl s.toNat (p : Int)) (s.toNat + 1) (-1), C) := by
  unfold gStep; dsimp only; rw [e]; exact (if_neg h).trans (if_neg h2)
end GST
theorem k_upZ {F : Nat → Int} {i : Nat} {v : Int} (hF : ∀ j, -1 ≤ F j ∧ F j ≤ 30) (hv : -1 ≤ v ∧ v ≤ 30) : ∀ j, -1 ≤ va_up F i v j ∧ va_up F i v j ≤ 30 := by
  intro j; unfold va_up; split
  · exact hv
  · exact hF j
theorem gRun_neg {t of se : Nat → Nat} {np : Nat} {s : Int} {R : ((Nat → Int) × GC)} : ∀ {u : Nat}, s < 0 → gRun t of se np u (s, R) = (s, R)
  | 0, _ => rfl
  | u + 1, h => by rw [gRun]; exact if_pos h
theorem gRun_go {t of se : Nat → Nat} {np : Nat} {s : Int} {R : ((Nat → Int) × GC)} {u : Nat} (h : ¬ s < 0) : gRun t of se np (u + 1) (s, R) = gRun t of se np u (gStep t of se np (s, R)) := by
  rw [gRun]; exact if_neg h
/-- places, many, choices, least, first, shortest from, to: behind know -/
abbrev KN : Type := (Nat → Int) × GC
def knowF (kn np : Nat) (t of se : Nat → Nat) (N : Nat) (Y : KN) : KN :=
  if kn ≠ 0 then Y else if np = 0 then (va_up Y.1 0 (-1), (fun _ => 0), 0, Y.2.2.2) else (gRun t of se np N (0, va_up Y.1 0 (-1), (fun _ => 0), 0, Y.2.2.2)).2
