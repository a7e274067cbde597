/-- what stands under a row, before the least ones are kept -/
def mUnder (t : Nat → Nat) (kd : Nat) (n : Int) (nn : Nat) (a b : Nat → Nat) : Nat → Nat := if kd = 0 then (fun p => mTerm t 0 nn p) else mOuter kd n a b 30 0 e30
theorem mTerm_le {t : Nat → Nat} {kd nn p : Nat} (h : p ≤ 30) : mTerm t kd nn p ≤ 30 := by unfold mTerm; split <;> omega
theorem mRow_le {kd : Nat} {n : Int} {a b : Nat → Nat} {i : Nat} {F : Nat → Nat} (ha : ∀ k, a k ≤ 30) (hb : ∀ k, b k ≤ 30) (hF : ∀ k, F k ≤ 30) : ∀ u, mRow kd n a b i F u ≤ 30 := by
  unfold mRow
  have h1 : ∀ u, (if a i ≠ 30 then mAlone kd n b F i (a i) else F) u ≤ 30 := by
    split
    · exact mAlone_le hF (ha i)
    · exact hF
  have h2 : ∀ u, (if kd < 8 ∧ 1 < kd then mInner kd n b i (a i) 30 0 (if a i ≠ 30 then mAlone kd n b F i (a i) else F) else (if a i ≠ 30 then mAlone kd n b F i (a i) else F)) u ≤ 30 := by
    by_cases h : kd < 8 ∧ 1 < kd
    · rw [if_pos h]; exact mInner_le hb (ha i) h1
    · rw [if_neg h]; exact h1
  dsimp only
  by_cases h : kd = 1 ∧ b i ≠ 30
  · rw [if_pos h]; exact rAdd_le h2 (hb i)
  · rw [if_neg h]; exact h2
theorem kM_ext {F G : Nat → Nat} {n : Nat} (h : ∀ j, j < n → F j = G j) : ∀ j, j < n → kM F j = kM G j := fun j hj => by unfold kM; rw [h j hj]
/-- the asks as the reference holds them, beside their numbers that count -/
def moOK (n : Nat) (K fi sc nn : Nat → Nat) (on ot nu : Nat → Int) : Prop := ∀ k, k < n → (K k ≠ 0 → on k = (fi k : Int)) ∧ (1 ≤ K k ∧ K k ≤ 8 → ot k = (sc k : Int)) ∧ (K k ≠ 1 ∧ K k ≠ 5 ∧ K k ≠ 6 ∧ K k ≠ 7 → nu k = (nn k : Int))
theorem mRow_no {kd : Nat} {n : Int} {a b : Nat → Nat} {i : Nat} {F F1 F3 : Nat → Nat} (e1 : F1 = if a i ≠ 30 then mAlone kd n b F i (a i) else F) (e3 : F3 = if kd < 8 ∧ 1 < kd then mInner kd n b i (a i) 30 0 F1 else F1) (h : ¬ (kd = 1 ∧ b i ≠ 30)) : mRow kd n a b i F = F3 := by
  unfold mRow; rw [← e1, ← e3]; exact if_neg h
theorem mRow_yes {kd : Nat} {n : Int} {a b : Nat → Nat} {i : Nat} {F F1 F3 : Nat → Nat} (e1 : F1 = if a i ≠ 30 then mAlone kd n b F i (a i) else F) (e3 : F3 = if kd < 8 ∧ 1 < kd then mInner kd n b i (a i) 30 0 F1 else F1) (h : kd = 1 ∧ b i ≠ 30) : mRow kd n a b i F = rAdd F3 i (b i) := by
  unfold mRow; rw [← e1, ← e3]; exact if_pos h
