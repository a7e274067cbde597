/-! the reference's loops -/
theorem mPair_adds (kd : Nat) (n : Int) (i j x y : Nat) : adds (fun F => mPair kd n F i j x y) (fun u v => ((kd = 2 ∨ kd = 3) ∧ j < x ∧ (x : Int) - j - 1 ≤ n ∧ u = i ∧ v = y) ∨ (kd = 3 ∧ y < i ∧ (i : Int) - y - 1 ≤ n ∧ u = x ∧ v = j) ∨ (kd = 4 ∧ ((max j y : Nat) : Int) - ((min i x : Nat) : Int) + 1 ≤ n ∧ u = min i x ∧ v = max j y) ∨ (((kd = 5 ∧ i ≤ x ∧ y ≤ j) ∨ (kd = 6 ∧ x ≤ i ∧ j ≤ y) ∨ (kd = 7 ∧ mGap i j x y < 0)) ∧ u = i ∧ v = j)) := by
  unfold mPair
  refine adds_iff (adds_ite (c := kd = 2 ∨ kd = 3) (adds_comp (adds_if (c := j < x ∧ (x : Int) - j - 1 ≤ n) (adds_rAdd i y)) (adds_if (c := kd = 3 ∧ y < i ∧ (i : Int) - y - 1 ≤ n) (adds_rAdd x j))) (adds_ite (c := kd = 4) (adds_if (c := ((max j y : Nat) : Int) - ((min i x : Nat) : Int) + 1 ≤ n) (adds_rAdd (min i x) (max j y))) (adds_if (c := (kd = 5 ∧ i ≤ x ∧ y ≤ j) ∨ (kd = 6 ∧ x ≤ i ∧ j ≤ y) ∨ (kd = 7 ∧ mGap i j x y < 0)) (adds_rAdd i j)))) (fun u v => ?_)
  generalize mGap i j x y = g
  constructor
  · rintro (⟨h, ⟨⟨h1, h2⟩, h3⟩ | ⟨⟨h1, h2⟩, h3⟩⟩ | ⟨h, ⟨h1, h2, h3⟩ | ⟨h1, h2, h3⟩⟩)
    · exact Or.inl ⟨h, h1, h2, h3⟩
    · exact Or.inr (Or.inl ⟨h1, h2.1, h2.2, h3⟩)
    · exact Or.inr (Or.inr (Or.inl ⟨h1, h2, h3⟩))
    · exact Or.inr (Or.inr (Or.inr ⟨h2, h3⟩))
  · rintro (⟨h, h1, h2, h3⟩ | ⟨h, h1, h2, h3⟩ | ⟨h, h1, h3⟩ | ⟨h, h3⟩)
    · exact Or.inl ⟨h, Or.inl ⟨⟨h1, h2⟩, h3⟩⟩
    · exact Or.inl ⟨Or.inr h, Or.inr ⟨⟨h, h1, h2⟩, h3⟩⟩
    · exact Or.inr ⟨by omega, Or.inl ⟨h, h1, h3⟩⟩
    · exact Or.inr ⟨by omega, Or.inr ⟨by omega, h, h3⟩⟩
theorem mAlone_adds (kd : Nat) (n : Int) (b : Nat → Nat) (i j : Nat) : adds (fun F => mAlone kd n b F i j) (fun u v => ((kd = 1 ∨ (kd = 8 ∧ mFar b n i j 30 0 1 = 1) ∨ (kd = 9 ∧ (j : Int) < n)) ∧ u = i ∧ v = j) ∨ (kd = 10 ∧ u = ((i : Int) - n).toNat ∧ v = j)) := by
  unfold mAlone
  refine adds_iff (adds_ite (c := kd = 1 ∨ (kd = 8 ∧ mFar b n i j 30 0 1 = 1) ∨ (kd = 9 ∧ (j : Int) < n)) (adds_rAdd i j) (adds_if (c := kd = 10) (adds_rAdd ((i : Int) - n).toNat j))) (fun u v => ?_)
  generalize mFar b n i j 30 0 1 = g
  constructor
  · rintro (⟨h, h3⟩ | ⟨h, h1, h3⟩)
    · exact Or.inl ⟨h, h3⟩
    · exact Or.inr ⟨h1, h3⟩
  · rintro (⟨h, h3⟩ | ⟨h, h3⟩)
    · exact Or.inl ⟨h, h3⟩
    · exact Or.inr ⟨by omega, h, h3⟩
theorem mInner_k {kd : Nat} {n : Int} {b : Nat → Nat} {i j : Nat} : ∀ (c x : Nat) (F : Nat → Nat), mInner kd n b i j c x F = kLoop (fun x F => if j ≠ 30 ∧ b x ≠ 30 then mPair kd n F i j x (b x) else F) c x F
  | 0, _, _ => rfl
  | c + 1, x, F => by unfold mInner; exact mInner_k c (x + 1) _
theorem mOuter_k {kd : Nat} {n : Int} {a b : Nat → Nat} : ∀ (c i : Nat) (F : Nat → Nat), mOuter kd n a b c i F = kLoop (mRow kd n a b) c i F
  | 0, _, _ => rfl
  | c + 1, i, F => by unfold mOuter; exact mOuter_k c (i + 1) _
/-- what row i of a adds, by kind -/
def qRow (kd : Nat) (n : Int) (a b : Nat → Nat) (i u v : Nat) : Prop :=
  ((a i ≠ 30 ∧ (((kd = 1 ∨ (kd = 8 ∧ mFar b n i (a i) 30 0 1 = 1) ∨ (kd = 9 ∧ (a i : Int) < n)) ∧ u = i ∧ v = a i) ∨ (kd = 10 ∧ u = ((i : Int) - n).toNat ∧ v = a i))) ∨
   ((kd < 8 ∧ 1 < kd) ∧ ∃ x, 0 ≤ x ∧ x < 0 + 30 ∧ ((a i ≠ 30 ∧ b x ≠ 30) ∧ (((kd = 2 ∨ kd = 3) ∧ a i < x ∧ (x : Int) - a i - 1 ≤ n ∧ u = i ∧ v = b x) ∨ (kd = 3 ∧ b x < i ∧ (i : Int) - b x - 1 ≤ n ∧ u = x ∧ v = a i) ∨ (kd = 4 ∧ ((max (a i) (b x) : Nat) : Int) - ((min i x : Nat) : Int) + 1 ≤ n ∧ u = min i x ∧ v = max (a i) (b x)) ∨ (((kd = 5 ∧ i ≤ x ∧ b x ≤ a i) ∨ (kd = 6 ∧ x ≤ i ∧ a i ≤ b x) ∨ (kd = 7 ∧ mGap i (a i) x (b x) < 0)) ∧ u = i ∧ v = a i))))) ∨
  ((kd = 1 ∧ b i ≠ 30) ∧ u = i ∧ v = b i)
theorem mRow_adds (kd : Nat) (n : Int) (a b : Nat → Nat) (i : Nat) : adds (mRow kd n a b i) (qRow kd n a b i) := by
  have h0 := adds_kLoop (b := fun x F => if a i ≠ 30 ∧ b x ≠ 30 then mPair kd n F i (a i) x (b x) else F) (fun x => adds_if (c := a i ≠ 30 ∧ b x ≠ 30) (mPair_adds kd n i (a i) x (b x))) 30 0
  have hin := adds_ext (o2 := fun F => mInner kd n b i (a i) 30 0 F) h0 (fun F => mInner_k 30 0 F)
  have h9 := adds_comp (adds_comp (adds_if (c := a i ≠ 30) (mAlone_adds kd n b i (a i))) (adds_if (c := kd < 8 ∧ 1 < kd) hin)) (adds_if (c := kd = 1 ∧ b i ≠ 30) (adds_rAdd i (b i)))
  exact adds_ext h9 (fun F => rfl)
theorem mOuter_adds (kd : Nat) (n : Int) (a b : Nat → Nat) : adds (fun F => mOuter kd n a b 30 0 F) (fun u v => ∃ i, 0 ≤ i ∧ i < 0 + 30 ∧ qRow kd n a b i u v) := by
  intro F j w
  dsimp only
  rw [mOuter_k]
  exact adds_kLoop (mRow_adds kd n a b) 30 0 F j w
theorem mFar_iff {b : Nat → Nat} {n : Int} {i j : Nat} : ∀ (c x far : Nat), far ≤ 1 → (mFar b n i j c x far = 1 ↔ far = 1 ∧ ∀ y : Nat, x ≤ y → y < x + c → b y ≠ 30 → 0 ≤ mGap i j y (b y) ∧ n < mGap i j y (b y))
  | 0, x, far, _ => ⟨fun h => ⟨h, fun y _ _ => by omega⟩, fun h => h.1⟩
  | c + 1, x, far, hf => by
    unfold mFar
    by_cases h1 : b x ≠ 30
    · rw [if_pos h1, mFar_iff c (x + 1) _ (by split <;> omega)]
      constructor
      · rintro ⟨h, h2⟩
        split at h
        · rename_i h3
          refine ⟨by omega, fun y a1 a2 a3 => ?_⟩
          by_cases e : y = x
          · subst e; exact h3.2
          · exact h2 y (by omega) (by omega) a3
        · omega
      · rintro ⟨h, h2⟩
        have h3 := h2 x (Nat.le_refl _) (by omega) h1
        rw [if_pos ⟨by omega, h3⟩]
        exact ⟨rfl, fun y a1 a2 a3 => h2 y (by omega) (by omega) a3⟩
    · rw [if_neg h1, mFar_iff c (x + 1) far hf]
      constructor
      · rintro ⟨h, h2⟩
        refine ⟨h, fun y a1 a2 a3 => ?_⟩
        by_cases e : y = x
        · subst e; exact absurd a3 h1
        · exact h2 y (by omega) (by omega) a3
      · rintro ⟨h, h2⟩
        exact ⟨h, fun y a1 a2 a3 => h2 y (by omega) (by omega) a3⟩
/-- a row: each end behind its begin -/
def rWF (F : Nat → Nat) : Prop := ∀ j, F j ≤ 30 ∧ (F j ≠ 30 → j ≤ F j)
theorem k_bit1 (t n : Nat) : t &&& 2 ^ n ≠ 0 ↔ t / 2 ^ n % 2 = 1 := by
  have h : (t &&& 2 ^ n).testBit n = t.testBit n := by
    rw [Nat.testBit_and, Nat.testBit_two_pow_self, Bool.and_true]
  constructor
  · intro h0
    cases hb : t.testBit n with
    | true => rw [Nat.testBit_eq_decide_div_mod_eq] at hb; exact of_decide_eq_true hb
    | false =>
      exfalso
      apply h0
      apply Nat.eq_of_testBit_eq
      intro i
      rw [Nat.testBit_and, Nat.zero_testBit]
      by_cases e : n = i
      · subst e; rw [hb, Bool.false_and]
      · rw [Nat.testBit_two_pow_of_ne e, Bool.and_false]
  · intro h1 h0
    rw [h0, Nat.zero_testBit, Nat.testBit_eq_decide_div_mod_eq, decide_eq_true h1] at h
    exact absurd h (by decide)
