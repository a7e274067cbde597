/-! ROWS: what is added to them, in whatever order -/
def adds (op : (Nat → Nat) → (Nat → Nat)) (P : Nat → Nat → Prop) : Prop := ∀ F j w, op F j ≤ w ↔ (F j ≤ w ∨ ∃ v, P j v ∧ v ≤ w)
theorem adds_rAdd (i v : Nat) : adds (fun F => rAdd F i v) (fun j x => j = i ∧ x = v) := by
  intro F j w
  dsimp only
  unfold rAdd
  constructor
  · intro h
    split at h
    · unfold va_up at h
      split at h
      · rename_i e; exact Or.inr ⟨v, ⟨e, rfl⟩, h⟩
      · exact Or.inl h
    · exact Or.inl h
  · rintro (h | ⟨x, ⟨rfl, rfl⟩, h⟩)
    · split
      · unfold va_up; split
        · rename_i e; subst e; omega
        · exact h
      · exact h
    · split
      · rw [va_up_self]; exact h
      · omega
theorem adds_comp {o1 o2 : (Nat → Nat) → (Nat → Nat)} {P Q : Nat → Nat → Prop} (h1 : adds o1 P) (h2 : adds o2 Q) : adds (fun F => o2 (o1 F)) (fun j v => P j v ∨ Q j v) := by
  intro F j w
  rw [h2 (o1 F) j w, h1 F j w]
  constructor
  · rintro ((h | ⟨v, h, h'⟩) | ⟨v, h, h'⟩)
    · exact Or.inl h
    · exact Or.inr ⟨v, Or.inl h, h'⟩
    · exact Or.inr ⟨v, Or.inr h, h'⟩
  · rintro (h | ⟨v, h | h, h'⟩)
    · exact Or.inl (Or.inl h)
    · exact Or.inl (Or.inr ⟨v, h, h'⟩)
    · exact Or.inr ⟨v, h, h'⟩
theorem adds_iff {o : (Nat → Nat) → (Nat → Nat)} {P Q : Nat → Nat → Prop} (h : adds o P) (e : ∀ j v, P j v ↔ Q j v) : adds o Q := by
  intro F j w
  rw [h F j w]
  constructor
  · rintro (h | ⟨v, h, h'⟩)
    · exact Or.inl h
    · exact Or.inr ⟨v, (e j v).mp h, h'⟩
  · rintro (h | ⟨v, h, h'⟩)
    · exact Or.inl h
    · exact Or.inr ⟨v, (e j v).mpr h, h'⟩
theorem adds_if {o : (Nat → Nat) → (Nat → Nat)} {P : Nat → Nat → Prop} {c : Prop} [Decidable c] (h : adds o P) : adds (fun F => if c then o F else F) (fun j v => c ∧ P j v) := by
  intro F j w
  dsimp only
  by_cases hc : c
  · rw [if_pos hc, h F j w]
    constructor
    · rintro (h | ⟨v, h, h'⟩)
      · exact Or.inl h
      · exact Or.inr ⟨v, ⟨hc, h⟩, h'⟩
    · rintro (h | ⟨v, ⟨_, h⟩, h'⟩)
      · exact Or.inl h
      · exact Or.inr ⟨v, h, h'⟩
  · rw [if_neg hc]
    constructor
    · exact Or.inl
    · rintro (h | ⟨v, ⟨h, _⟩, _⟩)
      · exact h
      · exact absurd h hc
theorem adds_ite {o1 o2 : (Nat → Nat) → (Nat → Nat)} {P Q : Nat → Nat → Prop} {c : Prop} [Decidable c] (h1 : adds o1 P) (h2 : adds o2 Q) : adds (fun F => if c then o1 F else o2 F) (fun j v => (c ∧ P j v) ∨ (¬ c ∧ Q j v)) := by
  by_cases hc : c
  · refine adds_iff (P := P) (fun F j w => ?_) (fun j v => ⟨fun h => Or.inl ⟨hc, h⟩, fun h => h.elim (fun h => h.2) (fun h => absurd hc h.1)⟩)
    rw [if_pos hc]; exact h1 F j w
  · refine adds_iff (P := Q) (fun F j w => ?_) (fun j v => ⟨fun h => Or.inr ⟨hc, h⟩, fun h => h.elim (fun h => absurd h.1 hc) (fun h => h.2)⟩)
    rw [if_neg hc]; exact h2 F j w
theorem adds_id : adds (fun F => F) (fun _ _ => False) := fun F j w => ⟨Or.inl, fun h => h.elim id (fun ⟨_, h, _⟩ => h.elim)⟩
theorem adds_kLoop {b : Nat → (Nat → Nat) → (Nat → Nat)} {Q : Nat → Nat → Nat → Prop} (hb : ∀ x, adds (b x) (Q x)) : ∀ (n i : Nat), adds (fun F => kLoop b n i F) (fun j v => ∃ x, i ≤ x ∧ x < i + n ∧ Q x j v)
  | 0, i => adds_iff adds_id (fun j v => ⟨fun h => h.elim, fun ⟨x, h1, h2, _⟩ => by omega⟩)
  | n + 1, i => by
    have h0 : adds (fun F => kLoop b (n + 1) i F) _ := adds_comp (o1 := b i) (o2 := fun F => kLoop b n (i + 1) F) (hb i) (adds_kLoop hb n (i + 1))
    refine adds_iff h0 (fun j v => ?_)
    constructor
    · rintro (h | ⟨x, h1, h2, h3⟩)
      · exact ⟨i, Nat.le_refl _, by omega, h⟩
      · exact ⟨x, by omega, by omega, h3⟩
    · rintro ⟨x, h1, h2, h3⟩
      by_cases e : x = i
      · subst e; exact Or.inl h3
      · exact Or.inr ⟨x, by omega, by omega, h3⟩
theorem adds_eq {o1 o2 : (Nat → Nat) → (Nat → Nat)} {P Q : Nat → Nat → Prop} (h1 : adds o1 P) (h2 : adds o2 Q) (e : ∀ j v, P j v ↔ Q j v) (F : Nat → Nat) : o1 F = o2 F := by
  funext j
  have k1 := fun w => (h1 F j w).trans ((adds_iff h2 (fun j v => (e j v).symm)) F j w).symm
  have a := (k1 (o2 F j)).mpr (Nat.le_refl _)
  have b := (k1 (o1 F j)).mp (Nat.le_refl _)
  omega
theorem adds_ext {o1 o2 : (Nat → Nat) → (Nat → Nat)} {P : Nat → Nat → Prop} (h : adds o1 P) (e : ∀ F, o2 F = o1 F) : adds o2 P := fun F j w => by rw [e F]; exact h F j w
/-! the class's loops -/
theorem rWith_k {t : Nat → Nat} {set : Nat} : ∀ (n i : Nat) (F : Nat → Nat), rWith t set n i F = kLoop (fun x F => if t x &&& set ≠ 0 then rAdd F x x else F) n i F
  | 0, _, _ => rfl
  | n + 1, i, F => by
    unfold rWith
    show _ = kLoop _ n (i + 1) (if t i &&& set ≠ 0 then rAdd F i i else F)
    split
    · exact rWith_k n (i + 1) _
    · exact rWith_k n (i + 1) _
theorem rGrown_k {a : Nat → Nat} {k : Nat} : ∀ (n i : Nat) (F : Nat → Nat), rGrown a k n i F = kLoop (fun x F => if a x ≠ 30 then rAdd F (x - k) (a x) else F) n i F
  | 0, _, _ => rfl
  | n + 1, i, F => by
    unfold rGrown
    show _ = kLoop _ n (i + 1) (if a i ≠ 30 then rAdd F (i - k) (a i) else F)
    split
    · exact rGrown_k n (i + 1) _
    · exact rGrown_k n (i + 1) _
theorem rBefore_k {a : Nat → Nat} {k : Nat} : ∀ (n i : Nat) (F : Nat → Nat), rBefore a k n i F = kLoop (fun x F => if a x ≠ 30 ∧ a x < k then rAdd F x (a x) else F) n i F
  | 0, _, _ => rfl
  | n + 1, i, F => by
    unfold rBefore
    show _ = kLoop _ n (i + 1) (if a i ≠ 30 ∧ a i < k then rAdd F i (a i) else F)
    by_cases h1 : a i ≠ 30
    · rw [if_pos h1]
      by_cases h2 : a i < k
      · rw [if_pos h2, if_pos ⟨h1, h2⟩]; exact rBefore_k n (i + 1) _
      · rw [if_neg h2, if_neg (fun h => h2 h.2)]; exact rBefore_k n (i + 1) _
    · rw [if_neg h1, if_neg (fun h => h1 h.1)]; exact rBefore_k n (i + 1) _
theorem kLoop_id {σ : Type} {b : Nat → σ → σ} : ∀ (n i : Nat) (S : σ), (∀ x, i ≤ x → ∀ S, b x S = S) → kLoop b n i S = S
  | 0, _, _, _ => rfl
  | n + 1, i, S, h => by
    show kLoop b n (i + 1) (b i S) = S
    rw [h i (Nat.le_refl _)]
    exact kLoop_id n (i + 1) S (fun x hx => h x (by omega))
theorem rBehind1_k {b : Nat → Nat} {f to k : Nat} : ∀ (n i : Nat) (F : Nat → Nat), rBehind1 b f to k n i F = kLoop (fun x F => if (x : Int) - to - 1 ≤ k ∧ b x ≠ 30 then rAdd F f (b x) else F) n i F
  | 0, _, _ => rfl
  | n + 1, i, F => by
    unfold rBehind1
    by_cases h1 : (i : Int) - to - 1 ≤ k
    · rw [if_pos h1]
      show _ = kLoop _ n (i + 1) (if (i : Int) - to - 1 ≤ k ∧ b i ≠ 30 then rAdd F f (b i) else F)
      by_cases h2 : b i ≠ 30
      · rw [if_pos h2, if_pos ⟨h1, h2⟩]; exact rBehind1_k n (i + 1) _
      · rw [if_neg h2, if_neg (fun h => h2 h.2)]; exact rBehind1_k n (i + 1) _
    · rw [if_neg h1]
      exact (kLoop_id (n + 1) i F (fun x hx S => if_neg (fun h => h1 (by have := h.1; omega)))).symm
theorem rBehind_k {a b : Nat → Nat} {k : Nat} : ∀ (n i : Nat) (F : Nat → Nat), rBehind a b k n i F = kLoop (fun x F => if a x ≠ 30 then kLoop (fun y F => if (y : Int) - (a x) - 1 ≤ k ∧ b y ≠ 30 then rAdd F x (b y) else F) (29 - a x) (a x + 1) F else F) n i F
  | 0, _, _ => rfl
  | n + 1, i, F => by
    unfold rBehind
    show _ = kLoop _ n (i + 1) (if a i ≠ 30 then kLoop (fun y F => if (y : Int) - (a i) - 1 ≤ k ∧ b y ≠ 30 then rAdd F i (b y) else F) (29 - a i) (a i + 1) F else F)
    split
    · rw [rBehind1_k]; exact rBehind_k n (i + 1) _
    · exact rBehind_k n (i + 1) _
theorem rBoth1_k {b : Nat → Nat} {f to k : Nat} : ∀ (n i : Nat) (F : Nat → Nat), rBoth1 b f to k n i F = kLoop (fun x F => if b x ≠ 30 ∧ max to (b x) + 1 ≤ k + min f x then rAdd F (min f x) (max to (b x)) else F) n i F
  | 0, _, _ => rfl
  | n + 1, i, F => by
    unfold rBoth1
    show _ = kLoop _ n (i + 1) (if b i ≠ 30 ∧ max to (b i) + 1 ≤ k + min f i then rAdd F (min f i) (max to (b i)) else F)
    by_cases h1 : b i ≠ 30
    · rw [if_pos h1]
      by_cases h2 : max to (b i) + 1 ≤ k + min f i
      · rw [if_pos h2, if_pos ⟨h1, h2⟩]; exact rBoth1_k n (i + 1) _
      · rw [if_neg h2, if_neg (fun h => h2 h.2)]; exact rBoth1_k n (i + 1) _
    · rw [if_neg h1, if_neg (fun h => h1 h.1)]; exact rBoth1_k n (i + 1) _
theorem rBoth_k {a b : Nat → Nat} {k : Nat} : ∀ (n i : Nat) (F : Nat → Nat), rBoth a b k n i F = kLoop (fun x F => if a x ≠ 30 then kLoop (fun y F => if b y ≠ 30 ∧ max (a x) (b y) + 1 ≤ k + min x y then rAdd F (min x y) (max (a x) (b y)) else F) 30 0 F else F) n i F
  | 0, _, _ => rfl
  | n + 1, i, F => by
    unfold rBoth
    show _ = kLoop _ n (i + 1) (if a i ≠ 30 then kLoop (fun y F => if b y ≠ 30 ∧ max (a i) (b y) + 1 ≤ k + min i y then rAdd F (min i y) (max (a i) (b y)) else F) 30 0 F else F)
    split
    · rw [rBoth1_k]; exact rBoth_k n (i + 1) _
    · exact rBoth_k n (i + 1) _
theorem rHolding_k {a b : Nat → Nat} : ∀ (n i : Nat) (F : Nat → Nat), rHolding a b n i F = kLoop (fun x F => if a x ≠ 30 ∧ rHW b (a x) (30 - x) x = true then rAdd F x (a x) else F) n i F
  | 0, _, _ => rfl
  | n + 1, i, F => by
    unfold rHolding
    show _ = kLoop _ n (i + 1) (if a i ≠ 30 ∧ rHW b (a i) (30 - i) i = true then rAdd F i (a i) else F)
    by_cases h1 : a i ≠ 30
    · rw [if_pos h1]
      by_cases h2 : rHW b (a i) (30 - i) i = true
      · rw [if_pos h2, if_pos ⟨h1, h2⟩]; exact rHolding_k n (i + 1) _
      · rw [if_neg h2, if_neg (fun h => h2 h.2)]; exact rHolding_k n (i + 1) _
    · rw [if_neg h1, if_neg (fun h => h1 h.1)]; exact rHolding_k n (i + 1) _
theorem rIn_k {a b : Nat → Nat} : ∀ (n i : Nat) (F : Nat → Nat), rIn a b n i F = kLoop (fun x F => if a x ≠ 30 ∧ rHA b x (a x) 30 0 = true then rAdd F x (a x) else F) n i F
  | 0, _, _ => rfl
  | n + 1, i, F => by
    unfold rIn
    show _ = kLoop _ n (i + 1) (if a i ≠ 30 ∧ rHA b i (a i) 30 0 = true then rAdd F i (a i) else F)
    by_cases h1 : a i ≠ 30
    · rw [if_pos h1]
      by_cases h2 : rHA b i (a i) 30 0 = true
      · rw [if_pos h2, if_pos ⟨h1, h2⟩]; exact rIn_k n (i + 1) _
      · rw [if_neg h2, if_neg (fun h => h2 h.2)]; exact rIn_k n (i + 1) _
    · rw [if_neg h1, if_neg (fun h => h1 h.1)]; exact rIn_k n (i + 1) _
theorem rNear_k {a b : Nat → Nat} {k : Int} {w : Bool} : ∀ (n i : Nat) (F : Nat → Nat), rNear a b k w n i F = kLoop (fun x F => if a x ≠ 30 ∧ rHN b x (a x) k 30 0 = w then rAdd F x (a x) else F) n i F
  | 0, _, _ => rfl
  | n + 1, i, F => by
    unfold rNear
    show _ = kLoop _ n (i + 1) (if a i ≠ 30 ∧ rHN b i (a i) k 30 0 = w then rAdd F i (a i) else F)
    by_cases h1 : a i ≠ 30
    · rw [if_pos h1]
      by_cases h2 : rHN b i (a i) k 30 0 = w
      · rw [if_pos h2, if_pos ⟨h1, h2⟩]; exact rNear_k n (i + 1) _
      · rw [if_neg h2, if_neg (fun h => h2 h.2)]; exact rNear_k n (i + 1) _
    · rw [if_neg h1, if_neg (fun h => h1 h.1)]; exact rNear_k n (i + 1) _
theorem rHW_iff {b : Nat → Nat} {high : Nat} : ∀ (n i : Nat), rHW b high n i = true ↔ ∃ y, i ≤ y ∧ y < i + n ∧ b y ≠ 30 ∧ b y ≤ high
  | 0, i => ⟨fun h => by simp [rHW] at h, fun ⟨y, h1, h2, _⟩ => by omega⟩
  | n + 1, i => by
    unfold rHW
    by_cases h1 : b i ≠ 30 ∧ b i ≤ high
    · rw [if_pos h1.1, if_pos h1.2]
      exact ⟨fun _ => ⟨i, Nat.le_refl _, by omega, h1⟩, fun _ => rfl⟩
    · have e : (if b i ≠ 30 then (if b i ≤ high then true else rHW b high n (i + 1)) else rHW b high n (i + 1)) = rHW b high n (i + 1) := by
        by_cases h2 : b i ≠ 30
        · rw [if_pos h2, if_neg (fun h => h1 ⟨h2, h⟩)]
        · rw [if_neg h2]
      rw [e, rHW_iff n (i + 1)]
      constructor
      · rintro ⟨y, a, c, d⟩; exact ⟨y, by omega, by omega, d⟩
      · rintro ⟨y, a, c, d⟩
        by_cases e : y = i
        · subst e; exact absurd d h1
        · exact ⟨y, by omega, by omega, d⟩
theorem rHA_iff {b : Nat → Nat} {low high : Nat} : ∀ (n i : Nat), rHA b low high n i = true ↔ ∃ y, i ≤ y ∧ y < i + n ∧ y ≤ low ∧ b y ≠ 30 ∧ high ≤ b y
  | 0, i => ⟨fun h => by simp [rHA] at h, fun ⟨y, h1, h2, _⟩ => by omega⟩
  | n + 1, i => by
    unfold rHA
    by_cases h0 : i ≤ low
    · rw [if_pos h0]
      by_cases h1 : b i ≠ 30 ∧ high ≤ b i
      · rw [if_pos h1.1, if_pos h1.2]
        exact ⟨fun _ => ⟨i, Nat.le_refl _, by omega, h0, h1⟩, fun _ => rfl⟩
      · have e : (if b i ≠ 30 then (if high ≤ b i then true else rHA b low high n (i + 1)) else rHA b low high n (i + 1)) = rHA b low high n (i + 1) := by
          by_cases h2 : b i ≠ 30
          · rw [if_pos h2, if_neg (fun h => h1 ⟨h2, h⟩)]
          · rw [if_neg h2]
        rw [e, rHA_iff n (i + 1)]
        constructor
        · rintro ⟨y, a, c, d⟩; exact ⟨y, by omega, by omega, d⟩
        · rintro ⟨y, a, c, d1, d⟩
          by_cases e : y = i
          · subst e; exact absurd d h1
          · exact ⟨y, by omega, by omega, d1, d⟩
    · rw [if_neg h0]
      exact ⟨fun h => by simp at h, fun ⟨y, a, _, c, _⟩ => by omega⟩
theorem rHN_iff {b : Nat → Nat} {low high : Nat} {k : Int} : ∀ (n i : Nat), rHN b low high k n i = true ↔ ∃ y : Nat, i ≤ y ∧ y < i + n ∧ b y ≠ 30 ∧ (y : Int) - high - 1 ≤ k ∧ (low : Int) - b y - 1 ≤ k
  | 0, i => ⟨fun h => by simp [rHN] at h, fun ⟨y, h1, h2, _⟩ => by omega⟩
  | n + 1, i => by
    unfold rHN
    by_cases h1 : b i ≠ 30 ∧ (i : Int) - high - 1 ≤ k ∧ (low : Int) - b i - 1 ≤ k
    · rw [if_pos h1.1, if_pos h1.2.1, if_pos h1.2.2]
      exact ⟨fun _ => ⟨i, Nat.le_refl _, by omega, h1⟩, fun _ => rfl⟩
    · have e : (if b i ≠ 30 then (if (i : Int) - high - 1 ≤ k then (if (low : Int) - b i - 1 ≤ k then true else rHN b low high k n (i + 1)) else rHN b low high k n (i + 1)) else rHN b low high k n (i + 1)) = rHN b low high k n (i + 1) := by
        by_cases h2 : b i ≠ 30
        · rw [if_pos h2]
          by_cases h3 : (i : Int) - high - 1 ≤ k
          · rw [if_pos h3, if_neg (fun h => h1 ⟨h2, h3, h⟩)]
          · rw [if_neg h3]
        · rw [if_neg h2]
      rw [e, rHN_iff n (i + 1)]
      constructor
      · rintro ⟨y, a, c, d⟩; exact ⟨y, by omega, by omega, d⟩
      · rintro ⟨y, a, c, d⟩
        by_cases e : y = i
        · subst e; exact absurd d h1
        · exact ⟨y, by omega, by omega, d⟩
