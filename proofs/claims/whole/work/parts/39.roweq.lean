/-! the rows of the class are the rows of the reference -/
theorem rowRaw_eq {t : Nat → Nat} {kd nn : Nat} {n : Int} {a b : Nat → Nat} (hkd : kd ≤ 10) (hn : kd ≠ 1 ∧ kd ≠ 5 ∧ kd ≠ 6 ∧ kd ≠ 7 → n = (nn : Int)) (ha : rWF a) (hb : rWF b) : rowRaw t kd nn a b = mUnder t kd n nn a b := by
  have A := fun k => adds_kLoop (b := fun x F => if a x ≠ 30 then rAdd F (x - k) (a x) else F) (fun x => adds_if (c := a x ≠ 30) (adds_rAdd (x - k) (a x))) 30 0
  by_cases k0 : kd = 0
  · subst k0
    show rWith t (2 ^ nn) 30 0 e30 = _
    unfold mUnder
    rw [if_pos rfl, rWith_k]
    have h0 := adds_kLoop (b := fun x F => if t x &&& 2 ^ nn ≠ 0 then rAdd F x x else F) (fun x => adds_if (c := t x &&& 2 ^ nn ≠ 0) (adds_rAdd x x)) 30 0
    funext p
    have h1 := h0 e30 p
    dsimp only at h1
    generalize kLoop (fun x F => if t x &&& 2 ^ nn ≠ 0 then rAdd F x x else F) 30 0 e30 = R at h1
    have e3 : e30 p = 30 := rfl
    unfold mTerm
    by_cases hp : p < 30
    · rw [if_pos hp]
      by_cases hb : t p / 2 ^ nn % 2 = 1
      · rw [if_pos ⟨rfl, hb⟩]
        have a1 := (h1 p).mpr (Or.inr ⟨p, ⟨p, by omega, by omega, (k_bit1 _ _).mpr hb, rfl, rfl⟩, Nat.le_refl _⟩)
        rcases (h1 (R p)).mp (Nat.le_refl _) with h | ⟨v, ⟨x, _, _, _, e1, e2⟩, h⟩
        · omega
        · omega
      · rw [if_neg (fun h => hb h.2)]
        have a1 := (h1 30).mpr (Or.inl (by omega))
        rcases (h1 (R p)).mp (Nat.le_refl _) with h | ⟨v, ⟨x, _, _, c, e1, e2⟩, h⟩
        · omega
        · subst e1; exact absurd ((k_bit1 _ _).mp c) hb
    · rw [if_neg hp]
      have a1 := (h1 30).mpr (Or.inl (by omega))
      rcases (h1 (R p)).mp (Nat.le_refl _) with h | ⟨v, ⟨x, _, _, c, e1, e2⟩, h⟩
      · omega
      · omega
  unfold mUnder
  rw [if_neg k0]
  have B := mOuter_adds kd n a b
  rcases (show kd = 1 ∨ kd = 2 ∨ kd = 3 ∨ kd = 4 ∨ kd = 5 ∨ kd = 6 ∨ kd = 7 ∨ kd = 8 ∨ kd = 9 ∨ kd = 10 by omega) with e | e | e | e | e | e | e | e | e | e
  · subst e
    show rGrown b 0 30 0 (rGrown a 0 30 0 e30) = _
    rw [rGrown_k, rGrown_k]
    refine adds_eq (adds_comp (adds_kLoop (b := fun x F => if a x ≠ 30 then rAdd F (x - 0) (a x) else F) (fun x => adds_if (c := a x ≠ 30) (adds_rAdd (x - 0) (a x))) 30 0) (adds_kLoop (b := fun x F => if b x ≠ 30 then rAdd F (x - 0) (b x) else F) (fun x => adds_if (c := b x ≠ 30) (adds_rAdd (x - 0) (b x))) 30 0)) B (fun u v => ?_) e30
    unfold qRow
    constructor
    · rintro (⟨x, h1, h2, h3, h4, h5⟩ | ⟨x, h1, h2, h3, h4, h5⟩)
      · exact ⟨x, h1, h2, Or.inl (Or.inl ⟨h3, Or.inl ⟨Or.inl rfl, by omega, h5⟩⟩)⟩
      · exact ⟨x, h1, h2, Or.inr ⟨⟨rfl, h3⟩, by omega, h5⟩⟩
    · rintro ⟨x, h1, h2, (⟨h3, ⟨_, h4, h5⟩ | ⟨h4, _⟩⟩ | ⟨h3, _⟩) | ⟨⟨_, h3⟩, h4, h5⟩⟩
      · exact Or.inl ⟨x, h1, h2, h3, by omega, h5⟩
      · omega
      · omega
      · exact Or.inr ⟨x, h1, h2, h3, by omega, h5⟩
  · subst e
    have hn := hn (by omega)
    subst hn
    show rBehind a b nn 30 0 e30 = _
    rw [rBehind_k]
    refine adds_eq (adds_kLoop (fun x => adds_if (c := a x ≠ 30) (adds_kLoop (b := fun y F => if (y : Int) - (a x) - 1 ≤ nn ∧ b y ≠ 30 then rAdd F x (b y) else F) (fun y => adds_if (adds_rAdd x (b y))) (29 - a x) (a x + 1))) 30 0) B (fun u v => ?_) e30
    unfold qRow
    constructor
    · rintro ⟨x, h1, h2, h3, y, h4, h5, ⟨h6, h7⟩, h8, h9⟩
      have := (ha x).1
      exact ⟨x, h1, h2, Or.inl (Or.inr ⟨by omega, y, by omega, by omega, ⟨h3, h7⟩, Or.inl ⟨Or.inl rfl, by omega, h6, h8, h9⟩⟩)⟩
    · rintro ⟨x, h1, h2, (⟨h3, ⟨h4, _⟩ | ⟨h4, _⟩⟩ | ⟨_, y, h4, h5, ⟨h6, h7⟩, ⟨_, h8, h9, h10, h11⟩ | ⟨h8, _⟩ | ⟨h8, _⟩ | ⟨h8, _⟩⟩) | ⟨⟨h3, _⟩, _⟩⟩
      · omega
      · omega
      · have := (ha x).1
        exact ⟨x, h1, h2, h6, y, by omega, by omega, ⟨h9, h7⟩, h10, h11⟩
      · omega
      · omega
      · omega
      · omega
  · subst e
    have hn := hn (by omega)
    subst hn
    show rBehind b a nn 30 0 (rBehind a b nn 30 0 e30) = _
    rw [rBehind_k, rBehind_k]
    refine adds_eq (adds_comp (adds_kLoop (fun x => adds_if (c := a x ≠ 30) (adds_kLoop (b := fun y F => if (y : Int) - (a x) - 1 ≤ nn ∧ b y ≠ 30 then rAdd F x (b y) else F) (fun y => adds_if (adds_rAdd x (b y))) (29 - a x) (a x + 1))) 30 0) (adds_kLoop (fun x => adds_if (c := b x ≠ 30) (adds_kLoop (b := fun y F => if (y : Int) - (b x) - 1 ≤ nn ∧ a y ≠ 30 then rAdd F x (a y) else F) (fun y => adds_if (adds_rAdd x (a y))) (29 - b x) (b x + 1))) 30 0)) B (fun u v => ?_) e30
    unfold qRow
    constructor
    · rintro (⟨x, h1, h2, h3, y, h4, h5, ⟨h6, h7⟩, h8, h9⟩ | ⟨x, h1, h2, h3, y, h4, h5, ⟨h6, h7⟩, h8, h9⟩)
      · have := (ha x).1
        exact ⟨x, h1, h2, Or.inl (Or.inr ⟨by omega, y, by omega, by omega, ⟨h3, h7⟩, Or.inl ⟨Or.inr rfl, by omega, h6, h8, h9⟩⟩)⟩
      · have := (hb x).1
        exact ⟨y, by omega, by omega, Or.inl (Or.inr ⟨by omega, x, h1, h2, ⟨h7, h3⟩, Or.inr (Or.inl ⟨rfl, by omega, h6, h8, h9⟩)⟩)⟩
    · rintro ⟨x, h1, h2, (⟨h3, ⟨h4, _⟩ | ⟨h4, _⟩⟩ | ⟨_, y, h4, h5, ⟨h6, h7⟩, ⟨_, h8, h9, h10, h11⟩ | ⟨_, h8, h9, h10, h11⟩ | ⟨h8, _⟩ | ⟨h8, _⟩⟩) | ⟨⟨h3, _⟩, _⟩⟩
      · omega
      · omega
      · have := (ha x).1
        exact Or.inl ⟨x, h1, h2, h6, y, by omega, by omega, ⟨h9, h7⟩, h10, h11⟩
      · have := (hb y).1
        exact Or.inr ⟨y, h4, h5, h7, x, by omega, by omega, ⟨h9, h6⟩, h10, h11⟩
      · omega
      · omega
      · omega
  · subst e
    have hn := hn (by omega)
    subst hn
    show rBoth a b nn 30 0 e30 = _
    rw [rBoth_k]
    refine adds_eq (adds_kLoop (fun x => adds_if (c := a x ≠ 30) (adds_kLoop (b := fun y F => if b y ≠ 30 ∧ max (a x) (b y) + 1 ≤ nn + min x y then rAdd F (min x y) (max (a x) (b y)) else F) (fun y => adds_if (adds_rAdd (min x y) (max (a x) (b y)))) 30 0)) 30 0) B (fun u v => ?_) e30
    unfold qRow
    constructor
    · rintro ⟨x, h1, h2, h3, y, h4, h5, ⟨h6, h7⟩, h8, h9⟩
      exact ⟨x, h1, h2, Or.inl (Or.inr ⟨by omega, y, h4, h5, ⟨h3, h6⟩, Or.inr (Or.inr (Or.inl ⟨rfl, by omega, h8, h9⟩))⟩)⟩
    · rintro ⟨x, h1, h2, (⟨h3, ⟨h4, _⟩ | ⟨h4, _⟩⟩ | ⟨_, y, h4, h5, ⟨h6, h7⟩, ⟨h8, _⟩ | ⟨h8, _⟩ | ⟨_, h9, h10, h11⟩ | ⟨h8, _⟩⟩) | ⟨⟨h3, _⟩, _⟩⟩
      · omega
      · omega
      · omega
      · omega
      · exact ⟨x, h1, h2, h6, y, h4, h5, ⟨h7, by omega⟩, h10, h11⟩
      · omega
      · omega
  · subst e
    show rHolding a b 30 0 e30 = _
    rw [rHolding_k]
    refine adds_eq (adds_kLoop (fun x => adds_if (c := a x ≠ 30 ∧ rHW b (a x) (30 - x) x = true) (adds_rAdd x (a x))) 30 0) B (fun u v => ?_) e30
    unfold qRow
    constructor
    · rintro ⟨x, h1, h2, ⟨h3, h4⟩, h8, h9⟩
      obtain ⟨y, c1, c2, c3, c4⟩ := (rHW_iff _ _).mp h4
      exact ⟨x, h1, h2, Or.inl (Or.inr ⟨by omega, y, by omega, by omega, ⟨h3, c3⟩, Or.inr (Or.inr (Or.inr ⟨Or.inl ⟨rfl, c1, c4⟩, h8, h9⟩))⟩)⟩
    · rintro ⟨x, h1, h2, (⟨h3, ⟨h4, _⟩ | ⟨h4, _⟩⟩ | ⟨_, y, h4, h5, ⟨h6, h7⟩, ⟨h8, _⟩ | ⟨h8, _⟩ | ⟨h8, _⟩ | ⟨⟨_, h9, h10⟩ | ⟨h8, _⟩ | ⟨h8, _⟩, h11, h12⟩⟩) | ⟨⟨h3, _⟩, _⟩⟩
      · omega
      · omega
      · omega
      · omega
      · omega
      · exact ⟨x, h1, h2, ⟨h6, (rHW_iff _ _).mpr ⟨y, h9, by omega, h7, h10⟩⟩, h11, h12⟩
      · omega
      · omega
      · omega
  · subst e
    show rIn a b 30 0 e30 = _
    rw [rIn_k]
    refine adds_eq (adds_kLoop (fun x => adds_if (c := a x ≠ 30 ∧ rHA b x (a x) 30 0 = true) (adds_rAdd x (a x))) 30 0) B (fun u v => ?_) e30
    unfold qRow
    constructor
    · rintro ⟨x, h1, h2, ⟨h3, h4⟩, h8, h9⟩
      obtain ⟨y, c1, c2, c3, c4, c5⟩ := (rHA_iff _ _).mp h4
      exact ⟨x, h1, h2, Or.inl (Or.inr ⟨by omega, y, by omega, by omega, ⟨h3, c4⟩, Or.inr (Or.inr (Or.inr ⟨Or.inr (Or.inl ⟨rfl, c3, c5⟩), h8, h9⟩))⟩)⟩
    · rintro ⟨x, h1, h2, (⟨h3, ⟨h4, _⟩ | ⟨h4, _⟩⟩ | ⟨_, y, h4, h5, ⟨h6, h7⟩, ⟨h8, _⟩ | ⟨h8, _⟩ | ⟨h8, _⟩ | ⟨⟨h8, _⟩ | ⟨_, h9, h10⟩ | ⟨h8, _⟩, h11, h12⟩⟩) | ⟨⟨h3, _⟩, _⟩⟩
      · omega
      · omega
      · omega
      · omega
      · omega
      · omega
      · exact ⟨x, h1, h2, ⟨h6, (rHA_iff _ _).mpr ⟨y, h4, h5, h9, h7, h10⟩⟩, h11, h12⟩
      · omega
      · omega
  · subst e
    show rNear a b (-1) true 30 0 e30 = _
    rw [rNear_k]
    refine adds_eq (adds_kLoop (fun x => adds_if (c := a x ≠ 30 ∧ rHN b x (a x) (-1) 30 0 = true) (adds_rAdd x (a x))) 30 0) B (fun u v => ?_) e30
    unfold qRow
    have hg : ∀ i j x y : Nat, mGap i j x y < 0 ↔ (x : Int) - j - 1 ≤ -1 ∧ (i : Int) - y - 1 ≤ -1 := fun i j x y => by
      unfold mGap
      split
      · omega
      · split <;> omega
    constructor
    · rintro ⟨x, h1, h2, ⟨h3, h4⟩, h8, h9⟩
      obtain ⟨y, c1, c2, c3, c4⟩ := (rHN_iff _ _).mp h4
      exact ⟨x, h1, h2, Or.inl (Or.inr ⟨by omega, y, by omega, by omega, ⟨h3, c3⟩, Or.inr (Or.inr (Or.inr ⟨Or.inr (Or.inr ⟨rfl, (hg _ _ _ _).mpr c4⟩), h8, h9⟩))⟩)⟩
    · rintro ⟨x, h1, h2, (⟨h3, ⟨h4, _⟩ | ⟨h4, _⟩⟩ | ⟨_, y, h4, h5, ⟨h6, h7⟩, ⟨h8, _⟩ | ⟨h8, _⟩ | ⟨h8, _⟩ | ⟨⟨h8, _⟩ | ⟨h8, _⟩ | ⟨_, h9⟩, h11, h12⟩⟩) | ⟨⟨h3, _⟩, _⟩⟩
      · omega
      · omega
      · omega
      · omega
      · omega
      · omega
      · omega
      · exact ⟨x, h1, h2, ⟨h6, (rHN_iff _ _).mpr ⟨y, h4, h5, h7, (hg _ _ _ _).mp h9⟩⟩, h11, h12⟩
      · omega
  · subst e
    have hn := hn (by omega)
    subst hn
    show rNear a b nn false 30 0 e30 = _
    rw [rNear_k]
    refine adds_eq (adds_kLoop (fun x => adds_if (c := a x ≠ 30 ∧ rHN b x (a x) nn 30 0 = false) (adds_rAdd x (a x))) 30 0) B (fun u v => ?_) e30
    unfold qRow
    have hg : ∀ x, a x ≠ 30 → (rHN b x (a x) nn 30 0 = false ↔ mFar b nn x (a x) 30 0 1 = 1) := fun x hx => by
      have w1 := (ha x).2 hx
      rw [mFar_iff 30 0 1 (Nat.le_refl _)]
      constructor
      · intro h
        refine ⟨rfl, fun y c1 c2 c3 => ?_⟩
        have w2 := (hb y).2 c3
        have h0 : ¬ ((y : Int) - a x - 1 ≤ nn ∧ (x : Int) - b y - 1 ≤ nn) := fun h9 => by
          have := (rHN_iff (b := b) (low := x) (high := a x) (k := nn) 30 0).mpr ⟨y, c1, c2, c3, h9⟩
          rw [h] at this; exact absurd this (by decide)
        unfold mGap
        split
        · omega
        · split <;> omega
      · rintro ⟨_, h⟩
        cases hh : rHN b x (a x) nn 30 0 with
        | false => rfl
        | true =>
          exfalso
          obtain ⟨y, c1, c2, c3, c4, c5⟩ := (rHN_iff _ _).mp hh
          have h9 := h y c1 c2 c3
          unfold mGap at h9
          split at h9
          · omega
          · split at h9 <;> omega
    constructor
    · rintro ⟨x, h1, h2, ⟨h3, h4⟩, h8, h9⟩
      exact ⟨x, h1, h2, Or.inl (Or.inl ⟨h3, Or.inl ⟨Or.inr (Or.inl ⟨rfl, (hg x h3).mp h4⟩), h8, h9⟩⟩)⟩
    · rintro ⟨x, h1, h2, (⟨h3, ⟨h4 | ⟨_, h4⟩ | ⟨h4, _⟩, h8, h9⟩ | ⟨h4, _⟩⟩ | ⟨h4, _⟩) | ⟨⟨h3, _⟩, _⟩⟩
      · omega
      · exact ⟨x, h1, h2, ⟨h3, (hg x h3).mpr h4⟩, h8, h9⟩
      · omega
      · omega
      · omega
      · omega
  · subst e
    have hn := hn (by omega)
    subst hn
    show rBefore a nn 30 0 e30 = _
    rw [rBefore_k]
    refine adds_eq (adds_kLoop (fun x => adds_if (c := a x ≠ 30 ∧ a x < nn) (adds_rAdd x (a x))) 30 0) B (fun u v => ?_) e30
    unfold qRow
    constructor
    · rintro ⟨x, h1, h2, ⟨h3, h4⟩, h8, h9⟩
      exact ⟨x, h1, h2, Or.inl (Or.inl ⟨h3, Or.inl ⟨Or.inr (Or.inr ⟨rfl, by omega⟩), h8, h9⟩⟩)⟩
    · rintro ⟨x, h1, h2, (⟨h3, ⟨h4 | ⟨h4, _⟩ | ⟨_, h4⟩, h8, h9⟩ | ⟨h4, _⟩⟩ | ⟨h4, _⟩) | ⟨⟨h3, _⟩, _⟩⟩
      · omega
      · omega
      · exact ⟨x, h1, h2, ⟨h3, by omega⟩, h8, h9⟩
      · omega
      · omega
      · omega
  · subst e
    have hn := hn (by omega)
    subst hn
    show rGrown a nn 30 0 e30 = _
    rw [rGrown_k]
    refine adds_eq (adds_kLoop (fun x => adds_if (c := a x ≠ 30) (adds_rAdd (x - nn) (a x))) 30 0) B (fun u v => ?_) e30
    unfold qRow
    constructor
    · rintro ⟨x, h1, h2, h3, h8, h9⟩
      exact ⟨x, h1, h2, Or.inl (Or.inl ⟨h3, Or.inr ⟨rfl, by omega, h9⟩⟩)⟩
    · rintro ⟨x, h1, h2, (⟨h3, ⟨h4 | ⟨h4, _⟩ | ⟨h4, _⟩, h8, h9⟩ | ⟨_, h8, h9⟩⟩ | ⟨h4, _⟩) | ⟨⟨h3, _⟩, _⟩⟩
      · omega
      · omega
      · omega
      · exact ⟨x, h1, h2, h3, by omega, h9⟩
      · omega
      · omega
