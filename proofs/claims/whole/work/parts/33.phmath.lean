/-! THE PHRASE: the search of the class and the search of the reference come to the same -/
theorem kLoop_rel {σ τ : Type} {b : Nat → σ → σ} {b' : Nat → τ → τ} {R : σ → τ → Prop} {B : Nat} (hb : ∀ i, i < B → ∀ S C, R S C → R (b i S) (b' i C)) : ∀ (k i : Nat) (S : σ) (C : τ), i + k ≤ B → R S C → R (kLoop b k i S) (kLoop b' k i C)
  | 0, _, _, _, _, h => h
  | k + 1, i, S, C, hi, h => kLoop_rel hb k (i + 1) _ _ (by omega) (hb i (by omega) S C h)
theorem kLoop_inv2 {σ : Type} {b : Nat → σ → σ} {I : σ → Prop} {B : Nat} (hb : ∀ i, i < B → ∀ S, I S → I (b i S)) : ∀ (k i : Nat) (S : σ), i + k ≤ B → I S → I (kLoop b k i S)
  | 0, _, _, _, h => h
  | k + 1, i, S, hi, h => kLoop_inv2 hb k (i + 1) _ (by omega) (hb i (by omega) S h)
theorem kLoop_congr {σ : Type} {b b' : Nat → σ → σ} {B : Nat} (hb : ∀ i, i < B → ∀ S, b i S = b' i S) : ∀ (k i : Nat) (S : σ), i + k ≤ B → kLoop b k i S = kLoop b' k i S
  | 0, _, _, _ => rfl
  | k + 1, i, S, hi => by
    show kLoop b k (i + 1) (b i S) = kLoop b' k (i + 1) (b' i S)
    rw [hb i (by omega) S]
    exact kLoop_congr hb k (i + 1) _ (by omega)
/-- the places of a slot -/
def pL (t : Nat → Nat) (set : Nat) : Nat → Nat → List Nat
  | 0, _ => []
  | k + 1, i => if t i &&& set ≠ 0 then i :: pL t set k (i + 1) else pL t set k (i + 1)
theorem fFind_spec {t : Nat → Nat} {set : Nat} : ∀ (k i found : Nat) (F : Nat → Nat), (fFind t set k i found F).1 = found + (pL t set k i).length ∧ (∀ j, j < found → (fFind t set k i found F).2 j = F j) ∧ ∀ (j : Nat) (v : Nat), (pL t set k i)[j]? = some v → (fFind t set k i found F).2 (found + j) = v
  | 0, _, _, _ => ⟨rfl, fun _ _ => rfl, fun j v h => by simp [pL] at h⟩
  | k + 1, i, found, F => by
    unfold fFind pL
    by_cases h : t i &&& set ≠ 0
    · rw [if_pos h, if_pos h]
      obtain ⟨h1, h2, h3⟩ := fFind_spec (t := t) (set := set) k (i + 1) (found + 1) (va_up F found i)
      refine ⟨by rw [h1, List.length_cons]; omega, fun j hj => by rw [h2 j (by omega), va_up_ne _ _ (by omega)], fun j v hv => ?_⟩
      cases j with
      | zero =>
        rw [List.getElem?_cons_zero] at hv
        rw [h2 (found + 0) (by omega), Nat.add_zero, va_up_self]
        exact Option.some.inj hv
      | succ j =>
        rw [List.getElem?_cons_succ] at hv
        have := h3 j v hv
        rw [show found + (j + 1) = found + 1 + j by omega]
        exact this
    · rw [if_neg h, if_neg h]
      exact fFind_spec k (i + 1) found F
theorem kLoop_list {σ : Type} {b : Nat → σ → σ} {P : Nat → Nat} : ∀ (L : List Nat) (k : Nat) (S : σ), (∀ j v, L[j]? = some v → P (k + j) = v) → kLoop (fun i S => b (P i) S) L.length k S = L.foldl (fun S p => b p S) S
  | [], _, _, _ => rfl
  | a :: L, k, S, h => by
    show kLoop (fun i S => b (P i) S) L.length (k + 1) (b (P k) S) = L.foldl _ (b a S)
    have h0 : P k = a := h 0 a rfl
    rw [h0]
    exact kLoop_list L (k + 1) _ (fun j v hv => by rw [show k + 1 + j = k + (j + 1) by omega]; exact h (j + 1) v (by rw [List.getElem?_cons_succ]; exact hv))
theorem pL_fold {σ : Type} {t : Nat → Nat} {set : Nat} {b : Nat → σ → σ} : ∀ (k i : Nat) (S : σ), (pL t set k i).foldl (fun S p => b p S) S = kLoop (fun p S => if t p &&& set ≠ 0 then b p S else S) k i S
  | 0, _, _ => rfl
  | k + 1, i, S => by
    unfold pL
    show _ = kLoop _ k (i + 1) (if t i &&& set ≠ 0 then b i S else S)
    by_cases h : t i &&& set ≠ 0
    · rw [if_pos h, if_pos h]; exact pL_fold k (i + 1) (b i S)
    · rw [if_neg h, if_neg h]; exact pL_fold k (i + 1) S
theorem fAll_spec {t se : Nat → Nat} : ∀ (k s : Nat) (pc : Nat → Nat) (Pl : Nat → Nat → Nat) (j : Nat), (j < s → (fAll t se k s pc Pl).1 j = pc j ∧ (fAll t se k s pc Pl).2 j = Pl j) ∧ (s ≤ j → j < s + k → (fAll t se k s pc Pl).1 j = (fFind t (se j) 30 0 0 (Pl j)).1 ∧ (fAll t se k s pc Pl).2 j = (fFind t (se j) 30 0 0 (Pl j)).2)
  | 0, _, _, _, _ => ⟨fun _ => ⟨rfl, rfl⟩, fun _ _ => by omega⟩
  | k + 1, s, pc, Pl, j => by
    unfold fAll
    obtain ⟨h1, h2⟩ := fAll_spec (t := t) (se := se) k (s + 1) (va_up pc s (fFind t (se s) 30 0 0 (Pl s)).1) (va_up Pl s (fFind t (se s) 30 0 0 (Pl s)).2) j
    refine ⟨fun hj => ?_, fun hj1 hj2 => ?_⟩
    · obtain ⟨a, b⟩ := h1 (by omega)
      rw [a, b, va_up_ne _ _ (by omega), va_up_ne _ _ (by omega)]; exact ⟨rfl, rfl⟩
    · by_cases e : j = s
      · subst e
        obtain ⟨a, b⟩ := h1 (by omega)
        rw [a, b, va_up_self, va_up_self]; exact ⟨rfl, rfl⟩
      · obtain ⟨a, b⟩ := h2 (by omega) (by omega)
        rw [a, b, va_up_ne _ _ e]; exact ⟨rfl, rfl⟩
/-- a loop over the places of a slot is a loop over all places -/
theorem kLoop_places {σ : Type} {t se pc : Nat → Nat} {Pl : Nat → Nat → Nat} {np s : Nat} {b : Nat → σ → σ} (hs : s < np) (S : σ) : kLoop (fun i S => b ((fAll t se np 0 pc Pl).2 s i) S) ((fAll t se np 0 pc Pl).1 s) 0 S = kLoop (fun p S => if t p &&& se s ≠ 0 then b p S else S) 30 0 S := by
  obtain ⟨h1, h2⟩ := (fAll_spec (t := t) (se := se) np 0 pc Pl s).2 (by omega) (by omega)
  obtain ⟨g1, -, g3⟩ := fFind_spec (t := t) (set := se s) 30 0 0 (Pl s)
  rw [h1, h2, g1, Nat.zero_add, kLoop_list _ 0 S (fun j v hv => g3 j v hv)]
  exact pL_fold 30 0 S
/-! how far a choice is moved: step by step -/
def mid (pl : Nat → Int) (of : Nat → Nat) : Nat → Nat × Int × Int
  | 0 => (0, -9, 29)
  | s + 1 => (sMn (mid pl of s).1 (pl s - (of s : Int)) (sNr (mid pl of s).2.1 (mid pl of s).2.2 (pl s - (of s : Int))),
      if s = 1 then min (mid pl of s).2.1 (pl s - (of s : Int)) else sNr (mid pl of s).2.1 (mid pl of s).2.2 (pl s - (of s : Int)),
      if s = 1 then max (mid pl of s).2.2 (pl s - (of s : Int)) else sNr (mid pl of s).2.1 (mid pl of s).2.2 (pl s - (of s : Int)))
theorem mid_congr {pl pl' : Nat → Int} {of : Nat → Nat} : ∀ (s : Nat), (∀ i, i < s → pl i = pl' i) → mid pl of s = mid pl' of s
  | 0, _ => rfl
  | s + 1, h => by
    have h1 := mid_congr (of := of) s (fun i hi => h i (by omega))
    unfold mid
    rw [h1, h s (by omega)]
theorem mid_mono {pl : Nat → Int} {of : Nat → Nat} {s : Nat} : (mid pl of s).1 ≤ (mid pl of (s + 1)).1 := by
  show _ ≤ sMn _ _ _
  unfold sMn; omega
theorem gSum_end {pl : Nat → Int} {of : Nat → Nat} {m : Int} : ∀ (c i : Nat) (acc : Int), gSum pl of m (c + 1) i acc = gSum pl of m c i acc + ((pl (i + c) - (of (i + c) : Int) - m).natAbs : Int)
  | 0, i, acc => rfl
  | c + 1, i, acc => by
    rw [gSum, gSum_end c (i + 1)]
    rw [show gSum pl of m (c + 1) i acc = gSum pl of m c (i + 1) (acc + ((pl i - (of i : Int) - m).natAbs : Int)) from rfl, show i + 1 + c = i + (c + 1) by omega]
/-- the sum for every middle m, against what the class holds -/
def midOK (s : Nat) (f : Int → Int) (M : Nat × Int × Int) : Prop :=
  -9 ≤ M.2.1 ∧ M.2.1 ≤ M.2.2 ∧ M.2.2 ≤ 29 ∧ (∀ m, M.2.1 ≤ m → m ≤ M.2.2 → f m = (M.1 : Int)) ∧
  (s = 1 → M.2.1 = M.2.2 ∧ M.1 = 0 ∧ ∀ m, f m = ((m - M.2.1).natAbs : Int)) ∧
  (s = 2 → (M.1 : Int) = M.2.2 - M.2.1 ∧ ∀ m, (M.1 : Int) + 2 * (M.2.1 - m) ≤ f m ∧ (M.1 : Int) + 2 * (m - M.2.2) ≤ f m ∧ (M.1 : Int) ≤ f m) ∧
  (s = 3 → M.2.1 = M.2.2 ∧ M.1 ≤ 38 ∧ ∀ m, (M.1 : Int) + (m - M.2.1).natAbs ≤ f m) ∧
  (s = 4 → M.1 ≤ 76 ∧ ∀ m, (M.1 : Int) ≤ f m)
theorem mid_ok {pl : Nat → Int} {of : Nat → Nat} {s : Nat} (hs : 1 ≤ s) (hs4 : s ≤ 4) (hpl : ∀ i, i < s → 0 ≤ pl i ∧ pl i ≤ 29) (hof : ∀ j, of j ≤ 9) : midOK s (fun m => gSum pl of m s 0 0) (mid pl of s) := by
  have b0 := hpl 0 (by omega)
  have c0 := hof 0
  have m1 : mid pl of 1 = (0, pl 0 - (of 0 : Int), pl 0 - (of 0 : Int)) := by
    unfold mid mid sMn sNr
    dsimp only
    rw [if_neg (by omega), if_neg (by omega)]
    rw [show max (-9) (min 29 (pl 0 - (of 0 : Int))) = pl 0 - (of 0 : Int) by omega]
    simp
  have f1 : ∀ m, gSum pl of m 1 0 0 = ((m - (pl 0 - (of 0 : Int))).natAbs : Int) := by
    intro m; unfold gSum gSum; omega
  have k1 : midOK 1 (fun m => gSum pl of m 1 0 0) (mid pl of 1) := by
    rw [m1]; unfold midOK; dsimp only
    refine ⟨by omega, by omega, by omega, fun m h1 h2 => by rw [f1]; omega, fun _ => ⟨rfl, rfl, f1⟩, by omega, by omega, by omega⟩
  by_cases e1 : s = 1
  · subst e1; exact k1
  have b1 := hpl 1 (by omega)
  have c1 := hof 1
  have k2 : midOK 2 (fun m => gSum pl of m 2 0 0) (mid pl of 2) := by
    rw [mid, m1]
    unfold sMn sNr midOK
    dsimp only
    rw [if_pos rfl, if_pos rfl]
    have e : ∀ m, gSum pl of m 2 0 0 = ((m - (pl 0 - (of 0 : Int))).natAbs : Int) + ((pl 1 - (of 1 : Int) - m).natAbs : Int) := fun m => by rw [gSum_end, f1]
    refine ⟨by omega, by omega, by omega, fun m h1 h2 => by rw [e]; omega, by omega, fun _ => ⟨by omega, fun m => by rw [e]; omega⟩, by omega, by omega⟩
  by_cases e2 : s = 2
  · subst e2; exact k2
  have b2 := hpl 2 (by omega)
  have c2 := hof 2
  have k3 : midOK 3 (fun m => gSum pl of m 3 0 0) (mid pl of 3) := by
    obtain ⟨x1, x2, x3, x4, -, x6, -, -⟩ := k2
    obtain ⟨y1, y2⟩ := x6 rfl
    rw [mid]
    generalize mid pl of 2 = M at *
    obtain ⟨mv, lo, hi⟩ := M
    dsimp only at x1 x2 x3 x4 y1 y2
    have e : ∀ m, gSum pl of m 3 0 0 = gSum pl of m 2 0 0 + ((pl 2 - (of 2 : Int) - m).natAbs : Int) := fun m => by rw [gSum_end]
    unfold sMn sNr midOK
    dsimp only
    rw [if_neg (by omega), if_neg (by omega)]
    refine ⟨by omega, by omega, by omega, fun m h1 h2 => ?_, by omega, by omega, fun _ => ⟨rfl, by omega, fun m => ?_⟩, by omega⟩
    · rw [e, x4 m (by omega) (by omega)]; omega
    · obtain ⟨z1, z2, z3⟩ := y2 m
      rw [e]; omega
  by_cases e3 : s = 3
  · subst e3; exact k3
  have e4 : s = 4 := by omega
  subst e4
  have b3 := hpl 3 (by omega)
  have c3 := hof 3
  obtain ⟨x1, x2, x3, x4, -, -, x7, -⟩ := k3
  obtain ⟨y1, y2, y3⟩ := x7 rfl
  rw [mid]
  generalize mid pl of 3 = M at *
  obtain ⟨mv, lo, hi⟩ := M
  dsimp only at x1 x2 x3 x4 y1 y2 y3
  have e : ∀ m, gSum pl of m 4 0 0 = gSum pl of m 3 0 0 + ((pl 3 - (of 3 : Int) - m).natAbs : Int) := fun m => by rw [gSum_end]
  unfold sMn sNr midOK
  dsimp only
  rw [if_neg (by omega), if_neg (by omega)]
  refine ⟨by omega, by omega, by omega, fun m h1 h2 => ?_, by omega, by omega, by omega, fun _ => ⟨by omega, fun m => ?_⟩⟩
  · rw [e, x4 m (by omega) (by omega)]; omega
  · have z3 := y3 m
    rw [e]; omega
theorem gBest_spec {pl : Nat → Int} {of : Nat → Nat} {np : Nat} : ∀ (c i : Nat) (best : Int), (gBest pl of np c i best ≤ best) ∧ (∀ j, i ≤ j → j < i + c → gBest pl of np c i best ≤ gSum pl of ((j : Int) - 9) np 0 0) ∧ (gBest pl of np c i best = best ∨ ∃ j, i ≤ j ∧ j < i + c ∧ gBest pl of np c i best = gSum pl of ((j : Int) - 9) np 0 0)
  | 0, i, best => ⟨Int.le_refl _, fun j _ _ => by omega, Or.inl rfl⟩
  | c + 1, i, best => by
    unfold gBest
    obtain ⟨h1, h2, h3⟩ := gBest_spec (pl := pl) (of := of) (np := np) c (i + 1) (if gSum pl of ((i : Int) - 9) np 0 0 < best then gSum pl of ((i : Int) - 9) np 0 0 else best)
    generalize gBest pl of np c (i + 1) (if gSum pl of ((i : Int) - 9) np 0 0 < best then gSum pl of ((i : Int) - 9) np 0 0 else best) = g at *
    refine ⟨by split at h1 <;> omega, fun j hj1 hj2 => ?_, ?_⟩
    · by_cases e : j = i
      · subst e; split at h1 <;> omega
      · exact h2 j (by omega) (by omega)
    · rcases h3 with h3 | ⟨j, a, b, d⟩
      · split at h3
        · exact Or.inr ⟨i, Nat.le_refl _, by omega, h3⟩
        · exact Or.inl h3
      · exact Or.inr ⟨j, by omega, by omega, d⟩
/-- what the class has at the end is what the reference says -/
theorem gMoved_mid {pl : Nat → Int} {of : Nat → Nat} {np : Nat} (h1 : 1 ≤ np) (h4 : np ≤ 4) (hpl : ∀ i, i < np → 0 ≤ pl i ∧ pl i ≤ 29) (hof : ∀ j, of j ≤ 9) : gMoved pl of np = ((mid pl of np).1 : Int) ∧ (mid pl of np).1 ≤ 76 := by
  obtain ⟨x1, x2, x3, x4, x5, x6, x7, x8⟩ := mid_ok (pl := pl) (of := of) h1 h4 hpl hof
  obtain ⟨y1, y2, y3⟩ := gBest_spec (pl := pl) (of := of) (np := np) 39 0 1000000
  have hmin : ∀ m, ((mid pl of np).1 : Int) ≤ gSum pl of m np 0 0 := by
    intro m
    rcases (show np = 1 ∨ np = 2 ∨ np = 3 ∨ np = 4 by omega) with e | e | e | e
    · obtain ⟨a, b, d⟩ := x5 e; have := d m; dsimp only at this; rw [this]; omega
    · exact ((x6 e).2 m).2.2
    · have := (x7 e).2.2 m; dsimp only at this; omega
    · exact (x8 e).2 m
  have hb : (mid pl of np).1 ≤ 76 := by
    rcases (show np = 1 ∨ np = 2 ∨ np = 3 ∨ np = 4 by omega) with e | e | e | e
    · have := (x5 e).2.1; omega
    · have := (x6 e).1; omega
    · have := (x7 e).2.1; omega
    · exact (x8 e).1
  refine ⟨?_, hb⟩
  have hat := x4 (mid pl of np).2.1 (Int.le_refl _) x2
  dsimp only at hat
  have hle := y2 ((mid pl of np).2.1 + 9).toNat (by omega) (by omega)
  rw [show ((((mid pl of np).2.1 + 9).toNat : Int) - 9) = (mid pl of np).2.1 by omega, hat] at hle
  show gBest pl of np 39 0 1000000 = _
  rcases y3 with y3 | ⟨j, _, _, y3⟩
  · rw [y3] at hle ⊢; omega
  · have := hmin ((j : Int) - 9)
    omega
