/-! what both sides hold of the phrase -/
def C00 : GC := ((fun _ => 0), 0, 0, (fun _ => 0), 0, 0)
/-- all choices of the phrase, counted -/
def gG (t of se : Nat → Nat) (np : Nat) : GC := if np = 0 then C00 else eM t of se np np 0 (fun _ => 0) C00
def RR (np : Nat) (C C' : GC) : Prop := C.1 = C'.1 ∧ C.2.1 = C'.2.1 ∧ (C.2.1 ≠ 0 → C.2.2.1 = C'.2.2.1 ∧ (∀ i, i < np → C.2.2.2.1 i = C'.2.2.2.1 i) ∧ C.2.2.2.2.1 = C'.2.2.2.2.1 ∧ C.2.2.2.2.2 = C'.2.2.2.2.2)
theorem gChoose_RR {of : Nat → Nat} {np : Nat} {pl : Nat → Int} {C C' : GC} (h : RR np C C') : RR np (gChoose of np pl C) (gChoose of np pl C') := by
  obtain ⟨h1, h2, h3⟩ := h
  unfold gChoose RR
  dsimp only
  rw [← h1, ← h2]
  refine ⟨rfl, rfl, fun _ => ?_⟩
  by_cases e : C.2.1 = 0
  · rw [if_pos (Or.inl e), if_pos (Or.inl e), if_pos (Or.inl e), if_pos (Or.inl e), if_pos (Or.inl e), if_pos (Or.inl e), if_pos (Or.inl e), if_pos (Or.inl e)]
    exact ⟨rfl, fun i hi => by rw [(gCopy_spec np 0 _ i).2 (by omega) (by omega), (gCopy_spec np 0 _ i).2 (by omega) (by omega)], rfl, rfl⟩
  · obtain ⟨a, b, c, d⟩ := h3 e
    rw [← a, ← c, ← d]
    refine ⟨rfl, fun i hi => ?_, rfl, rfl⟩
    split
    · rw [(gCopy_spec np 0 _ i).2 (by omega) (by omega), (gCopy_spec np 0 _ i).2 (by omega) (by omega)]
    · exact b i hi
theorem eM_RR {t of se : Nat → Nat} {np : Nat} : ∀ (d s : Nat) (pl : Nat → Int) (C C' : GC), RR np C C' → RR np (eM t of se np d s pl C) (eM t of se np d s pl C')
  | 0, _, _, _, _, h => gChoose_RR h
  | d + 1, s, pl, C, C', h => by
    unfold eM
    refine kLoop_rel (B := 30) (fun p _ C C' h => ?_) 30 0 C C' (by omega) h
    split
    · exact eM_RR d (s + 1) _ C C' h
    · exact h
/-- numbers stay small -/
def gI (C : GC) : Prop := (∀ j, C.1 j ≤ C.2.1) ∧ gOK C ∧ (C.2.1 ≠ 0 → 0 ≤ C.2.2.1 ∧ C.2.2.1 ≤ 160)
theorem gChoose_I {of : Nat → Nat} {np : Nat} {pl : Nat → Int} {C : GC} (hpl : gPB pl) (hof : ∀ j, of j ≤ 9) (hnp : np ≤ 4) (h : gI C) : gI (gChoose of np pl C) := by
  obtain ⟨h1, h2, h3⟩ := h
  have hb := gMoved_bd hpl hof hnp
  refine ⟨fun j => ?_, gChoose_ok hpl hof hnp h2, fun _ => ?_⟩
  · unfold gChoose va_up; dsimp only
    have := h1 j
    split
    · rename_i e; rw [← e]; omega
    · omega
  · unfold gChoose; dsimp only
    split
    · exact hb
    · rename_i e
      exact h3 (fun e2 => e (Or.inl e2))
theorem eM_I {t of se : Nat → Nat} {np : Nat} (hof : ∀ j, of j ≤ 9) (hnp : np ≤ 4) : ∀ (d s : Nat) (pl : Nat → Int) (C : GC), gPB pl → gI C → gI (eM t of se np d s pl C)
  | 0, _, _, _, hpl, h => gChoose_I hpl hof hnp h
  | d + 1, s, pl, C, hpl, h => by
    unfold eM
    refine kLoop_inv2 (B := 30) (fun p hp C h => ?_) 30 0 C (by omega) h
    split
    · exact eM_I hof hnp d (s + 1) _ C (k_upZ hpl (by omega)) h
    · exact h
theorem kLoop_cnt {b : Nat → GC → GC} {c : Nat} (hb : ∀ i C, (b i C).2.1 ≤ C.2.1 + c) : ∀ (k i : Nat) (C : GC), (kLoop b k i C).2.1 ≤ C.2.1 + k * c
  | 0, _, _ => by unfold kLoop; omega
  | k + 1, i, C => by
    have h1 := kLoop_cnt hb k (i + 1) (b i C)
    have h2 := hb i C
    show (kLoop b k (i + 1) (b i C)).2.1 ≤ _
    rw [Nat.succ_mul]
    omega
theorem eM_cnt {t of se : Nat → Nat} {np : Nat} : ∀ (d s : Nat) (pl : Nat → Int) (C : GC), (eM t of se np d s pl C).2.1 ≤ C.2.1 + 30 ^ d
  | 0, _, _, C => by show C.2.1 + 1 ≤ C.2.1 + 1; exact Nat.le_refl _
  | d + 1, s, pl, C => by
    unfold eM
    refine Nat.le_trans (kLoop_cnt (c := 30 ^ d) (fun p C => ?_) 30 0 C) (by rw [Nat.pow_succ, Nat.mul_comm 30]; exact Nat.le_refl _)
    split
    · exact eM_cnt d (s + 1) _ C
    · exact Nat.le_add_right _ _
theorem gG_I {t of se : Nat → Nat} {np : Nat} (hof : ∀ j, of j ≤ 9) (hnp : np ≤ 4) : gI (gG t of se np) ∧ (gG t of se np).2.1 ≤ 810000 := by
  have h0 : gI C00 := ⟨fun _ => Nat.le_refl _, ⟨by decide, by decide, by decide⟩, fun h => absurd rfl h⟩
  unfold gG
  split
  · exact ⟨h0, by show 0 ≤ 810000; omega⟩
  · refine ⟨eM_I hof hnp np 0 _ C00 (fun _ => ⟨by decide, by decide⟩) h0, ?_⟩
    have h1 := eM_cnt (t := t) (of := of) (se := se) (np := np) np 0 (fun _ => 0) C00
    have h2 : (30 : Nat) ^ np ≤ 30 ^ 4 := Nat.pow_le_pow_right (by decide) hnp
    have h3 : C00.2.1 = 0 := rfl
    have h4 : (30 : Nat) ^ 4 = 810000 := by decide
    omega
/-! the class -/
def phOK (sd np : Nat) (t of se : Nat → Nat) (Z : SET) : Prop := sd ≠ 0 → R1 np (Z.2.2.1, Z.2.2.2.1, Z.2.2.2.2.1, Z.2.2.2.2.2.1) (gG t of se np) ∧ R2 (Z.2.2.1, Z.2.2.2.2.2.2.1, Z.2.2.2.2.2.2.2) (gG t of se np)
theorem settle_ok {sd np : Nat} {t of se : Nat → Nat} {Z : SET} (hnp : np ≤ 4) (hof : ∀ j, of j ≤ 9) (h : phOK sd np t of se Z) : phOK 1 np t of se (settleF sd np t of se Z) := by
  intro _
  unfold settleF
  by_cases h0 : sd ≠ 0
  · rw [if_pos h0]; exact h h0
  rw [if_neg h0]
  by_cases h1 : np = 0
  · rw [if_pos h1]
    unfold gG
    rw [if_pos h1]
    refine ⟨⟨by dsimp only; omega, fun _ => rfl, fun e => absurd rfl e, fun _ _ _ => rfl, fun _ => Nat.le_refl _⟩, ⟨fun _ => ⟨rfl, rfl⟩, fun e => absurd rfl e⟩⟩
  rw [if_neg h1]
  unfold gG
  rw [if_neg h1]
  unfold setGo
  dsimp only
  refine ⟨(sM_eM (t := t) (se := se) hnp hof np 0 0 (-9) 29 (Z.2.2.1, Z.2.2.2.1, fun _ => 0, 77) C00 (fun _ => 0) (by omega) (by omega) rfl (fun i hi => by omega) ?_).1, (sT_eM (t := t) (of := of) (se := se) np 0 30 (-1) _ C00 (fun _ => 0) (by omega) rfl rfl (fun i hi => by omega) (show sSh 30 (-1) 0 30 = true by decide) ?_).1⟩
  · exact ⟨by dsimp only; omega, fun _ => rfl, fun e => absurd rfl e, fun _ _ _ => rfl, fun _ => Nat.le_refl _⟩
  · exact ⟨fun _ => ⟨rfl, rfl⟩, fun e => absurd rfl e⟩
/-! the reference -/
def gN : Nat := 954304
def knOK (kn np : Nat) (t of se : Nat → Nat) (Y : KN) : Prop := kn ≠ 0 → RR np Y.2 (gG t of se np)
theorem know_end {np : Nat} {t of se : Nat → Nat} (h1 : 1 ≤ np) (hnp : np ≤ 4) (pl : Nat → Int) (C : GC) : (gRun t of se np gN (0, va_up pl 0 (-1), C)).1 < 0 := by
  obtain ⟨pl', -, e⟩ := gRun_end (t := t) (of := of) (se := se) (N := gN) h1 hnp (by unfold gN; omega) pl C
  rw [e]; exact (by decide : (-1 : Int) < 0)
theorem know_ok {kn np : Nat} {t of se : Nat → Nat} {Y : KN} (hnp : np ≤ 4) (h : knOK kn np t of se Y) : knOK 1 np t of se (knowF kn np t of se gN Y) := by
  intro _
  unfold knowF
  by_cases h0 : kn ≠ 0
  · rw [if_pos h0]; exact h h0
  rw [if_neg h0]
  by_cases h1 : np = 0
  · rw [if_pos h1]
    unfold gG
    rw [if_pos h1]
    exact ⟨rfl, rfl, fun e => absurd rfl e⟩
  rw [if_neg h1]
  obtain ⟨pl', -, e⟩ := gRun_end (t := t) (of := of) (se := se) (N := gN) (by omega) hnp (by unfold gN; omega) Y.1 ((fun _ => 0), 0, Y.2.2.2)
  rw [e]
  unfold gG
  rw [if_neg h1]
  show RR np (eM t of se np np 0 (va_up Y.1 0 (-1)) _) _
  rw [eM_congr np 0 (va_up Y.1 0 (-1)) (fun _ => 0) _ (by omega) (fun j hj => by omega)]
  exact eM_RR np 0 _ _ _ ⟨rfl, rfl, fun e => absurd rfl e⟩
theorem know_pb {kn np : Nat} {t of se : Nat → Nat} {Y : KN} (hnp : np ≤ 4) (hof : ∀ j, of j ≤ 9) (h : gPB Y.1) (hok : gOK Y.2) : gPB (knowF kn np t of se gN Y).1 ∧ gOK (knowF kn np t of se gN Y).2 := by
  unfold knowF
  by_cases h0 : kn ≠ 0
  · rw [if_pos h0]; exact ⟨h, hok⟩
  rw [if_neg h0]
  by_cases h1 : np = 0
  · rw [if_pos h1]
    exact ⟨k_upZ h (by omega), hok⟩
  rw [if_neg h1]
  obtain ⟨pl', hb, e⟩ := gRun_end (t := t) (of := of) (se := se) (N := gN) (by omega) hnp (by unfold gN; omega) Y.1 ((fun _ => 0), 0, Y.2.2.2)
  rw [e]
  refine ⟨hb h, ?_⟩
  have hall : ∀ (d s : Nat) (pl : Nat → Int) (C : GC), gPB pl → gOK C → gOK (eM t of se np d s pl C) := by
    intro d
    induction d with
    | zero => intro s pl C hp hc; exact gChoose_ok hp hof hnp hc
    | succ d ih =>
      intro s pl C hp hc
      unfold eM
      refine kLoop_inv2 (B := 30) (fun p hp2 C h => ?_) 30 0 C (by omega) hc
      split
      · exact ih (s + 1) _ C (k_upZ hp (by omega)) h
      · exact h
  exact hall np 0 _ _ (k_upZ h (by omega)) hok
/-! the answers -/
theorem cSum_congr {f g : Nat → Nat} : ∀ (c i acc : Nat), (∀ j, j < i + c → f j = g j) → cSum f c i acc = cSum g c i acc
  | 0, _, _, _ => rfl
  | c + 1, i, acc, h => by unfold cSum; rw [h i (by omega), cSum_congr c (i + 1) _ (fun j hj => h j (by omega))]
theorem wSum_congr {f g : Nat → Nat} : ∀ (c i acc : Nat), (∀ j, j < i + c → f j = g j) → wSum f c i acc = wSum g c i acc
  | 0, _, _, _ => rfl
  | c + 1, i, acc, h => by unfold wSum; rw [h i (by omega), wSum_congr c (i + 1) _ (fun j hj => h j (by omega))]
/-- class against reference, both settled -/
theorem both_ok {np : Nat} {t of se : Nat → Nat} {Z : SET} {Y : KN} (hnp : np ≤ 4) (hof : ∀ j, of j ≤ 9) (h1 : phOK 1 np t of se Z) (h2 : knOK 1 np t of se Y) :
    (∀ j, j ≤ 9 → Z.2.2.2.2.1 j = Y.2.1 j) ∧ (∀ j, Z.2.2.2.2.1 j ≤ 1000000) ∧ (∀ j, Y.2.1 j ≤ 1000000) ∧ Y.2.2.1 ≤ 1000000 ∧ (Y.2.2.1 ≠ 0 → 0 ≤ Y.2.2.2.1 ∧ Y.2.2.2.1 ≤ 199) ∧ (Z.2.2.2.2.2.1 ≠ 77 ↔ Y.2.2.1 ≠ 0) ∧
    (Y.2.2.1 ≠ 0 → Y.2.2.2.1 = (Z.2.2.2.2.2.1 : Int) ∧ (∀ i, i < np → Y.2.2.2.2.1 i = (Z.2.2.2.1 i : Int)) ∧ Y.2.1 Z.2.2.2.2.2.1 = Z.2.2.2.2.1 Z.2.2.2.2.2.1 ∧ Y.2.2.2.2.2.1 = Z.2.2.2.2.2.2.1 ∧ Y.2.2.2.2.2.2 = Z.2.2.2.2.2.2.2) := by
  obtain ⟨⟨a1, a2, a3, a4, a5⟩, b1, b2⟩ := h1 (by decide)
  obtain ⟨r1, r2, r3⟩ := h2 (by decide)
  obtain ⟨⟨i1, i2, i3⟩, i4⟩ := gG_I (t := t) (se := se) hof hnp
  dsimp only at a1 a2 a3 a4 a5 b1 b2
  have hmn : ∀ j, Y.2.1 j ≤ 810000 := fun j => by rw [r1]; have := i1 j; omega
  have hz : ∀ j, Z.2.2.2.2.1 j ≤ 810000 := fun j => by have := a5 j; rw [← r1] at this; have := hmn j; omega
  refine ⟨fun j hj => by rw [r1]; exact a4 j (by omega) (by omega), fun j => by have := hz j; omega, fun j => by have := hmn j; omega, by rw [r2]; omega, fun e => ?_, ⟨fun e => by rw [r2]; exact (a3 e).1, fun e e2 => e (by rw [r2]; exact a2 e2)⟩, fun e => ?_⟩
  · have := i3 (by rw [← r2]; exact e)
    rw [(r3 e).1]; omega
  · obtain ⟨c1, c2, c3, c4⟩ := r3 e
    have e7 : Z.2.2.2.2.2.1 ≠ 77 := fun e2 => e (by rw [r2]; exact a2 e2)
    obtain ⟨d1, d2, d3⟩ := a3 e7
    obtain ⟨f1, f2⟩ := b2 d1
    refine ⟨by rw [c1, d2], fun i hi => by rw [c2 i hi, d3 i hi], by rw [r1, ← a4 _ (by omega) (by omega)], by rw [c3, f1], by rw [c4, f2]⟩
