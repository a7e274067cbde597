/-! the two searches side by side -/
/-- tried, first, counts, least of the class against what the reference has found -/
def R1 (np : Nat) (S : SM) (C : GC) : Prop :=
  S.2.2.2 ≤ 77 ∧ (S.2.2.2 = 77 → C.2.1 = 0) ∧ (S.2.2.2 ≠ 77 → C.2.1 ≠ 0 ∧ C.2.2.1 = (S.2.2.2 : Int) ∧ ∀ i, i < np → C.2.2.2.1 i = (S.2.1 i : Int)) ∧ (∀ j, j ≤ 76 → j ≤ max 9 S.2.2.2 → S.2.2.1 j = C.1 j) ∧ ∀ j, S.2.2.1 j ≤ C.1 j
theorem gCopy_spec {pl : Nat → Int} : ∀ (c i : Nat) (f : Nat → Int) (j : Nat), ((j < i ∨ i + c ≤ j) → gCopy pl c i f j = f j) ∧ (i ≤ j → j < i + c → gCopy pl c i f j = pl j)
  | 0, _, _, _ => ⟨fun _ => rfl, fun _ _ => by omega⟩
  | c + 1, i, f, j => by
    unfold gCopy
    obtain ⟨h1, h2⟩ := gCopy_spec (pl := pl) c (i + 1) (va_up f i (pl i)) j
    refine ⟨fun h => ?_, fun h3 h4 => ?_⟩
    · rw [h1 (by omega), va_up_ne _ _ (by omega)]
    · by_cases e : j = i
      · subst e; rw [h1 (by omega), va_up_self]
      · exact h2 (by omega) (by omega)
theorem R1_leaf {np mv : Nat} {of : Nat → Nat} {pl : Nat → Int} {S : SM} {C : GC} (hg : gMoved pl of np = (mv : Int)) (hmv : mv ≤ 76) (hpl : ∀ i, i < np → pl i = (S.1 i : Int)) (h : R1 np S C) : R1 np (sNote mv S) (gChoose of np pl C) ∧ (sNote mv S).1 = S.1 := by
  obtain ⟨h1, h2, h3, h4, h5⟩ := h
  have hto : (gMoved pl of np).toNat = mv := by omega
  have hcn : ∀ j, va_up S.2.2.1 mv (S.2.2.1 mv + 1) j ≤ va_up C.1 mv (C.1 mv + 1) j := fun j => by
    unfold va_up; split
    · have := h5 mv; omega
    · exact h5 j
  have hce : ∀ j, (S.2.2.1 j = C.1 j) → S.2.2.1 mv = C.1 mv → va_up S.2.2.1 mv (S.2.2.1 mv + 1) j = va_up C.1 mv (C.1 mv + 1) j := fun j a b => by
    unfold va_up; split
    · rw [b]
    · exact a
  unfold sNote
  rw [if_pos hmv]
  by_cases hl : mv < S.2.2.2
  · rw [if_pos hl]
    refine ⟨?_, rfl⟩
    unfold R1 gChoose
    rw [hto, hg]
    dsimp only
    have hc : C.2.1 = 0 ∨ (mv : Int) < C.2.2.1 := by
      by_cases e : S.2.2.2 = 77
      · exact Or.inl (h2 e)
      · exact Or.inr (by rw [(h3 e).2.1]; omega)
    rw [if_pos hc, if_pos hc]
    refine ⟨by omega, by omega, fun _ => ⟨by omega, rfl, fun i hi => by rw [(gCopy_spec np 0 _ i).2 (by omega) (by omega)]; exact hpl i hi⟩, fun j hj hj2 => hce j (h4 j hj (by omega)) (h4 mv hmv (by omega)), hcn⟩
  · rw [if_neg hl]
    refine ⟨?_, rfl⟩
    have e : S.2.2.2 ≠ 77 := by omega
    obtain ⟨a, b, d⟩ := h3 e
    unfold R1 gChoose
    rw [hto, hg]
    dsimp only
    have hc : ¬ (C.2.1 = 0 ∨ (mv : Int) < C.2.2.1) := by rw [b]; omega
    rw [if_neg hc, if_neg hc]
    refine ⟨h1, fun e2 => absurd e2 e, fun _ => ⟨by omega, b, d⟩, fun j hj hj2 => ?_, hcn⟩
    by_cases ej : j = mv
    · subst ej; rw [va_up_self, va_up_self, h4 j hj hj2]
    · rw [va_up_ne _ _ ej, va_up_ne _ _ ej]; exact h4 j hj hj2
/-- a choice that is moved too far changes nothing that counts -/
def far1 (M : Nat) (C0 C : GC) : Prop := C.2.1 ≠ 0 ∧ C.2.2.1 = C0.2.2.1 ∧ C.2.2.2.1 = C0.2.2.2.1 ∧ (∀ j, j ≤ M → C.1 j = C0.1 j) ∧ ∀ j, C0.1 j ≤ C.1 j
theorem eM_far {t of se : Nat → Nat} {np M : Nat} (hnp : np ≤ 4) (hof : ∀ j, of j ≤ 9) {C0 : GC} (hle : C0.2.2.1 ≤ (M : Int)) : ∀ (d s : Nat) (pl : Nat → Int) (C : GC), s + d = np → 1 ≤ s → M < (mid pl of s).1 → (∀ i, i < s → 0 ≤ pl i ∧ pl i ≤ 29) → far1 M C0 C → far1 M C0 (eM t of se np d s pl C)
  | 0, s, pl, C, hs, h1, hM, hpl, h => by
    obtain ⟨a, b, c, d, e⟩ := h
    have hsn : s = np := by omega
    subst hsn
    obtain ⟨g1, g2⟩ := gMoved_mid h1 hnp hpl hof
    unfold eM gChoose far1
    dsimp only
    have hc : ¬ (C.2.1 = 0 ∨ gMoved pl of s < C.2.2.1) := by rw [b, g1]; omega
    rw [if_neg hc, if_neg hc]
    refine ⟨by omega, b, c, fun j hj => ?_, fun j => ?_⟩
    · rw [va_up_ne _ _ (by omega)]; exact d j hj
    · unfold va_up; split
      · have := e j; rename_i h9; rw [h9] at this ⊢; omega
      · exact e j
  | d + 1, s, pl, C, hs, h1, hM, hpl, h => by
    unfold eM
    refine kLoop_inv2 (B := 30) (fun p hp C h => ?_) 30 0 C (by omega) h
    split
    · refine eM_far hnp hof hle d (s + 1) (va_up pl s (p : Int)) C (by omega) (by omega) ?_ (fun i hi => ?_) h
      · refine Nat.lt_of_lt_of_le ?_ mid_mono
        rw [mid_congr s (pl := va_up pl s (p : Int)) (pl' := pl) (fun i hi => va_up_ne _ _ (by omega))]
        exact hM
      · unfold va_up; split
        · omega
        · exact hpl i (by omega)
    · exact h
/-- the class's step, by the place -/
def sB (of se : Nat → Nat) (rec_ : Nat → Int → Int → SM → SM) (s mv : Nat) (lo hi : Int) (p : Nat) (S : SM) : SM :=
  if sMn mv ((p : Int) - (of s : Int)) (sNr lo hi ((p : Int) - (of s : Int))) ≤ max 9 S.2.2.2 then
    (if fFree S.1 se s p s 0 = true then
      (if s = 1 then rec_ (sMn mv ((p : Int) - (of s : Int)) (sNr lo hi ((p : Int) - (of s : Int)))) (min lo ((p : Int) - (of s : Int))) (max hi ((p : Int) - (of s : Int))) (va_up S.1 s p, S.2)
        else rec_ (sMn mv ((p : Int) - (of s : Int)) (sNr lo hi ((p : Int) - (of s : Int)))) (sNr lo hi ((p : Int) - (of s : Int))) (sNr lo hi ((p : Int) - (of s : Int))) (va_up S.1 s p, S.2))
      else S)
    else S
theorem fFree_gFree {tr se : Nat → Nat} {pl : Nat → Int} {s p : Nat} : ∀ (c i : Nat), (∀ j, j < i + c → pl j = (tr j : Int)) → fFree tr se s p c i = gFree pl se s (p : Int) c i
  | 0, _, _ => rfl
  | c + 1, i, h => by
    unfold fFree gFree
    rw [h i (by omega), fFree_gFree c (i + 1) (fun j hj => h j (by omega))]
    by_cases e : tr i = p
    · rw [if_pos e, if_pos (show (tr i : Int) = (p : Int) by omega)]
    · rw [if_neg e, if_neg (show ¬ (tr i : Int) = (p : Int) by omega)]
theorem mid_step {pl : Nat → Int} {of : Nat → Nat} {s mv p : Nat} {lo hi : Int} (h : mid pl of s = (mv, lo, hi)) : mid (va_up pl s (p : Int)) of (s + 1) = (sMn mv ((p : Int) - (of s : Int)) (sNr lo hi ((p : Int) - (of s : Int))), if s = 1 then min lo ((p : Int) - (of s : Int)) else sNr lo hi ((p : Int) - (of s : Int)), if s = 1 then max hi ((p : Int) - (of s : Int)) else sNr lo hi ((p : Int) - (of s : Int))) := by
  unfold mid
  rw [mid_congr s (pl := va_up pl s (p : Int)) (pl' := pl) (fun i hi => va_up_ne _ _ (by omega)), h, va_up_self]
theorem mid_le {pl : Nat → Int} {of : Nat → Nat} {s : Nat} (h1 : 1 ≤ s) (h4 : s ≤ 4) (hpl : ∀ i, i < s → 0 ≤ pl i ∧ pl i ≤ 29) (hof : ∀ j, of j ≤ 9) : (mid pl of s).1 ≤ 76 := (gMoved_mid h1 h4 hpl hof).2
theorem sM_eM {t of se pc0 : Nat → Nat} {Pl0 : Nat → Nat → Nat} {np : Nat} (hnp : np ≤ 4) (hof : ∀ j, of j ≤ 9) : ∀ (d s mv : Nat) (lo hi : Int) (S : SM) (C : GC) (pl : Nat → Int), s + d = np → 1 ≤ np → mid pl of s = (mv, lo, hi) → (∀ i, i < s → pl i = (S.1 i : Int) ∧ 0 ≤ pl i ∧ pl i ≤ 29) → R1 np S C → R1 np (sM of se (fAll t se np 0 pc0 Pl0).1 (fAll t se np 0 pc0 Pl0).2 d s mv lo hi S) (eM t of se np d s pl C) ∧ ∀ i, i < s → (sM of se (fAll t se np 0 pc0 Pl0).1 (fAll t se np 0 pc0 Pl0).2 d s mv lo hi S).1 i = S.1 i
  | 0, s, mv, lo, hi, S, C, pl, hs, h1, hm, hpl, h => by
    have hsn : s = np := by omega
    subst hsn
    obtain ⟨g1, g2⟩ := gMoved_mid h1 hnp (fun i hi => (hpl i hi).2) hof
    rw [hm] at g1 g2
    obtain ⟨r1, r2⟩ := R1_leaf g1 g2 (fun i hi => (hpl i hi).1) h
    exact ⟨r1, fun i _ => congrFun r2 i⟩
  | d + 1, s, mv, lo, hi, S, C, pl, hs, h1, hm, hpl, h => by
    have e1 : sM of se (fAll t se np 0 pc0 Pl0).1 (fAll t se np 0 pc0 Pl0).2 (d + 1) s mv lo hi S = kLoop (fun p S => if t p &&& se s ≠ 0 then sB of se (sM of se (fAll t se np 0 pc0 Pl0).1 (fAll t se np 0 pc0 Pl0).2 d (s + 1)) s mv lo hi p S else S) 30 0 S := by
      unfold sM
      exact kLoop_places (b := sB of se (sM of se (fAll t se np 0 pc0 Pl0).1 (fAll t se np 0 pc0 Pl0).2 d (s + 1)) s mv lo hi) (by omega) S
    rw [e1]
    unfold eM
    have key := kLoop_rel (B := 30) (R := fun (S' : SM) (C' : GC) => R1 np S' C' ∧ ∀ i, i < s → S'.1 i = S.1 i) (b := fun p S => if t p &&& se s ≠ 0 then sB of se (sM of se (fAll t se np 0 pc0 Pl0).1 (fAll t se np 0 pc0 Pl0).2 d (s + 1)) s mv lo hi p S else S) (b' := fun p C => if gFit t se pl s p = true then eM t of se np d (s + 1) (va_up pl s (p : Int)) C else C) ?_ 30 0 S C (by omega) ⟨h, fun _ _ => rfl⟩
    · exact key
    intro p hp S' C' hR
    obtain ⟨hR1, hR2⟩ := hR
    by_cases ht : t p &&& se s ≠ 0
    · rw [if_pos ht]
      have hfree : fFree S'.1 se s p s 0 = gFree pl se s (p : Int) s 0 := fFree_gFree s 0 (fun j hj => by rw [hR2 j (by omega)]; exact (hpl j (by omega)).1)
      have hgf : gFit t se pl s p = gFree pl se s (p : Int) s 0 := by unfold gFit; rw [decide_eq_true ht, Bool.true_and]
      unfold sB
      have hpl' : ∀ i, i < s + 1 → va_up pl s (p : Int) i = ((va_up S'.1 s p) i : Int) ∧ 0 ≤ va_up pl s (p : Int) i ∧ va_up pl s (p : Int) i ≤ 29 := fun i hi => by
        unfold va_up; split
        · exact ⟨rfl, by omega, by omega⟩
        · rw [hR2 i (by omega)]; exact hpl i (by omega)
      have hmid := mid_step (p := p) hm
      by_cases hmn : sMn mv ((p : Int) - (of s : Int)) (sNr lo hi ((p : Int) - (of s : Int))) ≤ max 9 S'.2.2.2
      · rw [if_pos hmn, hfree, hgf]
        by_cases hfr : gFree pl se s (p : Int) s 0 = true
        · rw [if_pos hfr, if_pos hfr]
          by_cases e : s = 1
          · rw [if_pos e]
            rw [if_pos e, if_pos e] at hmid
            obtain ⟨a, b⟩ := sM_eM hnp hof d (s + 1) _ _ _ (va_up S'.1 s p, S'.2) C' (va_up pl s (p : Int)) (by omega) h1 hmid hpl' hR1
            exact ⟨a, fun i hi => by rw [b i (by omega)]; exact (va_up_ne _ _ (by omega)).trans (hR2 i hi)⟩
          · rw [if_neg e]
            rw [if_neg e, if_neg e] at hmid
            obtain ⟨a, b⟩ := sM_eM hnp hof d (s + 1) _ _ _ (va_up S'.1 s p, S'.2) C' (va_up pl s (p : Int)) (by omega) h1 hmid hpl' hR1
            exact ⟨a, fun i hi => by rw [b i (by omega)]; exact (va_up_ne _ _ (by omega)).trans (hR2 i hi)⟩
        · rw [if_neg hfr, if_neg hfr]; exact ⟨hR1, hR2⟩
      · rw [if_neg hmn, hgf]
        by_cases hfr : gFree pl se s (p : Int) s 0 = true
        · rw [if_pos hfr]
          refine ⟨?_, hR2⟩
          obtain ⟨r1, r2, r3, r4, r5⟩ := hR1
          have hb := mid_le (pl := va_up pl s (p : Int)) (of := of) (s := s + 1) (by omega) (by omega) (fun i hi => (hpl' i hi).2) hof
          rw [hmid] at hb
          dsimp only at hb
          have hl : S'.2.2.2 ≠ 77 := by omega
          obtain ⟨a, b, c⟩ := r3 hl
          obtain ⟨f1, f2, f3, f4, f5⟩ := eM_far (t := t) (se := se) (M := max 9 S'.2.2.2) hnp hof (C0 := C') (by rw [b]; omega) d (s + 1) (va_up pl s (p : Int)) C' (by omega) (by omega) (by rw [hmid]; dsimp only; omega) (fun i hi => (hpl' i hi).2) ⟨a, rfl, rfl, fun _ _ => rfl, fun _ => Nat.le_refl _⟩
          refine ⟨r1, fun e => absurd e hl, fun _ => ⟨f1, by rw [f2]; exact b, fun i hi => by rw [f3]; exact c i hi⟩, fun j hj hj2 => by rw [f4 j hj2]; exact r4 j hj hj2, fun j => Nat.le_trans (r5 j) (f5 j)⟩
        · rw [if_neg hfr]; exact ⟨hR1, hR2⟩
    · rw [if_neg ht]
      have : gFit t se pl s p = false := by unfold gFit; rw [decide_eq_false ht, Bool.false_and]
      rw [this, if_neg (by decide)]
      exact ⟨hR1, hR2⟩
/-! the shortest -/
def R2 (S : SS) (C : GC) : Prop := (C.2.1 = 0 → S.2.1 = 0 ∧ S.2.2 = 30) ∧ (C.2.1 ≠ 0 → C.2.2.2.2.1 = S.2.1 ∧ C.2.2.2.2.2 = S.2.2)
theorem gFrom_end {pl : Nat → Int} : ∀ (c i : Nat) (f : Int), gFrom pl (c + 1) i f = min (gFrom pl c i f) (pl (i + c))
  | 0, i, f => by show (if pl i < f then pl i else f) = min f (pl i); split <;> omega
  | c + 1, i, f => by
    show gFrom pl (c + 1) (i + 1) _ = min (gFrom pl c (i + 1) _) _
    rw [gFrom_end c (i + 1), show i + 1 + c = i + (c + 1) by omega]
theorem gTo_end {pl : Nat → Int} : ∀ (c i : Nat) (f : Int), gTo pl (c + 1) i f = max (gTo pl c i f) (pl (i + c))
  | 0, i, f => by show (if f < pl i then pl i else f) = max f (pl i); split <;> omega
  | c + 1, i, f => by
    show gTo pl (c + 1) (i + 1) _ = max (gTo pl c (i + 1) _) _
    rw [gTo_end c (i + 1), show i + 1 + c = i + (c + 1) by omega]
theorem sSh_iff {lo hi sf st : Int} : sSh lo hi sf st = true ↔ (hi - lo < st - sf ∨ (hi - lo = st - sf ∧ lo < sf)) := by
  unfold sSh; simp
def far2 (C0 C : GC) : Prop := C.2.1 ≠ 0 ∧ C.2.2.2.2.1 = C0.2.2.2.2.1 ∧ C.2.2.2.2.2 = C0.2.2.2.2.2
theorem eM_far2 {t of se : Nat → Nat} {np : Nat} {C0 : GC} : ∀ (d s : Nat) (pl : Nat → Int) (C : GC), s + d = np → ¬ sSh (gFrom pl s 0 30) (gTo pl s 0 (-1)) C0.2.2.2.2.1 C0.2.2.2.2.2 = true → far2 C0 C → far2 C0 (eM t of se np d s pl C)
  | 0, s, pl, C, hs, hM, h => by
    obtain ⟨a, b, c⟩ := h
    have hsn : s = np := by omega
    subst hsn
    rw [sSh_iff, ← b, ← c] at hM
    unfold eM gChoose far2
    dsimp only
    have hc : ¬ (C.2.1 = 0 ∨ gTo pl s 0 (-1) - gFrom pl s 0 30 < C.2.2.2.2.2 - C.2.2.2.2.1 ∨ (gTo pl s 0 (-1) - gFrom pl s 0 30 = C.2.2.2.2.2 - C.2.2.2.2.1 ∧ gFrom pl s 0 30 < C.2.2.2.2.1)) := fun h9 => h9.elim a hM
    rw [if_neg hc, if_neg hc]
    exact ⟨by omega, b, c⟩
  | d + 1, s, pl, C, hs, hM, h => by
    unfold eM
    refine kLoop_inv2 (B := 30) (fun p hp C h => ?_) 30 0 C (by omega) h
    split
    · refine eM_far2 d (s + 1) (va_up pl s (p : Int)) C (by omega) ?_ h
      rw [gFrom_end, gTo_end, Nat.zero_add, va_up_self, gFrom_congr s 0 30 (pl := va_up pl s (p : Int)) (pl' := pl) (fun j hj => va_up_ne _ _ (by omega)), gTo_congr s 0 (-1) (pl := va_up pl s (p : Int)) (pl' := pl) (fun j hj => va_up_ne _ _ (by omega))]
      rw [sSh_iff] at hM ⊢
      omega
    · exact h
def tB (se : Nat → Nat) (rec_ : Int → Int → SS → SS) (s : Nat) (lo hi : Int) (p : Nat) (S : SS) : SS :=
  if sSh (min lo (p : Int)) (max hi (p : Int)) S.2.1 S.2.2 = true then
    (if fFree S.1 se s p s 0 = true then rec_ (min lo (p : Int)) (max hi (p : Int)) (va_up S.1 s p, S.2) else S)
    else S
theorem gFT_bd {pl : Nat → Int} : ∀ (s : Nat), 1 ≤ s → (∀ i, i < s → 0 ≤ pl i ∧ pl i ≤ 29) → 0 ≤ gFrom pl s 0 30 ∧ gFrom pl s 0 30 ≤ gTo pl s 0 (-1) ∧ gTo pl s 0 (-1) ≤ 29
  | s + 1, _, hpl => by
    rw [gFrom_end, gTo_end]
    have := hpl s (by omega)
    rw [Nat.zero_add]
    by_cases e : s = 0
    · subst e; show 0 ≤ min 30 (pl 0) ∧ min 30 (pl 0) ≤ max (-1) (pl 0) ∧ max (-1) (pl 0) ≤ 29; omega
    · have := gFT_bd (pl := pl) s (by omega) (fun i hi => hpl i (by omega))
      omega
theorem sT_eM {t of se pc0 : Nat → Nat} {Pl0 : Nat → Nat → Nat} {np : Nat} : ∀ (d s : Nat) (lo hi : Int) (S : SS) (C : GC) (pl : Nat → Int), s + d = np → gFrom pl s 0 30 = lo → gTo pl s 0 (-1) = hi → (∀ i, i < s → pl i = (S.1 i : Int) ∧ 0 ≤ pl i ∧ pl i ≤ 29) → sSh lo hi S.2.1 S.2.2 = true → R2 S C → R2 (sT se (fAll t se np 0 pc0 Pl0).1 (fAll t se np 0 pc0 Pl0).2 d s lo hi S) (eM t of se np d s pl C) ∧ ∀ i, i < s → (sT se (fAll t se np 0 pc0 Pl0).1 (fAll t se np 0 pc0 Pl0).2 d s lo hi S).1 i = S.1 i
  | 0, s, lo, hi, S, C, pl, hs, hlo, hhi, hpl, hsh, h => by
    have hsn : s = np := by omega
    subst hsn
    refine ⟨?_, fun _ _ => rfl⟩
    rw [sSh_iff] at hsh
    unfold eM gChoose R2 sT
    dsimp only
    have hc : C.2.1 = 0 ∨ gTo pl s 0 (-1) - gFrom pl s 0 30 < C.2.2.2.2.2 - C.2.2.2.2.1 ∨ (gTo pl s 0 (-1) - gFrom pl s 0 30 = C.2.2.2.2.2 - C.2.2.2.2.1 ∧ gFrom pl s 0 30 < C.2.2.2.2.1) := by
      by_cases e : C.2.1 = 0
      · exact Or.inl e
      · obtain ⟨a, b⟩ := h.2 e
        right; rw [a, b, hlo, hhi]; exact hsh
    rw [if_pos hc, if_pos hc]
    exact ⟨by omega, fun _ => ⟨hlo, hhi⟩⟩
  | d + 1, s, lo, hi, S, C, pl, hs, hlo, hhi, hpl, hsh, h => by
    have e1 : sT se (fAll t se np 0 pc0 Pl0).1 (fAll t se np 0 pc0 Pl0).2 (d + 1) s lo hi S = kLoop (fun p S => if t p &&& se s ≠ 0 then tB se (sT se (fAll t se np 0 pc0 Pl0).1 (fAll t se np 0 pc0 Pl0).2 d (s + 1)) s lo hi p S else S) 30 0 S := by
      unfold sT
      exact kLoop_places (b := tB se (sT se (fAll t se np 0 pc0 Pl0).1 (fAll t se np 0 pc0 Pl0).2 d (s + 1)) s lo hi) (by omega) S
    rw [e1]
    unfold eM
    have key := kLoop_rel (B := 30) (R := fun (S' : SS) (C' : GC) => R2 S' C' ∧ ∀ i, i < s → S'.1 i = S.1 i) (b := fun p S => if t p &&& se s ≠ 0 then tB se (sT se (fAll t se np 0 pc0 Pl0).1 (fAll t se np 0 pc0 Pl0).2 d (s + 1)) s lo hi p S else S) (b' := fun p C => if gFit t se pl s p = true then eM t of se np d (s + 1) (va_up pl s (p : Int)) C else C) ?_ 30 0 S C (by omega) ⟨h, fun _ _ => rfl⟩
    · exact key
    intro p hp S' C' hR
    obtain ⟨hR1, hR2⟩ := hR
    by_cases ht : t p &&& se s ≠ 0
    · rw [if_pos ht]
      have hfree : fFree S'.1 se s p s 0 = gFree pl se s (p : Int) s 0 := fFree_gFree s 0 (fun j hj => by rw [hR2 j (by omega)]; exact (hpl j (by omega)).1)
      have hgf : gFit t se pl s p = gFree pl se s (p : Int) s 0 := by unfold gFit; rw [decide_eq_true ht, Bool.true_and]
      have hpl' : ∀ i, i < s + 1 → va_up pl s (p : Int) i = ((va_up S'.1 s p) i : Int) ∧ 0 ≤ va_up pl s (p : Int) i ∧ va_up pl s (p : Int) i ≤ 29 := fun i hi => by
        unfold va_up; split
        · exact ⟨rfl, by omega, by omega⟩
        · rw [hR2 i (by omega)]; exact hpl i (by omega)
      have hfr1 : gFrom (va_up pl s (p : Int)) (s + 1) 0 30 = min lo (p : Int) := by
        rw [gFrom_end, Nat.zero_add, va_up_self, gFrom_congr s 0 30 (pl := va_up pl s (p : Int)) (pl' := pl) (fun j hj => va_up_ne _ _ (by omega)), hlo]
      have hto1 : gTo (va_up pl s (p : Int)) (s + 1) 0 (-1) = max hi (p : Int) := by
        rw [gTo_end, Nat.zero_add, va_up_self, gTo_congr s 0 (-1) (pl := va_up pl s (p : Int)) (pl' := pl) (fun j hj => va_up_ne _ _ (by omega)), hhi]
      unfold tB
      by_cases hmn : sSh (min lo (p : Int)) (max hi (p : Int)) S'.2.1 S'.2.2 = true
      · rw [if_pos hmn, hfree, hgf]
        by_cases hfr : gFree pl se s (p : Int) s 0 = true
        · rw [if_pos hfr, if_pos hfr]
          obtain ⟨a, b⟩ := sT_eM (of := of) (np := np) d (s + 1) _ _ (va_up S'.1 s p, S'.2) C' (va_up pl s (p : Int)) (by omega) hfr1 hto1 hpl' hmn hR1
          exact ⟨a, fun i hi => by rw [b i (by omega)]; exact (va_up_ne _ _ (by omega)).trans (hR2 i hi)⟩
        · rw [if_neg hfr, if_neg hfr]; exact ⟨hR1, hR2⟩
      · rw [if_neg hmn, hgf]
        by_cases hfr : gFree pl se s (p : Int) s 0 = true
        · rw [if_pos hfr]
          refine ⟨?_, hR2⟩
          have hb := gFT_bd (pl := va_up pl s (p : Int)) (s + 1) (by omega) (fun i hi => (hpl' i hi).2)
          rw [hfr1, hto1] at hb
          have hc0 : C'.2.1 ≠ 0 := fun e => by
            obtain ⟨a, b⟩ := hR1.1 e
            rw [a, b, sSh_iff] at hmn
            omega
          obtain ⟨a, b⟩ := hR1.2 hc0
          obtain ⟨f1, f2, f3⟩ := eM_far2 (t := t) (of := of) (se := se) (np := np) (C0 := C') d (s + 1) (va_up pl s (p : Int)) C' (by omega) (by rw [hfr1, hto1, a, b]; exact hmn) ⟨hc0, rfl, rfl⟩
          exact ⟨fun e => absurd e f1, fun _ => by rw [f2, f3]; exact ⟨a, b⟩⟩
        · rw [if_neg hfr]; exact ⟨hR1, hR2⟩
    · rw [if_neg ht]
      have : gFit t se pl s p = false := by unfold gFit; rw [decide_eq_false ht, Bool.false_and]
      rw [this, if_neg (by decide)]
      exact ⟨hR1, hR2⟩
