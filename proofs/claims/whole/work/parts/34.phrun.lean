/-! the reference's search as a search by depth -/
def eM (t of se : Nat → Nat) (np : Nat) : Nat → Nat → (Nat → Int) → GC → GC
  | 0, _, pl, C => gChoose of np pl C
  | d + 1, s, pl, C => kLoop (fun p C => if gFit t se pl s p = true then eM t of se np d (s + 1) (va_up pl s (p : Int)) C else C) 30 0 C
theorem gFree_congr {pl pl' : Nat → Int} {se : Nat → Nat} {s : Nat} {p : Int} : ∀ (c i : Nat), (∀ j, j < i + c → pl j = pl' j) → gFree pl se s p c i = gFree pl' se s p c i
  | 0, _, _ => rfl
  | c + 1, i, h => by
    unfold gFree
    rw [h i (by omega), gFree_congr c (i + 1) (fun j hj => h j (by omega))]
theorem gFit_congr {t se : Nat → Nat} {pl pl' : Nat → Int} {s p : Nat} (h : ∀ j, j < s → pl j = pl' j) : gFit t se pl s p = gFit t se pl' s p := by
  unfold gFit; rw [gFree_congr s 0 (fun j hj => h j (by omega))]
theorem gNext_congr {t se : Nat → Nat} {pl pl' : Nat → Int} {s : Nat} (h : ∀ j, j < s → pl j = pl' j) : ∀ (c p : Nat), gNext t se pl s c p = gNext t se pl' s c p
  | 0, _ => rfl
  | c + 1, p => by unfold gNext; rw [gFit_congr h, gNext_congr h c (p + 1)]
theorem gSum_congr {pl pl' : Nat → Int} {of : Nat → Nat} {m : Int} : ∀ (c i : Nat) (acc : Int), (∀ j, j < i + c → pl j = pl' j) → gSum pl of m c i acc = gSum pl' of m c i acc
  | 0, _, _, _ => rfl
  | c + 1, i, acc, h => by unfold gSum; rw [h i (by omega), gSum_congr c (i + 1) _ (fun j hj => h j (by omega))]
theorem gBest_congr {pl pl' : Nat → Int} {of : Nat → Nat} {np : Nat} (h : ∀ j, j < np → pl j = pl' j) : ∀ (c i : Nat) (b : Int), gBest pl of np c i b = gBest pl' of np c i b
  | 0, _, _ => rfl
  | c + 1, i, b => by
    unfold gBest; rw [gSum_congr np 0 0 (fun j hj => h j (by omega)), gBest_congr h c (i + 1)]
theorem gFrom_congr {pl pl' : Nat → Int} : ∀ (c i : Nat) (f : Int), (∀ j, j < i + c → pl j = pl' j) → gFrom pl c i f = gFrom pl' c i f
  | 0, _, _, _ => rfl
  | c + 1, i, f, h => by unfold gFrom; rw [h i (by omega), gFrom_congr c (i + 1) _ (fun j hj => h j (by omega))]
theorem gTo_congr {pl pl' : Nat → Int} : ∀ (c i : Nat) (f : Int), (∀ j, j < i + c → pl j = pl' j) → gTo pl c i f = gTo pl' c i f
  | 0, _, _, _ => rfl
  | c + 1, i, f, h => by unfold gTo; rw [h i (by omega), gTo_congr c (i + 1) _ (fun j hj => h j (by omega))]
theorem gCopy_congr {pl pl' : Nat → Int} : ∀ (c i : Nat) (f : Nat → Int), (∀ j, j < i + c → pl j = pl' j) → gCopy pl c i f = gCopy pl' c i f
  | 0, _, _, _ => rfl
  | c + 1, i, f, h => by unfold gCopy; rw [h i (by omega), gCopy_congr c (i + 1) _ (fun j hj => h j (by omega))]
theorem gChoose_congr {of : Nat → Nat} {np : Nat} {pl pl' : Nat → Int} {C : GC} (h : ∀ j, j < np → pl j = pl' j) : gChoose of np pl C = gChoose of np pl' C := by
  unfold gChoose gMoved
  rw [gBest_congr h, gFrom_congr np 0 30 (fun j hj => h j (by omega)), gTo_congr np 0 (-1) (fun j hj => h j (by omega)), gCopy_congr np 0 _ (fun j hj => h j (by omega))]
theorem eM_congr {t of se : Nat → Nat} {np : Nat} : ∀ (d s : Nat) (pl pl' : Nat → Int) (C : GC), s + d = np → (∀ j, j < s → pl j = pl' j) → eM t of se np d s pl C = eM t of se np d s pl' C
  | 0, s, pl, pl', C, hs, h => gChoose_congr (fun j hj => h j (by omega))
  | d + 1, s, pl, pl', C, hs, h => by
    unfold eM
    refine kLoop_congr (B := 30) (fun p _ C => ?_) 30 0 C (by omega)
    rw [gFit_congr h]
    by_cases hf : gFit t se pl' s p = true
    · rw [if_pos hf, if_pos hf]
      refine eM_congr d (s + 1) _ _ C (by omega) (fun j hj => ?_)
      unfold va_up
      by_cases e : j = s
      · rw [if_pos e, if_pos e]
      · rw [if_neg e, if_neg e]; exact h j (by omega)
    · rw [if_neg hf, if_neg hf]
/-- how many steps a search takes at most -/
def wgt : Nat → Nat
  | 0 => 1
  | d + 1 => 1 + 31 * wgt d
def eB (t of se : Nat → Nat) (np d s : Nat) (pl : Nat → Int) (p : Nat) (C : GC) : GC := if gFit t se pl s p = true then eM t of se np d (s + 1) (va_up pl s (p : Int)) C else C
theorem eB_congr {t of se : Nat → Nat} {np d s : Nat} {pl pl' : Nat → Int} (hs : s + (d + 1) = np) (h : ∀ j, j < s → pl j = pl' j) : eB t of se np d s pl = eB t of se np d s pl' := by
  funext p C
  unfold eB
  rw [gFit_congr h]
  by_cases hf : gFit t se pl' s p = true
  · rw [if_pos hf, if_pos hf]
    refine eM_congr d (s + 1) _ _ C (by omega) (fun j hj => ?_)
    unfold va_up
    by_cases e : j = s
    · rw [if_pos e, if_pos e]
    · rw [if_neg e, if_neg e]; exact h j (by omega)
  · rw [if_neg hf, if_neg hf]
theorem va_up_up {α : Type} (f : Nat → α) (i : Nat) (a b : α) : va_up (va_up f i a) i b = va_up f i b := by
  funext j; unfold va_up; split <;> rfl
def gPB (pl : Nat → Int) : Prop := ∀ j, -1 ≤ pl j ∧ pl j ≤ 30
theorem gRun_eM {t of se : Nat → Nat} {np : Nat} : ∀ (d s : Nat), s + (d + 1) = np → ∀ (m q : Nat), q + m = 30 → ∀ (pl : Nat → Int) (C : GC), pl s = (q : Int) - 1 → ∃ (k : Nat) (pl' : Nat → Int), 1 ≤ k ∧ k ≤ wgt d * (m + 1) ∧ (∀ i, i < s → pl' i = pl i) ∧ (gPB pl → gPB pl') ∧ ∀ N, gRun t of se np (N + k) ((s : Int), pl, C) = gRun t of se np N ((s : Int) - 1, pl', kLoop (eB t of se np d s pl) m q C) := by
  intro d
  induction d with
  | zero =>
    intro s hs m
    induction m with
    | zero =>
      intro q hq pl C hpl
      have hq30 : q = 30 := by omega
      subst hq30
      refine ⟨1, va_up pl s ((30 : Nat) : Int), Nat.le_refl _, by unfold wgt; omega, fun i hi => va_up_ne _ _ (by omega), fun hb => k_upZ hb (by omega), fun N => ?_⟩
      rw [gRun_go (by omega), gStep_1 (p := 30) (by rw [show ((s : Int).toNat) = s from rfl, hpl]; rfl) rfl]
      rfl
    | succ m ih =>
      intro q hq pl C hpl
      have hp0 : (pl s + 1).toNat = q := by omega
      by_cases hf : gFit t se pl s q = true
      · obtain ⟨k, pl', h1, h2, h3, hb3, h4⟩ := ih (q + 1) (by omega) (va_up pl s (q : Int)) (gChoose of np (va_up pl s (q : Int)) C) (by rw [va_up_self]; omega)
        refine ⟨k + 1, pl', by omega, by unfold wgt at *; omega, fun i hi => by rw [h3 i hi, va_up_ne _ _ (by omega)], fun hb => hb3 (k_upZ hb (by omega)), fun N => ?_⟩
        rw [← Nat.add_assoc, gRun_go (by omega), gStep_2 (p := q) (by rw [show ((s : Int).toNat) = s from rfl, hp0, show 30 - q = m + 1 by omega, gNext, if_pos hf]) (by omega) (by omega)]
        rw [show ((s : Int).toNat) = s from rfl, h4 N]
        rw [eB_congr hs (pl := va_up pl s (q : Int)) (pl' := pl) (fun j hj => va_up_ne _ _ (by omega))]
        show _ = gRun t of se np N (_, _, kLoop _ m (q + 1) (eB t of se np 0 s pl q C))
        rw [show eB t of se np 0 s pl q C = gChoose of np (va_up pl s (q : Int)) C from if_pos hf]
      · obtain ⟨k, pl', h1, h2, h3, hb3, h4⟩ := ih (q + 1) (by omega) (va_up pl s (q : Int)) C (by rw [va_up_self]; omega)
        refine ⟨k, pl', h1, by unfold wgt at *; omega, fun i hi => by rw [h3 i hi, va_up_ne _ _ (by omega)], fun hb => hb3 (k_upZ hb (by omega)), fun N => ?_⟩
        have hst : gStep t of se np ((s : Int), pl, C) = gStep t of se np ((s : Int), va_up pl s (q : Int), C) := by
          unfold gStep
          dsimp only
          rw [show ((s : Int).toNat) = s from rfl, hp0, va_up_self, show ((q : Int) + 1).toNat = q + 1 by omega, show 30 - q = m + 1 by omega, show 30 - (q + 1) = m by omega, gNext, if_neg hf, gNext_congr (pl := pl) (pl' := va_up pl s (q : Int)) (fun j hj => (va_up_ne _ _ (by omega)).symm), va_up_up]
        have hN : N + k = (N + k - 1) + 1 := by omega
        have h5 := h4 N
        rw [hN, gRun_go (by omega)] at h5
        rw [hN, gRun_go (by omega), hst, h5]
        rw [eB_congr hs (pl := va_up pl s (q : Int)) (pl' := pl) (fun j hj => va_up_ne _ _ (by omega))]
        show _ = gRun t of se np N (_, _, kLoop _ m (q + 1) (eB t of se np 0 s pl q C))
        rw [show eB t of se np 0 s pl q C = C from if_neg hf]
  | succ d ihd =>
    intro s hs m
    induction m with
    | zero =>
      intro q hq pl C hpl
      have hq30 : q = 30 := by omega
      subst hq30
      refine ⟨1, va_up pl s ((30 : Nat) : Int), Nat.le_refl _, by unfold wgt; omega, fun i hi => va_up_ne _ _ (by omega), fun hb => k_upZ hb (by omega), fun N => ?_⟩
      rw [gRun_go (by omega), gStep_1 (p := 30) (by rw [show ((s : Int).toNat) = s from rfl, hpl]; rfl) rfl]
      rfl
    | succ m ih =>
      intro q hq pl C hpl
      have hp0 : (pl s + 1).toNat = q := by omega
      by_cases hf : gFit t se pl s q = true
      · obtain ⟨k1, pl1, a1, a2, a3, ab3, a4⟩ := ihd (s + 1) (by omega) 30 0 (by omega) (va_up (va_up pl s (q : Int)) (s + 1) (-1)) C (by rw [va_up_self]; omega)
        have hpl1 : ∀ j, j < s + 1 → pl1 j = va_up pl s (q : Int) j := fun j hj => by rw [a3 j hj, va_up_ne _ _ (by omega)]
        obtain ⟨k, pl', h1, h2, h3, hb3, h4⟩ := ih (q + 1) (by omega) pl1 (kLoop (eB t of se np d (s + 1) (va_up (va_up pl s (q : Int)) (s + 1) (-1))) 30 0 C) (by rw [hpl1 s (by omega), va_up_self]; omega)
        refine ⟨k + k1 + 1, pl', by omega, ?_, fun i hi => by rw [h3 i hi, hpl1 i (by omega), va_up_ne _ _ (by omega)], fun hb => hb3 (ab3 (k_upZ (k_upZ hb (by omega)) (by omega))), fun N => ?_⟩
        · have hw : wgt (d + 1) = 1 + 31 * wgt d := rfl
          have e1 : wgt (d + 1) * (m + 1 + 1) = wgt (d + 1) * (m + 1) + wgt (d + 1) := Nat.mul_succ _ _
          omega
        rw [← Nat.add_assoc, ← Nat.add_assoc, gRun_go (by omega), gStep_3 (p := q) (by rw [show ((s : Int).toNat) = s from rfl, hp0, show 30 - q = m + 1 by omega, gNext, if_pos hf]) (by omega) (by omega)]
        rw [show ((s : Int).toNat) = s from rfl]
        have a5 := a4 (N + k)
        rw [show (((s + 1 : Nat)) : Int) = (s : Int) + 1 by omega] at a5
        rw [a5, show (s : Int) + 1 - 1 = (s : Int) by omega, h4 N]
        rw [eB_congr hs (pl := pl1) (pl' := pl) (fun j hj => by rw [hpl1 j (by omega), va_up_ne _ _ (by omega)])]
        show _ = gRun t of se np N (_, _, kLoop _ m (q + 1) (eB t of se np (d + 1) s pl q C))
        rw [show eB t of se np (d + 1) s pl q C = eM t of se np (d + 1) (s + 1) (va_up pl s (q : Int)) C from if_pos hf]
        rw [eM_congr (d + 1) (s + 1) (va_up pl s (q : Int)) (va_up (va_up pl s (q : Int)) (s + 1) (-1)) C (by omega) (fun j hj => (va_up_ne _ _ (by omega)).symm)]
        rfl
      · obtain ⟨k, pl', h1, h2, h3, hb3, h4⟩ := ih (q + 1) (by omega) (va_up pl s (q : Int)) C (by rw [va_up_self]; omega)
        refine ⟨k, pl', h1, ?_, fun i hi => by rw [h3 i hi, va_up_ne _ _ (by omega)], fun hb => hb3 (k_upZ hb (by omega)), fun N => ?_⟩
        · have e1 : wgt (d + 1) * (m + 1 + 1) = wgt (d + 1) * (m + 1) + wgt (d + 1) := Nat.mul_succ _ _
          omega
        have hst : gStep t of se np ((s : Int), pl, C) = gStep t of se np ((s : Int), va_up pl s (q : Int), C) := by
          unfold gStep
          dsimp only
          rw [show ((s : Int).toNat) = s from rfl, hp0, va_up_self, show ((q : Int) + 1).toNat = q + 1 by omega, show 30 - q = m + 1 by omega, show 30 - (q + 1) = m by omega, gNext, if_neg hf, gNext_congr (pl := pl) (pl' := va_up pl s (q : Int)) (fun j hj => (va_up_ne _ _ (by omega)).symm), va_up_up]
        have hN : N + k = (N + k - 1) + 1 := by omega
        have h5 := h4 N
        rw [hN, gRun_go (by omega)] at h5
        rw [hN, gRun_go (by omega), hst, h5]
        rw [eB_congr hs (pl := va_up pl s (q : Int)) (pl' := pl) (fun j hj => va_up_ne _ _ (by omega))]
        show _ = gRun t of se np N (_, _, kLoop _ m (q + 1) (eB t of se np (d + 1) s pl q C))
        rw [show eB t of se np (d + 1) s pl q C = C from if_neg hf]
theorem wgt_mono {d : Nat} : wgt d ≤ wgt (d + 1) := by show _ ≤ 1 + 31 * wgt d; omega
/-- enough steps for every search -/
theorem gRun_end {t of se : Nat → Nat} {np N : Nat} (h1 : 1 ≤ np) (h4 : np ≤ 4) (hN : 954304 ≤ N) (pl : Nat → Int) (C : GC) : ∃ pl' : Nat → Int, (gPB pl → gPB pl') ∧ gRun t of se np N (0, va_up pl 0 (-1), C) = (-1, pl', eM t of se np np 0 (va_up pl 0 (-1)) C) := by
  obtain ⟨d, rfl⟩ : ∃ d, np = d + 1 := ⟨np - 1, by omega⟩
  obtain ⟨k, pl', h2, h3, -, hb3, h5⟩ := gRun_eM (t := t) (of := of) (se := se) (np := d + 1) d 0 (by omega) 30 0 (by omega) (va_up pl 0 (-1)) C (by rw [va_up_self]; rfl)
  have hw : wgt d ≤ 30784 := by
    have w3 : wgt 3 = 30784 := by decide
    have w2 : wgt 2 = 993 := by decide
    have w1 : wgt 1 = 32 := by decide
    have w0 : wgt 0 = 1 := by decide
    rcases (show d = 0 ∨ d = 1 ∨ d = 2 ∨ d = 3 by omega) with rfl | rfl | rfl | rfl <;> omega
  have hk : k ≤ N := by
    have : wgt d * (30 + 1) ≤ 954304 := by omega
    omega
  refine ⟨pl', fun hb => hb3 (k_upZ hb (by omega)), ?_⟩
  have h6 := (h5 (N - k)).trans (gRun_neg (by decide))
  rw [show N - k + k = N by omega] at h6
  exact h6
