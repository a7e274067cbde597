/-! THE PHRASE -/
def kLoop {σ : Type} (body : Nat → σ → σ) : Nat → Nat → σ → σ
  | 0, _, S => S
  | k + 1, i, S => kLoop body k (i + 1) (body i S)
def cSum (cn : Nat → Nat) : Nat → Nat → Nat → Nat
  | 0, _, acc => acc
  | k + 1, i, acc => cSum cn k (i + 1) (acc + cn i)
def wSum (cn : Nat → Nat) : Nat → Nat → Nat → Nat
  | 0, _, acc => acc
  | k + 1, i, acc => wSum cn k (i + 1) (acc + cn i * (2520 / (i + 1)))
/-- no slot before s has place p and a term in common -/
def fFree (tr se : Nat → Nat) (s p : Nat) : Nat → Nat → Bool
  | 0, _ => true
  | k + 1, i => if tr i = p then (if se i &&& se s ≠ 0 then false else fFree tr se s p k (i + 1)) else fFree tr se s p k (i + 1)
/-- the places of a slot -/
def fFind (t : Nat → Nat) (set : Nat) : Nat → Nat → Nat → (Nat → Nat) → Nat × (Nat → Nat)
  | 0, _, found, F => (found, F)
  | k + 1, i, found, F => if t i &&& set ≠ 0 then fFind t set k (i + 1) (found + 1) (va_up F found i) else fFind t set k (i + 1) found F
def fAll (t se : Nat → Nat) : Nat → Nat → (Nat → Nat) → (Nat → Nat → Nat) → (Nat → Nat) × (Nat → Nat → Nat)
  | 0, _, pc, Pl => (pc, Pl)
  | k + 1, s, pc, Pl => fAll t se k (s + 1) (va_up pc s (fFind t (se s) 30 0 0 (Pl s)).1) (va_up Pl s (fFind t (se s) 30 0 0 (Pl s)).2)
/-- tried, first choice, counts, least -/
abbrev SM : Type := (Nat → Nat) × (Nat → Nat) × (Nat → Nat) × Nat
def sNote (mv : Nat) (S : SM) : SM := if mv ≤ 76 then (if mv < S.2.2.2 then (S.1, S.1, va_up S.2.2.1 mv (S.2.2.1 mv + 1), mv) else (S.1, S.2.1, va_up S.2.2.1 mv (S.2.2.1 mv + 1), S.2.2.2)) else S
def sV (of : Nat → Nat) (Pl : Nat → Nat → Nat) (s i : Nat) : Int := (Pl s i : Int) - (of s : Int)
def sNr (lo hi v : Int) : Int := max lo (min hi v)
def sMn (mv : Nat) (v nr : Int) : Nat := mv + (v - nr).natAbs
def sStep (of se : Nat → Nat) (Pl : Nat → Nat → Nat) (rec_ : Nat → Int → Int → SM → SM) (s mv : Nat) (lo hi : Int) (i : Nat) (S : SM) : SM :=
  if sMn mv (sV of Pl s i) (sNr lo hi (sV of Pl s i)) ≤ max 9 S.2.2.2 then
    (if fFree S.1 se s (Pl s i) s 0 = true then
      (if s = 1 then rec_ (sMn mv (sV of Pl s i) (sNr lo hi (sV of Pl s i))) (min lo (sV of Pl s i)) (max hi (sV of Pl s i)) (va_up S.1 s (Pl s i), S.2)
        else rec_ (sMn mv (sV of Pl s i) (sNr lo hi (sV of Pl s i))) (sNr lo hi (sV of Pl s i)) (sNr lo hi (sV of Pl s i)) (va_up S.1 s (Pl s i), S.2))
      else S)
    else S
def sM (of se pc : Nat → Nat) (Pl : Nat → Nat → Nat) : Nat → Nat → Nat → Int → Int → SM → SM
  | 0, _, mv, _, _, S => sNote mv S
  | d + 1, s, mv, lo, hi, S => kLoop (sStep of se Pl (sM of se pc Pl d (s + 1)) s mv lo hi) (pc s) 0 S
theorem sNote_bd {mv : Nat} {S : SM} (h1 : ∀ j, S.1 j ≤ 30) (h2 : S.2.2.2 ≤ 77) : (∀ j, (sNote mv S).1 j ≤ 30) ∧ (sNote mv S).2.2.2 ≤ 77 := by
  unfold sNote
  repeat' split
  · exact ⟨h1, by dsimp only; omega⟩
  · exact ⟨h1, h2⟩
  · exact ⟨h1, h2⟩
theorem kLoop_inv {σ : Type} {body : Nat → σ → σ} {I : σ → Prop} (hb : ∀ i S, I S → I (body i S)) : ∀ (k i : Nat) (S : σ), I S → I (kLoop body k i S)
  | 0, _, _, h => h
  | k + 1, i, S, h => kLoop_inv hb k (i + 1) _ (hb i S h)
theorem sM_bd {of se pc : Nat → Nat} {Pl : Nat → Nat → Nat} (hPl : ∀ s j, Pl s j ≤ 30) : ∀ (d s mv : Nat) (lo hi : Int) (S : SM), ((∀ j, S.1 j ≤ 30) ∧ S.2.2.2 ≤ 77) → ((∀ j, (sM of se pc Pl d s mv lo hi S).1 j ≤ 30) ∧ (sM of se pc Pl d s mv lo hi S).2.2.2 ≤ 77)
  | 0, _, mv, _, _, S, h => sNote_bd h.1 h.2
  | d + 1, s, mv, lo, hi, S, h => by
    unfold sM
    refine kLoop_inv (I := fun S : SM => (∀ j, S.1 j ≤ 30) ∧ S.2.2.2 ≤ 77) ?_ _ _ _ h
    intro i S h
    unfold sStep
    repeat' split
    · exact sM_bd hPl d _ _ _ _ _ ⟨k_upB h.1 (hPl s i), h.2⟩
    · exact sM_bd hPl d _ _ _ _ _ ⟨k_upB h.1 (hPl s i), h.2⟩
    · exact h
    · exact h
/-- tried, shortest from, to -/
abbrev SS : Type := (Nat → Nat) × Int × Int
def sSh (lo hi sf st : Int) : Bool := decide (hi - lo < st - sf) || (decide (hi - lo = st - sf) && decide (lo < sf))
def tStep (se : Nat → Nat) (Pl : Nat → Nat → Nat) (rec_ : Int → Int → SS → SS) (s : Nat) (lo hi : Int) (i : Nat) (S : SS) : SS :=
  if sSh (min lo (Pl s i)) (max hi (Pl s i)) S.2.1 S.2.2 = true then
    (if fFree S.1 se s (Pl s i) s 0 = true then rec_ (min lo (Pl s i)) (max hi (Pl s i)) (va_up S.1 s (Pl s i), S.2) else S)
    else S
def sT (se pc : Nat → Nat) (Pl : Nat → Nat → Nat) : Nat → Nat → Int → Int → SS → SS
  | 0, _, lo, hi, S => (S.1, lo, hi)
  | d + 1, s, lo, hi, S => kLoop (tStep se Pl (sT se pc Pl d (s + 1)) s lo hi) (pc s) 0 S
theorem sT_bd {se pc : Nat → Nat} {Pl : Nat → Nat → Nat} (hPl : ∀ s j, Pl s j ≤ 30) : ∀ (d s : Nat) (lo hi : Int) (S : SS), (-1 ≤ lo ∧ lo ≤ 30) → (-1 ≤ hi ∧ hi ≤ 30) → ((∀ j, S.1 j ≤ 30) ∧ (-1 ≤ S.2.1 ∧ S.2.1 ≤ 30) ∧ (-1 ≤ S.2.2 ∧ S.2.2 ≤ 30)) → ((∀ j, (sT se pc Pl d s lo hi S).1 j ≤ 30) ∧ (-1 ≤ (sT se pc Pl d s lo hi S).2.1 ∧ (sT se pc Pl d s lo hi S).2.1 ≤ 30) ∧ (-1 ≤ (sT se pc Pl d s lo hi S).2.2 ∧ (sT se pc Pl d s lo hi S).2.2 ≤ 30))
  | 0, _, lo, hi, S, h1, h2, h => ⟨h.1, h1, h2⟩
  | d + 1, s, lo, hi, S, h1, h2, h => by
    unfold sT
    refine kLoop_inv (I := fun S : SS => (∀ j, S.1 j ≤ 30) ∧ (-1 ≤ S.2.1 ∧ S.2.1 ≤ 30) ∧ (-1 ≤ S.2.2 ∧ S.2.2 ≤ 30)) ?_ _ _ _ h
    intro i S h
    have := hPl s i
    unfold tStep
    repeat' split
    · exact sT_bd hPl d _ _ _ _ (by omega) (by omega) ⟨k_upB h.1 (hPl s i), h.2⟩
    · exact h
    · exact h
theorem fFind_bd {t : Nat → Nat} {set : Nat} : ∀ (k i found : Nat) (F : Nat → Nat), i + k ≤ 30 → found ≤ i → (∀ j, F j ≤ 30) → ((fFind t set k i found F).1 ≤ 30 ∧ ∀ j, (fFind t set k i found F).2 j ≤ 30)
  | 0, _, _, _, h1, h2, h => by unfold fFind; exact ⟨by dsimp only; omega, h⟩
  | k + 1, i, found, F, h1, h2, h => by
    unfold fFind
    split
    · exact fFind_bd k (i + 1) (found + 1) _ (by omega) (by omega) (k_upB h (by omega))
    · exact fFind_bd k (i + 1) found _ (by omega) (by omega) h
theorem fAll_bd {t se : Nat → Nat} : ∀ (k s : Nat) (pc : Nat → Nat) (Pl : Nat → Nat → Nat), ((∀ j, pc j ≤ 30) ∧ ∀ j i, Pl j i ≤ 30) → ((∀ j, (fAll t se k s pc Pl).1 j ≤ 30) ∧ ∀ j i, (fAll t se k s pc Pl).2 j i ≤ 30)
  | 0, _, _, _, h => h
  | k + 1, s, pc, Pl, h => by
    unfold fAll
    have hb := fFind_bd (t := t) (set := se s) 30 0 0 (Pl s) (by omega) (by omega) (h.2 s)
    exact fAll_bd k (s + 1) _ _ ⟨k_upB h.1 hb.1, k_upE h.2 hb.2⟩
/-! the grid of places -/
def k_p3 (cI : ClassId) (gr : Nat → Nat) (Pl : Nat → Nat → Nat) : va_W := (List.range 4).map (fun j => (gr j, .inl (cI, 30, .inl (kA (Pl j)))))
theorem k_p3_at {cI : ClassId} {gr : Nat → Nat} {Pl : Nat → Nat → Nat} {j : Nat} (h : j < 4) : (k_p3 cI gr Pl)[j]? = some (gr j, .inl (cI, 30, .inl (kA (Pl j)))) := by
  unfold k_p3; rw [List.getElem?_map, List.getElem?_range h]; rfl
theorem k_p3_fst {cI : ClassId} {gr : Nat → Nat} {Pl Pl' : Nat → Nat → Nat} : (k_p3 cI gr Pl').map (·.1) = (k_p3 cI gr Pl).map (·.1) := by
  simp [k_p3]
theorem k_grid {X : va_W} {cI : ClassId} {gr : Nat → Nat} {Pl : Nat → Nat → Nat} {j L : Nat} (hX : X.length = L) (h : j < 4) : (X ++ k_p3 cI gr Pl)[L + j]? = some (gr j, .inl (cI, 30, .inl (kA (Pl j)))) := by
  rw [List.getElem?_append_right (by omega), hX, show L + j - L = j by omega]; exact k_p3_at h
theorem k_grid_set {X : va_W} {cI : ClassId} {gr : Nat → Nat} {Pl : Nat → Nat → Nat} {j L : Nat} {v : Nat → Nat} (hX : X.length = L) : (X ++ k_p3 cI gr Pl).set (L + j) (gr j, .inl (cI, 30, .inl (kA v))) = X ++ k_p3 cI gr (va_up Pl j v) := by
  rw [List.set_append_right _ _ (by omega), hX, show L + j - L = j by omega]
  congr 1
  apply List.ext_getElem?
  intro k
  by_cases hk : k < 4
  · by_cases e : j = k
    · subst e
      rw [List.getElem?_set_self', k_p3_at hk, k_p3_at hk, va_up_self]; rfl
    · rw [List.getElem?_set_ne e, k_p3_at hk, k_p3_at hk, va_up_ne _ _ (fun h => e h.symm)]
  · have h1 : (k_p3 cI gr (va_up Pl j v))[k]? = none := List.getElem?_eq_none (by simp [k_p3]; omega)
    have h2 : ((k_p3 cI gr Pl).set j (gr j, .inl (cI, 30, .inl (kA v))))[k]? = none := List.getElem?_eq_none (by simp [k_p3]; omega)
    rw [h1, h2]
section KG
variable {p : Program} {l : Launch} {e : Env} {R : Room} {s : State} {m : MethodId} {args : Array Value} {below : List Frame} {meth : Method} {c : Code} {H : Heap} {locs : List Loc} {cells slots : Nat} {Q : State → Prop}
variable {cc : ByteArray} {pc : Nat} {ls : Array Slot} {rest : List Value} {D : va_G} {cl : List vw_C} {A : Nat → Prop} {a : Nat} {tys : List (ClassId × FieldType)} {ws : va_W} {H0 : Heap}
theorem k_galdA (hx : p.tables.exec = Jvm.exec) (hb : c.code = cc) (hK : va_K D cl tys s) (hP : va_P D cl ws H) (q0 t0 : Nat) {cA : ClassId} {t : FieldType} {n : Nat} {ro : Nat → Nat} (ha : ws[q0]? = some (a, .inl (cA, n, .inr (.inr (.inr (.inr (fun i => some (ro i)))))))) (ht : tys[t0]? = some (cA, .array t)) {x : Int} {i : Nat} (hxi : x = (i : Int)) (hi : i < n) (hn : n ≤ 2147483647) (hdg : decode cc pc = .ok (.aaload, 1))
    (kk : W p l e R s m args below meth c H locs cells slots Q (F0 m (pc + 1) ls (.ref (ro i) :: rest))) : W p l e R s m args below meth c H locs cells slots Q (F0 m pc ls (.int (zI x) :: .ref a :: rest)) := by
  subst hxi
  have hin := zI_in hi hn
  have hlt : (zI (i : Int)).toNatClampNeg < n := Nat.not_le.mp fun q => hin (Or.inr q)
  refine W.aald (v := va_rf (some (ro (zI (i : Int)).toNatClampNeg))) (ty := .array t) hx hb (hP q0 _ ha) ((hK.2 t0 _ ht).1 n (fun j => va_rf (some (ro j)))) rfl (fun q => by cases q) (by show ¬ (zI (i : Int) < 0 ∨ (arrV _ _ _).slots.size ≤ _); rw [arrV_size]; exact hin) (by show (arrV _ _ _).slots[_]? = _; rw [arrV_read _ _ hlt]) rfl rfl hdg ?_
  rw [zI_cl (by omega)]; exact kk
/-! longs -/
theorem k_i2l (hx : p.tables.exec = Jvm.exec) (hb : c.code = cc) {x : Int} {v : Nat} (hv : x = (v : Int)) (h : v < 2147483648) (hdg : decode cc pc = .ok (.i2l, 1)) (k : W p l e R s m args below meth c H locs cells slots Q (F0 m (pc + 1) ls (.long (lN v) :: rest))) : W p l e R s m args below meth c H locs cells slots Q (F0 m pc ls (.int (zI x) :: rest)) :=
  lv_i2l hx hb hdg (v := lN v) (by subst hv; rw [zI_nat]; exact nI_l (by omega)) k
theorem k_ladd (hx : p.tables.exec = Jvm.exec) (hb : c.code = cc) {x y v : Nat} (hv : x + y = v) (hdg : decode cc pc = .ok (.ladd, 1)) (k : W p l e R s m args below meth c H locs cells slots Q (F0 m (pc + 1) ls (.long (lN v) :: rest))) : W p l e R s m args below meth c H locs cells slots Q (F0 m pc ls (.long (lN y) :: .long (lN x) :: rest)) :=
  lv_ladd hx hb hdg (by rw [lN_add, hv]; exact k)
theorem k_lmul (hx : p.tables.exec = Jvm.exec) (hb : c.code = cc) {x y v : Nat} (hv : x * y = v) (hdg : decode cc pc = .ok (.lmul, 1)) (k : W p l e R s m args below meth c H locs cells slots Q (F0 m (pc + 1) ls (.long (lN v) :: rest))) : W p l e R s m args below meth c H locs cells slots Q (F0 m pc ls (.long (lN y) :: .long (lN x) :: rest)) :=
  lv_lmul hx hb hdg (by rw [lN_mul, hv]; exact k)
theorem k_ldiv (hx : p.tables.exec = Jvm.exec) (hb : c.code = cc) {x y v : Nat} (hv : x / y = v) (h1 : x < 2147483648) (h2 : 0 < y) (h3 : y < 2147483648) (hdg : decode cc pc = .ok (.ldiv, 1)) (k : W p l e R s m args below meth c H locs cells slots Q (F0 m (pc + 1) ls (.long (lN v) :: rest))) : W p l e R s m args below meth c H locs cells slots Q (F0 m pc ls (.long (lN y) :: .long (lN x) :: rest)) :=
  lv_ldiv hx hb hdg (fun e => by have e2 : lN y = lN 0 := e; rw [lN_eq (by omega) (by omega)] at e2; omega) (by rw [pk_lDiv (by omega) h2 (by omega), hv]; exact k)
theorem k_natabs (x : Int) : ((x.natAbs : Nat) : Int) = if 0 ≤ x then x else 0 - x := by split <;> omega
end KG
