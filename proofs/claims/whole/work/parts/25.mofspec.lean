/-- what stands under a row, before the least ones are kept -/
def mUnder (t : Nat → Nat) (kd : Nat) (n : Int) (nn : Nat) (a b : Nat → Nat) : Nat → Nat := if kd = 0 then (fun p => if p < 30 then mTerm t 0 nn p else 30) else mOuter kd n a b 30 0 e30
theorem mTerm_le {t : Nat → Nat} {kd nn p : Nat} (h : p ≤ 30) : mTerm t kd nn p ≤ 30 := by unfold mTerm; split <;> omega
theorem mRow_le {kd : Nat} {n : Int} {a b : Nat → Nat} {i : Nat} {F : Nat → Nat} (ha : ∀ k, a k ≤ 30) (hb : ∀ k, b k ≤ 30) (hF : ∀ k, F k ≤ 30) : ∀ u, mRow kd n a b i F u ≤ 30 := by
  unfold mRow
  have h1 : ∀ u, (if a i ≠ 30 then mAlone kd n b F i (a i) else F) u ≤ 30 := by
    split
    · exact mAlone_le hF (ha i)
    · exact hF
  have h2 : ∀ u, (if kd < 8 ∧ 1 < kd then mInner kd n b i (a i) 30 0 (if a i ≠ 30 then mAlone kd n b F i (a i) else F) else (if a i ≠ 30 then mAlone kd n b F i (a i) else F)) u ≤ 30 := by
    by_cases h : kd < 8 ∧ 1 < kd
    · rw [if_pos h]; exact mInner_le hb (ha i) h1
    · rw [if_neg h]; exact h1
  dsimp only
  by_cases h : kd = 1 ∧ b i ≠ 30
  · rw [if_pos h]; exact rAdd_le h2 (hb i)
  · rw [if_neg h]; exact h2
theorem kM_ext {F G : Nat → Nat} {n : Nat} (h : ∀ j, j < n → F j = G j) : ∀ j, j < n → kM F j = kM G j := fun j hj => by unfold kM; rw [h j hj]
/-- the asks as the reference holds them, beside their numbers that count -/
def moOK (n : Nat) (K fi sc nn : Nat → Nat) (on ot nu : Nat → Int) : Prop := ∀ k, k < n → (K k ≠ 0 → on k = (fi k : Int)) ∧ (1 ≤ K k ∧ K k ≤ 8 → ot k = (sc k : Int)) ∧ (K k ≠ 1 ∧ K k ≠ 5 ∧ K k ≠ 6 ∧ K k ≠ 7 → nu k = (nn k : Int))
theorem mRow_no {kd : Nat} {n : Int} {a b : Nat → Nat} {i : Nat} {F F1 F3 : Nat → Nat} (e1 : F1 = if a i ≠ 30 then mAlone kd n b F i (a i) else F) (e3 : F3 = if kd < 8 ∧ 1 < kd then mInner kd n b i (a i) 30 0 F1 else F1) (h : ¬ (kd = 1 ∧ b i ≠ 30)) : mRow kd n a b i F = F3 := by
  unfold mRow; rw [← e1, ← e3]; exact if_neg h
theorem mRow_yes {kd : Nat} {n : Int} {a b : Nat → Nat} {i : Nat} {F F1 F3 : Nat → Nat} (e1 : F1 = if a i ≠ 30 then mAlone kd n b F i (a i) else F) (e3 : F3 = if kd < 8 ∧ 1 < kd then mInner kd n b i (a i) 30 0 F1 else F1) (h : kd = 1 ∧ b i ≠ 30) : mRow kd n a b i F = rAdd F3 i (b i) := by
  unfold mRow; rw [← e1, ← e3]; exact if_pos h
theorem mOuter_le {kd : Nat} {n : Int} {a b : Nat → Nat} (ha : ∀ k, a k ≤ 30) (hb : ∀ k, b k ≤ 30) : ∀ {y i : Nat} {F : Nat → Nat}, (∀ k, F k ≤ 30) → ∀ u, mOuter kd n a b y i F u ≤ 30
  | 0, _, _, hF => hF
  | y + 1, i, F, hF => mOuter_le (y := y) (i := i + 1) ha hb (mRow_le ha hb hF)
theorem mUnder_le {t : Nat → Nat} {kd : Nat} {n : Int} {nn : Nat} {a b : Nat → Nat} (ha : ∀ k, a k ≤ 30) (hb : ∀ k, b k ≤ 30) : ∀ u, mUnder t kd n nn a b u ≤ 30 := by
  unfold mUnder
  split
  · intro u; dsimp only; split
    · exact mTerm_le (by omega)
    · exact Nat.le_refl 30
  · exact mOuter_le ha hb e30_le
theorem mLast_le {k : Nat} {F : Nat → Nat} (hF : ∀ u, F u ≤ 30) : ∀ {n least : Nat} {G : Nat → Nat}, (∀ u, G u ≤ 30) → ∀ u, mLast k F n least G u ≤ 30
  | 0, _, _, hG => hG
  | n + 1, least, G, hG => by
    unfold mLast
    split
    · exact mLast_le hF (k_upB hG (hF n))
    · exact mLast_le hF (k_upB hG (Nat.le_refl 30))
/-- row k of what findAll has left -/
def mFA (t K fi sc nn : Nat → Nat) (nu : Nat → Int) : Nat → Nat → (Nat → Nat) × (Nat → Nat) → (Nat → Nat) × (Nat → Nat)
  | 0, _, S => S
  | c + 1, k, S => mFA t K fi sc nn nu c (k + 1) (mLast k (mUnder t (K k) (nu k) (nn k) (fun z => S.1 (30 * fi k + z)) (fun z => S.1 (30 * sc k + z))) 30 30 S.1, mUnder t (K k) (nu k) (nn k) (fun z => S.1 (30 * fi k + z)) (fun z => S.1 (30 * sc k + z)))
theorem mFA_le {t K fi sc nn : Nat → Nat} {nu : Nat → Int} : ∀ {c k : Nat} {S : (Nat → Nat) × (Nat → Nat)}, ((∀ u, S.1 u ≤ 30) ∧ ∀ u, S.2 u ≤ 30) → ((∀ u, (mFA t K fi sc nn nu c k S).1 u ≤ 30) ∧ ∀ u, (mFA t K fi sc nn nu c k S).2 u ≤ 30)
  | 0, _, _, h => h
  | c + 1, k, S, h => mFA_le (c := c) (k := k + 1) ⟨mLast_le (mUnder_le (fun _ => h.1 _) (fun _ => h.1 _)) h.1, mUnder_le (fun _ => h.1 _) (fun _ => h.1 _)⟩
/-- how many places are in an interval: as the reference counts them -/
def mIs (F : Nat → Nat) (p : Nat) : Nat → Nat → Nat → Nat
  | 0, _, is_ => is_
  | c + 1, i, is_ => mIs F p c (i + 1) (if is_ ≠ 0 ∨ (p : Int) ≤ mz (F i) then 1 else 0)
def mCov (F : Nat → Nat) : Nat → Nat → Nat → Nat
  | 0, _, acc => acc
  | c + 1, p, acc => mCov F c (p + 1) (acc + mIs F p (p + 1) 0 0)
theorem mIs_le {F : Nat → Nat} {p : Nat} : ∀ {c i is_ : Nat}, is_ ≤ 1 → mIs F p c i is_ ≤ 1
  | 0, _, _, h => h
  | c + 1, i, is_, h => mIs_le (c := c) (by split <;> omega)
theorem rBegin_has {F : Nat → Nat} {k : Int} : ∀ (n i b : Nat), 0 ≤ rBegin F k n i b → F (rBegin F k n i b).toNat ≠ 30
  | 0, i, b, h => by unfold rBegin at h; omega
  | n + 1, i, b, h => by
    unfold rBegin at h ⊢
    by_cases h1 : F i ≠ 30
    · rw [if_pos h1] at h ⊢
      by_cases h2 : (b : Int) = k
      · rw [if_pos h2]; simpa using h1
      · rw [if_neg h2] at h ⊢; exact rBegin_has n (i + 1) (b + 1) h
    · rw [if_neg h1] at h ⊢; exact rBegin_has n (i + 1) b h
theorem zI_eq0 {z : Int} (h : -4294967296 < z ∧ z < 4294967296) : zI z = 0 ↔ z = 0 := by
  constructor
  · intro e
    have e2 : (zI z).toInt = (0 : Int32).toInt := by rw [e]
    have e3 : (zI z).toInt = z.bmod 4294967296 := by
      unfold zI
      rw [Int32.toInt_ofInt]
    have e4 : (0 : Int32).toInt = 0 := by decide +kernel
    rw [e3, e4] at e2
    have := Int.dvd_of_bmod_eq_zero e2
    omega
  · intro e; rw [e]; exact zI_0
section KN0
variable {p : Program} {l : Launch} {e : Env} {R : Room} {s : State} {m : MethodId} {args : Array Value} {below : List Frame} {meth : Method} {c : Code} {H : Heap} {locs : List Loc} {cells slots : Nat} {Q : State → Prop}
variable {cc : ByteArray} {pc : Nat} {ls : Array Slot} {rest : List Value}
theorem k_if_ne0 (hx : p.tables.exec = Jvm.exec) (hb : c.code = cc) {x : Int} {off : Int} {tgt : Nat} (hdg : decode cc pc = .ok (.ifCond .ne off, 3)) (ht : (pc : Int) + off = (tgt : Int)) (h1 : -4294967296 < x ∧ x < 4294967296)
    (kt : ¬ x = 0 → W p l e R s m args below meth c H locs cells slots Q (F0 m tgt ls rest)) (kf : x = 0 → W p l e R s m args below meth c H locs cells slots Q (F0 m (pc + 3) ls rest)) : W p l e R s m args below meth c H locs cells slots Q (F0 m pc ls (.int (zI x) :: rest)) :=
  lv_if_ne hx hb hdg ht (fun h => kt (fun g => h ((zI_eq0 h1).mpr g))) (fun h => kf ((zI_eq0 h1).mp h))
end KN0
