/-! the reference: arrays of integers, and of ends with -1 for none -/
def kZ (F : Nat → Int) : Nat → Int32 := fun j => zI (F j)
def mz (v : Nat) : Int := if v = 30 then -1 else (v : Int)
theorem mz_or (v : Nat) : (v = 30 ∧ mz v = -1) ∨ (v ≠ 30 ∧ mz v = (v : Int)) := by
  unfold mz; by_cases h : v = 30
  · exact Or.inl ⟨h, if_pos h⟩
  · exact Or.inr ⟨h, if_neg h⟩
def kM (F : Nat → Nat) : Nat → Int32 := fun j => zI (mz (F j))
theorem kZ_up (F : Nat → Int) (i : Nat) (v : Int) : upd (kZ F) i (zI v) = kZ (va_up F i v) := by
  funext j
  by_cases h : j = i
  · simp [upd, kZ, va_up, h]
  · simp [upd, kZ, va_up, h]
theorem kM_up (F : Nat → Nat) (i v : Nat) : upd (kM F) i (zI (mz v)) = kM (va_up F i v) := by
  funext j
  by_cases h : j = i
  · simp [upd, kM, va_up, h]
  · simp [upd, kM, va_up, h]
section KM
variable {p : Program} {l : Launch} {e : Env} {R : Room} {s : State} {m : MethodId} {args : Array Value} {below : List Frame} {meth : Method} {c : Code} {H : Heap} {locs : List Loc} {cells slots : Nat} {Q : State → Prop}
variable {cc : ByteArray} {pc : Nat} {ls : Array Slot} {rest : List Value} {D : va_G} {cl : List vw_C} {A : Nat → Prop} {a : Nat} {tys : List (ClassId × FieldType)} {ws : va_W} {H0 : Heap}
theorem k_aldZ (hx : p.tables.exec = Jvm.exec) (hb : c.code = cc) (hK : va_K D cl tys s) (hP : va_P D cl ws H) (q0 t0 : Nat) {cA : ClassId} {n : Nat} {F : Nat → Int} (ha : ws[q0]? = some (a, .inl (cA, n, .inl (kZ F)))) (ht : tys[t0]? = some (cA, .int)) {x : Int} {i : Nat} (hxi : x = (i : Int)) (hi : i < n) (hn : n ≤ 2147483647) (hdg : decode cc pc = .ok (.iaload, 1))
    (kk : W p l e R s m args below meth c H locs cells slots Q (F0 m (pc + 1) ls (.int (zI (F i)) :: rest))) : W p l e R s m args below meth c H locs cells slots Q (F0 m pc ls (.int (zI x) :: .ref a :: rest)) := by
  subst hxi
  exact va_iald hx hb hK hP q0 t0 ha ht (zI_in hi hn) hdg (by rw [zI_cl (by omega)]; exact kk)
theorem k_aldM (hx : p.tables.exec = Jvm.exec) (hb : c.code = cc) (hK : va_K D cl tys s) (hP : va_P D cl ws H) (q0 t0 : Nat) {cA : ClassId} {n : Nat} {F : Nat → Nat} (ha : ws[q0]? = some (a, .inl (cA, n, .inl (kM F)))) (ht : tys[t0]? = some (cA, .int)) {x : Int} {i : Nat} (hxi : x = (i : Int)) (hi : i < n) (hn : n ≤ 2147483647) (hdg : decode cc pc = .ok (.iaload, 1))
    (kk : W p l e R s m args below meth c H locs cells slots Q (F0 m (pc + 1) ls (.int (zI (mz (F i))) :: rest))) : W p l e R s m args below meth c H locs cells slots Q (F0 m pc ls (.int (zI x) :: .ref a :: rest)) := by
  subst hxi
  exact va_iald hx hb hK hP q0 t0 ha ht (zI_in hi hn) hdg (by rw [zI_cl (by omega)]; exact kk)
theorem k_astZ (hx : p.tables.exec = Jvm.exec) (hb : c.code = cc) (hK : va_K D cl tys s) (hP : va_P D cl ws H) (hD : va_D A ws) (hS : va_S A H0 H locs) (q0 t0 : Nat) {cA : ClassId} {n : Nat} {F : Nat → Int} (ha : ws[q0]? = some (a, .inl (cA, n, .inl (kZ F)))) (ht : tys[t0]? = some (cA, .int)) {x y : Int} {i : Nat} (hxi : x = (i : Int)) (hi : i < n) (hn : n ≤ 2147483647) (hdg : decode cc pc = .ok (.iastore, 1))
    (kk : ∀ (H1 : Heap) (locs1 : List Loc), va_P D cl (ws.set q0 (a, .inl (cA, n, .inl (kZ (va_up F i y))))) H1 → va_D A (ws.set q0 (a, .inl (cA, n, .inl (kZ (va_up F i y))))) → va_S A H0 H1 locs1 → W p l e R s m args below meth c H1 locs1 cells slots Q (F0 m (pc + 1) ls rest)) : W p l e R s m args below meth c H locs cells slots Q (F0 m pc ls (.int (zI y) :: .int (zI x) :: .ref a :: rest)) := by
  subst hxi
  exact va_iast hx hb hK hP hD hS q0 t0 ha ht (zI_in hi hn) hdg (fun H1 locs1 h1 h2 h3 => by
    rw [zI_cl (by omega), kZ_up] at h1 h2
    exact kk H1 locs1 h1 h2 h3)
theorem k_astM (hx : p.tables.exec = Jvm.exec) (hb : c.code = cc) (hK : va_K D cl tys s) (hP : va_P D cl ws H) (hD : va_D A ws) (hS : va_S A H0 H locs) (q0 t0 : Nat) {cA : ClassId} {n : Nat} {F : Nat → Nat} (ha : ws[q0]? = some (a, .inl (cA, n, .inl (kM F)))) (ht : tys[t0]? = some (cA, .int)) {x y : Int} {i v : Nat} (hxi : x = (i : Int)) (hyv : y = mz v) (hi : i < n) (hn : n ≤ 2147483647) (hdg : decode cc pc = .ok (.iastore, 1))
    (kk : ∀ (H1 : Heap) (locs1 : List Loc), va_P D cl (ws.set q0 (a, .inl (cA, n, .inl (kM (va_up F i v))))) H1 → va_D A (ws.set q0 (a, .inl (cA, n, .inl (kM (va_up F i v))))) → va_S A H0 H1 locs1 → W p l e R s m args below meth c H1 locs1 cells slots Q (F0 m (pc + 1) ls rest)) : W p l e R s m args below meth c H locs cells slots Q (F0 m pc ls (.int (zI y) :: .int (zI x) :: .ref a :: rest)) := by
  subst hxi hyv
  exact va_iast hx hb hK hP hD hS q0 t0 ha ht (zI_in hi hn) hdg (fun H1 locs1 h1 h2 h3 => by
    rw [zI_cl (by omega), kM_up] at h1 h2
    exact kk H1 locs1 h1 h2 h3)
theorem k_ineg (hx : p.tables.exec = Jvm.exec) (hb : c.code = cc) {x v : Int} (hdg : decode cc pc = .ok (.ineg, 1)) (hv : -x = v) (k : W p l e R s m args below meth c H locs cells slots Q (F0 m (pc + 1) ls (.int (zI v) :: rest))) : W p l e R s m args below meth c H locs cells slots Q (F0 m pc ls (.int (zI x) :: rest)) :=
  lv_ineg hx hb hdg (by rw [show -zI x = zI v from by rw [← hv]; exact (Int32.ofInt_neg x).symm]; exact k)
theorem k_idiv (hx : p.tables.exec = Jvm.exec) (hb : c.code = cc) {x y v : Nat} (hv : x / y = v) (h1 : x < 2147483648) (h2 : 0 < y) (h3 : y < 2147483648) (hdg : decode cc pc = .ok (.idiv, 1)) (k : W p l e R s m args below meth c H locs cells slots Q (F0 m (pc + 1) ls (.int (zI (v : Int)) :: rest))) : W p l e R s m args below meth c H locs cells slots Q (F0 m pc ls (.int (zI (y : Int)) :: .int (zI (x : Int)) :: rest)) :=
  lv_idiv hx hb hdg (fun e => by rw [← zI_0] at e; have := (zI_eq ⟨by omega, by omega⟩ (by decide)).mp e; omega) (by rw [zI_nat, zI_nat, pk_div (by omega) h2 (by omega), hv, ← zI_nat]; exact k)
/-- t >> n & 1, for the terms -/
theorem k_bit (hx : p.tables.exec = Jvm.exec) (hb : c.code = cc) {t n : Nat} (hn : n < 31) (ht : t < 2147483648) (hdg : decode cc pc = .ok (.ishr, 1)) (k : W p l e R s m args below meth c H locs cells slots Q (F0 m (pc + 1) ls (.int (zI ((t / 2 ^ n : Nat) : Int)) :: rest))) : W p l e R s m args below meth c H locs cells slots Q (F0 m pc ls (.int (zI (n : Int)) :: .int (zI (t : Int)) :: rest)) :=
  lv_ishr hx hb hdg (by
    have e : (zI (t : Int)) >>> (zI (n : Int) &&& 31) = zI ((t / 2 ^ n : Nat) : Int) := by
      have hs : ∀ l : Fin 31, ((zI ((l.val : Nat) : Int) &&& 31).toBitVec.smod 32).toNat = l.val := by decide +kernel
      rw [zI_nat t, pk_shrN (by omega) _ n (hs ⟨n, hn⟩), ← zI_nat]
    rw [e]; exact k)
end KM
/-! its steps -/
def mGap (i j x y : Int) : Int := if j < x then x - j - 1 else if y < i then i - y - 1 else -1
def mPair (kd : Nat) (n : Int) (F : Nat → Nat) (i j x y : Nat) : Nat → Nat :=
  if kd = 2 ∨ kd = 3 then
    (if kd = 3 ∧ y < i ∧ (i : Int) - y - 1 ≤ n then rAdd (if j < x ∧ (x : Int) - j - 1 ≤ n then rAdd F i y else F) x j else (if j < x ∧ (x : Int) - j - 1 ≤ n then rAdd F i y else F))
  else if kd = 4 then (if ((max j y : Nat) : Int) - ((min i x : Nat) : Int) + 1 ≤ n then rAdd F (min i x) (max j y) else F)
  else if (kd = 5 ∧ i ≤ x ∧ y ≤ j) ∨ (kd = 6 ∧ x ≤ i ∧ j ≤ y) ∨ (kd = 7 ∧ mGap i j x y < 0) then rAdd F i j else F
def mFar (b : Nat → Nat) (n : Int) (i j : Nat) : Nat → Nat → Nat → Nat
  | 0, _, far => far
  | k + 1, x, far => if b x ≠ 30 then mFar b n i j k (x + 1) (if far ≠ 0 ∧ 0 ≤ mGap i j x (b x) ∧ n < mGap i j x (b x) then 1 else 0) else mFar b n i j k (x + 1) far
theorem mFar_bd {b : Nat → Nat} {n : Int} {i j : Nat} : ∀ {k x far : Nat}, far ≤ 1 → mFar b n i j k x far ≤ 1
  | 0, _, _, h => h
  | k + 1, x, far, h => by
    unfold mFar
    split
    · exact mFar_bd (by split <;> omega)
    · exact mFar_bd h
theorem mGap_bd {i j x y : Int} (hi : 0 ≤ i ∧ i ≤ 30) (hj : 0 ≤ j ∧ j ≤ 30) (hx : 0 ≤ x ∧ x ≤ 30) (hy : 0 ≤ y ∧ y ≤ 30) : -1 ≤ mGap i j x y ∧ mGap i j x y ≤ 30 := by
  unfold mGap; repeat' split
  all_goals omega
def mAlone (kd : Nat) (n : Int) (b : Nat → Nat) (F : Nat → Nat) (i j : Nat) : Nat → Nat :=
  if kd = 1 ∨ (kd = 8 ∧ mFar b n i j 30 0 1 = 1) ∨ (kd = 9 ∧ (j : Int) < n) then rAdd F i j
  else if kd = 10 then rAdd F ((i : Int) - n).toNat j else F
theorem mPair_le {kd : Nat} {n : Int} {F : Nat → Nat} {i j x y : Nat} (hF : ∀ k, F k ≤ 30) (hj : j ≤ 30) (hy : y ≤ 30) : ∀ k, mPair kd n F i j x y k ≤ 30 := by
  unfold mPair
  repeat' split
  · exact rAdd_le (rAdd_le hF hy) hj
  · exact rAdd_le hF hj
  · exact rAdd_le hF hy
  · exact hF
  · exact rAdd_le hF (by omega)
  · exact hF
  · exact rAdd_le hF hj
  · exact hF
theorem mAlone_le {kd : Nat} {n : Int} {b F : Nat → Nat} {i j : Nat} (hF : ∀ k, F k ≤ 30) (hj : j ≤ 30) : ∀ k, mAlone kd n b F i j k ≤ 30 := by
  unfold mAlone
  repeat' split
  · exact rAdd_le hF hj
  · exact rAdd_le hF hj
  · exact hF
/-- the inner loop of find, and the outer one -/
def mInner (kd : Nat) (n : Int) (b : Nat → Nat) (i j : Nat) : Nat → Nat → (Nat → Nat) → (Nat → Nat)
  | 0, _, F => F
  | k + 1, x, F => mInner kd n b i j k (x + 1) (if j ≠ 30 ∧ b x ≠ 30 then mPair kd n F i j x (b x) else F)
theorem mInner_le {kd : Nat} {n : Int} {b : Nat → Nat} {i j : Nat} (hb : ∀ k, b k ≤ 30) (hj : j ≤ 30) : ∀ {k x : Nat} {F : Nat → Nat}, (∀ k, F k ≤ 30) → ∀ u, mInner kd n b i j k x F u ≤ 30
  | 0, _, _, hF => hF
  | k + 1, x, F, hF => by
    unfold mInner
    refine mInner_le hb hj ?_
    split
    · exact mPair_le hF hj (hb x)
    · exact hF
def mRow (kd : Nat) (n : Int) (a b : Nat → Nat) (i : Nat) (F : Nat → Nat) : Nat → Nat :=
  (fun F2 => if kd = 1 ∧ b i ≠ 30 then rAdd F2 i (b i) else F2)
    (if kd < 8 ∧ 1 < kd then mInner kd n b i (a i) 30 0 (if a i ≠ 30 then mAlone kd n b F i (a i) else F) else (if a i ≠ 30 then mAlone kd n b F i (a i) else F))
def mOuter (kd : Nat) (n : Int) (a b : Nat → Nat) : Nat → Nat → (Nat → Nat) → (Nat → Nat)
  | 0, _, F => F
  | k + 1, i, F => mOuter kd n a b k (i + 1) (mRow kd n a b i F)
def mTerm (t : Nat → Nat) (kd : Nat) (n : Nat) (p : Nat) : Nat := if kd = 0 ∧ t p / 2 ^ n % 2 = 1 then p else 30
/-- the last loop: the least ones, from place n down, into row k of ends -/
def mLast (k : Nat) (F : Nat → Nat) : Nat → Nat → (Nat → Nat) → (Nat → Nat)
  | 0, _, G => G
  | n + 1, least, G => if F n < least then mLast k F n (F n) (va_up G (30 * k + n) (F n)) else mLast k F n least (va_up G (30 * k + n) 30)
