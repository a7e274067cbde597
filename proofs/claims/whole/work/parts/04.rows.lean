theorem nx_and (a b : Nat) : nI a &&& nI b = nI (a &&& b) := by
  apply Int32.toBitVec_inj.1
  show BitVec.ofNat 32 a &&& BitVec.ofNat 32 b = BitVec.ofNat 32 (a &&& b)
  apply BitVec.eq_of_getLsbD_eq
  intro i hi
  simp [hi]
theorem k_and_le (a b B : Nat) (h : a ≤ B) : a &&& b ≤ B := Nat.le_trans Nat.and_le_left h
/-! rows for instructions, in words of integers -/
section KROWS
variable {p : Program} {l : Launch} {e : Env} {R : Room} {s : State} {m : MethodId} {args : Array Value} {below : List Frame} {meth : Method} {c : Code} {H : Heap} {locs : List Loc} {cells slots : Nat} {Q : State → Prop}
variable {cc : ByteArray} {pc : Nat} {ls : Array Slot} {rest : List Value} {D : va_G} {cl : List vw_C} {A : Nat → Prop} {a : Nat} {tys : List (ClassId × FieldType)} {ws : va_W} {H0 : Heap}
theorem k_top {x y : Int} (h : x = y) (k : W p l e R s m args below meth c H locs cells slots Q (F0 m pc ls (.int (zI y) :: rest))) : W p l e R s m args below meth c H locs cells slots Q (F0 m pc ls (.int (zI x) :: rest)) := by
  rw [h]; exact k
theorem k_stk {st1 st2 : List Value} (h : st1 = st2) (k : W p l e R s m args below meth c H locs cells slots Q (F0 m pc ls st2)) : W p l e R s m args below meth c H locs cells slots Q (F0 m pc ls st1) := by
  rw [h]; exact k
theorem k_iadd (hx : p.tables.exec = Jvm.exec) (hb : c.code = cc) {x y v : Int} (hdg : decode cc pc = .ok (.iadd, 1)) (hv : x + y = v) (k : W p l e R s m args below meth c H locs cells slots Q (F0 m (pc + 1) ls (.int (zI v) :: rest))) : W p l e R s m args below meth c H locs cells slots Q (F0 m pc ls (.int (zI y) :: .int (zI x) :: rest)) :=
  lv_iadd hx hb hdg (by rw [zI_add, hv]; exact k)
theorem k_isub (hx : p.tables.exec = Jvm.exec) (hb : c.code = cc) {x y v : Int} (hdg : decode cc pc = .ok (.isub, 1)) (hv : x - y = v) (k : W p l e R s m args below meth c H locs cells slots Q (F0 m (pc + 1) ls (.int (zI v) :: rest))) : W p l e R s m args below meth c H locs cells slots Q (F0 m pc ls (.int (zI y) :: .int (zI x) :: rest)) :=
  lv_isub hx hb hdg (by rw [zI_sub, hv]; exact k)
theorem k_imul (hx : p.tables.exec = Jvm.exec) (hb : c.code = cc) {x y v : Int} (hdg : decode cc pc = .ok (.imul, 1)) (hv : x * y = v) (k : W p l e R s m args below meth c H locs cells slots Q (F0 m (pc + 1) ls (.int (zI v) :: rest))) : W p l e R s m args below meth c H locs cells slots Q (F0 m pc ls (.int (zI y) :: .int (zI x) :: rest)) :=
  lv_imul hx hb hdg (by rw [zI_mul, hv]; exact k)
theorem k_iand (hx : p.tables.exec = Jvm.exec) (hb : c.code = cc) {a b : Nat} (hdg : decode cc pc = .ok (.iand, 1)) (k : W p l e R s m args below meth c H locs cells slots Q (F0 m (pc + 1) ls (.int (zI ((a &&& b : Nat) : Int)) :: rest))) : W p l e R s m args below meth c H locs cells slots Q (F0 m pc ls (.int (zI (b : Int)) :: .int (zI (a : Int)) :: rest)) :=
  lv_iand hx hb hdg (by rw [zI_nat, zI_nat, nx_and, ← zI_nat]; exact k)
theorem k_iinc (hx : p.tables.exec = Jvm.exec) (hb : c.code = cc) {i nL k : Nat} {n : Int} {x v : Int} {lv lv' : List (Nat × Value)} (hdg : decode cc pc = .ok (.iinc i n, 3)) (h : lv_has ls nL lv) (hk : lv[k]? = some (i, .int (zI x))) (hv : x + n = v) (hn : i < nL) (hl : (i, Value.int (zI v)) :: lv.filter (fun q => !(q.1 == i) && !(q.1 + 1 == i && q.2.category == 2)) = lv')
    (kk : ∀ ls' : Array Slot, lv_has ls' nL lv' → W p l e R s m args below meth c H locs cells slots Q (F0 m (pc + 3) ls' rest)) : W p l e R s m args below meth c H locs cells slots Q (F0 m pc ls rest) :=
  lv_iinc hx hb hdg h hk (by subst hv; exact zI_add x n) hn hl kk
theorem k_icmp_ge (hx : p.tables.exec = Jvm.exec) (hb : c.code = cc) {x y : Int} {off : Int} {tgt : Nat} (hdg : decode cc pc = .ok (.if_icmp .ge off, 3)) (ht : (pc : Int) + off = (tgt : Int)) (h1 : k_sm x) (h2 : k_sm y)
    (kt : ¬ x < y → W p l e R s m args below meth c H locs cells slots Q (F0 m tgt ls rest)) (kf : x < y → W p l e R s m args below meth c H locs cells slots Q (F0 m (pc + 3) ls rest)) : W p l e R s m args below meth c H locs cells slots Q (F0 m pc ls (.int (zI y) :: .int (zI x) :: rest)) :=
  lv_icmp_ge hx hb hdg ht (fun h => kt (by have := (zI_le h2 h1).mp h; omega)) (fun h => kf (by have := mt (zI_le h2 h1).mpr h; omega))
theorem k_icmp_gt (hx : p.tables.exec = Jvm.exec) (hb : c.code = cc) {x y : Int} {off : Int} {tgt : Nat} (hdg : decode cc pc = .ok (.if_icmp .gt off, 3)) (ht : (pc : Int) + off = (tgt : Int)) (h1 : k_sm x) (h2 : k_sm y)
    (kt : ¬ x ≤ y → W p l e R s m args below meth c H locs cells slots Q (F0 m tgt ls rest)) (kf : x ≤ y → W p l e R s m args below meth c H locs cells slots Q (F0 m (pc + 3) ls rest)) : W p l e R s m args below meth c H locs cells slots Q (F0 m pc ls (.int (zI y) :: .int (zI x) :: rest)) :=
  lv_icmp_gt hx hb hdg ht (fun h => kt (by have := (zI_lt h2 h1).mp h; omega)) (fun h => kf (by have := mt (zI_lt h2 h1).mpr h; omega))
theorem k_icmp_lt (hx : p.tables.exec = Jvm.exec) (hb : c.code = cc) {x y : Int} {off : Int} {tgt : Nat} (hdg : decode cc pc = .ok (.if_icmp .lt off, 3)) (ht : (pc : Int) + off = (tgt : Int)) (h1 : k_sm x) (h2 : k_sm y)
    (kt : ¬ y ≤ x → W p l e R s m args below meth c H locs cells slots Q (F0 m tgt ls rest)) (kf : y ≤ x → W p l e R s m args below meth c H locs cells slots Q (F0 m (pc + 3) ls rest)) : W p l e R s m args below meth c H locs cells slots Q (F0 m pc ls (.int (zI y) :: .int (zI x) :: rest)) :=
  lv_icmp_lt hx hb hdg ht (fun h => kt (by have := (zI_lt h1 h2).mp h; omega)) (fun h => kf (by have := mt (zI_lt h1 h2).mpr h; omega))
theorem k_icmp_le (hx : p.tables.exec = Jvm.exec) (hb : c.code = cc) {x y : Int} {off : Int} {tgt : Nat} (hdg : decode cc pc = .ok (.if_icmp .le off, 3)) (ht : (pc : Int) + off = (tgt : Int)) (h1 : k_sm x) (h2 : k_sm y)
    (kt : ¬ y < x → W p l e R s m args below meth c H locs cells slots Q (F0 m tgt ls rest)) (kf : y < x → W p l e R s m args below meth c H locs cells slots Q (F0 m (pc + 3) ls rest)) : W p l e R s m args below meth c H locs cells slots Q (F0 m pc ls (.int (zI y) :: .int (zI x) :: rest)) :=
  lv_icmp_le hx hb hdg ht (fun h => kt (by have := (zI_le h1 h2).mp h; omega)) (fun h => kf (by have := mt (zI_le h1 h2).mpr h; omega))
theorem k_icmp_eq (hx : p.tables.exec = Jvm.exec) (hb : c.code = cc) {x y : Int} {off : Int} {tgt : Nat} (hdg : decode cc pc = .ok (.if_icmp .eq off, 3)) (ht : (pc : Int) + off = (tgt : Int)) (h1 : k_sm x) (h2 : k_sm y)
    (kt : ¬ x ≠ y → W p l e R s m args below meth c H locs cells slots Q (F0 m tgt ls rest)) (kf : x ≠ y → W p l e R s m args below meth c H locs cells slots Q (F0 m (pc + 3) ls rest)) : W p l e R s m args below meth c H locs cells slots Q (F0 m pc ls (.int (zI y) :: .int (zI x) :: rest)) :=
  lv_icmp_eq hx hb hdg ht (fun h => kt (fun g => g ((zI_eq h1 h2).mp h))) (fun h => kf (fun g => h ((zI_eq h1 h2).mpr g)))
theorem k_icmp_ne (hx : p.tables.exec = Jvm.exec) (hb : c.code = cc) {x y : Int} {off : Int} {tgt : Nat} (hdg : decode cc pc = .ok (.if_icmp .ne off, 3)) (ht : (pc : Int) + off = (tgt : Int)) (h1 : k_sm x) (h2 : k_sm y)
    (kt : ¬ x = y → W p l e R s m args below meth c H locs cells slots Q (F0 m tgt ls rest)) (kf : x = y → W p l e R s m args below meth c H locs cells slots Q (F0 m (pc + 3) ls rest)) : W p l e R s m args below meth c H locs cells slots Q (F0 m pc ls (.int (zI y) :: .int (zI x) :: rest)) :=
  lv_icmp_ne hx hb hdg ht (fun h => kt (fun g => h ((zI_eq h1 h2).mpr g))) (fun h => kf ((zI_eq h1 h2).mp h))
theorem k_if_lt (hx : p.tables.exec = Jvm.exec) (hb : c.code = cc) {x : Int} {off : Int} {tgt : Nat} (hdg : decode cc pc = .ok (.ifCond .lt off, 3)) (ht : (pc : Int) + off = (tgt : Int)) (h1 : k_sm x)
    (kt : ¬ 0 ≤ x → W p l e R s m args below meth c H locs cells slots Q (F0 m tgt ls rest)) (kf : 0 ≤ x → W p l e R s m args below meth c H locs cells slots Q (F0 m (pc + 3) ls rest)) : W p l e R s m args below meth c H locs cells slots Q (F0 m pc ls (.int (zI x) :: rest)) :=
  lv_if_lt hx hb hdg ht (fun h => kt (by rw [← zI_0] at h; have := (zI_lt h1 (by decide)).mp h; omega)) (fun h => kf (by rw [← zI_0] at h; have := mt (zI_lt h1 (by decide)).mpr h; omega))
theorem k_if_ge (hx : p.tables.exec = Jvm.exec) (hb : c.code = cc) {x : Int} {off : Int} {tgt : Nat} (hdg : decode cc pc = .ok (.ifCond .ge off, 3)) (ht : (pc : Int) + off = (tgt : Int)) (h1 : k_sm x)
    (kt : ¬ x < 0 → W p l e R s m args below meth c H locs cells slots Q (F0 m tgt ls rest)) (kf : x < 0 → W p l e R s m args below meth c H locs cells slots Q (F0 m (pc + 3) ls rest)) : W p l e R s m args below meth c H locs cells slots Q (F0 m pc ls (.int (zI x) :: rest)) :=
  lv_if_ge hx hb hdg ht (fun h => kt (by rw [← zI_0] at h; have := (zI_le (by decide) h1).mp h; omega)) (fun h => kf (by rw [← zI_0] at h; have := mt (zI_le (by decide) h1).mpr h; omega))
theorem k_if_le (hx : p.tables.exec = Jvm.exec) (hb : c.code = cc) {x : Int} {off : Int} {tgt : Nat} (hdg : decode cc pc = .ok (.ifCond .le off, 3)) (ht : (pc : Int) + off = (tgt : Int)) (h1 : k_sm x)
    (kt : ¬ 0 < x → W p l e R s m args below meth c H locs cells slots Q (F0 m tgt ls rest)) (kf : 0 < x → W p l e R s m args below meth c H locs cells slots Q (F0 m (pc + 3) ls rest)) : W p l e R s m args below meth c H locs cells slots Q (F0 m pc ls (.int (zI x) :: rest)) :=
  lv_if_le hx hb hdg ht (fun h => kt (by rw [← zI_0] at h; have := (zI_le h1 (by decide)).mp h; omega)) (fun h => kf (by rw [← zI_0] at h; have := mt (zI_le h1 (by decide)).mpr h; omega))
theorem k_if_gt (hx : p.tables.exec = Jvm.exec) (hb : c.code = cc) {x : Int} {off : Int} {tgt : Nat} (hdg : decode cc pc = .ok (.ifCond .gt off, 3)) (ht : (pc : Int) + off = (tgt : Int)) (h1 : k_sm x)
    (kt : ¬ x ≤ 0 → W p l e R s m args below meth c H locs cells slots Q (F0 m tgt ls rest)) (kf : x ≤ 0 → W p l e R s m args below meth c H locs cells slots Q (F0 m (pc + 3) ls rest)) : W p l e R s m args below meth c H locs cells slots Q (F0 m pc ls (.int (zI x) :: rest)) :=
  lv_if_gt hx hb hdg ht (fun h => kt (by rw [← zI_0] at h; have := (zI_lt (by decide) h1).mp h; omega)) (fun h => kf (by rw [← zI_0] at h; have := mt (zI_lt (by decide) h1).mpr h; omega))
theorem k_if_eq (hx : p.tables.exec = Jvm.exec) (hb : c.code = cc) {x : Int} {off : Int} {tgt : Nat} (hdg : decode cc pc = .ok (.ifCond .eq off, 3)) (ht : (pc : Int) + off = (tgt : Int)) (h1 : k_sm x)
    (kt : ¬ x ≠ 0 → W p l e R s m args below meth c H locs cells slots Q (F0 m tgt ls rest)) (kf : x ≠ 0 → W p l e R s m args below meth c H locs cells slots Q (F0 m (pc + 3) ls rest)) : W p l e R s m args below meth c H locs cells slots Q (F0 m pc ls (.int (zI x) :: rest)) :=
  lv_if_eq hx hb hdg ht (fun h => kt (fun g => g ((zI_eq h1 (by decide)).mp (h.trans zI_0.symm)))) (fun h => kf (fun g => h (by rw [g, zI_0])))
theorem k_if_ne (hx : p.tables.exec = Jvm.exec) (hb : c.code = cc) {x : Int} {off : Int} {tgt : Nat} (hdg : decode cc pc = .ok (.ifCond .ne off, 3)) (ht : (pc : Int) + off = (tgt : Int)) (h1 : k_sm x)
    (kt : ¬ x = 0 → W p l e R s m args below meth c H locs cells slots Q (F0 m tgt ls rest)) (kf : x = 0 → W p l e R s m args below meth c H locs cells slots Q (F0 m (pc + 3) ls rest)) : W p l e R s m args below meth c H locs cells slots Q (F0 m pc ls (.int (zI x) :: rest)) :=
  lv_if_ne hx hb hdg ht (fun h => kt (fun g => h (by rw [g, zI_0]))) (fun h => kf ((zI_eq h1 (by decide)).mp (h.trans zI_0.symm)))
/-- a truth value is looked at -/
theorem k_bif_eq (hx : p.tables.exec = Jvm.exec) (hb : c.code = cc) {P : Prop} [Decidable P] {off : Int} {tgt : Nat} (hdg : decode cc pc = .ok (.ifCond .eq off, 3)) (ht : (pc : Int) + off = (tgt : Int))
    (kt : ¬ P → W p l e R s m args below meth c H locs cells slots Q (F0 m tgt ls rest)) (kf : P → W p l e R s m args below meth c H locs cells slots Q (F0 m (pc + 3) ls rest)) : W p l e R s m args below meth c H locs cells slots Q (F0 m pc ls (.int (k_b P) :: rest)) :=
  lv_if_eq hx hb hdg ht (fun h => kt (k_b0.mp h)) (fun h => kf (Decidable.of_not_not (fun g => h (k_b0.mpr g))))
theorem k_bif_ne (hx : p.tables.exec = Jvm.exec) (hb : c.code = cc) {P : Prop} [Decidable P] {off : Int} {tgt : Nat} (hdg : decode cc pc = .ok (.ifCond .ne off, 3)) (ht : (pc : Int) + off = (tgt : Int))
    (kt : P → W p l e R s m args below meth c H locs cells slots Q (F0 m tgt ls rest)) (kf : ¬ P → W p l e R s m args below meth c H locs cells slots Q (F0 m (pc + 3) ls rest)) : W p l e R s m args below meth c H locs cells slots Q (F0 m pc ls (.int (k_b P) :: rest)) :=
  lv_if_ne hx hb hdg ht (fun h => kt (Decidable.of_not_not (fun g => h (k_b0.mpr g)))) (fun h => kf (k_b0.mp h))
theorem k_b_inj {P1 P2 : Bool} (h : k_b (P1 = true) = k_b (P2 = true)) : P1 = P2 := by
  cases P1 <;> cases P2 <;> first | rfl | (exfalso; revert h; decide)
theorem k_bcmp_ne (hx : p.tables.exec = Jvm.exec) (hb : c.code = cc) {P1 P2 : Bool} {off : Int} {tgt : Nat} (hdg : decode cc pc = .ok (.if_icmp .ne off, 3)) (ht : (pc : Int) + off = (tgt : Int))
    (kt : ¬ P1 = P2 → W p l e R s m args below meth c H locs cells slots Q (F0 m tgt ls rest)) (kf : P1 = P2 → W p l e R s m args below meth c H locs cells slots Q (F0 m (pc + 3) ls rest)) : W p l e R s m args below meth c H locs cells slots Q (F0 m pc ls (.int (k_b (P2 = true)) :: .int (k_b (P1 = true)) :: rest)) :=
  lv_icmp_ne hx hb hdg ht (fun h => kt (fun g => h (by rw [g]))) (fun h => kf (k_b_inj h))
/-- an element is read -/
theorem k_ald (hx : p.tables.exec = Jvm.exec) (hb : c.code = cc) (hK : va_K D cl tys s) (hP : va_P D cl ws H) (q0 t0 : Nat) {cA : ClassId} {n : Nat} {F : Nat → Nat} (ha : ws[q0]? = some (a, .inl (cA, n, .inl (kA F)))) (ht : tys[t0]? = some (cA, .int)) {x : Int} {i : Nat} (hxi : x = (i : Int)) (hi : i < n) (hn : n ≤ 2147483647) (hdg : decode cc pc = .ok (.iaload, 1))
    (kk : W p l e R s m args below meth c H locs cells slots Q (F0 m (pc + 1) ls (.int (zI (F i : Int)) :: rest))) : W p l e R s m args below meth c H locs cells slots Q (F0 m pc ls (.int (zI x) :: .ref a :: rest)) := by
  subst hxi
  exact va_iald hx hb hK hP q0 t0 ha ht (zI_in hi hn) hdg (by rw [zI_cl (by omega)]; exact kk)
/-- an element is written -/
theorem k_ast (hx : p.tables.exec = Jvm.exec) (hb : c.code = cc) (hK : va_K D cl tys s) (hP : va_P D cl ws H) (hD : va_D A ws) (hS : va_S A H0 H locs) (q0 t0 : Nat) {cA : ClassId} {n : Nat} {F : Nat → Nat} (ha : ws[q0]? = some (a, .inl (cA, n, .inl (kA F)))) (ht : tys[t0]? = some (cA, .int)) {x y : Int} {i v : Nat} (hxi : x = (i : Int)) (hyv : y = (v : Int)) (hi : i < n) (hn : n ≤ 2147483647) (hdg : decode cc pc = .ok (.iastore, 1))
    (kk : ∀ (H1 : Heap) (locs1 : List Loc), va_P D cl (ws.set q0 (a, .inl (cA, n, .inl (kA (va_up F i v))))) H1 → va_D A (ws.set q0 (a, .inl (cA, n, .inl (kA (va_up F i v))))) → va_S A H0 H1 locs1 → W p l e R s m args below meth c H1 locs1 cells slots Q (F0 m (pc + 1) ls rest)) : W p l e R s m args below meth c H locs cells slots Q (F0 m pc ls (.int (zI y) :: .int (zI x) :: .ref a :: rest)) := by
  subst hxi hyv
  exact va_iast hx hb hK hP hD hS q0 t0 ha ht (zI_in hi hn) hdg (fun H1 locs1 h1 h2 h3 => by
    rw [zI_cl (by omega), kA_up] at h1 h2
    exact kk H1 locs1 h1 h2 h3)
/-- Math.max, min, abs -/
theorem k_max (hx : p.tables.exec = Jvm.exec) (hb : c.code = cc) (hml : c.maxLocals = ls.size) {own : String} {index : Nat} (hown : s.vm.findClass own = some m.cls) (hlink : (Cond.methodLink own index Lib.Math.max.name).before args s = true) (hstat : (Cond.static Lib.Math.max.name).before args s = true) (hini : (Cond.initialized "java/lang/Math").before args s = true) (hcode : (Cond.code Lib.Math.max.name Lib.Math.max.code 2 (some .int)).before args s = true)
    (hframes : 1 ≤ R.frames) (hlocals : (rest.map fun v => v.category).sum + 13 ≤ R.locals) (hc : cells ≤ R.cells) (hs : slots ≤ R.slots) {x y v : Int} (hdg : decode cc pc = .ok (.invokestatic index, 3)) (h1 : k_sm x) (h2 : k_sm y) (hv : max x y = v)
    (kk : W p l e R s m args below meth c H locs cells slots Q (F0 m (pc + 3) ls (.int (zI v) :: rest))) : W p l e R s m args below meth c H locs cells slots Q (F0 m pc ls (.int (zI y) :: .int (zI x) :: rest)) :=
  va_mmax hx hb hml hown hlink hstat hini hcode hframes hlocals hc hs hdg (by
    have e : (if zI x < zI y then zI y else zI x) = zI v := by
      by_cases h : x < y
      · rw [if_pos ((zI_lt h1 h2).mpr h), ← hv]; congr 1; omega
      · rw [if_neg (mt (zI_lt h1 h2).mp h), ← hv]; congr 1; omega
    rw [e]; exact kk)
theorem k_min (hx : p.tables.exec = Jvm.exec) (hb : c.code = cc) (hml : c.maxLocals = ls.size) {own : String} {index : Nat} (hown : s.vm.findClass own = some m.cls) (hlink : (Cond.methodLink own index Lib.Math.min.name).before args s = true) (hstat : (Cond.static Lib.Math.min.name).before args s = true) (hini : (Cond.initialized "java/lang/Math").before args s = true) (hcode : (Cond.code Lib.Math.min.name Lib.Math.min.code 2 (some .int)).before args s = true)
    (hframes : 1 ≤ R.frames) (hlocals : (rest.map fun v => v.category).sum + 13 ≤ R.locals) (hc : cells ≤ R.cells) (hs : slots ≤ R.slots) {x y v : Int} (hdg : decode cc pc = .ok (.invokestatic index, 3)) (h1 : k_sm x) (h2 : k_sm y) (hv : min x y = v)
    (kk : W p l e R s m args below meth c H locs cells slots Q (F0 m (pc + 3) ls (.int (zI v) :: rest))) : W p l e R s m args below meth c H locs cells slots Q (F0 m pc ls (.int (zI y) :: .int (zI x) :: rest)) :=
  va_mmin hx hb hml hown hlink hstat hini hcode hframes hlocals hc hs hdg (by
    have e : (if zI y < zI x then zI y else zI x) = zI v := by
      by_cases h : y < x
      · rw [if_pos ((zI_lt h2 h1).mpr h), ← hv]; congr 1; omega
      · rw [if_neg (mt (zI_lt h2 h1).mp h), ← hv]; congr 1; omega
    rw [e]; exact kk)
theorem k_abs (hx : p.tables.exec = Jvm.exec) (hb : c.code = cc) (hml : c.maxLocals = ls.size) {own : String} {index : Nat} (hown : s.vm.findClass own = some m.cls) (hlink : (Cond.methodLink own index Lib.Math.abs.name).before args s = true) (hstat : (Cond.static Lib.Math.abs.name).before args s = true) (hini : (Cond.initialized "java/lang/Math").before args s = true) (hcode : (Cond.code Lib.Math.abs.name Lib.Math.abs.code 1 (some .int)).before args s = true)
    (hframes : 1 ≤ R.frames) (hlocals : (rest.map fun v => v.category).sum + 13 ≤ R.locals) (hc : cells ≤ R.cells) (hs : slots ≤ R.slots) {x v : Int} (hdg : decode cc pc = .ok (.invokestatic index, 3)) (h1 : k_sm x) (hv : v = if 0 ≤ x then x else 0 - x)
    (kk : W p l e R s m args below meth c H locs cells slots Q (F0 m (pc + 3) ls (.int (zI v) :: rest))) : W p l e R s m args below meth c H locs cells slots Q (F0 m pc ls (.int (zI x) :: rest)) :=
  va_mabs hx hb hml hown hlink hstat hini hcode hframes hlocals hc hs hdg (by
    have e : (if 0 ≤ zI x then zI x else 0 - zI x) = zI v := by
      rw [← zI_0]
      by_cases h : 0 ≤ x
      · rw [if_pos ((zI_le (by decide) h1).mpr h), hv, if_pos h]
      · rw [if_neg (mt (zI_le (by decide) h1).mp h), zI_sub, hv, if_neg h]
    rw [e]; exact kk)
/-! the start of a contract -/
theorem k_start {y : MethodName} {wsm ws' : List Cond} {rm : Room} {cc : ByteArray} {maxL : Nat} {ret : Option FieldType} {as : List Value} {wc : va_W} {Qq : (Nat → Prop) → Array Value → State → Outcome → State → Prop} (hy : plainName y.cls = true) (hw : wsm = Cond.code y cc maxL ret :: ws') (hlen : (lg_sl as).length ≤ maxL)
    (body : ∀ (p : Program) (e : Env) (s : State) (m : MethodId) (ar : Array Value) (below : List Frame) (meth : Method) (c : Code) (A : Nat → Prop) (ls : Array Slot) (Qf : State → Prop), MQ below (Qq A) ar s 0 0 A = Qf → p.tables.exec = Jvm.exec → c.code = cc → meth.sig.returnType = ret → c.maxLocals = maxL → (∀ w ∈ wsm, w.before ar s = true) → s.vm.findClass y.cls = some m.cls → meth.locks = false → meth.name = y.name → va_K D cl tys s → k_G k_ns s → (∀ q : Nat, s.heap.size ≤ q → A q) → va_P D cl wc s.heap → va_D A wc → va_S A s.heap s.heap [] → lv_has ls maxL (lv_args 0 as) →
      W p l e rm s m ar below meth c s.heap [] 0 0 Qf (F0 m 0 ls [])) : k_M l y wsm rm D cl tys as wc Qq := by
  intro sz
  refine Met.ofW (cc := cc) (maxL := maxL) (ret := ret) hy hw ?_
  intro p e s m args below meth c s₁ B hml hv
  obtain ⟨rfl, hsz, hP, hK, hG, hD0⟩ := hv
  subst hsz
  rw [lg_entry_eq]
  exact body p e s m as.toArray below meth c (va_A wc s.heap.size) _ _ rfl B.exec B.bytes B.returns hml (atoms_spec (ws := wsm) B.pre) (findClass_of_methodNamed B.named) B.notSynchronized (name_of_methodNamed B.named B.method).1 hK hG (fun q h => Or.inr h) hP hD0.self va_S.rf (lv_entry as hlen)
/-! the end of a contract -/
theorem k_iret {rr v : Int32} {wn : va_W} (hx : p.tables.exec = Jvm.exec) (hb : c.code = cc) (hr : meth.sig.returnType = some .int) (hlocks : meth.locks = false) (hP : va_P D cl wn H) (hS : va_S A s.heap H locs) (hv : v = rr) (hdg : decode cc pc = .ok (.ireturn, 1)) : W p l e R s m args below meth c H locs cells slots (MQ below (k_Qi D cl rr wn A) args s cells slots A) (F0 m pc ls [.int v]) :=
  W.iret hx hb hr (fun t ht _ => ⟨⟨v, (), rfl, hv, by subst ht; exact hP⟩, hS.F ht⟩) hS.2.2 hdg hlocks
theorem k_zret {P : Prop} [Decidable P] {v : Int32} {wn : va_W} (hx : p.tables.exec = Jvm.exec) (hb : c.code = cc) (hr : meth.sig.returnType = some .boolean) (hlocks : meth.locks = false) (hP : va_P D cl wn H) (hS : va_S A s.heap H locs) (hv : v = k_b P) (hdg : decode cc pc = .ok (.ireturn, 1)) : W p l e R s m args below meth c H locs cells slots (MQ below (k_Qi D cl (k_b P) wn A) args s cells slots A) (F0 m pc ls [.int v]) :=
  W.zret hx hb hr (by subst hv; unfold k_b; split <;> decide) (fun t ht _ => ⟨⟨v, (), rfl, hv, by subst ht; exact hP⟩, hS.F ht⟩) hS.2.2 hdg hlocks
theorem k_lret {rr v : Int64} {wn : va_W} (hx : p.tables.exec = Jvm.exec) (hb : c.code = cc) (hr : meth.sig.returnType = some .long) (hlocks : meth.locks = false) (hP : va_P D cl wn H) (hS : va_S A s.heap H locs) (hv : v = rr) (hdg : decode cc pc = .ok (.lreturn, 1)) : W p l e R s m args below meth c H locs cells slots (MQ below (k_Ql D cl rr wn A) args s cells slots A) (F0 m pc ls [.long v]) :=
  W.lret hx hb hr (fun t ht _ => ⟨⟨v, (), rfl, hv, by subst ht; exact hP⟩, hS.F ht⟩) hS.2.2 hdg hlocks
theorem k_vret {wn : va_W} (hx : p.tables.exec = Jvm.exec) (hb : c.code = cc) (hr : meth.sig.returnType = none) (hlocks : meth.locks = false) (hP : va_P D cl wn H) (hS : va_S A s.heap H locs) (hdg : decode cc pc = .ok (.return_, 1)) : W p l e R s m args below meth c H locs cells slots (MQ below (k_Qv D cl wn A) args s cells slots A) (F0 m pc ls []) :=
  W.vret hx hb hr (fun t ht _ => ⟨⟨(), rfl, trivial, by subst ht; exact hP⟩, hS.F ht⟩) hS.2.2 hdg hlocks
theorem k_aret {C : String} {rr v : Nat} {wn : va_W} (hx : p.tables.exec = Jvm.exec) (hb : c.code = cc) (hr : meth.sig.returnType = some (.object C)) (hlocks : meth.locks = false) (hP : va_P D cl wn H) (hS : va_S A s.heap H locs) (hv : v = rr) (hdg : decode cc pc = .ok (.areturn, 1)) : W p l e R s m args below meth c H locs cells slots (MQ below (k_Qr D cl rr wn A) args s cells slots A) (F0 m pc ls [.ref v]) :=
  W.aret hx hb hr (Or.inl ⟨C, rfl⟩) (Or.inr ⟨v, rfl⟩) (fun t ht _ => ⟨⟨(), v, rfl, trivial, hv, by subst ht; exact hP⟩, hS.F ht⟩) hS.2.2 hdg hlocks
/-! calls -/
theorem k_cut {wc : va_W} (hP : va_P D cl ws H) (isC : List Nat) (hC : isC.map (fun i => ws[i]?) = wc.map some) : va_P D cl wc H := fun k q h => by
  obtain ⟨i, _, h2⟩ := va_in_of isC hC h
  exact hP i q h2
theorem k_cutD {wc : va_W} (hD : va_D A ws) (isC : List Nat) (hni : va_nd isC = true) (hC : isC.map (fun i => ws[i]?) = wc.map some) : va_D (fun _ => True) wc :=
  (va_D.sub hD isC hni hC).weaken (fun _ _ _ _ => trivial)
section KCALLS
variable {y : MethodName} {bytes : ByteArray} {maxL nL n index : Nat} {ret : Option FieldType} {wsc : List Cond} {rm : Room} {Ts : List Cond} {own C : String} {b : Nat} {As : List Value} {wc wn : va_W}
/-- what is the same for all calls: the callee's start -/
theorem k_preV {ci q0 : Nat} {fs : List Value} {Tq : u_T} {Nq : Nat} (hK : va_K D cl tys s) (hG : k_G k_ns s) (hP : va_P D cl ws H) (hD : va_D A ws) (isC : List Nat) (hC : isC.map (fun i => ws[i]?) = wc.map some) (hni : va_nd isC = true) (hq : cl[ci]? = some (C, Tq, Nq)) (he : wc[q0]? = some (b, .inr (ci, fs))) : PreV s H C b (va_Pc (.ref b :: As) (k_In D cl tys wc H.size)) As :=
  ⟨k_blind, va_recv hK (k_cut hP isC hC) hq he, fun U hU hW => ⟨rfl, by rw [hU], by rw [hU]; exact k_cut hP isC hC, va_K.moved hW.alike hK, hG.warm hW, k_cutD hD isC hni hC⟩⟩
theorem k_preS (hK : va_K D cl tys s) (hG : k_G k_ns s) (hP : va_P D cl ws H) (hD : va_D A ws) (isC : List Nat) (hC : isC.map (fun i => ws[i]?) = wc.map some) (hni : va_nd isC = true) : PreS s H (va_Pc As (k_In D cl tys wc H.size)) As :=
  ⟨k_blind, fun U hU hW => ⟨rfl, by rw [hU], by rw [hU]; exact k_cut hP isC hC, va_K.moved hW.alike hK, hG.warm hW, k_cutD hD isC hni hC⟩⟩
/-- what is the same for all calls: behind it, by what comes back -/
theorem k_beI {rr : Int32} {aa : Array Value} {st0 : List Value} (hr : va_Run p l e R s m args below meth c H locs cells slots 0 0 (F0 m pc ls st0) rest (k_Qi D cl rr wn (va_A wc H.size) aa) (va_A wc H.size)) (hP : va_P D cl ws H) (hD : va_D A ws) (hS : va_S A H0 H locs) (hA : ∀ q, H0.size ≤ q → A q) (isC : List Nat) (hC : isC.map (fun i => ws[i]?) = wc.map some) (hE : wn.map (·.1) = wc.map (·.1))
    (kk : ∀ (H1 : Heap) (locs1 : List Loc), va_P D cl (k_put ws isC wn) H1 → va_D A (k_put ws isC wn) → va_S A H0 H1 locs1 → W p l e R s m args below meth c H1 locs1 cells slots Q (F0 m (pc + 3) ls (.int rr :: rest))) : W p l e R s m args below meth c H locs cells slots Q (F0 m pc ls st0) := by
  have hFc := va_free (wc := wc) hD hS hA isC hC
  refine va_calli hr hS (fun q _ h => hFc q h) hFc (fun r u t H1 locs1 ht hvm hw hB hz1 hk1 hS1 => ?_)
  subst hw
  rw [ht] at hB
  obtain ⟨g1, g2⟩ := k_frame hP hD isC hC hE hk1 hB
  exact kk H1 locs1 g1 g2 hS1
theorem k_beL {rr : Int64} {aa : Array Value} {st0 : List Value} (hr : va_Run p l e R s m args below meth c H locs cells slots 0 0 (F0 m pc ls st0) rest (k_Ql D cl rr wn (va_A wc H.size) aa) (va_A wc H.size)) (hP : va_P D cl ws H) (hD : va_D A ws) (hS : va_S A H0 H locs) (hA : ∀ q, H0.size ≤ q → A q) (isC : List Nat) (hC : isC.map (fun i => ws[i]?) = wc.map some) (hE : wn.map (·.1) = wc.map (·.1))
    (kk : ∀ (H1 : Heap) (locs1 : List Loc), va_P D cl (k_put ws isC wn) H1 → va_D A (k_put ws isC wn) → va_S A H0 H1 locs1 → W p l e R s m args below meth c H1 locs1 cells slots Q (F0 m (pc + 3) ls (.long rr :: rest))) : W p l e R s m args below meth c H locs cells slots Q (F0 m pc ls st0) := by
  have hFc := va_free (wc := wc) hD hS hA isC hC
  refine va_calll hr hS (fun q _ h => hFc q h) hFc (fun r u t H1 locs1 ht hvm hw hB hz1 hk1 hS1 => ?_)
  subst hw
  rw [ht] at hB
  obtain ⟨g1, g2⟩ := k_frame hP hD isC hC hE hk1 hB
  exact kk H1 locs1 g1 g2 hS1
theorem k_beV {aa : Array Value} {st0 : List Value} (hr : va_Run p l e R s m args below meth c H locs cells slots 0 0 (F0 m pc ls st0) rest (k_Qv D cl wn (va_A wc H.size) aa) (va_A wc H.size)) (hP : va_P D cl ws H) (hD : va_D A ws) (hS : va_S A H0 H locs) (hA : ∀ q, H0.size ≤ q → A q) (isC : List Nat) (hC : isC.map (fun i => ws[i]?) = wc.map some) (hE : wn.map (·.1) = wc.map (·.1))
    (kk : ∀ (H1 : Heap) (locs1 : List Loc), va_P D cl (k_put ws isC wn) H1 → va_D A (k_put ws isC wn) → va_S A H0 H1 locs1 → W p l e R s m args below meth c H1 locs1 cells slots Q (F0 m (pc + 3) ls rest)) : W p l e R s m args below meth c H locs cells slots Q (F0 m pc ls st0) := by
  have hFc := va_free (wc := wc) hD hS hA isC hC
  refine va_callv hr hS (fun q _ h => hFc q h) hFc (fun u t H1 locs1 ht hvm hw hB hz1 hk1 hS1 => ?_)
  rw [ht] at hB
  obtain ⟨g1, g2⟩ := k_frame hP hD isC hC hE hk1 hB
  exact kk H1 locs1 g1 g2 hS1
theorem k_beR {rr : Nat} {aa : Array Value} {st0 : List Value} (hr : va_Run p l e R s m args below meth c H locs cells slots 0 0 (F0 m pc ls st0) rest (k_Qr D cl rr wn (va_A wc H.size) aa) (va_A wc H.size)) (hP : va_P D cl ws H) (hD : va_D A ws) (hS : va_S A H0 H locs) (hA : ∀ q, H0.size ≤ q → A q) (isC : List Nat) (hC : isC.map (fun i => ws[i]?) = wc.map some) (hE : wn.map (·.1) = wc.map (·.1))
    (kk : ∀ (H1 : Heap) (locs1 : List Loc), va_P D cl (k_put ws isC wn) H1 → va_D A (k_put ws isC wn) → va_S A H0 H1 locs1 → W p l e R s m args below meth c H1 locs1 cells slots Q (F0 m (pc + 3) ls (.ref rr :: rest))) : W p l e R s m args below meth c H locs cells slots Q (F0 m pc ls st0) := by
  have hFc := va_free (wc := wc) hD hS hA isC hC
  refine va_callr hr hS (fun q _ h => hFc q h) hFc (fun u ra t H1 locs1 ht hvm hw hB hz1 hk1 hS1 => ?_)
  obtain ⟨rfl, hB⟩ := hB
  rw [ht] at hB
  obtain ⟨g1, g2⟩ := k_frame hP hD isC hC hE hk1 hB
  exact kk H1 locs1 g1 g2 hS1
end KCALLS
end KROWS
