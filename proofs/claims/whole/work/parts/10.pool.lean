/-! the rows of the asks, in a pool: row j lies at ro j, its ends at en j -/
def k_p1 (ro en : Nat → Nat) : va_W := (List.range 30).map (fun j => (ro j, .inr (2, [.ref (en j)])))
def k_p2 (cI : ClassId) (en : Nat → Nat) (E : Nat → Nat → Nat) : va_W := (List.range 30).map (fun j => (en j, .inl (cI, 30, .inl (kA (E j)))))
abbrev k_pp (cI : ClassId) (ro en : Nat → Nat) (E : Nat → Nat → Nat) : va_W := k_p1 ro en ++ k_p2 cI en E
theorem k_p1_at {ro en : Nat → Nat} {j : Nat} (h : j < 30) : (k_p1 ro en)[j]? = some (ro j, .inr (2, [.ref (en j)])) := by
  unfold k_p1; rw [List.getElem?_map, List.getElem?_range h]; rfl
theorem k_p2_at {cI : ClassId} {en : Nat → Nat} {E : Nat → Nat → Nat} {j : Nat} (h : j < 30) : (k_p2 cI en E)[j]? = some (en j, .inl (cI, 30, .inl (kA (E j)))) := by
  unfold k_p2; rw [List.getElem?_map, List.getElem?_range h]; rfl
theorem k_p1_len {ro en : Nat → Nat} : (k_p1 ro en).length = 30 := by simp [k_p1]
theorem k_m1 {cI : ClassId} {ro en : Nat → Nat} {E : Nat → Nat → Nat} {j : Nat} (h : j < 30) : ((ro j, .inr (2, [.ref (en j)])) : Nat × va_E) ∈ k_pp cI ro en E := List.mem_append_left _ (List.mem_of_getElem? (k_p1_at h))
theorem k_m2 {cI : ClassId} {ro en : Nat → Nat} {E : Nat → Nat → Nat} {j : Nat} (h : j < 30) : ((en j, .inl (cI, 30, .inl (kA (E j)))) : Nat × va_E) ∈ k_pp cI ro en E := List.mem_append_right _ (List.mem_of_getElem? (k_p2_at h))
theorem k_pp_fst {cI : ClassId} {ro en : Nat → Nat} {E E' : Nat → Nat → Nat} : (k_pp cI ro en E').map (·.1) = (k_pp cI ro en E).map (·.1) := by
  simp [k_pp, k_p1, k_p2]
/-- the addresses of a pool are apart -/
def k_pn (ro en : Nat → Nat) : Prop := (∀ i j, i < 30 → j < 30 → ro i = ro j → i = j) ∧ (∀ i j, i < 30 → j < 30 → en i = en j → i = j) ∧ (∀ i j, i < 30 → j < 30 → ro i ≠ en j)
theorem k_pp_ne {A : Nat → Prop} {cI : ClassId} {ro en : Nat → Nat} {E : Nat → Nat → Nat} (hD : va_D A (k_pp cI ro en E)) : k_pn ro en := by
  have h1 : ∀ i, i < 30 → (k_pp cI ro en E)[i]? = some (ro i, .inr (2, [.ref (en i)])) := fun i h => by
    rw [List.getElem?_append_left (by rw [k_p1_len]; exact h)]; exact k_p1_at h
  have h2 : ∀ i, i < 30 → (k_pp cI ro en E)[30 + i]? = some (en i, .inl (cI, 30, .inl (kA (E i)))) := fun i h => by
    rw [List.getElem?_append_right (by rw [k_p1_len]; omega), k_p1_len, show 30 + i - 30 = i by omega]; exact k_p2_at h
  refine ⟨fun i j hi hj e => hD.1 i j _ _ (h1 i hi) (h1 j hj) e, fun i j hi hj e => ?_, fun i j hi hj e => ?_⟩
  · have := hD.1 _ _ _ _ (h2 i hi) (h2 j hj) e; omega
  · have := hD.1 _ _ _ _ (h1 i hi) (h2 j hj) e; omega
/-- the pool behind a call that has changed one row -/
theorem k_pp_hU {cI : ClassId} {ro en : Nat → Nat} {E : Nat → Nat → Nat} {q : Nat} {v : Nat → Nat} {tc tn : va_W} (hn : k_pn ro en) (hq : q < 30) (h1 : ((en q, .inl (cI, 30, .inl (kA v))) : Nat × va_E) ∈ tn) (h2 : ∀ u ∈ tc, u ∈ tn ∨ u = (en q, .inl (cI, 30, .inl (kA (E q))))) : ∀ u ∈ k_pp cI ro en (va_up E q v), u ∈ tn ∨ (u ∈ k_pp cI ro en E ∧ (u ∈ tc → u ∈ tn)) := by
  intro u hu
  rcases List.mem_append.mp hu with h | h
  · refine Or.inr ⟨List.mem_append_left _ h, fun ht => (h2 u ht).elim id (fun e => ?_)⟩
    obtain ⟨j, hj, rfl⟩ := List.mem_map.mp h
    exact absurd (congrArg Prod.fst e) (hn.2.2 j q (List.mem_range.mp hj) hq)
  · obtain ⟨j, hj, rfl⟩ := List.mem_map.mp h
    have hj := List.mem_range.mp hj
    by_cases e : j = q
    · subst e
      rw [va_up_self]
      exact Or.inl h1
    · rw [va_up_ne _ _ e]
      refine Or.inr ⟨k_m2 hj, fun ht => (h2 _ ht).elim id (fun e2 => ?_)⟩
      exact absurd (hn.2.1 j q hj hq (congrArg Prod.fst e2)) e
theorem k_hU_l {A : Nat → Prop} {P P' Q : va_W} (hD : va_D A (P ++ Q)) : ∀ u ∈ P' ++ Q, u ∈ P' ∨ (u ∈ P ++ Q ∧ (u ∈ P → u ∈ P')) := fun u hu =>
  (List.mem_append.mp hu).elim Or.inl (fun h => Or.inr ⟨List.mem_append_right _ h, fun h2 => absurd rfl (k_D_apart hD h2 h)⟩)
theorem k_hU_r {A : Nat → Prop} {P Q Q' : va_W} (hD : va_D A (P ++ Q)) : ∀ u ∈ P ++ Q', u ∈ Q' ∨ (u ∈ P ++ Q ∧ (u ∈ Q → u ∈ Q')) := fun u hu =>
  (List.mem_append.mp hu).elim (fun h => Or.inr ⟨List.mem_append_left _ h, fun h2 => absurd rfl (k_D_apart hD h h2)⟩) Or.inl
/-! what an ask's row is -/
def e30 : Nat → Nat := fun _ => 30
theorem e30_le : ∀ j, e30 j ≤ 30 := fun _ => Nat.le_refl 30
def rowRaw (t : Nat → Nat) (kd n : Nat) (a b : Nat → Nat) : Nat → Nat := match kd with
  | 0 => rWith t (2 ^ n) 30 0 e30
  | 1 => rGrown b 0 30 0 (rGrown a 0 30 0 e30)
  | 2 => rBehind a b n 30 0 e30
  | 3 => rBehind b a n 30 0 (rBehind a b n 30 0 e30)
  | 4 => rBoth a b n 30 0 e30
  | 5 => rHolding a b 30 0 e30
  | 6 => rIn a b 30 0 e30
  | 7 => rNear a b (-1) true 30 0 e30
  | 8 => rNear a b n false 30 0 e30
  | 9 => rBefore a n 30 0 e30
  | 10 => rGrown a n 30 0 e30
  | _ => e30
def rowVal (t : Nat → Nat) (kd n : Nat) (a b : Nat → Nat) : Nat → Nat := rKL 30 (rowRaw t kd n a b) 30
theorem rowVal_le {t : Nat → Nat} {kd n : Nat} {a b : Nat → Nat} (ha : ∀ j, a j ≤ 30) (hb : ∀ j, b j ≤ 30) : ∀ j, rowVal t kd n a b j ≤ 30 := by
  unfold rowVal
  refine r_bd_rKL ?_
  unfold rowRaw
  split
  · exact r_bd_rWith (by omega) e30_le
  · exact r_bd_rGrown (r_bd_rGrown e30_le ha) hb
  · exact r_bd_rBehind e30_le hb
  · exact r_bd_rBehind (r_bd_rBehind e30_le hb) ha
  · exact r_bd_rBoth e30_le ha hb
  · exact r_bd_rHolding e30_le ha
  · exact r_bd_rIn e30_le ha
  · exact r_bd_rNear e30_le ha
  · exact r_bd_rNear e30_le ha
  · exact r_bd_rBefore e30_le ha
  · exact r_bd_rGrown e30_le ha
  · exact e30_le
def rowsTo (t K fi se nu : Nat → Nat) : Nat → Nat → (Nat → Nat → Nat) → (Nat → Nat → Nat)
  | 0, _, E => E
  | n + 1, i, E => rowsTo t K fi se nu n (i + 1) (va_up E i (rowVal t (K i) (nu i) (E (fi i)) (E (se i))))
def askOK (n : Nat) (K fi se nu : Nat → Nat) : Prop := ∀ i, i < n → K i ≤ 10 ∧ nu i ≤ 30 ∧ (K i = 0 → nu i < 10 ∧ fi i = 0 ∧ se i = 0) ∧ (K i ≠ 0 → fi i < i ∧ se i < i)
theorem k_upE {E : Nat → Nat → Nat} {i : Nat} {v : Nat → Nat} (hE : ∀ j k, E j k ≤ 30) (hv : ∀ k, v k ≤ 30) : ∀ j k, va_up E i v j k ≤ 30 := by
  intro j k
  unfold va_up
  split
  · exact hv k
  · exact hE j k
theorem rowsTo_le {t K fi se nu : Nat → Nat} : ∀ {n i : Nat} {E : Nat → Nat → Nat}, (∀ j k, E j k ≤ 30) → ∀ j k, rowsTo t K fi se nu n i E j k ≤ 30
  | 0, _, _, hE => hE
  | n + 1, i, E, hE => rowsTo_le (n := n) (i := i + 1) (k_upE hE (rowVal_le (hE _) (hE _)))
/-! more rows -/
theorem k_sh1 : ∀ l : Fin 31, (zI 1) <<< (zI ((l.val : Nat) : Int) &&& 31) = zI ((2 ^ l.val : Nat) : Int) := by decide +kernel
theorem k_p10 {n : Nat} (h : n < 10) : 2 ^ n < 1024 := Nat.pow_lt_pow_right (by decide) h
theorem k_tt : zI 1 = k_b (true = true) := by decide +kernel
theorem k_ff : zI 0 = k_b (false = true) := by decide +kernel
/-- cells with the same contents -/
theorem k_ext {cI : ClassId} {n : Nat} {f g : Nat → Int32} (h : ∀ j, j < n → f j = g j) : vp_cell cI (n, .inl f) = vp_cell cI (n, .inl g) := by
  show arrV cI n (fun j => .int (f j)) = arrV cI n (fun j => .int (g j))
  unfold arrV
  congr 2
  funext j
  show Value.int (f j.val) = Value.int (g j.val)
  rw [h j.val j.isLt]
section KP
variable {p : Program} {l : Launch} {e : Env} {R : Room} {s : State} {m : MethodId} {args : Array Value} {below : List Frame} {meth : Method} {c : Code} {H : Heap} {locs : List Loc} {cells slots : Nat} {Q : State → Prop}
variable {cc : ByteArray} {pc : Nat} {ls : Array Slot} {rest : List Value} {D : va_G} {cl : List vw_C} {A : Nat → Prop} {a : Nat} {tys : List (ClassId × FieldType)} {ws : va_W} {H0 : Heap}
theorem k_ishl1 (hx : p.tables.exec = Jvm.exec) (hb : c.code = cc) {n : Nat} (hn : n < 31) (hdg : decode cc pc = .ok (.ishl, 1)) (k : W p l e R s m args below meth c H locs cells slots Q (F0 m (pc + 1) ls (.int (zI ((2 ^ n : Nat) : Int)) :: rest))) : W p l e R s m args below meth c H locs cells slots Q (F0 m pc ls (.int (zI (n : Int)) :: .int (zI 1) :: rest)) :=
  lv_ishl hx hb hdg (by rw [k_sh1 ⟨n, hn⟩]; exact k)
/-- a row of the pool is looked up -/
theorem k_aald (hx : p.tables.exec = Jvm.exec) (hb : c.code = cc) (hK : va_K D cl tys s) (hP : va_P D cl ws H) (q0 t0 : Nat) {cA : ClassId} {C : String} {n : Nat} {ro : Nat → Nat} (ha : ws[q0]? = some (a, .inl (cA, n, .inr (.inr (.inr (.inr (fun i => some (ro i)))))))) (ht : tys[t0]? = some (cA, .object C)) {x : Int} {i : Nat} (hxi : x = (i : Int)) (hi : i < n) (hn : n ≤ 2147483647) (hdg : decode cc pc = .ok (.aaload, 1))
    (kk : W p l e R s m args below meth c H locs cells slots Q (F0 m (pc + 1) ls (.ref (ro i) :: rest))) : W p l e R s m args below meth c H locs cells slots Q (F0 m pc ls (.int (zI x) :: .ref a :: rest)) := by
  subst hxi
  exact va_aldq hx hb hK hP q0 t0 ha ht (zI_in hi hn) hdg (by rw [zI_cl (by omega)]; exact kk)
theorem k_table (hx : p.tables.exec = Jvm.exec) (hb : c.code = cc) {dflt hi : Int} {offs : Array Int} {len : Nat} {x : Int} {v : Nat} {off : Int} {tgt : Nat} (hdg : decode cc pc = .ok (.tableswitch dflt 0 hi offs, len)) (hv : x = (v : Int)) (h2 : (v : Int) ≤ hi) (h3 : hi < 2147483647) (ho : offs[v]? = some off) (ht : (pc : Int) + off = (tgt : Int))
    (k : W p l e R s m args below meth c H locs cells slots Q (F0 m tgt ls rest)) : W p l e R s m args below meth c H locs cells slots Q (F0 m pc ls (.int (zI x) :: rest)) := by
  subst hv
  have e1 : (zI (v : Int)).toInt = (v : Int) := zI_toInt ⟨by omega, by omega⟩
  exact lv_tableIn hx hb hdg (by rw [e1]; omega) (by rw [e1]; omega) (by rw [e1, Int.sub_zero, Int.toNat_natCast]; exact ho) ht k
/-- how long an array is -/
theorem k_alen (hx : p.tables.exec = Jvm.exec) (hb : c.code = cc) (hK : va_K D cl tys s) (hP : va_P D cl ws H) (q0 t0 : Nat) {cA : ClassId} {x : vp_A} (ha : ws[q0]? = some (a, .inl (cA, x))) {ty : FieldType} (ht : tys[t0]? = some (cA, ty)) {v : Int} (hv : (x.1 : Int) = v) (hdg : decode cc pc = .ok (.arraylength, 1))
    (kk : W p l e R s m args below meth c H locs cells slots Q (F0 m (pc + 1) ls (.int (zI v) :: rest))) : W p l e R s m args below meth c H locs cells slots Q (F0 m pc ls (.ref a :: rest)) :=
  va_alen hx hb hK hP q0 t0 ha ht (v := zI v) (by subst hv; exact (zI_nat _).symm) hdg kk
end KP
theorem k_nd2 {ro en : Nat → Nat} {i : Nat} (h : k_pn ro en) (hi : i < 30) : ([ro i, en i] : List Nat).Nodup := by
  simp [h.2.2 i i hi hi]
theorem k_nd4 {ro en : Nat → Nat} {i x : Nat} (h : k_pn ro en) (hi : i < 30) (hx : x < 30) (hix : i ≠ x) : ([ro i, en i, ro x, en x] : List Nat).Nodup := by
  have a1 : ro i ≠ ro x := fun e => hix (h.1 i x hi hx e)
  have a2 : en i ≠ en x := fun e => hix (h.2.1 i x hi hx e)
  have a3 : en i ≠ ro x := fun e => h.2.2 x i hx hi e.symm
  simp [h.2.2 i i hi hi, h.2.2 i x hi hx, h.2.2 x x hx hx, a1, a2, a3]
theorem k_nd6 {ro en : Nat → Nat} {i x y : Nat} (h : k_pn ro en) (hi : i < 30) (hx : x < 30) (hy : y < 30) (hix : i ≠ x) (hiy : i ≠ y) (hxy : x ≠ y) : ([ro i, en i, ro x, en x, ro y, en y] : List Nat).Nodup := by
  have a1 : ro i ≠ ro x := fun e => hix (h.1 i x hi hx e)
  have a2 : en i ≠ en x := fun e => hix (h.2.1 i x hi hx e)
  have a3 : en i ≠ ro x := fun e => h.2.2 x i hx hi e.symm
  have b1 : ro i ≠ ro y := fun e => hiy (h.1 i y hi hy e)
  have b2 : en i ≠ en y := fun e => hiy (h.2.1 i y hi hy e)
  have b3 : en i ≠ ro y := fun e => h.2.2 y i hy hi e.symm
  have c1 : ro x ≠ ro y := fun e => hxy (h.1 x y hx hy e)
  have c2 : en x ≠ en y := fun e => hxy (h.2.1 x y hx hy e)
  have c3 : en x ≠ ro y := fun e => h.2.2 y x hy hx e.symm
  simp [h.2.2 i i hi hi, h.2.2 i x hi hx, h.2.2 i y hi hy, h.2.2 x x hx hx, h.2.2 x y hx hy, h.2.2 y y hy hy, a1, a2, a3, b1, b2, b3, c1, c2, c3]
