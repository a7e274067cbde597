def k_ns : List (String × Nat × MethodName × String) := [(R_Ro, 21, y_Pm_isPlace, "PhraseMoves")]
abbrev k_ty (cI cR cG : ClassId) : List (ClassId × FieldType) := [(cI, .int), (cR, .object R_Ro), (cG, .array .int)]
theorem k_good {ws : List Cond} (h : ∀ w ∈ ws, w ∈ kW) : GoodIn kW ws := fun w hw => ⟨h w hw, good_of_word (kW_word (h w hw))⟩
theorem k_gN {y : MethodName} {b : ByteArray} {n : Nat} {r : Option FieldType} (h : (.code y b n r : Cond) ∈ kW) : GoodIn kW (.code y b n r :: kW) := k_good (fun w hw => (List.mem_cons.mp hw).elim (fun e => e ▸ h) id)
theorem k_gV {own C : String} {idx : Nat} {y : MethodName} {b : ByteArray} {n : Nat} {r : Option FieldType} (h1 : (.methodLink own idx y : Cond) ∈ kW) (h2 : (.instanceMethod y : Cond) ∈ kW) (h3 : (.selects C y y : Cond) ∈ kW) (h4 : (.initialized C : Cond) ∈ kW) (h : (.code y b n r : Cond) ∈ kW) : GoodIn kW (wsV own idx C y (.code y b n r :: kW)) := k_good (fun w hw => by
  rcases List.mem_append.mp hw with hw | hw
  · simp only [List.mem_cons, List.not_mem_nil, or_false] at hw
    rcases hw with rfl | rfl | rfl | rfl <;> assumption
  · exact (List.mem_cons.mp hw).elim (fun e => e ▸ h) id)
theorem k_gS {own : String} {idx : Nat} {y : MethodName} {b : ByteArray} {n : Nat} {r : Option FieldType} (h1 : (.methodLink own idx y : Cond) ∈ kW) (h2 : (.static y : Cond) ∈ kW) (h3 : (.initialized y.cls : Cond) ∈ kW) (h : (.code y b n r : Cond) ∈ kW) : GoodIn kW (va_wsS own idx y (.code y b n r :: kW)) := k_good (fun w hw => by
  rcases List.mem_append.mp hw with hw | hw
  · simp only [List.mem_cons, List.not_mem_nil, or_false] at hw
    rcases hw with rfl | rfl | rfl <;> assumption
  · exact (List.mem_cons.mp hw).elim (fun e => e ▸ h) id)
/-! numbers: an int of the machine as the value of an integer -/
def zI (z : Int) : Int32 := Int32.ofInt z
/-- small enough for a comparison -/
abbrev k_sm (z : Int) : Prop := -2147483648 ≤ z ∧ z ≤ 2147483647
theorem zI_toInt {z : Int} (h : k_sm z) : (zI z).toInt = z := Int32.toInt_ofInt_of_le (by have := h.1; omega) (by have := h.2; omega)
theorem zI_of (x : Int32) : ∃ z : Int, k_sm z ∧ x = zI z := ⟨x.toInt, ⟨by have := x.le_toInt; omega, by have := x.toInt_lt; omega⟩, (Int32.ofInt_toInt x).symm⟩
theorem zI_add (a b : Int) : zI a + zI b = zI (a + b) := (Int32.ofInt_add a b).symm
theorem zI_sub (a b : Int) : zI a - zI b = zI (a - b) := (Int32.ofInt_sub a b).symm
theorem zI_mul (a b : Int) : zI a * zI b = zI (a * b) := (Int32.ofInt_mul a b).symm
theorem zI_le {a b : Int} (ha : k_sm a) (hb : k_sm b) : zI a ≤ zI b ↔ a ≤ b := by
  rw [Int32.le_iff_toInt_le, zI_toInt ha, zI_toInt hb]
theorem zI_lt {a b : Int} (ha : k_sm a) (hb : k_sm b) : zI a < zI b ↔ a < b := by
  rw [Int32.lt_iff_toInt_lt, zI_toInt ha, zI_toInt hb]
theorem zI_eq {a b : Int} (ha : k_sm a) (hb : k_sm b) : zI a = zI b ↔ a = b := by
  rw [← Int32.toInt_inj, zI_toInt ha, zI_toInt hb]
theorem zI_nat (n : Nat) : zI (n : Int) = nI n := Int32.ofInt_eq_ofNat
theorem zI_0 : zI 0 = 0 := by decide +kernel
theorem zI_1 : zI 1 = 1 := by decide +kernel
theorem zI_cl {n : Nat} (h : n ≤ 2147483647) : (zI (n : Int)).toNatClampNeg = n := by
  rw [zI_nat]; exact nI_clamp (by omega)
theorem zI_in {n N : Nat} (h : n < N) (hN : N ≤ 2147483647) : vp_in (zI (n : Int)) N := by
  rw [zI_nat]; exact vp_in_nI h (by omega)
/-- a truth value as the machine has it -/
def k_b (P : Prop) [Decidable P] : Int32 := if P then 1 else 0
theorem k_b0 {P : Prop} [Decidable P] : k_b P = 0 ↔ ¬ P := by
  unfold k_b; by_cases h : P
  · simp [h]
  · simp [h]
theorem k_bt {P : Prop} [Decidable P] (h : P) : k_b P = 1 := if_pos h
theorem k_bf {P : Prop} [Decidable P] (h : ¬ P) : k_b P = 0 := if_neg h
/-- an array of ints out of a row of natural numbers -/
def kA (F : Nat → Nat) : Nat → Int32 := fun j => zI (F j : Int)
theorem kA_up (F : Nat → Nat) (i v : Nat) : upd (kA F) i (zI (v : Int)) = kA (va_up F i v) := by
  funext j
  by_cases h : j = i
  · simp [upd, kA, va_up, h]
  · simp [upd, kA, va_up, h]
theorem k_upB {F : Nat → Nat} {i v B : Nat} (hF : ∀ j, F j ≤ B) (hv : v ≤ B) : ∀ j, va_up F i v j ≤ B := by
  intro j
  unfold va_up
  split
  · exact hv
  · exact hF j
/-! the world: cells put back in their places -/
def k_put : va_W → List Nat → va_W → va_W
  | w, i :: is, q :: qs => k_put (w.set i q) is qs
  | w, _, _ => w
theorem k_put_old : ∀ (is : List Nat) (qs w : va_W) (k : Nat) (q : Nat × va_E), is.length = qs.length → (k_put w is qs)[k]? = some q → q ∈ qs ∨ (w[k]? = some q ∧ k ∉ is)
  | [], [], w, k, q, _, h => Or.inr ⟨h, by simp⟩
  | [], _ :: _, _, _, _, hl, _ => absurd hl (by simp)
  | _ :: _, [], _, _, _, hl, _ => absurd hl (by simp)
  | i :: is, q0 :: qs, w, k, q, hl, h => by
    rcases k_put_old is qs (w.set i q0) k q (by simpa using hl) h with h1 | ⟨h1, h2⟩
    · exact Or.inl (List.mem_cons_of_mem _ h1)
    · by_cases e : i = k
      · subst e
        rw [List.getElem?_set_self'] at h1
        cases hw : w[i]? with
        | none => rw [hw] at h1; simp at h1
        | some y => rw [hw] at h1; simp at h1; exact Or.inl (by rw [h1]; exact List.mem_cons_self)
      · rw [List.getElem?_set_ne e] at h1
        exact Or.inr ⟨h1, by simp; exact ⟨fun h => e h.symm, h2⟩⟩
theorem k_put_addr : ∀ (is : List Nat) (qs w : va_W), (∀ (j i : Nat) (x : Nat × va_E), is[j]? = some i → qs[j]? = some x → ∃ y, w[i]? = some y ∧ y.1 = x.1) → ∀ (k : Nat) (q : Nat × va_E), (k_put w is qs)[k]? = some q → ∃ y, w[k]? = some y ∧ y.1 = q.1
  | [], [], w, _, k, q, h => ⟨q, h, rfl⟩
  | [], _ :: _, w, _, k, q, h => ⟨q, h, rfl⟩
  | _ :: _, [], w, _, k, q, h => ⟨q, h, rfl⟩
  | i :: is, q0 :: qs, w, hh, k, q, h => by
    obtain ⟨y0, hy0, hy1⟩ := hh 0 i q0 rfl rfl
    have hset : ∀ (k : Nat) (y : Nat × va_E), (w.set i q0)[k]? = some y → ∃ z, w[k]? = some z ∧ z.1 = y.1 := by
      intro k y hk
      by_cases e : i = k
      · subst e
        rw [List.getElem?_set_self', hy0] at hk
        simp at hk
        exact ⟨y0, hy0, by rw [hy1, hk]⟩
      · rw [List.getElem?_set_ne e] at hk
        exact ⟨y, hk, rfl⟩
    have hset2 : ∀ (k : Nat) (z : Nat × va_E), w[k]? = some z → ∃ y, (w.set i q0)[k]? = some y ∧ y.1 = z.1 := by
      intro k z hk
      by_cases e : i = k
      · subst e
        rw [hy0] at hk
        refine ⟨q0, ?_, ?_⟩
        · rw [List.getElem?_set_self', hy0]; rfl
        · rw [← hy1]; exact congrArg Prod.fst (Option.some.inj hk)
      · exact ⟨z, by rw [List.getElem?_set_ne e]; exact hk, rfl⟩
    obtain ⟨y, h1, h2⟩ := k_put_addr is qs (w.set i q0) (fun j i' x a b => by
      obtain ⟨y, c1, c2⟩ := hh (j + 1) i' x (by simpa using a) (by simpa using b)
      obtain ⟨z, d1, d2⟩ := hset2 i' y c1
      exact ⟨z, d1, d2.trans c2⟩) k q h
    obtain ⟨z, c1, c2⟩ := hset k y h1
    exact ⟨z, c1, c2.trans h2⟩
/-- THE FRAME: what a call has given back, in its places -/
theorem k_frame {A0 : Nat → Prop} {D : va_G} {cl : List vw_C} {W0 wc wn : va_W} {H H1 : Heap} (hP : va_P D cl W0 H) (hD : va_D A0 W0) (isC : List Nat) (hC : isC.map (fun i => W0[i]?) = wc.map some) (hE : wn.map (·.1) = wc.map (·.1))
    (hk : ∀ q : Nat, q < H.size → ¬ va_A wc H.size q → H1[q]? = H[q]?) (hP1 : va_P D cl wn H1) : va_P D cl (k_put W0 isC wn) H1 ∧ va_D A0 (k_put W0 isC wn) := by
  have hlen : isC.length = wn.length := by
    have e1 := congrArg List.length hC
    have e2 := congrArg List.length hE
    simp at e1 e2
    omega
  have hadr : ∀ (j i : Nat) (x : Nat × va_E), isC[j]? = some i → wn[j]? = some x → ∃ y, W0[i]? = some y ∧ y.1 = x.1 := by
    intro j i x a b
    have e2 : (wn.map (·.1))[j]? = some x.1 := by simp [b]
    rw [hE, List.getElem?_map] at e2
    cases hz : wc[j]? with
    | none => rw [hz] at e2; simp at e2
    | some z =>
      rw [hz] at e2
      have hzx : z.1 = x.1 := by simpa using e2
      have e1 : (isC.map (fun i => W0[i]?))[j]? = some W0[i]? := by rw [List.getElem?_map, a]; rfl
      rw [hC, List.getElem?_map, hz] at e1
      exact ⟨z, (Option.some.inj e1).symm, hzx⟩
  have hin := k_put_addr isC wn W0 hadr
  refine ⟨?_, ?_, ?_⟩
  · intro k q h
    rcases k_put_old isC wn W0 k q hlen h with h1 | ⟨h1, h2⟩
    · obtain ⟨j, hj⟩ := List.getElem?_of_mem h1
      exact hP1 j q hj
    · have ha := hP k q h1
      have hlt : q.1 < H.size := va_at.lt ha
      refine va_at.kept ha (hk q.1 hlt ?_)
      rintro (⟨j, e, hj⟩ | hge)
      · obtain ⟨i, hi1, hi2⟩ := va_in_of isC hC hj
        have hik : i = k := hD.1 i k _ _ hi2 h1 rfl
        subst hik
        exact h2 (List.mem_of_getElem? hi1)
      · omega
  · intro i j p q hi hj he
    obtain ⟨y, y1, y2⟩ := hin i p hi
    obtain ⟨z, z1, z2⟩ := hin j q hj
    exact hD.1 i j y z y1 z1 (by rw [y2, z2, he])
  · intro k q h
    obtain ⟨y, y1, y2⟩ := hin k q h
    rw [← y2]
    exact hD.2 k y y1
/-! contracts: what a method takes, what it gives -/
/-- links that hold from start to end: private members of nest mates -/
def k_G (ns : List (String × Nat × MethodName × String)) (U : State) : Prop := ∀ q ∈ ns, va_Nw (.methodLinkNest q.1 q.2.1 q.2.2.1 q.2.2.2) U
theorem k_G.warm {ns : List (String × Nat × MethodName × String)} {s U : State} (hW : s.WarmedH U.vm) (h : k_G ns s) : k_G ns U := fun q hq => va_Nw.warmM hW (h q hq)
theorem k_G.same {ns : List (String × Nat × MethodName × String)} {u U : State} (e : u.vm = U.vm) (h : k_G ns u) : k_G ns U := fun q hq => va_Nw.same rfl e (h q hq)
def k_In (D : va_G) (cl : List vw_C) (tys : List (ClassId × FieldType)) (wc : va_W) (sz : Nat) (U : State) : Prop := U.heap.size = sz ∧ va_P D cl wc U.heap ∧ va_K D cl tys U ∧ k_G k_ns U ∧ va_D (fun _ => True) wc
abbrev k_Qi (D : va_G) (cl : List vw_C) (rr : Int32) (wn : va_W) (A : Nat → Prop) : Array Value → State → Outcome → State → Prop := va_Qi (fun r (_ : Unit) => r = rr) (fun _ t => va_P D cl wn t.heap) A
abbrev k_Ql (D : va_G) (cl : List vw_C) (rr : Int64) (wn : va_W) (A : Nat → Prop) : Array Value → State → Outcome → State → Prop := va_Ql (fun r (_ : Unit) => r = rr) (fun _ t => va_P D cl wn t.heap) A
abbrev k_Qv (D : va_G) (cl : List vw_C) (wn : va_W) (A : Nat → Prop) : Array Value → State → Outcome → State → Prop := va_Qv (fun (_ : Unit) => True) (fun _ t => va_P D cl wn t.heap) A
abbrev k_Qr (D : va_G) (cl : List vw_C) (rr : Nat) (wn : va_W) (A : Nat → Prop) : Array Value → State → Outcome → State → Prop := va_Qr (fun (_ : Unit) => True) (fun _ a t => a = rr ∧ va_P D cl wn t.heap) A
abbrev k_M (l : Launch) (y : MethodName) (ws : List Cond) (rm : Room) (D : va_G) (cl : List vw_C) (tys : List (ClassId × FieldType)) (as : List Value) (wc : va_W) (Qq : (Nat → Prop) → Array Value → State → Outcome → State → Prop) : Prop :=
  ∀ sz : Nat, Met l y ws rm (va_Pc as (k_In D cl tys wc sz)) (Qq (va_A wc sz)) 0 0 (va_A wc sz)
theorem k_blind {as : List Value} {D : va_G} {cl : List vw_C} {tys : List (ClassId × FieldType)} {wc : va_W} {sz : Nat} : FrameBlind (va_Pc as (k_In D cl tys wc sz)) := by
  intro a U g mk q
  obtain ⟨q0, q1, qP, qK, qG, qD⟩ := q
  exact ⟨q0, q1, qP, va_K.moved (u := U) (U := U.calling g mk a) (Vm.Alike.refl U.vm) qK, qG.same rfl, qD⟩
