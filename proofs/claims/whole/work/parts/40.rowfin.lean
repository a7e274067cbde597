/-! what stands in a row in the end -/
theorem rKL_hi {n : Nat} : ∀ {F : Nat → Nat} {le j : Nat}, n ≤ j → rKL n F le j = F j := by
  induction n with
  | zero => intro F le j _; rfl
  | succ n ih =>
    intro F le j hj
    unfold rKL
    split
    · exact ih (by omega)
    · rw [ih (by omega), va_up_ne _ _ (by omega)]
theorem rKL_congr {n : Nat} : ∀ {F F' : Nat → Nat} {le j : Nat}, (∀ i, i < n → F i = F' i) → j < n → rKL n F le j = rKL n F' le j := by
  induction n with
  | zero => intro F F' le j _ hj; omega
  | succ n ih =>
    intro F F' le j h hj
    unfold rKL
    rw [h n (by omega)]
    by_cases e : j = n
    · subst e
      split
      · rw [rKL_hi (Nat.le_refl _), rKL_hi (Nat.le_refl _), h j (by omega)]
      · rw [rKL_hi (Nat.le_refl _), rKL_hi (Nat.le_refl _), va_up_self, va_up_self]
    · split
      · exact ih (fun i hi => h i (by omega)) (by omega)
      · exact ih (fun i hi => by rw [va_up_ne _ _ (by omega), va_up_ne _ _ (by omega)]; exact h i (by omega)) (by omega)
theorem mLast_spec {k : Nat} {U : Nat → Nat} : ∀ (n le : Nat) (G : Nat → Nat), (∀ j, j < n → mLast k U n le G (30 * k + j) = rKL n U le j) ∧ ∀ z, (z < 30 * k ∨ 30 * k + n ≤ z) → mLast k U n le G z = G z
  | 0, _, _ => ⟨fun j hj => by omega, fun _ _ => rfl⟩
  | n + 1, le, G => by
    unfold mLast rKL
    split
    · obtain ⟨h1, h2⟩ := mLast_spec (k := k) (U := U) n (U n) (va_up G (30 * k + n) (U n))
      refine ⟨fun j hj => ?_, fun z hz => by rw [h2 z (by omega), va_up_ne _ _ (by omega)]⟩
      by_cases e : j = n
      · subst e; rw [h2 _ (by omega), va_up_self, rKL_hi (Nat.le_refl _)]
      · exact h1 j (by omega)
    · obtain ⟨h1, h2⟩ := mLast_spec (k := k) (U := U) n le (va_up G (30 * k + n) 30)
      refine ⟨fun j hj => ?_, fun z hz => by rw [h2 z (by omega), va_up_ne _ _ (by omega)]⟩
      by_cases e : j = n
      · subst e; rw [h2 _ (by omega), va_up_self, rKL_hi (Nat.le_refl _), va_up_self]
      · rw [h1 j (by omega)]
        exact rKL_congr (fun i hi => (va_up_ne _ _ (by omega)).symm) (by omega)
/-- the least ones: ends rise -/
theorem rKL_least {n : Nat} : ∀ {F : Nat → Nat} {le : Nat}, le ≤ 30 → (∀ i, i < n → rKL n F le i ≠ 30 → rKL n F le i = F i ∧ rKL n F le i < le) ∧ ∀ i j, i < j → j < n → rKL n F le i ≠ 30 → rKL n F le j ≠ 30 → rKL n F le i < rKL n F le j := by
  induction n with
  | zero => intro F le _; exact ⟨fun i hi => by omega, fun i j _ hj => by omega⟩
  | succ n ih =>
    intro F le hle
    unfold rKL
    by_cases h : F n < le
    · rw [if_pos h]
      obtain ⟨h1, h2⟩ := ih (F := F) (le := F n) (by omega)
      refine ⟨fun i hi hne => ?_, fun i j hij hj hi1 hj1 => ?_⟩
      · by_cases e : i = n
        · subst e; rw [rKL_hi (Nat.le_refl _)]; exact ⟨rfl, h⟩
        · have := h1 i (by omega) hne; omega
      · by_cases e : j = n
        · subst e; rw [rKL_hi (Nat.le_refl _)]; exact (h1 i hij hi1).2
        · exact h2 i j hij (by omega) hi1 hj1
    · rw [if_neg h]
      obtain ⟨h1, h2⟩ := ih (F := va_up F n 30) (le := le) hle
      refine ⟨fun i hi hne => ?_, fun i j hij hj hi1 hj1 => ?_⟩
      · by_cases e : i = n
        · subst e; rw [rKL_hi (Nat.le_refl _), va_up_self] at hne; exact absurd rfl hne
        · have := h1 i (by omega) hne
          rw [va_up_ne _ _ e] at this; exact this
      · by_cases e : j = n
        · subst e; rw [rKL_hi (Nat.le_refl _), va_up_self] at hj1; exact absurd rfl hj1
        · exact h2 i j hij (by omega) hi1 hj1
/-- a row as it is kept: none beyond, each end behind its begin, ends rise -/
def rOK (F : Nat → Nat) : Prop := rWF F ∧ ∀ i j, i < j → j < 30 → F i ≠ 30 → F j ≠ 30 → F i < F j
theorem qRow_wf {kd nn : Nat} {n : Int} {a b : Nat → Nat} {i u v : Nat} (hn : kd ≠ 1 ∧ kd ≠ 5 ∧ kd ≠ 6 ∧ kd ≠ 7 → n = (nn : Int)) (ha : rWF a) (hb : rWF b) (h : qRow kd n a b i u v) : u ≤ v := by
  unfold qRow at h
  rcases h with (⟨h3, ⟨_, h4, h5⟩ | ⟨h4, h5, h6⟩⟩ | ⟨_, x, _, _, ⟨h6, h7⟩, ⟨_, h8, _, h10, h11⟩ | ⟨_, h8, _, h10, h11⟩ | ⟨_, _, h10, h11⟩ | ⟨_, h10, h11⟩⟩) | ⟨⟨_, h3⟩, h4, h5⟩
  · have := (ha i).2 h3; omega
  · have := (ha i).2 h3; have := hn (by omega); omega
  · have := (hb x).2 h7; have := (ha i).2 h6; omega
  · have := (hb x).2 h7; have := (ha i).2 h6; omega
  · have := (hb x).2 h7; have := (ha i).2 h6; omega
  · have := (ha i).2 h6; omega
  · have := (hb i).2 h3; omega
theorem mUnder_wf {t : Nat → Nat} {kd nn : Nat} {n : Int} {a b : Nat → Nat} (hn : kd ≠ 1 ∧ kd ≠ 5 ∧ kd ≠ 6 ∧ kd ≠ 7 → n = (nn : Int)) (ha : rWF a) (hb : rWF b) : rWF (mUnder t kd n nn a b) := by
  intro j
  refine ⟨mUnder_le (fun k => (ha k).1) (fun k => (hb k).1) j, fun hj => ?_⟩
  by_cases k0 : kd = 0
  · unfold mUnder at hj ⊢
    rw [if_pos k0] at hj ⊢
    by_cases hp : j < 30
    · rw [if_pos hp] at hj ⊢
      unfold mTerm at hj ⊢
      split
      · exact Nat.le_refl _
      · omega
    · rw [if_neg hp]; exact absurd (if_neg hp) hj
  · have hle := mUnder_le (t := t) (kd := kd) (n := n) (nn := nn) (fun k => (ha k).1) (fun k => (hb k).1) j
    unfold mUnder at hj hle ⊢
    rw [if_neg k0] at hj hle ⊢
    rcases (mOuter_adds kd n a b e30 j _).mp (Nat.le_refl _) with h | ⟨v, ⟨i, _, _, hq⟩, hv⟩
    · have : e30 j = 30 := rfl
      dsimp only at h
      omega
    · have := qRow_wf hn ha hb hq
      dsimp only at hv
      have h3 := (mOuter_adds kd n a b e30 j v).mpr (Or.inr ⟨v, ⟨i, by omega, by omega, hq⟩, Nat.le_refl _⟩)
      dsimp only at h3
      omega
theorem rowVal_ok {t : Nat → Nat} {kd nn : Nat} {a b : Nat → Nat} (hkd : kd ≤ 10) (ha : rWF a) (hb : rWF b) : rOK (rowVal t kd nn a b) := by
  have hw := mUnder_wf (t := t) (kd := kd) (nn := nn) (n := (nn : Int)) (fun _ => rfl) ha hb
  rw [← rowRaw_eq hkd (fun _ => rfl) ha hb] at hw
  obtain ⟨h1, h2⟩ := rKL_least (n := 30) (F := rowRaw t kd nn a b) (le := 30) (Nat.le_refl _)
  refine ⟨fun j => ⟨rowVal_le (fun k => (ha k).1) (fun k => (hb k).1) j, fun hj => ?_⟩, fun i j hij hj hi1 hj1 => h2 i j hij hj hi1 hj1⟩
  unfold rowVal at hj ⊢
  by_cases hj3 : j < 30
  · have := h1 j hj3 hj
    rw [this.1] at hj ⊢
    exact (hw j).2 hj
  · rw [rKL_hi (by omega)] at hj ⊢
    exact (hw j).2 hj
/-- rows that are what their asks say, the first n -/
def isRows (t K fi sc nn : Nat → Nat) (n : Nat) (E : Nat → Nat → Nat) : Prop := ∀ j, j < n → E j = rowVal t (K j) (nn j) (E (fi j)) (E (sc j))
theorem rowVal_0 {t : Nat → Nat} {n : Nat} {a b a' b' : Nat → Nat} : rowVal t 0 n a b = rowVal t 0 n a' b' := rfl
theorem rowsTo_out {t K fi sc nn : Nat → Nat} : ∀ (c i : Nat) (E : Nat → Nat → Nat) (j : Nat), (j < i ∨ i + c ≤ j) → rowsTo t K fi sc nn c i E j = E j
  | 0, _, _, _, _ => rfl
  | c + 1, i, E, j, h => by
    unfold rowsTo
    rw [rowsTo_out c (i + 1) _ j (by omega), va_up_ne _ _ (by omega)]
theorem rowsTo_is {t K fi sc nn : Nat → Nat} {n : Nat} (hok : askOK n K fi sc nn) : ∀ (c i : Nat) (E : Nat → Nat → Nat), i + c ≤ n → isRows t K fi sc nn i E → isRows t K fi sc nn (i + c) (rowsTo t K fi sc nn c i E)
  | 0, _, _, _, h => h
  | c + 1, i, E, hn, h => by
    unfold rowsTo
    rw [show i + (c + 1) = i + 1 + c by omega]
    refine rowsTo_is hok c (i + 1) _ (by omega) (fun j hj => ?_)
    obtain ⟨o1, o2, o3, o4⟩ := hok j (by omega)
    have hval : ∀ q, q < i → va_up E i (rowVal t (K i) (nn i) (E (fi i)) (E (sc i))) q = E q := fun q hq => va_up_ne _ _ (by omega)
    by_cases k0 : K j = 0
    · by_cases e : j = i
      · subst e; rw [va_up_self, k0]; exact rowVal_0
      · rw [hval j (by omega), h j (by omega), k0]; exact rowVal_0
    · obtain ⟨p1, p2⟩ := o4 k0
      by_cases e : j = i
      · subst e; rw [va_up_self, hval _ p1, hval _ p2]
      · rw [hval j (by omega), hval (fi j) (by omega), hval (sc j) (by omega)]; exact h j (by omega)
theorem isRows_ok {t K fi sc nn : Nat → Nat} {n : Nat} {E : Nat → Nat → Nat} (hok : askOK n K fi sc nn) (h : isRows t K fi sc nn n E) : ∀ m j, j < m → j < n → rOK (E j) := by
  intro m
  induction m with
  | zero => intro j hj; omega
  | succ m ih =>
    intro j hj hn
    obtain ⟨o1, o2, o3, o4⟩ := hok j hn
    rw [h j hn]
    by_cases k0 : K j = 0
    · rw [k0, rowVal_0 (a' := e30) (b' := e30)]
      exact rowVal_ok (by omega) (fun _ => ⟨Nat.le_refl _, fun h => absurd rfl h⟩) (fun _ => ⟨Nat.le_refl _, fun h => absurd rfl h⟩)
    · obtain ⟨p1, p2⟩ := o4 k0
      exact rowVal_ok o1 (ih (fi j) (by omega) (by omega)).1 (ih (sc j) (by omega) (by omega)).1
theorem isRows_uniq {t K fi sc nn : Nat → Nat} {n : Nat} {E E' : Nat → Nat → Nat} (hok : askOK n K fi sc nn) (h : isRows t K fi sc nn n E) (h' : isRows t K fi sc nn n E') : ∀ m j, j < m → j < n → E j = E' j := by
  intro m
  induction m with
  | zero => intro j hj; omega
  | succ m ih =>
    intro j hj hn
    obtain ⟨o1, o2, o3, o4⟩ := hok j hn
    rw [h j hn, h' j hn]
    by_cases k0 : K j = 0
    · rw [k0]; exact rowVal_0
    · obtain ⟨p1, p2⟩ := o4 k0
      rw [ih (fi j) (by omega) (by omega), ih (sc j) (by omega) (by omega)]
/-! the reference's table of ends -/
theorem mFar_congr {b b' : Nat → Nat} {n : Int} {i j : Nat} : ∀ (c x far : Nat), (∀ y, y < x + c → b y = b' y) → mFar b n i j c x far = mFar b' n i j c x far
  | 0, _, _, _ => rfl
  | c + 1, x, far, h => by
    unfold mFar
    rw [h x (by omega), mFar_congr c (x + 1) _ (fun y hy => h y (by omega)), mFar_congr c (x + 1) far (fun y hy => h y (by omega))]
theorem mInner_congr {kd : Nat} {n : Int} {b b' : Nat → Nat} {i j : Nat} : ∀ (c x : Nat) (F : Nat → Nat), (∀ y, y < x + c → b y = b' y) → mInner kd n b i j c x F = mInner kd n b' i j c x F
  | 0, _, _, _ => rfl
  | c + 1, x, F, h => by
    unfold mInner
    rw [h x (by omega)]
    exact mInner_congr c (x + 1) _ (fun y hy => h y (by omega))
theorem mOuter_congr {kd : Nat} {n : Int} {a b a' b' : Nat → Nat} (ha : ∀ y, y < 30 → a y = a' y) (hb : ∀ y, y < 30 → b y = b' y) : ∀ (c i : Nat) (F : Nat → Nat), i + c ≤ 30 → mOuter kd n a b c i F = mOuter kd n a' b' c i F
  | 0, _, _, _ => rfl
  | c + 1, i, F, hi => by
    unfold mOuter
    have e : mRow kd n a b i F = mRow kd n a' b' i F := by
      unfold mRow mAlone
      rw [ha i (by omega), hb i (by omega), mFar_congr 30 0 1 (fun y hy => hb y (by omega))]
      rw [mInner_congr 30 0 _ (fun y hy => hb y (by omega))]
    rw [e]
    exact mOuter_congr ha hb c (i + 1) _ (by omega)
theorem mUnder_congr {t : Nat → Nat} {kd nn : Nat} {n : Int} {a b a' b' : Nat → Nat} (ha : ∀ y, y < 30 → a y = a' y) (hb : ∀ y, y < 30 → b y = b' y) : mUnder t kd n nn a b = mUnder t kd n nn a' b' := by
  unfold mUnder; rw [mOuter_congr ha hb 30 0 e30 (by omega)]
theorem mUnder_0 {t : Nat → Nat} {nn : Nat} {n n' : Int} {a b a' b' : Nat → Nat} : mUnder t 0 n nn a b = mUnder t 0 n' nn a' b' := rfl
theorem mFA_rows {t K fi sc nn : Nat → Nat} {on ot nu : Nat → Int} {n : Nat} {EE : Nat → Nat → Nat} (hok : askOK n K fi sc nn) (hmo : moOK n K fi sc nn on ot nu) (h : isRows t K fi sc nn n EE) : ∀ (c k : Nat) (S : (Nat → Nat) × (Nat → Nat)), k + c ≤ n → (∀ k', k' < k → ∀ z, z < 30 → S.1 (30 * k' + z) = EE k' z) → ∀ k', k' < k + c → ∀ z, z < 30 → (mFA t K fi sc nn nu c k S).1 (30 * k' + z) = EE k' z
  | 0, k, S, _, hS => fun k' hk' => hS k' (by omega)
  | c + 1, k, S, hn, hS => by
    unfold mFA
    rw [show k + (c + 1) = k + 1 + c by omega]
    refine mFA_rows hok hmo h c (k + 1) _ (by omega) (fun k' hk' z hz => ?_)
    dsimp only
    obtain ⟨o1, o2, o3, o4⟩ := hok k (by omega)
    obtain ⟨m1, m2, m3⟩ := hmo k (by omega)
    obtain ⟨l1, l2⟩ := mLast_spec (k := k) (U := mUnder t (K k) (nu k) (nn k) (fun z => S.1 (30 * fi k + z)) (fun z => S.1 (30 * sc k + z))) 30 30 S.1
    by_cases e : k' = k
    · subst e
      rw [l1 z hz, h k' (by omega)]
      unfold rowVal
      by_cases k0 : K k' = 0
      · rw [k0, mUnder_0 (n' := (nn k' : Int)) (a' := EE (fi k')) (b' := EE (sc k'))]
        have w0 : rWF e30 := fun _ => ⟨Nat.le_refl _, fun h => absurd rfl h⟩
        have := rowRaw_eq (t := t) (kd := 0) (nn := nn k') (n := (nn k' : Int)) (by omega) (fun _ => rfl) w0 w0
        rw [show rowRaw t 0 (nn k') (EE (fi k')) (EE (sc k')) = rowRaw t 0 (nn k') e30 e30 from rfl, this]
        rfl
      · obtain ⟨p1, p2⟩ := o4 k0
        rw [mUnder_congr (a' := EE (fi k')) (b' := EE (sc k')) (fun y hy => hS (fi k') p1 y hy) (fun y hy => hS (sc k') p2 y hy)]
        rw [rowRaw_eq o1 (n := nu k') m3 (isRows_ok hok h n (fi k') (by omega) (by omega)).1 (isRows_ok hok h n (sc k') (by omega) (by omega)).1]
    · rw [l2 _ (by omega)]
      exact hS k' (by omega) z hz
/-! the answers -/
theorem rSize_congr {F G : Nat → Nat} : ∀ (c i acc : Nat), (∀ j, j < i + c → F j = G j) → rSize F c i acc = rSize G c i acc
  | 0, _, _, _ => rfl
  | c + 1, i, acc, h => by
    unfold rSize
    rw [h i (by omega), rSize_congr c (i + 1) _ (fun j hj => h j (by omega)), rSize_congr c (i + 1) acc (fun j hj => h j (by omega))]
theorem rBegin_congr {F G : Nat → Nat} {k : Int} : ∀ (c i b : Nat), (∀ j, j < i + c → F j = G j) → rBegin F k c i b = rBegin G k c i b
  | 0, _, _, _ => rfl
  | c + 1, i, b, h => by
    unfold rBegin
    rw [h i (by omega), rBegin_congr c (i + 1) _ (fun j hj => h j (by omega)), rBegin_congr c (i + 1) b (fun j hj => h j (by omega))]
theorem rEnd_congr {F G : Nat → Nat} {k : Int} (h : ∀ j, j < 30 → F j = G j) : rEnd F k = rEnd G k := by
  unfold rEnd
  rw [rBegin_congr 30 0 0 (fun j hj => h j (by omega))]
  have hb := rBegin_bd G k 30 0 0 (by omega)
  split
  · rw [h _ (by omega)]
  · rfl
theorem mIs_congr {F G : Nat → Nat} {p : Nat} : ∀ (c i z : Nat), (∀ j, j < i + c → F j = G j) → mIs F p c i z = mIs G p c i z
  | 0, _, _, _ => rfl
  | c + 1, i, z, h => by
    unfold mIs
    rw [h i (by omega), mIs_congr c (i + 1) _ (fun j hj => h j (by omega))]
theorem mCov_congr {F G : Nat → Nat} (h : ∀ j, j < 30 → F j = G j) : ∀ (c p acc : Nat), p + c ≤ 30 → mCov F c p acc = mCov G c p acc
  | 0, _, _, _ => rfl
  | c + 1, p, acc, hp => by
    unfold mCov
    rw [mIs_congr (p + 1) 0 0 (fun j hj => h j (by omega)), mCov_congr h c (p + 1) _ (by omega)]
theorem mIs_iff {F : Nat → Nat} {p : Nat} : ∀ (c i z : Nat), z ≤ 1 → (mIs F p c i z = 1 ↔ z = 1 ∨ ∃ j, i ≤ j ∧ j < i + c ∧ (p : Int) ≤ mz (F j))
  | 0, i, z, hz => ⟨Or.inl, fun h => h.elim id (fun ⟨j, a, b, _⟩ => by omega)⟩
  | c + 1, i, z, hz => by
    unfold mIs
    rw [mIs_iff c (i + 1) _ (by split <;> omega)]
    constructor
    · rintro (h | ⟨j, a, b, d⟩)
      · split at h
        · rename_i h2
          rcases h2 with h2 | h2
          · exact Or.inl (by omega)
          · exact Or.inr ⟨i, Nat.le_refl _, by omega, h2⟩
        · omega
      · exact Or.inr ⟨j, by omega, by omega, d⟩
    · rintro (h | ⟨j, a, b, d⟩)
      · exact Or.inl (if_pos (Or.inl (by omega)))
      · by_cases e : j = i
        · subst e; exact Or.inl (if_pos (Or.inr d))
        · exact Or.inr ⟨j, by omega, by omega, d⟩
/-- the last end before place n -/
def lst (F : Nat → Nat) : Nat → Int
  | 0 => -1
  | n + 1 => if F n ≠ 30 then (F n : Int) else lst F n
theorem lst_spec {F : Nat → Nat} (h : rOK F) : ∀ n, n ≤ 30 → (∀ i, i < n → F i ≠ 30 → (F i : Int) ≤ lst F n) ∧ (lst F n = -1 ∨ ∃ i, i < n ∧ F i ≠ 30 ∧ lst F n = (F i : Int))
  | 0, _ => ⟨fun i hi => by omega, Or.inl rfl⟩
  | n + 1, hn => by
    obtain ⟨h1, h2⟩ := lst_spec h n (by omega)
    unfold lst
    by_cases e : F n ≠ 30
    · rw [if_pos e]
      refine ⟨fun i hi he => ?_, Or.inr ⟨n, by omega, e, rfl⟩⟩
      by_cases e2 : i = n
      · subst e2; exact Int.le_refl _
      · have := h.2 i n (by omega) (by omega) he e; omega
    · rw [if_neg e]
      refine ⟨fun i hi he => ?_, h2.imp id (fun ⟨i, a, b, c⟩ => ⟨i, by omega, b, c⟩)⟩
      by_cases e2 : i = n
      · subst e2; exact absurd he e
      · exact h1 i (by omega) he
theorem mIs_lst {F : Nat → Nat} (h : rOK F) {p : Nat} (hp : p < 30) : mIs F p (p + 1) 0 0 = if (p : Int) ≤ lst F (p + 1) then 1 else 0 := by
  have hb := mIs_le (F := F) (p := p) (c := p + 1) (i := 0) (is_ := 0) (by omega)
  have hi := mIs_iff (F := F) (p := p) (p + 1) 0 0 (by omega)
  obtain ⟨h1, h2⟩ := lst_spec h (p + 1) (by omega)
  split
  · rename_i hc
    refine hi.mpr (Or.inr ?_)
    rcases h2 with h2 | ⟨i, a, b, c⟩
    · omega
    · refine ⟨i, by omega, by omega, ?_⟩
      rcases mz_or (F i) with hm | hm <;> omega
  · rename_i hc
    have : ¬ mIs F p (p + 1) 0 0 = 1 := fun h9 => by
      rcases hi.mp h9 with h9 | ⟨j, a, b, c⟩
      · omega
      · have hm := mz_or (F j)
        have hj : F j ≠ 30 := fun e => by omega
        have := h1 j (by omega) hj
        omega
    omega
theorem cov_eq {F : Nat → Nat} (h : rOK F) : ∀ (c i acc : Nat), i + c = 30 → rCov F c i ((acc : Int) + max 0 (lst F i + 1 - i)) (lst F i) = ((mCov F c i acc : Nat) : Int)
  | 0, i, acc, hi => by
    have h30 : i = 30 := by omega
    subst h30
    obtain ⟨h1, h2⟩ := lst_spec h 30 (Nat.le_refl _)
    have : lst F 30 ≤ 29 := by
      rcases h2 with h2 | ⟨i, a, b, c⟩
      · omega
      · have := (h.1 i).1; omega
    unfold rCov mCov
    omega
  | c + 1, i, acc, hi => by
    unfold mCov
    rw [mIs_lst h (by omega), ← cov_eq h c (i + 1) _ (by omega)]
    rw [rCov]
    obtain ⟨h1, h2⟩ := lst_spec h i (by omega)
    have hl : lst F (i + 1) = if F i ≠ 30 then (F i : Int) else lst F i := rfl
    by_cases e : F i ≠ 30
    · rw [if_pos e] at hl ⊢
      have w := (h.1 i).2 e
      rw [hl, if_pos (by omega)]
      congr 1
      omega
    · rw [if_neg e] at hl ⊢
      rw [hl]
      congr 1
      split <;> omega
theorem cov_same {F : Nat → Nat} (h : rOK F) : rCov F 30 0 0 (-1) = ((mCov F 30 0 0 : Nat) : Int) := by
  have := cov_eq h 30 0 0 (by omega)
  rw [← this]
  rfl
