/-! THE INVARIANT: pure words on the state -/
theorem fN_spec {P : Nat → Bool} : ∀ {m c d : Nat}, fN P m c = some d → c ≤ d ∧ d < c + m ∧ P d = true ∧ ∀ e, c ≤ e → e < d → P e = false := by
  intro m
  induction m with
  | zero => intro c d h; cases h
  | succ m ih =>
    intro c d h
    cases hp : P c with
    | true =>
      rw [fN_t hp] at h
      cases h
      exact ⟨Nat.le_refl _, by omega, hp, fun e h1 h2 => by omega⟩
    | false =>
      rw [fN_f hp] at h
      obtain ⟨h1, h2, h3, h4⟩ := ih h
      refine ⟨by omega, by omega, h3, fun e e1 e2 => ?_⟩
      by_cases he : e = c
      · rw [he]; exact hp
      · exact h4 e (by omega) e2
theorem fN_none {P : Nat → Bool} : ∀ {m c : Nat}, fN P m c = none ↔ ∀ d, c ≤ d → d < c + m → P d = false := by
  intro m
  induction m with
  | zero => intro c; exact ⟨fun _ d h1 h2 => by omega, fun _ => rfl⟩
  | succ m ih =>
    intro c
    cases hp : P c with
    | true =>
      rw [fN_t hp]
      exact ⟨(fun h => by cases h), fun h => by rw [h c (Nat.le_refl _) (by omega)] at hp; cases hp⟩
    | false =>
      rw [fN_f hp, ih]
      refine ⟨fun h d h1 h2 => ?_, fun h d h1 h2 => h d (by omega) (by omega)⟩
      by_cases he : d = c
      · rw [he]; exact hp
      · exact h d (by omega) (by omega)
/-- copy c is aside for reader x in record r -/
def As (S : St) (c x r : Nat) : Prop := cpPl (cps S c) = 2 ∧ cpRd (cps S c) = some x ∧ cpRc (cps S c) = r
theorem asB_iff {S : St} {c x r : Nat} : asideB S (some x) r c = true ↔ c < nCp S ∧ As S c x r := by
  simp only [asideB, decide_eq_true_eq, As]
theorem noneA_iff {S : St} {x r : Nat} (hn : nCp S ≤ 30) : noneA S r x = true ↔ ∀ c, c < nCp S → ¬ As S c x r := by
  unfold noneA
  rw [Option.isNone_iff_eq_none, fN_none]
  constructor
  · intro h c hc ha
    have := h c (Nat.zero_le _) (by omega)
    rw [asB_iff.mpr ⟨hc, ha⟩] at this
    cases this
  · intro h d _ _
    cases hb : asideB S (some x) r d with
    | false => rfl
    | true => exact absurd (asB_iff.mp hb).2 (h d (asB_iff.mp hb).1)
/-- what free makes of copy c -/
def FreeOut (S : St) (c : Nat) (d : Cp) : Prop :=
  (d = freed (cps S c) ∧ ∀ x ∈ lin S (cpRc (cps S c)), ∃ c', c' < nCp S ∧ c' ≠ c ∧ As S c' x (cpRc (cps S c))) ∨
  (∃ y, d = asided (cps S c) y (tdy S) ∧ y ∈ lin S (cpRc (cps S c)) ∧ ∀ c', c' < nCp S → c' ≠ c → ¬ As S c' y (cpRc (cps S c)))
theorem as_ne {S : St} {c c' x r : Nat} {d : Cp} (h : c' ≠ c) : As (setCp S c d) c' x r ↔ As S c' x r := by
  unfold As
  show cpPl (va_up (cps S) c d c') = 2 ∧ cpRd (va_up (cps S) c d c') = some x ∧ cpRc (va_up (cps S) c d c') = r ↔ _
  rw [up_ne h]
theorem as_eq {S : St} {c x r : Nat} {d : Cp} : As (setCp S c d) c x r ↔ cpPl d = 2 ∧ cpRd d = some x ∧ cpRc d = r := by
  unfold As
  show cpPl (va_up (cps S) c d c) = 2 ∧ cpRd (va_up (cps S) c d c) = some x ∧ cpRc (va_up (cps S) c d c) = r ↔ _
  rw [up_eq]
theorem free_rel {S : St} (hn : nCp S ≤ 30) (c : Nat) : ∃ d, freeS S c = setCp S c d ∧ FreeOut S c d := by
  have h0 : ∀ x, noneA (setCp S c (freed (cps S c))) (cpRc (cps S c)) x = true ↔ ∀ c', c' < nCp S → c' ≠ c → ¬ As S c' x (cpRc (cps S c)) := by
    intro x
    rw [noneA_iff (S := setCp S c (freed (cps S c))) hn]
    constructor
    · intro h c' hc' hne ha
      exact h c' hc' ((as_ne hne).mpr ha)
    · intro h c' hc' ha
      by_cases hne : c' = c
      · subst hne
        have := (as_eq.mp ha).1
        cases this
      · exact h c' hc' hne ((as_ne hne).mp ha)
  cases hw : nextW (setCp S c (freed (cps S c))) (cpRc (cps S c)) with
  | none =>
    refine ⟨freed (cps S c), ?_, Or.inl ⟨rfl, fun x hx => ?_⟩⟩
    · show sCps S (freeC S c) = _
      unfold freeC
      rw [hw]
    · have h1 := List.find?_eq_none.mp hw x hx
      apply Classical.byContradiction
      intro hno
      exact h1 ((h0 x).mpr (fun c' hc' hne ha => hno ⟨c', hc', hne, ha⟩))
  | some y =>
    refine ⟨asided (cps S c) y (tdy S), ?_, Or.inr ⟨y, rfl, List.mem_of_find?_eq_some hw, ?_⟩⟩
    · show sCps S (freeC S c) = _
      unfold freeC
      rw [hw]
    · exact (h0 y).mp (List.find?_some hw)
/-! the parts of the invariant -/
/-- a copy's numbers; e: how much later it may be -/
def Sh (e : Int) (S : St) (c : Nat) : Prop := (∃ p, 1 ≤ p ∧ p ≤ 200 ∧ cpPr (cps S c) = nI p) ∧ (
  (cpPl (cps S c) = 0 ∧ cpRd (cps S c) = none ∧ cpDy (cps S c) = -1 ∧ cpRn (cps S c) = 0) ∨
  (cpPl (cps S c) = 1 ∧ (∃ x, x < 4 ∧ cpRd (cps S c) = some x) ∧ 0 ≤ (cpDy (cps S c)).toInt ∧ (tdy S).toInt ≤ (cpDy (cps S c)).toInt + 29 + e ∧ (cpDy (cps S c)).toInt ≤ (tdy S).toInt + 28 ∧ 0 ≤ (cpRn (cps S c)).toInt ∧ (cpRn (cps S c)).toInt ≤ 2) ∨
  (cpPl (cps S c) = 2 ∧ (∃ x, x < 4 ∧ cpRd (cps S c) = some x) ∧ (tdy S).toInt ≤ (cpDy (cps S c)).toInt + e ∧ (cpDy (cps S c)).toInt ≤ (tdy S).toInt + 6 ∧ cpRn (cps S c) = 0) ∨
  (cpPl (cps S c) = 3 ∧ (∃ x, x < 4 ∧ cpRd (cps S c) = some x) ∧ cpDy (cps S c) = -1 ∧ cpRn (cps S c) = 0))
/-- an aside copy is aside for one who waits, and the only one for it -/
def Ri (S : St) (c : Nat) : Prop := ∀ x, As S c x (cpRc (cps S c)) → x ∈ lin S (cpRc (cps S c)) ∧ ∀ c', c' < nCp S → As S c' x (cpRc (cps S c)) → c' = c
/-- no copy stands while somebody waits without one -/
def Fr (S : St) (c : Nat) : Prop := cpPl (cps S c) = 0 → ∀ x ∈ lin S (cpRc (cps S c)), ∃ c', c' < nCp S ∧ As S c' x (cpRc (cps S c))
def lentN (S : St) (x : Nat) : Nat := cn (ofB S (some x) 1) 30
/-- all but the copies -/
def Dt (t : Nat) (S : St) : Prop := Wf S ∧ nNm S = 1 ∧ nRd S = 4 ∧ 3 ≤ nRc S ∧ (0 ≤ (tdy S).toInt ∧ (tdy S).toInt ≤ 20 * t) ∧
  (∀ x, x < 4 → (∃ k, k ≤ 1 ∧ rdKi (rds S x) = nI k) ∧ 0 ≤ (rdOw (rds S x)).toInt ∧ (rdOw (rds S x)).toInt ≤ 200000 * t) ∧
  (∀ i, i < nRc S → (rcAu (rcs S i) = none ∨ rcAu (rcs S i) = some 0) ∧ (∃ k, 1 ≤ k ∧ k ≤ 100 ∧ rcTi (rcs S i) = nI k) ∧ rcYe (rcs S i) = nI 50) ∧
  (1 ≤ cn (liveB S) 20 ∧ ∃ rk : Nat → Nat, ∀ i, i < nRc S → rk i + cn (liveB S) 20 ≤ nRc S ∧ ∀ j, rcWe (rcs S i) = some j → rk j < rk i)
/-- the copies, but for who waits -/
def Cs (e : Int) (S : St) : Prop := (∀ c, c < nCp S → rcWe (rcs S (cpRc (cps S c))) = none ∧ Sh e S c) ∧ ∀ x, x < 4 → (lentN S x : Int) ≤ (moreN (rdKi (rds S x))).toInt
def Inv (t : Nat) (S : St) : Prop := Dt t S ∧ Cs 0 S ∧ ∀ c, c < nCp S → Ri S c ∧ Fr S c
theorem inv_nrm {t : Nat} {S : St} : Inv t (nrm S) ↔ Inv t S := Iff.rfl
theorem inv_same {t : Nat} {S T : St} (h : nrm T = nrm S) (I : Inv t S) : Inv t T := by
  have : Inv t (nrm T) := by rw [h]; exact I
  exact this
/-! counting -/
theorem cn_mono {P Q : Nat → Bool} (h : ∀ c, P c = true → Q c = true) : ∀ k, cn P k ≤ cn Q k := by
  intro k
  induction k with
  | zero => exact Nat.le_refl _
  | succ k ih =>
    have : (P k).toNat ≤ (Q k).toNat := by
      cases hp : P k with
      | false => exact Nat.zero_le _
      | true => rw [h k hp]; exact Nat.le_refl _
    simp only [cn]; omega
theorem cn_congr {P Q : Nat → Bool} {k : Nat} (h : ∀ c, c < k → P c = Q c) : cn P k = cn Q k := by
  induction k with
  | zero => rfl
  | succ k ih => simp only [cn]; rw [ih (fun c hc => h c (by omega)), h k (by omega)]
theorem cn_add {P Q R : Nat → Bool} (h : ∀ c, (P c).toNat + (Q c).toNat = (R c).toNat) : ∀ k, cn P k + cn Q k = cn R k := by
  intro k
  induction k with
  | zero => rfl
  | succ k ih => have := h k; simp only [cn]; omega
theorem cn_zero {P : Nat → Bool} (h : ∀ c, P c = false) : ∀ k, cn P k = 0 := by
  intro k
  induction k with
  | zero => rfl
  | succ k ih => simp only [cn, ih, h k]; rfl
theorem cn_pos {P : Nat → Bool} {c k : Nat} (hc : c < k) (h : P c = true) : 1 ≤ cn P k := by
  induction k with
  | zero => omega
  | succ k ih =>
    simp only [cn]
    by_cases hck : c = k
    · rw [← hck, h]; simp
    · have := ih (by omega); omega
/-- changed at one place -/
theorem cn_up {P Q : Nat → Bool} {i : Nat} (h : ∀ c, c ≠ i → P c = Q c) : ∀ k, i < k → cn P k + (Q i).toNat = cn Q k + (P i).toNat := by
  intro k
  induction k with
  | zero => intro h; omega
  | succ k ih =>
    intro hi
    simp only [cn]
    by_cases hik : i = k
    · subst hik
      rw [cn_congr (P := P) (Q := Q) (k := i) (fun c hc => h c (by omega))]
      omega
    · have := ih (by omega)
      rw [h k (fun z => hik z.symm)]
      omega
