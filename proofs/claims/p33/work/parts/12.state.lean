/-! THE STATE of a library, in our words, and the heap that holds it -/
/-- a copy: price, record, place, reader, day, renewed, there -/
abbrev Cp : Type := Int32 × Nat × Int32 × Option Nat × Int32 × Int32 × Int32
/-- a record: author, title, year, into which it went, how often lent -/
abbrev Rc : Type := Option Nat × Int32 × Int32 × Option Nat × Int32
/-- a reader: kind, what it owes -/
abbrev Rd : Type := Int32 × Int32
/-- addresses: the hall; the rows of names, records, copies, readers; then each name, record, line, line's row, copy, reader -/
abbrev Ad : Type := (Nat × Nat × Nat × Nat × Nat) × (Nat → Nat) × (Nat → Nat) × (Nat → Nat) × (Nat → Nat) × (Nat → Nat) × (Nat → Nat)
/-- addresses; numbers of names, records, copies, readers, today; records, lines, copies, readers -/
abbrev St : Type := Ad × (Nat × Nat × Nat × Nat × Int32) × (Nat → Rc) × (Nat → List Nat) × (Nat → Cp) × (Nat → Rd)
abbrev aH (S : St) : Nat := S.1.1.1
abbrev aNs (S : St) : Nat := S.1.1.2.1
abbrev aRs (S : St) : Nat := S.1.1.2.2.1
abbrev aCs (S : St) : Nat := S.1.1.2.2.2.1
abbrev aDs (S : St) : Nat := S.1.1.2.2.2.2
abbrev adN (S : St) : Nat → Nat := S.1.2.1
abbrev adR (S : St) : Nat → Nat := S.1.2.2.1
abbrev adL (S : St) : Nat → Nat := S.1.2.2.2.1
abbrev adQ (S : St) : Nat → Nat := S.1.2.2.2.2.1
abbrev adC (S : St) : Nat → Nat := S.1.2.2.2.2.2.1
abbrev adD (S : St) : Nat → Nat := S.1.2.2.2.2.2.2
abbrev nNm (S : St) : Nat := S.2.1.1
abbrev nRc (S : St) : Nat := S.2.1.2.1
abbrev nCp (S : St) : Nat := S.2.1.2.2.1
abbrev nRd (S : St) : Nat := S.2.1.2.2.2.1
abbrev tdy (S : St) : Int32 := S.2.1.2.2.2.2
abbrev rcs (S : St) : Nat → Rc := S.2.2.1
abbrev lin (S : St) : Nat → List Nat := S.2.2.2.1
abbrev cps (S : St) : Nat → Cp := S.2.2.2.2.1
abbrev rds (S : St) : Nat → Rd := S.2.2.2.2.2
abbrev cpPr (c : Cp) : Int32 := c.1
abbrev cpRc (c : Cp) : Nat := c.2.1
abbrev cpPl (c : Cp) : Int32 := c.2.2.1
abbrev cpRd (c : Cp) : Option Nat := c.2.2.2.1
abbrev cpDy (c : Cp) : Int32 := c.2.2.2.2.1
abbrev cpRn (c : Cp) : Int32 := c.2.2.2.2.2.1
abbrev cpTh (c : Cp) : Int32 := c.2.2.2.2.2.2
abbrev rcAu (r : Rc) : Option Nat := r.1
abbrev rcTi (r : Rc) : Int32 := r.2.1
abbrev rcYe (r : Rc) : Int32 := r.2.2.1
abbrev rcWe (r : Rc) : Option Nat := r.2.2.2.1
abbrev rcLe (r : Rc) : Int32 := r.2.2.2.2
abbrev rdKi (r : Rd) : Int32 := r.1
abbrev rdOw (r : Rd) : Int32 := r.2
/-- the state with other copies, readers, lines, records -/
abbrev sCps (S : St) (c : Nat → Cp) : St := (S.1, S.2.1, S.2.2.1, S.2.2.2.1, c, S.2.2.2.2.2)
abbrev sRds (S : St) (d : Nat → Rd) : St := (S.1, S.2.1, S.2.2.1, S.2.2.2.1, S.2.2.2.2.1, d)
abbrev sLin (S : St) (f : Nat → List Nat) : St := (S.1, S.2.1, S.2.2.1, f, S.2.2.2.2.1, S.2.2.2.2.2)
abbrev sRcs (S : St) (r : Nat → Rc) : St := (S.1, S.2.1, r, S.2.2.2.1, S.2.2.2.2.1, S.2.2.2.2.2)
abbrev sTdy (S : St) (t : Int32) : St := (S.1, (S.2.1.1, S.2.1.2.1, S.2.1.2.2.1, S.2.1.2.2.2.1, t), S.2.2.1, S.2.2.2.1, S.2.2.2.2.1, S.2.2.2.2.2)
abbrev setCp (S : St) (i : Nat) (c : Cp) : St := sCps S (va_up (cps S) i c)
abbrev setRd (S : St) (i : Nat) (d : Rd) : St := sRds S (va_up (rds S) i d)
abbrev setLn (S : St) (i : Nat) (f : List Nat) : St := sLin S (va_up (lin S) i f)
abbrev setRc (S : St) (i : Nat) (r : Rc) : St := sRcs S (va_up (rcs S) i r)
/-- n things at their addresses, null behind -/
def rowf (n : Nat) (f : Nat → Nat) : Nat → Option Nat := fun i => if i < n then some (f i) else none
abbrev lnf (l : List Nat) (f : Nat → Nat) : Nat → Option Nat := fun j => l[j]?.map f
/-- cells -/
abbrev mHall (a1 a2 a3 a4 : Nat) (n1 n2 n3 n4 : Nat) (t : Int32) : ME := .inr (5, [.ref a1, .ref a2, .ref a3, .ref a4, .int (nI n1), .int (nI n2), .int (nI n3), .int (nI n4), .int t])
abbrev mName (i : Nat) : ME := .inr (2, [.int (nI i), .null])
abbrev mRec (i : Nat) (au : Option Nat) (ti ye : Int32) (ln : Nat) (we : Option Nat) (le : Int32) : ME := .inr (0, [.int (nI i), va_rf au, .int ti, .int ye, .ref ln, va_rf we, .int le])
abbrev mLine (q : Nat) (n : Nat) : ME := .inr (4, [.ref q, .int (nI n)])
abbrev mCopy (i : Nat) (pr : Int32) (rc : Nat) (pl : Int32) (rd : Option Nat) (dy rn th : Int32) : ME := .inr (1, [.int (nI i), .int pr, .ref rc, .int pl, va_rf rd, .int dy, .int rn, .int th])
abbrev mRdr (i : Nat) (ki ow : Int32) : ME := .inr (3, [.int (nI i), .int ki, .int ow])
abbrev oHall (S : St) : ME := mHall (aNs S) (aRs S) (aCs S) (aDs S) (nNm S) (nRc S) (nCp S) (nRd S) (tdy S)
abbrev oRec (S : St) (i : Nat) : ME := mRec i ((rcAu (rcs S i)).map (adN S)) (rcTi (rcs S i)) (rcYe (rcs S i)) (adL S i) ((rcWe (rcs S i)).map (adR S)) (rcLe (rcs S i))
abbrev oLine (S : St) (i : Nat) : ME := mLine (adQ S i) (lin S i).length
abbrev oRow (S : St) (i : Nat) : ME := aR RX3 8 (lnf (lin S i) (adD S))
abbrev oCopy (S : St) (i : Nat) : ME := mCopy i (cpPr (cps S i)) (adR S (cpRc (cps S i))) (cpPl (cps S i)) ((cpRd (cps S i)).map (adD S)) (cpDy (cps S i)) (cpRn (cps S i)) (cpTh (cps S i))
abbrev oRdr (S : St) (i : Nat) : ME := mRdr i (rdKi (rds S i)) (rdOw (rds S i))
/-- the heap holds the state -/
def Rep (S : St) (h : HP) : Prop :=
  h (aH S) = some (oHall S) ∧ h (aNs S) = some (aR RX2 16 (rowf (nNm S) (adN S))) ∧ h (aRs S) = some (aR RX0 20 (rowf (nRc S) (adR S))) ∧
  h (aCs S) = some (aR RX1 30 (rowf (nCp S) (adC S))) ∧ h (aDs S) = some (aR RX3 8 (rowf (nRd S) (adD S))) ∧
  (∀ i, i < nNm S → h (adN S i) = some (mName i)) ∧
  (∀ i, i < nRc S → h (adR S i) = some (oRec S i)) ∧ (∀ i, i < nRc S → h (adL S i) = some (oLine S i)) ∧ (∀ i, i < nRc S → h (adQ S i) = some (oRow S i)) ∧
  (∀ i, i < nCp S → h (adC S i) = some (oCopy S i)) ∧
  (∀ i, i < nRd S → h (adD S i) = some (oRdr S i)) ∧
  (∀ i j, i < nRc S → j < nRc S → adQ S i = adQ S j → i = j) ∧ (∀ i, i < nRc S → adQ S i ≠ aDs S)
/-- numbers and references within their bounds -/
def Wf (S : St) : Prop :=
  nNm S ≤ 16 ∧ nRc S ≤ 20 ∧ nCp S ≤ 30 ∧ nRd S ≤ 8 ∧
  (∀ i, i < nRc S → (∀ j, rcAu (rcs S i) = some j → j < nNm S) ∧ (∀ j, rcWe (rcs S i) = some j → j < nRc S)) ∧
  (∀ i, i < nRc S → (lin S i).length ≤ 8 ∧ (∀ x ∈ lin S i, x < nRd S) ∧ (lin S i).Nodup) ∧
  (∀ i, i < nCp S → cpRc (cps S i) < nRc S ∧ (∀ r, cpRd (cps S i) = some r → r < nRd S) ∧ (cpPl (cps S i) = 2 → cpRd (cps S i) ≠ none))
section
variable {S : St} {h : HP}
theorem Rep.hall (R : Rep S h) : h (aH S) = some (oHall S) := R.1
theorem Rep.names (R : Rep S h) : h (aNs S) = some (aR RX2 16 (rowf (nNm S) (adN S))) := R.2.1
theorem Rep.records (R : Rep S h) : h (aRs S) = some (aR RX0 20 (rowf (nRc S) (adR S))) := R.2.2.1
theorem Rep.copies (R : Rep S h) : h (aCs S) = some (aR RX1 30 (rowf (nCp S) (adC S))) := R.2.2.2.1
theorem Rep.readers (R : Rep S h) : h (aDs S) = some (aR RX3 8 (rowf (nRd S) (adD S))) := R.2.2.2.2.1
theorem Rep.name (R : Rep S h) {i : Nat} (hi : i < nNm S) : h (adN S i) = some (mName i) := R.2.2.2.2.2.1 i hi
theorem Rep.rec (R : Rep S h) {i : Nat} (hi : i < nRc S) : h (adR S i) = some (oRec S i) := R.2.2.2.2.2.2.1 i hi
theorem Rep.line (R : Rep S h) {i : Nat} (hi : i < nRc S) : h (adL S i) = some (oLine S i) := R.2.2.2.2.2.2.2.1 i hi
theorem Rep.row (R : Rep S h) {i : Nat} (hi : i < nRc S) : h (adQ S i) = some (oRow S i) := R.2.2.2.2.2.2.2.2.1 i hi
theorem Rep.copy (R : Rep S h) {i : Nat} (hi : i < nCp S) : h (adC S i) = some (oCopy S i) := R.2.2.2.2.2.2.2.2.2.1 i hi
theorem Rep.rdr (R : Rep S h) {i : Nat} (hi : i < nRd S) : h (adD S i) = some (oRdr S i) := R.2.2.2.2.2.2.2.2.2.2.1 i hi
theorem Rep.rowInj (R : Rep S h) {i j : Nat} (hi : i < nRc S) (hj : j < nRc S) (he : adQ S i = adQ S j) : i = j := R.2.2.2.2.2.2.2.2.2.2.2.1 i j hi hj he
theorem Rep.rowNe (R : Rep S h) {i : Nat} (hi : i < nRc S) : adQ S i ≠ aDs S := R.2.2.2.2.2.2.2.2.2.2.2.2 i hi
theorem nI_inj {a b : Nat} (ha : a < 2 ^ 31) (hb : b < 2 ^ 31) (h : nI a = nI b) : a = b := (nI_eq ha hb).mp h
theorem Rep.recInj (R : Rep S h) (W : Wf S) {i j : Nat} (hi : i < nRc S) (hj : j < nRc S) (he : adR S i = adR S j) : i = j := by
  have h1 := R.rec hi
  have h2 := R.rec hj
  rw [he, h2] at h1
  have hb := W.2.1
  simp only [Option.some.injEq, Sum.inr.injEq, Prod.mk.injEq, List.cons.injEq, Value.int.injEq] at h1
  exact nI_inj (by omega) (by omega) h1.2.1.symm
theorem Rep.copyInj (R : Rep S h) (W : Wf S) {i j : Nat} (hi : i < nCp S) (hj : j < nCp S) (he : adC S i = adC S j) : i = j := by
  have h1 := R.copy hi
  have h2 := R.copy hj
  rw [he, h2] at h1
  have hb := W.2.2.1
  simp only [Option.some.injEq, Sum.inr.injEq, Prod.mk.injEq, List.cons.injEq, Value.int.injEq] at h1
  exact nI_inj (by omega) (by omega) h1.2.1.symm
theorem Rep.rdrInj (R : Rep S h) (W : Wf S) {i j : Nat} (hi : i < nRd S) (hj : j < nRd S) (he : adD S i = adD S j) : i = j := by
  have h1 := R.rdr hi
  have h2 := R.rdr hj
  rw [he, h2] at h1
  have hb := W.2.2.2.1
  simp only [Option.some.injEq, Sum.inr.injEq, Prod.mk.injEq, List.cons.injEq, Value.int.injEq] at h1
  exact nI_inj (by omega) (by omega) h1.2.1.symm
theorem Rep.nameInj (R : Rep S h) (W : Wf S) {i j : Nat} (hi : i < nNm S) (hj : j < nNm S) (he : adN S i = adN S j) : i = j := by
  have h1 := R.name hi
  have h2 := R.name hj
  rw [he, h2] at h1
  have hb := W.1
  simp only [Option.some.injEq, Sum.inr.injEq, Prod.mk.injEq, List.cons.injEq, Value.int.injEq] at h1
  exact nI_inj (by omega) (by omega) h1.2.1.symm
theorem Rep.lineInj (R : Rep S h) {i j : Nat} (hi : i < nRc S) (hj : j < nRc S) (he : adL S i = adL S j) : i = j := by
  have h1 := R.line hi
  have h2 := R.line hj
  rw [he, h2] at h1
  simp only [Option.some.injEq, Sum.inr.injEq, Prod.mk.injEq, List.cons.injEq, Value.ref.injEq] at h1
  exact R.rowInj hi hj h1.2.1.symm
end
theorem rowf_lt {n i : Nat} {f : Nat → Nat} (hi : i < n) : va_rf (rowf n f i) = .ref (f i) := by simp [rowf, hi, va_rf]
theorem rowf_ge {n i : Nat} {f : Nat → Nat} (hi : ¬ i < n) : va_rf (rowf n f i) = .null := by simp [rowf, hi, va_rf]
theorem nar_rf (C : String) (o : Option Nat) : narrow (.object C) (va_rf o) = va_rf o := by cases o <;> rfl
theorem fits_rf (C : String) (o : Option Nat) : fits (.object C) (va_rf o) = true := by cases o <;> rfl
