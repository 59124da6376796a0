/-! rows of V: the heap -/
def aR (C : String) (N : Nat) (f : Nat → Option Nat) : ME := .inl (.object C, N, .inr (.inr (.inr (.inr f))))
def aI (N : Nat) (f : Nat → Int32) : ME := .inl (.int, N, .inl f)
/-- a class of vwCl, with what its fields are -/
def CLs (ci : Nat) (C : String) (T : u_T) (N : Nat) (ty : Nat → FieldType) : Prop :=
  vwCl[ci]? = some (C, T, N) ∧ (∀ w ∈ u_ws C T N, w ∈ tbW) ∧ (∀ k, k < N → parseFieldDescriptor (T k).2.2.1 = some (ty k)) ∧ ∀ a, a < N → ∀ b, b < N → a ≠ b → (T a).2.1 ≠ (T b).2.1
/-- a field that an entry of the class own names -/
def FL (own : String) (idx ci k : Nat) (ty : FieldType) (fin : Bool) : Prop :=
  ∃ (C : String) (T : u_T) (N : Nat) (tyf : Nat → FieldType), CLs ci C T N tyf ∧ k < N ∧ tyf k = ty ∧ (T k).2.2.2 = fin ∧ (fin = true → (T k).1 = own) ∧ Cond.fieldLink own idx (T k).1 (T k).2.1 (T k).2.2.1 ∈ tbW
/-- a field that is only read there -/
def FLr (own : String) (idx ci k : Nat) : Prop :=
  ∃ (C : String) (T : u_T) (N : Nat) (tyf : Nat → FieldType), CLs ci C T N tyf ∧ k < N ∧ Cond.fieldLink own idx (T k).1 (T k).2.1 (T k).2.2.1 ∈ tbW
theorem FL.r {own : String} {idx ci k : Nat} {ty : FieldType} {fin : Bool} (h : FL own idx ci k ty fin) : FLr own idx ci k := by
  obtain ⟨C, T, N, tyf, h1, h2, -, -, -, h3⟩ := h
  exact ⟨C, T, N, tyf, h1, h2, h3⟩
/-- a class that an entry of the class own names, to be made -/
def NWc (own : String) (idx ci N : Nat) (fs : List Value) : Prop :=
  ∃ (C : String) (T : u_T) (tyf : Nat → FieldType), CLs ci C T N tyf ∧ Cond.classLink own idx C ∈ tbW ∧ Cond.instantiable C N ∈ tbW ∧ Cond.initialized C ∈ tbW ∧ ∀ j, j < N → defaultValue (tyf j) = vp_V fs j
section
variable {Z : ZC} {pc : Nat} {lv : List (Option Value)} {st : List Value} {h : HP} {k n : Nat} {own : String} {cc : ByteArray} {nL fr lc mc ms : Nat}
theorem V_getfield (hZ : OKz Z own cc nL fr lc mc ms) {idx ci j q : Nat} {fs : List Value} {v : Value} (fl : FLr own idx ci j) (hd : decode cc pc = .ok (.getfield idx, 3)) (hc : h q = some (.inr (ci, fs))) (hv : fs[j]? = some v) (kk : V Z (pc + 3) lv (v :: st) h k n) : V Z pc lv (.ref q :: st) h k n := by
  obtain ⟨⟨l, D, lo, b, L, xs⟩, p, e, R, s, m, args, below, meth, c, Q⟩ := Z
  obtain ⟨hx, hb, hml, hown, hI, hlk, hst, hR0⟩ := hZ
  obtain ⟨C, T, N, tyf, ⟨hcl, hin, -, -⟩, hk, hw⟩ := fl
  intro H locs ls hR hS hl
  obtain ⟨ws, tys, hK, hP, hD, hr⟩ := id hR
  obtain ⟨i, hi⟩ := hr q _ hc
  exact va_get (ci := ci) (v := v) hx hb hI.1.use hin hown hK hP i hi hcl j hk (hI.1.use _ hw) (fun _ h9 => h9) hv hd (kk H locs ls hR hS hl)
theorem V_putfield (hZ : OKz Z own cc nL fr lc mc ms) {idx ci j q : Nat} {ty : FieldType} {fs : List Value} {v : Value} (fl : FL own idx ci j ty false) (hd : decode cc pc = .ok (.putfield idx, 3)) (hc : h q = some (.inr (ci, fs))) (hn : narrow ty v = v) (hfit : fits ty v = true) (hl0 : j < fs.length) (kk : V Z (pc + 3) lv st (hup h q (.inr (ci, fs.set j v))) k n) : V Z pc lv (v :: .ref q :: st) h k n := by
  obtain ⟨⟨l, D, lo, b, L, xs⟩, p, e, R, s, m, args, below, meth, c, Q⟩ := Z
  obtain ⟨hx, hb, hml, hown, hI, hlk, hst, hR0⟩ := hZ
  obtain ⟨C, T, N, tyf, ⟨hcl, hin, hty, hnm⟩, hk, rfl, hfin, -, hw⟩ := fl
  intro H locs ls hR hS hl
  obtain ⟨ws, tys, hK, hP, hD, hr⟩ := id hR
  obtain ⟨i, hi⟩ := hr q _ hc
  refine va_put (ci := ci) (v := v) hx hb hI.1.use hin tyf hty hnm hown hK hP hD hS i hi hcl j hk (hI.1.use _ hw) (fun _ h9 => h9) hfin (hty j hk) hn hfit hl0 hd (fun H1 locs1 hP1 hD1 hS1 => ?_)
  refine kk H1 locs1 ls ⟨_, tys, hK, hP1, hD1, ?_⟩ hS1 hl
  exact Rin.set hD hi ⟨i, List.getElem?_set_self (List.getElem?_eq_some_iff.mp hi).1⟩ hr
theorem V_putF (hZ : OKz Z own cc nL fr lc mc ms) {nm : String} {ret : Option FieldType} {mc' ms' : Nat} {Qn : Option Value → HP → Prop} {Qx : String → HP → Prop} (hE : EDz Z nm ret mc' ms' Qn Qx) (hnm0 : nm = "<init>") {idx ci j q : Nat} {ty : FieldType} {fs : List Value} {v : Value} (fl : FL own idx ci j ty true) (hd : decode cc pc = .ok (.putfield idx, 3)) (hc : h q = some (.inr (ci, fs))) (hn : narrow ty v = v) (hfit : fits ty v = true) (hl0 : j < fs.length) (kk : V Z (pc + 3) lv st (hup h q (.inr (ci, fs.set j v))) k n) : V Z pc lv (v :: .ref q :: st) h k n := by
  obtain ⟨⟨l, D, lo, b, L, xs⟩, p, e, R, s, m, args, below, meth, c, Q⟩ := Z
  obtain ⟨hx, hb, hml, hown, hI, hlk, hst, hR0⟩ := hZ
  obtain ⟨hnm1, -, -⟩ := hE
  obtain ⟨C, T, N, tyf, ⟨hcl, hin, hty, hnm⟩, hk, rfl, hfin, hdecl, hw⟩ := fl
  intro H locs ls hR hS hl
  obtain ⟨ws, tys, hK, hP, hD, hr⟩ := id hR
  obtain ⟨i, hi⟩ := hr q _ hc
  refine va_putF (ci := ci) (v := v) hx hb hI.1.use hin tyf hty hnm hown hK hP hD hS i hi hcl j hk (hI.1.use _ hw) (fun _ h9 => h9) hfin (hnm1.trans hnm0) (hdecl rfl) (hty j hk) hn hfit hl0 hd (fun H1 locs1 hP1 hD1 hS1 => ?_)
  refine kk H1 locs1 ls ⟨_, tys, hK, hP1, hD1, ?_⟩ hS1 hl
  exact Rin.set hD hi ⟨i, List.getElem?_set_self (List.getElem?_eq_some_iff.mp hi).1⟩ hr
theorem V_new (hZ : OKz Z own cc nL fr lc mc ms) {idx ci N : Nat} {fs : List Value} (nw : NWc own idx ci N fs) (hd : decode cc pc = .ok (.new idx, 3)) (hk1 : k + 1 ≤ mc) (hn1 : n + N ≤ ms) (kk : ∀ q : Nat, h q = none → V Z (pc + 3) lv (.ref q :: st) (hup h q (.inr (ci, fs))) (k + 1) (n + N)) : V Z pc lv st h k n := by
  obtain ⟨⟨l, D, lo, b, L, xs⟩, p, e, R, s, m, args, below, meth, c, Q⟩ := Z
  obtain ⟨hx, hb, hml, hown, hI, hlk, hst, rfl⟩ := hZ
  obtain ⟨C, T, tyf, ⟨hcl, hin, hty, hnm⟩, h1, h2, h3, hdef⟩ := nw
  intro H locs ls hR hS hl
  obtain ⟨ws, tys, hK, hP, hD, hr⟩ := id hR
  have hA : ∀ q, s.heap.size ≤ q → (fun q => lo ≤ q) q := fun q hq => Nat.le_trans hI.2.2.2.2.1 hq
  refine va_new (ci := ci) hx hb hI.1.use hin tyf hty hown (hI.1.use _ h1) (hI.1.use _ h2) (hI.1.use _ h3) hK hP hD hS hA hcl hdef hk1 hn1 hd (fun q H1 hP1 hD1 hS1 => ?_)
  refine kk q (Rin.fresh hD1 hr) H1 locs ls ⟨_, tys ++ [], (List.append_nil tys).symm ▸ hK, hP1, hD1, ?_⟩ hS1 hl
  exact Rin.push ⟨ws.length, by simp⟩ hr
theorem V_anew (hZ : OKz Z own cc nL fr lc mc ms) {idx N : Nat} {C : String} {i : Int32} (h1 : Cond.classLink own idx C ∈ tbW) (h2 : Cond.arrayOver (.object C) ∈ tbW) (hd : decode cc pc = .ok (.anewarray idx, 3)) (hi : ¬ i < 0) (hN : i.toNatClampNeg = N) (hb4 : N * 4 ≤ 536870912) (hk1 : k + 1 ≤ mc) (hn1 : n + N ≤ ms) (kk : ∀ q : Nat, h q = none → V Z (pc + 3) lv (.ref q :: st) (hup h q (aR C N (fun _ => none))) (k + 1) (n + N)) : V Z pc lv (.int i :: st) h k n := by
  obtain ⟨⟨l, D, lo, b, L, xs⟩, p, e, R, s, m, args, below, meth, c, Q⟩ := Z
  obtain ⟨hx, hb, hml, hown, hI, hlk, hst, rfl⟩ := hZ
  intro H locs ls hR hS hl
  obtain ⟨ws, tys, hK, hP, hD, hr⟩ := id hR
  have hA : ∀ q, s.heap.size ≤ q → (fun q => lo ≤ q) q := fun q hq => Nat.le_trans hI.2.2.2.2.1 hq
  refine va_newq (C := C) hx hb hown (hI.1.use _ h1) (va_AO.of (hI.1.use (args := #[]) _ h2)) hK hP hD hS hA hi hN hb4 hk1 hn1 hd (fun q cA H1 hK1 hP1 hD1 hS1 => ?_)
  refine kk q (Rin.fresh hD1 hr) H1 locs ls ⟨_, _, hK1, hP1, hD1, ?_⟩ hS1 hl
  exact Rin.push ⟨ws.length, tys.length, cA, by simp, by simp⟩ hr
theorem V_inew (hZ : OKz Z own cc nL fr lc mc ms) {N : Nat} {i : Int32} (h1 : Cond.arrayClass .int ∈ tbW) (hd : decode cc pc = .ok (.newarray .int, 2)) (hi : ¬ i < 0) (hN : i.toNatClampNeg = N) (hb4 : N * 4 ≤ 536870912) (hk1 : k + 1 ≤ mc) (hn1 : n + N ≤ ms) (kk : ∀ q : Nat, h q = none → V Z (pc + 2) lv (.ref q :: st) (hup h q (aI N (fun _ => 0))) (k + 1) (n + N)) : V Z pc lv (.int i :: st) h k n := by
  obtain ⟨⟨l, D, lo, b, L, xs⟩, p, e, R, s, m, args, below, meth, c, Q⟩ := Z
  obtain ⟨hx, hb, hml, hown, hI, hlk, hst, rfl⟩ := hZ
  intro H locs ls hR hS hl
  obtain ⟨ws, tys, hK, hP, hD, hr⟩ := id hR
  have hA : ∀ q, s.heap.size ≤ q → (fun q => lo ≤ q) q := fun q hq => Nat.le_trans hI.2.2.2.2.1 hq
  refine va_newa (atype := .int) (a0 := (N, .inl (fun _ => 0))) hx hb (hI.1.use _ h1) rfl hK hP hD hS hA (fun cA => rfl) hi hN hb4 hk1 hn1 hd (fun q cA H1 hK1 hP1 hD1 hS1 => ?_)
  refine kk q (Rin.fresh hD1 hr) H1 locs ls ⟨_, _, hK1, hP1, hD1, ?_⟩ hS1 hl
  exact Rin.push ⟨ws.length, tys.length, cA, by simp, by simp; rfl⟩ hr
theorem V_alen (hZ : OKz Z own cc nL fr lc mc ms) {q : Nat} {a : FieldType × vp_A} (hd : decode cc pc = .ok (.arraylength, 1)) (hc : h q = some (.inl a)) (kk : V Z (pc + 1) lv (.int (Int32.ofNat a.2.1) :: st) h k n) : V Z pc lv (.ref q :: st) h k n := by
  obtain ⟨⟨l, D, lo, b, L, xs⟩, p, e, R, s, m, args, below, meth, c, Q⟩ := Z
  obtain ⟨hx, hb, hml, hown, hI, hlk, hst, hR0⟩ := hZ
  intro H locs ls hR hS hl
  obtain ⟨ws, tys, hK, hP, hD, hr⟩ := id hR
  obtain ⟨i, j, cA, hi, hj⟩ := hr q _ hc
  exact va_alen hx hb hK hP i j hi hj rfl hd (kk H locs ls hR hS hl)
theorem V_aald (hZ : OKz Z own cc nL fr lc mc ms) {q N : Nat} {C : String} {f : Nat → Option Nat} {i : Int32} (hd : decode cc pc = .ok (.aaload, 1)) (hc : h q = some (aR C N f)) (hi : vp_in i N) (kk : V Z (pc + 1) lv (va_rf (f i.toNatClampNeg) :: st) h k n) : V Z pc lv (.int i :: .ref q :: st) h k n := by
  obtain ⟨⟨l, D, lo, b, L, xs⟩, p, e, R, s, m, args, below, meth, c, Q⟩ := Z
  obtain ⟨hx, hb, hml, hown, hI, hlk, hst, hR0⟩ := hZ
  intro H locs ls hR hS hl
  obtain ⟨ws, tys, hK, hP, hD, hr⟩ := id hR
  obtain ⟨i1, j, cA, h1, h2⟩ := hr q _ hc
  exact va_aldq hx hb hK hP i1 j h1 h2 hi hd (kk H locs ls hR hS hl)
theorem V_iald (hZ : OKz Z own cc nL fr lc mc ms) {q N : Nat} {f : Nat → Int32} {i : Int32} (hd : decode cc pc = .ok (.iaload, 1)) (hc : h q = some (aI N f)) (hi : vp_in i N) (kk : V Z (pc + 1) lv (.int (f i.toNatClampNeg) :: st) h k n) : V Z pc lv (.int i :: .ref q :: st) h k n := by
  obtain ⟨⟨l, D, lo, b, L, xs⟩, p, e, R, s, m, args, below, meth, c, Q⟩ := Z
  obtain ⟨hx, hb, hml, hown, hI, hlk, hst, hR0⟩ := hZ
  intro H locs ls hR hS hl
  obtain ⟨ws, tys, hK, hP, hD, hr⟩ := id hR
  obtain ⟨i1, j, cA, h1, h2⟩ := hr q _ hc
  exact va_iald hx hb hK hP i1 j h1 h2 hi hd (kk H locs ls hR hS hl)
theorem V_iast (hZ : OKz Z own cc nL fr lc mc ms) {q N : Nat} {f : Nat → Int32} {i x : Int32} (hd : decode cc pc = .ok (.iastore, 1)) (hc : h q = some (aI N f)) (hi : vp_in i N) (kk : V Z (pc + 1) lv st (hup h q (aI N (upd f i.toNatClampNeg x))) k n) : V Z pc lv (.int x :: .int i :: .ref q :: st) h k n := by
  obtain ⟨⟨l, D, lo, b, L, xs⟩, p, e, R, s, m, args, below, meth, c, Q⟩ := Z
  obtain ⟨hx, hb, hml, hown, hI, hlk, hst, hR0⟩ := hZ
  intro H locs ls hR hS hl
  obtain ⟨ws, tys, hK, hP, hD, hr⟩ := id hR
  obtain ⟨i1, j, cA, h1, h2⟩ := hr q _ hc
  refine va_iast hx hb hK hP hD hS i1 j h1 h2 hi hd (fun H1 locs1 hP1 hD1 hS1 => ?_)
  refine kk H1 locs1 ls ⟨_, tys, hK, hP1, hD1, ?_⟩ hS1 hl
  exact Rin.set hD h1 ⟨i1, j, cA, List.getElem?_set_self (List.getElem?_eq_some_iff.mp h1).1, h2⟩ hr
theorem V_aast (hZ : OKz Z own cc nL fr lc mc ms) {q N ci x : Nat} {r : vw_C} {vs : List Value} {f : Nat → Option Nat} {i : Int32} (hd : decode cc pc = .ok (.aastore, 1)) (hc : h q = some (aR r.1 N f)) (hv : h x = some (.inr (ci, vs))) (hci : vwCl[ci]? = some r) (hi : vp_in i N) (kk : V Z (pc + 1) lv st (hup h q (aR r.1 N (va_up f i.toNatClampNeg (some x)))) k n) : V Z pc lv (.ref x :: .int i :: .ref q :: st) h k n := by
  obtain ⟨⟨l, D, lo, b, L, xs⟩, p, e, R, s, m, args, below, meth, c, Q⟩ := Z
  obtain ⟨hx, hb, hml, hown, hI, hlk, hst, hR0⟩ := hZ
  intro H locs ls hR hS hl
  obtain ⟨ws, tys, hK, hP, hD, hr⟩ := id hR
  obtain ⟨i1, j, cA, h1, h2⟩ := hr q _ hc
  obtain ⟨i2, h3⟩ := hr x _ hv
  refine va_astq hx hb hK hP hD hS i1 j i2 ci h1 h2 h3 hci hi hd (fun H1 locs1 hP1 hD1 hS1 => ?_)
  refine kk H1 locs1 ls ⟨_, tys, hK, hP1, hD1, ?_⟩ hS1 hl
  exact Rin.set hD h1 ⟨i1, j, cA, List.getElem?_set_self (List.getElem?_eq_some_iff.mp h1).1, h2⟩ hr
theorem V_aastN (hZ : OKz Z own cc nL fr lc mc ms) {q N : Nat} {C : String} {f : Nat → Option Nat} {i : Int32} (hd : decode cc pc = .ok (.aastore, 1)) (hc : h q = some (aR C N f)) (hi : vp_in i N) (kk : V Z (pc + 1) lv st (hup h q (aR C N (va_up f i.toNatClampNeg none))) k n) : V Z pc lv (.null :: .int i :: .ref q :: st) h k n := by
  obtain ⟨⟨l, D, lo, b, L, xs⟩, p, e, R, s, m, args, below, meth, c, Q⟩ := Z
  obtain ⟨hx, hb, hml, hown, hI, hlk, hst, hR0⟩ := hZ
  intro H locs ls hR hS hl
  obtain ⟨ws, tys, hK, hP, hD, hr⟩ := id hR
  obtain ⟨i1, j, cA, h1, h2⟩ := hr q _ hc
  refine va_astqN hx hb hK hP hD hS i1 j h1 h2 hi hd (fun H1 locs1 hP1 hD1 hS1 => ?_)
  refine kk H1 locs1 ls ⟨_, tys, hK, hP1, hD1, ?_⟩ hS1 hl
  exact Rin.set hD h1 ⟨i1, j, cA, List.getElem?_set_self (List.getElem?_eq_some_iff.mp h1).1, h2⟩ hr
theorem vp_in_n {i N : Nat} (hi : i < N) (hN : N < 2 ^ 31) : vp_in (nI i) N := vp_in_nI hi (by omega)
theorem clampn {i : Nat} (hi : i < 2 ^ 31) : (nI i).toNatClampNeg = i := by
  simp only [Int32.toNatClampNeg, nI_toInt hi]
  omega
theorem V_aaldn (hZ : OKz Z own cc nL fr lc mc ms) {q N i : Nat} {C : String} {f : Nat → Option Nat} {v : Value} (hd : decode cc pc = .ok (.aaload, 1)) (hc : h q = some (aR C N f)) (hi : i < N) (hN : N < 2 ^ 31) (hv : va_rf (f i) = v) (kk : V Z (pc + 1) lv (v :: st) h k n) : V Z pc lv (.int (nI i) :: .ref q :: st) h k n := by
  refine V_aald hZ hd hc (vp_in_n hi hN) ?_
  rw [clampn (by omega), hv]
  exact kk
theorem V_ialdn (hZ : OKz Z own cc nL fr lc mc ms) {q N i : Nat} {f : Nat → Int32} (hd : decode cc pc = .ok (.iaload, 1)) (hc : h q = some (aI N f)) (hi : i < N) (hN : N < 2 ^ 31) (kk : V Z (pc + 1) lv (.int (f i) :: st) h k n) : V Z pc lv (.int (nI i) :: .ref q :: st) h k n := by
  refine V_iald hZ hd hc (vp_in_n hi hN) ?_
  rw [clampn (by omega)]
  exact kk
theorem V_iastn (hZ : OKz Z own cc nL fr lc mc ms) {q N i : Nat} {f : Nat → Int32} {x : Int32} (hd : decode cc pc = .ok (.iastore, 1)) (hc : h q = some (aI N f)) (hi : i < N) (hN : N < 2 ^ 31) (kk : V Z (pc + 1) lv st (hup h q (aI N (upd f i x))) k n) : V Z pc lv (.int x :: .int (nI i) :: .ref q :: st) h k n := by
  refine V_iast hZ hd hc (vp_in_n hi hN) ?_
  rw [clampn (by omega)]
  exact kk
theorem V_aastn (hZ : OKz Z own cc nL fr lc mc ms) {q N ci x i : Nat} {r : vw_C} {vs : List Value} {f : Nat → Option Nat} (hd : decode cc pc = .ok (.aastore, 1)) (hc : h q = some (aR r.1 N f)) (hv : h x = some (.inr (ci, vs))) (hci : vwCl[ci]? = some r) (hi : i < N) (hN : N < 2 ^ 31) (kk : V Z (pc + 1) lv st (hup h q (aR r.1 N (va_up f i (some x)))) k n) : V Z pc lv (.ref x :: .int (nI i) :: .ref q :: st) h k n := by
  refine V_aast hZ hd hc hv hci (vp_in_n hi hN) ?_
  rw [clampn (by omega)]
  exact kk
theorem V_aastNn (hZ : OKz Z own cc nL fr lc mc ms) {q N i : Nat} {C : String} {f : Nat → Option Nat} (hd : decode cc pc = .ok (.aastore, 1)) (hc : h q = some (aR C N f)) (hi : i < N) (hN : N < 2 ^ 31) (kk : V Z (pc + 1) lv st (hup h q (aR C N (va_up f i none))) k n) : V Z pc lv (.null :: .int (nI i) :: .ref q :: st) h k n := by
  refine V_aastN hZ hd hc (vp_in_n hi hN) ?_
  rw [clampn (by omega)]
  exact kk
/-- the script -/
theorem V_slen (hZ : OKz Z own cc nL fr lc mc ms) (hd : decode cc pc = .ok (.arraylength, 1)) (kk : V Z (pc + 1) lv (.int (Int32.ofNat Z.1.2.2.2.2.1) :: st) h k n) : V Z pc lv (.ref Z.1.2.2.2.1 :: st) h k n := by
  obtain ⟨⟨l, D, lo, b, L, xs⟩, p, e, R, s, m, args, below, meth, c, Q⟩ := Z
  obtain ⟨hx, hb, hml, hown, hI, hlk, hst, hR0⟩ := hZ
  intro H locs ls hR hS hl
  exact va_slen hx hb hI.2.2.2.2.2.2 (Nat.lt_of_lt_of_le hI.2.2.2.2.2.1 hI.2.2.2.2.1) (Nat.not_le.mpr hI.2.2.2.2.2.1) hS hd (kk H locs ls hR hS hl)
theorem V_sld (hZ : OKz Z own cc nL fr lc mc ms) {i : Int32} (hd : decode cc pc = .ok (.iaload, 1)) (hi : vp_in i Z.1.2.2.2.2.1) (kk : V Z (pc + 1) lv (.int (Z.1.2.2.2.2.2 i.toNatClampNeg) :: st) h k n) : V Z pc lv (.int i :: .ref Z.1.2.2.2.1 :: st) h k n := by
  obtain ⟨⟨l, D, lo, b, L, xs⟩, p, e, R, s, m, args, below, meth, c, Q⟩ := Z
  obtain ⟨hx, hb, hml, hown, hI, hlk, hst, hR0⟩ := hZ
  intro H locs ls hR hS hl
  exact va_sld hx hb hI.2.2.2.2.2.2 (Nat.lt_of_lt_of_le hI.2.2.2.2.2.1 hI.2.2.2.2.1) (Nat.not_le.mpr hI.2.2.2.2.2.1) hS hi hd (kk H locs ls hR hS hl)
end
