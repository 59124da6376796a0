/-! rows of V: constants, locals, the stack, numbers, branches -/
section
variable {Z : ZC} {pc : Nat} {lv : List (Option Value)} {st : List Value} {h : HP} {k n : Nat} {own : String} {cc : ByteArray} {nL fr lc mc ms : Nat}
theorem V_iconst (hZ : OKz Z own cc nL fr lc mc ms) {i : Int} {v : Int32} (hd : decode cc pc = .ok (.iconst i, 1)) (hv : Int32.ofInt i = v) (kk : V Z (pc + 1) lv (.int v :: st) h k n) : V Z pc lv (st) h k n := by
  obtain ⟨⟨l, D, lo, b, L, xs⟩, p, e, R, s, m, args, below, meth, c, Q⟩ := Z
  obtain ⟨hx, hb, hml, hown, hI, hlk, hst, hR0⟩ := hZ
  intro H locs ls hR hS hl
  exact lv_iconst hx hb hd hv (kk H locs ls hR hS hl)
theorem V_bipush (hZ : OKz Z own cc nL fr lc mc ms) {i : Int} {v : Int32} (hd : decode cc pc = .ok (.bipush i, 2)) (hv : (Int8.ofInt i).toInt32 = v) (kk : V Z (pc + 2) lv (.int v :: st) h k n) : V Z pc lv (st) h k n := by
  obtain ⟨⟨l, D, lo, b, L, xs⟩, p, e, R, s, m, args, below, meth, c, Q⟩ := Z
  obtain ⟨hx, hb, hml, hown, hI, hlk, hst, hR0⟩ := hZ
  intro H locs ls hR hS hl
  exact lv_bipush hx hb hd hv (kk H locs ls hR hS hl)
theorem V_sipush (hZ : OKz Z own cc nL fr lc mc ms) {i : Int} {v : Int32} (hd : decode cc pc = .ok (.sipush i, 3)) (hv : (Int16.ofInt i).toInt32 = v) (kk : V Z (pc + 3) lv (.int v :: st) h k n) : V Z pc lv (st) h k n := by
  obtain ⟨⟨l, D, lo, b, L, xs⟩, p, e, R, s, m, args, below, meth, c, Q⟩ := Z
  obtain ⟨hx, hb, hml, hown, hI, hlk, hst, hR0⟩ := hZ
  intro H locs ls hR hS hl
  exact lv_sipush hx hb hd hv (kk H locs ls hR hS hl)
theorem V_lconst (hZ : OKz Z own cc nL fr lc mc ms) {i : Fin 2} {v : Int64} (hd : decode cc pc = .ok (.lconst i, 1)) (hv : Int64.ofNat (i : Nat) = v) (kk : V Z (pc + 1) lv (.long v :: st) h k n) : V Z pc lv (st) h k n := by
  obtain ⟨⟨l, D, lo, b, L, xs⟩, p, e, R, s, m, args, below, meth, c, Q⟩ := Z
  obtain ⟨hx, hb, hml, hown, hI, hlk, hst, hR0⟩ := hZ
  intro H locs ls hR hS hl
  exact lv_lconst hx hb hd hv (kk H locs ls hR hS hl)
theorem V_dconst0 (hZ : OKz Z own cc nL fr lc mc ms) (hd : decode cc pc = .ok (.dconst 0, 1)) (kk : V Z (pc + 1) lv (.double FP.dconst0 :: st) h k n) : V Z pc lv (st) h k n := by
  obtain ⟨⟨l, D, lo, b, L, xs⟩, p, e, R, s, m, args, below, meth, c, Q⟩ := Z
  obtain ⟨hx, hb, hml, hown, hI, hlk, hst, hR0⟩ := hZ
  intro H locs ls hR hS hl
  exact lv_dconst0 hx hb hd (kk H locs ls hR hS hl)
theorem V_null (hZ : OKz Z own cc nL fr lc mc ms) (hd : decode cc pc = .ok (.aconst_null, 1)) (kk : V Z (pc + 1) lv (.null :: st) h k n) : V Z pc lv (st) h k n := by
  obtain ⟨⟨l, D, lo, b, L, xs⟩, p, e, R, s, m, args, below, meth, c, Q⟩ := Z
  obtain ⟨hx, hb, hml, hown, hI, hlk, hst, hR0⟩ := hZ
  intro H locs ls hR hS hl
  exact lv_null hx hb hd (kk H locs ls hR hS hl)
theorem V_iload_n (hZ : OKz Z own cc nL fr lc mc ms) {j : Fin 4} (jn : Nat) {x : Int32} (hd : decode cc pc = .ok (.iload_n j, 1)) (hj0 : (j : Nat) = jn) (hl0 : lv[jn]? = some (some (.int x))) (kk : V Z (pc + 1) lv (.int x :: st) h k n) : V Z pc lv (st) h k n := by
  obtain ⟨⟨l, D, lo, b, L, xs⟩, p, e, R, s, m, args, below, meth, c, Q⟩ := Z
  obtain ⟨hx, hb, hml, hown, hI, hlk, hst, hR0⟩ := hZ
  intro H locs ls hR hS hl
  exact lv_iload_n hx hb hd hj0 (hl.at hl0) (kk H locs ls hR hS hl)
theorem V_iload (hZ : OKz Z own cc nL fr lc mc ms) {j : Nat} {x : Int32} (hd : decode cc pc = .ok (.iload j, 2)) (hl0 : lv[j]? = some (some (.int x))) (kk : V Z (pc + 2) lv (.int x :: st) h k n) : V Z pc lv (st) h k n := by
  obtain ⟨⟨l, D, lo, b, L, xs⟩, p, e, R, s, m, args, below, meth, c, Q⟩ := Z
  obtain ⟨hx, hb, hml, hown, hI, hlk, hst, hR0⟩ := hZ
  intro H locs ls hR hS hl
  exact lv_iload hx hb hd (hl.at hl0) (kk H locs ls hR hS hl)
theorem V_lload_n (hZ : OKz Z own cc nL fr lc mc ms) {j : Fin 4} (jn : Nat) {x : Int64} (hd : decode cc pc = .ok (.lload_n j, 1)) (hj0 : (j : Nat) = jn) (hl0 : lv[jn]? = some (some (.long x))) (kk : V Z (pc + 1) lv (.long x :: st) h k n) : V Z pc lv (st) h k n := by
  obtain ⟨⟨l, D, lo, b, L, xs⟩, p, e, R, s, m, args, below, meth, c, Q⟩ := Z
  obtain ⟨hx, hb, hml, hown, hI, hlk, hst, hR0⟩ := hZ
  intro H locs ls hR hS hl
  exact lv_lload_n hx hb hd hj0 (hl.at hl0) (kk H locs ls hR hS hl)
theorem V_lload (hZ : OKz Z own cc nL fr lc mc ms) {j : Nat} {x : Int64} (hd : decode cc pc = .ok (.lload j, 2)) (hl0 : lv[j]? = some (some (.long x))) (kk : V Z (pc + 2) lv (.long x :: st) h k n) : V Z pc lv (st) h k n := by
  obtain ⟨⟨l, D, lo, b, L, xs⟩, p, e, R, s, m, args, below, meth, c, Q⟩ := Z
  obtain ⟨hx, hb, hml, hown, hI, hlk, hst, hR0⟩ := hZ
  intro H locs ls hR hS hl
  exact lv_lload hx hb hd (hl.at hl0) (kk H locs ls hR hS hl)
theorem V_dload_n (hZ : OKz Z own cc nL fr lc mc ms) {j : Fin 4} (jn : Nat) {x : UInt64} (hd : decode cc pc = .ok (.dload_n j, 1)) (hj0 : (j : Nat) = jn) (hl0 : lv[jn]? = some (some (.double x))) (kk : V Z (pc + 1) lv (.double x :: st) h k n) : V Z pc lv (st) h k n := by
  obtain ⟨⟨l, D, lo, b, L, xs⟩, p, e, R, s, m, args, below, meth, c, Q⟩ := Z
  obtain ⟨hx, hb, hml, hown, hI, hlk, hst, hR0⟩ := hZ
  intro H locs ls hR hS hl
  exact lv_dload_n hx hb hd hj0 (hl.at hl0) (kk H locs ls hR hS hl)
theorem V_dload (hZ : OKz Z own cc nL fr lc mc ms) {j : Nat} {x : UInt64} (hd : decode cc pc = .ok (.dload j, 2)) (hl0 : lv[j]? = some (some (.double x))) (kk : V Z (pc + 2) lv (.double x :: st) h k n) : V Z pc lv (st) h k n := by
  obtain ⟨⟨l, D, lo, b, L, xs⟩, p, e, R, s, m, args, below, meth, c, Q⟩ := Z
  obtain ⟨hx, hb, hml, hown, hI, hlk, hst, hR0⟩ := hZ
  intro H locs ls hR hS hl
  exact lv_dload hx hb hd (hl.at hl0) (kk H locs ls hR hS hl)
def isR : Value → Bool
  | .ref _ => true
  | .null => true
  | _ => false
theorem isR_rf (o : Option Nat) : isR (va_rf o) = true := by cases o <;> rfl
theorem isR_cases {v : Value} (h : isR v = true) : v = .null ∨ ∃ a, v = .ref a := by
  cases v <;> first | exact Or.inl rfl | exact Or.inr ⟨_, rfl⟩ | simp [isR] at h
theorem cat_rf (o : Option Nat) : (va_rf o).category = 1 := by cases o <;> rfl
theorem cat_R {v : Value} (h : isR v = true) : v.category = 1 := by
  rcases isR_cases h with rfl | ⟨a, rfl⟩ <;> rfl
theorem isR_ex {v : Value} (h : isR v = true) : ∃ o, v = va_rf o := by
  rcases isR_cases h with rfl | ⟨a, rfl⟩
  · exact ⟨none, rfl⟩
  · exact ⟨some a, rfl⟩
theorem V_aload_n (hZ : OKz Z own cc nL fr lc mc ms) {j : Fin 4} (jn : Nat) {v : Value} (hd : decode cc pc = .ok (.aload_n j, 1)) (hj0 : (j : Nat) = jn) (hl0 : lv[jn]? = some (some v)) (hv : isR v = true) (kk : V Z (pc + 1) lv (v :: st) h k n) : V Z pc lv st h k n := by
  obtain ⟨⟨l, D, lo, b, L, xs⟩, p, e, R, s, m, args, below, meth, c, Q⟩ := Z
  obtain ⟨hx, hb, hml, hown, hI, hlk, hst, hR0⟩ := hZ
  intro H locs ls hR hS hl
  rcases isR_cases hv with rfl | ⟨a, rfl⟩
  · exact lv_aload_nN hx hb hd hj0 (hl.at hl0) (kk H locs ls hR hS hl)
  · exact lv_aload_n hx hb hd hj0 (hl.at hl0) (kk H locs ls hR hS hl)
theorem V_aload (hZ : OKz Z own cc nL fr lc mc ms) {j : Nat} {v : Value} (hd : decode cc pc = .ok (.aload j, 2)) (hl0 : lv[j]? = some (some v)) (hv : isR v = true) (kk : V Z (pc + 2) lv (v :: st) h k n) : V Z pc lv st h k n := by
  obtain ⟨⟨l, D, lo, b, L, xs⟩, p, e, R, s, m, args, below, meth, c, Q⟩ := Z
  obtain ⟨hx, hb, hml, hown, hI, hlk, hst, hR0⟩ := hZ
  intro H locs ls hR hS hl
  rcases isR_cases hv with rfl | ⟨a, rfl⟩
  · exact lv_aloadN hx hb hd (hl.at hl0) (kk H locs ls hR hS hl)
  · exact lv_aload hx hb hd (hl.at hl0) (kk H locs ls hR hS hl)
theorem V_istore_n (hZ : OKz Z own cc nL fr lc mc ms) {j : Fin 4} (jn : Nat) (hj0 : (j : Nat) = jn) {x : Int32} (hd : decode cc pc = .ok (.istore_n j, 1)) (hj : jn < nL) (ho : okp lv jn = true) (kk : V Z (pc + 1) (lv.set jn (some (.int x))) st h k n) : V Z pc lv (.int x :: st) h k n := by
  obtain ⟨⟨l, D, lo, b, L, xs⟩, p, e, R, s, m, args, below, meth, c, Q⟩ := Z
  obtain ⟨hx, hb, hml, hown, hI, hlk, hst, hR0⟩ := hZ
  intro H locs ls hR hS hl
  exact lv_istore_n hx hb hd hj0 hl.has (by rw [hml]; exact hj) rfl (fun ls' h' => kk H locs ls' hR hS (lH.store1 ho h'))
theorem V_istore (hZ : OKz Z own cc nL fr lc mc ms) {j : Nat} {x : Int32} (hd : decode cc pc = .ok (.istore j, 2)) (hj : j < nL) (ho : okp lv j = true) (kk : V Z (pc + 2) (lv.set j (some (.int x))) st h k n) : V Z pc lv (.int x :: st) h k n := by
  obtain ⟨⟨l, D, lo, b, L, xs⟩, p, e, R, s, m, args, below, meth, c, Q⟩ := Z
  obtain ⟨hx, hb, hml, hown, hI, hlk, hst, hR0⟩ := hZ
  intro H locs ls hR hS hl
  exact lv_istore hx hb hd hl.has (by rw [hml]; exact hj) rfl (fun ls' h' => kk H locs ls' hR hS (lH.store1 ho h'))
theorem V_lstore_n (hZ : OKz Z own cc nL fr lc mc ms) {j : Fin 4} (jn : Nat) (hj0 : (j : Nat) = jn) {x : Int64} (hd : decode cc pc = .ok (.lstore_n j, 1)) (hj : jn + 1 < nL) (ho : okp lv jn = true) (kk : V Z (pc + 1) ((lv.set jn (some (.long x))).set (jn + 1) none) st h k n) : V Z pc lv (.long x :: st) h k n := by
  obtain ⟨⟨l, D, lo, b, L, xs⟩, p, e, R, s, m, args, below, meth, c, Q⟩ := Z
  obtain ⟨hx, hb, hml, hown, hI, hlk, hst, hR0⟩ := hZ
  intro H locs ls hR hS hl
  exact lv_lstore_n hx hb hd hj0 hl.has (by rw [hml]; exact hj) rfl (fun ls' h' => kk H locs ls' hR hS (lH.store2 ho h'))
theorem V_lstore (hZ : OKz Z own cc nL fr lc mc ms) {j : Nat} {x : Int64} (hd : decode cc pc = .ok (.lstore j, 2)) (hj : j + 1 < nL) (ho : okp lv j = true) (kk : V Z (pc + 2) ((lv.set j (some (.long x))).set (j + 1) none) st h k n) : V Z pc lv (.long x :: st) h k n := by
  obtain ⟨⟨l, D, lo, b, L, xs⟩, p, e, R, s, m, args, below, meth, c, Q⟩ := Z
  obtain ⟨hx, hb, hml, hown, hI, hlk, hst, hR0⟩ := hZ
  intro H locs ls hR hS hl
  exact lv_lstore hx hb hd hl.has (by rw [hml]; exact hj) rfl (fun ls' h' => kk H locs ls' hR hS (lH.store2 ho h'))
theorem V_dstore_n (hZ : OKz Z own cc nL fr lc mc ms) {j : Fin 4} (jn : Nat) (hj0 : (j : Nat) = jn) {x : UInt64} (hd : decode cc pc = .ok (.dstore_n j, 1)) (hj : jn + 1 < nL) (ho : okp lv jn = true) (kk : V Z (pc + 1) ((lv.set jn (some (.double x))).set (jn + 1) none) st h k n) : V Z pc lv (.double x :: st) h k n := by
  obtain ⟨⟨l, D, lo, b, L, xs⟩, p, e, R, s, m, args, below, meth, c, Q⟩ := Z
  obtain ⟨hx, hb, hml, hown, hI, hlk, hst, hR0⟩ := hZ
  intro H locs ls hR hS hl
  exact lv_dstore_n hx hb hd hj0 hl.has (by rw [hml]; exact hj) rfl (fun ls' h' => kk H locs ls' hR hS (lH.store2 ho h'))
theorem V_dstore (hZ : OKz Z own cc nL fr lc mc ms) {j : Nat} {x : UInt64} (hd : decode cc pc = .ok (.dstore j, 2)) (hj : j + 1 < nL) (ho : okp lv j = true) (kk : V Z (pc + 2) ((lv.set j (some (.double x))).set (j + 1) none) st h k n) : V Z pc lv (.double x :: st) h k n := by
  obtain ⟨⟨l, D, lo, b, L, xs⟩, p, e, R, s, m, args, below, meth, c, Q⟩ := Z
  obtain ⟨hx, hb, hml, hown, hI, hlk, hst, hR0⟩ := hZ
  intro H locs ls hR hS hl
  exact lv_dstore hx hb hd hl.has (by rw [hml]; exact hj) rfl (fun ls' h' => kk H locs ls' hR hS (lH.store2 ho h'))
theorem V_astore_n (hZ : OKz Z own cc nL fr lc mc ms) {j : Fin 4} (jn : Nat) (hj0 : (j : Nat) = jn) {v : Value} (hd : decode cc pc = .ok (.astore_n j, 1)) (hv : isR v = true) (hj : jn < nL) (ho : okp lv jn = true) (kk : V Z (pc + 1) (lv.set jn (some v)) st h k n) : V Z pc lv (v :: st) h k n := by
  obtain ⟨⟨l, D, lo, b, L, xs⟩, p, e, R, s, m, args, below, meth, c, Q⟩ := Z
  obtain ⟨hx, hb, hml, hown, hI, hlk, hst, hR0⟩ := hZ
  intro H locs ls hR hS hl
  rcases isR_cases hv with rfl | ⟨a, rfl⟩
  · exact lv_astore_nN hx hb hd hj0 hl.has (by rw [hml]; exact hj) rfl (fun ls' h' => kk H locs ls' hR hS (lH.store1 ho h'))
  · exact lv_astore_n hx hb hd hj0 hl.has (by rw [hml]; exact hj) rfl (fun ls' h' => kk H locs ls' hR hS (lH.store1 ho h'))
theorem V_astore (hZ : OKz Z own cc nL fr lc mc ms) {j : Nat} {v : Value} (hd : decode cc pc = .ok (.astore j, 2)) (hv : isR v = true) (hj : j < nL) (ho : okp lv j = true) (kk : V Z (pc + 2) (lv.set j (some v)) st h k n) : V Z pc lv (v :: st) h k n := by
  obtain ⟨⟨l, D, lo, b, L, xs⟩, p, e, R, s, m, args, below, meth, c, Q⟩ := Z
  obtain ⟨hx, hb, hml, hown, hI, hlk, hst, hR0⟩ := hZ
  intro H locs ls hR hS hl
  rcases isR_cases hv with rfl | ⟨a, rfl⟩
  · exact lv_astoreN hx hb hd hl.has (by rw [hml]; exact hj) rfl (fun ls' h' => kk H locs ls' hR hS (lH.store1 ho h'))
  · exact lv_astore hx hb hd hl.has (by rw [hml]; exact hj) rfl (fun ls' h' => kk H locs ls' hR hS (lH.store1 ho h'))
theorem V_iinc (hZ : OKz Z own cc nL fr lc mc ms) {j : Nat} {i : Int} {x : Int32} (hd : decode cc pc = .ok (.iinc j i, 3)) (hl0 : lv[j]? = some (some (.int x))) (hj : j < nL) (ho : okp lv j = true) (kk : V Z (pc + 3) (lv.set j (some (.int (x + Int32.ofInt i)))) st h k n) : V Z pc lv st h k n := by
  obtain ⟨⟨l, D, lo, b, L, xs⟩, p, e, R, s, m, args, below, meth, c, Q⟩ := Z
  obtain ⟨hx, hb, hml, hown, hI, hlk, hst, hR0⟩ := hZ
  intro H locs ls hR hS hl
  obtain ⟨q, hq⟩ := List.getElem?_of_mem (mem_lz.mpr hl0)
  exact lv_iinc hx hb hd hl.has hq rfl (by rw [hml]; exact hj) rfl (fun ls' h' => kk H locs ls' hR hS (lH.store1 ho h'))
theorem V_iadd (hZ : OKz Z own cc nL fr lc mc ms) {x y : Int32} (hd : decode cc pc = .ok (.iadd, 1)) (kk : V Z (pc + 1) lv (.int (x + y) :: st) h k n) : V Z pc lv (.int y :: .int x :: st) h k n := by
  obtain ⟨⟨l, D, lo, b, L, xs⟩, p, e, R, s, m, args, below, meth, c, Q⟩ := Z
  obtain ⟨hx, hb, hml, hown, hI, hlk, hst, hR0⟩ := hZ
  intro H locs ls hR hS hl
  exact lv_iadd hx hb hd (kk H locs ls hR hS hl)
theorem V_isub (hZ : OKz Z own cc nL fr lc mc ms) {x y : Int32} (hd : decode cc pc = .ok (.isub, 1)) (kk : V Z (pc + 1) lv (.int (x - y) :: st) h k n) : V Z pc lv (.int y :: .int x :: st) h k n := by
  obtain ⟨⟨l, D, lo, b, L, xs⟩, p, e, R, s, m, args, below, meth, c, Q⟩ := Z
  obtain ⟨hx, hb, hml, hown, hI, hlk, hst, hR0⟩ := hZ
  intro H locs ls hR hS hl
  exact lv_isub hx hb hd (kk H locs ls hR hS hl)
theorem V_imul (hZ : OKz Z own cc nL fr lc mc ms) {x y : Int32} (hd : decode cc pc = .ok (.imul, 1)) (kk : V Z (pc + 1) lv (.int (x * y) :: st) h k n) : V Z pc lv (.int y :: .int x :: st) h k n := by
  obtain ⟨⟨l, D, lo, b, L, xs⟩, p, e, R, s, m, args, below, meth, c, Q⟩ := Z
  obtain ⟨hx, hb, hml, hown, hI, hlk, hst, hR0⟩ := hZ
  intro H locs ls hR hS hl
  exact lv_imul hx hb hd (kk H locs ls hR hS hl)
theorem V_iand (hZ : OKz Z own cc nL fr lc mc ms) {x y : Int32} (hd : decode cc pc = .ok (.iand, 1)) (kk : V Z (pc + 1) lv (.int (x &&& y) :: st) h k n) : V Z pc lv (.int y :: .int x :: st) h k n := by
  obtain ⟨⟨l, D, lo, b, L, xs⟩, p, e, R, s, m, args, below, meth, c, Q⟩ := Z
  obtain ⟨hx, hb, hml, hown, hI, hlk, hst, hR0⟩ := hZ
  intro H locs ls hR hS hl
  exact lv_iand hx hb hd (kk H locs ls hR hS hl)
theorem V_ior (hZ : OKz Z own cc nL fr lc mc ms) {x y : Int32} (hd : decode cc pc = .ok (.ior, 1)) (kk : V Z (pc + 1) lv (.int (x ||| y) :: st) h k n) : V Z pc lv (.int y :: .int x :: st) h k n := by
  obtain ⟨⟨l, D, lo, b, L, xs⟩, p, e, R, s, m, args, below, meth, c, Q⟩ := Z
  obtain ⟨hx, hb, hml, hown, hI, hlk, hst, hR0⟩ := hZ
  intro H locs ls hR hS hl
  exact lv_ior hx hb hd (kk H locs ls hR hS hl)
theorem V_ishr (hZ : OKz Z own cc nL fr lc mc ms) {x y : Int32} (hd : decode cc pc = .ok (.ishr, 1)) (kk : V Z (pc + 1) lv (.int (x >>> (y &&& 31)) :: st) h k n) : V Z pc lv (.int y :: .int x :: st) h k n := by
  obtain ⟨⟨l, D, lo, b, L, xs⟩, p, e, R, s, m, args, below, meth, c, Q⟩ := Z
  obtain ⟨hx, hb, hml, hown, hI, hlk, hst, hR0⟩ := hZ
  intro H locs ls hR hS hl
  exact lv_ishr hx hb hd (kk H locs ls hR hS hl)
theorem V_idiv (hZ : OKz Z own cc nL fr lc mc ms) {x y : Int32} (hne : ¬ y = 0) (hd : decode cc pc = .ok (.idiv, 1)) (kk : V Z (pc + 1) lv (.int (x / y) :: st) h k n) : V Z pc lv (.int y :: .int x :: st) h k n := by
  obtain ⟨⟨l, D, lo, b, L, xs⟩, p, e, R, s, m, args, below, meth, c, Q⟩ := Z
  obtain ⟨hx, hb, hml, hown, hI, hlk, hst, hR0⟩ := hZ
  intro H locs ls hR hS hl
  exact lv_idiv hx hb hd hne (kk H locs ls hR hS hl)
theorem V_irem (hZ : OKz Z own cc nL fr lc mc ms) {x y : Int32} (hne : ¬ y = 0) (hd : decode cc pc = .ok (.irem, 1)) (kk : V Z (pc + 1) lv (.int (x - x / y * y) :: st) h k n) : V Z pc lv (.int y :: .int x :: st) h k n := by
  obtain ⟨⟨l, D, lo, b, L, xs⟩, p, e, R, s, m, args, below, meth, c, Q⟩ := Z
  obtain ⟨hx, hb, hml, hown, hI, hlk, hst, hR0⟩ := hZ
  intro H locs ls hR hS hl
  exact lv_irem hx hb hd hne (kk H locs ls hR hS hl)
theorem V_iushr (hZ : OKz Z own cc nL fr lc mc ms) {x y : Int32} (hd : decode cc pc = .ok (.iushr, 1)) (kk : V Z (pc + 1) lv (.int (x.toUInt32 >>> (y.toUInt32 &&& Int32.toUInt32 31)).toInt32 :: st) h k n) : V Z pc lv (.int y :: .int x :: st) h k n := by
  obtain ⟨⟨l, D, lo, b, L, xs⟩, p, e, R, s, m, args, below, meth, c, Q⟩ := Z
  obtain ⟨hx, hb, hml, hown, hI, hlk, hst, hR0⟩ := hZ
  intro H locs ls hR hS hl
  exact lv_iushr hx hb hd rfl (kk H locs ls hR hS hl)
theorem V_ineg (hZ : OKz Z own cc nL fr lc mc ms) {x : Int32} (hd : decode cc pc = .ok (.ineg, 1)) (kk : V Z (pc + 1) lv (.int (-x) :: st) h k n) : V Z pc lv (.int x :: st) h k n := by
  obtain ⟨⟨l, D, lo, b, L, xs⟩, p, e, R, s, m, args, below, meth, c, Q⟩ := Z
  obtain ⟨hx, hb, hml, hown, hI, hlk, hst, hR0⟩ := hZ
  intro H locs ls hR hS hl
  exact lv_ineg hx hb hd (kk H locs ls hR hS hl)
theorem V_ladd (hZ : OKz Z own cc nL fr lc mc ms) {x y : Int64} (hd : decode cc pc = .ok (.ladd, 1)) (kk : V Z (pc + 1) lv (.long (x + y) :: st) h k n) : V Z pc lv (.long y :: .long x :: st) h k n := by
  obtain ⟨⟨l, D, lo, b, L, xs⟩, p, e, R, s, m, args, below, meth, c, Q⟩ := Z
  obtain ⟨hx, hb, hml, hown, hI, hlk, hst, hR0⟩ := hZ
  intro H locs ls hR hS hl
  exact lv_ladd hx hb hd (kk H locs ls hR hS hl)
theorem V_lmul (hZ : OKz Z own cc nL fr lc mc ms) {x y : Int64} (hd : decode cc pc = .ok (.lmul, 1)) (kk : V Z (pc + 1) lv (.long (x * y) :: st) h k n) : V Z pc lv (.long y :: .long x :: st) h k n := by
  obtain ⟨⟨l, D, lo, b, L, xs⟩, p, e, R, s, m, args, below, meth, c, Q⟩ := Z
  obtain ⟨hx, hb, hml, hown, hI, hlk, hst, hR0⟩ := hZ
  intro H locs ls hR hS hl
  exact lv_lmul hx hb hd (kk H locs ls hR hS hl)
theorem V_land (hZ : OKz Z own cc nL fr lc mc ms) {x y : Int64} (hd : decode cc pc = .ok (.land, 1)) (kk : V Z (pc + 1) lv (.long (x &&& y) :: st) h k n) : V Z pc lv (.long y :: .long x :: st) h k n := by
  obtain ⟨⟨l, D, lo, b, L, xs⟩, p, e, R, s, m, args, below, meth, c, Q⟩ := Z
  obtain ⟨hx, hb, hml, hown, hI, hlk, hst, hR0⟩ := hZ
  intro H locs ls hR hS hl
  exact lv_land hx hb hd (kk H locs ls hR hS hl)
theorem V_i2l (hZ : OKz Z own cc nL fr lc mc ms) {x : Int32} (hd : decode cc pc = .ok (.i2l, 1)) (kk : V Z (pc + 1) lv (.long x.toInt64 :: st) h k n) : V Z pc lv (.int x :: st) h k n := by
  obtain ⟨⟨l, D, lo, b, L, xs⟩, p, e, R, s, m, args, below, meth, c, Q⟩ := Z
  obtain ⟨hx, hb, hml, hown, hI, hlk, hst, hR0⟩ := hZ
  intro H locs ls hR hS hl
  exact lv_i2l hx hb hd rfl (kk H locs ls hR hS hl)
theorem V_i2d (hZ : OKz Z own cc nL fr lc mc ms) {x : Int32} (hd : decode cc pc = .ok (.i2d, 1)) (kk : V Z (pc + 1) lv (.double (FP.i2d x) :: st) h k n) : V Z pc lv (.int x :: st) h k n := by
  obtain ⟨⟨l, D, lo, b, L, xs⟩, p, e, R, s, m, args, below, meth, c, Q⟩ := Z
  obtain ⟨hx, hb, hml, hown, hI, hlk, hst, hR0⟩ := hZ
  intro H locs ls hR hS hl
  exact lv_i2d hx hb hd (kk H locs ls hR hS hl)
theorem V_dsub (hZ : OKz Z own cc nL fr lc mc ms) {x y : UInt64} (hne : vf_n64 (FP.dsub x y)) (hd : decode cc pc = .ok (.dsub, 1)) (kk : V Z (pc + 1) lv (.double (FP.dsub x y) :: st) h k n) : V Z pc lv (.double y :: .double x :: st) h k n := by
  obtain ⟨⟨l, D, lo, b, L, xs⟩, p, e, R, s, m, args, below, meth, c, Q⟩ := Z
  obtain ⟨hx, hb, hml, hown, hI, hlk, hst, hR0⟩ := hZ
  intro H locs ls hR hS hl
  exact lv_dsub hx hb hd hne (kk H locs ls hR hS hl)
theorem V_dmul (hZ : OKz Z own cc nL fr lc mc ms) {x y : UInt64} (hne : vf_n64 (FP.dmul x y)) (hd : decode cc pc = .ok (.dmul, 1)) (kk : V Z (pc + 1) lv (.double (FP.dmul x y) :: st) h k n) : V Z pc lv (.double y :: .double x :: st) h k n := by
  obtain ⟨⟨l, D, lo, b, L, xs⟩, p, e, R, s, m, args, below, meth, c, Q⟩ := Z
  obtain ⟨hx, hb, hml, hown, hI, hlk, hst, hR0⟩ := hZ
  intro H locs ls hR hS hl
  exact lv_dmul hx hb hd hne (kk H locs ls hR hS hl)
theorem V_ddiv (hZ : OKz Z own cc nL fr lc mc ms) {x y : UInt64} (hne : vf_n64 (FP.ddiv x y)) (hd : decode cc pc = .ok (.ddiv, 1)) (kk : V Z (pc + 1) lv (.double (FP.ddiv x y) :: st) h k n) : V Z pc lv (.double y :: .double x :: st) h k n := by
  obtain ⟨⟨l, D, lo, b, L, xs⟩, p, e, R, s, m, args, below, meth, c, Q⟩ := Z
  obtain ⟨hx, hb, hml, hown, hI, hlk, hst, hR0⟩ := hZ
  intro H locs ls hR hS hl
  exact lv_ddiv hx hb hd hne (kk H locs ls hR hS hl)
theorem V_dcmp (hZ : OKz Z own cc nL fr lc mc ms) {x y : UInt64} {op : CmpOp} (hd : decode cc pc = .ok (.dcmp op, 1)) (kk : V Z (pc + 1) lv (.int (Op.cmpValue (FP.dcmp x y) op) :: st) h k n) : V Z pc lv (.double y :: .double x :: st) h k n := by
  obtain ⟨⟨l, D, lo, b, L, xs⟩, p, e, R, s, m, args, below, meth, c, Q⟩ := Z
  obtain ⟨hx, hb, hml, hown, hI, hlk, hst, hR0⟩ := hZ
  intro H locs ls hR hS hl
  exact lv_dcmp hx hb hd (kk H locs ls hR hS hl)
theorem V_dup (hZ : OKz Z own cc nL fr lc mc ms) {v : Value} (hd : decode cc pc = .ok (.dup, 1)) (hv : v.category = 1) (kk : V Z (pc + 1) lv (v :: v :: st) h k n) : V Z pc lv (v :: st) h k n := by
  obtain ⟨⟨l, D, lo, b, L, xs⟩, p, e, R, s, m, args, below, meth, c, Q⟩ := Z
  obtain ⟨hx, hb, hml, hown, hI, hlk, hst, hR0⟩ := hZ
  intro H locs ls hR hS hl
  exact lv_dup hx hb hd hv (kk H locs ls hR hS hl)
theorem V_pop (hZ : OKz Z own cc nL fr lc mc ms) {v : Value} (hd : decode cc pc = .ok (.pop, 1)) (hv : v.category = 1) (kk : V Z (pc + 1) lv (st) h k n) : V Z pc lv (v :: st) h k n := by
  obtain ⟨⟨l, D, lo, b, L, xs⟩, p, e, R, s, m, args, below, meth, c, Q⟩ := Z
  obtain ⟨hx, hb, hml, hown, hI, hlk, hst, hR0⟩ := hZ
  intro H locs ls hR hS hl
  exact lv_pop hx hb hd hv (kk H locs ls hR hS hl)
theorem V_goto (hZ : OKz Z own cc nL fr lc mc ms) {off : Int} {tgt : Nat} (hd : decode cc pc = .ok (.goto off, 3)) (ht : (pc : Int) + off = (tgt : Int)) (kk : V Z tgt lv st h k n) : V Z pc lv st h k n := by
  obtain ⟨⟨l, D, lo, b, L, xs⟩, p, e, R, s, m, args, below, meth, c, Q⟩ := Z
  obtain ⟨hx, hb, hml, hown, hI, hlk, hst, hR0⟩ := hZ
  intro H locs ls hR hS hl
  exact lv_goto hx hb hd ht (kk H locs ls hR hS hl)
theorem V_if_eq (hZ : OKz Z own cc nL fr lc mc ms) {x : Int32} {off : Int} {tgt : Nat} (hd : decode cc pc = .ok (.ifCond .eq off, 3)) (ht : (pc : Int) + off = (tgt : Int)) (kt : x = 0 → V Z tgt lv st h k n) (kf : ¬ x = 0 → V Z (pc + 3) lv st h k n) : V Z pc lv (.int x :: st) h k n := by
  obtain ⟨⟨l, D, lo, b, L, xs⟩, p, e, R, s, m, args, below, meth, c, Q⟩ := Z
  obtain ⟨hx, hb, hml, hown, hI, hlk, hst, hR0⟩ := hZ
  intro H locs ls hR hS hl
  exact lv_if_eq hx hb hd ht (fun h9 => kt h9 H locs ls hR hS hl) (fun h9 => kf h9 H locs ls hR hS hl)
theorem V_if_ne (hZ : OKz Z own cc nL fr lc mc ms) {x : Int32} {off : Int} {tgt : Nat} (hd : decode cc pc = .ok (.ifCond .ne off, 3)) (ht : (pc : Int) + off = (tgt : Int)) (kt : ¬ x = 0 → V Z tgt lv st h k n) (kf : x = 0 → V Z (pc + 3) lv st h k n) : V Z pc lv (.int x :: st) h k n := by
  obtain ⟨⟨l, D, lo, b, L, xs⟩, p, e, R, s, m, args, below, meth, c, Q⟩ := Z
  obtain ⟨hx, hb, hml, hown, hI, hlk, hst, hR0⟩ := hZ
  intro H locs ls hR hS hl
  exact lv_if_ne hx hb hd ht (fun h9 => kt h9 H locs ls hR hS hl) (fun h9 => kf h9 H locs ls hR hS hl)
theorem V_if_lt (hZ : OKz Z own cc nL fr lc mc ms) {x : Int32} {off : Int} {tgt : Nat} (hd : decode cc pc = .ok (.ifCond .lt off, 3)) (ht : (pc : Int) + off = (tgt : Int)) (kt : x < 0 → V Z tgt lv st h k n) (kf : ¬ x < 0 → V Z (pc + 3) lv st h k n) : V Z pc lv (.int x :: st) h k n := by
  obtain ⟨⟨l, D, lo, b, L, xs⟩, p, e, R, s, m, args, below, meth, c, Q⟩ := Z
  obtain ⟨hx, hb, hml, hown, hI, hlk, hst, hR0⟩ := hZ
  intro H locs ls hR hS hl
  exact lv_if_lt hx hb hd ht (fun h9 => kt h9 H locs ls hR hS hl) (fun h9 => kf h9 H locs ls hR hS hl)
theorem V_if_ge (hZ : OKz Z own cc nL fr lc mc ms) {x : Int32} {off : Int} {tgt : Nat} (hd : decode cc pc = .ok (.ifCond .ge off, 3)) (ht : (pc : Int) + off = (tgt : Int)) (kt : 0 ≤ x → V Z tgt lv st h k n) (kf : ¬ 0 ≤ x → V Z (pc + 3) lv st h k n) : V Z pc lv (.int x :: st) h k n := by
  obtain ⟨⟨l, D, lo, b, L, xs⟩, p, e, R, s, m, args, below, meth, c, Q⟩ := Z
  obtain ⟨hx, hb, hml, hown, hI, hlk, hst, hR0⟩ := hZ
  intro H locs ls hR hS hl
  exact lv_if_ge hx hb hd ht (fun h9 => kt h9 H locs ls hR hS hl) (fun h9 => kf h9 H locs ls hR hS hl)
theorem V_if_gt (hZ : OKz Z own cc nL fr lc mc ms) {x : Int32} {off : Int} {tgt : Nat} (hd : decode cc pc = .ok (.ifCond .gt off, 3)) (ht : (pc : Int) + off = (tgt : Int)) (kt : 0 < x → V Z tgt lv st h k n) (kf : ¬ 0 < x → V Z (pc + 3) lv st h k n) : V Z pc lv (.int x :: st) h k n := by
  obtain ⟨⟨l, D, lo, b, L, xs⟩, p, e, R, s, m, args, below, meth, c, Q⟩ := Z
  obtain ⟨hx, hb, hml, hown, hI, hlk, hst, hR0⟩ := hZ
  intro H locs ls hR hS hl
  exact lv_if_gt hx hb hd ht (fun h9 => kt h9 H locs ls hR hS hl) (fun h9 => kf h9 H locs ls hR hS hl)
theorem V_if_le (hZ : OKz Z own cc nL fr lc mc ms) {x : Int32} {off : Int} {tgt : Nat} (hd : decode cc pc = .ok (.ifCond .le off, 3)) (ht : (pc : Int) + off = (tgt : Int)) (kt : x ≤ 0 → V Z tgt lv st h k n) (kf : ¬ x ≤ 0 → V Z (pc + 3) lv st h k n) : V Z pc lv (.int x :: st) h k n := by
  obtain ⟨⟨l, D, lo, b, L, xs⟩, p, e, R, s, m, args, below, meth, c, Q⟩ := Z
  obtain ⟨hx, hb, hml, hown, hI, hlk, hst, hR0⟩ := hZ
  intro H locs ls hR hS hl
  exact lv_if_le hx hb hd ht (fun h9 => kt h9 H locs ls hR hS hl) (fun h9 => kf h9 H locs ls hR hS hl)
theorem V_icmp_eq (hZ : OKz Z own cc nL fr lc mc ms) {x y : Int32} {off : Int} {tgt : Nat} (hd : decode cc pc = .ok (.if_icmp .eq off, 3)) (ht : (pc : Int) + off = (tgt : Int)) (kt : x = y → V Z tgt lv st h k n) (kf : ¬ x = y → V Z (pc + 3) lv st h k n) : V Z pc lv (.int y :: .int x :: st) h k n := by
  obtain ⟨⟨l, D, lo, b, L, xs⟩, p, e, R, s, m, args, below, meth, c, Q⟩ := Z
  obtain ⟨hx, hb, hml, hown, hI, hlk, hst, hR0⟩ := hZ
  intro H locs ls hR hS hl
  exact lv_icmp_eq hx hb hd ht (fun h9 => kt h9 H locs ls hR hS hl) (fun h9 => kf h9 H locs ls hR hS hl)
theorem V_icmp_ne (hZ : OKz Z own cc nL fr lc mc ms) {x y : Int32} {off : Int} {tgt : Nat} (hd : decode cc pc = .ok (.if_icmp .ne off, 3)) (ht : (pc : Int) + off = (tgt : Int)) (kt : ¬ x = y → V Z tgt lv st h k n) (kf : x = y → V Z (pc + 3) lv st h k n) : V Z pc lv (.int y :: .int x :: st) h k n := by
  obtain ⟨⟨l, D, lo, b, L, xs⟩, p, e, R, s, m, args, below, meth, c, Q⟩ := Z
  obtain ⟨hx, hb, hml, hown, hI, hlk, hst, hR0⟩ := hZ
  intro H locs ls hR hS hl
  exact lv_icmp_ne hx hb hd ht (fun h9 => kt h9 H locs ls hR hS hl) (fun h9 => kf h9 H locs ls hR hS hl)
theorem V_icmp_lt (hZ : OKz Z own cc nL fr lc mc ms) {x y : Int32} {off : Int} {tgt : Nat} (hd : decode cc pc = .ok (.if_icmp .lt off, 3)) (ht : (pc : Int) + off = (tgt : Int)) (kt : x < y → V Z tgt lv st h k n) (kf : ¬ x < y → V Z (pc + 3) lv st h k n) : V Z pc lv (.int y :: .int x :: st) h k n := by
  obtain ⟨⟨l, D, lo, b, L, xs⟩, p, e, R, s, m, args, below, meth, c, Q⟩ := Z
  obtain ⟨hx, hb, hml, hown, hI, hlk, hst, hR0⟩ := hZ
  intro H locs ls hR hS hl
  exact lv_icmp_lt hx hb hd ht (fun h9 => kt h9 H locs ls hR hS hl) (fun h9 => kf h9 H locs ls hR hS hl)
theorem V_icmp_ge (hZ : OKz Z own cc nL fr lc mc ms) {x y : Int32} {off : Int} {tgt : Nat} (hd : decode cc pc = .ok (.if_icmp .ge off, 3)) (ht : (pc : Int) + off = (tgt : Int)) (kt : y ≤ x → V Z tgt lv st h k n) (kf : ¬ y ≤ x → V Z (pc + 3) lv st h k n) : V Z pc lv (.int y :: .int x :: st) h k n := by
  obtain ⟨⟨l, D, lo, b, L, xs⟩, p, e, R, s, m, args, below, meth, c, Q⟩ := Z
  obtain ⟨hx, hb, hml, hown, hI, hlk, hst, hR0⟩ := hZ
  intro H locs ls hR hS hl
  exact lv_icmp_ge hx hb hd ht (fun h9 => kt h9 H locs ls hR hS hl) (fun h9 => kf h9 H locs ls hR hS hl)
theorem V_icmp_gt (hZ : OKz Z own cc nL fr lc mc ms) {x y : Int32} {off : Int} {tgt : Nat} (hd : decode cc pc = .ok (.if_icmp .gt off, 3)) (ht : (pc : Int) + off = (tgt : Int)) (kt : y < x → V Z tgt lv st h k n) (kf : ¬ y < x → V Z (pc + 3) lv st h k n) : V Z pc lv (.int y :: .int x :: st) h k n := by
  obtain ⟨⟨l, D, lo, b, L, xs⟩, p, e, R, s, m, args, below, meth, c, Q⟩ := Z
  obtain ⟨hx, hb, hml, hown, hI, hlk, hst, hR0⟩ := hZ
  intro H locs ls hR hS hl
  exact lv_icmp_gt hx hb hd ht (fun h9 => kt h9 H locs ls hR hS hl) (fun h9 => kf h9 H locs ls hR hS hl)
theorem V_icmp_le (hZ : OKz Z own cc nL fr lc mc ms) {x y : Int32} {off : Int} {tgt : Nat} (hd : decode cc pc = .ok (.if_icmp .le off, 3)) (ht : (pc : Int) + off = (tgt : Int)) (kt : x ≤ y → V Z tgt lv st h k n) (kf : ¬ x ≤ y → V Z (pc + 3) lv st h k n) : V Z pc lv (.int y :: .int x :: st) h k n := by
  obtain ⟨⟨l, D, lo, b, L, xs⟩, p, e, R, s, m, args, below, meth, c, Q⟩ := Z
  obtain ⟨hx, hb, hml, hown, hI, hlk, hst, hR0⟩ := hZ
  intro H locs ls hR hS hl
  exact lv_icmp_le hx hb hd ht (fun h9 => kt h9 H locs ls hR hS hl) (fun h9 => kf h9 H locs ls hR hS hl)
theorem V_acmp_eq (hZ : OKz Z own cc nL fr lc mc ms) {v u : Value} {off : Int} {tgt : Nat} (hd : decode cc pc = .ok (.if_acmp .eq off, 3)) (ht : (pc : Int) + off = (tgt : Int)) (hv : isR v = true) (hu : isR u = true) (kt : v = u → V Z tgt lv st h k n) (kf : ¬ v = u → V Z (pc + 3) lv st h k n) : V Z pc lv (u :: v :: st) h k n := by
  obtain ⟨⟨l, D, lo, b, L, xs⟩, p, e, R, s, m, args, below, meth, c, Q⟩ := Z
  obtain ⟨hx, hb, hml, hown, hI, hlk, hst, hR0⟩ := hZ
  intro H locs ls hR hS hl
  obtain ⟨x, rfl⟩ := isR_ex hv
  obtain ⟨y, rfl⟩ := isR_ex hu
  have hi : va_rf x = va_rf y ↔ x = y := by cases x <;> cases y <;> simp [va_rf]
  rw [hi] at kt kf
  exact lv_acmp_eq hx hb hd ht (fun h9 => kt h9 H locs ls hR hS hl) (fun h9 => kf h9 H locs ls hR hS hl)
theorem V_acmp_ne (hZ : OKz Z own cc nL fr lc mc ms) {v u : Value} {off : Int} {tgt : Nat} (hd : decode cc pc = .ok (.if_acmp .ne off, 3)) (ht : (pc : Int) + off = (tgt : Int)) (hv : isR v = true) (hu : isR u = true) (kt : ¬ v = u → V Z tgt lv st h k n) (kf : v = u → V Z (pc + 3) lv st h k n) : V Z pc lv (u :: v :: st) h k n := by
  obtain ⟨⟨l, D, lo, b, L, xs⟩, p, e, R, s, m, args, below, meth, c, Q⟩ := Z
  obtain ⟨hx, hb, hml, hown, hI, hlk, hst, hR0⟩ := hZ
  intro H locs ls hR hS hl
  obtain ⟨x, rfl⟩ := isR_ex hv
  obtain ⟨y, rfl⟩ := isR_ex hu
  have hi : va_rf x = va_rf y ↔ x = y := by cases x <;> cases y <;> simp [va_rf]
  rw [hi] at kt kf
  exact lv_acmp_ne hx hb hd ht (fun h9 => kt h9 H locs ls hR hS hl) (fun h9 => kf h9 H locs ls hR hS hl)
theorem V_ifnull (hZ : OKz Z own cc nL fr lc mc ms) {v : Value} {off : Int} {tgt : Nat} (hd : decode cc pc = .ok (.ifnull off, 3)) (ht : (pc : Int) + off = (tgt : Int)) (hv : isR v = true) (kt : v = .null → V Z tgt lv st h k n) (kf : ∀ q : Nat, v = .ref q → V Z (pc + 3) lv st h k n) : V Z pc lv (v :: st) h k n := by
  obtain ⟨⟨l, D, lo, b, L, xs⟩, p, e, R, s, m, args, below, meth, c, Q⟩ := Z
  obtain ⟨hx, hb, hml, hown, hI, hlk, hst, hR0⟩ := hZ
  intro H locs ls hR hS hl
  rcases isR_cases hv with rfl | ⟨a, rfl⟩
  · exact lv_ifnullN hx hb hd ht (kt rfl H locs ls hR hS hl)
  · exact lv_ifnull hx hb hd (kf a rfl H locs ls hR hS hl)
theorem V_ifnonnull (hZ : OKz Z own cc nL fr lc mc ms) {v : Value} {off : Int} {tgt : Nat} (hd : decode cc pc = .ok (.ifnonnull off, 3)) (ht : (pc : Int) + off = (tgt : Int)) (hv : isR v = true) (kt : ∀ q : Nat, v = .ref q → V Z tgt lv st h k n) (kf : v = .null → V Z (pc + 3) lv st h k n) : V Z pc lv (v :: st) h k n := by
  obtain ⟨⟨l, D, lo, b, L, xs⟩, p, e, R, s, m, args, below, meth, c, Q⟩ := Z
  obtain ⟨hx, hb, hml, hown, hI, hlk, hst, hR0⟩ := hZ
  intro H locs ls hR hS hl
  rcases isR_cases hv with rfl | ⟨a, rfl⟩
  · exact lv_ifnonnullN hx hb hd (kf rfl H locs ls hR hS hl)
  · exact lv_ifnonnull hx hb hd ht (kt a rfl H locs ls hR hS hl)
theorem V_tableIn (hZ : OKz Z own cc nL fr lc mc ms) {dflt lo' hi : Int} {offs : Array Int} {len : Nat} {x : Int32} {off : Int} {tgt : Nat} (hd : decode cc pc = .ok (.tableswitch dflt lo' hi offs, len)) (h1 : ¬ x.toInt < lo') (h2 : ¬ hi < x.toInt) (ho : offs[(x.toInt - lo').toNat]? = some off) (ht : (pc : Int) + off = (tgt : Int)) (kk : V Z tgt lv st h k n) : V Z pc lv (.int x :: st) h k n := by
  obtain ⟨⟨l, D, lo, b, L, xs⟩, p, e, R, s, m, args, below, meth, c, Q⟩ := Z
  obtain ⟨hx, hb, hml, hown, hI, hlk, hst, hR0⟩ := hZ
  intro H locs ls hR hS hl
  exact lv_tableIn hx hb hd h1 h2 ho ht (kk H locs ls hR hS hl)
theorem V_tableOut (hZ : OKz Z own cc nL fr lc mc ms) {dflt lo' hi : Int} {offs : Array Int} {len : Nat} {x : Int32} {tgt : Nat} (hd : decode cc pc = .ok (.tableswitch dflt lo' hi offs, len)) (h1 : x.toInt < lo' ∨ hi < x.toInt) (ht : (pc : Int) + dflt = (tgt : Int)) (kk : V Z tgt lv st h k n) : V Z pc lv (.int x :: st) h k n := by
  obtain ⟨⟨l, D, lo, b, L, xs⟩, p, e, R, s, m, args, below, meth, c, Q⟩ := Z
  obtain ⟨hx, hb, hml, hown, hI, hlk, hst, hR0⟩ := hZ
  intro H locs ls hR hS hl
  exact lv_tableOut hx hb hd h1 ht (kk H locs ls hR hS hl)
theorem V_ldc (hZ : OKz Z own cc nL fr lc mc ms) {j : Nat} {v : Int32} (hd : decode cc pc = .ok (.ldc j, 2)) (hw : Cond.constant own j v ∈ tbW) (kk : V Z (pc + 2) lv (.int v :: st) h k n) : V Z pc lv st h k n := by
  obtain ⟨⟨l, D, lo, b, L, xs⟩, p, e, R, s, m, args, below, meth, c, Q⟩ := Z
  obtain ⟨hx, hb, hml, hown, hI, hlk, hst, hR0⟩ := hZ
  intro H locs ls hR hS hl
  have hw := hI
  obtain ⟨hT, -⟩ := hI
  exact lv_ldc hx hb hown (hT.use _ (by assumption)) hd (kk H locs ls hR hS hl)
theorem V_ldcw (hZ : OKz Z own cc nL fr lc mc ms) {j : Nat} {v : Int32} (hd : decode cc pc = .ok (.ldc_w j, 3)) (hw : Cond.constant own j v ∈ tbW) (kk : V Z (pc + 3) lv (.int v :: st) h k n) : V Z pc lv st h k n := by
  obtain ⟨⟨l, D, lo, b, L, xs⟩, p, e, R, s, m, args, below, meth, c, Q⟩ := Z
  obtain ⟨hx, hb, hml, hown, hI, hlk, hst, hR0⟩ := hZ
  intro H locs ls hR hS hl
  have hw := hI
  obtain ⟨hT, -⟩ := hI
  exact lv_ldcw hx hb hown (hT.use _ (by assumption)) hd (kk H locs ls hR hS hl)
theorem V_ldc2 (hZ : OKz Z own cc nL fr lc mc ms) {j : Nat} {v : Int64} (hd : decode cc pc = .ok (.ldc2_w j, 3)) (hw : Cond.constantLong own j v ∈ tbW) (kk : V Z (pc + 3) lv (.long v :: st) h k n) : V Z pc lv st h k n := by
  obtain ⟨⟨l, D, lo, b, L, xs⟩, p, e, R, s, m, args, below, meth, c, Q⟩ := Z
  obtain ⟨hx, hb, hml, hown, hI, hlk, hst, hR0⟩ := hZ
  intro H locs ls hR hS hl
  have hw := hI
  obtain ⟨hT, -⟩ := hI
  exact lv_ldc2 hx hb hown (hT.use _ (by assumption)) hd (kk H locs ls hR hS hl)
theorem V_ldc2d (hZ : OKz Z own cc nL fr lc mc ms) {j : Nat} {v : UInt64} (hd : decode cc pc = .ok (.ldc2_w j, 3)) (hw : Cond.constantDouble own j v ∈ tbW) (kk : V Z (pc + 3) lv (.double v :: st) h k n) : V Z pc lv st h k n := by
  obtain ⟨⟨l, D, lo, b, L, xs⟩, p, e, R, s, m, args, below, meth, c, Q⟩ := Z
  obtain ⟨hx, hb, hml, hown, hI, hlk, hst, hR0⟩ := hZ
  intro H locs ls hR hS hl
  have hw := hI
  obtain ⟨hT, -⟩ := hI
  exact lv_ldc2d hx hb hown (hT.use _ (by assumption)) hd (kk H locs ls hR hS hl)
end
