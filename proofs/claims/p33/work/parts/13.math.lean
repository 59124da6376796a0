/-! Math's int functions -/
theorem cat_ref (a : Nat) : (Value.ref a).category = 1 := rfl
theorem cat_int (a : Int32) : (Value.int a).category = 1 := rfl
theorem cat_null : (Value.null).category = 1 := rfl
def maxI (x y : Int32) : Int32 := if x < y then y else x
def minI (x y : Int32) : Int32 := if y < x then y else x
def absI (x : Int32) : Int32 := if 0 ≤ x then x else 0 - x
theorem mx_code : Cond.code Lib.Math.max.name Lib.Math.max.code 2 (some .int) ∈ tbW := me_J9_max_7cf53.1
theorem mn_code : Cond.code Lib.Math.min.name Lib.Math.min.code 2 (some .int) ∈ tbW := me_J9_min_7cf53.1
theorem mb_code : Cond.code Lib.Math.abs.name Lib.Math.abs.code 1 (some .int) ∈ tbW := me_J9_abs_0f7a4.1
section
variable {Z : ZC} {pc : Nat} {lv : List (Option Value)} {st : List Value} {h : HP} {k n : Nat} {own : String} {cc : ByteArray} {nL fr lc mc ms : Nat}
theorem V_mmax (hZ : OKz Z own cc nL fr lc mc ms) {idx : Nat} {x y : Int32} (hl0 : Cond.methodLink own idx yJ9_max_7cf53 ∈ tbW) (hd : decode cc pc = .ok (.invokestatic idx, 3)) (hfr : 1 ≤ fr) (hlc : (st.map fun v => v.category).sum + 13 ≤ lc) (hk : k ≤ mc ∧ n ≤ ms) (kk : V Z (pc + 3) lv (.int (maxI x y) :: st) h k n) : V Z pc lv (.int y :: .int x :: st) h k n := by
  obtain ⟨⟨l, D, lo, b, L, xs⟩, p, e, R, s, m, args, below, meth, c, Q⟩ := Z
  obtain ⟨hx, hb, hml, hown, hI, hlk, hst, rfl⟩ := hZ
  have hts := hI.1.use (args := args)
  intro H locs ls hR hS hl
  exact va_mmax hx hb hl.1.symm hown (hts _ hl0) (hts _ ms_J9_max_7cf53) (hts _ me_J9_max_7cf53.2.1) (hts _ mx_code) hfr hlc hk.1 hk.2 hd (kk H locs ls hR hS hl)
theorem V_mmin (hZ : OKz Z own cc nL fr lc mc ms) {idx : Nat} {x y : Int32} (hl0 : Cond.methodLink own idx yJ9_min_7cf53 ∈ tbW) (hd : decode cc pc = .ok (.invokestatic idx, 3)) (hfr : 1 ≤ fr) (hlc : (st.map fun v => v.category).sum + 13 ≤ lc) (hk : k ≤ mc ∧ n ≤ ms) (kk : V Z (pc + 3) lv (.int (minI x y) :: st) h k n) : V Z pc lv (.int y :: .int x :: st) h k n := by
  obtain ⟨⟨l, D, lo, b, L, xs⟩, p, e, R, s, m, args, below, meth, c, Q⟩ := Z
  obtain ⟨hx, hb, hml, hown, hI, hlk, hst, rfl⟩ := hZ
  have hts := hI.1.use (args := args)
  intro H locs ls hR hS hl
  exact va_mmin hx hb hl.1.symm hown (hts _ hl0) (hts _ ms_J9_min_7cf53) (hts _ me_J9_min_7cf53.2.1) (hts _ mn_code) hfr hlc hk.1 hk.2 hd (kk H locs ls hR hS hl)
theorem V_mabs (hZ : OKz Z own cc nL fr lc mc ms) {idx : Nat} {x : Int32} (hl0 : Cond.methodLink own idx yJ9_abs_0f7a4 ∈ tbW) (hd : decode cc pc = .ok (.invokestatic idx, 3)) (hfr : 1 ≤ fr) (hlc : (st.map fun v => v.category).sum + 13 ≤ lc) (hk : k ≤ mc ∧ n ≤ ms) (kk : V Z (pc + 3) lv (.int (absI x) :: st) h k n) : V Z pc lv (.int x :: st) h k n := by
  obtain ⟨⟨l, D, lo, b, L, xs⟩, p, e, R, s, m, args, below, meth, c, Q⟩ := Z
  obtain ⟨hx, hb, hml, hown, hI, hlk, hst, rfl⟩ := hZ
  have hts := hI.1.use (args := args)
  intro H locs ls hR hS hl
  exact va_mabs hx hb hl.1.symm hown (hts _ hl0) (hts _ ms_J9_abs_0f7a4) (hts _ me_J9_abs_0f7a4.2.1) (hts _ mb_code) hfr hlc hk.1 hk.2 hd (kk H locs ls hR hS hl)
end
