/-! rows for the law's own methods -/
section
variable {Z : ZC} {pc : Nat} {lv : List (Option Value)} {st : List Value} {h : HP} {k n : Nat} {own : String} {cc : ByteArray} {nL fr lc mc ms : Nat}
theorem V_dup2 (hZ : OKz Z own cc nL fr lc mc ms) {va vb : Value} (hd : decode cc pc = .ok (.dup2, 1)) (h1 : va.category = 1) (h2 : vb.category = 1) (kk : V Z (pc + 1) lv (va :: vb :: va :: vb :: st) h k n) : V Z pc lv (va :: vb :: st) h k n := by
  obtain ⟨⟨l, D, lo, b, L, xs⟩, p, e, R, s, m, args, below, meth, c, Q⟩ := Z
  obtain ⟨hx, hb, hml, hown, hI, hlk, hst, hR0⟩ := hZ
  intro H locs ls hR hS hl
  exact lv_dup2_11 hx hb hd h1 h2 (kk H locs ls hR hS hl)
theorem V_lcmp (hZ : OKz Z own cc nL fr lc mc ms) {x y : Int64} (hd : decode cc pc = .ok (.lcmp, 1)) (kk : V Z (pc + 1) lv (.int (lg_cmp x y) :: st) h k n) : V Z pc lv (.long y :: .long x :: st) h k n := by
  obtain ⟨⟨l, D, lo, b, L, xs⟩, p, e, R, s, m, args, below, meth, c, Q⟩ := Z
  obtain ⟨hx, hb, hml, hown, hI, hlk, hst, hR0⟩ := hZ
  intro H locs ls hR hS hl
  exact W.lcmp hx hb hd (kk H locs ls hR hS hl)
theorem V_dabs (hZ : OKz Z own cc nL fr lc mc ms) {idx : Nat} {x : UInt64} (hx0 : vf_n64 x) (hl0 : Cond.methodLink own idx yJ9_abs_294c1 ∈ tbW) (hd : decode cc pc = .ok (.invokestatic idx, 3)) (hfr : 1 ≤ fr) (hlc : (st.map fun v => v.category).sum + 13 ≤ lc) (kk : V Z (pc + 3) lv (.double (x &&& 0x7fffffffffffffff) :: st) h k n) : V Z pc lv (.double x :: st) h k n := by
  obtain ⟨⟨l, D, lo, b, L, xs⟩, p, e, R, s, m, args, below, meth, c, Q⟩ := Z
  obtain ⟨hx, hb, hml, hown, hI, hlk, hst, rfl⟩ := hZ
  have hts := hI.1.use (args := args)
  intro H locs ls hR hS hl
  intro T hT X
  have hcode := hts _ me_J9_abs_294c1.1
  have hstat := hts _ ms_J9_abs_294c1
  have hini := hts _ me_J9_abs_294c1.2.1
  obtain ⟨mk, hnamed⟩ := Cond.named_of_code hcode
  obtain ⟨methM, cM, hmethM, -, -, -, -, -, -, hsig⟩ := Cond.code_spec hnamed hcode
  have K := Jvm.Free.NT.Abs64.pays (l := l) (R := { frames := fr, cells := mc, slots := ms, locals := lc }) (p := p) (e := e) (below := below) (s := s) (sargs := args) (len := 3) (W := (st.map fun v => v.category).sum) hcode hstat hfr (by show _ + (2 + 11) ≤ lc; omega)
  obtain ⟨v, vm1, B, hW1, X1, ⟨rfl, hv⟩, hsteps⟩ := X.staticBack hx (own := own) (index := idx) (y := yJ9_abs_294c1) hown (hts _ hl0) hstat hini hnamed hmethM hsig (by decide) K (g := F0 m pc ls (.double x :: st)) rfl hl.1 (Steps.refl _) (argsL := [.double x]) (rest := st) (fun sig h => by
    have : parseMethodDescriptor yJ9_abs_294c1.desc = some ⟨[.double], some .double⟩ := by decide +kernel
    rw [this] at h
    rw [← Option.some.inj h]
    rfl) rfl (by show 2 * 0 + _ ≤ _; omega) (by rw [hb]; exact hd) (fun vm₁ _ => ⟨x, rfl, hx0⟩)
  cases hv x ⟨rfl, hx0⟩
  obtain ⟨t, a1, b1⟩ := kk H locs ls hR hS hl (T.setVm vm1) hT X1
  exact ⟨t, hsteps.trans a1, b1⟩
end
