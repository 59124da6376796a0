/-! a method with a table of handlers -/
def hhA : List (Nat × Nat × Nat × Nat) := [(39, 143, 585, 108), (144, 198, 585, 108), (199, 241, 585, 108), (242, 301, 585, 108), (302, 351, 585, 108), (352, 372, 585, 108), (373, 437, 585, 108), (438, 464, 585, 108), (465, 495, 585, 108), (496, 539, 585, 108), (540, 584, 585, 108), (39, 143, 601, 110), (144, 198, 601, 110), (199, 241, 601, 110), (242, 301, 601, 110), (302, 351, 601, 110), (352, 372, 601, 110), (373, 437, 601, 110), (438, 464, 601, 110), (465, 495, 601, 110), (496, 539, 601, 110), (540, 584, 601, 110), (39, 143, 620, 112), (144, 198, 620, 112), (199, 241, 620, 112), (242, 301, 620, 112), (302, 351, 620, 112), (352, 372, 620, 112), (373, 437, 620, 112), (438, 464, 620, 112), (465, 495, 620, 112), (496, 539, 620, 112), (540, 584, 620, 112)]
theorem cw_act : Cond.codeWith yL_act cL_act 9 (some .boolean) hhA ∈ tbW := List.mem_filter.mpr ⟨List.mem_append_right _ (List.mem_of_getElem? (i := 400) (by rfl)), by rfl⟩
theorem ms_L_act : Cond.static yL_act ∈ tbW := List.mem_filter.mpr ⟨List.mem_append_right _ (List.mem_of_getElem? (i := 399) (by decide +kernel)), by decide +kernel⟩
def HTz (Z : ZC) (hh : List (Nat × Nat × Nat × Nat)) : Prop := match Z with
  | (_, _, _, _, _, _, _, _, _, c, _) => c.exceptionTable.toList = tableOf hh
/-- a contract of a method with handlers -/
def CallsH (G : GC) (y : MethodName) (cc : ByteArray) (nL : Nat) (ret : Option FieldType) (hh : List (Nat × Nat × Nat × Nat)) (fr lc mc ms : Nat) (args : List Value) (h : HP) (Qn : Option Value → HP → Prop) (Qx : String → HP → Prop) : Prop :=
  G.1.stackTraces = false → vx_Met G.1 y [Cond.codeWith y cc nL ret hh] { frames := fr, cells := mc, slots := ms, locals := lc } (va_Pc args (fun U => Iv G U U.heap ∧ Rp G.2.1 U G.2.2.1 h U.heap)) (QcN G Qn) (XcN G Qx) mc ms (fun q => G.2.2.1 ≤ q)
section
variable {Z : ZC} {pc : Nat} {lv lw : List (Option Value)} {st rest : List Value} {h : HP} {k n : Nat} {own : String} {cc : ByteArray} {nL fr lc mc ms : Nat}
variable {nm : String} {ret : Option FieldType} {Qn : Option Value → HP → Prop} {Qx : String → HP → Prop}
theorem CallsH_of {G : GC} {y : MethodName} {hh : List (Nat × Nat × Nat × Nat)} {args : List Value} (hy : plainName y.cls = true) (hlen : (lg_sl args).length ≤ nL) {lv0 : List (Option Value)} (hlv : ∀ (i : Nat) (v : Value), lv0[i]? = some (some v) → (i, v) ∈ lv_args 0 args)
    (body : ∀ Z : ZC, Z.1 = G → OKz Z y.cls cc nL fr lc mc ms → EDz Z y.name ret mc ms Qn Qx → HTz Z hh → V Z 0 lv0 [] h 0 0) : CallsH G y cc nL ret hh fr lc mc ms args h Qn Qx := by
  intro hst
  obtain ⟨l, D, lo, b, L, xs⟩ := G
  refine vx_ofWH (cc := cc) (maxL := nL) (ret := ret) (hh := hh) hy rfl ?_
  intro p e s m args' below meth c s₁ B hml hv
  have hcw : (Cond.codeWith y cc nL ret hh).before args' s = true := atoms_spec B.pre _ List.mem_cons_self
  have hN : c.exceptionTable.toList = tableOf hh := vx_table (x := y) B hcw
  obtain ⟨rfl, hI, hR⟩ := hv
  have hl := lv_entry args (n := nL) hlen
  rw [lg_entry_eq]
  generalize ((lg_sl args) ++ List.replicate (nL - (lg_sl args).length) Slot.unset).toArray = ls at hl ⊢
  have hb := body ((l, D, lo, b, L, xs), p, e, _, s, m, args.toArray, below, meth, c, _) rfl ⟨B.exec, B.bytes, hml, findClass_of_methodNamed B.named, hI, B.notSynchronized, hst, rfl⟩ ⟨(name_of_methodNamed B.named B.method).1, B.returns, rfl⟩ hN
  exact hb s.heap [] ls hR va_S.rf ⟨by rw [hml]; exact hl.1, hl.2.1, fun i v hi => hl.2.2 (i, v) (hlv i v hi)⟩
theorem V_invSH (hZ : OKz Z own cc nL fr lc mc ms) {idx a : Nat} {y : MethodName} {bytes : ByteArray} {hh : List (Nat × Nat × Nat × Nat)} {maxL fr' lc' mc' ms' : Nat} {ret' : Option FieldType} {As : List Value} {Qn' : Option Value → HP → Prop} {Qx' : String → HP → Prop}
    (hcw : Cond.codeWith y bytes maxL ret' hh ∈ tbW) (hini : Cond.initialized y.cls ∈ tbW) (hdc : y.cls ≠ "java/lang/invoke/MethodHandle" ∧ y.cls ≠ "java/lang/invoke/VarHandle" ∧ (parseMethodDescriptor y.desc).map (fun d => d.parameters.length) = some a) (hi : Cond.static y ∈ tbW) (hlk0 : Cond.methodLink own idx y ∈ tbW) (hcal : CallsH Z.1 y bytes maxL ret' hh fr' lc' mc' ms' As h Qn' Qx')
    (hd : decode cc pc = .ok (.invokestatic idx, 3)) (hst0 : st = As.reverse ++ rest) (hn : As.length = a)
    (hfr : fr' + 1 ≤ fr ∧ 8 + (maxL + 11) + lc' ≤ lc) (hcat : (rest.map fun v => v.category).sum ≤ 8) (hk : k + mc' ≤ mc ∧ n + ms' ≤ ms)
    (kx : ∀ (E : String) (h' : HP), Qx' E h' → VX Z pc lv E h' (k + mc') (n + ms'))
    (kn : ∀ (v : Option Value) (h' : HP), Qn' v h' → V Z (pc + 3) lv (v.toList ++ rest) h' (k + mc') (n + ms')) : V Z pc lv st h k n := by
  obtain ⟨⟨l, D, lo, b0, L, xs⟩, p, e, R, s, m, args, below, meth, c, Q⟩ := Z
  obtain ⟨hx, hb, hml, hown, hI, hlk, hst, rfl⟩ := hZ
  have hts := hI.1.use (args := args)
  have hM := hcal hst
  subst hst0
  intro H locs ls hR hS hl
  have cw : vx_CSW { frames := fr, cells := mc, slots := ms, locals := lc } s args own idx y bytes maxL ret' hh [Cond.codeWith y bytes maxL ret' hh] { frames := fr', cells := mc', slots := ms', locals := lc' } mc' ms' a :=
    ⟨⟨rfl, rfl, hfr.1, hfr.2, fun w hw a' U hW => by rw [List.mem_singleton.mp hw]; exact word_at hW (good_of_word (by rfl)) (hts _ hcw), List.mem_singleton.mpr rfl⟩, hts _ hcw, hts _ hini, ⟨hdc.1, hdc.2.1⟩, fun sig hs => by
      have h2 := hdc.2.2
      rw [hs] at h2
      exact (Option.some.inj h2).symm, hts _ hlk0, hts _ hi⟩
  refine V_after (D := D) (b := b0) (L := L) (xs := xs) hS hl (vx_runSX (As := As) (rest := rest) ⟨hx, hb, hml, hown, hts⟩ hM cw ⟨blind _ _ _, fun U hU hW => ⟨rfl, Iv_at (G := (l, D, lo, b0, L, xs)) hI hS hU hW, by rw [hU]; exact hR.moved hW.alike⟩⟩ rfl hn (hl.1.trans hml) rfl (lv_room hcat) hd hk) kn kx
/-- a name of which E is not, by the tables' words -/
def NCn (E nm : String) : Prop := (E = eIA ∧ nm = eIO) ∨ (E = eIS ∧ nm = eIO) ∨ (E = eIS ∧ nm = eIA)
theorem NCn.use {E nm : String} {U : State} (h : NCn E nm) (hw : NCw U) : va_Nc E nm U := by
  rcases h with ⟨rfl, rfl⟩ | ⟨rfl, rfl⟩ | ⟨rfl, rfl⟩
  · exact hw.1
  · exact hw.2.1
  · exact hw.2.2
theorem VX_catch (hZ : OKz Z own cc nL fr lc mc ms) {hh : List (Nat × Nat × Nat × Nat)} (hT : HTz Z hh) {E : String} {j hp : Nat} {x : ExceptionTableEntry} (hj : (tableOf hh)[j]? = some x)
    (hpre : ∀ z ∈ (tableOf hh).take j, covers z pc = false ∨ (z.catchType ≠ 0 ∧ ∃ nm' : String, Cond.classLink own z.catchType nm' ∈ tbW ∧ NCn E nm')) (hx : covers x pc = true) (h0 : x.catchType ≠ 0) (hlink : Cond.classLink own x.catchType E ∈ tbW) (hcast : Cond.castable E E ∈ tbW) (hhp : x.handlerPc = hp)
    (kk : ∀ q : Nat, V Z hp lv [.ref q] h k n) : VX Z pc lv E h k n := by
  obtain ⟨⟨l, D, lo, b, L, xs⟩, p, e, R, s, m, args, below, meth, c, Q⟩ := Z
  obtain ⟨hx0, hb, hml, hown, hI, hlk, hst, hR0⟩ := hZ
  have hts := hI.1.use (args := args)
  intro H locs ls q ce rest hR hS hl h1 h2 h3
  have hsp : c.exceptionTable.toList = (tableOf hh).take j ++ x :: (tableOf hh).drop (j + 1) := by
    have e1 : c.exceptionTable.toList = tableOf hh := hT
    have hjl := (List.getElem?_eq_some_iff.mp hj)
    rw [e1, ← hjl.2, ← List.drop_eq_getElem_cons hjl.1, List.take_append_drop]
  have hnc := hI.2.2.2.1.move (State.WarmedH.refl s)
  refine vx_catch (own := own) (name := E) hown _ x _ hsp ?_ hx h0 (hts _ hlink) (hts _ hcast) h1 h2 h3 ?_
  · intro z hz
    rcases hpre z hz with a1 | ⟨a1, nm', a2, a3⟩
    · exact Or.inl a1
    · exact Or.inr ⟨a1, nm', hts _ a2, a3.use hnc⟩
  · rw [hhp]
    exact kk q H locs ls hR hS hl
theorem VX_IO (hZ : OKz Z RL cc nL fr lc mc ms) (hT : HTz Z hhA) (j : Nat) {x : ExceptionTableEntry} (hj : (tableOf hhA)[j]? = some x) (hpre : ((tableOf hhA).take j).all (fun z => !covers z pc) = true) (hx : covers x pc = true) (h2 : x.catchType = 108 ∧ x.handlerPc = 585) (kk : ∀ q : Nat, V Z 585 lv [.ref q] h k n) : VX Z pc lv eIO h k n :=
  VX_catch hZ hT hj (fun z hz => Or.inl (by have := List.all_eq_true.mp hpre z hz; rwa [Bool.not_eq_true'] at this)) hx (by rw [h2.1]; decide) (by rw [h2.1]; exact cl_L_108) ca_IndexOutOfBoundsException h2.2 kk
theorem VX_IA (hZ : OKz Z RL cc nL fr lc mc ms) (hT : HTz Z hhA) (j : Nat) {x : ExceptionTableEntry} (hj : (tableOf hhA)[j]? = some x) (hpre : ((tableOf hhA).take j).all (fun z => !covers z pc || z.catchType == 108) = true) (hx : covers x pc = true) (h2 : x.catchType = 110 ∧ x.handlerPc = 601) (kk : ∀ q : Nat, V Z 601 lv [.ref q] h k n) : VX Z pc lv eIA h k n :=
  VX_catch hZ hT hj (fun z hz => by
    have := List.all_eq_true.mp hpre z hz
    rw [Bool.or_eq_true, Bool.not_eq_true', beq_iff_eq] at this
    rcases this with a | a
    · exact Or.inl a
    · exact Or.inr ⟨by rw [a]; decide, eIO, by rw [a]; exact cl_L_108, Or.inl ⟨rfl, rfl⟩⟩) hx (by rw [h2.1]; decide) (by rw [h2.1]; exact cl_L_110) ca_IllegalArgumentException h2.2 kk
theorem VX_IS (hZ : OKz Z RL cc nL fr lc mc ms) (hT : HTz Z hhA) (j : Nat) {x : ExceptionTableEntry} (hj : (tableOf hhA)[j]? = some x) (hpre : ((tableOf hhA).take j).all (fun z => !covers z pc || (z.catchType == 108 || z.catchType == 110)) = true) (hx : covers x pc = true) (h2 : x.catchType = 112 ∧ x.handlerPc = 620) (kk : ∀ q : Nat, V Z 620 lv [.ref q] h k n) : VX Z pc lv eIS h k n :=
  VX_catch hZ hT hj (fun z hz => by
    have := List.all_eq_true.mp hpre z hz
    rw [Bool.or_eq_true, Bool.or_eq_true, Bool.not_eq_true', beq_iff_eq, beq_iff_eq] at this
    rcases this with a | a | a
    · exact Or.inl a
    · exact Or.inr ⟨by rw [a]; decide, eIO, by rw [a]; exact cl_L_108, Or.inr (Or.inl ⟨rfl, rfl⟩)⟩
    · exact Or.inr ⟨by rw [a]; decide, eIA, by rw [a]; exact cl_L_110, Or.inr (Or.inr ⟨rfl, rfl⟩)⟩) hx (by rw [h2.1]; decide) (by rw [h2.1]; exact cl_L_112) ca_IllegalStateException h2.2 kk
end
