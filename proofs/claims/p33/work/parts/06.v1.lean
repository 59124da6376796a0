/-! THE JUDGEMENT V -/
abbrev ZC : Type := GC × Program × Env × Room × State × MethodId × Array Value × List Frame × Method × Code × (State → Prop)
def lH (ls : Array Slot) (nL : Nat) (lv : List (Option Value)) : Prop := ls.size = nL ∧ lv_wf ls ∧ ∀ (i : Nat) (v : Value), lv[i]? = some (some v) → ls[i]? = some (.val v)
def lz (lv : List (Option Value)) : List (Nat × Value) := (List.range lv.length).filterMap fun i => match lv[i]? with
  | some (some v) => some (i, v)
  | _ => none
theorem mem_lz {lv : List (Option Value)} {i : Nat} {v : Value} : (i, v) ∈ lz lv ↔ lv[i]? = some (some v) := by
  unfold lz
  rw [List.mem_filterMap]
  constructor
  · rintro ⟨j, -, h⟩
    split at h
    · rename_i w hw
      cases h
      exact hw
    · cases h
  · intro h
    refine ⟨i, List.mem_range.mpr (List.getElem?_eq_some_iff.mp h).1, ?_⟩
    rw [h]
theorem lH.has {ls : Array Slot} {nL : Nat} {lv : List (Option Value)} (h : lH ls nL lv) : lv_has ls nL (lz lv) := ⟨h.1, h.2.1, fun q hq => h.2.2 q.1 q.2 (mem_lz.mp hq)⟩
theorem lH.at {ls : Array Slot} {nL : Nat} {lv : List (Option Value)} (h : lH ls nL lv) {i : Nat} {v : Value} (hi : lv[i]? = some (some v)) : ls[i]? = some (.val v) := h.2.2 i v hi
/-- fewer known locals -/
def lsub (lv lw : List (Option Value)) : Prop := ∀ (i : Nat) (v : Value), lw[i]? = some (some v) → lv[i]? = some (some v)
theorem lH.sub {ls : Array Slot} {nL : Nat} {lv lw : List (Option Value)} (h : lH ls nL lv) (hs : lsub lv lw) : lH ls nL lw := ⟨h.1, h.2.1, fun i v hi => h.2.2 i v (hs i v hi)⟩
theorem lsub.nil {lv : List (Option Value)} : lsub lv [] := fun i v h => by simp at h
theorem lsub.same {x : Option Value} {lv lw : List (Option Value)} (h : lsub lv lw) : lsub (x :: lv) (x :: lw) := by
  intro i v hi
  cases i with
  | zero => exact hi
  | succ i => exact h i v hi
theorem lsub.drop {x : Option Value} {lv lw : List (Option Value)} (h : lsub lv lw) : lsub (x :: lv) (none :: lw) := by
  intro i v hi
  cases i with
  | zero => cases hi
  | succ i => exact h i v hi
theorem lsub.rf {lv : List (Option Value)} : lsub lv lv := fun _ _ h => h
/-- no value of two slots ends in slot i -/
def okp (lv : List (Option Value)) : Nat → Bool
  | 0 => true
  | j + 1 => match lv[j]? with
    | some (some w) => w.category != 2
    | _ => true
theorem okp_use {lv : List (Option Value)} {i j : Nat} {w : Value} (h : okp lv i = true) (hj : j + 1 = i) (hw : lv[j]? = some (some w)) : ¬ w.category = 2 := by
  subst hj
  simp only [okp, hw] at h
  simpa using h
theorem lH.store1 {ls' : Array Slot} {nL i : Nat} {lv : List (Option Value)} {v : Value} (ho : okp lv i = true) (h : lv_has ls' nL ((i, v) :: (lz lv).filter (fun q => !(q.1 == i) && !(q.1 + 1 == i && q.2.category == 2)))) : lH ls' nL (lv.set i (some v)) := by
  refine ⟨h.1, h.2.1, fun j w hj => h.2.2 (j, w) ?_⟩
  by_cases hji : i = j
  · subst hji
    have hl : i < lv.length := by
      have := (List.getElem?_eq_some_iff.mp hj).1
      simpa using this
    rw [List.getElem?_set_self hl] at hj
    cases hj
    exact List.mem_cons_self
  · rw [List.getElem?_set_ne hji] at hj
    refine List.mem_cons_of_mem _ (List.mem_filter.mpr ⟨mem_lz.mpr hj, ?_⟩)
    have hne : ¬ j = i := fun z => hji z.symm
    simp only [Bool.and_eq_true, Bool.not_eq_true', beq_eq_false_iff_ne, ne_eq, Bool.and_eq_false_iff]
    refine ⟨hne, ?_⟩
    by_cases hc : j + 1 = i
    · exact Or.inr (okp_use ho hc hj)
    · exact Or.inl hc
theorem lH.store2 {ls' : Array Slot} {nL i : Nat} {lv : List (Option Value)} {v : Value} (ho : okp lv i = true) (h : lv_has ls' nL ((i, v) :: (lz lv).filter (fun q => !(q.1 == i) && (!(q.1 == i + 1) && !(q.1 + 1 == i && q.2.category == 2))))) : lH ls' nL ((lv.set i (some v)).set (i + 1) none) := by
  refine ⟨h.1, h.2.1, fun j w hj => h.2.2 (j, w) ?_⟩
  by_cases hj1 : i + 1 = j
  · subst hj1
    exfalso
    have hl := (List.getElem?_eq_some_iff.mp hj).1
    rw [List.length_set] at hl
    rw [List.getElem?_set_self (by exact hl)] at hj
    cases hj
  · rw [List.getElem?_set_ne hj1] at hj
    by_cases hji : i = j
    · subst hji
      have hl : i < lv.length := by
        have := (List.getElem?_eq_some_iff.mp hj).1
        simpa using this
      rw [List.getElem?_set_self hl] at hj
      cases hj
      exact List.mem_cons_self
    · rw [List.getElem?_set_ne hji] at hj
      refine List.mem_cons_of_mem _ (List.mem_filter.mpr ⟨mem_lz.mpr hj, ?_⟩)
      have hne : ¬ j = i := fun z => hji z.symm
      have hne1 : ¬ j = i + 1 := fun z => hj1 z.symm
      simp only [Bool.and_eq_true, Bool.not_eq_true', beq_eq_false_iff_ne, ne_eq, Bool.and_eq_false_iff]
      refine ⟨hne, hne1, ?_⟩
      by_cases hc : j + 1 = i
      · exact Or.inr (okp_use ho hc hj)
      · exact Or.inl hc
def V (Z : ZC) (pc : Nat) (lv : List (Option Value)) (st : List Value) (h : HP) (k n : Nat) : Prop := match Z with
  | ((l, D, lo, _, _, _), p, e, R, s, m, args, below, meth, c, Q) => ∀ (H : Heap) (locs : List Loc) (ls : Array Slot), Rp D s lo h H → va_S (fun q => lo ≤ q) s.heap H locs → lH ls c.maxLocals lv → W p l e R s m args below meth c H locs k n Q (F0 m pc ls st)
/-- thrown over the frame: an object of the class E -/
def VX (Z : ZC) (pc : Nat) (lv : List (Option Value)) (E : String) (h : HP) (k n : Nat) : Prop := match Z with
  | ((l, D, lo, _, _, _), p, e, R, s, m, args, below, meth, c, Q) => ∀ (H : Heap) (locs : List Loc) (ls : Array Slot) (q : Nat) (ce : Cell) (rest : List Value), Rp D s lo h H → va_S (fun q => lo ≤ q) s.heap H locs → lH ls c.maxLocals lv → H[q]? = some ce → ce.vm = .none → s.vm.findClass E = some ce.cls → vx_W p l e R s m args below meth c H locs k n Q (F0 m pc ls rest) q
/-- the frame's own: its class, code, number of locals, room -/
def OKz (Z : ZC) (own : String) (cc : ByteArray) (nL fr lc mc ms : Nat) : Prop := match Z with
  | (G, p, _, R, s, m, _, _, meth, c, _) => p.tables.exec = Jvm.exec ∧ c.code = cc ∧ c.maxLocals = nL ∧ s.vm.findClass own = some m.cls ∧ Iv G s s.heap ∧ meth.locks = false ∧ G.1.stackTraces = false ∧ R = { frames := fr, cells := mc, slots := ms, locals := lc }
/-- where a method ends: what it must have reached -/
def QcN (G : GC) (Qn : Option Value → HP → Prop) : Array Value → State → Outcome → State → Prop := fun _ st o t => ∃ (v : Option Value) (h : HP), o = .returned v ∧ Qn v h ∧ Rp G.2.1 t G.2.2.1 h t.heap ∧ va_F (fun q => G.2.2.1 ≤ q) st t
def XcN (G : GC) (Qx : String → HP → Prop) : String → State → State → Prop := fun E st t => ∃ h : HP, Qx E h ∧ Rp G.2.1 t G.2.2.1 h t.heap ∧ va_F (fun q => G.2.2.1 ≤ q) st t
def EDz (Z : ZC) (nm : String) (ret : Option FieldType) (mc ms : Nat) (Qn : Option Value → HP → Prop) (Qx : String → HP → Prop) : Prop := match Z with
  | (G, _, _, _, s, _, args, below, meth, _, Q) => meth.name = nm ∧ meth.sig.returnType = ret ∧ Q = vx_MQ below (QcN G Qn) (XcN G Qx) args s mc ms (fun q => G.2.2.1 ≤ q)
def NHz (Z : ZC) : Prop := match Z with
  | (_, _, _, _, _, _, _, _, _, c, _) => ∀ x ∈ c.exceptionTable.toList, False
/-- a method's contract over the abstract heap: called with args on h, it returns with Qn or throws with Qx; at most mc new cells of ms slots -/
def Calls (G : GC) (y : MethodName) (cc : ByteArray) (nL : Nat) (ret : Option FieldType) (fr lc mc ms : Nat) (args : List Value) (h : HP) (Qn : Option Value → HP → Prop) (Qx : String → HP → Prop) : Prop :=
  G.1.stackTraces = false → vx_Met G.1 y [Cond.code y cc nL ret] { frames := fr, cells := mc, slots := ms, locals := lc } (va_Pc args (fun U => Iv G U U.heap ∧ Rp G.2.1 U G.2.2.1 h U.heap)) (QcN G Qn) (XcN G Qx) mc ms (fun q => G.2.2.1 ≤ q)
section
variable {Z : ZC} {pc : Nat} {lv lw : List (Option Value)} {st : List Value} {h : HP} {k n : Nat}
theorem V.sub (hs : lsub lv lw) (kk : V Z pc lw st h k n) : V Z pc lv st h k n := by
  obtain ⟨⟨l, D, lo, b, L, xs⟩, p, e, R, s, m, args, below, meth, c, Q⟩ := Z
  intro H locs ls hR hS hl
  exact kk H locs ls hR hS (hl.sub hs)
theorem V.widen {k' n' : Nat} (h1 : k ≤ k') (h2 : n ≤ n') (kk : V Z pc lv st h k' n') : V Z pc lv st h k n := by
  obtain ⟨⟨l, D, lo, b, L, xs⟩, p, e, R, s, m, args, below, meth, c, Q⟩ := Z
  intro H locs ls hR hS hl
  exact W.widen h1 h2 (kk H locs ls hR hS hl)
theorem VX.widen {E : String} {k' n' : Nat} (h1 : k ≤ k') (h2 : n ≤ n') (kk : VX Z pc lv E h k' n') : VX Z pc lv E h k n := by
  obtain ⟨⟨l, D, lo, b, L, xs⟩, p, e, R, s, m, args, below, meth, c, Q⟩ := Z
  intro H locs ls q ce rest hR hS hl h1' h2' h3'
  exact vx_widen h1 h2 (kk H locs ls q ce rest hR hS hl h1' h2' h3')
end
