/-! THE ABSTRACT HEAP: what lies at an address (an object: number of its class in vwCl and its fields; an array: its type and what it holds); V: the walk of a frame over an abstract heap -/
abbrev ME : Type := (FieldType × vp_A) ⊕ (Nat × List Value)
abbrev HP : Type := Nat → Option ME
def hup (h : HP) (q : Nat) (e : ME) : HP := fun x => if x = q then some e else h x
theorem hup_self (h : HP) (q : Nat) (e : ME) : hup h q e q = some e := by simp [hup]
theorem hup_ne (h : HP) {q x : Nat} (e : ME) (hx : x ≠ q) : hup h q e x = h x := by simp [hup, hx]
/-- the launch, the tables' numbers, from where on the cells are ours, the script's address, length, ints -/
abbrev GC : Type := Launch × va_G × Nat × Nat × Nat × (Nat → Int32)
def Rin (ws : va_W) (tys : List (ClassId × FieldType)) (q : Nat) (e : ME) : Prop := match e with
  | .inl a => ∃ (i j : Nat) (cA : ClassId), ws[i]? = some (q, .inl (cA, a.2)) ∧ tys[j]? = some (cA, a.1)
  | .inr o => ∃ i : Nat, ws[i]? = some (q, .inr o)
def Rp (D : va_G) (s : State) (lo : Nat) (h : HP) (H : Heap) : Prop :=
  ∃ (ws : va_W) (tys : List (ClassId × FieldType)), va_K D vwCl tys s ∧ va_P D vwCl ws H ∧ va_D (fun q => lo ≤ q) ws ∧ ∀ (q : Nat) (e : ME), h q = some e → Rin ws tys q e
theorem Rp.moved {D : va_G} {u U : State} {lo : Nat} {h : HP} {H : Heap} (hvm : u.vm.Alike U.vm) (hr : Rp D u lo h H) : Rp D U lo h H := by
  obtain ⟨ws, tys, hK, r⟩ := hr
  exact ⟨ws, tys, hK.moved hvm, r⟩
theorem Rin.mono {ws : va_W} {tys tys' : List (ClassId × FieldType)} {q : Nat} {e : ME} (x : va_W) (hr : Rin ws tys q e) : Rin (ws ++ x) (tys ++ tys') q e := by
  rcases e with a | o
  · obtain ⟨i, j, cA, h1, h2⟩ := hr
    exact ⟨i, j, cA, by rw [List.getElem?_append_left (List.getElem?_eq_some_iff.mp h1).1]; exact h1, by rw [List.getElem?_append_left (List.getElem?_eq_some_iff.mp h2).1]; exact h2⟩
  · obtain ⟨i, h1⟩ := hr
    exact ⟨i, by rw [List.getElem?_append_left (List.getElem?_eq_some_iff.mp h1).1]; exact h1⟩
/-- one cell is written -/
theorem Rin.set {A : Nat → Prop} {ws : va_W} {tys : List (ClassId × FieldType)} {h : HP} {i q : Nat} {e0 e : va_E} {m : ME} (hD : va_D A ws) (hi : ws[i]? = some (q, e0)) (hm : Rin (ws.set i (q, e)) tys q m) (hr : ∀ (q : Nat) (e : ME), h q = some e → Rin ws tys q e) : ∀ (x : Nat) (y : ME), hup h q m x = some y → Rin (ws.set i (q, e)) tys x y := by
  intro x y hx
  by_cases hxq : x = q
  · subst hxq
    rw [hup_self] at hx
    cases hx
    exact hm
  · rw [hup_ne _ _ hxq] at hx
    have h1 := hr x y hx
    rcases y with a | o
    · obtain ⟨i', j, cA, h1, h2⟩ := h1
      have hne : i ≠ i' := fun z => by subst z; rw [hi] at h1; cases h1; exact hxq rfl
      exact ⟨i', j, cA, by rw [List.getElem?_set_ne hne]; exact h1, h2⟩
    · obtain ⟨i', h1⟩ := h1
      have hne : i ≠ i' := fun z => by subst z; rw [hi] at h1; cases h1; exact hxq rfl
      exact ⟨i', by rw [List.getElem?_set_ne hne]; exact h1⟩
theorem Rin.push {ws : va_W} {tys tys' : List (ClassId × FieldType)} {h : HP} {q : Nat} {e : va_E} {m : ME} (hm : Rin (ws ++ [(q, e)]) (tys ++ tys') q m) (hr : ∀ (q : Nat) (e : ME), h q = some e → Rin ws tys q e) : ∀ (x : Nat) (y : ME), hup h q m x = some y → Rin (ws ++ [(q, e)]) (tys ++ tys') x y := by
  intro x y hx
  by_cases hxq : x = q
  · subst hxq
    rw [hup_self] at hx
    cases hx
    exact hm
  · rw [hup_ne _ _ hxq] at hx
    exact (hr x y hx).mono _
theorem Rin.fresh {A : Nat → Prop} {ws : va_W} {tys : List (ClassId × FieldType)} {h : HP} {q : Nat} {e : va_E} (hD : va_D A (ws ++ [(q, e)])) (hr : ∀ (q : Nat) (e : ME), h q = some e → Rin ws tys q e) : h q = none := by
  cases hx : h q with
  | none => rfl
  | some y =>
    exfalso
    have key : ∀ (i : Nat) (e' : va_E), ws[i]? = some (q, e') → False := by
      intro i e' h1
      have hl := (List.getElem?_eq_some_iff.mp h1).1
      have := hD.1 i ws.length (q, e') (q, e) (by rw [List.getElem?_append_left hl]; exact h1) (by simp) rfl
      omega
    have h1 := hr q y hx
    rcases y with a | o
    · obtain ⟨i, j, cA, h1, -⟩ := h1
      exact key i _ h1
    · obtain ⟨i, h1⟩ := h1
      exact key i _ h1
/-! the tables' words at any state of the run -/
def wk (w : Cond) : Bool := goodWord w || match w with
  | .arrayOver (.object _) => true
  | .declares _ => true
  | .castable _ _ => true
  | .privateMethod _ => true
  | .methodLinkNest _ _ _ _ => true
  | _ => false
theorem wk_move {args a' : Array Value} {s U : State} (hW : s.WarmedH U.vm) {w : Cond} (hk : wk w = true) (h : w.before args s = true) : w.before a' U = true := by
  by_cases hg : goodWord w = true
  · exact word_at hW (good_of_word hg) h
  · have hf : w.faceAtom = true → w.onTables = true → w.before a' U = true := fun h1 h2 => by
      have h3 := Cond.faceAtom_setVm hW.alike w h1 h
      exact va_tabs h2 (rfl : (s.setVm U.vm).vm = U.vm) h3
    unfold wk at hk
    simp only [hg, Bool.false_or] at hk
    cases w with
    | arrayOver ty =>
      cases ty with
      | object C => exact va_AO.use (va_AO.moved hW.alike (va_AO.of (C := C) h))
      | _ => simp at hk
    | declares x => exact hf rfl rfl
    | castable x y => exact hf rfl rfl
    | privateMethod x => exact hf rfl rfl
    | methodLinkNest x1 x2 x3 x4 => exact va_Nw.use rfl (va_Nw.warmM hW (va_Nw.of rfl h))
    | _ => simp at hk
def tbW : List Cond := lw_tbl.filter wk
def TBw (U : State) : Prop := ∀ w ∈ tbW, w.before #[] U = true
theorem TBw.use {s : State} {args : Array Value} (h : TBw s) : ∀ w ∈ tbW, w.before args s = true := fun w hw => wk_move (State.WarmedH.refl s) (List.mem_filter.mp hw).2 (h w hw)
theorem TBw.move {s U : State} (h : TBw s) (hW : s.WarmedH U.vm) : TBw U := fun w hw => wk_move hW (List.mem_filter.mp hw).2 (h w hw)
/-- the texts that the class throws with, by their entries -/
def srl : List (Nat × String) := [(39, "there are 16 names"), (319, "no such name"), (329, "a number is beyond what is allowed"), (78, "there were 20 records"), (159, "there are 8 readers"), (321, "no such record"), (139, "the record is not live, or there were 30 copies"), (325, "no such reader"), (323, "no such copy"), (179, "the reader may not borrow the copy"), (210, "the copy cannot be renewed"), (218, "the copy is not lent"), (249, "the reader has a copy, or waits already"), (260, "the reader does not wait for the record"), (224, "the copy is not lost"), (104, "one record is not live, or they are the same"), (270, "no such place")]
def SRw (U : State) : Prop := ∀ q ∈ srl, ∃ a : Nat, vk_R RX5 q.1 q.2 a U
theorem SRw.move {s U : State} (h : SRw s) (hW : s.WarmedH U.vm) : SRw U := fun q hq => by
  obtain ⟨a, ha⟩ := h q hq
  exact ⟨a, ha.warm hW⟩
def ZQw (lo : Nat) (U : State) (H : Heap) : Prop := vx_Zq Bundle.tN "UNASSIGNED_STACK" Bundle.steD (fun q => lo ≤ q) U H ∧ vx_Zq Bundle.tN "SUPPRESSED_SENTINEL" Bundle.listD (fun q => lo ≤ q) U H
def eIO : String := "java/lang/IndexOutOfBoundsException"
def eIA : String := "java/lang/IllegalArgumentException"
def eIS : String := "java/lang/IllegalStateException"
def NCw (U : State) : Prop := va_Nc eIA eIO U ∧ va_Nc eIS eIO U ∧ va_Nc eIS eIA U
theorem NCw.move {s U : State} (h : NCw s) (hW : s.WarmedH U.vm) : NCw U := ⟨h.1.moved hW.alike, h.2.1.moved hW.alike, h.2.2.moved hW.alike⟩
/-- what holds at every state of the run -/
def Iv (G : GC) (U : State) (H : Heap) : Prop := match G with
  | (_, _, lo, b, L, xs) => TBw U ∧ SRw U ∧ ZQw lo U H ∧ NCw U ∧ lo ≤ H.size ∧ b < lo ∧ va_X b L xs U H
theorem Iv.move {G : GC} {s U : State} {H H1 : Heap} (h : Iv G s H) (hW : s.WarmedH U.vm) (hz : H.size ≤ H1.size) (hq : ∀ q : Nat, q < H.size → ¬ G.2.2.1 ≤ q → H1[q]? = H[q]?) : Iv G U H1 := by
  obtain ⟨l, D, lo, b, L, xs⟩ := G
  obtain ⟨h1, h2, h3, h4, h5, h6, h7⟩ := h
  exact ⟨h1.move hW, h2.move hW, ⟨(h3.1.kept hq).moved hW.alike, (h3.2.kept hq).moved hW.alike⟩, h4.move hW, Nat.le_trans h5 hz, h6, (h7.kept (hq b (Nat.lt_of_lt_of_le h6 h5) (Nat.not_le.mpr h6))).moved hW.alike⟩
