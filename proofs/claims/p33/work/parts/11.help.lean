/-! entries, calls that only answer -/
theorem lv0_1 (vs : List Value) (k : Nat) (hc : ∀ v ∈ vs, v.category = 1) : ∀ (b : Nat) (i : Nat) (v : Value), (vs.map some ++ List.replicate k none)[i]? = some (some v) → (b + i, v) ∈ lv_args b vs := by
  induction vs with
  | nil =>
    intro b i v h
    simp only [List.map_nil, List.nil_append] at h
    have := List.getElem?_eq_some_iff.mp h
    obtain ⟨h1, h2⟩ := this
    simp at h2
  | cons a vs ih =>
    intro b i v h
    have ha : a.category = 1 := hc a List.mem_cons_self
    cases i with
    | zero =>
      simp at h
      subst h
      simp [lv_args]
    | succ i =>
      have h2 := ih (fun v hv => hc v (List.mem_cons_of_mem _ hv)) (b + 1) i v (by simpa using h)
      have h3 : b + (i + 1) = b + 1 + i := by omega
      rw [h3]
      simp only [lv_args, ha]
      simp only [List.mem_cons]
      exact Or.inr h2
theorem lg_sl_1 (vs : List Value) (hc : ∀ v ∈ vs, v.category = 1) : (lg_sl vs).length = vs.length := by
  induction vs with
  | nil => rfl
  | cons a vs ih =>
    have ha : a.category = 1 := hc a List.mem_cons_self
    have := ih (fun v hv => hc v (List.mem_cons_of_mem _ hv))
    simp only [lg_sl, List.flatMap_cons, ha] at this ⊢
    simp [this]
section
variable {Z : ZC} {pc : Nat} {lv : List (Option Value)} {st rest : List Value} {h : HP} {k n : Nat} {own : String} {cc : ByteArray} {nL fr lc mc ms : Nat}
variable {nm : String} {ret : Option FieldType} {Qn : Option Value → HP → Prop} {Qx : String → HP → Prop}
theorem Calls_of1 {G : GC} {y : MethodName} {args : List Value} (hy : plainName y.cls = true) (hc : ∀ v ∈ args, v.category = 1) (hlen : args.length ≤ nL) {lv0 : List (Option Value)} (hlv : lv0 = args.map some ++ List.replicate (nL - args.length) none)
    (body : ∀ Z : ZC, Z.1 = G → OKz Z y.cls cc nL fr lc mc ms → EDz Z y.name ret mc ms Qn Qx → NHz Z → V Z 0 lv0 [] h 0 0) : Calls G y cc nL ret fr lc mc ms args h Qn Qx :=
  Calls_of (fr' := 0) (lc' := 0) hy (by rw [lg_sl_1 _ hc]; exact hlen) (fun i v hi => by have := lv0_1 args _ hc 0 i v (by rw [← hlv]; exact hi); rwa [Nat.zero_add] at this) body
/-- answers v, changes nothing, throws nothing -/
def qV (v : Value) (h : HP) : Option Value → HP → Prop := fun r h' => r = some v ∧ h' = h
def qX : String → HP → Prop := fun _ _ => False
theorem V_invVp (hZ : OKz Z own cc nL fr lc mc ms) {idx b a ci : Nat} {y : MethodName} {bytes : ByteArray} {maxL fr' lc' : Nat} {ret' : Option FieldType} {As vs : List Value} {r : vw_C} {v : Value}
    (hm : MEv y bytes maxL ret' a) (hi : MIv y) (hlk0 : Cond.methodLink own idx y ∈ tbW) (hcal : Calls Z.1 y bytes maxL ret' fr' lc' 0 0 (.ref b :: As) h (qV v h) qX)
    (hd : decode cc pc = .ok (.invokevirtual idx, 3)) (hst0 : st = As.reverse ++ .ref b :: rest) (hn : As.length = a) (hc : h b = some (.inr (ci, vs))) (hci : vwCl[ci]? = some r) (hr1 : r.1 = y.cls)
    (hfr : fr' + 1 ≤ fr ∧ 8 + (maxL + 11) + lc' ≤ lc) (hcat : (rest.map fun v => v.category).sum ≤ 8) (hk : k ≤ mc ∧ n ≤ ms)
    (kk : V Z (pc + 3) lv (v :: rest) h k n) : V Z pc lv st h k n := by
  refine V_invV hZ hm hi hlk0 hcal hd hst0 hn hc hci hr1 hfr hcat hk (fun E h' hq => hq.elim) ?_
  rintro _ _ ⟨rfl, rfl⟩
  exact kk
theorem V_invSp (hZ : OKz Z own cc nL fr lc mc ms) {idx a : Nat} {y : MethodName} {bytes : ByteArray} {maxL fr' lc' : Nat} {ret' : Option FieldType} {As : List Value} {v : Value}
    (hm : MEv y bytes maxL ret' a) (hi : Cond.static y ∈ tbW) (hlk0 : Cond.methodLink own idx y ∈ tbW) (hcal : Calls Z.1 y bytes maxL ret' fr' lc' 0 0 As h (qV v h) qX)
    (hd : decode cc pc = .ok (.invokestatic idx, 3)) (hst0 : st = As.reverse ++ rest) (hn : As.length = a)
    (hfr : fr' + 1 ≤ fr ∧ 8 + (maxL + 11) + lc' ≤ lc) (hcat : (rest.map fun v => v.category).sum ≤ 8) (hk : k ≤ mc ∧ n ≤ ms)
    (kk : V Z (pc + 3) lv (v :: rest) h k n) : V Z pc lv st h k n := by
  refine V_invS hZ hm hi hlk0 hcal hd hst0 hn hfr hcat hk (fun E h' hq => hq.elim) ?_
  rintro _ _ ⟨rfl, rfl⟩
  exact kk
theorem Calls.mono {G : GC} {y : MethodName} {args : List Value} {Qn' : Option Value → HP → Prop} {Qx' : String → HP → Prop} (hcal : Calls G y cc nL ret fr lc mc ms args h Qn Qx) (h1 : ∀ v h', Qn v h' → Qn' v h') (h2 : ∀ E h', Qx E h' → Qx' E h') : Calls G y cc nL ret fr lc mc ms args h Qn' Qx' := by
  intro hst
  have hM := hcal hst
  intro p e ha hc hk s m args' below hf happ hP hK
  obtain ⟨kk, o, a1, a2, a3, hQ⟩ := hM p e ha hc hk s m args' below hf happ hP hK
  refine ⟨kk, o, a1, a2, a3, ?_⟩
  rcases hQ with ⟨⟨v, h', b1, b2, b3⟩, b4⟩ | ⟨q, b1, E, ce, L, ⟨h', c1, c2⟩, c3⟩
  · exact Or.inl ⟨⟨v, h', b1, h1 _ _ b2, b3⟩, b4⟩
  · exact Or.inr ⟨q, b1, E, ce, L, ⟨h', h2 _ _ c1, c2⟩, c3⟩
end
theorem nI_inc (c : Nat) : nI c + Int32.ofInt 1 = nI (c + 1) := nI_add c 1
section
variable {Z : ZC} {pc : Nat} {lv lw : List (Option Value)} {st rest : List Value} {h : HP} {k n : Nat} {own : String} {cc : ByteArray} {nL fr lc mc ms : Nat}
theorem V.lvc (hlv : lv = lw) (kk : V Z pc lw st h k n) : V Z pc lv st h k n := by
  rw [hlv]; exact kk
theorem V.stc {st' : List Value} (hst : st = st') (kk : V Z pc lv st' h k n) : V Z pc lv st h k n := by
  rw [hst]; exact kk
theorem V_iincv (hZ : OKz Z own cc nL fr lc mc ms) {j : Nat} {i : Int} {x y : Int32} (hd : decode cc pc = .ok (.iinc j i, 3)) (hl0 : lv[j]? = some (some (.int x))) (hj : j < nL) (ho : okp lv j = true) (hy : x + Int32.ofInt i = y) (kk : V Z (pc + 3) (lv.set j (some (.int y))) st h k n) : V Z pc lv st h k n := by
  subst hy
  exact V_iinc hZ hd hl0 hj ho kk
theorem V_alenR (hZ : OKz Z own cc nL fr lc mc ms) {q N : Nat} {C : String} {f : Nat → Option Nat} (hd : decode cc pc = .ok (.arraylength, 1)) (hc : h q = some (aR C N f)) (kk : V Z (pc + 1) lv (.int (nI N) :: st) h k n) : V Z pc lv (.ref q :: st) h k n := V_alen hZ hd hc kk
theorem V_ifnullR (hZ : OKz Z own cc nL fr lc mc ms) {q : Nat} {off : Int} (hd : decode cc pc = .ok (.ifnull off, 3)) (kk : V Z (pc + 3) lv st h k n) : V Z pc lv (.ref q :: st) h k n := by
  obtain ⟨⟨l, D, lo, b, L, xs⟩, p, e, R, s, m, args, below, meth, c, Q⟩ := Z
  obtain ⟨hx, hb, -⟩ := hZ
  intro H locs ls hR hS hl
  exact lv_ifnull hx hb hd (kk H locs ls hR hS hl)
theorem V_ifnullN (hZ : OKz Z own cc nL fr lc mc ms) {off : Int} {tgt : Nat} (hd : decode cc pc = .ok (.ifnull off, 3)) (ht : (pc : Int) + off = (tgt : Int)) (kk : V Z tgt lv st h k n) : V Z pc lv (.null :: st) h k n := by
  obtain ⟨⟨l, D, lo, b, L, xs⟩, p, e, R, s, m, args, below, meth, c, Q⟩ := Z
  obtain ⟨hx, hb, -⟩ := hZ
  intro H locs ls hR hS hl
  exact lv_ifnullN hx hb hd ht (kk H locs ls hR hS hl)
theorem V_ifnonnullR (hZ : OKz Z own cc nL fr lc mc ms) {q : Nat} {off : Int} {tgt : Nat} (hd : decode cc pc = .ok (.ifnonnull off, 3)) (ht : (pc : Int) + off = (tgt : Int)) (kk : V Z tgt lv st h k n) : V Z pc lv (.ref q :: st) h k n := by
  obtain ⟨⟨l, D, lo, b, L, xs⟩, p, e, R, s, m, args, below, meth, c, Q⟩ := Z
  obtain ⟨hx, hb, -⟩ := hZ
  intro H locs ls hR hS hl
  exact lv_ifnonnull hx hb hd ht (kk H locs ls hR hS hl)
theorem V_ifnonnullN (hZ : OKz Z own cc nL fr lc mc ms) {off : Int} (hd : decode cc pc = .ok (.ifnonnull off, 3)) (kk : V Z (pc + 3) lv st h k n) : V Z pc lv (.null :: st) h k n := by
  obtain ⟨⟨l, D, lo, b, L, xs⟩, p, e, R, s, m, args, below, meth, c, Q⟩ := Z
  obtain ⟨hx, hb, -⟩ := hZ
  intro H locs ls hR hS hl
  exact lv_ifnonnullN hx hb hd (kk H locs ls hR hS hl)
end
