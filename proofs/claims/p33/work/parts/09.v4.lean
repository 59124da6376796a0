/-! rows of V: ends, calls, throws, the entry -/
/-- what the tables say of a method -/
def MEv (y : MethodName) (bytes : ByteArray) (maxL : Nat) (ret : Option FieldType) (a : Nat) : Prop :=
  Cond.code y bytes maxL ret ∈ tbW ∧ Cond.initialized y.cls ∈ tbW ∧ y.cls ≠ "java/lang/invoke/MethodHandle" ∧ y.cls ≠ "java/lang/invoke/VarHandle" ∧ (parseMethodDescriptor y.desc).map (fun d => d.parameters.length) = some a
def MIv (y : MethodName) : Prop := Cond.instanceMethod y ∈ tbW ∧ Cond.selects y.cls y y ∈ tbW
/-- what the tables say of a throw -/
def TWv (own : String) (ik is ic : Nat) (E : String) : Prop :=
  own = RX5 ∧ (∃ tx : String, (is, tx) ∈ srl) ∧ Cond.classLink own ik E ∈ tbW ∧ Cond.initialized E ∈ tbW ∧ (∀ w ∈ vx_atS own ic E ["java/lang/RuntimeException", "java/lang/Exception"], w ∈ tbW) ∧ Bundle.fit E = true ∧ ∀ w ∈ vx_atS own ic E ["java/lang/RuntimeException", "java/lang/Exception"], vx_ot w = true
section
variable {Z : ZC} {pc : Nat} {lv : List (Option Value)} {st rest : List Value} {h : HP} {k n : Nat} {own : String} {cc : ByteArray} {nL fr lc mc ms : Nat}
variable {nm : String} {ret : Option FieldType} {Qn : Option Value → HP → Prop} {Qx : String → HP → Prop}
theorem V_iret (hZ : OKz Z own cc nL fr lc mc ms) (hE : EDz Z nm ret mc ms Qn Qx) {ty : FieldType} {v : Int32} (hr : ret = some ty) (hn : narrow ty (.int v) = .int v) (hd : decode cc pc = .ok (.ireturn, 1)) (hk1 : k ≤ mc) (hn1 : n ≤ ms) (hq : Qn (some (.int v)) h) : V Z pc lv [.int v] h k n := by
  obtain ⟨⟨l, D, lo, b, L, xs⟩, p, e, R, s, m, args, below, meth, c, Q⟩ := Z
  obtain ⟨hx, hb, hml, hown, hI, hlk, hst, hR0⟩ := hZ
  obtain ⟨-, hret, rfl⟩ := hE
  intro H locs ls hR hS hl
  exact W.widen hk1 hn1 (vx_ret (W.zret hx hb (hret.trans hr) hn (fun t ht hW => ⟨_, h, rfl, hq, by rw [ht]; exact hR.moved hW.alike, hS.F ht⟩) hS.2.2 hd hlk))
theorem V_lret (hZ : OKz Z own cc nL fr lc mc ms) (hE : EDz Z nm ret mc ms Qn Qx) {v : Int64} (hr : ret = some .long) (hd : decode cc pc = .ok (.lreturn, 1)) (hk1 : k ≤ mc) (hn1 : n ≤ ms) (hq : Qn (some (.long v)) h) : V Z pc lv [.long v] h k n := by
  obtain ⟨⟨l, D, lo, b, L, xs⟩, p, e, R, s, m, args, below, meth, c, Q⟩ := Z
  obtain ⟨hx, hb, hml, hown, hI, hlk, hst, hR0⟩ := hZ
  obtain ⟨-, hret, rfl⟩ := hE
  intro H locs ls hR hS hl
  exact W.widen hk1 hn1 (vx_ret (W.lret hx hb (hret.trans hr) (fun t ht hW => ⟨_, h, rfl, hq, by rw [ht]; exact hR.moved hW.alike, hS.F ht⟩) hS.2.2 hd hlk))
theorem V_dret (hZ : OKz Z own cc nL fr lc mc ms) (hE : EDz Z nm ret mc ms Qn Qx) {v : UInt64} (hr : ret = some .double) (hd : decode cc pc = .ok (.dreturn, 1)) (hk1 : k ≤ mc) (hn1 : n ≤ ms) (hq : Qn (some (.double v)) h) : V Z pc lv [.double v] h k n := by
  obtain ⟨⟨l, D, lo, b, L, xs⟩, p, e, R, s, m, args, below, meth, c, Q⟩ := Z
  obtain ⟨hx, hb, hml, hown, hI, hlk, hst, hR0⟩ := hZ
  obtain ⟨-, hret, rfl⟩ := hE
  intro H locs ls hR hS hl
  exact W.widen hk1 hn1 (vx_ret (W.dret hx hb (hret.trans hr) (fun t ht hW => ⟨_, h, rfl, hq, by rw [ht]; exact hR.moved hW.alike, hS.F ht⟩) hS.2.2 hd hlk))
theorem V_vret (hZ : OKz Z own cc nL fr lc mc ms) (hE : EDz Z nm ret mc ms Qn Qx) (hr : ret = none) (hd : decode cc pc = .ok (.return_, 1)) (hk1 : k ≤ mc) (hn1 : n ≤ ms) (hq : Qn none h) : V Z pc lv [] h k n := by
  obtain ⟨⟨l, D, lo, b, L, xs⟩, p, e, R, s, m, args, below, meth, c, Q⟩ := Z
  obtain ⟨hx, hb, hml, hown, hI, hlk, hst, hR0⟩ := hZ
  obtain ⟨-, hret, rfl⟩ := hE
  intro H locs ls hR hS hl
  exact W.widen hk1 hn1 (vx_ret (W.vret hx hb (hret.trans hr) (fun t ht hW => ⟨_, h, rfl, hq, by rw [ht]; exact hR.moved hW.alike, hS.F ht⟩) hS.2.2 hd hlk))
theorem V_aret (hZ : OKz Z own cc nL fr lc mc ms) (hE : EDz Z nm ret mc ms Qn Qx) {C : String} {v : Value} (hr : ret = some (.object C)) (hv : isR v = true) (hd : decode cc pc = .ok (.areturn, 1)) (hk1 : k ≤ mc) (hn1 : n ≤ ms) (hq : Qn (some v) h) : V Z pc lv [v] h k n := by
  obtain ⟨⟨l, D, lo, b, L, xs⟩, p, e, R, s, m, args, below, meth, c, Q⟩ := Z
  obtain ⟨hx, hb, hml, hown, hI, hlk, hst, hR0⟩ := hZ
  obtain ⟨-, hret, rfl⟩ := hE
  intro H locs ls hR hS hl
  exact W.widen hk1 hn1 (vx_ret (W.aret hx hb (hret.trans hr) (Or.inl ⟨_, rfl⟩) (isR_cases hv) (fun t ht hW => ⟨_, h, rfl, hq, by rw [ht]; exact hR.moved hW.alike, hS.F ht⟩) hS.2.2 hd hlk))
/-- thrown through a method without handlers -/
theorem VX_out (hZ : OKz Z own cc nL fr lc mc ms) (hE : EDz Z nm ret mc ms Qn Qx) (hN : NHz Z) {E : String} (hk1 : k ≤ mc) (hn1 : n ≤ ms) (hq : Qx E h) : VX Z pc lv E h k n := by
  obtain ⟨⟨l, D, lo, b, L, xs⟩, p, e, R, s, m, args, below, meth, c, Q⟩ := Z
  obtain ⟨hx, hb, hml, hown, hI, hlk, hst, hR0⟩ := hZ
  obtain ⟨-, hret, rfl⟩ := hE
  intro H locs ls q ce rest hR hS hl h1 h2 h3
  exact vx_out (fun x hx => (hN x hx).elim) hlk h1 h2 h3 (fun t ht hvm => ⟨h, hq, by rw [ht]; exact hR.moved hvm, hS.F ht⟩) hS.2.2 hk1 hn1
theorem blind (G : GC) (av : List Value) (h : HP) : FrameBlind (va_Pc av (fun U => Iv G U U.heap ∧ Rp G.2.1 U G.2.2.1 h U.heap)) := by
  intro a U g mk ⟨h1, h2, h3⟩
  exact ⟨h1, h2.move (U := U.calling g mk a) (State.WarmedH.refl U) (Nat.le_refl _) (fun _ _ _ => rfl), Rp.moved (U := U.calling g mk a) (Vm.Alike.refl U.vm) h3⟩
theorem Iv_at {G : GC} {s U : State} {H : Heap} {locs : List Loc} (hI : Iv G s s.heap) (hS : va_S (fun q => G.2.2.1 ≤ q) s.heap H locs) (hU : U.heap = H) (hW : s.WarmedH U.vm) : Iv G U U.heap := by
  rw [hU]
  exact hI.move hW hS.1 hS.2.1
/-- behind a run: both ends -/
theorem V_after {l : Launch} {D : va_G} {lo b L : Nat} {xs : Nat → Int32} {p : Program} {e : Env} {R : Room} {s : State} {m : MethodId} {args : Array Value} {below : List Frame} {meth : Method} {c : Code} {Q : State → Prop} {mc' ms' : Nat} {Qn' : Option Value → HP → Prop} {Qx' : String → HP → Prop} {a : Array Value} {st0 : List Value} {H : Heap} {locs : List Loc} {ls : Array Slot}
    (hS : va_S (fun q => lo ≤ q) s.heap H locs) (hl : lH ls c.maxLocals lv)
    (run : vx_Run p l e R s m args below meth c H locs k n mc' ms' (F0 m pc ls st0) rest (QcN (l, D, lo, b, L, xs) Qn' a) (XcN (l, D, lo, b, L, xs) Qx') (fun q => lo ≤ q))
    (kn : ∀ (v : Option Value) (h' : HP), Qn' v h' → V ((l, D, lo, b, L, xs), p, e, R, s, m, args, below, meth, c, Q) (pc + 3) lv (v.toList ++ rest) h' (k + mc') (n + ms'))
    (kx : ∀ (E : String) (h' : HP), Qx' E h' → VX ((l, D, lo, b, L, xs), p, e, R, s, m, args, below, meth, c, Q) pc lv E h' (k + mc') (n + ms')) : W p l e R s m args below meth c H locs k n Q (F0 m pc ls st0) := by
  intro T hT X
  rcases run T hT X with ⟨v, st₀, t, T', L', h0, X', hL, e1, e2, ⟨v2, h', ho, hq, hRt, hF⟩, stp⟩ | ⟨q, st₀, t, T', L', E, ce, h0, X', hL, e1, e2, ⟨h', hq, hRt, hF⟩, hce, hcv, hcl, stp⟩
  · cases ho
    obtain ⟨k1, k2, k3⟩ := vx_keep (A0 := fun q => lo ≤ q) (free := fun q => lo ≤ q) h0 e1 hS (fun q _ h => h) (fun q h => h) hL hF
    obtain ⟨t2, a1, b1⟩ := kn v h' hq T'.heap (locs ++ L') ls (by rw [e1]; exact hRt.moved (by rw [← e2]; exact X'.warmed.alike.symm)) k3 hl T' rfl X'
    exact ⟨t2, stp t2 a1, b1⟩
  · obtain ⟨k1, k2, k3⟩ := vx_keep (A0 := fun q => lo ≤ q) (free := fun q => lo ≤ q) h0 e1 hS (fun q _ h => h) (fun q h => h) hL hF
    obtain ⟨t2, a1, b1⟩ := kx E h' hq T'.heap (locs ++ L') ls q ce rest (by rw [e1]; exact hRt.moved (by rw [← e2]; exact X'.warmed.alike.symm)) k3 hl (by rw [e1]; exact hce) hcv hcl T' rfl X'
    exact ⟨t2, stp.trans a1, b1⟩
theorem good_code {y : MethodName} {bytes : ByteArray} {maxL : Nat} {ret : Option FieldType} : goodWord (Cond.code y bytes maxL ret) = true := rfl
theorem V_invV (hZ : OKz Z own cc nL fr lc mc ms) {idx b a ci : Nat} {y : MethodName} {bytes : ByteArray} {maxL fr' lc' mc' ms' : Nat} {ret' : Option FieldType} {As vs : List Value} {r : vw_C} {Qn' : Option Value → HP → Prop} {Qx' : String → HP → Prop}
    (hm : MEv y bytes maxL ret' a) (hi : MIv y) (hlk0 : Cond.methodLink own idx y ∈ tbW) (hcal : Calls Z.1 y bytes maxL ret' fr' lc' mc' ms' (.ref b :: As) h Qn' Qx')
    (hd : decode cc pc = .ok (.invokevirtual idx, 3)) (hst0 : st = As.reverse ++ .ref b :: rest) (hn : As.length = a) (hc : h b = some (.inr (ci, vs))) (hci : vwCl[ci]? = some r) (hr1 : r.1 = y.cls)
    (hfr : fr' + 1 ≤ fr ∧ 8 + (maxL + 11) + lc' ≤ lc) (hcat : (rest.map fun v => v.category).sum ≤ 8) (hk : k + mc' ≤ mc ∧ n + ms' ≤ ms)
    (kx : ∀ (E : String) (h' : HP), Qx' E h' → VX Z pc lv E h' (k + mc') (n + ms'))
    (kn : ∀ (v : Option Value) (h' : HP), Qn' v h' → V Z (pc + 3) lv (v.toList ++ rest) h' (k + mc') (n + ms')) : V Z pc lv st h k n := by
  obtain ⟨⟨l, D, lo, b0, L, xs⟩, p, e, R, s, m, args, below, meth, c, Q⟩ := Z
  obtain ⟨hx, hb, hml, hown, hI, hlk, hst, rfl⟩ := hZ
  obtain ⟨w1, w2, w3, w4, w5⟩ := hm
  have hts := hI.1.use (args := args)
  have hM := hcal hst
  subst hst0
  intro H locs ls hR hS hl
  obtain ⟨ws, tys, hK, hP, hD, hr⟩ := id hR
  obtain ⟨i, hi'⟩ := hr b _ hc
  have hrecv := va_recv hK hP hci hi'
  rw [hr1] at hrecv
  have cb := callB_of (R := { frames := fr, cells := mc, slots := ms, locals := lc }) (rm := { frames := fr', cells := mc', slots := ms', locals := lc' }) (ws := [Cond.code y bytes maxL ret']) (mc := mc') (ms := ms') (own := own) (index := idx) a hts (fun w hw => by rw [List.mem_singleton.mp hw]; exact ⟨w1, good_of_word good_code⟩) rfl rfl rfl (hts _ w2) (hts _ hlk0) ⟨w3, w4, w5⟩ hfr
  refine V_after (D := D) (b := b0) (L := L) (xs := xs) hS hl (vx_runV (As := As) (rest := rest) ⟨hx, hb, hml, hown, hts⟩ hM ⟨cb, hts _ hi.1, hts _ hi.2⟩ ⟨blind _ _ _, hrecv, fun U hU hW => ⟨rfl, Iv_at (G := (l, D, lo, b0, L, xs)) hI hS hU hW, by rw [hU]; exact hR.moved hW.alike⟩⟩ rfl hn (hl.1.trans hml) rfl (lv_room hcat) hd hk) kn kx
theorem V_invS (hZ : OKz Z own cc nL fr lc mc ms) {idx a : Nat} {y : MethodName} {bytes : ByteArray} {maxL fr' lc' mc' ms' : Nat} {ret' : Option FieldType} {As : List Value} {Qn' : Option Value → HP → Prop} {Qx' : String → HP → Prop}
    (hm : MEv y bytes maxL ret' a) (hi : Cond.static y ∈ tbW) (hlk0 : Cond.methodLink own idx y ∈ tbW) (hcal : Calls Z.1 y bytes maxL ret' fr' lc' mc' ms' As h Qn' Qx')
    (hd : decode cc pc = .ok (.invokestatic idx, 3)) (hst0 : st = As.reverse ++ rest) (hn : As.length = a)
    (hfr : fr' + 1 ≤ fr ∧ 8 + (maxL + 11) + lc' ≤ lc) (hcat : (rest.map fun v => v.category).sum ≤ 8) (hk : k + mc' ≤ mc ∧ n + ms' ≤ ms)
    (kx : ∀ (E : String) (h' : HP), Qx' E h' → VX Z pc lv E h' (k + mc') (n + ms'))
    (kn : ∀ (v : Option Value) (h' : HP), Qn' v h' → V Z (pc + 3) lv (v.toList ++ rest) h' (k + mc') (n + ms')) : V Z pc lv st h k n := by
  obtain ⟨⟨l, D, lo, b0, L, xs⟩, p, e, R, s, m, args, below, meth, c, Q⟩ := Z
  obtain ⟨hx, hb, hml, hown, hI, hlk, hst, rfl⟩ := hZ
  obtain ⟨w1, w2, w3, w4, w5⟩ := hm
  have hts := hI.1.use (args := args)
  have hM := hcal hst
  subst hst0
  intro H locs ls hR hS hl
  have cb := callB_of (R := { frames := fr, cells := mc, slots := ms, locals := lc }) (rm := { frames := fr', cells := mc', slots := ms', locals := lc' }) (ws := [Cond.code y bytes maxL ret']) (mc := mc') (ms := ms') (own := own) (index := idx) a hts (fun w hw => by rw [List.mem_singleton.mp hw]; exact ⟨w1, good_of_word good_code⟩) rfl rfl rfl (hts _ w2) (hts _ hlk0) ⟨w3, w4, w5⟩ hfr
  refine V_after (D := D) (b := b0) (L := L) (xs := xs) hS hl (vx_runS (As := As) (rest := rest) ⟨hx, hb, hml, hown, hts⟩ hM ⟨cb, hts _ hi⟩ ⟨blind _ _ _, fun U hU hW => ⟨rfl, Iv_at (G := (l, D, lo, b0, L, xs)) hI hS hU hW, by rw [hU]; exact hR.moved hW.alike⟩⟩ rfl hn (hl.1.trans hml) rfl (lv_room hcat) hd hk) kn kx
theorem V_invI (hZ : OKz Z own cc nL fr lc mc ms) {idx a b : Nat} {y : MethodName} {bytes : ByteArray} {maxL fr' lc' mc' ms' : Nat} {As : List Value} {Qn' : Option Value → HP → Prop} {Qx' : String → HP → Prop}
    (hm : MEv y bytes maxL none a) (hi : Cond.instanceMethod y ∈ tbW) (hnm : y.name = "<init>") (hlk0 : Cond.methodLink own idx y ∈ tbW) (hcal : Calls Z.1 y bytes maxL none fr' lc' mc' ms' (.ref b :: As) h Qn' Qx')
    (hd : decode cc pc = .ok (.invokespecial idx, 3)) (hst0 : st = As.reverse ++ .ref b :: rest) (hn : As.length = a)
    (hfr : fr' + 1 ≤ fr ∧ 8 + (maxL + 11) + lc' ≤ lc) (hcat : (rest.map fun v => v.category).sum ≤ 8) (hk : k + mc' ≤ mc ∧ n + ms' ≤ ms)
    (kx : ∀ (E : String) (h' : HP), Qx' E h' → VX Z pc lv E h' (k + mc') (n + ms'))
    (kn : ∀ (v : Option Value) (h' : HP), Qn' v h' → V Z (pc + 3) lv (v.toList ++ rest) h' (k + mc') (n + ms')) : V Z pc lv st h k n := by
  obtain ⟨⟨l, D, lo, b0, L, xs⟩, p, e, R, s, m, args, below, meth, c, Q⟩ := Z
  obtain ⟨hx, hb, hml, hown, hI, hlk, hst, rfl⟩ := hZ
  obtain ⟨w1, w2, w3, w4, w5⟩ := hm
  have hts := hI.1.use (args := args)
  have hM := hcal hst
  subst hst0
  intro H locs ls hR hS hl
  have cb := callB_of (R := { frames := fr, cells := mc, slots := ms, locals := lc }) (rm := { frames := fr', cells := mc', slots := ms', locals := lc' }) (ws := [Cond.code y bytes maxL none]) (mc := mc') (ms := ms') (own := own) (index := idx) a hts (fun w hw => by rw [List.mem_singleton.mp hw]; exact ⟨w1, good_of_word good_code⟩) rfl rfl rfl (hts _ w2) (hts _ hlk0) ⟨w3, w4, w5⟩ hfr
  refine V_after (D := D) (b := b0) (L := L) (xs := xs) hS hl (vx_runI (As := As) (rest := rest) ⟨hx, hb, hml, hown, hts⟩ hM ⟨cb, hnm, hts _ hi⟩ ⟨blind _ _ _, fun U hU hW => ⟨rfl, Iv_at (G := (l, D, lo, b0, L, xs)) hI hS hU hW, by rw [hU]; exact hR.moved hW.alike⟩⟩ rfl hn (hl.1.trans hml) rfl (lv_room hcat) hd hk) kn kx
theorem V_invIN (hZ : OKz Z own cc nL fr lc mc ms) {idx a b : Nat} {host : String} {y : MethodName} {bytes : ByteArray} {maxL fr' lc' mc' ms' : Nat} {As : List Value} {Qn' : Option Value → HP → Prop} {Qx' : String → HP → Prop}
    (hm : MEv y bytes maxL none a) (hi : Cond.instanceMethod y ∈ tbW) (hnm : y.name = "<init>") (hlk0 : Cond.methodLinkNest own idx y host ∈ tbW) (hcal : Calls Z.1 y bytes maxL none fr' lc' mc' ms' (.ref b :: As) h Qn' Qx')
    (hd : decode cc pc = .ok (.invokespecial idx, 3)) (hst0 : st = As.reverse ++ .ref b :: rest) (hn : As.length = a)
    (hfr : fr' + 1 ≤ fr ∧ 8 + (maxL + 11) + lc' ≤ lc) (hcat : (rest.map fun v => v.category).sum ≤ 8) (hk : k + mc' ≤ mc ∧ n + ms' ≤ ms)
    (kx : ∀ (E : String) (h' : HP), Qx' E h' → VX Z pc lv E h' (k + mc') (n + ms'))
    (kn : ∀ (v : Option Value) (h' : HP), Qn' v h' → V Z (pc + 3) lv (v.toList ++ rest) h' (k + mc') (n + ms')) : V Z pc lv st h k n := by
  obtain ⟨⟨l, D, lo, b0, L, xs⟩, p, e, R, s, m, args, below, meth, c, Q⟩ := Z
  obtain ⟨hx, hb, hml, hown, hI, hlk, hst, rfl⟩ := hZ
  obtain ⟨w1, w2, w3, w4, w5⟩ := hm
  have hts := hI.1.use (args := args)
  have hM := hcal hst
  subst hst0
  intro H locs ls hR hS hl
  have cb := va_cnB (R := { frames := fr, cells := mc, slots := ms, locals := lc }) (rm := { frames := fr', cells := mc', slots := ms', locals := lc' }) (ws := [Cond.code y bytes maxL none]) (mc := mc') (ms := ms') (own := own) (host := host) (index := idx) a hts (fun w hw => by rw [List.mem_singleton.mp hw]; exact ⟨w1, good_of_word good_code⟩) rfl rfl rfl (hI.1 _ hlk0) (hts _ w2) ⟨w3, w4, w5⟩ hfr
  refine V_after (D := D) (b := b0) (L := L) (xs := xs) hS hl (vx_runIN (As := As) (rest := rest) ⟨hx, hb, hml, hown, hts⟩ hM ⟨cb, hnm, hts _ hi⟩ ⟨blind _ _ _, fun U hU hW => ⟨rfl, Iv_at (G := (l, D, lo, b0, L, xs)) hI hS hU hW, by rw [hU]; exact hR.moved hW.alike⟩⟩ rfl hn (hl.1.trans hml) rfl (lv_room hcat) hd hk) kn kx
theorem V_objInit (hZ : OKz Z own cc nL fr lc mc ms) {idx q : Nat} (h1 : Cond.methodLink own idx objectInit ∈ tbW) (h2 : Cond.instanceMethod objectInit ∈ tbW) (h3 : Cond.code objectInit ⟨#[0xb1]⟩ 1 none ∈ tbW) (hd : decode cc pc = .ok (.invokespecial idx, 3)) (hfr : 1 ≤ fr) (hlc : (st.map fun v => v.category).sum + 12 ≤ lc) (kk : V Z (pc + 3) lv st h k n) : V Z pc lv (.ref q :: st) h k n := by
  obtain ⟨⟨l, D, lo, b, L, xs⟩, p, e, R, s, m, args, below, meth, c, Q⟩ := Z
  obtain ⟨hx, hb, hml, hown, hI, hlk, hst, rfl⟩ := hZ
  intro H locs ls hR hS hl
  exact W.objInit hx hb hown (hI.1.use _ h1) (hI.1.use _ h2) (hI.1.use _ h3) rfl hl.1 rfl hd hfr (by show 2 * 0 + _ + 12 ≤ lc; omega) (kk H locs ls hR hS hl)
/-- throw new E("text") in a method without handlers -/
theorem V_throw (hZ : OKz Z own cc nL fr lc mc ms) (hE : EDz Z nm ret mc ms Qn Qx) (hN : NHz Z) {ik is ic : Nat} {E : String} (tw : TWv own ik is ic E)
    (d0 : decode cc pc = .ok (.new ik, 3)) (d3 : decode cc (pc + 3) = .ok (.dup, 1)) (d4 : decode cc (pc + 4) = .ok (.ldc is, 2)) (d6 : decode cc (pc + 6) = .ok (.invokespecial ic, 3)) (d9 : decode cc (pc + 9) = .ok (.athrow, 1))
    (hfr : 5 < fr) (hlc : (st.map fun v => v.category).sum + 82 ≤ lc) (hk1 : k + 1 ≤ mc) (hn1 : n + 6 ≤ ms) (hq : Qx E h) : V Z pc lv st h k n := by
  obtain ⟨⟨l, D, lo, b, L, xs⟩, p, e, R, s, m, args, below, meth, c, Q⟩ := Z
  obtain ⟨hx, hb, hml, hown, hI, hlk, hst, rfl⟩ := hZ
  obtain ⟨-, hret, rfl⟩ := hE
  obtain ⟨rfl, ⟨tx, htx⟩, t1, t2, t3, t4, t5⟩ := tw
  have hts := hI.1.use (args := args)
  obtain ⟨sa, hsa⟩ := hI.2.1 _ htx
  intro H locs ls hR hS hl
  obtain ⟨ws, tys, hK, hP, hD, hr⟩ := id hR
  refine vx_throwS (A := fun q => lo ≤ q) hx hb hst hown t4 (by decide) (hts _ t1) (hts _ t2) hsa (fun w hw => hts _ (t3 w hw)) (fun w hw => ?_) hI.2.2.1.1 hI.2.2.1.2 hS hl.1 d0 d3 d4 d6 d9 (fun x hx => (hN x hx).elim) hfr (by show _ + (13 * 3 + 43) ≤ lc; omega) hk1 hn1 hlk (fun t hvm hz hq' => ⟨h, hq, ⟨ws, tys, hK.moved hvm, hP.kept (fun i x hi => hq' x.1 ((hP i x hi).lt)), hD, hr⟩, ?_⟩) hS.2.2 hk1 hn1
  · rcases List.mem_cons.mp hw with rfl | hw
    · rfl
    · rcases List.mem_cons.mp hw with rfl | hw
      · rfl
      · exact t5 w hw
  · exact ⟨Nat.le_trans hS.1 hz, fun q h1 h2 => (hq' q (Nat.lt_of_lt_of_le h1 hS.1)).trans (hS.2.1 q h1 h2)⟩
theorem V_throwW (hZ : OKz Z own cc nL fr lc mc ms) (hE : EDz Z nm ret mc ms Qn Qx) (hN : NHz Z) {ik is ic : Nat} {E : String} (tw : TWv own ik is ic E)
    (d0 : decode cc pc = .ok (.new ik, 3)) (d3 : decode cc (pc + 3) = .ok (.dup, 1)) (d4 : decode cc (pc + 4) = .ok (.ldc_w is, 3)) (d6 : decode cc (pc + 7) = .ok (.invokespecial ic, 3)) (d9 : decode cc (pc + 10) = .ok (.athrow, 1))
    (hfr : 5 < fr) (hlc : (st.map fun v => v.category).sum + 82 ≤ lc) (hk1 : k + 1 ≤ mc) (hn1 : n + 6 ≤ ms) (hq : Qx E h) : V Z pc lv st h k n := by
  obtain ⟨⟨l, D, lo, b, L, xs⟩, p, e, R, s, m, args, below, meth, c, Q⟩ := Z
  obtain ⟨hx, hb, hml, hown, hI, hlk, hst, rfl⟩ := hZ
  obtain ⟨-, hret, rfl⟩ := hE
  obtain ⟨rfl, ⟨tx, htx⟩, t1, t2, t3, t4, t5⟩ := tw
  have hts := hI.1.use (args := args)
  obtain ⟨sa, hsa⟩ := hI.2.1 _ htx
  intro H locs ls hR hS hl
  obtain ⟨ws, tys, hK, hP, hD, hr⟩ := id hR
  refine vx_throwSW (A := fun q => lo ≤ q) hx hb hst hown t4 (by decide) (hts _ t1) (hts _ t2) hsa (fun w hw => hts _ (t3 w hw)) (fun w hw => ?_) hI.2.2.1.1 hI.2.2.1.2 hS hl.1 d0 d3 d4 d6 d9 (fun x hx => (hN x hx).elim) hfr (by show _ + (13 * 3 + 43) ≤ lc; omega) hk1 hn1 hlk (fun t hvm hz hq' => ⟨h, hq, ⟨ws, tys, hK.moved hvm, hP.kept (fun i x hi => hq' x.1 ((hP i x hi).lt)), hD, hr⟩, ?_⟩) hS.2.2 hk1 hn1
  · rcases List.mem_cons.mp hw with rfl | hw
    · rfl
    · rcases List.mem_cons.mp hw with rfl | hw
      · rfl
      · exact t5 w hw
  · exact ⟨Nat.le_trans hS.1 hz, fun q h1 h2 => (hq' q (Nat.lt_of_lt_of_le h1 hS.1)).trans (hS.2.1 q h1 h2)⟩
/-- a method's contract out of a walk of its body from the entry -/
theorem Calls_of {G : GC} {y : MethodName} {fr' lc' : Nat} {args : List Value} (hy : plainName y.cls = true) (hlen : (lg_sl args).length ≤ nL) {lv0 : List (Option Value)} (hlv : ∀ (i : Nat) (v : Value), lv0[i]? = some (some v) → (i, v) ∈ lv_args 0 args)
    (body : ∀ Z : ZC, Z.1 = G → OKz Z y.cls cc nL fr lc mc ms → EDz Z y.name ret mc ms Qn Qx → NHz Z → V Z 0 lv0 [] h 0 0) : Calls G y cc nL ret fr lc mc ms args h Qn Qx := by
  intro hst
  obtain ⟨l, D, lo, b, L, xs⟩ := G
  refine vx_ofW (cc := cc) (maxL := nL) (ret := ret) hy rfl ?_
  intro p e s m args' below meth c s₁ B hml hN hv
  obtain ⟨rfl, hI, hR⟩ := hv
  have hl := lv_entry args (n := nL) hlen
  rw [lg_entry_eq]
  generalize ((lg_sl args) ++ List.replicate (nL - (lg_sl args).length) Slot.unset).toArray = ls at hl ⊢
  have hb := body ((l, D, lo, b, L, xs), p, e, _, s, m, args.toArray, below, meth, c, _) rfl ⟨B.exec, B.bytes, hml, findClass_of_methodNamed B.named, hI, B.notSynchronized, hst, rfl⟩ ⟨(name_of_methodNamed B.named B.method).1, B.returns, rfl⟩ hN
  exact hb s.heap [] ls hR va_S.rf ⟨by rw [hml]; exact hl.1, hl.2.1, fun i v hi => hl.2.2 (i, v) (hlv i v hi)⟩
end
