/-! the start -/
theorem kn_all {s : State} {args : Array Value} (hts : ∀ w ∈ lw_tbl, w.before args s = true) : ∃ D : va_G, va_K D vwCl [] s := by
  obtain ⟨c0, i0, h0⟩ := u_known (C := RX0) (T := TX0) (N := 7) (n := 7) hts (by decide +kernel) (hts (.instantiable RX0 7) (by decide +kernel))
  obtain ⟨c1, i1, h1⟩ := u_known (C := RX1) (T := TX1) (N := 8) (n := 8) hts (by decide +kernel) (hts (.instantiable RX1 8) (by decide +kernel))
  obtain ⟨c2, i2, h2⟩ := u_known (C := RX2) (T := TX2) (N := 2) (n := 2) hts (by decide +kernel) (hts (.instantiable RX2 2) (by decide +kernel))
  obtain ⟨c3, i3, h3⟩ := u_known (C := RX3) (T := TX3) (N := 3) (n := 3) hts (by decide +kernel) (hts (.instantiable RX3 3) (by decide +kernel))
  obtain ⟨c4, i4, h4⟩ := u_known (C := RX4) (T := TX4) (N := 2) (n := 2) hts (by decide +kernel) (hts (.instantiable RX4 2) (by decide +kernel))
  obtain ⟨c5, i5, h5⟩ := u_known (C := RX5) (T := TX5) (N := 9) (n := 9) hts (by decide +kernel) (hts (.instantiable RX5 9) (by decide +kernel))
  refine ⟨(fun k => [c0, c1, c2, c3, c4, c5].getD k c0, fun k => [i0, i1, i2, i3, i4, i5].getD k i0), ?_, fun k q h => by simp at h⟩
  intro k q hq
  match k, hq with
  | 0, hq => cases hq; exact h0
  | 1, hq => cases hq; exact h1
  | 2, hq => cases hq; exact h2
  | 3, hq => cases hq; exact h3
  | 4, hq => cases hq; exact h4
  | 5, hq => cases hq; exact h5
  | k + 6, hq => simp [vwCl] at hq
theorem srl_tbl : ∀ q ∈ srl, Cond.stringRef RX5 q.1 q.2 ∈ lw_tbl := by decide +kernel
theorem srl_nar : ∀ q ∈ srl, Cond.exactly (.string RX5 q.1) "java/lang/String" ∈ flatC (Jvm.Cond.and given_1 narrow_1) := by decide +kernel
theorem start_of {PI : Nat → St → Prop} (P : Pur PI) {p : Program} {e : Env} {s : State} {m : MethodId} {below : List Frame} {meth : Method} {c : Code} (l : Launch) (hflags : l.flags = flags0) {b L : Nat} {xs : Nat → Int32} (hL : L ≤ 260) (C0 : lw_At p s m meth c b L xs) : W p l e room_1 s m #[Value.ref b] below meth c s.heap [] 0 0 (lw_Z below #[Value.ref b] s) (entryFrame m ([Value.ref b] : List Value).toArray 8) := by
  obtain ⟨hx, hb, hr, hml, hown, hts, hX, hbl, hlocks, hgv⟩ := id C0
  have hs := flat_of_before _ hgv
  obtain ⟨D, hK⟩ := kn_all hts
  have hlo : ∀ a : Nat, a < s.heap.size → ¬ s.heap.size ≤ a := fun a ha => Nat.not_le.mpr ha
  have hI : Iv (l, D, s.heap.size, b, L, xs) s s.heap := by
    refine ⟨fun w hw => wk_move (State.WarmedH.refl s) (List.mem_filter.mp hw).2 (hts w (List.mem_filter.mp hw).1), fun q hq => ?_, ⟨?_, ?_⟩, ⟨?_, ?_, ?_⟩, Nat.le_refl _, hbl, hX⟩
    · obtain ⟨a, c', cA, kA, q1, -⟩ := Cond.exactly_spec (args := #[Value.ref b]) (first := s) (o := none) (s := s) (idx := []) (t := .string RX5 q.1) (cls := "java/lang/String") (hs _ (srl_nar q hq))
      exact ⟨a, vk_R.of (A := #[Value.ref b]) (hts _ (srl_tbl q hq)) q1⟩
    · exact vx_Zqof (args := #[Value.ref b]) (hts _ (by decide +kernel)) (hts _ (by decide +kernel)) (hs _ (by decide +kernel)) hlo
    · exact vx_Zqof (args := #[Value.ref b]) (hts _ (by decide +kernel)) (hts _ (by decide +kernel)) (hs _ (by decide +kernel)) hlo
    · exact va_Nc.of (args := #[Value.ref b]) (hs _ (by decide +kernel))
    · exact va_Nc.of (args := #[Value.ref b]) (hs _ (by decide +kernel))
    · exact va_Nc.of (args := #[Value.ref b]) (hs _ (by decide +kernel))
  have hR : Rp D s s.heap.size (fun _ => none) s.heap := ⟨[], [], hK, fun k q h => by simp at h, ⟨fun i j p q h => by simp at h, fun k q h => by simp at h⟩, fun q e h => by cases h⟩
  have hst : l.stackTraces = false := by
    unfold Launch.stackTraces
    rw [hflags]
    decide +kernel
  have hZ : OKz ((l, D, s.heap.size, b, L, xs), p, e, room_1, s, m, #[Value.ref b], below, meth, c, lw_Z below #[Value.ref b] s) RL cL_law 8 12 442 600130 7301080 := ⟨hx, hb, hml, hown, hI, hlocks, hst, rfl⟩
  have hl := lv_entry ([.ref b]) (n := 8) (Nat.le_of_ble_eq_true rfl)
  rw [lg_entry_eq]
  generalize (lg_sl ([.ref b]) ++ List.replicate (8 - (lg_sl ([.ref b])).length) Slot.unset).toArray = ls at hl ⊢
  have K := law_V (h0 := fun _ => none) P hZ (by show L < 2 ^ 31; omega) (fun lv h k n hk hn => by
    intro H locs ls hR hS hl
    have hd0 := Drawn.sameBut.refl s.drawn lw_cs
    have e1 : W p l e room_1 s m #[Value.ref b] below meth c H [] 600130 7301080 (lw_Z below #[Value.ref b] s) (F0 m 226 ls [.int 1]) := lw_ret (d0 := s.drawn) hd0 hx hb hr hlocks dL_law_226
    have e2 := W.forget (L := locs) hS.2.2 e1
    rw [List.nil_append] at e2
    exact W.widen hk hn e2)
  exact K s.heap [] ls hR va_S.rf ⟨by show ls.size = c.maxLocals; rw [hml]; exact hl.1, hl.2.1, fun i v hi => by
    match i, hi with
    | 0, hi =>
      cases hi
      exact lv_at hl 0 rfl
    | 1, hi => cases hi
    | 2, hi => cases hi
    | 3, hi => cases hi
    | 4, hi => cases hi
    | 5, hi => cases hi
    | 6, hi => cases hi
    | 7, hi => cases hi
    | i + 8, hi => simp at hi⟩
theorem whole_start {p : Program} {e : Env} {s : State} {m : MethodId} {below : List Frame} {meth : Method} {c : Code} (l : Launch) (hflags : l.flags = flags0) {b L : Nat} {xs : Nat → Int32} (hL : L ≤ 260) (C0 : lw_At p s m meth c b L xs) : W p l e room_1 s m #[Value.ref b] below meth c s.heap [] 0 0 (lw_Z below #[Value.ref b] s) (entryFrame m ([Value.ref b] : List Value).toArray 8) := start_of pur l hflags hL C0
