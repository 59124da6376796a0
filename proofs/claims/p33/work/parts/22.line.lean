/-! waiting lines -/
theorem hup_hup (h : HP) (q : Nat) (a b : ME) : hup (hup h q a) q b = hup h q b := by
  funext x
  by_cases hx : x = q
  · subst hx; rw [hup_self, hup_self]
  · rw [hup_ne _ _ hx, hup_ne _ _ hx, hup_ne _ _ hx]
theorem hup_comm (h : HP) {q p : Nat} (hqp : q ≠ p) (a b : ME) : hup (hup h q a) p b = hup (hup h p b) q a := by
  funext x
  by_cases hx : x = q
  · subst hx
    rw [hup_self, hup_ne _ _ hqp, hup_self]
  · rw [hup_ne _ _ hx]
    by_cases hy : x = p
    · subst hy; rw [hup_self, hup_self]
    · rw [hup_ne _ _ hy, hup_ne _ _ hy, hup_ne _ _ hx]
theorem hup_id {h : HP} {q : Nat} {a : ME} (hq : h q = some a) : hup h q a = h := by
  funext x
  by_cases hx : x = q
  · subst hx; rw [hup_self, hq]
  · rw [hup_ne _ _ hx]
theorem lnf_none {l : List Nat} {ad : Nat → Nat} {c : Nat} (hx : l[c]? = none) : va_rf (lnf l ad c) = .null := by show va_rf (l[c]?.map ad) = _; rw [hx]; rfl
theorem lnf_some {l : List Nat} {ad : Nat → Nat} {c x : Nat} (hx : l[c]? = some x) : va_rf (lnf l ad c) = .ref (ad x) := by show va_rf (l[c]?.map ad) = _; rw [hx]; rfl
def holdsB (o : Option Nat) (l : List Nat) : Bool := match o with
  | none => false
  | some r => l.contains r
section
variable (G : GC) (h : HP) {ql qr : Nat} {l : List Nat} {ad : Nat → Nat} {n : Nat}
theorem c_holds (hl : h ql = some (mLine qr n)) (hr : h qr = some (aR RX3 8 (lnf l ad))) (hlen : l.length ≤ 8) (o : Option Nat) (hinj : ∀ x ∈ l, ∀ r, o = some r → ad x = ad r → x = r) : Calls G yX4_holds cX4_holds 6 (.some .boolean) 0 0 0 0 [.ref ql, va_rf (o.map ad)] h (qV (.int (b01 (holdsB o l = true))) h) qX := by
  refine Calls_of1 (by decide +kernel) (by simp [cat_rf, cat_ref, cat_int, cat_null]) (by simp) (lv0 := [some (.ref ql), some (va_rf (o.map ad)), none, none, none, none]) rfl ?_
  intro Z hG hZ hE hN
  subst hG
  refine V_aload_n hZ 0 dX4_holds_0 rfl rfl (by first | rfl | exact isR_rf _) ?_
  refine V_getfield hZ fl_X4_11.r dX4_holds_1 (by assumption) (by rfl) ?_
  refine V_astore_n hZ 2 rfl dX4_holds_4 (by first | rfl | exact isR_rf _) (by decide) (by first | rfl | simp [okp, cat_rf, cat_ref, cat_int, cat_null]) ?_
  refine V.lvc (by simp only [List.set_cons_zero, List.set_cons_succ, Nat.reduceAdd]; rfl) ?_
  refine V_aload_n hZ 2 dX4_holds_5 rfl rfl (by first | rfl | exact isR_rf _) ?_
  refine V_alenR hZ dX4_holds_6 (by assumption) ?_
  refine V_istore_n hZ 3 rfl dX4_holds_7 (by decide) (by first | rfl | simp [okp, cat_rf, cat_ref, cat_int, cat_null]) ?_
  refine V.lvc (by simp only [List.set_cons_zero, List.set_cons_succ, Nat.reduceAdd]; rfl) ?_
  refine V_iconst (v := 0) hZ dX4_holds_8 (by decide) ?_
  refine V_istore hZ dX4_holds_9 (by decide) (by first | rfl | simp [okp, cat_rf, cat_ref, cat_int, cat_null]) ?_
  refine V.lvc (by simp only [List.set_cons_zero, List.set_cons_succ, Nat.reduceAdd]; rfl) ?_
  have key : ∀ m c, c + m = 8 → (∀ j x, j < c → l[j]? = some x → o ≠ some x) → ∀ w, V Z 11 [some (.ref ql), some (va_rf (o.map ad)), some (.ref qr), some (.int (nI 8)), some (.int (nI c)), w] [] h 0 0 := by
    intro m
    induction m with
    | zero =>
      intro c hcm hno w
      have hc : c = 8 := by omega
      subst hc
      refine V_iload hZ dX4_holds_11 rfl ?_
      refine V_iload_n hZ 3 dX4_holds_13 rfl rfl ?_
      refine V_icmp_ge (tgt := 42) hZ dX4_holds_14 (by decide) (fun c1 => ?_) (fun c1 => ?_)
      · refine V_iconst (v := 0) hZ dX4_holds_42 (by decide) ?_
        refine V_iret hZ hE rfl (by rfl) dX4_holds_43 (by decide) (by decide) ?_
        refine ⟨?_, rfl⟩
        cases o with
        | none => simp [holdsB, b01]
        | some r =>
          have hr2 : r ∉ l := by
            intro hm
            obtain ⟨j, hj⟩ := List.getElem?_of_mem hm
            have hj2 := (List.getElem?_eq_some_iff.mp hj).1
            exact hno j r (by omega) hj rfl
          simp [holdsB, b01, hr2]
      · exact absurd (by decide) c1
    | succ m ih =>
      intro c hcm hno w
      have hc8 : c < 8 := by omega
      refine V_iload hZ dX4_holds_11 rfl ?_
      refine V_iload_n hZ 3 dX4_holds_13 rfl rfl ?_
      refine V_icmp_ge (tgt := 42) hZ dX4_holds_14 (by decide) (fun c1 => ?_) (fun c1 => ?_)
      · have c2 : 8 ≤ c := (nI_leI (a := 8) (by decide) (by omega)).mp c1
        omega
      · refine V_aload_n hZ 2 dX4_holds_17 rfl rfl (by first | rfl | exact isR_rf _) ?_
        refine V_iload hZ dX4_holds_18 rfl ?_
        cases hx : l[c]? with
        | none =>
          refine V_aaldn hZ dX4_holds_20 (by assumption) hc8 (by decide) (v := .null) (lnf_none hx) ?_
          refine V_astore hZ dX4_holds_21 (by first | rfl | exact isR_rf _) (by decide) (by first | rfl | simp [okp, cat_rf, cat_ref, cat_int, cat_null]) ?_
          refine V.lvc (by simp only [List.set_cons_zero, List.set_cons_succ, Nat.reduceAdd]; rfl) ?_
          refine V_aload hZ dX4_holds_23 rfl (by first | rfl | exact isR_rf _) ?_
          refine V_ifnullN (tgt := 36) hZ dX4_holds_25 (by decide) ?_
          refine V_iincv hZ dX4_holds_36 rfl (by decide) (by first | rfl | simp [okp, cat_rf, cat_ref, cat_int, cat_null]) (by first | exact nI_inc _ | rfl) ?_
          refine V.lvc (by simp only [List.set_cons_zero, List.set_cons_succ, Nat.reduceAdd]; rfl) ?_
          refine V_goto (tgt := 11) hZ dX4_holds_39 (by decide) ?_
          exact ih (c + 1) (by omega) (fun j x hj hjx => by
            rcases Nat.lt_or_ge j c with z | z
            · exact hno j x z hjx
            · have : j = c := by omega
              subst this
              rw [hx] at hjx
              cases hjx) _
        | some x =>
          refine V_aaldn hZ dX4_holds_20 (by assumption) hc8 (by decide) (v := .ref (ad x)) (lnf_some hx) ?_
          refine V_astore hZ dX4_holds_21 (by first | rfl | exact isR_rf _) (by decide) (by first | rfl | simp [okp, cat_rf, cat_ref, cat_int, cat_null]) ?_
          refine V.lvc (by simp only [List.set_cons_zero, List.set_cons_succ, Nat.reduceAdd]; rfl) ?_
          refine V_aload hZ dX4_holds_23 rfl (by first | rfl | exact isR_rf _) ?_
          refine V_ifnullR hZ dX4_holds_25 ?_
          refine V_aload hZ dX4_holds_28 rfl (by first | rfl | exact isR_rf _) ?_
          refine V_aload_n hZ 1 dX4_holds_30 rfl rfl (by first | rfl | exact isR_rf _) ?_
          refine V_acmp_ne (tgt := 36) hZ dX4_holds_31 (by decide) (by first | rfl | exact isR_rf _) (by first | rfl | exact isR_rf _) (fun c3 => ?_) (fun c3 => ?_)
          · refine V_iincv hZ dX4_holds_36 rfl (by decide) (by first | rfl | simp [okp, cat_rf, cat_ref, cat_int, cat_null]) (by first | exact nI_inc _ | rfl) ?_
            refine V.lvc (by simp only [List.set_cons_zero, List.set_cons_succ, Nat.reduceAdd]; rfl) ?_
            refine V_goto (tgt := 11) hZ dX4_holds_39 (by decide) ?_
            refine ih (c + 1) (by omega) (fun j y hj hjx => ?_) _
            rcases Nat.lt_or_ge j c with z | z
            · exact hno j y z hjx
            · have : j = c := by omega
              subst this
              rw [hx] at hjx
              cases hjx
              intro ho
              subst ho
              exact c3 rfl
          · refine V_iconst (v := 1) hZ dX4_holds_34 (by decide) ?_
            refine V_iret hZ hE rfl (by rfl) dX4_holds_35 (by decide) (by decide) ?_
            refine ⟨?_, rfl⟩
            cases o with
            | none => cases c3
            | some r =>
              have h1 : ad x = ad r := Value.ref.inj c3
              have h2 := hinj x (List.mem_of_getElem? hx) r rfl h1
              subst h2
              have h3 := List.mem_of_getElem? hx
              simp [holdsB, b01, h3]
  exact key 8 0 rfl (fun j x hj => absurd hj (Nat.not_lt_zero _)) none
theorem c_at (hl : h ql = some (mLine qr n)) (hr : h qr = some (aR RX3 8 (lnf l ad))) (p : Int32) : Calls G yX4_at cX4_at 2 (.some (.object "BookplateHall$Reader")) 0 0 0 0 [.ref ql, .int p] h (qV (if 0 ≤ p ∧ p < 8 then va_rf (lnf l ad p.toNatClampNeg) else .null) h) qX := by
  refine Calls_of1 (by decide +kernel) (by simp [cat_rf, cat_ref, cat_int, cat_null]) (by simp) (lv0 := [some (.ref ql), some (.int p)]) rfl ?_
  intro Z hG hZ hE hN
  subst hG
  refine V_iload_n hZ 1 dX4_at_0 rfl rfl ?_
  refine V_if_lt (tgt := 22) hZ dX4_at_1 (by decide) (fun c1 => ?_) (fun c1 => ?_)
  · refine V_null hZ dX4_at_22 ?_
    refine V_aret hZ hE rfl (by first | rfl | exact isR_rf _) dX4_at_23 (by decide) (by decide) ?_
    exact ⟨by rw [if_neg (fun z => Int32.not_le.mpr c1 z.1)], rfl⟩
  · refine V_iload_n hZ 1 dX4_at_4 rfl rfl ?_
    refine V_aload_n hZ 0 dX4_at_5 rfl rfl (by first | rfl | exact isR_rf _) ?_
    refine V_getfield hZ fl_X4_11.r dX4_at_6 (by assumption) (by rfl) ?_
    refine V_alenR hZ dX4_at_9 (by assumption) ?_
    refine V_icmp_ge (tgt := 22) hZ dX4_at_10 (by decide) (fun c2 => ?_) (fun c2 => ?_)
    · refine V_null hZ dX4_at_22 ?_
      refine V_aret hZ hE rfl (by first | rfl | exact isR_rf _) dX4_at_23 (by decide) (by decide) ?_
      exact ⟨by rw [if_neg (fun z => Int32.not_lt.mpr c2 z.2)], rfl⟩
    · refine V_aload_n hZ 0 dX4_at_13 rfl rfl (by first | rfl | exact isR_rf _) ?_
      refine V_getfield hZ fl_X4_11.r dX4_at_14 (by assumption) (by rfl) ?_
      refine V_iload_n hZ 1 dX4_at_17 rfl rfl ?_
      have h1 : 0 ≤ p := Int32.not_lt.mp c1
      have h2 : p < 8 := Int32.not_le.mp c2
      refine V_aald hZ dX4_at_18 (by assumption) (show vp_in p 8 from ?_) ?_
      · obtain ⟨j, hj, rfl⟩ := nI_of c1
        have h3 : j < 8 := (nI_ltI (b := 8) hj (by decide)).mp h2
        exact vp_in_n h3 (by decide)
      · refine V_goto (tgt := 23) hZ dX4_at_19 (by decide) ?_
        refine V_aret hZ hE rfl (by first | rfl | exact isR_rf _) dX4_at_23 (by decide) (by decide) ?_
        exact ⟨by rw [if_pos ⟨h1, h2⟩], rfl⟩
theorem lnf_push (r : Nat) : lnf (l ++ [r]) ad = va_up (lnf l ad) l.length (some (ad r)) := by
  funext j
  simp only [lnf, va_up]
  by_cases hj : j = l.length
  · subst hj; simp
  · rw [if_neg hj]
    by_cases hj2 : j < l.length
    · rw [List.getElem?_append_left hj2]
    · rw [List.getElem?_eq_none (by simp; omega), List.getElem?_eq_none (by omega)]
theorem c_join (hl : h ql = some (mLine qr l.length)) (hr : h qr = some (aR RX3 8 (lnf l ad))) (hlen : l.length < 8) {r i : Nat} {ki ow : Int32} (hd : h (ad r) = some (mRdr i ki ow)) : Calls G yX4_join cX4_join 2 (.none : Option Jvm.ClassFile.FieldType) 0 0 0 0 [.ref ql, .ref (ad r)] h (fun v h' => v = none ∧ h' = hup (hup h qr (aR RX3 8 (lnf (l ++ [r]) ad))) ql (mLine qr (l.length + 1))) qX := by
  have hne : ql ≠ qr := fun z => by rw [z, hr] at hl; cases hl
  refine Calls_of1 (by decide +kernel) (by simp [cat_rf, cat_ref, cat_int, cat_null]) (by simp) (lv0 := [some (.ref ql), some (.ref (ad r))]) rfl ?_
  intro Z hG hZ hE hN
  subst hG
  refine V_aload_n hZ 0 dX4_join_0 rfl rfl (by first | rfl | exact isR_rf _) ?_
  refine V_getfield hZ fl_X4_17.r dX4_join_1 (by assumption) (by rfl) ?_
  refine V_if_lt (tgt := 39) hZ dX4_join_4 (by decide) (fun c1 => ?_) (fun c1 => ?_)
  · exact absurd c1 (nI_pos (by omega))
  · refine V_aload_n hZ 0 dX4_join_7 rfl rfl (by first | rfl | exact isR_rf _) ?_
    refine V_getfield hZ fl_X4_17.r dX4_join_8 (by assumption) (by rfl) ?_
    refine V_aload_n hZ 0 dX4_join_11 rfl rfl (by first | rfl | exact isR_rf _) ?_
    refine V_getfield hZ fl_X4_11.r dX4_join_12 (by assumption) (by rfl) ?_
    refine V_alenR hZ dX4_join_15 (by assumption) ?_
    refine V_icmp_ge (tgt := 39) hZ dX4_join_16 (by decide) (fun c2 => ?_) (fun c2 => ?_)
    · have := (nI_leI (a := 8) (by decide) (by omega)).mp c2
      omega
    · refine V_aload_n hZ 0 dX4_join_19 rfl rfl (by first | rfl | exact isR_rf _) ?_
      refine V_getfield hZ fl_X4_11.r dX4_join_20 (by assumption) (by rfl) ?_
      refine V_aload_n hZ 0 dX4_join_23 rfl rfl (by first | rfl | exact isR_rf _) ?_
      refine V_getfield hZ fl_X4_17.r dX4_join_24 (by assumption) (by rfl) ?_
      refine V_aload_n hZ 1 dX4_join_27 rfl rfl (by first | rfl | exact isR_rf _) ?_
      refine V_aastn (r := (RX3, TX3, 3)) hZ dX4_join_28 (by assumption) hd rfl hlen (by decide) ?_
      rw [← lnf_push]
      have hl' : hup h qr (aR RX3 8 (lnf (l ++ [r]) ad)) ql = some (mLine qr l.length) := by rw [hup_ne _ _ hne]; exact hl
      refine V_aload_n hZ 0 dX4_join_29 rfl rfl (by first | rfl | exact isR_rf _) ?_
      refine V_dup hZ dX4_join_30 (by first | rfl | exact cat_rf _) ?_
      refine V_getfield hZ fl_X4_17.r dX4_join_31 (by assumption) (by rfl) ?_
      refine V_iconst (v := 1) hZ dX4_join_34 (by decide) ?_
      refine V_iadd hZ dX4_join_35 ?_
      refine V_putfield hZ fl_X4_17 dX4_join_36 (by first | assumption | exact hup_self _ _ _) (by first | rfl | exact nar_rf _ _) (by first | rfl | exact fits_rf _ _) (by simp) ?_
      refine V_vret hZ hE rfl dX4_join_39 (by decide) (by decide) ?_
      refine ⟨rfl, ?_⟩
      show hup _ ql (.inr (4, [.ref qr, .int (nI l.length + 1)])) = _
      rw [nI_1]
theorem c_clear (hl : h ql = some (mLine qr n)) (hr : h qr = some (aR RX3 8 (lnf l ad))) (hlen : l.length ≤ 8) : Calls G yX4_clear cX4_clear 2 (.none : Option Jvm.ClassFile.FieldType) 0 0 0 0 [.ref ql] h (fun v h' => v = none ∧ h' = hup (hup h qr (aR RX3 8 (lnf [] ad))) ql (mLine qr 0)) qX := by
  have hne : ql ≠ qr := fun z => by rw [z, hr] at hl; cases hl
  refine Calls_of1 (by decide +kernel) (by simp [cat_rf, cat_ref, cat_int, cat_null]) (by simp) (lv0 := [some (.ref ql), none]) rfl ?_
  intro Z hG hZ hE hN
  subst hG
  refine V_iconst (v := 0) hZ dX4_clear_0 (by decide) ?_
  refine V_istore_n hZ 1 rfl dX4_clear_1 (by decide) (by first | rfl | simp [okp, cat_rf, cat_ref, cat_int, cat_null]) ?_
  refine V.lvc (by simp only [List.set_cons_zero, List.set_cons_succ, Nat.reduceAdd]; rfl) ?_
  have key : ∀ m c, c + m = 8 → ∀ f, (∀ j, j < c → f j = none) → (∀ j, 8 ≤ j → f j = lnf l ad j) → V Z 2 [some (.ref ql), some (.int (nI c))] [] (hup h qr (aR RX3 8 f)) 0 0 := by
    intro m
    induction m with
    | zero =>
      intro c hcm f hf hf8
      have hl' : hup h qr (aR RX3 8 f) ql = some (mLine qr n) := by rw [hup_ne _ _ hne]; exact hl
      have hr' : hup h qr (aR RX3 8 f) qr = some (aR RX3 8 f) := hup_self _ _ _
      have hc : c = 8 := by omega
      subst hc
      refine V_iload_n hZ 1 dX4_clear_2 rfl rfl ?_
      refine V_aload_n hZ 0 dX4_clear_3 rfl rfl (by first | rfl | exact isR_rf _) ?_
      refine V_getfield hZ fl_X4_11.r dX4_clear_4 (by assumption) (by rfl) ?_
      refine V_alenR hZ dX4_clear_7 (by assumption) ?_
      refine V_icmp_ge (tgt := 24) hZ dX4_clear_8 (by decide) (fun c1 => ?_) (fun c1 => ?_)
      · refine V_aload_n hZ 0 dX4_clear_24 rfl rfl (by first | rfl | exact isR_rf _) ?_
        refine V_iconst (v := 0) hZ dX4_clear_25 (by decide) ?_
        refine V_putfield hZ fl_X4_17 dX4_clear_26 (by first | assumption | exact hup_self _ _ _) (by first | rfl | exact nar_rf _ _) (by first | rfl | exact fits_rf _ _) (by simp) ?_
        refine V_vret hZ hE rfl dX4_clear_29 (by decide) (by decide) ?_
        refine ⟨rfl, ?_⟩
        have hff : f = lnf [] ad := by
          funext j
          rcases Nat.lt_or_ge j 8 with z | z
          · rw [hf j z]; rfl
          · rw [hf8 j z]
            show l[j]?.map ad = _
            rw [List.getElem?_eq_none (by omega)]
            rfl
        rw [hff]
        rfl
      · exact absurd (by decide) c1
    | succ m ih =>
      intro c hcm f hf hf8
      have hl' : hup h qr (aR RX3 8 f) ql = some (mLine qr n) := by rw [hup_ne _ _ hne]; exact hl
      have hr' : hup h qr (aR RX3 8 f) qr = some (aR RX3 8 f) := hup_self _ _ _
      refine V_iload_n hZ 1 dX4_clear_2 rfl rfl ?_
      refine V_aload_n hZ 0 dX4_clear_3 rfl rfl (by first | rfl | exact isR_rf _) ?_
      refine V_getfield hZ fl_X4_11.r dX4_clear_4 (by assumption) (by rfl) ?_
      refine V_alenR hZ dX4_clear_7 (by assumption) ?_
      refine V_icmp_ge (tgt := 24) hZ dX4_clear_8 (by decide) (fun c1 => ?_) (fun c1 => ?_)
      · have c2 : 8 ≤ c := (nI_leI (a := 8) (by decide) (by omega)).mp c1
        omega
      · refine V_aload_n hZ 0 dX4_clear_11 rfl rfl (by first | rfl | exact isR_rf _) ?_
        refine V_getfield hZ fl_X4_11.r dX4_clear_12 (by assumption) (by rfl) ?_
        refine V_iload_n hZ 1 dX4_clear_15 rfl rfl ?_
        refine V_null hZ dX4_clear_16 ?_
        refine V_aastNn hZ dX4_clear_17 hr' (show c < 8 by omega) (by decide) ?_
        rw [hup_hup]
        refine V_iincv hZ dX4_clear_18 rfl (by decide) (by first | rfl | simp [okp, cat_rf, cat_ref, cat_int, cat_null]) (by first | exact nI_inc _ | rfl) ?_
        refine V.lvc (by simp only [List.set_cons_zero, List.set_cons_succ, Nat.reduceAdd]; rfl) ?_
        refine V_goto (tgt := 2) hZ dX4_clear_21 (by decide) ?_
        exact ih (c + 1) (by omega) _ (fun j hj => by
          by_cases hjc : j = c
          · simp [va_up, hjc]
          · simp [va_up, hjc]; exact hf j (by omega)) (fun j hj => by
          have : ¬ j = c := by omega
          simp only [va_up, if_neg this]; exact hf8 j hj)
  have := key 8 0 rfl (lnf l ad) (fun j hj => absurd hj (Nat.not_lt_zero _)) (fun _ _ => rfl)
  rw [hup_id hr] at this
  exact this
theorem c_drop (hl : h ql = some (mLine qr n)) (hr : h qr = some (aR RX3 8 (lnf l ad))) (hlen : l.length ≤ 8) {r : Nat} (hinj : ∀ x ∈ l, ad x = ad r → x = r) (hd : ∀ x ∈ l, ∃ i ki ow, h (ad x) = some (mRdr i ki ow)) : Calls G yX4_drop cX4_drop 5 (.none : Option Jvm.ClassFile.FieldType) 0 0 0 0 [.ref ql, .ref (ad r)] h (fun v h' => v = none ∧ h' = hup (hup h qr (aR RX3 8 (lnf (l.filter (· ≠ r)) ad))) ql (mLine qr (l.filter (· ≠ r)).length)) qX := by
  have hne : ql ≠ qr := fun z => by rw [z, hr] at hl; cases hl
  refine Calls_of1 (by decide +kernel) (by simp [cat_rf, cat_ref, cat_int, cat_null]) (by simp) (lv0 := [some (.ref ql), some (.ref (ad r)), none, none, none]) rfl ?_
  intro Z hG hZ hE hN
  subst hG
  refine V_iconst (v := 0) hZ dX4_drop_0 (by decide) ?_
  refine V_istore_n hZ 2 rfl dX4_drop_1 (by decide) (by first | rfl | simp [okp, cat_rf, cat_ref, cat_int, cat_null]) ?_
  refine V.lvc (by simp only [List.set_cons_zero, List.set_cons_succ, Nat.reduceAdd]; rfl) ?_
  refine V_iconst (v := 0) hZ dX4_drop_2 (by decide) ?_
  refine V_istore_n hZ 3 rfl dX4_drop_3 (by decide) (by first | rfl | simp [okp, cat_rf, cat_ref, cat_int, cat_null]) ?_
  refine V.lvc (by simp only [List.set_cons_zero, List.set_cons_succ, Nat.reduceAdd]; rfl) ?_
  have key : ∀ m c, c + m = 8 → ∀ w f fl, fl = (l.take c).filter (· ≠ r) → (∀ j, f j = if j < fl.length then lnf fl ad j else if j < c then none else lnf l ad j) → V Z 4 [some (.ref ql), some (.ref (ad r)), some (.int (nI fl.length)), some (.int (nI c)), w] [] (hup h qr (aR RX3 8 f)) 0 0 := by
    intro m
    induction m with
    | zero =>
      intro c hcm w f fl hfl hf
      have hl' : hup h qr (aR RX3 8 f) ql = some (mLine qr n) := by rw [hup_ne _ _ hne]; exact hl
      have hr' : hup h qr (aR RX3 8 f) qr = some (aR RX3 8 f) := hup_self _ _ _
      have hc : c = 8 := by omega
      subst hc
      have hfl2 : fl = l.filter (· ≠ r) := by rw [hfl, List.take_of_length_le hlen]
      refine V_iload_n hZ 3 dX4_drop_4 rfl rfl ?_
      refine V_aload_n hZ 0 dX4_drop_5 rfl rfl (by first | rfl | exact isR_rf _) ?_
      refine V_getfield hZ fl_X4_11.r dX4_drop_6 (by assumption) (by rfl) ?_
      refine V_alenR hZ dX4_drop_9 (by assumption) ?_
      refine V_icmp_ge (tgt := 65) hZ dX4_drop_10 (by decide) (fun c1 => ?_) (fun c1 => ?_)
      · refine V_aload_n hZ 0 dX4_drop_65 rfl rfl (by first | rfl | exact isR_rf _) ?_
        refine V_iload_n hZ 2 dX4_drop_66 rfl rfl ?_
        refine V_putfield hZ fl_X4_17 dX4_drop_67 (by first | assumption | exact hup_self _ _ _) (by first | rfl | exact nar_rf _ _) (by first | rfl | exact fits_rf _ _) (by simp) ?_
        refine V_vret hZ hE rfl dX4_drop_70 (by decide) (by decide) ?_
        refine ⟨rfl, ?_⟩
        have hff : f = lnf fl ad := by
          funext j
          rw [hf j]
          by_cases z : j < fl.length
          · rw [if_pos z]
          · have h9 : lnf fl ad j = none := by
              show fl[j]?.map ad = none
              rw [List.getElem?_eq_none (by omega)]
              rfl
            rw [if_neg z, h9]
            split
            · rfl
            · show l[j]?.map ad = none
              rw [List.getElem?_eq_none (by omega)]
              rfl
        rw [hff, ← hfl2]
        rfl
      · exact absurd (by decide) c1
    | succ m ih =>
      intro c hcm w f fl hfl hf
      have hl' : hup h qr (aR RX3 8 f) ql = some (mLine qr n) := by rw [hup_ne _ _ hne]; exact hl
      have hr' : hup h qr (aR RX3 8 f) qr = some (aR RX3 8 f) := hup_self _ _ _
      have hc8 : c < 8 := by omega
      have hflc : fl.length ≤ c := by
        rw [hfl]
        exact Nat.le_trans (List.length_filter_le _ _) (by simp; omega)
      have hfc : f c = lnf l ad c := by rw [hf c, if_neg (by omega), if_neg (by omega)]
      refine V_iload_n hZ 3 dX4_drop_4 rfl rfl ?_
      refine V_aload_n hZ 0 dX4_drop_5 rfl rfl (by first | rfl | exact isR_rf _) ?_
      refine V_getfield hZ fl_X4_11.r dX4_drop_6 (by assumption) (by rfl) ?_
      refine V_alenR hZ dX4_drop_9 (by assumption) ?_
      refine V_icmp_ge (tgt := 65) hZ dX4_drop_10 (by decide) (fun c1 => ?_) (fun c1 => ?_)
      · have c2 : 8 ≤ c := (nI_leI (a := 8) (by decide) (by omega)).mp c1
        omega
      · refine V_aload_n hZ 0 dX4_drop_13 rfl rfl (by first | rfl | exact isR_rf _) ?_
        refine V_getfield hZ fl_X4_11.r dX4_drop_14 (by assumption) (by rfl) ?_
        refine V_iload_n hZ 3 dX4_drop_17 rfl rfl ?_
        cases hx : l[c]? with
        | none =>
          refine V_aaldn hZ dX4_drop_18 hr' hc8 (by decide) (v := .null) (by rw [hfc]; exact lnf_none hx) ?_
          refine V_astore hZ dX4_drop_19 (by first | rfl | exact isR_rf _) (by decide) (by first | rfl | simp [okp, cat_rf, cat_ref, cat_int, cat_null]) ?_
          refine V.lvc (by simp only [List.set_cons_zero, List.set_cons_succ, Nat.reduceAdd]; rfl) ?_
          refine V_aload_n hZ 0 dX4_drop_21 rfl rfl (by first | rfl | exact isR_rf _) ?_
          refine V_getfield hZ fl_X4_11.r dX4_drop_22 (by assumption) (by rfl) ?_
          refine V_iload_n hZ 3 dX4_drop_25 rfl rfl ?_
          refine V_null hZ dX4_drop_26 ?_
          refine V_aastNn hZ dX4_drop_27 hr' hc8 (by decide) ?_
          rw [hup_hup]
          refine V_aload hZ dX4_drop_28 rfl (by first | rfl | exact isR_rf _) ?_
          refine V_ifnullN (tgt := 59) hZ dX4_drop_30 (by decide) ?_
          refine V_iincv hZ dX4_drop_59 rfl (by decide) (by first | rfl | simp [okp, cat_rf, cat_ref, cat_int, cat_null]) (by first | exact nI_inc _ | rfl) ?_
          refine V.lvc (by simp only [List.set_cons_zero, List.set_cons_succ, Nat.reduceAdd]; rfl) ?_
          refine V_goto (tgt := 4) hZ dX4_drop_62 (by decide) ?_
          have ht : l.take (c + 1) = l.take c := by rw [List.take_add_one, hx]; simp
          refine ih (c + 1) (by omega) _ _ fl (by rw [ht]; exact hfl) (fun j => ?_)
          simp only [va_up]
          by_cases hjc : j = c
          · rw [if_pos hjc, if_neg (by omega), if_pos (by omega)]
          · rw [if_neg hjc, hf j]
            by_cases z : j < fl.length
            · rw [if_pos z, if_pos z]
            · rw [if_neg z, if_neg z]
              by_cases z2 : j < c
              · rw [if_pos z2, if_pos (by omega)]
              · rw [if_neg z2, if_neg (by omega)]
        | some x =>
          have hxl := List.mem_of_getElem? hx
          refine V_aaldn hZ dX4_drop_18 hr' hc8 (by decide) (v := .ref (ad x)) (by rw [hfc]; exact lnf_some hx) ?_
          refine V_astore hZ dX4_drop_19 (by first | rfl | exact isR_rf _) (by decide) (by first | rfl | simp [okp, cat_rf, cat_ref, cat_int, cat_null]) ?_
          refine V.lvc (by simp only [List.set_cons_zero, List.set_cons_succ, Nat.reduceAdd]; rfl) ?_
          refine V_aload_n hZ 0 dX4_drop_21 rfl rfl (by first | rfl | exact isR_rf _) ?_
          refine V_getfield hZ fl_X4_11.r dX4_drop_22 (by assumption) (by rfl) ?_
          refine V_iload_n hZ 3 dX4_drop_25 rfl rfl ?_
          refine V_null hZ dX4_drop_26 ?_
          refine V_aastNn hZ dX4_drop_27 hr' hc8 (by decide) ?_
          rw [hup_hup]
          have hl2 : hup h qr (aR RX3 8 (va_up f c none)) ql = some (mLine qr n) := by rw [hup_ne _ _ hne]; exact hl
          have hr2 : hup h qr (aR RX3 8 (va_up f c none)) qr = some (aR RX3 8 (va_up f c none)) := hup_self _ _ _
          refine V_aload hZ dX4_drop_28 rfl (by first | rfl | exact isR_rf _) ?_
          refine V_ifnullR hZ dX4_drop_30 ?_
          refine V_aload hZ dX4_drop_33 rfl (by first | rfl | exact isR_rf _) ?_
          refine V_aload_n hZ 1 dX4_drop_35 rfl rfl (by first | rfl | exact isR_rf _) ?_
          refine V_acmp_eq (tgt := 59) hZ dX4_drop_36 (by decide) (by first | rfl | exact isR_rf _) (by first | rfl | exact isR_rf _) (fun c3 => ?_) (fun c3 => ?_)
          · have hxr : x = r := hinj x hxl (Value.ref.inj c3)
            refine V_iincv hZ dX4_drop_59 rfl (by decide) (by first | rfl | simp [okp, cat_rf, cat_ref, cat_int, cat_null]) (by first | exact nI_inc _ | rfl) ?_
            refine V.lvc (by simp only [List.set_cons_zero, List.set_cons_succ, Nat.reduceAdd]; rfl) ?_
            refine V_goto (tgt := 4) hZ dX4_drop_62 (by decide) ?_
            have ht : fl = (l.take (c + 1)).filter (· ≠ r) := by rw [List.take_add_one, hx, List.filter_append, ← hfl]; simp [hxr]
            refine ih (c + 1) (by omega) _ _ fl ht (fun j => ?_)
            simp only [va_up]
            by_cases hjc : j = c
            · rw [if_pos hjc, if_neg (by omega), if_pos (by omega)]
            · rw [if_neg hjc, hf j]
              by_cases z : j < fl.length
              · rw [if_pos z, if_pos z]
              · rw [if_neg z, if_neg z]
                by_cases z2 : j < c
                · rw [if_pos z2, if_pos (by omega)]
                · rw [if_neg z2, if_neg (by omega)]
          · have hxr : ¬ x = r := fun z => c3 (by rw [z])
            refine V_iload_n hZ 2 dX4_drop_39 rfl rfl ?_
            refine V_if_lt (tgt := 59) hZ dX4_drop_40 (by decide) (fun c4 => ?_) (fun c4 => ?_)
            · exact absurd c4 (nI_pos (by omega))
            · refine V_iload_n hZ 2 dX4_drop_43 rfl rfl ?_
              refine V_iload_n hZ 3 dX4_drop_44 rfl rfl ?_
              refine V_icmp_gt (tgt := 59) hZ dX4_drop_45 (by decide) (fun c5 => ?_) (fun c5 => ?_)
              · exact absurd c5 (nI_nlt hflc (by omega))
              · refine V_aload_n hZ 0 dX4_drop_48 rfl rfl (by first | rfl | exact isR_rf _) ?_
                refine V_getfield hZ fl_X4_11.r dX4_drop_49 (by assumption) (by rfl) ?_
                refine V_iload_n hZ 2 dX4_drop_52 rfl rfl ?_
                refine V_aload hZ dX4_drop_53 rfl (by first | rfl | exact isR_rf _) ?_
                obtain ⟨i9, ki9, ow9, hd9⟩ := hd x hxl
                have hd8 : hup h qr (aR RX3 8 (va_up f c none)) (ad x) = some (mRdr i9 ki9 ow9) := by
                  rw [hup_ne _ _ (fun z => by rw [z, hr] at hd9; cases hd9)]
                  exact hd9
                refine V_aastn (r := (RX3, TX3, 3)) hZ dX4_drop_55 hr2 hd8 rfl (show fl.length < 8 by omega) (by decide) ?_
                rw [hup_hup]
                refine V_iincv hZ dX4_drop_56 rfl (by decide) (by first | rfl | simp [okp, cat_rf, cat_ref, cat_int, cat_null]) (by first | exact nI_inc _ | rfl) ?_
                refine V.lvc (by simp only [List.set_cons_zero, List.set_cons_succ, Nat.reduceAdd]; rfl) ?_
                refine V_iincv hZ dX4_drop_59 rfl (by decide) (by first | rfl | simp [okp, cat_rf, cat_ref, cat_int, cat_null]) (by first | exact nI_inc _ | rfl) ?_
                refine V.lvc (by simp only [List.set_cons_zero, List.set_cons_succ, Nat.reduceAdd]; rfl) ?_
                refine V_goto (tgt := 4) hZ dX4_drop_62 (by decide) ?_
                have ht : fl ++ [x] = (l.take (c + 1)).filter (· ≠ r) := by rw [List.take_add_one, hx, List.filter_append, ← hfl]; simp [hxr]
                have hle : (fl ++ [x]).length = fl.length + 1 := by simp
                rw [← hle]
                refine ih (c + 1) (by omega) _ _ (fl ++ [x]) ht (fun j => ?_)
                rw [lnf_push, hle]
                simp only [va_up]
                by_cases hjk : j = fl.length
                · rw [if_pos hjk, if_pos (by omega), if_pos hjk]
                · rw [if_neg hjk, if_neg hjk]
                  by_cases hjc : j = c
                  · rw [if_pos hjc, if_neg (by omega), if_pos (by omega)]
                  · rw [if_neg hjc, hf j]
                    repeat' split
                    all_goals first | rfl | (exfalso; omega)
  have := key 8 0 rfl none (lnf l ad) [] rfl (fun j => by rw [if_neg (by simp), if_neg (by omega)])
  rw [hup_id hr] at this
  exact this
end

