/-! constructors; what is added -/
section
variable (G : GC) {h : HP}
theorem c_X4_init {q : Nat} (hq : h q = some (.inr (4, [.null, .int 0]))) : Calls G yX4_init cX4_init 1 (.none : Option Jvm.ClassFile.FieldType) 1 24 1 8 [.ref q] h (fun v h' => v = none ∧ ∃ p, h p = none ∧ h' = hup (hup h p (aR RX3 8 (lnf [] (fun _ => 0)))) q (mLine p 0)) qX := by
  refine Calls_of1 (by decide +kernel) (by simp [cat_rf, cat_ref, cat_int, cat_null]) (by simp) (lv0 := [some (.ref q)]) rfl ?_
  intro Z hG hZ hE hN
  subst hG
  refine V_aload_n hZ 0 dX4_init_0 rfl rfl (by first | rfl | exact isR_rf _) ?_
  refine V_objInit hZ ml_X4_3 oi_inst oi_code dX4_init_1 (by decide) (by first | decide | (simp [cat_rf, cat_ref, cat_int, cat_null]; done) | (simp [cat_rf, cat_ref, cat_int, cat_null, Value.category]; done)) ?_
  refine V_aload_n hZ 0 dX4_init_4 rfl rfl (by first | rfl | exact isR_rf _) ?_
  refine V_bipush (v := 8) hZ dX4_init_5 (by decide) ?_
  refine V_anew (N := 8) hZ cl_X4_9 ao_X3 dX4_init_7 (by decide) (by decide) (by decide) (by decide) (by decide) (fun p hp => ?_)
  have hne : q ≠ p := fun z => by rw [z, hp] at hq; cases hq
  have hq' : hup h p (aR RX3 8 (fun _ => none)) q = some (.inr (4, [.null, .int 0])) := by rw [hup_ne _ _ hne]; exact hq
  refine V_putF hZ hE rfl fl_X4_11 dX4_init_10 (by first | assumption | exact hup_self _ _ _) (by first | rfl | exact nar_rf _ _) (by first | rfl | exact fits_rf _ _) (by simp) ?_
  refine V_vret hZ hE rfl dX4_init_13 (by decide) (by decide) ?_
  exact ⟨rfl, p, hp, rfl⟩
theorem c_X1_init {q i rc : Nat} {pr : Int32} (hq : h q = some (.inr (1, [.int 0, .int 0, .null, .int 0, .null, .int 0, .int 0, .int 0]))) : Calls G yX1_init cX1_init 4 (.none : Option Jvm.ClassFile.FieldType) 1 24 0 0 [.ref q, .int (nI i), .ref rc, .int pr] h (fun v h' => v = none ∧ h' = hup h q (mCopy i pr rc 0 none (-1) 0 0)) qX := by
  refine Calls_of1 (by decide +kernel) (by simp [cat_rf, cat_ref, cat_int, cat_null]) (by simp) (lv0 := [some (.ref q), some (.int (nI i)), some (.ref rc), some (.int pr)]) rfl ?_
  intro Z hG hZ hE hN
  subst hG
  refine V_aload_n hZ 0 dX1_init_0 rfl rfl (by first | rfl | exact isR_rf _) ?_
  refine V_objInit hZ ml_X1_3 oi_inst oi_code dX1_init_1 (by decide) (by first | decide | (simp [cat_rf, cat_ref, cat_int, cat_null]; done) | (simp [cat_rf, cat_ref, cat_int, cat_null, Value.category]; done)) ?_
  refine V_aload_n hZ 0 dX1_init_4 rfl rfl (by first | rfl | exact isR_rf _) ?_
  refine V_iconst (v := 0) hZ dX1_init_5 (by decide) ?_
  refine V_putfield hZ fl_X1_9 dX1_init_6 (by first | assumption | exact hup_self _ _ _) (by first | rfl | exact nar_rf _ _) (by first | rfl | exact fits_rf _ _) (by simp) ?_
  refine V_aload_n hZ 0 dX1_init_9 rfl rfl (by first | rfl | exact isR_rf _) ?_
  refine V_iconst (v := -1) hZ dX1_init_10 (by decide) ?_
  refine V_putfield hZ fl_X1_15 dX1_init_11 (by first | assumption | exact hup_self _ _ _) (by first | rfl | exact nar_rf _ _) (by first | rfl | exact fits_rf _ _) (by simp) ?_
  rw [hup_hup]
  refine V_aload_n hZ 0 dX1_init_14 rfl rfl (by first | rfl | exact isR_rf _) ?_
  refine V_iload_n hZ 1 dX1_init_15 rfl rfl ?_
  refine V_putF hZ hE rfl fl_X1_18 dX1_init_16 (by first | assumption | exact hup_self _ _ _) (by first | rfl | exact nar_rf _ _) (by first | rfl | exact fits_rf _ _) (by simp) ?_
  rw [hup_hup]
  refine V_aload_n hZ 0 dX1_init_19 rfl rfl (by first | rfl | exact isR_rf _) ?_
  refine V_aload_n hZ 2 dX1_init_20 rfl rfl (by first | rfl | exact isR_rf _) ?_
  refine V_putfield hZ fl_X1_21 dX1_init_21 (by first | assumption | exact hup_self _ _ _) (by first | rfl | exact nar_rf _ _) (by first | rfl | exact fits_rf _ _) (by simp) ?_
  rw [hup_hup]
  refine V_aload_n hZ 0 dX1_init_24 rfl rfl (by first | rfl | exact isR_rf _) ?_
  refine V_iload_n hZ 3 dX1_init_25 rfl rfl ?_
  refine V_putF hZ hE rfl fl_X1_25 dX1_init_26 (by first | assumption | exact hup_self _ _ _) (by first | rfl | exact nar_rf _ _) (by first | rfl | exact fits_rf _ _) (by simp) ?_
  rw [hup_hup]
  refine V_vret hZ hE rfl dX1_init_29 (by decide) (by decide) ?_
  exact ⟨rfl, rfl⟩
theorem c_X2_init {q i : Nat} (hq : h q = some (.inr (2, [.int 0, .null]))) : Calls G yX2_init cX2_init 2 (.none : Option Jvm.ClassFile.FieldType) 1 24 0 0 [.ref q, .int (nI i)] h (fun v h' => v = none ∧ h' = hup h q (mName i)) qX := by
  refine Calls_of1 (by decide +kernel) (by simp [cat_rf, cat_ref, cat_int, cat_null]) (by simp) (lv0 := [some (.ref q), some (.int (nI i))]) rfl ?_
  intro Z hG hZ hE hN
  subst hG
  refine V_aload_n hZ 0 dX2_init_0 rfl rfl (by first | rfl | exact isR_rf _) ?_
  refine V_objInit hZ ml_X2_3 oi_inst oi_code dX2_init_1 (by decide) (by first | decide | (simp [cat_rf, cat_ref, cat_int, cat_null]; done) | (simp [cat_rf, cat_ref, cat_int, cat_null, Value.category]; done)) ?_
  refine V_aload_n hZ 0 dX2_init_4 rfl rfl (by first | rfl | exact isR_rf _) ?_
  refine V_iload_n hZ 1 dX2_init_5 rfl rfl ?_
  refine V_putF hZ hE rfl fl_X2_9 dX2_init_6 (by first | assumption | exact hup_self _ _ _) (by first | rfl | exact nar_rf _ _) (by first | rfl | exact fits_rf _ _) (by simp) ?_
  refine V_vret hZ hE rfl dX2_init_9 (by decide) (by decide) ?_
  exact ⟨rfl, rfl⟩
theorem c_X3_init {q i : Nat} {ki : Int32} (hq : h q = some (.inr (3, [.int 0, .int 0, .int 0]))) : Calls G yX3_init cX3_init 3 (.none : Option Jvm.ClassFile.FieldType) 1 24 0 0 [.ref q, .int (nI i), .int ki] h (fun v h' => v = none ∧ h' = hup h q (mRdr i ki 0)) qX := by
  refine Calls_of1 (by decide +kernel) (by simp [cat_rf, cat_ref, cat_int, cat_null]) (by simp) (lv0 := [some (.ref q), some (.int (nI i)), some (.int ki)]) rfl ?_
  intro Z hG hZ hE hN
  subst hG
  refine V_aload_n hZ 0 dX3_init_0 rfl rfl (by first | rfl | exact isR_rf _) ?_
  refine V_objInit hZ ml_X3_1 oi_inst oi_code dX3_init_1 (by decide) (by first | decide | (simp [cat_rf, cat_ref, cat_int, cat_null]; done) | (simp [cat_rf, cat_ref, cat_int, cat_null, Value.category]; done)) ?_
  refine V_aload_n hZ 0 dX3_init_4 rfl rfl (by first | rfl | exact isR_rf _) ?_
  refine V_iload_n hZ 1 dX3_init_5 rfl rfl ?_
  refine V_putF hZ hE rfl fl_X3_7 dX3_init_6 (by first | assumption | exact hup_self _ _ _) (by first | rfl | exact nar_rf _ _) (by first | rfl | exact fits_rf _ _) (by simp) ?_
  refine V_aload_n hZ 0 dX3_init_9 rfl rfl (by first | rfl | exact isR_rf _) ?_
  refine V_iload_n hZ 2 dX3_init_10 rfl rfl ?_
  refine V_putF hZ hE rfl fl_X3_13 dX3_init_11 (by first | assumption | exact hup_self _ _ _) (by first | rfl | exact nar_rf _ _) (by first | rfl | exact fits_rf _ _) (by simp) ?_
  rw [hup_hup]
  refine V_vret hZ hE rfl dX3_init_14 (by decide) (by decide) ?_
  exact ⟨rfl, rfl⟩
theorem c_X0_init {q i : Nat} {au : Option Nat} {ti ye : Int32} (hq : h q = some (.inr (0, [.int 0, .null, .int 0, .int 0, .null, .null, .int 0]))) : Calls G yX0_init cX0_init 5 (.none : Option Jvm.ClassFile.FieldType) 2 44 2 10 [.ref q, .int (nI i), va_rf au, .int ti, .int ye] h (fun v h' => v = none ∧ ∃ p2 p3, h p2 = none ∧ h p3 = none ∧ p2 ≠ p3 ∧ h' = hup (hup (hup h p3 (aR RX3 8 (lnf [] (fun _ => 0)))) p2 (mLine p3 0)) q (mRec i au ti ye p2 none 0)) qX := by
  refine Calls_of1 (by decide +kernel) (by simp [cat_rf, cat_ref, cat_int, cat_null]) (by simp) (lv0 := [some (.ref q), some (.int (nI i)), some (va_rf au), some (.int ti), some (.int ye)]) rfl ?_
  intro Z hG hZ hE hN
  subst hG
  refine V_aload_n hZ 0 dX0_init_0 rfl rfl (by first | rfl | exact isR_rf _) ?_
  refine V_objInit hZ ml_X0_3 oi_inst oi_code dX0_init_1 (by decide) (by first | decide | (simp [cat_rf, cat_ref, cat_int, cat_null]; done) | (simp [cat_rf, cat_ref, cat_int, cat_null, Value.category]; done)) ?_
  refine V_aload_n hZ 0 dX0_init_4 rfl rfl (by first | rfl | exact isR_rf _) ?_
  refine V_new hZ nw_X0_9 dX0_init_5 (by decide) (by decide) (fun p2 hp2 => ?_)
  refine V_dup hZ dX0_init_8 (by first | rfl | exact cat_rf _) ?_
  have e2 : hup h p2 (.inr (4, [.null, .int 0])) p2 = some (.inr (4, [.null, .int 0])) := hup_self _ _ _
  refine V_invIN hZ me_X4_init mc_X4_init rfl mln_X0_11 (c_X4_init Z.1 e2) dX0_init_9 rfl rfl ⟨by decide, by decide⟩ (by first | decide | (simp [cat_rf, cat_ref, cat_int, cat_null]; done) | (simp [cat_rf, cat_ref, cat_int, cat_null, Value.category]; done)) ⟨by decide, by decide⟩ (fun _ _ hq => hq.elim) ?_
  rintro _ _ ⟨rfl, p3, hp3, rfl⟩
  have n23 : p2 ≠ p3 := fun z => by rw [← z, hup_self] at hp3; cases hp3
  have hp3' : h p3 = none := by rw [hup_ne _ _ (Ne.symm n23)] at hp3; exact hp3
  have nq2 : q ≠ p2 := fun z => by rw [z, hp2] at hq; cases hq
  have nq3 : q ≠ p3 := fun z => by rw [z, hp3'] at hq; cases hq
  rw [hup_comm h n23, hup_hup]
  have hq' : hup (hup h p3 (aR RX3 8 (lnf [] (fun _ => 0)))) p2 (mLine p3 0) q = some (.inr (0, [.int 0, .null, .int 0, .int 0, .null, .null, .int 0])) := by rw [hup_ne _ _ nq2, hup_ne _ _ nq3]; exact hq
  refine V_putF hZ hE rfl fl_X0_12 dX0_init_12 (by first | assumption | exact hup_self _ _ _) (by first | rfl | exact nar_rf _ _) (by first | rfl | exact fits_rf _ _) (by simp) ?_
  refine V_aload_n hZ 0 dX0_init_15 rfl rfl (by first | rfl | exact isR_rf _) ?_
  refine V_iload_n hZ 1 dX0_init_16 rfl rfl ?_
  refine V_putF hZ hE rfl fl_X0_18 dX0_init_17 (by first | assumption | exact hup_self _ _ _) (by first | rfl | exact nar_rf _ _) (by first | rfl | exact fits_rf _ _) (by simp) ?_
  rw [hup_hup]
  refine V_aload_n hZ 0 dX0_init_20 rfl rfl (by first | rfl | exact isR_rf _) ?_
  refine V_aload_n hZ 2 dX0_init_21 rfl rfl (by first | rfl | exact isR_rf _) ?_
  refine V_putF hZ hE rfl fl_X0_22 dX0_init_22 (by first | assumption | exact hup_self _ _ _) (by first | rfl | exact nar_rf _ _) (by first | rfl | exact fits_rf _ _) (by simp) ?_
  rw [hup_hup]
  refine V_aload_n hZ 0 dX0_init_25 rfl rfl (by first | rfl | exact isR_rf _) ?_
  refine V_iload_n hZ 3 dX0_init_26 rfl rfl ?_
  refine V_putF hZ hE rfl fl_X0_26 dX0_init_27 (by first | assumption | exact hup_self _ _ _) (by first | rfl | exact nar_rf _ _) (by first | rfl | exact fits_rf _ _) (by simp) ?_
  rw [hup_hup]
  refine V_aload_n hZ 0 dX0_init_30 rfl rfl (by first | rfl | exact isR_rf _) ?_
  refine V_iload hZ dX0_init_31 rfl ?_
  refine V_putF hZ hE rfl fl_X0_29 dX0_init_33 (by first | assumption | exact hup_self _ _ _) (by first | rfl | exact nar_rf _ _) (by first | rfl | exact fits_rf _ _) (by simp) ?_
  rw [hup_hup]
  refine V_vret hZ hE rfl dX0_init_36 (by decide) (by decide) ?_
  exact ⟨rfl, p2, p3, hp2, hp3', n23, rfl⟩
theorem hup_none {h : HP} {q p : Nat} {e : ME} (hp : hup h q e p = none) : p ≠ q ∧ h p = none := by
  by_cases z : p = q
  · rw [z, hup_self] at hp; cases hp
  · exact ⟨z, by rw [hup_ne _ _ z] at hp; exact hp⟩
theorem rowf_0 (f : Nat → Nat) : rowf 0 f = fun _ => none := by funext i; simp [rowf]
abbrev S00 (q p1 p2 p3 p4 : Nat) : St := (((q, p1, p2, p3, p4), fun _ => 0, fun _ => 0, fun _ => 0, fun _ => 0, fun _ => 0, fun _ => 0), (0, 0, 0, 0, 0), fun _ => (none, 0, 0, none, 0), fun _ => [], fun _ => (0, 0, 0, none, 0, 0, 0), fun _ => (0, 0))
theorem c_X5_init {q : Nat} (hq : h q = some (.inr (5, [.null, .null, .null, .null, .int 0, .int 0, .int 0, .int 0, .int 0]))) : Calls G yX5_init cX5_init 1 (.none : Option Jvm.ClassFile.FieldType) 1 24 4 74 [.ref q] h (fun v h' => v = none ∧ ∃ p1 p2 p3 p4, Rep (S00 q p1 p2 p3 p4) h') qX := by
  refine Calls_of1 (by decide +kernel) (by simp [cat_rf, cat_ref, cat_int, cat_null]) (by simp) (lv0 := [some (.ref q)]) rfl ?_
  intro Z hG hZ hE hN
  subst hG
  refine V_aload_n hZ 0 dX5_init_0 rfl rfl (by first | rfl | exact isR_rf _) ?_
  refine V_objInit hZ ml_X5_1 oi_inst oi_code dX5_init_1 (by decide) (by first | decide | (simp [cat_rf, cat_ref, cat_int, cat_null]; done) | (simp [cat_rf, cat_ref, cat_int, cat_null, Value.category]; done)) ?_
  refine V_aload_n hZ 0 dX5_init_4 rfl rfl (by first | rfl | exact isR_rf _) ?_
  refine V_bipush (v := 16) hZ dX5_init_5 (by decide) ?_
  refine V_anew (N := 16) hZ cl_X5_9 ao_X2 dX5_init_7 (by decide) (by decide) (by decide) (by decide) (by decide) (fun p1 hp1 => ?_)
  have n1 : q ≠ p1 := fun z => by rw [z, hp1] at hq; cases hq
  have f1 : hup h p1 (aR RX2 16 (fun _ => none)) q = some (.inr (5, [.null, .null, .null, .null, .int 0, .int 0, .int 0, .int 0, .int 0])) := by rw [hup_ne _ _ n1]; exact hq
  refine V_putF hZ hE rfl fl_X5_11 dX5_init_10 (by first | assumption | exact hup_self _ _ _) (by first | rfl | exact nar_rf _ _) (by first | rfl | exact fits_rf _ _) (by simp) ?_
  refine V_aload_n hZ 0 dX5_init_13 rfl rfl (by first | rfl | exact isR_rf _) ?_
  refine V_bipush (v := 20) hZ dX5_init_14 (by decide) ?_
  refine V_anew (N := 20) hZ cl_X5_15 ao_X0 dX5_init_16 (by decide) (by decide) (by decide) (by decide) (by decide) (fun p2 hp2 => ?_)
  obtain ⟨n2q, k2⟩ := hup_none hp2
  obtain ⟨n21, -⟩ := hup_none k2
  have f2 := fun (g : HP) (e : ME) => (hup_ne (hup g q e) (aR RX0 20 (fun _ => none)) (Ne.symm n2q)).trans (hup_self g q e)
  have f2' := f2 (hup h p1 (aR RX2 16 (fun _ => none))) (.inr (5, [.ref p1, .null, .null, .null, .int 0, .int 0, .int 0, .int 0, .int 0]))
  refine V_putF hZ hE rfl fl_X5_17 dX5_init_19 (by first | assumption | exact hup_self _ _ _) (by first | rfl | exact nar_rf _ _) (by first | rfl | exact fits_rf _ _) (by simp) ?_
  refine V_aload_n hZ 0 dX5_init_22 rfl rfl (by first | rfl | exact isR_rf _) ?_
  refine V_bipush (v := 30) hZ dX5_init_23 (by decide) ?_
  refine V_anew (N := 30) hZ cl_X5_21 ao_X1 dX5_init_25 (by decide) (by decide) (by decide) (by decide) (by decide) (fun p3 hp3 => ?_)
  obtain ⟨n3q, k3⟩ := hup_none hp3
  obtain ⟨n32, k3⟩ := hup_none k3
  obtain ⟨-, k3⟩ := hup_none k3
  obtain ⟨n31, -⟩ := hup_none k3
  have f3 := fun (g : HP) (e : ME) => (hup_ne (hup g q e) (aR RX1 30 (fun _ => none)) (Ne.symm n3q)).trans (hup_self g q e)
  have f3' := f3 (hup (hup (hup h p1 (aR RX2 16 (fun _ => none))) q (.inr (5, [.ref p1, .null, .null, .null, .int 0, .int 0, .int 0, .int 0, .int 0]))) p2 (aR RX0 20 (fun _ => none))) (.inr (5, [.ref p1, .ref p2, .null, .null, .int 0, .int 0, .int 0, .int 0, .int 0]))
  refine V_putF hZ hE rfl fl_X5_23 dX5_init_28 (by first | assumption | exact hup_self _ _ _) (by first | rfl | exact nar_rf _ _) (by first | rfl | exact fits_rf _ _) (by simp) ?_
  refine V_aload_n hZ 0 dX5_init_31 rfl rfl (by first | rfl | exact isR_rf _) ?_
  refine V_bipush (v := 8) hZ dX5_init_32 (by decide) ?_
  refine V_anew (N := 8) hZ cl_X5_27 ao_X3 dX5_init_34 (by decide) (by decide) (by decide) (by decide) (by decide) (fun p4 hp4 => ?_)
  obtain ⟨n4q, k4⟩ := hup_none hp4
  obtain ⟨n43, k4⟩ := hup_none k4
  obtain ⟨-, k4⟩ := hup_none k4
  obtain ⟨n42, k4⟩ := hup_none k4
  obtain ⟨-, k4⟩ := hup_none k4
  obtain ⟨n41, -⟩ := hup_none k4
  have f4 := fun (g : HP) (e : ME) => (hup_ne (hup g q e) (aR RX3 8 (fun _ => none)) (Ne.symm n4q)).trans (hup_self g q e)
  have f4' := f4 (hup (hup (hup (hup (hup h p1 (aR RX2 16 (fun _ => none))) q (.inr (5, [.ref p1, .null, .null, .null, .int 0, .int 0, .int 0, .int 0, .int 0]))) p2 (aR RX0 20 (fun _ => none))) q (.inr (5, [.ref p1, .ref p2, .null, .null, .int 0, .int 0, .int 0, .int 0, .int 0]))) p3 (aR RX1 30 (fun _ => none))) (.inr (5, [.ref p1, .ref p2, .ref p3, .null, .int 0, .int 0, .int 0, .int 0, .int 0]))
  refine V_putF hZ hE rfl fl_X5_29 dX5_init_37 (by first | assumption | exact hup_self _ _ _) (by first | rfl | exact nar_rf _ _) (by first | rfl | exact fits_rf _ _) (by simp) ?_
  refine V_vret hZ hE rfl dX5_init_40 (by decide) (by decide) ?_
  refine ⟨rfl, p1, p2, p3, p4, ?_, ?_, ?_, ?_, ?_, fun j hj => absurd hj (Nat.not_lt_zero _), fun j hj => absurd hj (Nat.not_lt_zero _), fun j hj => absurd hj (Nat.not_lt_zero _), fun j hj => absurd hj (Nat.not_lt_zero _), fun j hj => absurd hj (Nat.not_lt_zero _), fun j hj => absurd hj (Nat.not_lt_zero _), fun a b ha => absurd ha (Nat.not_lt_zero _), fun a ha => absurd ha (Nat.not_lt_zero _)⟩
  · exact hup_self _ _ _
  · show _ = some (aR RX2 16 (rowf 0 _))
    rw [rowf_0]
    rw [hup_ne _ _ (Ne.symm n1), hup_ne _ _ (Ne.symm n41), hup_ne _ _ (Ne.symm n1), hup_ne _ _ (Ne.symm n31), hup_ne _ _ (Ne.symm n1), hup_ne _ _ (Ne.symm n21), hup_ne _ _ (Ne.symm n1), hup_self]
  · show _ = some (aR RX0 20 (rowf 0 _))
    rw [rowf_0]
    rw [hup_ne _ _ n2q, hup_ne _ _ (Ne.symm n42), hup_ne _ _ n2q, hup_ne _ _ (Ne.symm n32), hup_ne _ _ n2q, hup_self]
  · show _ = some (aR RX1 30 (rowf 0 _))
    rw [rowf_0]
    rw [hup_ne _ _ n3q, hup_ne _ _ (Ne.symm n43), hup_ne _ _ n3q, hup_self]
  · show _ = some (aR RX3 8 (rowf 0 _))
    rw [rowf_0]
    rw [hup_ne _ _ n4q, hup_self]
end
/-! a name, a reader, a record, a copy more -/
theorem rowf_push (n : Nat) (f : Nat → Nat) (q : Nat) : rowf (n + 1) (va_up f n q) = va_up (rowf n f) n (some q) := by
  funext i
  simp only [rowf, va_up]
  by_cases hi : i = n
  · subst hi; simp
  · rw [if_neg hi, if_neg hi]
    by_cases h2 : i < n
    · rw [if_pos h2, if_pos (by omega)]
    · rw [if_neg h2, if_neg (by omega)]
theorem nq_of {h : HP} {a q : Nat} {x : ME} (ha : h a = some x) (hq : h q = none) : a ≠ q := fun z => by rw [z, hq] at ha; cases ha
abbrev addCp (S : St) (q : Nat) (c : Cp) : St := ((S.1.1, adN S, adR S, adL S, adQ S, va_up (adC S) (nCp S) q, adD S), (nNm S, nRc S, nCp S + 1, nRd S, tdy S), S.2.2.1, S.2.2.2.1, va_up (cps S) (nCp S) c, S.2.2.2.2.2)
abbrev addRd (S : St) (q : Nat) (d : Rd) : St := ((S.1.1, adN S, adR S, adL S, adQ S, adC S, va_up (adD S) (nRd S) q), (nNm S, nRc S, nCp S, nRd S + 1, tdy S), S.2.2.1, S.2.2.2.1, S.2.2.2.2.1, va_up (rds S) (nRd S) d)
abbrev addNm (S : St) (q : Nat) : St := ((S.1.1, va_up (adN S) (nNm S) q, adR S, adL S, adQ S, adC S, adD S), (nNm S + 1, nRc S, nCp S, nRd S, tdy S), S.2.2.1, S.2.2.2.1, S.2.2.2.2.1, S.2.2.2.2.2)
abbrev addRc (S : St) (q q2 q3 : Nat) (r : Rc) : St := ((S.1.1, adN S, va_up (adR S) (nRc S) q, va_up (adL S) (nRc S) q2, va_up (adQ S) (nRc S) q3, adC S, adD S), (nNm S, nRc S + 1, nCp S, nRd S, tdy S), va_up (rcs S) (nRc S) r, va_up (lin S) (nRc S) [], S.2.2.2.2.1, S.2.2.2.2.2)
theorem up_ne {α : Type} {f : Nat → α} {k j : Nat} {v : α} (h : ¬ j = k) : va_up f k v j = f j := by simp [va_up, h]
theorem up_eq {α : Type} {f : Nat → α} {k : Nat} {v : α} : va_up f k v k = v := by simp [va_up]
theorem map_up {o : Option Nat} {f : Nat → Nat} {n q : Nat} (h : ∀ x, o = some x → x < n) : o.map (va_up f n q) = o.map f := by
  cases o with
  | none => rfl
  | some x =>
    have := h x rfl
    simp only [Option.map_some]
    rw [up_ne (by omega)]
section
variable {h : HP} {S : St}
theorem rep_addCp (R : Rep S h) (W : Wf S) {q : Nat} (hq : h q = none) (c : Cp) : Rep (addCp S q c) (hup (hup (hup h q (mCopy (nCp S) (cpPr c) (adR S (cpRc c)) (cpPl c) ((cpRd c).map (adD S)) (cpDy c) (cpRn c) (cpTh c))) (aCs S) (aR RX1 30 (va_up (rowf (nCp S) (adC S)) (nCp S) (some q)))) (aH S) (oHall (addCp S q c))) := by
  have k : ∀ {a : Nat} {x : ME}, h a = some x → a ≠ aCs S → a ≠ aH S → hup (hup (hup h q (mCopy (nCp S) (cpPr c) (adR S (cpRc c)) (cpPl c) ((cpRd c).map (adD S)) (cpDy c) (cpRn c) (cpTh c))) (aCs S) (aR RX1 30 (va_up (rowf (nCp S) (adC S)) (nCp S) (some q)))) (aH S) (oHall (addCp S q c)) a = some x := by
    intro a x ha n1 n2
    rw [hup_ne _ _ n2, hup_ne _ _ n1, hup_ne _ _ (nq_of ha hq)]
    exact ha
  have hH := R.hall
  have hC := R.copies
  refine ⟨hup_self _ _ _, ?_, ?_, ?_, ?_, fun j hj => ?_, fun j hj => ?_, fun j hj => ?_, fun j hj => ?_, fun j hj => ?_, fun j hj => ?_, fun a b ha hb => R.rowInj ha hb, fun a ha => R.rowNe ha⟩
  · exact k R.names (ne_of R.names hC (by simp [aR])) (ne_of R.names hH (by simp [aR]))
  · exact k R.records (ne_of R.records hC (by simp [aR])) (ne_of R.records hH (by simp [aR]))
  · show _ = some (aR RX1 30 (rowf (nCp S + 1) (va_up (adC S) (nCp S) q)))
    rw [rowf_push, hup_ne _ _ (ne_of hC hH (by simp [aR])), hup_self]
  · exact k R.readers (ne_of R.readers hC (by simp [aR])) (ne_of R.readers hH (by simp [aR]))
  · exact k (R.name hj) (ne_of (R.name hj) hC (by simp [aR])) (ne_of (R.name hj) hH (by simp))
  · exact k (R.rec hj) (ne_of (R.rec hj) hC (by simp [aR])) (ne_of (R.rec hj) hH (by simp))
  · exact k (R.line hj) (ne_of (R.line hj) hC (by simp [aR])) (ne_of (R.line hj) hH (by simp))
  · exact k (R.row hj) (ne_of (R.row hj) hC (by simp [aR])) (ne_of (R.row hj) hH (by simp [aR]))
  · by_cases hji : j = nCp S
    · have e : va_up (cps S) (nCp S) c j = c := by rw [hji, up_eq]
      have e2 : va_up (adC S) (nCp S) q j = q := by rw [hji, up_eq]
      show hup _ (aH S) _ (va_up (adC S) (nCp S) q j) = some (mCopy j (cpPr (va_up (cps S) (nCp S) c j)) (adR S (cpRc (va_up (cps S) (nCp S) c j))) (cpPl (va_up (cps S) (nCp S) c j)) ((cpRd (va_up (cps S) (nCp S) c j)).map (adD S)) (cpDy (va_up (cps S) (nCp S) c j)) (cpRn (va_up (cps S) (nCp S) c j)) (cpTh (va_up (cps S) (nCp S) c j)))
      rw [e, e2, hup_ne _ _ (Ne.symm (nq_of hH hq)), hup_ne _ _ (Ne.symm (nq_of hC hq)), hup_self, hji]
    · have hj' : j < nCp S := by
        have : j < nCp S + 1 := hj
        omega
      have e : va_up (cps S) (nCp S) c j = cps S j := up_ne hji
      have e2 : va_up (adC S) (nCp S) q j = adC S j := up_ne hji
      show hup _ (aH S) _ (va_up (adC S) (nCp S) q j) = some (mCopy j (cpPr (va_up (cps S) (nCp S) c j)) (adR S (cpRc (va_up (cps S) (nCp S) c j))) (cpPl (va_up (cps S) (nCp S) c j)) ((cpRd (va_up (cps S) (nCp S) c j)).map (adD S)) (cpDy (va_up (cps S) (nCp S) c j)) (cpRn (va_up (cps S) (nCp S) c j)) (cpTh (va_up (cps S) (nCp S) c j)))
      rw [e, e2]
      exact k (R.copy hj') (ne_of (R.copy hj') hC (by simp [aR])) (ne_of (R.copy hj') hH (by simp))
  · exact k (R.rdr hj) (ne_of (R.rdr hj) hC (by simp [aR])) (ne_of (R.rdr hj) hH (by simp))
theorem rep_addRd (R : Rep S h) (W : Wf S) {q : Nat} (hq : h q = none) (d : Rd) : Rep (addRd S q d) (hup (hup (hup h q (mRdr (nRd S) (rdKi d) (rdOw d))) (aDs S) (aR RX3 8 (va_up (rowf (nRd S) (adD S)) (nRd S) (some q)))) (aH S) (oHall (addRd S q d))) := by
  have k : ∀ {a : Nat} {x : ME}, h a = some x → a ≠ aDs S → a ≠ aH S → hup (hup (hup h q (mRdr (nRd S) (rdKi d) (rdOw d))) (aDs S) (aR RX3 8 (va_up (rowf (nRd S) (adD S)) (nRd S) (some q)))) (aH S) (oHall (addRd S q d)) a = some x := by
    intro a x ha n1 n2
    rw [hup_ne _ _ n2, hup_ne _ _ n1, hup_ne _ _ (nq_of ha hq)]
    exact ha
  have hH := R.hall
  have hC := R.readers
  refine ⟨hup_self _ _ _, ?_, ?_, ?_, ?_, fun j hj => ?_, fun j hj => ?_, fun j hj => ?_, fun j hj => ?_, fun j hj => ?_, fun j hj => ?_, fun a b ha hb => R.rowInj ha hb, fun a ha => R.rowNe ha⟩
  · exact k R.names (ne_of R.names hC (by simp [aR])) (ne_of R.names hH (by simp [aR]))
  · exact k R.records (ne_of R.records hC (by simp [aR])) (ne_of R.records hH (by simp [aR]))
  · exact k R.copies (ne_of R.copies hC (by simp [aR])) (ne_of R.copies hH (by simp [aR]))
  · show _ = some (aR RX3 8 (rowf (nRd S + 1) (va_up (adD S) (nRd S) q)))
    rw [rowf_push, hup_ne _ _ (ne_of hC hH (by simp [aR])), hup_self]
  · exact k (R.name hj) (ne_of (R.name hj) hC (by simp [aR])) (ne_of (R.name hj) hH (by simp))
  · exact k (R.rec hj) (ne_of (R.rec hj) hC (by simp [aR])) (ne_of (R.rec hj) hH (by simp))
  · exact k (R.line hj) (ne_of (R.line hj) hC (by simp [aR])) (ne_of (R.line hj) hH (by simp))
  · have e : lnf (lin S j) (va_up (adD S) (nRd S) q) = lnf (lin S j) (adD S) := by
      funext i
      exact map_up (fun x hx => (W.2.2.2.2.2.1 j hj).2.1 x (List.mem_of_getElem? hx))
    show _ = some (aR RX3 8 (lnf (lin S j) (va_up (adD S) (nRd S) q)))
    rw [e]
    exact k (R.row hj) (R.rowNe hj) (ne_of (R.row hj) hH (by simp [aR]))
  · have e : (cpRd (cps S j)).map (va_up (adD S) (nRd S) q) = (cpRd (cps S j)).map (adD S) := map_up (W_rdr W hj)
    show _ = some (mCopy j (cpPr (cps S j)) (adR S (cpRc (cps S j))) (cpPl (cps S j)) ((cpRd (cps S j)).map (va_up (adD S) (nRd S) q)) (cpDy (cps S j)) (cpRn (cps S j)) (cpTh (cps S j)))
    rw [e]
    exact k (R.copy hj) (ne_of (R.copy hj) hC (by simp [aR])) (ne_of (R.copy hj) hH (by simp))
  · by_cases hji : j = nRd S
    · have e : va_up (rds S) (nRd S) d j = d := by rw [hji, up_eq]
      have e2 : va_up (adD S) (nRd S) q j = q := by rw [hji, up_eq]
      show hup _ (aH S) _ (va_up (adD S) (nRd S) q j) = some (mRdr j (rdKi (va_up (rds S) (nRd S) d j)) (rdOw (va_up (rds S) (nRd S) d j)))
      rw [e, e2, hup_ne _ _ (Ne.symm (nq_of hH hq)), hup_ne _ _ (Ne.symm (nq_of hC hq)), hup_self, hji]
    · have hj' : j < nRd S := by
        have : j < nRd S + 1 := hj
        omega
      have e : va_up (rds S) (nRd S) d j = rds S j := up_ne hji
      have e2 : va_up (adD S) (nRd S) q j = adD S j := up_ne hji
      show hup _ (aH S) _ (va_up (adD S) (nRd S) q j) = some (mRdr j (rdKi (va_up (rds S) (nRd S) d j)) (rdOw (va_up (rds S) (nRd S) d j)))
      rw [e, e2]
      exact k (R.rdr hj') (ne_of (R.rdr hj') hC (by simp [aR])) (ne_of (R.rdr hj') hH (by simp))
theorem rep_addNm (R : Rep S h) (W : Wf S) {q : Nat} (hq : h q = none) : Rep (addNm S q) (hup (hup (hup h q (mName (nNm S))) (aNs S) (aR RX2 16 (va_up (rowf (nNm S) (adN S)) (nNm S) (some q)))) (aH S) (oHall (addNm S q))) := by
  have k : ∀ {a : Nat} {x : ME}, h a = some x → a ≠ aNs S → a ≠ aH S → hup (hup (hup h q (mName (nNm S))) (aNs S) (aR RX2 16 (va_up (rowf (nNm S) (adN S)) (nNm S) (some q)))) (aH S) (oHall (addNm S q)) a = some x := by
    intro a x ha n1 n2
    rw [hup_ne _ _ n2, hup_ne _ _ n1, hup_ne _ _ (nq_of ha hq)]
    exact ha
  have hH := R.hall
  have hC := R.names
  refine ⟨hup_self _ _ _, ?_, ?_, ?_, ?_, fun j hj => ?_, fun j hj => ?_, fun j hj => ?_, fun j hj => ?_, fun j hj => ?_, fun j hj => ?_, fun a b ha hb => R.rowInj ha hb, fun a ha => R.rowNe ha⟩
  · show _ = some (aR RX2 16 (rowf (nNm S + 1) (va_up (adN S) (nNm S) q)))
    rw [rowf_push, hup_ne _ _ (ne_of hC hH (by simp [aR])), hup_self]
  · exact k R.records (ne_of R.records hC (by simp [aR])) (ne_of R.records hH (by simp [aR]))
  · exact k R.copies (ne_of R.copies hC (by simp [aR])) (ne_of R.copies hH (by simp [aR]))
  · exact k R.readers (ne_of R.readers hC (by simp [aR])) (ne_of R.readers hH (by simp [aR]))
  · by_cases hji : j = nNm S
    · have e2 : va_up (adN S) (nNm S) q j = q := by rw [hji, up_eq]
      show hup _ (aH S) _ (va_up (adN S) (nNm S) q j) = some (mName j)
      rw [e2, hup_ne _ _ (Ne.symm (nq_of hH hq)), hup_ne _ _ (Ne.symm (nq_of hC hq)), hup_self, hji]
    · have hj' : j < nNm S := by
        have : j < nNm S + 1 := hj
        omega
      have e2 : va_up (adN S) (nNm S) q j = adN S j := up_ne hji
      show hup _ (aH S) _ (va_up (adN S) (nNm S) q j) = some (mName j)
      rw [e2]
      exact k (R.name hj') (ne_of (R.name hj') hC (by simp [aR])) (ne_of (R.name hj') hH (by simp))
  · have e : (rcAu (rcs S j)).map (va_up (adN S) (nNm S) q) = (rcAu (rcs S j)).map (adN S) := map_up (W.2.2.2.2.1 j hj).1
    show _ = some (mRec j ((rcAu (rcs S j)).map (va_up (adN S) (nNm S) q)) (rcTi (rcs S j)) (rcYe (rcs S j)) (adL S j) ((rcWe (rcs S j)).map (adR S)) (rcLe (rcs S j)))
    rw [e]
    exact k (R.rec hj) (ne_of (R.rec hj) hC (by simp [aR])) (ne_of (R.rec hj) hH (by simp))
  · exact k (R.line hj) (ne_of (R.line hj) hC (by simp [aR])) (ne_of (R.line hj) hH (by simp))
  · exact k (R.row hj) (ne_of (R.row hj) hC (by simp [aR])) (ne_of (R.row hj) hH (by simp [aR]))
  · exact k (R.copy hj) (ne_of (R.copy hj) hC (by simp [aR])) (ne_of (R.copy hj) hH (by simp))
  · exact k (R.rdr hj) (ne_of (R.rdr hj) hC (by simp [aR])) (ne_of (R.rdr hj) hH (by simp))
theorem rep_addRc (R : Rep S h) (W : Wf S) {q q2 q3 : Nat} (hq : h q = none) (hq2 : h q2 = none) (hq3 : h q3 = none) (n12 : q ≠ q2) (n13 : q ≠ q3) (n23 : q2 ≠ q3) (r : Rc) (hw : ∀ j, rcWe r = some j → j < nRc S) : Rep (addRc S q q2 q3 r) (hup (hup (hup (hup (hup h q3 (aR RX3 8 (lnf [] (fun _ => 0)))) q2 (mLine q3 0)) q (mRec (nRc S) ((rcAu r).map (adN S)) (rcTi r) (rcYe r) q2 ((rcWe r).map (adR S)) (rcLe r))) (aRs S) (aR RX0 20 (va_up (rowf (nRc S) (adR S)) (nRc S) (some q)))) (aH S) (oHall (addRc S q q2 q3 r))) := by
  generalize hm : hup (hup (hup h q3 (aR RX3 8 (lnf [] (fun _ => 0)))) q2 (mLine q3 0)) q (mRec (nRc S) ((rcAu r).map (adN S)) (rcTi r) (rcYe r) q2 ((rcWe r).map (adR S)) (rcLe r)) = g
  have k : ∀ {a : Nat} {x : ME}, h a = some x → a ≠ aRs S → a ≠ aH S → hup (hup g (aRs S) (aR RX0 20 (va_up (rowf (nRc S) (adR S)) (nRc S) (some q)))) (aH S) (oHall (addRc S q q2 q3 r)) a = some x := by
    intro a x ha n1 n2
    rw [hup_ne _ _ n2, hup_ne _ _ n1, ← hm, hup_ne _ _ (nq_of ha hq), hup_ne _ _ (nq_of ha hq2), hup_ne _ _ (nq_of ha hq3)]
    exact ha
  have hH := R.hall
  have hC := R.records
  have kn : ∀ {a : Nat} {x : ME}, h a = none → g a = some x → hup (hup g (aRs S) (aR RX0 20 (va_up (rowf (nRc S) (adR S)) (nRc S) (some q)))) (aH S) (oHall (addRc S q q2 q3 r)) a = some x := by
    intro a x h1 h2
    rw [hup_ne _ _ (Ne.symm (nq_of hH h1)), hup_ne _ _ (Ne.symm (nq_of hC h1))]
    exact h2
  have g1 : g q = some (mRec (nRc S) ((rcAu r).map (adN S)) (rcTi r) (rcYe r) q2 ((rcWe r).map (adR S)) (rcLe r)) := by rw [← hm, hup_self]
  have g2 : g q2 = some (mLine q3 0) := by rw [← hm, hup_ne _ _ (Ne.symm n12), hup_self]
  have g3 : g q3 = some (aR RX3 8 (lnf [] (fun _ => 0))) := by rw [← hm, hup_ne _ _ (Ne.symm n13), hup_ne _ _ (Ne.symm n23), hup_self]
  have hlt : ∀ j, j < nRc (addRc S q q2 q3 r) → ¬ j = nRc S → j < nRc S := by
    intro j hj hne
    have : j < nRc S + 1 := hj
    omega
  refine ⟨hup_self _ _ _, ?_, ?_, ?_, ?_, fun j hj => ?_, fun j hj => ?_, fun j hj => ?_, fun j hj => ?_, fun j hj => ?_, fun j hj => ?_, fun a b ha hb he => ?_, fun a ha he => ?_⟩
  · exact k R.names (ne_of R.names hC (by simp [aR])) (ne_of R.names hH (by simp [aR]))
  · show _ = some (aR RX0 20 (rowf (nRc S + 1) (va_up (adR S) (nRc S) q)))
    rw [rowf_push, hup_ne _ _ (ne_of hC hH (by simp [aR])), hup_self]
  · exact k R.copies (ne_of R.copies hC (by simp [aR])) (ne_of R.copies hH (by simp [aR]))
  · exact k R.readers (ne_of R.readers hC (by simp [aR])) (ne_of R.readers hH (by simp [aR]))
  · exact k (R.name hj) (ne_of (R.name hj) hC (by simp [aR])) (ne_of (R.name hj) hH (by simp))
  · by_cases hji : j = nRc S
    · have e1 : va_up (adR S) (nRc S) q j = q := by rw [hji, up_eq]
      have e2 : va_up (adL S) (nRc S) q2 j = q2 := by rw [hji, up_eq]
      have e3 : va_up (rcs S) (nRc S) r j = r := by rw [hji, up_eq]
      show hup _ _ _ (va_up (adR S) (nRc S) q j) = some (mRec j ((rcAu (va_up (rcs S) (nRc S) r j)).map (adN S)) (rcTi (va_up (rcs S) (nRc S) r j)) (rcYe (va_up (rcs S) (nRc S) r j)) (va_up (adL S) (nRc S) q2 j) ((rcWe (va_up (rcs S) (nRc S) r j)).map (va_up (adR S) (nRc S) q)) (rcLe (va_up (rcs S) (nRc S) r j)))
      rw [e1, e2, e3, map_up hw, hji]
      exact kn hq g1
    · have hj' := hlt j hj hji
      have e1 : va_up (adR S) (nRc S) q j = adR S j := up_ne hji
      have e2 : va_up (adL S) (nRc S) q2 j = adL S j := up_ne hji
      have e3 : va_up (rcs S) (nRc S) r j = rcs S j := up_ne hji
      show hup _ _ _ (va_up (adR S) (nRc S) q j) = some (mRec j ((rcAu (va_up (rcs S) (nRc S) r j)).map (adN S)) (rcTi (va_up (rcs S) (nRc S) r j)) (rcYe (va_up (rcs S) (nRc S) r j)) (va_up (adL S) (nRc S) q2 j) ((rcWe (va_up (rcs S) (nRc S) r j)).map (va_up (adR S) (nRc S) q)) (rcLe (va_up (rcs S) (nRc S) r j)))
      rw [e1, e2, e3, map_up (W.2.2.2.2.1 j hj').2]
      exact k (R.rec hj') (ne_of (R.rec hj') hC (by simp [aR])) (ne_of (R.rec hj') hH (by simp))
  · by_cases hji : j = nRc S
    · have e2 : va_up (adL S) (nRc S) q2 j = q2 := by rw [hji, up_eq]
      have e3 : va_up (adQ S) (nRc S) q3 j = q3 := by rw [hji, up_eq]
      have e4 : va_up (lin S) (nRc S) [] j = [] := by rw [hji, up_eq]
      show hup _ _ _ (va_up (adL S) (nRc S) q2 j) = some (mLine (va_up (adQ S) (nRc S) q3 j) (va_up (lin S) (nRc S) [] j).length)
      rw [e2, e3, e4]
      exact kn hq2 g2
    · have hj' := hlt j hj hji
      have e2 : va_up (adL S) (nRc S) q2 j = adL S j := up_ne hji
      have e3 : va_up (adQ S) (nRc S) q3 j = adQ S j := up_ne hji
      have e4 : va_up (lin S) (nRc S) [] j = lin S j := up_ne hji
      show hup _ _ _ (va_up (adL S) (nRc S) q2 j) = some (mLine (va_up (adQ S) (nRc S) q3 j) (va_up (lin S) (nRc S) [] j).length)
      rw [e2, e3, e4]
      exact k (R.line hj') (ne_of (R.line hj') hC (by simp [aR])) (ne_of (R.line hj') hH (by simp))
  · by_cases hji : j = nRc S
    · have e3 : va_up (adQ S) (nRc S) q3 j = q3 := by rw [hji, up_eq]
      have e4 : va_up (lin S) (nRc S) [] j = [] := by rw [hji, up_eq]
      show hup _ _ _ (va_up (adQ S) (nRc S) q3 j) = some (aR RX3 8 (lnf (va_up (lin S) (nRc S) [] j) (adD S)))
      rw [e3, e4]
      exact kn hq3 g3
    · have hj' := hlt j hj hji
      have e3 : va_up (adQ S) (nRc S) q3 j = adQ S j := up_ne hji
      have e4 : va_up (lin S) (nRc S) [] j = lin S j := up_ne hji
      show hup _ _ _ (va_up (adQ S) (nRc S) q3 j) = some (aR RX3 8 (lnf (va_up (lin S) (nRc S) [] j) (adD S)))
      rw [e3, e4]
      exact k (R.row hj') (ne_of (R.row hj') hC (by simp [aR])) (ne_of (R.row hj') hH (by simp [aR]))
  · have e : va_up (adR S) (nRc S) q (cpRc (cps S j)) = adR S (cpRc (cps S j)) := up_ne (by have := W_rec W hj; omega)
    show _ = some (mCopy j (cpPr (cps S j)) (va_up (adR S) (nRc S) q (cpRc (cps S j))) (cpPl (cps S j)) ((cpRd (cps S j)).map (adD S)) (cpDy (cps S j)) (cpRn (cps S j)) (cpTh (cps S j)))
    rw [e]
    exact k (R.copy hj) (ne_of (R.copy hj) hC (by simp [aR])) (ne_of (R.copy hj) hH (by simp))
  · exact k (R.rdr hj) (ne_of (R.rdr hj) hC (by simp [aR])) (ne_of (R.rdr hj) hH (by simp))
  · have he' : va_up (adQ S) (nRc S) q3 a = va_up (adQ S) (nRc S) q3 b := he
    by_cases h1 : a = nRc S
    · by_cases h2 : b = nRc S
      · rw [h1, h2]
      · rw [h1, up_eq, up_ne h2] at he'
        exact absurd he'.symm (nq_of (R.row (hlt b hb h2)) hq3)
    · by_cases h2 : b = nRc S
      · rw [h2, up_eq, up_ne h1] at he'
        exact absurd he' (nq_of (R.row (hlt a ha h1)) hq3)
      · rw [up_ne h1, up_ne h2] at he'
        exact R.rowInj (hlt a ha h1) (hlt b hb h2) he'
  · have he' : va_up (adQ S) (nRc S) q3 a = aDs S := he
    by_cases h1 : a = nRc S
    · rw [h1, up_eq] at he'
      exact absurd he'.symm (nq_of R.readers hq3)
    · rw [up_ne h1] at he'
      exact R.rowNe (hlt a ha h1) he'
end

