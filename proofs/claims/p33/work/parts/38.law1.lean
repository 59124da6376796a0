/-! the law's own: below, cell, are the copies right -/
theorem i32_remN (x y : Int32) : (x - (x / y) * y).toInt = x.toInt.tmod y.toInt := by
  have a := (x % y).toInt_lt
  have b := (x % y).le_toInt
  rw [Int32.toInt_mod] at a b
  rw [Int32.toInt_sub, Int32.toInt_mul, Int32.toInt_div, Int.bmod_mul_bmod, Int.sub_bmod_bmod, Int.mul_comm, ← Int.tmod_def]
  exact Int.bmod_eq_of_le (by omega) (by omega)
def bl (x : Int32) (n : Nat) : Nat := (x &&& 2147483647).toInt.toNat % n
theorem bl_lt (x : Int32) {n : Nat} (hn : 0 < n) : bl x n < n := Nat.mod_lt _ hn
theorem bl_eq (x : Int32) {n : Nat} (hn : 0 < n) (hn2 : n < 2 ^ 31) : (x &&& 2147483647) - (x &&& 2147483647) / nI n * nI n = nI (bl x n) := by
  have hm : (x &&& 2147483647).toInt = x.toInt % 2 ^ 31 := Jvm.Kit.i32_mask x 2147483647 (k := 31) (by decide) (by decide)
  have h0 : 0 ≤ (x &&& 2147483647).toInt := by rw [hm]; omega
  apply Int32.toInt_inj.mp
  have hb := bl_lt x hn
  rw [i32_remN, nI_toInt hn2, nI_toInt (by omega), Int.tmod_eq_emod_of_nonneg h0]
  unfold bl
  rw [Int.natCast_emod, Int.toNat_of_nonneg h0]
theorem c_below (G : GC) (h : HP) (x : Int32) {n : Nat} (hn : 0 < n) (hn2 : n < 2 ^ 31) : Calls G yL_below cL_below 2 (.some .int) 0 0 0 0 [.int x, .int (nI n)] h (qV (.int (nI (bl x n))) h) qX := by
  refine Calls_of1 (by decide +kernel) (by simp [cat_rf, cat_ref, cat_int, cat_null]) (by simp) (lv0 := [some (.int x), some (.int (nI n))]) rfl ?_
  intro Z hG hZ hE hN
  subst hG
  refine V_iload_n hZ 0 dL_below_0 rfl rfl ?_
  refine V_ldc hZ dL_below_1 ct_L_7 ?_
  refine V_iand hZ dL_below_3 ?_
  refine V_iload_n hZ 1 dL_below_4 rfl rfl ?_
  refine V_irem hZ (nI_ne0 hn hn2) dL_below_5 ?_
  refine V_iret hZ hE rfl (by rfl) dL_below_6 (by decide) (by decide) ?_
  rw [bl_eq x hn hn2]
  exact ⟨rfl, rfl⟩
theorem c_cell (G : GC) (hL : G.2.2.2.2.1 < 2 ^ 31) (h : HP) {k : Nat} (hk : k < 2 ^ 31) : Calls G yL_cell cL_cell 2 (.some .int) 0 0 0 0 [.ref G.2.2.2.1, .int (nI k)] h (fun v h' => h' = h ∧ ∃ x, v = some (.int x)) qX := by
  refine Calls_of1 (by decide +kernel) (by simp [cat_rf, cat_ref, cat_int, cat_null]) (by simp) (lv0 := [some (.ref G.2.2.2.1), some (.int (nI k))]) rfl ?_
  intro Z hG hZ hE hN
  subst hG
  refine V_iload_n hZ 1 dL_cell_0 rfl rfl ?_
  refine V_aload_n hZ 0 dL_cell_1 rfl rfl (by first | rfl | exact isR_rf _) ?_
  refine V_slen hZ dL_cell_2 ?_
  refine V_icmp_ge (tgt := 12) hZ dL_cell_3 (by decide) (fun c1 => ?_) (fun c1 => ?_)
  · refine V_ldc hZ dL_cell_12 ct_L_8 ?_
    refine V_iload_n hZ 1 dL_cell_14 rfl rfl ?_
    refine V_iconst (v := 3) hZ dL_cell_15 (by decide) ?_
    refine V_iadd hZ dL_cell_16 ?_
    refine V_imul hZ dL_cell_17 ?_
    refine V_iret hZ hE rfl (by rfl) dL_cell_18 (by decide) (by decide) ?_
    exact ⟨rfl, _, rfl⟩
  · refine V_aload_n hZ 0 dL_cell_6 rfl rfl (by first | rfl | exact isR_rf _) ?_
    refine V_iload_n hZ 1 dL_cell_7 rfl rfl ?_
    have c2 : ¬ nI Z.1.2.2.2.2.1 ≤ nI k := c1
    have hlt : k < Z.1.2.2.2.2.1 := by
      have := (nI_leI (a := Z.1.2.2.2.2.1) (b := k) hL hk)
      rw [this] at c2
      omega
    refine V_sld hZ dL_cell_8 (vp_in_n hlt hL) ?_
    refine V_goto (tgt := 18) hZ dL_cell_9 (by decide) ?_
    refine V_iret hZ hE rfl (by rfl) dL_cell_18 (by decide) (by decide) ?_
    exact ⟨rfl, _, rfl⟩

