/-! turns that keep the invariant: await, record -/
theorem ao_await {t : Nat} {S : St} (ht : t < 60) (I : Inv t S) : AoAwait (Inv (t + 1)) S := by
  intro x i hx hi h1 h2
  have hr := live_lt I.1.w hi
  generalize hrr : live S i = r at *
  have hx4 : x < 4 := by rw [I.1.2.2.1] at hx; exact hx
  have W1 := wf_join I.1.w hx hr h1
  have D1 : Dt t (joinS S x r) := dt_ln I.1 W1
  have ml : ∀ y k, y ∈ lin (joinS S x r) k ↔ y ∈ lin S k ∨ (y = x ∧ k = r) := by
    intro y k
    show y ∈ va_up (lin S) r (lin S r ++ [x]) k ↔ _
    by_cases hk : k = r
    · subst hk
      rw [up_eq, List.mem_append, List.mem_singleton]
      simp
    · rw [up_ne hk]
      simp [hk]
  have R1 : ∀ c, c < nCp S → Ri (joinS S x r) c := fun c hc y ha => by
    obtain ⟨b1, b2⟩ := (I.2.2 c hc).1 y ha
    exact ⟨(ml _ _).mpr (Or.inl b1), b2⟩
  have hlv : ∀ T : St, rcs T = rcs S → live T i = r := fun T hT => by
    rw [← hrr]
    show lvN (weS T) 20 i = lvN (weS S) 20 i
    have : weS T = weS S := by unfold weS; rw [hT]
    rw [this]
  cases ho : fN (inB (joinS S x r) r) 30 0 with
  | none =>
    have hT : awaitS S x r = joinS S x r := by unfold awaitS; rw [ho]
    rw [hT]
    have hno := fN_none.mp ho
    refine ⟨nx_of (inv_up ⟨D1, I.2.1, fun c hc => ⟨R1 c hc, fun hp y hy => ?_⟩⟩) rfl rfl (Nat.le_refl _) (Nat.le_refl _) rfl, fun c hc => by cases hc⟩
    have hcr : cpRc (cps S c) ≠ r := by
      intro z
      have h3 := hno c (Nat.zero_le _) (by have := I.1.n; have : c < nCp S := hc; omega)
      have : inB (joinS S x r) r c = true := by
        simp only [inB, decide_eq_true_eq]
        exact ⟨hc, z, hp⟩
      rw [this] at h3
      cases h3
    rcases (ml _ _).mp hy with h3 | h3
    · exact (I.2.2 c hc).2 hp y h3
    · exact absurd h3.2 hcr
  | some c =>
    have hT : awaitS S x r = freeS (joinS S x r) c := by unfold awaitS; rw [ho]
    rw [hT]
    obtain ⟨-, -, hin, -⟩ := fN_spec ho
    simp only [inB, decide_eq_true_eq] at hin
    obtain ⟨hc, hcr, hp⟩ := hin
    have hc' : c < nCp S := hc
    have hcr' : cpRc (cps S c) = r := hcr
    have hp' : cpPl (cps S c) = 0 := hp
    obtain ⟨d, hd, hout⟩ := free_rel (S := joinS S x r) D1.n c
    have hfr := (I.2.2 c hc').2 hp'
    have hd2 : d = asided (cps S c) x (tdy S) := by
      rcases hout with ⟨-, h3⟩ | ⟨y, h3, h4, h5⟩
      · exfalso
        obtain ⟨e, he, hne, ha⟩ := h3 x ((ml _ _).mpr (Or.inr ⟨rfl, hcr'⟩))
        have ha' : As S e x (cpRc (cps S c)) := ha
        have hee : cpRc (cps S e) = cpRc (cps S c) := ha'.2.2
        have := ((I.2.2 e he).1 x (by rw [hee]; exact ha')).1
        rw [hee, hcr'] at this
        exact h1 this
      · rcases (ml _ _).mp h4 with h6 | h6
        · exfalso
          obtain ⟨e, he, ha⟩ := hfr y h6
          refine h5 e he (fun z => ?_) ha
          subst z
          have := ha.1
          rw [hp'] at this
          cases this
        · rw [h3, h6.1]
    have hne2 : ∀ e y k, As S e y k → e ≠ c := fun e y k ha z => by
      subst z
      have := ha.1
      rw [hp'] at this
      cases this
    have D2 : Dt t (setCp (joinS S x r) c d) := by rw [← hd]; exact dt_free D1 hc
    have e0 : cps (setCp (joinS S x r) c d) c = d := cp_eq
    have hri := free_ri (S := joinS S x r) hc hout (fun c' h3 _ => R1 c' h3)
    have I2 : Inv t (setCp (joinS S x r) c d) := by
      refine ⟨D2, ⟨fun c' h3 => ?_, fun y hy => ?_⟩, fun c' h3 => ⟨hri c' h3, fun hpl y hy => ?_⟩⟩
      · have h5 := (I.2.1.1 c' h3).1
        refine ⟨by rw [rc_set hout.rc]; exact h5, ?_⟩
        by_cases hcc : c' = c
        · subst hcc
          exact sh_free D1 (by omega) hc hout (sh_pr (I.2.1.1 c' h3).2)
        · exact (sh_set hcc).mpr (I.2.1.1 c' h3).2
      · have h3 := lent_set (S := joinS S x r) (c := c) (d := d) (by rw [hd2]; show (2 : Int32) ≠ 1; decide) y
        have h4 : (lentN (joinS S x r) y : Int) ≤ (moreN (rdKi (rds S y))).toInt := I.2.1.2 y hy
        show (lentN (setCp (joinS S x r) c d) y : Int) ≤ (moreN (rdKi (rds S y))).toInt
        omega
      · rw [rc_set hout.rc] at hy ⊢
        have hcc : c' ≠ c := fun z => by rw [z, e0, hd2] at hpl; cases hpl
        rw [cp_ne hcc] at hpl
        rcases (ml _ _).mp hy with h5 | h5
        · obtain ⟨e, he, ha⟩ := (I.2.2 c' h3).2 hpl y h5
          exact ⟨e, he, (as_ne (hne2 _ _ _ ha)).mpr ha⟩
        · refine ⟨c, hc, as_eq.mpr ?_⟩
          rw [hd2, h5.1]
          exact ⟨rfl, rfl, hcr'.trans h5.2.symm⟩
    rw [hd]
    refine ⟨nx_of (inv_up I2) rfl rfl (Nat.le_refl _) (Nat.le_refl _) rfl, fun c' h3 => ?_⟩
    cases h3
    have hl : live (setCp (joinS S x r) c d) i = r := hlv _ rfl
    rw [hl]
    refine ⟨hc', by rw [e0, hd2]; rfl, by rw [e0, hd2]; rfl, (ml _ _).mpr (Or.inr ⟨rfl, rfl⟩), ?_⟩
    cases hna : noneA (setCp (joinS S x r) c d) r x with
    | false => rfl
    | true =>
      exact absurd (as_eq.mpr (by rw [hd2]; exact ⟨rfl, rfl, hcr'⟩)) ((noneA_iff (S := setCp (joinS S x r) c d) D2.n).mp hna c hc)
theorem live_add {S : St} {q q2 q3 : Nat} {r : Rc} (hn : nRc S < 20) (hr : rcWe r = none) : cn (liveB (addRc S q q2 q3 r)) 20 = cn (liveB S) 20 + 1 := by
  have h := cn_up (P := liveB (addRc S q q2 q3 r)) (Q := liveB S) (i := nRc S) (fun c hc => by
    unfold liveB
    have e : rcs (addRc S q q2 q3 r) c = rcs S c := up_ne hc
    rw [e]
    have : (c < nRc (addRc S q q2 q3 r)) ↔ c < nRc S := by
      show c < nRc S + 1 ↔ _
      omega
    simp only [this]) 20 hn
  have e1 : liveB S (nRc S) = false := by simp [liveB]
  have e2 : liveB (addRc S q q2 q3 r) (nRc S) = true := by
    have e : rcs (addRc S q q2 q3 r) (nRc S) = r := up_eq
    simp only [liveB, decide_eq_true_eq]
    rw [e]
    exact ⟨Nat.lt_succ_self _, hr⟩
  rw [e1, e2] at h
  simpa using h
theorem ao_rec {t : Nat} {S : St} (ht : t < 60) (I : Inv t S) : AoRec (Inv (t + 1)) S := by
  intro q q2 q3 ti hn h1 h2
  generalize hrc : ((none, nI ti, nI 50, none, 0) : Rc) = r
  have hr : r = (none, nI ti, nI 50, none, 0) := hrc.symm
  have hwe : rcWe r = none := by rw [hr]
  have W1 : Wf (addRc S q q2 q3 r) := wf_addRc I.1.w hn (fun j hj => by rw [hr] at hj; cases hj) (fun j hj => by rw [hr] at hj; cases hj)
  have e0 : rcs (addRc S q q2 q3 r) (nRc S) = r := up_eq
  have e1 : ∀ k, k ≠ nRc S → rcs (addRc S q q2 q3 r) k = rcs S k := fun k hk => up_ne hk
  have l1 : ∀ k, k ≠ nRc S → lin (addRc S q q2 q3 r) k = lin S k := fun k hk => up_ne hk
  have hlv := live_add (q := q) (q2 := q2) (q3 := q3) hn hwe
  have hcr : ∀ c, c < nCp S → cpRc (cps S c) ≠ nRc S := fun c hc => Nat.ne_of_lt (W_rec I.1.w hc)
  obtain ⟨d1, d2, d3, d4, d5, d6, d7, d8, rk, d9⟩ := id I.1
  have D1 : Dt t (addRc S q q2 q3 r) := by
    refine ⟨W1, d2, d3, Nat.le_succ_of_le d4, d5, d6, fun i hi => ?_, by rw [hlv]; omega, fun k => if k < nRc S then rk k else 0, fun i hi => ?_⟩
    · by_cases h : i = nRc S
      · rw [h, e0, hr]
        exact ⟨Or.inl rfl, ⟨ti, h1, h2, rfl⟩, rfl⟩
      · have hi' : i < nRc S + 1 := hi
        rw [e1 i h]; exact d7 i (by omega)
    · have hi' : i < nRc S + 1 := hi
      show (if i < nRc S then rk i else 0) + cn (liveB (addRc S q q2 q3 r)) 20 ≤ nRc S + 1 ∧ ∀ j, rcWe (rcs (addRc S q q2 q3 r) i) = some j → (if j < nRc S then rk j else 0) < (if i < nRc S then rk i else 0)
      by_cases h : i = nRc S
      · rw [h, e0, if_neg (Nat.lt_irrefl _), hlv]
        have := (d9 0 (by omega)).1
        exact ⟨by omega, fun j hj => by rw [hwe] at hj; cases hj⟩
      · have hi2 : i < nRc S := by omega
        rw [e1 i h, if_pos hi2, hlv]
        have := d9 i hi2
        refine ⟨by omega, fun j hj => ?_⟩
        rw [if_pos ((I.1.w.2.2.2.2.1 i hi2).2 j hj)]
        exact this.2 j hj
  have I1 : Inv t (addRc S q q2 q3 r) := by
    refine ⟨D1, ⟨fun c hc => ?_, I.2.1.2⟩, fun c hc => ⟨fun x ha => ?_, fun hp x hx => ?_⟩⟩
    · refine ⟨?_, (I.2.1.1 c hc).2⟩
      rw [e1 _ (hcr c hc)]
      exact (I.2.1.1 c hc).1
    · rw [l1 _ (hcr c hc)]
      exact (I.2.2 c hc).1 x ha
    · rw [l1 _ (hcr c hc)] at hx
      exact (I.2.2 c hc).2 hp x hx
  refine ⟨nx_of (inv_up I1) rfl rfl (Nat.le_refl _) (Nat.le_succ _) rfl, ?_⟩
  show ¬ nI (nRc S) < nI (cn (liveB (addRc S q q2 q3 r)) 20) - 1
  rw [hlv, nI_pred]
  have := (d9 0 (by omega)).1
  exact nI_nlt (by omega) (by omega)
