/-! what is freed, and who waits no more, keep the invariant -/
theorem Dt.w {t : Nat} {S : St} (D : Dt t S) : Wf S := D.1
theorem Dt.n {t : Nat} {S : St} (D : Dt t S) : nCp S ≤ 30 := D.1.2.2.1
theorem i6 {x : Int32} (h0 : 0 ≤ x.toInt) (h1 : x.toInt ≤ 10000) {k : Nat} (hk : k ≤ 10000) : (x + nI k).toInt = x.toInt + k := by
  rw [Int32.toInt_add, nI_toInt (by omega)]
  exact Int.bmod_eq_of_le (by omega) (by omega)
theorem td_b {t : Nat} {S : St} (D : Dt t S) (ht : t ≤ 61) : 0 ≤ (tdy S).toInt ∧ (tdy S).toInt ≤ 1220 := by
  have := D.2.2.2.2.1
  omega
section
variable {S : St} {c : Nat} {d : Cp}
theorem rc_set (hd : cpRc d = cpRc (cps S c)) (c' : Nat) : cpRc (cps (setCp S c d) c') = cpRc (cps S c') := by
  show cpRc (va_up (cps S) c d c') = _
  by_cases h : c' = c
  · rw [h, up_eq, hd]
  · rw [up_ne h]
theorem cp_ne {c' : Nat} (h : c' ≠ c) : cps (setCp S c d) c' = cps S c' := up_ne h
theorem cp_eq : cps (setCp S c d) c = d := up_eq
theorem FreeOut.rc (h : FreeOut S c d) : cpRc d = cpRc (cps S c) := by
  rcases h with ⟨rfl, -⟩ | ⟨y, rfl, -⟩ <;> rfl
theorem FreeOut.pl (h : FreeOut S c d) : cpPl d = 0 ∨ cpPl d = 2 := by
  rcases h with ⟨rfl, -⟩ | ⟨y, rfl, -⟩
  · exact Or.inl rfl
  · exact Or.inr rfl
theorem free_ri (hc : c < nCp S) (h : FreeOut S c d) (hR : ∀ c', c' < nCp S → c' ≠ c → Ri S c') : ∀ c', c' < nCp S → Ri (setCp S c d) c' := by
  intro c' hc' x ha
  rw [rc_set h.rc] at ha ⊢
  by_cases hcc : c' = c
  · subst hcc
    obtain ⟨a1, a2, -⟩ := as_eq.mp ha
    rcases h with ⟨rfl, -⟩ | ⟨y, rfl, h1, h2⟩
    · cases a1
    · cases a2
      refine ⟨h1, fun e he hae => ?_⟩
      by_cases hec : e = c'
      · exact hec
      · exact absurd ((as_ne hec).mp hae) (h2 e he hec)
  · have ha' := (as_ne hcc).mp ha
    obtain ⟨b1, b2⟩ := hR c' hc' hcc x ha'
    refine ⟨b1, fun e he hae => ?_⟩
    by_cases hec : e = c
    · subst hec
      obtain ⟨a1, a2, a3⟩ := as_eq.mp hae
      rcases h with ⟨rfl, -⟩ | ⟨y, rfl, h1, h2⟩
      · cases a1
      · cases a2
        have a4 : cpRc (cps S e) = cpRc (cps S c') := a3
        exact absurd (by rw [a4]; exact ha') (h2 c' hc' hcc)
    · exact b2 e he ((as_ne hec).mp hae)
theorem free_fr (hc : c < nCp S) (h : FreeOut S c d) (hz : ∀ x ∈ lin S (cpRc (cps S c)), As S c x (cpRc (cps S c)) → ∃ c', c' < nCp S ∧ c' ≠ c ∧ As S c' x (cpRc (cps S c))) {c' : Nat} (hF : c' ≠ c → Fr S c') : Fr (setCp S c d) c' := by
  intro hp x hx
  rw [rc_set h.rc] at hx ⊢
  by_cases hcc : c' = c
  · subst hcc
    rw [cp_eq] at hp
    rcases h with ⟨rfl, h1⟩ | ⟨y, rfl, h1, h2⟩
    · obtain ⟨e, he, hne, ha⟩ := h1 x hx
      exact ⟨e, he, (as_ne hne).mpr ha⟩
    · cases hp
  · rw [cp_ne hcc] at hp
    obtain ⟨e, he, ha⟩ := hF hcc hp x hx
    by_cases hec : e = c
    · subst hec
      have hr : cpRc (cps S e) = cpRc (cps S c') := ha.2.2
      obtain ⟨g, hg, hne, hga⟩ := hz x (by rw [hr]; exact hx) (by rw [hr]; exact ha)
      exact ⟨g, hg, (as_ne hne).mpr (by rw [← hr]; exact hga)⟩
    · exact ⟨e, he, (as_ne hec).mpr ha⟩
end
theorem lent_set {S : St} {c : Nat} {d : Cp} (hd : cpPl d ≠ 1) (x : Nat) : lentN (setCp S c d) x ≤ lentN S x := by
  refine cn_mono (fun c' h => ?_) 30
  simp only [ofB, decide_eq_true_eq] at h ⊢
  obtain ⟨h1, h2, h3⟩ := h
  by_cases hcc : c' = c
  · subst hcc
    rw [cp_eq] at h2
    exact absurd h2 hd
  · rw [cp_ne hcc] at h2 h3
    exact ⟨h1, h2, h3⟩
theorem sh_set {S : St} {c : Nat} {d : Cp} {e : Int} {c' : Nat} (h : c' ≠ c) : Sh e (setCp S c d) c' ↔ Sh e S c' := by
  unfold Sh
  rw [cp_ne h]
theorem sh_free {t : Nat} {S : St} {c : Nat} {d : Cp} (D : Dt t S) (ht : t ≤ 61) (hc : c < nCp S) (h : FreeOut S c d) (hp : ∃ p, 1 ≤ p ∧ p ≤ 200 ∧ cpPr (cps S c) = nI p) : Sh 0 (setCp S c d) c := by
  unfold Sh
  rw [cp_eq]
  have hb := td_b D ht
  rcases h with ⟨rfl, -⟩ | ⟨y, rfl, h1, -⟩
  · exact ⟨hp, Or.inl ⟨rfl, rfl, rfl, rfl⟩⟩
  · refine ⟨hp, Or.inr (Or.inr (Or.inl ⟨rfl, ⟨y, ?_, rfl⟩, ?_, ?_, rfl⟩))⟩
    · have := (W_lin D.w (W_rec D.w hc)).2 y h1
      rw [D.2.2.1] at this
      exact this
    · show (tdy S).toInt ≤ (tdy S + nI 6).toInt + 0
      rw [i6 hb.1 (by omega) (by omega)]; omega
    · show (tdy S + nI 6).toInt ≤ (tdy S).toInt + 6
      rw [i6 hb.1 (by omega) (by omega)]; omega
theorem sh_up {S : St} {c : Nat} (h : Sh 0 S c) : Sh 1 S c := by
  obtain ⟨h1, h2 | ⟨a1, a2, a3, a4, a5⟩ | ⟨a1, a2, a3, a5⟩ | h2⟩ := h
  · exact ⟨h1, Or.inl h2⟩
  · exact ⟨h1, Or.inr (Or.inl ⟨a1, a2, a3, by omega, a5⟩)⟩
  · exact ⟨h1, Or.inr (Or.inr (Or.inl ⟨a1, a2, by omega, a5⟩))⟩
  · exact ⟨h1, Or.inr (Or.inr (Or.inr h2))⟩
theorem dt_cp {t : Nat} {S : St} {f : Nat → Cp} (D : Dt t S) (W : Wf (sCps S f)) : Dt t (sCps S f) := ⟨W, D.2⟩
theorem dt_free {t : Nat} {S : St} {c : Nat} (D : Dt t S) (hc : c < nCp S) : Dt t (freeS S c) := dt_cp D (wf_free D.w hc)
/-- a copy is freed -/
theorem inv_free {t : Nat} {S : St} {c : Nat} (ht : t ≤ 61) (D : Dt t S) (hc : c < nCp S) (hp : ∃ p, 1 ≤ p ∧ p ≤ 200 ∧ cpPr (cps S c) = nI p) (hl : rcWe (rcs S (cpRc (cps S c))) = none)
    (hs : ∀ c', c' < nCp S → c' ≠ c → rcWe (rcs S (cpRc (cps S c'))) = none ∧ Sh 0 S c') (hb : ∀ x, x < 4 → (lentN S x : Int) ≤ (moreN (rdKi (rds S x))).toInt)
    (hR : ∀ c', c' < nCp S → c' ≠ c → Ri S c') (hF : ∀ c', c' < nCp S → c' ≠ c → Fr S c')
    (hz : ∀ x ∈ lin S (cpRc (cps S c)), As S c x (cpRc (cps S c)) → ∃ c', c' < nCp S ∧ c' ≠ c ∧ As S c' x (cpRc (cps S c))) : Inv t (freeS S c) := by
  obtain ⟨d, hd, ho⟩ := free_rel D.n c
  have D2 := dt_free D hc
  rw [hd] at D2 ⊢
  refine ⟨D2, ⟨fun c' hc' => ?_, fun x hx => ?_⟩, fun c' hc' => ⟨free_ri hc ho hR c' hc', free_fr hc ho hz (hF c' hc')⟩⟩
  · have hr : rcWe (rcs S (cpRc (cps S c'))) = none := by
      by_cases h : c' = c
      · rw [h]; exact hl
      · exact (hs c' hc' h).1
    refine ⟨by rw [rc_set ho.rc]; exact hr, ?_⟩
    by_cases h : c' = c
    · rw [h]; exact sh_free D ht hc ho hp
    · exact (sh_set h).mpr (hs c' hc' h).2
  · have h1 := lent_set (S := S) (c := c) (d := d) (by rcases ho.pl with z | z <;> rw [z] <;> decide) x
    have h2 := hb x hx
    show (lentN (setCp S c d) x : Int) ≤ (moreN (rdKi (rds S x))).toInt
    omega
/-! who waits no more -/
theorem as_ln {S : St} {i : Nat} {l : List Nat} {c x r : Nat} : As (setLn S i l) c x r ↔ As S c x r := Iff.rfl
theorem end_eq {S : St} {x r : Nat} (hn : nCp S ≤ 30) (hu : ∀ c c', c < nCp S → c' < nCp S → As S c x r → As S c' x r → c' = c) : ((∀ c, c < nCp S → ¬ As S c x r) ∧ endS S x r = dropS S x r) ∨ ∃ c, c < nCp S ∧ As S c x r ∧ endS S x r = freeS (dropS S x r) c := by
  by_cases h : ∃ c, c < nCp S ∧ As S c x r
  · obtain ⟨c, hc, ha⟩ := h
    refine Or.inr ⟨c, hc, ha, ?_⟩
    obtain ⟨d, hd, ho⟩ := free_rel (S := dropS S x r) hn c
    have key : ∀ k, itN (endStep x r) k (dropS S x r) = if k ≤ c then dropS S x r else freeS (dropS S x r) c := by
      intro k
      induction k with
      | zero => rw [if_pos (Nat.zero_le _)]; rfl
      | succ k ih =>
        rw [itN, ih]
        by_cases h1 : k < c
        · rw [if_pos (by omega), if_pos (by omega)]
          unfold endStep
          rw [if_neg]
          intro z
          obtain ⟨z1, z2⟩ := asB_iff.mp z
          have := hu c k hc z1 ha z2
          omega
        · by_cases h2 : k = c
          · rw [if_pos (by omega), if_neg (by omega)]
            unfold endStep
            have h3 : c = k := h2.symm
            subst h3
            rw [if_pos]
            exact asB_iff.mpr ⟨hc, ha⟩
          · rw [if_neg (by omega), if_neg (by omega)]
            unfold endStep
            rw [if_neg]
            intro z
            rw [hd] at z
            obtain ⟨z1, z2⟩ := asB_iff.mp z
            have := hu c k hc z1 ha ((as_ne h2).mp z2)
            exact h2 this
    have := key 30
    rw [if_neg (by omega)] at this
    exact this
  · have hno : ∀ c, c < nCp S → ¬ As S c x r := fun c hc ha => h ⟨c, hc, ha⟩
    refine Or.inl ⟨hno, ?_⟩
    have key : ∀ k, itN (endStep x r) k (dropS S x r) = dropS S x r := by
      intro k
      induction k with
      | zero => rfl
      | succ k ih =>
        rw [itN, ih]
        unfold endStep
        rw [if_neg]
        intro z
        obtain ⟨z1, z2⟩ := asB_iff.mp z
        exact hno k z1 z2
    exact key 30
theorem mem_drop {S : St} {x r y i : Nat} : y ∈ lin (dropS S x r) i ↔ y ∈ lin S i ∧ (y ≠ x ∨ i ≠ r) := by
  show y ∈ va_up (lin S) r ((lin S r).filter (· ≠ x)) i ↔ _
  by_cases h : i = r
  · subst h
    rw [up_eq, List.mem_filter]
    simp
  · rw [up_ne h]
    simp [h]
theorem dt_ln {t : Nat} {S : St} {f : Nat → List Nat} (D : Dt t S) (W : Wf (sLin S f)) : Dt t (sLin S f) := ⟨W, D.2⟩
/-- x waits for r no more; e: the copies' slack -/
theorem end_inv {t : Nat} {S : St} {x r : Nat} (ht : t ≤ 61) (D : Dt t S) (hr : r < nRc S) (hp : ∀ c, c < nCp S → ∃ p, 1 ≤ p ∧ p ≤ 200 ∧ cpPr (cps S c) = nI p) (hR : ∀ c, c < nCp S → Ri S c)
    (hF : ∀ c, c < nCp S → cpPl (cps S c) = 0 → ∀ y ∈ lin S (cpRc (cps S c)), (y ≠ x ∨ cpRc (cps S c) ≠ r) → ∃ c', c' < nCp S ∧ As S c' y (cpRc (cps S c))) :
    Dt t (endS S x r) ∧ (∀ c, c < nCp S → Ri (endS S x r) c ∧ Fr (endS S x r) c) ∧ nCp (endS S x r) = nCp S ∧ rcs (endS S x r) = rcs S ∧ rds (endS S x r) = rds S ∧ tdy (endS S x r) = tdy S ∧ lin (endS S x r) = lin (dropS S x r) ∧
    (∀ c, c < nCp S → cps (endS S x r) c = cps S c ∨ (As S c x r ∧ Sh 0 (endS S x r) c ∧ (cpPl (cps (endS S x r) c) = 0 ∨ cpPl (cps (endS S x r) c) = 2) ∧ cpRc (cps (endS S x r) c) = cpRc (cps S c))) := by
  have hu : ∀ c c', c < nCp S → c' < nCp S → As S c x r → As S c' x r → c' = c := fun c c' hc hc' ha ha' => by
    have h3 : cpRc (cps S c) = r := ha.2.2
    exact (hR c hc x (by rw [h3]; exact ha)).2 c' hc' (by rw [h3]; exact ha')
  have D0 : Dt t (dropS S x r) := dt_ln D (wf_drop D.w hr)
  have R0 : ∀ c, c < nCp S → ¬ As S c x r → Ri (dropS S x r) c := by
    intro c hc hn y ha
    obtain ⟨b1, b2⟩ := hR c hc y ha
    refine ⟨mem_drop.mpr ⟨b1, ?_⟩, b2⟩
    by_cases hy : y = x
    · refine Or.inr (fun z => hn ?_)
      have ha2 : As S c y (cpRc (cps S c)) := ha
      rw [hy] at ha2
      rw [← z]
      exact ha2
    · exact Or.inl hy
  have F0 : ∀ c, c < nCp S → Fr (dropS S x r) c := by
    intro c hc hpl y hy
    obtain ⟨y1, y2⟩ := mem_drop.mp hy
    exact hF c hc hpl y y1 y2
  rcases end_eq D.n hu with ⟨hno, he⟩ | ⟨c0, hc0, ha0, he⟩
  · rw [he]
    exact ⟨D0, fun c hc => ⟨R0 c hc (hno c hc), F0 c hc⟩, rfl, rfl, rfl, rfl, rfl, fun c hc => Or.inl rfl⟩
  · have D2 := dt_free D0 (c := c0) hc0
    obtain ⟨d, hd, ho⟩ := free_rel (S := dropS S x r) D0.n c0
    have h3 : cpRc (cps S c0) = r := ha0.2.2
    rw [he, hd]
    rw [hd] at D2
    refine ⟨D2, fun c hc => ⟨free_ri (S := dropS S x r) hc0 ho (fun c' hc' hne => R0 c' hc' (fun z => hne (hu c0 c' hc0 hc' ha0 z))) c hc, free_fr (S := dropS S x r) hc0 ho (fun y hy hay => ?_) (fun _ => F0 c hc)⟩, rfl, rfl, rfl, rfl, rfl, fun c hc => ?_⟩
    · exfalso
      have hy2 := (mem_drop.mp hy).2
      have : x = y := by
        have h5 : cpRd (cps S c0) = some y := hay.2.1
        rw [ha0.2.1] at h5
        exact Option.some.inj h5
      rcases hy2 with z | z
      · exact z this.symm
      · exact z h3
    · by_cases hcc : c = c0
      · subst hcc
        refine Or.inr ⟨ha0, sh_free D0 ht hc0 ho (hp c hc), ?_, ?_⟩
        · rw [cp_eq]; exact ho.pl
        · rw [cp_eq]; exact ho.rc
      · exact Or.inl (cp_ne hcc)
