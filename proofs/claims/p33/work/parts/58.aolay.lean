/-! lay keeps the invariant -/
theorem mvc_eq {S : St} {a b : Nat} : ∀ k, ∃ f, itN (mvcStep a b) k S = sCps S f ∧ ∀ c, f c = if c < k ∧ c < nCp S ∧ cpRc (cps S c) = a then recd (cps S c) b else cps S c := by
  intro k
  induction k with
  | zero => exact ⟨cps S, rfl, fun c => by simp⟩
  | succ k ih =>
    obtain ⟨f, e, hf⟩ := ih
    rw [itN, e]
    have hfk : f k = cps S k := by rw [hf, if_neg (fun z => Nat.lt_irrefl _ z.1)]
    unfold mvcStep
    by_cases h : k < nCp S ∧ cpRc (cps S k) = a
    · have h' : k < nCp (sCps S f) ∧ cpRc (cps (sCps S f) k) = a := ⟨h.1, by show cpRc (f k) = a; rw [hfk]; exact h.2⟩
      rw [if_pos h']
      refine ⟨va_up f k (recd (f k) b), rfl, fun c => ?_⟩
      by_cases hck : c = k
      · subst hck
        rw [up_eq, hfk, if_pos ⟨Nat.lt_succ_self _, h⟩]
      · rw [up_ne hck, hf]
        by_cases h2 : c < k ∧ c < nCp S ∧ cpRc (cps S c) = a
        · rw [if_pos h2, if_pos ⟨by omega, h2.2⟩]
        · rw [if_neg h2, if_neg (fun z => h2 ⟨by omega, z.2⟩)]
    · have h' : ¬ (k < nCp (sCps S f) ∧ cpRc (cps (sCps S f) k) = a) := fun z => h ⟨z.1, by have := z.2; rw [show cps (sCps S f) k = f k from rfl, hfk] at this; exact this⟩
      rw [if_neg h']
      refine ⟨f, rfl, fun c => ?_⟩
      rw [hf]
      by_cases h2 : c < k ∧ c < nCp S ∧ cpRc (cps S c) = a
      · rw [if_pos h2, if_pos ⟨by omega, h2.2⟩]
      · rw [if_neg h2, if_neg (fun z => h2 ⟨by
          have : c ≠ k := fun y => h (by rw [← y]; exact z.2)
          omega, z.2⟩)]
theorem mvw_rest {S : St} {a b : Nat} : cps (mvwS S a b) = cps S ∧ rds (mvwS S a b) = rds S := by
  have key : ∀ (l : List Nat) (T : St), cps (l.foldl (mvwStep b) T) = cps T ∧ rds (l.foldl (mvwStep b) T) = rds T := by
    intro l
    induction l with
    | nil => intro T; exact ⟨rfl, rfl⟩
    | cons x l ih =>
      intro T
      have h := ih (mvwStep b T x)
      have : cps (mvwStep b T x) = cps T ∧ rds (mvwStep b T x) = rds T := by
        unfold mvwStep
        split <;> exact ⟨rfl, rfl⟩
      exact ⟨h.1.trans this.1, h.2.trans this.2⟩
  exact key (lin S a) S
theorem ao_lay {t : Nat} {S : St} (ht : t < 60) (I : Inv t S) : AoLay (Inv (t + 1)) S := by
  intro a b ha hb hla hlb hab
  have W1 : Wf (mvcS S a b) := wf_mvc I.1.w hb
  have W2 : Wf (mvwS (mvcS S a b) a b) := wf_mvw W1 (by rw [nRc_same same5_mvc]; exact ha) (by rw [nRc_same same5_mvc]; exact hb)
  obtain ⟨f, e1, hf⟩ := mvc_eq (S := S) (a := a) (b := b) 30
  have e1' : mvcS S a b = sCps S f := e1
  have hR := mvw_rest (S := mvcS S a b) (a := a) (b := b)
  have s2 := same5_mvw (S := mvcS S a b) (a := a) (b := b)
  have eL : layS S a b = inS (wrS (layD S a b)) := rfl
  unfold layD layC layB at eL
  rw [e1'] at W1 W2 hR s2 eL
  generalize mvwS (sCps S f) a b = U at *
  obtain ⟨hUc, hUd⟩ := hR
  obtain ⟨u1, u2, u3⟩ := s2
  have hcU : cps U = f := hUc
  have hdU : rds U = rds S := hUd
  have hrU : rcs U = rcs S := u3
  have hnU : nRc U = nRc S := congrArg (fun z => z.2.1) u2
  have hpU : nCp U = nCp S := congrArg (fun z => z.2.2.1) u2
  have hmU : nNm U = nNm S := congrArg (fun z => z.1) u2
  have hqU : nRd U = nRd S := congrArg (fun z => z.2.2.2.1) u2
  have htU : tdy U = tdy S := congrArg (fun z => z.2.2.2.2) u2
  have haU : aH U = aH S := congrArg (fun z => z.1.1) u1
  -- the records
  generalize hV : setRc (setRc U b (rcAu (rcs U b), rcTi (rcs U b), rcYe (rcs U b), rcWe (rcs U b), rcLe (rcs U b) + rcLe (rcs U a))) a (rcAu (rcs U a), rcTi (rcs U a), rcYe (rcs U a), some b, rcLe (rcs U a)) = V at eL
  have hV1 : V.1 = U.1 ∧ V.2.1 = U.2.1 ∧ lin V = lin U ∧ cps V = cps U ∧ rds V = rds U := by rw [← hV]; exact ⟨rfl, rfl, rfl, rfl, rfl⟩
  have hVr : rcs V = va_up (va_up (rcs U) b (rcAu (rcs U b), rcTi (rcs U b), rcYe (rcs U b), rcWe (rcs U b), rcLe (rcs U b) + rcLe (rcs U a))) a (rcAu (rcs U a), rcTi (rcs U a), rcYe (rcs U a), some b, rcLe (rcs U a)) := by rw [← hV]
  have WV : Wf V := by
    rw [← hV]
    have W3 : Wf (setRc U b (rcAu (rcs U b), rcTi (rcs U b), rcYe (rcs U b), rcWe (rcs U b), rcLe (rcs U b) + rcLe (rcs U a))) := wf_rc W2 (W2.2.2.2.2.1 b (by rw [hnU]; exact hb)).1 (W2.2.2.2.2.1 b (by rw [hnU]; exact hb)).2
    exact wf_rc W3 (W2.2.2.2.2.1 a (by rw [hnU]; exact ha)).1 (fun j hj => by cases hj; show b < nRc U; rw [hnU]; exact hb)
  clear hV
  obtain ⟨v1, v2, v3, v4, v5⟩ := hV1
  have hVa : rcWe (rcs V a) = some b := by rw [hVr, up_eq]
  have hVo : ∀ i, i ≠ a → rcWe (rcs V i) = rcWe (rcs S i) := fun i h => by
    rw [hVr, up_ne h]
    by_cases hib : i = b
    · rw [hib, up_eq, hrU]
    · rw [up_ne hib, hrU]
  have hVs : ∀ i, rcAu (rcs V i) = rcAu (rcs S i) ∧ rcTi (rcs V i) = rcTi (rcs S i) ∧ rcYe (rcs V i) = rcYe (rcs S i) := fun i => by
    rw [hVr]
    by_cases hia : i = a
    · rw [hia, up_eq, hrU]; exact ⟨rfl, rfl, rfl⟩
    · rw [up_ne hia]
      by_cases hib : i = b
      · rw [hib, up_eq, hrU]; exact ⟨rfl, rfl, rfl⟩
      · rw [up_ne hib, hrU]; exact ⟨rfl, rfl, rfl⟩
  have w2 : V.2.1 = S.2.1 := v2.trans u2
  have hnV : nRc V = nRc S := congrArg (fun z => z.2.1) w2
  have hpV : nCp V = nCp S := congrArg (fun z => z.2.2.1) w2
  have hmV : nNm V = nNm S := congrArg (fun z => z.1) w2
  have hqV : nRd V = nRd S := congrArg (fun z => z.2.2.2.1) w2
  have htV : tdy V = tdy S := congrArg (fun z => z.2.2.2.2) w2
  have haV : aH V = aH S := (congrArg (fun z => z.1.1) v1).trans haU
  have hdV : rds V = rds S := v5.trans hdU
  have hcV : cps V = f := v4.trans hcU
  obtain ⟨rk, r1, r2, r3⟩ := live_rank I.1
  have hb20 : nRc S ≤ 20 := I.1.w.2.1
  have hlv : cn (liveB V) 20 + 1 = cn (liveB S) 20 := by
    have h := cn_up (P := liveB V) (Q := liveB S) (i := a) (fun i hi => by unfold liveB; rw [hVo i hi, hnV]) 20 (by omega)
    have e2 : liveB S a = true := by simp [liveB, ha, hla]
    have e3 : liveB V a = false := by simp [liveB, hVa]
    rw [e2, e3] at h
    simp at h
    omega
  have hlive : ∀ i, i < nRc S → rcWe (rcs S i) = none → live S i = i := fun i _ h => lv_stop (we := weS S) h 20
  have DV : Dt t V := by
    obtain ⟨d1, d2, d3, d4, d5, d6, d7, d8, -⟩ := I.1
    refine ⟨WV, by rw [hmV]; exact d2, by rw [hqV]; exact d3, by rw [hnV]; exact d4, by rw [htV]; exact d5, by rw [hdV]; exact d6, fun i hi => ?_, cn_pos (c := b) (by omega) ?_, fun i => if live S i = a then rk i + 1 else rk i, fun i hi => ?_⟩
    · rw [hnV] at hi
      obtain ⟨g1, g2, g3⟩ := hVs i
      rw [g1, g2, g3]
      exact d7 i hi
    · simp only [liveB, decide_eq_true_eq]
      rw [hnV, hVo b (fun z => hab z.symm)]
      exact ⟨hb, hlb⟩
    · rw [hnV] at hi ⊢
      obtain ⟨g1, g2⟩ := r1 i hi
      refine ⟨?_, fun j hj => ?_⟩
      · show (if live S i = a then rk i + 1 else rk i) + _ ≤ _
        split <;> omega
      · show (if live S j = a then rk j + 1 else rk j) < (if live S i = a then rk i + 1 else rk i)
        by_cases hia : i = a
        · rw [hia, hVa] at hj
          cases hj
          rw [hia, hlive a ha hla, hlive b hb hlb, if_pos rfl, if_neg (fun z => hab z.symm), r2 a hla, r2 b hlb]
          omega
        · rw [hVo i hia] at hj
          have h3 := (r3 i hi).2 j hj
          have h4 := g2 j hj
          rw [h3]
          split <;> omega
  have hfc : ∀ c, c < nCp S → cpPr (f c) = cpPr (cps S c) ∧ cpPl (f c) = cpPl (cps S c) ∧ cpRd (f c) = cpRd (cps S c) ∧ cpDy (f c) = cpDy (cps S c) ∧ cpRn (f c) = cpRn (cps S c) ∧ cpRc (f c) ≠ a ∧ (cpRc (f c) = b ∨ cpRc (f c) = cpRc (cps S c)) := fun c hc => by
    have h30 := I.1.n
    rw [hf]
    by_cases h : cpRc (cps S c) = a
    · rw [if_pos ⟨by omega, hc, h⟩]
      exact ⟨rfl, rfl, rfl, rfl, rfl, fun z => hab z.symm, Or.inl rfl⟩
    · rw [if_neg (fun z => h z.2.2)]
      exact ⟨rfl, rfl, rfl, rfl, rfl, h, Or.inr rfl⟩
  have CV : Cs 0 V := by
    refine ⟨fun c hc => ?_, fun x hx => ?_⟩
    · rw [hpV] at hc
      obtain ⟨g1, g2, g3, g4, g5, g6, g7⟩ := hfc c hc
      have hS := I.2.1.1 c hc
      refine ⟨?_, ?_⟩
      · rw [hcV, hVo _ g6]
        rcases g7 with z | z
        · rw [z]; exact hlb
        · rw [z]; exact hS.1
      · have h2 := hS.2
        unfold Sh at h2 ⊢
        rw [hcV, htV, g1, g2, g3, g4, g5]
        exact h2
    · have : lentN V x ≤ lentN S x := by
        refine cn_mono (fun c h => ?_) 30
        simp only [ofB, decide_eq_true_eq] at h ⊢
        obtain ⟨b1, b2, b3⟩ := h
        rw [hpV] at b1
        obtain ⟨-, g2, g3, -⟩ := hfc c b1
        rw [hcV] at b2 b3
        rw [g2] at b2
        rw [g3] at b3
        exact ⟨b1, b2, b3⟩
      have h2 := I.2.1.2 x hx
      rw [hdV]
      omega
  obtain ⟨I2, q1, q2, q3⟩ := lay_end (by omega) DV CV
  have s6 : same5 V (inS (wrS V)) := same5_wr.tr same5_in
  rw [eL]
  generalize inS (wrS V) = T at *
  refine ⟨nx_of (inv_up I2) ((aH_same s6).trans haV) (q3.trans htV) (by rw [q2, hpV]; exact Nat.le_refl _) (by rw [nRc_same s6, hnV]; exact Nat.le_refl _) ((congrArg (fun z => z.2.2.2.1) s6.2.1).trans hqV), ?_⟩
  show lvN (weS T) 20 a = b
  have hwe : weS T a = some b := by show rcWe (rcs T a) = some b; rw [q1]; exact hVa
  have hwb : weS T b = none := by show rcWe (rcs T b) = none; rw [q1, hVo b (fun z => hab z.symm)]; exact hlb
  rw [lvN, hwe]
  exact lv_stop hwb 19
theorem ao_all {t : Nat} {S : St} (ht : t < 60) (I : Inv t S) : AoAll (Inv (t + 1)) S := by
  refine ⟨nx_of (inv_up I) rfl rfl (Nat.le_refl _) (Nat.le_refl _) rfl, I.1.2.2.1, ?_, ao_copy ht I, ao_lend ht I, ao_renew ht I, ao_back ht I, ao_await ht I, ao_leave ht I, ao_pass ht I, ao_find ht I, ao_pay ht I, ao_rec ht I, ao_lay ht I⟩
  show ¬ nI (cn (liveB S) 20) ≤ 0
  exact nI_nle I.1.2.2.2.2.2.2.2.1 (by have := cn_le (P := liveB S) 20; omega)
