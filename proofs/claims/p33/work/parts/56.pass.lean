/-! whole days -/
theorem day_inv {t : Nat} {b : Int} {S : St} (ht : t < 60) (D : Dt (t + 1) S) (C : Cs 0 S) (F : ∀ c, c < nCp S → Ri S c ∧ Fr S c) (O : Ow b S) (h1 : (tdy S).toInt + 1 ≤ 20 * ((t : Int) + 1)) (hb : b + 7200 ≤ 200000 * ((t : Int) + 1)) :
    Dt (t + 1) (dayS S).1 ∧ Cs 0 (dayS S).1 ∧ (∀ c, c < nCp S → Ri (dayS S).1 c ∧ Fr (dayS S).1 c) ∧ Ow (b + 7200) (dayS S).1 ∧ nCp (dayS S).1 = nCp S ∧ tdy (dayS S).1 = tdy S + 1 ∧ (∀ c, c < nCp S → Tr (tdy S + 1) S (dayS S).1 c) ∧ (dayS S).2 = cn (lostB S 1) 30 := by
  have htb := td_b D (by omega)
  have ht1 : (tdy S + 1).toInt = (tdy S).toInt + 1 := by
    have := i6 htb.1 (by omega) (k := 1) (by omega)
    exact this
  have J0 : DayJ t b S 0 (sTdy S (tdy S + 1), 0) := by
    obtain ⟨d1, d2, d3, d4, d5, d6⟩ := D
    refine ⟨⟨d1, d2, d3, d4, ?_, d6⟩, fun x hx => ?_, rfl, rfl, rfl, fun _ => rfl, fun c hc => ⟨rfl, fun _ => rfl, fun z => absurd z (Nat.not_lt_zero _)⟩, F, rfl⟩
    · show 0 ≤ (tdy S + 1).toInt ∧ (tdy S + 1).toInt ≤ 20 * ((t + 1 : Nat) : Int)
      omega
    · have := O x hx
      show (rdOw (rds S x)).toInt ≤ b + 240 * ((0 : Nat) : Int)
      omega
  have J : ∀ k, k ≤ 30 → DayJ t b S k (itN dayStep k (sTdy S (tdy S + 1), 0)) := by
    intro k
    induction k with
    | zero => intro _; exact J0
    | succ k ih =>
      intro hk
      rw [itN]
      exact day_step ht (fun c hc => (C.1 c hc).2) D.n htb.1 ht1 hb (by omega) (ih (by omega))
  have JJ := J 30 (Nat.le_refl _)
  have e : itN dayStep 30 (sTdy S (tdy S + 1), 0) = dayS S := rfl
  rw [e] at JJ
  generalize dayS S = p at *
  obtain ⟨D2, O2, j1, j2, j3, j4, j5, j6, j7⟩ := JJ
  have hn := D.n
  refine ⟨D2, ⟨fun c hc => ?_, fun x hx => ?_⟩, j6, fun x hx => by have := O2 x hx; omega, j1, j3, fun c hc => ((j5 c hc).2.2 (by omega)).2, j7⟩
  · rw [j1] at hc
    rw [j2, (j5 c hc).1]
    exact ⟨(C.1 c hc).1, ((j5 c hc).2.2 (by omega)).1⟩
  · have : lentN p.1 x ≤ lentN S x := by
      refine cn_mono (fun c h => ?_) 30
      simp only [ofB, decide_eq_true_eq] at h ⊢
      obtain ⟨b1, b2, b3⟩ := h
      rw [j1] at b1
      have e := ((j5 c b1).2.2 (by omega)).2.lent (C.1 c b1).2 b2
      rw [e] at b2 b3
      exact ⟨b1, b2, b3⟩
    have h2 := C.2 x hx
    rw [j4]
    omega
/-- after d days -/
def PassJ (t : Nat) (S : St) (d : Nat) (p : St × Nat) : Prop :=
  Dt (t + 1) p.1 ∧ Cs 0 p.1 ∧ (∀ c, c < nCp S → Ri p.1 c ∧ Fr p.1 c) ∧ Ow (200000 * (t : Int) + 7200 * d) p.1 ∧ nCp p.1 = nCp S ∧ tdy p.1 = tdy S + nI d ∧ (∀ c, c < nCp S → Tr (tdy S + nI d) S p.1 c) ∧ p.2 = cn (lostB S (nI d)) 30
theorem no_lost0 {t : Nat} {S : St} (ht : t < 60) (I : Inv t S) {c : Nat} (hc : c < nCp S) : ¬ lostP (cpPl (cps S c)) (cpDy (cps S c)) (tdy S) := by
  intro h
  have hp := lost_pl h
  have htb := td_b I.1 (by omega)
  obtain ⟨-, ⟨a, -⟩ | ⟨-, -, a3, a4, -⟩ | ⟨a, -⟩ | ⟨a, -⟩⟩ := (I.2.1.1 c hc).2
  · rw [hp] at a; cases a
  · rw [hp, lost_iff a3 htb.1] at h; omega
  · rw [hp] at a; cases a
  · rw [hp] at a; cases a
theorem pass_inv {t : Nat} {S : St} (ht : t < 60) (I : Inv t S) : ∀ d, d ≤ 20 → PassJ t S d (passS d S) := by
  have htb := td_b I.1 (by omega)
  have e0 : tdy S + nI 0 = tdy S := by rw [nI_0]; exact Int32.add_zero _
  have h20 := I.1.2.2.2.2.1.2
  intro d
  induction d with
  | zero =>
    intro _
    show PassJ t S 0 (S, 0)
    refine ⟨dt_up I.1, I.2.1, I.2.2, fun x hx => ?_, rfl, e0.symm, fun c hc => ?_, ?_⟩
    · have := (ow_b I.1 hx).2
      show (rdOw (rds S x)).toInt ≤ 200000 * (t : Int) + 7200 * ((0 : Nat) : Int)
      omega
    · rw [e0]
      exact ⟨fun _ => ⟨fun z => absurd z (no_lost0 ht I hc), fun _ => rfl⟩, fun z => z, fun z => z⟩
    · show 0 = cn (lostB S (nI 0)) 30
      rw [cn_zero (fun c => ?_)]
      cases hl : lostB S (nI 0) c with
      | false => rfl
      | true =>
        simp only [lostB, decide_eq_true_eq] at hl
        rw [e0] at hl
        exact absurd hl.2 (no_lost0 ht I hl.1)
  | succ d ih =>
    intro hd
    obtain ⟨D, C, F, O, j1, j2, j3, j4⟩ := ih (by omega)
    show PassJ t S (d + 1) ((dayS (passS d S).1).1, (passS d S).2 + (dayS (passS d S).1).2)
    generalize passS d S = p at *
    have etd : (tdy p.1).toInt = (tdy S).toInt + d := by rw [j2, i6 htb.1 (by omega) (by omega)]
    have ed1 : (tdy S + nI (d + 1)).toInt = (tdy S).toInt + (d + 1) := by rw [i6 htb.1 (by omega) (by omega)]; omega
    have ed : tdy p.1 + 1 = tdy S + nI (d + 1) := by
      apply Int32.toInt_inj.mp
      rw [ed1]
      have := i6 (x := tdy p.1) (by omega) (by omega) (k := 1) (by omega)
      have e1 : tdy p.1 + nI 1 = tdy p.1 + 1 := rfl
      rw [e1] at this
      omega
    obtain ⟨D2, C2, F2, O2, k1, k2, k3, k4⟩ := day_inv ht D C (fun c hc => F c (by rw [← j1]; exact hc)) O (by omega) (by omega)
    rw [ed] at k2 k3
    -- a copy lost by d is lost by d + 1
    have up : ∀ c, c < nCp S → lostP (cpPl (cps S c)) (cpDy (cps S c)) (tdy S + nI d) → lostP (cpPl (cps S c)) (cpDy (cps S c)) (tdy S + nI (d + 1)) := by
      intro c hc h
      have hp := lost_pl h
      obtain ⟨-, ⟨a, -⟩ | ⟨-, -, a3, a4, -⟩ | ⟨a, -⟩ | ⟨a, -⟩⟩ := (I.2.1.1 c hc).2
      · rw [hp] at a; cases a
      · rw [hp, lost_iff a3 (by rw [← j2]; omega)] at h
        rw [hp, lost_iff a3 (by omega)]
        rw [← j2] at h
        omega
      · rw [hp] at a; cases a
      · rw [hp] at a; cases a
    have l1 : ∀ c, lostB p.1 1 c = true ↔ c < nCp S ∧ lostP (cpPl (cps p.1 c)) (cpDy (cps p.1 c)) (tdy S + nI (d + 1)) := by
      intro c
      simp only [lostB, decide_eq_true_eq]
      rw [j1, ed]
    have l2 : ∀ k c, lostB S (nI k) c = true ↔ c < nCp S ∧ lostP (cpPl (cps S c)) (cpDy (cps S c)) (tdy S + nI k) := by
      intro k c
      simp only [lostB, decide_eq_true_eq]
    have cases4 : ∀ c, c < nCp S → lostB p.1 1 c = true → lostB S (nI d) c = false ∧ lostB S (nI (d + 1)) c = true := by
      intro c hc h
      have h1 := ((l1 c).mp h).2
      have hp := lost_pl h1
      have e := (j3 c hc).lent (I.2.1.1 c hc).2 hp
      rw [e] at h1 hp
      refine ⟨?_, (l2 _ _).mpr ⟨hc, h1⟩⟩
      cases hl : lostB S (nI d) c with
      | false => rfl
      | true =>
        have := ((j3 c hc).1 hp).1 ((l2 _ _).mp hl).2
        rw [e, hp] at this
        cases this
    generalize dayS p.1 = r at *
    refine ⟨D2, C2, fun c hc => F2 c (by rw [j1]; exact hc), fun x hx => by have := O2 x hx; show (rdOw (rds r.1 x)).toInt ≤ 200000 * (t : Int) + 7200 * ((d + 1 : Nat) : Int); omega, k1.trans j1, k2, fun c hc => ?_, ?_⟩
    · have g1 := j3 c hc
      have g2 := k3 c (by rw [j1]; exact hc)
      refine ⟨fun hp => ?_, fun hp => g2.2.1 (g1.2.1 hp), fun hp => g2.2.2 (g1.2.2 hp)⟩
      by_cases hl : lostP (cpPl (cps S c)) (cpDy (cps S c)) (tdy S + nI d)
      · have h3 := (g1.1 hp).1 hl
        exact ⟨fun _ => g2.2.1 h3, fun z => absurd (up c hc hl) z⟩
      · have e := (g1.1 hp).2 hl
        have g3 := g2.1 (by rw [e]; exact hp)
        rw [e] at g3
        exact g3
    · show p.2 + r.2 = cn (lostB S (nI (d + 1))) 30
      rw [j4, k4]
      refine cn_add (fun c => ?_) 30
      cases h1 : lostB p.1 1 c with
      | true =>
        have hc := ((l1 c).mp h1).1
        obtain ⟨h2, h3⟩ := cases4 c hc h1
        rw [h2, h3]; rfl
      | false =>
        cases h2 : lostB S (nI d) c with
        | true =>
          obtain ⟨hc, h3⟩ := (l2 _ _).mp h2
          rw [(l2 _ _).mpr ⟨hc, up c hc h3⟩]; rfl
        | false =>
          cases h3 : lostB S (nI (d + 1)) c with
          | false => rfl
          | true =>
            exfalso
            obtain ⟨hc, h4⟩ := (l2 _ _).mp h3
            have hp := lost_pl h4
            have hnl : ¬ lostP (cpPl (cps S c)) (cpDy (cps S c)) (tdy S + nI d) := fun z => by
              rw [(l2 _ _).mpr ⟨hc, z⟩] at h2; cases h2
            have e := ((j3 c hc).1 hp).2 hnl
            have : lostB p.1 1 c = true := (l1 c).mpr ⟨hc, by rw [e]; exact h4⟩
            rw [this] at h1
            cases h1
theorem aH_pass {S : St} : ∀ d, aH (passS d S).1 = aH S ∧ nRc (passS d S).1 = nRc S ∧ nRd (passS d S).1 = nRd S := by
  intro d
  induction d with
  | zero => exact ⟨rfl, rfl, rfl⟩
  | succ d ih =>
    have e : passS (d + 1) S = ((dayS (passS d S).1).1, (passS d S).2 + (dayS (passS d S).1).2) := rfl
    rw [e]
    have h := dayS_same (S := (passS d S).1)
    generalize dayS (passS d S).1 = q at *
    generalize passS d S = p at *
    obtain ⟨h1, h2, h3⟩ := h
    have e1 : aH q.1 = aH p.1 := congrArg (fun z => z.1.1) h1
    have e2 : nRc q.1 = nRc p.1 := congrArg (fun z => z.2.1) h2
    have e3 : nRd q.1 = nRd p.1 := congrArg (fun z => z.2.2.2.1) h2
    exact ⟨e1.trans ih.1, e2.trans ih.2.1, e3.trans ih.2.2⟩
theorem ao_pass {t : Nat} {S : St} (ht : t < 60) (I : Inv t S) : AoPass (Inv (t + 1)) S := by
  intro d h1 h2
  have htb := td_b I.1 (by omega)
  obtain ⟨D, C, F, O, j1, j2, j3, j4⟩ := pass_inv ht I d h2
  obtain ⟨z1, z2, z3⟩ := aH_pass (S := S) d
  generalize passS d S = p at *
  refine ⟨⟨⟨D, C, fun c hc => F c (by rw [← j1]; exact hc)⟩, D.w, z1, ?_, by rw [j1]; exact Nat.le_refl _, by rw [z2]; exact Nat.le_refl _, z3⟩, j4, ?_⟩
  · rw [Int32.lt_iff_toInt_lt, j2, i6 htb.1 (by omega) (by omega)]
    omega
  · show nI (cn (atB p.1 3) 30) = nI (cn (atB S 3) 30) + nI (cn (lostB S (nI d)) 30)
    rw [nI_add]
    congr 1
    symm
    refine cn_add (fun c => ?_) 30
    by_cases hc : c < nCp S
    · have g := j3 c hc
      have e1 : atB S 3 c = decide (cpPl (cps S c) = 3) := by simp [atB, hc]
      have e2 : atB p.1 3 c = decide (cpPl (cps p.1 c) = 3) := by simp [atB, hc, j1]
      have e3 : lostB S (nI d) c = decide (lostP (cpPl (cps S c)) (cpDy (cps S c)) (tdy S + nI d)) := by simp [lostB, hc]
      rw [e1, e2, e3]
      obtain ⟨-, ⟨a, -⟩ | ⟨a, -⟩ | ⟨a, -⟩ | ⟨a, -⟩⟩ := (I.2.1.1 c hc).2
      · have hn : ¬ lostP (cpPl (cps S c)) (cpDy (cps S c)) (tdy S + nI d) := fun z => by have := lost_pl z; rw [a] at this; cases this
        have h3 : ¬ cpPl (cps p.1 c) = 3 := by rcases g.2.2 (Or.inl a) with z | z <;> rw [z] <;> decide
        rw [decide_eq_false hn, decide_eq_false h3, a]; rfl
      · by_cases hl : lostP (cpPl (cps S c)) (cpDy (cps S c)) (tdy S + nI d)
        · rw [decide_eq_true hl, decide_eq_true ((g.1 a).1 hl), a]; rfl
        · rw [decide_eq_false hl, (g.1 a).2 hl, a]; rfl
      · have hn : ¬ lostP (cpPl (cps S c)) (cpDy (cps S c)) (tdy S + nI d) := fun z => by have := lost_pl z; rw [a] at this; cases this
        have h3 : ¬ cpPl (cps p.1 c) = 3 := by rcases g.2.2 (Or.inr a) with z | z <;> rw [z] <;> decide
        rw [decide_eq_false hn, decide_eq_false h3, a]; rfl
      · have hn : ¬ lostP (cpPl (cps S c)) (cpDy (cps S c)) (tdy S + nI d) := fun z => by have := lost_pl z; rw [a] at this; cases this
        rw [decide_eq_false hn, decide_eq_true (g.2.1 a), decide_eq_true a]; rfl
    · have e1 : atB S 3 c = false := by simp [atB, hc]
      have e2 : atB p.1 3 c = false := by simp [atB, hc, j1]
      have e3 : lostB S (nI d) c = false := by simp [lostB, hc]
      rw [e1, e2, e3]; rfl
